set_option maxRecDepth 20000 in
theorem zX2_isLetter {ρ : Nat → Nat} {c : Cm} {F : Nat} (hF : 700000 ≤ F) {h : Hp} {x0 : Int32} (T : TH ρ c h) (i_x0 : Rg (-1) (255) (x0)) : Sat (sX2_isLetter h x0) (ZI0 h (0) (1)) := by
  unfold sX2_isLetter sX2_isLetter_16 sX2_isLetter_17
  refine s_br (fun c_1 => ?_) (fun c_1 => ?_)
  · have _ := c_1
    have i_f_2 : Rg (-1) (96) (x0) := rg_lt1 c_1 i_x0 (rg_b rfl : Rg (97) (97) ((97 : Int32)))
    refine s_gd (rg_bool (rg_m (rg_b rfl : Rg (0) (0) ((0 : Int32))) (by decide))) ?_
    exact s_some ⟨rfl, (rg_m (rg_b rfl : Rg (0) (0) ((0 : Int32))) (by decide))⟩
  · have _ := c_1
    have i_f_3 : Rg (97) (255) (x0) := rg_le2 (nlt_le c_1) (rg_b rfl : Rg (97) (97) ((97 : Int32))) i_x0
    refine s_br (fun c_4 => ?_) (fun c_4 => ?_)
    · have _ := c_4
      have i_f_5 : Rg (123) (255) (x0) := rg_lt2 c_4 (rg_b rfl : Rg (122) (122) ((122 : Int32))) i_f_3
      refine s_gd (rg_bool (rg_m (rg_b rfl : Rg (0) (0) ((0 : Int32))) (by decide))) ?_
      exact s_some ⟨rfl, (rg_m (rg_b rfl : Rg (0) (0) ((0 : Int32))) (by decide))⟩
    · have _ := c_4
      have i_f_6 : Rg (97) (122) (x0) := rg_le1 (nlt_le c_4) i_f_3 (rg_b rfl : Rg (122) (122) ((122 : Int32)))
      refine s_gd (rg_bool (rg_m (rg_b rfl : Rg (1) (1) ((1 : Int32))) (by decide))) ?_
      exact s_some ⟨rfl, (rg_m (rg_b rfl : Rg (1) (1) ((1 : Int32))) (by decide))⟩
set_option maxRecDepth 20000 in
theorem zX2_isWord_28 {ρ : Nat → Nat} {c : Cm} {h0 : Hp} {F : Nat} (hF : 700000 ≤ F) (m1 : c.2.1 1 = true) : ∀ (f : Nat) {h : Hp} {x0 : Nat} {x1 : Nat} {x2 : Int32}, h = h0 → TH ρ c h → ρ x0 = 3 → Rg (0) (231) (x2) → (231 - x2.toInt).toNat < f → Sat (sX2_isWord_28 F f h x0 x1 x2) (ZI0 h0 (0) (1)) := by
  intro f
  induction f with
  | zero => intros; omega
  | succ f ih =>
    intro h x0 x1 x2 E T r_x0 i_x2 hm
    rw [sX2_isWord_28]
    obtain ⟨C_28, hC_28⟩ : ∃ C : Int, C = x2.toInt := ⟨_, rfl⟩
    have hk_28 : ∀ {h : Hp} {x0 : Nat} {x1 : Nat} {x2 : Int32}, h = h0 → TH ρ c h → ρ x0 = 3 → Rg (0) (231) (x2) → C_28 < x2.toInt → Sat (sX2_isWord_28 F f h x0 x1 x2) (ZI0 h0 (0) (1)) := by
      intro h' x0' x1' x2' E' T' r_x0' i_x2' hl
      exact ih E' T' r_x0' i_x2' (by have := i_x2'.1; have := i_x2'.2; omega)
    have hc_28 : C_28 ≤ x2.toInt := by omega
    refine s_br (fun c_1 => ?_) (fun c_1 => ?_)
    · have _ := c_1
      exact s_some ⟨E, (rg_m (rg_b rfl : Rg (1) (1) ((1 : Int32))) (by decide))⟩
    · have _ := c_1
      have i_f_2 : Rg (0) (230) (x2) := rg_lt1 (nle_lt c_1) i_x2 (rg_lB _ : Rg (0) (231) ((nI (lB x1).length)))
      have i_f_3 : Rg (1) (231) ((nI (lB x1).length)) := rg_lt2 (nle_lt c_1) i_x2 (rg_lB _ : Rg (0) (231) ((nI (lB x1).length)))
      obtain ⟨r_2, e_r_2, q_r_2⟩ := thM T r_x0 (k := 3) (i := 0) (j := 1) (k2 := 10) rfl (by decide) rfl (by decide) m1
      refine s_ref e_r_2 ?_
      refine s_dP0 (zX9_byteAt hF T q_r_2 (rg_m (rg_add (thI T r_x0 (k := 3) (i := 2) rfl : Rg (0) (1201) ((hI h x0 2))) i_f_2 (by decide) : Rg (0) (1431) (((hI h x0 2) + x2))) (by decide))) (fun o_3 eb_o_3 e_o_3 i_o_3 p_o_3 => ?_)
      have T_4 := th_eq e_o_3 T
      refine s_gd (rg_inBl i_f_2 (by decide) (lB_lt2 _) c_1) ?_
      refine s_br (fun c_5 => ?_) (fun c_5 => ?_)
      · have _ := c_5
        have i_f_6 : Rg (0) (255) (o_3.1) := rg_eq c_5 (rg_schr _ _ : Rg (0) (255) ((schr x1 x2)))
        have p_f_7 := p_o_3 (fun q => rc_eq q i_f_6 (rg_b rfl : Rg (-1) (-1) (-1 : Int32)) (by decide))
        refine s_q (fun v_6 e_8 => ?_)
        have i_v_6 : Rg (1) (231) (v_6) := by rw [e_8]; exact (rg_add i_f_2 (rg_b rfl : Rg (1) (1) ((1 : Int32))) (by decide) : Rg (1) (231) (x2 + (1 : Int32)))
        have m_9 : (v_6).toInt = x2.toInt + 1 := by rw [e_8]; exact rg_inc i_f_2 (by decide)
        exact hk_28 (e_o_3.trans E) T_4 r_x0 (rg_m i_v_6 (by decide)) (by have := hc_28; omega)
      · have _ := c_5
        exact s_some ⟨(e_o_3.trans E), (rg_m (rg_b rfl : Rg (0) (0) ((0 : Int32))) (by decide))⟩
set_option maxRecDepth 20000 in
theorem zX2_isWord {ρ : Nat → Nat} {c : Cm} {F : Nat} (hF : 700000 ≤ F) (m1 : c.2.1 1 = true) {h : Hp} {x0 : Nat} {x1 : Nat} (T : TH ρ c h) (r_x0 : ρ x0 = 3) : Sat (sX2_isWord F h x0 x1) (ZI0 h (0) (1)) := by
  unfold sX2_isWord sX2_isWord_24
  refine s_br (fun c_1 => ?_) (fun c_1 => ?_)
  · have _ := c_1
    have i_f_2 : Rg (1) (1) ((hI h x0 4)) := rg_eq c_1 (rg_b rfl : Rg (1) (1) ((1 : Int32)))
    refine s_br (fun c_3 => ?_) (fun c_3 => ?_)
    · have _ := c_3
      have i_f_4 : Rg (0) (231) (((hI h x0 3) - (hI h x0 2))) := rg_eq c_3 (rg_lB _ : Rg (0) (231) ((nI (lB x1).length)))
      have m_5 : Rg (0) (231) ((0 : Int32)) := (rg_m (rg_b rfl : Rg (0) (0) ((0 : Int32))) (by decide))
      exact zX2_isWord_28 hF m1 F rfl T r_x0 (rg_m (rg_b rfl : Rg (0) (0) ((0 : Int32))) (by decide)) (by have := m_5.1; have := m_5.2; omega)
    · have _ := c_3
      exact s_some ⟨rfl, (rg_m (rg_b rfl : Rg (0) (0) ((0 : Int32))) (by decide))⟩
  · have _ := c_1
    exact s_some ⟨rfl, (rg_m (rg_b rfl : Rg (0) (0) ((0 : Int32))) (by decide))⟩
set_option maxRecDepth 20000 in
theorem zX2_oneLetter {ρ : Nat → Nat} {c : Cm} {F : Nat} (hF : 700000 ≤ F) (m1 : c.2.1 1 = true) {h : Hp} {x0 : Nat} (T : TH ρ c h) (r_x0 : ρ x0 = 3) : Sat (sX2_oneLetter h x0) (ZI0 h (-1) (255)) := by
  unfold sX2_oneLetter sX2_oneLetter_36 sX2_oneLetter_35
  refine s_br (fun c_1 => ?_) (fun c_1 => ?_)
  · have _ := c_1
    have i_f_2 : Rg (1) (1) ((hI h x0 4)) := rg_eq c_1 (rg_b rfl : Rg (1) (1) ((1 : Int32)))
    refine s_br (fun c_3 => ?_) (fun c_3 => ?_)
    · have _ := c_3
      have i_f_4 : Rg (1) (1) (((hI h x0 3) - (hI h x0 2))) := rg_eq c_3 (rg_b rfl : Rg (1) (1) ((1 : Int32)))
      obtain ⟨r_3, e_r_3, q_r_3⟩ := thM T r_x0 (k := 3) (i := 0) (j := 1) (k2 := 10) rfl (by decide) rfl (by decide) m1
      refine s_ref e_r_3 ?_
      refine s_dP0 (zX9_byteAt hF T q_r_3 (rg_m (thI T r_x0 (k := 3) (i := 2) rfl : Rg (0) (1201) ((hI h x0 2))) (by decide))) (fun o_4 eb_o_4 e_o_4 i_o_4 p_o_4 => ?_)
      have T_5 := th_eq e_o_4 T
      exact s_some ⟨(e_o_4.trans rfl), i_o_4⟩
    · have _ := c_3
      exact s_some ⟨rfl, (rg_m (rg_b rfl : Rg (-1) (-1) ((- 1 : Int32))) (by decide))⟩
  · have _ := c_1
    exact s_some ⟨rfl, (rg_m (rg_b rfl : Rg (-1) (-1) ((- 1 : Int32))) (by decide))⟩
set_option maxRecDepth 20000 in
theorem zX2_toldMan {ρ : Nat → Nat} {c : Cm} {F : Nat} (hF : 700000 ≤ F) (m1 : c.2.1 1 = true) (m2 : c.2.1 2 = true) {h : Hp} {x0 : Nat} (T : TH ρ c h) (r_x0 : ρ x0 = 3) : Sat (sX2_toldMan F h x0) (ZI0 h (-1) (11)) := by
  unfold sX2_toldMan sX2_toldMan_22
  refine s_dI0 (zX2_oneLetter hF m1 T r_x0) (fun o_1 eb_o_1 e_o_1 i_o_1 => ?_)
  have T_1 := th_eq e_o_1 T
  refine s_br (fun c_2 => ?_) (fun c_2 => ?_)
  · have _ := c_2
    have i_f_3 : Rg (-1) (-1) (o_1.1) := rg_eq c_2 (rg_b rfl : Rg (-1) (-1) ((- 1 : Int32)))
    exact s_some ⟨(e_o_1.trans rfl), (rg_m (rg_b rfl : Rg (-1) (-1) ((- 1 : Int32))) (by decide))⟩
  · have _ := c_2
    have i_f_4 : Rg (0) (255) (o_1.1) := rg_nlo c_2 i_o_1 (rg_b rfl : Rg (-1) (-1) ((- 1 : Int32)))
    obtain ⟨r_3, e_r_3, q_r_3⟩ := thM T_1 r_x0 (k := 3) (i := 1) (j := 2) (k2 := 2) rfl (by decide) rfl (by decide) m2
    refine s_ref e_r_3 ?_
    refine s_dP0 (zX1_manOf hF T_1 q_r_3 (rg_m i_f_4 (by decide))) (fun o_4 eb_o_4 e_o_4 i_o_4 p_o_4 => ?_)
    have T_5 := th_eq e_o_4 T_1
    exact s_some ⟨(e_o_4.trans (e_o_1.trans rfl)), i_o_4⟩
set_option maxRecDepth 20000 in
theorem zX2_takeBecomes_178 {ρ : Nat → Nat} {c : Cm} {F : Nat} (hF : 700000 ≤ F) (m2 : c.2.1 2 = true) (hA : pmA c [(2, 5), (2, 12)]) {h : Hp} {x0 : Nat} {x1 : Int32} {x2 : Int32} (T : TH ρ c h) (r_x0 : ρ x0 = 3) (i_x1 : Rg (0) (11) (x1)) (i_x2 : Rg (0) (4095) (x2)) : Sat (sX2_takeBecomes_178 F h x0 x1 x2) (ZI ρ c (0) (1)) := by
  unfold sX2_takeBecomes_178 sX2_takeBecomes_217
  obtain ⟨r_1, e_r_1, q_r_1⟩ := thM T r_x0 (k := 3) (i := 1) (j := 2) (k2 := 2) rfl (by decide) rfl (by decide) m2
  refine s_ref e_r_1 ?_
  refine s_hq (th_wI T q_r_1 (k := 2) (lo := (0)) (hi := (4095)) rfl ((rg_or (n := 12) (rg_m (thI T q_r_1 (k := 2) (i := 12) rfl : Rg (0) (4095) ((hI h r_1 12))) (by decide) : Rg (0) (4095) ((hI h r_1 12))) (rg_m i_x2 (by decide) : Rg (0) (4095) (x2)) (by decide) : Rg (0) (4095) (((hI h r_1 12) ||| x2))) : Rg (0) (4095) (((hI h r_1 12) ||| x2))) (by decide) (by decide) (pm_a hA rfl)) (fun h_2 T_1 w_2 => ?_)
  refine s_ref (hr_w w_2 e_r_1) ?_
  refine s_ref (hr_w w_2 e_r_1) ?_
  refine s_br (fun c_3 => ?_) (fun c_3 => ?_)
  · have _ := c_3
    have i_f_4 : Rg (-1) (-1) ((hI h_2 r_1 5)) := rg_eq c_3 (rg_b rfl : Rg (-1) (-1) ((- 1 : Int32)))
    refine s_hq (th_wI T_1 q_r_1 (k := 2) (lo := (-1)) (hi := (11)) rfl ((rg_m i_x1 (by decide)) : Rg (-1) (11) (x1)) (by decide) (by decide) (pm_a hA rfl)) (fun h_1q1 T_5 w_6 => ?_)
    exact s_some ⟨(T_5), (rg_m (rg_b rfl : Rg (1) (1) ((1 : Int32))) (by decide))⟩
  · have _ := c_3
    have i_f_7 : Rg (0) (11) ((hI h_2 r_1 5)) := rg_nlo c_3 (thI T_1 q_r_1 (k := 2) (i := 5) rfl : Rg (-1) (11) ((hI h_2 r_1 5))) (rg_b rfl : Rg (-1) (-1) ((- 1 : Int32)))
    refine s_ref (hr_w w_2 e_r_1) ?_
    refine s_hq (th_wI T_1 q_r_1 (k := 2) (lo := (-1)) (hi := (11)) rfl ((rg_m i_f_7 (by decide)) : Rg (-1) (11) ((hI h_2 r_1 5))) (by decide) (by decide) (pm_a hA rfl)) (fun h_1q2 T_8 w_9 => ?_)
    exact s_some ⟨(T_8), (rg_m (rg_b rfl : Rg (1) (1) ((1 : Int32))) (by decide))⟩
set_option maxRecDepth 20000 in
theorem zX2_takeBecomes_78 {ρ : Nat → Nat} {c : Cm} {F : Nat} (hF : 700000 ≤ F) (m1 : c.2.1 1 = true) (m2 : c.2.1 2 = true) {k_60 : Hp → Nat → Int32 → Int32 → Int32 → Option (Int32 × Hp)} {C_60 : Int} (hk_60 : ∀ {h : Hp} {x0 : Nat} {x1 : Int32} {x2 : Int32} {x3 : Int32}, TH ρ c h → ρ x0 = 3 → Rg (0) (11) (x1) → Rg (0) (4095) (x2) → Rg (0) (6) (x3) → C_60 < x3.toInt → Sat (k_60 h x0 x1 x2 x3) (ZI ρ c (0) (1))) (hA : pmA c [(30, 999), (31, 999), (3, 2), (3, 3), (3, 4), (3, 5)]) {h : Hp} {x0 : Nat} {x1 : Int32} {x2 : Int32} {x3 : Int32} (T : TH ρ c h) (r_x0 : ρ x0 = 3) (i_x1 : Rg (0) (11) (x1)) (i_x2 : Rg (0) (4095) (x2)) (i_x3 : Rg (0) (5) (x3)) (hc_60 : C_60 ≤ x3.toInt) : Sat (sX2_takeBecomes_78 F k_60 h x0 x1 x2 x3) (ZI ρ c (0) (1)) := by
  unfold sX2_takeBecomes_78 sX2_takeBecomes_108 sX2_takeBecomes_131
  refine s_dI0 (zX2_toldMan hF m1 m2 T r_x0) (fun o_1 eb_o_1 e_o_1 i_o_1 => ?_)
  have T_1 := th_eq e_o_1 T
  refine s_br (fun c_2 => ?_) (fun c_2 => ?_)
  · have _ := c_2
    have i_f_3 : Rg (-1) (-1) (o_1.1) := rg_eq c_2 (rg_b rfl : Rg (-1) (-1) ((- 1 : Int32)))
    exact s_some ⟨(T_1), (rg_m (rg_b rfl : Rg (0) (0) ((0 : Int32))) (by decide))⟩
  · have _ := c_2
    have i_f_4 : Rg (0) (11) (o_1.1) := rg_nlo c_2 i_o_1 (rg_b rfl : Rg (-1) (-1) ((- 1 : Int32)))
    refine s_br (fun c_5 => ?_) (fun c_5 => ?_)
    · have _ := c_5
      exact s_some ⟨(T_1), (rg_m (rg_b rfl : Rg (0) (0) ((0 : Int32))) (by decide))⟩
    · have _ := c_5
      obtain ⟨r_4, e_r_4, q_r_4⟩ := thM T_1 r_x0 (k := 3) (i := 1) (j := 2) (k2 := 2) rfl (by decide) rfl (by decide) m2
      refine s_ref e_r_4 ?_
      refine s_br (fun c_6 => ?_) (fun c_6 => ?_)
      · have _ := c_6
        have i_f_7 : Rg (0) (11) ((hI o_1.2 r_4 4)) := rg_eq c_6.symm i_f_4
        exact s_some ⟨(T_1), (rg_m (rg_b rfl : Rg (0) (0) ((0 : Int32))) (by decide))⟩
      · have _ := c_6
        refine s_ref e_r_4 ?_
        refine s_dI0 (zX1_becomesOthers hF T_1 q_r_4 (rg_m i_f_4 (by decide))) (fun o_7 eb_o_7 e_o_7 i_o_7 => ?_)
        have T_8 := th_eq e_o_7 T_1
        refine s_br (fun c_9 => ?_) (fun c_9 => ?_)
        · have _ := c_9
          have i_f_10 : Rg (0) (0) (o_7.1) := rg_eq c_9 (rg_b rfl : Rg (0) (0) (0 : Int32))
          refine s_br (fun c_11 => ?_) (fun c_11 => ?_)
          · have _ := c_11
            have i_f_12 : Rg (0) (0) (((x2 >>> (o_1.1 &&& 31)) &&& (1 : Int32))) := rg_eq c_11 (rg_b rfl : Rg (0) (0) (0 : Int32))
            refine s_q (fun v_10 e_13 => ?_)
            have i_v_10 : Rg (0) (4095) (v_10) := by rw [e_13]; exact (rg_or (n := 12) (rg_m i_x2 (by decide) : Rg (0) (4095) (x2)) (rg_m (rg_shl (n := 11) (rg_m (rg_b rfl : Rg (1) (1) ((1 : Int32))) (by decide) : Rg (0) (1) ((1 : Int32))) (rg_m i_f_4 (by decide) : Rg (0) (11) (o_1.1)) (by decide) : Rg (0) (2048) (((1 : Int32) <<< (o_1.1 &&& 31)))) (by decide) : Rg (0) (2048) (((1 : Int32) <<< (o_1.1 &&& 31)))) (by decide) : Rg (0) (4095) (x2 ||| ((1 : Int32) <<< (o_1.1 &&& 31))))
            refine s_ref (hr_e e_o_7 e_r_4) ?_
            obtain ⟨r_12, e_r_12, q_r_12⟩ := thR T_8 q_r_4 (k := 2) (i := 17) (k2 := 30) rfl (by decide)
            refine s_ref e_r_12 ?_
            refine s_gd (by rw [thN T_8 q_r_12 (k := 30) (n := 72) rfl (by decide)]; exact rg_inB ((rg_add (rg_mulc i_x1 (rg_b rfl : Rg (6) (6) ((6 : Int32))) (by decide) : Rg (0) (66) ((x1 * (6 : Int32)))) i_x3 (by decide) : Rg (0) (71) (((x1 * (6 : Int32)) + x3))) : Rg (0) (71) (((x1 * (6 : Int32)) + x3))) (by decide)) ?_
            refine s_hq (th_wI T_8 q_r_12 (k := 30) (lo := (0)) (hi := (11)) rfl (i_f_4 : Rg (0) (11) (o_1.1)) (by decide) (by decide) (pm_a hA rfl)) (fun h_14 T_14 w_15 => ?_)
            refine s_ref (hr_w w_15 (hr_e e_o_7 e_r_4)) ?_
            obtain ⟨r_16, e_r_16, q_r_16⟩ := thR T_14 q_r_4 (k := 2) (i := 18) (k2 := 31) rfl (by decide)
            refine s_ref e_r_16 ?_
            refine s_gd (by rw [thN T_14 q_r_16 (k := 31) (n := 12) rfl (by decide)]; exact rg_inB (i_x1 : Rg (0) (11) (x1)) (by decide)) ?_
            refine s_hq (th_wI T_14 q_r_16 (k := 31) (lo := (0)) (hi := (6)) rfl ((rg_m (rg_add i_x3 (rg_b rfl : Rg (1) (1) ((1 : Int32))) (by decide) : Rg (1) (6) ((x3 + (1 : Int32)))) (by decide)) : Rg (0) (6) ((x3 + (1 : Int32)))) (by decide) (by decide) (pm_a hA rfl)) (fun h_18 T_16 w_17 => ?_)
            refine s_cV (zX2_advance hF m1 (pmA_s hA rfl) T_16 r_x0) (fun o_19 T_18 => ?_)
            refine s_q (fun v_20 e_19 => ?_)
            have i_v_20 : Rg (1) (6) (v_20) := by rw [e_19]; exact (rg_add i_x3 (rg_b rfl : Rg (1) (1) ((1 : Int32))) (by decide) : Rg (1) (6) (x3 + (1 : Int32)))
            have m_20 : (v_20).toInt = x3.toInt + 1 := by rw [e_19]; exact rg_inc i_x3 (by decide)
            exact hk_60 T_18 r_x0 i_x1 i_v_10 (rg_m i_v_20 (by decide)) (by have := hc_60; omega)
          · have _ := c_11
            have i_f_21 : Rg (1) (1) (((x2 >>> (o_1.1 &&& 31)) &&& (1 : Int32))) := rg_nlo c_11 (rg_and (rg_b rfl : Rg (1) (1) ((1 : Int32))) (by decide) : Rg (0) (1) (((x2 >>> (o_1.1 &&& 31)) &&& (1 : Int32)))) (rg_b rfl : Rg (0) (0) (0 : Int32))
            exact s_some ⟨(T_8), (rg_m (rg_b rfl : Rg (0) (0) ((0 : Int32))) (by decide))⟩
        · have _ := c_9
          have i_f_22 : Rg (1) (1) (o_7.1) := rg_nlo c_9 i_o_7 (rg_b rfl : Rg (0) (0) (0 : Int32))
          exact s_some ⟨(T_8), (rg_m (rg_b rfl : Rg (0) (0) ((0 : Int32))) (by decide))⟩
set_option maxRecDepth 20000 in
theorem zX2_takeBecomes_60 {ρ : Nat → Nat} {c : Cm} {F : Nat} (hF : 700000 ≤ F) (m1 : c.2.1 1 = true) (m2 : c.2.1 2 = true) (hA : pmA c [(30, 999), (31, 999), (2, 5), (2, 12), (3, 2), (3, 3), (3, 4), (3, 5)]) : ∀ (f : Nat) {h : Hp} {x0 : Nat} {x1 : Int32} {x2 : Int32} {x3 : Int32}, TH ρ c h → ρ x0 = 3 → Rg (0) (11) (x1) → Rg (0) (4095) (x2) → Rg (0) (6) (x3) → (6 - x3.toInt).toNat < f → Sat (sX2_takeBecomes_60 F f h x0 x1 x2 x3) (ZI ρ c (0) (1)) := by
  intro f
  induction f with
  | zero => intros; omega
  | succ f ih =>
    intro h x0 x1 x2 x3 T r_x0 i_x1 i_x2 i_x3 hm
    rw [sX2_takeBecomes_60]
    obtain ⟨C_60, hC_60⟩ : ∃ C : Int, C = x3.toInt := ⟨_, rfl⟩
    have hk_60 : ∀ {h : Hp} {x0 : Nat} {x1 : Int32} {x2 : Int32} {x3 : Int32}, TH ρ c h → ρ x0 = 3 → Rg (0) (11) (x1) → Rg (0) (4095) (x2) → Rg (0) (6) (x3) → C_60 < x3.toInt → Sat (sX2_takeBecomes_60 F f h x0 x1 x2 x3) (ZI ρ c (0) (1)) := by
      intro h' x0' x1' x2' x3' T' r_x0' i_x1' i_x2' i_x3' hl
      exact ih T' r_x0' i_x1' i_x2' i_x3' (by have := i_x3'.1; have := i_x3'.2; omega)
    have hc_60 : C_60 ≤ x3.toInt := by omega
    refine s_br (fun c_1 => ?_) (fun c_1 => ?_)
    · have _ := c_1
      have i_f_2 : Rg (6) (6) (x3) := rg_le2 c_1 (rg_b rfl : Rg (6) (6) ((6 : Int32))) i_x3
      exact zX2_takeBecomes_178 hF m2 (pmA_s hA rfl) T r_x0 i_x1 i_x2
    · have _ := c_1
      have i_f_3 : Rg (0) (5) (x3) := rg_lt1 (nle_lt c_1) i_x3 (rg_b rfl : Rg (6) (6) ((6 : Int32)))
      refine s_br (fun c_4 => ?_) (fun c_4 => ?_)
      · have _ := c_4
        have i_f_5 : Rg (0) (0) (x3) := rg_eq c_4 (rg_b rfl : Rg (0) (0) (0 : Int32))
        exact zX2_takeBecomes_78 hF m1 m2 @hk_60 (pmA_s hA rfl) T r_x0 i_x1 i_x2 (rg_m i_f_5 (by decide)) hc_60
      · have _ := c_4
        have i_f_6 : Rg (1) (5) (x3) := rg_nlo c_4 i_f_3 (rg_b rfl : Rg (0) (0) (0 : Int32))
        refine s_br (fun c_7 => ?_) (fun c_7 => ?_)
        · have _ := c_7
          have i_f_8 : Rg (1) (1) ((hI h x0 4)) := rg_eq c_7 (rg_b rfl : Rg (1) (1) ((1 : Int32)))
          exact zX2_takeBecomes_78 hF m1 m2 @hk_60 (pmA_s hA rfl) T r_x0 i_x1 i_x2 (rg_m i_f_6 (by decide)) hc_60
        · have _ := c_7
          exact zX2_takeBecomes_178 hF m2 (pmA_s hA rfl) T r_x0 i_x1 i_x2
set_option maxRecDepth 20000 in
theorem zX2_takeBecomes {ρ : Nat → Nat} {c : Cm} {F : Nat} (hF : 700000 ≤ F) (m1 : c.2.1 1 = true) (m2 : c.2.1 2 = true) (hA : pmA c [(30, 999), (31, 999), (2, 5), (2, 12), (3, 2), (3, 3), (3, 4), (3, 5)]) {h : Hp} {x0 : Nat} (T : TH ρ c h) (r_x0 : ρ x0 = 3) : Sat (sX2_takeBecomes F h x0) (ZI ρ c (0) (1)) := by
  unfold sX2_takeBecomes sX2_takeBecomes_50
  refine s_cV (zX2_advance hF m1 (pmA_s hA rfl) T r_x0) (fun o_1 T_1 => ?_)
  refine s_dI0 (zX2_toldMan hF m1 m2 T_1 r_x0) (fun o_2 eb_o_2 e_o_2 i_o_2 => ?_)
  have T_2 := th_eq e_o_2 T_1
  refine s_br (fun c_3 => ?_) (fun c_3 => ?_)
  · have _ := c_3
    have i_f_4 : Rg (-1) (-1) (o_2.1) := rg_eq c_3 (rg_b rfl : Rg (-1) (-1) ((- 1 : Int32)))
    exact s_some ⟨(T_2), (rg_m (rg_b rfl : Rg (0) (0) ((0 : Int32))) (by decide))⟩
  · have _ := c_3
    have i_f_5 : Rg (0) (11) (o_2.1) := rg_nlo c_3 i_o_2 (rg_b rfl : Rg (-1) (-1) ((- 1 : Int32)))
    obtain ⟨r_4, e_r_4, q_r_4⟩ := thM T_2 r_x0 (k := 3) (i := 1) (j := 2) (k2 := 2) rfl (by decide) rfl (by decide) m2
    refine s_ref e_r_4 ?_
    refine s_br (fun c_6 => ?_) (fun c_6 => ?_)
    · have _ := c_6
      have i_f_7 : Rg (0) (11) ((hI o_2.2 r_4 4)) := rg_eq c_6.symm i_f_5
      exact s_some ⟨(T_2), (rg_m (rg_b rfl : Rg (0) (0) ((0 : Int32))) (by decide))⟩
    · have _ := c_6
      refine s_ref e_r_4 ?_
      refine s_dI0 (zX1_becomesOthers hF T_2 q_r_4 (rg_m i_f_5 (by decide))) (fun o_7 eb_o_7 e_o_7 i_o_7 => ?_)
      have T_8 := th_eq e_o_7 T_2
      refine s_br (fun c_9 => ?_) (fun c_9 => ?_)
      · have _ := c_9
        have i_f_10 : Rg (0) (0) (o_7.1) := rg_eq c_9 (rg_b rfl : Rg (0) (0) (0 : Int32))
        refine s_ref (hr_e e_o_7 e_r_4) ?_
        refine s_br (fun c_11 => ?_) (fun c_11 => ?_)
        · have _ := c_11
          have i_f_12 : Rg (0) (0) ((((hI o_7.2 r_4 12) >>> (o_2.1 &&& 31)) &&& (1 : Int32))) := rg_eq c_11 (rg_b rfl : Rg (0) (0) (0 : Int32))
          refine s_cV (zX2_advance hF m1 (pmA_s hA rfl) T_8 r_x0) (fun o_11 T_13 => ?_)
          have m_14 : Rg (0) (6) ((0 : Int32)) := (rg_m (rg_b rfl : Rg (0) (0) ((0 : Int32))) (by decide))
          exact zX2_takeBecomes_60 hF m1 m2 (pmA_s hA rfl) F T_13 r_x0 i_f_5 (rg_m (rg_b rfl : Rg (0) (0) ((0 : Int32))) (by decide)) (rg_m (rg_b rfl : Rg (0) (0) ((0 : Int32))) (by decide)) (by have := m_14.1; have := m_14.2; omega)
        · have _ := c_11
          have i_f_15 : Rg (1) (1) ((((hI o_7.2 r_4 12) >>> (o_2.1 &&& 31)) &&& (1 : Int32))) := rg_nlo c_11 (rg_and (rg_b rfl : Rg (1) (1) ((1 : Int32))) (by decide) : Rg (0) (1) ((((hI o_7.2 r_4 12) >>> (o_2.1 &&& 31)) &&& (1 : Int32)))) (rg_b rfl : Rg (0) (0) (0 : Int32))
          exact s_some ⟨(T_8), (rg_m (rg_b rfl : Rg (0) (0) ((0 : Int32))) (by decide))⟩
      · have _ := c_9
        have i_f_16 : Rg (1) (1) (o_7.1) := rg_nlo c_9 i_o_7 (rg_b rfl : Rg (0) (0) (0 : Int32))
        exact s_some ⟨(T_8), (rg_m (rg_b rfl : Rg (0) (0) ((0 : Int32))) (by decide))⟩

set_option maxRecDepth 20000 in
theorem zX2_takeEnd {ρ : Nat → Nat} {c : Cm} {F : Nat} (hF : 700000 ≤ F) (m1 : c.2.1 1 = true) (hA : pmA c [(3, 2), (3, 3), (3, 4), (3, 5)]) {h : Hp} {x0 : Nat} (T : TH ρ c h) (r_x0 : ρ x0 = 3) : Sat (sX2_takeEnd F h x0) (ZI ρ c (0) (1)) := by
  unfold sX2_takeEnd 
  refine s_br (fun c_1 => ?_) (fun c_1 => ?_)
  · have _ := c_1
    have i_f_2 : Rg (3) (3) ((hI h x0 4)) := rg_eq c_1 (rg_b rfl : Rg (3) (3) ((3 : Int32)))
    refine s_cV (zX2_advance hF m1 (pmA_s hA rfl) T r_x0) (fun o_2 T_3 => ?_)
    exact s_some ⟨(T_3), (rg_m (rg_b rfl : Rg (1) (1) ((1 : Int32))) (by decide))⟩
  · have _ := c_1
    exact s_some ⟨(T), (rg_m (rg_b rfl : Rg (0) (0) ((0 : Int32))) (by decide))⟩
set_option maxRecDepth 20000 in
theorem zX2_takeBoard {ρ : Nat → Nat} {c : Cm} {F : Nat} (hF : 700000 ≤ F) (m1 : c.2.1 1 = true) (m2 : c.2.1 2 = true) (hA : pmA c [(32, 999), (33, 999), (2, 0), (2, 1), (2, 2), (3, 2), (3, 3), (3, 4), (3, 5)]) {h : Hp} {x0 : Nat} (T : TH ρ c h) (r_x0 : ρ x0 = 3) (ga : (GeoA ρ h)) : Sat (sX2_takeBoard F h x0) (ZQ (ZI ρ c (0) (1)) (fun o => GeoA ρ o.2)) := by
  unfold sX2_takeBoard 
  refine s_dI0 (zX2_isWord hF m1 T r_x0) (fun o_1 eb_o_1 e_o_1 i_o_1 => ?_)
  have T_1 := th_eq e_o_1 T
  refine s_br (fun c_2 => ?_) (fun c_2 => ?_)
  · have _ := c_2
    have i_f_3 : Rg (0) (0) (o_1.1) := rg_eq c_2 (rg_b rfl : Rg (0) (0) (0 : Int32))
    have pf_4 : GeoA ρ o_1.2 := (by rw [e_o_1]; exact ga)
    exact s_some ⟨⟨(T_1), (rg_m (rg_b rfl : Rg (0) (0) ((0 : Int32))) (by decide))⟩, pf_4⟩
  · have _ := c_2
    have i_f_5 : Rg (1) (1) (o_1.1) := rg_nlo c_2 i_o_1 (rg_b rfl : Rg (0) (0) (0 : Int32))
    refine s_cVf (S := fS [(3, 2), (3, 3), (3, 4), (3, 5)] []) T_1 (fs_sub (pmA_s hA rfl) fs_n) (zX2_advance hF (cat_m m1) fs_a (th_in _ T_1) r_x0) (fun o_3 T_6 f_o_3 => ?_)
    refine s_dP0 (zX2_isNumber hF ((rg_b rfl : Rg (3) (3) ((3 : Int32))) : Rg (3) (3) ((3 : Int32))) ((rg_b rfl : Rg (8) (8) ((8 : Int32))) : Rg (8) (8) ((8 : Int32)))) (fun o_4 eb_o_4 e_o_4 i_o_4 p_o_4 => ?_)
    have T_7 := th_eq e_o_4 T_6
    refine s_br (fun c_8 => ?_) (fun c_8 => ?_)
    · have _ := c_8
      have i_f_9 : Rg (0) (0) (o_4.1) := rg_eq c_8 (rg_b rfl : Rg (0) (0) (0 : Int32))
      have pf_10 : GeoA ρ o_4.2 := (by rw [e_o_4]; exact (ga_fr T_1  f_o_3 (fun _ => rfl) (fun _ => rfl) (fun _ => rfl) (fun _ => rfl) (fun _ _ => rfl) (by rw [e_o_1]; exact ga)))
      exact s_some ⟨⟨(T_7), (rg_m (rg_b rfl : Rg (0) (0) ((0 : Int32))) (by decide))⟩, pf_10⟩
    · have _ := c_8
      have i_f_11 : Rg (1) (1) (o_4.1) := rg_nlo c_8 i_o_4 (rg_b rfl : Rg (0) (0) (0 : Int32))
      have p_f_12 := p_o_4 c_8
      refine s_q (fun v_6 e_13 => ?_)
      have i_v_6 : Rg (3) (8) (v_6) := by rw [e_13]; exact ((rg_he e_o_4 p_f_12) : Rg (3) (8) (hI o_4.2 x0 5))
      refine s_cVf (S := fS [(3, 2), (3, 3), (3, 4), (3, 5)] []) T_7 (fs_sub (pmA_s hA rfl) fs_n) (zX2_advance hF (cat_m m1) fs_a (th_in _ T_7) r_x0) (fun o_7 T_14 f_o_7 => ?_)
      refine s_dP0 (zX2_isNumber hF ((rg_b rfl : Rg (3) (3) ((3 : Int32))) : Rg (3) (3) ((3 : Int32))) ((rg_b rfl : Rg (8) (8) ((8 : Int32))) : Rg (8) (8) ((8 : Int32)))) (fun o_8 eb_o_8 e_o_8 i_o_8 p_o_8 => ?_)
      have T_15 := th_eq e_o_8 T_14
      refine s_br (fun c_16 => ?_) (fun c_16 => ?_)
      · have _ := c_16
        have i_f_17 : Rg (0) (0) (o_8.1) := rg_eq c_16 (rg_b rfl : Rg (0) (0) (0 : Int32))
        have pf_18 : GeoA ρ o_8.2 := (by rw [e_o_8]; exact (ga_fr T_7  f_o_7 (fun _ => rfl) (fun _ => rfl) (fun _ => rfl) (fun _ => rfl) (fun _ _ => rfl) (by rw [e_o_4]; exact (ga_fr T_1  f_o_3 (fun _ => rfl) (fun _ => rfl) (fun _ => rfl) (fun _ => rfl) (fun _ _ => rfl) (by rw [e_o_1]; exact ga)))))
        exact s_some ⟨⟨(T_15), (rg_m (rg_b rfl : Rg (0) (0) ((0 : Int32))) (by decide))⟩, pf_18⟩
      · have _ := c_16
        have i_f_19 : Rg (1) (1) (o_8.1) := rg_nlo c_16 i_o_8 (rg_b rfl : Rg (0) (0) (0 : Int32))
        have p_f_20 := p_o_8 c_16
        obtain ⟨r_10, e_r_10, q_r_10⟩ := thM T_15 r_x0 (k := 3) (i := 1) (j := 2) (k2 := 2) rfl (by decide) rfl (by decide) m2
        refine s_ref e_r_10 ?_
        have pf_21 : GeoA ρ o_8.2 := (by rw [e_o_8]; exact (ga_fr T_7  f_o_7 (fun _ => rfl) (fun _ => rfl) (fun _ => rfl) (fun _ => rfl) (fun _ _ => rfl) (by rw [e_o_4]; exact (ga_fr T_1  f_o_3 (fun _ => rfl) (fun _ => rfl) (fun _ => rfl) (fun _ => rfl) (fun _ _ => rfl) (by rw [e_o_1]; exact ga)))))
        refine s_cVq (zX1_setBoard hF (pmO_a hA rfl) rfl T_15 q_r_10 i_v_6 ((rg_he e_o_8 p_f_20) : Rg (3) (8) ((hI o_8.2 x0 5))) pf_21) (fun o_11 T_22 p_o_11 => ?_)
        refine s_cVf (S := fS [(3, 2), (3, 3), (3, 4), (3, 5)] []) T_22 (fs_sub (pmA_s hA rfl) fs_n) (zX2_advance hF (cat_m m1) fs_a (th_in _ T_22) r_x0) (fun o_12 T_23 f_o_12 => ?_)
        refine s_cIf (S := fS [(3, 2), (3, 3), (3, 4), (3, 5)] []) T_23 (fs_sub (pmA_s hA rfl) fs_n) (zX2_takeEnd hF (cat_m m1) fs_a (th_in _ T_23) r_x0) (fun o_13 T_24 i_o_13 f_o_13 => ?_)
        refine s_gd (rg_bool i_o_13) ?_
        have pf_25 : GeoA ρ o_13.2 := (ga_fr T_23  f_o_13 (fun _ => rfl) (fun _ => rfl) (fun _ => rfl) (fun _ => rfl) (fun _ _ => rfl) (ga_fr T_22  f_o_12 (fun _ => rfl) (fun _ => rfl) (fun _ => rfl) (fun _ => rfl) (fun _ _ => rfl) p_o_11))
        exact s_some ⟨⟨(T_24), i_o_13⟩, pf_25⟩
set_option maxRecDepth 20000 in
theorem zX2_fits {ρ : Nat → Nat} {c : Cm} {F : Nat} (hF : 700000 ≤ F) {h : Hp} {x0 : Int32} {x1 : Int32} (T : TH ρ c h) (i_x0 : Rg (0) (63) (x0)) (i_x1 : Rg (1) (32) (x1)) : Sat (sX2_fits h x0 x1) (ZI0 h (0) (1)) := by
  unfold sX2_fits sX2_fits_12 sX2_fits_32 sX2_fits_43 sX2_fits_29
  refine s_br (fun c_1 => ?_) (fun c_1 => ?_)
  · have _ := c_1
    have i_f_2 : Rg (1) (1) (x1) := rg_eq c_1 (rg_b rfl : Rg (1) (1) ((1 : Int32)))
    refine s_br (fun c_3 => ?_) (fun c_3 => ?_)
    · have _ := c_3
      have i_f_4 : Rg (0) (0) ((x0 &&& (3 : Int32))) := rg_eq c_3 (rg_b rfl : Rg (0) (0) (0 : Int32))
      refine s_gd (rg_bool (rg_m (rg_b rfl : Rg (1) (1) ((1 : Int32))) (by decide))) ?_
      exact s_some ⟨rfl, (rg_m (rg_b rfl : Rg (1) (1) ((1 : Int32))) (by decide))⟩
    · have _ := c_3
      have i_f_5 : Rg (1) (3) ((x0 &&& (3 : Int32))) := rg_nlo c_3 (rg_and (rg_b rfl : Rg (3) (3) ((3 : Int32))) (by decide) : Rg (0) (3) ((x0 &&& (3 : Int32)))) (rg_b rfl : Rg (0) (0) (0 : Int32))
      refine s_gd (rg_bool (rg_m (rg_b rfl : Rg (0) (0) ((0 : Int32))) (by decide))) ?_
      exact s_some ⟨rfl, (rg_m (rg_b rfl : Rg (0) (0) ((0 : Int32))) (by decide))⟩
  · have _ := c_1
    have i_f_6 : Rg (2) (32) (x1) := rg_nlo c_1 i_x1 (rg_b rfl : Rg (1) (1) ((1 : Int32)))
    refine s_br (fun c_7 => ?_) (fun c_7 => ?_)
    · have _ := c_7
      have i_f_8 : Rg (2) (2) (x1) := rg_eq c_7 (rg_b rfl : Rg (2) (2) ((2 : Int32)))
      refine s_br (fun c_9 => ?_) (fun c_9 => ?_)
      · have _ := c_9
        have i_f_10 : Rg (0) (0) ((x0 &&& (3 : Int32))) := rg_eq c_9 (rg_b rfl : Rg (0) (0) (0 : Int32))
        refine s_gd (rg_bool (rg_m (rg_b rfl : Rg (1) (1) ((1 : Int32))) (by decide))) ?_
        exact s_some ⟨rfl, (rg_m (rg_b rfl : Rg (1) (1) ((1 : Int32))) (by decide))⟩
      · have _ := c_9
        have i_f_11 : Rg (1) (3) ((x0 &&& (3 : Int32))) := rg_nlo c_9 (rg_and (rg_b rfl : Rg (3) (3) ((3 : Int32))) (by decide) : Rg (0) (3) ((x0 &&& (3 : Int32)))) (rg_b rfl : Rg (0) (0) (0 : Int32))
        refine s_gd (rg_bool (rg_m (rg_b rfl : Rg (0) (0) ((0 : Int32))) (by decide))) ?_
        exact s_some ⟨rfl, (rg_m (rg_b rfl : Rg (0) (0) ((0 : Int32))) (by decide))⟩
    · have _ := c_7
      have i_f_12 : Rg (3) (32) (x1) := rg_nlo c_7 i_f_6 (rg_b rfl : Rg (2) (2) ((2 : Int32)))
      refine s_br (fun c_13 => ?_) (fun c_13 => ?_)
      · have _ := c_13
        have i_f_14 : Rg (8) (8) (x1) := rg_eq c_13 (rg_b rfl : Rg (8) (8) ((8 : Int32)))
        refine s_br (fun c_15 => ?_) (fun c_15 => ?_)
        · have _ := c_15
          have i_f_16 : Rg (0) (0) ((x0 &&& (24 : Int32))) := rg_eq c_15 (rg_b rfl : Rg (0) (0) (0 : Int32))
          refine s_gd (rg_bool (rg_m (rg_b rfl : Rg (1) (1) ((1 : Int32))) (by decide))) ?_
          exact s_some ⟨rfl, (rg_m (rg_b rfl : Rg (1) (1) ((1 : Int32))) (by decide))⟩
        · have _ := c_15
          have i_f_17 : Rg (1) (24) ((x0 &&& (24 : Int32))) := rg_nlo c_15 (rg_and (rg_b rfl : Rg (24) (24) ((24 : Int32))) (by decide) : Rg (0) (24) ((x0 &&& (24 : Int32)))) (rg_b rfl : Rg (0) (0) (0 : Int32))
          refine s_gd (rg_bool (rg_m (rg_b rfl : Rg (0) (0) ((0 : Int32))) (by decide))) ?_
          exact s_some ⟨rfl, (rg_m (rg_b rfl : Rg (0) (0) ((0 : Int32))) (by decide))⟩
      · have _ := c_13
        refine s_br (fun c_18 => ?_) (fun c_18 => ?_)
        · have _ := c_18
          have i_f_19 : Rg (16) (16) (x1) := rg_eq c_18 (rg_b rfl : Rg (16) (16) ((16 : Int32)))
          refine s_br (fun c_20 => ?_) (fun c_20 => ?_)
          · have _ := c_20
            have i_f_21 : Rg (0) (0) ((x0 &&& (24 : Int32))) := rg_eq c_20 (rg_b rfl : Rg (0) (0) (0 : Int32))
            refine s_gd (rg_bool (rg_m (rg_b rfl : Rg (1) (1) ((1 : Int32))) (by decide))) ?_
            exact s_some ⟨rfl, (rg_m (rg_b rfl : Rg (1) (1) ((1 : Int32))) (by decide))⟩
          · have _ := c_20
            have i_f_22 : Rg (1) (24) ((x0 &&& (24 : Int32))) := rg_nlo c_20 (rg_and (rg_b rfl : Rg (24) (24) ((24 : Int32))) (by decide) : Rg (0) (24) ((x0 &&& (24 : Int32)))) (rg_b rfl : Rg (0) (0) (0 : Int32))
            refine s_gd (rg_bool (rg_m (rg_b rfl : Rg (0) (0) ((0 : Int32))) (by decide))) ?_
            exact s_some ⟨rfl, (rg_m (rg_b rfl : Rg (0) (0) ((0 : Int32))) (by decide))⟩
        · have _ := c_18
          refine s_br (fun c_23 => ?_) (fun c_23 => ?_)
          · have _ := c_23
            have i_f_24 : Rg (0) (0) ((x0 &&& x1)) := rg_eq c_23 (rg_b rfl : Rg (0) (0) (0 : Int32))
            refine s_gd (rg_bool (rg_m (rg_b rfl : Rg (1) (1) ((1 : Int32))) (by decide))) ?_
            exact s_some ⟨rfl, (rg_m (rg_b rfl : Rg (1) (1) ((1 : Int32))) (by decide))⟩
          · have _ := c_23
            have i_f_25 : Rg (1) (32) ((x0 &&& x1)) := rg_nlo c_23 (rg_and i_f_12 (by decide) : Rg (0) (32) ((x0 &&& x1))) (rg_b rfl : Rg (0) (0) (0 : Int32))
            refine s_gd (rg_bool (rg_m (rg_b rfl : Rg (0) (0) ((0 : Int32))) (by decide))) ?_
            exact s_some ⟨rfl, (rg_m (rg_b rfl : Rg (0) (0) ((0 : Int32))) (by decide))⟩
set_option maxRecDepth 20000 in
theorem zX2_stepFlag {ρ : Nat → Nat} {c : Cm} {F : Nat} (hF : 700000 ≤ F) (m1 : c.2.1 1 = true) {h : Hp} {x0 : Nat} (T : TH ρ c h) (r_x0 : ρ x0 = 3) : Sat (sX2_stepFlag F h x0) (ZI0 h (0) (32)) := by
  unfold sX2_stepFlag sX2_stepFlag_72
  refine s_dI0 (zX2_isWord hF m1 T r_x0) (fun o_1 eb_o_1 e_o_1 i_o_1 => ?_)
  have T_1 := th_eq e_o_1 T
  refine s_br (fun c_2 => ?_) (fun c_2 => ?_)
  · have _ := c_2
    have i_f_3 : Rg (0) (0) (o_1.1) := rg_eq c_2 (rg_b rfl : Rg (0) (0) (0 : Int32))
    refine s_dI0 (zX2_isWord hF m1 T_1 r_x0) (fun o_3 eb_o_3 e_o_3 i_o_3 => ?_)
    have T_4 := th_eq e_o_3 T_1
    refine s_br (fun c_5 => ?_) (fun c_5 => ?_)
    · have _ := c_5
      have i_f_6 : Rg (0) (0) (o_3.1) := rg_eq c_5 (rg_b rfl : Rg (0) (0) (0 : Int32))
      refine s_dI0 (zX2_isWord hF m1 T_4 r_x0) (fun o_5 eb_o_5 e_o_5 i_o_5 => ?_)
      have T_7 := th_eq e_o_5 T_4
      refine s_br (fun c_8 => ?_) (fun c_8 => ?_)
      · have _ := c_8
        have i_f_9 : Rg (0) (0) (o_5.1) := rg_eq c_8 (rg_b rfl : Rg (0) (0) (0 : Int32))
        refine s_dI0 (zX2_isWord hF m1 T_7 r_x0) (fun o_7 eb_o_7 e_o_7 i_o_7 => ?_)
        have T_10 := th_eq e_o_7 T_7
        refine s_br (fun c_11 => ?_) (fun c_11 => ?_)
        · have _ := c_11
          have i_f_12 : Rg (0) (0) (o_7.1) := rg_eq c_11 (rg_b rfl : Rg (0) (0) (0 : Int32))
          refine s_dI0 (zX2_isWord hF m1 T_10 r_x0) (fun o_9 eb_o_9 e_o_9 i_o_9 => ?_)
          have T_13 := th_eq e_o_9 T_10
          refine s_br (fun c_14 => ?_) (fun c_14 => ?_)
          · have _ := c_14
            have i_f_15 : Rg (0) (0) (o_9.1) := rg_eq c_14 (rg_b rfl : Rg (0) (0) (0 : Int32))
            refine s_dI0 (zX2_isWord hF m1 T_13 r_x0) (fun o_11 eb_o_11 e_o_11 i_o_11 => ?_)
            have T_16 := th_eq e_o_11 T_13
            refine s_br (fun c_17 => ?_) (fun c_17 => ?_)
            · have _ := c_17
              have i_f_18 : Rg (0) (0) (o_11.1) := rg_eq c_17 (rg_b rfl : Rg (0) (0) (0 : Int32))
              exact s_some ⟨(e_o_11.trans (e_o_9.trans (e_o_7.trans (e_o_5.trans (e_o_3.trans (e_o_1.trans rfl)))))), (rg_m (rg_b rfl : Rg (0) (0) ((0 : Int32))) (by decide))⟩
            · have _ := c_17
              have i_f_19 : Rg (1) (1) (o_11.1) := rg_nlo c_17 i_o_11 (rg_b rfl : Rg (0) (0) (0 : Int32))
              exact s_some ⟨(e_o_11.trans (e_o_9.trans (e_o_7.trans (e_o_5.trans (e_o_3.trans (e_o_1.trans rfl)))))), (rg_m (rg_b rfl : Rg (32) (32) ((32 : Int32))) (by decide))⟩
          · have _ := c_14
            have i_f_20 : Rg (1) (1) (o_9.1) := rg_nlo c_14 i_o_9 (rg_b rfl : Rg (0) (0) (0 : Int32))
            exact s_some ⟨(e_o_9.trans (e_o_7.trans (e_o_5.trans (e_o_3.trans (e_o_1.trans rfl))))), (rg_m (rg_b rfl : Rg (16) (16) ((16 : Int32))) (by decide))⟩
        · have _ := c_11
          have i_f_21 : Rg (1) (1) (o_7.1) := rg_nlo c_11 i_o_7 (rg_b rfl : Rg (0) (0) (0 : Int32))
          exact s_some ⟨(e_o_7.trans (e_o_5.trans (e_o_3.trans (e_o_1.trans rfl)))), (rg_m (rg_b rfl : Rg (8) (8) ((8 : Int32))) (by decide))⟩
      · have _ := c_8
        have i_f_22 : Rg (1) (1) (o_5.1) := rg_nlo c_8 i_o_5 (rg_b rfl : Rg (0) (0) (0 : Int32))
        exact s_some ⟨(e_o_5.trans (e_o_3.trans (e_o_1.trans rfl))), (rg_m (rg_b rfl : Rg (4) (4) ((4 : Int32))) (by decide))⟩
    · have _ := c_5
      have i_f_23 : Rg (1) (1) (o_3.1) := rg_nlo c_5 i_o_3 (rg_b rfl : Rg (0) (0) (0 : Int32))
      exact s_some ⟨(e_o_3.trans (e_o_1.trans rfl)), (rg_m (rg_b rfl : Rg (2) (2) ((2 : Int32))) (by decide))⟩
  · have _ := c_2
    have i_f_24 : Rg (1) (1) (o_1.1) := rg_nlo c_2 i_o_1 (rg_b rfl : Rg (0) (0) (0 : Int32))
    exact s_some ⟨(e_o_1.trans rfl), (rg_m (rg_b rfl : Rg (1) (1) ((1 : Int32))) (by decide))⟩
set_option maxRecDepth 20000 in
theorem zX2_takeTail {ρ : Nat → Nat} {c : Cm} {F : Nat} (hF : 700000 ≤ F) (m1 : c.2.1 1 = true) (hA : pmA c [(3, 2), (3, 3), (3, 4), (3, 5)]) {h : Hp} {x0 : Nat} {x1 : Nat} {x2 : Int32} {x3 : Int32} {x4 : Int32} (T : TH ρ c h) (r_x0 : ρ x0 = 3) (i_x2 : Rg (1) (2) (x2)) (i_x3 : Rg (0) (8) (x3)) (i_x4 : Rg (0) (1) (x4)) : Sat (sX2_takeTail F h x0 x1 x2 x3 x4) (ZI ρ c (-1) (8)) := by
  unfold sX2_takeTail 
  refine s_dI0 (zX2_isWord hF m1 T r_x0) (fun o_1 eb_o_1 e_o_1 i_o_1 => ?_)
  have T_1 := th_eq e_o_1 T
  refine s_br (fun c_2 => ?_) (fun c_2 => ?_)
  · have _ := c_2
    have i_f_3 : Rg (0) (0) (o_1.1) := rg_eq c_2 (rg_b rfl : Rg (0) (0) (0 : Int32))
    exact s_some ⟨(T_1), (rg_m i_x4 (by decide))⟩
  · have _ := c_2
    have i_f_4 : Rg (1) (1) (o_1.1) := rg_nlo c_2 i_o_1 (rg_b rfl : Rg (0) (0) (0 : Int32))
    refine s_cV (zX2_advance hF m1 (pmA_s hA rfl) T_1 r_x0) (fun o_3 T_5 => ?_)
    refine s_dP0 (zX2_isNumber hF (i_x2 : Rg (1) (2) (x2)) (i_x3 : Rg (0) (8) (x3))) (fun o_4 eb_o_4 e_o_4 i_o_4 p_o_4 => ?_)
    have T_6 := th_eq e_o_4 T_5
    refine s_br (fun c_7 => ?_) (fun c_7 => ?_)
    · have _ := c_7
      have i_f_8 : Rg (0) (0) (o_4.1) := rg_eq c_7 (rg_b rfl : Rg (0) (0) (0 : Int32))
      exact s_some ⟨(T_6), (rg_m (rg_b rfl : Rg (-1) (-1) ((- 1 : Int32))) (by decide))⟩
    · have _ := c_7
      have i_f_9 : Rg (1) (1) (o_4.1) := rg_nlo c_7 i_o_4 (rg_b rfl : Rg (0) (0) (0 : Int32))
      have p_f_10 := p_o_4 c_7
      refine s_q (fun v_6 e_11 => ?_)
      have i_v_6 : Rg (1) (8) (v_6) := by rw [e_11]; exact ((rg_he e_o_4 p_f_10) : Rg (1) (8) (hI o_4.2 x0 5))
      refine s_cV (zX2_advance hF m1 (pmA_s hA rfl) T_6 r_x0) (fun o_7 T_12 => ?_)
      exact s_some ⟨(T_12), (rg_m i_v_6 (by decide))⟩
set_option maxRecDepth 20000 in
theorem zX2_takeStep_168 {ρ : Nat → Nat} {c : Cm} {F : Nat} (hF : 700000 ≤ F) (m2 : c.2.1 2 = true) (hA : pmA c [(28, 999), (29, 999)]) {h : Hp} {x0 : Nat} {x1 : Int32} {x2 : Int32} {x3 : Int32} {x5 : Int32} {t0 : Int32} (T : TH ρ c h) (r_x0 : ρ x0 = 3) (i_x1 : Rg (0) (11) (x1)) (i_x2 : Rg (0) (7) (x2)) (i_x3 : Rg (-2147483648) (2147483647) (x3)) (i_x5 : Rg (-1) (8) (x5)) (i_t0 : Rg (-1) (8) (t0)) : Sat (sX2_takeStep_168 F h x0 x1 x2 x3 x5 t0) (ZI ρ c (0) (1)) := by
  unfold sX2_takeStep_168 sX2_takeStep_182
  refine s_br (fun c_1 => ?_) (fun c_1 => ?_)
  · have _ := c_1
    have i_f_2 : Rg (-1) (-1) (x5) := rg_eq c_1 (rg_b rfl : Rg (-1) (-1) ((- 1 : Int32)))
    exact s_some ⟨(T), (rg_m (rg_b rfl : Rg (0) (0) ((0 : Int32))) (by decide))⟩
  · have _ := c_1
    have i_f_3 : Rg (0) (8) (x5) := rg_nlo c_1 i_x5 (rg_b rfl : Rg (-1) (-1) ((- 1 : Int32)))
    refine s_br (fun c_4 => ?_) (fun c_4 => ?_)
    · have _ := c_4
      have i_f_5 : Rg (-1) (-1) (t0) := rg_eq c_4 (rg_b rfl : Rg (-1) (-1) ((- 1 : Int32)))
      exact s_some ⟨(T), (rg_m (rg_b rfl : Rg (0) (0) ((0 : Int32))) (by decide))⟩
    · have _ := c_4
      have i_f_6 : Rg (0) (8) (t0) := rg_nlo c_4 i_t0 (rg_b rfl : Rg (-1) (-1) ((- 1 : Int32)))
      obtain ⟨r_3, e_r_3, q_r_3⟩ := thM T r_x0 (k := 3) (i := 1) (j := 2) (k2 := 2) rfl (by decide) rfl (by decide) m2
      refine s_ref e_r_3 ?_
      obtain ⟨r_4, e_r_4, q_r_4⟩ := thR T q_r_3 (k := 2) (i := 15) (k2 := 28) rfl (by decide)
      refine s_ref e_r_4 ?_
      refine s_gd (by rw [thN T q_r_4 (k := 28) (n := 96) rfl (by decide)]; exact rg_inB ((rg_add (rg_mulc i_x1 (rg_b rfl : Rg (8) (8) ((8 : Int32))) (by decide) : Rg (0) (88) ((x1 * (8 : Int32)))) i_x2 (by decide) : Rg (0) (95) (((x1 * (8 : Int32)) + x2))) : Rg (0) (95) (((x1 * (8 : Int32)) + x2))) (by decide)) ?_
      refine s_hq (th_wI T q_r_4 (k := 28) (lo := (-2147483648)) (hi := (2147483647)) rfl ((rg_top _ : Rg (-2147483648) (2147483647) (((x3 ||| (x5 <<< ((14 : Int32) &&& 31))) ||| (t0 <<< ((17 : Int32) &&& 31))))) : Rg (-2147483648) (2147483647) (((x3 ||| (x5 <<< ((14 : Int32) &&& 31))) ||| (t0 <<< ((17 : Int32) &&& 31))))) (by decide) (by decide) (pm_a hA rfl)) (fun h_6 T_7 w_8 => ?_)
      refine s_ref (hr_w w_8 e_r_3) ?_
      obtain ⟨r_8, e_r_8, q_r_8⟩ := thR T_7 q_r_3 (k := 2) (i := 16) (k2 := 29) rfl (by decide)
      refine s_ref e_r_8 ?_
      refine s_gd (by rw [thN T_7 q_r_8 (k := 29) (n := 12) rfl (by decide)]; exact rg_inB (i_x1 : Rg (0) (11) (x1)) (by decide)) ?_
      refine s_hq (th_wI T_7 q_r_8 (k := 29) (lo := (0)) (hi := (8)) rfl ((rg_m (rg_add i_x2 (rg_b rfl : Rg (1) (1) ((1 : Int32))) (by decide) : Rg (1) (8) ((x2 + (1 : Int32)))) (by decide)) : Rg (0) (8) ((x2 + (1 : Int32)))) (by decide) (by decide) (pm_a hA rfl)) (fun h_10 T_9 w_10 => ?_)
      exact s_some ⟨(T_9), (rg_m (rg_b rfl : Rg (1) (1) ((1 : Int32))) (by decide))⟩
set_option maxRecDepth 20000 in
theorem zX2_takeStep_105 {ρ : Nat → Nat} {c : Cm} {F : Nat} (hF : 700000 ≤ F) (m1 : c.2.1 1 = true) (m2 : c.2.1 2 = true) (hA : pmA c [(28, 999), (29, 999), (3, 2), (3, 3), (3, 4), (3, 5)]) {h : Hp} {x0 : Nat} {x1 : Int32} {x2 : Int32} {x3 : Int32} {x4 : Int32} (T : TH ρ c h) (r_x0 : ρ x0 = 3) (i_x1 : Rg (0) (11) (x1)) (i_x2 : Rg (0) (7) (x2)) (i_x3 : Rg (0) (63) (x3)) (i_x4 : Rg (-7) (7) (x4)) : Sat (sX2_takeStep_105 F h x0 x1 x2 x3 x4) (ZI ρ c (0) (1)) := by
  unfold sX2_takeStep_105 
  refine s_q (fun v_1 e_1 => ?_)
  have i_v_1 : Rg (-2147483648) (2147483647) (v_1) := by rw [e_1]; exact (rg_top _ : Rg (-2147483648) (2147483647) (x3 ||| (((x4 + (8 : Int32)) <<< ((6 : Int32) &&& 31)) ||| (((hI h x0 5) + (8 : Int32)) <<< ((10 : Int32) &&& 31)))))
  refine s_cV (zX2_advance hF m1 (pmA_s hA rfl) T r_x0) (fun o_2 T_2 => ?_)
  refine s_cI (zX2_takeTail hF m1 (pmA_s hA rfl) T_2 r_x0 (rg_m (rg_b rfl : Rg (2) (2) ((2 : Int32))) (by decide)) (rg_m (rg_b rfl : Rg (7) (7) ((7 : Int32))) (by decide)) (rg_m (rg_b rfl : Rg (1) (1) ((1 : Int32))) (by decide))) (fun o_3 T_3 i_o_3 => ?_)
  refine s_br (fun c_4 => ?_) (fun c_4 => ?_)
  · have _ := c_4
    have i_f_5 : Rg (-1) (-1) (o_3.1) := rg_eq c_4 (rg_b rfl : Rg (-1) (-1) ((- 1 : Int32)))
    exact zX2_takeStep_168 hF m2 (pmA_s hA rfl) T_3 r_x0 i_x1 i_x2 i_v_1 (rg_m i_f_5 (by decide)) (rg_m (rg_b rfl : Rg (-1) (-1) ((- 1 : Int32))) (by decide))
  · have _ := c_4
    have i_f_6 : Rg (0) (8) (o_3.1) := rg_nlo c_4 i_o_3 (rg_b rfl : Rg (-1) (-1) ((- 1 : Int32)))
    obtain ⟨r_5, e_r_5, q_r_5⟩ := thM T_3 r_x0 (k := 3) (i := 1) (j := 2) (k2 := 2) rfl (by decide) rfl (by decide) m2
    refine s_ref e_r_5 ?_
    refine s_cI (zX2_takeTail hF m1 (pmA_s hA rfl) T_3 r_x0 (rg_m (rg_b rfl : Rg (1) (1) ((1 : Int32))) (by decide)) (thI T_3 q_r_5 (k := 2) (i := 1) rfl : Rg (0) (8) ((hI o_3.2 r_5 1))) (rg_m (rg_b rfl : Rg (0) (0) ((0 : Int32))) (by decide))) (fun o_6 T_7 i_o_6 => ?_)
    exact zX2_takeStep_168 hF m2 (pmA_s hA rfl) T_7 r_x0 i_x1 i_x2 i_v_1 (rg_m i_f_6 (by decide)) i_o_6
set_option maxRecDepth 20000 in
theorem zX2_takeStep_57 {ρ : Nat → Nat} {c : Cm} {F : Nat} (hF : 700000 ≤ F) (m1 : c.2.1 1 = true) (m2 : c.2.1 2 = true) (hA : pmA c [(28, 999), (29, 999), (3, 2), (3, 3), (3, 4), (3, 5)]) {h : Hp} {x0 : Nat} {x1 : Int32} {x2 : Int32} {x3 : Int32} (T : TH ρ c h) (r_x0 : ρ x0 = 3) (i_x1 : Rg (0) (11) (x1)) (i_x2 : Rg (0) (7) (x2)) (i_x3 : Rg (0) (63) (x3)) : Sat (sX2_takeStep_57 F h x0 x1 x2 x3) (ZI ρ c (0) (1)) := by
  unfold sX2_takeStep_57 sX2_takeStep_103
  refine s_dP0 (zX2_isNumber hF ((rg_b rfl : Rg (-7) (-7) ((- 7 : Int32))) : Rg (-7) (-7) ((- 7 : Int32))) ((rg_b rfl : Rg (7) (7) ((7 : Int32))) : Rg (7) (7) ((7 : Int32)))) (fun o_1 eb_o_1 e_o_1 i_o_1 p_o_1 => ?_)
  have T_1 := th_eq e_o_1 T
  refine s_br (fun c_2 => ?_) (fun c_2 => ?_)
  · have _ := c_2
    have i_f_3 : Rg (0) (0) (o_1.1) := rg_eq c_2 (rg_b rfl : Rg (0) (0) (0 : Int32))
    exact s_some ⟨(T_1), (rg_m (rg_b rfl : Rg (0) (0) ((0 : Int32))) (by decide))⟩
  · have _ := c_2
    have i_f_4 : Rg (1) (1) (o_1.1) := rg_nlo c_2 i_o_1 (rg_b rfl : Rg (0) (0) (0 : Int32))
    have p_f_5 := p_o_1 c_2
    refine s_q (fun v_3 e_6 => ?_)
    have i_v_3 : Rg (-7) (7) (v_3) := by rw [e_6]; exact ((rg_he e_o_1 p_f_5) : Rg (-7) (7) (hI o_1.2 x0 5))
    refine s_cV (zX2_advance hF m1 (pmA_s hA rfl) T_1 r_x0) (fun o_4 T_7 => ?_)
    refine s_dP0 (zX2_isNumber hF ((rg_b rfl : Rg (-7) (-7) ((- 7 : Int32))) : Rg (-7) (-7) ((- 7 : Int32))) ((rg_b rfl : Rg (7) (7) ((7 : Int32))) : Rg (7) (7) ((7 : Int32)))) (fun o_5 eb_o_5 e_o_5 i_o_5 p_o_5 => ?_)
    have T_8 := th_eq e_o_5 T_7
    refine s_br (fun c_9 => ?_) (fun c_9 => ?_)
    · have _ := c_9
      have i_f_10 : Rg (0) (0) (o_5.1) := rg_eq c_9 (rg_b rfl : Rg (0) (0) (0 : Int32))
      exact s_some ⟨(T_8), (rg_m (rg_b rfl : Rg (0) (0) ((0 : Int32))) (by decide))⟩
    · have _ := c_9
      have i_f_11 : Rg (1) (1) (o_5.1) := rg_nlo c_9 i_o_5 (rg_b rfl : Rg (0) (0) (0 : Int32))
      have p_f_12 := p_o_5 c_9
      refine s_br (fun c_13 => ?_) (fun c_13 => ?_)
      · have _ := c_13
        have i_f_14 : Rg (0) (0) (v_3) := rg_eq c_13 (rg_b rfl : Rg (0) (0) (0 : Int32))
        refine s_br (fun c_15 => ?_) (fun c_15 => ?_)
        · have _ := c_15
          have i_f_16 : Rg (0) (0) ((hI o_5.2 x0 5)) := rg_eq c_15 (rg_b rfl : Rg (0) (0) (0 : Int32))
          exact s_some ⟨(T_8), (rg_m (rg_b rfl : Rg (0) (0) ((0 : Int32))) (by decide))⟩
        · have _ := c_15
          exact zX2_takeStep_105 hF m1 m2 (pmA_s hA rfl) T_8 r_x0 i_x1 i_x2 i_x3 (rg_m i_f_14 (by decide))
      · have _ := c_13
        exact zX2_takeStep_105 hF m1 m2 (pmA_s hA rfl) T_8 r_x0 i_x1 i_x2 i_x3 i_v_3
set_option maxRecDepth 20000 in
theorem zX2_takeStep_5 {ρ : Nat → Nat} {c : Cm} {F : Nat} (hF : 700000 ≤ F) (m1 : c.2.1 1 = true) (m2 : c.2.1 2 = true) (hA : pmA c [(28, 999), (29, 999), (3, 2), (3, 3), (3, 4), (3, 5)]) : ∀ (f : Nat) {h : Hp} {x0 : Nat} {x1 : Int32} {x2 : Int32} {x3 : Int32} {x4 : Int32}, TH ρ c h → ρ x0 = 3 → Rg (0) (11) (x1) → Rg (0) (7) (x2) → Rg (0) (63) (x3) → Rg (0) (6) (x4) → (6 - x4.toInt).toNat < f → Sat (sX2_takeStep_5 F f h x0 x1 x2 x3 x4) (ZI ρ c (0) (1)) := by
  intro f
  induction f with
  | zero => intros; omega
  | succ f ih =>
    intro h x0 x1 x2 x3 x4 T r_x0 i_x1 i_x2 i_x3 i_x4 hm
    rw [sX2_takeStep_5]
    unfold sX2_takeStep_40
    obtain ⟨C_5, hC_5⟩ : ∃ C : Int, C = x4.toInt := ⟨_, rfl⟩
    have hk_5 : ∀ {h : Hp} {x0 : Nat} {x1 : Int32} {x2 : Int32} {x3 : Int32} {x4 : Int32}, TH ρ c h → ρ x0 = 3 → Rg (0) (11) (x1) → Rg (0) (7) (x2) → Rg (0) (63) (x3) → Rg (0) (6) (x4) → C_5 < x4.toInt → Sat (sX2_takeStep_5 F f h x0 x1 x2 x3 x4) (ZI ρ c (0) (1)) := by
      intro h' x0' x1' x2' x3' x4' T' r_x0' i_x1' i_x2' i_x3' i_x4' hl
      exact ih T' r_x0' i_x1' i_x2' i_x3' i_x4' (by have := i_x4'.1; have := i_x4'.2; omega)
    have hc_5 : C_5 ≤ x4.toInt := by omega
    refine s_br (fun c_1 => ?_) (fun c_1 => ?_)
    · have _ := c_1
      have i_f_2 : Rg (6) (6) (x4) := rg_le2 c_1 (rg_b rfl : Rg (6) (6) ((6 : Int32))) i_x4
      exact zX2_takeStep_57 hF m1 m2 (pmA_s hA rfl) T r_x0 i_x1 i_x2 i_x3
    · have _ := c_1
      have i_f_3 : Rg (0) (5) (x4) := rg_lt1 (nle_lt c_1) i_x4 (rg_b rfl : Rg (6) (6) ((6 : Int32)))
      refine s_br (fun c_4 => ?_) (fun c_4 => ?_)
      · have _ := c_4
        have i_f_5 : Rg (1) (1) ((hI h x0 4)) := rg_eq c_4 (rg_b rfl : Rg (1) (1) ((1 : Int32)))
        refine s_dI0 (zX2_stepFlag hF m1 T r_x0) (fun o_3 eb_o_3 e_o_3 i_o_3 => ?_)
        have T_6 := th_eq e_o_3 T
        refine s_br (fun c_7 => ?_) (fun c_7 => ?_)
        · have _ := c_7
          have i_f_8 : Rg (0) (0) (o_3.1) := rg_eq c_7 (rg_b rfl : Rg (0) (0) (0 : Int32))
          exact s_some ⟨(T_6), (rg_m (rg_b rfl : Rg (0) (0) ((0 : Int32))) (by decide))⟩
        · have _ := c_7
          have i_f_9 : Rg (1) (32) (o_3.1) := rg_nlo c_7 i_o_3 (rg_b rfl : Rg (0) (0) (0 : Int32))
          refine s_dI0 (zX2_fits hF T_6 i_x3 i_f_9) (fun o_5 eb_o_5 e_o_5 i_o_5 => ?_)
          have T_10 := th_eq e_o_5 T_6
          refine s_br (fun c_11 => ?_) (fun c_11 => ?_)
          · have _ := c_11
            have i_f_12 : Rg (0) (0) (o_5.1) := rg_eq c_11 (rg_b rfl : Rg (0) (0) (0 : Int32))
            exact s_some ⟨(T_10), (rg_m (rg_b rfl : Rg (0) (0) ((0 : Int32))) (by decide))⟩
          · have _ := c_11
            have i_f_13 : Rg (1) (1) (o_5.1) := rg_nlo c_11 i_o_5 (rg_b rfl : Rg (0) (0) (0 : Int32))
            refine s_q (fun v_7 e_14 => ?_)
            have i_v_7 : Rg (0) (63) (v_7) := by rw [e_14]; exact (rg_or (n := 6) (rg_m i_x3 (by decide) : Rg (0) (63) (x3)) (rg_m i_f_9 (by decide) : Rg (0) (32) (o_3.1)) (by decide) : Rg (0) (63) (x3 ||| o_3.1))
            refine s_cV (zX2_advance hF m1 (pmA_s hA rfl) T_10 r_x0) (fun o_8 T_15 => ?_)
            refine s_q (fun v_9 e_16 => ?_)
            have i_v_9 : Rg (1) (6) (v_9) := by rw [e_16]; exact (rg_add i_f_3 (rg_b rfl : Rg (1) (1) ((1 : Int32))) (by decide) : Rg (1) (6) (x4 + (1 : Int32)))
            have m_17 : (v_9).toInt = x4.toInt + 1 := by rw [e_16]; exact rg_inc i_f_3 (by decide)
            exact hk_5 T_15 r_x0 i_x1 i_x2 i_v_7 (rg_m i_v_9 (by decide)) (by have := hc_5; omega)
      · have _ := c_4
        exact zX2_takeStep_57 hF m1 m2 (pmA_s hA rfl) T r_x0 i_x1 i_x2 i_x3
set_option maxRecDepth 20000 in
theorem zX2_takeStep {ρ : Nat → Nat} {c : Cm} {F : Nat} (hF : 700000 ≤ F) (m1 : c.2.1 1 = true) (m2 : c.2.1 2 = true) (hA : pmA c [(28, 999), (29, 999), (3, 2), (3, 3), (3, 4), (3, 5)]) {h : Hp} {x0 : Nat} {x1 : Int32} {x2 : Int32} (T : TH ρ c h) (r_x0 : ρ x0 = 3) (i_x1 : Rg (0) (11) (x1)) (i_x2 : Rg (0) (7) (x2)) : Sat (sX2_takeStep F h x0 x1 x2) (ZI ρ c (0) (1)) := by
  unfold sX2_takeStep 
  have m_1 : Rg (0) (6) ((0 : Int32)) := (rg_m (rg_b rfl : Rg (0) (0) ((0 : Int32))) (by decide))
  exact zX2_takeStep_5 hF m1 m2 (pmA_s hA rfl) F T r_x0 i_x1 i_x2 (rg_m (rg_b rfl : Rg (0) (0) ((0 : Int32))) (by decide)) (rg_m (rg_b rfl : Rg (0) (0) ((0 : Int32))) (by decide)) (by have := m_1.1; have := m_1.2; omega)
set_option maxRecDepth 20000 in
theorem zX2_takeMan_77 {ρ : Nat → Nat} {c : Cm} {F : Nat} (hF : 700000 ≤ F) (m1 : c.2.1 1 = true) (m2 : c.2.1 2 = true) (hA : pmA c [(28, 999), (29, 999), (3, 2), (3, 3), (3, 4), (3, 5)]) : ∀ (f : Nat) {h : Hp} {x0 : Nat} {x2 : Int32} {x3 : Int32}, TH ρ c h → ρ x0 = 3 → Rg (0) (11) (x2) → Rg (0) (7) (x3) → (7 - x3.toInt).toNat < f → Sat (sX2_takeMan_77 F f h x0 x2 x3) (ZI ρ c (0) (1)) := by
  intro f
  induction f with
  | zero => intros; omega
  | succ f ih =>
    intro h x0 x2 x3 T r_x0 i_x2 i_x3 hm
    rw [sX2_takeMan_77]
    unfold sX2_takeMan_108
    obtain ⟨C_77, hC_77⟩ : ∃ C : Int, C = x3.toInt := ⟨_, rfl⟩
    have hk_77 : ∀ {h : Hp} {x0 : Nat} {x2 : Int32} {x3 : Int32}, TH ρ c h → ρ x0 = 3 → Rg (0) (11) (x2) → Rg (0) (7) (x3) → C_77 < x3.toInt → Sat (sX2_takeMan_77 F f h x0 x2 x3) (ZI ρ c (0) (1)) := by
      intro h' x0' x2' x3' T' r_x0' i_x2' i_x3' hl
      exact ih T' r_x0' i_x2' i_x3' (by have := i_x3'.1; have := i_x3'.2; omega)
    have hc_77 : C_77 ≤ x3.toInt := by omega
    refine s_br (fun c_1 => ?_) (fun c_1 => ?_)
    · have _ := c_1
      exact (rc_le c_1 (rg_b rfl : Rg (8) (8) ((8 : Int32))) i_x3 (by decide)).elim
    · have _ := c_1
      refine s_cI (zX2_takeStep hF m1 m2 (pmA_s hA rfl) T r_x0 i_x2 i_x3) (fun o_2 T_2 i_o_2 => ?_)
      refine s_br (fun c_3 => ?_) (fun c_3 => ?_)
      · have _ := c_3
        have i_f_4 : Rg (0) (0) (o_2.1) := rg_eq c_3 (rg_b rfl : Rg (0) (0) (0 : Int32))
        exact s_some ⟨(T_2), (rg_m (rg_b rfl : Rg (0) (0) ((0 : Int32))) (by decide))⟩
      · have _ := c_3
        have i_f_5 : Rg (1) (1) (o_2.1) := rg_nlo c_3 i_o_2 (rg_b rfl : Rg (0) (0) (0 : Int32))
        refine s_br (fun c_6 => ?_) (fun c_6 => ?_)
        · have _ := c_6
          have i_f_7 : Rg (4) (4) ((hI o_2.2 x0 4)) := rg_eq c_6 (rg_b rfl : Rg (4) (4) ((4 : Int32)))
          refine s_br (fun c_8 => ?_) (fun c_8 => ?_)
          · have _ := c_8
            have i_f_9 : Rg (7) (7) (x3) := rg_eq c_8 (rg_b rfl : Rg (7) (7) ((7 : Int32)))
            exact s_some ⟨(T_2), (rg_m (rg_b rfl : Rg (1) (1) ((1 : Int32))) (by decide))⟩
          · have _ := c_8
            have i_f_10 : Rg (0) (6) (x3) := rg_nhi c_8 i_x3 (rg_b rfl : Rg (7) (7) ((7 : Int32)))
            refine s_cV (zX2_advance hF m1 (pmA_s hA rfl) T_2 r_x0) (fun o_6 T_11 => ?_)
            refine s_q (fun v_7 e_12 => ?_)
            have i_v_7 : Rg (1) (7) (v_7) := by rw [e_12]; exact (rg_add i_f_10 (rg_b rfl : Rg (1) (1) ((1 : Int32))) (by decide) : Rg (1) (7) (x3 + (1 : Int32)))
            have m_13 : (v_7).toInt = x3.toInt + 1 := by rw [e_12]; exact rg_inc i_f_10 (by decide)
            exact hk_77 T_11 r_x0 i_x2 (rg_m i_v_7 (by decide)) (by have := hc_77; omega)
        · have _ := c_6
          exact s_some ⟨(T_2), (rg_m (rg_b rfl : Rg (1) (1) ((1 : Int32))) (by decide))⟩
set_option maxRecDepth 20000 in
theorem zX2_takeMan {ρ : Nat → Nat} {c : Cm} {F : Nat} (hF : 700000 ≤ F) (m1 : c.2.1 1 = true) (m2 : c.2.1 2 = true) (hA : pmA c [(27, 999), (28, 999), (29, 999), (2, 3), (3, 2), (3, 3), (3, 4), (3, 5)]) {h : Hp} {x0 : Nat} (T : TH ρ c h) (r_x0 : ρ x0 = 3) : Sat (sX2_takeMan F h x0) (ZI ρ c (0) (1)) := by
  unfold sX2_takeMan sX2_takeMan_38
  refine s_cV (zX2_advance hF m1 (pmA_s hA rfl) T r_x0) (fun o_1 T_1 => ?_)
  refine s_dI0 (zX2_oneLetter hF m1 T_1 r_x0) (fun o_2 eb_o_2 e_o_2 i_o_2 => ?_)
  have T_2 := th_eq e_o_2 T_1
  refine s_br (fun c_3 => ?_) (fun c_3 => ?_)
  · have _ := c_3
    have i_f_4 : Rg (-1) (-1) (o_2.1) := rg_eq c_3 (rg_b rfl : Rg (-1) (-1) ((- 1 : Int32)))
    exact s_some ⟨(T_2), (rg_m (rg_b rfl : Rg (0) (0) ((0 : Int32))) (by decide))⟩
  · have _ := c_3
    have i_f_5 : Rg (0) (255) (o_2.1) := rg_nlo c_3 i_o_2 (rg_b rfl : Rg (-1) (-1) ((- 1 : Int32)))
    obtain ⟨r_4, e_r_4, q_r_4⟩ := thM T_2 r_x0 (k := 3) (i := 1) (j := 2) (k2 := 2) rfl (by decide) rfl (by decide) m2
    refine s_ref e_r_4 ?_
    refine s_dP0 (zX1_manOf hF T_2 q_r_4 (rg_m i_f_5 (by decide))) (fun o_5 eb_o_5 e_o_5 i_o_5 p_o_5 => ?_)
    have T_6 := th_eq e_o_5 T_2
    refine s_br (fun c_7 => ?_) (fun c_7 => ?_)
    · have _ := c_7
      have i_f_8 : Rg (-1) (-1) (o_5.1) := rg_eq c_7 (rg_b rfl : Rg (-1) (-1) ((- 1 : Int32)))
      refine s_ref (hr_e e_o_5 e_r_4) ?_
      refine s_br (fun c_9 => ?_) (fun c_9 => ?_)
      · have _ := c_9
        have i_f_10 : Rg (0) (11) ((hI o_5.2 r_4 3)) := rg_lt1 c_9 (thI T_6 q_r_4 (k := 2) (i := 3) rfl : Rg (0) (12) ((hI o_5.2 r_4 3))) (rg_b rfl : Rg (12) (12) ((12 : Int32)))
        refine s_cVf (S := fS [(3, 2), (3, 3), (3, 4), (3, 5)] []) T_6 (fs_sub (pmA_s hA rfl) fs_n) (zX2_advance hF (cat_m m1) fs_a (th_in _ T_6) r_x0) (fun o_9 T_11 f_o_9 => ?_)
        refine s_ref (hr_q (fr_R f_o_9 r_x0 (by decide) rfl rfl) (hr_e e_o_5 e_r_4)) ?_
        refine s_q (fun v_11 e_12 => ?_)
        have i_v_11 : Rg (0) (11) (v_11) := by rw [e_12]; exact ((rg_hi (fr_I f_o_9 q_r_4 (by decide) rfl rfl) i_f_10) : Rg (0) (11) (hI o_9 r_4 3))
        refine s_ref (hr_q (fr_R f_o_9 r_x0 (by decide) rfl rfl) (hr_e e_o_5 e_r_4)) ?_
        obtain ⟨r_13, e_r_13, q_r_13⟩ := thR T_11 q_r_4 (k := 2) (i := 14) (k2 := 27) rfl (by decide)
        refine s_ref e_r_13 ?_
        refine s_gd (by rw [thN T_11 q_r_13 (k := 27) (n := 12) rfl (by decide)]; exact rg_inB (i_v_11 : Rg (0) (11) (v_11)) (by decide)) ?_
        refine s_hq (th_wI T_11 q_r_13 (k := 27) (lo := (0)) (hi := (255)) rfl (i_f_5 : Rg (0) (255) (o_2.1)) (by decide) (by decide) (pm_a hA rfl)) (fun h_15 T_13 w_14 => ?_)
        refine s_ref (hr_w w_14 (hr_q (fr_R f_o_9 r_x0 (by decide) rfl rfl) (hr_e e_o_5 e_r_4))) ?_
        refine s_hq (th_wI T_13 q_r_4 (k := 2) (lo := (0)) (hi := (12)) rfl ((rg_m (rg_add ((rg_hw w_14 (ne_r q_r_4 q_r_13 (by decide)) (rg_hi (fr_I f_o_9 q_r_4 (by decide) rfl rfl) i_f_10)) : Rg (0) (11) ((hI h_15 r_4 3))) (rg_b rfl : Rg (1) (1) ((1 : Int32))) (by decide) : Rg (1) (12) (((hI h_15 r_4 3) + (1 : Int32)))) (by decide)) : Rg (0) (12) (((hI h_15 r_4 3) + (1 : Int32)))) (by decide) (by decide) (pm_a hA rfl)) (fun h_17 T_15 w_16 => ?_)
        have m_17 : Rg (0) (7) ((0 : Int32)) := (rg_m (rg_b rfl : Rg (0) (0) ((0 : Int32))) (by decide))
        exact zX2_takeMan_77 hF m1 m2 (pmA_s hA rfl) F T_15 r_x0 i_v_11 (rg_m (rg_b rfl : Rg (0) (0) ((0 : Int32))) (by decide)) (by have := m_17.1; have := m_17.2; omega)
      · have _ := c_9
        have i_f_18 : Rg (12) (12) ((hI o_5.2 r_4 3)) := rg_le2 (nlt_le c_9) (rg_b rfl : Rg (12) (12) ((12 : Int32))) (thI T_6 q_r_4 (k := 2) (i := 3) rfl : Rg (0) (12) ((hI o_5.2 r_4 3)))
        exact s_some ⟨(T_6), (rg_m (rg_b rfl : Rg (0) (0) ((0 : Int32))) (by decide))⟩
    · have _ := c_7
      have i_f_19 : Rg (0) (11) (o_5.1) := rg_nlo c_7 i_o_5 (rg_b rfl : Rg (-1) (-1) ((- 1 : Int32)))
      have p_f_20 := p_o_5 c_7
      exact s_some ⟨(T_6), (rg_m (rg_b rfl : Rg (0) (0) ((0 : Int32))) (by decide))⟩
set_option maxRecDepth 20000 in
theorem zX2_onceWord {ρ : Nat → Nat} {c : Cm} {F : Nat} (hF : 700000 ≤ F) (m1 : c.2.1 1 = true) {h : Hp} {x0 : Nat} (T : TH ρ c h) (r_x0 : ρ x0 = 3) : Sat (sX2_onceWord F h x0) (ZI0 h (0) (512)) := by
  unfold sX2_onceWord sX2_onceWord_123
  refine s_dI0 (zX2_isWord hF m1 T r_x0) (fun o_1 eb_o_1 e_o_1 i_o_1 => ?_)
  have T_1 := th_eq e_o_1 T
  refine s_br (fun c_2 => ?_) (fun c_2 => ?_)
  · have _ := c_2
    have i_f_3 : Rg (0) (0) (o_1.1) := rg_eq c_2 (rg_b rfl : Rg (0) (0) (0 : Int32))
    refine s_dI0 (zX2_isWord hF m1 T_1 r_x0) (fun o_3 eb_o_3 e_o_3 i_o_3 => ?_)
    have T_4 := th_eq e_o_3 T_1
    refine s_br (fun c_5 => ?_) (fun c_5 => ?_)
    · have _ := c_5
      have i_f_6 : Rg (0) (0) (o_3.1) := rg_eq c_5 (rg_b rfl : Rg (0) (0) (0 : Int32))
      refine s_dI0 (zX2_isWord hF m1 T_4 r_x0) (fun o_5 eb_o_5 e_o_5 i_o_5 => ?_)
      have T_7 := th_eq e_o_5 T_4
      refine s_br (fun c_8 => ?_) (fun c_8 => ?_)
      · have _ := c_8
        have i_f_9 : Rg (0) (0) (o_5.1) := rg_eq c_8 (rg_b rfl : Rg (0) (0) (0 : Int32))
        refine s_dI0 (zX2_isWord hF m1 T_7 r_x0) (fun o_7 eb_o_7 e_o_7 i_o_7 => ?_)
        have T_10 := th_eq e_o_7 T_7
        refine s_br (fun c_11 => ?_) (fun c_11 => ?_)
        · have _ := c_11
          have i_f_12 : Rg (0) (0) (o_7.1) := rg_eq c_11 (rg_b rfl : Rg (0) (0) (0 : Int32))
          refine s_dI0 (zX2_isWord hF m1 T_10 r_x0) (fun o_9 eb_o_9 e_o_9 i_o_9 => ?_)
          have T_13 := th_eq e_o_9 T_10
          refine s_br (fun c_14 => ?_) (fun c_14 => ?_)
          · have _ := c_14
            have i_f_15 : Rg (0) (0) (o_9.1) := rg_eq c_14 (rg_b rfl : Rg (0) (0) (0 : Int32))
            refine s_dI0 (zX2_isWord hF m1 T_13 r_x0) (fun o_11 eb_o_11 e_o_11 i_o_11 => ?_)
            have T_16 := th_eq e_o_11 T_13
            refine s_br (fun c_17 => ?_) (fun c_17 => ?_)
            · have _ := c_17
              have i_f_18 : Rg (0) (0) (o_11.1) := rg_eq c_17 (rg_b rfl : Rg (0) (0) (0 : Int32))
              refine s_dI0 (zX2_isWord hF m1 T_16 r_x0) (fun o_13 eb_o_13 e_o_13 i_o_13 => ?_)
              have T_19 := th_eq e_o_13 T_16
              refine s_br (fun c_20 => ?_) (fun c_20 => ?_)
              · have _ := c_20
                have i_f_21 : Rg (0) (0) (o_13.1) := rg_eq c_20 (rg_b rfl : Rg (0) (0) (0 : Int32))
                refine s_dI0 (zX2_isWord hF m1 T_19 r_x0) (fun o_15 eb_o_15 e_o_15 i_o_15 => ?_)
                have T_22 := th_eq e_o_15 T_19
                refine s_br (fun c_23 => ?_) (fun c_23 => ?_)
                · have _ := c_23
                  have i_f_24 : Rg (0) (0) (o_15.1) := rg_eq c_23 (rg_b rfl : Rg (0) (0) (0 : Int32))
                  refine s_dI0 (zX2_isWord hF m1 T_22 r_x0) (fun o_17 eb_o_17 e_o_17 i_o_17 => ?_)
                  have T_25 := th_eq e_o_17 T_22
                  refine s_br (fun c_26 => ?_) (fun c_26 => ?_)
                  · have _ := c_26
                    have i_f_27 : Rg (0) (0) (o_17.1) := rg_eq c_26 (rg_b rfl : Rg (0) (0) (0 : Int32))
                    refine s_dI0 (zX2_isWord hF m1 T_25 r_x0) (fun o_19 eb_o_19 e_o_19 i_o_19 => ?_)
                    have T_28 := th_eq e_o_19 T_25
                    refine s_br (fun c_29 => ?_) (fun c_29 => ?_)
                    · have _ := c_29
                      have i_f_30 : Rg (0) (0) (o_19.1) := rg_eq c_29 (rg_b rfl : Rg (0) (0) (0 : Int32))
                      exact s_some ⟨(e_o_19.trans (e_o_17.trans (e_o_15.trans (e_o_13.trans (e_o_11.trans (e_o_9.trans (e_o_7.trans (e_o_5.trans (e_o_3.trans (e_o_1.trans rfl)))))))))), (rg_m (rg_b rfl : Rg (0) (0) ((0 : Int32))) (by decide))⟩
                    · have _ := c_29
                      have i_f_31 : Rg (1) (1) (o_19.1) := rg_nlo c_29 i_o_19 (rg_b rfl : Rg (0) (0) (0 : Int32))
                      exact s_some ⟨(e_o_19.trans (e_o_17.trans (e_o_15.trans (e_o_13.trans (e_o_11.trans (e_o_9.trans (e_o_7.trans (e_o_5.trans (e_o_3.trans (e_o_1.trans rfl)))))))))), (rg_m (rg_b rfl : Rg (512) (512) ((512 : Int32))) (by decide))⟩
                  · have _ := c_26
                    have i_f_32 : Rg (1) (1) (o_17.1) := rg_nlo c_26 i_o_17 (rg_b rfl : Rg (0) (0) (0 : Int32))
                    exact s_some ⟨(e_o_17.trans (e_o_15.trans (e_o_13.trans (e_o_11.trans (e_o_9.trans (e_o_7.trans (e_o_5.trans (e_o_3.trans (e_o_1.trans rfl))))))))), (rg_m (rg_b rfl : Rg (256) (256) ((256 : Int32))) (by decide))⟩
                · have _ := c_23
                  have i_f_33 : Rg (1) (1) (o_15.1) := rg_nlo c_23 i_o_15 (rg_b rfl : Rg (0) (0) (0 : Int32))
                  exact s_some ⟨(e_o_15.trans (e_o_13.trans (e_o_11.trans (e_o_9.trans (e_o_7.trans (e_o_5.trans (e_o_3.trans (e_o_1.trans rfl)))))))), (rg_m (rg_b rfl : Rg (128) (128) ((128 : Int32))) (by decide))⟩
              · have _ := c_20
                have i_f_34 : Rg (1) (1) (o_13.1) := rg_nlo c_20 i_o_13 (rg_b rfl : Rg (0) (0) (0 : Int32))
                exact s_some ⟨(e_o_13.trans (e_o_11.trans (e_o_9.trans (e_o_7.trans (e_o_5.trans (e_o_3.trans (e_o_1.trans rfl))))))), (rg_m (rg_b rfl : Rg (64) (64) ((64 : Int32))) (by decide))⟩
            · have _ := c_17
              have i_f_35 : Rg (1) (1) (o_11.1) := rg_nlo c_17 i_o_11 (rg_b rfl : Rg (0) (0) (0 : Int32))
              exact s_some ⟨(e_o_11.trans (e_o_9.trans (e_o_7.trans (e_o_5.trans (e_o_3.trans (e_o_1.trans rfl)))))), (rg_m (rg_b rfl : Rg (32) (32) ((32 : Int32))) (by decide))⟩
          · have _ := c_14
            have i_f_36 : Rg (1) (1) (o_9.1) := rg_nlo c_14 i_o_9 (rg_b rfl : Rg (0) (0) (0 : Int32))
            exact s_some ⟨(e_o_9.trans (e_o_7.trans (e_o_5.trans (e_o_3.trans (e_o_1.trans rfl))))), (rg_m (rg_b rfl : Rg (16) (16) ((16 : Int32))) (by decide))⟩
        · have _ := c_11
          have i_f_37 : Rg (1) (1) (o_7.1) := rg_nlo c_11 i_o_7 (rg_b rfl : Rg (0) (0) (0 : Int32))
          exact s_some ⟨(e_o_7.trans (e_o_5.trans (e_o_3.trans (e_o_1.trans rfl)))), (rg_m (rg_b rfl : Rg (8) (8) ((8 : Int32))) (by decide))⟩
      · have _ := c_8
        have i_f_38 : Rg (1) (1) (o_5.1) := rg_nlo c_8 i_o_5 (rg_b rfl : Rg (0) (0) (0 : Int32))
        exact s_some ⟨(e_o_5.trans (e_o_3.trans (e_o_1.trans rfl))), (rg_m (rg_b rfl : Rg (4) (4) ((4 : Int32))) (by decide))⟩
    · have _ := c_5
      have i_f_39 : Rg (1) (1) (o_3.1) := rg_nlo c_5 i_o_3 (rg_b rfl : Rg (0) (0) (0 : Int32))
      exact s_some ⟨(e_o_3.trans (e_o_1.trans rfl)), (rg_m (rg_b rfl : Rg (2) (2) ((2 : Int32))) (by decide))⟩
  · have _ := c_2
    have i_f_40 : Rg (1) (1) (o_1.1) := rg_nlo c_2 i_o_1 (rg_b rfl : Rg (0) (0) (0 : Int32))
    exact s_some ⟨(e_o_1.trans rfl), (rg_m (rg_b rfl : Rg (1) (1) ((1 : Int32))) (by decide))⟩
set_option maxRecDepth 20000 in
theorem zX2_takeBlast_16 {ρ : Nat → Nat} {c : Cm} {F : Nat} (hF : 700000 ≤ F) (m1 : c.2.1 1 = true) (m2 : c.2.1 2 = true) (hA : pmA c [(2, 11), (3, 2), (3, 3), (3, 4), (3, 5)]) : ∀ (f : Nat) {h : Hp} {x0 : Nat} {x1 : Int32}, TH ρ c h → ρ x0 = 3 → Rg (0) (12) (x1) → (12 - x1.toInt).toNat < f → Sat (sX2_takeBlast_16 F f h x0 x1) (ZI ρ c (0) (1)) := by
  intro f
  induction f with
  | zero => intros; omega
  | succ f ih =>
    intro h x0 x1 T r_x0 i_x1 hm
    rw [sX2_takeBlast_16]
    unfold sX2_takeBlast_81 sX2_takeBlast_54
    obtain ⟨C_16, hC_16⟩ : ∃ C : Int, C = x1.toInt := ⟨_, rfl⟩
    have hk_16 : ∀ {h : Hp} {x0 : Nat} {x1 : Int32}, TH ρ c h → ρ x0 = 3 → Rg (0) (12) (x1) → C_16 < x1.toInt → Sat (sX2_takeBlast_16 F f h x0 x1) (ZI ρ c (0) (1)) := by
      intro h' x0' x1' T' r_x0' i_x1' hl
      exact ih T' r_x0' i_x1' (by have := i_x1'.1; have := i_x1'.2; omega)
    have hc_16 : C_16 ≤ x1.toInt := by omega
    refine s_br (fun c_1 => ?_) (fun c_1 => ?_)
    · have _ := c_1
      have i_f_2 : Rg (12) (12) (x1) := rg_le2 c_1 (rg_b rfl : Rg (12) (12) ((12 : Int32))) i_x1
      exact s_some ⟨(T), (rg_m (rg_b rfl : Rg (1) (1) ((1 : Int32))) (by decide))⟩
    · have _ := c_1
      have i_f_3 : Rg (0) (11) (x1) := rg_lt1 (nle_lt c_1) i_x1 (rg_b rfl : Rg (12) (12) ((12 : Int32)))
      refine s_br (fun c_4 => ?_) (fun c_4 => ?_)
      · have _ := c_4
        have i_f_5 : Rg (1) (1) ((hI h x0 4)) := rg_eq c_4 (rg_b rfl : Rg (1) (1) ((1 : Int32)))
        refine s_dI0 (zX2_toldMan hF m1 m2 T r_x0) (fun o_3 eb_o_3 e_o_3 i_o_3 => ?_)
        have T_6 := th_eq e_o_3 T
        refine s_br (fun c_7 => ?_) (fun c_7 => ?_)
        · have _ := c_7
          have i_f_8 : Rg (-1) (-1) (o_3.1) := rg_eq c_7 (rg_b rfl : Rg (-1) (-1) ((- 1 : Int32)))
          exact s_some ⟨(T_6), (rg_m (rg_b rfl : Rg (0) (0) ((0 : Int32))) (by decide))⟩
        · have _ := c_7
          have i_f_9 : Rg (0) (11) (o_3.1) := rg_nlo c_7 i_o_3 (rg_b rfl : Rg (-1) (-1) ((- 1 : Int32)))
          obtain ⟨r_5, e_r_5, q_r_5⟩ := thM T_6 r_x0 (k := 3) (i := 1) (j := 2) (k2 := 2) rfl (by decide) rfl (by decide) m2
          refine s_ref e_r_5 ?_
          refine s_br (fun c_10 => ?_) (fun c_10 => ?_)
          · have _ := c_10
            have i_f_11 : Rg (0) (0) ((((hI o_3.2 r_5 11) >>> (o_3.1 &&& 31)) &&& (1 : Int32))) := rg_eq c_10 (rg_b rfl : Rg (0) (0) (0 : Int32))
            refine s_ref e_r_5 ?_
            refine s_hq (th_wI T_6 q_r_5 (k := 2) (lo := (0)) (hi := (4095)) rfl ((rg_or (n := 12) (rg_m (thI T_6 q_r_5 (k := 2) (i := 11) rfl : Rg (0) (4095) ((hI o_3.2 r_5 11))) (by decide) : Rg (0) (4095) ((hI o_3.2 r_5 11))) (rg_m (rg_shl (n := 11) (rg_m (rg_b rfl : Rg (1) (1) ((1 : Int32))) (by decide) : Rg (0) (1) ((1 : Int32))) (rg_m i_f_9 (by decide) : Rg (0) (11) (o_3.1)) (by decide) : Rg (0) (2048) (((1 : Int32) <<< (o_3.1 &&& 31)))) (by decide) : Rg (0) (2048) (((1 : Int32) <<< (o_3.1 &&& 31)))) (by decide) : Rg (0) (4095) (((hI o_3.2 r_5 11) ||| ((1 : Int32) <<< (o_3.1 &&& 31))))) : Rg (0) (4095) (((hI o_3.2 r_5 11) ||| ((1 : Int32) <<< (o_3.1 &&& 31))))) (by decide) (by decide) (pm_a hA rfl)) (fun h_8 T_12 w_13 => ?_)
            refine s_cV (zX2_advance hF m1 (pmA_s hA rfl) T_12 r_x0) (fun o_9 T_14 => ?_)
            refine s_q (fun v_10 e_15 => ?_)
            have i_v_10 : Rg (1) (12) (v_10) := by rw [e_15]; exact (rg_add i_f_3 (rg_b rfl : Rg (1) (1) ((1 : Int32))) (by decide) : Rg (1) (12) (x1 + (1 : Int32)))
            have m_16 : (v_10).toInt = x1.toInt + 1 := by rw [e_15]; exact rg_inc i_f_3 (by decide)
            exact hk_16 T_14 r_x0 (rg_m i_v_10 (by decide)) (by have := hc_16; omega)
          · have _ := c_10
            have i_f_17 : Rg (1) (1) ((((hI o_3.2 r_5 11) >>> (o_3.1 &&& 31)) &&& (1 : Int32))) := rg_nlo c_10 (rg_and (rg_b rfl : Rg (1) (1) ((1 : Int32))) (by decide) : Rg (0) (1) ((((hI o_3.2 r_5 11) >>> (o_3.1 &&& 31)) &&& (1 : Int32)))) (rg_b rfl : Rg (0) (0) (0 : Int32))
            exact s_some ⟨(T_6), (rg_m (rg_b rfl : Rg (0) (0) ((0 : Int32))) (by decide))⟩
      · have _ := c_4
        exact s_some ⟨(T), (rg_m (rg_b rfl : Rg (1) (1) ((1 : Int32))) (by decide))⟩
set_option maxRecDepth 20000 in
theorem zX2_takeBlast {ρ : Nat → Nat} {c : Cm} {F : Nat} (hF : 700000 ≤ F) (m1 : c.2.1 1 = true) (m2 : c.2.1 2 = true) (hA : pmA c [(2, 10), (2, 11), (3, 2), (3, 3), (3, 4), (3, 5)]) {h : Hp} {x0 : Nat} (T : TH ρ c h) (r_x0 : ρ x0 = 3) : Sat (sX2_takeBlast F h x0) (ZI ρ c (0) (1)) := by
  unfold sX2_takeBlast 
  obtain ⟨r_1, e_r_1, q_r_1⟩ := thM T r_x0 (k := 3) (i := 1) (j := 2) (k2 := 2) rfl (by decide) rfl (by decide) m2
  refine s_ref e_r_1 ?_
  refine s_hq (th_wI T q_r_1 (k := 2) (lo := (0)) (hi := (15)) rfl ((rg_or (n := 4) (rg_m (thI T q_r_1 (k := 2) (i := 10) rfl : Rg (0) (15) ((hI h r_1 10))) (by decide) : Rg (0) (15) ((hI h r_1 10))) (rg_m (rg_b rfl : Rg (8) (8) ((8 : Int32))) (by decide) : Rg (0) (8) ((8 : Int32))) (by decide) : Rg (0) (15) (((hI h r_1 10) ||| (8 : Int32)))) : Rg (0) (15) (((hI h r_1 10) ||| (8 : Int32)))) (by decide) (by decide) (pm_a hA rfl)) (fun h_2 T_1 w_2 => ?_)
  have m_3 : Rg (0) (12) ((0 : Int32)) := (rg_m (rg_b rfl : Rg (0) (0) ((0 : Int32))) (by decide))
  exact zX2_takeBlast_16 hF m1 m2 (pmA_s hA rfl) F T_1 r_x0 (rg_m (rg_b rfl : Rg (0) (0) ((0 : Int32))) (by decide)) (by have := m_3.1; have := m_3.2; omega)
set_option maxRecDepth 20000 in
theorem zX2_takeCastle {ρ : Nat → Nat} {c : Cm} {F : Nat} (hF : 700000 ≤ F) (m1 : c.2.1 1 = true) (m2 : c.2.1 2 = true) (hA : pmA c [(2, 6), (3, 2), (3, 3), (3, 4), (3, 5)]) {h : Hp} {x0 : Nat} (T : TH ρ c h) (r_x0 : ρ x0 = 3) : Sat (sX2_takeCastle F h x0) (ZI ρ c (0) (1)) := by
  unfold sX2_takeCastle sX2_takeCastle_21
  refine s_dI0 (zX2_toldMan hF m1 m2 T r_x0) (fun o_1 eb_o_1 e_o_1 i_o_1 => ?_)
  have T_1 := th_eq e_o_1 T
  refine s_br (fun c_2 => ?_) (fun c_2 => ?_)
  · have _ := c_2
    have i_f_3 : Rg (-1) (-1) (o_1.1) := rg_eq c_2 (rg_b rfl : Rg (-1) (-1) ((- 1 : Int32)))
    exact s_some ⟨(T_1), (rg_m (rg_b rfl : Rg (0) (0) ((0 : Int32))) (by decide))⟩
  · have _ := c_2
    have i_f_4 : Rg (0) (11) (o_1.1) := rg_nlo c_2 i_o_1 (rg_b rfl : Rg (-1) (-1) ((- 1 : Int32)))
    obtain ⟨r_3, e_r_3, q_r_3⟩ := thM T_1 r_x0 (k := 3) (i := 1) (j := 2) (k2 := 2) rfl (by decide) rfl (by decide) m2
    refine s_ref e_r_3 ?_
    refine s_br (fun c_5 => ?_) (fun c_5 => ?_)
    · have _ := c_5
      have i_f_6 : Rg (0) (11) ((hI o_1.2 r_3 4)) := rg_eq c_5.symm i_f_4
      exact s_some ⟨(T_1), (rg_m (rg_b rfl : Rg (0) (0) ((0 : Int32))) (by decide))⟩
    · have _ := c_5
      refine s_ref e_r_3 ?_
      refine s_hq (th_wI T_1 q_r_3 (k := 2) (lo := (-1)) (hi := (11)) rfl ((rg_m i_f_4 (by decide)) : Rg (-1) (11) (o_1.1)) (by decide) (by decide) (pm_a hA rfl)) (fun h_6 T_7 w_8 => ?_)
      refine s_cV (zX2_advance hF m1 (pmA_s hA rfl) T_7 r_x0) (fun o_7 T_9 => ?_)
      exact s_some ⟨(T_9), (rg_m (rg_b rfl : Rg (1) (1) ((1 : Int32))) (by decide))⟩
set_option maxRecDepth 20000 in
theorem zX2_takeChecks {ρ : Nat → Nat} {c : Cm} {F : Nat} (hF : 700000 ≤ F) (m1 : c.2.1 1 = true) (m2 : c.2.1 2 = true) (hA : pmA c [(2, 7), (3, 2), (3, 3), (3, 4), (3, 5)]) {h : Hp} {x0 : Nat} (T : TH ρ c h) (r_x0 : ρ x0 = 3) : Sat (sX2_takeChecks F h x0) (ZI ρ c (0) (1)) := by
  unfold sX2_takeChecks 
  refine s_dP0 (zX2_isNumber hF ((rg_b rfl : Rg (1) (1) ((1 : Int32))) : Rg (1) (1) ((1 : Int32))) ((rg_b rfl : Rg (9) (9) ((9 : Int32))) : Rg (9) (9) ((9 : Int32)))) (fun o_1 eb_o_1 e_o_1 i_o_1 p_o_1 => ?_)
  have T_1 := th_eq e_o_1 T
  refine s_br (fun c_2 => ?_) (fun c_2 => ?_)
  · have _ := c_2
    have i_f_3 : Rg (0) (0) (o_1.1) := rg_eq c_2 (rg_b rfl : Rg (0) (0) (0 : Int32))
    exact s_some ⟨(T_1), (rg_m (rg_b rfl : Rg (0) (0) ((0 : Int32))) (by decide))⟩
  · have _ := c_2
    have i_f_4 : Rg (1) (1) (o_1.1) := rg_nlo c_2 i_o_1 (rg_b rfl : Rg (0) (0) (0 : Int32))
    have p_f_5 := p_o_1 c_2
    obtain ⟨r_3, e_r_3, q_r_3⟩ := thM T_1 r_x0 (k := 3) (i := 1) (j := 2) (k2 := 2) rfl (by decide) rfl (by decide) m2
    refine s_ref e_r_3 ?_
    refine s_hq (th_wI T_1 q_r_3 (k := 2) (lo := (0)) (hi := (9)) rfl ((rg_m ((rg_he e_o_1 p_f_5) : Rg (1) (9) ((hI o_1.2 x0 5))) (by decide)) : Rg (0) (9) ((hI o_1.2 x0 5))) (by decide) (by decide) (pm_a hA rfl)) (fun h_4 T_6 w_7 => ?_)
    refine s_cV (zX2_advance hF m1 (pmA_s hA rfl) T_6 r_x0) (fun o_5 T_8 => ?_)
    exact s_some ⟨(T_8), (rg_m (rg_b rfl : Rg (1) (1) ((1 : Int32))) (by decide))⟩
set_option maxRecDepth 20000 in
theorem zX2_takeHill_20 {ρ : Nat → Nat} {c : Cm} {F : Nat} (hF : 700000 ≤ F) (m1 : c.2.1 1 = true) (m2 : c.2.1 2 = true) {k_2 : Hp → Nat → Int32 → Option (Int32 × Hp)} {C_2 : Int} (hk_2 : ∀ {h : Hp} {x0 : Nat} {x1 : Int32}, TH ρ c h → ρ x0 = 3 → Rg (0) (65) (x1) → C_2 < x1.toInt → Sat (k_2 h x0 x1) (ZI ρ c (0) (1))) (hA : pmA c [(2, 13), (3, 2), (3, 3), (3, 4), (3, 5)]) {h : Hp} {x0 : Nat} {x1 : Int32} (T : TH ρ c h) (r_x0 : ρ x0 = 3) (i_x1 : Rg (0) (64) (x1)) (hc_2 : C_2 ≤ x1.toInt) : Sat (sX2_takeHill_20 F k_2 h x0 x1) (ZI ρ c (0) (1)) := by
  unfold sX2_takeHill_20 sX2_takeHill_44
  refine s_dI0 (zX2_oneLetter hF m1 T r_x0) (fun o_1 eb_o_1 e_o_1 i_o_1 => ?_)
  have T_1 := th_eq e_o_1 T
  refine s_br (fun c_2 => ?_) (fun c_2 => ?_)
  · have _ := c_2
    have i_f_3 : Rg (-1) (-1) (o_1.1) := rg_eq c_2 (rg_b rfl : Rg (-1) (-1) ((- 1 : Int32)))
    exact s_some ⟨(T_1), (rg_m (rg_b rfl : Rg (0) (0) ((0 : Int32))) (by decide))⟩
  · have _ := c_2
    have i_f_4 : Rg (0) (255) (o_1.1) := rg_nlo c_2 i_o_1 (rg_b rfl : Rg (-1) (-1) ((- 1 : Int32)))
    obtain ⟨r_3, e_r_3, q_r_3⟩ := thM T_1 r_x0 (k := 3) (i := 1) (j := 2) (k2 := 2) rfl (by decide) rfl (by decide) m2
    refine s_ref e_r_3 ?_
    refine s_br (fun c_5 => ?_) (fun c_5 => ?_)
    · have _ := c_5
      have i_f_6 : Rg (-97) (7) ((o_1.1 - (97 : Int32))) := rg_lt1 c_5 (rg_sub i_f_4 (rg_b rfl : Rg (97) (97) ((97 : Int32))) (by decide) : Rg (-97) (158) ((o_1.1 - (97 : Int32)))) (thI T_1 q_r_3 (k := 2) (i := 0) rfl : Rg (0) (8) ((hI o_1.2 r_3 0)))
      have i_f_7 : Rg (0) (104) (o_1.1) := rg_bks (i_f_6 : Rg (-97) (7) ((o_1.1 - (97 : Int32)))) i_f_4 (rg_b rfl : Rg (97) (97) ((97 : Int32))) (by decide)
      refine s_cV (zX2_advance hF m1 (pmA_s hA rfl) T_1 r_x0) (fun o_5 T_8 => ?_)
      obtain ⟨r_6, e_r_6, q_r_6⟩ := thM T_8 r_x0 (k := 3) (i := 1) (j := 2) (k2 := 2) rfl (by decide) rfl (by decide) m2
      refine s_ref e_r_6 ?_
      refine s_dP0 (zX2_isNumber hF ((rg_b rfl : Rg (1) (1) ((1 : Int32))) : Rg (1) (1) ((1 : Int32))) ((thI T_8 q_r_6 (k := 2) (i := 1) rfl : Rg (0) (8) ((hI o_5 r_6 1))) : Rg (0) (8) ((hI o_5 r_6 1)))) (fun o_7 eb_o_7 e_o_7 i_o_7 p_o_7 => ?_)
      have T_9 := th_eq e_o_7 T_8
      refine s_br (fun c_10 => ?_) (fun c_10 => ?_)
      · have _ := c_10
        have i_f_11 : Rg (0) (0) (o_7.1) := rg_eq c_10 (rg_b rfl : Rg (0) (0) (0 : Int32))
        exact s_some ⟨(T_9), (rg_m (rg_b rfl : Rg (0) (0) ((0 : Int32))) (by decide))⟩
      · have _ := c_10
        have i_f_12 : Rg (1) (1) (o_7.1) := rg_nlo c_10 i_o_7 (rg_b rfl : Rg (0) (0) (0 : Int32))
        have p_f_13 := p_o_7 c_10
        refine s_ref (hr_e e_o_7 e_r_6) ?_
        refine s_q (fun v_10 e_14 => ?_)
        refine s_ref (hr_e e_o_7 e_r_6) ?_
        refine s_br (fun c_15 => ?_) (fun c_15 => ?_)
        · have _ := c_15
          refine s_ref (hr_e e_o_7 e_r_6) ?_
          refine s_hq (th_wJ T_9 q_r_6 (k := 2) (by decide) (pm_a hA rfl)) (fun h_14 T_16 w_17 => ?_)
          refine s_cV (zX2_advance hF m1 (pmA_s hA rfl) T_16 r_x0) (fun o_15 T_18 => ?_)
          refine s_q (fun v_16 e_19 => ?_)
          have i_v_16 : Rg (1) (65) (v_16) := by rw [e_19]; exact (rg_add i_x1 (rg_b rfl : Rg (1) (1) ((1 : Int32))) (by decide) : Rg (1) (65) (x1 + (1 : Int32)))
          have m_20 : (v_16).toInt = x1.toInt + 1 := by rw [e_19]; exact rg_inc i_x1 (by decide)
          exact hk_2 T_18 r_x0 (rg_m i_v_16 (by decide)) (by have := hc_2; omega)
        · have _ := c_15
          exact s_some ⟨(T_9), (rg_m (rg_b rfl : Rg (0) (0) ((0 : Int32))) (by decide))⟩
    · have _ := c_5
      have i_f_21 : Rg (0) (158) ((o_1.1 - (97 : Int32))) := rg_le2 (nlt_le c_5) (thI T_1 q_r_3 (k := 2) (i := 0) rfl : Rg (0) (8) ((hI o_1.2 r_3 0))) (rg_sub i_f_4 (rg_b rfl : Rg (97) (97) ((97 : Int32))) (by decide) : Rg (-97) (158) ((o_1.1 - (97 : Int32))))
      have i_f_22 : Rg (97) (255) (o_1.1) := rg_bks (i_f_21 : Rg (0) (158) ((o_1.1 - (97 : Int32)))) i_f_4 (rg_b rfl : Rg (97) (97) ((97 : Int32))) (by decide)
      exact s_some ⟨(T_1), (rg_m (rg_b rfl : Rg (0) (0) ((0 : Int32))) (by decide))⟩
set_option maxRecDepth 20000 in
theorem zX2_takeHill_2 {ρ : Nat → Nat} {c : Cm} {F : Nat} (hF : 700000 ≤ F) (m1 : c.2.1 1 = true) (m2 : c.2.1 2 = true) (hA : pmA c [(2, 13), (3, 2), (3, 3), (3, 4), (3, 5)]) : ∀ (f : Nat) {h : Hp} {x0 : Nat} {x1 : Int32}, TH ρ c h → ρ x0 = 3 → Rg (0) (65) (x1) → (65 - x1.toInt).toNat < f → Sat (sX2_takeHill_2 F f h x0 x1) (ZI ρ c (0) (1)) := by
  intro f
  induction f with
  | zero => intros; omega
  | succ f ih =>
    intro h x0 x1 T r_x0 i_x1 hm
    rw [sX2_takeHill_2]
    unfold sX2_takeHill_128
    obtain ⟨C_2, hC_2⟩ : ∃ C : Int, C = x1.toInt := ⟨_, rfl⟩
    have hk_2 : ∀ {h : Hp} {x0 : Nat} {x1 : Int32}, TH ρ c h → ρ x0 = 3 → Rg (0) (65) (x1) → C_2 < x1.toInt → Sat (sX2_takeHill_2 F f h x0 x1) (ZI ρ c (0) (1)) := by
      intro h' x0' x1' T' r_x0' i_x1' hl
      exact ih T' r_x0' i_x1' (by have := i_x1'.1; have := i_x1'.2; omega)
    have hc_2 : C_2 ≤ x1.toInt := by omega
    refine s_br (fun c_1 => ?_) (fun c_1 => ?_)
    · have _ := c_1
      have i_f_2 : Rg (65) (65) (x1) := rg_lt2 c_1 (rg_b rfl : Rg (64) (64) ((64 : Int32))) i_x1
      exact s_some ⟨(T), (rg_m (rg_b rfl : Rg (1) (1) ((1 : Int32))) (by decide))⟩
    · have _ := c_1
      have i_f_3 : Rg (0) (64) (x1) := rg_le1 (nlt_le c_1) i_x1 (rg_b rfl : Rg (64) (64) ((64 : Int32)))
      refine s_br (fun c_4 => ?_) (fun c_4 => ?_)
      · have _ := c_4
        have i_f_5 : Rg (0) (0) (x1) := rg_eq c_4 (rg_b rfl : Rg (0) (0) (0 : Int32))
        exact zX2_takeHill_20 hF m1 m2 @hk_2 (pmA_s hA rfl) T r_x0 (rg_m i_f_5 (by decide)) hc_2
      · have _ := c_4
        have i_f_6 : Rg (1) (64) (x1) := rg_nlo c_4 i_f_3 (rg_b rfl : Rg (0) (0) (0 : Int32))
        refine s_br (fun c_7 => ?_) (fun c_7 => ?_)
        · have _ := c_7
          have i_f_8 : Rg (1) (1) ((hI h x0 4)) := rg_eq c_7 (rg_b rfl : Rg (1) (1) ((1 : Int32)))
          exact zX2_takeHill_20 hF m1 m2 @hk_2 (pmA_s hA rfl) T r_x0 (rg_m i_f_6 (by decide)) hc_2
        · have _ := c_7
          exact s_some ⟨(T), (rg_m (rg_b rfl : Rg (1) (1) ((1 : Int32))) (by decide))⟩
set_option maxRecDepth 20000 in
theorem zX2_takeHill {ρ : Nat → Nat} {c : Cm} {F : Nat} (hF : 700000 ≤ F) (m1 : c.2.1 1 = true) (m2 : c.2.1 2 = true) (hA : pmA c [(2, 13), (3, 2), (3, 3), (3, 4), (3, 5)]) {h : Hp} {x0 : Nat} (T : TH ρ c h) (r_x0 : ρ x0 = 3) : Sat (sX2_takeHill F h x0) (ZI ρ c (0) (1)) := by
  unfold sX2_takeHill 
  have m_1 : Rg (0) (65) ((0 : Int32)) := (rg_m (rg_b rfl : Rg (0) (0) ((0 : Int32))) (by decide))
  exact zX2_takeHill_2 hF m1 m2 (pmA_s hA rfl) F T r_x0 (rg_m (rg_b rfl : Rg (0) (0) ((0 : Int32))) (by decide)) (by have := m_1.1; have := m_1.2; omega)
set_option maxRecDepth 20000 in
theorem zX2_takeRoyal {ρ : Nat → Nat} {c : Cm} {F : Nat} (hF : 700000 ≤ F) (m1 : c.2.1 1 = true) (m2 : c.2.1 2 = true) (hA : pmA c [(2, 4), (3, 2), (3, 3), (3, 4), (3, 5)]) {h : Hp} {x0 : Nat} (T : TH ρ c h) (r_x0 : ρ x0 = 3) : Sat (sX2_takeRoyal F h x0) (ZI ρ c (0) (1)) := by
  unfold sX2_takeRoyal sX2_takeRoyal_35
  refine s_dI0 (zX2_toldMan hF m1 m2 T r_x0) (fun o_1 eb_o_1 e_o_1 i_o_1 => ?_)
  have T_1 := th_eq e_o_1 T
  refine s_br (fun c_2 => ?_) (fun c_2 => ?_)
  · have _ := c_2
    have i_f_3 : Rg (-1) (-1) (o_1.1) := rg_eq c_2 (rg_b rfl : Rg (-1) (-1) ((- 1 : Int32)))
    exact s_some ⟨(T_1), (rg_m (rg_b rfl : Rg (0) (0) ((0 : Int32))) (by decide))⟩
  · have _ := c_2
    have i_f_4 : Rg (0) (11) (o_1.1) := rg_nlo c_2 i_o_1 (rg_b rfl : Rg (-1) (-1) ((- 1 : Int32)))
    obtain ⟨r_3, e_r_3, q_r_3⟩ := thM T_1 r_x0 (k := 3) (i := 1) (j := 2) (k2 := 2) rfl (by decide) rfl (by decide) m2
    refine s_ref e_r_3 ?_
    refine s_dI0 (zX1_becomesOthers hF T_1 q_r_3 (rg_m i_f_4 (by decide))) (fun o_4 eb_o_4 e_o_4 i_o_4 => ?_)
    have T_5 := th_eq e_o_4 T_1
    refine s_br (fun c_6 => ?_) (fun c_6 => ?_)
    · have _ := c_6
      have i_f_7 : Rg (0) (0) (o_4.1) := rg_eq c_6 (rg_b rfl : Rg (0) (0) (0 : Int32))
      refine s_ref (hr_e e_o_4 e_r_3) ?_
      refine s_br (fun c_8 => ?_) (fun c_8 => ?_)
      · have _ := c_8
        have i_f_9 : Rg (0) (0) ((((hI o_4.2 r_3 12) >>> (o_1.1 &&& 31)) &&& (1 : Int32))) := rg_eq c_8 (rg_b rfl : Rg (0) (0) (0 : Int32))
        refine s_ref (hr_e e_o_4 e_r_3) ?_
        refine s_hq (th_wI T_5 q_r_3 (k := 2) (lo := (-1)) (hi := (11)) rfl ((rg_m i_f_4 (by decide)) : Rg (-1) (11) (o_1.1)) (by decide) (by decide) (pm_a hA rfl)) (fun h_9 T_10 w_11 => ?_)
        refine s_cV (zX2_advance hF m1 (pmA_s hA rfl) T_10 r_x0) (fun o_10 T_12 => ?_)
        exact s_some ⟨(T_12), (rg_m (rg_b rfl : Rg (1) (1) ((1 : Int32))) (by decide))⟩
      · have _ := c_8
        have i_f_13 : Rg (1) (1) ((((hI o_4.2 r_3 12) >>> (o_1.1 &&& 31)) &&& (1 : Int32))) := rg_nlo c_8 (rg_and (rg_b rfl : Rg (1) (1) ((1 : Int32))) (by decide) : Rg (0) (1) ((((hI o_4.2 r_3 12) >>> (o_1.1 &&& 31)) &&& (1 : Int32)))) (rg_b rfl : Rg (0) (0) (0 : Int32))
        exact s_some ⟨(T_5), (rg_m (rg_b rfl : Rg (0) (0) ((0 : Int32))) (by decide))⟩
    · have _ := c_6
      have i_f_14 : Rg (1) (1) (o_4.1) := rg_nlo c_6 i_o_4 (rg_b rfl : Rg (0) (0) (0 : Int32))
      exact s_some ⟨(T_5), (rg_m (rg_b rfl : Rg (0) (0) ((0 : Int32))) (by decide))⟩
set_option maxRecDepth 20000 in
theorem zX2_wonOrLost {ρ : Nat → Nat} {c : Cm} {F : Nat} (hF : 700000 ≤ F) (m1 : c.2.1 1 = true) (hA : pmA c [(3, 2), (3, 3), (3, 4), (3, 5)]) {h : Hp} {x0 : Nat} (T : TH ρ c h) (r_x0 : ρ x0 = 3) : Sat (sX2_wonOrLost F h x0) (ZI ρ c (0) (2)) := by
  unfold sX2_wonOrLost sX2_wonOrLost_27 sX2_wonOrLost_36
  refine s_dI0 (zX2_isWord hF m1 T r_x0) (fun o_1 eb_o_1 e_o_1 i_o_1 => ?_)
  have T_1 := th_eq e_o_1 T
  refine s_br (fun c_2 => ?_) (fun c_2 => ?_)
  · have _ := c_2
    have i_f_3 : Rg (0) (0) (o_1.1) := rg_eq c_2 (rg_b rfl : Rg (0) (0) (0 : Int32))
    refine s_dI0 (zX2_isWord hF m1 T_1 r_x0) (fun o_3 eb_o_3 e_o_3 i_o_3 => ?_)
    have T_4 := th_eq e_o_3 T_1
    refine s_br (fun c_5 => ?_) (fun c_5 => ?_)
    · have _ := c_5
      have i_f_6 : Rg (0) (0) (o_3.1) := rg_eq c_5 (rg_b rfl : Rg (0) (0) (0 : Int32))
      refine s_br (fun c_7 => ?_) (fun c_7 => ?_)
      · have _ := c_7
        exact s_some ⟨(T_4), (rg_m (rg_b rfl : Rg (0) (0) ((0 : Int32))) (by decide))⟩
      · have _ := c_7
        exact (rc_ne c_7 (rg_b rfl : Rg (0) (0) ((0 : Int32))) (rg_b rfl : Rg (0) (0) (0 : Int32))).elim
    · have _ := c_5
      have i_f_8 : Rg (1) (1) (o_3.1) := rg_nlo c_5 i_o_3 (rg_b rfl : Rg (0) (0) (0 : Int32))
      refine s_br (fun c_9 => ?_) (fun c_9 => ?_)
      · have _ := c_9
        exact (rc_eq c_9 (rg_b rfl : Rg (2) (2) ((2 : Int32))) (rg_b rfl : Rg (0) (0) (0 : Int32)) (by decide)).elim
      · have _ := c_9
        refine s_cV (zX2_advance hF m1 (pmA_s hA rfl) T_4 r_x0) (fun o_2q4 T_10 => ?_)
        exact s_some ⟨(T_10), (rg_m (rg_b rfl : Rg (2) (2) ((2 : Int32))) (by decide))⟩
  · have _ := c_2
    have i_f_11 : Rg (1) (1) (o_1.1) := rg_nlo c_2 i_o_1 (rg_b rfl : Rg (0) (0) (0 : Int32))
    refine s_br (fun c_12 => ?_) (fun c_12 => ?_)
    · have _ := c_12
      exact (rc_eq c_12 (rg_b rfl : Rg (1) (1) ((1 : Int32))) (rg_b rfl : Rg (0) (0) (0 : Int32)) (by decide)).elim
    · have _ := c_12
      refine s_cV (zX2_advance hF m1 (pmA_s hA rfl) T_1 r_x0) (fun o_2q7 T_13 => ?_)
      exact s_some ⟨(T_13), (rg_m (rg_b rfl : Rg (1) (1) ((1 : Int32))) (by decide))⟩
set_option maxRecDepth 20000 in
theorem zX2_takeOnce {ρ : Nat → Nat} {c : Cm} {F : Nat} (hF : 700000 ≤ F) (m1 : c.2.1 1 = true) (m2 : c.2.1 2 = true) (hA : pmA c [(2, 4), (2, 6), (2, 7), (2, 8), (2, 9), (2, 10), (2, 11), (2, 13), (3, 2), (3, 3), (3, 4), (3, 5)]) {h : Hp} {x0 : Nat} {x1 : Int32} (T : TH ρ c h) (r_x0 : ρ x0 = 3) (i_x1 : Rg (1) (512) (x1)) : Sat (sX2_takeOnce F h x0 x1) (ZI ρ c (0) (1)) := by
  unfold sX2_takeOnce sX2_takeOnce_180 sX2_takeOnce_207
  refine s_br (fun c_1 => ?_) (fun c_1 => ?_)
  · have _ := c_1
    have i_f_2 : Rg (1) (1) (x1) := rg_eq c_1 (rg_b rfl : Rg (1) (1) ((1 : Int32)))
    refine s_cI (zX2_takeRoyal hF m1 m2 (pmA_s hA rfl) T r_x0) (fun o_1 T_3 i_o_1 => ?_)
    refine s_gd (rg_bool i_o_1) ?_
    exact s_some ⟨(T_3), i_o_1⟩
  · have _ := c_1
    have i_f_4 : Rg (2) (512) (x1) := rg_nlo c_1 i_x1 (rg_b rfl : Rg (1) (1) ((1 : Int32)))
    refine s_br (fun c_5 => ?_) (fun c_5 => ?_)
    · have _ := c_5
      have i_f_6 : Rg (2) (2) (x1) := rg_eq c_5 (rg_b rfl : Rg (2) (2) ((2 : Int32)))
      refine s_cI (zX2_takeCastle hF m1 m2 (pmA_s hA rfl) T r_x0) (fun o_4 T_7 i_o_4 => ?_)
      refine s_gd (rg_bool i_o_4) ?_
      exact s_some ⟨(T_7), i_o_4⟩
    · have _ := c_5
      have i_f_8 : Rg (3) (512) (x1) := rg_nlo c_5 i_f_4 (rg_b rfl : Rg (2) (2) ((2 : Int32)))
      refine s_br (fun c_9 => ?_) (fun c_9 => ?_)
      · have _ := c_9
        have i_f_10 : Rg (4) (4) (x1) := rg_eq c_9 (rg_b rfl : Rg (4) (4) ((4 : Int32)))
        obtain ⟨r_7, e_r_7, q_r_7⟩ := thM T r_x0 (k := 3) (i := 1) (j := 2) (k2 := 2) rfl (by decide) rfl (by decide) m2
        refine s_ref e_r_7 ?_
        refine s_hq (th_wI T q_r_7 (k := 2) (lo := (0)) (hi := (15)) rfl ((rg_or (n := 4) (rg_m (thI T q_r_7 (k := 2) (i := 10) rfl : Rg (0) (15) ((hI h r_7 10))) (by decide) : Rg (0) (15) ((hI h r_7 10))) (rg_m (rg_b rfl : Rg (1) (1) ((1 : Int32))) (by decide) : Rg (0) (1) ((1 : Int32))) (by decide) : Rg (0) (15) (((hI h r_7 10) ||| (1 : Int32)))) : Rg (0) (15) (((hI h r_7 10) ||| (1 : Int32)))) (by decide) (by decide) (pm_a hA rfl)) (fun h_8 T_11 w_12 => ?_)
        exact s_some ⟨(T_11), (rg_m (rg_b rfl : Rg (1) (1) ((1 : Int32))) (by decide))⟩
      · have _ := c_9
        refine s_br (fun c_13 => ?_) (fun c_13 => ?_)
        · have _ := c_13
          have i_f_14 : Rg (8) (8) (x1) := rg_eq c_13 (rg_b rfl : Rg (8) (8) ((8 : Int32)))
          obtain ⟨r_10, e_r_10, q_r_10⟩ := thM T r_x0 (k := 3) (i := 1) (j := 2) (k2 := 2) rfl (by decide) rfl (by decide) m2
          refine s_ref e_r_10 ?_
          refine s_hq (th_wI T q_r_10 (k := 2) (lo := (0)) (hi := (15)) rfl ((rg_or (n := 4) (rg_m (thI T q_r_10 (k := 2) (i := 10) rfl : Rg (0) (15) ((hI h r_10 10))) (by decide) : Rg (0) (15) ((hI h r_10 10))) (rg_m (rg_b rfl : Rg (2) (2) ((2 : Int32))) (by decide) : Rg (0) (2) ((2 : Int32))) (by decide) : Rg (0) (15) (((hI h r_10 10) ||| (2 : Int32)))) : Rg (0) (15) (((hI h r_10 10) ||| (2 : Int32)))) (by decide) (by decide) (pm_a hA rfl)) (fun h_11 T_15 w_16 => ?_)
          exact s_some ⟨(T_15), (rg_m (rg_b rfl : Rg (1) (1) ((1 : Int32))) (by decide))⟩
        · have _ := c_13
          refine s_br (fun c_17 => ?_) (fun c_17 => ?_)
          · have _ := c_17
            have i_f_18 : Rg (16) (16) (x1) := rg_eq c_17 (rg_b rfl : Rg (16) (16) ((16 : Int32)))
            obtain ⟨r_13, e_r_13, q_r_13⟩ := thM T r_x0 (k := 3) (i := 1) (j := 2) (k2 := 2) rfl (by decide) rfl (by decide) m2
            refine s_ref e_r_13 ?_
            refine s_hq (th_wI T q_r_13 (k := 2) (lo := (0)) (hi := (15)) rfl ((rg_or (n := 4) (rg_m (thI T q_r_13 (k := 2) (i := 10) rfl : Rg (0) (15) ((hI h r_13 10))) (by decide) : Rg (0) (15) ((hI h r_13 10))) (rg_m (rg_b rfl : Rg (4) (4) ((4 : Int32))) (by decide) : Rg (0) (4) ((4 : Int32))) (by decide) : Rg (0) (15) (((hI h r_13 10) ||| (4 : Int32)))) : Rg (0) (15) (((hI h r_13 10) ||| (4 : Int32)))) (by decide) (by decide) (pm_a hA rfl)) (fun h_14 T_19 w_20 => ?_)
            exact s_some ⟨(T_19), (rg_m (rg_b rfl : Rg (1) (1) ((1 : Int32))) (by decide))⟩
          · have _ := c_17
            refine s_br (fun c_21 => ?_) (fun c_21 => ?_)
            · have _ := c_21
              have i_f_22 : Rg (32) (32) (x1) := rg_eq c_21 (rg_b rfl : Rg (32) (32) ((32 : Int32)))
              refine s_cI (zX2_takeBlast hF m1 m2 (pmA_s hA rfl) T r_x0) (fun o_16 T_23 i_o_16 => ?_)
              refine s_gd (rg_bool i_o_16) ?_
              exact s_some ⟨(T_23), i_o_16⟩
            · have _ := c_21
              refine s_br (fun c_24 => ?_) (fun c_24 => ?_)
              · have _ := c_24
                have i_f_25 : Rg (64) (64) (x1) := rg_eq c_24 (rg_b rfl : Rg (64) (64) ((64 : Int32)))
                refine s_cI (zX2_takeChecks hF m1 m2 (pmA_s hA rfl) T r_x0) (fun o_19 T_26 i_o_19 => ?_)
                refine s_gd (rg_bool i_o_19) ?_
                exact s_some ⟨(T_26), i_o_19⟩
              · have _ := c_24
                refine s_br (fun c_27 => ?_) (fun c_27 => ?_)
                · have _ := c_27
                  have i_f_28 : Rg (128) (128) (x1) := rg_eq c_27 (rg_b rfl : Rg (128) (128) ((128 : Int32)))
                  refine s_cI (zX2_takeHill hF m1 m2 (pmA_s hA rfl) T r_x0) (fun o_22 T_29 i_o_22 => ?_)
                  refine s_gd (rg_bool i_o_22) ?_
                  exact s_some ⟨(T_29), i_o_22⟩
                · have _ := c_27
                  refine s_br (fun c_30 => ?_) (fun c_30 => ?_)
                  · have _ := c_30
                    have i_f_31 : Rg (256) (256) (x1) := rg_eq c_30 (rg_b rfl : Rg (256) (256) ((256 : Int32)))
                    obtain ⟨r_25, e_r_25, q_r_25⟩ := thM T r_x0 (k := 3) (i := 1) (j := 2) (k2 := 2) rfl (by decide) rfl (by decide) m2
                    refine s_ref e_r_25 ?_
                    refine s_cI (zX2_wonOrLost hF m1 (pmA_s hA rfl) T r_x0) (fun o_26 T_32 i_o_26 => ?_)
                    refine s_hq (th_wI T_32 q_r_25 (k := 2) (lo := (0)) (hi := (2)) rfl (i_o_26 : Rg (0) (2) (o_26.1)) (by decide) (by decide) (pm_a hA rfl)) (fun h_27 T_33 w_34 => ?_)
                    obtain ⟨r_28, e_r_28, q_r_28⟩ := thM T_33 r_x0 (k := 3) (i := 1) (j := 2) (k2 := 2) rfl (by decide) rfl (by decide) m2
                    refine s_ref e_r_28 ?_
                    refine s_br (fun c_35 => ?_) (fun c_35 => ?_)
                    · have _ := c_35
                      have i_f_36 : Rg (0) (0) ((hI h_27 r_28 8)) := rg_eq c_35 (rg_b rfl : Rg (0) (0) (0 : Int32))
                      refine s_gd (rg_bool (rg_m (rg_b rfl : Rg (0) (0) ((0 : Int32))) (by decide))) ?_
                      exact s_some ⟨(T_33), (rg_m (rg_b rfl : Rg (0) (0) ((0 : Int32))) (by decide))⟩
                    · have _ := c_35
                      have i_f_37 : Rg (1) (2) ((hI h_27 r_28 8)) := rg_nlo c_35 (thI T_33 q_r_28 (k := 2) (i := 8) rfl : Rg (0) (2) ((hI h_27 r_28 8))) (rg_b rfl : Rg (0) (0) (0 : Int32))
                      refine s_gd (rg_bool (rg_m (rg_b rfl : Rg (1) (1) ((1 : Int32))) (by decide))) ?_
                      exact s_some ⟨(T_33), (rg_m (rg_b rfl : Rg (1) (1) ((1 : Int32))) (by decide))⟩
                  · have _ := c_30
                    obtain ⟨r_31, e_r_31, q_r_31⟩ := thM T r_x0 (k := 3) (i := 1) (j := 2) (k2 := 2) rfl (by decide) rfl (by decide) m2
                    refine s_ref e_r_31 ?_
                    refine s_cI (zX2_wonOrLost hF m1 (pmA_s hA rfl) T r_x0) (fun o_32 T_38 i_o_32 => ?_)
                    refine s_hq (th_wI T_38 q_r_31 (k := 2) (lo := (0)) (hi := (2)) rfl (i_o_32 : Rg (0) (2) (o_32.1)) (by decide) (by decide) (pm_a hA rfl)) (fun h_33 T_39 w_40 => ?_)
                    obtain ⟨r_34, e_r_34, q_r_34⟩ := thM T_39 r_x0 (k := 3) (i := 1) (j := 2) (k2 := 2) rfl (by decide) rfl (by decide) m2
                    refine s_ref e_r_34 ?_
                    refine s_br (fun c_41 => ?_) (fun c_41 => ?_)
                    · have _ := c_41
                      have i_f_42 : Rg (0) (0) ((hI h_33 r_34 9)) := rg_eq c_41 (rg_b rfl : Rg (0) (0) (0 : Int32))
                      refine s_gd (rg_bool (rg_m (rg_b rfl : Rg (0) (0) ((0 : Int32))) (by decide))) ?_
                      exact s_some ⟨(T_39), (rg_m (rg_b rfl : Rg (0) (0) ((0 : Int32))) (by decide))⟩
                    · have _ := c_41
                      have i_f_43 : Rg (1) (2) ((hI h_33 r_34 9)) := rg_nlo c_41 (thI T_39 q_r_34 (k := 2) (i := 9) rfl : Rg (0) (2) ((hI h_33 r_34 9))) (rg_b rfl : Rg (0) (0) (0 : Int32))
                      refine s_gd (rg_bool (rg_m (rg_b rfl : Rg (1) (1) ((1 : Int32))) (by decide))) ?_
                      exact s_some ⟨(T_39), (rg_m (rg_b rfl : Rg (1) (1) ((1 : Int32))) (by decide))⟩
set_option maxRecDepth 20000 in
theorem zX2_takeOther_26 {ρ : Nat → Nat} {c : Cm} {F : Nat} (hF : 700000 ≤ F) (m1 : c.2.1 1 = true) (m2 : c.2.1 2 = true) (hA : pmA c [(2, 4), (2, 6), (2, 7), (2, 8), (2, 9), (2, 10), (2, 11), (2, 13), (3, 2), (3, 3), (3, 4), (3, 5), (3, 6)]) {h : Hp} {x0 : Nat} {x1 : Int32} {t0 : Int32} (T : TH ρ c h) (r_x0 : ρ x0 = 3) (i_x1 : Rg (0) (512) (x1)) (i_t0 : Rg (0) (1) (t0)) : Sat (sX2_takeOther_26 F h x0 x1 t0) (ZI ρ c (0) (1)) := by
  unfold sX2_takeOther_26 sX2_takeOther_44
  refine s_br (fun c_1 => ?_) (fun c_1 => ?_)
  · have _ := c_1
    have i_f_2 : Rg (0) (0) (x1) := rg_eq c_1 (rg_b rfl : Rg (0) (0) (0 : Int32))
    exact s_some ⟨(T), (rg_m (rg_b rfl : Rg (0) (0) ((0 : Int32))) (by decide))⟩
  · have _ := c_1
    have i_f_3 : Rg (1) (512) (x1) := rg_nlo c_1 i_x1 (rg_b rfl : Rg (0) (0) (0 : Int32))
    refine s_br (fun c_4 => ?_) (fun c_4 => ?_)
    · have _ := c_4
      have i_f_5 : Rg (0) (0) (t0) := rg_eq c_4 (rg_b rfl : Rg (0) (0) (0 : Int32))
      refine s_br (fun c_6 => ?_) (fun c_6 => ?_)
      · have _ := c_6
        have i_f_7 : Rg (0) (0) (((hI h x0 6) &&& x1)) := rg_eq c_6 (rg_b rfl : Rg (0) (0) (0 : Int32))
        refine s_hq (th_wI T r_x0 (k := 3) (lo := (0)) (hi := (1023)) rfl ((rg_or (n := 10) (rg_m (thI T r_x0 (k := 3) (i := 6) rfl : Rg (0) (1023) ((hI h x0 6))) (by decide) : Rg (0) (1023) ((hI h x0 6))) (rg_m i_f_3 (by decide) : Rg (0) (512) (x1)) (by decide) : Rg (0) (1023) (((hI h x0 6) ||| x1))) : Rg (0) (1023) (((hI h x0 6) ||| x1))) (by decide) (by decide) (pm_a hA rfl)) (fun h_4 T_8 w_9 => ?_)
        refine s_cV (zX2_advance hF m1 (pmA_s hA rfl) T_8 r_x0) (fun o_5 T_10 => ?_)
        refine s_cI (zX2_takeOnce hF m1 m2 (pmA_s hA rfl) T_10 r_x0 i_f_3) (fun o_6 T_11 i_o_6 => ?_)
        refine s_gd (rg_bool i_o_6) ?_
        exact s_some ⟨(T_11), i_o_6⟩
      · have _ := c_6
        have i_f_12 : Rg (1) (512) (((hI h x0 6) &&& x1)) := rg_nlo c_6 (rg_and i_f_3 (by decide) : Rg (0) (512) (((hI h x0 6) &&& x1))) (rg_b rfl : Rg (0) (0) (0 : Int32))
        exact s_some ⟨(T), (rg_m (rg_b rfl : Rg (0) (0) ((0 : Int32))) (by decide))⟩
    · have _ := c_4
      have i_f_13 : Rg (1) (1) (t0) := rg_nlo c_4 i_t0 (rg_b rfl : Rg (0) (0) (0 : Int32))
      exact s_some ⟨(T), (rg_m (rg_b rfl : Rg (0) (0) ((0 : Int32))) (by decide))⟩
set_option maxRecDepth 20000 in
theorem zX2_takeOther {ρ : Nat → Nat} {c : Cm} {F : Nat} (hF : 700000 ≤ F) (m1 : c.2.1 1 = true) (m2 : c.2.1 2 = true) (hA : pmA c [(2, 4), (2, 6), (2, 7), (2, 8), (2, 9), (2, 10), (2, 11), (2, 13), (3, 2), (3, 3), (3, 4), (3, 5), (3, 6)]) {h : Hp} {x0 : Nat} (T : TH ρ c h) (r_x0 : ρ x0 = 3) : Sat (sX2_takeOther F h x0) (ZI ρ c (0) (1)) := by
  unfold sX2_takeOther sX2_takeOther_25
  refine s_dI0 (zX2_onceWord hF m1 T r_x0) (fun o_1 eb_o_1 e_o_1 i_o_1 => ?_)
  have T_1 := th_eq e_o_1 T
  refine s_br (fun c_2 => ?_) (fun c_2 => ?_)
  · have _ := c_2
    have i_f_3 : Rg (2) (2) (o_1.1) := rg_eq c_2 (rg_b rfl : Rg (2) (2) ((2 : Int32)))
    obtain ⟨r_3, e_r_3, q_r_3⟩ := thM T_1 r_x0 (k := 3) (i := 1) (j := 2) (k2 := 2) rfl (by decide) rfl (by decide) m2
    refine s_ref e_r_3 ?_
    refine s_br (fun c_4 => ?_) (fun c_4 => ?_)
    · have _ := c_4
      have i_f_5 : Rg (-1) (-1) ((hI o_1.2 r_3 4)) := rg_eq c_4 (rg_b rfl : Rg (-1) (-1) ((- 1 : Int32)))
      exact zX2_takeOther_26 hF m1 m2 (pmA_s hA rfl) T_1 r_x0 (rg_m i_f_3 (by decide)) (rg_m (rg_b rfl : Rg (1) (1) ((1 : Int32))) (by decide))
    · have _ := c_4
      have i_f_6 : Rg (0) (11) ((hI o_1.2 r_3 4)) := rg_nlo c_4 (thI T_1 q_r_3 (k := 2) (i := 4) rfl : Rg (-1) (11) ((hI o_1.2 r_3 4))) (rg_b rfl : Rg (-1) (-1) ((- 1 : Int32)))
      exact zX2_takeOther_26 hF m1 m2 (pmA_s hA rfl) T_1 r_x0 (rg_m i_f_3 (by decide)) (rg_m (rg_b rfl : Rg (0) (0) ((0 : Int32))) (by decide))
  · have _ := c_2
    exact zX2_takeOther_26 hF m1 m2 (pmA_s hA rfl) T_1 r_x0 i_o_1 (rg_m (rg_b rfl : Rg (0) (0) ((0 : Int32))) (by decide))
set_option maxRecDepth 20000 in
theorem zX2_read_94 {ρ : Nat → Nat} {c : Cm} {F : Nat} (hF : 700000 ≤ F) (m1 : c.2.1 1 = true) {k_39 : Hp → Nat → Int32 → Int32 → Option (Int32 × Hp)} {C_39 : Int} (hk_39 : ∀ {h : Hp} {x0 : Nat} {x3 : Int32} {x4 : Int32}, TH ρ c h → ρ x0 = 3 → Rg (0) (1) (x3) → Rg (0) (1200) (x4) → (GeoA ρ h) → C_39 < x4.toInt → Sat (k_39 h x0 x3 x4) (ZQ (ZI ρ c (0) (1)) (fun o => GeoA ρ o.2))) (hA : pmA c [(3, 2), (3, 3), (3, 4), (3, 5)]) {h : Hp} {x0 : Nat} {x4 : Int32} {t0 : Int32} (T : TH ρ c h) (r_x0 : ρ x0 = 3) (i_x4 : Rg (0) (1199) (x4)) (i_t0 : Rg (0) (1) (t0)) (hc_39 : C_39 ≤ x4.toInt) (ga : (GeoA ρ h)) : Sat (sX2_read_94 F k_39 h x0 x4 t0) (ZQ (ZI ρ c (0) (1)) (fun o => GeoA ρ o.2)) := by
  unfold sX2_read_94 sX2_read_110 sX2_read_111
  refine s_br (fun c_1 => ?_) (fun c_1 => ?_)
  · have _ := c_1
    have i_f_2 : Rg (0) (0) (t0) := rg_eq c_1 (rg_b rfl : Rg (0) (0) (0 : Int32))
    refine s_q (fun v_1q2 e_3 => ?_)
    have i_v_1q2 : Rg (1) (1200) (v_1q2) := by rw [e_3]; exact (rg_add i_x4 (rg_b rfl : Rg (1) (1) ((1 : Int32))) (by decide) : Rg (1) (1200) (x4 + (1 : Int32)))
    have m_4 : (v_1q2).toInt = x4.toInt + 1 := by rw [e_3]; exact rg_inc i_x4 (by decide)
    exact hk_39 T r_x0 (rg_m (rg_b rfl : Rg (0) (0) ((0 : Int32))) (by decide)) (rg_m i_v_1q2 (by decide)) ga (by have := hc_39; omega)
  · have _ := c_1
    have i_f_5 : Rg (1) (1) (t0) := rg_nlo c_1 i_t0 (rg_b rfl : Rg (0) (0) (0 : Int32))
    refine s_cIf (S := fS [(3, 2), (3, 3), (3, 4), (3, 5)] []) T (fs_sub (pmA_s hA rfl) fs_n) (zX2_takeEnd hF (cat_m m1) fs_a (th_in _ T) r_x0) (fun o_2 T_6 i_o_2 f_o_2 => ?_)
    refine s_br (fun c_7 => ?_) (fun c_7 => ?_)
    · have _ := c_7
      have i_f_8 : Rg (0) (0) (o_2.1) := rg_eq c_7 (rg_b rfl : Rg (0) (0) (0 : Int32))
      refine s_q (fun v_1q4 e_9 => ?_)
      have i_v_1q4 : Rg (1) (1200) (v_1q4) := by rw [e_9]; exact (rg_add i_x4 (rg_b rfl : Rg (1) (1) ((1 : Int32))) (by decide) : Rg (1) (1200) (x4 + (1 : Int32)))
      have pf_10 : GeoA ρ o_2.2 := (ga_fr T  f_o_2 (fun _ => rfl) (fun _ => rfl) (fun _ => rfl) (fun _ => rfl) (fun _ _ => rfl) ga)
      have m_11 : (v_1q4).toInt = x4.toInt + 1 := by rw [e_9]; exact rg_inc i_x4 (by decide)
      exact hk_39 T_6 r_x0 (rg_m (rg_b rfl : Rg (0) (0) ((0 : Int32))) (by decide)) (rg_m i_v_1q4 (by decide)) pf_10 (by have := hc_39; omega)
    · have _ := c_7
      have i_f_12 : Rg (1) (1) (o_2.1) := rg_nlo c_7 i_o_2 (rg_b rfl : Rg (0) (0) (0 : Int32))
      refine s_q (fun v_1q5 e_13 => ?_)
      have i_v_1q5 : Rg (1) (1200) (v_1q5) := by rw [e_13]; exact (rg_add i_x4 (rg_b rfl : Rg (1) (1) ((1 : Int32))) (by decide) : Rg (1) (1200) (x4 + (1 : Int32)))
      have pf_14 : GeoA ρ o_2.2 := (ga_fr T  f_o_2 (fun _ => rfl) (fun _ => rfl) (fun _ => rfl) (fun _ => rfl) (fun _ _ => rfl) ga)
      have m_15 : (v_1q5).toInt = x4.toInt + 1 := by rw [e_13]; exact rg_inc i_x4 (by decide)
      exact hk_39 T_6 r_x0 (rg_m (rg_b rfl : Rg (1) (1) ((1 : Int32))) (by decide)) (rg_m i_v_1q5 (by decide)) pf_14 (by have := hc_39; omega)
set_option maxRecDepth 20000 in
theorem zX2_read_39 {ρ : Nat → Nat} {c : Cm} {F : Nat} (hF : 700000 ≤ F) (m1 : c.2.1 1 = true) (m2 : c.2.1 2 = true) (hA : pmA c [(27, 999), (28, 999), (29, 999), (30, 999), (31, 999), (2, 3), (2, 4), (2, 5), (2, 6), (2, 7), (2, 8), (2, 9), (2, 10), (2, 11), (2, 12), (2, 13), (3, 2), (3, 3), (3, 4), (3, 5), (3, 6)]) : ∀ (f : Nat) {h : Hp} {x0 : Nat} {x3 : Int32} {x4 : Int32}, TH ρ c h → ρ x0 = 3 → Rg (0) (1) (x3) → Rg (0) (1200) (x4) → (GeoA ρ h) → (1200 - x4.toInt).toNat < f → Sat (sX2_read_39 F f h x0 x3 x4) (ZQ (ZI ρ c (0) (1)) (fun o => GeoA ρ o.2)) := by
  intro f
  induction f with
  | zero => intros; omega
  | succ f ih =>
    intro h x0 x3 x4 T r_x0 i_x3 i_x4 ga hm
    rw [sX2_read_39]
    unfold sX2_read_118 sX2_read_133 sX2_read_134
    obtain ⟨C_39, hC_39⟩ : ∃ C : Int, C = x4.toInt := ⟨_, rfl⟩
    have hk_39 : ∀ {h : Hp} {x0 : Nat} {x3 : Int32} {x4 : Int32}, TH ρ c h → ρ x0 = 3 → Rg (0) (1) (x3) → Rg (0) (1200) (x4) → (GeoA ρ h) → C_39 < x4.toInt → Sat (sX2_read_39 F f h x0 x3 x4) (ZQ (ZI ρ c (0) (1)) (fun o => GeoA ρ o.2)) := by
      intro h' x0' x3' x4' T' r_x0' i_x3' i_x4' ga' hl
      exact ih T' r_x0' i_x3' i_x4' ga' (by have := i_x4'.1; have := i_x4'.2; omega)
    have hc_39 : C_39 ≤ x4.toInt := by omega
    refine s_br (fun c_1 => ?_) (fun c_1 => ?_)
    · have _ := c_1
      have i_f_2 : Rg (1200) (1200) (x4) := rg_le2 c_1 (rg_b rfl : Rg (1200) (1200) ((1200 : Int32))) i_x4
      refine s_br (fun c_3 => ?_) (fun c_3 => ?_)
      · have _ := c_3
        have i_f_4 : Rg (0) (0) (x3) := rg_eq c_3 (rg_b rfl : Rg (0) (0) (0 : Int32))
        refine s_gd (rg_bool (rg_m (rg_b rfl : Rg (0) (0) ((0 : Int32))) (by decide))) ?_
        exact s_some ⟨⟨(T), (rg_m (rg_b rfl : Rg (0) (0) ((0 : Int32))) (by decide))⟩, ga⟩
      · have _ := c_3
        have i_f_5 : Rg (1) (1) (x3) := rg_nlo c_3 i_x3 (rg_b rfl : Rg (0) (0) (0 : Int32))
        refine s_br (fun c_6 => ?_) (fun c_6 => ?_)
        · have _ := c_6
          have i_f_7 : Rg (0) (0) ((hI h x0 4)) := rg_eq c_6 (rg_b rfl : Rg (0) (0) (0 : Int32))
          refine s_gd (rg_bool (rg_m (rg_b rfl : Rg (1) (1) ((1 : Int32))) (by decide))) ?_
          exact s_some ⟨⟨(T), (rg_m (rg_b rfl : Rg (1) (1) ((1 : Int32))) (by decide))⟩, ga⟩
        · have _ := c_6
          have i_f_8 : Rg (1) (5) ((hI h x0 4)) := rg_nlo c_6 (thI T r_x0 (k := 3) (i := 4) rfl : Rg (0) (5) ((hI h x0 4))) (rg_b rfl : Rg (0) (0) (0 : Int32))
          refine s_gd (rg_bool (rg_m (rg_b rfl : Rg (0) (0) ((0 : Int32))) (by decide))) ?_
          exact s_some ⟨⟨(T), (rg_m (rg_b rfl : Rg (0) (0) ((0 : Int32))) (by decide))⟩, ga⟩
    · have _ := c_1
      have i_f_9 : Rg (0) (1199) (x4) := rg_lt1 (nle_lt c_1) i_x4 (rg_b rfl : Rg (1200) (1200) ((1200 : Int32)))
      refine s_br (fun c_10 => ?_) (fun c_10 => ?_)
      · have _ := c_10
        have i_f_11 : Rg (0) (0) (x3) := rg_eq c_10 (rg_b rfl : Rg (0) (0) (0 : Int32))
        refine s_br (fun c_12 => ?_) (fun c_12 => ?_)
        · have _ := c_12
          refine s_gd (rg_bool (rg_m (rg_b rfl : Rg (0) (0) ((0 : Int32))) (by decide))) ?_
          exact s_some ⟨⟨(T), (rg_m (rg_b rfl : Rg (0) (0) ((0 : Int32))) (by decide))⟩, ga⟩
        · have _ := c_12
          exact (rc_ne c_12 i_f_11 (rg_b rfl : Rg (0) (0) (0 : Int32))).elim
      · have _ := c_10
        have i_f_13 : Rg (1) (1) (x3) := rg_nlo c_10 i_x3 (rg_b rfl : Rg (0) (0) (0 : Int32))
        refine s_br (fun c_14 => ?_) (fun c_14 => ?_)
        · have _ := c_14
          have i_f_15 : Rg (0) (0) ((hI h x0 4)) := rg_eq c_14 (rg_b rfl : Rg (0) (0) (0 : Int32))
          refine s_br (fun c_16 => ?_) (fun c_16 => ?_)
          · have _ := c_16
            exact (rc_eq c_16 i_f_13 (rg_b rfl : Rg (0) (0) (0 : Int32)) (by decide)).elim
          · have _ := c_16
            refine s_br (fun c_17 => ?_) (fun c_17 => ?_)
            · have _ := c_17
              refine s_gd (rg_bool (rg_m (rg_b rfl : Rg (1) (1) ((1 : Int32))) (by decide))) ?_
              exact s_some ⟨⟨(T), (rg_m (rg_b rfl : Rg (1) (1) ((1 : Int32))) (by decide))⟩, ga⟩
            · have _ := c_17
              exact (rc_ne c_17 i_f_15 (rg_b rfl : Rg (0) (0) (0 : Int32))).elim
        · have _ := c_14
          have i_f_18 : Rg (1) (5) ((hI h x0 4)) := rg_nlo c_14 (thI T r_x0 (k := 3) (i := 4) rfl : Rg (0) (5) ((hI h x0 4))) (rg_b rfl : Rg (0) (0) (0 : Int32))
          refine s_dI0 (zX2_isWord hF m1 T r_x0) (fun o_4 eb_o_4 e_o_4 i_o_4 => ?_)
          have T_19 := th_eq e_o_4 T
          refine s_br (fun c_20 => ?_) (fun c_20 => ?_)
          · have _ := c_20
            have i_f_21 : Rg (0) (0) (o_4.1) := rg_eq c_20 (rg_b rfl : Rg (0) (0) (0 : Int32))
            refine s_dI0 (zX2_isWord hF m1 T_19 r_x0) (fun o_6 eb_o_6 e_o_6 i_o_6 => ?_)
            have T_22 := th_eq e_o_6 T_19
            refine s_br (fun c_23 => ?_) (fun c_23 => ?_)
            · have _ := c_23
              have i_f_24 : Rg (0) (0) (o_6.1) := rg_eq c_23 (rg_b rfl : Rg (0) (0) (0 : Int32))
              refine s_cIf (S := fS [(2, 4), (2, 6), (2, 7), (2, 8), (2, 9), (2, 10), (2, 11), (2, 13), (3, 2), (3, 3), (3, 4), (3, 5), (3, 6)] []) T_22 (fs_sub (pmA_s hA rfl) fs_n) (zX2_takeOther hF (cat_m m1) (cat_m m2) fs_a (th_in _ T_22) r_x0) (fun o_8 T_25 i_o_8 f_o_8 => ?_)
              have pf_26 : GeoA ρ o_8.2 := (ga_fr T_22  f_o_8 (fun _ => rfl) (fun _ => rfl) (fun _ => rfl) (fun _ => rfl) (fun _ _ => rfl) (by rw [e_o_6]; exact (by rw [e_o_4]; exact ga)))
              exact zX2_read_94 hF m1 @hk_39 (pmA_s hA rfl) T_25 r_x0 i_f_9 i_o_8 hc_39 pf_26
            · have _ := c_23
              have i_f_27 : Rg (1) (1) (o_6.1) := rg_nlo c_23 i_o_6 (rg_b rfl : Rg (0) (0) (0 : Int32))
              refine s_cIf (S := fS [(30, 999), (31, 999), (2, 5), (2, 12), (3, 2), (3, 3), (3, 4), (3, 5)] []) T_22 (fs_sub (pmA_s hA rfl) fs_n) (zX2_takeBecomes hF (cat_m m1) (cat_m m2) fs_a (th_in _ T_22) r_x0) (fun o_9 T_28 i_o_9 f_o_9 => ?_)
              have pf_29 : GeoA ρ o_9.2 := (ga_fr T_22  f_o_9 (fun _ => rfl) (fun _ => rfl) (fun _ => rfl) (fun _ => rfl) (fun _ _ => rfl) (by rw [e_o_6]; exact (by rw [e_o_4]; exact ga)))
              exact zX2_read_94 hF m1 @hk_39 (pmA_s hA rfl) T_28 r_x0 i_f_9 i_o_9 hc_39 pf_29
          · have _ := c_20
            have i_f_30 : Rg (1) (1) (o_4.1) := rg_nlo c_20 i_o_4 (rg_b rfl : Rg (0) (0) (0 : Int32))
            refine s_cIf (S := fS [(27, 999), (28, 999), (29, 999), (2, 3), (3, 2), (3, 3), (3, 4), (3, 5)] []) T_19 (fs_sub (pmA_s hA rfl) fs_n) (zX2_takeMan hF (cat_m m1) (cat_m m2) fs_a (th_in _ T_19) r_x0) (fun o_10 T_31 i_o_10 f_o_10 => ?_)
            have pf_32 : GeoA ρ o_10.2 := (ga_fr T_19  f_o_10 (fun _ => rfl) (fun _ => rfl) (fun _ => rfl) (fun _ => rfl) (fun _ _ => rfl) (by rw [e_o_4]; exact ga))
            exact zX2_read_94 hF m1 @hk_39 (pmA_s hA rfl) T_31 r_x0 i_f_9 i_o_10 hc_39 pf_32
set_option maxRecDepth 20000 in
theorem zX2_read {ρ : Nat → Nat} {c : Cm} {F : Nat} {w_x1 w_x2 : Nat} (hF : 700000 ≤ F) (hA : pmA c [(27, 999), (28, 999), (29, 999), (30, 999), (31, 999), (32, 999), (33, 999), (2, 0), (2, 1), (2, 2), (2, 3), (2, 4), (2, 5), (2, 6), (2, 7), (2, 8), (2, 9), (2, 10), (2, 11), (2, 12), (2, 13), (3, 0), (3, 1), (3, 2), (3, 3), (3, 4), (3, 5), (3, 6)]) {h : Hp} {x0 : Nat} {x1 : Nat} {x2 : Nat} (o_x1 : cw c x1 = w_x1) (o_x2 : cw c x2 = w_x2) (T : TH ρ c h) (r_x0 : ρ x0 = 3) (r_x1 : ρ x1 = 10) (r_x2 : ρ x2 = 2) (ga : (GeoA ρ h)) : Sat (sX2_read F h x0 x1 x2) (ZQ (ZI ρ c (0) (1)) (fun o => GeoA ρ o.2)) := by
  unfold sX2_read 
  refine s_hq (th_wR T r_x0 (k := 3) (i := 0) (j := 1) (k2 := 10) rfl (by decide) rfl (by decide) r_x1 rfl nid_1 (by decide) (by decide) rfl rfl (fun z => absurd rfl z) (pm_a hA rfl)) (fun h_1 T_1 w_2 => ?_)
  refine s_hq (th_wR T_1 r_x0 (k := 3) (i := 1) (j := 2) (k2 := 2) rfl (by decide) rfl (by decide) r_x2 rfl nid_2 (by decide) (by decide) rfl rfl (fun z => absurd rfl z) (pm_a hA rfl)) (fun h_2 T_3 w_4 => ?_)
  obtain ⟨r_3, e_r_3, q_r_3⟩ := thM T_3 r_x0 (k := 3) (i := 1) (j := 2) (k2 := 2) rfl (by decide) rfl (by decide) nst_s
  refine s_ref e_r_3 ?_
  have pf_5 : GeoA ρ h_2 := (ga_fr T_1  (fr1R (A := [(3, 1)]) r_x0 rfl w_4) (fun _ => rfl) (fun _ => rfl) (fun _ => rfl) (fun _ => rfl) (fun _ _ => rfl) (ga_fr T  (fr1R (A := [(3, 0)]) r_x0 rfl w_2) (fun _ => rfl) (fun _ => rfl) (fun _ => rfl) (fun _ => rfl) (fun _ _ => rfl) ga))
  refine s_cVq (zX1_clear (c := (nst (nst c 1) 2)) hF (pmO_a hA rfl) rfl T_3 q_r_3 pf_5) (fun o_4 T_6 p_o_4 => ?_)
  refine s_hq (th_wI T_6 r_x0 (k := 3) (lo := (0)) (hi := (1201)) rfl ((rg_m (rg_b rfl : Rg (0) (0) ((0 : Int32))) (by decide)) : Rg (0) (1201) ((0 : Int32))) (by decide) (by decide) (pm_a hA rfl)) (fun h_5 T_7 w_8 => ?_)
  refine s_hq (th_wI T_7 r_x0 (k := 3) (lo := (0)) (hi := (1023)) rfl ((rg_m (rg_b rfl : Rg (0) (0) ((0 : Int32))) (by decide)) : Rg (0) (1023) ((0 : Int32))) (by decide) (by decide) (pm_a hA rfl)) (fun h_6 T_9 w_10 => ?_)
  refine s_cVf (S := fS [(3, 2), (3, 3), (3, 4), (3, 5)] []) T_9 (fs_sub (pmA_s hA rfl) fs_n) (zX2_advance (c := cat (nst (nst c 1) 2) (fS [(3, 2), (3, 3), (3, 4), (3, 5)] []) h_6) hF (cat_m (nst_o nst_s)) fs_a (th_in _ T_9) r_x0) (fun o_7 T_11 f_o_7 => ?_)
  have pf_12 : GeoA ρ o_7 := (ga_fr T_9  f_o_7 (fun _ => rfl) (fun _ => rfl) (fun _ => rfl) (fun _ => rfl) (fun _ _ => rfl) (ga_fr T_7  (fr1I (A := [(3, 6)]) r_x0 rfl w_10) (fun _ => rfl) (fun _ => rfl) (fun _ => rfl) (fun _ => rfl) (fun _ _ => rfl) (ga_fr T_6  (fr1I (A := [(3, 3)]) r_x0 rfl w_8) (fun _ => rfl) (fun _ => rfl) (fun _ => rfl) (fun _ => rfl) (fun _ _ => rfl) p_o_4)))
  refine s_cIq (zX2_takeBoard (c := (nst (nst c 1) 2)) hF (nst_o nst_s) nst_s (pmA_s hA rfl) T_11 r_x0 pf_12) (fun o_8 T_13 i_o_8 p_o_8 => ?_)
  have m_14 : Rg (0) (1200) ((0 : Int32)) := (rg_m (rg_b rfl : Rg (0) (0) ((0 : Int32))) (by decide))
  exact s_imp (zX2_read_39 hF (nst_o nst_s) nst_s (pmA_s hA rfl) F T_13 r_x0 i_o_8 (rg_m (rg_b rfl : Rg (0) (0) ((0 : Int32))) (by decide)) p_o_8 (by have := m_14.1; have := m_14.2; omega)) (fun o ho => ⟨⟨th_un (th_un (ho.1.1)), ho.1.2⟩, ho.2⟩)
theorem ru_69 {ρ : Nat → Nat} {c c1 : Cm} {F : Nat} (hF : 700000 ≤ F) {h : Hp} {x0 : Nat} {x2 : Int32} (hO : pmO c1 2100 [(10, 1)]) (hc : c1 = c ∨ c1 = nst c 50) (T : TH ρ c1 h) (r0 : ρ x0 = 12) (lw : LwR ρ c1 h) (ga : GeoA ρ h) : Sat (sX11_rules_69 F h x0 x2) (fun o => ∃ c', (c' = c ∨ c' = nst c 50) ∧ TH ρ c' o.2 ∧ LwR ρ c' o.2 ∧ GeoA ρ o.2) := by
  unfold sX11_rules_69
  obtain ⟨t, et, rt⟩ := thR T r0 (i := 0) (k2 := 10) rfl (by decide)
  refine s_ref et ?_
  have wt : cw c1 t = 2100 := kid_w T r0 (i := 0) rfl (by decide) et
  refine s_cVf (S := fS [] [(2100, [(10, 1)])]) T (fs_sub pmA_n (fs_c hO fs_n)) (zX9_clear hF (by rw [show cw (cat c1 (fS [] [(2100, [(10, 1)])]) h) t = 2100 from wt]; exact fs_o (.head _)) (th_in _ T) rt) (fun o2 T2 f2 => ?_)
  exact s_some ⟨c1, hc, T2, lw_fr T f2 (fun _ => rfl) (fun _ => rfl) (fun _ => rfl) lw, ga_fr T f2 (fun _ => rfl) (fun _ => rfl) (fun _ => rfl) (fun _ => rfl) (fun _ _ => rfl) ga⟩
theorem zX11_rules {ρ : Nat → Nat} {c : Cm} {F : Nat} (hF : 700000 ≤ F) (hA : pmA c [(27, 999), (28, 999), (29, 999), (30, 999), (31, 999), (32, 999), (33, 999), (2, 0), (2, 1), (2, 2), (2, 3), (2, 4), (2, 5), (2, 6), (2, 7), (2, 8), (2, 9), (2, 10), (2, 11), (2, 12), (2, 13), (3, 0), (3, 1), (3, 2), (3, 3), (3, 4), (3, 5), (3, 6), (50, 999), (51, 999), (52, 999), (53, 999), (54, 999), (55, 999), (56, 999), (11, 7), (11, 8), (58, 999), (61, 999), (1, 10), (5, 14), (5, 15), (5, 16), (7, 6)]) (hO : pmO c 2100 [(10, 1)]) {h : Hp} {x0 : Nat} (T : TH ρ c h) (r_x0 : ρ x0 = 12) (ga : (GeoA ρ h)) : Sat (sX11_rules F h x0) (fun o => ∃ c', (c' = c ∨ c' = nst c 50) ∧ TH ρ c' o.2 ∧ LwR ρ c' o.2 ∧ GeoA ρ o.2) := by
  unfold sX11_rules
  obtain ⟨r1, e1, q1⟩ := thR T r_x0 (i := 4) (k2 := 3) rfl (by decide)
  obtain ⟨r2, e2, q2⟩ := thR T r_x0 (i := 0) (k2 := 10) rfl (by decide)
  obtain ⟨r3, e3, q3⟩ := thR T r_x0 (i := 3) (k2 := 2) rfl (by decide)
  refine s_ref e1 (s_ref e2 (s_ref e3 ?_))
  refine s_cIq (zX2_read hF (pmA_s hA rfl) rfl rfl T q1 q2 q3 ga) (fun o4 T4 i4 g4 => ?_)
  obtain ⟨r5, e5, q5⟩ := thR T4 r_x0 (i := 4) (k2 := 3) rfl (by decide)
  refine s_ref e5 ?_
  refine s_dI0 (zX2_faultPlace hF T4 q5) (fun o6 _ e6 i6 => ?_)
  have T6 : TH ρ c o6.2 := by rw [e6]; exact T4
  have g6 : GeoA ρ o6.2 := by rw [e6]; exact g4
  refine s_q (fun v7 _ => ?_)
  refine s_br (fun c1 => ?_) (fun c1 => ?_)
  · obtain ⟨L, eL, rL⟩ := thR T6 r_x0 (i := 2) (k2 := 2) rfl (by decide)
    obtain ⟨c', hc, T', lw⟩ := lw_mk T6 rL (kid_w T6 r_x0 (i := 2) rfl (by decide) eL) g6
    exact ru_69 hF (by rcases hc with z | z <;> (rw [z]; exact hO)) hc T' r_x0 lw g6
  · obtain ⟨r9, e9, q9⟩ := thR T6 r_x0 (i := 4) (k2 := 3) rfl (by decide)
    obtain ⟨r10, e10, q10⟩ := thR T6 r_x0 (i := 0) (k2 := 10) rfl (by decide)
    obtain ⟨r11, e11, q11⟩ := thR T6 r_x0 (i := 2) (k2 := 2) rfl (by decide)
    refine s_ref e9 (s_ref e10 (s_ref e11 ?_))
    refine s_cIq (zX2_read hF (pmA_s hA rfl) rfl rfl T6 q9 q10 q11 g6) (fun o12 T12 i12 g12 => ?_)
    obtain ⟨r13, e13, q13⟩ := thR T12 r_x0 (i := 5) (k2 := 11) rfl (by decide)
    obtain ⟨r14, e14, q14⟩ := thR T12 r_x0 (i := 2) (k2 := 2) rfl (by decide)
    refine s_ref e13 (s_ref e14 ?_)
    have w14 := kid_w T12 r_x0 (i := 2) rfl (by decide) e14
    obtain ⟨c', hc, T', lw⟩ := lw_mk T12 q14 w14 g12
    have w' : cw c' r14 = 2102 := by rcases hc with z | z <;> (rw [z]; exact w14)
    have hA' : pmA c' [(27, 999), (28, 999), (29, 999), (30, 999), (31, 999), (32, 999), (33, 999), (2, 0), (2, 1), (2, 2), (2, 3), (2, 4), (2, 5), (2, 6), (2, 7), (2, 8), (2, 9), (2, 10), (2, 11), (2, 12), (2, 13), (3, 0), (3, 1), (3, 2), (3, 3), (3, 4), (3, 5), (3, 6), (50, 999), (51, 999), (52, 999), (53, 999), (54, 999), (55, 999), (56, 999), (11, 7), (11, 8), (58, 999), (61, 999), (1, 10), (5, 14), (5, 15), (5, 16), (7, 6)] := by rcases hc with z | z <;> (rw [z]; exact hA)
    refine s_cVf (S := fS [(50, 999), (51, 999), (52, 999), (53, 999), (54, 999), (55, 999), (56, 999), (11, 7), (11, 8)] []) T' (fs_sub (pmA_s hA' rfl) fs_n) (zX10_lay hF fs_a rfl (th_in _ T') q13 q14 w' lw) (fun o15 T15 f15 => ?_)
    have lw15 := lw_fr T' f15 (fun _ => rfl) (fun _ => rfl) (fun _ => rfl) lw
    have g15 := ga_fr T' f15 (fun _ => rfl) (fun _ => rfl) (fun _ => rfl) (fun _ => rfl) (fun _ _ => rfl) g12
    refine s_cVf (S := fS [(58, 999), (61, 999), (1, 10), (5, 14), (5, 15), (5, 16), (7, 6)] []) T15 (fs_sub (pmA_s hA' rfl) fs_n) (zX11_forgetAll hF fs_a (th_in _ T15) r_x0) (fun o16 T16 f16 => ?_)
    obtain ⟨r17, e17, q17⟩ := thR T16 r_x0 (i := 2) (k2 := 2) rfl (by decide)
    refine s_ref e17 ?_
    refine s_q (fun v18 _ => ?_)
    exact ru_69 hF (by rcases hc with z | z <;> (rw [z]; exact hO)) hc T16 r_x0 (lw_fr T15 f16 (fun _ => rfl) (fun _ => rfl) (fun _ => rfl) lw15) (ga_fr T15 f16 (fun _ => rfl) (fun _ => rfl) (fun _ => rfl) (fun _ => rfl) (fun _ _ => rfl) g15)

set_option maxRecDepth 20000 in
theorem zX11_same {ρ : Nat → Nat} {c : Cm} {F : Nat} (hF : 700000 ≤ F) (hA : pmA c [(47, 999), (6, 4), (6, 5), (6, 6), (6, 7), (6, 8), (6, 9)]) (hi_1503 : pmO c 1503 [(34, 999), (35, 999), (36, 999), (37, 999), (38, 999), (4, 5), (4, 6), (4, 7), (4, 8), (4, 9), (4, 10)]) {h : Hp} {x0 : Nat} {x1 : Int32} {x2 : Int32} (T : TH ρ c h) (r_x0 : ρ x0 = 12) (i_x1 : Rg (-2147483648) (2147483647) (x1)) (i_x2 : Rg (-2147483648) (2147483647) (x2)) (lw : (LwR ρ c h)) (pl : (PlP ρ c x0 h)) : Sat (sX11_same F h x0 x1 x2) (ZI ρ c (0) (1)) := by
  unfold sX11_same sX11_same_42 sX11_same_43
  refine s_dP0 (zX11_isPlace hF T r_x0 i_x1) (fun o_1 eb_o_1 e_o_1 i_o_1 p_o_1 => ?_)
  have T_1 := th_eq e_o_1 T
  refine s_br (fun c_2 => ?_) (fun c_2 => ?_)
  · have _ := c_2
    have i_f_3 : Rg (0) (0) (o_1.1) := rg_eq c_2 (rg_b rfl : Rg (0) (0) (0 : Int32))
    refine s_gd (rg_bool (rg_m (rg_b rfl : Rg (0) (0) ((0 : Int32))) (by decide))) ?_
    exact s_some ⟨(T_1), (rg_m (rg_b rfl : Rg (0) (0) ((0 : Int32))) (by decide))⟩
  · have _ := c_2
    have i_f_4 : Rg (1) (1) (o_1.1) := rg_nlo c_2 i_o_1 (rg_b rfl : Rg (0) (0) (0 : Int32))
    have p_f_5 := p_o_1 c_2
    refine s_dP0 (zX11_isPlace hF T_1 r_x0 i_x2) (fun o_3 eb_o_3 e_o_3 i_o_3 p_o_3 => ?_)
    have T_6 := th_eq e_o_3 T_1
    refine s_br (fun c_7 => ?_) (fun c_7 => ?_)
    · have _ := c_7
      have i_f_8 : Rg (0) (0) (o_3.1) := rg_eq c_7 (rg_b rfl : Rg (0) (0) (0 : Int32))
      refine s_gd (rg_bool (rg_m (rg_b rfl : Rg (0) (0) ((0 : Int32))) (by decide))) ?_
      exact s_some ⟨(T_6), (rg_m (rg_b rfl : Rg (0) (0) ((0 : Int32))) (by decide))⟩
    · have _ := c_7
      have i_f_9 : Rg (1) (1) (o_3.1) := rg_nlo c_7 i_o_3 (rg_b rfl : Rg (0) (0) (0 : Int32))
      have p_f_10 := p_o_3 c_7
      obtain ⟨r_5, e_r_5, q_r_5⟩ := thR T_6 r_x0 (k := 12) (i := 6) (k2 := 6) rfl (by decide)
      refine s_ref e_r_5 ?_
      obtain ⟨r_6, e_r_6, q_r_6⟩ := thR T_6 r_x0 (k := 12) (i := 13) (k2 := 57) rfl (by decide)
      refine s_ref e_r_6 ?_
      refine s_gd (by rw [thN T_6 q_r_6 (k := 57) (n := 60) rfl (by decide)]; exact rg_inB (p_f_5 : Rg (0) (59) (x1)) (by decide)) ?_
      obtain ⟨r_8, e_r_8, q_r_8⟩ := thE T_6 q_r_6 (k := 57) (n := 60) (k2 := 4) (b := 59) (p_f_5 : Rg (0) (59) (x1)) (by decide) (by decide) (by decide)
      refine s_ref e_r_8 ?_
      refine s_ref e_r_6 ?_
      refine s_gd (by rw [thN T_6 q_r_6 (k := 57) (n := 60) rfl (by decide)]; exact rg_inB (p_f_10 : Rg (0) (59) (x2)) (by decide)) ?_
      obtain ⟨r_11, e_r_11, q_r_11⟩ := thE T_6 q_r_6 (k := 57) (n := 60) (k2 := 4) (b := 59) (p_f_10 : Rg (0) (59) (x2)) (by decide) (by decide) (by decide)
      refine s_ref e_r_11 ?_
      have pf_11 : LwR ρ c o_3.2 := (by rw [e_o_3]; exact (by rw [e_o_1]; exact lw))
      have pf_12 : HasR ρ c x0 x1 o_3.2 := (by rw [e_o_3]; exact (by rw [e_o_1]; exact (hr_of T r_x0 pl eb_o_1 c_2)))
      have pf_13 : PlP ρ c x0 o_1.2 := (by rw [e_o_1]; exact pl)
      have pf_14 : HasR ρ c x0 x2 o_3.2 := (by rw [e_o_3]; exact (hr_of T_1 r_x0 pf_13 eb_o_3 c_7))
      refine s_cI (zX5_areAlike hF (pmA_s hA rfl) (pmO_s hi_1503 rfl) (th_id T_6 q_r_6 (k := 57) (w := 3200) e_r_8 rfl (by decide)) (th_id T_6 q_r_6 (k := 57) (w := 3200) e_r_11 rfl (by decide)) (by decide) (by decide) T_6 q_r_5 q_r_8 q_r_11 pf_11 (pf_12.2 _ e_r_6 _ e_r_8) (pf_14.2 _ e_r_6 _ e_r_11)) (fun o_12 T_15 i_o_12 => ?_)
      refine s_br (fun c_16 => ?_) (fun c_16 => ?_)
      · have _ := c_16
        have i_f_17 : Rg (0) (0) (o_12.1) := rg_eq c_16 (rg_b rfl : Rg (0) (0) (0 : Int32))
        refine s_gd (rg_bool (rg_m (rg_b rfl : Rg (0) (0) ((0 : Int32))) (by decide))) ?_
        exact s_some ⟨(T_15), (rg_m (rg_b rfl : Rg (0) (0) ((0 : Int32))) (by decide))⟩
      · have _ := c_16
        have i_f_18 : Rg (1) (1) (o_12.1) := rg_nlo c_16 i_o_12 (rg_b rfl : Rg (0) (0) (0 : Int32))
        refine s_gd (rg_bool (rg_m (rg_b rfl : Rg (1) (1) ((1 : Int32))) (by decide))) ?_
        exact s_some ⟨(T_15), (rg_m (rg_b rfl : Rg (1) (1) ((1 : Int32))) (by decide))⟩
set_option maxRecDepth 20000 in
theorem zX11_say {ρ : Nat → Nat} {c : Cm} {F : Nat} (hF : 700000 ≤ F) (hA : pmA c [(47, 999), (6, 4), (6, 5), (6, 6), (6, 7), (6, 8), (6, 9)]) (hi_1503 : pmO c 1503 [(34, 999), (35, 999), (36, 999), (37, 999), (38, 999), (4, 5), (4, 6), (4, 7), (4, 8), (4, 9), (4, 10)]) (hi_1802 : pmO c 1802 [(34, 999), (35, 999), (36, 999), (37, 999), (38, 999), (4, 5), (4, 6), (4, 7), (4, 8), (4, 9), (4, 10)]) (hi_2101 : pmO c 2101 [(49, 999), (10, 1)]) {h : Hp} {x0 : Nat} {x1 : Int32} {x2 : Int32} (T : TH ρ c h) (r_x0 : ρ x0 = 12) (i_x1 : Rg (-2147483648) (2147483647) (x1)) (i_x2 : Rg (-2147483648) (2147483647) (x2)) (lw : (LwR ρ c h)) (pl : (PlP ρ c x0 h)) : Sat (sX11_say F h x0 x1 x2) (ZI ρ c (-102) (1200)) := by
  unfold sX11_say sX11_say_15 sX11_say_78
  refine s_cIfq (S := fS [(47, 999), (6, 4), (6, 5), (6, 6), (6, 7), (6, 8), (6, 9)] [(1503, [(34, 999), (35, 999), (36, 999), (37, 999), (38, 999), (4, 5), (4, 6), (4, 7), (4, 8), (4, 9), (4, 10)])]) T (fs_sub (pmA_s hA rfl) (fs_c (pmO_s hi_1503 rfl) fs_n)) (zX11_listMoves hF fs_a (fs_o (.head _)) (th_in _ T) r_x0 i_x1 lw pl) (fun o_1 T_1 i_o_1 f_o_1 p_o_1 => ?_)
  have pq_o_1_0 : o_1.1.toInt = 0 ∨ (0 ≤ (x1).toInt ∧ (x1).toInt ≤ 59) := p_o_1.1
  refine s_br (fun c_2 => ?_) (fun c_2 => ?_)
  · have _ := c_2
    have i_f_3 : Rg (-2147483648) (-1) (x2) := rg_lt1 c_2 i_x2 (rg_b rfl : Rg (0) (0) (0 : Int32))
    exact s_some ⟨(T_1), (rg_m (rg_b rfl : Rg (-102) (-102) ((- 102 : Int32))) (by decide))⟩
  · have _ := c_2
    have i_f_4 : Rg (0) (2147483647) (x2) := rg_le2 (nlt_le c_2) (rg_b rfl : Rg (0) (0) (0 : Int32)) i_x2
    refine s_br (fun c_5 => ?_) (fun c_5 => ?_)
    · have _ := c_5
      have i_f_6 : Rg (0) (4095) (x2) := rg_lt1 c_5 i_f_4 i_o_1
      have i_f_7 : Rg (1) (4096) (o_1.1) := rg_lt2 c_5 i_f_4 i_o_1
      obtain ⟨r_4, e_r_4, q_r_4⟩ := thR T_1 r_x0 (k := 12) (i := 1) (k2 := 10) rfl (by decide)
      refine s_ref e_r_4 ?_
      refine s_cVf (S := fS [] [(2101, [(10, 1)])]) T_1 (fs_sub pmA_n (fs_c (pmO_s hi_2101 rfl) fs_n)) (zX9_clear hF (pmO_e (th_id T_1 r_x0 (k := 12) (i := 1) (w := 2101) e_r_4 rfl (by decide)) (fs_o (.head _)) rfl) (th_in _ T_1) q_r_4) (fun o_5 T_8 f_o_5 => ?_)
      obtain ⟨r_6, e_r_6, q_r_6⟩ := thR T_8 r_x0 (k := 12) (i := 8) (k2 := 9) rfl (by decide)
      refine s_ref e_r_6 ?_
      obtain ⟨r_7, e_r_7, q_r_7⟩ := thR T_8 r_x0 (k := 12) (i := 12) (k2 := 47) rfl (by decide)
      refine s_ref e_r_7 ?_
      refine s_ref (hr_q (fr_R f_o_5 r_x0 (by decide) rfl rfl) e_r_4) ?_
      refine s_cVf (S := fS [] [(2101, [(49, 999), (10, 1)])]) T_8 (fs_sub pmA_n (fs_c (pmO_s hi_2101 rfl) fs_n)) (zX8_writeMove hF (fs_o (.head _)) (th_id T_8 r_x0 (k := 12) (i := 12) (w := 2112) e_r_7 rfl (by decide)) (th_id T_1 r_x0 (k := 12) (i := 1) (w := 2101) e_r_4 rfl (by decide)) (th_in _ T_8) q_r_6 q_r_7 i_f_7 i_f_6 q_r_4) (fun o_9 T_9 f_o_9 => ?_)
      refine s_ref (hr_q (fr_R f_o_9 r_x0 (by decide) rfl rfl) e_r_6) ?_
      obtain ⟨r_11, e_r_11, q_r_11⟩ := thR T_9 r_x0 (k := 12) (i := 13) (k2 := 57) rfl (by decide)
      refine s_ref e_r_11 ?_
      have og_10 : Rg (0) (59) (x1) := ⟨(by have := (i_x1 : Rg (-2147483648) (2147483647) (x1)).1; have := (i_x1 : Rg (-2147483648) (2147483647) (x1)).2; have := (i_f_7 : Rg (1) (4096) (o_1.1)).1; have := (i_f_7 : Rg (1) (4096) (o_1.1)).2; have := lt_i c_5; have := (i_f_6 : Rg (0) (4095) (x2)).1; have := (i_f_6 : Rg (0) (4095) (x2)).2; have := nlt_i c_2; have : (0 : Int32).toInt = 0 := rfl; omega), (by have := (i_x1 : Rg (-2147483648) (2147483647) (x1)).1; have := (i_x1 : Rg (-2147483648) (2147483647) (x1)).2; have := (i_f_7 : Rg (1) (4096) (o_1.1)).1; have := (i_f_7 : Rg (1) (4096) (o_1.1)).2; have := lt_i c_5; have := (i_f_6 : Rg (0) (4095) (x2)).1; have := (i_f_6 : Rg (0) (4095) (x2)).2; have := nlt_i c_2; have : (0 : Int32).toInt = 0 := rfl; omega)⟩
      refine s_gd (by rw [thN T_9 q_r_11 (k := 57) (n := 60) rfl (by decide)]; exact rg_inB (og_10 : Rg (0) (59) (x1)) (by decide)) ?_
      obtain ⟨r_13, e_r_13, q_r_13⟩ := thE T_9 q_r_11 (k := 57) (n := 60) (k2 := 4) (b := 59) (og_10 : Rg (0) (59) (x1)) (by decide) (by decide) (by decide)
      refine s_ref e_r_13 ?_
      refine s_ref (hr_q (fr_R f_o_9 r_x0 (by decide) rfl rfl) e_r_7) ?_
      refine s_gd (by rw [thN T_9 q_r_7 (k := 47) (n := 4096) rfl (by decide)]; exact rg_inB (i_f_6 : Rg (0) (4095) (x2)) (by decide)) ?_
      have pf_11 : LwR ρ c o_9 := (lw_fr T_8  f_o_9 (fun _ => rfl) (fun _ => rfl) (fun _ => rfl) (lw_fr T_1  f_o_5 (fun _ => rfl) (fun _ => rfl) (fun _ => rfl) (lw_fr T  f_o_1 (fun _ => rfl) (fun _ => rfl) (fun _ => rfl) lw)))
      have pf_12 : HasR ρ c x0 x1 o_9 := (hr_fr T_8 r_x0 f_o_9 (fun _ => rfl) (fun _ _ => rfl) rfl (fun _ => rfl) (fun _ => rfl) (hr_fr T_1 r_x0 f_o_5 (fun _ => rfl) (fun _ _ => rfl) rfl (fun _ => rfl) (fun _ => rfl) (p_o_1.2 (show ¬ o_1.1.toInt = 0 from (by have := (i_f_7 : Rg (1) (4096) (o_1.1)).1; have := (i_f_7 : Rg (1) (4096) (o_1.1)).2; have := (og_10 : Rg (0) (59) (x1)).1; have := (og_10 : Rg (0) (59) (x1)).2; have := lt_i c_5; have := (i_f_6 : Rg (0) (4095) (x2)).1; have := (i_f_6 : Rg (0) (4095) (x2)).2; have := nlt_i c_2; have : (0 : Int32).toInt = 0 := rfl; omega)))))
      refine s_cIf (S := fS [(47, 999), (6, 4), (6, 5), (6, 6), (6, 7), (6, 8), (6, 9)] [(1503, [(34, 999), (35, 999), (36, 999), (37, 999), (38, 999), (4, 5), (4, 6), (4, 7), (4, 8), (4, 9), (4, 10)]), (1802, [(34, 999), (35, 999), (36, 999), (37, 999), (38, 999), (4, 5), (4, 6), (4, 7), (4, 8), (4, 9), (4, 10)])]) T_9 (fs_sub (pmA_s hA rfl) (fs_c (pmO_s hi_1503 rfl) (fs_c (pmO_s hi_1802 rfl) fs_n))) (zX8_markOf hF fs_a (fs_o (.head _)) (fs_o (.tail _ (.head _))) (th_id T_9 q_r_11 (k := 57) (w := 3200) e_r_13 rfl (by decide)) (th_in _ T_9) q_r_6 q_r_13 (thI T_9 q_r_7 (k := 47) rfl : Rg (-2147483648) (2147483647) ((hI o_9 r_7 x2.toNatClampNeg))) pf_11 (thG T_9 q_r_7) (pf_12.2 _ e_r_11 _ e_r_13)) (fun o_16 T_13 i_o_16 f_o_16 => ?_)
      refine s_br (fun c_14 => ?_) (fun c_14 => ?_)
      · have _ := c_14
        have i_f_15 : Rg (-1) (-1) (o_16.1) := rg_eq c_14 (rg_b rfl : Rg (-1) (-1) ((- 1 : Int32)))
        refine s_ref (hr_q (fr_R f_o_16 r_x0 (by decide) rfl rfl) (hr_q (fr_R f_o_9 r_x0 (by decide) rfl rfl) (hr_q (fr_R f_o_5 r_x0 (by decide) rfl rfl) e_r_4))) ?_
        exact s_some ⟨(T_13), (rg_m (thI T_13 q_r_4 (k := 10) (i := 1) rfl : Rg (0) (1200) (hI o_16.2 r_4 1)) (by decide))⟩
      · have _ := c_14
        have i_f_16 : Rg (0) (43) (o_16.1) := rg_nlo c_14 i_o_16 (rg_b rfl : Rg (-1) (-1) ((- 1 : Int32)))
        refine s_ref (hr_q (fr_R f_o_16 r_x0 (by decide) rfl rfl) (hr_q (fr_R f_o_9 r_x0 (by decide) rfl rfl) (hr_q (fr_R f_o_5 r_x0 (by decide) rfl rfl) e_r_4))) ?_
        refine s_cVf (S := fS [] [(2101, [(49, 999), (10, 1)])]) T_13 (fs_sub pmA_n (fs_c (pmO_s hi_2101 rfl) fs_n)) (zX9_append hF (pmO_e (th_id T_1 r_x0 (k := 12) (i := 1) (w := 2101) e_r_4 rfl (by decide)) (fs_o (.head _)) rfl) (th_in _ T_13) q_r_4 (rg_m i_f_16 (by decide))) (fun o_19 T_17 f_o_19 => ?_)
        refine s_ref (hr_q (fr_R f_o_19 r_x0 (by decide) rfl rfl) (hr_q (fr_R f_o_16 r_x0 (by decide) rfl rfl) (hr_q (fr_R f_o_9 r_x0 (by decide) rfl rfl) (hr_q (fr_R f_o_5 r_x0 (by decide) rfl rfl) e_r_4)))) ?_
        exact s_some ⟨(T_17), (rg_m (thI T_17 q_r_4 (k := 10) (i := 1) rfl : Rg (0) (1200) (hI o_19 r_4 1)) (by decide))⟩
    · have _ := c_5
      exact s_some ⟨(T_1), (rg_m (rg_b rfl : Rg (-102) (-102) ((- 102 : Int32))) (by decide))⟩
set_option maxRecDepth 20000 in
theorem zX5_seenBy_90 {ρ : Nat → Nat} {c : Cm} {h0 : Hp} {F : Nat} (hF : 700000 ≤ F) {k_13 : Hp → Nat → Nat → Int32 → Int64 → Int64 → Int32 → Option (Int64 × Hp)} {C_13 : Int} (hk_13 : ∀ {h : Hp} {x0 : Nat} {x1 : Nat} {x2 : Int32} {x3 : Int64} {x5 : Int64} {x7 : Int32}, h = h0 → TH ρ c h → ρ x0 = 6 → ρ x1 = 4 → Rg (0) (1) (x2) → Rg (0) (64) (x7) → (PosM x1 x5 h) → C_13 < x7.toInt → Sat (k_13 h x0 x1 x2 x3 x5 x7) (ZJ0 h0)) : ∀ (f : Nat) {h : Hp} {x0 : Nat} {x1 : Nat} {x2 : Int32} {x3 : Int64} {x5 : Int64} {x7 : Int32} {x9 : Int32} {x10 : Int32}, h = h0 → TH ρ c h → ρ x0 = 6 → ρ x1 = 4 → Rg (0) (1) (x2) → Rg (0) (63) (x7) → Rg (0) (172032) (x9) → Rg (0) (172032) (x10) → C_13 ≤ x7.toInt → (PosM x1 x5 h) → (172032 - x10.toInt).toNat < f → Sat (sX5_seenBy_90 F k_13 f h x0 x1 x2 x3 x5 x7 x9 x10) (ZJ0 h0) := by
  intro f
  induction f with
  | zero => intros; omega
  | succ f ih =>
    intro h x0 x1 x2 x3 x5 x7 x9 x10 E T r_x0 r_x1 i_x2 i_x7 i_x9 i_x10 hc_13 pm hm
    rw [sX5_seenBy_90]
    unfold sX5_seenBy_126
    obtain ⟨C_90, hC_90⟩ : ∃ C : Int, C = x10.toInt := ⟨_, rfl⟩
    have hk_90 : ∀ {h : Hp} {x0 : Nat} {x1 : Nat} {x2 : Int32} {x3 : Int64} {x5 : Int64} {x7 : Int32} {x9 : Int32} {x10 : Int32}, h = h0 → TH ρ c h → ρ x0 = 6 → ρ x1 = 4 → Rg (0) (1) (x2) → Rg (0) (63) (x7) → Rg (0) (172032) (x9) → Rg (0) (172032) (x10) → C_13 ≤ x7.toInt → (PosM x1 x5 h) → C_90 < x10.toInt → Sat (sX5_seenBy_90 F k_13 f h x0 x1 x2 x3 x5 x7 x9 x10) (ZJ0 h0) := by
      intro h' x0' x1' x2' x3' x5' x7' x9' x10' E' T' r_x0' r_x1' i_x2' i_x7' i_x9' i_x10' hc_13' pm' hl
      exact ih E' T' r_x0' r_x1' i_x2' i_x7' i_x9' i_x10' hc_13' pm' (by have := i_x10'.1; have := i_x10'.2; omega)
    have hc_90 : C_90 ≤ x10.toInt := by omega
    refine s_br (fun c_1 => ?_) (fun c_1 => ?_)
    · have _ := c_1
      refine s_q (fun v_2 e_2 => ?_)
      have i_v_2 : Rg (1) (64) (v_2) := by rw [e_2]; exact (rg_add i_x7 (rg_b rfl : Rg (1) (1) ((1 : Int32))) (by decide) : Rg (1) (64) (x7 + (1 : Int32)))
      have m_3 : (v_2).toInt = x7.toInt + 1 := by rw [e_2]; exact rg_inc i_x7 (by decide)
      exact hk_13 E T r_x0 r_x1 i_x2 (rg_m i_v_2 (by decide)) pm (by have := hc_13; omega)
    · have _ := c_1
      have i_f_4 : Rg (0) (172031) (x10) := rg_lt1 (nle_lt c_1) i_x10 i_x9
      have i_f_5 : Rg (1) (172032) (x9) := rg_lt2 (nle_lt c_1) i_x10 i_x9
      refine s_dI0 (zX5_leads hF T r_x0 r_x1 i_f_4 i_x2) (fun o_3 eb_o_3 e_o_3 i_o_3 => ?_)
      have T_6 := th_eq e_o_3 T
      refine s_br (fun c_7 => ?_) (fun c_7 => ?_)
      · have _ := c_7
        have i_f_8 : Rg (0) (0) (o_3.1) := rg_eq c_7 (rg_b rfl : Rg (0) (0) (0 : Int32))
        refine s_q (fun v_1q1 e_9 => ?_)
        have i_v_1q1 : Rg (1) (172032) (v_1q1) := by rw [e_9]; exact (rg_add i_f_4 (rg_b rfl : Rg (1) (1) ((1 : Int32))) (by decide) : Rg (1) (172032) (x10 + (1 : Int32)))
        have pf_10 : PosM x1 x5 o_3.2 := (by rw [e_o_3]; exact pm)
        have m_11 : (v_1q1).toInt = x10.toInt + 1 := by rw [e_9]; exact rg_inc i_f_4 (by decide)
        exact hk_90 (e_o_3.trans E) T_6 r_x0 r_x1 i_x2 i_x7 (rg_m i_f_5 (by decide)) (rg_m i_v_1q1 (by decide)) hc_13 pf_10 (by have := hc_90; omega)
      · have _ := c_7
        have i_f_12 : Rg (1) (1) (o_3.1) := rg_nlo c_7 i_o_3 (rg_b rfl : Rg (0) (0) (0 : Int32))
        obtain ⟨r_5, e_r_5, q_r_5⟩ := thR T_6 r_x0 (k := 6) (i := 1) (k2 := 11) rfl (by decide)
        refine s_ref e_r_5 ?_
        obtain ⟨r_6, e_r_6, q_r_6⟩ := thR T_6 q_r_5 (k := 11) (i := 1) (k2 := 51) rfl (by decide)
        refine s_ref e_r_6 ?_
        refine s_gd (by rw [thN T_6 q_r_6 (k := 51) (n := 172032) rfl (by decide)]; exact rg_inB (i_f_4 : Rg (0) (172031) (x10)) (by decide)) ?_
        refine s_q (fun v_8 e_13 => ?_)
        refine s_q (fun v_1q2 e_14 => ?_)
        have i_v_1q2 : Rg (1) (172032) (v_1q2) := by rw [e_14]; exact (rg_add i_f_4 (rg_b rfl : Rg (1) (1) ((1 : Int32))) (by decide) : Rg (1) (172032) (x10 + (1 : Int32)))
        have pf_15 : PosM x1 x5 o_3.2 := (by rw [e_o_3]; exact pm)
        have m_16 : (v_1q2).toInt = x10.toInt + 1 := by rw [e_14]; exact rg_inc i_f_4 (by decide)
        exact hk_90 (e_o_3.trans E) T_6 r_x0 r_x1 i_x2 i_x7 (rg_m i_f_5 (by decide)) (rg_m i_v_1q2 (by decide)) hc_13 pf_15 (by have := hc_90; omega)
set_option maxRecDepth 20000 in
theorem zX5_seenBy_13 {ρ : Nat → Nat} {c : Cm} {h0 : Hp} {F : Nat} (hF : 700000 ≤ F) : ∀ (f : Nat) {h : Hp} {x0 : Nat} {x1 : Nat} {x2 : Int32} {x3 : Int64} {x5 : Int64} {x7 : Int32}, h = h0 → TH ρ c h → ρ x0 = 6 → ρ x1 = 4 → Rg (0) (1) (x2) → Rg (0) (64) (x7) → (PosM x1 x5 h) → (64 - x7.toInt).toNat < f → Sat (sX5_seenBy_13 F f h x0 x1 x2 x3 x5 x7) (ZJ0 h0) := by
  intro f
  induction f with
  | zero => intros; omega
  | succ f ih =>
    intro h x0 x1 x2 x3 x5 x7 E T r_x0 r_x1 i_x2 i_x7 pm hm
    rw [sX5_seenBy_13]
    unfold sX5_seenBy_138 sX10_cell
    obtain ⟨C_13, hC_13⟩ : ∃ C : Int, C = x7.toInt := ⟨_, rfl⟩
    have hk_13 : ∀ {h : Hp} {x0 : Nat} {x1 : Nat} {x2 : Int32} {x3 : Int64} {x5 : Int64} {x7 : Int32}, h = h0 → TH ρ c h → ρ x0 = 6 → ρ x1 = 4 → Rg (0) (1) (x2) → Rg (0) (64) (x7) → (PosM x1 x5 h) → C_13 < x7.toInt → Sat (sX5_seenBy_13 F f h x0 x1 x2 x3 x5 x7) (ZJ0 h0) := by
      intro h' x0' x1' x2' x3' x5' x7' E' T' r_x0' r_x1' i_x2' i_x7' pm' hl
      exact ih E' T' r_x0' r_x1' i_x2' i_x7' pm' (by have := i_x7'.1; have := i_x7'.2; omega)
    have hc_13 : C_13 ≤ x7.toInt := by omega
    refine s_br (fun c_1 => ?_) (fun c_1 => ?_)
    · have _ := c_1
      have i_f_2 : Rg (64) (64) (x7) := rg_le2 c_1 (rg_b rfl : Rg (64) (64) ((64 : Int32))) i_x7
      exact s_some E
    · have _ := c_1
      have i_f_3 : Rg (0) (63) (x7) := rg_lt1 (nle_lt c_1) i_x7 (rg_b rfl : Rg (64) (64) ((64 : Int32)))
      refine s_br (fun c_4 => ?_) (fun c_4 => ?_)
      · have _ := c_4
        exact s_some E
      · have _ := c_4
        refine s_dI0 (zX11_lowest hF T) (fun o_3 eb_o_3 e_o_3 i_o_3 => ?_)
        have T_5 := th_eq e_o_3 T
        refine s_q (fun v_4 e_6 => ?_)
        obtain ⟨r_5, e_r_5, q_r_5⟩ := thR T_5 r_x0 (k := 6) (i := 1) (k2 := 11) rfl (by decide)
        refine s_ref e_r_5 ?_
        obtain ⟨r_6, e_r_6, q_r_6⟩ := thR T_5 q_r_5 (k := 11) (i := 0) (k2 := 50) rfl (by decide)
        refine s_ref e_r_6 ?_
        obtain ⟨r_7, e_r_7, q_r_7⟩ := thR T_5 r_x1 (k := 4) (i := 0) (k2 := 34) rfl (by decide)
        refine s_ref e_r_7 ?_
        have pf_8 : PosM x1 x5 o_3.2 := (by rw [e_o_3]; exact pm)
        have rh_7 : Rg 0 23 (hI o_3.2 r_7 o_3.1.toNatClampNeg) := pm_low pf_8 eb_o_3 c_4 (rg_m i_o_3 (by decide)) e_r_7 (thI T_5 q_r_7 (k := 34) (lo := -2) (hi := 23) rfl)
        refine s_gd (by rw [thN T_5 q_r_7 (k := 34) (n := 64) rfl (by decide)]; exact rg_inB (i_o_3 : Rg (0) (63) (o_3.1)) (by decide)) ?_
        refine s_pu (fun o_9z e_9 => ?_)
        try dsimp only
        have i_o_9z : Rg (64) (98304) (o_9z) := by rw [e_9]; exact (rg_add (rg_mulc (rg_add (rg_mulc rh_7 (rg_b rfl : Rg (64) (64) ((64 : Int32))) (by decide) : Rg (0) (1472) (((hI o_3.2 r_7 o_3.1.toNatClampNeg) * (64 : Int32)))) i_o_3 (by decide) : Rg (0) (1535) ((((hI o_3.2 r_7 o_3.1.toNatClampNeg) * (64 : Int32)) + o_3.1))) (rg_b rfl : Rg (64) (64) ((64 : Int32))) (by decide) : Rg (0) (98240) (((((hI o_3.2 r_7 o_3.1.toNatClampNeg) * (64 : Int32)) + o_3.1) * (64 : Int32)))) (rg_b rfl : Rg (64) (64) ((64 : Int32))) (by decide) : Rg (64) (98304) (((((hI o_3.2 r_7 o_3.1.toNatClampNeg) * (64 : Int32)) + o_3.1) * (64 : Int32)) + (64 : Int32)))
        refine s_gd (by rw [thN T_5 q_r_6 (k := 50) (n := 98305) rfl (by decide)]; exact rg_inB ((rg_m i_o_9z (by decide)) : Rg (0) (98304) (o_9z)) (by decide)) ?_
        refine s_q (fun v_11 e_10 => ?_)
        have i_v_11 : Rg (0) (172032) (v_11) := by rw [e_10]; exact (thI T_5 q_r_6 (k := 50) rfl : Rg (0) (172032) (hI o_3.2 r_6 o_9z.toNatClampNeg))
        refine s_ref e_r_5 ?_
        refine s_ref e_r_6 ?_
        refine s_ref e_r_7 ?_
        refine s_gd (by rw [thN T_5 q_r_7 (k := 34) (n := 64) rfl (by decide)]; exact rg_inB (i_o_3 : Rg (0) (63) (o_3.1)) (by decide)) ?_
        refine s_pu (fun o_16z e_11 => ?_)
        try dsimp only
        have i_o_16z : Rg (0) (98240) (o_16z) := by rw [e_11]; exact (rg_add (rg_mulc (rg_add (rg_mulc rh_7 (rg_b rfl : Rg (64) (64) ((64 : Int32))) (by decide) : Rg (0) (1472) (((hI o_3.2 r_7 o_3.1.toNatClampNeg) * (64 : Int32)))) i_o_3 (by decide) : Rg (0) (1535) ((((hI o_3.2 r_7 o_3.1.toNatClampNeg) * (64 : Int32)) + o_3.1))) (rg_b rfl : Rg (64) (64) ((64 : Int32))) (by decide) : Rg (0) (98240) (((((hI o_3.2 r_7 o_3.1.toNatClampNeg) * (64 : Int32)) + o_3.1) * (64 : Int32)))) (rg_b rfl : Rg (0) (0) ((0 : Int32))) (by decide) : Rg (0) (98240) (((((hI o_3.2 r_7 o_3.1.toNatClampNeg) * (64 : Int32)) + o_3.1) * (64 : Int32)) + (0 : Int32)))
        refine s_gd (by rw [thN T_5 q_r_6 (k := 50) (n := 98305) rfl (by decide)]; exact rg_inB ((rg_m i_o_16z (by decide)) : Rg (0) (98304) (o_16z)) (by decide)) ?_
        refine s_q (fun v_18 e_12 => ?_)
        have i_v_18 : Rg (0) (172032) (v_18) := by rw [e_12]; exact (thI T_5 q_r_6 (k := 50) rfl : Rg (0) (172032) (hI o_3.2 r_6 o_16z.toNatClampNeg))
        have es_13 : PosM x1 v_4 o_3.2 := by rw [e_6]; exact pm_and pf_8
        have m_14 : Rg (0) (172032) (v_18) := i_v_18
        exact zX5_seenBy_90 hF @hk_13 F (e_o_3.trans E) T_5 r_x0 r_x1 i_x2 i_f_3 i_v_11 i_v_18 hc_13 es_13 (by have := m_14.1; have := m_14.2; omega)
set_option maxRecDepth 20000 in
theorem zX5_seenBy {ρ : Nat → Nat} {c : Cm} {F : Nat} (hF : 700000 ≤ F) {h : Hp} {x0 : Nat} {x1 : Nat} {x2 : Int32} (T : TH ρ c h) (r_x0 : ρ x0 = 6) (r_x1 : ρ x1 = 4) (i_x2 : Rg (0) (1) (x2)) : Sat (sX5_seenBy F h x0 x1 x2) (ZJ0 h) := by
  unfold sX5_seenBy 
  obtain ⟨r_1, e_r_1, q_r_1⟩ := thR T r_x1 (k := 4) (i := 1) (k2 := 35) rfl (by decide)
  refine s_ref e_r_1 ?_
  refine s_gd (by rw [thN T q_r_1 (k := 35) (n := 2) rfl (by decide)]; exact rg_inB (i_x2 : Rg (0) (1) (x2)) (by decide)) ?_
  refine s_q (fun v_3 e_1 => ?_)
  have es_2 : PosM x1 v_3 h := by rw [e_1]; exact pm_start T r_x1 e_r_1 (show x2.toNatClampNeg < 2 by have := rg_clamp (n := 1) i_x2 (by decide); omega)
  have m_3 : Rg (0) (64) ((0 : Int32)) := (rg_m (rg_b rfl : Rg (0) (0) ((0 : Int32))) (by decide))
  exact zX5_seenBy_13 hF F rfl T r_x0 r_x1 i_x2 (rg_m (rg_b rfl : Rg (0) (0) ((0 : Int32))) (by decide)) es_2 (by have := m_3.1; have := m_3.2; omega)
set_option maxRecDepth 20000 in
theorem zX11_sees {ρ : Nat → Nat} {c : Cm} {F : Nat} (hF : 700000 ≤ F) {h : Hp} {x0 : Nat} {x1 : Int32} {x2 : Int32} {x3 : Int32} (T : TH ρ c h) (r_x0 : ρ x0 = 12) (i_x1 : Rg (-2147483648) (2147483647) (x1)) (i_x2 : Rg (-2147483648) (2147483647) (x2)) (i_x3 : Rg (-2147483648) (2147483647) (x3)) : Sat (sX11_sees F h x0 x1 x2 x3) (ZI0 h (-102) (1)) := by
  unfold sX11_sees sX11_sees_15 sX11_sees_57
  refine s_dP0 (zX11_isSquare hF T r_x0 i_x3) (fun o_1 eb_o_1 e_o_1 i_o_1 p_o_1 => ?_)
  have T_1 := th_eq e_o_1 T
  refine s_br (fun c_2 => ?_) (fun c_2 => ?_)
  · have _ := c_2
    have i_f_3 : Rg (0) (0) (o_1.1) := rg_eq c_2 (rg_b rfl : Rg (0) (0) (0 : Int32))
    exact s_some ⟨(e_o_1.trans rfl), (rg_m (rg_b rfl : Rg (-101) (-101) ((- 101 : Int32))) (by decide))⟩
  · have _ := c_2
    have i_f_4 : Rg (1) (1) (o_1.1) := rg_nlo c_2 i_o_1 (rg_b rfl : Rg (0) (0) (0 : Int32))
    have p_f_5 := p_o_1 c_2
    refine s_dP0 (zX11_isSide hF T_1 i_x2) (fun o_3 eb_o_3 e_o_3 i_o_3 p_o_3 => ?_)
    have T_6 := th_eq e_o_3 T_1
    refine s_br (fun c_7 => ?_) (fun c_7 => ?_)
    · have _ := c_7
      have i_f_8 : Rg (0) (0) (o_3.1) := rg_eq c_7 (rg_b rfl : Rg (0) (0) (0 : Int32))
      exact s_some ⟨(e_o_3.trans (e_o_1.trans rfl)), (rg_m (rg_b rfl : Rg (-101) (-101) ((- 101 : Int32))) (by decide))⟩
    · have _ := c_7
      have i_f_9 : Rg (1) (1) (o_3.1) := rg_nlo c_7 i_o_3 (rg_b rfl : Rg (0) (0) (0 : Int32))
      have p_f_10 := p_o_3 c_7
      refine s_dP0 (zX11_isPlace hF T_6 r_x0 i_x1) (fun o_5 eb_o_5 e_o_5 i_o_5 p_o_5 => ?_)
      have T_11 := th_eq e_o_5 T_6
      refine s_br (fun c_12 => ?_) (fun c_12 => ?_)
      · have _ := c_12
        have i_f_13 : Rg (0) (0) (o_5.1) := rg_eq c_12 (rg_b rfl : Rg (0) (0) (0 : Int32))
        exact s_some ⟨(e_o_5.trans (e_o_3.trans (e_o_1.trans rfl))), (rg_m (rg_b rfl : Rg (-102) (-102) ((- 102 : Int32))) (by decide))⟩
      · have _ := c_12
        have i_f_14 : Rg (1) (1) (o_5.1) := rg_nlo c_12 i_o_5 (rg_b rfl : Rg (0) (0) (0 : Int32))
        have p_f_15 := p_o_5 c_12
        obtain ⟨r_7, e_r_7, q_r_7⟩ := thR T_11 r_x0 (k := 12) (i := 6) (k2 := 6) rfl (by decide)
        refine s_ref e_r_7 ?_
        obtain ⟨r_8, e_r_8, q_r_8⟩ := thR T_11 r_x0 (k := 12) (i := 13) (k2 := 57) rfl (by decide)
        refine s_ref e_r_8 ?_
        refine s_gd (by rw [thN T_11 q_r_8 (k := 57) (n := 60) rfl (by decide)]; exact rg_inB (p_f_15 : Rg (0) (59) (x1)) (by decide)) ?_
        obtain ⟨r_10, e_r_10, q_r_10⟩ := thE T_11 q_r_8 (k := 57) (n := 60) (k2 := 4) (b := 59) (p_f_15 : Rg (0) (59) (x1)) (by decide) (by decide) (by decide)
        refine s_ref e_r_10 ?_
        refine s_dJ0 (zX5_seenBy hF T_11 q_r_7 q_r_10 p_f_10) (fun o_11 eb_o_11 e_o_11 => ?_)
        have T_16 := th_eq e_o_11 T_11
        refine s_br (fun c_17 => ?_) (fun c_17 => ?_)
        · have _ := c_17
          exact s_some ⟨(e_o_11.trans (e_o_5.trans (e_o_3.trans (e_o_1.trans rfl)))), (rg_m (rg_b rfl : Rg (0) (0) ((0 : Int32))) (by decide))⟩
        · have _ := c_17
          exact s_some ⟨(e_o_11.trans (e_o_5.trans (e_o_3.trans (e_o_1.trans rfl)))), (rg_m (rg_b rfl : Rg (1) (1) ((1 : Int32))) (by decide))⟩
set_option maxRecDepth 20000 in
theorem zX1_hasCatch_12 {ρ : Nat → Nat} {c : Cm} {h0 : Hp} {F : Nat} (hF : 700000 ≤ F) {k_2 : Hp → Nat → Int32 → Option (Int32 × Hp)} {C_2 : Int} (hk_2 : ∀ {h : Hp} {x0 : Nat} {x1 : Int32}, h = h0 → TH ρ c h → ρ x0 = 2 → Rg (0) (12) (x1) → C_2 < x1.toInt → Sat (k_2 h x0 x1) (ZI0 h0 (0) (1))) : ∀ (f : Nat) {h : Hp} {x0 : Nat} {x1 : Int32} {x2 : Int32}, h = h0 → TH ρ c h → ρ x0 = 2 → Rg (0) (11) (x1) → Rg (0) (8) (x2) → C_2 ≤ x1.toInt → (8 - x2.toInt).toNat < f → Sat (sX1_hasCatch_12 F k_2 f h x0 x1 x2) (ZI0 h0 (0) (1)) := by
  intro f
  induction f with
  | zero => intros; omega
  | succ f ih =>
    intro h x0 x1 x2 E T r_x0 i_x1 i_x2 hc_2 hm
    rw [sX1_hasCatch_12]
    obtain ⟨C_12, hC_12⟩ : ∃ C : Int, C = x2.toInt := ⟨_, rfl⟩
    have hk_12 : ∀ {h : Hp} {x0 : Nat} {x1 : Int32} {x2 : Int32}, h = h0 → TH ρ c h → ρ x0 = 2 → Rg (0) (11) (x1) → Rg (0) (8) (x2) → C_2 ≤ x1.toInt → C_12 < x2.toInt → Sat (sX1_hasCatch_12 F k_2 f h x0 x1 x2) (ZI0 h0 (0) (1)) := by
      intro h' x0' x1' x2' E' T' r_x0' i_x1' i_x2' hc_2' hl
      exact ih E' T' r_x0' i_x1' i_x2' hc_2' (by have := i_x2'.1; have := i_x2'.2; omega)
    have hc_12 : C_12 ≤ x2.toInt := by omega
    obtain ⟨r_1, e_r_1, q_r_1⟩ := thR T r_x0 (k := 2) (i := 16) (k2 := 29) rfl (by decide)
    refine s_ref e_r_1 ?_
    refine s_gd (by rw [thN T q_r_1 (k := 29) (n := 12) rfl (by decide)]; exact rg_inB (i_x1 : Rg (0) (11) (x1)) (by decide)) ?_
    refine s_br (fun c_1 => ?_) (fun c_1 => ?_)
    · have _ := c_1
      refine s_q (fun v_4 e_2 => ?_)
      have i_v_4 : Rg (1) (12) (v_4) := by rw [e_2]; exact (rg_add i_x1 (rg_b rfl : Rg (1) (1) ((1 : Int32))) (by decide) : Rg (1) (12) (x1 + (1 : Int32)))
      have m_3 : (v_4).toInt = x1.toInt + 1 := by rw [e_2]; exact rg_inc i_x1 (by decide)
      exact hk_2 E T r_x0 (rg_m i_v_4 (by decide)) (by have := hc_2; omega)
    · have _ := c_1
      have i_f_4 : Rg (0) (7) (x2) := rg_lt1 (nle_lt c_1) i_x2 (thI T q_r_1 (k := 29) rfl : Rg (0) (8) ((hI h r_1 x1.toNatClampNeg)))
      have i_f_5 : Rg (1) (8) ((hI h r_1 x1.toNatClampNeg)) := rg_lt2 (nle_lt c_1) i_x2 (thI T q_r_1 (k := 29) rfl : Rg (0) (8) ((hI h r_1 x1.toNatClampNeg)))
      obtain ⟨r_5, e_r_5, q_r_5⟩ := thR T r_x0 (k := 2) (i := 15) (k2 := 28) rfl (by decide)
      refine s_ref e_r_5 ?_
      refine s_gd (by rw [thN T q_r_5 (k := 28) (n := 96) rfl (by decide)]; exact rg_inB ((rg_add (rg_mulc i_x1 (rg_b rfl : Rg (8) (8) ((8 : Int32))) (by decide) : Rg (0) (88) ((x1 * (8 : Int32)))) i_f_4 (by decide) : Rg (0) (95) (((x1 * (8 : Int32)) + x2))) : Rg (0) (95) (((x1 * (8 : Int32)) + x2))) (by decide)) ?_
      refine s_br (fun c_6 => ?_) (fun c_6 => ?_)
      · have _ := c_6
        have i_f_7 : Rg (0) (0) (((hI h r_5 ((x1 * (8 : Int32)) + x2).toNatClampNeg) &&& (32 : Int32))) := rg_eq c_6 (rg_b rfl : Rg (0) (0) (0 : Int32))
        refine s_q (fun v_8 e_8 => ?_)
        have i_v_8 : Rg (1) (8) (v_8) := by rw [e_8]; exact (rg_add i_f_4 (rg_b rfl : Rg (1) (1) ((1 : Int32))) (by decide) : Rg (1) (8) (x2 + (1 : Int32)))
        have m_9 : (v_8).toInt = x2.toInt + 1 := by rw [e_8]; exact rg_inc i_f_4 (by decide)
        exact hk_12 E T r_x0 i_x1 (rg_m i_v_8 (by decide)) hc_2 (by have := hc_12; omega)
      · have _ := c_6
        have i_f_10 : Rg (1) (32) (((hI h r_5 ((x1 * (8 : Int32)) + x2).toNatClampNeg) &&& (32 : Int32))) := rg_nlo c_6 (rg_and (rg_b rfl : Rg (32) (32) ((32 : Int32))) (by decide) : Rg (0) (32) (((hI h r_5 ((x1 * (8 : Int32)) + x2).toNatClampNeg) &&& (32 : Int32)))) (rg_b rfl : Rg (0) (0) (0 : Int32))
        exact s_some ⟨E, (rg_m (rg_b rfl : Rg (1) (1) ((1 : Int32))) (by decide))⟩
set_option maxRecDepth 20000 in
theorem zX1_hasCatch_2 {ρ : Nat → Nat} {c : Cm} {h0 : Hp} {F : Nat} (hF : 700000 ≤ F) : ∀ (f : Nat) {h : Hp} {x0 : Nat} {x1 : Int32}, h = h0 → TH ρ c h → ρ x0 = 2 → Rg (0) (12) (x1) → (12 - x1.toInt).toNat < f → Sat (sX1_hasCatch_2 F f h x0 x1) (ZI0 h0 (0) (1)) := by
  intro f
  induction f with
  | zero => intros; omega
  | succ f ih =>
    intro h x0 x1 E T r_x0 i_x1 hm
    rw [sX1_hasCatch_2]
    obtain ⟨C_2, hC_2⟩ : ∃ C : Int, C = x1.toInt := ⟨_, rfl⟩
    have hk_2 : ∀ {h : Hp} {x0 : Nat} {x1 : Int32}, h = h0 → TH ρ c h → ρ x0 = 2 → Rg (0) (12) (x1) → C_2 < x1.toInt → Sat (sX1_hasCatch_2 F f h x0 x1) (ZI0 h0 (0) (1)) := by
      intro h' x0' x1' E' T' r_x0' i_x1' hl
      exact ih E' T' r_x0' i_x1' (by have := i_x1'.1; have := i_x1'.2; omega)
    have hc_2 : C_2 ≤ x1.toInt := by omega
    refine s_br (fun c_1 => ?_) (fun c_1 => ?_)
    · have _ := c_1
      exact s_some ⟨E, (rg_m (rg_b rfl : Rg (0) (0) ((0 : Int32))) (by decide))⟩
    · have _ := c_1
      have i_f_2 : Rg (0) (11) (x1) := rg_lt1 (nle_lt c_1) i_x1 (thI T r_x0 (k := 2) (i := 3) rfl : Rg (0) (12) ((hI h x0 3)))
      have i_f_3 : Rg (1) (12) ((hI h x0 3)) := rg_lt2 (nle_lt c_1) i_x1 (thI T r_x0 (k := 2) (i := 3) rfl : Rg (0) (12) ((hI h x0 3)))
      have m_4 : Rg (0) (8) ((0 : Int32)) := (rg_m (rg_b rfl : Rg (0) (0) ((0 : Int32))) (by decide))
      exact zX1_hasCatch_12 hF @hk_2 F E T r_x0 i_f_2 (rg_m (rg_b rfl : Rg (0) (0) ((0 : Int32))) (by decide)) hc_2 (by have := m_4.1; have := m_4.2; omega)
set_option maxRecDepth 20000 in
theorem zX1_hasCatch {ρ : Nat → Nat} {c : Cm} {F : Nat} (hF : 700000 ≤ F) {h : Hp} {x0 : Nat} (T : TH ρ c h) (r_x0 : ρ x0 = 2) : Sat (sX1_hasCatch F h x0) (ZI0 h (0) (1)) := by
  unfold sX1_hasCatch 
  have m_1 : Rg (0) (12) ((0 : Int32)) := (rg_m (rg_b rfl : Rg (0) (0) ((0 : Int32))) (by decide))
  exact zX1_hasCatch_2 hF F rfl T r_x0 (rg_m (rg_b rfl : Rg (0) (0) ((0 : Int32))) (by decide)) (by have := m_1.1; have := m_1.2; omega)
set_option maxRecDepth 20000 in
theorem zX11_tally {ρ : Nat → Nat} {c : Cm} {F : Nat} (hF : 700000 ≤ F) {h : Hp} {x0 : Nat} {x1 : Int32} {x2 : Int32} (T : TH ρ c h) (r_x0 : ρ x0 = 12) (i_x1 : Rg (-2147483648) (2147483647) (x1)) (i_x2 : Rg (-2147483648) (2147483647) (x2)) (en : (EnP x0 h)) : Sat (sX11_tally F h x0 x1 x2) (ZI0 h (-2147483648) (2147483647)) := by
  unfold sX11_tally sX11_tally_21 sX11_tally_48
  refine s_dP0 (zX11_isSide hF T i_x1) (fun o_1 eb_o_1 e_o_1 i_o_1 p_o_1 => ?_)
  have T_1 := th_eq e_o_1 T
  refine s_br (fun c_2 => ?_) (fun c_2 => ?_)
  · have _ := c_2
    have i_f_3 : Rg (0) (0) (o_1.1) := rg_eq c_2 (rg_b rfl : Rg (0) (0) (0 : Int32))
    exact s_some ⟨(e_o_1.trans rfl), (rg_m (rg_b rfl : Rg (-101) (-101) ((- 101 : Int32))) (by decide))⟩
  · have _ := c_2
    have i_f_4 : Rg (1) (1) (o_1.1) := rg_nlo c_2 i_o_1 (rg_b rfl : Rg (0) (0) (0 : Int32))
    have p_f_5 := p_o_1 c_2
    refine s_br (fun c_6 => ?_) (fun c_6 => ?_)
    · have _ := c_6
      have i_f_7 : Rg (-2147483648) (-1000001) (x2) := rg_lt1 c_6 i_x2 (rg_b rfl : Rg (-1000000) (-1000000) ((- 1000000 : Int32)))
      exact s_some ⟨(e_o_1.trans rfl), (rg_m (rg_b rfl : Rg (-101) (-101) ((- 101 : Int32))) (by decide))⟩
    · have _ := c_6
      have i_f_8 : Rg (-1000000) (2147483647) (x2) := rg_le2 (nlt_le c_6) (rg_b rfl : Rg (-1000000) (-1000000) ((- 1000000 : Int32))) i_x2
      refine s_br (fun c_9 => ?_) (fun c_9 => ?_)
      · have _ := c_9
        have i_f_10 : Rg (-1000000) (1000000) (x2) := rg_le1 c_9 i_f_8 (rg_b rfl : Rg (1000000) (1000000) ((1000000 : Int32)))
        obtain ⟨r_5, e_r_5, q_r_5⟩ := thR T_1 r_x0 (k := 12) (i := 10) (k2 := 1) rfl (by decide)
        refine s_ref e_r_5 ?_
        refine s_br (fun c_11 => ?_) (fun c_11 => ?_)
        · have _ := c_11
          have i_f_12 : Rg (0) (0) ((hI o_1.2 r_5 10)) := rg_eq c_11 (rg_b rfl : Rg (0) (0) (0 : Int32))
          exact s_some ⟨(e_o_1.trans rfl), (rg_m (rg_b rfl : Rg (-103) (-103) ((- 103 : Int32))) (by decide))⟩
        · have _ := c_11
          have i_f_13 : Rg (1) (1) ((hI o_1.2 r_5 10)) := rg_nlo c_11 (thI T_1 q_r_5 (k := 1) (i := 10) rfl : Rg (0) (1) ((hI o_1.2 r_5 10))) (rg_b rfl : Rg (0) (0) (0 : Int32))
          refine s_ref e_r_5 ?_
          have pf_14 : EnP x0 o_1.2 := (by rw [e_o_1]; exact en)
          refine s_dI0 (zX0_countWorth hF T_1 q_r_5 p_f_5 i_f_10 (pf_14 _ e_r_5 c_11).1 (pf_14 _ e_r_5 c_11).2) (fun o_8 eb_o_8 e_o_8 i_o_8 => ?_)
          have T_15 := th_eq e_o_8 T_1
          exact s_some ⟨(e_o_8.trans (e_o_1.trans rfl)), i_o_8⟩
      · have _ := c_9
        have i_f_16 : Rg (1000001) (2147483647) (x2) := rg_lt2 (nle_lt c_9) (rg_b rfl : Rg (1000000) (1000000) ((1000000 : Int32))) i_f_8
        exact s_some ⟨(e_o_1.trans rfl), (rg_m (rg_b rfl : Rg (-101) (-101) ((- 101 : Int32))) (by decide))⟩
set_option maxRecDepth 20000 in
theorem zX11_told {ρ : Nat → Nat} {c : Cm} {F : Nat} (hF : 700000 ≤ F) {h : Hp} {x0 : Nat} {x1 : Int32} (T : TH ρ c h) (r_x0 : ρ x0 = 12) (i_x1 : Rg (-2147483648) (2147483647) (x1)) : Sat (sX11_told F h x0 x1) (ZI0 h (-2147483648) (2147483647)) := by
  unfold sX11_told 
  refine s_br (fun c_1 => ?_) (fun c_1 => ?_)
  · have _ := c_1
    have i_f_2 : Rg (0) (0) (x1) := rg_eq c_1 (rg_b rfl : Rg (0) (0) ((0 : Int32)))
    obtain ⟨r_1, e_r_1, q_r_1⟩ := thR T r_x0 (k := 12) (i := 2) (k2 := 2) rfl (by decide)
    refine s_ref e_r_1 ?_
    exact s_some ⟨rfl, (rg_m (thI T q_r_1 (k := 2) (i := 0) rfl : Rg (0) (8) (hI h r_1 0)) (by decide))⟩
  · have _ := c_1
    refine s_br (fun c_3 => ?_) (fun c_3 => ?_)
    · have _ := c_3
      have i_f_4 : Rg (1) (1) (x1) := rg_eq c_3 (rg_b rfl : Rg (1) (1) ((1 : Int32)))
      obtain ⟨r_3, e_r_3, q_r_3⟩ := thR T r_x0 (k := 12) (i := 2) (k2 := 2) rfl (by decide)
      refine s_ref e_r_3 ?_
      exact s_some ⟨rfl, (rg_m (thI T q_r_3 (k := 2) (i := 1) rfl : Rg (0) (8) (hI h r_3 1)) (by decide))⟩
    · have _ := c_3
      refine s_br (fun c_5 => ?_) (fun c_5 => ?_)
      · have _ := c_5
        have i_f_6 : Rg (2) (2) (x1) := rg_eq c_5 (rg_b rfl : Rg (2) (2) ((2 : Int32)))
        obtain ⟨r_5, e_r_5, q_r_5⟩ := thR T r_x0 (k := 12) (i := 2) (k2 := 2) rfl (by decide)
        refine s_ref e_r_5 ?_
        exact s_some ⟨rfl, (rg_m (thI T q_r_5 (k := 2) (i := 3) rfl : Rg (0) (12) (hI h r_5 3)) (by decide))⟩
      · have _ := c_5
        refine s_br (fun c_7 => ?_) (fun c_7 => ?_)
        · have _ := c_7
          have i_f_8 : Rg (3) (3) (x1) := rg_eq c_7 (rg_b rfl : Rg (3) (3) ((3 : Int32)))
          obtain ⟨r_7, e_r_7, q_r_7⟩ := thR T r_x0 (k := 12) (i := 2) (k2 := 2) rfl (by decide)
          refine s_ref e_r_7 ?_
          exact s_some ⟨rfl, (rg_m (thI T q_r_7 (k := 2) (i := 4) rfl : Rg (-1) (11) (hI h r_7 4)) (by decide))⟩
        · have _ := c_7
          refine s_br (fun c_9 => ?_) (fun c_9 => ?_)
          · have _ := c_9
            have i_f_10 : Rg (4) (4) (x1) := rg_eq c_9 (rg_b rfl : Rg (4) (4) ((4 : Int32)))
            obtain ⟨r_9, e_r_9, q_r_9⟩ := thR T r_x0 (k := 12) (i := 2) (k2 := 2) rfl (by decide)
            refine s_ref e_r_9 ?_
            exact s_some ⟨rfl, (rg_m (thI T q_r_9 (k := 2) (i := 5) rfl : Rg (-1) (11) (hI h r_9 5)) (by decide))⟩
          · have _ := c_9
            refine s_br (fun c_11 => ?_) (fun c_11 => ?_)
            · have _ := c_11
              have i_f_12 : Rg (5) (5) (x1) := rg_eq c_11 (rg_b rfl : Rg (5) (5) ((5 : Int32)))
              refine s_dI0 (zX11_countPlaces hF T r_x0) (fun o_11 eb_o_11 e_o_11 i_o_11 => ?_)
              have T_13 := th_eq e_o_11 T
              exact s_some ⟨(e_o_11.trans rfl), i_o_11⟩
            · have _ := c_11
              refine s_br (fun c_14 => ?_) (fun c_14 => ?_)
              · have _ := c_14
                have i_f_15 : Rg (6) (6) (x1) := rg_eq c_14 (rg_b rfl : Rg (6) (6) ((6 : Int32)))
                obtain ⟨r_13, e_r_13, q_r_13⟩ := thR T r_x0 (k := 12) (i := 1) (k2 := 10) rfl (by decide)
                refine s_ref e_r_13 ?_
                exact s_some ⟨rfl, (rg_m (thI T q_r_13 (k := 10) (i := 1) rfl : Rg (0) (1200) (hI h r_13 1)) (by decide))⟩
              · have _ := c_14
                refine s_br (fun c_16 => ?_) (fun c_16 => ?_)
                · have _ := c_16
                  have i_f_17 : Rg (7) (7) (x1) := rg_eq c_16 (rg_b rfl : Rg (7) (7) ((7 : Int32)))
                  obtain ⟨r_15, e_r_15, q_r_15⟩ := thR T r_x0 (k := 12) (i := 0) (k2 := 10) rfl (by decide)
                  refine s_ref e_r_15 ?_
                  exact s_some ⟨rfl, (rg_m (thI T q_r_15 (k := 10) (i := 1) rfl : Rg (0) (1200) (hI h r_15 1)) (by decide))⟩
                · have _ := c_16
                  exact s_some ⟨rfl, (rg_m (rg_b rfl : Rg (-101) (-101) ((- 101 : Int32))) (by decide))⟩
set_option maxRecDepth 20000 in
theorem zX7_writeEmpty {ρ : Nat → Nat} {c : Cm} {F : Nat} {w_x1 : Nat} (hF : 700000 ≤ F) (hO_x1 : pmO c w_x1 [(49, 999), (10, 1)]) {h : Hp} {x0 : Int32} {x1 : Nat} (o_x1 : cw c x1 = w_x1) (T : TH ρ c h) (i_x0 : Rg (-2147483648) (2147483647) (x0)) (r_x1 : ρ x1 = 10) : Sat (sX7_writeEmpty h x0 x1) (ZV ρ c) := by
  unfold sX7_writeEmpty sX7_writeEmpty_12
  refine s_br (fun c_1 => ?_) (fun c_1 => ?_)
  · have _ := c_1
    have i_f_2 : Rg (-2147483648) (0) (x0) := rg_le1 c_1 i_x0 (rg_b rfl : Rg (0) (0) (0 : Int32))
    exact s_some (T)
  · have _ := c_1
    have i_f_3 : Rg (1) (2147483647) (x0) := rg_lt2 (nle_lt c_1) (rg_b rfl : Rg (0) (0) (0 : Int32)) i_x0
    refine s_cV (zX9_append hF (pmO_e o_x1 hO_x1 rfl) T r_x1 (rg_top _ : Rg (-2147483648) (2147483647) (((48 : Int32) + x0)))) (fun o_2 T_4 => ?_)
    exact s_some (T_4)
set_option maxRecDepth 20000 in
theorem zX7_writeRanks_89 {ρ : Nat → Nat} {c : Cm} {F : Nat} {w_x1 w_x4 : Nat} (hF : 700000 ≤ F) {k_11 : Hp → Nat → Nat → Int64 → Nat → Int32 → Option (Hp)} {C_11 : Int} {k_22 : Hp → Nat → Nat → Int64 → Nat → Int32 → Int32 → Int32 → Option (Hp)} {C_22 : Int} (hk_11 : ∀ {h : Hp} {x0 : Nat} {x1 : Nat} {x2 : Int64} {x4 : Nat} {x5 : Int32}, cw c x1 = w_x1 → cw c x4 = w_x4 → TH ρ c h → ρ x0 = 8 → ρ x1 = 4 → ρ x4 = 10 → Rg (-1) (7) (x5) → x5.toInt < C_11 → Sat (k_11 h x0 x1 x2 x4 x5) (ZV ρ c)) (hk_22 : ∀ {h : Hp} {x0 : Nat} {x1 : Nat} {x2 : Int64} {x4 : Nat} {x5 : Int32} {x6 : Int32} {x7 : Int32}, cw c x1 = w_x1 → cw c x4 = w_x4 → TH ρ c h → ρ x0 = 8 → ρ x1 = 4 → ρ x4 = 10 → Rg (0) (7) (x5) → Rg (-2147483648) (2147483647) (x6) → Rg (0) (8) (x7) → x5.toInt ≤ C_11 → C_22 < x7.toInt → Sat (k_22 h x0 x1 x2 x4 x5 x6 x7) (ZV ρ c)) (hO_x4 : pmO c w_x4 [(49, 999), (10, 1)]) {h : Hp} {x0 : Nat} {x1 : Nat} {x2 : Int64} {x4 : Nat} {x5 : Int32} {x6 : Int32} {x7 : Int32} {x8 : Int32} {x9 : Int32} (o_x1 : cw c x1 = w_x1) (o_x4 : cw c x4 = w_x4) (T : TH ρ c h) (r_x0 : ρ x0 = 8) (r_x1 : ρ x1 = 4) (r_x4 : ρ x4 = 10) (i_x5 : Rg (0) (7) (x5)) (i_x6 : Rg (-2147483648) (2147483647) (x6)) (i_x7 : Rg (0) (7) (x7)) (i_x8 : Rg (0) (63) (x8)) (i_x9 : Rg (0) (1) (x9)) (hc_11 : x5.toInt ≤ C_11) (hc_22 : C_22 ≤ x7.toInt) : Sat (sX7_writeRanks_89 F k_11 k_22 h x0 x1 x2 x4 x5 x6 x7 x8 x9) (ZV ρ c) := by
  unfold sX7_writeRanks_89 sX7_writeRanks_125 sX7_writeRanks_128
  refine s_cV (zX7_writeEmpty hF (pmO_s hO_x4 rfl) o_x4 T i_x6 r_x4) (fun o_1 T_1 => ?_)
  refine s_br (fun c_2 => ?_) (fun c_2 => ?_)
  · have _ := c_2
    have i_f_3 : Rg (0) (0) (x9) := rg_eq c_2 (rg_b rfl : Rg (0) (0) (0 : Int32))
    obtain ⟨r_3, e_r_3, q_r_3⟩ := thR T_1 r_x0 (k := 8) (i := 0) (k2 := 2) rfl (by decide)
    refine s_ref e_r_3 ?_
    obtain ⟨r_4, e_r_4, q_r_4⟩ := thR T_1 r_x1 (k := 4) (i := 0) (k2 := 34) rfl (by decide)
    refine s_ref e_r_4 ?_
    refine s_gd (by rw [thN T_1 q_r_4 (k := 34) (n := 64) rfl (by decide)]; exact rg_inB (i_x8 : Rg (0) (63) (x8)) (by decide)) ?_
    refine s_dI0 (zX1_letterOf hF T_1 q_r_3 (rg_m (thI T_1 q_r_4 (k := 34) rfl : Rg (-2) (23) ((hI o_1 r_4 x8.toNatClampNeg))) (by decide))) (fun o_6 eb_o_6 e_o_6 i_o_6 => ?_)
    have T_4 := th_eq e_o_6 T_1
    refine s_cV (zX9_append hF (pmO_e o_x4 hO_x4 rfl) T_4 r_x4 (rg_m i_o_6 (by decide))) (fun o_1q1 T_5 => ?_)
    refine s_q (fun v_1q2 e_6 => ?_)
    have i_v_1q2 : Rg (1) (8) (v_1q2) := by rw [e_6]; exact (rg_add i_x7 (rg_b rfl : Rg (1) (1) ((1 : Int32))) (by decide) : Rg (1) (8) (x7 + (1 : Int32)))
    have m_7 : (v_1q2).toInt = x7.toInt + 1 := by rw [e_6]; exact rg_inc i_x7 (by decide)
    exact hk_22 o_x1 o_x4 T_5 r_x0 r_x1 r_x4 i_x5 (rg_m (rg_b rfl : Rg (0) (0) ((0 : Int32))) (by decide)) (rg_m i_v_1q2 (by decide)) hc_11 (by have := hc_22; omega)
  · have _ := c_2
    have i_f_8 : Rg (1) (1) (x9) := rg_nlo c_2 i_x9 (rg_b rfl : Rg (0) (0) (0 : Int32))
    refine s_cV (zX9_append hF (pmO_e o_x4 hO_x4 rfl) T_1 r_x4 (rg_m (rg_b rfl : Rg (63) (63) ((63 : Int32))) (by decide))) (fun o_1q3 T_9 => ?_)
    refine s_q (fun v_1q4 e_10 => ?_)
    have i_v_1q4 : Rg (1) (8) (v_1q4) := by rw [e_10]; exact (rg_add i_x7 (rg_b rfl : Rg (1) (1) ((1 : Int32))) (by decide) : Rg (1) (8) (x7 + (1 : Int32)))
    have m_11 : (v_1q4).toInt = x7.toInt + 1 := by rw [e_10]; exact rg_inc i_x7 (by decide)
    exact hk_22 o_x1 o_x4 T_9 r_x0 r_x1 r_x4 i_x5 (rg_m (rg_b rfl : Rg (0) (0) ((0 : Int32))) (by decide)) (rg_m i_v_1q4 (by decide)) hc_11 (by have := hc_22; omega)
set_option maxRecDepth 20000 in
theorem zX7_writeRanks_65 {ρ : Nat → Nat} {c : Cm} {F : Nat} {w_x1 w_x4 : Nat} (hF : 700000 ≤ F) {k_11 : Hp → Nat → Nat → Int64 → Nat → Int32 → Option (Hp)} {C_11 : Int} {k_22 : Hp → Nat → Nat → Int64 → Nat → Int32 → Int32 → Int32 → Option (Hp)} {C_22 : Int} (hk_11 : ∀ {h : Hp} {x0 : Nat} {x1 : Nat} {x2 : Int64} {x4 : Nat} {x5 : Int32}, cw c x1 = w_x1 → cw c x4 = w_x4 → TH ρ c h → ρ x0 = 8 → ρ x1 = 4 → ρ x4 = 10 → Rg (-1) (7) (x5) → x5.toInt < C_11 → Sat (k_11 h x0 x1 x2 x4 x5) (ZV ρ c)) (hk_22 : ∀ {h : Hp} {x0 : Nat} {x1 : Nat} {x2 : Int64} {x4 : Nat} {x5 : Int32} {x6 : Int32} {x7 : Int32}, cw c x1 = w_x1 → cw c x4 = w_x4 → TH ρ c h → ρ x0 = 8 → ρ x1 = 4 → ρ x4 = 10 → Rg (0) (7) (x5) → Rg (-2147483648) (2147483647) (x6) → Rg (0) (8) (x7) → x5.toInt ≤ C_11 → C_22 < x7.toInt → Sat (k_22 h x0 x1 x2 x4 x5 x6 x7) (ZV ρ c)) (hO_x4 : pmO c w_x4 [(49, 999), (10, 1)]) {h : Hp} {x0 : Nat} {x1 : Nat} {x2 : Int64} {x4 : Nat} {x5 : Int32} {x6 : Int32} {x7 : Int32} {x8 : Int32} {t0 : Int32} (o_x1 : cw c x1 = w_x1) (o_x4 : cw c x4 = w_x4) (T : TH ρ c h) (r_x0 : ρ x0 = 8) (r_x1 : ρ x1 = 4) (r_x4 : ρ x4 = 10) (i_x5 : Rg (0) (7) (x5)) (i_x6 : Rg (-2147483648) (2147483647) (x6)) (i_x7 : Rg (0) (7) (x7)) (i_x8 : Rg (0) (63) (x8)) (i_t0 : Rg (0) (1) (t0)) (hc_11 : x5.toInt ≤ C_11) (hc_22 : C_22 ≤ x7.toInt) : Sat (sX7_writeRanks_65 F k_11 k_22 h x0 x1 x2 x4 x5 x6 x7 x8 t0) (ZV ρ c) := by
  unfold sX7_writeRanks_65 sX7_writeRanks_128
  refine s_br (fun c_1 => ?_) (fun c_1 => ?_)
  · have _ := c_1
    have i_f_2 : Rg (0) (0) (t0) := rg_eq c_1 (rg_b rfl : Rg (0) (0) (0 : Int32))
    obtain ⟨r_2, e_r_2, q_r_2⟩ := thR T r_x1 (k := 4) (i := 0) (k2 := 34) rfl (by decide)
    refine s_ref e_r_2 ?_
    refine s_gd (by rw [thN T q_r_2 (k := 34) (n := 64) rfl (by decide)]; exact rg_inB (i_x8 : Rg (0) (63) (x8)) (by decide)) ?_
    refine s_br (fun c_3 => ?_) (fun c_3 => ?_)
    · have _ := c_3
      have i_f_4 : Rg (-1) (-1) ((hI h r_2 x8.toNatClampNeg)) := rg_eq c_3 (rg_b rfl : Rg (-1) (-1) ((- 1 : Int32)))
      refine s_q (fun v_5 e_5 => ?_)
      have i_v_5 : Rg (-2147483648) (2147483647) (v_5) := by rw [e_5]; exact (rg_top _ : Rg (-2147483648) (2147483647) (x6 + (1 : Int32)))
      refine s_q (fun v_1q1 e_6 => ?_)
      have i_v_1q1 : Rg (1) (8) (v_1q1) := by rw [e_6]; exact (rg_add i_x7 (rg_b rfl : Rg (1) (1) ((1 : Int32))) (by decide) : Rg (1) (8) (x7 + (1 : Int32)))
      have m_7 : (v_1q1).toInt = x7.toInt + 1 := by rw [e_6]; exact rg_inc i_x7 (by decide)
      exact hk_22 o_x1 o_x4 T r_x0 r_x1 r_x4 i_x5 i_v_5 (rg_m i_v_1q1 (by decide)) hc_11 (by have := hc_22; omega)
    · have _ := c_3
      exact zX7_writeRanks_89 hF @hk_11 @hk_22 (pmO_s hO_x4 rfl) o_x1 o_x4 T r_x0 r_x1 r_x4 i_x5 i_x6 i_x7 i_x8 (rg_m i_f_2 (by decide)) hc_11 hc_22
  · have _ := c_1
    have i_f_8 : Rg (1) (1) (t0) := rg_nlo c_1 i_t0 (rg_b rfl : Rg (0) (0) (0 : Int32))
    exact zX7_writeRanks_89 hF @hk_11 @hk_22 (pmO_s hO_x4 rfl) o_x1 o_x4 T r_x0 r_x1 r_x4 i_x5 i_x6 i_x7 i_x8 (rg_m i_f_8 (by decide)) hc_11 hc_22
set_option maxRecDepth 20000 in
theorem zX7_writeRanks_22 {ρ : Nat → Nat} {c : Cm} {F : Nat} {w_x1 w_x4 : Nat} (hF : 700000 ≤ F) {k_11 : Hp → Nat → Nat → Int64 → Nat → Int32 → Option (Hp)} {C_11 : Int} (hk_11 : ∀ {h : Hp} {x0 : Nat} {x1 : Nat} {x2 : Int64} {x4 : Nat} {x5 : Int32}, cw c x1 = w_x1 → cw c x4 = w_x4 → TH ρ c h → ρ x0 = 8 → ρ x1 = 4 → ρ x4 = 10 → Rg (-1) (7) (x5) → x5.toInt < C_11 → Sat (k_11 h x0 x1 x2 x4 x5) (ZV ρ c)) (hO_x4 : pmO c w_x4 [(49, 999), (10, 1)]) : ∀ (f : Nat) {h : Hp} {x0 : Nat} {x1 : Nat} {x2 : Int64} {x4 : Nat} {x5 : Int32} {x6 : Int32} {x7 : Int32}, cw c x1 = w_x1 → cw c x4 = w_x4 → TH ρ c h → ρ x0 = 8 → ρ x1 = 4 → ρ x4 = 10 → Rg (0) (7) (x5) → Rg (-2147483648) (2147483647) (x6) → Rg (0) (8) (x7) → x5.toInt ≤ C_11 → (8 - x7.toInt).toNat < f → Sat (sX7_writeRanks_22 F k_11 f h x0 x1 x2 x4 x5 x6 x7) (ZV ρ c) := by
  intro f
  induction f with
  | zero => intros; omega
  | succ f ih =>
    intro h x0 x1 x2 x4 x5 x6 x7 o_x1 o_x4 T r_x0 r_x1 r_x4 i_x5 i_x6 i_x7 hc_11 hm
    rw [sX7_writeRanks_22]
    unfold sX7_writeRanks_153
    obtain ⟨C_22, hC_22⟩ : ∃ C : Int, C = x7.toInt := ⟨_, rfl⟩
    have hk_22 : ∀ {h : Hp} {x0 : Nat} {x1 : Nat} {x2 : Int64} {x4 : Nat} {x5 : Int32} {x6 : Int32} {x7 : Int32}, cw c x1 = w_x1 → cw c x4 = w_x4 → TH ρ c h → ρ x0 = 8 → ρ x1 = 4 → ρ x4 = 10 → Rg (0) (7) (x5) → Rg (-2147483648) (2147483647) (x6) → Rg (0) (8) (x7) → x5.toInt ≤ C_11 → C_22 < x7.toInt → Sat (sX7_writeRanks_22 F k_11 f h x0 x1 x2 x4 x5 x6 x7) (ZV ρ c) := by
      intro h' x0' x1' x2' x4' x5' x6' x7' o_x1' o_x4' T' r_x0' r_x1' r_x4' i_x5' i_x6' i_x7' hc_11' hl
      exact ih o_x1' o_x4' T' r_x0' r_x1' r_x4' i_x5' i_x6' i_x7' hc_11' (by have := i_x7'.1; have := i_x7'.2; omega)
    have hc_22 : C_22 ≤ x7.toInt := by omega
    obtain ⟨r_1, e_r_1, q_r_1⟩ := thR T r_x0 (k := 8) (i := 0) (k2 := 2) rfl (by decide)
    refine s_ref e_r_1 ?_
    refine s_br (fun c_1 => ?_) (fun c_1 => ?_)
    · have _ := c_1
      refine s_cV (zX7_writeEmpty hF (pmO_s hO_x4 rfl) o_x4 T i_x6 r_x4) (fun o_3 T_2 => ?_)
      refine s_br (fun c_3 => ?_) (fun c_3 => ?_)
      · have _ := c_3
        have i_f_4 : Rg (0) (0) (x5) := rg_le1 c_3 i_x5 (rg_b rfl : Rg (0) (0) (0 : Int32))
        refine s_q (fun v_1q1 e_5 => ?_)
        have i_v_1q1 : Rg (-1) (-1) (v_1q1) := by rw [e_5]; exact (rg_add i_f_4 (rg_b rfl : Rg (-1) (-1) ((- 1 : Int32))) (by decide) : Rg (-1) (-1) (x5 + (- 1 : Int32)))
        have m_6 : (v_1q1).toInt = x5.toInt - 1 := by rw [e_5]; exact rg_dec i_f_4 (by decide)
        exact hk_11 o_x1 o_x4 T_2 r_x0 r_x1 r_x4 (rg_m i_v_1q1 (by decide)) (by have := hc_11; omega)
      · have _ := c_3
        have i_f_7 : Rg (1) (7) (x5) := rg_lt2 (nle_lt c_3) (rg_b rfl : Rg (0) (0) (0 : Int32)) i_x5
        refine s_cV (zX9_append hF (pmO_e o_x4 hO_x4 rfl) T_2 r_x4 (rg_m (rg_b rfl : Rg (47) (47) ((47 : Int32))) (by decide))) (fun o_5 T_8 => ?_)
        refine s_q (fun v_1q2 e_9 => ?_)
        have i_v_1q2 : Rg (0) (6) (v_1q2) := by rw [e_9]; exact (rg_add i_f_7 (rg_b rfl : Rg (-1) (-1) ((- 1 : Int32))) (by decide) : Rg (0) (6) (x5 + (- 1 : Int32)))
        have m_10 : (v_1q2).toInt = x5.toInt - 1 := by rw [e_9]; exact rg_dec i_f_7 (by decide)
        exact hk_11 o_x1 o_x4 T_8 r_x0 r_x1 r_x4 (rg_m i_v_1q2 (by decide)) (by have := hc_11; omega)
    · have _ := c_1
      have i_f_11 : Rg (0) (7) (x7) := rg_lt1 (nle_lt c_1) i_x7 (thI T q_r_1 (k := 2) (i := 0) rfl : Rg (0) (8) ((hI h r_1 0)))
      have i_f_12 : Rg (1) (8) ((hI h r_1 0)) := rg_lt2 (nle_lt c_1) i_x7 (thI T q_r_1 (k := 2) (i := 0) rfl : Rg (0) (8) ((hI h r_1 0)))
      refine s_ref e_r_1 ?_
      refine s_q (fun v_7 e_13 => ?_)
      have i_v_7 : Rg (0) (63) (v_7) := by rw [e_13]; exact (rg_add (rg_mul i_x5 i_f_12 (by decide) : Rg (0) (56) ((x5 * (hI h r_1 0)))) i_f_11 (by decide) : Rg (0) (63) ((x5 * (hI h r_1 0)) + x7))
      refine s_br (fun c_14 => ?_) (fun c_14 => ?_)
      · have _ := c_14
        exact zX7_writeRanks_65 hF @hk_11 @hk_22 (pmO_s hO_x4 rfl) o_x1 o_x4 T r_x0 r_x1 r_x4 i_x5 i_x6 i_f_11 i_v_7 (rg_m (rg_b rfl : Rg (1) (1) ((1 : Int32))) (by decide)) hc_11 hc_22
      · have _ := c_14
        exact zX7_writeRanks_65 hF @hk_11 @hk_22 (pmO_s hO_x4 rfl) o_x1 o_x4 T r_x0 r_x1 r_x4 i_x5 i_x6 i_f_11 i_v_7 (rg_m (rg_b rfl : Rg (0) (0) ((0 : Int32))) (by decide)) hc_11 hc_22
