set_option maxRecDepth 20000 in
theorem zX5_isOnHill {ρ : Nat → Nat} {c : Cm} {F : Nat} (hF : 700000 ≤ F) {h : Hp} {x0 : Nat} {x1 : Nat} {x2 : Int32} (T : TH ρ c h) (r_x0 : ρ x0 = 6) (r_x1 : ρ x1 = 4) (i_x2 : Rg (0) (1) (x2)) : Sat (sX5_isOnHill h x0 x1 x2) (ZI0 h (0) (1)) := by
  unfold sX5_isOnHill sX5_isOnHill_35 sX5_isOnHill_36
  obtain ⟨r_1, e_r_1, q_r_1⟩ := thR T r_x1 (k := 4) (i := 2) (k2 := 36) rfl (by decide)
  refine s_ref e_r_1 ?_
  refine s_gd (by rw [thN T q_r_1 (k := 36) (n := 2) rfl (by decide)]; exact rg_inB (i_x2 : Rg (0) (1) (x2)) (by decide)) ?_
  refine s_br (fun c_1 => ?_) (fun c_1 => ?_)
  · have _ := c_1
    have i_f_2 : Rg (-1) (-1) ((hI h r_1 x2.toNatClampNeg)) := rg_eq c_1 (rg_b rfl : Rg (-1) (-1) ((- 1 : Int32)))
    refine s_gd (rg_bool (rg_m (rg_b rfl : Rg (0) (0) ((0 : Int32))) (by decide))) ?_
    exact s_some ⟨rfl, (rg_m (rg_b rfl : Rg (0) (0) ((0 : Int32))) (by decide))⟩
  · have _ := c_1
    have i_f_3 : Rg (0) (63) ((hI h r_1 x2.toNatClampNeg)) := rg_nlo c_1 (thI T q_r_1 (k := 36) rfl : Rg (-1) (63) ((hI h r_1 x2.toNatClampNeg))) (rg_b rfl : Rg (-1) (-1) ((- 1 : Int32)))
    obtain ⟨r_4, e_r_4, q_r_4⟩ := thR T r_x0 (k := 6) (i := 0) (k2 := 2) rfl (by decide)
    refine s_ref e_r_4 ?_
    refine s_ref e_r_1 ?_
    refine s_gd (by rw [thN T q_r_1 (k := 36) (n := 2) rfl (by decide)]; exact rg_inB (i_x2 : Rg (0) (1) (x2)) (by decide)) ?_
    refine s_br (fun c_4 => ?_) (fun c_4 => ?_)
    · have _ := c_4
      refine s_gd (rg_bool (rg_m (rg_b rfl : Rg (0) (0) ((0 : Int32))) (by decide))) ?_
      exact s_some ⟨rfl, (rg_m (rg_b rfl : Rg (0) (0) ((0 : Int32))) (by decide))⟩
    · have _ := c_4
      refine s_gd (rg_bool (rg_m (rg_b rfl : Rg (1) (1) ((1 : Int32))) (by decide))) ?_
      exact s_some ⟨rfl, (rg_m (rg_b rfl : Rg (1) (1) ((1 : Int32))) (by decide))⟩
set_option maxRecDepth 20000 in
theorem zX5_winnerOf {ρ : Nat → Nat} {c : Cm} {F : Nat} (hF : 700000 ≤ F) {h : Hp} {x0 : Nat} {x1 : Nat} {x2 : Int32} (T : TH ρ c h) (r_x0 : ρ x0 = 6) (r_x1 : ρ x1 = 4) (i_x2 : Rg (0) (6) (x2)) : Sat (sX5_winnerOf h x0 x1 x2) (ZI0 h (-1) (2)) := by
  unfold sX5_winnerOf sX5_winnerOf_64 sX5_winnerOf_81 sX5_winnerOf_105 sX5_winnerOf_121 sX5_winnerOf_143 sX5_winnerOf_179
  refine s_q (fun v_1 e_1 => ?_)
  have i_v_1 : Rg (0) (1) (v_1) := by rw [e_1]; exact (thI T r_x1 (k := 4) (i := 5) rfl : Rg (0) (1) (hI h x1 5))
  refine s_q (fun v_2 e_2 => ?_)
  have i_v_2 : Rg (0) (1) (v_2) := by rw [e_2]; exact (rg_sub (rg_b rfl : Rg (1) (1) ((1 : Int32))) i_v_1 (by decide) : Rg (0) (1) ((1 : Int32) - v_1))
  refine s_br (fun c_3 => ?_) (fun c_3 => ?_)
  · have _ := c_3
    have i_f_4 : Rg (1) (1) (x2) := rg_eq c_3 (rg_b rfl : Rg (1) (1) ((1 : Int32)))
    obtain ⟨r_3, e_r_3, q_r_3⟩ := thR T r_x1 (k := 4) (i := 2) (k2 := 36) rfl (by decide)
    refine s_ref e_r_3 ?_
    refine s_gd (by rw [thN T q_r_3 (k := 36) (n := 2) rfl (by decide)]; exact rg_inB (i_v_1 : Rg (0) (1) (v_1)) (by decide)) ?_
    refine s_br (fun c_5 => ?_) (fun c_5 => ?_)
    · have _ := c_5
      have i_f_6 : Rg (-1) (-1) ((hI h r_3 v_1.toNatClampNeg)) := rg_eq c_5 (rg_b rfl : Rg (-1) (-1) ((- 1 : Int32)))
      exact s_some ⟨rfl, (rg_m i_v_2 (by decide))⟩
    · have _ := c_5
      have i_f_7 : Rg (0) (63) ((hI h r_3 v_1.toNatClampNeg)) := rg_nlo c_5 (thI T q_r_3 (k := 36) rfl : Rg (-1) (63) ((hI h r_3 v_1.toNatClampNeg))) (rg_b rfl : Rg (-1) (-1) ((- 1 : Int32)))
      exact s_some ⟨rfl, (rg_m i_v_1 (by decide))⟩
  · have _ := c_3
    refine s_br (fun c_8 => ?_) (fun c_8 => ?_)
    · have _ := c_8
      have i_f_9 : Rg (2) (2) (x2) := rg_eq c_8 (rg_b rfl : Rg (2) (2) ((2 : Int32)))
      refine s_dI0 (zX5_isOnHill hF T r_x0 r_x1 i_v_2) (fun o_7 eb_o_7 e_o_7 i_o_7 => ?_)
      have T_10 := th_eq e_o_7 T
      refine s_br (fun c_11 => ?_) (fun c_11 => ?_)
      · have _ := c_11
        have i_f_12 : Rg (0) (0) (o_7.1) := rg_eq c_11 (rg_b rfl : Rg (0) (0) (0 : Int32))
        exact s_some ⟨(e_o_7.trans rfl), (rg_m i_v_1 (by decide))⟩
      · have _ := c_11
        have i_f_13 : Rg (1) (1) (o_7.1) := rg_nlo c_11 i_o_7 (rg_b rfl : Rg (0) (0) (0 : Int32))
        exact s_some ⟨(e_o_7.trans rfl), (rg_m i_v_2 (by decide))⟩
    · have _ := c_8
      refine s_br (fun c_14 => ?_) (fun c_14 => ?_)
      · have _ := c_14
        have i_f_15 : Rg (3) (3) (x2) := rg_eq c_14 (rg_b rfl : Rg (3) (3) ((3 : Int32)))
        obtain ⟨r_10, e_r_10, q_r_10⟩ := thR T r_x1 (k := 4) (i := 4) (k2 := 38) rfl (by decide)
        refine s_ref e_r_10 ?_
        refine s_gd (by rw [thN T q_r_10 (k := 38) (n := 2) rfl (by decide)]; exact rg_inB (i_v_2 : Rg (0) (1) (v_2)) (by decide)) ?_
        obtain ⟨r_12, e_r_12, q_r_12⟩ := thR T r_x0 (k := 6) (i := 0) (k2 := 2) rfl (by decide)
        refine s_ref e_r_12 ?_
        refine s_br (fun c_16 => ?_) (fun c_16 => ?_)
        · have _ := c_16
          have i_f_17 : Rg (0) (8) ((hI h r_10 v_2.toNatClampNeg)) := rg_lt1 c_16 (thI T q_r_10 (k := 38) rfl : Rg (0) (9) ((hI h r_10 v_2.toNatClampNeg))) (thI T q_r_12 (k := 2) (i := 7) rfl : Rg (0) (9) ((hI h r_12 7)))
          have i_f_18 : Rg (1) (9) ((hI h r_12 7)) := rg_lt2 c_16 (thI T q_r_10 (k := 38) rfl : Rg (0) (9) ((hI h r_10 v_2.toNatClampNeg))) (thI T q_r_12 (k := 2) (i := 7) rfl : Rg (0) (9) ((hI h r_12 7)))
          exact s_some ⟨rfl, (rg_m i_v_1 (by decide))⟩
        · have _ := c_16
          exact s_some ⟨rfl, (rg_m i_v_2 (by decide))⟩
      · have _ := c_14
        refine s_br (fun c_19 => ?_) (fun c_19 => ?_)
        · have _ := c_19
          have i_f_20 : Rg (4) (4) (x2) := rg_eq c_19 (rg_b rfl : Rg (4) (4) ((4 : Int32)))
          refine s_dI0 (zX5_isBare hF T r_x0 r_x1 i_v_1) (fun o_15 eb_o_15 e_o_15 i_o_15 => ?_)
          have T_21 := th_eq e_o_15 T
          refine s_br (fun c_22 => ?_) (fun c_22 => ?_)
          · have _ := c_22
            have i_f_23 : Rg (0) (0) (o_15.1) := rg_eq c_22 (rg_b rfl : Rg (0) (0) (0 : Int32))
            obtain ⟨r_1q7, e_r_1q7, q_r_1q7⟩ := thR T_21 r_x0 (k := 6) (i := 0) (k2 := 2) rfl (by decide)
            refine s_ref e_r_1q7 ?_
            refine s_br (fun c_24 => ?_) (fun c_24 => ?_)
            · have _ := c_24
              have i_f_25 : Rg (1) (1) ((hI o_15.2 r_1q7 9)) := rg_eq c_24 (rg_b rfl : Rg (1) (1) ((1 : Int32)))
              exact s_some ⟨(e_o_15.trans rfl), (rg_m i_v_2 (by decide))⟩
            · have _ := c_24
              exact s_some ⟨(e_o_15.trans rfl), (rg_m (rg_sub (rg_b rfl : Rg (1) (1) ((1 : Int32))) i_v_2 (by decide) : Rg (0) (1) (((1 : Int32) - v_2))) (by decide))⟩
          · have _ := c_22
            have i_f_26 : Rg (1) (1) (o_15.1) := rg_nlo c_22 i_o_15 (rg_b rfl : Rg (0) (0) (0 : Int32))
            obtain ⟨r_1q10, e_r_1q10, q_r_1q10⟩ := thR T_21 r_x0 (k := 6) (i := 0) (k2 := 2) rfl (by decide)
            refine s_ref e_r_1q10 ?_
            refine s_br (fun c_27 => ?_) (fun c_27 => ?_)
            · have _ := c_27
              have i_f_28 : Rg (1) (1) ((hI o_15.2 r_1q10 9)) := rg_eq c_27 (rg_b rfl : Rg (1) (1) ((1 : Int32)))
              exact s_some ⟨(e_o_15.trans rfl), (rg_m i_v_1 (by decide))⟩
            · have _ := c_27
              exact s_some ⟨(e_o_15.trans rfl), (rg_m (rg_sub (rg_b rfl : Rg (1) (1) ((1 : Int32))) i_v_1 (by decide) : Rg (0) (1) (((1 : Int32) - v_1))) (by decide))⟩
        · have _ := c_19
          refine s_br (fun c_29 => ?_) (fun c_29 => ?_)
          · have _ := c_29
            have i_f_30 : Rg (5) (5) (x2) := rg_eq c_29 (rg_b rfl : Rg (5) (5) ((5 : Int32)))
            exact s_some ⟨rfl, (rg_m i_v_2 (by decide))⟩
          · have _ := c_29
            refine s_br (fun c_31 => ?_) (fun c_31 => ?_)
            · have _ := c_31
              have i_f_32 : Rg (6) (6) (x2) := rg_eq c_31 (rg_b rfl : Rg (6) (6) ((6 : Int32)))
              obtain ⟨r_19, e_r_19, q_r_19⟩ := thR T r_x0 (k := 6) (i := 0) (k2 := 2) rfl (by decide)
              refine s_ref e_r_19 ?_
              refine s_br (fun c_33 => ?_) (fun c_33 => ?_)
              · have _ := c_33
                have i_f_34 : Rg (1) (1) ((hI h r_19 8)) := rg_eq c_33 (rg_b rfl : Rg (1) (1) ((1 : Int32)))
                exact s_some ⟨rfl, (rg_m i_v_1 (by decide))⟩
              · have _ := c_33
                refine s_ref e_r_19 ?_
                refine s_br (fun c_35 => ?_) (fun c_35 => ?_)
                · have _ := c_35
                  have i_f_36 : Rg (2) (2) ((hI h r_19 8)) := rg_eq c_35 (rg_b rfl : Rg (2) (2) ((2 : Int32)))
                  exact s_some ⟨rfl, (rg_m i_v_2 (by decide))⟩
                · have _ := c_35
                  have i_f_37 : Rg (0) (1) ((hI h r_19 8)) := rg_nhi c_35 (thI T q_r_19 (k := 2) (i := 8) rfl : Rg (0) (2) ((hI h r_19 8))) (rg_b rfl : Rg (2) (2) ((2 : Int32)))
                  exact s_some ⟨rfl, (rg_m (rg_b rfl : Rg (2) (2) ((2 : Int32))) (by decide))⟩
            · have _ := c_31
              have i_f_38 : Rg (0) (5) (x2) := rg_nhi c_31 i_x2 (rg_b rfl : Rg (6) (6) ((6 : Int32)))
              exact s_some ⟨rfl, (rg_m (rg_b rfl : Rg (-1) (-1) ((- 1 : Int32))) (by decide))⟩
set_option maxRecDepth 20000 in
theorem zX0_endWorth {ρ : Nat → Nat} {c : Cm} {F : Nat} (hF : 700000 ≤ F) {h : Hp} {x0 : Nat} {x1 : Int32} (T : TH ρ c h) (r_x0 : ρ x0 = 1) (i_x1 : Rg (1) (6) (x1)) : Sat (sX0_endWorth h x0 x1) (ZI0 h (-1000000) (1000000)) := by
  unfold sX0_endWorth sX0_endWorth_40
  obtain ⟨r_1, e_r_1, q_r_1⟩ := thR T r_x0 (k := 1) (i := 2) (k2 := 6) rfl (by decide)
  refine s_ref e_r_1 ?_
  obtain ⟨r_2, e_r_2, q_r_2⟩ := thR T r_x0 (k := 1) (i := 3) (k2 := 4) rfl (by decide)
  refine s_ref e_r_2 ?_
  refine s_dI0 (zX5_winnerOf hF T q_r_1 q_r_2 (rg_m i_x1 (by decide))) (fun o_3 eb_o_3 e_o_3 i_o_3 => ?_)
  have T_1 := th_eq e_o_3 T
  refine s_br (fun c_2 => ?_) (fun c_2 => ?_)
  · have _ := c_2
    have i_f_3 : Rg (2) (2) (o_3.1) := rg_eq c_2 (rg_b rfl : Rg (2) (2) ((2 : Int32)))
    exact s_some ⟨(e_o_3.trans rfl), (rg_m (rg_b rfl : Rg (0) (0) ((0 : Int32))) (by decide))⟩
  · have _ := c_2
    have i_f_4 : Rg (-1) (1) (o_3.1) := rg_nhi c_2 i_o_3 (rg_b rfl : Rg (2) (2) ((2 : Int32)))
    refine s_ref (hr_e e_o_3 e_r_2) ?_
    refine s_br (fun c_5 => ?_) (fun c_5 => ?_)
    · have _ := c_5
      have i_f_6 : Rg (0) (1) (o_3.1) := rg_eq c_5 (thI T_1 q_r_2 (k := 4) (i := 5) rfl : Rg (0) (1) ((hI o_3.2 r_2 5)))
      exact s_some ⟨(e_o_3.trans rfl), (rg_m (rg_b rfl : Rg (1000000) (1000000) ((1000000 : Int32))) (by decide))⟩
    · have _ := c_5
      exact s_some ⟨(e_o_3.trans rfl), (rg_m (rg_b rfl : Rg (-1000000) (-1000000) ((- 1000000 : Int32))) (by decide))⟩
set_option maxRecDepth 20000 in
theorem zX5_earlyEnd_109 {ρ : Nat → Nat} {c : Cm} {h0 : Hp} {F : Nat} (hF : 700000 ≤ F) {h : Hp} {x0 : Nat} {x1 : Nat} (E : h = h0) (T : TH ρ c h) (r_x0 : ρ x0 = 6) (r_x1 : ρ x1 = 4) : Sat (sX5_earlyEnd_109 h x0 x1) (ZI0 h0 (0) (4)) := by
  unfold sX5_earlyEnd_109 sX5_earlyEnd_132 sX5_earlyEnd_127
  refine s_dI0 (zX5_isBare hF T r_x0 r_x1 (rg_m (rg_b rfl : Rg (0) (0) ((0 : Int32))) (by decide))) (fun o_1 eb_o_1 e_o_1 i_o_1 => ?_)
  have T_1 := th_eq e_o_1 T
  refine s_br (fun c_2 => ?_) (fun c_2 => ?_)
  · have _ := c_2
    have i_f_3 : Rg (0) (0) (o_1.1) := rg_eq c_2 (rg_b rfl : Rg (0) (0) (0 : Int32))
    refine s_dI0 (zX5_isBare hF T_1 r_x0 r_x1 (rg_m (rg_b rfl : Rg (1) (1) ((1 : Int32))) (by decide))) (fun o_3 eb_o_3 e_o_3 i_o_3 => ?_)
    have T_4 := th_eq e_o_3 T_1
    refine s_br (fun c_5 => ?_) (fun c_5 => ?_)
    · have _ := c_5
      have i_f_6 : Rg (0) (0) (o_3.1) := rg_eq c_5 (rg_b rfl : Rg (0) (0) (0 : Int32))
      exact s_some ⟨(e_o_3.trans (e_o_1.trans E)), (rg_m (rg_b rfl : Rg (0) (0) ((0 : Int32))) (by decide))⟩
    · have _ := c_5
      have i_f_7 : Rg (1) (1) (o_3.1) := rg_nlo c_5 i_o_3 (rg_b rfl : Rg (0) (0) (0 : Int32))
      exact s_some ⟨(e_o_3.trans (e_o_1.trans E)), (rg_m (rg_b rfl : Rg (4) (4) ((4 : Int32))) (by decide))⟩
  · have _ := c_2
    have i_f_8 : Rg (1) (1) (o_1.1) := rg_nlo c_2 i_o_1 (rg_b rfl : Rg (0) (0) (0 : Int32))
    exact s_some ⟨(e_o_1.trans E), (rg_m (rg_b rfl : Rg (4) (4) ((4 : Int32))) (by decide))⟩
set_option maxRecDepth 20000 in
theorem zX5_earlyEnd_45 {ρ : Nat → Nat} {c : Cm} {h0 : Hp} {F : Nat} (hF : 700000 ≤ F) {h : Hp} {x0 : Nat} {x1 : Nat} (E : h = h0) (T : TH ρ c h) (r_x0 : ρ x0 = 6) (r_x1 : ρ x1 = 4) : Sat (sX5_earlyEnd_45 h x0 x1) (ZI0 h0 (0) (4)) := by
  unfold sX5_earlyEnd_45 sX5_earlyEnd_107 sX5_earlyEnd_63
  refine s_dI0 (zX5_isOnHill hF T r_x0 r_x1 (rg_m (rg_b rfl : Rg (0) (0) ((0 : Int32))) (by decide))) (fun o_1 eb_o_1 e_o_1 i_o_1 => ?_)
  have T_1 := th_eq e_o_1 T
  refine s_br (fun c_2 => ?_) (fun c_2 => ?_)
  · have _ := c_2
    have i_f_3 : Rg (0) (0) (o_1.1) := rg_eq c_2 (rg_b rfl : Rg (0) (0) (0 : Int32))
    refine s_dI0 (zX5_isOnHill hF T_1 r_x0 r_x1 (rg_m (rg_b rfl : Rg (1) (1) ((1 : Int32))) (by decide))) (fun o_3 eb_o_3 e_o_3 i_o_3 => ?_)
    have T_4 := th_eq e_o_3 T_1
    refine s_br (fun c_5 => ?_) (fun c_5 => ?_)
    · have _ := c_5
      have i_f_6 : Rg (0) (0) (o_3.1) := rg_eq c_5 (rg_b rfl : Rg (0) (0) (0 : Int32))
      obtain ⟨r_5, e_r_5, q_r_5⟩ := thR T_4 r_x0 (k := 6) (i := 0) (k2 := 2) rfl (by decide)
      refine s_ref e_r_5 ?_
      refine s_br (fun c_7 => ?_) (fun c_7 => ?_)
      · have _ := c_7
        have i_f_8 : Rg (0) (0) ((hI o_3.2 r_5 7)) := rg_le1 c_7 (thI T_4 q_r_5 (k := 2) (i := 7) rfl : Rg (0) (9) ((hI o_3.2 r_5 7))) (rg_b rfl : Rg (0) (0) (0 : Int32))
        exact zX5_earlyEnd_109 hF (e_o_3.trans (e_o_1.trans E)) T_4 r_x0 r_x1
      · have _ := c_7
        have i_f_9 : Rg (1) (9) ((hI o_3.2 r_5 7)) := rg_lt2 (nle_lt c_7) (rg_b rfl : Rg (0) (0) (0 : Int32)) (thI T_4 q_r_5 (k := 2) (i := 7) rfl : Rg (0) (9) ((hI o_3.2 r_5 7)))
        obtain ⟨r_7, e_r_7, q_r_7⟩ := thR T_4 r_x1 (k := 4) (i := 4) (k2 := 38) rfl (by decide)
        refine s_ref e_r_7 ?_
        refine s_gd (by rw [thN T_4 q_r_7 (k := 38) (n := 2) rfl (by decide)]; exact rg_inB ((rg_m (rg_b rfl : Rg (0) (0) ((0 : Int32))) (by decide)) : Rg (0) (1) ((0 : Int32))) (by decide)) ?_
        refine s_ref e_r_5 ?_
        refine s_br (fun c_10 => ?_) (fun c_10 => ?_)
        · have _ := c_10
          have i_f_11 : Rg (1) (9) ((hI o_3.2 r_7 (0 : Int32).toNatClampNeg)) := rg_le2 c_10 i_f_9 (thI T_4 q_r_7 (k := 38) rfl : Rg (0) (9) ((hI o_3.2 r_7 (0 : Int32).toNatClampNeg)))
          exact s_some ⟨(e_o_3.trans (e_o_1.trans E)), (rg_m (rg_b rfl : Rg (3) (3) ((3 : Int32))) (by decide))⟩
        · have _ := c_10
          have i_f_12 : Rg (0) (8) ((hI o_3.2 r_7 (0 : Int32).toNatClampNeg)) := rg_lt1 (nle_lt c_10) (thI T_4 q_r_7 (k := 38) rfl : Rg (0) (9) ((hI o_3.2 r_7 (0 : Int32).toNatClampNeg))) i_f_9
          refine s_ref e_r_7 ?_
          refine s_gd (by rw [thN T_4 q_r_7 (k := 38) (n := 2) rfl (by decide)]; exact rg_inB ((rg_m (rg_b rfl : Rg (1) (1) ((1 : Int32))) (by decide)) : Rg (0) (1) ((1 : Int32))) (by decide)) ?_
          refine s_ref e_r_5 ?_
          refine s_br (fun c_13 => ?_) (fun c_13 => ?_)
          · have _ := c_13
            have i_f_14 : Rg (0) (8) ((hI o_3.2 r_7 (1 : Int32).toNatClampNeg)) := rg_lt1 c_13 (thI T_4 q_r_7 (k := 38) rfl : Rg (0) (9) ((hI o_3.2 r_7 (1 : Int32).toNatClampNeg))) i_f_9
            exact zX5_earlyEnd_109 hF (e_o_3.trans (e_o_1.trans E)) T_4 r_x0 r_x1
          · have _ := c_13
            have i_f_15 : Rg (1) (9) ((hI o_3.2 r_7 (1 : Int32).toNatClampNeg)) := rg_le2 (nlt_le c_13) i_f_9 (thI T_4 q_r_7 (k := 38) rfl : Rg (0) (9) ((hI o_3.2 r_7 (1 : Int32).toNatClampNeg)))
            exact s_some ⟨(e_o_3.trans (e_o_1.trans E)), (rg_m (rg_b rfl : Rg (3) (3) ((3 : Int32))) (by decide))⟩
    · have _ := c_5
      have i_f_16 : Rg (1) (1) (o_3.1) := rg_nlo c_5 i_o_3 (rg_b rfl : Rg (0) (0) (0 : Int32))
      exact s_some ⟨(e_o_3.trans (e_o_1.trans E)), (rg_m (rg_b rfl : Rg (2) (2) ((2 : Int32))) (by decide))⟩
  · have _ := c_2
    have i_f_17 : Rg (1) (1) (o_1.1) := rg_nlo c_2 i_o_1 (rg_b rfl : Rg (0) (0) (0 : Int32))
    exact s_some ⟨(e_o_1.trans E), (rg_m (rg_b rfl : Rg (2) (2) ((2 : Int32))) (by decide))⟩
set_option maxRecDepth 20000 in
theorem zX5_earlyEnd {ρ : Nat → Nat} {c : Cm} {F : Nat} (hF : 700000 ≤ F) {h : Hp} {x0 : Nat} {x1 : Nat} (T : TH ρ c h) (r_x0 : ρ x0 = 6) (r_x1 : ρ x1 = 4) : Sat (sX5_earlyEnd h x0 x1) (ZI0 h (0) (4)) := by
  unfold sX5_earlyEnd sX5_earlyEnd_43
  obtain ⟨r_1, e_r_1, q_r_1⟩ := thR T r_x0 (k := 6) (i := 0) (k2 := 2) rfl (by decide)
  refine s_ref e_r_1 ?_
  refine s_dI0 (zX1_has hF T q_r_1 (rg_m (rg_b rfl : Rg (8) (8) ((8 : Int32))) (by decide))) (fun o_2 eb_o_2 e_o_2 i_o_2 => ?_)
  have T_1 := th_eq e_o_2 T
  refine s_br (fun c_2 => ?_) (fun c_2 => ?_)
  · have _ := c_2
    have i_f_3 : Rg (0) (0) (o_2.1) := rg_eq c_2 (rg_b rfl : Rg (0) (0) (0 : Int32))
    exact zX5_earlyEnd_45 hF (e_o_2.trans rfl) T_1 r_x0 r_x1
  · have _ := c_2
    have i_f_4 : Rg (1) (1) (o_2.1) := rg_nlo c_2 i_o_2 (rg_b rfl : Rg (0) (0) (0 : Int32))
    refine s_ref (hr_e e_o_2 e_r_1) ?_
    refine s_br (fun c_5 => ?_) (fun c_5 => ?_)
    · have _ := c_5
      have i_f_6 : Rg (-1) (-1) ((hI o_2.2 r_1 4)) := rg_eq c_5 (rg_b rfl : Rg (-1) (-1) ((- 1 : Int32)))
      exact zX5_earlyEnd_45 hF (e_o_2.trans rfl) T_1 r_x0 r_x1
    · have _ := c_5
      have i_f_7 : Rg (0) (11) ((hI o_2.2 r_1 4)) := rg_nlo c_5 (thI T_1 q_r_1 (k := 2) (i := 4) rfl : Rg (-1) (11) ((hI o_2.2 r_1 4))) (rg_b rfl : Rg (-1) (-1) ((- 1 : Int32)))
      obtain ⟨r_6, e_r_6, q_r_6⟩ := thR T_1 r_x1 (k := 4) (i := 2) (k2 := 36) rfl (by decide)
      refine s_ref e_r_6 ?_
      refine s_gd (by rw [thN T_1 q_r_6 (k := 36) (n := 2) rfl (by decide)]; exact rg_inB ((rg_m (rg_b rfl : Rg (0) (0) ((0 : Int32))) (by decide)) : Rg (0) (1) ((0 : Int32))) (by decide)) ?_
      refine s_br (fun c_8 => ?_) (fun c_8 => ?_)
      · have _ := c_8
        have i_f_9 : Rg (-1) (-1) ((hI o_2.2 r_6 (0 : Int32).toNatClampNeg)) := rg_eq c_8 (rg_b rfl : Rg (-1) (-1) ((- 1 : Int32)))
        exact s_some ⟨(e_o_2.trans rfl), (rg_m (rg_b rfl : Rg (1) (1) ((1 : Int32))) (by decide))⟩
      · have _ := c_8
        have i_f_10 : Rg (0) (63) ((hI o_2.2 r_6 (0 : Int32).toNatClampNeg)) := rg_nlo c_8 (thI T_1 q_r_6 (k := 36) rfl : Rg (-1) (63) ((hI o_2.2 r_6 (0 : Int32).toNatClampNeg))) (rg_b rfl : Rg (-1) (-1) ((- 1 : Int32)))
        refine s_ref e_r_6 ?_
        refine s_gd (by rw [thN T_1 q_r_6 (k := 36) (n := 2) rfl (by decide)]; exact rg_inB ((rg_m (rg_b rfl : Rg (1) (1) ((1 : Int32))) (by decide)) : Rg (0) (1) ((1 : Int32))) (by decide)) ?_
        refine s_br (fun c_11 => ?_) (fun c_11 => ?_)
        · have _ := c_11
          have i_f_12 : Rg (-1) (-1) ((hI o_2.2 r_6 (1 : Int32).toNatClampNeg)) := rg_eq c_11 (rg_b rfl : Rg (-1) (-1) ((- 1 : Int32)))
          exact s_some ⟨(e_o_2.trans rfl), (rg_m (rg_b rfl : Rg (1) (1) ((1 : Int32))) (by decide))⟩
        · have _ := c_11
          have i_f_13 : Rg (0) (63) ((hI o_2.2 r_6 (1 : Int32).toNatClampNeg)) := rg_nlo c_11 (thI T_1 q_r_6 (k := 36) rfl : Rg (-1) (63) ((hI o_2.2 r_6 (1 : Int32).toNatClampNeg))) (rg_b rfl : Rg (-1) (-1) ((- 1 : Int32)))
          exact zX5_earlyEnd_45 hF (e_o_2.trans rfl) T_1 r_x0 r_x1
set_option maxRecDepth 20000 in
theorem zX0_earlyWorth {ρ : Nat → Nat} {c : Cm} {F : Nat} (hF : 700000 ≤ F) (hi_1003 : pmO c 1003 [(4, 5)]) {h : Hp} {x0 : Nat} {x1 : Int32} (T : TH ρ c h) (r_x0 : ρ x0 = 1) (i_x1 : Rg (0) (1) (x1)) : Sat (sX0_earlyWorth F h x0 x1) (ZI ρ c (-1000000) (4000000)) := by
  unfold sX0_earlyWorth sX0_earlyWorth_54
  obtain ⟨r_1, e_r_1, q_r_1⟩ := thR T r_x0 (k := 1) (i := 3) (k2 := 4) rfl (by decide)
  refine s_ref e_r_1 ?_
  refine s_hq (th_wI T q_r_1 (k := 4) (lo := (0)) (hi := (1)) rfl (i_x1 : Rg (0) (1) (x1)) (by decide) (by decide) (pm_o hi_1003 (th_id T r_x0 (k := 1) (i := 3) (w := 1003) e_r_1 rfl (by decide)) rfl)) (fun h_2 T_1 w_2 => ?_)
  obtain ⟨r_3, e_r_3, q_r_3⟩ := thR T_1 r_x0 (k := 1) (i := 2) (k2 := 6) rfl (by decide)
  refine s_ref e_r_3 ?_
  refine s_ref (hr_w w_2 e_r_1) ?_
  refine s_dI0 (zX5_isRoyalHit hF T_1 q_r_3 q_r_1 (rg_sub (rg_b rfl : Rg (1) (1) ((1 : Int32))) i_x1 (by decide) : Rg (0) (1) (((1 : Int32) - x1)))) (fun o_5 eb_o_5 e_o_5 i_o_5 => ?_)
  have T_3 := th_eq e_o_5 T_1
  refine s_br (fun c_4 => ?_) (fun c_4 => ?_)
  · have _ := c_4
    have i_f_5 : Rg (0) (0) (o_5.1) := rg_eq c_4 (rg_b rfl : Rg (0) (0) (0 : Int32))
    refine s_ref (hr_e e_o_5 e_r_3) ?_
    refine s_ref (hr_e e_o_5 (hr_w w_2 e_r_1)) ?_
    refine s_dI0 (zX5_earlyEnd hF T_3 q_r_3 q_r_1) (fun o_9 eb_o_9 e_o_9 i_o_9 => ?_)
    have T_6 := th_eq e_o_9 T_3
    refine s_br (fun c_7 => ?_) (fun c_7 => ?_)
    · have _ := c_7
      have i_f_8 : Rg (0) (0) (o_9.1) := rg_eq c_7 (rg_b rfl : Rg (0) (0) (0 : Int32))
      exact s_some ⟨(T_6), (rg_m (rg_b rfl : Rg (3000000) (3000000) ((3000000 : Int32))) (by decide))⟩
    · have _ := c_7
      have i_f_9 : Rg (1) (4) (o_9.1) := rg_nlo c_7 i_o_9 (rg_b rfl : Rg (0) (0) (0 : Int32))
      refine s_dI0 (zX0_endWorth hF T_6 r_x0 (rg_m i_f_9 (by decide))) (fun o_11 eb_o_11 e_o_11 i_o_11 => ?_)
      have T_10 := th_eq e_o_11 T_6
      exact s_some ⟨(T_10), (rg_m i_o_11 (by decide))⟩
  · have _ := c_4
    have i_f_11 : Rg (1) (1) (o_5.1) := rg_nlo c_4 i_o_5 (rg_b rfl : Rg (0) (0) (0 : Int32))
    exact s_some ⟨(T_3), (rg_m (rg_b rfl : Rg (4000000) (4000000) ((4000000 : Int32))) (by decide))⟩
set_option maxRecDepth 20000 in
theorem zX0_markAll_94 {ρ : Nat → Nat} {c : Cm} {F : Nat} (hF : 700000 ≤ F) {k_2 : Hp → Nat → Int32 → Option (Hp)} {C_2 : Int} {k_30 : Hp → Nat → Int32 → Int32 → Int32 → Option (Hp)} {C_30 : Int} {k_63 : Hp → Nat → Int32 → Int32 → Int32 → Int32 → Int32 → Int32 → Option (Hp)} {C_63 : Int} (hk_2 : ∀ {h : Hp} {x0 : Nat} {x1 : Int32}, TH ρ c h → ρ x0 = 1 → Rg (0) (1024) (x1) → (LenP x0 h) → (LwR ρ c h) → C_2 < x1.toInt → Sat (k_2 h x0 x1) (ZV ρ c)) (hk_30 : ∀ {h : Hp} {x0 : Nat} {x1 : Int32} {x2 : Int32} {x3 : Int32}, TH ρ c h → ρ x0 = 1 → Rg (0) (1023) (x1) → Rg (-300000) (300000) (x2) → Rg (0) (300000) (x3) → C_2 ≤ x1.toInt → (LenP x0 h) → (LwR ρ c h) → (MkL x0 x1 x2 h) → C_30 < x3.toInt → Sat (k_30 h x0 x1 x2 x3) (ZV ρ c)) (hk_63 : ∀ {h : Hp} {x0 : Nat} {x1 : Int32} {x2 : Int32} {x3 : Int32} {x4 : Int32} {x5 : Int32} {x6 : Int32}, TH ρ c h → ρ x0 = 1 → Rg (0) (1023) (x1) → Rg (1) (300000) (x2) → Rg (0) (299999) (x3) → Rg (0) (1) (x4) → Rg (0) (599998) (x5) → Rg (0) (2) (x6) → C_2 ≤ x1.toInt → C_30 ≤ x3.toInt → (LenP x0 h) → (LwR ρ c h) → (MkL x0 x1 x2 h) → (0 ≤ x5.toInt ∧ x5.toInt ≤ 599998) → C_63 < x6.toInt → Sat (k_63 h x0 x1 x2 x3 x4 x5 x6) (ZV ρ c)) (hA : pmA c [(24, 999), (25, 999)]) {h : Hp} {x0 : Nat} {x1 : Int32} {x2 : Int32} {x3 : Int32} {x4 : Int32} {x5 : Int32} {x6 : Int32} {t0 : Int32} {t1 : Int32} {t2 : Nat} (T : TH ρ c h) (r_x0 : ρ x0 = 1) (i_x1 : Rg (0) (1023) (x1)) (i_x2 : Rg (1) (300000) (x2)) (i_x3 : Rg (0) (299999) (x3)) (i_x4 : Rg (0) (1) (x4)) (i_x5 : Rg (0) (599998) (x5)) (i_x6 : Rg (0) (1) (x6)) (i_t0 : Rg (-1000000) (4000000) (t0)) (i_t1 : Rg (0) (599999) (t1)) (r_t2 : ρ t2 = 24) (hc_2 : C_2 ≤ x1.toInt) (hc_30 : C_30 ≤ x3.toInt) (hc_63 : C_63 ≤ x6.toInt) (ln : (LenP x0 h)) (lw : (LwR ρ c h)) (ml : (MkL x0 x1 x2 h)) (nd : (0 ≤ x5.toInt ∧ x5.toInt ≤ 599998)) (nt : (t1.toInt = x5.toInt + x6.toInt)) (lt : (hN h t2 = 600000)) : Sat (sX0_markAll_94 F k_2 k_30 k_63 h x0 x1 x2 x3 x4 x5 x6 t0 t1 t2) (ZV ρ c) := by
  unfold sX0_markAll_94 
  refine s_gd (by rw [lt]; exact rg_inB (i_t1 : Rg (0) (599999) (t1)) (by decide)) ?_
  refine s_hq (th_wI T r_t2 (k := 24) (lo := (-4000000)) (hi := (4000000)) rfl ((rg_m i_t0 (by decide)) : Rg (-4000000) (4000000) (t0)) (by decide) (by decide) (pm_a hA rfl)) (fun h_2 T_1 w_2 => ?_)
  obtain ⟨r_3, e_r_3, q_r_3⟩ := thR T_1 r_x0 (k := 1) (i := 12) (k2 := 25) rfl (by decide)
  refine s_ref e_r_3 ?_
  have pf_3 : LenP x0 h_2 := (len_fr T r_x0 (fr1I (A := [(24, 999)]) r_t2 rfl w_2) (fun _ => rfl) (fun _ => rfl) (fun _ => rfl) ln)
  have pu_4 : (nI (hN h_2 r_3)).toInt = 600000 := len_u12 pf_3 r_3 e_r_3
  refine s_gd (by rw [pf_3 12 _ (by decide) e_r_3]; exact rg_inB ((rg_add i_x5 i_x6 (by decide) : Rg (0) (599999) ((x5 + x6))) : Rg (0) (599999) ((x5 + x6))) (by decide)) ?_
  refine s_hq (th_wI T_1 q_r_3 (k := 25) (lo := (-2147483648)) (hi := (2147483647)) rfl ((rg_m (rg_b rfl : Rg (0) (0) ((0 : Int32))) (by decide)) : Rg (-2147483648) (2147483647) ((0 : Int32))) (by decide) (by decide) (pm_a hA rfl)) (fun h_5 T_5 w_6 => ?_)
  refine s_q (fun v_6 e_7 => ?_)
  have i_v_6 : Rg (1) (2) (v_6) := by rw [e_7]; exact (rg_add i_x6 (rg_b rfl : Rg (1) (1) ((1 : Int32))) (by decide) : Rg (1) (2) (x6 + (1 : Int32)))
  have pf_8 : LenP x0 h_5 := (len_fr T_1 r_x0 (fr1I (A := [(25, 999)]) q_r_3 rfl w_6) (fun _ => rfl) (fun _ => rfl) (fun _ => rfl) pf_3)
  have pf_9 : LwR ρ c h_5 := (lw_fr T_1  (fr1I (A := [(25, 999)]) q_r_3 rfl w_6) (fun _ => rfl) (fun _ => rfl) (fun _ => rfl) (lw_fr T  (fr1I (A := [(24, 999)]) r_t2 rfl w_2) (fun _ => rfl) (fun _ => rfl) (fun _ => rfl) lw))
  have pf_10 : MkL x0 x1 x2 h_5 := (mkl_fr T_1 r_x0 (fr1I (A := [(25, 999)]) q_r_3 rfl w_6) (fun _ => rfl) (fun _ _ => rfl) (mkl_fr T r_x0 (fr1I (A := [(24, 999)]) r_t2 rfl w_2) (fun _ => rfl) (fun _ _ => rfl) ml))
  have m_11 : (v_6).toInt = x6.toInt + 1 := by rw [e_7]; exact rg_inc i_x6 (by decide)
  exact hk_63 T_5 r_x0 i_x1 i_x2 i_x3 i_x4 i_x5 (rg_m i_v_6 (by decide)) hc_2 hc_30 pf_8 pf_9 pf_10 nd (by have := hc_63; omega)
set_option maxRecDepth 20000 in
theorem zX0_markAll_63 {ρ : Nat → Nat} {c : Cm} {F : Nat} (hF : 700000 ≤ F) {k_2 : Hp → Nat → Int32 → Option (Hp)} {C_2 : Int} {k_30 : Hp → Nat → Int32 → Int32 → Int32 → Option (Hp)} {C_30 : Int} (hk_2 : ∀ {h : Hp} {x0 : Nat} {x1 : Int32}, TH ρ c h → ρ x0 = 1 → Rg (0) (1024) (x1) → (LenP x0 h) → (LwR ρ c h) → C_2 < x1.toInt → Sat (k_2 h x0 x1) (ZV ρ c)) (hk_30 : ∀ {h : Hp} {x0 : Nat} {x1 : Int32} {x2 : Int32} {x3 : Int32}, TH ρ c h → ρ x0 = 1 → Rg (0) (1023) (x1) → Rg (-300000) (300000) (x2) → Rg (0) (300000) (x3) → C_2 ≤ x1.toInt → (LenP x0 h) → (LwR ρ c h) → (MkL x0 x1 x2 h) → C_30 < x3.toInt → Sat (k_30 h x0 x1 x2 x3) (ZV ρ c)) (hA : pmA c [(24, 999), (25, 999)]) (hi_1003 : pmO c 1003 [(4, 5)]) : ∀ (f : Nat) {h : Hp} {x0 : Nat} {x1 : Int32} {x2 : Int32} {x3 : Int32} {x4 : Int32} {x5 : Int32} {x6 : Int32}, TH ρ c h → ρ x0 = 1 → Rg (0) (1023) (x1) → Rg (1) (300000) (x2) → Rg (0) (299999) (x3) → Rg (0) (1) (x4) → Rg (0) (599998) (x5) → Rg (0) (2) (x6) → C_2 ≤ x1.toInt → C_30 ≤ x3.toInt → (LenP x0 h) → (LwR ρ c h) → (MkL x0 x1 x2 h) → (0 ≤ x5.toInt ∧ x5.toInt ≤ 599998) → (2 - x6.toInt).toNat < f → Sat (sX0_markAll_63 F k_2 k_30 f h x0 x1 x2 x3 x4 x5 x6) (ZV ρ c) := by
  intro f
  induction f with
  | zero => intros; omega
  | succ f ih =>
    intro h x0 x1 x2 x3 x4 x5 x6 T r_x0 i_x1 i_x2 i_x3 i_x4 i_x5 i_x6 hc_2 hc_30 ln lw ml nd hm
    rw [sX0_markAll_63]
    obtain ⟨C_63, hC_63⟩ : ∃ C : Int, C = x6.toInt := ⟨_, rfl⟩
    have hk_63 : ∀ {h : Hp} {x0 : Nat} {x1 : Int32} {x2 : Int32} {x3 : Int32} {x4 : Int32} {x5 : Int32} {x6 : Int32}, TH ρ c h → ρ x0 = 1 → Rg (0) (1023) (x1) → Rg (1) (300000) (x2) → Rg (0) (299999) (x3) → Rg (0) (1) (x4) → Rg (0) (599998) (x5) → Rg (0) (2) (x6) → C_2 ≤ x1.toInt → C_30 ≤ x3.toInt → (LenP x0 h) → (LwR ρ c h) → (MkL x0 x1 x2 h) → (0 ≤ x5.toInt ∧ x5.toInt ≤ 599998) → C_63 < x6.toInt → Sat (sX0_markAll_63 F k_2 k_30 f h x0 x1 x2 x3 x4 x5 x6) (ZV ρ c) := by
      intro h' x0' x1' x2' x3' x4' x5' x6' T' r_x0' i_x1' i_x2' i_x3' i_x4' i_x5' i_x6' hc_2' hc_30' ln' lw' ml' nd' hl
      exact ih T' r_x0' i_x1' i_x2' i_x3' i_x4' i_x5' i_x6' hc_2' hc_30' ln' lw' ml' nd' (by have := i_x6'.1; have := i_x6'.2; omega)
    have hc_63 : C_63 ≤ x6.toInt := by omega
    refine s_br (fun c_1 => ?_) (fun c_1 => ?_)
    · have _ := c_1
      have i_f_2 : Rg (2) (2) (x6) := rg_le2 c_1 (rg_b rfl : Rg (2) (2) ((2 : Int32))) i_x6
      refine s_q (fun v_2 e_3 => ?_)
      have i_v_2 : Rg (1) (300000) (v_2) := by rw [e_3]; exact (rg_add i_x3 (rg_b rfl : Rg (1) (1) ((1 : Int32))) (by decide) : Rg (1) (300000) (x3 + (1 : Int32)))
      have m_4 : (v_2).toInt = x3.toInt + 1 := by rw [e_3]; exact rg_inc i_x3 (by decide)
      exact hk_30 T r_x0 i_x1 (rg_m i_x2 (by decide)) (rg_m i_v_2 (by decide)) hc_2 ln lw ml (by have := hc_30; omega)
    · have _ := c_1
      have i_f_5 : Rg (0) (1) (x6) := rg_lt1 (nle_lt c_1) i_x6 (rg_b rfl : Rg (2) (2) ((2 : Int32)))
      obtain ⟨r_3, e_r_3, q_r_3⟩ := thR T r_x0 (k := 1) (i := 11) (k2 := 24) rfl (by decide)
      refine s_ref e_r_3 ?_
      have pu_6 : (nI (hN h r_3)).toInt = 600000 := len_u11 ln r_3 e_r_3
      refine s_br (fun c_7 => ?_) (fun c_7 => ?_)
      · have _ := c_7
        have i_f_8 : Rg (0) (0) (x4) := rg_eq c_7 (rg_b rfl : Rg (0) (0) (0 : Int32))
        exact zX0_markAll_94 hF @hk_2 @hk_30 @hk_63 (pmA_s hA rfl) T r_x0 i_x1 i_x2 i_x3 (rg_m i_f_8 (by decide)) i_x5 i_f_5 (rg_m (rg_b rfl : Rg (4000000) (4000000) ((4000000 : Int32))) (by decide)) (rg_add i_x5 i_f_5 (by decide) : Rg (0) (599999) ((x5 + x6))) q_r_3 hc_2 hc_30 hc_63 ln lw ml nd (show ((x5 + x6)).toInt = (x5).toInt + (x6).toInt from (by have : ((x5 + x6) : Int32).toInt = (x5 : Int32).toInt + (x6 : Int32).toInt := ti_add (i_x5 : Rg (0) (599998) (x5)) (i_f_5 : Rg (0) (1) (x6)) (by decide); have := (i_x5 : Rg (0) (599998) (x5)).1; have := (i_x5 : Rg (0) (599998) (x5)).2; have := (i_f_5 : Rg (0) (1) (x6)).1; have := (i_f_5 : Rg (0) (1) (x6)).2; have := (i_x1 : Rg (0) (1023) (x1)).1; have := (i_x1 : Rg (0) (1023) (x1)).2; have := (i_x2 : Rg (1) (300000) (x2)).1; have := (i_x2 : Rg (1) (300000) (x2)).2; have := nle_i c_1; have : ((2 : Int32)).toInt = 2 := rfl; omega)) (ln 11 _ (by decide) e_r_3)
      · have _ := c_7
        have i_f_9 : Rg (1) (1) (x4) := rg_nlo c_7 i_x4 (rg_b rfl : Rg (0) (0) (0 : Int32))
        refine s_cIf (S := fS [] [(1003, [(4, 5)])]) T (fs_sub pmA_n (fs_c (pmO_s hi_1003 rfl) fs_n)) (zX0_earlyWorth hF (fs_o (.head _)) (th_in _ T) r_x0 i_f_5) (fun o_5 T_10 i_o_5 f_o_5 => ?_)
        have pf_11 : LenP x0 o_5.2 := (len_fr T r_x0 f_o_5 (fun _ => rfl) (fun _ => rfl) (fun _ => rfl) ln)
        have pf_12 : LwR ρ c o_5.2 := (lw_fr T  f_o_5 (fun _ => rfl) (fun _ => rfl) (fun _ => rfl) lw)
        have pf_13 : MkL x0 x1 x2 o_5.2 := (mkl_fr T r_x0 f_o_5 (fun _ => rfl) (fun _ _ => rfl) ml)
        exact zX0_markAll_94 hF @hk_2 @hk_30 @hk_63 (pmA_s hA rfl) T_10 r_x0 i_x1 i_x2 i_x3 (rg_m i_f_9 (by decide)) i_x5 i_f_5 i_o_5 (rg_add i_x5 i_f_5 (by decide) : Rg (0) (599999) ((x5 + x6))) q_r_3 hc_2 hc_30 hc_63 pf_11 pf_12 pf_13 nd (show ((x5 + x6)).toInt = (x5).toInt + (x6).toInt from (by have : ((x5 + x6) : Int32).toInt = (x5 : Int32).toInt + (x6 : Int32).toInt := ti_add (i_x5 : Rg (0) (599998) (x5)) (i_f_5 : Rg (0) (1) (x6)) (by decide); have := (i_x5 : Rg (0) (599998) (x5)).1; have := (i_x5 : Rg (0) (599998) (x5)).2; have := (i_f_5 : Rg (0) (1) (x6)).1; have := (i_f_5 : Rg (0) (1) (x6)).2; have := (i_x1 : Rg (0) (1023) (x1)).1; have := (i_x1 : Rg (0) (1023) (x1)).2; have := (i_x2 : Rg (1) (300000) (x2)).1; have := (i_x2 : Rg (1) (300000) (x2)).2; have := nle_i c_1; have : ((2 : Int32)).toInt = 2 := rfl; omega)) (pf_11 11 _ (by decide) (hr_q (fr_R f_o_5 r_x0 (by decide) rfl rfl) e_r_3))
set_option maxRecDepth 20000 in
theorem zX0_markAll_30 {ρ : Nat → Nat} {c : Cm} {F : Nat} (hF : 700000 ≤ F) {k_2 : Hp → Nat → Int32 → Option (Hp)} {C_2 : Int} (hk_2 : ∀ {h : Hp} {x0 : Nat} {x1 : Int32}, TH ρ c h → ρ x0 = 1 → Rg (0) (1024) (x1) → (LenP x0 h) → (LwR ρ c h) → C_2 < x1.toInt → Sat (k_2 h x0 x1) (ZV ρ c)) (hA : pmA c [(24, 999), (25, 999)]) (hi_1003 : pmO c 1003 [(34, 999), (35, 999), (36, 999), (4, 5), (4, 7)]) : ∀ (f : Nat) {h : Hp} {x0 : Nat} {x1 : Int32} {x2 : Int32} {x3 : Int32}, TH ρ c h → ρ x0 = 1 → Rg (0) (1023) (x1) → Rg (-300000) (300000) (x2) → Rg (0) (300000) (x3) → C_2 ≤ x1.toInt → (LenP x0 h) → (LwR ρ c h) → (MkL x0 x1 x2 h) → (300000 - x3.toInt).toNat < f → Sat (sX0_markAll_30 F k_2 f h x0 x1 x2 x3) (ZV ρ c) := by
  intro f
  induction f with
  | zero => intros; omega
  | succ f ih =>
    intro h x0 x1 x2 x3 T r_x0 i_x1 i_x2 i_x3 hc_2 ln lw ml hm
    rw [sX0_markAll_30]
    obtain ⟨C_30, hC_30⟩ : ∃ C : Int, C = x3.toInt := ⟨_, rfl⟩
    have hk_30 : ∀ {h : Hp} {x0 : Nat} {x1 : Int32} {x2 : Int32} {x3 : Int32}, TH ρ c h → ρ x0 = 1 → Rg (0) (1023) (x1) → Rg (-300000) (300000) (x2) → Rg (0) (300000) (x3) → C_2 ≤ x1.toInt → (LenP x0 h) → (LwR ρ c h) → (MkL x0 x1 x2 h) → C_30 < x3.toInt → Sat (sX0_markAll_30 F k_2 f h x0 x1 x2 x3) (ZV ρ c) := by
      intro h' x0' x1' x2' x3' T' r_x0' i_x1' i_x2' i_x3' hc_2' ln' lw' ml' hl
      exact ih T' r_x0' i_x1' i_x2' i_x3' hc_2' ln' lw' ml' (by have := i_x3'.1; have := i_x3'.2; omega)
    have hc_30 : C_30 ≤ x3.toInt := by omega
    refine s_br (fun c_1 => ?_) (fun c_1 => ?_)
    · have _ := c_1
      refine s_q (fun v_2 e_2 => ?_)
      have i_v_2 : Rg (1) (1024) (v_2) := by rw [e_2]; exact (rg_add i_x1 (rg_b rfl : Rg (1) (1) ((1 : Int32))) (by decide) : Rg (1) (1024) (x1 + (1 : Int32)))
      have m_3 : (v_2).toInt = x1.toInt + 1 := by rw [e_2]; exact rg_inc i_x1 (by decide)
      exact hk_2 T r_x0 (rg_m i_v_2 (by decide)) ln lw (by have := hc_2; omega)
    · have _ := c_1
      have i_f_4 : Rg (0) (299999) (x3) := rg_lt1 (nle_lt c_1) i_x3 i_x2
      have i_f_5 : Rg (1) (300000) (x2) := rg_lt2 (nle_lt c_1) i_x3 i_x2
      obtain ⟨r_3, e_r_3, q_r_3⟩ := thR T r_x0 (k := 1) (i := 4) (k2 := 20) rfl (by decide)
      refine s_ref e_r_3 ?_
      refine s_gd (by rw [thN T q_r_3 (k := 20) (n := 1024) rfl (by decide)]; exact rg_inB (i_x1 : Rg (0) (1023) (x1)) (by decide)) ?_
      refine s_cIf (S := fS [] [(1003, [(34, 999), (35, 999), (36, 999), (4, 7)])]) T (fs_sub pmA_n (fs_c (pmO_s hi_1003 rfl) fs_n)) (zX0_layOut hF (fs_o (.head _)) (th_in _ T) r_x0 (thI T q_r_3 (k := 20) rfl : Rg (0) (33554431) ((hI h r_3 x1.toNatClampNeg))) (rg_m i_f_4 (by decide)) lw (thKy T q_r_3)) (fun o_5 T_6 i_o_5 f_o_5 => ?_)
      obtain ⟨r_6, e_r_6, q_r_6⟩ := thR T_6 r_x0 (k := 1) (i := 5) (k2 := 21) rfl (by decide)
      refine s_ref e_r_6 ?_
      have pf_7 : MkL x0 x1 x2 o_5.2 := (mkl_fr T r_x0 f_o_5 (fun _ => rfl) (fun _ _ => rfl) ml)
      have pu_8 : (hI o_5.2 r_6 x1.toNatClampNeg).toInt + 2 * (x2).toInt ≤ 600000 := pf_7 r_6 e_r_6
      refine s_gd (by rw [thN T_6 q_r_6 (k := 21) (n := 1025) rfl (by decide)]; exact rg_inB ((rg_m i_x1 (by decide)) : Rg (0) (1024) (x1)) (by decide)) ?_
      refine s_q (fun v_8 e_9 => ?_)
      have i_v_8 : Rg (0) (1199998) (v_8) := by rw [e_9]; exact (rg_add (thI T_6 q_r_6 (k := 21) rfl : Rg (0) (600000) ((hI o_5.2 r_6 x1.toNatClampNeg))) (rg_mulc' (rg_b rfl : Rg (2) (2) ((2 : Int32))) i_f_4 (by decide) : Rg (0) (599998) (((2 : Int32) * x3))) (by decide) : Rg (0) (1199998) ((hI o_5.2 r_6 x1.toNatClampNeg) + ((2 : Int32) * x3)))
      have og_10 : Rg (0) (599998) (v_8) := ⟨(by have := (i_v_8 : Rg (0) (1199998) (v_8)).1; have := (i_v_8 : Rg (0) (1199998) (v_8)).2; have : (v_8).toInt = ((hI o_5.2 r_6 x1.toNatClampNeg) + ((2 : Int32) * x3) : Int32).toInt := congrArg Int32.toInt e_9; have : ((hI o_5.2 r_6 x1.toNatClampNeg) + ((2 : Int32) * x3) : Int32).toInt = ((hI o_5.2 r_6 x1.toNatClampNeg) : Int32).toInt + (((2 : Int32) * x3) : Int32).toInt := ti_add ((thI T_6 q_r_6 (k := 21) rfl : Rg (0) (600000) ((hI o_5.2 r_6 x1.toNatClampNeg))) : Rg (0) (600000) ((hI o_5.2 r_6 x1.toNatClampNeg))) ((rg_mulc' (rg_b rfl : Rg (2) (2) ((2 : Int32))) i_f_4 (by decide) : Rg (0) (599998) (((2 : Int32) * x3))) : Rg (0) (599998) (((2 : Int32) * x3))) (by decide); have hq_ := ((thI T_6 q_r_6 (k := 21) rfl : Rg (0) (600000) ((hI o_5.2 r_6 x1.toNatClampNeg))) : Rg (0) (600000) ((hI o_5.2 r_6 x1.toNatClampNeg))); have := hq_.1; have := hq_.2; have : (hI o_5.2 r_6 x1.toNatClampNeg).toInt = (hI h r_6 x1.toNatClampNeg).toInt := congrArg Int32.toInt (fr_I f_o_5 q_r_6 (by decide) rfl rfl); have : (((2 : Int32) * x3) : Int32).toInt = 2 * (x3 : Int32).toInt := ti_mulc' (i_f_4 : Rg (0) (299999) (x3)) (rg_b rfl : Rg 2 2 ((2 : Int32))) (by decide); have := (i_f_4 : Rg (0) (299999) (x3)).1; have := (i_f_4 : Rg (0) (299999) (x3)).2; have := (i_x1 : Rg (0) (1023) (x1)).1; have := (i_x1 : Rg (0) (1023) (x1)).2; have := (i_f_5 : Rg (1) (300000) (x2)).1; have := (i_f_5 : Rg (1) (300000) (x2)).2; have := nle_i c_1; omega), (by have := (i_v_8 : Rg (0) (1199998) (v_8)).1; have := (i_v_8 : Rg (0) (1199998) (v_8)).2; have : (v_8).toInt = ((hI o_5.2 r_6 x1.toNatClampNeg) + ((2 : Int32) * x3) : Int32).toInt := congrArg Int32.toInt e_9; have : ((hI o_5.2 r_6 x1.toNatClampNeg) + ((2 : Int32) * x3) : Int32).toInt = ((hI o_5.2 r_6 x1.toNatClampNeg) : Int32).toInt + (((2 : Int32) * x3) : Int32).toInt := ti_add ((thI T_6 q_r_6 (k := 21) rfl : Rg (0) (600000) ((hI o_5.2 r_6 x1.toNatClampNeg))) : Rg (0) (600000) ((hI o_5.2 r_6 x1.toNatClampNeg))) ((rg_mulc' (rg_b rfl : Rg (2) (2) ((2 : Int32))) i_f_4 (by decide) : Rg (0) (599998) (((2 : Int32) * x3))) : Rg (0) (599998) (((2 : Int32) * x3))) (by decide); have hq_ := ((thI T_6 q_r_6 (k := 21) rfl : Rg (0) (600000) ((hI o_5.2 r_6 x1.toNatClampNeg))) : Rg (0) (600000) ((hI o_5.2 r_6 x1.toNatClampNeg))); have := hq_.1; have := hq_.2; have : (hI o_5.2 r_6 x1.toNatClampNeg).toInt = (hI h r_6 x1.toNatClampNeg).toInt := congrArg Int32.toInt (fr_I f_o_5 q_r_6 (by decide) rfl rfl); have : (((2 : Int32) * x3) : Int32).toInt = 2 * (x3 : Int32).toInt := ti_mulc' (i_f_4 : Rg (0) (299999) (x3)) (rg_b rfl : Rg 2 2 ((2 : Int32))) (by decide); have := (i_f_4 : Rg (0) (299999) (x3)).1; have := (i_f_4 : Rg (0) (299999) (x3)).2; have := (i_x1 : Rg (0) (1023) (x1)).1; have := (i_x1 : Rg (0) (1023) (x1)).2; have := (i_f_5 : Rg (1) (300000) (x2)).1; have := (i_f_5 : Rg (1) (300000) (x2)).2; have := nle_i c_1; omega)⟩
      have pf_11 : LenP x0 o_5.2 := (len_fr T r_x0 f_o_5 (fun _ => rfl) (fun _ => rfl) (fun _ => rfl) ln)
      have pf_12 : LwR ρ c o_5.2 := (lw_fr T  f_o_5 (fun _ => rfl) (fun _ => rfl) (fun _ => rfl) lw)
      have m_13 : Rg (0) (2) ((0 : Int32)) := (rg_m (rg_b rfl : Rg (0) (0) ((0 : Int32))) (by decide))
      exact zX0_markAll_63 hF @hk_2 @hk_30 (pmA_s hA rfl) (pmO_s hi_1003 rfl) F T_6 r_x0 i_x1 i_f_5 i_f_4 i_o_5 og_10 (rg_m (rg_b rfl : Rg (0) (0) ((0 : Int32))) (by decide)) hc_2 hc_30 pf_11 pf_12 pf_7 (show 0 ≤ (v_8).toInt ∧ (v_8).toInt ≤ 599998 from (by have := (og_10 : Rg (0) (599998) (v_8)).1; have := (og_10 : Rg (0) (599998) (v_8)).2; have : (v_8).toInt = ((hI o_5.2 r_6 x1.toNatClampNeg) + ((2 : Int32) * x3) : Int32).toInt := congrArg Int32.toInt e_9; have : ((hI o_5.2 r_6 x1.toNatClampNeg) + ((2 : Int32) * x3) : Int32).toInt = ((hI o_5.2 r_6 x1.toNatClampNeg) : Int32).toInt + (((2 : Int32) * x3) : Int32).toInt := ti_add ((thI T_6 q_r_6 (k := 21) rfl : Rg (0) (600000) ((hI o_5.2 r_6 x1.toNatClampNeg))) : Rg (0) (600000) ((hI o_5.2 r_6 x1.toNatClampNeg))) ((rg_mulc' (rg_b rfl : Rg (2) (2) ((2 : Int32))) i_f_4 (by decide) : Rg (0) (599998) (((2 : Int32) * x3))) : Rg (0) (599998) (((2 : Int32) * x3))) (by decide); have hq_ := ((thI T_6 q_r_6 (k := 21) rfl : Rg (0) (600000) ((hI o_5.2 r_6 x1.toNatClampNeg))) : Rg (0) (600000) ((hI o_5.2 r_6 x1.toNatClampNeg))); have := hq_.1; have := hq_.2; have : (hI o_5.2 r_6 x1.toNatClampNeg).toInt = (hI h r_6 x1.toNatClampNeg).toInt := congrArg Int32.toInt (fr_I f_o_5 q_r_6 (by decide) rfl rfl); have : (((2 : Int32) * x3) : Int32).toInt = 2 * (x3 : Int32).toInt := ti_mulc' (i_f_4 : Rg (0) (299999) (x3)) (rg_b rfl : Rg 2 2 ((2 : Int32))) (by decide); have := (i_f_4 : Rg (0) (299999) (x3)).1; have := (i_f_4 : Rg (0) (299999) (x3)).2; have := (i_x1 : Rg (0) (1023) (x1)).1; have := (i_x1 : Rg (0) (1023) (x1)).2; have := (i_f_5 : Rg (1) (300000) (x2)).1; have := (i_f_5 : Rg (1) (300000) (x2)).2; have := nle_i c_1; omega)) (by have := m_13.1; have := m_13.2; omega)
set_option maxRecDepth 20000 in
theorem zX0_markAll_2 {ρ : Nat → Nat} {c : Cm} {F : Nat} (hF : 700000 ≤ F) (hA : pmA c [(24, 999), (25, 999)]) (hi_1003 : pmO c 1003 [(34, 999), (35, 999), (36, 999), (4, 5), (4, 7)]) : ∀ (f : Nat) {h : Hp} {x0 : Nat} {x1 : Int32}, TH ρ c h → ρ x0 = 1 → Rg (0) (1024) (x1) → (LenP x0 h) → (LwR ρ c h) → (1024 - x1.toInt).toNat < f → Sat (sX0_markAll_2 F f h x0 x1) (ZV ρ c) := by
  intro f
  induction f with
  | zero => intros; omega
  | succ f ih =>
    intro h x0 x1 T r_x0 i_x1 ln lw hm
    rw [sX0_markAll_2]
    obtain ⟨C_2, hC_2⟩ : ∃ C : Int, C = x1.toInt := ⟨_, rfl⟩
    have hk_2 : ∀ {h : Hp} {x0 : Nat} {x1 : Int32}, TH ρ c h → ρ x0 = 1 → Rg (0) (1024) (x1) → (LenP x0 h) → (LwR ρ c h) → C_2 < x1.toInt → Sat (sX0_markAll_2 F f h x0 x1) (ZV ρ c) := by
      intro h' x0' x1' T' r_x0' i_x1' ln' lw' hl
      exact ih T' r_x0' i_x1' ln' lw' (by have := i_x1'.1; have := i_x1'.2; omega)
    have hc_2 : C_2 ≤ x1.toInt := by omega
    refine s_br (fun c_1 => ?_) (fun c_1 => ?_)
    · have _ := c_1
      exact s_some (T)
    · have _ := c_1
      have i_f_2 : Rg (0) (1023) (x1) := rg_lt1 (nle_lt c_1) i_x1 (thI T r_x0 (k := 1) (i := 9) rfl : Rg (0) (1024) ((hI h x0 9)))
      have i_f_3 : Rg (1) (1024) ((hI h x0 9)) := rg_lt2 (nle_lt c_1) i_x1 (thI T r_x0 (k := 1) (i := 9) rfl : Rg (0) (1024) ((hI h x0 9)))
      obtain ⟨r_2, e_r_2, q_r_2⟩ := thR T r_x0 (k := 1) (i := 5) (k2 := 21) rfl (by decide)
      refine s_ref e_r_2 ?_
      refine s_gd (by rw [thN T q_r_2 (k := 21) (n := 1025) rfl (by decide)]; exact rg_inB ((rg_m (rg_add i_f_2 (rg_b rfl : Rg (1) (1) ((1 : Int32))) (by decide) : Rg (1) (1024) ((x1 + (1 : Int32)))) (by decide)) : Rg (0) (1024) ((x1 + (1 : Int32)))) (by decide)) ?_
      refine s_ref e_r_2 ?_
      refine s_gd (by rw [thN T q_r_2 (k := 21) (n := 1025) rfl (by decide)]; exact rg_inB ((rg_m i_f_2 (by decide)) : Rg (0) (1024) (x1)) (by decide)) ?_
      refine s_q (fun v_6 e_4 => ?_)
      have i_v_6 : Rg (-300000) (300000) (v_6) := by rw [e_4]; exact (rg_shrk 1 (by decide) (rg_sub (thI T q_r_2 (k := 21) rfl : Rg (0) (600000) ((hI h r_2 (x1 + (1 : Int32)).toNatClampNeg))) (thI T q_r_2 (k := 21) rfl : Rg (0) (600000) ((hI h r_2 x1.toNatClampNeg))) (by decide) : Rg (-600000) (600000) (((hI h r_2 (x1 + (1 : Int32)).toNatClampNeg) - (hI h r_2 x1.toNatClampNeg)))) (by decide) : Rg (-300000) (300000) (((hI h r_2 (x1 + (1 : Int32)).toNatClampNeg) - (hI h r_2 x1.toNatClampNeg)) >>> ((1 : Int32) &&& 31)))
      have m_5 : Rg (0) (300000) ((0 : Int32)) := (rg_m (rg_b rfl : Rg (0) (0) ((0 : Int32))) (by decide))
      exact zX0_markAll_30 hF @hk_2 (pmA_s hA rfl) (pmO_s hi_1003 rfl) F T r_x0 i_f_2 i_v_6 (rg_m (rg_b rfl : Rg (0) (0) ((0 : Int32))) (by decide)) hc_2 ln lw (mkl_0 e_r_2 (show (hI h r_2 x1.toNatClampNeg).toInt + 2 * (v_6).toInt ≤ 600000 from (by have := (i_v_6 : Rg (-300000) (300000) (v_6)).1; have := (i_v_6 : Rg (-300000) (300000) (v_6)).2; have : (v_6).toInt = (((hI h r_2 (x1 + (1 : Int32)).toNatClampNeg) - (hI h r_2 x1.toNatClampNeg)) >>> ((1 : Int32) &&& 31) : Int32).toInt := congrArg Int32.toInt e_4; have : (((hI h r_2 (x1 + (1 : Int32)).toNatClampNeg) - (hI h r_2 x1.toNatClampNeg)) >>> ((1 : Int32) &&& 31) : Int32).toInt = (((hI h r_2 (x1 + (1 : Int32)).toNatClampNeg) - (hI h r_2 x1.toNatClampNeg)) : Int32).toInt / 2 := ti_shr1; have : (((hI h r_2 (x1 + (1 : Int32)).toNatClampNeg) - (hI h r_2 x1.toNatClampNeg)) : Int32).toInt = ((hI h r_2 (x1 + (1 : Int32)).toNatClampNeg) : Int32).toInt - ((hI h r_2 x1.toNatClampNeg) : Int32).toInt := ti_sub ((thI T q_r_2 (k := 21) rfl : Rg (0) (600000) ((hI h r_2 (x1 + (1 : Int32)).toNatClampNeg))) : Rg (0) (600000) ((hI h r_2 (x1 + (1 : Int32)).toNatClampNeg))) ((thI T q_r_2 (k := 21) rfl : Rg (0) (600000) ((hI h r_2 x1.toNatClampNeg))) : Rg (0) (600000) ((hI h r_2 x1.toNatClampNeg))) (by decide); have hq_ := ((thI T q_r_2 (k := 21) rfl : Rg (0) (600000) ((hI h r_2 (x1 + (1 : Int32)).toNatClampNeg))) : Rg (0) (600000) ((hI h r_2 (x1 + (1 : Int32)).toNatClampNeg))); have := hq_.1; have := hq_.2; have hq_ := ((thI T q_r_2 (k := 21) rfl : Rg (0) (600000) ((hI h r_2 x1.toNatClampNeg))) : Rg (0) (600000) ((hI h r_2 x1.toNatClampNeg))); have := hq_.1; have := hq_.2; have hq_ := ((rg_shrk 1 (by decide) (rg_sub (thI T q_r_2 (k := 21) rfl : Rg (0) (600000) ((hI h r_2 (x1 + (1 : Int32)).toNatClampNeg))) (thI T q_r_2 (k := 21) rfl : Rg (0) (600000) ((hI h r_2 x1.toNatClampNeg))) (by decide) : Rg (-600000) (600000) (((hI h r_2 (x1 + (1 : Int32)).toNatClampNeg) - (hI h r_2 x1.toNatClampNeg)))) (by decide) : Rg (-300000) (300000) (((hI h r_2 (x1 + (1 : Int32)).toNatClampNeg) - (hI h r_2 x1.toNatClampNeg)) >>> ((1 : Int32) &&& 31))) : Rg (-300000) (300000) (((hI h r_2 (x1 + (1 : Int32)).toNatClampNeg) - (hI h r_2 x1.toNatClampNeg)) >>> ((1 : Int32) &&& 31))); have := hq_.1; have := hq_.2; have := (i_f_2 : Rg (0) (1023) (x1)).1; have := (i_f_2 : Rg (0) (1023) (x1)).2; have := nle_i c_1; have := (i_f_3 : Rg (1) (1024) ((hI h x0 9))).1; have := (i_f_3 : Rg (1) (1024) ((hI h x0 9))).2; omega))) (by have := m_5.1; have := m_5.2; omega)
set_option maxRecDepth 20000 in
theorem zX0_markAll {ρ : Nat → Nat} {c : Cm} {F : Nat} (hF : 700000 ≤ F) (hA : pmA c [(24, 999), (25, 999)]) (hi_1003 : pmO c 1003 [(34, 999), (35, 999), (36, 999), (4, 5), (4, 7)]) {h : Hp} {x0 : Nat} (T : TH ρ c h) (r_x0 : ρ x0 = 1) (ln : (LenP x0 h)) (lw : (LwR ρ c h)) : Sat (sX0_markAll F h x0) (ZV ρ c) := by
  unfold sX0_markAll 
  have m_1 : Rg (0) (1024) ((0 : Int32)) := (rg_m (rg_b rfl : Rg (0) (0) ((0 : Int32))) (by decide))
  exact zX0_markAll_2 hF (pmA_s hA rfl) (pmO_s hi_1003 rfl) F T r_x0 (rg_m (rg_b rfl : Rg (0) (0) ((0 : Int32))) (by decide)) ln lw (by have := m_1.1; have := m_1.2; omega)
set_option maxRecDepth 20000 in
theorem zX0_nodeOfAll {ρ : Nat → Nat} {c : Cm} {F : Nat} {w_x1 : Nat} (hF : 700000 ≤ F) (hA : pmA c [(23, 999), (1, 8)]) {h : Hp} {x0 : Nat} {x1 : Nat} (o_x1 : cw c x1 = w_x1) (T : TH ρ c h) (r_x0 : ρ x0 = 1) (r_x1 : ρ x1 = 4) : Sat (sX0_nodeOfAll F h x0 x1) (ZI ρ c (-2147483648) (2147483647)) := by
  unfold sX0_nodeOfAll sX0_nodeOfAll_18 sX0_nodeOfAll_64
  refine s_br (fun c_1 => ?_) (fun c_1 => ?_)
  · have _ := c_1
    have i_f_2 : Rg (0) (0) ((hI h x0 10)) := rg_eq c_1 (rg_b rfl : Rg (0) (0) (0 : Int32))
    exact s_some ⟨(T), (rg_m (rg_b rfl : Rg (-1) (-1) ((- 1 : Int32))) (by decide))⟩
  · have _ := c_1
    have i_f_3 : Rg (1) (1) ((hI h x0 10)) := rg_nlo c_1 (thI T r_x0 (k := 1) (i := 10) rfl : Rg (0) (1) ((hI h x0 10))) (rg_b rfl : Rg (0) (0) (0 : Int32))
    refine s_dJ0 (zX3_occupied hF T r_x1) (fun o_2 eb_o_2 e_o_2 => ?_)
    have T_4 := th_eq e_o_2 T
    refine s_dI0 (zJ13_bitCount_95d88 hF T_4) (fun o_3 eb_o_3 e_o_3 i_o_3 => ?_)
    have T_5 := th_eq e_o_3 T_4
    refine s_br (fun c_6 => ?_) (fun c_6 => ?_)
    · have _ := c_6
      have i_f_7 : Rg (0) (5) (o_3.1) := rg_le1 c_6 i_o_3 (rg_b rfl : Rg (5) (5) ((5 : Int32)))
      refine s_cV (zX0_gatherRow hF (pmA_s hA rfl) o_x1 T_5 r_x0 r_x1 (rg_m (rg_b rfl : Rg (-1) (-1) ((- 1 : Int32))) (by decide)) (rg_m (rg_b rfl : Rg (-1) (-1) ((- 1 : Int32))) (by decide))) (fun o_5 T_8 => ?_)
      refine s_dI0 (zX0_keyOfRow hF T_8 r_x0) (fun o_6 eb_o_6 e_o_6 i_o_6 => ?_)
      have T_9 := th_eq e_o_6 T_8
      refine s_dI0 (zX0_findSet hF T_9 r_x0 (rg_m i_o_6 (by decide))) (fun o_7 eb_o_7 e_o_7 i_o_7 => ?_)
      have T_10 := th_eq e_o_7 T_9
      refine s_br (fun c_11 => ?_) (fun c_11 => ?_)
      · have _ := c_11
        have i_f_12 : Rg (-1) (-1) (o_7.1) := rg_eq c_11 (rg_b rfl : Rg (-1) (-1) ((- 1 : Int32)))
        exact s_some ⟨(T_10), (rg_m (rg_b rfl : Rg (-1) (-1) ((- 1 : Int32))) (by decide))⟩
      · have _ := c_11
        have i_f_13 : Rg (0) (1023) (o_7.1) := rg_nlo c_11 i_o_7 (rg_b rfl : Rg (-1) (-1) ((- 1 : Int32)))
        obtain ⟨r_9, e_r_9, q_r_9⟩ := thR T_10 r_x0 (k := 1) (i := 5) (k2 := 21) rfl (by decide)
        refine s_ref e_r_9 ?_
        refine s_gd (by rw [thN T_10 q_r_9 (k := 21) (n := 1025) rfl (by decide)]; exact rg_inB ((rg_m i_f_13 (by decide)) : Rg (0) (1024) (o_7.1)) (by decide)) ?_
        refine s_dI0 (zX0_numberOf hF T_10 r_x0 (rg_m (rg_b rfl : Rg (-1) (-1) ((- 1 : Int32))) (by decide))) (fun o_11 eb_o_11 e_o_11 i_o_11 => ?_)
        have T_14 := th_eq e_o_11 T_10
        exact s_some ⟨(T_14), (rg_top _ : Rg (-2147483648) (2147483647) ((((hI o_7.2 r_9 o_7.1.toNatClampNeg) + ((2 : Int32) * o_11.1)) + (hI o_11.2 x1 5))))⟩
    · have _ := c_6
      have i_f_15 : Rg (6) (127) (o_3.1) := rg_lt2 (nle_lt c_6) (rg_b rfl : Rg (5) (5) ((5 : Int32))) i_o_3
      exact s_some ⟨(T_5), (rg_m (rg_b rfl : Rg (-1) (-1) ((- 1 : Int32))) (by decide))⟩
set_option maxRecDepth 20000 in
theorem zX0_settleCount {ρ : Nat → Nat} {c : Cm} {F : Nat} (hF : 700000 ≤ F) (hA : pmA c [(25, 999)]) {h : Hp} {x0 : Nat} {x1 : Int32} (T : TH ρ c h) (r_x0 : ρ x0 = 1) (i_x1 : Rg (0) (599999) (x1)) (ln : (LenP x0 h)) : Sat (sX0_settleCount h x0 x1) (ZV ρ c) := by
  unfold sX0_settleCount sX0_settleCount_49 sX0_settleCount_52
  obtain ⟨r_1, e_r_1, q_r_1⟩ := thR T r_x0 (k := 1) (i := 12) (k2 := 25) rfl (by decide)
  refine s_ref e_r_1 ?_
  have pu_1 : (nI (hN h r_1)).toInt = 600000 := len_u12 ln r_1 e_r_1
  refine s_gd (by rw [ln 12 _ (by decide) e_r_1]; exact rg_inB (i_x1 : Rg (0) (599999) (x1)) (by decide)) ?_
  refine s_q (fun v_3 e_2 => ?_)
  have i_v_3 : Rg (-2147483648) (2147483647) (v_3) := by rw [e_2]; exact (rg_top _ : Rg (-2147483648) (2147483647) ((hI h r_1 x1.toNatClampNeg) / (4096 : Int32)))
  refine s_ref e_r_1 ?_
  refine s_gd (by rw [ln 12 _ (by decide) e_r_1]; exact rg_inB (i_x1 : Rg (0) (599999) (x1)) (by decide)) ?_
  refine s_q (fun v_6 e_3 => ?_)
  have i_v_6 : Rg (0) (4095) (v_6) := by rw [e_3]; exact (rg_and (rg_b rfl : Rg (4095) (4095) ((4095 : Int32))) (by decide) : Rg (0) (4095) ((hI h r_1 x1.toNatClampNeg) &&& (4095 : Int32)))
  refine s_ref e_r_1 ?_
  obtain ⟨r_8, e_r_8, q_r_8⟩ := thR T r_x0 (k := 1) (i := 0) (k2 := 2) rfl (by decide)
  refine s_ref e_r_8 ?_
  refine s_dI0 (zX1_has hF T q_r_8 (rg_m (rg_b rfl : Rg (2) (2) ((2 : Int32))) (by decide))) (fun o_9 eb_o_9 e_o_9 i_o_9 => ?_)
  have T_4 := th_eq e_o_9 T
  refine s_br (fun c_5 => ?_) (fun c_5 => ?_)
  · have _ := c_5
    have i_f_6 : Rg (0) (0) (o_9.1) := rg_eq c_5 (rg_b rfl : Rg (0) (0) (0 : Int32))
    have pf_7 : LenP x0 o_9.2 := (by rw [e_o_9]; exact ln)
    refine s_gd (by rw [pf_7 12 _ (by decide) (hr_e e_o_9 e_r_1)]; exact rg_inB (i_x1 : Rg (0) (599999) (x1)) (by decide)) ?_
    refine s_hq (th_wI T_4 q_r_1 (k := 25) (lo := (-2147483648)) (hi := (2147483647)) rfl ((rg_top _ : Rg (-2147483648) (2147483647) ((v_3 + v_6))) : Rg (-2147483648) (2147483647) ((v_3 + v_6))) (by decide) (by decide) (pm_a hA rfl)) (fun h_2q2 T_8 w_9 => ?_)
    exact s_some (T_8)
  · have _ := c_5
    have i_f_10 : Rg (1) (1) (o_9.1) := rg_nlo c_5 i_o_9 (rg_b rfl : Rg (0) (0) (0 : Int32))
    refine s_br (fun c_11 => ?_) (fun c_11 => ?_)
    · have _ := c_11
      have i_f_12 : Rg (-2147483648) (0) (v_3) := rg_le1 c_11 i_v_3 (rg_b rfl : Rg (0) (0) (0 : Int32))
      have pf_13 : LenP x0 o_9.2 := (by rw [e_o_9]; exact ln)
      refine s_gd (by rw [pf_13 12 _ (by decide) (hr_e e_o_9 e_r_1)]; exact rg_inB (i_x1 : Rg (0) (599999) (x1)) (by decide)) ?_
      refine s_hq (th_wI T_4 q_r_1 (k := 25) (lo := (-2147483648)) (hi := (2147483647)) rfl ((rg_m (rg_add i_f_12 i_v_6 (by decide) : Rg (-2147483648) (4095) ((v_3 + v_6))) (by decide)) : Rg (-2147483648) (2147483647) ((v_3 + v_6))) (by decide) (by decide) (pm_a hA rfl)) (fun h_2q4 T_14 w_15 => ?_)
      exact s_some (T_14)
    · have _ := c_11
      have i_f_16 : Rg (1) (2147483647) (v_3) := rg_lt2 (nle_lt c_11) (rg_b rfl : Rg (0) (0) (0 : Int32)) i_v_3
      have pf_17 : LenP x0 o_9.2 := (by rw [e_o_9]; exact ln)
      refine s_gd (by rw [pf_17 12 _ (by decide) (hr_e e_o_9 e_r_1)]; exact rg_inB (i_x1 : Rg (0) (599999) (x1)) (by decide)) ?_
      refine s_hq (th_wI T_4 q_r_1 (k := 25) (lo := (-2147483648)) (hi := (2147483647)) rfl ((rg_m (rg_or (n := 31) (rg_m i_f_16 (by decide) : Rg (0) (2147483647) (v_3)) (rg_m (rg_b rfl : Rg (16777216) (16777216) ((16777216 : Int32))) (by decide) : Rg (0) (16777216) ((16777216 : Int32))) (by decide) : Rg (0) (2147483647) ((v_3 ||| (16777216 : Int32)))) (by decide)) : Rg (-2147483648) (2147483647) ((v_3 ||| (16777216 : Int32)))) (by decide) (by decide) (pm_a hA rfl)) (fun h_2q5 T_18 w_19 => ?_)
      exact s_some (T_18)
set_option maxRecDepth 20000 in
theorem zX0_queueEnds_156 {ρ : Nat → Nat} {c : Cm} {F : Nat} (hF : 700000 ≤ F) {k_2 : Hp → Nat → Int32 → Option (Hp)} {C_2 : Int} {k_17 : Hp → Nat → Int32 → Int32 → Option (Hp)} {C_17 : Int} (hk_2 : ∀ {h : Hp} {x0 : Nat} {x1 : Int32}, TH ρ c h → ρ x0 = 1 → Rg (0) (1024) (x1) → (LenP x0 h) → (LwR ρ c h) → C_2 < x1.toInt → Sat (k_2 h x0 x1) (ZV ρ c)) (hk_17 : ∀ {h : Hp} {x0 : Nat} {x1 : Int32} {x2 : Int32}, TH ρ c h → ρ x0 = 1 → Rg (0) (1023) (x1) → Rg (0) (600000) (x2) → C_2 ≤ x1.toInt → (LenP x0 h) → (LwR ρ c h) → (StL x0 x1 x2 h) → C_17 < x2.toInt → Sat (k_17 h x0 x1 x2) (ZV ρ c)) (hA : pmA c [(26, 999), (1, 16)]) {h : Hp} {x0 : Nat} {x1 : Int32} {x2 : Int32} (T : TH ρ c h) (r_x0 : ρ x0 = 1) (i_x1 : Rg (0) (1023) (x1)) (i_x2 : Rg (0) (599999) (x2)) (hc_2 : C_2 ≤ x1.toInt) (hc_17 : C_17 ≤ x2.toInt) (ln : (LenP x0 h)) (lw : (LwR ρ c h)) (sl : (StL x0 x1 x2 h)) : Sat (sX0_queueEnds_156 F k_2 k_17 h x0 x1 x2) (ZV ρ c) := by
  unfold sX0_queueEnds_156 sX0_queueEnds_178 sX0_queueEnds_183
  obtain ⟨r_1, e_r_1, q_r_1⟩ := thR T r_x0 (k := 1) (i := 11) (k2 := 24) rfl (by decide)
  refine s_ref e_r_1 ?_
  have pu_1 : (nI (hN h r_1)).toInt = 600000 := len_u11 ln r_1 e_r_1
  refine s_gd (by rw [ln 11 _ (by decide) e_r_1]; exact rg_inB (i_x2 : Rg (0) (599999) (x2)) (by decide)) ?_
  refine s_br (fun c_2 => ?_) (fun c_2 => ?_)
  · have _ := c_2
    have i_f_3 : Rg (1000000) (1000000) ((hI h r_1 x2.toNatClampNeg)) := rg_eq c_2 (rg_b rfl : Rg (1000000) (1000000) ((1000000 : Int32)))
    refine s_cVf (S := fS [(26, 999), (1, 16)] []) T (fs_sub (pmA_s hA rfl) fs_n) (zX0_push hF fs_a (th_in _ T) r_x0 i_x2 ln) (fun o_1q1 T_4 f_o_1q1 => ?_)
    refine s_q (fun v_1q2 e_5 => ?_)
    have i_v_1q2 : Rg (1) (600000) (v_1q2) := by rw [e_5]; exact (rg_add i_x2 (rg_b rfl : Rg (1) (1) ((1 : Int32))) (by decide) : Rg (1) (600000) (x2 + (1 : Int32)))
    have pf_6 : LenP x0 o_1q1 := (len_fr T r_x0 f_o_1q1 (fun _ => rfl) (fun _ => rfl) (fun _ => rfl) ln)
    have pf_7 : LwR ρ c o_1q1 := (lw_fr T  f_o_1q1 (fun _ => rfl) (fun _ => rfl) (fun _ => rfl) lw)
    have pf_8 : StL x0 x1 x2 o_1q1 := (st_fr T r_x0 f_o_1q1 (fun _ => rfl) (fun _ _ => rfl) sl)
    have m_9 : (v_1q2).toInt = x2.toInt + 1 := by rw [e_5]; exact rg_inc i_x2 (by decide)
    exact hk_17 T_4 r_x0 i_x1 (rg_m i_v_1q2 (by decide)) hc_2 pf_6 pf_7 (st_s pf_8 (by rw [e_5]; exact rg_inc (i_x2 : Rg (0) (599999) (x2)) (by decide))) (by have := hc_17; omega)
  · have _ := c_2
    refine s_ref e_r_1 ?_
    refine s_gd (by rw [ln 11 _ (by decide) e_r_1]; exact rg_inB (i_x2 : Rg (0) (599999) (x2)) (by decide)) ?_
    refine s_br (fun c_10 => ?_) (fun c_10 => ?_)
    · have _ := c_10
      have i_f_11 : Rg (-1000000) (-1000000) ((hI h r_1 x2.toNatClampNeg)) := rg_eq c_10 (rg_b rfl : Rg (-1000000) (-1000000) ((- 1000000 : Int32)))
      refine s_cVf (S := fS [(26, 999), (1, 16)] []) T (fs_sub (pmA_s hA rfl) fs_n) (zX0_push hF fs_a (th_in _ T) r_x0 i_x2 ln) (fun o_1q3 T_12 f_o_1q3 => ?_)
      refine s_q (fun v_1q4 e_13 => ?_)
      have i_v_1q4 : Rg (1) (600000) (v_1q4) := by rw [e_13]; exact (rg_add i_x2 (rg_b rfl : Rg (1) (1) ((1 : Int32))) (by decide) : Rg (1) (600000) (x2 + (1 : Int32)))
      have pf_14 : LenP x0 o_1q3 := (len_fr T r_x0 f_o_1q3 (fun _ => rfl) (fun _ => rfl) (fun _ => rfl) ln)
      have pf_15 : LwR ρ c o_1q3 := (lw_fr T  f_o_1q3 (fun _ => rfl) (fun _ => rfl) (fun _ => rfl) lw)
      have pf_16 : StL x0 x1 x2 o_1q3 := (st_fr T r_x0 f_o_1q3 (fun _ => rfl) (fun _ _ => rfl) sl)
      have m_17 : (v_1q4).toInt = x2.toInt + 1 := by rw [e_13]; exact rg_inc i_x2 (by decide)
      exact hk_17 T_12 r_x0 i_x1 (rg_m i_v_1q4 (by decide)) hc_2 pf_14 pf_15 (st_s pf_16 (by rw [e_13]; exact rg_inc (i_x2 : Rg (0) (599999) (x2)) (by decide))) (by have := hc_17; omega)
    · have _ := c_10
      refine s_q (fun v_1q5 e_18 => ?_)
      have i_v_1q5 : Rg (1) (600000) (v_1q5) := by rw [e_18]; exact (rg_add i_x2 (rg_b rfl : Rg (1) (1) ((1 : Int32))) (by decide) : Rg (1) (600000) (x2 + (1 : Int32)))
      have m_19 : (v_1q5).toInt = x2.toInt + 1 := by rw [e_18]; exact rg_inc i_x2 (by decide)
      exact hk_17 T r_x0 i_x1 (rg_m i_v_1q5 (by decide)) hc_2 ln lw (st_s sl (by rw [e_18]; exact rg_inc (i_x2 : Rg (0) (599999) (x2)) (by decide))) (by have := hc_17; omega)
set_option maxRecDepth 20000 in
theorem zX0_queueEnds_74 {ρ : Nat → Nat} {c : Cm} {F : Nat} (hF : 700000 ≤ F) {k_2 : Hp → Nat → Int32 → Option (Hp)} {C_2 : Int} {k_17 : Hp → Nat → Int32 → Int32 → Option (Hp)} {C_17 : Int} (hk_2 : ∀ {h : Hp} {x0 : Nat} {x1 : Int32}, TH ρ c h → ρ x0 = 1 → Rg (0) (1024) (x1) → (LenP x0 h) → (LwR ρ c h) → C_2 < x1.toInt → Sat (k_2 h x0 x1) (ZV ρ c)) (hk_17 : ∀ {h : Hp} {x0 : Nat} {x1 : Int32} {x2 : Int32}, TH ρ c h → ρ x0 = 1 → Rg (0) (1023) (x1) → Rg (0) (600000) (x2) → C_2 ≤ x1.toInt → (LenP x0 h) → (LwR ρ c h) → (StL x0 x1 x2 h) → C_17 < x2.toInt → Sat (k_17 h x0 x1 x2) (ZV ρ c)) (hA : pmA c [(24, 999), (26, 999), (1, 16)]) (hi_1003 : pmO c 1003 [(34, 999), (35, 999), (36, 999), (4, 5), (4, 7)]) {h : Hp} {x0 : Nat} {x1 : Int32} {x2 : Int32} {t0 : Int32} (T : TH ρ c h) (r_x0 : ρ x0 = 1) (i_x1 : Rg (0) (1023) (x1)) (i_x2 : Rg (0) (599999) (x2)) (i_t0 : Rg (0) (1) (t0)) (hc_2 : C_2 ≤ x1.toInt) (hc_17 : C_17 ≤ x2.toInt) (ln : (LenP x0 h)) (lw : (LwR ρ c h)) (sl : (StL x0 x1 x2 h)) : Sat (sX0_queueEnds_74 F k_2 k_17 h x0 x1 x2 t0) (ZV ρ c) := by
  unfold sX0_queueEnds_74 sX0_queueEnds_152
  refine s_br (fun c_1 => ?_) (fun c_1 => ?_)
  · have _ := c_1
    have i_f_2 : Rg (0) (0) (t0) := rg_eq c_1 (rg_b rfl : Rg (0) (0) (0 : Int32))
    exact zX0_queueEnds_156 hF @hk_2 @hk_17 (pmA_s hA rfl) T r_x0 i_x1 i_x2 hc_2 hc_17 ln lw sl
  · have _ := c_1
    have i_f_3 : Rg (1) (1) (t0) := rg_nlo c_1 i_t0 (rg_b rfl : Rg (0) (0) (0 : Int32))
    obtain ⟨r_2, e_r_2, q_r_2⟩ := thR T r_x0 (k := 1) (i := 4) (k2 := 20) rfl (by decide)
    refine s_ref e_r_2 ?_
    refine s_gd (by rw [thN T q_r_2 (k := 20) (n := 1024) rfl (by decide)]; exact rg_inB (i_x1 : Rg (0) (1023) (x1)) (by decide)) ?_
    obtain ⟨r_4, e_r_4, q_r_4⟩ := thR T r_x0 (k := 1) (i := 5) (k2 := 21) rfl (by decide)
    refine s_ref e_r_4 ?_
    have pu_4 : (hI h r_4 x1.toNatClampNeg).toInt ≤ (x2).toInt := sl r_4 e_r_4
    refine s_gd (by rw [thN T q_r_4 (k := 21) (n := 1025) rfl (by decide)]; exact rg_inB ((rg_m i_x1 (by decide)) : Rg (0) (1024) (x1)) (by decide)) ?_
    have og_5 : Rg (0) (599999) (((x2 - (hI h r_4 x1.toNatClampNeg)) >>> ((1 : Int32) &&& 31))) := ⟨(by have : (((x2 - (hI h r_4 x1.toNatClampNeg)) >>> ((1 : Int32) &&& 31)) : Int32).toInt = ((x2 - (hI h r_4 x1.toNatClampNeg)) : Int32).toInt / 2 := ti_shr1; have : ((x2 - (hI h r_4 x1.toNatClampNeg)) : Int32).toInt = (x2 : Int32).toInt - ((hI h r_4 x1.toNatClampNeg) : Int32).toInt := ti_sub (i_x2 : Rg (0) (599999) (x2)) ((thI T q_r_4 (k := 21) rfl : Rg (0) (600000) ((hI h r_4 x1.toNatClampNeg))) : Rg (0) (600000) ((hI h r_4 x1.toNatClampNeg))) (by decide); have := (i_x2 : Rg (0) (599999) (x2)).1; have := (i_x2 : Rg (0) (599999) (x2)).2; have hq_ := ((thI T q_r_4 (k := 21) rfl : Rg (0) (600000) ((hI h r_4 x1.toNatClampNeg))) : Rg (0) (600000) ((hI h r_4 x1.toNatClampNeg))); have := hq_.1; have := hq_.2; have hq_ := ((rg_shrk 1 (by decide) (rg_sub i_x2 (thI T q_r_4 (k := 21) rfl : Rg (0) (600000) ((hI h r_4 x1.toNatClampNeg))) (by decide) : Rg (-600000) (599999) ((x2 - (hI h r_4 x1.toNatClampNeg)))) (by decide) : Rg (-300000) (299999) (((x2 - (hI h r_4 x1.toNatClampNeg)) >>> ((1 : Int32) &&& 31)))) : Rg (-300000) (299999) (((x2 - (hI h r_4 x1.toNatClampNeg)) >>> ((1 : Int32) &&& 31)))); have := hq_.1; have := hq_.2; have := (i_x1 : Rg (0) (1023) (x1)).1; have := (i_x1 : Rg (0) (1023) (x1)).2; omega), (by have : (((x2 - (hI h r_4 x1.toNatClampNeg)) >>> ((1 : Int32) &&& 31)) : Int32).toInt = ((x2 - (hI h r_4 x1.toNatClampNeg)) : Int32).toInt / 2 := ti_shr1; have : ((x2 - (hI h r_4 x1.toNatClampNeg)) : Int32).toInt = (x2 : Int32).toInt - ((hI h r_4 x1.toNatClampNeg) : Int32).toInt := ti_sub (i_x2 : Rg (0) (599999) (x2)) ((thI T q_r_4 (k := 21) rfl : Rg (0) (600000) ((hI h r_4 x1.toNatClampNeg))) : Rg (0) (600000) ((hI h r_4 x1.toNatClampNeg))) (by decide); have := (i_x2 : Rg (0) (599999) (x2)).1; have := (i_x2 : Rg (0) (599999) (x2)).2; have hq_ := ((thI T q_r_4 (k := 21) rfl : Rg (0) (600000) ((hI h r_4 x1.toNatClampNeg))) : Rg (0) (600000) ((hI h r_4 x1.toNatClampNeg))); have := hq_.1; have := hq_.2; have hq_ := ((rg_shrk 1 (by decide) (rg_sub i_x2 (thI T q_r_4 (k := 21) rfl : Rg (0) (600000) ((hI h r_4 x1.toNatClampNeg))) (by decide) : Rg (-600000) (599999) ((x2 - (hI h r_4 x1.toNatClampNeg)))) (by decide) : Rg (-300000) (299999) (((x2 - (hI h r_4 x1.toNatClampNeg)) >>> ((1 : Int32) &&& 31)))) : Rg (-300000) (299999) (((x2 - (hI h r_4 x1.toNatClampNeg)) >>> ((1 : Int32) &&& 31)))); have := hq_.1; have := hq_.2; have := (i_x1 : Rg (0) (1023) (x1)).1; have := (i_x1 : Rg (0) (1023) (x1)).2; omega)⟩
    refine s_cIf (S := fS [] [(1003, [(34, 999), (35, 999), (36, 999), (4, 7)])]) T (fs_sub pmA_n (fs_c (pmO_s hi_1003 rfl) fs_n)) (zX0_layOut hF (fs_o (.head _)) (th_in _ T) r_x0 (thI T q_r_2 (k := 20) rfl : Rg (0) (33554431) ((hI h r_2 x1.toNatClampNeg))) og_5 lw (thKy T q_r_2)) (fun o_6 T_6 i_o_6 f_o_6 => ?_)
    refine s_br (fun c_7 => ?_) (fun c_7 => ?_)
    · have _ := c_7
      have i_f_8 : Rg (0) (0) (o_6.1) := rg_eq c_7 (rg_b rfl : Rg (0) (0) (0 : Int32))
      have pf_9 : LenP x0 o_6.2 := (len_fr T r_x0 f_o_6 (fun _ => rfl) (fun _ => rfl) (fun _ => rfl) ln)
      have pf_10 : LwR ρ c o_6.2 := (lw_fr T  f_o_6 (fun _ => rfl) (fun _ => rfl) (fun _ => rfl) lw)
      have pf_11 : StL x0 x1 x2 o_6.2 := (st_fr T r_x0 f_o_6 (fun _ => rfl) (fun _ _ => rfl) sl)
      exact zX0_queueEnds_156 hF @hk_2 @hk_17 (pmA_s hA rfl) T_6 r_x0 i_x1 i_x2 hc_2 hc_17 pf_9 pf_10 pf_11
    · have _ := c_7
      have i_f_12 : Rg (1) (1) (o_6.1) := rg_nlo c_7 i_o_6 (rg_b rfl : Rg (0) (0) (0 : Int32))
      obtain ⟨r_8, e_r_8, q_r_8⟩ := thR T_6 r_x0 (k := 1) (i := 3) (k2 := 4) rfl (by decide)
      refine s_ref e_r_8 ?_
      refine s_ref (hr_q (fr_R f_o_6 r_x0 (by decide) rfl rfl) e_r_4) ?_
      refine s_gd (by rw [thN T_6 q_r_4 (k := 21) (n := 1025) rfl (by decide)]; exact rg_inB ((rg_m i_x1 (by decide)) : Rg (0) (1024) (x1)) (by decide)) ?_
      refine s_hq (th_wI T_6 q_r_8 (k := 4) (lo := (0)) (hi := (1)) rfl ((rg_and (rg_b rfl : Rg (1) (1) ((1 : Int32))) (by decide) : Rg (0) (1) (((x2 - (hI o_6.2 r_4 x1.toNatClampNeg)) &&& (1 : Int32)))) : Rg (0) (1) (((x2 - (hI o_6.2 r_4 x1.toNatClampNeg)) &&& (1 : Int32)))) (by decide) (by decide) (pm_o hi_1003 (th_id T_6 r_x0 (k := 1) (i := 3) (w := 1003) e_r_8 rfl (by decide)) rfl)) (fun h_11 T_13 w_14 => ?_)
      obtain ⟨r_12, e_r_12, q_r_12⟩ := thR T_13 r_x0 (k := 1) (i := 11) (k2 := 24) rfl (by decide)
      refine s_ref e_r_12 ?_
      have pf_15 : LenP x0 h_11 := (len_fr T_6 r_x0 (fr1Io (B := [(4, 5)]) q_r_8 (th_id T_6 r_x0 (k := 1) (i := 3) (w := 1003) e_r_8 rfl (by decide)) rfl w_14) (fun _ => rfl) (fun _ => rfl) (fun _ => rfl) (len_fr T r_x0 f_o_6 (fun _ => rfl) (fun _ => rfl) (fun _ => rfl) ln))
      have pu_16 : (nI (hN h_11 r_12)).toInt = 600000 := len_u11 pf_15 r_12 e_r_12
      obtain ⟨r_13, e_r_13, q_r_13⟩ := thR T_13 r_x0 (k := 1) (i := 2) (k2 := 6) rfl (by decide)
      refine s_ref e_r_13 ?_
      refine s_ref (hr_w w_14 e_r_8) ?_
      refine s_ref (hr_w w_14 e_r_8) ?_
      refine s_dI0 (zX5_isRoyalHit hF T_13 q_r_13 q_r_8 ((rg_hs w_14 (rg_and (rg_b rfl : Rg (1) (1) ((1 : Int32))) (by decide) : Rg (0) (1) (((x2 - (hI o_6.2 r_4 x1.toNatClampNeg)) &&& (1 : Int32))))) : Rg (0) (1) ((hI h_11 r_8 5)))) (fun o_16 eb_o_16 e_o_16 i_o_16 => ?_)
      have T_17 := th_eq e_o_16 T_13
      refine s_br (fun c_18 => ?_) (fun c_18 => ?_)
      · have _ := c_18
        have i_f_19 : Rg (0) (0) (o_16.1) := rg_eq c_18 (rg_b rfl : Rg (0) (0) (0 : Int32))
        refine s_dI0 (zX0_endWorth hF T_17 r_x0 (rg_m (rg_b rfl : Rg (6) (6) ((6 : Int32))) (by decide))) (fun o_1q1 eb_o_1q1 e_o_1q1 i_o_1q1 => ?_)
        have T_20 := th_eq e_o_1q1 T_17
        have pf_21 : LenP x0 o_1q1.2 := (by rw [e_o_1q1]; exact (by rw [e_o_16]; exact pf_15))
        refine s_gd (by rw [pf_21 11 _ (by decide) (hr_e e_o_1q1 (hr_e e_o_16 e_r_12))]; exact rg_inB (i_x2 : Rg (0) (599999) (x2)) (by decide)) ?_
        refine s_hq (th_wI T_20 q_r_12 (k := 24) (lo := (-4000000)) (hi := (4000000)) rfl ((rg_m i_o_1q1 (by decide)) : Rg (-4000000) (4000000) (o_1q1.1)) (by decide) (by decide) (pm_a hA rfl)) (fun h_3q1 T_22 w_23 => ?_)
        have pf_24 : LenP x0 h_3q1 := (len_fr T_20 r_x0 (fr1I (A := [(24, 999)]) q_r_12 rfl w_23) (fun _ => rfl) (fun _ => rfl) (fun _ => rfl) pf_21)
        have pf_25 : LwR ρ c h_3q1 := (lw_fr T_20  (fr1I (A := [(24, 999)]) q_r_12 rfl w_23) (fun _ => rfl) (fun _ => rfl) (fun _ => rfl) (by rw [e_o_1q1]; exact (by rw [e_o_16]; exact (lw_fr T_6  (fr1Io (B := [(4, 5)]) q_r_8 (th_id T_6 r_x0 (k := 1) (i := 3) (w := 1003) e_r_8 rfl (by decide)) rfl w_14) (fun _ => rfl) (fun _ => rfl) (fun _ => rfl) (lw_fr T  f_o_6 (fun _ => rfl) (fun _ => rfl) (fun _ => rfl) lw)))))
        have pf_26 : StL x0 x1 x2 h_3q1 := (st_fr T_20 r_x0 (fr1I (A := [(24, 999)]) q_r_12 rfl w_23) (fun _ => rfl) (fun _ _ => rfl) (by rw [e_o_1q1]; exact (by rw [e_o_16]; exact (st_fr T_6 r_x0 (fr1Io (B := [(4, 5)]) q_r_8 (th_id T_6 r_x0 (k := 1) (i := 3) (w := 1003) e_r_8 rfl (by decide)) rfl w_14) (fun _ => rfl) (fun _ _ => rfl) (st_fr T r_x0 f_o_6 (fun _ => rfl) (fun _ _ => rfl) sl)))))
        exact zX0_queueEnds_156 hF @hk_2 @hk_17 (pmA_s hA rfl) T_22 r_x0 i_x1 i_x2 hc_2 hc_17 pf_24 pf_25 pf_26
      · have _ := c_18
        have i_f_27 : Rg (1) (1) (o_16.1) := rg_nlo c_18 i_o_16 (rg_b rfl : Rg (0) (0) (0 : Int32))
        refine s_dI0 (zX0_endWorth hF T_17 r_x0 (rg_m (rg_b rfl : Rg (5) (5) ((5 : Int32))) (by decide))) (fun o_1q2 eb_o_1q2 e_o_1q2 i_o_1q2 => ?_)
        have T_28 := th_eq e_o_1q2 T_17
        have pf_29 : LenP x0 o_1q2.2 := (by rw [e_o_1q2]; exact (by rw [e_o_16]; exact pf_15))
        refine s_gd (by rw [pf_29 11 _ (by decide) (hr_e e_o_1q2 (hr_e e_o_16 e_r_12))]; exact rg_inB (i_x2 : Rg (0) (599999) (x2)) (by decide)) ?_
        refine s_hq (th_wI T_28 q_r_12 (k := 24) (lo := (-4000000)) (hi := (4000000)) rfl ((rg_m i_o_1q2 (by decide)) : Rg (-4000000) (4000000) (o_1q2.1)) (by decide) (by decide) (pm_a hA rfl)) (fun h_3q2 T_30 w_31 => ?_)
        have pf_32 : LenP x0 h_3q2 := (len_fr T_28 r_x0 (fr1I (A := [(24, 999)]) q_r_12 rfl w_31) (fun _ => rfl) (fun _ => rfl) (fun _ => rfl) pf_29)
        have pf_33 : LwR ρ c h_3q2 := (lw_fr T_28  (fr1I (A := [(24, 999)]) q_r_12 rfl w_31) (fun _ => rfl) (fun _ => rfl) (fun _ => rfl) (by rw [e_o_1q2]; exact (by rw [e_o_16]; exact (lw_fr T_6  (fr1Io (B := [(4, 5)]) q_r_8 (th_id T_6 r_x0 (k := 1) (i := 3) (w := 1003) e_r_8 rfl (by decide)) rfl w_14) (fun _ => rfl) (fun _ => rfl) (fun _ => rfl) (lw_fr T  f_o_6 (fun _ => rfl) (fun _ => rfl) (fun _ => rfl) lw)))))
        have pf_34 : StL x0 x1 x2 h_3q2 := (st_fr T_28 r_x0 (fr1I (A := [(24, 999)]) q_r_12 rfl w_31) (fun _ => rfl) (fun _ _ => rfl) (by rw [e_o_1q2]; exact (by rw [e_o_16]; exact (st_fr T_6 r_x0 (fr1Io (B := [(4, 5)]) q_r_8 (th_id T_6 r_x0 (k := 1) (i := 3) (w := 1003) e_r_8 rfl (by decide)) rfl w_14) (fun _ => rfl) (fun _ _ => rfl) (st_fr T r_x0 f_o_6 (fun _ => rfl) (fun _ _ => rfl) sl)))))
        exact zX0_queueEnds_156 hF @hk_2 @hk_17 (pmA_s hA rfl) T_30 r_x0 i_x1 i_x2 hc_2 hc_17 pf_32 pf_33 pf_34
set_option maxRecDepth 20000 in
theorem zX0_queueEnds_45 {ρ : Nat → Nat} {c : Cm} {F : Nat} (hF : 700000 ≤ F) {k_2 : Hp → Nat → Int32 → Option (Hp)} {C_2 : Int} {k_17 : Hp → Nat → Int32 → Int32 → Option (Hp)} {C_17 : Int} (hk_2 : ∀ {h : Hp} {x0 : Nat} {x1 : Int32}, TH ρ c h → ρ x0 = 1 → Rg (0) (1024) (x1) → (LenP x0 h) → (LwR ρ c h) → C_2 < x1.toInt → Sat (k_2 h x0 x1) (ZV ρ c)) (hk_17 : ∀ {h : Hp} {x0 : Nat} {x1 : Int32} {x2 : Int32}, TH ρ c h → ρ x0 = 1 → Rg (0) (1023) (x1) → Rg (0) (600000) (x2) → C_2 ≤ x1.toInt → (LenP x0 h) → (LwR ρ c h) → (StL x0 x1 x2 h) → C_17 < x2.toInt → Sat (k_17 h x0 x1 x2) (ZV ρ c)) (hA : pmA c [(24, 999), (26, 999), (1, 16)]) (hi_1003 : pmO c 1003 [(34, 999), (35, 999), (36, 999), (4, 5), (4, 7)]) {h : Hp} {x0 : Nat} {x1 : Int32} {x2 : Int32} (T : TH ρ c h) (r_x0 : ρ x0 = 1) (i_x1 : Rg (0) (1023) (x1)) (i_x2 : Rg (0) (599999) (x2)) (hc_2 : C_2 ≤ x1.toInt) (hc_17 : C_17 ≤ x2.toInt) (ln : (LenP x0 h)) (lw : (LwR ρ c h)) (sl : (StL x0 x1 x2 h)) : Sat (sX0_queueEnds_45 F k_2 k_17 h x0 x1 x2) (ZV ρ c) := by
  unfold sX0_queueEnds_45 sX0_queueEnds_73
  obtain ⟨r_1, e_r_1, q_r_1⟩ := thR T r_x0 (k := 1) (i := 11) (k2 := 24) rfl (by decide)
  refine s_ref e_r_1 ?_
  have pu_1 : (nI (hN h r_1)).toInt = 600000 := len_u11 ln r_1 e_r_1
  refine s_gd (by rw [ln 11 _ (by decide) e_r_1]; exact rg_inB (i_x2 : Rg (0) (599999) (x2)) (by decide)) ?_
  refine s_br (fun c_2 => ?_) (fun c_2 => ?_)
  · have _ := c_2
    have i_f_3 : Rg (3000000) (3000000) ((hI h r_1 x2.toNatClampNeg)) := rg_eq c_2 (rg_b rfl : Rg (3000000) (3000000) ((3000000 : Int32)))
    obtain ⟨r_4, e_r_4, q_r_4⟩ := thR T r_x0 (k := 1) (i := 12) (k2 := 25) rfl (by decide)
    refine s_ref e_r_4 ?_
    have pu_4 : (nI (hN h r_4)).toInt = 600000 := len_u12 ln r_4 e_r_4
    refine s_gd (by rw [ln 12 _ (by decide) e_r_4]; exact rg_inB (i_x2 : Rg (0) (599999) (x2)) (by decide)) ?_
    refine s_br (fun c_5 => ?_) (fun c_5 => ?_)
    · have _ := c_5
      have i_f_6 : Rg (0) (0) (((hI h r_4 x2.toNatClampNeg) &&& (4095 : Int32))) := rg_eq c_5 (rg_b rfl : Rg (0) (0) (0 : Int32))
      exact zX0_queueEnds_74 hF @hk_2 @hk_17 (pmA_s hA rfl) (pmO_s hi_1003 rfl) T r_x0 i_x1 i_x2 (rg_m (rg_b rfl : Rg (1) (1) ((1 : Int32))) (by decide)) hc_2 hc_17 ln lw sl
    · have _ := c_5
      have i_f_7 : Rg (1) (4095) (((hI h r_4 x2.toNatClampNeg) &&& (4095 : Int32))) := rg_nlo c_5 (rg_and (rg_b rfl : Rg (4095) (4095) ((4095 : Int32))) (by decide) : Rg (0) (4095) (((hI h r_4 x2.toNatClampNeg) &&& (4095 : Int32)))) (rg_b rfl : Rg (0) (0) (0 : Int32))
      exact zX0_queueEnds_74 hF @hk_2 @hk_17 (pmA_s hA rfl) (pmO_s hi_1003 rfl) T r_x0 i_x1 i_x2 (rg_m (rg_b rfl : Rg (0) (0) ((0 : Int32))) (by decide)) hc_2 hc_17 ln lw sl
  · have _ := c_2
    exact zX0_queueEnds_74 hF @hk_2 @hk_17 (pmA_s hA rfl) (pmO_s hi_1003 rfl) T r_x0 i_x1 i_x2 (rg_m (rg_b rfl : Rg (0) (0) ((0 : Int32))) (by decide)) hc_2 hc_17 ln lw sl
set_option maxRecDepth 20000 in
theorem zX0_queueEnds_17 {ρ : Nat → Nat} {c : Cm} {F : Nat} (hF : 700000 ≤ F) {k_2 : Hp → Nat → Int32 → Option (Hp)} {C_2 : Int} (hk_2 : ∀ {h : Hp} {x0 : Nat} {x1 : Int32}, TH ρ c h → ρ x0 = 1 → Rg (0) (1024) (x1) → (LenP x0 h) → (LwR ρ c h) → C_2 < x1.toInt → Sat (k_2 h x0 x1) (ZV ρ c)) (hA : pmA c [(24, 999), (25, 999), (26, 999), (1, 16)]) (hi_1003 : pmO c 1003 [(34, 999), (35, 999), (36, 999), (4, 5), (4, 7)]) : ∀ (f : Nat) {h : Hp} {x0 : Nat} {x1 : Int32} {x2 : Int32}, TH ρ c h → ρ x0 = 1 → Rg (0) (1023) (x1) → Rg (0) (600000) (x2) → C_2 ≤ x1.toInt → (LenP x0 h) → (LwR ρ c h) → (StL x0 x1 x2 h) → (600000 - x2.toInt).toNat < f → Sat (sX0_queueEnds_17 F k_2 f h x0 x1 x2) (ZV ρ c) := by
  intro f
  induction f with
  | zero => intros; omega
  | succ f ih =>
    intro h x0 x1 x2 T r_x0 i_x1 i_x2 hc_2 ln lw sl hm
    rw [sX0_queueEnds_17]
    obtain ⟨C_17, hC_17⟩ : ∃ C : Int, C = x2.toInt := ⟨_, rfl⟩
    have hk_17 : ∀ {h : Hp} {x0 : Nat} {x1 : Int32} {x2 : Int32}, TH ρ c h → ρ x0 = 1 → Rg (0) (1023) (x1) → Rg (0) (600000) (x2) → C_2 ≤ x1.toInt → (LenP x0 h) → (LwR ρ c h) → (StL x0 x1 x2 h) → C_17 < x2.toInt → Sat (sX0_queueEnds_17 F k_2 f h x0 x1 x2) (ZV ρ c) := by
      intro h' x0' x1' x2' T' r_x0' i_x1' i_x2' hc_2' ln' lw' sl' hl
      exact ih T' r_x0' i_x1' i_x2' hc_2' ln' lw' sl' (by have := i_x2'.1; have := i_x2'.2; omega)
    have hc_17 : C_17 ≤ x2.toInt := by omega
    obtain ⟨r_1, e_r_1, q_r_1⟩ := thR T r_x0 (k := 1) (i := 5) (k2 := 21) rfl (by decide)
    refine s_ref e_r_1 ?_
    have pu_1 : (hI h r_1 x1.toNatClampNeg).toInt ≤ (x2).toInt := sl r_1 e_r_1
    refine s_gd (by rw [thN T q_r_1 (k := 21) (n := 1025) rfl (by decide)]; exact rg_inB ((rg_m (rg_add i_x1 (rg_b rfl : Rg (1) (1) ((1 : Int32))) (by decide) : Rg (1) (1024) ((x1 + (1 : Int32)))) (by decide)) : Rg (0) (1024) ((x1 + (1 : Int32)))) (by decide)) ?_
    refine s_br (fun c_2 => ?_) (fun c_2 => ?_)
    · have _ := c_2
      refine s_q (fun v_4 e_3 => ?_)
      have i_v_4 : Rg (1) (1024) (v_4) := by rw [e_3]; exact (rg_add i_x1 (rg_b rfl : Rg (1) (1) ((1 : Int32))) (by decide) : Rg (1) (1024) (x1 + (1 : Int32)))
      have m_4 : (v_4).toInt = x1.toInt + 1 := by rw [e_3]; exact rg_inc i_x1 (by decide)
      exact hk_2 T r_x0 (rg_m i_v_4 (by decide)) ln lw (by have := hc_2; omega)
    · have _ := c_2
      have i_f_5 : Rg (0) (599999) (x2) := rg_lt1 (nle_lt c_2) i_x2 (thI T q_r_1 (k := 21) rfl : Rg (0) (600000) ((hI h r_1 (x1 + (1 : Int32)).toNatClampNeg)))
      have i_f_6 : Rg (1) (600000) ((hI h r_1 (x1 + (1 : Int32)).toNatClampNeg)) := rg_lt2 (nle_lt c_2) i_x2 (thI T q_r_1 (k := 21) rfl : Rg (0) (600000) ((hI h r_1 (x1 + (1 : Int32)).toNatClampNeg)))
      obtain ⟨r_5, e_r_5, q_r_5⟩ := thR T r_x0 (k := 1) (i := 11) (k2 := 24) rfl (by decide)
      refine s_ref e_r_5 ?_
      have pu_7 : (nI (hN h r_5)).toInt = 600000 := len_u11 ln r_5 e_r_5
      refine s_gd (by rw [ln 11 _ (by decide) e_r_5]; exact rg_inB (i_f_5 : Rg (0) (599999) (x2)) (by decide)) ?_
      refine s_br (fun c_8 => ?_) (fun c_8 => ?_)
      · have _ := c_8
        have i_f_9 : Rg (3000000) (3000000) ((hI h r_5 x2.toNatClampNeg)) := rg_eq c_8 (rg_b rfl : Rg (3000000) (3000000) ((3000000 : Int32)))
        refine s_cVf (S := fS [(25, 999)] []) T (fs_sub (pmA_s hA rfl) fs_n) (zX0_settleCount hF fs_a (th_in _ T) r_x0 i_f_5 ln) (fun o_8 T_10 f_o_8 => ?_)
        have pf_11 : LenP x0 o_8 := (len_fr T r_x0 f_o_8 (fun _ => rfl) (fun _ => rfl) (fun _ => rfl) ln)
        have pf_12 : LwR ρ c o_8 := (lw_fr T  f_o_8 (fun _ => rfl) (fun _ => rfl) (fun _ => rfl) lw)
        have pf_13 : StL x0 x1 x2 o_8 := (st_fr T r_x0 f_o_8 (fun _ => rfl) (fun _ _ => rfl) sl)
        exact zX0_queueEnds_45 hF @hk_2 @hk_17 (pmA_s hA rfl) (pmO_s hi_1003 rfl) T_10 r_x0 i_x1 i_f_5 hc_2 hc_17 pf_11 pf_12 pf_13
      · have _ := c_8
        exact zX0_queueEnds_45 hF @hk_2 @hk_17 (pmA_s hA rfl) (pmO_s hi_1003 rfl) T r_x0 i_x1 i_f_5 hc_2 hc_17 ln lw sl
set_option maxRecDepth 20000 in
theorem zX0_queueEnds_2 {ρ : Nat → Nat} {c : Cm} {F : Nat} (hF : 700000 ≤ F) (hA : pmA c [(24, 999), (25, 999), (26, 999), (1, 16)]) (hi_1003 : pmO c 1003 [(34, 999), (35, 999), (36, 999), (4, 5), (4, 7)]) : ∀ (f : Nat) {h : Hp} {x0 : Nat} {x1 : Int32}, TH ρ c h → ρ x0 = 1 → Rg (0) (1024) (x1) → (LenP x0 h) → (LwR ρ c h) → (1024 - x1.toInt).toNat < f → Sat (sX0_queueEnds_2 F f h x0 x1) (ZV ρ c) := by
  intro f
  induction f with
  | zero => intros; omega
  | succ f ih =>
    intro h x0 x1 T r_x0 i_x1 ln lw hm
    rw [sX0_queueEnds_2]
    obtain ⟨C_2, hC_2⟩ : ∃ C : Int, C = x1.toInt := ⟨_, rfl⟩
    have hk_2 : ∀ {h : Hp} {x0 : Nat} {x1 : Int32}, TH ρ c h → ρ x0 = 1 → Rg (0) (1024) (x1) → (LenP x0 h) → (LwR ρ c h) → C_2 < x1.toInt → Sat (sX0_queueEnds_2 F f h x0 x1) (ZV ρ c) := by
      intro h' x0' x1' T' r_x0' i_x1' ln' lw' hl
      exact ih T' r_x0' i_x1' ln' lw' (by have := i_x1'.1; have := i_x1'.2; omega)
    have hc_2 : C_2 ≤ x1.toInt := by omega
    refine s_br (fun c_1 => ?_) (fun c_1 => ?_)
    · have _ := c_1
      exact s_some (T)
    · have _ := c_1
      have i_f_2 : Rg (0) (1023) (x1) := rg_lt1 (nle_lt c_1) i_x1 (thI T r_x0 (k := 1) (i := 9) rfl : Rg (0) (1024) ((hI h x0 9)))
      have i_f_3 : Rg (1) (1024) ((hI h x0 9)) := rg_lt2 (nle_lt c_1) i_x1 (thI T r_x0 (k := 1) (i := 9) rfl : Rg (0) (1024) ((hI h x0 9)))
      obtain ⟨r_2, e_r_2, q_r_2⟩ := thR T r_x0 (k := 1) (i := 5) (k2 := 21) rfl (by decide)
      refine s_ref e_r_2 ?_
      refine s_gd (by rw [thN T q_r_2 (k := 21) (n := 1025) rfl (by decide)]; exact rg_inB ((rg_m i_f_2 (by decide)) : Rg (0) (1024) (x1)) (by decide)) ?_
      refine s_q (fun v_4 e_4 => ?_)
      have i_v_4 : Rg (0) (600000) (v_4) := by rw [e_4]; exact (thI T q_r_2 (k := 21) rfl : Rg (0) (600000) (hI h r_2 x1.toNatClampNeg))
      have m_5 : Rg (0) (600000) (v_4) := i_v_4
      exact zX0_queueEnds_17 hF @hk_2 (pmA_s hA rfl) (pmO_s hi_1003 rfl) F T r_x0 i_f_2 i_v_4 hc_2 ln lw (st_0 e_r_2 e_4) (by have := m_5.1; have := m_5.2; omega)
set_option maxRecDepth 20000 in
theorem zX0_queueEnds {ρ : Nat → Nat} {c : Cm} {F : Nat} (hF : 700000 ≤ F) (hA : pmA c [(24, 999), (25, 999), (26, 999), (1, 16)]) (hi_1003 : pmO c 1003 [(34, 999), (35, 999), (36, 999), (4, 5), (4, 7)]) {h : Hp} {x0 : Nat} (T : TH ρ c h) (r_x0 : ρ x0 = 1) (ln : (LenP x0 h)) (lw : (LwR ρ c h)) : Sat (sX0_queueEnds F h x0) (ZV ρ c) := by
  unfold sX0_queueEnds 
  have m_1 : Rg (0) (1024) ((0 : Int32)) := (rg_m (rg_b rfl : Rg (0) (0) ((0 : Int32))) (by decide))
  exact zX0_queueEnds_2 hF (pmA_s hA rfl) (pmO_s hi_1003 rfl) F T r_x0 (rg_m (rg_b rfl : Rg (0) (0) ((0 : Int32))) (by decide)) ln lw (by have := m_1.1; have := m_1.2; omega)
set_option maxRecDepth 20000 in
theorem zX1_manOf_2 {ρ : Nat → Nat} {c : Cm} {h0 : Hp} {F : Nat} (hF : 700000 ≤ F) : ∀ (f : Nat) {h : Hp} {x0 : Nat} {x1 : Int32} {x2 : Int32}, h = h0 → TH ρ c h → ρ x0 = 2 → Rg (-1) (255) (x1) → Rg (0) (12) (x2) → (12 - x2.toInt).toNat < f → Sat (sX1_manOf_2 F f h x0 x1 x2) (ZP0 h0 (-1) (11) (-1) (Rg (0) (255) (x1))) := by
  intro f
  induction f with
  | zero => intros; omega
  | succ f ih =>
    intro h x0 x1 x2 E T r_x0 i_x1 i_x2 hm
    rw [sX1_manOf_2]
    obtain ⟨C_2, hC_2⟩ : ∃ C : Int, C = x2.toInt := ⟨_, rfl⟩
    have hk_2 : ∀ {h : Hp} {x0 : Nat} {x1 : Int32} {x2 : Int32}, h = h0 → TH ρ c h → ρ x0 = 2 → Rg (-1) (255) (x1) → Rg (0) (12) (x2) → C_2 < x2.toInt → Sat (sX1_manOf_2 F f h x0 x1 x2) (ZP0 h0 (-1) (11) (-1) (Rg (0) (255) (x1))) := by
      intro h' x0' x1' x2' E' T' r_x0' i_x1' i_x2' hl
      exact ih E' T' r_x0' i_x1' i_x2' (by have := i_x2'.1; have := i_x2'.2; omega)
    have hc_2 : C_2 ≤ x2.toInt := by omega
    refine s_br (fun c_1 => ?_) (fun c_1 => ?_)
    · have _ := c_1
      exact s_some ⟨E, (rg_m (rg_b rfl : Rg (-1) (-1) ((- 1 : Int32))) (by decide)), (fun q => absurd (rz_s (rg_b rfl : Rg (-1) (-1) ((- 1 : Int32))) (rg_b rfl : Rg (-1) (-1) (-1 : Int32))) q)⟩
    · have _ := c_1
      have i_f_2 : Rg (0) (11) (x2) := rg_lt1 (nle_lt c_1) i_x2 (thI T r_x0 (k := 2) (i := 3) rfl : Rg (0) (12) ((hI h x0 3)))
      have i_f_3 : Rg (1) (12) ((hI h x0 3)) := rg_lt2 (nle_lt c_1) i_x2 (thI T r_x0 (k := 2) (i := 3) rfl : Rg (0) (12) ((hI h x0 3)))
      obtain ⟨r_2, e_r_2, q_r_2⟩ := thR T r_x0 (k := 2) (i := 14) (k2 := 27) rfl (by decide)
      refine s_ref e_r_2 ?_
      refine s_gd (by rw [thN T q_r_2 (k := 27) (n := 12) rfl (by decide)]; exact rg_inB (i_f_2 : Rg (0) (11) (x2)) (by decide)) ?_
      refine s_br (fun c_4 => ?_) (fun c_4 => ?_)
      · have _ := c_4
        have i_f_5 : Rg (0) (255) (x1) := rg_eq c_4.symm (thI T q_r_2 (k := 27) rfl : Rg (0) (255) ((hI h r_2 x2.toNatClampNeg)))
        exact s_some ⟨E, (rg_m i_f_2 (by decide)), (fun _ => i_f_5)⟩
      · have _ := c_4
        refine s_q (fun v_5 e_6 => ?_)
        have i_v_5 : Rg (1) (12) (v_5) := by rw [e_6]; exact (rg_add i_f_2 (rg_b rfl : Rg (1) (1) ((1 : Int32))) (by decide) : Rg (1) (12) (x2 + (1 : Int32)))
        have m_7 : (v_5).toInt = x2.toInt + 1 := by rw [e_6]; exact rg_inc i_f_2 (by decide)
        exact hk_2 E T r_x0 i_x1 (rg_m i_v_5 (by decide)) (by have := hc_2; omega)
set_option maxRecDepth 20000 in
theorem zX1_manOf {ρ : Nat → Nat} {c : Cm} {F : Nat} (hF : 700000 ≤ F) {h : Hp} {x0 : Nat} {x1 : Int32} (T : TH ρ c h) (r_x0 : ρ x0 = 2) (i_x1 : Rg (-1) (255) (x1)) : Sat (sX1_manOf F h x0 x1) (ZP0 h (-1) (11) (-1) (Rg (0) (255) (x1))) := by
  unfold sX1_manOf 
  have m_1 : Rg (0) (12) ((0 : Int32)) := (rg_m (rg_b rfl : Rg (0) (0) ((0 : Int32))) (by decide))
  exact zX1_manOf_2 hF F rfl T r_x0 i_x1 (rg_m (rg_b rfl : Rg (0) (0) ((0 : Int32))) (by decide)) (by have := m_1.1; have := m_1.2; omega)
set_option maxRecDepth 20000 in
theorem zX1_codeOf_31 {ρ : Nat → Nat} {c : Cm} {h0 : Hp} {F : Nat} {b0 : Int} (hF : 700000 ≤ F) {h : Hp} {x2 : Int32} {t0 : Int32} {t1 : Nat} (E : h = h0) (T : TH ρ c h) (i_x2 : Rg (0) (1) (x2)) (i_t0 : Rg (-1) (255) (t0)) (r_t1 : ρ t1 = 2) (cb : (t0.toInt = b0 ∨ (65 ≤ b0 ∧ b0 ≤ 90))) : Sat (sX1_codeOf_31 F h x2 t0 t1) (ZQ (ZI0 h0 (-1) (23)) (fun o => o.1.toInt = -1 ∨ (0 ≤ b0 ∧ b0 ≤ 255))) := by
  unfold sX1_codeOf_31 sX1_codeOf_57 sX1_codeOf_56
  refine s_dP0 (zX1_manOf hF T r_t1 i_t0) (fun o_1 eb_o_1 e_o_1 i_o_1 p_o_1 => ?_)
  have T_1 := th_eq e_o_1 T
  refine s_br (fun c_2 => ?_) (fun c_2 => ?_)
  · have _ := c_2
    have i_f_3 : Rg (-1) (-1) (o_1.1) := rg_eq c_2 (rg_b rfl : Rg (-1) (-1) ((- 1 : Int32)))
    exact s_some ⟨⟨(e_o_1.trans E), (rg_m (rg_b rfl : Rg (-1) (-1) ((- 1 : Int32))) (by decide))⟩, (show ((- 1 : Int32)).toInt = -1 ∨ (0 ≤ b0 ∧ b0 ≤ 255) from (by have : ((- 1 : Int32)).toInt = -1 := rfl; have := (i_t0 : Rg (-1) (255) (t0)).1; have := (i_t0 : Rg (-1) (255) (t0)).2; omega))⟩
  · have _ := c_2
    have i_f_4 : Rg (0) (11) (o_1.1) := rg_nlo c_2 i_o_1 (rg_b rfl : Rg (-1) (-1) ((- 1 : Int32)))
    have p_f_5 := p_o_1 c_2
    refine s_br (fun c_6 => ?_) (fun c_6 => ?_)
    · have _ := c_6
      have i_f_7 : Rg (0) (0) (x2) := rg_eq c_6 (rg_b rfl : Rg (0) (0) (0 : Int32))
      exact s_some ⟨⟨(e_o_1.trans E), (rg_m (rg_add (rg_mulc' (rg_b rfl : Rg (2) (2) ((2 : Int32))) i_f_4 (by decide) : Rg (0) (22) (((2 : Int32) * o_1.1))) (rg_b rfl : Rg (1) (1) ((1 : Int32))) (by decide) : Rg (1) (23) ((((2 : Int32) * o_1.1) + (1 : Int32)))) (by decide))⟩, (show ((((2 : Int32) * o_1.1) + (1 : Int32))).toInt = -1 ∨ (0 ≤ b0 ∧ b0 ≤ 255) from (by have : ((((2 : Int32) * o_1.1) + (1 : Int32)) : Int32).toInt = (((2 : Int32) * o_1.1) : Int32).toInt + ((1 : Int32) : Int32).toInt := ti_add ((rg_mulc' (rg_b rfl : Rg (2) (2) ((2 : Int32))) i_f_4 (by decide) : Rg (0) (22) (((2 : Int32) * o_1.1))) : Rg (0) (22) (((2 : Int32) * o_1.1))) ((rg_b rfl : Rg (1) (1) ((1 : Int32))) : Rg (1) (1) ((1 : Int32))) (by decide); have : (((2 : Int32) * o_1.1) : Int32).toInt = 2 * (o_1.1 : Int32).toInt := ti_mulc' (i_f_4 : Rg (0) (11) (o_1.1)) (rg_b rfl : Rg 2 2 ((2 : Int32))) (by decide); have := (i_f_4 : Rg (0) (11) (o_1.1)).1; have := (i_f_4 : Rg (0) (11) (o_1.1)).2; have : ((1 : Int32)).toInt = 1 := rfl; have := (p_f_5 : Rg (0) (255) (t0)).1; have := (p_f_5 : Rg (0) (255) (t0)).2; have := ne_i c_2; have : ((- 1 : Int32)).toInt = -1 := rfl; omega))⟩
    · have _ := c_6
      have i_f_8 : Rg (1) (1) (x2) := rg_nlo c_6 i_x2 (rg_b rfl : Rg (0) (0) (0 : Int32))
      exact s_some ⟨⟨(e_o_1.trans E), (rg_m (rg_add (rg_mulc' (rg_b rfl : Rg (2) (2) ((2 : Int32))) i_f_4 (by decide) : Rg (0) (22) (((2 : Int32) * o_1.1))) (rg_b rfl : Rg (0) (0) ((0 : Int32))) (by decide) : Rg (0) (22) ((((2 : Int32) * o_1.1) + (0 : Int32)))) (by decide))⟩, (show ((((2 : Int32) * o_1.1) + (0 : Int32))).toInt = -1 ∨ (0 ≤ b0 ∧ b0 ≤ 255) from (by have : ((((2 : Int32) * o_1.1) + (0 : Int32)) : Int32).toInt = (((2 : Int32) * o_1.1) : Int32).toInt + ((0 : Int32) : Int32).toInt := ti_add ((rg_mulc' (rg_b rfl : Rg (2) (2) ((2 : Int32))) i_f_4 (by decide) : Rg (0) (22) (((2 : Int32) * o_1.1))) : Rg (0) (22) (((2 : Int32) * o_1.1))) ((rg_b rfl : Rg (0) (0) ((0 : Int32))) : Rg (0) (0) ((0 : Int32))) (by decide); have : (((2 : Int32) * o_1.1) : Int32).toInt = 2 * (o_1.1 : Int32).toInt := ti_mulc' (i_f_4 : Rg (0) (11) (o_1.1)) (rg_b rfl : Rg 2 2 ((2 : Int32))) (by decide); have := (i_f_4 : Rg (0) (11) (o_1.1)).1; have := (i_f_4 : Rg (0) (11) (o_1.1)).2; have : ((0 : Int32)).toInt = 0 := rfl; have := (p_f_5 : Rg (0) (255) (t0)).1; have := (p_f_5 : Rg (0) (255) (t0)).2; have := ne_i c_2; have : ((- 1 : Int32)).toInt = -1 := rfl; omega))⟩
set_option maxRecDepth 20000 in
theorem zX1_codeOf {ρ : Nat → Nat} {c : Cm} {F : Nat} (hF : 700000 ≤ F) {h : Hp} {x0 : Nat} {x1 : Int32} (T : TH ρ c h) (r_x0 : ρ x0 = 2) (i_x1 : Rg (-1) (255) (x1)) : Sat (sX1_codeOf F h x0 x1) (ZQ (ZI0 h (-1) (23)) (fun o => o.1.toInt = -1 ∨ (0 ≤ (x1.toInt) ∧ (x1.toInt) ≤ 255))) := by
  unfold sX1_codeOf sX1_codeOf_16 sX1_codeOf_17
  refine s_br (fun c_1 => ?_) (fun c_1 => ?_)
  · have _ := c_1
    have i_f_2 : Rg (-1) (64) (x1) := rg_lt1 c_1 i_x1 (rg_b rfl : Rg (65) (65) ((65 : Int32)))
    refine s_br (fun c_3 => ?_) (fun c_3 => ?_)
    · have _ := c_3
      exact zX1_codeOf_31 hF rfl T (rg_m (rg_b rfl : Rg (0) (0) ((0 : Int32))) (by decide)) (rg_m i_f_2 (by decide)) r_x0 (show (x1).toInt = (x1.toInt) ∨ (65 ≤ (x1.toInt) ∧ (x1.toInt) ≤ 90) from (by have := (i_f_2 : Rg (-1) (64) (x1)).1; have := (i_f_2 : Rg (-1) (64) (x1)).2; have := lt_i c_1; have : ((65 : Int32)).toInt = 65 := rfl; omega))
    · have _ := c_3
      exact (rc_ne c_3 (rg_b rfl : Rg (0) (0) ((0 : Int32))) (rg_b rfl : Rg (0) (0) (0 : Int32))).elim
  · have _ := c_1
    have i_f_4 : Rg (65) (255) (x1) := rg_le2 (nlt_le c_1) (rg_b rfl : Rg (65) (65) ((65 : Int32))) i_x1
    refine s_br (fun c_5 => ?_) (fun c_5 => ?_)
    · have _ := c_5
      have i_f_6 : Rg (91) (255) (x1) := rg_lt2 c_5 (rg_b rfl : Rg (90) (90) ((90 : Int32))) i_f_4
      refine s_br (fun c_7 => ?_) (fun c_7 => ?_)
      · have _ := c_7
        exact zX1_codeOf_31 hF rfl T (rg_m (rg_b rfl : Rg (0) (0) ((0 : Int32))) (by decide)) (rg_m i_f_6 (by decide)) r_x0 (show (x1).toInt = (x1.toInt) ∨ (65 ≤ (x1.toInt) ∧ (x1.toInt) ≤ 90) from (by have := (i_f_6 : Rg (91) (255) (x1)).1; have := (i_f_6 : Rg (91) (255) (x1)).2; have := nlt_i c_1; have : ((65 : Int32)).toInt = 65 := rfl; have := lt_i c_5; have : ((90 : Int32)).toInt = 90 := rfl; omega))
      · have _ := c_7
        exact (rc_ne c_7 (rg_b rfl : Rg (0) (0) ((0 : Int32))) (rg_b rfl : Rg (0) (0) (0 : Int32))).elim
    · have _ := c_5
      have i_f_8 : Rg (65) (90) (x1) := rg_le1 (nlt_le c_5) i_f_4 (rg_b rfl : Rg (90) (90) ((90 : Int32)))
      refine s_br (fun c_9 => ?_) (fun c_9 => ?_)
      · have _ := c_9
        exact (rc_eq c_9 (rg_b rfl : Rg (1) (1) ((1 : Int32))) (rg_b rfl : Rg (0) (0) (0 : Int32)) (by decide)).elim
      · have _ := c_9
        exact zX1_codeOf_31 hF rfl T (rg_m (rg_b rfl : Rg (1) (1) ((1 : Int32))) (by decide)) (rg_m (rg_add i_f_8 (rg_b rfl : Rg (32) (32) ((32 : Int32))) (by decide) : Rg (97) (122) ((x1 + (32 : Int32)))) (by decide)) r_x0 (show ((x1 + (32 : Int32))).toInt = (x1.toInt) ∨ (65 ≤ (x1.toInt) ∧ (x1.toInt) ≤ 90) from (by have : ((x1 + (32 : Int32)) : Int32).toInt = (x1 : Int32).toInt + ((32 : Int32) : Int32).toInt := ti_add (i_f_8 : Rg (65) (90) (x1)) ((rg_b rfl : Rg (32) (32) ((32 : Int32))) : Rg (32) (32) ((32 : Int32))) (by decide); have := (i_f_8 : Rg (65) (90) (x1)).1; have := (i_f_8 : Rg (65) (90) (x1)).2; have : ((32 : Int32)).toInt = 32 := rfl; have := nlt_i c_1; have : ((65 : Int32)).toInt = 65 := rfl; have := nlt_i c_5; have : ((90 : Int32)).toInt = 90 := rfl; omega))
set_option maxRecDepth 20000 in
theorem zX0_setOf_9 {ρ : Nat → Nat} {c : Cm} {h0 : Hp} {F : Nat} (hF : 700000 ≤ F) : ∀ (f : Nat) {h : Hp} {x0 : Nat} {x1 : Int32} {x2 : Int32} {x3 : Int32}, h = h0 → TH ρ c h → ρ x0 = 1 → Rg (0) (599999) (x1) → Rg (0) (1023) (x2) → Rg (-1) (1023) (x3) → (x2.toInt ≤ x3.toInt + 1) → ((x3.toInt - x2.toInt + 1) - (0)).toNat < f → Sat (sX0_setOf_9 F f h x0 x1 x2 x3) (ZI0 h0 (0) (1023)) := by
  intro f
  induction f with
  | zero => intros; omega
  | succ f ih =>
    intro h x0 x1 x2 x3 E T r_x0 i_x1 i_x2 i_x3 sb hm
    rw [sX0_setOf_9]
    unfold sX0_setOf_45
    obtain ⟨C_9, hC_9⟩ : ∃ C : Int, C = (x3.toInt - x2.toInt + 1) := ⟨_, rfl⟩
    have hk_9 : ∀ {h : Hp} {x0 : Nat} {x1 : Int32} {x2 : Int32} {x3 : Int32}, h = h0 → TH ρ c h → ρ x0 = 1 → Rg (0) (599999) (x1) → Rg (0) (1023) (x2) → Rg (-1) (1023) (x3) → (x2.toInt ≤ x3.toInt + 1) → (0 ≤ (x3.toInt - x2.toInt + 1) ∧ (x3.toInt - x2.toInt + 1) < C_9) → Sat (sX0_setOf_9 F f h x0 x1 x2 x3) (ZI0 h0 (0) (1023)) := by
      intro h' x0' x1' x2' x3' E' T' r_x0' i_x1' i_x2' i_x3' sb' hl
      exact ih E' T' r_x0' i_x1' i_x2' i_x3' sb' (by omega)
    have hc_9 : (0 ≤ (x3.toInt - x2.toInt + 1) ∧ (x3.toInt - x2.toInt + 1) ≤ C_9) := (by have := (i_x2 : Rg (0) (1023) (x2)).1; have := (i_x2 : Rg (0) (1023) (x2)).2; have := (i_x3 : Rg (-1) (1023) (x3)).1; have := (i_x3 : Rg (-1) (1023) (x3)).2; omega)
    refine s_br (fun c_1 => ?_) (fun c_1 => ?_)
    · have _ := c_1
      exact s_some ⟨E, i_x2⟩
    · have _ := c_1
      have i_f_2 : Rg (0) (1022) (x2) := rg_lt1 (nle_lt c_1) i_x2 i_x3
      have i_f_3 : Rg (1) (1023) (x3) := rg_lt2 (nle_lt c_1) i_x2 i_x3
      refine s_q (fun v_2 e_4 => ?_)
      have i_v_2 : Rg (1) (1023) (v_2) := by rw [e_4]; exact (rg_shrk 1 (by decide) (rg_add (rg_add i_f_2 i_f_3 (by decide) : Rg (1) (2045) ((x2 + x3))) (rg_b rfl : Rg (1) (1) ((1 : Int32))) (by decide) : Rg (2) (2046) (((x2 + x3) + (1 : Int32)))) (by decide) : Rg (1) (1023) (((x2 + x3) + (1 : Int32)) >>> ((1 : Int32) &&& 31)))
      obtain ⟨r_3, e_r_3, q_r_3⟩ := thR T r_x0 (k := 1) (i := 5) (k2 := 21) rfl (by decide)
      refine s_ref e_r_3 ?_
      refine s_gd (by rw [thN T q_r_3 (k := 21) (n := 1025) rfl (by decide)]; exact rg_inB ((rg_m i_v_2 (by decide)) : Rg (0) (1024) (v_2)) (by decide)) ?_
      refine s_br (fun c_5 => ?_) (fun c_5 => ?_)
      · have _ := c_5
        have i_f_6 : Rg (1) (600000) ((hI h r_3 v_2.toNatClampNeg)) := rg_lt2 c_5 i_x1 (thI T q_r_3 (k := 21) rfl : Rg (0) (600000) ((hI h r_3 v_2.toNatClampNeg)))
        refine s_q (fun v_6 e_7 => ?_)
        have i_v_6 : Rg (0) (1022) (v_6) := by rw [e_7]; exact (rg_sub i_v_2 (rg_b rfl : Rg (1) (1) ((1 : Int32))) (by decide) : Rg (0) (1022) (v_2 - (1 : Int32)))
        exact hk_9 E T r_x0 i_x1 (rg_m i_f_2 (by decide)) (rg_m i_v_6 (by decide)) (show (x2).toInt ≤ (v_6).toInt + 1 from (by have := (i_f_2 : Rg (0) (1022) (x2)).1; have := (i_f_2 : Rg (0) (1022) (x2)).2; have := (i_v_6 : Rg (0) (1022) (v_6)).1; have := (i_v_6 : Rg (0) (1022) (v_6)).2; have : (v_6).toInt = (v_2 - (1 : Int32) : Int32).toInt := congrArg Int32.toInt e_7; have : (v_2 - (1 : Int32) : Int32).toInt = (v_2 : Int32).toInt - ((1 : Int32) : Int32).toInt := ti_sub (i_v_2 : Rg (1) (1023) (v_2)) ((rg_b rfl : Rg (1) (1) ((1 : Int32))) : Rg (1) (1) ((1 : Int32))) (by decide); have := (i_v_2 : Rg (1) (1023) (v_2)).1; have := (i_v_2 : Rg (1) (1023) (v_2)).2; have : (v_2).toInt = (((x2 + x3) + (1 : Int32)) >>> ((1 : Int32) &&& 31) : Int32).toInt := congrArg Int32.toInt e_4; have : (((x2 + x3) + (1 : Int32)) >>> ((1 : Int32) &&& 31) : Int32).toInt = (((x2 + x3) + (1 : Int32)) : Int32).toInt / 2 := ti_shr1; have : (((x2 + x3) + (1 : Int32)) : Int32).toInt = ((x2 + x3) : Int32).toInt + ((1 : Int32) : Int32).toInt := ti_add ((rg_add i_f_2 i_f_3 (by decide) : Rg (1) (2045) ((x2 + x3))) : Rg (1) (2045) ((x2 + x3))) ((rg_b rfl : Rg (1) (1) ((1 : Int32))) : Rg (1) (1) ((1 : Int32))) (by decide); have : ((x2 + x3) : Int32).toInt = (x2 : Int32).toInt + (x3 : Int32).toInt := ti_add (i_f_2 : Rg (0) (1022) (x2)) (i_f_3 : Rg (1) (1023) (x3)) (by decide); have := (i_f_3 : Rg (1) (1023) (x3)).1; have := (i_f_3 : Rg (1) (1023) (x3)).2; have : ((1 : Int32)).toInt = 1 := rfl; have hq_ := ((rg_shrk 1 (by decide) (rg_add (rg_add i_f_2 i_f_3 (by decide) : Rg (1) (2045) ((x2 + x3))) (rg_b rfl : Rg (1) (1) ((1 : Int32))) (by decide) : Rg (2) (2046) (((x2 + x3) + (1 : Int32)))) (by decide) : Rg (1) (1023) (((x2 + x3) + (1 : Int32)) >>> ((1 : Int32) &&& 31))) : Rg (1) (1023) (((x2 + x3) + (1 : Int32)) >>> ((1 : Int32) &&& 31))); have := hq_.1; have := hq_.2; have := nle_i c_1; have := lt_i c_5; have := (i_x1 : Rg (0) (599999) (x1)).1; have := (i_x1 : Rg (0) (599999) (x1)).2; have := (i_f_6 : Rg (1) (600000) ((hI h r_3 v_2.toNatClampNeg))).1; have := (i_f_6 : Rg (1) (600000) ((hI h r_3 v_2.toNatClampNeg))).2; omega)) (show (0 ≤ ((v_6).toInt - (x2).toInt + 1) ∧ ((v_6).toInt - (x2).toInt + 1) < C_9) from (by have := (i_f_2 : Rg (0) (1022) (x2)).1; have := (i_f_2 : Rg (0) (1022) (x2)).2; have := (i_v_6 : Rg (0) (1022) (v_6)).1; have := (i_v_6 : Rg (0) (1022) (v_6)).2; have : (v_6).toInt = (v_2 - (1 : Int32) : Int32).toInt := congrArg Int32.toInt e_7; have : (v_2 - (1 : Int32) : Int32).toInt = (v_2 : Int32).toInt - ((1 : Int32) : Int32).toInt := ti_sub (i_v_2 : Rg (1) (1023) (v_2)) ((rg_b rfl : Rg (1) (1) ((1 : Int32))) : Rg (1) (1) ((1 : Int32))) (by decide); have := (i_v_2 : Rg (1) (1023) (v_2)).1; have := (i_v_2 : Rg (1) (1023) (v_2)).2; have : (v_2).toInt = (((x2 + x3) + (1 : Int32)) >>> ((1 : Int32) &&& 31) : Int32).toInt := congrArg Int32.toInt e_4; have : (((x2 + x3) + (1 : Int32)) >>> ((1 : Int32) &&& 31) : Int32).toInt = (((x2 + x3) + (1 : Int32)) : Int32).toInt / 2 := ti_shr1; have : (((x2 + x3) + (1 : Int32)) : Int32).toInt = ((x2 + x3) : Int32).toInt + ((1 : Int32) : Int32).toInt := ti_add ((rg_add i_f_2 i_f_3 (by decide) : Rg (1) (2045) ((x2 + x3))) : Rg (1) (2045) ((x2 + x3))) ((rg_b rfl : Rg (1) (1) ((1 : Int32))) : Rg (1) (1) ((1 : Int32))) (by decide); have : ((x2 + x3) : Int32).toInt = (x2 : Int32).toInt + (x3 : Int32).toInt := ti_add (i_f_2 : Rg (0) (1022) (x2)) (i_f_3 : Rg (1) (1023) (x3)) (by decide); have := (i_f_3 : Rg (1) (1023) (x3)).1; have := (i_f_3 : Rg (1) (1023) (x3)).2; have : ((1 : Int32)).toInt = 1 := rfl; have hq_ := ((rg_shrk 1 (by decide) (rg_add (rg_add i_f_2 i_f_3 (by decide) : Rg (1) (2045) ((x2 + x3))) (rg_b rfl : Rg (1) (1) ((1 : Int32))) (by decide) : Rg (2) (2046) (((x2 + x3) + (1 : Int32)))) (by decide) : Rg (1) (1023) (((x2 + x3) + (1 : Int32)) >>> ((1 : Int32) &&& 31))) : Rg (1) (1023) (((x2 + x3) + (1 : Int32)) >>> ((1 : Int32) &&& 31))); have := hq_.1; have := hq_.2; have := nle_i c_1; have := lt_i c_5; have := (i_x1 : Rg (0) (599999) (x1)).1; have := (i_x1 : Rg (0) (599999) (x1)).2; have := (i_f_6 : Rg (1) (600000) ((hI h r_3 v_2.toNatClampNeg))).1; have := (i_f_6 : Rg (1) (600000) ((hI h r_3 v_2.toNatClampNeg))).2; omega))
      · have _ := c_5
        have i_f_8 : Rg (0) (599999) ((hI h r_3 v_2.toNatClampNeg)) := rg_le1 (nlt_le c_5) (thI T q_r_3 (k := 21) rfl : Rg (0) (600000) ((hI h r_3 v_2.toNatClampNeg))) i_x1
        exact hk_9 E T r_x0 i_x1 (rg_m i_v_2 (by decide)) (rg_m i_f_3 (by decide)) (show (v_2).toInt ≤ (x3).toInt + 1 from (by have := (i_v_2 : Rg (1) (1023) (v_2)).1; have := (i_v_2 : Rg (1) (1023) (v_2)).2; have : (v_2).toInt = (((x2 + x3) + (1 : Int32)) >>> ((1 : Int32) &&& 31) : Int32).toInt := congrArg Int32.toInt e_4; have : (((x2 + x3) + (1 : Int32)) >>> ((1 : Int32) &&& 31) : Int32).toInt = (((x2 + x3) + (1 : Int32)) : Int32).toInt / 2 := ti_shr1; have : (((x2 + x3) + (1 : Int32)) : Int32).toInt = ((x2 + x3) : Int32).toInt + ((1 : Int32) : Int32).toInt := ti_add ((rg_add i_f_2 i_f_3 (by decide) : Rg (1) (2045) ((x2 + x3))) : Rg (1) (2045) ((x2 + x3))) ((rg_b rfl : Rg (1) (1) ((1 : Int32))) : Rg (1) (1) ((1 : Int32))) (by decide); have : ((x2 + x3) : Int32).toInt = (x2 : Int32).toInt + (x3 : Int32).toInt := ti_add (i_f_2 : Rg (0) (1022) (x2)) (i_f_3 : Rg (1) (1023) (x3)) (by decide); have := (i_f_2 : Rg (0) (1022) (x2)).1; have := (i_f_2 : Rg (0) (1022) (x2)).2; have := (i_f_3 : Rg (1) (1023) (x3)).1; have := (i_f_3 : Rg (1) (1023) (x3)).2; have : ((1 : Int32)).toInt = 1 := rfl; have hq_ := ((rg_shrk 1 (by decide) (rg_add (rg_add i_f_2 i_f_3 (by decide) : Rg (1) (2045) ((x2 + x3))) (rg_b rfl : Rg (1) (1) ((1 : Int32))) (by decide) : Rg (2) (2046) (((x2 + x3) + (1 : Int32)))) (by decide) : Rg (1) (1023) (((x2 + x3) + (1 : Int32)) >>> ((1 : Int32) &&& 31))) : Rg (1) (1023) (((x2 + x3) + (1 : Int32)) >>> ((1 : Int32) &&& 31))); have := hq_.1; have := hq_.2; have := nle_i c_1; have := nlt_i c_5; have := (i_x1 : Rg (0) (599999) (x1)).1; have := (i_x1 : Rg (0) (599999) (x1)).2; have := (i_f_8 : Rg (0) (599999) ((hI h r_3 v_2.toNatClampNeg))).1; have := (i_f_8 : Rg (0) (599999) ((hI h r_3 v_2.toNatClampNeg))).2; omega)) (show (0 ≤ ((x3).toInt - (v_2).toInt + 1) ∧ ((x3).toInt - (v_2).toInt + 1) < C_9) from (by have := (i_v_2 : Rg (1) (1023) (v_2)).1; have := (i_v_2 : Rg (1) (1023) (v_2)).2; have : (v_2).toInt = (((x2 + x3) + (1 : Int32)) >>> ((1 : Int32) &&& 31) : Int32).toInt := congrArg Int32.toInt e_4; have : (((x2 + x3) + (1 : Int32)) >>> ((1 : Int32) &&& 31) : Int32).toInt = (((x2 + x3) + (1 : Int32)) : Int32).toInt / 2 := ti_shr1; have : (((x2 + x3) + (1 : Int32)) : Int32).toInt = ((x2 + x3) : Int32).toInt + ((1 : Int32) : Int32).toInt := ti_add ((rg_add i_f_2 i_f_3 (by decide) : Rg (1) (2045) ((x2 + x3))) : Rg (1) (2045) ((x2 + x3))) ((rg_b rfl : Rg (1) (1) ((1 : Int32))) : Rg (1) (1) ((1 : Int32))) (by decide); have : ((x2 + x3) : Int32).toInt = (x2 : Int32).toInt + (x3 : Int32).toInt := ti_add (i_f_2 : Rg (0) (1022) (x2)) (i_f_3 : Rg (1) (1023) (x3)) (by decide); have := (i_f_2 : Rg (0) (1022) (x2)).1; have := (i_f_2 : Rg (0) (1022) (x2)).2; have := (i_f_3 : Rg (1) (1023) (x3)).1; have := (i_f_3 : Rg (1) (1023) (x3)).2; have : ((1 : Int32)).toInt = 1 := rfl; have hq_ := ((rg_shrk 1 (by decide) (rg_add (rg_add i_f_2 i_f_3 (by decide) : Rg (1) (2045) ((x2 + x3))) (rg_b rfl : Rg (1) (1) ((1 : Int32))) (by decide) : Rg (2) (2046) (((x2 + x3) + (1 : Int32)))) (by decide) : Rg (1) (1023) (((x2 + x3) + (1 : Int32)) >>> ((1 : Int32) &&& 31))) : Rg (1) (1023) (((x2 + x3) + (1 : Int32)) >>> ((1 : Int32) &&& 31))); have := hq_.1; have := hq_.2; have := nle_i c_1; have := nlt_i c_5; have := (i_x1 : Rg (0) (599999) (x1)).1; have := (i_x1 : Rg (0) (599999) (x1)).2; have := (i_f_8 : Rg (0) (599999) ((hI h r_3 v_2.toNatClampNeg))).1; have := (i_f_8 : Rg (0) (599999) ((hI h r_3 v_2.toNatClampNeg))).2; omega))
set_option maxRecDepth 20000 in
theorem zX0_setOf {ρ : Nat → Nat} {c : Cm} {F : Nat} (hF : 700000 ≤ F) {h : Hp} {x0 : Nat} {x1 : Int32} (T : TH ρ c h) (r_x0 : ρ x0 = 1) (i_x1 : Rg (0) (599999) (x1)) : Sat (sX0_setOf F h x0 x1) (ZI0 h (0) (1023)) := by
  unfold sX0_setOf 
  refine s_q (fun v_1 e_1 => ?_)
  have i_v_1 : Rg (-1) (1023) (v_1) := by rw [e_1]; exact (rg_sub (thI T r_x0 (k := 1) (i := 9) rfl : Rg (0) (1024) ((hI h x0 9))) (rg_b rfl : Rg (1) (1) ((1 : Int32))) (by decide) : Rg (-1) (1023) ((hI h x0 9) - (1 : Int32)))
  exact zX0_setOf_9 hF F rfl T r_x0 i_x1 (rg_m (rg_b rfl : Rg (0) (0) ((0 : Int32))) (by decide)) i_v_1 (show ((0 : Int32)).toInt ≤ (v_1).toInt + 1 from (by have : ((0 : Int32)).toInt = 0 := rfl; have := (i_v_1 : Rg (-1) (1023) (v_1)).1; have := (i_v_1 : Rg (-1) (1023) (v_1)).2; have : (v_1).toInt = ((hI h x0 9) - (1 : Int32) : Int32).toInt := congrArg Int32.toInt e_1; have : ((hI h x0 9) - (1 : Int32) : Int32).toInt = ((hI h x0 9) : Int32).toInt - ((1 : Int32) : Int32).toInt := ti_sub ((thI T r_x0 (k := 1) (i := 9) rfl : Rg (0) (1024) ((hI h x0 9))) : Rg (0) (1024) ((hI h x0 9))) ((rg_b rfl : Rg (1) (1) ((1 : Int32))) : Rg (1) (1) ((1 : Int32))) (by decide); have hq_ := ((thI T r_x0 (k := 1) (i := 9) rfl : Rg (0) (1024) ((hI h x0 9))) : Rg (0) (1024) ((hI h x0 9))); have := hq_.1; have := hq_.2; have : ((1 : Int32)).toInt = 1 := rfl; omega)) (show (((v_1).toInt - ((0 : Int32)).toInt + 1) - 0).toNat < F from (by have := (i_x1 : Rg (0) (599999) (x1)).1; have := (i_x1 : Rg (0) (599999) (x1)).2; have : ((0 : Int32)).toInt = 0 := rfl; have := (i_v_1 : Rg (-1) (1023) (v_1)).1; have := (i_v_1 : Rg (-1) (1023) (v_1)).2; have : (v_1).toInt = ((hI h x0 9) - (1 : Int32) : Int32).toInt := congrArg Int32.toInt e_1; have : ((hI h x0 9) - (1 : Int32) : Int32).toInt = ((hI h x0 9) : Int32).toInt - ((1 : Int32) : Int32).toInt := ti_sub ((thI T r_x0 (k := 1) (i := 9) rfl : Rg (0) (1024) ((hI h x0 9))) : Rg (0) (1024) ((hI h x0 9))) ((rg_b rfl : Rg (1) (1) ((1 : Int32))) : Rg (1) (1) ((1 : Int32))) (by decide); have hq_ := ((thI T r_x0 (k := 1) (i := 9) rfl : Rg (0) (1024) ((hI h x0 9))) : Rg (0) (1024) ((hI h x0 9))); have := hq_.1; have := hq_.2; have : ((1 : Int32)).toInt = 1 := rfl; omega))
set_option maxRecDepth 20000 in
theorem zX10_addWay_33 {ρ : Nat → Nat} {c : Cm} {F : Nat} (hF : 700000 ≤ F) (hA : pmA c [(51, 999), (52, 999), (53, 999), (54, 999), (11, 8)]) : ∀ (f : Nat) {h : Hp} {x0 : Nat} {x1 : Int32} {x2 : Int32} {x3 : Int32} {x4 : Int32} {x5 : Int32} {x6 : Int64} {x8 : Int32} {x9 : Int32}, TH ρ c h → ρ x0 = 11 → Rg (0) (23) (x1) → Rg (0) (63) (x2) → Rg (0) (63) (x3) → Rg (0) (63) (x4) → Rg (1) (7) (x5) → Rg (-63) (63) (x8) → Rg (1) (7) (x9) → ((hI h x0 8).toInt ≤ 172031) → ( SqB (c.2.1 50) x3) → (7 - x9.toInt).toNat < f → Sat (sX10_addWay_33 F f h x0 x1 x2 x3 x4 x5 x6 x8 x9) (ZV ρ c) := by
  intro f
  induction f with
  | zero => intros; omega
  | succ f ih =>
    intro h x0 x1 x2 x3 x4 x5 x6 x8 x9 T r_x0 i_x1 i_x2 i_x3 i_x4 i_x5 i_x8 i_x9 c8 s3 hm
    rw [sX10_addWay_33]
    unfold sX10_addWay_144
    obtain ⟨C_33, hC_33⟩ : ∃ C : Int, C = x9.toInt := ⟨_, rfl⟩
    have hk_33 : ∀ {h : Hp} {x0 : Nat} {x1 : Int32} {x2 : Int32} {x3 : Int32} {x4 : Int32} {x5 : Int32} {x6 : Int64} {x8 : Int32} {x9 : Int32}, TH ρ c h → ρ x0 = 11 → Rg (0) (23) (x1) → Rg (0) (63) (x2) → Rg (0) (63) (x3) → Rg (0) (63) (x4) → Rg (1) (7) (x5) → Rg (-63) (63) (x8) → Rg (1) (7) (x9) → ((hI h x0 8).toInt ≤ 172031) → ( SqB (c.2.1 50) x3) → C_33 < x9.toInt → Sat (sX10_addWay_33 F f h x0 x1 x2 x3 x4 x5 x6 x8 x9) (ZV ρ c) := by
      intro h' x0' x1' x2' x3' x4' x5' x6' x8' x9' T' r_x0' i_x1' i_x2' i_x3' i_x4' i_x5' i_x8' i_x9' c8' s3' hl
      exact ih T' r_x0' i_x1' i_x2' i_x3' i_x4' i_x5' i_x8' i_x9' c8' s3' (by have := i_x9'.1; have := i_x9'.2; omega)
    have hc_33 : C_33 ≤ x9.toInt := by omega
    refine s_br (fun c_1 => ?_) (fun c_1 => ?_)
    · have _ := c_1
      obtain ⟨r_2, e_r_2, q_r_2⟩ := thR T r_x0 (k := 11) (i := 1) (k2 := 51) rfl (by decide)
      refine s_ref e_r_2 ?_
      have og_2 : Rg (0) (172031) ((hI h x0 8)) := ⟨(by have hq_ := ((thI T r_x0 (k := 11) (i := 8) rfl : Rg (0) (172032) ((hI h x0 8))) : Rg (0) (172032) ((hI h x0 8))); have := hq_.1; have := hq_.2; have := (i_x3 : Rg (0) (63) (x3)).1; have := (i_x3 : Rg (0) (63) (x3)).2; omega), (by have hq_ := ((thI T r_x0 (k := 11) (i := 8) rfl : Rg (0) (172032) ((hI h x0 8))) : Rg (0) (172032) ((hI h x0 8))); have := hq_.1; have := hq_.2; have := (i_x3 : Rg (0) (63) (x3)).1; have := (i_x3 : Rg (0) (63) (x3)).2; omega)⟩
      refine s_gd (by rw [thN T q_r_2 (k := 51) (n := 172032) rfl (by decide)]; exact rg_inB (og_2 : Rg (0) (172031) ((hI h x0 8))) (by decide)) ?_
      refine s_hq (th_wI T q_r_2 (k := 51) (lo := (0)) (hi := (32767)) rfl ((rg_or (n := 15) (rg_m (rg_or (n := 12) (rg_m i_x3 (by decide) : Rg (0) (63) (x3)) (rg_m (rg_shl (n := 6) (rg_m i_x4 (by decide) : Rg (0) (63) (x4)) (rg_m (rg_b rfl : Rg (6) (6) ((6 : Int32))) (by decide) : Rg (0) (6) ((6 : Int32))) (by decide) : Rg (0) (4032) ((x4 <<< ((6 : Int32) &&& 31)))) (by decide) : Rg (0) (4032) ((x4 <<< ((6 : Int32) &&& 31)))) (by decide) : Rg (0) (4095) ((x3 ||| (x4 <<< ((6 : Int32) &&& 31))))) (by decide) : Rg (0) (4095) ((x3 ||| (x4 <<< ((6 : Int32) &&& 31))))) (rg_m (rg_shl (n := 12) (rg_m i_x5 (by decide) : Rg (0) (7) (x5)) (rg_m (rg_b rfl : Rg (12) (12) ((12 : Int32))) (by decide) : Rg (0) (12) ((12 : Int32))) (by decide) : Rg (0) (28672) ((x5 <<< ((12 : Int32) &&& 31)))) (by decide) : Rg (0) (28672) ((x5 <<< ((12 : Int32) &&& 31)))) (by decide) : Rg (0) (32767) (((x3 ||| (x4 <<< ((6 : Int32) &&& 31))) ||| (x5 <<< ((12 : Int32) &&& 31))))) : Rg (0) (32767) (((x3 ||| (x4 <<< ((6 : Int32) &&& 31))) ||| (x5 <<< ((12 : Int32) &&& 31))))) (by decide) (by decide) (pm_a hA rfl) (rpW (sq_way (i_x3 : Rg (0) (63) (x3)) (i_x4 : Rg (0) (63) (x4)) ((rg_m i_x5 (by decide)) : Rg (0) (7) (x5)) s3))) (fun h_4 T_3 w_4 => ?_)
      obtain ⟨r_5, e_r_5, q_r_5⟩ := thR T_3 r_x0 (k := 11) (i := 2) (k2 := 52) rfl (by decide)
      refine s_ref e_r_5 ?_
      refine s_gd (by rw [thN T_3 q_r_5 (k := 52) (n := 172032) rfl (by decide)]; exact rg_inB (((rg_hw w_4 (ne_r r_x0 q_r_2 (by decide)) og_2) : Rg (0) (172031) ((hI h_4 x0 8))) : Rg (0) (172031) ((hI h_4 x0 8))) (by decide)) ?_
      refine s_hq (th_wJ T_3 q_r_5 (k := 52) (by decide) (pm_a hA rfl)) (fun h_7 T_5 w_6 => ?_)
      refine s_hq (th_wI T_5 r_x0 (k := 11) (lo := (0)) (hi := (172032)) rfl ((rg_m (rg_add ((rg_hj w_6 (rg_hw w_4 (ne_r r_x0 q_r_2 (by decide)) og_2)) : Rg (0) (172031) ((hI h_7 x0 8))) (rg_b rfl : Rg (1) (1) ((1 : Int32))) (by decide) : Rg (1) (172032) (((hI h_7 x0 8) + (1 : Int32)))) (by decide)) : Rg (0) (172032) (((hI h_7 x0 8) + (1 : Int32)))) (by decide) (by decide) (pm_a hA rfl)) (fun h_8 T_7 w_8 => ?_)
      obtain ⟨r_9, e_r_9, q_r_9⟩ := thR T_7 r_x0 (k := 11) (i := 3) (k2 := 53) rfl (by decide)
      refine s_ref e_r_9 ?_
      refine s_gd (by rw [thN T_7 q_r_9 (k := 53) (n := 1536) rfl (by decide)]; exact rg_inB ((rg_add (rg_mulc i_x1 (rg_b rfl : Rg (64) (64) ((64 : Int32))) (by decide) : Rg (0) (1472) ((x1 * (64 : Int32)))) i_x3 (by decide) : Rg (0) (1535) (((x1 * (64 : Int32)) + x3))) : Rg (0) (1535) (((x1 * (64 : Int32)) + x3))) (by decide)) ?_
      refine s_gd (by rw [thN T_7 q_r_9 (k := 53) (n := 1536) rfl (by decide)]; exact rg_inB ((rg_add (rg_mulc i_x1 (rg_b rfl : Rg (64) (64) ((64 : Int32))) (by decide) : Rg (0) (1472) ((x1 * (64 : Int32)))) i_x3 (by decide) : Rg (0) (1535) (((x1 * (64 : Int32)) + x3))) : Rg (0) (1535) (((x1 * (64 : Int32)) + x3))) (by decide)) ?_
      refine s_hq (th_wJ T_7 q_r_9 (k := 53) (by decide) (pm_a hA rfl)) (fun h_12 T_9 w_10 => ?_)
      refine s_br (fun c_11 => ?_) (fun c_11 => ?_)
      · have _ := c_11
        have i_f_12 : Rg (0) (0) ((x4 &&& (1 : Int32))) := rg_eq c_11 (rg_b rfl : Rg (0) (0) (0 : Int32))
        obtain ⟨r_14, e_r_14, q_r_14⟩ := thR T_9 r_x0 (k := 11) (i := 4) (k2 := 54) rfl (by decide)
        refine s_ref e_r_14 ?_
        refine s_gd (by rw [thN T_9 q_r_14 (k := 54) (n := 1536) rfl (by decide)]; exact rg_inB ((rg_add (rg_mulc i_x1 (rg_b rfl : Rg (64) (64) ((64 : Int32))) (by decide) : Rg (0) (1472) ((x1 * (64 : Int32)))) i_x3 (by decide) : Rg (0) (1535) (((x1 * (64 : Int32)) + x3))) : Rg (0) (1535) (((x1 * (64 : Int32)) + x3))) (by decide)) ?_
        refine s_gd (by rw [thN T_9 q_r_14 (k := 54) (n := 1536) rfl (by decide)]; exact rg_inB ((rg_add (rg_mulc i_x1 (rg_b rfl : Rg (64) (64) ((64 : Int32))) (by decide) : Rg (0) (1472) ((x1 * (64 : Int32)))) i_x3 (by decide) : Rg (0) (1535) (((x1 * (64 : Int32)) + x3))) : Rg (0) (1535) (((x1 * (64 : Int32)) + x3))) (by decide)) ?_
        refine s_hq (th_wJ T_9 q_r_14 (k := 54) (by decide) (pm_a hA rfl)) (fun h_17 T_13 w_14 => ?_)
        exact s_some (T_13)
      · have _ := c_11
        have i_f_15 : Rg (1) (1) ((x4 &&& (1 : Int32))) := rg_nlo c_11 (rg_and (rg_b rfl : Rg (1) (1) ((1 : Int32))) (by decide) : Rg (0) (1) ((x4 &&& (1 : Int32)))) (rg_b rfl : Rg (0) (0) (0 : Int32))
        exact s_some (T_9)
    · have _ := c_1
      have i_f_16 : Rg (1) (6) (x9) := rg_lt1 (nle_lt c_1) i_x9 i_x5
      have i_f_17 : Rg (2) (7) (x5) := rg_lt2 (nle_lt c_1) i_x9 i_x5
      refine s_q (fun v_18 e_18 => ?_)
      refine s_q (fun v_19 e_19 => ?_)
      have i_v_19 : Rg (2) (7) (v_19) := by rw [e_19]; exact (rg_add i_f_16 (rg_b rfl : Rg (1) (1) ((1 : Int32))) (by decide) : Rg (2) (7) (x9 + (1 : Int32)))
      have m_20 : (v_19).toInt = x9.toInt + 1 := by rw [e_19]; exact rg_inc i_f_16 (by decide)
      exact hk_33 T r_x0 i_x1 i_x2 i_x3 i_x4 (rg_m i_f_17 (by decide)) i_x8 (rg_m i_v_19 (by decide)) c8 s3 (by have := hc_33; omega)
set_option maxRecDepth 20000 in
theorem zX10_addWay {ρ : Nat → Nat} {c : Cm} {F : Nat} (hF : 700000 ≤ F) (hA : pmA c [(51, 999), (52, 999), (53, 999), (54, 999), (11, 8)]) {h : Hp} {x0 : Nat} {x1 : Int32} {x2 : Int32} {x3 : Int32} {x4 : Int32} {x5 : Int32} (T : TH ρ c h) (r_x0 : ρ x0 = 11) (i_x1 : Rg (0) (23) (x1)) (i_x2 : Rg (0) (63) (x2)) (i_x3 : Rg (0) (63) (x3)) (i_x4 : Rg (0) (63) (x4)) (i_x5 : Rg (1) (7) (x5)) (s3 :  SqB (c.2.1 50) x3) : Sat (sX10_addWay F h x0 x1 x2 x3 x4 x5) (ZV ρ c) := by
  unfold sX10_addWay sX10_addWay_28
  refine s_br (fun c_1 => ?_) (fun c_1 => ?_)
  · have _ := c_1
    have i_f_2 : Rg (0) (172031) ((hI h x0 8)) := rg_lt1 c_1 (thI T r_x0 (k := 11) (i := 8) rfl : Rg (0) (172032) ((hI h x0 8))) (rg_b rfl : Rg (172032) (172032) ((172032 : Int32)))
    refine s_br (fun c_3 => ?_) (fun c_3 => ?_)
    · have _ := c_3
      exact (rc_le c_3 i_x5 (rg_b rfl : Rg (0) (0) (0 : Int32)) (by decide)).elim
    · have _ := c_3
      refine s_gd (rg_ne0 i_x5 (by decide)) ?_
      have m_4 : Rg (1) (7) ((1 : Int32)) := (rg_m (rg_b rfl : Rg (1) (1) ((1 : Int32))) (by decide))
      exact zX10_addWay_33 hF (pmA_s hA rfl) F T r_x0 i_x1 i_x2 i_x3 i_x4 i_x5 (rg_divn (rg_m (rg_sub i_x3 i_x2 (by decide) : Rg (-63) (63) ((x3 - x2))) (by decide) : Rg (-63) (63) ((x3 - x2))) i_x5 (by decide) : Rg (-63) (63) (((x3 - x2) / x5))) (rg_m (rg_b rfl : Rg (1) (1) ((1 : Int32))) (by decide)) (show (hI h x0 8).toInt ≤ 172031 from (by have := (i_f_2 : Rg (0) (172031) ((hI h x0 8))).1; have := (i_f_2 : Rg (0) (172031) ((hI h x0 8))).2; have := lt_i c_1; have : ((172032 : Int32)).toInt = 172032 := rfl; omega)) s3 (by have := m_4.1; have := m_4.2; omega)
  · have _ := c_1
    have i_f_5 : Rg (172032) (172032) ((hI h x0 8)) := rg_le2 (nlt_le c_1) (rg_b rfl : Rg (172032) (172032) ((172032 : Int32))) (thI T r_x0 (k := 11) (i := 8) rfl : Rg (0) (172032) ((hI h x0 8)))
    exact s_some (T)
set_option maxRecDepth 20000 in
theorem zX10_isOn {ρ : Nat → Nat} {c : Cm} {F : Nat} (hF : 700000 ≤ F) (m6 : c.2.1 6 = true) {h : Hp} {x0 : Nat} {x1 : Int32} {x2 : Int32} (T : TH ρ c h) (r_x0 : ρ x0 = 11) (i_x1 : Rg (-8) (15) (x1)) (i_x2 : Rg (-8) (15) (x2)) : Sat (sX10_isOn h x0 x1 x2) (ZP0 h (0) (1) (0) (Rg (0) (7) (x1) ∧ Rg (0) (7) (x2))) := by
  unfold sX10_isOn sX10_isOn_34 sX10_isOn_35
  refine s_br (fun c_1 => ?_) (fun c_1 => ?_)
  · have _ := c_1
    have i_f_2 : Rg (-8) (-1) (x1) := rg_lt1 c_1 i_x1 (rg_b rfl : Rg (0) (0) (0 : Int32))
    refine s_gd (rg_bool (rg_m (rg_b rfl : Rg (0) (0) ((0 : Int32))) (by decide))) ?_
    exact s_some ⟨rfl, (rg_m (rg_b rfl : Rg (0) (0) ((0 : Int32))) (by decide)), (fun q => absurd (rz_s (rg_b rfl : Rg (0) (0) ((0 : Int32))) (rg_b rfl : Rg (0) (0) (0 : Int32))) q)⟩
  · have _ := c_1
    have i_f_3 : Rg (0) (15) (x1) := rg_le2 (nlt_le c_1) (rg_b rfl : Rg (0) (0) (0 : Int32)) i_x1
    obtain ⟨r_2, e_r_2, q_r_2⟩ := thM T r_x0 (k := 11) (i := 7) (j := 6) (k2 := 2) rfl (by decide) rfl (by decide) m6
    refine s_ref e_r_2 ?_
    refine s_br (fun c_4 => ?_) (fun c_4 => ?_)
    · have _ := c_4
      refine s_gd (rg_bool (rg_m (rg_b rfl : Rg (0) (0) ((0 : Int32))) (by decide))) ?_
      exact s_some ⟨rfl, (rg_m (rg_b rfl : Rg (0) (0) ((0 : Int32))) (by decide)), (fun q => absurd (rz_s (rg_b rfl : Rg (0) (0) ((0 : Int32))) (rg_b rfl : Rg (0) (0) (0 : Int32))) q)⟩
    · have _ := c_4
      have i_f_5 : Rg (0) (7) (x1) := rg_lt1 (nle_lt c_4) i_f_3 (thI T q_r_2 (k := 2) (i := 0) rfl : Rg (0) (8) ((hI h r_2 0)))
      have i_f_6 : Rg (1) (8) ((hI h r_2 0)) := rg_lt2 (nle_lt c_4) i_f_3 (thI T q_r_2 (k := 2) (i := 0) rfl : Rg (0) (8) ((hI h r_2 0)))
      refine s_br (fun c_7 => ?_) (fun c_7 => ?_)
      · have _ := c_7
        have i_f_8 : Rg (-8) (-1) (x2) := rg_lt1 c_7 i_x2 (rg_b rfl : Rg (0) (0) (0 : Int32))
        refine s_gd (rg_bool (rg_m (rg_b rfl : Rg (0) (0) ((0 : Int32))) (by decide))) ?_
        exact s_some ⟨rfl, (rg_m (rg_b rfl : Rg (0) (0) ((0 : Int32))) (by decide)), (fun q => absurd (rz_s (rg_b rfl : Rg (0) (0) ((0 : Int32))) (rg_b rfl : Rg (0) (0) (0 : Int32))) q)⟩
      · have _ := c_7
        have i_f_9 : Rg (0) (15) (x2) := rg_le2 (nlt_le c_7) (rg_b rfl : Rg (0) (0) (0 : Int32)) i_x2
        refine s_ref e_r_2 ?_
        refine s_br (fun c_10 => ?_) (fun c_10 => ?_)
        · have _ := c_10
          refine s_gd (rg_bool (rg_m (rg_b rfl : Rg (0) (0) ((0 : Int32))) (by decide))) ?_
          exact s_some ⟨rfl, (rg_m (rg_b rfl : Rg (0) (0) ((0 : Int32))) (by decide)), (fun q => absurd (rz_s (rg_b rfl : Rg (0) (0) ((0 : Int32))) (rg_b rfl : Rg (0) (0) (0 : Int32))) q)⟩
        · have _ := c_10
          have i_f_11 : Rg (0) (7) (x2) := rg_lt1 (nle_lt c_10) i_f_9 (thI T q_r_2 (k := 2) (i := 1) rfl : Rg (0) (8) ((hI h r_2 1)))
          have i_f_12 : Rg (1) (8) ((hI h r_2 1)) := rg_lt2 (nle_lt c_10) i_f_9 (thI T q_r_2 (k := 2) (i := 1) rfl : Rg (0) (8) ((hI h r_2 1)))
          refine s_gd (rg_bool (rg_m (rg_b rfl : Rg (1) (1) ((1 : Int32))) (by decide))) ?_
          exact s_some ⟨rfl, (rg_m (rg_b rfl : Rg (1) (1) ((1 : Int32))) (by decide)), (fun _ => ⟨i_f_5, i_f_11⟩)⟩
set_option maxRecDepth 20000 in
theorem zX10_layAround_18 {ρ : Nat → Nat} {c : Cm} {F : Nat} (hF : 700000 ≤ F) (m6 : c.2.1 6 = true) {k_2 : Hp → Nat → Int32 → Option (Hp)} {C_2 : Int} (hk_2 : ∀ {h : Hp} {x0 : Nat} {x1 : Int32}, TH ρ c h → ρ x0 = 11 → Rg (0) (64) (x1) → C_2 < x1.toInt → Sat (k_2 h x0 x1) (ZV ρ c)) (hA : pmA c [(55, 999)]) : ∀ (f : Nat) {h : Hp} {x0 : Nat} {x1 : Int32} {x2 : Int64} {x4 : Int32}, TH ρ c h → ρ x0 = 11 → Rg (0) (63) (x1) → Rg (0) (9) (x4) → C_2 ≤ x1.toInt → (9 - x4.toInt).toNat < f → Sat (sX10_layAround_18 F k_2 f h x0 x1 x2 x4) (ZV ρ c) := by
  intro f
  induction f with
  | zero => intros; omega
  | succ f ih =>
    intro h x0 x1 x2 x4 T r_x0 i_x1 i_x4 hc_2 hm
    rw [sX10_layAround_18]
    unfold sX10_layAround_96
    obtain ⟨C_18, hC_18⟩ : ∃ C : Int, C = x4.toInt := ⟨_, rfl⟩
    have hk_18 : ∀ {h : Hp} {x0 : Nat} {x1 : Int32} {x2 : Int64} {x4 : Int32}, TH ρ c h → ρ x0 = 11 → Rg (0) (63) (x1) → Rg (0) (9) (x4) → C_2 ≤ x1.toInt → C_18 < x4.toInt → Sat (sX10_layAround_18 F k_2 f h x0 x1 x2 x4) (ZV ρ c) := by
      intro h' x0' x1' x2' x4' T' r_x0' i_x1' i_x4' hc_2' hl
      exact ih T' r_x0' i_x1' i_x4' hc_2' (by have := i_x4'.1; have := i_x4'.2; omega)
    have hc_18 : C_18 ≤ x4.toInt := by omega
    refine s_br (fun c_1 => ?_) (fun c_1 => ?_)
    · have _ := c_1
      have i_f_2 : Rg (9) (9) (x4) := rg_le2 c_1 (rg_b rfl : Rg (9) (9) ((9 : Int32))) i_x4
      obtain ⟨r_2, e_r_2, q_r_2⟩ := thR T r_x0 (k := 11) (i := 5) (k2 := 55) rfl (by decide)
      refine s_ref e_r_2 ?_
      refine s_gd (by rw [thN T q_r_2 (k := 55) (n := 64) rfl (by decide)]; exact rg_inB (i_x1 : Rg (0) (63) (x1)) (by decide)) ?_
      refine s_hq (th_wJ T q_r_2 (k := 55) (by decide) (pm_a hA rfl)) (fun h_4 T_3 w_4 => ?_)
      refine s_q (fun v_5 e_5 => ?_)
      have i_v_5 : Rg (1) (64) (v_5) := by rw [e_5]; exact (rg_add i_x1 (rg_b rfl : Rg (1) (1) ((1 : Int32))) (by decide) : Rg (1) (64) (x1 + (1 : Int32)))
      have m_6 : (v_5).toInt = x1.toInt + 1 := by rw [e_5]; exact rg_inc i_x1 (by decide)
      exact hk_2 T_3 r_x0 (rg_m i_v_5 (by decide)) (by have := hc_2; omega)
    · have _ := c_1
      have i_f_7 : Rg (0) (8) (x4) := rg_lt1 (nle_lt c_1) i_x4 (rg_b rfl : Rg (9) (9) ((9 : Int32)))
      obtain ⟨r_6, e_r_6, q_r_6⟩ := thM T r_x0 (k := 11) (i := 7) (j := 6) (k2 := 2) rfl (by decide) rfl (by decide) m6
      refine s_ref e_r_6 ?_
      obtain ⟨r_7, e_r_7, q_r_7⟩ := thR T q_r_6 (k := 2) (i := 19) (k2 := 32) rfl (by decide)
      refine s_ref e_r_7 ?_
      refine s_gd (by rw [thN T q_r_7 (k := 32) (n := 64) rfl (by decide)]; exact rg_inB (i_x1 : Rg (0) (63) (x1)) (by decide)) ?_
      refine s_q (fun v_9 e_8 => ?_)
      have i_v_9 : Rg (-1) (8) (v_9) := by rw [e_8]; exact (rg_sub (rg_add (thI T q_r_7 (k := 32) rfl : Rg (0) (7) ((hI h r_7 x1.toNatClampNeg))) (rg_rem i_f_7 (rg_b rfl : Rg (3) (3) ((3 : Int32))) (by decide) : Rg (0) (2) ((x4 - x4 / (3 : Int32) * (3 : Int32)))) (by decide) : Rg (0) (9) (((hI h r_7 x1.toNatClampNeg) + (x4 - x4 / (3 : Int32) * (3 : Int32))))) (rg_b rfl : Rg (1) (1) ((1 : Int32))) (by decide) : Rg (-1) (8) (((hI h r_7 x1.toNatClampNeg) + (x4 - x4 / (3 : Int32) * (3 : Int32))) - (1 : Int32)))
      refine s_ref e_r_6 ?_
      obtain ⟨r_11, e_r_11, q_r_11⟩ := thR T q_r_6 (k := 2) (i := 20) (k2 := 33) rfl (by decide)
      refine s_ref e_r_11 ?_
      refine s_gd (by rw [thN T q_r_11 (k := 33) (n := 64) rfl (by decide)]; exact rg_inB (i_x1 : Rg (0) (63) (x1)) (by decide)) ?_
      refine s_q (fun v_13 e_9 => ?_)
      have i_v_13 : Rg (-1) (8) (v_13) := by rw [e_9]; exact (rg_sub (rg_add (thI T q_r_11 (k := 33) rfl : Rg (0) (7) ((hI h r_11 x1.toNatClampNeg))) (rg_divc i_f_7 (rg_b rfl : Rg (3) (3) ((3 : Int32))) (by decide) : Rg (0) (2) ((x4 / (3 : Int32)))) (by decide) : Rg (0) (9) (((hI h r_11 x1.toNatClampNeg) + (x4 / (3 : Int32))))) (rg_b rfl : Rg (1) (1) ((1 : Int32))) (by decide) : Rg (-1) (8) (((hI h r_11 x1.toNatClampNeg) + (x4 / (3 : Int32))) - (1 : Int32)))
      refine s_br (fun c_10 => ?_) (fun c_10 => ?_)
      · have _ := c_10
        have i_f_11 : Rg (4) (4) (x4) := rg_eq c_10 (rg_b rfl : Rg (4) (4) ((4 : Int32)))
        refine s_q (fun v_1q1 e_12 => ?_)
        have i_v_1q1 : Rg (5) (5) (v_1q1) := by rw [e_12]; exact (rg_add i_f_11 (rg_b rfl : Rg (1) (1) ((1 : Int32))) (by decide) : Rg (5) (5) (x4 + (1 : Int32)))
        have m_13 : (v_1q1).toInt = x4.toInt + 1 := by rw [e_12]; exact rg_inc i_f_11 (by decide)
        exact hk_18 T r_x0 i_x1 (rg_m i_v_1q1 (by decide)) hc_2 (by have := hc_18; omega)
      · have _ := c_10
        refine s_dP0 (zX10_isOn hF m6 T r_x0 (rg_m i_v_9 (by decide)) (rg_m i_v_13 (by decide))) (fun o_15 eb_o_15 e_o_15 i_o_15 p_o_15 => ?_)
        have T_14 := th_eq e_o_15 T
        refine s_br (fun c_15 => ?_) (fun c_15 => ?_)
        · have _ := c_15
          have i_f_16 : Rg (0) (0) (o_15.1) := rg_eq c_15 (rg_b rfl : Rg (0) (0) (0 : Int32))
          refine s_q (fun v_1q2 e_17 => ?_)
          have i_v_1q2 : Rg (1) (9) (v_1q2) := by rw [e_17]; exact (rg_add i_f_7 (rg_b rfl : Rg (1) (1) ((1 : Int32))) (by decide) : Rg (1) (9) (x4 + (1 : Int32)))
          have m_18 : (v_1q2).toInt = x4.toInt + 1 := by rw [e_17]; exact rg_inc i_f_7 (by decide)
          exact hk_18 T_14 r_x0 i_x1 (rg_m i_v_1q2 (by decide)) hc_2 (by have := hc_18; omega)
        · have _ := c_15
          have i_f_19 : Rg (1) (1) (o_15.1) := rg_nlo c_15 i_o_15 (rg_b rfl : Rg (0) (0) (0 : Int32))
          have p_f_20 := p_o_15 c_15
          refine s_ref (hr_e e_o_15 e_r_6) ?_
          refine s_q (fun v_18 e_21 => ?_)
          refine s_q (fun v_1q3 e_22 => ?_)
          have i_v_1q3 : Rg (1) (9) (v_1q3) := by rw [e_22]; exact (rg_add i_f_7 (rg_b rfl : Rg (1) (1) ((1 : Int32))) (by decide) : Rg (1) (9) (x4 + (1 : Int32)))
          have m_23 : (v_1q3).toInt = x4.toInt + 1 := by rw [e_22]; exact rg_inc i_f_7 (by decide)
          exact hk_18 T_14 r_x0 i_x1 (rg_m i_v_1q3 (by decide)) hc_2 (by have := hc_18; omega)
set_option maxRecDepth 20000 in
theorem zX10_layAround_2 {ρ : Nat → Nat} {c : Cm} {F : Nat} (hF : 700000 ≤ F) (m6 : c.2.1 6 = true) (hA : pmA c [(55, 999)]) : ∀ (f : Nat) {h : Hp} {x0 : Nat} {x1 : Int32}, TH ρ c h → ρ x0 = 11 → Rg (0) (64) (x1) → (64 - x1.toInt).toNat < f → Sat (sX10_layAround_2 F f h x0 x1) (ZV ρ c) := by
  intro f
  induction f with
  | zero => intros; omega
  | succ f ih =>
    intro h x0 x1 T r_x0 i_x1 hm
    rw [sX10_layAround_2]
    obtain ⟨C_2, hC_2⟩ : ∃ C : Int, C = x1.toInt := ⟨_, rfl⟩
    have hk_2 : ∀ {h : Hp} {x0 : Nat} {x1 : Int32}, TH ρ c h → ρ x0 = 11 → Rg (0) (64) (x1) → C_2 < x1.toInt → Sat (sX10_layAround_2 F f h x0 x1) (ZV ρ c) := by
      intro h' x0' x1' T' r_x0' i_x1' hl
      exact ih T' r_x0' i_x1' (by have := i_x1'.1; have := i_x1'.2; omega)
    have hc_2 : C_2 ≤ x1.toInt := by omega
    obtain ⟨r_1, e_r_1, q_r_1⟩ := thM T r_x0 (k := 11) (i := 7) (j := 6) (k2 := 2) rfl (by decide) rfl (by decide) m6
    refine s_ref e_r_1 ?_
    refine s_br (fun c_1 => ?_) (fun c_1 => ?_)
    · have _ := c_1
      exact s_some (T)
    · have _ := c_1
      have i_f_2 : Rg (0) (63) (x1) := rg_lt1 (nle_lt c_1) i_x1 (thI T q_r_1 (k := 2) (i := 2) rfl : Rg (0) (64) ((hI h r_1 2)))
      have i_f_3 : Rg (1) (64) ((hI h r_1 2)) := rg_lt2 (nle_lt c_1) i_x1 (thI T q_r_1 (k := 2) (i := 2) rfl : Rg (0) (64) ((hI h r_1 2)))
      have m_4 : Rg (0) (9) ((0 : Int32)) := (rg_m (rg_b rfl : Rg (0) (0) ((0 : Int32))) (by decide))
      exact zX10_layAround_18 hF m6 @hk_2 (pmA_s hA rfl) F T r_x0 i_f_2 (rg_m (rg_b rfl : Rg (0) (0) ((0 : Int32))) (by decide)) hc_2 (by have := m_4.1; have := m_4.2; omega)
set_option maxRecDepth 20000 in
theorem zX10_layAround {ρ : Nat → Nat} {c : Cm} {F : Nat} (hF : 700000 ≤ F) (m6 : c.2.1 6 = true) (hA : pmA c [(55, 999)]) {h : Hp} {x0 : Nat} (T : TH ρ c h) (r_x0 : ρ x0 = 11) : Sat (sX10_layAround F h x0) (ZV ρ c) := by
  unfold sX10_layAround 
  have m_1 : Rg (0) (64) ((0 : Int32)) := (rg_m (rg_b rfl : Rg (0) (0) ((0 : Int32))) (by decide))
  exact zX10_layAround_2 hF m6 (pmA_s hA rfl) F T r_x0 (rg_m (rg_b rfl : Rg (0) (0) ((0 : Int32))) (by decide)) (by have := m_1.1; have := m_1.2; omega)
set_option maxRecDepth 20000 in
theorem zX10_ride_158 {ρ : Nat → Nat} {c : Cm} {F : Nat} (hF : 700000 ≤ F) (m6 : c.2.1 6 = true) (hA : pmA c [(56, 999)]) : ∀ (f : Nat) {h : Hp} {x0 : Nat} {x2 : Int32} {x3 : Int32} {x9 : Int32} {x10 : Int32} {x11 : Int64} {x13 : Int32} {x14 : Int32} {x15 : Int32}, TH ρ c h → ρ x0 = 11 → Rg (0) (7) (x2) → Rg (-2147483648) (2147483647) (x3) → Rg (-8) (8) (x9) → Rg (-8) (8) (x10) → Rg (-8) (15) (x13) → Rg (-8) (15) (x14) → Rg (1) (8) (x15) → (LwR ρ c h) → (8 - x15.toInt).toNat < f → Sat (sX10_ride_158 F f h x0 x2 x3 x9 x10 x11 x13 x14 x15) (ZJ ρ c) := by
  intro f
  induction f with
  | zero => intros; omega
  | succ f ih =>
    intro h x0 x2 x3 x9 x10 x11 x13 x14 x15 T r_x0 i_x2 i_x3 i_x9 i_x10 i_x13 i_x14 i_x15 lw hm
    rw [sX10_ride_158]
    unfold sX10_ride_239
    obtain ⟨C_158, hC_158⟩ : ∃ C : Int, C = x15.toInt := ⟨_, rfl⟩
    have hk_158 : ∀ {h : Hp} {x0 : Nat} {x2 : Int32} {x3 : Int32} {x9 : Int32} {x10 : Int32} {x11 : Int64} {x13 : Int32} {x14 : Int32} {x15 : Int32}, TH ρ c h → ρ x0 = 11 → Rg (0) (7) (x2) → Rg (-2147483648) (2147483647) (x3) → Rg (-8) (8) (x9) → Rg (-8) (8) (x10) → Rg (-8) (15) (x13) → Rg (-8) (15) (x14) → Rg (1) (8) (x15) → (LwR ρ c h) → C_158 < x15.toInt → Sat (sX10_ride_158 F f h x0 x2 x3 x9 x10 x11 x13 x14 x15) (ZJ ρ c) := by
      intro h' x0' x2' x3' x9' x10' x11' x13' x14' x15' T' r_x0' i_x2' i_x3' i_x9' i_x10' i_x13' i_x14' i_x15' lw' hl
      exact ih T' r_x0' i_x2' i_x3' i_x9' i_x10' i_x13' i_x14' i_x15' lw' (by have := i_x15'.1; have := i_x15'.2; omega)
    have hc_158 : C_158 ≤ x15.toInt := by omega
    refine s_br (fun c_1 => ?_) (fun c_1 => ?_)
    · have _ := c_1
      exact s_some (T)
    · have _ := c_1
      have i_f_2 : Rg (1) (7) (x15) := rg_le1 (nlt_le c_1) i_x15 (rg_and (rg_b rfl : Rg (7) (7) ((7 : Int32))) (by decide) : Rg (0) (7) (((x3 >>> ((14 : Int32) &&& 31)) &&& (7 : Int32))))
      have i_f_3 : Rg (1) (7) (((x3 >>> ((14 : Int32) &&& 31)) &&& (7 : Int32))) := rg_le2 (nlt_le c_1) i_x15 (rg_and (rg_b rfl : Rg (7) (7) ((7 : Int32))) (by decide) : Rg (0) (7) (((x3 >>> ((14 : Int32) &&& 31)) &&& (7 : Int32))))
      refine s_dP0 (zX10_isOn hF m6 T r_x0 i_x13 i_x14) (fun o_2 eb_o_2 e_o_2 i_o_2 p_o_2 => ?_)
      have T_4 := th_eq e_o_2 T
      refine s_br (fun c_5 => ?_) (fun c_5 => ?_)
      · have _ := c_5
        have i_f_6 : Rg (0) (0) (o_2.1) := rg_eq c_5 (rg_b rfl : Rg (0) (0) (0 : Int32))
        exact s_some (T_4)
      · have _ := c_5
        have i_f_7 : Rg (1) (1) (o_2.1) := rg_nlo c_5 i_o_2 (rg_b rfl : Rg (0) (0) (0 : Int32))
        have p_f_8 := p_o_2 c_5
        obtain ⟨r_4, e_r_4, q_r_4⟩ := thM T_4 r_x0 (k := 11) (i := 7) (j := 6) (k2 := 2) rfl (by decide) rfl (by decide) m6
        refine s_ref e_r_4 ?_
        refine s_q (fun v_5 e_9 => ?_)
        have i_v_5 : Rg (0) (63) (v_5) := by rw [e_9]; exact (rg_add (rg_mul p_f_8.2 (thI T_4 q_r_4 (k := 2) (i := 0) rfl : Rg (0) (8) ((hI o_2.2 r_4 0))) (by decide) : Rg (0) (56) ((x14 * (hI o_2.2 r_4 0)))) p_f_8.1 (by decide) : Rg (0) (63) ((x14 * (hI o_2.2 r_4 0)) + x13))
        obtain ⟨r_6, e_r_6, q_r_6⟩ := thR T_4 r_x0 (k := 11) (i := 6) (k2 := 56) rfl (by decide)
        refine s_ref e_r_6 ?_
        refine s_gd (by rw [thN T_4 q_r_6 (k := 56) (n := 512) rfl (by decide)]; exact rg_inB ((rg_add (rg_mulc i_v_5 (rg_b rfl : Rg (8) (8) ((8 : Int32))) (by decide) : Rg (0) (504) ((v_5 * (8 : Int32)))) i_x2 (by decide) : Rg (0) (511) (((v_5 * (8 : Int32)) + x2))) : Rg (0) (511) (((v_5 * (8 : Int32)) + x2))) (by decide)) ?_
        have pf_12 : LwR ρ c o_2.2 := (by rw [e_o_2]; exact lw)
        refine s_hq (th_wI T_4 q_r_6 (k := 56) (lo := (0)) (hi := (7)) rfl ((rg_m i_f_2 (by decide)) : Rg (0) (7) (x15)) (by decide) (by decide) (pm_a hA rfl) (rpT i_v_5 i_x2 (lw_fr8 pf_12 q_r_4 (kid_w T_4 r_x0 (i := 7) rfl (by decide) e_r_4) T_4 p_f_8.2 p_f_8.1 (ison_post eb_o_2 e_o_2 c_5 e_r_4).2.2 (ison_post eb_o_2 e_o_2 c_5 e_r_4).1.2 e_9))) (fun h_8 T_10 w_11 => ?_)
        refine s_q (fun v_9 e_13 => ?_)
        refine s_q (fun v_10 e_14 => ?_)
        have i_v_10 : Rg (-8) (15) (v_10) := by rw [e_14]; exact (rg_add p_f_8.1 i_x9 (by decide) : Rg (-8) (15) (x13 + x9))
        refine s_q (fun v_11 e_15 => ?_)
        have i_v_11 : Rg (-8) (15) (v_11) := by rw [e_15]; exact (rg_add p_f_8.2 i_x10 (by decide) : Rg (-8) (15) (x14 + x10))
        refine s_q (fun v_12 e_16 => ?_)
        have i_v_12 : Rg (2) (8) (v_12) := by rw [e_16]; exact (rg_add i_f_2 (rg_b rfl : Rg (1) (1) ((1 : Int32))) (by decide) : Rg (2) (8) (x15 + (1 : Int32)))
        have pf_17 : LwR ρ c h_8 := (lw_fr T_4  (fr1I (A := [(56, 999)]) q_r_6 rfl w_11) (fun _ => rfl) (fun _ => rfl) (fun _ => rfl) pf_12)
        have m_18 : (v_12).toInt = x15.toInt + 1 := by rw [e_16]; exact rg_inc i_f_2 (by decide)
        exact hk_158 T_10 r_x0 i_x2 i_x3 i_x9 i_x10 i_v_10 i_v_11 (rg_m i_v_12 (by decide)) pf_17 (by have := hc_158; omega)
set_option maxRecDepth 20000 in
theorem zX10_ride_124 {ρ : Nat → Nat} {c : Cm} {F : Nat} (hF : 700000 ≤ F) (m6 : c.2.1 6 = true) (hA : pmA c [(56, 999)]) {h : Hp} {x0 : Nat} {x1 : Int32} {x2 : Int32} {x3 : Int32} {x9 : Int32} {x10 : Int32} (T : TH ρ c h) (r_x0 : ρ x0 = 11) (i_x1 : Rg (0) (63) (x1)) (i_x2 : Rg (0) (7) (x2)) (i_x3 : Rg (-2147483648) (2147483647) (x3)) (i_x9 : Rg (-8) (8) (x9)) (i_x10 : Rg (-8) (8) (x10)) (lw : (LwR ρ c h)) : Sat (sX10_ride_124 F h x0 x1 x2 x3 x9 x10) (ZJ ρ c) := by
  unfold sX10_ride_124 
  obtain ⟨r_1, e_r_1, q_r_1⟩ := thM T r_x0 (k := 11) (i := 7) (j := 6) (k2 := 2) rfl (by decide) rfl (by decide) m6
  refine s_ref e_r_1 ?_
  obtain ⟨r_2, e_r_2, q_r_2⟩ := thR T q_r_1 (k := 2) (i := 19) (k2 := 32) rfl (by decide)
  refine s_ref e_r_2 ?_
  refine s_gd (by rw [thN T q_r_2 (k := 32) (n := 64) rfl (by decide)]; exact rg_inB (i_x1 : Rg (0) (63) (x1)) (by decide)) ?_
  refine s_q (fun v_4 e_1 => ?_)
  have i_v_4 : Rg (-8) (15) (v_4) := by rw [e_1]; exact (rg_add (thI T q_r_2 (k := 32) rfl : Rg (0) (7) ((hI h r_2 x1.toNatClampNeg))) i_x9 (by decide) : Rg (-8) (15) ((hI h r_2 x1.toNatClampNeg) + x9))
  refine s_ref e_r_1 ?_
  obtain ⟨r_6, e_r_6, q_r_6⟩ := thR T q_r_1 (k := 2) (i := 20) (k2 := 33) rfl (by decide)
  refine s_ref e_r_6 ?_
  refine s_gd (by rw [thN T q_r_6 (k := 33) (n := 64) rfl (by decide)]; exact rg_inB (i_x1 : Rg (0) (63) (x1)) (by decide)) ?_
  refine s_q (fun v_8 e_2 => ?_)
  have i_v_8 : Rg (-8) (15) (v_8) := by rw [e_2]; exact (rg_add (thI T q_r_6 (k := 33) rfl : Rg (0) (7) ((hI h r_6 x1.toNatClampNeg))) i_x10 (by decide) : Rg (-8) (15) ((hI h r_6 x1.toNatClampNeg) + x10))
  have m_3 : Rg (1) (8) ((1 : Int32)) := (rg_m (rg_b rfl : Rg (1) (1) ((1 : Int32))) (by decide))
  exact zX10_ride_158 hF m6 (pmA_s hA rfl) F T r_x0 i_x2 i_x3 i_x9 i_x10 i_v_4 i_v_8 (rg_m (rg_b rfl : Rg (1) (1) ((1 : Int32))) (by decide)) lw (by have := m_3.1; have := m_3.2; omega)
set_option maxRecDepth 20000 in
theorem zX10_ride_101 {ρ : Nat → Nat} {c : Cm} {F : Nat} (hF : 700000 ≤ F) (m6 : c.2.1 6 = true) (hA : pmA c [(56, 999)]) {h : Hp} {x0 : Nat} {x1 : Int32} {x2 : Int32} {x3 : Int32} {x4 : Int32} {x5 : Int32} {x8 : Int32} {x9 : Int32} {x10 : Int32} (T : TH ρ c h) (r_x0 : ρ x0 = 11) (i_x1 : Rg (0) (63) (x1)) (i_x2 : Rg (0) (7) (x2)) (i_x3 : Rg (-2147483648) (2147483647) (x3)) (i_x4 : Rg (0) (7) (x4)) (i_x5 : Rg (0) (1) (x5)) (i_x8 : Rg (0) (1) (x8)) (i_x9 : Rg (-8) (8) (x9)) (i_x10 : Rg (-8) (7) (x10)) (lw : (LwR ρ c h)) : Sat (sX10_ride_101 F h x0 x1 x2 x3 x4 x5 x8 x9 x10) (ZJ ρ c) := by
  unfold sX10_ride_101 sX10_ride_119
  refine s_br (fun c_1 => ?_) (fun c_1 => ?_)
  · have _ := c_1
    have i_f_2 : Rg (0) (0) ((x4 &&& (2 : Int32))) := rg_eq c_1 (rg_b rfl : Rg (0) (0) (0 : Int32))
    refine s_br (fun c_3 => ?_) (fun c_3 => ?_)
    · have _ := c_3
      have i_f_4 : Rg (0) (0) (x8) := rg_eq c_3 (rg_b rfl : Rg (0) (0) (0 : Int32))
      exact zX10_ride_124 hF m6 (pmA_s hA rfl) T r_x0 i_x1 i_x2 i_x3 i_x9 (rg_m i_x10 (by decide)) lw
    · have _ := c_3
      have i_f_5 : Rg (1) (1) (x8) := rg_nlo c_3 i_x8 (rg_b rfl : Rg (0) (0) (0 : Int32))
      refine s_br (fun c_6 => ?_) (fun c_6 => ?_)
      · have _ := c_6
        have i_f_7 : Rg (1) (1) (x5) := rg_eq c_6 (rg_b rfl : Rg (1) (1) ((1 : Int32)))
        refine s_q (fun v_1q1 e_8 => ?_)
        have i_v_1q1 : Rg (-7) (8) (v_1q1) := by rw [e_8]; exact (rg_neg i_x10 (by decide) : Rg (-7) (8) (- x10))
        exact zX10_ride_124 hF m6 (pmA_s hA rfl) T r_x0 i_x1 i_x2 i_x3 i_x9 (rg_m i_v_1q1 (by decide)) lw
      · have _ := c_6
        have i_f_9 : Rg (0) (0) (x5) := rg_nhi c_6 i_x5 (rg_b rfl : Rg (1) (1) ((1 : Int32)))
        exact zX10_ride_124 hF m6 (pmA_s hA rfl) T r_x0 i_x1 i_x2 i_x3 i_x9 (rg_m i_x10 (by decide)) lw
  · have _ := c_1
    have i_f_10 : Rg (1) (2) ((x4 &&& (2 : Int32))) := rg_nlo c_1 (rg_and (rg_b rfl : Rg (2) (2) ((2 : Int32))) (by decide) : Rg (0) (2) ((x4 &&& (2 : Int32)))) (rg_b rfl : Rg (0) (0) (0 : Int32))
    refine s_q (fun v_1q2 e_11 => ?_)
    have i_v_1q2 : Rg (-7) (8) (v_1q2) := by rw [e_11]; exact (rg_neg i_x10 (by decide) : Rg (-7) (8) (- x10))
    exact zX10_ride_124 hF m6 (pmA_s hA rfl) T r_x0 i_x1 i_x2 i_x3 i_x9 (rg_m i_v_1q2 (by decide)) lw
set_option maxRecDepth 20000 in
theorem zX10_ride_87 {ρ : Nat → Nat} {c : Cm} {F : Nat} (hF : 700000 ≤ F) (m6 : c.2.1 6 = true) (hA : pmA c [(56, 999)]) {h : Hp} {x0 : Nat} {x1 : Int32} {x2 : Int32} {x3 : Int32} {x4 : Int32} {x5 : Int32} {x8 : Int32} {x9 : Int32} {t0 : Int32} (T : TH ρ c h) (r_x0 : ρ x0 = 11) (i_x1 : Rg (0) (63) (x1)) (i_x2 : Rg (0) (7) (x2)) (i_x3 : Rg (-2147483648) (2147483647) (x3)) (i_x4 : Rg (0) (7) (x4)) (i_x5 : Rg (0) (1) (x5)) (i_x8 : Rg (0) (1) (x8)) (i_x9 : Rg (-8) (7) (x9)) (i_t0 : Rg (-8) (7) (t0)) (lw : (LwR ρ c h)) : Sat (sX10_ride_87 F h x0 x1 x2 x3 x4 x5 x8 x9 t0) (ZJ ρ c) := by
  unfold sX10_ride_87 
  refine s_br (fun c_1 => ?_) (fun c_1 => ?_)
  · have _ := c_1
    have i_f_2 : Rg (0) (0) ((x4 &&& (1 : Int32))) := rg_eq c_1 (rg_b rfl : Rg (0) (0) (0 : Int32))
    exact zX10_ride_101 hF m6 (pmA_s hA rfl) T r_x0 i_x1 i_x2 i_x3 i_x4 i_x5 i_x8 (rg_m i_x9 (by decide)) i_t0 lw
  · have _ := c_1
    have i_f_3 : Rg (1) (1) ((x4 &&& (1 : Int32))) := rg_nlo c_1 (rg_and (rg_b rfl : Rg (1) (1) ((1 : Int32))) (by decide) : Rg (0) (1) ((x4 &&& (1 : Int32)))) (rg_b rfl : Rg (0) (0) (0 : Int32))
    refine s_q (fun v_2 e_4 => ?_)
    have i_v_2 : Rg (-7) (8) (v_2) := by rw [e_4]; exact (rg_neg i_x9 (by decide) : Rg (-7) (8) (- x9))
    exact zX10_ride_101 hF m6 (pmA_s hA rfl) T r_x0 i_x1 i_x2 i_x3 i_x4 i_x5 i_x8 (rg_m i_v_2 (by decide)) i_t0 lw
set_option maxRecDepth 20000 in
theorem zX10_ride_61 {ρ : Nat → Nat} {c : Cm} {F : Nat} (hF : 700000 ≤ F) (m6 : c.2.1 6 = true) (hA : pmA c [(56, 999)]) {h : Hp} {x0 : Nat} {x1 : Int32} {x2 : Int32} {x3 : Int32} {x4 : Int32} {x5 : Int32} {x6 : Int32} {x7 : Int32} {x8 : Int32} {t0 : Int32} (T : TH ρ c h) (r_x0 : ρ x0 = 11) (i_x1 : Rg (0) (63) (x1)) (i_x2 : Rg (0) (7) (x2)) (i_x3 : Rg (-2147483648) (2147483647) (x3)) (i_x4 : Rg (0) (7) (x4)) (i_x5 : Rg (0) (1) (x5)) (i_x6 : Rg (-8) (7) (x6)) (i_x7 : Rg (-8) (7) (x7)) (i_x8 : Rg (0) (1) (x8)) (i_t0 : Rg (-8) (7) (t0)) (lw : (LwR ρ c h)) : Sat (sX10_ride_61 F h x0 x1 x2 x3 x4 x5 x6 x7 x8 t0) (ZJ ρ c) := by
  unfold sX10_ride_61 
  refine s_br (fun c_1 => ?_) (fun c_1 => ?_)
  · have _ := c_1
    have i_f_2 : Rg (0) (0) (x8) := rg_eq c_1 (rg_b rfl : Rg (0) (0) (0 : Int32))
    refine s_br (fun c_3 => ?_) (fun c_3 => ?_)
    · have _ := c_3
      have i_f_4 : Rg (0) (0) ((x4 &&& (4 : Int32))) := rg_eq c_3 (rg_b rfl : Rg (0) (0) (0 : Int32))
      exact zX10_ride_87 hF m6 (pmA_s hA rfl) T r_x0 i_x1 i_x2 i_x3 i_x4 i_x5 (rg_m i_f_2 (by decide)) i_t0 i_x7 lw
    · have _ := c_3
      have i_f_5 : Rg (1) (4) ((x4 &&& (4 : Int32))) := rg_nlo c_3 (rg_and (rg_b rfl : Rg (4) (4) ((4 : Int32))) (by decide) : Rg (0) (4) ((x4 &&& (4 : Int32)))) (rg_b rfl : Rg (0) (0) (0 : Int32))
      exact zX10_ride_87 hF m6 (pmA_s hA rfl) T r_x0 i_x1 i_x2 i_x3 i_x4 i_x5 (rg_m i_f_2 (by decide)) i_t0 i_x6 lw
  · have _ := c_1
    have i_f_6 : Rg (1) (1) (x8) := rg_nlo c_1 i_x8 (rg_b rfl : Rg (0) (0) (0 : Int32))
    exact zX10_ride_87 hF m6 (pmA_s hA rfl) T r_x0 i_x1 i_x2 i_x3 i_x4 i_x5 (rg_m i_f_6 (by decide)) i_t0 i_x7 lw
set_option maxRecDepth 20000 in
theorem zX10_ride_35 {ρ : Nat → Nat} {c : Cm} {F : Nat} (hF : 700000 ≤ F) (m6 : c.2.1 6 = true) (hA : pmA c [(56, 999)]) {h : Hp} {x0 : Nat} {x1 : Int32} {x2 : Int32} {x3 : Int32} {x4 : Int32} {x5 : Int32} {x6 : Int32} {x7 : Int32} {t0 : Int32} (T : TH ρ c h) (r_x0 : ρ x0 = 11) (i_x1 : Rg (0) (63) (x1)) (i_x2 : Rg (0) (7) (x2)) (i_x3 : Rg (-2147483648) (2147483647) (x3)) (i_x4 : Rg (0) (7) (x4)) (i_x5 : Rg (0) (1) (x5)) (i_x6 : Rg (-8) (7) (x6)) (i_x7 : Rg (-8) (7) (x7)) (i_t0 : Rg (0) (1) (t0)) (lw : (LwR ρ c h)) : Sat (sX10_ride_35 F h x0 x1 x2 x3 x4 x5 x6 x7 t0) (ZJ ρ c) := by
  unfold sX10_ride_35 
  refine s_br (fun c_1 => ?_) (fun c_1 => ?_)
  · have _ := c_1
    have i_f_2 : Rg (0) (0) (t0) := rg_eq c_1 (rg_b rfl : Rg (0) (0) (0 : Int32))
    refine s_br (fun c_3 => ?_) (fun c_3 => ?_)
    · have _ := c_3
      have i_f_4 : Rg (0) (0) ((x4 &&& (4 : Int32))) := rg_eq c_3 (rg_b rfl : Rg (0) (0) (0 : Int32))
      exact zX10_ride_61 hF m6 (pmA_s hA rfl) T r_x0 i_x1 i_x2 i_x3 i_x4 i_x5 i_x6 i_x7 (rg_m i_f_2 (by decide)) i_x6 lw
    · have _ := c_3
      have i_f_5 : Rg (1) (4) ((x4 &&& (4 : Int32))) := rg_nlo c_3 (rg_and (rg_b rfl : Rg (4) (4) ((4 : Int32))) (by decide) : Rg (0) (4) ((x4 &&& (4 : Int32)))) (rg_b rfl : Rg (0) (0) (0 : Int32))
      exact zX10_ride_61 hF m6 (pmA_s hA rfl) T r_x0 i_x1 i_x2 i_x3 i_x4 i_x5 i_x6 i_x7 (rg_m i_f_2 (by decide)) i_x7 lw
  · have _ := c_1
    have i_f_6 : Rg (1) (1) (t0) := rg_nlo c_1 i_t0 (rg_b rfl : Rg (0) (0) (0 : Int32))
    exact zX10_ride_61 hF m6 (pmA_s hA rfl) T r_x0 i_x1 i_x2 i_x3 i_x4 i_x5 i_x6 i_x7 (rg_m i_f_6 (by decide)) i_x6 lw
set_option maxRecDepth 20000 in
theorem zX10_ride {ρ : Nat → Nat} {c : Cm} {F : Nat} (hF : 700000 ≤ F) (m6 : c.2.1 6 = true) (hA : pmA c [(56, 999)]) {h : Hp} {x0 : Nat} {x1 : Int32} {x2 : Int32} {x3 : Int32} {x4 : Int32} {x5 : Int32} (T : TH ρ c h) (r_x0 : ρ x0 = 11) (i_x1 : Rg (0) (63) (x1)) (i_x2 : Rg (0) (7) (x2)) (i_x3 : Rg (-2147483648) (2147483647) (x3)) (i_x4 : Rg (0) (7) (x4)) (i_x5 : Rg (0) (1) (x5)) (lw : (LwR ρ c h)) : Sat (sX10_ride F h x0 x1 x2 x3 x4 x5) (ZJ ρ c) := by
  unfold sX10_ride 
  refine s_q (fun v_1 e_1 => ?_)
  have i_v_1 : Rg (-8) (7) (v_1) := by rw [e_1]; exact (rg_sub (rg_and (rg_b rfl : Rg (15) (15) ((15 : Int32))) (by decide) : Rg (0) (15) (((x3 >>> ((6 : Int32) &&& 31)) &&& (15 : Int32)))) (rg_b rfl : Rg (8) (8) ((8 : Int32))) (by decide) : Rg (-8) (7) (((x3 >>> ((6 : Int32) &&& 31)) &&& (15 : Int32)) - (8 : Int32)))
  refine s_q (fun v_2 e_2 => ?_)
  have i_v_2 : Rg (-8) (7) (v_2) := by rw [e_2]; exact (rg_sub (rg_and (rg_b rfl : Rg (15) (15) ((15 : Int32))) (by decide) : Rg (0) (15) (((x3 >>> ((10 : Int32) &&& 31)) &&& (15 : Int32)))) (rg_b rfl : Rg (8) (8) ((8 : Int32))) (by decide) : Rg (-8) (7) (((x3 >>> ((10 : Int32) &&& 31)) &&& (15 : Int32)) - (8 : Int32)))
  refine s_br (fun c_3 => ?_) (fun c_3 => ?_)
  · have _ := c_3
    have i_f_4 : Rg (0) (0) ((x3 &&& (4 : Int32))) := rg_eq c_3 (rg_b rfl : Rg (0) (0) (0 : Int32))
    exact zX10_ride_35 hF m6 (pmA_s hA rfl) T r_x0 i_x1 i_x2 i_x3 i_x4 i_x5 i_v_1 i_v_2 (rg_m (rg_b rfl : Rg (0) (0) ((0 : Int32))) (by decide)) lw
  · have _ := c_3
    have i_f_5 : Rg (1) (4) ((x3 &&& (4 : Int32))) := rg_nlo c_3 (rg_and (rg_b rfl : Rg (4) (4) ((4 : Int32))) (by decide) : Rg (0) (4) ((x3 &&& (4 : Int32)))) (rg_b rfl : Rg (0) (0) (0 : Int32))
    exact zX10_ride_35 hF m6 (pmA_s hA rfl) T r_x0 i_x1 i_x2 i_x3 i_x4 i_x5 i_v_1 i_v_2 (rg_m (rg_b rfl : Rg (1) (1) ((1 : Int32))) (by decide)) lw
set_option maxRecDepth 20000 in
theorem zX10_reach_123 {ρ : Nat → Nat} {c : Cm} {F : Nat} (hF : 700000 ≤ F) (m6 : c.2.1 6 = true) {k_10 : Hp → Nat → Int32 → Int32 → Int32 → Int64 → Int32 → Option (Int64 × Hp)} {C_10 : Int} (hk_10 : ∀ {h : Hp} {x0 : Nat} {x1 : Int32} {x2 : Int32} {x3 : Int32} {x4 : Int64} {x6 : Int32}, TH ρ c h → ρ x0 = 11 → Rg (0) (23) (x1) → Rg (0) (63) (x2) → Rg (0) (11) (x3) → Rg (0) (8) (x6) → (LwR ρ c h) → C_10 < x6.toInt → Sat (k_10 h x0 x1 x2 x3 x4 x6) (ZJ ρ c)) (hA : pmA c [(56, 999)]) : ∀ (f : Nat) {h : Hp} {x0 : Nat} {x1 : Int32} {x2 : Int32} {x3 : Int32} {x4 : Int64} {x6 : Int32} {x7 : Int32} {x10 : Int32} {x11 : Int32}, TH ρ c h → ρ x0 = 11 → Rg (0) (23) (x1) → Rg (0) (63) (x2) → Rg (0) (11) (x3) → Rg (0) (7) (x6) → Rg (-2147483648) (2147483647) (x7) → Rg (1) (8) (x10) → Rg (0) (8) (x11) → C_10 ≤ x6.toInt → (LwR ρ c h) → (8 - x11.toInt).toNat < f → Sat (sX10_reach_123 F k_10 f h x0 x1 x2 x3 x4 x6 x7 x10 x11) (ZJ ρ c) := by
  intro f
  induction f with
  | zero => intros; omega
  | succ f ih =>
    intro h x0 x1 x2 x3 x4 x6 x7 x10 x11 T r_x0 i_x1 i_x2 i_x3 i_x6 i_x7 i_x10 i_x11 hc_10 lw hm
    rw [sX10_reach_123]
    unfold sX10_reach_155
    obtain ⟨C_123, hC_123⟩ : ∃ C : Int, C = x11.toInt := ⟨_, rfl⟩
    have hk_123 : ∀ {h : Hp} {x0 : Nat} {x1 : Int32} {x2 : Int32} {x3 : Int32} {x4 : Int64} {x6 : Int32} {x7 : Int32} {x10 : Int32} {x11 : Int32}, TH ρ c h → ρ x0 = 11 → Rg (0) (23) (x1) → Rg (0) (63) (x2) → Rg (0) (11) (x3) → Rg (0) (7) (x6) → Rg (-2147483648) (2147483647) (x7) → Rg (1) (8) (x10) → Rg (0) (8) (x11) → C_10 ≤ x6.toInt → (LwR ρ c h) → C_123 < x11.toInt → Sat (sX10_reach_123 F k_10 f h x0 x1 x2 x3 x4 x6 x7 x10 x11) (ZJ ρ c) := by
      intro h' x0' x1' x2' x3' x4' x6' x7' x10' x11' T' r_x0' i_x1' i_x2' i_x3' i_x6' i_x7' i_x10' i_x11' hc_10' lw' hl
      exact ih T' r_x0' i_x1' i_x2' i_x3' i_x6' i_x7' i_x10' i_x11' hc_10' lw' (by have := i_x11'.1; have := i_x11'.2; omega)
    have hc_123 : C_123 ≤ x11.toInt := by omega
    refine s_br (fun c_1 => ?_) (fun c_1 => ?_)
    · have _ := c_1
      have i_f_2 : Rg (1) (8) (x11) := rg_le2 c_1 i_x10 i_x11
      refine s_q (fun v_1q1 e_3 => ?_)
      have i_v_1q1 : Rg (1) (8) (v_1q1) := by rw [e_3]; exact (rg_add i_x6 (rg_b rfl : Rg (1) (1) ((1 : Int32))) (by decide) : Rg (1) (8) (x6 + (1 : Int32)))
      have m_4 : (v_1q1).toInt = x6.toInt + 1 := by rw [e_3]; exact rg_inc i_x6 (by decide)
      exact hk_10 T r_x0 i_x1 i_x2 i_x3 (rg_m i_v_1q1 (by decide)) lw (by have := hc_10; omega)
    · have _ := c_1
      have i_f_5 : Rg (0) (7) (x11) := rg_lt1 (nle_lt c_1) i_x11 i_x10
      refine s_cJf (S := fS [(56, 999)] []) T (fs_sub (pmA_s hA rfl) fs_n) (zX10_ride hF (cat_m m6) fs_a (th_in _ T) r_x0 i_x2 i_x6 i_x7 i_f_5 (rg_and (rg_b rfl : Rg (1) (1) ((1 : Int32))) (by decide) : Rg (0) (1) ((x1 &&& (1 : Int32)))) lw) (fun o_2 T_6 f_o_2 => ?_)
      refine s_q (fun v_3 e_7 => ?_)
      refine s_q (fun v_4 e_8 => ?_)
      have i_v_4 : Rg (1) (8) (v_4) := by rw [e_8]; exact (rg_add i_f_5 (rg_b rfl : Rg (1) (1) ((1 : Int32))) (by decide) : Rg (1) (8) (x11 + (1 : Int32)))
      have pf_9 : LwR ρ c o_2.2 := (lw_fr T  f_o_2 (fun _ => rfl) (fun _ => rfl) (fun _ => rfl) lw)
      have m_10 : (v_4).toInt = x11.toInt + 1 := by rw [e_8]; exact rg_inc i_f_5 (by decide)
      exact hk_123 T_6 r_x0 i_x1 i_x2 i_x3 i_x6 i_x7 i_x10 (rg_m i_v_4 (by decide)) hc_10 pf_9 (by have := hc_123; omega)
set_option maxRecDepth 20000 in
theorem zX10_reach_105 {ρ : Nat → Nat} {c : Cm} {F : Nat} (hF : 700000 ≤ F) (m6 : c.2.1 6 = true) {k_10 : Hp → Nat → Int32 → Int32 → Int32 → Int64 → Int32 → Option (Int64 × Hp)} {C_10 : Int} (hk_10 : ∀ {h : Hp} {x0 : Nat} {x1 : Int32} {x2 : Int32} {x3 : Int32} {x4 : Int64} {x6 : Int32}, TH ρ c h → ρ x0 = 11 → Rg (0) (23) (x1) → Rg (0) (63) (x2) → Rg (0) (11) (x3) → Rg (0) (8) (x6) → (LwR ρ c h) → C_10 < x6.toInt → Sat (k_10 h x0 x1 x2 x3 x4 x6) (ZJ ρ c)) (hA : pmA c [(56, 999)]) {h : Hp} {x0 : Nat} {x1 : Int32} {x2 : Int32} {x3 : Int32} {x4 : Int64} {x6 : Int32} {x7 : Int32} (T : TH ρ c h) (r_x0 : ρ x0 = 11) (i_x1 : Rg (0) (23) (x1)) (i_x2 : Rg (0) (63) (x2)) (i_x3 : Rg (0) (11) (x3)) (i_x6 : Rg (0) (7) (x6)) (i_x7 : Rg (-2147483648) (2147483647) (x7)) (hc_10 : C_10 ≤ x6.toInt) (lw : (LwR ρ c h)) : Sat (sX10_reach_105 F k_10 h x0 x1 x2 x3 x4 x6 x7) (ZJ ρ c) := by
  unfold sX10_reach_105 sX10_reach_118
  refine s_br (fun c_1 => ?_) (fun c_1 => ?_)
  · have _ := c_1
    have i_f_2 : Rg (0) (0) ((x7 &&& (4 : Int32))) := rg_eq c_1 (rg_b rfl : Rg (0) (0) (0 : Int32))
    have m_3 : Rg (0) (8) ((0 : Int32)) := (rg_m (rg_b rfl : Rg (0) (0) ((0 : Int32))) (by decide))
    exact zX10_reach_123 hF m6 @hk_10 (pmA_s hA rfl) F T r_x0 i_x1 i_x2 i_x3 i_x6 i_x7 (rg_m (rg_b rfl : Rg (8) (8) ((8 : Int32))) (by decide)) (rg_m (rg_b rfl : Rg (0) (0) ((0 : Int32))) (by decide)) hc_10 lw (by have := m_3.1; have := m_3.2; omega)
  · have _ := c_1
    have i_f_4 : Rg (1) (4) ((x7 &&& (4 : Int32))) := rg_nlo c_1 (rg_and (rg_b rfl : Rg (4) (4) ((4 : Int32))) (by decide) : Rg (0) (4) ((x7 &&& (4 : Int32)))) (rg_b rfl : Rg (0) (0) (0 : Int32))
    have m_5 : Rg (0) (8) ((0 : Int32)) := (rg_m (rg_b rfl : Rg (0) (0) ((0 : Int32))) (by decide))
    exact zX10_reach_123 hF m6 @hk_10 (pmA_s hA rfl) F T r_x0 i_x1 i_x2 i_x3 i_x6 i_x7 (rg_m (rg_b rfl : Rg (1) (1) ((1 : Int32))) (by decide)) (rg_m (rg_b rfl : Rg (0) (0) ((0 : Int32))) (by decide)) hc_10 lw (by have := m_5.1; have := m_5.2; omega)
set_option maxRecDepth 20000 in
theorem zX10_reach_88 {ρ : Nat → Nat} {c : Cm} {F : Nat} (hF : 700000 ≤ F) (m6 : c.2.1 6 = true) {k_10 : Hp → Nat → Int32 → Int32 → Int32 → Int64 → Int32 → Option (Int64 × Hp)} {C_10 : Int} (hk_10 : ∀ {h : Hp} {x0 : Nat} {x1 : Int32} {x2 : Int32} {x3 : Int32} {x4 : Int64} {x6 : Int32}, TH ρ c h → ρ x0 = 11 → Rg (0) (23) (x1) → Rg (0) (63) (x2) → Rg (0) (11) (x3) → Rg (0) (8) (x6) → (LwR ρ c h) → C_10 < x6.toInt → Sat (k_10 h x0 x1 x2 x3 x4 x6) (ZJ ρ c)) (hA : pmA c [(56, 999)]) {h : Hp} {x0 : Nat} {x1 : Int32} {x2 : Int32} {x3 : Int32} {x4 : Int64} {x6 : Int32} {x7 : Int32} {x8 : Int32} {t0 : Int32} (T : TH ρ c h) (r_x0 : ρ x0 = 11) (i_x1 : Rg (0) (23) (x1)) (i_x2 : Rg (0) (63) (x2)) (i_x3 : Rg (0) (11) (x3)) (i_x6 : Rg (0) (7) (x6)) (i_x7 : Rg (-2147483648) (2147483647) (x7)) (i_x8 : Rg (0) (15) (x8)) (i_t0 : Rg (-7) (8) (t0)) (hc_10 : C_10 ≤ x6.toInt) (lw : (LwR ρ c h)) : Sat (sX10_reach_88 F k_10 h x0 x1 x2 x3 x4 x6 x7 x8 t0) (ZJ ρ c) := by
  unfold sX10_reach_88 sX10_reach_155
  refine s_br (fun c_1 => ?_) (fun c_1 => ?_)
  · have _ := c_1
    have i_f_2 : Rg (0) (0) (x8) := rg_eq c_1 (rg_b rfl : Rg (0) (0) (0 : Int32))
    exact zX10_reach_105 hF m6 @hk_10 (pmA_s hA rfl) T r_x0 i_x1 i_x2 i_x3 i_x6 i_x7 hc_10 lw
  · have _ := c_1
    have i_f_3 : Rg (1) (15) (x8) := rg_nlo c_1 i_x8 (rg_b rfl : Rg (0) (0) (0 : Int32))
    refine s_br (fun c_4 => ?_) (fun c_4 => ?_)
    · have _ := c_4
      exact zX10_reach_105 hF m6 @hk_10 (pmA_s hA rfl) T r_x0 i_x1 i_x2 i_x3 i_x6 i_x7 hc_10 lw
    · have _ := c_4
      refine s_q (fun v_1q1 e_5 => ?_)
      have i_v_1q1 : Rg (1) (8) (v_1q1) := by rw [e_5]; exact (rg_add i_x6 (rg_b rfl : Rg (1) (1) ((1 : Int32))) (by decide) : Rg (1) (8) (x6 + (1 : Int32)))
      have m_6 : (v_1q1).toInt = x6.toInt + 1 := by rw [e_5]; exact rg_inc i_x6 (by decide)
      exact hk_10 T r_x0 i_x1 i_x2 i_x3 (rg_m i_v_1q1 (by decide)) lw (by have := hc_10; omega)
set_option maxRecDepth 20000 in
theorem zX10_reach_10 {ρ : Nat → Nat} {c : Cm} {F : Nat} (hF : 700000 ≤ F) (m6 : c.2.1 6 = true) (hA : pmA c [(56, 999)]) : ∀ (f : Nat) {h : Hp} {x0 : Nat} {x1 : Int32} {x2 : Int32} {x3 : Int32} {x4 : Int64} {x6 : Int32}, TH ρ c h → ρ x0 = 11 → Rg (0) (23) (x1) → Rg (0) (63) (x2) → Rg (0) (11) (x3) → Rg (0) (8) (x6) → (LwR ρ c h) → (8 - x6.toInt).toNat < f → Sat (sX10_reach_10 F f h x0 x1 x2 x3 x4 x6) (ZJ ρ c) := by
  intro f
  induction f with
  | zero => intros; omega
  | succ f ih =>
    intro h x0 x1 x2 x3 x4 x6 T r_x0 i_x1 i_x2 i_x3 i_x6 lw hm
    rw [sX10_reach_10]
    obtain ⟨C_10, hC_10⟩ : ∃ C : Int, C = x6.toInt := ⟨_, rfl⟩
    have hk_10 : ∀ {h : Hp} {x0 : Nat} {x1 : Int32} {x2 : Int32} {x3 : Int32} {x4 : Int64} {x6 : Int32}, TH ρ c h → ρ x0 = 11 → Rg (0) (23) (x1) → Rg (0) (63) (x2) → Rg (0) (11) (x3) → Rg (0) (8) (x6) → (LwR ρ c h) → C_10 < x6.toInt → Sat (sX10_reach_10 F f h x0 x1 x2 x3 x4 x6) (ZJ ρ c) := by
      intro h' x0' x1' x2' x3' x4' x6' T' r_x0' i_x1' i_x2' i_x3' i_x6' lw' hl
      exact ih T' r_x0' i_x1' i_x2' i_x3' i_x6' lw' (by have := i_x6'.1; have := i_x6'.2; omega)
    have hc_10 : C_10 ≤ x6.toInt := by omega
    obtain ⟨r_1, e_r_1, q_r_1⟩ := thM T r_x0 (k := 11) (i := 7) (j := 6) (k2 := 2) rfl (by decide) rfl (by decide) m6
    refine s_ref e_r_1 ?_
    obtain ⟨r_2, e_r_2, q_r_2⟩ := thR T q_r_1 (k := 2) (i := 16) (k2 := 29) rfl (by decide)
    refine s_ref e_r_2 ?_
    refine s_gd (by rw [thN T q_r_2 (k := 29) (n := 12) rfl (by decide)]; exact rg_inB (i_x3 : Rg (0) (11) (x3)) (by decide)) ?_
    refine s_br (fun c_1 => ?_) (fun c_1 => ?_)
    · have _ := c_1
      exact s_some (T)
    · have _ := c_1
      have i_f_2 : Rg (0) (7) (x6) := rg_lt1 (nle_lt c_1) i_x6 (thI T q_r_2 (k := 29) rfl : Rg (0) (8) ((hI h r_2 x3.toNatClampNeg)))
      have i_f_3 : Rg (1) (8) ((hI h r_2 x3.toNatClampNeg)) := rg_lt2 (nle_lt c_1) i_x6 (thI T q_r_2 (k := 29) rfl : Rg (0) (8) ((hI h r_2 x3.toNatClampNeg)))
      refine s_ref e_r_1 ?_
      obtain ⟨r_6, e_r_6, q_r_6⟩ := thR T q_r_1 (k := 2) (i := 15) (k2 := 28) rfl (by decide)
      refine s_ref e_r_6 ?_
      refine s_gd (by rw [thN T q_r_6 (k := 28) (n := 96) rfl (by decide)]; exact rg_inB ((rg_add (rg_mulc i_x3 (rg_b rfl : Rg (8) (8) ((8 : Int32))) (by decide) : Rg (0) (88) ((x3 * (8 : Int32)))) i_f_2 (by decide) : Rg (0) (95) (((x3 * (8 : Int32)) + x6))) : Rg (0) (95) (((x3 * (8 : Int32)) + x6))) (by decide)) ?_
      refine s_q (fun v_8 e_4 => ?_)
      have i_v_8 : Rg (-2147483648) (2147483647) (v_8) := by rw [e_4]; exact (thI T q_r_6 (k := 28) rfl : Rg (-2147483648) (2147483647) (hI h r_6 ((x3 * (8 : Int32)) + x6).toNatClampNeg))
      refine s_q (fun v_9 e_5 => ?_)
      have i_v_9 : Rg (0) (15) (v_9) := by rw [e_5]; exact (rg_and (rg_b rfl : Rg (15) (15) ((15 : Int32))) (by decide) : Rg (0) (15) ((v_8 >>> ((17 : Int32) &&& 31)) &&& (15 : Int32)))
      refine s_br (fun c_6 => ?_) (fun c_6 => ?_)
      · have _ := c_6
        have i_f_7 : Rg (0) (0) ((x1 &&& (1 : Int32))) := rg_eq c_6 (rg_b rfl : Rg (0) (0) (0 : Int32))
        refine s_ref e_r_1 ?_
        obtain ⟨r_16, e_r_16, q_r_16⟩ := thR T q_r_1 (k := 2) (i := 20) (k2 := 33) rfl (by decide)
        refine s_ref e_r_16 ?_
        refine s_gd (by rw [thN T q_r_16 (k := 33) (n := 64) rfl (by decide)]; exact rg_inB (i_x2 : Rg (0) (63) (x2)) (by decide)) ?_
        exact zX10_reach_88 hF m6 @hk_10 (pmA_s hA rfl) T r_x0 i_x1 i_x2 i_x3 i_f_2 i_v_8 i_v_9 (rg_m (rg_add (thI T q_r_16 (k := 33) rfl : Rg (0) (7) ((hI h r_16 x2.toNatClampNeg))) (rg_b rfl : Rg (1) (1) ((1 : Int32))) (by decide) : Rg (1) (8) (((hI h r_16 x2.toNatClampNeg) + (1 : Int32)))) (by decide)) hc_10 lw
      · have _ := c_6
        have i_f_8 : Rg (1) (1) ((x1 &&& (1 : Int32))) := rg_nlo c_6 (rg_and (rg_b rfl : Rg (1) (1) ((1 : Int32))) (by decide) : Rg (0) (1) ((x1 &&& (1 : Int32)))) (rg_b rfl : Rg (0) (0) (0 : Int32))
        refine s_ref e_r_1 ?_
        refine s_ref e_r_1 ?_
        obtain ⟨r_13, e_r_13, q_r_13⟩ := thR T q_r_1 (k := 2) (i := 20) (k2 := 33) rfl (by decide)
        refine s_ref e_r_13 ?_
        refine s_gd (by rw [thN T q_r_13 (k := 33) (n := 64) rfl (by decide)]; exact rg_inB (i_x2 : Rg (0) (63) (x2)) (by decide)) ?_
        exact zX10_reach_88 hF m6 @hk_10 (pmA_s hA rfl) T r_x0 i_x1 i_x2 i_x3 i_f_2 i_v_8 i_v_9 (rg_sub (thI T q_r_1 (k := 2) (i := 1) rfl : Rg (0) (8) ((hI h r_1 1))) (thI T q_r_13 (k := 33) rfl : Rg (0) (7) ((hI h r_13 x2.toNatClampNeg))) (by decide) : Rg (-7) (8) (((hI h r_1 1) - (hI h r_13 x2.toNatClampNeg)))) hc_10 lw
set_option maxRecDepth 20000 in
theorem zX10_reach {ρ : Nat → Nat} {c : Cm} {F : Nat} (hF : 700000 ≤ F) (m6 : c.2.1 6 = true) (hA : pmA c [(56, 999)]) {h : Hp} {x0 : Nat} {x1 : Int32} {x2 : Int32} (T : TH ρ c h) (r_x0 : ρ x0 = 11) (i_x1 : Rg (0) (23) (x1)) (i_x2 : Rg (0) (63) (x2)) (lw : (LwR ρ c h)) : Sat (sX10_reach F h x0 x1 x2) (ZJ ρ c) := by
  unfold sX10_reach 
  refine s_q (fun v_1 e_1 => ?_)
  have i_v_1 : Rg (0) (11) (v_1) := by rw [e_1]; exact (rg_shrk 1 (by decide) i_x1 (by decide) : Rg (0) (11) (x1 >>> ((1 : Int32) &&& 31)))
  have m_2 : Rg (0) (8) ((0 : Int32)) := (rg_m (rg_b rfl : Rg (0) (0) ((0 : Int32))) (by decide))
  exact zX10_reach_10 hF m6 (pmA_s hA rfl) F T r_x0 i_x1 i_x2 i_v_1 (rg_m (rg_b rfl : Rg (0) (0) ((0 : Int32))) (by decide)) lw (by have := m_2.1; have := m_2.2; omega)
set_option maxRecDepth 20000 in
theorem zX10_layFrom_70 {ρ : Nat → Nat} {c : Cm} {F : Nat} (hF : 700000 ≤ F) (m6 : c.2.1 6 = true) {k_30 : Hp → Nat → Int32 → Int32 → Int64 → Int32 → Int32 → Option (Hp)} {C_30 : Int} (hk_30 : ∀ {h : Hp} {x0 : Nat} {x1 : Int32} {x2 : Int32} {x3 : Int64} {x5 : Int32} {x6 : Int32}, TH ρ c h → ρ x0 = 11 → Rg (0) (23) (x1) → Rg (0) (63) (x2) → Rg (0) (11) (x5) → Rg (0) (64) (x6) → (LwR ρ c h) → C_30 < x6.toInt → Sat (k_30 h x0 x1 x2 x3 x5 x6) (ZV ρ c)) (hA : pmA c [(51, 999), (52, 999), (53, 999), (54, 999), (56, 999), (11, 8)]) : ∀ (f : Nat) {h : Hp} {x0 : Nat} {x1 : Int32} {x2 : Int32} {x3 : Int64} {x5 : Int32} {x6 : Int32} {x7 : Int32}, TH ρ c h → ρ x0 = 11 → Rg (0) (23) (x1) → Rg (0) (63) (x2) → Rg (0) (11) (x5) → Rg (0) (63) (x6) → Rg (0) (8) (x7) → C_30 ≤ x6.toInt → (LwR ρ c h) → (8 - x7.toInt).toNat < f → Sat (sX10_layFrom_70 F k_30 f h x0 x1 x2 x3 x5 x6 x7) (ZV ρ c) := by
  intro f
  induction f with
  | zero => intros; omega
  | succ f ih =>
    intro h x0 x1 x2 x3 x5 x6 x7 T r_x0 i_x1 i_x2 i_x5 i_x6 i_x7 hc_30 lw hm
    rw [sX10_layFrom_70]
    unfold sX10_layFrom_154 sX10_layFrom_148
    obtain ⟨C_70, hC_70⟩ : ∃ C : Int, C = x7.toInt := ⟨_, rfl⟩
    have hk_70 : ∀ {h : Hp} {x0 : Nat} {x1 : Int32} {x2 : Int32} {x3 : Int64} {x5 : Int32} {x6 : Int32} {x7 : Int32}, TH ρ c h → ρ x0 = 11 → Rg (0) (23) (x1) → Rg (0) (63) (x2) → Rg (0) (11) (x5) → Rg (0) (63) (x6) → Rg (0) (8) (x7) → C_30 ≤ x6.toInt → (LwR ρ c h) → C_70 < x7.toInt → Sat (sX10_layFrom_70 F k_30 f h x0 x1 x2 x3 x5 x6 x7) (ZV ρ c) := by
      intro h' x0' x1' x2' x3' x5' x6' x7' T' r_x0' i_x1' i_x2' i_x5' i_x6' i_x7' hc_30' lw' hl
      exact ih T' r_x0' i_x1' i_x2' i_x5' i_x6' i_x7' hc_30' lw' (by have := i_x7'.1; have := i_x7'.2; omega)
    have hc_70 : C_70 ≤ x7.toInt := by omega
    obtain ⟨r_1, e_r_1, q_r_1⟩ := thM T r_x0 (k := 11) (i := 7) (j := 6) (k2 := 2) rfl (by decide) rfl (by decide) m6
    refine s_ref e_r_1 ?_
    obtain ⟨r_2, e_r_2, q_r_2⟩ := thR T q_r_1 (k := 2) (i := 16) (k2 := 29) rfl (by decide)
    refine s_ref e_r_2 ?_
    refine s_gd (by rw [thN T q_r_2 (k := 29) (n := 12) rfl (by decide)]; exact rg_inB (i_x5 : Rg (0) (11) (x5)) (by decide)) ?_
    refine s_br (fun c_1 => ?_) (fun c_1 => ?_)
    · have _ := c_1
      refine s_q (fun v_1q1 e_2 => ?_)
      have i_v_1q1 : Rg (1) (64) (v_1q1) := by rw [e_2]; exact (rg_add i_x6 (rg_b rfl : Rg (1) (1) ((1 : Int32))) (by decide) : Rg (1) (64) (x6 + (1 : Int32)))
      have m_3 : (v_1q1).toInt = x6.toInt + 1 := by rw [e_2]; exact rg_inc i_x6 (by decide)
      exact hk_30 T r_x0 i_x1 i_x2 i_x5 (rg_m i_v_1q1 (by decide)) lw (by have := hc_30; omega)
    · have _ := c_1
      have i_f_4 : Rg (0) (7) (x7) := rg_lt1 (nle_lt c_1) i_x7 (thI T q_r_2 (k := 29) rfl : Rg (0) (8) ((hI h r_2 x5.toNatClampNeg)))
      have i_f_5 : Rg (1) (8) ((hI h r_2 x5.toNatClampNeg)) := rg_lt2 (nle_lt c_1) i_x7 (thI T q_r_2 (k := 29) rfl : Rg (0) (8) ((hI h r_2 x5.toNatClampNeg)))
      obtain ⟨r_5, e_r_5, q_r_5⟩ := thR T r_x0 (k := 11) (i := 6) (k2 := 56) rfl (by decide)
      refine s_ref e_r_5 ?_
      refine s_gd (by rw [thN T q_r_5 (k := 56) (n := 512) rfl (by decide)]; exact rg_inB ((rg_add (rg_mulc i_x6 (rg_b rfl : Rg (8) (8) ((8 : Int32))) (by decide) : Rg (0) (504) ((x6 * (8 : Int32)))) i_f_4 (by decide) : Rg (0) (511) (((x6 * (8 : Int32)) + x7))) : Rg (0) (511) (((x6 * (8 : Int32)) + x7))) (by decide)) ?_
      refine s_q (fun v_7 e_6 => ?_)
      have i_v_7 : Rg (0) (7) (v_7) := by rw [e_6]; exact (thI T q_r_5 (k := 56) rfl : Rg (0) (7) (hI h r_5 ((x6 * (8 : Int32)) + x7).toNatClampNeg))
      refine s_br (fun c_7 => ?_) (fun c_7 => ?_)
      · have _ := c_7
        have i_f_8 : Rg (0) (0) (v_7) := rg_le1 c_7 i_v_7 (rg_b rfl : Rg (0) (0) (0 : Int32))
        refine s_q (fun v_1q2 e_9 => ?_)
        have i_v_1q2 : Rg (1) (8) (v_1q2) := by rw [e_9]; exact (rg_add i_f_4 (rg_b rfl : Rg (1) (1) ((1 : Int32))) (by decide) : Rg (1) (8) (x7 + (1 : Int32)))
        have m_10 : (v_1q2).toInt = x7.toInt + 1 := by rw [e_9]; exact rg_inc i_f_4 (by decide)
        exact hk_70 T r_x0 i_x1 i_x2 i_x5 i_x6 (rg_m i_v_1q2 (by decide)) hc_30 lw (by have := hc_70; omega)
      · have _ := c_7
        have i_f_11 : Rg (1) (7) (v_7) := rg_lt2 (nle_lt c_7) (rg_b rfl : Rg (0) (0) (0 : Int32)) i_v_7
        refine s_ref e_r_1 ?_
        obtain ⟨r_10, e_r_10, q_r_10⟩ := thR T q_r_1 (k := 2) (i := 15) (k2 := 28) rfl (by decide)
        refine s_ref e_r_10 ?_
        refine s_gd (by rw [thN T q_r_10 (k := 28) (n := 96) rfl (by decide)]; exact rg_inB ((rg_add (rg_mulc i_x5 (rg_b rfl : Rg (8) (8) ((8 : Int32))) (by decide) : Rg (0) (88) ((x5 * (8 : Int32)))) i_f_4 (by decide) : Rg (0) (95) (((x5 * (8 : Int32)) + x7))) : Rg (0) (95) (((x5 * (8 : Int32)) + x7))) (by decide)) ?_
        refine s_cVf (S := fS [(51, 999), (52, 999), (53, 999), (54, 999), (11, 8)] []) T (fs_sub (pmA_s hA rfl) fs_n) (zX10_addWay hF fs_a (th_in _ T) r_x0 i_x1 i_x2 i_x6 (rg_and (rg_b rfl : Rg (63) (63) ((63 : Int32))) (by decide) : Rg (0) (63) (((hI h r_10 ((x5 * (8 : Int32)) + x7).toNatClampNeg) &&& (63 : Int32)))) i_f_11 (sq_times T q_r_5 i_x6 i_f_4 (by rw [← e_6]; exact c_7))) (fun o_12 T_12 f_o_12 => ?_)
        refine s_ref (hr_q (fr_R f_o_12 r_x0 (by decide) rfl rfl) e_r_5) ?_
        refine s_gd (by rw [thN T_12 q_r_5 (k := 56) (n := 512) rfl (by decide)]; exact rg_inB ((rg_add (rg_mulc i_x6 (rg_b rfl : Rg (8) (8) ((8 : Int32))) (by decide) : Rg (0) (504) ((x6 * (8 : Int32)))) i_f_4 (by decide) : Rg (0) (511) (((x6 * (8 : Int32)) + x7))) : Rg (0) (511) (((x6 * (8 : Int32)) + x7))) (by decide)) ?_
        refine s_hq (th_wI T_12 q_r_5 (k := 56) (lo := (0)) (hi := (7)) rfl ((rg_m (rg_b rfl : Rg (0) (0) ((0 : Int32))) (by decide)) : Rg (0) (7) ((0 : Int32))) (by decide) (by decide) (pm_a hA rfl) rpT0) (fun h_15 T_13 w_14 => ?_)
        refine s_q (fun v_1q3 e_15 => ?_)
        have i_v_1q3 : Rg (1) (8) (v_1q3) := by rw [e_15]; exact (rg_add i_f_4 (rg_b rfl : Rg (1) (1) ((1 : Int32))) (by decide) : Rg (1) (8) (x7 + (1 : Int32)))
        have pf_16 : LwR ρ c h_15 := (lw_fr T_12  (fr1I (A := [(56, 999)]) q_r_5 rfl w_14) (fun _ => rfl) (fun _ => rfl) (fun _ => rfl) (lw_fr T  f_o_12 (fun _ => rfl) (fun _ => rfl) (fun _ => rfl) lw))
        have m_17 : (v_1q3).toInt = x7.toInt + 1 := by rw [e_15]; exact rg_inc i_f_4 (by decide)
        exact hk_70 T_13 r_x0 i_x1 i_x2 i_x5 i_x6 (rg_m i_v_1q3 (by decide)) hc_30 pf_16 (by have := hc_70; omega)
set_option maxRecDepth 20000 in
theorem zX10_layFrom_30 {ρ : Nat → Nat} {c : Cm} {F : Nat} (hF : 700000 ≤ F) (m6 : c.2.1 6 = true) (hA : pmA c [(50, 999), (51, 999), (52, 999), (53, 999), (54, 999), (56, 999), (11, 8)]) : ∀ (f : Nat) {h : Hp} {x0 : Nat} {x1 : Int32} {x2 : Int32} {x3 : Int64} {x5 : Int32} {x6 : Int32}, TH ρ c h → ρ x0 = 11 → Rg (0) (23) (x1) → Rg (0) (63) (x2) → Rg (0) (11) (x5) → Rg (0) (64) (x6) → (LwR ρ c h) → (64 - x6.toInt).toNat < f → Sat (sX10_layFrom_30 F f h x0 x1 x2 x3 x5 x6) (ZV ρ c) := by
  intro f
  induction f with
  | zero => intros; omega
  | succ f ih =>
    intro h x0 x1 x2 x3 x5 x6 T r_x0 i_x1 i_x2 i_x5 i_x6 lw hm
    rw [sX10_layFrom_30]
    unfold sX10_cell sX10_layFrom_154
    obtain ⟨C_30, hC_30⟩ : ∃ C : Int, C = x6.toInt := ⟨_, rfl⟩
    have hk_30 : ∀ {h : Hp} {x0 : Nat} {x1 : Int32} {x2 : Int32} {x3 : Int64} {x5 : Int32} {x6 : Int32}, TH ρ c h → ρ x0 = 11 → Rg (0) (23) (x1) → Rg (0) (63) (x2) → Rg (0) (11) (x5) → Rg (0) (64) (x6) → (LwR ρ c h) → C_30 < x6.toInt → Sat (sX10_layFrom_30 F f h x0 x1 x2 x3 x5 x6) (ZV ρ c) := by
      intro h' x0' x1' x2' x3' x5' x6' T' r_x0' i_x1' i_x2' i_x5' i_x6' lw' hl
      exact ih T' r_x0' i_x1' i_x2' i_x5' i_x6' lw' (by have := i_x6'.1; have := i_x6'.2; omega)
    have hc_30 : C_30 ≤ x6.toInt := by omega
    refine s_br (fun c_1 => ?_) (fun c_1 => ?_)
    · have _ := c_1
      have i_f_2 : Rg (64) (64) (x6) := rg_le2 c_1 (rg_b rfl : Rg (64) (64) ((64 : Int32))) i_x6
      exact s_some (T)
    · have _ := c_1
      have i_f_3 : Rg (0) (63) (x6) := rg_lt1 (nle_lt c_1) i_x6 (rg_b rfl : Rg (64) (64) ((64 : Int32)))
      obtain ⟨r_2, e_r_2, q_r_2⟩ := thR T r_x0 (k := 11) (i := 0) (k2 := 50) rfl (by decide)
      refine s_ref e_r_2 ?_
      refine s_pu (fun o_3z e_4 => ?_)
      try dsimp only
      have i_o_3z : Rg (0) (98303) (o_3z) := by rw [e_4]; exact (rg_add (rg_mulc (rg_add (rg_mulc i_x1 (rg_b rfl : Rg (64) (64) ((64 : Int32))) (by decide) : Rg (0) (1472) ((x1 * (64 : Int32)))) i_x2 (by decide) : Rg (0) (1535) (((x1 * (64 : Int32)) + x2))) (rg_b rfl : Rg (64) (64) ((64 : Int32))) (by decide) : Rg (0) (98240) ((((x1 * (64 : Int32)) + x2) * (64 : Int32)))) i_f_3 (by decide) : Rg (0) (98303) ((((x1 * (64 : Int32)) + x2) * (64 : Int32)) + x6))
      refine s_gd (by rw [thN T q_r_2 (k := 50) (n := 98305) rfl (by decide)]; exact rg_inB ((rg_m i_o_3z (by decide)) : Rg (0) (98304) (o_3z)) (by decide)) ?_
      refine s_hq (th_wI T q_r_2 (k := 50) (lo := (0)) (hi := (172032)) rfl ((thI T r_x0 (k := 11) (i := 8) rfl : Rg (0) (172032) ((hI h x0 8))) : Rg (0) (172032) ((hI h x0 8))) (by decide) (by decide) (pm_a hA rfl)) (fun h_5 T_5 w_6 => ?_)
      refine s_br (fun c_7 => ?_) (fun c_7 => ?_)
      · have _ := c_7
        refine s_q (fun v_1q1 e_8 => ?_)
        have i_v_1q1 : Rg (1) (64) (v_1q1) := by rw [e_8]; exact (rg_add i_f_3 (rg_b rfl : Rg (1) (1) ((1 : Int32))) (by decide) : Rg (1) (64) (x6 + (1 : Int32)))
        have pf_9 : LwR ρ c h_5 := (lw_fr T  (fr1I (A := [(50, 999)]) q_r_2 rfl w_6) (fun _ => rfl) (fun _ => rfl) (fun _ => rfl) lw)
        have m_10 : (v_1q1).toInt = x6.toInt + 1 := by rw [e_8]; exact rg_inc i_f_3 (by decide)
        exact hk_30 T_5 r_x0 i_x1 i_x2 i_x5 (rg_m i_v_1q1 (by decide)) pf_9 (by have := hc_30; omega)
      · have _ := c_7
        have pf_11 : LwR ρ c h_5 := (lw_fr T  (fr1I (A := [(50, 999)]) q_r_2 rfl w_6) (fun _ => rfl) (fun _ => rfl) (fun _ => rfl) lw)
        have m_12 : Rg (0) (8) ((0 : Int32)) := (rg_m (rg_b rfl : Rg (0) (0) ((0 : Int32))) (by decide))
        exact zX10_layFrom_70 hF m6 @hk_30 (pmA_s hA rfl) F T_5 r_x0 i_x1 i_x2 i_x5 i_f_3 (rg_m (rg_b rfl : Rg (0) (0) ((0 : Int32))) (by decide)) hc_30 pf_11 (by have := m_12.1; have := m_12.2; omega)
