set_option maxRecDepth 20000 in
theorem zX15_tryCastling {ρ : Nat → Nat} {c : Cm} {F : Nat} {w_x1 w_x4 : Nat} (hF : 700000 ≤ F) (hA : pmA c [(16, 23), (16, 24)]) (hO_x4 : pmO c w_x4 [(66, 999), (67, 999), (68, 999), (69, 999), (70, 999), (71, 999), (72, 999), (14, 0)]) {h : Hp} {x0 : Nat} {x1 : Nat} {x2 : Int32} {x3 : Int32} {x4 : Nat} (o_x1 : cw c x1 = w_x1) (o_x4 : cw c x4 = w_x4) (T : TH ρ c h) (r_x0 : ρ x0 = 16) (r_x1 : ρ x1 = 13) (i_x2 : Rg (0) (63) (x2)) (i_x3 : Rg (0) (63) (x3)) (r_x4 : ρ x4 = 14) (pm : ((hI h x4 0).toInt ≤ 2999)) (ro : (RoyOk x0 h)) (mv : (MvB x0 x1 x4 h)) (cp : (CaP x0 x1 x2 x3 h)) : Sat (sX15_tryCastling F h x0 x1 x2 x3 x4) (ZQ (ZV ρ c) (fun o => ((hI o x4 0).toInt = ((hI h x4 0).toInt) ∨ ((hI o x4 0).toInt = ((hI h x4 0).toInt) + 1 ∧ ((x3.toInt) = (x2.toInt) + 2 ∨ (x3.toInt) = (x2.toInt) - 2))) ∧ (MvB x0 x1 x4 o))) := by
  unfold sX15_tryCastling sX15_tryCastling_36 sX15_tryCastling_25
  refine s_gd (rg_ne0 (thI T r_x0 (k := 16) (i := 11) rfl : Rg (3) (8) ((hI h x0 11))) (by decide)) ?_
  refine s_gd (rg_ne0 (thI T r_x0 (k := 16) (i := 11) rfl : Rg (3) (8) ((hI h x0 11))) (by decide)) ?_
  refine s_br (fun c_1 => ?_) (fun c_1 => ?_)
  · have _ := c_1
    refine s_br (fun c_2 => ?_) (fun c_2 => ?_)
    · have _ := c_2
      have i_f_3 : Rg (2) (2) ((if 0 ≤ (x3 - x2) then (x3 - x2) else 0 - (x3 - x2))) := rg_eq c_2 (rg_b rfl : Rg (2) (2) ((2 : Int32)))
      refine s_br (fun c_4 => ?_) (fun c_4 => ?_)
      · have _ := c_4
        refine s_q (fun v_1q1 e_5 => ?_)
        have i_v_1q1 : Rg (-3) (60) (v_1q1) := by rw [e_5]; exact (rg_add i_x2 (rg_mulc' (rg_b rfl : Rg (3) (3) ((3 : Int32))) (rg_b rfl : Rg (-1) (-1) ((- 1 : Int32))) (by decide) : Rg (-3) (-3) (((3 : Int32) * (- 1 : Int32)))) (by decide) : Rg (-3) (60) (x2 + ((3 : Int32) * (- 1 : Int32))))
        exact zX15_tryCastling_46 hF (pmA_s hA rfl) (pmO_s hO_x4 rfl) F o_x1 o_x4 T r_x0 r_x1 i_x2 i_x3 r_x4 (rg_m (rg_b rfl : Rg (-1) (-1) ((- 1 : Int32))) (by decide)) (rg_m i_v_1q1 (by decide)) (show (((- 1 : Int32)).toInt = 1 ∧ (x2).toInt + 3 ≤ (v_1q1).toInt ∧ (x3).toInt = (x2).toInt + 2) ∨ (((- 1 : Int32)).toInt = -1 ∧ (v_1q1).toInt ≤ (x2).toInt - 3 ∧ (x3).toInt = (x2).toInt - 2) from (by have := (i_x2 : Rg (0) (63) (x2)).1; have := (i_x2 : Rg (0) (63) (x2)).2; have := (i_x3 : Rg (0) (63) (x3)).1; have := (i_x3 : Rg (0) (63) (x3)).2; have : ((- 1 : Int32)).toInt = -1 := rfl; have := (i_v_1q1 : Rg (-3) (60) (v_1q1)).1; have := (i_v_1q1 : Rg (-3) (60) (v_1q1)).2; have : (v_1q1).toInt = (x2 + ((3 : Int32) * (- 1 : Int32)) : Int32).toInt := congrArg Int32.toInt e_5; have : (x2 + ((3 : Int32) * (- 1 : Int32)) : Int32).toInt = (x2 : Int32).toInt + (((3 : Int32) * (- 1 : Int32)) : Int32).toInt := ti_add (i_x2 : Rg (0) (63) (x2)) ((rg_mulc' (rg_b rfl : Rg (3) (3) ((3 : Int32))) (rg_b rfl : Rg (-1) (-1) ((- 1 : Int32))) (by decide) : Rg (-3) (-3) (((3 : Int32) * (- 1 : Int32)))) : Rg (-3) (-3) (((3 : Int32) * (- 1 : Int32)))) (by decide); have : (((3 : Int32) * (- 1 : Int32)) : Int32).toInt = 3 * ((- 1 : Int32) : Int32).toInt := ti_mulc' ((rg_b rfl : Rg (-1) (-1) ((- 1 : Int32))) : Rg (-1) (-1) ((- 1 : Int32))) (rg_b rfl : Rg 3 3 ((3 : Int32))) (by decide); have hq_ := ((thI T r_x4 (k := 14) (i := 0) rfl : Rg (0) (3000) ((hI h x4 0))) : Rg (0) (3000) ((hI h x4 0))); have := hq_.1; have := hq_.2; have := eq_i c_1; have hq_ := ((rg_divw i_x3 (thI T r_x0 (k := 16) (i := 11) rfl : Rg (3) (8) ((hI h x0 11))) (by decide) : Rg (0) (21) ((x3 / (hI h x0 11)))) : Rg (0) (21) ((x3 / (hI h x0 11)))); have := hq_.1; have := hq_.2; have hq_ := ((rg_divw i_x2 (thI T r_x0 (k := 16) (i := 11) rfl : Rg (3) (8) ((hI h x0 11))) (by decide) : Rg (0) (21) ((x2 / (hI h x0 11)))) : Rg (0) (21) ((x2 / (hI h x0 11)))); have := hq_.1; have := hq_.2; have := eq_i c_2; have : ((x3 - x2) : Int32).toInt = (x3 : Int32).toInt - (x2 : Int32).toInt := ti_sub (i_x3 : Rg (0) (63) (x3)) (i_x2 : Rg (0) (63) (x2)) (by decide); have : (0 - (x3 - x2) : Int32).toInt = (0 : Int32).toInt - ((x3 - x2) : Int32).toInt := ti_sub ((rg_b rfl : Rg (0) (0) (0 : Int32)) : Rg (0) (0) (0)) ((rg_sub i_x3 i_x2 (by decide) : Rg (-63) (63) ((x3 - x2))) : Rg (-63) (63) ((x3 - x2))) (by decide); have : (0 : Int32).toInt = 0 := rfl; have : ((0 : Int32).toInt ≤ ((x3 - x2) : Int32).toInt ∧ ((if 0 ≤ (x3 - x2) then (x3 - x2) else 0 - (x3 - x2)) : Int32).toInt = ((x3 - x2) : Int32).toInt) ∨ (¬ ((0 : Int32).toInt ≤ ((x3 - x2) : Int32).toInt) ∧ ((if 0 ≤ (x3 - x2) then (x3 - x2) else 0 - (x3 - x2)) : Int32).toInt = (0 - (x3 - x2) : Int32).toInt) := ti_iff ii_le; have : ((2 : Int32)).toInt = 2 := rfl; have := le_i c_4; clear o_x1 o_x4; omega)) (show (hI h x4 0).toInt ≤ 2999 from (by have hq_ := ((thI T r_x4 (k := 14) (i := 0) rfl : Rg (0) (3000) ((hI h x4 0))) : Rg (0) (3000) ((hI h x4 0))); have := hq_.1; have := hq_.2; clear o_x1 o_x4; omega)) ro mv cp (show (hI h x4 0).toInt = ((hI h x4 0).toInt) from (by have hq_ := ((thI T r_x4 (k := 14) (i := 0) rfl : Rg (0) (3000) ((hI h x4 0))) : Rg (0) (3000) ((hI h x4 0))); have := hq_.1; have := hq_.2; clear o_x1 o_x4; omega)) (show (x2).toInt = (x2.toInt) ∧ (x3).toInt = (x3.toInt) from (by have := (i_x2 : Rg (0) (63) (x2)).1; have := (i_x2 : Rg (0) (63) (x2)).2; have := (i_x3 : Rg (0) (63) (x3)).1; have := (i_x3 : Rg (0) (63) (x3)).2; have hq_ := ((thI T r_x4 (k := 14) (i := 0) rfl : Rg (0) (3000) ((hI h x4 0))) : Rg (0) (3000) ((hI h x4 0))); have := hq_.1; have := hq_.2; have := eq_i c_1; have hq_ := ((rg_divw i_x3 (thI T r_x0 (k := 16) (i := 11) rfl : Rg (3) (8) ((hI h x0 11))) (by decide) : Rg (0) (21) ((x3 / (hI h x0 11)))) : Rg (0) (21) ((x3 / (hI h x0 11)))); have := hq_.1; have := hq_.2; have hq_ := ((rg_divw i_x2 (thI T r_x0 (k := 16) (i := 11) rfl : Rg (3) (8) ((hI h x0 11))) (by decide) : Rg (0) (21) ((x2 / (hI h x0 11)))) : Rg (0) (21) ((x2 / (hI h x0 11)))); have := hq_.1; have := hq_.2; have := eq_i c_2; have : ((x3 - x2) : Int32).toInt = (x3 : Int32).toInt - (x2 : Int32).toInt := ti_sub (i_x3 : Rg (0) (63) (x3)) (i_x2 : Rg (0) (63) (x2)) (by decide); have : (0 - (x3 - x2) : Int32).toInt = (0 : Int32).toInt - ((x3 - x2) : Int32).toInt := ti_sub ((rg_b rfl : Rg (0) (0) (0 : Int32)) : Rg (0) (0) (0)) ((rg_sub i_x3 i_x2 (by decide) : Rg (-63) (63) ((x3 - x2))) : Rg (-63) (63) ((x3 - x2))) (by decide); have : (0 : Int32).toInt = 0 := rfl; have : ((0 : Int32).toInt ≤ ((x3 - x2) : Int32).toInt ∧ ((if 0 ≤ (x3 - x2) then (x3 - x2) else 0 - (x3 - x2)) : Int32).toInt = ((x3 - x2) : Int32).toInt) ∨ (¬ ((0 : Int32).toInt ≤ ((x3 - x2) : Int32).toInt) ∧ ((if 0 ≤ (x3 - x2) then (x3 - x2) else 0 - (x3 - x2)) : Int32).toInt = (0 - (x3 - x2) : Int32).toInt) := ti_iff ii_le; have : ((2 : Int32)).toInt = 2 := rfl; have := le_i c_4; clear o_x1 o_x4; omega)) (show ((70 - (((v_1q1).toInt - (x2).toInt).natAbs : Int)) - 0).toNat < F from (by have := (i_x2 : Rg (0) (63) (x2)).1; have := (i_x2 : Rg (0) (63) (x2)).2; have := (i_x3 : Rg (0) (63) (x3)).1; have := (i_x3 : Rg (0) (63) (x3)).2; have : ((- 1 : Int32)).toInt = -1 := rfl; have := (i_v_1q1 : Rg (-3) (60) (v_1q1)).1; have := (i_v_1q1 : Rg (-3) (60) (v_1q1)).2; have : (v_1q1).toInt = (x2 + ((3 : Int32) * (- 1 : Int32)) : Int32).toInt := congrArg Int32.toInt e_5; have : (x2 + ((3 : Int32) * (- 1 : Int32)) : Int32).toInt = (x2 : Int32).toInt + (((3 : Int32) * (- 1 : Int32)) : Int32).toInt := ti_add (i_x2 : Rg (0) (63) (x2)) ((rg_mulc' (rg_b rfl : Rg (3) (3) ((3 : Int32))) (rg_b rfl : Rg (-1) (-1) ((- 1 : Int32))) (by decide) : Rg (-3) (-3) (((3 : Int32) * (- 1 : Int32)))) : Rg (-3) (-3) (((3 : Int32) * (- 1 : Int32)))) (by decide); have : (((3 : Int32) * (- 1 : Int32)) : Int32).toInt = 3 * ((- 1 : Int32) : Int32).toInt := ti_mulc' ((rg_b rfl : Rg (-1) (-1) ((- 1 : Int32))) : Rg (-1) (-1) ((- 1 : Int32))) (rg_b rfl : Rg 3 3 ((3 : Int32))) (by decide); have hq_ := ((thI T r_x4 (k := 14) (i := 0) rfl : Rg (0) (3000) ((hI h x4 0))) : Rg (0) (3000) ((hI h x4 0))); have := hq_.1; have := hq_.2; have := eq_i c_1; have hq_ := ((rg_divw i_x3 (thI T r_x0 (k := 16) (i := 11) rfl : Rg (3) (8) ((hI h x0 11))) (by decide) : Rg (0) (21) ((x3 / (hI h x0 11)))) : Rg (0) (21) ((x3 / (hI h x0 11)))); have := hq_.1; have := hq_.2; have hq_ := ((rg_divw i_x2 (thI T r_x0 (k := 16) (i := 11) rfl : Rg (3) (8) ((hI h x0 11))) (by decide) : Rg (0) (21) ((x2 / (hI h x0 11)))) : Rg (0) (21) ((x2 / (hI h x0 11)))); have := hq_.1; have := hq_.2; have := eq_i c_2; have : ((x3 - x2) : Int32).toInt = (x3 : Int32).toInt - (x2 : Int32).toInt := ti_sub (i_x3 : Rg (0) (63) (x3)) (i_x2 : Rg (0) (63) (x2)) (by decide); have : (0 - (x3 - x2) : Int32).toInt = (0 : Int32).toInt - ((x3 - x2) : Int32).toInt := ti_sub ((rg_b rfl : Rg (0) (0) (0 : Int32)) : Rg (0) (0) (0)) ((rg_sub i_x3 i_x2 (by decide) : Rg (-63) (63) ((x3 - x2))) : Rg (-63) (63) ((x3 - x2))) (by decide); have : (0 : Int32).toInt = 0 := rfl; have : ((0 : Int32).toInt ≤ ((x3 - x2) : Int32).toInt ∧ ((if 0 ≤ (x3 - x2) then (x3 - x2) else 0 - (x3 - x2)) : Int32).toInt = ((x3 - x2) : Int32).toInt) ∨ (¬ ((0 : Int32).toInt ≤ ((x3 - x2) : Int32).toInt) ∧ ((if 0 ≤ (x3 - x2) then (x3 - x2) else 0 - (x3 - x2)) : Int32).toInt = (0 - (x3 - x2) : Int32).toInt) := ti_iff ii_le; have : ((2 : Int32)).toInt = 2 := rfl; have := le_i c_4; clear o_x1 o_x4; omega))
      · have _ := c_4
        have i_f_6 : Rg (0) (62) (x2) := rg_lt1 (nle_lt c_4) i_x2 i_x3
        have i_f_7 : Rg (1) (63) (x3) := rg_lt2 (nle_lt c_4) i_x2 i_x3
        refine s_q (fun v_1q2 e_8 => ?_)
        have i_v_1q2 : Rg (3) (65) (v_1q2) := by rw [e_8]; exact (rg_add i_f_6 (rg_mulc (rg_b rfl : Rg (3) (3) ((3 : Int32))) (rg_b rfl : Rg (1) (1) ((1 : Int32))) (by decide) : Rg (3) (3) (((3 : Int32) * (1 : Int32)))) (by decide) : Rg (3) (65) (x2 + ((3 : Int32) * (1 : Int32))))
        exact zX15_tryCastling_46 hF (pmA_s hA rfl) (pmO_s hO_x4 rfl) F o_x1 o_x4 T r_x0 r_x1 (rg_m i_f_6 (by decide)) (rg_m i_f_7 (by decide)) r_x4 (rg_m (rg_b rfl : Rg (1) (1) ((1 : Int32))) (by decide)) (rg_m i_v_1q2 (by decide)) (show (((1 : Int32)).toInt = 1 ∧ (x2).toInt + 3 ≤ (v_1q2).toInt ∧ (x3).toInt = (x2).toInt + 2) ∨ (((1 : Int32)).toInt = -1 ∧ (v_1q2).toInt ≤ (x2).toInt - 3 ∧ (x3).toInt = (x2).toInt - 2) from (by have := (i_f_6 : Rg (0) (62) (x2)).1; have := (i_f_6 : Rg (0) (62) (x2)).2; have := (i_f_7 : Rg (1) (63) (x3)).1; have := (i_f_7 : Rg (1) (63) (x3)).2; have : ((1 : Int32)).toInt = 1 := rfl; have := (i_v_1q2 : Rg (3) (65) (v_1q2)).1; have := (i_v_1q2 : Rg (3) (65) (v_1q2)).2; have : (v_1q2).toInt = (x2 + ((3 : Int32) * (1 : Int32)) : Int32).toInt := congrArg Int32.toInt e_8; have : (x2 + ((3 : Int32) * (1 : Int32)) : Int32).toInt = (x2 : Int32).toInt + (((3 : Int32) * (1 : Int32)) : Int32).toInt := ti_add (i_f_6 : Rg (0) (62) (x2)) ((rg_mulc (rg_b rfl : Rg (3) (3) ((3 : Int32))) (rg_b rfl : Rg (1) (1) ((1 : Int32))) (by decide) : Rg (3) (3) (((3 : Int32) * (1 : Int32)))) : Rg (3) (3) (((3 : Int32) * (1 : Int32)))) (by decide); have : (((3 : Int32) * (1 : Int32)) : Int32).toInt = 1 * ((3 : Int32) : Int32).toInt := ti_mulc ((rg_b rfl : Rg (3) (3) ((3 : Int32))) : Rg (3) (3) ((3 : Int32))) (rg_b rfl : Rg 1 1 ((1 : Int32))) (by decide); have : ((3 : Int32)).toInt = 3 := rfl; have hq_ := ((thI T r_x4 (k := 14) (i := 0) rfl : Rg (0) (3000) ((hI h x4 0))) : Rg (0) (3000) ((hI h x4 0))); have := hq_.1; have := hq_.2; have := eq_i c_1; have hq_ := ((rg_divw i_f_7 (thI T r_x0 (k := 16) (i := 11) rfl : Rg (3) (8) ((hI h x0 11))) (by decide) : Rg (0) (21) ((x3 / (hI h x0 11)))) : Rg (0) (21) ((x3 / (hI h x0 11)))); have := hq_.1; have := hq_.2; have hq_ := ((rg_divw i_f_6 (thI T r_x0 (k := 16) (i := 11) rfl : Rg (3) (8) ((hI h x0 11))) (by decide) : Rg (0) (20) ((x2 / (hI h x0 11)))) : Rg (0) (20) ((x2 / (hI h x0 11)))); have := hq_.1; have := hq_.2; have := eq_i c_2; have : ((x3 - x2) : Int32).toInt = (x3 : Int32).toInt - (x2 : Int32).toInt := ti_sub (i_f_7 : Rg (1) (63) (x3)) (i_f_6 : Rg (0) (62) (x2)) (by decide); have : (0 - (x3 - x2) : Int32).toInt = (0 : Int32).toInt - ((x3 - x2) : Int32).toInt := ti_sub ((rg_b rfl : Rg (0) (0) (0 : Int32)) : Rg (0) (0) (0)) ((rg_sub i_f_7 i_f_6 (by decide) : Rg (-61) (63) ((x3 - x2))) : Rg (-61) (63) ((x3 - x2))) (by decide); have : (0 : Int32).toInt = 0 := rfl; have : ((0 : Int32).toInt ≤ ((x3 - x2) : Int32).toInt ∧ ((if 0 ≤ (x3 - x2) then (x3 - x2) else 0 - (x3 - x2)) : Int32).toInt = ((x3 - x2) : Int32).toInt) ∨ (¬ ((0 : Int32).toInt ≤ ((x3 - x2) : Int32).toInt) ∧ ((if 0 ≤ (x3 - x2) then (x3 - x2) else 0 - (x3 - x2)) : Int32).toInt = (0 - (x3 - x2) : Int32).toInt) := ti_iff ii_le; have : ((2 : Int32)).toInt = 2 := rfl; have := nle_i c_4; clear o_x1 o_x4; omega)) (show (hI h x4 0).toInt ≤ 2999 from (by have hq_ := ((thI T r_x4 (k := 14) (i := 0) rfl : Rg (0) (3000) ((hI h x4 0))) : Rg (0) (3000) ((hI h x4 0))); have := hq_.1; have := hq_.2; clear o_x1 o_x4; omega)) ro mv cp (show (hI h x4 0).toInt = ((hI h x4 0).toInt) from (by have hq_ := ((thI T r_x4 (k := 14) (i := 0) rfl : Rg (0) (3000) ((hI h x4 0))) : Rg (0) (3000) ((hI h x4 0))); have := hq_.1; have := hq_.2; clear o_x1 o_x4; omega)) (show (x2).toInt = (x2.toInt) ∧ (x3).toInt = (x3.toInt) from (by have := (i_f_6 : Rg (0) (62) (x2)).1; have := (i_f_6 : Rg (0) (62) (x2)).2; have := (i_f_7 : Rg (1) (63) (x3)).1; have := (i_f_7 : Rg (1) (63) (x3)).2; have hq_ := ((thI T r_x4 (k := 14) (i := 0) rfl : Rg (0) (3000) ((hI h x4 0))) : Rg (0) (3000) ((hI h x4 0))); have := hq_.1; have := hq_.2; have := eq_i c_1; have hq_ := ((rg_divw i_f_7 (thI T r_x0 (k := 16) (i := 11) rfl : Rg (3) (8) ((hI h x0 11))) (by decide) : Rg (0) (21) ((x3 / (hI h x0 11)))) : Rg (0) (21) ((x3 / (hI h x0 11)))); have := hq_.1; have := hq_.2; have hq_ := ((rg_divw i_f_6 (thI T r_x0 (k := 16) (i := 11) rfl : Rg (3) (8) ((hI h x0 11))) (by decide) : Rg (0) (20) ((x2 / (hI h x0 11)))) : Rg (0) (20) ((x2 / (hI h x0 11)))); have := hq_.1; have := hq_.2; have := eq_i c_2; have : ((x3 - x2) : Int32).toInt = (x3 : Int32).toInt - (x2 : Int32).toInt := ti_sub (i_f_7 : Rg (1) (63) (x3)) (i_f_6 : Rg (0) (62) (x2)) (by decide); have : (0 - (x3 - x2) : Int32).toInt = (0 : Int32).toInt - ((x3 - x2) : Int32).toInt := ti_sub ((rg_b rfl : Rg (0) (0) (0 : Int32)) : Rg (0) (0) (0)) ((rg_sub i_f_7 i_f_6 (by decide) : Rg (-61) (63) ((x3 - x2))) : Rg (-61) (63) ((x3 - x2))) (by decide); have : (0 : Int32).toInt = 0 := rfl; have : ((0 : Int32).toInt ≤ ((x3 - x2) : Int32).toInt ∧ ((if 0 ≤ (x3 - x2) then (x3 - x2) else 0 - (x3 - x2)) : Int32).toInt = ((x3 - x2) : Int32).toInt) ∨ (¬ ((0 : Int32).toInt ≤ ((x3 - x2) : Int32).toInt) ∧ ((if 0 ≤ (x3 - x2) then (x3 - x2) else 0 - (x3 - x2)) : Int32).toInt = (0 - (x3 - x2) : Int32).toInt) := ti_iff ii_le; have : ((2 : Int32)).toInt = 2 := rfl; have := nle_i c_4; clear o_x1 o_x4; omega)) (show ((70 - (((v_1q2).toInt - (x2).toInt).natAbs : Int)) - 0).toNat < F from (by have := (i_f_6 : Rg (0) (62) (x2)).1; have := (i_f_6 : Rg (0) (62) (x2)).2; have := (i_f_7 : Rg (1) (63) (x3)).1; have := (i_f_7 : Rg (1) (63) (x3)).2; have : ((1 : Int32)).toInt = 1 := rfl; have := (i_v_1q2 : Rg (3) (65) (v_1q2)).1; have := (i_v_1q2 : Rg (3) (65) (v_1q2)).2; have : (v_1q2).toInt = (x2 + ((3 : Int32) * (1 : Int32)) : Int32).toInt := congrArg Int32.toInt e_8; have : (x2 + ((3 : Int32) * (1 : Int32)) : Int32).toInt = (x2 : Int32).toInt + (((3 : Int32) * (1 : Int32)) : Int32).toInt := ti_add (i_f_6 : Rg (0) (62) (x2)) ((rg_mulc (rg_b rfl : Rg (3) (3) ((3 : Int32))) (rg_b rfl : Rg (1) (1) ((1 : Int32))) (by decide) : Rg (3) (3) (((3 : Int32) * (1 : Int32)))) : Rg (3) (3) (((3 : Int32) * (1 : Int32)))) (by decide); have : (((3 : Int32) * (1 : Int32)) : Int32).toInt = 1 * ((3 : Int32) : Int32).toInt := ti_mulc ((rg_b rfl : Rg (3) (3) ((3 : Int32))) : Rg (3) (3) ((3 : Int32))) (rg_b rfl : Rg 1 1 ((1 : Int32))) (by decide); have : ((3 : Int32)).toInt = 3 := rfl; have hq_ := ((thI T r_x4 (k := 14) (i := 0) rfl : Rg (0) (3000) ((hI h x4 0))) : Rg (0) (3000) ((hI h x4 0))); have := hq_.1; have := hq_.2; have := eq_i c_1; have hq_ := ((rg_divw i_f_7 (thI T r_x0 (k := 16) (i := 11) rfl : Rg (3) (8) ((hI h x0 11))) (by decide) : Rg (0) (21) ((x3 / (hI h x0 11)))) : Rg (0) (21) ((x3 / (hI h x0 11)))); have := hq_.1; have := hq_.2; have hq_ := ((rg_divw i_f_6 (thI T r_x0 (k := 16) (i := 11) rfl : Rg (3) (8) ((hI h x0 11))) (by decide) : Rg (0) (20) ((x2 / (hI h x0 11)))) : Rg (0) (20) ((x2 / (hI h x0 11)))); have := hq_.1; have := hq_.2; have := eq_i c_2; have : ((x3 - x2) : Int32).toInt = (x3 : Int32).toInt - (x2 : Int32).toInt := ti_sub (i_f_7 : Rg (1) (63) (x3)) (i_f_6 : Rg (0) (62) (x2)) (by decide); have : (0 - (x3 - x2) : Int32).toInt = (0 : Int32).toInt - ((x3 - x2) : Int32).toInt := ti_sub ((rg_b rfl : Rg (0) (0) (0 : Int32)) : Rg (0) (0) (0)) ((rg_sub i_f_7 i_f_6 (by decide) : Rg (-61) (63) ((x3 - x2))) : Rg (-61) (63) ((x3 - x2))) (by decide); have : (0 : Int32).toInt = 0 := rfl; have : ((0 : Int32).toInt ≤ ((x3 - x2) : Int32).toInt ∧ ((if 0 ≤ (x3 - x2) then (x3 - x2) else 0 - (x3 - x2)) : Int32).toInt = ((x3 - x2) : Int32).toInt) ∨ (¬ ((0 : Int32).toInt ≤ ((x3 - x2) : Int32).toInt) ∧ ((if 0 ≤ (x3 - x2) then (x3 - x2) else 0 - (x3 - x2)) : Int32).toInt = (0 - (x3 - x2) : Int32).toInt) := ti_iff ii_le; have : ((2 : Int32)).toInt = 2 := rfl; have := nle_i c_4; clear o_x1 o_x4; omega))
    · have _ := c_2
      exact s_some ⟨(T), ⟨(show (hI h x4 0).toInt = ((hI h x4 0).toInt) ∨ ((hI h x4 0).toInt = ((hI h x4 0).toInt) + 1 ∧ ((x3.toInt) = (x2.toInt) + 2 ∨ (x3.toInt) = (x2.toInt) - 2)) from (by have hq_ := ((thI T r_x4 (k := 14) (i := 0) rfl : Rg (0) (3000) ((hI h x4 0))) : Rg (0) (3000) ((hI h x4 0))); have := hq_.1; have := hq_.2; have := (i_x2 : Rg (0) (63) (x2)).1; have := (i_x2 : Rg (0) (63) (x2)).2; have := (i_x3 : Rg (0) (63) (x3)).1; have := (i_x3 : Rg (0) (63) (x3)).2; have := eq_i c_1; have hq_ := ((rg_divw i_x3 (thI T r_x0 (k := 16) (i := 11) rfl : Rg (3) (8) ((hI h x0 11))) (by decide) : Rg (0) (21) ((x3 / (hI h x0 11)))) : Rg (0) (21) ((x3 / (hI h x0 11)))); have := hq_.1; have := hq_.2; have hq_ := ((rg_divw i_x2 (thI T r_x0 (k := 16) (i := 11) rfl : Rg (3) (8) ((hI h x0 11))) (by decide) : Rg (0) (21) ((x2 / (hI h x0 11)))) : Rg (0) (21) ((x2 / (hI h x0 11)))); have := hq_.1; have := hq_.2; have := ne_i c_2; have : ((x3 - x2) : Int32).toInt = (x3 : Int32).toInt - (x2 : Int32).toInt := ti_sub (i_x3 : Rg (0) (63) (x3)) (i_x2 : Rg (0) (63) (x2)) (by decide); have : (0 - (x3 - x2) : Int32).toInt = (0 : Int32).toInt - ((x3 - x2) : Int32).toInt := ti_sub ((rg_b rfl : Rg (0) (0) (0 : Int32)) : Rg (0) (0) (0)) ((rg_sub i_x3 i_x2 (by decide) : Rg (-63) (63) ((x3 - x2))) : Rg (-63) (63) ((x3 - x2))) (by decide); have : (0 : Int32).toInt = 0 := rfl; have : ((0 : Int32).toInt ≤ ((x3 - x2) : Int32).toInt ∧ ((if 0 ≤ (x3 - x2) then (x3 - x2) else 0 - (x3 - x2)) : Int32).toInt = ((x3 - x2) : Int32).toInt) ∨ (¬ ((0 : Int32).toInt ≤ ((x3 - x2) : Int32).toInt) ∧ ((if 0 ≤ (x3 - x2) then (x3 - x2) else 0 - (x3 - x2)) : Int32).toInt = (0 - (x3 - x2) : Int32).toInt) := ti_iff ii_le; have : ((2 : Int32)).toInt = 2 := rfl; clear o_x1 o_x4; omega)), mv⟩⟩
  · have _ := c_1
    exact s_some ⟨(T), ⟨(show (hI h x4 0).toInt = ((hI h x4 0).toInt) ∨ ((hI h x4 0).toInt = ((hI h x4 0).toInt) + 1 ∧ ((x3.toInt) = (x2.toInt) + 2 ∨ (x3.toInt) = (x2.toInt) - 2)) from (by have hq_ := ((thI T r_x4 (k := 14) (i := 0) rfl : Rg (0) (3000) ((hI h x4 0))) : Rg (0) (3000) ((hI h x4 0))); have := hq_.1; have := hq_.2; have := (i_x2 : Rg (0) (63) (x2)).1; have := (i_x2 : Rg (0) (63) (x2)).2; have := (i_x3 : Rg (0) (63) (x3)).1; have := (i_x3 : Rg (0) (63) (x3)).2; have := ne_i c_1; have hq_ := ((rg_divw i_x3 (thI T r_x0 (k := 16) (i := 11) rfl : Rg (3) (8) ((hI h x0 11))) (by decide) : Rg (0) (21) ((x3 / (hI h x0 11)))) : Rg (0) (21) ((x3 / (hI h x0 11)))); have := hq_.1; have := hq_.2; have hq_ := ((rg_divw i_x2 (thI T r_x0 (k := 16) (i := 11) rfl : Rg (3) (8) ((hI h x0 11))) (by decide) : Rg (0) (21) ((x2 / (hI h x0 11)))) : Rg (0) (21) ((x2 / (hI h x0 11)))); have := hq_.1; have := hq_.2; clear o_x1 o_x4; omega)), mv⟩⟩
set_option maxRecDepth 20000 in
theorem zX15_trySteps_152 {ρ : Nat → Nat} {c : Cm} {F : Nat} {w_x5 : Nat} {m0 : Int} (hF : 700000 ≤ F) (hO_x5 : pmO c w_x5 [(66, 999), (67, 999), (68, 999), (69, 999), (70, 999), (71, 999), (72, 999), (14, 0)]) : ∀ (f : Nat) {h : Hp} {x0 : Nat} {x2 : Int32} {x3 : Int32} {x4 : Int32} {x5 : Nat} {x6 : Int32} {x7 : Int32} {x8 : Int32} {x9 : Int32}, cw c x5 = w_x5 → TH ρ c h → ρ x0 = 16 → Rg (0) (63) (x2) → Rg (0) (63) (x3) → Rg (0) (11) (x4) → ρ x5 = 14 → Rg (-1) (11) (x6) → Rg (0) (7) (x7) → Rg (0) (1) (x8) → Rg (0) (6) (x9) → (m0 ≤ 2994) → ((hI h x5 0).toInt = m0 + x9.toInt) → (6 - x9.toInt).toNat < f → Sat (sX15_trySteps_152 F f h x0 x2 x3 x4 x5 x6 x7 x8 x9) (ZQ (ZV ρ c) (fun o => (m0 ≤ (hI o x5 0).toInt) ∧ ((hI o x5 0).toInt ≤ m0 + 6))) := by
  intro f
  induction f with
  | zero => intros; omega
  | succ f ih =>
    intro h x0 x2 x3 x4 x5 x6 x7 x8 x9 o_x5 T r_x0 i_x2 i_x3 i_x4 r_x5 i_x6 i_x7 i_x8 i_x9 t4 tl hm
    rw [sX15_trySteps_152]
    unfold sX15_trySteps_223
    obtain ⟨C_152, hC_152⟩ : ∃ C : Int, C = x9.toInt := ⟨_, rfl⟩
    have hk_152 : ∀ {h : Hp} {x0 : Nat} {x2 : Int32} {x3 : Int32} {x4 : Int32} {x5 : Nat} {x6 : Int32} {x7 : Int32} {x8 : Int32} {x9 : Int32}, cw c x5 = w_x5 → TH ρ c h → ρ x0 = 16 → Rg (0) (63) (x2) → Rg (0) (63) (x3) → Rg (0) (11) (x4) → ρ x5 = 14 → Rg (-1) (11) (x6) → Rg (0) (7) (x7) → Rg (0) (1) (x8) → Rg (0) (6) (x9) → (m0 ≤ 2994) → ((hI h x5 0).toInt = m0 + x9.toInt) → C_152 < x9.toInt → Sat (sX15_trySteps_152 F f h x0 x2 x3 x4 x5 x6 x7 x8 x9) (ZQ (ZV ρ c) (fun o => (m0 ≤ (hI o x5 0).toInt) ∧ ((hI o x5 0).toInt ≤ m0 + 6))) := by
      intro h' x0' x2' x3' x4' x5' x6' x7' x8' x9' o_x5' T' r_x0' i_x2' i_x3' i_x4' r_x5' i_x6' i_x7' i_x8' i_x9' t4' tl' hl
      exact ih o_x5' T' r_x0' i_x2' i_x3' i_x4' r_x5' i_x6' i_x7' i_x8' i_x9' t4' tl' (by have := i_x9'.1; have := i_x9'.2; omega)
    have hc_152 : C_152 ≤ x9.toInt := by omega
    obtain ⟨r_1, e_r_1, q_r_1⟩ := thR T r_x0 (k := 16) (i := 4) (k2 := 15) rfl (by decide)
    refine s_ref e_r_1 ?_
    obtain ⟨r_2, e_r_2, q_r_2⟩ := thR T q_r_1 (k := 15) (i := 14) (k2 := 81) rfl (by decide)
    refine s_ref e_r_2 ?_
    refine s_gd (by rw [thN T q_r_2 (k := 81) (n := 12) rfl (by decide)]; exact rg_inB (i_x4 : Rg (0) (11) (x4)) (by decide)) ?_
    refine s_br (fun c_1 => ?_) (fun c_1 => ?_)
    · have _ := c_1
      exact s_some ⟨(T), ⟨(show m0 ≤ (hI h x5 0).toInt from (by have hq_ := ((thI T r_x5 (k := 14) (i := 0) rfl : Rg (0) (3000) ((hI h x5 0))) : Rg (0) (3000) ((hI h x5 0))); have := hq_.1; have := hq_.2; have := (i_x9 : Rg (0) (6) (x9)).1; have := (i_x9 : Rg (0) (6) (x9)).2; have := le_i c_1; have hq_ := ((thI T q_r_2 (k := 81) rfl : Rg (0) (6) ((hI h r_2 x4.toNatClampNeg))) : Rg (0) (6) ((hI h r_2 x4.toNatClampNeg))); have := hq_.1; have := hq_.2; clear o_x5; omega)), (show (hI h x5 0).toInt ≤ m0 + 6 from (by have hq_ := ((thI T r_x5 (k := 14) (i := 0) rfl : Rg (0) (3000) ((hI h x5 0))) : Rg (0) (3000) ((hI h x5 0))); have := hq_.1; have := hq_.2; have := (i_x9 : Rg (0) (6) (x9)).1; have := (i_x9 : Rg (0) (6) (x9)).2; have := le_i c_1; have hq_ := ((thI T q_r_2 (k := 81) rfl : Rg (0) (6) ((hI h r_2 x4.toNatClampNeg))) : Rg (0) (6) ((hI h r_2 x4.toNatClampNeg))); have := hq_.1; have := hq_.2; clear o_x5; omega))⟩⟩
    · have _ := c_1
      have i_f_2 : Rg (0) (5) (x9) := rg_lt1 (nle_lt c_1) i_x9 (thI T q_r_2 (k := 81) rfl : Rg (0) (6) ((hI h r_2 x4.toNatClampNeg)))
      have i_f_3 : Rg (1) (6) ((hI h r_2 x4.toNatClampNeg)) := rg_lt2 (nle_lt c_1) i_x9 (thI T q_r_2 (k := 81) rfl : Rg (0) (6) ((hI h r_2 x4.toNatClampNeg)))
      refine s_ref e_r_1 ?_
      obtain ⟨r_6, e_r_6, q_r_6⟩ := thR T q_r_1 (k := 15) (i := 13) (k2 := 80) rfl (by decide)
      refine s_ref e_r_6 ?_
      refine s_gd (by rw [thN T q_r_6 (k := 80) (n := 72) rfl (by decide)]; exact rg_inB ((rg_add (rg_mulc' (rg_b rfl : Rg (6) (6) ((6 : Int32))) i_x4 (by decide) : Rg (0) (66) (((6 : Int32) * x4))) i_f_2 (by decide) : Rg (0) (71) ((((6 : Int32) * x4) + x9))) : Rg (0) (71) ((((6 : Int32) * x4) + x9))) (by decide)) ?_
      refine s_cVq (zX13_add hF (pmO_s hO_x5 rfl) o_x5 T r_x5 (rg_m i_x2 (by decide)) i_x3 i_x4 (rg_m (thI T q_r_6 (k := 80) rfl : Rg (0) (11) ((hI h r_6 (((6 : Int32) * x4) + x9).toNatClampNeg))) (by decide)) i_x6 (rg_m i_x8 (by decide)) (rg_m i_x7 (by decide)) (show (hI h x5 0).toInt ≤ 2999 from (by have := (i_x2 : Rg (0) (63) (x2)).1; have := (i_x2 : Rg (0) (63) (x2)).2; have := (i_x3 : Rg (0) (63) (x3)).1; have := (i_x3 : Rg (0) (63) (x3)).2; have := (i_x4 : Rg (0) (11) (x4)).1; have := (i_x4 : Rg (0) (11) (x4)).2; have hq_ := ((thI T q_r_6 (k := 80) rfl : Rg (0) (11) ((hI h r_6 (((6 : Int32) * x4) + x9).toNatClampNeg))) : Rg (0) (11) ((hI h r_6 (((6 : Int32) * x4) + x9).toNatClampNeg))); have := hq_.1; have := hq_.2; have := (i_x6 : Rg (-1) (11) (x6)).1; have := (i_x6 : Rg (-1) (11) (x6)).2; have := (i_x8 : Rg (0) (1) (x8)).1; have := (i_x8 : Rg (0) (1) (x8)).2; have := (i_x7 : Rg (0) (7) (x7)).1; have := (i_x7 : Rg (0) (7) (x7)).2; have hq_ := ((thI T r_x5 (k := 14) (i := 0) rfl : Rg (0) (3000) ((hI h x5 0))) : Rg (0) (3000) ((hI h x5 0))); have := hq_.1; have := hq_.2; have := (i_f_2 : Rg (0) (5) (x9)).1; have := (i_f_2 : Rg (0) (5) (x9)).2; have := nle_i c_1; have := (i_f_3 : Rg (1) (6) ((hI h r_2 x4.toNatClampNeg))).1; have := (i_f_3 : Rg (1) (6) ((hI h r_2 x4.toNatClampNeg))).2; clear o_x5; omega))) (fun o_8 T_4 p_o_8 => ?_)
      have pq_o_8_0 : (hI o_8 x5 0).toInt = ((hI h x5 0).toInt) + 1 := p_o_8
      refine s_q (fun v_9 e_5 => ?_)
      have i_v_9 : Rg (1) (6) (v_9) := by rw [e_5]; exact (rg_add i_f_2 (rg_b rfl : Rg (1) (1) ((1 : Int32))) (by decide) : Rg (1) (6) (x9 + (1 : Int32)))
      have m_6 : (v_9).toInt = x9.toInt + 1 := by rw [e_5]; exact rg_inc i_f_2 (by decide)
      exact hk_152 o_x5 T_4 r_x0 i_x2 i_x3 i_x4 r_x5 i_x6 i_x7 i_x8 (rg_m i_v_9 (by decide)) t4 (show (hI o_8 x5 0).toInt = m0 + (v_9).toInt from (by have := (i_v_9 : Rg (1) (6) (v_9)).1; have := (i_v_9 : Rg (1) (6) (v_9)).2; have : (v_9).toInt = (x9 + (1 : Int32) : Int32).toInt := congrArg Int32.toInt e_5; have : (x9 + (1 : Int32) : Int32).toInt = (x9 : Int32).toInt + ((1 : Int32) : Int32).toInt := ti_add (i_f_2 : Rg (0) (5) (x9)) ((rg_b rfl : Rg (1) (1) ((1 : Int32))) : Rg (1) (1) ((1 : Int32))) (by decide); have := (i_f_2 : Rg (0) (5) (x9)).1; have := (i_f_2 : Rg (0) (5) (x9)).2; have : ((1 : Int32)).toInt = 1 := rfl; have hq_ := ((thI T_4 r_x5 (k := 14) (i := 0) rfl : Rg (0) (3000) ((hI o_8 x5 0))) : Rg (0) (3000) ((hI o_8 x5 0))); have := hq_.1; have := hq_.2; have hq_ := ((thI T r_x5 (k := 14) (i := 0) rfl : Rg (0) (3000) ((hI h x5 0))) : Rg (0) (3000) ((hI h x5 0))); have := hq_.1; have := hq_.2; have := nle_i c_1; have := (i_f_3 : Rg (1) (6) ((hI h r_2 x4.toNatClampNeg))).1; have := (i_f_3 : Rg (1) (6) ((hI h r_2 x4.toNatClampNeg))).2; clear o_x5; omega)) (by have := hc_152; omega)
set_option maxRecDepth 20000 in
theorem zX15_trySteps_106 {ρ : Nat → Nat} {c : Cm} {F : Nat} {w_x1 w_x5 : Nat} {m0 : Int} (hF : 700000 ≤ F) (hO_x5 : pmO c w_x5 [(66, 999), (67, 999), (68, 999), (69, 999), (70, 999), (71, 999), (72, 999), (14, 0)]) {h : Hp} {x0 : Nat} {x1 : Nat} {x2 : Int32} {x3 : Int32} {x4 : Int32} {x5 : Nat} {x6 : Int32} {x7 : Int32} {t0 : Int32} (o_x1 : cw c x1 = w_x1) (o_x5 : cw c x5 = w_x5) (T : TH ρ c h) (r_x0 : ρ x0 = 16) (r_x1 : ρ x1 = 13) (i_x2 : Rg (0) (63) (x2)) (i_x3 : Rg (0) (63) (x3)) (i_x4 : Rg (0) (11) (x4)) (r_x5 : ρ x5 = 14) (i_x6 : Rg (-1) (11) (x6)) (i_x7 : Rg (0) (7) (x7)) (i_t0 : Rg (0) (1) (t0)) (t4 : (m0 ≤ 2994)) (tm : ((hI h x5 0).toInt = m0)) : Sat (sX15_trySteps_106 F h x0 x1 x2 x3 x4 x5 x6 x7 t0) (ZQ (ZV ρ c) (fun o => (m0 ≤ (hI o x5 0).toInt) ∧ ((hI o x5 0).toInt ≤ m0 + 6))) := by
  unfold sX15_trySteps_106 sX15_trySteps_207 sX15_trySteps_223 sX15_trySteps_149
  refine s_dI0 (zX15_becomesOthers hF T r_x0 i_x4) (fun o_1 eb_o_1 e_o_1 i_o_1 => ?_)
  have T_1 := th_eq e_o_1 T
  refine s_br (fun c_2 => ?_) (fun c_2 => ?_)
  · have _ := c_2
    have i_f_3 : Rg (0) (0) (o_1.1) := rg_eq c_2 (rg_b rfl : Rg (0) (0) (0 : Int32))
    refine s_cVq (zX13_add hF (pmO_s hO_x5 rfl) o_x5 T_1 r_x5 (rg_m i_x2 (by decide)) i_x3 i_x4 (rg_m (rg_b rfl : Rg (-1) (-1) ((- 1 : Int32))) (by decide)) i_x6 (rg_m i_t0 (by decide)) (rg_m i_x7 (by decide)) (show (hI o_1.2 x5 0).toInt ≤ 2999 from (by have := (i_x2 : Rg (0) (63) (x2)).1; have := (i_x2 : Rg (0) (63) (x2)).2; have := (i_x3 : Rg (0) (63) (x3)).1; have := (i_x3 : Rg (0) (63) (x3)).2; have := (i_x4 : Rg (0) (11) (x4)).1; have := (i_x4 : Rg (0) (11) (x4)).2; have : ((- 1 : Int32)).toInt = -1 := rfl; have := (i_x6 : Rg (-1) (11) (x6)).1; have := (i_x6 : Rg (-1) (11) (x6)).2; have := (i_t0 : Rg (0) (1) (t0)).1; have := (i_t0 : Rg (0) (1) (t0)).2; have := (i_x7 : Rg (0) (7) (x7)).1; have := (i_x7 : Rg (0) (7) (x7)).2; have hq_ := ((thI T_1 r_x5 (k := 14) (i := 0) rfl : Rg (0) (3000) ((hI o_1.2 x5 0))) : Rg (0) (3000) ((hI o_1.2 x5 0))); have := hq_.1; have := hq_.2; have : (hI o_1.2 x5 0).toInt = (hI h x5 0).toInt := congrArg Int32.toInt (he_e e_o_1); have hq_ := ((thI T r_x5 (k := 14) (i := 0) rfl : Rg (0) (3000) ((hI h x5 0))) : Rg (0) (3000) ((hI h x5 0))); have := hq_.1; have := hq_.2; clear o_x1 o_x5; omega))) (fun o_1q1 T_4 p_o_1q1 => ?_)
    have pq_o_1q1_0 : (hI o_1q1 x5 0).toInt = ((hI o_1.2 x5 0).toInt) + 1 := p_o_1q1
    exact s_some ⟨(T_4), ⟨(show m0 ≤ (hI o_1q1 x5 0).toInt from (by have hq_ := ((thI T_4 r_x5 (k := 14) (i := 0) rfl : Rg (0) (3000) ((hI o_1q1 x5 0))) : Rg (0) (3000) ((hI o_1q1 x5 0))); have := hq_.1; have := hq_.2; have hq_ := ((thI T_1 r_x5 (k := 14) (i := 0) rfl : Rg (0) (3000) ((hI o_1.2 x5 0))) : Rg (0) (3000) ((hI o_1.2 x5 0))); have := hq_.1; have := hq_.2; have : (hI o_1.2 x5 0).toInt = (hI h x5 0).toInt := congrArg Int32.toInt (he_e e_o_1); have hq_ := ((thI T r_x5 (k := 14) (i := 0) rfl : Rg (0) (3000) ((hI h x5 0))) : Rg (0) (3000) ((hI h x5 0))); have := hq_.1; have := hq_.2; clear o_x1 o_x5; omega)), (show (hI o_1q1 x5 0).toInt ≤ m0 + 6 from (by have hq_ := ((thI T_4 r_x5 (k := 14) (i := 0) rfl : Rg (0) (3000) ((hI o_1q1 x5 0))) : Rg (0) (3000) ((hI o_1q1 x5 0))); have := hq_.1; have := hq_.2; have hq_ := ((thI T_1 r_x5 (k := 14) (i := 0) rfl : Rg (0) (3000) ((hI o_1.2 x5 0))) : Rg (0) (3000) ((hI o_1.2 x5 0))); have := hq_.1; have := hq_.2; have : (hI o_1.2 x5 0).toInt = (hI h x5 0).toInt := congrArg Int32.toInt (he_e e_o_1); have hq_ := ((thI T r_x5 (k := 14) (i := 0) rfl : Rg (0) (3000) ((hI h x5 0))) : Rg (0) (3000) ((hI h x5 0))); have := hq_.1; have := hq_.2; clear o_x1 o_x5; omega))⟩⟩
  · have _ := c_2
    have i_f_5 : Rg (1) (1) (o_1.1) := rg_nlo c_2 i_o_1 (rg_b rfl : Rg (0) (0) (0 : Int32))
    refine s_dI0 (zX15_rankFor hF T_1 r_x0 i_x3 (thI T_1 r_x1 (k := 13) (i := 1) rfl : Rg (0) (1) ((hI o_1.2 x1 1)))) (fun o_3 eb_o_3 e_o_3 i_o_3 => ?_)
    have T_6 := th_eq e_o_3 T_1
    refine s_br (fun c_7 => ?_) (fun c_7 => ?_)
    · have _ := c_7
      have i_f_8 : Rg (3) (8) (o_3.1) := rg_eq c_7 (thI T_6 r_x0 (k := 16) (i := 12) rfl : Rg (3) (8) ((hI o_3.2 x0 12)))
      obtain ⟨r_5, e_r_5, q_r_5⟩ := thR T_6 r_x0 (k := 16) (i := 4) (k2 := 15) rfl (by decide)
      refine s_ref e_r_5 ?_
      refine s_br (fun c_9 => ?_) (fun c_9 => ?_)
      · have _ := c_9
        have i_f_10 : Rg (0) (0) ((hI o_3.2 r_5 18)) := rg_eq c_9 (rg_b rfl : Rg (0) (0) (0 : Int32))
        have m_11 : Rg (0) (6) ((0 : Int32)) := (rg_m (rg_b rfl : Rg (0) (0) ((0 : Int32))) (by decide))
        exact zX15_trySteps_152 hF (pmO_s hO_x5 rfl) F o_x5 T_6 r_x0 i_x2 i_x3 i_x4 r_x5 i_x6 i_x7 i_t0 (rg_m (rg_b rfl : Rg (0) (0) ((0 : Int32))) (by decide)) t4 (show (hI o_3.2 x5 0).toInt = m0 + ((0 : Int32)).toInt from (by have : ((0 : Int32)).toInt = 0 := rfl; have hq_ := ((thI T_6 r_x5 (k := 14) (i := 0) rfl : Rg (0) (3000) ((hI o_3.2 x5 0))) : Rg (0) (3000) ((hI o_3.2 x5 0))); have := hq_.1; have := hq_.2; have : (hI o_3.2 x5 0).toInt = (hI o_1.2 x5 0).toInt := congrArg Int32.toInt (he_e e_o_3); have : (hI o_1.2 x5 0).toInt = (hI h x5 0).toInt := congrArg Int32.toInt (he_e e_o_1); have hq_ := ((thI T r_x5 (k := 14) (i := 0) rfl : Rg (0) (3000) ((hI h x5 0))) : Rg (0) (3000) ((hI h x5 0))); have := hq_.1; have := hq_.2; clear o_x1 o_x5; omega)) (by have := m_11.1; have := m_11.2; omega)
      · have _ := c_9
        have i_f_12 : Rg (1) (1) ((hI o_3.2 r_5 18)) := rg_nlo c_9 (thI T_6 q_r_5 (k := 15) (i := 18) rfl : Rg (0) (1) ((hI o_3.2 r_5 18))) (rg_b rfl : Rg (0) (0) (0 : Int32))
        refine s_br (fun c_13 => ?_) (fun c_13 => ?_)
        · have _ := c_13
          have i_f_14 : Rg (-1) (-1) (x6) := rg_eq c_13 (rg_b rfl : Rg (-1) (-1) ((- 1 : Int32)))
          have m_15 : Rg (0) (6) ((0 : Int32)) := (rg_m (rg_b rfl : Rg (0) (0) ((0 : Int32))) (by decide))
          exact zX15_trySteps_152 hF (pmO_s hO_x5 rfl) F o_x5 T_6 r_x0 i_x2 i_x3 i_x4 r_x5 (rg_m i_f_14 (by decide)) i_x7 i_t0 (rg_m (rg_b rfl : Rg (0) (0) ((0 : Int32))) (by decide)) t4 (show (hI o_3.2 x5 0).toInt = m0 + ((0 : Int32)).toInt from (by have : ((0 : Int32)).toInt = 0 := rfl; have hq_ := ((thI T_6 r_x5 (k := 14) (i := 0) rfl : Rg (0) (3000) ((hI o_3.2 x5 0))) : Rg (0) (3000) ((hI o_3.2 x5 0))); have := hq_.1; have := hq_.2; have : (hI o_3.2 x5 0).toInt = (hI o_1.2 x5 0).toInt := congrArg Int32.toInt (he_e e_o_3); have : (hI o_1.2 x5 0).toInt = (hI h x5 0).toInt := congrArg Int32.toInt (he_e e_o_1); have hq_ := ((thI T r_x5 (k := 14) (i := 0) rfl : Rg (0) (3000) ((hI h x5 0))) : Rg (0) (3000) ((hI h x5 0))); have := hq_.1; have := hq_.2; clear o_x1 o_x5; omega)) (by have := m_15.1; have := m_15.2; omega)
        · have _ := c_13
          have i_f_16 : Rg (0) (11) (x6) := rg_nlo c_13 i_x6 (rg_b rfl : Rg (-1) (-1) ((- 1 : Int32)))
          refine s_cVq (zX13_add hF (pmO_s hO_x5 rfl) o_x5 T_6 r_x5 (rg_m i_x2 (by decide)) i_x3 i_x4 (rg_m (rg_b rfl : Rg (-1) (-1) ((- 1 : Int32))) (by decide)) (rg_m i_f_16 (by decide)) (rg_m i_t0 (by decide)) (rg_m i_x7 (by decide)) (show (hI o_3.2 x5 0).toInt ≤ 2999 from (by have := (i_x2 : Rg (0) (63) (x2)).1; have := (i_x2 : Rg (0) (63) (x2)).2; have := (i_x3 : Rg (0) (63) (x3)).1; have := (i_x3 : Rg (0) (63) (x3)).2; have := (i_x4 : Rg (0) (11) (x4)).1; have := (i_x4 : Rg (0) (11) (x4)).2; have : ((- 1 : Int32)).toInt = -1 := rfl; have := (i_f_16 : Rg (0) (11) (x6)).1; have := (i_f_16 : Rg (0) (11) (x6)).2; have := (i_t0 : Rg (0) (1) (t0)).1; have := (i_t0 : Rg (0) (1) (t0)).2; have := (i_x7 : Rg (0) (7) (x7)).1; have := (i_x7 : Rg (0) (7) (x7)).2; have hq_ := ((thI T_6 r_x5 (k := 14) (i := 0) rfl : Rg (0) (3000) ((hI o_3.2 x5 0))) : Rg (0) (3000) ((hI o_3.2 x5 0))); have := hq_.1; have := hq_.2; have : (hI o_3.2 x5 0).toInt = (hI o_1.2 x5 0).toInt := congrArg Int32.toInt (he_e e_o_3); have : (hI o_1.2 x5 0).toInt = (hI h x5 0).toInt := congrArg Int32.toInt (he_e e_o_1); have hq_ := ((thI T r_x5 (k := 14) (i := 0) rfl : Rg (0) (3000) ((hI h x5 0))) : Rg (0) (3000) ((hI h x5 0))); have := hq_.1; have := hq_.2; have := ne_i c_13; clear o_x1 o_x5; omega))) (fun o_1q5 T_17 p_o_1q5 => ?_)
          have pq_o_1q5_0 : (hI o_1q5 x5 0).toInt = ((hI o_3.2 x5 0).toInt) + 1 := p_o_1q5
          exact s_some ⟨(T_17), ⟨(show m0 ≤ (hI o_1q5 x5 0).toInt from (by have hq_ := ((thI T_17 r_x5 (k := 14) (i := 0) rfl : Rg (0) (3000) ((hI o_1q5 x5 0))) : Rg (0) (3000) ((hI o_1q5 x5 0))); have := hq_.1; have := hq_.2; have hq_ := ((thI T_6 r_x5 (k := 14) (i := 0) rfl : Rg (0) (3000) ((hI o_3.2 x5 0))) : Rg (0) (3000) ((hI o_3.2 x5 0))); have := hq_.1; have := hq_.2; have : (hI o_3.2 x5 0).toInt = (hI o_1.2 x5 0).toInt := congrArg Int32.toInt (he_e e_o_3); have : (hI o_1.2 x5 0).toInt = (hI h x5 0).toInt := congrArg Int32.toInt (he_e e_o_1); have hq_ := ((thI T r_x5 (k := 14) (i := 0) rfl : Rg (0) (3000) ((hI h x5 0))) : Rg (0) (3000) ((hI h x5 0))); have := hq_.1; have := hq_.2; clear o_x1 o_x5; omega)), (show (hI o_1q5 x5 0).toInt ≤ m0 + 6 from (by have hq_ := ((thI T_17 r_x5 (k := 14) (i := 0) rfl : Rg (0) (3000) ((hI o_1q5 x5 0))) : Rg (0) (3000) ((hI o_1q5 x5 0))); have := hq_.1; have := hq_.2; have hq_ := ((thI T_6 r_x5 (k := 14) (i := 0) rfl : Rg (0) (3000) ((hI o_3.2 x5 0))) : Rg (0) (3000) ((hI o_3.2 x5 0))); have := hq_.1; have := hq_.2; have : (hI o_3.2 x5 0).toInt = (hI o_1.2 x5 0).toInt := congrArg Int32.toInt (he_e e_o_3); have : (hI o_1.2 x5 0).toInt = (hI h x5 0).toInt := congrArg Int32.toInt (he_e e_o_1); have hq_ := ((thI T r_x5 (k := 14) (i := 0) rfl : Rg (0) (3000) ((hI h x5 0))) : Rg (0) (3000) ((hI h x5 0))); have := hq_.1; have := hq_.2; clear o_x1 o_x5; omega))⟩⟩
    · have _ := c_7
      refine s_cVq (zX13_add hF (pmO_s hO_x5 rfl) o_x5 T_6 r_x5 (rg_m i_x2 (by decide)) i_x3 i_x4 (rg_m (rg_b rfl : Rg (-1) (-1) ((- 1 : Int32))) (by decide)) i_x6 (rg_m i_t0 (by decide)) (rg_m i_x7 (by decide)) (show (hI o_3.2 x5 0).toInt ≤ 2999 from (by have := (i_x2 : Rg (0) (63) (x2)).1; have := (i_x2 : Rg (0) (63) (x2)).2; have := (i_x3 : Rg (0) (63) (x3)).1; have := (i_x3 : Rg (0) (63) (x3)).2; have := (i_x4 : Rg (0) (11) (x4)).1; have := (i_x4 : Rg (0) (11) (x4)).2; have : ((- 1 : Int32)).toInt = -1 := rfl; have := (i_x6 : Rg (-1) (11) (x6)).1; have := (i_x6 : Rg (-1) (11) (x6)).2; have := (i_t0 : Rg (0) (1) (t0)).1; have := (i_t0 : Rg (0) (1) (t0)).2; have := (i_x7 : Rg (0) (7) (x7)).1; have := (i_x7 : Rg (0) (7) (x7)).2; have hq_ := ((thI T_6 r_x5 (k := 14) (i := 0) rfl : Rg (0) (3000) ((hI o_3.2 x5 0))) : Rg (0) (3000) ((hI o_3.2 x5 0))); have := hq_.1; have := hq_.2; have : (hI o_3.2 x5 0).toInt = (hI o_1.2 x5 0).toInt := congrArg Int32.toInt (he_e e_o_3); have : (hI o_1.2 x5 0).toInt = (hI h x5 0).toInt := congrArg Int32.toInt (he_e e_o_1); have hq_ := ((thI T r_x5 (k := 14) (i := 0) rfl : Rg (0) (3000) ((hI h x5 0))) : Rg (0) (3000) ((hI h x5 0))); have := hq_.1; have := hq_.2; clear o_x1 o_x5; omega))) (fun o_1q7 T_18 p_o_1q7 => ?_)
      have pq_o_1q7_0 : (hI o_1q7 x5 0).toInt = ((hI o_3.2 x5 0).toInt) + 1 := p_o_1q7
      exact s_some ⟨(T_18), ⟨(show m0 ≤ (hI o_1q7 x5 0).toInt from (by have hq_ := ((thI T_18 r_x5 (k := 14) (i := 0) rfl : Rg (0) (3000) ((hI o_1q7 x5 0))) : Rg (0) (3000) ((hI o_1q7 x5 0))); have := hq_.1; have := hq_.2; have hq_ := ((thI T_6 r_x5 (k := 14) (i := 0) rfl : Rg (0) (3000) ((hI o_3.2 x5 0))) : Rg (0) (3000) ((hI o_3.2 x5 0))); have := hq_.1; have := hq_.2; have : (hI o_3.2 x5 0).toInt = (hI o_1.2 x5 0).toInt := congrArg Int32.toInt (he_e e_o_3); have : (hI o_1.2 x5 0).toInt = (hI h x5 0).toInt := congrArg Int32.toInt (he_e e_o_1); have hq_ := ((thI T r_x5 (k := 14) (i := 0) rfl : Rg (0) (3000) ((hI h x5 0))) : Rg (0) (3000) ((hI h x5 0))); have := hq_.1; have := hq_.2; clear o_x1 o_x5; omega)), (show (hI o_1q7 x5 0).toInt ≤ m0 + 6 from (by have hq_ := ((thI T_18 r_x5 (k := 14) (i := 0) rfl : Rg (0) (3000) ((hI o_1q7 x5 0))) : Rg (0) (3000) ((hI o_1q7 x5 0))); have := hq_.1; have := hq_.2; have hq_ := ((thI T_6 r_x5 (k := 14) (i := 0) rfl : Rg (0) (3000) ((hI o_3.2 x5 0))) : Rg (0) (3000) ((hI o_3.2 x5 0))); have := hq_.1; have := hq_.2; have : (hI o_3.2 x5 0).toInt = (hI o_1.2 x5 0).toInt := congrArg Int32.toInt (he_e e_o_3); have : (hI o_1.2 x5 0).toInt = (hI h x5 0).toInt := congrArg Int32.toInt (he_e e_o_1); have hq_ := ((thI T r_x5 (k := 14) (i := 0) rfl : Rg (0) (3000) ((hI h x5 0))) : Rg (0) (3000) ((hI h x5 0))); have := hq_.1; have := hq_.2; clear o_x1 o_x5; omega))⟩⟩
set_option maxRecDepth 20000 in
theorem zX15_trySteps_90 {ρ : Nat → Nat} {c : Cm} {F : Nat} {w_x1 w_x5 : Nat} {m0 : Int} (hF : 700000 ≤ F) (hO_x5 : pmO c w_x5 [(66, 999), (67, 999), (68, 999), (69, 999), (70, 999), (71, 999), (72, 999), (14, 0)]) {h : Hp} {x0 : Nat} {x1 : Nat} {x2 : Int32} {x3 : Int32} {x4 : Int32} {x5 : Nat} {x6 : Int32} {t0 : Int32} (o_x1 : cw c x1 = w_x1) (o_x5 : cw c x5 = w_x5) (T : TH ρ c h) (r_x0 : ρ x0 = 16) (r_x1 : ρ x1 = 13) (i_x2 : Rg (0) (63) (x2)) (i_x3 : Rg (0) (63) (x3)) (i_x4 : Rg (0) (11) (x4)) (r_x5 : ρ x5 = 14) (i_x6 : Rg (-1) (11) (x6)) (i_t0 : Rg (0) (7) (t0)) (t4 : (m0 ≤ 2994)) (tm : ((hI h x5 0).toInt = m0)) : Sat (sX15_trySteps_90 F h x0 x1 x2 x3 x4 x5 x6 t0) (ZQ (ZV ρ c) (fun o => (m0 ≤ (hI o x5 0).toInt) ∧ ((hI o x5 0).toInt ≤ m0 + 6))) := by
  unfold sX15_trySteps_90 
  obtain ⟨r_1, e_r_1, q_r_1⟩ := thR T r_x0 (k := 16) (i := 27) (k2 := 89) rfl (by decide)
  refine s_ref e_r_1 ?_
  refine s_gd (by rw [thN T q_r_1 (k := 89) (n := 64) rfl (by decide)]; exact rg_inB (i_x3 : Rg (0) (63) (x3)) (by decide)) ?_
  refine s_br (fun c_1 => ?_) (fun c_1 => ?_)
  · have _ := c_1
    have i_f_2 : Rg (0) (0) ((hI h r_1 x3.toNatClampNeg)) := rg_eq c_1 (rg_b rfl : Rg (0) (0) (0 : Int32))
    exact zX15_trySteps_106 hF (pmO_s hO_x5 rfl) o_x1 o_x5 T r_x0 r_x1 i_x2 i_x3 i_x4 r_x5 i_x6 i_t0 (rg_m (rg_b rfl : Rg (0) (0) ((0 : Int32))) (by decide)) t4 tm
  · have _ := c_1
    have i_f_3 : Rg (1) (1) ((hI h r_1 x3.toNatClampNeg)) := rg_nlo c_1 (thI T q_r_1 (k := 89) rfl : Rg (0) (1) ((hI h r_1 x3.toNatClampNeg))) (rg_b rfl : Rg (0) (0) (0 : Int32))
    exact zX15_trySteps_106 hF (pmO_s hO_x5 rfl) o_x1 o_x5 T r_x0 r_x1 i_x2 i_x3 i_x4 r_x5 i_x6 i_t0 (rg_m (rg_b rfl : Rg (1) (1) ((1 : Int32))) (by decide)) t4 tm
set_option maxRecDepth 20000 in
theorem zX15_trySteps_48 {ρ : Nat → Nat} {c : Cm} {F : Nat} {w_x1 w_x5 : Nat} {m0 : Int} (hF : 700000 ≤ F) (hO_x5 : pmO c w_x5 [(66, 999), (67, 999), (68, 999), (69, 999), (70, 999), (71, 999), (72, 999), (14, 0)]) {h : Hp} {x0 : Nat} {x1 : Nat} {x2 : Int32} {x3 : Int32} {x4 : Int32} {x5 : Nat} {t0 : Int32} (o_x1 : cw c x1 = w_x1) (o_x5 : cw c x5 = w_x5) (T : TH ρ c h) (r_x0 : ρ x0 = 16) (r_x1 : ρ x1 = 13) (i_x2 : Rg (0) (63) (x2)) (i_x3 : Rg (0) (63) (x3)) (i_x4 : Rg (0) (11) (x4)) (r_x5 : ρ x5 = 14) (i_t0 : Rg (-1) (11) (t0)) (t4 : (m0 ≤ 2994)) (tm : ((hI h x5 0).toInt = m0)) (sa : (StepAt x0 x3 h)) : Sat (sX15_trySteps_48 F h x0 x1 x2 x3 x4 x5 t0) (ZQ (ZV ρ c) (fun o => (m0 ≤ (hI o x5 0).toInt) ∧ ((hI o x5 0).toInt ≤ m0 + 6))) := by
  unfold sX15_trySteps_48 sX15_trySteps_89
  obtain ⟨r_1, e_r_1, q_r_1⟩ := thR T r_x0 (k := 16) (i := 4) (k2 := 15) rfl (by decide)
  refine s_ref e_r_1 ?_
  obtain ⟨r_2, e_r_2, q_r_2⟩ := thR T q_r_1 (k := 15) (i := 5) (k2 := 75) rfl (by decide)
  refine s_ref e_r_2 ?_
  obtain ⟨r_3, e_r_3, q_r_3⟩ := thR T r_x0 (k := 16) (i := 25) (k2 := 87) rfl (by decide)
  refine s_ref e_r_3 ?_
  have pu_1 : 0 ≤ (hI h r_3 x3.toNatClampNeg).toInt := sa r_3 e_r_3
  refine s_gd (by rw [thN T q_r_3 (k := 87) (n := 64) rfl (by decide)]; exact rg_inB (i_x3 : Rg (0) (63) (x3)) (by decide)) ?_
  have og_2 : Rg (0) (95) ((hI h r_3 x3.toNatClampNeg)) := ⟨(by have hq_ := ((thI T q_r_3 (k := 87) rfl : Rg (-1) (95) ((hI h r_3 x3.toNatClampNeg))) : Rg (-1) (95) ((hI h r_3 x3.toNatClampNeg))); have := hq_.1; have := hq_.2; have := (i_x3 : Rg (0) (63) (x3)).1; have := (i_x3 : Rg (0) (63) (x3)).2; have hq_ := ((thI T r_x5 (k := 14) (i := 0) rfl : Rg (0) (3000) ((hI h x5 0))) : Rg (0) (3000) ((hI h x5 0))); have := hq_.1; have := hq_.2; clear o_x1 o_x5; omega), (by have hq_ := ((thI T q_r_3 (k := 87) rfl : Rg (-1) (95) ((hI h r_3 x3.toNatClampNeg))) : Rg (-1) (95) ((hI h r_3 x3.toNatClampNeg))); have := hq_.1; have := hq_.2; have := (i_x3 : Rg (0) (63) (x3)).1; have := (i_x3 : Rg (0) (63) (x3)).2; have hq_ := ((thI T r_x5 (k := 14) (i := 0) rfl : Rg (0) (3000) ((hI h x5 0))) : Rg (0) (3000) ((hI h x5 0))); have := hq_.1; have := hq_.2; clear o_x1 o_x5; omega)⟩
  refine s_gd (by rw [thN T q_r_2 (k := 75) (n := 96) rfl (by decide)]; exact rg_inB (og_2 : Rg (0) (95) ((hI h r_3 x3.toNatClampNeg))) (by decide)) ?_
  refine s_br (fun c_3 => ?_) (fun c_3 => ?_)
  · have _ := c_3
    have i_f_4 : Rg (0) (0) (((hI h r_2 (hI h r_3 x3.toNatClampNeg).toNatClampNeg) &&& (16 : Int32))) := rg_eq c_3 (rg_b rfl : Rg (0) (0) (0 : Int32))
    exact zX15_trySteps_90 hF (pmO_s hO_x5 rfl) o_x1 o_x5 T r_x0 r_x1 i_x2 i_x3 i_x4 r_x5 i_t0 (rg_m (rg_b rfl : Rg (0) (0) ((0 : Int32))) (by decide)) t4 tm
  · have _ := c_3
    have i_f_5 : Rg (1) (16) (((hI h r_2 (hI h r_3 x3.toNatClampNeg).toNatClampNeg) &&& (16 : Int32))) := rg_nlo c_3 (rg_and (rg_b rfl : Rg (16) (16) ((16 : Int32))) (by decide) : Rg (0) (16) (((hI h r_2 (hI h r_3 x3.toNatClampNeg).toNatClampNeg) &&& (16 : Int32)))) (rg_b rfl : Rg (0) (0) (0 : Int32))
    obtain ⟨r_7, e_r_7, q_r_7⟩ := thR T r_x0 (k := 16) (i := 26) (k2 := 88) rfl (by decide)
    refine s_ref e_r_7 ?_
    refine s_gd (by rw [thN T q_r_7 (k := 88) (n := 64) rfl (by decide)]; exact rg_inB (i_x3 : Rg (0) (63) (x3)) (by decide)) ?_
    refine s_br (fun c_6 => ?_) (fun c_6 => ?_)
    · have _ := c_6
      have i_f_7 : Rg (0) (1) ((hI h r_7 x3.toNatClampNeg)) := rg_le1 c_6 (thI T q_r_7 (k := 88) rfl : Rg (0) (7) ((hI h r_7 x3.toNatClampNeg))) (rg_b rfl : Rg (1) (1) ((1 : Int32)))
      exact zX15_trySteps_90 hF (pmO_s hO_x5 rfl) o_x1 o_x5 T r_x0 r_x1 i_x2 i_x3 i_x4 r_x5 i_t0 (rg_m (rg_b rfl : Rg (0) (0) ((0 : Int32))) (by decide)) t4 tm
    · have _ := c_6
      have i_f_8 : Rg (2) (7) ((hI h r_7 x3.toNatClampNeg)) := rg_lt2 (nle_lt c_6) (rg_b rfl : Rg (1) (1) ((1 : Int32))) (thI T q_r_7 (k := 88) rfl : Rg (0) (7) ((hI h r_7 x3.toNatClampNeg)))
      refine s_ref e_r_7 ?_
      refine s_gd (by rw [thN T q_r_7 (k := 88) (n := 64) rfl (by decide)]; exact rg_inB (i_x3 : Rg (0) (63) (x3)) (by decide)) ?_
      exact zX15_trySteps_90 hF (pmO_s hO_x5 rfl) o_x1 o_x5 T r_x0 r_x1 i_x2 i_x3 i_x4 r_x5 i_t0 (rg_m i_f_8 (by decide)) t4 tm
set_option maxRecDepth 20000 in
theorem zX15_trySteps {ρ : Nat → Nat} {c : Cm} {F : Nat} {w_x1 w_x5 : Nat} (hF : 700000 ≤ F) (hO_x5 : pmO c w_x5 [(66, 999), (67, 999), (68, 999), (69, 999), (70, 999), (71, 999), (72, 999), (14, 0)]) {h : Hp} {x0 : Nat} {x1 : Nat} {x2 : Int32} {x3 : Int32} {x4 : Int32} {x5 : Nat} (o_x1 : cw c x1 = w_x1) (o_x5 : cw c x5 = w_x5) (T : TH ρ c h) (r_x0 : ρ x0 = 16) (r_x1 : ρ x1 = 13) (i_x2 : Rg (0) (63) (x2)) (i_x3 : Rg (0) (63) (x3)) (i_x4 : Rg (0) (11) (x4)) (r_x5 : ρ x5 = 14) (pm : ((hI h x5 0).toInt ≤ 2994)) (sa : (StepAt x0 x3 h)) : Sat (sX15_trySteps F h x0 x1 x2 x3 x4 x5) (ZQ (ZV ρ c) (fun o => (((hI h x5 0).toInt) ≤ (hI o x5 0).toInt) ∧ ((hI o x5 0).toInt ≤ ((hI h x5 0).toInt) + 6))) := by
  unfold sX15_trySteps sX15_manOf
  obtain ⟨r_1, e_r_1, q_r_1⟩ := thR T r_x0 (k := 16) (i := 27) (k2 := 89) rfl (by decide)
  refine s_ref e_r_1 ?_
  refine s_gd (by rw [thN T q_r_1 (k := 89) (n := 64) rfl (by decide)]; exact rg_inB (i_x3 : Rg (0) (63) (x3)) (by decide)) ?_
  refine s_br (fun c_1 => ?_) (fun c_1 => ?_)
  · have _ := c_1
    have i_f_2 : Rg (0) (0) ((hI h r_1 x3.toNatClampNeg)) := rg_eq c_1 (rg_b rfl : Rg (0) (0) (0 : Int32))
    obtain ⟨r_4, e_r_4, q_r_4⟩ := thR T r_x1 (k := 13) (i := 0) (k2 := 62) rfl (by decide)
    refine s_ref e_r_4 ?_
    refine s_gd (by rw [thN T q_r_4 (k := 62) (n := 64) rfl (by decide)]; exact rg_inB (i_x3 : Rg (0) (63) (x3)) (by decide)) ?_
    refine s_br (fun c_3 => ?_) (fun c_3 => ?_)
    · have _ := c_3
      have i_f_4 : Rg (0) (0) ((hI h r_4 x3.toNatClampNeg)) := rg_le1 c_3 (thI T q_r_4 (k := 62) rfl : Rg (0) (24) ((hI h r_4 x3.toNatClampNeg))) (rg_b rfl : Rg (0) (0) (0 : Int32))
      exact zX15_trySteps_48 hF (pmO_s hO_x5 rfl) o_x1 o_x5 T r_x0 r_x1 i_x2 i_x3 i_x4 r_x5 (rg_m (rg_b rfl : Rg (-1) (-1) ((- 1 : Int32))) (by decide)) (show ((hI h x5 0).toInt) ≤ 2994 from (by have hq_ := ((thI T r_x5 (k := 14) (i := 0) rfl : Rg (0) (3000) ((hI h x5 0))) : Rg (0) (3000) ((hI h x5 0))); have := hq_.1; have := hq_.2; clear o_x1 o_x5; omega)) (show (hI h x5 0).toInt = ((hI h x5 0).toInt) from (by have hq_ := ((thI T r_x5 (k := 14) (i := 0) rfl : Rg (0) (3000) ((hI h x5 0))) : Rg (0) (3000) ((hI h x5 0))); have := hq_.1; have := hq_.2; clear o_x1 o_x5; omega)) sa
    · have _ := c_3
      have i_f_5 : Rg (1) (24) ((hI h r_4 x3.toNatClampNeg)) := rg_lt2 (nle_lt c_3) (rg_b rfl : Rg (0) (0) (0 : Int32)) (thI T q_r_4 (k := 62) rfl : Rg (0) (24) ((hI h r_4 x3.toNatClampNeg)))
      refine s_ref e_r_4 ?_
      refine s_gd (by rw [thN T q_r_4 (k := 62) (n := 64) rfl (by decide)]; exact rg_inB (i_x3 : Rg (0) (63) (x3)) (by decide)) ?_
      refine s_pu (fun o_9z e_6 => ?_)
      try dsimp only
      have i_o_9z : Rg (0) (11) (o_9z) := by rw [e_6]; exact (rg_shrk 1 (by decide) (rg_sub i_f_5 (rg_b rfl : Rg (1) (1) ((1 : Int32))) (by decide) : Rg (0) (23) (((hI h r_4 x3.toNatClampNeg) - (1 : Int32)))) (by decide) : Rg (0) (11) (((hI h r_4 x3.toNatClampNeg) - (1 : Int32)) >>> ((1 : Int32) &&& 31)))
      exact zX15_trySteps_48 hF (pmO_s hO_x5 rfl) o_x1 o_x5 T r_x0 r_x1 i_x2 i_x3 i_x4 r_x5 (rg_m i_o_9z (by decide)) (show ((hI h x5 0).toInt) ≤ 2994 from (by have hq_ := ((thI T r_x5 (k := 14) (i := 0) rfl : Rg (0) (3000) ((hI h x5 0))) : Rg (0) (3000) ((hI h x5 0))); have := hq_.1; have := hq_.2; clear o_x1 o_x5; omega)) (show (hI h x5 0).toInt = ((hI h x5 0).toInt) from (by have hq_ := ((thI T r_x5 (k := 14) (i := 0) rfl : Rg (0) (3000) ((hI h x5 0))) : Rg (0) (3000) ((hI h x5 0))); have := hq_.1; have := hq_.2; clear o_x1 o_x5; omega)) sa
  · have _ := c_1
    have i_f_7 : Rg (1) (1) ((hI h r_1 x3.toNatClampNeg)) := rg_nlo c_1 (thI T q_r_1 (k := 89) rfl : Rg (0) (1) ((hI h r_1 x3.toNatClampNeg))) (rg_b rfl : Rg (0) (0) (0 : Int32))
    obtain ⟨r_10, e_r_10, q_r_10⟩ := thR T r_x1 (k := 13) (i := 0) (k2 := 62) rfl (by decide)
    refine s_ref e_r_10 ?_
    obtain ⟨r_11, e_r_11, q_r_11⟩ := thR T r_x1 (k := 13) (i := 4) (k2 := 63) rfl (by decide)
    refine s_ref e_r_11 ?_
    refine s_gd (by rw [thN T q_r_11 (k := 63) (n := 64) rfl (by decide)]; exact rg_inB ((rg_m (rg_b rfl : Rg (0) (0) ((0 : Int32))) (by decide)) : Rg (0) (63) ((0 : Int32))) (by decide)) ?_
    refine s_gd (by rw [thN T q_r_10 (k := 62) (n := 64) rfl (by decide)]; exact rg_inB ((thI T q_r_11 (k := 63) rfl : Rg (0) (63) ((hI h r_11 (0 : Int32).toNatClampNeg))) : Rg (0) (63) ((hI h r_11 (0 : Int32).toNatClampNeg))) (by decide)) ?_
    refine s_pu (fun o_14z e_8 => ?_)
    try dsimp only
    have i_o_14z : Rg (-1) (11) (o_14z) := by rw [e_8]; exact (rg_shrk 1 (by decide) (rg_sub (thI T q_r_10 (k := 62) rfl : Rg (0) (24) ((hI h r_10 (hI h r_11 (0 : Int32).toNatClampNeg).toNatClampNeg))) (rg_b rfl : Rg (1) (1) ((1 : Int32))) (by decide) : Rg (-1) (23) (((hI h r_10 (hI h r_11 (0 : Int32).toNatClampNeg).toNatClampNeg) - (1 : Int32)))) (by decide) : Rg (-1) (11) (((hI h r_10 (hI h r_11 (0 : Int32).toNatClampNeg).toNatClampNeg) - (1 : Int32)) >>> ((1 : Int32) &&& 31)))
    exact zX15_trySteps_48 hF (pmO_s hO_x5 rfl) o_x1 o_x5 T r_x0 r_x1 i_x2 i_x3 i_x4 r_x5 i_o_14z (show ((hI h x5 0).toInt) ≤ 2994 from (by have hq_ := ((thI T r_x5 (k := 14) (i := 0) rfl : Rg (0) (3000) ((hI h x5 0))) : Rg (0) (3000) ((hI h x5 0))); have := hq_.1; have := hq_.2; clear o_x1 o_x5; omega)) (show (hI h x5 0).toInt = ((hI h x5 0).toInt) from (by have hq_ := ((thI T r_x5 (k := 14) (i := 0) rfl : Rg (0) (3000) ((hI h x5 0))) : Rg (0) (3000) ((hI h x5 0))); have := hq_.1; have := hq_.2; clear o_x1 o_x5; omega)) sa
set_option maxRecDepth 20000 in
theorem zX15_tryAll_202 {ρ : Nat → Nat} {c : Cm} {F : Nat} {w_x1 w_x2 : Nat} (hF : 700000 ≤ F) {k_122 : Hp → Nat → Nat → Nat → Int32 → Option (Hp)} {C_122 : Int} {k_143 : Hp → Nat → Nat → Nat → Int32 → Int32 → Option (Hp)} {C_143 : Int} (hk_122 : ∀ {h : Hp} {x0 : Nat} {x1 : Nat} {x2 : Nat} {x3 : Int32}, cw c x1 = w_x1 → cw c x2 = w_x2 → TH ρ c h → ρ x0 = 16 → ρ x1 = 13 → ρ x2 = 14 → Rg (0) (64) (x3) → (MvB x0 x1 x2 h) → (Bd x0 x1 x2 (f122 x3) h) → C_122 < x3.toInt → Sat (k_122 h x0 x1 x2 x3) (ZQ (ZV ρ c) (fun o => MvB x0 x1 x2 o))) (hk_143 : ∀ {h : Hp} {x0 : Nat} {x1 : Nat} {x2 : Nat} {x3 : Int32} {x4 : Int32}, cw c x1 = w_x1 → cw c x2 = w_x2 → TH ρ c h → ρ x0 = 16 → ρ x1 = 13 → ρ x2 = 14 → Rg (0) (63) (x3) → Rg (0) (12) (x4) → C_122 ≤ x3.toInt → (MvB x0 x1 x2 h) → (Bd x0 x1 x2 (f143 x3 x4) h) → C_143 < x4.toInt → Sat (k_143 h x0 x1 x2 x3 x4) (ZQ (ZV ρ c) (fun o => MvB x0 x1 x2 o))) (hO_x2 : pmO c w_x2 [(66, 999), (67, 999), (68, 999), (69, 999), (70, 999), (71, 999), (72, 999), (14, 0)]) {h : Hp} {x0 : Nat} {x1 : Nat} {x2 : Nat} {x3 : Int32} {x4 : Int32} {t0 : Int32} (o_x1 : cw c x1 = w_x1) (o_x2 : cw c x2 = w_x2) (T : TH ρ c h) (r_x0 : ρ x0 = 16) (r_x1 : ρ x1 = 13) (r_x2 : ρ x2 = 14) (i_x3 : Rg (0) (63) (x3)) (i_x4 : Rg (0) (11) (x4)) (i_t0 : Rg (0) (1) (t0)) (hc_122 : C_122 ≤ x3.toInt) (hc_143 : C_143 ≤ x4.toInt) (mv : (MvB x0 x1 x2 h)) (p202 : (Bd x0 x1 x2 (f202 x3 x4) h)) : Sat (sX15_tryAll_202 F k_122 k_143 h x0 x1 x2 x3 x4 t0) (ZQ (ZV ρ c) (fun o => MvB x0 x1 x2 o)) := by
  unfold sX15_tryAll_202 sX15_tryAll_238
  have u0_P202 : (hI h x2 0).toInt ≤ 2977 := u202 T r_x0 r_x1 p202
  obtain ⟨r_1, e_r_1, q_r_1⟩ := thR T r_x1 (k := 13) (i := 5) (k2 := 64) rfl (by decide)
  refine s_ref e_r_1 ?_
  refine s_gd (by rw [thN T q_r_1 (k := 64) (n := 24) rfl (by decide)]; exact rg_inB ((rg_add (rg_mulc' (rg_b rfl : Rg (2) (2) ((2 : Int32))) i_x4 (by decide) : Rg (0) (22) (((2 : Int32) * x4))) (thI T r_x1 (k := 13) (i := 1) rfl : Rg (0) (1) ((hI h x1 1))) (by decide) : Rg (0) (23) ((((2 : Int32) * x4) + (hI h x1 1)))) : Rg (0) (23) ((((2 : Int32) * x4) + (hI h x1 1)))) (by decide)) ?_
  refine s_br (fun c_1 => ?_) (fun c_1 => ?_)
  · have _ := c_1
    have i_f_2 : Rg (0) (0) ((hI h r_1 (((2 : Int32) * x4) + (hI h x1 1)).toNatClampNeg)) := rg_le1 c_1 (thI T q_r_1 (k := 64) rfl : Rg (0) (16) ((hI h r_1 (((2 : Int32) * x4) + (hI h x1 1)).toNatClampNeg))) (rg_b rfl : Rg (0) (0) (0 : Int32))
    refine s_q (fun v_1q1 e_3 => ?_)
    have i_v_1q1 : Rg (1) (12) (v_1q1) := by rw [e_3]; exact (rg_add i_x4 (rg_b rfl : Rg (1) (1) ((1 : Int32))) (by decide) : Rg (1) (12) (x4 + (1 : Int32)))
    have m_4 : (v_1q1).toInt = x4.toInt + 1 := by rw [e_3]; exact rg_inc i_x4 (by decide)
    exact hk_143 o_x1 o_x2 T r_x0 r_x1 r_x2 i_x3 (rg_m i_v_1q1 (by decide)) hc_122 mv (t238_143 T r_x0 (t202_238 T r_x0 p202) e_3) (by have := hc_143; omega)
  · have _ := c_1
    have i_f_5 : Rg (1) (16) ((hI h r_1 (((2 : Int32) * x4) + (hI h x1 1)).toNatClampNeg)) := rg_lt2 (nle_lt c_1) (rg_b rfl : Rg (0) (0) (0 : Int32)) (thI T q_r_1 (k := 64) rfl : Rg (0) (16) ((hI h r_1 (((2 : Int32) * x4) + (hI h x1 1)).toNatClampNeg)))
    refine s_br (fun c_6 => ?_) (fun c_6 => ?_)
    · have _ := c_6
      have i_f_7 : Rg (0) (0) (t0) := rg_eq c_6 (rg_b rfl : Rg (0) (0) (0 : Int32))
      refine s_cVq (s_weq2 (zX13_add hF (pmO_s hO_x2 rfl) o_x2 T r_x2 (rg_m (rg_b rfl : Rg (-1) (-1) ((- 1 : Int32))) (by decide)) i_x3 i_x4 (rg_m (rg_b rfl : Rg (-1) (-1) ((- 1 : Int32))) (by decide)) (rg_m (rg_b rfl : Rg (-1) (-1) ((- 1 : Int32))) (by decide)) (rg_m (rg_b rfl : Rg (3) (3) ((3 : Int32))) (by decide)) (rg_m (rg_b rfl : Rg (0) (0) ((0 : Int32))) (by decide)) (show (hI h x2 0).toInt ≤ 2999 from (by have : ((- 1 : Int32)).toInt = -1 := rfl; have := (i_x3 : Rg (0) (63) (x3)).1; have := (i_x3 : Rg (0) (63) (x3)).2; have := (i_x4 : Rg (0) (11) (x4)).1; have := (i_x4 : Rg (0) (11) (x4)).2; have : ((3 : Int32)).toInt = 3 := rfl; have : ((0 : Int32)).toInt = 0 := rfl; have hq_ := ((thI T r_x2 (k := 14) (i := 0) rfl : Rg (0) (3000) ((hI h x2 0))) : Rg (0) (3000) ((hI h x2 0))); have := hq_.1; have := hq_.2; have := nle_i c_1; have := (i_f_5 : Rg (1) (16) ((hI h r_1 (((2 : Int32) * x4) + (hI h x1 1)).toNatClampNeg))).1; have := (i_f_5 : Rg (1) (16) ((hI h r_1 (((2 : Int32) * x4) + (hI h x1 1)).toNatClampNeg))).2; have : (0 : Int32).toInt = 0 := rfl; clear o_x1 o_x2; omega)))) (fun o_5 T_8 p_o_5 => ?_)
      have eb_o_5 := p_o_5.2
      have pq_o_5_0 : (hI o_5 x2 0).toInt = ((hI h x2 0).toInt) + 1 := p_o_5.1
      have es_9 := h202 T r_x0 r_x1 r_x2 p202 mv e_r_1 c_1 eb_o_5
      refine s_q (fun v_1q2 e_10 => ?_)
      have i_v_1q2 : Rg (1) (12) (v_1q2) := by rw [e_10]; exact (rg_add i_x4 (rg_b rfl : Rg (1) (1) ((1 : Int32))) (by decide) : Rg (1) (12) (x4 + (1 : Int32)))
      have m_11 : (v_1q2).toInt = x4.toInt + 1 := by rw [e_10]; exact rg_inc i_x4 (by decide)
      exact hk_143 o_x1 o_x2 T_8 r_x0 r_x1 r_x2 i_x3 (rg_m i_v_1q2 (by decide)) hc_122 es_9.1 (t238_143 T_8 r_x0 es_9.2 e_10) (by have := hc_143; omega)
    · have _ := c_6
      have i_f_12 : Rg (1) (1) (t0) := rg_nlo c_6 i_t0 (rg_b rfl : Rg (0) (0) (0 : Int32))
      refine s_q (fun v_1q3 e_13 => ?_)
      have i_v_1q3 : Rg (1) (12) (v_1q3) := by rw [e_13]; exact (rg_add i_x4 (rg_b rfl : Rg (1) (1) ((1 : Int32))) (by decide) : Rg (1) (12) (x4 + (1 : Int32)))
      have m_14 : (v_1q3).toInt = x4.toInt + 1 := by rw [e_13]; exact rg_inc i_x4 (by decide)
      exact hk_143 o_x1 o_x2 T r_x0 r_x1 r_x2 i_x3 (rg_m i_v_1q3 (by decide)) hc_122 mv (t238_143 T r_x0 (t202_238 T r_x0 p202) e_13) (by have := hc_143; omega)
set_option maxRecDepth 20000 in
theorem zX15_tryAll_84 {ρ : Nat → Nat} {c : Cm} {F : Nat} {w_x1 w_x2 : Nat} (hF : 700000 ≤ F) {k_7 : Hp → Nat → Nat → Nat → Int32 → Option (Hp)} {C_7 : Int} {k_50 : Hp → Nat → Nat → Nat → Int32 → Int32 → Int32 → Option (Hp)} {C_50 : Int} (hk_7 : ∀ {h : Hp} {x0 : Nat} {x1 : Nat} {x2 : Nat} {x3 : Int32}, cw c x1 = w_x1 → cw c x2 = w_x2 → TH ρ c h → ρ x0 = 16 → ρ x1 = 13 → ρ x2 = 14 → Rg (0) (64) (x3) → (MvB x0 x1 x2 h) → (PE x1 h) → (Bd x0 x1 x2 (f7 x3) h) → C_7 < x3.toInt → Sat (k_7 h x0 x1 x2 x3) (ZQ (ZV ρ c) (fun o => MvB x0 x1 x2 o))) (hk_50 : ∀ {h : Hp} {x0 : Nat} {x1 : Nat} {x2 : Nat} {x3 : Int32} {x4 : Int32} {x5 : Int32}, cw c x1 = w_x1 → cw c x2 = w_x2 → TH ρ c h → ρ x0 = 16 → ρ x1 = 13 → ρ x2 = 14 → Rg (0) (63) (x3) → Rg (1) (24) (x4) → Rg (0) (64) (x5) → C_7 ≤ x3.toInt → (MvB x0 x1 x2 h) → (PE x1 h) → (LedB x0 x1 x3 h) → (Bd x0 x1 x2 (f50 x3 x5) h) → C_50 < x5.toInt → Sat (k_50 h x0 x1 x2 x3 x4 x5) (ZQ (ZV ρ c) (fun o => MvB x0 x1 x2 o))) (hA : pmA c [(16, 23), (16, 24)]) (hO_x2 : pmO c w_x2 [(66, 999), (67, 999), (68, 999), (69, 999), (70, 999), (71, 999), (72, 999), (14, 0)]) {h : Hp} {x0 : Nat} {x1 : Nat} {x2 : Nat} {x3 : Int32} {x4 : Int32} {x5 : Int32} (o_x1 : cw c x1 = w_x1) (o_x2 : cw c x2 = w_x2) (T : TH ρ c h) (r_x0 : ρ x0 = 16) (r_x1 : ρ x1 = 13) (r_x2 : ρ x2 = 14) (i_x3 : Rg (0) (63) (x3)) (i_x4 : Rg (1) (24) (x4)) (i_x5 : Rg (0) (63) (x5)) (hc_7 : C_7 ≤ x3.toInt) (hc_50 : C_50 ≤ x5.toInt) (mv : (MvB x0 x1 x2 h)) (pe : (PE x1 h)) (lb : (LedB x0 x1 x3 h)) (p84 : (Bd x0 x1 x2 (f84 x3 x5) h)) : Sat (sX15_tryAll_84 F k_7 k_50 h x0 x1 x2 x3 x4 x5) (ZQ (ZV ρ c) (fun o => MvB x0 x1 x2 o)) := by
  unfold sX15_tryAll_84 sX15_manOf sX15_tryAll_108
  have u0_P84 : (hI h x2 0).toInt ≤ 2900 := u84 T r_x0 r_x1 p84
  refine s_pu (fun o_1z e_1 => ?_)
  try dsimp only
  have i_o_1z : Rg (0) (11) (o_1z) := by rw [e_1]; exact (rg_shrk 1 (by decide) (rg_sub i_x4 (rg_b rfl : Rg (1) (1) ((1 : Int32))) (by decide) : Rg (0) (23) ((x4 - (1 : Int32)))) (by decide) : Rg (0) (11) ((x4 - (1 : Int32)) >>> ((1 : Int32) &&& 31)))
  obtain ⟨r_2, e_r_2, q_r_2⟩ := thR T r_x0 (k := 16) (i := 4) (k2 := 15) rfl (by decide)
  refine s_ref e_r_2 ?_
  refine s_br (fun c_2 => ?_) (fun c_2 => ?_)
  · have _ := c_2
    have i_f_3 : Rg (0) (11) ((hI h r_2 10)) := rg_eq c_2.symm i_o_1z
    refine s_cVfq (S := fS [(16, 23), (16, 24)] [(w_x2, [(66, 999), (67, 999), (68, 999), (69, 999), (70, 999), (71, 999), (72, 999), (14, 0)])]) T (fs_sub (pmA_s hA rfl) (fs_c (pmO_s hO_x2 rfl) fs_n)) (zX15_tryCastling hF fs_a (fs_o (.head _)) o_x1 o_x2 (th_in _ T) r_x0 r_x1 i_x3 i_x5 r_x2 (show (hI h x2 0).toInt ≤ 2999 from (by have := (i_x3 : Rg (0) (63) (x3)).1; have := (i_x3 : Rg (0) (63) (x3)).2; have := (i_x5 : Rg (0) (63) (x5)).1; have := (i_x5 : Rg (0) (63) (x5)).2; have hq_ := ((thI T r_x2 (k := 14) (i := 0) rfl : Rg (0) (3000) ((hI h x2 0))) : Rg (0) (3000) ((hI h x2 0))); have := hq_.1; have := hq_.2; clear o_x1 o_x2; omega)) (fun r hr => by rw [r_eq e_r_2 hr, ← c_2]; exact (i_o_1z : Rg (0) (11) (o_1z)).1) mv (ca_of T p84)) (fun o_4 T_4 f_o_4 p_o_4 => ?_)
    have pq_o_4_0 : (hI o_4 x2 0).toInt = ((hI h x2 0).toInt) ∨ ((hI o_4 x2 0).toInt = ((hI h x2 0).toInt) + 1 ∧ (((x5).toInt) = ((x3).toInt) + 2 ∨ ((x5).toInt) = ((x3).toInt) - 2)) := p_o_4.1
    refine s_q (fun v_1q1 e_5 => ?_)
    have i_v_1q1 : Rg (1) (64) (v_1q1) := by rw [e_5]; exact (rg_add i_x5 (rg_b rfl : Rg (1) (1) ((1 : Int32))) (by decide) : Rg (1) (64) (x5 + (1 : Int32)))
    have pf_6 : PE x1 o_4 := (pe_fr T r_x1 f_o_4 rfl rfl rfl (fun _ => rfl) (fun _ => rfl) pe)
    have pf_7 : LedB x0 x1 x3 o_4 := (lb_fr T r_x0 r_x1 f_o_4 (fun _ => rfl) (fun _ => rfl) (fun _ => rfl) (fun _ => rfl) (fun _ => rfl) (fun _ => rfl) (fun _ => rfl) (fun _ => rfl) (fun _ _ => rfl) (fun _ _ => rfl) (fun _ _ => rfl) (fun _ _ => rfl) lb)
    have m_8 : (v_1q1).toInt = x5.toInt + 1 := by rw [e_5]; exact rg_inc i_x5 (by decide)
    exact hk_50 o_x1 o_x2 T_4 r_x0 r_x1 r_x2 i_x3 i_x4 (rg_m i_v_1q1 (by decide)) hc_7 p_o_4.2 pf_6 pf_7 (t108_50 T_4 r_x0 (t84_108c T r_x0 r_x1 f_o_4 (fun _ => rfl) (fun _ => rfl) (fun _ => rfl) (fun _ => rfl) (fun _ => rfl) (fun _ _ => rfl) (show (hI o_4 x2 0).toInt = (hI h x2 0).toInt ∨ ((hI o_4 x2 0).toInt = (hI h x2 0).toInt + 1 ∧ (x5.toInt = x3.toInt + 2 ∨ x5.toInt = x3.toInt - 2)) from pq_o_4_0) p84) e_5) (by have := hc_50; omega)
  · have _ := c_2
    refine s_q (fun v_1q2 e_9 => ?_)
    have i_v_1q2 : Rg (1) (64) (v_1q2) := by rw [e_9]; exact (rg_add i_x5 (rg_b rfl : Rg (1) (1) ((1 : Int32))) (by decide) : Rg (1) (64) (x5 + (1 : Int32)))
    have m_10 : (v_1q2).toInt = x5.toInt + 1 := by rw [e_9]; exact rg_inc i_x5 (by decide)
    exact hk_50 o_x1 o_x2 T r_x0 r_x1 r_x2 i_x3 i_x4 (rg_m i_v_1q2 (by decide)) hc_7 mv pe lb (t108_50 T r_x0 (t84_108 T r_x0 p84) e_9) (by have := hc_50; omega)
set_option maxRecDepth 20000 in
theorem zX15_tryAll_143 {ρ : Nat → Nat} {c : Cm} {F : Nat} {w_x1 w_x2 : Nat} (hF : 700000 ≤ F) {k_122 : Hp → Nat → Nat → Nat → Int32 → Option (Hp)} {C_122 : Int} (hk_122 : ∀ {h : Hp} {x0 : Nat} {x1 : Nat} {x2 : Nat} {x3 : Int32}, cw c x1 = w_x1 → cw c x2 = w_x2 → TH ρ c h → ρ x0 = 16 → ρ x1 = 13 → ρ x2 = 14 → Rg (0) (64) (x3) → (MvB x0 x1 x2 h) → (Bd x0 x1 x2 (f122 x3) h) → C_122 < x3.toInt → Sat (k_122 h x0 x1 x2 x3) (ZQ (ZV ρ c) (fun o => MvB x0 x1 x2 o))) (hO_x2 : pmO c w_x2 [(66, 999), (67, 999), (68, 999), (69, 999), (70, 999), (71, 999), (72, 999), (14, 0)]) : ∀ (f : Nat) {h : Hp} {x0 : Nat} {x1 : Nat} {x2 : Nat} {x3 : Int32} {x4 : Int32}, cw c x1 = w_x1 → cw c x2 = w_x2 → TH ρ c h → ρ x0 = 16 → ρ x1 = 13 → ρ x2 = 14 → Rg (0) (63) (x3) → Rg (0) (12) (x4) → C_122 ≤ x3.toInt → (MvB x0 x1 x2 h) → (Bd x0 x1 x2 (f143 x3 x4) h) → (12 - x4.toInt).toNat < f → Sat (sX15_tryAll_143 F k_122 f h x0 x1 x2 x3 x4) (ZQ (ZV ρ c) (fun o => MvB x0 x1 x2 o)) := by
  intro f
  induction f with
  | zero => intros; omega
  | succ f ih =>
    intro h x0 x1 x2 x3 x4 o_x1 o_x2 T r_x0 r_x1 r_x2 i_x3 i_x4 hc_122 mv p143 hm
    rw [sX15_tryAll_143]
    unfold sX15_tryAll_244 sX15_tryAll_201 sX15_tryAll_197
    obtain ⟨C_143, hC_143⟩ : ∃ C : Int, C = x4.toInt := ⟨_, rfl⟩
    have hk_143 : ∀ {h : Hp} {x0 : Nat} {x1 : Nat} {x2 : Nat} {x3 : Int32} {x4 : Int32}, cw c x1 = w_x1 → cw c x2 = w_x2 → TH ρ c h → ρ x0 = 16 → ρ x1 = 13 → ρ x2 = 14 → Rg (0) (63) (x3) → Rg (0) (12) (x4) → C_122 ≤ x3.toInt → (MvB x0 x1 x2 h) → (Bd x0 x1 x2 (f143 x3 x4) h) → C_143 < x4.toInt → Sat (sX15_tryAll_143 F k_122 f h x0 x1 x2 x3 x4) (ZQ (ZV ρ c) (fun o => MvB x0 x1 x2 o)) := by
      intro h' x0' x1' x2' x3' x4' o_x1' o_x2' T' r_x0' r_x1' r_x2' i_x3' i_x4' hc_122' mv' p143' hl
      exact ih o_x1' o_x2' T' r_x0' r_x1' r_x2' i_x3' i_x4' hc_122' mv' p143' (by have := i_x4'.1; have := i_x4'.2; omega)
    have hc_143 : C_143 ≤ x4.toInt := by omega
    obtain ⟨r_1, e_r_1, q_r_1⟩ := thR T r_x0 (k := 16) (i := 4) (k2 := 15) rfl (by decide)
    refine s_ref e_r_1 ?_
    refine s_br (fun c_1 => ?_) (fun c_1 => ?_)
    · have _ := c_1
      refine s_q (fun v_1q1 e_2 => ?_)
      have i_v_1q1 : Rg (1) (64) (v_1q1) := by rw [e_2]; exact (rg_add i_x3 (rg_b rfl : Rg (1) (1) ((1 : Int32))) (by decide) : Rg (1) (64) (x3 + (1 : Int32)))
      have m_3 : (v_1q1).toInt = x3.toInt + 1 := by rw [e_2]; exact rg_inc i_x3 (by decide)
      exact hk_122 o_x1 o_x2 T r_x0 r_x1 r_x2 (rg_m i_v_1q1 (by decide)) mv (t244_122 T r_x0 (t143_244 T r_x0 p143) e_2) (by have := hc_122; omega)
    · have _ := c_1
      have i_f_4 : Rg (0) (11) (x4) := rg_lt1 (nle_lt c_1) i_x4 (thI T q_r_1 (k := 15) (i := 2) rfl : Rg (0) (12) ((hI h r_1 2)))
      have i_f_5 : Rg (1) (12) ((hI h r_1 2)) := rg_lt2 (nle_lt c_1) i_x4 (thI T q_r_1 (k := 15) (i := 2) rfl : Rg (0) (12) ((hI h r_1 2)))
      obtain ⟨r_3, e_r_3, q_r_3⟩ := thR T r_x1 (k := 13) (i := 0) (k2 := 62) rfl (by decide)
      refine s_ref e_r_3 ?_
      refine s_gd (by rw [thN T q_r_3 (k := 62) (n := 64) rfl (by decide)]; exact rg_inB (i_x3 : Rg (0) (63) (x3)) (by decide)) ?_
      refine s_br (fun c_6 => ?_) (fun c_6 => ?_)
      · have _ := c_6
        have i_f_7 : Rg (0) (0) ((hI h r_3 x3.toNatClampNeg)) := rg_eq c_6 (rg_b rfl : Rg (0) (0) (0 : Int32))
        refine s_dI0 (zX15_becomesOthers hF T r_x0 i_f_4) (fun o_6 eb_o_6 e_o_6 i_o_6 => ?_)
        have T_8 := th_eq e_o_6 T
        refine s_br (fun c_9 => ?_) (fun c_9 => ?_)
        · have _ := c_9
          have i_f_10 : Rg (0) (0) (o_6.1) := rg_eq c_9 (rg_b rfl : Rg (0) (0) (0 : Int32))
          have pf_11 : MvB x0 x1 x2 o_6.2 := (by rw [e_o_6]; exact mv)
          have es_12 : x4.toInt < 12 := by have := (i_f_4 : Rg (0) (11) (x4)).2; omega
          have pf_13 : Bd x0 x1 x2 (f202 x3 x4) o_6.2 := (by rw [e_o_6]; exact (t143_202 e_r_3 p143 es_12 c_6))
          exact zX15_tryAll_202 hF @hk_122 @hk_143 (pmO_s hO_x2 rfl) o_x1 o_x2 T_8 r_x0 r_x1 r_x2 i_x3 i_f_4 (rg_m (rg_b rfl : Rg (0) (0) ((0 : Int32))) (by decide)) hc_122 hc_143 pf_11 pf_13
        · have _ := c_9
          have i_f_14 : Rg (1) (1) (o_6.1) := rg_nlo c_9 i_o_6 (rg_b rfl : Rg (0) (0) (0 : Int32))
          refine s_gd (rg_ne0 (thI T_8 r_x0 (k := 16) (i := 11) rfl : Rg (3) (8) ((hI o_6.2 x0 11))) (by decide)) ?_
          refine s_br (fun c_15 => ?_) (fun c_15 => ?_)
          · have _ := c_15
            have i_f_16 : Rg (0) (0) ((x3 / (hI o_6.2 x0 11))) := rg_eq c_15 (rg_b rfl : Rg (0) (0) (0 : Int32))
            have pf_17 : MvB x0 x1 x2 o_6.2 := (by rw [e_o_6]; exact mv)
            have es_18 : x4.toInt < 12 := by have := (i_f_4 : Rg (0) (11) (x4)).2; omega
            have pf_19 : Bd x0 x1 x2 (f202 x3 x4) o_6.2 := (by rw [e_o_6]; exact (t143_202 e_r_3 p143 es_18 c_6))
            exact zX15_tryAll_202 hF @hk_122 @hk_143 (pmO_s hO_x2 rfl) o_x1 o_x2 T_8 r_x0 r_x1 r_x2 i_x3 i_f_4 (rg_m (rg_b rfl : Rg (1) (1) ((1 : Int32))) (by decide)) hc_122 hc_143 pf_17 pf_19
          · have _ := c_15
            have i_f_20 : Rg (1) (21) ((x3 / (hI o_6.2 x0 11))) := rg_nlo c_15 (rg_divw i_x3 (thI T_8 r_x0 (k := 16) (i := 11) rfl : Rg (3) (8) ((hI o_6.2 x0 11))) (by decide) : Rg (0) (21) ((x3 / (hI o_6.2 x0 11)))) (rg_b rfl : Rg (0) (0) (0 : Int32))
            refine s_gd (rg_ne0 (thI T_8 r_x0 (k := 16) (i := 11) rfl : Rg (3) (8) ((hI o_6.2 x0 11))) (by decide)) ?_
            refine s_br (fun c_21 => ?_) (fun c_21 => ?_)
            · have _ := c_21
              have i_f_22 : Rg (2) (7) ((x3 / (hI o_6.2 x0 11))) := rg_eq c_21 (rg_sub (thI T_8 r_x0 (k := 16) (i := 12) rfl : Rg (3) (8) ((hI o_6.2 x0 12))) (rg_b rfl : Rg (1) (1) ((1 : Int32))) (by decide) : Rg (2) (7) (((hI o_6.2 x0 12) - (1 : Int32))))
              have pf_23 : MvB x0 x1 x2 o_6.2 := (by rw [e_o_6]; exact mv)
              have es_24 : x4.toInt < 12 := by have := (i_f_4 : Rg (0) (11) (x4)).2; omega
              have pf_25 : Bd x0 x1 x2 (f202 x3 x4) o_6.2 := (by rw [e_o_6]; exact (t143_202 e_r_3 p143 es_24 c_6))
              exact zX15_tryAll_202 hF @hk_122 @hk_143 (pmO_s hO_x2 rfl) o_x1 o_x2 T_8 r_x0 r_x1 r_x2 i_x3 i_f_4 (rg_m (rg_b rfl : Rg (1) (1) ((1 : Int32))) (by decide)) hc_122 hc_143 pf_23 pf_25
            · have _ := c_21
              have pf_26 : MvB x0 x1 x2 o_6.2 := (by rw [e_o_6]; exact mv)
              have es_27 : x4.toInt < 12 := by have := (i_f_4 : Rg (0) (11) (x4)).2; omega
              have pf_28 : Bd x0 x1 x2 (f202 x3 x4) o_6.2 := (by rw [e_o_6]; exact (t143_202 e_r_3 p143 es_27 c_6))
              exact zX15_tryAll_202 hF @hk_122 @hk_143 (pmO_s hO_x2 rfl) o_x1 o_x2 T_8 r_x0 r_x1 r_x2 i_x3 i_f_4 (rg_m (rg_b rfl : Rg (0) (0) ((0 : Int32))) (by decide)) hc_122 hc_143 pf_26 pf_28
      · have _ := c_6
        have i_f_29 : Rg (1) (24) ((hI h r_3 x3.toNatClampNeg)) := rg_nlo c_6 (thI T q_r_3 (k := 62) rfl : Rg (0) (24) ((hI h r_3 x3.toNatClampNeg))) (rg_b rfl : Rg (0) (0) (0 : Int32))
        refine s_q (fun v_1q6 e_30 => ?_)
        have i_v_1q6 : Rg (1) (64) (v_1q6) := by rw [e_30]; exact (rg_add i_x3 (rg_b rfl : Rg (1) (1) ((1 : Int32))) (by decide) : Rg (1) (64) (x3 + (1 : Int32)))
        have m_31 : (v_1q6).toInt = x3.toInt + 1 := by rw [e_30]; exact rg_inc i_x3 (by decide)
        exact hk_122 o_x1 o_x2 T r_x0 r_x1 r_x2 (rg_m i_v_1q6 (by decide)) mv (t244_122 T r_x0 (t143_244 T r_x0 p143) e_30) (by have := hc_122; omega)
set_option maxRecDepth 20000 in
theorem zX15_tryAll_50 {ρ : Nat → Nat} {c : Cm} {F : Nat} {w_x1 w_x2 : Nat} (hF : 700000 ≤ F) {k_7 : Hp → Nat → Nat → Nat → Int32 → Option (Hp)} {C_7 : Int} (hk_7 : ∀ {h : Hp} {x0 : Nat} {x1 : Nat} {x2 : Nat} {x3 : Int32}, cw c x1 = w_x1 → cw c x2 = w_x2 → TH ρ c h → ρ x0 = 16 → ρ x1 = 13 → ρ x2 = 14 → Rg (0) (64) (x3) → (MvB x0 x1 x2 h) → (PE x1 h) → (Bd x0 x1 x2 (f7 x3) h) → C_7 < x3.toInt → Sat (k_7 h x0 x1 x2 x3) (ZQ (ZV ρ c) (fun o => MvB x0 x1 x2 o))) (hA : pmA c [(16, 23), (16, 24)]) (hO_x2 : pmO c w_x2 [(66, 999), (67, 999), (68, 999), (69, 999), (70, 999), (71, 999), (72, 999), (14, 0)]) : ∀ (f : Nat) {h : Hp} {x0 : Nat} {x1 : Nat} {x2 : Nat} {x3 : Int32} {x4 : Int32} {x5 : Int32}, cw c x1 = w_x1 → cw c x2 = w_x2 → TH ρ c h → ρ x0 = 16 → ρ x1 = 13 → ρ x2 = 14 → Rg (0) (63) (x3) → Rg (1) (24) (x4) → Rg (0) (64) (x5) → C_7 ≤ x3.toInt → (MvB x0 x1 x2 h) → (PE x1 h) → (LedB x0 x1 x3 h) → (Bd x0 x1 x2 (f50 x3 x5) h) → (64 - x5.toInt).toNat < f → Sat (sX15_tryAll_50 F k_7 f h x0 x1 x2 x3 x4 x5) (ZQ (ZV ρ c) (fun o => MvB x0 x1 x2 o)) := by
  intro f
  induction f with
  | zero => intros; omega
  | succ f ih =>
    intro h x0 x1 x2 x3 x4 x5 o_x1 o_x2 T r_x0 r_x1 r_x2 i_x3 i_x4 i_x5 hc_7 mv pe lb p50 hm
    rw [sX15_tryAll_50]
    unfold sX15_tryAll_114 sX15_manOf
    obtain ⟨C_50, hC_50⟩ : ∃ C : Int, C = x5.toInt := ⟨_, rfl⟩
    have hk_50 : ∀ {h : Hp} {x0 : Nat} {x1 : Nat} {x2 : Nat} {x3 : Int32} {x4 : Int32} {x5 : Int32}, cw c x1 = w_x1 → cw c x2 = w_x2 → TH ρ c h → ρ x0 = 16 → ρ x1 = 13 → ρ x2 = 14 → Rg (0) (63) (x3) → Rg (1) (24) (x4) → Rg (0) (64) (x5) → C_7 ≤ x3.toInt → (MvB x0 x1 x2 h) → (PE x1 h) → (LedB x0 x1 x3 h) → (Bd x0 x1 x2 (f50 x3 x5) h) → C_50 < x5.toInt → Sat (sX15_tryAll_50 F k_7 f h x0 x1 x2 x3 x4 x5) (ZQ (ZV ρ c) (fun o => MvB x0 x1 x2 o)) := by
      intro h' x0' x1' x2' x3' x4' x5' o_x1' o_x2' T' r_x0' r_x1' r_x2' i_x3' i_x4' i_x5' hc_7' mv' pe' lb' p50' hl
      exact ih o_x1' o_x2' T' r_x0' r_x1' r_x2' i_x3' i_x4' i_x5' hc_7' mv' pe' lb' p50' (by have := i_x5'.1; have := i_x5'.2; omega)
    have hc_50 : C_50 ≤ x5.toInt := by omega
    have u0_P50 : (hI h x2 0).toInt ≤ 2900 := u50 T r_x0 r_x1 p50
    refine s_br (fun c_1 => ?_) (fun c_1 => ?_)
    · have _ := c_1
      have i_f_2 : Rg (9) (64) (x5) := rg_le2 c_1 (thI T r_x0 (k := 16) (i := 13) rfl : Rg (9) (64) ((hI h x0 13))) i_x5
      refine s_q (fun v_1q1 e_3 => ?_)
      have i_v_1q1 : Rg (1) (64) (v_1q1) := by rw [e_3]; exact (rg_add i_x3 (rg_b rfl : Rg (1) (1) ((1 : Int32))) (by decide) : Rg (1) (64) (x3 + (1 : Int32)))
      have m_4 : (v_1q1).toInt = x3.toInt + 1 := by rw [e_3]; exact rg_inc i_x3 (by decide)
      exact hk_7 o_x1 o_x2 T r_x0 r_x1 r_x2 (rg_m i_v_1q1 (by decide)) mv pe (t114_7 T r_x0 (t50_114 T r_x0 p50 c_1) e_3) (by have := hc_7; omega)
    · have _ := c_1
      have i_f_5 : Rg (0) (63) (x5) := rg_lt1 (nle_lt c_1) i_x5 (thI T r_x0 (k := 16) (i := 13) rfl : Rg (9) (64) ((hI h x0 13)))
      obtain ⟨r_2, e_r_2, q_r_2⟩ := thR T r_x0 (k := 16) (i := 25) (k2 := 87) rfl (by decide)
      refine s_ref e_r_2 ?_
      refine s_gd (by rw [thN T q_r_2 (k := 87) (n := 64) rfl (by decide)]; exact rg_inB (i_f_5 : Rg (0) (63) (x5)) (by decide)) ?_
      refine s_br (fun c_6 => ?_) (fun c_6 => ?_)
      · have _ := c_6
        have i_f_7 : Rg (-1) (-1) ((hI h r_2 x5.toNatClampNeg)) := rg_eq c_6 (rg_b rfl : Rg (-1) (-1) ((- 1 : Int32)))
        exact zX15_tryAll_84 hF @hk_7 @hk_50 (pmA_s hA rfl) (pmO_s hO_x2 rfl) o_x1 o_x2 T r_x0 r_x1 r_x2 i_x3 i_x4 i_f_5 hc_7 hc_50 mv pe lb (t50_84 T r_x0 p50 c_1)
      · have _ := c_6
        have i_f_8 : Rg (0) (95) ((hI h r_2 x5.toNatClampNeg)) := rg_nlo c_6 (thI T q_r_2 (k := 87) rfl : Rg (-1) (95) ((hI h r_2 x5.toNatClampNeg))) (rg_b rfl : Rg (-1) (-1) ((- 1 : Int32)))
        refine s_pu (fun o_5z e_9 => ?_)
        try dsimp only
        have i_o_5z : Rg (0) (11) (o_5z) := by rw [e_9]; exact (rg_shrk 1 (by decide) (rg_sub i_x4 (rg_b rfl : Rg (1) (1) ((1 : Int32))) (by decide) : Rg (0) (23) ((x4 - (1 : Int32)))) (by decide) : Rg (0) (11) ((x4 - (1 : Int32)) >>> ((1 : Int32) &&& 31)))
        refine s_cVfq (S := fS [] [(w_x2, [(66, 999), (67, 999), (68, 999), (69, 999), (70, 999), (71, 999), (72, 999), (14, 0)])]) T (fs_sub pmA_n (fs_c (pmO_s hO_x2 rfl) fs_n)) (s_weq2 (zX15_trySteps hF (fs_o (.head _)) o_x1 o_x2 (th_in _ T) r_x0 r_x1 i_x3 i_f_5 i_o_5z r_x2 (show (hI h x2 0).toInt ≤ 2994 from (by have := (i_x3 : Rg (0) (63) (x3)).1; have := (i_x3 : Rg (0) (63) (x3)).2; have := (i_f_5 : Rg (0) (63) (x5)).1; have := (i_f_5 : Rg (0) (63) (x5)).2; have := (i_o_5z : Rg (0) (11) (o_5z)).1; have := (i_o_5z : Rg (0) (11) (o_5z)).2; have : (o_5z).toInt = ((x4 - (1 : Int32)) >>> ((1 : Int32) &&& 31) : Int32).toInt := congrArg Int32.toInt e_9; have : ((x4 - (1 : Int32)) >>> ((1 : Int32) &&& 31) : Int32).toInt = ((x4 - (1 : Int32)) : Int32).toInt / 2 := ti_shr1; have : ((x4 - (1 : Int32)) : Int32).toInt = (x4 : Int32).toInt - ((1 : Int32) : Int32).toInt := ti_sub (i_x4 : Rg (1) (24) (x4)) ((rg_b rfl : Rg (1) (1) ((1 : Int32))) : Rg (1) (1) ((1 : Int32))) (by decide); have := (i_x4 : Rg (1) (24) (x4)).1; have := (i_x4 : Rg (1) (24) (x4)).2; have : ((1 : Int32)).toInt = 1 := rfl; have hq_ := ((rg_shrk 1 (by decide) (rg_sub i_x4 (rg_b rfl : Rg (1) (1) ((1 : Int32))) (by decide) : Rg (0) (23) ((x4 - (1 : Int32)))) (by decide) : Rg (0) (11) ((x4 - (1 : Int32)) >>> ((1 : Int32) &&& 31))) : Rg (0) (11) ((x4 - (1 : Int32)) >>> ((1 : Int32) &&& 31))); have := hq_.1; have := hq_.2; have hq_ := ((thI T r_x2 (k := 14) (i := 0) rfl : Rg (0) (3000) ((hI h x2 0))) : Rg (0) (3000) ((hI h x2 0))); have := hq_.1; have := hq_.2; have := nle_i c_1; have hq_ := ((thI T r_x0 (k := 16) (i := 13) rfl : Rg (9) (64) ((hI h x0 13))) : Rg (9) (64) ((hI h x0 13))); have := hq_.1; have := hq_.2; have := ne_i c_6; have := (i_f_8 : Rg (0) (95) ((hI h r_2 x5.toNatClampNeg))).1; have := (i_f_8 : Rg (0) (95) ((hI h r_2 x5.toNatClampNeg))).2; have : ((- 1 : Int32)).toInt = -1 := rfl; clear o_x1 o_x2; omega)) (fun r hr => by rw [r_eq e_r_2 hr]; exact (i_f_8 : Rg (0) (95) ((hI h r_2 x5.toNatClampNeg))).1))) (fun o_6 T_10 f_o_6 p_o_6 => ?_)
        have eb_o_6 := p_o_6.2
        have pq_o_6_0 : ((hI h x2 0).toInt) ≤ (hI o_6 x2 0).toInt := p_o_6.1.1
        have pq_o_6_1 : (hI o_6 x2 0).toInt ≤ ((hI h x2 0).toInt) + 6 := p_o_6.1.2
        have es_11 := h50 T r_x0 r_x1 r_x2 i_x3 i_f_5 c_1 p50 mv lb (fun r hr => by rw [r_eq e_r_2 hr]; exact (i_f_8 : Rg (0) (95) ((hI h r_2 x5.toNatClampNeg))).1) eb_o_6
        have pf_12 : PE x1 o_6 := (pe_fr T r_x1 f_o_6 rfl rfl rfl (fun _ => rfl) (fun _ => rfl) pe)
        have pf_13 : LedB x0 x1 x3 o_6 := (lb_fr T r_x0 r_x1 f_o_6 (fun _ => rfl) (fun _ => rfl) (fun _ => rfl) (fun _ => rfl) (fun _ => rfl) (fun _ => rfl) (fun _ => rfl) (fun _ => rfl) (fun _ _ => rfl) (fun _ _ => rfl) (fun _ _ => rfl) (fun _ _ => rfl) lb)
        exact zX15_tryAll_84 hF @hk_7 @hk_50 (pmA_s hA rfl) (pmO_s hO_x2 rfl) o_x1 o_x2 T_10 r_x0 r_x1 r_x2 i_x3 i_x4 i_f_5 hc_7 hc_50 es_11.1 pf_12 pf_13 es_11.2
set_option maxRecDepth 20000 in
theorem zX15_tryAll_122 {ρ : Nat → Nat} {c : Cm} {F : Nat} {w_x1 w_x2 : Nat} (hF : 700000 ≤ F) (hO_x2 : pmO c w_x2 [(66, 999), (67, 999), (68, 999), (69, 999), (70, 999), (71, 999), (72, 999), (14, 0)]) : ∀ (f : Nat) {h : Hp} {x0 : Nat} {x1 : Nat} {x2 : Nat} {x3 : Int32}, cw c x1 = w_x1 → cw c x2 = w_x2 → TH ρ c h → ρ x0 = 16 → ρ x1 = 13 → ρ x2 = 14 → Rg (0) (64) (x3) → (MvB x0 x1 x2 h) → (Bd x0 x1 x2 (f122 x3) h) → (64 - x3.toInt).toNat < f → Sat (sX15_tryAll_122 F f h x0 x1 x2 x3) (ZQ (ZV ρ c) (fun o => MvB x0 x1 x2 o)) := by
  intro f
  induction f with
  | zero => intros; omega
  | succ f ih =>
    intro h x0 x1 x2 x3 o_x1 o_x2 T r_x0 r_x1 r_x2 i_x3 mv p122 hm
    rw [sX15_tryAll_122]
    unfold sX15_tryAll_250
    obtain ⟨C_122, hC_122⟩ : ∃ C : Int, C = x3.toInt := ⟨_, rfl⟩
    have hk_122 : ∀ {h : Hp} {x0 : Nat} {x1 : Nat} {x2 : Nat} {x3 : Int32}, cw c x1 = w_x1 → cw c x2 = w_x2 → TH ρ c h → ρ x0 = 16 → ρ x1 = 13 → ρ x2 = 14 → Rg (0) (64) (x3) → (MvB x0 x1 x2 h) → (Bd x0 x1 x2 (f122 x3) h) → C_122 < x3.toInt → Sat (sX15_tryAll_122 F f h x0 x1 x2 x3) (ZQ (ZV ρ c) (fun o => MvB x0 x1 x2 o)) := by
      intro h' x0' x1' x2' x3' o_x1' o_x2' T' r_x0' r_x1' r_x2' i_x3' mv' p122' hl
      exact ih o_x1' o_x2' T' r_x0' r_x1' r_x2' i_x3' mv' p122' (by have := i_x3'.1; have := i_x3'.2; omega)
    have hc_122 : C_122 ≤ x3.toInt := by omega
    refine s_br (fun c_1 => ?_) (fun c_1 => ?_)
    · have _ := c_1
      have i_f_2 : Rg (9) (64) (x3) := rg_le2 c_1 (thI T r_x0 (k := 16) (i := 13) rfl : Rg (9) (64) ((hI h x0 13))) i_x3
      exact s_some ⟨(T), mv⟩
    · have _ := c_1
      have i_f_3 : Rg (0) (63) (x3) := rg_lt1 (nle_lt c_1) i_x3 (thI T r_x0 (k := 16) (i := 13) rfl : Rg (9) (64) ((hI h x0 13)))
      obtain ⟨r_2, e_r_2, q_r_2⟩ := thR T r_x0 (k := 16) (i := 4) (k2 := 15) rfl (by decide)
      refine s_ref e_r_2 ?_
      refine s_br (fun c_4 => ?_) (fun c_4 => ?_)
      · have _ := c_4
        have i_f_5 : Rg (0) (0) ((hI h r_2 15)) := rg_eq c_4 (rg_b rfl : Rg (0) (0) (0 : Int32))
        exact s_some ⟨(T), mv⟩
      · have _ := c_4
        have i_f_6 : Rg (1) (1) ((hI h r_2 15)) := rg_nlo c_4 (thI T q_r_2 (k := 15) (i := 15) rfl : Rg (0) (1) ((hI h r_2 15))) (rg_b rfl : Rg (0) (0) (0 : Int32))
        have m_7 : Rg (0) (12) ((0 : Int32)) := (rg_m (rg_b rfl : Rg (0) (0) ((0 : Int32))) (by decide))
        exact zX15_tryAll_143 hF @hk_122 (pmO_s hO_x2 rfl) F o_x1 o_x2 T r_x0 r_x1 r_x2 i_f_3 (rg_m (rg_b rfl : Rg (0) (0) ((0 : Int32))) (by decide)) hc_122 mv (t122_143 T r_x0 p122 c_1) (by have := m_7.1; have := m_7.2; omega)
set_option maxRecDepth 20000 in
theorem zX15_tryAll_7 {ρ : Nat → Nat} {c : Cm} {F : Nat} {w_x1 w_x2 : Nat} (hF : 700000 ≤ F) (hA : pmA c [(87, 999), (88, 999), (89, 999), (16, 23), (16, 24)]) (hO_x2 : pmO c w_x2 [(66, 999), (67, 999), (68, 999), (69, 999), (70, 999), (71, 999), (72, 999), (14, 0)]) : ∀ (f : Nat) {h : Hp} {x0 : Nat} {x1 : Nat} {x2 : Nat} {x3 : Int32}, cw c x1 = w_x1 → cw c x2 = w_x2 → TH ρ c h → ρ x0 = 16 → ρ x1 = 13 → ρ x2 = 14 → Rg (0) (64) (x3) → (MvB x0 x1 x2 h) → (PE x1 h) → (Bd x0 x1 x2 (f7 x3) h) → (64 - x3.toInt).toNat < f → Sat (sX15_tryAll_7 F f h x0 x1 x2 x3) (ZQ (ZV ρ c) (fun o => MvB x0 x1 x2 o)) := by
  intro f
  induction f with
  | zero => intros; omega
  | succ f ih =>
    intro h x0 x1 x2 x3 o_x1 o_x2 T r_x0 r_x1 r_x2 i_x3 mv pe p7 hm
    rw [sX15_tryAll_7]
    unfold sX15_tryAll_114 sX15_sideOf
    obtain ⟨C_7, hC_7⟩ : ∃ C : Int, C = x3.toInt := ⟨_, rfl⟩
    have hk_7 : ∀ {h : Hp} {x0 : Nat} {x1 : Nat} {x2 : Nat} {x3 : Int32}, cw c x1 = w_x1 → cw c x2 = w_x2 → TH ρ c h → ρ x0 = 16 → ρ x1 = 13 → ρ x2 = 14 → Rg (0) (64) (x3) → (MvB x0 x1 x2 h) → (PE x1 h) → (Bd x0 x1 x2 (f7 x3) h) → C_7 < x3.toInt → Sat (sX15_tryAll_7 F f h x0 x1 x2 x3) (ZQ (ZV ρ c) (fun o => MvB x0 x1 x2 o)) := by
      intro h' x0' x1' x2' x3' o_x1' o_x2' T' r_x0' r_x1' r_x2' i_x3' mv' pe' p7' hl
      exact ih o_x1' o_x2' T' r_x0' r_x1' r_x2' i_x3' mv' pe' p7' (by have := i_x3'.1; have := i_x3'.2; omega)
    have hc_7 : C_7 ≤ x3.toInt := by omega
    refine s_br (fun c_1 => ?_) (fun c_1 => ?_)
    · have _ := c_1
      have i_f_2 : Rg (9) (64) (x3) := rg_le2 c_1 (thI T r_x0 (k := 16) (i := 13) rfl : Rg (9) (64) ((hI h x0 13))) i_x3
      have m_3 : Rg (0) (64) ((0 : Int32)) := (rg_m (rg_b rfl : Rg (0) (0) ((0 : Int32))) (by decide))
      exact zX15_tryAll_122 hF (pmO_s hO_x2 rfl) F o_x1 o_x2 T r_x0 r_x1 r_x2 (rg_m (rg_b rfl : Rg (0) (0) ((0 : Int32))) (by decide)) mv (t7_122 T r_x0 p7 c_1) (by have := m_3.1; have := m_3.2; omega)
    · have _ := c_1
      have i_f_4 : Rg (0) (63) (x3) := rg_lt1 (nle_lt c_1) i_x3 (thI T r_x0 (k := 16) (i := 13) rfl : Rg (9) (64) ((hI h x0 13)))
      obtain ⟨r_2, e_r_2, q_r_2⟩ := thR T r_x1 (k := 13) (i := 0) (k2 := 62) rfl (by decide)
      refine s_ref e_r_2 ?_
      refine s_gd (by rw [thN T q_r_2 (k := 62) (n := 64) rfl (by decide)]; exact rg_inB (i_f_4 : Rg (0) (63) (x3)) (by decide)) ?_
      refine s_q (fun v_4 e_5 => ?_)
      have i_v_4 : Rg (0) (24) (v_4) := by rw [e_5]; exact (thI T q_r_2 (k := 62) rfl : Rg (0) (24) (hI h r_2 x3.toNatClampNeg))
      refine s_br (fun c_6 => ?_) (fun c_6 => ?_)
      · have _ := c_6
        have i_f_7 : Rg (0) (0) (v_4) := rg_le1 c_6 i_v_4 (rg_b rfl : Rg (0) (0) (0 : Int32))
        refine s_q (fun v_1q1 e_8 => ?_)
        have i_v_1q1 : Rg (1) (64) (v_1q1) := by rw [e_8]; exact (rg_add i_f_4 (rg_b rfl : Rg (1) (1) ((1 : Int32))) (by decide) : Rg (1) (64) (x3 + (1 : Int32)))
        have m_9 : (v_1q1).toInt = x3.toInt + 1 := by rw [e_8]; exact rg_inc i_f_4 (by decide)
        exact hk_7 o_x1 o_x2 T r_x0 r_x1 r_x2 (rg_m i_v_1q1 (by decide)) mv pe (t114_7 T r_x0 (t7_114 p7 c_1 e_r_2 (Or.inl (by rw [← e_5]; exact c_6))) e_8) (by have := hc_7; omega)
      · have _ := c_6
        have i_f_10 : Rg (1) (24) (v_4) := rg_lt2 (nle_lt c_6) (rg_b rfl : Rg (0) (0) (0 : Int32)) i_v_4
        refine s_pu (fun o_6z e_11 => ?_)
        try dsimp only
        have i_o_6z : Rg (0) (1) (o_6z) := by rw [e_11]; exact (rg_and (rg_b rfl : Rg (1) (1) ((1 : Int32))) (by decide) : Rg (0) (1) ((v_4 - (1 : Int32)) &&& (1 : Int32)))
        refine s_br (fun c_12 => ?_) (fun c_12 => ?_)
        · have _ := c_12
          have ph_13 : ∀ r, hR h x1 0 = some r → Rg (1) (24) (hI h r x3.toNatClampNeg) := fun r hr => by
            rw [e_r_2] at hr
            rw [← Option.some.inj hr]
            exact (by rw [← e_5]; exact i_f_10)
          refine s_cVfq (S := fS [(87, 999), (88, 999), (89, 999), (16, 23), (16, 24)] []) T (fs_sub (pmA_s hA rfl) fs_n) (s_weq (zX15_lead hF fs_a o_x1 (th_in _ T) r_x0 r_x1 i_f_4 (rg_m (rg_b rfl : Rg (1) (1) ((1 : Int32))) (by decide)) ph_13)) (fun o_8 T_14 f_o_8 p_o_8 => ?_)
          have eb_o_8 := p_o_8
          have pf_15 : MvB x0 x1 x2 o_8 := (mv_fr T r_x0 r_x1 r_x2 f_o_8 (fun _ => rfl) (fun _ => rfl) rfl rfl rfl (fun _ => rfl) (fun _ => rfl) rfl rfl rfl rfl rfl rfl (fun _ => rfl) (fun _ => rfl) (fun _ => rfl) (fun _ => rfl) (fun _ => rfl) mv)
          have pf_16 : PE x1 o_8 := (pe_fr T r_x1 f_o_8 rfl rfl rfl (fun _ => rfl) (fun _ => rfl) pe)
          have pf_17 : Bd x0 x1 x2 (f50 x3 (0 : Int32)) o_8 := (bd_fr T r_x0 r_x1 r_x2 f_o_8 (fun _ => rfl) (fun _ => rfl) (fun _ => rfl) (fun _ => rfl) (fun _ => rfl) (fun _ _ => rfl) (fun _ => rfl) (t7_50 p7 c_1 e_r_2 (by rw [← e_5]; exact c_6) (by rw [← e_5, ← e_11]; exact c_12)))
          have m_18 : Rg (0) (64) ((0 : Int32)) := (rg_m (rg_b rfl : Rg (0) (0) ((0 : Int32))) (by decide))
          exact zX15_tryAll_50 hF @hk_7 (pmA_s hA rfl) (pmO_s hO_x2 rfl) F o_x1 o_x2 T_14 r_x0 r_x1 r_x2 i_f_4 i_f_10 (rg_m (rg_b rfl : Rg (0) (0) ((0 : Int32))) (by decide)) hc_7 pf_15 pf_16 (led_b T r_x0 r_x1 i_f_4 pe e_r_2 (by rw [← e_5, ← e_11]; exact c_12) f_o_8 (fun _ => rfl) eb_o_8) pf_17 (by have := m_18.1; have := m_18.2; omega)
        · have _ := c_12
          refine s_q (fun v_1q2 e_19 => ?_)
          have i_v_1q2 : Rg (1) (64) (v_1q2) := by rw [e_19]; exact (rg_add i_f_4 (rg_b rfl : Rg (1) (1) ((1 : Int32))) (by decide) : Rg (1) (64) (x3 + (1 : Int32)))
          have m_20 : (v_1q2).toInt = x3.toInt + 1 := by rw [e_19]; exact rg_inc i_f_4 (by decide)
          exact hk_7 o_x1 o_x2 T r_x0 r_x1 r_x2 (rg_m i_v_1q2 (by decide)) mv pe (t114_7 T r_x0 (t7_114 p7 c_1 e_r_2 (Or.inr (by rw [← e_5, ← e_11]; exact c_12))) e_19) (by have := hc_7; omega)
set_option maxRecDepth 20000 in
theorem zX15_tryAll {ρ : Nat → Nat} {c : Cm} {F : Nat} {w_x1 w_x2 : Nat} (hF : 700000 ≤ F) (hA : pmA c [(87, 999), (88, 999), (89, 999), (16, 23), (16, 24)]) (hO_x2 : pmO c w_x2 [(66, 999), (67, 999), (68, 999), (69, 999), (70, 999), (71, 999), (72, 999), (14, 0)]) {h : Hp} {x0 : Nat} {x1 : Nat} {x2 : Nat} (o_x1 : cw c x1 = w_x1) (o_x2 : cw c x2 = w_x2) (T : TH ρ c h) (r_x0 : ρ x0 = 16) (r_x1 : ρ x1 = 13) (r_x2 : ρ x2 = 14) (pe : (PE x1 h)) : Sat (sX15_tryAll F h x0 x1 x2) (ZQ (ZV ρ c) (fun o => MvB x0 x1 x2 o)) := by
  unfold sX15_tryAll 
  refine s_hq (th_wI T r_x2 (k := 14) (lo := (0)) (hi := (3000)) rfl ((rg_m (rg_b rfl : Rg (0) (0) ((0 : Int32))) (by decide)) : Rg (0) (3000) ((0 : Int32))) (by decide) (by decide) (pm_o hO_x2 o_x2 rfl)) (fun h_1 T_1 w_2 => ?_)
  have es_3 : hI h_1 x2 0 = 0 := he_sq rfl w_2
  have pf_4 : PE x1 h_1 := (pe_fr T r_x1 (fr1Io (B := [(14, 0)]) r_x2 o_x2 rfl w_2) rfl rfl rfl (fun _ => rfl) (fun _ => rfl) pe)
  have m_5 : Rg (0) (64) ((0 : Int32)) := (rg_m (rg_b rfl : Rg (0) (0) ((0 : Int32))) (by decide))
  exact zX15_tryAll_7 hF (pmA_s hA rfl) (pmO_s hO_x2 rfl) F o_x1 o_x2 T_1 r_x0 r_x1 r_x2 (rg_m (rg_b rfl : Rg (0) (0) ((0 : Int32))) (by decide)) (mv_cut (c := c) T r_x0 r_x1 r_x2 (show (0 : Int32).toInt ≤ _ from (thI T r_x2 (lo := 0) (hi := 3000) rfl).1) (Or.inl (by decide)) w_2) pf_4 (t0_7 (b := x1) T_1 r_x0 es_3) (by have := m_5.1; have := m_5.2; omega)
set_option maxRecDepth 20000 in
theorem zX15_legal_110 {ρ : Nat → Nat} {c : Cm} {F : Nat} {w_x2 : Nat} {y0 : Nat} {y1 : Nat} (hF : 700000 ≤ F) (hO_x2 : pmO c w_x2 [(66, 999), (67, 999), (68, 999), (69, 999), (70, 999), (71, 999), (72, 999), (14, 0)]) : ∀ (f : Nat) {h : Hp} {x2 : Nat} {x3 : Int32} {x5 : Int32}, cw c x2 = w_x2 → TH ρ c h → ρ x2 = 14 → Rg (0) (3000) (x3) → Rg (0) (3000) (x5) → (MvB y0 y1 x2 h) → (0 ≤ x3.toInt ∧ x3.toInt ≤ x5.toInt ∧ x5.toInt ≤ (hI h x2 0).toInt) → ρ y0 = 16 → ρ y1 = 13 → (3000 - x5.toInt).toNat < f → Sat (sX15_legal_110 F f h x2 x3 x5) (ZQ (ZV ρ c) (fun o => MvB y0 y1 x2 o)) := by
  intro f
  induction f with
  | zero => intros; omega
  | succ f ih =>
    intro h x2 x3 x5 o_x2 T r_x2 i_x3 i_x5 my l3 g_y0 g_y1 hm
    rw [sX15_legal_110]
    unfold sX15_legal_152 sX15_legal_141
    obtain ⟨C_110, hC_110⟩ : ∃ C : Int, C = x5.toInt := ⟨_, rfl⟩
    have hk_110 : ∀ {h : Hp} {x2 : Nat} {x3 : Int32} {x5 : Int32}, cw c x2 = w_x2 → TH ρ c h → ρ x2 = 14 → Rg (0) (3000) (x3) → Rg (0) (3000) (x5) → (MvB y0 y1 x2 h) → (0 ≤ x3.toInt ∧ x3.toInt ≤ x5.toInt ∧ x5.toInt ≤ (hI h x2 0).toInt) → ρ y0 = 16 → ρ y1 = 13 → C_110 < x5.toInt → Sat (sX15_legal_110 F f h x2 x3 x5) (ZQ (ZV ρ c) (fun o => MvB y0 y1 x2 o)) := by
      intro h' x2' x3' x5' o_x2' T' r_x2' i_x3' i_x5' my' l3' g_y0' g_y1' hl
      exact ih o_x2' T' r_x2' i_x3' i_x5' my' l3' g_y0' g_y1' (by have := i_x5'.1; have := i_x5'.2; omega)
    have hc_110 : C_110 ≤ x5.toInt := by omega
    refine s_br (fun c_1 => ?_) (fun c_1 => ?_)
    · have _ := c_1
      refine s_hq (th_wI T r_x2 (k := 14) (lo := (0)) (hi := (3000)) rfl (i_x3 : Rg (0) (3000) (x3)) (by decide) (by decide) (pm_o hO_x2 o_x2 rfl)) (fun h_2 T_2 w_3 => ?_)
      exact s_some ⟨(T_2), (mv_cut (c := c) T g_y0 g_y1 r_x2 (show x3.toInt ≤ (hI h x2 0).toInt from (by have hq_ := ((thI T r_x2 (k := 14) (i := 0) rfl : Rg (0) (3000) ((hI h x2 0))) : Rg (0) (3000) ((hI h x2 0))); have := hq_.1; have := hq_.2; have := (i_x3 : Rg (0) (3000) (x3)).1; have := (i_x3 : Rg (0) (3000) (x3)).2; have := (i_x5 : Rg (0) (3000) (x5)).1; have := (i_x5 : Rg (0) (3000) (x5)).2; have := le_i c_1; clear o_x2; omega)) (Or.inr my) w_3)⟩
    · have _ := c_1
      have i_f_4 : Rg (0) (2999) (x5) := rg_lt1 (nle_lt c_1) i_x5 (thI T r_x2 (k := 14) (i := 0) rfl : Rg (0) (3000) ((hI h x2 0)))
      have i_f_5 : Rg (1) (3000) ((hI h x2 0)) := rg_lt2 (nle_lt c_1) i_x5 (thI T r_x2 (k := 14) (i := 0) rfl : Rg (0) (3000) ((hI h x2 0)))
      obtain ⟨r_3, e_r_3, q_r_3⟩ := thR T r_x2 (k := 14) (i := 5) (k2 := 70) rfl (by decide)
      refine s_ref e_r_3 ?_
      refine s_gd (by rw [thN T q_r_3 (k := 70) (n := 3000) rfl (by decide)]; exact rg_inB (i_f_4 : Rg (0) (2999) (x5)) (by decide)) ?_
      refine s_br (fun c_6 => ?_) (fun c_6 => ?_)
      · have _ := c_6
        have i_f_7 : Rg (-1) (-1) ((hI h r_3 x5.toNatClampNeg)) := rg_eq c_6 (rg_b rfl : Rg (-1) (-1) ((- 1 : Int32)))
        refine s_q (fun v_1q2 e_8 => ?_)
        have i_v_1q2 : Rg (1) (3000) (v_1q2) := by rw [e_8]; exact (rg_add i_f_4 (rg_b rfl : Rg (1) (1) ((1 : Int32))) (by decide) : Rg (1) (3000) (x5 + (1 : Int32)))
        have m_9 : (v_1q2).toInt = x5.toInt + 1 := by rw [e_8]; exact rg_inc i_f_4 (by decide)
        exact hk_110 o_x2 T r_x2 i_x3 (rg_m i_v_1q2 (by decide)) my (show 0 ≤ (x3).toInt ∧ (x3).toInt ≤ (v_1q2).toInt ∧ (v_1q2).toInt ≤ (hI h x2 0).toInt from (by have := (i_x3 : Rg (0) (3000) (x3)).1; have := (i_x3 : Rg (0) (3000) (x3)).2; have := (i_v_1q2 : Rg (1) (3000) (v_1q2)).1; have := (i_v_1q2 : Rg (1) (3000) (v_1q2)).2; have : (v_1q2).toInt = (x5 + (1 : Int32) : Int32).toInt := congrArg Int32.toInt e_8; have : (x5 + (1 : Int32) : Int32).toInt = (x5 : Int32).toInt + ((1 : Int32) : Int32).toInt := ti_add (i_f_4 : Rg (0) (2999) (x5)) ((rg_b rfl : Rg (1) (1) ((1 : Int32))) : Rg (1) (1) ((1 : Int32))) (by decide); have := (i_f_4 : Rg (0) (2999) (x5)).1; have := (i_f_4 : Rg (0) (2999) (x5)).2; have : ((1 : Int32)).toInt = 1 := rfl; have := (i_f_5 : Rg (1) (3000) ((hI h x2 0))).1; have := (i_f_5 : Rg (1) (3000) ((hI h x2 0))).2; have := nle_i c_1; have := eq_i c_6; have := (i_f_7 : Rg (-1) (-1) ((hI h r_3 x5.toNatClampNeg))).1; have := (i_f_7 : Rg (-1) (-1) ((hI h r_3 x5.toNatClampNeg))).2; have : ((- 1 : Int32)).toInt = -1 := rfl; clear o_x2; omega)) g_y0 g_y1 (by have := hc_110; omega)
      · have _ := c_6
        have i_f_10 : Rg (0) (11) ((hI h r_3 x5.toNatClampNeg)) := rg_nlo c_6 (thI T q_r_3 (k := 70) rfl : Rg (-1) (11) ((hI h r_3 x5.toNatClampNeg))) (rg_b rfl : Rg (-1) (-1) ((- 1 : Int32)))
        have og_11 : Rg (0) (2999) (x3) := ⟨(by have := (i_x3 : Rg (0) (3000) (x3)).1; have := (i_x3 : Rg (0) (3000) (x3)).2; have := (i_f_5 : Rg (1) (3000) ((hI h x2 0))).1; have := (i_f_5 : Rg (1) (3000) ((hI h x2 0))).2; have := (i_f_4 : Rg (0) (2999) (x5)).1; have := (i_f_4 : Rg (0) (2999) (x5)).2; have := nle_i c_1; have := ne_i c_6; have := (i_f_10 : Rg (0) (11) ((hI h r_3 x5.toNatClampNeg))).1; have := (i_f_10 : Rg (0) (11) ((hI h r_3 x5.toNatClampNeg))).2; have : ((- 1 : Int32)).toInt = -1 := rfl; clear o_x2; omega), (by have := (i_x3 : Rg (0) (3000) (x3)).1; have := (i_x3 : Rg (0) (3000) (x3)).2; have := (i_f_5 : Rg (1) (3000) ((hI h x2 0))).1; have := (i_f_5 : Rg (1) (3000) ((hI h x2 0))).2; have := (i_f_4 : Rg (0) (2999) (x5)).1; have := (i_f_4 : Rg (0) (2999) (x5)).2; have := nle_i c_1; have := ne_i c_6; have := (i_f_10 : Rg (0) (11) ((hI h r_3 x5.toNatClampNeg))).1; have := (i_f_10 : Rg (0) (11) ((hI h r_3 x5.toNatClampNeg))).2; have : ((- 1 : Int32)).toInt = -1 := rfl; clear o_x2; omega)⟩
        refine s_cVfq (S := fS [] [(w_x2, [(66, 999), (67, 999), (68, 999), (69, 999), (70, 999), (71, 999), (72, 999)])]) T (fs_sub pmA_n (fs_c (pmO_s hO_x2 rfl) fs_n)) (s_weq (zX13_set hF (fs_o (.head _)) o_x2 o_x2 (th_in _ T) r_x2 og_11 r_x2 i_f_4)) (fun o_6 T_12 f_o_6 p_o_6 => ?_)
        have eb_o_6 := p_o_6
        refine s_q (fun v_7 e_13 => ?_)
        have i_v_7 : Rg (1) (3000) (v_7) := by rw [e_13]; exact (rg_add og_11 (rg_b rfl : Rg (1) (1) ((1 : Int32))) (by decide) : Rg (1) (3000) (x3 + (1 : Int32)))
        refine s_q (fun v_1q3 e_14 => ?_)
        have i_v_1q3 : Rg (1) (3000) (v_1q3) := by rw [e_14]; exact (rg_add i_f_4 (rg_b rfl : Rg (1) (1) ((1 : Int32))) (by decide) : Rg (1) (3000) (x5 + (1 : Int32)))
        have m_15 : (v_1q3).toInt = x5.toInt + 1 := by rw [e_14]; exact rg_inc i_f_4 (by decide)
        exact hk_110 o_x2 T_12 r_x2 (rg_m i_v_7 (by decide)) (rg_m i_v_1q3 (by decide)) (mv_set T g_y0 g_y1 r_x2 (show 0 ≤ x5.toInt ∧ x5.toInt < (hI h x2 0).toInt from (by have := (i_f_5 : Rg (1) (3000) ((hI h x2 0))).1; have := (i_f_5 : Rg (1) (3000) ((hI h x2 0))).2; have := (i_f_4 : Rg (0) (2999) (x5)).1; have := (i_f_4 : Rg (0) (2999) (x5)).2; have := (og_11 : Rg (0) (2999) (x3)).1; have := (og_11 : Rg (0) (2999) (x3)).2; have := nle_i c_1; have := ne_i c_6; have := (i_f_10 : Rg (0) (11) ((hI h r_3 x5.toNatClampNeg))).1; have := (i_f_10 : Rg (0) (11) ((hI h r_3 x5.toNatClampNeg))).2; have : ((- 1 : Int32)).toInt = -1 := rfl; clear o_x2; omega)) my eb_o_6) (show 0 ≤ (v_7).toInt ∧ (v_7).toInt ≤ (v_1q3).toInt ∧ (v_1q3).toInt ≤ (hI o_6 x2 0).toInt from (by have := (i_v_7 : Rg (1) (3000) (v_7)).1; have := (i_v_7 : Rg (1) (3000) (v_7)).2; have : (v_7).toInt = (x3 + (1 : Int32) : Int32).toInt := congrArg Int32.toInt e_13; have : (x3 + (1 : Int32) : Int32).toInt = (x3 : Int32).toInt + ((1 : Int32) : Int32).toInt := ti_add (og_11 : Rg (0) (2999) (x3)) ((rg_b rfl : Rg (1) (1) ((1 : Int32))) : Rg (1) (1) ((1 : Int32))) (by decide); have := (og_11 : Rg (0) (2999) (x3)).1; have := (og_11 : Rg (0) (2999) (x3)).2; have : ((1 : Int32)).toInt = 1 := rfl; have := (i_v_1q3 : Rg (1) (3000) (v_1q3)).1; have := (i_v_1q3 : Rg (1) (3000) (v_1q3)).2; have : (v_1q3).toInt = (x5 + (1 : Int32) : Int32).toInt := congrArg Int32.toInt e_14; have : (x5 + (1 : Int32) : Int32).toInt = (x5 : Int32).toInt + ((1 : Int32) : Int32).toInt := ti_add (i_f_4 : Rg (0) (2999) (x5)) ((rg_b rfl : Rg (1) (1) ((1 : Int32))) : Rg (1) (1) ((1 : Int32))) (by decide); have := (i_f_4 : Rg (0) (2999) (x5)).1; have := (i_f_4 : Rg (0) (2999) (x5)).2; have hq_ := (((rg_hi (fr_I f_o_6 r_x2 (by decide) o_x2 rfl) i_f_5) : Rg (1) (3000) ((hI o_6 x2 0))) : Rg (1) (3000) ((hI o_6 x2 0))); have := hq_.1; have := hq_.2; have : (hI o_6 x2 0).toInt = (hI h x2 0).toInt := congrArg Int32.toInt (fr_I f_o_6 r_x2 (by decide) o_x2 rfl); have := (i_f_5 : Rg (1) (3000) ((hI h x2 0))).1; have := (i_f_5 : Rg (1) (3000) ((hI h x2 0))).2; have := nle_i c_1; have := ne_i c_6; have := (i_f_10 : Rg (0) (11) ((hI h r_3 x5.toNatClampNeg))).1; have := (i_f_10 : Rg (0) (11) ((hI h r_3 x5.toNatClampNeg))).2; have : ((- 1 : Int32)).toInt = -1 := rfl; clear o_x2; omega)) g_y0 g_y1 (by have := hc_110; omega)
set_option maxRecDepth 20000 in
theorem zX15_legal_28 {ρ : Nat → Nat} {c : Cm} {F : Nat} {w_x1 w_x2 : Nat} {y0 : Nat} {y1 : Nat} (hF : 700000 ≤ F) (hA : pmA c [(16, 23), (16, 24)]) (hi_2528 : pmO c 2528 [(62, 999), (63, 999), (64, 999), (65, 999), (13, 1), (13, 2), (13, 3), (13, 7)]) (hO_x2 : pmO c w_x2 [(66, 999), (67, 999), (68, 999), (69, 999), (70, 999), (71, 999), (72, 999), (14, 0)]) : ∀ (f : Nat) {h : Hp} {x0 : Nat} {x1 : Nat} {x2 : Nat} {x3 : Int32} {x4 : Int32} {x5 : Int32}, cw c x1 = w_x1 → cw c x2 = w_x2 → ¬ w_x1 = 2528 → TH ρ c h → ρ x0 = 16 → ρ x1 = 13 → ρ x2 = 14 → Rg (0) (3000) (x3) → Rg (0) (1) (x4) → Rg (0) (3000) (x5) → (SqOk x0 h) → (MvB x0 x1 x2 h) → (x0 = y0) → (x1 = y1) → (0 ≤ x3.toInt ∧ x3.toInt ≤ x5.toInt ∧ x5.toInt ≤ (hI h x2 0).toInt) → ρ y0 = 16 → ρ y1 = 13 → (3000 - x5.toInt).toNat < f → Sat (sX15_legal_28 F f h x0 x1 x2 x3 x4 x5) (ZQ (ZV ρ c) (fun o => MvB y0 y1 x2 o)) := by
  intro f
  induction f with
  | zero => intros; omega
  | succ f ih =>
    intro h x0 x1 x2 x3 x4 x5 o_x1 o_x2 nw_x1_2528 T r_x0 r_x1 r_x2 i_x3 i_x4 i_x5 sq mv ey0 ey1 l3 g_y0 g_y1 hm
    rw [sX15_legal_28]
    unfold sX15_legal_152 sX15_legal_79 sX15_legal_73
    obtain ⟨C_28, hC_28⟩ : ∃ C : Int, C = x5.toInt := ⟨_, rfl⟩
    have hk_28 : ∀ {h : Hp} {x0 : Nat} {x1 : Nat} {x2 : Nat} {x3 : Int32} {x4 : Int32} {x5 : Int32}, cw c x1 = w_x1 → cw c x2 = w_x2 → ¬ w_x1 = 2528 → TH ρ c h → ρ x0 = 16 → ρ x1 = 13 → ρ x2 = 14 → Rg (0) (3000) (x3) → Rg (0) (1) (x4) → Rg (0) (3000) (x5) → (SqOk x0 h) → (MvB x0 x1 x2 h) → (x0 = y0) → (x1 = y1) → (0 ≤ x3.toInt ∧ x3.toInt ≤ x5.toInt ∧ x5.toInt ≤ (hI h x2 0).toInt) → ρ y0 = 16 → ρ y1 = 13 → C_28 < x5.toInt → Sat (sX15_legal_28 F f h x0 x1 x2 x3 x4 x5) (ZQ (ZV ρ c) (fun o => MvB y0 y1 x2 o)) := by
      intro h' x0' x1' x2' x3' x4' x5' o_x1' o_x2' nw_x1_2528' T' r_x0' r_x1' r_x2' i_x3' i_x4' i_x5' sq' mv' ey0' ey1' l3' g_y0' g_y1' hl
      exact ih o_x1' o_x2' nw_x1_2528' T' r_x0' r_x1' r_x2' i_x3' i_x4' i_x5' sq' mv' ey0' ey1' l3' g_y0' g_y1' (by have := i_x5'.1; have := i_x5'.2; omega)
    have hc_28 : C_28 ≤ x5.toInt := by omega
    refine s_br (fun c_1 => ?_) (fun c_1 => ?_)
    · have _ := c_1
      refine s_hq (th_wI T r_x2 (k := 14) (lo := (0)) (hi := (3000)) rfl (i_x3 : Rg (0) (3000) (x3)) (by decide) (by decide) (pm_o hO_x2 o_x2 rfl)) (fun h_2 T_2 w_3 => ?_)
      obtain ⟨r_3, e_r_3, q_r_3⟩ := thR T_2 r_x0 (k := 16) (i := 4) (k2 := 15) rfl (by decide)
      refine s_ref e_r_3 ?_
      refine s_br (fun c_4 => ?_) (fun c_4 => ?_)
      · have _ := c_4
        have i_f_5 : Rg (0) (0) ((hI h_2 r_3 16)) := rg_eq c_4 (rg_b rfl : Rg (0) (0) (0 : Int32))
        exact s_some ⟨(T_2), (by rw [← ey0, ← ey1]; exact (mv_cut (c := c) T r_x0 r_x1 r_x2 (show x3.toInt ≤ (hI h x2 0).toInt from (by have hq_ := ((thI T r_x2 (k := 14) (i := 0) rfl : Rg (0) (3000) ((hI h x2 0))) : Rg (0) (3000) ((hI h x2 0))); have := hq_.1; have := hq_.2; have := (i_x3 : Rg (0) (3000) (x3)).1; have := (i_x3 : Rg (0) (3000) (x3)).2; have := (i_x5 : Rg (0) (3000) (x5)).1; have := (i_x5 : Rg (0) (3000) (x5)).2; have := le_i c_1; clear o_x1 o_x2; omega)) (Or.inr mv) w_3))⟩
      · have _ := c_4
        have i_f_6 : Rg (1) (1) ((hI h_2 r_3 16)) := rg_nlo c_4 (thI T_2 q_r_3 (k := 15) (i := 16) rfl : Rg (0) (1) ((hI h_2 r_3 16))) (rg_b rfl : Rg (0) (0) (0 : Int32))
        refine s_br (fun c_7 => ?_) (fun c_7 => ?_)
        · have _ := c_7
          have i_f_8 : Rg (0) (0) (x4) := rg_eq c_7 (rg_b rfl : Rg (0) (0) (0 : Int32))
          exact s_some ⟨(T_2), (by rw [← ey0, ← ey1]; exact (mv_cut (c := c) T r_x0 r_x1 r_x2 (show x3.toInt ≤ (hI h x2 0).toInt from (by have hq_ := ((thI T r_x2 (k := 14) (i := 0) rfl : Rg (0) (3000) ((hI h x2 0))) : Rg (0) (3000) ((hI h x2 0))); have := hq_.1; have := hq_.2; have := (i_x3 : Rg (0) (3000) (x3)).1; have := (i_x3 : Rg (0) (3000) (x3)).2; have := (i_x5 : Rg (0) (3000) (x5)).1; have := (i_x5 : Rg (0) (3000) (x5)).2; have := le_i c_1; clear o_x1 o_x2; omega)) (Or.inr mv) w_3))⟩
        · have _ := c_7
          have i_f_9 : Rg (1) (1) (x4) := rg_nlo c_7 i_x4 (rg_b rfl : Rg (0) (0) (0 : Int32))
          have m_10 : Rg (0) (3000) ((0 : Int32)) := (rg_m (rg_b rfl : Rg (0) (0) ((0 : Int32))) (by decide))
          exact zX15_legal_110 hF (pmO_s hO_x2 rfl) F o_x2 T_2 r_x2 (rg_m (rg_b rfl : Rg (0) (0) ((0 : Int32))) (by decide)) (rg_m (rg_b rfl : Rg (0) (0) ((0 : Int32))) (by decide)) (by rw [← ey0, ← ey1]; exact (mv_cut (c := c) T r_x0 r_x1 r_x2 (show x3.toInt ≤ (hI h x2 0).toInt from (by have hq_ := ((thI T r_x2 (k := 14) (i := 0) rfl : Rg (0) (3000) ((hI h x2 0))) : Rg (0) (3000) ((hI h x2 0))); have := hq_.1; have := hq_.2; have := (i_x3 : Rg (0) (3000) (x3)).1; have := (i_x3 : Rg (0) (3000) (x3)).2; have := (i_x5 : Rg (0) (3000) (x5)).1; have := (i_x5 : Rg (0) (3000) (x5)).2; have := le_i c_1; clear o_x1 o_x2; omega)) (Or.inr mv) w_3)) (show 0 ≤ ((0 : Int32)).toInt ∧ ((0 : Int32)).toInt ≤ ((0 : Int32)).toInt ∧ ((0 : Int32)).toInt ≤ (hI h_2 x2 0).toInt from (by have : ((0 : Int32)).toInt = 0 := rfl; have hq_ := (((rg_hs w_3 i_x3) : Rg (0) (3000) ((hI h_2 x2 0))) : Rg (0) (3000) ((hI h_2 x2 0))); have := hq_.1; have := hq_.2; have : (hI h_2 x2 0).toInt = (x3 : Int32).toInt := congrArg Int32.toInt (he_s w_3); have := (i_x3 : Rg (0) (3000) (x3)).1; have := (i_x3 : Rg (0) (3000) (x3)).2; have hq_ := ((thI T r_x2 (k := 14) (i := 0) rfl : Rg (0) (3000) ((hI h x2 0))) : Rg (0) (3000) ((hI h x2 0))); have := hq_.1; have := hq_.2; have := (i_x5 : Rg (0) (3000) (x5)).1; have := (i_x5 : Rg (0) (3000) (x5)).2; have := le_i c_1; clear o_x1 o_x2; omega)) g_y0 g_y1 (by have := m_10.1; have := m_10.2; omega)
    · have _ := c_1
      have i_f_11 : Rg (0) (2999) (x5) := rg_lt1 (nle_lt c_1) i_x5 (thI T r_x2 (k := 14) (i := 0) rfl : Rg (0) (3000) ((hI h x2 0)))
      have i_f_12 : Rg (1) (3000) ((hI h x2 0)) := rg_lt2 (nle_lt c_1) i_x5 (thI T r_x2 (k := 14) (i := 0) rfl : Rg (0) (3000) ((hI h x2 0)))
      refine s_cIf (S := fS [(16, 23), (16, 24)] [(2528, [(62, 999), (63, 999), (64, 999), (65, 999), (13, 1), (13, 2), (13, 3), (13, 7)])]) T (fs_sub (pmA_s hA rfl) (fs_c (pmO_s hi_2528 rfl) fs_n)) (zX15_isSafe hF fs_a (fs_o (.head _)) o_x1 o_x2 (th_in _ T) r_x0 r_x1 r_x2 i_f_11 sq mv (show (x5).toInt < (hI h x2 0).toInt from (by have := (i_f_11 : Rg (0) (2999) (x5)).1; have := (i_f_11 : Rg (0) (2999) (x5)).2; have := (i_f_12 : Rg (1) (3000) ((hI h x2 0))).1; have := (i_f_12 : Rg (1) (3000) ((hI h x2 0))).2; have := (i_x3 : Rg (0) (3000) (x3)).1; have := (i_x3 : Rg (0) (3000) (x3)).2; have := nle_i c_1; clear o_x1 o_x2; omega))) (fun o_6 T_13 i_o_6 f_o_6 => ?_)
      refine s_br (fun c_14 => ?_) (fun c_14 => ?_)
      · have _ := c_14
        have i_f_15 : Rg (0) (0) (o_6.1) := rg_eq c_14 (rg_b rfl : Rg (0) (0) (0 : Int32))
        refine s_q (fun v_1q3 e_16 => ?_)
        have i_v_1q3 : Rg (1) (3000) (v_1q3) := by rw [e_16]; exact (rg_add i_f_11 (rg_b rfl : Rg (1) (1) ((1 : Int32))) (by decide) : Rg (1) (3000) (x5 + (1 : Int32)))
        have pf_17 : SqOk x0 o_6.2 := (sq_fr T r_x0 f_o_6 (fun _ => rfl) (fun _ => rfl) (fun _ => rfl) sq)
        have pf_18 : MvB x0 x1 x2 o_6.2 := (mv_fr T r_x0 r_x1 r_x2 f_o_6 (fun _ => rfl) (fun _ => rfl) rfl (by rw [o_x1]; exact fs_cf (Or.inr nw_x1_2528) (fs_nf rfl)) rfl (by rw [o_x1]; intro _; exact fs_cf (Or.inr nw_x1_2528) (fs_nf rfl)) (by rw [o_x1]; intro _; exact fs_cf (Or.inr nw_x1_2528) (fs_nf rfl)) rfl rfl rfl rfl rfl rfl (fun _ => rfl) (fun _ => rfl) (fun _ => rfl) (fun _ => rfl) (fun _ => rfl) mv)
        have m_19 : (v_1q3).toInt = x5.toInt + 1 := by rw [e_16]; exact rg_inc i_f_11 (by decide)
        exact hk_28 o_x1 o_x2 nw_x1_2528 T_13 r_x0 r_x1 r_x2 i_x3 i_x4 (rg_m i_v_1q3 (by decide)) pf_17 pf_18 ey0 ey1 (show 0 ≤ (x3).toInt ∧ (x3).toInt ≤ (v_1q3).toInt ∧ (v_1q3).toInt ≤ (hI o_6.2 x2 0).toInt from (by have := (i_x3 : Rg (0) (3000) (x3)).1; have := (i_x3 : Rg (0) (3000) (x3)).2; have := (i_v_1q3 : Rg (1) (3000) (v_1q3)).1; have := (i_v_1q3 : Rg (1) (3000) (v_1q3)).2; have : (v_1q3).toInt = (x5 + (1 : Int32) : Int32).toInt := congrArg Int32.toInt e_16; have : (x5 + (1 : Int32) : Int32).toInt = (x5 : Int32).toInt + ((1 : Int32) : Int32).toInt := ti_add (i_f_11 : Rg (0) (2999) (x5)) ((rg_b rfl : Rg (1) (1) ((1 : Int32))) : Rg (1) (1) ((1 : Int32))) (by decide); have := (i_f_11 : Rg (0) (2999) (x5)).1; have := (i_f_11 : Rg (0) (2999) (x5)).2; have : ((1 : Int32)).toInt = 1 := rfl; have hq_ := (((rg_hi (fr_I f_o_6 r_x2 (by decide) o_x2 rfl) i_f_12) : Rg (1) (3000) ((hI o_6.2 x2 0))) : Rg (1) (3000) ((hI o_6.2 x2 0))); have := hq_.1; have := hq_.2; have : (hI o_6.2 x2 0).toInt = (hI h x2 0).toInt := congrArg Int32.toInt (fr_I f_o_6 r_x2 (by decide) o_x2 rfl); have := (i_f_12 : Rg (1) (3000) ((hI h x2 0))).1; have := (i_f_12 : Rg (1) (3000) ((hI h x2 0))).2; have := nle_i c_1; clear o_x1 o_x2; omega)) g_y0 g_y1 (by have := hc_28; omega)
      · have _ := c_14
        have i_f_20 : Rg (1) (1) (o_6.1) := rg_nlo c_14 i_o_6 (rg_b rfl : Rg (0) (0) (0 : Int32))
        have og_21 : Rg (0) (2999) (x3) := ⟨(by have := (i_x3 : Rg (0) (3000) (x3)).1; have := (i_x3 : Rg (0) (3000) (x3)).2; have := (i_f_12 : Rg (1) (3000) ((hI h x2 0))).1; have := (i_f_12 : Rg (1) (3000) ((hI h x2 0))).2; have := (i_f_11 : Rg (0) (2999) (x5)).1; have := (i_f_11 : Rg (0) (2999) (x5)).2; have := nle_i c_1; clear o_x1 o_x2; omega), (by have := (i_x3 : Rg (0) (3000) (x3)).1; have := (i_x3 : Rg (0) (3000) (x3)).2; have := (i_f_12 : Rg (1) (3000) ((hI h x2 0))).1; have := (i_f_12 : Rg (1) (3000) ((hI h x2 0))).2; have := (i_f_11 : Rg (0) (2999) (x5)).1; have := (i_f_11 : Rg (0) (2999) (x5)).2; have := nle_i c_1; clear o_x1 o_x2; omega)⟩
        refine s_cVfq (S := fS [] [(w_x2, [(66, 999), (67, 999), (68, 999), (69, 999), (70, 999), (71, 999), (72, 999)])]) T_13 (fs_sub pmA_n (fs_c (pmO_s hO_x2 rfl) fs_n)) (s_weq (zX13_set hF (fs_o (.head _)) o_x2 o_x2 (th_in _ T_13) r_x2 og_21 r_x2 i_f_11)) (fun o_8 T_22 f_o_8 p_o_8 => ?_)
        have eb_o_8 := p_o_8
        have pf_23 : MvB x0 x1 x2 o_6.2 := (mv_fr T r_x0 r_x1 r_x2 f_o_6 (fun _ => rfl) (fun _ => rfl) rfl (by rw [o_x1]; exact fs_cf (Or.inr nw_x1_2528) (fs_nf rfl)) rfl (by rw [o_x1]; intro _; exact fs_cf (Or.inr nw_x1_2528) (fs_nf rfl)) (by rw [o_x1]; intro _; exact fs_cf (Or.inr nw_x1_2528) (fs_nf rfl)) rfl rfl rfl rfl rfl rfl (fun _ => rfl) (fun _ => rfl) (fun _ => rfl) (fun _ => rfl) (fun _ => rfl) mv)
        obtain ⟨r_9, e_r_9, q_r_9⟩ := thR T_22 r_x2 (k := 14) (i := 5) (k2 := 70) rfl (by decide)
        refine s_ref e_r_9 ?_
        refine s_gd (by rw [thN T_22 q_r_9 (k := 70) (n := 3000) rfl (by decide)]; exact rg_inB (og_21 : Rg (0) (2999) (x3)) (by decide)) ?_
        refine s_br (fun c_24 => ?_) (fun c_24 => ?_)
        · have _ := c_24
          have i_f_25 : Rg (-1) (-1) ((hI o_8 r_9 x3.toNatClampNeg)) := rg_eq c_24 (rg_b rfl : Rg (-1) (-1) ((- 1 : Int32)))
          refine s_q (fun v_1q4 e_26 => ?_)
          have i_v_1q4 : Rg (0) (1) (v_1q4) := by rw [e_26]; exact (rg_or (n := 1) (rg_m i_x4 (by decide) : Rg (0) (1) (x4)) (rg_m (rg_b rfl : Rg (0) (0) ((0 : Int32))) (by decide) : Rg (0) (0) ((0 : Int32))) (by decide) : Rg (0) (1) (x4 ||| (0 : Int32)))
          refine s_q (fun v_2q4 e_27 => ?_)
          have i_v_2q4 : Rg (1) (3000) (v_2q4) := by rw [e_27]; exact (rg_add og_21 (rg_b rfl : Rg (1) (1) ((1 : Int32))) (by decide) : Rg (1) (3000) (x3 + (1 : Int32)))
          refine s_q (fun v_1q5 e_28 => ?_)
          have i_v_1q5 : Rg (1) (3000) (v_1q5) := by rw [e_28]; exact (rg_add i_f_11 (rg_b rfl : Rg (1) (1) ((1 : Int32))) (by decide) : Rg (1) (3000) (x5 + (1 : Int32)))
          have pf_29 : SqOk x0 o_8 := (sq_fr T_13 r_x0 f_o_8 (fun _ => rfl) (fun _ => rfl) (fun _ => rfl) (sq_fr T r_x0 f_o_6 (fun _ => rfl) (fun _ => rfl) (fun _ => rfl) sq))
          have m_30 : (v_1q5).toInt = x5.toInt + 1 := by rw [e_28]; exact rg_inc i_f_11 (by decide)
          exact hk_28 o_x1 o_x2 nw_x1_2528 T_22 r_x0 r_x1 r_x2 (rg_m i_v_2q4 (by decide)) i_v_1q4 (rg_m i_v_1q5 (by decide)) pf_29 (mv_set T_13 r_x0 r_x1 r_x2 (show 0 ≤ x5.toInt ∧ x5.toInt < (hI o_6.2 x2 0).toInt from (by have hq_ := (((rg_hi (fr_I f_o_6 r_x2 (by decide) o_x2 rfl) i_f_12) : Rg (1) (3000) ((hI o_6.2 x2 0))) : Rg (1) (3000) ((hI o_6.2 x2 0))); have := hq_.1; have := hq_.2; have : (hI o_6.2 x2 0).toInt = (hI h x2 0).toInt := congrArg Int32.toInt (fr_I f_o_6 r_x2 (by decide) o_x2 rfl); have := (i_f_11 : Rg (0) (2999) (x5)).1; have := (i_f_11 : Rg (0) (2999) (x5)).2; have := (i_f_12 : Rg (1) (3000) ((hI h x2 0))).1; have := (i_f_12 : Rg (1) (3000) ((hI h x2 0))).2; have := (og_21 : Rg (0) (2999) (x3)).1; have := (og_21 : Rg (0) (2999) (x3)).2; have := nle_i c_1; clear o_x1 o_x2; omega)) pf_23 eb_o_8) ey0 ey1 (show 0 ≤ (v_2q4).toInt ∧ (v_2q4).toInt ≤ (v_1q5).toInt ∧ (v_1q5).toInt ≤ (hI o_8 x2 0).toInt from (by have := (i_v_2q4 : Rg (1) (3000) (v_2q4)).1; have := (i_v_2q4 : Rg (1) (3000) (v_2q4)).2; have : (v_2q4).toInt = (x3 + (1 : Int32) : Int32).toInt := congrArg Int32.toInt e_27; have : (x3 + (1 : Int32) : Int32).toInt = (x3 : Int32).toInt + ((1 : Int32) : Int32).toInt := ti_add (og_21 : Rg (0) (2999) (x3)) ((rg_b rfl : Rg (1) (1) ((1 : Int32))) : Rg (1) (1) ((1 : Int32))) (by decide); have := (og_21 : Rg (0) (2999) (x3)).1; have := (og_21 : Rg (0) (2999) (x3)).2; have : ((1 : Int32)).toInt = 1 := rfl; have := (i_v_1q5 : Rg (1) (3000) (v_1q5)).1; have := (i_v_1q5 : Rg (1) (3000) (v_1q5)).2; have : (v_1q5).toInt = (x5 + (1 : Int32) : Int32).toInt := congrArg Int32.toInt e_28; have : (x5 + (1 : Int32) : Int32).toInt = (x5 : Int32).toInt + ((1 : Int32) : Int32).toInt := ti_add (i_f_11 : Rg (0) (2999) (x5)) ((rg_b rfl : Rg (1) (1) ((1 : Int32))) : Rg (1) (1) ((1 : Int32))) (by decide); have := (i_f_11 : Rg (0) (2999) (x5)).1; have := (i_f_11 : Rg (0) (2999) (x5)).2; have hq_ := (((rg_hi (fr_I f_o_8 r_x2 (by decide) o_x2 rfl) (rg_hi (fr_I f_o_6 r_x2 (by decide) o_x2 rfl) i_f_12)) : Rg (1) (3000) ((hI o_8 x2 0))) : Rg (1) (3000) ((hI o_8 x2 0))); have := hq_.1; have := hq_.2; have : (hI o_8 x2 0).toInt = (hI o_6.2 x2 0).toInt := congrArg Int32.toInt (fr_I f_o_8 r_x2 (by decide) o_x2 rfl); have : (hI o_6.2 x2 0).toInt = (hI h x2 0).toInt := congrArg Int32.toInt (fr_I f_o_6 r_x2 (by decide) o_x2 rfl); have := (i_f_12 : Rg (1) (3000) ((hI h x2 0))).1; have := (i_f_12 : Rg (1) (3000) ((hI h x2 0))).2; have := nle_i c_1; have := eq_i c_24; have := (i_f_25 : Rg (-1) (-1) ((hI o_8 r_9 x3.toNatClampNeg))).1; have := (i_f_25 : Rg (-1) (-1) ((hI o_8 r_9 x3.toNatClampNeg))).2; have : ((- 1 : Int32)).toInt = -1 := rfl; clear o_x1 o_x2; omega)) g_y0 g_y1 (by have := hc_28; omega)
        · have _ := c_24
          have i_f_31 : Rg (0) (11) ((hI o_8 r_9 x3.toNatClampNeg)) := rg_nlo c_24 (thI T_22 q_r_9 (k := 70) rfl : Rg (-1) (11) ((hI o_8 r_9 x3.toNatClampNeg))) (rg_b rfl : Rg (-1) (-1) ((- 1 : Int32)))
          refine s_q (fun v_1q6 e_32 => ?_)
          have i_v_1q6 : Rg (0) (1) (v_1q6) := by rw [e_32]; exact (rg_or (n := 1) (rg_m i_x4 (by decide) : Rg (0) (1) (x4)) (rg_m (rg_b rfl : Rg (1) (1) ((1 : Int32))) (by decide) : Rg (0) (1) ((1 : Int32))) (by decide) : Rg (0) (1) (x4 ||| (1 : Int32)))
          refine s_q (fun v_2q6 e_33 => ?_)
          have i_v_2q6 : Rg (1) (3000) (v_2q6) := by rw [e_33]; exact (rg_add og_21 (rg_b rfl : Rg (1) (1) ((1 : Int32))) (by decide) : Rg (1) (3000) (x3 + (1 : Int32)))
          refine s_q (fun v_1q7 e_34 => ?_)
          have i_v_1q7 : Rg (1) (3000) (v_1q7) := by rw [e_34]; exact (rg_add i_f_11 (rg_b rfl : Rg (1) (1) ((1 : Int32))) (by decide) : Rg (1) (3000) (x5 + (1 : Int32)))
          have pf_35 : SqOk x0 o_8 := (sq_fr T_13 r_x0 f_o_8 (fun _ => rfl) (fun _ => rfl) (fun _ => rfl) (sq_fr T r_x0 f_o_6 (fun _ => rfl) (fun _ => rfl) (fun _ => rfl) sq))
          have m_36 : (v_1q7).toInt = x5.toInt + 1 := by rw [e_34]; exact rg_inc i_f_11 (by decide)
          exact hk_28 o_x1 o_x2 nw_x1_2528 T_22 r_x0 r_x1 r_x2 (rg_m i_v_2q6 (by decide)) i_v_1q6 (rg_m i_v_1q7 (by decide)) pf_35 (mv_set T_13 r_x0 r_x1 r_x2 (show 0 ≤ x5.toInt ∧ x5.toInt < (hI o_6.2 x2 0).toInt from (by have hq_ := (((rg_hi (fr_I f_o_6 r_x2 (by decide) o_x2 rfl) i_f_12) : Rg (1) (3000) ((hI o_6.2 x2 0))) : Rg (1) (3000) ((hI o_6.2 x2 0))); have := hq_.1; have := hq_.2; have : (hI o_6.2 x2 0).toInt = (hI h x2 0).toInt := congrArg Int32.toInt (fr_I f_o_6 r_x2 (by decide) o_x2 rfl); have := (i_f_11 : Rg (0) (2999) (x5)).1; have := (i_f_11 : Rg (0) (2999) (x5)).2; have := (i_f_12 : Rg (1) (3000) ((hI h x2 0))).1; have := (i_f_12 : Rg (1) (3000) ((hI h x2 0))).2; have := (og_21 : Rg (0) (2999) (x3)).1; have := (og_21 : Rg (0) (2999) (x3)).2; have := nle_i c_1; clear o_x1 o_x2; omega)) pf_23 eb_o_8) ey0 ey1 (show 0 ≤ (v_2q6).toInt ∧ (v_2q6).toInt ≤ (v_1q7).toInt ∧ (v_1q7).toInt ≤ (hI o_8 x2 0).toInt from (by have := (i_v_2q6 : Rg (1) (3000) (v_2q6)).1; have := (i_v_2q6 : Rg (1) (3000) (v_2q6)).2; have : (v_2q6).toInt = (x3 + (1 : Int32) : Int32).toInt := congrArg Int32.toInt e_33; have : (x3 + (1 : Int32) : Int32).toInt = (x3 : Int32).toInt + ((1 : Int32) : Int32).toInt := ti_add (og_21 : Rg (0) (2999) (x3)) ((rg_b rfl : Rg (1) (1) ((1 : Int32))) : Rg (1) (1) ((1 : Int32))) (by decide); have := (og_21 : Rg (0) (2999) (x3)).1; have := (og_21 : Rg (0) (2999) (x3)).2; have : ((1 : Int32)).toInt = 1 := rfl; have := (i_v_1q7 : Rg (1) (3000) (v_1q7)).1; have := (i_v_1q7 : Rg (1) (3000) (v_1q7)).2; have : (v_1q7).toInt = (x5 + (1 : Int32) : Int32).toInt := congrArg Int32.toInt e_34; have : (x5 + (1 : Int32) : Int32).toInt = (x5 : Int32).toInt + ((1 : Int32) : Int32).toInt := ti_add (i_f_11 : Rg (0) (2999) (x5)) ((rg_b rfl : Rg (1) (1) ((1 : Int32))) : Rg (1) (1) ((1 : Int32))) (by decide); have := (i_f_11 : Rg (0) (2999) (x5)).1; have := (i_f_11 : Rg (0) (2999) (x5)).2; have hq_ := (((rg_hi (fr_I f_o_8 r_x2 (by decide) o_x2 rfl) (rg_hi (fr_I f_o_6 r_x2 (by decide) o_x2 rfl) i_f_12)) : Rg (1) (3000) ((hI o_8 x2 0))) : Rg (1) (3000) ((hI o_8 x2 0))); have := hq_.1; have := hq_.2; have : (hI o_8 x2 0).toInt = (hI o_6.2 x2 0).toInt := congrArg Int32.toInt (fr_I f_o_8 r_x2 (by decide) o_x2 rfl); have : (hI o_6.2 x2 0).toInt = (hI h x2 0).toInt := congrArg Int32.toInt (fr_I f_o_6 r_x2 (by decide) o_x2 rfl); have := (i_f_12 : Rg (1) (3000) ((hI h x2 0))).1; have := (i_f_12 : Rg (1) (3000) ((hI h x2 0))).2; have := nle_i c_1; have := ne_i c_24; have := (i_f_31 : Rg (0) (11) ((hI o_8 r_9 x3.toNatClampNeg))).1; have := (i_f_31 : Rg (0) (11) ((hI o_8 r_9 x3.toNatClampNeg))).2; have : ((- 1 : Int32)).toInt = -1 := rfl; clear o_x1 o_x2; omega)) g_y0 g_y1 (by have := hc_28; omega)
set_option maxRecDepth 20000 in
theorem zX15_legal {ρ : Nat → Nat} {c : Cm} {F : Nat} {w_x1 w_x2 : Nat} (hF : 700000 ≤ F) (hA : pmA c [(87, 999), (88, 999), (89, 999), (16, 23), (16, 24), (16, 29)]) (hi_2528 : pmO c 2528 [(62, 999), (63, 999), (64, 999), (65, 999), (13, 1), (13, 2), (13, 3), (13, 7)]) (hO_x2 : pmO c w_x2 [(66, 999), (67, 999), (68, 999), (69, 999), (70, 999), (71, 999), (72, 999), (14, 0)]) {h : Hp} {x0 : Nat} {x1 : Nat} {x2 : Nat} (o_x1 : cw c x1 = w_x1) (o_x2 : cw c x2 = w_x2) (nw_x1_2528 : ¬ w_x1 = 2528) (T : TH ρ c h) (r_x0 : ρ x0 = 16) (r_x1 : ρ x1 = 13) (r_x2 : ρ x2 = 14) (sq : (SqOk x0 h)) (pe : (PE x1 h)) : Sat (sX15_legal F h x0 x1 x2) (ZQ (ZV ρ c) (fun o => MvB x0 x1 x2 o)) := by
  unfold sX15_legal 
  refine s_hq (th_wI T r_x2 (k := 14) (lo := (0)) (hi := (3000)) rfl ((rg_m (rg_b rfl : Rg (0) (0) ((0 : Int32))) (by decide)) : Rg (0) (3000) ((0 : Int32))) (by decide) (by decide) (pm_o hO_x2 o_x2 rfl)) (fun h_1 T_1 w_2 => ?_)
  refine s_cIf (S := fS [(16, 29)] []) T_1 (fs_sub (pmA_s hA rfl) fs_n) (zX15_early hF fs_a o_x1 (th_in _ T_1) r_x0 r_x1) (fun o_2 T_3 i_o_2 f_o_2 => ?_)
  refine s_br (fun c_4 => ?_) (fun c_4 => ?_)
  · have _ := c_4
    have i_f_5 : Rg (0) (0) (o_2.1) := rg_le1 c_4 i_o_2 (rg_b rfl : Rg (0) (0) (0 : Int32))
    have pf_6 : PE x1 o_2.2 := (pe_fr T_1 r_x1 f_o_2 rfl rfl rfl (fun _ => rfl) (fun _ => rfl) (pe_fr T r_x1 (fr1Io (B := [(14, 0)]) r_x2 o_x2 rfl w_2) rfl rfl rfl (fun _ => rfl) (fun _ => rfl) pe))
    refine s_cVfq (S := fS [(87, 999), (88, 999), (89, 999), (16, 23), (16, 24)] [(w_x2, [(66, 999), (67, 999), (68, 999), (69, 999), (70, 999), (71, 999), (72, 999), (14, 0)])]) T_3 (fs_sub (pmA_s hA rfl) (fs_c (pmO_s hO_x2 rfl) fs_n)) (zX15_tryAll hF fs_a (fs_o (.head _)) o_x1 o_x2 (th_in _ T_3) r_x0 r_x1 r_x2 pf_6) (fun o_4 T_7 f_o_4 p_o_4 => ?_)
    have pf_8 : SqOk x0 o_4 := (sq_fr T_3 r_x0 f_o_4 (fun _ => rfl) (fun _ => rfl) (fun _ => rfl) (sq_fr T_1 r_x0 f_o_2 (fun _ => rfl) (fun _ => rfl) (fun _ => rfl) (sq_fr T r_x0 (fr1Io (B := [(14, 0)]) r_x2 o_x2 rfl w_2) (fun _ => rfl) (fun _ => rfl) (fun _ => rfl) sq)))
    have m_9 : Rg (0) (3000) ((0 : Int32)) := (rg_m (rg_b rfl : Rg (0) (0) ((0 : Int32))) (by decide))
    exact zX15_legal_28 hF (pmA_s hA rfl) (pmO_s hi_2528 rfl) (pmO_s hO_x2 rfl) F o_x1 o_x2 nw_x1_2528 T_7 r_x0 r_x1 r_x2 (rg_m (rg_b rfl : Rg (0) (0) ((0 : Int32))) (by decide)) (rg_m (rg_b rfl : Rg (0) (0) ((0 : Int32))) (by decide)) (rg_m (rg_b rfl : Rg (0) (0) ((0 : Int32))) (by decide)) pf_8 p_o_4 (show x0 = x0 from (by clear o_x1 o_x2; omega)) (show x1 = x1 from (by clear o_x1 o_x2; omega)) (show 0 ≤ ((0 : Int32)).toInt ∧ ((0 : Int32)).toInt ≤ ((0 : Int32)).toInt ∧ ((0 : Int32)).toInt ≤ (hI o_4 x2 0).toInt from (by have : ((0 : Int32)).toInt = 0 := rfl; have hq_ := ((thI T_7 r_x2 (k := 14) (i := 0) rfl : Rg (0) (3000) ((hI o_4 x2 0))) : Rg (0) (3000) ((hI o_4 x2 0))); have := hq_.1; have := hq_.2; clear o_x1 o_x2; omega)) r_x0 r_x1 (by have := m_9.1; have := m_9.2; omega)
  · have _ := c_4
    have i_f_10 : Rg (1) (4) (o_2.1) := rg_lt2 (nle_lt c_4) (rg_b rfl : Rg (0) (0) (0 : Int32)) i_o_2
    have pf_11 : MvB x0 x1 x2 o_2.2 := (mv_fr T_1 r_x0 r_x1 r_x2 f_o_2 (fun _ => rfl) (fun _ => rfl) rfl rfl rfl (fun _ => rfl) (fun _ => rfl) rfl rfl rfl rfl rfl rfl (fun _ => rfl) (fun _ => rfl) (fun _ => rfl) (fun _ => rfl) (fun _ => rfl) (mv_cut (c := c) T r_x0 r_x1 r_x2 (show (0 : Int32).toInt ≤ _ from (thI T r_x2 (lo := 0) (hi := 3000) rfl).1) (Or.inl (by decide)) w_2))
    exact s_some ⟨(T_3), pf_11⟩
set_option maxRecDepth 20000 in
theorem zX15_packed_4 {ρ : Nat → Nat} {c : Cm} {h0 : Hp} {F : Nat} (hF : 700000 ≤ F) : ∀ (f : Nat) {h : Hp} {x0 : Nat} {x1 : Int32} {x2 : Int32} {x3 : Int32}, h = h0 → TH ρ c h → ρ x0 = 108 → Rg (0) (6) (x1) → Rg (-2147483648) (2147483647) (x2) → Rg (0) (6) (x3) → (6 - x3.toInt).toNat < f → Sat (sX15_packed_4 F f h x0 x1 x2 x3) (ZI0 h0 (-2147483648) (2147483647)) := by
  intro f
  induction f with
  | zero => intros; omega
  | succ f ih =>
    intro h x0 x1 x2 x3 E T r_x0 i_x1 i_x2 i_x3 hm
    rw [sX15_packed_4]
    obtain ⟨C_4, hC_4⟩ : ∃ C : Int, C = x3.toInt := ⟨_, rfl⟩
    have hk_4 : ∀ {h : Hp} {x0 : Nat} {x1 : Int32} {x2 : Int32} {x3 : Int32}, h = h0 → TH ρ c h → ρ x0 = 108 → Rg (0) (6) (x1) → Rg (-2147483648) (2147483647) (x2) → Rg (0) (6) (x3) → C_4 < x3.toInt → Sat (sX15_packed_4 F f h x0 x1 x2 x3) (ZI0 h0 (-2147483648) (2147483647)) := by
      intro h' x0' x1' x2' x3' E' T' r_x0' i_x1' i_x2' i_x3' hl
      exact ih E' T' r_x0' i_x1' i_x2' i_x3' (by have := i_x3'.1; have := i_x3'.2; omega)
    have hc_4 : C_4 ≤ x3.toInt := by omega
    refine s_br (fun c_1 => ?_) (fun c_1 => ?_)
    · have _ := c_1
      exact s_some ⟨E, i_x2⟩
    · have _ := c_1
      have i_f_2 : Rg (0) (5) (x3) := rg_lt1 (nle_lt c_1) i_x3 i_x1
      have i_f_3 : Rg (1) (6) (x1) := rg_lt2 (nle_lt c_1) i_x3 i_x1
      refine s_gd (by rw [thN T r_x0 (k := 108) (n := 6) rfl (by decide)]; exact rg_inB (i_f_2 : Rg (0) (5) (x3)) (by decide)) ?_
      refine s_q (fun v_3 e_4 => ?_)
      have i_v_3 : Rg (-2147483648) (2147483647) (v_3) := by rw [e_4]; exact (rg_top _ : Rg (-2147483648) (2147483647) ((x2 <<< ((5 : Int32) &&& 31)) ||| (hI h x0 x3.toNatClampNeg)))
      refine s_q (fun v_4 e_5 => ?_)
      have i_v_4 : Rg (1) (6) (v_4) := by rw [e_5]; exact (rg_add i_f_2 (rg_b rfl : Rg (1) (1) ((1 : Int32))) (by decide) : Rg (1) (6) (x3 + (1 : Int32)))
      have m_6 : (v_4).toInt = x3.toInt + 1 := by rw [e_5]; exact rg_inc i_f_2 (by decide)
      exact hk_4 E T r_x0 (rg_m i_f_3 (by decide)) i_v_3 (rg_m i_v_4 (by decide)) (by have := hc_4; omega)
set_option maxRecDepth 20000 in
theorem zX15_packed {ρ : Nat → Nat} {c : Cm} {F : Nat} (hF : 700000 ≤ F) {h : Hp} {x0 : Nat} {x1 : Int32} (T : TH ρ c h) (r_x0 : ρ x0 = 108) (i_x1 : Rg (0) (6) (x1)) : Sat (sX15_packed F h x0 x1) (ZI0 h (-2147483648) (2147483647)) := by
  unfold sX15_packed 
  have m_1 : Rg (0) (6) ((0 : Int32)) := (rg_m (rg_b rfl : Rg (0) (0) ((0 : Int32))) (by decide))
  exact zX15_packed_4 hF F rfl T r_x0 i_x1 (rg_m i_x1 (by decide)) (rg_m (rg_b rfl : Rg (0) (0) ((0 : Int32))) (by decide)) (by have := m_1.1; have := m_1.2; omega)
set_option maxRecDepth 20000 in
theorem zX15_has {ρ : Nat → Nat} {c : Cm} {F : Nat} (hF : 700000 ≤ F) {h : Hp} {x0 : Nat} {x1 : Int32} (T : TH ρ c h) (r_x0 : ρ x0 = 16) (i_x1 : Rg (-2147483648) (2147483647) (x1)) : Sat (sX15_has h x0 x1) (ZP0 h (0) (1) (0) (Rg (0) (59) (x1))) := by
  unfold sX15_has sX15_has_23 sX15_has_24
  refine s_br (fun c_1 => ?_) (fun c_1 => ?_)
  · have _ := c_1
    have i_f_2 : Rg (-2147483648) (-1) (x1) := rg_lt1 c_1 i_x1 (rg_b rfl : Rg (0) (0) (0 : Int32))
    refine s_gd (rg_bool (rg_m (rg_b rfl : Rg (0) (0) ((0 : Int32))) (by decide))) ?_
    exact s_some ⟨rfl, (rg_m (rg_b rfl : Rg (0) (0) ((0 : Int32))) (by decide)), (fun q => absurd (rz_s (rg_b rfl : Rg (0) (0) ((0 : Int32))) (rg_b rfl : Rg (0) (0) (0 : Int32))) q)⟩
  · have _ := c_1
    have i_f_3 : Rg (0) (2147483647) (x1) := rg_le2 (nlt_le c_1) (rg_b rfl : Rg (0) (0) (0 : Int32)) i_x1
    refine s_br (fun c_4 => ?_) (fun c_4 => ?_)
    · have _ := c_4
      have i_f_5 : Rg (60) (2147483647) (x1) := rg_le2 c_4 (rg_b rfl : Rg (60) (60) ((60 : Int32))) i_f_3
      refine s_gd (rg_bool (rg_m (rg_b rfl : Rg (0) (0) ((0 : Int32))) (by decide))) ?_
      exact s_some ⟨rfl, (rg_m (rg_b rfl : Rg (0) (0) ((0 : Int32))) (by decide)), (fun q => absurd (rz_s (rg_b rfl : Rg (0) (0) ((0 : Int32))) (rg_b rfl : Rg (0) (0) (0 : Int32))) q)⟩
    · have _ := c_4
      have i_f_6 : Rg (0) (59) (x1) := rg_lt1 (nle_lt c_4) i_f_3 (rg_b rfl : Rg (60) (60) ((60 : Int32)))
      obtain ⟨r_3, e_r_3, q_r_3⟩ := thR T r_x0 (k := 16) (i := 15) (k2 := 85) rfl (by decide)
      refine s_ref e_r_3 ?_
      refine s_gd (by rw [thN T q_r_3 (k := 85) (n := 60) rfl (by decide)]; exact rg_inB (i_f_6 : Rg (0) (59) (x1)) (by decide)) ?_
      refine s_br (fun c_7 => ?_) (fun c_7 => ?_)
      · have _ := c_7
        have i_f_8 : Rg (-2147483648) (0) ((hI h r_3 x1.toNatClampNeg)) := rg_le1 c_7 (thI T q_r_3 (k := 85) rfl : Rg (-2147483648) (2147483647) ((hI h r_3 x1.toNatClampNeg))) (rg_b rfl : Rg (0) (0) (0 : Int32))
        refine s_gd (rg_bool (rg_m (rg_b rfl : Rg (0) (0) ((0 : Int32))) (by decide))) ?_
        exact s_some ⟨rfl, (rg_m (rg_b rfl : Rg (0) (0) ((0 : Int32))) (by decide)), (fun q => absurd (rz_s (rg_b rfl : Rg (0) (0) ((0 : Int32))) (rg_b rfl : Rg (0) (0) (0 : Int32))) q)⟩
      · have _ := c_7
        have i_f_9 : Rg (1) (2147483647) ((hI h r_3 x1.toNatClampNeg)) := rg_lt2 (nle_lt c_7) (rg_b rfl : Rg (0) (0) (0 : Int32)) (thI T q_r_3 (k := 85) rfl : Rg (-2147483648) (2147483647) ((hI h r_3 x1.toNatClampNeg)))
        refine s_gd (rg_bool (rg_m (rg_b rfl : Rg (1) (1) ((1 : Int32))) (by decide))) ?_
        exact s_some ⟨rfl, (rg_m (rg_b rfl : Rg (1) (1) ((1 : Int32))) (by decide)), (fun _ => i_f_6)⟩
set_option maxRecDepth 20000 in
theorem zX15_at {ρ : Nat → Nat} {c : Cm} {F : Nat} (hF : 700000 ≤ F) {h : Hp} {x0 : Nat} {x1 : Int32} {x2 : Int32} (T : TH ρ c h) (r_x0 : ρ x0 = 16) (i_x1 : Rg (-2147483648) (2147483647) (x1)) (i_x2 : Rg (-2147483648) (2147483647) (x2)) (bd : (BdP x0 h)) : Sat (sX15_at h x0 x1 x2) (ZI0 h (-102) (23)) := by
  unfold sX15_at sX15_at_12 sX15_at_61
  refine s_br (fun c_1 => ?_) (fun c_1 => ?_)
  · have _ := c_1
    have i_f_2 : Rg (-2147483648) (-1) (x2) := rg_lt1 c_1 i_x2 (rg_b rfl : Rg (0) (0) (0 : Int32))
    exact s_some ⟨rfl, (rg_m (rg_b rfl : Rg (-101) (-101) ((- 101 : Int32))) (by decide))⟩
  · have _ := c_1
    have i_f_3 : Rg (0) (2147483647) (x2) := rg_le2 (nlt_le c_1) (rg_b rfl : Rg (0) (0) (0 : Int32)) i_x2
    refine s_br (fun c_4 => ?_) (fun c_4 => ?_)
    · have _ := c_4
      have i_f_5 : Rg (0) (63) (x2) := rg_lt1 c_4 i_f_3 (thI T r_x0 (k := 16) (i := 13) rfl : Rg (9) (64) ((hI h x0 13)))
      refine s_dP0 (zX15_has hF T r_x0 i_x1) (fun o_3 eb_o_3 e_o_3 i_o_3 p_o_3 => ?_)
      have T_6 := th_eq e_o_3 T
      refine s_br (fun c_7 => ?_) (fun c_7 => ?_)
      · have _ := c_7
        have i_f_8 : Rg (0) (0) (o_3.1) := rg_eq c_7 (rg_b rfl : Rg (0) (0) (0 : Int32))
        exact s_some ⟨(e_o_3.trans rfl), (rg_m (rg_b rfl : Rg (-102) (-102) ((- 102 : Int32))) (by decide))⟩
      · have _ := c_7
        have i_f_9 : Rg (1) (1) (o_3.1) := rg_nlo c_7 i_o_3 (rg_b rfl : Rg (0) (0) (0 : Int32))
        have p_f_10 := p_o_3 c_7
        obtain ⟨r_5, e_r_5, q_r_5⟩ := thR T_6 r_x0 (k := 16) (i := 14) (k2 := 84) rfl (by decide)
        refine s_ref e_r_5 ?_
        refine s_gd (by rw [thN T_6 q_r_5 (k := 84) (n := 60) rfl (by decide)]; exact rg_inB (p_f_10 : Rg (0) (59) (x1)) (by decide)) ?_
        have pf_11 : HasB x0 x1 o_3.2 := (by rw [e_o_3]; exact (hb_of T r_x0 bd eb_o_3 c_7))
        obtain ⟨r_7, e_r_7, pe_r_7⟩ := pf_11 _ e_r_5
        have q_r_7 := thRn T_6 q_r_5 (k := 84) (k2 := 13) rfl (by decide) e_r_7
        refine s_ref e_r_7 ?_
        obtain ⟨r_8, e_r_8, q_r_8⟩ := thR T_6 q_r_7 (k := 13) (i := 0) (k2 := 62) rfl (by decide)
        refine s_ref e_r_8 ?_
        refine s_gd (by rw [thN T_6 q_r_8 (k := 62) (n := 64) rfl (by decide)]; exact rg_inB (i_f_5 : Rg (0) (63) (x2)) (by decide)) ?_
        refine s_br (fun c_12 => ?_) (fun c_12 => ?_)
        · have _ := c_12
          have i_f_13 : Rg (0) (0) ((hI o_3.2 r_8 x2.toNatClampNeg)) := rg_eq c_12 (rg_b rfl : Rg (0) (0) (0 : Int32))
          exact s_some ⟨(e_o_3.trans rfl), (rg_m (rg_b rfl : Rg (-1) (-1) ((- 1 : Int32))) (by decide))⟩
        · have _ := c_12
          have i_f_14 : Rg (1) (24) ((hI o_3.2 r_8 x2.toNatClampNeg)) := rg_nlo c_12 (thI T_6 q_r_8 (k := 62) rfl : Rg (0) (24) ((hI o_3.2 r_8 x2.toNatClampNeg))) (rg_b rfl : Rg (0) (0) (0 : Int32))
          refine s_ref e_r_5 ?_
          refine s_gd (by rw [thN T_6 q_r_5 (k := 84) (n := 60) rfl (by decide)]; exact rg_inB (p_f_10 : Rg (0) (59) (x1)) (by decide)) ?_
          refine s_ref e_r_7 ?_
          refine s_ref e_r_8 ?_
          refine s_gd (by rw [thN T_6 q_r_8 (k := 62) (n := 64) rfl (by decide)]; exact rg_inB (i_f_5 : Rg (0) (63) (x2)) (by decide)) ?_
          exact s_some ⟨(e_o_3.trans rfl), (rg_m (rg_sub i_f_14 (rg_b rfl : Rg (1) (1) ((1 : Int32))) (by decide) : Rg (0) (23) (((hI o_3.2 r_8 x2.toNatClampNeg) - (1 : Int32)))) (by decide))⟩
    · have _ := c_4
      have i_f_15 : Rg (9) (2147483647) (x2) := rg_le2 (nlt_le c_4) (thI T r_x0 (k := 16) (i := 13) rfl : Rg (9) (64) ((hI h x0 13))) i_f_3
      exact s_some ⟨rfl, (rg_m (rg_b rfl : Rg (-101) (-101) ((- 101 : Int32))) (by decide))⟩
set_option maxRecDepth 20000 in
theorem zX15_attacked {ρ : Nat → Nat} {c : Cm} {F : Nat} (hF : 700000 ≤ F) (hA : pmA c [(16, 23), (16, 24)]) {h : Hp} {x0 : Nat} {x1 : Int32} {x2 : Int32} {x3 : Int32} (T : TH ρ c h) (r_x0 : ρ x0 = 16) (i_x1 : Rg (-2147483648) (2147483647) (x1)) (i_x2 : Rg (-2147483648) (2147483647) (x2)) (i_x3 : Rg (-2147483648) (2147483647) (x3)) (bd : (BdP x0 h)) : Sat (sX15_attacked F h x0 x1 x2 x3) (ZI ρ c (-102) (1)) := by
  unfold sX15_attacked sX15_attacked_21 sX15_attacked_57
  refine s_br (fun c_1 => ?_) (fun c_1 => ?_)
  · have _ := c_1
    have i_f_2 : Rg (-2147483648) (-1) (x2) := rg_lt1 c_1 i_x2 (rg_b rfl : Rg (0) (0) (0 : Int32))
    exact s_some ⟨(T), (rg_m (rg_b rfl : Rg (-101) (-101) ((- 101 : Int32))) (by decide))⟩
  · have _ := c_1
    have i_f_3 : Rg (0) (2147483647) (x2) := rg_le2 (nlt_le c_1) (rg_b rfl : Rg (0) (0) (0 : Int32)) i_x2
    refine s_br (fun c_4 => ?_) (fun c_4 => ?_)
    · have _ := c_4
      have i_f_5 : Rg (9) (2147483647) (x2) := rg_le2 c_4 (thI T r_x0 (k := 16) (i := 13) rfl : Rg (9) (64) ((hI h x0 13))) i_f_3
      exact s_some ⟨(T), (rg_m (rg_b rfl : Rg (-101) (-101) ((- 101 : Int32))) (by decide))⟩
    · have _ := c_4
      have i_f_6 : Rg (0) (63) (x2) := rg_lt1 (nle_lt c_4) i_f_3 (thI T r_x0 (k := 16) (i := 13) rfl : Rg (9) (64) ((hI h x0 13)))
      refine s_br (fun c_7 => ?_) (fun c_7 => ?_)
      · have _ := c_7
        have i_f_8 : Rg (-2147483648) (-1) (x3) := rg_lt1 c_7 i_x3 (rg_b rfl : Rg (0) (0) (0 : Int32))
        exact s_some ⟨(T), (rg_m (rg_b rfl : Rg (-101) (-101) ((- 101 : Int32))) (by decide))⟩
      · have _ := c_7
        have i_f_9 : Rg (0) (2147483647) (x3) := rg_le2 (nlt_le c_7) (rg_b rfl : Rg (0) (0) (0 : Int32)) i_x3
        refine s_br (fun c_10 => ?_) (fun c_10 => ?_)
        · have _ := c_10
          have i_f_11 : Rg (0) (1) (x3) := rg_le1 c_10 i_f_9 (rg_b rfl : Rg (1) (1) ((1 : Int32)))
          refine s_dP0 (zX15_has hF T r_x0 i_x1) (fun o_5 eb_o_5 e_o_5 i_o_5 p_o_5 => ?_)
          have T_12 := th_eq e_o_5 T
          refine s_br (fun c_13 => ?_) (fun c_13 => ?_)
          · have _ := c_13
            have i_f_14 : Rg (0) (0) (o_5.1) := rg_eq c_13 (rg_b rfl : Rg (0) (0) (0 : Int32))
            exact s_some ⟨(T_12), (rg_m (rg_b rfl : Rg (-102) (-102) ((- 102 : Int32))) (by decide))⟩
          · have _ := c_13
            have i_f_15 : Rg (1) (1) (o_5.1) := rg_nlo c_13 i_o_5 (rg_b rfl : Rg (0) (0) (0 : Int32))
            have p_f_16 := p_o_5 c_13
            obtain ⟨r_7, e_r_7, q_r_7⟩ := thR T_12 r_x0 (k := 16) (i := 14) (k2 := 84) rfl (by decide)
            refine s_ref e_r_7 ?_
            refine s_gd (by rw [thN T_12 q_r_7 (k := 84) (n := 60) rfl (by decide)]; exact rg_inB (p_f_16 : Rg (0) (59) (x1)) (by decide)) ?_
            have pf_17 : HasB x0 x1 o_5.2 := (by rw [e_o_5]; exact (hb_of T r_x0 bd eb_o_5 c_13))
            obtain ⟨r_9, e_r_9, pe_r_9⟩ := pf_17 _ e_r_7
            have q_r_9 := thRn T_12 q_r_7 (k := 84) (k2 := 13) rfl (by decide) e_r_9
            refine s_ref e_r_9 ?_
            refine s_cI (zX15_isAttacked hF (pmA_s hA rfl) (th_id T_12 q_r_7 (k := 84) (w := 3400) e_r_9 rfl (by decide)) T_12 r_x0 q_r_9 i_f_6 i_f_11) (fun o_10 T_18 i_o_10 => ?_)
            refine s_br (fun c_19 => ?_) (fun c_19 => ?_)
            · have _ := c_19
              have i_f_20 : Rg (0) (0) (o_10.1) := rg_eq c_19 (rg_b rfl : Rg (0) (0) (0 : Int32))
              exact s_some ⟨(T_18), (rg_m (rg_b rfl : Rg (0) (0) ((0 : Int32))) (by decide))⟩
            · have _ := c_19
              have i_f_21 : Rg (1) (1) (o_10.1) := rg_nlo c_19 i_o_10 (rg_b rfl : Rg (0) (0) (0 : Int32))
              exact s_some ⟨(T_18), (rg_m (rg_b rfl : Rg (1) (1) ((1 : Int32))) (by decide))⟩
        · have _ := c_10
          have i_f_22 : Rg (2) (2147483647) (x3) := rg_lt2 (nle_lt c_10) (rg_b rfl : Rg (1) (1) ((1 : Int32))) i_f_9
          exact s_some ⟨(T), (rg_m (rg_b rfl : Rg (-101) (-101) ((- 101 : Int32))) (by decide))⟩
set_option maxRecDepth 20000 in
theorem zX15_back {ρ : Nat → Nat} {c : Cm} {F : Nat} (hF : 700000 ≤ F) (hA : pmA c [(94, 999)]) {h : Hp} {x0 : Nat} {x1 : Int32} (T : TH ρ c h) (r_x0 : ρ x0 = 16) (i_x1 : Rg (-2147483648) (2147483647) (x1)) : Sat (sX15_back h x0 x1) (ZI ρ c (-103) (300)) := by
  unfold sX15_back 
  refine s_dP0 (zX15_isGame hF T i_x1) (fun o_1 eb_o_1 e_o_1 i_o_1 p_o_1 => ?_)
  have T_1 := th_eq e_o_1 T
  refine s_br (fun c_2 => ?_) (fun c_2 => ?_)
  · have _ := c_2
    have i_f_3 : Rg (0) (0) (o_1.1) := rg_eq c_2 (rg_b rfl : Rg (0) (0) (0 : Int32))
    exact s_some ⟨(T_1), (rg_m (rg_b rfl : Rg (-101) (-101) ((- 101 : Int32))) (by decide))⟩
  · have _ := c_2
    have i_f_4 : Rg (1) (1) (o_1.1) := rg_nlo c_2 i_o_1 (rg_b rfl : Rg (0) (0) (0 : Int32))
    have p_f_5 := p_o_1 c_2
    obtain ⟨r_3, e_r_3, q_r_3⟩ := thR T_1 r_x0 (k := 16) (i := 39) (k2 := 94) rfl (by decide)
    refine s_ref e_r_3 ?_
    refine s_gd (by rw [thN T_1 q_r_3 (k := 94) (n := 8) rfl (by decide)]; exact rg_inB (p_f_5 : Rg (0) (7) (x1)) (by decide)) ?_
    refine s_br (fun c_6 => ?_) (fun c_6 => ?_)
    · have _ := c_6
      have i_f_7 : Rg (-1) (-1) ((hI o_1.2 r_3 x1.toNatClampNeg)) := rg_eq c_6 (rg_b rfl : Rg (-1) (-1) ((- 1 : Int32)))
      exact s_some ⟨(T_1), (rg_m (rg_b rfl : Rg (-102) (-102) ((- 102 : Int32))) (by decide))⟩
    · have _ := c_6
      have i_f_8 : Rg (0) (300) ((hI o_1.2 r_3 x1.toNatClampNeg)) := rg_nlo c_6 (thI T_1 q_r_3 (k := 94) rfl : Rg (-1) (300) ((hI o_1.2 r_3 x1.toNatClampNeg))) (rg_b rfl : Rg (-1) (-1) ((- 1 : Int32)))
      refine s_ref e_r_3 ?_
      refine s_gd (by rw [thN T_1 q_r_3 (k := 94) (n := 8) rfl (by decide)]; exact rg_inB (p_f_5 : Rg (0) (7) (x1)) (by decide)) ?_
      refine s_br (fun c_9 => ?_) (fun c_9 => ?_)
      · have _ := c_9
        have i_f_10 : Rg (0) (0) ((hI o_1.2 r_3 x1.toNatClampNeg)) := rg_eq c_9 (rg_b rfl : Rg (0) (0) (0 : Int32))
        exact s_some ⟨(T_1), (rg_m (rg_b rfl : Rg (-103) (-103) ((- 103 : Int32))) (by decide))⟩
      · have _ := c_9
        have i_f_11 : Rg (1) (300) ((hI o_1.2 r_3 x1.toNatClampNeg)) := rg_nlo c_9 i_f_8 (rg_b rfl : Rg (0) (0) (0 : Int32))
        refine s_ref e_r_3 ?_
        refine s_gd (by rw [thN T_1 q_r_3 (k := 94) (n := 8) rfl (by decide)]; exact rg_inB (p_f_5 : Rg (0) (7) (x1)) (by decide)) ?_
        refine s_gd (by rw [thN T_1 q_r_3 (k := 94) (n := 8) rfl (by decide)]; exact rg_inB (p_f_5 : Rg (0) (7) (x1)) (by decide)) ?_
        refine s_hq (th_wI T_1 q_r_3 (k := 94) (lo := (-1)) (hi := (300)) rfl ((rg_m (rg_sub i_f_11 (rg_b rfl : Rg (1) (1) ((1 : Int32))) (by decide) : Rg (0) (299) (((hI o_1.2 r_3 x1.toNatClampNeg) - (1 : Int32)))) (by decide)) : Rg (-1) (300) (((hI o_1.2 r_3 x1.toNatClampNeg) - (1 : Int32)))) (by decide) (by decide) (pm_a hA rfl)) (fun h_12 T_12 w_13 => ?_)
        refine s_ref (hr_w w_13 e_r_3) ?_
        refine s_gd (by rw [thN T_12 q_r_3 (k := 94) (n := 8) rfl (by decide)]; exact rg_inB (p_f_5 : Rg (0) (7) (x1)) (by decide)) ?_
        exact s_some ⟨(T_12), (rg_m ((rg_hs w_13 (rg_sub i_f_11 (rg_b rfl : Rg (1) (1) ((1 : Int32))) (by decide) : Rg (0) (299) (((hI o_1.2 r_3 x1.toNatClampNeg) - (1 : Int32))))) : Rg (0) (299) (hI h_12 r_3 x1.toNatClampNeg)) (by decide))⟩
set_option maxRecDepth 20000 in
theorem zX15_compare_12 {ρ : Nat → Nat} {c : Cm} {h0 : Hp} {F : Nat} (hF : 700000 ≤ F) : ∀ (f : Nat) {h : Hp} {x0 : Nat} {x1 : Int32} {x2 : Int32} {x3 : Int32}, h = h0 → TH ρ c h → ρ x0 = 16 → Rg (0) (2999) (x1) → Rg (-128) (95) (x2) → Rg (0) (95) (x3) → (95 - x3.toInt).toNat < f → Sat (sX15_compare_12 F f h x0 x1 x2 x3) (ZI0 h0 (-255) (384)) := by
  intro f
  induction f with
  | zero => intros; omega
  | succ f ih =>
    intro h x0 x1 x2 x3 E T r_x0 i_x1 i_x2 i_x3 hm
    rw [sX15_compare_12]
    unfold sX15_compare_74
    obtain ⟨C_12, hC_12⟩ : ∃ C : Int, C = x3.toInt := ⟨_, rfl⟩
    have hk_12 : ∀ {h : Hp} {x0 : Nat} {x1 : Int32} {x2 : Int32} {x3 : Int32}, h = h0 → TH ρ c h → ρ x0 = 16 → Rg (0) (2999) (x1) → Rg (-128) (95) (x2) → Rg (0) (95) (x3) → C_12 < x3.toInt → Sat (sX15_compare_12 F f h x0 x1 x2 x3) (ZI0 h0 (-255) (384)) := by
      intro h' x0' x1' x2' x3' E' T' r_x0' i_x1' i_x2' i_x3' hl
      exact ih E' T' r_x0' i_x1' i_x2' i_x3' (by have := i_x3'.1; have := i_x3'.2; omega)
    have hc_12 : C_12 ≤ x3.toInt := by omega
    refine s_br (fun c_1 => ?_) (fun c_1 => ?_)
    · have _ := c_1
      exact s_some ⟨E, (rg_m (rg_sub (thI T r_x0 (k := 16) (i := 3) rfl : Rg (0) (256) ((hI h x0 3))) i_x2 (by decide) : Rg (-95) (384) ((hI h x0 3) - x2)) (by decide))⟩
    · have _ := c_1
      have i_f_2 : Rg (0) (94) (x3) := rg_lt1 (nle_lt c_1) i_x3 i_x2
      have i_f_3 : Rg (1) (95) (x2) := rg_lt2 (nle_lt c_1) i_x3 i_x2
      refine s_br (fun c_4 => ?_) (fun c_4 => ?_)
      · have _ := c_4
        have i_f_5 : Rg (0) (94) ((hI h x0 3)) := rg_le1 c_4 (thI T r_x0 (k := 16) (i := 3) rfl : Rg (0) (256) ((hI h x0 3))) i_f_2
        exact s_some ⟨E, (rg_m (rg_sub i_f_5 i_f_3 (by decide) : Rg (-95) (93) ((hI h x0 3) - x2)) (by decide))⟩
      · have _ := c_4
        have i_f_6 : Rg (1) (256) ((hI h x0 3)) := rg_lt2 (nle_lt c_4) i_f_2 (thI T r_x0 (k := 16) (i := 3) rfl : Rg (0) (256) ((hI h x0 3)))
        obtain ⟨r_3, e_r_3, q_r_3⟩ := thR T r_x0 (k := 16) (i := 2) (k2 := 83) rfl (by decide)
        refine s_ref e_r_3 ?_
        refine s_gd (by rw [thN T q_r_3 (k := 83) (n := 256) rfl (by decide)]; exact rg_inB ((rg_m i_f_2 (by decide)) : Rg (0) (255) (x3)) (by decide)) ?_
        obtain ⟨r_5, e_r_5, q_r_5⟩ := thR T r_x0 (k := 16) (i := 41) (k2 := 96) rfl (by decide)
        refine s_ref e_r_5 ?_
        refine s_gd (by rw [thN T q_r_5 (k := 96) (n := 288000) rfl (by decide)]; exact rg_inB ((rg_m (rg_add (rg_add (rg_mulc' (rg_b rfl : Rg (96) (96) ((96 : Int32))) i_x1 (by decide) : Rg (0) (287904) (((96 : Int32) * x1))) (rg_b rfl : Rg (1) (1) ((1 : Int32))) (by decide) : Rg (1) (287905) ((((96 : Int32) * x1) + (1 : Int32)))) i_f_2 (by decide) : Rg (1) (287999) (((((96 : Int32) * x1) + (1 : Int32)) + x3))) (by decide)) : Rg (0) (287999) (((((96 : Int32) * x1) + (1 : Int32)) + x3))) (by decide)) ?_
        refine s_br (fun c_7 => ?_) (fun c_7 => ?_)
        · have _ := c_7
          refine s_q (fun v_8 e_8 => ?_)
          have i_v_8 : Rg (1) (95) (v_8) := by rw [e_8]; exact (rg_add i_f_2 (rg_b rfl : Rg (1) (1) ((1 : Int32))) (by decide) : Rg (1) (95) (x3 + (1 : Int32)))
          have m_9 : (v_8).toInt = x3.toInt + 1 := by rw [e_8]; exact rg_inc i_f_2 (by decide)
          exact hk_12 E T r_x0 i_x1 (rg_m i_f_3 (by decide)) (rg_m i_v_8 (by decide)) (by have := hc_12; omega)
        · have _ := c_7
          refine s_ref e_r_3 ?_
          refine s_gd (by rw [thN T q_r_3 (k := 83) (n := 256) rfl (by decide)]; exact rg_inB ((rg_m i_f_2 (by decide)) : Rg (0) (255) (x3)) (by decide)) ?_
          refine s_ref e_r_5 ?_
          refine s_gd (by rw [thN T q_r_5 (k := 96) (n := 288000) rfl (by decide)]; exact rg_inB ((rg_m (rg_add (rg_add (rg_mulc' (rg_b rfl : Rg (96) (96) ((96 : Int32))) i_x1 (by decide) : Rg (0) (287904) (((96 : Int32) * x1))) (rg_b rfl : Rg (1) (1) ((1 : Int32))) (by decide) : Rg (1) (287905) ((((96 : Int32) * x1) + (1 : Int32)))) i_f_2 (by decide) : Rg (1) (287999) (((((96 : Int32) * x1) + (1 : Int32)) + x3))) (by decide)) : Rg (0) (287999) (((((96 : Int32) * x1) + (1 : Int32)) + x3))) (by decide)) ?_
          exact s_some ⟨E, (rg_m (rg_sub (thI T q_r_3 (k := 83) rfl : Rg (-128) (127) ((hI h r_3 x3.toNatClampNeg))) (thI T q_r_5 (k := 96) rfl : Rg (-128) (127) ((hI h r_5 ((((96 : Int32) * x1) + (1 : Int32)) + x3).toNatClampNeg))) (by decide) : Rg (-255) (255) ((hI h r_3 x3.toNatClampNeg) - (hI h r_5 ((((96 : Int32) * x1) + (1 : Int32)) + x3).toNatClampNeg))) (by decide))⟩
set_option maxRecDepth 20000 in
theorem zX15_compare {ρ : Nat → Nat} {c : Cm} {F : Nat} (hF : 700000 ≤ F) {h : Hp} {x0 : Nat} {x1 : Int32} (T : TH ρ c h) (r_x0 : ρ x0 = 16) (i_x1 : Rg (0) (2999) (x1)) (tl : (TxL x0 x1 h)) : Sat (sX15_compare F h x0 x1) (ZI0 h (-255) (384)) := by
  unfold sX15_compare 
  obtain ⟨r_1, e_r_1, q_r_1⟩ := thR T r_x0 (k := 16) (i := 41) (k2 := 96) rfl (by decide)
  refine s_ref e_r_1 ?_
  have rh_1 : Rg (-128) 95 (hI h r_1 ((96 : Int32) * x1).toNatClampNeg) := ⟨(thI T q_r_1 (k := 96) (lo := -128) (hi := 127) rfl).1, tl _ e_r_1⟩
  refine s_gd (by rw [thN T q_r_1 (k := 96) (n := 288000) rfl (by decide)]; exact rg_inB ((rg_m (rg_mulc' (rg_b rfl : Rg (96) (96) ((96 : Int32))) i_x1 (by decide) : Rg (0) (287904) (((96 : Int32) * x1))) (by decide)) : Rg (0) (287999) (((96 : Int32) * x1))) (by decide)) ?_
  refine s_q (fun v_3 e_2 => ?_)
  have i_v_3 : Rg (-128) (95) (v_3) := by rw [e_2]; exact rh_1
  have m_3 : Rg (0) (95) ((0 : Int32)) := (rg_m (rg_b rfl : Rg (0) (0) ((0 : Int32))) (by decide))
  exact zX15_compare_12 hF F rfl T r_x0 i_x1 i_v_3 (rg_m (rg_b rfl : Rg (0) (0) ((0 : Int32))) (by decide)) (by have := m_3.1; have := m_3.2; omega)
set_option maxRecDepth 20000 in
theorem zX15_letterOf {ρ : Nat → Nat} {c : Cm} {F : Nat} (hF : 700000 ≤ F) {h : Hp} {x0 : Nat} {x1 : Int32} (T : TH ρ c h) (r_x0 : ρ x0 = 16) (i_x1 : Rg (1) (24) (x1)) : Sat (sX15_letterOf h x0 x1) (ZI0 h (-32) (122)) := by
  unfold sX15_letterOf sX15_manOf sX15_sideOf sX15_letterOf_25
  obtain ⟨r_1, e_r_1, q_r_1⟩ := thR T r_x0 (k := 16) (i := 4) (k2 := 15) rfl (by decide)
  refine s_ref e_r_1 ?_
  obtain ⟨r_2, e_r_2, q_r_2⟩ := thR T q_r_1 (k := 15) (i := 3) (k2 := 73) rfl (by decide)
  refine s_ref e_r_2 ?_
  refine s_pu (fun o_3z e_1 => ?_)
  try dsimp only
  have i_o_3z : Rg (0) (11) (o_3z) := by rw [e_1]; exact (rg_shrk 1 (by decide) (rg_sub i_x1 (rg_b rfl : Rg (1) (1) ((1 : Int32))) (by decide) : Rg (0) (23) ((x1 - (1 : Int32)))) (by decide) : Rg (0) (11) ((x1 - (1 : Int32)) >>> ((1 : Int32) &&& 31)))
  refine s_gd (by rw [thN T q_r_2 (k := 73) (n := 12) rfl (by decide)]; exact rg_inB (i_o_3z : Rg (0) (11) (o_3z)) (by decide)) ?_
  refine s_pu (fun o_5z e_2 => ?_)
  try dsimp only
  have i_o_5z : Rg (0) (1) (o_5z) := by rw [e_2]; exact (rg_and (rg_b rfl : Rg (1) (1) ((1 : Int32))) (by decide) : Rg (0) (1) ((x1 - (1 : Int32)) &&& (1 : Int32)))
  refine s_br (fun c_3 => ?_) (fun c_3 => ?_)
  · have _ := c_3
    have i_f_4 : Rg (0) (0) (o_5z) := rg_eq c_3 (rg_b rfl : Rg (0) (0) (0 : Int32))
    exact s_some ⟨rfl, (rg_m (rg_sub (thI T q_r_2 (k := 73) rfl : Rg (0) (122) ((hI h r_2 o_3z.toNatClampNeg))) (rg_b rfl : Rg (32) (32) ((32 : Int32))) (by decide) : Rg (-32) (90) ((hI h r_2 o_3z.toNatClampNeg) - (32 : Int32))) (by decide))⟩
  · have _ := c_3
    have i_f_5 : Rg (1) (1) (o_5z) := rg_nlo c_3 i_o_5z (rg_b rfl : Rg (0) (0) (0 : Int32))
    exact s_some ⟨rfl, (rg_m (rg_sub (thI T q_r_2 (k := 73) rfl : Rg (0) (122) ((hI h r_2 o_3z.toNatClampNeg))) (rg_b rfl : Rg (0) (0) ((0 : Int32))) (by decide) : Rg (0) (122) ((hI h r_2 o_3z.toNatClampNeg) - (0 : Int32))) (by decide))⟩
set_option maxRecDepth 20000 in
theorem zX15_say {ρ : Nat → Nat} {c : Cm} {F : Nat} (hF : 700000 ≤ F) (hA : pmA c [(83, 999), (16, 3)]) {h : Hp} {x0 : Nat} {x1 : Int32} (T : TH ρ c h) (r_x0 : ρ x0 = 16) (i_x1 : Rg (-2147483648) (2147483647) (x1)) (po : ((hI h x0 3).toInt ≤ 255)) : Sat (sX15_say h x0 x1) (ZQ (ZV ρ c) (fun o => (((hI h x0 3).toInt) ≤ (hI o x0 3).toInt) ∧ ((hI o x0 3).toInt ≤ ((hI h x0 3).toInt) + 1))) := by
  unfold sX15_say 
  obtain ⟨r_1, e_r_1, q_r_1⟩ := thR T r_x0 (k := 16) (i := 2) (k2 := 83) rfl (by decide)
  refine s_ref e_r_1 ?_
  have og_1 : Rg (0) (255) ((hI h x0 3)) := ⟨(by have hq_ := ((thI T r_x0 (k := 16) (i := 3) rfl : Rg (0) (256) ((hI h x0 3))) : Rg (0) (256) ((hI h x0 3))); have := hq_.1; have := hq_.2; omega), (by have hq_ := ((thI T r_x0 (k := 16) (i := 3) rfl : Rg (0) (256) ((hI h x0 3))) : Rg (0) (256) ((hI h x0 3))); have := hq_.1; have := hq_.2; omega)⟩
  refine s_gd (by rw [thN T q_r_1 (k := 83) (n := 256) rfl (by decide)]; exact rg_inB (og_1 : Rg (0) (255) ((hI h x0 3))) (by decide)) ?_
  refine s_hq (th_wI T q_r_1 (k := 83) (lo := (-128)) (hi := (127)) rfl ((rg_narb (rg_y _ : Rg (-128) (127) (x1.toInt8.toInt32)) (by decide) : Rg (-128) (127) ((vp_nar .byte x1.toInt8.toInt32))) : Rg (-128) (127) ((vp_nar .byte x1.toInt8.toInt32))) (by decide) (by decide) (pm_a hA rfl)) (fun h_3 T_2 w_3 => ?_)
  refine s_hq (th_wI T_2 r_x0 (k := 16) (lo := (0)) (hi := (256)) rfl ((rg_m (rg_add ((rg_hw w_3 (ne_r r_x0 q_r_1 (by decide)) og_1) : Rg (0) (255) ((hI h_3 x0 3))) (rg_b rfl : Rg (1) (1) ((1 : Int32))) (by decide) : Rg (1) (256) (((hI h_3 x0 3) + (1 : Int32)))) (by decide)) : Rg (0) (256) (((hI h_3 x0 3) + (1 : Int32)))) (by decide) (by decide) (pm_a hA rfl)) (fun h_4 T_4 w_5 => ?_)
  exact s_some ⟨(T_4), ⟨(show ((hI h x0 3).toInt) ≤ (hI h_4 x0 3).toInt from (by have := (og_1 : Rg (0) (255) ((hI h x0 3))).1; have := (og_1 : Rg (0) (255) ((hI h x0 3))).2; have hq_ := (((rg_hs w_5 (rg_add ((rg_hw w_3 (ne_r r_x0 q_r_1 (by decide)) og_1) : Rg (0) (255) ((hI h_3 x0 3))) (rg_b rfl : Rg (1) (1) ((1 : Int32))) (by decide) : Rg (1) (256) (((hI h_3 x0 3) + (1 : Int32))))) : Rg (1) (256) ((hI h_4 x0 3))) : Rg (1) (256) ((hI h_4 x0 3))); have := hq_.1; have := hq_.2; have : (hI h_4 x0 3).toInt = (((hI h_3 x0 3) + (1 : Int32)) : Int32).toInt := congrArg Int32.toInt (he_s w_5); have : (((hI h_3 x0 3) + (1 : Int32)) : Int32).toInt = ((hI h_3 x0 3) : Int32).toInt + ((1 : Int32) : Int32).toInt := ti_add (((rg_hw w_3 (ne_r r_x0 q_r_1 (by decide)) og_1) : Rg (0) (255) ((hI h_3 x0 3))) : Rg (0) (255) ((hI h_3 x0 3))) ((rg_b rfl : Rg (1) (1) ((1 : Int32))) : Rg (1) (1) ((1 : Int32))) (by decide); have hq_ := (((rg_hw w_3 (ne_r r_x0 q_r_1 (by decide)) og_1) : Rg (0) (255) ((hI h_3 x0 3))) : Rg (0) (255) ((hI h_3 x0 3))); have := hq_.1; have := hq_.2; have : (hI h_3 x0 3).toInt = (hI h x0 3).toInt := congrArg Int32.toInt (he_w w_3 (ne_r r_x0 q_r_1 (by decide))); have : ((1 : Int32)).toInt = 1 := rfl; omega)), (show (hI h_4 x0 3).toInt ≤ ((hI h x0 3).toInt) + 1 from (by have hq_ := (((rg_hs w_5 (rg_add ((rg_hw w_3 (ne_r r_x0 q_r_1 (by decide)) og_1) : Rg (0) (255) ((hI h_3 x0 3))) (rg_b rfl : Rg (1) (1) ((1 : Int32))) (by decide) : Rg (1) (256) (((hI h_3 x0 3) + (1 : Int32))))) : Rg (1) (256) ((hI h_4 x0 3))) : Rg (1) (256) ((hI h_4 x0 3))); have := hq_.1; have := hq_.2; have : (hI h_4 x0 3).toInt = (((hI h_3 x0 3) + (1 : Int32)) : Int32).toInt := congrArg Int32.toInt (he_s w_5); have : (((hI h_3 x0 3) + (1 : Int32)) : Int32).toInt = ((hI h_3 x0 3) : Int32).toInt + ((1 : Int32) : Int32).toInt := ti_add (((rg_hw w_3 (ne_r r_x0 q_r_1 (by decide)) og_1) : Rg (0) (255) ((hI h_3 x0 3))) : Rg (0) (255) ((hI h_3 x0 3))) ((rg_b rfl : Rg (1) (1) ((1 : Int32))) : Rg (1) (1) ((1 : Int32))) (by decide); have hq_ := (((rg_hw w_3 (ne_r r_x0 q_r_1 (by decide)) og_1) : Rg (0) (255) ((hI h_3 x0 3))) : Rg (0) (255) ((hI h_3 x0 3))); have := hq_.1; have := hq_.2; have : (hI h_3 x0 3).toInt = (hI h x0 3).toInt := congrArg Int32.toInt (he_w w_3 (ne_r r_x0 q_r_1 (by decide))); have : ((1 : Int32)).toInt = 1 := rfl; have := (og_1 : Rg (0) (255) ((hI h x0 3))).1; have := (og_1 : Rg (0) (255) ((hI h x0 3))).2; omega))⟩⟩
theorem sn_14 {ρ : Nat → Nat} {c : Cm} {F : Nat} {rr' : Hp → Nat → Int32 → Option Hp} (hF : 700000 ≤ F) (hA : pmA c [(83, 999), (16, 3)]) {h : Hp} {x0 : Nat} {x1 : Int32} (T : TH ρ c h) (r_x0 : ρ x0 = 16) (po : (hI h x0 3).toInt ≤ 255) : Sat (sX15_sayNumber_14 F rr' h x0 x1) (ZQ (ZV ρ c) (fun o => (hI h x0 3).toInt ≤ (hI o x0 3).toInt ∧ (hI o x0 3).toInt ≤ (hI h x0 3).toInt + 1)) := by
  unfold sX15_sayNumber_14
  refine s_cVq (zX15_say hF hA T r_x0 (rg_top _) po) (fun o1 T1 p1 => ?_)
  exact s_some ⟨T1, p1⟩
theorem sn_q {ρ : Nat → Nat} {c : Cm} {F : Nat} (hF : 700000 ≤ F) (hA : pmA c [(83, 999), (16, 3)]) {x0 : Nat} (r_x0 : ρ x0 = 16) : ∀ (n d : Nat) {h : Hp} {x1 : Int32}, TH ρ c h → 0 ≤ x1.toInt → x1.toInt < 10 ^ (n + 1) → n < d → (hI h x0 3).toInt + n ≤ 255 → Sat (qX15_sayNumber F d h x0 x1) (ZQ (ZV ρ c) (fun o => (hI h x0 3).toInt ≤ (hI o x0 3).toInt ∧ (hI o x0 3).toInt ≤ (hI h x0 3).toInt + (n : Int) + 1 ∧ (x1.toInt ≤ 9 → (hI o x0 3).toInt ≤ (hI h x0 3).toInt + 1))) := by
  intro n
  induction n with
  | zero =>
    intro d h x1 T h0 h1 hd po
    obtain ⟨d, rfl⟩ : ∃ e, d = e + 1 := ⟨d - 1, by omega⟩
    show Sat (oX15_sayNumber F (qX15_sayNumber F d) h x0 x1) _
    unfold oX15_sayNumber
    refine s_br (fun _ => ?_) (fun c1 => ?_)
    · exact s_imp (sn_14 hF hA T r_x0 (by omega)) (fun o ho => ⟨ho.1, ho.2.1, by have := ho.2.2; omega, fun _ => ho.2.2⟩)
    · have c1 := nlt_i c1
      have : (10 : Int32).toInt = 10 := rfl
      omega
  | succ n ih =>
    intro d h x1 T h0 h1 hd po
    obtain ⟨d, rfl⟩ : ∃ e, d = e + 1 := ⟨d - 1, by omega⟩
    show Sat (oX15_sayNumber F (qX15_sayNumber F d) h x0 x1) _
    unfold oX15_sayNumber
    refine s_br (fun _ => ?_) (fun c1 => ?_)
    · exact s_imp (sn_14 hF hA T r_x0 (by omega)) (fun o ho => ⟨ho.1, ho.2.1, by have := ho.2.2; omega, fun _ => ho.2.2⟩)
    · have c1 := nlt_i c1
      have t : (10 : Int32).toInt = 10 := rfl
      have i1 : Rg 0 2147483647 x1 := ⟨h0, (rg_top x1).2⟩
      have e := td i1 (rg_b rfl : Rg 10 10 (10 : Int32)) ⟨by decide, by decide⟩
      rw [t] at e
      have p10 : (10 : Int) ^ (n + 1 + 1) = 10 ^ (n + 1) * 10 := Int.pow_succ _ _
      refine s_cVq (ih d T (by rw [e]; omega) (by rw [e]; omega) (by omega) (by omega)) (fun o2 T2 p2 => ?_)
      refine s_imp (sn_14 hF hA T2 r_x0 (by have := p2.2.1; omega)) (fun o ho => ⟨ho.1, by have := ho.2.1; have := p2.1; omega, by have := ho.2.2; have := p2.2.1; omega, fun q => ?_⟩)
      omega
theorem zX15_sayNumber {ρ : Nat → Nat} {c : Cm} {F : Nat} (hF : 700000 ≤ F) (hA : pmA c [(83, 999), (16, 3)]) {h : Hp} {x0 : Nat} {x1 : Int32} (T : TH ρ c h) (r_x0 : ρ x0 = 16) (i_x1 : Rg (0) (999) (x1)) (po : ((hI h x0 3).toInt ≤ 253)) : Sat (sX15_sayNumber F h x0 x1) (ZQ (ZV ρ c) (fun o => (((hI h x0 3).toInt) ≤ (hI o x0 3).toInt) ∧ ((hI o x0 3).toInt ≤ ((hI h x0 3).toInt) + 3) ∧ ((x1.toInt) ≤ 9 → (hI o x0 3).toInt ≤ ((hI h x0 3).toInt) + 1))) := by
  unfold sX15_sayNumber
  have := i_x1.2
  exact s_imp (sn_q hF hA r_x0 2 12 T i_x1.1 (by show x1.toInt < 1000; omega) (by decide) (by omega)) (fun o ho => ⟨ho.1, ho.2.1, by have := ho.2.2.1; omega, ho.2.2.2⟩)

set_option maxRecDepth 20000 in
theorem zX15_fileOf {ρ : Nat → Nat} {c : Cm} {F : Nat} (hF : 700000 ≤ F) {h : Hp} {x0 : Nat} {x1 : Int32} (T : TH ρ c h) (r_x0 : ρ x0 = 16) (i_x1 : Rg (0) (63) (x1)) : Sat (sX15_fileOf h x0 x1) (ZI0 h (0) (7)) := by
  unfold sX15_fileOf 
  refine s_gd (rg_ne0 (thI T r_x0 (k := 16) (i := 11) rfl : Rg (3) (8) ((hI h x0 11))) (by decide)) ?_
  exact s_some ⟨rfl, (rg_rem i_x1 (thI T r_x0 (k := 16) (i := 11) rfl : Rg (3) (8) ((hI h x0 11))) (by decide) : Rg (0) (7) (x1 - x1 / (hI h x0 11) * (hI h x0 11)))⟩
set_option maxRecDepth 20000 in
theorem zX15_saySquare {ρ : Nat → Nat} {c : Cm} {F : Nat} (hF : 700000 ≤ F) (hA : pmA c [(83, 999), (16, 3)]) {h : Hp} {x0 : Nat} {x1 : Int32} (T : TH ρ c h) (r_x0 : ρ x0 = 16) (i_x1 : Rg (0) (63) (x1)) (po : ((hI h x0 3).toInt ≤ 254)) : Sat (sX15_saySquare h x0 x1) (ZQ (ZV ρ c) (fun o => (((hI h x0 3).toInt) ≤ (hI o x0 3).toInt) ∧ ((hI o x0 3).toInt ≤ ((hI h x0 3).toInt) + 2))) := by
  unfold sX15_saySquare 
  refine s_dI0 (zX15_fileOf hF T r_x0 i_x1) (fun o_1 eb_o_1 e_o_1 i_o_1 => ?_)
  have T_1 := th_eq e_o_1 T
  refine s_cVq (zX15_say hF (pmA_s hA rfl) T_1 r_x0 (rg_m (rg_add (rg_b rfl : Rg (97) (97) ((97 : Int32))) i_o_1 (by decide) : Rg (97) (104) (((97 : Int32) + o_1.1))) (by decide)) (show (hI o_1.2 x0 3).toInt ≤ 255 from (by have : (((97 : Int32) + o_1.1) : Int32).toInt = ((97 : Int32) : Int32).toInt + (o_1.1 : Int32).toInt := ti_add ((rg_b rfl : Rg (97) (97) ((97 : Int32))) : Rg (97) (97) ((97 : Int32))) (i_o_1 : Rg (0) (7) (o_1.1)) (by decide); have : ((97 : Int32)).toInt = 97 := rfl; have := (i_o_1 : Rg (0) (7) (o_1.1)).1; have := (i_o_1 : Rg (0) (7) (o_1.1)).2; have hq_ := ((thI T_1 r_x0 (k := 16) (i := 3) rfl : Rg (0) (256) ((hI o_1.2 x0 3))) : Rg (0) (256) ((hI o_1.2 x0 3))); have := hq_.1; have := hq_.2; have : (hI o_1.2 x0 3).toInt = (hI h x0 3).toInt := congrArg Int32.toInt (he_e e_o_1); have hq_ := ((thI T r_x0 (k := 16) (i := 3) rfl : Rg (0) (256) ((hI h x0 3))) : Rg (0) (256) ((hI h x0 3))); have := hq_.1; have := hq_.2; omega))) (fun o_2 T_2 p_o_2 => ?_)
  have pq_o_2_0 : ((hI o_1.2 x0 3).toInt) ≤ (hI o_2 x0 3).toInt := p_o_2.1
  have pq_o_2_1 : (hI o_2 x0 3).toInt ≤ ((hI o_1.2 x0 3).toInt) + 1 := p_o_2.2
  refine s_gd (rg_ne0 (thI T_2 r_x0 (k := 16) (i := 11) rfl : Rg (3) (8) ((hI o_2 x0 11))) (by decide)) ?_
  refine s_cVq (zX15_say hF (pmA_s hA rfl) T_2 r_x0 (rg_m (rg_add (rg_b rfl : Rg (49) (49) ((49 : Int32))) (rg_divw i_x1 (thI T_2 r_x0 (k := 16) (i := 11) rfl : Rg (3) (8) ((hI o_2 x0 11))) (by decide) : Rg (0) (21) ((x1 / (hI o_2 x0 11)))) (by decide) : Rg (49) (70) (((49 : Int32) + (x1 / (hI o_2 x0 11))))) (by decide)) (show (hI o_2 x0 3).toInt ≤ 255 from (by have : (((49 : Int32) + (x1 / (hI o_2 x0 11))) : Int32).toInt = ((49 : Int32) : Int32).toInt + ((x1 / (hI o_2 x0 11)) : Int32).toInt := ti_add ((rg_b rfl : Rg (49) (49) ((49 : Int32))) : Rg (49) (49) ((49 : Int32))) ((rg_divw i_x1 (thI T_2 r_x0 (k := 16) (i := 11) rfl : Rg (3) (8) ((hI o_2 x0 11))) (by decide) : Rg (0) (21) ((x1 / (hI o_2 x0 11)))) : Rg (0) (21) ((x1 / (hI o_2 x0 11)))) (by decide); have : ((49 : Int32)).toInt = 49 := rfl; have hq_ := ((rg_divw i_x1 (thI T_2 r_x0 (k := 16) (i := 11) rfl : Rg (3) (8) ((hI o_2 x0 11))) (by decide) : Rg (0) (21) ((x1 / (hI o_2 x0 11)))) : Rg (0) (21) ((x1 / (hI o_2 x0 11)))); have := hq_.1; have := hq_.2; have hq_ := ((thI T_2 r_x0 (k := 16) (i := 3) rfl : Rg (0) (256) ((hI o_2 x0 3))) : Rg (0) (256) ((hI o_2 x0 3))); have := hq_.1; have := hq_.2; have hq_ := ((thI T r_x0 (k := 16) (i := 3) rfl : Rg (0) (256) ((hI h x0 3))) : Rg (0) (256) ((hI h x0 3))); have := hq_.1; have := hq_.2; have hq_ := ((thI T_1 r_x0 (k := 16) (i := 3) rfl : Rg (0) (256) ((hI o_1.2 x0 3))) : Rg (0) (256) ((hI o_1.2 x0 3))); have := hq_.1; have := hq_.2; have : (hI o_1.2 x0 3).toInt = (hI h x0 3).toInt := congrArg Int32.toInt (he_e e_o_1); omega))) (fun o_4 T_3 p_o_4 => ?_)
  have pq_o_4_0 : ((hI o_2 x0 3).toInt) ≤ (hI o_4 x0 3).toInt := p_o_4.1
  have pq_o_4_1 : (hI o_4 x0 3).toInt ≤ ((hI o_2 x0 3).toInt) + 1 := p_o_4.2
  exact s_some ⟨(T_3), ⟨(show ((hI h x0 3).toInt) ≤ (hI o_4 x0 3).toInt from (by have hq_ := ((thI T r_x0 (k := 16) (i := 3) rfl : Rg (0) (256) ((hI h x0 3))) : Rg (0) (256) ((hI h x0 3))); have := hq_.1; have := hq_.2; have hq_ := ((thI T_3 r_x0 (k := 16) (i := 3) rfl : Rg (0) (256) ((hI o_4 x0 3))) : Rg (0) (256) ((hI o_4 x0 3))); have := hq_.1; have := hq_.2; have hq_ := ((thI T_1 r_x0 (k := 16) (i := 3) rfl : Rg (0) (256) ((hI o_1.2 x0 3))) : Rg (0) (256) ((hI o_1.2 x0 3))); have := hq_.1; have := hq_.2; have : (hI o_1.2 x0 3).toInt = (hI h x0 3).toInt := congrArg Int32.toInt (he_e e_o_1); have hq_ := ((thI T_2 r_x0 (k := 16) (i := 3) rfl : Rg (0) (256) ((hI o_2 x0 3))) : Rg (0) (256) ((hI o_2 x0 3))); have := hq_.1; have := hq_.2; omega)), (show (hI o_4 x0 3).toInt ≤ ((hI h x0 3).toInt) + 2 from (by have hq_ := ((thI T_3 r_x0 (k := 16) (i := 3) rfl : Rg (0) (256) ((hI o_4 x0 3))) : Rg (0) (256) ((hI o_4 x0 3))); have := hq_.1; have := hq_.2; have hq_ := ((thI T r_x0 (k := 16) (i := 3) rfl : Rg (0) (256) ((hI h x0 3))) : Rg (0) (256) ((hI h x0 3))); have := hq_.1; have := hq_.2; have hq_ := ((thI T_1 r_x0 (k := 16) (i := 3) rfl : Rg (0) (256) ((hI o_1.2 x0 3))) : Rg (0) (256) ((hI o_1.2 x0 3))); have := hq_.1; have := hq_.2; have : (hI o_1.2 x0 3).toInt = (hI h x0 3).toInt := congrArg Int32.toInt (he_e e_o_1); have hq_ := ((thI T_2 r_x0 (k := 16) (i := 3) rfl : Rg (0) (256) ((hI o_2 x0 3))) : Rg (0) (256) ((hI o_2 x0 3))); have := hq_.1; have := hq_.2; omega))⟩⟩
set_option maxRecDepth 20000 in
theorem zX15_writeMen_90 {ρ : Nat → Nat} {c : Cm} {F : Nat} {w_x1 : Nat} {u0 : Int} (hF : 700000 ≤ F) {k_8 : Hp → Nat → Nat → Int64 → Int32 → Option (Hp)} {C_8 : Int} {k_19 : Hp → Nat → Nat → Int64 → Int32 → Int32 → Int32 → Option (Hp)} {C_19 : Int} (hk_8 : ∀ {h : Hp} {x0 : Nat} {x1 : Nat} {x2 : Int64} {x4 : Int32}, cw c x1 = w_x1 → TH ρ c h → ρ x0 = 16 → ρ x1 = 13 → Rg (-1) (7) (x4) → (u0 ≤ (hI h x0 3).toInt ∧ u0 ≤ 180 ∧ (hI h x0 3).toInt ≤ u0 + 9 * (7 - x4.toInt)) → x4.toInt < C_8 → Sat (k_8 h x0 x1 x2 x4) (ZQ (ZV ρ c) (fun o => (u0 ≤ (hI o x0 3).toInt) ∧ ((hI o x0 3).toInt ≤ u0 + 72)))) (hk_19 : ∀ {h : Hp} {x0 : Nat} {x1 : Nat} {x2 : Int64} {x4 : Int32} {x5 : Int32} {x6 : Int32}, cw c x1 = w_x1 → TH ρ c h → ρ x0 = 16 → ρ x1 = 13 → Rg (0) (7) (x4) → Rg (0) (8) (x5) → Rg (0) (8) (x6) → x4.toInt ≤ C_8 → (u0 ≤ (hI h x0 3).toInt ∧ u0 ≤ 180 ∧ 0 ≤ x5.toInt ∧ x5.toInt ≤ x6.toInt ∧ (hI h x0 3).toInt + x5.toInt ≤ u0 + 9 * (7 - x4.toInt) + x6.toInt) → C_19 < x6.toInt → Sat (k_19 h x0 x1 x2 x4 x5 x6) (ZQ (ZV ρ c) (fun o => (u0 ≤ (hI o x0 3).toInt) ∧ ((hI o x0 3).toInt ≤ u0 + 72)))) (hA : pmA c [(83, 999), (16, 3)]) {h : Hp} {x0 : Nat} {x1 : Nat} {x2 : Int64} {x4 : Int32} {x6 : Int32} {x7 : Int32} {x8 : Int32} (o_x1 : cw c x1 = w_x1) (T : TH ρ c h) (r_x0 : ρ x0 = 16) (r_x1 : ρ x1 = 13) (i_x4 : Rg (0) (7) (x4)) (i_x6 : Rg (0) (7) (x6)) (i_x7 : Rg (0) (63) (x7)) (i_x8 : Rg (0) (1) (x8)) (hc_8 : x4.toInt ≤ C_8) (hc_19 : C_19 ≤ x6.toInt) (w90 : (u0 ≤ (hI h x0 3).toInt ∧ u0 ≤ 180 ∧ (hI h x0 3).toInt ≤ u0 + 9 * (7 - x4.toInt) + x6.toInt)) (mc : (MnC x1 x7 x8 h)) : Sat (sX15_writeMen_90 F k_8 k_19 h x0 x1 x2 x4 x6 x7 x8) (ZQ (ZV ρ c) (fun o => (u0 ≤ (hI o x0 3).toInt) ∧ ((hI o x0 3).toInt ≤ u0 + 72))) := by
  unfold sX15_writeMen_90 sX15_writeMen_115 sX15_writeMen_118
  refine s_br (fun c_1 => ?_) (fun c_1 => ?_)
  · have _ := c_1
    have i_f_2 : Rg (0) (0) (x8) := rg_eq c_1 (rg_b rfl : Rg (0) (0) (0 : Int32))
    refine s_cVq (zX15_say hF (pmA_s hA rfl) T r_x0 (rg_m (rg_b rfl : Rg (63) (63) ((63 : Int32))) (by decide)) (show (hI h x0 3).toInt ≤ 255 from (by have : ((63 : Int32)).toInt = 63 := rfl; have hq_ := ((thI T r_x0 (k := 16) (i := 3) rfl : Rg (0) (256) ((hI h x0 3))) : Rg (0) (256) ((hI h x0 3))); have := hq_.1; have := hq_.2; have := (i_x7 : Rg (0) (63) (x7)).1; have := (i_x7 : Rg (0) (63) (x7)).2; have := (i_f_2 : Rg (0) (0) (x8)).1; have := (i_f_2 : Rg (0) (0) (x8)).2; have := (i_x4 : Rg (0) (7) (x4)).1; have := (i_x4 : Rg (0) (7) (x4)).2; have := (i_x6 : Rg (0) (7) (x6)).1; have := (i_x6 : Rg (0) (7) (x6)).2; have := eq_i c_1; have : (0 : Int32).toInt = 0 := rfl; clear o_x1; omega))) (fun o_1q1 T_3 p_o_1q1 => ?_)
    have pq_o_1q1_0 : ((hI h x0 3).toInt) ≤ (hI o_1q1 x0 3).toInt := p_o_1q1.1
    have pq_o_1q1_1 : (hI o_1q1 x0 3).toInt ≤ ((hI h x0 3).toInt) + 1 := p_o_1q1.2
    refine s_q (fun v_1q2 e_4 => ?_)
    have i_v_1q2 : Rg (1) (8) (v_1q2) := by rw [e_4]; exact (rg_add i_x6 (rg_b rfl : Rg (1) (1) ((1 : Int32))) (by decide) : Rg (1) (8) (x6 + (1 : Int32)))
    have m_5 : (v_1q2).toInt = x6.toInt + 1 := by rw [e_4]; exact rg_inc i_x6 (by decide)
    exact hk_19 o_x1 T_3 r_x0 r_x1 i_x4 (rg_m (rg_b rfl : Rg (0) (0) ((0 : Int32))) (by decide)) (rg_m i_v_1q2 (by decide)) hc_8 (show u0 ≤ (hI o_1q1 x0 3).toInt ∧ u0 ≤ 180 ∧ 0 ≤ ((0 : Int32)).toInt ∧ ((0 : Int32)).toInt ≤ (v_1q2).toInt ∧ (hI o_1q1 x0 3).toInt + ((0 : Int32)).toInt ≤ u0 + 9 * (7 - (x4).toInt) + (v_1q2).toInt from (by have := (i_x4 : Rg (0) (7) (x4)).1; have := (i_x4 : Rg (0) (7) (x4)).2; have : ((0 : Int32)).toInt = 0 := rfl; have := (i_v_1q2 : Rg (1) (8) (v_1q2)).1; have := (i_v_1q2 : Rg (1) (8) (v_1q2)).2; have : (v_1q2).toInt = (x6 + (1 : Int32) : Int32).toInt := congrArg Int32.toInt e_4; have : (x6 + (1 : Int32) : Int32).toInt = (x6 : Int32).toInt + ((1 : Int32) : Int32).toInt := ti_add (i_x6 : Rg (0) (7) (x6)) ((rg_b rfl : Rg (1) (1) ((1 : Int32))) : Rg (1) (1) ((1 : Int32))) (by decide); have := (i_x6 : Rg (0) (7) (x6)).1; have := (i_x6 : Rg (0) (7) (x6)).2; have : ((1 : Int32)).toInt = 1 := rfl; have hq_ := ((thI T_3 r_x0 (k := 16) (i := 3) rfl : Rg (0) (256) ((hI o_1q1 x0 3))) : Rg (0) (256) ((hI o_1q1 x0 3))); have := hq_.1; have := hq_.2; have := (i_x7 : Rg (0) (63) (x7)).1; have := (i_x7 : Rg (0) (63) (x7)).2; have := (i_f_2 : Rg (0) (0) (x8)).1; have := (i_f_2 : Rg (0) (0) (x8)).2; have hq_ := ((thI T r_x0 (k := 16) (i := 3) rfl : Rg (0) (256) ((hI h x0 3))) : Rg (0) (256) ((hI h x0 3))); have := hq_.1; have := hq_.2; have := eq_i c_1; have : (0 : Int32).toInt = 0 := rfl; clear o_x1; refine ⟨?_, ?_, ?_, ?_, ?_⟩ <;> omega)) (by have := hc_19; omega)
  · have _ := c_1
    have i_f_6 : Rg (1) (1) (x8) := rg_nlo c_1 i_x8 (rg_b rfl : Rg (0) (0) (0 : Int32))
    obtain ⟨r_2, e_r_2, q_r_2⟩ := thR T r_x1 (k := 13) (i := 0) (k2 := 62) rfl (by decide)
    refine s_ref e_r_2 ?_
    have rh_7 : Rg 1 24 (hI h r_2 x7.toNatClampNeg) := ⟨(mc.resolve_left c_1) _ e_r_2, (thI T q_r_2 (k := 62) (lo := 0) (hi := 24) rfl).2⟩
    refine s_gd (by rw [thN T q_r_2 (k := 62) (n := 64) rfl (by decide)]; exact rg_inB (i_x7 : Rg (0) (63) (x7)) (by decide)) ?_
    refine s_dI0 (zX15_letterOf hF T r_x0 rh_7) (fun o_4 eb_o_4 e_o_4 i_o_4 => ?_)
    have T_8 := th_eq e_o_4 T
    refine s_cVq (zX15_say hF (pmA_s hA rfl) T_8 r_x0 (rg_m i_o_4 (by decide)) (show (hI o_4.2 x0 3).toInt ≤ 255 from (by have := (i_o_4 : Rg (-32) (122) (o_4.1)).1; have := (i_o_4 : Rg (-32) (122) (o_4.1)).2; have hq_ := ((thI T_8 r_x0 (k := 16) (i := 3) rfl : Rg (0) (256) ((hI o_4.2 x0 3))) : Rg (0) (256) ((hI o_4.2 x0 3))); have := hq_.1; have := hq_.2; have : (hI o_4.2 x0 3).toInt = (hI h x0 3).toInt := congrArg Int32.toInt (he_e e_o_4); have := (i_x7 : Rg (0) (63) (x7)).1; have := (i_x7 : Rg (0) (63) (x7)).2; have := (i_f_6 : Rg (1) (1) (x8)).1; have := (i_f_6 : Rg (1) (1) (x8)).2; have hq_ := ((thI T r_x0 (k := 16) (i := 3) rfl : Rg (0) (256) ((hI h x0 3))) : Rg (0) (256) ((hI h x0 3))); have := hq_.1; have := hq_.2; have := (i_x4 : Rg (0) (7) (x4)).1; have := (i_x4 : Rg (0) (7) (x4)).2; have := (i_x6 : Rg (0) (7) (x6)).1; have := (i_x6 : Rg (0) (7) (x6)).2; have := ne_i c_1; have : (0 : Int32).toInt = 0 := rfl; clear o_x1; omega))) (fun o_1q3 T_9 p_o_1q3 => ?_)
    have pq_o_1q3_0 : ((hI o_4.2 x0 3).toInt) ≤ (hI o_1q3 x0 3).toInt := p_o_1q3.1
    have pq_o_1q3_1 : (hI o_1q3 x0 3).toInt ≤ ((hI o_4.2 x0 3).toInt) + 1 := p_o_1q3.2
    refine s_q (fun v_1q4 e_10 => ?_)
    have i_v_1q4 : Rg (1) (8) (v_1q4) := by rw [e_10]; exact (rg_add i_x6 (rg_b rfl : Rg (1) (1) ((1 : Int32))) (by decide) : Rg (1) (8) (x6 + (1 : Int32)))
    have m_11 : (v_1q4).toInt = x6.toInt + 1 := by rw [e_10]; exact rg_inc i_x6 (by decide)
    exact hk_19 o_x1 T_9 r_x0 r_x1 i_x4 (rg_m (rg_b rfl : Rg (0) (0) ((0 : Int32))) (by decide)) (rg_m i_v_1q4 (by decide)) hc_8 (show u0 ≤ (hI o_1q3 x0 3).toInt ∧ u0 ≤ 180 ∧ 0 ≤ ((0 : Int32)).toInt ∧ ((0 : Int32)).toInt ≤ (v_1q4).toInt ∧ (hI o_1q3 x0 3).toInt + ((0 : Int32)).toInt ≤ u0 + 9 * (7 - (x4).toInt) + (v_1q4).toInt from (by have := (i_x4 : Rg (0) (7) (x4)).1; have := (i_x4 : Rg (0) (7) (x4)).2; have : ((0 : Int32)).toInt = 0 := rfl; have := (i_v_1q4 : Rg (1) (8) (v_1q4)).1; have := (i_v_1q4 : Rg (1) (8) (v_1q4)).2; have : (v_1q4).toInt = (x6 + (1 : Int32) : Int32).toInt := congrArg Int32.toInt e_10; have : (x6 + (1 : Int32) : Int32).toInt = (x6 : Int32).toInt + ((1 : Int32) : Int32).toInt := ti_add (i_x6 : Rg (0) (7) (x6)) ((rg_b rfl : Rg (1) (1) ((1 : Int32))) : Rg (1) (1) ((1 : Int32))) (by decide); have := (i_x6 : Rg (0) (7) (x6)).1; have := (i_x6 : Rg (0) (7) (x6)).2; have : ((1 : Int32)).toInt = 1 := rfl; have hq_ := ((thI T_9 r_x0 (k := 16) (i := 3) rfl : Rg (0) (256) ((hI o_1q3 x0 3))) : Rg (0) (256) ((hI o_1q3 x0 3))); have := hq_.1; have := hq_.2; have := (i_x7 : Rg (0) (63) (x7)).1; have := (i_x7 : Rg (0) (63) (x7)).2; have := (i_f_6 : Rg (1) (1) (x8)).1; have := (i_f_6 : Rg (1) (1) (x8)).2; have hq_ := ((thI T_8 r_x0 (k := 16) (i := 3) rfl : Rg (0) (256) ((hI o_4.2 x0 3))) : Rg (0) (256) ((hI o_4.2 x0 3))); have := hq_.1; have := hq_.2; have : (hI o_4.2 x0 3).toInt = (hI h x0 3).toInt := congrArg Int32.toInt (he_e e_o_4); have hq_ := ((thI T r_x0 (k := 16) (i := 3) rfl : Rg (0) (256) ((hI h x0 3))) : Rg (0) (256) ((hI h x0 3))); have := hq_.1; have := hq_.2; have := ne_i c_1; have : (0 : Int32).toInt = 0 := rfl; clear o_x1; refine ⟨?_, ?_, ?_, ?_, ?_⟩ <;> omega)) (by have := hc_19; omega)
