set_option maxRecDepth 20000 in
theorem zX15_isMan {ρ : Nat → Nat} {c : Cm} {F : Nat} (hF : 700000 ≤ F) (hA : pmA c [(73, 999), (74, 999), (75, 999), (76, 999), (77, 999), (78, 999), (79, 999), (15, 2), (16, 6), (16, 7), (16, 8), (16, 9)]) {h : Hp} {x0 : Nat} {x1 : Nat} {x2 : Int32} (T : TH ρ c h) (r_x0 : ρ x0 = 16) (r_x1 : ρ x1 = 82) (i_x2 : Rg (0) (1200) (x2)) (pe : ((hI h x0 8).toInt ≤ x2.toInt)) (fz : (FreshZ x0 h)) : Sat (sX15_isMan F h x0 x1 x2) (ZQ (ZI ρ c (0) (1)) (fun o => (((hI h x0 8).toInt) ≤ (hI o.2 x0 8).toInt) ∧ ((hI o.2 x0 8).toInt ≤ (x2.toInt)) ∧ (FreshZ x0 o.2))) := by
  unfold sX15_isMan sX15_isMan_48
  refine s_cVfq (S := fS [(16, 6), (16, 7), (16, 8), (16, 9)] []) T (fs_sub (pmA_s hA rfl) fs_n) (zX15_nextToken hF fs_a (th_in _ T) r_x0 r_x1 i_x2 (show (hI h x0 8).toInt ≤ (x2).toInt from (by have := (i_x2 : Rg (0) (1200) (x2)).1; have := (i_x2 : Rg (0) (1200) (x2)).2; have hq_ := ((thI T r_x0 (k := 16) (i := 8) rfl : Rg (0) (1200) ((hI h x0 8))) : Rg (0) (1200) ((hI h x0 8))); have := hq_.1; have := hq_.2; omega))) (fun o_1 T_1 f_o_1 p_o_1 => ?_)
  have pq_o_1_0 : ((hI h x0 8).toInt) ≤ (hI o_1 x0 8).toInt := p_o_1.1
  have pq_o_1_1 : (hI o_1 x0 8).toInt ≤ ((x2).toInt) := p_o_1.2.1
  have pq_o_1_2 : (hI o_1 x0 6).toInt = 4 ∨ ((hI h x0 8).toInt) < (hI o_1 x0 8).toInt := p_o_1.2.2.1
  refine s_br (fun c_2 => ?_) (fun c_2 => ?_)
  · have _ := c_2
    have i_f_3 : Rg (1) (1) ((hI o_1 x0 6)) := rg_eq c_2 (rg_b rfl : Rg (1) (1) ((1 : Int32)))
    refine s_br (fun c_4 => ?_) (fun c_4 => ?_)
    · have _ := c_4
      refine s_dP0 (zX15_manAt hF T_1 r_x0 r_x1) (fun o_4 eb_o_4 e_o_4 i_o_4 p_o_4 => ?_)
      have T_5 := th_eq e_o_4 T_1
      refine s_br (fun c_6 => ?_) (fun c_6 => ?_)
      · have _ := c_6
        have i_f_7 : Rg (-1) (-1) (o_4.1) := rg_eq c_6 (rg_b rfl : Rg (-1) (-1) ((- 1 : Int32)))
        obtain ⟨r_6, e_r_6, q_r_6⟩ := thR T_5 r_x0 (k := 16) (i := 5) (k2 := 15) rfl (by decide)
        refine s_ref e_r_6 ?_
        refine s_br (fun c_8 => ?_) (fun c_8 => ?_)
        · have _ := c_8
          have i_f_9 : Rg (12) (12) ((hI o_4.2 r_6 2)) := rg_eq c_8 (rg_b rfl : Rg (12) (12) ((12 : Int32)))
          have pf_10 : FreshZ x0 o_4.2 := (by rw [e_o_4]; exact (fz_fr T r_x0 f_o_1 (fun _ => rfl) (fun _ => rfl) (fun _ => rfl) (fun _ _ => rfl) fz))
          exact s_some ⟨⟨(T_5), (rg_m (rg_b rfl : Rg (0) (0) ((0 : Int32))) (by decide))⟩, ⟨(show ((hI h x0 8).toInt) ≤ (hI o_4.2 x0 8).toInt from (by have : ((0 : Int32)).toInt = 0 := rfl; have hq_ := ((thI T r_x0 (k := 16) (i := 8) rfl : Rg (0) (1200) ((hI h x0 8))) : Rg (0) (1200) ((hI h x0 8))); have := hq_.1; have := hq_.2; have hq_ := ((thI T_5 r_x0 (k := 16) (i := 8) rfl : Rg (0) (1200) ((hI o_4.2 x0 8))) : Rg (0) (1200) ((hI o_4.2 x0 8))); have := hq_.1; have := hq_.2; have : (hI o_4.2 x0 8).toInt = (hI o_1 x0 8).toInt := congrArg Int32.toInt (he_e e_o_4); have := (i_x2 : Rg (0) (1200) (x2)).1; have := (i_x2 : Rg (0) (1200) (x2)).2; have hq_ := ((thI T_1 r_x0 (k := 16) (i := 8) rfl : Rg (0) (1200) ((hI o_1 x0 8))) : Rg (0) (1200) ((hI o_1 x0 8))); have := hq_.1; have := hq_.2; have := (i_f_3 : Rg (1) (1) ((hI o_1 x0 6))).1; have := (i_f_3 : Rg (1) (1) ((hI o_1 x0 6))).2; have : (o_4.1).toInt = -1 ∨ (1 ≤ ((hI o_1 x0 6)).toInt ∧ ((hI o_1 x0 6)).toInt ≤ 1) := p1_or p_o_4; have := (i_f_7 : Rg (-1) (-1) (o_4.1)).1; have := (i_f_7 : Rg (-1) (-1) (o_4.1)).2; have := eq_i c_2; have : ((1 : Int32)).toInt = 1 := rfl; have := eq_i c_4; have : (((hI o_1 x0 7) + (1 : Int32)) : Int32).toInt = ((hI o_1 x0 7) : Int32).toInt + ((1 : Int32) : Int32).toInt := ti_add ((thI T_1 r_x0 (k := 16) (i := 7) rfl : Rg (0) (1200) ((hI o_1 x0 7))) : Rg (0) (1200) ((hI o_1 x0 7))) ((rg_b rfl : Rg (1) (1) ((1 : Int32))) : Rg (1) (1) ((1 : Int32))) (by decide); have hq_ := ((thI T_1 r_x0 (k := 16) (i := 7) rfl : Rg (0) (1200) ((hI o_1 x0 7))) : Rg (0) (1200) ((hI o_1 x0 7))); have := hq_.1; have := hq_.2; have := eq_i c_6; have : ((- 1 : Int32)).toInt = -1 := rfl; omega)), (show (hI o_4.2 x0 8).toInt ≤ (x2.toInt) from (by have : ((0 : Int32)).toInt = 0 := rfl; have hq_ := ((thI T_5 r_x0 (k := 16) (i := 8) rfl : Rg (0) (1200) ((hI o_4.2 x0 8))) : Rg (0) (1200) ((hI o_4.2 x0 8))); have := hq_.1; have := hq_.2; have : (hI o_4.2 x0 8).toInt = (hI o_1 x0 8).toInt := congrArg Int32.toInt (he_e e_o_4); have := (i_x2 : Rg (0) (1200) (x2)).1; have := (i_x2 : Rg (0) (1200) (x2)).2; have hq_ := ((thI T r_x0 (k := 16) (i := 8) rfl : Rg (0) (1200) ((hI h x0 8))) : Rg (0) (1200) ((hI h x0 8))); have := hq_.1; have := hq_.2; have hq_ := ((thI T_1 r_x0 (k := 16) (i := 8) rfl : Rg (0) (1200) ((hI o_1 x0 8))) : Rg (0) (1200) ((hI o_1 x0 8))); have := hq_.1; have := hq_.2; have := (i_f_3 : Rg (1) (1) ((hI o_1 x0 6))).1; have := (i_f_3 : Rg (1) (1) ((hI o_1 x0 6))).2; have : (o_4.1).toInt = -1 ∨ (1 ≤ ((hI o_1 x0 6)).toInt ∧ ((hI o_1 x0 6)).toInt ≤ 1) := p1_or p_o_4; have := (i_f_7 : Rg (-1) (-1) (o_4.1)).1; have := (i_f_7 : Rg (-1) (-1) (o_4.1)).2; have := eq_i c_2; have : ((1 : Int32)).toInt = 1 := rfl; have := eq_i c_4; have : (((hI o_1 x0 7) + (1 : Int32)) : Int32).toInt = ((hI o_1 x0 7) : Int32).toInt + ((1 : Int32) : Int32).toInt := ti_add ((thI T_1 r_x0 (k := 16) (i := 7) rfl : Rg (0) (1200) ((hI o_1 x0 7))) : Rg (0) (1200) ((hI o_1 x0 7))) ((rg_b rfl : Rg (1) (1) ((1 : Int32))) : Rg (1) (1) ((1 : Int32))) (by decide); have hq_ := ((thI T_1 r_x0 (k := 16) (i := 7) rfl : Rg (0) (1200) ((hI o_1 x0 7))) : Rg (0) (1200) ((hI o_1 x0 7))); have := hq_.1; have := hq_.2; have := eq_i c_6; have : ((- 1 : Int32)).toInt = -1 := rfl; omega)), pf_10⟩⟩
        · have _ := c_8
          have i_f_11 : Rg (0) (11) ((hI o_4.2 r_6 2)) := rg_nhi c_8 (thI T_5 q_r_6 (k := 15) (i := 2) rfl : Rg (0) (12) ((hI o_4.2 r_6 2))) (rg_b rfl : Rg (12) (12) ((12 : Int32)))
          refine s_ref e_r_6 ?_
          refine s_q (fun v_9 e_12 => ?_)
          have i_v_9 : Rg (0) (11) (v_9) := by rw [e_12]; exact i_f_11
          refine s_ref e_r_6 ?_
          obtain ⟨r_11, e_r_11, q_r_11⟩ := thR T_5 q_r_6 (k := 15) (i := 3) (k2 := 73) rfl (by decide)
          refine s_ref e_r_11 ?_
          refine s_gd (by rw [thN T_5 r_x1 (k := 82) (n := 1220) rfl (by decide)]; exact rg_inB ((rg_m (thI T_5 r_x0 (k := 16) (i := 7) rfl : Rg (0) (1200) ((hI o_4.2 x0 7))) (by decide)) : Rg (0) (1219) ((hI o_4.2 x0 7))) (by decide)) ?_
          refine s_gd (by rw [thN T_5 q_r_11 (k := 73) (n := 12) rfl (by decide)]; exact rg_inB (i_v_9 : Rg (0) (11) (v_9)) (by decide)) ?_
          have pf_15 : WdP x0 x1 o_4.2 := (by rw [e_o_4]; exact p_o_1.2.2.2)
          have lt_16 : Rg (97) (122) ((hI o_4.2 x1 (hI o_4.2 x0 7).toNatClampNeg)) := wd_use pf_15 (by have hq_ := (((rg_he e_o_4 i_f_3) : Rg (1) (1) ((hI o_4.2 x0 6))) : Rg (1) (1) ((hI o_4.2 x0 6))); have := hq_.1; have := hq_.2; have : (hI o_4.2 x0 6).toInt = (hI o_1 x0 6).toInt := congrArg Int32.toInt (he_e e_o_4); have hq_ := ((thI T r_x0 (k := 16) (i := 8) rfl : Rg (0) (1200) ((hI h x0 8))) : Rg (0) (1200) ((hI h x0 8))); have := hq_.1; have := hq_.2; have := (i_x2 : Rg (0) (1200) (x2)).1; have := (i_x2 : Rg (0) (1200) (x2)).2; have hq_ := ((thI T_1 r_x0 (k := 16) (i := 8) rfl : Rg (0) (1200) ((hI o_1 x0 8))) : Rg (0) (1200) ((hI o_1 x0 8))); have := hq_.1; have := hq_.2; have := (i_f_3 : Rg (1) (1) ((hI o_1 x0 6))).1; have := (i_f_3 : Rg (1) (1) ((hI o_1 x0 6))).2; have : (o_4.1).toInt = -1 ∨ (1 ≤ ((hI o_1 x0 6)).toInt ∧ ((hI o_1 x0 6)).toInt ≤ 1) := p1_or p_o_4; have := (i_f_7 : Rg (-1) (-1) (o_4.1)).1; have := (i_f_7 : Rg (-1) (-1) (o_4.1)).2; have := eq_i c_2; have : ((1 : Int32)).toInt = 1 := rfl; have := eq_i c_4; have : (((hI o_1 x0 7) + (1 : Int32)) : Int32).toInt = ((hI o_1 x0 7) : Int32).toInt + ((1 : Int32) : Int32).toInt := ti_add ((thI T_1 r_x0 (k := 16) (i := 7) rfl : Rg (0) (1200) ((hI o_1 x0 7))) : Rg (0) (1200) ((hI o_1 x0 7))) ((rg_b rfl : Rg (1) (1) ((1 : Int32))) : Rg (1) (1) ((1 : Int32))) (by decide); have hq_ := ((thI T_1 r_x0 (k := 16) (i := 7) rfl : Rg (0) (1200) ((hI o_1 x0 7))) : Rg (0) (1200) ((hI o_1 x0 7))); have := hq_.1; have := hq_.2; have := eq_i c_6; have : ((- 1 : Int32)).toInt = -1 := rfl; omega)
          refine s_hq (th_wI T_5 q_r_11 (k := 73) (lo := (0)) (hi := (122)) rfl ((rg_m lt_16 (by decide)) : Rg (0) (122) ((hI o_4.2 x1 (hI o_4.2 x0 7).toNatClampNeg))) (by decide) (by decide) (pm_a hA rfl) (rpL (Or.inr lt_16))) (fun h_14 T_13 w_14 => ?_)
          refine s_ref (hr_w w_14 e_r_6) ?_
          refine s_hq (th_wI T_13 q_r_6 (k := 15) (lo := (0)) (hi := (12)) rfl ((rg_m (rg_add ((rg_hw w_14 (ne_r q_r_6 q_r_11 (by decide)) i_f_11) : Rg (0) (11) ((hI h_14 r_6 2))) (rg_b rfl : Rg (1) (1) ((1 : Int32))) (by decide) : Rg (1) (12) (((hI h_14 r_6 2) + (1 : Int32)))) (by decide)) : Rg (0) (12) (((hI h_14 r_6 2) + (1 : Int32)))) (by decide) (by decide) (pm_a hA rfl)) (fun h_16 T_17 w_18 => ?_)
          have pf_19 : FreshZ x0 h_14 := (fz_fr T_5 r_x0 (fr1I (A := [(73, 999)]) q_r_11 rfl w_14) (fun _ => rfl) (fun _ => rfl) (fun _ => rfl) (fun _ _ => rfl) (by rw [e_o_4]; exact (fz_fr T r_x0 f_o_1 (fun _ => rfl) (fun _ => rfl) (fun _ => rfl) (fun _ _ => rfl) fz)))
          have es_20 : v_9 = hI h_14 r_6 2 := by rw [e_12]; exact Int32.toInt_inj.mp (by have : (hI h_14 r_6 2).toInt = (hI o_4.2 r_6 2).toInt := congrArg Int32.toInt (he_w w_14 (ne_r q_r_6 q_r_11 (by decide))); have : (hI o_4.2 r_6 2).toInt = (hI o_1 r_6 2).toInt := congrArg Int32.toInt (he_e e_o_4); have : (hI o_1 r_6 2).toInt = (hI h r_6 2).toInt := congrArg Int32.toInt (fr_I f_o_1 q_r_6 (by decide) rfl rfl); omega)
          refine s_cVfq (S := fS [(16, 6), (16, 7), (16, 8), (16, 9)] []) T_17 (fs_sub (pmA_s hA rfl) fs_n) (zX15_nextToken hF fs_a (th_in _ T_17) r_x0 r_x1 i_x2 (show (hI h_16 x0 8).toInt ≤ (x2).toInt from (by have := (i_x2 : Rg (0) (1200) (x2)).1; have := (i_x2 : Rg (0) (1200) (x2)).2; have hq_ := ((thI T_17 r_x0 (k := 16) (i := 8) rfl : Rg (0) (1200) ((hI h_16 x0 8))) : Rg (0) (1200) ((hI h_16 x0 8))); have := hq_.1; have := hq_.2; have : (hI h_16 x0 8).toInt = (hI h_14 x0 8).toInt := congrArg Int32.toInt (he_w w_18 (ne_r r_x0 q_r_6 (by decide))); have : (hI h_14 x0 8).toInt = (hI o_4.2 x0 8).toInt := congrArg Int32.toInt (he_w w_14 (ne_r r_x0 q_r_11 (by decide))); have : (hI o_4.2 x0 8).toInt = (hI o_1 x0 8).toInt := congrArg Int32.toInt (he_e e_o_4); have hq_ := ((thI T r_x0 (k := 16) (i := 8) rfl : Rg (0) (1200) ((hI h x0 8))) : Rg (0) (1200) ((hI h x0 8))); have := hq_.1; have := hq_.2; have hq_ := ((thI T_1 r_x0 (k := 16) (i := 8) rfl : Rg (0) (1200) ((hI o_1 x0 8))) : Rg (0) (1200) ((hI o_1 x0 8))); have := hq_.1; have := hq_.2; have := (i_f_3 : Rg (1) (1) ((hI o_1 x0 6))).1; have := (i_f_3 : Rg (1) (1) ((hI o_1 x0 6))).2; have : (o_4.1).toInt = -1 ∨ (1 ≤ ((hI o_1 x0 6)).toInt ∧ ((hI o_1 x0 6)).toInt ≤ 1) := p1_or p_o_4; have := (i_f_7 : Rg (-1) (-1) (o_4.1)).1; have := (i_f_7 : Rg (-1) (-1) (o_4.1)).2; have := eq_i c_2; have : ((1 : Int32)).toInt = 1 := rfl; have := eq_i c_4; have : (((hI o_1 x0 7) + (1 : Int32)) : Int32).toInt = ((hI o_1 x0 7) : Int32).toInt + ((1 : Int32) : Int32).toInt := ti_add ((thI T_1 r_x0 (k := 16) (i := 7) rfl : Rg (0) (1200) ((hI o_1 x0 7))) : Rg (0) (1200) ((hI o_1 x0 7))) ((rg_b rfl : Rg (1) (1) ((1 : Int32))) : Rg (1) (1) ((1 : Int32))) (by decide); have hq_ := ((thI T_1 r_x0 (k := 16) (i := 7) rfl : Rg (0) (1200) ((hI o_1 x0 7))) : Rg (0) (1200) ((hI o_1 x0 7))); have := hq_.1; have := hq_.2; have := eq_i c_6; have : ((- 1 : Int32)).toInt = -1 := rfl; omega))) (fun o_17 T_21 f_o_17 p_o_17 => ?_)
          have pq_o_17_0 : ((hI h_16 x0 8).toInt) ≤ (hI o_17 x0 8).toInt := p_o_17.1
          have pq_o_17_1 : (hI o_17 x0 8).toInt ≤ ((x2).toInt) := p_o_17.2.1
          have pq_o_17_2 : (hI o_17 x0 6).toInt = 4 ∨ ((hI h_16 x0 8).toInt) < (hI o_17 x0 8).toInt := p_o_17.2.2.1
          have pf_22 : MS x0 v_9 o_17 := (ms_fr T_17 r_x0 f_o_17 (fun _ => rfl) (fun _ => rfl) (fun _ => rfl) (fun _ _ => rfl) (fz_men T_13 r_x0 pf_19 (hr_w w_14 e_r_6) es_20 i_v_9 w_18))
          exact zX15_isMan_92 hF (pmA_s hA rfl) F T_21 r_x0 r_x1 i_x2 i_v_9 (show ((hI h x0 8).toInt) ≤ (hI o_17 x0 8).toInt ∧ (hI o_17 x0 8).toInt ≤ (x2.toInt) from (by have hq_ := ((thI T r_x0 (k := 16) (i := 8) rfl : Rg (0) (1200) ((hI h x0 8))) : Rg (0) (1200) ((hI h x0 8))); have := hq_.1; have := hq_.2; have hq_ := ((thI T_21 r_x0 (k := 16) (i := 8) rfl : Rg (0) (1200) ((hI o_17 x0 8))) : Rg (0) (1200) ((hI o_17 x0 8))); have := hq_.1; have := hq_.2; have := (i_x2 : Rg (0) (1200) (x2)).1; have := (i_x2 : Rg (0) (1200) (x2)).2; have hq_ := ((thI T_17 r_x0 (k := 16) (i := 8) rfl : Rg (0) (1200) ((hI h_16 x0 8))) : Rg (0) (1200) ((hI h_16 x0 8))); have := hq_.1; have := hq_.2; have : (hI h_16 x0 8).toInt = (hI h_14 x0 8).toInt := congrArg Int32.toInt (he_w w_18 (ne_r r_x0 q_r_6 (by decide))); have : (hI h_14 x0 8).toInt = (hI o_4.2 x0 8).toInt := congrArg Int32.toInt (he_w w_14 (ne_r r_x0 q_r_11 (by decide))); have : (hI o_4.2 x0 8).toInt = (hI o_1 x0 8).toInt := congrArg Int32.toInt (he_e e_o_4); have hq_ := ((thI T_21 r_x0 (k := 16) (i := 6) rfl : Rg (0) (5) ((hI o_17 x0 6))) : Rg (0) (5) ((hI o_17 x0 6))); have := hq_.1; have := hq_.2; have hq_ := ((thI T_1 r_x0 (k := 16) (i := 8) rfl : Rg (0) (1200) ((hI o_1 x0 8))) : Rg (0) (1200) ((hI o_1 x0 8))); have := hq_.1; have := hq_.2; have := (i_f_3 : Rg (1) (1) ((hI o_1 x0 6))).1; have := (i_f_3 : Rg (1) (1) ((hI o_1 x0 6))).2; have : (o_4.1).toInt = -1 ∨ (1 ≤ ((hI o_1 x0 6)).toInt ∧ ((hI o_1 x0 6)).toInt ≤ 1) := p1_or p_o_4; have := (i_f_7 : Rg (-1) (-1) (o_4.1)).1; have := (i_f_7 : Rg (-1) (-1) (o_4.1)).2; have := eq_i c_2; have : ((1 : Int32)).toInt = 1 := rfl; have := eq_i c_4; have : (((hI o_1 x0 7) + (1 : Int32)) : Int32).toInt = ((hI o_1 x0 7) : Int32).toInt + ((1 : Int32) : Int32).toInt := ti_add ((thI T_1 r_x0 (k := 16) (i := 7) rfl : Rg (0) (1200) ((hI o_1 x0 7))) : Rg (0) (1200) ((hI o_1 x0 7))) ((rg_b rfl : Rg (1) (1) ((1 : Int32))) : Rg (1) (1) ((1 : Int32))) (by decide); have hq_ := ((thI T_1 r_x0 (k := 16) (i := 7) rfl : Rg (0) (1200) ((hI o_1 x0 7))) : Rg (0) (1200) ((hI o_1 x0 7))); have := hq_.1; have := hq_.2; have := eq_i c_6; have : ((- 1 : Int32)).toInt = -1 := rfl; omega)) (show (x2).toInt = (x2.toInt) from (by have := (i_x2 : Rg (0) (1200) (x2)).1; have := (i_x2 : Rg (0) (1200) (x2)).2; have hq_ := ((thI T r_x0 (k := 16) (i := 8) rfl : Rg (0) (1200) ((hI h x0 8))) : Rg (0) (1200) ((hI h x0 8))); have := hq_.1; have := hq_.2; have hq_ := ((thI T_17 r_x0 (k := 16) (i := 8) rfl : Rg (0) (1200) ((hI h_16 x0 8))) : Rg (0) (1200) ((hI h_16 x0 8))); have := hq_.1; have := hq_.2; have : (hI h_16 x0 8).toInt = (hI h_14 x0 8).toInt := congrArg Int32.toInt (he_w w_18 (ne_r r_x0 q_r_6 (by decide))); have : (hI h_14 x0 8).toInt = (hI o_4.2 x0 8).toInt := congrArg Int32.toInt (he_w w_14 (ne_r r_x0 q_r_11 (by decide))); have : (hI o_4.2 x0 8).toInt = (hI o_1 x0 8).toInt := congrArg Int32.toInt (he_e e_o_4); have hq_ := ((thI T_21 r_x0 (k := 16) (i := 8) rfl : Rg (0) (1200) ((hI o_17 x0 8))) : Rg (0) (1200) ((hI o_17 x0 8))); have := hq_.1; have := hq_.2; have hq_ := ((thI T_21 r_x0 (k := 16) (i := 6) rfl : Rg (0) (5) ((hI o_17 x0 6))) : Rg (0) (5) ((hI o_17 x0 6))); have := hq_.1; have := hq_.2; have hq_ := ((thI T_1 r_x0 (k := 16) (i := 8) rfl : Rg (0) (1200) ((hI o_1 x0 8))) : Rg (0) (1200) ((hI o_1 x0 8))); have := hq_.1; have := hq_.2; have := (i_f_3 : Rg (1) (1) ((hI o_1 x0 6))).1; have := (i_f_3 : Rg (1) (1) ((hI o_1 x0 6))).2; have : (o_4.1).toInt = -1 ∨ (1 ≤ ((hI o_1 x0 6)).toInt ∧ ((hI o_1 x0 6)).toInt ≤ 1) := p1_or p_o_4; have := (i_f_7 : Rg (-1) (-1) (o_4.1)).1; have := (i_f_7 : Rg (-1) (-1) (o_4.1)).2; have := eq_i c_2; have : ((1 : Int32)).toInt = 1 := rfl; have := eq_i c_4; have : (((hI o_1 x0 7) + (1 : Int32)) : Int32).toInt = ((hI o_1 x0 7) : Int32).toInt + ((1 : Int32) : Int32).toInt := ti_add ((thI T_1 r_x0 (k := 16) (i := 7) rfl : Rg (0) (1200) ((hI o_1 x0 7))) : Rg (0) (1200) ((hI o_1 x0 7))) ((rg_b rfl : Rg (1) (1) ((1 : Int32))) : Rg (1) (1) ((1 : Int32))) (by decide); have hq_ := ((thI T_1 r_x0 (k := 16) (i := 7) rfl : Rg (0) (1200) ((hI o_1 x0 7))) : Rg (0) (1200) ((hI o_1 x0 7))); have := hq_.1; have := hq_.2; have := eq_i c_6; have : ((- 1 : Int32)).toInt = -1 := rfl; omega)) pf_22 (show ((if (hI o_17 x0 6).toInt = 4 then 0 else 1202 - (hI o_17 x0 8).toInt) - 0).toNat < F from (by have := (i_x2 : Rg (0) (1200) (x2)).1; have := (i_x2 : Rg (0) (1200) (x2)).2; have := (i_v_9 : Rg (0) (11) (v_9)).1; have := (i_v_9 : Rg (0) (11) (v_9)).2; have : (v_9).toInt = (hI o_4.2 r_6 2 : Int32).toInt := congrArg Int32.toInt e_12; have := (i_f_11 : Rg (0) (11) (hI o_4.2 r_6 2)).1; have := (i_f_11 : Rg (0) (11) (hI o_4.2 r_6 2)).2; have : (hI o_4.2 r_6 2).toInt = (hI o_1 r_6 2).toInt := congrArg Int32.toInt (he_e e_o_4); have : (hI o_1 r_6 2).toInt = (hI h r_6 2).toInt := congrArg Int32.toInt (fr_I f_o_1 q_r_6 (by decide) rfl rfl); have hq_ := ((thI T_21 r_x0 (k := 16) (i := 6) rfl : Rg (0) (5) ((hI o_17 x0 6))) : Rg (0) (5) ((hI o_17 x0 6))); have := hq_.1; have := hq_.2; have hq_ := ((thI T_21 r_x0 (k := 16) (i := 8) rfl : Rg (0) (1200) ((hI o_17 x0 8))) : Rg (0) (1200) ((hI o_17 x0 8))); have := hq_.1; have := hq_.2; have hq_ := ((thI T r_x0 (k := 16) (i := 8) rfl : Rg (0) (1200) ((hI h x0 8))) : Rg (0) (1200) ((hI h x0 8))); have := hq_.1; have := hq_.2; have hq_ := ((thI T_17 r_x0 (k := 16) (i := 8) rfl : Rg (0) (1200) ((hI h_16 x0 8))) : Rg (0) (1200) ((hI h_16 x0 8))); have := hq_.1; have := hq_.2; have : (hI h_16 x0 8).toInt = (hI h_14 x0 8).toInt := congrArg Int32.toInt (he_w w_18 (ne_r r_x0 q_r_6 (by decide))); have : (hI h_14 x0 8).toInt = (hI o_4.2 x0 8).toInt := congrArg Int32.toInt (he_w w_14 (ne_r r_x0 q_r_11 (by decide))); have : (hI o_4.2 x0 8).toInt = (hI o_1 x0 8).toInt := congrArg Int32.toInt (he_e e_o_4); have hq_ := ((thI T_1 r_x0 (k := 16) (i := 8) rfl : Rg (0) (1200) ((hI o_1 x0 8))) : Rg (0) (1200) ((hI o_1 x0 8))); have := hq_.1; have := hq_.2; have := (i_f_3 : Rg (1) (1) ((hI o_1 x0 6))).1; have := (i_f_3 : Rg (1) (1) ((hI o_1 x0 6))).2; have := (i_f_11 : Rg (0) (11) ((hI o_4.2 r_6 2))).1; have := (i_f_11 : Rg (0) (11) ((hI o_4.2 r_6 2))).2; have : (o_4.1).toInt = -1 ∨ (1 ≤ ((hI o_1 x0 6)).toInt ∧ ((hI o_1 x0 6)).toInt ≤ 1) := p1_or p_o_4; have := (i_f_7 : Rg (-1) (-1) (o_4.1)).1; have := (i_f_7 : Rg (-1) (-1) (o_4.1)).2; have := eq_i c_2; have : ((1 : Int32)).toInt = 1 := rfl; have := eq_i c_4; have : (((hI o_1 x0 7) + (1 : Int32)) : Int32).toInt = ((hI o_1 x0 7) : Int32).toInt + ((1 : Int32) : Int32).toInt := ti_add ((thI T_1 r_x0 (k := 16) (i := 7) rfl : Rg (0) (1200) ((hI o_1 x0 7))) : Rg (0) (1200) ((hI o_1 x0 7))) ((rg_b rfl : Rg (1) (1) ((1 : Int32))) : Rg (1) (1) ((1 : Int32))) (by decide); have hq_ := ((thI T_1 r_x0 (k := 16) (i := 7) rfl : Rg (0) (1200) ((hI o_1 x0 7))) : Rg (0) (1200) ((hI o_1 x0 7))); have := hq_.1; have := hq_.2; have := eq_i c_6; have : ((- 1 : Int32)).toInt = -1 := rfl; have := ne_i c_8; have : ((12 : Int32)).toInt = 12 := rfl; omega))
      · have _ := c_6
        have i_f_23 : Rg (0) (11) (o_4.1) := rg_nlo c_6 i_o_4 (rg_b rfl : Rg (-1) (-1) ((- 1 : Int32)))
        have p_f_24 := p_o_4 c_6
        have pf_25 : FreshZ x0 o_4.2 := (by rw [e_o_4]; exact (fz_fr T r_x0 f_o_1 (fun _ => rfl) (fun _ => rfl) (fun _ => rfl) (fun _ _ => rfl) fz))
        exact s_some ⟨⟨(T_5), (rg_m (rg_b rfl : Rg (0) (0) ((0 : Int32))) (by decide))⟩, ⟨(show ((hI h x0 8).toInt) ≤ (hI o_4.2 x0 8).toInt from (by have : ((0 : Int32)).toInt = 0 := rfl; have hq_ := ((thI T r_x0 (k := 16) (i := 8) rfl : Rg (0) (1200) ((hI h x0 8))) : Rg (0) (1200) ((hI h x0 8))); have := hq_.1; have := hq_.2; have hq_ := ((thI T_5 r_x0 (k := 16) (i := 8) rfl : Rg (0) (1200) ((hI o_4.2 x0 8))) : Rg (0) (1200) ((hI o_4.2 x0 8))); have := hq_.1; have := hq_.2; have : (hI o_4.2 x0 8).toInt = (hI o_1 x0 8).toInt := congrArg Int32.toInt (he_e e_o_4); have := (i_x2 : Rg (0) (1200) (x2)).1; have := (i_x2 : Rg (0) (1200) (x2)).2; have hq_ := ((thI T_1 r_x0 (k := 16) (i := 8) rfl : Rg (0) (1200) ((hI o_1 x0 8))) : Rg (0) (1200) ((hI o_1 x0 8))); have := hq_.1; have := hq_.2; have := (i_f_3 : Rg (1) (1) ((hI o_1 x0 6))).1; have := (i_f_3 : Rg (1) (1) ((hI o_1 x0 6))).2; have := eq_i c_2; have : ((1 : Int32)).toInt = 1 := rfl; have := eq_i c_4; have : (((hI o_1 x0 7) + (1 : Int32)) : Int32).toInt = ((hI o_1 x0 7) : Int32).toInt + ((1 : Int32) : Int32).toInt := ti_add ((thI T_1 r_x0 (k := 16) (i := 7) rfl : Rg (0) (1200) ((hI o_1 x0 7))) : Rg (0) (1200) ((hI o_1 x0 7))) ((rg_b rfl : Rg (1) (1) ((1 : Int32))) : Rg (1) (1) ((1 : Int32))) (by decide); have hq_ := ((thI T_1 r_x0 (k := 16) (i := 7) rfl : Rg (0) (1200) ((hI o_1 x0 7))) : Rg (0) (1200) ((hI o_1 x0 7))); have := hq_.1; have := hq_.2; omega)), (show (hI o_4.2 x0 8).toInt ≤ (x2.toInt) from (by have : ((0 : Int32)).toInt = 0 := rfl; have hq_ := ((thI T_5 r_x0 (k := 16) (i := 8) rfl : Rg (0) (1200) ((hI o_4.2 x0 8))) : Rg (0) (1200) ((hI o_4.2 x0 8))); have := hq_.1; have := hq_.2; have : (hI o_4.2 x0 8).toInt = (hI o_1 x0 8).toInt := congrArg Int32.toInt (he_e e_o_4); have := (i_x2 : Rg (0) (1200) (x2)).1; have := (i_x2 : Rg (0) (1200) (x2)).2; have hq_ := ((thI T r_x0 (k := 16) (i := 8) rfl : Rg (0) (1200) ((hI h x0 8))) : Rg (0) (1200) ((hI h x0 8))); have := hq_.1; have := hq_.2; have hq_ := ((thI T_1 r_x0 (k := 16) (i := 8) rfl : Rg (0) (1200) ((hI o_1 x0 8))) : Rg (0) (1200) ((hI o_1 x0 8))); have := hq_.1; have := hq_.2; have := (i_f_3 : Rg (1) (1) ((hI o_1 x0 6))).1; have := (i_f_3 : Rg (1) (1) ((hI o_1 x0 6))).2; have := eq_i c_2; have : ((1 : Int32)).toInt = 1 := rfl; have := eq_i c_4; have : (((hI o_1 x0 7) + (1 : Int32)) : Int32).toInt = ((hI o_1 x0 7) : Int32).toInt + ((1 : Int32) : Int32).toInt := ti_add ((thI T_1 r_x0 (k := 16) (i := 7) rfl : Rg (0) (1200) ((hI o_1 x0 7))) : Rg (0) (1200) ((hI o_1 x0 7))) ((rg_b rfl : Rg (1) (1) ((1 : Int32))) : Rg (1) (1) ((1 : Int32))) (by decide); have hq_ := ((thI T_1 r_x0 (k := 16) (i := 7) rfl : Rg (0) (1200) ((hI o_1 x0 7))) : Rg (0) (1200) ((hI o_1 x0 7))); have := hq_.1; have := hq_.2; omega)), pf_25⟩⟩
    · have _ := c_4
      have pf_26 : FreshZ x0 o_1 := (fz_fr T r_x0 f_o_1 (fun _ => rfl) (fun _ => rfl) (fun _ => rfl) (fun _ _ => rfl) fz)
      exact s_some ⟨⟨(T_1), (rg_m (rg_b rfl : Rg (0) (0) ((0 : Int32))) (by decide))⟩, ⟨(show ((hI h x0 8).toInt) ≤ (hI o_1 x0 8).toInt from (by have : ((0 : Int32)).toInt = 0 := rfl; have hq_ := ((thI T r_x0 (k := 16) (i := 8) rfl : Rg (0) (1200) ((hI h x0 8))) : Rg (0) (1200) ((hI h x0 8))); have := hq_.1; have := hq_.2; have hq_ := ((thI T_1 r_x0 (k := 16) (i := 8) rfl : Rg (0) (1200) ((hI o_1 x0 8))) : Rg (0) (1200) ((hI o_1 x0 8))); have := hq_.1; have := hq_.2; have := (i_x2 : Rg (0) (1200) (x2)).1; have := (i_x2 : Rg (0) (1200) (x2)).2; have := (i_f_3 : Rg (1) (1) ((hI o_1 x0 6))).1; have := (i_f_3 : Rg (1) (1) ((hI o_1 x0 6))).2; have := eq_i c_2; have : ((1 : Int32)).toInt = 1 := rfl; have := ne_i c_4; have : (((hI o_1 x0 7) + (1 : Int32)) : Int32).toInt = ((hI o_1 x0 7) : Int32).toInt + ((1 : Int32) : Int32).toInt := ti_add ((thI T_1 r_x0 (k := 16) (i := 7) rfl : Rg (0) (1200) ((hI o_1 x0 7))) : Rg (0) (1200) ((hI o_1 x0 7))) ((rg_b rfl : Rg (1) (1) ((1 : Int32))) : Rg (1) (1) ((1 : Int32))) (by decide); have hq_ := ((thI T_1 r_x0 (k := 16) (i := 7) rfl : Rg (0) (1200) ((hI o_1 x0 7))) : Rg (0) (1200) ((hI o_1 x0 7))); have := hq_.1; have := hq_.2; omega)), (show (hI o_1 x0 8).toInt ≤ (x2.toInt) from (by have : ((0 : Int32)).toInt = 0 := rfl; have hq_ := ((thI T_1 r_x0 (k := 16) (i := 8) rfl : Rg (0) (1200) ((hI o_1 x0 8))) : Rg (0) (1200) ((hI o_1 x0 8))); have := hq_.1; have := hq_.2; have := (i_x2 : Rg (0) (1200) (x2)).1; have := (i_x2 : Rg (0) (1200) (x2)).2; have hq_ := ((thI T r_x0 (k := 16) (i := 8) rfl : Rg (0) (1200) ((hI h x0 8))) : Rg (0) (1200) ((hI h x0 8))); have := hq_.1; have := hq_.2; have := (i_f_3 : Rg (1) (1) ((hI o_1 x0 6))).1; have := (i_f_3 : Rg (1) (1) ((hI o_1 x0 6))).2; have := eq_i c_2; have : ((1 : Int32)).toInt = 1 := rfl; have := ne_i c_4; have : (((hI o_1 x0 7) + (1 : Int32)) : Int32).toInt = ((hI o_1 x0 7) : Int32).toInt + ((1 : Int32) : Int32).toInt := ti_add ((thI T_1 r_x0 (k := 16) (i := 7) rfl : Rg (0) (1200) ((hI o_1 x0 7))) : Rg (0) (1200) ((hI o_1 x0 7))) ((rg_b rfl : Rg (1) (1) ((1 : Int32))) : Rg (1) (1) ((1 : Int32))) (by decide); have hq_ := ((thI T_1 r_x0 (k := 16) (i := 7) rfl : Rg (0) (1200) ((hI o_1 x0 7))) : Rg (0) (1200) ((hI o_1 x0 7))); have := hq_.1; have := hq_.2; omega)), pf_26⟩⟩
  · have _ := c_2
    have pf_27 : FreshZ x0 o_1 := (fz_fr T r_x0 f_o_1 (fun _ => rfl) (fun _ => rfl) (fun _ => rfl) (fun _ _ => rfl) fz)
    exact s_some ⟨⟨(T_1), (rg_m (rg_b rfl : Rg (0) (0) ((0 : Int32))) (by decide))⟩, ⟨(show ((hI h x0 8).toInt) ≤ (hI o_1 x0 8).toInt from (by have : ((0 : Int32)).toInt = 0 := rfl; have hq_ := ((thI T r_x0 (k := 16) (i := 8) rfl : Rg (0) (1200) ((hI h x0 8))) : Rg (0) (1200) ((hI h x0 8))); have := hq_.1; have := hq_.2; have hq_ := ((thI T_1 r_x0 (k := 16) (i := 8) rfl : Rg (0) (1200) ((hI o_1 x0 8))) : Rg (0) (1200) ((hI o_1 x0 8))); have := hq_.1; have := hq_.2; have := (i_x2 : Rg (0) (1200) (x2)).1; have := (i_x2 : Rg (0) (1200) (x2)).2; have hq_ := ((thI T_1 r_x0 (k := 16) (i := 6) rfl : Rg (0) (5) ((hI o_1 x0 6))) : Rg (0) (5) ((hI o_1 x0 6))); have := hq_.1; have := hq_.2; have := ne_i c_2; have : ((1 : Int32)).toInt = 1 := rfl; omega)), (show (hI o_1 x0 8).toInt ≤ (x2.toInt) from (by have : ((0 : Int32)).toInt = 0 := rfl; have hq_ := ((thI T_1 r_x0 (k := 16) (i := 8) rfl : Rg (0) (1200) ((hI o_1 x0 8))) : Rg (0) (1200) ((hI o_1 x0 8))); have := hq_.1; have := hq_.2; have := (i_x2 : Rg (0) (1200) (x2)).1; have := (i_x2 : Rg (0) (1200) (x2)).2; have hq_ := ((thI T r_x0 (k := 16) (i := 8) rfl : Rg (0) (1200) ((hI h x0 8))) : Rg (0) (1200) ((hI h x0 8))); have := hq_.1; have := hq_.2; have hq_ := ((thI T_1 r_x0 (k := 16) (i := 6) rfl : Rg (0) (5) ((hI o_1 x0 6))) : Rg (0) (5) ((hI o_1 x0 6))); have := hq_.1; have := hq_.2; have := ne_i c_2; have : ((1 : Int32)).toInt = 1 := rfl; omega)), pf_27⟩⟩
set_option maxRecDepth 20000 in
theorem zX15_isOnce_16 {ρ : Nat → Nat} {c : Cm} {F : Nat} (hF : 700000 ≤ F) (hA : pmA c [(16, 10)]) {h : Hp} {x0 : Nat} {x1 : Int32} {t0 : Int32} (T : TH ρ c h) (r_x0 : ρ x0 = 16) (i_x1 : Rg (0) (9) (x1)) (i_t0 : Rg (0) (1) (t0)) : Sat (sX15_isOnce_16 h x0 x1 t0) (ZI ρ c (0) (1)) := by
  unfold sX15_isOnce_16 
  refine s_hq (th_wI T r_x0 (k := 16) (lo := (0)) (hi := (1023)) rfl ((rg_or (n := 10) (rg_m (thI T r_x0 (k := 16) (i := 10) rfl : Rg (0) (1023) ((hI h x0 10))) (by decide) : Rg (0) (1023) ((hI h x0 10))) (rg_m (rg_shl (n := 9) (rg_m (rg_b rfl : Rg (1) (1) ((1 : Int32))) (by decide) : Rg (0) (1) ((1 : Int32))) (rg_m i_x1 (by decide) : Rg (0) (9) (x1)) (by decide) : Rg (0) (512) (((1 : Int32) <<< (x1 &&& 31)))) (by decide) : Rg (0) (512) (((1 : Int32) <<< (x1 &&& 31)))) (by decide) : Rg (0) (1023) (((hI h x0 10) ||| ((1 : Int32) <<< (x1 &&& 31))))) : Rg (0) (1023) (((hI h x0 10) ||| ((1 : Int32) <<< (x1 &&& 31))))) (by decide) (by decide) (pm_a hA rfl)) (fun h_1 T_1 w_2 => ?_)
  refine s_gd (rg_bool i_t0) ?_
  exact s_some ⟨(T_1), i_t0⟩
set_option maxRecDepth 20000 in
theorem zX15_isOnce {ρ : Nat → Nat} {c : Cm} {F : Nat} (hF : 700000 ≤ F) (hA : pmA c [(16, 10)]) {h : Hp} {x0 : Nat} {x1 : Int32} (T : TH ρ c h) (r_x0 : ρ x0 = 16) (i_x1 : Rg (0) (9) (x1)) : Sat (sX15_isOnce h x0 x1) (ZI ρ c (0) (1)) := by
  unfold sX15_isOnce 
  refine s_br (fun c_1 => ?_) (fun c_1 => ?_)
  · have _ := c_1
    have i_f_2 : Rg (0) (0) ((((hI h x0 10) >>> (x1 &&& 31)) &&& (1 : Int32))) := rg_eq c_1 (rg_b rfl : Rg (0) (0) (0 : Int32))
    exact zX15_isOnce_16 hF (pmA_s hA rfl) T r_x0 i_x1 (rg_m (rg_b rfl : Rg (1) (1) ((1 : Int32))) (by decide))
  · have _ := c_1
    have i_f_3 : Rg (1) (1) ((((hI h x0 10) >>> (x1 &&& 31)) &&& (1 : Int32))) := rg_nlo c_1 (rg_and (rg_b rfl : Rg (1) (1) ((1 : Int32))) (by decide) : Rg (0) (1) ((((hI h x0 10) >>> (x1 &&& 31)) &&& (1 : Int32)))) (rg_b rfl : Rg (0) (0) (0 : Int32))
    exact zX15_isOnce_16 hF (pmA_s hA rfl) T r_x0 i_x1 (rg_m (rg_b rfl : Rg (0) (0) ((0 : Int32))) (by decide))
set_option maxRecDepth 20000 in
theorem zX15_isOutcome_35 {ρ : Nat → Nat} {c : Cm} {F : Nat} {e0 : Int} {n0 : Int} (hF : 700000 ≤ F) (hA : pmA c [(15, 22), (15, 23), (16, 6), (16, 7), (16, 8), (16, 9)]) {h : Hp} {x0 : Nat} {x1 : Nat} {x2 : Int32} {x3 : Int32} {t0 : Int32} (T : TH ρ c h) (r_x0 : ρ x0 = 16) (r_x1 : ρ x1 = 82) (i_x2 : Rg (0) (1200) (x2)) (i_x3 : Rg (0) (1) (x3)) (i_t0 : Rg (0) (2) (t0)) (ee : (e0 ≤ (hI h x0 8).toInt ∧ (hI h x0 8).toInt ≤ n0)) (en : (x2.toInt = n0)) : Sat (sX15_isOutcome_35 F h x0 x1 x2 x3 t0) (ZQ (ZI ρ c (0) (1)) (fun o => (e0 ≤ (hI o.2 x0 8).toInt) ∧ ((hI o.2 x0 8).toInt ≤ n0))) := by
  unfold sX15_isOutcome_35 sX15_isOutcome_69
  refine s_br (fun c_1 => ?_) (fun c_1 => ?_)
  · have _ := c_1
    have i_f_2 : Rg (0) (0) (t0) := rg_eq c_1 (rg_b rfl : Rg (0) (0) (0 : Int32))
    exact s_some ⟨⟨(T), (rg_m (rg_b rfl : Rg (0) (0) ((0 : Int32))) (by decide))⟩, ⟨(show e0 ≤ (hI h x0 8).toInt from (by have : ((0 : Int32)).toInt = 0 := rfl; have hq_ := ((thI T r_x0 (k := 16) (i := 8) rfl : Rg (0) (1200) ((hI h x0 8))) : Rg (0) (1200) ((hI h x0 8))); have := hq_.1; have := hq_.2; have := (i_x2 : Rg (0) (1200) (x2)).1; have := (i_x2 : Rg (0) (1200) (x2)).2; omega)), (show (hI h x0 8).toInt ≤ n0 from (by have : ((0 : Int32)).toInt = 0 := rfl; have hq_ := ((thI T r_x0 (k := 16) (i := 8) rfl : Rg (0) (1200) ((hI h x0 8))) : Rg (0) (1200) ((hI h x0 8))); have := hq_.1; have := hq_.2; have := (i_x2 : Rg (0) (1200) (x2)).1; have := (i_x2 : Rg (0) (1200) (x2)).2; omega))⟩⟩
  · have _ := c_1
    have i_f_3 : Rg (1) (2) (t0) := rg_nlo c_1 i_t0 (rg_b rfl : Rg (0) (0) (0 : Int32))
    refine s_br (fun c_4 => ?_) (fun c_4 => ?_)
    · have _ := c_4
      have i_f_5 : Rg (0) (0) (x3) := rg_eq c_4 (rg_b rfl : Rg (0) (0) (0 : Int32))
      obtain ⟨r_3, e_r_3, q_r_3⟩ := thR T r_x0 (k := 16) (i := 5) (k2 := 15) rfl (by decide)
      refine s_ref e_r_3 ?_
      refine s_hq (th_wI T q_r_3 (k := 15) (lo := (0)) (hi := (2)) rfl ((rg_m i_f_3 (by decide)) : Rg (0) (2) (t0)) (by decide) (by decide) (pm_a hA rfl)) (fun h_4 T_6 w_7 => ?_)
      refine s_cIq (zX15_goesOn hF (pmA_s hA rfl) T_6 r_x0 r_x1 i_x2 (show (hI h_4 x0 8).toInt ≤ (x2).toInt from (by have := (i_x2 : Rg (0) (1200) (x2)).1; have := (i_x2 : Rg (0) (1200) (x2)).2; have hq_ := ((thI T_6 r_x0 (k := 16) (i := 8) rfl : Rg (0) (1200) ((hI h_4 x0 8))) : Rg (0) (1200) ((hI h_4 x0 8))); have := hq_.1; have := hq_.2; have : (hI h_4 x0 8).toInt = (hI h x0 8).toInt := congrArg Int32.toInt (he_w w_7 (ne_r r_x0 q_r_3 (by decide))); have hq_ := ((thI T r_x0 (k := 16) (i := 8) rfl : Rg (0) (1200) ((hI h x0 8))) : Rg (0) (1200) ((hI h x0 8))); have := hq_.1; have := hq_.2; omega))) (fun o_1q1 T_8 i_o_1q1 p_o_1q1 => ?_)
      have pq_o_1q1_0 : ((hI h_4 x0 8).toInt) ≤ (hI o_1q1.2 x0 8).toInt := p_o_1q1.1
      have pq_o_1q1_1 : (hI o_1q1.2 x0 8).toInt ≤ ((x2).toInt) := p_o_1q1.2
      refine s_gd (rg_bool (rg_m i_o_1q1 (by decide))) ?_
      exact s_some ⟨⟨(T_8), (rg_m i_o_1q1 (by decide))⟩, ⟨(show e0 ≤ (hI o_1q1.2 x0 8).toInt from (by have := (i_o_1q1 : Rg (1) (1) (o_1q1.1)).1; have := (i_o_1q1 : Rg (1) (1) (o_1q1.1)).2; have hq_ := ((thI T_8 r_x0 (k := 16) (i := 8) rfl : Rg (0) (1200) ((hI o_1q1.2 x0 8))) : Rg (0) (1200) ((hI o_1q1.2 x0 8))); have := hq_.1; have := hq_.2; have hq_ := ((thI T r_x0 (k := 16) (i := 8) rfl : Rg (0) (1200) ((hI h x0 8))) : Rg (0) (1200) ((hI h x0 8))); have := hq_.1; have := hq_.2; have := (i_x2 : Rg (0) (1200) (x2)).1; have := (i_x2 : Rg (0) (1200) (x2)).2; have hq_ := ((thI T_6 r_x0 (k := 16) (i := 8) rfl : Rg (0) (1200) ((hI h_4 x0 8))) : Rg (0) (1200) ((hI h_4 x0 8))); have := hq_.1; have := hq_.2; have : (hI h_4 x0 8).toInt = (hI h x0 8).toInt := congrArg Int32.toInt (he_w w_7 (ne_r r_x0 q_r_3 (by decide))); omega)), (show (hI o_1q1.2 x0 8).toInt ≤ n0 from (by have := (i_o_1q1 : Rg (1) (1) (o_1q1.1)).1; have := (i_o_1q1 : Rg (1) (1) (o_1q1.1)).2; have hq_ := ((thI T_8 r_x0 (k := 16) (i := 8) rfl : Rg (0) (1200) ((hI o_1q1.2 x0 8))) : Rg (0) (1200) ((hI o_1q1.2 x0 8))); have := hq_.1; have := hq_.2; have hq_ := ((thI T r_x0 (k := 16) (i := 8) rfl : Rg (0) (1200) ((hI h x0 8))) : Rg (0) (1200) ((hI h x0 8))); have := hq_.1; have := hq_.2; have := (i_x2 : Rg (0) (1200) (x2)).1; have := (i_x2 : Rg (0) (1200) (x2)).2; have hq_ := ((thI T_6 r_x0 (k := 16) (i := 8) rfl : Rg (0) (1200) ((hI h_4 x0 8))) : Rg (0) (1200) ((hI h_4 x0 8))); have := hq_.1; have := hq_.2; have : (hI h_4 x0 8).toInt = (hI h x0 8).toInt := congrArg Int32.toInt (he_w w_7 (ne_r r_x0 q_r_3 (by decide))); omega))⟩⟩
    · have _ := c_4
      have i_f_9 : Rg (1) (1) (x3) := rg_nlo c_4 i_x3 (rg_b rfl : Rg (0) (0) (0 : Int32))
      obtain ⟨r_5, e_r_5, q_r_5⟩ := thR T r_x0 (k := 16) (i := 5) (k2 := 15) rfl (by decide)
      refine s_ref e_r_5 ?_
      refine s_hq (th_wI T q_r_5 (k := 15) (lo := (0)) (hi := (2)) rfl ((rg_m i_f_3 (by decide)) : Rg (0) (2) (t0)) (by decide) (by decide) (pm_a hA rfl)) (fun h_6 T_10 w_11 => ?_)
      refine s_cIq (zX15_goesOn hF (pmA_s hA rfl) T_10 r_x0 r_x1 i_x2 (show (hI h_6 x0 8).toInt ≤ (x2).toInt from (by have := (i_x2 : Rg (0) (1200) (x2)).1; have := (i_x2 : Rg (0) (1200) (x2)).2; have hq_ := ((thI T_10 r_x0 (k := 16) (i := 8) rfl : Rg (0) (1200) ((hI h_6 x0 8))) : Rg (0) (1200) ((hI h_6 x0 8))); have := hq_.1; have := hq_.2; have : (hI h_6 x0 8).toInt = (hI h x0 8).toInt := congrArg Int32.toInt (he_w w_11 (ne_r r_x0 q_r_5 (by decide))); have hq_ := ((thI T r_x0 (k := 16) (i := 8) rfl : Rg (0) (1200) ((hI h x0 8))) : Rg (0) (1200) ((hI h x0 8))); have := hq_.1; have := hq_.2; omega))) (fun o_1q2 T_12 i_o_1q2 p_o_1q2 => ?_)
      have pq_o_1q2_0 : ((hI h_6 x0 8).toInt) ≤ (hI o_1q2.2 x0 8).toInt := p_o_1q2.1
      have pq_o_1q2_1 : (hI o_1q2.2 x0 8).toInt ≤ ((x2).toInt) := p_o_1q2.2
      refine s_gd (rg_bool (rg_m i_o_1q2 (by decide))) ?_
      exact s_some ⟨⟨(T_12), (rg_m i_o_1q2 (by decide))⟩, ⟨(show e0 ≤ (hI o_1q2.2 x0 8).toInt from (by have := (i_o_1q2 : Rg (1) (1) (o_1q2.1)).1; have := (i_o_1q2 : Rg (1) (1) (o_1q2.1)).2; have hq_ := ((thI T_12 r_x0 (k := 16) (i := 8) rfl : Rg (0) (1200) ((hI o_1q2.2 x0 8))) : Rg (0) (1200) ((hI o_1q2.2 x0 8))); have := hq_.1; have := hq_.2; have hq_ := ((thI T r_x0 (k := 16) (i := 8) rfl : Rg (0) (1200) ((hI h x0 8))) : Rg (0) (1200) ((hI h x0 8))); have := hq_.1; have := hq_.2; have := (i_x2 : Rg (0) (1200) (x2)).1; have := (i_x2 : Rg (0) (1200) (x2)).2; have hq_ := ((thI T_10 r_x0 (k := 16) (i := 8) rfl : Rg (0) (1200) ((hI h_6 x0 8))) : Rg (0) (1200) ((hI h_6 x0 8))); have := hq_.1; have := hq_.2; have : (hI h_6 x0 8).toInt = (hI h x0 8).toInt := congrArg Int32.toInt (he_w w_11 (ne_r r_x0 q_r_5 (by decide))); omega)), (show (hI o_1q2.2 x0 8).toInt ≤ n0 from (by have := (i_o_1q2 : Rg (1) (1) (o_1q2.1)).1; have := (i_o_1q2 : Rg (1) (1) (o_1q2.1)).2; have hq_ := ((thI T_12 r_x0 (k := 16) (i := 8) rfl : Rg (0) (1200) ((hI o_1q2.2 x0 8))) : Rg (0) (1200) ((hI o_1q2.2 x0 8))); have := hq_.1; have := hq_.2; have hq_ := ((thI T r_x0 (k := 16) (i := 8) rfl : Rg (0) (1200) ((hI h x0 8))) : Rg (0) (1200) ((hI h x0 8))); have := hq_.1; have := hq_.2; have := (i_x2 : Rg (0) (1200) (x2)).1; have := (i_x2 : Rg (0) (1200) (x2)).2; have hq_ := ((thI T_10 r_x0 (k := 16) (i := 8) rfl : Rg (0) (1200) ((hI h_6 x0 8))) : Rg (0) (1200) ((hI h_6 x0 8))); have := hq_.1; have := hq_.2; have : (hI h_6 x0 8).toInt = (hI h x0 8).toInt := congrArg Int32.toInt (he_w w_11 (ne_r r_x0 q_r_5 (by decide))); omega))⟩⟩
set_option maxRecDepth 20000 in
theorem zX15_isOutcome {ρ : Nat → Nat} {c : Cm} {F : Nat} (hF : 700000 ≤ F) (hA : pmA c [(15, 22), (15, 23), (16, 6), (16, 7), (16, 8), (16, 9)]) {h : Hp} {x0 : Nat} {x1 : Nat} {x2 : Int32} {x3 : Int32} (T : TH ρ c h) (r_x0 : ρ x0 = 16) (r_x1 : ρ x1 = 82) (i_x2 : Rg (0) (1200) (x2)) (i_x3 : Rg (0) (1) (x3)) (pe : ((hI h x0 8).toInt ≤ x2.toInt)) : Sat (sX15_isOutcome F h x0 x1 x2 x3) (ZQ (ZI ρ c (0) (1)) (fun o => (((hI h x0 8).toInt) ≤ (hI o.2 x0 8).toInt) ∧ ((hI o.2 x0 8).toInt ≤ (x2.toInt)))) := by
  unfold sX15_isOutcome 
  refine s_cVq (zX15_nextToken hF (pmA_s hA rfl) T r_x0 r_x1 i_x2 (show (hI h x0 8).toInt ≤ (x2).toInt from (by have := (i_x2 : Rg (0) (1200) (x2)).1; have := (i_x2 : Rg (0) (1200) (x2)).2; have hq_ := ((thI T r_x0 (k := 16) (i := 8) rfl : Rg (0) (1200) ((hI h x0 8))) : Rg (0) (1200) ((hI h x0 8))); have := hq_.1; have := hq_.2; omega))) (fun o_1 T_1 p_o_1 => ?_)
  have pq_o_1_0 : ((hI h x0 8).toInt) ≤ (hI o_1 x0 8).toInt := p_o_1.1
  have pq_o_1_1 : (hI o_1 x0 8).toInt ≤ ((x2).toInt) := p_o_1.2.1
  have pq_o_1_2 : (hI o_1 x0 6).toInt = 4 ∨ ((hI h x0 8).toInt) < (hI o_1 x0 8).toInt := p_o_1.2.2.1
  refine s_dI0 (zX15_isWord hF T_1 r_x0 r_x1) (fun o_2 eb_o_2 e_o_2 i_o_2 => ?_)
  have T_2 := th_eq e_o_2 T_1
  refine s_br (fun c_3 => ?_) (fun c_3 => ?_)
  · have _ := c_3
    have i_f_4 : Rg (0) (0) (o_2.1) := rg_eq c_3 (rg_b rfl : Rg (0) (0) (0 : Int32))
    refine s_dI0 (zX15_isWord hF T_2 r_x0 r_x1) (fun o_4 eb_o_4 e_o_4 i_o_4 => ?_)
    have T_5 := th_eq e_o_4 T_2
    refine s_br (fun c_6 => ?_) (fun c_6 => ?_)
    · have _ := c_6
      have i_f_7 : Rg (0) (0) (o_4.1) := rg_eq c_6 (rg_b rfl : Rg (0) (0) (0 : Int32))
      exact zX15_isOutcome_35 hF (pmA_s hA rfl) T_5 r_x0 r_x1 i_x2 i_x3 (rg_m (rg_b rfl : Rg (0) (0) ((0 : Int32))) (by decide)) (show ((hI h x0 8).toInt) ≤ (hI o_4.2 x0 8).toInt ∧ (hI o_4.2 x0 8).toInt ≤ (x2.toInt) from (by have hq_ := ((thI T r_x0 (k := 16) (i := 8) rfl : Rg (0) (1200) ((hI h x0 8))) : Rg (0) (1200) ((hI h x0 8))); have := hq_.1; have := hq_.2; have hq_ := ((thI T_5 r_x0 (k := 16) (i := 8) rfl : Rg (0) (1200) ((hI o_4.2 x0 8))) : Rg (0) (1200) ((hI o_4.2 x0 8))); have := hq_.1; have := hq_.2; have : (hI o_4.2 x0 8).toInt = (hI o_2.2 x0 8).toInt := congrArg Int32.toInt (he_e e_o_4); have : (hI o_2.2 x0 8).toInt = (hI o_1 x0 8).toInt := congrArg Int32.toInt (he_e e_o_2); have := (i_x2 : Rg (0) (1200) (x2)).1; have := (i_x2 : Rg (0) (1200) (x2)).2; have hq_ := ((thI T_1 r_x0 (k := 16) (i := 8) rfl : Rg (0) (1200) ((hI o_1 x0 8))) : Rg (0) (1200) ((hI o_1 x0 8))); have := hq_.1; have := hq_.2; have hq_ := ((thI T_1 r_x0 (k := 16) (i := 6) rfl : Rg (0) (5) ((hI o_1 x0 6))) : Rg (0) (5) ((hI o_1 x0 6))); have := hq_.1; have := hq_.2; omega)) (show (x2).toInt = (x2.toInt) from (by have := (i_x2 : Rg (0) (1200) (x2)).1; have := (i_x2 : Rg (0) (1200) (x2)).2; have hq_ := ((thI T r_x0 (k := 16) (i := 8) rfl : Rg (0) (1200) ((hI h x0 8))) : Rg (0) (1200) ((hI h x0 8))); have := hq_.1; have := hq_.2; have hq_ := ((thI T_1 r_x0 (k := 16) (i := 8) rfl : Rg (0) (1200) ((hI o_1 x0 8))) : Rg (0) (1200) ((hI o_1 x0 8))); have := hq_.1; have := hq_.2; have hq_ := ((thI T_1 r_x0 (k := 16) (i := 6) rfl : Rg (0) (5) ((hI o_1 x0 6))) : Rg (0) (5) ((hI o_1 x0 6))); have := hq_.1; have := hq_.2; omega))
    · have _ := c_6
      have i_f_8 : Rg (1) (1) (o_4.1) := rg_nlo c_6 i_o_4 (rg_b rfl : Rg (0) (0) (0 : Int32))
      exact zX15_isOutcome_35 hF (pmA_s hA rfl) T_5 r_x0 r_x1 i_x2 i_x3 (rg_m (rg_b rfl : Rg (2) (2) ((2 : Int32))) (by decide)) (show ((hI h x0 8).toInt) ≤ (hI o_4.2 x0 8).toInt ∧ (hI o_4.2 x0 8).toInt ≤ (x2.toInt) from (by have hq_ := ((thI T r_x0 (k := 16) (i := 8) rfl : Rg (0) (1200) ((hI h x0 8))) : Rg (0) (1200) ((hI h x0 8))); have := hq_.1; have := hq_.2; have hq_ := ((thI T_5 r_x0 (k := 16) (i := 8) rfl : Rg (0) (1200) ((hI o_4.2 x0 8))) : Rg (0) (1200) ((hI o_4.2 x0 8))); have := hq_.1; have := hq_.2; have : (hI o_4.2 x0 8).toInt = (hI o_2.2 x0 8).toInt := congrArg Int32.toInt (he_e e_o_4); have : (hI o_2.2 x0 8).toInt = (hI o_1 x0 8).toInt := congrArg Int32.toInt (he_e e_o_2); have := (i_x2 : Rg (0) (1200) (x2)).1; have := (i_x2 : Rg (0) (1200) (x2)).2; have hq_ := ((thI T_1 r_x0 (k := 16) (i := 8) rfl : Rg (0) (1200) ((hI o_1 x0 8))) : Rg (0) (1200) ((hI o_1 x0 8))); have := hq_.1; have := hq_.2; have hq_ := ((thI T_1 r_x0 (k := 16) (i := 6) rfl : Rg (0) (5) ((hI o_1 x0 6))) : Rg (0) (5) ((hI o_1 x0 6))); have := hq_.1; have := hq_.2; omega)) (show (x2).toInt = (x2.toInt) from (by have := (i_x2 : Rg (0) (1200) (x2)).1; have := (i_x2 : Rg (0) (1200) (x2)).2; have hq_ := ((thI T r_x0 (k := 16) (i := 8) rfl : Rg (0) (1200) ((hI h x0 8))) : Rg (0) (1200) ((hI h x0 8))); have := hq_.1; have := hq_.2; have hq_ := ((thI T_1 r_x0 (k := 16) (i := 8) rfl : Rg (0) (1200) ((hI o_1 x0 8))) : Rg (0) (1200) ((hI o_1 x0 8))); have := hq_.1; have := hq_.2; have hq_ := ((thI T_1 r_x0 (k := 16) (i := 6) rfl : Rg (0) (5) ((hI o_1 x0 6))) : Rg (0) (5) ((hI o_1 x0 6))); have := hq_.1; have := hq_.2; omega))
  · have _ := c_3
    have i_f_9 : Rg (1) (1) (o_2.1) := rg_nlo c_3 i_o_2 (rg_b rfl : Rg (0) (0) (0 : Int32))
    exact zX15_isOutcome_35 hF (pmA_s hA rfl) T_2 r_x0 r_x1 i_x2 i_x3 (rg_m (rg_b rfl : Rg (1) (1) ((1 : Int32))) (by decide)) (show ((hI h x0 8).toInt) ≤ (hI o_2.2 x0 8).toInt ∧ (hI o_2.2 x0 8).toInt ≤ (x2.toInt) from (by have hq_ := ((thI T r_x0 (k := 16) (i := 8) rfl : Rg (0) (1200) ((hI h x0 8))) : Rg (0) (1200) ((hI h x0 8))); have := hq_.1; have := hq_.2; have hq_ := ((thI T_2 r_x0 (k := 16) (i := 8) rfl : Rg (0) (1200) ((hI o_2.2 x0 8))) : Rg (0) (1200) ((hI o_2.2 x0 8))); have := hq_.1; have := hq_.2; have : (hI o_2.2 x0 8).toInt = (hI o_1 x0 8).toInt := congrArg Int32.toInt (he_e e_o_2); have := (i_x2 : Rg (0) (1200) (x2)).1; have := (i_x2 : Rg (0) (1200) (x2)).2; have hq_ := ((thI T_1 r_x0 (k := 16) (i := 8) rfl : Rg (0) (1200) ((hI o_1 x0 8))) : Rg (0) (1200) ((hI o_1 x0 8))); have := hq_.1; have := hq_.2; have hq_ := ((thI T_1 r_x0 (k := 16) (i := 6) rfl : Rg (0) (5) ((hI o_1 x0 6))) : Rg (0) (5) ((hI o_1 x0 6))); have := hq_.1; have := hq_.2; omega)) (show (x2).toInt = (x2.toInt) from (by have := (i_x2 : Rg (0) (1200) (x2)).1; have := (i_x2 : Rg (0) (1200) (x2)).2; have hq_ := ((thI T r_x0 (k := 16) (i := 8) rfl : Rg (0) (1200) ((hI h x0 8))) : Rg (0) (1200) ((hI h x0 8))); have := hq_.1; have := hq_.2; have hq_ := ((thI T_1 r_x0 (k := 16) (i := 8) rfl : Rg (0) (1200) ((hI o_1 x0 8))) : Rg (0) (1200) ((hI o_1 x0 8))); have := hq_.1; have := hq_.2; have hq_ := ((thI T_1 r_x0 (k := 16) (i := 6) rfl : Rg (0) (5) ((hI o_1 x0 6))) : Rg (0) (5) ((hI o_1 x0 6))); have := hq_.1; have := hq_.2; omega))
set_option maxRecDepth 20000 in
theorem zX15_look {ρ : Nat → Nat} {c : Cm} {F : Nat} (hF : 700000 ≤ F) (m7 : c.2.1 7 = true) {h : Hp} {x0 : Nat} (T : TH ρ c h) (r_x0 : ρ x0 = 16) : Sat (sX15_look h x0) (ZP0 h (-128) (127) (-1) (Rg (0) (1199) ((hI h x0 19)))) := by
  unfold sX15_look sX15_look_24
  refine s_br (fun c_1 => ?_) (fun c_1 => ?_)
  · have _ := c_1
    exact s_some ⟨rfl, (rg_m (rg_b rfl : Rg (-1) (-1) ((- 1 : Int32))) (by decide)), (fun q => absurd (rz_s (rg_b rfl : Rg (-1) (-1) ((- 1 : Int32))) (rg_b rfl : Rg (-1) (-1) (-1 : Int32))) q)⟩
  · have _ := c_1
    have i_f_2 : Rg (0) (1199) ((hI h x0 19)) := rg_lt1 (nle_lt c_1) (thI T r_x0 (k := 16) (i := 19) rfl : Rg (0) (1200) ((hI h x0 19))) (thI T r_x0 (k := 16) (i := 18) rfl : Rg (0) (1200) ((hI h x0 18)))
    have i_f_3 : Rg (1) (1200) ((hI h x0 18)) := rg_lt2 (nle_lt c_1) (thI T r_x0 (k := 16) (i := 19) rfl : Rg (0) (1200) ((hI h x0 19))) (thI T r_x0 (k := 16) (i := 18) rfl : Rg (0) (1200) ((hI h x0 18)))
    obtain ⟨r_2, e_r_2, q_r_2⟩ := thM T r_x0 (k := 16) (i := 17) (j := 7) (k2 := 82) rfl (by decide) rfl (by decide) m7
    refine s_ref e_r_2 ?_
    refine s_gd (by rw [thN T q_r_2 (k := 82) (n := 1220) rfl (by decide)]; exact rg_inB ((rg_m i_f_2 (by decide)) : Rg (0) (1219) ((hI h x0 19))) (by decide)) ?_
    exact s_some ⟨rfl, (thI T q_r_2 (k := 82) rfl : Rg (-128) (127) ((hI h r_2 (hI h x0 19).toNatClampNeg))), (fun _ => i_f_2)⟩
set_option maxRecDepth 20000 in
theorem zX15_manLetter_2 {ρ : Nat → Nat} {c : Cm} {h0 : Hp} {F : Nat} {b0 : Int} (hF : 700000 ≤ F) : ∀ (f : Nat) {h : Hp} {x0 : Nat} {x1 : Int32} {x2 : Int32}, h = h0 → TH ρ c h → ρ x0 = 16 → Rg (-128) (127) (x1) → Rg (0) (12) (x2) → (x1.toInt = b0) → (12 - x2.toInt).toNat < f → Sat (sX15_manLetter_2 F f h x0 x1 x2) (ZQ (ZI0 h0 (0) (24)) (fun o => o.1.toInt = 0 ∨ ¬ b0 = -1)) := by
  intro f
  induction f with
  | zero => intros; omega
  | succ f ih =>
    intro h x0 x1 x2 E T r_x0 i_x1 i_x2 mb hm
    rw [sX15_manLetter_2]
    unfold sX15_valueOf
    obtain ⟨C_2, hC_2⟩ : ∃ C : Int, C = x2.toInt := ⟨_, rfl⟩
    have hk_2 : ∀ {h : Hp} {x0 : Nat} {x1 : Int32} {x2 : Int32}, h = h0 → TH ρ c h → ρ x0 = 16 → Rg (-128) (127) (x1) → Rg (0) (12) (x2) → (x1.toInt = b0) → C_2 < x2.toInt → Sat (sX15_manLetter_2 F f h x0 x1 x2) (ZQ (ZI0 h0 (0) (24)) (fun o => o.1.toInt = 0 ∨ ¬ b0 = -1)) := by
      intro h' x0' x1' x2' E' T' r_x0' i_x1' i_x2' mb' hl
      exact ih E' T' r_x0' i_x1' i_x2' mb' (by have := i_x2'.1; have := i_x2'.2; omega)
    have hc_2 : C_2 ≤ x2.toInt := by omega
    obtain ⟨r_1, e_r_1, q_r_1⟩ := thR T r_x0 (k := 16) (i := 4) (k2 := 15) rfl (by decide)
    refine s_ref e_r_1 ?_
    refine s_br (fun c_1 => ?_) (fun c_1 => ?_)
    · have _ := c_1
      exact s_some ⟨⟨E, (rg_m (rg_b rfl : Rg (0) (0) ((0 : Int32))) (by decide))⟩, (show ((0 : Int32)).toInt = 0 ∨ ¬ b0 = -1 from (by have : ((0 : Int32)).toInt = 0 := rfl; have := (i_x1 : Rg (-128) (127) (x1)).1; have := (i_x1 : Rg (-128) (127) (x1)).2; omega))⟩
    · have _ := c_1
      have i_f_2 : Rg (0) (11) (x2) := rg_lt1 (nle_lt c_1) i_x2 (thI T q_r_1 (k := 15) (i := 2) rfl : Rg (0) (12) ((hI h r_1 2)))
      have i_f_3 : Rg (1) (12) ((hI h r_1 2)) := rg_lt2 (nle_lt c_1) i_x2 (thI T q_r_1 (k := 15) (i := 2) rfl : Rg (0) (12) ((hI h r_1 2)))
      refine s_ref e_r_1 ?_
      obtain ⟨r_4, e_r_4, q_r_4⟩ := thR T q_r_1 (k := 15) (i := 3) (k2 := 73) rfl (by decide)
      refine s_ref e_r_4 ?_
      refine s_gd (by rw [thN T q_r_4 (k := 73) (n := 12) rfl (by decide)]; exact rg_inB (i_f_2 : Rg (0) (11) (x2)) (by decide)) ?_
      refine s_br (fun c_4 => ?_) (fun c_4 => ?_)
      · have _ := c_4
        have i_f_5 : Rg (0) (122) (x1) := rg_eq c_4 (thI T q_r_4 (k := 73) rfl : Rg (0) (122) ((hI h r_4 x2.toNatClampNeg)))
        refine s_pu (fun o_13z e_6 => ?_)
        try dsimp only
        have i_o_13z : Rg (2) (24) (o_13z) := by rw [e_6]; exact (rg_add (rg_add (rg_b rfl : Rg (1) (1) ((1 : Int32))) (rg_mulc' (rg_b rfl : Rg (2) (2) ((2 : Int32))) i_f_2 (by decide) : Rg (0) (22) (((2 : Int32) * x2))) (by decide) : Rg (1) (23) (((1 : Int32) + ((2 : Int32) * x2)))) (rg_b rfl : Rg (1) (1) ((1 : Int32))) (by decide) : Rg (2) (24) (((1 : Int32) + ((2 : Int32) * x2)) + (1 : Int32)))
        exact s_some ⟨⟨E, (rg_m i_o_13z (by decide))⟩, (show (o_13z).toInt = 0 ∨ ¬ b0 = -1 from (by have := (i_o_13z : Rg (2) (24) (o_13z)).1; have := (i_o_13z : Rg (2) (24) (o_13z)).2; have : (o_13z).toInt = (((1 : Int32) + ((2 : Int32) * x2)) + (1 : Int32) : Int32).toInt := congrArg Int32.toInt e_6; have : (((1 : Int32) + ((2 : Int32) * x2)) + (1 : Int32) : Int32).toInt = (((1 : Int32) + ((2 : Int32) * x2)) : Int32).toInt + ((1 : Int32) : Int32).toInt := ti_add ((rg_add (rg_b rfl : Rg (1) (1) ((1 : Int32))) (rg_mulc' (rg_b rfl : Rg (2) (2) ((2 : Int32))) i_f_2 (by decide) : Rg (0) (22) (((2 : Int32) * x2))) (by decide) : Rg (1) (23) (((1 : Int32) + ((2 : Int32) * x2)))) : Rg (1) (23) (((1 : Int32) + ((2 : Int32) * x2)))) ((rg_b rfl : Rg (1) (1) ((1 : Int32))) : Rg (1) (1) ((1 : Int32))) (by decide); have : (((1 : Int32) + ((2 : Int32) * x2)) : Int32).toInt = ((1 : Int32) : Int32).toInt + (((2 : Int32) * x2) : Int32).toInt := ti_add ((rg_b rfl : Rg (1) (1) ((1 : Int32))) : Rg (1) (1) ((1 : Int32))) ((rg_mulc' (rg_b rfl : Rg (2) (2) ((2 : Int32))) i_f_2 (by decide) : Rg (0) (22) (((2 : Int32) * x2))) : Rg (0) (22) (((2 : Int32) * x2))) (by decide); have : ((1 : Int32)).toInt = 1 := rfl; have : (((2 : Int32) * x2) : Int32).toInt = 2 * (x2 : Int32).toInt := ti_mulc' (i_f_2 : Rg (0) (11) (x2)) (rg_b rfl : Rg 2 2 ((2 : Int32))) (by decide); have := (i_f_2 : Rg (0) (11) (x2)).1; have := (i_f_2 : Rg (0) (11) (x2)).2; have := (i_f_5 : Rg (0) (122) (x1)).1; have := (i_f_5 : Rg (0) (122) (x1)).2; have := nle_i c_1; have := (i_f_3 : Rg (1) (12) ((hI h r_1 2))).1; have := (i_f_3 : Rg (1) (12) ((hI h r_1 2))).2; have := eq_i c_4; have hq_ := ((thI T q_r_4 (k := 73) rfl : Rg (0) (122) ((hI h r_4 x2.toNatClampNeg))) : Rg (0) (122) ((hI h r_4 x2.toNatClampNeg))); have := hq_.1; have := hq_.2; have : ((hI h r_4 x2.toNatClampNeg)).toInt = 0 ∨ (97 ≤ ((hI h r_4 x2.toNatClampNeg)).toInt ∧ ((hI h r_4 x2.toNatClampNeg)).toInt ≤ 122) := lt_or (thL T q_r_4); omega))⟩
      · have _ := c_4
        refine s_ref e_r_1 ?_
        refine s_ref e_r_4 ?_
        refine s_gd (by rw [thN T q_r_4 (k := 73) (n := 12) rfl (by decide)]; exact rg_inB (i_f_2 : Rg (0) (11) (x2)) (by decide)) ?_
        refine s_br (fun c_7 => ?_) (fun c_7 => ?_)
        · have _ := c_7
          have i_f_8 : Rg (-32) (90) (x1) := rg_eq c_7 (rg_sub (thI T q_r_4 (k := 73) rfl : Rg (0) (122) ((hI h r_4 x2.toNatClampNeg))) (rg_b rfl : Rg (32) (32) ((32 : Int32))) (by decide) : Rg (-32) (90) (((hI h r_4 x2.toNatClampNeg) - (32 : Int32))))
          refine s_pu (fun o_12z e_9 => ?_)
          try dsimp only
          have i_o_12z : Rg (1) (23) (o_12z) := by rw [e_9]; exact (rg_add (rg_add (rg_b rfl : Rg (1) (1) ((1 : Int32))) (rg_mulc' (rg_b rfl : Rg (2) (2) ((2 : Int32))) i_f_2 (by decide) : Rg (0) (22) (((2 : Int32) * x2))) (by decide) : Rg (1) (23) (((1 : Int32) + ((2 : Int32) * x2)))) (rg_b rfl : Rg (0) (0) ((0 : Int32))) (by decide) : Rg (1) (23) (((1 : Int32) + ((2 : Int32) * x2)) + (0 : Int32)))
          exact s_some ⟨⟨E, (rg_m i_o_12z (by decide))⟩, (show (o_12z).toInt = 0 ∨ ¬ b0 = -1 from (by have := (i_o_12z : Rg (1) (23) (o_12z)).1; have := (i_o_12z : Rg (1) (23) (o_12z)).2; have : (o_12z).toInt = (((1 : Int32) + ((2 : Int32) * x2)) + (0 : Int32) : Int32).toInt := congrArg Int32.toInt e_9; have : (((1 : Int32) + ((2 : Int32) * x2)) + (0 : Int32) : Int32).toInt = (((1 : Int32) + ((2 : Int32) * x2)) : Int32).toInt + ((0 : Int32) : Int32).toInt := ti_add ((rg_add (rg_b rfl : Rg (1) (1) ((1 : Int32))) (rg_mulc' (rg_b rfl : Rg (2) (2) ((2 : Int32))) i_f_2 (by decide) : Rg (0) (22) (((2 : Int32) * x2))) (by decide) : Rg (1) (23) (((1 : Int32) + ((2 : Int32) * x2)))) : Rg (1) (23) (((1 : Int32) + ((2 : Int32) * x2)))) ((rg_b rfl : Rg (0) (0) ((0 : Int32))) : Rg (0) (0) ((0 : Int32))) (by decide); have : (((1 : Int32) + ((2 : Int32) * x2)) : Int32).toInt = ((1 : Int32) : Int32).toInt + (((2 : Int32) * x2) : Int32).toInt := ti_add ((rg_b rfl : Rg (1) (1) ((1 : Int32))) : Rg (1) (1) ((1 : Int32))) ((rg_mulc' (rg_b rfl : Rg (2) (2) ((2 : Int32))) i_f_2 (by decide) : Rg (0) (22) (((2 : Int32) * x2))) : Rg (0) (22) (((2 : Int32) * x2))) (by decide); have : ((1 : Int32)).toInt = 1 := rfl; have : (((2 : Int32) * x2) : Int32).toInt = 2 * (x2 : Int32).toInt := ti_mulc' (i_f_2 : Rg (0) (11) (x2)) (rg_b rfl : Rg 2 2 ((2 : Int32))) (by decide); have := (i_f_2 : Rg (0) (11) (x2)).1; have := (i_f_2 : Rg (0) (11) (x2)).2; have : ((0 : Int32)).toInt = 0 := rfl; have := (i_f_8 : Rg (-32) (90) (x1)).1; have := (i_f_8 : Rg (-32) (90) (x1)).2; have := nle_i c_1; have := (i_f_3 : Rg (1) (12) ((hI h r_1 2))).1; have := (i_f_3 : Rg (1) (12) ((hI h r_1 2))).2; have := ne_i c_4; have hq_ := ((thI T q_r_4 (k := 73) rfl : Rg (0) (122) ((hI h r_4 x2.toNatClampNeg))) : Rg (0) (122) ((hI h r_4 x2.toNatClampNeg))); have := hq_.1; have := hq_.2; have : ((hI h r_4 x2.toNatClampNeg)).toInt = 0 ∨ (97 ≤ ((hI h r_4 x2.toNatClampNeg)).toInt ∧ ((hI h r_4 x2.toNatClampNeg)).toInt ≤ 122) := lt_or (thL T q_r_4); have := eq_i c_7; have : (((hI h r_4 x2.toNatClampNeg) - (32 : Int32)) : Int32).toInt = ((hI h r_4 x2.toNatClampNeg) : Int32).toInt - ((32 : Int32) : Int32).toInt := ti_sub ((thI T q_r_4 (k := 73) rfl : Rg (0) (122) ((hI h r_4 x2.toNatClampNeg))) : Rg (0) (122) ((hI h r_4 x2.toNatClampNeg))) ((rg_b rfl : Rg (32) (32) ((32 : Int32))) : Rg (32) (32) ((32 : Int32))) (by decide); have : ((32 : Int32)).toInt = 32 := rfl; omega))⟩
        · have _ := c_7
          refine s_q (fun v_11 e_10 => ?_)
          have i_v_11 : Rg (1) (12) (v_11) := by rw [e_10]; exact (rg_add i_f_2 (rg_b rfl : Rg (1) (1) ((1 : Int32))) (by decide) : Rg (1) (12) (x2 + (1 : Int32)))
          have m_11 : (v_11).toInt = x2.toInt + 1 := by rw [e_10]; exact rg_inc i_f_2 (by decide)
          exact hk_2 E T r_x0 i_x1 (rg_m i_v_11 (by decide)) mb (by have := hc_2; omega)
set_option maxRecDepth 20000 in
theorem zX15_manLetter {ρ : Nat → Nat} {c : Cm} {F : Nat} (hF : 700000 ≤ F) {h : Hp} {x0 : Nat} {x1 : Int32} (T : TH ρ c h) (r_x0 : ρ x0 = 16) (i_x1 : Rg (-128) (127) (x1)) : Sat (sX15_manLetter F h x0 x1) (ZQ (ZI0 h (0) (24)) (fun o => o.1.toInt = 0 ∨ ¬ (x1.toInt) = -1)) := by
  unfold sX15_manLetter 
  have m_1 : Rg (0) (12) ((0 : Int32)) := (rg_m (rg_b rfl : Rg (0) (0) ((0 : Int32))) (by decide))
  exact zX15_manLetter_2 hF F rfl T r_x0 i_x1 (rg_m (rg_b rfl : Rg (0) (0) ((0 : Int32))) (by decide)) (show (x1).toInt = (x1.toInt) from (by have := (i_x1 : Rg (-128) (127) (x1)).1; have := (i_x1 : Rg (-128) (127) (x1)).2; omega)) (by have := m_1.1; have := m_1.2; omega)
set_option maxRecDepth 20000 in
theorem zX15_reads {ρ : Nat → Nat} {c : Cm} {F : Nat} (hF : 700000 ≤ F) (m7 : c.2.1 7 = true) (hA : pmA c [(16, 19)]) {h : Hp} {x0 : Nat} {x1 : Int32} (T : TH ρ c h) (r_x0 : ρ x0 = 16) (i_x1 : Rg (32) (47) (x1)) : Sat (sX15_reads h x0 x1) (ZI ρ c (0) (1)) := by
  unfold sX15_reads 
  refine s_dP0 (zX15_look hF m7 T r_x0) (fun o_1 eb_o_1 e_o_1 i_o_1 p_o_1 => ?_)
  have T_1 := th_eq e_o_1 T
  refine s_br (fun c_2 => ?_) (fun c_2 => ?_)
  · have _ := c_2
    have i_f_3 : Rg (32) (47) (o_1.1) := rg_eq c_2 i_x1
    have p_f_4 := p_o_1 (fun q => rc_eq q i_f_3 (rg_b rfl : Rg (-1) (-1) (-1 : Int32)) (by decide))
    refine s_hq (th_wI T_1 r_x0 (k := 16) (lo := (0)) (hi := (1200)) rfl ((rg_m (rg_add ((rg_he e_o_1 p_f_4) : Rg (0) (1199) ((hI o_1.2 x0 19))) (rg_b rfl : Rg (1) (1) ((1 : Int32))) (by decide) : Rg (1) (1200) (((hI o_1.2 x0 19) + (1 : Int32)))) (by decide)) : Rg (0) (1200) (((hI o_1.2 x0 19) + (1 : Int32)))) (by decide) (by decide) (pm_a hA rfl)) (fun h_3 T_5 w_6 => ?_)
    exact s_some ⟨(T_5), (rg_m (rg_b rfl : Rg (1) (1) ((1 : Int32))) (by decide))⟩
  · have _ := c_2
    exact s_some ⟨(T_1), (rg_m (rg_b rfl : Rg (0) (0) ((0 : Int32))) (by decide))⟩
set_option maxRecDepth 20000 in
theorem zX15_readHands_31 {ρ : Nat → Nat} {c : Cm} {F : Nat} {w_x1 : Nat} (hF : 700000 ≤ F) (m7 : c.2.1 7 = true) {k_18 : Hp → Nat → Nat → Int32 → Option (Int32 × Hp)} {C_18 : Int} (hk_18 : ∀ {h : Hp} {x0 : Nat} {x1 : Nat} {x2 : Int32}, cw c x1 = w_x1 → TH ρ c h → ρ x0 = 16 → ρ x1 = 13 → Rg (0) (32) (x2) → C_18 < x2.toInt → Sat (k_18 h x0 x1 x2) (ZI ρ c (0) (1))) (hA : pmA c [(16, 19)]) (hO_x1 : pmO c w_x1 [(64, 999)]) {h : Hp} {x0 : Nat} {x1 : Nat} {x2 : Int32} (o_x1 : cw c x1 = w_x1) (T : TH ρ c h) (r_x0 : ρ x0 = 16) (r_x1 : ρ x1 = 13) (i_x2 : Rg (0) (32) (x2)) (hc_18 : C_18 ≤ x2.toInt) : Sat (sX15_readHands_31 F k_18 h x0 x1 x2) (ZI ρ c (0) (1)) := by
  unfold sX15_readHands_31 sX15_readHands_63
  refine s_dP0 (zX15_look hF m7 T r_x0) (fun o_1 eb_o_1 e_o_1 i_o_1 p_o_1 => ?_)
  have T_1 := th_eq e_o_1 T
  refine s_dI0q (zX15_manLetter hF T_1 r_x0 i_o_1) (fun o_2 eb_o_2 e_o_2 i_o_2 pp_o_2 => ?_)
  have pq_o_2_0 : o_2.1.toInt = 0 ∨ ¬ ((o_1.1).toInt) = -1 := pp_o_2
  have T_2 := th_eq e_o_2 T_1
  refine s_br (fun c_3 => ?_) (fun c_3 => ?_)
  · have _ := c_3
    have i_f_4 : Rg (0) (0) (o_2.1) := rg_eq c_3 (rg_b rfl : Rg (0) (0) (0 : Int32))
    exact s_some ⟨(T_2), (rg_m (rg_b rfl : Rg (0) (0) ((0 : Int32))) (by decide))⟩
  · have _ := c_3
    have i_f_5 : Rg (1) (24) (o_2.1) := rg_nlo c_3 i_o_2 (rg_b rfl : Rg (0) (0) (0 : Int32))
    refine s_br (fun c_6 => ?_) (fun c_6 => ?_)
    · have _ := c_6
      have i_f_7 : Rg (32) (32) (x2) := rg_eq c_6 (rg_b rfl : Rg (32) (32) ((32 : Int32)))
      exact s_some ⟨(T_2), (rg_m (rg_b rfl : Rg (0) (0) ((0 : Int32))) (by decide))⟩
    · have _ := c_6
      have i_f_8 : Rg (0) (31) (x2) := rg_nhi c_6 i_x2 (rg_b rfl : Rg (32) (32) ((32 : Int32)))
      obtain ⟨r_5, e_r_5, q_r_5⟩ := thR T_2 r_x1 (k := 13) (i := 5) (k2 := 64) rfl (by decide)
      refine s_ref e_r_5 ?_
      refine s_gd (by rw [thN T_2 q_r_5 (k := 64) (n := 24) rfl (by decide)]; exact rg_inB ((rg_sub i_f_5 (rg_b rfl : Rg (1) (1) ((1 : Int32))) (by decide) : Rg (0) (23) ((o_2.1 - (1 : Int32)))) : Rg (0) (23) ((o_2.1 - (1 : Int32)))) (by decide)) ?_
      refine s_br (fun c_9 => ?_) (fun c_9 => ?_)
      · have _ := c_9
        have i_f_10 : Rg (16) (16) ((hI o_2.2 r_5 (o_2.1 - (1 : Int32)).toNatClampNeg)) := rg_eq c_9 (rg_b rfl : Rg (16) (16) ((16 : Int32)))
        exact s_some ⟨(T_2), (rg_m (rg_b rfl : Rg (0) (0) ((0 : Int32))) (by decide))⟩
      · have _ := c_9
        have i_f_11 : Rg (0) (15) ((hI o_2.2 r_5 (o_2.1 - (1 : Int32)).toNatClampNeg)) := rg_nhi c_9 (thI T_2 q_r_5 (k := 64) rfl : Rg (0) (16) ((hI o_2.2 r_5 (o_2.1 - (1 : Int32)).toNatClampNeg))) (rg_b rfl : Rg (16) (16) ((16 : Int32)))
        refine s_ref e_r_5 ?_
        refine s_gd (by rw [thN T_2 q_r_5 (k := 64) (n := 24) rfl (by decide)]; exact rg_inB ((rg_sub i_f_5 (rg_b rfl : Rg (1) (1) ((1 : Int32))) (by decide) : Rg (0) (23) ((o_2.1 - (1 : Int32)))) : Rg (0) (23) ((o_2.1 - (1 : Int32)))) (by decide)) ?_
        refine s_gd (by rw [thN T_2 q_r_5 (k := 64) (n := 24) rfl (by decide)]; exact rg_inB ((rg_sub i_f_5 (rg_b rfl : Rg (1) (1) ((1 : Int32))) (by decide) : Rg (0) (23) ((o_2.1 - (1 : Int32)))) : Rg (0) (23) ((o_2.1 - (1 : Int32)))) (by decide)) ?_
        refine s_hq (th_wI T_2 q_r_5 (k := 64) (lo := (0)) (hi := (16)) rfl ((rg_m (rg_add i_f_11 (rg_b rfl : Rg (1) (1) ((1 : Int32))) (by decide) : Rg (1) (16) (((hI o_2.2 r_5 (o_2.1 - (1 : Int32)).toNatClampNeg) + (1 : Int32)))) (by decide)) : Rg (0) (16) (((hI o_2.2 r_5 (o_2.1 - (1 : Int32)).toNatClampNeg) + (1 : Int32)))) (by decide) (by decide) (pm_o hO_x1 (th_ih T_2 r_x1 (k := 13) rfl e_r_5 o_x1) rfl)) (fun h_11 T_12 w_13 => ?_)
        refine s_q (fun v_12 e_14 => ?_)
        have i_v_12 : Rg (1) (32) (v_12) := by rw [e_14]; exact (rg_add i_f_8 (rg_b rfl : Rg (1) (1) ((1 : Int32))) (by decide) : Rg (1) (32) (x2 + (1 : Int32)))
        have og_17 : Rg (0) (1200) (((hI h_11 x0 19) + (1 : Int32))) := ⟨(by have : (((hI h_11 x0 19) + (1 : Int32)) : Int32).toInt = ((hI h_11 x0 19) : Int32).toInt + ((1 : Int32) : Int32).toInt := ti_add ((thI T_12 r_x0 (k := 16) (i := 19) rfl : Rg (0) (1200) ((hI h_11 x0 19))) : Rg (0) (1200) ((hI h_11 x0 19))) ((rg_b rfl : Rg (1) (1) ((1 : Int32))) : Rg (1) (1) ((1 : Int32))) (by decide); have hq_ := ((thI T_12 r_x0 (k := 16) (i := 19) rfl : Rg (0) (1200) ((hI h_11 x0 19))) : Rg (0) (1200) ((hI h_11 x0 19))); have := hq_.1; have := hq_.2; have : (hI h_11 x0 19).toInt = (hI o_2.2 x0 19).toInt := congrArg Int32.toInt (he_w w_13 (ne_r r_x0 q_r_5 (by decide))); have : (hI o_2.2 x0 19).toInt = (hI o_1.2 x0 19).toInt := congrArg Int32.toInt (he_e e_o_2); have : (hI o_1.2 x0 19).toInt = (hI h x0 19).toInt := congrArg Int32.toInt (he_e e_o_1); have : ((1 : Int32)).toInt = 1 := rfl; have := (i_o_1 : Rg (-128) (127) (o_1.1)).1; have := (i_o_1 : Rg (-128) (127) (o_1.1)).2; have := (i_f_5 : Rg (1) (24) (o_2.1)).1; have := (i_f_5 : Rg (1) (24) (o_2.1)).2; have : (o_1.1).toInt = -1 ∨ (0 ≤ ((hI h x0 19)).toInt ∧ ((hI h x0 19)).toInt ≤ 1199) := p1_or p_o_1; have hq_ := ((thI T r_x0 (k := 16) (i := 19) rfl : Rg (0) (1200) ((hI h x0 19))) : Rg (0) (1200) ((hI h x0 19))); have := hq_.1; have := hq_.2; have := ne_i c_3; have : (0 : Int32).toInt = 0 := rfl; have := ne_i c_9; have := (i_f_11 : Rg (0) (15) ((hI o_2.2 r_5 (o_2.1 - (1 : Int32)).toNatClampNeg))).1; have := (i_f_11 : Rg (0) (15) ((hI o_2.2 r_5 (o_2.1 - (1 : Int32)).toNatClampNeg))).2; have : (hI o_2.2 r_5 (o_2.1 - (1 : Int32)).toNatClampNeg).toInt = (hI o_1.2 r_5 (o_2.1 - (1 : Int32)).toNatClampNeg).toInt := congrArg Int32.toInt (he_e e_o_2); have : (hI o_1.2 r_5 (o_2.1 - (1 : Int32)).toNatClampNeg).toInt = (hI h r_5 (o_2.1 - (1 : Int32)).toNatClampNeg).toInt := congrArg Int32.toInt (he_e e_o_1); have : ((16 : Int32)).toInt = 16 := rfl; clear o_x1; omega), (by have : (((hI h_11 x0 19) + (1 : Int32)) : Int32).toInt = ((hI h_11 x0 19) : Int32).toInt + ((1 : Int32) : Int32).toInt := ti_add ((thI T_12 r_x0 (k := 16) (i := 19) rfl : Rg (0) (1200) ((hI h_11 x0 19))) : Rg (0) (1200) ((hI h_11 x0 19))) ((rg_b rfl : Rg (1) (1) ((1 : Int32))) : Rg (1) (1) ((1 : Int32))) (by decide); have hq_ := ((thI T_12 r_x0 (k := 16) (i := 19) rfl : Rg (0) (1200) ((hI h_11 x0 19))) : Rg (0) (1200) ((hI h_11 x0 19))); have := hq_.1; have := hq_.2; have : (hI h_11 x0 19).toInt = (hI o_2.2 x0 19).toInt := congrArg Int32.toInt (he_w w_13 (ne_r r_x0 q_r_5 (by decide))); have : (hI o_2.2 x0 19).toInt = (hI o_1.2 x0 19).toInt := congrArg Int32.toInt (he_e e_o_2); have : (hI o_1.2 x0 19).toInt = (hI h x0 19).toInt := congrArg Int32.toInt (he_e e_o_1); have : ((1 : Int32)).toInt = 1 := rfl; have := (i_o_1 : Rg (-128) (127) (o_1.1)).1; have := (i_o_1 : Rg (-128) (127) (o_1.1)).2; have := (i_f_5 : Rg (1) (24) (o_2.1)).1; have := (i_f_5 : Rg (1) (24) (o_2.1)).2; have : (o_1.1).toInt = -1 ∨ (0 ≤ ((hI h x0 19)).toInt ∧ ((hI h x0 19)).toInt ≤ 1199) := p1_or p_o_1; have hq_ := ((thI T r_x0 (k := 16) (i := 19) rfl : Rg (0) (1200) ((hI h x0 19))) : Rg (0) (1200) ((hI h x0 19))); have := hq_.1; have := hq_.2; have := ne_i c_3; have : (0 : Int32).toInt = 0 := rfl; have := ne_i c_9; have := (i_f_11 : Rg (0) (15) ((hI o_2.2 r_5 (o_2.1 - (1 : Int32)).toNatClampNeg))).1; have := (i_f_11 : Rg (0) (15) ((hI o_2.2 r_5 (o_2.1 - (1 : Int32)).toNatClampNeg))).2; have : (hI o_2.2 r_5 (o_2.1 - (1 : Int32)).toNatClampNeg).toInt = (hI o_1.2 r_5 (o_2.1 - (1 : Int32)).toNatClampNeg).toInt := congrArg Int32.toInt (he_e e_o_2); have : (hI o_1.2 r_5 (o_2.1 - (1 : Int32)).toNatClampNeg).toInt = (hI h r_5 (o_2.1 - (1 : Int32)).toNatClampNeg).toInt := congrArg Int32.toInt (he_e e_o_1); have : ((16 : Int32)).toInt = 16 := rfl; clear o_x1; omega)⟩
        refine s_hq (th_wI T_12 r_x0 (k := 16) (lo := (0)) (hi := (1200)) rfl (og_17 : Rg (0) (1200) (((hI h_11 x0 19) + (1 : Int32)))) (by decide) (by decide) (pm_a hA rfl)) (fun h_13 T_15 w_16 => ?_)
        have m_18 : (v_12).toInt = x2.toInt + 1 := by rw [e_14]; exact rg_inc i_f_8 (by decide)
        exact hk_18 o_x1 T_15 r_x0 r_x1 (rg_m i_v_12 (by decide)) (by have := hc_18; omega)
set_option maxRecDepth 20000 in
theorem zX15_readHands_18 {ρ : Nat → Nat} {c : Cm} {F : Nat} {w_x1 : Nat} (hF : 700000 ≤ F) (m7 : c.2.1 7 = true) (hA : pmA c [(16, 19)]) (hO_x1 : pmO c w_x1 [(64, 999)]) : ∀ (f : Nat) {h : Hp} {x0 : Nat} {x1 : Nat} {x2 : Int32}, cw c x1 = w_x1 → TH ρ c h → ρ x0 = 16 → ρ x1 = 13 → Rg (0) (32) (x2) → (32 - x2.toInt).toNat < f → Sat (sX15_readHands_18 F f h x0 x1 x2) (ZI ρ c (0) (1)) := by
  intro f
  induction f with
  | zero => intros; omega
  | succ f ih =>
    intro h x0 x1 x2 o_x1 T r_x0 r_x1 i_x2 hm
    rw [sX15_readHands_18]
    obtain ⟨C_18, hC_18⟩ : ∃ C : Int, C = x2.toInt := ⟨_, rfl⟩
    have hk_18 : ∀ {h : Hp} {x0 : Nat} {x1 : Nat} {x2 : Int32}, cw c x1 = w_x1 → TH ρ c h → ρ x0 = 16 → ρ x1 = 13 → Rg (0) (32) (x2) → C_18 < x2.toInt → Sat (sX15_readHands_18 F f h x0 x1 x2) (ZI ρ c (0) (1)) := by
      intro h' x0' x1' x2' o_x1' T' r_x0' r_x1' i_x2' hl
      exact ih o_x1' T' r_x0' r_x1' i_x2' (by have := i_x2'.1; have := i_x2'.2; omega)
    have hc_18 : C_18 ≤ x2.toInt := by omega
    refine s_br (fun c_1 => ?_) (fun c_1 => ?_)
    · have _ := c_1
      have i_f_2 : Rg (0) (0) (x2) := rg_eq c_1 (rg_b rfl : Rg (0) (0) (0 : Int32))
      exact zX15_readHands_31 hF m7 @hk_18 (pmA_s hA rfl) (pmO_s hO_x1 rfl) o_x1 T r_x0 r_x1 (rg_m i_f_2 (by decide)) hc_18
    · have _ := c_1
      have i_f_3 : Rg (1) (32) (x2) := rg_nlo c_1 i_x2 (rg_b rfl : Rg (0) (0) (0 : Int32))
      refine s_dP0 (zX15_look hF m7 T r_x0) (fun o_2 eb_o_2 e_o_2 i_o_2 p_o_2 => ?_)
      have T_4 := th_eq e_o_2 T
      refine s_br (fun c_5 => ?_) (fun c_5 => ?_)
      · have _ := c_5
        have i_f_6 : Rg (32) (32) (o_2.1) := rg_eq c_5 (rg_b rfl : Rg (32) (32) ((32 : Int32)))
        have p_f_7 := p_o_2 (fun q => rc_eq q i_f_6 (rg_b rfl : Rg (-1) (-1) (-1 : Int32)) (by decide))
        refine s_cI (zX15_reads hF m7 (pmA_s hA rfl) T_4 r_x0 (rg_m (rg_b rfl : Rg (32) (32) ((32 : Int32))) (by decide))) (fun o_4 T_8 i_o_4 => ?_)
        refine s_gd (rg_bool i_o_4) ?_
        exact s_some ⟨(T_8), i_o_4⟩
      · have _ := c_5
        exact zX15_readHands_31 hF m7 @hk_18 (pmA_s hA rfl) (pmO_s hO_x1 rfl) o_x1 T_4 r_x0 r_x1 (rg_m i_f_3 (by decide)) hc_18
set_option maxRecDepth 20000 in
theorem zX15_readHands {ρ : Nat → Nat} {c : Cm} {F : Nat} {w_x1 : Nat} (hF : 700000 ≤ F) (m7 : c.2.1 7 = true) (hA : pmA c [(16, 19)]) (hO_x1 : pmO c w_x1 [(64, 999)]) {h : Hp} {x0 : Nat} {x1 : Nat} (o_x1 : cw c x1 = w_x1) (T : TH ρ c h) (r_x0 : ρ x0 = 16) (r_x1 : ρ x1 = 13) : Sat (sX15_readHands F h x0 x1) (ZI ρ c (0) (1)) := by
  unfold sX15_readHands 
  refine s_cI (zX15_reads hF m7 (pmA_s hA rfl) T r_x0 (rg_m (rg_b rfl : Rg (45) (45) ((45 : Int32))) (by decide))) (fun o_1 T_1 i_o_1 => ?_)
  refine s_br (fun c_2 => ?_) (fun c_2 => ?_)
  · have _ := c_2
    have i_f_3 : Rg (0) (0) (o_1.1) := rg_eq c_2 (rg_b rfl : Rg (0) (0) (0 : Int32))
    have m_4 : Rg (0) (32) ((0 : Int32)) := (rg_m (rg_b rfl : Rg (0) (0) ((0 : Int32))) (by decide))
    exact zX15_readHands_18 hF m7 (pmA_s hA rfl) (pmO_s hO_x1 rfl) F o_x1 T_1 r_x0 r_x1 (rg_m (rg_b rfl : Rg (0) (0) ((0 : Int32))) (by decide)) (by have := m_4.1; have := m_4.2; omega)
  · have _ := c_2
    have i_f_5 : Rg (1) (1) (o_1.1) := rg_nlo c_2 i_o_1 (rg_b rfl : Rg (0) (0) (0 : Int32))
    refine s_cI (zX15_reads hF m7 (pmA_s hA rfl) T_1 r_x0 (rg_m (rg_b rfl : Rg (32) (32) ((32 : Int32))) (by decide))) (fun o_3 T_6 i_o_3 => ?_)
    refine s_gd (rg_bool i_o_3) ?_
    exact s_some ⟨(T_6), i_o_3⟩
set_option maxRecDepth 20000 in
theorem zX15_readMen_13 {ρ : Nat → Nat} {c : Cm} {F : Nat} {w_x1 : Nat} (hF : 700000 ≤ F) (m7 : c.2.1 7 = true) {k_7 : Hp → Nat → Nat → Int32 → Option (Int32 × Hp)} {C_7 : Int} (hk_7 : ∀ {h : Hp} {x0 : Nat} {x1 : Nat} {x2 : Int32}, cw c x1 = w_x1 → TH ρ c h → ρ x0 = 16 → ρ x1 = 13 → Rg (-1) (7) (x2) → x2.toInt < C_7 → Sat (k_7 h x0 x1 x2) (ZI ρ c (0) (1))) (hA : pmA c [(16, 19)]) (hO_x1 : pmO c w_x1 [(62, 999)]) : ∀ (f : Nat) {h : Hp} {x0 : Nat} {x1 : Nat} {x2 : Int32} {x3 : Int32}, cw c x1 = w_x1 → TH ρ c h → ρ x0 = 16 → ρ x1 = 13 → Rg (0) (7) (x2) → Rg (0) (8) (x3) → x2.toInt ≤ C_7 → ((8 - x3.toInt) - (0)).toNat < f → Sat (sX15_readMen_13 F k_7 f h x0 x1 x2 x3) (ZI ρ c (0) (1)) := by
  intro f
  induction f with
  | zero => intros; omega
  | succ f ih =>
    intro h x0 x1 x2 x3 o_x1 T r_x0 r_x1 i_x2 i_x3 hc_7 hm
    rw [sX15_readMen_13]
    unfold sX15_readMen_130 sX15_readMen_100 sX15_readMen_102
    obtain ⟨C_13, hC_13⟩ : ∃ C : Int, C = (8 - x3.toInt) := ⟨_, rfl⟩
    have hk_13 : ∀ {h : Hp} {x0 : Nat} {x1 : Nat} {x2 : Int32} {x3 : Int32}, cw c x1 = w_x1 → TH ρ c h → ρ x0 = 16 → ρ x1 = 13 → Rg (0) (7) (x2) → Rg (0) (8) (x3) → x2.toInt ≤ C_7 → (0 ≤ (8 - x3.toInt) ∧ (8 - x3.toInt) < C_13) → Sat (sX15_readMen_13 F k_7 f h x0 x1 x2 x3) (ZI ρ c (0) (1)) := by
      intro h' x0' x1' x2' x3' o_x1' T' r_x0' r_x1' i_x2' i_x3' hc_7' hl
      exact ih o_x1' T' r_x0' r_x1' i_x2' i_x3' hc_7' (by omega)
    have hc_13 : (0 ≤ (8 - x3.toInt) ∧ (8 - x3.toInt) ≤ C_13) := (by have := (i_x3 : Rg (0) (8) (x3)).1; have := (i_x3 : Rg (0) (8) (x3)).2; clear o_x1; omega)
    refine s_br (fun c_1 => ?_) (fun c_1 => ?_)
    · have _ := c_1
      have i_f_2 : Rg (3) (8) (x3) := rg_le2 c_1 (thI T r_x0 (k := 16) (i := 11) rfl : Rg (3) (8) ((hI h x0 11))) i_x3
      refine s_br (fun c_3 => ?_) (fun c_3 => ?_)
      · have _ := c_3
        have i_f_4 : Rg (0) (0) (x2) := rg_le1 c_3 i_x2 (rg_b rfl : Rg (0) (0) (0 : Int32))
        refine s_q (fun v_1q1 e_5 => ?_)
        have i_v_1q1 : Rg (-1) (-1) (v_1q1) := by rw [e_5]; exact (rg_add i_f_4 (rg_b rfl : Rg (-1) (-1) ((- 1 : Int32))) (by decide) : Rg (-1) (-1) (x2 + (- 1 : Int32)))
        have m_6 : (v_1q1).toInt = x2.toInt - 1 := by rw [e_5]; exact rg_dec i_f_4 (by decide)
        exact hk_7 o_x1 T r_x0 r_x1 (rg_m i_v_1q1 (by decide)) (by have := hc_7; omega)
      · have _ := c_3
        have i_f_7 : Rg (1) (7) (x2) := rg_lt2 (nle_lt c_3) (rg_b rfl : Rg (0) (0) (0 : Int32)) i_x2
        refine s_cI (zX15_reads hF m7 (pmA_s hA rfl) T r_x0 (rg_m (rg_b rfl : Rg (47) (47) ((47 : Int32))) (by decide))) (fun o_3 T_8 i_o_3 => ?_)
        refine s_br (fun c_9 => ?_) (fun c_9 => ?_)
        · have _ := c_9
          have i_f_10 : Rg (0) (0) (o_3.1) := rg_eq c_9 (rg_b rfl : Rg (0) (0) (0 : Int32))
          exact s_some ⟨(T_8), (rg_m (rg_b rfl : Rg (0) (0) ((0 : Int32))) (by decide))⟩
        · have _ := c_9
          have i_f_11 : Rg (1) (1) (o_3.1) := rg_nlo c_9 i_o_3 (rg_b rfl : Rg (0) (0) (0 : Int32))
          refine s_q (fun v_1q2 e_12 => ?_)
          have i_v_1q2 : Rg (0) (6) (v_1q2) := by rw [e_12]; exact (rg_add i_f_7 (rg_b rfl : Rg (-1) (-1) ((- 1 : Int32))) (by decide) : Rg (0) (6) (x2 + (- 1 : Int32)))
          have m_13 : (v_1q2).toInt = x2.toInt - 1 := by rw [e_12]; exact rg_dec i_f_7 (by decide)
          exact hk_7 o_x1 T_8 r_x0 r_x1 (rg_m i_v_1q2 (by decide)) (by have := hc_7; omega)
    · have _ := c_1
      have i_f_14 : Rg (0) (7) (x3) := rg_lt1 (nle_lt c_1) i_x3 (thI T r_x0 (k := 16) (i := 11) rfl : Rg (3) (8) ((hI h x0 11)))
      refine s_dP0 (zX15_look hF m7 T r_x0) (fun o_5 eb_o_5 e_o_5 i_o_5 p_o_5 => ?_)
      have T_15 := th_eq e_o_5 T
      refine s_dI0q (zX15_manLetter hF T_15 r_x0 i_o_5) (fun o_6 eb_o_6 e_o_6 i_o_6 pp_o_6 => ?_)
      have pq_o_6_0 : o_6.1.toInt = 0 ∨ ¬ ((o_5.1).toInt) = -1 := pp_o_6
      have T_16 := th_eq e_o_6 T_15
      refine s_br (fun c_17 => ?_) (fun c_17 => ?_)
      · have _ := c_17
        have i_f_18 : Rg (0) (0) (o_6.1) := rg_le1 c_17 i_o_6 (rg_b rfl : Rg (0) (0) (0 : Int32))
        refine s_br (fun c_19 => ?_) (fun c_19 => ?_)
        · have _ := c_19
          have i_f_20 : Rg (-128) (48) (o_5.1) := rg_lt1 c_19 i_o_5 (rg_b rfl : Rg (49) (49) ((49 : Int32)))
          exact s_some ⟨(T_16), (rg_m (rg_b rfl : Rg (0) (0) ((0 : Int32))) (by decide))⟩
        · have _ := c_19
          have i_f_21 : Rg (49) (127) (o_5.1) := rg_le2 (nlt_le c_19) (rg_b rfl : Rg (49) (49) ((49 : Int32))) i_o_5
          have p_f_22 := p_o_5 (fun q => rc_eq q i_f_21 (rg_b rfl : Rg (-1) (-1) (-1 : Int32)) (by decide))
          refine s_br (fun c_23 => ?_) (fun c_23 => ?_)
          · have _ := c_23
            have i_f_24 : Rg (57) (127) (o_5.1) := rg_lt2 c_23 (rg_b rfl : Rg (56) (56) ((56 : Int32))) i_f_21
            exact s_some ⟨(T_16), (rg_m (rg_b rfl : Rg (0) (0) ((0 : Int32))) (by decide))⟩
          · have _ := c_23
            have i_f_25 : Rg (49) (56) (o_5.1) := rg_le1 (nlt_le c_23) i_f_21 (rg_b rfl : Rg (56) (56) ((56 : Int32)))
            refine s_br (fun c_26 => ?_) (fun c_26 => ?_)
            · have _ := c_26
              have i_f_27 : Rg (4) (15) (((x3 + o_5.1) - (48 : Int32))) := rg_lt2 c_26 (thI T_16 r_x0 (k := 16) (i := 11) rfl : Rg (3) (8) ((hI o_6.2 x0 11))) (rg_sub (rg_add i_f_14 i_f_25 (by decide) : Rg (49) (63) ((x3 + o_5.1))) (rg_b rfl : Rg (48) (48) ((48 : Int32))) (by decide) : Rg (1) (15) (((x3 + o_5.1) - (48 : Int32))))
              have i_f_28 : Rg (52) (63) ((x3 + o_5.1)) := rg_bks (i_f_27 : Rg (4) (15) (((x3 + o_5.1) - (48 : Int32)))) (rg_add i_f_14 i_f_25 (by decide) : Rg (49) (63) ((x3 + o_5.1))) (rg_b rfl : Rg (48) (48) ((48 : Int32))) (by decide)
              exact s_some ⟨(T_16), (rg_m (rg_b rfl : Rg (0) (0) ((0 : Int32))) (by decide))⟩
            · have _ := c_26
              have i_f_29 : Rg (1) (8) (((x3 + o_5.1) - (48 : Int32))) := rg_le1 (nlt_le c_26) (rg_sub (rg_add i_f_14 i_f_25 (by decide) : Rg (49) (63) ((x3 + o_5.1))) (rg_b rfl : Rg (48) (48) ((48 : Int32))) (by decide) : Rg (1) (15) (((x3 + o_5.1) - (48 : Int32)))) (thI T_16 r_x0 (k := 16) (i := 11) rfl : Rg (3) (8) ((hI o_6.2 x0 11)))
              have i_f_30 : Rg (49) (56) ((x3 + o_5.1)) := rg_bks (i_f_29 : Rg (1) (8) (((x3 + o_5.1) - (48 : Int32)))) (rg_add i_f_14 i_f_25 (by decide) : Rg (49) (63) ((x3 + o_5.1))) (rg_b rfl : Rg (48) (48) ((48 : Int32))) (by decide)
              refine s_q (fun v_11 e_31 => ?_)
              have i_v_11 : Rg (1) (15) (v_11) := by rw [e_31]; exact (rg_add i_f_14 (rg_sub i_f_25 (rg_b rfl : Rg (48) (48) ((48 : Int32))) (by decide) : Rg (1) (8) ((o_5.1 - (48 : Int32)))) (by decide) : Rg (1) (15) (x3 + (o_5.1 - (48 : Int32))))
              refine s_hq (th_wI T_16 r_x0 (k := 16) (lo := (0)) (hi := (1200)) rfl ((rg_m (rg_add ((rg_he e_o_6 (rg_he e_o_5 p_f_22)) : Rg (0) (1199) ((hI o_6.2 x0 19))) (rg_b rfl : Rg (1) (1) ((1 : Int32))) (by decide) : Rg (1) (1200) (((hI o_6.2 x0 19) + (1 : Int32)))) (by decide)) : Rg (0) (1200) (((hI o_6.2 x0 19) + (1 : Int32)))) (by decide) (by decide) (pm_a hA rfl)) (fun h_1q6 T_32 w_33 => ?_)
              have og_34 : Rg (0) (8) (v_11) := ⟨(by have := (i_v_11 : Rg (1) (15) (v_11)).1; have := (i_v_11 : Rg (1) (15) (v_11)).2; have : (v_11).toInt = (x3 + (o_5.1 - (48 : Int32)) : Int32).toInt := congrArg Int32.toInt e_31; have : (x3 + (o_5.1 - (48 : Int32)) : Int32).toInt = (x3 : Int32).toInt + ((o_5.1 - (48 : Int32)) : Int32).toInt := ti_add (i_f_14 : Rg (0) (7) (x3)) ((rg_sub i_f_25 (rg_b rfl : Rg (48) (48) ((48 : Int32))) (by decide) : Rg (1) (8) ((o_5.1 - (48 : Int32)))) : Rg (1) (8) ((o_5.1 - (48 : Int32)))) (by decide); have := (i_f_14 : Rg (0) (7) (x3)).1; have := (i_f_14 : Rg (0) (7) (x3)).2; have : ((o_5.1 - (48 : Int32)) : Int32).toInt = (o_5.1 : Int32).toInt - ((48 : Int32) : Int32).toInt := ti_sub (i_f_25 : Rg (49) (56) (o_5.1)) ((rg_b rfl : Rg (48) (48) ((48 : Int32))) : Rg (48) (48) ((48 : Int32))) (by decide); have := (i_f_25 : Rg (49) (56) (o_5.1)).1; have := (i_f_25 : Rg (49) (56) (o_5.1)).2; have : ((48 : Int32)).toInt = 48 := rfl; have := (i_f_18 : Rg (0) (0) (o_6.1)).1; have := (i_f_18 : Rg (0) (0) (o_6.1)).2; have := nle_i c_1; have hq_ := ((thI T r_x0 (k := 16) (i := 11) rfl : Rg (3) (8) ((hI h x0 11))) : Rg (3) (8) ((hI h x0 11))); have := hq_.1; have := hq_.2; have := le_i c_17; have : (0 : Int32).toInt = 0 := rfl; have := nlt_i c_19; have : ((49 : Int32)).toInt = 49 := rfl; have := nlt_i c_23; have : ((56 : Int32)).toInt = 56 := rfl; have := nlt_i c_26; have hq_ := ((thI T_16 r_x0 (k := 16) (i := 11) rfl : Rg (3) (8) ((hI o_6.2 x0 11))) : Rg (3) (8) ((hI o_6.2 x0 11))); have := hq_.1; have := hq_.2; have : (hI o_6.2 x0 11).toInt = (hI o_5.2 x0 11).toInt := congrArg Int32.toInt (he_e e_o_6); have : (hI o_5.2 x0 11).toInt = (hI h x0 11).toInt := congrArg Int32.toInt (he_e e_o_5); have : (((x3 + o_5.1) - (48 : Int32)) : Int32).toInt = ((x3 + o_5.1) : Int32).toInt - ((48 : Int32) : Int32).toInt := ti_sub (i_f_30 : Rg (49) (56) ((x3 + o_5.1))) ((rg_b rfl : Rg (48) (48) ((48 : Int32))) : Rg (48) (48) ((48 : Int32))) (by decide); have : ((x3 + o_5.1) : Int32).toInt = (x3 : Int32).toInt + (o_5.1 : Int32).toInt := ti_add (i_f_14 : Rg (0) (7) (x3)) (i_f_25 : Rg (49) (56) (o_5.1)) (by decide); clear o_x1; omega), (by have := (i_v_11 : Rg (1) (15) (v_11)).1; have := (i_v_11 : Rg (1) (15) (v_11)).2; have : (v_11).toInt = (x3 + (o_5.1 - (48 : Int32)) : Int32).toInt := congrArg Int32.toInt e_31; have : (x3 + (o_5.1 - (48 : Int32)) : Int32).toInt = (x3 : Int32).toInt + ((o_5.1 - (48 : Int32)) : Int32).toInt := ti_add (i_f_14 : Rg (0) (7) (x3)) ((rg_sub i_f_25 (rg_b rfl : Rg (48) (48) ((48 : Int32))) (by decide) : Rg (1) (8) ((o_5.1 - (48 : Int32)))) : Rg (1) (8) ((o_5.1 - (48 : Int32)))) (by decide); have := (i_f_14 : Rg (0) (7) (x3)).1; have := (i_f_14 : Rg (0) (7) (x3)).2; have : ((o_5.1 - (48 : Int32)) : Int32).toInt = (o_5.1 : Int32).toInt - ((48 : Int32) : Int32).toInt := ti_sub (i_f_25 : Rg (49) (56) (o_5.1)) ((rg_b rfl : Rg (48) (48) ((48 : Int32))) : Rg (48) (48) ((48 : Int32))) (by decide); have := (i_f_25 : Rg (49) (56) (o_5.1)).1; have := (i_f_25 : Rg (49) (56) (o_5.1)).2; have : ((48 : Int32)).toInt = 48 := rfl; have := (i_f_18 : Rg (0) (0) (o_6.1)).1; have := (i_f_18 : Rg (0) (0) (o_6.1)).2; have := nle_i c_1; have hq_ := ((thI T r_x0 (k := 16) (i := 11) rfl : Rg (3) (8) ((hI h x0 11))) : Rg (3) (8) ((hI h x0 11))); have := hq_.1; have := hq_.2; have := le_i c_17; have : (0 : Int32).toInt = 0 := rfl; have := nlt_i c_19; have : ((49 : Int32)).toInt = 49 := rfl; have := nlt_i c_23; have : ((56 : Int32)).toInt = 56 := rfl; have := nlt_i c_26; have hq_ := ((thI T_16 r_x0 (k := 16) (i := 11) rfl : Rg (3) (8) ((hI o_6.2 x0 11))) : Rg (3) (8) ((hI o_6.2 x0 11))); have := hq_.1; have := hq_.2; have : (hI o_6.2 x0 11).toInt = (hI o_5.2 x0 11).toInt := congrArg Int32.toInt (he_e e_o_6); have : (hI o_5.2 x0 11).toInt = (hI h x0 11).toInt := congrArg Int32.toInt (he_e e_o_5); have : (((x3 + o_5.1) - (48 : Int32)) : Int32).toInt = ((x3 + o_5.1) : Int32).toInt - ((48 : Int32) : Int32).toInt := ti_sub (i_f_30 : Rg (49) (56) ((x3 + o_5.1))) ((rg_b rfl : Rg (48) (48) ((48 : Int32))) : Rg (48) (48) ((48 : Int32))) (by decide); have : ((x3 + o_5.1) : Int32).toInt = (x3 : Int32).toInt + (o_5.1 : Int32).toInt := ti_add (i_f_14 : Rg (0) (7) (x3)) (i_f_25 : Rg (49) (56) (o_5.1)) (by decide); clear o_x1; omega)⟩
              exact hk_13 o_x1 T_32 r_x0 r_x1 i_x2 og_34 hc_7 (show (0 ≤ (8 - (v_11).toInt) ∧ (8 - (v_11).toInt) < C_13) from (by have := (i_v_11 : Rg (1) (15) (v_11)).1; have := (i_v_11 : Rg (1) (15) (v_11)).2; have : (v_11).toInt = (x3 + (o_5.1 - (48 : Int32)) : Int32).toInt := congrArg Int32.toInt e_31; have : (x3 + (o_5.1 - (48 : Int32)) : Int32).toInt = (x3 : Int32).toInt + ((o_5.1 - (48 : Int32)) : Int32).toInt := ti_add (i_f_14 : Rg (0) (7) (x3)) ((rg_sub i_f_25 (rg_b rfl : Rg (48) (48) ((48 : Int32))) (by decide) : Rg (1) (8) ((o_5.1 - (48 : Int32)))) : Rg (1) (8) ((o_5.1 - (48 : Int32)))) (by decide); have := (i_f_14 : Rg (0) (7) (x3)).1; have := (i_f_14 : Rg (0) (7) (x3)).2; have : ((o_5.1 - (48 : Int32)) : Int32).toInt = (o_5.1 : Int32).toInt - ((48 : Int32) : Int32).toInt := ti_sub (i_f_25 : Rg (49) (56) (o_5.1)) ((rg_b rfl : Rg (48) (48) ((48 : Int32))) : Rg (48) (48) ((48 : Int32))) (by decide); have := (i_f_25 : Rg (49) (56) (o_5.1)).1; have := (i_f_25 : Rg (49) (56) (o_5.1)).2; have : ((48 : Int32)).toInt = 48 := rfl; have := (i_f_18 : Rg (0) (0) (o_6.1)).1; have := (i_f_18 : Rg (0) (0) (o_6.1)).2; have := nle_i c_1; have hq_ := ((thI T r_x0 (k := 16) (i := 11) rfl : Rg (3) (8) ((hI h x0 11))) : Rg (3) (8) ((hI h x0 11))); have := hq_.1; have := hq_.2; have := le_i c_17; have : (0 : Int32).toInt = 0 := rfl; have := nlt_i c_19; have : ((49 : Int32)).toInt = 49 := rfl; have := nlt_i c_23; have : ((56 : Int32)).toInt = 56 := rfl; have := nlt_i c_26; have hq_ := ((thI T_16 r_x0 (k := 16) (i := 11) rfl : Rg (3) (8) ((hI o_6.2 x0 11))) : Rg (3) (8) ((hI o_6.2 x0 11))); have := hq_.1; have := hq_.2; have : (hI o_6.2 x0 11).toInt = (hI o_5.2 x0 11).toInt := congrArg Int32.toInt (he_e e_o_6); have : (hI o_5.2 x0 11).toInt = (hI h x0 11).toInt := congrArg Int32.toInt (he_e e_o_5); have : (((x3 + o_5.1) - (48 : Int32)) : Int32).toInt = ((x3 + o_5.1) : Int32).toInt - ((48 : Int32) : Int32).toInt := ti_sub (i_f_30 : Rg (49) (56) ((x3 + o_5.1))) ((rg_b rfl : Rg (48) (48) ((48 : Int32))) : Rg (48) (48) ((48 : Int32))) (by decide); have : ((x3 + o_5.1) : Int32).toInt = (x3 : Int32).toInt + (o_5.1 : Int32).toInt := ti_add (i_f_14 : Rg (0) (7) (x3)) (i_f_25 : Rg (49) (56) (o_5.1)) (by decide); clear o_x1; omega))
      · have _ := c_17
        have i_f_35 : Rg (1) (24) (o_6.1) := rg_lt2 (nle_lt c_17) (rg_b rfl : Rg (0) (0) (0 : Int32)) i_o_6
        obtain ⟨r_12, e_r_12, q_r_12⟩ := thR T_16 r_x1 (k := 13) (i := 0) (k2 := 62) rfl (by decide)
        refine s_ref e_r_12 ?_
        refine s_gd (by rw [thN T_16 q_r_12 (k := 62) (n := 64) rfl (by decide)]; exact rg_inB ((rg_add (rg_mul i_x2 (thI T_16 r_x0 (k := 16) (i := 11) rfl : Rg (3) (8) ((hI o_6.2 x0 11))) (by decide) : Rg (0) (56) ((x2 * (hI o_6.2 x0 11)))) i_f_14 (by decide) : Rg (0) (63) (((x2 * (hI o_6.2 x0 11)) + x3))) : Rg (0) (63) (((x2 * (hI o_6.2 x0 11)) + x3))) (by decide)) ?_
        refine s_hq (th_wI T_16 q_r_12 (k := 62) (lo := (0)) (hi := (24)) rfl ((rg_m i_f_35 (by decide)) : Rg (0) (24) (o_6.1)) (by decide) (by decide) (pm_o hO_x1 (th_ih T_16 r_x1 (k := 13) rfl e_r_12 o_x1) rfl)) (fun h_14 T_36 w_37 => ?_)
        refine s_q (fun v_15 e_38 => ?_)
        have i_v_15 : Rg (1) (8) (v_15) := by rw [e_38]; exact (rg_add i_f_14 (rg_b rfl : Rg (1) (1) ((1 : Int32))) (by decide) : Rg (1) (8) (x3 + (1 : Int32)))
        have og_41 : Rg (0) (1200) (((hI h_14 x0 19) + (1 : Int32))) := ⟨(by have : (((hI h_14 x0 19) + (1 : Int32)) : Int32).toInt = ((hI h_14 x0 19) : Int32).toInt + ((1 : Int32) : Int32).toInt := ti_add ((thI T_36 r_x0 (k := 16) (i := 19) rfl : Rg (0) (1200) ((hI h_14 x0 19))) : Rg (0) (1200) ((hI h_14 x0 19))) ((rg_b rfl : Rg (1) (1) ((1 : Int32))) : Rg (1) (1) ((1 : Int32))) (by decide); have hq_ := ((thI T_36 r_x0 (k := 16) (i := 19) rfl : Rg (0) (1200) ((hI h_14 x0 19))) : Rg (0) (1200) ((hI h_14 x0 19))); have := hq_.1; have := hq_.2; have : (hI h_14 x0 19).toInt = (hI o_6.2 x0 19).toInt := congrArg Int32.toInt (he_w w_37 (ne_r r_x0 q_r_12 (by decide))); have : (hI o_6.2 x0 19).toInt = (hI o_5.2 x0 19).toInt := congrArg Int32.toInt (he_e e_o_6); have : (hI o_5.2 x0 19).toInt = (hI h x0 19).toInt := congrArg Int32.toInt (he_e e_o_5); have : ((1 : Int32)).toInt = 1 := rfl; have := (i_o_5 : Rg (-128) (127) (o_5.1)).1; have := (i_o_5 : Rg (-128) (127) (o_5.1)).2; have := (i_f_35 : Rg (1) (24) (o_6.1)).1; have := (i_f_35 : Rg (1) (24) (o_6.1)).2; have : (o_5.1).toInt = -1 ∨ (0 ≤ ((hI h x0 19)).toInt ∧ ((hI h x0 19)).toInt ≤ 1199) := p1_or p_o_5; have hq_ := ((thI T r_x0 (k := 16) (i := 19) rfl : Rg (0) (1200) ((hI h x0 19))) : Rg (0) (1200) ((hI h x0 19))); have := hq_.1; have := hq_.2; have := nle_i c_17; have : (0 : Int32).toInt = 0 := rfl; clear o_x1; omega), (by have : (((hI h_14 x0 19) + (1 : Int32)) : Int32).toInt = ((hI h_14 x0 19) : Int32).toInt + ((1 : Int32) : Int32).toInt := ti_add ((thI T_36 r_x0 (k := 16) (i := 19) rfl : Rg (0) (1200) ((hI h_14 x0 19))) : Rg (0) (1200) ((hI h_14 x0 19))) ((rg_b rfl : Rg (1) (1) ((1 : Int32))) : Rg (1) (1) ((1 : Int32))) (by decide); have hq_ := ((thI T_36 r_x0 (k := 16) (i := 19) rfl : Rg (0) (1200) ((hI h_14 x0 19))) : Rg (0) (1200) ((hI h_14 x0 19))); have := hq_.1; have := hq_.2; have : (hI h_14 x0 19).toInt = (hI o_6.2 x0 19).toInt := congrArg Int32.toInt (he_w w_37 (ne_r r_x0 q_r_12 (by decide))); have : (hI o_6.2 x0 19).toInt = (hI o_5.2 x0 19).toInt := congrArg Int32.toInt (he_e e_o_6); have : (hI o_5.2 x0 19).toInt = (hI h x0 19).toInt := congrArg Int32.toInt (he_e e_o_5); have : ((1 : Int32)).toInt = 1 := rfl; have := (i_o_5 : Rg (-128) (127) (o_5.1)).1; have := (i_o_5 : Rg (-128) (127) (o_5.1)).2; have := (i_f_35 : Rg (1) (24) (o_6.1)).1; have := (i_f_35 : Rg (1) (24) (o_6.1)).2; have : (o_5.1).toInt = -1 ∨ (0 ≤ ((hI h x0 19)).toInt ∧ ((hI h x0 19)).toInt ≤ 1199) := p1_or p_o_5; have hq_ := ((thI T r_x0 (k := 16) (i := 19) rfl : Rg (0) (1200) ((hI h x0 19))) : Rg (0) (1200) ((hI h x0 19))); have := hq_.1; have := hq_.2; have := nle_i c_17; have : (0 : Int32).toInt = 0 := rfl; clear o_x1; omega)⟩
        refine s_hq (th_wI T_36 r_x0 (k := 16) (lo := (0)) (hi := (1200)) rfl (og_41 : Rg (0) (1200) (((hI h_14 x0 19) + (1 : Int32)))) (by decide) (by decide) (pm_a hA rfl)) (fun h_1q7 T_39 w_40 => ?_)
        exact hk_13 o_x1 T_39 r_x0 r_x1 i_x2 (rg_m i_v_15 (by decide)) hc_7 (show (0 ≤ (8 - (v_15).toInt) ∧ (8 - (v_15).toInt) < C_13) from (by have := (i_v_15 : Rg (1) (8) (v_15)).1; have := (i_v_15 : Rg (1) (8) (v_15)).2; have : (v_15).toInt = (x3 + (1 : Int32) : Int32).toInt := congrArg Int32.toInt e_38; have : (x3 + (1 : Int32) : Int32).toInt = (x3 : Int32).toInt + ((1 : Int32) : Int32).toInt := ti_add (i_f_14 : Rg (0) (7) (x3)) ((rg_b rfl : Rg (1) (1) ((1 : Int32))) : Rg (1) (1) ((1 : Int32))) (by decide); have := (i_f_14 : Rg (0) (7) (x3)).1; have := (i_f_14 : Rg (0) (7) (x3)).2; have : ((1 : Int32)).toInt = 1 := rfl; have := (i_o_5 : Rg (-128) (127) (o_5.1)).1; have := (i_o_5 : Rg (-128) (127) (o_5.1)).2; have := (i_f_35 : Rg (1) (24) (o_6.1)).1; have := (i_f_35 : Rg (1) (24) (o_6.1)).2; have : (o_5.1).toInt = -1 ∨ (0 ≤ ((hI h x0 19)).toInt ∧ ((hI h x0 19)).toInt ≤ 1199) := p1_or p_o_5; have hq_ := ((thI T r_x0 (k := 16) (i := 19) rfl : Rg (0) (1200) ((hI h x0 19))) : Rg (0) (1200) ((hI h x0 19))); have := hq_.1; have := hq_.2; have := nle_i c_1; have hq_ := ((thI T r_x0 (k := 16) (i := 11) rfl : Rg (3) (8) ((hI h x0 11))) : Rg (3) (8) ((hI h x0 11))); have := hq_.1; have := hq_.2; have := nle_i c_17; have : (0 : Int32).toInt = 0 := rfl; clear o_x1; omega))
set_option maxRecDepth 20000 in
theorem zX15_readMen_7 {ρ : Nat → Nat} {c : Cm} {F : Nat} {w_x1 : Nat} (hF : 700000 ≤ F) (m7 : c.2.1 7 = true) (hA : pmA c [(16, 19)]) (hO_x1 : pmO c w_x1 [(62, 999)]) : ∀ (f : Nat) {h : Hp} {x0 : Nat} {x1 : Nat} {x2 : Int32}, cw c x1 = w_x1 → TH ρ c h → ρ x0 = 16 → ρ x1 = 13 → Rg (-1) (7) (x2) → (x2.toInt - (-1)).toNat < f → Sat (sX15_readMen_7 F f h x0 x1 x2) (ZI ρ c (0) (1)) := by
  intro f
  induction f with
  | zero => intros; omega
  | succ f ih =>
    intro h x0 x1 x2 o_x1 T r_x0 r_x1 i_x2 hm
    rw [sX15_readMen_7]
    obtain ⟨C_7, hC_7⟩ : ∃ C : Int, C = x2.toInt := ⟨_, rfl⟩
    have hk_7 : ∀ {h : Hp} {x0 : Nat} {x1 : Nat} {x2 : Int32}, cw c x1 = w_x1 → TH ρ c h → ρ x0 = 16 → ρ x1 = 13 → Rg (-1) (7) (x2) → x2.toInt < C_7 → Sat (sX15_readMen_7 F f h x0 x1 x2) (ZI ρ c (0) (1)) := by
      intro h' x0' x1' x2' o_x1' T' r_x0' r_x1' i_x2' hl
      exact ih o_x1' T' r_x0' r_x1' i_x2' (by have := i_x2'.1; have := i_x2'.2; omega)
    have hc_7 : x2.toInt ≤ C_7 := by omega
    refine s_br (fun c_1 => ?_) (fun c_1 => ?_)
    · have _ := c_1
      have i_f_2 : Rg (-1) (-1) (x2) := rg_lt1 c_1 i_x2 (rg_b rfl : Rg (0) (0) (0 : Int32))
      refine s_cI (zX15_reads hF m7 (pmA_s hA rfl) T r_x0 (rg_m (rg_b rfl : Rg (32) (32) ((32 : Int32))) (by decide))) (fun o_2 T_3 i_o_2 => ?_)
      refine s_gd (rg_bool i_o_2) ?_
      exact s_some ⟨(T_3), i_o_2⟩
    · have _ := c_1
      have i_f_4 : Rg (0) (7) (x2) := rg_le2 (nlt_le c_1) (rg_b rfl : Rg (0) (0) (0 : Int32)) i_x2
      exact zX15_readMen_13 hF m7 @hk_7 (pmA_s hA rfl) (pmO_s hO_x1 rfl) F o_x1 T r_x0 r_x1 i_f_4 (rg_m (rg_b rfl : Rg (0) (0) ((0 : Int32))) (by decide)) hc_7 (show ((8 - ((0 : Int32)).toInt) - 0).toNat < F from (by have := (i_f_4 : Rg (0) (7) (x2)).1; have := (i_f_4 : Rg (0) (7) (x2)).2; have : ((0 : Int32)).toInt = 0 := rfl; have := nlt_i c_1; have : (0 : Int32).toInt = 0 := rfl; clear o_x1; omega))
set_option maxRecDepth 20000 in
theorem zX15_readMen {ρ : Nat → Nat} {c : Cm} {F : Nat} {w_x1 : Nat} (hF : 700000 ≤ F) (m7 : c.2.1 7 = true) (hA : pmA c [(16, 19)]) (hO_x1 : pmO c w_x1 [(62, 999)]) {h : Hp} {x0 : Nat} {x1 : Nat} (o_x1 : cw c x1 = w_x1) (T : TH ρ c h) (r_x0 : ρ x0 = 16) (r_x1 : ρ x1 = 13) : Sat (sX15_readMen F h x0 x1) (ZI ρ c (0) (1)) := by
  unfold sX15_readMen 
  refine s_q (fun v_1 e_1 => ?_)
  have i_v_1 : Rg (2) (7) (v_1) := by rw [e_1]; exact (rg_sub (thI T r_x0 (k := 16) (i := 12) rfl : Rg (3) (8) ((hI h x0 12))) (rg_b rfl : Rg (1) (1) ((1 : Int32))) (by decide) : Rg (2) (7) ((hI h x0 12) - (1 : Int32)))
  have m_2 : Rg (-1) (7) (v_1) := (rg_m i_v_1 (by decide))
  exact zX15_readMen_7 hF m7 (pmA_s hA rfl) (pmO_s hO_x1 rfl) F o_x1 T r_x0 r_x1 (rg_m i_v_1 (by decide)) (by have := m_2.1; have := m_2.2; omega)
set_option maxRecDepth 20000 in
theorem zX15_readSquare {ρ : Nat → Nat} {c : Cm} {F : Nat} (hF : 700000 ≤ F) (m7 : c.2.1 7 = true) (hA : pmA c [(16, 19), (16, 20)]) {h : Hp} {x0 : Nat} {x1 : Int32} (T : TH ρ c h) (r_x0 : ρ x0 = 16) (i_x1 : Rg (-1) (63) (x1)) : Sat (sX15_readSquare h x0 x1) (ZQ (ZI ρ c (0) (1)) (fun o => o.1.toInt = 0 ∨ ((hI h x0 19).toInt) < (hI o.2 x0 19).toInt)) := by
  unfold sX15_readSquare sX15_readSquare_28 sX15_readSquare_68
  refine s_dP0 (zX15_look hF m7 T r_x0) (fun o_1 eb_o_1 e_o_1 i_o_1 p_o_1 => ?_)
  have T_1 := th_eq e_o_1 T
  refine s_q (fun v_2 e_2 => ?_)
  have i_v_2 : Rg (-225) (30) (v_2) := by rw [e_2]; exact (rg_sub i_o_1 (rg_b rfl : Rg (97) (97) ((97 : Int32))) (by decide) : Rg (-225) (30) (o_1.1 - (97 : Int32)))
  refine s_val (show sX15_look o_1.2 x0 = some o_1 from by rw [e_o_1]; exact eb_o_1) ?_
  refine s_br (fun c_3 => ?_) (fun c_3 => ?_)
  · have _ := c_3
    have i_f_4 : Rg (-1) (-1) (o_1.1) := rg_eq c_3 (rg_b rfl : Rg (-1) (-1) ((- 1 : Int32)))
    exact s_some ⟨⟨(T_1), (rg_m (rg_b rfl : Rg (0) (0) ((0 : Int32))) (by decide))⟩, (show ((0 : Int32)).toInt = 0 ∨ ((hI h x0 19).toInt) < (hI o_1.2 x0 19).toInt from (by have : ((0 : Int32)).toInt = 0 := rfl; have hq_ := ((thI T r_x0 (k := 16) (i := 19) rfl : Rg (0) (1200) ((hI h x0 19))) : Rg (0) (1200) ((hI h x0 19))); have := hq_.1; have := hq_.2; have hq_ := ((thI T_1 r_x0 (k := 16) (i := 19) rfl : Rg (0) (1200) ((hI o_1.2 x0 19))) : Rg (0) (1200) ((hI o_1.2 x0 19))); have := hq_.1; have := hq_.2; have : (hI o_1.2 x0 19).toInt = (hI h x0 19).toInt := congrArg Int32.toInt (he_e e_o_1); have : (o_1.1).toInt = -1 ∨ (0 ≤ ((hI h x0 19)).toInt ∧ ((hI h x0 19)).toInt ≤ 1199) := p1_or p_o_1; have := (i_f_4 : Rg (-1) (-1) (o_1.1)).1; have := (i_f_4 : Rg (-1) (-1) (o_1.1)).2; have := eq_i c_3; have : ((- 1 : Int32)).toInt = -1 := rfl; omega))⟩
  · have _ := c_3
    have p_f_5 := p_o_1 c_3
    refine s_br (fun c_6 => ?_) (fun c_6 => ?_)
    · have _ := c_6
      have i_f_7 : Rg (-225) (-1) (v_2) := rg_lt1 c_6 i_v_2 (rg_b rfl : Rg (0) (0) (0 : Int32))
      have i_f_8 : Rg (-128) (96) (o_1.1) := rg_bks ((by rw [← e_2]; exact i_f_7) : Rg (-225) (-1) (o_1.1 - (97 : Int32))) i_o_1 (rg_b rfl : Rg (97) (97) ((97 : Int32))) (by decide)
      exact s_some ⟨⟨(T_1), (rg_m (rg_b rfl : Rg (0) (0) ((0 : Int32))) (by decide))⟩, (show ((0 : Int32)).toInt = 0 ∨ ((hI h x0 19).toInt) < (hI o_1.2 x0 19).toInt from (by have : ((0 : Int32)).toInt = 0 := rfl; have := (p_f_5 : Rg (0) (1199) ((hI h x0 19))).1; have := (p_f_5 : Rg (0) (1199) ((hI h x0 19))).2; have hq_ := (((rg_he e_o_1 p_f_5) : Rg (0) (1199) ((hI o_1.2 x0 19))) : Rg (0) (1199) ((hI o_1.2 x0 19))); have := hq_.1; have := hq_.2; have : (hI o_1.2 x0 19).toInt = (hI h x0 19).toInt := congrArg Int32.toInt (he_e e_o_1); omega))⟩
    · have _ := c_6
      have i_f_9 : Rg (0) (30) (v_2) := rg_le2 (nlt_le c_6) (rg_b rfl : Rg (0) (0) (0 : Int32)) i_v_2
      have i_f_10 : Rg (97) (127) (o_1.1) := rg_bks ((by rw [← e_2]; exact i_f_9) : Rg (0) (30) (o_1.1 - (97 : Int32))) i_o_1 (rg_b rfl : Rg (97) (97) ((97 : Int32))) (by decide)
      refine s_br (fun c_11 => ?_) (fun c_11 => ?_)
      · have _ := c_11
        have i_f_12 : Rg (0) (7) (v_2) := rg_lt1 c_11 i_f_9 (thI T_1 r_x0 (k := 16) (i := 11) rfl : Rg (3) (8) ((hI o_1.2 x0 11)))
        have i_f_13 : Rg (97) (104) (o_1.1) := rg_bks ((by rw [← e_2]; exact i_f_12) : Rg (0) (7) (o_1.1 - (97 : Int32))) i_f_10 (rg_b rfl : Rg (97) (97) ((97 : Int32))) (by decide)
        refine s_hq (th_wI T_1 r_x0 (k := 16) (lo := (0)) (hi := (1200)) rfl ((rg_m (rg_add ((rg_he e_o_1 p_f_5) : Rg (0) (1199) ((hI o_1.2 x0 19))) (rg_b rfl : Rg (1) (1) ((1 : Int32))) (by decide) : Rg (1) (1200) (((hI o_1.2 x0 19) + (1 : Int32)))) (by decide)) : Rg (0) (1200) (((hI o_1.2 x0 19) + (1 : Int32)))) (by decide) (by decide) (pm_a hA rfl)) (fun h_7 T_14 w_15 => ?_)
        refine s_dP0 (zX15_look hF m7 T_14 r_x0) (fun o_8 eb_o_8 e_o_8 i_o_8 p_o_8 => ?_)
        have T_16 := th_eq e_o_8 T_14
        refine s_q (fun v_9 e_17 => ?_)
        have i_v_9 : Rg (-177) (78) (v_9) := by rw [e_17]; exact (rg_sub i_o_8 (rg_b rfl : Rg (49) (49) ((49 : Int32))) (by decide) : Rg (-177) (78) (o_8.1 - (49 : Int32)))
        refine s_val (show sX15_look o_8.2 x0 = some o_8 from by rw [e_o_8]; exact eb_o_8) ?_
        refine s_br (fun c_18 => ?_) (fun c_18 => ?_)
        · have _ := c_18
          have i_f_19 : Rg (-1) (-1) (o_8.1) := rg_eq c_18 (rg_b rfl : Rg (-1) (-1) ((- 1 : Int32)))
          exact s_some ⟨⟨(T_16), (rg_m (rg_b rfl : Rg (0) (0) ((0 : Int32))) (by decide))⟩, (show ((0 : Int32)).toInt = 0 ∨ ((hI h x0 19).toInt) < (hI o_8.2 x0 19).toInt from (by have : ((0 : Int32)).toInt = 0 := rfl; have := (p_f_5 : Rg (0) (1199) ((hI h x0 19))).1; have := (p_f_5 : Rg (0) (1199) ((hI h x0 19))).2; have hq_ := (((rg_he e_o_8 (rg_hs w_15 (rg_add ((rg_he e_o_1 p_f_5) : Rg (0) (1199) ((hI o_1.2 x0 19))) (rg_b rfl : Rg (1) (1) ((1 : Int32))) (by decide) : Rg (1) (1200) (((hI o_1.2 x0 19) + (1 : Int32)))))) : Rg (1) (1200) ((hI o_8.2 x0 19))) : Rg (1) (1200) ((hI o_8.2 x0 19))); have := hq_.1; have := hq_.2; have : (hI o_8.2 x0 19).toInt = (hI h_7 x0 19).toInt := congrArg Int32.toInt (he_e e_o_8); have : (hI h_7 x0 19).toInt = (((hI o_1.2 x0 19) + (1 : Int32)) : Int32).toInt := congrArg Int32.toInt (he_s w_15); have : (((hI o_1.2 x0 19) + (1 : Int32)) : Int32).toInt = ((hI o_1.2 x0 19) : Int32).toInt + ((1 : Int32) : Int32).toInt := ti_add (((rg_he e_o_1 p_f_5) : Rg (0) (1199) ((hI o_1.2 x0 19))) : Rg (0) (1199) ((hI o_1.2 x0 19))) ((rg_b rfl : Rg (1) (1) ((1 : Int32))) : Rg (1) (1) ((1 : Int32))) (by decide); have hq_ := (((rg_he e_o_1 p_f_5) : Rg (0) (1199) ((hI o_1.2 x0 19))) : Rg (0) (1199) ((hI o_1.2 x0 19))); have := hq_.1; have := hq_.2; have : (hI o_1.2 x0 19).toInt = (hI h x0 19).toInt := congrArg Int32.toInt (he_e e_o_1); have : ((1 : Int32)).toInt = 1 := rfl; have : (o_8.1).toInt = -1 ∨ (0 ≤ ((hI h_7 x0 19)).toInt ∧ ((hI h_7 x0 19)).toInt ≤ 1199) := p1_or p_o_8; have := (i_f_19 : Rg (-1) (-1) (o_8.1)).1; have := (i_f_19 : Rg (-1) (-1) (o_8.1)).2; have hq_ := (((rg_hs w_15 (rg_add ((rg_he e_o_1 p_f_5) : Rg (0) (1199) ((hI o_1.2 x0 19))) (rg_b rfl : Rg (1) (1) ((1 : Int32))) (by decide) : Rg (1) (1200) (((hI o_1.2 x0 19) + (1 : Int32))))) : Rg (1) (1200) ((hI h_7 x0 19))) : Rg (1) (1200) ((hI h_7 x0 19))); have := hq_.1; have := hq_.2; have := eq_i c_18; have : ((- 1 : Int32)).toInt = -1 := rfl; omega))⟩
        · have _ := c_18
          have p_f_20 := p_o_8 c_18
          refine s_br (fun c_21 => ?_) (fun c_21 => ?_)
          · have _ := c_21
            have i_f_22 : Rg (-177) (-1) (v_9) := rg_lt1 c_21 i_v_9 (rg_b rfl : Rg (0) (0) (0 : Int32))
            have i_f_23 : Rg (-128) (48) (o_8.1) := rg_bks ((by rw [← e_17]; exact i_f_22) : Rg (-177) (-1) (o_8.1 - (49 : Int32))) i_o_8 (rg_b rfl : Rg (49) (49) ((49 : Int32))) (by decide)
            exact s_some ⟨⟨(T_16), (rg_m (rg_b rfl : Rg (0) (0) ((0 : Int32))) (by decide))⟩, (show ((0 : Int32)).toInt = 0 ∨ ((hI h x0 19).toInt) < (hI o_8.2 x0 19).toInt from (by have : ((0 : Int32)).toInt = 0 := rfl; have := (p_f_5 : Rg (0) (1199) ((hI h x0 19))).1; have := (p_f_5 : Rg (0) (1199) ((hI h x0 19))).2; have hq_ := (((rg_he e_o_8 p_f_20) : Rg (0) (1199) ((hI o_8.2 x0 19))) : Rg (0) (1199) ((hI o_8.2 x0 19))); have := hq_.1; have := hq_.2; have : (hI o_8.2 x0 19).toInt = (hI h_7 x0 19).toInt := congrArg Int32.toInt (he_e e_o_8); have : (hI h_7 x0 19).toInt = (((hI o_1.2 x0 19) + (1 : Int32)) : Int32).toInt := congrArg Int32.toInt (he_s w_15); have : (((hI o_1.2 x0 19) + (1 : Int32)) : Int32).toInt = ((hI o_1.2 x0 19) : Int32).toInt + ((1 : Int32) : Int32).toInt := ti_add (((rg_he e_o_1 p_f_5) : Rg (0) (1199) ((hI o_1.2 x0 19))) : Rg (0) (1199) ((hI o_1.2 x0 19))) ((rg_b rfl : Rg (1) (1) ((1 : Int32))) : Rg (1) (1) ((1 : Int32))) (by decide); have hq_ := (((rg_he e_o_1 p_f_5) : Rg (0) (1199) ((hI o_1.2 x0 19))) : Rg (0) (1199) ((hI o_1.2 x0 19))); have := hq_.1; have := hq_.2; have : (hI o_1.2 x0 19).toInt = (hI h x0 19).toInt := congrArg Int32.toInt (he_e e_o_1); have : ((1 : Int32)).toInt = 1 := rfl; have := (p_f_20 : Rg (0) (1199) ((hI h_7 x0 19))).1; have := (p_f_20 : Rg (0) (1199) ((hI h_7 x0 19))).2; omega))⟩
          · have _ := c_21
            have i_f_24 : Rg (0) (78) (v_9) := rg_le2 (nlt_le c_21) (rg_b rfl : Rg (0) (0) (0 : Int32)) i_v_9
            have i_f_25 : Rg (49) (127) (o_8.1) := rg_bks ((by rw [← e_17]; exact i_f_24) : Rg (0) (78) (o_8.1 - (49 : Int32))) i_o_8 (rg_b rfl : Rg (49) (49) ((49 : Int32))) (by decide)
            refine s_br (fun c_26 => ?_) (fun c_26 => ?_)
            · have _ := c_26
              have i_f_27 : Rg (0) (7) (v_9) := rg_lt1 c_26 i_f_24 (thI T_16 r_x0 (k := 16) (i := 12) rfl : Rg (3) (8) ((hI o_8.2 x0 12)))
              have i_f_28 : Rg (49) (56) (o_8.1) := rg_bks ((by rw [← e_17]; exact i_f_27) : Rg (0) (7) (o_8.1 - (49 : Int32))) i_f_25 (rg_b rfl : Rg (49) (49) ((49 : Int32))) (by decide)
              refine s_hq (th_wI T_16 r_x0 (k := 16) (lo := (0)) (hi := (63)) rfl ((rg_add (rg_mul i_f_27 (thI T_16 r_x0 (k := 16) (i := 11) rfl : Rg (3) (8) ((hI o_8.2 x0 11))) (by decide) : Rg (0) (56) ((v_9 * (hI o_8.2 x0 11)))) i_f_12 (by decide) : Rg (0) (63) (((v_9 * (hI o_8.2 x0 11)) + v_2))) : Rg (0) (63) (((v_9 * (hI o_8.2 x0 11)) + v_2))) (by decide) (by decide) (pm_a hA rfl)) (fun h_14 T_29 w_30 => ?_)
              refine s_br (fun c_31 => ?_) (fun c_31 => ?_)
              · have _ := c_31
                have i_f_32 : Rg (-1) (62) (x1) := rg_lt1 c_31 i_x1 ((rg_hs w_30 (rg_add (rg_mul i_f_27 (thI T_16 r_x0 (k := 16) (i := 11) rfl : Rg (3) (8) ((hI o_8.2 x0 11))) (by decide) : Rg (0) (56) ((v_9 * (hI o_8.2 x0 11)))) i_f_12 (by decide) : Rg (0) (63) (((v_9 * (hI o_8.2 x0 11)) + v_2)))) : Rg (0) (63) ((hI h_14 x0 20)))
                refine s_hq (th_wI T_29 r_x0 (k := 16) (lo := (0)) (hi := (1200)) rfl ((rg_m (rg_add ((rg_hw w_30 (fun q => absurd q.2 (by decide)) (rg_he e_o_8 p_f_20)) : Rg (0) (1199) ((hI h_14 x0 19))) (rg_b rfl : Rg (1) (1) ((1 : Int32))) (by decide) : Rg (1) (1200) (((hI h_14 x0 19) + (1 : Int32)))) (by decide)) : Rg (0) (1200) (((hI h_14 x0 19) + (1 : Int32)))) (by decide) (by decide) (pm_a hA rfl)) (fun h_16 T_33 w_34 => ?_)
                exact s_some ⟨⟨(T_33), (rg_m (rg_b rfl : Rg (1) (1) ((1 : Int32))) (by decide))⟩, (show ((1 : Int32)).toInt = 0 ∨ ((hI h x0 19).toInt) < (hI h_16 x0 19).toInt from (by have : ((1 : Int32)).toInt = 1 := rfl; have := (p_f_5 : Rg (0) (1199) ((hI h x0 19))).1; have := (p_f_5 : Rg (0) (1199) ((hI h x0 19))).2; have hq_ := (((rg_hs w_34 (rg_add ((rg_hw w_30 (fun q => absurd q.2 (by decide)) (rg_he e_o_8 p_f_20)) : Rg (0) (1199) ((hI h_14 x0 19))) (rg_b rfl : Rg (1) (1) ((1 : Int32))) (by decide) : Rg (1) (1200) (((hI h_14 x0 19) + (1 : Int32))))) : Rg (1) (1200) ((hI h_16 x0 19))) : Rg (1) (1200) ((hI h_16 x0 19))); have := hq_.1; have := hq_.2; have : (hI h_16 x0 19).toInt = (((hI h_14 x0 19) + (1 : Int32)) : Int32).toInt := congrArg Int32.toInt (he_s w_34); have : (((hI h_14 x0 19) + (1 : Int32)) : Int32).toInt = ((hI h_14 x0 19) : Int32).toInt + ((1 : Int32) : Int32).toInt := ti_add (((rg_hw w_30 (fun q => absurd q.2 (by decide)) (rg_he e_o_8 p_f_20)) : Rg (0) (1199) ((hI h_14 x0 19))) : Rg (0) (1199) ((hI h_14 x0 19))) ((rg_b rfl : Rg (1) (1) ((1 : Int32))) : Rg (1) (1) ((1 : Int32))) (by decide); have hq_ := (((rg_hw w_30 (fun q => absurd q.2 (by decide)) (rg_he e_o_8 p_f_20)) : Rg (0) (1199) ((hI h_14 x0 19))) : Rg (0) (1199) ((hI h_14 x0 19))); have := hq_.1; have := hq_.2; have : (hI h_14 x0 19).toInt = (hI o_8.2 x0 19).toInt := congrArg Int32.toInt (he_w w_30 (fun q => absurd q.2 (by decide))); have : (hI o_8.2 x0 19).toInt = (hI h_7 x0 19).toInt := congrArg Int32.toInt (he_e e_o_8); have : (hI h_7 x0 19).toInt = (((hI o_1.2 x0 19) + (1 : Int32)) : Int32).toInt := congrArg Int32.toInt (he_s w_15); have : (((hI o_1.2 x0 19) + (1 : Int32)) : Int32).toInt = ((hI o_1.2 x0 19) : Int32).toInt + ((1 : Int32) : Int32).toInt := ti_add (((rg_he e_o_1 p_f_5) : Rg (0) (1199) ((hI o_1.2 x0 19))) : Rg (0) (1199) ((hI o_1.2 x0 19))) ((rg_b rfl : Rg (1) (1) ((1 : Int32))) : Rg (1) (1) ((1 : Int32))) (by decide); have hq_ := (((rg_he e_o_1 p_f_5) : Rg (0) (1199) ((hI o_1.2 x0 19))) : Rg (0) (1199) ((hI o_1.2 x0 19))); have := hq_.1; have := hq_.2; have : (hI o_1.2 x0 19).toInt = (hI h x0 19).toInt := congrArg Int32.toInt (he_e e_o_1); have := (p_f_20 : Rg (0) (1199) ((hI h_7 x0 19))).1; have := (p_f_20 : Rg (0) (1199) ((hI h_7 x0 19))).2; omega))⟩
              · have _ := c_31
                have i_f_35 : Rg (0) (63) (x1) := rg_le2 (nlt_le c_31) ((rg_hs w_30 (rg_add (rg_mul i_f_27 (thI T_16 r_x0 (k := 16) (i := 11) rfl : Rg (3) (8) ((hI o_8.2 x0 11))) (by decide) : Rg (0) (56) ((v_9 * (hI o_8.2 x0 11)))) i_f_12 (by decide) : Rg (0) (63) (((v_9 * (hI o_8.2 x0 11)) + v_2)))) : Rg (0) (63) ((hI h_14 x0 20))) i_x1
                have og_38 : Rg (0) (1200) (((hI h_14 x0 19) - (1 : Int32))) := ⟨(by have : (((hI h_14 x0 19) - (1 : Int32)) : Int32).toInt = ((hI h_14 x0 19) : Int32).toInt - ((1 : Int32) : Int32).toInt := ti_sub (((rg_hw w_30 (fun q => absurd q.2 (by decide)) (rg_he e_o_8 p_f_20)) : Rg (0) (1199) ((hI h_14 x0 19))) : Rg (0) (1199) ((hI h_14 x0 19))) ((rg_b rfl : Rg (1) (1) ((1 : Int32))) : Rg (1) (1) ((1 : Int32))) (by decide); have hq_ := (((rg_hw w_30 (fun q => absurd q.2 (by decide)) (rg_he e_o_8 p_f_20)) : Rg (0) (1199) ((hI h_14 x0 19))) : Rg (0) (1199) ((hI h_14 x0 19))); have := hq_.1; have := hq_.2; have : (hI h_14 x0 19).toInt = (hI o_8.2 x0 19).toInt := congrArg Int32.toInt (he_w w_30 (fun q => absurd q.2 (by decide))); have : (hI o_8.2 x0 19).toInt = (hI h_7 x0 19).toInt := congrArg Int32.toInt (he_e e_o_8); have : (hI h_7 x0 19).toInt = (((hI o_1.2 x0 19) + (1 : Int32)) : Int32).toInt := congrArg Int32.toInt (he_s w_15); have : (((hI o_1.2 x0 19) + (1 : Int32)) : Int32).toInt = ((hI o_1.2 x0 19) : Int32).toInt + ((1 : Int32) : Int32).toInt := ti_add (((rg_he e_o_1 p_f_5) : Rg (0) (1199) ((hI o_1.2 x0 19))) : Rg (0) (1199) ((hI o_1.2 x0 19))) ((rg_b rfl : Rg (1) (1) ((1 : Int32))) : Rg (1) (1) ((1 : Int32))) (by decide); have hq_ := (((rg_he e_o_1 p_f_5) : Rg (0) (1199) ((hI o_1.2 x0 19))) : Rg (0) (1199) ((hI o_1.2 x0 19))); have := hq_.1; have := hq_.2; have : (hI o_1.2 x0 19).toInt = (hI h x0 19).toInt := congrArg Int32.toInt (he_e e_o_1); have : ((1 : Int32)).toInt = 1 := rfl; have := (p_f_5 : Rg (0) (1199) ((hI h x0 19))).1; have := (p_f_5 : Rg (0) (1199) ((hI h x0 19))).2; have := (p_f_20 : Rg (0) (1199) ((hI h_7 x0 19))).1; have := (p_f_20 : Rg (0) (1199) ((hI h_7 x0 19))).2; omega), (by have : (((hI h_14 x0 19) - (1 : Int32)) : Int32).toInt = ((hI h_14 x0 19) : Int32).toInt - ((1 : Int32) : Int32).toInt := ti_sub (((rg_hw w_30 (fun q => absurd q.2 (by decide)) (rg_he e_o_8 p_f_20)) : Rg (0) (1199) ((hI h_14 x0 19))) : Rg (0) (1199) ((hI h_14 x0 19))) ((rg_b rfl : Rg (1) (1) ((1 : Int32))) : Rg (1) (1) ((1 : Int32))) (by decide); have hq_ := (((rg_hw w_30 (fun q => absurd q.2 (by decide)) (rg_he e_o_8 p_f_20)) : Rg (0) (1199) ((hI h_14 x0 19))) : Rg (0) (1199) ((hI h_14 x0 19))); have := hq_.1; have := hq_.2; have : (hI h_14 x0 19).toInt = (hI o_8.2 x0 19).toInt := congrArg Int32.toInt (he_w w_30 (fun q => absurd q.2 (by decide))); have : (hI o_8.2 x0 19).toInt = (hI h_7 x0 19).toInt := congrArg Int32.toInt (he_e e_o_8); have : (hI h_7 x0 19).toInt = (((hI o_1.2 x0 19) + (1 : Int32)) : Int32).toInt := congrArg Int32.toInt (he_s w_15); have : (((hI o_1.2 x0 19) + (1 : Int32)) : Int32).toInt = ((hI o_1.2 x0 19) : Int32).toInt + ((1 : Int32) : Int32).toInt := ti_add (((rg_he e_o_1 p_f_5) : Rg (0) (1199) ((hI o_1.2 x0 19))) : Rg (0) (1199) ((hI o_1.2 x0 19))) ((rg_b rfl : Rg (1) (1) ((1 : Int32))) : Rg (1) (1) ((1 : Int32))) (by decide); have hq_ := (((rg_he e_o_1 p_f_5) : Rg (0) (1199) ((hI o_1.2 x0 19))) : Rg (0) (1199) ((hI o_1.2 x0 19))); have := hq_.1; have := hq_.2; have : (hI o_1.2 x0 19).toInt = (hI h x0 19).toInt := congrArg Int32.toInt (he_e e_o_1); have : ((1 : Int32)).toInt = 1 := rfl; have := (p_f_5 : Rg (0) (1199) ((hI h x0 19))).1; have := (p_f_5 : Rg (0) (1199) ((hI h x0 19))).2; have := (p_f_20 : Rg (0) (1199) ((hI h_7 x0 19))).1; have := (p_f_20 : Rg (0) (1199) ((hI h_7 x0 19))).2; omega)⟩
                refine s_hq (th_wI T_29 r_x0 (k := 16) (lo := (0)) (hi := (1200)) rfl (og_38 : Rg (0) (1200) (((hI h_14 x0 19) - (1 : Int32)))) (by decide) (by decide) (pm_a hA rfl)) (fun h_17 T_36 w_37 => ?_)
                exact s_some ⟨⟨(T_36), (rg_m (rg_b rfl : Rg (0) (0) ((0 : Int32))) (by decide))⟩, (show ((0 : Int32)).toInt = 0 ∨ ((hI h x0 19).toInt) < (hI h_17 x0 19).toInt from (by have : ((0 : Int32)).toInt = 0 := rfl; have := (p_f_5 : Rg (0) (1199) ((hI h x0 19))).1; have := (p_f_5 : Rg (0) (1199) ((hI h x0 19))).2; have hq_ := ((thI T_36 r_x0 (k := 16) (i := 19) rfl : Rg (0) (1200) ((hI h_17 x0 19))) : Rg (0) (1200) ((hI h_17 x0 19))); have := hq_.1; have := hq_.2; have : (hI h_17 x0 19).toInt = (((hI h_14 x0 19) - (1 : Int32)) : Int32).toInt := congrArg Int32.toInt (he_s w_37); have : (((hI h_14 x0 19) - (1 : Int32)) : Int32).toInt = ((hI h_14 x0 19) : Int32).toInt - ((1 : Int32) : Int32).toInt := ti_sub (((rg_hw w_30 (fun q => absurd q.2 (by decide)) (rg_he e_o_8 p_f_20)) : Rg (0) (1199) ((hI h_14 x0 19))) : Rg (0) (1199) ((hI h_14 x0 19))) ((rg_b rfl : Rg (1) (1) ((1 : Int32))) : Rg (1) (1) ((1 : Int32))) (by decide); have hq_ := (((rg_hw w_30 (fun q => absurd q.2 (by decide)) (rg_he e_o_8 p_f_20)) : Rg (0) (1199) ((hI h_14 x0 19))) : Rg (0) (1199) ((hI h_14 x0 19))); have := hq_.1; have := hq_.2; have : (hI h_14 x0 19).toInt = (hI o_8.2 x0 19).toInt := congrArg Int32.toInt (he_w w_30 (fun q => absurd q.2 (by decide))); have : (hI o_8.2 x0 19).toInt = (hI h_7 x0 19).toInt := congrArg Int32.toInt (he_e e_o_8); have : (hI h_7 x0 19).toInt = (((hI o_1.2 x0 19) + (1 : Int32)) : Int32).toInt := congrArg Int32.toInt (he_s w_15); have : (((hI o_1.2 x0 19) + (1 : Int32)) : Int32).toInt = ((hI o_1.2 x0 19) : Int32).toInt + ((1 : Int32) : Int32).toInt := ti_add (((rg_he e_o_1 p_f_5) : Rg (0) (1199) ((hI o_1.2 x0 19))) : Rg (0) (1199) ((hI o_1.2 x0 19))) ((rg_b rfl : Rg (1) (1) ((1 : Int32))) : Rg (1) (1) ((1 : Int32))) (by decide); have hq_ := (((rg_he e_o_1 p_f_5) : Rg (0) (1199) ((hI o_1.2 x0 19))) : Rg (0) (1199) ((hI o_1.2 x0 19))); have := hq_.1; have := hq_.2; have : (hI o_1.2 x0 19).toInt = (hI h x0 19).toInt := congrArg Int32.toInt (he_e e_o_1); have : ((1 : Int32)).toInt = 1 := rfl; have := (p_f_20 : Rg (0) (1199) ((hI h_7 x0 19))).1; have := (p_f_20 : Rg (0) (1199) ((hI h_7 x0 19))).2; omega))⟩
            · have _ := c_26
              have i_f_39 : Rg (3) (78) (v_9) := rg_le2 (nlt_le c_26) (thI T_16 r_x0 (k := 16) (i := 12) rfl : Rg (3) (8) ((hI o_8.2 x0 12))) i_f_24
              have i_f_40 : Rg (52) (127) (o_8.1) := rg_bks ((by rw [← e_17]; exact i_f_39) : Rg (3) (78) (o_8.1 - (49 : Int32))) i_f_25 (rg_b rfl : Rg (49) (49) ((49 : Int32))) (by decide)
              exact s_some ⟨⟨(T_16), (rg_m (rg_b rfl : Rg (0) (0) ((0 : Int32))) (by decide))⟩, (show ((0 : Int32)).toInt = 0 ∨ ((hI h x0 19).toInt) < (hI o_8.2 x0 19).toInt from (by have : ((0 : Int32)).toInt = 0 := rfl; have := (p_f_5 : Rg (0) (1199) ((hI h x0 19))).1; have := (p_f_5 : Rg (0) (1199) ((hI h x0 19))).2; have hq_ := (((rg_he e_o_8 p_f_20) : Rg (0) (1199) ((hI o_8.2 x0 19))) : Rg (0) (1199) ((hI o_8.2 x0 19))); have := hq_.1; have := hq_.2; have : (hI o_8.2 x0 19).toInt = (hI h_7 x0 19).toInt := congrArg Int32.toInt (he_e e_o_8); have : (hI h_7 x0 19).toInt = (((hI o_1.2 x0 19) + (1 : Int32)) : Int32).toInt := congrArg Int32.toInt (he_s w_15); have : (((hI o_1.2 x0 19) + (1 : Int32)) : Int32).toInt = ((hI o_1.2 x0 19) : Int32).toInt + ((1 : Int32) : Int32).toInt := ti_add (((rg_he e_o_1 p_f_5) : Rg (0) (1199) ((hI o_1.2 x0 19))) : Rg (0) (1199) ((hI o_1.2 x0 19))) ((rg_b rfl : Rg (1) (1) ((1 : Int32))) : Rg (1) (1) ((1 : Int32))) (by decide); have hq_ := (((rg_he e_o_1 p_f_5) : Rg (0) (1199) ((hI o_1.2 x0 19))) : Rg (0) (1199) ((hI o_1.2 x0 19))); have := hq_.1; have := hq_.2; have : (hI o_1.2 x0 19).toInt = (hI h x0 19).toInt := congrArg Int32.toInt (he_e e_o_1); have : ((1 : Int32)).toInt = 1 := rfl; have := (p_f_20 : Rg (0) (1199) ((hI h_7 x0 19))).1; have := (p_f_20 : Rg (0) (1199) ((hI h_7 x0 19))).2; omega))⟩
      · have _ := c_11
        have i_f_41 : Rg (3) (30) (v_2) := rg_le2 (nlt_le c_11) (thI T_1 r_x0 (k := 16) (i := 11) rfl : Rg (3) (8) ((hI o_1.2 x0 11))) i_f_9
        have i_f_42 : Rg (100) (127) (o_1.1) := rg_bks ((by rw [← e_2]; exact i_f_41) : Rg (3) (30) (o_1.1 - (97 : Int32))) i_f_10 (rg_b rfl : Rg (97) (97) ((97 : Int32))) (by decide)
        exact s_some ⟨⟨(T_1), (rg_m (rg_b rfl : Rg (0) (0) ((0 : Int32))) (by decide))⟩, (show ((0 : Int32)).toInt = 0 ∨ ((hI h x0 19).toInt) < (hI o_1.2 x0 19).toInt from (by have : ((0 : Int32)).toInt = 0 := rfl; have := (p_f_5 : Rg (0) (1199) ((hI h x0 19))).1; have := (p_f_5 : Rg (0) (1199) ((hI h x0 19))).2; have hq_ := (((rg_he e_o_1 p_f_5) : Rg (0) (1199) ((hI o_1.2 x0 19))) : Rg (0) (1199) ((hI o_1.2 x0 19))); have := hq_.1; have := hq_.2; have : (hI o_1.2 x0 19).toInt = (hI h x0 19).toInt := congrArg Int32.toInt (he_e e_o_1); omega))⟩
set_option maxRecDepth 20000 in
theorem zX15_readPass_32 {ρ : Nat → Nat} {c : Cm} {F : Nat} {w_x1 : Nat} (hF : 700000 ≤ F) (m7 : c.2.1 7 = true) {k_18 : Hp → Nat → Nat → Int32 → Option (Int32 × Hp)} {C_18 : Int} (hk_18 : ∀ {h : Hp} {x0 : Nat} {x1 : Nat} {x2 : Int32}, cw c x1 = w_x1 → TH ρ c h → ρ x0 = 16 → ρ x1 = 13 → Rg (0) (1200) (x2) → (0 ≤ x2.toInt ∧ x2.toInt ≤ (hI h x0 19).toInt) → (0 ≤ (1201 - (hI h x0 19).toInt) ∧ (1201 - (hI h x0 19).toInt) < C_18) → Sat (k_18 h x0 x1 x2) (ZI ρ c (0) (1))) (hA : pmA c [(16, 19), (16, 20)]) (hO_x1 : pmO c w_x1 [(63, 999)]) {h : Hp} {x0 : Nat} {x1 : Nat} {x2 : Int32} (o_x1 : cw c x1 = w_x1) (T : TH ρ c h) (r_x0 : ρ x0 = 16) (r_x1 : ρ x1 = 13) (i_x2 : Rg (0) (1200) (x2)) (hc_18 : (0 ≤ (1201 - (hI h x0 19).toInt) ∧ (1201 - (hI h x0 19).toInt) ≤ C_18)) (rn : (0 ≤ x2.toInt ∧ x2.toInt ≤ (hI h x0 19).toInt)) : Sat (sX15_readPass_32 F k_18 h x0 x1 x2) (ZI ρ c (0) (1)) := by
  unfold sX15_readPass_32 sX15_readPass_58
  refine s_cIq (zX15_readSquare hF m7 (pmA_s hA rfl) T r_x0 (rg_m (rg_b rfl : Rg (-1) (-1) ((- 1 : Int32))) (by decide))) (fun o_1 T_1 i_o_1 p_o_1 => ?_)
  have pq_o_1_0 : o_1.1.toInt = 0 ∨ ((hI h x0 19).toInt) < (hI o_1.2 x0 19).toInt := p_o_1
  refine s_br (fun c_2 => ?_) (fun c_2 => ?_)
  · have _ := c_2
    have i_f_3 : Rg (0) (0) (o_1.1) := rg_eq c_2 (rg_b rfl : Rg (0) (0) (0 : Int32))
    exact s_some ⟨(T_1), (rg_m (rg_b rfl : Rg (0) (0) ((0 : Int32))) (by decide))⟩
  · have _ := c_2
    have i_f_4 : Rg (1) (1) (o_1.1) := rg_nlo c_2 i_o_1 (rg_b rfl : Rg (0) (0) (0 : Int32))
    refine s_br (fun c_5 => ?_) (fun c_5 => ?_)
    · have _ := c_5
      have i_f_6 : Rg (64) (1200) (x2) := rg_le2 c_5 (rg_b rfl : Rg (64) (64) ((64 : Int32))) i_x2
      refine s_q (fun v_1q1 e_7 => ?_)
      have i_v_1q1 : Rg (65) (1201) (v_1q1) := by rw [e_7]; exact (rg_add i_f_6 (rg_b rfl : Rg (1) (1) ((1 : Int32))) (by decide) : Rg (65) (1201) (x2 + (1 : Int32)))
      have og_8 : Rg (0) (1200) (v_1q1) := ⟨(by have := (i_v_1q1 : Rg (65) (1201) (v_1q1)).1; have := (i_v_1q1 : Rg (65) (1201) (v_1q1)).2; have : (v_1q1).toInt = (x2 + (1 : Int32) : Int32).toInt := congrArg Int32.toInt e_7; have : (x2 + (1 : Int32) : Int32).toInt = (x2 : Int32).toInt + ((1 : Int32) : Int32).toInt := ti_add (i_f_6 : Rg (64) (1200) (x2)) ((rg_b rfl : Rg (1) (1) ((1 : Int32))) : Rg (1) (1) ((1 : Int32))) (by decide); have := (i_f_6 : Rg (64) (1200) (x2)).1; have := (i_f_6 : Rg (64) (1200) (x2)).2; have : ((1 : Int32)).toInt = 1 := rfl; have hq_ := ((thI T r_x0 (k := 16) (i := 19) rfl : Rg (0) (1200) ((hI h x0 19))) : Rg (0) (1200) ((hI h x0 19))); have := hq_.1; have := hq_.2; have hq_ := ((thI T_1 r_x0 (k := 16) (i := 19) rfl : Rg (0) (1200) ((hI o_1.2 x0 19))) : Rg (0) (1200) ((hI o_1.2 x0 19))); have := hq_.1; have := hq_.2; have := (i_f_4 : Rg (1) (1) (o_1.1)).1; have := (i_f_4 : Rg (1) (1) (o_1.1)).2; have := ne_i c_2; have : (0 : Int32).toInt = 0 := rfl; have := le_i c_5; have : ((64 : Int32)).toInt = 64 := rfl; clear o_x1; omega), (by have := (i_v_1q1 : Rg (65) (1201) (v_1q1)).1; have := (i_v_1q1 : Rg (65) (1201) (v_1q1)).2; have : (v_1q1).toInt = (x2 + (1 : Int32) : Int32).toInt := congrArg Int32.toInt e_7; have : (x2 + (1 : Int32) : Int32).toInt = (x2 : Int32).toInt + ((1 : Int32) : Int32).toInt := ti_add (i_f_6 : Rg (64) (1200) (x2)) ((rg_b rfl : Rg (1) (1) ((1 : Int32))) : Rg (1) (1) ((1 : Int32))) (by decide); have := (i_f_6 : Rg (64) (1200) (x2)).1; have := (i_f_6 : Rg (64) (1200) (x2)).2; have : ((1 : Int32)).toInt = 1 := rfl; have hq_ := ((thI T r_x0 (k := 16) (i := 19) rfl : Rg (0) (1200) ((hI h x0 19))) : Rg (0) (1200) ((hI h x0 19))); have := hq_.1; have := hq_.2; have hq_ := ((thI T_1 r_x0 (k := 16) (i := 19) rfl : Rg (0) (1200) ((hI o_1.2 x0 19))) : Rg (0) (1200) ((hI o_1.2 x0 19))); have := hq_.1; have := hq_.2; have := (i_f_4 : Rg (1) (1) (o_1.1)).1; have := (i_f_4 : Rg (1) (1) (o_1.1)).2; have := ne_i c_2; have : (0 : Int32).toInt = 0 := rfl; have := le_i c_5; have : ((64 : Int32)).toInt = 64 := rfl; clear o_x1; omega)⟩
      exact hk_18 o_x1 T_1 r_x0 r_x1 og_8 (show 0 ≤ (v_1q1).toInt ∧ (v_1q1).toInt ≤ (hI o_1.2 x0 19).toInt from (by have := (i_v_1q1 : Rg (65) (1201) (v_1q1)).1; have := (i_v_1q1 : Rg (65) (1201) (v_1q1)).2; have : (v_1q1).toInt = (x2 + (1 : Int32) : Int32).toInt := congrArg Int32.toInt e_7; have : (x2 + (1 : Int32) : Int32).toInt = (x2 : Int32).toInt + ((1 : Int32) : Int32).toInt := ti_add (i_f_6 : Rg (64) (1200) (x2)) ((rg_b rfl : Rg (1) (1) ((1 : Int32))) : Rg (1) (1) ((1 : Int32))) (by decide); have := (i_f_6 : Rg (64) (1200) (x2)).1; have := (i_f_6 : Rg (64) (1200) (x2)).2; have : ((1 : Int32)).toInt = 1 := rfl; have hq_ := ((thI T_1 r_x0 (k := 16) (i := 19) rfl : Rg (0) (1200) ((hI o_1.2 x0 19))) : Rg (0) (1200) ((hI o_1.2 x0 19))); have := hq_.1; have := hq_.2; have hq_ := ((thI T r_x0 (k := 16) (i := 19) rfl : Rg (0) (1200) ((hI h x0 19))) : Rg (0) (1200) ((hI h x0 19))); have := hq_.1; have := hq_.2; have := (i_f_4 : Rg (1) (1) (o_1.1)).1; have := (i_f_4 : Rg (1) (1) (o_1.1)).2; have := ne_i c_2; have : (0 : Int32).toInt = 0 := rfl; have := le_i c_5; have : ((64 : Int32)).toInt = 64 := rfl; clear o_x1; omega)) (show (0 ≤ (1201 - (hI o_1.2 x0 19).toInt) ∧ (1201 - (hI o_1.2 x0 19).toInt) < C_18) from (by have hq_ := ((thI T_1 r_x0 (k := 16) (i := 19) rfl : Rg (0) (1200) ((hI o_1.2 x0 19))) : Rg (0) (1200) ((hI o_1.2 x0 19))); have := hq_.1; have := hq_.2; have hq_ := ((thI T r_x0 (k := 16) (i := 19) rfl : Rg (0) (1200) ((hI h x0 19))) : Rg (0) (1200) ((hI h x0 19))); have := hq_.1; have := hq_.2; have := (i_f_4 : Rg (1) (1) (o_1.1)).1; have := (i_f_4 : Rg (1) (1) (o_1.1)).2; have := (i_f_6 : Rg (64) (1200) (x2)).1; have := (i_f_6 : Rg (64) (1200) (x2)).2; have := ne_i c_2; have : (0 : Int32).toInt = 0 := rfl; have := le_i c_5; have : ((64 : Int32)).toInt = 64 := rfl; clear o_x1; omega))
    · have _ := c_5
      have i_f_9 : Rg (0) (63) (x2) := rg_lt1 (nle_lt c_5) i_x2 (rg_b rfl : Rg (64) (64) ((64 : Int32)))
      obtain ⟨r_4, e_r_4, q_r_4⟩ := thR T_1 r_x1 (k := 13) (i := 4) (k2 := 63) rfl (by decide)
      refine s_ref e_r_4 ?_
      refine s_gd (by rw [thN T_1 q_r_4 (k := 63) (n := 64) rfl (by decide)]; exact rg_inB (i_f_9 : Rg (0) (63) (x2)) (by decide)) ?_
      refine s_hq (th_wI T_1 q_r_4 (k := 63) (lo := (0)) (hi := (63)) rfl ((thI T_1 r_x0 (k := 16) (i := 20) rfl : Rg (0) (63) ((hI o_1.2 x0 20))) : Rg (0) (63) ((hI o_1.2 x0 20))) (by decide) (by decide) (pm_o hO_x1 (th_ih T_1 r_x1 (k := 13) rfl e_r_4 o_x1) rfl)) (fun h_6 T_10 w_11 => ?_)
      refine s_q (fun v_1q2 e_12 => ?_)
      have i_v_1q2 : Rg (1) (64) (v_1q2) := by rw [e_12]; exact (rg_add i_f_9 (rg_b rfl : Rg (1) (1) ((1 : Int32))) (by decide) : Rg (1) (64) (x2 + (1 : Int32)))
      exact hk_18 o_x1 T_10 r_x0 r_x1 (rg_m i_v_1q2 (by decide)) (show 0 ≤ (v_1q2).toInt ∧ (v_1q2).toInt ≤ (hI h_6 x0 19).toInt from (by have := (i_v_1q2 : Rg (1) (64) (v_1q2)).1; have := (i_v_1q2 : Rg (1) (64) (v_1q2)).2; have : (v_1q2).toInt = (x2 + (1 : Int32) : Int32).toInt := congrArg Int32.toInt e_12; have : (x2 + (1 : Int32) : Int32).toInt = (x2 : Int32).toInt + ((1 : Int32) : Int32).toInt := ti_add (i_f_9 : Rg (0) (63) (x2)) ((rg_b rfl : Rg (1) (1) ((1 : Int32))) : Rg (1) (1) ((1 : Int32))) (by decide); have := (i_f_9 : Rg (0) (63) (x2)).1; have := (i_f_9 : Rg (0) (63) (x2)).2; have : ((1 : Int32)).toInt = 1 := rfl; have hq_ := ((thI T_10 r_x0 (k := 16) (i := 19) rfl : Rg (0) (1200) ((hI h_6 x0 19))) : Rg (0) (1200) ((hI h_6 x0 19))); have := hq_.1; have := hq_.2; have : (hI h_6 x0 19).toInt = (hI o_1.2 x0 19).toInt := congrArg Int32.toInt (he_w w_11 (ne_r r_x0 q_r_4 (by decide))); have hq_ := ((thI T r_x0 (k := 16) (i := 19) rfl : Rg (0) (1200) ((hI h x0 19))) : Rg (0) (1200) ((hI h x0 19))); have := hq_.1; have := hq_.2; have hq_ := ((thI T_1 r_x0 (k := 16) (i := 19) rfl : Rg (0) (1200) ((hI o_1.2 x0 19))) : Rg (0) (1200) ((hI o_1.2 x0 19))); have := hq_.1; have := hq_.2; have := (i_f_4 : Rg (1) (1) (o_1.1)).1; have := (i_f_4 : Rg (1) (1) (o_1.1)).2; have := ne_i c_2; have : (0 : Int32).toInt = 0 := rfl; have := nle_i c_5; have : ((64 : Int32)).toInt = 64 := rfl; clear o_x1; omega)) (show (0 ≤ (1201 - (hI h_6 x0 19).toInt) ∧ (1201 - (hI h_6 x0 19).toInt) < C_18) from (by have hq_ := ((thI T_10 r_x0 (k := 16) (i := 19) rfl : Rg (0) (1200) ((hI h_6 x0 19))) : Rg (0) (1200) ((hI h_6 x0 19))); have := hq_.1; have := hq_.2; have : (hI h_6 x0 19).toInt = (hI o_1.2 x0 19).toInt := congrArg Int32.toInt (he_w w_11 (ne_r r_x0 q_r_4 (by decide))); have hq_ := ((thI T r_x0 (k := 16) (i := 19) rfl : Rg (0) (1200) ((hI h x0 19))) : Rg (0) (1200) ((hI h x0 19))); have := hq_.1; have := hq_.2; have hq_ := ((thI T_1 r_x0 (k := 16) (i := 19) rfl : Rg (0) (1200) ((hI o_1.2 x0 19))) : Rg (0) (1200) ((hI o_1.2 x0 19))); have := hq_.1; have := hq_.2; have := (i_f_4 : Rg (1) (1) (o_1.1)).1; have := (i_f_4 : Rg (1) (1) (o_1.1)).2; have := (i_f_9 : Rg (0) (63) (x2)).1; have := (i_f_9 : Rg (0) (63) (x2)).2; have := ne_i c_2; have : (0 : Int32).toInt = 0 := rfl; have := nle_i c_5; have : ((64 : Int32)).toInt = 64 := rfl; clear o_x1; omega))
set_option maxRecDepth 20000 in
theorem zX15_readPass_18 {ρ : Nat → Nat} {c : Cm} {F : Nat} {w_x1 : Nat} (hF : 700000 ≤ F) (m7 : c.2.1 7 = true) (hA : pmA c [(16, 19), (16, 20)]) (hO_x1 : pmO c w_x1 [(63, 999), (13, 3)]) : ∀ (f : Nat) {h : Hp} {x0 : Nat} {x1 : Nat} {x2 : Int32}, cw c x1 = w_x1 → TH ρ c h → ρ x0 = 16 → ρ x1 = 13 → Rg (0) (1200) (x2) → (0 ≤ x2.toInt ∧ x2.toInt ≤ (hI h x0 19).toInt) → ((1201 - (hI h x0 19).toInt) - (0)).toNat < f → Sat (sX15_readPass_18 F f h x0 x1 x2) (ZI ρ c (0) (1)) := by
  intro f
  induction f with
  | zero => intros; omega
  | succ f ih =>
    intro h x0 x1 x2 o_x1 T r_x0 r_x1 i_x2 rn hm
    rw [sX15_readPass_18]
    unfold sX15_readPass_77
    obtain ⟨C_18, hC_18⟩ : ∃ C : Int, C = (1201 - (hI h x0 19).toInt) := ⟨_, rfl⟩
    have hk_18 : ∀ {h : Hp} {x0 : Nat} {x1 : Nat} {x2 : Int32}, cw c x1 = w_x1 → TH ρ c h → ρ x0 = 16 → ρ x1 = 13 → Rg (0) (1200) (x2) → (0 ≤ x2.toInt ∧ x2.toInt ≤ (hI h x0 19).toInt) → (0 ≤ (1201 - (hI h x0 19).toInt) ∧ (1201 - (hI h x0 19).toInt) < C_18) → Sat (sX15_readPass_18 F f h x0 x1 x2) (ZI ρ c (0) (1)) := by
      intro h' x0' x1' x2' o_x1' T' r_x0' r_x1' i_x2' rn' hl
      exact ih o_x1' T' r_x0' r_x1' i_x2' rn' (by omega)
    have hc_18 : (0 ≤ (1201 - (hI h x0 19).toInt) ∧ (1201 - (hI h x0 19).toInt) ≤ C_18) := (by have hq_ := ((thI T r_x0 (k := 16) (i := 19) rfl : Rg (0) (1200) ((hI h x0 19))) : Rg (0) (1200) ((hI h x0 19))); have := hq_.1; have := hq_.2; have := (i_x2 : Rg (0) (1200) (x2)).1; have := (i_x2 : Rg (0) (1200) (x2)).2; clear o_x1; omega)
    refine s_br (fun c_1 => ?_) (fun c_1 => ?_)
    · have _ := c_1
      have i_f_2 : Rg (0) (1) (x2) := rg_lt1 c_1 i_x2 (rg_b rfl : Rg (2) (2) ((2 : Int32)))
      exact zX15_readPass_32 hF m7 @hk_18 (pmA_s hA rfl) (pmO_s hO_x1 rfl) o_x1 T r_x0 r_x1 (rg_m i_f_2 (by decide)) (show (0 ≤ (1201 - (hI h x0 19).toInt) ∧ (1201 - (hI h x0 19).toInt) ≤ C_18) from (by have hq_ := ((thI T r_x0 (k := 16) (i := 19) rfl : Rg (0) (1200) ((hI h x0 19))) : Rg (0) (1200) ((hI h x0 19))); have := hq_.1; have := hq_.2; have := (i_f_2 : Rg (0) (1) (x2)).1; have := (i_f_2 : Rg (0) (1) (x2)).2; have := lt_i c_1; have : ((2 : Int32)).toInt = 2 := rfl; clear o_x1; omega)) rn
    · have _ := c_1
      have i_f_3 : Rg (2) (1200) (x2) := rg_le2 (nlt_le c_1) (rg_b rfl : Rg (2) (2) ((2 : Int32))) i_x2
      refine s_dP0 (zX15_look hF m7 T r_x0) (fun o_2 eb_o_2 e_o_2 i_o_2 p_o_2 => ?_)
      have T_4 := th_eq e_o_2 T
      refine s_br (fun c_5 => ?_) (fun c_5 => ?_)
      · have _ := c_5
        have i_f_6 : Rg (32) (32) (o_2.1) := rg_eq c_5 (rg_b rfl : Rg (32) (32) ((32 : Int32)))
        have p_f_7 := p_o_2 (fun q => rc_eq q i_f_6 (rg_b rfl : Rg (-1) (-1) (-1 : Int32)) (by decide))
        refine s_br (fun c_8 => ?_) (fun c_8 => ?_)
        · have _ := c_8
          have i_f_9 : Rg (64) (1200) (x2) := rg_le2 c_8 (rg_b rfl : Rg (64) (64) ((64 : Int32))) i_f_3
          refine s_hq (th_wI T_4 r_x1 (k := 13) (lo := (0)) (hi := (64)) rfl ((rg_m (rg_b rfl : Rg (64) (64) ((64 : Int32))) (by decide)) : Rg (0) (64) ((64 : Int32))) (by decide) (by decide) (pm_o hO_x1 o_x1 rfl)) (fun h_1q1 T_10 w_11 => ?_)
          refine s_cI (zX15_reads hF m7 (pmA_s hA rfl) T_10 r_x0 (rg_m (rg_b rfl : Rg (32) (32) ((32 : Int32))) (by decide))) (fun o_2q1 T_12 i_o_2q1 => ?_)
          refine s_gd (rg_bool i_o_2q1) ?_
          exact s_some ⟨(T_12), i_o_2q1⟩
        · have _ := c_8
          have i_f_13 : Rg (2) (63) (x2) := rg_lt1 (nle_lt c_8) i_f_3 (rg_b rfl : Rg (64) (64) ((64 : Int32)))
          refine s_hq (th_wI T_4 r_x1 (k := 13) (lo := (0)) (hi := (64)) rfl ((rg_m i_f_13 (by decide)) : Rg (0) (64) (x2)) (by decide) (by decide) (pm_o hO_x1 o_x1 rfl)) (fun h_1q2 T_14 w_15 => ?_)
          refine s_cI (zX15_reads hF m7 (pmA_s hA rfl) T_14 r_x0 (rg_m (rg_b rfl : Rg (32) (32) ((32 : Int32))) (by decide))) (fun o_2q2 T_16 i_o_2q2 => ?_)
          refine s_gd (rg_bool i_o_2q2) ?_
          exact s_some ⟨(T_16), i_o_2q2⟩
      · have _ := c_5
        exact zX15_readPass_32 hF m7 @hk_18 (pmA_s hA rfl) (pmO_s hO_x1 rfl) o_x1 T_4 r_x0 r_x1 (rg_m i_f_3 (by decide)) (show (0 ≤ (1201 - (hI o_2.2 x0 19).toInt) ∧ (1201 - (hI o_2.2 x0 19).toInt) ≤ C_18) from (by have hq_ := ((thI T_4 r_x0 (k := 16) (i := 19) rfl : Rg (0) (1200) ((hI o_2.2 x0 19))) : Rg (0) (1200) ((hI o_2.2 x0 19))); have := hq_.1; have := hq_.2; have : (hI o_2.2 x0 19).toInt = (hI h x0 19).toInt := congrArg Int32.toInt (he_e e_o_2); have hq_ := ((thI T r_x0 (k := 16) (i := 19) rfl : Rg (0) (1200) ((hI h x0 19))) : Rg (0) (1200) ((hI h x0 19))); have := hq_.1; have := hq_.2; have := (i_f_3 : Rg (2) (1200) (x2)).1; have := (i_f_3 : Rg (2) (1200) (x2)).2; have : (o_2.1).toInt = -1 ∨ (0 ≤ ((hI h x0 19)).toInt ∧ ((hI h x0 19)).toInt ≤ 1199) := p1_or p_o_2; have := (i_o_2 : Rg (-128) (127) (o_2.1)).1; have := (i_o_2 : Rg (-128) (127) (o_2.1)).2; have := nlt_i c_1; have : ((2 : Int32)).toInt = 2 := rfl; have := ne_i c_5; have : ((32 : Int32)).toInt = 32 := rfl; clear o_x1; omega)) (show 0 ≤ (x2).toInt ∧ (x2).toInt ≤ (hI o_2.2 x0 19).toInt from (by have := (i_f_3 : Rg (2) (1200) (x2)).1; have := (i_f_3 : Rg (2) (1200) (x2)).2; have hq_ := ((thI T_4 r_x0 (k := 16) (i := 19) rfl : Rg (0) (1200) ((hI o_2.2 x0 19))) : Rg (0) (1200) ((hI o_2.2 x0 19))); have := hq_.1; have := hq_.2; have : (hI o_2.2 x0 19).toInt = (hI h x0 19).toInt := congrArg Int32.toInt (he_e e_o_2); have hq_ := ((thI T r_x0 (k := 16) (i := 19) rfl : Rg (0) (1200) ((hI h x0 19))) : Rg (0) (1200) ((hI h x0 19))); have := hq_.1; have := hq_.2; have : (o_2.1).toInt = -1 ∨ (0 ≤ ((hI h x0 19)).toInt ∧ ((hI h x0 19)).toInt ≤ 1199) := p1_or p_o_2; have := (i_o_2 : Rg (-128) (127) (o_2.1)).1; have := (i_o_2 : Rg (-128) (127) (o_2.1)).2; have := nlt_i c_1; have : ((2 : Int32)).toInt = 2 := rfl; have := ne_i c_5; have : ((32 : Int32)).toInt = 32 := rfl; clear o_x1; omega))
set_option maxRecDepth 20000 in
theorem zX15_readPass {ρ : Nat → Nat} {c : Cm} {F : Nat} {w_x1 : Nat} (hF : 700000 ≤ F) (m7 : c.2.1 7 = true) (hA : pmA c [(16, 19), (16, 20)]) (hO_x1 : pmO c w_x1 [(63, 999), (13, 3)]) {h : Hp} {x0 : Nat} {x1 : Nat} (o_x1 : cw c x1 = w_x1) (T : TH ρ c h) (r_x0 : ρ x0 = 16) (r_x1 : ρ x1 = 13) : Sat (sX15_readPass F h x0 x1) (ZI ρ c (0) (1)) := by
  unfold sX15_readPass 
  refine s_cI (zX15_reads hF m7 (pmA_s hA rfl) T r_x0 (rg_m (rg_b rfl : Rg (45) (45) ((45 : Int32))) (by decide))) (fun o_1 T_1 i_o_1 => ?_)
  refine s_br (fun c_2 => ?_) (fun c_2 => ?_)
  · have _ := c_2
    have i_f_3 : Rg (0) (0) (o_1.1) := rg_eq c_2 (rg_b rfl : Rg (0) (0) (0 : Int32))
    exact zX15_readPass_18 hF m7 (pmA_s hA rfl) (pmO_s hO_x1 rfl) F o_x1 T_1 r_x0 r_x1 (rg_m (rg_b rfl : Rg (0) (0) ((0 : Int32))) (by decide)) (show 0 ≤ ((0 : Int32)).toInt ∧ ((0 : Int32)).toInt ≤ (hI o_1.2 x0 19).toInt from (by have : ((0 : Int32)).toInt = 0 := rfl; have hq_ := ((thI T_1 r_x0 (k := 16) (i := 19) rfl : Rg (0) (1200) ((hI o_1.2 x0 19))) : Rg (0) (1200) ((hI o_1.2 x0 19))); have := hq_.1; have := hq_.2; clear o_x1; omega)) (show ((1201 - (hI o_1.2 x0 19).toInt) - 0).toNat < F from (by have : ((0 : Int32)).toInt = 0 := rfl; have hq_ := ((thI T_1 r_x0 (k := 16) (i := 19) rfl : Rg (0) (1200) ((hI o_1.2 x0 19))) : Rg (0) (1200) ((hI o_1.2 x0 19))); have := hq_.1; have := hq_.2; clear o_x1; omega))
  · have _ := c_2
    have i_f_4 : Rg (1) (1) (o_1.1) := rg_nlo c_2 i_o_1 (rg_b rfl : Rg (0) (0) (0 : Int32))
    refine s_cI (zX15_reads hF m7 (pmA_s hA rfl) T_1 r_x0 (rg_m (rg_b rfl : Rg (32) (32) ((32 : Int32))) (by decide))) (fun o_3 T_5 i_o_3 => ?_)
    refine s_gd (rg_bool i_o_3) ?_
    exact s_some ⟨(T_5), i_o_3⟩
set_option maxRecDepth 20000 in
theorem zX15_readRest_124 {ρ : Nat → Nat} {c : Cm} {F : Nat} {w_x1 : Nat} (hF : 700000 ≤ F) (hA : pmA c [(16, 19)]) (hO_x1 : pmO c w_x1 [(13, 7)]) {h : Hp} {x0 : Nat} {x1 : Nat} {x2 : Int32} {x3 : Int32} (o_x1 : cw c x1 = w_x1) (T : TH ρ c h) (r_x0 : ρ x0 = 16) (r_x1 : ρ x1 = 13) (i_x2 : Rg (0) (1200) (x2)) (i_x3 : Rg (0) (999) (x3)) : Sat (sX15_readRest_124 F h x0 x1 x2 x3) (ZI ρ c (0) (1)) := by
  unfold sX15_readRest_124 sX15_readRest_159
  refine s_hq (th_wI T r_x1 (k := 13) (lo := (0)) (hi := (999)) rfl (i_x3 : Rg (0) (999) (x3)) (by decide) (by decide) (pm_o hO_x1 o_x1 rfl)) (fun h_1 T_1 w_2 => ?_)
  refine s_br (fun c_3 => ?_) (fun c_3 => ?_)
  · have _ := c_3
    have i_f_4 : Rg (0) (200) (x3) := rg_le1 c_3 i_x3 (rg_b rfl : Rg (200) (200) ((200 : Int32)))
    refine s_br (fun c_5 => ?_) (fun c_5 => ?_)
    · have _ := c_5
      refine s_gd (rg_bool (rg_m (rg_b rfl : Rg (1) (1) ((1 : Int32))) (by decide))) ?_
      exact s_some ⟨(T_1), (rg_m (rg_b rfl : Rg (1) (1) ((1 : Int32))) (by decide))⟩
    · have _ := c_5
      refine s_gd (rg_bool (rg_m (rg_b rfl : Rg (0) (0) ((0 : Int32))) (by decide))) ?_
      exact s_some ⟨(T_1), (rg_m (rg_b rfl : Rg (0) (0) ((0 : Int32))) (by decide))⟩
  · have _ := c_3
    have i_f_6 : Rg (201) (999) (x3) := rg_lt2 (nle_lt c_3) (rg_b rfl : Rg (200) (200) ((200 : Int32))) i_x3
    refine s_hq (th_wI T_1 r_x0 (k := 16) (lo := (0)) (hi := (1200)) rfl (i_x2 : Rg (0) (1200) (x2)) (by decide) (by decide) (pm_a hA rfl)) (fun h_4 T_7 w_8 => ?_)
    exact s_some ⟨(T_7), (rg_m (rg_b rfl : Rg (0) (0) ((0 : Int32))) (by decide))⟩
set_option maxRecDepth 20000 in
theorem zX15_readRest_79 {ρ : Nat → Nat} {c : Cm} {F : Nat} {w_x1 : Nat} (hF : 700000 ≤ F) (m7 : c.2.1 7 = true) (hA : pmA c [(16, 19)]) (hO_x1 : pmO c w_x1 [(13, 7)]) : ∀ (f : Nat) {h : Hp} {x0 : Nat} {x1 : Nat} {x2 : Int32} {x3 : Int32} {x4 : Int32}, cw c x1 = w_x1 → TH ρ c h → ρ x0 = 16 → ρ x1 = 13 → Rg (0) (1200) (x2) → Rg (0) (999) (x3) → Rg (0) (3) (x4) → ((x4.toInt = 0 ∧ x3.toInt = 0) ∨ (x4.toInt = 1 ∧ x3.toInt ≤ 9) ∨ (x4.toInt = 2 ∧ x3.toInt ≤ 99) ∨ x4.toInt = 3) → (3 - x4.toInt).toNat < f → Sat (sX15_readRest_79 F f h x0 x1 x2 x3 x4) (ZI ρ c (0) (1)) := by
  intro f
  induction f with
  | zero => intros; omega
  | succ f ih =>
    intro h x0 x1 x2 x3 x4 o_x1 T r_x0 r_x1 i_x2 i_x3 i_x4 rc hm
    rw [sX15_readRest_79]
    obtain ⟨C_79, hC_79⟩ : ∃ C : Int, C = x4.toInt := ⟨_, rfl⟩
    have hk_79 : ∀ {h : Hp} {x0 : Nat} {x1 : Nat} {x2 : Int32} {x3 : Int32} {x4 : Int32}, cw c x1 = w_x1 → TH ρ c h → ρ x0 = 16 → ρ x1 = 13 → Rg (0) (1200) (x2) → Rg (0) (999) (x3) → Rg (0) (3) (x4) → ((x4.toInt = 0 ∧ x3.toInt = 0) ∨ (x4.toInt = 1 ∧ x3.toInt ≤ 9) ∨ (x4.toInt = 2 ∧ x3.toInt ≤ 99) ∨ x4.toInt = 3) → C_79 < x4.toInt → Sat (sX15_readRest_79 F f h x0 x1 x2 x3 x4) (ZI ρ c (0) (1)) := by
      intro h' x0' x1' x2' x3' x4' o_x1' T' r_x0' r_x1' i_x2' i_x3' i_x4' rc' hl
      exact ih o_x1' T' r_x0' r_x1' i_x2' i_x3' i_x4' rc' (by have := i_x4'.1; have := i_x4'.2; omega)
    have hc_79 : C_79 ≤ x4.toInt := by omega
    refine s_br (fun c_1 => ?_) (fun c_1 => ?_)
    · have _ := c_1
      have i_f_2 : Rg (3) (3) (x4) := rg_le2 c_1 (rg_b rfl : Rg (3) (3) ((3 : Int32))) i_x4
      exact zX15_readRest_124 hF (pmA_s hA rfl) (pmO_s hO_x1 rfl) o_x1 T r_x0 r_x1 i_x2 i_x3
    · have _ := c_1
      have i_f_3 : Rg (0) (2) (x4) := rg_lt1 (nle_lt c_1) i_x4 (rg_b rfl : Rg (3) (3) ((3 : Int32)))
      refine s_dP0 (zX15_look hF m7 T r_x0) (fun o_2 eb_o_2 e_o_2 i_o_2 p_o_2 => ?_)
      have T_4 := th_eq e_o_2 T
      refine s_dP0q (zX15_isDigit hF T_4 i_o_2) (fun o_3 eb_o_3 e_o_3 i_o_3 p_o_3 pp_o_3 => ?_)
      have pq_o_3_0 : o_3.1.toInt = 0 → ((o_2.1).toInt < 48 ∨ 57 < (o_2.1).toInt) := pp_o_3
      have T_5 := th_eq e_o_3 T_4
      refine s_br (fun c_6 => ?_) (fun c_6 => ?_)
      · have _ := c_6
        have i_f_7 : Rg (0) (0) (o_3.1) := rg_eq c_6 (rg_b rfl : Rg (0) (0) (0 : Int32))
        exact zX15_readRest_124 hF (pmA_s hA rfl) (pmO_s hO_x1 rfl) o_x1 T_5 r_x0 r_x1 i_x2 i_x3
      · have _ := c_6
        have i_f_8 : Rg (1) (1) (o_3.1) := rg_nlo c_6 i_o_3 (rg_b rfl : Rg (0) (0) (0 : Int32))
        have p_f_9 := p_o_3 c_6
        have p_f_10 := p_o_2 (fun q => rc_eq q p_f_9 (rg_b rfl : Rg (-1) (-1) (-1 : Int32)) (by decide))
        refine s_val (show sX15_look o_3.2 x0 = some o_2 from by rw [e_o_3]; rw [e_o_2]; exact eb_o_2) ?_
        refine s_q (fun v_6 e_11 => ?_)
        have i_v_6 : Rg (0) (9999) (v_6) := by rw [e_11]; exact (rg_sub (rg_add (rg_mulc' (rg_b rfl : Rg (10) (10) ((10 : Int32))) i_x3 (by decide) : Rg (0) (9990) (((10 : Int32) * x3))) p_f_9 (by decide) : Rg (48) (10047) ((((10 : Int32) * x3) + o_2.1))) (rg_b rfl : Rg (48) (48) ((48 : Int32))) (by decide) : Rg (0) (9999) ((((10 : Int32) * x3) + o_2.1) - (48 : Int32)))
        refine s_hq (th_wI T_4 r_x0 (k := 16) (lo := (0)) (hi := (1200)) rfl ((rg_m (rg_add ((rg_he e_o_2 p_f_10) : Rg (0) (1199) ((hI o_2.2 x0 19))) (rg_b rfl : Rg (1) (1) ((1 : Int32))) (by decide) : Rg (1) (1200) (((hI o_2.2 x0 19) + (1 : Int32)))) (by decide)) : Rg (0) (1200) (((hI o_2.2 x0 19) + (1 : Int32)))) (by decide) (by decide) (pm_a hA rfl)) (fun h_7 T_12 w_13 => ?_)
        refine s_q (fun v_8 e_14 => ?_)
        have i_v_8 : Rg (1) (3) (v_8) := by rw [e_14]; exact (rg_add i_f_3 (rg_b rfl : Rg (1) (1) ((1 : Int32))) (by decide) : Rg (1) (3) (x4 + (1 : Int32)))
        have og_15 : Rg (0) (999) (v_6) := ⟨(by have := (i_v_6 : Rg (0) (9999) (v_6)).1; have := (i_v_6 : Rg (0) (9999) (v_6)).2; have : (v_6).toInt = ((((10 : Int32) * x3) + o_2.1) - (48 : Int32) : Int32).toInt := congrArg Int32.toInt e_11; have : ((((10 : Int32) * x3) + o_2.1) - (48 : Int32) : Int32).toInt = ((((10 : Int32) * x3) + o_2.1) : Int32).toInt - ((48 : Int32) : Int32).toInt := ti_sub ((rg_add (rg_mulc' (rg_b rfl : Rg (10) (10) ((10 : Int32))) i_x3 (by decide) : Rg (0) (9990) (((10 : Int32) * x3))) p_f_9 (by decide) : Rg (48) (10047) ((((10 : Int32) * x3) + o_2.1))) : Rg (48) (10047) ((((10 : Int32) * x3) + o_2.1))) ((rg_b rfl : Rg (48) (48) ((48 : Int32))) : Rg (48) (48) ((48 : Int32))) (by decide); have : ((((10 : Int32) * x3) + o_2.1) : Int32).toInt = (((10 : Int32) * x3) : Int32).toInt + (o_2.1 : Int32).toInt := ti_add ((rg_mulc' (rg_b rfl : Rg (10) (10) ((10 : Int32))) i_x3 (by decide) : Rg (0) (9990) (((10 : Int32) * x3))) : Rg (0) (9990) (((10 : Int32) * x3))) (p_f_9 : Rg (48) (57) (o_2.1)) (by decide); have : (((10 : Int32) * x3) : Int32).toInt = 10 * (x3 : Int32).toInt := ti_mulc' (i_x3 : Rg (0) (999) (x3)) (rg_b rfl : Rg 10 10 ((10 : Int32))) (by decide); have := (i_x3 : Rg (0) (999) (x3)).1; have := (i_x3 : Rg (0) (999) (x3)).2; have := (p_f_9 : Rg (48) (57) (o_2.1)).1; have := (p_f_9 : Rg (48) (57) (o_2.1)).2; have : ((48 : Int32)).toInt = 48 := rfl; have := (i_f_8 : Rg (1) (1) (o_3.1)).1; have := (i_f_8 : Rg (1) (1) (o_3.1)).2; have := (i_f_3 : Rg (0) (2) (x4)).1; have := (i_f_3 : Rg (0) (2) (x4)).2; have := nle_i c_1; have : ((3 : Int32)).toInt = 3 := rfl; have := ne_i c_6; have : (0 : Int32).toInt = 0 := rfl; clear o_x1; omega), (by have := (i_v_6 : Rg (0) (9999) (v_6)).1; have := (i_v_6 : Rg (0) (9999) (v_6)).2; have : (v_6).toInt = ((((10 : Int32) * x3) + o_2.1) - (48 : Int32) : Int32).toInt := congrArg Int32.toInt e_11; have : ((((10 : Int32) * x3) + o_2.1) - (48 : Int32) : Int32).toInt = ((((10 : Int32) * x3) + o_2.1) : Int32).toInt - ((48 : Int32) : Int32).toInt := ti_sub ((rg_add (rg_mulc' (rg_b rfl : Rg (10) (10) ((10 : Int32))) i_x3 (by decide) : Rg (0) (9990) (((10 : Int32) * x3))) p_f_9 (by decide) : Rg (48) (10047) ((((10 : Int32) * x3) + o_2.1))) : Rg (48) (10047) ((((10 : Int32) * x3) + o_2.1))) ((rg_b rfl : Rg (48) (48) ((48 : Int32))) : Rg (48) (48) ((48 : Int32))) (by decide); have : ((((10 : Int32) * x3) + o_2.1) : Int32).toInt = (((10 : Int32) * x3) : Int32).toInt + (o_2.1 : Int32).toInt := ti_add ((rg_mulc' (rg_b rfl : Rg (10) (10) ((10 : Int32))) i_x3 (by decide) : Rg (0) (9990) (((10 : Int32) * x3))) : Rg (0) (9990) (((10 : Int32) * x3))) (p_f_9 : Rg (48) (57) (o_2.1)) (by decide); have : (((10 : Int32) * x3) : Int32).toInt = 10 * (x3 : Int32).toInt := ti_mulc' (i_x3 : Rg (0) (999) (x3)) (rg_b rfl : Rg 10 10 ((10 : Int32))) (by decide); have := (i_x3 : Rg (0) (999) (x3)).1; have := (i_x3 : Rg (0) (999) (x3)).2; have := (p_f_9 : Rg (48) (57) (o_2.1)).1; have := (p_f_9 : Rg (48) (57) (o_2.1)).2; have : ((48 : Int32)).toInt = 48 := rfl; have := (i_f_8 : Rg (1) (1) (o_3.1)).1; have := (i_f_8 : Rg (1) (1) (o_3.1)).2; have := (i_f_3 : Rg (0) (2) (x4)).1; have := (i_f_3 : Rg (0) (2) (x4)).2; have := nle_i c_1; have : ((3 : Int32)).toInt = 3 := rfl; have := ne_i c_6; have : (0 : Int32).toInt = 0 := rfl; clear o_x1; omega)⟩
        have m_16 : (v_8).toInt = x4.toInt + 1 := by rw [e_14]; exact rg_inc i_f_3 (by decide)
        exact hk_79 o_x1 T_12 r_x0 r_x1 i_x2 og_15 (rg_m i_v_8 (by decide)) (show ((v_8).toInt = 0 ∧ (v_6).toInt = 0) ∨ ((v_8).toInt = 1 ∧ (v_6).toInt ≤ 9) ∨ ((v_8).toInt = 2 ∧ (v_6).toInt ≤ 99) ∨ (v_8).toInt = 3 from (by have := (og_15 : Rg (0) (999) (v_6)).1; have := (og_15 : Rg (0) (999) (v_6)).2; have : (v_6).toInt = ((((10 : Int32) * x3) + o_2.1) - (48 : Int32) : Int32).toInt := congrArg Int32.toInt e_11; have : ((((10 : Int32) * x3) + o_2.1) - (48 : Int32) : Int32).toInt = ((((10 : Int32) * x3) + o_2.1) : Int32).toInt - ((48 : Int32) : Int32).toInt := ti_sub ((rg_add (rg_mulc' (rg_b rfl : Rg (10) (10) ((10 : Int32))) i_x3 (by decide) : Rg (0) (9990) (((10 : Int32) * x3))) p_f_9 (by decide) : Rg (48) (10047) ((((10 : Int32) * x3) + o_2.1))) : Rg (48) (10047) ((((10 : Int32) * x3) + o_2.1))) ((rg_b rfl : Rg (48) (48) ((48 : Int32))) : Rg (48) (48) ((48 : Int32))) (by decide); have : ((((10 : Int32) * x3) + o_2.1) : Int32).toInt = (((10 : Int32) * x3) : Int32).toInt + (o_2.1 : Int32).toInt := ti_add ((rg_mulc' (rg_b rfl : Rg (10) (10) ((10 : Int32))) i_x3 (by decide) : Rg (0) (9990) (((10 : Int32) * x3))) : Rg (0) (9990) (((10 : Int32) * x3))) (p_f_9 : Rg (48) (57) (o_2.1)) (by decide); have : (((10 : Int32) * x3) : Int32).toInt = 10 * (x3 : Int32).toInt := ti_mulc' (i_x3 : Rg (0) (999) (x3)) (rg_b rfl : Rg 10 10 ((10 : Int32))) (by decide); have := (i_x3 : Rg (0) (999) (x3)).1; have := (i_x3 : Rg (0) (999) (x3)).2; have := (p_f_9 : Rg (48) (57) (o_2.1)).1; have := (p_f_9 : Rg (48) (57) (o_2.1)).2; have : ((48 : Int32)).toInt = 48 := rfl; have := (i_v_8 : Rg (1) (3) (v_8)).1; have := (i_v_8 : Rg (1) (3) (v_8)).2; have : (v_8).toInt = (x4 + (1 : Int32) : Int32).toInt := congrArg Int32.toInt e_14; have : (x4 + (1 : Int32) : Int32).toInt = (x4 : Int32).toInt + ((1 : Int32) : Int32).toInt := ti_add (i_f_3 : Rg (0) (2) (x4)) ((rg_b rfl : Rg (1) (1) ((1 : Int32))) : Rg (1) (1) ((1 : Int32))) (by decide); have := (i_f_3 : Rg (0) (2) (x4)).1; have := (i_f_3 : Rg (0) (2) (x4)).2; have : ((1 : Int32)).toInt = 1 := rfl; have := (i_f_8 : Rg (1) (1) (o_3.1)).1; have := (i_f_8 : Rg (1) (1) (o_3.1)).2; have := nle_i c_1; have : ((3 : Int32)).toInt = 3 := rfl; have := ne_i c_6; have : (0 : Int32).toInt = 0 := rfl; clear o_x1; omega)) (by have := hc_79; omega)
set_option maxRecDepth 20000 in
theorem zX15_readRest_2 {ρ : Nat → Nat} {c : Cm} {F : Nat} {w_x1 : Nat} (hF : 700000 ≤ F) (m7 : c.2.1 7 = true) (hA : pmA c [(16, 19)]) (hO_x1 : pmO c w_x1 [(65, 999), (13, 7)]) : ∀ (f : Nat) {h : Hp} {x0 : Nat} {x1 : Nat} {x2 : Int32}, cw c x1 = w_x1 → TH ρ c h → ρ x0 = 16 → ρ x1 = 13 → Rg (0) (2) (x2) → (2 - x2.toInt).toNat < f → Sat (sX15_readRest_2 F f h x0 x1 x2) (ZI ρ c (0) (1)) := by
  intro f
  induction f with
  | zero => intros; omega
  | succ f ih =>
    intro h x0 x1 x2 o_x1 T r_x0 r_x1 i_x2 hm
    rw [sX15_readRest_2]
    unfold sX15_readRest_67
    obtain ⟨C_2, hC_2⟩ : ∃ C : Int, C = x2.toInt := ⟨_, rfl⟩
    have hk_2 : ∀ {h : Hp} {x0 : Nat} {x1 : Nat} {x2 : Int32}, cw c x1 = w_x1 → TH ρ c h → ρ x0 = 16 → ρ x1 = 13 → Rg (0) (2) (x2) → C_2 < x2.toInt → Sat (sX15_readRest_2 F f h x0 x1 x2) (ZI ρ c (0) (1)) := by
      intro h' x0' x1' x2' o_x1' T' r_x0' r_x1' i_x2' hl
      exact ih o_x1' T' r_x0' r_x1' i_x2' (by have := i_x2'.1; have := i_x2'.2; omega)
    have hc_2 : C_2 ≤ x2.toInt := by omega
    refine s_br (fun c_1 => ?_) (fun c_1 => ?_)
    · have _ := c_1
      have i_f_2 : Rg (2) (2) (x2) := rg_le2 c_1 (rg_b rfl : Rg (2) (2) ((2 : Int32))) i_x2
      refine s_cI (zX15_reads hF m7 (pmA_s hA rfl) T r_x0 (rg_m (rg_b rfl : Rg (32) (32) ((32 : Int32))) (by decide))) (fun o_2 T_3 i_o_2 => ?_)
      refine s_br (fun c_4 => ?_) (fun c_4 => ?_)
      · have _ := c_4
        have i_f_5 : Rg (0) (0) (o_2.1) := rg_eq c_4 (rg_b rfl : Rg (0) (0) (0 : Int32))
        exact s_some ⟨(T_3), (rg_m (rg_b rfl : Rg (0) (0) ((0 : Int32))) (by decide))⟩
      · have _ := c_4
        have i_f_6 : Rg (1) (1) (o_2.1) := rg_nlo c_4 i_o_2 (rg_b rfl : Rg (0) (0) (0 : Int32))
        refine s_dP0 (zX15_look hF m7 T_3 r_x0) (fun o_4 eb_o_4 e_o_4 i_o_4 p_o_4 => ?_)
        have T_7 := th_eq e_o_4 T_3
        refine s_dP0q (zX15_isDigit hF T_7 i_o_4) (fun o_5 eb_o_5 e_o_5 i_o_5 p_o_5 pp_o_5 => ?_)
        have pq_o_5_0 : o_5.1.toInt = 0 → ((o_4.1).toInt < 48 ∨ 57 < (o_4.1).toInt) := pp_o_5
        have T_8 := th_eq e_o_5 T_7
        refine s_br (fun c_9 => ?_) (fun c_9 => ?_)
        · have _ := c_9
          have i_f_10 : Rg (0) (0) (o_5.1) := rg_eq c_9 (rg_b rfl : Rg (0) (0) (0 : Int32))
          exact s_some ⟨(T_8), (rg_m (rg_b rfl : Rg (0) (0) ((0 : Int32))) (by decide))⟩
        · have _ := c_9
          have i_f_11 : Rg (1) (1) (o_5.1) := rg_nlo c_9 i_o_5 (rg_b rfl : Rg (0) (0) (0 : Int32))
          have p_f_12 := p_o_5 c_9
          have p_f_13 := p_o_4 (fun q => rc_eq q p_f_12 (rg_b rfl : Rg (-1) (-1) (-1 : Int32)) (by decide))
          refine s_q (fun v_7 e_14 => ?_)
          have i_v_7 : Rg (0) (1199) (v_7) := by rw [e_14]; exact ((rg_he e_o_5 (rg_he e_o_4 p_f_13)) : Rg (0) (1199) (hI o_5.2 x0 19))
          have m_15 : Rg (0) (3) ((0 : Int32)) := (rg_m (rg_b rfl : Rg (0) (0) ((0 : Int32))) (by decide))
          exact zX15_readRest_79 hF m7 (pmA_s hA rfl) (pmO_s hO_x1 rfl) F o_x1 T_8 r_x0 r_x1 (rg_m i_v_7 (by decide)) (rg_m (rg_b rfl : Rg (0) (0) ((0 : Int32))) (by decide)) (rg_m (rg_b rfl : Rg (0) (0) ((0 : Int32))) (by decide)) (show (((0 : Int32)).toInt = 0 ∧ ((0 : Int32)).toInt = 0) ∨ (((0 : Int32)).toInt = 1 ∧ ((0 : Int32)).toInt ≤ 9) ∨ (((0 : Int32)).toInt = 2 ∧ ((0 : Int32)).toInt ≤ 99) ∨ ((0 : Int32)).toInt = 3 from (by have : ((0 : Int32)).toInt = 0 := rfl; have := (p_f_12 : Rg (48) (57) (o_4.1)).1; have := (p_f_12 : Rg (48) (57) (o_4.1)).2; have := (i_f_11 : Rg (1) (1) (o_5.1)).1; have := (i_f_11 : Rg (1) (1) (o_5.1)).2; have := ne_i c_9; have : (0 : Int32).toInt = 0 := rfl; clear o_x1; omega)) (by have := m_15.1; have := m_15.2; omega)
    · have _ := c_1
      have i_f_16 : Rg (0) (1) (x2) := rg_lt1 (nle_lt c_1) i_x2 (rg_b rfl : Rg (2) (2) ((2 : Int32)))
      refine s_dP0 (zX15_look hF m7 T r_x0) (fun o_8 eb_o_8 e_o_8 i_o_8 p_o_8 => ?_)
      have T_17 := th_eq e_o_8 T
      refine s_dP0q (zX15_isDigit hF T_17 i_o_8) (fun o_9 eb_o_9 e_o_9 i_o_9 p_o_9 pp_o_9 => ?_)
      have pq_o_9_0 : o_9.1.toInt = 0 → ((o_8.1).toInt < 48 ∨ 57 < (o_8.1).toInt) := pp_o_9
      have T_18 := th_eq e_o_9 T_17
      refine s_br (fun c_19 => ?_) (fun c_19 => ?_)
      · have _ := c_19
        have i_f_20 : Rg (0) (0) (o_9.1) := rg_eq c_19 (rg_b rfl : Rg (0) (0) (0 : Int32))
        exact s_some ⟨(T_18), (rg_m (rg_b rfl : Rg (0) (0) ((0 : Int32))) (by decide))⟩
      · have _ := c_19
        have i_f_21 : Rg (1) (1) (o_9.1) := rg_nlo c_19 i_o_9 (rg_b rfl : Rg (0) (0) (0 : Int32))
        have p_f_22 := p_o_9 c_19
        have p_f_23 := p_o_8 (fun q => rc_eq q p_f_22 (rg_b rfl : Rg (-1) (-1) (-1 : Int32)) (by decide))
        obtain ⟨r_11, e_r_11, q_r_11⟩ := thR T_18 r_x1 (k := 13) (i := 6) (k2 := 65) rfl (by decide)
        refine s_ref e_r_11 ?_
        refine s_val (show sX15_look o_9.2 x0 = some o_8 from by rw [e_o_9]; rw [e_o_8]; exact eb_o_8) ?_
        refine s_gd (by rw [thN T_17 q_r_11 (k := 65) (n := 2) rfl (by decide)]; exact rg_inB (i_f_16 : Rg (0) (1) (x2)) (by decide)) ?_
        refine s_hq (th_wI T_17 q_r_11 (k := 65) (lo := (0)) (hi := (9)) rfl ((rg_sub p_f_22 (rg_b rfl : Rg (48) (48) ((48 : Int32))) (by decide) : Rg (0) (9) ((o_8.1 - (48 : Int32)))) : Rg (0) (9) ((o_8.1 - (48 : Int32)))) (by decide) (by decide) (pm_o hO_x1 (th_ih T_18 r_x1 (k := 13) rfl e_r_11 o_x1) rfl)) (fun h_14 T_24 w_25 => ?_)
        refine s_hq (th_wI T_24 r_x0 (k := 16) (lo := (0)) (hi := (1200)) rfl ((rg_m (rg_add ((rg_hw w_25 (ne_r r_x0 q_r_11 (by decide)) (rg_he e_o_8 p_f_23)) : Rg (0) (1199) ((hI h_14 x0 19))) (rg_b rfl : Rg (1) (1) ((1 : Int32))) (by decide) : Rg (1) (1200) (((hI h_14 x0 19) + (1 : Int32)))) (by decide)) : Rg (0) (1200) (((hI h_14 x0 19) + (1 : Int32)))) (by decide) (by decide) (pm_a hA rfl)) (fun h_15 T_26 w_27 => ?_)
        refine s_q (fun v_16 e_28 => ?_)
        have i_v_16 : Rg (1) (2) (v_16) := by rw [e_28]; exact (rg_add i_f_16 (rg_b rfl : Rg (1) (1) ((1 : Int32))) (by decide) : Rg (1) (2) (x2 + (1 : Int32)))
        have m_29 : (v_16).toInt = x2.toInt + 1 := by rw [e_28]; exact rg_inc i_f_16 (by decide)
        exact hk_2 o_x1 T_26 r_x0 r_x1 (rg_m i_v_16 (by decide)) (by have := hc_2; omega)
set_option maxRecDepth 20000 in
theorem zX15_readRest {ρ : Nat → Nat} {c : Cm} {F : Nat} {w_x1 : Nat} (hF : 700000 ≤ F) (m7 : c.2.1 7 = true) (hA : pmA c [(16, 19)]) (hO_x1 : pmO c w_x1 [(65, 999), (13, 7)]) {h : Hp} {x0 : Nat} {x1 : Nat} (o_x1 : cw c x1 = w_x1) (T : TH ρ c h) (r_x0 : ρ x0 = 16) (r_x1 : ρ x1 = 13) : Sat (sX15_readRest F h x0 x1) (ZI ρ c (0) (1)) := by
  unfold sX15_readRest 
  have m_1 : Rg (0) (2) ((0 : Int32)) := (rg_m (rg_b rfl : Rg (0) (0) ((0 : Int32))) (by decide))
  exact zX15_readRest_2 hF m7 (pmA_s hA rfl) (pmO_s hO_x1 rfl) F o_x1 T r_x0 r_x1 (rg_m (rg_b rfl : Rg (0) (0) ((0 : Int32))) (by decide)) (by have := m_1.1; have := m_1.2; omega)
set_option maxRecDepth 20000 in
theorem zX15_readRights_32 {ρ : Nat → Nat} {c : Cm} {F : Nat} {w_x1 : Nat} (hF : 700000 ≤ F) (m7 : c.2.1 7 = true) {k_18 : Hp → Nat → Nat → Int32 → Option (Int32 × Hp)} {C_18 : Int} (hk_18 : ∀ {h : Hp} {x0 : Nat} {x1 : Nat} {x2 : Int32}, cw c x1 = w_x1 → TH ρ c h → ρ x0 = 16 → ρ x1 = 13 → Rg (-1) (63) (x2) → (0 ≤ (1201 - (hI h x0 19).toInt) ∧ (1201 - (hI h x0 19).toInt) < C_18) → Sat (k_18 h x0 x1 x2) (ZI ρ c (0) (1))) (hA : pmA c [(16, 19), (16, 20)]) (hO_x1 : pmO c w_x1 [(13, 2)]) {h : Hp} {x0 : Nat} {x1 : Nat} {x2 : Int32} (o_x1 : cw c x1 = w_x1) (T : TH ρ c h) (r_x0 : ρ x0 = 16) (r_x1 : ρ x1 = 13) (i_x2 : Rg (-1) (63) (x2)) (hc_18 : (0 ≤ (1201 - (hI h x0 19).toInt) ∧ (1201 - (hI h x0 19).toInt) ≤ C_18)) : Sat (sX15_readRights_32 F k_18 h x0 x1 x2) (ZI ρ c (0) (1)) := by
  unfold sX15_readRights_32 
  refine s_cIq (zX15_readSquare hF m7 (pmA_s hA rfl) T r_x0 i_x2) (fun o_1 T_1 i_o_1 p_o_1 => ?_)
  have pq_o_1_0 : o_1.1.toInt = 0 ∨ ((hI h x0 19).toInt) < (hI o_1.2 x0 19).toInt := p_o_1
  refine s_br (fun c_2 => ?_) (fun c_2 => ?_)
  · have _ := c_2
    have i_f_3 : Rg (0) (0) (o_1.1) := rg_eq c_2 (rg_b rfl : Rg (0) (0) (0 : Int32))
    exact s_some ⟨(T_1), (rg_m (rg_b rfl : Rg (0) (0) ((0 : Int32))) (by decide))⟩
  · have _ := c_2
    have i_f_4 : Rg (1) (1) (o_1.1) := rg_nlo c_2 i_o_1 (rg_b rfl : Rg (0) (0) (0 : Int32))
    refine s_q (fun v_3 e_5 => ?_)
    have i_v_3 : Rg (0) (63) (v_3) := by rw [e_5]; exact (thI T_1 r_x0 (k := 16) (i := 20) rfl : Rg (0) (63) (hI o_1.2 x0 20))
    refine s_hq (th_wJ T_1 r_x1 (k := 13) (by decide) (pm_o hO_x1 o_x1 rfl)) (fun h_4 T_6 w_7 => ?_)
    exact hk_18 o_x1 T_6 r_x0 r_x1 (rg_m i_v_3 (by decide)) (show (0 ≤ (1201 - (hI h_4 x0 19).toInt) ∧ (1201 - (hI h_4 x0 19).toInt) < C_18) from (by have hq_ := ((thI T_6 r_x0 (k := 16) (i := 19) rfl : Rg (0) (1200) ((hI h_4 x0 19))) : Rg (0) (1200) ((hI h_4 x0 19))); have := hq_.1; have := hq_.2; have : (hI h_4 x0 19).toInt = (hI o_1.2 x0 19).toInt := congrArg Int32.toInt (he_j w_7); have hq_ := ((thI T r_x0 (k := 16) (i := 19) rfl : Rg (0) (1200) ((hI h x0 19))) : Rg (0) (1200) ((hI h x0 19))); have := hq_.1; have := hq_.2; have hq_ := ((thI T_1 r_x0 (k := 16) (i := 19) rfl : Rg (0) (1200) ((hI o_1.2 x0 19))) : Rg (0) (1200) ((hI o_1.2 x0 19))); have := hq_.1; have := hq_.2; have := (i_f_4 : Rg (1) (1) (o_1.1)).1; have := (i_f_4 : Rg (1) (1) (o_1.1)).2; have := ne_i c_2; have : (0 : Int32).toInt = 0 := rfl; clear o_x1; omega))
set_option maxRecDepth 20000 in
theorem zX15_readRights_18 {ρ : Nat → Nat} {c : Cm} {F : Nat} {w_x1 : Nat} (hF : 700000 ≤ F) (m7 : c.2.1 7 = true) (hA : pmA c [(16, 19), (16, 20)]) (hO_x1 : pmO c w_x1 [(13, 2)]) : ∀ (f : Nat) {h : Hp} {x0 : Nat} {x1 : Nat} {x2 : Int32}, cw c x1 = w_x1 → TH ρ c h → ρ x0 = 16 → ρ x1 = 13 → Rg (-1) (63) (x2) → ((1201 - (hI h x0 19).toInt) - (0)).toNat < f → Sat (sX15_readRights_18 F f h x0 x1 x2) (ZI ρ c (0) (1)) := by
  intro f
  induction f with
  | zero => intros; omega
  | succ f ih =>
    intro h x0 x1 x2 o_x1 T r_x0 r_x1 i_x2 hm
    rw [sX15_readRights_18]
    obtain ⟨C_18, hC_18⟩ : ∃ C : Int, C = (1201 - (hI h x0 19).toInt) := ⟨_, rfl⟩
    have hk_18 : ∀ {h : Hp} {x0 : Nat} {x1 : Nat} {x2 : Int32}, cw c x1 = w_x1 → TH ρ c h → ρ x0 = 16 → ρ x1 = 13 → Rg (-1) (63) (x2) → (0 ≤ (1201 - (hI h x0 19).toInt) ∧ (1201 - (hI h x0 19).toInt) < C_18) → Sat (sX15_readRights_18 F f h x0 x1 x2) (ZI ρ c (0) (1)) := by
      intro h' x0' x1' x2' o_x1' T' r_x0' r_x1' i_x2' hl
      exact ih o_x1' T' r_x0' r_x1' i_x2' (by omega)
    have hc_18 : (0 ≤ (1201 - (hI h x0 19).toInt) ∧ (1201 - (hI h x0 19).toInt) ≤ C_18) := (by have hq_ := ((thI T r_x0 (k := 16) (i := 19) rfl : Rg (0) (1200) ((hI h x0 19))) : Rg (0) (1200) ((hI h x0 19))); have := hq_.1; have := hq_.2; clear o_x1; omega)
    refine s_br (fun c_1 => ?_) (fun c_1 => ?_)
    · have _ := c_1
      have i_f_2 : Rg (-1) (-1) (x2) := rg_eq c_1 (rg_b rfl : Rg (-1) (-1) ((- 1 : Int32)))
      exact zX15_readRights_32 hF m7 @hk_18 (pmA_s hA rfl) (pmO_s hO_x1 rfl) o_x1 T r_x0 r_x1 (rg_m i_f_2 (by decide)) (show (0 ≤ (1201 - (hI h x0 19).toInt) ∧ (1201 - (hI h x0 19).toInt) ≤ C_18) from (by have hq_ := ((thI T r_x0 (k := 16) (i := 19) rfl : Rg (0) (1200) ((hI h x0 19))) : Rg (0) (1200) ((hI h x0 19))); have := hq_.1; have := hq_.2; clear o_x1; omega))
    · have _ := c_1
      have i_f_3 : Rg (0) (63) (x2) := rg_nlo c_1 i_x2 (rg_b rfl : Rg (-1) (-1) ((- 1 : Int32)))
      refine s_dP0 (zX15_look hF m7 T r_x0) (fun o_2 eb_o_2 e_o_2 i_o_2 p_o_2 => ?_)
      have T_4 := th_eq e_o_2 T
      refine s_br (fun c_5 => ?_) (fun c_5 => ?_)
      · have _ := c_5
        have i_f_6 : Rg (32) (32) (o_2.1) := rg_eq c_5 (rg_b rfl : Rg (32) (32) ((32 : Int32)))
        have p_f_7 := p_o_2 (fun q => rc_eq q i_f_6 (rg_b rfl : Rg (-1) (-1) (-1 : Int32)) (by decide))
        refine s_cI (zX15_reads hF m7 (pmA_s hA rfl) T_4 r_x0 (rg_m (rg_b rfl : Rg (32) (32) ((32 : Int32))) (by decide))) (fun o_4 T_8 i_o_4 => ?_)
        refine s_gd (rg_bool i_o_4) ?_
        exact s_some ⟨(T_8), i_o_4⟩
      · have _ := c_5
        exact zX15_readRights_32 hF m7 @hk_18 (pmA_s hA rfl) (pmO_s hO_x1 rfl) o_x1 T_4 r_x0 r_x1 (rg_m i_f_3 (by decide)) (show (0 ≤ (1201 - (hI o_2.2 x0 19).toInt) ∧ (1201 - (hI o_2.2 x0 19).toInt) ≤ C_18) from (by have hq_ := ((thI T_4 r_x0 (k := 16) (i := 19) rfl : Rg (0) (1200) ((hI o_2.2 x0 19))) : Rg (0) (1200) ((hI o_2.2 x0 19))); have := hq_.1; have := hq_.2; have : (hI o_2.2 x0 19).toInt = (hI h x0 19).toInt := congrArg Int32.toInt (he_e e_o_2); have hq_ := ((thI T r_x0 (k := 16) (i := 19) rfl : Rg (0) (1200) ((hI h x0 19))) : Rg (0) (1200) ((hI h x0 19))); have := hq_.1; have := hq_.2; have : (o_2.1).toInt = -1 ∨ (0 ≤ ((hI h x0 19)).toInt ∧ ((hI h x0 19)).toInt ≤ 1199) := p1_or p_o_2; have := (i_o_2 : Rg (-128) (127) (o_2.1)).1; have := (i_o_2 : Rg (-128) (127) (o_2.1)).2; have := ne_i c_5; have : ((32 : Int32)).toInt = 32 := rfl; clear o_x1; omega))
set_option maxRecDepth 20000 in
theorem zX15_readRights {ρ : Nat → Nat} {c : Cm} {F : Nat} {w_x1 : Nat} (hF : 700000 ≤ F) (m7 : c.2.1 7 = true) (hA : pmA c [(16, 19), (16, 20)]) (hO_x1 : pmO c w_x1 [(13, 2)]) {h : Hp} {x0 : Nat} {x1 : Nat} (o_x1 : cw c x1 = w_x1) (T : TH ρ c h) (r_x0 : ρ x0 = 16) (r_x1 : ρ x1 = 13) : Sat (sX15_readRights F h x0 x1) (ZI ρ c (0) (1)) := by
  unfold sX15_readRights 
  refine s_cI (zX15_reads hF m7 (pmA_s hA rfl) T r_x0 (rg_m (rg_b rfl : Rg (45) (45) ((45 : Int32))) (by decide))) (fun o_1 T_1 i_o_1 => ?_)
  refine s_br (fun c_2 => ?_) (fun c_2 => ?_)
  · have _ := c_2
    have i_f_3 : Rg (0) (0) (o_1.1) := rg_eq c_2 (rg_b rfl : Rg (0) (0) (0 : Int32))
    exact zX15_readRights_18 hF m7 (pmA_s hA rfl) (pmO_s hO_x1 rfl) F o_x1 T_1 r_x0 r_x1 (rg_m (rg_b rfl : Rg (-1) (-1) ((- 1 : Int32))) (by decide)) (show ((1201 - (hI o_1.2 x0 19).toInt) - 0).toNat < F from (by have : ((- 1 : Int32)).toInt = -1 := rfl; have hq_ := ((thI T_1 r_x0 (k := 16) (i := 19) rfl : Rg (0) (1200) ((hI o_1.2 x0 19))) : Rg (0) (1200) ((hI o_1.2 x0 19))); have := hq_.1; have := hq_.2; clear o_x1; omega))
  · have _ := c_2
    have i_f_4 : Rg (1) (1) (o_1.1) := rg_nlo c_2 i_o_1 (rg_b rfl : Rg (0) (0) (0 : Int32))
    refine s_cI (zX15_reads hF m7 (pmA_s hA rfl) T_1 r_x0 (rg_m (rg_b rfl : Rg (32) (32) ((32 : Int32))) (by decide))) (fun o_3 T_5 i_o_3 => ?_)
    refine s_gd (rg_bool i_o_3) ?_
    exact s_some ⟨(T_5), i_o_3⟩
set_option maxRecDepth 20000 in
theorem zX15_readSide_35 {ρ : Nat → Nat} {c : Cm} {F : Nat} {w_t1 : Nat} (hF : 700000 ≤ F) (m7 : c.2.1 7 = true) (hA : pmA c [(16, 19)]) (hO_t1 : pmO c w_t1 [(13, 1)]) {h : Hp} {x0 : Nat} {t0 : Int32} {t1 : Nat} (o_t1 : cw c t1 = w_t1) (T : TH ρ c h) (r_x0 : ρ x0 = 16) (i_t0 : Rg (0) (1) (t0)) (r_t1 : ρ t1 = 13) (rs : ((hI h x0 19).toInt ≤ 1199)) : Sat (sX15_readSide_35 h x0 t0 t1) (ZI ρ c (0) (1)) := by
  unfold sX15_readSide_35 
  refine s_hq (th_wI T r_t1 (k := 13) (lo := (0)) (hi := (1)) rfl (i_t0 : Rg (0) (1) (t0)) (by decide) (by decide) (pm_o hO_t1 o_t1 rfl)) (fun h_1 T_1 w_2 => ?_)
  have og_5 : Rg (0) (1200) (((hI h_1 x0 19) + (1 : Int32))) := ⟨(by have : (((hI h_1 x0 19) + (1 : Int32)) : Int32).toInt = ((hI h_1 x0 19) : Int32).toInt + ((1 : Int32) : Int32).toInt := ti_add ((thI T_1 r_x0 (k := 16) (i := 19) rfl : Rg (0) (1200) ((hI h_1 x0 19))) : Rg (0) (1200) ((hI h_1 x0 19))) ((rg_b rfl : Rg (1) (1) ((1 : Int32))) : Rg (1) (1) ((1 : Int32))) (by decide); have hq_ := ((thI T_1 r_x0 (k := 16) (i := 19) rfl : Rg (0) (1200) ((hI h_1 x0 19))) : Rg (0) (1200) ((hI h_1 x0 19))); have := hq_.1; have := hq_.2; have : (hI h_1 x0 19).toInt = (hI h x0 19).toInt := congrArg Int32.toInt (he_w w_2 (ne_r r_x0 r_t1 (by decide))); have : ((1 : Int32)).toInt = 1 := rfl; have hq_ := ((thI T r_x0 (k := 16) (i := 19) rfl : Rg (0) (1200) ((hI h x0 19))) : Rg (0) (1200) ((hI h x0 19))); have := hq_.1; have := hq_.2; clear o_t1; omega), (by have : (((hI h_1 x0 19) + (1 : Int32)) : Int32).toInt = ((hI h_1 x0 19) : Int32).toInt + ((1 : Int32) : Int32).toInt := ti_add ((thI T_1 r_x0 (k := 16) (i := 19) rfl : Rg (0) (1200) ((hI h_1 x0 19))) : Rg (0) (1200) ((hI h_1 x0 19))) ((rg_b rfl : Rg (1) (1) ((1 : Int32))) : Rg (1) (1) ((1 : Int32))) (by decide); have hq_ := ((thI T_1 r_x0 (k := 16) (i := 19) rfl : Rg (0) (1200) ((hI h_1 x0 19))) : Rg (0) (1200) ((hI h_1 x0 19))); have := hq_.1; have := hq_.2; have : (hI h_1 x0 19).toInt = (hI h x0 19).toInt := congrArg Int32.toInt (he_w w_2 (ne_r r_x0 r_t1 (by decide))); have : ((1 : Int32)).toInt = 1 := rfl; have hq_ := ((thI T r_x0 (k := 16) (i := 19) rfl : Rg (0) (1200) ((hI h x0 19))) : Rg (0) (1200) ((hI h x0 19))); have := hq_.1; have := hq_.2; clear o_t1; omega)⟩
  refine s_hq (th_wI T_1 r_x0 (k := 16) (lo := (0)) (hi := (1200)) rfl (og_5 : Rg (0) (1200) (((hI h_1 x0 19) + (1 : Int32)))) (by decide) (by decide) (pm_a hA rfl)) (fun h_2 T_3 w_4 => ?_)
  refine s_cI (zX15_reads hF m7 (pmA_s hA rfl) T_3 r_x0 (rg_m (rg_b rfl : Rg (32) (32) ((32 : Int32))) (by decide))) (fun o_3 T_6 i_o_3 => ?_)
  refine s_gd (rg_bool i_o_3) ?_
  exact s_some ⟨(T_6), i_o_3⟩
set_option maxRecDepth 20000 in
theorem zX15_readSide {ρ : Nat → Nat} {c : Cm} {F : Nat} {w_x1 : Nat} (hF : 700000 ≤ F) (m7 : c.2.1 7 = true) (hA : pmA c [(16, 19)]) (hO_x1 : pmO c w_x1 [(13, 1)]) {h : Hp} {x0 : Nat} {x1 : Nat} (o_x1 : cw c x1 = w_x1) (T : TH ρ c h) (r_x0 : ρ x0 = 16) (r_x1 : ρ x1 = 13) : Sat (sX15_readSide h x0 x1) (ZI ρ c (0) (1)) := by
  unfold sX15_readSide sX15_readSide_20
  refine s_dP0 (zX15_look hF m7 T r_x0) (fun o_1 eb_o_1 e_o_1 i_o_1 p_o_1 => ?_)
  have T_1 := th_eq e_o_1 T
  refine s_br (fun c_2 => ?_) (fun c_2 => ?_)
  · have _ := c_2
    have i_f_3 : Rg (119) (119) (o_1.1) := rg_eq c_2 (rg_b rfl : Rg (119) (119) ((119 : Int32)))
    have p_f_4 := p_o_1 (fun q => rc_eq q i_f_3 (rg_b rfl : Rg (-1) (-1) (-1 : Int32)) (by decide))
    refine s_val (show sX15_look o_1.2 x0 = some o_1 from by rw [e_o_1]; exact eb_o_1) ?_
    refine s_br (fun c_5 => ?_) (fun c_5 => ?_)
    · have _ := c_5
      exact zX15_readSide_35 hF m7 (pmA_s hA rfl) (pmO_s hO_x1 rfl) o_x1 T_1 r_x0 (rg_m (rg_b rfl : Rg (0) (0) ((0 : Int32))) (by decide)) r_x1 (show (hI o_1.2 x0 19).toInt ≤ 1199 from (by have hq_ := (((rg_he e_o_1 p_f_4) : Rg (0) (1199) ((hI o_1.2 x0 19))) : Rg (0) (1199) ((hI o_1.2 x0 19))); have := hq_.1; have := hq_.2; have : (hI o_1.2 x0 19).toInt = (hI h x0 19).toInt := congrArg Int32.toInt (he_e e_o_1); have := (p_f_4 : Rg (0) (1199) ((hI h x0 19))).1; have := (p_f_4 : Rg (0) (1199) ((hI h x0 19))).2; clear o_x1; omega))
    · have _ := c_5
      exact (rc_ne c_5 i_f_3 (rg_b rfl : Rg (119) (119) ((119 : Int32)))).elim
  · have _ := c_2
    refine s_val (show sX15_look o_1.2 x0 = some o_1 from by rw [e_o_1]; exact eb_o_1) ?_
    refine s_br (fun c_6 => ?_) (fun c_6 => ?_)
    · have _ := c_6
      have i_f_7 : Rg (98) (98) (o_1.1) := rg_eq c_6 (rg_b rfl : Rg (98) (98) ((98 : Int32)))
      have p_f_8 := p_o_1 (fun q => rc_eq q i_f_7 (rg_b rfl : Rg (-1) (-1) (-1 : Int32)) (by decide))
      refine s_val (show sX15_look o_1.2 x0 = some o_1 from by rw [e_o_1]; exact eb_o_1) ?_
      refine s_br (fun c_9 => ?_) (fun c_9 => ?_)
      · have _ := c_9
        exact (rc_eq c_9 i_f_7 (rg_b rfl : Rg (119) (119) ((119 : Int32))) (by decide)).elim
      · have _ := c_9
        exact zX15_readSide_35 hF m7 (pmA_s hA rfl) (pmO_s hO_x1 rfl) o_x1 T_1 r_x0 (rg_m (rg_b rfl : Rg (1) (1) ((1 : Int32))) (by decide)) r_x1 (show (hI o_1.2 x0 19).toInt ≤ 1199 from (by have hq_ := (((rg_he e_o_1 p_f_8) : Rg (0) (1199) ((hI o_1.2 x0 19))) : Rg (0) (1199) ((hI o_1.2 x0 19))); have := hq_.1; have := hq_.2; have : (hI o_1.2 x0 19).toInt = (hI h x0 19).toInt := congrArg Int32.toInt (he_e e_o_1); have := (p_f_8 : Rg (0) (1199) ((hI h x0 19))).1; have := (p_f_8 : Rg (0) (1199) ((hI h x0 19))).2; clear o_x1; omega))
    · have _ := c_6
      exact s_some ⟨(T_1), (rg_m (rg_b rfl : Rg (0) (0) ((0 : Int32))) (by decide))⟩
set_option maxRecDepth 20000 in
theorem zX15_isPosition {ρ : Nat → Nat} {c : Cm} {F : Nat} {w_x3 : Nat} (hF : 700000 ≤ F) (hA : pmA c [(16, 17), (16, 18), (16, 19), (16, 20)]) (hO_x3 : pmO c w_x3 [(62, 999), (63, 999), (64, 999), (65, 999), (13, 1), (13, 2), (13, 3), (13, 7)]) {h : Hp} {x0 : Nat} {x1 : Nat} {x2 : Int32} {x3 : Nat} (o_x3 : cw c x3 = w_x3) (T : TH ρ c h) (r_x0 : ρ x0 = 16) (r_x1 : ρ x1 = 82) (i_x2 : Rg (0) (1200) (x2)) (r_x3 : ρ x3 = 13) : Sat (sX15_isPosition F h x0 x1 x2 x3) (ZI ρ c (0) (1)) := by
  unfold sX15_isPosition sX15_isPosition_71 sX15_isPosition_72
  refine s_hq (th_wR T r_x0 (k := 16) (i := 17) (j := 7) (k2 := 82) rfl (by decide) rfl (by decide) r_x1 rfl nid_7 (by decide) (by decide) rfl rfl rfl (pm_a hA rfl)) (fun h_1 T_1 w_2 => ?_)
  refine s_hq (th_wI T_1 r_x0 (k := 16) (lo := (0)) (hi := (1200)) rfl (i_x2 : Rg (0) (1200) (x2)) (by decide) (by decide) (pm_a hA rfl)) (fun h_2 T_3 w_4 => ?_)
  refine s_hq (th_wI T_3 r_x0 (k := 16) (lo := (0)) (hi := (1200)) rfl ((rg_m (rg_b rfl : Rg (0) (0) ((0 : Int32))) (by decide)) : Rg (0) (1200) ((0 : Int32))) (by decide) (by decide) (pm_a hA rfl)) (fun h_3 T_5 w_6 => ?_)
  refine s_cV (zX12_clear (c := (nst c 7)) hF (pmO_s hO_x3 rfl) o_x3 T_5 r_x3) (fun o_4 T_7 => ?_)
  refine s_cI (zX15_readMen (c := (nst c 7)) hF nst_s (pmA_s hA rfl) (pmO_s hO_x3 rfl) o_x3 T_7 r_x0 r_x3) (fun o_5 T_8 i_o_5 => ?_)
  refine s_br (fun c_9 => ?_) (fun c_9 => ?_)
  · have _ := c_9
    have i_f_10 : Rg (0) (0) (o_5.1) := rg_eq c_9 (rg_b rfl : Rg (0) (0) (0 : Int32))
    refine s_gd (rg_bool (rg_m (rg_b rfl : Rg (0) (0) ((0 : Int32))) (by decide))) ?_
    exact s_some ⟨(th_un (T_8)), (rg_m (rg_b rfl : Rg (0) (0) ((0 : Int32))) (by decide))⟩
  · have _ := c_9
    have i_f_11 : Rg (1) (1) (o_5.1) := rg_nlo c_9 i_o_5 (rg_b rfl : Rg (0) (0) (0 : Int32))
    refine s_cI (zX15_readSide (c := (nst c 7)) hF nst_s (pmA_s hA rfl) (pmO_s hO_x3 rfl) o_x3 T_8 r_x0 r_x3) (fun o_7 T_12 i_o_7 => ?_)
    refine s_br (fun c_13 => ?_) (fun c_13 => ?_)
    · have _ := c_13
      have i_f_14 : Rg (0) (0) (o_7.1) := rg_eq c_13 (rg_b rfl : Rg (0) (0) (0 : Int32))
      refine s_gd (rg_bool (rg_m (rg_b rfl : Rg (0) (0) ((0 : Int32))) (by decide))) ?_
      exact s_some ⟨(th_un (T_12)), (rg_m (rg_b rfl : Rg (0) (0) ((0 : Int32))) (by decide))⟩
    · have _ := c_13
      have i_f_15 : Rg (1) (1) (o_7.1) := rg_nlo c_13 i_o_7 (rg_b rfl : Rg (0) (0) (0 : Int32))
      refine s_cI (zX15_readRights (c := (nst c 7)) hF nst_s (pmA_s hA rfl) (pmO_s hO_x3 rfl) o_x3 T_12 r_x0 r_x3) (fun o_9 T_16 i_o_9 => ?_)
      refine s_br (fun c_17 => ?_) (fun c_17 => ?_)
      · have _ := c_17
        have i_f_18 : Rg (0) (0) (o_9.1) := rg_eq c_17 (rg_b rfl : Rg (0) (0) (0 : Int32))
        refine s_gd (rg_bool (rg_m (rg_b rfl : Rg (0) (0) ((0 : Int32))) (by decide))) ?_
        exact s_some ⟨(th_un (T_16)), (rg_m (rg_b rfl : Rg (0) (0) ((0 : Int32))) (by decide))⟩
      · have _ := c_17
        have i_f_19 : Rg (1) (1) (o_9.1) := rg_nlo c_17 i_o_9 (rg_b rfl : Rg (0) (0) (0 : Int32))
        refine s_cI (zX15_readPass (c := (nst c 7)) hF nst_s (pmA_s hA rfl) (pmO_s hO_x3 rfl) o_x3 T_16 r_x0 r_x3) (fun o_11 T_20 i_o_11 => ?_)
        refine s_br (fun c_21 => ?_) (fun c_21 => ?_)
        · have _ := c_21
          have i_f_22 : Rg (0) (0) (o_11.1) := rg_eq c_21 (rg_b rfl : Rg (0) (0) (0 : Int32))
          refine s_gd (rg_bool (rg_m (rg_b rfl : Rg (0) (0) ((0 : Int32))) (by decide))) ?_
          exact s_some ⟨(th_un (T_20)), (rg_m (rg_b rfl : Rg (0) (0) ((0 : Int32))) (by decide))⟩
        · have _ := c_21
          have i_f_23 : Rg (1) (1) (o_11.1) := rg_nlo c_21 i_o_11 (rg_b rfl : Rg (0) (0) (0 : Int32))
          refine s_cI (zX15_readHands (c := (nst c 7)) hF nst_s (pmA_s hA rfl) (pmO_s hO_x3 rfl) o_x3 T_20 r_x0 r_x3) (fun o_13 T_24 i_o_13 => ?_)
          refine s_br (fun c_25 => ?_) (fun c_25 => ?_)
          · have _ := c_25
            have i_f_26 : Rg (0) (0) (o_13.1) := rg_eq c_25 (rg_b rfl : Rg (0) (0) (0 : Int32))
            refine s_gd (rg_bool (rg_m (rg_b rfl : Rg (0) (0) ((0 : Int32))) (by decide))) ?_
            exact s_some ⟨(th_un (T_24)), (rg_m (rg_b rfl : Rg (0) (0) ((0 : Int32))) (by decide))⟩
          · have _ := c_25
            have i_f_27 : Rg (1) (1) (o_13.1) := rg_nlo c_25 i_o_13 (rg_b rfl : Rg (0) (0) (0 : Int32))
            refine s_cI (zX15_readRest (c := (nst c 7)) hF nst_s (pmA_s hA rfl) (pmO_s hO_x3 rfl) o_x3 T_24 r_x0 r_x3) (fun o_15 T_28 i_o_15 => ?_)
            refine s_br (fun c_29 => ?_) (fun c_29 => ?_)
            · have _ := c_29
              have i_f_30 : Rg (0) (0) (o_15.1) := rg_eq c_29 (rg_b rfl : Rg (0) (0) (0 : Int32))
              refine s_gd (rg_bool (rg_m (rg_b rfl : Rg (0) (0) ((0 : Int32))) (by decide))) ?_
              exact s_some ⟨(th_un (T_28)), (rg_m (rg_b rfl : Rg (0) (0) ((0 : Int32))) (by decide))⟩
            · have _ := c_29
              have i_f_31 : Rg (1) (1) (o_15.1) := rg_nlo c_29 i_o_15 (rg_b rfl : Rg (0) (0) (0 : Int32))
              refine s_gd (rg_bool (rg_m (rg_b rfl : Rg (1) (1) ((1 : Int32))) (by decide))) ?_
              exact s_some ⟨(th_un (T_28)), (rg_m (rg_b rfl : Rg (1) (1) ((1 : Int32))) (by decide))⟩
