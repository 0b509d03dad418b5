set_option maxRecDepth 20000 in
theorem zX15_isRules_117 {ρ : Nat → Nat} {c : Cm} {F : Nat} (hF : 700000 ≤ F) (hA : pmA c [(73, 999), (74, 999), (75, 999), (76, 999), (77, 999), (78, 999), (79, 999), (80, 999), (81, 999), (15, 2), (15, 10), (15, 11), (15, 12), (15, 15), (15, 16), (15, 17), (15, 18), (15, 19), (15, 20), (15, 21), (15, 22), (15, 23), (16, 6), (16, 7), (16, 8), (16, 9), (16, 10)]) : ∀ (f : Nat) {h : Hp} {x0 : Nat} {x1 : Nat} {x2 : Int32}, TH ρ c h → ρ x0 = 16 → ρ x1 = 82 → Rg (0) (1200) (x2) → ((hI h x0 8).toInt ≤ x2.toInt) → (FreshZ x0 h) → (FrB x0 h) → ((if (hI h x0 6).toInt = 4 then 0 else 1202 - (hI h x0 8).toInt) - (0)).toNat < f → Sat (sX15_isRules_117 F f h x0 x1 x2) (ZQ (ZI ρ c (0) (1)) (fun o => (¬ o.1.toInt = 0) → FrB x0 o.2)) := by
  intro f
  induction f with
  | zero => intros; omega
  | succ f ih =>
    intro h x0 x1 x2 T r_x0 r_x1 i_x2 ee fz fb hm
    rw [sX15_isRules_117]
    unfold sX15_isRules_144
    obtain ⟨C_117, hC_117⟩ : ∃ C : Int, C = (if (hI h x0 6).toInt = 4 then 0 else 1202 - (hI h x0 8).toInt) := ⟨_, rfl⟩
    have hk_117 : ∀ {h : Hp} {x0 : Nat} {x1 : Nat} {x2 : Int32}, TH ρ c h → ρ x0 = 16 → ρ x1 = 82 → Rg (0) (1200) (x2) → ((hI h x0 8).toInt ≤ x2.toInt) → (FreshZ x0 h) → (FrB x0 h) → (0 ≤ (if (hI h x0 6).toInt = 4 then 0 else 1202 - (hI h x0 8).toInt) ∧ (if (hI h x0 6).toInt = 4 then 0 else 1202 - (hI h x0 8).toInt) < C_117) → Sat (sX15_isRules_117 F f h x0 x1 x2) (ZQ (ZI ρ c (0) (1)) (fun o => (¬ o.1.toInt = 0) → FrB x0 o.2)) := by
      intro h' x0' x1' x2' T' r_x0' r_x1' i_x2' ee' fz' fb' hl
      exact ih T' r_x0' r_x1' i_x2' ee' fz' fb' (by omega)
    have hc_117 : (0 ≤ (if (hI h x0 6).toInt = 4 then 0 else 1202 - (hI h x0 8).toInt) ∧ (if (hI h x0 6).toInt = 4 then 0 else 1202 - (hI h x0 8).toInt) ≤ C_117) := (by have hq_ := ((thI T r_x0 (k := 16) (i := 6) rfl : Rg (0) (5) ((hI h x0 6))) : Rg (0) (5) ((hI h x0 6))); have := hq_.1; have := hq_.2; have hq_ := ((thI T r_x0 (k := 16) (i := 8) rfl : Rg (0) (1200) ((hI h x0 8))) : Rg (0) (1200) ((hI h x0 8))); have := hq_.1; have := hq_.2; have := (i_x2 : Rg (0) (1200) (x2)).1; have := (i_x2 : Rg (0) (1200) (x2)).2; omega)
    refine s_br (fun c_1 => ?_) (fun c_1 => ?_)
    · have _ := c_1
      have i_f_2 : Rg (4) (4) ((hI h x0 6)) := rg_eq c_1 (rg_b rfl : Rg (4) (4) ((4 : Int32)))
      exact s_some ⟨⟨(T), (rg_m (rg_b rfl : Rg (1) (1) ((1 : Int32))) (by decide))⟩, (fun _ => fb)⟩
    · have _ := c_1
      refine s_cIfq (S := fS [(73, 999), (74, 999), (75, 999), (76, 999), (77, 999), (78, 999), (79, 999), (80, 999), (81, 999), (15, 2), (15, 10), (15, 11), (15, 12), (15, 15), (15, 16), (15, 17), (15, 18), (15, 19), (15, 20), (15, 21), (15, 22), (15, 23), (16, 6), (16, 7), (16, 8), (16, 9), (16, 10)] []) T (fs_sub (pmA_s hA rfl) fs_n) (zX15_isSentence hF fs_a (th_in _ T) r_x0 r_x1 i_x2 (show (hI h x0 8).toInt ≤ (x2).toInt from (by have := (i_x2 : Rg (0) (1200) (x2)).1; have := (i_x2 : Rg (0) (1200) (x2)).2; have hq_ := ((thI T r_x0 (k := 16) (i := 8) rfl : Rg (0) (1200) ((hI h x0 8))) : Rg (0) (1200) ((hI h x0 8))); have := hq_.1; have := hq_.2; omega)) fz) (fun o_2 T_3 i_o_2 f_o_2 p_o_2 => ?_)
      have pq_o_2_0 : ((hI h x0 8).toInt) ≤ (hI o_2.2 x0 8).toInt := p_o_2.1
      have pq_o_2_1 : (hI o_2.2 x0 8).toInt ≤ ((x2).toInt) := p_o_2.2.1
      refine s_br (fun c_4 => ?_) (fun c_4 => ?_)
      · have _ := c_4
        have i_f_5 : Rg (0) (0) (o_2.1) := rg_eq c_4 (rg_b rfl : Rg (0) (0) (0 : Int32))
        exact s_some ⟨⟨(T_3), (rg_m (rg_b rfl : Rg (0) (0) ((0 : Int32))) (by decide))⟩, (fun q => absurd q (show ¬ (¬ ((0 : Int32)).toInt = 0) from (by have : ((0 : Int32)).toInt = 0 := rfl; have hq_ := ((thI T r_x0 (k := 16) (i := 8) rfl : Rg (0) (1200) ((hI h x0 8))) : Rg (0) (1200) ((hI h x0 8))); have := hq_.1; have := hq_.2; have := (i_x2 : Rg (0) (1200) (x2)).1; have := (i_x2 : Rg (0) (1200) (x2)).2; have hq_ := ((thI T_3 r_x0 (k := 16) (i := 8) rfl : Rg (0) (1200) ((hI o_2.2 x0 8))) : Rg (0) (1200) ((hI o_2.2 x0 8))); have := hq_.1; have := hq_.2; omega)))⟩
      · have _ := c_4
        have i_f_6 : Rg (1) (1) (o_2.1) := rg_nlo c_4 i_o_2 (rg_b rfl : Rg (0) (0) (0 : Int32))
        refine s_dP0 (zX15_isSign hF T_3 r_x0 r_x1 (rg_m (rg_b rfl : Rg (59) (59) ((59 : Int32))) (by decide))) (fun o_4 eb_o_4 e_o_4 i_o_4 p_o_4 => ?_)
        have T_7 := th_eq e_o_4 T_3
        refine s_br (fun c_8 => ?_) (fun c_8 => ?_)
        · have _ := c_8
          have i_f_9 : Rg (0) (0) (o_4.1) := rg_eq c_8 (rg_b rfl : Rg (0) (0) (0 : Int32))
          exact s_some ⟨⟨(T_7), (rg_m (rg_b rfl : Rg (0) (0) ((0 : Int32))) (by decide))⟩, (fun q => absurd q (show ¬ (¬ ((0 : Int32)).toInt = 0) from (by have : ((0 : Int32)).toInt = 0 := rfl; have hq_ := ((thI T r_x0 (k := 16) (i := 8) rfl : Rg (0) (1200) ((hI h x0 8))) : Rg (0) (1200) ((hI h x0 8))); have := hq_.1; have := hq_.2; have := (i_x2 : Rg (0) (1200) (x2)).1; have := (i_x2 : Rg (0) (1200) (x2)).2; have hq_ := ((thI T_3 r_x0 (k := 16) (i := 8) rfl : Rg (0) (1200) ((hI o_2.2 x0 8))) : Rg (0) (1200) ((hI o_2.2 x0 8))); have := hq_.1; have := hq_.2; omega)))⟩
        · have _ := c_8
          have i_f_10 : Rg (1) (1) (o_4.1) := rg_nlo c_8 i_o_4 (rg_b rfl : Rg (0) (0) (0 : Int32))
          have p_f_11 := p_o_4 c_8
          refine s_cVfq (S := fS [(16, 6), (16, 7), (16, 8), (16, 9)] []) T_7 (fs_sub (pmA_s hA rfl) fs_n) (zX15_nextToken hF fs_a (th_in _ T_7) r_x0 r_x1 i_x2 (show (hI o_4.2 x0 8).toInt ≤ (x2).toInt from (by have := (i_x2 : Rg (0) (1200) (x2)).1; have := (i_x2 : Rg (0) (1200) (x2)).2; have hq_ := ((thI T_7 r_x0 (k := 16) (i := 8) rfl : Rg (0) (1200) ((hI o_4.2 x0 8))) : Rg (0) (1200) ((hI o_4.2 x0 8))); have := hq_.1; have := hq_.2; have : (hI o_4.2 x0 8).toInt = (hI o_2.2 x0 8).toInt := congrArg Int32.toInt (he_e e_o_4); have hq_ := ((thI T r_x0 (k := 16) (i := 8) rfl : Rg (0) (1200) ((hI h x0 8))) : Rg (0) (1200) ((hI h x0 8))); have := hq_.1; have := hq_.2; have hq_ := ((thI T_3 r_x0 (k := 16) (i := 8) rfl : Rg (0) (1200) ((hI o_2.2 x0 8))) : Rg (0) (1200) ((hI o_2.2 x0 8))); have := hq_.1; have := hq_.2; omega))) (fun o_6 T_12 f_o_6 p_o_6 => ?_)
          have pq_o_6_0 : ((hI o_4.2 x0 8).toInt) ≤ (hI o_6 x0 8).toInt := p_o_6.1
          have pq_o_6_1 : (hI o_6 x0 8).toInt ≤ ((x2).toInt) := p_o_6.2.1
          have pq_o_6_2 : (hI o_6 x0 6).toInt = 4 ∨ ((hI o_4.2 x0 8).toInt) < (hI o_6 x0 8).toInt := p_o_6.2.2.1
          have pf_13 : FreshZ x0 o_6 := (fz_fr T_7 r_x0 f_o_6 (fun _ => rfl) (fun _ => rfl) (fun _ => rfl) (fun _ _ => rfl) (by rw [e_o_4]; exact p_o_2.2.2))
          have pf_14 : FrB x0 o_6 := (fb_fr T_7 r_x0 f_o_6 (fun _ => rfl) (fun _ => rfl) (fun _ => rfl) (by rw [e_o_4]; exact (fb_fr T r_x0 f_o_2 (fun _ => rfl) (fun _ => rfl) (fun _ => rfl) fb)))
          exact hk_117 T_12 r_x0 r_x1 i_x2 (show (hI o_6 x0 8).toInt ≤ (x2).toInt from (by have := (i_x2 : Rg (0) (1200) (x2)).1; have := (i_x2 : Rg (0) (1200) (x2)).2; have hq_ := ((thI T_12 r_x0 (k := 16) (i := 8) rfl : Rg (0) (1200) ((hI o_6 x0 8))) : Rg (0) (1200) ((hI o_6 x0 8))); have := hq_.1; have := hq_.2; have hq_ := ((thI T r_x0 (k := 16) (i := 8) rfl : Rg (0) (1200) ((hI h x0 8))) : Rg (0) (1200) ((hI h x0 8))); have := hq_.1; have := hq_.2; have hq_ := ((thI T_3 r_x0 (k := 16) (i := 8) rfl : Rg (0) (1200) ((hI o_2.2 x0 8))) : Rg (0) (1200) ((hI o_2.2 x0 8))); have := hq_.1; have := hq_.2; have hq_ := ((thI T_7 r_x0 (k := 16) (i := 8) rfl : Rg (0) (1200) ((hI o_4.2 x0 8))) : Rg (0) (1200) ((hI o_4.2 x0 8))); have := hq_.1; have := hq_.2; have : (hI o_4.2 x0 8).toInt = (hI o_2.2 x0 8).toInt := congrArg Int32.toInt (he_e e_o_4); have hq_ := ((thI T_12 r_x0 (k := 16) (i := 6) rfl : Rg (0) (5) ((hI o_6 x0 6))) : Rg (0) (5) ((hI o_6 x0 6))); have := hq_.1; have := hq_.2; have := (p_f_11 : Rg (3) (3) ((hI o_2.2 x0 6))).1; have := (p_f_11 : Rg (3) (3) ((hI o_2.2 x0 6))).2; omega)) pf_13 pf_14 (show (0 ≤ (if (hI o_6 x0 6).toInt = 4 then 0 else 1202 - (hI o_6 x0 8).toInt) ∧ (if (hI o_6 x0 6).toInt = 4 then 0 else 1202 - (hI o_6 x0 8).toInt) < C_117) from (by have hq_ := ((thI T_12 r_x0 (k := 16) (i := 6) rfl : Rg (0) (5) ((hI o_6 x0 6))) : Rg (0) (5) ((hI o_6 x0 6))); have := hq_.1; have := hq_.2; have hq_ := ((thI T_12 r_x0 (k := 16) (i := 8) rfl : Rg (0) (1200) ((hI o_6 x0 8))) : Rg (0) (1200) ((hI o_6 x0 8))); have := hq_.1; have := hq_.2; have hq_ := ((thI T r_x0 (k := 16) (i := 6) rfl : Rg (0) (5) ((hI h x0 6))) : Rg (0) (5) ((hI h x0 6))); have := hq_.1; have := hq_.2; have hq_ := ((thI T r_x0 (k := 16) (i := 8) rfl : Rg (0) (1200) ((hI h x0 8))) : Rg (0) (1200) ((hI h x0 8))); have := hq_.1; have := hq_.2; have := (i_x2 : Rg (0) (1200) (x2)).1; have := (i_x2 : Rg (0) (1200) (x2)).2; have hq_ := ((thI T_3 r_x0 (k := 16) (i := 8) rfl : Rg (0) (1200) ((hI o_2.2 x0 8))) : Rg (0) (1200) ((hI o_2.2 x0 8))); have := hq_.1; have := hq_.2; have hq_ := ((thI T_7 r_x0 (k := 16) (i := 8) rfl : Rg (0) (1200) ((hI o_4.2 x0 8))) : Rg (0) (1200) ((hI o_4.2 x0 8))); have := hq_.1; have := hq_.2; have : (hI o_4.2 x0 8).toInt = (hI o_2.2 x0 8).toInt := congrArg Int32.toInt (he_e e_o_4); have := (p_f_11 : Rg (3) (3) ((hI o_2.2 x0 6))).1; have := (p_f_11 : Rg (3) (3) ((hI o_2.2 x0 6))).2; have := ne_i c_1; have : ((4 : Int32)).toInt = 4 := rfl; omega))
set_option maxRecDepth 20000 in
theorem zX15_isRules {ρ : Nat → Nat} {c : Cm} {F : Nat} (hF : 700000 ≤ F) (hA : pmA c [(73, 999), (74, 999), (75, 999), (76, 999), (77, 999), (78, 999), (79, 999), (80, 999), (81, 999), (15, 0), (15, 1), (15, 2), (15, 10), (15, 11), (15, 12), (15, 15), (15, 16), (15, 17), (15, 18), (15, 19), (15, 20), (15, 21), (15, 22), (15, 23), (16, 6), (16, 7), (16, 8), (16, 9), (16, 10)]) {h : Hp} {x0 : Nat} {x1 : Nat} {x2 : Int32} (T : TH ρ c h) (r_x0 : ρ x0 = 16) (r_x1 : ρ x1 = 82) (i_x2 : Rg (0) (1200) (x2)) : Sat (sX15_isRules F h x0 x1 x2) (ZQ (ZI ρ c (0) (1)) (fun o => (¬ o.1.toInt = 0) → FrB x0 o.2)) := by
  unfold sX15_isRules 
  obtain ⟨r_1, e_r_1, q_r_1⟩ := thR T r_x0 (k := 16) (i := 5) (k2 := 15) rfl (by decide)
  refine s_ref e_r_1 ?_
  refine s_cVfq (S := fS [] [(cw c r_1, [(74, 999), (81, 999), (15, 2), (15, 10), (15, 11), (15, 12), (15, 15), (15, 16), (15, 17), (15, 18), (15, 19), (15, 20), (15, 21), (15, 22), (15, 23)])]) T (fs_sub pmA_n (fs_c (pmO_a hA rfl) fs_n)) (zX14_clear hF (fs_o (.head _)) (th_in _ T) q_r_1) (fun o_2 T_1 f_o_2 p_o_2 => ?_)
  refine s_hq (th_wI T_1 r_x0 (k := 16) (lo := (0)) (hi := (1023)) rfl ((rg_m (rg_b rfl : Rg (0) (0) ((0 : Int32))) (by decide)) : Rg (0) (1023) ((0 : Int32))) (by decide) (by decide) (pm_a hA rfl)) (fun h_3 T_2 w_3 => ?_)
  refine s_hq (th_wI T_2 r_x0 (k := 16) (lo := (0)) (hi := (1200)) rfl ((rg_m (rg_b rfl : Rg (0) (0) ((0 : Int32))) (by decide)) : Rg (0) (1200) ((0 : Int32))) (by decide) (by decide) (pm_a hA rfl)) (fun h_4 T_4 w_5 => ?_)
  refine s_cVfq (S := fS [(16, 6), (16, 7), (16, 8), (16, 9)] []) T_4 (fs_sub (pmA_s hA rfl) fs_n) (zX15_nextToken hF fs_a (th_in _ T_4) r_x0 r_x1 i_x2 (show (hI h_4 x0 8).toInt ≤ (x2).toInt from (by have := (i_x2 : Rg (0) (1200) (x2)).1; have := (i_x2 : Rg (0) (1200) (x2)).2; have hq_ := (((rg_hs w_5 (rg_b rfl : Rg (0) (0) ((0 : Int32)))) : Rg (0) (0) ((hI h_4 x0 8))) : Rg (0) (0) ((hI h_4 x0 8))); have := hq_.1; have := hq_.2; have : (hI h_4 x0 8).toInt = ((0 : Int32) : Int32).toInt := congrArg Int32.toInt (he_s w_5); have : ((0 : Int32)).toInt = 0 := rfl; omega))) (fun o_5 T_6 f_o_5 p_o_5 => ?_)
  have pq_o_5_0 : ((hI h_4 x0 8).toInt) ≤ (hI o_5 x0 8).toInt := p_o_5.1
  have pq_o_5_1 : (hI o_5 x0 8).toInt ≤ ((x2).toInt) := p_o_5.2.1
  have pq_o_5_2 : (hI o_5 x0 6).toInt = 4 ∨ ((hI h_4 x0 8).toInt) < (hI o_5 x0 8).toInt := p_o_5.2.2.1
  refine s_dI0 (zX15_isWord hF T_6 r_x0 r_x1) (fun o_6 eb_o_6 e_o_6 i_o_6 => ?_)
  have T_7 := th_eq e_o_6 T_6
  refine s_br (fun c_8 => ?_) (fun c_8 => ?_)
  · have _ := c_8
    have i_f_9 : Rg (0) (0) (o_6.1) := rg_eq c_8 (rg_b rfl : Rg (0) (0) (0 : Int32))
    exact s_some ⟨⟨(T_7), (rg_m (rg_b rfl : Rg (0) (0) ((0 : Int32))) (by decide))⟩, (fun q => absurd q (show ¬ (¬ ((0 : Int32)).toInt = 0) from (by have : ((0 : Int32)).toInt = 0 := rfl; have hq_ := (((rg_hs w_5 (rg_b rfl : Rg (0) (0) ((0 : Int32)))) : Rg (0) (0) ((hI h_4 x0 8))) : Rg (0) (0) ((hI h_4 x0 8))); have := hq_.1; have := hq_.2; have : (hI h_4 x0 8).toInt = ((0 : Int32) : Int32).toInt := congrArg Int32.toInt (he_s w_5); have hq_ := ((thI T_6 r_x0 (k := 16) (i := 8) rfl : Rg (0) (1200) ((hI o_5 x0 8))) : Rg (0) (1200) ((hI o_5 x0 8))); have := hq_.1; have := hq_.2; have := (i_x2 : Rg (0) (1200) (x2)).1; have := (i_x2 : Rg (0) (1200) (x2)).2; have hq_ := ((thI T_6 r_x0 (k := 16) (i := 6) rfl : Rg (0) (5) ((hI o_5 x0 6))) : Rg (0) (5) ((hI o_5 x0 6))); have := hq_.1; have := hq_.2; omega)))⟩
  · have _ := c_8
    have i_f_10 : Rg (1) (1) (o_6.1) := rg_nlo c_8 i_o_6 (rg_b rfl : Rg (0) (0) (0 : Int32))
    refine s_cVfq (S := fS [(16, 6), (16, 7), (16, 8), (16, 9)] []) T_7 (fs_sub (pmA_s hA rfl) fs_n) (zX15_nextToken hF fs_a (th_in _ T_7) r_x0 r_x1 i_x2 (show (hI o_6.2 x0 8).toInt ≤ (x2).toInt from (by have := (i_x2 : Rg (0) (1200) (x2)).1; have := (i_x2 : Rg (0) (1200) (x2)).2; have hq_ := ((thI T_7 r_x0 (k := 16) (i := 8) rfl : Rg (0) (1200) ((hI o_6.2 x0 8))) : Rg (0) (1200) ((hI o_6.2 x0 8))); have := hq_.1; have := hq_.2; have : (hI o_6.2 x0 8).toInt = (hI o_5 x0 8).toInt := congrArg Int32.toInt (he_e e_o_6); have hq_ := (((rg_hs w_5 (rg_b rfl : Rg (0) (0) ((0 : Int32)))) : Rg (0) (0) ((hI h_4 x0 8))) : Rg (0) (0) ((hI h_4 x0 8))); have := hq_.1; have := hq_.2; have : (hI h_4 x0 8).toInt = ((0 : Int32) : Int32).toInt := congrArg Int32.toInt (he_s w_5); have : ((0 : Int32)).toInt = 0 := rfl; have hq_ := ((thI T_6 r_x0 (k := 16) (i := 8) rfl : Rg (0) (1200) ((hI o_5 x0 8))) : Rg (0) (1200) ((hI o_5 x0 8))); have := hq_.1; have := hq_.2; have hq_ := ((thI T_6 r_x0 (k := 16) (i := 6) rfl : Rg (0) (5) ((hI o_5 x0 6))) : Rg (0) (5) ((hI o_5 x0 6))); have := hq_.1; have := hq_.2; omega))) (fun o_8 T_11 f_o_8 p_o_8 => ?_)
    have pq_o_8_0 : ((hI o_6.2 x0 8).toInt) ≤ (hI o_8 x0 8).toInt := p_o_8.1
    have pq_o_8_1 : (hI o_8 x0 8).toInt ≤ ((x2).toInt) := p_o_8.2.1
    have pq_o_8_2 : (hI o_8 x0 6).toInt = 4 ∨ ((hI o_6.2 x0 8).toInt) < (hI o_8 x0 8).toInt := p_o_8.2.2.1
    refine s_dP0 (zX15_isNumber hF ((rg_b rfl : Rg (3) (3) ((3 : Int32))) : Rg (3) (3) ((3 : Int32))) ((rg_b rfl : Rg (8) (8) ((8 : Int32))) : Rg (8) (8) ((8 : Int32)))) (fun o_9 eb_o_9 e_o_9 i_o_9 p_o_9 => ?_)
    have T_12 := th_eq e_o_9 T_11
    refine s_br (fun c_13 => ?_) (fun c_13 => ?_)
    · have _ := c_13
      have i_f_14 : Rg (0) (0) (o_9.1) := rg_eq c_13 (rg_b rfl : Rg (0) (0) (0 : Int32))
      exact s_some ⟨⟨(T_12), (rg_m (rg_b rfl : Rg (0) (0) ((0 : Int32))) (by decide))⟩, (fun q => absurd q (show ¬ (¬ ((0 : Int32)).toInt = 0) from (by have : ((0 : Int32)).toInt = 0 := rfl; have hq_ := (((rg_hs w_5 (rg_b rfl : Rg (0) (0) ((0 : Int32)))) : Rg (0) (0) ((hI h_4 x0 8))) : Rg (0) (0) ((hI h_4 x0 8))); have := hq_.1; have := hq_.2; have : (hI h_4 x0 8).toInt = ((0 : Int32) : Int32).toInt := congrArg Int32.toInt (he_s w_5); have hq_ := ((thI T_6 r_x0 (k := 16) (i := 8) rfl : Rg (0) (1200) ((hI o_5 x0 8))) : Rg (0) (1200) ((hI o_5 x0 8))); have := hq_.1; have := hq_.2; have := (i_x2 : Rg (0) (1200) (x2)).1; have := (i_x2 : Rg (0) (1200) (x2)).2; have hq_ := ((thI T_6 r_x0 (k := 16) (i := 6) rfl : Rg (0) (5) ((hI o_5 x0 6))) : Rg (0) (5) ((hI o_5 x0 6))); have := hq_.1; have := hq_.2; have hq_ := ((thI T_7 r_x0 (k := 16) (i := 8) rfl : Rg (0) (1200) ((hI o_6.2 x0 8))) : Rg (0) (1200) ((hI o_6.2 x0 8))); have := hq_.1; have := hq_.2; have : (hI o_6.2 x0 8).toInt = (hI o_5 x0 8).toInt := congrArg Int32.toInt (he_e e_o_6); have hq_ := ((thI T_11 r_x0 (k := 16) (i := 8) rfl : Rg (0) (1200) ((hI o_8 x0 8))) : Rg (0) (1200) ((hI o_8 x0 8))); have := hq_.1; have := hq_.2; have hq_ := ((thI T_11 r_x0 (k := 16) (i := 6) rfl : Rg (0) (5) ((hI o_8 x0 6))) : Rg (0) (5) ((hI o_8 x0 6))); have := hq_.1; have := hq_.2; omega)))⟩
    · have _ := c_13
      have i_f_15 : Rg (1) (1) (o_9.1) := rg_nlo c_13 i_o_9 (rg_b rfl : Rg (0) (0) (0 : Int32))
      have p_f_16 := p_o_9 c_13
      refine s_ref (hr_e e_o_9 (hr_q (fr_R f_o_8 r_x0 (by decide) rfl rfl) (hr_e e_o_6 (hr_q (fr_R f_o_5 r_x0 (by decide) rfl rfl) (hr_w w_5 (hr_w w_3 (hr_q (fr_R f_o_2 r_x0 (by decide) rfl rfl) e_r_1))))))) ?_
      refine s_hq (th_wI T_12 q_r_1 (k := 15) (lo := (0)) (hi := (8)) rfl ((rg_m ((rg_he e_o_9 p_f_16.1) : Rg (3) (8) ((hI o_9.2 x0 9))) (by decide)) : Rg (0) (8) ((hI o_9.2 x0 9))) (by decide) (by decide) (pm_a hA rfl)) (fun h_12 T_17 w_18 => ?_)
      have es_19 : (3 : Int) ≤ ((hI o_9.2 x0 9)).toInt := (((rg_he e_o_9 p_f_16.1) : Rg (3) (8) ((hI o_9.2 x0 9))) : Rg (3) (8) ((hI o_9.2 x0 9))).1
      refine s_cVfq (S := fS [(16, 6), (16, 7), (16, 8), (16, 9)] []) T_17 (fs_sub (pmA_s hA rfl) fs_n) (zX15_nextToken hF fs_a (th_in _ T_17) r_x0 r_x1 i_x2 (show (hI h_12 x0 8).toInt ≤ (x2).toInt from (by have := (i_x2 : Rg (0) (1200) (x2)).1; have := (i_x2 : Rg (0) (1200) (x2)).2; have hq_ := ((thI T_17 r_x0 (k := 16) (i := 8) rfl : Rg (0) (1200) ((hI h_12 x0 8))) : Rg (0) (1200) ((hI h_12 x0 8))); have := hq_.1; have := hq_.2; have : (hI h_12 x0 8).toInt = (hI o_9.2 x0 8).toInt := congrArg Int32.toInt (he_w w_18 (ne_r r_x0 q_r_1 (by decide))); have : (hI o_9.2 x0 8).toInt = (hI o_8 x0 8).toInt := congrArg Int32.toInt (he_e e_o_9); have hq_ := (((rg_hs w_5 (rg_b rfl : Rg (0) (0) ((0 : Int32)))) : Rg (0) (0) ((hI h_4 x0 8))) : Rg (0) (0) ((hI h_4 x0 8))); have := hq_.1; have := hq_.2; have : (hI h_4 x0 8).toInt = ((0 : Int32) : Int32).toInt := congrArg Int32.toInt (he_s w_5); have : ((0 : Int32)).toInt = 0 := rfl; have hq_ := ((thI T_6 r_x0 (k := 16) (i := 8) rfl : Rg (0) (1200) ((hI o_5 x0 8))) : Rg (0) (1200) ((hI o_5 x0 8))); have := hq_.1; have := hq_.2; have hq_ := ((thI T_6 r_x0 (k := 16) (i := 6) rfl : Rg (0) (5) ((hI o_5 x0 6))) : Rg (0) (5) ((hI o_5 x0 6))); have := hq_.1; have := hq_.2; have hq_ := ((thI T_7 r_x0 (k := 16) (i := 8) rfl : Rg (0) (1200) ((hI o_6.2 x0 8))) : Rg (0) (1200) ((hI o_6.2 x0 8))); have := hq_.1; have := hq_.2; have : (hI o_6.2 x0 8).toInt = (hI o_5 x0 8).toInt := congrArg Int32.toInt (he_e e_o_6); have hq_ := ((thI T_11 r_x0 (k := 16) (i := 8) rfl : Rg (0) (1200) ((hI o_8 x0 8))) : Rg (0) (1200) ((hI o_8 x0 8))); have := hq_.1; have := hq_.2; have := (p_f_16.2 : Rg (2) (2) ((hI o_8 x0 6))).1; have := (p_f_16.2 : Rg (2) (2) ((hI o_8 x0 6))).2; omega))) (fun o_13 T_20 f_o_13 p_o_13 => ?_)
      have pq_o_13_0 : ((hI h_12 x0 8).toInt) ≤ (hI o_13 x0 8).toInt := p_o_13.1
      have pq_o_13_1 : (hI o_13 x0 8).toInt ≤ ((x2).toInt) := p_o_13.2.1
      have pq_o_13_2 : (hI o_13 x0 6).toInt = 4 ∨ ((hI h_12 x0 8).toInt) < (hI o_13 x0 8).toInt := p_o_13.2.2.1
      refine s_dP0 (zX15_isNumber hF ((rg_b rfl : Rg (3) (3) ((3 : Int32))) : Rg (3) (3) ((3 : Int32))) ((rg_b rfl : Rg (8) (8) ((8 : Int32))) : Rg (8) (8) ((8 : Int32)))) (fun o_14 eb_o_14 e_o_14 i_o_14 p_o_14 => ?_)
      have T_21 := th_eq e_o_14 T_20
      refine s_br (fun c_22 => ?_) (fun c_22 => ?_)
      · have _ := c_22
        have i_f_23 : Rg (0) (0) (o_14.1) := rg_eq c_22 (rg_b rfl : Rg (0) (0) (0 : Int32))
        exact s_some ⟨⟨(T_21), (rg_m (rg_b rfl : Rg (0) (0) ((0 : Int32))) (by decide))⟩, (fun q => absurd q (show ¬ (¬ ((0 : Int32)).toInt = 0) from (by have : ((0 : Int32)).toInt = 0 := rfl; have hq_ := ((thI T_17 r_x0 (k := 16) (i := 8) rfl : Rg (0) (1200) ((hI h_12 x0 8))) : Rg (0) (1200) ((hI h_12 x0 8))); have := hq_.1; have := hq_.2; have : (hI h_12 x0 8).toInt = (hI o_9.2 x0 8).toInt := congrArg Int32.toInt (he_w w_18 (ne_r r_x0 q_r_1 (by decide))); have : (hI o_9.2 x0 8).toInt = (hI o_8 x0 8).toInt := congrArg Int32.toInt (he_e e_o_9); have hq_ := ((thI T_20 r_x0 (k := 16) (i := 8) rfl : Rg (0) (1200) ((hI o_13 x0 8))) : Rg (0) (1200) ((hI o_13 x0 8))); have := hq_.1; have := hq_.2; have := (i_x2 : Rg (0) (1200) (x2)).1; have := (i_x2 : Rg (0) (1200) (x2)).2; have hq_ := ((thI T_20 r_x0 (k := 16) (i := 6) rfl : Rg (0) (5) ((hI o_13 x0 6))) : Rg (0) (5) ((hI o_13 x0 6))); have := hq_.1; have := hq_.2; have hq_ := (((rg_hs w_5 (rg_b rfl : Rg (0) (0) ((0 : Int32)))) : Rg (0) (0) ((hI h_4 x0 8))) : Rg (0) (0) ((hI h_4 x0 8))); have := hq_.1; have := hq_.2; have : (hI h_4 x0 8).toInt = ((0 : Int32) : Int32).toInt := congrArg Int32.toInt (he_s w_5); have hq_ := ((thI T_6 r_x0 (k := 16) (i := 8) rfl : Rg (0) (1200) ((hI o_5 x0 8))) : Rg (0) (1200) ((hI o_5 x0 8))); have := hq_.1; have := hq_.2; have hq_ := ((thI T_6 r_x0 (k := 16) (i := 6) rfl : Rg (0) (5) ((hI o_5 x0 6))) : Rg (0) (5) ((hI o_5 x0 6))); have := hq_.1; have := hq_.2; have hq_ := ((thI T_7 r_x0 (k := 16) (i := 8) rfl : Rg (0) (1200) ((hI o_6.2 x0 8))) : Rg (0) (1200) ((hI o_6.2 x0 8))); have := hq_.1; have := hq_.2; have : (hI o_6.2 x0 8).toInt = (hI o_5 x0 8).toInt := congrArg Int32.toInt (he_e e_o_6); have hq_ := ((thI T_11 r_x0 (k := 16) (i := 8) rfl : Rg (0) (1200) ((hI o_8 x0 8))) : Rg (0) (1200) ((hI o_8 x0 8))); have := hq_.1; have := hq_.2; have := (p_f_16.2 : Rg (2) (2) ((hI o_8 x0 6))).1; have := (p_f_16.2 : Rg (2) (2) ((hI o_8 x0 6))).2; omega)))⟩
      · have _ := c_22
        have i_f_24 : Rg (1) (1) (o_14.1) := rg_nlo c_22 i_o_14 (rg_b rfl : Rg (0) (0) (0 : Int32))
        have p_f_25 := p_o_14 c_22
        refine s_ref (hr_e e_o_14 (hr_q (fr_R f_o_13 r_x0 (by decide) rfl rfl) (hr_w w_18 (hr_e e_o_9 (hr_q (fr_R f_o_8 r_x0 (by decide) rfl rfl) (hr_e e_o_6 (hr_q (fr_R f_o_5 r_x0 (by decide) rfl rfl) (hr_w w_5 (hr_w w_3 (hr_q (fr_R f_o_2 r_x0 (by decide) rfl rfl) e_r_1)))))))))) ?_
        refine s_hq (th_wI T_21 q_r_1 (k := 15) (lo := (0)) (hi := (8)) rfl ((rg_m ((rg_he e_o_14 p_f_25.1) : Rg (3) (8) ((hI o_14.2 x0 9))) (by decide)) : Rg (0) (8) ((hI o_14.2 x0 9))) (by decide) (by decide) (pm_a hA rfl)) (fun h_17 T_26 w_27 => ?_)
        have es_28 : (3 : Int) ≤ ((hI o_14.2 x0 9)).toInt := (((rg_he e_o_14 p_f_25.1) : Rg (3) (8) ((hI o_14.2 x0 9))) : Rg (3) (8) ((hI o_14.2 x0 9))).1
        have pf_29 : FrF x0 o_14.2 := (by rw [e_o_14]; exact (ff_fr T_17 r_x0 f_o_13 (fun _ => rfl) (fun _ => rfl) (ff_w (hr_e e_o_9 (hr_q (fr_R f_o_8 r_x0 (by decide) rfl rfl) (hr_e e_o_6 (hr_q (fr_R f_o_5 r_x0 (by decide) rfl rfl) (hr_w w_5 (hr_w w_3 (hr_q (fr_R f_o_2 r_x0 (by decide) rfl rfl) e_r_1))))))) w_18 es_19)))
        refine s_cVfq (S := fS [(16, 6), (16, 7), (16, 8), (16, 9)] []) T_26 (fs_sub (pmA_s hA rfl) fs_n) (zX15_nextToken hF fs_a (th_in _ T_26) r_x0 r_x1 i_x2 (show (hI h_17 x0 8).toInt ≤ (x2).toInt from (by have := (i_x2 : Rg (0) (1200) (x2)).1; have := (i_x2 : Rg (0) (1200) (x2)).2; have hq_ := ((thI T_26 r_x0 (k := 16) (i := 8) rfl : Rg (0) (1200) ((hI h_17 x0 8))) : Rg (0) (1200) ((hI h_17 x0 8))); have := hq_.1; have := hq_.2; have : (hI h_17 x0 8).toInt = (hI o_14.2 x0 8).toInt := congrArg Int32.toInt (he_w w_27 (ne_r r_x0 q_r_1 (by decide))); have : (hI o_14.2 x0 8).toInt = (hI o_13 x0 8).toInt := congrArg Int32.toInt (he_e e_o_14); have hq_ := ((thI T_17 r_x0 (k := 16) (i := 8) rfl : Rg (0) (1200) ((hI h_12 x0 8))) : Rg (0) (1200) ((hI h_12 x0 8))); have := hq_.1; have := hq_.2; have : (hI h_12 x0 8).toInt = (hI o_9.2 x0 8).toInt := congrArg Int32.toInt (he_w w_18 (ne_r r_x0 q_r_1 (by decide))); have : (hI o_9.2 x0 8).toInt = (hI o_8 x0 8).toInt := congrArg Int32.toInt (he_e e_o_9); have hq_ := ((thI T_20 r_x0 (k := 16) (i := 8) rfl : Rg (0) (1200) ((hI o_13 x0 8))) : Rg (0) (1200) ((hI o_13 x0 8))); have := hq_.1; have := hq_.2; have := (p_f_25.2 : Rg (2) (2) ((hI o_13 x0 6))).1; have := (p_f_25.2 : Rg (2) (2) ((hI o_13 x0 6))).2; have hq_ := (((rg_hs w_5 (rg_b rfl : Rg (0) (0) ((0 : Int32)))) : Rg (0) (0) ((hI h_4 x0 8))) : Rg (0) (0) ((hI h_4 x0 8))); have := hq_.1; have := hq_.2; have : (hI h_4 x0 8).toInt = ((0 : Int32) : Int32).toInt := congrArg Int32.toInt (he_s w_5); have : ((0 : Int32)).toInt = 0 := rfl; have hq_ := ((thI T_6 r_x0 (k := 16) (i := 8) rfl : Rg (0) (1200) ((hI o_5 x0 8))) : Rg (0) (1200) ((hI o_5 x0 8))); have := hq_.1; have := hq_.2; have hq_ := ((thI T_6 r_x0 (k := 16) (i := 6) rfl : Rg (0) (5) ((hI o_5 x0 6))) : Rg (0) (5) ((hI o_5 x0 6))); have := hq_.1; have := hq_.2; have hq_ := ((thI T_7 r_x0 (k := 16) (i := 8) rfl : Rg (0) (1200) ((hI o_6.2 x0 8))) : Rg (0) (1200) ((hI o_6.2 x0 8))); have := hq_.1; have := hq_.2; have : (hI o_6.2 x0 8).toInt = (hI o_5 x0 8).toInt := congrArg Int32.toInt (he_e e_o_6); have hq_ := ((thI T_11 r_x0 (k := 16) (i := 8) rfl : Rg (0) (1200) ((hI o_8 x0 8))) : Rg (0) (1200) ((hI o_8 x0 8))); have := hq_.1; have := hq_.2; have := (p_f_16.2 : Rg (2) (2) ((hI o_8 x0 6))).1; have := (p_f_16.2 : Rg (2) (2) ((hI o_8 x0 6))).2; omega))) (fun o_18 T_30 f_o_18 p_o_18 => ?_)
        have pq_o_18_0 : ((hI h_17 x0 8).toInt) ≤ (hI o_18 x0 8).toInt := p_o_18.1
        have pq_o_18_1 : (hI o_18 x0 8).toInt ≤ ((x2).toInt) := p_o_18.2.1
        have pq_o_18_2 : (hI o_18 x0 6).toInt = 4 ∨ ((hI h_17 x0 8).toInt) < (hI o_18 x0 8).toInt := p_o_18.2.2.1
        refine s_dP0 (zX15_isSign hF T_30 r_x0 r_x1 (rg_m (rg_b rfl : Rg (59) (59) ((59 : Int32))) (by decide))) (fun o_19 eb_o_19 e_o_19 i_o_19 p_o_19 => ?_)
        have T_31 := th_eq e_o_19 T_30
        refine s_br (fun c_32 => ?_) (fun c_32 => ?_)
        · have _ := c_32
          have i_f_33 : Rg (0) (0) (o_19.1) := rg_eq c_32 (rg_b rfl : Rg (0) (0) (0 : Int32))
          exact s_some ⟨⟨(T_31), (rg_m (rg_b rfl : Rg (0) (0) ((0 : Int32))) (by decide))⟩, (fun q => absurd q (show ¬ (¬ ((0 : Int32)).toInt = 0) from (by have : ((0 : Int32)).toInt = 0 := rfl; have hq_ := ((thI T_17 r_x0 (k := 16) (i := 8) rfl : Rg (0) (1200) ((hI h_12 x0 8))) : Rg (0) (1200) ((hI h_12 x0 8))); have := hq_.1; have := hq_.2; have : (hI h_12 x0 8).toInt = (hI o_9.2 x0 8).toInt := congrArg Int32.toInt (he_w w_18 (ne_r r_x0 q_r_1 (by decide))); have : (hI o_9.2 x0 8).toInt = (hI o_8 x0 8).toInt := congrArg Int32.toInt (he_e e_o_9); have hq_ := ((thI T_20 r_x0 (k := 16) (i := 8) rfl : Rg (0) (1200) ((hI o_13 x0 8))) : Rg (0) (1200) ((hI o_13 x0 8))); have := hq_.1; have := hq_.2; have := (i_x2 : Rg (0) (1200) (x2)).1; have := (i_x2 : Rg (0) (1200) (x2)).2; have := (p_f_25.2 : Rg (2) (2) ((hI o_13 x0 6))).1; have := (p_f_25.2 : Rg (2) (2) ((hI o_13 x0 6))).2; have hq_ := ((thI T_26 r_x0 (k := 16) (i := 8) rfl : Rg (0) (1200) ((hI h_17 x0 8))) : Rg (0) (1200) ((hI h_17 x0 8))); have := hq_.1; have := hq_.2; have : (hI h_17 x0 8).toInt = (hI o_14.2 x0 8).toInt := congrArg Int32.toInt (he_w w_27 (ne_r r_x0 q_r_1 (by decide))); have : (hI o_14.2 x0 8).toInt = (hI o_13 x0 8).toInt := congrArg Int32.toInt (he_e e_o_14); have hq_ := ((thI T_30 r_x0 (k := 16) (i := 8) rfl : Rg (0) (1200) ((hI o_18 x0 8))) : Rg (0) (1200) ((hI o_18 x0 8))); have := hq_.1; have := hq_.2; have hq_ := ((thI T_30 r_x0 (k := 16) (i := 6) rfl : Rg (0) (5) ((hI o_18 x0 6))) : Rg (0) (5) ((hI o_18 x0 6))); have := hq_.1; have := hq_.2; have hq_ := (((rg_hs w_5 (rg_b rfl : Rg (0) (0) ((0 : Int32)))) : Rg (0) (0) ((hI h_4 x0 8))) : Rg (0) (0) ((hI h_4 x0 8))); have := hq_.1; have := hq_.2; have : (hI h_4 x0 8).toInt = ((0 : Int32) : Int32).toInt := congrArg Int32.toInt (he_s w_5); have hq_ := ((thI T_6 r_x0 (k := 16) (i := 8) rfl : Rg (0) (1200) ((hI o_5 x0 8))) : Rg (0) (1200) ((hI o_5 x0 8))); have := hq_.1; have := hq_.2; have hq_ := ((thI T_6 r_x0 (k := 16) (i := 6) rfl : Rg (0) (5) ((hI o_5 x0 6))) : Rg (0) (5) ((hI o_5 x0 6))); have := hq_.1; have := hq_.2; have hq_ := ((thI T_7 r_x0 (k := 16) (i := 8) rfl : Rg (0) (1200) ((hI o_6.2 x0 8))) : Rg (0) (1200) ((hI o_6.2 x0 8))); have := hq_.1; have := hq_.2; have : (hI o_6.2 x0 8).toInt = (hI o_5 x0 8).toInt := congrArg Int32.toInt (he_e e_o_6); have hq_ := ((thI T_11 r_x0 (k := 16) (i := 8) rfl : Rg (0) (1200) ((hI o_8 x0 8))) : Rg (0) (1200) ((hI o_8 x0 8))); have := hq_.1; have := hq_.2; have := (p_f_16.2 : Rg (2) (2) ((hI o_8 x0 6))).1; have := (p_f_16.2 : Rg (2) (2) ((hI o_8 x0 6))).2; have : (o_19.1).toInt = 0 ∨ (3 ≤ ((hI o_18 x0 6)).toInt ∧ ((hI o_18 x0 6)).toInt ≤ 3) := p1_or p_o_19; have := (i_f_33 : Rg (0) (0) (o_19.1)).1; have := (i_f_33 : Rg (0) (0) (o_19.1)).2; have := eq_i c_32; have : (0 : Int32).toInt = 0 := rfl; omega)))⟩
        · have _ := c_32
          have i_f_34 : Rg (1) (1) (o_19.1) := rg_nlo c_32 i_o_19 (rg_b rfl : Rg (0) (0) (0 : Int32))
          have p_f_35 := p_o_19 c_32
          refine s_cVfq (S := fS [(16, 6), (16, 7), (16, 8), (16, 9)] []) T_31 (fs_sub (pmA_s hA rfl) fs_n) (zX15_nextToken hF fs_a (th_in _ T_31) r_x0 r_x1 i_x2 (show (hI o_19.2 x0 8).toInt ≤ (x2).toInt from (by have := (i_x2 : Rg (0) (1200) (x2)).1; have := (i_x2 : Rg (0) (1200) (x2)).2; have hq_ := ((thI T_31 r_x0 (k := 16) (i := 8) rfl : Rg (0) (1200) ((hI o_19.2 x0 8))) : Rg (0) (1200) ((hI o_19.2 x0 8))); have := hq_.1; have := hq_.2; have : (hI o_19.2 x0 8).toInt = (hI o_18 x0 8).toInt := congrArg Int32.toInt (he_e e_o_19); have hq_ := ((thI T_17 r_x0 (k := 16) (i := 8) rfl : Rg (0) (1200) ((hI h_12 x0 8))) : Rg (0) (1200) ((hI h_12 x0 8))); have := hq_.1; have := hq_.2; have : (hI h_12 x0 8).toInt = (hI o_9.2 x0 8).toInt := congrArg Int32.toInt (he_w w_18 (ne_r r_x0 q_r_1 (by decide))); have : (hI o_9.2 x0 8).toInt = (hI o_8 x0 8).toInt := congrArg Int32.toInt (he_e e_o_9); have hq_ := ((thI T_20 r_x0 (k := 16) (i := 8) rfl : Rg (0) (1200) ((hI o_13 x0 8))) : Rg (0) (1200) ((hI o_13 x0 8))); have := hq_.1; have := hq_.2; have := (p_f_25.2 : Rg (2) (2) ((hI o_13 x0 6))).1; have := (p_f_25.2 : Rg (2) (2) ((hI o_13 x0 6))).2; have hq_ := ((thI T_26 r_x0 (k := 16) (i := 8) rfl : Rg (0) (1200) ((hI h_17 x0 8))) : Rg (0) (1200) ((hI h_17 x0 8))); have := hq_.1; have := hq_.2; have : (hI h_17 x0 8).toInt = (hI o_14.2 x0 8).toInt := congrArg Int32.toInt (he_w w_27 (ne_r r_x0 q_r_1 (by decide))); have : (hI o_14.2 x0 8).toInt = (hI o_13 x0 8).toInt := congrArg Int32.toInt (he_e e_o_14); have hq_ := ((thI T_30 r_x0 (k := 16) (i := 8) rfl : Rg (0) (1200) ((hI o_18 x0 8))) : Rg (0) (1200) ((hI o_18 x0 8))); have := hq_.1; have := hq_.2; have := (p_f_35 : Rg (3) (3) ((hI o_18 x0 6))).1; have := (p_f_35 : Rg (3) (3) ((hI o_18 x0 6))).2; have hq_ := (((rg_hs w_5 (rg_b rfl : Rg (0) (0) ((0 : Int32)))) : Rg (0) (0) ((hI h_4 x0 8))) : Rg (0) (0) ((hI h_4 x0 8))); have := hq_.1; have := hq_.2; have : (hI h_4 x0 8).toInt = ((0 : Int32) : Int32).toInt := congrArg Int32.toInt (he_s w_5); have : ((0 : Int32)).toInt = 0 := rfl; have hq_ := ((thI T_6 r_x0 (k := 16) (i := 8) rfl : Rg (0) (1200) ((hI o_5 x0 8))) : Rg (0) (1200) ((hI o_5 x0 8))); have := hq_.1; have := hq_.2; have hq_ := ((thI T_6 r_x0 (k := 16) (i := 6) rfl : Rg (0) (5) ((hI o_5 x0 6))) : Rg (0) (5) ((hI o_5 x0 6))); have := hq_.1; have := hq_.2; have hq_ := ((thI T_7 r_x0 (k := 16) (i := 8) rfl : Rg (0) (1200) ((hI o_6.2 x0 8))) : Rg (0) (1200) ((hI o_6.2 x0 8))); have := hq_.1; have := hq_.2; have : (hI o_6.2 x0 8).toInt = (hI o_5 x0 8).toInt := congrArg Int32.toInt (he_e e_o_6); have hq_ := ((thI T_11 r_x0 (k := 16) (i := 8) rfl : Rg (0) (1200) ((hI o_8 x0 8))) : Rg (0) (1200) ((hI o_8 x0 8))); have := hq_.1; have := hq_.2; have := (p_f_16.2 : Rg (2) (2) ((hI o_8 x0 6))).1; have := (p_f_16.2 : Rg (2) (2) ((hI o_8 x0 6))).2; omega))) (fun o_21 T_36 f_o_21 p_o_21 => ?_)
          have pq_o_21_0 : ((hI o_19.2 x0 8).toInt) ≤ (hI o_21 x0 8).toInt := p_o_21.1
          have pq_o_21_1 : (hI o_21 x0 8).toInt ≤ ((x2).toInt) := p_o_21.2.1
          have pq_o_21_2 : (hI o_21 x0 6).toInt = 4 ∨ ((hI o_19.2 x0 8).toInt) < (hI o_21 x0 8).toInt := p_o_21.2.2.1
          have pf_37 : FreshZ x0 o_21 := (fz_fr T_31 r_x0 f_o_21 (fun _ => rfl) (fun _ => rfl) (fun _ => rfl) (fun _ _ => rfl) (by rw [e_o_19]; exact (fz_fr T_26 r_x0 f_o_18 (fun _ => rfl) (fun _ => rfl) (fun _ => rfl) (fun _ _ => rfl) (fz_fr T_21 r_x0 (fr1I (A := [(15, 1)]) q_r_1 rfl w_27) (fun _ => rfl) (fun _ => rfl) (fun _ => rfl) (fun _ _ => rfl) (by rw [e_o_14]; exact (fz_fr T_17 r_x0 f_o_13 (fun _ => rfl) (fun _ => rfl) (fun _ => rfl) (fun _ _ => rfl) (fz_fr T_12 r_x0 (fr1I (A := [(15, 0)]) q_r_1 rfl w_18) (fun _ => rfl) (fun _ => rfl) (fun _ => rfl) (fun _ _ => rfl) (by rw [e_o_9]; exact (fz_fr T_7 r_x0 f_o_8 (fun _ => rfl) (fun _ => rfl) (fun _ => rfl) (fun _ _ => rfl) (by rw [e_o_6]; exact (fz_fr T_4 r_x0 f_o_5 (fun _ => rfl) (fun _ => rfl) (fun _ => rfl) (fun _ _ => rfl) (fz_fr T_2 r_x0 (fr1I (A := [(16, 8)]) r_x0 rfl w_5) (fun _ => rfl) (fun _ => rfl) (fun _ => rfl) (fun _ _ => rfl) (fz_fr T_1 r_x0 (fr1I (A := [(16, 10)]) r_x0 rfl w_3) (fun _ => rfl) (fun _ => rfl) (fun _ => rfl) (fun _ _ => rfl) (fz_clear f_o_2 r_x0 e_r_1 (fun _ => rfl) p_o_2))))))))))))))
          have pf_38 : FrB x0 o_21 := (fb_fr T_31 r_x0 f_o_21 (fun _ => rfl) (fun _ => rfl) (fun _ => rfl) (by rw [e_o_19]; exact (fb_fr T_26 r_x0 f_o_18 (fun _ => rfl) (fun _ => rfl) (fun _ => rfl) (fb_w pf_29 (hr_e e_o_14 (hr_q (fr_R f_o_13 r_x0 (by decide) rfl rfl) (hr_w w_18 (hr_e e_o_9 (hr_q (fr_R f_o_8 r_x0 (by decide) rfl rfl) (hr_e e_o_6 (hr_q (fr_R f_o_5 r_x0 (by decide) rfl rfl) (hr_w w_5 (hr_w w_3 (hr_q (fr_R f_o_2 r_x0 (by decide) rfl rfl) e_r_1)))))))))) w_27 es_28))))
          exact zX15_isRules_117 hF (pmA_s hA rfl) F T_36 r_x0 r_x1 i_x2 (show (hI o_21 x0 8).toInt ≤ (x2).toInt from (by have := (i_x2 : Rg (0) (1200) (x2)).1; have := (i_x2 : Rg (0) (1200) (x2)).2; have hq_ := ((thI T_36 r_x0 (k := 16) (i := 8) rfl : Rg (0) (1200) ((hI o_21 x0 8))) : Rg (0) (1200) ((hI o_21 x0 8))); have := hq_.1; have := hq_.2; have hq_ := ((thI T_17 r_x0 (k := 16) (i := 8) rfl : Rg (0) (1200) ((hI h_12 x0 8))) : Rg (0) (1200) ((hI h_12 x0 8))); have := hq_.1; have := hq_.2; have : (hI h_12 x0 8).toInt = (hI o_9.2 x0 8).toInt := congrArg Int32.toInt (he_w w_18 (ne_r r_x0 q_r_1 (by decide))); have : (hI o_9.2 x0 8).toInt = (hI o_8 x0 8).toInt := congrArg Int32.toInt (he_e e_o_9); have hq_ := ((thI T_20 r_x0 (k := 16) (i := 8) rfl : Rg (0) (1200) ((hI o_13 x0 8))) : Rg (0) (1200) ((hI o_13 x0 8))); have := hq_.1; have := hq_.2; have := (p_f_25.2 : Rg (2) (2) ((hI o_13 x0 6))).1; have := (p_f_25.2 : Rg (2) (2) ((hI o_13 x0 6))).2; have hq_ := ((thI T_26 r_x0 (k := 16) (i := 8) rfl : Rg (0) (1200) ((hI h_17 x0 8))) : Rg (0) (1200) ((hI h_17 x0 8))); have := hq_.1; have := hq_.2; have : (hI h_17 x0 8).toInt = (hI o_14.2 x0 8).toInt := congrArg Int32.toInt (he_w w_27 (ne_r r_x0 q_r_1 (by decide))); have : (hI o_14.2 x0 8).toInt = (hI o_13 x0 8).toInt := congrArg Int32.toInt (he_e e_o_14); have hq_ := ((thI T_30 r_x0 (k := 16) (i := 8) rfl : Rg (0) (1200) ((hI o_18 x0 8))) : Rg (0) (1200) ((hI o_18 x0 8))); have := hq_.1; have := hq_.2; have := (p_f_35 : Rg (3) (3) ((hI o_18 x0 6))).1; have := (p_f_35 : Rg (3) (3) ((hI o_18 x0 6))).2; have hq_ := ((thI T_31 r_x0 (k := 16) (i := 8) rfl : Rg (0) (1200) ((hI o_19.2 x0 8))) : Rg (0) (1200) ((hI o_19.2 x0 8))); have := hq_.1; have := hq_.2; have : (hI o_19.2 x0 8).toInt = (hI o_18 x0 8).toInt := congrArg Int32.toInt (he_e e_o_19); have hq_ := ((thI T_36 r_x0 (k := 16) (i := 6) rfl : Rg (0) (5) ((hI o_21 x0 6))) : Rg (0) (5) ((hI o_21 x0 6))); have := hq_.1; have := hq_.2; have hq_ := (((rg_hs w_5 (rg_b rfl : Rg (0) (0) ((0 : Int32)))) : Rg (0) (0) ((hI h_4 x0 8))) : Rg (0) (0) ((hI h_4 x0 8))); have := hq_.1; have := hq_.2; have : (hI h_4 x0 8).toInt = ((0 : Int32) : Int32).toInt := congrArg Int32.toInt (he_s w_5); have : ((0 : Int32)).toInt = 0 := rfl; have hq_ := ((thI T_6 r_x0 (k := 16) (i := 8) rfl : Rg (0) (1200) ((hI o_5 x0 8))) : Rg (0) (1200) ((hI o_5 x0 8))); have := hq_.1; have := hq_.2; have hq_ := ((thI T_6 r_x0 (k := 16) (i := 6) rfl : Rg (0) (5) ((hI o_5 x0 6))) : Rg (0) (5) ((hI o_5 x0 6))); have := hq_.1; have := hq_.2; have hq_ := ((thI T_7 r_x0 (k := 16) (i := 8) rfl : Rg (0) (1200) ((hI o_6.2 x0 8))) : Rg (0) (1200) ((hI o_6.2 x0 8))); have := hq_.1; have := hq_.2; have : (hI o_6.2 x0 8).toInt = (hI o_5 x0 8).toInt := congrArg Int32.toInt (he_e e_o_6); have hq_ := ((thI T_11 r_x0 (k := 16) (i := 8) rfl : Rg (0) (1200) ((hI o_8 x0 8))) : Rg (0) (1200) ((hI o_8 x0 8))); have := hq_.1; have := hq_.2; have := (p_f_16.2 : Rg (2) (2) ((hI o_8 x0 6))).1; have := (p_f_16.2 : Rg (2) (2) ((hI o_8 x0 6))).2; omega)) pf_37 pf_38 (show ((if (hI o_21 x0 6).toInt = 4 then 0 else 1202 - (hI o_21 x0 8).toInt) - 0).toNat < F from (by have := (i_x2 : Rg (0) (1200) (x2)).1; have := (i_x2 : Rg (0) (1200) (x2)).2; have hq_ := ((thI T_36 r_x0 (k := 16) (i := 6) rfl : Rg (0) (5) ((hI o_21 x0 6))) : Rg (0) (5) ((hI o_21 x0 6))); have := hq_.1; have := hq_.2; have hq_ := ((thI T_36 r_x0 (k := 16) (i := 8) rfl : Rg (0) (1200) ((hI o_21 x0 8))) : Rg (0) (1200) ((hI o_21 x0 8))); have := hq_.1; have := hq_.2; have hq_ := ((thI T_17 r_x0 (k := 16) (i := 8) rfl : Rg (0) (1200) ((hI h_12 x0 8))) : Rg (0) (1200) ((hI h_12 x0 8))); have := hq_.1; have := hq_.2; have : (hI h_12 x0 8).toInt = (hI o_9.2 x0 8).toInt := congrArg Int32.toInt (he_w w_18 (ne_r r_x0 q_r_1 (by decide))); have : (hI o_9.2 x0 8).toInt = (hI o_8 x0 8).toInt := congrArg Int32.toInt (he_e e_o_9); have hq_ := ((thI T_20 r_x0 (k := 16) (i := 8) rfl : Rg (0) (1200) ((hI o_13 x0 8))) : Rg (0) (1200) ((hI o_13 x0 8))); have := hq_.1; have := hq_.2; have := (p_f_25.2 : Rg (2) (2) ((hI o_13 x0 6))).1; have := (p_f_25.2 : Rg (2) (2) ((hI o_13 x0 6))).2; have hq_ := ((thI T_26 r_x0 (k := 16) (i := 8) rfl : Rg (0) (1200) ((hI h_17 x0 8))) : Rg (0) (1200) ((hI h_17 x0 8))); have := hq_.1; have := hq_.2; have : (hI h_17 x0 8).toInt = (hI o_14.2 x0 8).toInt := congrArg Int32.toInt (he_w w_27 (ne_r r_x0 q_r_1 (by decide))); have : (hI o_14.2 x0 8).toInt = (hI o_13 x0 8).toInt := congrArg Int32.toInt (he_e e_o_14); have hq_ := ((thI T_30 r_x0 (k := 16) (i := 8) rfl : Rg (0) (1200) ((hI o_18 x0 8))) : Rg (0) (1200) ((hI o_18 x0 8))); have := hq_.1; have := hq_.2; have := (p_f_35 : Rg (3) (3) ((hI o_18 x0 6))).1; have := (p_f_35 : Rg (3) (3) ((hI o_18 x0 6))).2; have hq_ := ((thI T_31 r_x0 (k := 16) (i := 8) rfl : Rg (0) (1200) ((hI o_19.2 x0 8))) : Rg (0) (1200) ((hI o_19.2 x0 8))); have := hq_.1; have := hq_.2; have : (hI o_19.2 x0 8).toInt = (hI o_18 x0 8).toInt := congrArg Int32.toInt (he_e e_o_19); have hq_ := (((rg_hs w_5 (rg_b rfl : Rg (0) (0) ((0 : Int32)))) : Rg (0) (0) ((hI h_4 x0 8))) : Rg (0) (0) ((hI h_4 x0 8))); have := hq_.1; have := hq_.2; have : (hI h_4 x0 8).toInt = ((0 : Int32) : Int32).toInt := congrArg Int32.toInt (he_s w_5); have : ((0 : Int32)).toInt = 0 := rfl; have hq_ := ((thI T_6 r_x0 (k := 16) (i := 8) rfl : Rg (0) (1200) ((hI o_5 x0 8))) : Rg (0) (1200) ((hI o_5 x0 8))); have := hq_.1; have := hq_.2; have hq_ := ((thI T_6 r_x0 (k := 16) (i := 6) rfl : Rg (0) (5) ((hI o_5 x0 6))) : Rg (0) (5) ((hI o_5 x0 6))); have := hq_.1; have := hq_.2; have hq_ := ((thI T_7 r_x0 (k := 16) (i := 8) rfl : Rg (0) (1200) ((hI o_6.2 x0 8))) : Rg (0) (1200) ((hI o_6.2 x0 8))); have := hq_.1; have := hq_.2; have : (hI o_6.2 x0 8).toInt = (hI o_5 x0 8).toInt := congrArg Int32.toInt (he_e e_o_6); have hq_ := ((thI T_11 r_x0 (k := 16) (i := 8) rfl : Rg (0) (1200) ((hI o_8 x0 8))) : Rg (0) (1200) ((hI o_8 x0 8))); have := hq_.1; have := hq_.2; have := (p_f_16.2 : Rg (2) (2) ((hI o_8 x0 6))).1; have := (p_f_16.2 : Rg (2) (2) ((hI o_8 x0 6))).2; omega))
set_option maxRecDepth 20000 in
theorem zX15_key {ρ : Nat → Nat} {c : Cm} {F : Nat} (hF : 700000 ≤ F) {h : Hp} {x0 : Nat} {x1 : Int32} (T : TH ρ c h) (r_x0 : ρ x0 = 16) (i_x1 : Rg (-2147483648) (2147483647) (x1)) : Sat (sX15_key h x0 x1) (ZI0 h (-1) (2999)) := by
  unfold sX15_key sX15_key_19 sX15_key_29
  refine s_dI0 (zX15_isProblem hF T r_x0) (fun o_1 eb_o_1 e_o_1 i_o_1 => ?_)
  have T_1 := th_eq e_o_1 T
  refine s_br (fun c_2 => ?_) (fun c_2 => ?_)
  · have _ := c_2
    have i_f_3 : Rg (0) (0) (o_1.1) := rg_eq c_2 (rg_b rfl : Rg (0) (0) (0 : Int32))
    exact s_some ⟨(e_o_1.trans rfl), (rg_m (rg_b rfl : Rg (-1) (-1) ((- 1 : Int32))) (by decide))⟩
  · have _ := c_2
    have i_f_4 : Rg (1) (1) (o_1.1) := rg_nlo c_2 i_o_1 (rg_b rfl : Rg (0) (0) (0 : Int32))
    refine s_br (fun c_5 => ?_) (fun c_5 => ?_)
    · have _ := c_5
      have i_f_6 : Rg (-2147483648) (-1) (x1) := rg_lt1 c_5 i_x1 (rg_b rfl : Rg (0) (0) (0 : Int32))
      exact s_some ⟨(e_o_1.trans rfl), (rg_m (rg_b rfl : Rg (-1) (-1) ((- 1 : Int32))) (by decide))⟩
    · have _ := c_5
      have i_f_7 : Rg (0) (2147483647) (x1) := rg_le2 (nlt_le c_5) (rg_b rfl : Rg (0) (0) (0 : Int32)) i_x1
      refine s_br (fun c_8 => ?_) (fun c_8 => ?_)
      · have _ := c_8
        have i_f_9 : Rg (0) (2999) (x1) := rg_lt1 c_8 i_f_7 (thI T_1 r_x0 (k := 16) (i := 70) rfl : Rg (0) (3000) ((hI o_1.2 x0 70)))
        have i_f_10 : Rg (1) (3000) ((hI o_1.2 x0 70)) := rg_lt2 c_8 i_f_7 (thI T_1 r_x0 (k := 16) (i := 70) rfl : Rg (0) (3000) ((hI o_1.2 x0 70)))
        obtain ⟨r_5, e_r_5, q_r_5⟩ := thR T_1 r_x0 (k := 16) (i := 69) (k2 := 111) rfl (by decide)
        refine s_ref e_r_5 ?_
        refine s_gd (by rw [thN T_1 q_r_5 (k := 111) (n := 3000) rfl (by decide)]; exact rg_inB (i_f_9 : Rg (0) (2999) (x1)) (by decide)) ?_
        exact s_some ⟨(e_o_1.trans rfl), (rg_m (thI T_1 q_r_5 (k := 111) rfl : Rg (0) (2999) ((hI o_1.2 r_5 x1.toNatClampNeg))) (by decide))⟩
      · have _ := c_8
        exact s_some ⟨(e_o_1.trans rfl), (rg_m (rg_b rfl : Rg (-1) (-1) ((- 1 : Int32))) (by decide))⟩
set_option maxRecDepth 20000 in
theorem zX15_meet_21 {ρ : Nat → Nat} {c : Cm} {F : Nat} (hF : 700000 ≤ F) (hA : pmA c [(16, 62), (16, 63)]) {h : Hp} {x0 : Nat} {x1 : Int32} {x2 : Int32} {t0 : Int32} {t1 : Int32} {t2 : Nat} (T : TH ρ c h) (r_x0 : ρ x0 = 16) (i_x1 : Rg (-1000000) (3000000) (x1)) (i_x2 : Rg (-2147483648) (2147483647) (x2)) (i_t0 : Rg (0) (1) (t0)) (i_t1 : Rg (0) (1) (t1)) (r_t2 : ρ t2 = 16) : Sat (sX15_meet_21 h x0 x1 x2 t0 t1 t2) (ZV ρ c) := by
  unfold sX15_meet_21 sX15_meet_50 sX15_meet_51
  refine s_gd (rg_bool (rg_or (n := 1) (rg_m i_t1 (by decide) : Rg (0) (1) (t1)) (rg_m i_t0 (by decide) : Rg (0) (1) (t0)) (by decide) : Rg (0) (1) ((t1 ||| t0)))) ?_
  refine s_hq (th_wI T r_t2 (k := 16) (lo := (0)) (hi := (1)) rfl ((rg_or (n := 1) (rg_m i_t1 (by decide) : Rg (0) (1) (t1)) (rg_m i_t0 (by decide) : Rg (0) (1) (t0)) (by decide) : Rg (0) (1) ((t1 ||| t0))) : Rg (0) (1) ((t1 ||| t0))) (by decide) (by decide) (pm_a hA rfl)) (fun h_2 T_1 w_2 => ?_)
  refine s_br (fun c_3 => ?_) (fun c_3 => ?_)
  · have _ := c_3
    refine s_gd (rg_bool (rg_m (rg_and (rg_b rfl : Rg (0) (0) ((0 : Int32))) (by decide) : Rg (0) (0) (((hI h_2 x0 63) &&& (0 : Int32)))) (by decide))) ?_
    refine s_hq (th_wI T_1 r_x0 (k := 16) (lo := (0)) (hi := (1)) rfl ((rg_m (rg_and (rg_b rfl : Rg (0) (0) ((0 : Int32))) (by decide) : Rg (0) (0) (((hI h_2 x0 63) &&& (0 : Int32)))) (by decide)) : Rg (0) (1) (((hI h_2 x0 63) &&& (0 : Int32)))) (by decide) (by decide) (pm_a hA rfl)) (fun h_2q2 T_4 w_5 => ?_)
    exact s_some (T_4)
  · have _ := c_3
    refine s_br (fun c_6 => ?_) (fun c_6 => ?_)
    · have _ := c_6
      have i_f_7 : Rg (1000001) (3000000) (x1) := rg_lt2 c_6 (rg_b rfl : Rg (1000000) (1000000) ((1000000 : Int32))) i_x1
      refine s_gd (rg_bool (rg_m (rg_and (rg_b rfl : Rg (0) (0) ((0 : Int32))) (by decide) : Rg (0) (0) (((hI h_2 x0 63) &&& (0 : Int32)))) (by decide))) ?_
      refine s_hq (th_wI T_1 r_x0 (k := 16) (lo := (0)) (hi := (1)) rfl ((rg_m (rg_and (rg_b rfl : Rg (0) (0) ((0 : Int32))) (by decide) : Rg (0) (0) (((hI h_2 x0 63) &&& (0 : Int32)))) (by decide)) : Rg (0) (1) (((hI h_2 x0 63) &&& (0 : Int32)))) (by decide) (by decide) (pm_a hA rfl)) (fun h_2q4 T_8 w_9 => ?_)
      exact s_some (T_8)
    · have _ := c_6
      have i_f_10 : Rg (-1000000) (1000000) (x1) := rg_le1 (nlt_le c_6) i_x1 (rg_b rfl : Rg (1000000) (1000000) ((1000000 : Int32)))
      refine s_gd (rg_bool (rg_and (rg_b rfl : Rg (1) (1) ((1 : Int32))) (by decide) : Rg (0) (1) (((hI h_2 x0 63) &&& (1 : Int32))))) ?_
      refine s_hq (th_wI T_1 r_x0 (k := 16) (lo := (0)) (hi := (1)) rfl ((rg_and (rg_b rfl : Rg (1) (1) ((1 : Int32))) (by decide) : Rg (0) (1) (((hI h_2 x0 63) &&& (1 : Int32)))) : Rg (0) (1) (((hI h_2 x0 63) &&& (1 : Int32)))) (by decide) (by decide) (pm_a hA rfl)) (fun h_2q5 T_11 w_12 => ?_)
      exact s_some (T_11)
set_option maxRecDepth 20000 in
theorem zX15_meet {ρ : Nat → Nat} {c : Cm} {F : Nat} (hF : 700000 ≤ F) (hA : pmA c [(16, 62), (16, 63)]) {h : Hp} {x0 : Nat} {x1 : Int32} {x2 : Int32} (T : TH ρ c h) (r_x0 : ρ x0 = 16) (i_x1 : Rg (-1000000) (3000000) (x1)) (i_x2 : Rg (-2147483648) (2147483647) (x2)) : Sat (sX15_meet h x0 x1 x2) (ZV ρ c) := by
  unfold sX15_meet 
  refine s_br (fun c_1 => ?_) (fun c_1 => ?_)
  · have _ := c_1
    exact zX15_meet_21 hF (pmA_s hA rfl) T r_x0 i_x1 i_x2 (rg_m (rg_b rfl : Rg (1) (1) ((1 : Int32))) (by decide)) (thI T r_x0 (k := 16) (i := 62) rfl : Rg (0) (1) ((hI h x0 62))) r_x0
  · have _ := c_1
    exact zX15_meet_21 hF (pmA_s hA rfl) T r_x0 i_x1 i_x2 (rg_m (rg_b rfl : Rg (0) (0) ((0 : Int32))) (by decide)) (thI T r_x0 (k := 16) (i := 62) rfl : Rg (0) (1) ((hI h x0 62))) r_x0
set_option maxRecDepth 20000 in
theorem zX15_move {ρ : Nat → Nat} {c : Cm} {F : Nat} (hF : 700000 ≤ F) (hA : pmA c [(87, 999), (88, 999), (89, 999), (16, 23), (16, 24), (16, 29)]) (hi_2528 : pmO c 2528 [(62, 999), (63, 999), (64, 999), (65, 999), (13, 1), (13, 2), (13, 3), (13, 7)]) (hi_2530 : pmO c 2530 [(66, 999), (67, 999), (68, 999), (69, 999), (70, 999), (71, 999), (72, 999), (14, 0)]) {h : Hp} {x0 : Nat} {x1 : Int32} {x2 : Int32} {x3 : Int32} (T : TH ρ c h) (r_x0 : ρ x0 = 16) (i_x1 : Rg (-2147483648) (2147483647) (x1)) (i_x2 : Rg (-2147483648) (2147483647) (x2)) (i_x3 : Rg (-2147483648) (2147483647) (x3)) (bd : (BdP x0 h)) (sq : (SqOk x0 h)) : Sat (sX15_move F h x0 x1 x2 x3) (ZI ρ c (-102) (63)) := by
  unfold sX15_move sX15_move_9 sX15_move_37 sX15_move_133
  refine s_br (fun c_1 => ?_) (fun c_1 => ?_)
  · have _ := c_1
    have i_f_2 : Rg (-2147483648) (-1) (x3) := rg_lt1 c_1 i_x3 (rg_b rfl : Rg (0) (0) (0 : Int32))
    exact s_some ⟨(T), (rg_m (rg_b rfl : Rg (-101) (-101) ((- 101 : Int32))) (by decide))⟩
  · have _ := c_1
    have i_f_3 : Rg (0) (2147483647) (x3) := rg_le2 (nlt_le c_1) (rg_b rfl : Rg (0) (0) (0 : Int32)) i_x3
    refine s_br (fun c_4 => ?_) (fun c_4 => ?_)
    · have _ := c_4
      have i_f_5 : Rg (0) (5) (x3) := rg_le1 c_4 i_f_3 (rg_b rfl : Rg (5) (5) ((5 : Int32)))
      refine s_cIq (zX15_moves hF (pmA_s hA rfl) (pmO_s hi_2528 rfl) (pmO_s hi_2530 rfl) T r_x0 i_x1 bd sq) (fun o_3 T_6 i_o_3 p_o_3 => ?_)
      have pq_o_3_0 : o_3.1.toInt = -102 ∨ (0 ≤ (x1).toInt ∧ (x1).toInt ≤ 59) := p_o_3.1
      refine s_br (fun c_7 => ?_) (fun c_7 => ?_)
      · have _ := c_7
        have i_f_8 : Rg (-102) (-102) (o_3.1) := rg_eq c_7 (rg_b rfl : Rg (-102) (-102) ((- 102 : Int32)))
        exact s_some ⟨(T_6), (rg_m (rg_b rfl : Rg (-102) (-102) ((- 102 : Int32))) (by decide))⟩
      · have _ := c_7
        have i_f_9 : Rg (-101) (3000) (o_3.1) := rg_nlo c_7 i_o_3 (rg_b rfl : Rg (-102) (-102) ((- 102 : Int32)))
        refine s_br (fun c_10 => ?_) (fun c_10 => ?_)
        · have _ := c_10
          have i_f_11 : Rg (-2147483648) (-1) (x2) := rg_lt1 c_10 i_x2 (rg_b rfl : Rg (0) (0) (0 : Int32))
          exact s_some ⟨(T_6), (rg_m (rg_b rfl : Rg (-102) (-102) ((- 102 : Int32))) (by decide))⟩
        · have _ := c_10
          have i_f_12 : Rg (0) (2147483647) (x2) := rg_le2 (nlt_le c_10) (rg_b rfl : Rg (0) (0) (0 : Int32)) i_x2
          obtain ⟨r_6, e_r_6, q_r_6⟩ := thR T_6 r_x0 (k := 16) (i := 30) (k2 := 14) rfl (by decide)
          refine s_ref e_r_6 ?_
          refine s_br (fun c_13 => ?_) (fun c_13 => ?_)
          · have _ := c_13
            have i_f_14 : Rg (0) (2999) (x2) := rg_lt1 c_13 i_f_12 (thI T_6 q_r_6 (k := 14) (i := 0) rfl : Rg (0) (3000) ((hI o_3.2 r_6 0)))
            have i_f_15 : Rg (1) (3000) ((hI o_3.2 r_6 0)) := rg_lt2 c_13 i_f_12 (thI T_6 q_r_6 (k := 14) (i := 0) rfl : Rg (0) (3000) ((hI o_3.2 r_6 0)))
            refine s_br (fun c_16 => ?_) (fun c_16 => ?_)
            · have _ := c_16
              have i_f_17 : Rg (0) (0) (x3) := rg_eq c_16 (rg_b rfl : Rg (0) (0) (0 : Int32))
              refine s_ref e_r_6 ?_
              obtain ⟨r_29, e_r_29, q_r_29⟩ := thR T_6 q_r_6 (k := 14) (i := 1) (k2 := 66) rfl (by decide)
              refine s_ref e_r_29 ?_
              refine s_gd (by rw [thN T_6 q_r_29 (k := 66) (n := 3000) rfl (by decide)]; exact rg_inB (i_f_14 : Rg (0) (2999) (x2)) (by decide)) ?_
              exact s_some ⟨(T_6), (rg_m (thI T_6 q_r_29 (k := 66) rfl : Rg (-1) (63) ((hI o_3.2 r_29 x2.toNatClampNeg))) (by decide))⟩
            · have _ := c_16
              have i_f_18 : Rg (1) (5) (x3) := rg_nlo c_16 i_f_5 (rg_b rfl : Rg (0) (0) (0 : Int32))
              refine s_br (fun c_19 => ?_) (fun c_19 => ?_)
              · have _ := c_19
                have i_f_20 : Rg (1) (1) (x3) := rg_eq c_19 (rg_b rfl : Rg (1) (1) ((1 : Int32)))
                refine s_ref e_r_6 ?_
                obtain ⟨r_26, e_r_26, q_r_26⟩ := thR T_6 q_r_6 (k := 14) (i := 2) (k2 := 67) rfl (by decide)
                refine s_ref e_r_26 ?_
                refine s_gd (by rw [thN T_6 q_r_26 (k := 67) (n := 3000) rfl (by decide)]; exact rg_inB (i_f_14 : Rg (0) (2999) (x2)) (by decide)) ?_
                exact s_some ⟨(T_6), (rg_m (thI T_6 q_r_26 (k := 67) rfl : Rg (0) (63) ((hI o_3.2 r_26 x2.toNatClampNeg))) (by decide))⟩
              · have _ := c_19
                have i_f_21 : Rg (2) (5) (x3) := rg_nlo c_19 i_f_18 (rg_b rfl : Rg (1) (1) ((1 : Int32)))
                refine s_br (fun c_22 => ?_) (fun c_22 => ?_)
                · have _ := c_22
                  have i_f_23 : Rg (2) (2) (x3) := rg_eq c_22 (rg_b rfl : Rg (2) (2) ((2 : Int32)))
                  refine s_ref e_r_6 ?_
                  obtain ⟨r_23, e_r_23, q_r_23⟩ := thR T_6 q_r_6 (k := 14) (i := 3) (k2 := 68) rfl (by decide)
                  refine s_ref e_r_23 ?_
                  refine s_gd (by rw [thN T_6 q_r_23 (k := 68) (n := 3000) rfl (by decide)]; exact rg_inB (i_f_14 : Rg (0) (2999) (x2)) (by decide)) ?_
                  exact s_some ⟨(T_6), (rg_m (thI T_6 q_r_23 (k := 68) rfl : Rg (0) (11) ((hI o_3.2 r_23 x2.toNatClampNeg))) (by decide))⟩
                · have _ := c_22
                  have i_f_24 : Rg (3) (5) (x3) := rg_nlo c_22 i_f_21 (rg_b rfl : Rg (2) (2) ((2 : Int32)))
                  refine s_br (fun c_25 => ?_) (fun c_25 => ?_)
                  · have _ := c_25
                    have i_f_26 : Rg (3) (3) (x3) := rg_eq c_25 (rg_b rfl : Rg (3) (3) ((3 : Int32)))
                    refine s_ref e_r_6 ?_
                    obtain ⟨r_20, e_r_20, q_r_20⟩ := thR T_6 q_r_6 (k := 14) (i := 4) (k2 := 69) rfl (by decide)
                    refine s_ref e_r_20 ?_
                    refine s_gd (by rw [thN T_6 q_r_20 (k := 69) (n := 3000) rfl (by decide)]; exact rg_inB (i_f_14 : Rg (0) (2999) (x2)) (by decide)) ?_
                    exact s_some ⟨(T_6), (rg_m (thI T_6 q_r_20 (k := 69) rfl : Rg (-1) (11) ((hI o_3.2 r_20 x2.toNatClampNeg))) (by decide))⟩
                  · have _ := c_25
                    have i_f_27 : Rg (4) (5) (x3) := rg_nlo c_25 i_f_24 (rg_b rfl : Rg (3) (3) ((3 : Int32)))
                    refine s_br (fun c_28 => ?_) (fun c_28 => ?_)
                    · have _ := c_28
                      have i_f_29 : Rg (4) (4) (x3) := rg_eq c_28 (rg_b rfl : Rg (4) (4) ((4 : Int32)))
                      refine s_ref e_r_6 ?_
                      obtain ⟨r_17, e_r_17, q_r_17⟩ := thR T_6 q_r_6 (k := 14) (i := 5) (k2 := 70) rfl (by decide)
                      refine s_ref e_r_17 ?_
                      refine s_gd (by rw [thN T_6 q_r_17 (k := 70) (n := 3000) rfl (by decide)]; exact rg_inB (i_f_14 : Rg (0) (2999) (x2)) (by decide)) ?_
                      exact s_some ⟨(T_6), (rg_m (thI T_6 q_r_17 (k := 70) rfl : Rg (-1) (11) ((hI o_3.2 r_17 x2.toNatClampNeg))) (by decide))⟩
                    · have _ := c_28
                      have i_f_30 : Rg (5) (5) (x3) := rg_nlo c_28 i_f_27 (rg_b rfl : Rg (4) (4) ((4 : Int32)))
                      refine s_ref e_r_6 ?_
                      obtain ⟨r_14, e_r_14, q_r_14⟩ := thR T_6 q_r_6 (k := 14) (i := 6) (k2 := 71) rfl (by decide)
                      refine s_ref e_r_14 ?_
                      refine s_gd (by rw [thN T_6 q_r_14 (k := 71) (n := 3000) rfl (by decide)]; exact rg_inB (i_f_14 : Rg (0) (2999) (x2)) (by decide)) ?_
                      exact s_some ⟨(T_6), (rg_m (thI T_6 q_r_14 (k := 71) rfl : Rg (0) (3) ((hI o_3.2 r_14 x2.toNatClampNeg))) (by decide))⟩
          · have _ := c_13
            exact s_some ⟨(T_6), (rg_m (rg_b rfl : Rg (-102) (-102) ((- 102 : Int32))) (by decide))⟩
    · have _ := c_4
      have i_f_31 : Rg (6) (2147483647) (x3) := rg_lt2 (nle_lt c_4) (rg_b rfl : Rg (5) (5) ((5 : Int32))) i_f_3
      exact s_some ⟨(T), (rg_m (rg_b rfl : Rg (-101) (-101) ((- 101 : Int32))) (by decide))⟩
set_option maxRecDepth 20000 in
theorem zX15_out {ρ : Nat → Nat} {c : Cm} {F : Nat} (hF : 700000 ≤ F) {h : Hp} {x0 : Nat} {x1 : Int32} (T : TH ρ c h) (r_x0 : ρ x0 = 16) (i_x1 : Rg (-2147483648) (2147483647) (x1)) : Sat (sX15_out h x0 x1) (ZI0 h (-128) (127)) := by
  unfold sX15_out sX15_out_12 sX15_out_22
  refine s_br (fun c_1 => ?_) (fun c_1 => ?_)
  · have _ := c_1
    have i_f_2 : Rg (-2147483648) (-1) (x1) := rg_lt1 c_1 i_x1 (rg_b rfl : Rg (0) (0) (0 : Int32))
    exact s_some ⟨rfl, (rg_m (rg_b rfl : Rg (-1) (-1) ((- 1 : Int32))) (by decide))⟩
  · have _ := c_1
    have i_f_3 : Rg (0) (2147483647) (x1) := rg_le2 (nlt_le c_1) (rg_b rfl : Rg (0) (0) (0 : Int32)) i_x1
    refine s_br (fun c_4 => ?_) (fun c_4 => ?_)
    · have _ := c_4
      have i_f_5 : Rg (0) (255) (x1) := rg_lt1 c_4 i_f_3 (thI T r_x0 (k := 16) (i := 3) rfl : Rg (0) (256) ((hI h x0 3)))
      have i_f_6 : Rg (1) (256) ((hI h x0 3)) := rg_lt2 c_4 i_f_3 (thI T r_x0 (k := 16) (i := 3) rfl : Rg (0) (256) ((hI h x0 3)))
      obtain ⟨r_3, e_r_3, q_r_3⟩ := thR T r_x0 (k := 16) (i := 2) (k2 := 83) rfl (by decide)
      refine s_ref e_r_3 ?_
      refine s_gd (by rw [thN T q_r_3 (k := 83) (n := 256) rfl (by decide)]; exact rg_inB (i_f_5 : Rg (0) (255) (x1)) (by decide)) ?_
      exact s_some ⟨rfl, (thI T q_r_3 (k := 83) rfl : Rg (-128) (127) ((hI h r_3 x1.toNatClampNeg)))⟩
    · have _ := c_4
      exact s_some ⟨rfl, (rg_m (rg_b rfl : Rg (-1) (-1) ((- 1 : Int32))) (by decide))⟩
set_option maxRecDepth 20000 in
theorem zX15_played {ρ : Nat → Nat} {c : Cm} {F : Nat} (hF : 700000 ≤ F) {h : Hp} {x0 : Nat} {x1 : Int32} {x2 : Int32} (T : TH ρ c h) (r_x0 : ρ x0 = 16) (i_x1 : Rg (-2147483648) (2147483647) (x1)) (i_x2 : Rg (-2147483648) (2147483647) (x2)) : Sat (sX15_played h x0 x1 x2) (ZI0 h (-102) (2999)) := by
  unfold sX15_played sX15_played_34 sX15_played_51
  refine s_dP0 (zX15_isGame hF T i_x1) (fun o_1 eb_o_1 e_o_1 i_o_1 p_o_1 => ?_)
  have T_1 := th_eq e_o_1 T
  refine s_br (fun c_2 => ?_) (fun c_2 => ?_)
  · have _ := c_2
    have i_f_3 : Rg (0) (0) (o_1.1) := rg_eq c_2 (rg_b rfl : Rg (0) (0) (0 : Int32))
    exact s_some ⟨(e_o_1.trans rfl), (rg_m (rg_b rfl : Rg (-101) (-101) ((- 101 : Int32))) (by decide))⟩
  · have _ := c_2
    have i_f_4 : Rg (1) (1) (o_1.1) := rg_nlo c_2 i_o_1 (rg_b rfl : Rg (0) (0) (0 : Int32))
    have p_f_5 := p_o_1 c_2
    obtain ⟨r_3, e_r_3, q_r_3⟩ := thR T_1 r_x0 (k := 16) (i := 39) (k2 := 94) rfl (by decide)
    refine s_ref e_r_3 ?_
    refine s_gd (by rw [thN T_1 q_r_3 (k := 94) (n := 8) rfl (by decide)]; exact rg_inB (p_f_5 : Rg (0) (7) (x1)) (by decide)) ?_
    refine s_br (fun c_6 => ?_) (fun c_6 => ?_)
    · have _ := c_6
      have i_f_7 : Rg (-1) (-1) ((hI o_1.2 r_3 x1.toNatClampNeg)) := rg_eq c_6 (rg_b rfl : Rg (-1) (-1) ((- 1 : Int32)))
      exact s_some ⟨(e_o_1.trans rfl), (rg_m (rg_b rfl : Rg (-102) (-102) ((- 102 : Int32))) (by decide))⟩
    · have _ := c_6
      have i_f_8 : Rg (0) (300) ((hI o_1.2 r_3 x1.toNatClampNeg)) := rg_nlo c_6 (thI T_1 q_r_3 (k := 94) rfl : Rg (-1) (300) ((hI o_1.2 r_3 x1.toNatClampNeg))) (rg_b rfl : Rg (-1) (-1) ((- 1 : Int32)))
      refine s_br (fun c_9 => ?_) (fun c_9 => ?_)
      · have _ := c_9
        have i_f_10 : Rg (-2147483648) (-1) (x2) := rg_lt1 c_9 i_x2 (rg_b rfl : Rg (0) (0) (0 : Int32))
        exact s_some ⟨(e_o_1.trans rfl), (rg_m (rg_b rfl : Rg (-102) (-102) ((- 102 : Int32))) (by decide))⟩
      · have _ := c_9
        have i_f_11 : Rg (0) (2147483647) (x2) := rg_le2 (nlt_le c_9) (rg_b rfl : Rg (0) (0) (0 : Int32)) i_x2
        refine s_ref e_r_3 ?_
        refine s_gd (by rw [thN T_1 q_r_3 (k := 94) (n := 8) rfl (by decide)]; exact rg_inB (p_f_5 : Rg (0) (7) (x1)) (by decide)) ?_
        refine s_br (fun c_12 => ?_) (fun c_12 => ?_)
        · have _ := c_12
          have i_f_13 : Rg (0) (299) (x2) := rg_lt1 c_12 i_f_11 i_f_8
          have i_f_14 : Rg (1) (300) ((hI o_1.2 r_3 x1.toNatClampNeg)) := rg_lt2 c_12 i_f_11 i_f_8
          obtain ⟨r_10, e_r_10, q_r_10⟩ := thR T_1 r_x0 (k := 16) (i := 38) (k2 := 93) rfl (by decide)
          refine s_ref e_r_10 ?_
          refine s_gd (by rw [thN T_1 q_r_10 (k := 93) (n := 2408) rfl (by decide)]; exact rg_inB ((rg_m (rg_add (rg_mulc p_f_5 (rg_b rfl : Rg (301) (301) ((301 : Int32))) (by decide) : Rg (0) (2107) ((x1 * (301 : Int32)))) i_f_13 (by decide) : Rg (0) (2406) (((x1 * (301 : Int32)) + x2))) (by decide)) : Rg (0) (2407) (((x1 * (301 : Int32)) + x2))) (by decide)) ?_
          exact s_some ⟨(e_o_1.trans rfl), (rg_m (thI T_1 q_r_10 (k := 93) rfl : Rg (0) (2999) ((hI o_1.2 r_10 ((x1 * (301 : Int32)) + x2).toNatClampNeg))) (by decide))⟩
        · have _ := c_12
          exact s_some ⟨(e_o_1.trans rfl), (rg_m (rg_b rfl : Rg (-102) (-102) ((- 102 : Int32))) (by decide))⟩
set_option maxRecDepth 20000 in
theorem zX15_position {ρ : Nat → Nat} {c : Cm} {F : Nat} (hF : 700000 ≤ F) (hA : pmA c [(84, 999), (85, 999), (86, 999), (16, 1), (16, 16), (16, 17), (16, 18), (16, 19), (16, 20), (16, 23), (16, 24)]) (hi_2521 : pmO c 2521 [(62, 999), (63, 999), (64, 999), (65, 999), (13, 1), (13, 2), (13, 3), (13, 7)]) (hi_3400 : pmO c 3400 [(62, 999), (63, 999), (64, 999), (65, 999), (13, 1), (13, 2), (13, 3), (13, 7)]) {h : Hp} {x0 : Nat} (T : TH ρ c h) (r_x0 : ρ x0 = 16) (bd : (BdP x0 h)) (sq : (SqOk x0 h)) : Sat (sX15_position F h x0) (fun o => ∃ ρ' c', Ext ρ c ρ' c' ∧ TH ρ' c' o.2 ∧ Rg (-1400) (59) (o.1)) := by
  unfold sX15_position sX15_position_14 sX15_position_34 sX15_position_54 sX15_position_73
  refine s_q (fun v_1 e_1 => ?_)
  have i_v_1 : Rg (0) (1200) (v_1) := by rw [e_1]; exact (thI T r_x0 (k := 16) (i := 1) rfl : Rg (0) (1200) (hI h x0 1))
  refine s_hq (th_wI T r_x0 (k := 16) (lo := (0)) (hi := (1200)) rfl ((rg_m (rg_b rfl : Rg (0) (0) ((0 : Int32))) (by decide)) : Rg (0) (1200) ((0 : Int32))) (by decide) (by decide) (pm_a hA rfl)) (fun h_2 T_2 w_3 => ?_)
  refine s_dI0 (zX15_freePlace hF T_2 r_x0) (fun o_3 eb_o_3 e_o_3 i_o_3 => ?_)
  have T_4 := th_eq e_o_3 T_2
  refine s_br (fun c_5 => ?_) (fun c_5 => ?_)
  · have _ := c_5
    have i_f_6 : Rg (-1) (-1) (o_3.1) := rg_eq c_5 (rg_b rfl : Rg (-1) (-1) ((- 1 : Int32)))
    exact s_some ⟨_, _, ex_0, T_4, (rg_m (rg_b rfl : Rg (-104) (-104) ((- 104 : Int32))) (by decide))⟩
  · have _ := c_5
    have i_f_7 : Rg (0) (59) (o_3.1) := rg_nlo c_5 i_o_3 (rg_b rfl : Rg (-1) (-1) ((- 1 : Int32)))
    obtain ⟨r_2q1, e_r_2q1, q_r_2q1⟩ := thR T_4 r_x0 (k := 16) (i := 0) (k2 := 82) rfl (by decide)
    refine s_ref e_r_2q1 ?_
    obtain ⟨r_3q1, e_r_3q1, q_r_3q1⟩ := thR T_4 r_x0 (k := 16) (i := 21) (k2 := 13) rfl (by decide)
    refine s_ref e_r_3q1 ?_
    refine s_cIf (S := fS [(16, 17), (16, 18), (16, 19), (16, 20)] [(2521, [(62, 999), (63, 999), (64, 999), (65, 999), (13, 1), (13, 2), (13, 3), (13, 7)])]) T_4 (fs_sub (pmA_s hA rfl) (fs_c (pmO_s hi_2521 rfl) fs_n)) (zX15_isPosition hF fs_a (fs_o (.head _)) (th_id T_4 r_x0 (k := 16) (i := 21) (w := 2521) e_r_3q1 rfl (by decide)) (th_in _ T_4) r_x0 q_r_2q1 i_v_1 q_r_3q1) (fun o_4q1 T_8 i_o_4q1 f_o_4q1 => ?_)
    refine s_br (fun c_9 => ?_) (fun c_9 => ?_)
    · have _ := c_9
      have i_f_10 : Rg (0) (0) (o_4q1.1) := rg_eq c_9 (rg_b rfl : Rg (0) (0) (0 : Int32))
      exact s_some ⟨_, _, ex_0, T_8, (rg_m (rg_sub (rg_b rfl : Rg (-200) (-200) ((- 200 : Int32))) (thI T_8 r_x0 (k := 16) (i := 19) rfl : Rg (0) (1200) ((hI o_4q1.2 x0 19))) (by decide) : Rg (-1400) (-200) ((- 200 : Int32) - (hI o_4q1.2 x0 19))) (by decide))⟩
    · have _ := c_9
      have i_f_11 : Rg (1) (1) (o_4q1.1) := rg_nlo c_9 i_o_4q1 (rg_b rfl : Rg (0) (0) (0 : Int32))
      refine s_ref (hr_q (fr_R f_o_4q1 r_x0 (by decide) rfl rfl) e_r_3q1) ?_
      refine s_cIfq (S := fS [(86, 999), (16, 23), (16, 24)] []) T_8 (fs_sub (pmA_s hA rfl) fs_n) (zX15_wrongOf hF fs_a (th_id T_4 r_x0 (k := 16) (i := 21) (w := 2521) e_r_3q1 rfl (by decide)) (th_in _ T_8) r_x0 q_r_3q1) (fun o_3q2 T_12 i_o_3q2 f_o_3q2 p_o_3q2 => ?_)
      refine s_br (fun c_13 => ?_) (fun c_13 => ?_)
      · have _ := c_13
        have i_f_14 : Rg (0) (0) (o_3q2.1) := rg_le1 c_13 i_o_3q2 (rg_b rfl : Rg (0) (0) (0 : Int32))
        refine s_ref (hr_q (fr_R f_o_3q2 r_x0 (by decide) rfl rfl) (hr_q (fr_R f_o_4q1 r_x0 (by decide) rfl rfl) e_r_3q1)) ?_
        have pf_15 : BdP x0 o_3q2.2 := (bp_fr T_8 r_x0 f_o_3q2 (fun _ => rfl) (fun _ => rfl) (fun _ _ => rfl) (fun _ _ => rfl) rfl rfl rfl (fun _ => rfl) (fun _ => rfl) (bp_fr T_4 r_x0 f_o_4q1 (fun _ => rfl) (fun _ => rfl) (fun _ _ => rfl) (fun _ _ => rfl) rfl rfl rfl (fun _ => rfl) (fun _ => rfl) (by rw [e_o_3]; exact (bp_fr T r_x0 (fr1I (A := [(16, 1)]) r_x0 rfl w_3) (fun _ => rfl) (fun _ => rfl) (fun _ _ => rfl) (fun _ _ => rfl) rfl rfl rfl (fun _ => rfl) (fun _ => rfl) bd))))
        refine s_mk (S := fS [(84, 999), (85, 999), (16, 16)] [(3400, [(62, 999), (63, 999), (64, 999), (65, 999), (13, 1), (13, 2), (13, 3), (13, 7)])]) (g := (fun (o : Int32 × Hp) => o.2)) (P := fun (o : Int32 × Hp) (ρ' : Nat → Nat) (c' : Cm) => Rg (-104) (59) (o.1) ∧ BdP x0 o.2) T_12 (fs_sub (pmA_s hA rfl) (fs_c (pmO_s hi_3400 rfl) fs_n)) (zX15_keep hF fs_a (fs_o (.head _)) (th_id T_4 r_x0 (k := 16) (i := 21) (w := 2521) e_r_3q1 rfl (by decide)) (th_in _ T_12) r_x0 q_r_3q1 pf_15 (p_o_3q2 (show o_3q2.1.toInt = 0 from (by have := (i_f_14 : Rg (0) (0) (o_3q2.1)).1; have := (i_f_14 : Rg (0) (0) (o_3q2.1)).2; have := le_i c_13; have : (0 : Int32).toInt = 0 := rfl; omega)))) (fun _ _ _ _ _ p => p) (fun o_3q3 ρ_o_3q3 c_o_3q3 X_o_3q3 T_16 f_o_3q3 p_o_3q3 => ?_)
        have pf_17 : SqOk x0 o_3q3.2 := (sq_fr T_12 r_x0 f_o_3q3 (fun _ => rfl) (fun _ => rfl) (fun _ => rfl) (sq_fr T_8 r_x0 f_o_3q2 (fun _ => rfl) (fun _ => rfl) (fun _ => rfl) (sq_fr T_4 r_x0 f_o_4q1 (fun _ => rfl) (fun _ => rfl) (fun _ => rfl) (by rw [e_o_3]; exact (sq_fr T r_x0 (fr1I (A := [(16, 1)]) r_x0 rfl w_3) (fun _ => rfl) (fun _ => rfl) (fun _ => rfl) sq)))))
        have pf_18 : PE r_3q1 o_3q3.2 := (pe_fr T_12 q_r_3q1 f_o_3q3 rfl (by rw [(th_id T_4 r_x0 (k := 16) (i := 21) (w := 2521) e_r_3q1 rfl (by decide))]; rfl) rfl (by rw [(th_id T_4 r_x0 (k := 16) (i := 21) (w := 2521) e_r_3q1 rfl (by decide))]; intro _; rfl) (by rw [(th_id T_4 r_x0 (k := 16) (i := 21) (w := 2521) e_r_3q1 rfl (by decide))]; intro _; rfl) (p_o_3q2 (show o_3q2.1.toInt = 0 from (by have := (i_f_14 : Rg (0) (0) (o_3q2.1)).1; have := (i_f_14 : Rg (0) (0) (o_3q2.1)).2; have := le_i c_13; have : (0 : Int32).toInt = 0 := rfl; omega))))
        have i_o_3q3 := p_o_3q3.1
        exact s_some ⟨_, _, X_o_3q3, T_16, (rg_m i_o_3q3 (by decide))⟩
      · have _ := c_13
        have i_f_19 : Rg (1) (8) (o_3q2.1) := rg_lt2 (nle_lt c_13) (rg_b rfl : Rg (0) (0) (0 : Int32)) i_o_3q2
        exact s_some ⟨_, _, ex_0, T_12, (rg_m (rg_sub (rg_b rfl : Rg (0) (0) ((0 : Int32))) i_f_19 (by decide) : Rg (-8) (-1) (((0 : Int32) - o_3q2.1))) (by decide))⟩
set_option maxRecDepth 20000 in
theorem zX15_result {ρ : Nat → Nat} {c : Cm} {F : Nat} (hF : 700000 ≤ F) (hA : pmA c [(87, 999), (88, 999), (89, 999), (16, 23), (16, 24), (16, 29)]) (hi_2528 : pmO c 2528 [(62, 999), (63, 999), (64, 999), (65, 999), (13, 1), (13, 2), (13, 3), (13, 7)]) (hi_2530 : pmO c 2530 [(66, 999), (67, 999), (68, 999), (69, 999), (70, 999), (71, 999), (72, 999), (14, 0)]) {h : Hp} {x0 : Nat} {x1 : Int32} (T : TH ρ c h) (r_x0 : ρ x0 = 16) (i_x1 : Rg (-2147483648) (2147483647) (x1)) (bd : (BdP x0 h)) (sq : (SqOk x0 h)) : Sat (sX15_result F h x0 x1) (ZI ρ c (-102) (2)) := by
  unfold sX15_result sX15_result_43
  refine s_cIq (zX15_moves hF (pmA_s hA rfl) (pmO_s hi_2528 rfl) (pmO_s hi_2530 rfl) T r_x0 i_x1 bd sq) (fun o_1 T_1 i_o_1 p_o_1 => ?_)
  have pq_o_1_0 : o_1.1.toInt = -102 ∨ (0 ≤ (x1).toInt ∧ (x1).toInt ≤ 59) := p_o_1.1
  refine s_br (fun c_2 => ?_) (fun c_2 => ?_)
  · have _ := c_2
    have i_f_3 : Rg (-102) (-102) (o_1.1) := rg_eq c_2 (rg_b rfl : Rg (-102) (-102) ((- 102 : Int32)))
    exact s_some ⟨(T_1), (rg_m (rg_b rfl : Rg (-102) (-102) ((- 102 : Int32))) (by decide))⟩
  · have _ := c_2
    have i_f_4 : Rg (-101) (3000) (o_1.1) := rg_nlo c_2 i_o_1 (rg_b rfl : Rg (-102) (-102) ((- 102 : Int32)))
    obtain ⟨r_3, e_r_3, q_r_3⟩ := thR T_1 r_x0 (k := 16) (i := 14) (k2 := 84) rfl (by decide)
    refine s_ref e_r_3 ?_
    have og_5 : Rg (0) (59) (x1) := ⟨(by have := (i_x1 : Rg (-2147483648) (2147483647) (x1)).1; have := (i_x1 : Rg (-2147483648) (2147483647) (x1)).2; have := (i_f_4 : Rg (-101) (3000) (o_1.1)).1; have := (i_f_4 : Rg (-101) (3000) (o_1.1)).2; have := ne_i c_2; have : ((- 102 : Int32)).toInt = -102 := rfl; omega), (by have := (i_x1 : Rg (-2147483648) (2147483647) (x1)).1; have := (i_x1 : Rg (-2147483648) (2147483647) (x1)).2; have := (i_f_4 : Rg (-101) (3000) (o_1.1)).1; have := (i_f_4 : Rg (-101) (3000) (o_1.1)).2; have := ne_i c_2; have : ((- 102 : Int32)).toInt = -102 := rfl; omega)⟩
    refine s_gd (by rw [thN T_1 q_r_3 (k := 84) (n := 60) rfl (by decide)]; exact rg_inB (og_5 : Rg (0) (59) (x1)) (by decide)) ?_
    obtain ⟨r_5, e_r_5, pe_r_5⟩ := (mp_hb (p_o_1.2 (show ¬ o_1.1.toInt = -102 from (by have := (i_f_4 : Rg (-101) (3000) (o_1.1)).1; have := (i_f_4 : Rg (-101) (3000) (o_1.1)).2; have := (og_5 : Rg (0) (59) (x1)).1; have := (og_5 : Rg (0) (59) (x1)).2; have := ne_i c_2; have : ((- 102 : Int32)).toInt = -102 := rfl; omega)))) _ e_r_3
    have q_r_5 := thRn T_1 q_r_3 (k := 84) (k2 := 13) rfl (by decide) e_r_5
    refine s_ref e_r_5 ?_
    obtain ⟨r_6, e_r_6, q_r_6⟩ := thR T_1 r_x0 (k := 16) (i := 30) (k2 := 14) rfl (by decide)
    refine s_ref e_r_6 ?_
    refine s_cI (zX15_endedBy hF (pmA_s hA rfl) (th_id T_1 q_r_3 (k := 84) (w := 3400) e_r_5 rfl (by decide)) T_1 r_x0 q_r_5 (thI T_1 q_r_6 (k := 14) (i := 0) rfl : Rg (0) (3000) ((hI o_1.2 r_6 0)))) (fun o_7 T_6 i_o_7 => ?_)
    refine s_br (fun c_7 => ?_) (fun c_7 => ?_)
    · have _ := c_7
      have i_f_8 : Rg (0) (0) (o_7.1) := rg_eq c_7 (rg_b rfl : Rg (0) (0) (0 : Int32))
      exact s_some ⟨(T_6), (rg_m (rg_b rfl : Rg (-1) (-1) ((- 1 : Int32))) (by decide))⟩
    · have _ := c_7
      have i_f_9 : Rg (1) (6) (o_7.1) := rg_nlo c_7 i_o_7 (rg_b rfl : Rg (0) (0) (0 : Int32))
      exact s_some ⟨(T_6), (rg_m (thI T_6 r_x0 (k := 16) (i := 29) rfl : Rg (0) (2) ((hI o_7.2 x0 29))) (by decide))⟩
theorem zX15_take {ρ : Nat → Nat} {c : Cm} {F : Nat} (hF : 700000 ≤ F) (hA : pmA c [(16, 4), (16, 5), (16, 11), (16, 12), (16, 13)]) {h : Hp} {x0 : Nat} (T : TH ρ c h) (r_x0 : ρ x0 = 16) (fb : FrB x0 h) : Sat (sX15_take h x0) (ZQ (ZV ρ c) (fun o => SqOk x0 o)) := by
  have _ := hF
  unfold sX15_take
  obtain ⟨r1, e1, q1⟩ := thR T r_x0 (i := 4) (k2 := 15) rfl (by decide)
  obtain ⟨r2, e2, q2⟩ := thR T r_x0 (i := 5) (k2 := 15) rfl (by decide)
  refine s_ref e1 ?_
  refine s_ref e2 ?_
  refine s_hq (th_wRk T r_x0 (k := 16) (i := 4) (k2 := 15) rfl (by decide) q2 (by decide) (by decide) rfl rfl rfl rfl (pm_a hA rfl)) (fun h3 T3 w3 => ?_)
  refine s_hq (th_wRk T3 r_x0 (k := 16) (i := 5) (k2 := 15) rfl (by decide) q1 (by decide) (by decide) rfl rfl rfl rfl (pm_a hA rfl)) (fun h4 T4 w4 => ?_)
  have e5 : hR h4 x0 4 = some r2 := by rw [w4, r_R, if_neg (by simp), w3, r_R, if_pos ⟨rfl, rfl⟩]
  refine s_ref e5 ?_
  have k : ∀ i, hI h4 r2 i = hI h r2 i := fun i => by rw [w4, w3]; rfl
  have f1 : Rg 3 8 (hI h4 r2 0) := ⟨by rw [k]; exact (fb r2 e2).1, (thI T4 q2 (k := 15) (i := 0) (lo := 0) (hi := 8) rfl).2⟩
  have f2 : Rg 3 8 (hI h4 r2 1) := ⟨by rw [k]; exact (fb r2 e2).2, (thI T4 q2 (k := 15) (i := 1) (lo := 0) (hi := 8) rfl).2⟩
  refine s_hq (th_wI T4 r_x0 (k := 16) (lo := 3) (hi := 8) rfl f1 (by decide) (by decide) (pm_a hA rfl)) (fun h6 T6 w6 => ?_)
  have e7 : hR h6 x0 4 = some r2 := by rw [w6]; exact e5
  refine s_ref e7 ?_
  have k6 : hI h6 r2 1 = hI h4 r2 1 := by rw [w6, r_I, if_neg (fun q => absurd (q.1 ▸ q2) (by rw [r_x0]; decide))]
  refine s_hq (th_wI T6 r_x0 (k := 16) (lo := 3) (hi := 8) rfl (by rw [k6]; exact f2) (by decide) (by decide) (pm_a hA rfl)) (fun h8 T8 w8 => ?_)
  have a1 : hI h8 x0 11 = hI h4 r2 0 := by rw [w8, r_I, if_neg (by simp), w6, r_I, if_pos ⟨rfl, rfl⟩]
  have a2 : hI h8 x0 12 = hI h4 r2 1 := by rw [w8, r_I, if_pos ⟨rfl, rfl⟩, k6]
  have m : (hI h8 x0 11 * hI h8 x0 12).toInt = (hI h8 x0 11).toInt * (hI h8 x0 12).toInt := by
    rw [a1, a2]
    have := mb (k := (hI h4 r2 0).toInt) (d := (hI h4 r2 1).toInt) (m := 8) (n := 8) ⟨by have := f1.1; omega, f1.2⟩ ⟨by have := f2.1; omega, f2.2⟩ (by decide)
    exact tm ⟨by omega, by omega⟩
  have f3 : Rg 9 64 (hI h8 x0 11 * hI h8 x0 12) := by
    unfold Rg
    rw [m, a1, a2]
    have l1 : 3 * 3 ≤ (hI h4 r2 0).toInt * (hI h4 r2 1).toInt := Int.mul_le_mul f1.1 f2.1 (by decide) (by have := f1.1; omega)
    have l2 : (hI h4 r2 0).toInt * (hI h4 r2 1).toInt ≤ 8 * 8 := Int.mul_le_mul f1.2 f2.2 (by have := f2.1; omega) (by decide)
    omega
  refine s_hq (th_wI T8 r_x0 (k := 16) (lo := 9) (hi := 64) rfl f3 (by decide) (by decide) (pm_a hA rfl)) (fun h9 T9 w9 => ?_)
  refine s_some ⟨T9, ?_⟩
  show (hI h9 x0 13).toInt = (hI h9 x0 11).toInt * (hI h9 x0 12).toInt
  rw [w9, r_I, if_pos ⟨rfl, rfl⟩, r_I, if_neg (by simp), r_I, if_neg (by simp)]
  exact m

set_option maxRecDepth 20000 in
theorem zX15_rules_56 {ρ : Nat → Nat} {c : Cm} {F : Nat} (hF : 700000 ≤ F) (hA : pmA c [(94, 999), (16, 44), (16, 50), (16, 65)]) : ∀ (f : Nat) {h : Hp} {x0 : Nat} {x2 : Int32}, TH ρ c h → ρ x0 = 16 → Rg (0) (8) (x2) → (8 - x2.toInt).toNat < f → Sat (sX15_rules_56 F f h x0 x2) (ZI ρ c (-1201) (12)) := by
  intro f
  induction f with
  | zero => intros; omega
  | succ f ih =>
    intro h x0 x2 T r_x0 i_x2 hm
    rw [sX15_rules_56]
    obtain ⟨C_56, hC_56⟩ : ∃ C : Int, C = x2.toInt := ⟨_, rfl⟩
    have hk_56 : ∀ {h : Hp} {x0 : Nat} {x2 : Int32}, TH ρ c h → ρ x0 = 16 → Rg (0) (8) (x2) → C_56 < x2.toInt → Sat (sX15_rules_56 F f h x0 x2) (ZI ρ c (-1201) (12)) := by
      intro h' x0' x2' T' r_x0' i_x2' hl
      exact ih T' r_x0' i_x2' (by have := i_x2'.1; have := i_x2'.2; omega)
    have hc_56 : C_56 ≤ x2.toInt := by omega
    refine s_br (fun c_1 => ?_) (fun c_1 => ?_)
    · have _ := c_1
      have i_f_2 : Rg (8) (8) (x2) := rg_le2 c_1 (rg_b rfl : Rg (8) (8) ((8 : Int32))) i_x2
      refine s_hq (th_wI T r_x0 (k := 16) (lo := (0)) (hi := (4096)) rfl ((rg_m (rg_b rfl : Rg (0) (0) ((0 : Int32))) (by decide)) : Rg (0) (4096) ((0 : Int32))) (by decide) (by decide) (pm_a hA rfl)) (fun h_2 T_3 w_4 => ?_)
      refine s_hq (th_wI T_3 r_x0 (k := 16) (lo := (0)) (hi := (3000)) rfl ((rg_m (rg_b rfl : Rg (0) (0) ((0 : Int32))) (by decide)) : Rg (0) (3000) ((0 : Int32))) (by decide) (by decide) (pm_a hA rfl)) (fun h_3 T_5 w_6 => ?_)
      refine s_hq (th_wI T_5 r_x0 (k := 16) (lo := (-2147483648)) (hi := (2147483647)) rfl ((rg_m (rg_b rfl : Rg (0) (0) ((0 : Int32))) (by decide)) : Rg (-2147483648) (2147483647) ((0 : Int32))) (by decide) (by decide) (pm_a hA rfl)) (fun h_4 T_7 w_8 => ?_)
      obtain ⟨r_5, e_r_5, q_r_5⟩ := thR T_7 r_x0 (k := 16) (i := 4) (k2 := 15) rfl (by decide)
      refine s_ref e_r_5 ?_
      exact s_some ⟨(T_7), (rg_m (thI T_7 q_r_5 (k := 15) (i := 2) rfl : Rg (0) (12) (hI h_4 r_5 2)) (by decide))⟩
    · have _ := c_1
      have i_f_9 : Rg (0) (7) (x2) := rg_lt1 (nle_lt c_1) i_x2 (rg_b rfl : Rg (8) (8) ((8 : Int32)))
      obtain ⟨r_6, e_r_6, q_r_6⟩ := thR T r_x0 (k := 16) (i := 39) (k2 := 94) rfl (by decide)
      refine s_ref e_r_6 ?_
      refine s_gd (by rw [thN T q_r_6 (k := 94) (n := 8) rfl (by decide)]; exact rg_inB (i_f_9 : Rg (0) (7) (x2)) (by decide)) ?_
      refine s_hq (th_wI T q_r_6 (k := 94) (lo := (-1)) (hi := (300)) rfl ((rg_m (rg_b rfl : Rg (-1) (-1) ((- 1 : Int32))) (by decide)) : Rg (-1) (300) ((- 1 : Int32))) (by decide) (by decide) (pm_a hA rfl)) (fun h_8 T_10 w_11 => ?_)
      refine s_q (fun v_9 e_12 => ?_)
      have i_v_9 : Rg (1) (8) (v_9) := by rw [e_12]; exact (rg_add i_f_9 (rg_b rfl : Rg (1) (1) ((1 : Int32))) (by decide) : Rg (1) (8) (x2 + (1 : Int32)))
      have m_13 : (v_9).toInt = x2.toInt + 1 := by rw [e_12]; exact rg_inc i_f_9 (by decide)
      exact hk_56 T_10 r_x0 (rg_m i_v_9 (by decide)) (by have := hc_56; omega)
set_option maxRecDepth 20000 in
theorem zX15_rules_35 {ρ : Nat → Nat} {c : Cm} {F : Nat} (hF : 700000 ≤ F) (hA : pmA c [(85, 999), (94, 999), (16, 44), (16, 50), (16, 65)]) : ∀ (f : Nat) {h : Hp} {x0 : Nat} {x2 : Int32}, TH ρ c h → ρ x0 = 16 → Rg (0) (60) (x2) → (60 - x2.toInt).toNat < f → Sat (sX15_rules_35 F f h x0 x2) (ZI ρ c (-1201) (12)) := by
  intro f
  induction f with
  | zero => intros; omega
  | succ f ih =>
    intro h x0 x2 T r_x0 i_x2 hm
    rw [sX15_rules_35]
    obtain ⟨C_35, hC_35⟩ : ∃ C : Int, C = x2.toInt := ⟨_, rfl⟩
    have hk_35 : ∀ {h : Hp} {x0 : Nat} {x2 : Int32}, TH ρ c h → ρ x0 = 16 → Rg (0) (60) (x2) → C_35 < x2.toInt → Sat (sX15_rules_35 F f h x0 x2) (ZI ρ c (-1201) (12)) := by
      intro h' x0' x2' T' r_x0' i_x2' hl
      exact ih T' r_x0' i_x2' (by have := i_x2'.1; have := i_x2'.2; omega)
    have hc_35 : C_35 ≤ x2.toInt := by omega
    refine s_br (fun c_1 => ?_) (fun c_1 => ?_)
    · have _ := c_1
      have i_f_2 : Rg (60) (60) (x2) := rg_le2 c_1 (rg_b rfl : Rg (60) (60) ((60 : Int32))) i_x2
      have m_3 : Rg (0) (8) ((0 : Int32)) := (rg_m (rg_b rfl : Rg (0) (0) ((0 : Int32))) (by decide))
      exact zX15_rules_56 hF (pmA_s hA rfl) F T r_x0 (rg_m (rg_b rfl : Rg (0) (0) ((0 : Int32))) (by decide)) (by have := m_3.1; have := m_3.2; omega)
    · have _ := c_1
      have i_f_4 : Rg (0) (59) (x2) := rg_lt1 (nle_lt c_1) i_x2 (rg_b rfl : Rg (60) (60) ((60 : Int32)))
      obtain ⟨r_2, e_r_2, q_r_2⟩ := thR T r_x0 (k := 16) (i := 15) (k2 := 85) rfl (by decide)
      refine s_ref e_r_2 ?_
      refine s_gd (by rw [thN T q_r_2 (k := 85) (n := 60) rfl (by decide)]; exact rg_inB (i_f_4 : Rg (0) (59) (x2)) (by decide)) ?_
      refine s_hq (th_wI T q_r_2 (k := 85) (lo := (-2147483648)) (hi := (2147483647)) rfl ((rg_m (rg_b rfl : Rg (0) (0) ((0 : Int32))) (by decide)) : Rg (-2147483648) (2147483647) ((0 : Int32))) (by decide) (by decide) (pm_a hA rfl)) (fun h_4 T_5 w_6 => ?_)
      refine s_q (fun v_5 e_7 => ?_)
      have i_v_5 : Rg (1) (60) (v_5) := by rw [e_7]; exact (rg_add i_f_4 (rg_b rfl : Rg (1) (1) ((1 : Int32))) (by decide) : Rg (1) (60) (x2 + (1 : Int32)))
      have m_8 : (v_5).toInt = x2.toInt + 1 := by rw [e_7]; exact rg_inc i_f_4 (by decide)
      exact hk_35 T_5 r_x0 (rg_m i_v_5 (by decide)) (by have := hc_35; omega)
set_option maxRecDepth 20000 in
theorem zX15_rules {ρ : Nat → Nat} {c : Cm} {F : Nat} (hF : 700000 ≤ F) (hA : pmA c [(73, 999), (74, 999), (75, 999), (76, 999), (77, 999), (78, 999), (79, 999), (80, 999), (81, 999), (85, 999), (94, 999), (15, 0), (15, 1), (15, 2), (15, 10), (15, 11), (15, 12), (15, 15), (15, 16), (15, 17), (15, 18), (15, 19), (15, 20), (15, 21), (15, 22), (15, 23), (16, 1), (16, 4), (16, 5), (16, 6), (16, 7), (16, 8), (16, 9), (16, 10), (16, 11), (16, 12), (16, 13), (16, 44), (16, 50), (16, 65)]) {h : Hp} {x0 : Nat} (T : TH ρ c h) (r_x0 : ρ x0 = 16) : Sat (sX15_rules F h x0) (ZI ρ c (-1201) (12)) := by
  unfold sX15_rules 
  refine s_q (fun v_1 e_1 => ?_)
  have i_v_1 : Rg (0) (1200) (v_1) := by rw [e_1]; exact (thI T r_x0 (k := 16) (i := 1) rfl : Rg (0) (1200) (hI h x0 1))
  refine s_hq (th_wI T r_x0 (k := 16) (lo := (0)) (hi := (1200)) rfl ((rg_m (rg_b rfl : Rg (0) (0) ((0 : Int32))) (by decide)) : Rg (0) (1200) ((0 : Int32))) (by decide) (by decide) (pm_a hA rfl)) (fun h_2 T_2 w_3 => ?_)
  obtain ⟨r_3, e_r_3, q_r_3⟩ := thR T_2 r_x0 (k := 16) (i := 0) (k2 := 82) rfl (by decide)
  refine s_ref e_r_3 ?_
  refine s_cIq (zX15_isRules hF (pmA_s hA rfl) T_2 r_x0 q_r_3 i_v_1) (fun o_4 T_4 i_o_4 p_o_4 => ?_)
  refine s_br (fun c_5 => ?_) (fun c_5 => ?_)
  · have _ := c_5
    have i_f_6 : Rg (0) (0) (o_4.1) := rg_eq c_5 (rg_b rfl : Rg (0) (0) (0 : Int32))
    exact s_some ⟨(T_4), (rg_m (rg_sub (rg_b rfl : Rg (-1) (-1) ((- 1 : Int32))) (thI T_4 r_x0 (k := 16) (i := 7) rfl : Rg (0) (1200) ((hI o_4.2 x0 7))) (by decide) : Rg (-1201) (-1) ((- 1 : Int32) - (hI o_4.2 x0 7))) (by decide))⟩
  · have _ := c_5
    have i_f_7 : Rg (1) (1) (o_4.1) := rg_nlo c_5 i_o_4 (rg_b rfl : Rg (0) (0) (0 : Int32))
    refine s_cVq (zX15_take hF (pmA_s hA rfl) T_4 r_x0 (p_o_4 (show ¬ o_4.1.toInt = 0 from (by have := (i_f_7 : Rg (1) (1) (o_4.1)).1; have := (i_f_7 : Rg (1) (1) (o_4.1)).2; have := ne_i c_5; have : (0 : Int32).toInt = 0 := rfl; omega)))) (fun o_6 T_8 p_o_6 => ?_)
    have m_9 : Rg (0) (60) ((0 : Int32)) := (rg_m (rg_b rfl : Rg (0) (0) ((0 : Int32))) (by decide))
    exact zX15_rules_35 hF (pmA_s hA rfl) F T_8 r_x0 (rg_m (rg_b rfl : Rg (0) (0) ((0 : Int32))) (by decide)) (by have := m_9.1; have := m_9.2; omega)
set_option maxRecDepth 20000 in
theorem zX15_same {ρ : Nat → Nat} {c : Cm} {F : Nat} (hF : 700000 ≤ F) (hA : pmA c [(87, 999), (88, 999), (89, 999), (16, 23), (16, 24), (16, 29)]) (hi_2528 : pmO c 2528 [(62, 999), (63, 999), (64, 999), (65, 999), (13, 1), (13, 2), (13, 3), (13, 7)]) (hi_2531 : pmO c 2531 [(66, 999), (67, 999), (68, 999), (69, 999), (70, 999), (71, 999), (72, 999), (14, 0)]) {h : Hp} {x0 : Nat} {x1 : Int32} {x2 : Int32} (T : TH ρ c h) (r_x0 : ρ x0 = 16) (i_x1 : Rg (-2147483648) (2147483647) (x1)) (i_x2 : Rg (-2147483648) (2147483647) (x2)) (bd : (BdP x0 h)) (sq : (SqOk x0 h)) : Sat (sX15_same F h x0 x1 x2) (ZI ρ c (0) (1)) := by
  unfold sX15_same sX15_same_39 sX15_same_40
  refine s_dP0 (zX15_has hF T r_x0 i_x1) (fun o_1 eb_o_1 e_o_1 i_o_1 p_o_1 => ?_)
  have T_1 := th_eq e_o_1 T
  refine s_br (fun c_2 => ?_) (fun c_2 => ?_)
  · have _ := c_2
    have i_f_3 : Rg (0) (0) (o_1.1) := rg_eq c_2 (rg_b rfl : Rg (0) (0) (0 : Int32))
    refine s_gd (rg_bool (rg_m (rg_b rfl : Rg (0) (0) ((0 : Int32))) (by decide))) ?_
    exact s_some ⟨(T_1), (rg_m (rg_b rfl : Rg (0) (0) ((0 : Int32))) (by decide))⟩
  · have _ := c_2
    have i_f_4 : Rg (1) (1) (o_1.1) := rg_nlo c_2 i_o_1 (rg_b rfl : Rg (0) (0) (0 : Int32))
    have p_f_5 := p_o_1 c_2
    refine s_dP0 (zX15_has hF T_1 r_x0 i_x2) (fun o_3 eb_o_3 e_o_3 i_o_3 p_o_3 => ?_)
    have T_6 := th_eq e_o_3 T_1
    refine s_br (fun c_7 => ?_) (fun c_7 => ?_)
    · have _ := c_7
      have i_f_8 : Rg (0) (0) (o_3.1) := rg_eq c_7 (rg_b rfl : Rg (0) (0) (0 : Int32))
      refine s_gd (rg_bool (rg_m (rg_b rfl : Rg (0) (0) ((0 : Int32))) (by decide))) ?_
      exact s_some ⟨(T_6), (rg_m (rg_b rfl : Rg (0) (0) ((0 : Int32))) (by decide))⟩
    · have _ := c_7
      have i_f_9 : Rg (1) (1) (o_3.1) := rg_nlo c_7 i_o_3 (rg_b rfl : Rg (0) (0) (0 : Int32))
      have p_f_10 := p_o_3 c_7
      obtain ⟨r_5, e_r_5, q_r_5⟩ := thR T_6 r_x0 (k := 16) (i := 14) (k2 := 84) rfl (by decide)
      refine s_ref e_r_5 ?_
      refine s_gd (by rw [thN T_6 q_r_5 (k := 84) (n := 60) rfl (by decide)]; exact rg_inB (p_f_5 : Rg (0) (59) (x1)) (by decide)) ?_
      have pf_11 : HasB x0 x1 o_3.2 := (by rw [e_o_3]; exact (by rw [e_o_1]; exact (hb_of T r_x0 bd eb_o_1 c_2)))
      obtain ⟨r_7, e_r_7, pe_r_7⟩ := pf_11 _ e_r_5
      have q_r_7 := thRn T_6 q_r_5 (k := 84) (k2 := 13) rfl (by decide) e_r_7
      refine s_ref e_r_7 ?_
      refine s_ref e_r_5 ?_
      refine s_gd (by rw [thN T_6 q_r_5 (k := 84) (n := 60) rfl (by decide)]; exact rg_inB (p_f_10 : Rg (0) (59) (x2)) (by decide)) ?_
      have pf_12 : BdP x0 o_1.2 := (by rw [e_o_1]; exact bd)
      have pf_13 : HasB x0 x2 o_3.2 := (by rw [e_o_3]; exact (hb_of T_1 r_x0 pf_12 eb_o_3 c_7))
      obtain ⟨r_10, e_r_10, pe_r_10⟩ := pf_13 _ e_r_5
      have q_r_10 := thRn T_6 q_r_5 (k := 84) (k2 := 13) rfl (by decide) e_r_10
      refine s_ref e_r_10 ?_
      have pf_14 : SqOk x0 o_3.2 := (by rw [e_o_3]; exact (by rw [e_o_1]; exact sq))
      refine s_cI (zX15_isSame hF (pmA_s hA rfl) (pmO_s hi_2528 rfl) (pmO_s hi_2531 rfl) (th_id T_6 q_r_5 (k := 84) (w := 3400) e_r_7 rfl (by decide)) (th_id T_6 q_r_5 (k := 84) (w := 3400) e_r_10 rfl (by decide)) (by decide) (by decide) T_6 r_x0 q_r_7 q_r_10 pf_14 pe_r_7 pe_r_10) (fun o_11 T_15 i_o_11 => ?_)
      refine s_br (fun c_16 => ?_) (fun c_16 => ?_)
      · have _ := c_16
        have i_f_17 : Rg (0) (0) (o_11.1) := rg_eq c_16 (rg_b rfl : Rg (0) (0) (0 : Int32))
        refine s_gd (rg_bool (rg_m (rg_b rfl : Rg (0) (0) ((0 : Int32))) (by decide))) ?_
        exact s_some ⟨(T_15), (rg_m (rg_b rfl : Rg (0) (0) ((0 : Int32))) (by decide))⟩
      · have _ := c_16
        have i_f_18 : Rg (1) (1) (o_11.1) := rg_nlo c_16 i_o_11 (rg_b rfl : Rg (0) (0) (0 : Int32))
        refine s_gd (rg_bool (rg_m (rg_b rfl : Rg (1) (1) ((1 : Int32))) (by decide))) ?_
        exact s_some ⟨(T_15), (rg_m (rg_b rfl : Rg (1) (1) ((1 : Int32))) (by decide))⟩
set_option maxRecDepth 20000 in
theorem zX15_say_ {ρ : Nat → Nat} {c : Cm} {F : Nat} (hF : 700000 ≤ F) (hA : pmA c [(83, 999), (87, 999), (88, 999), (89, 999), (16, 3), (16, 23), (16, 24), (16, 29), (16, 36)]) (hi_2528 : pmO c 2528 [(62, 999), (63, 999), (64, 999), (65, 999), (13, 1), (13, 2), (13, 3), (13, 7)]) (hi_2530 : pmO c 2530 [(66, 999), (67, 999), (68, 999), (69, 999), (70, 999), (71, 999), (72, 999), (14, 0)]) (hi_2531 : pmO c 2531 [(66, 999), (67, 999), (68, 999), (69, 999), (70, 999), (71, 999), (72, 999), (14, 0)]) (hi_2535 : pmO c 2535 [(62, 999), (63, 999), (64, 999), (65, 999), (13, 1), (13, 2), (13, 3), (13, 7)]) {h : Hp} {x0 : Nat} {x1 : Int32} {x2 : Int32} (T : TH ρ c h) (r_x0 : ρ x0 = 16) (i_x1 : Rg (-2147483648) (2147483647) (x1)) (i_x2 : Rg (-2147483648) (2147483647) (x2)) (bd : (BdP x0 h)) (sq : (SqOk x0 h)) : Sat (sX15_say_ F h x0 x1 x2) (ZI ρ c (-102) (256)) := by
  unfold sX15_say_ sX15_say__25
  refine s_cIfq (S := fS [(87, 999), (88, 999), (89, 999), (16, 23), (16, 24), (16, 29)] [(2528, [(62, 999), (63, 999), (64, 999), (65, 999), (13, 1), (13, 2), (13, 3), (13, 7)]), (2530, [(66, 999), (67, 999), (68, 999), (69, 999), (70, 999), (71, 999), (72, 999), (14, 0)])]) T (fs_sub (pmA_s hA rfl) (fs_c (pmO_s hi_2528 rfl) (fs_c (pmO_s hi_2530 rfl) fs_n))) (zX15_moves hF fs_a (fs_o (.head _)) (fs_o (.tail _ (.head _))) (th_in _ T) r_x0 i_x1 bd sq) (fun o_1 T_1 i_o_1 f_o_1 p_o_1 => ?_)
  have pq_o_1_0 : o_1.1.toInt = -102 ∨ (0 ≤ (x1).toInt ∧ (x1).toInt ≤ 59) := p_o_1.1
  refine s_br (fun c_2 => ?_) (fun c_2 => ?_)
  · have _ := c_2
    have i_f_3 : Rg (-102) (-102) (o_1.1) := rg_eq c_2 (rg_b rfl : Rg (-102) (-102) ((- 102 : Int32)))
    exact s_some ⟨(T_1), (rg_m (rg_b rfl : Rg (-102) (-102) ((- 102 : Int32))) (by decide))⟩
  · have _ := c_2
    have i_f_4 : Rg (-101) (3000) (o_1.1) := rg_nlo c_2 i_o_1 (rg_b rfl : Rg (-102) (-102) ((- 102 : Int32)))
    refine s_br (fun c_5 => ?_) (fun c_5 => ?_)
    · have _ := c_5
      have i_f_6 : Rg (-2147483648) (-1) (x2) := rg_lt1 c_5 i_x2 (rg_b rfl : Rg (0) (0) (0 : Int32))
      exact s_some ⟨(T_1), (rg_m (rg_b rfl : Rg (-102) (-102) ((- 102 : Int32))) (by decide))⟩
    · have _ := c_5
      have i_f_7 : Rg (0) (2147483647) (x2) := rg_le2 (nlt_le c_5) (rg_b rfl : Rg (0) (0) (0 : Int32)) i_x2
      obtain ⟨r_4, e_r_4, q_r_4⟩ := thR T_1 r_x0 (k := 16) (i := 30) (k2 := 14) rfl (by decide)
      refine s_ref e_r_4 ?_
      refine s_br (fun c_8 => ?_) (fun c_8 => ?_)
      · have _ := c_8
        have i_f_9 : Rg (0) (2999) (x2) := rg_lt1 c_8 i_f_7 (thI T_1 q_r_4 (k := 14) (i := 0) rfl : Rg (0) (3000) ((hI o_1.2 r_4 0)))
        have i_f_10 : Rg (1) (3000) ((hI o_1.2 r_4 0)) := rg_lt2 c_8 i_f_7 (thI T_1 q_r_4 (k := 14) (i := 0) rfl : Rg (0) (3000) ((hI o_1.2 r_4 0)))
        obtain ⟨r_6, e_r_6, q_r_6⟩ := thR T_1 r_x0 (k := 16) (i := 14) (k2 := 84) rfl (by decide)
        refine s_ref e_r_6 ?_
        have og_11 : Rg (0) (59) (x1) := ⟨(by have := (i_x1 : Rg (-2147483648) (2147483647) (x1)).1; have := (i_x1 : Rg (-2147483648) (2147483647) (x1)).2; have := (i_f_4 : Rg (-101) (3000) (o_1.1)).1; have := (i_f_4 : Rg (-101) (3000) (o_1.1)).2; have := ne_i c_2; have : ((- 102 : Int32)).toInt = -102 := rfl; omega), (by have := (i_x1 : Rg (-2147483648) (2147483647) (x1)).1; have := (i_x1 : Rg (-2147483648) (2147483647) (x1)).2; have := (i_f_4 : Rg (-101) (3000) (o_1.1)).1; have := (i_f_4 : Rg (-101) (3000) (o_1.1)).2; have := ne_i c_2; have : ((- 102 : Int32)).toInt = -102 := rfl; omega)⟩
        refine s_gd (by rw [thN T_1 q_r_6 (k := 84) (n := 60) rfl (by decide)]; exact rg_inB (og_11 : Rg (0) (59) (x1)) (by decide)) ?_
        obtain ⟨r_8, e_r_8, pe_r_8⟩ := (mp_hb (p_o_1.2 (show ¬ o_1.1.toInt = -102 from (by have := (i_f_4 : Rg (-101) (3000) (o_1.1)).1; have := (i_f_4 : Rg (-101) (3000) (o_1.1)).2; have := (og_11 : Rg (0) (59) (x1)).1; have := (og_11 : Rg (0) (59) (x1)).2; have := ne_i c_2; have : ((- 102 : Int32)).toInt = -102 := rfl; omega)))) _ e_r_6
        have q_r_8 := thRn T_1 q_r_6 (k := 84) (k2 := 13) rfl (by decide) e_r_8
        refine s_ref e_r_8 ?_
        have pf_12 : SqOk x0 o_1.2 := (sq_fr T r_x0 f_o_1 (fun _ => rfl) (fun _ => rfl) (fun _ => rfl) sq)
        refine s_cVq (zX15_sayMove hF (pmA_s hA rfl) (pmO_s hi_2528 rfl) (pmO_s hi_2531 rfl) (pmO_s hi_2535 rfl) (th_id T_1 q_r_6 (k := 84) (w := 3400) e_r_8 rfl (by decide)) T_1 r_x0 q_r_8 i_f_9 pf_12 (mp_ml (p_o_1.2 (show ¬ o_1.1.toInt = -102 from (by have := (i_f_4 : Rg (-101) (3000) (o_1.1)).1; have := (i_f_4 : Rg (-101) (3000) (o_1.1)).2; have := (og_11 : Rg (0) (59) (x1)).1; have := (og_11 : Rg (0) (59) (x1)).2; have := ne_i c_2; have : ((- 102 : Int32)).toInt = -102 := rfl; omega))) e_r_6 e_r_8) (il_of e_r_4 (show (x2).toInt < (hI o_1.2 r_4 0).toInt from (by have := (i_f_9 : Rg (0) (2999) (x2)).1; have := (i_f_9 : Rg (0) (2999) (x2)).2; have := (i_f_10 : Rg (1) (3000) ((hI o_1.2 r_4 0))).1; have := (i_f_10 : Rg (1) (3000) ((hI o_1.2 r_4 0))).2; have := (i_f_4 : Rg (-101) (3000) (o_1.1)).1; have := (i_f_4 : Rg (-101) (3000) (o_1.1)).2; have := (og_11 : Rg (0) (59) (x1)).1; have := (og_11 : Rg (0) (59) (x1)).2; have := ne_i c_2; have : ((- 102 : Int32)).toInt = -102 := rfl; have := nlt_i c_5; have : (0 : Int32).toInt = 0 := rfl; have := lt_i c_8; omega)))) (fun o_9 T_13 p_o_9 => ?_)
        have pq_o_9_0 : (hI o_9 x0 3).toInt ≤ 9 := p_o_9
        exact s_some ⟨(T_13), (rg_m (thI T_13 r_x0 (k := 16) (i := 3) rfl : Rg (0) (256) (hI o_9 x0 3)) (by decide))⟩
      · have _ := c_8
        exact s_some ⟨(T_1), (rg_m (rg_b rfl : Rg (-102) (-102) ((- 102 : Int32))) (by decide))⟩
set_option maxRecDepth 20000 in
theorem zX15_seenBy_67 {ρ : Nat → Nat} {c : Cm} {F : Nat} {w_x1 : Nat} (hF : 700000 ≤ F) {k_5 : Hp → Nat → Nat → Int32 → Int64 → Int32 → Option (Int64 × Hp)} {C_5 : Int} (hk_5 : ∀ {h : Hp} {x0 : Nat} {x1 : Nat} {x2 : Int32} {x3 : Int64} {x5 : Int32}, cw c x1 = w_x1 → TH ρ c h → ρ x0 = 16 → ρ x1 = 13 → Rg (0) (1) (x2) → Rg (0) (64) (x5) → C_5 < x5.toInt → Sat (k_5 h x0 x1 x2 x3 x5) (ZJ ρ c)) : ∀ (f : Nat) {h : Hp} {x0 : Nat} {x1 : Nat} {x2 : Int32} {x3 : Int64} {x5 : Int32} {x7 : Int32}, cw c x1 = w_x1 → TH ρ c h → ρ x0 = 16 → ρ x1 = 13 → Rg (0) (1) (x2) → Rg (0) (63) (x5) → Rg (0) (64) (x7) → C_5 ≤ x5.toInt → (64 - x7.toInt).toNat < f → Sat (sX15_seenBy_67 F k_5 f h x0 x1 x2 x3 x5 x7) (ZJ ρ c) := by
  intro f
  induction f with
  | zero => intros; omega
  | succ f ih =>
    intro h x0 x1 x2 x3 x5 x7 o_x1 T r_x0 r_x1 i_x2 i_x5 i_x7 hc_5 hm
    rw [sX15_seenBy_67]
    unfold sX15_seenBy_104 sX15_seenBy_96
    obtain ⟨C_67, hC_67⟩ : ∃ C : Int, C = x7.toInt := ⟨_, rfl⟩
    have hk_67 : ∀ {h : Hp} {x0 : Nat} {x1 : Nat} {x2 : Int32} {x3 : Int64} {x5 : Int32} {x7 : Int32}, cw c x1 = w_x1 → TH ρ c h → ρ x0 = 16 → ρ x1 = 13 → Rg (0) (1) (x2) → Rg (0) (63) (x5) → Rg (0) (64) (x7) → C_5 ≤ x5.toInt → C_67 < x7.toInt → Sat (sX15_seenBy_67 F k_5 f h x0 x1 x2 x3 x5 x7) (ZJ ρ c) := by
      intro h' x0' x1' x2' x3' x5' x7' o_x1' T' r_x0' r_x1' i_x2' i_x5' i_x7' hc_5' hl
      exact ih o_x1' T' r_x0' r_x1' i_x2' i_x5' i_x7' hc_5' (by have := i_x7'.1; have := i_x7'.2; omega)
    have hc_67 : C_67 ≤ x7.toInt := by omega
    refine s_br (fun c_1 => ?_) (fun c_1 => ?_)
    · have _ := c_1
      have i_f_2 : Rg (9) (64) (x7) := rg_le2 c_1 (thI T r_x0 (k := 16) (i := 13) rfl : Rg (9) (64) ((hI h x0 13))) i_x7
      refine s_q (fun v_1q1 e_3 => ?_)
      have i_v_1q1 : Rg (1) (64) (v_1q1) := by rw [e_3]; exact (rg_add i_x5 (rg_b rfl : Rg (1) (1) ((1 : Int32))) (by decide) : Rg (1) (64) (x5 + (1 : Int32)))
      have m_4 : (v_1q1).toInt = x5.toInt + 1 := by rw [e_3]; exact rg_inc i_x5 (by decide)
      exact hk_5 o_x1 T r_x0 r_x1 i_x2 (rg_m i_v_1q1 (by decide)) (by have := hc_5; omega)
    · have _ := c_1
      have i_f_5 : Rg (0) (63) (x7) := rg_lt1 (nle_lt c_1) i_x7 (thI T r_x0 (k := 16) (i := 13) rfl : Rg (9) (64) ((hI h x0 13)))
      obtain ⟨r_2, e_r_2, q_r_2⟩ := thR T r_x0 (k := 16) (i := 25) (k2 := 87) rfl (by decide)
      refine s_ref e_r_2 ?_
      refine s_gd (by rw [thN T q_r_2 (k := 87) (n := 64) rfl (by decide)]; exact rg_inB (i_f_5 : Rg (0) (63) (x7)) (by decide)) ?_
      refine s_br (fun c_6 => ?_) (fun c_6 => ?_)
      · have _ := c_6
        have i_f_7 : Rg (-1) (-1) ((hI h r_2 x7.toNatClampNeg)) := rg_eq c_6 (rg_b rfl : Rg (-1) (-1) ((- 1 : Int32)))
        refine s_q (fun v_1q2 e_8 => ?_)
        refine s_q (fun v_2q2 e_9 => ?_)
        have i_v_2q2 : Rg (1) (64) (v_2q2) := by rw [e_9]; exact (rg_add i_f_5 (rg_b rfl : Rg (1) (1) ((1 : Int32))) (by decide) : Rg (1) (64) (x7 + (1 : Int32)))
        have m_10 : (v_2q2).toInt = x7.toInt + 1 := by rw [e_9]; exact rg_inc i_f_5 (by decide)
        exact hk_67 o_x1 T r_x0 r_x1 i_x2 i_x5 (rg_m i_v_2q2 (by decide)) hc_5 (by have := hc_67; omega)
      · have _ := c_6
        have i_f_11 : Rg (0) (95) ((hI h r_2 x7.toNatClampNeg)) := rg_nlo c_6 (thI T q_r_2 (k := 87) rfl : Rg (-1) (95) ((hI h r_2 x7.toNatClampNeg))) (rg_b rfl : Rg (-1) (-1) ((- 1 : Int32)))
        refine s_q (fun v_1q3 e_12 => ?_)
        refine s_q (fun v_2q3 e_13 => ?_)
        have i_v_2q3 : Rg (1) (64) (v_2q3) := by rw [e_13]; exact (rg_add i_f_5 (rg_b rfl : Rg (1) (1) ((1 : Int32))) (by decide) : Rg (1) (64) (x7 + (1 : Int32)))
        have m_14 : (v_2q3).toInt = x7.toInt + 1 := by rw [e_13]; exact rg_inc i_f_5 (by decide)
        exact hk_67 o_x1 T r_x0 r_x1 i_x2 i_x5 (rg_m i_v_2q3 (by decide)) hc_5 (by have := hc_67; omega)
set_option maxRecDepth 20000 in
theorem zX15_seenBy_5 {ρ : Nat → Nat} {c : Cm} {F : Nat} {w_x1 : Nat} (hF : 700000 ≤ F) (hA : pmA c [(87, 999), (88, 999), (89, 999), (16, 23), (16, 24)]) : ∀ (f : Nat) {h : Hp} {x0 : Nat} {x1 : Nat} {x2 : Int32} {x3 : Int64} {x5 : Int32}, cw c x1 = w_x1 → TH ρ c h → ρ x0 = 16 → ρ x1 = 13 → Rg (0) (1) (x2) → Rg (0) (64) (x5) → (64 - x5.toInt).toNat < f → Sat (sX15_seenBy_5 F f h x0 x1 x2 x3 x5) (ZJ ρ c) := by
  intro f
  induction f with
  | zero => intros; omega
  | succ f ih =>
    intro h x0 x1 x2 x3 x5 o_x1 T r_x0 r_x1 i_x2 i_x5 hm
    rw [sX15_seenBy_5]
    unfold sX15_seenBy_104 sX15_sideOf sX15_seenBy_61
    obtain ⟨C_5, hC_5⟩ : ∃ C : Int, C = x5.toInt := ⟨_, rfl⟩
    have hk_5 : ∀ {h : Hp} {x0 : Nat} {x1 : Nat} {x2 : Int32} {x3 : Int64} {x5 : Int32}, cw c x1 = w_x1 → TH ρ c h → ρ x0 = 16 → ρ x1 = 13 → Rg (0) (1) (x2) → Rg (0) (64) (x5) → C_5 < x5.toInt → Sat (sX15_seenBy_5 F f h x0 x1 x2 x3 x5) (ZJ ρ c) := by
      intro h' x0' x1' x2' x3' x5' o_x1' T' r_x0' r_x1' i_x2' i_x5' hl
      exact ih o_x1' T' r_x0' r_x1' i_x2' i_x5' (by have := i_x5'.1; have := i_x5'.2; omega)
    have hc_5 : C_5 ≤ x5.toInt := by omega
    refine s_br (fun c_1 => ?_) (fun c_1 => ?_)
    · have _ := c_1
      have i_f_2 : Rg (9) (64) (x5) := rg_le2 c_1 (thI T r_x0 (k := 16) (i := 13) rfl : Rg (9) (64) ((hI h x0 13))) i_x5
      exact s_some (T)
    · have _ := c_1
      have i_f_3 : Rg (0) (63) (x5) := rg_lt1 (nle_lt c_1) i_x5 (thI T r_x0 (k := 16) (i := 13) rfl : Rg (9) (64) ((hI h x0 13)))
      obtain ⟨r_2, e_r_2, q_r_2⟩ := thR T r_x1 (k := 13) (i := 0) (k2 := 62) rfl (by decide)
      refine s_ref e_r_2 ?_
      refine s_gd (by rw [thN T q_r_2 (k := 62) (n := 64) rfl (by decide)]; exact rg_inB (i_f_3 : Rg (0) (63) (x5)) (by decide)) ?_
      refine s_q (fun v_4 e_4 => ?_)
      have i_v_4 : Rg (0) (24) (v_4) := by rw [e_4]; exact (thI T q_r_2 (k := 62) rfl : Rg (0) (24) (hI h r_2 x5.toNatClampNeg))
      refine s_br (fun c_5 => ?_) (fun c_5 => ?_)
      · have _ := c_5
        have i_f_6 : Rg (0) (0) (v_4) := rg_le1 c_5 i_v_4 (rg_b rfl : Rg (0) (0) (0 : Int32))
        refine s_q (fun v_1q1 e_7 => ?_)
        have i_v_1q1 : Rg (1) (64) (v_1q1) := by rw [e_7]; exact (rg_add i_f_3 (rg_b rfl : Rg (1) (1) ((1 : Int32))) (by decide) : Rg (1) (64) (x5 + (1 : Int32)))
        have m_8 : (v_1q1).toInt = x5.toInt + 1 := by rw [e_7]; exact rg_inc i_f_3 (by decide)
        exact hk_5 o_x1 T r_x0 r_x1 i_x2 (rg_m i_v_1q1 (by decide)) (by have := hc_5; omega)
      · have _ := c_5
        have i_f_9 : Rg (1) (24) (v_4) := rg_lt2 (nle_lt c_5) (rg_b rfl : Rg (0) (0) (0 : Int32)) i_v_4
        refine s_pu (fun o_6z e_10 => ?_)
        try dsimp only
        have i_o_6z : Rg (0) (1) (o_6z) := by rw [e_10]; exact (rg_and (rg_b rfl : Rg (1) (1) ((1 : Int32))) (by decide) : Rg (0) (1) ((v_4 - (1 : Int32)) &&& (1 : Int32)))
        refine s_br (fun c_11 => ?_) (fun c_11 => ?_)
        · have _ := c_11
          refine s_q (fun v_8 e_12 => ?_)
          refine s_br (fun c_13 => ?_) (fun c_13 => ?_)
          · have _ := c_13
            have ph_14 : ∀ r, hR h x1 0 = some r → Rg (1) (24) (hI h r x5.toNatClampNeg) := fun r hr => by
              rw [e_r_2] at hr
              rw [← Option.some.inj hr]
              exact (by rw [← e_4]; exact i_f_9)
            refine s_cV (zX15_lead hF (pmA_s hA rfl) o_x1 T r_x0 r_x1 i_f_3 (rg_m (rg_b rfl : Rg (1) (1) ((1 : Int32))) (by decide)) ph_14) (fun o_1q2 T_15 => ?_)
            have m_16 : Rg (0) (64) ((0 : Int32)) := (rg_m (rg_b rfl : Rg (0) (0) ((0 : Int32))) (by decide))
            exact zX15_seenBy_67 hF @hk_5 F o_x1 T_15 r_x0 r_x1 i_x2 i_f_3 (rg_m (rg_b rfl : Rg (0) (0) ((0 : Int32))) (by decide)) hc_5 (by have := m_16.1; have := m_16.2; omega)
          · have _ := c_13
            have ph_17 : ∀ r, hR h x1 0 = some r → Rg (1) (24) (hI h r x5.toNatClampNeg) := fun r hr => by
              rw [e_r_2] at hr
              rw [← Option.some.inj hr]
              exact (by rw [← e_4]; exact i_f_9)
            refine s_cV (zX15_lead hF (pmA_s hA rfl) o_x1 T r_x0 r_x1 i_f_3 (rg_m (rg_b rfl : Rg (0) (0) ((0 : Int32))) (by decide)) ph_17) (fun o_1q3 T_18 => ?_)
            have m_19 : Rg (0) (64) ((0 : Int32)) := (rg_m (rg_b rfl : Rg (0) (0) ((0 : Int32))) (by decide))
            exact zX15_seenBy_67 hF @hk_5 F o_x1 T_18 r_x0 r_x1 i_x2 i_f_3 (rg_m (rg_b rfl : Rg (0) (0) ((0 : Int32))) (by decide)) hc_5 (by have := m_19.1; have := m_19.2; omega)
        · have _ := c_11
          refine s_q (fun v_1q4 e_20 => ?_)
          have i_v_1q4 : Rg (1) (64) (v_1q4) := by rw [e_20]; exact (rg_add i_f_3 (rg_b rfl : Rg (1) (1) ((1 : Int32))) (by decide) : Rg (1) (64) (x5 + (1 : Int32)))
          have m_21 : (v_1q4).toInt = x5.toInt + 1 := by rw [e_20]; exact rg_inc i_f_3 (by decide)
          exact hk_5 o_x1 T r_x0 r_x1 i_x2 (rg_m i_v_1q4 (by decide)) (by have := hc_5; omega)
set_option maxRecDepth 20000 in
theorem zX15_seenBy {ρ : Nat → Nat} {c : Cm} {F : Nat} {w_x1 : Nat} (hF : 700000 ≤ F) (hA : pmA c [(87, 999), (88, 999), (89, 999), (16, 23), (16, 24)]) {h : Hp} {x0 : Nat} {x1 : Nat} {x2 : Int32} (o_x1 : cw c x1 = w_x1) (T : TH ρ c h) (r_x0 : ρ x0 = 16) (r_x1 : ρ x1 = 13) (i_x2 : Rg (0) (1) (x2)) : Sat (sX15_seenBy F h x0 x1 x2) (ZJ ρ c) := by
  unfold sX15_seenBy 
  have m_1 : Rg (0) (64) ((0 : Int32)) := (rg_m (rg_b rfl : Rg (0) (0) ((0 : Int32))) (by decide))
  exact zX15_seenBy_5 hF (pmA_s hA rfl) F o_x1 T r_x0 r_x1 i_x2 (rg_m (rg_b rfl : Rg (0) (0) ((0 : Int32))) (by decide)) (by have := m_1.1; have := m_1.2; omega)
set_option maxRecDepth 20000 in
theorem zX15_sees {ρ : Nat → Nat} {c : Cm} {F : Nat} (hF : 700000 ≤ F) (hA : pmA c [(87, 999), (88, 999), (89, 999), (16, 23), (16, 24)]) {h : Hp} {x0 : Nat} {x1 : Int32} {x2 : Int32} {x3 : Int32} (T : TH ρ c h) (r_x0 : ρ x0 = 16) (i_x1 : Rg (-2147483648) (2147483647) (x1)) (i_x2 : Rg (-2147483648) (2147483647) (x2)) (i_x3 : Rg (-2147483648) (2147483647) (x3)) (bd : (BdP x0 h)) : Sat (sX15_sees F h x0 x1 x2 x3) (ZI ρ c (-2147483648) (2147483647)) := by
  unfold sX15_sees sX15_sees_21 sX15_sees_53
  refine s_br (fun c_1 => ?_) (fun c_1 => ?_)
  · have _ := c_1
    have i_f_2 : Rg (-2147483648) (-1) (x2) := rg_lt1 c_1 i_x2 (rg_b rfl : Rg (0) (0) (0 : Int32))
    exact s_some ⟨(T), (rg_m (rg_b rfl : Rg (-101) (-101) ((- 101 : Int32))) (by decide))⟩
  · have _ := c_1
    have i_f_3 : Rg (0) (2147483647) (x2) := rg_le2 (nlt_le c_1) (rg_b rfl : Rg (0) (0) (0 : Int32)) i_x2
    refine s_br (fun c_4 => ?_) (fun c_4 => ?_)
    · have _ := c_4
      have i_f_5 : Rg (2) (2147483647) (x2) := rg_lt2 c_4 (rg_b rfl : Rg (1) (1) ((1 : Int32))) i_f_3
      exact s_some ⟨(T), (rg_m (rg_b rfl : Rg (-101) (-101) ((- 101 : Int32))) (by decide))⟩
    · have _ := c_4
      have i_f_6 : Rg (0) (1) (x2) := rg_le1 (nlt_le c_4) i_f_3 (rg_b rfl : Rg (1) (1) ((1 : Int32)))
      refine s_br (fun c_7 => ?_) (fun c_7 => ?_)
      · have _ := c_7
        have i_f_8 : Rg (-2147483648) (-1) (x3) := rg_lt1 c_7 i_x3 (rg_b rfl : Rg (0) (0) (0 : Int32))
        exact s_some ⟨(T), (rg_m (rg_b rfl : Rg (-101) (-101) ((- 101 : Int32))) (by decide))⟩
      · have _ := c_7
        have i_f_9 : Rg (0) (2147483647) (x3) := rg_le2 (nlt_le c_7) (rg_b rfl : Rg (0) (0) (0 : Int32)) i_x3
        refine s_br (fun c_10 => ?_) (fun c_10 => ?_)
        · have _ := c_10
          have i_f_11 : Rg (0) (63) (x3) := rg_lt1 c_10 i_f_9 (thI T r_x0 (k := 16) (i := 13) rfl : Rg (9) (64) ((hI h x0 13)))
          refine s_dP0 (zX15_has hF T r_x0 i_x1) (fun o_5 eb_o_5 e_o_5 i_o_5 p_o_5 => ?_)
          have T_12 := th_eq e_o_5 T
          refine s_br (fun c_13 => ?_) (fun c_13 => ?_)
          · have _ := c_13
            have i_f_14 : Rg (0) (0) (o_5.1) := rg_eq c_13 (rg_b rfl : Rg (0) (0) (0 : Int32))
            exact s_some ⟨(T_12), (rg_m (rg_b rfl : Rg (-102) (-102) ((- 102 : Int32))) (by decide))⟩
          · have _ := c_13
            have i_f_15 : Rg (1) (1) (o_5.1) := rg_nlo c_13 i_o_5 (rg_b rfl : Rg (0) (0) (0 : Int32))
            have p_f_16 := p_o_5 c_13
            obtain ⟨r_7, e_r_7, q_r_7⟩ := thR T_12 r_x0 (k := 16) (i := 14) (k2 := 84) rfl (by decide)
            refine s_ref e_r_7 ?_
            refine s_gd (by rw [thN T_12 q_r_7 (k := 84) (n := 60) rfl (by decide)]; exact rg_inB (p_f_16 : Rg (0) (59) (x1)) (by decide)) ?_
            have pf_17 : HasB x0 x1 o_5.2 := (by rw [e_o_5]; exact (hb_of T r_x0 bd eb_o_5 c_13))
            obtain ⟨r_9, e_r_9, pe_r_9⟩ := pf_17 _ e_r_7
            have q_r_9 := thRn T_12 q_r_7 (k := 84) (k2 := 13) rfl (by decide) e_r_9
            refine s_ref e_r_9 ?_
            refine s_cJ (zX15_seenBy hF (pmA_s hA rfl) (th_id T_12 q_r_7 (k := 84) (w := 3400) e_r_9 rfl (by decide)) T_12 r_x0 q_r_9 i_f_6) (fun o_10 T_18 => ?_)
            exact s_some ⟨(T_18), (rg_top _ : Rg (-2147483648) (2147483647) ((((o_10.1 >>> (x3.toInt64 &&& 63)) &&& (1 : Int64)).toInt32)))⟩
        · have _ := c_10
          have i_f_19 : Rg (9) (2147483647) (x3) := rg_le2 (nlt_le c_10) (thI T r_x0 (k := 16) (i := 13) rfl : Rg (9) (64) ((hI h x0 13))) i_f_9
          exact s_some ⟨(T), (rg_m (rg_b rfl : Rg (-101) (-101) ((- 101 : Int32))) (by decide))⟩
set_option maxRecDepth 20000 in
theorem zX15_sizeOf_4 {ρ : Nat → Nat} {c : Cm} {h0 : Hp} {F : Nat} (hF : 700000 ≤ F) : ∀ (f : Nat) {h : Hp} {x0 : Nat} {x1 : Int32} {x2 : Int32} {x3 : Int32}, h = h0 → TH ρ c h → ρ x0 = 16 → Rg (0) (4095) (x1) → Rg (-2147483648) (2147483647) (x2) → Rg (0) (5) (x3) → (5 - x3.toInt).toNat < f → Sat (sX15_sizeOf_4 F f h x0 x1 x2 x3) (ZI0 h0 (-2147483648) (2147483647)) := by
  intro f
  induction f with
  | zero => intros; omega
  | succ f ih =>
    intro h x0 x1 x2 x3 E T r_x0 i_x1 i_x2 i_x3 hm
    rw [sX15_sizeOf_4]
    obtain ⟨C_4, hC_4⟩ : ∃ C : Int, C = x3.toInt := ⟨_, rfl⟩
    have hk_4 : ∀ {h : Hp} {x0 : Nat} {x1 : Int32} {x2 : Int32} {x3 : Int32}, h = h0 → TH ρ c h → ρ x0 = 16 → Rg (0) (4095) (x1) → Rg (-2147483648) (2147483647) (x2) → Rg (0) (5) (x3) → C_4 < x3.toInt → Sat (sX15_sizeOf_4 F f h x0 x1 x2 x3) (ZI0 h0 (-2147483648) (2147483647)) := by
      intro h' x0' x1' x2' x3' E' T' r_x0' i_x1' i_x2' i_x3' hl
      exact ih E' T' r_x0' i_x1' i_x2' i_x3' (by have := i_x3'.1; have := i_x3'.2; omega)
    have hc_4 : C_4 ≤ x3.toInt := by omega
    obtain ⟨r_1, e_r_1, q_r_1⟩ := thR T r_x0 (k := 16) (i := 46) (k2 := 99) rfl (by decide)
    refine s_ref e_r_1 ?_
    refine s_gd (by rw [thN T q_r_1 (k := 99) (n := 4096) rfl (by decide)]; exact rg_inB (i_x1 : Rg (0) (4095) (x1)) (by decide)) ?_
    refine s_br (fun c_1 => ?_) (fun c_1 => ?_)
    · have _ := c_1
      exact s_some ⟨E, i_x2⟩
    · have _ := c_1
      have i_f_2 : Rg (0) (4) (x3) := rg_lt1 (nle_lt c_1) i_x3 (thI T q_r_1 (k := 99) rfl : Rg (0) (5) ((hI h r_1 x1.toNatClampNeg)))
      have i_f_3 : Rg (1) (5) ((hI h r_1 x1.toNatClampNeg)) := rg_lt2 (nle_lt c_1) i_x3 (thI T q_r_1 (k := 99) rfl : Rg (0) (5) ((hI h r_1 x1.toNatClampNeg)))
      refine s_q (fun v_4 e_4 => ?_)
      have i_v_4 : Rg (-2147483648) (2147483647) (v_4) := by rw [e_4]; exact (rg_top _ : Rg (-2147483648) (2147483647) (x2 * (hI h x0 13)))
      refine s_q (fun v_5 e_5 => ?_)
      have i_v_5 : Rg (1) (5) (v_5) := by rw [e_5]; exact (rg_add i_f_2 (rg_b rfl : Rg (1) (1) ((1 : Int32))) (by decide) : Rg (1) (5) (x3 + (1 : Int32)))
      have m_6 : (v_5).toInt = x3.toInt + 1 := by rw [e_5]; exact rg_inc i_f_2 (by decide)
      exact hk_4 E T r_x0 i_x1 i_v_4 (rg_m i_v_5 (by decide)) (by have := hc_4; omega)
set_option maxRecDepth 20000 in
theorem zX15_sizeOf {ρ : Nat → Nat} {c : Cm} {F : Nat} (hF : 700000 ≤ F) {h : Hp} {x0 : Nat} {x1 : Int32} (T : TH ρ c h) (r_x0 : ρ x0 = 16) (i_x1 : Rg (0) (4095) (x1)) : Sat (sX15_sizeOf F h x0 x1) (ZI0 h (-2147483648) (2147483647)) := by
  unfold sX15_sizeOf 
  have m_1 : Rg (0) (5) ((0 : Int32)) := (rg_m (rg_b rfl : Rg (0) (0) ((0 : Int32))) (by decide))
  exact zX15_sizeOf_4 hF F rfl T r_x0 i_x1 (rg_m (rg_b rfl : Rg (2) (2) ((2 : Int32))) (by decide)) (rg_m (rg_b rfl : Rg (0) (0) ((0 : Int32))) (by decide)) (by have := m_1.1; have := m_1.2; omega)
set_option maxRecDepth 20000 in
theorem zX15_told_4 {ρ : Nat → Nat} {c : Cm} {F : Nat} (hF : 700000 ≤ F) : ∀ (f : Nat) {h : Hp} {x0 : Nat} {x1 : Int32} {x2 : Int32} {x3 : Int32}, TH ρ c h → ρ x0 = 16 → Rg (-2147483648) (2147483647) (x1) → Rg (-2147483648) (2147483647) (x2) → Rg (0) (60) (x3) → (60 - x3.toInt).toNat < f → Sat (sX15_told_4 F f h x0 x1 x2 x3) (fun o => ∃ ρ' c', Ext ρ c ρ' c' ∧ TH ρ' c' o.2 ∧ Rg (-2147483648) (2147483647) (o.1)) := by
  intro f
  induction f with
  | zero => intros; omega
  | succ f ih =>
    intro h x0 x1 x2 x3 T r_x0 i_x1 i_x2 i_x3 hm
    rw [sX15_told_4]
    unfold sX15_told_37 sX15_told_112 sX15_told_120 sX15_told_25
    obtain ⟨C_4, hC_4⟩ : ∃ C : Int, C = x3.toInt := ⟨_, rfl⟩
    have hk_4 : ∀ {h : Hp} {x0 : Nat} {x1 : Int32} {x2 : Int32} {x3 : Int32}, TH ρ c h → ρ x0 = 16 → Rg (-2147483648) (2147483647) (x1) → Rg (-2147483648) (2147483647) (x2) → Rg (0) (60) (x3) → C_4 < x3.toInt → Sat (sX15_told_4 F f h x0 x1 x2 x3) (fun o => ∃ ρ' c', Ext ρ c ρ' c' ∧ TH ρ' c' o.2 ∧ Rg (-2147483648) (2147483647) (o.1)) := by
      intro h' x0' x1' x2' x3' T' r_x0' i_x1' i_x2' i_x3' hl
      exact ih T' r_x0' i_x1' i_x2' i_x3' (by have := i_x3'.1; have := i_x3'.2; omega)
    have hc_4 : C_4 ≤ x3.toInt := by omega
    refine s_br (fun c_1 => ?_) (fun c_1 => ?_)
    · have _ := c_1
      have i_f_2 : Rg (60) (60) (x3) := rg_le2 c_1 (rg_b rfl : Rg (60) (60) ((60 : Int32))) i_x3
      refine s_q (fun a_2 e_4 => ?_)
      refine s_q (fun h_3 e_5 => ?_)
      obtain ⟨c_h_3, X_h_3, T_3, z_a_2, n_a_2, g_h_3⟩ := scr T e_4 e_5
      have f_h_3 := g_h_3 (fS [] [])
      refine s_gd (by rw [n_a_2]; exact rg_inB ((rg_m (rg_b rfl : Rg (0) (0) ((0 : Int32))) (by decide)) : Rg (0) (7) ((0 : Int32))) (by decide)) ?_
      refine s_hq (th_w0 T_3 z_a_2) (fun h_2q1 T_6 w_7 => ?_)
      have ns_8 : hN h_2q1 a_2 = 8 := by rw [w_7]; exact n_a_2
      refine s_gd (by rw [ns_8]; exact rg_inB ((rg_m (rg_b rfl : Rg (1) (1) ((1 : Int32))) (by decide)) : Rg (0) (7) ((1 : Int32))) (by decide)) ?_
      refine s_hq (th_w0 T_6 z_a_2) (fun h_4q1 T_9 w_10 => ?_)
      have ns_11 : hN h_4q1 a_2 = 8 := by rw [w_10]; exact ns_8
      obtain ⟨r_5q1, e_r_5q1, q_r_5q1⟩ := thR T_9 (ex_r X_h_3 r_x0 (by decide)) (k := 16) (i := 4) (k2 := 15) rfl (by decide)
      refine s_ref e_r_5q1 ?_
      refine s_gd (by rw [ns_11]; exact rg_inB ((rg_m (rg_b rfl : Rg (2) (2) ((2 : Int32))) (by decide)) : Rg (0) (7) ((2 : Int32))) (by decide)) ?_
      refine s_hq (th_w0 T_9 z_a_2) (fun h_7q1 T_12 w_13 => ?_)
      have ns_14 : hN h_7q1 a_2 = 8 := by rw [w_13]; exact ns_11
      refine s_ref (hr_w w_13 e_r_5q1) ?_
      refine s_gd (by rw [ns_14]; exact rg_inB ((rg_m (rg_b rfl : Rg (3) (3) ((3 : Int32))) (by decide)) : Rg (0) (7) ((3 : Int32))) (by decide)) ?_
      refine s_hq (th_w0 T_12 z_a_2) (fun h_10q1 T_15 w_16 => ?_)
      have ns_17 : hN h_10q1 a_2 = 8 := by rw [w_16]; exact ns_14
      refine s_ref (hr_w w_16 (hr_w w_13 e_r_5q1)) ?_
      refine s_gd (by rw [ns_17]; exact rg_inB ((rg_m (rg_b rfl : Rg (4) (4) ((4 : Int32))) (by decide)) : Rg (0) (7) ((4 : Int32))) (by decide)) ?_
      refine s_hq (th_w0 T_15 z_a_2) (fun h_13q1 T_18 w_19 => ?_)
      have ns_20 : hN h_13q1 a_2 = 8 := by rw [w_19]; exact ns_17
      refine s_gd (by rw [ns_20]; exact rg_inB ((rg_m (rg_b rfl : Rg (5) (5) ((5 : Int32))) (by decide)) : Rg (0) (7) ((5 : Int32))) (by decide)) ?_
      refine s_hq (th_w0 T_18 z_a_2) (fun h_15q1 T_21 w_22 => ?_)
      have ns_23 : hN h_15q1 a_2 = 8 := by rw [w_22]; exact ns_20
      refine s_gd (by rw [ns_23]; exact rg_inB ((rg_m (rg_b rfl : Rg (6) (6) ((6 : Int32))) (by decide)) : Rg (0) (7) ((6 : Int32))) (by decide)) ?_
      refine s_hq (th_w0 T_21 z_a_2) (fun h_17q1 T_24 w_25 => ?_)
      have ns_26 : hN h_17q1 a_2 = 8 := by rw [w_25]; exact ns_23
      refine s_gd (by rw [ns_26]; exact rg_inB ((rg_m (rg_b rfl : Rg (7) (7) ((7 : Int32))) (by decide)) : Rg (0) (7) ((7 : Int32))) (by decide)) ?_
      refine s_hq (th_w0 T_24 z_a_2) (fun h_19q1 T_27 w_28 => ?_)
      have ns_29 : hN h_19q1 a_2 = 8 := by rw [w_28]; exact ns_26
      refine s_br (fun c_30 => ?_) (fun c_30 => ?_)
      · have _ := c_30
        have i_f_31 : Rg (-2147483648) (-1) (x1) := rg_lt1 c_30 i_x1 (rg_b rfl : Rg (0) (0) (0 : Int32))
        exact s_some ⟨_, _, X_h_3, T_27, (rg_m (rg_b rfl : Rg (-101) (-101) ((- 101 : Int32))) (by decide))⟩
      · have _ := c_30
        have i_f_32 : Rg (0) (2147483647) (x1) := rg_le2 (nlt_le c_30) (rg_b rfl : Rg (0) (0) (0 : Int32)) i_x1
        refine s_br (fun c_33 => ?_) (fun c_33 => ?_)
        · have _ := c_33
          have i_f_34 : Rg (0) (7) (x1) := rg_le1 c_33 i_f_32 (rg_b rfl : Rg (7) (7) ((7 : Int32)))
          refine s_gd (by rw [ns_29]; exact rg_inB (i_f_34 : Rg (0) (7) (x1)) (by decide)) ?_
          exact s_some ⟨_, _, X_h_3, T_27, (rg_top _ : Rg (-2147483648) (2147483647) ((hI h_19q1 a_2 x1.toNatClampNeg)))⟩
        · have _ := c_33
          have i_f_35 : Rg (8) (2147483647) (x1) := rg_lt2 (nle_lt c_33) (rg_b rfl : Rg (7) (7) ((7 : Int32))) i_f_32
          exact s_some ⟨_, _, X_h_3, T_27, (rg_m (rg_b rfl : Rg (-101) (-101) ((- 101 : Int32))) (by decide))⟩
    · have _ := c_1
      have i_f_36 : Rg (0) (59) (x3) := rg_lt1 (nle_lt c_1) i_x3 (rg_b rfl : Rg (60) (60) ((60 : Int32)))
      obtain ⟨r_4, e_r_4, q_r_4⟩ := thR T r_x0 (k := 16) (i := 15) (k2 := 85) rfl (by decide)
      refine s_ref e_r_4 ?_
      refine s_gd (by rw [thN T q_r_4 (k := 85) (n := 60) rfl (by decide)]; exact rg_inB (i_f_36 : Rg (0) (59) (x3)) (by decide)) ?_
      refine s_br (fun c_37 => ?_) (fun c_37 => ?_)
      · have _ := c_37
        have i_f_38 : Rg (-2147483648) (0) ((hI h r_4 x3.toNatClampNeg)) := rg_le1 c_37 (thI T q_r_4 (k := 85) rfl : Rg (-2147483648) (2147483647) ((hI h r_4 x3.toNatClampNeg))) (rg_b rfl : Rg (0) (0) (0 : Int32))
        refine s_q (fun v_1q7 e_39 => ?_)
        have i_v_1q7 : Rg (-2147483648) (2147483647) (v_1q7) := by rw [e_39]; exact (rg_add i_x2 (rg_b rfl : Rg (0) (0) ((0 : Int32))) (by decide) : Rg (-2147483648) (2147483647) (x2 + (0 : Int32)))
        refine s_q (fun v_2q7 e_40 => ?_)
        have i_v_2q7 : Rg (1) (60) (v_2q7) := by rw [e_40]; exact (rg_add i_f_36 (rg_b rfl : Rg (1) (1) ((1 : Int32))) (by decide) : Rg (1) (60) (x3 + (1 : Int32)))
        have m_41 : (v_2q7).toInt = x3.toInt + 1 := by rw [e_40]; exact rg_inc i_f_36 (by decide)
        exact hk_4 T r_x0 i_x1 i_v_1q7 (rg_m i_v_2q7 (by decide)) (by have := hc_4; omega)
      · have _ := c_37
        have i_f_42 : Rg (1) (2147483647) ((hI h r_4 x3.toNatClampNeg)) := rg_lt2 (nle_lt c_37) (rg_b rfl : Rg (0) (0) (0 : Int32)) (thI T q_r_4 (k := 85) rfl : Rg (-2147483648) (2147483647) ((hI h r_4 x3.toNatClampNeg)))
        refine s_q (fun v_1q8 e_43 => ?_)
        have i_v_1q8 : Rg (-2147483648) (2147483647) (v_1q8) := by rw [e_43]; exact (rg_top _ : Rg (-2147483648) (2147483647) (x2 + (1 : Int32)))
        refine s_q (fun v_2q8 e_44 => ?_)
        have i_v_2q8 : Rg (1) (60) (v_2q8) := by rw [e_44]; exact (rg_add i_f_36 (rg_b rfl : Rg (1) (1) ((1 : Int32))) (by decide) : Rg (1) (60) (x3 + (1 : Int32)))
        have m_45 : (v_2q8).toInt = x3.toInt + 1 := by rw [e_44]; exact rg_inc i_f_36 (by decide)
        exact hk_4 T r_x0 i_x1 i_v_1q8 (rg_m i_v_2q8 (by decide)) (by have := hc_4; omega)
set_option maxRecDepth 20000 in
theorem zX15_told {ρ : Nat → Nat} {c : Cm} {F : Nat} (hF : 700000 ≤ F) {h : Hp} {x0 : Nat} {x1 : Int32} (T : TH ρ c h) (r_x0 : ρ x0 = 16) (i_x1 : Rg (-2147483648) (2147483647) (x1)) : Sat (sX15_told F h x0 x1) (fun o => ∃ ρ' c', Ext ρ c ρ' c' ∧ TH ρ' c' o.2 ∧ Rg (-2147483648) (2147483647) (o.1)) := by
  unfold sX15_told 
  have m_1 : Rg (0) (60) ((0 : Int32)) := (rg_m (rg_b rfl : Rg (0) (0) ((0 : Int32))) (by decide))
  exact zX15_told_4 hF F T r_x0 i_x1 (rg_m (rg_b rfl : Rg (0) (0) ((0 : Int32))) (by decide)) (rg_m (rg_b rfl : Rg (0) (0) ((0 : Int32))) (by decide)) (by have := m_1.1; have := m_1.2; omega)
set_option maxRecDepth 20000 in
theorem zX15_view {ρ : Nat → Nat} {c : Cm} {F : Nat} (hF : 700000 ≤ F) (hA : pmA c [(83, 999), (87, 999), (88, 999), (89, 999), (16, 3), (16, 23), (16, 24)]) {h : Hp} {x0 : Nat} {x1 : Int32} {x2 : Int32} (T : TH ρ c h) (r_x0 : ρ x0 = 16) (i_x1 : Rg (-2147483648) (2147483647) (x1)) (i_x2 : Rg (-2147483648) (2147483647) (x2)) (bd : (BdP x0 h)) : Sat (sX15_view F h x0 x1 x2) (ZI ρ c (-102) (256)) := by
  unfold sX15_view sX15_view_9
  refine s_br (fun c_1 => ?_) (fun c_1 => ?_)
  · have _ := c_1
    have i_f_2 : Rg (-2147483648) (-1) (x2) := rg_lt1 c_1 i_x2 (rg_b rfl : Rg (0) (0) (0 : Int32))
    exact s_some ⟨(T), (rg_m (rg_b rfl : Rg (-101) (-101) ((- 101 : Int32))) (by decide))⟩
  · have _ := c_1
    have i_f_3 : Rg (0) (2147483647) (x2) := rg_le2 (nlt_le c_1) (rg_b rfl : Rg (0) (0) (0 : Int32)) i_x2
    refine s_br (fun c_4 => ?_) (fun c_4 => ?_)
    · have _ := c_4
      have i_f_5 : Rg (0) (1) (x2) := rg_le1 c_4 i_f_3 (rg_b rfl : Rg (1) (1) ((1 : Int32)))
      refine s_dP0 (zX15_has hF T r_x0 i_x1) (fun o_3 eb_o_3 e_o_3 i_o_3 p_o_3 => ?_)
      have T_6 := th_eq e_o_3 T
      refine s_br (fun c_7 => ?_) (fun c_7 => ?_)
      · have _ := c_7
        have i_f_8 : Rg (0) (0) (o_3.1) := rg_eq c_7 (rg_b rfl : Rg (0) (0) (0 : Int32))
        exact s_some ⟨(T_6), (rg_m (rg_b rfl : Rg (-102) (-102) ((- 102 : Int32))) (by decide))⟩
      · have _ := c_7
        have i_f_9 : Rg (1) (1) (o_3.1) := rg_nlo c_7 i_o_3 (rg_b rfl : Rg (0) (0) (0 : Int32))
        have p_f_10 := p_o_3 c_7
        obtain ⟨r_5, e_r_5, q_r_5⟩ := thR T_6 r_x0 (k := 16) (i := 14) (k2 := 84) rfl (by decide)
        refine s_ref e_r_5 ?_
        refine s_gd (by rw [thN T_6 q_r_5 (k := 84) (n := 60) rfl (by decide)]; exact rg_inB (p_f_10 : Rg (0) (59) (x1)) (by decide)) ?_
        have pf_11 : HasB x0 x1 o_3.2 := (by rw [e_o_3]; exact (hb_of T r_x0 bd eb_o_3 c_7))
        obtain ⟨r_7, e_r_7, pe_r_7⟩ := pf_11 _ e_r_5
        have q_r_7 := thRn T_6 q_r_5 (k := 84) (k2 := 13) rfl (by decide) e_r_7
        refine s_ref e_r_7 ?_
        refine s_cJf (S := fS [(87, 999), (88, 999), (89, 999), (16, 23), (16, 24)] []) T_6 (fs_sub (pmA_s hA rfl) fs_n) (zX15_seenBy hF fs_a (th_id T_6 q_r_5 (k := 84) (w := 3400) e_r_7 rfl (by decide)) (th_in _ T_6) r_x0 q_r_7 i_f_5) (fun o_8 T_12 f_o_8 => ?_)
        refine s_hq (th_wI T_12 r_x0 (k := 16) (lo := (0)) (hi := (256)) rfl ((rg_m (rg_b rfl : Rg (0) (0) ((0 : Int32))) (by decide)) : Rg (0) (256) ((0 : Int32))) (by decide) (by decide) (pm_a hA rfl)) (fun h_9 T_13 w_14 => ?_)
        refine s_ref (hr_w w_14 (hr_q (fr_R f_o_8 r_x0 (by decide) rfl rfl) e_r_5)) ?_
        refine s_gd (by rw [thN T_13 q_r_5 (k := 84) (n := 60) rfl (by decide)]; exact rg_inB (p_f_10 : Rg (0) (59) (x1)) (by decide)) ?_
        refine s_ref (hr_w w_14 (hr_q (fr_R f_o_8 q_r_5 (by decide) rfl rfl) e_r_7)) ?_
        refine s_cVq (zX15_writeMen hF (pmA_s hA rfl) (th_id T_6 q_r_5 (k := 84) (w := 3400) e_r_7 rfl (by decide)) T_13 r_x0 q_r_7 (show (hI h_9 x0 3).toInt ≤ 180 from (by have hq_ := (((rg_hs w_14 (rg_b rfl : Rg (0) (0) ((0 : Int32)))) : Rg (0) (0) ((hI h_9 x0 3))) : Rg (0) (0) ((hI h_9 x0 3))); have := hq_.1; have := hq_.2; have : (hI h_9 x0 3).toInt = ((0 : Int32) : Int32).toInt := congrArg Int32.toInt (he_s w_14); have : ((0 : Int32)).toInt = 0 := rfl; omega))) (fun o_13 T_15 p_o_13 => ?_)
        have pq_o_13_0 : ((hI h_9 x0 3).toInt) ≤ (hI o_13 x0 3).toInt := p_o_13.1
        have pq_o_13_1 : (hI o_13 x0 3).toInt ≤ ((hI h_9 x0 3).toInt) + 72 := p_o_13.2
        exact s_some ⟨(T_15), (rg_m (thI T_15 r_x0 (k := 16) (i := 3) rfl : Rg (0) (256) (hI o_13 x0 3)) (by decide))⟩
    · have _ := c_4
      have i_f_16 : Rg (2) (2147483647) (x2) := rg_lt2 (nle_lt c_4) (rg_b rfl : Rg (1) (1) ((1 : Int32))) i_f_3
      exact s_some ⟨(T), (rg_m (rg_b rfl : Rg (-101) (-101) ((- 101 : Int32))) (by decide))⟩
