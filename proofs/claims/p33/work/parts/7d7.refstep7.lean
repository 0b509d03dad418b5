/-! position and hear of the reference: the tape is empty behind them -/
section
variable {zq : Nat} {ρ ρ1 : Nat → Nat} {c c1 : Cm} {h g : Hp} {S : Nat → Nat → Nat → Bool} {x0 a b k w i F : Nat} {B Bq : Nat × Nat} {lo hi : Int} {x1 x2 x3 x4 x5 : Int32}
/-- the tape is emptied -/
theorem tp_w (hp : hpR c) (T : TH ρ c h) (r0 : ρ x0 = 16) (P : RfI x0 h) (M : RmR x0 B h) (T2 : TH ρ c g) (e : g = wI h x0 1 (0 : Int32)) : RfI x0 g ∧ RmR x0 B g ∧ hI g x0 1 = 0 := by
  have f := fr1I (c := c) (A := [(16, 1)]) (k := 16) r0 rfl e
  have hb := ok_bad (A := [(16, 1)]) (L := []) rfl
  exact ⟨rfi_f T r0 f hb P, rmr_f T r0 f (T2.1.1.trans T.1.1.symm) (fun _ => rfl) (fun _ => rfl) (fun _ => rfl) (fun _ => rfl) (fun _ => rfl) (fun _ _ => rfl) (fun _ _ => rfl) (fun _ _ => rfl) (fun _ _ => rfl) M, by rw [e, rI_s]⟩
abbrev heA : List (Nat × Nat) := [(83, 999), (87, 999), (88, 999), (89, 999), (98, 999), (16, 3), (16, 23), (16, 24), (16, 29), (16, 36)]
set_option maxRecDepth 20000 in
theorem rw_hear (hF : 700000 ≤ F) (hp : hpR c) (T : TH ρ c h) (r_x0 : ρ x0 = 16) (P : RfI x0 h) (M : RmR x0 B h) : Sat (sX15_hear F h x0 x1) (RP ρ c x0 B (fun o => hI o x0 1 = 0)) := by
  have i_x1 : Rg (-2147483648) (2147483647) (x1) := rg_top _
  unfold sX15_hear
  refine s_q (fun v_1 e_1 => ?_)
  have i_v_1 : Rg (0) (1200) (v_1) := by rw [e_1]; exact (thI T r_x0 (k := 16) (i := 1) rfl : Rg (0) (1200) (hI h x0 1))
  refine s_hq (th_wI T r_x0 (k := 16) (lo := (0)) (hi := (1200)) rfl ((rg_m (rg_b rfl : Rg (0) (0) ((0 : Int32))) (by decide)) : Rg (0) (1200) ((0 : Int32))) (by decide) (by decide) (hp 16 _ 1 rfl (fun z => absurd z.2 (by decide)))) (fun h_2 T2 w_3 => ?_)
  obtain ⟨P2, M2, z2⟩ := tp_w hp T r_x0 P M T2 w_3
  refine rp_z (A := heA) (L := [(2528, bpL), (2530, mpL), (2531, mpL), (2535, bpL)]) (lo := -102) (hi := 2999) (Q := fun _ => True) hp rfl rfl T2 r_x0 P2 M2 (s_zq ?_) (fun o _ f _ => by rw [(fr_RI f r_x0 (by decide) (fun _ => rfl)).1]; exact z2)
  have T_2 := th_in (c := c) (fS heA [(2528, bpL), (2530, mpL), (2531, mpL), (2535, bpL)]) T2
  have hA : pmA (cat c (fS heA [(2528, bpL), (2530, mpL), (2531, mpL), (2535, bpL)]) h_2) heA := fs_a
  have hi_2528 : pmO (cat c (fS heA [(2528, bpL), (2530, mpL), (2531, mpL), (2535, bpL)]) h_2) 2528 bpL := fs_o (.head _)
  have hi_2530 : pmO (cat c (fS heA [(2528, bpL), (2530, mpL), (2531, mpL), (2535, bpL)]) h_2) 2530 mpL := fs_o (.tail _ (.head _))
  have hi_2531 : pmO (cat c (fS heA [(2528, bpL), (2530, mpL), (2531, mpL), (2535, bpL)]) h_2) 2531 mpL := fs_o (.tail _ (.tail _ (.head _)))
  have hi_2535 : pmO (cat c (fS heA [(2528, bpL), (2530, mpL), (2531, mpL), (2535, bpL)]) h_2) 2535 bpL := fs_o (.tail _ (.tail _ (.tail _ (.head _))))
  have pf_4 : BdP x0 h_2 := rf_b P2
  have pf_5 : SqOk x0 h_2 := P2.1
  refine s_cIfq (S := fS [(87, 999), (88, 999), (89, 999), (16, 23), (16, 24), (16, 29)] [(2528, [(62, 999), (63, 999), (64, 999), (65, 999), (13, 1), (13, 2), (13, 3), (13, 7)]), (2530, [(66, 999), (67, 999), (68, 999), (69, 999), (70, 999), (71, 999), (72, 999), (14, 0)])]) T_2 (fs_sub (pmA_s hA rfl) (fs_c (pmO_s hi_2528 rfl) (fs_c (pmO_s hi_2530 rfl) fs_n))) (zX15_moves hF fs_a (fs_o (.head _)) (fs_o (.tail _ (.head _))) (th_in _ T_2) r_x0 i_x1 pf_4 pf_5) (fun o_3 T_6 i_o_3 f_o_3 p_o_3 => ?_)
  have pq_o_3_0 : o_3.1.toInt = -102 ∨ (0 ≤ (x1).toInt ∧ (x1).toInt ≤ 59) := p_o_3.1
  refine s_br (fun c_7 => ?_) (fun c_7 => ?_)
  · have _ := c_7
    have i_f_8 : Rg (-102) (-102) (o_3.1) := rg_eq c_7 (rg_b rfl : Rg (-102) (-102) ((- 102 : Int32)))
    exact s_some ⟨(T_6), (rg_m (rg_b rfl : Rg (-102) (-102) ((- 102 : Int32))) (by decide))⟩
  · have _ := c_7
    have i_f_9 : Rg (-101) (3000) (o_3.1) := rg_nlo c_7 i_o_3 (rg_b rfl : Rg (-102) (-102) ((- 102 : Int32)))
    refine s_q (fun v_5 e_10 => ?_)
    have i_v_5 : Rg (0) (256) (v_5) := by rw [e_10]; exact (thI T_6 r_x0 (k := 16) (i := 3) rfl : Rg (0) (256) (hI o_3.2 x0 3))
    obtain ⟨r_6, e_r_6, q_r_6⟩ := thR T_6 r_x0 (k := 16) (i := 2) (k2 := 83) rfl (by decide)
    refine s_ref e_r_6 ?_
    obtain ⟨r_7, e_r_7, q_r_7⟩ := thR T_6 r_x0 (k := 16) (i := 43) (k2 := 98) rfl (by decide)
    refine s_ref e_r_7 ?_
    refine s_gd (rg_nneg ((rg_m (rg_b rfl : Rg (0) (0) ((0 : Int32))) (by decide)) : Rg (0) (2147483647) ((0 : Int32))) (by decide)) ?_
    refine s_gd (rg_nneg ((rg_m (rg_b rfl : Rg (0) (0) ((0 : Int32))) (by decide)) : Rg (0) (2147483647) ((0 : Int32))) (by decide)) ?_
    refine s_gd (rg_nneg ((rg_m i_v_5 (by decide)) : Rg (0) (2147483647) (v_5)) (by decide)) ?_
    refine s_gd (g_len (rg_b rfl : Rg (0) (0) ((0 : Int32))) i_v_5 (thN T_6 q_r_6 (k := 83) (n := 256) rfl (by decide)) (by decide)) ?_
    refine s_gd (g_len (rg_b rfl : Rg (0) (0) ((0 : Int32))) i_v_5 (thN T_6 q_r_7 (k := 98) (n := 256) rfl (by decide)) (by decide)) ?_
    refine s_gd (fun i _ => fits_b (rg_m (thI T_6 q_r_6 (k := 83) (lo := (-128)) (hi := (127)) rfl) (by decide))) ?_
    refine s_hq (th_cpI T_6 q_r_6 q_r_7 (k0 := 83) (k := 98) (lo0 := (-128)) (hi0 := (127)) (lo := (-128)) (hi := (127)) (fun _ => rfl) (fun _ => rfl) (by decide) (by decide) (by decide) (fun _ => (pm_a hA rfl))) (fun h_14 T_11 w_12 => ?_)
    have pf_13 : BdP x0 h_14 := (bp_fr T_6 r_x0 (fr1C (A := [(98, 999)]) q_r_7 rfl w_12) (fun _ => rfl) (fun _ => rfl) (fun _ _ => rfl) (fun _ _ => rfl) rfl rfl rfl (fun _ => rfl) (fun _ => rfl) (bp_fr T_2 r_x0 f_o_3 (fun _ => rfl) (fun _ => rfl) (fun _ _ => rfl) (fun _ _ => rfl) rfl rfl rfl (fun _ => rfl) (fun _ => rfl) pf_4))
    have pf_14 : SqOk x0 h_14 := (sq_fr T_6 r_x0 (fr1C (A := [(98, 999)]) q_r_7 rfl w_12) (fun _ => rfl) (fun _ => rfl) (fun _ => rfl) (sq_fr T_2 r_x0 f_o_3 (fun _ => rfl) (fun _ => rfl) (fun _ => rfl) pf_5))
    have pf_15 : MvP x0 x1 h_14 := (mp_fr T_6 r_x0 (fr1C (A := [(98, 999)]) q_r_7 rfl w_12) (fun _ => rfl) (fun _ => rfl) (fun _ _ => rfl) rfl rfl rfl (fun _ => rfl) (fun _ => rfl) (fun _ => rfl) (fun _ => rfl) rfl rfl (fun _ => rfl) rfl rfl rfl rfl rfl rfl (fun _ => rfl) (fun _ => rfl) (fun _ => rfl) (fun _ => rfl) (fun _ => rfl) (p_o_3.2 (show ¬ o_3.1.toInt = -102 from (by have := (i_f_9 : Rg (-101) (3000) (o_3.1)).1; have := (i_f_9 : Rg (-101) (3000) (o_3.1)).2; have := (i_x1 : Rg (-2147483648) (2147483647) (x1)).1; have := (i_x1 : Rg (-2147483648) (2147483647) (x1)).2; have := ne_i c_7; have : ((- 102 : Int32)).toInt = -102 := rfl; omega))))
    have m_16 : Rg (0) (3000) ((0 : Int32)) := (rg_m (rg_b rfl : Rg (0) (0) ((0 : Int32))) (by decide))
    exact zX15_hear_48 hF (pmA_s hA rfl) (pmO_s hi_2528 rfl) (pmO_s hi_2531 rfl) (pmO_s hi_2535 rfl) F T_11 r_x0 i_x1 i_v_1 i_v_5 (rg_m (rg_b rfl : Rg (-1) (-1) ((- 1 : Int32))) (by decide)) (rg_m (rg_b rfl : Rg (0) (0) ((0 : Int32))) (by decide)) pf_13 pf_14 pf_15 (show 0 ≤ (x1).toInt ∧ (x1).toInt ≤ 59 from (by have := (i_x1 : Rg (-2147483648) (2147483647) (x1)).1; have := (i_x1 : Rg (-2147483648) (2147483647) (x1)).2; have := (i_f_9 : Rg (-101) (3000) (o_3.1)).1; have := (i_f_9 : Rg (-101) (3000) (o_3.1)).2; have := ne_i c_7; have : ((- 102 : Int32)).toInt = -102 := rfl; omega)) (by have := m_16.1; have := m_16.2; omega)
abbrev poA : List (Nat × Nat) := [(84, 999), (85, 999), (86, 999), (16, 16), (16, 17), (16, 18), (16, 19), (16, 20), (16, 23), (16, 24)]
theorem pos14_w {h2 : Hp} {v t0 : Int32} (hF : 700000 ≤ F) (hA : pmA c poA) (hi_2521 : pmO c 2521 [(62, 999), (63, 999), (64, 999), (65, 999), (13, 1), (13, 2), (13, 3), (13, 7)]) (hi_3400 : pmO c 3400 [(62, 999), (63, 999), (64, 999), (65, 999), (13, 1), (13, 2), (13, 3), (13, 7)]) (T2 : TH ρ c h2) (r0 : ρ x0 = 16) (iv : Rg 0 1200 v) (K2 : BdY zq Bq x0 h2 ∧ SqOk x0 h2 ∧ zq = 64) : Sat (sX15_position_14 F h2 x0 v t0) (MkI ρ c (-1400) 59 (BdY zq Bq x0)) := by
  have kp : ∀ {A : List (Nat × Nat)} {Bs : List (Nat × List (Nat × Nat))} {g g' : Hp}, TH ρ c g → TH ρ c g' → Fr ρ (cat c (fS A Bs) g) g g' → (∀ w i, i = 14 ∨ i = 15 ∨ i = 11 ∨ i = 12 ∨ i = 13 → fS A Bs 16 w i = false) → (∀ k w i, k = 84 ∨ k = 85 → fS A Bs k w i = false) → (∀ k i, k = 13 ∨ k = 62 ∨ k = 63 ∨ k = 64 → fS A Bs k 3400 i = false) → BdY zq Bq x0 g ∧ SqOk x0 g ∧ zq = 64 → BdY zq Bq x0 g' ∧ SqOk x0 g' ∧ zq = 64 := fun {A Bs g g'} Tg Tg' f s1 s2 s3 K => ⟨bdy_fr Tg r0 f (fun w => s1 w 14 (by omega)) (fun w => s1 w 15 (by omega)) (fun w i => s2 84 w i (by omega)) (fun w i => s2 85 w i (by omega)) (fun i _ => s3 13 i (by omega)) (fun i => s3 62 i (by omega)) (fun i => s3 63 i (by omega)) (fun i => s3 64 i (by omega)) K.1 Tg', sq_fr Tg r0 f (fun w => s1 w 11 (by omega)) (fun w => s1 w 12 (by omega)) (fun w => s1 w 13 (by omega)) K.2.1, K.2.2⟩
  unfold sX15_position_14
  refine s_br (fun _ => s_some ⟨ρ, c, ex_0, T2, rg_b rfl, K2.1⟩) (fun _ => ?_)
  obtain ⟨t, et, qt⟩ := thR T2 r0 (i := 0) (k2 := 82) rfl (by decide)
  refine s_ref et ?_
  obtain ⟨b, eb, qb⟩ := thR T2 r0 (i := 21) (k2 := 13) rfl (by decide)
  refine s_ref eb ?_
  have wb : cw c b = 2521 := th_id T2 r0 (w := 2521) eb rfl (by decide)
  refine s_cIfq (S := fS [(16, 17), (16, 18), (16, 19), (16, 20)] [(2521, [(62, 999), (63, 999), (64, 999), (65, 999), (13, 1), (13, 2), (13, 3), (13, 7)])]) T2 (fs_sub (pmA_s hA rfl) (fs_c hi_2521 fs_n)) (isPos_w hF fs_a (fs_o (.head _)) wb (th_in _ T2) r0 qt iv qb K2.2.1) (fun o4 T4 i4 f4 P4 => ?_)
  have K4 := kp T2 T4 f4 (fun w i hi => by rcases hi with z | z | z | z | z <;> subst z <;> rfl) (fun k w i hk => by rcases hk with z | z <;> subst z <;> rfl) (fun k i hk => by rcases hk with z | z | z | z <;> subst z <;> exact fs_cf (Or.inr (by decide)) (fs_nf rfl)) K2
  unfold sX15_position_34
  refine s_br (fun _ => ?_) (fun n4 => ?_)
  · refine s_some ⟨ρ, c, ex_0, T4, ?_, K4.1⟩
    exact rg_m (rg_sub (rg_b rfl : Rg (-200) (-200) (-200 : Int32)) (thI T4 r0 (i := 19) rfl : Rg 0 1200 (hI o4.2 x0 19)) (by decide) : Rg (-1400) (-200) ((-200 : Int32) - hI o4.2 x0 19)) (by decide)
  obtain ⟨H, eH, sH4, jO⟩ := P4.resolve_left n4
  have eb4 : hR o4.2 x0 21 = some b := by rw [(fr_RI f4 r0 (by decide) (fun _ => rfl)).2.2]; exact eb
  refine s_ref eb4 ?_
  refine s_cIfq (S := fS [(86, 999), (16, 23), (16, 24)] []) T4 (fs_sub (pmA_s hA rfl) fs_n) (s_weq2 (zX15_wrongOf hF fs_a wb (th_in _ T4) r0 qb)) (fun o5 T5 i5 f5 P5 => ?_)
  have K5 := kp T4 T5 f5 (fun w i hi => by rcases hi with z | z | z | z | z <;> subst z <;> rfl) (fun k w i hk => by rcases hk with z | z <;> subst z <;> rfl) (fun k i hk => by rcases hk with z | z | z | z <;> subst z <;> rfl) K4
  unfold sX15_position_54 sX15_position_73
  refine s_br (fun l5 => ?_) (fun n5 => ?_)
  · have eb5 : hR o5.2 x0 21 = some b := by rw [(fr_RI f5 r0 (by decide) (fun _ => rfl)).2.2]; exact eb4
    refine s_ref eb5 ?_
    obtain ⟨M, eM, rM⟩ := thR T4 qb (i := 0) (k2 := 62) rfl (by decide)
    obtain ⟨P, eP, rP⟩ := thR T4 qb (i := 4) (k2 := 63) rfl (by decide)
    have V := wrong_w T4 r0 qb K4.2.1 eM eP P5.2 l5
    unfold VR at V
    have c13 : (hI o4.2 x0 13).toNatClampNeg ≤ 64 := by
      have i13 := thI T4 r0 (k := 16) (i := 13) (lo := 9) (hi := 64) rfl
      have := nc_i (x := hI o4.2 x0 13) (by have := i13.1; omega)
      have := i13.2
      omega
    rw [← crt_hi 64 c13 jO, ← K4.2.2] at V
    have W4 : WrE zq b o4.2 := ⟨fun M' H' m1 m2 => by
      have y : H' = H := r_eq eH m2
      subst y
      have := mc_le (hI o4.2 M') 64
      unfold tot
      omega, V.1, V.2.1, fun n M' P' m1 m2 => by
      have y1 : M' = M := r_eq eM m1
      have y2 : P' = P := r_eq eP m2
      subst y1; subst y2
      exact V.2.2 n⟩
    have W5 : WrE zq b o5.2 := wr_fr T4 qb f5 (fun _ _ => rfl) (fun _ => rfl) (fun _ => rfl) (fun _ => rfl) W4
    have pe5 : PE b o5.2 := P5.1 (by have := le_i l5; have z0 : (0 : Int32).toInt = 0 := rfl; have := i5.1; omega)
    obtain ⟨o7, e7, ρ7, c7, X7, T7, j7, bd7⟩ := keep_y (F := F) hF (pmA_s hA rfl) hi_3400 wb T5 r0 qb K5.1 ⟨pe5, W5⟩
    exact s_val e7 (s_some ⟨ρ7, c7, X7, T7, rg_m j7 (by decide), bd7⟩)
  · refine s_some ⟨ρ, c, ex_0, T5, ?_, K5.1⟩
    exact rg_m (rg_sub (rg_b rfl : Rg 0 0 (0 : Int32)) i5 (by decide) : Rg (-8) 0 ((0 : Int32) - o5.1)) (by decide)
theorem rw_position (hF : 700000 ≤ F) (hp : hpR c) (T : TH ρ c h) (r0 : ρ x0 = 16) (P : RfI x0 h) (M : RmR x0 B h) : Sat (sX15_position F h x0) (RP ρ c x0 B (fun o => hI o x0 1 = 0)) := by
  unfold sX15_position
  refine s_q (fun v ev => ?_)
  have iv : Rg 0 1200 v := by rw [ev]; exact thI T r0 rfl
  refine s_hq (th_wI T r0 (k := 16) (lo := 0) (hi := 1200) rfl (rg_m (rg_b rfl : Rg 0 0 (0 : Int32)) (by decide)) (by decide) (by decide) (hp 16 _ 1 rfl (fun z => absurd z.2 (by decide)))) (fun h2 T2 w2 => ?_)
  obtain ⟨P2, M2, z2⟩ := tp_w hp T r0 P M T2 w2
  refine s_dI0 (zX15_freePlace hF T2 r0) (fun o3 e3 e3' i3 => ?_)
  rw [e3']
  have ob : ∀ w, w ≠ 3400 → w ≠ 2521 → ∀ k i, (k = 13 ∨ k = 62 ∨ k = 63 ∨ k = 64) → fS poA [(2521, bpL), (3400, bpL)] k w i = false := fun w h1 h2 k i hk => fs_cf (Or.inr h2) (fs_cf (Or.inr h1) (by rcases hk with z | z | z | z <;> subst z <;> rfl))
  exact rp_b (S := fS poA [(2521, bpL), (3400, bpL)]) (R := fun _ => True) (fs_r hp rfl) (fun _ => rfl) (fun _ => rfl) (fun _ => rfl) (fun _ => rfl) ⟨fun _ => rfl, fun _ _ => rfl, fun j _ => ⟨fun i _ => ob _ (by omega) (by omega) _ _ (by omega), fun i => ob _ (by omega) (by omega) _ _ (by omega), fun i => ob _ (by omega) (by omega) _ _ (by omega), fun i => ob _ (by omega) (by omega) _ _ (by omega)⟩⟩ ⟨fun _ => rfl, fun _ => rfl, fun _ _ => rfl, fun _ _ => rfl⟩ ⟨fun _ => rfl, fun _ => rfl⟩ ⟨⟨fun _ => rfl, fun _ _ => rfl, fun j => ⟨fun i _ => ob _ (by omega) (by omega) _ _ (by omega), fun i => ob _ (by omega) (by omega) _ _ (by omega), fun i => ob _ (by omega) (by omega) _ _ (by omega), fun i => ob _ (by omega) (by omega) _ _ (by omega)⟩⟩, ⟨fun _ => rfl, fun _ _ => rfl⟩, ⟨fun _ => rfl, fun _ _ => rfl⟩, fun _ => rfl⟩ ⟨fun _ => rfl, fun _ => rfl, fun _ => rfl, fun _ => rfl, fun _ => rfl, fun _ => rfl, fun _ => rfl, fun _ => rfl, fun _ => rfl, fun _ _ => rfl, fun _ _ => rfl, fun _ _ => rfl, fun _ _ => rfl, fun _ _ => rfl⟩ T2 r0 P2 M2 (fun Bq G => mk_t (pos14_w hF fs_a (fs_o (.head _)) (fs_o (.tail _ (.head _))) (th_in _ T2) r0 iv ⟨G, P2.1, rfl⟩)) (fun o f _ => by rw [(fr_RI f r0 (by decide) (fun _ => rfl)).1]; exact z2)
end
