section
/-! position and hear of the reference: the tape is empty behind them -/
section
variable {zq : Nat} {ρ ρ1 : Nat → Nat} {c c1 : Cm} {h g : Hp} {S : Nat → Nat → Nat → Bool} {x0 a b k w i F : Nat} {B Bq : Nat × Nat} {lo hi : Int} {x1 x2 x3 x4 x5 : Int32}
/-- the tape is emptied -/
theorem tp_w (hp : hpR c) (T : TH ρ c h) (r0 : ρ x0 = 16) (P : RfI x0 h) (M : RmR x0 B h) (T2 : TH ρ c g) (e : g = wI h x0 1 (0 : Int32)) : RfI x0 g ∧ RmR x0 B g ∧ hI g x0 1 = 0 := by
  have f := fr1I (c := c) (A := [(16, 1)]) (k := 16) r0 rfl e
  have hb := ok_bad (A := [(16, 1)]) (L := []) rfl
  exact ⟨rfi_f T r0 f hb P, rmr_f T r0 f (T2.1.1.trans T.1.1.symm) (fun _ => rfl) (fun _ => rfl) (fun _ => rfl) (fun _ => rfl) (fun _ => rfl) (fun _ _ => rfl) (fun _ _ => rfl) (fun _ _ => rfl) (fun _ _ => rfl) M, by rw [e, rI_s]⟩
abbrev heA : List (Nat × Nat) := [(83, 999), (87, 999), (88, 999), (89, 999), (98, 999), (16, 3), (16, 23), (16, 24), (16, 29), (16, 36)]
set_option maxRecDepth 20000 in
theorem rw_hear (hF : 700000 ≤ F) (hp : hpR c) (T : TH ρ c h) (r_x0 : ρ x0 = 16) (P : RfI x0 h) (M : RmR x0 B h) : Sat (sX15_hear F h x0 x1) (RP ρ c x0 B (fun o => hI o x0 1 = 0)) := by
  have i_x1 : Rg (-2147483648) (2147483647) (x1) := rg_top _
  unfold sX15_hear
  refine s_q (fun v_1 e_1 => ?_)
  have i_v_1 : Rg (0) (1200) (v_1) := by rw [e_1]; exact (thI T r_x0 (k := 16) (i := 1) rfl : Rg (0) (1200) (hI h x0 1))
  refine s_hq (th_wI T r_x0 (k := 16) (lo := (0)) (hi := (1200)) rfl ((rg_m (rg_b rfl : Rg (0) (0) ((0 : Int32))) (by decide)) : Rg (0) (1200) ((0 : Int32))) (by decide) (by decide) (hp 16 _ 1 rfl)) (fun h_2 T2 w_3 => ?_)
  obtain ⟨P2, M2, z2⟩ := tp_w hp T r_x0 P M T2 w_3
  refine rp_z (A := heA) (L := [(2528, bpL), (2530, mpL), (2531, mpL), (2535, bpL)]) (lo := -102) (hi := 2999) (Q := fun _ => True) hp rfl rfl T2 r_x0 P2 M2 (s_zq ?_) (fun o _ f _ => by rw [(fr_RI f r_x0 (by decide) (fun _ => rfl)).1]; exact z2)
  have T_2 := th_in (c := c) (fS heA [(2528, bpL), (2530, mpL), (2531, mpL), (2535, bpL)]) T2
  have hA : pmA (cat c (fS heA [(2528, bpL), (2530, mpL), (2531, mpL), (2535, bpL)]) h_2) heA := fs_a
  have hi_2528 : pmO (cat c (fS heA [(2528, bpL), (2530, mpL), (2531, mpL), (2535, bpL)]) h_2) 2528 bpL := fs_o (.head _)
  have hi_2530 : pmO (cat c (fS heA [(2528, bpL), (2530, mpL), (2531, mpL), (2535, bpL)]) h_2) 2530 mpL := fs_o (.tail _ (.head _))
  have hi_2531 : pmO (cat c (fS heA [(2528, bpL), (2530, mpL), (2531, mpL), (2535, bpL)]) h_2) 2531 mpL := fs_o (.tail _ (.tail _ (.head _)))
  have hi_2535 : pmO (cat c (fS heA [(2528, bpL), (2530, mpL), (2531, mpL), (2535, bpL)]) h_2) 2535 bpL := fs_o (.tail _ (.tail _ (.tail _ (.head _))))
  have pf_4 : BdP x0 h_2 := rf_b P2
  have pf_5 : SqOk x0 h_2 := P2.1
  refine s_cIfq (S := fS [(87, 999), (88, 999), (89, 999), (16, 23), (16, 24), (16, 29)] [(2528, [(62, 999), (63, 999), (64, 999), (65, 999), (13, 1), (13, 2), (13, 3), (13, 7)]), (2530, [(66, 999), (67, 999), (68, 999), (69, 999), (70, 999), (71, 999), (72, 999), (14, 0)])]) T_2 (fs_sub (pmA_s hA rfl) (fs_c (pmO_s hi_2528 rfl) (fs_c (pmO_s hi_2530 rfl) fs_n))) (zX15_moves hF fs_a (fs_o (.head _)) (fs_o (.tail _ (.head _))) (th_in _ T_2) r_x0 i_x1 pf_4 pf_5) (fun o_3 T_6 i_o_3 f_o_3 p_o_3 => ?_)
  have pq_o_3_0 : o_3.1.toInt = -102 ∨ (0 ≤ (x1).toInt ∧ (x1).toInt ≤ 59) := p_o_3.1
  refine s_br (fun c_7 => ?_) (fun c_7 => ?_)
  · have _ := c_7
    have i_f_8 : Rg (-102) (-102) (o_3.1) := rg_eq c_7 (rg_b rfl : Rg (-102) (-102) ((- 102 : Int32)))
    exact s_some ⟨(T_6), (rg_m (rg_b rfl : Rg (-102) (-102) ((- 102 : Int32))) (by decide))⟩
  · have _ := c_7
    have i_f_9 : Rg (-101) (3000) (o_3.1) := rg_nlo c_7 i_o_3 (rg_b rfl : Rg (-102) (-102) ((- 102 : Int32)))
    refine s_q (fun v_5 e_10 => ?_)
    have i_v_5 : Rg (0) (256) (v_5) := by rw [e_10]; exact (thI T_6 r_x0 (k := 16) (i := 3) rfl : Rg (0) (256) (hI o_3.2 x0 3))
    obtain ⟨r_6, e_r_6, q_r_6⟩ := thR T_6 r_x0 (k := 16) (i := 2) (k2 := 83) rfl (by decide)
    refine s_ref e_r_6 ?_
    obtain ⟨r_7, e_r_7, q_r_7⟩ := thR T_6 r_x0 (k := 16) (i := 43) (k2 := 98) rfl (by decide)
    refine s_ref e_r_7 ?_
    refine s_gd (rg_nneg ((rg_m (rg_b rfl : Rg (0) (0) ((0 : Int32))) (by decide)) : Rg (0) (2147483647) ((0 : Int32))) (by decide)) ?_
    refine s_gd (rg_nneg ((rg_m (rg_b rfl : Rg (0) (0) ((0 : Int32))) (by decide)) : Rg (0) (2147483647) ((0 : Int32))) (by decide)) ?_
    refine s_gd (rg_nneg ((rg_m i_v_5 (by decide)) : Rg (0) (2147483647) (v_5)) (by decide)) ?_
    refine s_gd (g_len (rg_b rfl : Rg (0) (0) ((0 : Int32))) i_v_5 (thN T_6 q_r_6 (k := 83) (n := 256) rfl (by decide)) (by decide)) ?_
    refine s_gd (g_len (rg_b rfl : Rg (0) (0) ((0 : Int32))) i_v_5 (thN T_6 q_r_7 (k := 98) (n := 256) rfl (by decide)) (by decide)) ?_
    refine s_gd (fun i _ => fits_b (rg_m (thI T_6 q_r_6 (k := 83) (lo := (-128)) (hi := (127)) rfl) (by decide))) ?_
    refine s_hq (th_cpI T_6 q_r_6 q_r_7 (k0 := 83) (k := 98) (lo0 := (-128)) (hi0 := (127)) (lo := (-128)) (hi := (127)) (fun _ => rfl) (fun _ => rfl) (by decide) (by decide) (by decide) (fun _ => (pm_a hA rfl))) (fun h_14 T_11 w_12 => ?_)
    have pf_13 : BdP x0 h_14 := (bp_fr T_6 r_x0 (fr1C (A := [(98, 999)]) q_r_7 rfl w_12) (fun _ => rfl) (fun _ => rfl) (fun _ _ => rfl) (fun _ _ => rfl) rfl rfl rfl (fun _ => rfl) (fun _ => rfl) (bp_fr T_2 r_x0 f_o_3 (fun _ => rfl) (fun _ => rfl) (fun _ _ => rfl) (fun _ _ => rfl) rfl rfl rfl (fun _ => rfl) (fun _ => rfl) pf_4))
    have pf_14 : SqOk x0 h_14 := (sq_fr T_6 r_x0 (fr1C (A := [(98, 999)]) q_r_7 rfl w_12) (fun _ => rfl) (fun _ => rfl) (fun _ => rfl) (sq_fr T_2 r_x0 f_o_3 (fun _ => rfl) (fun _ => rfl) (fun _ => rfl) pf_5))
    have pf_15 : MvP x0 x1 h_14 := (mp_fr T_6 r_x0 (fr1C (A := [(98, 999)]) q_r_7 rfl w_12) (fun _ => rfl) (fun _ => rfl) (fun _ _ => rfl) rfl rfl rfl (fun _ => rfl) (fun _ => rfl) (fun _ => rfl) (fun _ => rfl) rfl rfl (fun _ => rfl) rfl rfl rfl rfl rfl rfl (fun _ => rfl) (fun _ => rfl) (fun _ => rfl) (fun _ => rfl) (fun _ => rfl) (p_o_3.2 (show ¬ o_3.1.toInt = -102 from (by have := (i_f_9 : Rg (-101) (3000) (o_3.1)).1; have := (i_f_9 : Rg (-101) (3000) (o_3.1)).2; have := (i_x1 : Rg (-2147483648) (2147483647) (x1)).1; have := (i_x1 : Rg (-2147483648) (2147483647) (x1)).2; have := ne_i c_7; have : ((- 102 : Int32)).toInt = -102 := rfl; omega))))
    have m_16 : Rg (0) (3000) ((0 : Int32)) := (rg_m (rg_b rfl : Rg (0) (0) ((0 : Int32))) (by decide))
    exact zX15_hear_48 hF (pmA_s hA rfl) (pmO_s hi_2528 rfl) (pmO_s hi_2531 rfl) (pmO_s hi_2535 rfl) F T_11 r_x0 i_x1 i_v_1 i_v_5 (rg_m (rg_b rfl : Rg (-1) (-1) ((- 1 : Int32))) (by decide)) (rg_m (rg_b rfl : Rg (0) (0) ((0 : Int32))) (by decide)) pf_13 pf_14 pf_15 (show 0 ≤ (x1).toInt ∧ (x1).toInt ≤ 59 from (by have := (i_x1 : Rg (-2147483648) (2147483647) (x1)).1; have := (i_x1 : Rg (-2147483648) (2147483647) (x1)).2; have := (i_f_9 : Rg (-101) (3000) (o_3.1)).1; have := (i_f_9 : Rg (-101) (3000) (o_3.1)).2; have := ne_i c_7; have : ((- 102 : Int32)).toInt = -102 := rfl; omega)) (by have := m_16.1; have := m_16.2; omega)
abbrev poA : List (Nat × Nat) := [(84, 999), (85, 999), (86, 999), (16, 16), (16, 17), (16, 18), (16, 19), (16, 20), (16, 23), (16, 24)]
theorem pos14_w {h2 : Hp} {v t0 : Int32} (hF : 700000 ≤ F) (hA : pmA c poA) (hi_2521 : pmO c 2521 [(62, 999), (63, 999), (64, 999), (65, 999), (13, 1), (13, 2), (13, 3), (13, 7)]) (hi_3400 : pmO c 3400 [(62, 999), (63, 999), (64, 999), (65, 999), (13, 1), (13, 2), (13, 3), (13, 7)]) (T2 : TH ρ c h2) (r0 : ρ x0 = 16) (iv : Rg 0 1200 v) (K2 : BdY zq Bq x0 h2 ∧ SqOk x0 h2 ∧ zq = 64) : Sat (sX15_position_14 F h2 x0 v t0) (MkI ρ c (-1400) 59 (BdY zq Bq x0)) := by
  have kp : ∀ {A : List (Nat × Nat)} {Bs : List (Nat × List (Nat × Nat))} {g g' : Hp}, TH ρ c g → TH ρ c g' → Fr ρ (cat c (fS A Bs) g) g g' → (∀ w i, i = 14 ∨ i = 15 ∨ i = 11 ∨ i = 12 ∨ i = 13 → fS A Bs 16 w i = false) → (∀ k w i, k = 84 ∨ k = 85 → fS A Bs k w i = false) → (∀ k i, k = 13 ∨ k = 62 ∨ k = 63 ∨ k = 64 → fS A Bs k 3400 i = false) → BdY zq Bq x0 g ∧ SqOk x0 g ∧ zq = 64 → BdY zq Bq x0 g' ∧ SqOk x0 g' ∧ zq = 64 := fun {A Bs g g'} Tg Tg' f s1 s2 s3 K => ⟨bdy_fr Tg r0 f (fun w => s1 w 14 (by omega)) (fun w => s1 w 15 (by omega)) (fun w i => s2 84 w i (by omega)) (fun w i => s2 85 w i (by omega)) (fun i _ => s3 13 i (by omega)) (fun i => s3 62 i (by omega)) (fun i => s3 63 i (by omega)) (fun i => s3 64 i (by omega)) K.1 Tg', sq_fr Tg r0 f (fun w => s1 w 11 (by omega)) (fun w => s1 w 12 (by omega)) (fun w => s1 w 13 (by omega)) K.2.1, K.2.2⟩
  unfold sX15_position_14
  refine s_br (fun _ => s_some ⟨ρ, c, ex_0, T2, rg_b rfl, K2.1⟩) (fun _ => ?_)
  obtain ⟨t, et, qt⟩ := thR T2 r0 (i := 0) (k2 := 82) rfl (by decide)
  refine s_ref et ?_
  obtain ⟨b, eb, qb⟩ := thR T2 r0 (i := 21) (k2 := 13) rfl (by decide)
  refine s_ref eb ?_
  have wb : cw c b = 2521 := th_id T2 r0 (w := 2521) eb rfl (by decide)
  refine s_cIfq (S := fS [(16, 17), (16, 18), (16, 19), (16, 20)] [(2521, [(62, 999), (63, 999), (64, 999), (65, 999), (13, 1), (13, 2), (13, 3), (13, 7)])]) T2 (fs_sub (pmA_s hA rfl) (fs_c hi_2521 fs_n)) (isPos_w hF fs_a (fs_o (.head _)) wb (th_in _ T2) r0 qt iv qb K2.2.1) (fun o4 T4 i4 f4 P4 => ?_)
  have K4 := kp T2 T4 f4 (fun w i hi => by rcases hi with z | z | z | z | z <;> subst z <;> rfl) (fun k w i hk => by rcases hk with z | z <;> subst z <;> rfl) (fun k i hk => by rcases hk with z | z | z | z <;> subst z <;> exact fs_cf (Or.inr (by decide)) (fs_nf rfl)) K2
  unfold sX15_position_34
  refine s_br (fun _ => ?_) (fun n4 => ?_)
  · refine s_some ⟨ρ, c, ex_0, T4, ?_, K4.1⟩
    exact rg_m (rg_sub (rg_b rfl : Rg (-200) (-200) (-200 : Int32)) (thI T4 r0 (i := 19) rfl : Rg 0 1200 (hI o4.2 x0 19)) (by decide) : Rg (-1400) (-200) ((-200 : Int32) - hI o4.2 x0 19)) (by decide)
  obtain ⟨H, eH, sH4, jO⟩ := P4.resolve_left n4
  have eb4 : hR o4.2 x0 21 = some b := by rw [(fr_RI f4 r0 (by decide) (fun _ => rfl)).2.2]; exact eb
  refine s_ref eb4 ?_
  refine s_cIfq (S := fS [(86, 999), (16, 23), (16, 24)] []) T4 (fs_sub (pmA_s hA rfl) fs_n) (s_weq2 (zX15_wrongOf hF fs_a wb (th_in _ T4) r0 qb)) (fun o5 T5 i5 f5 P5 => ?_)
  have K5 := kp T4 T5 f5 (fun w i hi => by rcases hi with z | z | z | z | z <;> subst z <;> rfl) (fun k w i hk => by rcases hk with z | z <;> subst z <;> rfl) (fun k i hk => by rcases hk with z | z | z | z <;> subst z <;> rfl) K4
  unfold sX15_position_54 sX15_position_73
  refine s_br (fun l5 => ?_) (fun n5 => ?_)
  · have eb5 : hR o5.2 x0 21 = some b := by rw [(fr_RI f5 r0 (by decide) (fun _ => rfl)).2.2]; exact eb4
    refine s_ref eb5 ?_
    obtain ⟨M, eM, rM⟩ := thR T4 qb (i := 0) (k2 := 62) rfl (by decide)
    obtain ⟨P, eP, rP⟩ := thR T4 qb (i := 4) (k2 := 63) rfl (by decide)
    have V := wrong_w T4 r0 qb K4.2.1 eM eP P5.2 l5
    unfold VR at V
    have c13 : (hI o4.2 x0 13).toNatClampNeg ≤ 64 := by
      have i13 := thI T4 r0 (k := 16) (i := 13) (lo := 9) (hi := 64) rfl
      have := nc_i (x := hI o4.2 x0 13) (by have := i13.1; omega)
      have := i13.2
      omega
    rw [← crt_hi 64 c13 jO, ← K4.2.2] at V
    have W4 : WrE zq b o4.2 := ⟨fun M' H' m1 m2 => by
      have y : H' = H := r_eq eH m2
      subst y
      have := mc_le (hI o4.2 M') 64
      unfold tot
      omega, V.1, V.2.1, fun n M' P' m1 m2 => by
      have y1 : M' = M := r_eq eM m1
      have y2 : P' = P := r_eq eP m2
      subst y1; subst y2
      exact V.2.2 n⟩
    have W5 : WrE zq b o5.2 := wr_fr T4 qb f5 (fun _ _ => rfl) (fun _ => rfl) (fun _ => rfl) (fun _ => rfl) W4
    have pe5 : PE b o5.2 := P5.1 (by have := le_i l5; have z0 : (0 : Int32).toInt = 0 := rfl; have := i5.1; omega)
    obtain ⟨o7, e7, ρ7, c7, X7, T7, j7, bd7⟩ := keep_y (F := F) hF (pmA_s hA rfl) hi_3400 wb T5 r0 qb K5.1 ⟨pe5, W5⟩
    exact s_val e7 (s_some ⟨ρ7, c7, X7, T7, rg_m j7 (by decide), bd7⟩)
  · refine s_some ⟨ρ, c, ex_0, T5, ?_, K5.1⟩
    exact rg_m (rg_sub (rg_b rfl : Rg 0 0 (0 : Int32)) i5 (by decide) : Rg (-8) 0 ((0 : Int32) - o5.1)) (by decide)
theorem rw_position (hF : 700000 ≤ F) (hp : hpR c) (T : TH ρ c h) (r0 : ρ x0 = 16) (P : RfI x0 h) (M : RmR x0 B h) : Sat (sX15_position F h x0) (RP ρ c x0 B (fun o => hI o x0 1 = 0)) := by
  unfold sX15_position
  refine s_q (fun v ev => ?_)
  have iv : Rg 0 1200 v := by rw [ev]; exact thI T r0 rfl
  refine s_hq (th_wI T r0 (k := 16) (lo := 0) (hi := 1200) rfl (rg_m (rg_b rfl : Rg 0 0 (0 : Int32)) (by decide)) (by decide) (by decide) (hp 16 _ 1 rfl)) (fun h2 T2 w2 => ?_)
  obtain ⟨P2, M2, z2⟩ := tp_w hp T r0 P M T2 w2
  refine s_dI0 (zX15_freePlace hF T2 r0) (fun o3 e3 e3' i3 => ?_)
  rw [e3']
  have ob : ∀ w, w ≠ 3400 → w ≠ 2521 → ∀ k i, (k = 13 ∨ k = 62 ∨ k = 63 ∨ k = 64) → fS poA [(2521, bpL), (3400, bpL)] k w i = false := fun w h1 h2 k i hk => fs_cf (Or.inr h2) (fs_cf (Or.inr h1) (by rcases hk with z | z | z | z <;> subst z <;> rfl))
  exact rp_b (S := fS poA [(2521, bpL), (3400, bpL)]) (R := fun _ => True) (fs_r hp rfl) (fun _ => rfl) (fun _ => rfl) (fun _ => rfl) (fun _ => rfl) ⟨fun _ => rfl, fun _ _ => rfl, fun j _ => ⟨fun i _ => ob _ (by omega) (by omega) _ _ (by omega), fun i => ob _ (by omega) (by omega) _ _ (by omega), fun i => ob _ (by omega) (by omega) _ _ (by omega), fun i => ob _ (by omega) (by omega) _ _ (by omega)⟩⟩ ⟨fun _ => rfl, fun _ => rfl, fun _ _ => rfl, fun _ _ => rfl⟩ ⟨fun _ => rfl, fun _ => rfl⟩ ⟨⟨fun _ => rfl, fun _ _ => rfl, fun j => ⟨fun i _ => ob _ (by omega) (by omega) _ _ (by omega), fun i => ob _ (by omega) (by omega) _ _ (by omega), fun i => ob _ (by omega) (by omega) _ _ (by omega), fun i => ob _ (by omega) (by omega) _ _ (by omega)⟩⟩, ⟨fun _ => rfl, fun _ _ => rfl⟩, ⟨fun _ => rfl, fun _ _ => rfl⟩, fun _ => rfl⟩ ⟨fun _ => rfl, fun _ => rfl, fun _ => rfl, fun _ => rfl, fun _ => rfl, fun _ => rfl, fun _ => rfl, fun _ => rfl, fun _ => rfl, fun _ _ => rfl, fun _ _ => rfl, fun _ _ => rfl, fun _ _ => rfl, fun _ _ => rfl⟩ T2 r0 P2 M2 (fun Bq G => mk_t (pos14_w hF fs_a (fs_o (.head _)) (fs_o (.tail _ (.head _))) (th_in _ T2) r0 iv ⟨G, P2.1, rfl⟩)) (fun o f _ => by rw [(fr_RI f r0 (by decide) (fun _ => rfl)).1]; exact z2)
end
end
section
/-! solve of the reference: masks are paid for ahead, the tape is empty behind it -/
abbrev soB : List (Nat × Nat) := [(16, 49), (16, 50), (16, 59), (99, 999), (100, 999), (101, 999), (102, 999), (103, 999), (104, 999), (105, 999), (106, 999), (107, 999), (108, 999), (109, 999), (110, 999), (86, 999), (87, 999), (88, 999), (89, 999), (16, 23), (16, 24), (16, 29), (16, 62), (16, 63)]
abbrev soC : List (Nat × Nat) := (16, 52) :: soB
abbrev soL : List (Nat × List (Nat × Nat)) := [(2560, bS7), (2528, bL8), (2530, lL8)]
section
variable {ρ : Nat → Nat} {c : Cm} {x0 rm re rb rk rs ro rp rt rw mb R Bc Bm F : Nat} {h : Hp} {a : Int} {y : Int32}
/-- with its masks at 0 a solution may begin -/
theorem so_masksB {km : Nat} (hF : 2000000 ≤ F) (hA : pmA c soB) (hS : pmO c 2560 bS7) (hB : pmO c 2528 bL8) (hL : pmO c 2530 lL8) (T : TH ρ c h) (SR : SlR ρ x0 rm re rb rk rs ro h) (re' : hR h x0 58 = some rp ∧ hR h x0 61 = some rt ∧ hR h x0 51 = some rw ∧ hR h x0 53 = some mb ∧ hR h x0 52 = some km ∧ hR h x0 4 = some R ∧ hR h R 13 = some Bc ∧ hR h R 14 = some Bm) (rl : ρ rp = 109 ∧ ρ rt = 110 ∧ ρ rw = 102 ∧ ρ mb = 104 ∧ ρ km = 103 ∧ ρ R = 15 ∧ ρ Bc = 80 ∧ ρ Bm = 81) (P : SE x0 h) (A : AllS x0 rm re rs rk R Bc Bm h) (D : MBd x0 (hI h x0 49).toInt y.toInt h) (iy : Rg 0 1500000 y) (sq : SqOk x0 h) (hz : hI h R 15 = 0) (l1 : 1 ≤ (hI h x0 49).toInt) : Sat (sX15_solve_304 F h x0 y) (fun o => TH ρ c o.2 ∧ EnR x0 o.2) := by
  unfold sX15_solve_304
  have z0 : (0 : Int32).toInt = 0 := rfl
  have hs : ∀ k w i, fS [(103, 999), (105, 999)] [] k w i = true → cPm c k w i = true := fs_sub (pmA_s hA rfl) fs_n
  refine so_307 (c := cat c (fS [(103, 999), (105, 999)] []) h) (h0 := h) (rk := km) (by omega) fs_a SR.1.1 rl.2.2.2.2.1 re'.2.2.2.2.1 iy (fun o To E Z => ?_) F (th_in _ T) ⟨fun _ _ => rfl, fun _ _ => rfl⟩ (by decide) (by rw [z0]; exact iy.1) (fun i hi => absurd hi (by rw [z0]; omega)) (by rw [z0]; omega)
  have T1 := th_out T hs To
  have K : Kf ρ [(103, 999), (105, 999)] h o := kf_of (fr_u T To.2.2) rfl
  obtain ⟨⟨r0, qm, qe, qb, qk, qs, qo⟩, ⟨e46, e47, e48, e55, e56, e57⟩⟩ := SR
  obtain ⟨e58, e61, e51, e53, e52, e4, e13, e14⟩ := re'
  obtain ⟨qp, qt, qw, qmb, qkm, qR, qBc, qBm⟩ := rl
  have D1 : MBd x0 (hI o x0 49).toInt y.toInt o := by
    intro rm' rb' em' eb' k hk
    rw [kfR 46 K r0] at em'
    rw [kfR 53 K r0] at eb'
    rw [kfI 49 K r0] at hk
    have hz1 := r_eq e46 em'
    subst hz1
    have hz1 := r_eq e53 eb'
    subst hz1
    rw [kfI 13 K r0, kfI 49 K r0]
    simp only [kfI _ K qm, kfI _ K qmb]
    exact D rm' rb' em' eb' k hk
  have e46' : hR o x0 46 = some rm := by rw [kfR 46 K r0]; exact e46
  have e53' : hR o x0 53 = some mb := by rw [kfR 53 K r0]; exact e53
  have G1 : MkG x0 rm mb re km R o := by
    intro set q j t l1 p1 w1 h1 t64 bt
    exfalso
    obtain ⟨b1, b2, _⟩ := mkx_b (rb := mb) (re := re) (thI T1 qm (k := 99) (i := set) (lo := 0) (hi := 5) rfl) p1 w1 h1
    have d1 := (D1 rm mb e46' e53' set l1).1
    have ib := (thI T1 qmb (k := 104) (i := set) (lo := 0) (hi := 1500000) rfl).1
    rw [Z _ (by omega)] at bt
    have : bitJ (0 : Int64) t = false := BitVec.getLsbD_zero
    rw [this] at bt
    exact absurd bt (by decide)
  have W1 : WkP ρ x0 rm re rb rk rs ro rp rt rw mb km R Bc Bm y.toInt o := ⟨⟨⟨r0, qm, qe, qb, qk, qs, qo⟩, ⟨e46', by rw [kfR 47 K r0]; exact e47, by rw [kfR 48 K r0]; exact e48, by rw [kfR 55 K r0]; exact e55, by rw [kfR 56 K r0]; exact e56, by rw [kfR 57 K r0]; exact e57⟩⟩, ⟨by rw [kfR 58 K r0]; exact e58, by rw [kfR 61 K r0]; exact e61, by rw [kfR 51 K r0]; exact e51, e53', by rw [kfR 52 K r0]; exact e52, by rw [kfR 4 K r0]; exact e4, by rw [kfR 13 K qR]; exact e13, by rw [kfR 14 K qR]; exact e14⟩, ⟨qp, qt, qw, qmb, qkm, qR, qBc, qBm⟩, se_k K r0 qm qe qb qk qs e46 e47 e48 e55 e56 P, alls_of (kfI 49 K r0) (fun i => kfI i K qm) (fun i => kfI i K qe) (fun i => kfI i K qs) (fun i => kfI i K qk) (kfI 10 K qR) (fun i => kfI i K qBc) (fun i => kfI i K qBm) A, D1, iy.2, G1⟩
  exact so_357 hF (pmA_s hA rfl) hS hB hL F T1 W1 (by unfold SqOk; rw [kfI 13 K r0, kfI 11 K r0, kfI 12 K r0]; exact sq) (by rw [kfI 15 K qR]; exact hz) (by rw [kfI 49 K r0]; exact l1) (by decide) (by rw [z0]; omega)
end
/-- masks: made once -/
def PM (x0 : Nat) (h o : Hp) : Prop := (o.1 = h.1 ∧ hR o x0 52 = hR h x0 52) ∨ (hR h x0 52 = none ∧ o.1 = (h.1.1 + 1, h.1.2 + 1500000) ∧ ∃ k, hR o x0 52 = some k)
section
variable {ρ : Nat → Nat} {c : Cm} {x0 F : Nat} {h h2 : Hp} {B : Nat × Nat} {v1 : Int32}
theorem solve_r (hF : 2000000 ≤ F) (hA : pmA c soC) (hS : pmO c 2560 bS7) (hB : pmO c 2528 bL8) (hL : pmO c 2530 lL8) (T : TH ρ c h2) (r0 : ρ x0 = 16) (sq : SqOk x0 h2) (N : EnR x0 h2) (iv1 : Rg 0 1200 v1) : Sat (cl (hR h2 x0 4) fun r_3 => br ((hI h2 r_3 15) = 0) (cl (hR h2 x0 4) fun r_5 => br ((hI h2 r_5 18) = 0) (cl (hR h2 x0 4) fun r_7 => br (0 < (hI h2 r_7 20)) (sX15_solve_47 F h2 ) (cl (sX15_hasCatches F h2 x0) fun o_9 => sX15_solve_44 F o_9.2 x0 v1 o_9.1)) (sX15_solve_47 F h2 )) (sX15_solve_47 F h2 )) (MkI ρ c (-2147483648) 2147483647 (fun o => EnR x0 o ∧ PM x0 h2 o)) := by
  unfold sX15_solve_47 sX15_solve_44
  obtain ⟨rm, e46, qm⟩ := thR T r0 (i := 46) (k2 := 99) rfl (by decide)
  obtain ⟨re, e47, qe⟩ := thR T r0 (i := 47) (k2 := 100) rfl (by decide)
  obtain ⟨rb, e48, qb⟩ := thR T r0 (i := 48) (k2 := 101) rfl (by decide)
  obtain ⟨rk, e55, qk⟩ := thR T r0 (i := 55) (k2 := 106) rfl (by decide)
  obtain ⟨rs, e56, qs⟩ := thR T r0 (i := 56) (k2 := 107) rfl (by decide)
  obtain ⟨ro, e57, qo⟩ := thR T r0 (i := 57) (k2 := 108) rfl (by decide)
  obtain ⟨rp, e58, qp⟩ := thR T r0 (i := 58) (k2 := 109) rfl (by decide)
  obtain ⟨rt, e61, qt⟩ := thR T r0 (i := 61) (k2 := 110) rfl (by decide)
  obtain ⟨rw', e51, qw⟩ := thR T r0 (i := 51) (k2 := 102) rfl (by decide)
  obtain ⟨mb, e53, qmb⟩ := thR T r0 (i := 53) (k2 := 104) rfl (by decide)
  obtain ⟨R, e4, qR⟩ := thR T r0 (i := 4) (k2 := 15) rfl (by decide)
  obtain ⟨Bc, e13, qBc⟩ := thR T qR (i := 13) (k2 := 80) rfl (by decide)
  obtain ⟨Bm, e14, qBm⟩ := thR T qR (i := 14) (k2 := 81) rfl (by decide)
  have z0 : (0 : Int32).toInt = 0 := rfl
  -- where nothing has been solved anew
  have keep : ∀ {o : Hp}, TH ρ c o → Kf ρ [(108, 999)] h2 o → ∀ v, MkI ρ c (-2147483648) 2147483647 (fun o => EnR x0 o ∧ PM x0 h2 o) (v, o) := fun {o} To Ko v => ⟨ρ, c, ex_0, To, rg_top _, fun nz => by
    show SE x0 o ∧ _
    have nz' : ¬ hI h2 x0 50 = 0 := by rw [← kfI 50 Ko r0]; exact nz
    obtain ⟨P, l⟩ := N nz'
    exact ⟨se_k Ko r0 qm qe qb qk qs e46 e47 e48 e55 e56 P, by rw [kfI 49 Ko r0]; exact l⟩, Or.inl ⟨To.1.1.trans T.1.1.symm, kfR 52 Ko r0⟩⟩
  have e4' : hR h2 x0 4 = some R := e4
  refine s_ref e4' ?_
  refine s_br (fun hz => ?_) (fun _ => s_some (keep T kf_r _))
  refine s_ref e4' ?_
  refine s_br (fun _ => ?_) (fun _ => s_some (keep T kf_r _))
  refine s_ref e4' ?_
  refine s_br (fun _ => s_some (keep T kf_r _)) (fun _ => ?_)
  refine s_cl (s_imp (zX15_hasCatches (by omega) T r0) (fun o9 ⟨e9, i9⟩ => ?_))
  rw [e9]
  refine s_br (fun _ => ?_) (fun _ => s_some (keep T kf_r _))
  -- the letters
  have hs1 : ∀ k w i, fS [(108, 999)] [] k w i = true → cPm c k w i = true := fs_sub (pmA_s hA rfl) fs_n
  refine so_54 (c := cat c (fS [(108, 999)] []) h2) (by omega) fs_a r0 iv1 (fun o v To => keep (th_out T hs1 To) (kf_of (fr_u T To.2.2) rfl) v) (fun o To W i15 => ?_) F (th_in _ T) (rg_m (rg_b rfl : Rg 0 0 (0 : Int32)) (by decide)) (by rw [z0]; exact iv1.1) (fun _ _ i hi => absurd hi (by rw [z0]; omega)) (by rw [z0]; omega)
  have T3 := th_out T hs1 To
  have K3 : Kf ρ [(108, 999)] h2 o := kf_of (fr_u T To.2.2) rfl
  refine s_hq (th_wI T3 r0 (k := 16) (i := 49) (lo := 0) (hi := 4096) rfl (rg_m (rg_b rfl : Rg 0 0 (0 : Int32)) (by decide)) (by decide) (by decide) (pm_a hA rfl)) (fun h4 T4 w4 => ?_)
  refine s_hq (th_wJ T4 (k := 16) (i := 59) r0 (by decide) (pm_a hA rfl)) (fun h5 T5 w5 => ?_)
  refine s_hq (th_wI T5 r0 (k := 16) (i := 50) (lo := 0) (hi := 4096) rfl (rg_m (rg_b rfl : Rg 0 0 (0 : Int32)) (by decide)) (by decide) (by decide) (pm_a hA rfl)) (fun h6 T6 w6 => ?_)
  have K6 : Kf ρ [(108, 999), (16, 49), (16, 50), (16, 59)] h2 h6 := kf_t (kf_m K3 rfl) (kf_t (kf_wI w4 r0) (kf_t (kf_wJ w5 r0) (kf_wI w6 r0)))
  have x49 : hI h6 x0 49 = 0 := by
    rw [w6, r_I, if_neg (fun w => absurd w.2 (by decide)), w5]
    show hI h4 x0 49 = 0
    rw [w4, r_I, if_pos ⟨rfl, rfl⟩]
  have x59 : hJ h6 x0 59 = 0 := by
    rw [w6]
    show hJ h5 x0 59 = 0
    rw [w5, r_J, if_pos ⟨rfl, rfl⟩]
  have x50 : hI h6 x0 50 = 0 := by rw [w6, r_I, if_pos ⟨rfl, rfl⟩]
  have SR6 : SlR ρ x0 rm re rb rk rs ro h6 := ⟨⟨r0, qm, qe, qb, qk, qs, qo⟩, ⟨by rw [kfR 46 K6 r0]; exact e46, by rw [kfR 47 K6 r0]; exact e47, by rw [kfR 48 K6 r0]; exact e48, by rw [kfR 55 K6 r0]; exact e55, by rw [kfR 56 K6 r0]; exact e56, by rw [kfR 57 K6 r0]; exact e57⟩⟩
  have W6 : RW x0 v1.toInt h6 := fun ro' er i hi => by
    rw [kfR 57 K6 r0] at er
    have hz1 := r_eq e57 er
    subst hz1
    rw [w6, r_I, if_neg (ne_r qo r0 (by decide)), w5]
    show 1 ≤ (hI h4 ro' i).toInt
    rw [w4, r_I, if_neg (ne_r qo r0 (by decide))]
    exact W ro' (by rw [kfR 57 K3 r0]; exact e57) i hi
  have hs3 : ∀ k w i, fS seL [] k w i = true → cPm c k w i = true := fs_sub (pmA_s hA rfl) fs_n
  refine so2_203 (c := cat c (fS seL []) h6) (h0 := h6) (Bc := Bc) (Bm := Bm) (R := R) (by omega) fs_a SR6 (by rw [kfR 4 K6 r0]; exact e4) (by rw [kfR 13 K6 qR]; exact e13) (by rw [kfR 14 K6 qR]; exact e14) qR i15 (fun o v To z => ⟨ρ, c, ex_0, th_out T6 hs3 To, rg_top _, fun nz => absurd z nz, Or.inl ⟨(th_out T6 hs3 To).1.1.trans T.1.1.symm, by rw [(fr_RI (fr_u T6 To.2.2) r0 (by decide) (fun _ => rfl)).2.2, kfR 52 K6 r0]⟩⟩) (fun o7 T7q K67 P7 A7 l7 z7 => ?_) F (th_in _ T6) kf_r (by rw [x49]; rfl) (by rw [x59]; rfl) x50 W6 (by decide) (fun j hj => absurd hj (by rw [z0]; omega)) (by rw [z0]; omega)
  have T7 := th_out T6 hs3 T7q
  -- the masks
  have hs2 : ∀ k w i, fS [(104, 999)] [] k w i = true → cPm c k w i = true := fs_sub (pmA_s hA rfl) fs_n
  refine so_246 (c := cat c (fS [(104, 999)] []) o7) (n0 := (hI o7 x0 49).toInt) (by omega) fs_a r0 (fun o8 y To8 P8 n8 _ D8 iy => ?_) F (th_in _ T7) P7 rfl (by decide) (by rw [z0]; omega) (by decide) (fun rb' erb => ?_) (fun _ _ _ _ k hk => absurd hk (by rw [z0]; omega)) (fun _ _ _ _ k hk => absurd hk (by rw [z0]; omega)) (by rw [z0]; omega)
  · have T8 := th_out T7 hs2 To8
    have K78 : Kf ρ [(104, 999)] o7 o8 := kf_of (fr_u T7 To8.2.2) rfl
    have K8 : Kf ρ soB h2 o8 := kf_t (kf_m K6 rfl) (kf_t (kf_m K67 rfl) (kf_m K78 rfl))
    have A8 : AllS x0 rm re rs rk R Bc Bm o8 := alls_of (kfI 49 K78 r0) (fun i => kfI i K78 qm) (fun i => kfI i K78 qe) (fun i => kfI i K78 qs) (fun i => kfI i K78 qk) (kfI 10 K78 qR) (fun i => kfI i K78 qBc) (fun i => kfI i K78 qBm) A7
    have SR8 : SlR ρ x0 rm re rb rk rs ro o8 := ⟨⟨r0, qm, qe, qb, qk, qs, qo⟩, ⟨by rw [kfR 46 K8 r0]; exact e46, by rw [kfR 47 K8 r0]; exact e47, by rw [kfR 48 K8 r0]; exact e48, by rw [kfR 55 K8 r0]; exact e55, by rw [kfR 56 K8 r0]; exact e56, by rw [kfR 57 K8 r0]; exact e57⟩⟩
    have sq8 : SqOk x0 o8 := by unfold SqOk; rw [kfI 13 K8 r0, kfI 11 K8 r0, kfI 12 K8 r0]; exact sq
    have hz8 : hI o8 R 15 = 0 := by rw [kfI 15 K8 qR]; exact hz
    have D8' : MBd x0 (hI o8 x0 49).toInt y.toInt o8 := by rw [n8]; exact D8
    have l8 : 1 ≤ (hI o8 x0 49).toInt := by rw [n8]; exact l7
    refine s_onr (fun none' => ?_) (fun km ekm => ?_)
    · refine s_q (fun a4 ea => ?_)
      refine s_q (fun h9 eh => ?_)
      obtain ⟨ρ', c', X, T9, qa, O9⟩ := newMasks T8 ea eh
      unfold sX15_solve_301
      have r0' := ex_r X r0 (by decide)
      have hA' := ex_A X hA
      have T10 : TH ρ' c' (wR h9 x0 52 (some a4)) := th_un (th_wR T9 r0' (k := 16) (i := 52) (j := 8) (k2 := 103) rfl (by decide) rfl (by decide) qa rfl nid_8 (by decide) (by decide) rfl rfl (fun w => absurd rfl w) (pm_a hA' rfl))
      refine s_hq T10 (fun h10 T10 w10 => ?_)
      -- all that was there is as it was
      have K10 : Kf ρ [(16, 52)] o8 h10 := fun b i n x => by
        have lt : b < o8.1.1 := by rw [T8.1.1]; exact T8.2.1.2.2.1 b n
        obtain ⟨q1, q2, q3, _⟩ := O9 b lt
        rw [w10]
        refine ⟨q1 i, q2 i, ?_⟩
        rw [r_R, if_neg]
        · exact q3 i
        · rintro ⟨q5, q6⟩
          subst q5; subst q6
          rw [r0] at x
          exact absurd x (by show ¬ true = false; decide)
      have km10 : hR h10 x0 52 = some a4 := by rw [w10, r_R, if_pos ⟨rfl, rfl⟩]
      refine s_imp (so_masksB (ρ := ρ') (c := cat c' (fS soB soL) h10) (km := a4) (R := R) (Bc := Bc) (Bm := Bm) (rp := rp) (rt := rt) (rw := rw') (mb := mb) (y := y) hF fs_a (fs_o (.head _)) (fs_o (.tail _ (.head _))) (fs_o (.tail _ (.tail _ (.head _)))) (th_in (fS soB soL) T10) ⟨⟨r0', ex_r X qm (by decide), ex_r X qe (by decide), ex_r X qb (by decide), ex_r X qk (by decide), ex_r X qs (by decide), ex_r X qo (by decide)⟩, ⟨by rw [kfR 46 K10 r0]; exact SR8.2.1, by rw [kfR 47 K10 r0]; exact SR8.2.2.1, by rw [kfR 48 K10 r0]; exact SR8.2.2.2.1, by rw [kfR 55 K10 r0]; exact SR8.2.2.2.2.1, by rw [kfR 56 K10 r0]; exact SR8.2.2.2.2.2.1, by rw [kfR 57 K10 r0]; exact SR8.2.2.2.2.2.2⟩⟩ ⟨by rw [kfR 58 K10 r0, kfR 58 K8 r0]; exact e58, by rw [kfR 61 K10 r0, kfR 61 K8 r0]; exact e61, by rw [kfR 51 K10 r0, kfR 51 K8 r0]; exact e51, by rw [kfR 53 K10 r0, kfR 53 K8 r0]; exact e53, km10, by rw [kfR 4 K10 r0, kfR 4 K8 r0]; exact e4, by rw [kfR 13 K10 qR, kfR 13 K8 qR]; exact e13, by rw [kfR 14 K10 qR, kfR 14 K8 qR]; exact e14⟩ ⟨ex_r X qp (by decide), ex_r X qt (by decide), ex_r X qw (by decide), ex_r X qmb (by decide), qa, ex_r X qR (by decide), ex_r X qBc (by decide), ex_r X qBm (by decide)⟩ (se_k K10 r0 qm qe qb qk qs SR8.2.1 SR8.2.2.1 SR8.2.2.2.1 SR8.2.2.2.2.1 SR8.2.2.2.2.2.1 P8) (alls_of (kfI 49 K10 r0) (fun i => kfI i K10 qm) (fun i => kfI i K10 qe) (fun i => kfI i K10 qs) (fun i => kfI i K10 qk) (kfI 10 K10 qR) (fun i => kfI i K10 qBc) (fun i => kfI i K10 qBm) A8) ?_ iy (by unfold SqOk; rw [kfI 13 K10 r0, kfI 11 K10 r0, kfI 12 K10 r0]; exact sq8) (by rw [kfI 15 K10 qR]; exact hz8) (by rw [kfI 49 K10 r0]; exact l8)) (fun o w => ⟨ρ', c', X, th_out T10 (fs_sub (pmA_s hA' rfl) (fs_c (ex_O X hS) (fs_c (ex_O X hB) (fs_c (ex_O X hL) fs_n)))) w.1, rg_top _, w.2, Or.inr ⟨by rw [← kfR 52 K8 r0]; exact none', by rw [(th_out T10 (fs_sub (pmA_s hA' rfl) (fs_c (ex_O X hS) (fs_c (ex_O X hB) (fs_c (ex_O X hL) fs_n)))) w.1).1.1, ← T10.1.1, w10]; show h9.1 = _; rw [eh, nC_1, T8.1.1, ← T.1.1]; rfl, a4, by rw [(fr_RI (fr_u T10 w.1.2.2) r0' (by decide) (fun _ => rfl)).2.2]; exact km10⟩⟩)
      intro rm' rb' em' eb' k hk
      rw [kfR 46 K10 r0] at em'
      rw [kfR 53 K10 r0] at eb'
      rw [kfI 49 K10 r0] at hk
      have hz1 := r_eq SR8.2.1 em'
      subst hz1
      have hz1 := r_eq (show hR o8 x0 53 = some mb by rw [kfR 53 K8 r0]; exact e53) eb'
      subst hz1
      rw [kfI 13 K10 r0, kfI 49 K10 r0]
      simp only [kfI _ K10 qm, kfI _ K10 qmb]
      exact D8' rm' rb' em' eb' k hk
    · have qkm : ρ km = 103 := thRn T8 r0 (i := 52) (k2 := 103) rfl (by decide) ekm
      exact s_imp (so_masksB (c := cat c (fS soB soL) o8) (km := km) (R := R) (Bc := Bc) (Bm := Bm) (rp := rp) (rt := rt) (rw := rw') (mb := mb) (y := y) hF fs_a (fs_o (.head _)) (fs_o (.tail _ (.head _))) (fs_o (.tail _ (.tail _ (.head _)))) (th_in (fS soB soL) T8) SR8 ⟨by rw [kfR 58 K8 r0]; exact e58, by rw [kfR 61 K8 r0]; exact e61, by rw [kfR 51 K8 r0]; exact e51, by rw [kfR 53 K8 r0]; exact e53, ekm, by rw [kfR 4 K8 r0]; exact e4, by rw [kfR 13 K8 qR]; exact e13, by rw [kfR 14 K8 qR]; exact e14⟩ ⟨qp, qt, qw, qmb, qkm, qR, qBc, qBm⟩ P8 A8 D8' iy sq8 hz8 l8) (fun o w => ⟨ρ, c, ex_0, th_out T8 (fs_sub (pmA_s hA rfl) (fs_c hS (fs_c hB (fs_c hL fs_n)))) w.1, rg_top _, w.2, Or.inl ⟨(th_out T8 (fs_sub (pmA_s hA rfl) (fs_c hS (fs_c hB (fs_c hL fs_n)))) w.1).1.1.trans T.1.1.symm, by rw [(fr_RI (fr_u T8 w.1.2.2) r0 (by decide) (fun _ => rfl)).2.2, kfR 52 K8 r0]⟩⟩)
  · show 2 * (0 : Int) ≤ _
    have qb' : ρ rb' = 101 := rr T7 (thR T7 r0 (i := 48) (k2 := 101) rfl (by decide)) erb
    have q1 := (thI T7 qb' (k := 101) (i := (0 : Int32).toNatClampNeg) (lo := 0) (hi := 600000) rfl).1
    have q2 := P7.2.1.1
    split <;> omega

end
end
section
/-! solve, as a call of the reference -/
section
variable {ρ : Nat → Nat} {c : Cm} {x0 F : Nat} {h h2 : Hp} {B : Nat × Nat}
theorem rw_solve (hF : 2000000 ≤ F) (hp : hpR c) (T : TH ρ c h) (r0 : ρ x0 = 16) (P : RfI x0 h) (M : RmR x0 B h) : Sat (sX15_solve F h x0) (RP ρ c x0 B (fun o => hI o x0 1 = 0)) := by
  unfold sX15_solve
  refine s_q (fun v ev => ?_)
  have iv : Rg 0 1200 v := by rw [ev]; exact thI T r0 rfl
  refine s_hq (th_wI T r0 (k := 16) (lo := 0) (hi := 1200) rfl (rg_m (rg_b rfl : Rg 0 0 (0 : Int32)) (by decide)) (by decide) (by decide) (hp 16 _ 1 rfl)) (fun h2 T2 w2 => ?_)
  obtain ⟨P2, M2, z2⟩ := tp_w hp T r0 P M T2 w2
  have ob : ∀ w, w ≠ 2560 → w ≠ 2528 → w ≠ 2530 → ∀ k i, (k = 13 ∨ k = 62 ∨ k = 63 ∨ k = 64) → fS soC soL k w i = false := fun w n1 n2 n3 k i hk => fs_cf (Or.inr n1) (fs_cf (Or.inr n2) (fs_cf (Or.inr n3) (by rcases hk with z | z | z | z <;> subst z <;> rfl)))
  have bo : ∀ w, w ≠ 2560 → w ≠ 2528 → w ≠ 2530 → bdO (fS soC soL) w := fun w n1 n2 n3 => ⟨fun i _ => ob w n1 n2 n3 _ _ (by omega), fun i => ob w n1 n2 n3 _ _ (by omega), fun i => ob w n1 n2 n3 _ _ (by omega), fun i => ob w n1 n2 n3 _ _ (by omega)⟩
  obtain ⟨na, ha⟩ := da_i T2 r0
  obtain ⟨nd, hd⟩ := dd_i T2 r0
  obtain ⟨ng, hg⟩ := dg_i T2 r0
  obtain ⟨nf, hf⟩ := df_i T2 r0
  have N := rm_i M2 ha hd hg hf
  refine rp_m (S := fS soC soL) (fs_r hp rfl) T2 (solve_r hF fs_a (fs_o (.head _)) (fs_o (.tail _ (.head _))) (fs_o (.tail _ (.tail _ (.head _)))) (th_in _ T2) r0 P2.1 P2.2.2.2.2.2.2.1 iv) (fun o ρ1 c1 X T1 f K => ?_)
  refine ⟨rfi_p T2 r0 f P2 (fun _ => rfl) (fun _ => rfl) (fun _ => rfl) (Or.inl ⟨fun _ => rfl, fun _ => rfl, fun _ _ => rfl, fun _ _ => rfl, bo 3400 (by decide) (by decide) (by decide)⟩) (Or.inl ⟨fun _ => rfl, fun _ _ => rfl, fun j _ => bo _ (by omega) (by omega) (by omega)⟩) (Or.inl ⟨fun _ => rfl, fun _ => rfl, fun _ _ => rfl, fun _ _ => rfl⟩) (Or.inl ⟨fun _ => rfl, fun _ => rfl⟩) (Or.inl ⟨⟨fun _ => rfl, fun _ _ => rfl, fun j => ?_⟩, ⟨fun _ => rfl, fun _ _ => rfl⟩, ⟨fun _ => rfl, fun _ _ => rfl⟩, fun _ => rfl⟩) (Or.inr K.1) (nog_f T2 r0 f (fun _ => rfl) (fun _ _ _ => rfl) P2.2.2.2.2.2.2.2), ?_, by rw [(fr_RI f r0 (by decide) (fun _ => rfl)).1]; exact z2⟩
  · obtain ⟨a1, a2, a3, a4⟩ := bo (11000 + j) (by omega) (by omega) (by omega)
    exact ⟨fun i hi => a1 i (by omega), a2, a3, a4⟩
  · refine rm_o (da_f T2 r0 f (fun _ => rfl) (fun _ _ => rfl) ha) (dd_f T2 r0 f (fun _ => rfl) (fun _ _ => rfl) hd) (dg_f T2 r0 f (fun _ => rfl) (fun _ _ => rfl) hg) (df_f T2 r0 f (fun _ => rfl) (fun _ _ => rfl) hf) ?_
    rcases K.2 with ⟨q1, q2⟩ | ⟨q1, q2, k, q3⟩
    · have : d52 x0 o = d52 x0 h2 := by unfold d52; rw [q2]
      rw [this, q1]; exact N
    · have e1 : d52 x0 o = 0 := by unfold d52; rw [q3]; rfl
      have e2 : d52 x0 h2 = 1 := by unfold d52; rw [q1]; rfl
      rw [e2] at N
      rw [e1, q2]
      show h2.1.1 + 1 + _ + _ + _ + _ + 0 ≤ _ ∧ h2.1.2 + 1500000 + _ + _ + _ + _ + _ ≤ _
      omega
end
end
section
/-! rules of the reference -/
section
variable {ρ : Nat → Nat} {c : Cm} {x0 F : Nat} {h g : Hp} {B : Nat × Nat}
theorem ru_56 {s : Nat} {o : Int32 × Hp} (qs : ρ s = 85) (r0 : ρ x0 = 16) : ∀ (f : Nat) {h : Hp} {x2 : Int32}, (∀ r, hR h x0 39 = some r → ρ r = 94) → sX15_rules_56 F f h x0 x2 = some o → hI o.2 x0 50 = 0 ∧ hI o.2 x0 44 = 0 ∧ hI o.2 x0 65 = 0 ∧ ∀ i, hI o.2 s i = hI h s i := by
  have ne : ∀ {a d p q : Nat}, ρ a = p → ρ d = q → p ≠ q → ¬ a = d := fun ha hd hpq z => hpq (by rw [← ha, z]; exact hd)
  intro f
  induction f with
  | zero => intro h x2 _ e; exact absurd e (by simp [sX15_rules_56])
  | succ f ih =>
    intro h x2 q94 e
    unfold sX15_rules_56 at e
    replace e := br_s e; rcases e with ⟨_, e⟩ | ⟨_, e⟩
    · replace e := nm_s e; obtain ⟨h2, w2, e⟩ := e
      replace e := nm_s e; obtain ⟨h3, w3, e⟩ := e
      replace e := nm_s e; obtain ⟨h4, w4, e⟩ := e
      replace e := cl_s e; obtain ⟨_, _, e⟩ := e
      rw [← Option.some.inj e]
      refine ⟨?_, ?_, ?_, fun i => ?_⟩
      · show hI h4 x0 50 = 0
        rw [w4, rI_o (by decide), w3, rI_o (by decide), w2, rI_s]
      · show hI h4 x0 44 = 0
        rw [w4, rI_o (by decide), w3, rI_s]
      · show hI h4 x0 65 = 0
        rw [w4, rI_s]
      · show hI h4 s i = _
        rw [w4, rI_a (ne qs r0 (by decide)), w3, rI_a (ne qs r0 (by decide)), w2, rI_a (ne qs r0 (by decide))]
    replace e := cl_s e; obtain ⟨r6, e6, e⟩ := e
    replace e := (gd_s e).2
    replace e := nm_s e; obtain ⟨h8, w8, e⟩ := e
    replace e := nm_s e; obtain ⟨_, _, e⟩ := e
    obtain ⟨a1, a2, a3, a4⟩ := ih (h := h8) (fun r er => q94 r (by rw [w8] at er; exact er)) e
    exact ⟨a1, a2, a3, fun i => by rw [a4, w8, rI_a (ne qs (q94 r6 e6) (by decide))]⟩
theorem ru_35 {s : Nat} {o : Int32 × Hp} (qs : ρ s = 85) (r0 : ρ x0 = 16) : ∀ (f : Nat) {h : Hp} {x2 : Int32}, hR h x0 15 = some s → (∀ r, hR h x0 39 = some r → ρ r = 94) → 0 ≤ x2.toInt → (∀ i : Nat, (i : Int) < x2.toInt → hI h s i = 0) → sX15_rules_35 F f h x0 x2 = some o → hI o.2 x0 50 = 0 ∧ hI o.2 x0 44 = 0 ∧ hI o.2 x0 65 = 0 ∧ ∀ i, i < 60 → hI o.2 s i = 0 := by
  have z60 : (60 : Int32).toInt = 60 := rfl
  have z1 : (1 : Int32).toInt = 1 := rfl
  intro f
  induction f with
  | zero => intro h x2 _ _ _ _ e; exact absurd e (by simp [sX15_rules_35])
  | succ f ih =>
    intro h x2 es q94 a2 C e
    unfold sX15_rules_35 at e
    replace e := br_s e; rcases e with ⟨l, e⟩ | ⟨l, e⟩
    · have l := le_i l
      obtain ⟨a1, a2', a3, a4⟩ := ru_56 qs r0 F q94 e
      exact ⟨a1, a2', a3, fun i hi => by rw [a4]; exact C i (by omega)⟩
    have l := nle_i l
    replace e := cl_s e; obtain ⟨s', es', e⟩ := e
    have y : s' = s := r_eq es es'
    subst y
    replace e := (gd_s e).2
    replace e := nm_s e; obtain ⟨h4, w4, e⟩ := e
    replace e := nm_s e; obtain ⟨v5, w5, e⟩ := e
    have t5 : v5.toInt = x2.toInt + 1 := by rw [w5, ta (by rw [z1]; omega), z1]
    have c2 := nc_i a2
    refine ih (h := h4) (by rw [w4]; exact es) (fun r er => q94 r (by rw [w4] at er; exact er)) (by omega) (fun i hi => ?_) e
    rw [w4, r_I]
    by_cases z : i = x2.toNatClampNeg
    · rw [if_pos ⟨rfl, z⟩]
    · rw [if_neg (fun w => z w.2)]; exact C i (by omega)
abbrev irA : List (Nat × Nat) := [(73, 999), (74, 999), (75, 999), (76, 999), (77, 999), (78, 999), (79, 999), (80, 999), (81, 999), (15, 0), (15, 1), (15, 2), (15, 10), (15, 11), (15, 12), (15, 15), (15, 16), (15, 17), (15, 18), (15, 19), (15, 20), (15, 21), (15, 22), (15, 23), (16, 6), (16, 7), (16, 8), (16, 9), (16, 10)]
abbrev tkA : List (Nat × Nat) := [(16, 4), (16, 5), (16, 11), (16, 12), (16, 13)]
abbrev rsA : List (Nat × Nat) := [(85, 999), (94, 999), (16, 44), (16, 50), (16, 65)]
theorem rw_rules (hF : 700000 ≤ F) (hp : hpR c) (T : TH ρ c h) (r0 : ρ x0 = 16) (P : RfI x0 h) (M : RmR x0 B h) : Sat (sX15_rules F h x0) (RP ρ c x0 B (fun o => hI o x0 1 = 0)) := by
  unfold sX15_rules
  refine s_q (fun v ev => ?_)
  have iv : Rg 0 1200 v := by rw [ev]; exact thI T r0 rfl
  refine s_hq (th_wI T r0 (k := 16) (lo := 0) (hi := 1200) rfl (rg_m (rg_b rfl : Rg 0 0 (0 : Int32)) (by decide)) (by decide) (by decide) (hp 16 _ 1 rfl)) (fun h2 T2 w2 => ?_)
  obtain ⟨P2, M2, z2⟩ := tp_w hp T r0 P M T2 w2
  obtain ⟨r3, e3, q3⟩ := thR T2 r0 (i := 0) (k2 := 82) rfl (by decide)
  refine s_ref e3 ?_
  refine s_cIfq (S := fS irA []) T2 (fs_r hp rfl) (zX15_isRules hF fs_a (th_in _ T2) r0 q3 iv) (fun o4 T4 i4 f4 p4 => ?_)
  have P4 := rfi_f T2 r0 f4 (ok_bad (A := irA) (L := []) rfl) P2
  have M4 : RmR x0 B o4.2 := rmr_f T2 r0 f4 (T4.1.1.trans T2.1.1.symm) (fun _ => rfl) (fun _ => rfl) (fun _ => rfl) (fun _ => rfl) (fun _ => rfl) (fun _ _ => rfl) (fun _ _ => rfl) (fun _ _ => rfl) (fun _ _ => rfl) M2
  have t4 : hI o4.2 x0 1 = 0 := by rw [(fr_RI f4 r0 (by decide) (fun _ => rfl)).1]; exact z2
  refine s_br (fun _ => s_some ⟨ρ, c, ex_0, T4, P4, M4, t4⟩) (fun n4 => ?_)
  refine s_cVfq (S := fS tkA []) T4 (fs_r hp rfl) (zX15_take hF fs_a (th_in _ T4) r0 (p4 (fun z => n4 (Int32.toInt_inj.mp z)))) (fun o6 T6 f6 sq6 => ?_)
  have M6 : RmR x0 B o6 := rmr_f T4 r0 f6 (T6.1.1.trans T4.1.1.symm) (fun _ => rfl) (fun _ => rfl) (fun _ => rfl) (fun _ => rfl) (fun _ => rfl) (fun _ _ => rfl) (fun _ _ => rfl) (fun _ _ => rfl) (fun _ _ => rfl) M4
  have t6 : hI o6 x0 1 = 0 := by rw [(fr_RI f6 r0 (by decide) (fun _ => rfl)).1]; exact t4
  obtain ⟨_, ⟨B1, p2⟩, ⟨B2, p3⟩, p5, p6, ⟨B3, p7⟩, _, p8⟩ := P4
  obtain ⟨B1', b6⟩ := bdy_ex T4 r0 f6 ⟨fun _ => rfl, fun _ => rfl, fun _ _ => rfl, fun _ _ => rfl, fun _ _ => rfl, fun _ => rfl, fun _ => rfl, fun _ => rfl⟩ p2
  obtain ⟨B2', g6⟩ := gay_ex T4 r0 f6 ⟨fun _ => rfl, fun _ _ => rfl, fun j _ => ⟨fun _ _ => rfl, fun _ => rfl, fun _ => rfl, fun _ => rfl⟩⟩ p8 p3
  have d6 := dpp_f T4 r0 f6 ⟨fun _ => rfl, fun _ => rfl, fun _ _ => rfl, fun _ _ => rfl⟩ p5
  obtain ⟨B3', fd6⟩ := fdy_ex T4 r0 f6 ⟨fun _ => rfl, fun _ _ => rfl, fun j => ⟨fun _ _ => rfl, fun _ => rfl, fun _ => rfl, fun _ => rfl⟩⟩ ⟨fun _ => rfl, fun _ _ => rfl⟩ ⟨fun _ => rfl, fun _ _ => rfl⟩ (fun _ => rfl) p7
  have n6 := nog_f T4 r0 f6 (fun _ => rfl) (fun _ _ _ => rfl) p8
  obtain ⟨s, es, qs⟩ := thR T6 r0 (i := 15) (k2 := 85) rfl (by decide)
  have q94 : ∀ r, hR o6 x0 39 = some r → ρ r = 94 := fun r er => rr T6 (thR T6 r0 (i := 39) (k2 := 94) rfl (by decide)) er
  have m9 : Rg 0 60 (0 : Int32) := rg_m (rg_b rfl : Rg 0 0 (0 : Int32)) (by decide)
  obtain ⟨o, eo, z⟩ := zX15_rules_35 (c := cat c (fS rsA []) o6) hF fs_a F (th_in _ T6) r0 m9 (by have : (0 : Int32).toInt = 0 := rfl; rw [this]; omega)
  have T7 := th_out T6 (fs_r hp rfl) z.1
  have f := fr_u T6 z.1.2.2
  obtain ⟨x50, x44, x65, xs⟩ := ru_35 qs r0 F es q94 (by decide) (fun i hi => absurd hi (by show ¬ (i : Int) < 0; omega)) eo
  have es7 : hR o.2 x0 15 = some s := by rw [(fr_RI f r0 (by decide) (fun _ => rfl)).2.2]; exact es
  obtain ⟨ra, ea, qa⟩ := thR T6 r0 (i := 14) (k2 := 84) rfl (by decide)
  have ea7 : hR o.2 x0 14 = some ra := by rw [(fr_RI f r0 (by decide) (fun _ => rfl)).2.2]; exact ea
  obtain ⟨rf, ef, qf⟩ := thR T6 r0 (i := 40) (k2 := 95) rfl (by decide)
  have ef7 : hR o.2 x0 40 = some rf := by rw [(fr_RI f r0 (by decide) (fun _ => rfl)).2.2]; exact ef
  have z0 : (0 : Int32).toInt = 0 := rfl
  refine ⟨o, eo, ρ, c, ex_0, T7, ⟨sq_fr T6 r0 f (fun _ => rfl) (fun _ => rfl) (fun _ => rfl) sq6, ?_, ?_, dpp_f T6 r0 f ⟨fun _ => rfl, fun _ => rfl, fun _ _ => rfl, fun _ _ => rfl⟩ d6, fun n => ?_, ?_, fun n => absurd x50 n, nog_f T6 r0 f (fun _ => rfl) (fun _ _ _ => rfl) n6⟩, rmr_f T6 r0 f (T7.1.1.trans T6.1.1.symm) (fun _ => rfl) (fun _ => rfl) (fun _ => rfl) (fun _ => rfl) (fun _ => rfl) (fun _ _ => rfl) (fun _ _ => rfl) (fun _ _ => rfl) (fun _ _ => rfl) M6, by show hI o.2 x0 1 = 0; rw [(fr_RI f r0 (by decide) (fun _ => rfl)).1]; exact t6⟩
  · refine ⟨(o.2.1.1 + 5 * nuC o.2 ra 60, o.2.1.2 + 162 * nuC o.2 ra 60), fun r s' e1 e2 i hi hs => ?_, fun r e1 i j a b ne ea' eb' k hk Ma Mb m1 m2 => ?_, fun r' e' => ?_⟩
    · have y : s' = s := r_eq es7 e2
      rw [y, xs i hi] at hs
      exact absurd (by decide : (0 : Int32) ≤ 0) hs
    · have y : r = ra := r_eq ea7 e1
      subst y
      rw [(fr_RI f qa (by decide) (fun _ => rfl)).2.2] at ea' eb'
      have qa' := thRn T6 qa (k2 := 13) rfl (by decide) ea'
      have qb' := thRn T6 qa (k2 := 13) rfl (by decide) eb'
      rw [(fr_RI f qa' (by decide) (fun _ => rfl)).2.2] at m1
      rw [(fr_RI f qb' (by decide) (fun _ => rfl)).2.2] at m2
      exact b6.2.1 r ea i j a b ne ea' eb' k hk Ma Mb m1 m2
    · have y : r' = ra := r_eq ea7 e'
      subst y
      exact ⟨Nat.le_refl _, Nat.le_refl _⟩
  · exact gay_ex T6 r0 f ⟨fun _ => rfl, fun _ _ => rfl, fun j _ => ⟨fun _ _ => rfl, fun _ => rfl, fun _ => rfl, fun _ => rfl⟩⟩ n6 g6
  · rw [x65] at n
    exact absurd (by decide : (0 : Int32) ≤ 0) n
  · refine ⟨(o.2.1.1 + 5 * nuC o.2 rf 3000, o.2.1.2 + 162 * nuC o.2 rf 3000), fun r er i hi => ?_, fun k hk => ?_, ⟨fun k b Bb => ?_, fun r' e' => ?_⟩, tx_fr T6 r0 f ⟨fun _ => rfl, fun _ _ => rfl⟩ fd6.2.2.2⟩
    · rw [x44, z0] at hi; omega
    · rw [x44, z0] at hk; omega
    · have B0 := (fbo_fr T6 r0 f (fun _ => rfl) (fun _ => rfl)).mpr Bb
      obtain ⟨k1, k2⟩ := fbo_r T6 r0 B0
      exact pz_fr T6 k1 f (fun _ _ => rfl) (fun _ => rfl) (fun _ => rfl) (fun _ => rfl) (fd6.2.2.1.1 k b B0)
    · have y : r' = rf := r_eq ef7 e'
      subst y
      exact ⟨Nat.le_refl _, Nat.le_refl _⟩
end
end
section
/-! what the one side leaves of the other -/
section
variable {ρ ρ1 : Nat → Nat} {c c1 : Cm} {h o : Hp} {S : Nat → Nat → Nat → Bool} {m : Nat}
theorem exm_f (T : TH ρ c h) (X : ExM ρ (cat c S h) ρ1 c1) (T1 : TH ρ1 c1 o) : Fr ρ (cat c S h) h o := by
  have lt : ∀ a, ρ a ≠ 0 → a < h.1.1 := fun a ha => by rw [T.1.1]; exact T.2.1.2.2.1 a ha
  have g : FrG ρ1 c1 (c0 c1) o := T1.2.2
  have e0 : c0 c1 = h := by show c1.2.2.2.2 = h; rw [X.2.1]; rfl
  rw [e0] at g
  refine ⟨fun a i h0 hs => g.2.1 a i (lt a h0) (by rw [(X.1 a h0).1]; exact h0) ?_, fun a h0 => g.2.2 a (lt a h0) (by rw [(X.1 a h0).1]; exact h0)⟩
  show c1.2.2.2.1 (ρ1 a) (cw c1 a) i = false
  rw [X.2.1, (X.1 a h0).1, (X.1 a h0).2]
  exact hs
/-- what a call of the class may write -/
def clSf : Nat → Nat → Nat → Bool := fun k _ _ => clR k
/-- what a call of the reference may write -/
def rfSf : Nat → Nat → Nat → Bool := fun k _ _ => rfR k
theorem cl_bad : ∀ k w i, badR k w i = true → clSf k w i = false := fun k w i b => by
  unfold badR at b
  simp at b
  have : k = 16 ∨ k = 84 ∨ k = 85 ∨ k = 90 ∨ k = 91 ∨ k = 92 ∨ k = 95 ∨ k = 96 ∨ k = 97 ∨ k = 99 ∨ k = 100 ∨ k = 101 ∨ k = 106 ∨ k = 107 ∨ k = 13 ∨ k = 62 ∨ k = 63 ∨ k = 64 := by omega
  rcases this with z | z | z | z | z | z | z | z | z | z | z | z | z | z | z | z | z | z <;> subst z <;> rfl
/-- a call of the class leaves the reference -/
theorem x_ref {na nd ng nf : Nat} (T : TH ρ c h) (X : ExM ρ (cat c clSf h) ρ1 c1) (T1 : TH ρ1 c1 o) (r0 : ρ m = 16) (P : RfI m h) (ha : dA m h na) (hd : dD m h nd) (hg : dG m h ng) (hf : dF m h nf) : RfI m o ∧ dA m o na ∧ dD m o nd ∧ dG m o ng ∧ dF m o nf ∧ d52 m o = d52 m h ∧ TpR m h o ∧ ρ1 m = 16 := by
  have f := exm_f T X T1
  exact ⟨rfi_f T r0 f cl_bad P, da_f T r0 f (fun _ => rfl) (fun _ _ => rfl) ha, dd_f T r0 f (fun _ => rfl) (fun _ _ => rfl) hd, dg_f T r0 f (fun _ => rfl) (fun _ _ => rfl) hg, df_f T r0 f (fun _ => rfl) (fun _ _ => rfl) hf, d52_f r0 f (fun _ => rfl), (fr_RI f r0 (by decide) (fun _ => rfl)).1, by rw [(X.1 m (by rw [r0]; decide)).1]; exact r0⟩
/-- a call of the reference leaves the class -/
theorem x_cls {n : Nat} (T : TH ρ c h) (X : Ext ρ (cat c rfSf h) ρ1 c1) (T1 : TH ρ1 c1 o) (r0 : ρ n = 12) (I : ClI ρ c n h) : ClI ρ1 c1 n o ∧ Tp n h o ∧ ρ1 n = 12 := by
  have f := ex_f T X T1
  have cr : ∀ k, clS k = true → rfR k = false := fun k z => by
    have := clS_c z
    rcases this with z | z | z | z | z | z | z | z | z | z | z | z | z | z | z | z | z | z | z | z | z | z <;> subst z <;> rfl
  have I2 : ClI ρ c n o := ci_f T r0 f (fun k w i z _ _ _ => cr k z) (fun k w i z _ => cr k z) I
  have r1 : ρ1 n = 12 := by rw [(X.1 n (by rw [r0]; decide)).1]; exact r0
  refine ⟨ci_x (c := cat c rfSf h) (th_in _ T) r0 X T1 I2, fun t et => ?_, r1⟩
  have qt := rr T (thR T r0 (i := 0) (k2 := 10) rfl (by decide)) et
  exact ⟨by rw [(fr_RI f r0 (by decide) (fun _ => rfl)).2.2]; exact et, (fr_RI f qt (by decide) (fun _ => rfl)).1⟩
end
end
section
/-! the room of both sides together -/
def dP (n : Nat) (h : Hp) (k : Nat) : Prop := ∃ r, hR h n 15 = some r ∧ nuC h r 2408 = k
def dQ (n : Nat) (h : Hp) (k : Nat) : Prop := ∃ e a, hR h n 10 = some e ∧ hR h e 11 = some a ∧ (if hN h a = 600000 then 0 else 1) = k
def capC (n : Nat) (h : Hp) : Prop := ∀ t b, hR h n 0 = some t → hR h t 0 = some b → hN h b = 1200
section
variable {ρ ρ1 : Nat → Nat} {c c1 : Cm} {h o : Hp} {S : Nat → Nat → Nat → Bool} {n m : Nat} {B L : Nat × Nat}
theorem rmc_i {kp ke : Nat} (M : RmC n B h) (hp : dP n h kp) (hq : dQ n h ke) : (h.1.1 + 6 * kp + 3 * ke ≤ B.1 ∧ h.1.2 + 83 * kp + 1800000 * ke ≤ B.2) ∧ capC n h := by
  obtain ⟨r, er, qr⟩ := hp
  obtain ⟨e, a, ee, ea, qa⟩ := hq
  have := M.1 r e a er ee ea
  rw [qr] at this
  refine ⟨?_, M.2⟩
  by_cases z : hN h a = 600000
  · rw [if_pos z] at qa this; rw [if_pos z] at this; omega
  · rw [if_neg z] at qa this; rw [if_neg z] at this; omega
theorem rmc_o {kp ke : Nat} (hp : dP n h kp) (hq : dQ n h ke) (q : h.1.1 + 6 * kp + 3 * ke ≤ B.1 ∧ h.1.2 + 83 * kp + 1800000 * ke ≤ B.2) (cp : capC n h) : RmC n B h := by
  obtain ⟨r, er, qr⟩ := hp
  obtain ⟨e, a, ee, ea, qa⟩ := hq
  refine ⟨fun r' e' a' er' ee' ea' => ?_, cp⟩
  have y1 := r_eq er er'
  have y2 := r_eq ee ee'
  subst y1; subst y2
  have y3 := r_eq ea ea'
  subst y3
  rw [qr]
  by_cases z : hN h a' = 600000
  · rw [if_pos z] at qa; rw [if_pos z, if_pos z]; omega
  · rw [if_neg z] at qa; rw [if_neg z, if_neg z]; omega
theorem dp_i (T : TH ρ c h) (r0 : ρ n = 12) : ∃ k, dP n h k := by
  obtain ⟨r, er, qr⟩ := thR T r0 (i := 15) (k2 := 59) rfl (by decide)
  exact ⟨_, r, er, rfl⟩
theorem dq_i (T : TH ρ c h) (r0 : ρ n = 12) : ∃ k, dQ n h k := by
  obtain ⟨e, ee, qe⟩ := thR T r0 (i := 10) (k2 := 1) rfl (by decide)
  obtain ⟨a, ea, qa⟩ := thR T qe (i := 11) (k2 := 24) rfl (by decide)
  exact ⟨_, e, a, ee, ea, rfl⟩
theorem dp_f {k : Nat} (T : TH ρ c h) (r0 : ρ n = 12) (f : Fr ρ (cat c S h) h o) (s : ∀ w, S 12 w 15 = false) (t : ∀ w i, S 59 w i = false) (d : dP n h k) : dP n o k := by
  obtain ⟨a, ea, qa⟩ := d
  have q := rr T (thR T r0 (i := 15) (k2 := 59) rfl (by decide)) ea
  exact ⟨a, by rw [(fr_RI f r0 (by decide) s).2.2]; exact ea, by rw [nuC_eq 2408 (fun i _ => (fr_RI f q (by decide) (fun w => t w i)).2.2)]; exact qa⟩
theorem dq_f {k : Nat} (T : TH ρ c h) (r0 : ρ n = 12) (f : Fr ρ (cat c S h) h o) (s : ∀ w, S 12 w 10 = false) (t : ∀ w, S 1 w 11 = false) (d : dQ n h k) : dQ n o k := by
  obtain ⟨e, a, ee, ea, qa⟩ := d
  have qe := rr T (thR T r0 (i := 10) (k2 := 1) rfl (by decide)) ee
  have qa' := rr T (thR T qe (i := 11) (k2 := 24) rfl (by decide)) ea
  exact ⟨e, a, by rw [(fr_RI f r0 (by decide) s).2.2]; exact ee, by rw [(fr_RI f qe (by decide) t).2.2]; exact ea, by rw [f.2 a (by rw [qa']; decide)]; exact qa⟩
theorem cap_f (T : TH ρ c h) (r0 : ρ n = 12) (f : Fr ρ (cat c S h) h o) (s : ∀ w, S 12 w 0 = false) (t : ∀ w, S 10 w 0 = false) (d : capC n h) : capC n o := fun t' b et eb => by
  rw [(fr_RI f r0 (by decide) s).2.2] at et
  have qt := rr T (thR T r0 (i := 0) (k2 := 10) rfl (by decide)) et
  rw [(fr_RI f qt (by decide) t).2.2] at eb
  have qb := rr T (thR T qt (i := 0) (k2 := 49) rfl (by decide)) eb
  rw [f.2 b (by rw [qb]; decide)]
  exact d t' b et eb
/-- both sides keep to L together -/
def RmJ (n m : Nat) (L : Nat × Nat) (h : Hp) : Prop := ∃ kp ke na nd ng nf, dP n h kp ∧ dQ n h ke ∧ dA m h na ∧ dD m h nd ∧ dG m h ng ∧ dF m h nf ∧ capC n h ∧ h.1.1 + 6 * kp + 3 * ke + 5 * na + 13 * nd + 5 * ng + 5 * nf + d52 m h ≤ L.1 ∧ h.1.2 + 83 * kp + 1800000 * ke + 162 * na + 21170 * nd + 162 * ng + 162 * nf + 1500000 * d52 m h ≤ L.2
/-- for a call of the class -/
theorem j_c (T : TH ρ c h) (r0 : ρ n = 12) (rm : ρ m = 16) (P : RfI m h) (J : RmJ n m L h) : ∃ B, RmC n B h ∧ ∀ o ρ1 c1, ExM ρ (cat c clSf h) ρ1 c1 → TH ρ1 c1 o → ρ1 n = 12 → RmC n B o → RfI m o ∧ RmJ n m L o ∧ TpR m h o ∧ ρ1 m = 16 := by
  obtain ⟨kp, ke, na, nd, ng, nf, hp, hq, ha, hd, hg, hf, cp, j1, j2⟩ := J
  refine ⟨(L.1 - (5 * na + 13 * nd + 5 * ng + 5 * nf + d52 m h), L.2 - (162 * na + 21170 * nd + 162 * ng + 162 * nf + 1500000 * d52 m h)), rmc_o hp hq (by show _ ≤ L.1 - _ ∧ _ ≤ L.2 - _; omega) cp, fun o ρ1 c1 X T1 r1 M1 => ?_⟩
  obtain ⟨P1, ha', hd', hg', hf', e5, t1, m1⟩ := x_ref T X T1 rm P ha hd hg hf
  obtain ⟨kp', hp'⟩ := dp_i T1 r1
  obtain ⟨ke', hq'⟩ := dq_i T1 r1
  obtain ⟨⟨i1, i2⟩, cp'⟩ := rmc_i M1 hp' hq'
  have i1 : o.1.1 + 6 * kp' + 3 * ke' ≤ L.1 - (5 * na + 13 * nd + 5 * ng + 5 * nf + d52 m h) := i1
  have i2 : o.1.2 + 83 * kp' + 1800000 * ke' ≤ L.2 - (162 * na + 21170 * nd + 162 * ng + 162 * nf + 1500000 * d52 m h) := i2
  refine ⟨P1, ⟨kp', ke', na, nd, ng, nf, hp', hq', ha', hd', hg', hf', cp', ?_, ?_⟩, t1, m1⟩
  · rw [e5]; omega
  · rw [e5]; omega
/-- for a call of the reference -/
theorem j_r {d : Nat × Nat} (T : TH ρ c h) (r0 : ρ n = 12) (rm : ρ m = 16) (I : ClI ρ c n h) (J : RmJ n m L h) : ∃ B, RmR m B h ∧ ∀ o ρ1 c1, Ext ρ (cat c rfSf h) ρ1 c1 → TH ρ1 c1 o → RmR m (B.1 + d.1, B.2 + d.2) o → ClI ρ1 c1 n o ∧ RmJ n m (L.1 + d.1, L.2 + d.2) o ∧ Tp n h o ∧ ρ1 n = 12 ∧ ρ1 m = 16 := by
  obtain ⟨kp, ke, na, nd, ng, nf, hp, hq, ha, hd, hg, hf, cp, j1, j2⟩ := J
  refine ⟨(L.1 - (6 * kp + 3 * ke), L.2 - (83 * kp + 1800000 * ke)), rm_o ha hd hg hf (by show _ ≤ L.1 - _ ∧ _ ≤ L.2 - _; omega), fun o ρ1 c1 X T1 M1 => ?_⟩
  obtain ⟨I1, t1, r1⟩ := x_cls T X T1 r0 I
  have f := ex_f T X T1
  have m1 : ρ1 m = 16 := by rw [(X.1 m (by rw [rm]; decide)).1]; exact rm
  obtain ⟨na', ha'⟩ := da_i T1 m1
  obtain ⟨nd', hd'⟩ := dd_i T1 m1
  obtain ⟨ng', hg'⟩ := dg_i T1 m1
  obtain ⟨nf', hf'⟩ := df_i T1 m1
  obtain ⟨i1, i2⟩ := rm_i M1 ha' hd' hg' hf'
  have i1 : o.1.1 + 5 * na' + 13 * nd' + 5 * ng' + 5 * nf' + d52 m o ≤ L.1 - (6 * kp + 3 * ke) + d.1 := i1
  have i2 : o.1.2 + 162 * na' + 21170 * nd' + 162 * ng' + 162 * nf' + 1500000 * d52 m o ≤ L.2 - (83 * kp + 1800000 * ke) + d.2 := i2
  refine ⟨I1, ⟨kp, ke, na', nd', ng', nf', dp_f T r0 f (fun _ => rfl) (fun _ _ => rfl) hp, dq_f T r0 f (fun _ => rfl) (fun _ => rfl) hq, ha', hd', hg', hf', cap_f T r0 f (fun _ => rfl) (fun _ => rfl) cp, ?_, ?_⟩, t1, r1, m1⟩
  · show _ ≤ L.1 + d.1; omega
  · show _ ≤ L.2 + d.2; omega
end
end
section
/-! a pair of calls: class, then reference -/
/-- what holds between calls -/
def SI (n m : Nat) (L : Nat × Nat) (h : Hp) : Prop := ∃ ρ c, TH ρ c h ∧ ρ n = 12 ∧ ρ m = 16 ∧ ClI ρ c n h ∧ RfI m h ∧ RmJ n m L h ∧ ∀ t, hR h n 0 = some t → hI h t 1 = hI h m 1
/-- both calls end, whatever they answer -/
def Sf (A B : Hp → Option (Int32 × Hp)) (h : Hp) (Q : Hp → Prop) : Prop := ∃ (a b : Int32) (h1 h2 : Hp), A h = some (a, h1) ∧ B h1 = some (b, h2) ∧ Q h2
section
variable {n m : Nat} {L d : Nat × Nat} {h : Hp} {A R : Hp → Option (Int32 × Hp)}
theorem hpC_cl {c : Cm} {h : Hp} : hpC (cat c clSf h) := fun _ _ _ z => z
theorem hpR_rf {c : Cm} {h : Hp} : hpR (cat c rfSf h) := fun _ _ _ z => z
theorem st_tt (I : SI n m L h) (hc : ∀ {ρ : Nat → Nat} {c : Cm} {B : Nat × Nat}, hpC c → TH ρ c h → ρ n = 12 → ClI ρ c n h → RmC n B h → Sat (A h) (CP ρ c n B (Tp n h))) (hr : ∀ {h1 : Hp} {ρ : Nat → Nat} {c : Cm} {B : Nat × Nat}, hpR c → TH ρ c h1 → ρ m = 16 → RfI m h1 → RmR m B h1 → Sat (R h1) (RP ρ c m (B.1 + d.1, B.2 + d.2) (TpR m h1))) : Sf A R h (SI n m (L.1 + d.1, L.2 + d.2)) := by
  obtain ⟨ρ, c, T, r0, rm, I1, P, J, tp⟩ := I
  obtain ⟨B, M, back⟩ := j_c T r0 rm P J
  obtain ⟨o, eo, ρ1, c1, X, T1, I2, M2, tq⟩ := hc hpC_cl (th_in clSf T) r0 I1 M
  have r1 : ρ1 n = 12 := by rw [(X.1 n (by rw [r0]; decide)).1]; exact r0
  obtain ⟨P2, J2, t2, m1⟩ := back o.2 ρ1 c1 X T1 r1 M2
  obtain ⟨B3, M3, back3⟩ := j_r (d := d) T1 r1 m1 I2 J2
  obtain ⟨v, ev, ρ4, c4, X4, T4, P4, M4, t4⟩ := hr hpR_rf (th_in rfSf T1) m1 P2 M3
  obtain ⟨I5, J5, t5, r5, m5⟩ := back3 v.2 ρ4 c4 X4 T4 M4
  refine ⟨o.1, v.1, o.2, v.2, eo, ev, ρ4, c4, T4, r5, m5, I5, P4, J5, fun t et => ?_⟩
  obtain ⟨t0, et0, _⟩ := thR T r0 (i := 0) (k2 := 10) rfl (by decide)
  obtain ⟨a1, a2⟩ := tq t0 et0
  obtain ⟨b1, b2⟩ := t5 t0 a1
  have y : t = t0 := r_eq b1 et
  subst y
  have t4' : hI v.2 m 1 = hI o.2 m 1 := t4
  have t2' : hI o.2 m 1 = hI h m 1 := t2
  rw [b2, a2, t4', t2']
  exact tp t et0
/-- both tapes are empty behind it -/
theorem st_zz (I : SI n m L h) (hc : ∀ {ρ : Nat → Nat} {c : Cm} {B : Nat × Nat}, hpC c → TH ρ c h → ρ n = 12 → ClI ρ c n h → RmC n B h → Sat (A h) (CP ρ c n B (TpZ n))) (hr : ∀ {h1 : Hp} {ρ : Nat → Nat} {c : Cm} {B : Nat × Nat}, hpR c → TH ρ c h1 → ρ m = 16 → RfI m h1 → RmR m B h1 → Sat (R h1) (RP ρ c m B (fun o => hI o m 1 = 0))) : Sf A R h (SI n m L) := by
  obtain ⟨ρ, c, T, r0, rm, I1, P, J, tp⟩ := I
  obtain ⟨B, M, back⟩ := j_c T r0 rm P J
  obtain ⟨o, eo, ρ1, c1, X, T1, I2, M2, tq⟩ := hc hpC_cl (th_in clSf T) r0 I1 M
  have r1 : ρ1 n = 12 := by rw [(X.1 n (by rw [r0]; decide)).1]; exact r0
  obtain ⟨P2, J2, t2, m1⟩ := back o.2 ρ1 c1 X T1 r1 M2
  obtain ⟨B3, M3, back3⟩ := j_r (d := (0, 0)) T1 r1 m1 I2 J2
  obtain ⟨v, ev, ρ4, c4, X4, T4, P4, M4, t4⟩ := hr hpR_rf (th_in rfSf T1) m1 P2 M3
  obtain ⟨I5, J5, t5, r5, m5⟩ := back3 v.2 ρ4 c4 X4 T4 M4
  refine ⟨o.1, v.1, o.2, v.2, eo, ev, ρ4, c4, T4, r5, m5, I5, P4, J5, fun t et => ?_⟩
  obtain ⟨t0, et0, _⟩ := thR T1 r1 (i := 0) (k2 := 10) rfl (by decide)
  obtain ⟨b1, b2⟩ := t5 t0 et0
  have y : t = t0 := r_eq b1 et
  subst y
  have t4' : hI v.2 m 1 = 0 := t4
  rw [b2, t4']
  exact tq t et0
end
end
