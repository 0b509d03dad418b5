/-! calls of the class: position, solve, rules, before, rows, problem -/
section
variable {ρ ρ1 : Nat → Nat} {c c1 : Cm} {h o g : Hp} {S : Nat → Nat → Nat → Bool} {x0 a b k w i F L t : Nat} {B : Nat × Nat} {lo hi : Int} {x1 x2 x3 x4 x5 : Int32}
theorem clr_z {o : Int32 × Hp} {v : Int32} (e : (cl (hR g x0 0) fun r_1 => cl (sX9_clear g r_1) fun o_2 => some (v, o_2)) = some o) : TpZ x0 o.2 := by
  replace e := cl_s e
  obtain ⟨r1, e1, e⟩ := e
  replace e := cl_s e
  obtain ⟨o2, e2, e⟩ := e
  obtain ⟨q1, q2⟩ := clear_z e2
  rw [← Option.some.inj e]
  intro t' et'
  have : hR g x0 0 = some t' := by rw [← q2]; exact et'
  rw [r_eq e1 this]; exact q1
theorem pos_z {o : Int32 × Hp} (e : sX11_position F h x0 = some o) : TpZ x0 o.2 := by
  have z104 : ∀ {g : Hp} {v : Int32}, sX11_position_104 F g x0 v = some o → TpZ x0 o.2 := fun e => clr_z e
  have z75 : ∀ {g : Hp} {a b d e' f : Int32} {r : Nat}, sX11_position_75 F g x0 a b d e' f r = some o → TpZ x0 o.2 := fun e => by
    unfold sX11_position_75 sX11_position_103 at e
    replace e := (gd_s e).2
    replace e := nm_s e
    obtain ⟨h2, _, e⟩ := e
    replace e := br_s e
    rcases e with ⟨_, e⟩ | ⟨_, e⟩
    · replace e := br_s e
      rcases e with ⟨_, e⟩ | ⟨_, e⟩
      · exact z104 e
      · exact z104 e
    · exact z104 e
  have z52 : ∀ {g : Hp} {a b d : Int32}, sX11_position_52 F g x0 a b d = some o → TpZ x0 o.2 := fun e => by
    unfold sX11_position_52 sX11_position_74 at e
    replace e := cl_s e
    obtain ⟨_, _, e⟩ := e
    replace e := br_s e
    rcases e with ⟨_, e⟩ | ⟨_, e⟩
    · replace e := br_s e
      rcases e with ⟨_, e⟩ | ⟨_, e⟩
      · exact z75 e
      · exact z75 e
    · exact z75 e
  unfold sX11_position at e
  replace e := cl_s e
  obtain ⟨o1, _, e⟩ := e
  replace e := br_s e
  rcases e with ⟨_, e⟩ | ⟨_, e⟩
  · exact z104 e
  replace e := cl_s e
  obtain ⟨_, _, e⟩ := e
  replace e := (gd_s e).2
  replace e := cl_s e
  obtain ⟨_, _, e⟩ := e
  replace e := cl_s e
  obtain ⟨_, _, e⟩ := e
  replace e := cl_s e
  obtain ⟨_, _, e⟩ := e
  replace e := cl_s e
  obtain ⟨_, _, e⟩ := e
  replace e := br_s e
  rcases e with ⟨_, e⟩ | ⟨_, e⟩
  · replace e := cl_s e
    obtain ⟨_, _, e⟩ := e
    replace e := cl_s e
    obtain ⟨_, _, e⟩ := e
    exact z52 e
  · exact z52 e
theorem psE_c : ∀ k i, psE k i = true → clR k = true := fun k i z => by
  unfold psE at z
  rw [Bool.or_eq_true, Bool.and_eq_true, beq_iff_eq, beq_iff_eq] at z
  rcases z with z | ⟨z, _⟩ <;> (rw [z]; rfl)
theorem cw_position (hF : 700000 ≤ F) (hp : hpC c) (T : TH ρ c h) (r0 : ρ x0 = 12) (I : ClI ρ c x0 h) (R : RmC x0 B h) : Sat (sX11_position F h x0) (CP ρ c x0 B (TpZ x0)) := sat_and (zX11_position (c := cat c (fS [(58, 999), (8, 1), (8, 2)] [(2100, [(10, 1)]), (3200, SHL)]) h) hF fs_a (fs_o (.head _)) (fs_o (.tail _ (.head _))) (th_in _ T) r0 I.1) fun o e ho => by
  have T' := th_out T (fs_c1 hp rfl) ho.1
  have f := fr_u T ho.1.2.2
  have pl := (sat_e (zX11_positionP hF (fun k w i z => hp.1 k w i (sz_clR psE_c k w i z)) (pmO_c hp rfl) T r0 I.1 I.2.1) e).2
  have px := position_x hF (pmA_c hp rfl) (pmO_c hp rfl) (pmO_c hp rfl) T r0 I.1 I.2.2.2.2.2.2.2.2.2.2.2.2 I.2.2.1 e
  exact ⟨ρ, c, exm_0, T', ci_pl T r0 f (fun k w i z a b d e => clS_k (P := fun k => fS [(58, 999), (8, 1), (8, 2)] [(2100, [(10, 1)]), (3200, SHL)] k w i = false) z a b d e ⟨rfl, rfl, rfl, rfl, rfl, rfl, rfl, rfl, rfl, rfl, rfl, rfl, rfl, rfl, rfl, rfl, rfl, rfl⟩) (fun k w i hk hw => by rcases hk with z | z | z <;> subst z <;> exact big_w rfl rfl hw) pl px I, rmc_f T r0 f T' (fun _ _ => rfl) (fun _ _ => rfl) (fun _ => rfl) (ok10 rfl) R, pos_z e⟩
theorem solve_z {o : Int32 × Hp} (e : sX11_solve F h x0 = some o) : TpZ x0 o.2 := by
  have z71 : ∀ {g : Hp} {v : Int32}, sX11_solve_71 F g x0 v = some o → TpZ x0 o.2 := fun e => by
    unfold sX11_solve_71 sX11_solve_78 at e
    exact clr_z e
  unfold sX11_solve at e
  replace e := cl_s e
  obtain ⟨_, _, e⟩ := e
  replace e := cl_s e
  obtain ⟨_, _, e⟩ := e
  unfold sX11_solve_10 at e
  replace e := br_s e
  rcases e with ⟨_, e⟩ | ⟨_, e⟩
  · exact z71 e
  replace e := cl_s e
  obtain ⟨_, _, e⟩ := e
  replace e := cl_s e
  obtain ⟨_, _, e⟩ := e
  unfold sX11_solve_20 at e
  replace e := br_s e
  rcases e with ⟨_, e⟩ | ⟨_, e⟩
  rotate_left
  · exact z71 e
  replace e := cl_s e
  obtain ⟨_, _, e⟩ := e
  replace e := cl_s e
  obtain ⟨_, _, e⟩ := e
  replace e := cl_s e
  obtain ⟨_, _, e⟩ := e
  unfold sX11_solve_34 sX11_solve_70 at e
  replace e := br_s e
  rcases e with ⟨_, e⟩ | ⟨_, e⟩
  rotate_left
  · exact z71 e
  replace e := cl_s e
  obtain ⟨_, _, e⟩ := e
  replace e := cl_s e
  obtain ⟨_, _, e⟩ := e
  unfold sX11_solve_55 sX11_solve_70 at e
  replace e := br_s e
  rcases e with ⟨_, e⟩ | ⟨_, e⟩
  · exact z71 e
  replace e := cl_s e
  obtain ⟨_, _, e⟩ := e
  exact z71 e
abbrev SVF : Nat → Nat → Nat → Bool := fS SVL [(1003, BOL), (2100, [(10, 1)])]
theorem cw_solve (hF : 700000 ≤ F) (hp : hpC c) (T : TH ρ c h) (r0 : ρ x0 = 12) (I : ClI ρ c x0 h) (R : RmC x0 B h) : Sat (sX11_solve F h x0) (CP ρ c x0 B (TpZ x0)) := by
  obtain ⟨r, er, rr'⟩ := thR T r0 (i := 15) (k2 := 59) rfl (by decide)
  obtain ⟨nu, hnu⟩ : ∃ n, n = nuC h r 2408 := ⟨_, rfl⟩
  have py : PayA x0 (B.1 - 6 * nu, B.2 - 83 * nu) h := fun e ee a ea => by
    have q := R.1 r e a er ee ea
    rw [← hnu] at q
    show (hN h a = 600000 ∧ h.1.1 ≤ B.1 - 6 * nu ∧ h.1.2 ≤ B.2 - 83 * nu) ∨ (h.1.1 + 3 ≤ B.1 - 6 * nu ∧ h.1.2 + 1800000 ≤ B.2 - 83 * nu)
    by_cases z : hN h a = 600000
    · rw [if_pos z, if_pos z] at q
      exact Or.inl ⟨z, by omega, by omega⟩
    · rw [if_neg z, if_neg z] at q
      exact Or.inr ⟨by omega, by omega⟩
  refine sat_and (solve_y (c := cat c SVF h) (Bq := (B.1 - 6 * nu, B.2 - 83 * nu)) hF fs_a (fs_o (.head _)) (fs_o (.tail _ (.head _))) (th_in _ T) r0 I.1 ⟨I.2.2.2.2.2.2.2.2.1, py⟩ I.2.2.2.2.2.2.2.2.2.1) (fun o e ho => ?_)
  obtain ⟨ρ', c', X, T1, f, ⟨en, py'⟩, _⟩ := mk_out T (fs_c1 hp rfl) ho
  have big : ∀ k w i, (k = 4 ∨ k = 34 ∨ k = 36) → (8000 ≤ w ∨ w = 1603) → SVF k w i = false := fun k w i hk hw => by rcases hk with z | z | z <;> subst z <;> exact big_w rfl rfl hw
  have CI : ClI ρ c x0 o.2 := by
    obtain ⟨p1, p2, p3, p4, p5, p6, p7, p8, p9, p10, p11, p12, p13⟩ := I
    have lw : LWc SVF := fun _ => rfl
    exact ⟨lwr_f f lw p1, plp_f T r0 f (fun _ _ => rfl) (fun _ _ => rfl) (fun _ _ => rfl) rfl (fun _ => rfl) lw p2, plx_f T r0 f (fun _ _ => rfl) (fun _ _ => rfl) (fun _ _ => rfl) rfl (fun _ => rfl) lw p3, pgx_f T r0 f (fun _ _ => rfl) (fun _ _ => rfl) (fun _ _ => rfl) (fun _ => big _ _ _ (by decide) (Or.inl (by omega))) (fun _ => big _ _ _ (by decide) (Or.inl (by omega))) (fun _ _ => big _ _ _ (by decide) (Or.inl (by omega))) (fun _ _ => big _ _ _ (by decide) (Or.inl (by omega))) lw p4, gem_f T r0 f (fun _ _ => rfl) (fun _ => rfl) lw p5, get_f T r0 f (fun _ _ => rfl) (fun _ => rfl) (fun _ => rfl) p6, fmm_f T f (fun _ => rfl) (fun _ _ => rfl) p7, rex_f T r0 f (fun _ _ => rfl) (fun _ => rfl) (fun _ => rfl) (fun _ => rfl) (fun _ _ => rfl) rfl rfl (fun _ => rfl) (fun _ => rfl) lw p8, en, fmy_f T f (fun _ => rfl) (fun _ _ => rfl) lw p10, lwx_f T f lw (fun _ => rfl) (fun _ => rfl) p11, wya_f T f (fun _ => rfl) (fun _ => rfl) (fun _ => rfl) (fun _ _ => rfl) (fun _ _ => rfl) lw p12, sqa_f f lw p13⟩
  refine ⟨ρ', c', exm_x X, T1, ci_x T r0 X T1 CI, ⟨fun r' e' a' er' ee' ea' => ?_, fun t b et eb => ?_⟩, solve_z e⟩
  · rw [(frx f r0 (by decide) rfl rfl).2.2] at er'
    have y : r' = r := r_eq er er'
    subst y
    rw [nuC_eq (h := h) 2408 (fun i _ => (frx f rr' (by decide) rfl rfl).2.2), ← hnu]
    have q : (hN o.2 a' = 600000 ∧ o.2.1.1 ≤ B.1 - 6 * nu ∧ o.2.1.2 ≤ B.2 - 83 * nu) ∨ (o.2.1.1 + 3 ≤ B.1 - 6 * nu ∧ o.2.1.2 + 1800000 ≤ B.2 - 83 * nu) := py' e' ee' a' ea'
    obtain ⟨e, ee, re⟩ := thR T r0 (i := 10) (k2 := 1) rfl (by decide)
    obtain ⟨a, ea, ra⟩ := thR T re (i := 11) (k2 := 24) rfl (by decide)
    have q0 := R.1 r' e a er ee ea
    rw [← hnu] at q0
    rcases q with ⟨q1, q2, q3⟩ | ⟨q2, q3⟩
    · rw [if_pos q1, if_pos q1]
      omega
    · by_cases z : hN o.2 a' = 600000
      · rw [if_pos z, if_pos z]; omega
      · rw [if_neg z, if_neg z]; omega
  · rw [(frx f r0 (by decide) rfl rfl).2.2] at et
    have rt : ρ t = 10 := rr T (thR T r0 (i := 0) (k2 := 10) rfl (by decide)) et
    rw [(frx f rt (by decide) rfl (ok10 rfl _)).2.2] at eb
    have rb : ρ b = 49 := rr T (thR T rt (i := 0) (k2 := 49) rfl (by decide)) eb
    rw [f.2 b (by rw [rb]; decide)]
    exact R.2 t b et eb
theorem th_outM {c' : Cm} (hc : c' = cat c S h ∨ c' = nst (cat c S h) 50) (T : TH ρ c h) (hs : ∀ k w i, S k w i = true → cPm c k w i = true) (T2 : TH ρ c' o) : ∃ c2, (c2 = c ∨ c2 = nst c 50) ∧ (c2.2.1 = c'.2.1 ∧ cw c2 = cw c') ∧ TH ρ c2 o ∧ Fr ρ (cat c S h) h o := by
  have lt : ∀ a, ρ a ≠ 0 → a < h.1.1 := fun a ha => by rw [T.1.1]; exact T.2.1.2.2.1 a ha
  rcases hc with z | z
  · subst z
    exact ⟨c, Or.inl rfl, ⟨rfl, rfl⟩, th_out T hs T2, fr_u T T2.2.2⟩
  · subst z
    refine ⟨nst c 50, Or.inr rfl, ⟨rfl, rfl⟩, ⟨T2.1, T2.2.1, ?_⟩, fun a i h0 hz => T2.2.2.2.1 a i (lt a h0) h0 hz, fun a h0 => T2.2.2.2.2 a (lt a h0) h0⟩
    exact fr_t (c := nst c 50) (g1 := c0 c) (g2 := h) T.2.2 ⟨T2.2.2.1, fun a i l h0 h1 => T2.2.2.2.1 a i l h0 (by
      cases q : S (ρ a) (cw c a) i with
      | false => exact q
      | true =>
        have h1' : cPm c (ρ a) (cw c a) i = false := h1
        exact absurd (hs _ _ _ q) (by rw [h1']; decide)), T2.2.2.2.2⟩
theorem cw_rules (hF : 700000 ≤ F) (hp : hpC c) (hl : hlC c) (T : TH ρ c h) (r0 : ρ x0 = 12) (I : ClI ρ c x0 h) (R : RmC x0 B h) : Sat (sX11_rules F h x0) (CP ρ c x0 B (TpZ x0)) := s_imp (rules_x (c := cat c (fS RUC [(2100, [(10, 1)])]) h) hF fs_a (fs_o (.head _)) (th_in _ T) r0 I) fun o ho => by
  obtain ⟨c', hc, T1, I1, tz⟩ := ho
  obtain ⟨c2, hc2, ⟨e1, e2⟩, T2, f⟩ := th_outM hc T (fs_cl hp hl rfl) T1
  refine ⟨ρ, c2, ?_, T2, ?_, ?_, tz⟩
  · rcases hc2 with z | z <;> (rw [z]; exact exm_0)
  · rcases hc with z | z <;> rcases hc2 with z2 | z2
    · rw [z] at I1; rw [z2]; exact I1
    · rw [z] at e1; rw [z2] at e1
      have I2 : ClI ρ c x0 o.2 := by rw [z] at I1; exact I1
      obtain ⟨p1, p2, p3, p4, p5, p6, p7, p8, p9, p10, p11, p12, p13⟩ := I2
      have e1' : (nst c 50).2.1 = c.2.1 := e1
      rw [z2]
      refine ⟨fun L rL wL hc => by rw [e1']; exact p1 L rL wL hc, p2, p3, p4, p5, p6, fun W rW => by show FmT ((nst c 50).2.1 50) W o.2; rw [e1']; exact p7 W rW, p8, p9, p10, p11, p12, p13⟩
    · rw [z] at e1; rw [z2] at e1
      have I2 : ClI ρ (nst c 50) x0 o.2 := by rw [z] at I1; exact I1
      obtain ⟨p1, p2, p3, p4, p5, p6, p7, p8, p9, p10, p11, p12, p13⟩ := I2
      have e1' : c.2.1 = (nst c 50).2.1 := e1
      rw [z2]
      refine ⟨fun L rL wL hc => by rw [e1']; exact p1 L rL wL hc, p2, p3, p4, p5, p6, fun W rW => by show FmT (c.2.1 50) W o.2; rw [e1']; exact p7 W rW, p8, p9, p10, p11, p12, p13⟩
    · rw [z] at I1; rw [z2]; exact I1
  · exact rmc_k T r0 (by
      have a1 := T2.1.1
      rcases hc2 with z | z
      · rw [z] at a1; exact a1.trans T.1.1.symm
      · rw [z] at a1; exact a1.trans T.1.1.symm) (fun i => (frx f r0 (by decide) rfl rfl).2.2) (fun r i rr' => (frx f rr' (by decide) rfl rfl).2.2) (fun e re => (frx f re (by decide) rfl rfl).2.2) (fun t rt => (frx f rt (by decide) rfl (ok10 rfl _)).2.2) f.2 R
theorem rE_c : ∀ k i, rE k i = true → clR k = true := fun k i z => by
  unfold rE at z
  rw [Bool.or_eq_true, Bool.and_eq_true, beq_iff_eq, beq_iff_eq] at z
  rcases z with z | ⟨z, _⟩ <;> (rw [z]; rfl)
theorem cw_before (hF : 700000 ≤ F) (hp : hpC c) (T : TH ρ c h) (r0 : ρ x0 = 12) (I : ClI ρ c x0 h) (R : RmC x0 B h) : Sat (sX11_before F h x0 x1) (CP ρ c x0 B (Tp x0 h)) := s_imp (before_x (c := cat c (SZ rE fW) h) hF (sx_c _) (th_in _ T) r0 I.1 I.2.1 I.2.2.1 I.2.2.2.2.2.2.1 I.2.2.2.2.2.2.2.2.2.1 I.2.2.2.2.2.2.2.1) fun o ho => by
  have T' := th_out T (fun k w i z => hp.1 k w i (sz_clR rE_c k w i z)) ho.1
  have f := fr_u T ho.1.2.2
  refine ⟨ρ, c, exm_0, T', ?_, rmc_f T r0 f T' (fun _ _ => rfl) (fun _ _ => rfl) (fun _ => rfl) (fun _ => rfl) R, tp_f T r0 f (fun _ => rfl) rfl⟩
  obtain ⟨p1, p2, p3, p4, p5, p6, p7, p8, p9, p10, p11, p12, p13⟩ := I
  have lw : LWc (SZ rE fW) := fun _ => rfl
  have fw8 : ∀ j, fW (8000 + j) = false := fun j => by
    unfold fW
    rw [bq_ne (show 8000 + j ≠ 1503 by omega), bq_ne (show 8000 + j ≠ 1604 by omega), bq_ne (show 8000 + j ≠ 1603 by omega)]; rfl
  exact ⟨lwr_f f lw p1, plp_f T r0 f (fun _ _ => rfl) (fun _ _ => rfl) (fun _ _ => rfl) rfl (fun _ => rfl) lw p2, plx_f T r0 f (fun _ _ => rfl) (fun _ _ => rfl) (fun _ _ => rfl) rfl (fun _ => rfl) lw p3, pgx_f T r0 f (fun _ _ => rfl) (fun _ _ => rfl) (fun _ _ => rfl) (fun _ => rfl) (fun _ => rfl) (fun j _ => sz_f rfl rfl (Or.inr (fw8 j))) (fun j _ => sz_f rfl rfl (Or.inr (fw8 j))) lw p4, gem_f T r0 f (fun _ _ => rfl) (fun _ => rfl) lw p5, get_f T r0 f (fun _ _ => rfl) (fun _ => rfl) (fun _ => rfl) p6, fmm_f T f (fun _ => rfl) (fun _ _ => rfl) p7, ho.2, ena_f T r0 f (fun _ _ => rfl) (fun _ _ _ _ _ _ => rfl) (fun _ _ => rfl) (fun _ _ => rfl) (fun _ _ => rfl) lw p9, fmy_f T f (fun _ => rfl) (fun _ _ => rfl) lw p10, lwx_f T f lw (fun _ => rfl) (fun _ => rfl) p11, wya_f T f (fun _ => rfl) (fun _ => rfl) (fun _ => rfl) (fun _ _ => rfl) (fun _ _ => rfl) lw p12, sqa_f f lw p13⟩
theorem rw_rest {E : Nat → Nat → Bool} (T : TH ρ c h) (r0 : ρ x0 = 12) (f : Fr ρ (cat c (SZ E rwW) h) h o) (s : ∀ k i, clS k = true → E k i = false) (I : ClI ρ c x0 h) : ClI ρ c x0 o := ci_f T r0 f (fun k w i hk n4 n34 n36 => sz_f (s k i hk) (by
    rcases clS_c hk with z | z | z | z | z | z | z | z | z | z | z | z | z | z | z | z | z | z | z | z | z | z <;> subst z <;> rfl) (Or.inl (by
    rcases clS_c hk with z | z | z | z | z | z | z | z | z | z | z | z | z | z | z | z | z | z | z | z | z | z <;> subst z <;> first | rfl | exact absurd rfl n4 | exact absurd rfl n34 | exact absurd rfl n36))) (fun k w i hk hw => sz_f (s k i hk) (by
    rcases clS_c hk with z | z | z | z | z | z | z | z | z | z | z | z | z | z | z | z | z | z | z | z | z | z <;> subst z <;> rfl) (Or.inr (by
    unfold rwW
    rw [bq_ne (show w ≠ 1503 by omega)]
    cases z : (decide (3100 ≤ w) && decide (w ≤ 3108)) with
    | false => rfl
    | true =>
      rw [Bool.and_eq_true, decide_eq_true_eq, decide_eq_true_eq] at z
      omega))) I
theorem stE5_n : ∀ k i, clS k = true → stE5 k i = false := fun k i hk => by
  rcases clS_c hk with z | z | z | z | z | z | z | z | z | z | z | z | z | z | z | z | z | z | z | z | z | z <;> subst z <;> rfl
theorem kpE5_n : ∀ k i, clS k = true → (stE5 k i || kpE5 k i) = false := fun k i hk => by
  rcases clS_c hk with z | z | z | z | z | z | z | z | z | z | z | z | z | z | z | z | z | z | z | z | z | z <;> subst z <;> rfl
theorem stE5_c : ∀ k i, stE5 k i = true → clR k = true := fun k i z => by
  unfold stE5 at z
  rw [Bool.or_eq_true, Bool.and_eq_true, Bool.and_eq_true, beq_iff_eq, decide_eq_true_eq, decide_eq_true_eq] at z
  rcases z with ⟨z, _⟩ | ⟨z1, z2⟩
  · rw [z]; rfl
  · unfold clR
    simp
    omega
theorem kpE5_c : ∀ k i, (stE5 k i || kpE5 k i) = true → clR k = true := fun k i z => by
  rw [Bool.or_eq_true] at z
  rcases z with z | z
  · exact stE5_c k i z
  · unfold kpE5 mS at z
    rw [List.any_eq_true] at z
    obtain ⟨p, hp', hm⟩ := z
    rw [Bool.and_eq_true, beq_iff_eq] at hm
    rw [← hm.1]
    exact List.all_eq_true.mp (show (([(45, 999), (46, 999), (5, 14), (5, 15), (5, 16)] : List (Nat × Nat)).all fun p => clR p.1) = true from rfl) p hp'
theorem cw_rows (hF : 700000 ≤ F) (hp : hpC c) (T : TH ρ c h) (r0 : ρ x0 = 12) (I : ClI ρ c x0 h) (R : RmC x0 B h) : Sat (sX11_rows F h x0 x1 x2) (CP ρ c x0 B (Tp x0 h)) := s_imp (zX11_rows (c := cat c (SZ stE5 rwW) h) hF (sx_c _) (th_in _ T) r0 I.1 I.2.1) fun o ho => by
  have T' := th_out T (fun k w i z => hp.1 k w i (sz_clR stE5_c k w i z)) ho
  have f := fr_u T ho.2.2
  exact ⟨ρ, c, exm_0, T', rw_rest T r0 f stE5_n I, rmc_f T r0 f T' (fun _ _ => rfl) (fun _ _ => rfl) (fun _ => rfl) (fun _ => rfl) R, tp_f T r0 f (fun _ => rfl) rfl⟩
theorem cw_problem (hF : 700000 ≤ F) (hp : hpC c) (T : TH ρ c h) (r0 : ρ x0 = 12) (I : ClI ρ c x0 h) (R : RmC x0 B h) : Sat (sX11_problem F h x0 x1 x2 x3 x4) (CP ρ c x0 B (Tp x0 h)) := s_imp (zX11_problem (c := cat c (SZ (fun k i => stE5 k i || kpE5 k i) rwW) h) hF (sx_c _) (th_in _ T) r0 I.1 I.2.1) fun o ho => by
  have T' := th_out T (fun k w i z => hp.1 k w i (sz_clR kpE5_c k w i z)) ho
  have f := fr_u T ho.2.2
  exact ⟨ρ, c, exm_0, T', rw_rest T r0 f kpE5_n I, rmc_f T r0 f T' (fun _ _ => rfl) (fun _ _ => rfl) (fun _ => rfl) (fun _ => rfl) R, tp_f T r0 f (fun _ => rfl) rfl⟩
end
