/-! calls of the class: drop, back, feed, end, position, go, before, solve, rules -/
section
variable {ρ ρ1 : Nat → Nat} {c c1 : Cm} {h o g : Hp} {S : Nat → Nat → Nat → Bool} {x0 a b k w i F L : Nat} {B : Nat × Nat} {lo hi : Int} {x1 x2 x3 x4 x5 : Int32}
theorem cw_back (hF : 700000 ≤ F) (hp : hpC c) (T : TH ρ c h) (r0 : ρ x0 = 12) (I : ClI ρ c x0 h) (R : RmC x0 B h) : Sat (sX11_back h x0 x1) (CP ρ c x0 B (Tp x0 h)) := sat_and (zX11_back (c := cat c (fS [(61, 999)] []) h) hF fs_a (th_in _ T) r0 (rg_top _)) fun o e ho => by
  have T' := th_out T (fs_c1 hp rfl) ho.1
  have f := fr_u T ho.1.2.2
  have n61 : ∀ rl n, ρ rl = 61 → (hI o.2 rl n).toInt ≤ (hI h rl n).toInt := fun rl n hrl => by
    unfold sX11_back at e
    replace e := cl_s e
    obtain ⟨o1, e1, e⟩ := e
    have q1 := (sat_e (zX11_isGame hF T (rg_top _)) e1).1
    rw [q1] at e
    replace e := br_s e
    rcases e with ⟨_, e⟩ | ⟨_, e⟩
    · rw [← Option.some.inj e]; exact Int.le_refl _
    replace e := cl_s e
    obtain ⟨r3, e3, e⟩ := e
    have q3 : ρ r3 = 61 := rr T (thR T r0 (i := 17) (k2 := 61) rfl (by decide)) e3
    replace e := (gd_s e).2
    replace e := br_s e
    rcases e with ⟨_, e⟩ | ⟨n1, e⟩
    · rw [← Option.some.inj e]; exact Int.le_refl _
    have i3 : Rg 0 300 (hI h r3 x1.toNatClampNeg) := rg_nlo n1 (thI T q3 (k := 61) (lo := -1) (hi := 300) rfl) (rg_b rfl : Rg (-1) (-1) (-1 : Int32))
    replace e := cl_s e
    obtain ⟨r6, e6, e⟩ := e
    replace e := (gd_s e).2
    replace e := br_s e
    rcases e with ⟨_, e⟩ | ⟨_, e⟩
    · rw [← Option.some.inj e]; exact Int.le_refl _
    replace e := cl_s e
    obtain ⟨r9, e9, e⟩ := e
    have y9 : r9 = r3 := r_eq e3 e9
    subst y9
    replace e := (gd_s e).2
    replace e := (gd_s e).2
    replace e := nm_s e
    obtain ⟨h12, w12, e⟩ := e
    replace e := cl_s e
    obtain ⟨r13, e13, e⟩ := e
    replace e := (gd_s e).2
    rw [← Option.some.inj e]
    show (hI h12 rl n).toInt ≤ _
    rw [w12, r_I]
    by_cases z : rl = r9 ∧ n = x1.toNatClampNeg
    · rw [if_pos z, z.1, z.2]
      have z1 : (1 : Int32).toInt = 1 := rfl
      have := i3.1
      have := i3.2
      rw [ts (by rw [z1]; omega), z1]
      omega
    · rw [if_neg z]; exact Int.le_refl _
  obtain ⟨p1, p2, p3, p4, p5, p6, p7, p8, p9, p10, p11, p12, p13⟩ := I
  have lw : LWc (fS [(61, 999)] []) := fun _ => rfl
  exact ⟨ρ, c, exm_0, T', ⟨lwr_f f lw p1, plp_f T r0 f (fun _ _ => rfl) (fun _ _ => rfl) (fun _ _ => rfl) rfl (fun _ => rfl) lw p2, plx_f T r0 f (fun _ _ => rfl) (fun _ _ => rfl) (fun _ _ => rfl) rfl (fun _ => rfl) lw p3, pgx_g T r0 f (fun _ _ => rfl) (fun _ _ => rfl) n61 (fun _ => rfl) (fun _ => rfl) (fun _ _ => rfl) (fun _ _ => rfl) lw p4, gem_f T r0 f (fun _ _ => rfl) (fun _ => rfl) lw p5, get_f T r0 f (fun _ _ => rfl) (fun _ => rfl) (fun _ => rfl) p6, fmm_f T f (fun _ => rfl) (fun _ _ => rfl) p7, rex_f T r0 f (fun _ _ => rfl) (fun _ => rfl) (fun _ => rfl) (fun _ => rfl) (fun _ _ => rfl) rfl rfl (fun _ => rfl) (fun _ => rfl) lw p8, ena_f T r0 f (fun _ _ => rfl) (fun _ _ _ _ _ _ => rfl) (fun _ _ => rfl) (fun _ _ => rfl) (fun _ _ => rfl) lw p9, fmy_f T f (fun _ => rfl) (fun _ _ => rfl) lw p10, lwx_f T f lw (fun _ => rfl) (fun _ => rfl) p11, wya_f T f (fun _ => rfl) (fun _ => rfl) (fun _ => rfl) (fun _ _ => rfl) (fun _ _ => rfl) lw p12, sqa_f f lw p13⟩, rmc_f T r0 f T' (fun _ _ => rfl) (fun _ _ => rfl) (fun _ => rfl) (fun _ => rfl) R, tp_f T r0 f (fun _ => rfl) rfl⟩
/-- all but places -/
theorem ci_pl (T : TH ρ c h) (r0 : ρ x0 = 12) (f : Fr ρ (cat c S h) h o) (s1 : ∀ k w i, clS k = true → k ≠ 58 → k ≠ 4 → k ≠ 34 → k ≠ 36 → S k w i = false) (s2 : ∀ k w i, (k = 4 ∨ k = 34 ∨ k = 36) → (8000 ≤ w ∨ w = 1603) → S k w i = false) (q2 : PlP ρ c x0 o) (q3 : PlX ρ c x0 o) (P : ClI ρ c x0 h) : ClI ρ c x0 o := by
  obtain ⟨p1, p2, p3, p4, p5, p6, p7, p8, p9, p10, p11, p12, p13⟩ := P
  have s : ∀ k w i, clS k = true → k ≠ 58 → k ≠ 4 → k ≠ 34 → k ≠ 36 → S k w i = false := s1
  have lw : LWc S := fun i => s _ _ _ rfl (by decide) (by decide) (by decide) (by decide)
  have a12 : ∀ w i, S 12 w i = false := fun _ _ => s _ _ _ rfl (by decide) (by decide) (by decide) (by decide)
  exact ⟨lwr_f f lw p1, q2, q3, pgx_f T r0 f a12 (fun _ _ => s _ _ _ rfl (by decide) (by decide) (by decide) (by decide)) (fun _ _ => s _ _ _ rfl (by decide) (by decide) (by decide) (by decide)) (fun _ => s2 _ _ _ (by decide) (Or.inl (by omega))) (fun _ => s2 _ _ _ (by decide) (Or.inl (by omega))) (fun _ _ => s2 _ _ _ (by decide) (Or.inl (by omega))) (fun _ _ => s2 _ _ _ (by decide) (Or.inl (by omega))) lw p4, gem_f T r0 f a12 (fun _ => s _ _ _ rfl (by decide) (by decide) (by decide) (by decide)) lw p5, get_f T r0 f a12 (fun _ => s _ _ _ rfl (by decide) (by decide) (by decide) (by decide)) (fun i => s _ _ _ rfl (by decide) (by decide) (by decide) (by decide)) p6, fmm_f T f (fun _ => s _ _ _ rfl (by decide) (by decide) (by decide) (by decide)) (fun _ _ => s _ _ _ rfl (by decide) (by decide) (by decide) (by decide)) p7, rex_f T r0 f a12 (fun _ => s _ _ _ rfl (by decide) (by decide) (by decide) (by decide)) (fun _ => s _ _ _ rfl (by decide) (by decide) (by decide) (by decide)) (fun _ => s _ _ _ rfl (by decide) (by decide) (by decide) (by decide)) (fun _ _ => s _ _ _ rfl (by decide) (by decide) (by decide) (by decide)) (s2 _ _ _ (by decide) (Or.inr rfl)) (s2 _ _ _ (by decide) (Or.inr rfl)) (fun _ => s2 _ _ _ (by decide) (Or.inr rfl)) (fun _ => s2 _ _ _ (by decide) (Or.inr rfl)) lw p8, ena_f T r0 f a12 (fun _ _ _ _ _ _ => s _ _ _ rfl (by decide) (by decide) (by decide) (by decide)) (fun _ _ => s _ _ _ rfl (by decide) (by decide) (by decide) (by decide)) (fun _ _ => s _ _ _ rfl (by decide) (by decide) (by decide) (by decide)) (fun _ _ => s _ _ _ rfl (by decide) (by decide) (by decide) (by decide)) lw p9, fmy_f T f (fun _ => s _ _ _ rfl (by decide) (by decide) (by decide) (by decide)) (fun _ _ => s _ _ _ rfl (by decide) (by decide) (by decide) (by decide)) lw p10, lwx_f T f lw (fun _ => s _ _ _ rfl (by decide) (by decide) (by decide) (by decide)) (fun _ => s _ _ _ rfl (by decide) (by decide) (by decide) (by decide)) p11, wya_f T f (fun _ => s _ _ _ rfl (by decide) (by decide) (by decide) (by decide)) (fun _ => s _ _ _ rfl (by decide) (by decide) (by decide) (by decide)) (fun _ => s _ _ _ rfl (by decide) (by decide) (by decide) (by decide)) (fun _ _ => s _ _ _ rfl (by decide) (by decide) (by decide) (by decide)) (fun _ _ => s _ _ _ rfl (by decide) (by decide) (by decide) (by decide)) lw p12, sqa_f f lw p13⟩
theorem clS_k {k : Nat} {P : Nat → Prop} (z : clS k = true) (n58 : k ≠ 58) (n4 : k ≠ 4) (n34 : k ≠ 34) (n36 : k ≠ 36) (H : P 1 ∧ P 2 ∧ P 7 ∧ P 11 ∧ P 12 ∧ P 20 ∧ P 21 ∧ P 22 ∧ P 30 ∧ P 31 ∧ P 32 ∧ P 48 ∧ P 50 ∧ P 51 ∧ P 53 ∧ P 57 ∧ P 59 ∧ P 61) : P k := by
  obtain ⟨a1, a2, a7, a11, a12, a20, a21, a22, a30, a31, a32, a48, a50, a51, a53, a57, a59, a61⟩ := H
  rcases clS_c z with z | z | z | z | z | z | z | z | z | z | z | z | z | z | z | z | z | z | z | z | z | z <;> subst z
  · exact a1
  · exact a2
  · exact absurd rfl n4
  · exact a7
  · exact a11
  · exact a12
  · exact a20
  · exact a21
  · exact a22
  · exact a30
  · exact a31
  · exact a32
  · exact absurd rfl n34
  · exact absurd rfl n36
  · exact a48
  · exact a50
  · exact a51
  · exact a53
  · exact a57
  · exact absurd rfl n58
  · exact a59
  · exact a61
theorem cw_drop (hF : 700000 ≤ F) (hp : hpC c) (T : TH ρ c h) (r0 : ρ x0 = 12) (I : ClI ρ c x0 h) (R : RmC x0 B h) : Sat (sX11_drop h x0 x1) (CP ρ c x0 B (Tp x0 h)) := sat_and (zX11_drop (c := cat c (fS [(58, 999), (5, 14), (5, 15), (5, 16)] []) h) hF fs_a (th_in _ T) r0 (rg_top _)) fun o e ho => by
  have T' := th_out T (fs_c1 hp rfl) ho.1
  have f := fr_u T ho.1.2.2
  have n58 : ∀ u i, ρ u = 58 → ¬ hI o.2 u i = 0 → ¬ hI h u i = 0 := fun u i ru nz => by
    unfold sX11_drop at e
    replace e := cl_s e
    obtain ⟨o1, e1, e⟩ := e
    have q1 := (sat_e (zX11_isPlace hF T r0 (rg_top _)) e1).1
    rw [q1] at e
    replace e := br_s e
    rcases e with ⟨_, e⟩ | ⟨_, e⟩
    · rw [← Option.some.inj e] at nz; exact nz
    replace e := cl_s e
    obtain ⟨r3, e3, e⟩ := e
    replace e := (gd_s e).2
    replace e := nm_s e
    obtain ⟨h5, w5, e⟩ := e
    replace e := cl_s e
    obtain ⟨r6, e6, e⟩ := e
    have q6 : ρ r6 = 5 := rr T (thR T r0 (i := 11) (k2 := 5) rfl (by decide)) (by rw [w5] at e6; exact e6)
    replace e := cl_s e
    obtain ⟨o7, e7, e⟩ := e
    rw [← Option.some.inj e] at nz
    obtain ⟨_, i7⟩ := fgt_x e7
    have nz : ¬ hI o7 u i = 0 := nz
    rw [i7 u i (fun z => by rw [z, q6] at ru; exact absurd ru (by decide)), w5, r_I] at nz
    by_cases z : u = r3 ∧ i = x1.toNatClampNeg
    · rw [if_pos z] at nz
      exact absurd rfl nz
    · rw [if_neg z] at nz
      exact nz
  have lw : LWc (fS [(58, 999), (5, 14), (5, 15), (5, 16)] []) := fun _ => rfl
  exact ⟨ρ, c, exm_0, T', ci_pl T r0 f (fun k w i z a b d e => clS_k (P := fun k => fS [(58, 999), (5, 14), (5, 15), (5, 16)] [] k w i = false) z a b d e ⟨rfl, rfl, rfl, rfl, rfl, rfl, rfl, rfl, rfl, rfl, rfl, rfl, rfl, rfl, rfl, rfl, rfl, rfl⟩) (fun k w i hk hw => by rcases hk with z | z | z <;> subst z <;> rfl) (plp_g T r0 f (fun _ _ => rfl) (fun _ _ => rfl) n58 rfl (fun _ => rfl) lw I.2.1) (plx_g T r0 f (fun _ _ => rfl) (fun _ _ => rfl) n58 rfl (fun _ => rfl) lw I.2.2.1) I, rmc_f T r0 f T' (fun _ _ => rfl) (fun _ _ => rfl) (fun _ => rfl) (fun _ => rfl) R, tp_f T r0 f (fun _ => rfl) rfl⟩
abbrev GOL : List (Nat × Nat) := [(47, 999), (58, 999), (6, 4), (6, 5), (6, 6), (6, 7), (6, 8), (6, 9)]
theorem big_w {Lo : List (Nat × List (Nat × Nat))} {A : List (Nat × Nat)} (hk : mS A k i = false) (hL : (Lo.all fun p => decide (p.1 < 8000) && !(p.1 == 1603)) = true) (hw : 8000 ≤ w ∨ w = 1603) : fS A Lo k w i = false := by
  unfold fS
  rw [hk, Bool.false_or]
  cases z : (Lo.any fun p => mS p.2 k i && w == p.1) with
  | false => rfl
  | true =>
    rw [List.any_eq_true] at z
    obtain ⟨p, hp, hm⟩ := z
    rw [Bool.and_eq_true, beq_iff_eq] at hm
    have := List.all_eq_true.mp hL p hp
    rw [Bool.and_eq_true, decide_eq_true_eq, Bool.not_eq_true', beq_eq_false_iff_ne] at this
    omega
theorem cw_go (hF : 700000 ≤ F) (hp : hpC c) (T : TH ρ c h) (r0 : ρ x0 = 12) (I : ClI ρ c x0 h) (R : RmC x0 B h) : Sat (sX11_go F h x0 x1 x2) (CP ρ c x0 B (Tp x0 h)) := s_imp (go_x (c := cat c (fS GOL [(1503, SHL), (3200, SHL)]) h) hF fs_a (fs_o (.head _)) (fs_o (.tail _ (.head _))) (th_in _ T) r0 I.1 I.2.1 I.2.2.2.2.2.2.2.2.2.2.1 I.2.2.2.2.2.2.2.2.2.2.2.1 I.2.2.1) fun o ho => by
  have T' := th_out T (fs_c1 hp rfl) ho.1.1
  have f := fr_u T ho.1.1.2.2
  exact ⟨ρ, c, exm_0, T', ci_pl T r0 f (fun k w i z a b d e => clS_k (P := fun k => fS GOL [(1503, SHL), (3200, SHL)] k w i = false) z a b d e ⟨rfl, rfl, rfl, rfl, rfl, rfl, rfl, rfl, rfl, rfl, rfl, rfl, rfl, rfl, rfl, rfl, rfl, rfl⟩) (fun k w i hk hw => by rcases hk with z | z | z <;> subst z <;> exact big_w rfl rfl hw) ho.2.1 ho.2.2 I, rmc_f T r0 f T' (fun _ _ => rfl) (fun _ _ => rfl) (fun _ => rfl) (fun _ => rfl) R, tp_f T r0 f (fun _ => rfl) rfl⟩
theorem cw_beforeAt (hF : 700000 ≤ F) (hp : hpC c) (T : TH ρ c h) (r0 : ρ x0 = 12) (I : ClI ρ c x0 h) (R : RmC x0 B h) : Sat (sX11_beforeAt F h x0 x1) (CP ρ c x0 B (Tp x0 h)) := s_imp (beforeAt_x (c := cat c (SZ e58 (is 3200)) h) hF (sx_c _) (th_in _ T) r0 I.2.1 I.2.2.1 I.2.2.2.2.2.2.2.1) fun o ho => by
  have hs : ∀ k w i, SZ e58 (is 3200) k w i = true → cPm c k w i = true := fun k w i z => hp.1 k w i (sz_clR (fun k i z => by
    unfold e58 at z
    rw [beq_iff_eq] at z
    rw [z]; rfl) k w i z)
  have T' := th_out T hs ho.1
  have f := fr_u T ho.1.2.2
  exact ⟨ρ, c, exm_0, T', ci_pl T r0 f (fun k w i z a b d e => clS_k (P := fun k => SZ e58 (is 3200) k w i = false) z a b d e ⟨rfl, rfl, rfl, rfl, rfl, rfl, rfl, rfl, rfl, rfl, rfl, rfl, rfl, rfl, rfl, rfl, rfl, rfl⟩) (fun k w i hk hw => sz_f (by rcases hk with z | z | z <;> subst z <;> rfl) (by rcases hk with z | z | z <;> subst z <;> rfl) (Or.inr (is_f (by omega)))) ho.2.1 ho.2.2 I, rmc_f T r0 f T' (fun _ _ => rfl) (fun _ _ => rfl) (fun _ => rfl) (fun _ => rfl) R, tp_f T r0 f (fun _ => rfl) rfl⟩
end
