/-! rules of the reference -/
section
variable {ρ : Nat → Nat} {c : Cm} {x0 F : Nat} {h g : Hp} {B : Nat × Nat}
theorem ru_56 {s : Nat} {o : Int32 × Hp} (qs : ρ s = 85) (r0 : ρ x0 = 16) : ∀ (f : Nat) {h : Hp} {x2 : Int32}, (∀ r, hR h x0 39 = some r → ρ r = 94) → sX15_rules_56 F f h x0 x2 = some o → hI o.2 x0 50 = 0 ∧ hI o.2 x0 44 = 0 ∧ hI o.2 x0 65 = 0 ∧ ∀ i, hI o.2 s i = hI h s i := by
  have ne : ∀ {a d p q : Nat}, ρ a = p → ρ d = q → p ≠ q → ¬ a = d := fun ha hd hpq z => hpq (by rw [← ha, z]; exact hd)
  intro f
  induction f with
  | zero => intro h x2 _ e; exact absurd e (by simp [sX15_rules_56])
  | succ f ih =>
    intro h x2 q94 e
    unfold sX15_rules_56 at e
    replace e := br_s e; rcases e with ⟨_, e⟩ | ⟨_, e⟩
    · replace e := nm_s e; obtain ⟨h2, w2, e⟩ := e
      replace e := nm_s e; obtain ⟨h3, w3, e⟩ := e
      replace e := nm_s e; obtain ⟨h4, w4, e⟩ := e
      replace e := cl_s e; obtain ⟨_, _, e⟩ := e
      rw [← Option.some.inj e]
      refine ⟨?_, ?_, ?_, fun i => ?_⟩
      · show hI h4 x0 50 = 0
        rw [w4, rI_o (by decide), w3, rI_o (by decide), w2, rI_s]
      · show hI h4 x0 44 = 0
        rw [w4, rI_o (by decide), w3, rI_s]
      · show hI h4 x0 65 = 0
        rw [w4, rI_s]
      · show hI h4 s i = _
        rw [w4, rI_a (ne qs r0 (by decide)), w3, rI_a (ne qs r0 (by decide)), w2, rI_a (ne qs r0 (by decide))]
    replace e := cl_s e; obtain ⟨r6, e6, e⟩ := e
    replace e := (gd_s e).2
    replace e := nm_s e; obtain ⟨h8, w8, e⟩ := e
    replace e := nm_s e; obtain ⟨_, _, e⟩ := e
    obtain ⟨a1, a2, a3, a4⟩ := ih (h := h8) (fun r er => q94 r (by rw [w8] at er; exact er)) e
    exact ⟨a1, a2, a3, fun i => by rw [a4, w8, rI_a (ne qs (q94 r6 e6) (by decide))]⟩
theorem ru_35 {s : Nat} {o : Int32 × Hp} (qs : ρ s = 85) (r0 : ρ x0 = 16) : ∀ (f : Nat) {h : Hp} {x2 : Int32}, hR h x0 15 = some s → (∀ r, hR h x0 39 = some r → ρ r = 94) → 0 ≤ x2.toInt → (∀ i : Nat, (i : Int) < x2.toInt → hI h s i = 0) → sX15_rules_35 F f h x0 x2 = some o → hI o.2 x0 50 = 0 ∧ hI o.2 x0 44 = 0 ∧ hI o.2 x0 65 = 0 ∧ ∀ i, i < 60 → hI o.2 s i = 0 := by
  have z60 : (60 : Int32).toInt = 60 := rfl
  have z1 : (1 : Int32).toInt = 1 := rfl
  intro f
  induction f with
  | zero => intro h x2 _ _ _ _ e; exact absurd e (by simp [sX15_rules_35])
  | succ f ih =>
    intro h x2 es q94 a2 C e
    unfold sX15_rules_35 at e
    replace e := br_s e; rcases e with ⟨l, e⟩ | ⟨l, e⟩
    · have l := le_i l
      obtain ⟨a1, a2', a3, a4⟩ := ru_56 qs r0 F q94 e
      exact ⟨a1, a2', a3, fun i hi => by rw [a4]; exact C i (by omega)⟩
    have l := nle_i l
    replace e := cl_s e; obtain ⟨s', es', e⟩ := e
    have y : s' = s := r_eq es es'
    subst y
    replace e := (gd_s e).2
    replace e := nm_s e; obtain ⟨h4, w4, e⟩ := e
    replace e := nm_s e; obtain ⟨v5, w5, e⟩ := e
    have t5 : v5.toInt = x2.toInt + 1 := by rw [w5, ta (by rw [z1]; omega), z1]
    have c2 := nc_i a2
    refine ih (h := h4) (by rw [w4]; exact es) (fun r er => q94 r (by rw [w4] at er; exact er)) (by omega) (fun i hi => ?_) e
    rw [w4, r_I]
    by_cases z : i = x2.toNatClampNeg
    · rw [if_pos ⟨rfl, z⟩]
    · rw [if_neg (fun w => z w.2)]; exact C i (by omega)
abbrev irA : List (Nat × Nat) := [(73, 999), (74, 999), (75, 999), (76, 999), (77, 999), (78, 999), (79, 999), (80, 999), (81, 999), (15, 0), (15, 1), (15, 2), (15, 10), (15, 11), (15, 12), (15, 15), (15, 16), (15, 17), (15, 18), (15, 19), (15, 20), (15, 21), (15, 22), (15, 23), (16, 6), (16, 7), (16, 8), (16, 9), (16, 10)]
abbrev tkA : List (Nat × Nat) := [(16, 4), (16, 5), (16, 11), (16, 12), (16, 13)]
abbrev rsA : List (Nat × Nat) := [(85, 999), (94, 999), (16, 44), (16, 50), (16, 65)]
theorem rw_rules (hF : 700000 ≤ F) (hp : hpR c) (hl : hlR c) (T : TH ρ c h) (r0 : ρ x0 = 16) (P : RfI x0 h) (M : RmR x0 B h) : Sat (sX15_rules F h x0) (RP ρ c x0 B (fun o => hI o x0 1 = 0)) := by
  unfold sX15_rules
  refine s_q (fun v ev => ?_)
  have iv : Rg 0 1200 v := by rw [ev]; exact thI T r0 rfl
  refine s_hq (th_wI T r0 (k := 16) (lo := 0) (hi := 1200) rfl (rg_m (rg_b rfl : Rg 0 0 (0 : Int32)) (by decide)) (by decide) (by decide) (hp 16 _ 1 rfl (fun z => absurd z.2 (by decide)))) (fun h2 T2 w2 => ?_)
  obtain ⟨P2, M2, z2⟩ := tp_w hp T r0 P M T2 w2
  obtain ⟨r3, e3, q3⟩ := thR T2 r0 (i := 0) (k2 := 82) rfl (by decide)
  refine s_ref e3 ?_
  refine s_cIfq (S := fS irA []) T2 (fs_rl hp hl rfl) (zX15_isRules hF fs_a (th_in _ T2) r0 q3 iv) (fun o4 T4 i4 f4 p4 => ?_)
  have P4 := rfi_f T2 r0 f4 (ok_bad (A := irA) (L := []) rfl) P2
  have M4 : RmR x0 B o4.2 := rmr_f T2 r0 f4 (T4.1.1.trans T2.1.1.symm) (fun _ => rfl) (fun _ => rfl) (fun _ => rfl) (fun _ => rfl) (fun _ => rfl) (fun _ _ => rfl) (fun _ _ => rfl) (fun _ _ => rfl) (fun _ _ => rfl) M2
  have t4 : hI o4.2 x0 1 = 0 := by rw [(fr_RI f4 r0 (by decide) (fun _ => rfl)).1]; exact z2
  refine s_br (fun _ => s_some ⟨ρ, c, ex_0, T4, P4, M4, t4⟩) (fun n4 => ?_)
  refine s_cVfq (S := fS tkA []) T4 (fs_rl hp hl rfl) (zX15_take hF fs_a (th_in _ T4) r0 (p4 (fun z => n4 (Int32.toInt_inj.mp z)))) (fun o6 T6 f6 sq6 => ?_)
  have M6 : RmR x0 B o6 := rmr_f T4 r0 f6 (T6.1.1.trans T4.1.1.symm) (fun _ => rfl) (fun _ => rfl) (fun _ => rfl) (fun _ => rfl) (fun _ => rfl) (fun _ _ => rfl) (fun _ _ => rfl) (fun _ _ => rfl) (fun _ _ => rfl) M4
  have t6 : hI o6 x0 1 = 0 := by rw [(fr_RI f6 r0 (by decide) (fun _ => rfl)).1]; exact t4
  obtain ⟨_, ⟨B1, p2⟩, ⟨B2, p3⟩, p5, p6, ⟨B3, p7⟩, _, p8⟩ := P4
  obtain ⟨B1', b6⟩ := bdy_ex T4 r0 f6 ⟨fun _ => rfl, fun _ => rfl, fun _ _ => rfl, fun _ _ => rfl, fun _ _ => rfl, fun _ => rfl, fun _ => rfl, fun _ => rfl⟩ p2
  obtain ⟨B2', g6⟩ := gay_ex T4 r0 f6 ⟨fun _ => rfl, fun _ _ => rfl, fun j _ => ⟨fun _ _ => rfl, fun _ => rfl, fun _ => rfl, fun _ => rfl⟩⟩ p8 p3
  have d6 := dpp_f T4 r0 f6 ⟨fun _ => rfl, fun _ => rfl, fun _ _ => rfl, fun _ _ => rfl⟩ p5
  obtain ⟨B3', fd6⟩ := fdy_ex T4 r0 f6 ⟨fun _ => rfl, fun _ _ => rfl, fun j => ⟨fun _ _ => rfl, fun _ => rfl, fun _ => rfl, fun _ => rfl⟩⟩ ⟨fun _ => rfl, fun _ _ => rfl⟩ ⟨fun _ => rfl, fun _ _ => rfl⟩ (fun _ => rfl) p7
  have n6 := nog_f T4 r0 f6 (fun _ => rfl) (fun _ _ _ => rfl) p8
  obtain ⟨s, es, qs⟩ := thR T6 r0 (i := 15) (k2 := 85) rfl (by decide)
  have q94 : ∀ r, hR o6 x0 39 = some r → ρ r = 94 := fun r er => rr T6 (thR T6 r0 (i := 39) (k2 := 94) rfl (by decide)) er
  have m9 : Rg 0 60 (0 : Int32) := rg_m (rg_b rfl : Rg 0 0 (0 : Int32)) (by decide)
  obtain ⟨o, eo, z⟩ := zX15_rules_35 (c := cat c (fS rsA []) o6) hF fs_a F (th_in _ T6) r0 m9 (by have : (0 : Int32).toInt = 0 := rfl; rw [this]; omega)
  have T7 := th_out T6 (fs_r hp rfl) z.1
  have f := fr_u T6 z.1.2.2
  obtain ⟨x50, x44, x65, xs⟩ := ru_35 qs r0 F es q94 (by decide) (fun i hi => absurd hi (by show ¬ (i : Int) < 0; omega)) eo
  have es7 : hR o.2 x0 15 = some s := by rw [(fr_RI f r0 (by decide) (fun _ => rfl)).2.2]; exact es
  obtain ⟨ra, ea, qa⟩ := thR T6 r0 (i := 14) (k2 := 84) rfl (by decide)
  have ea7 : hR o.2 x0 14 = some ra := by rw [(fr_RI f r0 (by decide) (fun _ => rfl)).2.2]; exact ea
  obtain ⟨rf, ef, qf⟩ := thR T6 r0 (i := 40) (k2 := 95) rfl (by decide)
  have ef7 : hR o.2 x0 40 = some rf := by rw [(fr_RI f r0 (by decide) (fun _ => rfl)).2.2]; exact ef
  have z0 : (0 : Int32).toInt = 0 := rfl
  refine ⟨o, eo, ρ, c, ex_0, T7, ⟨sq_fr T6 r0 f (fun _ => rfl) (fun _ => rfl) (fun _ => rfl) sq6, ?_, ?_, dpp_f T6 r0 f ⟨fun _ => rfl, fun _ => rfl, fun _ _ => rfl, fun _ _ => rfl⟩ d6, fun n => ?_, ?_, fun n => absurd x50 n, nog_f T6 r0 f (fun _ => rfl) (fun _ _ _ => rfl) n6⟩, rmr_f T6 r0 f (T7.1.1.trans T6.1.1.symm) (fun _ => rfl) (fun _ => rfl) (fun _ => rfl) (fun _ => rfl) (fun _ => rfl) (fun _ _ => rfl) (fun _ _ => rfl) (fun _ _ => rfl) (fun _ _ => rfl) M6, by show hI o.2 x0 1 = 0; rw [(fr_RI f r0 (by decide) (fun _ => rfl)).1]; exact t6⟩
  · refine ⟨(o.2.1.1 + 5 * nuC o.2 ra 60, o.2.1.2 + 162 * nuC o.2 ra 60), fun r s' e1 e2 i hi hs => ?_, fun r e1 i j a b ne ea' eb' k hk Ma Mb m1 m2 => ?_, fun r' e' => ?_⟩
    · have y : s' = s := r_eq es7 e2
      rw [y, xs i hi] at hs
      exact absurd (by decide : (0 : Int32) ≤ 0) hs
    · have y : r = ra := r_eq ea7 e1
      subst y
      rw [(fr_RI f qa (by decide) (fun _ => rfl)).2.2] at ea' eb'
      have qa' := thRn T6 qa (k2 := 13) rfl (by decide) ea'
      have qb' := thRn T6 qa (k2 := 13) rfl (by decide) eb'
      rw [(fr_RI f qa' (by decide) (fun _ => rfl)).2.2] at m1
      rw [(fr_RI f qb' (by decide) (fun _ => rfl)).2.2] at m2
      exact b6.2.1 r ea i j a b ne ea' eb' k hk Ma Mb m1 m2
    · have y : r' = ra := r_eq ea7 e'
      subst y
      exact ⟨Nat.le_refl _, Nat.le_refl _⟩
  · exact gay_ex T6 r0 f ⟨fun _ => rfl, fun _ _ => rfl, fun j _ => ⟨fun _ _ => rfl, fun _ => rfl, fun _ => rfl, fun _ => rfl⟩⟩ n6 g6
  · rw [x65] at n
    exact absurd (by decide : (0 : Int32) ≤ 0) n
  · refine ⟨(o.2.1.1 + 5 * nuC o.2 rf 3000, o.2.1.2 + 162 * nuC o.2 rf 3000), fun r er i hi => ?_, fun k hk => ?_, ⟨fun k b Bb => ?_, fun r' e' => ?_⟩, tx_fr T6 r0 f ⟨fun _ => rfl, fun _ _ => rfl⟩ fd6.2.2.2⟩
    · rw [x44, z0] at hi; omega
    · rw [x44, z0] at hk; omega
    · have B0 := (fbo_fr T6 r0 f (fun _ => rfl) (fun _ => rfl)).mpr Bb
      obtain ⟨k1, k2⟩ := fbo_r T6 r0 B0
      exact pz_fr T6 k1 f (fun _ _ => rfl) (fun _ => rfl) (fun _ => rfl) (fun _ => rfl) (fd6.2.2.1.1 k b B0)
    · have y : r' = rf := r_eq ef7 e'
      subst y
      exact ⟨Nat.le_refl _, Nat.le_refl _⟩
end
