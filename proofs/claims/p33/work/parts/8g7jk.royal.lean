/-! the ROYAL man's square, and whether it is attacked -/
theorem roa_u {x y : Int32} {M : Nat → Int} {ro : Int} {d : Nat} (hd : d < 2) (U : UnM M ro) (a : RoA x M ro d) (b : RoA y M ro d) : x = y := by
  have sx : ∀ {z : Int32}, Rg 0 63 z → (z.toNatClampNeg : Int) = z.toInt ∧ z.toNatClampNeg < 64 := fun {z} i => by
    have h1 := nc_i i.1
    have h2 := i.2
    omega
  rcases a with ⟨a1, a2⟩ | ⟨a1, a2, a3⟩
  · rcases b with ⟨b1, _⟩ | ⟨b1, b2, b3⟩
    · rw [a1, b1]
    · exact absurd b3 (a2 _ (sx b1).2 b2)
  · rcases b with ⟨_, b2⟩ | ⟨b1, b2, b3⟩
    · exact absurd a3 (b2 _ (sx a1).2 a2)
    · have := U a2 d _ _ hd (sx a1).2 (sx b1).2 a3 b3
      exact Int32.toInt_inj.mp (by have := (sx a1).1; have := (sx b1).1; omega)
section
variable {F : Nat} {V : Nat → Nat} {h : Hp} {L : Nat → Nat → Int} {M : Nat → Int} {o : Int32 × Hp}
theorem roy_2 {sd : Int32} {d : Nat} (H : LOk L) (HM : MOk L M) (W : RWd V h L M) (iro : -1 ≤ L 10 0 ∧ L 10 0 ≤ 11) (ed : sd.toInt = (d : Int)) (hd : d < 2) : ∀ (f : Nat) {x3 : Int32}, 0 ≤ x3.toInt → (∀ s : Nat, (s : Int) < x3.toInt → 0 ≤ L 10 0 → ¬ M s = 1 + 2 * L 10 0 + d) → sX15_royalOf_2 F f h (V 16) (V 13) sd x3 = some o → o.2 = h ∧ RoA o.1 M (L 10 0) d := by
  have z1 : (1 : Int32).toInt = 1 := rfl
  have z2 : (2 : Int32).toInt = 2 := rfl
  have zm : (-1 : Int32).toInt = -1 := by decide
  have sq := sq_64 H
  have l10 := lw_0 W (k := 10) (by decide) 0
  intro f
  induction f with
  | zero => intro x3 _ _ e; exact absurd e (by rw [sX15_royalOf_2]; exact fun z => nomatch z)
  | succ f ih =>
    intro x3 a3 no e
    have c3 := nc_i a3
    rw [sX15_royalOf_2] at e
    unfold sX15_royalOf_49 at e
    have g4 := W.2.1.2.2.2
    rcases br_s e with ⟨l, e⟩ | ⟨l, e⟩
    · have l := le_i l
      rw [g4] at l
      rw [so_e e]
      refine ⟨rfl, Or.inl ⟨rfl, fun s hs r z => ?_⟩⟩
      have := ((HM s hs).2 (by omega)).1
      exact no s (by omega) r z
    have l := nle_i l
    rw [g4] at l
    replace e := ce_e W.1.1 e
    rcases br_s e with ⟨c, e⟩ | ⟨c, e⟩
    · rw [so_e e]
      refine ⟨rfl, Or.inl ⟨rfl, fun s hs r z => ?_⟩⟩
      rw [c, zm] at l10
      omega
    have r0 : 0 ≤ L 10 0 := by
      have : ¬ L 10 0 = -1 := fun z => c (Int32.toInt_inj.mp (by rw [l10, z, zm]))
      omega
    replace e := ce_e W.2.2.1 e
    replace e := gg_e e
    replace e := ce_e W.1.1 e
    unfold sX15_valueOf at e
    replace e := cl_s e; obtain ⟨o7, eo7, e⟩ := e
    rw [so_e eo7] at e
    have t2 : ((2 : Int32) * (hI h (V 15) 10)).toInt = 2 * L 10 0 := by rw [tm (by rw [z2, l10]; omega), z2, l10]
    have t3 : ((1 : Int32) + ((2 : Int32) * (hI h (V 15) 10))).toInt = 1 + 2 * L 10 0 := by rw [ta (by rw [z1, t2]; omega), z1, t2]
    have t4 : (((1 : Int32) + ((2 : Int32) * (hI h (V 15) 10))) + sd).toInt = 1 + 2 * L 10 0 + d := by rw [ta (by rw [t3, ed]; omega), t3, ed]
    have mv : (hI h (V 62) x3.toNatClampNeg).toInt = M x3.toNatClampNeg := by rw [← W.2.2.2]; rfl
    rcases br_s e with ⟨q, e⟩ | ⟨q, e⟩
    · rw [so_e e]
      refine ⟨rfl, Or.inr ⟨⟨a3, by show x3.toInt ≤ 63; omega⟩, r0, ?_⟩⟩
      show M x3.toNatClampNeg = _
      rw [← mv, q]
      exact t4
    · refine ih (by rw [ta (by rw [z1]; omega), z1]; omega) (fun s hs r z => ?_) (nx_e e)
      rw [ta (by rw [z1]; omega), z1] at hs
      by_cases y : s = x3.toNatClampNeg
      · rw [y] at z
        exact q (Int32.toInt_inj.mp (by rw [mv, z]; exact t4.symm))
      · exact no s (by omega) r z
theorem roy_r {sd : Int32} {d : Nat} (H : LOk L) (HM : MOk L M) (W : RWd V h L M) (iro : -1 ≤ L 10 0 ∧ L 10 0 ≤ 11) (ed : sd.toInt = (d : Int)) (hd : d < 2) (e : sX15_royalOf F h (V 16) (V 13) sd = some o) : o.2 = h ∧ RoA o.1 M (L 10 0) d := by
  unfold sX15_royalOf at e
  have z0 : (0 : Int32).toInt = 0 := rfl
  exact roy_2 H HM W iro ed hd F (by decide) (fun s hs => by rw [z0] at hs; omega) e
/-- the ROYAL man of a side stands attacked -/
def RyH (L : Nat → Nat → Int) (M : Nat → Int) (d : Nat) : Prop := ∃ s : Nat, s < 64 ∧ 0 ≤ L 10 0 ∧ M s = 1 + 2 * L 10 0 + d ∧ AttP L M (1 - (d : Int)) s
theorem ryh_c {sd : Int32} {d : Nat} (H : LOk L) (HM : MOk L M) (U : UnM M (L 10 0)) (w6 : hR h (V 6) 1 = some (V 11)) (wc : WCf V h) (T : WyT L V h) (Pc : VPc V h) (P : PosC h (V 34) (V 35) (V 36) M (L 10 0)) (ed : sd.toInt = (d : Int)) (hd : d < 2) (e : sX5_isRoyalHit F h (V 6) (V 4) sd = some o) : o.2 = h ∧ ((o.1 = 0 ∧ ¬ RyH L M d) ∨ (o.1 = 1 ∧ RyH L M d)) := by
  have z1 : (1 : Int32).toInt = 1 := rfl
  have cd : sd.toNatClampNeg = d := by have := nc_i (x := sd) (by omega); omega
  have ra := P.2.2.1 d hd
  unfold sX5_isRoyalHit sX5_isRoyalHit_31 sX5_isRoyalHit_32 at e
  replace e := ce_e Pc.2.2.1 e
  replace e := gg_e e
  rw [cd] at e
  rcases br_s e with ⟨c, e⟩ | ⟨c, e⟩
  · rw [so_e (gg_e e)]
    refine ⟨rfl, Or.inl ⟨rfl, ?_⟩⟩
    rintro ⟨s, hs, r, m, _⟩
    rcases ra with ⟨_, a⟩ | ⟨a, _⟩
    · exact a s hs r m
    · rw [c] at a; exact absurd a.1 (by decide)
  · rcases ra with ⟨a, _⟩ | ⟨a1, a2, a3⟩
    · exact absurd a c
    have ca := nc_i a1.1
    have a63 := a1.2
    replace e := ce_e Pc.2.2.1 e
    replace e := gg_e e
    rw [cd] at e
    replace e := cl_s e; obtain ⟨o6, eo6, e⟩ := e
    have t1 : ((1 : Int32) - sd).toInt = 1 - (d : Int) := by rw [ts (by rw [z1, ed]; omega), z1, ed]
    obtain ⟨q1, q2⟩ := hit_c H HM w6 wc T Pc P a1.1 (by omega) ⟨by rw [t1]; omega, by rw [t1]; omega⟩ eo6
    rw [t1] at q2
    rw [q1] at e
    rcases br_s e with ⟨c', e⟩ | ⟨c', e⟩
    · rw [so_e (gg_e e)]
      refine ⟨rfl, Or.inl ⟨rfl, ?_⟩⟩
      rintro ⟨s, hs, r, m, at'⟩
      rcases q2 with ⟨_, y⟩ | ⟨y, _⟩
      · have es := U r d s _ hd hs (by omega) m a3
        rw [es] at at'
        exact y at'
      · rw [y] at c'; exact absurd c' (by decide)
    · rw [so_e (gg_e e)]
      refine ⟨rfl, Or.inr ⟨rfl, _, by omega, a2, a3, ?_⟩⟩
      rcases q2 with ⟨y, _⟩ | ⟨_, y⟩
      · exact absurd y c'
      · exact y
end
