/-! what men become -/
def LB (T : Nat → Int) (N : Int) (Z : Nat → Nat) (man : Int32) (i : Nat) (mine : Int32) (hc hr : Hp) : Prop := PS T N Z (wI hc (Z 31) man.toNatClampNeg 0) hr ∧ (0 ≤ man.toInt ∧ man.toInt < (hI hc (Z 2) 3).toInt) ∧ (hI hc (Z 31) man.toNatClampNeg).toInt = (i : Int) ∧ (∀ j : Nat, j < i → hI hc (Z 30) (6 * man.toNatClampNeg + j) = hI hr (Z 80) (6 * man.toNatClampNeg + j) ∧ Rg 0 11 (hI hr (Z 80) (6 * man.toNatClampNeg + j))) ∧ Rg 0 4095 mine ∧ (¬ man = hI hc (Z 2) 4) ∧ ∀ q : Nat, q < 12 → (Bq mine q ↔ ∃ j : Nat, j < i ∧ (hI hr (Z 80) (6 * man.toNatClampNeg + j)).toInt = (q : Int))
section
variable {T : Nat → Int} {N : Int} {F : Nat} {Z : Nat → Nat} {x2 : Int32} {hc hr oc or hc1 : Hp} {x man mine : Int32} {o o' : Int32 × Hp} {i : Nat}
/-- lookups are as ever -/
theorem pm_w (D : ZD Z) {k : Nat} {v : Int32} (P : PS T N Z (wI hc (Z 31) k v) hr) : PMn T N Z hc hr := by
  obtain ⟨p1, p2, p3, p4, p5, s1, s2, s3, s4, s5, s6⟩ := P
  have w : ∀ {a : Nat}, a ∈ zl → ¬ a = 31 → ∀ j, hI (wI hc (Z 31) k v) (Z a) j = hI hc (Z a) j := fun ha n j => rI_a (zne D n ha)
  refine ⟨p1, p2, ?_, p4, ?_, ?_, ?_, fun j hj => ?_⟩
  · obtain ⟨a1, a2, a3, b, a4, a5, a6⟩ := p3
    have y : b = Z 49 := r_eq p1.2.2.1 a4
    rw [y] at a4 a5 a6
    refine ⟨a1, a2, ?_, Z 49, a4, a5, fun j hj => ?_⟩
    · rw [w (by decide) (by decide)] at a3; exact a3
    · have := a6 j hj
      rw [w (by decide) (by decide)] at this; exact this
  · obtain ⟨p', k', A, B', ek⟩ := p5
    rw [w (by decide) (by decide), w (by decide) (by decide), w (by decide) (by decide), w (by decide) (by decide)] at A
    exact ⟨p', k', A, B', ek⟩
  · have := s2 (3, 2) (by decide)
    rw [w (by decide) (by decide)] at this; exact this
  · rw [w (by decide) (by decide)] at s4; exact s4
  · have := s5 j (by rw [w (by decide) (by decide)]; exact hj)
    rw [w (by decide) (by decide)] at this; exact this
/-- the reference's look at those that stand already -/
theorem bk_0 {k62 : Hp → Nat → Nat → Int32 → Int32 → Int32 → Option (Int32 × Hp)} {x3 x4 x5 : Int32} : ∀ (f : Nat) {x7 : Int32}, sX15_isBecoming_138 F k62 f hr (Z 16) (Z 82) x2 x3 x4 x5 (0 : Int32) x7 = some o' → o' = ((0 : Int32), hr) := by
  intro f
  induction f with
  | zero => intro x7 e; exact absurd e (by rw [sX15_isBecoming_138]; exact fun z => nomatch z)
  | succ f ih =>
    intro x7 e
    rw [sX15_isBecoming_138] at e
    replace e := br_s e
    rcases e with ⟨_, e⟩ | ⟨_, e⟩
    · replace e := br_s e
      rcases e with ⟨_, e⟩ | ⟨n, _⟩
      · exact (Option.some.inj e).symm
      · exact absurd rfl n
    replace e := cl_s e
    obtain ⟨r9, _, e⟩ := e
    replace e := cl_s e
    obtain ⟨r10, _, e⟩ := e
    replace e := (gd_s e).2
    have go : ∀ {t0 : Int32}, sX15_isBecoming_172 F k62 (sX15_isBecoming_138 F k62 f) hr (Z 16) (Z 82) x2 x3 x4 x5 x7 t0 (0 : Int32) = some o' → o' = ((0 : Int32), hr) := fun {t0} e => by
      unfold sX15_isBecoming_172 at e
      replace e := nm_s e
      obtain ⟨v1, w1, e⟩ := e
      replace e := nm_s e
      obtain ⟨v2, _, e⟩ := e
      have z : v1 = 0 := by
        rw [w1]
        apply Int32.toBitVec_inj.mp
        rw [Int32.toBitVec_and]
        exact BitVec.zero_and
      rw [z] at e
      exact ih e
    replace e := br_s e
    rcases e with ⟨_, e⟩ | ⟨_, e⟩
    · exact go e
    · exact go e
theorem bk_1 (R : ZR Z hr) {k62 : Hp → Nat → Nat → Int32 → Int32 → Int32 → Option (Int32 × Hp)} {x3 x4 x5 : Int32} (x30 : 0 ≤ x3.toInt ∧ x3.toInt < 12) (x40 : 0 ≤ x4.toInt ∧ x4.toInt ≤ 6) : ∀ (f : Nat) {x7 : Int32}, 0 ≤ x7.toInt → x7.toInt ≤ x4.toInt → sX15_isBecoming_138 F k62 f hr (Z 16) (Z 82) x2 x3 x4 x5 (1 : Int32) x7 = some o' → (o' = ((0 : Int32), hr) ∧ ∃ j : Nat, x7.toInt ≤ (j : Int) ∧ (j : Int) < x4.toInt ∧ hI hr (Z 80) (6 * x3.toNatClampNeg + j) = x5) ∨ ((∀ j : Nat, x7.toInt ≤ (j : Int) → (j : Int) < x4.toInt → ¬ hI hr (Z 80) (6 * x3.toNatClampNeg + j) = x5) ∧ ∃ o8 : Hp, sX15_nextToken F (wI hr (Z 80) (6 * x3.toNatClampNeg + x4.toNatClampNeg) x5) (Z 16) (Z 82) x2 = some o8 ∧ k62 o8 (Z 16) (Z 82) x2 x3 (x4 + (1 : Int32)) = some o') := by
  have z1 : (1 : Int32).toInt = 1 := rfl
  have z6 : (6 : Int32).toInt = 6 := rfl
  have m6 : ((6 : Int32) * x3).toInt = 6 * x3.toInt := by rw [tm (by rw [z6]; omega), z6]
  have n3 := nc_i x30.1
  have n4 := nc_i x40.1
  intro f
  induction f with
  | zero => intro x7 _ _ e; exact absurd e (by rw [sX15_isBecoming_138]; exact fun z => nomatch z)
  | succ f ih =>
    intro x7 x70 x74 e
    rw [sX15_isBecoming_138] at e
    replace e := br_s e
    rcases e with ⟨l, e⟩ | ⟨l, e⟩
    · have l := le_i l
      replace e := br_s e
      rcases e with ⟨n, _⟩ | ⟨_, e⟩
      · exact absurd n (by decide)
      replace e := cl_s e
      obtain ⟨r3, e3, e⟩ := e
      rw [r_eq R.1 e3] at e
      replace e := cl_s e
      obtain ⟨r4, e4, e⟩ := e
      rw [r_eq R.2.2.2.2.2.2.2.2.1 e4] at e
      replace e := (gd_s e).2
      replace e := nm_s e
      obtain ⟨h6, w6, e⟩ := e
      replace e := nm_s e
      obtain ⟨v7, w7, e⟩ := e
      replace e := cl_s e
      obtain ⟨o8, e8, e⟩ := e
      have ad : (((6 : Int32) * x3) + x4).toInt = 6 * x3.toInt + x4.toInt := by rw [ta (by rw [m6]; omega), m6]
      have na := nc_i (x := ((6 : Int32) * x3) + x4) (by omega)
      have w : (((6 : Int32) * x3) + x4).toNatClampNeg = 6 * x3.toNatClampNeg + x4.toNatClampNeg := by omega
      rw [w6, w] at e8
      rw [w7] at e
      exact Or.inr ⟨fun j j1 j2 => by omega, o8, e8, e⟩
    have l := nle_i l
    replace e := cl_s e
    obtain ⟨r9, e9, e⟩ := e
    rw [r_eq R.1 e9] at e
    replace e := cl_s e
    obtain ⟨r10, e10, e⟩ := e
    rw [r_eq R.2.2.2.2.2.2.2.2.1 e10] at e
    replace e := (gd_s e).2
    have n7 := nc_i x70
    have ad : (((6 : Int32) * x3) + x7).toInt = 6 * x3.toInt + x7.toInt := by rw [ta (by rw [m6]; omega), m6]
    have na := nc_i (x := ((6 : Int32) * x3) + x7) (by omega)
    have w : (((6 : Int32) * x3) + x7).toNatClampNeg = 6 * x3.toNatClampNeg + x7.toNatClampNeg := by omega
    rw [w] at e
    replace e := br_s e
    rcases e with ⟨b, e⟩ | ⟨b, e⟩
    · unfold sX15_isBecoming_172 at e
      replace e := nm_s e
      obtain ⟨v1, w1, e⟩ := e
      replace e := nm_s e
      obtain ⟨v2, _, e⟩ := e
      have z : v1 = 0 := by rw [w1]; decide
      rw [z] at e
      exact Or.inl ⟨bk_0 f e, x7.toNatClampNeg, by omega, by omega, b⟩
    · unfold sX15_isBecoming_172 at e
      replace e := nm_s e
      obtain ⟨v1, w1, e⟩ := e
      replace e := nm_s e
      obtain ⟨v2, w2, e⟩ := e
      have z : v1 = 1 := by rw [w1]; decide
      rw [z] at e
      have t2 : v2.toInt = x7.toInt + 1 := by rw [w2, ta (by rw [z1]; omega), z1]
      rcases ih (by omega) (by omega) e with ⟨a1, j, a2, a3, a4⟩ | ⟨a1, a2⟩
      · exact Or.inl ⟨a1, j, by omega, a3, a4⟩
      · refine Or.inr ⟨fun j j1 j2 => ?_, a2⟩
        by_cases y : (j : Int) = x7.toInt
        · have yy : j = x7.toNatClampNeg := by omega
          rw [yy]; exact b
        · exact a1 j (by omega) j2
end
