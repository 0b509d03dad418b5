/-! keys of SETS as digits -/
def K5 (D : Nat → Int) : Int := D 0 + 32 * D 1 + 1024 * D 2 + 32768 * D 3 + 1048576 * D 4
def D24 (D : Nat → Int) : Prop := ∀ i, 0 ≤ D i ∧ D i ≤ 24
/-- a digit less, a digit more -/
def dgo (D : Nat → Int) (k : Nat) : Nat → Int := fun j => if j = 4 then 0 else if j < k then D j else D (j + 1)
def dgi (D : Nat → Int) (k : Nat) (v : Int) : Nat → Int := fun j => if j < k then D j else if j = k then v else D (j - 1)
section
variable {h : Hp} {x x1 : Int32} {F : Nat} {D : Nat → Int} {o : Int32 × Hp}
theorem k5_b (g : D24 D) (e : x.toInt = K5 D) : 0 ≤ x.toInt ∧ x.toInt ≤ 33554431 := by
  have g0 := g 0
  have g1 := g 1
  have g2 := g 2
  have g3 := g 3
  have g4 := g 4
  unfold K5 at e
  omega
theorem dig_k (g : D24 D) (e : x.toInt = K5 D) {s : Int32} (i : Rg 0 4 s) : ((x >>> (((5 : Int32) * s) &&& 31)) &&& (31 : Int32)).toInt = D s.toNatClampNeg := by
  have b := k5_b g e
  have g0 := g 0
  have g1 := g 1
  have g2 := g 2
  have g3 := g 3
  have g4 := g 4
  unfold K5 at e
  rcases i32_04 i with w | w | w | w | w <;> subst w
  · have d := dig_i b.1 0 ((5 : Int32) * 0) rfl
    rw [d]
    show x.toInt / 1 % 32 = D 0
    omega
  · have d := dig_i b.1 5 ((5 : Int32) * 1) rfl
    rw [d]
    show x.toInt / 32 % 32 = D 1
    omega
  · have d := dig_i b.1 10 ((5 : Int32) * 2) rfl
    rw [d]
    show x.toInt / 1024 % 32 = D 2
    omega
  · have d := dig_i b.1 15 ((5 : Int32) * 3) rfl
    rw [d]
    show x.toInt / 32768 % 32 = D 3
    omega
  · have d := dig_i b.1 20 ((5 : Int32) * 4) rfl
    rw [d]
    show x.toInt / 1048576 % 32 = D 4
    omega
theorem wo_k (g : D24 D) (e : x.toInt = K5 D) (i : Rg 0 4 x1) (eo : sX0_without h x x1 = some o) : o.2 = h ∧ o.1.toInt = K5 (dgo D x1.toNatClampNeg) := by
  have b := k5_b g e
  have g0 := g 0
  have g1 := g 1
  have g2 := g 2
  have g3 := g 3
  have g4 := g 4
  unfold K5 at e
  unfold sX0_without at eo
  replace eo := nm_s eo
  obtain ⟨v, ev, eo⟩ := eo
  rw [← Option.some.inj eo]
  refine ⟨rfl, ?_⟩
  rcases i32_04 i with w | w | w | w | w <;> subst w <;> subst ev
  · refine (wo_one (m := 0) rfl rfl (by decide) rfl b.1 b.2).trans ?_
    show x.toInt % 1 + x.toInt / 32 * 1 = D 1 + 32 * D 2 + 1024 * D 3 + 32768 * D 4 + 1048576 * 0
    omega
  · refine (wo_one (m := 5) rfl rfl (by decide) rfl b.1 b.2).trans ?_
    show x.toInt % 32 + x.toInt / 1024 * 32 = D 0 + 32 * D 2 + 1024 * D 3 + 32768 * D 4 + 1048576 * 0
    omega
  · refine (wo_one (m := 10) rfl rfl (by decide) rfl b.1 b.2).trans ?_
    show x.toInt % 1024 + x.toInt / 32768 * 1024 = D 0 + 32 * D 1 + 1024 * D 3 + 32768 * D 4 + 1048576 * 0
    omega
  · refine (wo_one (m := 15) rfl rfl (by decide) rfl b.1 b.2).trans ?_
    show x.toInt % 32768 + x.toInt / 1048576 * 32768 = D 0 + 32 * D 1 + 1024 * D 2 + 32768 * D 4 + 1048576 * 0
    omega
  · refine (wo_one (m := 20) rfl rfl (by decide) rfl b.1 b.2).trans ?_
    show x.toInt % 1048576 + x.toInt / 33554432 * 1048576 = D 0 + 32 * D 1 + 1024 * D 2 + 32768 * D 3 + 1048576 * 0
    omega
/-- where with puts him -/
theorem wi_k (g : D24 D) (d4 : D 4 = 0) (e : x.toInt = K5 D) (i : Rg 0 23 x1) (eo : sX0_with F h x x1 = some o) : o.2 = h ∧ ∃ p, p ≤ 4 ∧ (∀ j, j < p → ¬ D j = 0 ∧ D j ≤ x1.toInt + 1) ∧ (D p = 0 ∨ x1.toInt + 1 < D p) ∧ o.1.toInt = K5 (dgi D p (x1.toInt + 1)) := by
  have b := k5_b g e
  have g0 := g 0
  have g1 := g 1
  have g2 := g 2
  have g3 := g 3
  have i0 := i.1
  have i1 := i.2
  have z1 : (1 : Int32).toInt = 1 := rfl
  have ev : (x1 + (1 : Int32)).toInt = x1.toInt + 1 := by rw [ta (by rw [z1]; omega), z1]
  have iv : Rg 0 31 (x1 + (1 : Int32)) := ⟨by omega, by omega⟩
  have ex := e
  unfold K5 at ex
  rw [d4] at ex
  have bx : x.toInt < 1048576 := by omega
  have b35 : ∀ (p : Nat) (s : Int32), ((p = 0 ∧ s = 0) ∨ (p = 1 ∧ s = 5) ∨ (p = 2 ∧ s = 10) ∨ (p = 3 ∧ s = 15) ∨ (p = 4 ∧ s = 20)) → sX0_with_35 F h x x1 s = some o → o.2 = h ∧ o.1.toInt = K5 (dgi D p (x1.toInt + 1)) := fun p s hs eo => by
    unfold sX0_with_35 at eo
    replace eo := nm_s eo
    obtain ⟨v, e1, eo⟩ := eo
    rw [← Option.some.inj eo]
    refine ⟨rfl, ?_⟩
    rcases hs with ⟨hp, hs⟩ | ⟨hp, hs⟩ | ⟨hp, hs⟩ | ⟨hp, hs⟩ | ⟨hp, hs⟩ <;> subst hp <;> subst hs <;> subst e1
    · refine (wi_one (x := x) (v := x1 + (1 : Int32)) (m := 0) (s := 0) (s5 := (0 : Int32) + (5 : Int32)) rfl rfl (by decide) rfl b.1 bx iv).trans ?_
      rw [ev]
      show x.toInt % 1 + (x1.toInt + 1) * 1 + x.toInt / 1 * 32 = (x1.toInt + 1) + 32 * D 0 + 1024 * D 1 + 32768 * D 2 + 1048576 * D 3
      omega
    · refine (wi_one (x := x) (v := x1 + (1 : Int32)) (m := 5) (s := 5) (s5 := (5 : Int32) + (5 : Int32)) rfl rfl (by decide) rfl b.1 bx iv).trans ?_
      rw [ev]
      show x.toInt % 32 + (x1.toInt + 1) * 32 + x.toInt / 32 * 1024 = D 0 + 32 * (x1.toInt + 1) + 1024 * D 1 + 32768 * D 2 + 1048576 * D 3
      omega
    · refine (wi_one (x := x) (v := x1 + (1 : Int32)) (m := 10) (s := 10) (s5 := (10 : Int32) + (5 : Int32)) rfl rfl (by decide) rfl b.1 bx iv).trans ?_
      rw [ev]
      show x.toInt % 1024 + (x1.toInt + 1) * 1024 + x.toInt / 1024 * 32768 = D 0 + 32 * D 1 + 1024 * (x1.toInt + 1) + 32768 * D 2 + 1048576 * D 3
      omega
    · refine (wi_one (x := x) (v := x1 + (1 : Int32)) (m := 15) (s := 15) (s5 := (15 : Int32) + (5 : Int32)) rfl rfl (by decide) rfl b.1 bx iv).trans ?_
      rw [ev]
      show x.toInt % 32768 + (x1.toInt + 1) * 32768 + x.toInt / 32768 * 1048576 = D 0 + 32 * D 1 + 1024 * D 2 + 32768 * (x1.toInt + 1) + 1048576 * D 3
      omega
    · refine (wi_one (x := x) (v := x1 + (1 : Int32)) (m := 20) (s := 20) (s5 := (20 : Int32) + (5 : Int32)) rfl rfl (by decide) rfl b.1 bx iv).trans ?_
      rw [ev]
      show x.toInt % 1048576 + (x1.toInt + 1) * 1048576 + x.toInt / 1048576 * 33554432 = D 0 + 32 * D 1 + 1024 * D 2 + 32768 * D 3 + 1048576 * (x1.toInt + 1)
      omega
  have dig : ∀ (p : Nat) (s : Int32), ((p = 0 ∧ s = 0) ∨ (p = 1 ∧ s = 5) ∨ (p = 2 ∧ s = 10) ∨ (p = 3 ∧ s = 15) ∨ (p = 4 ∧ s = 20)) → ((x >>> (s &&& 31)) &&& (31 : Int32)).toInt = D p := fun p s hs => by
    rcases hs with ⟨hp, hs⟩ | ⟨hp, hs⟩ | ⟨hp, hs⟩ | ⟨hp, hs⟩ | ⟨hp, hs⟩ <;> subst hp <;> subst hs
    · exact dig_k g e (s := 0) ⟨by decide, by decide⟩
    · exact dig_k g e (s := 1) ⟨by decide, by decide⟩
    · exact dig_k g e (s := 2) ⟨by decide, by decide⟩
    · exact dig_k g e (s := 3) ⟨by decide, by decide⟩
    · exact dig_k g e (s := 4) ⟨by decide, by decide⟩
  have go : ∀ (f p : Nat) (s : Int32), ((p = 0 ∧ s = 0) ∨ (p = 1 ∧ s = 5) ∨ (p = 2 ∧ s = 10) ∨ (p = 3 ∧ s = 15) ∨ (p = 4 ∧ s = 20)) → (∀ j, j < p → ¬ D j = 0 ∧ D j ≤ x1.toInt + 1) → sX0_with_2 F f h x x1 s = some o → o.2 = h ∧ ∃ p, p ≤ 4 ∧ (∀ j, j < p → ¬ D j = 0 ∧ D j ≤ x1.toInt + 1) ∧ (D p = 0 ∨ x1.toInt + 1 < D p) ∧ o.1.toInt = K5 (dgi D p (x1.toInt + 1)) := by
    intro f
    induction f with
    | zero => intro p s _ _ eo; exact absurd eo (by rw [sX0_with_2]; exact fun z => nomatch z)
    | succ f ih =>
      intro p s hs A eo
      have p4 : p ≤ 4 := by omega
      rw [sX0_with_2] at eo
      have dp := dig p s hs
      replace eo := br_s eo
      rcases eo with ⟨l, _⟩ | ⟨_, eo⟩
      · exfalso
        have l := le_i l
        have z25 : (25 : Int32).toInt = 25 := rfl
        rw [z25] at l
        rcases hs with ⟨_, hs⟩ | ⟨_, hs⟩ | ⟨_, hs⟩ | ⟨_, hs⟩ | ⟨_, hs⟩ <;> (rw [hs] at l; exact absurd l (by decide))
      replace eo := br_s eo
      rcases eo with ⟨z, eo⟩ | ⟨z, eo⟩
      · rw [z] at dp
        obtain ⟨q1, q2⟩ := b35 p s hs eo
        exact ⟨q1, p, p4, A, Or.inl dp.symm, q2⟩
      have nz : ¬ D p = 0 := fun q => z (Int32.toInt_inj.mp (by rw [dp, q]; rfl))
      replace eo := br_s eo
      rcases eo with ⟨l, eo⟩ | ⟨l, eo⟩
      · have l := lt_i l
        rw [ev, dp] at l
        obtain ⟨q1, q2⟩ := b35 p s hs eo
        exact ⟨q1, p, p4, A, Or.inr l, q2⟩
      have l := nlt_i l
      rw [ev, dp] at l
      replace eo := nm_s eo
      obtain ⟨v, wv, eo⟩ := eo
      have A' : ∀ j, j < p + 1 → ¬ D j = 0 ∧ D j ≤ x1.toInt + 1 := fun j hj => by
        by_cases q : j = p
        · rw [q]; exact ⟨nz, l⟩
        · exact A j (by omega)
      rcases hs with ⟨hp, hs⟩ | ⟨hp, hs⟩ | ⟨hp, hs⟩ | ⟨hp, hs⟩ | ⟨hp, hs⟩ <;> subst hp <;> subst hs
      · exact ih 1 v (Or.inr (Or.inl ⟨rfl, wv⟩)) A' eo
      · exact ih 2 v (Or.inr (Or.inr (Or.inl ⟨rfl, wv⟩))) A' eo
      · exact ih 3 v (Or.inr (Or.inr (Or.inr (Or.inl ⟨rfl, wv⟩)))) A' eo
      · exact ih 4 v (Or.inr (Or.inr (Or.inr (Or.inr ⟨rfl, wv⟩)))) A' eo
      · exact absurd d4 nz
  unfold sX0_with at eo
  exact go F 0 0 (Or.inl ⟨rfl, rfl⟩) (fun j hj => absurd hj (Nat.not_lt_zero j)) eo
/-- keys are equal where digits are -/
theorem k5_inj {E : Nat → Int} (g : D24 D) (g' : D24 E) (e : K5 D = K5 E) : ∀ i, i < 5 → D i = E i := by
  have a0 := g 0
  have a1 := g 1
  have a2 := g 2
  have a3 := g 3
  have a4 := g 4
  have b0 := g' 0
  have b1 := g' 1
  have b2 := g' 2
  have b3 := g' 3
  have b4 := g' 4
  unfold K5 at e
  intro i hi
  have : i = 0 ∨ i = 1 ∨ i = 2 ∨ i = 3 ∨ i = 4 := by omega
  rcases this with q | q | q | q | q <;> subst q <;> omega
end
