section
/-! keys of SETS as digits -/
def K5 (D : Nat → Int) : Int := D 0 + 32 * D 1 + 1024 * D 2 + 32768 * D 3 + 1048576 * D 4
def D24 (D : Nat → Int) : Prop := ∀ i, 0 ≤ D i ∧ D i ≤ 24
/-- a digit less, a digit more -/
def dgo (D : Nat → Int) (k : Nat) : Nat → Int := fun j => if j = 4 then 0 else if j < k then D j else D (j + 1)
def dgi (D : Nat → Int) (k : Nat) (v : Int) : Nat → Int := fun j => if j < k then D j else if j = k then v else D (j - 1)
section
variable {h : Hp} {x x1 : Int32} {F : Nat} {D : Nat → Int} {o : Int32 × Hp}
theorem k5_b (g : D24 D) (e : x.toInt = K5 D) : 0 ≤ x.toInt ∧ x.toInt ≤ 33554431 := by
  have g0 := g 0
  have g1 := g 1
  have g2 := g 2
  have g3 := g 3
  have g4 := g 4
  unfold K5 at e
  omega
theorem dig_k (g : D24 D) (e : x.toInt = K5 D) {s : Int32} (i : Rg 0 4 s) : ((x >>> (((5 : Int32) * s) &&& 31)) &&& (31 : Int32)).toInt = D s.toNatClampNeg := by
  have b := k5_b g e
  have g0 := g 0
  have g1 := g 1
  have g2 := g 2
  have g3 := g 3
  have g4 := g 4
  unfold K5 at e
  rcases i32_04 i with w | w | w | w | w <;> subst w
  · have d := dig_i b.1 0 ((5 : Int32) * 0) rfl
    rw [d]
    show x.toInt / 1 % 32 = D 0
    omega
  · have d := dig_i b.1 5 ((5 : Int32) * 1) rfl
    rw [d]
    show x.toInt / 32 % 32 = D 1
    omega
  · have d := dig_i b.1 10 ((5 : Int32) * 2) rfl
    rw [d]
    show x.toInt / 1024 % 32 = D 2
    omega
  · have d := dig_i b.1 15 ((5 : Int32) * 3) rfl
    rw [d]
    show x.toInt / 32768 % 32 = D 3
    omega
  · have d := dig_i b.1 20 ((5 : Int32) * 4) rfl
    rw [d]
    show x.toInt / 1048576 % 32 = D 4
    omega
theorem wo_k (g : D24 D) (e : x.toInt = K5 D) (i : Rg 0 4 x1) (eo : sX0_without h x x1 = some o) : o.2 = h ∧ o.1.toInt = K5 (dgo D x1.toNatClampNeg) := by
  have b := k5_b g e
  have g0 := g 0
  have g1 := g 1
  have g2 := g 2
  have g3 := g 3
  have g4 := g 4
  unfold K5 at e
  unfold sX0_without at eo
  replace eo := nm_s eo
  obtain ⟨v, ev, eo⟩ := eo
  rw [← Option.some.inj eo]
  refine ⟨rfl, ?_⟩
  rcases i32_04 i with w | w | w | w | w <;> subst w <;> subst ev
  · refine (wo_one (m := 0) rfl rfl (by decide) rfl b.1 b.2).trans ?_
    show x.toInt % 1 + x.toInt / 32 * 1 = D 1 + 32 * D 2 + 1024 * D 3 + 32768 * D 4 + 1048576 * 0
    omega
  · refine (wo_one (m := 5) rfl rfl (by decide) rfl b.1 b.2).trans ?_
    show x.toInt % 32 + x.toInt / 1024 * 32 = D 0 + 32 * D 2 + 1024 * D 3 + 32768 * D 4 + 1048576 * 0
    omega
  · refine (wo_one (m := 10) rfl rfl (by decide) rfl b.1 b.2).trans ?_
    show x.toInt % 1024 + x.toInt / 32768 * 1024 = D 0 + 32 * D 1 + 1024 * D 3 + 32768 * D 4 + 1048576 * 0
    omega
  · refine (wo_one (m := 15) rfl rfl (by decide) rfl b.1 b.2).trans ?_
    show x.toInt % 32768 + x.toInt / 1048576 * 32768 = D 0 + 32 * D 1 + 1024 * D 2 + 32768 * D 4 + 1048576 * 0
    omega
  · refine (wo_one (m := 20) rfl rfl (by decide) rfl b.1 b.2).trans ?_
    show x.toInt % 1048576 + x.toInt / 33554432 * 1048576 = D 0 + 32 * D 1 + 1024 * D 2 + 32768 * D 3 + 1048576 * 0
    omega
/-- where with puts him -/
theorem wi_k (g : D24 D) (d4 : D 4 = 0) (e : x.toInt = K5 D) (i : Rg 0 23 x1) (eo : sX0_with F h x x1 = some o) : o.2 = h ∧ ∃ p, p ≤ 4 ∧ (∀ j, j < p → ¬ D j = 0 ∧ D j ≤ x1.toInt + 1) ∧ (D p = 0 ∨ x1.toInt + 1 < D p) ∧ o.1.toInt = K5 (dgi D p (x1.toInt + 1)) := by
  have b := k5_b g e
  have g0 := g 0
  have g1 := g 1
  have g2 := g 2
  have g3 := g 3
  have i0 := i.1
  have i1 := i.2
  have z1 : (1 : Int32).toInt = 1 := rfl
  have ev : (x1 + (1 : Int32)).toInt = x1.toInt + 1 := by rw [ta (by rw [z1]; omega), z1]
  have iv : Rg 0 31 (x1 + (1 : Int32)) := ⟨by omega, by omega⟩
  have ex := e
  unfold K5 at ex
  rw [d4] at ex
  have bx : x.toInt < 1048576 := by omega
  have b35 : ∀ (p : Nat) (s : Int32), ((p = 0 ∧ s = 0) ∨ (p = 1 ∧ s = 5) ∨ (p = 2 ∧ s = 10) ∨ (p = 3 ∧ s = 15) ∨ (p = 4 ∧ s = 20)) → sX0_with_35 F h x x1 s = some o → o.2 = h ∧ o.1.toInt = K5 (dgi D p (x1.toInt + 1)) := fun p s hs eo => by
    unfold sX0_with_35 at eo
    replace eo := nm_s eo
    obtain ⟨v, e1, eo⟩ := eo
    rw [← Option.some.inj eo]
    refine ⟨rfl, ?_⟩
    rcases hs with ⟨hp, hs⟩ | ⟨hp, hs⟩ | ⟨hp, hs⟩ | ⟨hp, hs⟩ | ⟨hp, hs⟩ <;> subst hp <;> subst hs <;> subst e1
    · refine (wi_one (x := x) (v := x1 + (1 : Int32)) (m := 0) (s := 0) (s5 := (0 : Int32) + (5 : Int32)) rfl rfl (by decide) rfl b.1 bx iv).trans ?_
      rw [ev]
      show x.toInt % 1 + (x1.toInt + 1) * 1 + x.toInt / 1 * 32 = (x1.toInt + 1) + 32 * D 0 + 1024 * D 1 + 32768 * D 2 + 1048576 * D 3
      omega
    · refine (wi_one (x := x) (v := x1 + (1 : Int32)) (m := 5) (s := 5) (s5 := (5 : Int32) + (5 : Int32)) rfl rfl (by decide) rfl b.1 bx iv).trans ?_
      rw [ev]
      show x.toInt % 32 + (x1.toInt + 1) * 32 + x.toInt / 32 * 1024 = D 0 + 32 * (x1.toInt + 1) + 1024 * D 1 + 32768 * D 2 + 1048576 * D 3
      omega
    · refine (wi_one (x := x) (v := x1 + (1 : Int32)) (m := 10) (s := 10) (s5 := (10 : Int32) + (5 : Int32)) rfl rfl (by decide) rfl b.1 bx iv).trans ?_
      rw [ev]
      show x.toInt % 1024 + (x1.toInt + 1) * 1024 + x.toInt / 1024 * 32768 = D 0 + 32 * D 1 + 1024 * (x1.toInt + 1) + 32768 * D 2 + 1048576 * D 3
      omega
    · refine (wi_one (x := x) (v := x1 + (1 : Int32)) (m := 15) (s := 15) (s5 := (15 : Int32) + (5 : Int32)) rfl rfl (by decide) rfl b.1 bx iv).trans ?_
      rw [ev]
      show x.toInt % 32768 + (x1.toInt + 1) * 32768 + x.toInt / 32768 * 1048576 = D 0 + 32 * D 1 + 1024 * D 2 + 32768 * (x1.toInt + 1) + 1048576 * D 3
      omega
    · refine (wi_one (x := x) (v := x1 + (1 : Int32)) (m := 20) (s := 20) (s5 := (20 : Int32) + (5 : Int32)) rfl rfl (by decide) rfl b.1 bx iv).trans ?_
      rw [ev]
      show x.toInt % 1048576 + (x1.toInt + 1) * 1048576 + x.toInt / 1048576 * 33554432 = D 0 + 32 * D 1 + 1024 * D 2 + 32768 * D 3 + 1048576 * (x1.toInt + 1)
      omega
  have dig : ∀ (p : Nat) (s : Int32), ((p = 0 ∧ s = 0) ∨ (p = 1 ∧ s = 5) ∨ (p = 2 ∧ s = 10) ∨ (p = 3 ∧ s = 15) ∨ (p = 4 ∧ s = 20)) → ((x >>> (s &&& 31)) &&& (31 : Int32)).toInt = D p := fun p s hs => by
    rcases hs with ⟨hp, hs⟩ | ⟨hp, hs⟩ | ⟨hp, hs⟩ | ⟨hp, hs⟩ | ⟨hp, hs⟩ <;> subst hp <;> subst hs
    · exact dig_k g e (s := 0) ⟨by decide, by decide⟩
    · exact dig_k g e (s := 1) ⟨by decide, by decide⟩
    · exact dig_k g e (s := 2) ⟨by decide, by decide⟩
    · exact dig_k g e (s := 3) ⟨by decide, by decide⟩
    · exact dig_k g e (s := 4) ⟨by decide, by decide⟩
  have go : ∀ (f p : Nat) (s : Int32), ((p = 0 ∧ s = 0) ∨ (p = 1 ∧ s = 5) ∨ (p = 2 ∧ s = 10) ∨ (p = 3 ∧ s = 15) ∨ (p = 4 ∧ s = 20)) → (∀ j, j < p → ¬ D j = 0 ∧ D j ≤ x1.toInt + 1) → sX0_with_2 F f h x x1 s = some o → o.2 = h ∧ ∃ p, p ≤ 4 ∧ (∀ j, j < p → ¬ D j = 0 ∧ D j ≤ x1.toInt + 1) ∧ (D p = 0 ∨ x1.toInt + 1 < D p) ∧ o.1.toInt = K5 (dgi D p (x1.toInt + 1)) := by
    intro f
    induction f with
    | zero => intro p s _ _ eo; exact absurd eo (by rw [sX0_with_2]; exact fun z => nomatch z)
    | succ f ih =>
      intro p s hs A eo
      have p4 : p ≤ 4 := by omega
      rw [sX0_with_2] at eo
      have dp := dig p s hs
      replace eo := br_s eo
      rcases eo with ⟨l, _⟩ | ⟨_, eo⟩
      · exfalso
        have l := le_i l
        have z25 : (25 : Int32).toInt = 25 := rfl
        rw [z25] at l
        rcases hs with ⟨_, hs⟩ | ⟨_, hs⟩ | ⟨_, hs⟩ | ⟨_, hs⟩ | ⟨_, hs⟩ <;> (rw [hs] at l; exact absurd l (by decide))
      replace eo := br_s eo
      rcases eo with ⟨z, eo⟩ | ⟨z, eo⟩
      · rw [z] at dp
        obtain ⟨q1, q2⟩ := b35 p s hs eo
        exact ⟨q1, p, p4, A, Or.inl dp.symm, q2⟩
      have nz : ¬ D p = 0 := fun q => z (Int32.toInt_inj.mp (by rw [dp, q]; rfl))
      replace eo := br_s eo
      rcases eo with ⟨l, eo⟩ | ⟨l, eo⟩
      · have l := lt_i l
        rw [ev, dp] at l
        obtain ⟨q1, q2⟩ := b35 p s hs eo
        exact ⟨q1, p, p4, A, Or.inr l, q2⟩
      have l := nlt_i l
      rw [ev, dp] at l
      replace eo := nm_s eo
      obtain ⟨v, wv, eo⟩ := eo
      have A' : ∀ j, j < p + 1 → ¬ D j = 0 ∧ D j ≤ x1.toInt + 1 := fun j hj => by
        by_cases q : j = p
        · rw [q]; exact ⟨nz, l⟩
        · exact A j (by omega)
      rcases hs with ⟨hp, hs⟩ | ⟨hp, hs⟩ | ⟨hp, hs⟩ | ⟨hp, hs⟩ | ⟨hp, hs⟩ <;> subst hp <;> subst hs
      · exact ih 1 v (Or.inr (Or.inl ⟨rfl, wv⟩)) A' eo
      · exact ih 2 v (Or.inr (Or.inr (Or.inl ⟨rfl, wv⟩))) A' eo
      · exact ih 3 v (Or.inr (Or.inr (Or.inr (Or.inl ⟨rfl, wv⟩)))) A' eo
      · exact ih 4 v (Or.inr (Or.inr (Or.inr (Or.inr ⟨rfl, wv⟩)))) A' eo
      · exact absurd d4 nz
  unfold sX0_with at eo
  exact go F 0 0 (Or.inl ⟨rfl, rfl⟩) (fun j hj => absurd hj (Nat.not_lt_zero j)) eo
/-- keys are equal where digits are -/
theorem k5_inj {E : Nat → Int} (g : D24 D) (g' : D24 E) (e : K5 D = K5 E) : ∀ i, i < 5 → D i = E i := by
  have a0 := g 0
  have a1 := g 1
  have a2 := g 2
  have a3 := g 3
  have a4 := g 4
  have b0 := g' 0
  have b1 := g' 1
  have b2 := g' 2
  have b3 := g' 3
  have b4 := g' 4
  unfold K5 at e
  intro i hi
  have : i = 0 ∨ i = 1 ∨ i = 2 ∨ i = 3 ∨ i = 4 := by omega
  rcases this with q | q | q | q | q <;> subst q <;> omega
end
end
section
/-! SETS as rows: keys of the class, rows of the reference -/
def pad (f : Nat → Int32) (n : Nat) : Nat → Int := fun i => if i < n then (f i).toInt else 0
def V24 (f : Nat → Int32) (n : Nat) : Prop := ∀ i, i < n → 1 ≤ (f i).toInt ∧ (f i).toInt ≤ 24
def ins (f : Nat → Int32) (p : Nat) (w : Int32) : Nat → Int32 := fun j => if j < p then f j else if j = p then w else f (j - 1)
def Kq (x : Int32) (n : Nat) (f : Nat → Int32) : Prop := n ≤ 5 ∧ x.toInt = K5 (pad f n) ∧ V24 f n ∧ Sd f n
section
variable {f g : Nat → Int32} {n k p : Nat} {x x1 w : Int32} {D E : Nat → Int}
theorem k5_eq (h : ∀ j, j < 5 → D j = E j) : K5 D = K5 E := by
  unfold K5
  rw [h 0 (by decide), h 1 (by decide), h 2 (by decide), h 3 (by decide), h 4 (by decide)]
theorem pad_24 (V : V24 f n) : D24 (pad f n) := fun i => by
  unfold pad
  split
  · next l => have := V i l; omega
  · omega
theorem v24_sk (V : V24 f (n + 1)) : V24 (sk f k) n := fun i hi => by
  unfold sk
  split
  · exact V i (by omega)
  · exact V (i + 1) (by omega)
theorem k5_sk (hk : k ≤ n) (n4 : n ≤ 4) : K5 (dgo (pad f (n + 1)) k) = K5 (pad (sk f k) n) := k5_eq (fun j hj => by
  unfold dgo pad sk
  by_cases j4 : j = 4
  · rw [if_pos j4, if_neg (by omega)]
  · rw [if_neg j4]
    by_cases jk : j < k
    · rw [if_pos jk, if_pos (by omega), if_pos (by omega), if_pos jk]
    · rw [if_neg jk]
      by_cases jn : j < n
      · rw [if_pos (show j + 1 < n + 1 by omega), if_pos jn, if_neg jk]
      · rw [if_neg (show ¬ j + 1 < n + 1 by omega), if_neg jn])
theorem kq_sk (hk : k ≤ n) (Q : Kq x (n + 1) f) (e : x1.toInt = K5 (dgo (pad f (n + 1)) k)) : Kq x1 n (sk f k) :=
  ⟨by have := Q.1; omega, by rw [e]; exact k5_sk hk (by have := Q.1; omega), v24_sk Q.2.2.1, sd_sk Q.2.2.2⟩
theorem kq_ins (n4 : n ≤ 4) (Q : Kq x n f) (p4 : p ≤ 4) (A : ∀ j, j < p → ¬ pad f n j = 0 ∧ pad f n j ≤ w.toInt) (B : pad f n p = 0 ∨ w.toInt < pad f n p) (w1 : 1 ≤ w.toInt) (w24 : w.toInt ≤ 24) (e : x1.toInt = K5 (dgi (pad f n) p w.toInt)) : Kq x1 (n + 1) (ins f p w) ∧ ∀ v, cn (ins f p w) v (n + 1) = cn f v n + if w = v then 1 else 0 := by
  obtain ⟨_, _, V, S⟩ := Q
  have pn : p ≤ n := by
    by_cases q : p ≤ n
    · exact q
    · have := (A n (by omega)).1
      unfold pad at this
      rw [if_neg (by omega)] at this
      exact absurd rfl this
  have A' : ∀ j, j < p → (f j).toInt ≤ w.toInt := fun j hj => by
    have := (A j hj).2
    unfold pad at this
    rw [if_pos (by omega)] at this
    exact this
  have B' : ∀ j, p ≤ j → j < n → w.toInt < (f j).toInt := fun j h1 h2 => by
    unfold pad at B
    rw [if_pos (show p < n by omega)] at B
    have v0 := (V p (by omega)).1
    have lt : w.toInt < (f p).toInt := by
      rcases B with B | B
      · omega
      · exact B
    by_cases q : p = j
    · rw [← q]; exact lt
    · have := S p j (by omega) h2
      omega
  refine ⟨⟨by omega, ?_, fun i hi => ?_, fun i j hij hj => ?_⟩, fun v => ?_⟩
  · rw [e]
    refine k5_eq (fun j hj => ?_)
    unfold dgi pad ins
    by_cases q1 : j < p
    · rw [if_pos q1, if_pos (show j < n by omega), if_pos (show j < n + 1 by omega), if_pos q1]
    · rw [if_neg q1]
      by_cases q2 : j = p
      · rw [if_pos q2, if_pos (show j < n + 1 by omega), if_neg q1, if_pos q2]
      · rw [if_neg q2]
        by_cases q3 : j < n + 1
        · rw [if_pos (show j - 1 < n by omega), if_pos q3, if_neg q1, if_neg q2]
        · rw [if_neg (show ¬ j - 1 < n by omega), if_neg q3]
  · unfold ins
    split
    · exact V i (by omega)
    · split
      · exact ⟨w1, w24⟩
      · exact V (i - 1) (by omega)
  · unfold ins
    by_cases q1 : i < p
    · rw [if_pos q1]
      by_cases q2 : j < p
      · rw [if_pos q2]; exact S i j hij (by omega)
      · rw [if_neg q2]
        by_cases q3 : j = p
        · rw [if_pos q3]; exact A' i q1
        · rw [if_neg q3]
          have a1 := A' i q1
          have a2 := B' (j - 1) (by omega) (by omega)
          omega
    · rw [if_neg q1, if_neg (show ¬ j < p by omega)]
      by_cases q2 : i = p
      · rw [if_pos q2, if_neg (show ¬ j = p by omega)]
        have a2 := B' (j - 1) (by omega) (by omega)
        omega
      · rw [if_neg q2, if_neg (show ¬ j = p by omega)]
        exact S (i - 1) (j - 1) (by omega) (by omega)
  · have h1 := cn_sk (f := ins f p w) (k := p) (w := v) n pn
    have h2 : cn (sk (ins f p w) p) v n = cn f v n := cn_eq n (fun i _ => by
      unfold sk ins
      by_cases q : i < p
      · rw [if_pos q, if_pos q]
      · rw [if_neg q, if_neg (show ¬ i + 1 < p by omega), if_neg (show ¬ i + 1 = p by omega)]
        rfl)
    have h3 : ins f p w p = w := by
      unfold ins
      rw [if_neg (Nat.lt_irrefl p), if_pos rfl]
    rw [h2, h3] at h1
    exact h1.symm
theorem kq_sz (Q : Kq x n f) : Rg 0 33554431 x ∧ KyX x ∧ szI x.toInt = n := by
  obtain ⟨n5, e, V, _⟩ := Q
  have : x.toInt = kS (fun i => (f i).toInt) n := by
    rw [e]
    unfold K5 pad
    have hc : n = 0 ∨ n = 1 ∨ n = 2 ∨ n = 3 ∨ n = 4 ∨ n = 5 := by omega
    rcases hc with q | q | q | q | q | q <;> subst q <;> simp [kS]
  have K := kyw_of n5 V this
  exact ⟨K.1, K.2.1, K.2.2.1⟩
/-- one key, one row -/
theorem kq_inj {m : Nat} (Q : Kq x n f) (R : Kq x m g) : n = m ∧ ∀ i, i < n → f i = g i := by
  have a := (kq_sz Q).2.2
  have b := (kq_sz R).2.2
  have nm : n = m := a.symm.trans b
  refine ⟨nm, fun i hi => ?_⟩
  have h := k5_inj (pad_24 Q.2.2.1) (pad_24 R.2.2.1) (Q.2.1.symm.trans R.2.1) i (by have := Q.1; omega)
  unfold pad at h
  rw [if_pos hi, if_pos (by omega)] at h
  exact Int32.toInt_inj.mp h
theorem kq_key (Q : Kq x n f) {y : Int32} (R : Kq y n g) (h : ∀ i, i < n → f i = g i) : x = y := by
  apply Int32.toInt_inj.mp
  rw [Q.2.1, R.2.1]
  refine k5_eq (fun j _ => ?_)
  unfold pad
  by_cases q : j < n
  · rw [if_pos q, if_pos q, h j q]
  · rw [if_neg q, if_neg q]
theorem cmp_gt {a b : Int64} (h : 0 < lg_cmp a b) : b.toInt < a.toInt := by
  unfold lg_cmp at h
  by_cases q : a > b
  · exact Int64.lt_iff_toInt_lt.mp q
  · rw [if_neg q] at h
    by_cases q2 : a = b
    · rw [if_pos q2] at h; exact absurd h (by decide)
    · rw [if_neg q2] at h; exact absurd h (by decide)
end
/-! the class's addSet, by its equation -/
section
variable {h oc : Hp} {x0 ks pw F n : Nat} {x1 : Int32} {f : Nat → Int32}
def cT (h : Hp) (x0 pw n : Nat) : Int := (hJ h x0 18).toInt + 2 * (hI h pw n).toInt
theorem cadd_q (hF : 700000 ≤ F) (e4 : hR h x0 4 = some ks) (e6 : hR h x0 6 = some pw) (nk : ¬ x0 = ks) (Q : Kq x1 n f) (s0 : Rg 0 1024 (hI h x0 9)) (t0 : 0 ≤ (hJ h x0 18).toInt) (tb : (hJ h x0 18).toInt ≤ 1000000000000) (ip : Rg 0 1073741824 (hI h pw n)) (e : sX0_addSet F h x0 x1 = some oc) : ((∃ k : Nat, (k : Int) < (hI h x0 9).toInt ∧ hI h ks k = x1) ∧ oc = h) ∨ ((∀ k : Nat, (k : Int) < (hI h x0 9).toInt → ¬ hI h ks k = x1) ∧ ∃ T : Int64, T.toInt = cT h x0 pw n ∧ (((600000 < cT h x0 pw n ∨ 1024 ≤ (hI h x0 9).toInt) ∧ oc = wJ h x0 18 T) ∨ ((cT h x0 pw n ≤ 600000 ∧ (hI h x0 9).toInt < 1024) ∧ oc = wI (wI (wJ h x0 18 T) ks (hI h x0 9).toNatClampNeg x1) x0 9 ((hI h x0 9) + (1 : Int32))))) := by
  have z1 : (1 : Int32).toInt = 1 := rfl
  have z6 : (600000 : Int64).toInt = 600000 := rfl
  obtain ⟨k1, k2, k3⟩ := kq_sz Q
  have p0 := ip.1
  have p1 := ip.2
  have lp : ∀ (ff : Nat) {x2 : Int32}, 0 ≤ x2.toInt → (∀ k : Nat, (k : Int) < x2.toInt → ¬ hI h ks k = x1) → sX0_addSet_2 F ff h x0 x1 x2 = some oc → ((∃ k : Nat, (k : Int) < (hI h x0 9).toInt ∧ hI h ks k = x1) ∧ oc = h) ∨ ((∀ k : Nat, (k : Int) < (hI h x0 9).toInt → ¬ hI h ks k = x1) ∧ ∃ T : Int64, T.toInt = cT h x0 pw n ∧ (((600000 < cT h x0 pw n ∨ 1024 ≤ (hI h x0 9).toInt) ∧ oc = wJ h x0 18 T) ∨ ((cT h x0 pw n ≤ 600000 ∧ (hI h x0 9).toInt < 1024) ∧ oc = wI (wI (wJ h x0 18 T) ks (hI h x0 9).toNatClampNeg x1) x0 9 ((hI h x0 9) + (1 : Int32))))) := by
    intro ff
    induction ff with
    | zero => intro x2 _ _ e; exact absurd e (by rw [sX0_addSet_2]; exact fun z => nomatch z)
    | succ ff ih =>
      intro x2 a2 A e
      rw [sX0_addSet_2] at e
      unfold sX0_addSet_91 at e
      replace e := br_s e
      rcases e with ⟨l, e⟩ | ⟨l, e⟩
      · have l := le_i l
        refine Or.inr ⟨fun k hk => A k (by omega), ?_⟩
        replace e := cl_s e
        obtain ⟨r2, er2, e⟩ := e
        rw [r_eq e6 er2] at e
        replace e := cl_s e
        obtain ⟨o3, e3, e⟩ := e
        obtain ⟨w3, v3⟩ := sat_e (size_q hF k1.1) e3
        have n5 := Q.1
        have csz : (nI n).toNatClampNeg = n := by
          have := clamp_i (v := nI n) (by rw [z_toInt (by omega)]; exact Int.natCast_nonneg _)
          rw [z_toInt (by omega)] at this
          omega
        rw [k3] at v3
        rw [w3, v3] at e
        replace e := (gd_s e).2
        replace e := nm_s e
        obtain ⟨h5, w5, e⟩ := e
        rw [csz] at w5
        have ep : ((2 : Int64) * ((hI h pw n).toInt64)).toInt = 2 * (hI h pw n).toInt := by
          have e : ((hI h pw n).toInt64).toInt = (hI h pw n).toInt := Int32.toInt_toInt64 _
          have z2 : (2 : Int64).toInt = 2 := rfl
          rw [tm64 (by rw [e, z2]; omega) (by rw [e, z2]; omega), e, z2]
        have et : ((hJ h x0 18) + ((2 : Int64) * ((hI h pw n).toInt64))).toInt = cT h x0 pw n := by
          unfold cT
          rw [ta64 (by rw [ep]; omega) (by rw [ep]; omega), ep]
        have j5 : hJ h5 x0 18 = (hJ h x0 18) + ((2 : Int64) * ((hI h pw n).toInt64)) := by rw [w5, r_J, if_pos ⟨rfl, rfl⟩]
        have E5 : ∀ a i, hI h5 a i = hI h a i := fun a i => by rw [w5]; rfl
        refine ⟨_, et, ?_⟩
        replace e := br_s e
        rcases e with ⟨c, e⟩ | ⟨c, e⟩
        · have c := cmp_gt c
          rw [j5, et, z6] at c
          exact Or.inl ⟨Or.inl c, by rw [← Option.some.inj e]; exact w5⟩
        have c := cmp_le c
        rw [j5, et, z6] at c
        replace e := br_s e
        rcases e with ⟨d, e⟩ | ⟨d, e⟩
        · have d := le_i d
          rw [E5] at d
          exact Or.inl ⟨Or.inr d, by rw [← Option.some.inj e]; exact w5⟩
        have d := nle_i d
        rw [E5] at d
        have z10 : (1024 : Int32).toInt = 1024 := rfl
        replace e := cl_s e
        obtain ⟨r8, er8, e⟩ := e
        have y8 : r8 = ks := r_eq (by rw [w5]; exact e4) er8
        rw [y8] at e
        replace e := (gd_s e).2
        replace e := nm_s e
        obtain ⟨h10, w10, e⟩ := e
        replace e := nm_s e
        obtain ⟨h11, w11, e⟩ := e
        rw [E5] at w10
        refine Or.inr ⟨⟨c, by omega⟩, ?_⟩
        rw [← Option.some.inj e, w11, w10, w5]
        have y9 : hI (wI (wJ h x0 18 ((hJ h x0 18) + ((2 : Int64) * ((hI h pw n).toInt64)))) ks (hI h x0 9).toNatClampNeg x1) x0 9 = hI h x0 9 := by rw [rI_a nk]; rfl
        rw [y9]
      · have l := nle_i l
        replace e := cl_s e
        obtain ⟨r12, er12, e⟩ := e
        rw [r_eq e4 er12] at e
        replace e := (gd_s e).2
        replace e := br_s e
        have nx := nc_i a2
        rcases e with ⟨c, e⟩ | ⟨c, e⟩
        · exact Or.inl ⟨⟨x2.toNatClampNeg, by omega, c⟩, (Option.some.inj e).symm⟩
        replace e := nm_s e
        obtain ⟨v, wv, e⟩ := e
        have s2 := s0.2
        have tv : v.toInt = x2.toInt + 1 := by rw [wv, ta (by rw [z1]; omega), z1]
        refine ih (by omega) (fun k hk => ?_) e
        by_cases q : k = x2.toNatClampNeg
        · rw [q]; exact c
        · exact A k (by omega)
  unfold sX0_addSet at e
  exact lp F (by decide) (fun k hk => absurd hk (by show ¬ (k : Int) < 0; omega)) e
end
end
section
/-! the reference's addSet, exactly -/
/-- found; refused; new -/
def AZ (ρ : Nat → Nat) (x0 rm re rk rs ro : Nat) (n : Int32) (h0 : Hp) (o : Int32 × Hp) : Prop := ∃ g : Nat → Int32, Sd g n.toNatClampNeg ∧ (∀ v, cn g v n.toNatClampNeg = cn (fun i => hI h0 ro i) v n.toNatClampNeg) ∧ ((Fnd rs rk (pkF g n n.toNatClampNeg) h0 ∧ o.1 = 1 ∧ Jo ro h0 o.2) ∨ (¬ Fnd rs rk (pkF g n n.toNatClampNeg) h0 ∧ ((o.1 = 0 ∧ (600000 < (hJ h0 x0 59).toInt + 2 * (hI h0 x0 13).toInt ^ n.toNatClampNeg ∨ (hI h0 x0 49).toInt = 4096)) ∨ (o.1 = 1 ∧ (hJ h0 x0 59).toInt + 2 * (hI h0 x0 13).toInt ^ n.toNatClampNeg ≤ 600000 ∧ Mo ρ x0 rm re rk rs h0 o.2 ∧ hI o.2 x0 49 = hI h0 x0 49 + (1 : Int32) ∧ hI o.2 rm (hI h0 x0 49).toNatClampNeg = n ∧ (∀ i, i < n.toNatClampNeg → hI o.2 re (5 * (hI h0 x0 49).toNatClampNeg + i) = g i) ∧ (hJ o.2 x0 59).toInt = (hJ h0 x0 59).toInt + 2 * (hI h0 x0 13).toInt ^ n.toNatClampNeg ∧ Fnd rs rk (pkF g n n.toNatClampNeg) o.2))))
section
variable {ρ : Nat → Nat} {x0 rm re rb rk rs ro F : Nat} {h0 h g : Hp} {n : Int32}
theorem ads_z (hF : 700000 ≤ F) (Q : SlR ρ x0 rm re rb rk rs ro h0) (i1 : Rg 0 5 n) (hn : hN h0 ro = 6) (irs : ∀ j, 0 ≤ (hI h0 rs j).toInt ∧ (hI h0 rs j).toInt ≤ 4096) (s0 : 0 ≤ (hI h0 x0 49).toInt) (s1 : (hI h0 x0 49).toInt ≤ 4096) {o : Int32 × Hp} (e : sX15_addSet F h0 x0 n = some o) (isq : Rg 9 64 (hI h0 x0 13)) (t0 : 0 ≤ (hJ h0 x0 59).toInt) (t6 : (hJ h0 x0 59).toInt ≤ 600000) : AZ ρ x0 rm re rk rs ro n h0 o := by
  obtain ⟨⟨r0, qm, qe, qb, qk, qs, qo⟩, ⟨e46, e47, e48, e55, e56, e57⟩⟩ := Q
  have z0 : (0 : Int32).toInt = 0 := rfl
  have nn := clamp_i i1.1
  have n5 := i1.2
  have nos : ¬ rs = ro := fun w => absurd (w ▸ qs) (by rw [qo]; decide)
  have nok : ¬ rk = ro := fun w => absurd (w ▸ qk) (by rw [qo]; decide)
  have noe : ¬ re = ro := fun w => absurd (w ▸ qe) (by rw [qo]; decide)
  have nom : ¬ rm = ro := fun w => absurd (w ▸ qm) (by rw [qo]; decide)
  have nox : ¬ x0 = ro := fun w => absurd (w ▸ r0) (by rw [qo]; decide)
  have nks : ¬ rs = rk := fun w => absurd (w ▸ qs) (by rw [qk]; decide)
  have nem : ¬ re = rm := fun w => absurd (w ▸ qe) (by rw [qm]; decide)
  have neb : ¬ re = rb := fun w => absurd (w ▸ qe) (by rw [qb]; decide)
  have nek : ¬ re = rk := fun w => absurd (w ▸ qe) (by rw [qk]; decide)
  have nes : ¬ re = rs := fun w => absurd (w ▸ qe) (by rw [qs]; decide)
  have nmb : ¬ rm = rb := fun w => absurd (w ▸ qm) (by rw [qb]; decide)
  have nmk : ¬ rm = rk := fun w => absurd (w ▸ qm) (by rw [qk]; decide)
  have nms : ¬ rm = rs := fun w => absurd (w ▸ qm) (by rw [qs]; decide)
  have nsb : ¬ rs = rb := fun w => absurd (w ▸ qs) (by rw [qb]; decide)
  have nkb : ¬ rk = rb := fun w => absurd (w ▸ qk) (by rw [qb]; decide)
  have nxm : ¬ x0 = rm := fun w => absurd (w ▸ r0) (by rw [qm]; decide)
  have nxe : ¬ x0 = re := fun w => absurd (w ▸ r0) (by rw [qe]; decide)
  have nxb : ¬ x0 = rb := fun w => absurd (w ▸ r0) (by rw [qb]; decide)
  have nxk : ¬ x0 = rk := fun w => absurd (w ▸ r0) (by rw [qk]; decide)
  have nxs : ¬ x0 = rs := fun w => absurd (w ▸ r0) (by rw [qs]; decide)
  have nob : ¬ ro = rb := fun w => absurd (w ▸ qo) (by rw [qb]; decide)
  -- the last loop: the row is copied into the new set
  have b165 : ∀ (J : Int64) (f : Nat) {g : Hp} {x4 : Int32}, (∀ a i, hR g a i = hR h0 a i) → (∀ a, hN g a = hN h0 a) → (∀ a i, ¬ a = re → ¬ a = ro → ¬ (a = rm ∧ i = (hI h0 x0 49).toNatClampNeg) → ¬ (a = rb) → hI g a i = hI h0 a i) → hI g rm (hI h0 x0 49).toNatClampNeg = n → (∀ j, ¬ (5 * (hI h0 x0 49).toNatClampNeg ≤ j ∧ j < 5 * (hI h0 x0 49).toNatClampNeg + 5) → hI g re j = hI h0 re j) → (∀ i : Nat, (i : Int) < x4.toInt → hI g re (5 * (hI h0 x0 49).toNatClampNeg + i) = hI g ro i) → Sd (fun i => hI g ro i) n.toNatClampNeg → (∀ v, cn (fun i => hI g ro i) v n.toNatClampNeg = cn (fun i => hI h0 ro i) v n.toNatClampNeg) → (hI h0 x0 49).toInt < 4096 → hJ g x0 59 = hJ h0 x0 59 → J.toInt = 2 * (hI h0 x0 13).toInt ^ n.toNatClampNeg → (hJ h0 x0 59).toInt + 2 * (hI h0 x0 13).toInt ^ n.toNatClampNeg ≤ 600000 → ¬ Fnd rs rk (pkF (fun i => hI g ro i) n n.toNatClampNeg) h0 → 0 ≤ x4.toInt → x4.toInt ≤ n.toInt → sX15_addSet_165 F f g x0 n J x4 = some o → AZ ρ x0 rm re rk rs ro n h0 o := by
    intro J f
    induction f with
    | zero => intro g x4 _ _ _ _ _ _ _ _ _ _ _ _ _ _ _ e; exact absurd e (by simp [sX15_addSet_165])
    | succ f ih =>
      intro g x4 kR kN kI km ke kx S C ls kj jv tt nf a4 b4 e
      have k49 : hI g x0 49 = hI h0 x0 49 := kI x0 49 nxe nox (fun w => nxm w.1) nxb
      unfold sX15_addSet_165 at e
      simp only [nm] at e
      have ns := clamp_i s0
      replace e := br_s e; rcases e with ⟨c, e⟩ | ⟨c, e⟩
      · have c := le_i c
        replace e := cl_s e; obtain ⟨r4, p, e⟩ := e
        replace p : hR g x0 57 = some r4 := p
        rw [kR] at p
        have := r_eq e57 p; subst this
        replace e := cl_s e; obtain ⟨o5, e5, e⟩ := e
        obtain ⟨w1, w2⟩ := sat_e (packed_q hF (by show hN g r4 = 6; rw [kN]; exact hn) ⟨i1.1, by omega⟩) e5
        rw [w1, w2] at e
        have ek : pkN (wI (wJ g x0 59 ((hJ g x0 59) + J)) x0 49 ((hI (wJ g x0 59 ((hJ g x0 59) + J)) x0 49) + (1 : Int32))) r4 0 n n.toNatClampNeg = pkF (fun i => hI g r4 i) n n.toNatClampNeg := by
          rw [pkN_F]
          apply pkF_eq
          intro i hi
          show hI (wI _ x0 49 _) r4 (0 + i) = hI g r4 i
          rw [r_I, if_neg (fun w => nox w.1.symm), Nat.zero_add]
          rfl
        rw [ek] at e
        replace e := cl_s e; obtain ⟨o6, e6, e⟩ := e
        obtain ⟨v1, v2, m, em, A, alt⟩ := slot_q (h := (wI (wJ g x0 59 ((hJ g x0 59) + J)) x0 49 ((hI (wJ g x0 59 ((hJ g x0 59) + J)) x0 49) + (1 : Int32)))) (rs := rs) (rk := rk) (by show hR g x0 56 = _; rw [kR]; exact e56) (by show hR g x0 55 = _; rw [kR]; exact e55) e6
        rw [v1] at e
        replace e := cl_s e; obtain ⟨r7, p, e⟩ := e
        replace p : hR g x0 55 = some r7 := p
        rw [kR] at p
        have := r_eq e55 p; subst this
        replace e := cl_s e; obtain ⟨r8, p, e⟩ := e
        replace p : hR g x0 57 = some r8 := p
        rw [kR] at p
        have := r_eq e57 p; subst this
        replace e := cl_s e; obtain ⟨o9, e9, e⟩ := e
        obtain ⟨u1, u2⟩ := sat_e (packed_q hF (by show hN g r8 = 6; rw [kN]; exact hn) ⟨i1.1, by omega⟩) e9
        rw [u1, u2, ek] at e
        replace e := (gd_s e).2
        replace e := cl_s e; obtain ⟨r12, p, e⟩ := e
        replace p : hR g x0 56 = some r12 := p
        rw [kR] at p
        have := r_eq e56 p; subst this
        replace e := (gd_s e).2
        have e := Option.some.inj e
        subst e
        have inc : ((hI g x0 49) + (1 : Int32)).toInt = (hI h0 x0 49).toInt + 1 := by
          rw [k49]
          exact ta (by show _ ≤ (hI h0 x0 49).toInt + 1 ∧ (hI h0 x0 49).toInt + 1 ≤ _; omega)
        have vS : hI (wI (wI (wJ g x0 59 ((hJ g x0 59) + J)) x0 49 ((hI (wJ g x0 59 ((hJ g x0 59) + J)) x0 49) + (1 : Int32))) r7 o6.1.toNatClampNeg (pkF (fun i => hI g r8 i) n n.toNatClampNeg)) x0 49 = (hI g x0 49) + (1 : Int32) := by
          rw [r_I, if_neg (fun w => nxk w.1), r_I, if_pos ⟨rfl, rfl⟩]
          rfl
        rw [em] at *
        have fw := fnd_w (h := (wI (wJ g x0 59 ((hJ g x0 59) + J)) x0 49 ((hI (wJ g x0 59 ((hJ g x0 59) + J)) x0 49) + (1 : Int32)))) (g := wI (wI (wI (wJ g x0 59 ((hJ g x0 59) + J)) x0 49 ((hI (wJ g x0 59 ((hJ g x0 59) + J)) x0 49) + (1 : Int32))) r7 (sl (pkF (fun i => hI g r8 i) n n.toNatClampNeg) m) (pkF (fun i => hI g r8 i) n n.toNatClampNeg)) r12 (sl (pkF (fun i => hI g r8 i) n n.toNatClampNeg) m) ((hI g x0 49) + (1 : Int32))) (v := (hI g x0 49) + (1 : Int32)) A alt (by omega) nks (fun j => by
            rw [r_I, if_neg (fun w => nks w.1.symm), r_I]
            by_cases w : j = sl (pkF (fun i => hI g r8 i) n n.toNatClampNeg) m
            · rw [if_pos ⟨rfl, w⟩, if_pos w]
            · rw [if_neg (fun z => w z.2), if_neg w]) (fun j => by
            rw [r_I]
            by_cases w : j = sl (pkF (fun i => hI g r8 i) n n.toNatClampNeg) m
            · rw [if_pos ⟨rfl, w⟩, if_pos w]
            · rw [if_neg (fun z => w z.2), if_neg w, r_I, if_neg (fun z => nks z.1)])
        rw [vS]
        have old : ∀ k2, Fnd r12 r7 k2 h0 → Fnd r12 r7 k2 (wI (wJ g x0 59 ((hJ g x0 59) + J)) x0 49 ((hI (wJ g x0 59 ((hJ g x0 59) + J)) x0 49) + (1 : Int32))) := by
          rintro k2 ⟨M, B1, B2, B3⟩
          have q1 : ∀ j, hI (wI (wJ g x0 59 ((hJ g x0 59) + J)) x0 49 ((hI (wJ g x0 59 ((hJ g x0 59) + J)) x0 49) + (1 : Int32))) r12 j = hI h0 r12 j := fun j => by
            rw [r_I, if_neg (fun w => nxs w.1.symm)]
            exact kI r12 j (fun w => nes w.symm) nos (fun w => nms w.1.symm) nsb
          have q2 : ∀ j, hI (wI (wJ g x0 59 ((hJ g x0 59) + J)) x0 49 ((hI (wJ g x0 59 ((hJ g x0 59) + J)) x0 49) + (1 : Int32))) r7 j = hI h0 r7 j := fun j => by
            rw [r_I, if_neg (fun w => nxk w.1.symm)]
            exact kI r7 j (fun w => nek w.symm) nok (fun w => nmk w.1.symm) nkb
          exact ⟨M, fun m' hm => by rw [q1]; exact B1 m' hm, by rw [q1]; exact B2, by rw [q2]; exact B3⟩
        -- reads behind all writes
        have rd : ∀ a i, ¬ a = r7 → ¬ a = r12 → ¬ (a = x0 ∧ i = 49) → hI (wI (wI (wI (wJ g x0 59 ((hJ g x0 59) + J)) x0 49 ((hI (wJ g x0 59 ((hJ g x0 59) + J)) x0 49) + (1 : Int32))) r7 (sl (pkF (fun i => hI g r8 i) n n.toNatClampNeg) m) (pkF (fun i => hI g r8 i) n n.toNatClampNeg)) r12 (sl (pkF (fun i => hI g r8 i) n n.toNatClampNeg) m) ((hI g x0 49) + (1 : Int32))) a i = hI g a i := fun a i m1 m2 m3 => by
          rw [r_I, if_neg (fun w => m2 w.1), r_I, if_neg (fun w => m1 w.1), r_I, if_neg m3]
          rfl
        have rx : hI (wI (wI (wI (wJ g x0 59 ((hJ g x0 59) + J)) x0 49 ((hI (wJ g x0 59 ((hJ g x0 59) + J)) x0 49) + (1 : Int32))) r7 (sl (pkF (fun i => hI g r8 i) n n.toNatClampNeg) m) (pkF (fun i => hI g r8 i) n n.toNatClampNeg)) r12 (sl (pkF (fun i => hI g r8 i) n n.toNatClampNeg) m) ((hI g x0 49) + (1 : Int32))) x0 49 = (hI g x0 49) + (1 : Int32) := by
          rw [r_I, if_neg (fun w => nxs w.1), r_I, if_neg (fun w => nxk w.1), r_I, if_pos ⟨rfl, rfl⟩]
          rfl
        have rowe : ∀ i, i < n.toNatClampNeg → hI (wI (wI (wI (wJ g x0 59 ((hJ g x0 59) + J)) x0 49 ((hI (wJ g x0 59 ((hJ g x0 59) + J)) x0 49) + (1 : Int32))) r7 (sl (pkF (fun i => hI g r8 i) n n.toNatClampNeg) m) (pkF (fun i => hI g r8 i) n n.toNatClampNeg)) r12 (sl (pkF (fun i => hI g r8 i) n n.toNatClampNeg) m) ((hI g x0 49) + (1 : Int32))) re (5 * (hI h0 x0 49).toNatClampNeg + i) = hI g r8 i := fun i hi => by
          rw [rd re _ nek nes (fun w => nxe w.1.symm)]
          exact kx i (by omega)
        have qp := pow_sq (s := (hI h0 x0 13).toInt) (by have := isq.1; omega) isq.2 n.toNatClampNeg (by omega)
        refine ⟨fun i => hI g r8 i, S, C, Or.inr ⟨nf, Or.inr ⟨rfl, tt, ⟨fun a i => kR a i, fun a => kN a, fun a i n1 n2 n3 => ?_, fun k w => fw.2 k (old k w), by rw [rx, inc]; omega, fun k hk => ⟨?_, fun i hi => ?_⟩, fun k l1 l2 => ?_⟩, by rw [rx, k49], by rw [rd rm _ nmk nms (fun w => nxm w.1.symm), km], rowe, by
          show (hJ (wJ g x0 59 ((hJ g x0 59) + J)) x0 59).toInt = _
          rw [r_J, if_pos ⟨rfl, rfl⟩, kj, ta64 (by rw [jv]; omega) (by rw [jv]; omega), jv], fw.1⟩⟩⟩
        · rw [rd a i (fun w => n2 (by rw [w, qk]; decide)) (fun w => n2 (by rw [w, qs]; decide)) n3]
          exact kI a i (fun w => n1 (by rw [w, qe]; decide)) (fun w => n2 (by rw [w, qo]; decide)) (fun w => n1 (by rw [w.1, qm]; decide)) (fun w => n1 (by rw [w, qb]; decide))
        · rw [rd rm k nmk nms (fun w => nxm w.1.symm)]
          exact kI rm k (fun w => nem w.symm) nom (fun w => by omega) nmb
        · rw [rd re _ nek nes (fun w => nxe w.1.symm)]
          exact ke _ (by omega)
        · rw [rx, inc] at l2
          have kk : k = (hI h0 x0 49).toNatClampNeg := by omega
          subst kk
          rw [rd rm _ nmk nms (fun w => nxm w.1.symm), km]
          refine ⟨fun i j lij lj => ?_, ?_⟩
          · show (hI _ re _).toInt ≤ (hI _ re _).toInt
            rw [rowe i (by omega), rowe j lj]
            exact S i j lij lj
          · rw [pkF_eq (g := fun i => hI g r8 i) _ rowe]
            exact fw.1
      · have c := nle_i c
        replace e := cl_s e; obtain ⟨r15, p, e⟩ := e
        rw [kR] at p
        have := r_eq e47 p; subst this
        replace e := cl_s e; obtain ⟨r16, p, e⟩ := e
        rw [kR] at p
        have := r_eq e57 p; subst this
        replace e := (gd_s e).2
        replace e := (gd_s e).2
        have i4 : Rg 0 4 x4 := ⟨a4, by omega⟩
        have ix := (ix5 (x1 := hI h0 x0 49) (x4 := x4) ⟨s0, by omega⟩ i4).2
        rw [k49, ix] at e
        have ny := nc_s i4 (by decide)
        have c4 := clamp_i a4
        refine ih (g := wI g r15 (5 * (hI h0 x0 49).toNatClampNeg + x4.toNatClampNeg) (hI g r16 x4.toNatClampNeg)) kR kN (fun a i n1 n2 n3 n4 => ?_) ?_ (fun j nj => ?_) (fun i hi => ?_) ?_ ?_ ls kj jv tt ?_ (by omega) (by omega) e
        · rw [r_I, if_neg (fun w => n1 w.1)]; exact kI a i n1 n2 n3 n4
        · rw [r_I, if_neg (fun w => nem w.1.symm)]; exact km
        · rw [r_I, if_neg (fun w => by omega)]; exact ke j nj
        · have eR : hI (wI g r15 (5 * (hI h0 x0 49).toNatClampNeg + x4.toNatClampNeg) (hI g r16 x4.toNatClampNeg)) r16 i = hI g r16 i := by rw [r_I, if_neg (fun w => noe w.1.symm)]
          rw [eR, r_I]
          by_cases w : i = x4.toNatClampNeg
          · rw [if_pos ⟨rfl, by omega⟩, w]
          · rw [if_neg (fun z => w (by omega))]
            exact kx i (by omega)
        · intro i j lij lj
          show (hI _ r16 i).toInt ≤ (hI _ r16 j).toInt
          rw [r_I, if_neg (fun w => noe w.1.symm), r_I, if_neg (fun w => noe w.1.symm)]
          exact S i j lij lj
        · intro v
          rw [← C v]
          exact cn_eq _ (fun i hi => by show hI _ r16 i = _; rw [r_I, if_neg (fun w => noe w.1.symm)])
        · rw [pkF_eq (g := fun i => hI g r16 i) _ (fun i _ => by show hI _ r16 i = _; rw [r_I, if_neg (fun w => noe w.1.symm)])]
          exact nf
  -- the row stands in its order
  have b93 : ∀ (f : Nat) {g : Hp} {J : Int64} {x4 : Int32}, Jo ro h0 g → Sd (fun i => hI g ro i) n.toNatClampNeg → (∀ v, cn (fun i => hI g ro i) v n.toNatClampNeg = cn (fun i => hI h0 ro i) v n.toNatClampNeg) → ¬ Fnd rs rk (pkF (fun i => hI g ro i) n n.toNatClampNeg) h0 → 0 ≤ x4.toInt → x4.toInt ≤ n.toInt → J.toInt = 2 * (hI h0 x0 13).toInt ^ x4.toNatClampNeg → sX15_addSet_93 F f g x0 n J x4 = some o → AZ ρ x0 rm re rk rs ro n h0 o := by
    intro f
    induction f with
    | zero => intro g J x4 _ _ _ _ _ _ _ e; exact absurd e (by simp [sX15_addSet_93])
    | succ f ih =>
      intro g J x4 jo S C nf a4 b4 jv e
      have k49 : hI g x0 49 = hI h0 x0 49 := jo.2.2.2 x0 49 nox
      have k13 : hI g x0 13 = hI h0 x0 13 := jo.2.2.2 x0 13 nox
      have k59 : hJ g x0 59 = hJ h0 x0 59 := jo.2.2.1 x0 59
      have n4 := clamp_i a4
      have q1 := isq.1
      have q2 := isq.2
      unfold sX15_addSet_93 sX15_addSet_136 at e
      simp only [nm] at e
      replace e := br_s e; rcases e with ⟨c0, e⟩ | ⟨c0, e⟩
      · have c0 := le_i c0
        have x4n : x4.toNatClampNeg = n.toNatClampNeg := by omega
        rw [x4n] at jv
        have qp := pow_sq (s := (hI h0 x0 13).toInt) (by omega) q2 n.toNatClampNeg (by omega)
        have z6 : (600000 : Int64).toInt = 600000 := rfl
        have es : ((hJ g x0 59) + J).toInt = (hJ h0 x0 59).toInt + 2 * (hI h0 x0 13).toInt ^ n.toNatClampNeg := by
          rw [k59, ta64 (by rw [jv]; omega) (by rw [jv]; omega), jv]
        replace e := br_s e; rcases e with ⟨c1, e⟩ | ⟨c1, e⟩
        · have c1 := cmp_gt c1
          rw [es, z6] at c1
          exact ⟨_, S, C, Or.inr ⟨nf, Or.inl ⟨by rw [← Option.some.inj e], Or.inl c1⟩⟩⟩
        have tt := cmp_le c1
        rw [es, z6] at tt
        replace e := br_s e; rcases e with ⟨c2, e⟩ | ⟨c, e⟩
        · exact ⟨_, S, C, Or.inr ⟨nf, Or.inl ⟨by rw [← Option.some.inj e], Or.inr (by rw [← k49, c2]; rfl)⟩⟩⟩
        replace e := cl_s e; obtain ⟨r4, p, e⟩ := e
        rw [jo.1] at p
        have := r_eq e46 p; subst this
        replace e := (gd_s e).2
        replace e := cl_s e; obtain ⟨r7, p, e⟩ := e
        replace p : hR g x0 48 = some r7 := p
        rw [jo.1] at p
        have := r_eq e48 p; subst this
        replace e := (gd_s e).2
        have k49' : hI (wI g r4 (hI g x0 49).toNatClampNeg n) x0 49 = hI h0 x0 49 := by rw [r_I, if_neg (fun w => nxm w.1)]; exact k49
        rw [k49', k49] at e
        have lt : (hI h0 x0 49).toInt < 4096 := by
          have : ¬ (hI h0 x0 49).toInt = 4096 := fun w => c (by rw [k49]; exact Int32.toInt_inj.mp (by rw [w]; rfl))
          omega
        refine b165 J F (g := wI (wI g r4 (hI h0 x0 49).toNatClampNeg n) r7 (hI h0 x0 49).toNatClampNeg (hJ (wI g r4 (hI h0 x0 49).toNatClampNeg n) x0 59).toInt32) (fun a i => jo.1 a i) (fun a => jo.2.1 a) (fun a i n1 n2 n3 n4 => ?_) ?_ (fun j _ => ?_) (fun i hi => absurd hi (by rw [z0]; omega)) ?_ ?_ lt k59 jv tt ?_ (by decide) (by rw [z0]; exact i1.1) e
        · rw [r_I, if_neg (fun w => n4 w.1), r_I, if_neg (fun w => n3 w)]; exact jo.2.2.2 a i n2
        · rw [r_I, if_neg (fun w => nmb w.1), r_I, if_pos ⟨rfl, rfl⟩]
        · rw [r_I, if_neg (fun w => neb w.1), r_I, if_neg (fun w => nem w.1)]; exact jo.2.2.2 re j noe
        · intro i j lij lj
          show (hI _ ro i).toInt ≤ (hI _ ro j).toInt
          rw [r_I, if_neg (fun w => nob w.1), r_I, if_neg (fun w => nom w.1.symm), r_I, if_neg (fun w => nob w.1), r_I, if_neg (fun w => nom w.1.symm)]
          exact S i j lij lj
        · intro v
          rw [← C v]
          exact cn_eq _ (fun i hi => by show hI _ ro i = _; rw [r_I, if_neg (fun w => nob w.1), r_I, if_neg (fun w => nom w.1.symm)])
        · rw [pkF_eq (g := fun i => hI g ro i) _ (fun i _ => by show hI _ ro i = _; rw [r_I, if_neg (fun w => nob w.1), r_I, if_neg (fun w => nom w.1.symm)])]
          exact nf
      · have c0 := nle_i c0
        have z1 : (1 : Int32).toInt = 1 := rfl
        have t1 : (x4 + (1 : Int32)).toInt = x4.toInt + 1 := by rw [ta (by rw [z1]; omega), z1]
        have n41 := clamp_i (v := x4 + (1 : Int32)) (by omega)
        have e41 : (x4 + (1 : Int32)).toNatClampNeg = x4.toNatClampNeg + 1 := by omega
        have qp := pow_sq (s := (hI h0 x0 13).toInt) (by omega) q2 x4.toNatClampNeg (by omega)
        have qs := pow_sq (s := (hI h0 x0 13).toInt) (by omega) q2 (x4.toNatClampNeg + 1) (by omega)
        have e13 : ((hI g x0 13).toInt64).toInt = (hI h0 x0 13).toInt := by rw [k13]; exact Int32.toInt_toInt64 _
        have pe : 2 * (hI h0 x0 13).toInt ^ x4.toNatClampNeg * (hI h0 x0 13).toInt = 2 * (hI h0 x0 13).toInt ^ (x4.toNatClampNeg + 1) := by rw [Int.pow_succ, Int.mul_assoc]
        refine ih jo S C nf (by omega) (by omega) ?_ e
        rw [e41, tm64 (by rw [jv, e13, pe]; omega) (by rw [jv, e13, pe]; omega), jv, e13, pe]
  -- the row is put in order
  have b2 : ∀ (f : Nat) {g : Hp} {x2 : Int32}, Jo ro h0 g → 1 ≤ x2.toInt → x2.toInt ≤ 5 → Sd (fun i => hI g ro i) x2.toNatClampNeg → (∀ v, cn (fun i => hI g ro i) v n.toNatClampNeg = cn (fun i => hI h0 ro i) v n.toNatClampNeg) → sX15_addSet_2 F f g x0 n x2 = some o → AZ ρ x0 rm re rk rs ro n h0 o := by
    intro f
    induction f with
    | zero => intro g x2 _ _ _ _ _ e; exact absurd e (by simp [sX15_addSet_2])
    | succ f ih =>
      intro g x2 jo a2 b2 S C e
      unfold sX15_addSet_2 at e
      simp only [nm] at e
      have c2 := clamp_i (v := x2) (by omega)
      replace e := br_s e; rcases e with ⟨c, e⟩ | ⟨c, e⟩
      · have c := le_i c
        have S2 : Sd (fun i => hI g ro i) n.toNatClampNeg := fun i j l1 l2 => S i j l1 (by omega)
        replace e := cl_s e; obtain ⟨r2, p, e⟩ := e
        rw [jo.1] at p
        have := r_eq e57 p; subst this
        replace e := cl_s e; obtain ⟨o3, e3, e⟩ := e
        have ks : ∀ j, hI g rs j = hI h0 rs j := fun j => jo.2.2.2 rs j nos
        have kk : ∀ j, hI g rk j = hI h0 rk j := fun j => jo.2.2.2 rk j nok
        obtain ⟨w1, w1', w2⟩ := find_q (rs := rs) (rk := rk) hF (by rw [jo.2.1]; exact hn) ⟨i1.1, by omega⟩ (fun j => by rw [ks]; exact irs j) (by rw [jo.1]; exact e56) (by rw [jo.1]; exact e55) e3
        rw [w1] at e
        have tr : ∀ key, Fnd rs rk key g ↔ Fnd rs rk key h0 := fun key => by
          unfold Fnd
          constructor
          · rintro ⟨M, B1, B2, B3⟩
            exact ⟨M, fun m' hm => by rw [← ks]; exact B1 m' hm, by rw [← ks]; exact B2, by rw [← kk]; exact B3⟩
          · rintro ⟨M, B1, B2, B3⟩
            exact ⟨M, fun m' hm => by rw [ks]; exact B1 m' hm, by rw [ks]; exact B2, by rw [kk]; exact B3⟩
        have pe : pkN g r2 0 n n.toNatClampNeg = pkF (fun i => hI g r2 i) n n.toNatClampNeg := by
          rw [pkN_F]
          exact pkF_eq _ (fun i _ => by rw [Nat.zero_add])
        rw [pe] at w1' w2
        replace e := br_s e; rcases e with ⟨c3, e⟩ | ⟨c3, e⟩
        · have nf : ¬ Fnd rs rk (pkF (fun i => hI g r2 i) n n.toNatClampNeg) h0 := fun N => by
            have := w1' ((tr _).mpr N)
            rw [c3] at this
            exact absurd this (by decide)
          exact b93 F (J := (2 : Int64)) (x4 := (0 : Int32)) jo S2 C nf (by decide) (by rw [z0]; exact i1.1) (by show (2 : Int64).toInt = 2 * (hI h0 x0 13).toInt ^ 0; rw [Int.pow_zero]; rfl) e
        · have e := Option.some.inj e; subst e
          obtain ⟨_, N⟩ := w2 c3
          exact ⟨_, S2, C, Or.inl ⟨(tr _).mp N, rfl, jo⟩⟩
      · have c := nle_i c
        replace e := cl_s e; obtain ⟨r5, p, e⟩ := e
        rw [jo.1] at p
        have := r_eq e57 p; subst this
        replace e := (gd_s e).2
        generalize hv : hI g r5 x2.toNatClampNeg = v at e
        have inn : ∀ (ff : Nat) {g : Hp} {x4 : Int32}, Jo r5 h0 g → 0 ≤ x4.toInt → x4.toInt ≤ x2.toInt → In (fun i => hI g r5 i) v x2.toNatClampNeg x4.toNatClampNeg → (∀ w, cn (up (fun i => hI g r5 i) x4.toNatClampNeg v) w n.toNatClampNeg = cn (fun i => hI h0 r5 i) w n.toNatClampNeg) → sX15_addSet_17 F (sX15_addSet_2 F f) ff g x0 n x2 v x4 = some o → AZ ρ x0 rm re rk rs r5 n h0 o := by
          intro ff
          induction ff with
          | zero => intro g x4 _ _ _ _ _ e; exact absurd e (by simp [sX15_addSet_17])
          | succ ff ih2 =>
            intro g x4 jo a4 b4 I C e
            have c4 := clamp_i a4
            have put : (x4.toNatClampNeg = 0 ∨ (hI g r5 (x4.toNatClampNeg - 1)).toInt ≤ v.toInt) → sX15_addSet_57 F (sX15_addSet_2 F f) g x0 n x2 v x4 = some o → AZ ρ x0 rm re rk rs r5 n h0 o := by
              intro z e
              unfold sX15_addSet_57 at e
              simp only [nm] at e
              replace e := cl_s e; obtain ⟨r1, p, e⟩ := e
              rw [jo.1] at p
              have := r_eq e57 p; subst this
              replace e := (gd_s e).2
              have ny := nc_s (x := x2) (b := 5) ⟨by omega, b2⟩ (by decide)
              refine ih (jo_w jo) (by omega) (by omega) ?_ (fun w => ?_) e
              · rw [row_up, ny.1]
                exact in_e (by omega) I z
              · rw [row_up]; exact C w
            unfold sX15_addSet_17 at e
            simp only [nm] at e
            replace e := br_s e; rcases e with ⟨cz, e⟩ | ⟨cz, e⟩
            · have cz := le_i cz
              exact put (Or.inl (by omega)) e
            have cz := nle_i cz
            have i4 : Rg 1 5 x4 := ⟨by omega, by omega⟩
            have d1 : (x4 - (1 : Int32)).toInt = x4.toInt - 1 := rg_decs i4 (by decide)
            have d1n : (x4 - (1 : Int32)).toNatClampNeg = x4.toNatClampNeg - 1 := by
              have := clamp_i (v := x4 - (1 : Int32)) (by omega)
              omega
            replace e := cl_s e; obtain ⟨r2, p, e⟩ := e
            rw [jo.1] at p
            have := r_eq e57 p; subst this
            replace e := (gd_s e).2
            replace e := br_s e; rcases e with ⟨cl, e⟩ | ⟨cl, e⟩
            · exact put (Or.inr (by rw [d1n] at cl; exact le_i cl)) e
            rw [d1n] at cl
            have cl := nle_i cl
            replace e := cl_s e; obtain ⟨r2', p, e⟩ := e
            rw [jo.1] at p
            have := r_eq e57 p; subst this
            replace e := cl_s e; obtain ⟨r6, p, e⟩ := e
            rw [jo.1] at p
            have := r_eq e57 p; subst this
            replace e := (gd_s e).2
            replace e := (gd_s e).2
            rw [d1n] at e
            have d2 : (x4 + (-1 : Int32)).toInt = x4.toInt - 1 := rg_dec i4 (by decide)
            generalize x4 + (-1 : Int32) = y at e d2
            have cy := clamp_i (v := y) (by omega)
            have ek : x4.toNatClampNeg = y.toNatClampNeg + 1 := by omega
            have ek2 : x4.toNatClampNeg - 1 = y.toNatClampNeg := by omega
            rw [ek2] at e cl
            rw [ek] at e I C
            refine ih2 (jo_w jo) (by omega) (by omega) ?_ (fun w => ?_) e
            · rw [row_up]
              exact in_s (by omega) I (Int.le_of_lt cl)
            · rw [row_up]
              rw [cn_swap (f := fun i => hI g r6 i) (by omega)]
              exact C w
        refine inn F jo (by omega) (Int.le_refl _) (by rw [← hv]; exact in_0 S) (fun w => ?_) e
        rw [← C w]
        apply cn_eq
        intro i hi
        unfold up
        split
        · rename_i q; rw [q, hv]
        · rfl
  unfold sX15_addSet at e
  exact b2 F ⟨fun _ _ => rfl, fun _ => rfl, fun _ _ => rfl, fun _ _ _ => rfl⟩ (by decide) (by decide) (fun i j l1 l2 => absurd l2 (by show ¬ j < 1; omega)) (fun _ => rfl) e
end
end
section
/-! how many SETS there may be -/
def ct (P : Nat → Bool) : Nat → Nat
  | 0 => 0
  | s + 1 => ct P s + if P s = true then 1 else 0
theorem ct_0 {P : Nat → Bool} : ∀ s, (∀ k, k < s → P k = false) → ct P s = 0
  | 0, _ => rfl
  | s + 1, h => by
    show ct P s + (if P s = true then 1 else 0) = 0
    rw [ct_0 s (fun k hk => h k (by omega)), h s (by omega)]
    rfl
theorem ct_or {P Q R : Nat → Bool} (h : ∀ k, R k = true → P k = true ∨ Q k = true) : ∀ s, ct R s ≤ ct P s + ct Q s
  | 0 => Nat.le_refl 0
  | s + 1 => by
    have ih := ct_or h s
    show ct R s + (if R s = true then 1 else 0) ≤ ct P s + (if P s = true then 1 else 0) + (ct Q s + (if Q s = true then 1 else 0))
    by_cases r : R s = true
    · rcases h s r with p | p
      · rw [if_pos r, if_pos p]; omega
      · rw [if_pos r, if_pos p]; omega
    · rw [if_neg r]; omega
theorem ct_1 {key : Nat → Int} {x : Int} : ∀ s, (∀ j k, j < k → k < s → ¬ key j = key k) → ct (fun k => decide (key k = x)) s ≤ 1
  | 0, _ => by show 0 ≤ 1; decide
  | s + 1, d => by
    show ct (fun k => decide (key k = x)) s + (if decide (key s = x) = true then 1 else 0) ≤ 1
    by_cases q : key s = x
    · rw [ct_0 s (fun k hk => decide_eq_false (fun z => d k s hk (by omega) (z.trans q.symm)))]
      split <;> omega
    · rw [if_neg (by rw [decide_eq_true_iff]; exact q)]
      exact ct_1 s (fun j k h1 h2 => d j k h1 (by omega))
theorem ct_l {key : Nat → Int} {s : Nat} (d : ∀ j k, j < k → k < s → ¬ key j = key k) : ∀ l : List Int, ct (fun k => decide (key k ∈ l)) s ≤ l.length
  | [] => by rw [ct_0 s (fun k _ => decide_eq_false (List.not_mem_nil))]; exact Nat.zero_le _
  | x :: l => by
    have a := ct_or (R := fun k => decide (key k ∈ x :: l)) (P := fun k => decide (key k = x)) (Q := fun k => decide (key k ∈ l)) (fun k h => by
      rw [decide_eq_true_iff] at h
      rcases List.mem_cons.mp h with z | z
      · exact Or.inl (decide_eq_true z)
      · exact Or.inr (decide_eq_true z)) s
    have b := ct_1 (x := x) s d
    have c := ct_l d l
    show _ ≤ l.length + 1
    omega
theorem ct_s {P : Nat → Bool} : ∀ s, ct P s + ct (fun k => !(P k)) s = s
  | 0 => rfl
  | s + 1 => by
    have ih := ct_s (P := P) s
    show ct P s + (if P s = true then 1 else 0) + (ct (fun k => !(P k)) s + (if (!(P s)) = true then 1 else 0)) = s + 1
    cases q : P s with
    | true => rw [if_pos rfl, if_neg (by decide)]; omega
    | false => rw [if_neg (by decide), if_pos (show (!false) = true from rfl)]; omega
theorem ct_sm {P : Nat → Bool} {f : Nat → Int} {c : Int} (h0 : ∀ k, 0 ≤ f k) : ∀ s, (∀ k, k < s → P k = true → c ≤ f k) → c * (ct P s : Int) ≤ sm f s
  | 0, _ => by show c * 0 ≤ 0; omega
  | s + 1, h => by
    have ih := ct_sm h0 s (fun k hk => h k (by omega))
    show c * ((ct P s + (if P s = true then 1 else 0) : Nat) : Int) ≤ sm f s + f s
    by_cases q : P s = true
    · rw [if_pos q]
      have := h s (by omega) q
      rw [Int.natCast_add, Int.mul_add]
      omega
    · rw [if_neg q]
      have := h0 s
      rw [Nat.add_zero]
      omega
theorem pow_9 {q : Int} (h : 9 ≤ q) : ∀ n : Nat, 1 ≤ q ^ n ∧ 9 ^ n ≤ q ^ n
  | 0 => by rw [Int.pow_zero, Int.pow_zero]; exact ⟨by decide, by decide⟩
  | n + 1 => by
    have ih := pow_9 h n
    rw [Int.pow_succ, Int.pow_succ]
    have a : q ^ n * 9 ≤ q ^ n * q := Int.mul_le_mul_of_nonneg_left h (by omega)
    omega
abbrev cand : List Int := ((List.range 25).map fun (d : Nat) => (d : Int)) ++ (List.range 24).flatMap fun (e : Nat) => (List.range (e + 1)).map fun (d : Nat) => ((d + 1 : Nat) : Int) + 32 * ((e + 1 : Nat) : Int)
theorem cand_n : cand.length = 325 := by decide +kernel
theorem cand_m {x : Int32} {n : Nat} {f : Nat → Int32} (Q : Kq x n f) (n2 : n ≤ 2) : x.toInt ∈ cand := by
  obtain ⟨_, e, V, S⟩ := Q
  unfold K5 pad at e
  have hc : n = 0 ∨ n = 1 ∨ n = 2 := by omega
  rcases hc with q | q | q
  · subst q
    simp at e
    rw [e]
    exact List.mem_append_left _ (List.mem_map.mpr ⟨0, List.mem_range.mpr (by decide), rfl⟩)
  · subst q
    simp at e
    have v := V 0 (by decide)
    exact List.mem_append_left _ (List.mem_map.mpr ⟨(f 0).toInt.toNat, List.mem_range.mpr (by omega), by omega⟩)
  · subst q
    simp at e
    have v0 := V 0 (by decide)
    have v1 := V 1 (by decide)
    have s := S 0 1 (by decide) (by decide)
    refine List.mem_append_right _ (List.mem_flatMap.mpr ⟨(f 1).toInt.toNat - 1, List.mem_range.mpr (by omega), List.mem_map.mpr ⟨(f 0).toInt.toNat - 1, List.mem_range.mpr (by omega), ?_⟩⟩)
    omega
/-- fewer than 1024 -/
theorem cnt_lt {key : Nat → Int32} {nk : Nat → Nat} {row : Nat → Nat → Int32} {q : Int} {s : Nat} (h9 : 9 ≤ q) (K : ∀ k, k < s → Kq (key k) (nk k) (row k)) (d : ∀ j k, j < k → k < s → ¬ key j = key k) (t : sm (fun k => 2 * q ^ nk k) s ≤ 600000) : s ≤ 736 := by
  have a1 := ct_s (P := fun k => decide (nk k ≤ 2)) s
  have a2 : ct (fun k => decide (nk k ≤ 2)) s ≤ 325 := by
    have b := ct_l (key := fun k => (key k).toInt) (s := s) (fun j k h1 h2 z => d j k h1 h2 (Int32.toInt_inj.mp z)) cand
    rw [cand_n] at b
    have c : ∀ u, u ≤ s → ct (fun k => decide (nk k ≤ 2)) u ≤ ct (fun k => decide ((key k).toInt ∈ cand)) u := by
      intro u
      induction u with
      | zero => intro _; exact Nat.le_refl 0
      | succ u ih =>
        intro hu
        have ih := ih (by omega)
        show ct (fun k => decide (nk k ≤ 2)) u + (if decide (nk u ≤ 2) = true then 1 else 0) ≤ ct (fun k => decide ((key k).toInt ∈ cand)) u + (if decide ((key u).toInt ∈ cand) = true then 1 else 0)
        by_cases z : nk u ≤ 2
        · rw [if_pos (decide_eq_true z), if_pos (decide_eq_true (cand_m (K u (by omega)) z))]; omega
        · rw [if_neg (by rw [decide_eq_true_iff]; exact z)]; omega
    exact Nat.le_trans (c s (Nat.le_refl s)) b
  have a3 := ct_sm (P := fun k => !(decide (nk k ≤ 2))) (f := fun k => 2 * q ^ nk k) (c := 1458) (fun k => by have := (pow_9 h9 (nk k)).1; show 0 ≤ 2 * q ^ nk k; omega) s (fun k hk z => by
    have n5 := (K k hk).1
    have n3 : ¬ nk k ≤ 2 := fun w => by
      rw [decide_eq_true w] at z
      exact absurd z (by decide)
    have p := (pow_9 h9 (nk k)).2
    show 1458 ≤ 2 * q ^ nk k
    have hc : nk k = 3 ∨ nk k = 4 ∨ nk k = 5 := by omega
    have e3 : (9 : Int) ^ 3 = 729 := by decide
    have e4 : (9 : Int) ^ 4 = 6561 := by decide
    have e5 : (9 : Int) ^ 5 = 59049 := by decide
    rcases hc with w | w | w <;> rw [w] at p ⊢ <;> omega)
  have a3' : 1458 * (ct (fun k => !(decide (nk k ≤ 2))) s : Int) ≤ 600000 := Int.le_trans a3 t
  omega
end
