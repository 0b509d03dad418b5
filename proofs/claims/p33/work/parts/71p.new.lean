-- things that are made: old addresses keep what they have, new ones take their roles when they are whole
def Ext (ρ : Nat → Nat) (c : Cm) (ρ' : Nat → Nat) (c' : Cm) : Prop := (∀ a, ρ a ≠ 0 → ρ' a = ρ a ∧ cw c' a = cw c a) ∧ c'.2.1 = c.2.1 ∧ c'.2.2.2 = c.2.2.2 ∧ c.1.1 ≤ c'.1.1 ∧ ∀ a, a < c.1.1 → ρ' a = ρ a
theorem ex_0 {ρ : Nat → Nat} {c : Cm} : Ext ρ c ρ c := ⟨fun _ _ => ⟨rfl, rfl⟩, rfl, rfl, Nat.le_refl _, fun _ _ => rfl⟩
theorem ex_t {ρ ρ1 ρ2 : Nat → Nat} {c c1 c2 : Cm} (X : Ext ρ c ρ1 c1) (Y : Ext ρ1 c1 ρ2 c2) : Ext ρ c ρ2 c2 := by
  obtain ⟨x1, x2, x3, x4, x7⟩ := X
  obtain ⟨y1, y2, y3, y4, y7⟩ := Y
  refine ⟨fun a ha => ?_, y2.trans x2, y3.trans x3, by omega, fun a l => (y7 a (by omega)).trans (x7 a l)⟩
  have p := x1 a ha
  have q := y1 a (by rw [p.1]; exact ha)
  exact ⟨q.1.trans p.1, q.2.trans p.2⟩
theorem ex_r {a k : Nat} {ρ ρ1 : Nat → Nat} {c c1 : Cm} (X : Ext ρ c ρ1 c1) (e : ρ a = k) (h0 : k ≠ 0) : ρ1 a = k := ((X.1 a (by rw [e]; exact h0)).1).trans e
theorem ex_w {a k w : Nat} {ρ ρ1 : Nat → Nat} {c c1 : Cm} (X : Ext ρ c ρ1 c1) (e : ρ a = k) (h0 : k ≠ 0) (o : cw c a = w) : cw c1 a = w := ((X.1 a (by rw [e]; exact h0)).2).trans o
theorem ex_j {j : Nat} {ρ ρ1 : Nat → Nat} {c c1 : Cm} (X : Ext ρ c ρ1 c1) (m : c.2.1 j = true) : c1.2.1 j = true := by rw [X.2.1]; exact m
def Old (h o : Hp) : Prop := ∀ b, b < h.1.1 → (∀ i, hI o b i = hI h b i) ∧ (∀ i, hJ o b i = hJ h b i) ∧ (∀ i, hR o b i = hR h b i) ∧ hN o b = hN h b
theorem adopt {ρ : Nat → Nat} {c : Cm} {h o : Hp} (T : TH ρ c h) (O : Old h o) (ρ' w' : Nat → Nat) (le : h.1.1 ≤ o.1.1)
    (e1 : ∀ a, a < h.1.1 → ρ' a = ρ a) (e2 : ∀ a, o.1.1 ≤ a → ρ' a = 0) (ew : ∀ a, a < h.1.1 → w' a = cw c a)
    (n2 : ∀ a i, h.1.1 ≤ a → Rg (rgI (ρ' a) i).1 (rgI (ρ' a) i).2 (hI o a i) ∧ rP (c.2.1 50) (w' a) (ρ' a) i (hI o a i))
    (n3 : ∀ a i, h.1.1 ≤ a → rfK (ρ' a) i ≠ 0 → ∃ r, hR o a i = some r ∧ ρ' r = rfK (ρ' a) i)
    (n4 : ∀ a i, h.1.1 ≤ a → rfN (ρ' a) i = 0) (n5 : ∀ a, h.1.1 ≤ a → rln (ρ' a) ≠ 0 → hN o a = rln (ρ' a))
    (n6 : ∀ a, h.1.1 ≤ a → ρ' a ≠ 10)
    (n7 : ∀ p i r, h.1.1 ≤ p → ρ' p = 4 → i < 3 → hR o p i = some r → h.1.1 ≤ r ∧ (∀ d, hJ o r d = 0))
    (n7u : ∀ p q i r, h.1.1 ≤ p → h.1.1 ≤ q → ρ' p = 4 → ρ' q = 4 → i < 3 → hR o p i = some r → hR o q i = some r → p = q)
    (n8 : ∀ a i, h.1.1 ≤ a → nid (ρ' a) i = 0) (n9 : ∀ a, h.1.1 ≤ a → (sgl (ρ' a) || (ρ' a == 32 || ρ' a == 2)) = false)
    (nw : ∀ a i r, h.1.1 ≤ a → inh (ρ' a) = true → hR o a i = some r → w' r = w' a) (nk : ∀ a i, h.1.1 ≤ a → kid (ρ' a) i = 0)
    (nr : ∀ a i r, h.1.1 ≤ a → ρ' a ≠ 0 → hR o a i = some r → r < o.1.1) :
    TH ρ' (o.1, (c.2.1, (w', c.2.2.2))) o := by
  obtain ⟨⟨t1, t2, t3, t4, t5, t6, t7, t8, t9⟩, ⟨o1, o2, o3, o4⟩, f⟩ := T
  rw [← t1] at o3 o4
  have lt : ∀ a, ρ a ≠ 0 → a < h.1.1 := o3
  have rl : ∀ a i r, ρ a ≠ 0 → hR h a i = some r → r < h.1.1 := o4
  refine ⟨⟨rfl, fun a i => ?_, fun a i hk => ?_, fun a i hk r hr => ?_, fun a hk => ?_, ?_, ?_, fun a i hk hm => ?_, fun a b hab hs => ?_⟩, ⟨fun a i r hi hr => ?_, fun a i r hk hr => ?_, fun a ha => ?_, fun a i r ha hr => ?_⟩, Nat.le_trans f.1 le, fun a i l h0 hs => ?_, fun a l h0 => ?_⟩
  · by_cases q : a < h.1.1
    · rw [e1 a q, (O a q).1]
      have y := t2 a i
      rw [← ew a q] at y
      exact y
    · exact n2 a i (by omega)
  · by_cases q : a < h.1.1
    · rw [e1 a q] at hk ⊢
      obtain ⟨r, h1, h2⟩ := t3 a i hk
      have hr0 : ρ r ≠ 0 := by rw [h2]; exact hk
      exact ⟨r, by rw [(O a q).2.2.1]; exact h1, by rw [e1 r (lt r hr0)]; exact h2⟩
    · exact n3 a i (by omega) hk
  · by_cases q : a < h.1.1
    · rw [e1 a q] at hk ⊢
      rw [(O a q).2.2.1] at hr
      have h2 := t4 a i hk r hr
      rw [e1 r (lt r (by rw [h2]; exact hk))]; exact h2
    · exact absurd (n4 a i (by omega)) hk
  · by_cases q : a < h.1.1
    · rw [e1 a q] at hk ⊢
      rw [(O a q).2.2.2]; exact t5 a hk
    · exact n5 a (by omega) hk
  · intro t tb ht hr
    by_cases q : t < h.1.1
    · rw [e1 t q] at ht
      rw [(O t q).2.2.1] at hr
      have hb := rl t 0 tb (by rw [ht]; decide) hr
      rw [(O t q).1, (O tb hb).2.2.2]
      exact t6 t tb ht hr
    · exact absurd ht (n6 t (by omega))
  · refine ⟨fun p q i a hi hp hq h1 h2 => ?_, fun p on of hp ho hf s hs d hd hb => ?_⟩
    · by_cases u : p < h.1.1
      · rw [e1 p u] at hp
        rw [(O p u).2.2.1] at h1
        have ha := rl p i a (by rw [hp]; decide) h1
        by_cases v : q < h.1.1
        · rw [e1 q v] at hq
          rw [(O q v).2.2.1] at h2
          exact t7.1 p q i a hi hp hq h1 h2
        · have := (n7 q i a (by omega) hq hi h2).1
          omega
      · by_cases v : q < h.1.1
        · rw [e1 q v] at hq
          rw [(O q v).2.2.1] at h2
          have ha := rl q i a (by rw [hq]; decide) h2
          have := (n7 p i a (by omega) hp hi h1).1
          omega
        · exact n7u p q i a (by omega) (by omega) hp hq hi h1 h2
    · by_cases u : p < h.1.1
      · rw [e1 p u] at hp
        rw [(O p u).2.2.1] at ho hf
        have b1 := rl p 0 on (by rw [hp]; decide) ho
        have b2 := rl p 1 of (by rw [hp]; decide) hf
        rw [(O of b2).2.1] at hb
        rw [(O on b1).1]
        exact t7.2 p on of hp ho hf s hs d hd hb
      · rw [(n7 p 1 of (by omega) hp (by decide) hf).2] at hb
        exact absurd hb (by rw [bj_zero]; decide)
  · by_cases q : a < h.1.1
    · rw [e1 a q] at hk hm
      obtain ⟨r, hr⟩ := t8 a i hk hm
      exact ⟨r, by rw [(O a q).2.2.1]; exact hr⟩
    · exact absurd (n8 a i (by omega)) hk
  · by_cases q : a < h.1.1
    · by_cases v : b < h.1.1
      · rw [e1 a q] at hab hs
        rw [e1 b v] at hab
        refine t9 a b hab (hs.imp id (fun z => ⟨z.1, ?_⟩))
        rw [← ew a q, ← ew b v]
        exact z.2
      · have y := n9 b (by omega)
        rw [hab] at hs
        rw [Bool.or_eq_false_iff, Bool.or_eq_false_iff, beq_eq_false_iff_ne, beq_eq_false_iff_ne] at y
        rcases hs with z | ⟨z | z, _⟩
        · rw [y.1] at z; exact absurd z (by decide)
        · exact absurd z y.2.1
        · exact absurd z y.2.2
    · have y := n9 a (by omega)
      rw [Bool.or_eq_false_iff, Bool.or_eq_false_iff, beq_eq_false_iff_ne, beq_eq_false_iff_ne] at y
      rcases hs with z | ⟨z | z, _⟩
      · rw [y.1] at z; exact absurd z (by decide)
      · exact absurd z y.2.1
      · exact absurd z y.2.2
  · show w' r = w' a
    by_cases q : a < h.1.1
    · rw [e1 a q] at hi
      rw [(O a q).2.2.1] at hr
      have a0 : ρ a ≠ 0 := fun z => by rw [z] at hi; exact absurd hi (by decide)
      rw [ew a q, ew r (rl a i r a0 hr)]
      exact o1 a i r hi hr
    · exact nw a i r (by omega) hi hr
  · show w' r = _
    by_cases q : a < h.1.1
    · rw [e1 a q] at hk ⊢
      rw [(O a q).2.2.1] at hr
      have a0 : ρ a ≠ 0 := fun z => by rw [z] at hk; exact absurd rfl hk
      rw [ew r (rl a i r a0 hr)]
      exact o2 a i r hk hr
    · exact absurd (nk a i (by omega)) hk
  · show a < o.1.1
    by_cases q : a < o.1.1
    · exact q
    · exact absurd (e2 a (by omega)) ha
  · show r < o.1.1
    by_cases q : a < h.1.1
    · rw [e1 a q] at ha
      rw [(O a q).2.2.1] at hr
      have := rl a i r ha hr
      omega
    · exact nr a i r (by omega) ha hr
  · have la : a < h.1.1 := Nat.lt_of_lt_of_le l f.1
    rw [e1 a la] at h0
    have hs' : cPm c (ρ a) (cw c a) i = false := by
      have : cPm c (ρ' a) (w' a) i = false := hs
      rw [e1 a la, ew a la] at this
      exact this
    obtain ⟨p1, p2, p3⟩ := f.2.1 a i l h0 hs'
    exact ⟨((O a la).1 i).trans p1, ((O a la).2.1 i).trans p2, ((O a la).2.2.1 i).trans p3⟩
  · have la : a < h.1.1 := Nat.lt_of_lt_of_le l f.1
    rw [e1 a la] at h0
    exact (O a la).2.2.2.trans (f.2.2 a l h0)
-- permissions, and the frame, behind what is made
section
variable {ρ ρ1 : Nat → Nat} {c c1 : Cm}
theorem ex_p (X : Ext ρ c ρ1 c1) {k w i : Nat} (p : cPm c k w i = true) : cPm c1 k w i = true := by
  show c1.2.2.2.1 k w i = true
  rw [X.2.2.1]; exact p
theorem ex_A (X : Ext ρ c ρ1 c1) {A : List (Nat × Nat)} (p : pmA c A) : pmA c1 A := fun w k i m => ex_p X (p w k i m)
theorem ex_O (X : Ext ρ c ρ1 c1) {A : List (Nat × Nat)} {w : Nat} (p : pmO c w A) : pmO c1 w A := fun k i m => ex_p X (p k i m)
/-- the frame of a call that makes things, for what stood before -/
theorem ex_f {S : Nat → Nat → Nat → Bool} {h o : Hp} (T : TH ρ c h) (X : Ext ρ (cat c S h) ρ1 c1) (T1 : TH ρ1 c1 o) : Fr ρ (cat c S h) h o := by
  have lt : ∀ a, ρ a ≠ 0 → a < h.1.1 := fun a ha => by rw [T.1.1]; exact T.2.1.2.2.1 a ha
  have g : FrG ρ1 c1 (c0 c1) o := T1.2.2
  have e0 : c0 c1 = h := by show c1.2.2.2.2 = h; rw [X.2.2.1]; rfl
  rw [e0] at g
  refine ⟨fun a i h0 hs => g.2.1 a i (lt a h0) (by rw [(X.1 a h0).1]; exact h0) ?_, fun a h0 => g.2.2 a (lt a h0) (by rw [(X.1 a h0).1]; exact h0)⟩
  show c1.2.2.2.1 (ρ1 a) (cw c1 a) i = false
  rw [X.2.2.1, (X.1 a h0).1, (X.1 a h0).2]
  exact hs
/-- out of the frame again -/
theorem ex_o {S : Nat → Nat → Nat → Bool} {h o : Hp} (T : TH ρ c h) (hs : ∀ k w i, S k w i = true → cPm c k w i = true) (X : Ext ρ (cat c S h) ρ1 c1) (T1 : TH ρ1 c1 o) : Ext ρ c ρ1 (c1.1, (c1.2.1, (c1.2.2.1, c.2.2.2))) ∧ TH ρ1 (c1.1, (c1.2.1, (c1.2.2.1, c.2.2.2))) o := by
  have fr := ex_f T X T1
  refine ⟨⟨fun a h0 => X.1 a h0, X.2.1, rfl, X.2.2.2.1, X.2.2.2.2⟩, T1.1, T1.2.1, ?_⟩
  have g : FrG ρ1 c1 (c0 c1) o := T1.2.2
  have e0 : c0 c1 = h := by show c1.2.2.2.2 = h; rw [X.2.2.1]; rfl
  rw [e0] at g
  have lt : ∀ a, ρ a ≠ 0 → a < h.1.1 := fun a ha => by rw [T.1.1]; exact T.2.1.2.2.1 a ha
  have f := T.2.2
  have ol : ∀ a, a < (c0 c).1.1 → ρ1 a = ρ a := fun a l => X.2.2.2.2 a (by show a < c.1.1; rw [← T.1.1]; exact Nat.lt_of_lt_of_le l f.1)
  refine ⟨Nat.le_trans f.1 g.1, fun a i l h0 hz => ?_, fun a l h0 => ?_⟩
  · have q : ρ a ≠ 0 := by rw [← ol a l]; exact h0
    have hz' : cPm c (ρ a) (cw c a) i = false := by
      have : cPm c (ρ1 a) (cw c1 a) i = false := hz
      rw [(X.1 a q).1, (X.1 a q).2] at this
      exact this
    obtain ⟨p1, p2, p3⟩ := f.2.1 a i l q hz'
    have hS : (cat c S h).2.2.2.1 (ρ a) (cw c a) i = false := by
      cases w : S (ρ a) (cw c a) i with
      | false => exact w
      | true => exact absurd (hs _ _ _ w) (by rw [hz']; decide)
    obtain ⟨q1, q2, q3⟩ := fr.1 a i q hS
    exact ⟨q1.trans p1, q2.trans p2, q3.trans p3⟩
  · have q : ρ a ≠ 0 := by rw [← ol a l]; exact h0
    exact (fr.2 a q).trans (f.2.2 a l q)
end
