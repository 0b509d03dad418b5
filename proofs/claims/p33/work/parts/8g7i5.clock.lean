/-! positions: the clock, read by both, and the text's end -/
abbrev wcC : List (Nat × Nat) := [(7, 2), (4, 6)]
abbrev wrC : List (Nat × Nat) := [(16, 19), (13, 7)]
section
variable {F : Nat} {V : Nat → Nat} {N x2 : Int32} {hc hr : Hp} {o o' : Int32 × Hp}
/-- what reading the clock comes to -/
def ClE (V : Nat → Nat) (N : Int32) (hc hr : Hp) (o o' : Int32 × Hp) : Prop := (o.1 = 0 ∧ o'.1 = 0 ∧ AtV V N o.2 o'.2) ∨ (o.1 = 1 ∧ FrV V (wl wcC) hc o.2 ∧ FrV V (wl wrC) hr o'.2 ∧ RdV V N o.2 o'.2 ∧ PCl V o.2 o'.2 ∧ ((o'.1 = 1 ∧ hI o.2 (V 7) 2 = N) ∨ (o'.1 = 0 ∧ (hI o.2 (V 7) 2).toInt < N.toInt)))
theorem cl_end {v : Int32} (D : VD V) (S : RdV V N hc hr) (ev : hI hc (V 4) 6 = v) (f0 : 0 ≤ x2.toInt) (lt : x2.toInt < (hI hc (V 7) 2).toInt) (e : sX7_readClock_71 F hc (V 7) (V 4) x2 = some o) (e' : sX15_readRest_124 F hr (V 16) (V 13) x2 v = some o') : ClE V N hc hr o o' := by
  obtain ⟨p1, p2, p3⟩ := S.2.2.2.1
  unfold sX7_readClock_71 sX7_readClock_86 sX7_readClock_99 at e
  unfold sX15_readRest_124 sX15_readRest_159 at e'
  rw [ev] at e
  replace e' := nm_s e'; obtain ⟨k1, w1, e'⟩ := e'
  have B1 : FrV V (wl wrC) hr k1 := by rw [w1]; exact fv_w rfl
  have at1 : AtV V N hc k1 := by
    refine ⟨?_, p2, p3⟩
    rw [w1, rI_a (vne D)]; exact p1
  have S1 : RdV V N hc k1 := rdv_w D S fv_0 (sub_l B1 (by decide)) at1
  have t18 : hI k1 (V 16) 18 = N := S1.2.2.1.2.1
  replace e := br_s e
  replace e' := br_s e'
  rcases e with ⟨q, e⟩ | ⟨q, e⟩
  · rcases e' with ⟨_, e'⟩ | ⟨n, _⟩
    rotate_left
    · exact absurd q n
    replace e := br_s e
    rcases e with ⟨n, _⟩ | ⟨_, e⟩
    · have := le_i n; omega
    have y := Option.some.inj (gd_s e).2
    have P1 : PCl V hc k1 := by
      unfold PCl
      rw [w1, rI_s]; exact ev
    rw [t18, ← at1.1] at e'
    replace e' := br_s e'
    refine Or.inr ?_
    rcases e' with ⟨b, e'⟩ | ⟨b, e'⟩
    · have y' := Option.some.inj (gd_s e').2
      rw [← y, ← y']
      exact ⟨rfl, fv_0, B1, S1, P1, Or.inl ⟨rfl, b⟩⟩
    · have y' := Option.some.inj (gd_s e').2
      rw [← y, ← y']
      refine ⟨rfl, fv_0, B1, S1, P1, Or.inr ⟨rfl, ?_⟩⟩
      show (hI hc (V 7) 2).toInt < N.toInt
      rcases Int.lt_or_le (hI hc (V 7) 2).toInt N.toInt with z | z
      · exact z
      · exact absurd (Int32.toInt_inj.mp (by omega)) b
  · rcases e' with ⟨n, _⟩ | ⟨_, e'⟩
    · exact absurd n q
    replace e := nm_s e; obtain ⟨h2, w2, e⟩ := e
    replace e' := nm_s e'; obtain ⟨k4, w4, e'⟩ := e'
    have a2 : hI h2 (V 7) 2 = x2 := by rw [w2, rI_s]
    rw [a2] at e
    replace e := br_s e
    rcases e with ⟨_, e⟩ | ⟨n, _⟩
    rotate_left
    · exact absurd (ii_le.mpr (Int.le_refl _)) n
    have y := Option.some.inj (gd_s e).2
    rw [← y, ← Option.some.inj e']
    refine Or.inl ⟨rfl, rfl, ?_, ?_, ?_⟩
    · show hI h2 (V 7) 2 = hI k4 (V 16) 19
      rw [a2, w4, rI_s]
    · show 0 ≤ (hI h2 (V 7) 2).toInt
      rw [a2]; exact f0
    · show (hI h2 (V 7) 2).toInt ≤ N.toInt
      rw [a2]; omega
theorem cl_7 (D : VD V) (f0 : 0 ≤ x2.toInt) : ∀ (f g : Nat) {hc hr : Hp} {v x3 : Int32}, RdV V N hc hr → hI hc (V 4) 6 = v → (0 ≤ v.toInt ∧ (v.toInt ≤ 0 ∨ (1 ≤ x3.toInt ∧ v.toInt ≤ 9) ∨ (2 ≤ x3.toInt ∧ v.toInt ≤ 99) ∨ (3 ≤ x3.toInt ∧ v.toInt ≤ 999))) → 0 ≤ x3.toInt → x3.toInt ≤ 3 → (hI hc (V 7) 2).toInt = x2.toInt + x3.toInt → (x3 = 0 → ∀ o3 o4, sX9_byteAt hc (V 10) (hI hc (V 7) 2) = some o3 → sX2_isDigit hc o3.1 = some o4 → ¬ o4.1 = 0) → sX7_readClock_7 F f hc (V 7) (V 4) x2 x3 = some o → sX15_readRest_79 F g hr (V 16) (V 13) x2 v x3 = some o' → ClE V N hc hr o o' := by
  have z1 : (1 : Int32).toInt = 1 := rfl
  have z0 : (0 : Int32).toInt = 0 := rfl
  have z3 : (3 : Int32).toInt = 3 := rfl
  have z10 : (10 : Int32).toInt = 10 := rfl
  have z48 : (48 : Int32).toInt = 48 := rfl
  intro f
  induction f with
  | zero => intro g hc hr v x3 _ _ _ _ _ _ _ e; exact absurd e (by rw [sX7_readClock_7]; exact fun z => nomatch z)
  | succ f ih =>
    intro g hc hr v x3 S ev bv a3 b3 at3 dg e e'
    cases g with
    | zero => exact absurd e' (by rw [sX15_readRest_79]; exact fun z => nomatch z)
    | succ g =>
      rw [sX7_readClock_7] at e
      rw [sX15_readRest_79] at e'
      replace e := br_s e
      replace e' := br_s e'
      rcases e with ⟨l, e⟩ | ⟨l, e⟩
      · rcases e' with ⟨_, e'⟩ | ⟨n, _⟩
        rotate_left
        · exact absurd l n
        have l := le_i l
        rw [z3] at l
        exact cl_end D S ev f0 (by omega) e e'
      rcases e' with ⟨n, _⟩ | ⟨_, e'⟩
      · exact absurd n l
      have l := nle_i l
      rw [z3] at l
      replace e := cl_s e; obtain ⟨r2, p, e⟩ := e
      rw [r_eq S.1.2.1 p] at e
      replace e := cl_s e; obtain ⟨o3, eo3, e⟩ := e
      replace e' := cl_s e'; obtain ⟨o2, eo2, e'⟩ := e'
      obtain ⟨w3, w2, H⟩ := by_p S eo3 eo2
      rw [w3] at e
      rw [w2] at e'
      replace e := cl_s e; obtain ⟨o4, eo4, e⟩ := e
      replace e' := cl_s e'; obtain ⟨o5, eo5, e'⟩ := e'
      obtain ⟨w4, w5, alt⟩ := dg_b H eo4 eo5
      rw [w4] at e
      rw [w5] at e'
      replace e := br_s e
      replace e' := br_s e'
      rcases alt with ⟨c1, c2⟩ | ⟨c1, c2, yx, rg, lt⟩
      · rcases e with ⟨_, e⟩ | ⟨n, _⟩
        rotate_left
        · exact absurd c1 n
        rcases e' with ⟨_, e'⟩ | ⟨n, _⟩
        rotate_left
        · exact absurd c2 n
        have n0 : ¬ x3 = 0 := fun z => dg z o3 o4 eo3 eo4 c1
        have p3 : 0 < x3.toInt := by
          rcases Int.lt_or_le 0 x3.toInt with z | z
          · exact z
          · exact absurd (Int32.toInt_inj.mp (by rw [z0]; omega)) n0
        exact cl_end D S ev f0 (by omega) e e'
      rcases e with ⟨n, _⟩ | ⟨_, e⟩
      · exact absurd n c1
      rcases e' with ⟨n, _⟩ | ⟨_, e'⟩
      · exact absurd n c2
      replace e := cl_s e; obtain ⟨r6, p, e⟩ := e
      rw [r_eq S.1.2.1 p] at e
      replace e := cl_s e; obtain ⟨o7, eo7, e⟩ := e
      have y7 : o7 = o3 := Option.some.inj (eo7.symm.trans eo3)
      rw [y7, w3, ev] at e
      replace e := nm_s e; obtain ⟨h8, w8, e⟩ := e
      replace e := nm_s e; obtain ⟨h9, w9, e⟩ := e
      replace e := nm_s e; obtain ⟨v10, w10, e⟩ := e
      replace e' := cl_s e'; obtain ⟨o6, eo6, e'⟩ := e'
      have y6 : o6 = o2 := Option.some.inj (eo6.symm.trans eo2)
      rw [y6, w2, yx] at e'
      replace e' := nm_s e'; obtain ⟨v6, u6, e'⟩ := e'
      replace e' := nm_s e'; obtain ⟨k7, u7, e'⟩ := e'
      replace e' := nm_s e'; obtain ⟨v8, u8, e'⟩ := e'
      rw [u8, ← w10] at e'
      have g1 := rg.1
      have g2 := rg.2
      have m1 : ((10 : Int32) * v).toInt = 10 * v.toInt := by rw [tm (by rw [z10]; omega), z10]
      have m2 : (((10 : Int32) * v) + o3.1).toInt = 10 * v.toInt + o3.1.toInt := by rw [ta (by rw [m1]; omega), m1]
      have m3 : v6.toInt = 10 * v.toInt + o3.1.toInt - 48 := by rw [u6, ts (by rw [m2, z48]; omega), m2, z48]
      have A : FrV V (wl wcC) hc h9 := fv_t (g2 := h8) (by rw [w8]; exact fv_w rfl) (by rw [w9]; exact fv_w rfl)
      have B : FrV V (wl wrC) hr k7 := by rw [u7]; exact fv_w rfl
      have a1 : hI h8 (V 7) 2 = hI hc (V 7) 2 := by rw [w8, rI_a (vne D)]
      obtain ⟨p1, p2, p3⟩ := S.2.2.2.1
      have n12 := S.2.2.1.2.2.1.2
      have t9 : (hI h9 (V 7) 2).toInt = (hI hc (V 7) 2).toInt + 1 := by rw [w9, rI_s, a1, ta (by rw [z1]; omega), z1]
      have at' : AtV V N h9 k7 := by
        refine ⟨?_, by omega, by omega⟩
        rw [w9, rI_s, u7, rI_s, a1, p1]
      have S' := rdv_w D S (sub_l A (by decide)) (sub_l B (by decide)) at'
      have tx : v10.toInt = x3.toInt + 1 := by rw [w10, ta (by rw [z1]; omega), z1]
      have ev' : hI h9 (V 4) 6 = v6 := by rw [w9, rI_a (vne D), w8, rI_s, u6]
      have bv' : 0 ≤ v6.toInt ∧ (v6.toInt ≤ 0 ∨ (1 ≤ v10.toInt ∧ v6.toInt ≤ 9) ∨ (2 ≤ v10.toInt ∧ v6.toInt ≤ 99) ∨ (3 ≤ v10.toInt ∧ v6.toInt ≤ 999)) := by omega
      rcases ih g S' ev' bv' (by omega) (by omega) (by omega) (fun z => by rw [z, z0] at tx; omega) e e' with r | ⟨r1, r2, r3, r4⟩
      · exact Or.inl r
      · exact Or.inr ⟨r1, fv_t A r2, fv_t B r3, r4⟩
end
