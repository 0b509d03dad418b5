/-! men and their steps -/
section
variable {T : Nat → Int} {N : Int} {F : Nat} {Z : Nat → Nat} {x2 : Int32} {hc hr oc or hc1 : Hp} {x man mine xi : Int32} {o o' : Int32 × Hp} {i : Nat}
/-- cells that the relation doesn't read: of the class -/
theorem l6_c (D : ZD Z) {k j m : Nat} {v : Int32} (gz : Z 997 = m + 1) (hk : (k = 28 ∧ j = 8 * m + Z 996) ∨ (k = 29 ∧ j = m)) (g8 : Z 996 < 8) (S : LT6 Z hc hr) : LT6 Z (wI hc (Z k) j v) hr := fun q hq => by
  obtain ⟨S1, S2⟩ := S q hq
  rcases hk with ⟨rfl, hj⟩ | ⟨rfl, hj⟩
  · refine ⟨fun n => ?_, fun g i hi => sx_k (S2 g i hi) (rI_o (by omega)) (fun _ _ => rfl)⟩
    obtain ⟨a, b, c⟩ := S1 n
    have w : hI (wI hc (Z 28) j v) (Z 29) q = hI hc (Z 29) q := rI_a (zne D)
    have b2 := b.2
    refine ⟨by rw [w]; exact a, by rw [w]; exact b, fun i hi => ?_⟩
    rw [w] at hi
    exact sx_k (c i hi) (rI_o (by omega)) (fun _ _ => rfl)
  · refine ⟨fun n => ?_, fun g i hi => sx_k (S2 g i hi) (rI_a (zne D)) (fun _ _ => rfl)⟩
    obtain ⟨a, b, c⟩ := S1 n
    have w : hI (wI hc (Z 29) j v) (Z 29) q = hI hc (Z 29) q := rI_o (by omega)
    refine ⟨by rw [w]; exact a, by rw [w]; exact b, fun i hi => ?_⟩
    rw [w] at hi
    exact sx_k (c i hi) (rI_a (zne D)) (fun _ _ => rfl)
theorem l6_r (D : ZD Z) {k j m : Nat} {v : Int32} (gz : Z 997 = m + 1) (hk : k = 75 ∨ k = 76 ∨ k = 77 ∨ k = 78 ∨ k = 79) (hj : j = 8 * m + Z 996) (g8 : Z 996 < 8) (S : LT6 Z hc hr) : LT6 Z hc (wI hr (Z k) j v) := fun q hq => by
  have hz : k ∈ zl ∧ ¬ 15 = k ∧ ¬ 74 = k := by rcases hk with rfl | rfl | rfl | rfl | rfl <;> decide
  rw [rI_a (zne D hz.2.1 (by decide) hz.1)] at hq
  obtain ⟨S1, S2⟩ := S q hq
  have w : ∀ {p a : Nat}, ¬ p = j → hI (wI hr (Z k) j v) (Z a) p = hI hr (Z a) p := fun {p a} n => by rw [r_I, if_neg (fun z => n z.2)]
  refine ⟨fun n => ?_, fun g i hi => sx_k (S2 g i hi) rfl (fun _ _ => w (by omega))⟩
  obtain ⟨a, b, c⟩ := S1 n
  have b2 := b.2
  exact ⟨by rw [rI_a (zne D hz.2.2 (by decide) hz.1)]; exact a, b, fun i hi => sx_k (c i hi) rfl (fun _ _ => w (by omega))⟩
theorem ps_wc (D : ZD Z) {k j m : Nat} {v : Int32} (gz : Z 997 = m + 1) (hk' : (k = 28 ∧ j = 8 * m + Z 996) ∨ (k = 29 ∧ j = m)) (g8 : Z 996 < 8) (P : PS T N Z hc hr) : PS T N Z (wI hc (Z k) j v) hr := by
  have hk : k = 28 ∨ k = 29 := hk'.imp (fun z => z.1) (fun z => z.1)
  obtain ⟨p1, p2, p3, p4, p5, p6⟩ := P
  have w : ∀ {a : Nat}, a ∈ zl → ¬ a = 28 → ¬ a = 29 → ∀ q, hI (wI hc (Z k) j v) (Z a) q = hI hc (Z a) q := fun ha n n' q => by
    rcases hk with rfl | rfl
    · exact rI_a (zne D n ha)
    · exact rI_a (zne D n' ha)
  refine ⟨p1, p2, ?_, p4, ?_, ls_kk p6 (w (by decide) (by decide) (by decide) _) (fun q => w (by decide) (by decide) (by decide) q) rfl (fun a q ha => ?_) rfl (fun _ => rfl) rfl (fun _ _ _ => rfl) (by rw [w (by decide) (by decide) (by decide)]; exact p6.2.2.2.2.2.2.2.2.2.2.2.1) (l6_c D gz hk' g8 (ls_6 p6))⟩
  · obtain ⟨a1, a2, a3, b, a4, a5, a6⟩ := p3
    have y : b = Z 49 := r_eq p1.2.2.1 a4
    rw [y] at a4 a5 a6
    exact ⟨a1, a2, by rw [w (by decide) (by decide) (by decide)]; exact a3, Z 49, a4, a5, fun q hq => by rw [w (by decide) (by decide) (by decide)]; exact a6 q hq⟩
  · obtain ⟨p', k', A, B', ek⟩ := p5
    exact ⟨p', k', by rw [w (by decide) (by decide) (by decide), w (by decide) (by decide) (by decide), w (by decide) (by decide) (by decide), w (by decide) (by decide) (by decide)]; exact A, B', ek⟩
  · rcases ha with rfl | rfl | rfl <;> exact w (by decide) (by decide) (by decide) q
/-- and of the reference -/
theorem ps_wr (D : ZD Z) {k j m : Nat} {v : Int32} (gz : Z 997 = m + 1) (hk : k = 75 ∨ k = 76 ∨ k = 77 ∨ k = 78 ∨ k = 79) (hj : j = 8 * m + Z 996) (g8 : Z 996 < 8) (P : PS T N Z hc hr) : PS T N Z hc (wI hr (Z k) j v) := by
  obtain ⟨p1, p2, p3, p4, p5, p6⟩ := P
  have w : ∀ {a : Nat}, a ∈ zl → ¬ (a = 75 ∨ a = 76 ∨ a = 77 ∨ a = 78 ∨ a = 79) → ∀ q, hI (wI hr (Z k) j v) (Z a) q = hI hr (Z a) q := fun {a} ha n q => by
    have hz : k ∈ zl := by rcases hk with rfl | rfl | rfl | rfl | rfl <;> decide
    exact rI_a (zne D (fun z => n (by rw [z]; exact hk)) ha hz)
  refine ⟨p1, p2, p3, fun q hq => by rw [w (by decide) (by decide)]; exact p4 q hq, ?_, ls_kk p6 rfl (fun _ => rfl) rfl (fun _ _ _ => rfl) (w (by decide) (by decide) _) (fun q => w (by decide) (by decide) q) rfl (fun a q ha => ?_) p6.2.2.2.2.2.2.2.2.2.2.2.1 (l6_r D gz hk hj g8 (ls_6 p6))⟩
  · obtain ⟨p', k', A, B', ek⟩ := p5
    exact ⟨p', k', A, by rw [w (by decide) (by decide), w (by decide) (by decide), w (by decide) (by decide)]; exact B', by rw [w (by decide) (by decide)]; exact ek⟩
  · rcases ha with rfl | rfl | rfl | rfl <;> exact w (by decide) (by decide) q
theorem kn_0 (P : PS T N Z hc hr) : (hI hc (Z 3) 4).toInt = 4 → hI hr (Z 16) 6 = (3 : Int32) := fun k => by
  have f := (ts_f P.2.2.2.2.1).2.2.1
  rw [k] at f
  exact Int32.toInt_inj.mp f
/-- the six words of a step -/
theorem fl_r (n12 : N ≤ 1200) (P : PS T N Z hc hr) (e : sX2_stepFlag F hc (Z 3) = some o) (e' : sX15_flagAt F hr (Z 16) (Z 82) = some o') : o.2 = hc ∧ o'.2 = hr ∧ o.1 = o'.1 ∧ (o.1 = 0 ∨ o.1 = 1 ∨ o.1 = 2 ∨ o.1 = 4 ∨ o.1 = 8 ∨ o.1 = 16 ∨ o.1 = 32) := by
  unfold sX2_stepFlag sX2_stepFlag_72 at e
  unfold sX15_flagAt sX15_flagAt_88 at e'
  have one : ∀ {i i' : Nat} {A B : Int32 × Hp → Option (Int32 × Hp)} {A' B' : Int32 × Hp → Option (Int32 × Hp)}, lB i = lB i' → (lB i).length < 2147483648 → (cl (sX2_isWord F hc (Z 3) i) fun q => br (q.1 = 0) (A q) (B q)) = some o → (cl (sX15_isWord F hr (Z 16) (Z 82) i') fun q => br (q.1 = 0) (A' q) (B' q)) = some o' → (∃ q q' : Int32 × Hp, q.2 = hc ∧ q'.2 = hr ∧ A q = some o ∧ A' q' = some o') ∨ ∃ q q' : Int32 × Hp, q.2 = hc ∧ q'.2 = hr ∧ B q = some o ∧ B' q' = some o' := fun hl sm e e' => by
    replace e := cl_s e
    obtain ⟨o1, e1, e⟩ := e
    replace e' := cl_s e'
    obtain ⟨o2, e2, e'⟩ := e'
    obtain ⟨q1, q2, q3⟩ := iw_r n12 P.2.2.1 P.2.2.2.1 P.2.2.2.2.1 hl sm e1 e2
    replace e := br_s e
    replace e' := br_s e'
    rcases e with ⟨b, e⟩ | ⟨b, e⟩
    · rcases e' with ⟨_, e'⟩ | ⟨b', _⟩
      · exact Or.inl ⟨o1, o2, q1, q2, e, e'⟩
      · rw [← q3] at b'; exact absurd b b'
    · rcases e' with ⟨b', _⟩ | ⟨_, e'⟩
      · rw [← q3] at b'; exact absurd b' b
      · exact Or.inr ⟨o1, o2, q1, q2, e, e'⟩
  rcases one (i := 5) (i' := 31) rfl (by decide) e e' with ⟨q, q', h1, h2, e, e'⟩ | ⟨q, q', h1, h2, e, e'⟩
  rotate_left
  · rw [h1] at e; rw [h2] at e'; rw [← Option.some.inj e, ← Option.some.inj e']; exact ⟨rfl, rfl, rfl, by dsimp only; decide⟩
  rw [h1] at e
  rw [h2] at e'
  rcases one (i := 6) (i' := 32) rfl (by decide) e e' with ⟨q, q', h1, h2, e, e'⟩ | ⟨q, q', h1, h2, e, e'⟩
  rotate_left
  · rw [h1] at e; rw [h2] at e'; rw [← Option.some.inj e, ← Option.some.inj e']; exact ⟨rfl, rfl, rfl, by dsimp only; decide⟩
  rw [h1] at e
  rw [h2] at e'
  rcases one (i := 7) (i' := 33) rfl (by decide) e e' with ⟨q, q', h1, h2, e, e'⟩ | ⟨q, q', h1, h2, e, e'⟩
  rotate_left
  · rw [h1] at e; rw [h2] at e'; rw [← Option.some.inj e, ← Option.some.inj e']; exact ⟨rfl, rfl, rfl, by dsimp only; decide⟩
  rw [h1] at e
  rw [h2] at e'
  rcases one (i := 8) (i' := 34) rfl (by decide) e e' with ⟨q, q', h1, h2, e, e'⟩ | ⟨q, q', h1, h2, e, e'⟩
  rotate_left
  · rw [h1] at e; rw [h2] at e'; rw [← Option.some.inj e, ← Option.some.inj e']; exact ⟨rfl, rfl, rfl, by dsimp only; decide⟩
  rw [h1] at e
  rw [h2] at e'
  rcases one (i := 9) (i' := 35) rfl (by decide) e e' with ⟨q, q', h1, h2, e, e'⟩ | ⟨q, q', h1, h2, e, e'⟩
  rotate_left
  · rw [h1] at e; rw [h2] at e'; rw [← Option.some.inj e, ← Option.some.inj e']; exact ⟨rfl, rfl, rfl, by dsimp only; decide⟩
  rw [h1] at e
  rw [h2] at e'
  rcases one (i := 10) (i' := 36) rfl (by decide) e e' with ⟨q, q', h1, h2, e, e'⟩ | ⟨q, q', h1, h2, e, e'⟩
  · rw [h1] at e; rw [h2] at e'; rw [← Option.some.inj e, ← Option.some.inj e']; exact ⟨rfl, rfl, rfl, by dsimp only; decide⟩
  · rw [h1] at e; rw [h2] at e'; rw [← Option.some.inj e, ← Option.some.inj e']; exact ⟨rfl, rfl, rfl, by dsimp only; decide⟩
end
