/-! positions: frames by key and place; whose turn it is -/
/-- W k i: place i of V k may be written -/
def FrV (V : Nat → Nat) (W : Nat → Nat → Bool) (h o : Hp) : Prop := (∀ a i, hR o a i = hR h a i) ∧ ∀ a i, (∀ k, W k i = true → ¬ a = V k) → hI o a i = hI h a i ∧ hJ o a i = hJ h a i
/-- keys and places, out of a list; 999 is any place -/
def wl (L : List (Nat × Nat)) (k i : Nat) : Bool := L.any fun p => p.1 == k && (p.2 == i || p.2 == 999)
section
variable {V : Nat → Nat} {N : Int32} {hc hr oc or h g1 g2 g3 : Hp} {W : Nat → Nat → Bool} {L L' : List (Nat × Nat)} {o o' : Int32 × Hp}
theorem fv_0 : FrV V W h h := ⟨fun _ _ => rfl, fun _ _ _ => ⟨rfl, rfl⟩⟩
theorem fv_t (A : FrV V W g1 g2) (B : FrV V W g2 g3) : FrV V W g1 g3 := ⟨fun a i => (B.1 a i).trans (A.1 a i), fun a i n => ⟨(B.2 a i n).1.trans (A.2 a i n).1, (B.2 a i n).2.trans (A.2 a i n).2⟩⟩
theorem wl_m {k i : Nat} (e : wl L k i = true) : ∃ j, (k, j) ∈ L ∧ (j = i ∨ j = 999) := by
  unfold wl at e
  rw [List.any_eq_true] at e
  obtain ⟨p, hp, z⟩ := e
  rw [Bool.and_eq_true, Bool.or_eq_true, beq_iff_eq, beq_iff_eq, beq_iff_eq] at z
  refine ⟨p.2, ?_, z.2⟩
  rw [← z.1]; exact hp
theorem wl_i {k i j : Nat} (m : (k, j) ∈ L) (z : j = i ∨ j = 999) : wl L k i = true := by
  unfold wl
  rw [List.any_eq_true]
  exact ⟨(k, j), m, by rw [Bool.and_eq_true, Bool.or_eq_true, beq_iff_eq, beq_iff_eq, beq_iff_eq]; exact ⟨rfl, z⟩⟩
theorem fv_s (A : FrV V (wl L) h oc) (e : ∀ p, p ∈ L → p ∈ L') : FrV V (wl L') h oc := ⟨A.1, fun a i n => A.2 a i (fun k z => by
  obtain ⟨j, hj, zz⟩ := wl_m z
  exact n k (wl_i (e _ hj) zz))⟩
theorem fv_w {k i : Nat} {v : Int32} (m : wl L k i = true) : FrV V (wl L) h (wI h (V k) i v) := ⟨fun _ _ => rfl, fun a j n => ⟨by
  rw [r_I, if_neg]
  rintro ⟨z1, z2⟩
  exact n k (by rw [z2]; exact m) z1, rfl⟩⟩
theorem fv_j {k i : Nat} {v : Int64} (m : wl L k i = true) : FrV V (wl L) h (wJ h (V k) i v) := ⟨fun _ _ => rfl, fun a j n => ⟨rfl, by
  rw [r_J, if_neg]
  rintro ⟨z1, z2⟩
  exact n k (by rw [z2]; exact m) z1⟩⟩
/-- what is not in the list is as it was -/
theorem fv_u (D : VD V) (A : FrV V (wl L) h oc) {k i : Nat} (hk : k ∈ vql) (hL : ∀ p, p ∈ L → p.1 ∈ vql) (n : wl L k i = false) : hI oc (V k) i = hI h (V k) i ∧ hJ oc (V k) i = hJ h (V k) i := A.2 _ _ (fun q z w => by
  obtain ⟨j, hj, zz⟩ := wl_m z
  by_cases e : k = q
  · rw [e] at n
    rw [n] at z
    exact absurd z (by decide)
  · exact vne D e hk (hL _ hj) w)
/-- places of positions and of the reading that a reader may write -/
abbrev wcL : List (Nat × Nat) := [(7, 2), (4, 999), (34, 999), (35, 999), (36, 999), (37, 999), (38, 999)]
abbrev wrL : List (Nat × Nat) := [(16, 19), (16, 20), (13, 999), (62, 999), (63, 999), (64, 999), (65, 999)]
theorem wl_f {k i : Nat} (h : ∀ p, p ∈ L → ¬ p.1 = k ∨ (¬ p.2 = i ∧ ¬ p.2 = 999)) : wl L k i = false := by
  cases q : wl L k i with
  | false => rfl
  | true =>
    obtain ⟨j, hj, zz⟩ := wl_m q
    rcases h _ hj with z | z
    · exact absurd rfl z
    · rcases zz with y | y
      · exact absurd y z.1
      · exact absurd y z.2
theorem rdv_w (D : VD V) (S : RdV V N hc hr) (A : FrV V (wl wcL) hc oc) (B : FrV V (wl wrL) hr or) (at' : AtV V N oc or) : RdV V N oc or := by
  have hc1 : ∀ p, p ∈ wcL → p.1 ∈ vql := by decide
  have hr1 : ∀ p, p ∈ wrL → p.1 ∈ vql := by decide
  have c1 : ∀ k, k ∈ vcr → k ∈ vql ∧ ∀ p, p ∈ wcL → ¬ p.1 = k := by decide
  have r1 : ∀ k, k ∈ vrr → k ∈ vql ∧ ∀ p, p ∈ wrL → ¬ p.1 = k := by decide
  refine rdv_k S A.1 (fun k hk i => (fv_u D A (c1 k hk).1 hc1 (wl_f (fun p hp => Or.inl ((c1 k hk).2 p hp)))).1) ((fv_u D A (k := 2) (i := 13) (by decide) hc1 (wl_f (fun p hp => Or.inl ((c1 2 (by decide)).2 p hp)))).2) B.1 (fun k hk i => (fv_u D B (r1 k hk).1 hr1 (wl_f (fun p hp => Or.inl ((r1 k hk).2 p hp)))).1) ((fv_u D B (k := 15) (i := 21) (by decide) hr1 (wl_f (fun p hp => Or.inl ((r1 15 (by decide)).2 p hp)))).2) (fun i hi => ?_) at'
  rcases hi with rfl | rfl | rfl
  · exact (fv_u D B (k := 16) (i := 11) (by decide) hr1 rfl).1
  · exact (fv_u D B (k := 16) (i := 12) (by decide) hr1 rfl).1
  · exact (fv_u D B (k := 16) (i := 18) (by decide) hr1 rfl).1
def PSd (V : Nat → Nat) (hc hr : Hp) : Prop := hI hc (V 4) 5 = hI hr (V 13) 1
abbrev wcS : List (Nat × Nat) := [(7, 2), (4, 5)]
abbrev wrS : List (Nat × Nat) := [(16, 19), (13, 1)]
/-- whose turn it is; then the reference wants a blank -/
theorem side_p (D : VD V) (S : RdV V N hc hr) (e : sX7_readSide hc (V 7) (V 4) = some o) (e' : sX15_readSide hr (V 16) (V 13) = some o') : (o.1 = 0 ∧ o'.1 = 0 ∧ AtV V N o.2 o'.2) ∨ (o.1 = 1 ∧ FrV V (wl wcS) hc o.2 ∧ ∃ g, FrV V (wl wrS) hr g ∧ RdV V N o.2 g ∧ PSd V o.2 g ∧ sX15_reads g (V 16) (32 : Int32) = some o') := by
  have z1 : (1 : Int32).toInt = 1 := rfl
  unfold sX7_readSide sX7_readSide_26 sX7_readSide_38 at e
  unfold sX15_readSide sX15_readSide_20 sX15_readSide_35 at e'
  replace e := cl_s e; obtain ⟨r1, p, e⟩ := e
  rw [r_eq S.1.2.1 p] at e
  replace e := cl_s e; obtain ⟨o2, eo2, e⟩ := e
  replace e' := cl_s e'; obtain ⟨o1, eo1, e'⟩ := e'
  obtain ⟨w2, w1, H⟩ := by_p S eo2 eo1
  have w1' := w1
  rw [w2] at e
  rw [w1] at e'
  have Kw := by_k (k := (119 : Int32)) H ⟨by decide, by decide⟩
  have Kb := by_k (k := (98 : Int32)) H ⟨by decide, by decide⟩
  -- a side is set
  have set : ∀ {v : Int32}, (hI hc (V 7) 2).toInt < N.toInt → (nm (wI hc (V 4) 5 v) fun h_1 => nm (wI h_1 (V 7) 2 ((hI h_1 (V 7) 2) + (1 : Int32))) fun h_2 => some ((1 : Int32), h_2)) = some o → (nm (wI hr (V 13) 1 v) fun h_1 => nm (wI h_1 (V 16) 19 ((hI h_1 (V 16) 19) + (1 : Int32))) fun h_2 => cl (sX15_reads h_2 (V 16) (32 : Int32)) fun o_3 => gd (o_3.1 &&& 1 = o_3.1) <| some (o_3.1, o_3.2)) = some o' → (o.1 = 1 ∧ FrV V (wl wcS) hc o.2 ∧ ∃ g, FrV V (wl wrS) hr g ∧ RdV V N o.2 g ∧ PSd V o.2 g ∧ sX15_reads g (V 16) (32 : Int32) = some o') := fun {v} l u u' => by
    replace u := nm_s u; obtain ⟨h1, v1, u⟩ := u
    replace u := nm_s u; obtain ⟨h2, v2, u⟩ := u
    replace u' := nm_s u'; obtain ⟨k1, y1, u'⟩ := u'
    replace u' := nm_s u'; obtain ⟨k2, y2, u'⟩ := u'
    replace u' := cl_s u'; obtain ⟨o3, eo3, u'⟩ := u'
    have yo := Option.some.inj (gd_s u').2
    have A : FrV V (wl wcS) hc h2 := fv_t (g2 := h1) (by rw [v1]; exact fv_w rfl) (by rw [v2]; exact fv_w rfl)
    have B : FrV V (wl wrS) hr k2 := fv_t (g2 := k1) (by rw [y1]; exact fv_w rfl) (by rw [y2]; exact fv_w rfl)
    have a1 : hI h1 (V 7) 2 = hI hc (V 7) 2 := by rw [v1, rI_a (vne D)]
    have b1 : hI k1 (V 16) 19 = hI hr (V 16) 19 := by rw [y1, rI_a (vne D)]
    obtain ⟨p1, p2, p3⟩ := S.2.2.2.1
    have n12 := S.2.2.1.2.2.1.2
    have at' : AtV V N h2 k2 := by
      refine ⟨?_, ?_, ?_⟩
      · rw [v2, rI_s, y2, rI_s, a1, b1, p1]
      · rw [v2, rI_s, a1, ta (by rw [z1]; omega), z1]; omega
      · rw [v2, rI_s, a1, ta (by rw [z1]; omega), z1]; omega
    have wcm : ∀ p, p ∈ wcS → p ∈ wcL ∨ p = (4, 5) := by decide
    have A' : FrV V (wl wcL) hc h2 := fv_t (g2 := h1) (by rw [v1]; exact fv_w rfl) (by rw [v2]; exact fv_w rfl)
    have B' : FrV V (wl wrL) hr k2 := fv_t (g2 := k1) (by rw [y1]; exact fv_w rfl) (by rw [y2]; exact fv_w rfl)
    rw [← Option.some.inj u]
    refine ⟨rfl, A, k2, B, rdv_w D S A' B' at', ?_, ?_⟩
    · show hI h2 (V 4) 5 = hI k2 (V 13) 1
      rw [v2, rI_a (vne D), v1, rI_s, y2, rI_a (vne D), y1, rI_s]
    · rw [eo3, ← yo]
  have lt : ∀ {k : Int32}, 0 ≤ k.toInt → o2.1 = k → (hI hc (V 7) 2).toInt < N.toInt := fun {k} k0 q => by
    rcases H with ⟨h1, _⟩ | ⟨l, _⟩
    · rw [← q, h1] at k0
      exact absurd k0 (by decide)
    · exact l
  replace e := br_s e
  replace e' := br_s e'
  rcases e with ⟨q, e⟩ | ⟨q, e⟩
  · -- w
    rcases e' with ⟨_, e'⟩ | ⟨q', _⟩
    rotate_left
    · exact absurd (Kw.mp q) q'
    replace e' := cl_s e'; obtain ⟨o3, eo3, e'⟩ := e'
    have y3 : o3 = o1 := Option.some.inj (eo3.symm.trans eo1)
    rw [y3, w1] at e'
    replace e := br_s e
    rcases e with ⟨_, e⟩ | ⟨n, _⟩
    rotate_left
    · exact absurd q n
    replace e' := br_s e'
    rcases e' with ⟨_, e'⟩ | ⟨n, _⟩
    rotate_left
    · exact absurd (Kw.mp q) n
    exact Or.inr (set (lt (by decide) q) e e')
  rcases e' with ⟨q', _⟩ | ⟨_, e'⟩
  · exact absurd (Kw.mpr q') q
  replace e' := cl_s e'; obtain ⟨o3, eo3, e'⟩ := e'
  have y3 : o3 = o1 := Option.some.inj (eo3.symm.trans eo1)
  rw [y3, w1] at e'
  replace e := br_s e
  replace e' := br_s e'
  rcases e with ⟨b, e⟩ | ⟨b, e⟩
  · rcases e' with ⟨_, e'⟩ | ⟨b', _⟩
    rotate_left
    · exact absurd (Kb.mp b) b'
    replace e' := cl_s e'; obtain ⟨o4, eo4, e'⟩ := e'
    have y4 : o4 = o1 := Option.some.inj (eo4.symm.trans eo1)
    rw [y4, w1] at e'
    replace e := br_s e
    rcases e with ⟨n, _⟩ | ⟨_, e⟩
    · exact absurd n q
    replace e' := br_s e'
    rcases e' with ⟨n, _⟩ | ⟨_, e'⟩
    · exact absurd (Kw.mpr n) q
    exact Or.inr (set (lt (by decide) b) e e')
  rcases e' with ⟨b', _⟩ | ⟨_, e'⟩
  · exact absurd (Kb.mpr b') b
  rw [← Option.some.inj e, ← Option.some.inj e']
  exact Or.inl ⟨rfl, rfl, S.2.2.2.1⟩
end
