section
/-! a square's name, read by both -/
def CFr (V : Nat → Nat) (hc oc : Hp) : Prop := (∀ a i, hR oc a i = hR hc a i) ∧ (∀ a i, hJ oc a i = hJ hc a i) ∧ ∀ a i, ¬ (a = V 7 ∧ i = 2) → hI oc a i = hI hc a i
def RFr (V : Nat → Nat) (hr or : Hp) : Prop := (∀ a i, hR or a i = hR hr a i) ∧ (∀ a i, hJ or a i = hJ hr a i) ∧ ∀ a i, ¬ (a = V 16 ∧ (i = 19 ∨ i = 20)) → hI or a i = hI hr a i
section
variable {F : Nat} {V : Nat → Nat} {N : Int32} {hc hr oc or : Hp} {o o' : Int32 × Hp}
theorem cfr_0 : CFr V hc hc := ⟨fun _ _ => rfl, fun _ _ => rfl, fun _ _ _ => rfl⟩
theorem rfr_0 : RFr V hr hr := ⟨fun _ _ => rfl, fun _ _ => rfl, fun _ _ _ => rfl⟩
theorem cfr_t {g1 g2 g3 : Hp} (A : CFr V g1 g2) (B : CFr V g2 g3) : CFr V g1 g3 := ⟨fun a i => (B.1 a i).trans (A.1 a i), fun a i => (B.2.1 a i).trans (A.2.1 a i), fun a i n => (B.2.2 a i n).trans (A.2.2 a i n)⟩
theorem rfr_t {g1 g2 g3 : Hp} (A : RFr V g1 g2) (B : RFr V g2 g3) : RFr V g1 g3 := ⟨fun a i => (B.1 a i).trans (A.1 a i), fun a i => (B.2.1 a i).trans (A.2.1 a i), fun a i n => (B.2.2 a i n).trans (A.2.2 a i n)⟩
theorem cfr_w {v : Int32} : CFr V hc (wI hc (V 7) 2 v) := ⟨fun _ _ => rfl, fun _ _ => rfl, fun a i n => by rw [r_I, if_neg n]⟩
theorem rfr_w {v : Int32} {j : Nat} (hj : j = 19 ∨ j = 20) : RFr V hr (wI hr (V 16) j v) := ⟨fun _ _ => rfl, fun _ _ => rfl, fun a i n => by
  rw [r_I, if_neg]
  rintro ⟨z1, z2⟩
  exact n ⟨z1, by rw [z2]; exact hj⟩⟩
theorem rdv_f (D : VD V) (S : RdV V N hc hr) (A : CFr V hc oc) (B : RFr V hr or) (at' : AtV V N oc or) : RdV V N oc or := by
  refine rdv_k S A.1 (fun k hk i => A.2.2 _ _ (fun z => ?_)) (A.2.1 _ _) B.1 (fun k hk i => B.2.2 _ _ (fun z => ?_)) (B.2.1 _ _) (fun i hi => B.2.2 _ _ (fun z => by omega)) at'
  · have : ∀ k, k ∈ vcr → k ∈ vql ∧ ¬ k = 7 := by decide
    exact vne D (this k hk).2 (this k hk).1 (by decide) z.1
  · have : ∀ k, k ∈ vrr → k ∈ vql ∧ ¬ k = 16 := by decide
    exact vne D (this k hk).2 (this k hk).1 (by decide) z.1
/-- one sign of a square's name -/
theorem dgt {b y k w : Int32} {P : Prop} (H : (b = (-1 : Int32) ∧ y = (-1 : Int32) ∧ P) ∨ (hI hc (V 7) 2).toInt < N.toInt ∧ Rg 0 255 b ∧ y.toInt = sg b.toInt) (ik : Rg 49 97 k) (iw : Rg 3 8 w) : (¬ (b - k) < (0 : Int32) ∧ (b - k) < w ∧ ¬ y = (-1 : Int32) ∧ ¬ (y - k) < (0 : Int32) ∧ (y - k) < w ∧ b - k = y - k ∧ Rg 0 7 (y - k) ∧ (y - k).toInt < w.toInt ∧ (hI hc (V 7) 2).toInt < N.toInt) ∨ (((b - k) < (0 : Int32) ∨ ¬ (b - k) < w) ∧ (y = (-1 : Int32) ∨ (y - k) < (0 : Int32) ∨ ¬ (y - k) < w)) := by
  have z0 : (0 : Int32).toInt = 0 := rfl
  have zm : (-1 : Int32).toInt = -1 := by decide
  have k0 := ik.1
  have k1 := ik.2
  have w0 := iw.1
  have w1 := iw.2
  rcases H with ⟨h1, h2, _⟩ | ⟨l, h2, h3⟩
  · refine Or.inr ⟨Or.inl ?_, Or.inl h2⟩
    rw [h1]
    exact ii_lt.mpr (by rw [ts (by rw [zm]; omega), zm, z0]; omega)
  have b0 := h2.1
  have b1 := h2.2
  have tb : (b - k).toInt = b.toInt - k.toInt := ts (by omega)
  have sy : -128 ≤ y.toInt ∧ y.toInt ≤ 127 := by
    rw [h3]
    unfold sg
    split <;> omega
  have ty : (y - k).toInt = y.toInt - k.toInt := ts (by omega)
  by_cases c : b.toInt < 128
  · have e : y.toInt = b.toInt := by rw [h3]; unfold sg; rw [if_pos c]
    by_cases d : k.toInt ≤ b.toInt ∧ b.toInt - k.toInt < w.toInt
    · refine Or.inl ⟨fun z => ?_, ii_lt.mpr (by omega), fun z => ?_, fun z => ?_, ii_lt.mpr (by omega), Int32.toInt_inj.mp (by omega), ⟨by omega, by omega⟩, by omega, l⟩
      · have := lt_i z
        rw [z0] at this
        omega
      · rw [z, zm] at e
        omega
      · have := lt_i z
        rw [z0] at this
        omega
    · by_cases f : k.toInt ≤ b.toInt
      · refine Or.inr ⟨Or.inr (fun z => ?_), Or.inr (Or.inr (fun z => ?_))⟩
        · have := lt_i z
          omega
        · have := lt_i z
          omega
      · refine Or.inr ⟨Or.inl (ii_lt.mpr (by rw [z0]; omega)), Or.inr (Or.inl (ii_lt.mpr (by rw [z0]; omega)))⟩
  · have e : y.toInt = b.toInt - 256 := by rw [h3]; unfold sg; rw [if_neg c]
    refine Or.inr ⟨Or.inr (fun z => ?_), Or.inr (Or.inl (ii_lt.mpr (by rw [z0]; omega)))⟩
    have := lt_i z
    omega
/-- a square's name -/
theorem sq_p (D : VD V) (S : RdV V N hc hr) {x1 : Int32} (e : sX7_readSquare hc (V 7) = some o) (e' : sX15_readSquare hr (V 16) x1 = some o') : CFr V hc o.2 ∧ RFr V hr o'.2 ∧ ((o.1 = (-1 : Int32) ∧ o'.1 = 0 ∧ AtV V N o.2 o'.2) ∨ (Rg 0 63 o.1 ∧ hI o'.2 (V 16) 20 = o.1 ∧ ((x1.toInt < o.1.toInt ∧ o'.1 = 1 ∧ AtV V N o.2 o'.2) ∨ (o.1.toInt ≤ x1.toInt ∧ o'.1 = 0 ∧ hI o'.2 (V 16) 19 = hI hc (V 7) 2)))) := by
  have z1 : (1 : Int32).toInt = 1 := rfl
  obtain ⟨g1, g2, g3, g4⟩ := S.2.2.2.2.1
  obtain ⟨p1, p2, p3⟩ := S.2.2.2.1
  have n12 := S.2.2.1.2.2.1.2
  unfold sX7_readSquare sX7_readSquare_30 sX7_readSquare_72 at e
  unfold sX15_readSquare sX15_readSquare_28 sX15_readSquare_68 at e'
  replace e := cl_s e; obtain ⟨r1, p, e⟩ := e
  rw [r_eq S.1.2.1 p] at e
  replace e := cl_s e; obtain ⟨o2, eo2, e⟩ := e
  replace e' := cl_s e'; obtain ⟨o1, eo1, e'⟩ := e'
  obtain ⟨w2, w1, H⟩ := by_p S eo2 eo1
  rw [w2] at e
  rw [w1] at e'
  replace e := nm_s e; obtain ⟨v3, wv3, e⟩ := e
  replace e' := nm_s e'; obtain ⟨v2, wv2, e'⟩ := e'
  rw [wv3] at e
  rw [wv2] at e'
  replace e' := cl_s e'; obtain ⟨o3, eo3, e'⟩ := e'
  have y3 : o3 = o1 := Option.some.inj (eo3.symm.trans eo1)
  rw [y3, w1] at e'
  have nope : ∀ {g g' : Hp}, CFr V hc g → RFr V hr g' → AtV V N g g' → some ((-1 : Int32), g) = some o → some ((0 : Int32), g') = some o' → CFr V hc o.2 ∧ RFr V hr o'.2 ∧ ((o.1 = (-1 : Int32) ∧ o'.1 = 0 ∧ AtV V N o.2 o'.2) ∨ (Rg 0 63 o.1 ∧ hI o'.2 (V 16) 20 = o.1 ∧ ((x1.toInt < o.1.toInt ∧ o'.1 = 1 ∧ AtV V N o.2 o'.2) ∨ (o.1.toInt ≤ x1.toInt ∧ o'.1 = 0 ∧ hI o'.2 (V 16) 19 = hI hc (V 7) 2)))) := fun {g g'} A B C u u' => by
    rw [← Option.some.inj u, ← Option.some.inj u']
    exact ⟨A, B, Or.inl ⟨rfl, rfl, C⟩⟩
  rcases dgt (k := (97 : Int32)) (w := hI hc (V 2) 0) H ⟨by decide, by decide⟩ g3 with ⟨d1, d2, d3, d4, d5, d6, d7, d8, l⟩ | ⟨d1, d2⟩
  rotate_left
  · -- no file
    have ec : some ((-1 : Int32), hc) = some o := by
      replace e := br_s e
      rcases e with ⟨_, e⟩ | ⟨q, e⟩
      · exact e
      replace e := cl_s e; obtain ⟨r5, p, e⟩ := e
      rw [r_eq S.1.1 p] at e
      replace e := br_s e
      rcases e with ⟨q', _⟩ | ⟨_, e⟩
      · rcases d1 with d1 | d1
        · exact absurd d1 q
        · exact absurd q' d1
      · exact e
    have er : some ((0 : Int32), hr) = some o' := by
      replace e' := br_s e'
      rcases e' with ⟨_, e'⟩ | ⟨q1, e'⟩
      · exact e'
      replace e' := br_s e'
      rcases e' with ⟨_, e'⟩ | ⟨q2, e'⟩
      · exact e'
      rw [← g1] at e'
      replace e' := br_s e'
      rcases e' with ⟨q3, _⟩ | ⟨_, e'⟩
      · rcases d2 with d2 | d2 | d2
        · exact absurd d2 q1
        · exact absurd d2 q2
        · exact absurd q3 d2
      · exact e'
    exact nope cfr_0 rfr_0 S.2.2.2.1 ec er
  replace e := br_s e
  rcases e with ⟨q, _⟩ | ⟨_, e⟩
  · exact absurd q d1
  replace e := cl_s e; obtain ⟨r5, p, e⟩ := e
  rw [r_eq S.1.1 p] at e
  replace e := br_s e
  rcases e with ⟨_, e⟩ | ⟨q, _⟩
  rotate_left
  · exact absurd d2 q
  replace e := nm_s e; obtain ⟨h7, w7, e⟩ := e
  replace e' := br_s e'
  rcases e' with ⟨q, _⟩ | ⟨_, e'⟩
  · exact absurd q d3
  replace e' := br_s e'
  rcases e' with ⟨q, _⟩ | ⟨_, e'⟩
  · exact absurd q d4
  rw [← g1] at e'
  replace e' := br_s e'
  rcases e' with ⟨_, e'⟩ | ⟨q, _⟩
  rotate_left
  · exact absurd d5 q
  replace e' := nm_s e'; obtain ⟨k7, u7, e'⟩ := e'
  have S7 : RdV V N h7 k7 := by rw [w7, u7]; exact at_1 D S l
  have A7 : CFr V hc h7 := by rw [w7]; exact cfr_w
  have B7 : RFr V hr k7 := by rw [u7]; exact rfr_w (Or.inl rfl)
  obtain ⟨g1', g2', g3', g4'⟩ := S7.2.2.2.2.1
  have f7 : hI h7 (V 2) 0 = hI hc (V 2) 0 := A7.2.2 _ _ (fun z => (vne D : ¬ V 2 = V 7) z.1)
  have t7 : (hI h7 (V 7) 2).toInt = (hI hc (V 7) 2).toInt + 1 := by rw [w7, rI_s, ta (by rw [z1]; omega), z1]
  replace e := cl_s e; obtain ⟨r8, p, e⟩ := e
  rw [r_eq S7.1.2.1 p] at e
  replace e := cl_s e; obtain ⟨o9, eo9, e⟩ := e
  replace e' := cl_s e'; obtain ⟨o8, eo8, e'⟩ := e'
  obtain ⟨w9, w8, H'⟩ := by_p S7 eo9 eo8
  rw [w9] at e
  rw [w8] at e'
  replace e := nm_s e; obtain ⟨v10, wv10, e⟩ := e
  replace e' := nm_s e'; obtain ⟨v9, wv9, e'⟩ := e'
  rw [wv10] at e
  rw [wv9] at e'
  replace e' := cl_s e'; obtain ⟨o10, eo10, e'⟩ := e'
  have y10 : o10 = o8 := Option.some.inj (eo10.symm.trans eo8)
  rw [y10, w8] at e'
  rcases dgt (k := (49 : Int32)) (w := hI h7 (V 2) 1) H' ⟨by decide, by decide⟩ g4' with ⟨c1, c2, c3, c4, c5, c6, c7, c8, l'⟩ | ⟨c1, c2⟩
  rotate_left
  · -- no rank
    have ec : some ((-1 : Int32), h7) = some o := by
      replace e := br_s e
      rcases e with ⟨_, e⟩ | ⟨q, e⟩
      · exact e
      replace e := cl_s e; obtain ⟨r12, p, e⟩ := e
      rw [r_eq S7.1.1 p] at e
      replace e := br_s e
      rcases e with ⟨q', _⟩ | ⟨_, e⟩
      · rcases c1 with c1 | c1
        · exact absurd c1 q
        · exact absurd q' c1
      · exact e
    have er : some ((0 : Int32), k7) = some o' := by
      replace e' := br_s e'
      rcases e' with ⟨_, e'⟩ | ⟨q1, e'⟩
      · exact e'
      replace e' := br_s e'
      rcases e' with ⟨_, e'⟩ | ⟨q2, e'⟩
      · exact e'
      rw [← g2'] at e'
      replace e' := br_s e'
      rcases e' with ⟨q3, _⟩ | ⟨_, e'⟩
      · rcases c2 with c2 | c2 | c2
        · exact absurd c2 q1
        · exact absurd c2 q2
        · exact absurd q3 c2
      · exact e'
    exact nope A7 B7 S7.2.2.2.1 ec er
  replace e := br_s e
  rcases e with ⟨q, _⟩ | ⟨_, e⟩
  · exact absurd q c1
  replace e := cl_s e; obtain ⟨r12, p, e⟩ := e
  rw [r_eq S7.1.1 p] at e
  replace e := br_s e
  rcases e with ⟨_, e⟩ | ⟨q, _⟩
  rotate_left
  · exact absurd c2 q
  replace e := nm_s e; obtain ⟨h14, w14, e⟩ := e
  replace e := cl_s e; obtain ⟨r15, p, e⟩ := e
  rw [r_eq (by rw [w14]; exact S7.1.1) p] at e
  replace e' := br_s e'
  rcases e' with ⟨q, _⟩ | ⟨_, e'⟩
  · exact absurd q c3
  replace e' := br_s e'
  rcases e' with ⟨q, _⟩ | ⟨_, e'⟩
  · exact absurd q c4
  rw [← g2'] at e'
  replace e' := br_s e'
  rcases e' with ⟨_, e'⟩ | ⟨q, _⟩
  rotate_left
  · exact absurd c5 q
  replace e' := nm_s e'; obtain ⟨k14, u14, e'⟩ := e'
  have f14 : hI h14 (V 2) 0 = hI hc (V 2) 0 := by rw [w14, rI_a (vne D)]; exact f7
  have fr7 : hI k7 (V 16) 11 = hI hc (V 2) 0 := by rw [← g1']; exact f7
  rw [f14, c6, d6] at e
  rw [fr7] at u14
  have y := Option.some.inj e
  have A14 : CFr V hc h14 := cfr_t A7 (by rw [w14]; exact cfr_w)
  have B14 : RFr V hr k14 := rfr_t B7 (by rw [u14]; exact rfr_w (Or.inr rfl))
  have fl0 := g3.1
  have fl1 := g3.2
  have rk1 := c7.1
  have rk2 := c7.2
  have dd0 := d7.1
  have dd1 := d7.2
  have mul : 0 ≤ (o8.1 - (49 : Int32)).toInt * (hI hc (V 2) 0).toInt ∧ (o8.1 - (49 : Int32)).toInt * (hI hc (V 2) 0).toInt ≤ 56 := by
    have m1 := Int.mul_nonneg rk1 (show 0 ≤ (hI hc (V 2) 0).toInt by omega)
    have m2 : (o8.1 - (49 : Int32)).toInt * (hI hc (V 2) 0).toInt ≤ 7 * 8 := Int.mul_le_mul rk2 fl1 (by omega) (by decide)
    exact ⟨m1, by omega⟩
  have tmm : ((o8.1 - (49 : Int32)) * (hI hc (V 2) 0)).toInt = (o8.1 - (49 : Int32)).toInt * (hI hc (V 2) 0).toInt := tm (by omega)
  have tsq : (((o8.1 - (49 : Int32)) * (hI hc (V 2) 0)) + (o1.1 - (97 : Int32))).toInt = (o8.1 - (49 : Int32)).toInt * (hI hc (V 2) 0).toInt + (o1.1 - (97 : Int32)).toInt := by rw [ta (by rw [tmm]; omega), tmm]
  have k20 : hI k14 (V 16) 20 = ((o8.1 - (49 : Int32)) * (hI hc (V 2) 0)) + (o1.1 - (97 : Int32)) := by rw [u14, rI_s]
  have k19 : hI k14 (V 16) 19 = hI k7 (V 16) 19 := by rw [u14, rI_o (by decide)]
  have at7 := S7.2.2.2.1
  have ro : Rg 0 63 o.1 := by
    rw [← y]
    exact ⟨by rw [tsq]; omega, by rw [tsq]; omega⟩
  have oo2 : o.2 = h14 := by rw [← y]
  have oo1 : o.1 = ((o8.1 - (49 : Int32)) * (hI hc (V 2) 0)) + (o1.1 - (97 : Int32)) := by rw [← y]
  rw [k20, ← oo1] at e'
  replace e' := br_s e'
  rcases e' with ⟨q, e'⟩ | ⟨q, e'⟩
  · have q := lt_i q
    replace e' := nm_s e'; obtain ⟨k16, u16, e'⟩ := e'
    rw [← Option.some.inj e', oo2]
    refine ⟨A14, rfr_t B14 (by show RFr V k14 k16; rw [u16]; exact rfr_w (Or.inl rfl)), Or.inr ⟨ro, by show hI k16 (V 16) 20 = _; rw [u16, rI_o (by decide), k20, oo1], Or.inl ⟨q, rfl, ?_, ?_, ?_⟩⟩⟩
    · show hI h14 (V 7) 2 = hI k16 (V 16) 19
      rw [w14, rI_s, u16, rI_s, k19, ← at7.1]
    · show 0 ≤ (hI h14 (V 7) 2).toInt
      rw [w14, rI_s, ta (by rw [z1]; omega), z1]; omega
    · show (hI h14 (V 7) 2).toInt ≤ _
      rw [w14, rI_s, ta (by rw [z1]; omega), z1]; omega
  · have q := nlt_i q
    replace e' := nm_s e'; obtain ⟨k17, u17, e'⟩ := e'
    rw [← Option.some.inj e', oo2]
    refine ⟨A14, rfr_t B14 (by show RFr V k14 k17; rw [u17]; exact rfr_w (Or.inl rfl)), Or.inr ⟨ro, by show hI k17 (V 16) 20 = _; rw [u17, rI_o (by decide), k20, oo1], Or.inr ⟨q, rfl, ?_⟩⟩⟩
    show hI k17 (V 16) 19 = _
    rw [u17, rI_s, k19, ← at7.1]
    apply Int32.toInt_inj.mp
    rw [ts (by rw [z1, t7]; omega), z1, t7]
    omega
end
end
section
/-! positions: frames by key and place; whose turn it is -/
/-- W k i: place i of V k may be written -/
def FrV (V : Nat → Nat) (W : Nat → Nat → Bool) (h o : Hp) : Prop := (∀ a i, hR o a i = hR h a i) ∧ ∀ a i, (∀ k, W k i = true → ¬ a = V k) → hI o a i = hI h a i ∧ hJ o a i = hJ h a i
/-- keys and places, out of a list; 999 is any place -/
def wl (L : List (Nat × Nat)) (k i : Nat) : Bool := L.any fun p => p.1 == k && (p.2 == i || p.2 == 999)
section
variable {V : Nat → Nat} {N : Int32} {hc hr oc or h g1 g2 g3 : Hp} {W : Nat → Nat → Bool} {L L' : List (Nat × Nat)} {o o' : Int32 × Hp}
theorem fv_0 : FrV V W h h := ⟨fun _ _ => rfl, fun _ _ _ => ⟨rfl, rfl⟩⟩
theorem fv_t (A : FrV V W g1 g2) (B : FrV V W g2 g3) : FrV V W g1 g3 := ⟨fun a i => (B.1 a i).trans (A.1 a i), fun a i n => ⟨(B.2 a i n).1.trans (A.2 a i n).1, (B.2 a i n).2.trans (A.2 a i n).2⟩⟩
theorem wl_m {k i : Nat} (e : wl L k i = true) : ∃ j, (k, j) ∈ L ∧ (j = i ∨ j = 999) := by
  unfold wl at e
  rw [List.any_eq_true] at e
  obtain ⟨p, hp, z⟩ := e
  rw [Bool.and_eq_true, Bool.or_eq_true, beq_iff_eq, beq_iff_eq, beq_iff_eq] at z
  refine ⟨p.2, ?_, z.2⟩
  rw [← z.1]; exact hp
theorem wl_i {k i j : Nat} (m : (k, j) ∈ L) (z : j = i ∨ j = 999) : wl L k i = true := by
  unfold wl
  rw [List.any_eq_true]
  exact ⟨(k, j), m, by rw [Bool.and_eq_true, Bool.or_eq_true, beq_iff_eq, beq_iff_eq, beq_iff_eq]; exact ⟨rfl, z⟩⟩
theorem fv_s (A : FrV V (wl L) h oc) (e : ∀ p, p ∈ L → p ∈ L') : FrV V (wl L') h oc := ⟨A.1, fun a i n => A.2 a i (fun k z => by
  obtain ⟨j, hj, zz⟩ := wl_m z
  exact n k (wl_i (e _ hj) zz))⟩
theorem fv_w {k i : Nat} {v : Int32} (m : wl L k i = true) : FrV V (wl L) h (wI h (V k) i v) := ⟨fun _ _ => rfl, fun a j n => ⟨by
  rw [r_I, if_neg]
  rintro ⟨z1, z2⟩
  exact n k (by rw [z2]; exact m) z1, rfl⟩⟩
theorem fv_j {k i : Nat} {v : Int64} (m : wl L k i = true) : FrV V (wl L) h (wJ h (V k) i v) := ⟨fun _ _ => rfl, fun a j n => ⟨rfl, by
  rw [r_J, if_neg]
  rintro ⟨z1, z2⟩
  exact n k (by rw [z2]; exact m) z1⟩⟩
/-- what is not in the list is as it was -/
theorem fv_u (D : VD V) (A : FrV V (wl L) h oc) {k i : Nat} (hk : k ∈ vql) (hL : ∀ p, p ∈ L → p.1 ∈ vql) (n : wl L k i = false) : hI oc (V k) i = hI h (V k) i ∧ hJ oc (V k) i = hJ h (V k) i := A.2 _ _ (fun q z w => by
  obtain ⟨j, hj, zz⟩ := wl_m z
  by_cases e : k = q
  · rw [e] at n
    rw [n] at z
    exact absurd z (by decide)
  · exact vne D e hk (hL _ hj) w)
/-- places of positions and of the reading that a reader may write -/
abbrev wcL : List (Nat × Nat) := [(7, 2), (4, 999), (34, 999), (35, 999), (36, 999), (37, 999), (38, 999)]
abbrev wrL : List (Nat × Nat) := [(16, 19), (16, 20), (13, 999), (62, 999), (63, 999), (64, 999), (65, 999)]
theorem wl_f {k i : Nat} (h : ∀ p, p ∈ L → ¬ p.1 = k ∨ (¬ p.2 = i ∧ ¬ p.2 = 999)) : wl L k i = false := by
  cases q : wl L k i with
  | false => rfl
  | true =>
    obtain ⟨j, hj, zz⟩ := wl_m q
    rcases h _ hj with z | z
    · exact absurd rfl z
    · rcases zz with y | y
      · exact absurd y z.1
      · exact absurd y z.2
theorem rdv_w (D : VD V) (S : RdV V N hc hr) (A : FrV V (wl wcL) hc oc) (B : FrV V (wl wrL) hr or) (at' : AtV V N oc or) : RdV V N oc or := by
  have hc1 : ∀ p, p ∈ wcL → p.1 ∈ vql := by decide
  have hr1 : ∀ p, p ∈ wrL → p.1 ∈ vql := by decide
  have c1 : ∀ k, k ∈ vcr → k ∈ vql ∧ ∀ p, p ∈ wcL → ¬ p.1 = k := by decide
  have r1 : ∀ k, k ∈ vrr → k ∈ vql ∧ ∀ p, p ∈ wrL → ¬ p.1 = k := by decide
  refine rdv_k S A.1 (fun k hk i => (fv_u D A (c1 k hk).1 hc1 (wl_f (fun p hp => Or.inl ((c1 k hk).2 p hp)))).1) ((fv_u D A (k := 2) (i := 13) (by decide) hc1 (wl_f (fun p hp => Or.inl ((c1 2 (by decide)).2 p hp)))).2) B.1 (fun k hk i => (fv_u D B (r1 k hk).1 hr1 (wl_f (fun p hp => Or.inl ((r1 k hk).2 p hp)))).1) ((fv_u D B (k := 15) (i := 21) (by decide) hr1 (wl_f (fun p hp => Or.inl ((r1 15 (by decide)).2 p hp)))).2) (fun i hi => ?_) at'
  rcases hi with rfl | rfl | rfl
  · exact (fv_u D B (k := 16) (i := 11) (by decide) hr1 rfl).1
  · exact (fv_u D B (k := 16) (i := 12) (by decide) hr1 rfl).1
  · exact (fv_u D B (k := 16) (i := 18) (by decide) hr1 rfl).1
def PSd (V : Nat → Nat) (hc hr : Hp) : Prop := hI hc (V 4) 5 = hI hr (V 13) 1
abbrev wcS : List (Nat × Nat) := [(7, 2), (4, 5)]
abbrev wrS : List (Nat × Nat) := [(16, 19), (13, 1)]
/-- whose turn it is; then the reference wants a blank -/
theorem side_p (D : VD V) (S : RdV V N hc hr) (e : sX7_readSide hc (V 7) (V 4) = some o) (e' : sX15_readSide hr (V 16) (V 13) = some o') : (o.1 = 0 ∧ o'.1 = 0 ∧ AtV V N o.2 o'.2) ∨ (o.1 = 1 ∧ FrV V (wl wcS) hc o.2 ∧ ∃ g, FrV V (wl wrS) hr g ∧ RdV V N o.2 g ∧ PSd V o.2 g ∧ sX15_reads g (V 16) (32 : Int32) = some o') := by
  have z1 : (1 : Int32).toInt = 1 := rfl
  unfold sX7_readSide sX7_readSide_26 sX7_readSide_38 at e
  unfold sX15_readSide sX15_readSide_20 sX15_readSide_35 at e'
  replace e := cl_s e; obtain ⟨r1, p, e⟩ := e
  rw [r_eq S.1.2.1 p] at e
  replace e := cl_s e; obtain ⟨o2, eo2, e⟩ := e
  replace e' := cl_s e'; obtain ⟨o1, eo1, e'⟩ := e'
  obtain ⟨w2, w1, H⟩ := by_p S eo2 eo1
  have w1' := w1
  rw [w2] at e
  rw [w1] at e'
  have Kw := by_k (k := (119 : Int32)) H ⟨by decide, by decide⟩
  have Kb := by_k (k := (98 : Int32)) H ⟨by decide, by decide⟩
  -- a side is set
  have set : ∀ {v : Int32}, (hI hc (V 7) 2).toInt < N.toInt → (nm (wI hc (V 4) 5 v) fun h_1 => nm (wI h_1 (V 7) 2 ((hI h_1 (V 7) 2) + (1 : Int32))) fun h_2 => some ((1 : Int32), h_2)) = some o → (nm (wI hr (V 13) 1 v) fun h_1 => nm (wI h_1 (V 16) 19 ((hI h_1 (V 16) 19) + (1 : Int32))) fun h_2 => cl (sX15_reads h_2 (V 16) (32 : Int32)) fun o_3 => gd (o_3.1 &&& 1 = o_3.1) <| some (o_3.1, o_3.2)) = some o' → (o.1 = 1 ∧ FrV V (wl wcS) hc o.2 ∧ ∃ g, FrV V (wl wrS) hr g ∧ RdV V N o.2 g ∧ PSd V o.2 g ∧ sX15_reads g (V 16) (32 : Int32) = some o') := fun {v} l u u' => by
    replace u := nm_s u; obtain ⟨h1, v1, u⟩ := u
    replace u := nm_s u; obtain ⟨h2, v2, u⟩ := u
    replace u' := nm_s u'; obtain ⟨k1, y1, u'⟩ := u'
    replace u' := nm_s u'; obtain ⟨k2, y2, u'⟩ := u'
    replace u' := cl_s u'; obtain ⟨o3, eo3, u'⟩ := u'
    have yo := Option.some.inj (gd_s u').2
    have A : FrV V (wl wcS) hc h2 := fv_t (g2 := h1) (by rw [v1]; exact fv_w rfl) (by rw [v2]; exact fv_w rfl)
    have B : FrV V (wl wrS) hr k2 := fv_t (g2 := k1) (by rw [y1]; exact fv_w rfl) (by rw [y2]; exact fv_w rfl)
    have a1 : hI h1 (V 7) 2 = hI hc (V 7) 2 := by rw [v1, rI_a (vne D)]
    have b1 : hI k1 (V 16) 19 = hI hr (V 16) 19 := by rw [y1, rI_a (vne D)]
    obtain ⟨p1, p2, p3⟩ := S.2.2.2.1
    have n12 := S.2.2.1.2.2.1.2
    have at' : AtV V N h2 k2 := by
      refine ⟨?_, ?_, ?_⟩
      · rw [v2, rI_s, y2, rI_s, a1, b1, p1]
      · rw [v2, rI_s, a1, ta (by rw [z1]; omega), z1]; omega
      · rw [v2, rI_s, a1, ta (by rw [z1]; omega), z1]; omega
    have wcm : ∀ p, p ∈ wcS → p ∈ wcL ∨ p = (4, 5) := by decide
    have A' : FrV V (wl wcL) hc h2 := fv_t (g2 := h1) (by rw [v1]; exact fv_w rfl) (by rw [v2]; exact fv_w rfl)
    have B' : FrV V (wl wrL) hr k2 := fv_t (g2 := k1) (by rw [y1]; exact fv_w rfl) (by rw [y2]; exact fv_w rfl)
    rw [← Option.some.inj u]
    refine ⟨rfl, A, k2, B, rdv_w D S A' B' at', ?_, ?_⟩
    · show hI h2 (V 4) 5 = hI k2 (V 13) 1
      rw [v2, rI_a (vne D), v1, rI_s, y2, rI_a (vne D), y1, rI_s]
    · rw [eo3, ← yo]
  have lt : ∀ {k : Int32}, 0 ≤ k.toInt → o2.1 = k → (hI hc (V 7) 2).toInt < N.toInt := fun {k} k0 q => by
    rcases H with ⟨h1, _⟩ | ⟨l, _⟩
    · rw [← q, h1] at k0
      exact absurd k0 (by decide)
    · exact l
  replace e := br_s e
  replace e' := br_s e'
  rcases e with ⟨q, e⟩ | ⟨q, e⟩
  · -- w
    rcases e' with ⟨_, e'⟩ | ⟨q', _⟩
    rotate_left
    · exact absurd (Kw.mp q) q'
    replace e' := cl_s e'; obtain ⟨o3, eo3, e'⟩ := e'
    have y3 : o3 = o1 := Option.some.inj (eo3.symm.trans eo1)
    rw [y3, w1] at e'
    replace e := br_s e
    rcases e with ⟨_, e⟩ | ⟨n, _⟩
    rotate_left
    · exact absurd q n
    replace e' := br_s e'
    rcases e' with ⟨_, e'⟩ | ⟨n, _⟩
    rotate_left
    · exact absurd (Kw.mp q) n
    exact Or.inr (set (lt (by decide) q) e e')
  rcases e' with ⟨q', _⟩ | ⟨_, e'⟩
  · exact absurd (Kw.mpr q') q
  replace e' := cl_s e'; obtain ⟨o3, eo3, e'⟩ := e'
  have y3 : o3 = o1 := Option.some.inj (eo3.symm.trans eo1)
  rw [y3, w1] at e'
  replace e := br_s e
  replace e' := br_s e'
  rcases e with ⟨b, e⟩ | ⟨b, e⟩
  · rcases e' with ⟨_, e'⟩ | ⟨b', _⟩
    rotate_left
    · exact absurd (Kb.mp b) b'
    replace e' := cl_s e'; obtain ⟨o4, eo4, e'⟩ := e'
    have y4 : o4 = o1 := Option.some.inj (eo4.symm.trans eo1)
    rw [y4, w1] at e'
    replace e := br_s e
    rcases e with ⟨n, _⟩ | ⟨_, e⟩
    · exact absurd n q
    replace e' := br_s e'
    rcases e' with ⟨n, _⟩ | ⟨_, e'⟩
    · exact absurd (Kw.mpr n) q
    exact Or.inr (set (lt (by decide) b) e e')
  rcases e' with ⟨b', _⟩ | ⟨_, e'⟩
  · exact absurd (Kb.mpr b') b
  rw [← Option.some.inj e, ← Option.some.inj e']
  exact Or.inl ⟨rfl, rfl, S.2.2.2.1⟩
end
end
section
/-! positions: rights, read by both -/
def PRt (V : Nat → Nat) (hc hr : Hp) : Prop := hJ hc (V 4) 8 = hJ hr (V 13) 2
abbrev wcT : List (Nat × Nat) := [(7, 2), (4, 8)]
abbrev wrT : List (Nat × Nat) := [(16, 19), (16, 20), (13, 2)]
section
variable {F : Nat} {V : Nat → Nat} {N : Int32} {hc hr oc or : Hp} {L : List (Nat × Nat)} {o o' : Int32 × Hp}
theorem cfr_v (A : CFr V hc oc) (m : wl L 7 2 = true) : FrV V (wl L) hc oc := ⟨A.1, fun a i n => ⟨A.2.2 a i (fun z => n 7 (by rw [z.2]; exact m) z.1), A.2.1 a i⟩⟩
theorem rfr_v (A : RFr V hr or) (m : wl L 16 19 = true) (m' : wl L 16 20 = true) : FrV V (wl L) hr or := ⟨A.1, fun a i n => ⟨A.2.2 a i (fun z => by
  rcases z.2 with y | y
  · exact n 16 (by rw [y]; exact m) z.1
  · exact n 16 (by rw [y]; exact m') z.1), A.2.1 a i⟩⟩
/-- a list that is part of what readers may write -/
theorem sub_c (A : FrV V (wl wcT) hc oc) : FrV V (wl wcL) hc oc := ⟨A.1, fun a i n => A.2 a i (fun k z => by
  obtain ⟨j, hj, zz⟩ := wl_m z
  have : ∀ p, p ∈ wcT → (p.1, p.2) ∈ wcL ∨ (p.1, 999) ∈ wcL := by decide
  rcases this _ hj with y | y
  · exact n k (wl_i y zz)
  · exact n k (wl_i y (Or.inr rfl)))⟩
theorem sub_r (A : FrV V (wl wrT) hr or) : FrV V (wl wrL) hr or := ⟨A.1, fun a i n => A.2 a i (fun k z => by
  obtain ⟨j, hj, zz⟩ := wl_m z
  have : ∀ p, p ∈ wrT → (p.1, p.2) ∈ wrL ∨ (p.1, 999) ∈ wrL := by decide
  rcases this _ hj with y | y
  · exact n k (wl_i y zz)
  · exact n k (wl_i y (Or.inr rfl)))⟩
theorem rt_15 (D : VD V) : ∀ (f g : Nat) {hc hr : Hp} {x2 x3 : Int32}, RdV V N hc hr → PRt V hc hr → Rg (-1) 63 x2 → 0 ≤ x3.toInt → x3.toInt ≤ x2.toInt + 1 → (x3 = 0 ↔ x2 = (-1 : Int32)) → sX7_readRights_15 F f hc (V 7) (V 4) x2 x3 = some o → sX15_readRights_18 F g hr (V 16) (V 13) x2 = some o' → (o.1 = 0 ∧ o'.1 = 0 ∧ AtV V N o.2 o'.2) ∨ (o.1 = 1 ∧ FrV V (wl wcT) hc o.2 ∧ ∃ g, FrV V (wl wrT) hr g ∧ RdV V N o.2 g ∧ PRt V o.2 g ∧ sX15_reads g (V 16) (32 : Int32) = some o') := by
  have z1 : (1 : Int32).toInt = 1 := rfl
  have z0 : (0 : Int32).toInt = 0 := rfl
  have zm : (-1 : Int32).toInt = -1 := by decide
  have z64 : (64 : Int32).toInt = 64 := rfl
  intro f
  induction f with
  | zero => intro g hc hr x2 x3 _ _ _ _ _ _ e; exact absurd e (by rw [sX7_readRights_15]; exact fun z => nomatch z)
  | succ f ih =>
    intro g hc hr x2 x3 S Pq i2 a3 b3 iff e e'
    cases g with
    | zero => exact absurd e' (by rw [sX15_readRights_18]; exact fun z => nomatch z)
    | succ g =>
      rw [sX7_readRights_15] at e
      rw [sX15_readRights_18] at e'
      have x20 := i2.1
      have x21 := i2.2
      -- one square more
      have nxt : sX7_readRights_41 F (sX7_readRights_15 F f) hc (V 7) (V 4) x2 x3 = some o → sX15_readRights_32 F (sX15_readRights_18 F g) hr (V 16) (V 13) x2 = some o' → (o.1 = 0 ∧ o'.1 = 0 ∧ AtV V N o.2 o'.2) ∨ (o.1 = 1 ∧ FrV V (wl wcT) hc o.2 ∧ ∃ g, FrV V (wl wrT) hr g ∧ RdV V N o.2 g ∧ PRt V o.2 g ∧ sX15_reads g (V 16) (32 : Int32) = some o') := fun e e' => by
        unfold sX7_readRights_41 at e
        unfold sX15_readRights_32 at e'
        replace e := nm_s e; obtain ⟨v1, wv1, e⟩ := e
        replace e := cl_s e; obtain ⟨o2, eo2, e⟩ := e
        replace e' := cl_s e'; obtain ⟨o1, eo1, e'⟩ := e'
        obtain ⟨A, B, alt⟩ := sq_p D S eo2 eo1
        rcases alt with ⟨c1, c2, at'⟩ | ⟨ro, k20, alt⟩
        · replace e := br_s e
          replace e' := br_s e'
          rcases e with ⟨_, e⟩ | ⟨n, _⟩
          rotate_left
          · exact absurd c1 n
          rcases e' with ⟨_, e'⟩ | ⟨n, _⟩
          rotate_left
          · exact absurd c2 n
          rw [← Option.some.inj e, ← Option.some.inj e']
          exact Or.inl ⟨rfl, rfl, at'⟩
        have ro0 := ro.1
        have ro1 := ro.2
        replace e := br_s e
        rcases e with ⟨n, _⟩ | ⟨_, e⟩
        · rw [n, zm] at ro0; omega
        replace e := br_s e
        replace e' := br_s e'
        rcases alt with ⟨l, c2, at'⟩ | ⟨l, c2, k19⟩
        · rcases e with ⟨_, e⟩ | ⟨n, _⟩
          rotate_left
          · exact absurd (ii_lt.mpr l) n
          rcases e' with ⟨n, _⟩ | ⟨_, e'⟩
          · rw [c2] at n; exact absurd n (by decide)
          replace e := nm_s e; obtain ⟨h5, w5, e⟩ := e
          replace e := nm_s e; obtain ⟨v6, w6, e⟩ := e
          replace e' := nm_s e'; obtain ⟨v3, w3, e'⟩ := e'
          rw [w3, k20] at e'
          replace e' := nm_s e'; obtain ⟨h4, w4, e'⟩ := e'
          have A5 : FrV V (wl wcT) hc h5 := fv_t (g2 := o2.2) (cfr_v A rfl) (by rw [w5]; exact fv_j rfl)
          have B4 : FrV V (wl wrT) hr h4 := fv_t (g2 := o1.2) (rfr_v B rfl rfl) (by rw [w4]; exact fv_j rfl)
          have at5 : AtV V N h5 h4 := by rw [w5, w4]; exact at'
          have S5 : RdV V N h5 h4 := rdv_w D S (sub_c A5) (sub_r B4) at5
          have P5 : PRt V h5 h4 := by
            unfold PRt
            rw [w5, r_J, if_pos ⟨rfl, rfl⟩, w4, r_J, if_pos ⟨rfl, rfl⟩, A.2.1, B.2.1]
            have := Pq
            unfold PRt at this
            rw [this]
          have tx : v6.toInt = x3.toInt + 1 := by rw [w6, ta (by rw [z1]; omega), z1]
          rcases ih g S5 P5 ⟨by omega, ro1⟩ (by omega) (by omega) ⟨fun z => by rw [z, z0] at tx; omega, fun z => by rw [z, zm] at ro0; omega⟩ e e' with r | ⟨r1, r2, q, r3, r4⟩
          · exact Or.inl r
          · exact Or.inr ⟨r1, fv_t A5 r2, q, fv_t B4 r3, r4⟩
        · rcases e with ⟨n, _⟩ | ⟨_, e⟩
          · have := lt_i n; omega
          rcases e' with ⟨_, e'⟩ | ⟨n, _⟩
          rotate_left
          · exact absurd c2 n
          replace e := nm_s e; obtain ⟨h7, w7, e⟩ := e
          rw [← Option.some.inj e, ← Option.some.inj e']
          obtain ⟨p1, p2, p3⟩ := S.2.2.2.1
          refine Or.inl ⟨rfl, rfl, ?_, ?_, ?_⟩
          · show hI h7 (V 7) 2 = hI o1.2 (V 16) 19
            rw [w7, rI_s, wv1, k19]
          · show 0 ≤ (hI h7 (V 7) 2).toInt
            rw [w7, rI_s, wv1]; exact p2
          · show (hI h7 (V 7) 2).toInt ≤ _
            rw [w7, rI_s, wv1]; exact p3
      replace e := br_s e
      rcases e with ⟨l, _⟩ | ⟨_, e⟩
      · have l := lt_i l
        rw [z64] at l
        omega
      replace e := br_s e
      replace e' := br_s e'
      rcases e with ⟨q, e⟩ | ⟨q, e⟩
      · rcases e' with ⟨_, e'⟩ | ⟨n, _⟩
        rotate_left
        · exact absurd (iff.mp q) n
        exact nxt e e'
      rcases e' with ⟨n, _⟩ | ⟨_, e'⟩
      · exact absurd (iff.mpr n) q
      replace e := cl_s e; obtain ⟨r3, p, e⟩ := e
      rw [r_eq S.1.2.1 p] at e
      replace e := cl_s e; obtain ⟨o4, eo4, e⟩ := e
      replace e' := cl_s e'; obtain ⟨o2, eo2, e'⟩ := e'
      obtain ⟨w4, w2, H⟩ := by_p S eo4 eo2
      rw [w4] at e
      rw [w2] at e'
      have K := by_k (k := (32 : Int32)) H ⟨by decide, by decide⟩
      replace e := br_s e
      replace e' := br_s e'
      rcases e with ⟨b, e⟩ | ⟨b, e⟩
      · rcases e' with ⟨_, e'⟩ | ⟨n, _⟩
        rotate_left
        · exact absurd (K.mp b) n
        unfold sX7_readRights_97 at e
        replace e' := cl_s e'; obtain ⟨o3, eo3, e'⟩ := e'
        have y' := Option.some.inj (gd_s e').2
        rw [← Option.some.inj e]
        exact Or.inr ⟨rfl, fv_0, hr, fv_0, S, Pq, by rw [eo3, ← y']⟩
      rcases e' with ⟨n, _⟩ | ⟨_, e'⟩
      · exact absurd (K.mpr n) b
      exact nxt e e'
/-- rights; then the reference wants a blank -/
theorem rt_p (D : VD V) (S : RdV V N hc hr) (Pq : PRt V hc hr) (e : sX7_readRights F hc (V 7) (V 4) = some o) (e' : sX15_readRights F hr (V 16) (V 13) = some o') : (o.1 = 0 ∧ o'.1 = 0 ∧ AtV V N o.2 o'.2) ∨ (o.1 = 1 ∧ FrV V (wl wcT) hc o.2 ∧ ∃ g, FrV V (wl wrT) hr g ∧ RdV V N o.2 g ∧ PRt V o.2 g ∧ sX15_reads g (V 16) (32 : Int32) = some o') := by
  unfold sX7_readRights at e
  unfold sX15_readRights at e'
  replace e := cl_s e; obtain ⟨o1, eo1, e⟩ := e
  replace e' := cl_s e'; obtain ⟨k1, ek1, e'⟩ := e'
  rcases tk_p D S ⟨by decide, by decide⟩ eo1 ek1 with ⟨y, y'⟩ | ⟨y, y', S1⟩
  · rw [y] at e
    rw [y'] at e'
    dsimp only at e e'
    replace e := br_s e
    replace e' := br_s e'
    rcases e with ⟨_, e⟩ | ⟨n, _⟩
    rotate_left
    · exact absurd rfl n
    rcases e' with ⟨_, e'⟩ | ⟨n, _⟩
    rotate_left
    · exact absurd rfl n
    exact rt_15 D F F S Pq ⟨by decide, by decide⟩ (by decide) (by decide) ⟨fun _ => rfl, fun _ => rfl⟩ e e'
  · have v1 : o1.1 = 1 := by rw [y]
    have v1' : k1.1 = 1 := by rw [y']
    replace e := br_s e
    replace e' := br_s e'
    rcases e with ⟨n, _⟩ | ⟨_, e⟩
    · rw [v1] at n; exact absurd n (by decide)
    rcases e' with ⟨n, _⟩ | ⟨_, e'⟩
    · rw [v1'] at n; exact absurd n (by decide)
    replace e' := cl_s e'; obtain ⟨o3, eo3, e'⟩ := e'
    have yy := Option.some.inj (gd_s e').2
    have A1 : FrV V (wl wcT) hc o1.2 := by rw [y]; exact fv_w rfl
    have B1 : FrV V (wl wrT) hr k1.2 := by rw [y']; exact fv_w rfl
    rw [← Option.some.inj e]
    refine Or.inr ⟨rfl, A1, k1.2, B1, S1, ?_, by rw [eo3, ← yy]⟩
    show hJ o1.2 (V 4) 8 = hJ k1.2 (V 13) 2
    rw [y, y']
    exact Pq
end
end
section
/-! positions: checks and clock, read by both -/
def VPc (V : Nat → Nat) (h : Hp) : Prop := hR h (V 4) 0 = some (V 34) ∧ hR h (V 4) 1 = some (V 35) ∧ hR h (V 4) 2 = some (V 36) ∧ hR h (V 4) 3 = some (V 37) ∧ hR h (V 4) 4 = some (V 38)
def VPr (V : Nat → Nat) (h : Hp) : Prop := hR h (V 13) 0 = some (V 62) ∧ hR h (V 13) 4 = some (V 63) ∧ hR h (V 13) 5 = some (V 64) ∧ hR h (V 13) 6 = some (V 65)
def PCk (V : Nat → Nat) (n : Int) (hc hr : Hp) : Prop := ∀ i : Nat, (i : Int) < n → hI hc (V 38) i = hI hr (V 65) i
def PCl (V : Nat → Nat) (hc hr : Hp) : Prop := hI hc (V 4) 6 = hI hr (V 13) 7
abbrev wcK : List (Nat × Nat) := [(7, 2), (38, 999)]
abbrev wrK : List (Nat × Nat) := [(16, 19), (65, 999)]
section
variable {F : Nat} {V : Nat → Nat} {N : Int32} {hc hr oc or : Hp} {L L' : List (Nat × Nat)} {o o' : Int32 × Hp}
theorem vpc_f {W : Nat → Nat → Bool} (P : VPc V hc) (A : FrV V W hc oc) : VPc V oc := ⟨by rw [A.1]; exact P.1, by rw [A.1]; exact P.2.1, by rw [A.1]; exact P.2.2.1, by rw [A.1]; exact P.2.2.2.1, by rw [A.1]; exact P.2.2.2.2⟩
theorem vpr_f {W : Nat → Nat → Bool} (P : VPr V hr) (A : FrV V W hr or) : VPr V or := ⟨by rw [A.1]; exact P.1, by rw [A.1]; exact P.2.1, by rw [A.1]; exact P.2.2.1, by rw [A.1]; exact P.2.2.2⟩
/-- a list within a wider one (by place, or by any place) -/
theorem sub_l (A : FrV V (wl L) hc oc) (e : ∀ p, p ∈ L → (p.1, p.2) ∈ L' ∨ (p.1, 999) ∈ L') : FrV V (wl L') hc oc := ⟨A.1, fun a i n => A.2 a i (fun k z => by
  obtain ⟨j, hj, zz⟩ := wl_m z
  rcases e _ hj with y | y
  · exact n k (wl_i y zz)
  · exact n k (wl_i y (Or.inr rfl)))⟩
/-- a digit -/
theorem dg_b {x y : Int32} {P : Prop} (H : (x = (-1 : Int32) ∧ y = (-1 : Int32) ∧ P) ∨ (hI hc (V 7) 2).toInt < N.toInt ∧ Rg 0 255 x ∧ y.toInt = sg x.toInt) (e : sX2_isDigit oc x = some o) (e' : sX15_isDigit or y = some o') : o.2 = oc ∧ o'.2 = or ∧ ((o.1 = 0 ∧ o'.1 = 0) ∨ (¬ o.1 = 0 ∧ ¬ o'.1 = 0 ∧ y = x ∧ Rg 48 57 x ∧ (hI hc (V 7) 2).toInt < N.toInt)) := by
  have zm : (-1 : Int32).toInt = -1 := by decide
  have z48 : (48 : Int32).toInt = 48 := rfl
  have z57 : (57 : Int32).toInt = 57 := rfl
  have c : o.2 = oc ∧ ((o.1 = 0 ∧ ¬ (48 ≤ x.toInt ∧ x.toInt ≤ 57)) ∨ (¬ o.1 = 0 ∧ Rg 48 57 x)) := by
    unfold sX2_isDigit sX2_isDigit_16 sX2_isDigit_17 at e
    replace e := br_s e
    rcases e with ⟨q, e⟩ | ⟨q, e⟩
    · have q := lt_i q
      rw [← Option.some.inj (gd_s e).2]
      exact ⟨rfl, Or.inl ⟨rfl, by omega⟩⟩
    have q := nlt_i q
    replace e := br_s e
    rcases e with ⟨q', e⟩ | ⟨q', e⟩
    · have q' := lt_i q'
      rw [← Option.some.inj (gd_s e).2]
      exact ⟨rfl, Or.inl ⟨rfl, by omega⟩⟩
    have q' := nlt_i q'
    rw [← Option.some.inj (gd_s e).2]
    exact ⟨rfl, Or.inr ⟨show ¬ (1 : Int32) = 0 by decide, ⟨by omega, by omega⟩⟩⟩
  have r : o'.2 = or ∧ ((o'.1 = 0 ∧ ¬ (48 ≤ y.toInt ∧ y.toInt ≤ 57)) ∨ (¬ o'.1 = 0 ∧ Rg 48 57 y)) := by
    unfold sX15_isDigit sX15_isDigit_16 sX15_isDigit_17 at e'
    replace e' := br_s e'
    rcases e' with ⟨q, e'⟩ | ⟨q, e'⟩
    · have q := lt_i q
      rw [← Option.some.inj (gd_s e').2]
      exact ⟨rfl, Or.inl ⟨rfl, by omega⟩⟩
    have q := nlt_i q
    replace e' := br_s e'
    rcases e' with ⟨q', e'⟩ | ⟨q', e'⟩
    · have q' := lt_i q'
      rw [← Option.some.inj (gd_s e').2]
      exact ⟨rfl, Or.inl ⟨rfl, by omega⟩⟩
    have q' := nlt_i q'
    rw [← Option.some.inj (gd_s e').2]
    exact ⟨rfl, Or.inr ⟨show ¬ (1 : Int32) = 0 by decide, ⟨by omega, by omega⟩⟩⟩
  refine ⟨c.1, r.1, ?_⟩
  have c2 := c.2
  have r2 := r.2
  rcases H with ⟨h1, h2, _⟩ | ⟨l, h2, h3⟩
  · rcases c2 with ⟨c2, _⟩ | ⟨_, c3⟩
    · rcases r2 with ⟨r2, _⟩ | ⟨_, r3⟩
      · exact Or.inl ⟨c2, r2⟩
      · have := r3.1; rw [h2, zm] at this; omega
    · have := c3.1; rw [h1, zm] at this; omega
  · have d1 := h2.1
    have d2 := h2.2
    have sy : (y.toInt = x.toInt ∧ x.toInt < 128) ∨ (y.toInt = x.toInt - 256 ∧ 128 ≤ x.toInt) := by
      rw [h3]
      unfold sg
      split <;> omega
    rcases c2 with ⟨c2, c3⟩ | ⟨c2, c3⟩
    · rcases r2 with ⟨r2, _⟩ | ⟨_, r3⟩
      · exact Or.inl ⟨c2, r2⟩
      · have := r3.1; have := r3.2; omega
    · have u1 := c3.1
      have u2 := c3.2
      rcases r2 with ⟨_, r3⟩ | ⟨r2, _⟩
      · omega
      · exact Or.inr ⟨c2, r2, Int32.toInt_inj.mp (by omega), c3, l⟩
/-- both figures of checks -/
theorem ck_2 (D : VD V) : ∀ (f g : Nat) {hc hr : Hp} {x2 : Int32}, RdV V N hc hr → VPc V hc → VPr V hr → 0 ≤ x2.toInt → x2.toInt ≤ 2 → PCk V x2.toInt hc hr → sX7_readChecks_2 F f hc (V 7) (V 4) x2 = some o → sX15_readRest_2 F g hr (V 16) (V 13) x2 = some o' → (o.1 = 0 ∧ o'.1 = 0 ∧ AtV V N o.2 o'.2) ∨ (o.1 = 1 ∧ FrV V (wl wcK) hc o.2 ∧ ∃ g, FrV V (wl wrK) hr g ∧ RdV V N o.2 g ∧ PCk V 2 o.2 g ∧ (cl (sX15_reads g (V 16) (32 : Int32)) fun o_2 => br (o_2.1 = 0) (sX15_readRest_67 F o_2.2 ) (cl (sX15_look o_2.2 (V 16)) fun o_4 => cl (sX15_isDigit o_4.2 o_4.1) fun o_5 => br (o_5.1 = 0) (sX15_readRest_67 F o_5.2 ) (nm (hI o_5.2 (V 16) 19) fun v_7 => sX15_readRest_79 F F o_5.2 (V 16) (V 13) v_7 (0 : Int32) (0 : Int32)))) = some o') := by
  have z1 : (1 : Int32).toInt = 1 := rfl
  have z2 : (2 : Int32).toInt = 2 := rfl
  intro f
  induction f with
  | zero => intro g hc hr x2 _ _ _ _ _ _ e; exact absurd e (by rw [sX7_readChecks_2]; exact fun z => nomatch z)
  | succ f ih =>
    intro g hc hr x2 S Pc Pr a2 b2 K e e'
    cases g with
    | zero => exact absurd e' (by rw [sX15_readRest_2]; exact fun z => nomatch z)
    | succ g =>
      rw [sX7_readChecks_2] at e
      rw [sX15_readRest_2] at e'
      replace e := br_s e
      replace e' := br_s e'
      rcases e with ⟨l, e⟩ | ⟨l, e⟩
      · rcases e' with ⟨_, e'⟩ | ⟨n, _⟩
        rotate_left
        · exact absurd l n
        have l := le_i l
        rw [z2] at l
        rw [← Option.some.inj e]
        exact Or.inr ⟨rfl, fv_0, hr, fv_0, S, fun i hi => K i (by omega), e'⟩
      rcases e' with ⟨n, _⟩ | ⟨_, e'⟩
      · exact absurd n l
      have l := nle_i l
      rw [z2] at l
      replace e := cl_s e; obtain ⟨r2, p, e⟩ := e
      rw [r_eq S.1.2.1 p] at e
      replace e := cl_s e; obtain ⟨o3, eo3, e⟩ := e
      replace e' := cl_s e'; obtain ⟨o8, eo8, e'⟩ := e'
      obtain ⟨w3, w8, H⟩ := by_p S eo3 eo8
      rw [w3] at e
      rw [w8] at e'
      replace e := cl_s e; obtain ⟨o4, eo4, e⟩ := e
      replace e' := cl_s e'; obtain ⟨o9, eo9, e'⟩ := e'
      obtain ⟨w4, w9, alt⟩ := dg_b H eo4 eo9
      rw [w4] at e
      rw [w9] at e'
      replace e := br_s e
      replace e' := br_s e'
      rcases alt with ⟨c1, c2⟩ | ⟨c1, c2, yx, rg, lt⟩
      · rcases e with ⟨_, e⟩ | ⟨n, _⟩
        rotate_left
        · exact absurd c1 n
        rcases e' with ⟨_, e'⟩ | ⟨n, _⟩
        rotate_left
        · exact absurd c2 n
        rw [← Option.some.inj e, ← Option.some.inj e']
        exact Or.inl ⟨rfl, rfl, S.2.2.2.1⟩
      rcases e with ⟨n, _⟩ | ⟨_, e⟩
      · exact absurd n c1
      rcases e' with ⟨n, _⟩ | ⟨_, e'⟩
      · exact absurd n c2
      replace e := cl_s e; obtain ⟨r6, p, e⟩ := e
      rw [r_eq Pc.2.2.2.2 p] at e
      replace e := cl_s e; obtain ⟨r7, p, e⟩ := e
      rw [r_eq S.1.2.1 p] at e
      replace e := cl_s e; obtain ⟨o8', eo8', e⟩ := e
      have y8 : o8' = o3 := Option.some.inj (eo8'.symm.trans eo3)
      rw [y8, w3] at e
      replace e := (gd_s e).2
      replace e := nm_s e; obtain ⟨h10, w10, e⟩ := e
      replace e := nm_s e; obtain ⟨h11, w11, e⟩ := e
      replace e := nm_s e; obtain ⟨v12, w12, e⟩ := e
      replace e' := cl_s e'; obtain ⟨r11, p, e'⟩ := e'
      rw [r_eq Pr.2.2.2 p] at e'
      replace e' := cl_s e'; obtain ⟨o12, eo12, e'⟩ := e'
      have y12 : o12 = o8 := Option.some.inj (eo12.symm.trans eo8)
      rw [y12, w8, yx] at e'
      replace e' := (gd_s e').2
      replace e' := nm_s e'; obtain ⟨k14, u14, e'⟩ := e'
      replace e' := nm_s e'; obtain ⟨k15, u15, e'⟩ := e'
      replace e' := nm_s e'; obtain ⟨v16, u16, e'⟩ := e'
      rw [u16, ← w12] at e'
      have A : FrV V (wl wcK) hc h11 := fv_t (g2 := h10) (by rw [w10]; exact fv_w (wl_i (j := 999) (by decide) (Or.inr rfl))) (by rw [w11]; exact fv_w rfl)
      have B : FrV V (wl wrK) hr k15 := fv_t (g2 := k14) (by rw [u14]; exact fv_w (wl_i (j := 999) (by decide) (Or.inr rfl))) (by rw [u15]; exact fv_w rfl)
      have a1 : hI h10 (V 7) 2 = hI hc (V 7) 2 := by rw [w10, rI_a (vne D)]
      have b1 : hI k14 (V 16) 19 = hI hr (V 16) 19 := by rw [u14, rI_a (vne D)]
      obtain ⟨p1, p2, p3⟩ := S.2.2.2.1
      have n12 := S.2.2.1.2.2.1.2
      have at' : AtV V N h11 k15 := by
        refine ⟨?_, ?_, ?_⟩
        · rw [w11, rI_s, u15, rI_s, a1, b1, p1]
        · rw [w11, rI_s, a1, ta (by rw [z1]; omega), z1]; omega
        · rw [w11, rI_s, a1, ta (by rw [z1]; omega), z1]; omega
      have S' := rdv_w D S (sub_l A (by decide)) (sub_l B (by decide)) at'
      have tx : v12.toInt = x2.toInt + 1 := by rw [w12, ta (by rw [z1]; omega), z1]
      have n2 := nc_i a2
      have K' : PCk V v12.toInt h11 k15 := fun i hi => by
        rw [w11, rI_a (vne D), u15, rI_a (vne D), w10, u14]
        by_cases z : i = x2.toNatClampNeg
        · rw [z, rI_s, rI_s]
        · rw [rI_o z, rI_o z]; exact K i (by omega)
      rcases ih g S' (vpc_f Pc A) (vpr_f Pr B) (by omega) (by omega) K' e e' with r | ⟨r1, r2, q, r3, r4⟩
      · exact Or.inl r
      · exact Or.inr ⟨r1, fv_t A r2, q, fv_t B r3, r4⟩
end
end
section
/-! positions: the clock, read by both, and the text's end -/
abbrev wcC : List (Nat × Nat) := [(7, 2), (4, 6)]
abbrev wrC : List (Nat × Nat) := [(16, 19), (13, 7)]
section
variable {F : Nat} {V : Nat → Nat} {N x2 : Int32} {hc hr : Hp} {o o' : Int32 × Hp}
/-- what reading the clock comes to -/
def ClE (V : Nat → Nat) (N : Int32) (hc hr : Hp) (o o' : Int32 × Hp) : Prop := (o.1 = 0 ∧ o'.1 = 0 ∧ AtV V N o.2 o'.2) ∨ (o.1 = 1 ∧ FrV V (wl wcC) hc o.2 ∧ FrV V (wl wrC) hr o'.2 ∧ RdV V N o.2 o'.2 ∧ PCl V o.2 o'.2 ∧ ((o'.1 = 1 ∧ hI o.2 (V 7) 2 = N) ∨ (o'.1 = 0 ∧ (hI o.2 (V 7) 2).toInt < N.toInt)))
theorem cl_end {v : Int32} (D : VD V) (S : RdV V N hc hr) (ev : hI hc (V 4) 6 = v) (f0 : 0 ≤ x2.toInt) (lt : x2.toInt < (hI hc (V 7) 2).toInt) (e : sX7_readClock_71 F hc (V 7) (V 4) x2 = some o) (e' : sX15_readRest_124 F hr (V 16) (V 13) x2 v = some o') : ClE V N hc hr o o' := by
  obtain ⟨p1, p2, p3⟩ := S.2.2.2.1
  unfold sX7_readClock_71 sX7_readClock_86 sX7_readClock_99 at e
  unfold sX15_readRest_124 sX15_readRest_159 at e'
  rw [ev] at e
  replace e' := nm_s e'; obtain ⟨k1, w1, e'⟩ := e'
  have B1 : FrV V (wl wrC) hr k1 := by rw [w1]; exact fv_w rfl
  have at1 : AtV V N hc k1 := by
    refine ⟨?_, p2, p3⟩
    rw [w1, rI_a (vne D)]; exact p1
  have S1 : RdV V N hc k1 := rdv_w D S fv_0 (sub_l B1 (by decide)) at1
  have t18 : hI k1 (V 16) 18 = N := S1.2.2.1.2.1
  replace e := br_s e
  replace e' := br_s e'
  rcases e with ⟨q, e⟩ | ⟨q, e⟩
  · rcases e' with ⟨_, e'⟩ | ⟨n, _⟩
    rotate_left
    · exact absurd q n
    replace e := br_s e
    rcases e with ⟨n, _⟩ | ⟨_, e⟩
    · have := le_i n; omega
    have y := Option.some.inj (gd_s e).2
    have P1 : PCl V hc k1 := by
      unfold PCl
      rw [w1, rI_s]; exact ev
    rw [t18, ← at1.1] at e'
    replace e' := br_s e'
    refine Or.inr ?_
    rcases e' with ⟨b, e'⟩ | ⟨b, e'⟩
    · have y' := Option.some.inj (gd_s e').2
      rw [← y, ← y']
      exact ⟨rfl, fv_0, B1, S1, P1, Or.inl ⟨rfl, b⟩⟩
    · have y' := Option.some.inj (gd_s e').2
      rw [← y, ← y']
      refine ⟨rfl, fv_0, B1, S1, P1, Or.inr ⟨rfl, ?_⟩⟩
      show (hI hc (V 7) 2).toInt < N.toInt
      rcases Int.lt_or_le (hI hc (V 7) 2).toInt N.toInt with z | z
      · exact z
      · exact absurd (Int32.toInt_inj.mp (by omega)) b
  · rcases e' with ⟨n, _⟩ | ⟨_, e'⟩
    · exact absurd n q
    replace e := nm_s e; obtain ⟨h2, w2, e⟩ := e
    replace e' := nm_s e'; obtain ⟨k4, w4, e'⟩ := e'
    have a2 : hI h2 (V 7) 2 = x2 := by rw [w2, rI_s]
    rw [a2] at e
    replace e := br_s e
    rcases e with ⟨_, e⟩ | ⟨n, _⟩
    rotate_left
    · exact absurd (ii_le.mpr (Int.le_refl _)) n
    have y := Option.some.inj (gd_s e).2
    rw [← y, ← Option.some.inj e']
    refine Or.inl ⟨rfl, rfl, ?_, ?_, ?_⟩
    · show hI h2 (V 7) 2 = hI k4 (V 16) 19
      rw [a2, w4, rI_s]
    · show 0 ≤ (hI h2 (V 7) 2).toInt
      rw [a2]; exact f0
    · show (hI h2 (V 7) 2).toInt ≤ N.toInt
      rw [a2]; omega
theorem cl_7 (D : VD V) (f0 : 0 ≤ x2.toInt) : ∀ (f g : Nat) {hc hr : Hp} {v x3 : Int32}, RdV V N hc hr → hI hc (V 4) 6 = v → (0 ≤ v.toInt ∧ (v.toInt ≤ 0 ∨ (1 ≤ x3.toInt ∧ v.toInt ≤ 9) ∨ (2 ≤ x3.toInt ∧ v.toInt ≤ 99) ∨ (3 ≤ x3.toInt ∧ v.toInt ≤ 999))) → 0 ≤ x3.toInt → x3.toInt ≤ 3 → (hI hc (V 7) 2).toInt = x2.toInt + x3.toInt → (x3 = 0 → ∀ o3 o4, sX9_byteAt hc (V 10) (hI hc (V 7) 2) = some o3 → sX2_isDigit hc o3.1 = some o4 → ¬ o4.1 = 0) → sX7_readClock_7 F f hc (V 7) (V 4) x2 x3 = some o → sX15_readRest_79 F g hr (V 16) (V 13) x2 v x3 = some o' → ClE V N hc hr o o' := by
  have z1 : (1 : Int32).toInt = 1 := rfl
  have z0 : (0 : Int32).toInt = 0 := rfl
  have z3 : (3 : Int32).toInt = 3 := rfl
  have z10 : (10 : Int32).toInt = 10 := rfl
  have z48 : (48 : Int32).toInt = 48 := rfl
  intro f
  induction f with
  | zero => intro g hc hr v x3 _ _ _ _ _ _ _ e; exact absurd e (by rw [sX7_readClock_7]; exact fun z => nomatch z)
  | succ f ih =>
    intro g hc hr v x3 S ev bv a3 b3 at3 dg e e'
    cases g with
    | zero => exact absurd e' (by rw [sX15_readRest_79]; exact fun z => nomatch z)
    | succ g =>
      rw [sX7_readClock_7] at e
      rw [sX15_readRest_79] at e'
      replace e := br_s e
      replace e' := br_s e'
      rcases e with ⟨l, e⟩ | ⟨l, e⟩
      · rcases e' with ⟨_, e'⟩ | ⟨n, _⟩
        rotate_left
        · exact absurd l n
        have l := le_i l
        rw [z3] at l
        exact cl_end D S ev f0 (by omega) e e'
      rcases e' with ⟨n, _⟩ | ⟨_, e'⟩
      · exact absurd n l
      have l := nle_i l
      rw [z3] at l
      replace e := cl_s e; obtain ⟨r2, p, e⟩ := e
      rw [r_eq S.1.2.1 p] at e
      replace e := cl_s e; obtain ⟨o3, eo3, e⟩ := e
      replace e' := cl_s e'; obtain ⟨o2, eo2, e'⟩ := e'
      obtain ⟨w3, w2, H⟩ := by_p S eo3 eo2
      rw [w3] at e
      rw [w2] at e'
      replace e := cl_s e; obtain ⟨o4, eo4, e⟩ := e
      replace e' := cl_s e'; obtain ⟨o5, eo5, e'⟩ := e'
      obtain ⟨w4, w5, alt⟩ := dg_b H eo4 eo5
      rw [w4] at e
      rw [w5] at e'
      replace e := br_s e
      replace e' := br_s e'
      rcases alt with ⟨c1, c2⟩ | ⟨c1, c2, yx, rg, lt⟩
      · rcases e with ⟨_, e⟩ | ⟨n, _⟩
        rotate_left
        · exact absurd c1 n
        rcases e' with ⟨_, e'⟩ | ⟨n, _⟩
        rotate_left
        · exact absurd c2 n
        have n0 : ¬ x3 = 0 := fun z => dg z o3 o4 eo3 eo4 c1
        have p3 : 0 < x3.toInt := by
          rcases Int.lt_or_le 0 x3.toInt with z | z
          · exact z
          · exact absurd (Int32.toInt_inj.mp (by rw [z0]; omega)) n0
        exact cl_end D S ev f0 (by omega) e e'
      rcases e with ⟨n, _⟩ | ⟨_, e⟩
      · exact absurd n c1
      rcases e' with ⟨n, _⟩ | ⟨_, e'⟩
      · exact absurd n c2
      replace e := cl_s e; obtain ⟨r6, p, e⟩ := e
      rw [r_eq S.1.2.1 p] at e
      replace e := cl_s e; obtain ⟨o7, eo7, e⟩ := e
      have y7 : o7 = o3 := Option.some.inj (eo7.symm.trans eo3)
      rw [y7, w3, ev] at e
      replace e := nm_s e; obtain ⟨h8, w8, e⟩ := e
      replace e := nm_s e; obtain ⟨h9, w9, e⟩ := e
      replace e := nm_s e; obtain ⟨v10, w10, e⟩ := e
      replace e' := cl_s e'; obtain ⟨o6, eo6, e'⟩ := e'
      have y6 : o6 = o2 := Option.some.inj (eo6.symm.trans eo2)
      rw [y6, w2, yx] at e'
      replace e' := nm_s e'; obtain ⟨v6, u6, e'⟩ := e'
      replace e' := nm_s e'; obtain ⟨k7, u7, e'⟩ := e'
      replace e' := nm_s e'; obtain ⟨v8, u8, e'⟩ := e'
      rw [u8, ← w10] at e'
      have g1 := rg.1
      have g2 := rg.2
      have m1 : ((10 : Int32) * v).toInt = 10 * v.toInt := by rw [tm (by rw [z10]; omega), z10]
      have m2 : (((10 : Int32) * v) + o3.1).toInt = 10 * v.toInt + o3.1.toInt := by rw [ta (by rw [m1]; omega), m1]
      have m3 : v6.toInt = 10 * v.toInt + o3.1.toInt - 48 := by rw [u6, ts (by rw [m2, z48]; omega), m2, z48]
      have A : FrV V (wl wcC) hc h9 := fv_t (g2 := h8) (by rw [w8]; exact fv_w rfl) (by rw [w9]; exact fv_w rfl)
      have B : FrV V (wl wrC) hr k7 := by rw [u7]; exact fv_w rfl
      have a1 : hI h8 (V 7) 2 = hI hc (V 7) 2 := by rw [w8, rI_a (vne D)]
      obtain ⟨p1, p2, p3⟩ := S.2.2.2.1
      have n12 := S.2.2.1.2.2.1.2
      have t9 : (hI h9 (V 7) 2).toInt = (hI hc (V 7) 2).toInt + 1 := by rw [w9, rI_s, a1, ta (by rw [z1]; omega), z1]
      have at' : AtV V N h9 k7 := by
        refine ⟨?_, by omega, by omega⟩
        rw [w9, rI_s, u7, rI_s, a1, p1]
      have S' := rdv_w D S (sub_l A (by decide)) (sub_l B (by decide)) at'
      have tx : v10.toInt = x3.toInt + 1 := by rw [w10, ta (by rw [z1]; omega), z1]
      have ev' : hI h9 (V 4) 6 = v6 := by rw [w9, rI_a (vne D), w8, rI_s, u6]
      have bv' : 0 ≤ v6.toInt ∧ (v6.toInt ≤ 0 ∨ (1 ≤ v10.toInt ∧ v6.toInt ≤ 9) ∨ (2 ≤ v10.toInt ∧ v6.toInt ≤ 99) ∨ (3 ≤ v10.toInt ∧ v6.toInt ≤ 999)) := by omega
      rcases ih g S' ev' bv' (by omega) (by omega) (by omega) (fun z => by rw [z, z0] at tx; omega) e e' with r | ⟨r1, r2, r3, r4⟩
      · exact Or.inl r
      · exact Or.inr ⟨r1, fv_t A r2, fv_t B r3, r4⟩
end
end
section
/-! men in hand: five bits each -/
def hv (x : Int64) (m : Nat) : Nat := x.toBitVec.toNat / 2 ^ (5 * m) % 32
theorem ush_v {x : Int64} {k : Int32} (i : Rg 0 63 k) : ((x.toUInt64 >>> (k.toInt64.toUInt64 &&& Int64.toUInt64 63)).toInt64).toBitVec.toNat = x.toBitVec.toNat / 2 ^ k.toNatClampNeg := by
  obtain ⟨j, ej, tj, hj⟩ := rg_nI i (Int.le_refl 0)
  have j64 : j < 64 := by have := i.2; omega
  have all : ∀ j : Fin 64, (((nI j.val).toInt64.toUInt64 &&& Int64.toUInt64 63).toBitVec % 64#64).toNat = j.val := by decide +kernel
  have aj : (((nI j).toInt64.toUInt64 &&& Int64.toUInt64 63).toBitVec % 64#64).toNat = j := all ⟨j, j64⟩
  rw [ej, z_clamp hj]
  show (x.toUInt64 >>> ((nI j).toInt64.toUInt64 &&& Int64.toUInt64 63)).toBitVec.toNat = _
  rw [UInt64.toBitVec_shiftRight]
  show (x.toBitVec >>> (((nI j).toInt64.toUInt64 &&& Int64.toUInt64 63).toBitVec % 64#64)).toNat = _
  rw [BitVec.ushiftRight_eq', aj, BitVec.toNat_ushiftRight, Nat.shiftRight_eq_div_pow]
theorem lo5 (y : Int64) : (y.toInt32 &&& (31 : Int32)).toInt = ((y.toBitVec.toNat % 32 : Nat) : Int) := by
  have h : (y.toInt32 &&& (31 : Int32)).toBitVec.toNat = y.toBitVec.toNat % 32 := by
    rw [Int32.toBitVec_and, BitVec.toNat_and]
    show (y.toBitVec.signExtend 32).toNat &&& (2 ^ 5 - 1) = _
    rw [Nat.and_two_pow_sub_one_eq_mod, BitVec.signExtend_eq_setWidth_of_le _ (by decide), BitVec.toNat_setWidth]
    omega
  show (y.toInt32 &&& (31 : Int32)).toBitVec.toInt = _
  rw [BitVec.toInt_eq_toNat_of_lt (by rw [h]; omega), h]
section
variable {V : Nat → Nat} {h p r : Nat}
/-- how many of one man are in hand -/
theorem inh_v {h : Hp} {p r : Nat} {s man : Int32} {o : Int32 × Hp} (e3 : hR h p 3 = some r) (im : Rg 0 11 man) (e : sX3_inHand h p s man = some o) : o.2 = h ∧ o.1.toInt = ((hv (hJ h r s.toNatClampNeg) man.toNatClampNeg : Nat) : Int) := by
  have z5 : (5 : Int32).toInt = 5 := rfl
  have m0 := im.1
  have m1 := im.2
  unfold sX3_inHand at e
  replace e := cl_s e; obtain ⟨q, p', e⟩ := e
  rw [r_eq e3 p'] at e
  replace e := (gd_s e).2
  have t : ((5 : Int32) * man).toInt = 5 * man.toInt := by rw [tm (by rw [z5]; omega), z5]
  have c : ((5 : Int32) * man).toNatClampNeg = 5 * man.toNatClampNeg := by
    have := nc_i (x := (5 : Int32) * man) (by omega)
    have := nc_i m0
    omega
  rw [← Option.some.inj e]
  refine ⟨rfl, ?_⟩
  show (_ &&& (31 : Int32)).toInt = _
  rw [lo5, ush_v ⟨by omega, by omega⟩, c]
  rfl
end
end
section
/-! men in hand: one more -/
theorem dq_gt {a m k : Nat} (l : a / 2 ^ (5 * m) % 32 < 31) (h : m < k) : (a + 2 ^ (5 * m)) / 2 ^ (5 * k) = a / 2 ^ (5 * k) := by
  obtain ⟨d, hd⟩ : ∃ d, k = m + d + 1 := ⟨k - m - 1, by omega⟩
  have p : 2 ^ (5 * k) = 2 ^ (5 * m) * 32 * 2 ^ (5 * d) := by
    rw [hd, show 5 * (m + d + 1) = 5 * m + 5 + 5 * d by omega, Nat.pow_add, Nat.pow_add]
  have q := Nat.add_div_right a (Nat.two_pow_pos (5 * m))
  rw [p, ← Nat.div_div_eq_div_mul, ← Nat.div_div_eq_div_mul, ← Nat.div_div_eq_div_mul, ← Nat.div_div_eq_div_mul, q]
  have : Nat.succ (a / 2 ^ (5 * m)) / 32 = a / 2 ^ (5 * m) / 32 := by omega
  rw [this]
theorem dgt_add {a m k : Nat} (l : a / 2 ^ (5 * m) % 32 < 31) : (a + 2 ^ (5 * m)) / 2 ^ (5 * k) % 32 = a / 2 ^ (5 * k) % 32 + if k = m then 1 else 0 := by
  by_cases e : k = m
  · rw [if_pos e, e]
    have q := Nat.add_div_right a (Nat.two_pow_pos (5 * m))
    rw [q]
    omega
  rw [if_neg e, Nat.add_zero]
  by_cases h : m < k
  · rw [dq_gt l h]
  · obtain ⟨d, hd⟩ : ∃ d, m = k + d + 1 := ⟨m - k - 1, by omega⟩
    have p : 2 ^ (5 * m) = 2 ^ (5 * k) * (32 * 2 ^ (5 * d)) := by
      rw [hd, show 5 * (k + d + 1) = 5 * k + (5 + 5 * d) by omega, Nat.pow_add, Nat.pow_add]
    rw [p, Nat.add_mul_div_left a _ (Nat.two_pow_pos (5 * k))]
    omega
/-- bits of hands keep below 60 -/
def HdB (x : Int64) : Prop := x.toBitVec.toNat < 2 ^ 60
theorem hd_sh : ∀ j : Fin 12, ((1 : Int32).toInt64 <<< (((5 : Int32) * (nI j.val)).toInt64 &&& 63)).toBitVec.toNat = 2 ^ (5 * j.val) := by decide +kernel
/-- one man more in hand -/
theorem adh_v {h o : Hp} {p r : Nat} {s man : Int32} (e3 : hR h p 3 = some r) (im : Rg 0 11 man) (b : HdB (hJ h r s.toNatClampNeg)) (l : hv (hJ h r s.toNatClampNeg) man.toNatClampNeg < 31) (e : sX3_addToHand h p s man (1 : Int32) = some o) : ∃ x, o = wJ h r s.toNatClampNeg x ∧ HdB x ∧ ∀ k, hv x k = hv (hJ h r s.toNatClampNeg) k + if k = man.toNatClampNeg then 1 else 0 := by
  have m0 := im.1
  have m1 := im.2
  have nn := nc_i m0
  have em : nI man.toNatClampNeg = man := Int32.toInt_inj.mp (by rw [z_toInt (by omega)]; omega)
  have sh := hd_sh ⟨man.toNatClampNeg, by omega⟩
  dsimp only at sh
  rw [em] at sh
  unfold sX3_addToHand at e
  replace e := cl_s e; obtain ⟨q, p', e⟩ := e
  rw [r_eq e3 p'] at e
  replace e := (gd_s e).2
  replace e := (gd_s e).2
  replace e := nm_s e; obtain ⟨h4, w4, e⟩ := e
  have p55 : 2 ^ (5 * man.toNatClampNeg) ≤ 2 ^ 55 := Nat.pow_le_pow_right (by decide) (by omega)
  unfold HdB at b
  have nat : ((hJ h r s.toNatClampNeg) + ((1 : Int32).toInt64 <<< (((5 : Int32) * man).toInt64 &&& 63))).toBitVec.toNat = (hJ h r s.toNatClampNeg).toBitVec.toNat + 2 ^ (5 * man.toNatClampNeg) := by
    rw [Int64.toBitVec_add, BitVec.toNat_add, sh]
    exact Nat.mod_eq_of_lt (by
      have a1 : (2 : Nat) ^ 60 = 1152921504606846976 := by decide
      have a2 : (2 : Nat) ^ 55 = 36028797018963968 := by decide
      have a3 : (2 : Nat) ^ 64 = 18446744073709551616 := by decide
      omega)
  refine ⟨_, by rw [← Option.some.inj e]; exact w4, ?_, fun k => ?_⟩
  · unfold HdB
    rw [nat]
    have g := dq_gt (a := (hJ h r s.toNatClampNeg).toBitVec.toNat) (m := man.toNatClampNeg) (k := 12) l (by omega)
    have z : (hJ h r s.toNatClampNeg).toBitVec.toNat / 2 ^ (5 * 12) = 0 := Nat.div_eq_of_lt b
    rw [z] at g
    rcases Nat.div_eq_zero_iff.mp g with y | y
    · exact absurd y (by decide)
    · exact y
  · unfold hv
    rw [nat]
    exact dgt_add l
end
section
/-! a man's letter, or the text's end -/
section
variable {F : Nat} {Z V : Nat → Nat} {N : Int32} {hc hr : Hp} {L lw m : Nat} {o o' : Int32 × Hp}
theorem code_n (A : ZA Z L lw hc hr) (Q : LwQ Z hc hr) (em : hR hr m 4 = some lw) (e : sX1_codeOf F hc L (-1 : Int32) = some o) (e' : sX15_manLetter F hr m (-1 : Int32) = some o') : o.2 = hc ∧ o'.2 = hr ∧ o.1 = (-1 : Int32) ∧ o'.1 = 0 := by
  have z1 : (1 : Int32).toInt = 1 := rfl
  have z2 : (2 : Int32).toInt = 2 := rfl
  have z0 : (0 : Int32).toInt = 0 := rfl
  have zm : (-1 : Int32).toInt = -1 := by decide
  have z32 : (32 : Int32).toInt = 32 := rfl
  unfold sX15_manLetter at e'
  unfold sX1_codeOf sX1_codeOf_16 sX1_codeOf_17 sX1_codeOf_31 sX1_codeOf_57 at e
  replace e := br_s e
  rcases e with ⟨_, e⟩ | ⟨n, _⟩
  rotate_left
  · exact absurd (by decide) n
  replace e := br_s e
  rcases e with ⟨_, e⟩ | ⟨n, _⟩
  rotate_left
  · exact absurd rfl n
  replace e := cl_s e; obtain ⟨o1, eo, e⟩ := e
  unfold sX1_manOf at eo
  have H : ∀ s : Int32, ∀ l : Int32, Rg 97 122 l → ((l = (-1 : Int32)) ↔ ((-1 : Int32) = l ∨ (-1 : Int32) = l - (32 : Int32))) ∧ ((-1 : Int32) = l → s = 1) ∧ ((-1 : Int32) = l - (32 : Int32) → ¬ (-1 : Int32) = l → s = 0) := fun s l hl => by
    have h1 := hl.1
    have h2 := hl.2
    have t : (l - (32 : Int32)).toInt = l.toInt - 32 := by rw [ts (by rw [z32]; omega), z32]
    have n1 : ¬ l = (-1 : Int32) := fun z => by rw [z, zm] at h1; omega
    have n2 : ¬ (-1 : Int32) = l := fun z => n1 z.symm
    have n3 : ¬ (-1 : Int32) = l - (32 : Int32) := fun z => by rw [← z, zm] at t; omega
    exact ⟨⟨fun z => absurd z n1, fun z => z.elim (fun y => absurd y n2) (fun y => absurd y n3)⟩, fun z => absurd z n2, fun z => absurd z n3⟩
  obtain ⟨w1, w2, a0⟩ := ml_p (s := (0 : Int32)) (x := (-1 : Int32)) (b := (-1 : Int32)) A Q em (H 0) F F (by decide) (by decide) eo e'
  obtain ⟨_, _, a1⟩ := ml_p (s := (1 : Int32)) (x := (-1 : Int32)) (b := (-1 : Int32)) A Q em (H 1) F F (by decide) (by decide) eo e'
  have fin : o1.1 = (-1 : Int32) ∧ o'.1 = 0 := by
    rcases a0 with a0 | ⟨r0, a0⟩
    · exact a0
    rcases a1 with a1 | ⟨_, a1⟩
    · exact a1
    exfalso
    have c1 := r0.1
    have c2 := r0.2
    have t1 : ((2 : Int32) * o1.1).toInt = 2 * o1.1.toInt := by rw [tm (by rw [z2]; omega), z2]
    have t2 : ((1 : Int32) + ((2 : Int32) * o1.1)).toInt = 1 + 2 * o1.1.toInt := by rw [ta (by rw [t1, z1]; omega), t1, z1]
    have u0 : o'.1.toInt = 1 + 2 * o1.1.toInt + 0 := by rw [a0, ta (by rw [t2, z0]; omega), t2, z0]
    have u1 : o'.1.toInt = 1 + 2 * o1.1.toInt + 1 := by rw [a1, ta (by rw [t2, z1]; omega), t2, z1]
    omega
  replace e := br_s e
  rcases e with ⟨_, e⟩ | ⟨n, _⟩
  rotate_left
  · exact absurd fin.1 n
  rw [← Option.some.inj e]
  exact ⟨w1, w2, rfl, fin.2⟩
/-- the man at the place -/
theorem man_p {x y : Int32} (S : RdV V N hc hr) (H : (x = (-1 : Int32) ∧ y = (-1 : Int32) ∧ hI hc (V 7) 2 = N) ∨ (hI hc (V 7) 2).toInt < N.toInt ∧ Rg 0 255 x ∧ y.toInt = sg x.toInt) (e : sX1_codeOf F hc (V 2) x = some o) (e' : sX15_manLetter F hr (V 16) y = some o') : o.2 = hc ∧ o'.2 = hr ∧ ((o.1 = (-1 : Int32) ∧ o'.1 = 0) ∨ (Rg 1 24 o'.1 ∧ o.1 = o'.1 - (1 : Int32) ∧ (hI hc (V 7) 2).toInt < N.toInt)) := by
  obtain ⟨_, b, _, _, _, A, Q⟩ := S
  rcases H with ⟨h1, h2, _⟩ | ⟨l, h2, h3⟩
  · rw [h1] at e
    rw [h2] at e'
    obtain ⟨a1, a2, a3⟩ := code_n A Q b.2 e e'
    exact ⟨a1, a2, Or.inl a3⟩
  · obtain ⟨a1, a2, a3⟩ := code_p A Q b.2 h2 h3 e e'
    exact ⟨a1, a2, a3.imp id (fun z => ⟨z.1, z.2, l⟩)⟩
end
end
