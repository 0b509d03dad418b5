/-! a square's name, read by both -/
def CFr (V : Nat → Nat) (hc oc : Hp) : Prop := (∀ a i, hR oc a i = hR hc a i) ∧ (∀ a i, hJ oc a i = hJ hc a i) ∧ ∀ a i, ¬ (a = V 7 ∧ i = 2) → hI oc a i = hI hc a i
def RFr (V : Nat → Nat) (hr or : Hp) : Prop := (∀ a i, hR or a i = hR hr a i) ∧ (∀ a i, hJ or a i = hJ hr a i) ∧ ∀ a i, ¬ (a = V 16 ∧ (i = 19 ∨ i = 20)) → hI or a i = hI hr a i
section
variable {F : Nat} {V : Nat → Nat} {N : Int32} {hc hr oc or : Hp} {o o' : Int32 × Hp}
theorem cfr_0 : CFr V hc hc := ⟨fun _ _ => rfl, fun _ _ => rfl, fun _ _ _ => rfl⟩
theorem rfr_0 : RFr V hr hr := ⟨fun _ _ => rfl, fun _ _ => rfl, fun _ _ _ => rfl⟩
theorem cfr_t {g1 g2 g3 : Hp} (A : CFr V g1 g2) (B : CFr V g2 g3) : CFr V g1 g3 := ⟨fun a i => (B.1 a i).trans (A.1 a i), fun a i => (B.2.1 a i).trans (A.2.1 a i), fun a i n => (B.2.2 a i n).trans (A.2.2 a i n)⟩
theorem rfr_t {g1 g2 g3 : Hp} (A : RFr V g1 g2) (B : RFr V g2 g3) : RFr V g1 g3 := ⟨fun a i => (B.1 a i).trans (A.1 a i), fun a i => (B.2.1 a i).trans (A.2.1 a i), fun a i n => (B.2.2 a i n).trans (A.2.2 a i n)⟩
theorem cfr_w {v : Int32} : CFr V hc (wI hc (V 7) 2 v) := ⟨fun _ _ => rfl, fun _ _ => rfl, fun a i n => by rw [r_I, if_neg n]⟩
theorem rfr_w {v : Int32} {j : Nat} (hj : j = 19 ∨ j = 20) : RFr V hr (wI hr (V 16) j v) := ⟨fun _ _ => rfl, fun _ _ => rfl, fun a i n => by
  rw [r_I, if_neg]
  rintro ⟨z1, z2⟩
  exact n ⟨z1, by rw [z2]; exact hj⟩⟩
theorem rdv_f (D : VD V) (S : RdV V N hc hr) (A : CFr V hc oc) (B : RFr V hr or) (at' : AtV V N oc or) : RdV V N oc or := by
  refine rdv_k S A.1 (fun k hk i => A.2.2 _ _ (fun z => ?_)) (A.2.1 _ _) B.1 (fun k hk i => B.2.2 _ _ (fun z => ?_)) (B.2.1 _ _) (fun i hi => B.2.2 _ _ (fun z => by omega)) at'
  · have : ∀ k, k ∈ vcr → k ∈ vql ∧ ¬ k = 7 := by decide
    exact vne D (this k hk).2 (this k hk).1 (by decide) z.1
  · have : ∀ k, k ∈ vrr → k ∈ vql ∧ ¬ k = 16 := by decide
    exact vne D (this k hk).2 (this k hk).1 (by decide) z.1
/-- one sign of a square's name -/
theorem dgt {b y k w : Int32} {P : Prop} (H : (b = (-1 : Int32) ∧ y = (-1 : Int32) ∧ P) ∨ (hI hc (V 7) 2).toInt < N.toInt ∧ Rg 0 255 b ∧ y.toInt = sg b.toInt) (ik : Rg 49 97 k) (iw : Rg 3 8 w) : (¬ (b - k) < (0 : Int32) ∧ (b - k) < w ∧ ¬ y = (-1 : Int32) ∧ ¬ (y - k) < (0 : Int32) ∧ (y - k) < w ∧ b - k = y - k ∧ Rg 0 7 (y - k) ∧ (y - k).toInt < w.toInt ∧ (hI hc (V 7) 2).toInt < N.toInt) ∨ (((b - k) < (0 : Int32) ∨ ¬ (b - k) < w) ∧ (y = (-1 : Int32) ∨ (y - k) < (0 : Int32) ∨ ¬ (y - k) < w)) := by
  have z0 : (0 : Int32).toInt = 0 := rfl
  have zm : (-1 : Int32).toInt = -1 := by decide
  have k0 := ik.1
  have k1 := ik.2
  have w0 := iw.1
  have w1 := iw.2
  rcases H with ⟨h1, h2, _⟩ | ⟨l, h2, h3⟩
  · refine Or.inr ⟨Or.inl ?_, Or.inl h2⟩
    rw [h1]
    exact ii_lt.mpr (by rw [ts (by rw [zm]; omega), zm, z0]; omega)
  have b0 := h2.1
  have b1 := h2.2
  have tb : (b - k).toInt = b.toInt - k.toInt := ts (by omega)
  have sy : -128 ≤ y.toInt ∧ y.toInt ≤ 127 := by
    rw [h3]
    unfold sg
    split <;> omega
  have ty : (y - k).toInt = y.toInt - k.toInt := ts (by omega)
  by_cases c : b.toInt < 128
  · have e : y.toInt = b.toInt := by rw [h3]; unfold sg; rw [if_pos c]
    by_cases d : k.toInt ≤ b.toInt ∧ b.toInt - k.toInt < w.toInt
    · refine Or.inl ⟨fun z => ?_, ii_lt.mpr (by omega), fun z => ?_, fun z => ?_, ii_lt.mpr (by omega), Int32.toInt_inj.mp (by omega), ⟨by omega, by omega⟩, by omega, l⟩
      · have := lt_i z
        rw [z0] at this
        omega
      · rw [z, zm] at e
        omega
      · have := lt_i z
        rw [z0] at this
        omega
    · by_cases f : k.toInt ≤ b.toInt
      · refine Or.inr ⟨Or.inr (fun z => ?_), Or.inr (Or.inr (fun z => ?_))⟩
        · have := lt_i z
          omega
        · have := lt_i z
          omega
      · refine Or.inr ⟨Or.inl (ii_lt.mpr (by rw [z0]; omega)), Or.inr (Or.inl (ii_lt.mpr (by rw [z0]; omega)))⟩
  · have e : y.toInt = b.toInt - 256 := by rw [h3]; unfold sg; rw [if_neg c]
    refine Or.inr ⟨Or.inr (fun z => ?_), Or.inr (Or.inl (ii_lt.mpr (by rw [z0]; omega)))⟩
    have := lt_i z
    omega
/-- a square's name -/
theorem sq_p (D : VD V) (S : RdV V N hc hr) {x1 : Int32} (e : sX7_readSquare hc (V 7) = some o) (e' : sX15_readSquare hr (V 16) x1 = some o') : CFr V hc o.2 ∧ RFr V hr o'.2 ∧ ((o.1 = (-1 : Int32) ∧ o'.1 = 0 ∧ AtV V N o.2 o'.2) ∨ (Rg 0 63 o.1 ∧ hI o'.2 (V 16) 20 = o.1 ∧ ((x1.toInt < o.1.toInt ∧ o'.1 = 1 ∧ AtV V N o.2 o'.2) ∨ (o.1.toInt ≤ x1.toInt ∧ o'.1 = 0 ∧ hI o'.2 (V 16) 19 = hI hc (V 7) 2)))) := by
  have z1 : (1 : Int32).toInt = 1 := rfl
  obtain ⟨g1, g2, g3, g4⟩ := S.2.2.2.2.1
  obtain ⟨p1, p2, p3⟩ := S.2.2.2.1
  have n12 := S.2.2.1.2.2.1.2
  unfold sX7_readSquare sX7_readSquare_30 sX7_readSquare_72 at e
  unfold sX15_readSquare sX15_readSquare_28 sX15_readSquare_68 at e'
  replace e := cl_s e; obtain ⟨r1, p, e⟩ := e
  rw [r_eq S.1.2.1 p] at e
  replace e := cl_s e; obtain ⟨o2, eo2, e⟩ := e
  replace e' := cl_s e'; obtain ⟨o1, eo1, e'⟩ := e'
  obtain ⟨w2, w1, H⟩ := by_p S eo2 eo1
  rw [w2] at e
  rw [w1] at e'
  replace e := nm_s e; obtain ⟨v3, wv3, e⟩ := e
  replace e' := nm_s e'; obtain ⟨v2, wv2, e'⟩ := e'
  rw [wv3] at e
  rw [wv2] at e'
  replace e' := cl_s e'; obtain ⟨o3, eo3, e'⟩ := e'
  have y3 : o3 = o1 := Option.some.inj (eo3.symm.trans eo1)
  rw [y3, w1] at e'
  have nope : ∀ {g g' : Hp}, CFr V hc g → RFr V hr g' → AtV V N g g' → some ((-1 : Int32), g) = some o → some ((0 : Int32), g') = some o' → CFr V hc o.2 ∧ RFr V hr o'.2 ∧ ((o.1 = (-1 : Int32) ∧ o'.1 = 0 ∧ AtV V N o.2 o'.2) ∨ (Rg 0 63 o.1 ∧ hI o'.2 (V 16) 20 = o.1 ∧ ((x1.toInt < o.1.toInt ∧ o'.1 = 1 ∧ AtV V N o.2 o'.2) ∨ (o.1.toInt ≤ x1.toInt ∧ o'.1 = 0 ∧ hI o'.2 (V 16) 19 = hI hc (V 7) 2)))) := fun {g g'} A B C u u' => by
    rw [← Option.some.inj u, ← Option.some.inj u']
    exact ⟨A, B, Or.inl ⟨rfl, rfl, C⟩⟩
  rcases dgt (k := (97 : Int32)) (w := hI hc (V 2) 0) H ⟨by decide, by decide⟩ g3 with ⟨d1, d2, d3, d4, d5, d6, d7, d8, l⟩ | ⟨d1, d2⟩
  rotate_left
  · -- no file
    have ec : some ((-1 : Int32), hc) = some o := by
      replace e := br_s e
      rcases e with ⟨_, e⟩ | ⟨q, e⟩
      · exact e
      replace e := cl_s e; obtain ⟨r5, p, e⟩ := e
      rw [r_eq S.1.1 p] at e
      replace e := br_s e
      rcases e with ⟨q', _⟩ | ⟨_, e⟩
      · rcases d1 with d1 | d1
        · exact absurd d1 q
        · exact absurd q' d1
      · exact e
    have er : some ((0 : Int32), hr) = some o' := by
      replace e' := br_s e'
      rcases e' with ⟨_, e'⟩ | ⟨q1, e'⟩
      · exact e'
      replace e' := br_s e'
      rcases e' with ⟨_, e'⟩ | ⟨q2, e'⟩
      · exact e'
      rw [← g1] at e'
      replace e' := br_s e'
      rcases e' with ⟨q3, _⟩ | ⟨_, e'⟩
      · rcases d2 with d2 | d2 | d2
        · exact absurd d2 q1
        · exact absurd d2 q2
        · exact absurd q3 d2
      · exact e'
    exact nope cfr_0 rfr_0 S.2.2.2.1 ec er
  replace e := br_s e
  rcases e with ⟨q, _⟩ | ⟨_, e⟩
  · exact absurd q d1
  replace e := cl_s e; obtain ⟨r5, p, e⟩ := e
  rw [r_eq S.1.1 p] at e
  replace e := br_s e
  rcases e with ⟨_, e⟩ | ⟨q, _⟩
  rotate_left
  · exact absurd d2 q
  replace e := nm_s e; obtain ⟨h7, w7, e⟩ := e
  replace e' := br_s e'
  rcases e' with ⟨q, _⟩ | ⟨_, e'⟩
  · exact absurd q d3
  replace e' := br_s e'
  rcases e' with ⟨q, _⟩ | ⟨_, e'⟩
  · exact absurd q d4
  rw [← g1] at e'
  replace e' := br_s e'
  rcases e' with ⟨_, e'⟩ | ⟨q, _⟩
  rotate_left
  · exact absurd d5 q
  replace e' := nm_s e'; obtain ⟨k7, u7, e'⟩ := e'
  have S7 : RdV V N h7 k7 := by rw [w7, u7]; exact at_1 D S l
  have A7 : CFr V hc h7 := by rw [w7]; exact cfr_w
  have B7 : RFr V hr k7 := by rw [u7]; exact rfr_w (Or.inl rfl)
  obtain ⟨g1', g2', g3', g4'⟩ := S7.2.2.2.2.1
  have f7 : hI h7 (V 2) 0 = hI hc (V 2) 0 := A7.2.2 _ _ (fun z => (vne D : ¬ V 2 = V 7) z.1)
  have t7 : (hI h7 (V 7) 2).toInt = (hI hc (V 7) 2).toInt + 1 := by rw [w7, rI_s, ta (by rw [z1]; omega), z1]
  replace e := cl_s e; obtain ⟨r8, p, e⟩ := e
  rw [r_eq S7.1.2.1 p] at e
  replace e := cl_s e; obtain ⟨o9, eo9, e⟩ := e
  replace e' := cl_s e'; obtain ⟨o8, eo8, e'⟩ := e'
  obtain ⟨w9, w8, H'⟩ := by_p S7 eo9 eo8
  rw [w9] at e
  rw [w8] at e'
  replace e := nm_s e; obtain ⟨v10, wv10, e⟩ := e
  replace e' := nm_s e'; obtain ⟨v9, wv9, e'⟩ := e'
  rw [wv10] at e
  rw [wv9] at e'
  replace e' := cl_s e'; obtain ⟨o10, eo10, e'⟩ := e'
  have y10 : o10 = o8 := Option.some.inj (eo10.symm.trans eo8)
  rw [y10, w8] at e'
  rcases dgt (k := (49 : Int32)) (w := hI h7 (V 2) 1) H' ⟨by decide, by decide⟩ g4' with ⟨c1, c2, c3, c4, c5, c6, c7, c8, l'⟩ | ⟨c1, c2⟩
  rotate_left
  · -- no rank
    have ec : some ((-1 : Int32), h7) = some o := by
      replace e := br_s e
      rcases e with ⟨_, e⟩ | ⟨q, e⟩
      · exact e
      replace e := cl_s e; obtain ⟨r12, p, e⟩ := e
      rw [r_eq S7.1.1 p] at e
      replace e := br_s e
      rcases e with ⟨q', _⟩ | ⟨_, e⟩
      · rcases c1 with c1 | c1
        · exact absurd c1 q
        · exact absurd q' c1
      · exact e
    have er : some ((0 : Int32), k7) = some o' := by
      replace e' := br_s e'
      rcases e' with ⟨_, e'⟩ | ⟨q1, e'⟩
      · exact e'
      replace e' := br_s e'
      rcases e' with ⟨_, e'⟩ | ⟨q2, e'⟩
      · exact e'
      rw [← g2'] at e'
      replace e' := br_s e'
      rcases e' with ⟨q3, _⟩ | ⟨_, e'⟩
      · rcases c2 with c2 | c2 | c2
        · exact absurd c2 q1
        · exact absurd c2 q2
        · exact absurd q3 c2
      · exact e'
    exact nope A7 B7 S7.2.2.2.1 ec er
  replace e := br_s e
  rcases e with ⟨q, _⟩ | ⟨_, e⟩
  · exact absurd q c1
  replace e := cl_s e; obtain ⟨r12, p, e⟩ := e
  rw [r_eq S7.1.1 p] at e
  replace e := br_s e
  rcases e with ⟨_, e⟩ | ⟨q, _⟩
  rotate_left
  · exact absurd c2 q
  replace e := nm_s e; obtain ⟨h14, w14, e⟩ := e
  replace e := cl_s e; obtain ⟨r15, p, e⟩ := e
  rw [r_eq (by rw [w14]; exact S7.1.1) p] at e
  replace e' := br_s e'
  rcases e' with ⟨q, _⟩ | ⟨_, e'⟩
  · exact absurd q c3
  replace e' := br_s e'
  rcases e' with ⟨q, _⟩ | ⟨_, e'⟩
  · exact absurd q c4
  rw [← g2'] at e'
  replace e' := br_s e'
  rcases e' with ⟨_, e'⟩ | ⟨q, _⟩
  rotate_left
  · exact absurd c5 q
  replace e' := nm_s e'; obtain ⟨k14, u14, e'⟩ := e'
  have f14 : hI h14 (V 2) 0 = hI hc (V 2) 0 := by rw [w14, rI_a (vne D)]; exact f7
  have fr7 : hI k7 (V 16) 11 = hI hc (V 2) 0 := by rw [← g1']; exact f7
  rw [f14, c6, d6] at e
  rw [fr7] at u14
  have y := Option.some.inj e
  have A14 : CFr V hc h14 := cfr_t A7 (by rw [w14]; exact cfr_w)
  have B14 : RFr V hr k14 := rfr_t B7 (by rw [u14]; exact rfr_w (Or.inr rfl))
  have fl0 := g3.1
  have fl1 := g3.2
  have rk1 := c7.1
  have rk2 := c7.2
  have dd0 := d7.1
  have dd1 := d7.2
  have mul : 0 ≤ (o8.1 - (49 : Int32)).toInt * (hI hc (V 2) 0).toInt ∧ (o8.1 - (49 : Int32)).toInt * (hI hc (V 2) 0).toInt ≤ 56 := by
    have m1 := Int.mul_nonneg rk1 (show 0 ≤ (hI hc (V 2) 0).toInt by omega)
    have m2 : (o8.1 - (49 : Int32)).toInt * (hI hc (V 2) 0).toInt ≤ 7 * 8 := Int.mul_le_mul rk2 fl1 (by omega) (by decide)
    exact ⟨m1, by omega⟩
  have tmm : ((o8.1 - (49 : Int32)) * (hI hc (V 2) 0)).toInt = (o8.1 - (49 : Int32)).toInt * (hI hc (V 2) 0).toInt := tm (by omega)
  have tsq : (((o8.1 - (49 : Int32)) * (hI hc (V 2) 0)) + (o1.1 - (97 : Int32))).toInt = (o8.1 - (49 : Int32)).toInt * (hI hc (V 2) 0).toInt + (o1.1 - (97 : Int32)).toInt := by rw [ta (by rw [tmm]; omega), tmm]
  have k20 : hI k14 (V 16) 20 = ((o8.1 - (49 : Int32)) * (hI hc (V 2) 0)) + (o1.1 - (97 : Int32)) := by rw [u14, rI_s]
  have k19 : hI k14 (V 16) 19 = hI k7 (V 16) 19 := by rw [u14, rI_o (by decide)]
  have at7 := S7.2.2.2.1
  have ro : Rg 0 63 o.1 := by
    rw [← y]
    exact ⟨by rw [tsq]; omega, by rw [tsq]; omega⟩
  have oo2 : o.2 = h14 := by rw [← y]
  have oo1 : o.1 = ((o8.1 - (49 : Int32)) * (hI hc (V 2) 0)) + (o1.1 - (97 : Int32)) := by rw [← y]
  rw [k20, ← oo1] at e'
  replace e' := br_s e'
  rcases e' with ⟨q, e'⟩ | ⟨q, e'⟩
  · have q := lt_i q
    replace e' := nm_s e'; obtain ⟨k16, u16, e'⟩ := e'
    rw [← Option.some.inj e', oo2]
    refine ⟨A14, rfr_t B14 (by show RFr V k14 k16; rw [u16]; exact rfr_w (Or.inl rfl)), Or.inr ⟨ro, by show hI k16 (V 16) 20 = _; rw [u16, rI_o (by decide), k20, oo1], Or.inl ⟨q, rfl, ?_, ?_, ?_⟩⟩⟩
    · show hI h14 (V 7) 2 = hI k16 (V 16) 19
      rw [w14, rI_s, u16, rI_s, k19, ← at7.1]
    · show 0 ≤ (hI h14 (V 7) 2).toInt
      rw [w14, rI_s, ta (by rw [z1]; omega), z1]; omega
    · show (hI h14 (V 7) 2).toInt ≤ _
      rw [w14, rI_s, ta (by rw [z1]; omega), z1]; omega
  · have q := nlt_i q
    replace e' := nm_s e'; obtain ⟨k17, u17, e'⟩ := e'
    rw [← Option.some.inj e', oo2]
    refine ⟨A14, rfr_t B14 (by show RFr V k14 k17; rw [u17]; exact rfr_w (Or.inl rfl)), Or.inr ⟨ro, by show hI k17 (V 16) 20 = _; rw [u17, rI_o (by decide), k20, oo1], Or.inr ⟨q, rfl, ?_⟩⟩⟩
    show hI k17 (V 16) 19 = _
    rw [u17, rI_s, k19, ← at7.1]
    apply Int32.toInt_inj.mp
    rw [ts (by rw [z1, t7]; omega), z1, t7]
    omega
end
