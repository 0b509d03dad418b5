/-! positions: both readers at one place of one text -/
/-- addresses by roles, as Z of the laws: V serves both -/
abbrev vcr : List Nat := [2, 10, 49, 27, 28, 29, 30, 31]
abbrev vrr : List Nat := [15, 82, 73, 74, 75, 76, 77, 78, 79, 80, 81]
abbrev vql : List Nat := [2, 10, 49, 27, 28, 29, 30, 31, 15, 82, 73, 74, 75, 76, 77, 78, 79, 80, 81, 4, 7, 34, 35, 36, 37, 38, 13, 16, 62, 63, 64, 65, 6, 11, 14, 32, 33, 47, 50, 51, 52, 53, 54, 55, 56, 66, 67, 68, 69, 70, 71, 72, 86, 87, 88, 204, 234, 235, 236, 237, 238, 213, 262, 263, 264, 265]
def VD (V : Nat → Nat) : Prop := ∀ a, a ∈ vql → ∀ b, b ∈ vql → ¬ a = b → ¬ V a = V b
theorem vne {V : Nat → Nat} (D : VD V) {a b : Nat} (n : ¬ a = b := by decide) (ha : a ∈ vql := by decide) (hb : b ∈ vql := by decide) : ¬ V a = V b := D a ha b hb n
def VC (V : Nat → Nat) (h : Hp) : Prop := hR h (V 7) 0 = some (V 2) ∧ hR h (V 7) 1 = some (V 10) ∧ hR h (V 10) 0 = some (V 49)
def VRf (V : Nat → Nat) (h : Hp) : Prop := hR h (V 16) 17 = some (V 82) ∧ hR h (V 16) 4 = some (V 15)
def TxV (V : Nat → Nat) (N : Int32) (hc hr : Hp) : Prop := hI hc (V 10) 1 = N ∧ hI hr (V 16) 18 = N ∧ Rg 0 1200 N ∧ (∀ i, Rg 0 255 (hI hc (V 49) i)) ∧ ∀ i : Nat, (i : Int) < N.toInt → (hI hr (V 82) i).toInt = sg (hI hc (V 49) i).toInt
def AtV (V : Nat → Nat) (N : Int32) (hc hr : Hp) : Prop := hI hc (V 7) 2 = hI hr (V 16) 19 ∧ 0 ≤ (hI hc (V 7) 2).toInt ∧ (hI hc (V 7) 2).toInt ≤ N.toInt
def GeV (V : Nat → Nat) (hc hr : Hp) : Prop := hI hc (V 2) 0 = hI hr (V 16) 11 ∧ hI hc (V 2) 1 = hI hr (V 16) 12 ∧ Rg 3 8 (hI hc (V 2) 0) ∧ Rg 3 8 (hI hc (V 2) 1)
def RdV (V : Nat → Nat) (N : Int32) (hc hr : Hp) : Prop := VC V hc ∧ VRf V hr ∧ TxV V N hc hr ∧ AtV V N hc hr ∧ GeV V hc hr ∧ ZA V (V 2) (V 15) hc hr ∧ LwQ V hc hr
section
variable {F : Nat} {V : Nat → Nat} {N : Int32} {hc hr oc or : Hp} {o o' : Int32 × Hp}
theorem rdv_k (S : RdV V N hc hr) (cR : ∀ a i, hR oc a i = hR hc a i) (c : ∀ k, k ∈ vcr → ∀ i, hI oc (V k) i = hI hc (V k) i) (cJ : hJ oc (V 2) 13 = hJ hc (V 2) 13) (rR : ∀ a i, hR or a i = hR hr a i) (r : ∀ k, k ∈ vrr → ∀ i, hI or (V k) i = hI hr (V k) i) (rJ : hJ or (V 15) 21 = hJ hr (V 15) 21) (r16 : ∀ i, i = 11 ∨ i = 12 ∨ i = 18 → hI or (V 16) i = hI hr (V 16) i) (at' : AtV V N oc or) : RdV V N oc or := by
  obtain ⟨⟨a1, a2, a3⟩, ⟨b1, b2⟩, ⟨t1, t2, t3, t4, t5⟩, _, ⟨g1, g2, g3, g4⟩, ⟨⟨u1, u2, u3, u4, u5, u6⟩, ⟨v1, v2, v3, v4, v5, v6, v7, v8, v9, v10⟩, w⟩, Q⟩ := S
  have c2 := c 2 (by decide)
  have c10 := c 10 (by decide)
  have c49 := c 49 (by decide)
  have r82 := r 82 (by decide)
  refine ⟨⟨by rw [cR]; exact a1, by rw [cR]; exact a2, by rw [cR]; exact a3⟩, ⟨by rw [rR]; exact b1, by rw [rR]; exact b2⟩, ⟨by rw [c10]; exact t1, by rw [r16 18 (by decide)]; exact t2, t3, fun i => by rw [c49]; exact t4 i, fun i hi => by rw [r82, c49]; exact t5 i hi⟩, at', ⟨by rw [c2, r16 11 (by decide)]; exact g1, by rw [c2, r16 12 (by decide)]; exact g2, by rw [c2]; exact g3, by rw [c2]; exact g4⟩, ⟨⟨u1, by rw [cR]; exact u2, by rw [cR]; exact u3, by rw [cR]; exact u4, by rw [cR]; exact u5, by rw [cR]; exact u6⟩, ⟨v1, by rw [rR]; exact v2, by rw [rR]; exact v3, by rw [rR]; exact v4, by rw [rR]; exact v5, by rw [rR]; exact v6, by rw [rR]; exact v7, by rw [rR]; exact v8, by rw [rR]; exact v9, by rw [rR]; exact v10⟩, w⟩, lwq_k Q c2 cJ (fun k hk => c k (by
    have : ∀ k, k ∈ lc5 → k ∈ vcr := by decide
    exact this k hk)) (r 15 (by decide)) rJ (fun k hk => r k (by
    have : ∀ k, k ∈ lr9 → k ∈ vrr := by decide
    exact this k hk))⟩
/-- the byte at the place -/
theorem by_p (S : RdV V N hc hr) (e : sX9_byteAt hc (V 10) (hI hc (V 7) 2) = some o) (e' : sX15_look hr (V 16) = some o') : o.2 = hc ∧ o'.2 = hr ∧ ((o.1 = (-1 : Int32) ∧ o'.1 = (-1 : Int32) ∧ hI hc (V 7) 2 = N) ∨ ((hI hc (V 7) 2).toInt < N.toInt ∧ Rg 0 255 o.1 ∧ o'.1.toInt = sg o.1.toInt)) := by
  have z0 : (0 : Int32).toInt = 0 := rfl
  obtain ⟨⟨a1, a2, a3⟩, ⟨b1, b2⟩, ⟨t1, t2, t3, t4, t5⟩, ⟨p1, p2, p3⟩, _⟩ := S
  unfold sX9_byteAt sX9_byteAt_21 sX9_byteAt_22 at e
  unfold sX15_look sX15_look_24 at e'
  replace e := br_s e
  rcases e with ⟨l, _⟩ | ⟨_, e⟩
  · have l := lt_i l
    rw [z0] at l
    omega
  rw [t1] at e
  rw [t2, ← p1] at e'
  replace e := br_s e
  replace e' := br_s e'
  rcases e with ⟨l, e⟩ | ⟨l, e⟩
  · rcases e' with ⟨_, e'⟩ | ⟨l', _⟩
    rotate_left
    · exact absurd l l'
    have l := le_i l
    rw [← Option.some.inj e, ← Option.some.inj e']
    exact ⟨rfl, rfl, Or.inl ⟨rfl, rfl, Int32.toInt_inj.mp (by omega)⟩⟩
  rcases e' with ⟨l', _⟩ | ⟨_, e'⟩
  · exact absurd l' l
  have l := nle_i l
  replace e := cl_s e; obtain ⟨r, p, e⟩ := e
  rw [r_eq a3 p] at e
  replace e := (gd_s e).2
  replace e' := cl_s e'; obtain ⟨r', p', e'⟩ := e'
  rw [r_eq b1 p'] at e'
  replace e' := (gd_s e').2
  have nc := nc_i p2
  rw [← Option.some.inj e, ← Option.some.inj e']
  exact ⟨rfl, rfl, Or.inr ⟨l, t4 _, t5 _ (by omega)⟩⟩
/-- a byte below 128 is there for both, or for none -/
theorem by_k {x y k : Int32} {P : Prop} (H : (x = (-1 : Int32) ∧ y = (-1 : Int32) ∧ P) ∨ (hI hc (V 7) 2).toInt < N.toInt ∧ Rg 0 255 x ∧ y.toInt = sg x.toInt) (ik : Rg 0 127 k) : x = k ↔ y = k := by
  have k0 := ik.1
  have k1 := ik.2
  have zm : (-1 : Int32).toInt = -1 := by decide
  rcases H with ⟨h1, h2, _⟩ | ⟨_, h2, h3⟩
  · rw [h1, h2]
  · rw [← Int32.toInt_inj, ← Int32.toInt_inj, h3]
    exact (sg_e ⟨h2.1, h2.2⟩ ⟨k0, by omega⟩).symm
/-- on both sides one place further -/
theorem at_1 (D : VD V) (S : RdV V N hc hr) (l : (hI hc (V 7) 2).toInt < N.toInt) : RdV V N (wI hc (V 7) 2 ((hI hc (V 7) 2) + (1 : Int32))) (wI hr (V 16) 19 ((hI hr (V 16) 19) + (1 : Int32))) := by
  have z1 : (1 : Int32).toInt = 1 := rfl
  obtain ⟨p1, p2, p3⟩ := S.2.2.2.1
  have n12 := S.2.2.1.2.2.1.2
  refine rdv_k S (fun _ _ => rfl) (fun k hk i => rI_a ?_) rfl (fun _ _ => rfl) (fun k hk i => rI_a ?_) rfl (fun i hi => rI_o (by omega)) ⟨?_, ?_, ?_⟩
  · have : ∀ k, k ∈ vcr → k ∈ vql ∧ ¬ k = 7 := by decide
    exact vne D (this k hk).2 (this k hk).1
  · have : ∀ k, k ∈ vrr → k ∈ vql ∧ ¬ k = 16 := by decide
    exact vne D (this k hk).2 (this k hk).1
  · rw [rI_s, rI_s, p1]
  · rw [rI_s, ta (by rw [z1]; omega), z1]; omega
  · rw [rI_s, ta (by rw [z1]; omega), z1]; omega
/-- one byte that is wanted -/
theorem tk_p {b : Int32} (D : VD V) (S : RdV V N hc hr) (ib : Rg 0 127 b) (e : sX7_takeByte hc (V 7) b = some o) (e' : sX15_reads hr (V 16) b = some o') : (o = ((0 : Int32), hc) ∧ o' = ((0 : Int32), hr)) ∨ (o = ((1 : Int32), wI hc (V 7) 2 ((hI hc (V 7) 2) + (1 : Int32))) ∧ o' = ((1 : Int32), wI hr (V 16) 19 ((hI hr (V 16) 19) + (1 : Int32))) ∧ RdV V N o.2 o'.2) := by
  unfold sX7_takeByte at e
  unfold sX15_reads at e'
  replace e := cl_s e; obtain ⟨r1, p, e⟩ := e
  rw [r_eq S.1.2.1 p] at e
  replace e := cl_s e; obtain ⟨o2, eo2, e⟩ := e
  replace e' := cl_s e'; obtain ⟨o1, eo1, e'⟩ := e'
  obtain ⟨w2, w1, H⟩ := by_p S eo2 eo1
  rw [w2] at e
  rw [w1] at e'
  have K := by_k (k := b) H ib
  replace e := br_s e
  replace e' := br_s e'
  rcases e with ⟨q, e⟩ | ⟨q, e⟩
  · rcases e' with ⟨_, e'⟩ | ⟨q', _⟩
    rotate_left
    · exact absurd (K.mp q) q'
    have l : (hI hc (V 7) 2).toInt < N.toInt := by
      rcases H with ⟨h1, _⟩ | ⟨l, _⟩
      · have := ib.1
        rw [← q, h1] at this
        exact absurd this (by decide)
      · exact l
    have y := Option.some.inj e
    have y' := Option.some.inj e'
    refine Or.inr ⟨y.symm, y'.symm, ?_⟩
    rw [← y, ← y']
    exact at_1 D S l
  · rcases e' with ⟨q', _⟩ | ⟨_, e'⟩
    · exact absurd (K.mpr q') q
    exact Or.inl ⟨(Option.some.inj e).symm, (Option.some.inj e').symm⟩
end
