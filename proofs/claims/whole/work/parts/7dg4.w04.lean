section
/-! what both readers have written: addresses by role -/
abbrev zl : List Nat := [3, 10, 49, 2, 27, 28, 29, 30, 31, 16, 15, 82, 73, 74, 75, 76, 77, 78, 79, 80, 81]
def ZD (Z : Nat → Nat) : Prop := ∀ i, i ∈ zl → ∀ j, j ∈ zl → Z i = Z j → i = j
theorem zne {Z : Nat → Nat} (D : ZD Z) {i j : Nat} (n : ¬ i = j := by decide) (hi : i ∈ zl := by decide) (hj : j ∈ zl := by decide) : ¬ Z i = Z j := fun e => n (D i hi j hj e)
theorem zn {Z : Nat → Nat} (D : ZD Z) {i j : Nat} (e : Z i = Z j) (n : ¬ i = j := by decide) (hi : i ∈ zl := by decide) (hj : j ∈ zl := by decide) : False := n (D i hi j hj e)
def ZC (Z : Nat → Nat) (h : Hp) : Prop := hR h (Z 3) 0 = some (Z 10) ∧ hR h (Z 3) 1 = some (Z 2) ∧ hR h (Z 10) 0 = some (Z 49) ∧ hR h (Z 2) 14 = some (Z 27) ∧ hR h (Z 2) 15 = some (Z 28) ∧ hR h (Z 2) 16 = some (Z 29) ∧ hR h (Z 2) 17 = some (Z 30) ∧ hR h (Z 2) 18 = some (Z 31)
def ZR (Z : Nat → Nat) (h : Hp) : Prop := hR h (Z 16) 5 = some (Z 15) ∧ hR h (Z 15) 3 = some (Z 73) ∧ hR h (Z 15) 4 = some (Z 74) ∧ hR h (Z 15) 5 = some (Z 75) ∧ hR h (Z 15) 6 = some (Z 76) ∧ hR h (Z 15) 7 = some (Z 77) ∧ hR h (Z 15) 8 = some (Z 78) ∧ hR h (Z 15) 9 = some (Z 79) ∧ hR h (Z 15) 13 = some (Z 80) ∧ hR h (Z 15) 14 = some (Z 81)
/-- fields that stand for each other -/
abbrev prs : List (Nat × Nat) := [(0, 0), (1, 1), (3, 2), (4, 10), (5, 11), (6, 12), (7, 20), (8, 22), (9, 23), (11, 19)]
theorem prs_1 : ∀ a, a ∈ prs → ∀ b, b ∈ prs → (a.1 = b.1 ∨ a.2 = b.2) → a = b := by decide
theorem prs_3 : ∀ a, a ∈ prs → ¬ (15 ≤ a.2 ∧ a.2 < 19) := by decide
theorem prs_2 : ∀ a, a ∈ prs → ¬ a.1 = 12 ∧ ¬ a.1 = 2 ∧ ¬ a.1 = 10 := by decide
def Bq (x : Int32) (q : Nat) : Prop := ((x >>> ((nI q) &&& 31)) &&& (1 : Int32)) = 1
/-- letters, men that become others, men that others become -/
def LT1 (Z : Nat → Nat) (hc hr : Hp) : Prop := ∀ i : Nat, (i : Int) < (hI hc (Z 2) 3).toInt → hI hc (Z 27) i = hI hr (Z 73) i ∧ Rg 97 122 (hI hc (Z 27) i)
def LT2 (Z : Nat → Nat) (hc hr : Hp) : Prop := ∀ i : Nat, i < 12 → hI hc (Z 31) i = hI hr (Z 81) i ∧ Rg 0 6 (hI hc (Z 31) i) ∧ ∀ j : Nat, (j : Int) < (hI hc (Z 31) i).toInt → hI hc (Z 30) (6 * i + j) = hI hr (Z 80) (6 * i + j) ∧ Rg 0 11 (hI hr (Z 80) (6 * i + j))
def LT3 (Z : Nat → Nat) (hc hr : Hp) : Prop := Rg 0 4095 (hI hc (Z 2) 12) ∧ ∀ q : Nat, q < 12 → (Bq (hI hc (Z 2) 12) q ↔ ∃ i j : Nat, (i : Int) < (hI hr (Z 15) 2).toInt ∧ (j : Int) < (hI hr (Z 81) i).toInt ∧ (hI hr (Z 80) (6 * i + j)).toInt = (q : Int))
/-- men that are not told yet have no steps, and become nobody -/
def LT4 (Z : Nat → Nat) (hr : Hp) : Prop := ∀ q : Nat, (hI hr (Z 15) 2).toInt ≤ (q : Int) → q < 12 → hI hr (Z 74) q = 0 ∧ hI hr (Z 81) q = 0
/-- a step: the class's number, the reference's five -/
def StE (w f a b r s : Int32) : Prop := (Rg 0 63 f ∧ Rg (-7) 7 a ∧ Rg (-7) 7 b ∧ Rg 1 7 r ∧ Rg 0 8 s) ∧ w.toInt = f.toInt + 64 * (a.toInt + 8) + 1024 * (b.toInt + 8) + 16384 * r.toInt + 131072 * s.toInt
def SXs (Z : Nat → Nat) (hc hr : Hp) (k : Nat) : Prop := StE (hI hc (Z 28) k) (hI hr (Z 75) k) (hI hr (Z 76) k) (hI hr (Z 77) k) (hI hr (Z 78) k) (hI hr (Z 79) k)
/-- hand, must, shy, blast; Z 998 is one that the reference has told ahead -/
def LT5 (Z : Nat → Nat) (hc hr : Hp) : Prop := Rg 0 15 (hI hc (Z 2) 10) ∧ ∀ k : Nat, k < 4 → ¬ Z 998 = k + 1 → (Bq (hI hc (Z 2) 10) k ↔ ¬ hI hr (Z 15) (15 + k) = 0)
/-- steps; Z 997 is a man whose steps are being told, Z 996 how many he has -/
def LT6 (Z : Nat → Nat) (hc hr : Hp) : Prop := ∀ j : Nat, (j : Int) < (hI hr (Z 15) 2).toInt → (¬ Z 997 = j + 1 → hI hc (Z 29) j = hI hr (Z 74) j ∧ Rg 1 8 (hI hc (Z 29) j) ∧ ∀ i : Nat, (i : Int) < (hI hc (Z 29) j).toInt → SXs Z hc hr (8 * j + i)) ∧ (Z 997 = j + 1 → ∀ i : Nat, i < Z 996 → SXs Z hc hr (8 * j + i))
abbrev lr : List Nat := [74, 75, 76, 77, 78, 79]
theorem lr_z : ∀ k, k ∈ lr → k ∈ zl ∧ ¬ k = 2 ∧ ¬ k = 3 ∧ ¬ k = 15 ∧ ¬ k = 16 ∧ ¬ k = 73 ∧ ¬ k = 80 ∧ ¬ k = 81 ∧ ¬ k = 82 := by decide
abbrev lc2 : List Nat := [28, 29]
theorem lc_z : ∀ k, k ∈ lc2 → k ∈ zl ∧ ¬ k = 2 ∧ ¬ k = 3 ∧ ¬ k = 10 ∧ ¬ k = 49 ∧ ¬ k = 27 ∧ ¬ k = 30 ∧ ¬ k = 31 := by decide
theorem lt5_k {Z : Nat → Nat} {hc hr oc or : Hp} (S : LT5 Z hc hr) (c : hI oc (Z 2) 10 = hI hc (Z 2) 10) (r : ∀ k, 15 ≤ k → k < 19 → hI or (Z 15) k = hI hr (Z 15) k) : LT5 Z oc or := ⟨by rw [c]; exact S.1, fun k hk n => by rw [c, r (15 + k) (by omega) (by omega)]; exact S.2 k hk n⟩
theorem sx_k {Z : Nat → Nat} {hc hr oc or : Hp} {k : Nat} (S : SXs Z hc hr k) (ca : hI oc (Z 28) k = hI hc (Z 28) k) (ra : ∀ q, q ∈ lr → hI or (Z q) k = hI hr (Z q) k) : SXs Z oc or k := by
  unfold SXs at S ⊢
  rw [ca, ra 75 (by decide), ra 76 (by decide), ra 77 (by decide), ra 78 (by decide), ra 79 (by decide)]
  exact S
theorem lt6_k {Z : Nat → Nat} {hc hr oc or : Hp} (S : LT6 Z hc hr) (r2 : hI or (Z 15) 2 = hI hr (Z 15) 2) (ca : ∀ k, k ∈ lc2 → ∀ i, hI oc (Z k) i = hI hc (Z k) i) (ra : ∀ k, k ∈ lr → ∀ i, hI or (Z k) i = hI hr (Z k) i) : LT6 Z oc or := fun j hj => by
  rw [r2] at hj
  obtain ⟨S1, S2⟩ := S j hj
  refine ⟨fun n => ?_, fun g i hi => sx_k (S2 g i hi) (ca 28 (by decide) _) (fun q hq => ra q hq _)⟩
  obtain ⟨a, b, c⟩ := S1 n
  refine ⟨by rw [ca 29 (by decide), ra 74 (by decide)]; exact a, by rw [ca 29 (by decide)]; exact b, fun i hi => ?_⟩
  rw [ca 29 (by decide)] at hi
  exact sx_k (c i hi) (ca 28 (by decide) _) (fun q hq => ra q hq _)
/-- the royal man becomes none -/
def LT7 (Z : Nat → Nat) (hc : Hp) : Prop := ∀ q : Nat, q < 12 → (hI hc (Z 2) 4).toInt = (q : Int) → hI hc (Z 31) q = 0
theorem lt7_k {Z : Nat → Nat} {hc oc : Hp} (S : LT7 Z hc) (c4 : hI oc (Z 2) 4 = hI hc (Z 2) 4) (c31 : ∀ i, hI oc (Z 31) i = hI hc (Z 31) i) : LT7 Z oc := fun q hq z => by
  rw [c4] at z
  rw [c31]; exact S q hq z
def LwS (Z : Nat → Nat) (hc hr : Hp) : Prop := (hI hc (Z 3) 6 = hI hr (Z 16) 10 ∧ Rg 0 1023 (hI hc (Z 3) 6)) ∧ (∀ p, p ∈ prs → hI hc (Z 2) p.1 = hI hr (Z 15) p.2) ∧ hJ hc (Z 2) 13 = hJ hr (Z 15) 21 ∧ Rg 0 12 (hI hc (Z 2) 3) ∧ LT1 Z hc hr ∧ LT2 Z hc hr ∧ LT3 Z hc hr ∧ (Rg 3 8 (hI hc (Z 2) 0) ∧ Rg 3 8 (hI hc (Z 2) 1) ∧ Rg (-1) 11 (hI hc (Z 2) 4) ∧ Rg 0 4095 (hI hc (Z 2) 11)) ∧ ((hI hc (Z 3) 6) &&& (32 : Int32) = 0 → hI hc (Z 2) 11 = 0) ∧ ((hI hc (Z 3) 6) &&& (128 : Int32) = 0 → hJ hc (Z 2) 13 = 0) ∧ LT4 Z hr ∧ ((Z 999 : Nat) : Int) ≤ (hI hc (Z 3) 3).toInt ∧ LT5 Z hc hr ∧ LT6 Z hc hr ∧ LT7 Z hc
theorem ls_6 {Z : Nat → Nat} {hc hr : Hp} (S : LwS Z hc hr) : LT6 Z hc hr := S.2.2.2.2.2.2.2.2.2.2.2.2.2.1
theorem ls_7 {Z : Nat → Nat} {hc hr : Hp} (S : LwS Z hc hr) : LT7 Z hc := S.2.2.2.2.2.2.2.2.2.2.2.2.2.2
theorem ls_5 {Z : Nat → Nat} {hc hr : Hp} (S : LwS Z hc hr) : LT5 Z hc hr := S.2.2.2.2.2.2.2.2.2.2.2.2.1
def PS (T : Nat → Int) (N : Int) (Z : Nat → Nat) (hc hr : Hp) : Prop := ZC Z hc ∧ ZR Z hr ∧ CT T N (Z 10) (Z 3) hc ∧ RT T N (Z 82) hr ∧ TS T N (Z 3) (Z 16) hc hr ∧ LwS Z hc hr
/-- what lookups of men stand on -/
def LSm (Z : Nat → Nat) (hc hr : Hp) : Prop := hI hc (Z 2) 3 = hI hr (Z 15) 2 ∧ Rg 0 12 (hI hc (Z 2) 3) ∧ LT1 Z hc hr
def PMn (T : Nat → Int) (N : Int) (Z : Nat → Nat) (hc hr : Hp) : Prop := ZC Z hc ∧ ZR Z hr ∧ CT T N (Z 10) (Z 3) hc ∧ RT T N (Z 82) hr ∧ TS T N (Z 3) (Z 16) hc hr ∧ LSm Z hc hr
theorem ls_m {Z : Nat → Nat} {hc hr : Hp} (S : LwS Z hc hr) : LSm Z hc hr := ⟨S.2.1 (3, 2) (by decide), S.2.2.2.1, S.2.2.2.2.1⟩
theorem ps_m {T : Nat → Int} {N : Int} {Z : Nat → Nat} {hc hr : Hp} (P : PS T N Z hc hr) : PMn T N Z hc hr := ⟨P.1, P.2.1, P.2.2.1, P.2.2.2.1, P.2.2.2.2.1, ls_m P.2.2.2.2.2⟩
/-- both stop at the same place -/
def Fl2 (Z : Nat → Nat) (hc hr : Hp) : Prop := hI hc (Z 3) 2 = hI hr (Z 16) 7
section
variable {T : Nat → Int} {N : Int} {F : Nat} {Z : Nat → Nat} {x2 : Int32} {hc hr oc or : Hp} {x : Int32}
theorem zc_k (C : ZC Z hc) (K : ∀ a i, hR oc a i = hR hc a i) : ZC Z oc := by
  obtain ⟨a1, a2, a3, a4, a5, a6, a7, a8⟩ := C
  exact ⟨by rw [K]; exact a1, by rw [K]; exact a2, by rw [K]; exact a3, by rw [K]; exact a4, by rw [K]; exact a5, by rw [K]; exact a6, by rw [K]; exact a7, by rw [K]; exact a8⟩
theorem zr_k (C : ZR Z hr) (K : ∀ a i, hR or a i = hR hr a i) : ZR Z or := by
  obtain ⟨a1, a2, a3, a4, a5, a6, a7, a8, a9, a10⟩ := C
  exact ⟨by rw [K]; exact a1, by rw [K]; exact a2, by rw [K]; exact a3, by rw [K]; exact a4, by rw [K]; exact a5, by rw [K]; exact a6, by rw [K]; exact a7, by rw [K]; exact a8, by rw [K]; exact a9, by rw [K]; exact a10⟩
/-- what is read of the law stays -/
theorem ls_kk (S : LwS Z hc hr) (c3 : hI oc (Z 3) 6 = hI hc (Z 3) 6) (c2 : ∀ i, hI oc (Z 2) i = hI hc (Z 2) i) (cJ : hJ oc (Z 2) 13 = hJ hc (Z 2) 13) (ca : ∀ k i, k = 27 ∨ k = 30 ∨ k = 31 → hI oc (Z k) i = hI hc (Z k) i) (r16 : hI or (Z 16) 10 = hI hr (Z 16) 10) (r15 : ∀ i, hI or (Z 15) i = hI hr (Z 15) i) (rJ : hJ or (Z 15) 21 = hJ hr (Z 15) 21) (ra : ∀ k i, k = 73 ∨ k = 80 ∨ k = 81 ∨ k = 74 → hI or (Z k) i = hI hr (Z k) i) (cn : ((Z 999 : Nat) : Int) ≤ (hI oc (Z 3) 3).toInt) (l6 : LT6 Z oc or) : LwS Z oc or := by
  obtain ⟨s1, s2, s3, s4, s5, s6, s7, s8, s9⟩ := S
  refine ⟨by rw [c3, r16]; exact s1, fun p hp => by rw [c2, r15]; exact s2 p hp, by rw [cJ, rJ]; exact s3, by rw [c2]; exact s4, fun i hi => ?_, fun i hi => ?_, ⟨by rw [c2]; exact s7.1, fun q hq => ?_⟩, by rw [c2, c2, c2, c2]; exact s8, by rw [c3, c2]; exact s9.1, by rw [c3, cJ]; exact s9.2.1, fun q h1 h2 => by rw [r15] at h1; rw [ra 74 q (by decide), ra 81 q (by decide)]; exact s9.2.2.1 q h1 h2, cn, lt5_k s9.2.2.2.2.1 (c2 10) (fun k _ _ => r15 k), l6, lt7_k s9.2.2.2.2.2.2 (c2 4) (fun i => ca 31 i (by decide))⟩
  · rw [c2] at hi
    rw [ca 27 i (by decide), ra 73 i (by decide)]; exact s5 i hi
  · rw [ca 31 i (by decide), ra 81 i (by decide)]
    refine ⟨(s6 i hi).1, (s6 i hi).2.1, fun j hj => ?_⟩
    rw [ca 30 _ (by decide), ra 80 _ (by decide)]
    exact (s6 i hi).2.2 j hj
  · rw [c2, s7.2 q hq]
    constructor
    · rintro ⟨i, j, a, b, c⟩
      exact ⟨i, j, by rw [r15]; exact a, by rw [ra 81 i (by decide)]; exact b, by rw [ra 80 _ (by decide)]; exact c⟩
    · rintro ⟨i, j, a, b, c⟩
      exact ⟨i, j, by rw [← r15]; exact a, by rw [← ra 81 i (by decide)]; exact b, by rw [← ra 80 _ (by decide)]; exact c⟩
/-- both go on by a token -/
theorem ps_a (n12 : N ≤ 1200) (dg : ∀ j : Nat, (j : Int) < N → 0 ≤ T j ∧ T j ≤ 255) (D : ZD Z) (n2 : x2.toInt = N) (P : ZC Z hc ∧ ZR Z hr ∧ CT T N (Z 10) (Z 3) hc ∧ RT T N (Z 82) hr ∧ LwS Z hc hr) (S : hI hc (Z 3) 3 = hI hr (Z 16) 8 ∧ 0 ≤ (hI hc (Z 3) 3).toInt ∧ (hI hc (Z 3) 3).toInt ≤ N) (ec : sX2_advance F hc (Z 3) = some oc) (er : sX15_nextToken F hr (Z 16) (Z 82) x2 = some or) : PS T N Z oc or := by
  obtain ⟨p1, p2, p3, p4, p5⟩ := P
  obtain ⟨S2, Kc, Kr'⟩ := ts_a n12 dg p3 p4 (zne D) n2 S ec er
  refine ⟨zc_k p1 Kc.1.1, zr_k p2 Kr'.1.1, ct_k p3 Kc, rt_k (zne D) p4 Kr', S2, ?_⟩
  refine ls_kk p5 (Kc.2 _ _ (fun z => by have := z.2.2; omega)) (fun i => Kc.2 _ _ (fun z => zn D z.1)) (Kc.1.2 _ _) (fun k i hk => Kc.2 _ _ (fun z => ?_)) (Kr'.2 _ _ (fun z => by have := z.2.2; omega)) (fun i => Kr'.2 _ _ (fun z => zn D z.1)) (Kr'.1.2 _ _) (fun k i hk => Kr'.2 _ _ (fun z => ?_)) (by
    have A := (adv_k n12 dg p3 S.2.1 S.2.2 ec).2
    have a1 := A.1.2.1
    have a2 := (tk_b A).2.1
    have a3 := p5.2.2.2.2.2.2.2.2.2.2.2.1
    omega) (lt6_k (ls_6 p5) (Kr'.2 _ _ (fun z => zn D z.1)) (fun k hk i => Kc.2 _ _ (fun z => (lc_z k hk).2.2.1 (D k (lc_z k hk).1 3 (by decide) z.1))) (fun k hk i => Kr'.2 _ _ (fun z => (lr_z k hk).2.2.2.2.1 (D k (lr_z k hk).1 16 (by decide) z.1))))
  · rcases hk with rfl | rfl | rfl <;> exact zn D z.1
  · rcases hk with rfl | rfl | rfl | rfl <;> exact zn D z.1
end
end
section
/-! men told by their letters -/
section
variable {T : Nat → Int} {N : Int} {F : Nat} {Z : Nat → Nat} {x2 : Int32} {hc hr oc or : Hp} {x : Int32}
theorem manf_r (L : LSm Z hc hr) (C : ZC Z hc) (R : ZR Z hr) : ∀ (f g : Nat) {j : Int32} {o o' : Int32 × Hp}, 0 ≤ j.toInt → j.toInt ≤ 12 → sX1_manOf_2 F f hc (Z 2) x j = some o → sX14_find_2 F g hr (Z 15) x j = some o' → o.2 = hc ∧ o'.2 = hr ∧ o.1 = o'.1 ∧ (o.1 = (-1 : Int32) ∨ (0 ≤ o.1.toInt ∧ o.1.toInt < (hI hc (Z 2) 3).toInt)) := by
  have z1 : (1 : Int32).toInt = 1 := rfl
  obtain ⟨mm, s4, s5⟩ := L
  intro f
  induction f with
  | zero => intro g j o o' _ _ e; exact absurd e (by rw [sX1_manOf_2]; exact fun z => nomatch z)
  | succ f ih =>
    intro g j o o' j0 j12 e e'
    cases g with
    | zero => exact absurd e' (by rw [sX14_find_2]; exact fun z => nomatch z)
    | succ g =>
      rw [sX1_manOf_2] at e
      rw [sX14_find_2, ← mm] at e'
      replace e := br_s e
      replace e' := br_s e'
      rcases e with ⟨l, e⟩ | ⟨l, e⟩
      · rcases e' with ⟨_, e'⟩ | ⟨l', _⟩
        · rw [← Option.some.inj e, ← Option.some.inj e']; exact ⟨rfl, rfl, rfl, Or.inl rfl⟩
        · exact absurd l l'
      rcases e' with ⟨l', _⟩ | ⟨_, e'⟩
      · exact absurd l' l
      have l := nle_i l
      have m12 := s4.2
      replace e := cl_s e
      obtain ⟨r2, e2, e⟩ := e
      have y2 : r2 = Z 27 := r_eq C.2.2.2.1 e2
      rw [y2] at e
      replace e := (gd_s e).2
      replace e' := cl_s e'
      obtain ⟨r3, e3, e'⟩ := e'
      have y3 : r3 = Z 73 := r_eq R.2.1 e3
      rw [y3] at e'
      replace e' := (gd_s e').2
      have nx := nc_i j0
      rw [← (s5 j.toNatClampNeg (by omega)).1] at e'
      replace e := br_s e
      replace e' := br_s e'
      rcases e with ⟨b, e⟩ | ⟨b, e⟩
      · rcases e' with ⟨_, e'⟩ | ⟨b', _⟩
        · rw [← Option.some.inj e, ← Option.some.inj e']; exact ⟨rfl, rfl, rfl, Or.inr ⟨j0, l⟩⟩
        · exact absurd b b'
      rcases e' with ⟨b', _⟩ | ⟨_, e'⟩
      · exact absurd b' b
      replace e := nm_s e
      obtain ⟨v6, w6, e⟩ := e
      replace e' := nm_s e'
      obtain ⟨v7, w7, e'⟩ := e'
      rw [w7, ← w6] at e'
      have t6 : v6.toInt = j.toInt + 1 := by rw [w6, ta (by rw [z1]; omega), z1]
      exact ih g (by omega) (by omega) e e'
/-- one letter: the class's byte is the reference's -/
theorem one_r (n12 : N ≤ 1200) (P : PMn T N Z hc hr) {o : Int32 × Hp} (e : sX2_oneLetter hc (Z 3) = some o) : o.2 = hc ∧ ((o.1 = (-1 : Int32) ∧ ¬ (hI hr (Z 16) 6 = (1 : Int32) ∧ hI hr (Z 16) 8 = (hI hr (Z 16) 7) + (1 : Int32))) ∨ (¬ o.1 = (-1 : Int32) ∧ (hI hr (Z 16) 6 = (1 : Int32) ∧ hI hr (Z 16) 8 = (hI hr (Z 16) 7) + (1 : Int32)) ∧ o.1 = hI hr (Z 82) (hI hr (Z 16) 7).toNatClampNeg ∧ Rg 97 122 o.1)) := by
  obtain ⟨p1, p2, p3, p4, p5, p6⟩ := P
  have f0 := ts_f p5
  have b0 := ts_b p5
  have z1 : (1 : Int32).toInt = 1 := rfl
  have kk : hI hc (Z 3) 4 = (1 : Int32) ↔ hI hr (Z 16) 6 = (1 : Int32) := by
    rw [← Int32.toInt_inj, ← Int32.toInt_inj, f0.2.2.1, z1]
    unfold km
    constructor
    · intro z; rw [if_neg (by omega), if_neg (by omega)]; exact z
    · intro z
      by_cases q0 : (hI hc (Z 3) 4).toInt = 0
      · rw [if_pos q0] at z; omega
      · rw [if_neg q0] at z
        by_cases q4 : (hI hc (Z 3) 4).toInt = 4
        · rw [if_pos q4] at z; omega
        · rw [if_neg q4] at z; exact z
  have ll : (hI hc (Z 3) 3) - (hI hc (Z 3) 2) = (1 : Int32) ↔ hI hr (Z 16) 8 = (hI hr (Z 16) 7) + (1 : Int32) := by
    rw [← f0.1, ← f0.2.1, ← Int32.toInt_inj, ← Int32.toInt_inj, ts (by omega), ta (by rw [z1]; omega), z1]
    constructor <;> intro z <;> omega
  unfold sX2_oneLetter sX2_oneLetter_35 sX2_oneLetter_36 at e
  replace e := br_s e
  rcases e with ⟨k, e⟩ | ⟨k, e⟩
  rotate_left
  · rw [← Option.some.inj e]; exact ⟨rfl, Or.inl ⟨rfl, fun z => k (kk.mpr z.1)⟩⟩
  replace e := br_s e
  rcases e with ⟨l, e⟩ | ⟨l, e⟩
  rotate_left
  · rw [← Option.some.inj e]; exact ⟨rfl, Or.inl ⟨rfl, fun z => l (ll.mpr z.2)⟩⟩
  replace e := cl_s e
  obtain ⟨r3, e3, e⟩ := e
  have y3 : r3 = Z 10 := r_eq p3.1 e3
  rw [y3] at e
  replace e := cl_s e
  obtain ⟨o4, e4, e⟩ := e
  obtain ⟨q4, v4⟩ := byte_c p3 e4
  rw [q4] at e
  obtain ⟨p, kd, A, _, _⟩ := id p5
  obtain ⟨lt, lw⟩ := tk_w A (by rw [k]; rfl)
  have lws := lw (hI hc (Z 3) 2).toInt.toNat (by omega) (by omega)
  have v4 : o4.1.toInt = T (hI hc (Z 3) 2).toInt.toNat := v4.elim (fun z => z.2.2) (fun z => absurd ⟨by omega, by omega⟩ z.1)
  have nx := nc_i (x := hI hc (Z 3) 2) (by omega)
  have w : (hI hc (Z 3) 2).toNatClampNeg = (hI hc (Z 3) 2).toInt.toNat := by omega
  have bm : (-1 : Int32).toInt = -1 := rfl
  have rg : Rg 97 122 o4.1 := by rw [Rg, v4]; exact lws
  rw [← Option.some.inj e]
  refine ⟨rfl, Or.inr ⟨fun z => ?_, ⟨kk.mp k, ll.mp l⟩, ?_, rg⟩⟩
  · have : o4.1.toInt = -1 := by rw [z]; rfl
    omega
  · show o4.1 = _
    apply Int32.toInt_inj.mp
    rw [← f0.1, p4 _ (by omega), w, v4]
    unfold sg
    rw [if_pos (by omega)]
/-- the man that the token tells -/
theorem tm_r (n12 : N ≤ 1200) (P : PMn T N Z hc hr) {o o' : Int32 × Hp} (e : sX2_toldMan F hc (Z 3) = some o) (e' : sX15_manAt F hr (Z 16) (Z 82) = some o') : o.2 = hc ∧ o'.2 = hr ∧ o.1 = o'.1 ∧ (o.1 = (-1 : Int32) ∨ (0 ≤ o.1.toInt ∧ o.1.toInt < (hI hc (Z 2) 3).toInt)) := by
  unfold sX2_toldMan sX2_toldMan_22 at e
  replace e := cl_s e
  obtain ⟨o1, e1, e⟩ := e
  obtain ⟨q1, v1⟩ := one_r n12 P e1
  rw [q1] at e
  unfold sX15_manAt sX15_manAt_37 sX15_manAt_38 at e'
  obtain ⟨p1, p2, p3, p4, p5, p6⟩ := P
  rcases v1 with ⟨v1, n1⟩ | ⟨v1, ⟨k1, l1⟩, y1, _⟩
  · replace e := br_s e
    rcases e with ⟨_, e⟩ | ⟨nb, _⟩
    rotate_left
    · exact absurd v1 nb
    replace e' := br_s e'
    rcases e' with ⟨k, e'⟩ | ⟨k, e'⟩
    · replace e' := br_s e'
      rcases e' with ⟨l, e'⟩ | ⟨l, e'⟩
      · exact absurd ⟨k, l⟩ n1
      · rw [← Option.some.inj e, ← Option.some.inj e']; exact ⟨rfl, rfl, rfl, Or.inl rfl⟩
    · rw [← Option.some.inj e, ← Option.some.inj e']; exact ⟨rfl, rfl, rfl, Or.inl rfl⟩
  · replace e := br_s e
    rcases e with ⟨nb, _⟩ | ⟨_, e⟩
    · exact absurd nb v1
    replace e' := br_s e'
    rcases e' with ⟨_, e'⟩ | ⟨k, _⟩
    rotate_left
    · exact absurd k1 k
    replace e' := br_s e'
    rcases e' with ⟨_, e'⟩ | ⟨l, _⟩
    rotate_left
    · exact absurd l1 l
    replace e := cl_s e
    obtain ⟨r3, e3, e⟩ := e
    have y3 : r3 = Z 2 := r_eq p1.2.1 e3
    rw [y3] at e
    replace e := cl_s e
    obtain ⟨o4, e4, e⟩ := e
    replace e' := cl_s e'
    obtain ⟨r5, e5, e'⟩ := e'
    have y5 : r5 = Z 15 := r_eq p2.1 e5
    rw [y5] at e'
    replace e' := (gd_s e').2
    rw [← y1] at e'
    replace e' := cl_s e'
    obtain ⟨o6, e6, e'⟩ := e'
    unfold sX1_manOf at e4
    unfold sX14_find at e6
    obtain ⟨a1, a2, a3, a4⟩ := manf_r p6 p1 p2 F F (show (0 : Int) ≤ (0 : Int32).toInt by decide) (by decide) e4 e6
    rw [← Option.some.inj e, ← Option.some.inj e']
    exact ⟨a1, a2, a3, a4⟩
/-- what the reference finds is a man, or none -/
theorem mn_2 : ∀ (g : Nat) {j : Int32} {o' : Int32 × Hp}, 0 ≤ j.toInt → j.toInt ≤ 12 → (hI hr (Z 15) 2).toInt ≤ 12 → sX14_find_2 F g hr (Z 15) x j = some o' → o'.2 = hr ∧ (o'.1 = (-1 : Int32) ∨ (0 ≤ o'.1.toInt ∧ o'.1.toInt < (hI hr (Z 15) 2).toInt)) := by
  have z1 : (1 : Int32).toInt = 1 := rfl
  intro g
  induction g with
  | zero => intro j o' _ _ _ e'; exact absurd e' (by rw [sX14_find_2]; exact fun z => nomatch z)
  | succ g ih =>
    intro j o' j0 j12 m12 e'
    rw [sX14_find_2] at e'
    replace e' := br_s e'
    rcases e' with ⟨_, e'⟩ | ⟨l, e'⟩
    · rw [← Option.some.inj e']; exact ⟨rfl, Or.inl rfl⟩
    have l := nle_i l
    replace e' := cl_s e'
    obtain ⟨r3, _, e'⟩ := e'
    replace e' := (gd_s e').2
    replace e' := br_s e'
    rcases e' with ⟨_, e'⟩ | ⟨_, e'⟩
    · rw [← Option.some.inj e']; exact ⟨rfl, Or.inr ⟨j0, l⟩⟩
    replace e' := nm_s e'
    obtain ⟨v7, w7, e'⟩ := e'
    have t7 : v7.toInt = j.toInt + 1 := by rw [w7, ta (by rw [z1]; omega), z1]
    exact ih (by omega) (by omega) m12 e'
theorem mn_b (n12 : N ≤ 1200) (P : PMn T N Z hc hr) {o' : Int32 × Hp} (e' : sX15_manAt F hr (Z 16) (Z 82) = some o') : o'.2 = hr ∧ (o'.1 = (-1 : Int32) ∨ (0 ≤ o'.1.toInt ∧ o'.1.toInt < (hI hc (Z 2) 3).toInt)) := by
  obtain ⟨p1, p2, p3, p4, p5, mm, s4, s5⟩ := P
  unfold sX15_manAt sX15_manAt_37 sX15_manAt_38 at e'
  replace e' := br_s e'
  rcases e' with ⟨_, e'⟩ | ⟨_, e'⟩
  rotate_left
  · rw [← Option.some.inj e']; exact ⟨rfl, Or.inl rfl⟩
  replace e' := br_s e'
  rcases e' with ⟨_, e'⟩ | ⟨_, e'⟩
  rotate_left
  · rw [← Option.some.inj e']; exact ⟨rfl, Or.inl rfl⟩
  replace e' := cl_s e'
  obtain ⟨r5, e5, e'⟩ := e'
  have y5 : r5 = Z 15 := r_eq p2.1 e5
  rw [y5] at e'
  replace e' := (gd_s e').2
  replace e' := cl_s e'
  obtain ⟨o6, e6, e'⟩ := e'
  unfold sX14_find at e6
  obtain ⟨a1, a2⟩ := mn_2 F (show (0 : Int) ≤ (0 : Int32).toInt by decide) (by decide) (by rw [← mm]; exact s4.2) e6
  rw [← Option.some.inj e', mm]
  exact ⟨a1, a2⟩
/-- a sentence of a kind that is told once at most -/
theorem onc_r {q : Nat} {w : Int32} (hq : ∀ y : Fin 1024, (((nI y.val) &&& w = 0) ↔ (((nI y.val) >>> ((nI q) &&& 31)) &&& (1 : Int32)) = 0) ∧ ((nI y.val) ||| w) = ((nI y.val) ||| ((1 : Int32) <<< ((nI q) &&& 31))) ∧ Rg 0 1023 ((nI y.val) ||| w) ∧ (((nI y.val) ||| w) &&& (32 : Int32) = 0 → (nI y.val) &&& (32 : Int32) = 0) ∧ (((nI y.val) ||| w) &&& (128 : Int32) = 0 → (nI y.val) &&& (128 : Int32) = 0)) (S : LwS Z hc hr) {o' : Int32 × Hp} (e' : sX15_isOnce hr (Z 16) (nI q) = some o') : o'.2 = wI hr (Z 16) 10 ((hI hc (Z 3) 6) ||| w) ∧ (o'.1 = 0 ↔ ¬ (hI hc (Z 3) 6) &&& w = 0) ∧ Rg 0 1023 ((hI hc (Z 3) 6) ||| w) ∧ (((hI hc (Z 3) 6) ||| w) &&& (32 : Int32) = 0 → (hI hc (Z 3) 6) &&& (32 : Int32) = 0) ∧ (((hI hc (Z 3) 6) ||| w) &&& (128 : Int32) = 0 → (hI hc (Z 3) 6) &&& (128 : Int32) = 0) := by
  have t := S.1
  have hh := small (P := fun y => (((y &&& w = 0) ↔ ((y >>> ((nI q) &&& 31)) &&& (1 : Int32)) = 0) ∧ (y ||| w) = (y ||| ((1 : Int32) <<< ((nI q) &&& 31))) ∧ Rg 0 1023 (y ||| w) ∧ ((y ||| w) &&& (32 : Int32) = 0 → y &&& (32 : Int32) = 0) ∧ ((y ||| w) &&& (128 : Int32) = 0 → y &&& (128 : Int32) = 0))) (n := 1023) t.2 (by decide) hq
  unfold sX15_isOnce sX15_isOnce_16 at e'
  rw [← t.1] at e'
  replace e' := br_s e'
  rcases e' with ⟨b, e'⟩ | ⟨b, e'⟩
  · replace e' := nm_s e'
    obtain ⟨h1, w1, e'⟩ := e'
    rw [← Option.some.inj (gd_s e').2]
    refine ⟨by rw [w1, hh.2.1], ⟨fun z => absurd z i1n0, fun z => absurd (hh.1.mpr b) z⟩, hh.2.2⟩
  · replace e' := nm_s e'
    obtain ⟨h1, w1, e'⟩ := e'
    rw [← Option.some.inj (gd_s e').2]
    refine ⟨by rw [w1, hh.2.1], ⟨fun _ z => b (hh.1.mp z), fun _ => rfl⟩, hh.2.2⟩
end
end
section
/-! sentences that are told once at most -/
def PB (T : Nat → Int) (N : Int) (Z : Nat → Nat) (hc hr : Hp) : Prop := (ZC Z hc ∧ ZR Z hr ∧ CT T N (Z 10) (Z 3) hc ∧ RT T N (Z 82) hr ∧ LwS Z hc hr) ∧ (hI hc (Z 3) 3 = hI hr (Z 16) 8 ∧ 0 ≤ (hI hc (Z 3) 3).toInt ∧ (hI hc (Z 3) 3).toInt ≤ N)
def Out (T : Nat → Int) (N : Int) (Z : Nat → Nat) (o o' : Int32 × Hp) : Prop := (o.1 = 0 ∧ o'.1 = 0 ∧ Fl2 Z o.2 o'.2) ∨ (¬ o.1 = 0 ∧ ¬ o'.1 = 0 ∧ PS T N Z o.2 o'.2)
section
variable {T : Nat → Int} {N : Int} {F : Nat} {Z : Nat → Nat} {x2 : Int32} {hc hr oc or hc1 : Hp} {x : Int32} {o o' : Int32 × Hp}
theorem ps_b (P : PS T N Z hc hr) : PB T N Z hc hr := ⟨⟨P.1, P.2.1, P.2.2.1, P.2.2.2.1, P.2.2.2.2.2⟩, ts_n P.2.2.2.2.1⟩
theorem ps_fl (P : PS T N Z hc hr) : Fl2 Z hc hr := (ts_f P.2.2.2.2.1).1
theorem out_0 (P : PS T N Z hc hr) : Out T N Z ((0 : Int32), hc) ((0 : Int32), hr) := Or.inl ⟨rfl, rfl, ps_fl P⟩
theorem ct_w {a i : Nat} {v : Int32} (n1 : ¬ Z 10 = a) (n2 : ¬ Z 49 = a) (C : ZC Z hc) (P : CT T N (Z 10) (Z 3) hc) : CT T N (Z 10) (Z 3) (wI hc a i v) := by
  obtain ⟨p1, p2, p3, b, p4, p5, p6⟩ := P
  have y : b = Z 49 := r_eq C.2.2.1 p4
  rw [y] at p4 p5 p6
  exact ⟨p1, p2, by rw [rI_a n1]; exact p3, Z 49, p4, p5, fun i hi => by rw [rI_a n2]; exact p6 i hi⟩
theorem rt_w {a i : Nat} {v : Int32} (n1 : ¬ Z 82 = a) (P : RT T N (Z 82) hr) : RT T N (Z 82) (wI hr a i v) := fun i hi => by rw [rI_a n1]; exact P i hi
/-- both write a field of the law -/
theorem ls_p (D : ZD Z) {p : Nat × Nat} {v : Int32} (hp : p ∈ prs) (n3 : ¬ p.1 = 3) (g : (¬ p.1 = 0 ∨ Rg 3 8 v) ∧ (¬ p.1 = 1 ∨ Rg 3 8 v) ∧ (¬ p.1 = 4 ∨ Rg (-1) 11 v) ∧ (¬ p.1 = 11 ∨ (Rg 0 4095 v ∧ ¬ (hI hc (Z 3) 6) &&& (32 : Int32) = 0))) (g7 : ¬ p.1 = 4 ∨ ∀ q : Nat, q < 12 → v.toInt = (q : Int) → hI hc (Z 31) q = 0) (S : LwS Z hc hr) : LwS Z (wI hc (Z 2) p.1 v) (wI hr (Z 15) p.2 v) := by
  obtain ⟨s1, s2, s3, s4, s5, s6, s7, s8, s9⟩ := S
  obtain ⟨m12, m2, m10⟩ := prs_2 p hp
  have n2' : ¬ p.2 = 2 := fun z => n3 (by rw [prs_1 p hp (3, 2) (by decide) (Or.inr z)])
  have k3 : hI (wI hc (Z 2) p.1 v) (Z 2) 3 = hI hc (Z 2) 3 := rI_o (fun z => n3 z.symm)
  have k12 : hI (wI hc (Z 2) p.1 v) (Z 2) 12 = hI hc (Z 2) 12 := rI_o (fun z => m12 z.symm)
  have r2 : hI (wI hr (Z 15) p.2 v) (Z 15) 2 = hI hr (Z 15) 2 := rI_o (fun z => n2' z.symm)
  have fld : ∀ {i : Nat} {lo hi : Int}, Rg lo hi (hI hc (Z 2) i) → (¬ p.1 = i ∨ Rg lo hi v) → Rg lo hi (hI (wI hc (Z 2) p.1 v) (Z 2) i) := fun {i lo hi} a b => by
    by_cases z : p.1 = i
    · rw [← z, rI_s]; exact b.resolve_left (fun n => n z)
    · rw [rI_o (fun y => z y.symm)]; exact a
  refine ⟨by rw [rI_a (zne D), rI_a (zne D)]; exact s1, fun q hq => ?_, s3, by rw [k3]; exact s4, fun i hi => ?_, fun i hi => ?_, ⟨by rw [k12]; exact s7.1, fun q hq => ?_⟩, ⟨fld s8.1 g.1, fld s8.2.1 g.2.1, fld s8.2.2.1 g.2.2.1, fld s8.2.2.2 (g.2.2.2.imp id (fun z => z.1))⟩, ?_, by rw [rI_a (zne D)]; exact s9.2.1, fun q h1 h2 => by rw [r2] at h1; rw [rI_a (zne D), rI_a (zne D)]; exact s9.2.2.1 q h1 h2, by rw [rI_a (zne D)]; exact s9.2.2.2.1, lt5_k s9.2.2.2.2.1 (rI_o (fun z => m10 z.symm)) (fun k h1 h2 => rI_o (fun z => prs_3 p hp (by rw [← z]; exact ⟨h1, h2⟩))), lt6_k s9.2.2.2.2.2.1 r2 (fun k hk i => rI_a (zne D (lc_z k hk).2.1 (lc_z k hk).1)) (fun k hk i => rI_a (zne D (lr_z k hk).2.2.2.1 (lr_z k hk).1)), fun q hq z => by
    rw [rI_a (zne D)]
    by_cases y : p.1 = 4
    · rw [← y, rI_s] at z
      exact (g7.resolve_left (fun n => n y)) q hq z
    · rw [rI_o (fun w => y w.symm)] at z
      exact s9.2.2.2.2.2.2 q hq z⟩
  · by_cases z : q = p
    · rw [z, rI_s, rI_s]
    · rw [rI_o (fun y => z (prs_1 q hq p hp (Or.inl y))), rI_o (fun y => z (prs_1 q hq p hp (Or.inr y)))]
      exact s2 q hq
  · rw [k3] at hi
    rw [rI_a (zne D), rI_a (zne D)]; exact s5 i hi
  · rw [rI_a (zne D), rI_a (zne D)]
    refine ⟨(s6 i hi).1, (s6 i hi).2.1, fun j hj => ?_⟩
    rw [rI_a (zne D), rI_a (zne D)]
    exact (s6 i hi).2.2 j hj
  · rw [k12, s7.2 q hq]
    constructor
    · rintro ⟨i, j, a, b, c⟩
      exact ⟨i, j, by rw [r2]; exact a, by rw [rI_a (zne D)]; exact b, by rw [rI_a (zne D)]; exact c⟩
    · rintro ⟨i, j, a, b, c⟩
      rw [r2] at a
      rw [rI_a (zne D)] at b c
      exact ⟨i, j, a, b, c⟩
  · rw [rI_a (zne D)]
    intro z
    by_cases y : p.1 = 11
    · exact absurd z (g.2.2.2.resolve_left (fun n => n y)).2
    · rw [rI_o (fun w => y w.symm)]; exact s9.1 z
theorem pb_p (D : ZD Z) {p : Nat × Nat} {v : Int32} (hp : p ∈ prs) (n3 : ¬ p.1 = 3) (g : (¬ p.1 = 0 ∨ Rg 3 8 v) ∧ (¬ p.1 = 1 ∨ Rg 3 8 v) ∧ (¬ p.1 = 4 ∨ Rg (-1) 11 v) ∧ (¬ p.1 = 11 ∨ (Rg 0 4095 v ∧ ¬ (hI hc (Z 3) 6) &&& (32 : Int32) = 0))) (g7 : ¬ p.1 = 4 ∨ ∀ q : Nat, q < 12 → v.toInt = (q : Int) → hI hc (Z 31) q = 0) (P : PB T N Z hc hr) : PB T N Z (wI hc (Z 2) p.1 v) (wI hr (Z 15) p.2 v) := by
  obtain ⟨⟨p1, p2, p3, p4, p5⟩, q1, q2, q3⟩ := P
  refine ⟨⟨p1, p2, ct_w (zne D) (zne D) p1 p3, rt_w (zne D) p4, ls_p D hp n3 g g7 p5⟩, ?_⟩
  rw [rI_a (zne D), rI_a (zne D)]
  exact ⟨q1, q2, q3⟩
/-- both note that a sentence was told -/
theorem pb_t (D : ZD Z) {v : Int32} (g : Rg 0 1023 v ∧ (v &&& (32 : Int32) = 0 → (hI hc (Z 3) 6) &&& (32 : Int32) = 0) ∧ (v &&& (128 : Int32) = 0 → (hI hc (Z 3) 6) &&& (128 : Int32) = 0)) (P : PB T N Z hc hr) : PB T N Z (wI hc (Z 3) 6 v) (wI hr (Z 16) 10 v) := by
  obtain ⟨⟨p1, p2, p3, p4, p5⟩, q1, q2, q3⟩ := P
  have n3 : ∀ {k : Nat}, k ∈ zl → ¬ k = 3 → ∀ i, hI (wI hc (Z 3) 6 v) (Z k) i = hI hc (Z k) i := fun hk n i => rI_a (zne D n hk)
  have n16 : ∀ {k : Nat}, k ∈ zl → ¬ k = 16 → ∀ i, hI (wI hr (Z 16) 10 v) (Z k) i = hI hr (Z k) i := fun hk n i => rI_a (zne D n hk)
  refine ⟨⟨p1, p2, ct_w (zne D) (zne D) p1 p3, rt_w (zne D) p4, ?_⟩, ?_⟩
  · obtain ⟨s1, s2, s3, s4, s5, s6, s7, s8, s9⟩ := p5
    refine ⟨by rw [rI_s, rI_s]; exact ⟨rfl, g.1⟩, fun q hq => by rw [n3 (by decide) (by decide), n16 (by decide) (by decide)]; exact s2 q hq, s3, by rw [n3 (by decide) (by decide)]; exact s4, fun i hi => ?_, fun i hi => ?_, ⟨by rw [n3 (by decide) (by decide)]; exact s7.1, fun q hq => ?_⟩, by rw [n3 (by decide) (by decide), n3 (by decide) (by decide), n3 (by decide) (by decide), n3 (by decide) (by decide)]; exact s8, fun z => by rw [rI_s] at z; rw [n3 (by decide) (by decide)]; exact s9.1 (g.2.1 z), fun z => by rw [rI_s] at z; exact s9.2.1 (g.2.2 z), fun q h1 h2 => by rw [n16 (by decide) (by decide)] at h1; rw [n16 (by decide) (by decide), n16 (by decide) (by decide)]; exact s9.2.2.1 q h1 h2, by rw [rI_o (by decide)]; exact s9.2.2.2.1, lt5_k s9.2.2.2.2.1 (n3 (by decide) (by decide) _) (fun k _ _ => n16 (by decide) (by decide) _), lt6_k s9.2.2.2.2.2.1 (n16 (by decide) (by decide) _) (fun k hk i => n3 (lc_z k hk).1 (lc_z k hk).2.2.1 i) (fun k hk i => n16 (lr_z k hk).1 (lr_z k hk).2.2.2.2.1 i), lt7_k s9.2.2.2.2.2.2 (n3 (by decide) (by decide) _) (fun i => n3 (by decide) (by decide) i)⟩
    · rw [n3 (by decide) (by decide)] at hi
      rw [n3 (by decide) (by decide), n16 (by decide) (by decide)]; exact s5 i hi
    · rw [n3 (by decide) (by decide), n16 (by decide) (by decide)]
      refine ⟨(s6 i hi).1, (s6 i hi).2.1, fun j hj => ?_⟩
      rw [n3 (by decide) (by decide), n16 (by decide) (by decide)]
      exact (s6 i hi).2.2 j hj
    · rw [n3 (by decide) (by decide), s7.2 q hq]
      constructor
      · rintro ⟨i, j, a, b, c⟩
        exact ⟨i, j, by rw [n16 (by decide) (by decide)]; exact a, by rw [n16 (by decide) (by decide)]; exact b, by rw [n16 (by decide) (by decide)]; exact c⟩
      · rintro ⟨i, j, a, b, c⟩
        rw [n16 (by decide) (by decide)] at a b c
        exact ⟨i, j, a, b, c⟩
  · rw [rI_o (by decide), rI_o (by decide)]
    exact ⟨q1, q2, q3⟩
/-- both go on, some writes of the class aside -/
theorem ps_aW (n12 : N ≤ 1200) (dg : ∀ j : Nat, (j : Int) < N → 0 ≤ T j ∧ T j ≤ 255) (D : ZD Z) (n2 : x2.toInt = N) {W : Hp → Hp} (W1 : ∀ g a j, hR (W g) a j = hR g a j) (W2 : ∀ g a j, hJ (W g) a j = hJ g a j) (W3 : ∀ g g' a j, hI g a j = hI g' a j → hI (W g) a j = hI (W g') a j) (W4 : ∀ g k j, k = 3 ∨ k = 10 ∨ k = 49 → hI (W g) (Z k) j = hI g (Z k) j) (P : PB T N Z (W hc) hr) (ec : sX2_advance F hc (Z 3) = some oc) (er : sX15_nextToken F hr (Z 16) (Z 82) x2 = some or) : PS T N Z (W oc) or ∧ Kx (Z 3) hc oc ∧ Kr (Z 16) hr or := by
  obtain ⟨⟨p1, p2, p3, p4, p5⟩, q1, q2, q3⟩ := P
  have c1 : ZC Z hc := zc_k p1 (fun a j => (W1 hc a j).symm)
  have C : CT T N (Z 10) (Z 3) hc := by
    obtain ⟨a1, a2, a3, b, a4, a5, a6⟩ := p3
    rw [W1] at a1 a4
    have y : b = Z 49 := r_eq c1.2.2.1 a4
    rw [y] at a4 a5 a6
    refine ⟨a1, a2, ?_, Z 49, a4, a5, fun j hj => ?_⟩
    · rw [W4 _ 10 _ (by decide)] at a3; exact a3
    · have := a6 j hj
      rw [W4 _ 49 _ (by decide)] at this; exact this
  have w3 : ∀ (g : Hp) (j : Nat), hI (W g) (Z 3) j = hI g (Z 3) j := fun g j => W4 g 3 j (by decide)
  rw [w3] at q1 q2 q3
  obtain ⟨S2, Kc, Kr'⟩ := ts_a n12 dg C p4 (zne D) n2 ⟨q1, q2, q3⟩ ec er
  refine ⟨?_, Kc, Kr'⟩
  have K9 : ∀ a j, ¬ (a = Z 3 ∧ 2 ≤ j ∧ j ≤ 5) → hI (W oc) a j = hI (W hc) a j := fun a j n => W3 _ _ a j (Kc.2 a j n)
  have Co := ct_k C Kc
  refine ⟨zc_k c1 (fun a j => (W1 oc a j).trans (Kc.1.1 a j)), zr_k p2 Kr'.1.1, ?_, rt_k (zne D) p4 Kr', ?_, ?_⟩
  · obtain ⟨a1, a2, a3, b, a4, a5, a6⟩ := Co
    have y : b = Z 49 := r_eq c1.2.2.1 (by rw [← Kc.1.1]; exact a4)
    rw [y] at a4 a5 a6
    exact ⟨by rw [W1]; exact a1, a2, by rw [W4 _ 10 _ (by decide)]; exact a3, Z 49, by rw [W1]; exact a4, a5, fun j hj => by rw [W4 _ 49 _ (by decide)]; exact a6 j hj⟩
  · obtain ⟨p', k', A, B', ek⟩ := S2
    exact ⟨p', k', by rw [w3, w3, w3, w3]; exact A, B', ek⟩
  · refine ls_kk p5 (K9 _ _ (fun z => by have := z.2.2; omega)) (fun j => K9 _ _ (fun z => zn D z.1)) (by rw [W2, W2]; exact Kc.1.2 _ _) (fun a j ha => K9 _ _ (fun z => ?_)) (Kr'.2 _ _ (fun z => by have := z.2.2; omega)) (fun j => Kr'.2 _ _ (fun z => zn D z.1)) (Kr'.1.2 _ _) (fun a j ha => Kr'.2 _ _ (fun z => ?_)) (by
      rw [w3]
      have A := (adv_k n12 dg C q2 q3 ec).2
      have a1 := A.1.2.1
      have a2 := (tk_b A).2.1
      have a3 := p5.2.2.2.2.2.2.2.2.2.2.2.1
      rw [w3] at a3
      omega) (lt6_k (ls_6 p5) (Kr'.2 _ _ (fun z => zn D z.1)) (fun k hk i => K9 _ _ (fun z => (lc_z k hk).2.2.1 (D k (lc_z k hk).1 3 (by decide) z.1))) (fun k hk i => Kr'.2 _ _ (fun z => (lr_z k hk).2.2.2.2.1 (D k (lr_z k hk).1 16 (by decide) z.1))))
    · rcases ha with rfl | rfl | rfl <;> exact zn D z.1
    · rcases ha with rfl | rfl | rfl | rfl <;> exact zn D z.1
theorem w_3 {a0 i0 : Nat} {v : Int32} (g g' : Hp) (a j : Nat) (e : hI g a j = hI g' a j) : hI (wI g a0 i0 v) a j = hI (wI g' a0 i0 v) a j := by
  rw [r_I, r_I]
  by_cases z : a = a0 ∧ j = i0
  · rw [if_pos z, if_pos z]
  · rw [if_neg z, if_neg z]; exact e
theorem ps_aw (n12 : N ≤ 1200) (dg : ∀ j : Nat, (j : Int) < N → 0 ≤ T j ∧ T j ≤ 255) (D : ZD Z) (n2 : x2.toInt = N) {k i : Nat} {v : Int32} (hk : k ∈ zl) (n3 : ¬ k = 3) (n10 : ¬ k = 10) (n49 : ¬ k = 49) (P : PB T N Z (wI hc (Z k) i v) hr) (ec : sX2_advance F hc (Z 3) = some oc) (er : sX15_nextToken F hr (Z 16) (Z 82) x2 = some or) : PS T N Z (wI oc (Z k) i v) or ∧ Kx (Z 3) hc oc ∧ Kr (Z 16) hr or :=
  ps_aW (W := fun g => wI g (Z k) i v) n12 dg D n2 (fun _ _ _ => rfl) (fun _ _ _ => rfl) w_3 (fun g a j ha => by
    rcases ha with rfl | rfl | rfl
    · exact rI_a (zne D (fun z => n3 z.symm) (by decide) hk)
    · exact rI_a (zne D (fun z => n10 z.symm) (by decide) hk)
    · exact rI_a (zne D (fun z => n49 z.symm) (by decide) hk)) P ec er
theorem bo_q (C : ZC Z hc) (x0 : 0 ≤ x.toInt) (x12 : x.toInt < 12) (e : sX1_becomesOthers hc (Z 2) x = some o) : o.2 = hc ∧ (o.1 = 0 ↔ (hI hc (Z 31) x.toNatClampNeg).toInt ≤ 0) := by
  have z0 : (0 : Int32).toInt = 0 := rfl
  have z12 : (12 : Int32).toInt = 12 := rfl
  unfold sX1_becomesOthers sX1_becomesOthers_23 sX1_becomesOthers_24 at e
  replace e := br_s e
  rcases e with ⟨l, _⟩ | ⟨_, e⟩
  · have l := lt_i l; omega
  replace e := br_s e
  rcases e with ⟨l, _⟩ | ⟨_, e⟩
  · have l := le_i l; omega
  replace e := cl_s e
  obtain ⟨r3, e3, e⟩ := e
  have y3 : r3 = Z 31 := r_eq C.2.2.2.2.2.2.2 e3
  rw [y3] at e
  replace e := (gd_s e).2
  replace e := br_s e
  rcases e with ⟨l, e⟩ | ⟨l, e⟩
  · have l := le_i l
    rw [← Option.some.inj (gd_s e).2]
    exact ⟨rfl, ⟨fun _ => by omega, fun _ => rfl⟩⟩
  · have l := nle_i l
    rw [← Option.some.inj (gd_s e).2]
    exact ⟨rfl, ⟨fun z => absurd z i1n0, fun z => by omega⟩⟩
/-- is he one that another becomes? -/
theorem ib_15 (R : ZR Z hr) (c6 : ∀ i : Nat, i < 12 → Rg 0 6 (hI hr (Z 81) i)) {k4 : Hp → Nat → Int32 → Int32 → Int32 → Option (Int32 × Hp)} {i : Int32} (i0 : 0 ≤ i.toInt) (i12 : i.toInt < 12) : ∀ (f : Nat) {y j : Int32}, 0 ≤ j.toInt → j.toInt ≤ 6 → (y = 0 ∨ y = 1) → sX14_isBecome_15 F k4 f hr (Z 15) x y i j = some o → ∃ y' v : Int32, (y' = 0 ∨ y' = 1) ∧ v.toInt = i.toInt + 1 ∧ (y' = 0 ↔ y = 0 ∧ ∀ q : Nat, j.toInt ≤ (q : Int) → (q : Int) < (hI hr (Z 81) i.toNatClampNeg).toInt → ¬ hI hr (Z 80) (6 * i.toNatClampNeg + q) = x) ∧ k4 hr (Z 15) x y' v = some o := by
  have z1 : (1 : Int32).toInt = 1 := rfl
  have z6 : (6 : Int32).toInt = 6 := rfl
  have nx := nc_i i0
  have cc := c6 i.toNatClampNeg (by omega)
  intro f
  induction f with
  | zero => intro y j _ _ _ e; exact absurd e (by rw [sX14_isBecome_15]; exact fun z => nomatch z)
  | succ f ih =>
    intro y j j0 j6 hy e
    rw [sX14_isBecome_15] at e
    replace e := cl_s e
    obtain ⟨r1, e1, e⟩ := e
    have y1 : r1 = Z 81 := r_eq R.2.2.2.2.2.2.2.2.2 e1
    rw [y1] at e
    replace e := (gd_s e).2
    replace e := br_s e
    rcases e with ⟨l, e⟩ | ⟨l, e⟩
    · have l := le_i l
      replace e := nm_s e
      obtain ⟨v4, w4, e⟩ := e
      exact ⟨y, v4, hy, by rw [w4, ta (by rw [z1]; omega), z1], ⟨fun z => ⟨z, fun q q1 q2 => by omega⟩, fun z => z.1⟩, e⟩
    have l := nle_i l
    have c2 := cc.2
    replace e := cl_s e
    obtain ⟨r5, e5, e⟩ := e
    have y5 : r5 = Z 80 := r_eq R.2.2.2.2.2.2.2.2.1 e5
    rw [y5] at e
    replace e := (gd_s e).2
    have m6 : ((6 : Int32) * i).toInt = 6 * i.toInt := by rw [tm (by rw [z6]; omega), z6]
    have ad : (((6 : Int32) * i) + j).toInt = 6 * i.toInt + j.toInt := by rw [ta (by rw [m6]; omega), m6]
    have nj := nc_i j0
    have na := nc_i (x := ((6 : Int32) * i) + j) (by omega)
    have w : (((6 : Int32) * i) + j).toNatClampNeg = 6 * i.toNatClampNeg + j.toNatClampNeg := by omega
    rw [w] at e
    have go : ∀ {t0 : Int32}, (t0 = 0 ∨ t0 = 1) → (t0 = 0 ↔ ¬ hI hr (Z 80) (6 * i.toNatClampNeg + j.toNatClampNeg) = x) → sX14_isBecome_48 F k4 (sX14_isBecome_15 F k4 f) hr (Z 15) x i j t0 y = some o → ∃ y' v : Int32, (y' = 0 ∨ y' = 1) ∧ v.toInt = i.toInt + 1 ∧ (y' = 0 ↔ y = 0 ∧ ∀ q : Nat, j.toInt ≤ (q : Int) → (q : Int) < (hI hr (Z 81) i.toNatClampNeg).toInt → ¬ hI hr (Z 80) (6 * i.toNatClampNeg + q) = x) ∧ k4 hr (Z 15) x y' v = some o := fun {t0} h01 ht e => by
      unfold sX14_isBecome_48 at e
      replace e := nm_s e
      obtain ⟨v1, w1, e⟩ := e
      replace e := nm_s e
      obtain ⟨v2, w2, e⟩ := e
      have t2 : v2.toInt = j.toInt + 1 := by rw [w2, ta (by rw [z1]; omega), z1]
      have hv : (v1 = 0 ∨ v1 = 1) ∧ (v1 = 0 ↔ y = 0 ∧ t0 = 0) := by
        rw [w1]
        rcases hy with hy | hy <;> rcases h01 with h01 | h01 <;> (rw [hy, h01]; decide)
      obtain ⟨y', v, a1, a2, a3, a4⟩ := ih (by omega) (by omega) hv.1 e
      refine ⟨y', v, a1, a2, ?_, a4⟩
      rw [a3, hv.2, ht]
      constructor
      · rintro ⟨⟨b1, b2⟩, b3⟩
        refine ⟨b1, fun q q1 q2 => ?_⟩
        by_cases z : (q : Int) = j.toInt
        · have zz : q = j.toNatClampNeg := by omega
          rw [zz]; exact b2
        · exact b3 q (by omega) q2
      · rintro ⟨b1, b2⟩
        exact ⟨⟨b1, b2 j.toNatClampNeg (by omega) (by omega)⟩, fun q q1 q2 => b2 q (by omega) q2⟩
    replace e := br_s e
    rcases e with ⟨b, e⟩ | ⟨b, e⟩
    · exact go (Or.inr rfl) ⟨fun z => absurd z (by decide), fun z => absurd b z⟩ e
    · exact go (Or.inl rfl) ⟨fun _ => b, fun _ => rfl⟩ e
theorem ib_4 (R : ZR Z hr) (c6 : ∀ i : Nat, i < 12 → Rg 0 6 (hI hr (Z 81) i)) (m12 : (hI hr (Z 15) 2).toInt ≤ 12) : ∀ (f : Nat) {y i : Int32}, 0 ≤ i.toInt → i.toInt ≤ 12 → (y = 0 ∨ y = 1) → sX14_isBecome_4 F f hr (Z 15) x y i = some o → o.2 = hr ∧ (o.1 = 0 ↔ y = 0 ∧ ∀ p q : Nat, i.toInt ≤ (p : Int) → (p : Int) < (hI hr (Z 15) 2).toInt → (q : Int) < (hI hr (Z 81) p).toInt → ¬ hI hr (Z 80) (6 * p + q) = x) := by
  intro f
  induction f with
  | zero => intro y i _ _ _ e; exact absurd e (by rw [sX14_isBecome_4]; exact fun z => nomatch z)
  | succ f ih =>
    intro y i i0 i12 hy e
    rw [sX14_isBecome_4] at e
    replace e := br_s e
    rcases e with ⟨l, e⟩ | ⟨l, e⟩
    · have l := le_i l
      rw [← Option.some.inj (gd_s e).2]
      exact ⟨rfl, ⟨fun z => ⟨z, fun p q p1 p2 _ => by omega⟩, fun z => z.1⟩⟩
    have l := nle_i l
    obtain ⟨y', v, a1, a2, a3, a4⟩ := ib_15 R c6 i0 (by omega) F (show (0 : Int) ≤ (0 : Int32).toInt by decide) (by decide) hy e
    obtain ⟨b1, b2⟩ := ih (by omega) (by omega) a1 a4
    refine ⟨b1, ?_⟩
    have nx := nc_i i0
    have z0 : (0 : Int32).toInt = 0 := rfl
    rw [b2, a3]
    constructor
    · rintro ⟨⟨c1, c2⟩, c3⟩
      refine ⟨c1, fun p q p1 p2 p3 => ?_⟩
      by_cases z : (p : Int) = i.toInt
      · have zz : p = i.toNatClampNeg := by omega
        rw [zz] at p3 ⊢
        exact c2 q (by rw [z0]; omega) p3
      · exact c3 p q (by omega) p2 p3
    · rintro ⟨c1, c2⟩
      exact ⟨⟨c1, fun q _ q2 => c2 i.toNatClampNeg q (by omega) (by omega) q2⟩, fun p q p1 p2 p3 => c2 p q (by omega) p2 p3⟩
/-- risen as the class has it, is become as the reference finds it -/
theorem ib_r (P : PS T N Z hc hr) (x0 : 0 ≤ x.toInt) (x12 : x.toInt < 12) (e : sX14_isBecome F hr (Z 15) x = some o) : o.2 = hr ∧ (o.1 = 0 ↔ (((hI hc (Z 2) 12) >>> (x &&& 31)) &&& (1 : Int32)) = 0) := by
  obtain ⟨p1, p2, p3, p4, p5, s1, s2, s3, s4, s5, s6, s7, s8, s9⟩ := P
  have mm : hI hc (Z 2) 3 = hI hr (Z 15) 2 := s2 (3, 2) (by decide)
  have m12 : (hI hr (Z 15) 2).toInt ≤ 12 := by rw [← mm]; exact s4.2
  unfold sX14_isBecome at e
  obtain ⟨a1, a2⟩ := ib_4 p2 (fun i hi => by rw [← (s6 i hi).1]; exact (s6 i hi).2.1) m12 F (show (0 : Int) ≤ (0 : Int32).toInt by decide) (by decide) (Or.inl rfl) e
  refine ⟨a1, ?_⟩
  have nx := nc_i x0
  have xe : x = nI x.toNatClampNeg := Int32.toInt_inj.mp (by rw [z_toInt (by omega)]; omega)
  have bb := s7.2 x.toNatClampNeg (by omega)
  have z0 : (0 : Int32).toInt = 0 := rfl
  have b01 : ∀ y : Int32, y &&& (1 : Int32) = 0 ∨ y &&& (1 : Int32) = 1 := fun y => by
    have i := rg_and (c := 1) (d := 1) (x := y) (y := (1 : Int32)) (rg_b rfl) (by decide)
    have : (y &&& (1 : Int32)).toInt = 0 ∨ (y &&& (1 : Int32)).toInt = 1 := by have := i.1; have := i.2; omega
    exact this.imp (fun z => Int32.toInt_inj.mp z) (fun z => Int32.toInt_inj.mp z)
  rw [a2]
  unfold Bq at bb
  rw [← xe] at bb
  constructor
  · rintro ⟨_, c⟩
    rcases b01 ((hI hc (Z 2) 12) >>> (x &&& 31)) with z | z
    · exact z
    · obtain ⟨i, j, q1, q2, q3⟩ := bb.mp z
      refine absurd (Int32.toInt_inj.mp ?_) (c i j (by rw [z0]; omega) q1 q2)
      rw [q3]; omega
  · intro z
    refine ⟨rfl, fun p q _ p2 p3 y => ?_⟩
    have := bb.mpr ⟨p, q, p2, p3, by rw [y]; omega⟩
    rw [z] at this
    exact absurd this (by decide)
theorem ry_r (n12 : N ≤ 1200) (dg : ∀ j : Nat, (j : Int) < N → 0 ≤ T j ∧ T j ≤ 255) (D : ZD Z) (n2 : x2.toInt = N) (P : PB T N Z hc hr) (ea : sX2_advance F hc (Z 3) = some hc1) (e : sX2_takeRoyal F hc1 (Z 3) = some o) (e' : sX15_isRoyal F hr (Z 16) (Z 82) x2 = some o') : Out T N Z o o' := by
  unfold sX15_isRoyal sX15_isRoyal_40 at e'
  replace e' := cl_s e'
  obtain ⟨hr1, en, e'⟩ := e'
  have P1 := ps_a n12 dg D n2 P.1 P.2 ea en
  replace e' := cl_s e'
  obtain ⟨o2, e2, e'⟩ := e'
  unfold sX2_takeRoyal sX2_takeRoyal_35 at e
  replace e := cl_s e
  obtain ⟨o1, e1, e⟩ := e
  obtain ⟨q1, q2, q3, q4⟩ := tm_r n12 (ps_m P1) e1 e2
  rw [q1] at e
  rw [q2, ← q3] at e'
  replace e := br_s e
  replace e' := br_s e'
  rcases e with ⟨b, e⟩ | ⟨b, e⟩
  · rcases e' with ⟨_, e'⟩ | ⟨b', _⟩
    · rw [← Option.some.inj e, ← Option.some.inj e']; exact out_0 P1
    · exact absurd b b'
  rcases e' with ⟨b', _⟩ | ⟨_, e'⟩
  · exact absurd b' b
  have q4 := q4.resolve_left b
  have m12 := P1.2.2.2.2.2.2.2.2.1.2
  have nx := nc_i q4.1
  replace e := cl_s e
  obtain ⟨r3, e3, e⟩ := e
  have y3 : r3 = Z 2 := r_eq P1.1.2.1 e3
  rw [y3] at e
  replace e := cl_s e
  obtain ⟨o4, e4, e⟩ := e
  obtain ⟨u1, u2⟩ := bo_q P1.1 q4.1 (by omega) e4
  rw [u1] at e
  replace e' := cl_s e'
  obtain ⟨r4, e4', e'⟩ := e'
  have y4 : r4 = Z 15 := r_eq P1.2.1.1 e4'
  rw [y4] at e'
  replace e' := cl_s e'
  obtain ⟨r5, e5', e'⟩ := e'
  have y5 : r5 = Z 81 := r_eq P1.2.1.2.2.2.2.2.2.2.2.2 e5'
  rw [y5] at e'
  replace e' := (gd_s e').2
  have ce := (P1.2.2.2.2.2.2.2.2.2.2.1 o1.1.toNatClampNeg (by omega)).1
  rw [← ce] at e'
  have z0 : (0 : Int32).toInt = 0 := rfl
  replace e := br_s e
  replace e' := br_s e'
  rcases e with ⟨v, e⟩ | ⟨v, e⟩
  rotate_left
  · rcases e' with ⟨_, e'⟩ | ⟨l', _⟩
    · rw [← Option.some.inj e, ← Option.some.inj e']; exact out_0 P1
    · exact absurd (u2.mpr (nlt_i l')) v
  rcases e' with ⟨l', _⟩ | ⟨_, e'⟩
  · have l' := lt_i l'
    have := u2.mp v
    omega
  replace e := cl_s e
  obtain ⟨r6, e6, e⟩ := e
  have y6 : r6 = Z 2 := r_eq P1.1.2.1 e6
  rw [y6] at e
  replace e' := cl_s e'
  obtain ⟨r8, e8, e'⟩ := e'
  have y8 : r8 = Z 15 := r_eq P1.2.1.1 e8
  rw [y8] at e'
  replace e' := cl_s e'
  obtain ⟨o9, e9, e'⟩ := e'
  obtain ⟨t1, t2⟩ := ib_r P1 q4.1 (by omega) e9
  rw [t1] at e'
  replace e := br_s e
  replace e' := br_s e'
  rcases e with ⟨c1, e⟩ | ⟨c1, e⟩
  rotate_left
  · rcases e' with ⟨c', _⟩ | ⟨_, e'⟩
    · exact absurd (t2.mp c') c1
    · rw [← Option.some.inj e, ← Option.some.inj e']; exact out_0 P1
  rcases e' with ⟨_, e'⟩ | ⟨c', _⟩
  rotate_left
  · exact absurd (t2.mpr c1) c'
  replace e := cl_s e
  obtain ⟨r7, e7, e⟩ := e
  have y7 : r7 = Z 2 := r_eq P1.1.2.1 e7
  rw [y7] at e
  replace e := nm_s e
  obtain ⟨h9, w9, e⟩ := e
  replace e := cl_s e
  obtain ⟨o10, e10, e⟩ := e
  replace e' := cl_s e'
  obtain ⟨r11, e11, e'⟩ := e'
  have y11 : r11 = Z 15 := r_eq P1.2.1.1 e11
  rw [y11] at e'
  replace e' := nm_s e'
  obtain ⟨h12, w12, e'⟩ := e'
  replace e' := cl_s e'
  obtain ⟨o13, e13, e'⟩ := e'
  unfold sX15_goesOn at e13
  replace e13 := cl_s e13
  obtain ⟨o14, e14, e13⟩ := e13
  rw [← Option.some.inj e13] at e'
  have P9 : PB T N Z h9 h12 := by
    rw [w9, w12]
    exact pb_p (p := (4, 10)) D (by decide) (by decide) ⟨Or.inl (by decide), Or.inl (by decide), Or.inr ⟨by omega, by omega⟩, Or.inl (by decide)⟩ (Or.inr (fun q hq z => by
      have qe : q = o1.1.toNatClampNeg := by omega
      rw [qe]
      have cb := (P1.2.2.2.2.2.2.2.2.2.2.1 o1.1.toNatClampNeg (by omega)).2.1
      exact Int32.toInt_inj.mp (by rw [z0]; have := u2.mp v; have := cb.1; omega))) (ps_b P1)
  have P10 := ps_a n12 dg D n2 P9.1 P9.2 e10 e14
  rw [← Option.some.inj e, ← Option.some.inj (gd_s e').2]
  exact Or.inr ⟨i1n0, i1n0, P10⟩
end
end
section
/-! castle, checks, outcomes, blast -/
section
variable {T : Nat → Int} {N : Int} {F : Nat} {Z : Nat → Nat} {x2 : Int32} {hc hr oc or hc1 : Hp} {x : Int32} {o o' : Int32 × Hp}
theorem ca_r (n12 : N ≤ 1200) (dg : ∀ j : Nat, (j : Int) < N → 0 ≤ T j ∧ T j ≤ 255) (D : ZD Z) (n2 : x2.toInt = N) (P : PB T N Z hc hr) (ny : ¬ hI hc (Z 2) 4 = (-1 : Int32)) (ea : sX2_advance F hc (Z 3) = some hc1) (e : sX2_takeCastle F hc1 (Z 3) = some o) (e' : sX15_isCastle F hr (Z 16) (Z 82) x2 = some o') : Out T N Z o o' := by
  unfold sX15_isCastle sX15_isCastle_41 at e'
  replace e' := cl_s e'
  obtain ⟨r1, er1, e'⟩ := e'
  have y1 : r1 = Z 15 := r_eq P.1.2.1.1 er1
  rw [y1] at e'
  have ry : hI hc (Z 2) 4 = hI hr (Z 15) 10 := P.1.2.2.2.2.2.1 (4, 10) (by decide)
  rw [← ry] at e'
  replace e' := br_s e'
  rcases e' with ⟨b, _⟩ | ⟨_, e'⟩
  · exact absurd b ny
  replace e' := cl_s e'
  obtain ⟨hr1, en, e'⟩ := e'
  have P1 := ps_a n12 dg D n2 P.1 P.2 ea en
  replace e' := cl_s e'
  obtain ⟨o2, e2, e'⟩ := e'
  unfold sX2_takeCastle sX2_takeCastle_21 at e
  replace e := cl_s e
  obtain ⟨o1, e1, e⟩ := e
  obtain ⟨q1, q2, q3, q4⟩ := tm_r n12 (ps_m P1) e1 e2
  rw [q1] at e
  rw [q2, ← q3] at e'
  replace e := br_s e
  replace e' := br_s e'
  rcases e with ⟨b, e⟩ | ⟨b, e⟩
  · rcases e' with ⟨_, e'⟩ | ⟨b', _⟩
    · rw [← Option.some.inj e, ← Option.some.inj e']; exact out_0 P1
    · exact absurd b b'
  rcases e' with ⟨b', _⟩ | ⟨_, e'⟩
  · exact absurd b' b
  have q4 := q4.resolve_left b
  have m12 := P1.2.2.2.2.2.2.2.2.1.2
  replace e := cl_s e
  obtain ⟨r3, e3, e⟩ := e
  have y3 : r3 = Z 2 := r_eq P1.1.2.1 e3
  rw [y3] at e
  replace e' := cl_s e'
  obtain ⟨r6, e6', e'⟩ := e'
  have y6 : r6 = Z 15 := r_eq P1.2.1.1 e6'
  rw [y6] at e'
  have ry1 : hI hc1 (Z 2) 4 = hI hr1 (Z 15) 10 := P1.2.2.2.2.2.2.1 (4, 10) (by decide)
  rw [← ry1] at e'
  replace e := br_s e
  replace e' := br_s e'
  rcases e with ⟨v, e⟩ | ⟨v, e⟩
  · rcases e' with ⟨_, e'⟩ | ⟨v', _⟩
    · rw [← Option.some.inj e, ← Option.some.inj e']; exact out_0 P1
    · exact absurd v v'
  rcases e' with ⟨v', _⟩ | ⟨_, e'⟩
  · exact absurd v' v
  replace e := cl_s e
  obtain ⟨r7, e7, e⟩ := e
  have y7 : r7 = Z 2 := r_eq P1.1.2.1 e7
  rw [y7] at e
  replace e := nm_s e
  obtain ⟨h9, w9, e⟩ := e
  replace e := cl_s e
  obtain ⟨o10, e10, e⟩ := e
  replace e' := cl_s e'
  obtain ⟨r11, e11, e'⟩ := e'
  have y11 : r11 = Z 15 := r_eq P1.2.1.1 e11
  rw [y11] at e'
  replace e' := nm_s e'
  obtain ⟨h12, w12, e'⟩ := e'
  replace e' := cl_s e'
  obtain ⟨o13, e13, e'⟩ := e'
  unfold sX15_goesOn at e13
  replace e13 := cl_s e13
  obtain ⟨o14, e14, e13⟩ := e13
  rw [← Option.some.inj e13] at e'
  have P9 : PB T N Z h9 h12 := by
    rw [w9, w12]
    exact pb_p (p := (6, 12)) D (by decide) (by decide) ⟨Or.inl (by decide), Or.inl (by decide), Or.inl (by decide), Or.inl (by decide)⟩ (Or.inl (by decide)) (ps_b P1)
  have P10 := ps_a n12 dg D n2 P9.1 P9.2 e10 e14
  rw [← Option.some.inj e, ← Option.some.inj (gd_s e').2]
  exact Or.inr ⟨i1n0, i1n0, P10⟩
theorem ch_r (n12 : N ≤ 1200) (dg : ∀ j : Nat, (j : Int) < N → 0 ≤ T j ∧ T j ≤ 255) (D : ZD Z) (n2 : x2.toInt = N) (P : PB T N Z hc hr) (ea : sX2_advance F hc (Z 3) = some hc1) (e : sX2_takeChecks F hc1 (Z 3) = some o) (e' : sX15_isChecks F hr (Z 16) (Z 82) x2 = some o') : Out T N Z o o' := by
  unfold sX15_isChecks at e'
  replace e' := cl_s e'
  obtain ⟨hr1, en, e'⟩ := e'
  have P1 := ps_a n12 dg D n2 P.1 P.2 ea en
  replace e' := cl_s e'
  obtain ⟨o2, e2, e'⟩ := e'
  unfold sX2_takeChecks at e
  replace e := cl_s e
  obtain ⟨o1, e1, e⟩ := e
  obtain ⟨q1, q2, q3, q4⟩ := in_r P1.2.2.2.2.1 e1 e2
  rw [q1] at e
  rw [q2, ← q3] at e'
  replace e := br_s e
  replace e' := br_s e'
  rcases e with ⟨b, e⟩ | ⟨b, e⟩
  · rcases e' with ⟨_, e'⟩ | ⟨b', _⟩
    · rw [← Option.some.inj e, ← Option.some.inj e']; exact out_0 P1
    · exact absurd b b'
  rcases e' with ⟨b', _⟩ | ⟨_, e'⟩
  · exact absurd b' b
  have q4 := q4 b
  rw [← q4.1] at e'
  replace e := cl_s e
  obtain ⟨r7, e7, e⟩ := e
  have y7 : r7 = Z 2 := r_eq P1.1.2.1 e7
  rw [y7] at e
  replace e := nm_s e
  obtain ⟨h9, w9, e⟩ := e
  replace e := cl_s e
  obtain ⟨o10, e10, e⟩ := e
  replace e' := cl_s e'
  obtain ⟨r11, e11, e'⟩ := e'
  have y11 : r11 = Z 15 := r_eq P1.2.1.1 e11
  rw [y11] at e'
  replace e' := nm_s e'
  obtain ⟨h12, w12, e'⟩ := e'
  replace e' := cl_s e'
  obtain ⟨o13, e13, e'⟩ := e'
  unfold sX15_goesOn at e13
  replace e13 := cl_s e13
  obtain ⟨o14, e14, e13⟩ := e13
  rw [← Option.some.inj e13] at e'
  have P9 : PB T N Z h9 h12 := by
    rw [w9, w12]
    exact pb_p (p := (7, 20)) D (by decide) (by decide) ⟨Or.inl (by decide), Or.inl (by decide), Or.inl (by decide), Or.inl (by decide)⟩ (Or.inl (by decide)) (ps_b P1)
  have P10 := ps_a n12 dg D n2 P9.1 P9.2 e10 e14
  rw [← Option.some.inj e, ← Option.some.inj (gd_s e').2]
  exact Or.inr ⟨i1n0, i1n0, P10⟩
/-- won or lost -/
theorem wl_r (n12 : N ≤ 1200) (dg : ∀ j : Nat, (j : Int) < N → 0 ≤ T j ∧ T j ≤ 255) (D : ZD Z) (n2 : x2.toInt = N) {p : Nat × Nat} {y : Int32} (hp : p = (8, 22) ∨ p = (9, 23)) (hy : y = 0 ↔ p = (9, 23)) (P : PB T N Z hc hr) (ea : sX2_advance F hc (Z 3) = some hc1) (e : sX2_wonOrLost F hc1 (Z 3) = some o) (e' : sX15_isOutcome F hr (Z 16) (Z 82) x2 y = some o') : ((o.1 = 0 ∧ o'.1 = 0 ∧ Fl2 Z o.2 o'.2) ∨ (¬ o.1 = 0 ∧ ¬ o'.1 = 0 ∧ PS T N Z (wI o.2 (Z 2) p.1 o.1) o'.2)) ∧ ∀ a i, hR o.2 a i = hR hc1 a i := by
  unfold sX15_isOutcome at e'
  replace e' := cl_s e'
  obtain ⟨hr1, en, e'⟩ := e'
  have P1 := ps_a n12 dg D n2 P.1 P.2 ea en
  replace e' := cl_s e'
  obtain ⟨o2, e2, e'⟩ := e'
  unfold sX2_wonOrLost at e
  replace e := cl_s e
  obtain ⟨o1, e1, e⟩ := e
  obtain ⟨q1, q2, q3⟩ := iw_r n12 P1.2.2.1 P1.2.2.2.1 P1.2.2.2.2.1 (by rfl) (by decide) e1 e2
  rw [q1] at e
  rw [q2, ← q3] at e'
  -- with the word told
  have fin : ∀ {v : Int32}, ¬ v = 0 → sX2_wonOrLost_27 F hc1 (Z 3) v = some o → sX15_isOutcome_35 F hr1 (Z 16) (Z 82) x2 y v = some o' → ((o.1 = 0 ∧ o'.1 = 0 ∧ Fl2 Z o.2 o'.2) ∨ (¬ o.1 = 0 ∧ ¬ o'.1 = 0 ∧ PS T N Z (wI o.2 (Z 2) p.1 o.1) o'.2)) ∧ ∀ a i, hR o.2 a i = hR hc1 a i := fun {v} hv e e' => by
    unfold sX2_wonOrLost_27 sX2_wonOrLost_36 at e
    replace e := br_s e
    rcases e with ⟨b, _⟩ | ⟨_, e⟩
    · exact absurd b hv
    replace e := cl_s e
    obtain ⟨o3, e3, e⟩ := e
    have P3 : PB T N Z (wI hc1 (Z 2) p.1 v) (wI hr1 (Z 15) p.2 v) := by
      rcases hp with rfl | rfl
      · exact pb_p (p := (8, 22)) D (by decide) (by decide) ⟨Or.inl (by decide), Or.inl (by decide), Or.inl (by decide), Or.inl (by decide)⟩ (Or.inl (by decide)) (ps_b P1)
      · exact pb_p (p := (9, 23)) D (by decide) (by decide) ⟨Or.inl (by decide), Or.inl (by decide), Or.inl (by decide), Or.inl (by decide)⟩ (Or.inl (by decide)) (ps_b P1)
    have last : sX15_isOutcome_69 F (wI hr1 (Z 15) p.2 v) (Z 16) (Z 82) x2 = some o' := by
      unfold sX15_isOutcome_35 at e'
      replace e' := br_s e'
      rcases e' with ⟨b, _⟩ | ⟨_, e'⟩
      · exact absurd b hv
      replace e' := br_s e'
      rcases e' with ⟨b, e'⟩ | ⟨b, e'⟩
      · replace e' := cl_s e'
        obtain ⟨r4, e4, e'⟩ := e'
        have y4 : r4 = Z 15 := r_eq P1.2.1.1 e4
        rw [y4] at e'
        rw [hy.mp b]
        exact e'
      · replace e' := cl_s e'
        obtain ⟨r4, e4, e'⟩ := e'
        have y4 : r4 = Z 15 := r_eq P1.2.1.1 e4
        rw [y4] at e'
        rw [hp.resolve_right (fun z => b (hy.mpr z))]
        exact e'
    unfold sX15_isOutcome_69 at last
    replace last := cl_s last
    obtain ⟨o13, e13, last⟩ := last
    unfold sX15_goesOn at e13
    replace e13 := cl_s e13
    obtain ⟨o14, e14, e13⟩ := e13
    rw [← Option.some.inj e13] at last
    rw [← Option.some.inj e, ← Option.some.inj (gd_s last).2]
    -- the class writes behind its reading on, the reference ahead of it
    obtain ⟨P9, K9, _⟩ := ps_aw n12 dg D n2 (k := 2) (by decide) (by decide) (by decide) (by decide) P3 e3 e14
    exact ⟨Or.inr ⟨hv, i1n0, P9⟩, K9.1.1⟩
  replace e := br_s e
  replace e' := br_s e'
  rcases e with ⟨b, e⟩ | ⟨b, e⟩
  rotate_left
  · rcases e' with ⟨b', _⟩ | ⟨_, e'⟩
    · exact absurd b' b
    · exact fin (by decide) e e'
  rcases e' with ⟨_, e'⟩ | ⟨b', _⟩
  rotate_left
  · exact absurd b b'
  replace e := cl_s e
  obtain ⟨o3, e3, e⟩ := e
  replace e' := cl_s e'
  obtain ⟨o4, e4, e'⟩ := e'
  obtain ⟨u1, u2, u3⟩ := iw_r n12 P1.2.2.1 P1.2.2.2.1 P1.2.2.2.2.1 (by rfl) (by decide) e3 e4
  rw [u1] at e
  rw [u2, ← u3] at e'
  replace e := br_s e
  replace e' := br_s e'
  rcases e with ⟨b2, e⟩ | ⟨b2, e⟩
  · rcases e' with ⟨_, e'⟩ | ⟨b', _⟩
    rotate_left
    · exact absurd b2 b'
    unfold sX2_wonOrLost_27 sX2_wonOrLost_36 at e
    replace e := br_s e
    rcases e with ⟨_, e⟩ | ⟨n, _⟩
    rotate_left
    · exact absurd rfl n
    unfold sX15_isOutcome_35 at e'
    replace e' := br_s e'
    rcases e' with ⟨_, e'⟩ | ⟨n, _⟩
    rotate_left
    · exact absurd rfl n
    rw [← Option.some.inj e, ← Option.some.inj e']
    exact ⟨Or.inl ⟨rfl, rfl, ps_fl P1⟩, fun _ _ => rfl⟩
  · rcases e' with ⟨b', _⟩ | ⟨_, e'⟩
    · exact absurd b' b2
    · exact fin (by decide) e e'
end
end
