/-! what both readers have written: addresses by role -/
abbrev zl : List Nat := [3, 10, 49, 2, 27, 28, 29, 30, 31, 16, 15, 82, 73, 74, 75, 76, 77, 78, 79, 80, 81]
def ZD (Z : Nat → Nat) : Prop := ∀ i, i ∈ zl → ∀ j, j ∈ zl → Z i = Z j → i = j
theorem zne {Z : Nat → Nat} (D : ZD Z) {i j : Nat} (n : ¬ i = j := by decide) (hi : i ∈ zl := by decide) (hj : j ∈ zl := by decide) : ¬ Z i = Z j := fun e => n (D i hi j hj e)
theorem zn {Z : Nat → Nat} (D : ZD Z) {i j : Nat} (e : Z i = Z j) (n : ¬ i = j := by decide) (hi : i ∈ zl := by decide) (hj : j ∈ zl := by decide) : False := n (D i hi j hj e)
def ZC (Z : Nat → Nat) (h : Hp) : Prop := hR h (Z 3) 0 = some (Z 10) ∧ hR h (Z 3) 1 = some (Z 2) ∧ hR h (Z 10) 0 = some (Z 49) ∧ hR h (Z 2) 14 = some (Z 27) ∧ hR h (Z 2) 15 = some (Z 28) ∧ hR h (Z 2) 16 = some (Z 29) ∧ hR h (Z 2) 17 = some (Z 30) ∧ hR h (Z 2) 18 = some (Z 31)
def ZR (Z : Nat → Nat) (h : Hp) : Prop := hR h (Z 16) 5 = some (Z 15) ∧ hR h (Z 15) 3 = some (Z 73) ∧ hR h (Z 15) 4 = some (Z 74) ∧ hR h (Z 15) 5 = some (Z 75) ∧ hR h (Z 15) 6 = some (Z 76) ∧ hR h (Z 15) 7 = some (Z 77) ∧ hR h (Z 15) 8 = some (Z 78) ∧ hR h (Z 15) 9 = some (Z 79) ∧ hR h (Z 15) 13 = some (Z 80) ∧ hR h (Z 15) 14 = some (Z 81)
/-- fields that stand for each other -/
abbrev prs : List (Nat × Nat) := [(0, 0), (1, 1), (3, 2), (4, 10), (5, 11), (6, 12), (7, 20), (8, 22), (9, 23), (11, 19)]
theorem prs_1 : ∀ a, a ∈ prs → ∀ b, b ∈ prs → (a.1 = b.1 ∨ a.2 = b.2) → a = b := by decide
theorem prs_3 : ∀ a, a ∈ prs → ¬ (15 ≤ a.2 ∧ a.2 < 19) := by decide
theorem prs_2 : ∀ a, a ∈ prs → ¬ a.1 = 12 ∧ ¬ a.1 = 2 ∧ ¬ a.1 = 10 := by decide
def Bq (x : Int32) (q : Nat) : Prop := ((x >>> ((nI q) &&& 31)) &&& (1 : Int32)) = 1
/-- letters, men that become others, men that others become -/
def LT1 (Z : Nat → Nat) (hc hr : Hp) : Prop := ∀ i : Nat, (i : Int) < (hI hc (Z 2) 3).toInt → hI hc (Z 27) i = hI hr (Z 73) i ∧ Rg 97 122 (hI hc (Z 27) i)
def LT2 (Z : Nat → Nat) (hc hr : Hp) : Prop := ∀ i : Nat, i < 12 → hI hc (Z 31) i = hI hr (Z 81) i ∧ Rg 0 6 (hI hc (Z 31) i) ∧ ∀ j : Nat, (j : Int) < (hI hc (Z 31) i).toInt → hI hc (Z 30) (6 * i + j) = hI hr (Z 80) (6 * i + j) ∧ Rg 0 11 (hI hr (Z 80) (6 * i + j))
def LT3 (Z : Nat → Nat) (hc hr : Hp) : Prop := Rg 0 4095 (hI hc (Z 2) 12) ∧ ∀ q : Nat, q < 12 → (Bq (hI hc (Z 2) 12) q ↔ ∃ i j : Nat, (i : Int) < (hI hr (Z 15) 2).toInt ∧ (j : Int) < (hI hr (Z 81) i).toInt ∧ (hI hr (Z 80) (6 * i + j)).toInt = (q : Int))
/-- men that are not told yet have no steps, and become nobody -/
def LT4 (Z : Nat → Nat) (hr : Hp) : Prop := ∀ q : Nat, (hI hr (Z 15) 2).toInt ≤ (q : Int) → q < 12 → hI hr (Z 74) q = 0 ∧ hI hr (Z 81) q = 0
/-- a step: the class's number, the reference's five -/
def StE (w f a b r s : Int32) : Prop := (Rg 0 63 f ∧ Rg (-7) 7 a ∧ Rg (-7) 7 b ∧ Rg 1 7 r ∧ Rg 0 8 s) ∧ w.toInt = f.toInt + 64 * (a.toInt + 8) + 1024 * (b.toInt + 8) + 16384 * r.toInt + 131072 * s.toInt
def SXs (Z : Nat → Nat) (hc hr : Hp) (k : Nat) : Prop := StE (hI hc (Z 28) k) (hI hr (Z 75) k) (hI hr (Z 76) k) (hI hr (Z 77) k) (hI hr (Z 78) k) (hI hr (Z 79) k)
/-- hand, must, shy, blast; Z 998 is one that the reference has told ahead -/
def LT5 (Z : Nat → Nat) (hc hr : Hp) : Prop := Rg 0 15 (hI hc (Z 2) 10) ∧ ∀ k : Nat, k < 4 → ¬ Z 998 = k + 1 → (Bq (hI hc (Z 2) 10) k ↔ ¬ hI hr (Z 15) (15 + k) = 0)
/-- steps; Z 997 is a man whose steps are being told, Z 996 how many he has -/
def LT6 (Z : Nat → Nat) (hc hr : Hp) : Prop := ∀ j : Nat, (j : Int) < (hI hr (Z 15) 2).toInt → (¬ Z 997 = j + 1 → hI hc (Z 29) j = hI hr (Z 74) j ∧ Rg 1 8 (hI hc (Z 29) j) ∧ ∀ i : Nat, (i : Int) < (hI hc (Z 29) j).toInt → SXs Z hc hr (8 * j + i)) ∧ (Z 997 = j + 1 → ∀ i : Nat, i < Z 996 → SXs Z hc hr (8 * j + i))
abbrev lr : List Nat := [74, 75, 76, 77, 78, 79]
theorem lr_z : ∀ k, k ∈ lr → k ∈ zl ∧ ¬ k = 2 ∧ ¬ k = 3 ∧ ¬ k = 15 ∧ ¬ k = 16 ∧ ¬ k = 73 ∧ ¬ k = 80 ∧ ¬ k = 81 ∧ ¬ k = 82 := by decide
abbrev lc2 : List Nat := [28, 29]
theorem lc_z : ∀ k, k ∈ lc2 → k ∈ zl ∧ ¬ k = 2 ∧ ¬ k = 3 ∧ ¬ k = 10 ∧ ¬ k = 49 ∧ ¬ k = 27 ∧ ¬ k = 30 ∧ ¬ k = 31 := by decide
theorem lt5_k {Z : Nat → Nat} {hc hr oc or : Hp} (S : LT5 Z hc hr) (c : hI oc (Z 2) 10 = hI hc (Z 2) 10) (r : ∀ k, 15 ≤ k → k < 19 → hI or (Z 15) k = hI hr (Z 15) k) : LT5 Z oc or := ⟨by rw [c]; exact S.1, fun k hk n => by rw [c, r (15 + k) (by omega) (by omega)]; exact S.2 k hk n⟩
theorem sx_k {Z : Nat → Nat} {hc hr oc or : Hp} {k : Nat} (S : SXs Z hc hr k) (ca : hI oc (Z 28) k = hI hc (Z 28) k) (ra : ∀ q, q ∈ lr → hI or (Z q) k = hI hr (Z q) k) : SXs Z oc or k := by
  unfold SXs at S ⊢
  rw [ca, ra 75 (by decide), ra 76 (by decide), ra 77 (by decide), ra 78 (by decide), ra 79 (by decide)]
  exact S
theorem lt6_k {Z : Nat → Nat} {hc hr oc or : Hp} (S : LT6 Z hc hr) (r2 : hI or (Z 15) 2 = hI hr (Z 15) 2) (ca : ∀ k, k ∈ lc2 → ∀ i, hI oc (Z k) i = hI hc (Z k) i) (ra : ∀ k, k ∈ lr → ∀ i, hI or (Z k) i = hI hr (Z k) i) : LT6 Z oc or := fun j hj => by
  rw [r2] at hj
  obtain ⟨S1, S2⟩ := S j hj
  refine ⟨fun n => ?_, fun g i hi => sx_k (S2 g i hi) (ca 28 (by decide) _) (fun q hq => ra q hq _)⟩
  obtain ⟨a, b, c⟩ := S1 n
  refine ⟨by rw [ca 29 (by decide), ra 74 (by decide)]; exact a, by rw [ca 29 (by decide)]; exact b, fun i hi => ?_⟩
  rw [ca 29 (by decide)] at hi
  exact sx_k (c i hi) (ca 28 (by decide) _) (fun q hq => ra q hq _)
/-- the royal man becomes none -/
def LT7 (Z : Nat → Nat) (hc : Hp) : Prop := ∀ q : Nat, q < 12 → (hI hc (Z 2) 4).toInt = (q : Int) → hI hc (Z 31) q = 0
theorem lt7_k {Z : Nat → Nat} {hc oc : Hp} (S : LT7 Z hc) (c4 : hI oc (Z 2) 4 = hI hc (Z 2) 4) (c31 : ∀ i, hI oc (Z 31) i = hI hc (Z 31) i) : LT7 Z oc := fun q hq z => by
  rw [c4] at z
  rw [c31]; exact S q hq z
def LwS (Z : Nat → Nat) (hc hr : Hp) : Prop := (hI hc (Z 3) 6 = hI hr (Z 16) 10 ∧ Rg 0 1023 (hI hc (Z 3) 6)) ∧ (∀ p, p ∈ prs → hI hc (Z 2) p.1 = hI hr (Z 15) p.2) ∧ hJ hc (Z 2) 13 = hJ hr (Z 15) 21 ∧ Rg 0 12 (hI hc (Z 2) 3) ∧ LT1 Z hc hr ∧ LT2 Z hc hr ∧ LT3 Z hc hr ∧ (Rg 3 8 (hI hc (Z 2) 0) ∧ Rg 3 8 (hI hc (Z 2) 1) ∧ Rg (-1) 11 (hI hc (Z 2) 4) ∧ Rg 0 4095 (hI hc (Z 2) 11)) ∧ ((hI hc (Z 3) 6) &&& (32 : Int32) = 0 → hI hc (Z 2) 11 = 0) ∧ ((hI hc (Z 3) 6) &&& (128 : Int32) = 0 → hJ hc (Z 2) 13 = 0) ∧ LT4 Z hr ∧ ((Z 999 : Nat) : Int) ≤ (hI hc (Z 3) 3).toInt ∧ LT5 Z hc hr ∧ LT6 Z hc hr ∧ LT7 Z hc
theorem ls_6 {Z : Nat → Nat} {hc hr : Hp} (S : LwS Z hc hr) : LT6 Z hc hr := S.2.2.2.2.2.2.2.2.2.2.2.2.2.1
theorem ls_7 {Z : Nat → Nat} {hc hr : Hp} (S : LwS Z hc hr) : LT7 Z hc := S.2.2.2.2.2.2.2.2.2.2.2.2.2.2
theorem ls_5 {Z : Nat → Nat} {hc hr : Hp} (S : LwS Z hc hr) : LT5 Z hc hr := S.2.2.2.2.2.2.2.2.2.2.2.2.1
def PS (T : Nat → Int) (N : Int) (Z : Nat → Nat) (hc hr : Hp) : Prop := ZC Z hc ∧ ZR Z hr ∧ CT T N (Z 10) (Z 3) hc ∧ RT T N (Z 82) hr ∧ TS T N (Z 3) (Z 16) hc hr ∧ LwS Z hc hr
/-- what lookups of men stand on -/
def LSm (Z : Nat → Nat) (hc hr : Hp) : Prop := hI hc (Z 2) 3 = hI hr (Z 15) 2 ∧ Rg 0 12 (hI hc (Z 2) 3) ∧ LT1 Z hc hr
def PMn (T : Nat → Int) (N : Int) (Z : Nat → Nat) (hc hr : Hp) : Prop := ZC Z hc ∧ ZR Z hr ∧ CT T N (Z 10) (Z 3) hc ∧ RT T N (Z 82) hr ∧ TS T N (Z 3) (Z 16) hc hr ∧ LSm Z hc hr
theorem ls_m {Z : Nat → Nat} {hc hr : Hp} (S : LwS Z hc hr) : LSm Z hc hr := ⟨S.2.1 (3, 2) (by decide), S.2.2.2.1, S.2.2.2.2.1⟩
theorem ps_m {T : Nat → Int} {N : Int} {Z : Nat → Nat} {hc hr : Hp} (P : PS T N Z hc hr) : PMn T N Z hc hr := ⟨P.1, P.2.1, P.2.2.1, P.2.2.2.1, P.2.2.2.2.1, ls_m P.2.2.2.2.2⟩
/-- both stop at the same place -/
def Fl2 (Z : Nat → Nat) (hc hr : Hp) : Prop := hI hc (Z 3) 2 = hI hr (Z 16) 7
section
variable {T : Nat → Int} {N : Int} {F : Nat} {Z : Nat → Nat} {x2 : Int32} {hc hr oc or : Hp} {x : Int32}
theorem zc_k (C : ZC Z hc) (K : ∀ a i, hR oc a i = hR hc a i) : ZC Z oc := by
  obtain ⟨a1, a2, a3, a4, a5, a6, a7, a8⟩ := C
  exact ⟨by rw [K]; exact a1, by rw [K]; exact a2, by rw [K]; exact a3, by rw [K]; exact a4, by rw [K]; exact a5, by rw [K]; exact a6, by rw [K]; exact a7, by rw [K]; exact a8⟩
theorem zr_k (C : ZR Z hr) (K : ∀ a i, hR or a i = hR hr a i) : ZR Z or := by
  obtain ⟨a1, a2, a3, a4, a5, a6, a7, a8, a9, a10⟩ := C
  exact ⟨by rw [K]; exact a1, by rw [K]; exact a2, by rw [K]; exact a3, by rw [K]; exact a4, by rw [K]; exact a5, by rw [K]; exact a6, by rw [K]; exact a7, by rw [K]; exact a8, by rw [K]; exact a9, by rw [K]; exact a10⟩
/-- what is read of the law stays -/
theorem ls_kk (S : LwS Z hc hr) (c3 : hI oc (Z 3) 6 = hI hc (Z 3) 6) (c2 : ∀ i, hI oc (Z 2) i = hI hc (Z 2) i) (cJ : hJ oc (Z 2) 13 = hJ hc (Z 2) 13) (ca : ∀ k i, k = 27 ∨ k = 30 ∨ k = 31 → hI oc (Z k) i = hI hc (Z k) i) (r16 : hI or (Z 16) 10 = hI hr (Z 16) 10) (r15 : ∀ i, hI or (Z 15) i = hI hr (Z 15) i) (rJ : hJ or (Z 15) 21 = hJ hr (Z 15) 21) (ra : ∀ k i, k = 73 ∨ k = 80 ∨ k = 81 ∨ k = 74 → hI or (Z k) i = hI hr (Z k) i) (cn : ((Z 999 : Nat) : Int) ≤ (hI oc (Z 3) 3).toInt) (l6 : LT6 Z oc or) : LwS Z oc or := by
  obtain ⟨s1, s2, s3, s4, s5, s6, s7, s8, s9⟩ := S
  refine ⟨by rw [c3, r16]; exact s1, fun p hp => by rw [c2, r15]; exact s2 p hp, by rw [cJ, rJ]; exact s3, by rw [c2]; exact s4, fun i hi => ?_, fun i hi => ?_, ⟨by rw [c2]; exact s7.1, fun q hq => ?_⟩, by rw [c2, c2, c2, c2]; exact s8, by rw [c3, c2]; exact s9.1, by rw [c3, cJ]; exact s9.2.1, fun q h1 h2 => by rw [r15] at h1; rw [ra 74 q (by decide), ra 81 q (by decide)]; exact s9.2.2.1 q h1 h2, cn, lt5_k s9.2.2.2.2.1 (c2 10) (fun k _ _ => r15 k), l6, lt7_k s9.2.2.2.2.2.2 (c2 4) (fun i => ca 31 i (by decide))⟩
  · rw [c2] at hi
    rw [ca 27 i (by decide), ra 73 i (by decide)]; exact s5 i hi
  · rw [ca 31 i (by decide), ra 81 i (by decide)]
    refine ⟨(s6 i hi).1, (s6 i hi).2.1, fun j hj => ?_⟩
    rw [ca 30 _ (by decide), ra 80 _ (by decide)]
    exact (s6 i hi).2.2 j hj
  · rw [c2, s7.2 q hq]
    constructor
    · rintro ⟨i, j, a, b, c⟩
      exact ⟨i, j, by rw [r15]; exact a, by rw [ra 81 i (by decide)]; exact b, by rw [ra 80 _ (by decide)]; exact c⟩
    · rintro ⟨i, j, a, b, c⟩
      exact ⟨i, j, by rw [← r15]; exact a, by rw [← ra 81 i (by decide)]; exact b, by rw [← ra 80 _ (by decide)]; exact c⟩
/-- both go on by a token -/
theorem ps_a (n12 : N ≤ 1200) (dg : ∀ j : Nat, (j : Int) < N → 0 ≤ T j ∧ T j ≤ 255) (D : ZD Z) (n2 : x2.toInt = N) (P : ZC Z hc ∧ ZR Z hr ∧ CT T N (Z 10) (Z 3) hc ∧ RT T N (Z 82) hr ∧ LwS Z hc hr) (S : hI hc (Z 3) 3 = hI hr (Z 16) 8 ∧ 0 ≤ (hI hc (Z 3) 3).toInt ∧ (hI hc (Z 3) 3).toInt ≤ N) (ec : sX2_advance F hc (Z 3) = some oc) (er : sX15_nextToken F hr (Z 16) (Z 82) x2 = some or) : PS T N Z oc or := by
  obtain ⟨p1, p2, p3, p4, p5⟩ := P
  obtain ⟨S2, Kc, Kr'⟩ := ts_a n12 dg p3 p4 (zne D) n2 S ec er
  refine ⟨zc_k p1 Kc.1.1, zr_k p2 Kr'.1.1, ct_k p3 Kc, rt_k (zne D) p4 Kr', S2, ?_⟩
  refine ls_kk p5 (Kc.2 _ _ (fun z => by have := z.2.2; omega)) (fun i => Kc.2 _ _ (fun z => zn D z.1)) (Kc.1.2 _ _) (fun k i hk => Kc.2 _ _ (fun z => ?_)) (Kr'.2 _ _ (fun z => by have := z.2.2; omega)) (fun i => Kr'.2 _ _ (fun z => zn D z.1)) (Kr'.1.2 _ _) (fun k i hk => Kr'.2 _ _ (fun z => ?_)) (by
    have A := (adv_k n12 dg p3 S.2.1 S.2.2 ec).2
    have a1 := A.1.2.1
    have a2 := (tk_b A).2.1
    have a3 := p5.2.2.2.2.2.2.2.2.2.2.2.1
    omega) (lt6_k (ls_6 p5) (Kr'.2 _ _ (fun z => zn D z.1)) (fun k hk i => Kc.2 _ _ (fun z => (lc_z k hk).2.2.1 (D k (lc_z k hk).1 3 (by decide) z.1))) (fun k hk i => Kr'.2 _ _ (fun z => (lr_z k hk).2.2.2.2.1 (D k (lr_z k hk).1 16 (by decide) z.1))))
  · rcases hk with rfl | rfl | rfl <;> exact zn D z.1
  · rcases hk with rfl | rfl | rfl | rfl <;> exact zn D z.1
end
