/-! sentences that are told once at most -/
def PB (T : Nat → Int) (N : Int) (Z : Nat → Nat) (hc hr : Hp) : Prop := (ZC Z hc ∧ ZR Z hr ∧ CT T N (Z 10) (Z 3) hc ∧ RT T N (Z 82) hr ∧ LwS Z hc hr) ∧ (hI hc (Z 3) 3 = hI hr (Z 16) 8 ∧ 0 ≤ (hI hc (Z 3) 3).toInt ∧ (hI hc (Z 3) 3).toInt ≤ N)
def Out (T : Nat → Int) (N : Int) (Z : Nat → Nat) (o o' : Int32 × Hp) : Prop := (o.1 = 0 ∧ o'.1 = 0 ∧ Fl2 Z o.2 o'.2) ∨ (¬ o.1 = 0 ∧ ¬ o'.1 = 0 ∧ PS T N Z o.2 o'.2)
section
variable {T : Nat → Int} {N : Int} {F : Nat} {Z : Nat → Nat} {x2 : Int32} {hc hr oc or hc1 : Hp} {x : Int32} {o o' : Int32 × Hp}
theorem ps_b (P : PS T N Z hc hr) : PB T N Z hc hr := ⟨⟨P.1, P.2.1, P.2.2.1, P.2.2.2.1, P.2.2.2.2.2⟩, ts_n P.2.2.2.2.1⟩
theorem ps_fl (P : PS T N Z hc hr) : Fl2 Z hc hr := (ts_f P.2.2.2.2.1).1
theorem out_0 (P : PS T N Z hc hr) : Out T N Z ((0 : Int32), hc) ((0 : Int32), hr) := Or.inl ⟨rfl, rfl, ps_fl P⟩
theorem ct_w {a i : Nat} {v : Int32} (n1 : ¬ Z 10 = a) (n2 : ¬ Z 49 = a) (C : ZC Z hc) (P : CT T N (Z 10) (Z 3) hc) : CT T N (Z 10) (Z 3) (wI hc a i v) := by
  obtain ⟨p1, p2, p3, b, p4, p5, p6⟩ := P
  have y : b = Z 49 := r_eq C.2.2.1 p4
  rw [y] at p4 p5 p6
  exact ⟨p1, p2, by rw [rI_a n1]; exact p3, Z 49, p4, p5, fun i hi => by rw [rI_a n2]; exact p6 i hi⟩
theorem rt_w {a i : Nat} {v : Int32} (n1 : ¬ Z 82 = a) (P : RT T N (Z 82) hr) : RT T N (Z 82) (wI hr a i v) := fun i hi => by rw [rI_a n1]; exact P i hi
/-- both write a field of the law -/
theorem ls_p (D : ZD Z) {p : Nat × Nat} {v : Int32} (hp : p ∈ prs) (n3 : ¬ p.1 = 3) (g : (¬ p.1 = 0 ∨ Rg 3 8 v) ∧ (¬ p.1 = 1 ∨ Rg 3 8 v) ∧ (¬ p.1 = 4 ∨ Rg (-1) 11 v) ∧ (¬ p.1 = 11 ∨ (Rg 0 4095 v ∧ ¬ (hI hc (Z 3) 6) &&& (32 : Int32) = 0))) (g7 : ¬ p.1 = 4 ∨ ∀ q : Nat, q < 12 → v.toInt = (q : Int) → hI hc (Z 31) q = 0) (S : LwS Z hc hr) : LwS Z (wI hc (Z 2) p.1 v) (wI hr (Z 15) p.2 v) := by
  obtain ⟨s1, s2, s3, s4, s5, s6, s7, s8, s9⟩ := S
  obtain ⟨m12, m2, m10⟩ := prs_2 p hp
  have n2' : ¬ p.2 = 2 := fun z => n3 (by rw [prs_1 p hp (3, 2) (by decide) (Or.inr z)])
  have k3 : hI (wI hc (Z 2) p.1 v) (Z 2) 3 = hI hc (Z 2) 3 := rI_o (fun z => n3 z.symm)
  have k12 : hI (wI hc (Z 2) p.1 v) (Z 2) 12 = hI hc (Z 2) 12 := rI_o (fun z => m12 z.symm)
  have r2 : hI (wI hr (Z 15) p.2 v) (Z 15) 2 = hI hr (Z 15) 2 := rI_o (fun z => n2' z.symm)
  have fld : ∀ {i : Nat} {lo hi : Int}, Rg lo hi (hI hc (Z 2) i) → (¬ p.1 = i ∨ Rg lo hi v) → Rg lo hi (hI (wI hc (Z 2) p.1 v) (Z 2) i) := fun {i lo hi} a b => by
    by_cases z : p.1 = i
    · rw [← z, rI_s]; exact b.resolve_left (fun n => n z)
    · rw [rI_o (fun y => z y.symm)]; exact a
  refine ⟨by rw [rI_a (zne D), rI_a (zne D)]; exact s1, fun q hq => ?_, s3, by rw [k3]; exact s4, fun i hi => ?_, fun i hi => ?_, ⟨by rw [k12]; exact s7.1, fun q hq => ?_⟩, ⟨fld s8.1 g.1, fld s8.2.1 g.2.1, fld s8.2.2.1 g.2.2.1, fld s8.2.2.2 (g.2.2.2.imp id (fun z => z.1))⟩, ?_, by rw [rI_a (zne D)]; exact s9.2.1, fun q h1 h2 => by rw [r2] at h1; rw [rI_a (zne D), rI_a (zne D)]; exact s9.2.2.1 q h1 h2, by rw [rI_a (zne D)]; exact s9.2.2.2.1, lt5_k s9.2.2.2.2.1 (rI_o (fun z => m10 z.symm)) (fun k h1 h2 => rI_o (fun z => prs_3 p hp (by rw [← z]; exact ⟨h1, h2⟩))), lt6_k s9.2.2.2.2.2.1 r2 (fun k hk i => rI_a (zne D (lc_z k hk).2.1 (lc_z k hk).1)) (fun k hk i => rI_a (zne D (lr_z k hk).2.2.2.1 (lr_z k hk).1)), fun q hq z => by
    rw [rI_a (zne D)]
    by_cases y : p.1 = 4
    · rw [← y, rI_s] at z
      exact (g7.resolve_left (fun n => n y)) q hq z
    · rw [rI_o (fun w => y w.symm)] at z
      exact s9.2.2.2.2.2.2 q hq z⟩
  · by_cases z : q = p
    · rw [z, rI_s, rI_s]
    · rw [rI_o (fun y => z (prs_1 q hq p hp (Or.inl y))), rI_o (fun y => z (prs_1 q hq p hp (Or.inr y)))]
      exact s2 q hq
  · rw [k3] at hi
    rw [rI_a (zne D), rI_a (zne D)]; exact s5 i hi
  · rw [rI_a (zne D), rI_a (zne D)]
    refine ⟨(s6 i hi).1, (s6 i hi).2.1, fun j hj => ?_⟩
    rw [rI_a (zne D), rI_a (zne D)]
    exact (s6 i hi).2.2 j hj
  · rw [k12, s7.2 q hq]
    constructor
    · rintro ⟨i, j, a, b, c⟩
      exact ⟨i, j, by rw [r2]; exact a, by rw [rI_a (zne D)]; exact b, by rw [rI_a (zne D)]; exact c⟩
    · rintro ⟨i, j, a, b, c⟩
      rw [r2] at a
      rw [rI_a (zne D)] at b c
      exact ⟨i, j, a, b, c⟩
  · rw [rI_a (zne D)]
    intro z
    by_cases y : p.1 = 11
    · exact absurd z (g.2.2.2.resolve_left (fun n => n y)).2
    · rw [rI_o (fun w => y w.symm)]; exact s9.1 z
theorem pb_p (D : ZD Z) {p : Nat × Nat} {v : Int32} (hp : p ∈ prs) (n3 : ¬ p.1 = 3) (g : (¬ p.1 = 0 ∨ Rg 3 8 v) ∧ (¬ p.1 = 1 ∨ Rg 3 8 v) ∧ (¬ p.1 = 4 ∨ Rg (-1) 11 v) ∧ (¬ p.1 = 11 ∨ (Rg 0 4095 v ∧ ¬ (hI hc (Z 3) 6) &&& (32 : Int32) = 0))) (g7 : ¬ p.1 = 4 ∨ ∀ q : Nat, q < 12 → v.toInt = (q : Int) → hI hc (Z 31) q = 0) (P : PB T N Z hc hr) : PB T N Z (wI hc (Z 2) p.1 v) (wI hr (Z 15) p.2 v) := by
  obtain ⟨⟨p1, p2, p3, p4, p5⟩, q1, q2, q3⟩ := P
  refine ⟨⟨p1, p2, ct_w (zne D) (zne D) p1 p3, rt_w (zne D) p4, ls_p D hp n3 g g7 p5⟩, ?_⟩
  rw [rI_a (zne D), rI_a (zne D)]
  exact ⟨q1, q2, q3⟩
/-- both note that a sentence was told -/
theorem pb_t (D : ZD Z) {v : Int32} (g : Rg 0 1023 v ∧ (v &&& (32 : Int32) = 0 → (hI hc (Z 3) 6) &&& (32 : Int32) = 0) ∧ (v &&& (128 : Int32) = 0 → (hI hc (Z 3) 6) &&& (128 : Int32) = 0)) (P : PB T N Z hc hr) : PB T N Z (wI hc (Z 3) 6 v) (wI hr (Z 16) 10 v) := by
  obtain ⟨⟨p1, p2, p3, p4, p5⟩, q1, q2, q3⟩ := P
  have n3 : ∀ {k : Nat}, k ∈ zl → ¬ k = 3 → ∀ i, hI (wI hc (Z 3) 6 v) (Z k) i = hI hc (Z k) i := fun hk n i => rI_a (zne D n hk)
  have n16 : ∀ {k : Nat}, k ∈ zl → ¬ k = 16 → ∀ i, hI (wI hr (Z 16) 10 v) (Z k) i = hI hr (Z k) i := fun hk n i => rI_a (zne D n hk)
  refine ⟨⟨p1, p2, ct_w (zne D) (zne D) p1 p3, rt_w (zne D) p4, ?_⟩, ?_⟩
  · obtain ⟨s1, s2, s3, s4, s5, s6, s7, s8, s9⟩ := p5
    refine ⟨by rw [rI_s, rI_s]; exact ⟨rfl, g.1⟩, fun q hq => by rw [n3 (by decide) (by decide), n16 (by decide) (by decide)]; exact s2 q hq, s3, by rw [n3 (by decide) (by decide)]; exact s4, fun i hi => ?_, fun i hi => ?_, ⟨by rw [n3 (by decide) (by decide)]; exact s7.1, fun q hq => ?_⟩, by rw [n3 (by decide) (by decide), n3 (by decide) (by decide), n3 (by decide) (by decide), n3 (by decide) (by decide)]; exact s8, fun z => by rw [rI_s] at z; rw [n3 (by decide) (by decide)]; exact s9.1 (g.2.1 z), fun z => by rw [rI_s] at z; exact s9.2.1 (g.2.2 z), fun q h1 h2 => by rw [n16 (by decide) (by decide)] at h1; rw [n16 (by decide) (by decide), n16 (by decide) (by decide)]; exact s9.2.2.1 q h1 h2, by rw [rI_o (by decide)]; exact s9.2.2.2.1, lt5_k s9.2.2.2.2.1 (n3 (by decide) (by decide) _) (fun k _ _ => n16 (by decide) (by decide) _), lt6_k s9.2.2.2.2.2.1 (n16 (by decide) (by decide) _) (fun k hk i => n3 (lc_z k hk).1 (lc_z k hk).2.2.1 i) (fun k hk i => n16 (lr_z k hk).1 (lr_z k hk).2.2.2.2.1 i), lt7_k s9.2.2.2.2.2.2 (n3 (by decide) (by decide) _) (fun i => n3 (by decide) (by decide) i)⟩
    · rw [n3 (by decide) (by decide)] at hi
      rw [n3 (by decide) (by decide), n16 (by decide) (by decide)]; exact s5 i hi
    · rw [n3 (by decide) (by decide), n16 (by decide) (by decide)]
      refine ⟨(s6 i hi).1, (s6 i hi).2.1, fun j hj => ?_⟩
      rw [n3 (by decide) (by decide), n16 (by decide) (by decide)]
      exact (s6 i hi).2.2 j hj
    · rw [n3 (by decide) (by decide), s7.2 q hq]
      constructor
      · rintro ⟨i, j, a, b, c⟩
        exact ⟨i, j, by rw [n16 (by decide) (by decide)]; exact a, by rw [n16 (by decide) (by decide)]; exact b, by rw [n16 (by decide) (by decide)]; exact c⟩
      · rintro ⟨i, j, a, b, c⟩
        rw [n16 (by decide) (by decide)] at a b c
        exact ⟨i, j, a, b, c⟩
  · rw [rI_o (by decide), rI_o (by decide)]
    exact ⟨q1, q2, q3⟩
/-- both go on, some writes of the class aside -/
theorem ps_aW (n12 : N ≤ 1200) (dg : ∀ j : Nat, (j : Int) < N → 0 ≤ T j ∧ T j ≤ 255) (D : ZD Z) (n2 : x2.toInt = N) {W : Hp → Hp} (W1 : ∀ g a j, hR (W g) a j = hR g a j) (W2 : ∀ g a j, hJ (W g) a j = hJ g a j) (W3 : ∀ g g' a j, hI g a j = hI g' a j → hI (W g) a j = hI (W g') a j) (W4 : ∀ g k j, k = 3 ∨ k = 10 ∨ k = 49 → hI (W g) (Z k) j = hI g (Z k) j) (P : PB T N Z (W hc) hr) (ec : sX2_advance F hc (Z 3) = some oc) (er : sX15_nextToken F hr (Z 16) (Z 82) x2 = some or) : PS T N Z (W oc) or ∧ Kx (Z 3) hc oc ∧ Kr (Z 16) hr or := by
  obtain ⟨⟨p1, p2, p3, p4, p5⟩, q1, q2, q3⟩ := P
  have c1 : ZC Z hc := zc_k p1 (fun a j => (W1 hc a j).symm)
  have C : CT T N (Z 10) (Z 3) hc := by
    obtain ⟨a1, a2, a3, b, a4, a5, a6⟩ := p3
    rw [W1] at a1 a4
    have y : b = Z 49 := r_eq c1.2.2.1 a4
    rw [y] at a4 a5 a6
    refine ⟨a1, a2, ?_, Z 49, a4, a5, fun j hj => ?_⟩
    · rw [W4 _ 10 _ (by decide)] at a3; exact a3
    · have := a6 j hj
      rw [W4 _ 49 _ (by decide)] at this; exact this
  have w3 : ∀ (g : Hp) (j : Nat), hI (W g) (Z 3) j = hI g (Z 3) j := fun g j => W4 g 3 j (by decide)
  rw [w3] at q1 q2 q3
  obtain ⟨S2, Kc, Kr'⟩ := ts_a n12 dg C p4 (zne D) n2 ⟨q1, q2, q3⟩ ec er
  refine ⟨?_, Kc, Kr'⟩
  have K9 : ∀ a j, ¬ (a = Z 3 ∧ 2 ≤ j ∧ j ≤ 5) → hI (W oc) a j = hI (W hc) a j := fun a j n => W3 _ _ a j (Kc.2 a j n)
  have Co := ct_k C Kc
  refine ⟨zc_k c1 (fun a j => (W1 oc a j).trans (Kc.1.1 a j)), zr_k p2 Kr'.1.1, ?_, rt_k (zne D) p4 Kr', ?_, ?_⟩
  · obtain ⟨a1, a2, a3, b, a4, a5, a6⟩ := Co
    have y : b = Z 49 := r_eq c1.2.2.1 (by rw [← Kc.1.1]; exact a4)
    rw [y] at a4 a5 a6
    exact ⟨by rw [W1]; exact a1, a2, by rw [W4 _ 10 _ (by decide)]; exact a3, Z 49, by rw [W1]; exact a4, a5, fun j hj => by rw [W4 _ 49 _ (by decide)]; exact a6 j hj⟩
  · obtain ⟨p', k', A, B', ek⟩ := S2
    exact ⟨p', k', by rw [w3, w3, w3, w3]; exact A, B', ek⟩
  · refine ls_kk p5 (K9 _ _ (fun z => by have := z.2.2; omega)) (fun j => K9 _ _ (fun z => zn D z.1)) (by rw [W2, W2]; exact Kc.1.2 _ _) (fun a j ha => K9 _ _ (fun z => ?_)) (Kr'.2 _ _ (fun z => by have := z.2.2; omega)) (fun j => Kr'.2 _ _ (fun z => zn D z.1)) (Kr'.1.2 _ _) (fun a j ha => Kr'.2 _ _ (fun z => ?_)) (by
      rw [w3]
      have A := (adv_k n12 dg C q2 q3 ec).2
      have a1 := A.1.2.1
      have a2 := (tk_b A).2.1
      have a3 := p5.2.2.2.2.2.2.2.2.2.2.2.1
      rw [w3] at a3
      omega) (lt6_k (ls_6 p5) (Kr'.2 _ _ (fun z => zn D z.1)) (fun k hk i => K9 _ _ (fun z => (lc_z k hk).2.2.1 (D k (lc_z k hk).1 3 (by decide) z.1))) (fun k hk i => Kr'.2 _ _ (fun z => (lr_z k hk).2.2.2.2.1 (D k (lr_z k hk).1 16 (by decide) z.1))))
    · rcases ha with rfl | rfl | rfl <;> exact zn D z.1
    · rcases ha with rfl | rfl | rfl | rfl <;> exact zn D z.1
theorem w_3 {a0 i0 : Nat} {v : Int32} (g g' : Hp) (a j : Nat) (e : hI g a j = hI g' a j) : hI (wI g a0 i0 v) a j = hI (wI g' a0 i0 v) a j := by
  rw [r_I, r_I]
  by_cases z : a = a0 ∧ j = i0
  · rw [if_pos z, if_pos z]
  · rw [if_neg z, if_neg z]; exact e
theorem ps_aw (n12 : N ≤ 1200) (dg : ∀ j : Nat, (j : Int) < N → 0 ≤ T j ∧ T j ≤ 255) (D : ZD Z) (n2 : x2.toInt = N) {k i : Nat} {v : Int32} (hk : k ∈ zl) (n3 : ¬ k = 3) (n10 : ¬ k = 10) (n49 : ¬ k = 49) (P : PB T N Z (wI hc (Z k) i v) hr) (ec : sX2_advance F hc (Z 3) = some oc) (er : sX15_nextToken F hr (Z 16) (Z 82) x2 = some or) : PS T N Z (wI oc (Z k) i v) or ∧ Kx (Z 3) hc oc ∧ Kr (Z 16) hr or :=
  ps_aW (W := fun g => wI g (Z k) i v) n12 dg D n2 (fun _ _ _ => rfl) (fun _ _ _ => rfl) w_3 (fun g a j ha => by
    rcases ha with rfl | rfl | rfl
    · exact rI_a (zne D (fun z => n3 z.symm) (by decide) hk)
    · exact rI_a (zne D (fun z => n10 z.symm) (by decide) hk)
    · exact rI_a (zne D (fun z => n49 z.symm) (by decide) hk)) P ec er
theorem bo_q (C : ZC Z hc) (x0 : 0 ≤ x.toInt) (x12 : x.toInt < 12) (e : sX1_becomesOthers hc (Z 2) x = some o) : o.2 = hc ∧ (o.1 = 0 ↔ (hI hc (Z 31) x.toNatClampNeg).toInt ≤ 0) := by
  have z0 : (0 : Int32).toInt = 0 := rfl
  have z12 : (12 : Int32).toInt = 12 := rfl
  unfold sX1_becomesOthers sX1_becomesOthers_23 sX1_becomesOthers_24 at e
  replace e := br_s e
  rcases e with ⟨l, _⟩ | ⟨_, e⟩
  · have l := lt_i l; omega
  replace e := br_s e
  rcases e with ⟨l, _⟩ | ⟨_, e⟩
  · have l := le_i l; omega
  replace e := cl_s e
  obtain ⟨r3, e3, e⟩ := e
  have y3 : r3 = Z 31 := r_eq C.2.2.2.2.2.2.2 e3
  rw [y3] at e
  replace e := (gd_s e).2
  replace e := br_s e
  rcases e with ⟨l, e⟩ | ⟨l, e⟩
  · have l := le_i l
    rw [← Option.some.inj (gd_s e).2]
    exact ⟨rfl, ⟨fun _ => by omega, fun _ => rfl⟩⟩
  · have l := nle_i l
    rw [← Option.some.inj (gd_s e).2]
    exact ⟨rfl, ⟨fun z => absurd z i1n0, fun z => by omega⟩⟩
/-- is he one that another becomes? -/
theorem ib_15 (R : ZR Z hr) (c6 : ∀ i : Nat, i < 12 → Rg 0 6 (hI hr (Z 81) i)) {k4 : Hp → Nat → Int32 → Int32 → Int32 → Option (Int32 × Hp)} {i : Int32} (i0 : 0 ≤ i.toInt) (i12 : i.toInt < 12) : ∀ (f : Nat) {y j : Int32}, 0 ≤ j.toInt → j.toInt ≤ 6 → (y = 0 ∨ y = 1) → sX14_isBecome_15 F k4 f hr (Z 15) x y i j = some o → ∃ y' v : Int32, (y' = 0 ∨ y' = 1) ∧ v.toInt = i.toInt + 1 ∧ (y' = 0 ↔ y = 0 ∧ ∀ q : Nat, j.toInt ≤ (q : Int) → (q : Int) < (hI hr (Z 81) i.toNatClampNeg).toInt → ¬ hI hr (Z 80) (6 * i.toNatClampNeg + q) = x) ∧ k4 hr (Z 15) x y' v = some o := by
  have z1 : (1 : Int32).toInt = 1 := rfl
  have z6 : (6 : Int32).toInt = 6 := rfl
  have nx := nc_i i0
  have cc := c6 i.toNatClampNeg (by omega)
  intro f
  induction f with
  | zero => intro y j _ _ _ e; exact absurd e (by rw [sX14_isBecome_15]; exact fun z => nomatch z)
  | succ f ih =>
    intro y j j0 j6 hy e
    rw [sX14_isBecome_15] at e
    replace e := cl_s e
    obtain ⟨r1, e1, e⟩ := e
    have y1 : r1 = Z 81 := r_eq R.2.2.2.2.2.2.2.2.2 e1
    rw [y1] at e
    replace e := (gd_s e).2
    replace e := br_s e
    rcases e with ⟨l, e⟩ | ⟨l, e⟩
    · have l := le_i l
      replace e := nm_s e
      obtain ⟨v4, w4, e⟩ := e
      exact ⟨y, v4, hy, by rw [w4, ta (by rw [z1]; omega), z1], ⟨fun z => ⟨z, fun q q1 q2 => by omega⟩, fun z => z.1⟩, e⟩
    have l := nle_i l
    have c2 := cc.2
    replace e := cl_s e
    obtain ⟨r5, e5, e⟩ := e
    have y5 : r5 = Z 80 := r_eq R.2.2.2.2.2.2.2.2.1 e5
    rw [y5] at e
    replace e := (gd_s e).2
    have m6 : ((6 : Int32) * i).toInt = 6 * i.toInt := by rw [tm (by rw [z6]; omega), z6]
    have ad : (((6 : Int32) * i) + j).toInt = 6 * i.toInt + j.toInt := by rw [ta (by rw [m6]; omega), m6]
    have nj := nc_i j0
    have na := nc_i (x := ((6 : Int32) * i) + j) (by omega)
    have w : (((6 : Int32) * i) + j).toNatClampNeg = 6 * i.toNatClampNeg + j.toNatClampNeg := by omega
    rw [w] at e
    have go : ∀ {t0 : Int32}, (t0 = 0 ∨ t0 = 1) → (t0 = 0 ↔ ¬ hI hr (Z 80) (6 * i.toNatClampNeg + j.toNatClampNeg) = x) → sX14_isBecome_48 F k4 (sX14_isBecome_15 F k4 f) hr (Z 15) x i j t0 y = some o → ∃ y' v : Int32, (y' = 0 ∨ y' = 1) ∧ v.toInt = i.toInt + 1 ∧ (y' = 0 ↔ y = 0 ∧ ∀ q : Nat, j.toInt ≤ (q : Int) → (q : Int) < (hI hr (Z 81) i.toNatClampNeg).toInt → ¬ hI hr (Z 80) (6 * i.toNatClampNeg + q) = x) ∧ k4 hr (Z 15) x y' v = some o := fun {t0} h01 ht e => by
      unfold sX14_isBecome_48 at e
      replace e := nm_s e
      obtain ⟨v1, w1, e⟩ := e
      replace e := nm_s e
      obtain ⟨v2, w2, e⟩ := e
      have t2 : v2.toInt = j.toInt + 1 := by rw [w2, ta (by rw [z1]; omega), z1]
      have hv : (v1 = 0 ∨ v1 = 1) ∧ (v1 = 0 ↔ y = 0 ∧ t0 = 0) := by
        rw [w1]
        rcases hy with hy | hy <;> rcases h01 with h01 | h01 <;> (rw [hy, h01]; decide)
      obtain ⟨y', v, a1, a2, a3, a4⟩ := ih (by omega) (by omega) hv.1 e
      refine ⟨y', v, a1, a2, ?_, a4⟩
      rw [a3, hv.2, ht]
      constructor
      · rintro ⟨⟨b1, b2⟩, b3⟩
        refine ⟨b1, fun q q1 q2 => ?_⟩
        by_cases z : (q : Int) = j.toInt
        · have zz : q = j.toNatClampNeg := by omega
          rw [zz]; exact b2
        · exact b3 q (by omega) q2
      · rintro ⟨b1, b2⟩
        exact ⟨⟨b1, b2 j.toNatClampNeg (by omega) (by omega)⟩, fun q q1 q2 => b2 q (by omega) q2⟩
    replace e := br_s e
    rcases e with ⟨b, e⟩ | ⟨b, e⟩
    · exact go (Or.inr rfl) ⟨fun z => absurd z (by decide), fun z => absurd b z⟩ e
    · exact go (Or.inl rfl) ⟨fun _ => b, fun _ => rfl⟩ e
theorem ib_4 (R : ZR Z hr) (c6 : ∀ i : Nat, i < 12 → Rg 0 6 (hI hr (Z 81) i)) (m12 : (hI hr (Z 15) 2).toInt ≤ 12) : ∀ (f : Nat) {y i : Int32}, 0 ≤ i.toInt → i.toInt ≤ 12 → (y = 0 ∨ y = 1) → sX14_isBecome_4 F f hr (Z 15) x y i = some o → o.2 = hr ∧ (o.1 = 0 ↔ y = 0 ∧ ∀ p q : Nat, i.toInt ≤ (p : Int) → (p : Int) < (hI hr (Z 15) 2).toInt → (q : Int) < (hI hr (Z 81) p).toInt → ¬ hI hr (Z 80) (6 * p + q) = x) := by
  intro f
  induction f with
  | zero => intro y i _ _ _ e; exact absurd e (by rw [sX14_isBecome_4]; exact fun z => nomatch z)
  | succ f ih =>
    intro y i i0 i12 hy e
    rw [sX14_isBecome_4] at e
    replace e := br_s e
    rcases e with ⟨l, e⟩ | ⟨l, e⟩
    · have l := le_i l
      rw [← Option.some.inj (gd_s e).2]
      exact ⟨rfl, ⟨fun z => ⟨z, fun p q p1 p2 _ => by omega⟩, fun z => z.1⟩⟩
    have l := nle_i l
    obtain ⟨y', v, a1, a2, a3, a4⟩ := ib_15 R c6 i0 (by omega) F (show (0 : Int) ≤ (0 : Int32).toInt by decide) (by decide) hy e
    obtain ⟨b1, b2⟩ := ih (by omega) (by omega) a1 a4
    refine ⟨b1, ?_⟩
    have nx := nc_i i0
    have z0 : (0 : Int32).toInt = 0 := rfl
    rw [b2, a3]
    constructor
    · rintro ⟨⟨c1, c2⟩, c3⟩
      refine ⟨c1, fun p q p1 p2 p3 => ?_⟩
      by_cases z : (p : Int) = i.toInt
      · have zz : p = i.toNatClampNeg := by omega
        rw [zz] at p3 ⊢
        exact c2 q (by rw [z0]; omega) p3
      · exact c3 p q (by omega) p2 p3
    · rintro ⟨c1, c2⟩
      exact ⟨⟨c1, fun q _ q2 => c2 i.toNatClampNeg q (by omega) (by omega) q2⟩, fun p q p1 p2 p3 => c2 p q (by omega) p2 p3⟩
/-- risen as the class has it, is become as the reference finds it -/
theorem ib_r (P : PS T N Z hc hr) (x0 : 0 ≤ x.toInt) (x12 : x.toInt < 12) (e : sX14_isBecome F hr (Z 15) x = some o) : o.2 = hr ∧ (o.1 = 0 ↔ (((hI hc (Z 2) 12) >>> (x &&& 31)) &&& (1 : Int32)) = 0) := by
  obtain ⟨p1, p2, p3, p4, p5, s1, s2, s3, s4, s5, s6, s7, s8, s9⟩ := P
  have mm : hI hc (Z 2) 3 = hI hr (Z 15) 2 := s2 (3, 2) (by decide)
  have m12 : (hI hr (Z 15) 2).toInt ≤ 12 := by rw [← mm]; exact s4.2
  unfold sX14_isBecome at e
  obtain ⟨a1, a2⟩ := ib_4 p2 (fun i hi => by rw [← (s6 i hi).1]; exact (s6 i hi).2.1) m12 F (show (0 : Int) ≤ (0 : Int32).toInt by decide) (by decide) (Or.inl rfl) e
  refine ⟨a1, ?_⟩
  have nx := nc_i x0
  have xe : x = nI x.toNatClampNeg := Int32.toInt_inj.mp (by rw [z_toInt (by omega)]; omega)
  have bb := s7.2 x.toNatClampNeg (by omega)
  have z0 : (0 : Int32).toInt = 0 := rfl
  have b01 : ∀ y : Int32, y &&& (1 : Int32) = 0 ∨ y &&& (1 : Int32) = 1 := fun y => by
    have i := rg_and (c := 1) (d := 1) (x := y) (y := (1 : Int32)) (rg_b rfl) (by decide)
    have : (y &&& (1 : Int32)).toInt = 0 ∨ (y &&& (1 : Int32)).toInt = 1 := by have := i.1; have := i.2; omega
    exact this.imp (fun z => Int32.toInt_inj.mp z) (fun z => Int32.toInt_inj.mp z)
  rw [a2]
  unfold Bq at bb
  rw [← xe] at bb
  constructor
  · rintro ⟨_, c⟩
    rcases b01 ((hI hc (Z 2) 12) >>> (x &&& 31)) with z | z
    · exact z
    · obtain ⟨i, j, q1, q2, q3⟩ := bb.mp z
      refine absurd (Int32.toInt_inj.mp ?_) (c i j (by rw [z0]; omega) q1 q2)
      rw [q3]; omega
  · intro z
    refine ⟨rfl, fun p q _ p2 p3 y => ?_⟩
    have := bb.mpr ⟨p, q, p2, p3, by rw [y]; omega⟩
    rw [z] at this
    exact absurd this (by decide)
theorem ry_r (n12 : N ≤ 1200) (dg : ∀ j : Nat, (j : Int) < N → 0 ≤ T j ∧ T j ≤ 255) (D : ZD Z) (n2 : x2.toInt = N) (P : PB T N Z hc hr) (ea : sX2_advance F hc (Z 3) = some hc1) (e : sX2_takeRoyal F hc1 (Z 3) = some o) (e' : sX15_isRoyal F hr (Z 16) (Z 82) x2 = some o') : Out T N Z o o' := by
  unfold sX15_isRoyal sX15_isRoyal_40 at e'
  replace e' := cl_s e'
  obtain ⟨hr1, en, e'⟩ := e'
  have P1 := ps_a n12 dg D n2 P.1 P.2 ea en
  replace e' := cl_s e'
  obtain ⟨o2, e2, e'⟩ := e'
  unfold sX2_takeRoyal sX2_takeRoyal_35 at e
  replace e := cl_s e
  obtain ⟨o1, e1, e⟩ := e
  obtain ⟨q1, q2, q3, q4⟩ := tm_r n12 (ps_m P1) e1 e2
  rw [q1] at e
  rw [q2, ← q3] at e'
  replace e := br_s e
  replace e' := br_s e'
  rcases e with ⟨b, e⟩ | ⟨b, e⟩
  · rcases e' with ⟨_, e'⟩ | ⟨b', _⟩
    · rw [← Option.some.inj e, ← Option.some.inj e']; exact out_0 P1
    · exact absurd b b'
  rcases e' with ⟨b', _⟩ | ⟨_, e'⟩
  · exact absurd b' b
  have q4 := q4.resolve_left b
  have m12 := P1.2.2.2.2.2.2.2.2.1.2
  have nx := nc_i q4.1
  replace e := cl_s e
  obtain ⟨r3, e3, e⟩ := e
  have y3 : r3 = Z 2 := r_eq P1.1.2.1 e3
  rw [y3] at e
  replace e := cl_s e
  obtain ⟨o4, e4, e⟩ := e
  obtain ⟨u1, u2⟩ := bo_q P1.1 q4.1 (by omega) e4
  rw [u1] at e
  replace e' := cl_s e'
  obtain ⟨r4, e4', e'⟩ := e'
  have y4 : r4 = Z 15 := r_eq P1.2.1.1 e4'
  rw [y4] at e'
  replace e' := cl_s e'
  obtain ⟨r5, e5', e'⟩ := e'
  have y5 : r5 = Z 81 := r_eq P1.2.1.2.2.2.2.2.2.2.2.2 e5'
  rw [y5] at e'
  replace e' := (gd_s e').2
  have ce := (P1.2.2.2.2.2.2.2.2.2.2.1 o1.1.toNatClampNeg (by omega)).1
  rw [← ce] at e'
  have z0 : (0 : Int32).toInt = 0 := rfl
  replace e := br_s e
  replace e' := br_s e'
  rcases e with ⟨v, e⟩ | ⟨v, e⟩
  rotate_left
  · rcases e' with ⟨_, e'⟩ | ⟨l', _⟩
    · rw [← Option.some.inj e, ← Option.some.inj e']; exact out_0 P1
    · exact absurd (u2.mpr (nlt_i l')) v
  rcases e' with ⟨l', _⟩ | ⟨_, e'⟩
  · have l' := lt_i l'
    have := u2.mp v
    omega
  replace e := cl_s e
  obtain ⟨r6, e6, e⟩ := e
  have y6 : r6 = Z 2 := r_eq P1.1.2.1 e6
  rw [y6] at e
  replace e' := cl_s e'
  obtain ⟨r8, e8, e'⟩ := e'
  have y8 : r8 = Z 15 := r_eq P1.2.1.1 e8
  rw [y8] at e'
  replace e' := cl_s e'
  obtain ⟨o9, e9, e'⟩ := e'
  obtain ⟨t1, t2⟩ := ib_r P1 q4.1 (by omega) e9
  rw [t1] at e'
  replace e := br_s e
  replace e' := br_s e'
  rcases e with ⟨c1, e⟩ | ⟨c1, e⟩
  rotate_left
  · rcases e' with ⟨c', _⟩ | ⟨_, e'⟩
    · exact absurd (t2.mp c') c1
    · rw [← Option.some.inj e, ← Option.some.inj e']; exact out_0 P1
  rcases e' with ⟨_, e'⟩ | ⟨c', _⟩
  rotate_left
  · exact absurd (t2.mpr c1) c'
  replace e := cl_s e
  obtain ⟨r7, e7, e⟩ := e
  have y7 : r7 = Z 2 := r_eq P1.1.2.1 e7
  rw [y7] at e
  replace e := nm_s e
  obtain ⟨h9, w9, e⟩ := e
  replace e := cl_s e
  obtain ⟨o10, e10, e⟩ := e
  replace e' := cl_s e'
  obtain ⟨r11, e11, e'⟩ := e'
  have y11 : r11 = Z 15 := r_eq P1.2.1.1 e11
  rw [y11] at e'
  replace e' := nm_s e'
  obtain ⟨h12, w12, e'⟩ := e'
  replace e' := cl_s e'
  obtain ⟨o13, e13, e'⟩ := e'
  unfold sX15_goesOn at e13
  replace e13 := cl_s e13
  obtain ⟨o14, e14, e13⟩ := e13
  rw [← Option.some.inj e13] at e'
  have P9 : PB T N Z h9 h12 := by
    rw [w9, w12]
    exact pb_p (p := (4, 10)) D (by decide) (by decide) ⟨Or.inl (by decide), Or.inl (by decide), Or.inr ⟨by omega, by omega⟩, Or.inl (by decide)⟩ (Or.inr (fun q hq z => by
      have qe : q = o1.1.toNatClampNeg := by omega
      rw [qe]
      have cb := (P1.2.2.2.2.2.2.2.2.2.2.1 o1.1.toNatClampNeg (by omega)).2.1
      exact Int32.toInt_inj.mp (by rw [z0]; have := u2.mp v; have := cb.1; omega))) (ps_b P1)
  have P10 := ps_a n12 dg D n2 P9.1 P9.2 e10 e14
  rw [← Option.some.inj e, ← Option.some.inj (gd_s e').2]
  exact Or.inr ⟨i1n0, i1n0, P10⟩
end
