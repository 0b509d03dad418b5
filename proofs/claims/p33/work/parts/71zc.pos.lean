-- what putting a man and copying a position leave of their rows
theorem nar8 {x2 : Int32} (i2 : Rg (-2) 23 x2) : (vp_nar .byte x2.toInt8.toInt32) = x2 := by
  have h1 : (vp_nar .byte x2.toInt8.toInt32).toInt = x2.toInt := by
    show x2.toInt8.toInt32.toInt8.toInt32.toInt = x2.toInt
    have a1 := i2.1
    have a2 := i2.2
    have e8 : (2 ^ 8 : Nat) = 256 := by decide
    have b1 : x2.toInt8.toInt32.toInt = x2.toInt := by
      rw [Int8.toInt_toInt32, Int32.toInt_toInt8, e8]
      exact Int.bmod_eq_of_le_mul_two (by omega) (by omega)
    rw [Int8.toInt_toInt32, Int32.toInt_toInt8, b1, e8]
    exact Int.bmod_eq_of_le_mul_two (by omega) (by omega)
  exact Int32.toInt_inj.mp h1
/-- behind a put: rows, men, royal men, laws -/
def PuO (ρ : Nat → Nat) (on ra : Nat) (x2 x3 : Int32) (h o : Hp) : Prop := (∀ a i, hR o a i = hR h a i) ∧ (∀ s, hI o on s = hI h on s ∨ hI o on s = vp_nar .byte x2.toInt8.toInt32) ∧ (∀ i, hI o ra i = hI h ra i ∨ (hI o ra i).toInt < 0 ∨ (0 ≤ x2.toInt ∧ x2 >>> ((1 : Int32) &&& 31) = x3)) ∧ (∀ a i, ρ a = 2 → hI o a i = hI h a i) ∧ ∀ a i, ρ a = 36 → ¬ a = ra → hI o a i = hI h a i
theorem pu_w {ρ : Nat → Nat} {on ra : Nat} {x2 x3 : Int32} {h g o : Hp} (q1 : ∀ a i, hR g a i = hR h a i) (q2 : ∀ s, hI g on s = hI h on s) (q3 : ∀ i, hI g ra i = hI h ra i ∨ (hI g ra i).toInt < 0) (q4 : ∀ a i, ρ a = 2 → hI g a i = hI h a i) (q5 : ∀ a i, ρ a = 36 → ¬ a = ra → hI g a i = hI h a i) (P : PuO ρ on ra x2 x3 g o) : PuO ρ on ra x2 x3 h o := by
  obtain ⟨p1, p2, p3, p4, p5⟩ := P
  refine ⟨fun a i => (p1 a i).trans (q1 a i), fun s => ?_, fun i => ?_, fun a i ha => (p4 a i ha).trans (q4 a i ha), fun a i ha hn => (p5 a i ha hn).trans (q5 a i ha hn)⟩
  · rw [← q2 s]; exact p2 s
  · rcases p3 i with z | z
    · rcases q3 i with y | y
      · exact Or.inl (z.trans y)
      · exact Or.inr (Or.inl (by rw [z]; exact y))
    · exact Or.inr z
theorem pu_70 {ρ : Nat → Nat} {x0 on ra : Nat} {x1 x2 x3 : Int32} {x4 : Int64} {h o : Hp} (ro : ρ on = 34) (rra : ρ ra = 36) (eo : hR h x0 0 = some on) (er : hR h x0 2 = some ra) (e : sX3_put_70 h x0 x1 x2 x3 x4 = some o) : PuO ρ on ra x2 x3 h o := by
  unfold sX3_put_70 sX3_put_111 at e
  simp only [nm] at e
  obtain ⟨q1, w1, e⟩ := cl_s e
  have := r_eq w1 eo
  subst this
  replace e := (gd_s e).2
  have n1 : ¬ ra = on := fun z => absurd (rra.symm.trans (by rw [z, ro])) (by decide)
  have s1 : ∀ s, hI (wI h on x1.toNatClampNeg (vp_nar .byte x2.toInt8.toInt32)) on s = hI h on s ∨ hI (wI h on x1.toNatClampNeg (vp_nar .byte x2.toInt8.toInt32)) on s = vp_nar .byte x2.toInt8.toInt32 := fun s => by
    rw [r_I]
    by_cases z : s = x1.toNatClampNeg
    · rw [if_pos ⟨rfl, z⟩]; exact Or.inr rfl
    · rw [if_neg (fun y => z y.2)]; exact Or.inl rfl
  have s2 : ∀ i, hI (wI h on x1.toNatClampNeg (vp_nar .byte x2.toInt8.toInt32)) ra i = hI h ra i := fun i => by rw [r_I, if_neg (fun y => n1 y.1)]
  have s3 : ∀ a i, ρ a = 2 → hI (wI h on x1.toNatClampNeg (vp_nar .byte x2.toInt8.toInt32)) a i = hI h a i := fun a i ha => by rw [r_I, if_neg (fun y => absurd (ha.symm.trans (by rw [y.1, ro])) (by decide))]
  have s4 : ∀ a i, ρ a = 36 → ¬ a = ra → hI (wI h on x1.toNatClampNeg (vp_nar .byte x2.toInt8.toInt32)) a i = hI h a i := fun a i ha _ => by rw [r_I, if_neg (fun y => absurd (ha.symm.trans (by rw [y.1, ro])) (by decide))]
  rcases br_s e with ⟨_, e⟩ | ⟨c1, e⟩
  · have z := Option.some.inj e
    rw [← z]
    exact ⟨fun _ _ => rfl, s1, fun i => Or.inl (s2 i), s3, s4⟩
  · have c1 := nlt_i c1
    have z0 : (0 : Int32).toInt = 0 := rfl
    obtain ⟨q5, w5, e⟩ := cl_s e
    replace e := (gd_s (gd_s e).2).2
    rcases br_s e with ⟨c2, e⟩ | ⟨_, e⟩
    · obtain ⟨q10, w10, e⟩ := cl_s e
      have w10' : hR h x0 2 = some q10 := w10
      have := r_eq w10' er
      subst this
      replace e := (gd_s e).2
      have z := Option.some.inj e
      rw [← z]
      refine ⟨fun _ _ => rfl, fun s => ?_, fun i => Or.inr (Or.inr ⟨by omega, c2⟩), fun a i ha => ?_, fun a i ha hn => ?_⟩
      · show hI (wI _ ra _ _) on s = _ ∨ hI (wI _ ra _ _) on s = _
        rw [r_I, if_neg (fun y => n1 y.1.symm)]
        exact s1 s
      · show hI (wI _ ra _ _) a i = _
        rw [r_I, if_neg (fun y => absurd (ha.symm.trans (by rw [y.1, rra])) (by decide))]
        exact s3 a i ha
      · show hI (wI _ ra _ _) a i = _
        rw [r_I, if_neg (fun y => hn y.1)]
        exact s4 a i ha hn
    · have z := Option.some.inj e
      rw [← z]
      exact ⟨fun _ _ => rfl, s1, fun i => Or.inl (s2 i), s3, s4⟩
theorem pu_all {ρ : Nat → Nat} {x0 on ra : Nat} {x1 x2 x3 : Int32} {h o : Hp} (ro : ρ on = 34) (rra : ρ ra = 36) (eo : hR h x0 0 = some on) (er : hR h x0 2 = some ra) (e : sX3_put h x0 x1 x2 x3 = some o) : PuO ρ on ra x2 x3 h o := by
  unfold sX3_put sX3_put_10 at e
  simp only [nm] at e
  have n1 : ¬ on = ra := fun z => absurd (ro.symm.trans (by rw [z, rra])) (by decide)
  have id0 : ∀ {o : Hp}, some h = some o → PuO ρ on ra x2 x3 h o := fun z => by
    rw [← Option.some.inj z]
    exact ⟨fun _ _ => rfl, fun _ => Or.inl rfl, fun _ => Or.inl rfl, fun _ _ _ => rfl, fun _ _ _ _ => rfl⟩
  rcases br_s e with ⟨_, e⟩ | ⟨_, e⟩
  · exact id0 e
  rcases br_s e with ⟨_, e⟩ | ⟨_, e⟩
  · obtain ⟨q4, w4, e⟩ := cl_s e
    replace e := (gd_s e).2
    rcases br_s e with ⟨_, e⟩ | ⟨_, e⟩
    · exact pu_70 ro rra eo er e
    · obtain ⟨q8, w8, e⟩ := cl_s e
      replace e := (gd_s (gd_s e).2).2
      obtain ⟨q12, w12, e⟩ := cl_s e
      have w12' : hR h x0 2 = some q12 := w12
      have := r_eq w12' er
      subst this
      replace e := (gd_s e).2
      rcases br_s e with ⟨_, e⟩ | ⟨_, e⟩
      · obtain ⟨q15, w15, e⟩ := cl_s e
        have w15' : hR h x0 2 = some q15 := w15
        have := r_eq w15' er
        subst this
        replace e := (gd_s e).2
        refine pu_w ?_ ?_ ?_ ?_ ?_ (pu_70 (h := wI (wJ h q8 _ _) ra _ (-1 : Int32)) ro rra eo er e)
        · intro a i; rfl
        · intro s
          rw [r_I, if_neg (fun y => n1 y.1)]
          rfl
        · intro i
          rw [r_I]
          by_cases z : ra = ra ∧ i = (hI h q4 x1.toNatClampNeg &&& 1).toNatClampNeg
          · rw [if_pos z]; exact Or.inr (by decide)
          · rw [if_neg z]; exact Or.inl rfl
        · intro a i ha
          rw [r_I, if_neg (fun y => absurd (ha.symm.trans (by rw [y.1, rra])) (by decide))]
          rfl
        · intro a i ha hn
          rw [r_I, if_neg (fun y => hn y.1)]
          rfl
      · exact pu_w (fun _ _ => rfl) (fun _ => rfl) (fun _ => Or.inl rfl) (fun _ _ _ => rfl) (fun _ _ _ _ => rfl) (pu_70 (h := wJ h q8 _ _) ro rra eo er e)
  · exact id0 e
theorem sh1 {x : Int32} (i : Rg 0 23 x) : 0 ≤ (x >>> ((1 : Int32) &&& 31)).toInt := (small (P := fun x => Rg 0 11 (x >>> ((1 : Int32) &&& 31))) (n := 23) i (by decide) (fun j => rg_b (by revert j; decide +kernel))).1
theorem ry_put {ρ : Nat → Nat} {c : Cm} {h o : Hp} {x0 L : Nat} {x1 x2 : Int32} (T : TH ρ c h) (r0 : ρ x0 = 4) (rL : ρ L = 2) (wL : cw c L = 2102) (i2 : Rg (-2) 23 x2) (e : sX3_put h x0 x1 x2 (hI h L 4) = some o) (P : RyP ρ c x0 h) : RyP ρ c x0 o := by
  obtain ⟨on, eo, ro⟩ := thR T r0 (i := 0) (k2 := 34) rfl (by decide)
  obtain ⟨ra, er, rra⟩ := thR T r0 (i := 2) (k2 := 36) rfl (by decide)
  obtain ⟨p1, p2, p3, p4, p5⟩ := pu_all ro rra eo er e
  intro ra' er' i hi n L' rL' wL'
  rw [p1, er] at er'
  have := Option.some.inj er'
  subst this
  rw [p4 L' 4 rL']
  rcases p3 i with z | z | ⟨z1, z2⟩
  · rw [z] at n
    exact P ra er i hi n L' rL' wL'
  · omega
  · have : L' = L := T.1.2.2.2.2.2.2.2.2 L' L (by rw [rL', rL]) (Or.inr ⟨Or.inr rL', by rw [wL', wL]⟩)
    rw [this, ← z2]
    exact sh1 ⟨z1, i2.2⟩
/-- no man but those of the law, and no man -/
def NoM (x0 : Nat) (h : Hp) : Prop := ∀ on, hR h x0 0 = some on → ∀ s, s < 64 → -1 ≤ (hI h on s).toInt
theorem nm_put {ρ : Nat → Nat} {c : Cm} {h o : Hp} {x0 : Nat} {x1 x2 x3 : Int32} (T : TH ρ c h) (r0 : ρ x0 = 4) (i2 : Rg (-1) 23 x2) (e : sX3_put h x0 x1 x2 x3 = some o) (P : NoM x0 h) : NoM x0 o := by
  obtain ⟨on, eo, ro⟩ := thR T r0 (i := 0) (k2 := 34) rfl (by decide)
  obtain ⟨ra, er, rra⟩ := thR T r0 (i := 2) (k2 := 36) rfl (by decide)
  obtain ⟨p1, p2, p3, p4, p5⟩ := pu_all ro rra eo er e
  intro on' eo' s hs
  rw [p1, eo] at eo'
  have := Option.some.inj eo'
  subst this
  rcases p2 s with z | z
  · rw [z]; exact P on eo s hs
  · rw [z, nar8 (rg_m i2 (by decide))]; exact i2.1
theorem nm_fr {ρ : Nat → Nat} {c : Cm} {h h2 : Hp} {S : Nat → Nat → Nat → Bool} {x0 : Nat} (T : TH ρ c h) (r0 : ρ x0 = 4) (f : Fr ρ (cat c S h) h h2) (s1 : S 4 (cw c x0) 0 = false) (s2 : ∀ i, S 34 (cw c x0) i = false) (P : NoM x0 h) : NoM x0 h2 := fun on e s hs => by
  rw [(f.1 x0 0 (by rw [r0]; decide) (by rw [r0]; exact s1)).2.2] at e
  have q := th_on T r0 e
  rw [(f.1 on s (by rw [q]; decide) (by rw [q]; show S 34 (cw c on) s = false; rw [th_ih T r0 rfl e rfl]; exact s2 s)).1]
  exact P on e s hs
-- copying
theorem cf_17 {ρ : Nat → Nat} {F x0 x1 a0 a1 : Nat} {h0 : Hp} (r0 : ρ x0 = 4) (ra0 : ρ a0 = 36) (ra1 : ρ a1 = 36) (k4 : ∀ p r, ρ p = 4 → hR h0 p 4 = some r → ρ r = 38) (r1 : ρ x1 = 4) : ∀ (f : Nat) {h o : Hp} {x2 : Int32}, (∀ a i, hR h a i = hR h0 a i) → hR h0 x0 2 = some a0 → hR h0 x1 2 = some a1 → (∀ j, hI h a1 j = hI h0 a1 j) → (∀ j : Nat, (j : Int) < x2.toInt → hI h a0 j = hI h0 a1 j) → (∀ a i, ρ a = 2 ∨ (ρ a = 36 ∧ ¬ a = a0) → hI h a i = hI h0 a i) → 0 ≤ x2.toInt → x2.toInt ≤ 2 → sX3_copyFrom_17 F f h x0 x1 x2 = some o → (∀ a i, hR o a i = hR h0 a i) ∧ (∀ j : Nat, j < 2 → hI o a0 j = hI h0 a1 j) ∧ ∀ a i, ρ a = 2 ∨ (ρ a = 36 ∧ ¬ a = a0) → hI o a i = hI h0 a i := by
  intro f
  induction f with
  | zero => intro h o x2 _ _ _ _ _ _ _ _ e; exact absurd e (by rw [sX3_copyFrom_17]; exact fun z => nomatch z)
  | succ f ih =>
    intro h o x2 A e0 e1 B C D l0 l2 e
    rw [sX3_copyFrom_17] at e
    simp only [nm] at e
    rcases br_s e with ⟨c1, e⟩ | ⟨c1, e⟩
    · have c1 := le_i c1
      have t2 : (2 : Int32).toInt = 2 := rfl
      have z := Option.some.inj e
      rw [← z]
      have n0 : ∀ {a k : Nat}, ρ a = k → k ≠ 4 → ∀ {P : Prop}, ¬ (a = x0 ∧ P) := fun ha hk _ y => hk (by rw [← ha, y.1, r0])
      refine ⟨A, fun j hj => ?_, fun a i ha => ?_⟩
      · show hI (wI (wI h x0 5 _) x0 6 _) a0 j = _
        rw [r_I, if_neg (n0 ra0 (by decide)), r_I, if_neg (n0 ra0 (by decide))]
        exact C j (by omega)
      · show hI (wI (wI h x0 5 _) x0 6 _) a i = _
        have m4 : ∀ {P : Prop}, ¬ (a = x0 ∧ P) := fun {P} => ha.elim (fun z => n0 z (by decide)) (fun z => n0 z.1 (by decide))
        rw [r_I, if_neg m4, r_I, if_neg m4]
        exact D a i ha
    · have c1 := nle_i c1
      have t2 : (2 : Int32).toInt = 2 := rfl
      obtain ⟨q7, w7, e⟩ := cl_s e
      obtain ⟨q8, w8, e⟩ := cl_s e
      replace e := (gd_s (gd_s e).2).2
      obtain ⟨q12, w12, e⟩ := cl_s e
      obtain ⟨q13, w13, e⟩ := cl_s e
      replace w12 : hR h x0 2 = some q12 := w12
      replace w13 : hR h x1 2 = some q13 := w13
      rw [A, e0] at w12
      rw [A, e1] at w13
      have z12 := Option.some.inj w12
      have z13 := Option.some.inj w13
      subst z12
      subst z13
      replace e := (gd_s (gd_s e).2).2
      obtain ⟨q17, w17, e⟩ := cl_s e
      obtain ⟨q18, w18, e⟩ := cl_s e
      replace e := (gd_s (gd_s e).2).2
      obtain ⟨q22, w22, e⟩ := cl_s e
      obtain ⟨q23, w23, e⟩ := cl_s e
      replace e := (gd_s (gd_s e).2).2
      have r22 : ρ q22 = 38 := by
        replace w22 : hR h x0 4 = some q22 := w22
        rw [A] at w22
        exact k4 x0 q22 r0 w22
      have n22 : ∀ {a k : Nat}, ρ a = k → k ≠ 38 → ∀ {P : Prop}, ¬ (a = q22 ∧ P) := fun ha hk _ y => hk (by rw [← ha, y.1, r22])
      have c2 := clamp_i l0
      have ev : (x2 + (1 : Int32)).toInt = x2.toInt + 1 := by
        have t1 : (1 : Int32).toInt = 1 := rfl
        rw [ta (by omega), t1]
      refine ih ?_ e0 e1 (fun j => ?_) (fun j hj => ?_) (fun a i ha => ?_) ?_ ?_ e
      · exact A
      · show hI (wI (wJ (wI (wJ h q7 _ _) a0 _ _) q17 _ _) q22 _ _) a1 j = _
        rw [r_I, if_neg (n22 ra1 (by decide))]
        show hI (wI (wJ h q7 _ _) a0 _ _) a1 j = _
        rw [r_I]
        by_cases z : a1 = a0 ∧ j = x2.toNatClampNeg
        · rw [if_pos z, z.2]; exact B _
        · rw [if_neg z]; exact B j
      · show hI (wI (wJ (wI (wJ h q7 _ _) a0 _ _) q17 _ _) q22 _ _) a0 j = _
        rw [r_I, if_neg (n22 ra0 (by decide))]
        show hI (wI (wJ h q7 _ _) a0 _ _) a0 j = _
        rw [r_I]
        by_cases z : j = x2.toNatClampNeg
        · rw [if_pos ⟨rfl, z⟩, z]; exact B _
        · rw [if_neg (fun y => z y.2)]; exact C j (by omega)
      · show hI (wI (wJ (wI (wJ h q7 _ _) a0 _ _) q17 _ _) q22 _ _) a i = _
        have m38 : ∀ {P : Prop}, ¬ (a = q22 ∧ P) := fun {P} => ha.elim (fun z => n22 z (by decide)) (fun z => n22 z.1 (by decide))
        rw [r_I, if_neg m38]
        show hI (wI (wJ h q7 _ _) a0 _ _) a i = _
        rw [r_I, if_neg (fun y => ha.elim (fun z => absurd (z.symm.trans (by rw [y.1, ra0])) (by decide)) (fun z => z.2 y.1))]
        exact D a i ha
      · omega
      · omega
theorem cf_all {ρ : Nat → Nat} {c : Cm} {F : Nat} {h o : Hp} {x0 x1 a0 a1 : Nat} (T : TH ρ c h) (r0 : ρ x0 = 4) (r1 : ρ x1 = 4) (e0 : hR h x0 2 = some a0) (e1 : hR h x1 2 = some a1) (e : sX3_copyFrom F h x0 x1 = some o) : (∀ a i, hR o a i = hR h a i) ∧ (∀ j : Nat, j < 2 → hI o a0 j = hI h a1 j) ∧ ∀ a i, ρ a = 2 ∨ (ρ a = 36 ∧ ¬ a = a0) → hI o a i = hI h a i := by
  have ra0 : ρ a0 = 36 := rr T (thR T r0 (i := 2) (k2 := 36) rfl (by decide)) e0
  have ra1 : ρ a1 = 36 := rr T (thR T r1 (i := 2) (k2 := 36) rfl (by decide)) e1
  unfold sX3_copyFrom at e
  simp only [nm] at e
  obtain ⟨q1, w1, e⟩ := cl_s e
  obtain ⟨q2, w2, e⟩ := cl_s e
  have r2 := th_on T r0 w2
  iterate 6 replace e := (gd_s e).2
  have nn : ∀ {a k : Nat}, ρ a = k → k ≠ 34 → ∀ {P : Prop}, ¬ (a = q2 ∧ P) := fun ha hk _ y => hk (by rw [← ha, y.1, r2])
  refine cf_17 r0 ra0 ra1 (fun p r hp hr => rr T (thR T hp (i := 4) (k2 := 38) rfl (by decide)) hr) r1 F ?_ e0 e1 (fun j => ?_) (fun j hj => ?_) (fun a i ha => ?_) ?_ ?_ e
  · exact fun _ _ => rfl
  · rw [cp_at, if_neg (nn ra1 (by decide))]
  · exact absurd hj (by show ¬ (j : Int) < 0; omega)
  · have m34 : ∀ {P : Prop}, ¬ (a = q2 ∧ P) := fun {P} => ha.elim (fun z => nn z (by decide)) (fun z => nn z.1 (by decide))
    rw [cp_at, if_neg m34]
  · decide
  · decide
theorem ry_copy {ρ : Nat → Nat} {c : Cm} {F : Nat} {h o : Hp} {x0 x1 : Nat} (T : TH ρ c h) (r0 : ρ x0 = 4) (r1 : ρ x1 = 4) (e : sX3_copyFrom F h x0 x1 = some o) (P : RyP ρ c x1 h) : RyP ρ c x0 o := by
  obtain ⟨a0, e0, ra0⟩ := thR T r0 (i := 2) (k2 := 36) rfl (by decide)
  obtain ⟨a1, e1, ra1⟩ := thR T r1 (i := 2) (k2 := 36) rfl (by decide)
  obtain ⟨p1, p2, p3⟩ := cf_all T r0 r1 e0 e1 e
  intro ra er i hi n L rL wL
  rw [p1, e0] at er
  rw [← Option.some.inj er, p2 i hi] at n
  rw [p3 L 4 (Or.inl rL)]
  exact P a1 e1 i hi n L rL wL
theorem ry_copyo {ρ : Nat → Nat} {c : Cm} {F : Nat} {h o : Hp} {x0 x1 b : Nat} (T : TH ρ c h) (r0 : ρ x0 = 4) (r1 : ρ x1 = 4) (rb : ρ b = 4) (nb : ¬ b = x0) (e : sX3_copyFrom F h x0 x1 = some o) (P : RyP ρ c b h) : RyP ρ c b o := by
  obtain ⟨a0, e0, ra0⟩ := thR T r0 (i := 2) (k2 := 36) rfl (by decide)
  obtain ⟨a1, e1, ra1⟩ := thR T r1 (i := 2) (k2 := 36) rfl (by decide)
  obtain ⟨p1, p2, p3⟩ := cf_all T r0 r1 e0 e1 e
  intro ra er i hi n L rL wL
  rw [p1] at er
  have rra : ρ ra = 36 := rr T (thR T rb (i := 2) (k2 := 36) rfl (by decide)) er
  have na : ¬ ra = a0 := fun z => nb (T.1.2.2.2.2.2.2.1.1 b x0 2 a0 (by decide) rb r0 (by rw [← z]; exact er) e0)
  rw [p3 ra i (Or.inr ⟨rra, na⟩)] at n
  rw [p3 L 4 (Or.inl rL)]
  exact P ra er i hi n L rL wL
/-- no position comes to a royal man that was not told -/
def RyC (ρ : Nat → Nat) (c : Cm) (g0 h : Hp) : Prop := ∀ b, ρ b = 4 → RyP ρ c b g0 → RyP ρ c b h
theorem rc_fr {ρ : Nat → Nat} {c : Cm} {g0 h h2 : Hp} {S : Nat → Nat → Nat → Bool} (T : TH ρ c h) (f : Fr ρ (cat c S h) h h2) (s1 : ∀ w, S 4 w 2 = false) (s2 : ∀ w i, S 36 w i = false) (s3 : ∀ w, S 2 w 4 = false) (P : RyC ρ c g0 h) : RyC ρ c g0 h2 := fun b rb z => ry_fr T rb f (s1 _) (fun i => s2 _ i) s3 (P b rb z)
theorem rc_put {ρ : Nat → Nat} {c : Cm} {h o : Hp} {x0 L : Nat} {x1 x2 : Int32} (T : TH ρ c h) (r0 : ρ x0 = 4) (rL : ρ L = 2) (wL : cw c L = 2102) (i2 : Rg (-2) 23 x2) (e : sX3_put h x0 x1 x2 (hI h L 4) = some o) : RyC ρ c h o := fun b rb P => by
  by_cases q : b = x0
  · rw [q] at P ⊢
    exact ry_put T r0 rL wL i2 e P
  · obtain ⟨on, eo, ro⟩ := thR T r0 (i := 0) (k2 := 34) rfl (by decide)
    obtain ⟨ra, er, rra⟩ := thR T r0 (i := 2) (k2 := 36) rfl (by decide)
    obtain ⟨p1, p2, p3, p4, p5⟩ := pu_all ro rra eo er e
    intro rb' eb' i hi n L' rL' wL'
    rw [p1] at eb'
    have rrb : ρ rb' = 36 := rr T (thR T rb (i := 2) (k2 := 36) rfl (by decide)) eb'
    have na : ¬ rb' = ra := fun z => q (T.1.2.2.2.2.2.2.1.1 b x0 2 ra (by decide) rb r0 (by rw [← z]; exact eb') er)
    rw [p5 rb' i rrb na] at n
    rw [p4 L' 4 rL']
    exact P rb' eb' i hi n L' rL' wL'
theorem rc_t {ρ : Nat → Nat} {c : Cm} {g0 h o : Hp} (P : RyC ρ c g0 h) (Q : RyC ρ c h o) : RyC ρ c g0 o := fun b rb z => Q b rb (P b rb z)
theorem rc_0 {ρ : Nat → Nat} {c : Cm} {h : Hp} : RyC ρ c h h := fun _ _ z => z
theorem pl_rc {ρ : Nat → Nat} {c : Cm} {h h2 : Hp} {S : Nat → Nat → Nat → Bool} {x0 : Nat} (T : TH ρ c h) (r0 : ρ x0 = 12) (f : Fr ρ (cat c S h) h h2) (s1 : ∀ w, S 12 w 13 = false) (s2 : ∀ w, S 12 w 14 = false) (s3 : ∀ w i, S 57 w i = false) (s4 : ∀ w i, S 58 w i = false) (Q : RyC ρ c h h2) (P : PlP ρ c x0 h) : PlP ρ c x0 h2 := fun r u er eu i hi n b eb => by
  rw [(fr_RI f r0 (by decide) s1).2.2] at er
  rw [(fr_RI f r0 (by decide) s2).2.2] at eu
  have rr' := rr T (thR T r0 (i := 13) (k2 := 57) rfl (by decide)) er
  have ru := rr T (thR T r0 (i := 14) (k2 := 58) rfl (by decide)) eu
  rw [(fr_RI f rr' (by decide) (fun w => s3 w i)).2.2] at eb
  rw [(fr_RI f ru (by decide) (fun w => s4 w i)).1] at n
  exact Q b (pl_b T rr' hi eb) (P r u er eu i hi n b eb)
-- clearing
theorem fB {F r : Nat} {v : Int32} {n : Nat} (hn : n < 2 ^ 31) : ∀ (f : Nat) {h o : Hp} {x2 : Int32}, 0 ≤ x2.toInt → sJ7_fill_031fb_5 F f h r v x2 (nI n) = some o → ((∀ a i, hR o a i = hR h a i) ∧ ∀ a, hN o a = hN h a) ∧ (∀ a i, ¬ a = r → hI o a i = hI h a i) ∧ (∀ s : Nat, (s : Int) < x2.toInt → hI o r s = hI h r s) ∧ ∀ s : Nat, x2.toInt ≤ s → s < n → hI o r s = vp_nar .byte v := by
  intro f
  induction f with
  | zero => intro h o x2 _ e; exact absurd e (by rw [sJ7_fill_031fb_5]; exact fun z => nomatch z)
  | succ f ih =>
    intro h o x2 l0 e
    rw [sJ7_fill_031fb_5] at e
    simp only [nm] at e
    rcases br_s e with ⟨c1, e⟩ | ⟨c1, e⟩
    · have c1 := le_i c1
      rw [z_toInt hn] at c1
      rw [← Option.some.inj e]
      exact ⟨⟨fun _ _ => rfl, fun _ => rfl⟩, fun _ _ _ => rfl, fun _ _ => rfl, fun s h1 h2 => by omega⟩
    · have c1 := nle_i c1
      rw [z_toInt hn] at c1
      replace e := (gd_s e).2
      have t1 : (1 : Int32).toInt = 1 := rfl
      have ev : (x2 + (1 : Int32)).toInt = x2.toInt + 1 := by rw [ta (by omega), t1]
      have ec := clamp_i l0
      obtain ⟨p1, p2, p3, p4⟩ := ih (by omega) e
      refine ⟨p1, fun a i ha => ?_, fun s hs => ?_, fun s h1 h2 => ?_⟩
      · rw [p2 a i ha, r_I, if_neg (fun y => ha y.1)]
      · rw [p3 s (by omega), r_I, if_neg (fun y => by have := y.2; omega)]
      · by_cases z : s = x2.toNatClampNeg
        · rw [p3 s (by omega), r_I, if_pos ⟨rfl, z⟩]
        · exact p4 s (by omega) h2
theorem fI {F r : Nat} {v : Int32} {n : Nat} (hn : n < 2 ^ 31) : ∀ (f : Nat) {h o : Hp} {x2 : Int32}, 0 ≤ x2.toInt → sJ7_fill_53178_5 F f h r v x2 (nI n) = some o → ((∀ a i, hR o a i = hR h a i) ∧ ∀ a, hN o a = hN h a) ∧ (∀ a i, ¬ a = r → hI o a i = hI h a i) ∧ (∀ s : Nat, (s : Int) < x2.toInt → hI o r s = hI h r s) ∧ ∀ s : Nat, x2.toInt ≤ s → s < n → hI o r s = v := by
  intro f
  induction f with
  | zero => intro h o x2 _ e; exact absurd e (by rw [sJ7_fill_53178_5]; exact fun z => nomatch z)
  | succ f ih =>
    intro h o x2 l0 e
    rw [sJ7_fill_53178_5] at e
    simp only [nm] at e
    rcases br_s e with ⟨c1, e⟩ | ⟨c1, e⟩
    · have c1 := le_i c1
      rw [z_toInt hn] at c1
      rw [← Option.some.inj e]
      exact ⟨⟨fun _ _ => rfl, fun _ => rfl⟩, fun _ _ _ => rfl, fun _ _ => rfl, fun s h1 h2 => by omega⟩
    · have c1 := nle_i c1
      rw [z_toInt hn] at c1
      replace e := (gd_s e).2
      have t1 : (1 : Int32).toInt = 1 := rfl
      have ev : (x2 + (1 : Int32)).toInt = x2.toInt + 1 := by rw [ta (by omega), t1]
      have ec := clamp_i l0
      obtain ⟨p1, p2, p3, p4⟩ := ih (by omega) e
      refine ⟨p1, fun a i ha => ?_, fun s hs => ?_, fun s h1 h2 => ?_⟩
      · rw [p2 a i ha, r_I, if_neg (fun y => ha y.1)]
      · rw [p3 s (by omega), r_I, if_neg (fun y => by have := y.2; omega)]
      · by_cases z : s = x2.toNatClampNeg
        · rw [p3 s (by omega), r_I, if_pos ⟨rfl, z⟩]
        · exact p4 s (by omega) h2
theorem fI_o {F r : Nat} {v x3 : Int32} : ∀ (f : Nat) {h o : Hp} {x2 : Int32}, sJ7_fill_53178_5 F f h r v x2 x3 = some o → ∀ a i, ¬ a = r → hI o a i = hI h a i := by
  intro f
  induction f with
  | zero => intro h o x2 e; exact absurd e (by rw [sJ7_fill_53178_5]; exact fun z => nomatch z)
  | succ f ih =>
    intro h o x2 e a i n
    rw [sJ7_fill_53178_5] at e
    simp only [nm] at e
    rcases br_s e with ⟨c1, e⟩ | ⟨c1, e⟩
    · rw [← Option.some.inj e]
    · rw [ih (gd_s e).2 a i n, r_I, if_neg (fun y => n y.1)]
theorem fI_r {F r : Nat} {v x3 : Int32} : ∀ (f : Nat) {h o : Hp} {x2 : Int32}, sJ7_fill_53178_5 F f h r v x2 x3 = some o → ∀ a i, hR o a i = hR h a i := by
  intro f
  induction f with
  | zero => intro h o x2 e; exact absurd e (by rw [sJ7_fill_53178_5]; exact fun z => nomatch z)
  | succ f ih =>
    intro h o x2 e a i
    rw [sJ7_fill_53178_5] at e
    simp only [nm] at e
    rcases br_s e with ⟨c1, e⟩ | ⟨c1, e⟩
    · rw [← Option.some.inj e]
    · exact ih (gd_s e).2 a i
theorem fJ {F r : Nat} {v : Int64} {x4 : Int32} : ∀ (f : Nat) {h o : Hp} {x3 : Int32}, sJ7_fill_d0a16_6 F f h r v x3 x4 = some o → ((∀ a i, hR o a i = hR h a i) ∧ ∀ a, hN o a = hN h a) ∧ ∀ a i, hI o a i = hI h a i := by
  intro f
  induction f with
  | zero => intro h o x3 e; exact absurd e (by rw [sJ7_fill_d0a16_6]; exact fun z => nomatch z)
  | succ f ih =>
    intro h o x3 e
    rw [sJ7_fill_d0a16_6] at e
    simp only [nm] at e
    rcases br_s e with ⟨c1, e⟩ | ⟨c1, e⟩
    · rw [← Option.some.inj e]
      exact ⟨⟨fun _ _ => rfl, fun _ => rfl⟩, fun _ _ => rfl⟩
    · replace e := (gd_s e).2
      have z := ih e
      exact z
/-- behind a clear -/
theorem cl_all {ρ : Nat → Nat} {c : Cm} {F : Nat} {h o : Hp} {x0 on ra : Nat} (T : TH ρ c h) (r0 : ρ x0 = 4) (eo : hR h x0 0 = some on) (er : hR h x0 2 = some ra) (e : sX3_clear F h x0 = some o) : (∀ a i, hR o a i = hR h a i) ∧ (∀ s, s < 64 → hI o on s = (-1 : Int32)) ∧ (∀ i, i < 2 → hI o ra i = (-1 : Int32)) ∧ ∀ a i, ρ a = 2 ∨ (ρ a = 36 ∧ ¬ a = ra) → hI o a i = hI h a i := by
  have ro := th_on T r0 eo
  have rra : ρ ra = 36 := rr T (thR T r0 (i := 2) (k2 := 36) rfl (by decide)) er
  have z0 : (0 : Int32).toInt = 0 := rfl
  unfold sX3_clear sX3_strip sJ7_fill_031fb sJ7_fill_d0a16 sJ7_fill_53178 at e
  simp only [nm] at e
  obtain ⟨q1, w1, e⟩ := cl_s e
  rw [eo] at w1
  have z1 := Option.some.inj w1
  subst z1
  obtain ⟨o2, e2, e⟩ := cl_s e
  rw [thN T ro (k := 34) (n := 64) rfl (by decide)] at e2
  obtain ⟨a1, a2, _, a4⟩ := fB (by decide) F (by decide) e2
  obtain ⟨q3, w3, e⟩ := cl_s e
  obtain ⟨o4, e4, e⟩ := cl_s e
  obtain ⟨b1, b2⟩ := fJ F e4
  obtain ⟨q5, w5, e⟩ := cl_s e
  rw [b1.1, a1.1, er] at w5
  have z5 := Option.some.inj w5
  subst z5
  obtain ⟨o6, e6, e⟩ := cl_s e
  rw [b1.2, a1.2, thN T rra (k := 36) (n := 2) rfl (by decide)] at e6
  obtain ⟨d1, d2, _, d4⟩ := fI (by decide) F (by decide) e6
  obtain ⟨o8, e8, e⟩ := cl_s e
  obtain ⟨q9, w9, e8⟩ := cl_s e8
  obtain ⟨o10, e10, e8⟩ := cl_s e8
  obtain ⟨g1, g2⟩ := fJ F e10
  obtain ⟨q11, w11, e8⟩ := cl_s e8
  obtain ⟨o12, e12, e8⟩ := cl_s e8
  have r11 : ρ q11 = 38 := by
    rw [g1.1] at w11
    have w : hR o6 x0 4 = some q11 := w11
    rw [d1.1, b1.1, a1.1] at w
    exact rr T (thR T r0 (i := 4) (k2 := 38) rfl (by decide)) w
  have k12 : ∀ {a k : Nat}, ρ a = k → k ≠ 38 → (∀ i, hI o12 a i = hI o10 a i) := fun {a k} ha hk i => by
    have n : ¬ a = q11 := fun z => hk (by rw [← ha, z, r11])
    exact fI_o F e12 a i n
  have k12R : ∀ a i, hR o12 a i = hR o10 a i := fun a i => fI_r F e12 a i
  have z8 := Option.some.inj e8
  have z := Option.some.inj e
  rw [← z, ← z8]
  have n0 : ∀ {a k : Nat}, ρ a = k → k ≠ 4 → ∀ {P : Prop}, ¬ (a = x0 ∧ P) := fun ha hk _ y => hk (by rw [← ha, y.1, r0])
  have fin : ∀ {a k : Nat}, ρ a = k → k ≠ 38 → k ≠ 4 → ∀ i, hI (wI o12 x0 6 (0 : Int32)) a i = hI o6 a i := fun {a k} ha h1 h2 i => by
    rw [r_I, if_neg (n0 ha h2), k12 ha h1 i, g2]
    show hI (wI o6 x0 5 (0 : Int32)) a i = _
    rw [r_I, if_neg (n0 ha h2)]
  refine ⟨fun a i => ?_, fun s hs => ?_, fun i hi => ?_, fun a i ha => ?_⟩
  · show hR o12 a i = _
    rw [k12R, g1.1]
    show hR o6 a i = _
    rw [d1.1, b1.1, a1.1]
  · rw [fin ro (by decide) (by decide), d2 on s (fun y => absurd (ro.symm.trans (by rw [y, rra])) (by decide)), b2]
    have := a4 s (by rw [z0]; omega) hs
    rw [this]; decide
  · rw [fin rra (by decide) (by decide)]
    exact d4 i (by rw [z0]; omega) hi
  · rcases ha with w | ⟨w, n⟩
    · rw [fin w (by decide) (by decide), d2 a i (fun y => absurd (w.symm.trans (by rw [y, rra])) (by decide)), b2, a2 a i (fun y => absurd (w.symm.trans (by rw [y, ro])) (by decide))]
    · rw [fin w (by decide) (by decide), d2 a i n, b2, a2 a i (fun y => absurd (w.symm.trans (by rw [y, ro])) (by decide))]
theorem rc_clear {ρ : Nat → Nat} {c : Cm} {F : Nat} {h o : Hp} {x0 : Nat} (T : TH ρ c h) (r0 : ρ x0 = 4) (e : sX3_clear F h x0 = some o) : RyP ρ c x0 o ∧ RyC ρ c h o ∧ NoM x0 o := by
  obtain ⟨on, eo, ro⟩ := thR T r0 (i := 0) (k2 := 34) rfl (by decide)
  obtain ⟨ra, er, rra⟩ := thR T r0 (i := 2) (k2 := 36) rfl (by decide)
  obtain ⟨p1, p2, p3, p4⟩ := cl_all T r0 eo er e
  have A : RyP ρ c x0 o := fun ra' er' i hi n => by
    rw [p1, er] at er'
    rw [← Option.some.inj er', p3 i hi] at n
    exact absurd n (by decide)
  refine ⟨A, fun b rb P => ?_, fun on' eo' s hs => ?_⟩
  · by_cases q : b = x0
    · rw [q]; exact A
    · intro rb' eb' i hi n L' rL' wL'
      rw [p1] at eb'
      have rrb : ρ rb' = 36 := rr T (thR T rb (i := 2) (k2 := 36) rfl (by decide)) eb'
      have na : ¬ rb' = ra := fun z => q (T.1.2.2.2.2.2.2.1.1 b x0 2 ra (by decide) rb r0 (by rw [← z]; exact eb') er)
      rw [p4 rb' i (Or.inr ⟨rrb, na⟩)] at n
      rw [p4 L' 4 (Or.inl rL')]
      exact P rb' eb' i hi n L' rL' wL'
  · rw [p1, eo] at eo'
    rw [← Option.some.inj eo', p2 s hs]
    decide
/-- no PASS is told, or no man below -1 -/
def NoP (x0 : Nat) (h : Hp) : Prop := lg_cmp (hJ h x0 9) (0 : Int64) = 0 ∨ NoM x0 h
theorem np_fr {ρ : Nat → Nat} {c : Cm} {h h2 : Hp} {S : Nat → Nat → Nat → Bool} {x0 : Nat} (T : TH ρ c h) (r0 : ρ x0 = 4) (f : Fr ρ (cat c S h) h h2) (s0 : S 4 (cw c x0) 9 = false) (s1 : S 4 (cw c x0) 0 = false) (s2 : ∀ i, S 34 (cw c x0) i = false) (P : NoP x0 h) : NoP x0 h2 := by
  rcases P with P | P
  · refine Or.inl ?_
    rw [(f.1 x0 9 (by rw [r0]; decide) (by rw [r0]; exact s0)).2.1]
    exact P
  · exact Or.inr (nm_fr T r0 f s1 s2 P)
/-- the board that is tried: no PASS, royal men told -/
def BkP (ρ : Nat → Nat) (c : Cm) (x0 : Nat) (h : Hp) : Prop := ∀ b, hR h x0 4 = some b → lg_cmp (hJ h b 9) (0 : Int64) = 0 ∧ RyP ρ c b h
theorem bk_fr {ρ : Nat → Nat} {c : Cm} {h h2 : Hp} {S : Nat → Nat → Nat → Bool} {x0 : Nat} (T : TH ρ c h) (r0 : ρ x0 = 7) (f : Fr ρ (cat c S h) h h2) (s0 : ∀ w, S 7 w 4 = false) (s1 : S 4 1604 9 = false) (s2 : S 4 1604 2 = false) (s3 : ∀ i, S 36 1604 i = false) (s4 : ∀ w, S 2 w 4 = false) (P : BkP ρ c x0 h) : BkP ρ c x0 h2 := fun b e => by
  rw [(fr_RI f r0 (by decide) s0).2.2] at e
  have rb : ρ b = 4 := rr T (thR T r0 (i := 4) (k2 := 4) rfl (by decide)) e
  have wb : cw c b = 1604 := kid_w T r0 (i := 4) rfl (by decide) e
  refine ⟨?_, ry_fr T rb f (by rw [wb]; exact s2) (fun j => by rw [wb]; exact s3 j) s4 (P b e).2⟩
  rw [(f.1 b 9 (by rw [rb]; decide) (by rw [rb]; show S 4 (cw c b) 9 = false; rw [wb]; exact s1)).2.1]
  exact (P b e).1
/-- a man stands there on the board that is guessed -/
def GsM (x0 : Nat) (x1 : Int32) (h : Hp) : Prop := ∀ b m, hR h x0 45 = some b → hR h b 0 = some m → 1 ≤ (hI h m x1.toNatClampNeg).toInt
/-- the length of a text that is kept -/
def TxL (x0 : Nat) (x1 : Int32) (h : Hp) : Prop := ∀ r, hR h x0 41 = some r → (hI h r ((96 : Int32) * x1).toNatClampNeg).toInt ≤ 95
theorem gm_fr2 {ρ : Nat → Nat} {c : Cm} {h h2 : Hp} {S : Nat → Nat → Nat → Bool} {x0 : Nat} {x1 : Int32} (T : TH ρ c h) (r0 : ρ x0 = 16) (f : Fr ρ (cat c S h) h h2) (s0 : ∀ w, S 16 w 45 = false) (s1 : S 13 2545 0 = false) (s2 : ∀ i, S 62 2545 i = false) (P : GsM x0 x1 h) : GsM x0 x1 h2 := fun b m e1 e2 => by
  rw [(fr_RI f r0 (by decide) s0).2.2] at e1
  have rb : ρ b = 13 := rr T (thR T r0 (i := 45) (k2 := 13) rfl (by decide)) e1
  have wb : cw c b = 2545 := kid_w T r0 (i := 45) rfl (by decide) e1
  rw [(f.1 b 0 (by rw [rb]; decide) (by rw [rb]; show S 13 (cw c b) 0 = false; rw [wb]; exact s1)).2.2] at e2
  have rm : ρ m = 62 := rr T (thR T rb (i := 0) (k2 := 62) rfl (by decide)) e2
  rw [(f.1 m _ (by rw [rm]; decide) (by rw [rm]; show S 62 (cw c m) _ = false; rw [th_ih T rb rfl e2 wb]; exact s2 _)).1]
  exact P b m e1 e2
theorem tl_fr {ρ : Nat → Nat} {c : Cm} {h h2 : Hp} {S : Nat → Nat → Nat → Bool} {x0 : Nat} {x1 : Int32} (T : TH ρ c h) (r0 : ρ x0 = 16) (f : Fr ρ (cat c S h) h h2) (s0 : ∀ w, S 16 w 41 = false) (s1 : ∀ w i, S 96 w i = false) (P : TxL x0 x1 h) : TxL x0 x1 h2 := fun r e => by
  rw [(fr_RI f r0 (by decide) s0).2.2] at e
  rw [(fr_RI f (rr T (thR T r0 (i := 41) (k2 := 96) rfl (by decide)) e) (by decide) (fun w => s1 w _)).1]
  exact P r e
/-- each man of a key is one of the law's codes -/
def KyD (x : Int32) (_ : Hp) : Prop := KyX x
theorem ky_fr {ρ : Nat → Nat} {c : Cm} {h h2 : Hp} {S : Nat → Nat → Nat → Bool} {x : Int32} (_ : TH ρ c h) (_ : Fr ρ (cat c S h) h h2) (P : KyD x h) : KyD x h2 := P
def SqL (q : Bool) (x : Int32) : Prop := q = true ∨ x.toInt ≤ 57
theorem sl_sq {q : Bool} {x v : Int32} (P : SqL q x) (l : v.toInt < x.toInt) : SqB q v := P.imp id (fun z => by omega)
theorem sl_lw {ρ : Nat → Nat} {c : Cm} {h : Hp} (P : LwR ρ c h) {L : Nat} {v : Int32} (r0 : ρ L = 2) (w : cw c L = 2102) (e : v = hI h L 2) : SqL (c.2.1 50) v := by
  by_cases q : 57 < (hI h L 2).toInt
  · exact Or.inl (P L r0 w (Or.inl q))
  · exact Or.inr (by rw [e]; omega)
theorem ky_c {x s : Int32} {h : Hp} (P : KyD x h) (i : Rg 0 4 s) : Rg (-1) 23 (((x >>> (((5 : Int32) * s) &&& 31)) &&& (31 : Int32)) - (1 : Int32)) := by
  have a := P s i.1 i.2
  have b := (rg_and (rg_b rfl : Rg 31 31 (31 : Int32)) (by decide) : Rg 0 31 ((x >>> (((5 : Int32) * s) &&& 31)) &&& (31 : Int32)))
  have b1 := b.1
  have t1 : (1 : Int32).toInt = 1 := rfl
  have e := ts (x := (x >>> (((5 : Int32) * s) &&& 31)) &&& (31 : Int32)) (y := (1 : Int32)) (by omega)
  exact ⟨by rw [e, t1]; omega, by rw [e, t1]; omega⟩
theorem rem_lt {x y : Int32} {a b c d : Int} (hx : Rg a b x) (hy : Rg c d y) (e : 0 ≤ a ∧ 1 ≤ c) : (x - x / y * y).toInt < y.toInt := by
  rw [tr hx hy e]
  exact Int.emod_lt_of_pos _ (by have := hy.1; omega)
/-- a node is no earlier than its set's first -/
def StL (x0 : Nat) (x1 x2 : Int32) (h : Hp) : Prop := ∀ r, hR h x0 5 = some r → (hI h r x1.toNatClampNeg).toInt ≤ x2.toInt
theorem st_fr {ρ : Nat → Nat} {c : Cm} {h h2 : Hp} {S : Nat → Nat → Nat → Bool} {x0 : Nat} {x1 x2 : Int32} (T : TH ρ c h) (r0 : ρ x0 = 1) (f : Fr ρ (cat c S h) h h2) (s0 : ∀ w, S 1 w 5 = false) (s1 : ∀ w i, S 21 w i = false) (P : StL x0 x1 x2 h) : StL x0 x1 x2 h2 := fun r e => by
  rw [(fr_RI f r0 (by decide) s0).2.2] at e
  rw [(fr_RI f (rr T (thR T r0 (i := 5) (k2 := 21) rfl (by decide)) e) (by decide) (fun w => s1 w _)).1]
  exact P r e
theorem st_0 {x0 r : Nat} {x1 v : Int32} {h : Hp} (e : hR h x0 5 = some r) (ev : v = hI h r x1.toNatClampNeg) : StL x0 x1 v h := fun r' e' => by
  rw [e] at e'
  rw [← Option.some.inj e', ev]
  exact Int.le_refl _
theorem st_s {x0 : Nat} {x1 x2 v : Int32} {h : Hp} (P : StL x0 x1 x2 h) (ev : v.toInt = x2.toInt + 1) : StL x0 x1 v h := fun r e => by
  have := P r e
  omega
/-- the nodes of a set lie in the rows -/
def MkL (x0 : Nat) (x1 x2 : Int32) (h : Hp) : Prop := ∀ r, hR h x0 5 = some r → (hI h r x1.toNatClampNeg).toInt + 2 * x2.toInt ≤ 600000
theorem mkl_fr {ρ : Nat → Nat} {c : Cm} {h h2 : Hp} {S : Nat → Nat → Nat → Bool} {x0 : Nat} {x1 x2 : Int32} (T : TH ρ c h) (r0 : ρ x0 = 1) (f : Fr ρ (cat c S h) h h2) (s0 : ∀ w, S 1 w 5 = false) (s1 : ∀ w i, S 21 w i = false) (P : MkL x0 x1 x2 h) : MkL x0 x1 x2 h2 := fun r e => by
  rw [(fr_RI f r0 (by decide) s0).2.2] at e
  rw [(fr_RI f (rr T (thR T r0 (i := 5) (k2 := 21) rfl (by decide)) e) (by decide) (fun w => s1 w _)).1]
  exact P r e
theorem mkl_0 {x0 r : Nat} {x1 v : Int32} {h : Hp} (e : hR h x0 5 = some r) (z : (hI h r x1.toNatClampNeg).toInt + 2 * v.toInt ≤ 600000) : MkL x0 x1 v h := fun r' e' => by
  rw [e] at e'
  rw [← Option.some.inj e']
  exact z
/-- each set's first node is even -/
def EvP (x0 : Nat) (h : Hp) : Prop := ∀ r, hR h x0 5 = some r → ∀ i, (hI h r i).toInt % 2 = 0
theorem ev_fr {ρ : Nat → Nat} {c : Cm} {h h2 : Hp} {S : Nat → Nat → Nat → Bool} {x0 : Nat} (T : TH ρ c h) (r0 : ρ x0 = 1) (f : Fr ρ (cat c S h) h h2) (s0 : ∀ w, S 1 w 5 = false) (s1 : ∀ w i, S 21 w i = false) (P : EvP x0 h) : EvP x0 h2 := fun r e i => by
  rw [(fr_RI f r0 (by decide) s0).2.2] at e
  rw [(fr_RI f (rr T (thR T r0 (i := 5) (k2 := 21) rfl (by decide)) e) (by decide) (fun w => s1 w _)).1]
  exact P r e i
/-- endings that are solved stand in whole rows -/
def EnP (x0 : Nat) (h : Hp) : Prop := ∀ e, hR h x0 10 = some e → ¬ hI h e 10 = 0 → LenP e h ∧ EvP e h
theorem en_fr {ρ : Nat → Nat} {c : Cm} {h h2 : Hp} {S : Nat → Nat → Nat → Bool} {x0 : Nat} (T : TH ρ c h) (r0 : ρ x0 = 12) (f : Fr ρ (cat c S h) h h2) (q : ∀ w, S 12 w 10 = false) (q0 : ∀ w, S 1 w 10 = false) (q1 : ∀ w, S 1 w 11 = false) (q2 : ∀ w, S 1 w 12 = false) (q3 : ∀ w, S 1 w 13 = false) (s0 : ∀ w, S 1 w 5 = false) (s1 : ∀ w i, S 21 w i = false) (P : EnP x0 h) : EnP x0 h2 := fun e ee n => by
  rw [(fr_RI f r0 (by decide) q).2.2] at ee
  have re : ρ e = 1 := rr T (thR T r0 (i := 10) (k2 := 1) rfl (by decide)) ee
  rw [(fr_RI f re (by decide) q0).1] at n
  exact ⟨len_fr T re f q1 q2 q3 (P e ee n).1, ev_fr T re f s0 s1 (P e ee n).2⟩
