section
/-! both addSets side by side -/
def JS (x ks pw m rm re rk rs : Nat) (hc hr : Hp) : Prop := (hI hc x 9 = hI hr m 49 ∧ Rg 0 1024 (hI hc x 9)) ∧ ((hJ hc x 18).toInt = (hJ hr m 59).toInt ∧ 0 ≤ (hJ hc x 18).toInt ∧ (hJ hc x 18).toInt ≤ 600000) ∧ (∀ k : Nat, (k : Int) < (hI hc x 9).toInt → Kq (hI hc ks k) (hI hr rm k).toNatClampNeg (fun i => hI hr re (5 * k + i)) ∧ Fnd rs rk (pkF (fun i => hI hr re (5 * k + i)) (hI hr rm k) (hI hr rm k).toNatClampNeg) hr) ∧ (∀ j k : Nat, j < k → (k : Int) < (hI hc x 9).toInt → ¬ hI hc ks j = hI hc ks k) ∧ (∀ i, i ≤ 5 → (hI hc pw i).toInt = (hI hr m 13).toInt ^ i) ∧ sm (fun k => 2 * (hI hr m 13).toInt ^ (hI hr rm k).toNatClampNeg) (hI hc x 9).toNatClampNeg = (hJ hc x 18).toInt
def CE (x ks pw : Nat) (hc : Hp) : Prop := (hR hc x 4 = some ks ∧ hR hc x 6 = some pw) ∧ ¬ x = ks ∧ ¬ pw = x ∧ ¬ pw = ks
/-- what the class leaves -/
def CFs (x ks : Nat) (hc oc : Hp) : Prop := (∀ a i, hR oc a i = hR hc a i) ∧ (∀ a i, ¬ (a = x ∧ i = 9) → ¬ a = ks → hI oc a i = hI hc a i) ∧ (∀ k : Nat, (k : Int) < (hI hc x 9).toInt → hI oc ks k = hI hc ks k) ∧ (hI hc x 9).toInt ≤ (hI oc x 9).toInt ∧ (hJ hc x 18).toInt ≤ (hJ oc x 18).toInt
/-- what the reference leaves -/
def RF (ρ : Nat → Nat) (m rm re : Nat) (h g : Hp) : Prop := (∀ a i, hR g a i = hR h a i) ∧ (∀ a, hN g a = hN h a) ∧ (∀ a i, ¬ (99 ≤ ρ a ∧ ρ a ≤ 101) → ¬ (106 ≤ ρ a ∧ ρ a ≤ 108) → ¬ (a = m ∧ i = 49) → hI g a i = hI h a i) ∧ (hI h m 49).toInt ≤ (hI g m 49).toInt ∧ ∀ k : Nat, (k : Int) < (hI h m 49).toInt → hI g rm k = hI h rm k ∧ ∀ i, i < 5 → hI g re (5 * k + i) = hI h re (5 * k + i)
section
variable {ρ : Nat → Nat} {c : Cm} {hc hr oc : Hp} {x ks pw m rm re rb rk rs ro F : Nat} {n x1 : Int32} {f : Nat → Int32} {o' : Int32 × Hp}
theorem cfs_0 : CFs x ks hc hc := ⟨fun _ _ => rfl, fun _ _ _ _ => rfl, fun _ _ => rfl, Int.le_refl _, Int.le_refl _⟩
theorem cfs_t {g1 g2 g3 : Hp} (A : CFs x ks g1 g2) (B : CFs x ks g2 g3) : CFs x ks g1 g3 := ⟨fun a i => (B.1 a i).trans (A.1 a i), fun a i n1 n2 => (B.2.1 a i n1 n2).trans (A.2.1 a i n1 n2), fun k hk => (B.2.2.1 k (by have := A.2.2.2.1; omega)).trans (A.2.2.1 k hk), Int.le_trans A.2.2.2.1 B.2.2.2.1, Int.le_trans A.2.2.2.2 B.2.2.2.2⟩
theorem rf_0 : RF ρ m rm re hr hr := ⟨fun _ _ => rfl, fun _ => rfl, fun _ _ _ _ _ => rfl, Int.le_refl _, fun _ _ => ⟨rfl, fun _ _ => rfl⟩⟩
theorem rf_t {g1 g2 g3 : Hp} (A : RF ρ m rm re g1 g2) (B : RF ρ m rm re g2 g3) : RF ρ m rm re g1 g3 := ⟨fun a i => (B.1 a i).trans (A.1 a i), fun a => (B.2.1 a).trans (A.2.1 a), fun a i n1 n2 n3 => (B.2.2.1 a i n1 n2 n3).trans (A.2.2.1 a i n1 n2 n3), Int.le_trans A.2.2.2.1 B.2.2.2.1, fun k hk => ⟨((B.2.2.2.2 k (by have := A.2.2.2.1; omega)).1).trans (A.2.2.2.2 k hk).1, fun i hi => ((B.2.2.2.2 k (by have := A.2.2.2.1; omega)).2 i hi).trans ((A.2.2.2.2 k hk).2 i hi)⟩⟩
theorem ce_f (E : CE x ks pw hc) (A : CFs x ks hc oc) : CE x ks pw oc := ⟨⟨by rw [A.1]; exact E.1.1, by rw [A.1]; exact E.1.2⟩, E.2⟩
/-- the row may be written -/
theorem rf_w (qo : ρ ro = 108) (qm : ρ rm = 99) (qe : ρ re = 100) (q0 : ρ m = 16) {j : Nat} {v : Int32} : RF ρ m rm re hr (wI hr ro j v) := by
  have n1 : ¬ rm = ro := fun z => by rw [z, qo] at qm; exact absurd qm (by decide)
  have n2 : ¬ re = ro := fun z => by rw [z, qo] at qe; exact absurd qe (by decide)
  have n3 : ¬ m = ro := fun z => by rw [z, qo] at q0; exact absurd q0 (by decide)
  exact ⟨fun _ _ => rfl, fun _ => rfl, fun a i _ a2 _ => rI_a (fun z => a2 (by rw [z, qo]; decide)), by rw [rI_a n3]; exact Int.le_refl _, fun k _ => ⟨rI_a n1, fun i _ => rI_a n2⟩⟩
theorem js_w (Q : SlR ρ m rm re rb rk rs ro hr) {j : Nat} {v : Int32} (J : JS x ks pw m rm re rk rs hc hr) : JS x ks pw m rm re rk rs hc (wI hr ro j v) := by
  obtain ⟨⟨q0, qm, qe, qb, qk, qs, qo⟩, _⟩ := Q
  have n1 : ¬ rm = ro := fun z => by rw [z, qo] at qm; exact absurd qm (by decide)
  have n2 : ¬ re = ro := fun z => by rw [z, qo] at qe; exact absurd qe (by decide)
  have n3 : ¬ m = ro := fun z => by rw [z, qo] at q0; exact absurd q0 (by decide)
  have n4 : ¬ rk = ro := fun z => by rw [z, qo] at qk; exact absurd qk (by decide)
  have n5 : ¬ rs = ro := fun z => by rw [z, qo] at qs; exact absurd qs (by decide)
  have a1 : ∀ i, hI (wI hr ro j v) rm i = hI hr rm i := fun i => rI_a n1
  have a2 : ∀ i, hI (wI hr ro j v) re i = hI hr re i := fun i => rI_a n2
  have a3 : ∀ i, hI (wI hr ro j v) m i = hI hr m i := fun i => rI_a n3
  have a4 : ∀ i, hI (wI hr ro j v) rk i = hI hr rk i := fun i => rI_a n4
  have a5 : ∀ i, hI (wI hr ro j v) rs i = hI hr rs i := fun i => rI_a n5
  obtain ⟨j1, j2, j3, j4, j5, j6⟩ := J
  refine ⟨by rw [a3]; exact j1, j2, fun k hk => ?_, j4, fun i hi => by rw [a3]; exact j5 i hi, ?_⟩
  · obtain ⟨b1, b2⟩ := j3 k hk
    simp only [a1, a2]
    refine ⟨b1, ?_⟩
    obtain ⟨M, B1, B2, B3⟩ := b2
    exact ⟨M, fun m' hm => by rw [a5]; exact B1 m' hm, by rw [a5]; exact B2, by rw [a4]; exact B3⟩
  · simp only [a1, a3]; exact j6
theorem slr_r (Q : SlR ρ m rm re rb rk rs ro hr) {g : Hp} (A : ∀ a i, hR g a i = hR hr a i) : SlR ρ m rm re rb rk rs ro g := by
  obtain ⟨q, e1, e2, e3, e4, e5, e6⟩ := Q
  exact ⟨q, by rw [A]; exact e1, by rw [A]; exact e2, by rw [A]; exact e3, by rw [A]; exact e4, by rw [A]; exact e5, by rw [A]; exact e6⟩
theorem add_p (hF : 700000 ≤ F) (hA : pmA c seL) (Q : SlR ρ m rm re rb rk rs ro hr) (T : TH ρ c hr) (P : SE m hr) (E : CE x ks pw hc) (J : JS x ks pw m rm re rk rs hc hr) (i1 : Rg 0 5 n) (W : RW m n.toInt hr) (Qx : Kq x1 n.toNatClampNeg f) (C : ∀ v, cn f v n.toNatClampNeg = cn (fun i => hI hr ro i) v n.toNatClampNeg) (ec : sX0_addSet F hc x x1 = some oc) (er : sX15_addSet F hr m n = some o') : (TH ρ c o'.2 ∧ SE m o'.2) ∧ CFs x ks hc oc ∧ ((o'.1 = 0 ∧ 600000 < (hJ oc x 18).toInt) ∨ (o'.1 = 1 ∧ RF ρ m rm re hr o'.2 ∧ JS x ks pw m rm re rk rs oc o'.2)) := by
  have z1 : (1 : Int32).toInt = 1 := rfl
  obtain ⟨⟨q0, qm, qe, qb, qk, qs, qo⟩, e46, e47, e48, e55, e56, e57⟩ := id Q
  obtain ⟨ht, _⟩ := ads_t hF hA Q T P i1 W er
  refine ⟨ht, ?_⟩
  obtain ⟨⟨j1, js⟩, ⟨j2, t0, t6⟩, j3, j4, j5, j6⟩ := id J
  obtain ⟨⟨e4, e6⟩, nk, npx, npk⟩ := E
  have n5 := i1.2
  have nn := clamp_i i1.1
  have s49 := thI T q0 (k := 16) (i := 49) (lo := 0) (hi := 4096) rfl
  have isq : Rg 9 64 (hI hr m 13) := thI T q0 (k := 16) (i := 13) rfl
  have sq9 := isq.1
  have js0 := js.1
  have js1 := js.2
  have ns := nc_i js0
  have pv : (hI hc pw n.toNatClampNeg).toInt = (hI hr m 13).toInt ^ n.toNatClampNeg := j5 _ (by omega)
  have pb := pow_sq (s := (hI hr m 13).toInt) (by omega) isq.2 n.toNatClampNeg (by omega)
  have p9 := (pow_9 sq9 n.toNatClampNeg).1
  have CT : cT hc x pw n.toNatClampNeg = (hJ hr m 59).toInt + 2 * (hI hr m 13).toInt ^ n.toNatClampNeg := by
    unfold cT
    rw [pv, j2]
  obtain ⟨g, Sg, Cg, az⟩ := ads_z hF Q i1 (thN T qo (k := 108) (n := 6) rfl (by decide)) (fun j => by have := thI T qs (k := 107) (i := j) (lo := 0) (hi := 4096) rfl; exact ⟨this.1, this.2⟩) s49.1 s49.2 er isq (by omega) (by omega)
  have gf : ∀ i, i < n.toNatClampNeg → g i = f i := sd_uni n.toNatClampNeg Sg Qx.2.2.2 (fun v => (Cg v).trans (C v).symm)
  -- found by the one where found by the other
  have r24 : ∀ k j, Rg 0 31 (hI hr re (5 * k + j)) := fun k j => by
    have := thI T qe (k := 100) (i := 5 * k + j) (lo := 0) (hi := 24) rfl
    exact ⟨this.1, by have := this.2; omega⟩
  have m5 : ∀ k, Rg 0 5 (hI hr rm k) := fun k => thI T qm (k := 99) (i := k) (lo := 0) (hi := 5) rfl
  have f1 : (∃ k : Nat, (k : Int) < (hI hc x 9).toInt ∧ hI hc ks k = x1) → Fnd rs rk (pkF g n n.toNatClampNeg) hr := by
    rintro ⟨k, hk, ek⟩
    obtain ⟨b1, b2⟩ := j3 k hk
    rw [ek] at b1
    obtain ⟨y1, y2⟩ := kq_inj Qx b1
    have mk := clamp_i (m5 k).1
    have en : hI hr rm k = n := Int32.toInt_inj.mp (by omega)
    rw [en] at b2
    rw [pkF_eq (g := fun i => hI hr re (5 * k + i)) _ (fun i hi => (gf i hi).trans (y2 i hi))]
    exact b2
  have f2 : Fnd rs rk (pkF g n n.toNatClampNeg) hr → ∃ k : Nat, (k : Int) < (hI hc x 9).toInt ∧ hI hc ks k = x1 := by
    rintro ⟨M, _, B2, B3⟩
    have S4' := P.2.2.2.1 rs rk rm re e56 e55 e46 e47 (sl (pkF g n n.toNatClampNeg) M) (Nat.mod_lt _ (by decide)) B2
    obtain ⟨u1, u2⟩ := S4'
    generalize hk : (hI hr rs (sl (pkF g n n.toNatClampNeg) M)).toInt.toNat - 1 = k at u2
    have lk : (k : Int) < (hI hc x 9).toInt := by rw [j1]; omega
    rw [B3, pkN_F] at u2
    have u3 : pkF (fun i => if i < n.toNatClampNeg then g i else 0) n n.toNatClampNeg = pkF (fun i => hI hr re (5 * k + i)) (hI hr rm k) (hI hr rm k).toNatClampNeg := by
      rw [← u2]
      exact pkF_eq _ (fun i hi => if_pos hi)
    obtain ⟨v1, v2⟩ := pkF_inj i1 (m5 k) (fun j => by
      show Rg 0 31 (if j < n.toNatClampNeg then g j else 0)
      split
      · next l =>
        rw [gf j l]
        have := Qx.2.2.1 j l
        exact ⟨by omega, by omega⟩
      · exact ⟨by decide, by decide⟩) (r24 k) u3
    refine ⟨k, lk, ?_⟩
    obtain ⟨b1, _⟩ := j3 k lk
    rw [← v1] at b1
    refine (kq_key Qx b1 (fun i hi => ?_)).symm
    have := v2 i hi
    rw [if_pos hi] at this
    rw [← gf i hi]; exact this
  have cq := cadd_q hF e4 e6 nk Qx js t0 (by omega) ⟨by rw [pv]; omega, by rw [pv]; omega⟩ ec
  rcases cq with ⟨fnd, eo⟩ | ⟨nfd, Tn, eT, cq⟩
  · -- there already
    rcases az with ⟨_, o1, jo⟩ | ⟨nf, _⟩
    rotate_left
    · exact absurd (f1 fnd) nf
    subst eo
    refine ⟨cfs_0, Or.inr ⟨o1, ?_, ?_⟩⟩
    · have n1 : ¬ rm = ro := fun z => by rw [z, qo] at qm; exact absurd qm (by decide)
      have n2 : ¬ re = ro := fun z => by rw [z, qo] at qe; exact absurd qe (by decide)
      have n3 : ¬ m = ro := fun z => by rw [z, qo] at q0; exact absurd q0 (by decide)
      exact ⟨jo.1, jo.2.1, fun a i _ a2 _ => jo.2.2.2 a i (fun z => a2 (by rw [z, qo]; decide)), by rw [jo.2.2.2 m 49 n3]; exact Int.le_refl _, fun k _ => ⟨jo.2.2.2 rm k n1, fun i _ => jo.2.2.2 re _ n2⟩⟩
    · have n1 : ¬ rm = ro := fun z => by rw [z, qo] at qm; exact absurd qm (by decide)
      have n2 : ¬ re = ro := fun z => by rw [z, qo] at qe; exact absurd qe (by decide)
      have n3 : ¬ m = ro := fun z => by rw [z, qo] at q0; exact absurd q0 (by decide)
      have n4 : ¬ rk = ro := fun z => by rw [z, qo] at qk; exact absurd qk (by decide)
      have n5' : ¬ rs = ro := fun z => by rw [z, qo] at qs; exact absurd qs (by decide)
      have a1 : ∀ i, hI o'.2 rm i = hI hr rm i := fun i => jo.2.2.2 rm i n1
      have a2 : ∀ i, hI o'.2 re i = hI hr re i := fun i => jo.2.2.2 re i n2
      have a3 : ∀ i, hI o'.2 m i = hI hr m i := fun i => jo.2.2.2 m i n3
      have a4 : ∀ i, hI o'.2 rk i = hI hr rk i := fun i => jo.2.2.2 rk i n4
      have a5 : ∀ i, hI o'.2 rs i = hI hr rs i := fun i => jo.2.2.2 rs i n5'
      refine ⟨⟨by rw [a3]; exact j1, js⟩, ⟨by rw [jo.2.2.1]; exact j2, t0, t6⟩, fun k hk => ?_, j4, fun i hi => by rw [a3]; exact j5 i hi, ?_⟩
      · obtain ⟨b1, b2⟩ := j3 k hk
        simp only [a1, a2]
        refine ⟨b1, ?_⟩
        obtain ⟨M, B1, B2, B3⟩ := b2
        exact ⟨M, fun m' hm => by rw [a5]; exact B1 m' hm, by rw [a5]; exact B2, by rw [a4]; exact B3⟩
      · simp only [a1, a3]; exact j6
  rcases az with ⟨fd, _⟩ | ⟨_, az⟩
  · obtain ⟨k, hk, ek⟩ := f2 fd
    exact absurd ek (nfd k hk)
  have cnt : (hI hc x 9).toInt ≤ 736 := by
    have := cnt_lt (key := fun k => hI hc ks k) (nk := fun k => (hI hr rm k).toNatClampNeg) (row := fun k i => hI hr re (5 * k + i)) (s := (hI hc x 9).toNatClampNeg) sq9 (fun k hk => (j3 k (by omega)).1) (fun j k h1 h2 => j4 j k h1 (by omega)) (by rw [j6]; exact t6)
    omega
  rcases cq with ⟨big, eo⟩ | ⟨⟨le6, ls⟩, eo⟩
  · -- too great
    have big' : 600000 < cT hc x pw n.toNatClampNeg := by
      rcases big with z | z
      · exact z
      · omega
    have T6 : (hJ oc x 18).toInt = cT hc x pw n.toNatClampNeg := by rw [eo, r_J, if_pos ⟨rfl, rfl⟩, eT]
    refine ⟨⟨fun a i => by rw [eo]; rfl, fun a i _ _ => by rw [eo]; rfl, fun k _ => by rw [eo]; rfl, by rw [eo]; exact Int.le_refl _, by rw [T6]; omega⟩, Or.inl ⟨?_, by rw [T6]; exact big'⟩⟩
    rcases az with ⟨o0, _⟩ | ⟨_, tt, _⟩
    · exact o0
    · rw [CT] at big'; omega
  · -- a new one
    rcases az with ⟨_, z | z⟩ | ⟨o1, tt, Mv, k49, krm, kre, k59, kf⟩
    · rw [CT] at le6; omega
    · rw [← j1] at z; omega
    have inc : ((hI hc x 9) + (1 : Int32)).toInt = (hI hc x 9).toInt + 1 := by rw [ta (by rw [z1]; omega), z1]
    have cI9 : hI oc x 9 = (hI hc x 9) + (1 : Int32) := by rw [eo, rI_s]
    have cJ18 : (hJ oc x 18).toInt = cT hc x pw n.toNatClampNeg := by
      rw [eo]
      show (hJ (wJ hc x 18 Tn) x 18).toInt = _
      rw [r_J, if_pos ⟨rfl, rfl⟩, eT]
    have cks : ∀ k, hI oc ks k = if k = (hI hc x 9).toNatClampNeg then x1 else hI hc ks k := fun k => by
      rw [eo, rI_a (fun z => nk z.symm), r_I]
      by_cases q : k = (hI hc x 9).toNatClampNeg
      · rw [if_pos ⟨rfl, q⟩, if_pos q]
      · rw [if_neg (fun z => q z.2), if_neg q]; rfl
    have cpw : ∀ i, hI oc pw i = hI hc pw i := fun i => by rw [eo, rI_a npx, rI_a npk]; rfl
    have e9 : (hI oc x 9).toNatClampNeg = (hI hc x 9).toNatClampNeg + 1 := by
      rw [cI9]
      have := clamp_i (v := (hI hc x 9) + (1 : Int32)) (by omega)
      omega
    have cf : CFs x ks hc oc := ⟨fun a i => by rw [eo]; rfl, fun a i a1 a2 => by
      rw [eo, r_I, if_neg a1, rI_a a2]; rfl, fun k hk => by rw [cks, if_neg (by omega)], by rw [cI9, inc]; omega, by rw [cJ18]; unfold cT; rw [pv]; omega⟩
    have rf : RF ρ m rm re hr o'.2 := ⟨Mv.1, Mv.2.1, Mv.2.2.1, Mv.2.2.2.2.1, fun k hk => Mv.2.2.2.2.2.1 k hk⟩
    refine ⟨cf, Or.inr ⟨o1, rf, ?_⟩⟩
    have m13 : hI o'.2 m 13 = hI hr m 13 := Mv.2.2.1 m 13 (by rw [q0]; decide) (by rw [q0]; decide) (fun z => absurd z.2 (by decide))
    have sN : (hI hr m 49).toNatClampNeg = (hI hc x 9).toNatClampNeg := by rw [j1]
    rw [sN] at krm kre
    refine ⟨⟨by rw [cI9, k49, j1], ⟨by rw [cI9, inc]; omega, by rw [cI9, inc]; omega⟩⟩, ⟨by rw [cJ18, k59, CT], by rw [cJ18, CT]; omega, by rw [cJ18]; exact le6⟩, fun k hk => ?_, fun j k hjk hk z => ?_, fun i hi => by rw [cpw, m13]; exact j5 i hi, ?_⟩
    · rw [cI9, inc] at hk
      by_cases q : k = (hI hc x 9).toNatClampNeg
      · rw [cks, if_pos q, q, krm]
        have kre' : ∀ i, i < n.toNatClampNeg → hI o'.2 re (5 * (hI hc x 9).toNatClampNeg + i) = f i := fun i hi => (kre i hi).trans (gf i hi)
        refine ⟨⟨Qx.1, ?_, fun i hi => by show 1 ≤ (hI o'.2 re (5 * (hI hc x 9).toNatClampNeg + i)).toInt ∧ (hI o'.2 re (5 * (hI hc x 9).toNatClampNeg + i)).toInt ≤ 24; rw [kre' i hi]; exact Qx.2.2.1 i hi, fun i j hij hj => by show (hI o'.2 re (5 * (hI hc x 9).toNatClampNeg + i)).toInt ≤ (hI o'.2 re (5 * (hI hc x 9).toNatClampNeg + j)).toInt; rw [kre' i (by omega), kre' j hj]; exact Qx.2.2.2 i j hij hj⟩, ?_⟩
        · rw [Qx.2.1]
          refine k5_eq (fun j _ => ?_)
          unfold pad
          by_cases w : j < n.toNatClampNeg
          · rw [if_pos w, if_pos w]; exact congrArg Int32.toInt (kre' j w).symm
          · rw [if_neg w, if_neg w]
        · rw [pkF_eq (g := g) _ kre]; exact kf
      · have hk' : (k : Int) < (hI hc x 9).toInt := by omega
        obtain ⟨b1, b2⟩ := j3 k hk'
        obtain ⟨c1, c2⟩ := Mv.2.2.2.2.2.1 k (by rw [← j1]; exact hk')
        have mk5 : (hI hr rm k).toNatClampNeg ≤ 5 := b1.1
        rw [cks, if_neg q, c1]
        refine ⟨⟨b1.1, ?_, fun i hi => by show 1 ≤ (hI o'.2 re (5 * k + i)).toInt ∧ (hI o'.2 re (5 * k + i)).toInt ≤ 24; rw [c2 i (by omega)]; exact b1.2.2.1 i hi, fun i j hij hj => by show (hI o'.2 re (5 * k + i)).toInt ≤ (hI o'.2 re (5 * k + j)).toInt; rw [c2 i (by omega), c2 j (by omega)]; exact b1.2.2.2 i j hij hj⟩, ?_⟩
        · rw [b1.2.1]
          refine k5_eq (fun j hj => ?_)
          unfold pad
          by_cases w : j < (hI hr rm k).toNatClampNeg
          · rw [if_pos w, if_pos w]; exact congrArg Int32.toInt (c2 j (by omega)).symm
          · rw [if_neg w, if_neg w]
        · rw [pkF_eq (g := fun i => hI hr re (5 * k + i)) _ (fun i hi => c2 i (by omega))]
          exact Mv.2.2.2.1 _ b2
    · rw [cI9, inc] at hk
      rw [cks, cks, if_neg (by omega)] at z
      by_cases q : k = (hI hc x 9).toNatClampNeg
      · rw [if_pos q] at z
        exact nfd j (by omega) z
      · rw [if_neg q] at z
        exact j4 j k hjk (by omega) z
    · rw [e9, cJ18, CT, ← j2, ← j6, m13]
      show sm _ (hI hc x 9).toNatClampNeg + 2 * (hI hr m 13).toInt ^ (hI o'.2 rm (hI hc x 9).toNatClampNeg).toNatClampNeg = _
      rw [krm]
      have : sm (fun k => 2 * (hI hr m 13).toInt ^ (hI o'.2 rm k).toNatClampNeg) (hI hc x 9).toNatClampNeg = sm (fun k => 2 * (hI hr m 13).toInt ^ (hI hr rm k).toNatClampNeg) (hI hc x 9).toNatClampNeg := sm_eq _ (fun k hk => by
        show 2 * (hI hr m 13).toInt ^ (hI o'.2 rm k).toNatClampNeg = _
        rw [(Mv.2.2.2.2.2.1 k (by rw [← j1]; omega)).1])
      rw [this]
end
end
section
/-! the class's total never falls -/
section
variable {h o : Hp} {x ks pw L bm bc F : Nat} {x1 key slot : Int32}
theorem sizeOf_h : ∀ (f : Nat) {a : Int32} {q : Int32 × Hp}, 0 ≤ a.toInt → a.toInt ≤ 5 → sX0_sizeOf_2 F f h x1 a = some q → q.2 = h ∧ 0 ≤ q.1.toInt ∧ q.1.toInt ≤ 5 := by
  have z1 : (1 : Int32).toInt = 1 := rfl
  have z5 : (5 : Int32).toInt = 5 := rfl
  intro f
  induction f with
  | zero => intro a q _ _ e; exact absurd e (by rw [sX0_sizeOf_2]; exact fun z => nomatch z)
  | succ f ih =>
    intro a q a0 a5 e
    rw [sX0_sizeOf_2] at e
    unfold sX0_sizeOf_22 at e
    replace e := br_s e
    rcases e with ⟨_, e⟩ | ⟨l, e⟩
    · rw [← Option.some.inj e]; exact ⟨rfl, a0, a5⟩
    have l := nle_i l
    rw [z5] at l
    replace e := cl_s e
    obtain ⟨o2, e2, e⟩ := e
    unfold sX0_codeIn at e2
    have w2 : o2.2 = h := by rw [← Option.some.inj e2]
    replace e := br_s e
    rcases e with ⟨_, e⟩ | ⟨_, e⟩
    · rw [← Option.some.inj e]; exact ⟨w2, a0, a5⟩
    replace e := nm_s e
    obtain ⟨v, wv, e⟩ := e
    rw [w2] at e
    have tv : v.toInt = a.toInt + 1 := by rw [wv, ta (by rw [z1]; omega), z1]
    exact ih (by omega) (by omega) e
theorem with_h {a : Int32} : ∀ (f : Nat) {s : Int32} {q : Int32 × Hp}, sX0_with_2 F f h x1 a s = some q → q.2 = h := by
  intro f
  induction f with
  | zero => intro s q e; exact absurd e (by rw [sX0_with_2]; exact fun z => nomatch z)
  | succ f ih =>
    intro s q e
    rw [sX0_with_2] at e
    have b : sX0_with_35 F h x1 a s = some q → q.2 = h := fun e => by
      unfold sX0_with_35 at e
      replace e := nm_s e
      obtain ⟨v, _, e⟩ := e
      rw [← Option.some.inj e]
    replace e := br_s e
    rcases e with ⟨_, e⟩ | ⟨_, e⟩
    · exact b e
    replace e := br_s e
    rcases e with ⟨_, e⟩ | ⟨_, e⟩
    · exact b e
    replace e := br_s e
    rcases e with ⟨_, e⟩ | ⟨_, e⟩
    · exact b e
    replace e := nm_s e
    obtain ⟨v, _, e⟩ := e
    exact ih e
theorem without_h {a : Int32} {q : Int32 × Hp} (e : sX0_without h x1 a = some q) : q.2 = h := by
  unfold sX0_without at e
  replace e := nm_s e
  obtain ⟨v, _, e⟩ := e
  rw [← Option.some.inj e]
/-- what the class must have for it -/
def CM (x ks pw L bc : Nat) (h : Hp) : Prop := (hR h x 4 = some ks ∧ hR h x 6 = some pw ∧ hR h x 0 = some L ∧ hR h L 18 = some bc) ∧ (¬ x = ks ∧ ¬ pw = x ∧ ¬ pw = ks ∧ ¬ bc = x ∧ ¬ bc = ks) ∧ (∀ i, Rg 0 1073741824 (hI h pw i)) ∧ ∀ i, (hI h bc i).toInt ≤ 6
theorem cm_k {g : Hp} (C : CM x ks pw L bc h) (R : ∀ a i, hR g a i = hR h a i) (I : ∀ a i, ¬ a = x → ¬ a = ks → hI g a i = hI h a i) : CM x ks pw L bc g := by
  obtain ⟨⟨e1, e2, e3, e4⟩, n, p, b⟩ := C
  exact ⟨⟨by rw [R]; exact e1, by rw [R]; exact e2, by rw [R]; exact e3, by rw [R]; exact e4⟩, n, fun i => by rw [I pw i n.2.1 n.2.2.1]; exact p i, fun i => by rw [I bc i n.2.2.2.1 n.2.2.2.2]; exact b i⟩
/-- addSet -/
theorem cadd_m (C : CM x ks pw L bc h) (t0 : 0 ≤ (hJ h x 18).toInt) (tb : (hJ h x 18).toInt ≤ 1000000000000) (e : sX0_addSet F h x x1 = some o) : CM x ks pw L bc o ∧ (hJ h x 18).toInt ≤ (hJ o x 18).toInt ∧ (hJ o x 18).toInt ≤ (hJ h x 18).toInt + 2147483648 := by
  obtain ⟨⟨e4, e6, _, _⟩, ⟨n1, n2, n3, n4, n5⟩, pp, bb⟩ := id C
  have lp : ∀ (f : Nat) {x2 : Int32}, sX0_addSet_2 F f h x x1 x2 = some o → CM x ks pw L bc o ∧ (hJ h x 18).toInt ≤ (hJ o x 18).toInt ∧ (hJ o x 18).toInt ≤ (hJ h x 18).toInt + 2147483648 := by
    intro f
    induction f with
    | zero => intro x2 e; exact absurd e (by rw [sX0_addSet_2]; exact fun z => nomatch z)
    | succ f ih =>
      intro x2 e
      rw [sX0_addSet_2] at e
      unfold sX0_addSet_91 at e
      replace e := br_s e
      rcases e with ⟨_, e⟩ | ⟨_, e⟩
      · replace e := cl_s e
        obtain ⟨r2, er2, e⟩ := e
        rw [r_eq e6 er2] at e
        replace e := cl_s e
        obtain ⟨o3, e3, e⟩ := e
        unfold sX0_sizeOf at e3
        obtain ⟨w3, _, _⟩ := sizeOf_h F (by decide) (by decide) e3
        rw [w3] at e
        replace e := (gd_s e).2
        replace e := nm_s e
        obtain ⟨h5, w5, e⟩ := e
        have p0 := (pp o3.1.toNatClampNeg).1
        have p1 := (pp o3.1.toNatClampNeg).2
        have ep : ((2 : Int64) * ((hI h pw o3.1.toNatClampNeg).toInt64)).toInt = 2 * (hI h pw o3.1.toNatClampNeg).toInt := by
          have e : ((hI h pw o3.1.toNatClampNeg).toInt64).toInt = (hI h pw o3.1.toNatClampNeg).toInt := Int32.toInt_toInt64 _
          have z2 : (2 : Int64).toInt = 2 := rfl
          rw [tm64 (by rw [e, z2]; omega) (by rw [e, z2]; omega), e, z2]
        have et : ((hJ h x 18) + ((2 : Int64) * ((hI h pw o3.1.toNatClampNeg).toInt64))).toInt = (hJ h x 18).toInt + 2 * (hI h pw o3.1.toNatClampNeg).toInt := by
          rw [ta64 (by rw [ep]; omega) (by rw [ep]; omega), ep]
        have j5 : (hJ h5 x 18).toInt = (hJ h x 18).toInt + 2 * (hI h pw o3.1.toNatClampNeg).toInt := by rw [w5, r_J, if_pos ⟨rfl, rfl⟩, et]
        have C5 : CM x ks pw L bc h5 := cm_k C (fun a i => by rw [w5]; rfl) (fun a i _ _ => by rw [w5]; rfl)
        replace e := br_s e
        rcases e with ⟨_, e⟩ | ⟨_, e⟩
        · rw [← Option.some.inj e]; exact ⟨C5, by omega, by omega⟩
        replace e := br_s e
        rcases e with ⟨_, e⟩ | ⟨_, e⟩
        · rw [← Option.some.inj e]; exact ⟨C5, by omega, by omega⟩
        replace e := cl_s e
        obtain ⟨r8, er8, e⟩ := e
        have y8 : r8 = ks := r_eq C5.1.1 er8
        rw [y8] at e
        replace e := (gd_s e).2
        replace e := nm_s e
        obtain ⟨h10, w10, e⟩ := e
        replace e := nm_s e
        obtain ⟨h11, w11, e⟩ := e
        rw [← Option.some.inj e]
        refine ⟨cm_k C5 (fun a i => by rw [w11, w10]; rfl) (fun a i a1 a2 => by rw [w11, rI_a a1, w10, rI_a a2]), ?_⟩
        have : hJ h11 x 18 = hJ h5 x 18 := by rw [w11, w10]; rfl
        rw [this]
        omega
      · replace e := cl_s e
        obtain ⟨r12, er12, e⟩ := e
        replace e := (gd_s e).2
        replace e := br_s e
        rcases e with ⟨_, e⟩ | ⟨_, e⟩
        · rw [← Option.some.inj e]; exact ⟨C, Int.le_refl _, by omega⟩
        replace e := nm_s e
        obtain ⟨v, _, e⟩ := e
        exact ih e
  unfold sX0_addSet at e
  exact lp F e
theorem mono_52 {k2 : Hp → Nat → Int32 → Int32 → Option Hp} {x3 x4 x5 : Int32} {s : Int} (R : ∀ {g : Hp}, CM x ks pw L bc g → 0 ≤ (hJ g x 18).toInt → (hJ g x 18).toInt ≤ 1000000000000 - 15100000000 * (4 - s) → k2 g x key (slot + (1 : Int32)) = some o → (hJ g x 18).toInt ≤ (hJ o x 18).toInt) : ∀ (f : Nat) {h : Hp} {x6 : Int32}, CM x ks pw L bc h → 0 ≤ x6.toInt → x6.toInt ≤ 6 → s ≤ 4 → 0 ≤ (hJ h x 18).toInt → (hJ h x 18).toInt ≤ 1000000000000 - 15100000000 * (4 - s) - 2147483648 * (6 - x6.toInt) → sX0_addSetsOf_52 F k2 f h x key slot x3 x4 x5 x6 = some o → (hJ h x 18).toInt ≤ (hJ o x 18).toInt := by
  have z1 : (1 : Int32).toInt = 1 := rfl
  intro f
  induction f with
  | zero => intro h x6 _ _ _ _ _ _ e; exact absurd e (by rw [sX0_addSetsOf_52]; exact fun z => nomatch z)
  | succ f ih =>
    intro h x6 C a6 b6 s4 t0 tb e
    rw [sX0_addSetsOf_52] at e
    unfold sX0_addSetsOf_104 at e
    replace e := cl_s e
    obtain ⟨r1, er1, e⟩ := e
    rw [r_eq C.1.2.2.1 er1] at e
    replace e := cl_s e
    obtain ⟨r2, er2, e⟩ := e
    rw [r_eq C.1.2.2.2 er2] at e
    replace e := (gd_s e).2
    replace e := br_s e
    rcases e with ⟨_, e⟩ | ⟨l, e⟩
    · replace e := nm_s e
      obtain ⟨v, wv, e⟩ := e
      rw [wv] at e
      exact R C t0 (by omega) e
    have l := nle_i l
    have b5 := C.2.2.2 x4.toNatClampNeg
    replace e := cl_s e
    obtain ⟨r5, er5, e⟩ := e
    replace e := cl_s e
    obtain ⟨r6, er6, e⟩ := e
    replace e := (gd_s e).2
    replace e := cl_s e
    obtain ⟨o8, e8, e⟩ := e
    unfold sX0_with at e8
    rw [with_h F e8] at e
    replace e := cl_s e
    obtain ⟨o9, e9, e⟩ := e
    obtain ⟨C9, m1, m2⟩ := cadd_m C t0 (by omega) e9
    replace e := nm_s e
    obtain ⟨v, wv, e⟩ := e
    have tv : v.toInt = x6.toInt + 1 := by rw [wv, ta (by rw [z1]; omega), z1]
    have := ih C9 (by omega) (by omega) s4 (by omega) (by omega) e
    omega
theorem mono_2 : ∀ (f : Nat) {h : Hp} {slot : Int32}, CM x ks pw L bc h → 0 ≤ slot.toInt → slot.toInt ≤ 5 → 0 ≤ (hJ h x 18).toInt → (hJ h x 18).toInt ≤ 1000000000000 - 15100000000 * (5 - slot.toInt) → sX0_addSetsOf_2 F f h x key slot = some o → (hJ h x 18).toInt ≤ (hJ o x 18).toInt := by
  have z1 : (1 : Int32).toInt = 1 := rfl
  intro f
  induction f with
  | zero => intro h slot _ _ _ _ _ e; exact absurd e (by rw [sX0_addSetsOf_2]; exact fun z => nomatch z)
  | succ f ih =>
    intro h slot C a5 b5 t0 tb e
    rw [sX0_addSetsOf_2] at e
    unfold sX0_addSetsOf_104 at e
    replace e := cl_s e
    obtain ⟨o1, e1, e⟩ := e
    unfold sX0_sizeOf at e1
    obtain ⟨w1, _, s5⟩ := sizeOf_h F (by decide) (by decide) e1
    rw [w1] at e
    replace e := br_s e
    rcases e with ⟨_, e⟩ | ⟨l, e⟩
    · rw [← Option.some.inj e]; exact Int.le_refl _
    have l := nle_i l
    have nx : ∀ {g : Hp}, CM x ks pw L bc g → 0 ≤ (hJ g x 18).toInt → (hJ g x 18).toInt ≤ 1000000000000 - 15100000000 * (4 - slot.toInt) → sX0_addSetsOf_2 F f g x key (slot + (1 : Int32)) = some o → (hJ g x 18).toInt ≤ (hJ o x 18).toInt := fun {g} Cg g0 gb e => by
      have tv : (slot + (1 : Int32)).toInt = slot.toInt + 1 := by rw [ta (by rw [z1]; omega), z1]
      exact ih Cg (by omega) (by omega) g0 (by omega) e
    replace e := cl_s e
    obtain ⟨o3, e3, e⟩ := e
    unfold sX0_codeIn at e3
    have w3 : o3.2 = h := by rw [← Option.some.inj e3]
    rw [w3] at e
    replace e := nm_s e
    obtain ⟨v4, wv4, e⟩ := e
    replace e := cl_s e
    obtain ⟨r5, er5, e⟩ := e
    replace e := br_s e
    rcases e with ⟨_, e⟩ | ⟨_, e⟩
    · replace e := nm_s e
      obtain ⟨v, wv, e⟩ := e
      rw [wv] at e
      exact nx C t0 (by omega) e
    replace e := cl_s e
    obtain ⟨o7, e7, e⟩ := e
    rw [without_h e7] at e
    replace e := cl_s e
    obtain ⟨o8, e8, e⟩ := e
    obtain ⟨C8, m1, m2⟩ := cadd_m C t0 (by omega) e8
    have := mono_52 (s := slot.toInt) (fun Cg g0 gb e => nx Cg g0 gb e) F C8 (by decide) (by decide) (by omega) (by omega) (by have : (0 : Int32).toInt = 0 := rfl; rw [this]; omega) e
    omega
end
end
section
/-! rows that the reference copies before it adds a SET -/
section
variable {ρ : Nat → Nat} {c : Cm} {hr g : Hp} {m rm re rb rk rs ro F : Nat} {o' : Int32 × Hp}
theorem jo_t {g1 g2 g3 : Hp} (A : Jo ro g1 g2) (B : Jo ro g2 g3) : Jo ro g1 g3 := ⟨fun a i => (B.1 a i).trans (A.1 a i), fun a => (B.2.1 a).trans (A.2.1 a), fun a i => (B.2.2.1 a i).trans (A.2.2.1 a i), fun a i n => (B.2.2.2 a i n).trans (A.2.2.2 a i n)⟩
theorem jo_0 : Jo ro hr hr := ⟨fun _ _ => rfl, fun _ => rfl, fun _ _ => rfl, fun _ _ _ => rfl⟩
/-- without one man -/
theorem cwo_e (hF : 700000 ≤ F) (hA : pmA c seL) (Q : SlR ρ m rm re rb rk rs ro hr) (T : TH ρ c hr) (P : SE m hr) {x1 x2 : Int32} (i1 : Rg 0 4095 x1) (ln : x1.toInt < (hI hr m 49).toInt) (a2 : 0 ≤ x2.toInt) (l2 : x2.toInt < (hI hr rm x1.toNatClampNeg).toInt) (e : sX15_copyWithout F hr m x1 x2 = some o') : ∃ (g : Hp) (x3 : Int32), Jo ro hr g ∧ TH ρ c g ∧ SE m g ∧ RW m x3.toInt g ∧ x3.toInt = (hI hr rm x1.toNatClampNeg).toInt - 1 ∧ (∀ p : Nat, (p : Int) < x3.toInt → hI g ro p = sk (fun p => hI hr re (5 * x1.toNatClampNeg + p)) x2.toNatClampNeg p) ∧ sX15_addSet F g m x3 = some o' := by
  obtain ⟨⟨r0, qm, qe, qb, qk, qs, qo⟩, ⟨e46, e47, e48, e55, e56, e57⟩⟩ := id Q
  have nom : ¬ rm = ro := fun w => absurd (w ▸ qm) (by rw [qo]; decide)
  have noe : ¬ re = ro := fun w => absurd (w ▸ qe) (by rw [qo]; decide)
  have c2 := clamp_i a2
  have im := thI T qm (k := 99) (i := x1.toNatClampNeg) (lo := 0) (hi := 5) rfl
  have cm := clamp_i im.1
  have bm := im.2
  have c1 := clamp_i i1.1
  have z0 : (0 : Int32).toInt = 0 := rfl
  have lp : ∀ (f : Nat) {g : Hp} {x3 x4 : Int32}, TH ρ c g → SE m g → Jo ro hr g → RW m x3.toInt g → 0 ≤ x4.toInt → x4.toInt ≤ (hI hr rm x1.toNatClampNeg).toInt → (x3.toInt = if x4.toInt ≤ x2.toInt then x4.toInt else x4.toInt - 1) → (∀ p : Nat, (p : Int) < x3.toInt → hI g ro p = sk (fun p => hI hr re (5 * x1.toNatClampNeg + p)) x2.toNatClampNeg p) → sX15_copyWithout_5 F f g m x1 x2 x3 x4 = some o' → ∃ (g : Hp) (x3 : Int32), Jo ro hr g ∧ TH ρ c g ∧ SE m g ∧ RW m x3.toInt g ∧ x3.toInt = (hI hr rm x1.toNatClampNeg).toInt - 1 ∧ (∀ p : Nat, (p : Int) < x3.toInt → hI g ro p = sk (fun p => hI hr re (5 * x1.toNatClampNeg + p)) x2.toNatClampNeg p) ∧ sX15_addSet F g m x3 = some o' := by
    intro f
    induction f with
    | zero => intro g x3 x4 _ _ _ _ _ _ _ _ e; exact absurd e (by simp [sX15_copyWithout_5])
    | succ f ih =>
      intro g x3 x4 Tg Pg jo W a4 b4 r3 rows e
      unfold sX15_copyWithout_5 sX15_copyWithout_42 at e
      simp only [nm] at e
      have c4 := clamp_i a4
      replace e := cl_s e; obtain ⟨r1, p, e⟩ := e
      rw [jo.1] at p
      have := r_eq e46 p; subst this
      replace e := (gd_s e).2
      rw [jo.2.2.2 r1 _ nom] at e
      replace e := br_s e; rcases e with ⟨cc, e⟩ | ⟨cc, e⟩
      · have cc := le_i cc
        have x3v : x3.toInt = (hI hr r1 x1.toNatClampNeg).toInt - 1 := by rw [r3, if_neg (by omega)]; omega
        replace e := cl_s e; obtain ⟨o4, e4, e⟩ := e
        have e := Option.some.inj (gd_s e).2
        exact ⟨g, x3, jo, Tg, Pg, W, x3v, rows, by rw [← e]; exact e4⟩
      have cc := nle_i cc
      have i4 : Rg 0 4 x4 := ⟨a4, by omega⟩
      have ny := nc_s i4 (by decide)
      replace e := br_s e; rcases e with ⟨q, e⟩ | ⟨q, e⟩
      · rw [q] at r3
        refine ih Tg Pg jo W (by omega) (by omega) ?_ rows e
        rw [ny.2, if_neg (by rw [q]; omega), r3, if_pos (Int.le_refl _), q]
        omega
      · have q' : ¬ x4.toInt = x2.toInt := fun w => q (Int32.toInt_inj.mp w)
        replace e := cl_s e; obtain ⟨r7, p, e⟩ := e
        rw [jo.1] at p
        have := r_eq e57 p; subst this
        replace e := cl_s e; obtain ⟨r8, p, e⟩ := e
        rw [jo.1] at p
        have := r_eq e47 p; subst this
        replace e := (gd_s e).2
        replace e := (gd_s e).2
        have ix := (ix5 (x1 := x1) (x4 := x4) i1 i4).2
        rw [ix, jo.2.2.2 r8 _ noe] at e
        have x3b : 0 ≤ x3.toInt ∧ x3.toInt ≤ 4 := by rw [r3]; split <;> omega
        have c3 := clamp_i x3b.1
        have n3 := nc_s (x := x3) (b := 4) ⟨x3b.1, x3b.2⟩ (by decide)
        have pos : 1 ≤ (hI hr r8 (5 * x1.toNatClampNeg + x4.toNatClampNeg)).toInt := P.2.2.2.2.1 r1 r8 e46 e47 x1.toNatClampNeg (by omega) x4.toNatClampNeg (by omega)
        have iv := thI T qe (k := 100) (i := 5 * x1.toNatClampNeg + x4.toNatClampNeg) (lo := 0) (hi := 24) rfl
        have T2 : TH ρ c (wI g r7 x3.toNatClampNeg (hI hr r8 (5 * x1.toNatClampNeg + x4.toNatClampNeg))) := th_wI Tg qo (k := 108) (lo := 0) (hi := 24) rfl iv (by decide) (by decide) (pm_a hA rfl)
        obtain ⟨P2, _, W2⟩ := row_w (n := x3.toInt) Tg r0 (by rw [jo.1]; exact e57) qo rfl Pg rfl (Or.inl pos) W
        refine ih T2 P2 (jo_w jo) ?_ (by omega) (by omega) ?_ ?_ e
        · intro ro' er i hi
          replace er : hR g m 57 = some ro' := er
          rw [jo.1] at er
          have := r_eq e57 er; subst this
          rw [r_I]
          by_cases w : i = x3.toNatClampNeg
          · rw [if_pos ⟨rfl, w⟩]; exact pos
          · rw [if_neg (fun z => w z.2)]
            exact W ro' (by rw [jo.1]; exact e57) i (by omega)
        · rw [n3.2, ny.2, r3]
          split <;> split <;> omega
        · intro p hp
          rw [r_I]
          by_cases w : p = x3.toNatClampNeg
          · rw [if_pos ⟨rfl, w⟩, w]
            unfold sk
            by_cases z : x4.toInt ≤ x2.toInt
            · rw [if_pos z] at r3
              rw [if_pos (by omega)]
              congr 1
              omega
            · rw [if_neg z] at r3
              rw [if_neg (by omega)]
              congr 1
              omega
          · rw [if_neg (fun z => w z.2)]
            exact rows p (by omega)
  unfold sX15_copyWithout at e
  exact lp F T P jo_0 (fun _ _ i hi => absurd hi (by rw [z0]; omega)) (by decide) (by rw [z0]; exact im.1) (by rw [z0, if_pos a2]) (fun p hp => absurd hp (by rw [z0]; omega)) e
/-- with one man in another's place -/
theorem b81_e {R Bc : Nat} {k2 : Hp → Nat → Int32 → Option (Int32 × Hp)} {k12 : Hp → Nat → Int32 → Int32 → Option (Int32 × Hp)} {k61 : Hp → Nat → Int32 → Int32 → Int32 → Int32 → Option (Int32 × Hp)} {x1 x2 x3 x4 : Int32} (hA : pmA c seL) (Q : SlR ρ m rm re rb rk rs ro hr) (T : TH ρ c hr) (P : SE m hr) (eR : hR hr m 4 = some R) (eBc : hR hr R 13 = some Bc) (i1 : Rg 0 4095 x1) (ln : x1.toInt < (hI hr m 49).toInt) (a2 : 0 ≤ x2.toInt) (l2 : x2.toInt < (hI hr rm x1.toNatClampNeg).toInt) {vv : Int32} (hv : ((1 : Int32) + ((2 : Int32) * (hI hr Bc (((6 : Int32) * ((x3 - (1 : Int32)) >>> ((1 : Int32) &&& 31))) + x4).toNatClampNeg))) + ((x3 - (1 : Int32)) &&& (1 : Int32)) = vv) (iv : Rg 1 24 vv) : ∀ (f4 : Nat) {g2 : Hp} {x5 : Int32}, TH ρ c g2 → SE m g2 → Jo ro hr g2 → 0 ≤ x5.toInt → x5.toInt ≤ (hI hr rm x1.toNatClampNeg).toInt → RW m x5.toInt g2 → (∀ p : Nat, (p : Int) < x5.toInt → hI g2 ro p = hI hr re (5 * x1.toNatClampNeg + p)) → sX15_addAll_81 F k2 k12 k61 f4 g2 m x1 x2 x3 x4 x5 = some o' → ∃ (g : Hp) (o15 : Int32 × Hp), Jo ro hr g ∧ TH ρ c g ∧ SE m g ∧ RW m (hI hr rm x1.toNatClampNeg).toInt g ∧ (∀ p : Nat, (p : Int) < (hI hr rm x1.toNatClampNeg).toInt → hI g ro p = up (fun p => hI hr re (5 * x1.toNatClampNeg + p)) x2.toNatClampNeg vv p) ∧ sX15_addSet F g m (hI hr rm x1.toNatClampNeg) = some o15 ∧ ((o15.1 = 0 ∧ o' = ((0 : Int32), o15.2)) ∨ (¬ o15.1 = 0 ∧ k61 o15.2 m x1 x2 x3 (x4 + (1 : Int32)) = some o')) := by
  obtain ⟨⟨r0, qm, qe, qb, qk, qs, qo⟩, ⟨e46, e47, e48, e55, e56, e57⟩⟩ := id Q
  have qR : ρ R = 15 := rr T (thR T r0 (i := 4) (k2 := 15) rfl (by decide)) eR
  have qBc : ρ Bc = 80 := rr T (thR T qR (i := 13) (k2 := 80) rfl (by decide)) eBc
  have nom : ¬ rm = ro := fun w => absurd (w ▸ qm) (by rw [qo]; decide)
  have noe : ¬ re = ro := fun w => absurd (w ▸ qe) (by rw [qo]; decide)
  have noBc : ¬ Bc = ro := fun w => absurd (w ▸ qBc) (by rw [qo]; decide)
  have im := thI T qm (k := 99) (i := x1.toNatClampNeg) (lo := 0) (hi := 5) rfl
  have cm := clamp_i im.1
  have bm5 := im.2
  have c1 := clamp_i i1.1
  have c2 := clamp_i a2
  intro f4
  induction f4 with
  | zero => intro g2 x5 _ _ _ _ _ _ _ eD; exact absurd eD (by simp [sX15_addAll_81])
  | succ f4 ih4 =>
    intro g2 x5 T2 P2 jo a5 b5 W rows eD
    unfold sX15_addAll_81 at eD
    simp only [nm] at eD
    have c5 := clamp_i a5
    replace eD := cl_s eD; obtain ⟨q1, p, eD⟩ := eD
    rw [jo.1] at p
    have := r_eq e46 p; subst this
    replace eD := (gd_s eD).2
    have km : hI g2 q1 x1.toNatClampNeg = hI hr q1 x1.toNatClampNeg := jo.2.2.2 q1 _ nom
    rw [km] at eD
    replace eD := br_s eD; rcases eD with ⟨cc, eD⟩ | ⟨cc, eD⟩
    · have cc := le_i cc
      replace eD := cl_s eD; obtain ⟨q4, p, eD⟩ := eD
      rw [jo.1] at p
      have := r_eq e57 p; subst this
      replace eD := cl_s eD; obtain ⟨q5, p, eD⟩ := eD
      rw [jo.1] at p
      have := r_eq eR p; subst this
      replace eD := cl_s eD; obtain ⟨q6, p, eD⟩ := eD
      rw [jo.1] at p
      have := r_eq eBc p; subst this
      replace eD := cl_s eD; obtain ⟨o7, e7, eD⟩ := eD
      unfold sX15_manOf at e7
      have := Option.some.inj e7; subst this
      dsimp only at eD
      replace eD := (gd_s eD).2
      replace eD := cl_s eD; obtain ⟨o9, e9, eD⟩ := eD
      unfold sX15_sideOf at e9
      have := Option.some.inj e9; subst this
      dsimp only at eD
      replace eD := cl_s eD; obtain ⟨o10, e10, eD⟩ := eD
      unfold sX15_valueOf at e10
      have := Option.some.inj e10; subst this
      dsimp only at eD
      rw [jo.2.2.2 q6 _ noBc] at eD
      replace eD := (gd_s eD).2
      rw [hv] at eD
      have T12 : TH ρ c (wI g2 q4 x2.toNatClampNeg vv) := th_wI T2 qo (k := 108) (lo := 0) (hi := 24) rfl (rg_m iv (by decide)) (by decide) (by decide) (pm_a hA rfl)
      obtain ⟨P12, _, W12⟩ := row_w (n := x5.toInt) T2 r0 (by rw [jo.1]; exact e57) qo rfl P2 rfl (Or.inl iv.1) W
      replace eD := cl_s eD; obtain ⟨q13, p, eD⟩ := eD
      replace p : hR g2 m 46 = some q13 := p
      rw [jo.1] at p
      have := r_eq e46 p; subst this
      replace eD := (gd_s eD).2
      have km2 : hI (wI g2 q4 x2.toNatClampNeg vv) q13 x1.toNatClampNeg = hI hr q13 x1.toNatClampNeg := by rw [r_I, if_neg (fun w => nom w.1)]; exact km
      rw [km2] at eD
      replace eD := cl_s eD; obtain ⟨o15, e15, eD⟩ := eD
      have e5 : x5.toInt = (hI hr q13 x1.toNatClampNeg).toInt := by omega
      rw [e5] at W12
      refine ⟨_, o15, jo_w jo, T12, P12, W12, fun p hp => ?_, e15, ?_⟩
      · unfold up
        rw [r_I]
        by_cases w2 : p = x2.toNatClampNeg
        · rw [if_pos ⟨rfl, w2⟩, if_pos w2]
        · rw [if_neg (fun z => w2 z.2), if_neg w2]
          exact rows p (by omega)
      · replace eD := br_s eD; rcases eD with ⟨z, eD⟩ | ⟨nz, eD⟩
        · exact Or.inl ⟨z, (Option.some.inj eD).symm⟩
        · exact Or.inr ⟨nz, eD⟩
    · have cc := nle_i cc
      replace eD := cl_s eD; obtain ⟨q18, p, eD⟩ := eD
      rw [jo.1] at p
      have := r_eq e57 p; subst this
      replace eD := cl_s eD; obtain ⟨q19, p, eD⟩ := eD
      rw [jo.1] at p
      have := r_eq e47 p; subst this
      replace eD := (gd_s eD).2
      replace eD := (gd_s eD).2
      have i5 : Rg 0 4 x5 := ⟨a5, by omega⟩
      have ix := (ix5 (x1 := x1) (x4 := x5) i1 i5).2
      rw [ix, jo.2.2.2 q19 _ noe] at eD
      have ny := nc_s i5 (by decide)
      have iw := thI T qe (k := 100) (i := 5 * x1.toNatClampNeg + x5.toNatClampNeg) (lo := 0) (hi := 24) rfl
      have pos : 1 ≤ (hI hr q19 (5 * x1.toNatClampNeg + x5.toNatClampNeg)).toInt := P.2.2.2.2.1 q1 q19 e46 e47 x1.toNatClampNeg (by omega) x5.toNatClampNeg (by omega)
      have T3 : TH ρ c (wI g2 q18 x5.toNatClampNeg (hI hr q19 (5 * x1.toNatClampNeg + x5.toNatClampNeg))) := th_wI T2 qo (k := 108) (lo := 0) (hi := 24) rfl iw (by decide) (by decide) (pm_a hA rfl)
      obtain ⟨P3, _, _⟩ := row_w (n := x5.toInt) T2 r0 (by rw [jo.1]; exact e57) qo rfl P2 rfl (Or.inl pos) W
      refine ih4 T3 P3 (jo_w jo) (by omega) (by omega) ?_ (fun p hp => ?_) eD
      · intro ro' er i hi
        replace er : hR g2 m 57 = some ro' := er
        rw [jo.1] at er
        have := r_eq e57 er; subst this
        rw [r_I]
        by_cases w : i = x5.toNatClampNeg
        · rw [if_pos ⟨rfl, w⟩]; exact pos
        · rw [if_neg (fun z => w z.2)]
          exact W ro' (by rw [jo.1]; exact e57) i (by omega)
      · rw [r_I]
        by_cases w : p = x5.toNatClampNeg
        · rw [if_pos ⟨rfl, w⟩, w]
        · rw [if_neg (fun z => w z.2)]
          exact rows p (by omega)
end
end
section
/-! all SETS that come of one, side by side -/
/-- the laws, as far as SETS ask for them -/
def LBk (x L bm bc m R Bc Bm : Nat) (hc hr : Hp) : Prop := (hR hc x 0 = some L ∧ hR hc L 17 = some bm ∧ hR hc L 18 = some bc) ∧ (hR hr m 4 = some R ∧ hR hr R 13 = some Bc ∧ hR hr R 14 = some Bm) ∧ hI hc L 4 = hI hr R 10 ∧ (∀ q : Nat, q < 12 → (hI hc L 4).toInt = (q : Int) → hI hr Bm q = 0) ∧ ∀ i : Nat, i < 12 → hI hc bc i = hI hr Bm i ∧ Rg 0 6 (hI hc bc i) ∧ ∀ j : Nat, (j : Int) < (hI hc bc i).toInt → hI hc bm (6 * i + j) = hI hr Bc (6 * i + j) ∧ Rg 0 11 (hI hr Bc (6 * i + j))
def LBn (ρ : Nat → Nat) (x ks L bm bc R Bc Bm : Nat) : Prop := (¬ L = ks ∧ ¬ bm = ks ∧ ¬ bc = ks ∧ ¬ bm = x ∧ ¬ bc = x) ∧ ρ R = 15 ∧ ρ Bc = 80 ∧ ρ Bm = 81
def CXs (ρ : Nat → Nat) (c : Cm) (x ks pw L bm bc m rm re rb rk rs ro R Bc Bm : Nat) (hc hr : Hp) : Prop := SlR ρ m rm re rb rk rs ro hr ∧ TH ρ c hr ∧ SE m hr ∧ CE x ks pw hc ∧ JS x ks pw m rm re rk rs hc hr ∧ LBk x L bm bc m R Bc Bm hc hr
section
variable {ρ : Nat → Nat} {c : Cm} {x ks pw L bm bc m rm re rb rk rs ro R Bc Bm F : Nat} {hc hr oc : Hp} {o' : Int32 × Hp} {row : Nat → Int32} {x1 x2 n key : Int32}
theorem js_jo {g : Hp} (Q : SlR ρ m rm re rb rk rs ro hr) (jo : Jo ro hr g) (J : JS x ks pw m rm re rk rs hc hr) : JS x ks pw m rm re rk rs hc g := by
  obtain ⟨⟨q0, qm, qe, qb, qk, qs, qo⟩, _⟩ := Q
  have a1 : ∀ i, hI g rm i = hI hr rm i := fun i => jo.2.2.2 rm i (fun z => by rw [z, qo] at qm; exact absurd qm (by decide))
  have a2 : ∀ i, hI g re i = hI hr re i := fun i => jo.2.2.2 re i (fun z => by rw [z, qo] at qe; exact absurd qe (by decide))
  have a3 : ∀ i, hI g m i = hI hr m i := fun i => jo.2.2.2 m i (fun z => by rw [z, qo] at q0; exact absurd q0 (by decide))
  have a4 : ∀ i, hI g rk i = hI hr rk i := fun i => jo.2.2.2 rk i (fun z => by rw [z, qo] at qk; exact absurd qk (by decide))
  have a5 : ∀ i, hI g rs i = hI hr rs i := fun i => jo.2.2.2 rs i (fun z => by rw [z, qo] at qs; exact absurd qs (by decide))
  obtain ⟨j1, j2, j3, j4, j5, j6⟩ := J
  refine ⟨by rw [a3]; exact j1, by rw [jo.2.2.1]; exact j2, fun k hk => ?_, j4, fun i hi => by rw [a3]; exact j5 i hi, ?_⟩
  · obtain ⟨b1, b2⟩ := j3 k hk
    simp only [a1, a2]
    refine ⟨b1, ?_⟩
    obtain ⟨M, B1, B2, B3⟩ := b2
    exact ⟨M, fun m' hm => by rw [a5]; exact B1 m' hm, by rw [a5]; exact B2, by rw [a4]; exact B3⟩
  · simp only [a1, a3]; exact j6
theorem rf_jo {g : Hp} (Q : SlR ρ m rm re rb rk rs ro hr) (jo : Jo ro hr g) : RF ρ m rm re hr g := by
  obtain ⟨⟨q0, qm, qe, qb, qk, qs, qo⟩, _⟩ := Q
  have n1 : ¬ rm = ro := fun z => by rw [z, qo] at qm; exact absurd qm (by decide)
  have n2 : ¬ re = ro := fun z => by rw [z, qo] at qe; exact absurd qe (by decide)
  have n3 : ¬ m = ro := fun z => by rw [z, qo] at q0; exact absurd q0 (by decide)
  exact ⟨jo.1, jo.2.1, fun a i _ a2 _ => jo.2.2.2 a i (fun z => a2 (by rw [z, qo]; decide)), by rw [jo.2.2.2 m 49 n3]; exact Int.le_refl _, fun k _ => ⟨jo.2.2.2 rm k n1, fun i _ => jo.2.2.2 re _ n2⟩⟩
theorem lb_f {g g' : Hp} (N : LBn ρ x ks L bm bc R Bc Bm) (q0 : ρ m = 16) (A : CFs x ks hc g) (B : RF ρ m rm re hr g') (K : LBk x L bm bc m R Bc Bm hc hr) : LBk x L bm bc m R Bc Bm g g' := by
  obtain ⟨⟨n1, n2, n3, n4, n5⟩, qR, qc, qb⟩ := N
  obtain ⟨⟨e1, e2, e3⟩, ⟨f1, f2, f3⟩, k1, k2, k3⟩ := K
  have cL : hI g L 4 = hI hc L 4 := A.2.1 L 4 (fun z => absurd z.2 (by decide)) n1
  have cb : ∀ i, hI g bc i = hI hc bc i := fun i => A.2.1 bc i (fun z => n5 z.1) n3
  have cm : ∀ i, hI g bm i = hI hc bm i := fun i => A.2.1 bm i (fun z => n4 z.1) n2
  have nm : ∀ {a : Nat}, ρ a = 15 ∨ ρ a = 80 ∨ ρ a = 81 → ¬ a = m := fun {a} h z => by rw [z, q0] at h; exact absurd h (by decide)
  have rR : hI g' R 10 = hI hr R 10 := B.2.2.1 R 10 (by rw [qR]; decide) (by rw [qR]; decide) (fun z => nm (Or.inl qR) z.1)
  have rc : ∀ i, hI g' Bc i = hI hr Bc i := fun i => B.2.2.1 Bc i (by rw [qc]; decide) (by rw [qc]; decide) (fun z => nm (Or.inr (Or.inl qc)) z.1)
  have rb' : ∀ i, hI g' Bm i = hI hr Bm i := fun i => B.2.2.1 Bm i (by rw [qb]; decide) (by rw [qb]; decide) (fun z => nm (Or.inr (Or.inr qb)) z.1)
  refine ⟨⟨by rw [A.1]; exact e1, by rw [A.1]; exact e2, by rw [A.1]; exact e3⟩, ⟨by rw [B.1]; exact f1, by rw [B.1]; exact f2, by rw [B.1]; exact f3⟩, by rw [cL, rR]; exact k1, fun q hq z => by rw [cL] at z; rw [rb']; exact k2 q hq z, fun i hi => ?_⟩
  obtain ⟨a1, a2, a3⟩ := k3 i hi
  refine ⟨by rw [cb, rb']; exact a1, by rw [cb]; exact a2, fun j hj => ?_⟩
  rw [cb] at hj
  rw [cm, rc]; exact a3 j hj
theorem cx_f {g : Hp} {q : Hp} (N : LBn ρ x ks L bm bc R Bc Bm) (X : CXs ρ c x ks pw L bm bc m rm re rb rk rs ro R Bc Bm hc hr) (A : CFs x ks hc g) (B : RF ρ m rm re hr q) (T : TH ρ c q) (P : SE m q) (J : JS x ks pw m rm re rk rs g q) : CXs ρ c x ks pw L bm bc m rm re rb rk rs ro R Bc Bm g q :=
  ⟨slr_r X.1 B.1, T, P, ce_f X.2.2.2.1 A, J, lb_f N X.1.1.1 A B X.2.2.2.2.2⟩
/-- the set at hand -/
def RowA (rm re m : Nat) (x1 n : Int32) (row : Nat → Int32) (hr : Hp) : Prop := hI hr rm x1.toNatClampNeg = n ∧ (∀ p, p < 5 → hI hr re (5 * x1.toNatClampNeg + p) = row p) ∧ x1.toInt < (hI hr m 49).toInt
theorem ra_f {q : Hp} (a1 : 0 ≤ x1.toInt) (B : RF ρ m rm re hr q) (A : RowA rm re m x1 n row hr) : RowA rm re m x1 n row q := by
  have c1 := clamp_i a1
  obtain ⟨y1, y2⟩ := B.2.2.2.2 x1.toNatClampNeg (by have := A.2.2; omega)
  exact ⟨by rw [y1]; exact A.1, fun p hp => by rw [y2 p hp]; exact A.2.1 p hp, by have := A.2.2; have := B.2.2.2.1; omega⟩
/-- a value's man and side -/
theorem man_v {v : Int32} (iv : Rg 1 24 v) : (v - (1 : Int32)).toInt = v.toInt - 1 ∧ Rg 0 11 ((v - (1 : Int32)) >>> ((1 : Int32) &&& 31)) ∧ Rg 0 1 ((v - (1 : Int32)) &&& (1 : Int32)) := by
  have z1 : (1 : Int32).toInt = 1 := rfl
  have v1 := iv.1
  have v2 := iv.2
  have s : (v - (1 : Int32)).toInt = v.toInt - 1 := by rw [ts (by rw [z1]; omega), z1]
  have d := shr_i (x := v - (1 : Int32)) (s := (1 : Int32)) 1 rfl
  have p : ((2 ^ 1 : Nat) : Int) = 2 := rfl
  rw [s, p] at d
  exact ⟨s, ⟨by rw [d]; omega, by rw [d]; omega⟩, rg_and (c := 1) (d := 1) (rg_b rfl) (by decide)⟩
/-- what it becomes -/
theorem bec_p {k2c : Hp → Nat → Int32 → Int32 → Option Hp} {k2r : Hp → Nat → Int32 → Option (Int32 × Hp)} {k12 : Hp → Nat → Int32 → Int32 → Option (Int32 × Hp)} {v rest : Int32} (hF : 700000 ≤ F) (hA : pmA c seL) (N : LBn ρ x ks L bm bc R Bc Bm) (i1 : Rg 0 4095 x1) (a2 : 0 ≤ x2.toInt) (l2 : x2.toInt < n.toInt) (Kk : Kq key n.toNatClampNeg row) (ev : v = row x2.toNatClampNeg) (Kr : Kq rest (n.toNatClampNeg - 1) (sk row x2.toNatClampNeg)) : ∀ (f g : Nat) {hc hr : Hp} {j : Int32}, CXs ρ c x ks pw L bm bc m rm re rb rk rs ro R Bc Bm hc hr → RowA rm re m x1 n row hr → 0 ≤ j.toInt → j.toInt ≤ 6 → sX0_addSetsOf_52 F k2c f hc x key x2 (v - (1 : Int32)) ((v - (1 : Int32)) >>> ((1 : Int32) &&& 31)) rest j = some oc → sX15_addAll_61 F k2r k12 g hr m x1 x2 v j = some o' → ∃ hc2, CFs x ks hc hc2 ∧ CE x ks pw hc2 ∧ ((∃ (f2 : Nat) (j2 : Int32), o'.1 = 0 ∧ (0 ≤ j2.toInt ∧ j2.toInt ≤ 6) ∧ 600000 < (hJ hc2 x 18).toInt ∧ (hJ hc2 x 18).toInt ≤ 600000 + 2147483648 ∧ sX0_addSetsOf_52 F k2c f2 hc2 x key x2 (v - (1 : Int32)) ((v - (1 : Int32)) >>> ((1 : Int32) &&& 31)) rest j2 = some oc) ∨ ∃ hr2, RF ρ m rm re hr hr2 ∧ CXs ρ c x ks pw L bm bc m rm re rb rk rs ro R Bc Bm hc2 hr2 ∧ k2c hc2 x key (x2 + (1 : Int32)) = some oc ∧ k12 hr2 m x1 (x2 + (1 : Int32)) = some o') := by
  have z1 : (1 : Int32).toInt = 1 := rfl
  have z2 : (2 : Int32).toInt = 2 := rfl
  have z6 : (6 : Int32).toInt = 6 := rfl
  have c2 := clamp_i a2
  have n5 := Kk.1
  have i11 := i1.1
  have nn : (n.toNatClampNeg : Int) = n.toInt := nc_i (by omega)
  have vr := Kk.2.2.1 x2.toNatClampNeg (by omega)
  rw [← ev] at vr
  obtain ⟨s1, mr, sr⟩ := man_v (v := v) vr
  have mr0 := mr.1
  have mr1 := mr.2
  have sr0 := sr.1
  have sr1 := sr.2
  generalize hman : (v - (1 : Int32)) >>> ((1 : Int32) &&& 31) = man at *
  generalize hcode : v - (1 : Int32) = code at *
  generalize hside : code &&& (1 : Int32) = side at *
  have cman := clamp_i mr0
  intro f
  induction f with
  | zero => intro g hc hr j _ _ _ _ e; exact absurd e (by rw [sX0_addSetsOf_52]; exact fun z => nomatch z)
  | succ f ih =>
    intro g hc hr j X A j0 j6 e e'
    cases g with
    | zero => exact absurd e' (by rw [sX15_addAll_61]; exact fun z => nomatch z)
    | succ g =>
      obtain ⟨Q, T, P, E, J, K⟩ := id X
      obtain ⟨⟨e1, e17, e18⟩, ⟨f4, f13, f14⟩, kroy, k0, k3⟩ := id K
      obtain ⟨ct1, ct2, ct3⟩ := k3 man.toNatClampNeg (by omega)
      rw [sX0_addSetsOf_52] at e
      unfold sX0_addSetsOf_104 at e
      rw [sX15_addAll_61] at e'
      replace e := cl_s e; obtain ⟨r1, p, e⟩ := e
      rw [r_eq e1 p] at e
      replace e := cl_s e; obtain ⟨r2, p, e⟩ := e
      rw [r_eq e18 p] at e
      replace e := (gd_s e).2
      replace e' := cl_s e'; obtain ⟨r1', p, e'⟩ := e'
      rw [r_eq f4 p] at e'
      replace e' := cl_s e'; obtain ⟨r2', p, e'⟩ := e'
      rw [r_eq f14 p] at e'
      replace e' := cl_s e'; obtain ⟨o3, e3, e'⟩ := e'
      unfold sX15_manOf at e3
      rw [hcode, hman] at e3
      have y3 := Option.some.inj e3
      rw [← y3] at e'
      dsimp only at e'
      replace e' := (gd_s e').2
      rw [← ct1] at e'
      replace e := br_s e
      replace e' := br_s e'
      rcases e with ⟨l, e⟩ | ⟨l, e⟩
      · rcases e' with ⟨_, e'⟩ | ⟨l', _⟩
        rotate_left
        · exact absurd l l'
        replace e := nm_s e
        obtain ⟨w, ww, e⟩ := e
        replace e' := nm_s e'
        obtain ⟨w', ww', e'⟩ := e'
        rw [ww] at e
        rw [ww'] at e'
        exact ⟨hc, cfs_0, E, Or.inr ⟨hr, rf_0, X, e, e'⟩⟩
      rcases e' with ⟨l', _⟩ | ⟨_, e'⟩
      · exact absurd l' l
      have l := nle_i l
      have ct6 := ct2.2
      have jn := clamp_i j0
      -- the class's new key
      replace e := cl_s e; obtain ⟨r5, p, e⟩ := e
      rw [r_eq e1 p] at e
      replace e := cl_s e; obtain ⟨r6, p, e⟩ := e
      rw [r_eq e17 p] at e
      replace e := (gd_s e).2
      have m6 : (man * (6 : Int32)).toInt = man.toInt * 6 := by rw [tm (by rw [z6]; omega), z6]
      have ad : ((man * (6 : Int32)) + j).toInt = man.toInt * 6 + j.toInt := by rw [ta (by rw [m6]; omega), m6]
      have ic := clamp_i (v := (man * (6 : Int32)) + j) (by omega)
      have ie : ((man * (6 : Int32)) + j).toNatClampNeg = 6 * man.toNatClampNeg + j.toNatClampNeg := by omega
      have m6' : ((6 : Int32) * man).toInt = 6 * man.toInt := by rw [tm (by rw [z6]; omega), z6]
      have ad' : (((6 : Int32) * man) + j).toInt = 6 * man.toInt + j.toInt := by rw [ta (by rw [m6']; omega), m6']
      have ic' := clamp_i (v := ((6 : Int32) * man) + j) (by omega)
      have ie' : (((6 : Int32) * man) + j).toNatClampNeg = 6 * man.toNatClampNeg + j.toNatClampNeg := by omega
      obtain ⟨b1, b2⟩ := ct3 j.toNatClampNeg (by omega)
      rw [ie, b1, hside] at e
      generalize hb : hI hr Bc (6 * man.toNatClampNeg + j.toNatClampNeg) = bv at *
      have b20 := b2.1
      have b21 := b2.2
      have t2 : ((2 : Int32) * bv).toInt = 2 * bv.toInt := by rw [tm (by rw [z2]; omega), z2]
      have tw : (((2 : Int32) * bv) + side).toInt = 2 * bv.toInt + side.toInt := by rw [ta (by rw [t2]; omega), t2]
      have t3 : ((1 : Int32) + ((2 : Int32) * bv)).toInt = 1 + 2 * bv.toInt := by rw [ta (by rw [t2, z1]; omega), t2, z1]
      have tv : (((1 : Int32) + ((2 : Int32) * bv)) + side).toInt = 1 + 2 * bv.toInt + side.toInt := by rw [ta (by rw [t3]; omega), t3]
      generalize hvv : ((1 : Int32) + ((2 : Int32) * bv)) + side = vv at tv
      generalize hw0 : ((2 : Int32) * bv) + side = w0 at *
      have ivv : Rg 1 24 vv := ⟨by omega, by omega⟩
      replace e := cl_s e; obtain ⟨o8, e8, e⟩ := e
      have n4 : n.toNatClampNeg - 1 ≤ 4 := by omega
      obtain ⟨w8, pp, p4, pA, pB, pK⟩ := wi_k (pad_24 Kr.2.2.1) (by unfold pad; rw [if_neg (by omega)]) Kr.2.1 ⟨by omega, by omega⟩ e8
      rw [w8] at e
      have vw : vv.toInt = w0.toInt + 1 := by omega
      rw [← vw] at pA pB pK
      obtain ⟨Kn, Cn⟩ := kq_ins n4 Kr p4 pA pB ivv.1 ivv.2 pK
      have nn1 : n.toNatClampNeg - 1 + 1 = n.toNatClampNeg := by omega
      rw [nn1] at Kn Cn
      replace e := cl_s e; obtain ⟨o9, e9, e⟩ := e
      replace e := nm_s e
      obtain ⟨j', wj, e⟩ := e
      rw [wj] at e
      -- the reference's new row
      have ln := A.2.2
      obtain ⟨gg, o15, jo, Tg, Pg, Wg, rows, e15, alt⟩ := b81_e (F := F) (ro := ro) (x3 := v) (vv := vv) hA Q T P f4 f13 i1 ln a2 (by rw [A.1]; exact l2) (by rw [hcode, hman, hside, ie', hb]; exact hvv) ivv F T P jo_0 (by decide) (by rw [A.1]; show (0 : Int) ≤ n.toInt; omega) (fun _ _ i hi => absurd hi (by show ¬ (i : Int) < 0; omega)) (fun p hp => absurd hp (by show ¬ (p : Int) < 0; omega)) e'
      rw [A.1] at Wg rows e15
      have Cg : ∀ w, cn (ins (sk row x2.toNatClampNeg) pp vv) w n.toNatClampNeg = cn (fun i => hI gg ro i) w n.toNatClampNeg := fun w => by
        have h1 := Cn w
        have h2 := cn_sk (f := row) (k := x2.toNatClampNeg) (w := w) (n.toNatClampNeg - 1) (by omega)
        rw [nn1] at h2
        have h3 := cn_up (f := row) (k := x2.toNatClampNeg) (v := vv) (w := w) n.toNatClampNeg (by omega)
        have h4 : cn (fun i => hI gg ro i) w n.toNatClampNeg = cn (up row x2.toNatClampNeg vv) w n.toNatClampNeg := cn_eq _ (fun i hi => by
          rw [rows i (by omega)]
          unfold up
          by_cases q : i = x2.toNatClampNeg
          · rw [if_pos q, if_pos q]
          · rw [if_neg q, if_neg q]; exact A.2.1 i (by omega))
        rw [h4]
        omega
      obtain ⟨⟨T15, P15⟩, CF9, alt9⟩ := add_p hF hA (slr_r Q jo.1) Tg Pg E (js_jo Q jo J) ⟨by omega, by omega⟩ Wg Kn Cg e9 e15
      have tj : (j + (1 : Int32)).toInt = j.toInt + 1 := by rw [ta (by rw [z1]; omega), z1]
      rcases alt9 with ⟨z15, big⟩ | ⟨z15, RF15, J15⟩
      · rcases alt with ⟨_, eo'⟩ | ⟨nz, _⟩
        rotate_left
        · exact absurd z15 nz
        refine ⟨o9, CF9, ce_f E CF9, Or.inl ⟨f, j + (1 : Int32), by rw [eo'], ⟨by omega, by omega⟩, big, ?_, e⟩⟩
        -- the total grows by one SET at most
        have tb := J.2.1.2.2
        have cq := cadd_q hF E.1.1 E.1.2 E.2.1 Kn J.1.2 J.2.1.2.1 (by omega) (by
          have pv := J.2.2.2.2.1 n.toNatClampNeg n5
          have isq : Rg 9 64 (hI hr m 13) := thI T Q.1.1 (k := 16) (i := 13) rfl
          have q9 := isq.1
          have pb := pow_sq (s := (hI hr m 13).toInt) (by omega) isq.2 n.toNatClampNeg n5
          exact ⟨by rw [pv]; exact pb.1, by rw [pv]; exact pb.2⟩) e9
        have pv := J.2.2.2.2.1 n.toNatClampNeg n5
        have isq : Rg 9 64 (hI hr m 13) := thI T Q.1.1 (k := 16) (i := 13) rfl
        have q9 := isq.1
        have pb := pow_sq (s := (hI hr m 13).toInt) (by omega) isq.2 n.toNatClampNeg n5
        rcases cq with ⟨_, eo⟩ | ⟨_, Tn, eT, ⟨_, eo⟩ | ⟨⟨le6, _⟩, eo⟩⟩
        · rw [eo]; omega
        · rw [eo, r_J, if_pos ⟨rfl, rfl⟩, eT]
          unfold cT
          rw [pv]
          omega
        · rw [eo]
          show (hJ (wJ hc x 18 Tn) x 18).toInt ≤ _
          rw [r_J, if_pos ⟨rfl, rfl⟩, eT]
          omega
      · rcases alt with ⟨z, _⟩ | ⟨_, e61⟩
        · rw [z15] at z; exact absurd z (by decide)
        have RFa : RF ρ m rm re hr o15.2 := rf_t (rf_jo Q jo) RF15
        obtain ⟨hc2, A2, E2, alt2⟩ := ih g (cx_f N X CF9 RFa T15 P15 J15) (ra_f i11 RFa A) (by omega) (by omega) e e61
        refine ⟨hc2, cfs_t CF9 A2, E2, ?_⟩
        rcases alt2 with q | ⟨hr2, B2, X2, q1, q2⟩
        · exact Or.inl q
        · exact Or.inr ⟨hr2, rf_t RFa B2, X2, q1, q2⟩
end
end
