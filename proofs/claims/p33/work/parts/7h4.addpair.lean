/-! both addSets side by side -/
def JS (x ks pw m rm re rk rs : Nat) (hc hr : Hp) : Prop := (hI hc x 9 = hI hr m 49 ∧ Rg 0 1024 (hI hc x 9)) ∧ ((hJ hc x 18).toInt = (hJ hr m 59).toInt ∧ 0 ≤ (hJ hc x 18).toInt ∧ (hJ hc x 18).toInt ≤ 600000) ∧ (∀ k : Nat, (k : Int) < (hI hc x 9).toInt → Kq (hI hc ks k) (hI hr rm k).toNatClampNeg (fun i => hI hr re (5 * k + i)) ∧ Fnd rs rk (pkF (fun i => hI hr re (5 * k + i)) (hI hr rm k) (hI hr rm k).toNatClampNeg) hr) ∧ (∀ j k : Nat, j < k → (k : Int) < (hI hc x 9).toInt → ¬ hI hc ks j = hI hc ks k) ∧ (∀ i, i ≤ 5 → (hI hc pw i).toInt = (hI hr m 13).toInt ^ i) ∧ sm (fun k => 2 * (hI hr m 13).toInt ^ (hI hr rm k).toNatClampNeg) (hI hc x 9).toNatClampNeg = (hJ hc x 18).toInt
def CE (x ks pw : Nat) (hc : Hp) : Prop := (hR hc x 4 = some ks ∧ hR hc x 6 = some pw) ∧ ¬ x = ks ∧ ¬ pw = x ∧ ¬ pw = ks
/-- what the class leaves -/
def CFs (x ks : Nat) (hc oc : Hp) : Prop := (∀ a i, hR oc a i = hR hc a i) ∧ (∀ a i, ¬ (a = x ∧ i = 9) → ¬ a = ks → hI oc a i = hI hc a i) ∧ (∀ k : Nat, (k : Int) < (hI hc x 9).toInt → hI oc ks k = hI hc ks k) ∧ (hI hc x 9).toInt ≤ (hI oc x 9).toInt ∧ (hJ hc x 18).toInt ≤ (hJ oc x 18).toInt
/-- what the reference leaves -/
def RF (ρ : Nat → Nat) (m rm re : Nat) (h g : Hp) : Prop := (∀ a i, hR g a i = hR h a i) ∧ (∀ a, hN g a = hN h a) ∧ (∀ a i, ¬ (99 ≤ ρ a ∧ ρ a ≤ 101) → ¬ (106 ≤ ρ a ∧ ρ a ≤ 108) → ¬ (a = m ∧ i = 49) → hI g a i = hI h a i) ∧ (hI h m 49).toInt ≤ (hI g m 49).toInt ∧ ∀ k : Nat, (k : Int) < (hI h m 49).toInt → hI g rm k = hI h rm k ∧ ∀ i, i < 5 → hI g re (5 * k + i) = hI h re (5 * k + i)
section
variable {ρ : Nat → Nat} {c : Cm} {hc hr oc : Hp} {x ks pw m rm re rb rk rs ro F : Nat} {n x1 : Int32} {f : Nat → Int32} {o' : Int32 × Hp}
theorem cfs_0 : CFs x ks hc hc := ⟨fun _ _ => rfl, fun _ _ _ _ => rfl, fun _ _ => rfl, Int.le_refl _, Int.le_refl _⟩
theorem cfs_t {g1 g2 g3 : Hp} (A : CFs x ks g1 g2) (B : CFs x ks g2 g3) : CFs x ks g1 g3 := ⟨fun a i => (B.1 a i).trans (A.1 a i), fun a i n1 n2 => (B.2.1 a i n1 n2).trans (A.2.1 a i n1 n2), fun k hk => (B.2.2.1 k (by have := A.2.2.2.1; omega)).trans (A.2.2.1 k hk), Int.le_trans A.2.2.2.1 B.2.2.2.1, Int.le_trans A.2.2.2.2 B.2.2.2.2⟩
theorem rf_0 : RF ρ m rm re hr hr := ⟨fun _ _ => rfl, fun _ => rfl, fun _ _ _ _ _ => rfl, Int.le_refl _, fun _ _ => ⟨rfl, fun _ _ => rfl⟩⟩
theorem rf_t {g1 g2 g3 : Hp} (A : RF ρ m rm re g1 g2) (B : RF ρ m rm re g2 g3) : RF ρ m rm re g1 g3 := ⟨fun a i => (B.1 a i).trans (A.1 a i), fun a => (B.2.1 a).trans (A.2.1 a), fun a i n1 n2 n3 => (B.2.2.1 a i n1 n2 n3).trans (A.2.2.1 a i n1 n2 n3), Int.le_trans A.2.2.2.1 B.2.2.2.1, fun k hk => ⟨((B.2.2.2.2 k (by have := A.2.2.2.1; omega)).1).trans (A.2.2.2.2 k hk).1, fun i hi => ((B.2.2.2.2 k (by have := A.2.2.2.1; omega)).2 i hi).trans ((A.2.2.2.2 k hk).2 i hi)⟩⟩
theorem ce_f (E : CE x ks pw hc) (A : CFs x ks hc oc) : CE x ks pw oc := ⟨⟨by rw [A.1]; exact E.1.1, by rw [A.1]; exact E.1.2⟩, E.2⟩
/-- the row may be written -/
theorem rf_w (qo : ρ ro = 108) (qm : ρ rm = 99) (qe : ρ re = 100) (q0 : ρ m = 16) {j : Nat} {v : Int32} : RF ρ m rm re hr (wI hr ro j v) := by
  have n1 : ¬ rm = ro := fun z => by rw [z, qo] at qm; exact absurd qm (by decide)
  have n2 : ¬ re = ro := fun z => by rw [z, qo] at qe; exact absurd qe (by decide)
  have n3 : ¬ m = ro := fun z => by rw [z, qo] at q0; exact absurd q0 (by decide)
  exact ⟨fun _ _ => rfl, fun _ => rfl, fun a i _ a2 _ => rI_a (fun z => a2 (by rw [z, qo]; decide)), by rw [rI_a n3]; exact Int.le_refl _, fun k _ => ⟨rI_a n1, fun i _ => rI_a n2⟩⟩
theorem js_w (Q : SlR ρ m rm re rb rk rs ro hr) {j : Nat} {v : Int32} (J : JS x ks pw m rm re rk rs hc hr) : JS x ks pw m rm re rk rs hc (wI hr ro j v) := by
  obtain ⟨⟨q0, qm, qe, qb, qk, qs, qo⟩, _⟩ := Q
  have n1 : ¬ rm = ro := fun z => by rw [z, qo] at qm; exact absurd qm (by decide)
  have n2 : ¬ re = ro := fun z => by rw [z, qo] at qe; exact absurd qe (by decide)
  have n3 : ¬ m = ro := fun z => by rw [z, qo] at q0; exact absurd q0 (by decide)
  have n4 : ¬ rk = ro := fun z => by rw [z, qo] at qk; exact absurd qk (by decide)
  have n5 : ¬ rs = ro := fun z => by rw [z, qo] at qs; exact absurd qs (by decide)
  have a1 : ∀ i, hI (wI hr ro j v) rm i = hI hr rm i := fun i => rI_a n1
  have a2 : ∀ i, hI (wI hr ro j v) re i = hI hr re i := fun i => rI_a n2
  have a3 : ∀ i, hI (wI hr ro j v) m i = hI hr m i := fun i => rI_a n3
  have a4 : ∀ i, hI (wI hr ro j v) rk i = hI hr rk i := fun i => rI_a n4
  have a5 : ∀ i, hI (wI hr ro j v) rs i = hI hr rs i := fun i => rI_a n5
  obtain ⟨j1, j2, j3, j4, j5, j6⟩ := J
  refine ⟨by rw [a3]; exact j1, j2, fun k hk => ?_, j4, fun i hi => by rw [a3]; exact j5 i hi, ?_⟩
  · obtain ⟨b1, b2⟩ := j3 k hk
    simp only [a1, a2]
    refine ⟨b1, ?_⟩
    obtain ⟨M, B1, B2, B3⟩ := b2
    exact ⟨M, fun m' hm => by rw [a5]; exact B1 m' hm, by rw [a5]; exact B2, by rw [a4]; exact B3⟩
  · simp only [a1, a3]; exact j6
theorem slr_r (Q : SlR ρ m rm re rb rk rs ro hr) {g : Hp} (A : ∀ a i, hR g a i = hR hr a i) : SlR ρ m rm re rb rk rs ro g := by
  obtain ⟨q, e1, e2, e3, e4, e5, e6⟩ := Q
  exact ⟨q, by rw [A]; exact e1, by rw [A]; exact e2, by rw [A]; exact e3, by rw [A]; exact e4, by rw [A]; exact e5, by rw [A]; exact e6⟩
theorem add_p (hF : 700000 ≤ F) (hA : pmA c seL) (Q : SlR ρ m rm re rb rk rs ro hr) (T : TH ρ c hr) (P : SE m hr) (E : CE x ks pw hc) (J : JS x ks pw m rm re rk rs hc hr) (i1 : Rg 0 5 n) (W : RW m n.toInt hr) (Qx : Kq x1 n.toNatClampNeg f) (C : ∀ v, cn f v n.toNatClampNeg = cn (fun i => hI hr ro i) v n.toNatClampNeg) (ec : sX0_addSet F hc x x1 = some oc) (er : sX15_addSet F hr m n = some o') : (TH ρ c o'.2 ∧ SE m o'.2) ∧ CFs x ks hc oc ∧ ((o'.1 = 0 ∧ 600000 < (hJ oc x 18).toInt) ∨ (o'.1 = 1 ∧ RF ρ m rm re hr o'.2 ∧ JS x ks pw m rm re rk rs oc o'.2)) := by
  have z1 : (1 : Int32).toInt = 1 := rfl
  obtain ⟨⟨q0, qm, qe, qb, qk, qs, qo⟩, e46, e47, e48, e55, e56, e57⟩ := id Q
  obtain ⟨ht, _⟩ := ads_t hF hA Q T P i1 W er
  refine ⟨ht, ?_⟩
  obtain ⟨⟨j1, js⟩, ⟨j2, t0, t6⟩, j3, j4, j5, j6⟩ := id J
  obtain ⟨⟨e4, e6⟩, nk, npx, npk⟩ := E
  have n5 := i1.2
  have nn := clamp_i i1.1
  have s49 := thI T q0 (k := 16) (i := 49) (lo := 0) (hi := 4096) rfl
  have isq : Rg 9 64 (hI hr m 13) := thI T q0 (k := 16) (i := 13) rfl
  have sq9 := isq.1
  have js0 := js.1
  have js1 := js.2
  have ns := nc_i js0
  have pv : (hI hc pw n.toNatClampNeg).toInt = (hI hr m 13).toInt ^ n.toNatClampNeg := j5 _ (by omega)
  have pb := pow_sq (s := (hI hr m 13).toInt) (by omega) isq.2 n.toNatClampNeg (by omega)
  have p9 := (pow_9 sq9 n.toNatClampNeg).1
  have CT : cT hc x pw n.toNatClampNeg = (hJ hr m 59).toInt + 2 * (hI hr m 13).toInt ^ n.toNatClampNeg := by
    unfold cT
    rw [pv, j2]
  obtain ⟨g, Sg, Cg, az⟩ := ads_z hF Q i1 (thN T qo (k := 108) (n := 6) rfl (by decide)) (fun j => by have := thI T qs (k := 107) (i := j) (lo := 0) (hi := 4096) rfl; exact ⟨this.1, this.2⟩) s49.1 s49.2 er isq (by omega) (by omega)
  have gf : ∀ i, i < n.toNatClampNeg → g i = f i := sd_uni n.toNatClampNeg Sg Qx.2.2.2 (fun v => (Cg v).trans (C v).symm)
  -- found by the one where found by the other
  have r24 : ∀ k j, Rg 0 31 (hI hr re (5 * k + j)) := fun k j => by
    have := thI T qe (k := 100) (i := 5 * k + j) (lo := 0) (hi := 24) rfl
    exact ⟨this.1, by have := this.2; omega⟩
  have m5 : ∀ k, Rg 0 5 (hI hr rm k) := fun k => thI T qm (k := 99) (i := k) (lo := 0) (hi := 5) rfl
  have f1 : (∃ k : Nat, (k : Int) < (hI hc x 9).toInt ∧ hI hc ks k = x1) → Fnd rs rk (pkF g n n.toNatClampNeg) hr := by
    rintro ⟨k, hk, ek⟩
    obtain ⟨b1, b2⟩ := j3 k hk
    rw [ek] at b1
    obtain ⟨y1, y2⟩ := kq_inj Qx b1
    have mk := clamp_i (m5 k).1
    have en : hI hr rm k = n := Int32.toInt_inj.mp (by omega)
    rw [en] at b2
    rw [pkF_eq (g := fun i => hI hr re (5 * k + i)) _ (fun i hi => (gf i hi).trans (y2 i hi))]
    exact b2
  have f2 : Fnd rs rk (pkF g n n.toNatClampNeg) hr → ∃ k : Nat, (k : Int) < (hI hc x 9).toInt ∧ hI hc ks k = x1 := by
    rintro ⟨M, _, B2, B3⟩
    have S4' := P.2.2.2.1 rs rk rm re e56 e55 e46 e47 (sl (pkF g n n.toNatClampNeg) M) (Nat.mod_lt _ (by decide)) B2
    obtain ⟨u1, u2⟩ := S4'
    generalize hk : (hI hr rs (sl (pkF g n n.toNatClampNeg) M)).toInt.toNat - 1 = k at u2
    have lk : (k : Int) < (hI hc x 9).toInt := by rw [j1]; omega
    rw [B3, pkN_F] at u2
    have u3 : pkF (fun i => if i < n.toNatClampNeg then g i else 0) n n.toNatClampNeg = pkF (fun i => hI hr re (5 * k + i)) (hI hr rm k) (hI hr rm k).toNatClampNeg := by
      rw [← u2]
      exact pkF_eq _ (fun i hi => if_pos hi)
    obtain ⟨v1, v2⟩ := pkF_inj i1 (m5 k) (fun j => by
      show Rg 0 31 (if j < n.toNatClampNeg then g j else 0)
      split
      · next l =>
        rw [gf j l]
        have := Qx.2.2.1 j l
        exact ⟨by omega, by omega⟩
      · exact ⟨by decide, by decide⟩) (r24 k) u3
    refine ⟨k, lk, ?_⟩
    obtain ⟨b1, _⟩ := j3 k lk
    rw [← v1] at b1
    refine (kq_key Qx b1 (fun i hi => ?_)).symm
    have := v2 i hi
    rw [if_pos hi] at this
    rw [← gf i hi]; exact this
  have cq := cadd_q hF e4 e6 nk Qx js t0 (by omega) ⟨by rw [pv]; omega, by rw [pv]; omega⟩ ec
  rcases cq with ⟨fnd, eo⟩ | ⟨nfd, Tn, eT, cq⟩
  · -- there already
    rcases az with ⟨_, o1, jo⟩ | ⟨nf, _⟩
    rotate_left
    · exact absurd (f1 fnd) nf
    subst eo
    refine ⟨cfs_0, Or.inr ⟨o1, ?_, ?_⟩⟩
    · have n1 : ¬ rm = ro := fun z => by rw [z, qo] at qm; exact absurd qm (by decide)
      have n2 : ¬ re = ro := fun z => by rw [z, qo] at qe; exact absurd qe (by decide)
      have n3 : ¬ m = ro := fun z => by rw [z, qo] at q0; exact absurd q0 (by decide)
      exact ⟨jo.1, jo.2.1, fun a i _ a2 _ => jo.2.2.2 a i (fun z => a2 (by rw [z, qo]; decide)), by rw [jo.2.2.2 m 49 n3]; exact Int.le_refl _, fun k _ => ⟨jo.2.2.2 rm k n1, fun i _ => jo.2.2.2 re _ n2⟩⟩
    · have n1 : ¬ rm = ro := fun z => by rw [z, qo] at qm; exact absurd qm (by decide)
      have n2 : ¬ re = ro := fun z => by rw [z, qo] at qe; exact absurd qe (by decide)
      have n3 : ¬ m = ro := fun z => by rw [z, qo] at q0; exact absurd q0 (by decide)
      have n4 : ¬ rk = ro := fun z => by rw [z, qo] at qk; exact absurd qk (by decide)
      have n5' : ¬ rs = ro := fun z => by rw [z, qo] at qs; exact absurd qs (by decide)
      have a1 : ∀ i, hI o'.2 rm i = hI hr rm i := fun i => jo.2.2.2 rm i n1
      have a2 : ∀ i, hI o'.2 re i = hI hr re i := fun i => jo.2.2.2 re i n2
      have a3 : ∀ i, hI o'.2 m i = hI hr m i := fun i => jo.2.2.2 m i n3
      have a4 : ∀ i, hI o'.2 rk i = hI hr rk i := fun i => jo.2.2.2 rk i n4
      have a5 : ∀ i, hI o'.2 rs i = hI hr rs i := fun i => jo.2.2.2 rs i n5'
      refine ⟨⟨by rw [a3]; exact j1, js⟩, ⟨by rw [jo.2.2.1]; exact j2, t0, t6⟩, fun k hk => ?_, j4, fun i hi => by rw [a3]; exact j5 i hi, ?_⟩
      · obtain ⟨b1, b2⟩ := j3 k hk
        simp only [a1, a2]
        refine ⟨b1, ?_⟩
        obtain ⟨M, B1, B2, B3⟩ := b2
        exact ⟨M, fun m' hm => by rw [a5]; exact B1 m' hm, by rw [a5]; exact B2, by rw [a4]; exact B3⟩
      · simp only [a1, a3]; exact j6
  rcases az with ⟨fd, _⟩ | ⟨_, az⟩
  · obtain ⟨k, hk, ek⟩ := f2 fd
    exact absurd ek (nfd k hk)
  have cnt : (hI hc x 9).toInt ≤ 736 := by
    have := cnt_lt (key := fun k => hI hc ks k) (nk := fun k => (hI hr rm k).toNatClampNeg) (row := fun k i => hI hr re (5 * k + i)) (s := (hI hc x 9).toNatClampNeg) sq9 (fun k hk => (j3 k (by omega)).1) (fun j k h1 h2 => j4 j k h1 (by omega)) (by rw [j6]; exact t6)
    omega
  rcases cq with ⟨big, eo⟩ | ⟨⟨le6, ls⟩, eo⟩
  · -- too great
    have big' : 600000 < cT hc x pw n.toNatClampNeg := by
      rcases big with z | z
      · exact z
      · omega
    have T6 : (hJ oc x 18).toInt = cT hc x pw n.toNatClampNeg := by rw [eo, r_J, if_pos ⟨rfl, rfl⟩, eT]
    refine ⟨⟨fun a i => by rw [eo]; rfl, fun a i _ _ => by rw [eo]; rfl, fun k _ => by rw [eo]; rfl, by rw [eo]; exact Int.le_refl _, by rw [T6]; omega⟩, Or.inl ⟨?_, by rw [T6]; exact big'⟩⟩
    rcases az with ⟨o0, _⟩ | ⟨_, tt, _⟩
    · exact o0
    · rw [CT] at big'; omega
  · -- a new one
    rcases az with ⟨_, z | z⟩ | ⟨o1, tt, Mv, k49, krm, kre, k59, kf⟩
    · rw [CT] at le6; omega
    · rw [← j1] at z; omega
    have inc : ((hI hc x 9) + (1 : Int32)).toInt = (hI hc x 9).toInt + 1 := by rw [ta (by rw [z1]; omega), z1]
    have cI9 : hI oc x 9 = (hI hc x 9) + (1 : Int32) := by rw [eo, rI_s]
    have cJ18 : (hJ oc x 18).toInt = cT hc x pw n.toNatClampNeg := by
      rw [eo]
      show (hJ (wJ hc x 18 Tn) x 18).toInt = _
      rw [r_J, if_pos ⟨rfl, rfl⟩, eT]
    have cks : ∀ k, hI oc ks k = if k = (hI hc x 9).toNatClampNeg then x1 else hI hc ks k := fun k => by
      rw [eo, rI_a (fun z => nk z.symm), r_I]
      by_cases q : k = (hI hc x 9).toNatClampNeg
      · rw [if_pos ⟨rfl, q⟩, if_pos q]
      · rw [if_neg (fun z => q z.2), if_neg q]; rfl
    have cpw : ∀ i, hI oc pw i = hI hc pw i := fun i => by rw [eo, rI_a npx, rI_a npk]; rfl
    have e9 : (hI oc x 9).toNatClampNeg = (hI hc x 9).toNatClampNeg + 1 := by
      rw [cI9]
      have := clamp_i (v := (hI hc x 9) + (1 : Int32)) (by omega)
      omega
    have cf : CFs x ks hc oc := ⟨fun a i => by rw [eo]; rfl, fun a i a1 a2 => by
      rw [eo, r_I, if_neg a1, rI_a a2]; rfl, fun k hk => by rw [cks, if_neg (by omega)], by rw [cI9, inc]; omega, by rw [cJ18]; unfold cT; rw [pv]; omega⟩
    have rf : RF ρ m rm re hr o'.2 := ⟨Mv.1, Mv.2.1, Mv.2.2.1, Mv.2.2.2.2.1, fun k hk => Mv.2.2.2.2.2.1 k hk⟩
    refine ⟨cf, Or.inr ⟨o1, rf, ?_⟩⟩
    have m13 : hI o'.2 m 13 = hI hr m 13 := Mv.2.2.1 m 13 (by rw [q0]; decide) (by rw [q0]; decide) (fun z => absurd z.2 (by decide))
    have sN : (hI hr m 49).toNatClampNeg = (hI hc x 9).toNatClampNeg := by rw [j1]
    rw [sN] at krm kre
    refine ⟨⟨by rw [cI9, k49, j1], ⟨by rw [cI9, inc]; omega, by rw [cI9, inc]; omega⟩⟩, ⟨by rw [cJ18, k59, CT], by rw [cJ18, CT]; omega, by rw [cJ18]; exact le6⟩, fun k hk => ?_, fun j k hjk hk z => ?_, fun i hi => by rw [cpw, m13]; exact j5 i hi, ?_⟩
    · rw [cI9, inc] at hk
      by_cases q : k = (hI hc x 9).toNatClampNeg
      · rw [cks, if_pos q, q, krm]
        have kre' : ∀ i, i < n.toNatClampNeg → hI o'.2 re (5 * (hI hc x 9).toNatClampNeg + i) = f i := fun i hi => (kre i hi).trans (gf i hi)
        refine ⟨⟨Qx.1, ?_, fun i hi => by show 1 ≤ (hI o'.2 re (5 * (hI hc x 9).toNatClampNeg + i)).toInt ∧ (hI o'.2 re (5 * (hI hc x 9).toNatClampNeg + i)).toInt ≤ 24; rw [kre' i hi]; exact Qx.2.2.1 i hi, fun i j hij hj => by show (hI o'.2 re (5 * (hI hc x 9).toNatClampNeg + i)).toInt ≤ (hI o'.2 re (5 * (hI hc x 9).toNatClampNeg + j)).toInt; rw [kre' i (by omega), kre' j hj]; exact Qx.2.2.2 i j hij hj⟩, ?_⟩
        · rw [Qx.2.1]
          refine k5_eq (fun j _ => ?_)
          unfold pad
          by_cases w : j < n.toNatClampNeg
          · rw [if_pos w, if_pos w]; exact congrArg Int32.toInt (kre' j w).symm
          · rw [if_neg w, if_neg w]
        · rw [pkF_eq (g := g) _ kre]; exact kf
      · have hk' : (k : Int) < (hI hc x 9).toInt := by omega
        obtain ⟨b1, b2⟩ := j3 k hk'
        obtain ⟨c1, c2⟩ := Mv.2.2.2.2.2.1 k (by rw [← j1]; exact hk')
        have mk5 : (hI hr rm k).toNatClampNeg ≤ 5 := b1.1
        rw [cks, if_neg q, c1]
        refine ⟨⟨b1.1, ?_, fun i hi => by show 1 ≤ (hI o'.2 re (5 * k + i)).toInt ∧ (hI o'.2 re (5 * k + i)).toInt ≤ 24; rw [c2 i (by omega)]; exact b1.2.2.1 i hi, fun i j hij hj => by show (hI o'.2 re (5 * k + i)).toInt ≤ (hI o'.2 re (5 * k + j)).toInt; rw [c2 i (by omega), c2 j (by omega)]; exact b1.2.2.2 i j hij hj⟩, ?_⟩
        · rw [b1.2.1]
          refine k5_eq (fun j hj => ?_)
          unfold pad
          by_cases w : j < (hI hr rm k).toNatClampNeg
          · rw [if_pos w, if_pos w]; exact congrArg Int32.toInt (c2 j (by omega)).symm
          · rw [if_neg w, if_neg w]
        · rw [pkF_eq (g := fun i => hI hr re (5 * k + i)) _ (fun i hi => c2 i (by omega))]
          exact Mv.2.2.2.1 _ b2
    · rw [cI9, inc] at hk
      rw [cks, cks, if_neg (by omega)] at z
      by_cases q : k = (hI hc x 9).toNatClampNeg
      · rw [if_pos q] at z
        exact nfd j (by omega) z
      · rw [if_neg q] at z
        exact j4 j k hjk (by omega) z
    · rw [e9, cJ18, CT, ← j2, ← j6, m13]
      show sm _ (hI hc x 9).toNatClampNeg + 2 * (hI hr m 13).toInt ^ (hI o'.2 rm (hI hc x 9).toNatClampNeg).toNatClampNeg = _
      rw [krm]
      have : sm (fun k => 2 * (hI hr m 13).toInt ^ (hI o'.2 rm k).toNatClampNeg) (hI hc x 9).toNatClampNeg = sm (fun k => 2 * (hI hr m 13).toInt ^ (hI hr rm k).toNatClampNeg) (hI hc x 9).toNatClampNeg := sm_eq _ (fun k hk => by
        show 2 * (hI hr m 13).toInt ^ (hI o'.2 rm k).toNatClampNeg = _
        rw [(Mv.2.2.2.2.2.1 k (by rw [← j1]; omega)).1])
      rw [this]
end
