/-! the reference's addSet, exactly -/
/-- found; refused; new -/
def AZ (ρ : Nat → Nat) (x0 rm re rk rs ro : Nat) (n : Int32) (h0 : Hp) (o : Int32 × Hp) : Prop := ∃ g : Nat → Int32, Sd g n.toNatClampNeg ∧ (∀ v, cn g v n.toNatClampNeg = cn (fun i => hI h0 ro i) v n.toNatClampNeg) ∧ ((Fnd rs rk (pkF g n n.toNatClampNeg) h0 ∧ o.1 = 1 ∧ Jo ro h0 o.2) ∨ (¬ Fnd rs rk (pkF g n n.toNatClampNeg) h0 ∧ ((o.1 = 0 ∧ (600000 < (hJ h0 x0 59).toInt + 2 * (hI h0 x0 13).toInt ^ n.toNatClampNeg ∨ (hI h0 x0 49).toInt = 4096)) ∨ (o.1 = 1 ∧ (hJ h0 x0 59).toInt + 2 * (hI h0 x0 13).toInt ^ n.toNatClampNeg ≤ 600000 ∧ Mo ρ x0 rm re rk rs h0 o.2 ∧ hI o.2 x0 49 = hI h0 x0 49 + (1 : Int32) ∧ hI o.2 rm (hI h0 x0 49).toNatClampNeg = n ∧ (∀ i, i < n.toNatClampNeg → hI o.2 re (5 * (hI h0 x0 49).toNatClampNeg + i) = g i) ∧ (hJ o.2 x0 59).toInt = (hJ h0 x0 59).toInt + 2 * (hI h0 x0 13).toInt ^ n.toNatClampNeg ∧ Fnd rs rk (pkF g n n.toNatClampNeg) o.2))))
section
variable {ρ : Nat → Nat} {x0 rm re rb rk rs ro F : Nat} {h0 h g : Hp} {n : Int32}
theorem ads_z (hF : 700000 ≤ F) (Q : SlR ρ x0 rm re rb rk rs ro h0) (i1 : Rg 0 5 n) (hn : hN h0 ro = 6) (irs : ∀ j, 0 ≤ (hI h0 rs j).toInt ∧ (hI h0 rs j).toInt ≤ 4096) (s0 : 0 ≤ (hI h0 x0 49).toInt) (s1 : (hI h0 x0 49).toInt ≤ 4096) {o : Int32 × Hp} (e : sX15_addSet F h0 x0 n = some o) (isq : Rg 9 64 (hI h0 x0 13)) (t0 : 0 ≤ (hJ h0 x0 59).toInt) (t6 : (hJ h0 x0 59).toInt ≤ 600000) : AZ ρ x0 rm re rk rs ro n h0 o := by
  obtain ⟨⟨r0, qm, qe, qb, qk, qs, qo⟩, ⟨e46, e47, e48, e55, e56, e57⟩⟩ := Q
  have z0 : (0 : Int32).toInt = 0 := rfl
  have nn := clamp_i i1.1
  have n5 := i1.2
  have nos : ¬ rs = ro := fun w => absurd (w ▸ qs) (by rw [qo]; decide)
  have nok : ¬ rk = ro := fun w => absurd (w ▸ qk) (by rw [qo]; decide)
  have noe : ¬ re = ro := fun w => absurd (w ▸ qe) (by rw [qo]; decide)
  have nom : ¬ rm = ro := fun w => absurd (w ▸ qm) (by rw [qo]; decide)
  have nox : ¬ x0 = ro := fun w => absurd (w ▸ r0) (by rw [qo]; decide)
  have nks : ¬ rs = rk := fun w => absurd (w ▸ qs) (by rw [qk]; decide)
  have nem : ¬ re = rm := fun w => absurd (w ▸ qe) (by rw [qm]; decide)
  have neb : ¬ re = rb := fun w => absurd (w ▸ qe) (by rw [qb]; decide)
  have nek : ¬ re = rk := fun w => absurd (w ▸ qe) (by rw [qk]; decide)
  have nes : ¬ re = rs := fun w => absurd (w ▸ qe) (by rw [qs]; decide)
  have nmb : ¬ rm = rb := fun w => absurd (w ▸ qm) (by rw [qb]; decide)
  have nmk : ¬ rm = rk := fun w => absurd (w ▸ qm) (by rw [qk]; decide)
  have nms : ¬ rm = rs := fun w => absurd (w ▸ qm) (by rw [qs]; decide)
  have nsb : ¬ rs = rb := fun w => absurd (w ▸ qs) (by rw [qb]; decide)
  have nkb : ¬ rk = rb := fun w => absurd (w ▸ qk) (by rw [qb]; decide)
  have nxm : ¬ x0 = rm := fun w => absurd (w ▸ r0) (by rw [qm]; decide)
  have nxe : ¬ x0 = re := fun w => absurd (w ▸ r0) (by rw [qe]; decide)
  have nxb : ¬ x0 = rb := fun w => absurd (w ▸ r0) (by rw [qb]; decide)
  have nxk : ¬ x0 = rk := fun w => absurd (w ▸ r0) (by rw [qk]; decide)
  have nxs : ¬ x0 = rs := fun w => absurd (w ▸ r0) (by rw [qs]; decide)
  have nob : ¬ ro = rb := fun w => absurd (w ▸ qo) (by rw [qb]; decide)
  -- the last loop: the row is copied into the new set
  have b165 : ∀ (J : Int64) (f : Nat) {g : Hp} {x4 : Int32}, (∀ a i, hR g a i = hR h0 a i) → (∀ a, hN g a = hN h0 a) → (∀ a i, ¬ a = re → ¬ a = ro → ¬ (a = rm ∧ i = (hI h0 x0 49).toNatClampNeg) → ¬ (a = rb) → hI g a i = hI h0 a i) → hI g rm (hI h0 x0 49).toNatClampNeg = n → (∀ j, ¬ (5 * (hI h0 x0 49).toNatClampNeg ≤ j ∧ j < 5 * (hI h0 x0 49).toNatClampNeg + 5) → hI g re j = hI h0 re j) → (∀ i : Nat, (i : Int) < x4.toInt → hI g re (5 * (hI h0 x0 49).toNatClampNeg + i) = hI g ro i) → Sd (fun i => hI g ro i) n.toNatClampNeg → (∀ v, cn (fun i => hI g ro i) v n.toNatClampNeg = cn (fun i => hI h0 ro i) v n.toNatClampNeg) → (hI h0 x0 49).toInt < 4096 → hJ g x0 59 = hJ h0 x0 59 → J.toInt = 2 * (hI h0 x0 13).toInt ^ n.toNatClampNeg → (hJ h0 x0 59).toInt + 2 * (hI h0 x0 13).toInt ^ n.toNatClampNeg ≤ 600000 → ¬ Fnd rs rk (pkF (fun i => hI g ro i) n n.toNatClampNeg) h0 → 0 ≤ x4.toInt → x4.toInt ≤ n.toInt → sX15_addSet_165 F f g x0 n J x4 = some o → AZ ρ x0 rm re rk rs ro n h0 o := by
    intro J f
    induction f with
    | zero => intro g x4 _ _ _ _ _ _ _ _ _ _ _ _ _ _ _ e; exact absurd e (by simp [sX15_addSet_165])
    | succ f ih =>
      intro g x4 kR kN kI km ke kx S C ls kj jv tt nf a4 b4 e
      have k49 : hI g x0 49 = hI h0 x0 49 := kI x0 49 nxe nox (fun w => nxm w.1) nxb
      unfold sX15_addSet_165 at e
      simp only [nm] at e
      have ns := clamp_i s0
      replace e := br_s e; rcases e with ⟨c, e⟩ | ⟨c, e⟩
      · have c := le_i c
        replace e := cl_s e; obtain ⟨r4, p, e⟩ := e
        replace p : hR g x0 57 = some r4 := p
        rw [kR] at p
        have := r_eq e57 p; subst this
        replace e := cl_s e; obtain ⟨o5, e5, e⟩ := e
        obtain ⟨w1, w2⟩ := sat_e (packed_q hF (by show hN g r4 = 6; rw [kN]; exact hn) ⟨i1.1, by omega⟩) e5
        rw [w1, w2] at e
        have ek : pkN (wI (wJ g x0 59 ((hJ g x0 59) + J)) x0 49 ((hI (wJ g x0 59 ((hJ g x0 59) + J)) x0 49) + (1 : Int32))) r4 0 n n.toNatClampNeg = pkF (fun i => hI g r4 i) n n.toNatClampNeg := by
          rw [pkN_F]
          apply pkF_eq
          intro i hi
          show hI (wI _ x0 49 _) r4 (0 + i) = hI g r4 i
          rw [r_I, if_neg (fun w => nox w.1.symm), Nat.zero_add]
          rfl
        rw [ek] at e
        replace e := cl_s e; obtain ⟨o6, e6, e⟩ := e
        obtain ⟨v1, v2, m, em, A, alt⟩ := slot_q (h := (wI (wJ g x0 59 ((hJ g x0 59) + J)) x0 49 ((hI (wJ g x0 59 ((hJ g x0 59) + J)) x0 49) + (1 : Int32)))) (rs := rs) (rk := rk) (by show hR g x0 56 = _; rw [kR]; exact e56) (by show hR g x0 55 = _; rw [kR]; exact e55) e6
        rw [v1] at e
        replace e := cl_s e; obtain ⟨r7, p, e⟩ := e
        replace p : hR g x0 55 = some r7 := p
        rw [kR] at p
        have := r_eq e55 p; subst this
        replace e := cl_s e; obtain ⟨r8, p, e⟩ := e
        replace p : hR g x0 57 = some r8 := p
        rw [kR] at p
        have := r_eq e57 p; subst this
        replace e := cl_s e; obtain ⟨o9, e9, e⟩ := e
        obtain ⟨u1, u2⟩ := sat_e (packed_q hF (by show hN g r8 = 6; rw [kN]; exact hn) ⟨i1.1, by omega⟩) e9
        rw [u1, u2, ek] at e
        replace e := (gd_s e).2
        replace e := cl_s e; obtain ⟨r12, p, e⟩ := e
        replace p : hR g x0 56 = some r12 := p
        rw [kR] at p
        have := r_eq e56 p; subst this
        replace e := (gd_s e).2
        have e := Option.some.inj e
        subst e
        have inc : ((hI g x0 49) + (1 : Int32)).toInt = (hI h0 x0 49).toInt + 1 := by
          rw [k49]
          exact ta (by show _ ≤ (hI h0 x0 49).toInt + 1 ∧ (hI h0 x0 49).toInt + 1 ≤ _; omega)
        have vS : hI (wI (wI (wJ g x0 59 ((hJ g x0 59) + J)) x0 49 ((hI (wJ g x0 59 ((hJ g x0 59) + J)) x0 49) + (1 : Int32))) r7 o6.1.toNatClampNeg (pkF (fun i => hI g r8 i) n n.toNatClampNeg)) x0 49 = (hI g x0 49) + (1 : Int32) := by
          rw [r_I, if_neg (fun w => nxk w.1), r_I, if_pos ⟨rfl, rfl⟩]
          rfl
        rw [em] at *
        have fw := fnd_w (h := (wI (wJ g x0 59 ((hJ g x0 59) + J)) x0 49 ((hI (wJ g x0 59 ((hJ g x0 59) + J)) x0 49) + (1 : Int32)))) (g := wI (wI (wI (wJ g x0 59 ((hJ g x0 59) + J)) x0 49 ((hI (wJ g x0 59 ((hJ g x0 59) + J)) x0 49) + (1 : Int32))) r7 (sl (pkF (fun i => hI g r8 i) n n.toNatClampNeg) m) (pkF (fun i => hI g r8 i) n n.toNatClampNeg)) r12 (sl (pkF (fun i => hI g r8 i) n n.toNatClampNeg) m) ((hI g x0 49) + (1 : Int32))) (v := (hI g x0 49) + (1 : Int32)) A alt (by omega) nks (fun j => by
            rw [r_I, if_neg (fun w => nks w.1.symm), r_I]
            by_cases w : j = sl (pkF (fun i => hI g r8 i) n n.toNatClampNeg) m
            · rw [if_pos ⟨rfl, w⟩, if_pos w]
            · rw [if_neg (fun z => w z.2), if_neg w]) (fun j => by
            rw [r_I]
            by_cases w : j = sl (pkF (fun i => hI g r8 i) n n.toNatClampNeg) m
            · rw [if_pos ⟨rfl, w⟩, if_pos w]
            · rw [if_neg (fun z => w z.2), if_neg w, r_I, if_neg (fun z => nks z.1)])
        rw [vS]
        have old : ∀ k2, Fnd r12 r7 k2 h0 → Fnd r12 r7 k2 (wI (wJ g x0 59 ((hJ g x0 59) + J)) x0 49 ((hI (wJ g x0 59 ((hJ g x0 59) + J)) x0 49) + (1 : Int32))) := by
          rintro k2 ⟨M, B1, B2, B3⟩
          have q1 : ∀ j, hI (wI (wJ g x0 59 ((hJ g x0 59) + J)) x0 49 ((hI (wJ g x0 59 ((hJ g x0 59) + J)) x0 49) + (1 : Int32))) r12 j = hI h0 r12 j := fun j => by
            rw [r_I, if_neg (fun w => nxs w.1.symm)]
            exact kI r12 j (fun w => nes w.symm) nos (fun w => nms w.1.symm) nsb
          have q2 : ∀ j, hI (wI (wJ g x0 59 ((hJ g x0 59) + J)) x0 49 ((hI (wJ g x0 59 ((hJ g x0 59) + J)) x0 49) + (1 : Int32))) r7 j = hI h0 r7 j := fun j => by
            rw [r_I, if_neg (fun w => nxk w.1.symm)]
            exact kI r7 j (fun w => nek w.symm) nok (fun w => nmk w.1.symm) nkb
          exact ⟨M, fun m' hm => by rw [q1]; exact B1 m' hm, by rw [q1]; exact B2, by rw [q2]; exact B3⟩
        -- reads behind all writes
        have rd : ∀ a i, ¬ a = r7 → ¬ a = r12 → ¬ (a = x0 ∧ i = 49) → hI (wI (wI (wI (wJ g x0 59 ((hJ g x0 59) + J)) x0 49 ((hI (wJ g x0 59 ((hJ g x0 59) + J)) x0 49) + (1 : Int32))) r7 (sl (pkF (fun i => hI g r8 i) n n.toNatClampNeg) m) (pkF (fun i => hI g r8 i) n n.toNatClampNeg)) r12 (sl (pkF (fun i => hI g r8 i) n n.toNatClampNeg) m) ((hI g x0 49) + (1 : Int32))) a i = hI g a i := fun a i m1 m2 m3 => by
          rw [r_I, if_neg (fun w => m2 w.1), r_I, if_neg (fun w => m1 w.1), r_I, if_neg m3]
          rfl
        have rx : hI (wI (wI (wI (wJ g x0 59 ((hJ g x0 59) + J)) x0 49 ((hI (wJ g x0 59 ((hJ g x0 59) + J)) x0 49) + (1 : Int32))) r7 (sl (pkF (fun i => hI g r8 i) n n.toNatClampNeg) m) (pkF (fun i => hI g r8 i) n n.toNatClampNeg)) r12 (sl (pkF (fun i => hI g r8 i) n n.toNatClampNeg) m) ((hI g x0 49) + (1 : Int32))) x0 49 = (hI g x0 49) + (1 : Int32) := by
          rw [r_I, if_neg (fun w => nxs w.1), r_I, if_neg (fun w => nxk w.1), r_I, if_pos ⟨rfl, rfl⟩]
          rfl
        have rowe : ∀ i, i < n.toNatClampNeg → hI (wI (wI (wI (wJ g x0 59 ((hJ g x0 59) + J)) x0 49 ((hI (wJ g x0 59 ((hJ g x0 59) + J)) x0 49) + (1 : Int32))) r7 (sl (pkF (fun i => hI g r8 i) n n.toNatClampNeg) m) (pkF (fun i => hI g r8 i) n n.toNatClampNeg)) r12 (sl (pkF (fun i => hI g r8 i) n n.toNatClampNeg) m) ((hI g x0 49) + (1 : Int32))) re (5 * (hI h0 x0 49).toNatClampNeg + i) = hI g r8 i := fun i hi => by
          rw [rd re _ nek nes (fun w => nxe w.1.symm)]
          exact kx i (by omega)
        have qp := pow_sq (s := (hI h0 x0 13).toInt) (by have := isq.1; omega) isq.2 n.toNatClampNeg (by omega)
        refine ⟨fun i => hI g r8 i, S, C, Or.inr ⟨nf, Or.inr ⟨rfl, tt, ⟨fun a i => kR a i, fun a => kN a, fun a i n1 n2 n3 => ?_, fun k w => fw.2 k (old k w), by rw [rx, inc]; omega, fun k hk => ⟨?_, fun i hi => ?_⟩, fun k l1 l2 => ?_⟩, by rw [rx, k49], by rw [rd rm _ nmk nms (fun w => nxm w.1.symm), km], rowe, by
          show (hJ (wJ g x0 59 ((hJ g x0 59) + J)) x0 59).toInt = _
          rw [r_J, if_pos ⟨rfl, rfl⟩, kj, ta64 (by rw [jv]; omega) (by rw [jv]; omega), jv], fw.1⟩⟩⟩
        · rw [rd a i (fun w => n2 (by rw [w, qk]; decide)) (fun w => n2 (by rw [w, qs]; decide)) n3]
          exact kI a i (fun w => n1 (by rw [w, qe]; decide)) (fun w => n2 (by rw [w, qo]; decide)) (fun w => n1 (by rw [w.1, qm]; decide)) (fun w => n1 (by rw [w, qb]; decide))
        · rw [rd rm k nmk nms (fun w => nxm w.1.symm)]
          exact kI rm k (fun w => nem w.symm) nom (fun w => by omega) nmb
        · rw [rd re _ nek nes (fun w => nxe w.1.symm)]
          exact ke _ (by omega)
        · rw [rx, inc] at l2
          have kk : k = (hI h0 x0 49).toNatClampNeg := by omega
          subst kk
          rw [rd rm _ nmk nms (fun w => nxm w.1.symm), km]
          refine ⟨fun i j lij lj => ?_, ?_⟩
          · show (hI _ re _).toInt ≤ (hI _ re _).toInt
            rw [rowe i (by omega), rowe j lj]
            exact S i j lij lj
          · rw [pkF_eq (g := fun i => hI g r8 i) _ rowe]
            exact fw.1
      · have c := nle_i c
        replace e := cl_s e; obtain ⟨r15, p, e⟩ := e
        rw [kR] at p
        have := r_eq e47 p; subst this
        replace e := cl_s e; obtain ⟨r16, p, e⟩ := e
        rw [kR] at p
        have := r_eq e57 p; subst this
        replace e := (gd_s e).2
        replace e := (gd_s e).2
        have i4 : Rg 0 4 x4 := ⟨a4, by omega⟩
        have ix := (ix5 (x1 := hI h0 x0 49) (x4 := x4) ⟨s0, by omega⟩ i4).2
        rw [k49, ix] at e
        have ny := nc_s i4 (by decide)
        have c4 := clamp_i a4
        refine ih (g := wI g r15 (5 * (hI h0 x0 49).toNatClampNeg + x4.toNatClampNeg) (hI g r16 x4.toNatClampNeg)) kR kN (fun a i n1 n2 n3 n4 => ?_) ?_ (fun j nj => ?_) (fun i hi => ?_) ?_ ?_ ls kj jv tt ?_ (by omega) (by omega) e
        · rw [r_I, if_neg (fun w => n1 w.1)]; exact kI a i n1 n2 n3 n4
        · rw [r_I, if_neg (fun w => nem w.1.symm)]; exact km
        · rw [r_I, if_neg (fun w => by omega)]; exact ke j nj
        · have eR : hI (wI g r15 (5 * (hI h0 x0 49).toNatClampNeg + x4.toNatClampNeg) (hI g r16 x4.toNatClampNeg)) r16 i = hI g r16 i := by rw [r_I, if_neg (fun w => noe w.1.symm)]
          rw [eR, r_I]
          by_cases w : i = x4.toNatClampNeg
          · rw [if_pos ⟨rfl, by omega⟩, w]
          · rw [if_neg (fun z => w (by omega))]
            exact kx i (by omega)
        · intro i j lij lj
          show (hI _ r16 i).toInt ≤ (hI _ r16 j).toInt
          rw [r_I, if_neg (fun w => noe w.1.symm), r_I, if_neg (fun w => noe w.1.symm)]
          exact S i j lij lj
        · intro v
          rw [← C v]
          exact cn_eq _ (fun i hi => by show hI _ r16 i = _; rw [r_I, if_neg (fun w => noe w.1.symm)])
        · rw [pkF_eq (g := fun i => hI g r16 i) _ (fun i _ => by show hI _ r16 i = _; rw [r_I, if_neg (fun w => noe w.1.symm)])]
          exact nf
  -- the row stands in its order
  have b93 : ∀ (f : Nat) {g : Hp} {J : Int64} {x4 : Int32}, Jo ro h0 g → Sd (fun i => hI g ro i) n.toNatClampNeg → (∀ v, cn (fun i => hI g ro i) v n.toNatClampNeg = cn (fun i => hI h0 ro i) v n.toNatClampNeg) → ¬ Fnd rs rk (pkF (fun i => hI g ro i) n n.toNatClampNeg) h0 → 0 ≤ x4.toInt → x4.toInt ≤ n.toInt → J.toInt = 2 * (hI h0 x0 13).toInt ^ x4.toNatClampNeg → sX15_addSet_93 F f g x0 n J x4 = some o → AZ ρ x0 rm re rk rs ro n h0 o := by
    intro f
    induction f with
    | zero => intro g J x4 _ _ _ _ _ _ _ e; exact absurd e (by simp [sX15_addSet_93])
    | succ f ih =>
      intro g J x4 jo S C nf a4 b4 jv e
      have k49 : hI g x0 49 = hI h0 x0 49 := jo.2.2.2 x0 49 nox
      have k13 : hI g x0 13 = hI h0 x0 13 := jo.2.2.2 x0 13 nox
      have k59 : hJ g x0 59 = hJ h0 x0 59 := jo.2.2.1 x0 59
      have n4 := clamp_i a4
      have q1 := isq.1
      have q2 := isq.2
      unfold sX15_addSet_93 sX15_addSet_136 at e
      simp only [nm] at e
      replace e := br_s e; rcases e with ⟨c0, e⟩ | ⟨c0, e⟩
      · have c0 := le_i c0
        have x4n : x4.toNatClampNeg = n.toNatClampNeg := by omega
        rw [x4n] at jv
        have qp := pow_sq (s := (hI h0 x0 13).toInt) (by omega) q2 n.toNatClampNeg (by omega)
        have z6 : (600000 : Int64).toInt = 600000 := rfl
        have es : ((hJ g x0 59) + J).toInt = (hJ h0 x0 59).toInt + 2 * (hI h0 x0 13).toInt ^ n.toNatClampNeg := by
          rw [k59, ta64 (by rw [jv]; omega) (by rw [jv]; omega), jv]
        replace e := br_s e; rcases e with ⟨c1, e⟩ | ⟨c1, e⟩
        · have c1 := cmp_gt c1
          rw [es, z6] at c1
          exact ⟨_, S, C, Or.inr ⟨nf, Or.inl ⟨by rw [← Option.some.inj e], Or.inl c1⟩⟩⟩
        have tt := cmp_le c1
        rw [es, z6] at tt
        replace e := br_s e; rcases e with ⟨c2, e⟩ | ⟨c, e⟩
        · exact ⟨_, S, C, Or.inr ⟨nf, Or.inl ⟨by rw [← Option.some.inj e], Or.inr (by rw [← k49, c2]; rfl)⟩⟩⟩
        replace e := cl_s e; obtain ⟨r4, p, e⟩ := e
        rw [jo.1] at p
        have := r_eq e46 p; subst this
        replace e := (gd_s e).2
        replace e := cl_s e; obtain ⟨r7, p, e⟩ := e
        replace p : hR g x0 48 = some r7 := p
        rw [jo.1] at p
        have := r_eq e48 p; subst this
        replace e := (gd_s e).2
        have k49' : hI (wI g r4 (hI g x0 49).toNatClampNeg n) x0 49 = hI h0 x0 49 := by rw [r_I, if_neg (fun w => nxm w.1)]; exact k49
        rw [k49', k49] at e
        have lt : (hI h0 x0 49).toInt < 4096 := by
          have : ¬ (hI h0 x0 49).toInt = 4096 := fun w => c (by rw [k49]; exact Int32.toInt_inj.mp (by rw [w]; rfl))
          omega
        refine b165 J F (g := wI (wI g r4 (hI h0 x0 49).toNatClampNeg n) r7 (hI h0 x0 49).toNatClampNeg (hJ (wI g r4 (hI h0 x0 49).toNatClampNeg n) x0 59).toInt32) (fun a i => jo.1 a i) (fun a => jo.2.1 a) (fun a i n1 n2 n3 n4 => ?_) ?_ (fun j _ => ?_) (fun i hi => absurd hi (by rw [z0]; omega)) ?_ ?_ lt k59 jv tt ?_ (by decide) (by rw [z0]; exact i1.1) e
        · rw [r_I, if_neg (fun w => n4 w.1), r_I, if_neg (fun w => n3 w)]; exact jo.2.2.2 a i n2
        · rw [r_I, if_neg (fun w => nmb w.1), r_I, if_pos ⟨rfl, rfl⟩]
        · rw [r_I, if_neg (fun w => neb w.1), r_I, if_neg (fun w => nem w.1)]; exact jo.2.2.2 re j noe
        · intro i j lij lj
          show (hI _ ro i).toInt ≤ (hI _ ro j).toInt
          rw [r_I, if_neg (fun w => nob w.1), r_I, if_neg (fun w => nom w.1.symm), r_I, if_neg (fun w => nob w.1), r_I, if_neg (fun w => nom w.1.symm)]
          exact S i j lij lj
        · intro v
          rw [← C v]
          exact cn_eq _ (fun i hi => by show hI _ ro i = _; rw [r_I, if_neg (fun w => nob w.1), r_I, if_neg (fun w => nom w.1.symm)])
        · rw [pkF_eq (g := fun i => hI g ro i) _ (fun i _ => by show hI _ ro i = _; rw [r_I, if_neg (fun w => nob w.1), r_I, if_neg (fun w => nom w.1.symm)])]
          exact nf
      · have c0 := nle_i c0
        have z1 : (1 : Int32).toInt = 1 := rfl
        have t1 : (x4 + (1 : Int32)).toInt = x4.toInt + 1 := by rw [ta (by rw [z1]; omega), z1]
        have n41 := clamp_i (v := x4 + (1 : Int32)) (by omega)
        have e41 : (x4 + (1 : Int32)).toNatClampNeg = x4.toNatClampNeg + 1 := by omega
        have qp := pow_sq (s := (hI h0 x0 13).toInt) (by omega) q2 x4.toNatClampNeg (by omega)
        have qs := pow_sq (s := (hI h0 x0 13).toInt) (by omega) q2 (x4.toNatClampNeg + 1) (by omega)
        have e13 : ((hI g x0 13).toInt64).toInt = (hI h0 x0 13).toInt := by rw [k13]; exact Int32.toInt_toInt64 _
        have pe : 2 * (hI h0 x0 13).toInt ^ x4.toNatClampNeg * (hI h0 x0 13).toInt = 2 * (hI h0 x0 13).toInt ^ (x4.toNatClampNeg + 1) := by rw [Int.pow_succ, Int.mul_assoc]
        refine ih jo S C nf (by omega) (by omega) ?_ e
        rw [e41, tm64 (by rw [jv, e13, pe]; omega) (by rw [jv, e13, pe]; omega), jv, e13, pe]
  -- the row is put in order
  have b2 : ∀ (f : Nat) {g : Hp} {x2 : Int32}, Jo ro h0 g → 1 ≤ x2.toInt → x2.toInt ≤ 5 → Sd (fun i => hI g ro i) x2.toNatClampNeg → (∀ v, cn (fun i => hI g ro i) v n.toNatClampNeg = cn (fun i => hI h0 ro i) v n.toNatClampNeg) → sX15_addSet_2 F f g x0 n x2 = some o → AZ ρ x0 rm re rk rs ro n h0 o := by
    intro f
    induction f with
    | zero => intro g x2 _ _ _ _ _ e; exact absurd e (by simp [sX15_addSet_2])
    | succ f ih =>
      intro g x2 jo a2 b2 S C e
      unfold sX15_addSet_2 at e
      simp only [nm] at e
      have c2 := clamp_i (v := x2) (by omega)
      replace e := br_s e; rcases e with ⟨c, e⟩ | ⟨c, e⟩
      · have c := le_i c
        have S2 : Sd (fun i => hI g ro i) n.toNatClampNeg := fun i j l1 l2 => S i j l1 (by omega)
        replace e := cl_s e; obtain ⟨r2, p, e⟩ := e
        rw [jo.1] at p
        have := r_eq e57 p; subst this
        replace e := cl_s e; obtain ⟨o3, e3, e⟩ := e
        have ks : ∀ j, hI g rs j = hI h0 rs j := fun j => jo.2.2.2 rs j nos
        have kk : ∀ j, hI g rk j = hI h0 rk j := fun j => jo.2.2.2 rk j nok
        obtain ⟨w1, w1', w2⟩ := find_q (rs := rs) (rk := rk) hF (by rw [jo.2.1]; exact hn) ⟨i1.1, by omega⟩ (fun j => by rw [ks]; exact irs j) (by rw [jo.1]; exact e56) (by rw [jo.1]; exact e55) e3
        rw [w1] at e
        have tr : ∀ key, Fnd rs rk key g ↔ Fnd rs rk key h0 := fun key => by
          unfold Fnd
          constructor
          · rintro ⟨M, B1, B2, B3⟩
            exact ⟨M, fun m' hm => by rw [← ks]; exact B1 m' hm, by rw [← ks]; exact B2, by rw [← kk]; exact B3⟩
          · rintro ⟨M, B1, B2, B3⟩
            exact ⟨M, fun m' hm => by rw [ks]; exact B1 m' hm, by rw [ks]; exact B2, by rw [kk]; exact B3⟩
        have pe : pkN g r2 0 n n.toNatClampNeg = pkF (fun i => hI g r2 i) n n.toNatClampNeg := by
          rw [pkN_F]
          exact pkF_eq _ (fun i _ => by rw [Nat.zero_add])
        rw [pe] at w1' w2
        replace e := br_s e; rcases e with ⟨c3, e⟩ | ⟨c3, e⟩
        · have nf : ¬ Fnd rs rk (pkF (fun i => hI g r2 i) n n.toNatClampNeg) h0 := fun N => by
            have := w1' ((tr _).mpr N)
            rw [c3] at this
            exact absurd this (by decide)
          exact b93 F (J := (2 : Int64)) (x4 := (0 : Int32)) jo S2 C nf (by decide) (by rw [z0]; exact i1.1) (by show (2 : Int64).toInt = 2 * (hI h0 x0 13).toInt ^ 0; rw [Int.pow_zero]; rfl) e
        · have e := Option.some.inj e; subst e
          obtain ⟨_, N⟩ := w2 c3
          exact ⟨_, S2, C, Or.inl ⟨(tr _).mp N, rfl, jo⟩⟩
      · have c := nle_i c
        replace e := cl_s e; obtain ⟨r5, p, e⟩ := e
        rw [jo.1] at p
        have := r_eq e57 p; subst this
        replace e := (gd_s e).2
        generalize hv : hI g r5 x2.toNatClampNeg = v at e
        have inn : ∀ (ff : Nat) {g : Hp} {x4 : Int32}, Jo r5 h0 g → 0 ≤ x4.toInt → x4.toInt ≤ x2.toInt → In (fun i => hI g r5 i) v x2.toNatClampNeg x4.toNatClampNeg → (∀ w, cn (up (fun i => hI g r5 i) x4.toNatClampNeg v) w n.toNatClampNeg = cn (fun i => hI h0 r5 i) w n.toNatClampNeg) → sX15_addSet_17 F (sX15_addSet_2 F f) ff g x0 n x2 v x4 = some o → AZ ρ x0 rm re rk rs r5 n h0 o := by
          intro ff
          induction ff with
          | zero => intro g x4 _ _ _ _ _ e; exact absurd e (by simp [sX15_addSet_17])
          | succ ff ih2 =>
            intro g x4 jo a4 b4 I C e
            have c4 := clamp_i a4
            have put : (x4.toNatClampNeg = 0 ∨ (hI g r5 (x4.toNatClampNeg - 1)).toInt ≤ v.toInt) → sX15_addSet_57 F (sX15_addSet_2 F f) g x0 n x2 v x4 = some o → AZ ρ x0 rm re rk rs r5 n h0 o := by
              intro z e
              unfold sX15_addSet_57 at e
              simp only [nm] at e
              replace e := cl_s e; obtain ⟨r1, p, e⟩ := e
              rw [jo.1] at p
              have := r_eq e57 p; subst this
              replace e := (gd_s e).2
              have ny := nc_s (x := x2) (b := 5) ⟨by omega, b2⟩ (by decide)
              refine ih (jo_w jo) (by omega) (by omega) ?_ (fun w => ?_) e
              · rw [row_up, ny.1]
                exact in_e (by omega) I z
              · rw [row_up]; exact C w
            unfold sX15_addSet_17 at e
            simp only [nm] at e
            replace e := br_s e; rcases e with ⟨cz, e⟩ | ⟨cz, e⟩
            · have cz := le_i cz
              exact put (Or.inl (by omega)) e
            have cz := nle_i cz
            have i4 : Rg 1 5 x4 := ⟨by omega, by omega⟩
            have d1 : (x4 - (1 : Int32)).toInt = x4.toInt - 1 := rg_decs i4 (by decide)
            have d1n : (x4 - (1 : Int32)).toNatClampNeg = x4.toNatClampNeg - 1 := by
              have := clamp_i (v := x4 - (1 : Int32)) (by omega)
              omega
            replace e := cl_s e; obtain ⟨r2, p, e⟩ := e
            rw [jo.1] at p
            have := r_eq e57 p; subst this
            replace e := (gd_s e).2
            replace e := br_s e; rcases e with ⟨cl, e⟩ | ⟨cl, e⟩
            · exact put (Or.inr (by rw [d1n] at cl; exact le_i cl)) e
            rw [d1n] at cl
            have cl := nle_i cl
            replace e := cl_s e; obtain ⟨r2', p, e⟩ := e
            rw [jo.1] at p
            have := r_eq e57 p; subst this
            replace e := cl_s e; obtain ⟨r6, p, e⟩ := e
            rw [jo.1] at p
            have := r_eq e57 p; subst this
            replace e := (gd_s e).2
            replace e := (gd_s e).2
            rw [d1n] at e
            have d2 : (x4 + (-1 : Int32)).toInt = x4.toInt - 1 := rg_dec i4 (by decide)
            generalize x4 + (-1 : Int32) = y at e d2
            have cy := clamp_i (v := y) (by omega)
            have ek : x4.toNatClampNeg = y.toNatClampNeg + 1 := by omega
            have ek2 : x4.toNatClampNeg - 1 = y.toNatClampNeg := by omega
            rw [ek2] at e cl
            rw [ek] at e I C
            refine ih2 (jo_w jo) (by omega) (by omega) ?_ (fun w => ?_) e
            · rw [row_up]
              exact in_s (by omega) I (Int.le_of_lt cl)
            · rw [row_up]
              rw [cn_swap (f := fun i => hI g r6 i) (by omega)]
              exact C w
        refine inn F jo (by omega) (Int.le_refl _) (by rw [← hv]; exact in_0 S) (fun w => ?_) e
        rw [← C w]
        apply cn_eq
        intro i hi
        unfold up
        split
        · rename_i q; rw [q, hv]
        · rfl
  unfold sX15_addSet at e
  exact b2 F ⟨fun _ _ => rfl, fun _ => rfl, fun _ _ => rfl, fun _ _ _ => rfl⟩ (by decide) (by decide) (fun i j l1 l2 => absurd l2 (by show ¬ j < 1; omega)) (fun _ => rfl) e
end
