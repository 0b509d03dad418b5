/-! wrongOf by its equation: the royal man of the side that has moved is not attacked -/
theorem np_x (x : Int32) (g : Hp) (w : ¬ x.toInt ≤ 0) : ¬ (x, g).1.toInt ≤ (0 : Int32).toInt := w
section
variable {ρ : Nat → Nat} {x0 b S Fa Ct M R Fl Ri A B Fm St Ro F : Nat} {h0 : Hp}
/-- a royal man of a side stands there -/
def IsR (h0 : Hp) (M R : Nat) (q d : Nat) : Prop := 0 < (hI h0 M q).toInt ∧ (hI h0 M q - (1 : Int32)) >>> ((1 : Int32) &&& 31) = hI h0 R 10 ∧ ((hI h0 M q - (1 : Int32)) &&& (1 : Int32)).toInt = d
def RyI (h0 : Hp) (M R Ro : Nat) (n : Int) (h : Hp) : Prop := ∀ d : Nat, d < 2 → 0 ≤ (hI h Ro d).toInt ∧ (hI h Ro d).toInt ≤ n ∧ (∀ q : Nat, (q : Int) < n → IsR h0 M R q d → 1 ≤ (hI h Ro d).toInt) ∧ (∀ q1 q2 : Nat, q1 < q2 → (q2 : Int) < n → IsR h0 M R q1 d → IsR h0 M R q2 d → 2 ≤ (hI h Ro d).toInt)
theorem wrong_q (L : LkS ρ x0 b S Fa Ct M R Fl Ri h0) (e22 : hR h0 x0 22 = some Ro) (rRo : ρ Ro = 86) (rz : hJ h0 b 2 = 0) (pz : hI h0 b 3 ≤ 0) (isd : Rg 0 1 (hI h0 b 1)) (mr : ∀ s, Rg 0 24 (hI h0 M s)) (iry : Rg (-1) 11 (hI h0 R 10)) (s0 : 0 ≤ (hI h0 x0 13).toInt) (s64 : (hI h0 x0 13).toInt ≤ 64) {h : Hp} {o : Int32 × Hp} (fr : Fq ρ h0 h) (e : sX15_wrongOf F h x0 b = some o) (np : o.1 ≤ 0) :
    ∀ q : Nat, (q : Int) < (hI h0 x0 13).toInt → IsR h0 M R q (1 - (hI h0 b 1).toInt).toNat → ∃ g o3, Fq ρ h0 g ∧ sX15_isAttacked F g x0 b (nI q) (hI h0 b 1) = some o3 ∧ o3.1 = 0 := by
  have L' := L
  obtain ⟨⟨rx, rb, rS, rFa, rCt, rM, rR, rFl, rRi⟩, ⟨e25, e26, e27, eM, eR, eFl, eRi⟩, ⟨iF, iR, iri, ps⟩⟩ := L'
  have z0 : (0 : Int32).toInt = 0 := rfl
  have z1 : (1 : Int32).toInt = 1 := rfl
  have nRo : ∀ {r k : Nat}, ρ r = k → ¬ k = 86 → ¬ r = Ro := fun {r k} e1 e2 w => e2 (by rw [← e1, w]; exact rRo)
  have nx : ¬ x0 = Ro := nRo rx (by decide)
  -- the end
  have b300 : ∀ {g : Hp}, Fq ρ h0 g → sX15_wrongOf_300 F g x0 b = some o → (∀ d : Nat, d < 2 → ∀ q1 q2 : Nat, (q1 : Int) < (hI h0 x0 13).toInt → (q2 : Int) < (hI h0 x0 13).toInt → IsR h0 M R q1 d → IsR h0 M R q2 d → q1 = q2) → ∀ q : Nat, (q : Int) < (hI h0 x0 13).toInt → IsR h0 M R q (1 - (hI h0 b 1).toInt).toNat → ∃ g o3, Fq ρ h0 g ∧ sX15_isAttacked F g x0 b (nI q) (hI h0 b 1) = some o3 ∧ o3.1 = 0 := by
    intro g fr e uq q ql iq
    unfold sX15_wrongOf_300 at e
    replace e := cl_s e; obtain ⟨o1, e1, e⟩ := e
    rw [fqI 1 fr rb] at e1
    have sb := isd.1
    have sb2 := isd.2
    have es : ((1 : Int32) - hI h0 b 1).toInt = 1 - (hI h0 b 1).toInt := ts (by rw [z1]; omega)
    have vq := mr q
    -- its value
    have val : (((1 : Int32) + ((2 : Int32) * hI h0 R 10)) + ((1 : Int32) - hI h0 b 1)) = hI h0 M q := by
      obtain ⟨p1, p2, p3⟩ := iq
      apply Int32.toInt_inj.mp
      have cs : ∀ j : Nat, 1 ≤ j → j ≤ 24 → ((nI j - (1 : Int32)) >>> ((1 : Int32) &&& 31)).toInt * 2 + ((nI j - (1 : Int32)) &&& (1 : Int32)).toInt + 1 = (nI j).toInt := by
        intro j a1 a2
        have : j = 1 ∨ j = 2 ∨ j = 3 ∨ j = 4 ∨ j = 5 ∨ j = 6 ∨ j = 7 ∨ j = 8 ∨ j = 9 ∨ j = 10 ∨ j = 11 ∨ j = 12 ∨ j = 13 ∨ j = 14 ∨ j = 15 ∨ j = 16 ∨ j = 17 ∨ j = 18 ∨ j = 19 ∨ j = 20 ∨ j = 21 ∨ j = 22 ∨ j = 23 ∨ j = 24 := by omega
        rcases this with w | w | w | w | w | w | w | w | w | w | w | w | w | w | w | w | w | w | w | w | w | w | w | w <;> subst w <;> decide
      have key : ((hI h0 M q - (1 : Int32)) >>> ((1 : Int32) &&& 31)).toInt * 2 + ((hI h0 M q - (1 : Int32)) &&& (1 : Int32)).toInt + 1 = (hI h0 M q).toInt := by
        obtain ⟨j, ej, tj, hj⟩ := rg_nI (x := hI h0 M q) (a := 1) (b := 24) ⟨by omega, vq.2⟩ (by decide)
        have v2 := vq.2
        have := cs j (by omega) (by omega)
        rw [ej]
        exact this
      have p2' := congrArg Int32.toInt p2
      have b2 : ((2 : Int32) * hI h0 R 10).toInt = 2 * (hI h0 R 10).toInt := tm (by have := iry.1; have := iry.2; show _ ≤ 2 * (hI h0 R 10).toInt ∧ 2 * (hI h0 R 10).toInt ≤ _; omega)
      have b3 : ((1 : Int32) + (2 : Int32) * hI h0 R 10).toInt = 1 + 2 * (hI h0 R 10).toInt := by
        rw [ta (by rw [b2, z1]; have := iry.1; have := iry.2; omega), b2, z1]
      rw [ta (by rw [b3, es]; have := iry.1; have := iry.2; omega), b3, es, ← key, p2', p3]
      omega
    have ry : ∀ (f : Nat) {x3 : Int32} {o1 : Int32 × Hp}, 0 ≤ x3.toInt → (∀ j : Nat, (j : Int) < x3.toInt → ¬ j = q) → sX15_royalOf_2 F f g x0 b ((1 : Int32) - hI h0 b 1) x3 = some o1 → o1 = (nI q, g) := by
      intro f
      induction f with
      | zero => intro x3 o1 _ _ e; exact absurd e (by simp [sX15_royalOf_2])
      | succ f ih =>
        intro x3 o1 a3 nq e
        unfold sX15_royalOf_2 sX15_valueOf at e
        simp only [nm] at e
        have vr := iry.2
        replace e := br_s e; rcases e with ⟨c, e⟩ | ⟨c, e⟩
        · have c := le_i c
          rw [fqI 13 fr rx] at c
          exact absurd rfl (nq q (by omega))
        have c := nle_i c
        rw [fqI 13 fr rx] at c
        replace e := cl_s e; obtain ⟨R', p, e⟩ := e
        rw [fqE 4 fr rx] at p
        have := r_eq eR p; subst this
        replace e := br_s e; rcases e with ⟨c2, e⟩ | ⟨c2, e⟩
        · rw [fqI 10 fr rR, ← iq.2.1] at c2
          have := man_r (x1 := hI h0 M q) ⟨by have := iq.1; omega, vq.2⟩
          rw [c2] at this
          exact absurd this.1 (by decide)
        replace e := cl_s e; obtain ⟨M', p, e⟩ := e
        rw [fqE 0 fr rb] at p
        have := r_eq eM p; subst this
        replace e := (gd_s e).2
        replace e := cl_s e; obtain ⟨R', p, e⟩ := e
        rw [fqE 4 fr rx] at p
        have := r_eq eR p; subst this
        replace e := cl_s e; obtain ⟨o7, e7, e⟩ := e
        have := Option.some.inj e7; subst this
        dsimp only at e
        rw [fqI 10 fr rR, fqI _ fr rM, val] at e
        have ex : (x3 + (1 : Int32)).toInt = x3.toInt + 1 := ta (by show _ ≤ x3.toInt + 1 ∧ x3.toInt + 1 ≤ _; omega)
        replace e := br_s e; rcases e with ⟨c3, e⟩ | ⟨c3, e⟩
        · have c0 := nc_i a3
          have iq2 : IsR h0 M' R' x3.toNatClampNeg (1 - (hI h0 b 1).toInt).toNat := by
            unfold IsR
            rw [c3]
            exact iq
          have := uq _ (by omega) x3.toNatClampNeg q (by omega) ql iq2 iq
          rw [← Option.some.inj e]
          congr 1
          apply Int32.toInt_inj.mp
          rw [z_toInt (by omega)]
          omega
        · refine ih (by omega) (fun j hj w => ?_) e
          have c0 := nc_i a3
          by_cases w2 : j = x3.toNatClampNeg
          · rw [← w, w2] at c3; exact c3 rfl
          · exact nq j (by omega) w
    unfold sX15_royalOf at e1
    have v1 := ry F (by decide) (fun j hj => absurd hj (by show ¬ (j : Int) < 0; omega)) e1
    subst v1
    dsimp only at e
    replace e := br_s e; rcases e with ⟨c, _⟩ | ⟨_, e⟩
    · have := congrArg Int32.toInt c
      rw [z_toInt (by omega)] at this
      exact absurd this (by show ¬ (q : Int) = -1; omega)
    replace e := cl_s e; obtain ⟨o3, e3, e⟩ := e
    rw [fqI 1 fr rb] at e3
    replace e := br_s e; rcases e with ⟨c, _⟩ | ⟨_, e⟩
    · exact ⟨g, o3, fr, e3, c⟩
    · rw [← Option.some.inj e] at np
      exact absurd (le_i np) (np_x _ _ (by decide))
  have b242 : ∀ (f : Nat) {g : Hp} {x4 : Int32}, Fq ρ h0 g → sX15_wrongOf_242 F f g x0 b x4 = some o → sX15_wrongOf_300 F g x0 b = some o := by
    intro f
    induction f with
    | zero => intro g x4 _ e; exact absurd e (by simp [sX15_wrongOf_242])
    | succ f ih =>
      intro g x4 fr e
      unfold sX15_wrongOf_242 sX15_wrongOf_277 at e
      simp only [nm] at e
      replace e := br_s e; rcases e with ⟨_, e⟩ | ⟨_, e⟩
      · replace e := br_s e; rcases e with ⟨_, e⟩ | ⟨c, _⟩
        · exact e
        · rw [fqI 3 fr rb] at c; exact absurd pz c
      replace e := br_s e; rcases e with ⟨c, _⟩ | ⟨_, e⟩
      · exact absurd c (no_right (by rw [fqJ 2 fr rb]; exact rz) _)
      · exact ih fr e
  have b165 : ∀ {g : Hp} {x2 t0 : Int32}, Fq ρ h0 g → RyI h0 M R Ro (hI h0 x0 13).toInt g → sX15_wrongOf_165 F g x0 b x2 t0 = some o → ∀ q : Nat, (q : Int) < (hI h0 x0 13).toInt → IsR h0 M R q (1 - (hI h0 b 1).toInt).toNat → ∃ g o3, Fq ρ h0 g ∧ sX15_isAttacked F g x0 b (nI q) (hI h0 b 1) = some o3 ∧ o3.1 = 0 := by
    intro g x2 t0 fr I e
    have d231 : ∀ {P : Prop}, sX15_wrongOf_231 F g = some o → P := fun {P} e => by
      unfold sX15_wrongOf_231 at e
      rw [← Option.some.inj e] at np
      exact absurd (le_i np) (np_x _ _ (by decide))
    unfold sX15_wrongOf_165 at e
    replace e := cl_s e; obtain ⟨r1, p, e⟩ := e
    rw [fqE 22 fr rx] at p
    have := r_eq e22 p; subst this
    replace e := (gd_s e).2
    replace e := br_s e; rcases e with ⟨_, e⟩ | ⟨c1, e⟩
    · exact d231 e
    replace e := cl_s e; obtain ⟨r1', p, e⟩ := e
    rw [fqE 22 fr rx] at p
    have := r_eq e22 p; subst this
    replace e := (gd_s e).2
    replace e := br_s e; rcases e with ⟨_, e⟩ | ⟨c2, e⟩
    · exact d231 e
    have c1 := nlt_i c1
    have c2 := nlt_i c2
    have uq : ∀ d : Nat, d < 2 → ∀ q1 q2 : Nat, (q1 : Int) < (hI h0 x0 13).toInt → (q2 : Int) < (hI h0 x0 13).toInt → IsR h0 M R q1 d → IsR h0 M R q2 d → q1 = q2 := by
      intro d hd q1 q2 l1 l2 i1 i2
      obtain ⟨_, _, _, w⟩ := I d hd
      have le1 : (hI g r1' d).toInt ≤ 1 := by
        have : d = 0 ∨ d = 1 := by omega
        rcases this with w | w <;> subst w
        · exact c1
        · exact c2
      refine Classical.byContradiction fun ne => ?_
      by_cases lt : q1 < q2
      · have := w q1 q2 lt l2 i1 i2; omega
      · have := w q2 q1 (by omega) l1 i2 i1; omega
    have d233 : sX15_wrongOf_233 F g x0 b x2 = some o → ∀ q : Nat, (q : Int) < (hI h0 x0 13).toInt → IsR h0 M R q (1 - (hI h0 b 1).toInt).toNat → ∃ g o3, Fq ρ h0 g ∧ sX15_isAttacked F g x0 b (nI q) (hI h0 b 1) = some o3 ∧ o3.1 = 0 := by
      intro e
      unfold sX15_wrongOf_233 at e
      replace e := br_s e; rcases e with ⟨_, e⟩ | ⟨_, e⟩
      · exact b300 fr (b242 F fr e) uq
      · rw [← Option.some.inj e] at np
        exact absurd (le_i np) (np_x _ _ (by decide))
    replace e := br_s e; rcases e with ⟨_, e⟩ | ⟨_, e⟩
    · replace e := cl_s e; obtain ⟨_, _, e⟩ := e
      replace e := br_s e; rcases e with ⟨_, e⟩ | ⟨_, e⟩
      · exact d233 e
      replace e := cl_s e; obtain ⟨_, _, e⟩ := e
      replace e := br_s e; rcases e with ⟨_, e⟩ | ⟨_, e⟩
      · exact d233 e
      replace e := cl_s e; obtain ⟨_, _, e⟩ := e
      replace e := (gd_s e).2
      replace e := br_s e; rcases e with ⟨_, e⟩ | ⟨_, e⟩
      · replace e := cl_s e; obtain ⟨_, _, e⟩ := e
        replace e := (gd_s e).2
        replace e := br_s e; rcases e with ⟨_, e⟩ | ⟨_, e⟩
        · exact d233 e
        · exact d231 e
      · exact d231 e
    · exact d231 e
  have b18 : ∀ (f : Nat) {g : Hp} {x2 x3 : Int32}, Fq ρ h0 g → 0 ≤ x3.toInt → x3.toInt ≤ (hI h0 x0 13).toInt → RyI h0 M R Ro x3.toInt g → sX15_wrongOf_18 F f g x0 b x2 x3 = some o → ∀ q : Nat, (q : Int) < (hI h0 x0 13).toInt → IsR h0 M R q (1 - (hI h0 b 1).toInt).toNat → ∃ g o3, Fq ρ h0 g ∧ sX15_isAttacked F g x0 b (nI q) (hI h0 b 1) = some o3 ∧ o3.1 = 0 := by
    intro f
    induction f with
    | zero => intro g x2 x3 _ _ _ _ e; exact absurd e (by simp [sX15_wrongOf_18])
    | succ f ih =>
      intro g x2 x3 fr a3 b3 I e
      unfold sX15_wrongOf_18 sX15_wrongOf_164 sX15_wrongOf_109 at e
      simp only [nm] at e
      replace e := br_s e; rcases e with ⟨c, e⟩ | ⟨c, e⟩
      · have c := le_i c
        rw [fqI 13 fr rx] at c
        have I2 : RyI h0 M R Ro (hI h0 x0 13).toInt g := by
          have : x3.toInt = (hI h0 x0 13).toInt := by omega
          rw [← this]; exact I
        replace e := cl_s e; obtain ⟨_, _, e⟩ := e
        replace e := br_s e; rcases e with ⟨_, e⟩ | ⟨_, e⟩
        · exact b165 fr I2 e
        replace e := cl_s e; obtain ⟨_, _, e⟩ := e
        replace e := cl_s e; obtain ⟨_, _, e⟩ := e
        replace e := (gd_s e).2
        replace e := cl_s e; obtain ⟨_, _, e⟩ := e
        replace e := cl_s e; obtain ⟨_, _, e⟩ := e
        replace e := (gd_s e).2
        replace e := br_s e; rcases e with ⟨_, e⟩ | ⟨_, e⟩
        · exact b165 fr I2 e
        · exact b165 fr I2 e
      have c := nle_i c
      rw [fqI 13 fr rx] at c
      have ex : (x3 + (1 : Int32)).toInt = x3.toInt + 1 := ta (by show _ ≤ x3.toInt + 1 ∧ x3.toInt + 1 ≤ _; omega)
      have c0 := nc_i a3
      replace e := cl_s e; obtain ⟨M', p, e⟩ := e
      rw [fqE 0 fr rb] at p
      have := r_eq eM p; subst this
      replace e := (gd_s e).2
      rw [fqI _ fr rM] at e
      -- one square more
      have more : ∀ {g2 : Hp}, (∀ d : Nat, d < 2 → (hI g Ro d).toInt ≤ (hI g2 Ro d).toInt ∧ (hI g2 Ro d).toInt ≤ (hI g Ro d).toInt + 1 ∧ (IsR h0 M' R x3.toNatClampNeg d → (hI g2 Ro d).toInt = (hI g Ro d).toInt + 1)) → RyI h0 M' R Ro (x3 + (1 : Int32)).toInt g2 := by
        intro g2 w d hd
        obtain ⟨w1, w2, w3⟩ := w d hd
        obtain ⟨i1, i2, i3, i4⟩ := I d hd
        refine ⟨by omega, by omega, fun q hq iq => ?_, fun q1 q2 lt hq j1 j2 => ?_⟩
        · by_cases z : q = x3.toNatClampNeg
          · subst z; have := w3 iq; omega
          · have := i3 q (by omega) iq; omega
        · by_cases z : q2 = x3.toNatClampNeg
          · subst z
            have := w3 j2
            have := i3 q1 (by omega) j1
            omega
          · have := i4 q1 q2 lt (by omega) j1 j2; omega
      replace e := br_s e; rcases e with ⟨cv, e⟩ | ⟨cv, e⟩
      · have cv := le_i cv
        refine ih fr (by omega) (by omega) (more (fun d hd => ⟨Int.le_refl _, by omega, fun iq => ?_⟩)) e
        have := iq.1
        omega
      have cv := nle_i cv
      replace e := cl_s e; obtain ⟨r15, p, e⟩ := e
      rw [fqE 22 fr rx] at p
      have := r_eq e22 p; subst this
      replace e := cl_s e; obtain ⟨o16, e16, e⟩ := e
      unfold sX15_sideOf at e16
      have := Option.some.inj e16; subst this
      dsimp only at e
      have gB := (gd_s e).1
      replace e := (gd_s e).2
      replace e := cl_s e; obtain ⟨o18, e18, e⟩ := e
      unfold sX15_manOf at e18
      have := Option.some.inj e18; subst this
      dsimp only at e
      replace e := cl_s e; obtain ⟨R', p, e⟩ := e
      rw [fqE 4 fr rx] at p
      have := r_eq eR p; subst this
      rw [fqI 10 fr rR] at e
      have b70 : ∀ (w : Int32), (w = 0 ∨ w = 1) → ((hI h0 M' x3.toNatClampNeg - (1 : Int32)) >>> ((1 : Int32) &&& 31) = hI h0 R' 10 → w = 1) → sX15_wrongOf_70 F (sX15_wrongOf_18 F f) g x0 b x2 x3 (hI h0 M' x3.toNatClampNeg) w (hI g r15 ((hI h0 M' x3.toNatClampNeg - (1 : Int32)) &&& (1 : Int32)).toNatClampNeg) ((hI h0 M' x3.toNatClampNeg - (1 : Int32)) &&& (1 : Int32)) r15 = some o → ∀ q : Nat, (q : Int) < (hI h0 x0 13).toInt → IsR h0 M' R' q (1 - (hI h0 b 1).toInt).toNat → ∃ g o3, Fq ρ h0 g ∧ sX15_isAttacked F g x0 b (nI q) (hI h0 b 1) = some o3 ∧ o3.1 = 0 := by
        intro w hw hm e
        unfold sX15_wrongOf_70 at e
        simp only [nm] at e
        replace e := (gd_s e).2
        have sr := side_r (x := hI h0 M' x3.toNatClampNeg - (1 : Int32))
        have c1 := nc_i sr.1
        have s1 := sr.2
        generalize hsd : (hI h0 M' x3.toNatClampNeg - (1 : Int32)) &&& (1 : Int32) = sdv at e sr c1 s1
        have frw : Fq ρ h0 (wI g r15 sdv.toNatClampNeg (hI g r15 sdv.toNatClampNeg + w)) := fq_w fr rRo
        have ww : 0 ≤ w.toInt ∧ w.toInt ≤ 1 := by rcases hw with q | q <;> subst q <;> decide
        obtain ⟨y1, y2, _, _⟩ := I sdv.toNatClampNeg (by omega)
        have ad : (hI g r15 sdv.toNatClampNeg + w).toInt = (hI g r15 sdv.toNatClampNeg).toInt + w.toInt := ta (by omega)
        have I2 : RyI h0 M' R' r15 (x3 + (1 : Int32)).toInt (wI g r15 sdv.toNatClampNeg (hI g r15 sdv.toNatClampNeg + w)) := by
          refine more (fun d hd => ?_)
          rw [r_I]
          by_cases z : d = sdv.toNatClampNeg
          · rw [if_pos ⟨rfl, z⟩, ad]
            subst z
            refine ⟨by omega, by omega, fun iq => ?_⟩
            rw [hm iq.2.1]
            rfl
          · rw [if_neg (fun q => z q.2)]
            refine ⟨Int.le_refl _, by omega, fun iq => ?_⟩
            have := iq.2.2
            rw [hsd] at this
            omega
        replace e := cl_s e; obtain ⟨o3, e3, e⟩ := e
        unfold sX15_manOf at e3
        have := Option.some.inj e3; subst this
        dsimp only at e
        have fin : ∀ {t0 t1 : Int32}, sX15_wrongOf_107 F (sX15_wrongOf_18 F f) (wI g r15 sdv.toNatClampNeg (hI g r15 sdv.toNatClampNeg + w)) x0 b x3 t0 t1 = some o → ∀ q : Nat, (q : Int) < (hI h0 x0 13).toInt → IsR h0 M' R' q (1 - (hI h0 b 1).toInt).toNat → ∃ g o3, Fq ρ h0 g ∧ sX15_isAttacked F g x0 b (nI q) (hI h0 b 1) = some o3 ∧ o3.1 = 0 := by
          intro t0 t1 e
          unfold sX15_wrongOf_107 sX15_wrongOf_109 at e
          simp only [nm] at e
          exact ih frw (by omega) (by omega) I2 e
        replace e := cl_s e; obtain ⟨o4, e4, e⟩ := e
        rw [oth_post e4] at e
        unfold sX15_wrongOf_106 at e
        replace e := br_s e; rcases e with ⟨_, e⟩ | ⟨_, e⟩
        · exact fin e
        replace e := cl_s e; obtain ⟨o6, e6, e⟩ := e
        unfold sX15_sideOf at e6
        have := Option.some.inj e6; subst this
        dsimp only at e
        replace e := cl_s e; obtain ⟨o7, e7, e⟩ := e
        rw [(rank_post e7).1] at e
        replace e := br_s e; rcases e with ⟨_, e⟩ | ⟨_, e⟩
        · exact fin e
        · exact fin e
      replace e := br_s e; rcases e with ⟨cm, e⟩ | ⟨cm, e⟩
      · exact b70 1 (Or.inr rfl) (fun _ => rfl) e
      · exact b70 0 (Or.inl rfl) (fun w => absurd w cm) e
  unfold sX15_wrongOf at e
  simp only [nm] at e
  replace e := cl_s e; obtain ⟨r1, p, e⟩ := e
  rw [fqE 22 fr rx] at p
  have := r_eq e22 p; subst this
  replace e := (gd_s e).2
  replace e := cl_s e; obtain ⟨r4, p, e⟩ := e
  replace p : hR h x0 22 = some r4 := p
  rw [fqE 22 fr rx] at p
  have := r_eq e22 p; subst this
  replace e := (gd_s e).2
  refine b18 F (fq_w (fq_w fr rRo) rRo) (by decide) (by rw [z0]; exact s0) (fun d hd => ?_) e
  have zr : hI (wI (wI h r4 (0 : Int32).toNatClampNeg 0) r4 (1 : Int32).toNatClampNeg 0) r4 d = 0 := by
    have : d = 0 ∨ d = 1 := by omega
    rcases this with w | w <;> subst w
    · rw [r_I, if_neg (fun w => absurd w.2 (by decide)), r_I, if_pos ⟨rfl, rfl⟩]
    · rw [r_I, if_pos ⟨rfl, rfl⟩]
  rw [zr]
  exact ⟨by decide, by decide, fun q hq => absurd hq (by show ¬ (q : Int) < 0; omega), fun _ q2 _ hq => absurd hq (by show ¬ (q2 : Int) < 0; omega)⟩
end
