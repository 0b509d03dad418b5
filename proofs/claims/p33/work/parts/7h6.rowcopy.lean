/-! rows that the reference copies before it adds a SET -/
section
variable {ρ : Nat → Nat} {c : Cm} {hr g : Hp} {m rm re rb rk rs ro F : Nat} {o' : Int32 × Hp}
theorem jo_t {g1 g2 g3 : Hp} (A : Jo ro g1 g2) (B : Jo ro g2 g3) : Jo ro g1 g3 := ⟨fun a i => (B.1 a i).trans (A.1 a i), fun a => (B.2.1 a).trans (A.2.1 a), fun a i => (B.2.2.1 a i).trans (A.2.2.1 a i), fun a i n => (B.2.2.2 a i n).trans (A.2.2.2 a i n)⟩
theorem jo_0 : Jo ro hr hr := ⟨fun _ _ => rfl, fun _ => rfl, fun _ _ => rfl, fun _ _ _ => rfl⟩
/-- without one man -/
theorem cwo_e (hF : 700000 ≤ F) (hA : pmA c seL) (Q : SlR ρ m rm re rb rk rs ro hr) (T : TH ρ c hr) (P : SE m hr) {x1 x2 : Int32} (i1 : Rg 0 4095 x1) (ln : x1.toInt < (hI hr m 49).toInt) (a2 : 0 ≤ x2.toInt) (l2 : x2.toInt < (hI hr rm x1.toNatClampNeg).toInt) (e : sX15_copyWithout F hr m x1 x2 = some o') : ∃ (g : Hp) (x3 : Int32), Jo ro hr g ∧ TH ρ c g ∧ SE m g ∧ RW m x3.toInt g ∧ x3.toInt = (hI hr rm x1.toNatClampNeg).toInt - 1 ∧ (∀ p : Nat, (p : Int) < x3.toInt → hI g ro p = sk (fun p => hI hr re (5 * x1.toNatClampNeg + p)) x2.toNatClampNeg p) ∧ sX15_addSet F g m x3 = some o' := by
  obtain ⟨⟨r0, qm, qe, qb, qk, qs, qo⟩, ⟨e46, e47, e48, e55, e56, e57⟩⟩ := id Q
  have nom : ¬ rm = ro := fun w => absurd (w ▸ qm) (by rw [qo]; decide)
  have noe : ¬ re = ro := fun w => absurd (w ▸ qe) (by rw [qo]; decide)
  have c2 := clamp_i a2
  have im := thI T qm (k := 99) (i := x1.toNatClampNeg) (lo := 0) (hi := 5) rfl
  have cm := clamp_i im.1
  have bm := im.2
  have c1 := clamp_i i1.1
  have z0 : (0 : Int32).toInt = 0 := rfl
  have lp : ∀ (f : Nat) {g : Hp} {x3 x4 : Int32}, TH ρ c g → SE m g → Jo ro hr g → RW m x3.toInt g → 0 ≤ x4.toInt → x4.toInt ≤ (hI hr rm x1.toNatClampNeg).toInt → (x3.toInt = if x4.toInt ≤ x2.toInt then x4.toInt else x4.toInt - 1) → (∀ p : Nat, (p : Int) < x3.toInt → hI g ro p = sk (fun p => hI hr re (5 * x1.toNatClampNeg + p)) x2.toNatClampNeg p) → sX15_copyWithout_5 F f g m x1 x2 x3 x4 = some o' → ∃ (g : Hp) (x3 : Int32), Jo ro hr g ∧ TH ρ c g ∧ SE m g ∧ RW m x3.toInt g ∧ x3.toInt = (hI hr rm x1.toNatClampNeg).toInt - 1 ∧ (∀ p : Nat, (p : Int) < x3.toInt → hI g ro p = sk (fun p => hI hr re (5 * x1.toNatClampNeg + p)) x2.toNatClampNeg p) ∧ sX15_addSet F g m x3 = some o' := by
    intro f
    induction f with
    | zero => intro g x3 x4 _ _ _ _ _ _ _ _ e; exact absurd e (by simp [sX15_copyWithout_5])
    | succ f ih =>
      intro g x3 x4 Tg Pg jo W a4 b4 r3 rows e
      unfold sX15_copyWithout_5 sX15_copyWithout_42 at e
      simp only [nm] at e
      have c4 := clamp_i a4
      replace e := cl_s e; obtain ⟨r1, p, e⟩ := e
      rw [jo.1] at p
      have := r_eq e46 p; subst this
      replace e := (gd_s e).2
      rw [jo.2.2.2 r1 _ nom] at e
      replace e := br_s e; rcases e with ⟨cc, e⟩ | ⟨cc, e⟩
      · have cc := le_i cc
        have x3v : x3.toInt = (hI hr r1 x1.toNatClampNeg).toInt - 1 := by rw [r3, if_neg (by omega)]; omega
        replace e := cl_s e; obtain ⟨o4, e4, e⟩ := e
        have e := Option.some.inj (gd_s e).2
        exact ⟨g, x3, jo, Tg, Pg, W, x3v, rows, by rw [← e]; exact e4⟩
      have cc := nle_i cc
      have i4 : Rg 0 4 x4 := ⟨a4, by omega⟩
      have ny := nc_s i4 (by decide)
      replace e := br_s e; rcases e with ⟨q, e⟩ | ⟨q, e⟩
      · rw [q] at r3
        refine ih Tg Pg jo W (by omega) (by omega) ?_ rows e
        rw [ny.2, if_neg (by rw [q]; omega), r3, if_pos (Int.le_refl _), q]
        omega
      · have q' : ¬ x4.toInt = x2.toInt := fun w => q (Int32.toInt_inj.mp w)
        replace e := cl_s e; obtain ⟨r7, p, e⟩ := e
        rw [jo.1] at p
        have := r_eq e57 p; subst this
        replace e := cl_s e; obtain ⟨r8, p, e⟩ := e
        rw [jo.1] at p
        have := r_eq e47 p; subst this
        replace e := (gd_s e).2
        replace e := (gd_s e).2
        have ix := (ix5 (x1 := x1) (x4 := x4) i1 i4).2
        rw [ix, jo.2.2.2 r8 _ noe] at e
        have x3b : 0 ≤ x3.toInt ∧ x3.toInt ≤ 4 := by rw [r3]; split <;> omega
        have c3 := clamp_i x3b.1
        have n3 := nc_s (x := x3) (b := 4) ⟨x3b.1, x3b.2⟩ (by decide)
        have pos : 1 ≤ (hI hr r8 (5 * x1.toNatClampNeg + x4.toNatClampNeg)).toInt := P.2.2.2.2.1 r1 r8 e46 e47 x1.toNatClampNeg (by omega) x4.toNatClampNeg (by omega)
        have iv := thI T qe (k := 100) (i := 5 * x1.toNatClampNeg + x4.toNatClampNeg) (lo := 0) (hi := 24) rfl
        have T2 : TH ρ c (wI g r7 x3.toNatClampNeg (hI hr r8 (5 * x1.toNatClampNeg + x4.toNatClampNeg))) := th_wI Tg qo (k := 108) (lo := 0) (hi := 24) rfl iv (by decide) (by decide) (pm_a hA rfl)
        obtain ⟨P2, _, W2⟩ := row_w (n := x3.toInt) Tg r0 (by rw [jo.1]; exact e57) qo rfl Pg rfl (Or.inl pos) W
        refine ih T2 P2 (jo_w jo) ?_ (by omega) (by omega) ?_ ?_ e
        · intro ro' er i hi
          replace er : hR g m 57 = some ro' := er
          rw [jo.1] at er
          have := r_eq e57 er; subst this
          rw [r_I]
          by_cases w : i = x3.toNatClampNeg
          · rw [if_pos ⟨rfl, w⟩]; exact pos
          · rw [if_neg (fun z => w z.2)]
            exact W ro' (by rw [jo.1]; exact e57) i (by omega)
        · rw [n3.2, ny.2, r3]
          split <;> split <;> omega
        · intro p hp
          rw [r_I]
          by_cases w : p = x3.toNatClampNeg
          · rw [if_pos ⟨rfl, w⟩, w]
            unfold sk
            by_cases z : x4.toInt ≤ x2.toInt
            · rw [if_pos z] at r3
              rw [if_pos (by omega)]
              congr 1
              omega
            · rw [if_neg z] at r3
              rw [if_neg (by omega)]
              congr 1
              omega
          · rw [if_neg (fun z => w z.2)]
            exact rows p (by omega)
  unfold sX15_copyWithout at e
  exact lp F T P jo_0 (fun _ _ i hi => absurd hi (by rw [z0]; omega)) (by decide) (by rw [z0]; exact im.1) (by rw [z0, if_pos a2]) (fun p hp => absurd hp (by rw [z0]; omega)) e
/-- with one man in another's place -/
theorem b81_e {R Bc : Nat} {k2 : Hp → Nat → Int32 → Option (Int32 × Hp)} {k12 : Hp → Nat → Int32 → Int32 → Option (Int32 × Hp)} {k61 : Hp → Nat → Int32 → Int32 → Int32 → Int32 → Option (Int32 × Hp)} {x1 x2 x3 x4 : Int32} (hA : pmA c seL) (Q : SlR ρ m rm re rb rk rs ro hr) (T : TH ρ c hr) (P : SE m hr) (eR : hR hr m 4 = some R) (eBc : hR hr R 13 = some Bc) (i1 : Rg 0 4095 x1) (ln : x1.toInt < (hI hr m 49).toInt) (a2 : 0 ≤ x2.toInt) (l2 : x2.toInt < (hI hr rm x1.toNatClampNeg).toInt) {vv : Int32} (hv : ((1 : Int32) + ((2 : Int32) * (hI hr Bc (((6 : Int32) * ((x3 - (1 : Int32)) >>> ((1 : Int32) &&& 31))) + x4).toNatClampNeg))) + ((x3 - (1 : Int32)) &&& (1 : Int32)) = vv) (iv : Rg 1 24 vv) : ∀ (f4 : Nat) {g2 : Hp} {x5 : Int32}, TH ρ c g2 → SE m g2 → Jo ro hr g2 → 0 ≤ x5.toInt → x5.toInt ≤ (hI hr rm x1.toNatClampNeg).toInt → RW m x5.toInt g2 → (∀ p : Nat, (p : Int) < x5.toInt → hI g2 ro p = hI hr re (5 * x1.toNatClampNeg + p)) → sX15_addAll_81 F k2 k12 k61 f4 g2 m x1 x2 x3 x4 x5 = some o' → ∃ (g : Hp) (o15 : Int32 × Hp), Jo ro hr g ∧ TH ρ c g ∧ SE m g ∧ RW m (hI hr rm x1.toNatClampNeg).toInt g ∧ (∀ p : Nat, (p : Int) < (hI hr rm x1.toNatClampNeg).toInt → hI g ro p = up (fun p => hI hr re (5 * x1.toNatClampNeg + p)) x2.toNatClampNeg vv p) ∧ sX15_addSet F g m (hI hr rm x1.toNatClampNeg) = some o15 ∧ ((o15.1 = 0 ∧ o' = ((0 : Int32), o15.2)) ∨ (¬ o15.1 = 0 ∧ k61 o15.2 m x1 x2 x3 (x4 + (1 : Int32)) = some o')) := by
  obtain ⟨⟨r0, qm, qe, qb, qk, qs, qo⟩, ⟨e46, e47, e48, e55, e56, e57⟩⟩ := id Q
  have qR : ρ R = 15 := rr T (thR T r0 (i := 4) (k2 := 15) rfl (by decide)) eR
  have qBc : ρ Bc = 80 := rr T (thR T qR (i := 13) (k2 := 80) rfl (by decide)) eBc
  have nom : ¬ rm = ro := fun w => absurd (w ▸ qm) (by rw [qo]; decide)
  have noe : ¬ re = ro := fun w => absurd (w ▸ qe) (by rw [qo]; decide)
  have noBc : ¬ Bc = ro := fun w => absurd (w ▸ qBc) (by rw [qo]; decide)
  have im := thI T qm (k := 99) (i := x1.toNatClampNeg) (lo := 0) (hi := 5) rfl
  have cm := clamp_i im.1
  have bm5 := im.2
  have c1 := clamp_i i1.1
  have c2 := clamp_i a2
  intro f4
  induction f4 with
  | zero => intro g2 x5 _ _ _ _ _ _ _ eD; exact absurd eD (by simp [sX15_addAll_81])
  | succ f4 ih4 =>
    intro g2 x5 T2 P2 jo a5 b5 W rows eD
    unfold sX15_addAll_81 at eD
    simp only [nm] at eD
    have c5 := clamp_i a5
    replace eD := cl_s eD; obtain ⟨q1, p, eD⟩ := eD
    rw [jo.1] at p
    have := r_eq e46 p; subst this
    replace eD := (gd_s eD).2
    have km : hI g2 q1 x1.toNatClampNeg = hI hr q1 x1.toNatClampNeg := jo.2.2.2 q1 _ nom
    rw [km] at eD
    replace eD := br_s eD; rcases eD with ⟨cc, eD⟩ | ⟨cc, eD⟩
    · have cc := le_i cc
      replace eD := cl_s eD; obtain ⟨q4, p, eD⟩ := eD
      rw [jo.1] at p
      have := r_eq e57 p; subst this
      replace eD := cl_s eD; obtain ⟨q5, p, eD⟩ := eD
      rw [jo.1] at p
      have := r_eq eR p; subst this
      replace eD := cl_s eD; obtain ⟨q6, p, eD⟩ := eD
      rw [jo.1] at p
      have := r_eq eBc p; subst this
      replace eD := cl_s eD; obtain ⟨o7, e7, eD⟩ := eD
      unfold sX15_manOf at e7
      have := Option.some.inj e7; subst this
      dsimp only at eD
      replace eD := (gd_s eD).2
      replace eD := cl_s eD; obtain ⟨o9, e9, eD⟩ := eD
      unfold sX15_sideOf at e9
      have := Option.some.inj e9; subst this
      dsimp only at eD
      replace eD := cl_s eD; obtain ⟨o10, e10, eD⟩ := eD
      unfold sX15_valueOf at e10
      have := Option.some.inj e10; subst this
      dsimp only at eD
      rw [jo.2.2.2 q6 _ noBc] at eD
      replace eD := (gd_s eD).2
      rw [hv] at eD
      have T12 : TH ρ c (wI g2 q4 x2.toNatClampNeg vv) := th_wI T2 qo (k := 108) (lo := 0) (hi := 24) rfl (rg_m iv (by decide)) (by decide) (by decide) (pm_a hA rfl)
      obtain ⟨P12, _, W12⟩ := row_w (n := x5.toInt) T2 r0 (by rw [jo.1]; exact e57) qo rfl P2 rfl (Or.inl iv.1) W
      replace eD := cl_s eD; obtain ⟨q13, p, eD⟩ := eD
      replace p : hR g2 m 46 = some q13 := p
      rw [jo.1] at p
      have := r_eq e46 p; subst this
      replace eD := (gd_s eD).2
      have km2 : hI (wI g2 q4 x2.toNatClampNeg vv) q13 x1.toNatClampNeg = hI hr q13 x1.toNatClampNeg := by rw [r_I, if_neg (fun w => nom w.1)]; exact km
      rw [km2] at eD
      replace eD := cl_s eD; obtain ⟨o15, e15, eD⟩ := eD
      have e5 : x5.toInt = (hI hr q13 x1.toNatClampNeg).toInt := by omega
      rw [e5] at W12
      refine ⟨_, o15, jo_w jo, T12, P12, W12, fun p hp => ?_, e15, ?_⟩
      · unfold up
        rw [r_I]
        by_cases w2 : p = x2.toNatClampNeg
        · rw [if_pos ⟨rfl, w2⟩, if_pos w2]
        · rw [if_neg (fun z => w2 z.2), if_neg w2]
          exact rows p (by omega)
      · replace eD := br_s eD; rcases eD with ⟨z, eD⟩ | ⟨nz, eD⟩
        · exact Or.inl ⟨z, (Option.some.inj eD).symm⟩
        · exact Or.inr ⟨nz, eD⟩
    · have cc := nle_i cc
      replace eD := cl_s eD; obtain ⟨q18, p, eD⟩ := eD
      rw [jo.1] at p
      have := r_eq e57 p; subst this
      replace eD := cl_s eD; obtain ⟨q19, p, eD⟩ := eD
      rw [jo.1] at p
      have := r_eq e47 p; subst this
      replace eD := (gd_s eD).2
      replace eD := (gd_s eD).2
      have i5 : Rg 0 4 x5 := ⟨a5, by omega⟩
      have ix := (ix5 (x1 := x1) (x4 := x5) i1 i5).2
      rw [ix, jo.2.2.2 q19 _ noe] at eD
      have ny := nc_s i5 (by decide)
      have iw := thI T qe (k := 100) (i := 5 * x1.toNatClampNeg + x5.toNatClampNeg) (lo := 0) (hi := 24) rfl
      have pos : 1 ≤ (hI hr q19 (5 * x1.toNatClampNeg + x5.toNatClampNeg)).toInt := P.2.2.2.2.1 q1 q19 e46 e47 x1.toNatClampNeg (by omega) x5.toNatClampNeg (by omega)
      have T3 : TH ρ c (wI g2 q18 x5.toNatClampNeg (hI hr q19 (5 * x1.toNatClampNeg + x5.toNatClampNeg))) := th_wI T2 qo (k := 108) (lo := 0) (hi := 24) rfl iw (by decide) (by decide) (pm_a hA rfl)
      obtain ⟨P3, _, _⟩ := row_w (n := x5.toInt) T2 r0 (by rw [jo.1]; exact e57) qo rfl P2 rfl (Or.inl pos) W
      refine ih4 T3 P3 (jo_w jo) (by omega) (by omega) ?_ (fun p hp => ?_) eD
      · intro ro' er i hi
        replace er : hR g2 m 57 = some ro' := er
        rw [jo.1] at er
        have := r_eq e57 er; subst this
        rw [r_I]
        by_cases w : i = x5.toNatClampNeg
        · rw [if_pos ⟨rfl, w⟩]; exact pos
        · rw [if_neg (fun z => w z.2)]
          exact W ro' (by rw [jo.1]; exact e57) i (by omega)
      · rw [r_I]
        by_cases w : p = x5.toNatClampNeg
        · rw [if_pos ⟨rfl, w⟩, w]
        · rw [if_neg (fun z => w z.2)]
          exact rows p (by omega)
end
