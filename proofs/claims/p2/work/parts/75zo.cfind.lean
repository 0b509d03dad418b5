/-! the set that is found; what a square counts -/
section
variable {ρ : Nat → Nat} {c : Cm} {h : Hp} {x0 ks pw ro F : Nat} {x1 : Int32} {sq : Int}
theorem fset_q (hF : 700000 ≤ F) (T : TH ρ c h) (r0 : ρ x0 = 1) (e4 : hR h x0 4 = some ks) : Sat (sX0_findSet F h x0 x1) (fun o => o.2 = h ∧ Rg (-1) 1023 o.1 ∧ (¬ o.1 = (-1 : Int32) → 0 ≤ o.1.toInt ∧ o.1.toInt < (hI h x0 9).toInt ∧ hI h ks o.1.toNatClampNeg = x1)) := by
  refine sat_and (zX0_findSet hF T r0 (rg_top _)) (fun o e Z => ⟨Z.1, Z.2, ?_⟩)
  have i9 := thI T r0 (k := 1) (i := 9) (lo := 0) (hi := 1024) rfl
  have a9 := i9.1
  have b9 := i9.2
  have z1 : (1 : Int32).toInt = 1 := rfl
  have lp : ∀ (f : Nat) {x2 x3 : Int32}, 0 ≤ x2.toInt → x2.toInt ≤ 1024 → -1 ≤ x3.toInt → x3.toInt < (hI h x0 9).toInt → sX0_findSet_9 F f h x0 x1 x2 x3 = some o → ¬ o.1 = (-1 : Int32) → 0 ≤ o.1.toInt ∧ o.1.toInt < (hI h x0 9).toInt ∧ hI h ks o.1.toNatClampNeg = x1 := by
    intro f
    induction f with
    | zero => intro x2 x3 _ _ _ _ e; exact absurd e (by rw [sX0_findSet_9]; exact fun z => nomatch z)
    | succ f ih =>
      intro x2 x3 a2 b2 a3 b3 e ne
      rw [sX0_findSet_9] at e
      unfold sX0_findSet_59 at e
      replace e := br_s e
      rcases e with ⟨l, e⟩ | ⟨l, e⟩
      · exact absurd (by rw [← Option.some.inj e]) ne
      have l : x2.toInt ≤ x3.toInt := nlt_i l
      replace e := nm_s e
      obtain ⟨v2, e2, e⟩ := e
      have t2 : v2.toInt = (x2.toInt + x3.toInt) / 2 := by rw [e2, ti_shr1, ta (by omega)]
      clear e2
      replace e := cl_s e
      obtain ⟨r3, e3, e⟩ := e
      have q3 : r3 = ks := r_eq e4 e3
      subst q3
      replace e := gd_s e
      obtain ⟨_, e⟩ := e
      replace e := br_s e
      rcases e with ⟨w, e⟩ | ⟨w, e⟩
      · rw [← Option.some.inj e]
        exact ⟨by show 0 ≤ v2.toInt; omega, by show v2.toInt < _; omega, w⟩
      replace e := cl_s e
      obtain ⟨r6, e6, e⟩ := e
      replace e := gd_s e
      obtain ⟨_, e⟩ := e
      replace e := br_s e
      rcases e with ⟨_, e⟩ | ⟨_, e⟩
      · replace e := nm_s e
        obtain ⟨v9, e9, e⟩ := e
        have t9 : v9.toInt = v2.toInt - 1 := by rw [e9, ts (by rw [z1]; omega), z1]
        clear e9
        exact ih a2 b2 (by omega) (by omega) e ne
      · replace e := nm_s e
        obtain ⟨v9, e9, e⟩ := e
        have t9 : v9.toInt = v2.toInt + 1 := by rw [e9, ta (by rw [z1]; omega), z1]
        clear e9
        exact ih (by omega) (by omega) a3 b3 e ne
  unfold sX0_findSet at e
  replace e := nm_s e
  obtain ⟨v1, e1, e⟩ := e
  have t1 : v1.toInt = (hI h x0 9).toInt - 1 := by rw [e1, ts (by rw [z1]; omega), z1]
  clear e1
  exact lp F (x2 := (0 : Int32)) (by decide) (by decide) (by omega) (by omega) e
/-- what a square of one man more counts: a power, where all below it are ahead -/
theorem weight_q (hF : 700000 ≤ F) (T : TH ρ c h) (r0 : ρ x0 = 1) (e6 : hR h x0 6 = some pw) (e7 : hR h x0 7 = some ro) (Pw : ∀ i : Nat, i ≤ 5 → (hI h pw i).toInt = sq ^ i) (R : RoW (RoG sq) x0 ro h) (i1 : Rg 0 23 x1) : Sat (sX0_weightOf F h x0 x1) (fun o => o.2 = h ∧ (o.1.toInt ≤ 0 ∨ ∃ k : Nat, (k : Int) ≤ (hI h x0 8).toInt ∧ o.1.toInt = sq ^ k ∧ (∀ j : Nat, j < k → (hI h ro j).toInt < x1.toInt * 64) ∧ ∀ j : Nat, k ≤ j → (j : Int) < (hI h x0 8).toInt → x1.toInt * 64 < (hI h ro j).toInt)) := by
  refine sat_and (zX0_weightOf hF T r0 (rg_m i1 (by decide))) (fun o e Z => ⟨Z.1, ?_⟩)
  have i8 := thI T r0 (k := 1) (i := 8) (lo := 0) (hi := 5) rfl
  have a8 := i8.1
  have b8 := i8.2
  have z1 : (1 : Int32).toInt = 1 := rfl
  have z0 : (0 : Int32).toInt = 0 := rfl
  have lp : ∀ (f : Nat) {x2 x3 : Int32}, 0 ≤ x2.toInt → x2.toInt ≤ x3.toInt → x3.toInt ≤ (hI h x0 8).toInt → (∀ j : Nat, (j : Int) < x2.toInt → (hI h ro j).toInt / 64 < x1.toInt) → (∀ j : Nat, x2.toInt ≤ j → (j : Int) < x3.toInt → x1.toInt < (hI h ro j).toInt / 64) → sX0_weightOf_4 F f h x0 x1 x2 x3 = some o → (o.1.toInt ≤ 0 ∨ ∃ k : Nat, (k : Int) ≤ (hI h x0 8).toInt ∧ o.1.toInt = sq ^ k ∧ (∀ j : Nat, j < k → (hI h ro j).toInt < x1.toInt * 64) ∧ ∀ j : Nat, k ≤ j → (j : Int) < (hI h x0 8).toInt → x1.toInt * 64 < (hI h ro j).toInt) := by
    intro f
    induction f with
    | zero => intro x2 x3 _ _ _ _ _ e; exact absurd e (by rw [sX0_weightOf_4]; exact fun z => nomatch z)
    | succ f ih =>
      intro x2 x3 a2 b2 b3 A B e
      rw [sX0_weightOf_4] at e
      have c2 := clamp_i a2
      have c3 := clamp_i (v := x3) (by omega)
      replace e := br_s e
      rcases e with ⟨l, e⟩ | ⟨l, e⟩
      · have l := le_i l
        replace e := cl_s e
        obtain ⟨r2, e2, e⟩ := e
        have q2 : r2 = pw := r_eq e6 e2
        subst q2
        replace e := gd_s e
        obtain ⟨_, e⟩ := e
        rw [← Option.some.inj e]
        refine Or.inr ⟨x2.toNatClampNeg, by omega, Pw _ (by omega), fun j hj => ?_, fun j hj hn => ?_⟩
        · have := A j (by omega)
          omega
        · have := B j (by omega) (by omega)
          omega
      have l := nle_i l
      replace e := cl_s e
      obtain ⟨r4, e4, e⟩ := e
      have q4 : r4 = ro := r_eq e7 e4
      subst q4
      replace e := gd_s e
      obtain ⟨_, e⟩ := e
      replace e := br_s e
      rcases e with ⟨_, e⟩ | ⟨ne, e⟩
      · rw [← Option.some.inj e]
        exact Or.inl (Int.le_refl 0)
      replace e := cl_s e
      obtain ⟨r7, e7', e⟩ := e
      have q7 : r7 = r4 := r_eq e7 e7'
      subst q7
      replace e := gd_s e
      obtain ⟨_, e⟩ := e
      have i3 : Rg 0 4 x3 := ⟨by omega, by omega⟩
      have ny := nc_s i3 (by decide)
      unfold sX0_weightOf_46 at e
      have ne' : ¬ (hI h r7 x3.toNatClampNeg).toInt / 64 = x1.toInt := fun w => ne (Int32.toInt_inj.mp (by rw [shr6_i]; exact w))
      replace e := br_s e
      rcases e with ⟨u, e⟩ | ⟨u, e⟩
      · have u := le_i u
        rw [shr6_i] at u
        replace e := nm_s e
        obtain ⟨v1, ev1, e⟩ := e
        replace e := nm_s e
        obtain ⟨v2, ev2, e⟩ := e
        have t1 : v1.toInt = x2.toInt := by rw [ev1, ta (by rw [z0]; omega), z0]; omega
        have t2 : v2.toInt = x3.toInt + 1 := by rw [ev2]; exact ny.2
        clear ev1 ev2
        exact ih (by omega) (by omega) (by omega) (fun j hj => A j (by omega)) (fun j hj hn => by
          by_cases z : j = x3.toNatClampNeg
          · rw [z]; omega
          · exact B j (by omega) (by omega)) e
      · have u := nle_i u
        rw [shr6_i] at u
        replace e := nm_s e
        obtain ⟨v1, ev1, e⟩ := e
        replace e := nm_s e
        obtain ⟨v2, ev2, e⟩ := e
        have t1 : v1.toInt = x2.toInt + 1 := by rw [ev1, ta (by rw [z1]; omega), z1]
        have t2 : v2.toInt = x3.toInt + 1 := by rw [ev2]; exact ny.2
        clear ev1 ev2
        have q : x2.toInt = x3.toInt := by
          by_cases z : x2.toInt = x3.toInt
          · exact z
          · have b := B x2.toNatClampNeg (by omega) (by omega)
            have s := R.2 x2.toNatClampNeg x3.toNatClampNeg (by omega) (by omega)
            omega
        exact ih (by omega) (by omega) (by omega) (fun j hj => by
          by_cases z : j = x3.toNatClampNeg
          · rw [z]; exact u
          · exact A j (by omega)) (fun j hj hn => by omega) e
  unfold sX0_weightOf at e
  exact lp F (x2 := (0 : Int32)) (x3 := (0 : Int32)) (by decide) (by decide) a8 (fun j hj => by rw [z0] at hj; omega) (fun j _ hn => by rw [z0] at hn; omega) e
/-- the least number of one man more leaves room for his square -/
theorem number2_q {k : Nat} (hF : 700000 ≤ F) (T : TH ρ c h) (r0 : ρ x0 = 1) (e6 : hR h x0 6 = some pw) (e7 : hR h x0 7 = some ro) (s1 : 1 ≤ sq) (s64 : sq ≤ 64) (Pw : ∀ i : Nat, i ≤ 5 → (hI h pw i).toInt = sq ^ i) (R : RoW (RoG sq) x0 ro h) (n4 : (hI h x0 8).toInt ≤ 4) (x63 : (x1 &&& (63 : Int32)) = 0) (xn : ¬ x1 = (-1 : Int32)) (kn : (k : Int) ≤ (hI h x0 8).toInt) (W1 : ∀ j : Nat, j < k → (hI h ro j).toInt < x1.toInt) (W2 : ∀ j : Nat, k ≤ j → (j : Int) < (hI h x0 8).toInt → x1.toInt < (hI h ro j).toInt) {o : Int32 × Hp} (e : sX0_numberOf F h x0 x1 = some o) : 0 ≤ o.1.toInt ∧ o.1.toInt + (sq - 1) * sq ^ k + 1 ≤ sq ^ ((hI h x0 8).toNatClampNeg + 1) := by
  have i8 := thI T r0 (k := 1) (i := 8) (lo := 0) (hi := 5) rfl
  have a8 := i8.1
  have c8 := clamp_i a8
  have z0 : (0 : Int32).toInt = 0 := rfl
  have p0 : ∀ m : Nat, 0 ≤ sq ^ m := fun m => Int.pow_nonneg (by omega)
  have Pk : 0 ≤ (sq - 1) * sq ^ k := Int.mul_nonneg (by omega) (p0 k)
  have add1 : ∀ {x2 y : Int32} {k : Nat}, k ≤ 4 → 0 ≤ x2.toInt → x2.toInt + 1 ≤ sq ^ k → 0 ≤ y.toInt → y.toInt % 64 < sq → (x2 + ((y &&& (63 : Int32)) * (hI h pw k))).toInt = x2.toInt + y.toInt % 64 * sq ^ k := fun {x2 y k} hk a b y0 l => by
    have yn : 0 ≤ y.toInt % 64 := by omega
    have st := num_s s1 a b yn l
    have pb := (pow_sq (s := sq) (by omega) s64 (k + 1) (by omega)).2
    have n0 : 0 ≤ y.toInt % 64 * sq ^ k := Int.mul_nonneg yn (p0 k)
    have e : ((y &&& (63 : Int32)) * (hI h pw k)).toInt = y.toInt % 64 * sq ^ k := by rw [tm (by rw [Pw k (by omega), and63_i y0]; omega), Pw k (by omega), and63_i y0]
    rw [ta (by rw [e]; omega), e]
  have fin : ∀ {x2 : Int32} {n : Nat}, n = k → x2.toInt + 1 ≤ sq ^ n → x2.toInt + (sq - 1) * sq ^ k + 1 ≤ sq ^ (n + 1) := fun {x2 n} en b => by
    subst en
    rw [Int.pow_succ, Int.sub_mul, Int.one_mul, Int.mul_comm (sq ^ n) sq]
    omega
  have zz : ∀ {y w : Int32}, y + ((x1 &&& (63 : Int32)) * w) = y := fun {y w} => by rw [x63, Int32.zero_mul, Int32.add_zero]
  have lp : ∀ (f : Nat) {x2 x3 x4 x5 : Int32}, 0 ≤ x5.toInt → x5.toInt ≤ (hI h x0 8).toInt → 0 ≤ x2.toInt → 0 ≤ x3.toInt → (x4 = 0 → x3.toInt = x5.toInt ∧ x5.toInt ≤ k ∧ x2.toInt + 1 ≤ sq ^ x3.toNatClampNeg) → (¬ x4 = 0 → x3.toInt = x5.toInt + 1 ∧ (k : Int) ≤ x5.toInt ∧ x2.toInt + (sq - 1) * sq ^ k + 1 ≤ sq ^ x3.toNatClampNeg) → sX0_numberOf_19 F f h x0 x1 x2 x3 x4 x5 = some o → 0 ≤ o.1.toInt ∧ o.1.toInt + (sq - 1) * sq ^ k + 1 ≤ sq ^ ((hI h x0 8).toNatClampNeg + 1) := by
    intro f
    induction f with
    | zero => intro x2 x3 x4 x5 _ _ _ _ _ _ e; exact absurd e (by rw [sX0_numberOf_19]; exact fun z => nomatch z)
    | succ f ih =>
      intro x2 x3 x4 x5 a5 b5 a2 a3 p1 p2 e
      rw [sX0_numberOf_19] at e
      unfold sX0_numberOf_115 at e
      have c3 := clamp_i a3
      have c5 := clamp_i a5
      replace e := br_s e
      rcases e with ⟨l, e⟩ | ⟨l, e⟩
      · have l := le_i l
        replace e := br_s e
        rcases e with ⟨z4, e⟩ | ⟨z4, e⟩
        · obtain ⟨q1, q2, q3⟩ := p1 z4
          replace e := cl_s e
          obtain ⟨r3, _, e⟩ := e
          replace e := gd_s e
          obtain ⟨_, e⟩ := e
          rw [zz] at e
          rw [← Option.some.inj e]
          have en : (hI h x0 8).toNatClampNeg = x3.toNatClampNeg := by omega
          refine ⟨a2, ?_⟩
          rw [en]
          exact fin (by omega) q3
        · obtain ⟨q1, q2, q3⟩ := p2 z4
          rw [← Option.some.inj e]
          have en : (hI h x0 8).toNatClampNeg + 1 = x3.toNatClampNeg := by omega
          refine ⟨a2, ?_⟩
          rw [en]
          exact q3
      · have l5 := nle_i l
        have i5 : Rg 0 3 x5 := ⟨a5, by omega⟩
        have ny := nc_s i5 (by decide)
        obtain ⟨u1, u2, u3⟩ := R.1 x5.toNatClampNeg (by omega)
        have un : 0 ≤ (hI h ro x5.toNatClampNeg).toInt % 64 := by omega
        have b64 : ∀ {y2 y3 y4 : Int32}, 0 ≤ y2.toInt → 0 ≤ y3.toInt → (y4 = 0 → y3.toInt = x5.toInt ∧ x5.toInt + 1 ≤ k ∧ y2.toInt + 1 ≤ sq ^ y3.toNatClampNeg) → (¬ y4 = 0 → y3.toInt = x5.toInt + 1 ∧ (k : Int) ≤ x5.toInt ∧ y2.toInt + (sq - 1) * sq ^ k + 1 ≤ sq ^ y3.toNatClampNeg) → sX0_numberOf_64 F (sX0_numberOf_19 F f) h x0 x1 y2 y3 y4 x5 = some o → 0 ≤ o.1.toInt ∧ o.1.toInt + (sq - 1) * sq ^ k + 1 ≤ sq ^ ((hI h x0 8).toNatClampNeg + 1) := fun {y2 y3 y4} v2 v3 w1 w4 e => by
          unfold sX0_numberOf_64 at e
          have k3 := clamp_i v3
          replace e := cl_s e
          obtain ⟨r1, g1, e⟩ := e
          have q1 : r1 = ro := r_eq e7 g1
          subst q1
          replace e := gd_s e
          obtain ⟨_, e⟩ := e
          replace e := cl_s e
          obtain ⟨r3, g3, e⟩ := e
          have q3 : r3 = pw := r_eq e6 g3
          subst q3
          replace e := gd_s e
          obtain ⟨_, e⟩ := e
          replace e := nm_s e
          obtain ⟨v5, ev5, e⟩ := e
          replace e := nm_s e
          obtain ⟨v6, ev6, e⟩ := e
          replace e := nm_s e
          obtain ⟨v7, ev7, e⟩ := e
          have l3 : y3.toInt ≤ 4 := by
            by_cases z : y4 = 0
            · have := (w1 z).1; omega
            · have := (w4 z).1; omega
          have l1 : y2.toInt + 1 ≤ sq ^ y3.toNatClampNeg := by
            by_cases z : y4 = 0
            · exact (w1 z).2.2
            · have := (w4 z).2.2; omega
          have i3 : Rg 0 4 y3 := ⟨v3, l3⟩
          have n3 := nc_s i3 (by decide)
          have t5 : v5.toInt = y2.toInt + (hI h r1 x5.toNatClampNeg).toInt % 64 * sq ^ y3.toNatClampNeg := by
            rw [ev5]; exact add1 (by omega) v2 l1 u1 u3
          have t6 : v6.toInt = y3.toInt + 1 := by rw [ev6]; exact n3.2
          have t6n : v6.toNatClampNeg = y3.toNatClampNeg + 1 := by rw [ev6]; exact n3.1
          have t7 : v7.toInt = x5.toInt + 1 := by rw [ev7]; exact ny.2
          clear ev5 ev6 ev7
          refine ih (by omega) (by omega) ?_ (by omega) (fun z => ?_) (fun z => ?_) e
          · rw [t5]; exact (num_s s1 v2 l1 un u3).1
          · obtain ⟨o1, o2, o3⟩ := w1 z
            refine ⟨by omega, by omega, ?_⟩
            rw [t5, t6n]; exact (num_s s1 v2 o3 un u3).2
          · obtain ⟨o1, o2, o3⟩ := w4 z
            refine ⟨by omega, by omega, ?_⟩
            have st := (num_s (n := y2.toInt + (sq - 1) * sq ^ k) s1 (by omega) o3 un u3).2
            rw [t5, t6n]
            omega
        replace e := br_s e
        rcases e with ⟨z4, e⟩ | ⟨z4, e⟩
        · obtain ⟨q1, q2, q3⟩ := p1 z4
          replace e := cl_s e
          obtain ⟨r6, g6, e⟩ := e
          have y6 : r6 = ro := r_eq e7 g6
          subst y6
          replace e := gd_s e
          obtain ⟨_, e⟩ := e
          replace e := br_s e
          rcases e with ⟨v, e⟩ | ⟨v, e⟩
          · have v := le_i v
            have kl : x5.toInt + 1 ≤ k := by
              have h1 : ¬ (k : Int) ≤ x5.toInt := fun w => by
                have := W2 x5.toNatClampNeg (by omega) (by omega)
                omega
              omega
            exact b64 a2 a3 (fun _ => ⟨q1, kl, q3⟩) (fun z => absurd z4 z) e
          · have v := nle_i v
            have kl : (k : Int) = x5.toInt := by
              have h1 : ¬ x5.toInt < (k : Int) := fun w => by
                have := W1 x5.toNatClampNeg (by omega)
                omega
              omega
            replace e := cl_s e
            obtain ⟨r9, _, e⟩ := e
            replace e := gd_s e
            obtain ⟨_, e⟩ := e
            replace e := nm_s e
            obtain ⟨v11, e11, e⟩ := e
            replace e := nm_s e
            obtain ⟨v12, e12, e⟩ := e
            rw [zz] at e11
            subst e11
            have i3 : Rg 0 4 x3 := ⟨a3, by omega⟩
            have n3 := nc_s i3 (by decide)
            have t12 : v12.toInt = x3.toInt + 1 := by rw [e12]; exact n3.2
            have t12n : v12.toNatClampNeg = x3.toNatClampNeg + 1 := by rw [e12]; exact n3.1
            clear e12
            refine b64 a2 (by omega) (fun z => absurd z (by decide)) (fun _ => ⟨by omega, by omega, ?_⟩) e
            rw [t12n]
            exact fin (by omega) q3
        · obtain ⟨q1, q2, q3⟩ := p2 z4
          exact b64 a2 a3 (fun z => absurd z z4) (fun _ => ⟨q1, q2, q3⟩) e
  unfold sX0_numberOf sX0_numberOf_14 at e
  have one : (0 : Int32).toInt + 1 ≤ sq ^ (0 : Int32).toNatClampNeg := by show (0 : Int) + 1 ≤ sq ^ 0; rw [Int.pow_zero]; decide
  replace e := br_s e
  rcases e with ⟨z, e⟩ | ⟨z, e⟩
  · exact absurd z xn
  · exact lp F (by decide) (by rw [z0]; exact a8) (by decide) (by decide) (fun _ => ⟨rfl, by rw [z0]; omega, one⟩) (fun w => absurd rfl w) e
end
