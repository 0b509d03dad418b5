section
/-! drops, castling, what is kept of a list -/
section
variable {ρ : Nat → Nat} {c : Cm} {h o g : Hp} {x0 L wy b r a0 a1 on bm bc sh p q F : Nat} {n m : Int} {x1 x2 x3 v : Int32}
theorem inh_h {o : Int32 × Hp} (e : sX3_inHand h p x1 x2 = some o) : o.2 = h := by
  unfold sX3_inHand at e
  replace e := cl_s e
  obtain ⟨_, _, e⟩ := e
  rw [← Option.some.inj (gd_s e).2]
theorem dr_46 (i1 : Rg 0 63 x1) (l1 : x1.toInt < n) : ∀ (f : Nat) {h o : Hp} {x3 : Int32}, CoB ρ x0 L wy b r a0 a1 on bm bc n m h → LsX x0 r n m h → 0 ≤ x3.toInt → sX5_addDrops_46 F f h x0 x1 x2 x3 = some o → LO ρ x0 r n m h o := by
  intro f
  induction f with
  | zero => intro h o x3 _ _ _ e; exact absurd e (by rw [sX5_addDrops_46]; exact fun z => nomatch z)
  | succ f ih =>
    intro h o x3 B X a3 e
    rw [sX5_addDrops_46] at e
    unfold sX5_addDrops_101 at e
    have B' := B
    obtain ⟨⟨e0, e1, e4, e5, f0, f1, eo, g17, g18⟩, ⟨r0, rL, rw', rb, rr', q0, q1, qo, m1, c1⟩, W, O, XB, m12, n64, eL2, eL3⟩ := B
    have i10 := i1.1
    replace e := cl_s e
    obtain ⟨r1, h1, e⟩ := e
    have y1 : r1 = L := r_eq e0 h1
    subst y1
    replace e := br_s e
    rcases e with ⟨_, e⟩ | ⟨l, e⟩
    · rw [← Option.some.inj e]; exact lo_0 X
    have l := nle_i l
    rw [eL3] at l
    have i3 : Rg 0 11 x3 := ⟨a3, by omega⟩
    have t3 : (x3 + (1 : Int32)).toInt = x3.toInt + 1 := (nc_s i3 (by decide)).2
    replace e := cl_s e
    obtain ⟨_, _, e⟩ := e
    replace e := cl_s e
    obtain ⟨_, _, e⟩ := e
    replace e := cl_s e
    obtain ⟨o5, e5', e⟩ := e
    rw [inh_h e5'] at e
    have nx : ∀ {g : Hp}, CoB ρ x0 r1 wy b r a0 a1 on bm bc n m g → LsX x0 r n m g → (nm (x3 + (1 : Int32)) fun v_1 => sX5_addDrops_46 F f g x0 x1 x2 v_1) = some o → LO ρ x0 r n m g o := fun {g} Bg Xg e => by
      replace e := nm_s e
      obtain ⟨y, ey, e⟩ := e
      have ty : y.toInt = x3.toInt + 1 := by rw [ey]; exact t3
      clear ey
      exact ih Bg Xg (by omega) e
    have b90 : sX5_addDrops_90 F (sX5_addDrops_46 F f) h x0 x1 x2 x3 = some o → LO ρ x0 r n m h o := fun e => by
      unfold sX5_addDrops_90 sX5_addDrops_101 at e
      replace e := cl_s e
      obtain ⟨o1, e1', e⟩ := e
      have q1 : o1.2 = h ∧ MvX n m o1.1 := by
        unfold sX5_plainMove at e1'
        rw [← Option.some.inj e1']
        have z0 : (0 : Int32).toInt = 0 := rfl
        exact ⟨rfl, (mvx_plain (x0 := (0 : Int32)) (rg_m (rg_b rfl : Rg 0 0 (0 : Int32)) (by decide)) i1 i3 (rg_m (rg_b rfl : Rg 3 3 (3 : Int32)) (by decide)) (by rw [z0]; omega) l1 l).1⟩
      clear e1'
      rw [q1.1] at e
      replace e := cl_s e
      obtain ⟨o2, e2, e⟩ := e
      have A := addm_l r0 rr' e5 X q1.2 e2
      exact lo_t A (nx (cob_k A.1 B') A.2.1 e)
    replace e := br_s e
    rcases e with ⟨_, e⟩ | ⟨_, e⟩
    · exact nx B' X e
    replace e := br_s e
    rcases e with ⟨_, e⟩ | ⟨_, e⟩
    · exact b90 e
    replace e := cl_s e
    obtain ⟨_, _, e⟩ := e
    replace e := cl_s e
    obtain ⟨o9, e9, e⟩ := e
    rw [bo_h e9] at e
    replace e := br_s e
    rcases e with ⟨_, e⟩ | ⟨_, e⟩
    · exact b90 e
    · exact nx B' X e
theorem drops_l (B : CoB ρ x0 L wy b r a0 a1 on bm bc n m h) (X : LsX x0 r n m h) (i1 : Rg 0 63 x1) (l1 : x1.toInt < n) (e : sX5_addDrops F h x0 x1 = some o) : LO ρ x0 r n m h o := by
  unfold sX5_addDrops sX5_addDrops_38 sX5_addDrops_43 at e
  replace e := cl_s e
  obtain ⟨_, _, e⟩ := e
  replace e := cl_s e
  obtain ⟨_, _, e⟩ := e
  replace e := (gd_s e).2
  replace e := br_s e
  rcases e with ⟨_, e⟩ | ⟨_, e⟩
  · replace e := cl_s e
    obtain ⟨_, _, e⟩ := e
    replace e := cl_s e
    obtain ⟨o6, e6, e⟩ := e
    rw [il_h e6] at e
    replace e := br_s e
    rcases e with ⟨_, e⟩ | ⟨_, e⟩
    · replace e := cl_s e
      obtain ⟨_, _, e⟩ := e
      replace e := cl_s e
      obtain ⟨o9, e9, e⟩ := e
      rw [il_h e9] at e
      replace e := br_s e
      rcases e with ⟨_, e⟩ | ⟨_, e⟩
      · exact dr_46 i1 l1 F B X (by decide) e
      · exact dr_46 i1 l1 F B X (by decide) e
    · exact dr_46 i1 l1 F B X (by decide) e
  · rw [← Option.some.inj e]; exact lo_0 X
/-- two moves of a list change places -/
theorem ca_152 (r0 : ρ x0 = 6) (rr' : ρ r = 47) (a3 : 0 ≤ x3.toInt) : ∀ (f : Nat) {h o : Hp} {x6 : Int32}, hR h x0 5 = some r → LsX x0 r n m h → x6.toInt < (hI h x0 6).toInt → sX5_addCastling_152 F f h x0 x3 x6 = some o → LO ρ x0 r n m h o := by
  intro f
  induction f with
  | zero => intro h o x6 _ _ _ e; exact absurd e (by rw [sX5_addCastling_152]; exact fun z => nomatch z)
  | succ f ih =>
    intro h o x6 e5 X l6 e
    rw [sX5_addCastling_152] at e
    unfold sX5_addCastling_225 at e
    replace e := br_s e
    rcases e with ⟨_, e⟩ | ⟨l, e⟩
    · rw [← Option.some.inj e]; exact lo_0 X
    have l := nle_i l
    have z1 : (1 : Int32).toInt = 1 := rfl
    have top := (rg_top (hI h x0 6)).2
    have d1 : (x6 - (1 : Int32)).toInt = x6.toInt - 1 := by rw [ts (by rw [z1]; omega), z1]
    have d2 : (x6 + (-1 : Int32)).toInt = x6.toInt - 1 := rg_dec (a := 0) (b := 2147483647) ⟨by omega, by omega⟩ (by decide)
    have k1 := clamp_i (v := x6 - (1 : Int32)) (by omega)
    have k6 := clamp_i (v := x6) (by omega)
    replace e := cl_s e
    obtain ⟨_, _, e⟩ := e
    replace e := (gd_s e).2
    replace e := cl_s e
    obtain ⟨o4, e4, e⟩ := e
    have q4 : o4.2 = h := by unfold sX5_comeTo at e4; rw [← Option.some.inj e4]
    rw [q4] at e
    replace e := cl_s e
    obtain ⟨_, _, e⟩ := e
    replace e := (gd_s e).2
    replace e := cl_s e
    obtain ⟨o7, e7, e⟩ := e
    have q7 : o7.2 = h := by unfold sX5_comeTo at e7; rw [← Option.some.inj e7]
    rw [q7] at e
    replace e := br_s e
    rcases e with ⟨_, e⟩ | ⟨_, e⟩
    · rw [← Option.some.inj e]; exact lo_0 X
    replace e := cl_s e
    obtain ⟨r9, h9, e⟩ := e
    have y9 : r9 = r := r_eq e5 h9
    subst y9
    replace e := (gd_s e).2
    replace e := nm_s e
    obtain ⟨v11, w11, e⟩ := e
    replace e := cl_s e
    obtain ⟨r12, h12, e⟩ := e
    have y12 : r12 = r9 := r_eq e5 h12
    subst y12
    replace e := cl_s e
    obtain ⟨r13, h13, e⟩ := e
    have y13 : r13 = r12 := r_eq e5 h13
    subst y13
    replace e := (gd_s (gd_s e).2).2
    replace e := nm_s e
    obtain ⟨h16, w16, e⟩ := e
    replace e := cl_s e
    obtain ⟨r17, h17, e⟩ := e
    have y17 : r17 = r13 := r_eq e5 (by rw [w16] at h17; exact h17)
    subst y17
    replace e := (gd_s e).2
    replace e := nm_s e
    obtain ⟨h19, w19, e⟩ := e
    replace e := nm_s e
    obtain ⟨v20, w20, e⟩ := e
    have t20 : v20.toInt = x6.toInt - 1 := by rw [w20]; exact d2
    clear w20 d2
    have nr : ¬ x0 = r17 := ne_r' r0 rr' (by decide)
    have K16 : KL6 ρ h h16 := by rw [w16]; exact k6_I (Or.inl rr')
    have K19 : KL6 ρ h16 h19 := by rw [w19]; exact k6_I (Or.inl rr')
    have c6 : hI h19 x0 6 = hI h x0 6 := by rw [w19, r_I, if_neg (fun z => nr z.1), w16, r_I, if_neg (fun z => nr z.1)]
    have X19 : LsX x0 r17 n m h19 := by
      unfold LsX
      rw [c6]
      refine ⟨X.1, fun i hi => ?_⟩
      rw [w19, r_I]
      split
      · rw [w11]; exact X.2 _ (by omega)
      · rw [w16, r_I]
        split
        · exact X.2 _ (by omega)
        · exact X.2 i hi
    obtain ⟨p1, p2, p3⟩ := ih (h := h19) (by rw [K19.1, K16.1]; exact e5) X19 (by rw [c6]; omega) e
    exact ⟨k6_t (k6_t K16 K19) p1, p2, by rw [c6] at p3; exact p3⟩
theorem castl_l (hF : 700000 ≤ F) (T : TH ρ c h) (B : CoB ρ x0 L wy b r a0 a1 on bm bc n m h) (X : LsX x0 r n m h) (i1 : Rg 0 63 x1) (l1 : x1.toInt < n) (sq : SqB (c.2.1 50) x1) (i2 : Rg (-1) 1 x2) (hd : x2.toInt = 1 ∨ x2.toInt = -1) (a3 : 0 ≤ x3.toInt) (ry : 0 ≤ (hI h L 4).toInt) (rm : (hI h L 4).toInt < m) (e : sX5_addCastling F h x0 x1 x2 x3 = some o) : LO ρ x0 r n m h o := by
  obtain ⟨⟨e0, e1, e4, e5, f0, f1, eo, g17, g18⟩, ⟨r0, rL, rw', rb, rr', q0, q1, qo, m1, c1⟩, W, O, XB, m12, n64, eL2, eL3⟩ := B
  unfold sX5_addCastling sX5_addCastling_73 sX5_addCastling_122 at e
  replace e := cl_s e
  obtain ⟨_, _, e⟩ := e
  replace e := nm_s e
  obtain ⟨v2, _, e⟩ := e
  replace e := cl_s e
  obtain ⟨r3, h3, e⟩ := e
  have y3 : r3 = b := r_eq e4 h3
  subst y3
  replace e := cl_s e
  obtain ⟨o4, e4', e⟩ := e
  have N := sat_e (zX5_nearest hF T r0 rb i1 i2 sq hd) e4'
  obtain ⟨⟨q4, i4⟩, N⟩ := N
  rw [q4] at e
  replace e := br_s e
  rcases e with ⟨_, e⟩ | ⟨n4, e⟩
  · rw [← Option.some.inj e]; exact lo_0 X
  have i4' : Rg 0 63 o4.1 := rg_nlo n4 i4 (rg_b rfl : Rg (-1) (-1) (-1 : Int32))
  have a40 := i4'.1
  have a41 := i4'.2
  have a10 := i1.1
  have a11 := i1.2
  replace e := br_s e
  rcases e with ⟨_, e⟩ | ⟨far, e⟩
  · rw [← Option.some.inj e]; exact lo_0 X
  have far := nlt_i far
  have z3 : (3 : Int32).toInt = 3 := rfl
  have z0 : (0 : Int32).toInt = 0 := rfl
  have z2 : (2 : Int32).toInt = 2 := rfl
  have ds : (o4.1 - x1).toInt = o4.1.toInt - x1.toInt := ts (by omega)
  have fa : 3 ≤ o4.1.toInt - x1.toInt ∨ 3 ≤ x1.toInt - o4.1.toInt := by
    by_cases z : (0 : Int32) ≤ o4.1 - x1
    · rw [if_pos z, ds] at far; exact Or.inl (by omega)
    · rw [if_neg z] at far
      have : ((0 : Int32) - (o4.1 - x1)).toInt = -(o4.1.toInt - x1.toInt) := by rw [ts (by rw [ds, z0]; omega), ds, z0]; omega
      exact Or.inr (by omega)
  replace e := cl_s e
  obtain ⟨_, _, e⟩ := e
  replace e := cl_s e
  obtain ⟨r8, h8, e⟩ := e
  have y8 : r8 = r3 := r_eq e4 h8
  subst y8
  replace e := cl_s e
  obtain ⟨r9, h9, e⟩ := e
  replace e := cl_s e
  obtain ⟨r10, h10, e⟩ := e
  have y10 : r10 = r8 := r_eq e4 h10
  subst y10
  replace e := (gd_s e).2
  replace e := br_s e
  rcases e with ⟨_, e⟩ | ⟨nb, e⟩
  · rw [← Option.some.inj e]; exact lo_0 X
  have isd := thI T rb (k := 4) (i := 5) (lo := 0) (hi := 1) rfl
  have cd := clamp_i isd.1
  have isd1 := isd.2
  have c4 := clamp_i a40
  have l4 : o4.1.toInt < n := by
    obtain ⟨j, hj, pj, _⟩ := low_bit (cmp0 nb)
    rw [bj_and, Bool.and_eq_true, bj_one i4', decide_eq_true_eq, bj_and, Bool.and_eq_true] at pj
    obtain ⟨⟨_, pj1⟩, pj2⟩ := pj
    rw [← pj2] at pj1
    have := (th_ps T rb eo h9 (by omega) (by omega) pj1).1
    have := (O o4.1.toNatClampNeg (by omega) this).1
    omega
  have tt : (x1 + ((2 : Int32) * x2)).toInt = x1.toInt + 2 * x2.toInt := by
    have t1 : ((2 : Int32) * x2).toInt = 2 * x2.toInt := by rw [tm (by rw [z2]; omega), z2]
    rw [ta (by rw [t1]; omega), t1]
  have lt : 0 ≤ x1.toInt + 2 * x2.toInt ∧ x1.toInt + 2 * x2.toInt < n := by
    rcases N with N | N | N
    · omega
    · omega
    · omega
  have skip : ∀ {o1 : Hp}, (some h : Option Hp) = some o1 → LO ρ x0 r n m h o1 := fun z => by rw [← Option.some.inj z]; exact lo_0 X
  replace e := cl_s e
  obtain ⟨_, _, e⟩ := e
  replace e := cl_s e
  obtain ⟨o14, e14, e⟩ := e
  rw [hit_h e14] at e
  replace e := br_s e
  rcases e with ⟨_, e⟩ | ⟨_, e⟩
  · replace e := cl_s e
    obtain ⟨_, _, e⟩ := e
    replace e := cl_s e
    obtain ⟨o17, e17, e⟩ := e
    rw [hit_h e17] at e
    replace e := br_s e
    rcases e with ⟨_, e⟩ | ⟨_, e⟩
    · replace e := cl_s e
      obtain ⟨_, _, e⟩ := e
      replace e := cl_s e
      obtain ⟨o20, e20, e⟩ := e
      rw [hit_h e20] at e
      replace e := br_s e
      rcases e with ⟨_, e⟩ | ⟨_, e⟩
      · replace e := cl_s e
        obtain ⟨r22, h22, e⟩ := e
        have y22 : r22 = L := r_eq e0 h22
        subst y22
        replace e := cl_s e
        obtain ⟨o23, e23, e⟩ := e
        have q23 : o23.2 = h ∧ MvX n m o23.1 := by
          unfold sX5_plainMove at e23
          rw [← Option.some.inj e23]
          exact ⟨rfl, (mvx_plain (x1 := x1 + ((2 : Int32) * x2)) i1 ⟨by omega, by omega⟩ ⟨ry, by omega⟩ (rg_m (rg_b rfl : Rg 2 2 (2 : Int32)) (by decide)) l1 (by omega) rm).1⟩
        clear e23
        rw [q23.1] at e
        replace e := cl_s e
        obtain ⟨o24, e24, e⟩ := e
        have A := addm_l r0 rr' e5 X q23.2 e24
        replace e := nm_s e
        obtain ⟨v25, w25, e⟩ := e
        have z1 : (1 : Int32).toInt = 1 := rfl
        have c24 := A.2.1.1
        have t25 : v25.toInt = (hI o24 x0 6).toInt - 1 := by rw [w25, ts (by rw [z1]; have := (rg_top (hI o24 x0 6)).2; omega), z1]
        clear w25
        exact lo_t A (ca_152 r0 rr' a3 F (by rw [A.1.1]; exact e5) A.2.1 (by omega) e)
      · exact skip e
    · exact skip e
  · exact skip e
theorem kt_4 (r0 : ρ x0 = 6) (rr' : ρ r = 47) : ∀ (f : Nat) {h o : Hp} {x1 x2 : Int32}, hR h x0 5 = some r → LsX x0 r n m h → 0 ≤ x1.toInt → x1.toInt ≤ x2.toInt → x1.toInt ≤ (hI h x0 6).toInt → sX5_keepTakes_4 F f h x0 x1 x2 = some o → LsX x0 r n m o := by
  intro f
  induction f with
  | zero => intro h o x1 x2 _ _ _ _ _ e; exact absurd e (by rw [sX5_keepTakes_4]; exact fun z => nomatch z)
  | succ f ih =>
    intro h o x1 x2 e5 X a1 l12 l1 e
    rw [sX5_keepTakes_4] at e
    unfold sX5_keepTakes_40 at e
    have nr : ¬ x0 = r := ne_r' r0 rr' (by decide)
    replace e := br_s e
    rcases e with ⟨_, e⟩ | ⟨l, e⟩
    · replace e := nm_s e
      obtain ⟨h2, w2, e⟩ := e
      rw [← Option.some.inj e]
      have k6 : hI h2 x0 6 = x1 := by rw [w2, r_I, if_pos ⟨rfl, rfl⟩]
      unfold LsX
      rw [k6]
      refine ⟨a1, fun i hi => ?_⟩
      rw [w2, r_I, if_neg (fun z => nr z.1.symm)]
      exact X.2 i (by omega)
    have l := nle_i l
    have z1 : (1 : Int32).toInt = 1 := rfl
    have top := (rg_top (hI h x0 6)).2
    replace e := cl_s e
    obtain ⟨r3, h3, e⟩ := e
    replace e := (gd_s e).2
    replace e := cl_s e
    obtain ⟨o5, e5', e⟩ := e
    rw [tkn_h e5'] at e
    have t2 : (x2 + (1 : Int32)).toInt = x2.toInt + 1 := by rw [ta (by rw [z1]; omega), z1]
    replace e := br_s e
    rcases e with ⟨_, e⟩ | ⟨_, e⟩
    · replace e := nm_s e
      obtain ⟨y, ey, e⟩ := e
      have ty : y.toInt = x2.toInt + 1 := by rw [ey]; exact t2
      clear ey
      exact ih e5 X a1 (by omega) l1 e
    replace e := cl_s e
    obtain ⟨r7, h7, e⟩ := e
    have y7 : r7 = r := r_eq e5 h7
    subst y7
    replace e := cl_s e
    obtain ⟨r8, h8, e⟩ := e
    have y8 : r8 = r7 := r_eq e5 h8
    subst y8
    replace e := (gd_s (gd_s e).2).2
    replace e := nm_s e
    obtain ⟨h11, w11, e⟩ := e
    replace e := nm_s e
    obtain ⟨v12, w12, e⟩ := e
    have t12 : v12.toInt = x1.toInt + 1 := by rw [w12, ta (by rw [z1]; omega), z1]
    clear w12
    replace e := nm_s e
    obtain ⟨y, ey, e⟩ := e
    have ty : y.toInt = x2.toInt + 1 := by rw [ey]; exact t2
    clear ey
    have c2 := clamp_i (v := x2) (by omega)
    have k6 : hI h11 x0 6 = hI h x0 6 := by rw [w11, r_I, if_neg (fun z => nr z.1)]
    refine ih (h := h11) (by rw [w11]; exact e5) ?_ (by omega) (by omega) (by rw [k6]; omega) e
    unfold LsX
    rw [k6]
    refine ⟨X.1, fun i hi => ?_⟩
    rw [w11, r_I]
    split
    · exact X.2 _ (by omega)
    · exact X.2 i hi
theorem takes_l (r0 : ρ x0 = 6) (rr' : ρ r = 47) (e5 : hR h x0 5 = some r) (X : LsX x0 r n m h) (e : sX5_keepTakes F h x0 = some o) : LsX x0 r n m o := by
  unfold sX5_keepTakes at e
  exact kt_4 r0 rr' F (x1 := (0 : Int32)) (x2 := (0 : Int32)) e5 X (by decide) (by decide) X.1 e
end
end
section
/-! what is lawful of a list -/
section
variable {ρ : Nat → Nat} {c : Cm} {h o g : Hp} {x0 L b r on sh p q F : Nat} {n m : Int} {x1 x2 x3 v : Int32}
/-- a copy has the side of its pattern; no other position's side changes -/
def Sd4 (ρ : Nat → Nat) (p q : Nat) (h o : Hp) : Prop := hI o p 5 = hI h q 5 ∧ ∀ a, ρ a = 4 → ¬ a = p → hI o a 5 = hI h a 5
theorem cfs_17 (rq : ρ q = 4) : ∀ (f : Nat) {h o : Hp} {x2 : Int32}, PR ρ p h → sX3_copyFrom_17 F f h p q x2 = some o → Sd4 ρ p q h o := by
  intro f
  induction f with
  | zero => intro h o x2 _ e; exact absurd e (by rw [sX3_copyFrom_17]; exact fun z => nomatch z)
  | succ f ih =>
    intro h o x2 P e
    rw [sX3_copyFrom_17] at e
    replace e := br_s e
    rcases e with ⟨_, e⟩ | ⟨_, e⟩
    · replace e := nm_s e
      obtain ⟨h2, w2, e⟩ := e
      replace e := nm_s e
      obtain ⟨h3, w3, e⟩ := e
      replace e := nm_s e
      obtain ⟨h4, w4, e⟩ := e
      replace e := nm_s e
      obtain ⟨h5, w5, e⟩ := e
      replace e := nm_s e
      obtain ⟨h6, w6, e⟩ := e
      have k : ∀ a, hI h6 a 5 = hI h2 a 5 := fun a => by
        rw [w6]
        show hI h5 a 5 = _
        rw [w5]
        show hI h4 a 5 = _
        rw [w4]
        show hI h3 a 5 = _
        rw [w3, r_I, if_neg (fun z => absurd z.2 (by decide))]
      rw [← Option.some.inj e]
      refine ⟨by rw [k, w2, r_I, if_pos ⟨rfl, rfl⟩], fun a _ na => by rw [k, w2, r_I, if_neg (fun z => na z.1)]⟩
    replace e := cl_s e
    obtain ⟨r7, _, e⟩ := e
    replace e := cl_s e
    obtain ⟨r8, _, e⟩ := e
    replace e := (gd_s (gd_s e).2).2
    replace e := nm_s e
    obtain ⟨h11, w11, e⟩ := e
    have k11 : ∀ a i, hR h11 a i = hR h a i := fun a i => by rw [w11]; rfl
    replace e := cl_s e
    obtain ⟨r12, e12, e⟩ := e
    have q12 : ρ r12 = 36 := P.2.2.1 r12 (by rw [← k11]; exact e12)
    replace e := cl_s e
    obtain ⟨r13, _, e⟩ := e
    replace e := (gd_s (gd_s e).2).2
    replace e := nm_s e
    obtain ⟨h16, w16, e⟩ := e
    have k16 : ∀ a i, hR h16 a i = hR h a i := fun a i => by rw [w16]; exact k11 a i
    replace e := cl_s e
    obtain ⟨r17, _, e⟩ := e
    replace e := cl_s e
    obtain ⟨r18, _, e⟩ := e
    replace e := (gd_s (gd_s e).2).2
    replace e := nm_s e
    obtain ⟨h21, w21, e⟩ := e
    have k21 : ∀ a i, hR h21 a i = hR h a i := fun a i => by rw [w21]; exact k16 a i
    replace e := cl_s e
    obtain ⟨r22, e22, e⟩ := e
    have q22 : ρ r22 = 38 := P.2.2.2 r22 (by rw [← k21]; exact e22)
    replace e := cl_s e
    obtain ⟨r23, _, e⟩ := e
    replace e := (gd_s (gd_s e).2).2
    replace e := nm_s e
    obtain ⟨h26, w26, e⟩ := e
    have k26 : ∀ a i, hR h26 a i = hR h a i := fun a i => by rw [w26]; exact k21 a i
    have s26 : ∀ a, ρ a = 4 → hI h26 a 5 = hI h a 5 := fun a ra => by
      rw [w26, r_I, if_neg (ne_r ra q22 (by decide)), w21]
      show hI h16 a 5 = _
      rw [w16, r_I, if_neg (ne_r ra q12 (by decide)), w11]
      rfl
    replace e := nm_s e
    obtain ⟨v27, _, e⟩ := e
    obtain ⟨u1, u2⟩ := ih (pr_k k26 P) e
    exact ⟨by rw [u1]; exact s26 q rq, fun a ra na => by rw [u2 a ra na]; exact s26 a ra⟩
theorem copy_s (P : PR ρ p h) (rq : ρ q = 4) (e : sX3_copyFrom F h p q = some o) : Sd4 ρ p q h o := by
  unfold sX3_copyFrom at e
  replace e := cl_s e
  obtain ⟨r1, e1, e⟩ := e
  replace e := cl_s e
  obtain ⟨r2, e2, e⟩ := e
  have q2 := P.2.1 r2 e2
  iterate 6 replace e := (gd_s e).2
  replace e := nm_s e
  obtain ⟨h9, w9, e⟩ := e
  have k9 : ∀ a i, hR h9 a i = hR h a i := fun a i => by rw [w9]; rfl
  have s9 : ∀ a, ρ a = 4 → hI h9 a 5 = hI h a 5 := fun a ra => by
    rw [w9, cp_at, if_neg (fun y => absurd (ra.symm.trans (by rw [y.1, q2])) (by decide))]
  obtain ⟨u1, u2⟩ := cfs_17 rq F (pr_k k9 P) e
  exact ⟨by rw [u1]; exact s9 q rq, fun a ra na => by rw [u2 a ra na]; exact s9 a ra⟩
/-- what the keeping of lawful moves asks -/
def LaP (ρ : Nat → Nat) (x0 L b r on sh : Nat) (n m : Int) (h : Hp) : Prop := (hR h x0 0 = some L ∧ hR h x0 3 = some sh ∧ hR h x0 4 = some b ∧ hR h x0 5 = some r ∧ hR h b 0 = some on) ∧ (ρ x0 = 6 ∧ ρ L = 2 ∧ ρ b = 4 ∧ ρ r = 47 ∧ ρ on = 34) ∧ PR ρ sh h ∧ ¬ b = sh ∧ OnX n m on h ∧ Rg 0 1 (hI h b 5) ∧ Rg (-1) 11 (hI h L 6) ∧ (hI h L 6).toInt < m ∧ m ≤ 12
theorem lap_k (k : PxC ρ n m h o) (s : hI o b 5 = hI h b 5) (P : LaP ρ x0 L b r on sh n m h) : LaP ρ x0 L b r on sh n m o := by
  obtain ⟨⟨e0, e3, e4, e5, eo⟩, ⟨r0, rL, rb, rr', qo⟩, p1, p2, p3, p4, p5, p6, p7⟩ := P
  have iL : hI o L 6 = hI h L 6 := k.2.1 L 6 (by rw [rL]; rfl)
  exact ⟨⟨by rw [k.1]; exact e0, by rw [k.1]; exact e3, by rw [k.1]; exact e4, by rw [k.1]; exact e5, by rw [k.1]; exact eo⟩, ⟨r0, rL, rb, rr', qo⟩, pr_k k.1 p1, p2, on_k qo k p3, by rw [s]; exact p4, by rw [iL]; exact p5, by rw [iL]; exact p6, p7⟩
theorem kl_4 : ∀ (f : Nat) {h o : Hp} {x2 x3 : Int32}, LaP ρ x0 L b r on sh n m h → LsX x0 r n m h → 0 ≤ x2.toInt → x2.toInt ≤ x3.toInt → x2.toInt ≤ (hI h x0 6).toInt → sX5_keepLawful_4 F f h x0 x2 x3 = some o → LsX x0 r n m o := by
  intro f
  induction f with
  | zero => intro h o x2 x3 _ _ _ _ _ e; exact absurd e (by rw [sX5_keepLawful_4]; exact fun z => nomatch z)
  | succ f ih =>
    intro h o x2 x3 P X a2 l23 l2 e
    rw [sX5_keepLawful_4] at e
    have P' := P
    obtain ⟨⟨e0, e3, e4, e5, eo⟩, ⟨r0, rL, rb, rr', qo⟩, p1, p2, p3, p4, p5, p6, p7⟩ := P
    have nr : ¬ x0 = r := ne_r' r0 rr' (by decide)
    replace e := br_s e
    rcases e with ⟨_, e⟩ | ⟨l, e⟩
    · replace e := nm_s e
      obtain ⟨h2, w2, e⟩ := e
      rw [← Option.some.inj e]
      have k6 : hI h2 x0 6 = x2 := by rw [w2, r_I, if_pos ⟨rfl, rfl⟩]
      unfold LsX
      rw [k6]
      refine ⟨a2, fun i hi => ?_⟩
      rw [w2, r_I, if_neg (fun z => nr z.1.symm)]
      exact X.2 i (by omega)
    have l := nle_i l
    have z1 : (1 : Int32).toInt = 1 := rfl
    have top := (rg_top (hI h x0 6)).2
    have t3 : (x3 + (1 : Int32)).toInt = x3.toInt + 1 := by rw [ta (by rw [z1]; omega), z1]
    have t2 : (x2 + (1 : Int32)).toInt = x2.toInt + 1 := by rw [ta (by rw [z1]; omega), z1]
    have c3 := clamp_i (v := x3) (by omega)
    replace e := cl_s e
    obtain ⟨r3, h3, e⟩ := e
    have y3 : r3 = r := r_eq e5 h3
    subst y3
    replace e := (gd_s e).2
    replace e := nm_s e
    obtain ⟨v5, w5, e⟩ := e
    have M : MvX n m v5 := by rw [w5]; exact X.2 _ (by omega)
    clear w5
    replace e := cl_s e
    obtain ⟨o6, e6, e⟩ := e
    rw [safe_h e6] at e
    clear e6
    have b111 : ∀ {g : Hp} {y : Int32}, LaP ρ x0 L b r3 on sh n m g → LsX x0 r3 n m g → 0 ≤ y.toInt → y.toInt ≤ x3.toInt + 1 → y.toInt ≤ (hI g x0 6).toInt → sX5_keepLawful_111 F (sX5_keepLawful_4 F f) g x0 y x3 = some o → LsX x0 r3 n m o := fun {g y} Pg Xg ya yb yc e => by
      unfold sX5_keepLawful_111 at e
      replace e := nm_s e
      obtain ⟨w, ew, e⟩ := e
      have tw : w.toInt = x3.toInt + 1 := by rw [ew]; exact t3
      clear ew
      exact ih Pg Xg ya (by omega) yc e
    have b108 : ∀ {g : Hp} {y t : Int32}, LaP ρ x0 L b r3 on sh n m g → LsX x0 r3 n m g → 0 ≤ y.toInt → y.toInt ≤ x3.toInt + 1 → y.toInt ≤ (hI g x0 6).toInt → sX5_keepLawful_108 F (sX5_keepLawful_4 F f) g x0 y x3 t x0 = some o → LsX x0 r3 n m o := fun {g y t} Pg Xg ya yb yc e => by
      unfold sX5_keepLawful_108 at e
      replace e := (gd_s e).2
      replace e := nm_s e
      obtain ⟨h2, w2, e⟩ := e
      have k6 : hI h2 x0 6 = hI g x0 6 := by rw [w2, r_I, if_neg (fun z => absurd z.2 (by decide))]
      have kr : ∀ i, hI h2 r3 i = hI g r3 i := fun i => by rw [w2, r_I, if_neg (fun z => nr z.1.symm)]
      have kR : ∀ a i, hR h2 a i = hR g a i := fun a i => by rw [w2]; rfl
      have kI : ∀ a i, ¬ ρ a = 6 → hI h2 a i = hI g a i := fun a i na => by rw [w2, r_I, if_neg (fun z => na (by rw [z.1]; exact r0))]
      obtain ⟨⟨d0, d3, d4, d5, dn⟩, dr, s1, s2, s3, s4, s5, s6, s7⟩ := Pg
      have iL : hI h2 L 6 = hI g L 6 := kI L 6 (by rw [rL]; decide)
      refine b111 (g := h2) ⟨⟨by rw [kR]; exact d0, by rw [kR]; exact d3, by rw [kR]; exact d4, by rw [kR]; exact d5, by rw [kR]; exact dn⟩, dr, pr_k kR s1, s2, fun s hs z => ?_, by rw [kI b 5 (by rw [rb]; decide)]; exact s4, by rw [iL]; exact s5, by rw [iL]; exact s6, s7⟩ (ls_k r0 k6 kr Xg) ya yb (by rw [k6]; exact yc) e
      rw [kI on s (by rw [qo]; decide)] at z ⊢
      exact s3 s hs z
    have b70 : ∀ {g : Hp} {t : Int32}, LaP ρ x0 L b r3 on sh n m g → LsX x0 r3 n m g → x2.toInt ≤ (hI g x0 6).toInt → x3.toInt < (hI g x0 6).toInt → sX5_keepLawful_70 F (sX5_keepLawful_4 F f) g x0 x2 x3 v5 t = some o → LsX x0 r3 n m o := fun {g t} Pg Xg yc yd e => by
      unfold sX5_keepLawful_70 sX5_keepLawful_103 at e
      replace e := br_s e
      rcases e with ⟨_, e⟩ | ⟨_, e⟩
      · exact b111 Pg Xg a2 (by omega) yc e
      replace e := cl_s e
      obtain ⟨r2, h2', e⟩ := e
      have y2 : r2 = r3 := r_eq Pg.1.2.2.2.1 h2'
      subst y2
      replace e := (gd_s e).2
      replace e := nm_s e
      obtain ⟨h4, w4, e⟩ := e
      replace e := nm_s e
      obtain ⟨y5, w5, e⟩ := e
      have t5 : y5.toInt = x2.toInt + 1 := by rw [w5]; exact t2
      clear w5
      have k6 : hI h4 x0 6 = hI g x0 6 := by rw [w4, r_I, if_neg (fun z => nr z.1)]
      have kR : ∀ a i, hR h4 a i = hR g a i := fun a i => by rw [w4]; rfl
      have kI : ∀ a i, ¬ ρ a = 47 → hI h4 a i = hI g a i := fun a i na => by rw [w4, r_I, if_neg (fun z => na (by rw [z.1]; exact rr'))]
      have P4 : LaP ρ x0 L b r2 on sh n m h4 := by
        obtain ⟨⟨d0, d3, d4, d5, dn⟩, dr, s1, s2, s3, s4, s5, s6, s7⟩ := Pg
        have iL : hI h4 L 6 = hI g L 6 := kI L 6 (by rw [rL]; decide)
        refine ⟨⟨by rw [kR]; exact d0, by rw [kR]; exact d3, by rw [kR]; exact d4, by rw [kR]; exact d5, by rw [kR]; exact dn⟩, dr, pr_k kR s1, s2, fun s hs z => ?_, by rw [kI b 5 (by rw [rb]; decide)]; exact s4, by rw [iL]; exact s5, by rw [iL]; exact s6, s7⟩
        rw [kI on s (by rw [qo]; decide)] at z ⊢
        exact s3 s hs z
      have X4 : LsX x0 r2 n m h4 := by
        unfold LsX
        rw [k6]
        refine ⟨Xg.1, fun i hi => ?_⟩
        rw [w4, r_I]
        split
        · exact M
        · exact Xg.2 i hi
      have yc4 : y5.toInt ≤ (hI h4 x0 6).toInt := by rw [k6]; omega
      replace e := br_s e
      rcases e with ⟨_, e⟩ | ⟨_, e⟩
      · replace e := cl_s e
        obtain ⟨o7, e7, e⟩ := e
        rw [tkn_h e7] at e
        replace e := br_s e
        rcases e with ⟨_, e⟩ | ⟨_, e⟩
        · exact b108 P4 X4 (by omega) (by omega) yc4 e
        · exact b108 P4 X4 (by omega) (by omega) yc4 e
      · exact b108 P4 X4 (by omega) (by omega) yc4 e
    replace e := br_s e
    rcases e with ⟨_, e⟩ | ⟨_, e⟩
    · replace e := cl_s e
      obtain ⟨r8, h8, e⟩ := e
      have y8 : r8 = sh := r_eq e3 h8
      subst y8
      replace e := cl_s e
      obtain ⟨r9, h9, e⟩ := e
      have y9 : r9 = b := r_eq e4 h9
      subst y9
      replace e := cl_s e
      obtain ⟨o10, e10, e⟩ := e
      have k10 := copy_x (m := m) (n := n) p1 eo p3 e10
      obtain ⟨s10, t10⟩ := copy_s p1 rb e10
      have b10 : hI o10 r9 5 = hI h r9 5 := t10 r9 rb p2
      have P10 := lap_k k10 b10 P'
      replace e := cl_s e
      obtain ⟨r11, h11, e⟩ := e
      have y11 : r11 = r8 := r_eq P10.1.2.1 h11
      subst y11
      replace e := cl_s e
      obtain ⟨o12, e12, e⟩ := e
      have S10 : ShP ρ x0 r11 L m o10 := ⟨P10.2.2.1, P10.1.1, rL, by rw [s10]; exact p4, P10.2.2.2.2.2.2.1, P10.2.2.2.2.2.2.2.1, p7⟩
      obtain ⟨k12, s12⟩ := shift_x S10 M e12
      have P12 := lap_k k12 (s12 r9 rb) P10
      replace e := cl_s e
      obtain ⟨r13, h13, e⟩ := e
      have y13 : r13 = r11 := r_eq P12.1.2.1 h13
      subst y13
      replace e := cl_s e
      obtain ⟨o14, e14, e⟩ := e
      obtain ⟨k14, s14⟩ := blast_x (n := n) (m := m) P12.2.2.1 e14
      have P14 := lap_k k14 (s14 r9 rb) P12
      replace e := cl_s e
      obtain ⟨o15, e15, e⟩ := e
      rw [may_h e15] at e
      have kk := px_t k10 (px_t k12 k14)
      have i6 : hI o14 x0 6 = hI h x0 6 := kk.2.1 x0 6 (by rw [r0]; rfl)
      have ir : ∀ i, hI o14 r3 i = hI h r3 i := fun i => kk.2.1 r3 i (by rw [rr']; rfl)
      exact b70 P14 (ls_k r0 i6 ir X) (by rw [i6]; exact l2) (by rw [i6]; exact l) e
    · exact b70 P' X l2 l e
theorem lawful_l (P : LaP ρ x0 L b r on sh n m h) (X : LsX x0 r n m h) (a1 : 0 ≤ x1.toInt) (l1 : x1.toInt ≤ (hI h x0 6).toInt) (e : sX5_keepLawful F h x0 x1 = some o) : LsX x0 r n m o := by
  unfold sX5_keepLawful at e
  exact kl_4 F P X a1 (Int.le_refl _) l1 e
end
end
section
/-! legal moves: of the law's men, to the law's squares -/
abbrev SHL : List (Nat × Nat) := [(34, 999), (35, 999), (36, 999), (37, 999), (38, 999), (4, 5), (4, 6), (4, 7), (4, 8), (4, 9), (4, 10)]
def CS (ρ : Nat → Nat) (c : Cm) (x0 L wy b r a0 a1 on bm bc sh : Nat) (n m : Int) (h : Hp) : Prop := CoB ρ x0 L wy b r a0 a1 on bm bc n m h ∧ LaP ρ x0 L b r on sh n m h ∧ (hI h L 4).toInt < m ∧ ρ bm = 30 ∧ ρ bc = 31 ∧ ¬ cw c b = 1503 ∧ cw c L = 2102
section
variable {ρ : Nat → Nat} {c : Cm} {h o g : Hp} {x0 L wy b r a0 a1 on bm bc sh F : Nat} {n m : Int} {x1 x2 x3 : Int32}
theorem cs_k6 (k : KL6 ρ h o) (C : CS ρ c x0 L wy b r a0 a1 on bm bc sh n m h) : CS ρ c x0 L wy b r a0 a1 on bm bc sh n m o := by
  obtain ⟨B, ⟨⟨e0, e3, e4, e5, eo⟩, ⟨r0, rL, rb, rr', qo⟩, p1, p2, p3, p4, p5, p6, p7⟩, y, k1, k2, k3, k4⟩ := C
  have iL : ∀ i, hI o L i = hI h L i := fun i => k.2.1 L i (by rw [rL]; decide) (by rw [rL]; decide)
  refine ⟨cob_k k B, ⟨⟨by rw [k.1]; exact e0, by rw [k.1]; exact e3, by rw [k.1]; exact e4, by rw [k.1]; exact e5, by rw [k.1]; exact eo⟩, ⟨r0, rL, rb, rr', qo⟩, pr_k k.1 p1, p2, fun s hs z => ?_, by rw [k.2.1 b 5 (by rw [rb]; decide) (by rw [rb]; decide)]; exact p4, by rw [iL]; exact p5, by rw [iL]; exact p6, p7⟩, by rw [iL]; exact y, k1, k2, k3, k4⟩
  rw [k.2.1 on s (by rw [qo]; decide) (by rw [qo]; decide)] at z ⊢
  exact p3 s hs z
theorem cs_fr (T : TH ρ c h) (f : Fr ρ (cat c (fS [(47, 999), (6, 6), (6, 7)] [(1503, SHL)]) h) h o) (C : CS ρ c x0 L wy b r a0 a1 on bm bc sh n m h) : CS ρ c x0 L wy b r a0 a1 on bm bc sh n m o := by
  obtain ⟨⟨⟨e0, e1, e4, e5, f0, f1, eo, g17, g18⟩, ⟨r0, rL, rw', rb, rr', q0, q1, qo, m1, c1⟩, W, O, X, m12, n64, eL2, eL3⟩, ⟨⟨_, e3, _, _, _⟩, _, p1, p2, p3, p4, p5, p6, p7⟩, y, k1, k2, k3, k4⟩ := C
  have fR : ∀ {a k i : Nat}, ρ a = k → k ≠ 0 → (mS SHL k i = false) → (mS [(47, 999), (6, 6), (6, 7)] k i = false) → hR o a i = hR h a i := fun {a k i} ra h0 s1 s2 => (fr_RI f ra h0 (fun _ => fs_cf (Or.inl s1) (by unfold fS; simp [s2]))).2.2
  have fI : ∀ {a k : Nat} (i : Nat), ρ a = k → k ≠ 0 → (mS SHL k i = false) → (mS [(47, 999), (6, 6), (6, 7)] k i = false) → hI o a i = hI h a i := fun {a k} i ra h0 s1 s2 => (fr_RI f ra h0 (fun _ => fs_cf (Or.inl s1) (by unfold fS; simp [s2]))).1
  have won : ¬ cw c on = 1503 := by rw [th_ih T rb rfl eo rfl]; exact k3
  have ion : ∀ s, hI o on s = hI h on s := fun s => fr_I f qo (by decide) (w := cw c on) rfl (fs_cf (Or.inr won) rfl)
  have ib5 : hI o b 5 = hI h b 5 := fr_I f rb (by decide) (w := cw c b) rfl (fs_cf (Or.inr k3) rfl)
  have OX : OnX n m on o := fun s hs z => by rw [ion] at z ⊢; exact O s hs z
  have rsh := p1.1
  have eL : ∀ i, hI o L i = hI h L i := fun i => fI i rL (by decide) rfl rfl
  have E0 : hR o x0 0 = some L := by rw [fR r0 (by decide) rfl rfl]; exact e0
  have E3 : hR o x0 3 = some sh := by rw [fR r0 (by decide) rfl rfl]; exact e3
  have E4 : hR o x0 4 = some b := by rw [fR r0 (by decide) rfl rfl]; exact e4
  have E5 : hR o x0 5 = some r := by rw [fR r0 (by decide) rfl rfl]; exact e5
  have EO : hR o b 0 = some on := by rw [fR rb (by decide) rfl rfl]; exact eo
  refine ⟨⟨⟨E0, by rw [fR r0 (by decide) rfl rfl]; exact e1, E4, E5, by rw [fR rw' (by decide) rfl rfl]; exact f0, by rw [fR rw' (by decide) rfl rfl]; exact f1, EO, by rw [fR rL (by decide) rfl rfl]; exact g17, by rw [fR rL (by decide) rfl rfl]; exact g18⟩, ⟨r0, rL, rw', rb, rr', q0, q1, qo, m1, c1⟩, wy_e (fI 8 rw' (by decide) rfl rfl) (fun i => fI i q0 (by decide) rfl rfl) (fun i => fI i q1 (by decide) rfl rfl) W, OX, fun kk hk => ?_, m12, n64, by rw [eL]; exact eL2, by rw [eL]; exact eL3⟩, ⟨⟨E0, E3, E4, E5, EO⟩, ⟨r0, rL, rb, rr', qo⟩, ⟨rsh, fun q e => p1.2.1 q (by rw [← fR rsh (by decide) rfl rfl]; exact e), fun q e => p1.2.2.1 q (by rw [← fR rsh (by decide) rfl rfl]; exact e), fun q e => p1.2.2.2 q (by rw [← fR rsh (by decide) rfl rfl]; exact e)⟩, p2, OX, by rw [ib5]; exact p4, by rw [eL]; exact p5, by rw [eL]; exact p6, p7⟩, by rw [eL]; exact y, k1, k2, k3, k4⟩
  rw [fI kk k2 (by decide) rfl rfl]
  refine ⟨(X kk hk).1, fun i hi => ?_⟩
  rw [fI _ k1 (by decide) rfl rfl]
  exact (X kk hk).2 i hi
abbrev LQ (r : Nat) (n m : Int) : Int32 × Hp → Prop := fun o => ∀ i : Nat, (i : Int) < o.1.toInt → MvX n m (hI o.2 r i)
theorem cx_217 (hF : 700000 ≤ F) (m4 : c.2.1 4 = true) (hA : pmA c [(47, 999), (6, 6), (6, 7)]) (r0 : ρ x0 = 6) (rr' : ρ r = 47) (T : TH ρ c h) (e5 : hR h x0 5 = some r) (X : LsX x0 r n m h) : Sat (sX5_collect_217 F h x0) (ZQ (ZI ρ c 0 4096) (LQ r n m)) := by
  unfold sX5_collect_217 sX5_collect_239
  obtain ⟨L, eL, rL⟩ := thR T r0 (i := 0) (k2 := 2) rfl (by decide)
  refine s_ref eL ?_
  refine s_dI0 (zX1_has hF T rL (rg_m (rg_b rfl : Rg 2 2 (2 : Int32)) (by decide))) (fun o2 _ e2 _ => ?_)
  rw [e2]
  have fin : ∀ {g : Hp}, TH ρ c g → LsX x0 r n m g → Sat (some (hI g x0 6, g)) (ZQ (ZI ρ c 0 4096) (LQ r n m)) := fun T' X' => s_some ⟨⟨T', (thI T' r0 (k := 6) (i := 6) rfl : Rg 0 4096 _)⟩, X'.2⟩
  refine s_br (fun _ => fin T X) (fun _ => ?_)
  refine s_br (fun _ => fin T X) (fun _ => ?_)
  refine s_dd (zX5_keepTakes hF m4 (pmA_s hA rfl) T r0) (fun o5 ee T5 => ?_)
  exact fin T5 (takes_l r0 rr' e5 X ee)
theorem s_klw {β : Type} {Q : β → Prop} {k : Hp → Option β} {v : Int32} (hF : 700000 ≤ F) (m3 : c.2.1 3 = true) (m4 : c.2.1 4 = true) (hA : pmA c [(47, 999), (6, 6), (6, 7)]) (hi : pmO c 1503 SHL) (T : TH ρ c h) (C : CS ρ c x0 L wy b r a0 a1 on bm bc sh n m h) (X : LsX x0 r n m h) (iv : Rg 0 4095 v) (lv : v.toInt ≤ (hI h x0 6).toInt) (H : ∀ o, TH ρ c o → CS ρ c x0 L wy b r a0 a1 on bm bc sh n m o → LsX x0 r n m o → Fr ρ (cat c (fS [(47, 999), (6, 6), (6, 7)] [(1503, SHL)]) h) h o → Sat (k o) Q) : Sat (cl (sX5_keepLawful F h x0 v) k) Q := by
  have r0 := C.1.2.1.1
  refine s_dd (zX5_keepLawful (c := cat c (fS [(47, 999), (6, 6), (6, 7)] [(1503, SHL)]) h) hF m3 m4 fs_a (fs_o (.head _)) (th_in _ T) r0 iv) (fun o ee T' => ?_)
  have To := th_out T (fs_sub hA (fs_c hi fs_n)) T'
  have f := fr_u T T'.2.2
  exact H o To (cs_fr T f C) (lawful_l C.2.1 X iv.1 lv ee) f
theorem cx_178 (hF : 700000 ≤ F) (m3 : c.2.1 3 = true) (m4 : c.2.1 4 = true) (hA : pmA c [(47, 999), (6, 6), (6, 7)]) (hi : pmO c 1503 SHL) {x6 : Int32} (i3 : Rg 1 4096 x3) (i6 : Rg 0 64 x6) (ln : x6.toInt ≤ n) (sq : ∀ v : Int32, v.toInt < x6.toInt → SqB (c.2.1 50) v) : ∀ (f : Nat) {h : Hp} {x7 : Int32}, TH ρ c h → CS ρ c x0 L wy b r a0 a1 on bm bc sh n m h → LsX x0 r n m h → Rg 0 64 x7 → (64 - x7.toInt).toNat < f → Sat (sX5_collect_178 F f h x0 x3 x6 x7) (ZQ (ZI ρ c 0 4096) (LQ r n m)) := by
  intro f
  induction f with
  | zero => intros; omega
  | succ f ih =>
    intro h x7 T C X i7 hm
    rw [sX5_collect_178]
    have r0 := C.1.2.1.1
    have rr' := C.1.2.1.2.2.2.2.1
    have e5 := C.1.1.2.2.2.1
    refine s_br (fun _ => cx_217 hF m4 hA r0 rr' T e5 X) (fun c1 => ?_)
    refine s_br (fun _ => cx_217 hF m4 hA r0 rr' T e5 X) (fun c2 => ?_)
    have c1 := nle_i c1
    have c2 := nle_i c2
    have b1 := i7.1
    have b2 := i6.2
    have b3 := i3.2
    have ic := (thI T r0 (k := 6) (i := 6) rfl : Rg 0 4096 (hI h x0 6))
    refine s_q (fun v3 e3 => ?_)
    have iv : Rg 0 4095 v3 := by rw [e3]; exact ⟨ic.1, by omega⟩
    have i7' : Rg 0 63 x7 := ⟨by omega, by omega⟩
    refine s_dd (zX5_addDrops hF m3 m4 (pmA_s hA rfl) T r0 i7' (sq x7 c1)) (fun o4 ee T4 => ?_)
    have A := drops_l C.1 X i7' (by omega) ee
    refine s_klw hF m3 m4 hA hi T4 (cs_k6 A.1 C) A.2.1 iv (by rw [e3]; exact A.2.2) (fun o5 T5 C5 X5 _ => ?_)
    refine s_q (fun v6 e6 => ?_)
    have t1 : (1 : Int32).toInt = 1 := rfl
    have ev : v6.toInt = x7.toInt + 1 := by rw [e6, ta (by rw [t1]; omega), t1]
    clear e6
    exact ih T5 C5 X5 ⟨by omega, by omega⟩ (by omega)
theorem cx_151 (hF : 700000 ≤ F) (m3 : c.2.1 3 = true) (m4 : c.2.1 4 = true) (hA : pmA c [(47, 999), (6, 6), (6, 7)]) (hi : pmO c 1503 SHL) (i3 : Rg 1 4096 x3) (T : TH ρ c h) (lw : LwR ρ c h) (C : CS ρ c x0 L wy b r a0 a1 on bm bc sh n m h) (X : LsX x0 r n m h) : Sat (sX5_collect_151 F h x0 x3) (ZQ (ZI ρ c 0 4096) (LQ r n m)) := by
  unfold sX5_collect_151 sX5_collect_173
  have eL := C.1.1.1
  have rL := C.1.2.1.2.1
  have eL2 := C.1.2.2.2.2.2.2.2.1
  have n0 : 0 ≤ n := by rw [← eL2]; exact (thI T rL (k := 2) (i := 2) rfl : Rg 0 64 _).1
  refine s_ref eL ?_
  refine s_dI0 (zX1_has hF T rL (rg_m (rg_b rfl : Rg 1 1 (1 : Int32)) (by decide))) (fun o2 _ e2 _ => ?_)
  rw [e2]
  have z0 : (0 : Int32).toInt = 0 := rfl
  have i0 : Rg 0 64 (0 : Int32) := rg_m (rg_b rfl : Rg 0 0 (0 : Int32)) (by decide)
  refine s_br (fun _ => ?_) (fun _ => ?_)
  · exact cx_178 hF m3 m4 hA hi i3 i0 (by rw [z0]; exact n0) (fun v hv => Or.inr (by rw [z0] at hv; omega)) F T C X i0 (by rw [z0]; omega)
  · refine s_ref eL ?_
    exact cx_178 hF m3 m4 hA hi i3 (thI T rL (k := 2) (i := 2) rfl : Rg 0 64 _) (by rw [eL2]; exact Int.le_refl _) (fun v hv => lw_sq lw rL C.2.2.2.2.2.2 hv) F T C X i0 (by rw [z0]; omega)
theorem cx_39 (hF : 700000 ≤ F) (m3 : c.2.1 3 = true) (m4 : c.2.1 4 = true) (hA : pmA c [(47, 999), (6, 6), (6, 7)]) (hi : pmO c 1503 SHL) (i3 : Rg 1 4096 x3) : ∀ (f : Nat) {h : Hp} {x4 : Int64} {x6 : Int32}, TH ρ c h → LwR ρ c h → HereI ρ c x0 x4 h → CS ρ c x0 L wy b r a0 a1 on bm bc sh n m h → LsX x0 r n m h → Rg 0 64 x6 → (64 - x6.toInt).toNat < f → Sat (sX5_collect_39 F f h x0 x3 x4 x6) (ZQ (ZI ρ c 0 4096) (LQ r n m)) := by
  intro f
  induction f with
  | zero => intros; omega
  | succ f ih =>
    intro h x4 x6 T lw P C X i6 hm
    rw [sX5_collect_39]
    have r0 := C.1.2.1.1
    have rL := C.1.2.1.2.1
    have rb := C.1.2.1.2.2.2.1
    have e4 := C.1.1.2.2.1
    have eon := C.1.1.2.2.2.2.2.2.1
    refine s_br (fun _ => cx_151 hF m3 m4 hA hi i3 T lw C X) (fun c1 => ?_)
    refine s_br (fun _ => cx_151 hF m3 m4 hA hi i3 T lw C X) (fun c2 => ?_)
    refine s_br (fun _ => cx_151 hF m3 m4 hA hi i3 T lw C X) (fun c3 => ?_)
    have c1 := nle_i c1
    have c3 := nle_i c3
    have t64 : (64 : Int32).toInt = 64 := rfl
    have b1 := i6.1
    have b3 := i3.2
    have ic := (thI T r0 (k := 6) (i := 6) rfl : Rg 0 4096 (hI h x0 6))
    refine s_dI0 (zX11_lowest hF T) (fun o4 eb4 e4' i4 => ?_)
    obtain ⟨s, g4⟩ := o4
    replace e4' : g4 = h := e4'
    subst e4'
    have hbit := low_bt eb4 c2
    replace hbit : bitJ x4 s.toNatClampNeg = true := hbit
    replace i4 : Rg 0 63 s := i4
    have cs := clamp_i i4.1
    have s64 : s.toNatClampNeg < 64 := by have := i4.2; omega
    refine s_q (fun v5 e5 => ?_)
    refine s_q (fun v6 e6 => ?_)
    have iv : Rg 0 4095 v6 := by rw [e6]; exact ⟨ic.1, by show (hI g4 x0 6).toInt ≤ 4095; omega⟩
    have sq : SqB (c.2.1 50) s := sq_n ((P b e4).2.1 on _ eon s64 hbit).2 (by rw [cs])
    have mn : 0 ≤ (hI g4 on s.toNatClampNeg).toInt := ((P b e4).2.1 on _ eon s64 hbit).1
    have ls : s.toInt < n := by have := (C.1.2.2.2.1 s.toNatClampNeg s64 mn).1; omega
    have ma : MenAt x0 s g4 := fun p on' ep eo => ((P p ep).2.1 on' _ eo s64 hbit).1
    have P5 : HereI ρ c x0 v5 g4 := by rw [e5]; exact hi_and P
    refine s_dd (zX5_addSteps (c := cat c (fS [(47, 999), (6, 6)] []) g4) hF m3 m4 fs_a (th_in _ T) r0 i4 ma sq) (fun o7 ee7 T7' => ?_)
    have T7 := th_out T (fs_sub (pmA_s hA rfl) fs_n) T7'
    have f7 := fr_u T T7'.2.2
    have A7 := steps_l C.1 X i4 mn ee7
    have C7 := cs_k6 A7.1 C
    have lw7 := lw_fr T f7 (fun _ => rfl) (fun _ => rfl) (fun _ => rfl) lw
    have P7 := hi_fr T r0 f7 (fun _ => rfl) (fun _ => rfl) (fun _ => rfl) (fun _ => rfl) (fun _ _ => ⟨fun _ => rfl, fun _ => rfl⟩) P5
    have fin : ∀ {g : Hp}, TH ρ c g → LwR ρ c g → HereI ρ c x0 v5 g → CS ρ c x0 L wy b r a0 a1 on bm bc sh n m g → LsX x0 r n m g → v6.toInt ≤ (hI g x0 6).toInt → Sat (sX5_collect_139 F (sX5_collect_39 F f) g x0 x3 v5 x6 v6) (ZQ (ZI ρ c 0 4096) (LQ r n m)) := fun {g} Tg lg Pg Cg Xg lv => by
      unfold sX5_collect_139
      refine s_klw hF m3 m4 hA hi Tg Cg Xg iv lv (fun o1 T1 C1 X1 f1 => ?_)
      refine s_q (fun v2 e2 => ?_)
      have t1 : (1 : Int32).toInt = 1 := rfl
      have ev : v2.toInt = x6.toInt + 1 := by rw [e2, ta (by rw [t1]; omega), t1]
      clear e2
      exact ih T1 (lw_fr Tg f1 (fun _ => fs_cf (Or.inl rfl) rfl) (fun _ => fs_cf (Or.inl rfl) rfl) (fun _ => fs_cf (Or.inl rfl) rfl) lg) (hi_fr Tg r0 f1 (fun _ => fs_cf (Or.inl rfl) rfl) (fun _ => fs_cf (Or.inl rfl) rfl) (fun _ => fs_cf (Or.inl rfl) rfl) (fun _ => fs_cf (Or.inl rfl) rfl) (fun w hw => ⟨fun _ => fs_cf (Or.inr hw) rfl, fun _ => fs_cf (Or.inr hw) rfl⟩) Pg) C1 X1 ⟨by omega, by omega⟩ (by omega)
    have lv7 : v6.toInt ≤ (hI o7 x0 6).toInt := by rw [e6]; exact A7.2.2
    have e47 := C7.1.1.2.2.1
    obtain ⟨ra, era, rra⟩ := thR T7 rb (i := 2) (k2 := 36) rfl (by decide)
    refine s_ref e47 (s_ref era (s_ref e47 ?_))
    have isd := (thI T7 rb (k := 4) (i := 5) rfl : Rg 0 1 (hI o7 b 5))
    refine s_gd (by rw [thN T7 rra (k := 36) (n := 2) rfl (by decide)]; exact rg_inB isd (by decide)) ?_
    refine s_br (fun c8 => ?_) (fun _ => fin T7 lw7 P7 C7 A7.2.1 lv7)
    refine s_ref e47 ?_
    refine s_br (fun _ => fin T7 lw7 P7 C7 A7.2.1 lv7) (fun c9 => ?_)
    have ryL : 0 ≤ (hI o7 L 4).toInt := (P7 b e47).2.2 ra era (hI o7 b 5).toNatClampNeg (by have := rg_clamp (n := 1) isd (by decide); omega) (by rw [← c8]; exact i4.1) L rL C7.2.2.2.2.2.2
    have ry : ∀ L', hR o7 x0 0 = some L' → 0 ≤ (hI o7 L' 4).toInt := fun L' eL => by
      have q : L' = L := r_eq C7.1.1.1 eL
      rw [q]; exact ryL
    refine s_dd (zX5_addCastling (c := cat c (fS [(47, 999), (6, 6)] []) o7) hF m3 m4 fs_a (th_in _ T7) r0 i4 (rg_m (rg_b rfl : Rg (-1) (-1) (-1 : Int32)) (by decide)) (rg_m iv (by decide)) sq (Or.inr rfl) ry) (fun o15 ee15 T15' => ?_)
    have T15 := th_out T7 (fs_sub (pmA_s hA rfl) fs_n) T15'
    have f15 := fr_u T7 T15'.2.2
    have A15 := castl_l hF T7 C7.1 A7.2.1 i4 ls sq (rg_m (rg_b rfl : Rg (-1) (-1) (-1 : Int32)) (by decide)) (Or.inr rfl) iv.1 ryL C7.2.2.1 ee15
    have C15 := cs_k6 A15.1 C7
    have lw15 := lw_fr T7 f15 (fun _ => rfl) (fun _ => rfl) (fun _ => rfl) lw7
    have P15 := hi_fr T7 r0 f15 (fun _ => rfl) (fun _ => rfl) (fun _ => rfl) (fun _ => rfl) (fun _ _ => ⟨fun _ => rfl, fun _ => rfl⟩) P7
    have ryL15 : 0 ≤ (hI o15 L 4).toInt := by rw [A15.1.2.1 L 4 (by rw [rL]; decide) (by rw [rL]; decide)]; exact ryL
    have ry15 : ∀ L', hR o15 x0 0 = some L' → 0 ≤ (hI o15 L' 4).toInt := fun L' eL => by
      have q : L' = L := r_eq C15.1.1.1 eL
      rw [q]; exact ryL15
    refine s_dd (zX5_addCastling (c := cat c (fS [(47, 999), (6, 6)] []) o15) hF m3 m4 fs_a (th_in _ T15) r0 i4 (rg_m (rg_b rfl : Rg 1 1 (1 : Int32)) (by decide)) (rg_m iv (by decide)) sq (Or.inl rfl) ry15) (fun o16 ee16 T16' => ?_)
    have T16 := th_out T15 (fs_sub (pmA_s hA rfl) fs_n) T16'
    have f16 := fr_u T15 T16'.2.2
    have A16 := castl_l hF T15 C15.1 A15.2.1 i4 ls sq (rg_m (rg_b rfl : Rg 1 1 (1 : Int32)) (by decide)) (Or.inl rfl) iv.1 ryL15 C15.2.2.1 ee16
    have C16 := cs_k6 A16.1 C15
    exact fin T16 (lw_fr T15 f16 (fun _ => rfl) (fun _ => rfl) (fun _ => rfl) lw15) (hi_fr T15 r0 f16 (fun _ => rfl) (fun _ => rfl) (fun _ => rfl) (fun _ => rfl) (fun _ _ => ⟨fun _ => rfl, fun _ => rfl⟩) P15) C16 A16.2.1 (Int.le_trans lv7 (Int.le_trans A15.2.2 A16.2.2))
end
end
section
/-! the moves that are collected are of the law -/
def LwX (ρ : Nat → Nat) (c : Cm) (h : Hp) : Prop := ∀ L, ρ L = 2 → cw c L = 2102 → (hI h L 4).toInt < (hI h L 3).toInt ∧ (hI h L 6).toInt < (hI h L 3).toInt ∧ ∀ bm bc, hR h L 17 = some bm → hR h L 18 = some bc → BcX bm bc (hI h L 3).toInt h
def WyA (ρ : Nat → Nat) (c : Cm) (h : Hp) : Prop := ∀ wy L, ρ wy = 11 → ρ L = 2 → cw c L = 2102 → WyX wy (hI h L 2).toInt (hI h L 3).toInt h
theorem c6k {k w i : Nat} (h6 : k ≠ 6) : fS [(6, 8), (6, 9)] [] k w i = false := by
  have q : ((6 : Nat) == k) = false := beq_eq_false_iff_ne.mpr (fun z => h6 z.symm)
  unfold fS mS
  simp [List.any, q]
theorem collect_q {ρ : Nat → Nat} {c : Cm} {F : Nat} {w_x1 w_x2 : Nat} (hF : 700000 ≤ F) (hA : pmA c [(47, 999), (6, 4), (6, 5), (6, 6), (6, 7), (6, 8), (6, 9)]) (hi_1503 : pmO c 1503 [(34, 999), (35, 999), (36, 999), (37, 999), (38, 999), (4, 5), (4, 6), (4, 7), (4, 8), (4, 9), (4, 10)]) {h : Hp} {x0 : Nat} {x1 : Nat} {x2 : Nat} {x3 : Int32} (o_x1 : cw c x1 = w_x1) (o_x2 : cw c x2 = w_x2) (nw_x1_1503 : ¬ w_x1 = 1503) (T : TH ρ c h) (r_x0 : ρ x0 = 6) (r_x1 : ρ x1 = 4) (r_x2 : ρ x2 = 47) (i_x3 : Rg (1) (4096) (x3)) (lw : (LwR ρ c h)) (rt : (RyP ρ c x1 h)) (lx : LwX ρ c h) (wx : WyA ρ c h) (px : PoX ρ c x1 h) : Sat (sX5_collect F h x0 x1 x2 x3) (ZQ (ZI ρ c 0 4096) (fun o => ∀ L, ρ L = 2 → cw c L = 2102 → LQ x2 (hI h L 2).toInt (hI h L 3).toInt o)) := by
  obtain ⟨L0, eL0, rL0⟩ := thR T r_x0 (i := 0) (k2 := 2) rfl (by decide)
  have wL0 : cw c L0 = 2102 := kid_w T r_x0 (i := 0) (w := 2102) rfl (by decide) eL0
  obtain ⟨n, en⟩ : ∃ n : Int, n = (hI h L0 2).toInt := ⟨_, rfl⟩
  obtain ⟨m, em⟩ : ∃ m : Int, m = (hI h L0 3).toInt := ⟨_, rfl⟩
  unfold sX5_collect sX5_begin
  refine s_imp (Q := ZQ (ZI ρ (nst (nst c 3) 4) 0 4096) (LQ x2 n m)) ?_ (fun o ho => ⟨⟨th_un (th_un ho.1.1), ho.1.2⟩, fun L rL wL => by
    have q : L = L0 := T.1.2.2.2.2.2.2.2.2 L L0 (by rw [rL, rL0]) (Or.inr ⟨Or.inr rL, by rw [wL, wL0]⟩)
    rw [q, ← en, ← em]
    exact ho.2⟩)
  refine s_cl ?_
  refine s_hq (th_wR T r_x0 (k := 6) (i := 4) (j := 3) (k2 := 4) rfl (by decide) rfl (by decide) r_x1 rfl nid_3 (by decide) (by decide) rfl rfl (fun z => absurd rfl z) (pm_a hA rfl)) (fun h1 T1 e1 => ?_)
  refine s_hq (th_wR T1 r_x0 (k := 6) (i := 5) (j := 4) (k2 := 47) rfl (by decide) rfl (by decide) r_x2 rfl nid_4 (by decide) (by decide) rfl rfl (fun z => absurd rfl z) (pm_a hA rfl)) (fun h2 T2 e2 => ?_)
  refine s_hq (th_wI T2 r_x0 (k := 6) (i := 6) (lo := 0) (hi := 4096) rfl (rg_m (rg_b rfl : Rg 0 0 (0 : Int32)) (by decide)) (by decide) (by decide) (pm_a hA rfl)) (fun h3 T3 e3 => ?_)
  refine s_hq (th_wI T3 r_x0 (k := 6) (i := 7) (lo := 0) (hi := 1) rfl (rg_m (rg_b rfl : Rg 0 0 (0 : Int32)) (by decide)) (by decide) (by decide) (pm_a hA rfl)) (fun h4 T4 e4 => ?_)
  refine s_hq (th_wJ T4 r_x0 (by decide) (pm_a hA rfl)) (fun h5 T5 e5 => ?_)
  have m3 : (nst (nst c 3) 4).2.1 3 = true := nst_o nst_s
  have m4 : (nst (nst c 3) 4).2.1 4 = true := nst_s
  have E4 : hR h5 x0 4 = some x1 := by
    rw [e5, e4, e3, e2]
    show hR (wR h1 x0 5 (some x2)) x0 4 = some x1
    rw [r_R, if_neg (fun q => absurd q.2 (by decide)), e1, r_R, if_pos ⟨rfl, rfl⟩]
  have ne : ∀ {a k : Nat}, ρ a = k → k ≠ 6 → (∀ i, hI h5 a i = hI h a i) ∧ (∀ i, hJ h5 a i = hJ h a i) := fun {a k} ha hk => by
    have q : ∀ {P : Prop}, ¬ (a = x0 ∧ P) := fun z => hk (by rw [← ha, z.1, r_x0])
    refine ⟨fun i => ?_, fun i => ?_⟩
    · rw [e5]
      show hI h4 _ i = _
      rw [e4, r_I, if_neg q, e3, r_I, if_neg q, e2, e1]
      rfl
    · rw [e5, r_J, if_neg q, e4, e3, e2, e1]
      rfl
  have R1 : hR h5 x1 2 = hR h x1 2 := by
    rw [e5, e4, e3, e2]
    show hR (wR h1 x0 5 (some x2)) x1 2 = _
    rw [r_R, if_neg (fun q => absurd q.2 (by decide)), e1, r_R, if_neg (fun q => absurd q.2 (by decide))]
  have lw5 : LwR ρ (nst (nst c 3) 4) h5 := fun L rL wL hc => by
    rw [(ne rL (by decide)).1, (ne rL (by decide)).1, (ne rL (by decide)).1] at hc
    exact lw L rL wL hc
  obtain ⟨L, eL, rL⟩ := thR T5 r_x0 (i := 0) (k2 := 2) rfl (by decide)
  have hA' : pmA (nst (nst c 3) 4) [(47, 999), (6, 4), (6, 5), (6, 6), (6, 7), (6, 8), (6, 9)] := hA
  have rest : ∀ {t0 : Int32}, Rg 0 1 t0 → Sat (sX5_begin_54 F h5 x0 t0 x0) (fun o => Sat (cl (hR o x0 4) fun r_2 => cl (sX5_earlyEnd o x0 r_2) fun o_3 => br (o_3.1 = 0) (cl (hR o_3.2 x0 4) fun r_5 => cl (hR o_3.2 r_5 1) fun r_6 => cl (hR o_3.2 x0 4) fun r_7 => gd (inB (hI o_3.2 r_7 5) (hN o_3.2 r_6)) <| nm (hJ o_3.2 r_6 (hI o_3.2 r_7 5).toNatClampNeg) fun v_9 => sX5_collect_39 F F o_3.2 x0 x3 v_9 (0 : Int32)) (some ((0 : Int32), o_3.2))) (ZQ (ZI ρ (nst (nst c 3) 4) 0 4096) (LQ x2 n m))) := fun it => by
    refine s_imp (zX5_begin_54 (c := cat (nst (nst c 3) 4) (fS [(6, 8), (6, 9)] []) h5) hF m3 fs_a (th_in _ T5) r_x0 it r_x0) (fun o ho => ?_)
    have To : TH ρ (nst (nst c 3) 4) o := th_out T5 (fs_sub (pmA_s hA' rfl) fs_n) ho
    have fo : Fr ρ (cat (nst (nst c 3) 4) (fS [(6, 8), (6, 9)] []) h5) h5 o := fr_u T5 ho.2.2
    have Eo : hR o x0 4 = some x1 := by rw [(fr_RI fo r_x0 (by decide) (fun _ => rfl)).2.2]; exact E4
    refine s_ref Eo ?_
    refine s_dI0 (zX5_earlyEnd hF To r_x0 r_x1) (fun o3 _ e3' _ => ?_)
    obtain ⟨a3, g3⟩ := o3
    replace e3' : g3 = o := e3'
    subst e3'
    refine s_br (fun _ => ?_) (fun _ => s_some ⟨⟨To, rg_m (rg_b rfl : Rg 0 0 (0 : Int32)) (by decide)⟩, fun i hi => absurd hi (by show ¬ (i : Int) < 0; omega)⟩)
    obtain ⟨of, ef, rf⟩ := thR To r_x1 (i := 1) (k2 := 35) rfl (by decide)
    have isd := (thI To r_x1 (k := 4) (i := 5) rfl : Rg 0 1 (hI g3 x1 5))
    refine s_ref Eo (s_ref ef (s_ref Eo ?_))
    refine s_gd (by rw [thN To rf (k := 35) (n := 2) rfl (by decide)]; exact rg_inB isd (by decide)) ?_
    refine s_q (fun v9 e9 => ?_)
    have z0 : (0 : Int32).toInt = 0 := rfl
    -- what the collector works with
    have kR : ∀ {a k : Nat} (i : Nat), ρ a = k → k ≠ 0 → k ≠ 6 → hR g3 a i = hR h a i := fun {a k} i ra h0 h6 => by
      have q : ∀ {P : Prop}, ¬ (a = x0 ∧ P) := fun z => h6 (by rw [← ra, z.1, r_x0])
      rw [(fr_RI fo ra h0 (fun _ => c6k h6)).2.2, e5, e4, e3, e2]
      show hR (wR h1 x0 5 (some x2)) a i = _
      rw [r_R, if_neg q, e1, r_R, if_neg q]
    have kI : ∀ {a k : Nat} (i : Nat), ρ a = k → k ≠ 0 → k ≠ 6 → hI g3 a i = hI h a i := fun {a k} i ra h0 h6 => by
      rw [(fr_RI fo ra h0 (fun _ => c6k h6)).1]
      exact (ne ra h6).1 i
    have E5 : hR g3 x0 5 = some x2 := by
      rw [(fr_RI fo r_x0 (by decide) (fun _ => rfl)).2.2, e5, e4, e3, e2]
      show hR (wR h1 x0 5 (some x2)) x0 5 = some x2
      rw [r_R, if_pos ⟨rfl, rfl⟩]
    obtain ⟨Lg, eLg, rLg⟩ := thR To r_x0 (i := 0) (k2 := 2) rfl (by decide)
    have wLg : cw c Lg = 2102 := kid_w To r_x0 (i := 0) (w := 2102) rfl (by decide) eLg
    have qL : Lg = L0 := T.1.2.2.2.2.2.2.2.2 Lg L0 (by rw [rLg, rL0]) (Or.inr ⟨Or.inr rLg, by rw [wLg, wL0]⟩)
    subst qL
    obtain ⟨wy, ewy, rwy⟩ := thR To r_x0 (i := 1) (k2 := 11) rfl (by decide)
    obtain ⟨sh, esh, rsh⟩ := thR To r_x0 (i := 3) (k2 := 4) rfl (by decide)
    have wsh : cw c sh = 1503 := kid_w To r_x0 (i := 3) (w := 1503) rfl (by decide) esh
    obtain ⟨a0, ea0, ra0⟩ := thR To rwy (i := 0) (k2 := 50) rfl (by decide)
    obtain ⟨a1, ea1, ra1⟩ := thR To rwy (i := 1) (k2 := 51) rfl (by decide)
    obtain ⟨on, eon, ron⟩ := thR To r_x1 (i := 0) (k2 := 34) rfl (by decide)
    obtain ⟨bm, ebm, rbm⟩ := thR To rLg (i := 17) (k2 := 30) rfl (by decide)
    obtain ⟨bc, ebc, rbc⟩ := thR To rLg (i := 18) (k2 := 31) rfl (by decide)
    have im := thI To rLg (k := 2) (i := 3) (lo := 0) (hi := 12) rfl
    have inn := thI To rLg (k := 2) (i := 2) (lo := 0) (hi := 64) rfl
    have iL : ∀ i, hI g3 Lg i = hI h Lg i := fun i => kI i rLg (by decide) (by decide)
    obtain ⟨x4, x6, xb⟩ := lx Lg rLg wLg
    have OX : OnX n m on g3 := fun s hs z => by
      rw [kI s ron (by decide) (by decide)] at z ⊢
      rw [en, em]
      exact px Lg on s rLg wLg (by rw [← kR 0 r_x1 (by decide) (by decide)]; exact eon) hs z
    have Xb := xb bm bc (by rw [← kR 17 rLg (by decide) (by decide)]; exact ebm) (by rw [← kR 18 rLg (by decide) (by decide)]; exact ebc)
    have W := wx wy Lg rwy rLg wLg a0 a1 (by rw [← kR 0 rwy (by decide) (by decide)]; exact ea0) (by rw [← kR 1 rwy (by decide) (by decide)]; exact ea1)
    rw [← en, ← em] at W
    rw [← em] at x4 x6 Xb
    have CC : CS ρ (nst (nst c 3) 4) x0 Lg wy x1 x2 a0 a1 on bm bc sh n m g3 := by
      refine ⟨⟨⟨eLg, ewy, Eo, E5, ea0, ea1, eon, ebm, ebc⟩, ⟨r_x0, rLg, rwy, r_x1, r_x2, ra0, ra1, ron, ⟨by rw [rbm]; decide, by rw [rbm]; decide⟩, ⟨by rw [rbc]; decide, by rw [rbc]; decide⟩⟩, wy_e (kI 8 rwy (by decide) (by decide)) (fun i => kI i ra0 (by decide) (by decide)) (fun i => kI i ra1 (by decide) (by decide)) W, OX, fun kk hk => ?_, by rw [em, ← iL]; exact im.2, by rw [en, ← iL]; exact inn.2, by rw [iL, en], by rw [iL, em]⟩, ⟨⟨eLg, esh, Eo, E5, eon⟩, ⟨r_x0, rLg, r_x1, r_x2, ron⟩, ⟨rsh, fun q e => rr To (thR To rsh (i := 0) (k2 := 34) rfl (by decide)) e, fun q e => rr To (thR To rsh (i := 2) (k2 := 36) rfl (by decide)) e, fun q e => rr To (thR To rsh (i := 4) (k2 := 38) rfl (by decide)) e⟩, fun z => nw_x1_1503 (o_x1.symm.trans (by rw [z]; exact wsh)), OX, isd, thI To rLg (k := 2) (i := 6) rfl, by rw [iL]; exact x6, by rw [em, ← iL]; exact im.2⟩, by rw [iL]; exact x4, rbm, rbc, fun z => nw_x1_1503 (o_x1.symm.trans z), wLg⟩
      rw [kI kk rbc (by decide) (by decide)]
      refine ⟨(Xb kk hk).1, fun i hi => ?_⟩
      rw [kI _ rbm (by decide) (by decide)]
      exact (Xb kk hk).2 i hi
    have X0 : LsX x0 x2 n m g3 := by
      have z : (hI g3 x0 6).toInt = 0 := by
        rw [(fr_RI fo r_x0 (by decide) (fun _ => rfl)).1, e5]
        show (hI h4 x0 6).toInt = 0
        rw [e4, r_I, if_neg (fun z => absurd z.2 (by decide)), e3, r_I, if_pos ⟨rfl, rfl⟩]
        rfl
      exact ⟨by rw [z]; exact Int.le_refl 0, fun i hi => by omega⟩
    refine cx_39 hF m3 m4 (pmA_s hA' rfl) hi_1503 i_x3 F To (lw_fr T5 fo (fun _ => rfl) (fun _ => rfl) (fun _ => rfl) lw5) ?_ CC X0 (rg_m (rg_b rfl : Rg 0 0 (0 : Int32)) (by decide)) (by rw [z0]; omega)
    intro b eb
    rw [Eo] at eb
    have hb := Option.some.inj eb
    subst hb
    refine ⟨fun z => nw_x1_1503 (o_x1.symm.trans z), fun on s eo hs hbt => ?_, fun ra era i hi n L' rL' wL' => ?_⟩
    · rw [e9] at hbt
      have := th_ps To r_x1 eo ef hs (show (hI g3 x1 5).toNatClampNeg < 2 by have := rg_clamp (n := 1) isd (by decide); omega) hbt
      exact ⟨this.1, this.2.2⟩
    · rw [(fr_RI fo r_x1 (by decide) (fun _ => rfl)).2.2, R1] at era
      have rra : ρ ra = 36 := rr T (thR T r_x1 (i := 2) (k2 := 36) rfl (by decide)) era
      rw [(fr_RI fo rra (by decide) (fun _ => rfl)).1, (ne rra (by decide)).1] at n
      rw [(fr_RI fo rL' (by decide) (fun _ => rfl)).1, (ne rL' (by decide)).1]
      exact rt ra era i hi n L' rL' wL'
  refine s_ref eL ?_
  unfold sX5_begin_49
  refine s_br (fun _ => rest (rg_m (rg_b rfl : Rg 1 1 (1 : Int32)) (by decide))) (fun _ => ?_)
  refine s_ref eL ?_
  refine s_dI0 (zX1_has hF T5 rL (rg_m (rg_b rfl : Rg 12 12 (12 : Int32)) (by decide))) (fun o9 _ e9 _ => ?_)
  obtain ⟨a9, g9⟩ := o9
  replace e9 : g9 = h5 := e9
  subst e9
  refine s_br (fun _ => rest (rg_m (rg_b rfl : Rg 1 1 (1 : Int32)) (by decide))) (fun _ => rest (rg_m (rg_b rfl : Rg 0 0 (0 : Int32)) (by decide)))
end
section
/-! places keep to the law: settle, go -/
section
variable {ρ : Nat → Nat} {c : Cm} {h o g : Hp} {x0 p q b L F : Nat} {n m : Int} {x1 x2 x3 : Int32}
/-- the row of a copy keeps to the law -/
theorem copy_on {on on2 : Nat} (P : PR ρ p h) (eq : hR h q 0 = some on) (ep : hR h p 0 = some on2) (X : OnX n m on h) (e : sX3_copyFrom F h p q = some o) : OnX n m on2 o := by
  unfold sX3_copyFrom at e
  replace e := cl_s e
  obtain ⟨r1, e1, e⟩ := e
  have y1 : r1 = on := r_eq eq e1
  subst y1
  replace e := cl_s e
  obtain ⟨r2, e2, e⟩ := e
  have y2 : r2 = on2 := r_eq ep e2
  subst y2
  have q2 := P.2.1 r2 e2
  iterate 6 replace e := (gd_s e).2
  replace e := nm_s e
  obtain ⟨h9, w9, e⟩ := e
  have k9 : ∀ a i, hR h9 a i = hR h a i := fun a i => by rw [w9]; rfl
  have X9 : OnX n m r2 h9 := fun s hs z => by
    have u0 : (0 : Int32).toNatClampNeg = 0 := rfl
    have u64 : (64 : Int32).toNatClampNeg = 64 := rfl
    have v : hI h9 r2 s = hI h r1 s := by
      rw [w9, cp_at, if_pos ⟨rfl, by omega, by omega⟩, u0]
      show hI h r1 (0 + (s - 0)) = _
      have : 0 + (s - 0) = s := by omega
      rw [this]
    rw [v] at z ⊢
    exact X s hs z
  exact on_k q2 (cfx_17 F (pr_k k9 P) e) X9
theorem pr_th (T : TH ρ c h) (rp : ρ p = 4) : PR ρ p h := ⟨rp, fun _ e => rr T (thR T rp (i := 0) (k2 := 34) rfl (by decide)) e, fun _ e => rr T (thR T rp (i := 2) (k2 := 36) rfl (by decide)) e, fun _ e => rr T (thR T rp (i := 4) (k2 := 38) rfl (by decide)) e⟩
theorem law_1 (T : TH ρ c h) {L' : Nat} (rL : ρ L = 2) (wL : cw c L = 2102) (rL' : ρ L' = 2) (wL' : cw c L' = 2102) : L' = L := T.1.2.2.2.2.2.2.2.2 L' L (by rw [rL, rL']) (Or.inr ⟨Or.inr rL', by rw [wL, wL']⟩)
theorem pox_of (T : TH ρ c h) (rL : ρ L = 2) (wL : cw c L = 2102) (H : ∀ on, hR h b 0 = some on → OnX (hI h L 2).toInt (hI h L 3).toInt on h) : PoX ρ c b h := fun L' on s rL' wL' eo hs z => by
  rw [law_1 T rL wL rL' wL']
  exact H on eo s hs z
/-- what keeps to the law keeps to it behind such a change -/
theorem pox_k (k : PxC ρ n m h o) (T : TH ρ c h) (rb : ρ b = 4) (rL : ρ L = 2) (wL : cw c L = 2102) (en : n = (hI h L 2).toInt) (em : m = (hI h L 3).toInt) (P : PoX ρ c b h) : PoX ρ c b o := fun L' on s rL' wL' eo hs z => by
  rw [law_1 T rL wL rL' wL', k.2.1 L 2 (by rw [rL]; rfl), k.2.1 L 3 (by rw [rL]; rfl)]
  rw [k.1] at eo
  have qo := th_on T rb eo
  have X : OnX n m on h := fun s hs z => by rw [en, em]; exact P L on s rL wL eo hs z
  have := on_k qo k X s hs z
  rw [en, em] at this
  exact this
theorem plx_k (k : PxC ρ n m h o) (T : TH ρ c h) (r0 : ρ x0 = 12) (rL : ρ L = 2) (wL : cw c L = 2102) (en : n = (hI h L 2).toInt) (em : m = (hI h L 3).toInt) (P : PlX ρ c x0 h) : PlX ρ c x0 o := fun r u er eu i hi nu b eb => by
  rw [k.1] at er eu eb
  have rr' : ρ r = 57 := rr T (thR T r0 (i := 13) (k2 := 57) rfl (by decide)) er
  have ru : ρ u = 58 := rr T (thR T r0 (i := 14) (k2 := 58) rfl (by decide)) eu
  rw [k.2.1 u i (by rw [ru]; rfl)] at nu
  exact pox_k k T (pl_b T rr' hi eb) rL wL en em (P r u er eu i hi nu b eb)
theorem plx_fr {S : Nat → Nat → Nat → Bool} (T : TH ρ c h) (r0 : ρ x0 = 12) (f : Fr ρ (cat c S h) h o) (s13 : ∀ w, S 12 w 13 = false) (s14 : ∀ w, S 12 w 14 = false) (s57 : ∀ w i, S 57 w i = false) (s58 : ∀ w i, S 58 w i = false) (s4 : S 4 3200 0 = false) (s34 : ∀ i, S 34 3200 i = false) (s2 : ∀ w, S 2 w 2 = false) (s3 : ∀ w, S 2 w 3 = false) (P : PlX ρ c x0 h) : PlX ρ c x0 o := fun r u er eu i hi nu b eb L on s rL wL eo hs z => by
  rw [(fr_RI f r0 (by decide) s13).2.2] at er
  rw [(fr_RI f r0 (by decide) s14).2.2] at eu
  have rr' : ρ r = 57 := rr T (thR T r0 (i := 13) (k2 := 57) rfl (by decide)) er
  have ru : ρ u = 58 := rr T (thR T r0 (i := 14) (k2 := 58) rfl (by decide)) eu
  rw [(fr_RI f rr' (by decide) (fun _ => s57 _ _)).2.2] at eb
  rw [(fr_RI f ru (by decide) (fun _ => s58 _ _)).1] at nu
  have rb := pl_b T rr' hi eb
  have wb : cw c b = 3200 := kid_w T rr' (i := i) rfl (by decide) eb
  rw [(f.1 b 0 (by rw [rb]; decide) (by rw [rb]; show S 4 (cw c b) 0 = false; rw [wb]; exact s4)).2.2] at eo
  have qo := th_on T rb eo
  have wo : cw c on = 3200 := th_ih T rb rfl eo wb
  rw [fr_I f qo (by decide) wo (s34 s)] at z ⊢
  rw [(fr_RI f rL (by decide) s2).1, (fr_RI f rL (by decide) s3).1]
  exact P r u er eu i hi nu b eb L on s rL wL eo hs z
theorem settle_x (T : TH ρ c h) (r0 : ρ x0 = 12) (rq : ρ q = 4) (i1 : Rg 0 59 x1) (P : PlX ρ c x0 h) (X : PoX ρ c q h) (e : sX11_settle F h x0 x1 q = some o) : PlX ρ c x0 o := by
  obtain ⟨L, eL, rL⟩ := thR T r0 (i := 2) (k2 := 2) rfl (by decide)
  have wL : cw c L = 2102 := kid_w T r0 (i := 2) (w := 2102) rfl (by decide) eL
  obtain ⟨n, en⟩ : ∃ n : Int, n = (hI h L 2).toInt := ⟨_, rfl⟩
  obtain ⟨m, em⟩ : ∃ m : Int, m = (hI h L 3).toInt := ⟨_, rfl⟩
  have l60 : x1.toNatClampNeg < 60 := by have := rg_clamp (n := 59) i1 (by decide); omega
  obtain ⟨on, eo, qo⟩ := thR T rq (i := 0) (k2 := 34) rfl (by decide)
  unfold sX11_settle at e
  replace e := cl_s e
  obtain ⟨u, eu, e⟩ := e
  have ru : ρ u = 58 := rr T (thR T r0 (i := 14) (k2 := 58) rfl (by decide)) eu
  replace e := (gd_s e).2
  replace e := nm_s e
  obtain ⟨h3, w3, e⟩ := e
  have kR : ∀ a i, hR h3 a i = hR h a i := fun a i => by rw [w3]; rfl
  have kI : ∀ {a k : Nat} (i : Nat), ρ a = k → k ≠ 58 → hI h3 a i = hI h a i := fun {a k} i ra hk => by rw [w3, r_I, if_neg (ne_r ra ru hk)]
  replace e := cl_s e
  obtain ⟨r, er, e⟩ := e
  rw [kR] at er
  have rr' : ρ r = 57 := rr T (thR T r0 (i := 13) (k2 := 57) rfl (by decide)) er
  replace e := (gd_s e).2
  replace e := cl_s e
  obtain ⟨d, ed, e⟩ := e
  rw [kR] at ed
  have rd := pl_b T rr' l60 ed
  have wd : cw c d = 3200 := kid_w T rr' (i := x1.toNatClampNeg) rfl (by decide) ed
  replace e := cl_s e
  obtain ⟨o7, e7, e⟩ := e
  have z := Option.some.inj e
  subst z
  have X3 : OnX n m on h3 := fun s hs z => by
    rw [kI s qo (by decide)] at z ⊢
    rw [en, em]
    exact X L on s rL wL eo hs z
  have Pd : PR ρ d h3 := pr_k kR (pr_th T rd)
  have k7 := copy_x (m := m) (n := n) Pd (by rw [kR]; exact eo) X3 e7
  obtain ⟨ond, eod, qod⟩ := thR T rd (i := 0) (k2 := 34) rfl (by decide)
  have Xd := copy_on (m := m) (n := n) Pd (by rw [kR]; exact eo) (by rw [kR]; exact eod) X3 e7
  intro r' u' er' eu' i hi nu b' eb' L' on' s rL' wL' eo' hs zz
  rw [k7.1, kR] at er' eu' eb' eo'
  have y1 : r' = r := r_eq er er'
  have y2 : u' = u := r_eq eu eu'
  subst y1; subst y2
  have y3 : L' = L := law_1 T rL wL rL' wL'
  subst y3
  have iL : ∀ j, hI o7 L' j = hI h L' j := fun j => by rw [k7.2.1 L' j (by rw [rL']; rfl)]; exact kI j rL' (by decide)
  rw [iL, iL, ← en, ← em]
  have rb' := pl_b T rr' hi eb'
  by_cases v : i = x1.toNatClampNeg
  · rw [v] at eb'
    have y4 : b' = d := r_eq ed eb'
    subst y4
    have y5 : on' = ond := r_eq eod eo'
    subst y5
    exact Xd s hs zz
  · have nu' : ¬ hI h u' i = 0 := fun w => nu (by
      rw [k7.2.1 u' i (by rw [ru]; rfl), w3, r_I, if_neg (fun y => v y.2)]
      exact w)
    have qo' := th_on T rb' eo'
    have Xb : OnX n m on' h3 := fun s hs z => by
      rw [kI s qo' (by decide)] at z ⊢
      rw [en, em]
      exact P r' u' er' eu' i hi nu' b' eb' L' on' s rL wL eo' hs z
    exact on_k qo' k7 Xb s hs zz
end
end
