/-! drops, castling, what is kept of a list -/
section
variable {ρ : Nat → Nat} {c : Cm} {h o g : Hp} {x0 L wy b r a0 a1 on bm bc sh p q F : Nat} {n m : Int} {x1 x2 x3 v : Int32}
theorem inh_h {o : Int32 × Hp} (e : sX3_inHand h p x1 x2 = some o) : o.2 = h := by
  unfold sX3_inHand at e
  replace e := cl_s e
  obtain ⟨_, _, e⟩ := e
  rw [← Option.some.inj (gd_s e).2]
theorem dr_46 (i1 : Rg 0 63 x1) (l1 : x1.toInt < n) : ∀ (f : Nat) {h o : Hp} {x3 : Int32}, CoB ρ x0 L wy b r a0 a1 on bm bc n m h → LsX x0 r n m h → 0 ≤ x3.toInt → sX5_addDrops_46 F f h x0 x1 x2 x3 = some o → LO ρ x0 r n m h o := by
  intro f
  induction f with
  | zero => intro h o x3 _ _ _ e; exact absurd e (by rw [sX5_addDrops_46]; exact fun z => nomatch z)
  | succ f ih =>
    intro h o x3 B X a3 e
    rw [sX5_addDrops_46] at e
    unfold sX5_addDrops_101 at e
    have B' := B
    obtain ⟨⟨e0, e1, e4, e5, f0, f1, eo, g17, g18⟩, ⟨r0, rL, rw', rb, rr', q0, q1, qo, m1, c1⟩, W, O, XB, m12, n64, eL2, eL3⟩ := B
    have i10 := i1.1
    replace e := cl_s e
    obtain ⟨r1, h1, e⟩ := e
    have y1 : r1 = L := r_eq e0 h1
    subst y1
    replace e := br_s e
    rcases e with ⟨_, e⟩ | ⟨l, e⟩
    · rw [← Option.some.inj e]; exact lo_0 X
    have l := nle_i l
    rw [eL3] at l
    have i3 : Rg 0 11 x3 := ⟨a3, by omega⟩
    have t3 : (x3 + (1 : Int32)).toInt = x3.toInt + 1 := (nc_s i3 (by decide)).2
    replace e := cl_s e
    obtain ⟨_, _, e⟩ := e
    replace e := cl_s e
    obtain ⟨_, _, e⟩ := e
    replace e := cl_s e
    obtain ⟨o5, e5', e⟩ := e
    rw [inh_h e5'] at e
    have nx : ∀ {g : Hp}, CoB ρ x0 r1 wy b r a0 a1 on bm bc n m g → LsX x0 r n m g → (nm (x3 + (1 : Int32)) fun v_1 => sX5_addDrops_46 F f g x0 x1 x2 v_1) = some o → LO ρ x0 r n m g o := fun {g} Bg Xg e => by
      replace e := nm_s e
      obtain ⟨y, ey, e⟩ := e
      have ty : y.toInt = x3.toInt + 1 := by rw [ey]; exact t3
      clear ey
      exact ih Bg Xg (by omega) e
    have b90 : sX5_addDrops_90 F (sX5_addDrops_46 F f) h x0 x1 x2 x3 = some o → LO ρ x0 r n m h o := fun e => by
      unfold sX5_addDrops_90 sX5_addDrops_101 at e
      replace e := cl_s e
      obtain ⟨o1, e1', e⟩ := e
      have q1 : o1.2 = h ∧ MvX n m o1.1 := by
        unfold sX5_plainMove at e1'
        rw [← Option.some.inj e1']
        have z0 : (0 : Int32).toInt = 0 := rfl
        exact ⟨rfl, (mvx_plain (x0 := (0 : Int32)) (rg_m (rg_b rfl : Rg 0 0 (0 : Int32)) (by decide)) i1 i3 (rg_m (rg_b rfl : Rg 3 3 (3 : Int32)) (by decide)) (by rw [z0]; omega) l1 l).1⟩
      clear e1'
      rw [q1.1] at e
      replace e := cl_s e
      obtain ⟨o2, e2, e⟩ := e
      have A := addm_l r0 rr' e5 X q1.2 e2
      exact lo_t A (nx (cob_k A.1 B') A.2.1 e)
    replace e := br_s e
    rcases e with ⟨_, e⟩ | ⟨_, e⟩
    · exact nx B' X e
    replace e := br_s e
    rcases e with ⟨_, e⟩ | ⟨_, e⟩
    · exact b90 e
    replace e := cl_s e
    obtain ⟨_, _, e⟩ := e
    replace e := cl_s e
    obtain ⟨o9, e9, e⟩ := e
    rw [bo_h e9] at e
    replace e := br_s e
    rcases e with ⟨_, e⟩ | ⟨_, e⟩
    · exact b90 e
    · exact nx B' X e
theorem drops_l (B : CoB ρ x0 L wy b r a0 a1 on bm bc n m h) (X : LsX x0 r n m h) (i1 : Rg 0 63 x1) (l1 : x1.toInt < n) (e : sX5_addDrops F h x0 x1 = some o) : LO ρ x0 r n m h o := by
  unfold sX5_addDrops sX5_addDrops_38 sX5_addDrops_43 at e
  replace e := cl_s e
  obtain ⟨_, _, e⟩ := e
  replace e := cl_s e
  obtain ⟨_, _, e⟩ := e
  replace e := (gd_s e).2
  replace e := br_s e
  rcases e with ⟨_, e⟩ | ⟨_, e⟩
  · replace e := cl_s e
    obtain ⟨_, _, e⟩ := e
    replace e := cl_s e
    obtain ⟨o6, e6, e⟩ := e
    rw [il_h e6] at e
    replace e := br_s e
    rcases e with ⟨_, e⟩ | ⟨_, e⟩
    · replace e := cl_s e
      obtain ⟨_, _, e⟩ := e
      replace e := cl_s e
      obtain ⟨o9, e9, e⟩ := e
      rw [il_h e9] at e
      replace e := br_s e
      rcases e with ⟨_, e⟩ | ⟨_, e⟩
      · exact dr_46 i1 l1 F B X (by decide) e
      · exact dr_46 i1 l1 F B X (by decide) e
    · exact dr_46 i1 l1 F B X (by decide) e
  · rw [← Option.some.inj e]; exact lo_0 X
/-- two moves of a list change places -/
theorem ca_152 (r0 : ρ x0 = 6) (rr' : ρ r = 47) (a3 : 0 ≤ x3.toInt) : ∀ (f : Nat) {h o : Hp} {x6 : Int32}, hR h x0 5 = some r → LsX x0 r n m h → x6.toInt < (hI h x0 6).toInt → sX5_addCastling_152 F f h x0 x3 x6 = some o → LO ρ x0 r n m h o := by
  intro f
  induction f with
  | zero => intro h o x6 _ _ _ e; exact absurd e (by rw [sX5_addCastling_152]; exact fun z => nomatch z)
  | succ f ih =>
    intro h o x6 e5 X l6 e
    rw [sX5_addCastling_152] at e
    unfold sX5_addCastling_225 at e
    replace e := br_s e
    rcases e with ⟨_, e⟩ | ⟨l, e⟩
    · rw [← Option.some.inj e]; exact lo_0 X
    have l := nle_i l
    have z1 : (1 : Int32).toInt = 1 := rfl
    have top := (rg_top (hI h x0 6)).2
    have d1 : (x6 - (1 : Int32)).toInt = x6.toInt - 1 := by rw [ts (by rw [z1]; omega), z1]
    have d2 : (x6 + (-1 : Int32)).toInt = x6.toInt - 1 := rg_dec (a := 0) (b := 2147483647) ⟨by omega, by omega⟩ (by decide)
    have k1 := clamp_i (v := x6 - (1 : Int32)) (by omega)
    have k6 := clamp_i (v := x6) (by omega)
    replace e := cl_s e
    obtain ⟨_, _, e⟩ := e
    replace e := (gd_s e).2
    replace e := cl_s e
    obtain ⟨o4, e4, e⟩ := e
    have q4 : o4.2 = h := by unfold sX5_comeTo at e4; rw [← Option.some.inj e4]
    rw [q4] at e
    replace e := cl_s e
    obtain ⟨_, _, e⟩ := e
    replace e := (gd_s e).2
    replace e := cl_s e
    obtain ⟨o7, e7, e⟩ := e
    have q7 : o7.2 = h := by unfold sX5_comeTo at e7; rw [← Option.some.inj e7]
    rw [q7] at e
    replace e := br_s e
    rcases e with ⟨_, e⟩ | ⟨_, e⟩
    · rw [← Option.some.inj e]; exact lo_0 X
    replace e := cl_s e
    obtain ⟨r9, h9, e⟩ := e
    have y9 : r9 = r := r_eq e5 h9
    subst y9
    replace e := (gd_s e).2
    replace e := nm_s e
    obtain ⟨v11, w11, e⟩ := e
    replace e := cl_s e
    obtain ⟨r12, h12, e⟩ := e
    have y12 : r12 = r9 := r_eq e5 h12
    subst y12
    replace e := cl_s e
    obtain ⟨r13, h13, e⟩ := e
    have y13 : r13 = r12 := r_eq e5 h13
    subst y13
    replace e := (gd_s (gd_s e).2).2
    replace e := nm_s e
    obtain ⟨h16, w16, e⟩ := e
    replace e := cl_s e
    obtain ⟨r17, h17, e⟩ := e
    have y17 : r17 = r13 := r_eq e5 (by rw [w16] at h17; exact h17)
    subst y17
    replace e := (gd_s e).2
    replace e := nm_s e
    obtain ⟨h19, w19, e⟩ := e
    replace e := nm_s e
    obtain ⟨v20, w20, e⟩ := e
    have t20 : v20.toInt = x6.toInt - 1 := by rw [w20]; exact d2
    clear w20 d2
    have nr : ¬ x0 = r17 := ne_r' r0 rr' (by decide)
    have K16 : KL6 ρ h h16 := by rw [w16]; exact k6_I (Or.inl rr')
    have K19 : KL6 ρ h16 h19 := by rw [w19]; exact k6_I (Or.inl rr')
    have c6 : hI h19 x0 6 = hI h x0 6 := by rw [w19, r_I, if_neg (fun z => nr z.1), w16, r_I, if_neg (fun z => nr z.1)]
    have X19 : LsX x0 r17 n m h19 := by
      unfold LsX
      rw [c6]
      refine ⟨X.1, fun i hi => ?_⟩
      rw [w19, r_I]
      split
      · rw [w11]; exact X.2 _ (by omega)
      · rw [w16, r_I]
        split
        · exact X.2 _ (by omega)
        · exact X.2 i hi
    obtain ⟨p1, p2, p3⟩ := ih (h := h19) (by rw [K19.1, K16.1]; exact e5) X19 (by rw [c6]; omega) e
    exact ⟨k6_t (k6_t K16 K19) p1, p2, by rw [c6] at p3; exact p3⟩
theorem castl_l (hF : 700000 ≤ F) (T : TH ρ c h) (B : CoB ρ x0 L wy b r a0 a1 on bm bc n m h) (X : LsX x0 r n m h) (i1 : Rg 0 63 x1) (l1 : x1.toInt < n) (sq : SqB (c.2.1 50) x1) (i2 : Rg (-1) 1 x2) (hd : x2.toInt = 1 ∨ x2.toInt = -1) (a3 : 0 ≤ x3.toInt) (ry : 0 ≤ (hI h L 4).toInt) (rm : (hI h L 4).toInt < m) (e : sX5_addCastling F h x0 x1 x2 x3 = some o) : LO ρ x0 r n m h o := by
  obtain ⟨⟨e0, e1, e4, e5, f0, f1, eo, g17, g18⟩, ⟨r0, rL, rw', rb, rr', q0, q1, qo, m1, c1⟩, W, O, XB, m12, n64, eL2, eL3⟩ := B
  unfold sX5_addCastling sX5_addCastling_73 sX5_addCastling_122 at e
  replace e := cl_s e
  obtain ⟨_, _, e⟩ := e
  replace e := nm_s e
  obtain ⟨v2, _, e⟩ := e
  replace e := cl_s e
  obtain ⟨r3, h3, e⟩ := e
  have y3 : r3 = b := r_eq e4 h3
  subst y3
  replace e := cl_s e
  obtain ⟨o4, e4', e⟩ := e
  have N := sat_e (zX5_nearest hF T r0 rb i1 i2 sq hd) e4'
  obtain ⟨⟨q4, i4⟩, N⟩ := N
  rw [q4] at e
  replace e := br_s e
  rcases e with ⟨_, e⟩ | ⟨n4, e⟩
  · rw [← Option.some.inj e]; exact lo_0 X
  have i4' : Rg 0 63 o4.1 := rg_nlo n4 i4 (rg_b rfl : Rg (-1) (-1) (-1 : Int32))
  have a40 := i4'.1
  have a41 := i4'.2
  have a10 := i1.1
  have a11 := i1.2
  replace e := br_s e
  rcases e with ⟨_, e⟩ | ⟨far, e⟩
  · rw [← Option.some.inj e]; exact lo_0 X
  have far := nlt_i far
  have z3 : (3 : Int32).toInt = 3 := rfl
  have z0 : (0 : Int32).toInt = 0 := rfl
  have z2 : (2 : Int32).toInt = 2 := rfl
  have ds : (o4.1 - x1).toInt = o4.1.toInt - x1.toInt := ts (by omega)
  have fa : 3 ≤ o4.1.toInt - x1.toInt ∨ 3 ≤ x1.toInt - o4.1.toInt := by
    by_cases z : (0 : Int32) ≤ o4.1 - x1
    · rw [if_pos z, ds] at far; exact Or.inl (by omega)
    · rw [if_neg z] at far
      have : ((0 : Int32) - (o4.1 - x1)).toInt = -(o4.1.toInt - x1.toInt) := by rw [ts (by rw [ds, z0]; omega), ds, z0]; omega
      exact Or.inr (by omega)
  replace e := cl_s e
  obtain ⟨_, _, e⟩ := e
  replace e := cl_s e
  obtain ⟨r8, h8, e⟩ := e
  have y8 : r8 = r3 := r_eq e4 h8
  subst y8
  replace e := cl_s e
  obtain ⟨r9, h9, e⟩ := e
  replace e := cl_s e
  obtain ⟨r10, h10, e⟩ := e
  have y10 : r10 = r8 := r_eq e4 h10
  subst y10
  replace e := (gd_s e).2
  replace e := br_s e
  rcases e with ⟨_, e⟩ | ⟨nb, e⟩
  · rw [← Option.some.inj e]; exact lo_0 X
  have isd := thI T rb (k := 4) (i := 5) (lo := 0) (hi := 1) rfl
  have cd := clamp_i isd.1
  have isd1 := isd.2
  have c4 := clamp_i a40
  have l4 : o4.1.toInt < n := by
    obtain ⟨j, hj, pj, _⟩ := low_bit (cmp0 nb)
    rw [bj_and, Bool.and_eq_true, bj_one i4', decide_eq_true_eq, bj_and, Bool.and_eq_true] at pj
    obtain ⟨⟨_, pj1⟩, pj2⟩ := pj
    rw [← pj2] at pj1
    have := (th_ps T rb eo h9 (by omega) (by omega) pj1).1
    have := (O o4.1.toNatClampNeg (by omega) this).1
    omega
  have tt : (x1 + ((2 : Int32) * x2)).toInt = x1.toInt + 2 * x2.toInt := by
    have t1 : ((2 : Int32) * x2).toInt = 2 * x2.toInt := by rw [tm (by rw [z2]; omega), z2]
    rw [ta (by rw [t1]; omega), t1]
  have lt : 0 ≤ x1.toInt + 2 * x2.toInt ∧ x1.toInt + 2 * x2.toInt < n := by
    rcases N with N | N | N
    · omega
    · omega
    · omega
  have skip : ∀ {o1 : Hp}, (some h : Option Hp) = some o1 → LO ρ x0 r n m h o1 := fun z => by rw [← Option.some.inj z]; exact lo_0 X
  replace e := cl_s e
  obtain ⟨_, _, e⟩ := e
  replace e := cl_s e
  obtain ⟨o14, e14, e⟩ := e
  rw [hit_h e14] at e
  replace e := br_s e
  rcases e with ⟨_, e⟩ | ⟨_, e⟩
  · replace e := cl_s e
    obtain ⟨_, _, e⟩ := e
    replace e := cl_s e
    obtain ⟨o17, e17, e⟩ := e
    rw [hit_h e17] at e
    replace e := br_s e
    rcases e with ⟨_, e⟩ | ⟨_, e⟩
    · replace e := cl_s e
      obtain ⟨_, _, e⟩ := e
      replace e := cl_s e
      obtain ⟨o20, e20, e⟩ := e
      rw [hit_h e20] at e
      replace e := br_s e
      rcases e with ⟨_, e⟩ | ⟨_, e⟩
      · replace e := cl_s e
        obtain ⟨r22, h22, e⟩ := e
        have y22 : r22 = L := r_eq e0 h22
        subst y22
        replace e := cl_s e
        obtain ⟨o23, e23, e⟩ := e
        have q23 : o23.2 = h ∧ MvX n m o23.1 := by
          unfold sX5_plainMove at e23
          rw [← Option.some.inj e23]
          exact ⟨rfl, (mvx_plain (x1 := x1 + ((2 : Int32) * x2)) i1 ⟨by omega, by omega⟩ ⟨ry, by omega⟩ (rg_m (rg_b rfl : Rg 2 2 (2 : Int32)) (by decide)) l1 (by omega) rm).1⟩
        clear e23
        rw [q23.1] at e
        replace e := cl_s e
        obtain ⟨o24, e24, e⟩ := e
        have A := addm_l r0 rr' e5 X q23.2 e24
        replace e := nm_s e
        obtain ⟨v25, w25, e⟩ := e
        have z1 : (1 : Int32).toInt = 1 := rfl
        have c24 := A.2.1.1
        have t25 : v25.toInt = (hI o24 x0 6).toInt - 1 := by rw [w25, ts (by rw [z1]; have := (rg_top (hI o24 x0 6)).2; omega), z1]
        clear w25
        exact lo_t A (ca_152 r0 rr' a3 F (by rw [A.1.1]; exact e5) A.2.1 (by omega) e)
      · exact skip e
    · exact skip e
  · exact skip e
theorem kt_4 (r0 : ρ x0 = 6) (rr' : ρ r = 47) : ∀ (f : Nat) {h o : Hp} {x1 x2 : Int32}, hR h x0 5 = some r → LsX x0 r n m h → 0 ≤ x1.toInt → x1.toInt ≤ x2.toInt → x1.toInt ≤ (hI h x0 6).toInt → sX5_keepTakes_4 F f h x0 x1 x2 = some o → LsX x0 r n m o := by
  intro f
  induction f with
  | zero => intro h o x1 x2 _ _ _ _ _ e; exact absurd e (by rw [sX5_keepTakes_4]; exact fun z => nomatch z)
  | succ f ih =>
    intro h o x1 x2 e5 X a1 l12 l1 e
    rw [sX5_keepTakes_4] at e
    unfold sX5_keepTakes_40 at e
    have nr : ¬ x0 = r := ne_r' r0 rr' (by decide)
    replace e := br_s e
    rcases e with ⟨_, e⟩ | ⟨l, e⟩
    · replace e := nm_s e
      obtain ⟨h2, w2, e⟩ := e
      rw [← Option.some.inj e]
      have k6 : hI h2 x0 6 = x1 := by rw [w2, r_I, if_pos ⟨rfl, rfl⟩]
      unfold LsX
      rw [k6]
      refine ⟨a1, fun i hi => ?_⟩
      rw [w2, r_I, if_neg (fun z => nr z.1.symm)]
      exact X.2 i (by omega)
    have l := nle_i l
    have z1 : (1 : Int32).toInt = 1 := rfl
    have top := (rg_top (hI h x0 6)).2
    replace e := cl_s e
    obtain ⟨r3, h3, e⟩ := e
    replace e := (gd_s e).2
    replace e := cl_s e
    obtain ⟨o5, e5', e⟩ := e
    rw [tkn_h e5'] at e
    have t2 : (x2 + (1 : Int32)).toInt = x2.toInt + 1 := by rw [ta (by rw [z1]; omega), z1]
    replace e := br_s e
    rcases e with ⟨_, e⟩ | ⟨_, e⟩
    · replace e := nm_s e
      obtain ⟨y, ey, e⟩ := e
      have ty : y.toInt = x2.toInt + 1 := by rw [ey]; exact t2
      clear ey
      exact ih e5 X a1 (by omega) l1 e
    replace e := cl_s e
    obtain ⟨r7, h7, e⟩ := e
    have y7 : r7 = r := r_eq e5 h7
    subst y7
    replace e := cl_s e
    obtain ⟨r8, h8, e⟩ := e
    have y8 : r8 = r7 := r_eq e5 h8
    subst y8
    replace e := (gd_s (gd_s e).2).2
    replace e := nm_s e
    obtain ⟨h11, w11, e⟩ := e
    replace e := nm_s e
    obtain ⟨v12, w12, e⟩ := e
    have t12 : v12.toInt = x1.toInt + 1 := by rw [w12, ta (by rw [z1]; omega), z1]
    clear w12
    replace e := nm_s e
    obtain ⟨y, ey, e⟩ := e
    have ty : y.toInt = x2.toInt + 1 := by rw [ey]; exact t2
    clear ey
    have c2 := clamp_i (v := x2) (by omega)
    have k6 : hI h11 x0 6 = hI h x0 6 := by rw [w11, r_I, if_neg (fun z => nr z.1)]
    refine ih (h := h11) (by rw [w11]; exact e5) ?_ (by omega) (by omega) (by rw [k6]; omega) e
    unfold LsX
    rw [k6]
    refine ⟨X.1, fun i hi => ?_⟩
    rw [w11, r_I]
    split
    · exact X.2 _ (by omega)
    · exact X.2 i hi
theorem takes_l (r0 : ρ x0 = 6) (rr' : ρ r = 47) (e5 : hR h x0 5 = some r) (X : LsX x0 r n m h) (e : sX5_keepTakes F h x0 = some o) : LsX x0 r n m o := by
  unfold sX5_keepTakes at e
  exact kt_4 r0 rr' F (x1 := (0 : Int32)) (x2 := (0 : Int32)) e5 X (by decide) (by decide) X.1 e
end
