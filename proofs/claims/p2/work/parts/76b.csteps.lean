/-! steps of the law's men -/
def BcX (bm bc : Nat) (m : Int) (h : Hp) : Prop := ∀ k : Nat, k < 12 → (hI h bc k).toInt ≤ 6 ∧ ∀ i : Nat, (i : Int) < (hI h bc k).toInt → 0 ≤ (hI h bm (6 * k + i)).toInt ∧ (hI h bm (6 * k + i)).toInt < m
def CoB (ρ : Nat → Nat) (x0 L wy b r a0 a1 on bm bc : Nat) (n m : Int) (h : Hp) : Prop := (hR h x0 0 = some L ∧ hR h x0 1 = some wy ∧ hR h x0 4 = some b ∧ hR h x0 5 = some r ∧ hR h wy 0 = some a0 ∧ hR h wy 1 = some a1 ∧ hR h b 0 = some on ∧ hR h L 17 = some bm ∧ hR h L 18 = some bc) ∧ (ρ x0 = 6 ∧ ρ L = 2 ∧ ρ wy = 11 ∧ ρ b = 4 ∧ ρ r = 47 ∧ ρ a0 = 50 ∧ ρ a1 = 51 ∧ ρ on = 34 ∧ (¬ ρ bm = 47 ∧ ¬ ρ bm = 6) ∧ (¬ ρ bc = 47 ∧ ¬ ρ bc = 6)) ∧ WyS wy a0 a1 n (2 * m * 4096 + 1).toNat h ∧ OnX n m on h ∧ BcX bm bc m h ∧ m ≤ 12 ∧ n ≤ 64 ∧ (hI h L 2).toInt = n ∧ (hI h L 3).toInt = m
section
variable {ρ : Nat → Nat} {c : Cm} {h o g : Hp} {x0 L wy b r a0 a1 on bm bc p F : Nat} {n m : Int} {x1 x2 x3 v : Int32}
theorem cob_k (k : KL6 ρ h o) (B : CoB ρ x0 L wy b r a0 a1 on bm bc n m h) : CoB ρ x0 L wy b r a0 a1 on bm bc n m o := by
  obtain ⟨⟨e0, e1, e4, e5, f0, f1, eo, g17, g18⟩, ⟨r0, rL, rw', rb, rr', q0, q1, qo, ⟨m1, m2⟩, ⟨c1, c2⟩⟩, W, O, X, m12, n64, eL2, eL3⟩ := B
  have iL : ∀ i, hI o L i = hI h L i := fun i => k.2.1 L i (by rw [rL]; decide) (by rw [rL]; decide)
  refine ⟨⟨by rw [k.1]; exact e0, by rw [k.1]; exact e1, by rw [k.1]; exact e4, by rw [k.1]; exact e5, by rw [k.1]; exact f0, by rw [k.1]; exact f1, by rw [k.1]; exact eo, by rw [k.1]; exact g17, by rw [k.1]; exact g18⟩, ⟨r0, rL, rw', rb, rr', q0, q1, qo, ⟨m1, m2⟩, ⟨c1, c2⟩⟩, wy_e (k.2.1 wy 8 (by rw [rw']; decide) (by rw [rw']; decide)) (fun i => k.2.1 a0 i (by rw [q0]; decide) (by rw [q0]; decide)) (fun i => k.2.1 a1 i (by rw [q1]; decide) (by rw [q1]; decide)) W, fun s hs z => ?_, fun kk hk => ?_, m12, n64, by rw [iL]; exact eL2, by rw [iL]; exact eL3⟩
  · rw [k.2.1 on s (by rw [qo]; decide) (by rw [qo]; decide)] at z ⊢
    exact O s hs z
  · rw [k.2.1 bc kk c1 c2]
    refine ⟨(X kk hk).1, fun i hi => ?_⟩
    rw [k.2.1 bm _ m1 m2]
    exact (X kk hk).2 i hi
theorem open_h {x2 : Int64} {o : Int32 × Hp} (e : sX10_isOpen h p x1 x2 = some o) : o.2 = h := by
  unfold sX10_isOpen sX10_isOpen_37 sX10_isOpen_61 sX10_isOpen_62 at e
  replace e := cl_s e
  obtain ⟨_, _, e⟩ := e
  replace e := (gd_s e).2
  replace e := nm_s e
  obtain ⟨_, _, e⟩ := e
  replace e := cl_s e
  obtain ⟨_, _, e⟩ := e
  replace e := (gd_s e).2
  replace e := br_s e
  rcases e with ⟨_, e⟩ | ⟨_, e⟩
  · replace e := br_s e
    rcases e with ⟨_, e⟩ | ⟨_, e⟩
    · rw [← Option.some.inj (gd_s e).2]
    · rw [← Option.some.inj (gd_s e).2]
  replace e := br_s e
  rcases e with ⟨_, e⟩ | ⟨_, e⟩
  · rw [← Option.some.inj (gd_s e).2]
  replace e := br_s e
  rcases e with ⟨_, e⟩ | ⟨_, e⟩
  · rw [← Option.some.inj (gd_s e).2]
  · rw [← Option.some.inj (gd_s e).2]
theorem leads_h {o : Int32 × Hp} (e : sX5_leads h x0 p x2 x3 = some o) : o.2 = h := by
  have b94 : ∀ {y : Int32} {z : Int64} {o : Int32 × Hp}, sX5_leads_94 h p x3 y z = some o → o.2 = h := fun {y z o} e => by
    unfold sX5_leads_94 sX5_leads_115 sX5_leads_129 sX5_leads_138 at e
    replace e := cl_s e
    obtain ⟨_, _, e⟩ := e
    replace e := (gd_s e).2
    have fin : ∀ {t u : Int32} {o : Int32 × Hp}, br ((t &&& u) = 0) (gd ((1 : Int32) &&& 1 = 1) (some ((1 : Int32), h))) (gd ((0 : Int32) &&& 1 = 0) (some ((0 : Int32), h))) = some o → o.2 = h := fun {t u o} e => by
      replace e := br_s e
      rcases e with ⟨_, e⟩ | ⟨_, e⟩
      · rw [← Option.some.inj (gd_s e).2]
      · rw [← Option.some.inj (gd_s e).2]
    replace e := br_s e
    rcases e with ⟨_, e⟩ | ⟨_, e⟩
    · replace e := br_s e
      rcases e with ⟨_, e⟩ | ⟨_, e⟩
      · exact fin e
      · exact fin e
    · replace e := br_s e
      rcases e with ⟨_, e⟩ | ⟨_, e⟩
      · exact fin e
      · exact fin e
  unfold sX5_leads sX5_leads_62 at e
  replace e := cl_s e
  obtain ⟨_, _, e⟩ := e
  replace e := cl_s e
  obtain ⟨_, _, e⟩ := e
  replace e := (gd_s e).2
  replace e := nm_s e
  obtain ⟨_, _, e⟩ := e
  replace e := cl_s e
  obtain ⟨_, _, e⟩ := e
  replace e := cl_s e
  obtain ⟨_, _, e⟩ := e
  replace e := (gd_s e).2
  replace e := nm_s e
  obtain ⟨_, _, e⟩ := e
  replace e := cl_s e
  obtain ⟨_, _, e⟩ := e
  replace e := (gd_s e).2
  replace e := br_s e
  rcases e with ⟨_, e⟩ | ⟨_, e⟩
  · replace e := cl_s e
    obtain ⟨_, _, e⟩ := e
    replace e := cl_s e
    obtain ⟨o13, e13, e⟩ := e
    rw [occ_h e13] at e
    replace e := cl_s e
    obtain ⟨o14, e14, e⟩ := e
    rw [open_h e14] at e
    replace e := br_s e
    rcases e with ⟨_, e⟩ | ⟨_, e⟩
    · rw [← Option.some.inj e]
    replace e := br_s e
    rcases e with ⟨_, e⟩ | ⟨_, e⟩
    · exact b94 e
    replace e := br_s e
    rcases e with ⟨_, e⟩ | ⟨_, e⟩
    · replace e := br_s e
      rcases e with ⟨_, e⟩ | ⟨_, e⟩
      · exact b94 e
      · rw [← Option.some.inj e]
    · exact b94 e
  · rw [← Option.some.inj e]
theorem mva_154 {x5 x6 x9 k : Int32} {o : Int32 × Hp} (M : MvX n m x9) (K : fd 12 x9 = k) (e : sX5_moveAlong_154 h x5 x6 x9 = some o) : o.2 = h ∧ MvX n m o.1 ∧ fd 12 o.1 = k := by
  unfold sX5_moveAlong_154 sX5_moveAlong_179 sX5_moveAlong_181 at e
  replace e := br_s e
  rcases e with ⟨_, e⟩ | ⟨_, e⟩
  · rw [← Option.some.inj e]; exact ⟨rfl, M, K⟩
  replace e := br_s e
  rcases e with ⟨_, e⟩ | ⟨_, e⟩
  · rw [← Option.some.inj e]; exact ⟨rfl, M, K⟩
  · rw [← Option.some.inj e]
    obtain ⟨u1, u2⟩ := mvx_pass (y := x6) M
    exact ⟨rfl, u1, u2.trans K⟩
theorem mva_75 {x4 x5 x6 t0 : Int32} {o : Int32 × Hp} (i2 : Rg 0 63 x2) (l2 : x2.toInt < n) (i4 : Rg 0 63 x4) (l4 : x4.toInt < n) (i3 : Rg 0 23 x3) (l3 : x3.toInt < 2 * m) (e : sX5_moveAlong_75 h x0 x2 x3 x4 x5 x6 t0 = some o) : o.2 = h ∧ MvX n m o.1 ∧ fd 12 o.1 = x3 >>> ((1 : Int32) &&& 31) := by
  have i30 := i3.1
  have lk : (x3 >>> ((1 : Int32) &&& 31)).toInt < m := by rw [ti_shr1]; omega
  have ik : Rg 0 11 (x3 >>> ((1 : Int32) &&& 31)) := rg_shrk (lo := 0) (hi := 11) 1 rfl i3 (by decide)
  have b129 : ∀ {y z : Int32}, Rg 0 3 z → sX5_moveAlong_129 h x5 x6 y z (x3 >>> ((1 : Int32) &&& 31)) x4 x2 = some o → o.2 = h ∧ MvX n m o.1 ∧ fd 12 o.1 = x3 >>> ((1 : Int32) &&& 31) := fun {y z} iz e => by
    unfold sX5_moveAlong_129 sX5_plainMove at e
    replace e := cl_s e
    obtain ⟨o1, e1, e⟩ := e
    obtain ⟨P, K⟩ := mvx_plain i2 i4 ik iz l2 l4 lk
    have q2 : o1.2 = h := by rw [← Option.some.inj e1]
    have q1 : MvX n m o1.1 ∧ fd 12 o1.1 = x3 >>> ((1 : Int32) &&& 31) := by rw [← Option.some.inj e1]; exact ⟨P, K⟩
    clear e1
    rw [q2] at e
    replace e := br_s e
    rcases e with ⟨_, e⟩ | ⟨_, e⟩
    · exact mva_154 q1.1 q1.2 e
    · replace e := nm_s e
      obtain ⟨v3, w3, e⟩ := e
      obtain ⟨u1, u2⟩ := mvx_taken (y := y >>> ((1 : Int32) &&& 31)) q1.1
      exact mva_154 (by rw [w3]; exact u1) (by rw [w3]; exact u2.trans q1.2) e
  have b111 : ∀ {y : Int32}, sX5_moveAlong_111 h x2 x3 x4 x5 x6 t0 y = some o → o.2 = h ∧ MvX n m o.1 ∧ fd 12 o.1 = x3 >>> ((1 : Int32) &&& 31) := fun {y} e => by
    unfold sX5_moveAlong_111 at e
    replace e := br_s e
    rcases e with ⟨_, e⟩ | ⟨_, e⟩
    · exact b129 (rg_m (rg_b rfl : Rg 0 0 (0 : Int32)) (by decide)) e
    · exact b129 (rg_m (rg_b rfl : Rg 1 1 (1 : Int32)) (by decide)) e
  unfold sX5_moveAlong_75 at e
  replace e := br_s e
  rcases e with ⟨_, e⟩ | ⟨_, e⟩
  · replace e := cl_s e
    obtain ⟨_, _, e⟩ := e
    replace e := cl_s e
    obtain ⟨_, _, e⟩ := e
    exact b111 (gd_s e).2
  · replace e := cl_s e
    obtain ⟨_, _, e⟩ := e
    replace e := cl_s e
    obtain ⟨_, _, e⟩ := e
    replace e := cl_s e
    obtain ⟨_, _, e⟩ := e
    replace e := cl_s e
    obtain ⟨o8, e8, e⟩ := e
    have q8 : o8.2 = h := by unfold sX3_passSquare at e8; rw [← Option.some.inj e8]
    rw [q8] at e
    exact b111 (gd_s e).2
theorem mva_l {o : Int32 × Hp} (e1 : hR h x0 1 = some wy) (f1 : hR h wy 1 = some a1) (i2 : Rg 0 63 x2) (l2 : x2.toInt < n) (i3 : Rg 0 23 x3) (l3 : x3.toInt < 2 * m) (lw : ((hI h a1 x1.toNatClampNeg) &&& (63 : Int32)).toInt < n) (e : sX5_moveAlong h x0 x1 x2 x3 = some o) : o.2 = h ∧ MvX n m o.1 ∧ fd 12 o.1 = x3 >>> ((1 : Int32) &&& 31) := by
  unfold sX5_moveAlong sX5_moveAlong_74 at e
  replace e := cl_s e
  obtain ⟨r1, g1, e⟩ := e
  have y1 : r1 = wy := r_eq e1 g1
  subst y1
  replace e := cl_s e
  obtain ⟨r2, g2, e⟩ := e
  have y2 : r2 = a1 := r_eq f1 g2
  subst y2
  replace e := (gd_s e).2
  replace e := nm_s e
  obtain ⟨v4, w4, e⟩ := e
  have i4 : Rg 0 63 v4 := by rw [w4]; exact rg_and (c := 63) (d := 63) (rg_b rfl) (by decide)
  have l4 : v4.toInt < n := by rw [w4]; exact lw
  clear w4
  replace e := cl_s e
  obtain ⟨_, _, e⟩ := e
  replace e := cl_s e
  obtain ⟨_, _, e⟩ := e
  replace e := (gd_s e).2
  replace e := nm_s e
  obtain ⟨_, _, e⟩ := e
  replace e := cl_s e
  obtain ⟨_, _, e⟩ := e
  replace e := cl_s e
  obtain ⟨_, _, e⟩ := e
  replace e := (gd_s e).2
  replace e := nm_s e
  obtain ⟨_, _, e⟩ := e
  replace e := br_s e
  rcases e with ⟨_, e⟩ | ⟨_, e⟩
  · exact mva_75 i2 l2 i4 l4 i3 l3 e
  replace e := cl_s e
  obtain ⟨_, _, e⟩ := e
  replace e := br_s e
  rcases e with ⟨_, e⟩ | ⟨_, e⟩
  · exact mva_75 i2 l2 i4 l4 i3 l3 e
  · exact mva_75 i2 l2 i4 l4 i3 l3 e
theorem cho_l {o : Int32 × Hp} (e0 : hR h x0 0 = some L) (g18 : hR h L 18 = some bc) (e : sX5_choices h x0 v = some o) : o.2 = h ∧ (o.1 = 0 ∨ o.1 = hI h bc (fd 12 v).toNatClampNeg) := by
  have b25 : ∀ {t : Int32} {o : Int32 × Hp}, sX5_choices_25 h x0 v t = some o → o.2 = h ∧ (o.1 = 0 ∨ o.1 = hI h bc (fd 12 v).toNatClampNeg) := fun {t o} e => by
    unfold sX5_choices_25 sX5_choices_66 sX5_choices_67 at e
    replace e := br_s e
    rcases e with ⟨_, e⟩ | ⟨_, e⟩
    · replace e := cl_s e
      obtain ⟨_, _, e⟩ := e
      replace e := cl_s e
      obtain ⟨o3, e3, e⟩ := e
      have q3 : o3.2 = h := by unfold sX5_comeTo at e3; rw [← Option.some.inj e3]
      rw [q3] at e
      replace e := cl_s e
      obtain ⟨_, _, e⟩ := e
      replace e := cl_s e
      obtain ⟨o5, e5, e⟩ := e
      rw [il_h e5] at e
      replace e := br_s e
      rcases e with ⟨_, e⟩ | ⟨_, e⟩
      · rw [← Option.some.inj e]; exact ⟨rfl, Or.inl rfl⟩
      replace e := cl_s e
      obtain ⟨r7, g7, e⟩ := e
      have y7 : r7 = L := r_eq e0 g7
      subst y7
      replace e := cl_s e
      obtain ⟨r8, g8, e⟩ := e
      have y8 : r8 = bc := r_eq g18 g8
      subst y8
      replace e := cl_s e
      obtain ⟨o9, e9, e⟩ := e
      have q9 : o9.2 = h ∧ o9.1 = fd 12 v := by unfold sX5_manOf at e9; rw [← Option.some.inj e9]; exact ⟨rfl, rfl⟩
      rw [q9.1, q9.2] at e
      replace e := (gd_s e).2
      rw [← Option.some.inj e]
      exact ⟨rfl, Or.inr rfl⟩
    · rw [← Option.some.inj e]; exact ⟨rfl, Or.inl rfl⟩
  unfold sX5_choices sX5_choices_24 at e
  replace e := cl_s e
  obtain ⟨_, _, e⟩ := e
  replace e := cl_s e
  obtain ⟨o2, e2, e⟩ := e
  rw [has_h e2] at e
  replace e := br_s e
  rcases e with ⟨_, e⟩ | ⟨_, e⟩
  · exact b25 e
  replace e := cl_s e
  obtain ⟨o4, e4, e⟩ := e
  rw [tkn_h e4] at e
  replace e := br_s e
  rcases e with ⟨_, e⟩ | ⟨_, e⟩
  · exact b25 e
  · exact b25 e
/-- what the men's steps leave -/
def LO (ρ : Nat → Nat) (x0 r : Nat) (n m : Int) (h o : Hp) : Prop := KL6 ρ h o ∧ LsX x0 r n m o ∧ (hI h x0 6).toInt ≤ (hI o x0 6).toInt
theorem lo_t (a : LO ρ x0 r n m h g) (b : LO ρ x0 r n m g o) : LO ρ x0 r n m h o := ⟨k6_t a.1 b.1, b.2.1, Int.le_trans a.2.2 b.2.2⟩
theorem lo_0 (X : LsX x0 r n m h) : LO ρ x0 r n m h h := ⟨k6_0, X, Int.le_refl _⟩
theorem st_120 {K : Hp → Nat → Int32 → Int32 → Int32 → Int32 → Int32 → Option Hp} {x4 x5 x7 x8 : Int32} {hh : Hp} (i2 : Rg 0 23 x2) (l2 : x2.toInt < 2 * m) (M : MvX n m x7) (R : ∀ {h o : Hp} {v : Int32}, KL6 ρ hh h → CoB ρ x0 L wy b r a0 a1 on bm bc n m h → LsX x0 r n m h → K h x0 x1 x2 x3 x4 v = some o → LO ρ x0 r n m h o) : ∀ (f : Nat) {h o : Hp} {x9 : Int32}, KL6 ρ hh h → CoB ρ x0 L wy b r a0 a1 on bm bc n m h → LsX x0 r n m h → 0 ≤ x9.toInt → (x8 = 0 ∨ x8 = hI h bc (x2 >>> ((1 : Int32) &&& 31)).toNatClampNeg) → sX5_addSteps_120 F K f h x0 x1 x2 x3 x4 x5 x7 x8 x9 = some o → LO ρ x0 r n m h o := by
  intro f
  induction f with
  | zero => intro h o x9 _ _ _ _ _ e; exact absurd e (by rw [sX5_addSteps_120]; exact fun z => nomatch z)
  | succ f ih =>
    intro h o x9 kk B X a9 C e
    rw [sX5_addSteps_120] at e
    unfold sX5_addSteps_170 at e
    have B' := B
    obtain ⟨⟨e0, e1, e4, e5, f0, f1, eo, g17, g18⟩, ⟨r0, rL, rw', rb, rr', q0, q1, qo, m1, c1⟩, W, O, XB, m12, n64, eL2, eL3⟩ := B
    replace e := br_s e
    rcases e with ⟨l, e⟩ | ⟨l, e⟩
    · replace e := br_s e
      rcases e with ⟨_, e⟩ | ⟨_, e⟩
      · replace e := cl_s e
        obtain ⟨o3, e3, e⟩ := e
        have A := addm_l r0 rr' e5 X M e3
        replace e := nm_s e
        obtain ⟨_, _, e⟩ := e
        exact lo_t A (R (k6_t kk A.1) (cob_k A.1 B') A.2.1 e)
      · replace e := nm_s e
        obtain ⟨_, _, e⟩ := e
        exact R kk B' X e
    have l := nle_i l
    have i20 := i2.1
    have i21 := i2.2
    have ik : Rg 0 11 (x2 >>> ((1 : Int32) &&& 31)) := rg_shrk (lo := 0) (hi := 11) 1 rfl i2 (by decide)
    have ck := clamp_i ik.1
    have ik1 := ik.2
    have c9 := clamp_i a9
    have z0 : (0 : Int32).toInt = 0 := rfl
    have e8 : x8 = hI h bc (x2 >>> ((1 : Int32) &&& 31)).toNatClampNeg := by
      rcases C with C | C
      · rw [C, z0] at l; omega
      · exact C
    obtain ⟨u1, u2⟩ := XB (x2 >>> ((1 : Int32) &&& 31)).toNatClampNeg (by omega)
    rw [← e8] at u1 u2
    obtain ⟨y0, y1⟩ := u2 x9.toNatClampNeg (by omega)
    have z6 : (6 : Int32).toInt = 6 := rfl
    have t1 : ((x2 >>> ((1 : Int32) &&& 31)) * (6 : Int32)).toInt = (x2 >>> ((1 : Int32) &&& 31)).toInt * 6 := by rw [tm (by rw [z6]; omega), z6]
    have t2 : (((x2 >>> ((1 : Int32) &&& 31)) * (6 : Int32)) + x9).toInt = (x2 >>> ((1 : Int32) &&& 31)).toInt * 6 + x9.toInt := by rw [ta (by rw [t1]; omega), t1]
    have ct := clamp_i (v := ((x2 >>> ((1 : Int32) &&& 31)) * (6 : Int32)) + x9) (by omega)
    have ix : (((x2 >>> ((1 : Int32) &&& 31)) * (6 : Int32)) + x9).toNatClampNeg = 6 * (x2 >>> ((1 : Int32) &&& 31)).toNatClampNeg + x9.toNatClampNeg := by omega
    replace e := cl_s e
    obtain ⟨r4, g4, e⟩ := e
    have y4 : r4 = L := r_eq e0 g4
    subst y4
    replace e := cl_s e
    obtain ⟨r5, g5, e⟩ := e
    have y5 : r5 = bm := r_eq g17 g5
    subst y5
    replace e := (gd_s e).2
    rw [ix] at e
    replace e := cl_s e
    obtain ⟨o7, e7, e⟩ := e
    have q7 : o7.2 = h ∧ MvX n m o7.1 := by
      unfold sX5_becoming at e7
      rw [← Option.some.inj e7]
      exact ⟨rfl, mvx_become M ⟨y0, by omega⟩ y1⟩
    rw [q7.1] at e
    replace e := cl_s e
    obtain ⟨o8, e8', e⟩ := e
    have A := addm_l r0 rr' e5 X q7.2 e8'
    replace e := nm_s e
    obtain ⟨v9, w9, e⟩ := e
    have z1 : (1 : Int32).toInt = 1 := rfl
    have t9 : v9.toInt = x9.toInt + 1 := by rw [w9, ta (by rw [z1]; omega), z1]
    clear w9
    exact lo_t A (ih (k6_t kk A.1) (cob_k A.1 B') A.2.1 (by omega) (Or.inr (by rw [A.1.2.1 bc _ c1.1 c1.2]; exact e8)) e)
theorem st_45 {x4 : Int32} (i1 : Rg 0 63 x1) (l1 : x1.toInt < n) (i2 : Rg 0 23 x2) (l2 : x2.toInt < 2 * m) : ∀ (f : Nat) {h o : Hp} {x3 x5 : Int32}, CoB ρ x0 L wy b r a0 a1 on bm bc n m h → LsX x0 r n m h → x4.toInt ≤ (hI h wy 8).toInt → sX5_addSteps_45 F f h x0 x1 x2 x3 x4 x5 = some o → LO ρ x0 r n m h o := by
  intro f
  induction f with
  | zero => intro h o x3 x5 _ _ _ e; exact absurd e (by rw [sX5_addSteps_45]; exact fun z => nomatch z)
  | succ f ih =>
    intro h o x3 x5 B X l4 e
    rw [sX5_addSteps_45] at e
    unfold sX5_addSteps_170 at e
    have B' := B
    obtain ⟨⟨e0, e1, e4, e5, f0, f1, eo, g17, g18⟩, ⟨r0, rL, rw', rb, rr', q0, q1, qo, m1, c1⟩, W, O, XB, m12, n64, eL2, eL3⟩ := B
    replace e := br_s e
    rcases e with ⟨_, e⟩ | ⟨l, e⟩
    · rw [← Option.some.inj e]; exact lo_0 X
    have l := nle_i l
    replace e := cl_s e
    obtain ⟨r2, g2, e⟩ := e
    have y2 : r2 = wy := r_eq e1 g2
    subst y2
    replace e := cl_s e
    obtain ⟨r3, g3, e⟩ := e
    have y3 : r3 = a1 := r_eq f1 g3
    subst y3
    have hb := (gd_s e).1
    replace e := (gd_s e).2
    have a5 : 0 ≤ x5.toInt := nlt_i (x := x5) (y := (0 : Int32)) (fun z => hb (Or.inl z))
    have c5 := clamp_i a5
    have lw : ((hI h r3 x5.toNatClampNeg) &&& (63 : Int32)).toInt < n := W.2.1 x5.toNatClampNeg (by omega)
    replace e := nm_s e
    obtain ⟨v5, _, e⟩ := e
    replace e := br_s e
    rcases e with ⟨_, e⟩ | ⟨_, e⟩
    · replace e := nm_s e
      obtain ⟨_, _, e⟩ := e
      exact ih B' X l4 e
    replace e := cl_s e
    obtain ⟨_, _, e⟩ := e
    replace e := cl_s e
    obtain ⟨_, _, e⟩ := e
    replace e := cl_s e
    obtain ⟨o9, e9, e⟩ := e
    rw [leads_h e9] at e
    replace e := br_s e
    rcases e with ⟨_, e⟩ | ⟨_, e⟩
    · replace e := nm_s e
      obtain ⟨_, _, e⟩ := e
      exact ih B' X l4 e
    replace e := cl_s e
    obtain ⟨o11, e11, e⟩ := e
    obtain ⟨q11, M11, K11⟩ := mva_l (m := m) e1 f1 i1 l1 i2 l2 lw e11
    rw [q11] at e
    replace e := cl_s e
    obtain ⟨o12, e12, e⟩ := e
    obtain ⟨q12, C12⟩ := cho_l e0 g18 e12
    rw [q12] at e
    rw [K11] at C12
    exact st_120 (hh := h) i2 l2 M11 (fun {h2 o2 v2} k2 B2 X2 e2 => ih B2 X2 (by rw [k2.2.1 r2 8 (by rw [rw']; decide) (by rw [rw']; decide)]; exact l4) e2) F k6_0 B' X (by decide) C12 e
theorem steps_l (B : CoB ρ x0 L wy b r a0 a1 on bm bc n m h) (X : LsX x0 r n m h) (i1 : Rg 0 63 x1) (mn : 0 ≤ (hI h on x1.toNatClampNeg).toInt) (e : sX5_addSteps F h x0 x1 = some o) : LO ρ x0 r n m h o := by
  have B' := B
  obtain ⟨⟨e0, e1, e4, e5, f0, f1, eo, g17, g18⟩, ⟨r0, rL, rw', rb, rr', q0, q1, qo, m1, c1⟩, W, O, XB, m12, n64, eL2, eL3⟩ := B
  have cx := clamp_i i1.1
  have i10 := i1.1
  have i11 := i1.2
  obtain ⟨lx, lc⟩ := O x1.toNatClampNeg (by omega) mn
  unfold sX5_addSteps sX10_cell at e
  replace e := cl_s e
  obtain ⟨r1, h1, e⟩ := e
  have y1 : r1 = b := r_eq e4 h1
  subst y1
  replace e := cl_s e
  obtain ⟨r2, h2, e⟩ := e
  have y2 : r2 = on := r_eq eo h2
  subst y2
  replace e := (gd_s e).2
  replace e := nm_s e
  obtain ⟨v4, w4, e⟩ := e
  rw [← w4] at mn lc
  clear w4
  replace e := cl_s e
  obtain ⟨r5, h5, e⟩ := e
  have y5 : r5 = wy := r_eq e1 h5
  subst y5
  replace e := cl_s e
  obtain ⟨r6, h6, e⟩ := e
  have y6 : r6 = a0 := r_eq f0 h6
  subst y6
  replace e := cl_s e
  obtain ⟨o7, e7, e⟩ := e
  have z64 : (64 : Int32).toInt = 64 := rfl
  have q7 : o7.2 = h ∧ o7.1.toInt = (v4.toInt * 64 + x1.toInt) * 64 + 64 := by
    rw [← Option.some.inj e7]
    refine ⟨rfl, ?_⟩
    show ((((v4 * (64 : Int32)) + x1) * (64 : Int32)) + (64 : Int32)).toInt = _
    have t1 : (v4 * (64 : Int32)).toInt = v4.toInt * 64 := by rw [tm (by rw [z64]; omega), z64]
    have t2 : ((v4 * (64 : Int32)) + x1).toInt = v4.toInt * 64 + x1.toInt := by rw [ta (by rw [t1]; omega), t1]
    have t3 : (((v4 * (64 : Int32)) + x1) * (64 : Int32)).toInt = (v4.toInt * 64 + x1.toInt) * 64 := by rw [tm (by rw [z64, t2]; omega), z64, t2]
    rw [ta (by rw [t3, z64]; omega), t3, z64]
  obtain ⟨q71, q72⟩ := q7
  clear e7
  rw [q71] at e
  have c7 := clamp_i (v := o7.1) (by omega)
  replace e := (gd_s e).2
  replace e := nm_s e
  obtain ⟨v9, w9, e⟩ := e
  have l9 : v9.toInt ≤ (hI h r5 8).toInt := by
    rw [w9]
    exact W.2.2 o7.1.toNatClampNeg (by omega)
  replace e := cl_s e
  obtain ⟨_, _, e⟩ := e
  replace e := cl_s e
  obtain ⟨_, _, e⟩ := e
  replace e := cl_s e
  obtain ⟨o12, e12, e⟩ := e
  have q12 : o12.2 = h := by rw [← Option.some.inj e12]
  clear e12
  rw [q12] at e
  replace e := (gd_s e).2
  replace e := nm_s e
  obtain ⟨v14, _, e⟩ := e
  exact st_45 i1 (by omega) ⟨mn, by omega⟩ lc F B' X l9 e
end
