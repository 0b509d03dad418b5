/-! one man more that he becomes -/
section
variable {T : Nat → Int} {N : Int} {F : Nat} {Z : Nat → Nat} {x2 : Int32} {hc hr oc or hc1 : Hp} {x man mine xi : Int32} {o o' : Int32 × Hp} {i : Nat}
theorem nI_c {y : Int32} (y0 : 0 ≤ y.toInt) (y12 : y.toInt < 12) : y = nI y.toNatClampNeg := Int32.toInt_inj.mp (by
  have := nc_i y0
  rw [z_toInt (by omega)]; omega)
theorem be_st (n12 : N ≤ 1200) (dg : ∀ j : Nat, (j : Int) < N → 0 ≤ T j ∧ T j ≤ 255) (D : ZD Z) (n2 : x2.toInt = N) {k60 : Hp → Nat → Int32 → Int32 → Int32 → Option (Int32 × Hp)} {k62 : Hp → Nat → Nat → Int32 → Int32 → Int32 → Option (Int32 × Hp)} (i6 : i < 6) (hx : xi.toInt = (i : Int)) (B : LB T N Z man i mine hc hr) (e : sX2_takeBecomes_78 F k60 hc (Z 3) man mine xi = some o) (e' : sX15_isBecoming_77 F k62 hr (Z 16) (Z 82) x2 man xi = some o') : Out T N Z o o' ∨ ∃ (oc or : Hp) (mine' : Int32), LB T N Z man (i + 1) mine' oc or ∧ k60 oc (Z 3) man mine' (xi + (1 : Int32)) = some o ∧ k62 or (Z 16) (Z 82) x2 man (xi + (1 : Int32)) = some o' := by
  have z1 : (1 : Int32).toInt = 1 := rfl
  have z6 : (6 : Int32).toInt = 6 := rfl
  obtain ⟨P, hm, ci, bj, rm, nr, mb⟩ := B
  have M := pm_w D P
  have fl : Fl2 Z hc hr := (ts_f M.2.2.2.2.1).1
  have m12 := M.2.2.2.2.2.2.1.2
  have nm := nc_i hm.1
  have w31 : ∀ {a : Nat}, a ∈ zl → ¬ a = 31 → ∀ j, hI (wI hc (Z 31) man.toNatClampNeg 0) (Z a) j = hI hc (Z a) j := fun ha n j => rI_a (zne D n ha)
  have no : ∀ {y : Int32}, sX15_isBecoming_138 F k62 F hr (Z 16) (Z 82) x2 man xi y (0 : Int32) (0 : Int32) = some o' → some ((0 : Int32), hc) = some o → Out T N Z o o' := fun {y} e' e => by
    have q := bk_0 F e'
    rw [← Option.some.inj e, q]
    exact Or.inl ⟨rfl, rfl, fl⟩
  unfold sX2_takeBecomes_78 sX2_takeBecomes_108 sX2_takeBecomes_131 at e
  unfold sX15_isBecoming_77 sX15_isBecoming_132 sX15_isBecoming_133 at e'
  replace e := cl_s e
  obtain ⟨o1, e1, e⟩ := e
  replace e' := cl_s e'
  obtain ⟨o2, e2, e'⟩ := e'
  obtain ⟨q1, q2, q3, q4⟩ := tm_r n12 M e1 e2
  rw [q1] at e
  rw [q2, ← q3] at e'
  replace e := br_s e
  replace e' := br_s e'
  rcases e with ⟨b, e⟩ | ⟨b, e⟩
  · rcases e' with ⟨_, e'⟩ | ⟨b', _⟩
    · exact Or.inl (no e' e)
    · exact absurd b b'
  rcases e' with ⟨b', _⟩ | ⟨_, e'⟩
  · exact absurd b' b
  have q4 := q4.resolve_left b
  have nx := nc_i q4.1
  replace e := br_s e
  replace e' := br_s e'
  rcases e with ⟨c, e⟩ | ⟨c, e⟩
  · rcases e' with ⟨_, e'⟩ | ⟨c', _⟩
    · exact Or.inl (no e' e)
    · exact absurd c c'
  rcases e' with ⟨c', _⟩ | ⟨_, e'⟩
  · exact absurd c' c
  have nem : ¬ o1.1.toNatClampNeg = man.toNatClampNeg := fun z => c (Int32.toInt_inj.mp (by omega))
  replace e := cl_s e
  obtain ⟨r4, e4, e⟩ := e
  rw [r_eq M.1.2.1 e4] at e
  replace e' := cl_s e'
  obtain ⟨r4', e4', e'⟩ := e'
  rw [r_eq M.2.1.1 e4'] at e'
  have ry : hI hc (Z 2) 4 = hI hr (Z 15) 10 := by
    have := P.2.2.2.2.2.2.1 (4, 10) (by decide)
    rw [w31 (by decide) (by decide)] at this; exact this
  rw [← ry] at e'
  replace e := br_s e
  replace e' := br_s e'
  rcases e with ⟨d, e⟩ | ⟨d, e⟩
  · rcases e' with ⟨_, e'⟩ | ⟨d', _⟩
    · exact Or.inl (no e' e)
    · exact absurd d d'
  rcases e' with ⟨d', _⟩ | ⟨_, e'⟩
  · exact absurd d' d
  replace e := cl_s e
  obtain ⟨r6, e6, e⟩ := e
  rw [r_eq M.1.2.1 e6] at e
  replace e := cl_s e
  obtain ⟨o7, e7, e⟩ := e
  obtain ⟨u1, u2⟩ := bo_q M.1 q4.1 (by omega) e7
  rw [u1] at e
  replace e' := cl_s e'
  obtain ⟨r6', e6', e'⟩ := e'
  rw [r_eq M.2.1.1 e6'] at e'
  replace e' := cl_s e'
  obtain ⟨r7', e7', e'⟩ := e'
  rw [r_eq M.2.1.2.2.2.2.2.2.2.2.2 e7'] at e'
  replace e' := (gd_s e').2
  obtain ⟨l2a, l2b, l2c⟩ := P.2.2.2.2.2.2.2.2.2.2.1 o1.1.toNatClampNeg (by omega)
  have ke : hI (wI hc (Z 31) man.toNatClampNeg 0) (Z 31) o1.1.toNatClampNeg = hI hc (Z 31) o1.1.toNatClampNeg := rI_o nem
  rw [ke] at l2a l2b
  have k0 := l2b.1
  have z0 : (0 : Int32).toInt = 0 := rfl
  replace e := br_s e
  replace e' := br_s e'
  rcases e with ⟨v, e⟩ | ⟨v, e⟩
  rotate_left
  · rcases e' with ⟨v', _⟩ | ⟨_, e'⟩
    · refine absurd (u2.mpr ?_) v
      rw [l2a, v']; exact Int.le_refl 0
    · exact Or.inl (no e' e)
  have cz : hI hr (Z 81) o1.1.toNatClampNeg = 0 := by
    rw [← l2a]
    exact Int32.toInt_inj.mp (by rw [z0]; have := u2.mp v; omega)
  rcases e' with ⟨_, e'⟩ | ⟨v', _⟩
  rotate_left
  · exact absurd cz v'
  replace e' := br_s e'
  rcases e' with ⟨l6, _⟩ | ⟨_, e'⟩
  · have l6 := le_i l6; omega
  have oe := nI_c q4.1 (by omega)
  have mbo := mb o1.1.toNatClampNeg (by omega)
  unfold Bq at mbo
  rw [← oe] at mbo
  have bk := bk_1 M.2.1 ⟨hm.1, by omega⟩ ⟨by omega, by omega⟩ F (show (0 : Int) ≤ (0 : Int32).toInt by decide) (by rw [z0]; omega) e'
  replace e := br_s e
  rcases e with ⟨f1, e⟩ | ⟨f1, e⟩
  rotate_left
  · obtain ⟨j, j1, j2⟩ := mbo.mp ((b01 _).resolve_left f1)
    rcases bk with ⟨a1, _⟩ | ⟨a1, _⟩
    · rw [← Option.some.inj e, a1]
      exact Or.inl (Or.inl ⟨rfl, rfl, fl⟩)
    · refine absurd (Int32.toInt_inj.mp ?_) (a1 j (by rw [z0]; omega) (by omega))
      rw [j2]; omega
  rcases bk with ⟨_, j, _, j2, j3⟩ | ⟨a1, hr8, e8, e'⟩
  · have := mbo.mpr ⟨j, by omega, by rw [j3]; omega⟩
    rw [f1] at this
    exact absurd this (by decide)
  -- both note him
  right
  have nxi := nc_i (x := xi) (by omega)
  have xin : xi.toNatClampNeg = i := by omega
  rw [xin] at e8
  replace e := nm_s e
  obtain ⟨v10, w10, e⟩ := e
  replace e := cl_s e
  obtain ⟨r11, e11, e⟩ := e
  rw [r_eq M.1.2.1 e11] at e
  replace e := cl_s e
  obtain ⟨r12, e12, e⟩ := e
  rw [r_eq M.1.2.2.2.2.2.2.1 e12] at e
  replace e := (gd_s e).2
  replace e := nm_s e
  obtain ⟨h14, w14, e⟩ := e
  replace e := cl_s e
  obtain ⟨r15, e15, e⟩ := e
  have y15 : r15 = Z 2 := r_eq M.1.2.1 (by rw [w14] at e15; exact e15)
  rw [y15] at e
  replace e := cl_s e
  obtain ⟨r16, e16, e⟩ := e
  have y16 : r16 = Z 31 := r_eq M.1.2.2.2.2.2.2.2 (by rw [w14] at e16; exact e16)
  rw [y16] at e
  replace e := (gd_s e).2
  replace e := nm_s e
  obtain ⟨h18, w18, e⟩ := e
  replace e := cl_s e
  obtain ⟨o19, e19, e⟩ := e
  replace e := nm_s e
  obtain ⟨v20, w20, e⟩ := e
  have m6 : (man * (6 : Int32)).toInt = man.toInt * 6 := by rw [tm (by rw [z6]; omega), z6]
  have ad : ((man * (6 : Int32)) + xi).toInt = man.toInt * 6 + xi.toInt := by rw [ta (by rw [m6]; omega), m6]
  have na := nc_i (x := (man * (6 : Int32)) + xi) (by omega)
  have wp : ((man * (6 : Int32)) + xi).toNatClampNeg = 6 * man.toNatClampNeg + i := by omega
  rw [wp] at w14
  -- the class's heap with his count taken off
  have hq : ∀ a j, hI (wI h18 (Z 31) man.toNatClampNeg 0) a j = hI (wI (wI hc (Z 31) man.toNatClampNeg 0) (Z 30) (6 * man.toNatClampNeg + i) o1.1) a j := fun a j => by
    rw [w18, w14]
    simp only [r_I]
    by_cases y1 : a = Z 31 ∧ j = man.toNatClampNeg
    · have y2 : ¬ (a = Z 30 ∧ j = 6 * man.toNatClampNeg + i) := fun z => zn D (i := 31) (j := 30) (y1.1.symm.trans z.1)
      rw [if_pos y1, if_neg y2, if_pos y1]
    · rw [if_neg y1, if_neg y1]
      by_cases y2 : a = Z 30 ∧ j = 6 * man.toNatClampNeg + i
      · rw [if_pos y2, if_pos y2]
      · rw [if_neg y2, if_neg y2, if_neg y1]
  have P18 : PB T N Z (wI h18 (Z 31) man.toNatClampNeg 0) (wI hr (Z 80) (6 * man.toNatClampNeg + i) o1.1) := by
    obtain ⟨⟨p1, p2, p3, p4, s1, s2, s3, s4, s5, s6, s7, s8, s9⟩, c1, c2, c3⟩ := ps_b P
    have wc : ∀ {a : Nat}, a ∈ zl → ¬ a = 30 → ∀ j, hI (wI h18 (Z 31) man.toNatClampNeg 0) (Z a) j = hI (wI hc (Z 31) man.toNatClampNeg 0) (Z a) j := fun ha n j => by rw [hq]; exact rI_a (zne D n ha)
    have wr : ∀ {a : Nat}, a ∈ zl → ¬ a = 80 → ∀ j, hI (wI hr (Z 80) (6 * man.toNatClampNeg + i) o1.1) (Z a) j = hI hr (Z a) j := fun ha n j => rI_a (zne D n ha)
    have RR : ∀ a j, hR (wI h18 (Z 31) man.toNatClampNeg 0) a j = hR (wI hc (Z 31) man.toNatClampNeg 0) a j := fun a j => by rw [w18, w14]; rfl
    have JJ : hJ (wI h18 (Z 31) man.toNatClampNeg 0) (Z 2) 13 = hJ (wI hc (Z 31) man.toNatClampNeg 0) (Z 2) 13 := by rw [w18, w14]; rfl
    refine ⟨⟨zc_k p1 RR, p2, ?_, rt_w (zne D) p4, ?_⟩, ?_⟩
    · obtain ⟨a1, a2, a3, b', a4, a5, a6⟩ := p3
      have y : b' = Z 49 := r_eq p1.2.2.1 a4
      rw [y] at a4 a5 a6
      exact ⟨by rw [RR]; exact a1, a2, by rw [wc (by decide) (by decide)]; exact a3, Z 49, by rw [RR]; exact a4, a5, fun j hj => by rw [wc (by decide) (by decide)]; exact a6 j hj⟩
    · refine ⟨by rw [wc (by decide) (by decide), wr (by decide) (by decide)]; exact s1, fun p hp => by rw [wc (by decide) (by decide), wr (by decide) (by decide)]; exact s2 p hp, by rw [JJ]; exact s3, by rw [wc (by decide) (by decide)]; exact s4, fun j hj => ?_, fun q hq' => ?_, ⟨by rw [wc (by decide) (by decide)]; exact s7.1, fun q hq' => ?_⟩, by rw [wc (by decide) (by decide), wc (by decide) (by decide), wc (by decide) (by decide), wc (by decide) (by decide)]; exact s8, by rw [wc (by decide) (by decide), wc (by decide) (by decide)]; exact s9.1, by rw [wc (by decide) (by decide), JJ]; exact s9.2.1, fun q h1 h2 => by rw [wr (by decide) (by decide)] at h1; rw [wr (by decide) (by decide), wr (by decide) (by decide)]; exact s9.2.2.1 q h1 h2, by rw [wc (by decide) (by decide)]; exact s9.2.2.2.1, lt5_k s9.2.2.2.2.1 (wc (by decide) (by decide) _) (fun k _ _ => wr (by decide) (by decide) _), lt6_k s9.2.2.2.2.2.1 (wr (by decide) (by decide) _) (fun k hk i => wc (lc_z k hk).1 (lc_z k hk).2.2.2.2.2.2.1 i) (fun k hk i => wr (lr_z k hk).1 (lr_z k hk).2.2.2.2.2.2.1 i), lt7_k s9.2.2.2.2.2.2 (wc (by decide) (by decide) _) (fun i => wc (by decide) (by decide) i)⟩
      · rw [wc (by decide) (by decide)] at hj
        rw [wc (by decide) (by decide), wr (by decide) (by decide)]; exact s5 j hj
      · rw [wc (by decide) (by decide), wr (by decide) (by decide)]
        refine ⟨(s6 q hq').1, (s6 q hq').2.1, fun j hj => ?_⟩
        have j6 := (s6 q hq').2.1.2
        have ne : ¬ 6 * q + j = 6 * man.toNatClampNeg + i := fun z => by
          have qm : q = man.toNatClampNeg := by omega
          rw [qm, rI_s, z0] at hj
          omega
        rw [hq, rI_o ne, rI_o ne]
        exact (s6 q hq').2.2 j hj
      · rw [wc (by decide) (by decide), s7.2 q hq']
        have same : ∀ p j : Nat, (p : Int) < (hI hr (Z 15) 2).toInt → (j : Int) < (hI hr (Z 81) p).toInt → hI (wI hr (Z 80) (6 * man.toNatClampNeg + i) o1.1) (Z 80) (6 * p + j) = hI hr (Z 80) (6 * p + j) := fun p j hp hj => by
          have p12 : p < 12 := by
            have := s2 (3, 2) (by decide)
            rw [← this] at hp
            dsimp only at hp
            have := s4.2
            omega
          have j6 := (s6 p p12).2.1.2
          rw [(s6 p p12).1] at j6
          refine rI_o (fun z => ?_)
          have pm : p = man.toNatClampNeg := by omega
          have := (s6 p p12).1
          rw [pm, rI_s] at this
          rw [pm, ← this, z0] at hj
          omega
        constructor
        · rintro ⟨p, j, a, b', c'⟩
          exact ⟨p, j, by rw [wr (by decide) (by decide)]; exact a, by rw [wr (by decide) (by decide)]; exact b', by rw [same p j a b']; exact c'⟩
        · rintro ⟨p, j, a, b', c'⟩
          rw [wr (by decide) (by decide)] at a b'
          rw [same p j a b'] at c'
          exact ⟨p, j, a, b', c'⟩
    · rw [wc (by decide) (by decide), wr (by decide) (by decide)]
      exact ⟨c1, c2, c3⟩
  obtain ⟨P19, K19, R19⟩ := ps_aw n12 dg D n2 (k := 31) (by decide) (by decide) (by decide) (by decide) P18 e19 e8
  refine ⟨o19, hr8, v10, ⟨P19, ?_, ?_, fun j hj => ?_, ?_, by rw [K19.2 _ _ (fun z => zn D z.1), w18, rI_a (zne D), w14, rI_a (zne D)]; exact nr, fun q hq' => ?_⟩, by rw [← w20]; exact e, e'⟩
  · have : hI o19 (Z 2) 3 = hI hc (Z 2) 3 := by
      rw [K19.2 _ _ (fun z => zn D z.1), w18, rI_a (zne D), w14, rI_a (zne D)]
    rw [this]; exact hm
  · rw [K19.2 _ _ (fun z => zn D z.1), w18, rI_s, ta (by rw [z1]; omega), z1, hx]; omega
  · have cj : hI o19 (Z 30) (6 * man.toNatClampNeg + j) = hI h14 (Z 30) (6 * man.toNatClampNeg + j) := by
      rw [K19.2 _ _ (fun z => zn D z.1), w18, rI_a (zne D)]
    have rj : hI hr8 (Z 80) (6 * man.toNatClampNeg + j) = hI (wI hr (Z 80) (6 * man.toNatClampNeg + i) o1.1) (Z 80) (6 * man.toNatClampNeg + j) := R19.2 _ _ (fun z => zn D z.1)
    rw [cj, rj, w14]
    by_cases y : j = i
    · rw [y, rI_s, rI_s]
      exact ⟨rfl, q4.1, by omega⟩
    · rw [rI_o (by omega), rI_o (by omega)]
      exact bj j (by omega)
  · rw [w10]
    exact rg_or (n := 12) rm (rg_shl (b := 1) (n := 11) (hi := 2048) (rg_b rfl) ⟨q4.1, by omega⟩ (by decide)) (by decide)
  · have rj : ∀ j, hI hr8 (Z 80) (6 * man.toNatClampNeg + j) = hI (wI hr (Z 80) (6 * man.toNatClampNeg + i) o1.1) (Z 80) (6 * man.toNatClampNeg + j) := fun j => R19.2 _ _ (fun z => zn D z.1)
    have bo := bit_o (x := mine) (q := o1.1.toNatClampNeg) (r := q) (by omega) hq'
    rw [← oe] at bo
    have mq := mb q hq'
    unfold Bq at mq ⊢
    rw [w10, bo]
    by_cases y : o1.1.toNatClampNeg = q
    · rw [if_pos y]
      constructor
      · intro _
        exact ⟨i, by omega, by rw [rj, rI_s]; omega⟩
      · intro _
        rcases b01 (mine >>> ((nI q) &&& 31)) with z | z <;> (rw [z]; decide)
    · rw [if_neg y, or_0, mq]
      constructor
      · rintro ⟨j, j1, j2⟩
        exact ⟨j, by omega, by rw [rj, rI_o (by omega)]; exact j2⟩
      · rintro ⟨j, j1, j2⟩
        rw [rj] at j2
        by_cases yj : j = i
        · rw [yj, rI_s] at j2; omega
        · rw [rI_o (by omega)] at j2
          exact ⟨j, by omega, j2⟩
end
