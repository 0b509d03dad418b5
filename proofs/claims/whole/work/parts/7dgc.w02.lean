section
/-! the sentence of what a man becomes -/
section
variable {T : Nat → Int} {N : Int} {F : Nat} {Z : Nat → Nat} {x2 : Int32} {hc hr oc or hc1 : Hp} {x man mine xi : Int32} {o o' : Int32 × Hp} {i : Nat}
theorem be_77 (n12 : N ≤ 1200) (M : PMn T N Z hc hr) {k62 : Hp → Nat → Nat → Int32 → Int32 → Int32 → Option (Int32 × Hp)} (h : 6 ≤ xi.toInt ∨ ¬ hI hr (Z 16) 6 = (1 : Int32)) (e' : sX15_isBecoming_77 F k62 hr (Z 16) (Z 82) x2 man xi = some o') : o' = ((0 : Int32), hr) := by
  have z6 : (6 : Int32).toInt = 6 := rfl
  unfold sX15_isBecoming_77 sX15_isBecoming_132 sX15_isBecoming_133 at e'
  replace e' := cl_s e'
  obtain ⟨o2, e2, e'⟩ := e'
  obtain ⟨q1, q2⟩ := mn_b n12 M e2
  rw [q1] at e'
  replace e' := br_s e'
  rcases e' with ⟨_, e'⟩ | ⟨b, e'⟩
  · exact bk_0 F e'
  have l6 : 6 ≤ xi.toInt := h.resolve_right (fun k => b (by
    unfold sX15_manAt sX15_manAt_37 sX15_manAt_38 at e2
    replace e2 := br_s e2
    rcases e2 with ⟨z, _⟩ | ⟨_, e2⟩
    · exact absurd z k
    · rw [← Option.some.inj e2]))
  replace e' := br_s e'
  rcases e' with ⟨_, e'⟩ | ⟨_, e'⟩
  · exact bk_0 F e'
  replace e' := cl_s e'
  obtain ⟨r4, e4, e'⟩ := e'
  replace e' := br_s e'
  rcases e' with ⟨_, e'⟩ | ⟨_, e'⟩
  · exact bk_0 F e'
  replace e' := cl_s e'
  obtain ⟨r6, e6, e'⟩ := e'
  replace e' := cl_s e'
  obtain ⟨r7, e7, e'⟩ := e'
  replace e' := (gd_s e').2
  replace e' := br_s e'
  rcases e' with ⟨_, e'⟩ | ⟨_, e'⟩
  · replace e' := br_s e'
    rcases e' with ⟨_, e'⟩ | ⟨n, _⟩
    · exact bk_0 F e'
    · have n := nle_i n; omega
  · exact bk_0 F e'
/-- both are through -/
theorem be_fin (D : ZD Z) (hx : xi.toInt = (i : Int)) (i6 : i ≤ 6) (B : LB T N Z man i mine hc hr) {pl : Int32} (hp : pl = if hI hc (Z 2) 5 = (-1 : Int32) then man else hI hc (Z 2) 5) : PS T N Z (wI (wI hc (Z 2) 12 ((hI hc (Z 2) 12) ||| mine)) (Z 2) 5 pl) (wI (wI hr (Z 81) man.toNatClampNeg xi) (Z 15) 11 pl) := by
  have z0 : (0 : Int32).toInt = 0 := rfl
  obtain ⟨P, hm, ci, bj, rm, nr, mb⟩ := B
  have M := pm_w D P
  have m12 := M.2.2.2.2.2.2.1.2
  have nm := nc_i hm.1
  obtain ⟨p1, p2, p3, p4, p5, s1, s2, s3, s4, s5, s6, s7, s8, s9⟩ := P
  have w31 : ∀ {a : Nat}, a ∈ zl → ¬ a = 31 → ∀ j, hI (wI hc (Z 31) man.toNatClampNeg 0) (Z a) j = hI hc (Z a) j := fun ha n j => rI_a (zne D n ha)
  have cc : ∀ {a : Nat}, a ∈ zl → ¬ a = 2 → ∀ j, hI (wI (wI hc (Z 2) 12 ((hI hc (Z 2) 12) ||| mine)) (Z 2) 5 pl) (Z a) j = hI hc (Z a) j := fun ha n j => by rw [rI_a (zne D n ha), rI_a (zne D n ha)]
  have c2 : ∀ j, ¬ j = 5 → ¬ j = 12 → hI (wI (wI hc (Z 2) 12 ((hI hc (Z 2) 12) ||| mine)) (Z 2) 5 pl) (Z 2) j = hI hc (Z 2) j := fun j n5 n12' => by rw [rI_o n5, rI_o n12']
  have rc : ∀ {a : Nat}, a ∈ zl → ¬ a = 15 → ¬ a = 81 → ∀ j, hI (wI (wI hr (Z 81) man.toNatClampNeg xi) (Z 15) 11 pl) (Z a) j = hI hr (Z a) j := fun ha n n' j => by rw [rI_a (zne D n ha), rI_a (zne D n' ha)]
  have r15 : ∀ j, ¬ j = 11 → hI (wI (wI hr (Z 81) man.toNatClampNeg xi) (Z 15) 11 pl) (Z 15) j = hI hr (Z 15) j := fun j n => by rw [rI_o n, rI_a (zne D)]
  have r81 : ∀ j, hI (wI (wI hr (Z 81) man.toNatClampNeg xi) (Z 15) 11 pl) (Z 81) j = hI (wI hr (Z 81) man.toNatClampNeg xi) (Z 81) j := fun j => rI_a (zne D)
  have x5 : hI hc (Z 31) man.toNatClampNeg = xi := Int32.toInt_inj.mp (by rw [ci, hx])
  refine ⟨p1, p2, ct_w (zne D) (zne D) p1 (ct_w (zne D) (zne D) p1 M.2.2.1), rt_w (zne D) (rt_w (zne D) p4), ?_, ?_⟩
  · obtain ⟨p', k', A, B', ek⟩ := M.2.2.2.2.1
    exact ⟨p', k', by rw [cc (by decide) (by decide), cc (by decide) (by decide), cc (by decide) (by decide), cc (by decide) (by decide)]; exact A, by rw [rc (by decide) (by decide) (by decide), rc (by decide) (by decide) (by decide), rc (by decide) (by decide) (by decide)]; exact B', by rw [rc (by decide) (by decide) (by decide)]; exact ek⟩
  rw [w31 (by decide) (by decide)] at s1 s4
  refine ⟨by rw [cc (by decide) (by decide), rc (by decide) (by decide) (by decide)]; exact s1, fun p hp' => ?_, s3, by rw [c2 _ (by decide) (by decide)]; exact s4, fun j hj => ?_, fun q hq => ?_, ⟨?_, fun q hq => ?_⟩, ?_, ?_⟩
  · by_cases y : p = (5, 11)
    · rw [y, rI_s, rI_s]
    · have n5 : ¬ p.1 = 5 := fun z => y (prs_1 p hp' (5, 11) (by decide) (Or.inl z))
      have n11 : ¬ p.2 = 11 := fun z => y (prs_1 p hp' (5, 11) (by decide) (Or.inr z))
      rw [c2 _ n5 (prs_2 p hp').1, r15 _ n11]
      have := s2 p hp'
      rw [w31 (by decide) (by decide)] at this
      exact this
  · rw [c2 _ (by decide) (by decide)] at hj
    rw [cc (by decide) (by decide), rc (by decide) (by decide) (by decide)]
    exact M.2.2.2.2.2.2.2 j hj
  · rw [cc (by decide) (by decide), r81]
    by_cases y : q = man.toNatClampNeg
    · rw [y, rI_s, x5]
      refine ⟨rfl, ⟨by omega, by omega⟩, fun j hj => ?_⟩
      rw [cc (by decide) (by decide), rc (by decide) (by decide) (by decide)]
      exact bj j (by omega)
    · rw [rI_o y]
      obtain ⟨a1, a2, a3⟩ := s6 q hq
      rw [rI_o y] at a1 a2 a3
      refine ⟨a1, a2, fun j hj => ?_⟩
      rw [cc (by decide) (by decide), rc (by decide) (by decide) (by decide)]
      have := a3 j hj
      rw [w31 (by decide) (by decide)] at this
      exact this
  · rw [rI_o (by decide), rI_s]
    have := s7.1
    rw [w31 (by decide) (by decide)] at this
    exact rg_or (n := 12) this rm (by decide)
  · rw [rI_o (by decide), rI_s]
    have sq := s7.2 q hq
    rw [w31 (by decide) (by decide)] at sq
    have mq := mb q hq
    unfold Bq at sq mq ⊢
    rw [sh_or, lo_or]
    have m3 : hI hc (Z 2) 3 = hI hr (Z 15) 2 := M.2.2.2.2.2.1
    have zr : hI hr (Z 81) man.toNatClampNeg = 0 := by
      have := (s6 man.toNatClampNeg (by omega)).1
      rw [rI_s] at this
      exact this.symm
    have key : (∃ p j : Nat, (p : Int) < (hI (wI (wI hr (Z 81) man.toNatClampNeg xi) (Z 15) 11 pl) (Z 15) 2).toInt ∧ (j : Int) < (hI (wI (wI hr (Z 81) man.toNatClampNeg xi) (Z 15) 11 pl) (Z 81) p).toInt ∧ (hI (wI (wI hr (Z 81) man.toNatClampNeg xi) (Z 15) 11 pl) (Z 80) (6 * p + j)).toInt = (q : Int)) ↔ ((((hI hc (Z 2) 12) >>> ((nI q) &&& 31)) &&& (1 : Int32)) = 1 ∨ ((mine >>> ((nI q) &&& 31)) &&& (1 : Int32)) = 1) := by
      rw [sq, mq]
      constructor
      · rintro ⟨p, j, a, b, c⟩
        rw [r15 _ (by decide)] at a
        rw [r81] at b
        rw [rc (by decide) (by decide) (by decide)] at c
        by_cases y : p = man.toNatClampNeg
        · rw [y, rI_s] at b
          rw [y] at c
          exact Or.inr ⟨j, by omega, c⟩
        · rw [rI_o y] at b
          exact Or.inl ⟨p, j, a, b, c⟩
      · rintro (⟨p, j, a, b, c⟩ | ⟨j, a, c⟩)
        · have y : ¬ p = man.toNatClampNeg := fun z => by rw [z, zr, z0] at b; omega
          exact ⟨p, j, by rw [r15 _ (by decide)]; exact a, by rw [r81, rI_o y]; exact b, by rw [rc (by decide) (by decide) (by decide)]; exact c⟩
        · exact ⟨man.toNatClampNeg, j, by rw [r15 _ (by decide), ← m3]; omega, by rw [r81, rI_s]; omega, by rw [rc (by decide) (by decide) (by decide)]; exact c⟩
    rw [key]
    rcases b01 ((hI hc (Z 2) 12) >>> ((nI q) &&& 31)) with y1 | y1 <;> rcases b01 (mine >>> ((nI q) &&& 31)) with y2 | y2 <;> (rw [y1, y2]; decide)
  · rw [c2 _ (by decide) (by decide), c2 _ (by decide) (by decide), c2 _ (by decide) (by decide), c2 _ (by decide) (by decide)]
    rw [w31 (by decide) (by decide), w31 (by decide) (by decide), w31 (by decide) (by decide), w31 (by decide) (by decide)] at s8
    exact s8
  · rw [w31 (by decide) (by decide), w31 (by decide) (by decide), w31 (by decide) (by decide)] at s9
    refine ⟨by rw [cc (by decide) (by decide), c2 _ (by decide) (by decide)]; exact s9.1, by rw [cc (by decide) (by decide)]; exact s9.2.1, fun q h1 h2 => ?_, by rw [cc (by decide) (by decide)]; exact s9.2.2.2.1, lt5_k s9.2.2.2.2.1 ((c2 10 (by decide) (by decide)).trans (w31 (by decide) (by decide) 10).symm) (fun k h1 h2 => r15 k (by omega)), lt6_k s9.2.2.2.2.2.1 (r15 2 (by decide)) (fun k hk i => (cc (lc_z k hk).1 (lc_z k hk).2.1 i).trans (w31 (lc_z k hk).1 (lc_z k hk).2.2.2.2.2.2.2 i).symm) (fun k hk i => rc (lr_z k hk).1 (lr_z k hk).2.2.2.1 (lr_z k hk).2.2.2.2.2.2.2.1 i), fun q hq z => by
      rw [c2 _ (by decide) (by decide)] at z
      have ne : ¬ q = man.toNatClampNeg := fun y => nr (Int32.toInt_inj.mp (by omega))
      rw [cc (by decide) (by decide)]
      have := s9.2.2.2.2.2.2 q hq (by rw [w31 (by decide) (by decide)]; exact z)
      rw [rI_o ne] at this
      exact this⟩
    rw [r15 _ (by decide)] at h1
    have m3 : hI hc (Z 2) 3 = hI hr (Z 15) 2 := M.2.2.2.2.2.1
    rw [rc (by decide) (by decide) (by decide), r81, rI_o (fun z => by rw [← m3] at h1; omega)]
    exact s9.2.2.1 q h1 h2
theorem be_60 (n12 : N ≤ 1200) (dg : ∀ j : Nat, (j : Int) < N → 0 ≤ T j ∧ T j ≤ 255) (D : ZD Z) (n2 : x2.toInt = N) : ∀ (f g : Nat) {hc hr : Hp} {mine xi : Int32} {i : Nat}, LB T N Z man i mine hc hr → i ≤ 6 → xi.toInt = (i : Int) → sX2_takeBecomes_60 F f hc (Z 3) man mine xi = some o → sX15_isBecoming_62 F g hr (Z 16) (Z 82) x2 man xi = some o' → Out2 T N Z o o' := by
  have z0 : (0 : Int32).toInt = 0 := rfl
  have z1 : (1 : Int32).toInt = 1 := rfl
  have z6 : (6 : Int32).toInt = 6 := rfl
  intro f
  induction f with
  | zero => intro g hc hr mine xi i _ _ _ e; exact absurd e (by rw [sX2_takeBecomes_60]; exact fun z => nomatch z)
  | succ f ih =>
    intro g hc hr mine xi i B i6 hx e e'
    cases g with
    | zero => exact absurd e' (by rw [sX15_isBecoming_62]; exact fun z => nomatch z)
    | succ g =>
      have M := pm_w D B.1
      have fl : Fl2 Z hc hr := (ts_f M.2.2.2.2.1).1
      rw [sX2_takeBecomes_60] at e
      rw [sX15_isBecoming_62] at e'
      have more : i < 6 → sX2_takeBecomes_78 F (sX2_takeBecomes_60 F f) hc (Z 3) man mine xi = some o → sX15_isBecoming_77 F (sX15_isBecoming_62 F g) hr (Z 16) (Z 82) x2 man xi = some o' → Out2 T N Z o o' := fun l e e' => by
        rcases be_st n12 dg D n2 l hx B e e' with q | ⟨oc, or, mine', B1, k1, k2⟩
        · exact Or.inl q
        · exact ih g B1 (by omega) (by rw [ta (by rw [z1]; omega), z1, hx]; omega) k1 k2
      -- the class is through
      have fc : sX2_takeBecomes_178 F hc (Z 3) man mine = some o → o = ((1 : Int32), wI (wI hc (Z 2) 12 ((hI hc (Z 2) 12) ||| mine)) (Z 2) 5 (if hI hc (Z 2) 5 = (-1 : Int32) then man else hI hc (Z 2) 5)) := fun e => by
        unfold sX2_takeBecomes_178 sX2_takeBecomes_217 at e
        replace e := cl_s e
        obtain ⟨r1, e1, e⟩ := e
        rw [r_eq M.1.2.1 e1] at e
        replace e := nm_s e
        obtain ⟨h2, w2, e⟩ := e
        replace e := cl_s e
        obtain ⟨r3, e3, e⟩ := e
        have y3 : r3 = Z 2 := r_eq M.1.2.1 (by rw [w2] at e3; exact e3)
        rw [y3] at e
        replace e := cl_s e
        obtain ⟨r4, e4, e⟩ := e
        have y4 : r4 = Z 2 := r_eq M.1.2.1 (by rw [w2] at e4; exact e4)
        rw [y4] at e
        have k5 : hI h2 (Z 2) 5 = hI hc (Z 2) 5 := by rw [w2]; exact rI_o (by decide)
        rw [k5] at e
        replace e := br_s e
        rcases e with ⟨b, e⟩ | ⟨b, e⟩
        · replace e := nm_s e
          obtain ⟨h5, w5, e⟩ := e
          rw [if_pos b, ← Option.some.inj e, w5, w2]
        · replace e := cl_s e
          obtain ⟨r6, e6, e⟩ := e
          have y6 : r6 = Z 2 := r_eq M.1.2.1 (by rw [w2] at e6; exact e6)
          rw [y6, k5] at e
          replace e := nm_s e
          obtain ⟨h5, w5, e⟩ := e
          rw [if_neg b, ← Option.some.inj e, w5, w2]
      have ns3 : ¬ (hI hc (Z 3) 4).toInt = 3 → o.2 = wI (wI hc (Z 2) 12 ((hI hc (Z 2) 12) ||| mine)) (Z 2) 5 (if hI hc (Z 2) 5 = (-1 : Int32) then man else hI hc (Z 2) 5) → Fl2 Z o.2 hr ∧ ¬ hI o.2 (Z 3) 4 = (3 : Int32) := fun nk eo => by
        have k3 : ∀ j, hI o.2 (Z 3) j = hI hc (Z 3) j := fun j => by rw [eo, rI_a (zne D), rI_a (zne D)]
        refine ⟨?_, ?_⟩
        · show hI o.2 (Z 3) 2 = _
          rw [k3]; exact fl
        · rw [k3]
          intro z
          exact nk (by rw [z]; rfl)
      by_cases y0 : i = 0
      · have x0 : xi = 0 := Int32.toInt_inj.mp (by rw [hx, y0]; rfl)
        replace e := br_s e
        rcases e with ⟨l, _⟩ | ⟨_, e⟩
        · have l := le_i l; omega
        replace e := br_s e
        rcases e with ⟨_, e⟩ | ⟨n, _⟩
        rotate_left
        · exact absurd x0 n
        replace e' := br_s e'
        rcases e' with ⟨_, e'⟩ | ⟨n, _⟩
        rotate_left
        · exact absurd x0 n
        exact more (by omega) e e'
      have x0 : ¬ xi = 0 := fun z => by rw [z, z0] at hx; omega
      replace e' := br_s e'
      rcases e' with ⟨n, _⟩ | ⟨_, e'⟩
      · exact absurd n x0
      replace e' := cl_s e'
      obtain ⟨o2, e2, e'⟩ := e'
      obtain ⟨q1, q2⟩ := sg_r M.2.2.1 M.2.2.2.1 M.2.2.2.2.1 (kd := 3) (Or.inl ⟨rfl, rfl⟩) e2
      rw [q1] at e'
      -- the reference at a semicolon is through
      have fr : ¬ o2.1 = 0 → o = ((1 : Int32), wI (wI hc (Z 2) 12 ((hI hc (Z 2) 12) ||| mine)) (Z 2) 5 (if hI hc (Z 2) 5 = (-1 : Int32) then man else hI hc (Z 2) 5)) → Out2 T N Z o o' := fun s eo => by
        replace e' := br_s e'
        rcases e' with ⟨n, _⟩ | ⟨_, e'⟩
        · exact absurd n s
        replace e' := cl_s e'
        obtain ⟨r4, e4, e'⟩ := e'
        rw [r_eq M.2.1.1 e4] at e'
        replace e' := cl_s e'
        obtain ⟨r5, e5, e'⟩ := e'
        rw [r_eq M.2.1.2.2.2.2.2.2.2.2.2 e5] at e'
        replace e' := (gd_s e').2
        replace e' := nm_s e'
        obtain ⟨h7, w7, e'⟩ := e'
        replace e' := cl_s e'
        obtain ⟨r8, e8, e'⟩ := e'
        have y8 : r8 = Z 15 := r_eq M.2.1.1 (by rw [w7] at e8; exact e8)
        rw [y8] at e'
        replace e' := cl_s e'
        obtain ⟨r9, e9, e'⟩ := e'
        have y9 : r9 = Z 15 := r_eq M.2.1.1 (by rw [w7] at e9; exact e9)
        rw [y9] at e'
        have k11 : hI h7 (Z 15) 11 = hI hc (Z 2) 5 := by
          rw [w7, rI_a (zne D)]
          have := B.1.2.2.2.2.2.2.1 (5, 11) (by decide)
          rw [rI_a (zne D)] at this
          exact this.symm
        rw [k11] at e'
        have eo' : o' = ((1 : Int32), wI (wI hr (Z 81) man.toNatClampNeg xi) (Z 15) 11 (if hI hc (Z 2) 5 = (-1 : Int32) then man else hI hc (Z 2) 5)) := by
          unfold sX15_isBecoming_254 at e'
          replace e' := br_s e'
          rcases e' with ⟨b, e'⟩ | ⟨b, e'⟩
          · replace e' := nm_s e'
            obtain ⟨h5, w5, e'⟩ := e'
            rw [if_pos b, ← Option.some.inj e', w5, w7]
          · replace e' := cl_s e'
            obtain ⟨r6, e6, e'⟩ := e'
            have y6 : r6 = Z 15 := r_eq M.2.1.1 (by rw [w7] at e6; exact e6)
            rw [y6, k11] at e'
            replace e' := nm_s e'
            obtain ⟨h5, w5, e'⟩ := e'
            rw [if_neg b, ← Option.some.inj e', w5, w7]
        rw [eo, eo']
        exact Or.inl (Or.inr ⟨i1n0, i1n0, be_fin D hx i6 B rfl⟩)
      have fall : ¬ (hI hc (Z 3) 4).toInt = 3 → (6 ≤ xi.toInt ∨ ¬ hI hr (Z 16) 6 = (1 : Int32)) → o = ((1 : Int32), wI (wI hc (Z 2) 12 ((hI hc (Z 2) 12) ||| mine)) (Z 2) 5 (if hI hc (Z 2) 5 = (-1 : Int32) then man else hI hc (Z 2) 5)) → Out2 T N Z o o' := fun nk hh eo => by
        replace e' := br_s e'
        rcases e' with ⟨_, e'⟩ | ⟨n, _⟩
        rotate_left
        · exact absurd (q2.mpr nk) n
        have r0 := be_77 n12 M hh e'
        obtain ⟨a1, a2⟩ := ns3 nk (by rw [eo])
        rw [r0]
        exact Or.inr ⟨by rw [eo]; exact i1n0, rfl, a1, a2⟩
      replace e := br_s e
      rcases e with ⟨l, e⟩ | ⟨l, e⟩
      · have l := le_i l
        rw [z6] at l
        have eo := fc e
        by_cases k3 : (hI hc (Z 3) 4).toInt = 3
        · exact fr (fun z => (q2.mp z) k3) eo
        · exact fall k3 (Or.inl l) eo
      have l := nle_i l
      rw [z6] at l
      replace e := br_s e
      rcases e with ⟨n, _⟩ | ⟨_, e⟩
      · exact absurd n x0
      replace e := br_s e
      rcases e with ⟨k, e⟩ | ⟨k, e⟩
      · have nk : ¬ (hI hc (Z 3) 4).toInt = 3 := by rw [k]; decide
        replace e' := br_s e'
        rcases e' with ⟨_, e'⟩ | ⟨n, _⟩
        rotate_left
        · exact absurd (q2.mpr nk) n
        exact more (by omega) e e'
      · have eo := fc e
        by_cases k3 : (hI hc (Z 3) 4).toInt = 3
        · exact fr (fun z => (q2.mp z) k3) eo
        · exact fall k3 (Or.inr (fun z => k ((kw_r M).mpr z))) eo
end
section
variable {T : Nat → Int} {N : Int} {F : Nat} {Z : Nat → Nat} {x2 : Int32} {hc hr oc or hc1 : Hp} {x man mine xi : Int32} {o o' : Int32 × Hp} {i : Nat}
theorem be_r (n12 : N ≤ 1200) (dg : ∀ j : Nat, (j : Int) < N → 0 ≤ T j ∧ T j ≤ 255) (D : ZD Z) (n2 : x2.toInt = N) (P : PS T N Z hc hr) (e : sX2_takeBecomes F hc (Z 3) = some o) (e' : sX15_isBecoming F hr (Z 16) (Z 82) x2 = some o') : Out2 T N Z o o' := by
  have z0 : (0 : Int32).toInt = 0 := rfl
  unfold sX2_takeBecomes sX2_takeBecomes_50 at e
  unfold sX15_isBecoming sX15_isBecoming_51 at e'
  replace e := cl_s e
  obtain ⟨hc1, ea, e⟩ := e
  replace e' := cl_s e'
  obtain ⟨hr1, en, e'⟩ := e'
  have P1 := ps_a n12 dg D n2 (ps_b P).1 (ps_b P).2 ea en
  replace e := cl_s e
  obtain ⟨o1, e1, e⟩ := e
  replace e' := cl_s e'
  obtain ⟨o2, e2, e'⟩ := e'
  obtain ⟨q1, q2, q3, q4⟩ := tm_r n12 (ps_m P1) e1 e2
  rw [q1] at e
  rw [q2, ← q3] at e'
  have no : some ((0 : Int32), hc1) = some o → some ((0 : Int32), hr1) = some o' → Out2 T N Z o o' := fun e e' => by
    rw [← Option.some.inj e, ← Option.some.inj e']; exact Or.inl (out_0 P1)
  replace e := br_s e
  replace e' := br_s e'
  rcases e with ⟨b, e⟩ | ⟨b, e⟩
  · rcases e' with ⟨_, e'⟩ | ⟨b', _⟩
    · exact no e e'
    · exact absurd b b'
  rcases e' with ⟨b', _⟩ | ⟨_, e'⟩
  · exact absurd b' b
  have q4 := q4.resolve_left b
  have m12 := P1.2.2.2.2.2.2.2.2.1.2
  have nx := nc_i q4.1
  replace e := cl_s e
  obtain ⟨r4, e4, e⟩ := e
  rw [r_eq P1.1.2.1 e4] at e
  replace e' := cl_s e'
  obtain ⟨r4', e4', e'⟩ := e'
  rw [r_eq P1.2.1.1 e4'] at e'
  have ry : hI hc1 (Z 2) 4 = hI hr1 (Z 15) 10 := P1.2.2.2.2.2.2.1 (4, 10) (by decide)
  rw [← ry] at e'
  replace e := br_s e
  replace e' := br_s e'
  rcases e with ⟨d, e⟩ | ⟨d, e⟩
  · rcases e' with ⟨_, e'⟩ | ⟨d', _⟩
    · exact no e e'
    · exact absurd d d'
  rcases e' with ⟨d', _⟩ | ⟨_, e'⟩
  · exact absurd d' d
  replace e := cl_s e
  obtain ⟨r6, e6, e⟩ := e
  rw [r_eq P1.1.2.1 e6] at e
  replace e := cl_s e
  obtain ⟨o7, e7, e⟩ := e
  obtain ⟨u1, u2⟩ := bo_q P1.1 q4.1 (by omega) e7
  rw [u1] at e
  replace e' := cl_s e'
  obtain ⟨r6', e6', e'⟩ := e'
  rw [r_eq P1.2.1.1 e6'] at e'
  replace e' := cl_s e'
  obtain ⟨r7', e7', e'⟩ := e'
  rw [r_eq P1.2.1.2.2.2.2.2.2.2.2.2 e7'] at e'
  replace e' := (gd_s e').2
  obtain ⟨ce, cb, _⟩ := P1.2.2.2.2.2.2.2.2.2.2.1 o1.1.toNatClampNeg (by omega)
  rw [← ce] at e'
  replace e := br_s e
  replace e' := br_s e'
  rcases e with ⟨v, e⟩ | ⟨v, e⟩
  rotate_left
  · rcases e' with ⟨_, e'⟩ | ⟨l', _⟩
    · exact no e e'
    · exact absurd (u2.mpr (nlt_i l')) v
  rcases e' with ⟨l', _⟩ | ⟨_, e'⟩
  · have l' := lt_i l'
    have := u2.mp v
    omega
  replace e := cl_s e
  obtain ⟨r9, e9, e⟩ := e
  rw [r_eq P1.1.2.1 e9] at e
  replace e' := cl_s e'
  obtain ⟨r10, e10, e'⟩ := e'
  rw [r_eq P1.2.1.1 e10] at e'
  replace e' := cl_s e'
  obtain ⟨o11, e11, e'⟩ := e'
  obtain ⟨t1, t2⟩ := ib_r P1 q4.1 (by omega) e11
  rw [t1] at e'
  replace e := br_s e
  replace e' := br_s e'
  rcases e with ⟨c1, e⟩ | ⟨c1, e⟩
  rotate_left
  · rcases e' with ⟨c', _⟩ | ⟨_, e'⟩
    · exact absurd (t2.mp c') c1
    · exact no e e'
  rcases e' with ⟨_, e'⟩ | ⟨c', _⟩
  rotate_left
  · exact absurd (t2.mpr c1) c'
  replace e := cl_s e
  obtain ⟨hc3, e3, e⟩ := e
  replace e' := cl_s e'
  obtain ⟨hr3, e3', e'⟩ := e'
  have PB1 := ps_b P1
  have P3 := ps_a n12 dg D n2 PB1.1 PB1.2 e3 e3'
  have Kc := (adv_k n12 dg P1.2.2.1 PB1.2.2.1 PB1.2.2.2 e3).1
  have cnt : hI hc3 (Z 31) o1.1.toNatClampNeg = 0 := by
    rw [Kc.2 _ _ (fun z => zn D z.1)]
    exact Int32.toInt_inj.mp (by rw [z0]; have := u2.mp v; have := cb.1; omega)
  refine be_60 n12 dg D n2 F F (i := 0) (mine := (0 : Int32)) (xi := (0 : Int32)) ⟨?_, ?_, by rw [cnt]; rfl, fun j hj => by omega, ⟨by decide, by decide⟩, by rw [Kc.2 _ _ (fun z => zn D z.1)]; exact d, fun q hq => ⟨fun z => ?_, fun ⟨j, hj, _⟩ => by omega⟩⟩ (by omega) rfl e e'
  · -- his count is nought already
    have hh : ∀ a j, hI (wI hc3 (Z 31) o1.1.toNatClampNeg 0) a j = hI hc3 a j := fun a j => by
      rw [r_I]
      by_cases y : a = Z 31 ∧ j = o1.1.toNatClampNeg
      · rw [if_pos y, y.1, y.2]; exact cnt.symm
      · rw [if_neg y]
    obtain ⟨p1, p2, p3, p4, p5, p6⟩ := P3
    refine ⟨p1, p2, ?_, p4, ?_, ?_⟩
    · obtain ⟨a1, a2, a3, b', a4, a5, a6⟩ := p3
      exact ⟨a1, a2, by rw [hh]; exact a3, b', a4, a5, fun j hj => by rw [hh]; exact a6 j hj⟩
    · obtain ⟨p', k', A, B', ek⟩ := p5
      exact ⟨p', k', by rw [hh, hh, hh, hh]; exact A, B', ek⟩
    · exact ls_kk p6 (hh _ _) (fun _ => hh _ _) rfl (fun _ _ _ => hh _ _) rfl (fun _ => rfl) rfl (fun _ _ _ => rfl) (by rw [hh]; exact p6.2.2.2.2.2.2.2.2.2.2.2.1) (lt6_k (ls_6 p6) rfl (fun _ _ _ => hh _ _) (fun _ _ _ => rfl))
  · rw [Kc.2 _ _ (fun z => zn D z.1)]
    exact q4
  · unfold Bq at z
    have : ((0 : Int32) >>> ((nI q) &&& 31)) = 0 := by
      apply Int32.toBitVec_inj.mp
      rw [Int32.toBitVec_shiftRight]
      exact BitVec.zero_sshiftRight
    rw [this] at z
    exact absurd z (by decide)
end
end
section
/-! men and their steps -/
section
variable {T : Nat → Int} {N : Int} {F : Nat} {Z : Nat → Nat} {x2 : Int32} {hc hr oc or hc1 : Hp} {x man mine xi : Int32} {o o' : Int32 × Hp} {i : Nat}
/-- cells that the relation doesn't read: of the class -/
theorem l6_c (D : ZD Z) {k j m : Nat} {v : Int32} (gz : Z 997 = m + 1) (hk : (k = 28 ∧ j = 8 * m + Z 996) ∨ (k = 29 ∧ j = m)) (g8 : Z 996 < 8) (S : LT6 Z hc hr) : LT6 Z (wI hc (Z k) j v) hr := fun q hq => by
  obtain ⟨S1, S2⟩ := S q hq
  rcases hk with ⟨rfl, hj⟩ | ⟨rfl, hj⟩
  · refine ⟨fun n => ?_, fun g i hi => sx_k (S2 g i hi) (rI_o (by omega)) (fun _ _ => rfl)⟩
    obtain ⟨a, b, c⟩ := S1 n
    have w : hI (wI hc (Z 28) j v) (Z 29) q = hI hc (Z 29) q := rI_a (zne D)
    have b2 := b.2
    refine ⟨by rw [w]; exact a, by rw [w]; exact b, fun i hi => ?_⟩
    rw [w] at hi
    exact sx_k (c i hi) (rI_o (by omega)) (fun _ _ => rfl)
  · refine ⟨fun n => ?_, fun g i hi => sx_k (S2 g i hi) (rI_a (zne D)) (fun _ _ => rfl)⟩
    obtain ⟨a, b, c⟩ := S1 n
    have w : hI (wI hc (Z 29) j v) (Z 29) q = hI hc (Z 29) q := rI_o (by omega)
    refine ⟨by rw [w]; exact a, by rw [w]; exact b, fun i hi => ?_⟩
    rw [w] at hi
    exact sx_k (c i hi) (rI_a (zne D)) (fun _ _ => rfl)
theorem l6_r (D : ZD Z) {k j m : Nat} {v : Int32} (gz : Z 997 = m + 1) (hk : k = 75 ∨ k = 76 ∨ k = 77 ∨ k = 78 ∨ k = 79) (hj : j = 8 * m + Z 996) (g8 : Z 996 < 8) (S : LT6 Z hc hr) : LT6 Z hc (wI hr (Z k) j v) := fun q hq => by
  have hz : k ∈ zl ∧ ¬ 15 = k ∧ ¬ 74 = k := by rcases hk with rfl | rfl | rfl | rfl | rfl <;> decide
  rw [rI_a (zne D hz.2.1 (by decide) hz.1)] at hq
  obtain ⟨S1, S2⟩ := S q hq
  have w : ∀ {p a : Nat}, ¬ p = j → hI (wI hr (Z k) j v) (Z a) p = hI hr (Z a) p := fun {p a} n => by rw [r_I, if_neg (fun z => n z.2)]
  refine ⟨fun n => ?_, fun g i hi => sx_k (S2 g i hi) rfl (fun _ _ => w (by omega))⟩
  obtain ⟨a, b, c⟩ := S1 n
  have b2 := b.2
  exact ⟨by rw [rI_a (zne D hz.2.2 (by decide) hz.1)]; exact a, b, fun i hi => sx_k (c i hi) rfl (fun _ _ => w (by omega))⟩
theorem ps_wc (D : ZD Z) {k j m : Nat} {v : Int32} (gz : Z 997 = m + 1) (hk' : (k = 28 ∧ j = 8 * m + Z 996) ∨ (k = 29 ∧ j = m)) (g8 : Z 996 < 8) (P : PS T N Z hc hr) : PS T N Z (wI hc (Z k) j v) hr := by
  have hk : k = 28 ∨ k = 29 := hk'.imp (fun z => z.1) (fun z => z.1)
  obtain ⟨p1, p2, p3, p4, p5, p6⟩ := P
  have w : ∀ {a : Nat}, a ∈ zl → ¬ a = 28 → ¬ a = 29 → ∀ q, hI (wI hc (Z k) j v) (Z a) q = hI hc (Z a) q := fun ha n n' q => by
    rcases hk with rfl | rfl
    · exact rI_a (zne D n ha)
    · exact rI_a (zne D n' ha)
  refine ⟨p1, p2, ?_, p4, ?_, ls_kk p6 (w (by decide) (by decide) (by decide) _) (fun q => w (by decide) (by decide) (by decide) q) rfl (fun a q ha => ?_) rfl (fun _ => rfl) rfl (fun _ _ _ => rfl) (by rw [w (by decide) (by decide) (by decide)]; exact p6.2.2.2.2.2.2.2.2.2.2.2.1) (l6_c D gz hk' g8 (ls_6 p6))⟩
  · obtain ⟨a1, a2, a3, b, a4, a5, a6⟩ := p3
    have y : b = Z 49 := r_eq p1.2.2.1 a4
    rw [y] at a4 a5 a6
    exact ⟨a1, a2, by rw [w (by decide) (by decide) (by decide)]; exact a3, Z 49, a4, a5, fun q hq => by rw [w (by decide) (by decide) (by decide)]; exact a6 q hq⟩
  · obtain ⟨p', k', A, B', ek⟩ := p5
    exact ⟨p', k', by rw [w (by decide) (by decide) (by decide), w (by decide) (by decide) (by decide), w (by decide) (by decide) (by decide), w (by decide) (by decide) (by decide)]; exact A, B', ek⟩
  · rcases ha with rfl | rfl | rfl <;> exact w (by decide) (by decide) (by decide) q
/-- and of the reference -/
theorem ps_wr (D : ZD Z) {k j m : Nat} {v : Int32} (gz : Z 997 = m + 1) (hk : k = 75 ∨ k = 76 ∨ k = 77 ∨ k = 78 ∨ k = 79) (hj : j = 8 * m + Z 996) (g8 : Z 996 < 8) (P : PS T N Z hc hr) : PS T N Z hc (wI hr (Z k) j v) := by
  obtain ⟨p1, p2, p3, p4, p5, p6⟩ := P
  have w : ∀ {a : Nat}, a ∈ zl → ¬ (a = 75 ∨ a = 76 ∨ a = 77 ∨ a = 78 ∨ a = 79) → ∀ q, hI (wI hr (Z k) j v) (Z a) q = hI hr (Z a) q := fun {a} ha n q => by
    have hz : k ∈ zl := by rcases hk with rfl | rfl | rfl | rfl | rfl <;> decide
    exact rI_a (zne D (fun z => n (by rw [z]; exact hk)) ha hz)
  refine ⟨p1, p2, p3, fun q hq => by rw [w (by decide) (by decide)]; exact p4 q hq, ?_, ls_kk p6 rfl (fun _ => rfl) rfl (fun _ _ _ => rfl) (w (by decide) (by decide) _) (fun q => w (by decide) (by decide) q) rfl (fun a q ha => ?_) p6.2.2.2.2.2.2.2.2.2.2.2.1 (l6_r D gz hk hj g8 (ls_6 p6))⟩
  · obtain ⟨p', k', A, B', ek⟩ := p5
    exact ⟨p', k', A, by rw [w (by decide) (by decide), w (by decide) (by decide), w (by decide) (by decide)]; exact B', by rw [w (by decide) (by decide)]; exact ek⟩
  · rcases ha with rfl | rfl | rfl | rfl <;> exact w (by decide) (by decide) q
theorem kn_0 (P : PS T N Z hc hr) : (hI hc (Z 3) 4).toInt = 4 → hI hr (Z 16) 6 = (3 : Int32) := fun k => by
  have f := (ts_f P.2.2.2.2.1).2.2.1
  rw [k] at f
  exact Int32.toInt_inj.mp f
/-- the six words of a step -/
theorem fl_r (n12 : N ≤ 1200) (P : PS T N Z hc hr) (e : sX2_stepFlag F hc (Z 3) = some o) (e' : sX15_flagAt F hr (Z 16) (Z 82) = some o') : o.2 = hc ∧ o'.2 = hr ∧ o.1 = o'.1 ∧ (o.1 = 0 ∨ o.1 = 1 ∨ o.1 = 2 ∨ o.1 = 4 ∨ o.1 = 8 ∨ o.1 = 16 ∨ o.1 = 32) := by
  unfold sX2_stepFlag sX2_stepFlag_72 at e
  unfold sX15_flagAt sX15_flagAt_88 at e'
  have one : ∀ {i i' : Nat} {A B : Int32 × Hp → Option (Int32 × Hp)} {A' B' : Int32 × Hp → Option (Int32 × Hp)}, lB i = lB i' → (lB i).length < 2147483648 → (cl (sX2_isWord F hc (Z 3) i) fun q => br (q.1 = 0) (A q) (B q)) = some o → (cl (sX15_isWord F hr (Z 16) (Z 82) i') fun q => br (q.1 = 0) (A' q) (B' q)) = some o' → (∃ q q' : Int32 × Hp, q.2 = hc ∧ q'.2 = hr ∧ A q = some o ∧ A' q' = some o') ∨ ∃ q q' : Int32 × Hp, q.2 = hc ∧ q'.2 = hr ∧ B q = some o ∧ B' q' = some o' := fun hl sm e e' => by
    replace e := cl_s e
    obtain ⟨o1, e1, e⟩ := e
    replace e' := cl_s e'
    obtain ⟨o2, e2, e'⟩ := e'
    obtain ⟨q1, q2, q3⟩ := iw_r n12 P.2.2.1 P.2.2.2.1 P.2.2.2.2.1 hl sm e1 e2
    replace e := br_s e
    replace e' := br_s e'
    rcases e with ⟨b, e⟩ | ⟨b, e⟩
    · rcases e' with ⟨_, e'⟩ | ⟨b', _⟩
      · exact Or.inl ⟨o1, o2, q1, q2, e, e'⟩
      · rw [← q3] at b'; exact absurd b b'
    · rcases e' with ⟨b', _⟩ | ⟨_, e'⟩
      · rw [← q3] at b'; exact absurd b' b
      · exact Or.inr ⟨o1, o2, q1, q2, e, e'⟩
  rcases one (i := 5) (i' := 31) rfl (by decide) e e' with ⟨q, q', h1, h2, e, e'⟩ | ⟨q, q', h1, h2, e, e'⟩
  rotate_left
  · rw [h1] at e; rw [h2] at e'; rw [← Option.some.inj e, ← Option.some.inj e']; exact ⟨rfl, rfl, rfl, by dsimp only; decide⟩
  rw [h1] at e
  rw [h2] at e'
  rcases one (i := 6) (i' := 32) rfl (by decide) e e' with ⟨q, q', h1, h2, e, e'⟩ | ⟨q, q', h1, h2, e, e'⟩
  rotate_left
  · rw [h1] at e; rw [h2] at e'; rw [← Option.some.inj e, ← Option.some.inj e']; exact ⟨rfl, rfl, rfl, by dsimp only; decide⟩
  rw [h1] at e
  rw [h2] at e'
  rcases one (i := 7) (i' := 33) rfl (by decide) e e' with ⟨q, q', h1, h2, e, e'⟩ | ⟨q, q', h1, h2, e, e'⟩
  rotate_left
  · rw [h1] at e; rw [h2] at e'; rw [← Option.some.inj e, ← Option.some.inj e']; exact ⟨rfl, rfl, rfl, by dsimp only; decide⟩
  rw [h1] at e
  rw [h2] at e'
  rcases one (i := 8) (i' := 34) rfl (by decide) e e' with ⟨q, q', h1, h2, e, e'⟩ | ⟨q, q', h1, h2, e, e'⟩
  rotate_left
  · rw [h1] at e; rw [h2] at e'; rw [← Option.some.inj e, ← Option.some.inj e']; exact ⟨rfl, rfl, rfl, by dsimp only; decide⟩
  rw [h1] at e
  rw [h2] at e'
  rcases one (i := 9) (i' := 35) rfl (by decide) e e' with ⟨q, q', h1, h2, e, e'⟩ | ⟨q, q', h1, h2, e, e'⟩
  rotate_left
  · rw [h1] at e; rw [h2] at e'; rw [← Option.some.inj e, ← Option.some.inj e']; exact ⟨rfl, rfl, rfl, by dsimp only; decide⟩
  rw [h1] at e
  rw [h2] at e'
  rcases one (i := 10) (i' := 36) rfl (by decide) e e' with ⟨q, q', h1, h2, e, e'⟩ | ⟨q, q', h1, h2, e, e'⟩
  · rw [h1] at e; rw [h2] at e'; rw [← Option.some.inj e, ← Option.some.inj e']; exact ⟨rfl, rfl, rfl, by dsimp only; decide⟩
  · rw [h1] at e; rw [h2] at e'; rw [← Option.some.inj e, ← Option.some.inj e']; exact ⟨rfl, rfl, rfl, by dsimp only; decide⟩
end
end
