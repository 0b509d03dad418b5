section
/-! the men of one SET, then all SETS -/
section
variable {ρ : Nat → Nat} {c : Cm} {x ks pw L bm bc m rm re rb rk rs ro R Bc Bm F : Nat} {hc hr oc : Hp} {o' : Int32 × Hp} {row : Nat → Int32} {x1 n key : Int32}
theorem cm_f {g : Hp} (A : CFs x ks hc g) (C : CM x ks pw L bc hc) : CM x ks pw L bc g := cm_k C A.1 (fun a i n1 n2 => A.2.1 a i (fun z => n1 z.1) n2)
theorem slot_p {k2r : Hp → Nat → Int32 → Option (Int32 × Hp)} (hF : 700000 ≤ F) (hA : pmA c seL) (N : LBn ρ x ks L bm bc R Bc Bm) (i1 : Rg 0 4095 x1) (Kk : Kq key n.toNatClampNeg row) (n0 : 0 ≤ n.toInt) : ∀ (f g : Nat) {hc hr : Hp} {x2 : Int32}, CXs ρ c x ks pw L bm bc m rm re rb rk rs ro R Bc Bm hc hr → CM x ks pw L bc hc → RowA rm re m x1 n row hr → 0 ≤ x2.toInt → x2.toInt ≤ 5 → sX0_addSetsOf_2 F f hc x key x2 = some oc → sX15_addAll_12 F k2r g hr m x1 x2 = some o' → (o'.1 = 0 ∧ 600000 < (hJ oc x 18).toInt) ∨ (CFs x ks hc oc ∧ ∃ hr2, RF ρ m rm re hr hr2 ∧ CXs ρ c x ks pw L bm bc m rm re rb rk rs ro R Bc Bm oc hr2 ∧ k2r hr2 m (x1 + (1 : Int32)) = some o') := by
  have z1 : (1 : Int32).toInt = 1 := rfl
  have n5 := Kk.1
  have nn : (n.toNatClampNeg : Int) = n.toInt := nc_i n0
  have i11 := i1.1
  have c1 := clamp_i i11
  obtain ⟨k1, k2, k3⟩ := kq_sz Kk
  intro f
  induction f with
  | zero => intro g hc hr x2 _ _ _ _ _ e; exact absurd e (by rw [sX0_addSetsOf_2]; exact fun z => nomatch z)
  | succ f ih =>
    intro g hc hr x2 X C A a2 b2 e e'
    cases g with
    | zero => exact absurd e' (by rw [sX15_addAll_12]; exact fun z => nomatch z)
    | succ g =>
      obtain ⟨Q, T, P, E, J, K⟩ := id X
      obtain ⟨⟨q0, qm, qe, qb, qk, qs, qo⟩, e46, e47, e48, e55, e56, e57⟩ := id Q
      obtain ⟨⟨e1, e17, e18⟩, ⟨f4, f13, f14⟩, kroy, kz, kb⟩ := id K
      have c2 := clamp_i a2
      rw [sX0_addSetsOf_2] at e
      unfold sX0_addSetsOf_104 at e
      rw [sX15_addAll_12] at e'
      unfold sX15_addAll_58 at e'
      replace e := cl_s e; obtain ⟨o1, eo1, e⟩ := e
      obtain ⟨w1, v1⟩ := sat_e (size_q hF k1.1) eo1
      rw [k3] at v1
      have t1 : o1.1.toInt = n.toInt := by rw [v1, z_toInt (by omega)]; omega
      rw [w1] at e
      replace e' := cl_s e'; obtain ⟨r1, p, e'⟩ := e'
      rw [r_eq e46 p] at e'
      replace e' := (gd_s e').2
      rw [A.1] at e'
      replace e := br_s e
      replace e' := br_s e'
      rcases e with ⟨l, e⟩ | ⟨l, e⟩
      · have l := le_i l
        rcases e' with ⟨_, e'⟩ | ⟨l', _⟩
        rotate_left
        · have l' := nle_i l'; omega
        replace e' := nm_s e'
        obtain ⟨w, ww, e'⟩ := e'
        rw [ww] at e'
        rw [← Option.some.inj e]
        exact Or.inr ⟨cfs_0, hr, rf_0, X, e'⟩
      have l := nle_i l
      rcases e' with ⟨l', _⟩ | ⟨_, e'⟩
      · have l' := le_i l'; omega
      have l2 : x2.toInt < n.toInt := by omega
      have tx : (x2 + (1 : Int32)).toInt = x2.toInt + 1 := by rw [ta (by rw [z1]; omega), z1]
      -- who he is
      replace e := cl_s e; obtain ⟨o3, eo3, e⟩ := e
      unfold sX0_codeIn at eo3
      have dk := dig_k (pad_24 Kk.2.2.1) Kk.2.1 (s := x2) ⟨a2, by omega⟩
      have dv : (key >>> (((5 : Int32) * x2) &&& 31)) &&& (31 : Int32) = row x2.toNatClampNeg := by
        apply Int32.toInt_inj.mp
        rw [dk]
        unfold pad
        rw [if_pos (by omega)]
      rw [dv] at eo3
      have y3 := Option.some.inj eo3
      rw [← y3] at e
      dsimp only at e
      replace e := nm_s e
      obtain ⟨v4, wv4, e⟩ := e
      rw [wv4] at e
      replace e := cl_s e; obtain ⟨r5, p, e⟩ := e
      rw [r_eq e1 p] at e
      replace e' := cl_s e'; obtain ⟨r5', p, e'⟩ := e'
      rw [r_eq e47 p] at e'
      replace e' := (gd_s e').2
      have ix := (ix5 (x1 := x1) (x4 := x2) i1 ⟨a2, by omega⟩).2
      replace e' := nm_s e'
      obtain ⟨v7, wv7, e'⟩ := e'
      rw [ix, A.2.1 _ (by omega)] at wv7
      rw [wv7] at e'
      replace e' := cl_s e'; obtain ⟨o8, eo8, e'⟩ := e'
      unfold sX15_manOf at eo8
      have y8 := Option.some.inj eo8
      rw [← y8] at e'
      dsimp only at e'
      replace e' := cl_s e'; obtain ⟨r9, p, e'⟩ := e'
      rw [r_eq f4 p, ← kroy] at e'
      have vr := Kk.2.2.1 x2.toNatClampNeg (by omega)
      obtain ⟨s1, mr, sr⟩ := man_v (v := row x2.toNatClampNeg) vr
      have cman := clamp_i mr.1
      have mr1 := mr.2
      have tot6 := J.2.1.2.2
      have tot0 := J.2.1.2.1
      -- the rest of the class, where there is no room
      have mono : ∀ {g : Hp} {rest : Int32} {f2 : Nat} {j2 : Int32}, CM x ks pw L bc g → 0 ≤ j2.toInt → j2.toInt ≤ 6 → 600000 < (hJ g x 18).toInt → (hJ g x 18).toInt ≤ 600000 + 2147483648 → sX0_addSetsOf_52 F (sX0_addSetsOf_2 F f) f2 g x key x2 (row x2.toNatClampNeg - (1 : Int32)) ((row x2.toNatClampNeg - (1 : Int32)) >>> ((1 : Int32) &&& 31)) rest j2 = some oc → 600000 < (hJ oc x 18).toInt := fun {g rest f2 j2} Cg j0 j6 b1 b2 e => by
        have := mono_52 (s := x2.toInt) (o := oc) (fun {q} Cq q0 qb e => mono_2 f Cq (by omega) (by omega) q0 (by omega) e) f2 Cg j0 j6 (by omega) (by omega) (by omega) e
        omega
      replace e := br_s e
      replace e' := br_s e'
      rcases e with ⟨b, e⟩ | ⟨b, e⟩
      · -- a royal man
        rcases e' with ⟨_, e'⟩ | ⟨b', _⟩
        rotate_left
        · exact absurd b b'
        replace e := nm_s e
        obtain ⟨w, ww, e⟩ := e
        rw [ww] at e
        obtain ⟨G, hG⟩ : ∃ G, F = G + 1 := ⟨F - 1, by omega⟩
        have e61 : sX15_addAll_61 F k2r (sX15_addAll_12 F k2r g) (G + 1) hr m x1 x2 (row x2.toNatClampNeg) (0 : Int32) = some o' := by rw [← hG]; exact e'
        rw [sX15_addAll_61] at e61
        replace e61 := cl_s e61; obtain ⟨u1, p, e61⟩ := e61
        rw [r_eq f4 p] at e61
        replace e61 := cl_s e61; obtain ⟨u2, p, e61⟩ := e61
        rw [r_eq f14 p] at e61
        replace e61 := cl_s e61; obtain ⟨u3, eu3, e61⟩ := e61
        unfold sX15_manOf at eu3
        have y := Option.some.inj eu3
        rw [← y] at e61
        dsimp only at e61
        replace e61 := (gd_s e61).2
        have c0 : hI hr Bm ((row x2.toNatClampNeg - (1 : Int32)) >>> ((1 : Int32) &&& 31)).toNatClampNeg = 0 := kz _ (by omega) (by rw [← b]; omega)
        rw [c0] at e61
        replace e61 := br_s e61
        rcases e61 with ⟨_, e61⟩ | ⟨nl, _⟩
        rotate_left
        · exact absurd (by decide) nl
        replace e61 := nm_s e61
        obtain ⟨w', ww', e61⟩ := e61
        rw [ww'] at e61
        exact ih g X C A (by omega) (by omega) e e61
      rcases e' with ⟨b', _⟩ | ⟨_, e'⟩
      · exact absurd b' b
      -- without him
      replace e := cl_s e; obtain ⟨o7, eo7, e⟩ := e
      obtain ⟨w7, kw7⟩ := wo_k (pad_24 Kk.2.2.1) Kk.2.1 (x1 := x2) ⟨a2, by omega⟩ eo7
      rw [w7] at e
      obtain ⟨nn', hnn⟩ : ∃ q, n.toNatClampNeg = q + 1 := ⟨n.toNatClampNeg - 1, by omega⟩
      have Kr : Kq o7.1 (n.toNatClampNeg - 1) (sk row x2.toNatClampNeg) := by
        have Kk' := Kk
        rw [hnn] at Kk' kw7
        rw [hnn]
        exact kq_sk (by omega) Kk' kw7
      replace e := cl_s e; obtain ⟨o9, eo9, e⟩ := e
      replace e' := cl_s e'; obtain ⟨o11, eo11, e'⟩ := e'
      obtain ⟨gg, x3, jo, Tg, Pg, Wg, x3v, rows, ea⟩ := cwo_e hF hA Q T P i1 A.2.2 a2 (by rw [A.1]; exact l2) eo11
      rw [A.1] at x3v
      have c3 := clamp_i (v := x3) (by omega)
      have e3 : x3.toNatClampNeg = n.toNatClampNeg - 1 := by omega
      obtain ⟨⟨T11, P11⟩, CF9, alt⟩ := add_p hF hA (slr_r Q jo.1) Tg Pg E (js_jo Q jo J) ⟨by omega, by omega⟩ Wg (by rw [e3]; exact Kr) (fun v => by
        refine cn_eq _ (fun i hi => ?_)
        rw [rows i (by omega)]
        unfold sk
        by_cases q : i < x2.toNatClampNeg
        · rw [if_pos q, if_pos q]; exact (A.2.1 i (by omega)).symm
        · rw [if_neg q, if_neg q]; exact (A.2.1 (i + 1) (by omega)).symm) eo9 ea
      have C9 := cm_f CF9 C
      have up : (hJ o9 x 18).toInt ≤ 600000 + 2147483648 := by
        have := (cadd_m C tot0 (by omega) eo9).2.2
        omega
      rcases alt with ⟨z11, big⟩ | ⟨z11, RF11, J11⟩
      · replace e' := br_s e'
        rcases e' with ⟨_, e'⟩ | ⟨nz, _⟩
        rotate_left
        · exact absurd z11 nz
        refine Or.inl ⟨by rw [← Option.some.inj e'], mono C9 (by decide) (by decide) big up e⟩
      replace e' := br_s e'
      rcases e' with ⟨z, _⟩ | ⟨_, e'⟩
      · rw [z11] at z; exact absurd z (by decide)
      have RFa : RF ρ m rm re hr o11.2 := rf_t (rf_jo Q jo) RF11
      obtain ⟨hc2, A2, E2, alt2⟩ := bec_p hF hA N i1 a2 l2 Kk rfl Kr F F (cx_f N X CF9 RFa T11 P11 J11) (ra_f i11 RFa A) (by decide) (by decide) e e'
      rcases alt2 with ⟨f2, j2, z0, ⟨j0, j6⟩, b1, b2, e52⟩ | ⟨hr2, B2, X2, q1, q2⟩
      · exact Or.inl ⟨z0, mono (cm_f A2 C9) j0 j6 b1 b2 e52⟩
      · rcases ih g X2 (cm_f A2 C9) (ra_f i11 (rf_t RFa B2) A) (by omega) (by omega) q1 q2 with r | ⟨r1, hr3, r2, r3, r4⟩
        · exact Or.inl r
        · exact Or.inr ⟨cfs_t (cfs_t CF9 A2) r1, hr3, rf_t (rf_t RFa B2) r2, r3, r4⟩
/-- all SETS -/
theorem sets_p {u : Int32 × Hp} (hF : 700000 ≤ F) (hA : pmA c seL) (N : LBn ρ x ks L bm bc R Bc Bm) : ∀ (f g : Nat) {hc hr : Hp} {x1 : Int32}, CXs ρ c x ks pw L bm bc m rm re rb rk rs ro R Bc Bm hc hr → CM x ks pw L bc hc → 0 ≤ x1.toInt → x1.toInt ≤ (hI hc x 9).toInt → sX0_gatherSets_62 F f hc x x1 = some u → sX15_addAll_2 F g hr m x1 = some o' → (o'.1 = 0 ∧ u.1 = 0) ∨ (o'.1 = 1 ∧ ∃ hc2, CFs x ks hc hc2 ∧ JS x ks pw m rm re rk rs hc2 o'.2 ∧ sX0_gatherSets_104 F hc2 x = some u) := by
  have z1 : (1 : Int32).toInt = 1 := rfl
  have z6 : (600000 : Int64).toInt = 600000 := rfl
  intro f
  induction f with
  | zero => intro g hc hr x1 _ _ _ _ e; exact absurd e (by rw [sX0_gatherSets_62]; exact fun z => nomatch z)
  | succ f ih =>
    intro g hc hr x1 X C a1 b1 e e'
    cases g with
    | zero => exact absurd e' (by rw [sX15_addAll_2]; exact fun z => nomatch z)
    | succ g =>
      obtain ⟨Q, T, P, E, J, K⟩ := id X
      have j1 := J.1.1
      have js := J.1.2
      have js1 := js.2
      have c1 := clamp_i a1
      rw [sX0_gatherSets_62] at e
      rw [sX15_addAll_2, ← j1] at e'
      replace e := br_s e
      replace e' := br_s e'
      rcases e with ⟨l, e⟩ | ⟨l, e⟩
      · rcases e' with ⟨_, e'⟩ | ⟨l', _⟩
        rotate_left
        · exact absurd l l'
        have y := Option.some.inj e'
        refine Or.inr ⟨by rw [← y], hc, cfs_0, ?_, e⟩
        rw [← y]; exact J
      rcases e' with ⟨l', _⟩ | ⟨_, e'⟩
      · exact absurd l' l
      have l := nle_i l
      replace e := br_s e
      rcases e with ⟨d, _⟩ | ⟨_, e⟩
      · have d := le_i d
        have z10 : (1024 : Int32).toInt = 1024 := rfl
        rw [z10] at d
        omega
      replace e := br_s e
      rcases e with ⟨d, _⟩ | ⟨_, e⟩
      · have d := cmp_gt d
        have := J.2.1.2.2
        rw [z6] at d
        omega
      replace e := cl_s e; obtain ⟨r4, p, e⟩ := e
      rw [r_eq E.1.1 p] at e
      replace e := (gd_s e).2
      replace e := cl_s e; obtain ⟨o6, eo6, e⟩ := e
      replace e := nm_s e
      obtain ⟨v7, w7, e⟩ := e
      rw [w7] at e
      unfold sX0_addSetsOf at eo6
      obtain ⟨Kk, _⟩ := J.2.2.1 x1.toNatClampNeg (by omega)
      have i49 := thI T Q.1.1 (k := 16) (i := 49) (lo := 0) (hi := 4096) rfl
      have tx : (x1 + (1 : Int32)).toInt = x1.toInt + 1 := by rw [ta (by rw [z1]; omega), z1]
      have im := thI T Q.1.2.1 (k := 99) (i := x1.toNatClampNeg) (lo := 0) (hi := 5) rfl
      have sl := slot_p (row := fun i => hI hr re (5 * x1.toNatClampNeg + i)) (n := hI hr rm x1.toNatClampNeg) (k2r := sX15_addAll_2 F g) hF hA N (x1 := x1) ⟨a1, by omega⟩ Kk im.1 F F X C ⟨rfl, fun p hp => rfl, by rw [← j1]; exact l⟩ (by decide) (by decide) eo6 e'
      rcases sl with ⟨z0, big⟩ | ⟨A6, hr2, B2, X2, e2⟩
      · refine Or.inl ⟨z0, ?_⟩
        -- the class sees that there is no room
        obtain ⟨f', hf'⟩ : ∃ q, f = q + 1 := by
          cases f with
          | zero => exact absurd e (by rw [sX0_gatherSets_62]; exact fun z => nomatch z)
          | succ q => exact ⟨q, rfl⟩
        rw [hf', sX0_gatherSets_62] at e
        have no : sX0_gatherSets_104 F o6 x = some u → u.1 = 0 := fun e => by
          unfold sX0_gatherSets_104 at e
          replace e := br_s e
          rcases e with ⟨q, _⟩ | ⟨_, e⟩
          · have q := cmp_le (a := hJ o6 x 18) (b := (600000 : Int64)) (fun w => by
              have a := lt_i w
              have b := le_i q
              omega)
            rw [z6] at q
            omega
          · rw [← Option.some.inj e]
        replace e := br_s e
        rcases e with ⟨_, e⟩ | ⟨_, e⟩
        · exact no e
        replace e := br_s e
        rcases e with ⟨_, e⟩ | ⟨_, e⟩
        · exact no e
        replace e := br_s e
        rcases e with ⟨_, e⟩ | ⟨d, _⟩
        · exact no e
        · have d := cmp_le d
          rw [z6] at d
          omega
      · rcases ih g X2 (cm_f A6 C) (by omega) (by have := A6.2.2.2.1; omega) e e2 with r | ⟨r0, hc3, r1, r2, r3⟩
        · exact Or.inl r
        · exact Or.inr ⟨r0, hc3, cfs_t A6 r1, r2, r3⟩
end
end
section
/-! the law is plain, no man catches, letters: alike on both sides -/
theorem and32_e {w f : Int32} (w0 : 0 ≤ w.toInt) (e : w.toInt % 64 = f.toInt) : w &&& (32 : Int32) = f &&& (32 : Int32) := by
  have h : w &&& (63 : Int32) = f := Int32.toInt_inj.mp (by rw [and63_i w0]; exact e)
  have t : (63 : Int32) &&& (32 : Int32) = (32 : Int32) := by decide
  rw [← h, Int32.and_assoc, t]
theorem sw_9 : ∀ y : Fin 16, ((nI y.val) &&& (9 : Int32) = 0 ↔ (¬ Bq (nI y.val) 0 ∧ ¬ Bq (nI y.val) 3)) := by unfold Bq; decide +kernel
section
variable {F : Nat} {Z : Nat → Nat} {hc hr : Hp} {L lw m : Nat} {o o' : Int32 × Hp} {x1 : Int32}
theorem cat_12 {k2c k2r : Hp → Nat → Int32 → Option (Int32 × Hp)} (A : ZA Z L lw hc hr) (Q : LwQ Z hc hr) (em : hR hr m 4 = some lw) (a1 : 0 ≤ x1.toInt) (b1 : x1.toInt < (hI hr lw 2).toInt) : ∀ (f g : Nat) {x2 : Int32}, 0 ≤ x2.toInt → x2.toInt ≤ 8 → sX1_hasCatch_12 F k2c f hc L x1 x2 = some o → sX15_hasCatches_15 F k2r g hr m x1 x2 = some o' → (o = ((1 : Int32), hc) ∧ o' = ((1 : Int32), hr)) ∨ (k2c hc L (x1 + (1 : Int32)) = some o ∧ k2r hr m (x1 + (1 : Int32)) = some o') := by
  have z1 : (1 : Int32).toInt = 1 := rfl
  have z8 : (8 : Int32).toInt = 8 := rfl
  obtain ⟨⟨z2, a27, a28, a29, a30, a31⟩, ⟨z15, b73, b74, b75, _⟩, g6, g7, g8⟩ := A
  have men : Rg 0 12 (hI hc (Z 2) 3) := Q.2.2.1
  have mm : hI hc (Z 2) 3 = hI hr (Z 15) 2 := Q.1 (3, 2) (by decide)
  have nx := nc_i a1
  have m12 : x1.toInt < 12 := by
    have := men.2
    rw [mm, z15] at this
    omega
  have l6 := (Q.2.2.2.2.2.2.2.2.2.1 x1.toNatClampNeg (by rw [z15]; omega)).1 (by rw [g7]; exact (Nat.succ_ne_zero _).symm)
  obtain ⟨c1, c2, c3⟩ := l6
  intro f
  induction f with
  | zero => intro g x2 _ _ e; exact absurd e (by rw [sX1_hasCatch_12]; exact fun z => nomatch z)
  | succ f ih =>
    intro g x2 a2 b2 e e'
    cases g with
    | zero => exact absurd e' (by rw [sX15_hasCatches_15]; exact fun z => nomatch z)
    | succ g =>
      rw [sX1_hasCatch_12] at e
      rw [sX15_hasCatches_15] at e'
      replace e := cl_s e; obtain ⟨r1, p, e⟩ := e
      rw [r_eq a29 p] at e
      replace e := (gd_s e).2
      replace e' := cl_s e'; obtain ⟨s1, p, e'⟩ := e'
      rw [r_eq em p] at e'
      replace e' := cl_s e'; obtain ⟨s2, p, e'⟩ := e'
      rw [r_eq b74 p] at e'
      replace e' := (gd_s e').2
      rw [← c1] at e'
      replace e := br_s e
      replace e' := br_s e'
      rcases e with ⟨l, e⟩ | ⟨l, e⟩
      · rcases e' with ⟨_, e'⟩ | ⟨l', _⟩
        rotate_left
        · exact absurd l l'
        replace e := nm_s e; obtain ⟨v, wv, e⟩ := e
        replace e' := nm_s e'; obtain ⟨v', wv', e'⟩ := e'
        rw [wv] at e
        rw [wv'] at e'
        exact Or.inr ⟨e, e'⟩
      rcases e' with ⟨l', _⟩ | ⟨_, e'⟩
      · exact absurd l' l
      have l := nle_i l
      have c28 := c2.2
      replace e := cl_s e; obtain ⟨r5, p, e⟩ := e
      rw [r_eq a28 p] at e
      replace e := (gd_s e).2
      replace e' := cl_s e'; obtain ⟨s6, p, e'⟩ := e'
      rw [r_eq em p] at e'
      replace e' := cl_s e'; obtain ⟨s7, p, e'⟩ := e'
      rw [r_eq b75 p] at e'
      replace e' := (gd_s e').2
      have n2 := nc_i a2
      have t1 : (x1 * (8 : Int32)).toInt = 8 * x1.toInt := by rw [tm (by rw [z8]; omega), z8]; omega
      have t1' : ((8 : Int32) * x1).toInt = 8 * x1.toInt := by rw [tm (by rw [z8]; omega), z8]
      have i1 : ((x1 * (8 : Int32)) + x2).toInt = 8 * x1.toInt + x2.toInt := by rw [ta (by rw [t1]; omega), t1]
      have i2 : (((8 : Int32) * x1) + x2).toInt = 8 * x1.toInt + x2.toInt := by rw [ta (by rw [t1']; omega), t1']
      have k1 : ((x1 * (8 : Int32)) + x2).toNatClampNeg = 8 * x1.toNatClampNeg + x2.toNatClampNeg := by
        have := nc_i (x := (x1 * (8 : Int32)) + x2) (by omega)
        omega
      have k2 : (((8 : Int32) * x1) + x2).toNatClampNeg = 8 * x1.toNatClampNeg + x2.toNatClampNeg := by
        have := nc_i (x := ((8 : Int32) * x1) + x2) (by omega)
        omega
      rw [k1] at e
      rw [k2] at e'
      obtain ⟨⟨sf, sa, sb, sr, ss⟩, sw⟩ := c3 x2.toNatClampNeg (by omega)
      have f0 := sf.1
      have f6 := sf.2
      have a7 := sa.1
      have b7 := sb.1
      have r1' := sr.1
      have s0 := ss.1
      have bits := and32_e (w := hI hc (Z 28) (8 * x1.toNatClampNeg + x2.toNatClampNeg)) (f := hI hr (Z 75) (8 * x1.toNatClampNeg + x2.toNatClampNeg)) (by omega) (by omega)
      rw [bits] at e
      have tx : (x2 + (1 : Int32)).toInt = x2.toInt + 1 := by rw [ta (by rw [z1]; omega), z1]
      replace e := br_s e
      replace e' := br_s e'
      rcases e with ⟨b, e⟩ | ⟨b, e⟩
      · rcases e' with ⟨_, e'⟩ | ⟨b', _⟩
        rotate_left
        · exact absurd b b'
        replace e := nm_s e; obtain ⟨v, wv, e⟩ := e
        replace e' := nm_s e'; obtain ⟨v', wv', e'⟩ := e'
        rw [wv] at e
        rw [wv'] at e'
        exact ih g (by omega) (by omega) e e'
      rcases e' with ⟨b', _⟩ | ⟨_, e'⟩
      · exact absurd b' b
      exact Or.inl ⟨(Option.some.inj e).symm, (Option.some.inj e').symm⟩
theorem cat_2 (A : ZA Z L lw hc hr) (Q : LwQ Z hc hr) (em : hR hr m 4 = some lw) : ∀ (f g : Nat) {x1 : Int32}, 0 ≤ x1.toInt → x1.toInt ≤ 12 → sX1_hasCatch_2 F f hc L x1 = some o → sX15_hasCatches_2 F g hr m x1 = some o' → o.2 = hc ∧ o'.2 = hr ∧ o.1 = o'.1 := by
  have z1 : (1 : Int32).toInt = 1 := rfl
  have z0 : (0 : Int32).toInt = 0 := rfl
  have mm : hI hc L 3 = hI hr lw 2 := by
    have := Q.1 (3, 2) (by decide)
    rw [A.1.1, A.2.1.1] at this
    exact this
  have men : Rg 0 12 (hI hc L 3) := by rw [← A.1.1]; exact Q.2.2.1
  have m12 := men.2
  intro f
  induction f with
  | zero => intro g x1 _ _ e; exact absurd e (by rw [sX1_hasCatch_2]; exact fun z => nomatch z)
  | succ f ih =>
    intro g x1 a1 b1 e e'
    cases g with
    | zero => exact absurd e' (by rw [sX15_hasCatches_2]; exact fun z => nomatch z)
    | succ g =>
      rw [sX1_hasCatch_2] at e
      rw [sX15_hasCatches_2] at e'
      replace e' := cl_s e'; obtain ⟨s1, p, e'⟩ := e'
      rw [r_eq em p, ← mm] at e'
      replace e := br_s e
      replace e' := br_s e'
      rcases e with ⟨l, e⟩ | ⟨l, e⟩
      · rcases e' with ⟨_, e'⟩ | ⟨l', _⟩
        rotate_left
        · exact absurd l l'
        rw [← Option.some.inj e, ← Option.some.inj e']
        exact ⟨rfl, rfl, rfl⟩
      rcases e' with ⟨l', _⟩ | ⟨_, e'⟩
      · exact absurd l' l
      have l := nle_i l
      have tx : (x1 + (1 : Int32)).toInt = x1.toInt + 1 := by rw [ta (by rw [z1]; omega), z1]
      rcases cat_12 A Q em a1 (by rw [← mm]; exact l) F F (by rw [z0]; omega) (by rw [z0]; omega) e e' with ⟨u, v⟩ | ⟨u, v⟩
      · rw [u, v]; exact ⟨rfl, rfl, rfl⟩
      · exact ih g (by omega) (by omega) u v
theorem cat_p (A : ZA Z L lw hc hr) (Q : LwQ Z hc hr) (em : hR hr m 4 = some lw) (e : sX1_hasCatch F hc L = some o) (e' : sX15_hasCatches F hr m = some o') : o.2 = hc ∧ o'.2 = hr ∧ o.1 = o'.1 := by
  unfold sX1_hasCatch at e
  unfold sX15_hasCatches at e'
  exact cat_2 A Q em F F (by decide) (by decide) e e'
theorem plain_p (A : ZA Z L lw hc hr) (Q : LwQ Z hc hr) (c20 : 0 ≤ (hI hr lw 20).toInt) (e : sX1_isPlain hc L = some o) : o.2 = hc ∧ (¬ o.1 = 0 ↔ (hI hr lw 15 = 0 ∧ hI hr lw 18 = 0 ∧ ¬ (0 : Int32) < hI hr lw 20)) := by
  have z0 : (0 : Int32).toInt = 0 := rfl
  obtain ⟨⟨z2, _⟩, ⟨z15, _⟩, g6, g7, g8⟩ := A
  have l5 := Q.2.2.2.2.2.2.2.2.1
  have q7 : hI hc L 7 = hI hr lw 20 := by
    have := Q.1 (7, 20) (by decide)
    rw [z2, z15] at this
    exact this
  obtain ⟨r10, l5⟩ := l5
  rw [z2] at r10
  have k0 := l5 0 (by decide) (by rw [g8]; decide)
  have k3 := l5 3 (by decide) (by rw [g8]; decide)
  rw [z2, z15] at k0 k3
  have r0 := r10.1
  have r1 := r10.2
  have nn := nc_i r0
  have sw := sw_9 ⟨(hI hc L 10).toNatClampNeg, by omega⟩
  have en : nI (hI hc L 10).toNatClampNeg = hI hc L 10 := Int32.toInt_inj.mp (by rw [z_toInt (by omega)]; omega)
  dsimp only at sw
  rw [en] at sw
  have c1 : ((hI hc L 10) &&& (9 : Int32) = 0) ↔ (hI hr lw 15 = 0 ∧ hI hr lw 18 = 0) := by
    rw [sw, k0, k3]
    constructor
    · rintro ⟨u, v⟩
      exact ⟨Classical.not_not.mp u, Classical.not_not.mp v⟩
    · rintro ⟨u, v⟩
      exact ⟨fun w => w u, fun w => w v⟩
  have c2 : hI hc L 7 = 0 ↔ ¬ (0 : Int32) < hI hr lw 20 := by
    rw [q7]
    constructor
    · intro u v
      rw [u] at v
      exact absurd v (by decide)
    · intro u
      have u := nlt_i u
      exact Int32.toInt_inj.mp (by rw [z0]; rw [z0] at u; omega)
  unfold sX1_isPlain sX1_isPlain_20 sX1_isPlain_21 at e
  replace e := cl_s e; obtain ⟨o1, eo1, e⟩ := e
  unfold sX1_has sX1_has_14 at eo1
  replace eo1 := br_s eo1
  rcases eo1 with ⟨b, eo1⟩ | ⟨b, eo1⟩
  · have y := Option.some.inj (gd_s eo1).2
    rw [← y] at e
    dsimp only at e
    replace e := br_s e
    rcases e with ⟨_, e⟩ | ⟨n, _⟩
    rotate_left
    · exact absurd rfl n
    replace e := br_s e
    rcases e with ⟨d, e⟩ | ⟨d, e⟩
    · have y := Option.some.inj (gd_s e).2
      rw [← y]
      exact ⟨rfl, fun _ => ⟨(c1.mp b).1, (c1.mp b).2, c2.mp d⟩, fun _ => show ¬ (1 : Int32) = 0 by decide⟩
    · have y := Option.some.inj (gd_s e).2
      rw [← y]
      exact ⟨rfl, fun w => absurd rfl w, fun w => absurd (c2.mpr w.2.2) d⟩
  · have y := Option.some.inj (gd_s eo1).2
    rw [← y] at e
    dsimp only at e
    replace e := br_s e
    rcases e with ⟨n, _⟩ | ⟨_, e⟩
    · exact absurd n (by decide)
    have y := Option.some.inj (gd_s e).2
    rw [← y]
    exact ⟨rfl, fun w => absurd rfl w, fun w => absurd (c1.mpr ⟨w.1, w.2.1⟩) b⟩
/-- a letter's man -/
theorem ml_p {x b s : Int32} (A : ZA Z L lw hc hr) (Q : LwQ Z hc hr) (em : hR hr m 4 = some lw) (H : ∀ l : Int32, Rg 97 122 l → ((l = x) ↔ (b = l ∨ b = l - (32 : Int32))) ∧ (b = l → s = 1) ∧ (b = l - (32 : Int32) → ¬ b = l → s = 0)) : ∀ (f g : Nat) {j : Int32}, 0 ≤ j.toInt → j.toInt ≤ 12 → sX1_manOf_2 F f hc L x j = some o → sX15_manLetter_2 F g hr m b j = some o' → o.2 = hc ∧ o'.2 = hr ∧ ((o.1 = (-1 : Int32) ∧ o'.1 = 0) ∨ (Rg 0 11 o.1 ∧ o'.1 = ((1 : Int32) + ((2 : Int32) * o.1)) + s)) := by
  have z1 : (1 : Int32).toInt = 1 := rfl
  obtain ⟨⟨z2, a27, _⟩, ⟨z15, b73, _⟩, _⟩ := A
  have mm : hI hc L 3 = hI hr lw 2 := by
    have := Q.1 (3, 2) (by decide)
    rw [z2, z15] at this
    exact this
  have men : Rg 0 12 (hI hc L 3) := by rw [← z2]; exact Q.2.2.1
  have m12 := men.2
  have l1 := Q.2.2.2.1
  intro f
  induction f with
  | zero => intro g j _ _ e; exact absurd e (by rw [sX1_manOf_2]; exact fun z => nomatch z)
  | succ f ih =>
    intro g j j0 j12 e e'
    cases g with
    | zero => exact absurd e' (by rw [sX15_manLetter_2]; exact fun z => nomatch z)
    | succ g =>
      rw [sX1_manOf_2] at e
      rw [sX15_manLetter_2] at e'
      replace e' := cl_s e'; obtain ⟨s1, p, e'⟩ := e'
      rw [r_eq em p, ← mm] at e'
      replace e := br_s e
      replace e' := br_s e'
      rcases e with ⟨l, e⟩ | ⟨l, e⟩
      · rcases e' with ⟨_, e'⟩ | ⟨l', _⟩
        rotate_left
        · exact absurd l l'
        rw [← Option.some.inj e, ← Option.some.inj e']
        exact ⟨rfl, rfl, Or.inl ⟨rfl, rfl⟩⟩
      rcases e' with ⟨l', _⟩ | ⟨_, e'⟩
      · exact absurd l' l
      have l := nle_i l
      have nj := nc_i j0
      obtain ⟨q1, q2⟩ := l1 j.toNatClampNeg (by rw [z2]; omega)
      replace e := cl_s e; obtain ⟨r2, p, e⟩ := e
      rw [r_eq a27 p] at e
      replace e := (gd_s e).2
      replace e' := cl_s e'; obtain ⟨s3, p, e'⟩ := e'
      rw [r_eq em p] at e'
      replace e' := cl_s e'; obtain ⟨s4, p, e'⟩ := e'
      rw [r_eq b73 p] at e'
      replace e' := (gd_s e').2
      rw [← q1] at e'
      obtain ⟨H1, H2, H3⟩ := H _ q2
      have tx : (j + (1 : Int32)).toInt = j.toInt + 1 := by rw [ta (by rw [z1]; omega), z1]
      replace e := br_s e
      replace e' := br_s e'
      rcases e' with ⟨b', e'⟩ | ⟨b', e'⟩
      · rcases e with ⟨_, e⟩ | ⟨n, _⟩
        rotate_left
        · exact absurd (H1.mpr (Or.inl b')) n
        replace e' := cl_s e'; obtain ⟨o13, eo, e'⟩ := e'
        unfold sX15_valueOf at eo
        rw [← Option.some.inj e, ← Option.some.inj e', ← Option.some.inj eo, H2 b']
        exact ⟨rfl, rfl, Or.inr ⟨⟨j0, by show j.toInt ≤ 11; omega⟩, rfl⟩⟩
      replace e' := cl_s e'; obtain ⟨s7, p, e'⟩ := e'
      rw [r_eq em p] at e'
      replace e' := cl_s e'; obtain ⟨s8, p, e'⟩ := e'
      rw [r_eq b73 p] at e'
      replace e' := (gd_s e').2
      rw [← q1] at e'
      replace e' := br_s e'
      rcases e' with ⟨b2, e'⟩ | ⟨b2, e'⟩
      · rcases e with ⟨_, e⟩ | ⟨n, _⟩
        rotate_left
        · exact absurd (H1.mpr (Or.inr b2)) n
        replace e' := cl_s e'; obtain ⟨o13, eo, e'⟩ := e'
        unfold sX15_valueOf at eo
        rw [← Option.some.inj e, ← Option.some.inj e', ← Option.some.inj eo, H3 b2 b']
        exact ⟨rfl, rfl, Or.inr ⟨⟨j0, by show j.toInt ≤ 11; omega⟩, rfl⟩⟩
      rcases e with ⟨n, _⟩ | ⟨_, e⟩
      · rcases H1.mp n with n | n
        · exact absurd n b'
        · exact absurd n b2
      replace e := nm_s e; obtain ⟨v, wv, e⟩ := e
      replace e' := nm_s e'; obtain ⟨v', wv', e'⟩ := e'
      rw [wv] at e
      rw [wv'] at e'
      exact ih g (by omega) (by omega) e e'
/-- a byte's code: the one's is the other's less 1 -/
theorem code_p {x b : Int32} (A : ZA Z L lw hc hr) (Q : LwQ Z hc hr) (em : hR hr m 4 = some lw) (ix : Rg 0 255 x) (eb : b.toInt = sg x.toInt) (e : sX1_codeOf F hc L x = some o) (e' : sX15_manLetter F hr m b = some o') : o.2 = hc ∧ o'.2 = hr ∧ ((o.1 = (-1 : Int32) ∧ o'.1 = 0) ∨ (Rg 1 24 o'.1 ∧ o.1 = o'.1 - (1 : Int32))) := by
  have z1 : (1 : Int32).toInt = 1 := rfl
  have z0 : (0 : Int32).toInt = 0 := rfl
  have z2 : (2 : Int32).toInt = 2 := rfl
  have z32 : (32 : Int32).toInt = 32 := rfl
  have z65 : (65 : Int32).toInt = 65 := rfl
  have z90 : (90 : Int32).toInt = 90 := rfl
  have x0 := ix.1
  have x1 := ix.2
  unfold sX15_manLetter at e'
  have low : ∀ l : Int32, Rg 97 122 l → (l - (32 : Int32)).toInt = l.toInt - 32 := fun l hl => by
    have := hl.1
    have := hl.2
    rw [ts (by rw [z32]; omega), z32]
  have eqs : ∀ l : Int32, Rg 97 122 l → (b = l ↔ x.toInt = l.toInt) ∧ (b = l - (32 : Int32) ↔ x.toInt = l.toInt - 32) := fun l hl => by
    have h1 := hl.1
    have h2 := hl.2
    have h3 := low l hl
    rw [← Int32.toInt_inj, ← Int32.toInt_inj, eb, h3]
    exact ⟨sg_e ⟨x0, x1⟩ ⟨by omega, by omega⟩, sg_e ⟨x0, x1⟩ ⟨by omega, by omega⟩⟩
  have fin : ∀ {man s : Int32} {u : Int32}, Rg 0 11 man → Rg 0 1 s → u = ((1 : Int32) + ((2 : Int32) * man)) + s → Rg 1 24 u ∧ ((2 : Int32) * man) + s = u - (1 : Int32) := fun {man s u} hm hs eu => by
    have a1 := hm.1
    have a2 := hm.2
    have b1 := hs.1
    have b2 := hs.2
    have t1 : ((2 : Int32) * man).toInt = 2 * man.toInt := by rw [tm (by rw [z2]; omega), z2]
    have t2 : ((1 : Int32) + ((2 : Int32) * man)).toInt = 1 + 2 * man.toInt := by rw [ta (by rw [t1, z1]; omega), t1, z1]
    have t3 : u.toInt = 1 + 2 * man.toInt + s.toInt := by rw [eu, ta (by rw [t2]; omega), t2]
    refine ⟨⟨by omega, by omega⟩, Int32.toInt_inj.mp ?_⟩
    rw [ta (by rw [t1]; omega), t1, ts (by rw [z1]; omega), z1]
    omega
  -- no letter of the greater kind
  have lowC : ¬ (65 ≤ x.toInt ∧ x.toInt ≤ 90) → sX1_codeOf_17 F hc L x (0 : Int32) = some o → o.2 = hc ∧ o'.2 = hr ∧ ((o.1 = (-1 : Int32) ∧ o'.1 = 0) ∨ (Rg 1 24 o'.1 ∧ o.1 = o'.1 - (1 : Int32))) := fun nb e => by
    unfold sX1_codeOf_17 sX1_codeOf_31 sX1_codeOf_57 sX1_codeOf_56 sX1_codeOf_57 at e
    replace e := br_s e
    rcases e with ⟨_, e⟩ | ⟨n, _⟩
    rotate_left
    · exact absurd rfl n
    replace e := cl_s e; obtain ⟨o1, eo, e⟩ := e
    unfold sX1_manOf at eo
    obtain ⟨w1, w2, w3⟩ := ml_p (s := (1 : Int32)) (x := x) (b := b) A Q em (fun l hl => by
      obtain ⟨g1, g2⟩ := eqs l hl
      have h1 := hl.1
      have h2 := hl.2
      rw [g1, g2, ← Int32.toInt_inj]
      exact ⟨⟨fun z => Or.inl z.symm, fun z => by omega⟩, fun _ => rfl, fun z => by omega⟩) F F (by decide) (by decide) eo e'
    rw [w1] at e
    replace e := br_s e
    rcases e with ⟨b1, e⟩ | ⟨b1, e⟩
    · rw [← Option.some.inj e]
      refine ⟨rfl, w2, ?_⟩
      rcases w3 with ⟨_, w3⟩ | ⟨w3, _⟩
      · exact Or.inl ⟨rfl, w3⟩
      · exact absurd w3.1 (by rw [b1]; decide)
    rcases w3 with ⟨w3, _⟩ | ⟨w3, w4⟩
    · exact absurd w3 b1
    replace e := br_s e
    rcases e with ⟨_, e⟩ | ⟨n, _⟩
    rotate_left
    · exact absurd rfl n
    rw [← Option.some.inj e]
    exact ⟨rfl, w2, Or.inr (fin w3 ⟨by decide, by decide⟩ w4)⟩
  unfold sX1_codeOf sX1_codeOf_16 at e
  replace e := br_s e
  rcases e with ⟨c, e⟩ | ⟨c, e⟩
  · have c := lt_i c
    rw [z65] at c
    exact lowC (by omega) e
  have c := nlt_i c
  rw [z65] at c
  replace e := br_s e
  rcases e with ⟨d, e⟩ | ⟨d, e⟩
  · have d := lt_i d
    rw [z90] at d
    exact lowC (by omega) e
  have d := nlt_i d
  rw [z90] at d
  unfold sX1_codeOf_17 sX1_codeOf_31 sX1_codeOf_57 sX1_codeOf_56 sX1_codeOf_57 at e
  replace e := br_s e
  rcases e with ⟨n, _⟩ | ⟨_, e⟩
  · exact absurd n (by decide)
  replace e := cl_s e; obtain ⟨o1, eo, e⟩ := e
  unfold sX1_manOf at eo
  have x32 : (x + (32 : Int32)).toInt = x.toInt + 32 := by rw [ta (by rw [z32]; omega), z32]
  obtain ⟨w1, w2, w3⟩ := ml_p (s := (0 : Int32)) (x := x + (32 : Int32)) (b := b) A Q em (fun l hl => by
    obtain ⟨g1, g2⟩ := eqs l hl
    have h1 := hl.1
    have h2 := hl.2
    rw [g1, g2, ← Int32.toInt_inj, x32]
    exact ⟨⟨fun z => Or.inr (by omega), fun z => by omega⟩, fun z => by omega, fun _ _ => rfl⟩) F F (by decide) (by decide) eo e'
  rw [w1] at e
  replace e := br_s e
  rcases e with ⟨b1, e⟩ | ⟨b1, e⟩
  · rw [← Option.some.inj e]
    refine ⟨rfl, w2, ?_⟩
    rcases w3 with ⟨_, w3⟩ | ⟨w3, _⟩
    · exact Or.inl ⟨rfl, w3⟩
    · exact absurd w3.1 (by rw [b1]; decide)
  rcases w3 with ⟨w3, _⟩ | ⟨w3, w4⟩
  · exact absurd w3 b1
  replace e := br_s e
  rcases e with ⟨n, _⟩ | ⟨_, e⟩
  · exact absurd n (by decide)
  rw [← Option.some.inj e]
  exact ⟨rfl, w2, Or.inr (fin w3 ⟨by decide, by decide⟩ w4)⟩
end
end
section
/-! the SET that is asked for is read alike -/
def RowB (ro : Nat) (key : Int32) (n : Nat) (hr : Hp) : Prop := ∃ f, Kq key n f ∧ ∀ v, cn f v n = cn (fun i => hI hr ro i) v n
section
variable {ρ : Nat → Nat} {c : Cm} {F : Nat} {Z : Nat → Nat} {hc h0 : Hp} {L lw m x t bt tp ro : Nat} {o o' : Int32 × Hp} {x1 : Int32}
theorem read_p (hA : pmA c [(108, 999)]) (r0 : ρ m = 16) (e57 : hR h0 m 57 = some ro) (qo : ρ ro = 108) (eT : hR h0 m 0 = some tp) (qt : ρ tp = 82) (K : ∀ g, Jo ro h0 g → ZA Z L lw hc g ∧ LwQ Z hc g ∧ hR g m 4 = some lw) (ex : hR hc x 0 = some L) (ebt : hR hc t 0 = some bt) (ntx : ¬ t = x) (tl : hI hc t 1 = x1) (i1 : Rg 0 1200 x1) (bts : ∀ i, Rg 0 255 (hI hc bt i)) (tb : ∀ i : Nat, (i : Int) < x1.toInt → (hI h0 tp i).toInt = sg (hI hc bt i).toInt) : ∀ (f g : Nat) {hr : Hp} {x2 x3 i : Int32}, TH ρ c hr → Jo ro h0 hr → Rg 0 5 i → i.toInt ≤ x1.toInt → RW m i.toInt hr → RowB ro x3 i.toNatClampNeg hr → sX0_read_7 F f hc x t x2 x3 i = some o → sX15_solve_54 F g hr m x1 x2 i = some o' → (¬ o.1 = (-1 : Int32) ∧ o'.1 = (-200 : Int32) - o.1) ∨ (o.1 = (-1 : Int32) ∧ ∃ (key : Int32) (g : Hp), o.2 = wI hc x 14 key ∧ Rg 2 5 x1 ∧ TH ρ c g ∧ Jo ro h0 g ∧ RW m x1.toInt g ∧ RowB ro key x1.toNatClampNeg g ∧ (nm (wI g m 49 (0 : Int32)) fun h_3 => nm (wJ h_3 m 59 (0 : Int64)) fun h_4 => nm (wI h_4 m 50 (0 : Int32)) fun h_5 => sX15_solve_203 F F h_5 m x1 (0 : Int32)) = some o') := by
  have z1 : (1 : Int32).toInt = 1 := rfl
  have z0 : (0 : Int32).toInt = 0 := rfl
  have z5 : (5 : Int32).toInt = 5 := rfl
  have zm : (-1 : Int32).toInt = -1 := by decide
  have ntp : ¬ tp = ro := fun z => by rw [z, qo] at qt; exact absurd qt (by decide)
  have nmo : ¬ m = ro := fun z => by rw [z, qo] at r0; exact absurd r0 (by decide)
  have x10 := i1.1
  intro f
  induction f with
  | zero => intro g hr x2 x3 i _ _ _ _ _ _ e; exact absurd e (by rw [sX0_read_7]; exact fun z => nomatch z)
  | succ f ih =>
    intro g hr x2 x3 i T J ii bi W B e e'
    cases g with
    | zero => exact absurd e' (by rw [sX15_solve_54]; exact fun z => nomatch z)
    | succ g =>
      rw [sX0_read_7, tl] at e
      rw [sX15_solve_54] at e'
      obtain ⟨A, Q, em⟩ := K hr J
      have i0 := ii.1
      have i5 := ii.2
      have ni := nc_i i0
      replace e := br_s e
      replace e' := br_s e'
      rcases e with ⟨l, e⟩ | ⟨l, e⟩
      · rcases e' with ⟨_, e'⟩ | ⟨l', _⟩
        rotate_left
        · exact absurd l l'
        have l := le_i l
        have ei : i = x1 := Int32.toInt_inj.mp (by omega)
        replace e := nm_s e; obtain ⟨h2, w2, e⟩ := e
        have l2 : hI h2 t 1 = x1 := by rw [w2, rI_a ntx]; exact tl
        rw [l2] at e
        unfold sX0_read_117 at e
        replace e := br_s e
        replace e' := br_s e'
        rcases e with ⟨b, e⟩ | ⟨b, e⟩
        · rcases e' with ⟨_, e'⟩ | ⟨b', _⟩
          rotate_left
          · exact absurd b b'
          have b := le_i b
          refine Or.inr ⟨by rw [← Option.some.inj e], x3, hr, by rw [← Option.some.inj e]; exact w2, ⟨b, by omega⟩, T, J, by rw [← ei]; exact W, by rw [← ei]; exact B, e'⟩
        · rcases e' with ⟨b', _⟩ | ⟨_, e'⟩
          · exact absurd b' b
          refine Or.inl ⟨fun z => ?_, by rw [← Option.some.inj e, ← Option.some.inj e']⟩
          rw [← Option.some.inj e] at z
          have z : x1 = (-1 : Int32) := z
          rw [z, zm] at x10
          omega
      rcases e' with ⟨l', _⟩ | ⟨_, e'⟩
      · exact absurd l' l
      have l := nle_i l
      replace e := cl_s e; obtain ⟨r4, p, e⟩ := e
      rw [r_eq ex p] at e
      replace e := cl_s e; obtain ⟨o5, eo5, e⟩ := e
      have y5 : o5 = (hI hc bt i.toNatClampNeg, hc) := by
        unfold sX9_byteAt sX9_byteAt_22 sX9_byteAt_21 at eo5
        replace eo5 := br_s eo5
        rcases eo5 with ⟨q, _⟩ | ⟨_, eo5⟩
        · have q := lt_i q
          rw [z0] at q
          omega
        rw [tl] at eo5
        replace eo5 := br_s eo5
        rcases eo5 with ⟨q, _⟩ | ⟨_, eo5⟩
        · have q := le_i q
          omega
        replace eo5 := cl_s eo5; obtain ⟨r, p, eo5⟩ := eo5
        rw [r_eq ebt p] at eo5
        exact (Option.some.inj (gd_s eo5).2).symm
      rw [y5] at e
      dsimp only at e
      replace e := cl_s e; obtain ⟨o6, eo6, e⟩ := e
      replace e' := cl_s e'; obtain ⟨r6, p, e'⟩ := e'
      rw [r_eq (by rw [J.1]; exact eT) p] at e'
      replace e' := (gd_s e').2
      replace e' := cl_s e'; obtain ⟨o8, eo8, e'⟩ := e'
      obtain ⟨w6, w8, alt⟩ := code_p A Q em (bts i.toNatClampNeg) (by rw [J.2.2.2 tp _ ntp]; exact tb i.toNatClampNeg (by omega)) eo6 eo8
      rw [w6] at e
      rw [w8] at e'
      have flt : ∀ {hh : Hp}, some (i, hh) = some o → some ((-200 : Int32) - i, hr) = some o' → ¬ o.1 = (-1 : Int32) ∧ o'.1 = (-200 : Int32) - o.1 := fun {hh} u u' => by
        rw [← Option.some.inj u, ← Option.some.inj u']
        refine ⟨fun z => ?_, rfl⟩
        have z : i = (-1 : Int32) := z
        rw [z, zm] at i0
        omega
      rcases alt with ⟨c6, c8⟩ | ⟨v8, c6⟩
      · -- no man of that letter
        rw [c6] at e
        rw [c8] at e'
        unfold sX15_solve_69 sX15_solve_108 sX15_solve_109 sX15_solve_126 at e'
        replace e' := br_s e'
        rcases e' with ⟨_, e'⟩ | ⟨n, _⟩
        rotate_left
        · exact absurd (by decide) n
        replace e' := br_s e'
        rcases e' with ⟨_, e'⟩ | ⟨n, _⟩
        rotate_left
        · exact absurd rfl n
        unfold sX0_read_43 at e
        replace e := br_s e
        rcases e with ⟨_, e⟩ | ⟨_, e⟩
        · exact Or.inl (flt e e')
        replace e := br_s e
        rcases e with ⟨_, e⟩ | ⟨n, _⟩
        · exact Or.inl (flt e e')
        · exact absurd rfl n
      rw [c6] at e
      generalize hv : o8.1 = v at *
      have v1 := v8.1
      have v24 := v8.2
      have nv0 : ¬ v = 0 := fun z => by rw [z, z0] at v1; omega
      have nvl : ¬ v ≤ 0 := fun z => by
        have := le_i z
        rw [z0] at this
        omega
      have tv : (v - (1 : Int32)).toInt = v.toInt - 1 := by rw [ts (by rw [z1]; omega), z1]
      have royq : hI hc L 4 = hI hr lw 10 := by
        have := Q.1 (4, 10) (by decide)
        rw [A.1.1, A.2.1.1] at this
        exact this
      unfold sX15_solve_69 sX15_manOf at e'
      replace e' := br_s e'
      rcases e' with ⟨n, _⟩ | ⟨_, e'⟩
      · exact absurd n nvl
      replace e' := cl_s e'; obtain ⟨o2, eo2, e'⟩ := e'
      rw [← Option.some.inj eo2] at e'
      dsimp only at e'
      unfold sX15_solve_81 sX15_sideOf sX15_solve_97 sX15_solve_108 at e'
      replace e' := cl_s e'; obtain ⟨u1, p, e'⟩ := e'
      rw [r_eq em p, ← royq] at e'
      -- the reference, where its flag says whether he is there twice
      have f1 : sX15_solve_109 F (sX15_solve_54 F g) hr m x1 x2 i v (1 : Int32) = some o' → some ((-200 : Int32) - i, hr) = some o' := fun e' => by
        unfold sX15_solve_109 sX15_solve_126 at e'
        replace e' := br_s e'
        rcases e' with ⟨n, _⟩ | ⟨_, e'⟩
        · exact absurd n nv0
        replace e' := br_s e'
        rcases e' with ⟨n, _⟩ | ⟨_, e'⟩
        · exact absurd n (by decide)
        exact e'
      have f0 : sX15_solve_109 F (sX15_solve_54 F g) hr m x1 x2 i v (0 : Int32) = some o' → (i = (5 : Int32) ∧ some ((-200 : Int32) - i, hr) = some o') ∨ (¬ i = (5 : Int32) ∧ sX15_solve_138 F (sX15_solve_54 F g) hr m x1 i v ((v - (1 : Int32)) >>> ((1 : Int32) &&& 31)) x2 = some o') := fun e' => by
        unfold sX15_solve_109 sX15_solve_126 sX15_manOf at e'
        replace e' := br_s e'
        rcases e' with ⟨n, _⟩ | ⟨_, e'⟩
        · exact absurd n nv0
        replace e' := br_s e'
        rcases e' with ⟨_, e'⟩ | ⟨n, _⟩
        rotate_left
        · exact absurd rfl n
        replace e' := br_s e'
        rcases e' with ⟨b, e'⟩ | ⟨b, e'⟩
        · exact Or.inl ⟨b, e'⟩
        replace e' := cl_s e'; obtain ⟨o4, eo4, e'⟩ := e'
        rw [← Option.some.inj eo4] at e'
        exact Or.inr ⟨b, e'⟩
      -- one man more
      have nxt : ∀ {y2 t0 t1 : Int32}, i.toInt ≤ 4 → t1 ||| t0 = y2 → sX0_read_83 F (sX0_read_7 F f) hc x t y2 x3 i (v - (1 : Int32)) = some o → sX15_solve_159 F (sX15_solve_54 F g) hr m x1 i v t0 t1 = some o' → (¬ o.1 = (-1 : Int32) ∧ o'.1 = (-200 : Int32) - o.1) ∨ (o.1 = (-1 : Int32) ∧ ∃ (key : Int32) (g : Hp), o.2 = wI hc x 14 key ∧ Rg 2 5 x1 ∧ TH ρ c g ∧ Jo ro h0 g ∧ RW m x1.toInt g ∧ RowB ro key x1.toNatClampNeg g ∧ (nm (wI g m 49 (0 : Int32)) fun h_3 => nm (wJ h_3 m 59 (0 : Int64)) fun h_4 => nm (wI h_4 m 50 (0 : Int32)) fun h_5 => sX15_solve_203 F F h_5 m x1 (0 : Int32)) = some o') := fun {y2 t0 t1} i4 ey e e' => by
        unfold sX0_read_83 at e
        unfold sX15_solve_159 at e'
        replace e := cl_s e; obtain ⟨k1, ek, e⟩ := e
        replace e := nm_s e; obtain ⟨a2, wa2, e⟩ := e
        replace e' := nm_s e'; obtain ⟨b1, wb1, e'⟩ := e'
        replace e' := cl_s e'; obtain ⟨r2, p, e'⟩ := e'
        rw [r_eq (by rw [J.1]; exact e57) p] at e'
        replace e' := (gd_s e').2
        replace e' := nm_s e'; obtain ⟨h4, w4, e'⟩ := e'
        replace e' := nm_s e'; obtain ⟨b5, wb5, e'⟩ := e'
        have tx : (i + (1 : Int32)).toInt = i.toInt + 1 := by rw [ta (by rw [z1]; omega), z1]
        have cx : (i + (1 : Int32)).toNatClampNeg = i.toNatClampNeg + 1 := by
          have := nc_i (x := i + (1 : Int32)) (by omega)
          omega
        obtain ⟨fr, Kk, Ck⟩ := B
        obtain ⟨wk, pp, p4, hA', hB', eK⟩ := wi_k (pad_24 Kk.2.2.1) (by unfold pad; rw [if_neg (by omega)]) Kk.2.1 (x1 := v - (1 : Int32)) ⟨by omega, by omega⟩ ek
        rw [show (v - (1 : Int32)).toInt + 1 = v.toInt by omega] at hA' hB' eK
        obtain ⟨Kn, Cn⟩ := kq_ins (w := v) (by omega) Kk p4 hA' hB' v1 v24 eK
        rw [wk, wa2] at e
        rw [wb5, wb1, ey] at e'
        have T4 : TH ρ c h4 := by rw [w4]; exact th_wI T qo (k := 108) (lo := 0) (hi := 24) rfl ⟨by omega, v24⟩ (by decide) (by decide) (pm_a hA rfl)
        have J4 : Jo ro h0 h4 := ⟨fun a j => by rw [w4]; exact J.1 a j, fun a => by rw [w4]; exact J.2.1 a, fun a j => by rw [w4]; exact J.2.2.1 a j, fun a j n => by rw [w4, rI_a n]; exact J.2.2.2 a j n⟩
        refine ih g T4 J4 ⟨by omega, by omega⟩ (by omega) (fun ro' er k hk => ?_) ?_ e e'
        · have y : ro' = ro := r_eq (by rw [J4.1]; exact e57) er
          rw [y, w4]
          by_cases z : k = i.toNatClampNeg
          · rw [z, rI_s]; exact v1
          · rw [rI_o z]
            exact W ro (by rw [J.1]; exact e57) k (by omega)
        · rw [cx]
          refine ⟨ins fr pp v, Kn, fun u => ?_⟩
          rw [Cn u]
          show _ = cn (fun j => hI h4 ro j) u i.toNatClampNeg + if hI h4 ro i.toNatClampNeg = u then 1 else 0
          rw [Ck u, w4, rI_s]
          rw [cn_eq (f := fun j => hI (wI hr ro i.toNatClampNeg v) ro j) (g := fun j => hI hr ro j) i.toNatClampNeg (fun j hj => rI_o (by omega))]
      unfold sX0_read_43 at e
      replace e := br_s e
      rcases e with ⟨c5, e⟩ | ⟨c5, e⟩
      · -- a sixth man
        have c5 := le_i c5
        rw [z5] at c5
        have e5 : i = (5 : Int32) := Int32.toInt_inj.mp (by rw [z5]; omega)
        refine Or.inl (flt e ?_)
        have g0 : sX15_solve_109 F (sX15_solve_54 F g) hr m x1 x2 i v (0 : Int32) = some o' → some ((-200 : Int32) - i, hr) = some o' := fun w => by
          rcases f0 w with w | w
          · exact w.2
          · exact absurd e5 w.1
        replace e' := br_s e'
        rcases e' with ⟨_, e'⟩ | ⟨_, e'⟩
        · replace e' := cl_s e'; obtain ⟨o3, eo3, e'⟩ := e'
          rw [← Option.some.inj eo3] at e'
          dsimp only at e'
          replace e' := br_s e'
          rcases e' with ⟨_, e'⟩ | ⟨_, e'⟩
          · exact f1 e'
          · exact g0 e'
        · exact g0 e'
      have c5 := nle_i c5
      rw [z5] at c5
      have n5 : ¬ i = (5 : Int32) := fun z => by rw [z, z5] at c5; omega
      have g0 : sX15_solve_109 F (sX15_solve_54 F g) hr m x1 x2 i v (0 : Int32) = some o' → sX15_solve_138 F (sX15_solve_54 F g) hr m x1 i v ((v - (1 : Int32)) >>> ((1 : Int32) &&& 31)) x2 = some o' := fun w => by
        rcases f0 w with w | w
        · exact absurd w.1 n5
        · exact w.2
      replace e := br_s e
      rcases e with ⟨n, _⟩ | ⟨_, e⟩
      · rw [← Int32.toInt_inj, tv, zm] at n
        omega
      replace e := cl_s e; obtain ⟨r9, p, e⟩ := e
      rw [r_eq ex p] at e
      replace e := br_s e
      replace e' := br_s e'
      rcases e with ⟨b, e⟩ | ⟨b, e⟩
      · -- a royal man
        rcases e' with ⟨_, e'⟩ | ⟨n, _⟩
        rotate_left
        · exact absurd b n
        replace e' := cl_s e'; obtain ⟨o3, eo3, e'⟩ := e'
        rw [← Option.some.inj eo3] at e'
        dsimp only at e'
        replace e := br_s e
        replace e' := br_s e'
        rcases e with ⟨d, e⟩ | ⟨d, e⟩
        · rcases e' with ⟨n, _⟩ | ⟨_, e'⟩
          · rw [n] at d; exact absurd d (by decide)
          replace e' := g0 e'
          unfold sX15_solve_138 sX15_sideOf sX15_solve_154 at e'
          replace e' := cl_s e'; obtain ⟨u2, p, e'⟩ := e'
          rw [r_eq em p, ← royq] at e'
          replace e' := br_s e'
          rcases e' with ⟨_, e'⟩ | ⟨n, _⟩
          rotate_left
          · exact absurd b n
          replace e' := cl_s e'; obtain ⟨o4, eo4, e'⟩ := e'
          rw [← Option.some.inj eo4] at e'
          dsimp only at e'
          replace e := nm_s e; obtain ⟨y12, w12, e⟩ := e
          exact nxt (by omega) w12.symm e e'
        · rcases e' with ⟨_, e'⟩ | ⟨n, _⟩
          · exact Or.inl (flt e (f1 e'))
          · rcases b01 (x2 >>> (((v - (1 : Int32)) &&& (1 : Int32)) &&& 31)) with z | z
            · exact absurd z d
            · exact absurd z n
      rcases e' with ⟨n, _⟩ | ⟨_, e'⟩
      · exact absurd n b
      replace e' := g0 e'
      unfold sX15_solve_138 sX15_sideOf sX15_solve_154 at e'
      replace e' := cl_s e'; obtain ⟨u2, p, e'⟩ := e'
      rw [r_eq em p, ← royq] at e'
      replace e' := br_s e'
      rcases e' with ⟨n, _⟩ | ⟨_, e'⟩
      · exact absurd n b
      exact nxt (by omega) Int32.or_zero e e'
end
end
section
/-! behind its SETS the reference keeps their number, and answers it -/
abbrev soD : List (Nat × Nat) := [(102, 999), (86, 999), (16, 23), (16, 24), (16, 29), (87, 999), (88, 999), (89, 999), (105, 999), (103, 999), (108, 999), (109, 999), (110, 999), (16, 62), (16, 63), (16, 50)]
section
variable {ρ : Nat → Nat} {c : Cm} {x0 rm re rb rk rs ro rp rt rw mb R Bc Bm F : Nat} {h : Hp} {a : Int} {y : Int32}
theorem so_masksC {km : Nat} (hF : 2000000 ≤ F) (hA : pmA c soD) (hS : pmO c 2560 bS7) (hB : pmO c 2528 bL8) (hL : pmO c 2530 lL8) (T : TH ρ c h) (SR : SlR ρ x0 rm re rb rk rs ro h) (re' : hR h x0 58 = some rp ∧ hR h x0 61 = some rt ∧ hR h x0 51 = some rw ∧ hR h x0 53 = some mb ∧ hR h x0 52 = some km ∧ hR h x0 4 = some R ∧ hR h R 13 = some Bc ∧ hR h R 14 = some Bm) (rl : ρ rp = 109 ∧ ρ rt = 110 ∧ ρ rw = 102 ∧ ρ mb = 104 ∧ ρ km = 103 ∧ ρ R = 15 ∧ ρ Bc = 80 ∧ ρ Bm = 81) (P : SE x0 h) (A : AllS x0 rm re rs rk R Bc Bm h) (D : MBd x0 (hI h x0 49).toInt y.toInt h) (iy : Rg 0 1500000 y) (sq : SqOk x0 h) (hz : hI h R 15 = 0) (l1 : 1 ≤ (hI h x0 49).toInt) : Sat (sX15_solve_304 F h x0 y) (fun o => TH ρ c o.2 ∧ EnR x0 o.2) := by
  unfold sX15_solve_304
  have z0 : (0 : Int32).toInt = 0 := rfl
  have hs : ∀ k w i, fS [(103, 999), (105, 999)] [] k w i = true → cPm c k w i = true := fs_sub (pmA_s hA rfl) fs_n
  refine so_307 (c := cat c (fS [(103, 999), (105, 999)] []) h) (h0 := h) (rk := km) (by omega) fs_a SR.1.1 rl.2.2.2.2.1 re'.2.2.2.2.1 iy (fun o To E Z => ?_) F (th_in _ T) ⟨fun _ _ => rfl, fun _ _ => rfl⟩ (by decide) (by rw [z0]; exact iy.1) (fun i hi => absurd hi (by rw [z0]; omega)) (by rw [z0]; omega)
  have T1 := th_out T hs To
  have K : Kf ρ [(103, 999), (105, 999)] h o := kf_of (fr_u T To.2.2) rfl
  obtain ⟨⟨r0, qm, qe, qb, qk, qs, qo⟩, ⟨e46, e47, e48, e55, e56, e57⟩⟩ := SR
  obtain ⟨e58, e61, e51, e53, e52, e4, e13, e14⟩ := re'
  obtain ⟨qp, qt, qw, qmb, qkm, qR, qBc, qBm⟩ := rl
  have D1 : MBd x0 (hI o x0 49).toInt y.toInt o := by
    intro rm' rb' em' eb' k hk
    rw [kfR 46 K r0] at em'
    rw [kfR 53 K r0] at eb'
    rw [kfI 49 K r0] at hk
    have hz1 := r_eq e46 em'
    subst hz1
    have hz1 := r_eq e53 eb'
    subst hz1
    rw [kfI 13 K r0, kfI 49 K r0]
    simp only [kfI _ K qm, kfI _ K qmb]
    exact D rm' rb' em' eb' k hk
  have e46' : hR o x0 46 = some rm := by rw [kfR 46 K r0]; exact e46
  have e53' : hR o x0 53 = some mb := by rw [kfR 53 K r0]; exact e53
  have G1 : MkG x0 rm mb re km R o := by
    intro set q j t l1 p1 w1 h1 t64 bt
    exfalso
    obtain ⟨b1, b2, _⟩ := mkx_b (rb := mb) (re := re) (thI T1 qm (k := 99) (i := set) (lo := 0) (hi := 5) rfl) p1 w1 h1
    have d1 := (D1 rm mb e46' e53' set l1).1
    have ib := (thI T1 qmb (k := 104) (i := set) (lo := 0) (hi := 1500000) rfl).1
    rw [Z _ (by omega)] at bt
    have : bitJ (0 : Int64) t = false := BitVec.getLsbD_zero
    rw [this] at bt
    exact absurd bt (by decide)
  have W1 : WkP ρ x0 rm re rb rk rs ro rp rt rw mb km R Bc Bm y.toInt o := ⟨⟨⟨r0, qm, qe, qb, qk, qs, qo⟩, ⟨e46', by rw [kfR 47 K r0]; exact e47, by rw [kfR 48 K r0]; exact e48, by rw [kfR 55 K r0]; exact e55, by rw [kfR 56 K r0]; exact e56, by rw [kfR 57 K r0]; exact e57⟩⟩, ⟨by rw [kfR 58 K r0]; exact e58, by rw [kfR 61 K r0]; exact e61, by rw [kfR 51 K r0]; exact e51, e53', by rw [kfR 52 K r0]; exact e52, by rw [kfR 4 K r0]; exact e4, by rw [kfR 13 K qR]; exact e13, by rw [kfR 14 K qR]; exact e14⟩, ⟨qp, qt, qw, qmb, qkm, qR, qBc, qBm⟩, se_k K r0 qm qe qb qk qs e46 e47 e48 e55 e56 P, alls_of (kfI 49 K r0) (fun i => kfI i K qm) (fun i => kfI i K qe) (fun i => kfI i K qs) (fun i => kfI i K qk) (kfI 10 K qR) (fun i => kfI i K qBc) (fun i => kfI i K qBm) A, D1, iy.2, G1⟩
  exact so_357 hF (pmA_s hA rfl) hS hB hL F T1 W1 (by unfold SqOk; rw [kfI 13 K r0, kfI 11 K r0, kfI 12 K r0]; exact sq) (by rw [kfI 15 K qR]; exact hz) (by rw [kfI 49 K r0]; exact l1) (by decide) (by rw [z0]; omega)
end
section
variable {ρ : Nat → Nat} {c : Cm} {x0 rm re rb rk rs ro rp rt rw' mb R Bc Bm F : Nat} {o7 : Hp}
theorem tail_r (hF : 2000000 ≤ F) (hA : pmA c soC) (T7 : TH ρ c o7) (SR : SlR ρ x0 rm re rb rk rs ro o7) (e58 : hR o7 x0 58 = some rp) (e61 : hR o7 x0 61 = some rt) (e51 : hR o7 x0 51 = some rw') (e53 : hR o7 x0 53 = some mb) (e4 : hR o7 x0 4 = some R) (e13 : hR o7 R 13 = some Bc) (e14 : hR o7 R 14 = some Bm) (P7 : SE x0 o7) (A7 : AllS x0 rm re rs rk R Bc Bm o7) (sq : SqOk x0 o7) (hz : hI o7 R 15 = 0) (l7 : 1 ≤ (hI o7 x0 49).toInt) : Sat (sX15_solve_246 F F o7 x0 (0 : Int32) (0 : Int32)) (fun o => hI o.2 x0 49 = hI o7 x0 49) := by
  have z0 : (0 : Int32).toInt = 0 := rfl
  obtain ⟨⟨r0, qm, qe, qb, qk, qs, qo⟩, ⟨e46, e47, e48, e55, e56, e57⟩⟩ := SR
  have qp := rr T7 (thR T7 r0 (i := 58) (k2 := 109) rfl (by decide)) e58
  have qt := rr T7 (thR T7 r0 (i := 61) (k2 := 110) rfl (by decide)) e61
  have qw := rr T7 (thR T7 r0 (i := 51) (k2 := 102) rfl (by decide)) e51
  have qmb := rr T7 (thR T7 r0 (i := 53) (k2 := 104) rfl (by decide)) e53
  have qR := rr T7 (thR T7 r0 (i := 4) (k2 := 15) rfl (by decide)) e4
  have qBc := rr T7 (thR T7 qR (i := 13) (k2 := 80) rfl (by decide)) e13
  have qBm := rr T7 (thR T7 qR (i := 14) (k2 := 81) rfl (by decide)) e14
  -- the masks
  have hs2 : ∀ k w i, fS [(104, 999)] [] k w i = true → cPm c k w i = true := fs_sub (pmA_s hA rfl) fs_n
  refine so_246 (c := cat c (fS [(104, 999)] []) o7) (n0 := (hI o7 x0 49).toInt) (by omega) fs_a r0 (fun o8 y To8 P8 n8 _ D8 iy => ?_) F (th_in _ T7) P7 rfl (by decide) (by rw [z0]; omega) (by decide) (fun rb' erb => ?_) (fun _ _ _ _ k hk => absurd hk (by rw [z0]; omega)) (fun _ _ _ _ k hk => absurd hk (by rw [z0]; omega)) (by rw [z0]; omega)
  · have T8 := th_out T7 hs2 To8
    have K78 : Kf ρ [(104, 999)] o7 o8 := kf_of (fr_u T7 To8.2.2) rfl
    have K8 : Kf ρ [(104, 999)] o7 o8 := K78
    have A8 : AllS x0 rm re rs rk R Bc Bm o8 := alls_of (kfI 49 K78 r0) (fun i => kfI i K78 qm) (fun i => kfI i K78 qe) (fun i => kfI i K78 qs) (fun i => kfI i K78 qk) (kfI 10 K78 qR) (fun i => kfI i K78 qBc) (fun i => kfI i K78 qBm) A7
    have SR8 : SlR ρ x0 rm re rb rk rs ro o8 := ⟨⟨r0, qm, qe, qb, qk, qs, qo⟩, ⟨by rw [kfR 46 K8 r0]; exact e46, by rw [kfR 47 K8 r0]; exact e47, by rw [kfR 48 K8 r0]; exact e48, by rw [kfR 55 K8 r0]; exact e55, by rw [kfR 56 K8 r0]; exact e56, by rw [kfR 57 K8 r0]; exact e57⟩⟩
    have sq8 : SqOk x0 o8 := by unfold SqOk; rw [kfI 13 K8 r0, kfI 11 K8 r0, kfI 12 K8 r0]; exact sq
    have hz8 : hI o8 R 15 = 0 := by rw [kfI 15 K8 qR]; exact hz
    have D8' : MBd x0 (hI o8 x0 49).toInt y.toInt o8 := by rw [n8]; exact D8
    have l8 : 1 ≤ (hI o8 x0 49).toInt := by rw [n8]; exact l7
    refine s_onr (fun none' => ?_) (fun km ekm => ?_)
    · refine s_q (fun a4 ea => ?_)
      refine s_q (fun h9 eh => ?_)
      obtain ⟨ρ', c', X, T9, qa, O9⟩ := newMasks T8 ea eh
      unfold sX15_solve_301
      have r0' := ex_r X r0 (by decide)
      have hA' := ex_A X hA
      have T10 : TH ρ' c' (wR h9 x0 52 (some a4)) := th_un (th_wR T9 r0' (k := 16) (i := 52) (j := 8) (k2 := 103) rfl (by decide) rfl (by decide) qa rfl nid_8 (by decide) (by decide) rfl rfl (fun w => absurd rfl w) (pm_a hA' rfl))
      refine s_hq T10 (fun h10 T10 w10 => ?_)
      -- all that was there is as it was
      have K10 : Kf ρ [(16, 52)] o8 h10 := fun b i n x => by
        have lt : b < o8.1.1 := by rw [T8.1.1]; exact T8.2.1.2.2.1 b n
        obtain ⟨q1, q2, q3, _⟩ := O9 b lt
        rw [w10]
        refine ⟨q1 i, q2 i, ?_⟩
        rw [r_R, if_neg]
        · exact q3 i
        · rintro ⟨q5, q6⟩
          subst q5; subst q6
          rw [r0] at x
          exact absurd x (by show ¬ true = false; decide)
      have km10 : hR h10 x0 52 = some a4 := by rw [w10, r_R, if_pos ⟨rfl, rfl⟩]
      refine s_imp (so_masksC (ρ := ρ') (c := cat c' (fS soD soL) h10) (km := a4) (R := R) (Bc := Bc) (Bm := Bm) (rp := rp) (rt := rt) (rw := rw') (mb := mb) (y := y) hF fs_a (fs_o (.head _)) (fs_o (.tail _ (.head _))) (fs_o (.tail _ (.tail _ (.head _)))) (th_in (fS soD soL) T10) ⟨⟨r0', ex_r X qm (by decide), ex_r X qe (by decide), ex_r X qb (by decide), ex_r X qk (by decide), ex_r X qs (by decide), ex_r X qo (by decide)⟩, ⟨by rw [kfR 46 K10 r0]; exact SR8.2.1, by rw [kfR 47 K10 r0]; exact SR8.2.2.1, by rw [kfR 48 K10 r0]; exact SR8.2.2.2.1, by rw [kfR 55 K10 r0]; exact SR8.2.2.2.2.1, by rw [kfR 56 K10 r0]; exact SR8.2.2.2.2.2.1, by rw [kfR 57 K10 r0]; exact SR8.2.2.2.2.2.2⟩⟩ ⟨by rw [kfR 58 K10 r0, kfR 58 K8 r0]; exact e58, by rw [kfR 61 K10 r0, kfR 61 K8 r0]; exact e61, by rw [kfR 51 K10 r0, kfR 51 K8 r0]; exact e51, by rw [kfR 53 K10 r0, kfR 53 K8 r0]; exact e53, km10, by rw [kfR 4 K10 r0, kfR 4 K8 r0]; exact e4, by rw [kfR 13 K10 qR, kfR 13 K8 qR]; exact e13, by rw [kfR 14 K10 qR, kfR 14 K8 qR]; exact e14⟩ ⟨ex_r X qp (by decide), ex_r X qt (by decide), ex_r X qw (by decide), ex_r X qmb (by decide), qa, ex_r X qR (by decide), ex_r X qBc (by decide), ex_r X qBm (by decide)⟩ (se_k K10 r0 qm qe qb qk qs SR8.2.1 SR8.2.2.1 SR8.2.2.2.1 SR8.2.2.2.2.1 SR8.2.2.2.2.2.1 P8) (alls_of (kfI 49 K10 r0) (fun i => kfI i K10 qm) (fun i => kfI i K10 qe) (fun i => kfI i K10 qs) (fun i => kfI i K10 qk) (kfI 10 K10 qR) (fun i => kfI i K10 qBc) (fun i => kfI i K10 qBm) A8) ?_ iy (by unfold SqOk; rw [kfI 13 K10 r0, kfI 11 K10 r0, kfI 12 K10 r0]; exact sq8) (by rw [kfI 15 K10 qR]; exact hz8) (by rw [kfI 49 K10 r0]; exact l8)) (fun o w => by rw [(fr_RI (fr_u T10 w.1.2.2) r0' (by decide) (fun _ => rfl)).1, kfI 49 K10 r0, kfI 49 K78 r0])
      intro rm' rb' em' eb' k hk
      rw [kfR 46 K10 r0] at em'
      rw [kfR 53 K10 r0] at eb'
      rw [kfI 49 K10 r0] at hk
      have hz1 := r_eq SR8.2.1 em'
      subst hz1
      have hz1 := r_eq (show hR o8 x0 53 = some mb by rw [kfR 53 K8 r0]; exact e53) eb'
      subst hz1
      rw [kfI 13 K10 r0, kfI 49 K10 r0]
      simp only [kfI _ K10 qm, kfI _ K10 qmb]
      exact D8' rm' rb' em' eb' k hk
    · have qkm : ρ km = 103 := thRn T8 r0 (i := 52) (k2 := 103) rfl (by decide) ekm
      exact s_imp (so_masksC (c := cat c (fS soD soL) o8) (km := km) (R := R) (Bc := Bc) (Bm := Bm) (rp := rp) (rt := rt) (rw := rw') (mb := mb) (y := y) hF fs_a (fs_o (.head _)) (fs_o (.tail _ (.head _))) (fs_o (.tail _ (.tail _ (.head _)))) (th_in (fS soD soL) T8) SR8 ⟨by rw [kfR 58 K8 r0]; exact e58, by rw [kfR 61 K8 r0]; exact e61, by rw [kfR 51 K8 r0]; exact e51, by rw [kfR 53 K8 r0]; exact e53, ekm, by rw [kfR 4 K8 r0]; exact e4, by rw [kfR 13 K8 qR]; exact e13, by rw [kfR 14 K8 qR]; exact e14⟩ ⟨qp, qt, qw, qmb, qkm, qR, qBc, qBm⟩ P8 A8 D8' iy sq8 hz8 l8) (fun o w => by rw [(fr_RI (fr_u T8 w.1.2.2) r0 (by decide) (fun _ => rfl)).1, kfI 49 K78 r0])
  · show 2 * (0 : Int) ≤ _
    have qb' : ρ rb' = 101 := rr T7 (thR T7 r0 (i := 48) (k2 := 101) rfl (by decide)) erb
    have q1 := (thI T7 qb' (k := 101) (i := (0 : Int32).toNatClampNeg) (lo := 0) (hi := 600000) rfl).1
    have q2 := P7.2.1.1
    split <;> omega
/-- what it answers is the number that it holds -/
theorem t408 {o : Int32 × Hp} (e : sX15_solve_408 F o7 x0 = some o) : o.1 = hI o.2 x0 49 := by
  unfold sX15_solve_408 at e
  replace e := nm_s e
  obtain ⟨g, _, e⟩ := e
  rw [← Option.some.inj e]
theorem t377 {k : Hp → Nat → Int32 → Option (Int32 × Hp)} {o : Int32 × Hp} (K : ∀ {h : Hp} {x : Int32}, k h x0 x = some o → o.1 = hI o.2 x0 49) {x4 x5 : Int32} : ∀ (f : Nat) {h : Hp} {x6 : Int32}, sX15_solve_377 F k f h x0 x4 x5 x6 = some o → o.1 = hI o.2 x0 49 := by
  intro f
  induction f with
  | zero => intro h x6 e; exact absurd e (by rw [sX15_solve_377]; exact fun z => nomatch z)
  | succ f ih =>
    intro h x6 e
    rw [sX15_solve_377] at e
    unfold sX15_solve_392 at e
    replace e := br_s e
    rcases e with ⟨_, e⟩ | ⟨_, e⟩
    · replace e := nm_s e
      obtain ⟨_, _, e⟩ := e
      exact K e
    · replace e := cl_s e
      obtain ⟨_, _, e⟩ := e
      replace e := nm_s e
      obtain ⟨_, _, e⟩ := e
      exact ih e
theorem t357 {o : Int32 × Hp} : ∀ (f : Nat) {h : Hp} {x4 : Int32}, sX15_solve_357 F f h x0 x4 = some o → o.1 = hI o.2 x0 49 := by
  intro f
  induction f with
  | zero => intro h x4 e; exact absurd e (by rw [sX15_solve_357]; exact fun z => nomatch z)
  | succ f ih =>
    intro h x4 e
    rw [sX15_solve_357] at e
    unfold sX15_solve_372 at e
    replace e := br_s e
    rcases e with ⟨_, e⟩ | ⟨_, e⟩
    · replace e := cl_s e
      obtain ⟨_, _, e⟩ := e
      exact t408 e
    · replace e := cl_s e
      obtain ⟨_, _, e⟩ := e
      exact t377 (fun w => ih w) F e
theorem t330 {o : Int32 × Hp} : ∀ (f : Nat) {h : Hp} {x4 : Int32}, sX15_solve_330 F f h x0 x4 = some o → o.1 = hI o.2 x0 49 := by
  intro f
  induction f with
  | zero => intro h x4 e; exact absurd e (by rw [sX15_solve_330]; exact fun z => nomatch z)
  | succ f ih =>
    intro h x4 e
    rw [sX15_solve_330] at e
    replace e := cl_s e
    obtain ⟨_, _, e⟩ := e
    replace e := br_s e
    rcases e with ⟨_, e⟩ | ⟨_, e⟩
    · exact t357 F e
    · replace e := cl_s e
      obtain ⟨_, _, e⟩ := e
      replace e := (gd_s e).2
      replace e := nm_s e
      obtain ⟨_, _, e⟩ := e
      replace e := nm_s e
      obtain ⟨_, _, e⟩ := e
      exact ih e
theorem t307 {o : Int32 × Hp} {x3 : Int32} : ∀ (f : Nat) {h : Hp} {x4 : Int32}, sX15_solve_307 F f h x0 x3 x4 = some o → o.1 = hI o.2 x0 49 := by
  intro f
  induction f with
  | zero => intro h x4 e; exact absurd e (by rw [sX15_solve_307]; exact fun z => nomatch z)
  | succ f ih =>
    intro h x4 e
    rw [sX15_solve_307] at e
    replace e := br_s e
    rcases e with ⟨_, e⟩ | ⟨_, e⟩
    · exact t330 F e
    · replace e := cl_s e
      obtain ⟨_, _, e⟩ := e
      replace e := (gd_s e).2
      replace e := nm_s e
      obtain ⟨_, _, e⟩ := e
      replace e := nm_s e
      obtain ⟨_, _, e⟩ := e
      exact ih e
theorem t246 {o : Int32 × Hp} : ∀ (f : Nat) {h : Hp} {x3 x4 : Int32}, sX15_solve_246 F f h x0 x3 x4 = some o → o.1 = hI o.2 x0 49 := by
  intro f
  induction f with
  | zero => intro h x3 x4 e; exact absurd e (by rw [sX15_solve_246]; exact fun z => nomatch z)
  | succ f ih =>
    intro h x3 x4 e
    rw [sX15_solve_246] at e
    unfold sX15_solve_301 sX15_solve_304 sX15_solve_270 at e
    replace e := br_s e
    rcases e with ⟨_, e⟩ | ⟨_, e⟩
    · cases q : hR h x0 52 with
      | none =>
        rw [q] at e
        replace e := nm_s e
        obtain ⟨_, _, e⟩ := e
        replace e := nm_s e
        obtain ⟨_, _, e⟩ := e
        replace e := nm_s e
        obtain ⟨_, _, e⟩ := e
        exact t307 F e
      | some r =>
        rw [q] at e
        exact t307 F e
    · replace e := cl_s e
      obtain ⟨_, _, e⟩ := e
      replace e := (gd_s e).2
      replace e := nm_s e
      obtain ⟨_, _, e⟩ := e
      replace e := cl_s e
      obtain ⟨_, _, e⟩ := e
      replace e := cl_s e
      obtain ⟨_, _, e⟩ := e
      replace e := (gd_s e).2
      replace e := nm_s e
      obtain ⟨_, _, e⟩ := e
      replace e := nm_s e
      obtain ⟨_, _, e⟩ := e
      exact ih e
end
end
