/-! the men of one SET, then all SETS -/
section
variable {ρ : Nat → Nat} {c : Cm} {x ks pw L bm bc m rm re rb rk rs ro R Bc Bm F : Nat} {hc hr oc : Hp} {o' : Int32 × Hp} {row : Nat → Int32} {x1 n key : Int32}
theorem cm_f {g : Hp} (A : CFs x ks hc g) (C : CM x ks pw L bc hc) : CM x ks pw L bc g := cm_k C A.1 (fun a i n1 n2 => A.2.1 a i (fun z => n1 z.1) n2)
theorem slot_p {k2r : Hp → Nat → Int32 → Option (Int32 × Hp)} (hF : 700000 ≤ F) (hA : pmA c seL) (N : LBn ρ x ks L bm bc R Bc Bm) (i1 : Rg 0 4095 x1) (Kk : Kq key n.toNatClampNeg row) (n0 : 0 ≤ n.toInt) : ∀ (f g : Nat) {hc hr : Hp} {x2 : Int32}, CXs ρ c x ks pw L bm bc m rm re rb rk rs ro R Bc Bm hc hr → CM x ks pw L bc hc → RowA rm re m x1 n row hr → 0 ≤ x2.toInt → x2.toInt ≤ 5 → sX0_addSetsOf_2 F f hc x key x2 = some oc → sX15_addAll_12 F k2r g hr m x1 x2 = some o' → (o'.1 = 0 ∧ 600000 < (hJ oc x 18).toInt) ∨ (CFs x ks hc oc ∧ ∃ hr2, RF ρ m rm re hr hr2 ∧ CXs ρ c x ks pw L bm bc m rm re rb rk rs ro R Bc Bm oc hr2 ∧ k2r hr2 m (x1 + (1 : Int32)) = some o') := by
  have z1 : (1 : Int32).toInt = 1 := rfl
  have n5 := Kk.1
  have nn : (n.toNatClampNeg : Int) = n.toInt := nc_i n0
  have i11 := i1.1
  have c1 := clamp_i i11
  obtain ⟨k1, k2, k3⟩ := kq_sz Kk
  intro f
  induction f with
  | zero => intro g hc hr x2 _ _ _ _ _ e; exact absurd e (by rw [sX0_addSetsOf_2]; exact fun z => nomatch z)
  | succ f ih =>
    intro g hc hr x2 X C A a2 b2 e e'
    cases g with
    | zero => exact absurd e' (by rw [sX15_addAll_12]; exact fun z => nomatch z)
    | succ g =>
      obtain ⟨Q, T, P, E, J, K⟩ := id X
      obtain ⟨⟨q0, qm, qe, qb, qk, qs, qo⟩, e46, e47, e48, e55, e56, e57⟩ := id Q
      obtain ⟨⟨e1, e17, e18⟩, ⟨f4, f13, f14⟩, kroy, kz, kb⟩ := id K
      have c2 := clamp_i a2
      rw [sX0_addSetsOf_2] at e
      unfold sX0_addSetsOf_104 at e
      rw [sX15_addAll_12] at e'
      unfold sX15_addAll_58 at e'
      replace e := cl_s e; obtain ⟨o1, eo1, e⟩ := e
      obtain ⟨w1, v1⟩ := sat_e (size_q hF k1.1) eo1
      rw [k3] at v1
      have t1 : o1.1.toInt = n.toInt := by rw [v1, z_toInt (by omega)]; omega
      rw [w1] at e
      replace e' := cl_s e'; obtain ⟨r1, p, e'⟩ := e'
      rw [r_eq e46 p] at e'
      replace e' := (gd_s e').2
      rw [A.1] at e'
      replace e := br_s e
      replace e' := br_s e'
      rcases e with ⟨l, e⟩ | ⟨l, e⟩
      · have l := le_i l
        rcases e' with ⟨_, e'⟩ | ⟨l', _⟩
        rotate_left
        · have l' := nle_i l'; omega
        replace e' := nm_s e'
        obtain ⟨w, ww, e'⟩ := e'
        rw [ww] at e'
        rw [← Option.some.inj e]
        exact Or.inr ⟨cfs_0, hr, rf_0, X, e'⟩
      have l := nle_i l
      rcases e' with ⟨l', _⟩ | ⟨_, e'⟩
      · have l' := le_i l'; omega
      have l2 : x2.toInt < n.toInt := by omega
      have tx : (x2 + (1 : Int32)).toInt = x2.toInt + 1 := by rw [ta (by rw [z1]; omega), z1]
      -- who he is
      replace e := cl_s e; obtain ⟨o3, eo3, e⟩ := e
      unfold sX0_codeIn at eo3
      have dk := dig_k (pad_24 Kk.2.2.1) Kk.2.1 (s := x2) ⟨a2, by omega⟩
      have dv : (key >>> (((5 : Int32) * x2) &&& 31)) &&& (31 : Int32) = row x2.toNatClampNeg := by
        apply Int32.toInt_inj.mp
        rw [dk]
        unfold pad
        rw [if_pos (by omega)]
      rw [dv] at eo3
      have y3 := Option.some.inj eo3
      rw [← y3] at e
      dsimp only at e
      replace e := nm_s e
      obtain ⟨v4, wv4, e⟩ := e
      rw [wv4] at e
      replace e := cl_s e; obtain ⟨r5, p, e⟩ := e
      rw [r_eq e1 p] at e
      replace e' := cl_s e'; obtain ⟨r5', p, e'⟩ := e'
      rw [r_eq e47 p] at e'
      replace e' := (gd_s e').2
      have ix := (ix5 (x1 := x1) (x4 := x2) i1 ⟨a2, by omega⟩).2
      replace e' := nm_s e'
      obtain ⟨v7, wv7, e'⟩ := e'
      rw [ix, A.2.1 _ (by omega)] at wv7
      rw [wv7] at e'
      replace e' := cl_s e'; obtain ⟨o8, eo8, e'⟩ := e'
      unfold sX15_manOf at eo8
      have y8 := Option.some.inj eo8
      rw [← y8] at e'
      dsimp only at e'
      replace e' := cl_s e'; obtain ⟨r9, p, e'⟩ := e'
      rw [r_eq f4 p, ← kroy] at e'
      have vr := Kk.2.2.1 x2.toNatClampNeg (by omega)
      obtain ⟨s1, mr, sr⟩ := man_v (v := row x2.toNatClampNeg) vr
      have cman := clamp_i mr.1
      have mr1 := mr.2
      have tot6 := J.2.1.2.2
      have tot0 := J.2.1.2.1
      -- the rest of the class, where there is no room
      have mono : ∀ {g : Hp} {rest : Int32} {f2 : Nat} {j2 : Int32}, CM x ks pw L bc g → 0 ≤ j2.toInt → j2.toInt ≤ 6 → 600000 < (hJ g x 18).toInt → (hJ g x 18).toInt ≤ 600000 + 2147483648 → sX0_addSetsOf_52 F (sX0_addSetsOf_2 F f) f2 g x key x2 (row x2.toNatClampNeg - (1 : Int32)) ((row x2.toNatClampNeg - (1 : Int32)) >>> ((1 : Int32) &&& 31)) rest j2 = some oc → 600000 < (hJ oc x 18).toInt := fun {g rest f2 j2} Cg j0 j6 b1 b2 e => by
        have := mono_52 (s := x2.toInt) (o := oc) (fun {q} Cq q0 qb e => mono_2 f Cq (by omega) (by omega) q0 (by omega) e) f2 Cg j0 j6 (by omega) (by omega) (by omega) e
        omega
      replace e := br_s e
      replace e' := br_s e'
      rcases e with ⟨b, e⟩ | ⟨b, e⟩
      · -- a royal man
        rcases e' with ⟨_, e'⟩ | ⟨b', _⟩
        rotate_left
        · exact absurd b b'
        replace e := nm_s e
        obtain ⟨w, ww, e⟩ := e
        rw [ww] at e
        obtain ⟨G, hG⟩ : ∃ G, F = G + 1 := ⟨F - 1, by omega⟩
        have e61 : sX15_addAll_61 F k2r (sX15_addAll_12 F k2r g) (G + 1) hr m x1 x2 (row x2.toNatClampNeg) (0 : Int32) = some o' := by rw [← hG]; exact e'
        rw [sX15_addAll_61] at e61
        replace e61 := cl_s e61; obtain ⟨u1, p, e61⟩ := e61
        rw [r_eq f4 p] at e61
        replace e61 := cl_s e61; obtain ⟨u2, p, e61⟩ := e61
        rw [r_eq f14 p] at e61
        replace e61 := cl_s e61; obtain ⟨u3, eu3, e61⟩ := e61
        unfold sX15_manOf at eu3
        have y := Option.some.inj eu3
        rw [← y] at e61
        dsimp only at e61
        replace e61 := (gd_s e61).2
        have c0 : hI hr Bm ((row x2.toNatClampNeg - (1 : Int32)) >>> ((1 : Int32) &&& 31)).toNatClampNeg = 0 := kz _ (by omega) (by rw [← b]; omega)
        rw [c0] at e61
        replace e61 := br_s e61
        rcases e61 with ⟨_, e61⟩ | ⟨nl, _⟩
        rotate_left
        · exact absurd (by decide) nl
        replace e61 := nm_s e61
        obtain ⟨w', ww', e61⟩ := e61
        rw [ww'] at e61
        exact ih g X C A (by omega) (by omega) e e61
      rcases e' with ⟨b', _⟩ | ⟨_, e'⟩
      · exact absurd b' b
      -- without him
      replace e := cl_s e; obtain ⟨o7, eo7, e⟩ := e
      obtain ⟨w7, kw7⟩ := wo_k (pad_24 Kk.2.2.1) Kk.2.1 (x1 := x2) ⟨a2, by omega⟩ eo7
      rw [w7] at e
      obtain ⟨nn', hnn⟩ : ∃ q, n.toNatClampNeg = q + 1 := ⟨n.toNatClampNeg - 1, by omega⟩
      have Kr : Kq o7.1 (n.toNatClampNeg - 1) (sk row x2.toNatClampNeg) := by
        have Kk' := Kk
        rw [hnn] at Kk' kw7
        rw [hnn]
        exact kq_sk (by omega) Kk' kw7
      replace e := cl_s e; obtain ⟨o9, eo9, e⟩ := e
      replace e' := cl_s e'; obtain ⟨o11, eo11, e'⟩ := e'
      obtain ⟨gg, x3, jo, Tg, Pg, Wg, x3v, rows, ea⟩ := cwo_e hF hA Q T P i1 A.2.2 a2 (by rw [A.1]; exact l2) eo11
      rw [A.1] at x3v
      have c3 := clamp_i (v := x3) (by omega)
      have e3 : x3.toNatClampNeg = n.toNatClampNeg - 1 := by omega
      obtain ⟨⟨T11, P11⟩, CF9, alt⟩ := add_p hF hA (slr_r Q jo.1) Tg Pg E (js_jo Q jo J) ⟨by omega, by omega⟩ Wg (by rw [e3]; exact Kr) (fun v => by
        refine cn_eq _ (fun i hi => ?_)
        rw [rows i (by omega)]
        unfold sk
        by_cases q : i < x2.toNatClampNeg
        · rw [if_pos q, if_pos q]; exact (A.2.1 i (by omega)).symm
        · rw [if_neg q, if_neg q]; exact (A.2.1 (i + 1) (by omega)).symm) eo9 ea
      have C9 := cm_f CF9 C
      have up : (hJ o9 x 18).toInt ≤ 600000 + 2147483648 := by
        have := (cadd_m C tot0 (by omega) eo9).2.2
        omega
      rcases alt with ⟨z11, big⟩ | ⟨z11, RF11, J11⟩
      · replace e' := br_s e'
        rcases e' with ⟨_, e'⟩ | ⟨nz, _⟩
        rotate_left
        · exact absurd z11 nz
        refine Or.inl ⟨by rw [← Option.some.inj e'], mono C9 (by decide) (by decide) big up e⟩
      replace e' := br_s e'
      rcases e' with ⟨z, _⟩ | ⟨_, e'⟩
      · rw [z11] at z; exact absurd z (by decide)
      have RFa : RF ρ m rm re hr o11.2 := rf_t (rf_jo Q jo) RF11
      obtain ⟨hc2, A2, E2, alt2⟩ := bec_p hF hA N i1 a2 l2 Kk rfl Kr F F (cx_f N X CF9 RFa T11 P11 J11) (ra_f i11 RFa A) (by decide) (by decide) e e'
      rcases alt2 with ⟨f2, j2, z0, ⟨j0, j6⟩, b1, b2, e52⟩ | ⟨hr2, B2, X2, q1, q2⟩
      · exact Or.inl ⟨z0, mono (cm_f A2 C9) j0 j6 b1 b2 e52⟩
      · rcases ih g X2 (cm_f A2 C9) (ra_f i11 (rf_t RFa B2) A) (by omega) (by omega) q1 q2 with r | ⟨r1, hr3, r2, r3, r4⟩
        · exact Or.inl r
        · exact Or.inr ⟨cfs_t (cfs_t CF9 A2) r1, hr3, rf_t (rf_t RFa B2) r2, r3, r4⟩
/-- all SETS -/
theorem sets_p {u : Int32 × Hp} (hF : 700000 ≤ F) (hA : pmA c seL) (N : LBn ρ x ks L bm bc R Bc Bm) : ∀ (f g : Nat) {hc hr : Hp} {x1 : Int32}, CXs ρ c x ks pw L bm bc m rm re rb rk rs ro R Bc Bm hc hr → CM x ks pw L bc hc → 0 ≤ x1.toInt → x1.toInt ≤ (hI hc x 9).toInt → sX0_gatherSets_62 F f hc x x1 = some u → sX15_addAll_2 F g hr m x1 = some o' → (o'.1 = 0 ∧ u.1 = 0) ∨ (o'.1 = 1 ∧ ∃ hc2, CFs x ks hc hc2 ∧ JS x ks pw m rm re rk rs hc2 o'.2 ∧ sX0_gatherSets_104 F hc2 x = some u) := by
  have z1 : (1 : Int32).toInt = 1 := rfl
  have z6 : (600000 : Int64).toInt = 600000 := rfl
  intro f
  induction f with
  | zero => intro g hc hr x1 _ _ _ _ e; exact absurd e (by rw [sX0_gatherSets_62]; exact fun z => nomatch z)
  | succ f ih =>
    intro g hc hr x1 X C a1 b1 e e'
    cases g with
    | zero => exact absurd e' (by rw [sX15_addAll_2]; exact fun z => nomatch z)
    | succ g =>
      obtain ⟨Q, T, P, E, J, K⟩ := id X
      have j1 := J.1.1
      have js := J.1.2
      have js1 := js.2
      have c1 := clamp_i a1
      rw [sX0_gatherSets_62] at e
      rw [sX15_addAll_2, ← j1] at e'
      replace e := br_s e
      replace e' := br_s e'
      rcases e with ⟨l, e⟩ | ⟨l, e⟩
      · rcases e' with ⟨_, e'⟩ | ⟨l', _⟩
        rotate_left
        · exact absurd l l'
        have y := Option.some.inj e'
        refine Or.inr ⟨by rw [← y], hc, cfs_0, ?_, e⟩
        rw [← y]; exact J
      rcases e' with ⟨l', _⟩ | ⟨_, e'⟩
      · exact absurd l' l
      have l := nle_i l
      replace e := br_s e
      rcases e with ⟨d, _⟩ | ⟨_, e⟩
      · have d := le_i d
        have z10 : (1024 : Int32).toInt = 1024 := rfl
        rw [z10] at d
        omega
      replace e := br_s e
      rcases e with ⟨d, _⟩ | ⟨_, e⟩
      · have d := cmp_gt d
        have := J.2.1.2.2
        rw [z6] at d
        omega
      replace e := cl_s e; obtain ⟨r4, p, e⟩ := e
      rw [r_eq E.1.1 p] at e
      replace e := (gd_s e).2
      replace e := cl_s e; obtain ⟨o6, eo6, e⟩ := e
      replace e := nm_s e
      obtain ⟨v7, w7, e⟩ := e
      rw [w7] at e
      unfold sX0_addSetsOf at eo6
      obtain ⟨Kk, _⟩ := J.2.2.1 x1.toNatClampNeg (by omega)
      have i49 := thI T Q.1.1 (k := 16) (i := 49) (lo := 0) (hi := 4096) rfl
      have tx : (x1 + (1 : Int32)).toInt = x1.toInt + 1 := by rw [ta (by rw [z1]; omega), z1]
      have im := thI T Q.1.2.1 (k := 99) (i := x1.toNatClampNeg) (lo := 0) (hi := 5) rfl
      have sl := slot_p (row := fun i => hI hr re (5 * x1.toNatClampNeg + i)) (n := hI hr rm x1.toNatClampNeg) (k2r := sX15_addAll_2 F g) hF hA N (x1 := x1) ⟨a1, by omega⟩ Kk im.1 F F X C ⟨rfl, fun p hp => rfl, by rw [← j1]; exact l⟩ (by decide) (by decide) eo6 e'
      rcases sl with ⟨z0, big⟩ | ⟨A6, hr2, B2, X2, e2⟩
      · refine Or.inl ⟨z0, ?_⟩
        -- the class sees that there is no room
        obtain ⟨f', hf'⟩ : ∃ q, f = q + 1 := by
          cases f with
          | zero => exact absurd e (by rw [sX0_gatherSets_62]; exact fun z => nomatch z)
          | succ q => exact ⟨q, rfl⟩
        rw [hf', sX0_gatherSets_62] at e
        have no : sX0_gatherSets_104 F o6 x = some u → u.1 = 0 := fun e => by
          unfold sX0_gatherSets_104 at e
          replace e := br_s e
          rcases e with ⟨q, _⟩ | ⟨_, e⟩
          · have q := cmp_le (a := hJ o6 x 18) (b := (600000 : Int64)) (fun w => by
              have a := lt_i w
              have b := le_i q
              omega)
            rw [z6] at q
            omega
          · rw [← Option.some.inj e]
        replace e := br_s e
        rcases e with ⟨_, e⟩ | ⟨_, e⟩
        · exact no e
        replace e := br_s e
        rcases e with ⟨_, e⟩ | ⟨_, e⟩
        · exact no e
        replace e := br_s e
        rcases e with ⟨_, e⟩ | ⟨d, _⟩
        · exact no e
        · have d := cmp_le d
          rw [z6] at d
          omega
      · rcases ih g X2 (cm_f A6 C) (by omega) (by have := A6.2.2.2.1; omega) e e2 with r | ⟨r0, hc3, r1, r2, r3⟩
        · exact Or.inl r
        · exact Or.inr ⟨r0, hc3, cfs_t A6 r1, r2, r3⟩
end
