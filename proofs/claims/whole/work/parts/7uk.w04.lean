section
/-! ENDINGS, the reference: meetAll whole -/
section
variable {n F N q sd k num j t : Nat} {g h h0 o : Hp} {nk : Nat → Nat} {rk : Nat → Nat → Int} {bk : Nat → Nat} {x1 x2 x3 x4 x5 x6 x8 x9 : Int32} {L : Nat → Nat → Int} {W Lo : Prop} {Bd : (Nat → Int) → Prop} {v : MvT}
/-- what it becomes does not check, where it may not -/
def PrU (L : Nat → Nat → Int) (M : Nat → Int) (s t sd u : Nat) : Prop := L 17 0 = 0 ∨ ¬ RyH L (afM M s t (cdV (L 80 (6 * mnO (M s) + u)) sd)) (1 - sd)
theorem mta_51 (hF : 700000 ≤ F) (E : LwE L N nk rk q) (k0 : DyK n h0 h0) (B0 : WkB n h0 L N nk rk bk q) (Nd : NdH n h0 L N nk rk q k num sd) (jm : j < nk k) (tq : t < q) (ne : ¬ sqi q num j = t) (np : 1 ≤ x6.toInt ∧ x6.toInt ≤ 700000) (hv : v ∈ lgL L (ndZ (lyM (rk k) q num (nk k)) sd)) (eS : mvS v = (sqi q num j : Int)) (eD : mvD v = (t : Int)) (pm : 0 < L 81 (mnO (rk k j)) ∧ rkF L t sd = L 1 0) (e1 : x1.toInt = (k : Int)) (e3 : x3.toInt = (j : Int)) (e4 : x4.toInt = (t : Int)) (e8 : x8.toInt = (sd : Int)) (e9 : x9.toInt = ((mnO (rk k j) : Nat) : Int)) : ∀ (f : Nat) {h : Hp} {x10 : Int32} {u : Nat}, MtR n g h0 h N nk rk bk q sd x6.toInt W Lo (fun B => Bd B ∨ ∃ u', u' < u ∧ PrU L (lyM (rk k) q num (nk k)) (sqi q num j) t sd u' ∧ B = afM (lyM (rk k) q num (nk k)) (sqi q num j) t (cdV (L 80 (6 * mnO (rk k j) + u')) sd)) → x10.toInt = (u : Int) → (u : Int) ≤ L 81 (mnO (rk k j)) → sX15_meetAll_51 F f h (n + 513) x1 x3 x4 x6 x8 x9 x10 = some o → MtR n g h0 o N nk rk bk q sd x6.toInt W Lo (fun B => Bd B ∨ ∃ u' : Nat, (u' : Int) < L 81 (mnO (rk k j)) ∧ PrU L (lyM (rk k) q num (nk k)) (sqi q num j) t sd u' ∧ B = afM (lyM (rk k) q num (nk k)) (sqi q num j) t (cdV (L 80 (6 * mnO (rk k j) + u')) sd)) := by
  have z1 : (1 : Int32).toInt = 1 := rfl
  have z2 : (2 : Int32).toInt = 2 := rfl
  have z6 : (6 : Int32).toInt = 6 := rfl
  obtain ⟨⟨OK, LD, Nc⟩, Fm, q0, q64, eq⟩ := id E
  obtain ⟨⟨kN, nb, sd2⟩, Rt, sts⟩ := id Nd
  have R := Fm.1 k kN
  have rp : ∀ i, i < nk k → 1 ≤ rk k i := fun i hi => (R.2.1 i hi).1
  have rb := R.2.1 j jm
  have L2 := OK.1.2.2.1
  have Ms : lyM (rk k) q num (nk k) (sqi q num j) = rk k j := ly_at rp Rt.1 (nk k) (Nat.le_refl _) j jm
  have m12 : mnO (rk k j) < 12 := by
    have : mnO (rk k j) = ((rk k j - 1) / 2).toNat := rfl
    omega
  have HM := nd_mok (num := num) q0 eq R
  have lq := sqi_lt (num := num) (i := j) q0
  have b81 := (OK.2.1.1 _ m12).1
  have n9 : x9.toNatClampNeg = mnO (rk k j) := by have := nc_i (x := x9) (by omega); omega
  have s0 := dk_610 k0
  intro f
  induction f with
  | zero => intro h x10 u _ _ _ e; exact absurd e (by rw [sX15_meetAll_51]; exact fun z => nomatch z)
  | succ f ih =>
    intro h x10 u Rh e10 ul e
    rw [sX15_meetAll_51] at e
    obtain ⟨r1, r2, r3, r4, r5⟩ := id Rh
    have Bh := wkb_f k0 r2 r1 (fun a i c => by unfold WWn at c; omega) B0
    obtain ⟨w, hw, e4w, _, C⟩ := id Bh.1
    have v81 : (hI h (n + w + 9) (mnO (rk k j))).toInt = L 81 (mnO (rk k j)) := congrFun (congrFun C.2.1 81) _
    have v80 : ∀ i, (hI h (n + w + 8) i).toInt = L 80 i := fun i => congrFun (congrFun C.2.1 80) i
    have d14 := lx_e r2 hw (f := 14) (b := 9) (by decide)
    have d13 := lx_e r2 hw (f := 13) (b := 8) (by decide)
    replace e := ce_e e4w e
    replace e := ce_e d14 e
    replace e := gg_e e
    rcases br_s e with ⟨c1, e⟩ | ⟨c1, e⟩ <;> rw [n9] at c1
    · have c1 := le_i c1
      rw [v81] at c1
      rw [so_e e]
      have ue : (u : Int) = L 81 (mnO (rk k j)) := by omega
      exact mtr_i Rh (fun B hB => ⟨B, hB.elim Or.inl (fun ⟨u', a, b⟩ => Or.inr ⟨u', by omega, b⟩), fun _ _ => rfl⟩) (fun B hB => ⟨B, hB.elim Or.inl (fun ⟨u', a, b⟩ => Or.inr ⟨u', by omega, b⟩), fun _ _ => rfl⟩)
    have c1 := nle_i c1
    rw [v81] at c1
    have hu : (u : Int) < L 81 (mnO (rk k j)) := by omega
    have m6 : ((6 : Int32) * x9).toInt = 6 * ((mnO (rk k j) : Nat) : Int) := by rw [tm (by rw [z6, e9]; omega), z6, e9]
    have ix : (((6 : Int32) * x9) + x10).toInt = ((6 * mnO (rk k j) + u : Nat) : Int) := by rw [ta (by rw [m6]; omega), m6]; omega
    have nx : (((6 : Int32) * x9) + x10).toNatClampNeg = 6 * mnO (rk k j) + u := by have := nc_i (x := ((6 : Int32) * x9) + x10) (by omega); omega
    replace e := ce_e e4w e
    replace e := ce_e d13 e
    replace e := gg_e e
    obtain ⟨o8, e8', e⟩ := cl_s e
    unfold sX15_valueOf at e8'
    have y8 := so_e e8'
    rw [nx] at y8
    have lk := ((OK.2.1.1 _ m12).2 u hu).1
    have bv := v80 (6 * mnO (rk k j) + u)
    have t1 : ((2 : Int32) * hI h (n + w + 8) (6 * mnO (rk k j) + u)).toInt = 2 * L 80 (6 * mnO (rk k j) + u) := by rw [tm (by rw [z2, bv]; omega), z2, bv]
    have t2 : ((1 : Int32) + (2 : Int32) * hI h (n + w + 8) (6 * mnO (rk k j) + u)).toInt = 1 + 2 * L 80 (6 * mnO (rk k j) + u) := by rw [ta (by rw [z1, t1]; omega), z1, t1]
    have v8 : o8.1.toInt = cdV (L 80 (6 * mnO (rk k j) + u)) sd := by
      rw [y8]
      show (((1 : Int32) + (2 : Int32) * hI h (n + w + 8) (6 * mnO (rk k j) + u)) + x8).toInt = _
      rw [ta (by rw [t2, e8]; omega), t2, e8]
      rfl
    have h8 : o8.2 = h := by rw [y8]
    rw [h8] at e
    have rg8 : 1 ≤ o8.1.toInt ∧ o8.1.toInt ≤ 2 * L 2 0 := by rw [v8]; unfold cdV; omega
    obtain ⟨o9, e9', e⟩ := cl_s e
    obtain ⟨R9, nd9⟩ := mta_bh hF E k0 B0 Nd jm tq ne Rh rg8 e1 e3 e4 e8 e9'
    rw [v8] at nd9
    obtain ⟨s1, s2, s3, s4, s5⟩ := id R9
    have B9 := wkb_f k0 s2 s1 (fun a i c => by unfold WWn at c; omega) B0
    obtain ⟨w9, hw9, e4w9, _, C9⟩ := id B9.1
    have v17 : (hI o9.2 (n + w9) 17).toInt = L 17 0 := congrFun (congrFun C9.2.1 17) 0
    replace e := ce_e e4w9 e
    have x101 : (x10 + (1 : Int32)).toInt = ((u + 1 : Nat) : Int) := by rw [ta (by rw [z1]; omega), z1]; omega
    have hm' : mnO (lyM (rk k) q num (nk k) (sqi q num j)) = mnO (rk k j) := by rw [Ms]
    have ps := nd_ps OK LD Nc sd2 HM Rt.2 (s := sqi q num j) (t := t) (by omega) (by rw [Ms]; omega) (by rw [hm']; exact m12) (by rw [hm']; exact pm) hv eS eD (by omega) (u := u) (by rw [hm']; exact hu)
    rw [hm'] at ps
    -- it is met
    have met : PrU L (lyM (rk k) q num (nk k)) (sqi q num j) t sd u → sX15_meetAll_129 F (sX15_meetAll_51 F f) o9.2 (n + 513) x1 x3 x4 x6 x8 x9 x10 o9.1 = some o → MtR n g h0 o N nk rk bk q sd x6.toInt W Lo (fun B => Bd B ∨ ∃ u' : Nat, (u' : Int) < L 81 (mnO (rk k j)) ∧ PrU L (lyM (rk k) q num (nk k)) (sqi q num j) t sd u' ∧ B = afM (lyM (rk k) q num (nk k)) (sqi q num j) t (cdV (L 80 (6 * mnO (rk k j) + u')) sd)) := fun pu e => by
      unfold sX15_meetAll_129 sX15_meetAll_142 at e
      replace e := ce_e (dk_e (a := 513) (f := 51) (b := 595) s2 (by decide +kernel)) e
      obtain ⟨ib, e⟩ := gd_s e
      obtain ⟨o3, e3', e⟩ := cl_s e
      obtain ⟨k', num', O, ei⟩ := nd9 (inb_n ib)
      have R3 := mta_260 hF E k0 sd2 np R9 O ei e3'
      refine ih (mtr_i R3 (fun B hB => ⟨B, ?_, fun _ _ => rfl⟩) (fun B hB => ⟨B, ?_, fun _ _ => rfl⟩)) x101 (by omega) (nx_e e)
      · rcases hB with (z | ⟨u', a, b⟩) | z
        · exact Or.inl z
        · exact Or.inr ⟨u', by omega, b⟩
        · exact Or.inr ⟨u, Nat.lt_succ_self _, pu, z⟩
      · rcases hB with z | ⟨u', a, b⟩
        · exact Or.inl (Or.inl z)
        · by_cases y : u' = u
          · rw [y] at b
            exact Or.inr b.2
          · exact Or.inl (Or.inr ⟨u', by omega, b⟩)
    rcases br_s e with ⟨c2, e⟩ | ⟨c2, e⟩
    · have : L 17 0 = 0 := by rw [← v17, c2]; rfl
      exact met (Or.inl this) e
    have n17 : ¬ L 17 0 = 0 := fun z => c2 (Int32.toInt_inj.mp (by rw [v17, z]; rfl))
    replace e := ce_e (dk_e (a := 513) (f := 54) (b := 597) s2 (by decide +kernel)) e
    obtain ⟨ib, e⟩ := gd_s e
    have n0 : ¬ o9.1 < 0 := fun z => by
      have z := lt_i z
      have zz : (0 : Int32).toInt = 0 := rfl
      have e6 : (o9.1 >>> ((6 : Int32) &&& 31)).toInt = o9.1.toInt / 64 := ti_shr6
      have := nlt_i (inb_n ib)
      omega
    obtain ⟨k', num', O, ei⟩ := nd9 n0
    obtain ⟨⟨a1, a2⟩, _⟩ := id B9.2.1
    obtain ⟨_, _, _, _, b5⟩ := a2 k' O.1
    have nb' := O.2.1
    have i6 : Rg 0 599999 o9.1 := ⟨by omega, by omega⟩
    have ni : o9.1.toNatClampNeg = bk k' + 2 * num' + (1 - sd) := by have := nc_i (x := o9.1) (by omega); omega
    have bit := B9.2.2.2 k' num' (1 - sd) O.1 O.2.1 (by omega)
    have sh := sh6_i (x := o9.1) (a := bk k' + 2 * num' + (1 - sd)) ei (by omega)
    have rt' : RtN L (rk k') q num' (nk k') (1 - sd) := by
      refine ⟨O.2.2.1, (nd_wr Nc.1 (nd_un (Fm.1 k' O.1))).mpr ⟨fun z => ps.1 (f3_e O.2.2.2 z), fun z => ps.2 ?_⟩⟩
      have e1' : 1 - (1 - sd) = sd := by omega
      rw [e1'] at z
      exact ryh_e OK.1 (fun x hx => (O.2.2.2 x hx).symm) z
    rw [sh] at e
    rcases br_s e with ⟨c3, e⟩ | ⟨c3, e⟩
    · have c3 := (bit_s6 i6).mp c3
      rw [ni] at c3
      refine met (Or.inr (fun z => c3 (bit.mpr ⟨rt', ?_⟩))) e
      rw [hm'] at z
      exact ryh_e OK.1 (fun x hx => O.2.2.2 x hx) z
    · have c3 : bitJ (hJ o9.2 (n + 597) ((bk k' + 2 * num' + (1 - sd)) / 64)) ((bk k' + 2 * num' + (1 - sd)) % 64) = true := Classical.byContradiction (fun z => c3 ((bit_s6 i6).mpr (by rw [ni]; exact z)))
      have ry := (bit.mp c3).2
      have np' : ¬ PrU L (lyM (rk k) q num (nk k)) (sqi q num j) t sd u := fun z => by
        rcases z with z | z
        · exact n17 z
        · rw [hm'] at z
          exact z (ryh_e OK.1 (fun x hx => (O.2.2.2 x hx).symm) ry)
      unfold sX15_meetAll_142 at e
      refine ih (mtr_i R9 (fun B hB => ⟨B, ?_, fun _ _ => rfl⟩) (fun B hB => ⟨B, ?_, fun _ _ => rfl⟩)) x101 (by omega) (nx_e e)
      · rcases hB with z | ⟨u', a, b⟩
        · exact Or.inl z
        · exact Or.inr ⟨u', by omega, b⟩
      · rcases hB with z | ⟨u', a, b⟩
        · exact Or.inl z
        · by_cases y : u' = u
          · rw [y] at b
            exact absurd b.1 np'
          · exact Or.inr ⟨u', by omega, b⟩
theorem mta_k (hF : 700000 ≤ F) (E : LwE L N nk rk q) (k0 : DyK n h0 h0) (B0 : WkB n h0 L N nk rk bk q) (Nd : NdH n h0 L N nk rk q k num sd) (jm : j < nk k) (np : 1 ≤ x6.toInt ∧ x6.toInt ≤ 700000) (ex : ∃ v, ArJ L (ndZ (lyM (rk k) q num (nk k)) sd) (sqi q num j) t v) (R : MtR n g h0 h N nk rk bk q sd x6.toInt W Lo Bd) (e1 : x1.toInt = (k : Int)) (e2 : x2.toInt = ((2 * num + sd : Nat) : Int)) (e3 : x3.toInt = (j : Int)) (e4 : x4.toInt = (t : Int)) (e5 : x5.toInt = ((2 * q ^ j : Nat) : Int)) (e : sX15_meetAll F h (n + 513) x1 x2 x3 x4 x5 x6 = some o) : MtR n g h0 o N nk rk bk q sd x6.toInt W Lo (fun B => Bd B ∨ ∃ v, ArJ L (ndZ (lyM (rk k) q num (nk k)) sd) (sqi q num j) t v ∧ B = (zAll L (ndZ (lyM (rk k) q num (nk k)) sd) v).1) := by
  have z1 : (1 : Int32).toInt = 1 := rfl
  have z5 : (5 : Int32).toInt = 5 := rfl
  have z0 : (0 : Int32).toInt = 0 := rfl
  obtain ⟨⟨OK, LD, Nc⟩, Fm, q0, q64, eq⟩ := id E
  obtain ⟨⟨kN, nb, sd2⟩, Rt, sts⟩ := id Nd
  obtain ⟨r1, r2, r3, r4, r5⟩ := id R
  have Rw := Fm.1 k kN
  have rp : ∀ i, i < nk k → 1 ≤ rk k i := fun i hi => (Rw.2.1 i hi).1
  have rb := Rw.2.1 j jm
  have L2 := OK.1.2.2.1
  have Ms : lyM (rk k) q num (nk k) (sqi q num j) = rk k j := ly_at rp Rt.1 (nk k) (Nat.le_refl _) j jm
  have m12 : mnO (rk k j) < 12 := by
    have : mnO (rk k j) = ((rk k j - 1) / 2).toNat := rfl
    omega
  have HM := nd_mok (num := num) q0 eq Rw
  have O := nd_ok OK.1 OK.2.1 HM sd2 Rt.2
  have s0 := dk_610 k0
  have Bh := wkb_f k0 r2 r1 (fun a i c => by unfold WWn at c; omega) B0
  obtain ⟨⟨a1, a2⟩, _⟩ := id Bh.2.1
  obtain ⟨b1, b2, b3, b4, b5⟩ := a2 k kN
  obtain ⟨w, hw, e4w, _, C⟩ := id Bh.1
  have v81 : ∀ i, (hI h (n + w + 9) i).toInt = L 81 i := fun i => congrFun (congrFun C.2.1 81) i
  have v11 : (hI h (n + 513) 11).toInt = L 0 0 := C.2.2.1
  have v12 : (hI h (n + 513) 12).toInt = L 1 0 := C.2.2.2.1
  have n1 : x1.toNatClampNeg = k := by have := nc_i (x := x1) (by omega); omega
  obtain ⟨v, hv, eS, eD⟩ := ex
  obtain ⟨_, mo, _⟩ := lg_sf hv
  obtain ⟨s', t', s64, t64, q1, q2, nst, ms, es, _, _, _⟩ := nd_mv OK.1 OK.2.1 Rt.2 HM sd2 mo
  have ss : s' = sqi q num j := by omega
  have tt : t' = t := by omega
  rw [ss, Ms] at ms es
  have ne : ¬ sqi q num j = t := by rw [← ss, ← tt]; exact nst
  have G := mo_g OK.1 OK.2.1 O mo
  obtain ⟨_, _, gd, _⟩ := gd_r G
  have tq : t < q := by omega
  have lq := sqi_lt (num := num) (i := j) q0
  have fi := OK.1.1
  have ra := OK.1.2.1
  unfold sX15_meetAll at e
  replace e := ce_e (dk_e (a := 513) (f := 47) (b := 593) r2 (by decide +kernel)) e
  replace e := gg_e e
  have ix : (((5 : Int32) * x1) + x3).toInt = ((5 * k + j : Nat) : Int) := by
    rw [ta (by rw [tm (by rw [z5]; omega), z5]; omega), tm (by rw [z5]; omega), z5]; omega
  have nx : (((5 : Int32) * x1) + x3).toNatClampNeg = 5 * k + j := by have := nc_i (x := ((5 : Int32) * x1) + x3) (by omega); omega
  obtain ⟨v3, w3, e⟩ := nm_s e
  obtain ⟨v4, w4, e⟩ := nm_s e
  rw [nx] at w3
  have y3 : v3.toInt = rk k j := by rw [w3]; exact b1.2 j jm
  have y4 : v4.toInt = (sd : Int) := by rw [w4, and1_i (by omega), e2]; omega
  obtain ⟨o5, e5', e⟩ := cl_s e
  unfold sX15_manOf at e5'
  have y5 := so_e e5'
  have v31 : (v3 - (1 : Int32)).toInt = rk k j - 1 := by rw [ts (by rw [z1]; omega), z1, y3]
  have v5 : o5.1.toInt = ((mnO (rk k j) : Nat) : Int) := by
    rw [y5]
    show ((v3 - (1 : Int32)) >>> ((1 : Int32) &&& 31)).toInt = _
    rw [ti_shr1, v31]
    have : mnO (rk k j) = ((rk k j - 1) / 2).toNat := rfl
    omega
  have h5 : o5.2 = h := by rw [y5]
  rw [h5] at e
  have n5 : o5.1.toNatClampNeg = mnO (rk k j) := by have := nc_i (x := o5.1) (by omega); omega
  obtain ⟨o6, e6, e⟩ := cl_s e
  have b6 : o6.2 = h ∧ ((o6.1 = 0 ∧ ¬ 0 < L 81 (mnO (rk k j))) ∨ (¬ o6.1 = 0 ∧ 0 < L 81 (mnO (rk k j)))) := by
    unfold sX15_becomesOthers sX15_becomesOthers_17 at e6
    replace e6 := ce_e e4w e6
    replace e6 := ce_e (lx_e r2 hw (f := 14) (b := 9) (by decide)) e6
    replace e6 := gg_e e6
    rcases br_s e6 with ⟨c, e6⟩ | ⟨c, e6⟩ <;> rw [n5] at c
    · have c := le_i c
      rw [v81, z0] at c
      rw [so_e (gg_e e6)]
      exact ⟨rfl, Or.inl ⟨rfl, by omega⟩⟩
    · have c := nle_i c
      rw [v81, z0] at c
      rw [so_e (gg_e e6)]
      exact ⟨rfl, Or.inr ⟨(show ¬ (1 : Int32) = 0 by decide), by omega⟩⟩
  rw [b6.1] at e
  -- one move alone
  have one : ¬ (0 < L 81 (mnO (rk k j)) ∧ rkF L t sd = L 1 0) → sX15_meetAll_149 F h (n + 513) x1 x2 x3 x4 x5 x6 v3 v4 = some o → MtR n g h0 o N nk rk bk q sd x6.toInt W Lo (fun B => Bd B ∨ ∃ v, ArJ L (ndZ (lyM (rk k) q num (nk k)) sd) (sqi q num j) t v ∧ B = (zAll L (ndZ (lyM (rk k) q num (nk k)) sd) v).1) := fun npm e => by
    unfold sX15_meetAll_149 sX15_meetAll_163 at e
    obtain ⟨ol, el, e⟩ := cl_s e
    obtain ⟨pl, ql⟩ := lk_x r2 b1 b2 (by omega) jm e1 e3 el
    rw [pl] at e
    have fin : ∀ {x : Int32}, FlB x (¬ LkM (rk k) (nk k) j ∧ ∀ i', i' < 0 → ¬ sqi q num i' = t) → sX15_meetAll_168 F F h (n + 513) x1 x2 x3 x4 x5 x6 v3 v4 x (0 : Int32) = some o → MtR n g h0 o N nk rk bk q sd x6.toInt W Lo (fun B => Bd B ∨ ∃ v, ArJ L (ndZ (lyM (rk k) q num (nk k)) sd) (sqi q num j) t v ∧ B = (zAll L (ndZ (lyM (rk k) q num (nk k)) sd) v).1) := fun fl e => by
      have RR := mta_168 hF E k0 B0 Nd jm tq ne np R e1 e2 e3 e4 e5 y3 y4 F (i := 0) rfl (Nat.zero_le _) fl e
      have same : ∀ u, ArJ L (ndZ (lyM (rk k) q num (nk k)) sd) (sqi q num j) t u → ∀ x, x < 64 → (zAll L (ndZ (lyM (rk k) q num (nk k)) sd) u).1 x = afM (lyM (rk k) q num (nk k)) (sqi q num j) t (rk k j) x := fun u hu x hx => by
        obtain ⟨_, mu, _⟩ := lg_sf hu.1
        rw [mb_z OK.1 OK.2.1 Nc.1 O mu hu.2.1 hu.2.2 x hx, nd_np OK.1 OK.2.1 Nc.1 sd2 HM Rt.2 (by rw [Ms]; exact ms) (by rw [Ms]; exact es) (by rw [Ms]; exact npm) mu hu.2.1 hu.2.2, Ms]
      refine mtr_i RR (fun B hB => ?_) (fun B hB => ?_)
      · rcases hB with z | z
        · exact ⟨B, Or.inl z, fun _ _ => rfl⟩
        · exact ⟨_, Or.inr ⟨v, ⟨hv, eS, eD⟩, rfl⟩, fun x hx => by rw [z, same v ⟨hv, eS, eD⟩ x hx]⟩
      · rcases hB with z | ⟨u, hu, z⟩
        · exact ⟨B, Or.inl z, fun _ _ => rfl⟩
        · exact ⟨_, Or.inr rfl, fun x hx => by rw [z, same u hu x hx]⟩
    rcases br_s e with ⟨c, e⟩ | ⟨c, e⟩
    · rcases ql with ⟨_, z⟩ | ⟨z, _⟩
      · exact fin (flo ⟨z, fun i' hi' => absurd hi' (Nat.not_lt_zero _)⟩) e
      · rw [c] at z; exact absurd z (by decide)
    · rcases ql with ⟨z, _⟩ | ⟨_, z⟩
      · exact absurd z c
      · exact fin (flz (fun y => y.1 z)) e
  rcases b6.2 with ⟨c6, n81⟩ | ⟨c6, p81⟩
  · exact one (fun z => n81 z.1) (bp_e c6 e)
  replace e := bn_e c6 e
  obtain ⟨o8, e8, e⟩ := cl_s e
  have b8 : o8.2 = h ∧ o8.1.toInt = rkF L t sd := by
    unfold sX15_rankFor sX15_rankFor_26 at e8
    have r4 : Rg 0 63 x4 := ⟨by omega, by omega⟩
    have r11 : Rg 1 8 (hI h (n + 513) 11) := ⟨by omega, by omega⟩
    have dv : (x4 / hI h (n + 513) 11).toInt = (t : Int) / L 0 0 := by rw [td r4 r11 ⟨by decide, by decide⟩, e4, v11]
    have d0 : 0 ≤ (t : Int) / L 0 0 := Int.ediv_nonneg (by omega) (by omega)
    have d1 : (t : Int) / L 0 0 ≤ (t : Int) := Int.ediv_le_self _ (by omega)
    rcases br_s e8 with ⟨c, e8⟩ | ⟨c, e8⟩
    · have s0' : sd = 0 := by
        have := congrArg Int32.toInt c
        rw [y4, z0] at this
        omega
      rw [so_e (gg_e e8)]
      refine ⟨rfl, ?_⟩
      show ((x4 / hI h (n + 513) 11) + (1 : Int32)).toInt = _
      rw [ta (by rw [dv, z1]; omega), dv, z1]
      unfold rkF
      rw [if_pos (by omega)]
    · have s1' : ¬ (sd : Int) = 0 := fun z => c (Int32.toInt_inj.mp (by rw [y4, z, z0]))
      rw [so_e (gg_e e8)]
      refine ⟨rfl, ?_⟩
      show (hI h (n + 513) 12 - (x4 / hI h (n + 513) 11)).toInt = _
      rw [ts (by rw [dv, v12]; omega), dv, v12]
      unfold rkF
      rw [if_neg s1']
  rw [b8.1] at e
  rcases br_s e with ⟨c7, e⟩ | ⟨c7, e⟩
  rotate_left
  · exact one (fun z => c7 (Int32.toInt_inj.mp (by rw [b8.2, v12]; exact z.2))) e
  have pm : 0 < L 81 (mnO (rk k j)) ∧ rkF L t sd = L 1 0 := ⟨p81, by rw [← b8.2, ← v12]; exact congrArg Int32.toInt c7⟩
  have pm' : 0 < L 81 (mnO (lyM (rk k) q num (nk k) (sqi q num j))) ∧ rkF L t sd = L 1 0 := by rw [Ms]; exact pm
  have m12' : mnO (lyM (rk k) q num (nk k) (sqi q num j)) < 12 := by rw [Ms]; exact m12
  have RR := mta_51 (g := g) (W := W) (Lo := Lo) (Bd := Bd) hF E k0 B0 Nd jm tq ne np hv eS eD pm e1 e3 e4 y4 v5 F (h := h) (u := 0) (mtr_i R (fun B hB => ⟨B, Or.inl hB, fun _ _ => rfl⟩) (fun B hB => ⟨B, hB.elim id (fun ⟨u', a, _⟩ => absurd a (Nat.not_lt_zero _)), fun _ _ => rfl⟩)) rfl (by omega) e
  refine mtr_i RR (fun B hB => ?_) (fun B hB => ?_)
  · rcases hB with z | ⟨u, hu, pu, z⟩
    · exact ⟨B, Or.inl z, fun _ _ => rfl⟩
    · obtain ⟨_, mk⟩ := nd_pm OK.1 OK.2.1 Nc.1 sd2 m12' pm' mo eS eD
      obtain ⟨x, mx, xS, xD, xn⟩ := mk u (by rw [Ms]; exact hu)
      have zx := mb_z OK.1 OK.2.1 Nc.1 O mx xS xD
      have kk := ((OK.2.1.1 _ m12).2 u hu).2
      obtain ⟨⟨u0, hu0, n0⟩, _⟩ := nd_pm OK.1 OK.2.1 Nc.1 sd2 m12' pm' mo eS eD
      rw [Ms] at hu0 n0 xn
      have kk0 := ((OK.2.1.1 _ m12).2 u0 hu0).2
      have lx : x ∈ lgL L (ndZ (lyM (rk k) q num (nk k)) sd) := nd_pr OK.1 OK.2.1 Nc.1 sd2 HM Rt.2 hv mx (by rw [xS, eS]) (by rw [xD, eD]) (fun y hy => by
        rcases hy with y1 | y1
        · rw [y1, n0]; unfold cdV; omega
        · rw [y1, xn]; unfold cdV; omega) (by
        rcases pu with p | p
        · exact Or.inl p
        · refine Or.inr (fun y => p ?_)
          rw [Ms]
          exact ryh_e OK.1 (fun a ha => by rw [zx a ha, xn]) y)
      exact ⟨_, Or.inr ⟨x, ⟨lx, xS, xD⟩, rfl⟩, fun a ha => by rw [z, zx a ha, xn]⟩
  · rcases hB with z | ⟨x, ⟨lx, xS, xD⟩, z⟩
    · exact ⟨B, Or.inl z, fun _ _ => rfl⟩
    · obtain ⟨sf, mx, _⟩ := lg_sf lx
      obtain ⟨⟨u, hu, xn⟩, _⟩ := nd_pm OK.1 OK.2.1 Nc.1 sd2 m12' pm' mx xS xD
      rw [Ms] at hu xn
      have zx := mb_z OK.1 OK.2.1 Nc.1 O mx xS xD
      refine ⟨_, Or.inr ⟨u, hu, ?_, rfl⟩, fun a ha => by rw [z, zx a ha, xn]⟩
      rcases sf.2 with p | p
      · exact Or.inl p
      · refine Or.inr (fun y => p ?_)
        rw [← zall_m]
        rw [Ms] at y
        exact ryh_e OK.1 (fun a ha => by rw [zx a ha, xn]) y
end
end
section
/-! ENDINGS, the reference: worthNow -/
theorem ntz6_m {h : Hp} {x0 : Int32} {o : Int32 × Hp} (nz : ¬ x0 = 0) (e : sJ6_numberOfTrailingZeros_0f7a4 h x0 = some o) : o.2 = h ∧ ∃ k, k < 32 ∧ x0.toBitVec.getLsbD k = true ∧ (∀ j, j < k → x0.toBitVec.getLsbD j = false) ∧ o.1.toInt = (k : Int) := by
  obtain ⟨k, hk, hb, hz⟩ := ntz_low (x := x0.toBitVec) (fun z => nz (Int32.toBitVec_inj.mp z))
  have e2 : (x0 ^^^ (-1 : Int32)) &&& (x0 - (1 : Int32)) = Int32.ofBitVec (BitVec.ofNat 32 (2 ^ k - 1)) := by
    apply Int32.toBitVec_inj.mp
    rw [Int32.toBitVec_and, Int32.toBitVec_xor, Int32.toBitVec_sub]
    exact ntz_mask hk hb hz
  unfold sJ6_numberOfTrailingZeros_0f7a4 at e
  simp only [nm] at e
  rw [e2] at e
  have e3 := e00 h (Int32.ofBitVec (BitVec.ofNat 32 (2 ^ k - 1)))
  simp only [nm] at e3
  rw [e3] at e
  have e := Option.some.inj e
  subst e
  exact ⟨rfl, k, hk, hb, hz, n_all2 ⟨k, hk⟩⟩
theorem ntz_m {h : Hp} {x : Int64} {o : Int32 × Hp} (nz : ¬ x = 0) (e : sJ13_numberOfTrailingZeros_95d88 h x = some o) : o.2 = h ∧ ∃ k, k < 64 ∧ bitJ x k = true ∧ (∀ j, j < k → bitJ x j = false) ∧ o.1.toInt = (k : Int) := by
  unfold sJ13_numberOfTrailingZeros_95d88 sJ13_numberOfTrailingZeros_95d88_25 at e
  replace e := br_s e; rcases e with ⟨c1, e⟩ | ⟨c1, e⟩
  · replace e := cl_s e; obtain ⟨o3, e3, e⟩ := e
    have lo : ∀ i, i < 32 → bitJ x i = false := fun i hi => by
      rw [← lo32 hi, c1]
      exact BitVec.getLsbD_zero
    have hi : ¬ (((x.toUInt64 >>> ((32 : Int32).toInt64.toUInt64 &&& Int64.toUInt64 63)).toInt64).toInt32) = 0 := fun z => nz (by
      apply Int64.toBitVec_inj.mp
      apply BitVec.eq_of_getLsbD_eq
      intro i hi
      show bitJ x i = (0#64).getLsbD i
      rw [BitVec.getLsbD_zero]
      by_cases q : i < 32
      · exact lo i q
      · have := hi32 (x := x) (k := i - 32) (by omega)
        rw [z, show 32 + (i - 32) = i by omega] at this
        rw [← this]
        exact BitVec.getLsbD_zero)
    obtain ⟨w1, k, hk, hb, hz, w2⟩ := ntz6_m hi e3
    have e := Option.some.inj e
    subst e
    refine ⟨w1, 32 + k, by omega, by rw [← hi32 hk]; exact hb, fun j hj => ?_, ?_⟩
    · by_cases q : j < 32
      · exact lo j q
      · have := hz (j - 32) (by omega)
        rw [hi32 (by omega), show 32 + (j - 32) = j by omega] at this
        exact this
    · show ((32 : Int32) + o3.1).toInt = _
      have t : (32 : Int32).toInt = 32 := rfl
      rw [ta (by omega), t, w2]
      omega
  · replace e := cl_s e; obtain ⟨o2, e2, e⟩ := e
    obtain ⟨w1, k, hk, hb, hz, w2⟩ := ntz6_m c1 e2
    have e := Option.some.inj e
    subst e
    exact ⟨w1, k, by omega, by rw [← lo32 hk]; exact hb, fun j hj => by rw [← lo32 (by omega)]; exact hz j hj, w2⟩
section
variable {n F N q sd k num j km : Nat} {g h h0 : Hp} {nk : Nat → Nat} {rk : Nat → Nat → Int} {bk : Nat → Nat} {o : Int32 × Hp} {x1 x2 x3 x4 x5 : Int32} {L : Nat → Nat → Int}
/-- the masks of a state -/
def MkT (n : Nat) (h : Hp) (km : Nat) (L : Nat → Nat → Int) (rk : Nat → Nat → Int) (nk : Nat → Nat) (q k num sd : Nat) : Prop := hR h (n + 513) 52 = some km ∧ MkB n h k num ∧ ∀ j, j < nk k → (rk k j - 1) % 2 = (sd : Int) → ∀ b, b < 64 → (bitJ (hJ h km (mskI n h k num sd j).toNat) b = true ↔ ∃ v, ArJ L (ndZ (lyM (rk k) q num (nk k)) sd) (sqi q num j) b v)
/-- boards met so far: men below j, and of man j to squares out of x -/
def BdJ (L : Nat → Nat → Int) (Z : Pz) (q num j : Nat) (D : Nat → Prop) (Bd : (Nat → Int) → Prop) : Prop := (∀ B, Bd B → ∃ v, v ∈ lgL L Z ∧ B = (zAll L Z v).1) ∧ ∀ v, v ∈ lgL L Z → ((∃ j', j' < j ∧ mvS v = (sqi q num j' : Int)) ∨ (mvS v = (sqi q num j : Int) ∧ D (mvD v).toNat)) → ∃ B, Bd B ∧ ∀ s, s < 64 → B s = (zAll L Z v).1 s
/-- so far: won already, or all looked at -/
def WnS (n : Nat) (g h0 h : Hp) (L : Nat → Nat → Int) (N : Nat) (nk : Nat → Nat) (rk : Nat → Nat → Int) (bk : Nat → Nat) (q k num sd j : Nat) (D : Nat → Prop) (p : Int) : Prop := ∃ Bd, MtR n g h0 h N nk rk bk q sd p False True Bd ∧ (∀ B, Bd B → ∃ v, v ∈ lgL L (ndZ (lyM (rk k) q num (nk k)) sd) ∧ B = (zAll L (ndZ (lyM (rk k) q num (nk k)) sd) v).1) ∧ (hI h (n + 513) 62 = 0 → BdJ L (ndZ (lyM (rk k) q num (nk k)) sd) q num j D Bd)
theorem wn_125 {K : Hp → Nat → Int32 → Int32 → Int32 → Int32 → Int32 → Int32 → Int32 → Option (Int32 × Hp)} {x7 x8 : Int32} {mask : Int64} {Q : Prop} (hF : 700000 ≤ F) (E : LwE L N nk rk q) (k0 : DyK n h0 h0) (B0 : WkB n h0 L N nk rk bk q) (Nd : NdH n h0 L N nk rk q k num sd) (jm : j < nk k) (np : 1 ≤ x3.toInt ∧ x3.toInt ≤ 700000) (e1 : x1.toInt = (k : Int)) (e2 : x2.toInt = ((2 * num + sd : Nat) : Int)) (e7 : x7.toInt = ((2 * q ^ j : Nat) : Int)) (e8 : x8.toInt = (j : Int)) (mk : ∀ b, b < 64 → (bitJ mask b = true ↔ ∃ v, ArJ L (ndZ (lyM (rk k) q num (nk k)) sd) (sqi q num j) b v)) (fin : ∀ {h' : Hp}, WnS n g h0 h' L N nk rk bk q k num sd (j + 1) (fun _ => False) x3.toInt → sX15_worthNow_171 F K h' (n + 513) x1 x2 x3 x4 x5 x7 x8 = some o → Q) : ∀ (f : Nat) {h : Hp} {x9 : Int64}, WnS n g h0 h L N nk rk bk q k num sd j (fun b => bitJ x9 b = false) x3.toInt → (∀ b, b < 64 → bitJ x9 b = true → bitJ mask b = true) → sX15_worthNow_125 F K f h (n + 513) x1 x2 x3 x4 x5 x7 x8 x9 = some o → Q := by
  obtain ⟨⟨OK, LD, Nc⟩, Fm, q0, q64, eq⟩ := id E
  obtain ⟨⟨kN, nb, sd2⟩, Rt, sts⟩ := id Nd
  have sq := sq_64 OK.1
  have HM := nd_mok (num := num) q0 eq (Fm.1 k kN)
  have O := nd_ok OK.1 OK.2.1 HM sd2 Rt.2
  intro f
  induction f with
  | zero => intro h x9 _ _ e; exact absurd e (by rw [sX15_worthNow_125]; exact fun z => nomatch z)
  | succ f ih =>
    intro h x9 S sub e
    rw [sX15_worthNow_125] at e
    obtain ⟨Bd, R, a1, a2⟩ := S
    -- nothing is left of man j
    have all : (hI h (n + 513) 62 = 0 → ∀ b, b < 64 → bitJ x9 b = false) → WnS n g h0 h L N nk rk bk q k num sd (j + 1) (fun _ => False) x3.toInt := fun z => by
      refine ⟨Bd, R, a1, fun w0 => ⟨a1, fun v hv hs => ?_⟩⟩
      have := (a2 w0).2 v hv
      rcases hs with ⟨j', hj', es⟩ | ⟨_, c⟩
      · by_cases y : j' = j
        · rw [y] at es
          have G := mo_g OK.1 OK.2.1 O (lg_mo hv)
          obtain ⟨_, _, gd, _⟩ := gd_r G
          exact this (Or.inr ⟨es, z w0 _ (by omega)⟩)
        · exact this (Or.inl ⟨j', by omega, es⟩)
      · exact c.elim
    rcases br_s e with ⟨c, e⟩ | ⟨c, e⟩
    · have x0 : x9 = 0 := cmp_eq c
      refine fin (all (fun _ b _ => ?_)) e
      rw [x0, bj_zero]
    have nz : ¬ x9 = 0 := fun z => c (by rw [z]; decide)
    rcases br_s e with ⟨c2, e⟩ | ⟨c2, e⟩
    rotate_left
    · exact fin (all (fun z => absurd z c2)) e
    obtain ⟨o3, e3, e⟩ := cl_s e
    obtain ⟨p3, t, t64, bt, lo, et⟩ := ntz_m nz e3
    rw [p3] at e
    obtain ⟨v4, w4, e⟩ := nm_s e
    obtain ⟨o5, e5, e⟩ := cl_s e
    have ex := (mk t t64).mp (sub t t64 bt)
    have R5 := mta_k hF E k0 B0 Nd jm np ex R e1 e2 e8 et e7 e5
    obtain ⟨kl, kl64, kb, kz, _, kr⟩ := low_rest nz
    have kt : kl = t := by
      rcases Nat.lt_trichotomy kl t with c | c | c
      · rw [lo kl c] at kb; exact absurd kb (by decide)
      · exact c
      · rw [kz t c] at bt; exact absurd bt (by decide)
    have bits : ∀ b, b < 64 → bitJ v4 b = (bitJ x9 b && !decide (t = b)) := fun b hb => by rw [w4, kr b hb, kt]
    refine ih ⟨_, R5, fun B hB => ?_, fun w0 => ⟨fun B hB => ?_, fun v hv hs => ?_⟩⟩ (fun b hb z => sub b hb ?_) e
    · rcases hB with z | ⟨v, hv, z⟩
      · exact a1 B z
      · exact ⟨v, hv.1, z⟩
    · rcases hB with z | ⟨v, hv, z⟩
      · exact a1 B z
      · exact ⟨v, hv.1, z⟩
    · have old := (a2 c2).2 v hv
      rcases hs with z | ⟨es, d⟩
      · obtain ⟨B, b1, b2⟩ := old (Or.inl z)
        exact ⟨B, Or.inl b1, b2⟩
      · by_cases y : (mvD v).toNat = t
        · have G := mo_g OK.1 OK.2.1 O (lg_mo hv)
          obtain ⟨_, _, gd, _⟩ := gd_r G
          exact ⟨_, Or.inr ⟨v, ⟨hv, es, by omega⟩, rfl⟩, fun _ _ => rfl⟩
        · have G := mo_g OK.1 OK.2.1 O (lg_mo hv)
          obtain ⟨_, _, gd, _⟩ := gd_r G
          have d : bitJ v4 (mvD v).toNat = false := d
          rw [bits _ (by omega), decide_eq_false (fun z => y z.symm), Bool.not_false, Bool.and_true] at d
          obtain ⟨B, b1, b2⟩ := old (Or.inr ⟨es, d⟩)
          exact ⟨B, Or.inl b1, b2⟩
    · rw [bits b hb] at z
      exact (Bool.and_eq_true _ _ ▸ z).1
/-- what worthNow tells -/
def WnR (n : Nat) (g h0 : Hp) (L : Nat → Nat → Int) (N : Nat) (nk : Nat → Nat) (rk : Nat → Nat → Int) (bk : Nat → Nat) (q k num sd : Nat) (p : Int) (o : Int32 × Hp) : Prop := FrW (WWn n) h0 o.2 ∧ DyK n h0 o.2 ∧ DyK n g o.2 ∧ (((∃ v x, v ∈ lgL L (ndZ (lyM (rk k) q num (nk k)) sd) ∧ SvV n h0 N nk rk bk q (1 - sd) (zAll L (ndZ (lyM (rk k) q num (nk k)) sd) v).1 x ∧ x = p - 1 - 1000000) ∧ o.1.toInt = 1000000 - p) ∨ ((¬ ∃ v x, v ∈ lgL L (ndZ (lyM (rk k) q num (nk k)) sd) ∧ SvV n h0 N nk rk bk q (1 - sd) (zAll L (ndZ (lyM (rk k) q num (nk k)) sd) v).1 x ∧ x = p - 1 - 1000000) ∧ (((∀ v x, v ∈ lgL L (ndZ (lyM (rk k) q num (nk k)) sd) → SvV n h0 N nk rk bk q (1 - sd) (zAll L (ndZ (lyM (rk k) q num (nk k)) sd) v).1 x → 1000000 - p < x ∧ x ≤ 1000000) ∧ o.1.toInt = p - 1000000) ∨ ((¬ ∀ v x, v ∈ lgL L (ndZ (lyM (rk k) q num (nk k)) sd) → SvV n h0 N nk rk bk q (1 - sd) (zAll L (ndZ (lyM (rk k) q num (nk k)) sd) v).1 x → 1000000 - p < x ∧ x ≤ 1000000) ∧ o.1.toInt = 0))))
theorem wn_186 {D : Nat → Prop} (E : LwE L N nk rk q) (Nd : NdH n h0 L N nk rk q k num sd) (np : 1 ≤ x3.toInt ∧ x3.toInt ≤ 700000) (S : WnS n g h0 h L N nk rk bk q k num sd j D x3.toInt) (dn : hI h (n + 513) 62 = 0 → j = nk k) (e : sX15_worthNow_186 F h (n + 513) x3 = some o) : WnR n g h0 L N nk rk bk q k num sd x3.toInt o := by
  have zS : (1000000 : Int32).toInt = 1000000 := rfl
  obtain ⟨⟨OK, LD, Nc⟩, Fm, q0, q64, eq⟩ := id E
  obtain ⟨⟨kN, nb, sd2⟩, Rt, sts⟩ := id Nd
  have HM := nd_mok (num := num) q0 eq (Fm.1 k kN)
  obtain ⟨Bd, ⟨r1, r2, r3, r4, r5⟩, a1, a2⟩ := S
  have sv : ∀ {B B' : Nat → Int} {x : Int}, (∀ s, s < 64 → B s = B' s) → SvV n h0 N nk rk bk q (1 - sd) B x → SvV n h0 N nk rk bk q (1 - sd) B' x := fun e ⟨k, num, O, ex⟩ => ⟨k, num, ndo_e e O, ex⟩
  unfold sX15_worthNow_186 sX15_worthNow_217 at e
  rcases br_s e with ⟨c, e⟩ | ⟨c, e⟩
  rotate_left
  · rw [so_e e]
    refine ⟨r1, r2, r3, Or.inl ⟨?_, by show ((1000000 : Int32) - x3).toInt = _; rw [ts (by rw [zS]; omega), zS]⟩⟩
    rcases flb_1 r4 c with z | ⟨B, x, b, s, ex⟩
    · exact z.elim
    · obtain ⟨v, hv, eB⟩ := a1 B b
      rw [eB] at s
      exact ⟨v, x, hv, s, ex⟩
  have jn := dn c
  have cov := (a2 c).2
  have al : ∀ v, v ∈ lgL L (ndZ (lyM (rk k) q num (nk k)) sd) → ∃ B, Bd B ∧ ∀ s, s < 64 → B s = (zAll L (ndZ (lyM (rk k) q num (nk k)) sd) v).1 s := fun v hv => by
    obtain ⟨_, mo, _⟩ := lg_sf hv
    obtain ⟨s', t', _, _, q1, _, _, ms, _⟩ := nd_mv OK.1 OK.2.1 Rt.2 HM sd2 mo
    obtain ⟨j', hj', es, _⟩ := ly_mem (row := rk k) (q := q) (num := num) (s := s') (nk k) (fun z => by omega)
    exact cov v hv (Or.inl ⟨j', by omega, by rw [q1, es]⟩)
  have nw : ¬ ∃ v x, v ∈ lgL L (ndZ (lyM (rk k) q num (nk k)) sd) ∧ SvV n h0 N nk rk bk q (1 - sd) (zAll L (ndZ (lyM (rk k) q num (nk k)) sd) v).1 x ∧ x = x3.toInt - 1 - 1000000 := fun ⟨v, x, hv, s, ex⟩ => by
    obtain ⟨B, b1, b2⟩ := al v hv
    exact flb_0 r4 c (Or.inr ⟨B, x, b1, sv (fun s hs => (b2 s hs).symm) s, ex⟩)
  rcases br_s e with ⟨c1, e⟩ | ⟨c1, e⟩
  · rw [so_e e]
    refine ⟨r1, r2, r3, Or.inr ⟨nw, Or.inr ⟨fun z => flb_0 r5 c1 ⟨trivial, fun B x b s => ?_⟩, rfl⟩⟩⟩
    obtain ⟨v, hv, eB⟩ := a1 B b
    rw [eB] at s
    exact z v x hv s
  · rw [so_e e]
    refine ⟨r1, r2, r3, Or.inr ⟨nw, Or.inl ⟨fun v x hv s => ?_, by show (x3 - (1000000 : Int32)).toInt = _; rw [ts (by rw [zS]; omega), zS]⟩⟩⟩
    obtain ⟨B, b1, b2⟩ := al v hv
    exact (flb_1 r5 c1).2 B x b1 (sv (fun s hs => (b2 s hs).symm) s)
theorem wn_73 (hF : 700000 ≤ F) (E : LwE L N nk rk q) (k0 : DyK n h0 h0) (B0 : WkB n h0 L N nk rk bk q) (Nd : NdH n h0 L N nk rk q k num sd) (Mk : MkT n h0 km L rk nk q k num sd) (km6 : n + 610 ≤ km) (kmS : km < hS h0) (np : 1 ≤ x3.toInt ∧ x3.toInt ≤ 700000) (e1 : x1.toInt = (k : Int)) (e2 : x2.toInt = ((2 * num + sd : Nat) : Int)) (e4 : x4.toInt = ((nk k : Nat) : Int)) (e5 : x5.toInt = (sd : Int)) : ∀ (f : Nat) {h : Hp} {x7 x8 : Int32} {j : Nat}, WnS n g h0 h L N nk rk bk q k num sd j (fun _ => False) x3.toInt → x8.toInt = (j : Int) → j ≤ nk k → (j < nk k → x7.toInt = ((2 * q ^ j : Nat) : Int)) → sX15_worthNow_73 F f h (n + 513) x1 x2 x3 x4 x5 x7 x8 = some o → WnR n g h0 L N nk rk bk q k num sd x3.toInt o := by
  have z1 : (1 : Int32).toInt = 1 := rfl
  have z5 : (5 : Int32).toInt = 5 := rfl
  obtain ⟨⟨OK, LD, Nc⟩, Fm, q0, q64, eq⟩ := id E
  obtain ⟨⟨kN, nb, sd2⟩, Rt, sts⟩ := id Nd
  have s0 := dk_610 k0
  obtain ⟨⟨a1, a2⟩, _⟩ := id B0.2.1
  obtain ⟨b1, b2, b3, b4, b5⟩ := a2 k kN
  have HM := nd_mok (num := num) q0 eq (Fm.1 k kN)
  have rp : ∀ i, i < nk k → 1 ≤ rk k i := fun i hi => ((Fm.1 k kN).2.1 i hi).1
  intro f
  induction f with
  | zero => intro h x7 x8 j _ _ _ _ e; exact absurd e (by rw [sX15_worthNow_73]; exact fun z => nomatch z)
  | succ f ih =>
    intro h x7 x8 j S e8 jn e7 e
    rw [sX15_worthNow_73] at e
    rcases br_s e with ⟨c, e⟩ | ⟨c, e⟩
    · have c := le_i c
      exact wn_186 E Nd np S (fun _ => by omega) e
    have c := nle_i c
    have jm : j < nk k := by omega
    have e7 := e7 jm
    rcases br_s e with ⟨c2, e⟩ | ⟨c2, e⟩
    rotate_left
    · exact wn_186 E Nd np S (fun z => absurd z c2) e
    obtain ⟨Bd, R, s1, s2⟩ := id S
    obtain ⟨r1, r2, r3, r4, r5⟩ := id R
    have Sh := rst_f k0 b1 r1 (fun i => ⟨fun c => by unfold WWn at c; omega, fun c => by unfold WWn at c; omega⟩)
    have q13 : (hI h (n + 513) 13).toInt = (q : Int) := by rw [(r1.2 (n + 513) 13 (by omega) (fun c => by unfold WWn at c; omega)).1]; exact B0.2.2.1
    have ix : (((5 : Int32) * x1) + x8).toInt = ((5 * k + j : Nat) : Int) := by
      rw [ta (by rw [tm (by rw [z5]; omega), z5]; omega), tm (by rw [z5]; omega), z5]; omega
    have nx : (((5 : Int32) * x1) + x8).toNatClampNeg = 5 * k + j := by have := nc_i (x := ((5 : Int32) * x1) + x8) (by omega); omega
    replace e := ce_e (dk_e (a := 513) (f := 47) (b := 593) r2 (by decide +kernel)) e
    replace e := gg_e e
    obtain ⟨o5, e5', e⟩ := cl_s e
    unfold sX15_sideOf at e5'
    have y5 := so_e e5'
    rw [nx] at y5
    have rj := Sh.2 j jm
    have rb := (Fm.1 k kN).2.1 j jm
    have L2 := OK.1.2.2.1
    have v31 : (hI h (n + 593) (5 * k + j) - (1 : Int32)).toInt = rk k j - 1 := by rw [ts (by rw [z1]; omega), z1, rj]
    have v5 : o5.1.toInt = (rk k j - 1) % 2 := by
      rw [y5]
      show ((hI h (n + 593) (5 * k + j) - (1 : Int32)) &&& (1 : Int32)).toInt = _
      rw [and1_i (by omega), v31]
    have h5 : o5.2 = h := by rw [y5]
    rw [h5] at e
    -- how it goes on behind man j
    have fin : ∀ {h' : Hp}, WnS n g h0 h' L N nk rk bk q k num sd (j + 1) (fun _ => False) x3.toInt → sX15_worthNow_171 F (sX15_worthNow_73 F f) h' (n + 513) x1 x2 x3 x4 x5 x7 x8 = some o → WnR n g h0 L N nk rk bk q k num sd x3.toInt o := fun {h'} S' e => by
      unfold sX15_worthNow_171 at e
      obtain ⟨v1, w1, e⟩ := nm_s e
      obtain ⟨v2, w2, e⟩ := nm_s e
      have y2 : v2.toInt = ((j + 1 : Nat) : Int) := by rw [w2, ta (by rw [z1]; omega), z1]; omega
      refine ih S' y2 (by omega) (fun jl => ?_) e
      obtain ⟨Bd', R', _⟩ := S'
      have q13' : (hI h' (n + 513) 13).toInt = (q : Int) := by rw [(R'.1.2 (n + 513) 13 (by omega) (fun c => by unfold WWn at c; omega)).1]; exact B0.2.2.1
      have pe : 2 * q ^ j * q = 2 * q ^ (j + 1) := by rw [Nat.pow_succ, Nat.mul_assoc]
      have pl : q ^ (j + 1) ≤ q ^ nk k := Nat.pow_le_pow_right q0 (by omega)
      have pr : ((2 * q ^ j : Nat) : Int) * (q : Int) = ((2 * q ^ (j + 1) : Nat) : Int) := by rw [← Int.natCast_mul, pe]
      rw [w1, tm (by rw [e7, q13', pr]; omega), e7, q13', pr]
    unfold sX15_worthNow_123 at e
    rcases br_s e with ⟨c3, e⟩ | ⟨c3, e⟩
    · have own : (rk k j - 1) % 2 = (sd : Int) := by
        rw [← v5, ← e5]
        exact congrArg Int32.toInt c3
      have ekm : hR h (n + 513) 52 = some km := by rw [(r2.2.2.2 (by omega)).2]; exact Mk.1
      replace e := ce_e ekm e
      obtain ⟨o8, e8', e⟩ := cl_s e
      have Bh : MkB n h k num := by
        unfold MkB
        rw [(r1.2 (n + 596) k (by omega) (fun c => by unfold WWn at c; omega)).1, (r1.2 (n + 592) k (by omega) (fun c => by unfold WWn at c; omega)).1]
        exact Mk.2.1
      obtain ⟨p8, q8⟩ := mko_x r2 Bh Sh b2 (by omega) sd2 e1 e2 e8 e8'
      rw [p8] at e
      obtain ⟨ib, e⟩ := gd_s e
      have i0 := nlt_i (inb_n ib)
      have zz : (0 : Int32).toInt = 0 := rfl
      have n8 : o8.1.toNatClampNeg = (mskI n h0 k num sd j).toNat := by
        have me : mskI n h k num sd j = mskI n h0 k num sd j := mki_f k0 r1 (fun i => ⟨fun c => by unfold WWn at c; omega, fun c => by unfold WWn at c; omega, fun c => by unfold WWn at c; omega⟩)
        rw [me] at q8
        have := nc_i (x := o8.1) (by omega)
        omega
      rw [n8] at e
      have mj := Mk.2.2 j jm own
      have hk : hJ h km (mskI n h0 k num sd j).toNat = hJ h0 km (mskI n h0 k num sd j).toNat := (r1.2 km _ kmS (fun c => by unfold WWn at c; omega)).2
      rw [hk] at e
      refine wn_125 hF E k0 B0 Nd jm np e1 e2 e7 e8 mj fin F ⟨Bd, R, s1, fun w0 => ⟨s1, fun v hv hs => ?_⟩⟩ (fun b hb z => z) e
      rcases hs with z | ⟨es, d⟩
      · exact (s2 w0).2 v hv (Or.inl z)
      · obtain ⟨_, mo, _⟩ := lg_sf hv
        obtain ⟨s', t', _, t64, q1, q2, _⟩ := nd_mv OK.1 OK.2.1 Rt.2 HM sd2 mo
        have bb := (mj (mvD v).toNat (by omega)).mpr ⟨v, hv, es, by omega⟩
        have d : bitJ (hJ h0 km (mskI n h0 k num sd j).toNat) (mvD v).toNat = false := d
        rw [d] at bb
        exact absurd bb (by decide)
    · have now : ¬ (rk k j - 1) % 2 = (sd : Int) := fun z => c3 (Int32.toInt_inj.mp (by rw [v5, e5]; exact z))
      have nomv : ∀ v, v ∈ lgL L (ndZ (lyM (rk k) q num (nk k)) sd) → ¬ mvS v = (sqi q num j : Int) := fun v hv es => by
        obtain ⟨_, mo, _⟩ := lg_sf hv
        obtain ⟨s', t', _, _, q1, _, _, _, es', _⟩ := nd_mv OK.1 OK.2.1 Rt.2 HM sd2 mo
        have : s' = sqi q num j := by omega
        rw [this, ly_at rp Rt.1 (nk k) (Nat.le_refl _) j jm] at es'
        exact now es'
      refine wn_125 (mask := 0) hF E k0 B0 Nd jm np e1 e2 e7 e8 (fun b hb => ⟨fun z => by rw [bj_zero] at z; exact absurd z (by decide), fun ⟨v, hv⟩ => absurd hv.2.1 (nomv v hv.1)⟩) fin F ⟨Bd, R, s1, fun w0 => ⟨s1, fun v hv hs => ?_⟩⟩ (fun b hb z => z) e
      rcases hs with z | ⟨es, d⟩
      · exact (s2 w0).2 v hv (Or.inl z)
      · exact absurd es (nomv v hv)
end
end
section
/-! ENDINGS, pure: passes over a table -/
section
variable {α : Type} {Rt : α → Prop} {v0 : α → Option Int} {Ar : α → α → Prop} {T T1 : α → Int} {p : Nat}
def PsO (Ar : α → α → Prop) (T : α → Int) (p : Nat) (x : α) : Prop := T x = 2000000 ∧ (∀ (y : α) (d : Nat), Ar x y → d + 1 < p → ¬ T y = (d : Int) - 1000000) ∧ (2 ≤ p → ∃ y, Ar x y ∧ ∀ d : Nat, d + 1 < p → ¬ T y = 1000000 - (d : Int))
/-- before pass p -/
def PasI (Rt : α → Prop) (v0 : α → Option Int) (Ar : α → α → Prop) (T : α → Int) (p : Nat) : Prop := ∀ x, Rt x → (∃ w, v0 x = some w ∧ T x = w) ∨ (v0 x = none ∧ (PsO Ar T p x ∨ ∃ n, n < p ∧ (LW Ar T x n ∨ LL Ar T x n)))
def WiP (Ar : α → α → Prop) (T : α → Int) (p : Nat) (x : α) : Prop := ∃ y, Ar x y ∧ T y = (p : Int) - 1 - 1000000
def LsP (Ar : α → α → Prop) (T : α → Int) (p : Nat) (x : α) : Prop := ∀ y, Ar x y → 1000000 - (p : Int) < T y ∧ T y ≤ 1000000
/-- what a pass makes of a place -/
def NwT (Ar : α → α → Prop) (T T1 : α → Int) (p : Nat) (x : α) : Prop := (¬ T x = 2000000 ∧ T1 x = T x) ∨ (T x = 2000000 ∧ ((WiP Ar T p x ∧ T1 x = 1000000 - (p : Int)) ∨ (¬ WiP Ar T p x ∧ ((LsP Ar T p x ∧ T1 x = (p : Int) - 1000000) ∨ (¬ LsP Ar T p x ∧ T1 x = 2000000)))))
theorem nwt_c {x : α} (W : NwT Ar T T1 p x) : T1 x = T x ∨ (T x = 2000000 ∧ (T1 x = 1000000 - (p : Int) ∨ T1 x = (p : Int) - 1000000)) := by
  rcases W with ⟨_, a⟩ | ⟨a, ⟨_, b⟩ | ⟨_, ⟨_, b⟩ | ⟨_, b⟩⟩⟩
  · exact Or.inl a
  · exact Or.inr ⟨a, Or.inl b⟩
  · exact Or.inr ⟨a, Or.inr b⟩
  · exact Or.inl (by rw [a, b])
theorem ps_next (cl : ∀ x y, Rt x → Ar x y → Rt y) (ne : ∀ x, Rt x → v0 x = none → ∃ y, Ar x y) (vb : ∀ x w, v0 x = some w → w = 0 ∨ w = 1000000 ∨ w = -1000000) (p1 : 1 ≤ p) (p2 : p ≤ 700000) (I : PasI Rt v0 Ar T p) (N : ∀ x, Rt x → NwT Ar T T1 p x) : PasI Rt v0 Ar T1 (p + 1) := by
  intro x r
  have ch : ∀ y, Ar x y → T1 y = T y ∨ (T y = 2000000 ∧ (T1 y = 1000000 - (p : Int) ∨ T1 y = (p : Int) - 1000000)) := fun y a => nwt_c (N y (cl x y r a))
  rcases I x r with ⟨w, a, b⟩ | ⟨a, b⟩
  · refine Or.inl ⟨w, a, ?_⟩
    have := vb x w a
    rcases nwt_c (N x r) with z | ⟨z, _⟩
    · rw [z, b]
    · rw [b] at z; omega
  refine Or.inr ⟨a, ?_⟩
  rcases b with ⟨o1, o2, o3⟩ | ⟨n, np, d⟩
  · rcases N x r with ⟨z, _⟩ | ⟨_, z⟩
    · exact absurd o1 z
    rcases z with ⟨w, t⟩ | ⟨nw, ⟨l, t⟩ | ⟨nl, t⟩⟩
    · refine Or.inr ⟨p, Nat.lt_succ_self _, Or.inl ⟨p1, by omega, t, ?_, fun y d ar d6 e => ?_⟩⟩
      · obtain ⟨y, ar, e⟩ := w
        refine ⟨y, ar, ?_⟩
        rcases ch y ar with z | ⟨z, _⟩
        · rw [z, e]
        · rw [e] at z; omega
      · apply Classical.byContradiction
        intro lt
        rcases ch y ar with z | ⟨_, z | z⟩
        · exact o2 y d ar (by omega) (by rw [← z, e])
        · rw [e] at z; omega
        · rw [e] at z; omega
    · refine Or.inr ⟨p, Nat.lt_succ_self _, Or.inr ⟨p1, by omega, t, ?_, fun y ar => ?_⟩⟩
      · by_cases c : 2 ≤ p
        · obtain ⟨y, ar, nd⟩ := o3 c
          have := l y ar
          refine ⟨y, ar, ?_⟩
          have := nd (1000000 - T y).toNat
          rcases ch y ar with z | ⟨z, _⟩
          · rw [z]
            apply Classical.byContradiction
            intro q
            exact this (by omega) (by omega)
          · omega
        · obtain ⟨y, ar⟩ := ne x r a
          have := l y ar
          refine ⟨y, ar, ?_⟩
          rcases ch y ar with z | ⟨z, _⟩
          · rw [z]; omega
          · omega
      · have := l y ar
        refine ⟨(1000000 - T y).toNat, by omega, ?_⟩
        rcases ch y ar with z | ⟨z, _⟩
        · rw [z]; omega
        · omega
    · refine Or.inl ⟨t, fun y d ar dp e => ?_, fun _ => ?_⟩
      · rcases ch y ar with z | ⟨_, z | z⟩
        · by_cases c : d + 1 < p
          · exact o2 y d ar c (by rw [← z, e])
          · exact nw ⟨y, ar, by rw [← z, e]; omega⟩
        · rw [e] at z; omega
        · rw [e] at z; omega
      · apply Classical.byContradiction
        intro q
        apply nl
        intro y ar
        apply Classical.byContradiction
        intro z
        refine q ⟨y, ar, fun d dp e => ?_⟩
        rcases ch y ar with c | ⟨_, c | c⟩
        · exact z ⟨by omega, by omega⟩
        · rw [e] at c; omega
        · rw [e] at c; omega
  · have nT : T1 x = T x := by
      rcases nwt_c (N x r) with z | ⟨z, _⟩
      · exact z
      · rcases d with d | d
        · have := d.2.2.1; have := d.2.1; omega
        · have := d.2.2.1; have := d.2.1; omega
    refine Or.inr ⟨n, by omega, ?_⟩
    rcases d with ⟨d1, d2, d3, ⟨y, ar, e⟩, d5⟩ | ⟨d1, d2, d3, ⟨y, ar, e⟩, d5⟩
    · refine Or.inl ⟨d1, d2, by rw [nT, d3], ⟨y, ar, ?_⟩, fun y d ar d6 e => ?_⟩
      · rcases ch y ar with z | ⟨z, _⟩
        · rw [z, e]
        · rw [e] at z; omega
      · rcases ch y ar with z | ⟨_, z | z⟩
        · exact d5 y d ar d6 (by rw [← z, e])
        · rw [e] at z; omega
        · rw [e] at z; omega
    · refine Or.inr ⟨d1, d2, by rw [nT, d3], ⟨y, ar, ?_⟩, fun y ar => ?_⟩
      · rcases ch y ar with z | ⟨z, _⟩
        · rw [z, e]
        · rw [e] at z; omega
      · obtain ⟨d, dl, e⟩ := d5 y ar
        refine ⟨d, dl, ?_⟩
        rcases ch y ar with z | ⟨z, _⟩
        · rw [z, e]
        · rw [e] at z; omega
theorem ps_end (cl : ∀ x y, Rt x → Ar x y → Rt y) (vb : ∀ x w, v0 x = some w → w = 0 ∨ w = 1000000 ∨ w = -1000000) (p1 : 1 ≤ p) (p2 : p ≤ 700000) (I : PasI Rt v0 Ar T p) (N : ∀ x, Rt x → T x = 2000000 → ¬ WiP Ar T p x ∧ ¬ LsP Ar T p x) (F : ∀ x, Rt x → (T x = 2000000 ∧ T1 x = 0) ∨ (¬ T x = 2000000 ∧ T1 x = T x)) : LocT Rt v0 Ar T1 := by
  intro x r
  have dep : ∀ y, Rt y → T y = 2000000 ∨ T y = 0 ∨ ∃ d : Nat, d < p ∧ (T y = 1000000 - (d : Int) ∨ T y = (d : Int) - 1000000) := fun y ry => by
    rcases I y ry with ⟨w, a, b⟩ | ⟨a, b | ⟨n, np, d | d⟩⟩
    · rcases vb y w a with z | z | z
      · exact Or.inr (Or.inl (by rw [b, z]))
      · exact Or.inr (Or.inr ⟨0, p1, Or.inl (by rw [b, z]; rfl)⟩)
      · exact Or.inr (Or.inr ⟨0, p1, Or.inr (by rw [b, z]; rfl)⟩)
    · exact Or.inl b.1
    · exact Or.inr (Or.inr ⟨n, np, Or.inl d.2.2.1⟩)
    · exact Or.inr (Or.inr ⟨n, np, Or.inr d.2.2.1⟩)
  rcases I x r with ⟨w, a, b⟩ | ⟨a, b⟩
  · refine Or.inl ⟨w, a, ?_⟩
    have := vb x w a
    rcases F x r with ⟨z, _⟩ | ⟨_, z⟩
    · rw [b] at z; omega
    · rw [z, b]
  refine Or.inr ⟨a, ?_⟩
  rcases b with ⟨o1, o2, o3⟩ | ⟨n, np, d⟩
  · obtain ⟨nw, nl⟩ := N x r o1
    refine Or.inr (Or.inr ⟨?_, fun y d ar d6 e => ?_, ?_⟩)
    · rcases F x r with ⟨_, z⟩ | ⟨z, _⟩
      · exact z
      · exact absurd o1 z
    · have ry := cl x y r ar
      rcases F y ry with ⟨_, z⟩ | ⟨_, z⟩
      · rw [e] at z; omega
      · rw [e] at z
        rcases dep y ry with q | q | ⟨d', dp, q | q⟩
        · omega
        · omega
        · omega
        · have : d = d' := by omega
          by_cases c : d + 1 < p
          · exact o2 y d ar c z.symm
          · exact nw ⟨y, ar, by omega⟩
    · apply Classical.byContradiction
      intro q
      apply nl
      intro y ar
      apply Classical.byContradiction
      intro z
      have ry := cl x y r ar
      refine q ⟨y, ar, fun d d6 e => ?_⟩
      rcases F y ry with ⟨_, c⟩ | ⟨_, c⟩
      · omega
      · rcases dep y ry with w | w | ⟨d', dp, w | w⟩
        · omega
        · omega
        · exact z ⟨by omega, by omega⟩
        · omega
  · have nT : ∀ {z : Int}, T x = z → ¬ z = 2000000 → T1 x = z := fun e ne => by
      rcases F x r with ⟨q, _⟩ | ⟨_, q⟩
      · rw [e] at q; exact absurd q ne
      · rw [q, e]
    have nY : ∀ y, Ar x y → ∀ {z : Int}, T y = z → ¬ z = 2000000 → T1 y = z := fun y ar {z} e ne => by
      rcases F y (cl x y r ar) with ⟨q, _⟩ | ⟨_, q⟩
      · rw [e] at q; exact absurd q ne
      · rw [q, e]
    rcases d with ⟨d1, d2, d3, ⟨y, ar, e⟩, d5⟩ | ⟨d1, d2, d3, ⟨y, ar, e⟩, d5⟩
    · refine Or.inl ⟨n, d1, d2, nT d3 (by omega), ⟨y, ar, nY y ar e (by omega)⟩, fun y d ar d6 e => ?_⟩
      rcases F y (cl x y r ar) with ⟨_, q⟩ | ⟨_, q⟩
      · omega
      · exact d5 y d ar d6 (by rw [← q, e])
    · refine Or.inr (Or.inl ⟨n, d1, d2, nT d3 (by omega), ⟨y, ar, nY y ar e (by omega)⟩, fun y ar => ?_⟩)
      obtain ⟨d, dl, e⟩ := d5 y ar
      exact ⟨d, dl, nY y ar e (by omega)⟩
end
end
section
/-! ENDINGS, the reference: places of the table; worthNow from its start -/
abbrev Nod := Nat × Nat × Nat
section
variable {n F N q sd k num km : Nat} {g h h0 : Hp} {nk : Nat → Nat} {rk : Nat → Nat → Int} {bk : Nat → Nat} {o : Int32 × Hp} {x1 x2 x3 : Int32} {L : Nat → Nat → Int} {ν ν' : Nod}
def NdA (N : Nat) (nk : Nat → Nat) (q : Nat) (ν : Nod) : Prop := ν.1 < N ∧ ν.2.1 < q ^ nk ν.1 ∧ ν.2.2 < 2
abbrev ndM (nk : Nat → Nat) (rk : Nat → Nat → Int) (q : Nat) (ν : Nod) : Nat → Int := lyM (rk ν.1) q ν.2.1 (nk ν.1)
abbrev ndQ (nk : Nat → Nat) (rk : Nat → Nat → Int) (q : Nat) (ν : Nod) : Pz := ndZ (ndM nk rk q ν) ν.2.2
def RtA (L : Nat → Nat → Int) (N : Nat) (nk : Nat → Nat) (rk : Nat → Nat → Int) (q : Nat) (ν : Nod) : Prop := NdA N nk q ν ∧ RtN L (rk ν.1) q ν.2.1 (nk ν.1) ν.2.2
noncomputable def v0A (L : Nat → Nat → Int) (nk : Nat → Nat) (rk : Nat → Nat → Int) (q : Nat) (ν : Nod) : Option Int := v0N L (ndQ nk rk q ν)
def ArA (L : Nat → Nat → Int) (N : Nat) (nk : Nat → Nat) (rk : Nat → Nat → Int) (q : Nat) (ν ν' : Nod) : Prop := ν'.2.2 = 1 - ν.2.2 ∧ ∃ v, v ∈ lgL L (ndQ nk rk q ν) ∧ NdO N nk rk q (zAll L (ndQ nk rk q ν) v).1 ν'.1 ν'.2.1
def TbR (n : Nat) (h : Hp) (bk : Nat → Nat) (ν : Nod) : Int := (hI h (n + 595) (bk ν.1 + 2 * ν.2.1 + ν.2.2)).toInt
theorem cl_A (E : LwE L N nk rk q) : ∀ ν ν', RtA L N nk rk q ν → ArA L N nk rk q ν ν' → RtA L N nk rk q ν' := fun ν ν' R A => by
  obtain ⟨⟨OK, LD, Nc⟩, Fm, q0, q64, eq⟩ := E
  obtain ⟨⟨kN, nb, s2⟩, St, w0⟩ := R
  obtain ⟨es, v, hv, O⟩ := A
  have HM := nd_mok (num := ν.2.1) q0 eq (Fm.1 _ kN)
  obtain ⟨r3, r6⟩ := nd_rt OK LD Nc s2 HM w0 hv
  refine ⟨⟨O.1, O.2.1, by omega⟩, O.2.2.1, (nd_wr Nc.1 (nd_un (Fm.1 _ O.1))).mpr ⟨fun z => r3 ?_, fun z => r6 ?_⟩⟩
  · rw [es] at z
    exact f3_e O.2.2.2 z
  · have e1 : 1 - ν'.2.2 = ν.2.2 := by omega
    rw [e1] at z
    exact ryh_e OK.1 (fun x hx => (O.2.2.2 x hx).symm) z
theorem v0_ne {Z : Pz} (e : v0N L Z = none) : ∃ v, v ∈ lgL L Z := by
  have c : (enE L Z).1 ≤ 0 := Classical.byContradiction (fun z => by
    unfold v0N at e
    rw [if_neg z] at e
    exact nomatch e)
  unfold enE at c
  by_cases c1 : 0 < (er1 L Z).1
  · rw [if_pos c1] at c; omega
  · rw [if_neg c1] at c
    by_cases c2 : lgL L Z = []
    · rw [if_neg (fun z => z c2)] at c
      split at c
      · have c : (5 : Int) ≤ 0 := c
        omega
      · have c : (6 : Int) ≤ 0 := c
        omega
    · exact List.exists_mem_of_ne_nil _ c2
theorem ne_A (E : LwE L N nk rk q) : ∀ ν, RtA L N nk rk q ν → v0A L nk rk q ν = none → ∃ ν', ArA L N nk rk q ν ν' := fun ν R e => by
  obtain ⟨⟨OK, LD, Nc⟩, Fm, q0, q64, eq⟩ := E
  obtain ⟨⟨kN, nb, s2⟩, St, w0⟩ := R
  obtain ⟨v, hv⟩ := v0_ne e
  obtain ⟨k', num', a, b, c, d⟩ := nd_nx OK.1 OK.2.1 Nc.1 Fm q0 q64 eq kN s2 St w0 (lg_mo hv)
  exact ⟨(k', num', 1 - ν.2.2), rfl, v, hv, a, b, c, d⟩
theorem vb_A : ∀ ν w, v0A L nk rk q ν = some w → w = 0 ∨ w = 1000000 ∨ w = -1000000 := fun ν w e => by
  unfold v0A v0N at e
  split at e
  · exact nomatch e
  · rw [← Option.some.inj e]
    split
    · exact Or.inl rfl
    · split
      · exact Or.inr (Or.inl rfl)
      · exact Or.inr (Or.inr rfl)
/-- worthNow: the squares of the men first -/
theorem wn_21 (hF : 700000 ≤ F) (E : LwE L N nk rk q) (k0 : DyK n h0 h0) (B0 : WkB n h0 L N nk rk bk q) (nd : (k < N ∧ num < q ^ nk k ∧ sd < 2) ∧ RtN L (rk k) q num (nk k) sd) (Mk : MkT n h0 km L rk nk q k num sd) (km6 : n + 610 ≤ km) (kmS : km < hS h0) (np : 1 ≤ x3.toInt ∧ x3.toInt ≤ 700000) (e1 : x1.toInt = (k : Int)) (e2 : x2.toInt = ((2 * num + sd : Nat) : Int)) {x4 x5 : Int32} (e4 : x4.toInt = ((nk k : Nat) : Int)) (e5 : x5.toInt = (sd : Int)) : ∀ (f : Nat) {h : Hp} {x6 x7 : Int32} {i : Nat}, DyK n g h → DyK n h0 h → FrW (fun a _ => a = n + 607) h0 h → x7.toInt = (i : Int) → i ≤ nk k → x6.toInt = ((num / q ^ i : Nat) : Int) → (∀ i', i' < i → (hI h (n + 607) i').toInt = (sqi q num i' : Int)) → sX15_worthNow_21 F f h (n + 513) x1 x2 x3 x4 x5 x6 x7 = some o → ∃ h1, DyK n h0 h1 ∧ FrW (fun a i => a = n + 607 ∨ (a = n + 513 ∧ (i = 62 ∨ i = 63))) h0 h1 ∧ WnR n g h1 L N nk rk bk q k num sd x3.toInt o := by
  have z1 : (1 : Int32).toInt = 1 := rfl
  obtain ⟨⟨OK, LD, Nc⟩, Fm, q0, q64, eq⟩ := id E
  have s0 := dk_610 k0
  obtain ⟨⟨a1, a2⟩, _⟩ := id B0.2.1
  obtain ⟨b1, b2, b3, b4, b5⟩ := a2 k nd.1.1
  intro f
  induction f with
  | zero => intro h x6 x7 i _ _ _ _ _ _ _ e; exact absurd e (by rw [sX15_worthNow_21]; exact fun z => nomatch z)
  | succ f ih =>
    intro h x6 x7 i kg kh Fr e7 im e6 st e
    rw [sX15_worthNow_21] at e
    have s6 := dk_610 kh
    rcases br_s e with ⟨c, e⟩ | ⟨c, e⟩
    · have c := le_i c
      have im' : i = nk k := by omega
      obtain ⟨h2, w2, e⟩ := nm_s e
      obtain ⟨h3, w3, e⟩ := nm_s e
      have k3 : DyK n h0 h3 := by rw [w3, w2]; exact dk_wI (dk_wI kh)
      have k3g : DyK n g h3 := by rw [w3, w2]; exact dk_wI (dk_wI kg)
      have F3 : FrW (fun a i => a = n + 607 ∨ (a = n + 513 ∧ (i = 62 ∨ i = 63))) h0 h3 := by
        rw [w3, w2]
        exact fw_wI (fw_wI (fw_s Fr (fun _ _ c => Or.inl c)) (Or.inr ⟨rfl, Or.inl rfl⟩)) (Or.inr ⟨rfl, Or.inr rfl⟩)
      have B3 := wkb_f k0 k3 F3 (fun a i c => by omega) B0
      have Nd3 : NdH n h3 L N nk rk q k num sd := ⟨nd.1, nd.2, fun i' hi' => by
        rw [w3, rI_a (by omega), w2, rI_a (by omega)]
        exact st i' (by omega)⟩
      have Mk3 : MkT n h3 km L rk nk q k num sd := by
        obtain ⟨m1, m2, m3⟩ := Mk
        refine ⟨by rw [(k3.2.2.2 (by omega)).2]; exact m1, ?_, fun j jm ow b hb => ?_⟩
        · unfold MkB
          rw [(F3.2 (n + 596) k (by omega) (fun c => by omega)).1, (F3.2 (n + 592) k (by omega) (fun c => by omega)).1]
          exact m2
        · rw [mki_f k0 F3 (fun i => ⟨fun c => by omega, fun c => by omega, fun c => by omega⟩), (F3.2 km _ kmS (fun c => by omega)).2]
          exact m3 j jm ow b hb
      refine ⟨h3, k3, F3, wn_73 (g := g) hF E (dk_self k3) B3 Nd3 Mk3 km6 (Nat.lt_of_lt_of_le kmS F3.1) np e1 e2 e4 e5 F (j := 0) ⟨fun _ => False, ⟨fw_0, dk_self k3, k3g, Or.inr ⟨?_, fun z => z.elim id (fun ⟨_, _, c, _⟩ => c)⟩, Or.inl ⟨?_, trivial, fun _ _ c => c.elim⟩⟩, fun _ c => c.elim, fun _ => ⟨fun _ c => c.elim, fun v hv hs => ?_⟩⟩ rfl (Nat.zero_le _) (fun _ => by rw [Nat.pow_zero]; rfl) e⟩
      · rw [w3, rI_o (by decide), w2, rI_s]
      · rw [w3, rI_s]
      · rcases hs with ⟨j', hj', _⟩ | ⟨_, c⟩
        · exact absurd hj' (Nat.not_lt_zero _)
        · exact c.elim
    · have c := nle_i c
      have n7 : x7.toNatClampNeg = i := by have := nc_i (x := x7) (by omega); omega
      have q13 : (hI h (n + 513) 13).toInt = (q : Int) := by rw [(Fr.2 (n + 513) 13 (by omega) (fun c => by omega)).1]; exact B0.2.2.1
      have dn : num / q ^ i ≤ num := Nat.div_le_self _ _
      have nb6 : num ≤ 600000 := by have := nd.1.2.1; omega
      have r6 : Rg 0 600000 x6 := by
        obtain ⟨d, hd⟩ : ∃ d, d = num / q ^ i := ⟨_, rfl⟩
        rw [← hd] at e6 dn
        exact ⟨by omega, by omega⟩
      have r13 : Rg 1 64 (hI h (n + 513) 13) := ⟨by omega, by omega⟩
      replace e := ce_e (dk_e (a := 513) (f := 61) (b := 607) kh (by decide +kernel)) e
      replace e := gg_e e
      replace e := gg_e e
      obtain ⟨h7, w7, e⟩ := nm_s e
      rw [n7] at w7
      have q7 : hI h7 (n + 513) 13 = hI h (n + 513) 13 := by rw [w7, rI_a (by omega)]
      replace e := gg_e e
      obtain ⟨v9, w9, e⟩ := nm_s e
      obtain ⟨v10, w10, e⟩ := nm_s e
      rw [q7] at w9
      have y9 : v9.toInt = ((num / q ^ (i + 1) : Nat) : Int) := by
        rw [w9, td r6 r13 ⟨by decide, by decide⟩, e6, q13, Nat.pow_succ, ← Nat.div_div_eq_div_mul]
        omega
      have y10 : v10.toInt = ((i + 1 : Nat) : Int) := by rw [w10, ta (by rw [z1]; omega), z1]; omega
      refine ih (by rw [w7]; exact dk_wI kg) (by rw [w7]; exact dk_wI kh) (by rw [w7]; exact fw_wI Fr rfl) y10 (by omega) y9 (fun i' hi' => ?_) e
      by_cases y : i' = i
      · rw [y, w7, rI_s, tr r6 r13 ⟨by decide, by decide⟩, e6, q13]
        unfold sqi
        omega
      · rw [w7, rI_o y]
        exact st i' (by omega)
/-- worthNow, by the table -/
theorem wn_k (hF : 700000 ≤ F) (E : LwE L N nk rk q) (k0 : DyK n h h) (kg : DyK n g h) (B0 : WkB n h L N nk rk bk q) (R : RtA L N nk rk q (k, num, sd)) (Mk : MkT n h km L rk nk q k num sd) (km6 : n + 610 ≤ km) (kmS : km < hS h) {p : Nat} (ep : x3.toInt = (p : Int)) (np : 1 ≤ p ∧ p ≤ 700000) (e1 : x1.toInt = (k : Int)) (e2 : x2.toInt = ((2 * num + sd : Nat) : Int)) (e : sX15_worthNow F h (n + 513) x1 x2 x3 = some o) : FrW (fun a i => WWn n a i ∨ a = n + 607) h o.2 ∧ DyK n h o.2 ∧ DyK n g o.2 ∧ ((WiP (ArA L N nk rk q) (TbR n h bk) p (k, num, sd) ∧ o.1.toInt = 1000000 - (p : Int)) ∨ (¬ WiP (ArA L N nk rk q) (TbR n h bk) p (k, num, sd) ∧ ((LsP (ArA L N nk rk q) (TbR n h bk) p (k, num, sd) ∧ o.1.toInt = (p : Int) - 1000000) ∨ (¬ LsP (ArA L N nk rk q) (TbR n h bk) p (k, num, sd) ∧ o.1.toInt = 0)))) := by
  have s0 := dk_610 k0
  obtain ⟨⟨kN, nb, sd2⟩, Rt⟩ := id R
  have kN : k < N := kN
  have nb : num < q ^ nk k := nb
  have sd2 : sd < 2 := sd2
  have Rt : RtN L (rk k) q num (nk k) sd := Rt
  obtain ⟨⟨a1, a2⟩, _⟩ := id B0.2.1
  obtain ⟨b1, b2, b3, b4, b5⟩ := a2 k kN
  have n1 : x1.toNatClampNeg = k := by have := nc_i (x := x1) (by omega); omega
  unfold sX15_worthNow at e
  replace e := ce_e (dk_e (a := 513) (f := 46) (b := 592) k0 (by decide +kernel)) e
  replace e := gg_e e
  obtain ⟨v3, w3, e⟩ := nm_s e
  obtain ⟨v4, w4, e⟩ := nm_s e
  obtain ⟨v5, w5, e⟩ := nm_s e
  rw [n1] at w3
  have y3 : v3.toInt = ((nk k : Nat) : Int) := by rw [w3]; exact b1.1
  have y4 : v4.toInt = (sd : Int) := by rw [w4, and1_i (by omega), e2]; omega
  have y5 : v5.toInt = ((num / q ^ 0 : Nat) : Int) := by rw [w5, ti_shr1, e2, Nat.pow_zero, Nat.div_one]; omega
  obtain ⟨h1, k1, F1, r1, r2, r3, r4⟩ := wn_21 (g := g) hF E k0 B0 ⟨⟨kN, nb, sd2⟩, Rt⟩ Mk km6 kmS (by omega) e1 e2 y3 y4 F (i := 0) kg k0 fw_0 rfl (Nat.zero_le _) y5 (fun i' hi' => absurd hi' (Nat.not_lt_zero _)) e
  have tb : ∀ i, hI h1 (n + 595) i = hI h (n + 595) i := fun i => (F1.2 (n + 595) i (by omega) (fun c => by omega)).1
  have s1 := dk_610 k1
  refine ⟨fw_t (fw_s F1 (fun a i c => c.elim Or.inr (fun c => Or.inl (Or.inl c)))) (fw_s r1 (fun _ _ c => Or.inl c)), dk_t k1 r2, r3, ?_⟩
  have wi : (∃ v x, v ∈ lgL L (ndZ (lyM (rk k) q num (nk k)) sd) ∧ SvV n h1 N nk rk bk q (1 - sd) (zAll L (ndZ (lyM (rk k) q num (nk k)) sd) v).1 x ∧ x = x3.toInt - 1 - 1000000) ↔ WiP (ArA L N nk rk q) (TbR n h bk) p (k, num, sd) := by
    constructor
    · intro ⟨v, x, hv, ⟨k', num', O, ex⟩, ep'⟩
      refine ⟨(k', num', 1 - sd), ⟨rfl, v, hv, O⟩, ?_⟩
      show (hI h (n + 595) (bk k' + 2 * num' + (1 - sd))).toInt = _
      rw [← tb, ← ex, ep', ep]
    · intro ⟨ν', ⟨es, v, hv, O⟩, ev⟩
      refine ⟨v, _, hv, ⟨ν'.1, ν'.2.1, O, rfl⟩, ?_⟩
      have es : ν'.2.2 = 1 - sd := es
      have ev : (hI h (n + 595) (bk ν'.1 + 2 * ν'.2.1 + ν'.2.2)).toInt = (p : Int) - 1 - 1000000 := ev
      rw [tb, ← es, ev, ep]
  have ls : (∀ v x, v ∈ lgL L (ndZ (lyM (rk k) q num (nk k)) sd) → SvV n h1 N nk rk bk q (1 - sd) (zAll L (ndZ (lyM (rk k) q num (nk k)) sd) v).1 x → 1000000 - x3.toInt < x ∧ x ≤ 1000000) ↔ LsP (ArA L N nk rk q) (TbR n h bk) p (k, num, sd) := by
    constructor
    · intro al ν' ⟨es, v, hv, O⟩
      have := al v _ hv ⟨ν'.1, ν'.2.1, O, rfl⟩
      rw [tb, ep] at this
      have es : ν'.2.2 = 1 - sd := es
      show 1000000 - (p : Int) < (hI h (n + 595) (bk ν'.1 + 2 * ν'.2.1 + ν'.2.2)).toInt ∧ (hI h (n + 595) (bk ν'.1 + 2 * ν'.2.1 + ν'.2.2)).toInt ≤ 1000000
      rw [es]
      exact this
    · intro al v x hv ⟨k', num', O, ex⟩
      have := al (k', num', 1 - sd) ⟨rfl, v, hv, O⟩
      have this : 1000000 - (p : Int) < (hI h (n + 595) (bk k' + 2 * num' + (1 - sd))).toInt ∧ (hI h (n + 595) (bk k' + 2 * num' + (1 - sd))).toInt ≤ 1000000 := this
      rw [ex, tb, ep]
      exact this
  rcases r4 with ⟨a, b⟩ | ⟨a, ⟨b, c⟩ | ⟨b, c⟩⟩
  · exact Or.inl ⟨wi.mp a, by rw [b, ep]⟩
  · exact Or.inr ⟨fun z => a (wi.mpr z), Or.inl ⟨ls.mp b, by rw [c, ep]⟩⟩
  · exact Or.inr ⟨fun z => a (wi.mpr z), Or.inr ⟨fun z => b (ls.mpr z), c⟩⟩
end
end
