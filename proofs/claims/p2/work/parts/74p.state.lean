/-! the state of a row of men on its places -/
def PL (x0 : Nat) (n : Int) (h : Hp) : Prop := ∀ rp, hR h x0 58 = some rp → ∀ i : Nat, (i : Int) < n → (hI h rp i).toInt < (hI h x0 13).toInt
section
variable {ρ : Nat → Nat} {c : Cm} {h o : Hp} {x0 a F r4 r : Nat} {n n0 m sq : Int} {x1 x2 x3 x4 x5 x6 : Int32}
abbrev rwpL : List (Nat × Nat) := [(108, 999), (109, 999)]
theorem se_rp (T : TH ρ c h) (r0 : ρ x0 = 16) (f : Fr ρ (cat c (fS rwpL []) h) h o) (P : SE x0 h) : SE x0 o := by
  have g : ∀ {i k2 r k : Nat}, rfK 16 i = k2 → k2 ≠ 0 → mS rwpL k2 k = false → hR h x0 i = some r → hI o r k = hI h r k := fun {i k2 r k} e1 e2 e3 er => (fr_RI f (rr T (thR T r0 (i := i) (k2 := k2) e1 e2) er) e2 (fun _ => fs_nf e3)).1
  exact se_of (fun i => (fr_RI f r0 (by decide) (fun _ => rfl)).2.2) (fr_RI f r0 (by decide) (fun _ => rfl)).1 (fr_RI f r0 (by decide) (fun _ => rfl)).1 (fr_RI f r0 (by decide) (fun _ => rfl)).2.1 (fun r er k _ => g (i := 46) (k2 := 99) rfl (by decide) rfl er) (fun r er k _ => g (i := 48) (k2 := 101) rfl (by decide) rfl er) (fun r er k _ => g (i := 47) (k2 := 100) rfl (by decide) rfl er) (fun r er k => g (i := 55) (k2 := 106) rfl (by decide) rfl er) (fun r er k => g (i := 56) (k2 := 107) rfl (by decide) rfl er) (m5_of T r0) P
/-- a man and his place are written -/
theorem man_w {ro j : Nat} {v : Int32} (T : TH ρ c h) (r0 : ρ x0 = 16) (qo : ρ ro = 108) (w : o = wI h ro j v) (P : SE x0 h) (L : PL x0 n h) : SE x0 o ∧ PL x0 n o := by
  have f := fr1I (c := c) (A := rwpL) qo rfl w
  refine ⟨se_rp T r0 f P, fun rp ep i hi => ?_⟩
  rw [w] at ep
  have ep' : hR h x0 58 = some rp := ep
  have qp : ρ rp = 109 := rr T (thR T r0 (i := 58) (k2 := 109) rfl (by decide)) ep'
  rw [w, r_I, if_neg (ne_r qp qo (by decide)), r_I, if_neg (ne_r r0 qo (by decide))]
  exact L rp ep' i hi
theorem pla_w {rp j : Nat} {v : Int32} (T : TH ρ c h) (r0 : ρ x0 = 16) (ep : hR h x0 58 = some rp) (qp : ρ rp = 109) (w : o = wI h rp j v) (iv : v.toInt < (hI h x0 13).toInt) (P : SE x0 h) (L : PL x0 n h) : SE x0 o ∧ PL x0 n o ∧ PL x0 (if (j : Int) = n then n + 1 else n) o := by
  have f := fr1I (c := c) (A := rwpL) qp rfl w
  have e13 : hI o x0 13 = hI h x0 13 := (fr_RI f r0 (by decide) (fun _ => rfl)).1
  have g : ∀ rp', hR o x0 58 = some rp' → ∀ i : Nat, (i : Int) < n ∨ i = j → (hI o rp' i).toInt < (hI o x0 13).toInt := fun rp' ep' i hi => by
    rw [w] at ep'
    have hz := r_eq ep (show hR h x0 58 = some rp' from ep')
    subst hz
    rw [e13, w, r_I]
    by_cases z : i = j
    · rw [if_pos ⟨rfl, z⟩]; exact iv
    · rw [if_neg (fun y => z y.2)]
      exact L rp' ep i (by omega)
  refine ⟨se_rp T r0 f P, fun rp' ep' i hi => g rp' ep' i (Or.inl hi), fun rp' ep' i hi => g rp' ep' i ?_⟩
  split at hi <;> omega
abbrev SQ2 (ρ : Nat → Nat) (c : Cm) (x0 : Nat) : Int32 × Hp → Prop := fun o => TH ρ c o.2 ∧ Rg (-1) 599999 o.1 ∧ SE x0 o.2
/-- where no state is told, no set was found -/
abbrev SQ4 (ρ : Nat → Nat) (c : Cm) (x0 F : Nat) (x1 : Int32) : Int32 × Hp → Prop := fun o => SQ2 ρ c x0 o ∧ (o.1 = (-1 : Int32) → ∃ o3 ro, hR o.2 x0 57 = some ro ∧ sX15_findSet F o.2 x0 ro x1 = some o3 ∧ o3.1 = (-1 : Int32))
theorem st_160 (T : TH ρ c h) (r0 : ρ x0 = 16) (i1 : Rg 0 5 x1) (i2 : Rg 0 1 x2) (i3 : Rg 0 4095 x3) (P : SE x0 h) (L : PL x0 x1.toInt h) (hb : ∀ rb, hR h x0 48 = some rb → (hI h rb x3.toNatClampNeg).toInt + 2 * (hI h x0 13).toInt ^ x1.toNatClampNeg ≤ 600000) : ∀ (f : Nat) {x4 x5 : Int32}, Rg (-1) 4 x5 → x5.toInt < x1.toInt → 0 ≤ x4.toInt → x4.toInt + 1 ≤ (hI h x0 13).toInt ^ (x1.toInt - 1 - x5.toInt).toNat → (x5.toInt + 1).toNat < f → Sat (sX15_stateOf_160 F f h x0 x2 x3 x4 x5) (fun o => SQ2 ρ c x0 o ∧ 0 ≤ o.1.toInt) := by
  have s64 := thI T r0 (k := 16) (i := 13) (lo := 9) (hi := 64) rfl
  have c1 := clamp_i i1.1
  have b1 := i1.2
  intro f
  induction f with
  | zero => intros; omega
  | succ f ih =>
    intro x4 x5 i5 l5 a4 b4 hf
    rw [sX15_stateOf_160]
    have a5 := i5.1
    have b5 := i5.2
    refine s_br (fun l => ?_) (fun n1 => ?_)
    · have l' : x5.toInt < 0 := lt_i l
      have en : (x1.toInt - 1 - x5.toInt).toNat = x1.toNatClampNeg := by omega
      rw [en] at b4
      obtain ⟨rb, eb, qb⟩ := thR T r0 (i := 48) (k2 := 101) rfl (by decide)
      refine s_ref eb ?_
      refine s_gd (by rw [thN T qb (k := 101) (n := 4096) rfl (by decide)]; exact rg_inB i3 (by decide)) ?_
      have B := hb rb eb
      have ib := thI T qb (k := 101) (i := x3.toNatClampNeg) (lo := 0) (hi := 600000) rfl
      have ib0 := ib.1
      generalize (hI h x0 13).toInt ^ x1.toNatClampNeg = W at b4 B
      have z2 : (2 : Int32).toInt = 2 := rfl
      have i20 := i2.1
      have i21 := i2.2
      have e4 : ((2 : Int32) * x4).toInt = 2 * x4.toInt := by rw [tm (by rw [z2]; omega), z2]
      have e5 : ((hI h rb x3.toNatClampNeg) + ((2 : Int32) * x4)).toInt = (hI h rb x3.toNatClampNeg).toInt + 2 * x4.toInt := by rw [ta (by rw [e4]; omega), e4]
      have e6 : (((hI h rb x3.toNatClampNeg) + ((2 : Int32) * x4)) + x2).toInt = (hI h rb x3.toNatClampNeg).toInt + 2 * x4.toInt + x2.toInt := by rw [ta (by rw [e5]; omega), e5]
      exact s_some ⟨⟨T, ⟨by show -1 ≤ (((hI h rb x3.toNatClampNeg) + ((2 : Int32) * x4)) + x2).toInt; omega, by show (((hI h rb x3.toNatClampNeg) + ((2 : Int32) * x4)) + x2).toInt ≤ 599999; omega⟩, P⟩, by show 0 ≤ (((hI h rb x3.toNatClampNeg) + ((2 : Int32) * x4)) + x2).toInt; omega⟩
    · have a5' : 0 ≤ x5.toInt := nlt_i n1
      have j5 : Rg 0 4 x5 := ⟨a5', b5⟩
      have c5 := clamp_i a5'
      obtain ⟨rp, ep, qp⟩ := thR T r0 (i := 58) (k2 := 109) rfl (by decide)
      refine s_ref ep ?_
      refine s_gd (by rw [thN T qp (k := 109) (n := 6) rfl (by decide)]; exact rg_inB (rg_m j5 (by decide) : Rg 0 5 x5) (by decide)) ?_
      refine s_q (fun v ev => ?_)
      refine s_q (fun y ey => ?_)
      have ey2 : y.toInt = x5.toInt - 1 := by rw [ey]; exact rg_dec j5 (by decide)
      clear ey
      have lp := L rp ep x5.toNatClampNeg (by omega)
      have ip := (thI T qp (k := 109) (i := x5.toNatClampNeg) (lo := 0) (hi := 63) rfl).1
      have en : (x1.toInt - 1 - y.toInt).toNat = (x1.toInt - 1 - x5.toInt).toNat + 1 := by omega
      have e5 : (x1.toInt - 1 - x5.toInt).toNat + 1 ≤ 5 := by omega
      have pw := pow_sq (s := (hI h x0 13).toInt) (by have := s64.1; omega) s64.2 _ e5
      have s0 : 0 ≤ (hI h x0 13).toInt := by have := s64.1; omega
      have m1 : (x4.toInt + 1) * (hI h x0 13).toInt ≤ (hI h x0 13).toInt ^ ((x1.toInt - 1 - x5.toInt).toNat + 1) := by
        rw [Int.pow_succ]
        exact Int.mul_le_mul_of_nonneg_right b4 s0
      rw [Int.add_mul, Int.one_mul] at m1
      have m0 : 0 ≤ x4.toInt * (hI h x0 13).toInt := Int.mul_nonneg a4 s0
      have em : (x4 * (hI h x0 13)).toInt = x4.toInt * (hI h x0 13).toInt := tm ⟨by omega, by omega⟩
      have ev2 : v.toInt = x4.toInt * (hI h x0 13).toInt + (hI h rp x5.toNatClampNeg).toInt := by rw [ev, ta (by rw [em]; omega), em]
      clear ev
      refine ih ⟨by omega, by omega⟩ (by omega) (by omega) ?_ (by omega)
      rw [en]
      omega
/-- the set is looked up, and the state told -/
theorem st_find (hF : 700000 ≤ F) (T : TH ρ c h) (r0 : ρ x0 = 16) (i1 : Rg 0 5 x1) (i2 : Rg 0 1 x2) (P : SE x0 h) (L : PL x0 x1.toInt h) : Sat (cl (hR h x0 57) fun r_2 => cl (sX15_findSet F h x0 r_2 x1) fun o_3 => br (o_3.1 = (-1 : Int32)) (some ((-1 : Int32), o_3.2)) (nm (x1 - (1 : Int32)) fun v_5 => sX15_stateOf_160 F F o_3.2 x0 x2 o_3.1 (0 : Int32) v_5)) (SQ4 ρ c x0 F x1) := by
  obtain ⟨ro, eo, qo⟩ := thR T r0 (i := 57) (k2 := 108) rfl (by decide)
  refine s_ref eo ?_
  obtain ⟨rs, es, qs⟩ := thR T r0 (i := 56) (k2 := 107) rfl (by decide)
  obtain ⟨rk, ek, qk⟩ := thR T r0 (i := 55) (k2 := 106) rfl (by decide)
  obtain ⟨rm, em, qm⟩ := thR T r0 (i := 46) (k2 := 99) rfl (by decide)
  obtain ⟨re, ee, qe⟩ := thR T r0 (i := 47) (k2 := 100) rfl (by decide)
  have in0 := thI T r0 (k := 16) (i := 49) (lo := 0) (hi := 4096) rfl
  have u : uC h rs 16384 < 16384 := by have := P.1 rs es; have := in0.2; omega
  refine s_dd (zX15_findSet (r4 := rk) hF T r0 qo (rg_m i1 (by decide)) es ek u) (fun o3 eq3 ⟨e3, i3, p3⟩ => ?_)
  rw [e3]
  refine s_br (fun z3 => s_some ⟨⟨T, rg_b rfl, P⟩, fun _ => ⟨o3, ro, eo, eq3, z3⟩⟩) (fun nz => ?_)
  have i3' : Rg 0 4095 o3.1 := rg_nlo nz i3 (rg_b rfl : Rg (-1) (-1) (-1 : Int32))
  have c3 := clamp_i i3'.1
  obtain ⟨j, hj, j1, j2, j3⟩ := p3 nz
  obtain ⟨q1, q2⟩ := P.2.2.2.1 rs rk rm re es ek em ee j hj j2
  have ej : (hI h rs j).toInt.toNat - 1 = o3.1.toNatClampNeg := by omega
  rw [ej] at q2
  have im := thI T qm (k := 99) (i := o3.1.toNatClampNeg) (lo := 0) (hi := 5) rfl
  have same : x1.toInt = (hI h rm o3.1.toNatClampNeg).toInt := pk_same i1 im (fun j => rg_m (thI T qo (k := 108) (i := j) (lo := 0) (hi := 24) rfl) (by decide)) (fun j => rg_m (thI T qe (k := 100) (i := j) (lo := 0) (hi := 24) rfl) (by decide)) (j3.symm.trans q2)
  have c1 := clamp_i i1.1
  have cm := clamp_i im.1
  have en : (hI h rm o3.1.toNatClampNeg).toNatClampNeg = x1.toNatClampNeg := by omega
  have s2 := P.2.1.2
  refine s_q (fun y ey => ?_)
  have ey2 : y.toInt = x1.toInt - 1 := by rw [ey]; exact rg_decs i1 (by decide)
  clear ey
  have z0 : (0 : Int32).toInt = 0 := rfl
  have b1 := i1.2
  have a1 := i1.1
  refine s_imp (st_160 T r0 i1 i2 i3' P L (fun rb eb => ?_) F ⟨by omega, by omega⟩ (by omega) (by decide) ?_ (by omega)) (fun o w => ⟨w.1, fun z => absurd w.2 (by rw [z]; decide)⟩)
  · have := P.2.2.1 rm rb em eb o3.1.toNatClampNeg (by omega)
    rw [en] at this
    omega
  · have : (x1.toInt - 1 - y.toInt).toNat = 0 := by omega
    rw [this, z0, Int.pow_zero]
    decide
theorem st_111 {k2 : Hp → Nat → Int32 → Int32 → Int32 → Option (Int32 × Hp)} {Q : Int32 × Hp → Prop} (hA : pmA c rwpL) (T : TH ρ c h) (r0 : ρ x0 = 16) (i3 : Rg 1 4 x3) (i4 : Rg 0 24 x4) (i5 : Rg 0 63 x5) (l5 : x5.toInt < (hI h x0 13).toInt) (i6 : Rg 0 5 x6) (P : SE x0 h) (L : PL x0 x1.toInt h)
    (K : ∀ o y, TH ρ c o → SE x0 o → PL x0 x1.toInt o → y.toInt = x3.toInt + 1 → Sat (k2 o x0 x1 x2 y) Q) : Sat (sX15_stateOf_111 F k2 h x0 x1 x2 x3 x4 x5 x6) Q := by
  unfold sX15_stateOf_111
  obtain ⟨ro, eo, qo⟩ := thR T r0 (i := 57) (k2 := 108) rfl (by decide)
  refine s_ref eo ?_
  refine s_gd (by rw [thN T qo (k := 108) (n := 6) rfl (by decide)]; exact rg_inB i6 (by decide)) ?_
  refine s_hq (th_wI T qo (k := 108) (lo := 0) (hi := 24) rfl i4 (by decide) (by decide) (pm_a hA rfl)) (fun h3 T3 w3 => ?_)
  obtain ⟨P3, L3⟩ := man_w T r0 qo w3 P L
  obtain ⟨rp, ep, qp⟩ := thR T3 r0 (i := 58) (k2 := 109) rfl (by decide)
  refine s_ref ep ?_
  refine s_gd (by rw [thN T3 qp (k := 109) (n := 6) rfl (by decide)]; exact rg_inB i6 (by decide)) ?_
  have e13 : hI h3 x0 13 = hI h x0 13 := by rw [w3, r_I, if_neg (ne_r r0 qo (by decide))]
  refine s_hq (th_wI T3 qp (k := 109) (lo := 0) (hi := 63) rfl i5 (by decide) (by decide) (pm_a hA rfl)) (fun h6 T6 w6 => ?_)
  obtain ⟨P6, L6, _⟩ := pla_w T3 r0 ep qp w6 (by rw [e13]; exact l5) P3 L3
  refine s_q (fun y ey => ?_)
  have ey2 : y.toInt = x3.toInt + 1 := by rw [ey]; exact (nc_s (rg_m i3 (by decide) : Rg 0 4 x3) (by decide)).2
  exact K h6 y T6 P6 L6 ey2
theorem st_26 {k2 : Hp → Nat → Int32 → Int32 → Int32 → Option (Int32 × Hp)} {Q : Int32 × Hp → Prop} (hA : pmA c rwpL) (r0 : ρ x0 = 16) (i3 : Rg 1 4 x3) (l3 : x3.toInt < x1.toInt) (i4 : Rg 0 24 x4) (i5 : Rg 0 63 x5)
    (K : ∀ o y, TH ρ c o → SE x0 o → PL x0 x1.toInt o → y.toInt = x3.toInt + 1 → Sat (k2 o x0 x1 x2 y) Q) : ∀ (f : Nat) {h : Hp} {x6 : Int32}, TH ρ c h → Rg 0 5 x6 → x6.toInt ≤ x3.toInt → x5.toInt < (hI h x0 13).toInt → SE x0 h → PL x0 x1.toInt h → x6.toInt.toNat < f → Sat (sX15_stateOf_26 F k2 f h x0 x1 x2 x3 x4 x5 x6) Q := by
  intro f
  induction f with
  | zero => intros; omega
  | succ f ih =>
    intro h x6 T i6 l6 l5 P L hf
    rw [sX15_stateOf_26]
    have ex : Sat (sX15_stateOf_111 F k2 h x0 x1 x2 x3 x4 x5 x6) Q := st_111 hA T r0 i3 i4 i5 l5 i6 P L K
    refine s_br (fun _ => ex) (fun n6 => ?_)
    have p6 : 0 < x6.toInt := nle_i n6
    have b6 := i6.2
    have ed := rg_decs i6 (by decide)
    have id : Rg 0 4 (x6 - (1 : Int32)) := ⟨by omega, by omega⟩
    have cd := clamp_i id.1
    have c6 := clamp_i i6.1
    obtain ⟨ro, eo, qo⟩ := thR T r0 (i := 57) (k2 := 108) rfl (by decide)
    obtain ⟨rp, ep, qp⟩ := thR T r0 (i := 58) (k2 := 109) rfl (by decide)
    have go : Sat (sX15_stateOf_73 F k2 (sX15_stateOf_26 F k2 f) h x0 x1 x2 x3 x4 x5 x6) Q := by
      unfold sX15_stateOf_73
      refine s_ref eo (s_ref eo ?_)
      refine s_gd (by rw [thN T qo (k := 108) (n := 6) rfl (by decide)]; exact rg_inB id (by decide)) ?_
      refine s_gd (by rw [thN T qo (k := 108) (n := 6) rfl (by decide)]; exact rg_inB i6 (by decide)) ?_
      refine s_hq (th_wI T qo (k := 108) (lo := 0) (hi := 24) rfl (thI T qo (k := 108) (lo := 0) (hi := 24) rfl) (by decide) (by decide) (pm_a hA rfl)) (fun h3 T3 w3 => ?_)
      obtain ⟨P3, L3⟩ := man_w T r0 qo w3 P L
      have ep3 : hR h3 x0 58 = some rp := by rw [w3]; exact ep
      have e13 : hI h3 x0 13 = hI h x0 13 := by rw [w3, r_I, if_neg (ne_r r0 qo (by decide))]
      refine s_ref ep3 (s_ref ep3 ?_)
      refine s_gd (by rw [thN T3 qp (k := 109) (n := 6) rfl (by decide)]; exact rg_inB id (by decide)) ?_
      refine s_gd (by rw [thN T3 qp (k := 109) (n := 6) rfl (by decide)]; exact rg_inB i6 (by decide)) ?_
      refine s_hq (th_wI T3 qp (k := 109) (lo := 0) (hi := 63) rfl (thI T3 qp (k := 109) (lo := 0) (hi := 63) rfl) (by decide) (by decide) (pm_a hA rfl)) (fun h5 T5 w5 => ?_)
      obtain ⟨P5, L5, _⟩ := pla_w T3 r0 ep3 qp w5 (L3 rp ep3 _ (by omega)) P3 L3
      refine s_q (fun y ey => ?_)
      have ey2 : y.toInt = x6.toInt - 1 := by rw [ey]; exact rg_dec i6 (by decide)
      clear ey
      exact ih T5 ⟨by omega, by omega⟩ (by omega) (by rw [w5, r_I, if_neg (ne_r r0 qp (by decide)), e13]; exact l5) P5 L5 (by omega)
    refine s_ref eo ?_
    refine s_gd (by rw [thN T qo (k := 108) (n := 6) rfl (by decide)]; exact rg_inB id (by decide)) ?_
    refine s_br (fun _ => go) (fun _ => ?_)
    refine s_ref eo ?_
    refine s_gd (by rw [thN T qo (k := 108) (n := 6) rfl (by decide)]; exact rg_inB id (by decide)) ?_
    refine s_br (fun _ => ?_) (fun _ => ex)
    refine s_ref ep ?_
    refine s_gd (by rw [thN T qp (k := 109) (n := 6) rfl (by decide)]; exact rg_inB id (by decide)) ?_
    exact s_br (fun _ => ex) (fun _ => go)
theorem st_2 (hF : 700000 ≤ F) (hA : pmA c rwpL) (r0 : ρ x0 = 16) (i1 : Rg 0 5 x1) (i2 : Rg 0 1 x2) : ∀ (f : Nat) {h : Hp} {x3 : Int32}, TH ρ c h → 1 ≤ x3.toInt → SE x0 h → PL x0 x1.toInt h → (6 - x3.toInt).toNat < f → Sat (sX15_stateOf_2 F f h x0 x1 x2 x3) (SQ4 ρ c x0 F x1) := by
  intro f
  induction f with
  | zero => intros; omega
  | succ f ih =>
    intro h x3 T a3 P L hf
    rw [sX15_stateOf_2]
    have b1 := i1.2
    refine s_br (fun _ => st_find hF T r0 i1 i2 P L) (fun n3 => ?_)
    have l3 := nle_i n3
    have i3 : Rg 1 4 x3 := ⟨a3, by omega⟩
    have c3 := clamp_i (v := x3) (by omega)
    have b3 := i3.2
    obtain ⟨ro, eo, qo⟩ := thR T r0 (i := 57) (k2 := 108) rfl (by decide)
    obtain ⟨rp, ep, qp⟩ := thR T r0 (i := 58) (k2 := 109) rfl (by decide)
    refine s_ref eo ?_
    refine s_gd (by rw [thN T qo (k := 108) (n := 6) rfl (by decide)]; exact rg_inB (rg_m i3 (by decide) : Rg 0 5 x3) (by decide)) ?_
    refine s_q (fun v ev => ?_)
    have iv : Rg 0 24 v := by rw [ev]; exact thI T qo (k := 108) (lo := 0) (hi := 24) rfl
    clear ev
    refine s_ref ep ?_
    refine s_gd (by rw [thN T qp (k := 109) (n := 6) rfl (by decide)]; exact rg_inB (rg_m i3 (by decide) : Rg 0 5 x3) (by decide)) ?_
    refine s_q (fun s es => ?_)
    have is : Rg 0 63 s := by rw [es]; exact thI T qp (k := 109) (lo := 0) (hi := 63) rfl
    have ls : s.toInt < (hI h x0 13).toInt := by rw [es]; exact L rp ep _ (by omega)
    clear es
    exact st_26 hA r0 i3 l3 iv is (fun o y To Po Lo ey => ih To (by omega) Po Lo (by omega)) F T (rg_m i3 (by decide)) (Int.le_refl _) ls P L (by omega)
theorem zX15_stateOf4 (hF : 700000 ≤ F) (hA : pmA c rwpL) (T : TH ρ c h) (r0 : ρ x0 = 16) (i1 : Rg 0 5 x1) (i2 : Rg 0 1 x2) (P : SE x0 h) (L : PL x0 x1.toInt h) : Sat (sX15_stateOf F h x0 x1 x2) (SQ4 ρ c x0 F x1) := by
  unfold sX15_stateOf
  have z1 : (1 : Int32).toInt = 1 := rfl
  exact st_2 hF hA r0 i1 i2 F T (by decide) P L (by rw [z1]; omega)
theorem zX15_stateOf (hF : 700000 ≤ F) (hA : pmA c rwpL) (T : TH ρ c h) (r0 : ρ x0 = 16) (i1 : Rg 0 5 x1) (i2 : Rg 0 1 x2) (P : SE x0 h) (L : PL x0 x1.toInt h) : Sat (sX15_stateOf F h x0 x1 x2) (SQ2 ρ c x0) := s_imp (zX15_stateOf4 hF hA T r0 i1 i2 P L) (fun _ w => w.1)
end
