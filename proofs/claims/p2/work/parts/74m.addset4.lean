section
variable {ρ : Nat → Nat} {c : Cm} {h o : Hp} {x0 a F r4 r : Nat} {n0 m sq : Int} {x1 x2 x3 x4 : Int32}
/-- one man of the row is written -/
theorem row_w {ro j : Nat} {v : Int32} {n : Int} (T : TH ρ c h) (r0 : ρ x0 = 16) (eo : hR h x0 57 = some ro) (qo : ρ ro = 108) (w : o = wI h ro j v) (P : SE x0 h) (pn : (hI h x0 49).toInt = n0) (iv : 1 ≤ v.toInt ∨ ¬ (j : Int) < n) (R : RW x0 n h) : SE x0 o ∧ (hI o x0 49).toInt = n0 ∧ RW x0 n o := by
  have f := fr1I (c := c) (A := [(108, 999)]) qo rfl w
  refine ⟨se_108 T r0 f P, by rw [(fr_RI f r0 (by decide) (fun _ => rfl)).1]; exact pn, fun ro' eo' i hi => ?_⟩
  rw [w] at eo'
  have hz := r_eq eo (show hR h x0 57 = some ro' from eo')
  subst hz
  rw [w, r_I]
  by_cases z : i = j
  · rw [if_pos ⟨rfl, z⟩]
    rcases iv with q | q
    · exact q
    · exact absurd (by rw [← z]; exact hi) q
  · rw [if_neg (fun y => z y.2)]
    exact R ro' eo i hi
theorem as_57 {k2 : Hp → Nat → Int32 → Int32 → Option (Int32 × Hp)} {Q : Int32 × Hp → Prop} (hA : pmA c seL) (T : TH ρ c h) (r0 : ρ x0 = 16) (i2 : Rg 1 4 x2) (i3 : Rg 1 24 x3) (i4 : Rg 0 5 x4) (P : SE x0 h) (pn : (hI h x0 49).toInt = n0) (R : RW x0 x1.toInt h)
    (K : ∀ o y, TH ρ c o → SE x0 o → (hI o x0 49).toInt = n0 → RW x0 x1.toInt o → y.toInt = x2.toInt + 1 → Sat (k2 o x0 x1 y) Q) : Sat (sX15_addSet_57 F k2 h x0 x1 x2 x3 x4) Q := by
  unfold sX15_addSet_57
  obtain ⟨ro, eo, qo⟩ := thR T r0 (i := 57) (k2 := 108) rfl (by decide)
  refine s_ref eo ?_
  refine s_gd (by rw [thN T qo (k := 108) (n := 6) rfl (by decide)]; exact rg_inB i4 (by decide)) ?_
  refine s_hq (th_wI T qo (k := 108) (lo := 0) (hi := 24) rfl (rg_m i3 (by decide)) (by decide) (by decide) (pm_a hA rfl)) (fun h3 T3 w3 => ?_)
  obtain ⟨P3, n3, R3⟩ := row_w T r0 eo qo w3 P pn (Or.inl i3.1) R
  refine s_q (fun y ey => ?_)
  have ey2 : y.toInt = x2.toInt + 1 := by rw [ey]; exact (nc_s (rg_m i2 (by decide) : Rg 0 4 x2) (by decide)).2
  exact K h3 y T3 P3 n3 R3 ey2
theorem as_17 {k2 : Hp → Nat → Int32 → Int32 → Option (Int32 × Hp)} {Q : Int32 × Hp → Prop} (hA : pmA c seL) (r0 : ρ x0 = 16) (i1 : Rg 0 5 x1) (i2 : Rg 1 4 x2) (l2 : x2.toInt < x1.toInt) (i3 : Rg 1 24 x3)
    (K : ∀ o y, TH ρ c o → SE x0 o → (hI o x0 49).toInt = n0 → RW x0 x1.toInt o → y.toInt = x2.toInt + 1 → Sat (k2 o x0 x1 y) Q) : ∀ (f : Nat) {h : Hp} {x4 : Int32}, TH ρ c h → Rg 0 5 x4 → x4.toInt ≤ x2.toInt → SE x0 h → (hI h x0 49).toInt = n0 → RW x0 x1.toInt h → x4.toInt.toNat < f → Sat (sX15_addSet_17 F k2 f h x0 x1 x2 x3 x4) Q := by
  intro f
  induction f with
  | zero => intros; omega
  | succ f ih =>
    intro h x4 T i4 l4 P pn R hf
    rw [sX15_addSet_17]
    have ex : Sat (sX15_addSet_57 F k2 h x0 x1 x2 x3 x4) Q := as_57 hA T r0 i2 i3 i4 P pn R K
    refine s_br (fun _ => ex) (fun n4 => ?_)
    have p4 : 0 < x4.toInt := nle_i n4
    have b4 := i4.2
    have ed := rg_decs i4 (by decide)
    have id : Rg 0 4 (x4 - (1 : Int32)) := ⟨by omega, by omega⟩
    have cd := clamp_i id.1
    have c4 := clamp_i i4.1
    obtain ⟨ro, eo, qo⟩ := thR T r0 (i := 57) (k2 := 108) rfl (by decide)
    have gd1 : inB (x4 - (1 : Int32)) (hN h ro) := by rw [thN T qo (k := 108) (n := 6) rfl (by decide)]; exact rg_inB id (by decide)
    refine s_ref eo (s_gd gd1 ?_)
    refine s_br (fun _ => ex) (fun _ => ?_)
    refine s_ref eo (s_ref eo (s_gd gd1 ?_))
    refine s_gd (by rw [thN T qo (k := 108) (n := 6) rfl (by decide)]; exact rg_inB i4 (by decide)) ?_
    refine s_hq (th_wI T qo (k := 108) (lo := 0) (hi := 24) rfl (thI T qo (k := 108) (lo := 0) (hi := 24) rfl) (by decide) (by decide) (pm_a hA rfl)) (fun h3 T3 w3 => ?_)
    obtain ⟨P3, n3, R3⟩ := row_w T r0 eo qo w3 P pn (Or.inl (R ro eo _ (by omega))) R
    refine s_q (fun y ey => ?_)
    have ey2 : y.toInt = x4.toInt - 1 := by rw [ey]; exact rg_dec i4 (by decide)
    clear ey
    exact ih T3 ⟨by omega, by omega⟩ (by omega) P3 n3 R3 (by omega)
theorem as_2 (hF : 700000 ≤ F) (hA : pmA c seL) (r0 : ρ x0 = 16) (i1 : Rg 0 5 x1) : ∀ (f : Nat) {h : Hp} {x2 : Int32}, TH ρ c h → 1 ≤ x2.toInt → SE x0 h → (hI h x0 49).toInt = n0 → RW x0 x1.toInt h → (6 - x2.toInt).toNat < f → Sat (sX15_addSet_2 F f h x0 x1 x2) (AQ ρ c x0 n0) := by
  intro f
  induction f with
  | zero => intros; omega
  | succ f ih =>
    intro h x2 T a2 P pn R hf
    rw [sX15_addSet_2]
    have b1 := i1.2
    obtain ⟨ro, eo, qo⟩ := thR T r0 (i := 57) (k2 := 108) rfl (by decide)
    refine s_br (fun _ => ?_) (fun n2 => ?_)
    · refine s_ref eo ?_
      obtain ⟨rs, es, qs⟩ := thR T r0 (i := 56) (k2 := 107) rfl (by decide)
      obtain ⟨rk, ek, qk⟩ := thR T r0 (i := 55) (k2 := 106) rfl (by decide)
      have in0 := thI T r0 (k := 16) (i := 49) (lo := 0) (hi := 4096) rfl
      have u : uC h rs 16384 < 16384 := by have := P.1 rs es; have := in0.2; omega
      refine s_cl (s_imp (zX15_findSet (r4 := rk) hF T r0 qo (rg_m i1 (by decide)) es ek u) (fun o3 ⟨e3, i3, p3⟩ => ?_))
      rw [e3]
      obtain ⟨rm, em, _⟩ := thR T r0 (i := 46) (k2 := 99) rfl (by decide)
      obtain ⟨re, ee, _⟩ := thR T r0 (i := 47) (k2 := 100) rfl (by decide)
      refine s_br (fun _ => ?_) (fun nz => s_some ⟨T, rg_b rfl, P, by show n0 ≤ (hI h x0 49).toInt; omega, fun _ => by
        obtain ⟨j, hj, _, j2, _⟩ := p3 nz
        have := (P.2.2.2.1 rs rk rm re es ek em ee j hj j2).1
        show 1 ≤ (hI h x0 49).toInt
        omega⟩)
      have z0 : (0 : Int32).toInt = 0 := rfl
      exact as_93 hF hA T r0 i1 P R pn F (by decide) (by rw [z0]; exact i1.1) (by show (2 : Int) = 2 * (hI h x0 13).toInt ^ 0; rw [Int.pow_zero]; rfl) (by rw [z0]; omega)
    · have l2 := nle_i n2
      have i2 : Rg 1 4 x2 := ⟨a2, by omega⟩
      have c2 := clamp_i (v := x2) (by omega)
      refine s_ref eo ?_
      refine s_gd (by rw [thN T qo (k := 108) (n := 6) rfl (by decide)]; exact rg_inB (rg_m i2 (by decide) : Rg 0 5 x2) (by decide)) ?_
      refine s_q (fun v ev => ?_)
      have iv : Rg 1 24 v := by rw [ev]; exact ⟨R ro eo _ (by omega), (thI T qo (k := 108) (i := x2.toNatClampNeg) (lo := 0) (hi := 24) rfl).2⟩
      clear ev
      exact as_17 hA r0 i1 i2 l2 iv (fun o y To Po no Ro ey => ih To (by omega) Po no Ro (by omega)) F T (rg_m i2 (by decide)) (Int.le_refl _) P pn R (by have := i2.2; omega)
/-- a set is added where it is new and there is room -/
theorem zX15_addSet (hF : 700000 ≤ F) (hA : pmA c seL) (T : TH ρ c h) (r0 : ρ x0 = 16) (i1 : Rg 0 5 x1) (P : SE x0 h) (R : RW x0 x1.toInt h) : Sat (sX15_addSet F h x0 x1) (AQ ρ c x0 (hI h x0 49).toInt) := by
  unfold sX15_addSet
  have z1 : (1 : Int32).toInt = 1 := rfl
  exact as_2 hF hA r0 i1 F T (by decide) P rfl R (by rw [z1]; omega)
theorem ix5 (i1 : Rg 0 4095 x1) (i4 : Rg 0 4 x4) : Rg 0 20479 (((5 : Int32) * x1) + x4) ∧ (((5 : Int32) * x1) + x4).toNatClampNeg = 5 * x1.toNatClampNeg + x4.toNatClampNeg := by
  have z5 : (5 : Int32).toInt = 5 := rfl
  have a1 := i1.1
  have b1 := i1.2
  have a4 := i4.1
  have b4 := i4.2
  have e5 : ((5 : Int32) * x1).toInt = 5 * x1.toInt := by rw [tm (by rw [z5]; omega), z5]
  have e6 : (((5 : Int32) * x1) + x4).toInt = 5 * x1.toInt + x4.toInt := by rw [ta (by rw [e5]; omega), e5]
  have i6 : Rg 0 20479 (((5 : Int32) * x1) + x4) := ⟨by omega, by omega⟩
  have c6 := clamp_i i6.1
  have c1 := clamp_i a1
  have c4 := clamp_i a4
  exact ⟨i6, by omega⟩
theorem cw_5 (hF : 700000 ≤ F) (hA : pmA c seL) (r0 : ρ x0 = 16) (i1 : Rg 0 4095 x1) : ∀ (f : Nat) {h : Hp} {x3 x4 : Int32}, TH ρ c h → 0 ≤ x3.toInt → x3.toInt ≤ x4.toInt → (∀ rm, hR h x0 46 = some rm → x4.toInt ≤ (hI h rm x1.toNatClampNeg).toInt) → x1.toInt < n0 → SE x0 h → (hI h x0 49).toInt = n0 → RW x0 x3.toInt h → (6 - x4.toInt).toNat < f → Sat (sX15_copyWithout_5 F f h x0 x1 x2 x3 x4) (AQ ρ c x0 n0) := by
  intro f
  induction f with
  | zero => intros; omega
  | succ f ih =>
    intro h x3 x4 T a3 b3 l4 ln P pn R hf
    rw [sX15_copyWithout_5]
    unfold sX15_copyWithout_42
    obtain ⟨rm, em, qm⟩ := thR T r0 (i := 46) (k2 := 99) rfl (by decide)
    have m5 := thI T qm (k := 99) (i := x1.toNatClampNeg) (lo := 0) (hi := 5) rfl
    have l4' := l4 rm em
    have b5 := m5.2
    refine s_ref em ?_
    refine s_gd (by rw [thN T qm (k := 99) (n := 4096) rfl (by decide)]; exact rg_inB i1 (by decide)) ?_
    refine s_br (fun _ => ?_) (fun n1 => ?_)
    · refine s_cl (s_imp (zX15_addSet hF hA T r0 ⟨a3, by omega⟩ P R) (fun o ⟨To, io, Po, no, n1'⟩ => ?_))
      exact s_gd (rg_bool io) (s_some ⟨To, io, Po, by show n0 ≤ (hI o.2 x0 49).toInt; omega, n1'⟩)
    · have l := nle_i n1
      have i4 : Rg 0 4 x4 := ⟨by omega, by omega⟩
      have c4 := clamp_i i4.1
      have go : ∀ {o : Hp} {y3 : Int32}, TH ρ c o → 0 ≤ y3.toInt → y3.toInt ≤ x4.toInt + 1 → (∀ rm, hR o x0 46 = some rm → x4.toInt + 1 ≤ (hI o rm x1.toNatClampNeg).toInt) → SE x0 o → (hI o x0 49).toInt = n0 → RW x0 y3.toInt o → Sat (nm (x4 + (1 : Int32)) fun v_1 => sX15_copyWithout_5 F f o x0 x1 x2 y3 v_1) (AQ ρ c x0 n0) := fun {o y3} To a b lo Po no Ro => by
        refine s_q (fun y ey => ?_)
        have ey2 : y.toInt = x4.toInt + 1 := by rw [ey]; exact (nc_s i4 (by decide)).2
        clear ey
        exact ih To a (by omega) (fun r er => by have := lo r er; omega) ln Po no Ro (by omega)
      refine s_br (fun _ => go T a3 (by omega) (fun r er => by rw [r_eq em er]; omega) P pn R) (fun _ => ?_)
      obtain ⟨ro, eo, qo⟩ := thR T r0 (i := 57) (k2 := 108) rfl (by decide)
      obtain ⟨re, ee, qe⟩ := thR T r0 (i := 47) (k2 := 100) rfl (by decide)
      obtain ⟨i6, e6⟩ := ix5 i1 i4
      have i3 : Rg 0 4 x3 := ⟨a3, by omega⟩
      have c3 := clamp_i a3
      have c1 := clamp_i i1.1
      refine s_ref eo (s_ref ee ?_)
      refine s_gd (by rw [thN T qe (k := 100) (n := 20480) rfl (by decide)]; exact rg_inB i6 (by decide)) ?_
      refine s_gd (by rw [thN T qo (k := 108) (n := 6) rfl (by decide)]; exact rg_inB (rg_m i3 (by decide) : Rg 0 5 x3) (by decide)) ?_
      have cm := clamp_i m5.1
      have v1 : 1 ≤ (hI h re (((5 : Int32) * x1) + x4).toNatClampNeg).toInt := by
        rw [e6]
        exact P.2.2.2.2.1 rm re em ee x1.toNatClampNeg (by omega) x4.toNatClampNeg (by omega)
      refine s_hq (th_wI T qo (k := 108) (lo := 0) (hi := 24) rfl (thI T qe (k := 100) (lo := 0) (hi := 24) rfl) (by decide) (by decide) (pm_a hA rfl)) (fun h3 T3 w3 => ?_)
      have f3 := fr1I (c := c) (A := [(108, 999)]) qo rfl w3
      refine s_q (fun y ey => ?_)
      have ey2 : y.toInt = x3.toInt + 1 := by rw [ey]; exact (nc_s i3 (by decide)).2
      clear ey
      have R' : RW x0 y.toInt h3 := fun ro' eo' i hi => by
        rw [w3] at eo'
        have hz := r_eq eo (show hR h x0 57 = some ro' from eo')
        subst hz
        rw [w3, r_I]
        by_cases z : i = x3.toNatClampNeg
        · rw [if_pos ⟨rfl, z⟩]; exact v1
        · rw [if_neg (fun q => z q.2)]
          exact R ro' eo i (by omega)
      refine go T3 (by omega) (by omega) (fun r er => ?_) (se_108 T r0 f3 P) (by rw [(fr_RI f3 r0 (by decide) (fun _ => rfl)).1]; exact pn) R'
      rw [w3] at er
      have hz := r_eq em (show hR h x0 46 = some r from er)
      subst hz
      rw [(fr_RI f3 qm (by decide) (fun _ => rfl)).1]
      omega
theorem zX15_copyWithout (hF : 700000 ≤ F) (hA : pmA c seL) (T : TH ρ c h) (r0 : ρ x0 = 16) (i1 : Rg 0 4095 x1) (ln : x1.toInt < (hI h x0 49).toInt) (P : SE x0 h) : Sat (sX15_copyWithout F h x0 x1 x2) (AQ ρ c x0 (hI h x0 49).toInt) := by
  unfold sX15_copyWithout
  have z0 : (0 : Int32).toInt = 0 := rfl
  refine cw_5 hF hA r0 i1 F T (by decide) (by decide) (fun rm em => ?_) ln P rfl (fun _ _ i hi => by rw [z0] at hi; omega) (by rw [z0]; omega)
  have qm : ρ rm = 99 := rr T (thR T r0 (i := 46) (k2 := 99) rfl (by decide)) em
  exact (thI T qm (k := 99) (i := x1.toNatClampNeg) (lo := 0) (hi := 5) rfl).1
end
