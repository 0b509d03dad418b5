section
variable {ρ : Nat → Nat} {c : Cm} {h o : Hp} {x0 a F r4 r : Nat} {n0 m sq : Int} {x1 x2 x3 x4 x5 : Int32}
abbrev AL (ρ : Nat → Nat) (c : Cm) (x0 : Nat) : Int32 × Hp → Prop := fun o => TH ρ c o.2 ∧ Rg 0 1 o.1 ∧ SE x0 o.2 ∧ 1 ≤ (hI o.2 x0 49).toInt
theorem man_r (i : Rg 1 24 x1) : Rg 0 11 ((x1 - (1 : Int32)) >>> ((1 : Int32) &&& 31)) := by
  have e := rg_decs i (by decide)
  unfold Rg
  rw [ti_shr1, e]
  have := i.1
  have := i.2
  omega
theorem side_r {x : Int32} : Rg 0 1 (x &&& (1 : Int32)) := rg_and (rg_b rfl : Rg 1 1 (1 : Int32)) (by decide)
theorem al_81 {k2 : Hp → Nat → Int32 → Option (Int32 × Hp)} {k12 : Hp → Nat → Int32 → Int32 → Option (Int32 × Hp)} {k61 : Hp → Nat → Int32 → Int32 → Int32 → Int32 → Option (Int32 × Hp)} (hF : 700000 ≤ F) (hA : pmA c seL) (r0 : ρ x0 = 16) (i1 : Rg 0 4095 x1) (i2 : Rg 0 4 x2) (i3 : Rg 1 24 x3) (i4 : Rg 0 5 x4)
    (K : ∀ o y, TH ρ c o → SE x0 o → x1.toInt < (hI o x0 49).toInt → y.toInt = x4.toInt + 1 → Sat (k61 o x0 x1 x2 x3 y) (AL ρ c x0)) : ∀ (f : Nat) {h : Hp} {x5 : Int32}, TH ρ c h → 0 ≤ x5.toInt → SE x0 h → x1.toInt < (hI h x0 49).toInt → RW x0 x5.toInt h → (∀ rm, hR h x0 46 = some rm → x5.toInt ≤ (hI h rm x1.toNatClampNeg).toInt) → (6 - x5.toInt).toNat < f → Sat (sX15_addAll_81 F k2 k12 k61 f h x0 x1 x2 x3 x4 x5) (AL ρ c x0) := by
  intro f
  induction f with
  | zero => intros; omega
  | succ f ih =>
    intro h x5 T a5 P ln R l5 hf
    rw [sX15_addAll_81]
    obtain ⟨rm, em, qm⟩ := thR T r0 (i := 46) (k2 := 99) rfl (by decide)
    have m5 := thI T qm (k := 99) (i := x1.toNatClampNeg) (lo := 0) (hi := 5) rfl
    have b5 := m5.2
    have l5' := l5 rm em
    have cm := clamp_i m5.1
    have c1 := clamp_i i1.1
    have c5 := clamp_i a5
    have gm : ∀ {g : Hp}, TH ρ c g → inB x1 (hN g rm) := fun Tg => by rw [thN Tg qm (k := 99) (n := 4096) rfl (by decide)]; exact rg_inB i1 (by decide)
    obtain ⟨ro, eo, qo⟩ := thR T r0 (i := 57) (k2 := 108) rfl (by decide)
    obtain ⟨re, ee, qe⟩ := thR T r0 (i := 47) (k2 := 100) rfl (by decide)
    refine s_ref em (s_gd (gm T) ?_)
    refine s_br (fun l => ?_) (fun n1 => ?_)
    · have l' := le_i l
      refine s_ref eo ?_
      obtain ⟨ru, eu, qu⟩ := thR T r0 (i := 4) (k2 := 15) rfl (by decide)
      refine s_ref eu ?_
      obtain ⟨r6, e6, q6⟩ := thR T qu (i := 13) (k2 := 80) rfl (by decide)
      refine s_ref e6 ?_
      unfold sX15_manOf sX15_sideOf sX15_valueOf
      refine s_cl (s_some ?_)
      dsimp only
      have im := man_r i3
      have iq : Rg 0 66 ((6 : Int32) * ((x3 - (1 : Int32)) >>> ((1 : Int32) &&& 31))) := by
        have e4 : (6 : Int32).toInt = 6 := rfl
        have := im.1
        have := im.2
        exact ⟨by rw [tm (by rw [e4]; omega), e4]; omega, by rw [tm (by rw [e4]; omega), e4]; omega⟩
      refine s_gd (by rw [thN T q6 (k := 80) (n := 72) rfl (by decide)]; exact rg_inB (rg_add iq i4 (by decide) : Rg 0 71 _) (by decide)) ?_
      refine s_cl (s_some ?_)
      refine s_cl (s_some ?_)
      dsimp only
      refine s_gd (by rw [thN T qo (k := 108) (n := 6) rfl (by decide)]; exact rg_inB (rg_m i2 (by decide) : Rg 0 5 x2) (by decide)) ?_
      have iv := val_r (thI T q6 (k := 80) (i := (((6 : Int32) * ((x3 - (1 : Int32)) >>> ((1 : Int32) &&& 31))) + x4).toNatClampNeg) (lo := 0) (hi := 11) rfl) (side_r (x := x3 - (1 : Int32)))
      refine s_hq (th_wI T qo (k := 108) (lo := 0) (hi := 24) rfl (rg_m iv (by decide)) (by decide) (by decide) (pm_a hA rfl)) (fun h12 T12 w12 => ?_)
      obtain ⟨P12, n12, R12⟩ := row_w T r0 eo qo w12 P rfl (Or.inl iv.1) R
      have em12 : hR h12 x0 46 = some rm := by rw [w12]; exact em
      have ev12 : hI h12 rm x1.toNatClampNeg = hI h rm x1.toNatClampNeg := by rw [w12, r_I, if_neg (ne_r qm qo (by decide))]
      refine s_ref em12 (s_gd (gm T12) ?_)
      rw [ev12]
      have e5 : x5.toInt = (hI h rm x1.toNatClampNeg).toInt := by omega
      rw [e5] at R12
      refine s_cl (s_imp (zX15_addSet hF hA T12 r0 m5 P12 R12) (fun o15 ⟨To, io, Po, no, _⟩ => ?_))
      refine s_br (fun _ => s_some ⟨To, rg_b rfl, Po, by show 1 ≤ (hI o15.2 x0 49).toInt; have := i1.1; omega⟩) (fun _ => ?_)
      refine s_q (fun y ey => ?_)
      have ey2 : y.toInt = x4.toInt + 1 := by rw [ey]; exact (nc_s i4 (by decide)).2
      clear ey
      exact K o15.2 y To Po (by omega) ey2
    · have l := nle_i n1
      have i5 : Rg 0 4 x5 := ⟨a5, by omega⟩
      obtain ⟨i6, e6⟩ := ix5 i1 i5
      refine s_ref eo (s_ref ee ?_)
      refine s_gd (by rw [thN T qe (k := 100) (n := 20480) rfl (by decide)]; exact rg_inB i6 (by decide)) ?_
      refine s_gd (by rw [thN T qo (k := 108) (n := 6) rfl (by decide)]; exact rg_inB (rg_m i5 (by decide) : Rg 0 5 x5) (by decide)) ?_
      have v1 : 1 ≤ (hI h re (((5 : Int32) * x1) + x5).toNatClampNeg).toInt := by
        rw [e6]
        exact P.2.2.2.2.1 rm re em ee x1.toNatClampNeg (by omega) x5.toNatClampNeg (by omega)
      refine s_hq (th_wI T qo (k := 108) (lo := 0) (hi := 24) rfl (thI T qe (k := 100) (lo := 0) (hi := 24) rfl) (by decide) (by decide) (pm_a hA rfl)) (fun h3 T3 w3 => ?_)
      have f3 := fr1I (c := c) (A := [(108, 999)]) qo rfl w3
      refine s_q (fun y ey => ?_)
      have ey2 : y.toInt = x5.toInt + 1 := by rw [ey]; exact (nc_s i5 (by decide)).2
      clear ey
      have R' : RW x0 y.toInt h3 := fun ro' eo' i hi => by
        rw [w3] at eo'
        have hz := r_eq eo (show hR h x0 57 = some ro' from eo')
        subst hz
        rw [w3, r_I]
        by_cases z : i = x5.toNatClampNeg
        · rw [if_pos ⟨rfl, z⟩]; exact v1
        · rw [if_neg (fun q => z q.2)]
          exact R ro' eo i (by omega)
      refine ih T3 (by omega) (se_108 T r0 f3 P) (by rw [(fr_RI f3 r0 (by decide) (fun _ => rfl)).1]; exact ln) R' (fun r er => ?_) (by omega)
      rw [w3] at er
      have hz := r_eq em (show hR h x0 46 = some r from er)
      subst hz
      rw [(fr_RI f3 qm (by decide) (fun _ => rfl)).1]
      omega
theorem al_61 {k2 : Hp → Nat → Int32 → Option (Int32 × Hp)} {k12 : Hp → Nat → Int32 → Int32 → Option (Int32 × Hp)} (hF : 700000 ≤ F) (hA : pmA c seL) (r0 : ρ x0 = 16) (i1 : Rg 0 4095 x1) (i2 : Rg 0 4 x2) (i3 : Rg 1 24 x3)
    (K : ∀ o y, TH ρ c o → SE x0 o → x1.toInt < (hI o x0 49).toInt → y.toInt = x2.toInt + 1 → Sat (k12 o x0 x1 y) (AL ρ c x0)) : ∀ (f : Nat) {h : Hp} {x4 : Int32}, TH ρ c h → 0 ≤ x4.toInt → SE x0 h → x1.toInt < (hI h x0 49).toInt → (7 - x4.toInt).toNat < f → Sat (sX15_addAll_61 F k2 k12 f h x0 x1 x2 x3 x4) (AL ρ c x0) := by
  intro f
  induction f with
  | zero => intros; omega
  | succ f ih =>
    intro h x4 T a4 P ln hf
    rw [sX15_addAll_61]
    obtain ⟨ru, eu, qu⟩ := thR T r0 (i := 4) (k2 := 15) rfl (by decide)
    refine s_ref eu ?_
    obtain ⟨r2, e2, q2⟩ := thR T qu (i := 14) (k2 := 81) rfl (by decide)
    refine s_ref e2 ?_
    unfold sX15_manOf
    refine s_cl (s_some ?_)
    dsimp only
    have im := man_r i3
    refine s_gd (by rw [thN T q2 (k := 81) (n := 12) rfl (by decide)]; exact rg_inB im (by decide)) ?_
    have m6 := thI T q2 (k := 81) (i := ((x3 - (1 : Int32)) >>> ((1 : Int32) &&& 31)).toNatClampNeg) (lo := 0) (hi := 6) rfl
    have b6 := m6.2
    refine s_br (fun _ => ?_) (fun n1 => ?_)
    · refine s_q (fun y ey => ?_)
      have ey2 : y.toInt = x2.toInt + 1 := by rw [ey]; exact (nc_s i2 (by decide)).2
      clear ey
      exact K h y T P ln ey2
    · have l := nle_i n1
      have i4 : Rg 0 5 x4 := ⟨a4, by omega⟩
      have z0 : (0 : Int32).toInt = 0 := rfl
      refine al_81 hF hA r0 i1 i2 i3 i4 (fun o y To Po lo ey => ih To (by omega) Po lo (by omega)) F T (by decide) P ln (fun _ _ i hi => by rw [z0] at hi; omega) (fun rm em => ?_) (by rw [z0]; omega)
      have qm : ρ rm = 99 := rr T (thR T r0 (i := 46) (k2 := 99) rfl (by decide)) em
      exact (thI T qm (k := 99) (i := x1.toNatClampNeg) (lo := 0) (hi := 5) rfl).1
theorem al_12 {k2 : Hp → Nat → Int32 → Option (Int32 × Hp)} (hF : 700000 ≤ F) (hA : pmA c seL) (r0 : ρ x0 = 16) (i1 : Rg 0 4095 x1)
    (K : ∀ o y, TH ρ c o → SE x0 o → 1 ≤ (hI o x0 49).toInt → y.toInt = x1.toInt + 1 → Sat (k2 o x0 y) (AL ρ c x0)) : ∀ (f : Nat) {h : Hp} {x2 : Int32}, TH ρ c h → 0 ≤ x2.toInt → SE x0 h → x1.toInt < (hI h x0 49).toInt → (6 - x2.toInt).toNat < f → Sat (sX15_addAll_12 F k2 f h x0 x1 x2) (AL ρ c x0) := by
  intro f
  induction f with
  | zero => intros; omega
  | succ f ih =>
    intro h x2 T a2 P ln hf
    rw [sX15_addAll_12]
    unfold sX15_addAll_58
    obtain ⟨rm, em, qm⟩ := thR T r0 (i := 46) (k2 := 99) rfl (by decide)
    have m5 := thI T qm (k := 99) (i := x1.toNatClampNeg) (lo := 0) (hi := 5) rfl
    have b5 := m5.2
    have cm := clamp_i m5.1
    have c1 := clamp_i i1.1
    have c2 := clamp_i a2
    refine s_ref em ?_
    refine s_gd (by rw [thN T qm (k := 99) (n := 4096) rfl (by decide)]; exact rg_inB i1 (by decide)) ?_
    refine s_br (fun _ => ?_) (fun n1 => ?_)
    · refine s_q (fun y ey => ?_)
      have ey2 : y.toInt = x1.toInt + 1 := by rw [ey]; exact (nc_s i1 (by decide)).2
      clear ey
      exact K h y T P (by have := i1.1; omega) ey2
    · have l := nle_i n1
      have i2 : Rg 0 4 x2 := ⟨a2, by omega⟩
      obtain ⟨re, ee, qe⟩ := thR T r0 (i := 47) (k2 := 100) rfl (by decide)
      obtain ⟨i6, e6⟩ := ix5 i1 i2
      refine s_ref ee ?_
      refine s_gd (by rw [thN T qe (k := 100) (n := 20480) rfl (by decide)]; exact rg_inB i6 (by decide)) ?_
      refine s_q (fun v ev => ?_)
      have iv : Rg 1 24 v := by
        rw [ev]
        refine ⟨?_, (thI T qe (k := 100) (lo := 0) (hi := 24) rfl).2⟩
        rw [e6]
        exact P.2.2.2.2.1 rm re em ee x1.toNatClampNeg (by omega) x2.toNatClampNeg (by omega)
      clear ev
      unfold sX15_manOf
      refine s_cl (s_some ?_)
      dsimp only
      obtain ⟨ru, eu, qu⟩ := thR T r0 (i := 4) (k2 := 15) rfl (by decide)
      refine s_ref eu ?_
      have z0 : (0 : Int32).toInt = 0 := rfl
      have go : ∀ {o : Hp}, TH ρ c o → SE x0 o → x1.toInt < (hI o x0 49).toInt → Sat (sX15_addAll_61 F k2 (sX15_addAll_12 F k2 f) F o x0 x1 x2 v (0 : Int32)) (AL ρ c x0) := fun {o} To Po lo => al_61 hF hA r0 i1 i2 iv (fun o y To Po lo ey => ih To (by omega) Po lo (by omega)) F To (by decide) Po lo (by rw [z0]; omega)
      refine s_br (fun _ => go T P ln) (fun _ => ?_)
      refine s_cl (s_imp (zX15_copyWithout hF hA T r0 i1 ln P) (fun o11 ⟨To, io, Po, no, _⟩ => ?_))
      exact s_br (fun _ => s_some ⟨To, rg_b rfl, Po, by show 1 ≤ (hI o11.2 x0 49).toInt; have := i1.1; omega⟩) (fun _ => go To Po (by omega))
theorem al_2 (hF : 700000 ≤ F) (hA : pmA c seL) (r0 : ρ x0 = 16) : ∀ (f : Nat) {h : Hp} {x1 : Int32}, TH ρ c h → 0 ≤ x1.toInt → SE x0 h → 1 ≤ (hI h x0 49).toInt → (4097 - x1.toInt).toNat < f → Sat (sX15_addAll_2 F f h x0 x1) (AL ρ c x0) := by
  intro f
  induction f with
  | zero => intros; omega
  | succ f ih =>
    intro h x1 T a1 P l1 hf
    rw [sX15_addAll_2]
    refine s_br (fun _ => s_some ⟨T, rg_b rfl, P, l1⟩) (fun n1 => ?_)
    have l := nle_i n1
    have in0 := thI T r0 (k := 16) (i := 49) (lo := 0) (hi := 4096) rfl
    have i1 : Rg 0 4095 x1 := ⟨a1, by have := in0.2; omega⟩
    have b1 := i1.2
    have z0 : (0 : Int32).toInt = 0 := rfl
    exact al_12 hF hA r0 i1 (fun o y To Po lo ey => ih To (by omega) Po lo (by omega)) F T (by decide) P l (by rw [z0]; omega)
/-- all sets that come of the first are added, as far as there is room -/
theorem zX15_addAll (hF : 700000 ≤ F) (hA : pmA c seL) (T : TH ρ c h) (r0 : ρ x0 = 16) (P : SE x0 h) (l1 : 1 ≤ (hI h x0 49).toInt) : Sat (sX15_addAll F h x0) (AL ρ c x0) := by
  unfold sX15_addAll
  have z0 : (0 : Int32).toInt = 0 := rfl
  exact al_2 hF hA r0 F T (by decide) P l1 (by rw [z0]; omega)
end
