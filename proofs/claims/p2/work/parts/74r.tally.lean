section
variable {ρ : Nat → Nat} {c : Cm} {h o : Hp} {x0 a b F r4 r : Nat} {n n0 m sq : Int} {x1 x2 x3 x4 x5 x6 x7 : Int32}
theorem powm {s : Int} (a : 1 ≤ s) (n : Nat) : ∀ d, s ^ n ≤ s ^ (n + d) ∧ 0 ≤ s ^ (n + d) := by
  have p0 : 0 ≤ s ^ n := Int.pow_nonneg (by omega)
  intro d
  induction d with
  | zero => exact ⟨Int.le_refl _, p0⟩
  | succ d ih =>
    have e : s ^ (n + (d + 1)) = s ^ (n + d) * s := Int.pow_succ s (n + d)
    rw [e]
    have : s ^ (n + d) * 1 ≤ s ^ (n + d) * s := Int.mul_le_mul_of_nonneg_left a ih.2
    rw [Int.mul_one] at this
    exact ⟨by omega, by omega⟩
/-- the states of a set that is there -/
theorem many_6 {rm rb k : Nat} (em : hR h x0 46 = some rm) (eb : hR h x0 48 = some rb) (P : SE x0 h) (hk : (k : Int) < (hI h x0 49).toInt) : (hI h rb k).toInt + 2 * (hI h x0 13).toInt ^ (hI h rm k).toNatClampNeg ≤ 600000 := by
  have a := P.2.2.1 rm rb em eb k hk
  have b := P.2.1.2
  omega
theorem sz_4 (T : TH ρ c h) (r0 : ρ x0 = 16) (i1 : Rg 0 4095 x1) {rm : Nat} (em : hR h x0 46 = some rm) (hb : 2 * (hI h x0 13).toInt ^ (hI h rm x1.toNatClampNeg).toNatClampNeg ≤ 600000) : ∀ (f : Nat) {x2 x3 : Int32}, 0 ≤ x3.toInt → x3.toInt ≤ (hI h rm x1.toNatClampNeg).toInt → x2.toInt = 2 * (hI h x0 13).toInt ^ x3.toNatClampNeg → (6 - x3.toInt).toNat < f → Sat (sX15_sizeOf_4 F f h x0 x1 x2 x3) (fun o => o.2 = h ∧ o.1.toInt = 2 * (hI h x0 13).toInt ^ (hI h rm x1.toNatClampNeg).toNatClampNeg) := by
  have qm : ρ rm = 99 := rr T (thR T r0 (i := 46) (k2 := 99) rfl (by decide)) em
  have m5 := thI T qm (k := 99) (i := x1.toNatClampNeg) (lo := 0) (hi := 5) rfl
  have cm := clamp_i m5.1
  have bm := m5.2
  have s64 := thI T r0 (k := 16) (i := 13) (lo := 9) (hi := 64) rfl
  have s0 := s64.1
  intro f
  induction f with
  | zero => intros; omega
  | succ f ih =>
    intro x2 x3 a3 b3 e2 hf
    rw [sX15_sizeOf_4]
    have c3 := clamp_i a3
    refine s_ref em ?_
    refine s_gd (by rw [thN T qm (k := 99) (n := 4096) rfl (by decide)]; exact rg_inB i1 (by decide)) ?_
    refine s_br (fun l => ?_) (fun n1 => ?_)
    · have l' := le_i l
      have en : (hI h rm x1.toNatClampNeg).toNatClampNeg = x3.toNatClampNeg := by omega
      exact s_some ⟨rfl, by rw [en]; exact e2⟩
    · have l' := nle_i n1
      have i3 : Rg 0 4 x3 := ⟨a3, by omega⟩
      refine s_q (fun v ev => ?_)
      refine s_q (fun y ey => ?_)
      have ny := nc_s i3 (by decide)
      have ey2 : y.toInt = x3.toInt + 1 := by rw [ey]; exact ny.2
      have ey3 : y.toNatClampNeg = x3.toNatClampNeg + 1 := by rw [ey]; exact ny.1
      clear ey
      have em2 : x2.toInt * (hI h x0 13).toInt = 2 * (hI h x0 13).toInt ^ (x3.toNatClampNeg + 1) := by rw [e2, Int.pow_succ, Int.mul_assoc]
      have up := powm (s := (hI h x0 13).toInt) (by omega) (x3.toNatClampNeg + 1) ((hI h rm x1.toNatClampNeg).toNatClampNeg - (x3.toNatClampNeg + 1))
      have ed : x3.toNatClampNeg + 1 + ((hI h rm x1.toNatClampNeg).toNatClampNeg - (x3.toNatClampNeg + 1)) = (hI h rm x1.toNatClampNeg).toNatClampNeg := by omega
      rw [ed] at up
      have p0 : 0 ≤ (hI h x0 13).toInt ^ (x3.toNatClampNeg + 1) := Int.pow_nonneg (by omega)
      have ev2 : v.toInt = 2 * (hI h x0 13).toInt ^ (x3.toNatClampNeg + 1) := by
        rw [ev, tm ⟨by rw [em2]; omega, by rw [em2]; omega⟩, em2]
      clear ev
      exact ih (by omega) (by omega) (by rw [ey3]; exact ev2) (by omega)
theorem sizeOf_q (hF : 700000 ≤ F) (T : TH ρ c h) (r0 : ρ x0 = 16) (i1 : Rg 0 4095 x1) {rm : Nat} (em : hR h x0 46 = some rm) (hb : 2 * (hI h x0 13).toInt ^ (hI h rm x1.toNatClampNeg).toNatClampNeg ≤ 600000) : Sat (sX15_sizeOf F h x0 x1) (fun o => o.2 = h ∧ o.1.toInt = 2 * (hI h x0 13).toInt ^ (hI h rm x1.toNatClampNeg).toNatClampNeg) := by
  unfold sX15_sizeOf
  have z0 : (0 : Int32).toInt = 0 := rfl
  have qm : ρ rm = 99 := rr T (thR T r0 (i := 46) (k2 := 99) rfl (by decide)) em
  exact sz_4 T r0 i1 em hb F (by decide) (by rw [z0]; exact (thI T qm (k := 99) (i := x1.toNatClampNeg) (lo := 0) (hi := 5) rfl).1) (by show (2 : Int) = 2 * (hI h x0 13).toInt ^ 0; rw [Int.pow_zero]; rfl) (by rw [z0]; omega)
theorem ty_48 (T : TH ρ c h) (r0 : ρ x0 = 16) {rb : Nat} (eb : hR h x0 48 = some rb) (i4 : Rg 0 600000 x4) (hb : (hI h rb 0).toInt + x4.toInt ≤ 600000) : ∀ (f : Nat) {x3 x5 : Int32}, 0 ≤ x3.toInt → x3.toInt ≤ x5.toInt → 0 ≤ x5.toInt → x5.toInt ≤ 600001 → (600001 - x5.toInt).toNat < f → Sat (sX15_tally_48 F f h x0 x2 x3 x4 x5) (fun o => o.2 = h ∧ Rg 0 600001 o.1) := by
  have qb : ρ rb = 101 := rr T (thR T r0 (i := 48) (k2 := 101) rfl (by decide)) eb
  have ib := thI T qb (k := 101) (i := 0) (lo := 0) (hi := 600000) rfl
  have ib0 := ib.1
  have b4 := i4.2
  intro f
  induction f with
  | zero => intros; omega
  | succ f ih =>
    intro x3 x5 a3 b3 a5 b5 hf
    rw [sX15_tally_48]
    unfold sX15_tally_79
    refine s_br (fun _ => s_some ⟨rfl, a3, show x3.toInt ≤ 600001 by omega⟩) (fun n1 => ?_)
    have l5 := nle_i n1
    obtain ⟨r2, e2, q2⟩ := thR T r0 (i := 51) (k2 := 102) rfl (by decide)
    refine s_ref e2 (s_ref eb ?_)
    refine s_gd (by rw [thN T qb (k := 101) (n := 4096) rfl (by decide)]; exact rg_inB (rg_b rfl : Rg 0 0 (0 : Int32)) (by decide)) ?_
    have zc : (0 : Int32).toNatClampNeg = 0 := rfl
    rw [zc]
    have es : ((hI h rb 0) + x5).toInt = (hI h rb 0).toInt + x5.toInt := ta ⟨by omega, by omega⟩
    refine s_gd (by rw [thN T q2 (k := 102) (n := 600000) rfl (by decide)]; exact rg_inB (⟨by omega, by omega⟩ : Rg 0 599999 ((hI h rb 0) + x5)) (by decide)) ?_
    have z2 : (2 : Int32).toInt = 2 := rfl
    have go : ∀ {t : Int32}, Rg 0 1 t → Sat (nm (x3 + t) fun v_1 => nm (x5 + (2 : Int32)) fun v_2 => sX15_tally_48 F f h x0 x2 v_1 x4 v_2) (fun o => o.2 = h ∧ Rg 0 600001 o.1) := fun {t} it => by
      have t0 := it.1
      have t1 := it.2
      refine s_q (fun u eu => ?_)
      refine s_q (fun y ey => ?_)
      have eu2 : u.toInt = x3.toInt + t.toInt := by rw [eu]; exact ta ⟨by omega, by omega⟩
      have ey2 : y.toInt = x5.toInt + 2 := by rw [ey, ta (by rw [z2]; omega), z2]
      clear eu ey
      exact ih (by omega) (by omega) (by omega) (by omega) (by omega)
    exact s_br (fun _ => go (rg_b rfl)) (fun _ => go (rg_b rfl))
theorem zX15_tally (hF : 700000 ≤ F) (T : TH ρ c h) (r0 : ρ x0 = 16) (E : EnR x0 h) : Sat (sX15_tally F h x0 x1 x2) (fun o => o.2 = h ∧ Rg (-103) 600001 o.1) := by
  unfold sX15_tally sX15_tally_23
  have ex : Sat (some ((-101 : Int32), h)) (fun o : Int32 × Hp => o.2 = h ∧ Rg (-103) 600001 o.1) := s_some ⟨rfl, rg_b rfl⟩
  refine s_br (fun _ => ex) (fun n1 => s_br (fun _ => ex) (fun n2 => s_br (fun _ => ex) (fun _ => s_br (fun _ => s_br (fun _ => s_some ⟨rfl, rg_b rfl⟩) (fun n50 => ?_)) (fun _ => ex))))
  have a1 : 0 ≤ x1.toInt := nlt_i n1
  have b1 : x1.toInt ≤ 1 := nlt_i n2
  obtain ⟨P, l1⟩ := E n50
  obtain ⟨rm, em, qm⟩ := thR T r0 (i := 46) (k2 := 99) rfl (by decide)
  obtain ⟨rb, eb, qb⟩ := thR T r0 (i := 48) (k2 := 101) rfl (by decide)
  have B := many_6 (k := 0) em eb P (by omega)
  have ib0 := (thI T qb (k := 101) (i := 0) (lo := 0) (hi := 600000) rfl).1
  refine s_cl (s_imp (sizeOf_q (x1 := (0 : Int32)) hF T r0 (rg_b rfl) em (by show 2 * (hI h x0 13).toInt ^ (hI h rm 0).toNatClampNeg ≤ 600000; omega)) (fun o6 ⟨e6, v6⟩ => ?_))
  rw [e6]
  replace v6 : o6.1.toInt = 2 * (hI h x0 13).toInt ^ (hI h rm 0).toNatClampNeg := v6
  have s0 := (thI T r0 (k := 16) (i := 13) (lo := 9) (hi := 64) rfl).1
  have p0 : 0 ≤ (hI h x0 13).toInt ^ (hI h rm 0).toNatClampNeg := Int.pow_nonneg (by omega)
  have z0 : (0 : Int32).toInt = 0 := rfl
  exact s_imp (ty_48 T r0 eb ⟨by omega, by omega⟩ (by omega) F (by decide) (by rw [z0]; exact a1) a1 (by omega) (by omega)) (fun o q => ⟨q.1, rg_m q.2 (by decide)⟩)
/-- the row behind a step -/
theorem be_6 (hF : 700000 ≤ F) (hA : pmA c rwpL) (r0 : ρ x0 = 16) (i1 : Rg 0 4095 x1) (i3 : Rg 0 63 x3) (i4 : Rg 0 24 x4) (i5 : Rg 0 1 x5) : ∀ (f : Nat) {h : Hp} {x6 x7 : Int32}, TH ρ c h → 0 ≤ x6.toInt → x6.toInt ≤ x7.toInt → x7.toInt ≤ 5 → x3.toInt < (hI h x0 13).toInt → (∀ rt, hR h x0 61 = some rt → ∀ i, i < 5 → (hI h rt i).toInt < (hI h x0 13).toInt) → SE x0 h → PL x0 x6.toInt h → (6 - x7.toInt).toNat < f → Sat (sX15_stateBehind_6 F f h x0 x1 x2 x3 x4 x5 x6 x7) (SQ2 ρ c x0) := by
  intro f
  induction f with
  | zero => intros; omega
  | succ f ih =>
    intro h x6 x7 T a6 b6 b7 l3 st P L hf
    rw [sX15_stateBehind_6]
    unfold sX15_stateBehind_34
    obtain ⟨rm, em, qm⟩ := thR T r0 (i := 46) (k2 := 99) rfl (by decide)
    have m5 := thI T qm (k := 99) (i := x1.toNatClampNeg) (lo := 0) (hi := 5) rfl
    have bm := m5.2
    refine s_ref em ?_
    refine s_gd (by rw [thN T qm (k := 99) (n := 4096) rfl (by decide)]; exact rg_inB i1 (by decide)) ?_
    refine s_br (fun _ => ?_) (fun n1 => ?_)
    · refine s_cl (s_imp (zX15_stateOf hF hA T r0 ⟨a6, by omega⟩ (one_sub i5) P L) (fun o ⟨q1, q2, q3⟩ => ?_))
      exact s_some ⟨q1, q2, q3⟩
    · have l7 := nle_i n1
      have i7 : Rg 0 4 x7 := ⟨by omega, by omega⟩
      have c7 := clamp_i i7.1
      have i6 : Rg 0 4 x6 := ⟨a6, by omega⟩
      have go : ∀ {o : Hp} {y6 : Int32}, TH ρ c o → 0 ≤ y6.toInt → y6.toInt ≤ x7.toInt + 1 → x3.toInt < (hI o x0 13).toInt → (∀ rt, hR o x0 61 = some rt → ∀ i, i < 5 → (hI o rt i).toInt < (hI o x0 13).toInt) → SE x0 o → PL x0 y6.toInt o → Sat (sX15_stateBehind_90 F (sX15_stateBehind_6 F f) o x0 x1 x2 x3 x4 x5 y6 x7) (SQ2 ρ c x0) := fun {o y6} To a b l so Po Lo => by
        unfold sX15_stateBehind_90
        refine s_q (fun y ey => ?_)
        have ey2 : y.toInt = x7.toInt + 1 := by rw [ey]; exact (nc_s i7 (by decide)).2
        clear ey
        exact ih To a (by omega) (by omega) l so Po Lo (by omega)
      obtain ⟨rt, et, qt⟩ := thR T r0 (i := 61) (k2 := 110) rfl (by decide)
      have gt : ∀ {g : Hp}, TH ρ c g → inB x7 (hN g rt) := fun Tg => by rw [thN Tg qt (k := 110) (n := 5) rfl (by decide)]; exact rg_inB i7 (by decide)
      have put : ∀ {v : Int32} {ro : Nat}, hR h x0 57 = some ro → Rg 0 24 v → Sat (sX15_stateBehind_62 F (sX15_stateBehind_6 F f) h x0 x1 x2 x3 x4 x5 x6 x7 v x6 ro) (SQ2 ρ c x0) := fun {v ro} eo iv => by
        unfold sX15_stateBehind_62 sX15_stateBehind_86
        have qo : ρ ro = 108 := rr T (thR T r0 (i := 57) (k2 := 108) rfl (by decide)) eo
        have c6 := clamp_i i6.1
        refine s_gd (by rw [thN T qo (k := 108) (n := 6) rfl (by decide)]; exact rg_inB (rg_m i6 (by decide) : Rg 0 5 x6) (by decide)) ?_
        refine s_hq (th_wI T qo (k := 108) (lo := 0) (hi := 24) rfl iv (by decide) (by decide) (pm_a hA rfl)) (fun h3 T3 w3 => ?_)
        obtain ⟨P3, L3⟩ := man_w T r0 qo w3 P L
        obtain ⟨rp, ep, qp⟩ := thR T3 r0 (i := 58) (k2 := 109) rfl (by decide)
        refine s_ref ep ?_
        have e13 : hI h3 x0 13 = hI h x0 13 := by rw [w3, r_I, if_neg (ne_r r0 qo (by decide))]
        have et3 : hR h3 x0 61 = some rt := by rw [w3]; exact et
        have est : ∀ i, hI h3 rt i = hI h rt i := fun i => by rw [w3, r_I, if_neg (ne_r qt qo (by decide))]
        have fin : ∀ {s : Int32}, Rg 0 63 s → s.toInt < (hI h x0 13).toInt → Sat (gd (inB x6 (hN h3 rp)) <| nm (wI h3 rp x6.toNatClampNeg s) fun h_2 => nm (x6 + (1 : Int32)) fun v_3 => sX15_stateBehind_90 F (sX15_stateBehind_6 F f) h_2 x0 x1 x2 x3 x4 x5 v_3 x7) (SQ2 ρ c x0) := fun {s} is ls => by
          refine s_gd (by rw [thN T3 qp (k := 109) (n := 6) rfl (by decide)]; exact rg_inB (rg_m i6 (by decide) : Rg 0 5 x6) (by decide)) ?_
          refine s_hq (th_wI T3 qp (k := 109) (lo := 0) (hi := 63) rfl is (by decide) (by decide) (pm_a hA rfl)) (fun h5 T5 w5 => ?_)
          obtain ⟨P5, _, L5⟩ := pla_w T3 r0 ep qp w5 (by rw [e13]; exact ls) P3 L3
          rw [if_pos c6] at L5
          refine s_q (fun y ey => ?_)
          have ey2 : y.toInt = x6.toInt + 1 := by rw [ey]; exact (nc_s i6 (by decide)).2
          clear ey
          have e13' : hI h5 x0 13 = hI h x0 13 := by rw [w5, r_I, if_neg (ne_r r0 qp (by decide))]; exact e13
          refine go T5 (by omega) (by omega) (by rw [e13']; exact l3) (fun rt' et' i hi => ?_) P5 (by rw [ey2]; exact L5)
          rw [w5] at et'
          have hz := r_eq et3 (show hR h3 x0 61 = some rt' from et')
          subst hz
          rw [e13', w5, r_I, if_neg (ne_r qt qp (by decide)), est]
          exact st rt' et i hi
        refine s_br (fun _ => fin i3 l3) (fun _ => ?_)
        refine s_ref et3 (s_gd (gt T3) ?_)
        refine fin (thI T3 qt (k := 110) (lo := 0) (hi := 63) rfl) ?_
        rw [est]
        exact st rt et _ (by have := i7.2; omega)
      obtain ⟨ro, eo, qo⟩ := thR T r0 (i := 57) (k2 := 108) rfl (by decide)
      obtain ⟨re, ee, qe⟩ := thR T r0 (i := 47) (k2 := 100) rfl (by decide)
      obtain ⟨ix, _⟩ := ix5 i1 i7
      have all : Sat (cl (hR h x0 57) fun r_1 => br (x7 = x2) (sX15_stateBehind_62 F (sX15_stateBehind_6 F f) h x0 x1 x2 x3 x4 x5 x6 x7 x4 x6 r_1) (cl (hR h x0 47) fun r_3 => gd (inB (((5 : Int32) * x1) + x7) (hN h r_3)) <| sX15_stateBehind_62 F (sX15_stateBehind_6 F f) h x0 x1 x2 x3 x4 x5 x6 x7 (hI h r_3 (((5 : Int32) * x1) + x7).toNatClampNeg) x6 r_1)) (SQ2 ρ c x0) := by
        refine s_ref eo ?_
        refine s_br (fun _ => put eo i4) (fun _ => ?_)
        refine s_ref ee ?_
        refine s_gd (by rw [thN T qe (k := 100) (n := 20480) rfl (by decide)]; exact rg_inB ix (by decide)) ?_
        exact put eo (thI T qe (k := 100) (lo := 0) (hi := 24) rfl)
      refine s_br (fun _ => all) (fun _ => ?_)
      refine s_ref et (s_gd (gt T) ?_)
      exact s_br (fun _ => go T a6 (by omega) l3 st P L) (fun _ => all)
theorem zX15_stateBehind (hF : 700000 ≤ F) (hA : pmA c rwpL) (T : TH ρ c h) (r0 : ρ x0 = 16) (i1 : Rg 0 4095 x1) (i3 : Rg 0 63 x3) (l3 : x3.toInt < (hI h x0 13).toInt) (i4 : Rg 0 24 x4) (i5 : Rg 0 1 x5) (st : ∀ rt, hR h x0 61 = some rt → ∀ i, i < 5 → (hI h rt i).toInt < (hI h x0 13).toInt) (P : SE x0 h) : Sat (sX15_stateBehind F h x0 x1 x2 x3 x4 x5) (SQ2 ρ c x0) := by
  unfold sX15_stateBehind
  have z0 : (0 : Int32).toInt = 0 := rfl
  exact be_6 hF hA r0 i1 i3 i4 i5 F T (by decide) (by decide) (by decide) l3 st P (fun _ _ i hi => by rw [z0] at hi; omega) (by rw [z0]; omega)
end
