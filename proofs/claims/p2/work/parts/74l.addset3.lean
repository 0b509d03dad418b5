section
variable {ρ : Nat → Nat} {c : Cm} {h o : Hp} {S : Nat → Nat → Nat → Bool} {x0 a F r4 r : Nat} {n0 m sq : Int} {x1 x2 x3 x4 : Int32} {J : Int64}
abbrev AQ (ρ : Nat → Nat) (c : Cm) (x0 : Nat) (n0 : Int) : Int32 × Hp → Prop := fun o => TH ρ c o.2 ∧ Rg 0 1 o.1 ∧ SE x0 o.2 ∧ n0 ≤ (hI o.2 x0 49).toInt ∧ (¬ o.1 = 0 → 1 ≤ (hI o.2 x0 49).toInt)
theorem as_165 (hF : 700000 ≤ F) (hA : pmA c seL) (r0 : ρ x0 = 16) (i1 : Rg 0 5 x1) (l0 : 0 ≤ n0) (ln : n0 < 4096) (eJ : J.toInt = 2 * sq ^ x1.toNatClampNeg) (J0 : 0 ≤ J.toInt) : ∀ (f : Nat) {h : Hp} {x4 : Int32}, TH ρ c h → (hI h x0 13).toInt = sq → 0 ≤ x4.toInt → x4.toInt ≤ x1.toInt → PD x0 n0 x1 x4.toInt h → (6 - x4.toInt).toNat < f → Sat (sX15_addSet_165 F f h x0 x1 J x4) (AQ ρ c x0 n0) := by
  intro f
  induction f with
  | zero => intros; omega
  | succ f ih =>
    intro h x4 T es a4 b4 P hf
    rw [sX15_addSet_165]
    have b1 := i1.2
    refine s_br (fun l => ?_) (fun n => ?_)
    · have l' := le_i l
      have e4 : x4.toInt = x1.toInt := by omega
      rw [e4] at P
      exact as_end hF hA T r0 i1 l0 ln (by rw [es]; exact eJ) J0 P
    · have l4 := nle_i n
      have i4 : Rg 0 4 x4 := ⟨a4, by omega⟩
      obtain ⟨p0, pn, pA, pm, pb, pe, pw⟩ := P
      obtain ⟨re, ee, qe⟩ := thR T r0 (i := 47) (k2 := 100) rfl (by decide)
      obtain ⟨ro, eo, qo⟩ := thR T r0 (i := 57) (k2 := 108) rfl (by decide)
      refine s_ref ee ?_
      refine s_ref eo ?_
      refine s_gd (by rw [thN T qo (k := 108) (n := 6) rfl (by decide)]; exact rg_inB (rg_m i4 (by decide) : Rg 0 5 x4) (by decide)) ?_
      have z5 : (5 : Int32).toInt = 5 := rfl
      have e5 : ((5 : Int32) * (hI h x0 49)).toInt = 5 * n0 := by rw [tm (by rw [pn, z5]; omega), pn, z5]
      have e6 : (((5 : Int32) * (hI h x0 49)) + x4).toInt = 5 * n0 + x4.toInt := by rw [ta (by rw [e5]; omega), e5]
      have i6 : Rg 0 20479 (((5 : Int32) * (hI h x0 49)) + x4) := ⟨by omega, by omega⟩
      have c6 := clamp_i i6.1
      have c4 := clamp_i a4
      have e7 : (((5 : Int32) * (hI h x0 49)) + x4).toNatClampNeg = 5 * n0.toNat + x4.toNatClampNeg := by omega
      refine s_gd (by rw [thN T qe (k := 100) (n := 20480) rfl (by decide)]; exact rg_inB i6 (by decide)) ?_
      refine s_hq (th_wI T qe (k := 100) (lo := 0) (hi := 24) rfl (thI T qo (k := 108) (lo := 0) (hi := 24) rfl) (by decide) (by decide) (pm_a hA rfl)) (fun h2 T2 w2 => ?_)
      rw [e7] at w2
      have g : ∀ a k, ¬ (a = re ∧ k = 5 * n0.toNat + x4.toNatClampNeg) → hI h2 a k = hI h a k := fun a k q => by rw [w2, r_I, if_neg q]
      have g1 : ∀ {a kk : Nat}, ρ a = kk → kk ≠ 100 → ∀ k, hI h2 a k = hI h a k := fun {a kk} ea hk k => g a k (ne_r ea qe hk)
      have R2 : ∀ a i, hR h2 a i = hR h a i := fun a i => by rw [w2]; rfl
      have q46 : ∀ r, hR h x0 46 = some r → ρ r = 99 := fun r er => rr T (thR T r0 (i := 46) (k2 := 99) rfl (by decide)) er
      have q48 : ∀ r, hR h x0 48 = some r → ρ r = 101 := fun r er => rr T (thR T r0 (i := 48) (k2 := 101) rfl (by decide)) er
      have q55 : ∀ r, hR h x0 55 = some r → ρ r = 106 := fun r er => rr T (thR T r0 (i := 55) (k2 := 106) rfl (by decide)) er
      have q56 : ∀ r, hR h x0 56 = some r → ρ r = 107 := fun r er => rr T (thR T r0 (i := 56) (k2 := 107) rfl (by decide)) er
      have J2 : hJ h2 x0 59 = hJ h x0 59 := by rw [w2]; rfl
      refine s_q (fun y ey => ?_)
      have ey2 : y.toInt = x4.toInt + 1 := by rw [ey]; exact (nc_s i4 (by decide)).2
      clear ey
      have P2 : PD x0 n0 x1 y.toInt h2 := by
        refine ⟨se_of (fun i => R2 _ i) (g1 r0 (by decide) _) (g1 r0 (by decide) _) J2 (fun r er k _ => g1 (q46 r er) (by decide) k) (fun r er k _ => g1 (q48 r er) (by decide) k) (fun r er k hk => g r k (fun y => by rw [pn] at hk; have := y.2; omega)) (fun r er k => g1 (q55 r er) (by decide) k) (fun r er k => g1 (q56 r er) (by decide) k) (m5_of T r0) p0, ?_, ?_, ?_, ?_, ?_, ?_⟩
        · rw [g1 r0 (by decide)]; exact pn
        · rw [J2, g1 r0 (by decide)]; exact pA
        · intro r er
          rw [R2] at er
          rw [g1 (q46 r er) (by decide)]; exact pm r er
        · intro r er
          rw [R2] at er
          rw [J2, g1 (q48 r er) (by decide)]; exact pb r er
        · intro re' ro' ee' eo' i hi
          rw [R2] at ee' eo'
          have hz := r_eq ee ee'
          subst hz
          have hz := r_eq eo eo'
          subst hz
          rw [g1 qo (by decide)]
          by_cases z : i = x4.toNatClampNeg
          · rw [z, he_s w2]
          · rw [g re' _ (fun y => by have := y.2; omega)]
            exact pe re' ro' ee' eo' i (by omega)
        · intro ro' eo' i hi
          rw [R2] at eo'
          have hz := r_eq eo eo'
          subst hz
          rw [g1 qo (by decide)]
          exact pw ro' eo' i hi
      exact ih T2 (by rw [g1 r0 (by decide)]; exact es) (by omega) (by omega) P2 (by omega)
theorem as_93 (hF : 700000 ≤ F) (hA : pmA c seL) (T : TH ρ c h) (r0 : ρ x0 = 16) (i1 : Rg 0 5 x1) (P : SE x0 h) (rw' : RW x0 x1.toInt h) (pn : (hI h x0 49).toInt = n0) : ∀ (f : Nat) {J : Int64} {x4 : Int32}, 0 ≤ x4.toInt → x4.toInt ≤ x1.toInt → J.toInt = 2 * (hI h x0 13).toInt ^ x4.toNatClampNeg → (6 - x4.toInt).toNat < f → Sat (sX15_addSet_93 F f h x0 x1 J x4) (AQ ρ c x0 n0) := by
  have s64 := thI T r0 (k := 16) (i := 13) (lo := 9) (hi := 64) rfl
  have b1 := i1.2
  have c1 := clamp_i i1.1
  have z0 : (0 : Int32).toInt = 0 := rfl
  intro f
  induction f with
  | zero => intros; omega
  | succ f ih =>
    intro J x4 a4 b4 eJ hf
    rw [sX15_addSet_93]
    unfold sX15_addSet_136
    have c4 := clamp_i a4
    have pw := pow_sq (by have := s64.1; omega) s64.2 x4.toNatClampNeg (by omega)
    refine s_br (fun l => ?_) (fun n => ?_)
    · have l' := le_i l
      have e4 : x4.toNatClampNeg = x1.toNatClampNeg := by omega
      have no : Sat (some ((0 : Int32), h)) (AQ ρ c x0 n0) := s_some ⟨T, rg_b rfl, P, by show n0 ≤ (hI h x0 49).toInt; omega, fun z => absurd rfl z⟩
      refine s_br (fun _ => no) (fun nA => s_br (fun _ => no) (fun nS => ?_))
      have lA := cmp_le nA
      have p2 := P.2.1
      rw [ta64 (by have := p2.1; omega) (by have := p2.2; omega)] at lA
      have z6 : (600000 : Int64).toInt = 600000 := rfl
      rw [z6] at lA
      have in0 := thI T r0 (k := 16) (i := 49) (lo := 0) (hi := 4096) rfl
      have l0 : 0 ≤ n0 := by have := in0.1; omega
      have ln : n0 < 4096 := by
        have := in0.2
        rcases Int.lt_or_le n0 4096 with q | q
        · exact q
        · exact absurd (Int32.toInt_inj.mp (by show (hI h x0 49).toInt = 4096; omega)) nS
      have in1 : Rg 0 4095 (hI h x0 49) := ⟨by omega, by omega⟩
      have cn := clamp_i in1.1
      have en : (hI h x0 49).toNatClampNeg = n0.toNat := by omega
      obtain ⟨rm, em, qm⟩ := thR T r0 (i := 46) (k2 := 99) rfl (by decide)
      refine s_ref em ?_
      refine s_gd (by rw [thN T qm (k := 99) (n := 4096) rfl (by decide)]; exact rg_inB in1 (by decide)) ?_
      refine s_hq (th_wI T qm (k := 99) (lo := 0) (hi := 5) rfl i1 (by decide) (by decide) (pm_a hA rfl)) (fun h6 T6 w6 => ?_)
      rw [en] at w6
      have R6 : ∀ a i, hR h6 a i = hR h a i := fun a i => by rw [w6]; rfl
      have g6 : ∀ {a kk : Nat}, ρ a = kk → kk ≠ 99 → ∀ k, hI h6 a k = hI h a k := fun {a kk} ea hk k => by rw [w6, r_I, if_neg (ne_r ea qm hk)]
      have J6 : hJ h6 x0 59 = hJ h x0 59 := by rw [w6]; rfl
      have e49 : hI h6 x0 49 = hI h x0 49 := g6 r0 (by decide) _
      obtain ⟨rb, eb, qb⟩ := thR T6 r0 (i := 48) (k2 := 101) rfl (by decide)
      refine s_ref eb ?_
      rw [e49, J6]
      refine s_gd (by rw [thN T6 qb (k := 101) (n := 4096) rfl (by decide)]; exact rg_inB in1 (by decide)) ?_
      have eA := t6432 p2.1 p2.2
      refine s_hq (th_wI T6 qb (k := 101) (lo := 0) (hi := 600000) rfl ⟨by rw [eA]; exact p2.1, by rw [eA]; exact p2.2⟩ (by decide) (by decide) (pm_a hA rfl)) (fun h9 T9 w9 => ?_)
      rw [en] at w9
      have R9 : ∀ a i, hR h9 a i = hR h a i := fun a i => by rw [w9]; exact R6 a i
      have g9 : ∀ {a kk : Nat}, ρ a = kk → kk ≠ 99 → kk ≠ 101 → ∀ k, hI h9 a k = hI h a k := fun {a kk} ea hk hk2 k => by rw [w9, r_I, if_neg (ne_r ea qb hk2)]; exact g6 ea hk k
      have J9 : hJ h9 x0 59 = hJ h x0 59 := by rw [w9]; exact J6
      have q47 : ∀ r, hR h x0 47 = some r → ρ r = 100 := fun r er => rr T (thR T r0 (i := 47) (k2 := 100) rfl (by decide)) er
      have q55 : ∀ r, hR h x0 55 = some r → ρ r = 106 := fun r er => rr T (thR T r0 (i := 55) (k2 := 106) rfl (by decide)) er
      have q56 : ∀ r, hR h x0 56 = some r → ρ r = 107 := fun r er => rr T (thR T r0 (i := 56) (k2 := 107) rfl (by decide)) er
      have ebh : hR h x0 48 = some rb := by rw [← R6]; exact eb
      have P9 : PD x0 n0 x1 (0 : Int32).toInt h9 := by
        refine ⟨se_of (fun i => R9 _ i) (g9 r0 (by decide) (by decide) _) (g9 r0 (by decide) (by decide) _) J9 (fun r er k hk => ?_) (fun r er k hk => ?_) (fun r er k hk => g9 (q47 r er) (by decide) (by decide) k) (fun r er k => g9 (q55 r er) (by decide) (by decide) k) (fun r er k => g9 (q56 r er) (by decide) (by decide) k) (m5_of T r0) P, ?_, ?_, ?_, ?_, ?_, ?_⟩
        · have hz := r_eq em er
          subst hz
          rw [w9, r_I, if_neg (ne_r qm qb (by decide)), w6, r_I, if_neg (fun y => by rw [pn] at hk; have := y.2; omega)]
        · have hz := r_eq ebh er
          subst hz
          rw [w9, r_I, if_neg (fun y => by rw [pn] at hk; have := y.2; omega)]
          exact g6 qb (by decide) k
        · rw [g9 r0 (by decide) (by decide)]; exact pn
        · rw [J9, g9 r0 (by decide) (by decide), ← e4, ← eJ]; exact lA
        · intro r er
          rw [R9] at er
          have hz := r_eq em er
          subst hz
          rw [w9, r_I, if_neg (ne_r qm qb (by decide)), he_s w6]
        · intro r er
          rw [R9] at er
          have hz := r_eq ebh er
          subst hz
          rw [he_s w9, J9]; exact eA
        · intro _ _ _ _ i hi
          rw [z0] at hi; omega
        · intro ro eo i hi
          rw [R9] at eo
          rw [g9 (rr T (thR T r0 (i := 57) (k2 := 108) rfl (by decide)) eo) (by decide) (by decide)]
          exact rw' ro eo i hi
      exact as_165 hF hA r0 i1 l0 ln (sq := (hI h x0 13).toInt) (by rw [← e4]; exact eJ) (by rw [eJ]; omega) F T9 (by rw [g9 r0 (by decide) (by decide)]) (by decide) (by rw [z0]; exact i1.1) P9 (by rw [z0]; omega)
    · have l4 := nle_i n
      refine s_q (fun v ev => ?_)
      refine s_q (fun y ey => ?_)
      have i4 : Rg 0 4 x4 := ⟨a4, by omega⟩
      have ny := nc_s i4 (by decide)
      have ey2 : y.toInt = x4.toInt + 1 := by rw [ey]; exact ny.2
      have ey3 : y.toNatClampNeg = x4.toNatClampNeg + 1 := by rw [ey]; exact ny.1
      clear ey
      have pw2 := pow_sq (s := (hI h x0 13).toInt) (by have := s64.1; omega) s64.2 (x4.toNatClampNeg + 1) (by omega)
      have e64 : ((hI h x0 13).toInt64).toInt = (hI h x0 13).toInt := Int32.toInt_toInt64 _
      have em2 : J.toInt * (hI h x0 13).toInt = 2 * (hI h x0 13).toInt ^ (x4.toNatClampNeg + 1) := by rw [eJ, Int.pow_succ, Int.mul_assoc]
      have ev2 : v.toInt = 2 * (hI h x0 13).toInt ^ (x4.toNatClampNeg + 1) := by
        rw [ev, tm64 (by rw [e64, em2]; omega) (by rw [e64, em2]; omega), e64, em2]
      clear ev
      exact ih (by omega) (by omega) (by rw [ey3]; exact ev2) (by omega)
end
