section
/-! all that a move leads to is met: no state is missing -/
theorem mbM {k d n m : Int} (h1 : -m ≤ k ∧ k ≤ m) (h2 : -n ≤ d ∧ d ≤ n) (hm : 0 ≤ m) : -(m * n) ≤ k * d ∧ k * d ≤ m * n := mb h1 h2 hm
theorem and1_i {x : Int32} (i : 0 ≤ x.toInt) : (x &&& (1 : Int32)).toInt = x.toInt % 2 := by
  obtain ⟨j, ej, tj, hj⟩ := rg_nI (a := 0) (b := x.toInt) ⟨i, Int.le_refl _⟩ (Int.le_refl 0)
  have ek : (1 : Int32) = nI 1 := rfl
  have hz : ∀ i, i < 2 ^ 31 → (nI i).toBitVec.toNat = i := fun i hi => by
    show (BitVec.ofNat 32 i).toNat = i
    rw [BitVec.toNat_ofNat]
    exact Nat.mod_eq_of_lt (by omega)
  have m : j &&& 1 = j % 2 := Nat.and_one_is_mod j
  have eo : x &&& (1 : Int32) = nI (j % 2) := by
    rw [ej, ek]
    apply Int32.toBitVec_inj.mp
    apply BitVec.eq_of_toNat_eq
    show ((nI j).toBitVec &&& (nI 1).toBitVec).toNat = (nI (j % 2)).toBitVec.toNat
    rw [BitVec.toNat_and, hz j hj, hz 1 (by decide), hz _ (by omega), m]
  rw [eo, z_toInt (by omega), tj]
  omega
abbrev EML : List (Nat × Nat) := [(108, 999), (109, 999), (16, 62), (16, 63)]
section
variable {ρ : Nat → Nat} {c : Cm} {x0 rm re rb rk rs ro rp rt rw mb km R Bc Bm F : Nat} {a : Int} {h o : Hp} {x1 x2 x3 x4 x5 x6 : Int32}
theorem kf_jp (J : Jp ro rp h o) (qo : ρ ro = 108) (qp : ρ rp = 109) : Kf ρ EML h o := fun a i n x => by
  have n1 : ¬ a = ro := fun w => by rw [w, qo] at x; exact absurd x (by show ¬ true = false; decide)
  have n2 : ¬ a = rp := fun w => by rw [w, qp] at x; exact absurd x (by show ¬ true = false; decide)
  exact ⟨J.2.2.2 a i n1 n2, J.2.2.1 a i, J.1 a i⟩
/-- the man that is taken, if there is one -/
theorem cap_ex (st : ∀ i : Nat, (i : Int) < (hI h rm x1.toNatClampNeg).toInt → (hI h rt i).toInt = dg (x2.toInt / 2) (hI h x0 13).toInt i) (im : Rg 0 5 (hI h rm x1.toNatClampNeg)) (t0 : 0 ≤ x4.toInt) {j : Nat} (hj : (j : Int) = x3.toInt) (G : Gd h rm re R (hI h x0 13).toInt x1.toNatClampNeg (x2.toInt / 2) j x4.toNatClampNeg) : ∃ q : Nat, ¬ q = j ∧ (q < (hI h rm x1.toNatClampNeg).toNatClampNeg ∨ 9 ≤ q) ∧ (∀ i : Nat, (i : Int) < (hI h rm x1.toNatClampNeg).toInt → ¬ (i : Int) = x3.toInt → (hI h rt i = x4 ↔ i = q)) ∧ (q < (hI h rm x1.toNatClampNeg).toNatClampNeg → ¬ (hI h re (5 * x1.toNatClampNeg + q) - (1 : Int32)) >>> ((1 : Int32) &&& 31) = hI h R 10) := by
  have cm := clamp_i im.1
  have m5 := im.2
  have c4 := clamp_i t0
  by_cases ex : ∃ i : Nat, i < (hI h rm x1.toNatClampNeg).toNatClampNeg ∧ ¬ i = j ∧ dg (x2.toInt / 2) (hI h x0 13).toInt i = x4.toInt
  · obtain ⟨q, q1, q2, q3⟩ := ex
    refine ⟨q, q2, Or.inl q1, fun i hi ni => ⟨fun e => ?_, fun e => ?_⟩, fun _ => G.2.2 q q1 q2 (by rw [c4]; exact q3)⟩
    · refine Classical.byContradiction fun ne => G.2.1 i q (by omega) q1 ne ?_
      rw [← st i hi, e, q3]
    · subst e
      apply Int32.toInt_inj.mp
      rw [st i hi, q3]
  · refine ⟨j + 10, by omega, Or.inr (by omega), fun i hi ni => ⟨fun e => ?_, fun e => by omega⟩, fun w => by omega⟩
    exact absurd ⟨i, by omega, by omega, by rw [← st i hi, e]⟩ ex
/-- the state behind a step, found -/
theorem behind_f (hF : 700000 ≤ F) (hA : pmA c rwpL) (T : TH ρ c h) (W : WkP ρ x0 rm re rb rk rs ro rp rt rw mb km R Bc Bm a h) (i1 : Rg 0 4095 x1) (ln : x1.toInt < (hI h x0 49).toInt) (a3 : 0 ≤ x3.toInt) (l3 : x3.toInt < (hI h rm x1.toNatClampNeg).toInt) (t0 : 0 ≤ x4.toInt) (tl : x4.toInt < (hI h x0 13).toInt) {v sd : Int32} (iv : Rg 0 24 v) (isd : Rg 0 1 sd) (s1 : 1 ≤ (hI h x0 13).toInt) (st : ∀ i : Nat, (i : Int) < (hI h rm x1.toNatClampNeg).toInt → (hI h rt i).toInt = dg (x2.toInt / 2) (hI h x0 13).toInt i) (G : Gd h rm re R (hI h x0 13).toInt x1.toNatClampNeg (x2.toInt / 2) x3.toNatClampNeg x4.toNatClampNeg)
    (hv : v = hI h re (5 * x1.toNatClampNeg + x3.toNatClampNeg) ∨ FdS rs rk h (hI h rm x1.toNatClampNeg).toNatClampNeg (fun w => cn (up (fun p => hI h re (5 * x1.toNatClampNeg + p)) x3.toNatClampNeg v) w (hI h rm x1.toNatClampNeg).toNatClampNeg)) : Sat (sX15_stateBehind F h x0 x1 x3 x4 v sd) (fun o => TH ρ c o.2 ∧ Rg 0 599999 o.1 ∧ Kf ρ EML h o.2) := by
  obtain ⟨Q, ⟨e58, e61, e51, e53, e52, e4, e13, e14⟩, ⟨qp, qt, qw, qmb, qkm, qR, qBc, qBm⟩, P, A, D, na, GG⟩ := W
  have c1 := clamp_i i1.1
  have c3 := clamp_i a3
  have im := thI T Q.1.2.1 (k := 99) (i := x1.toNatClampNeg) (lo := 0) (hi := 5) rfl
  have cm := clamp_i im.1
  have s64 := (thI T Q.1.1 (k := 16) (i := 13) (lo := 9) (hi := 64) rfl).2
  have m5 := im.2
  obtain ⟨q, q1, q2, q3, q4⟩ := cap_ex (x3 := x3) (R := R) (re := re) st im t0 c3 G
  refine s_imp (behind_q (q := q) hF hA Q T P e58 e61 i1 ⟨a3, by omega⟩ ⟨t0, by omega⟩ tl iv isd (fun i hi => ?_) q3 (by omega)) (fun o w => ?_)
  · rw [st i hi]
    exact Int.emod_lt_of_pos _ (by omega)
  · have := w.2.2 (fd_behind T Q P A (by omega) (by omega) q1 q2 q4 iv hv)
    exact ⟨w.1.1, ⟨this, w.1.2.1.2⟩, kf_jp w.2.1 Q.1.2.2.2.2.2.2 qp⟩
/-- where a plain step leads -/
theorem plain_ix {bg k t d un sd W q : Int} {m j : Nat} {sq : Int} (hb : 0 ≤ bg) (hW : bg + 2 * W ≤ 600000) (eW : W = sq ^ m) (eq : q = k / 2) (es : sd = k % 2) (q0 : 0 ≤ q) (ql : q < W) (hj : j < m) (s1 : 1 ≤ sq) (t0 : 0 ≤ t) (tl : t < sq) (ed : d = dg q sq j) (eu : un = 2 * sq ^ j) : 0 ≤ bg + k + (t - d) * un + 1 - 2 * sd ∧ bg + k + (t - d) * un + 1 - 2 * sd ≤ 599999 := by
  obtain ⟨p1, p2⟩ := dg_put s1 t0 tl j m q hj q0 (by rw [← eW]; exact ql)
  rw [← ed] at p1 p2
  have e : (t - d) * un = 2 * ((t - d) * sq ^ j) := by rw [eu, ← Int.mul_assoc, Int.mul_comm (t - d) 2, Int.mul_assoc]
  rw [e]
  rw [← eW] at p2
  omega
theorem meetAll_q (hF : 700000 ≤ F) (hA : pmA c [(108, 999), (109, 999), (16, 62), (16, 63)]) (T : TH ρ c h) (W : WkP ρ x0 rm re rb rk rs ro rp rt rw mb km R Bc Bm a h) (i1 : Rg 0 4095 x1) (ln : x1.toInt < (hI h x0 49).toInt) (a2 : 0 ≤ x2.toInt) (l2 : x2.toInt < 2 * (hI h x0 13).toInt ^ (hI h rm x1.toNatClampNeg).toNatClampNeg) (a3 : 0 ≤ x3.toInt) (l3 : x3.toInt < (hI h rm x1.toNatClampNeg).toInt) (t0 : 0 ≤ x4.toInt) (un : x5.toInt = 2 * (hI h x0 13).toInt ^ x3.toNatClampNeg) (st : ∀ i : Nat, (i : Int) < (hI h rm x1.toNatClampNeg).toInt → (hI h rt i).toInt = dg (x2.toInt / 2) (hI h x0 13).toInt i) (own : owS h re x1.toNatClampNeg x3.toNatClampNeg = (x2 &&& (1 : Int32)).toInt) (G : Gd h rm re R (hI h x0 13).toInt x1.toNatClampNeg (x2.toInt / 2) x3.toNatClampNeg x4.toNatClampNeg) : Sat (sX15_meetAll F h x0 x1 x2 x3 x4 x5 x6) (fun o => TH ρ c o ∧ Kf ρ EML h o) := by
  have W' := W
  obtain ⟨Q, ⟨e58, e61, e51, e53, e52, e4, e13, e14⟩, ⟨qp, qt, qw, qmb, qkm, qR, qBc, qBm⟩, P, A, D, na, GG⟩ := W'
  have Q' := Q
  obtain ⟨⟨r0, qm, qe, qb, qk, qs, qo⟩, ⟨e46, e47, e48, e55, e56, e57⟩⟩ := Q'
  have c1 := clamp_i i1.1
  have c3 := clamp_i a3
  have c4 := clamp_i t0
  have im := thI T qm (k := 99) (i := x1.toNatClampNeg) (lo := 0) (hi := 5) rfl
  have cm := clamp_i im.1
  have m5 := im.2
  have is := thI T r0 (k := 16) (i := 13) (lo := 9) (hi := 64) rfl
  have s9 := is.1
  have s64 := is.2
  have tl : x4.toInt < (hI h x0 13).toInt := by have := G.1; omega
  have i3 : Rg 0 4 x3 := ⟨a3, by omega⟩
  have i4 : Rg 0 63 x4 := ⟨t0, by omega⟩
  obtain ⟨ix, ixn⟩ := ix5 i1 i3
  unfold sX15_meetAll
  refine s_ref e47 ?_
  refine s_gd (by rw [thN T qe (k := 100) (n := 20480) rfl (by decide)]; exact rg_inB ix (by decide)) ?_
  rw [ixn]
  have pos := P.2.2.2.2.1 rm re e46 e47 x1.toNatClampNeg (by omega) x3.toNatClampNeg (by omega)
  have iv0 := thI T qe (k := 100) (i := 5 * x1.toNatClampNeg + x3.toNatClampNeg) (lo := 0) (hi := 24) rfl
  have iv : Rg 1 24 (hI h re (5 * x1.toNatClampNeg + x3.toNatClampNeg)) := ⟨pos, iv0.2⟩
  refine s_q (fun v ev => s_q (fun sd es => ?_))
  unfold sX15_manOf
  refine s_cl (s_some ?_)
  dsimp only
  have iman : Rg 0 11 ((v - (1 : Int32)) >>> ((1 : Int32) &&& 31)) := by rw [ev]; exact man_r iv
  have isd : Rg 0 1 sd := by rw [es]; exact side_r
  refine s_cl (s_imp (zX15_becomesOthers hF T r0 iman) (fun o6 ⟨e6, i6⟩ => ?_))
  rw [e6]
  -- a step without becoming
  have b149 : Sat (sX15_meetAll_149 F h x0 x1 x2 x3 x4 x5 x6 v sd) (fun o => TH ρ c o ∧ Kf ρ EML h o) := by
    unfold sX15_meetAll_149 sX15_meetAll_163
    have lp : ∀ (f : Nat) {x10 x11 : Int32}, 0 ≤ x11.toInt → (6 - x11.toInt).toNat < f → Sat (sX15_meetAll_168 F f h x0 x1 x2 x3 x4 x5 x6 v sd x10 x11) (fun o => TH ρ c o ∧ Kf ρ EML h o) := by
      intro f
      induction f with
      | zero => intros; omega
      | succ f ih =>
        intro x10 x11 a11 hf
        rw [sX15_meetAll_168]
        unfold sX15_meetAll_260 sX15_meetAll_198
        refine s_ref e46 (s_gd (by rw [thN T qm (k := 99) (n := 4096) rfl (by decide)]; exact rg_inB i1 (by decide)) ?_)
        refine s_br (fun _ => ?_) (fun n1 => ?_)
        · refine s_ref e51 ?_
          refine s_br (fun _ => ?_) (fun _ => ?_)
          · refine s_cl (s_imp (behind_f hF (pmA_s hA rfl) T W i1 ln a3 l3 t0 tl (by rw [ev]; exact iv0) isd (by omega) st G (Or.inl ev)) (fun o9 ⟨T9, i9, K9⟩ => ?_))
            refine s_gd (by rw [thN T9 qw (k := 102) (n := 600000) rfl (by decide)]; exact rg_inB i9 (by decide)) ?_
            refine s_cVf (S := fS [(16, 62), (16, 63)] []) T9 (fs_sub (pmA_s hA rfl) fs_n) (zX15_meet hF fs_a (th_in _ T9) r0 (thI T9 qw (k := 102) (lo := -1000000) (hi := 3000000) rfl) (rg_top _)) (fun o2 T2 f2 => ?_)
            exact s_some ⟨T2, kf_t K9 (kf_of f2 rfl)⟩
          · refine s_ref e48 ?_
            refine s_gd (by rw [thN T qb (k := 101) (n := 4096) rfl (by decide)]; exact rg_inB i1 (by decide)) ?_
            refine s_ref e61 ?_
            refine s_gd (by rw [thN T qt (k := 110) (n := 5) rfl (by decide)]; exact rg_inB i3 (by decide)) ?_
            have ib := thI T qb (k := 101) (i := x1.toNatClampNeg) (lo := 0) (hi := 600000) rfl
            have B3 := P.2.2.1 rm rb e46 e48 x1.toNatClampNeg (by omega)
            have B2 := P.2.1.2
            have ed := st x3.toNatClampNeg (by omega)
            have px := plain_ix (bg := (hI h rb x1.toNatClampNeg).toInt) (k := x2.toInt) (t := x4.toInt) (d := (hI h rt x3.toNatClampNeg).toInt) (un := x5.toInt) (sd := x2.toInt % 2) (W := (hI h x0 13).toInt ^ (hI h rm x1.toNatClampNeg).toNatClampNeg) (q := x2.toInt / 2) (m := (hI h rm x1.toNatClampNeg).toNatClampNeg) (j := x3.toNatClampNeg) (sq := (hI h x0 13).toInt) ib.1 (by omega) rfl rfl rfl (by omega) (by omega) (by omega) (by omega) t0 tl ed un
            have esd : sd.toInt = x2.toInt % 2 := by rw [es]; exact and1_i a2
            have ub : x5.toInt ≤ 600000 ∧ 2 ≤ x5.toInt := by
              have pw := powm (s := (hI h x0 13).toInt) (by omega) x3.toNatClampNeg ((hI h rm x1.toNatClampNeg).toNatClampNeg - x3.toNatClampNeg)
              have : x3.toNatClampNeg + ((hI h rm x1.toNatClampNeg).toNatClampNeg - x3.toNatClampNeg) = (hI h rm x1.toNatClampNeg).toNatClampNeg := by omega
              rw [this] at pw
              have p1 := (powm (s := (hI h x0 13).toInt) (by omega) 0 x3.toNatClampNeg).1
              rw [Int.pow_zero, Nat.zero_add] at p1
              have ib0 := ib.1
              omega
            have dr := thI T qt (k := 110) (i := x3.toNatClampNeg) (lo := 0) (hi := 63) rfl
            have d0 := dr.1
            have d1 := dr.2
            have t64 := i4.2
            have e1 : (x4 - (hI h rt x3.toNatClampNeg)).toInt = x4.toInt - (hI h rt x3.toNatClampNeg).toInt := ts (by omega)
            have mbd := mbM (n := 600000) (m := 63) (k := x4.toInt - (hI h rt x3.toNatClampNeg).toInt) (d := x5.toInt) ⟨by omega, by omega⟩ ⟨by omega, by omega⟩ (by decide)
            have e2 : ((x4 - (hI h rt x3.toNatClampNeg)) * x5).toInt = (x4.toInt - (hI h rt x3.toNatClampNeg).toInt) * x5.toInt := by rw [tm ⟨by rw [e1]; omega, by rw [e1]; omega⟩, e1]
            have ib0 := ib.1
            have ib1 := ib.2
            have p0 : 0 ≤ (hI h x0 13).toInt ^ (hI h rm x1.toNatClampNeg).toNatClampNeg := Int.pow_nonneg (by omega)
            have e3 : ((hI h rb x1.toNatClampNeg) + x2).toInt = (hI h rb x1.toNatClampNeg).toInt + x2.toInt := ta (by omega)
            have e4' : (((hI h rb x1.toNatClampNeg) + x2) + ((x4 - (hI h rt x3.toNatClampNeg)) * x5)).toInt = (hI h rb x1.toNatClampNeg).toInt + x2.toInt + (x4.toInt - (hI h rt x3.toNatClampNeg).toInt) * x5.toInt := by rw [ta (by rw [e3, e2]; omega), e3, e2]
            have z1 : (1 : Int32).toInt = 1 := rfl
            have z2 : (2 : Int32).toInt = 2 := rfl
            have e5 : ((((hI h rb x1.toNatClampNeg) + x2) + ((x4 - (hI h rt x3.toNatClampNeg)) * x5)) + (1 : Int32)).toInt = (hI h rb x1.toNatClampNeg).toInt + x2.toInt + (x4.toInt - (hI h rt x3.toNatClampNeg).toInt) * x5.toInt + 1 := by rw [ta (by rw [e4', z1]; omega), e4', z1]
            have e6' : ((2 : Int32) * sd).toInt = 2 * sd.toInt := by rw [tm (by rw [z2, esd]; omega), z2]
            have e7 : (((((hI h rb x1.toNatClampNeg) + x2) + ((x4 - (hI h rt x3.toNatClampNeg)) * x5)) + (1 : Int32)) - ((2 : Int32) * sd)).toInt = (hI h rb x1.toNatClampNeg).toInt + x2.toInt + (x4.toInt - (hI h rt x3.toNatClampNeg).toInt) * x5.toInt + 1 - 2 * sd.toInt := by rw [ts (by rw [e5, e6', esd]; omega), e5, e6']
            refine s_gd (by rw [thN T qw (k := 102) (n := 600000) rfl (by decide)]; exact rg_inB (⟨by rw [e7, esd]; exact px.1, by rw [e7, esd]; exact px.2⟩ : Rg 0 599999 _) (by decide)) ?_
            refine s_cVf (S := fS [(16, 62), (16, 63)] []) T (fs_sub (pmA_s hA rfl) fs_n) (zX15_meet hF fs_a (th_in _ T) r0 (thI T qw (k := 102) (lo := -1000000) (hi := 3000000) rfl) (rg_top _)) (fun o2 T2 f2 => ?_)
            exact s_some ⟨T2, kf_of f2 rfl⟩
        · have l11 := nle_i n1
          have i11 : Rg 0 4 x11 := ⟨a11, by omega⟩
          have ny := nc_s i11 (by decide)
          refine s_ref e61 (s_gd (by rw [thN T qt (k := 110) (n := 5) rfl (by decide)]; exact rg_inB i11 (by decide)) ?_)
          refine s_br (fun _ => ?_) (fun _ => ?_)
          · refine s_q (fun u eu => s_q (fun y ey => ?_))
            have ey2 : y.toInt = x11.toInt + 1 := by rw [ey]; exact ny.2
            exact ih (by omega) (by omega)
          · refine s_q (fun u eu => s_q (fun y ey => ?_))
            have ey2 : y.toInt = x11.toInt + 1 := by rw [ey]; exact ny.2
            exact ih (by omega) (by omega)
    have z0 : (0 : Int32).toInt = 0 := rfl
    refine s_cl (s_imp (zX15_isLike hF T r0 i1 i3) (fun o1 ⟨e1, i1'⟩ => ?_))
    rw [e1]
    exact s_br (fun _ => lp F (by decide) (by rw [z0]; omega)) (fun _ => lp F (by decide) (by rw [z0]; omega))
  refine s_br (fun _ => b149) (fun _ => ?_)
  refine s_cl (s_imp (zX15_rankFor hF T r0 i4 isd) (fun o8 ⟨e8, i8⟩ => ?_))
  rw [e8]
  refine s_br (fun _ => ?_) (fun _ => b149)
  -- a man that becomes another
  have l51 : ∀ (f : Nat) {g : Hp} {x10 : Int32}, TH ρ c g → Kf ρ EML h g → (∀ i, hI g rt i = hI h rt i) → 0 ≤ x10.toInt → (7 - x10.toInt).toNat < f → Sat (sX15_meetAll_51 F f g x0 x1 x3 x4 x6 sd ((v - (1 : Int32)) >>> ((1 : Int32) &&& 31)) x10) (fun o => TH ρ c o ∧ Kf ρ EML h o) := by
    intro f
    induction f with
    | zero => intros; omega
    | succ f ih =>
      intro g x10 Tg Kg kt a10 hf
      have Wg := wkp_k T (kf_m Kg rfl) W
      rw [sX15_meetAll_51]
      unfold sX15_meetAll_129 sX15_meetAll_142
      have e4g : hR g x0 4 = some R := Wg.2.1.2.2.2.2.2.1
      have e13g : hR g R 13 = some Bc := Wg.2.1.2.2.2.2.2.2.1
      have e14g : hR g R 14 = some Bm := Wg.2.1.2.2.2.2.2.2.2
      refine s_ref e4g (s_ref e14g ?_)
      refine s_gd (by rw [thN Tg qBm (k := 81) (n := 12) rfl (by decide)]; exact rg_inB iman (by decide)) ?_
      refine s_br (fun _ => s_some ⟨Tg, Kg⟩) (fun n1 => ?_)
      have l10 := nle_i n1
      have b6 := (thI Tg qBm (k := 81) (i := ((v - (1 : Int32)) >>> ((1 : Int32) &&& 31)).toNatClampNeg) (lo := 0) (hi := 6) rfl).2
      have i10 : Rg 0 5 x10 := ⟨a10, by omega⟩
      have ny := nc_s i10 (by decide)
      refine s_ref e4g (s_ref e13g ?_)
      have iq : Rg 0 66 ((6 : Int32) * ((v - (1 : Int32)) >>> ((1 : Int32) &&& 31))) := by
        have e4' : (6 : Int32).toInt = 6 := rfl
        have := iman.1
        have := iman.2
        exact ⟨by rw [tm (by rw [e4']; omega), e4']; omega, by rw [tm (by rw [e4']; omega), e4']; omega⟩
      refine s_gd (by rw [thN Tg qBc (k := 80) (n := 72) rfl (by decide)]; exact rg_inB (rg_add iq i10 (by decide) : Rg 0 71 _) (by decide)) ?_
      unfold sX15_valueOf
      refine s_cl (s_some ?_)
      dsimp only
      have kvm := kfI x1.toNatClampNeg Kg qm
      have kve := fun i => kfI i Kg qe
      have k13 := kfI 13 Kg r0
      have k49 := kfI 49 Kg r0
      have ivv := val_r (thI Tg qBc (k := 80) (i := (((6 : Int32) * ((v - (1 : Int32)) >>> ((1 : Int32) &&& 31))) + x10).toNatClampNeg) (lo := 0) (hi := 11) rfl) isd
      have CLg := ((Wg.2.2.2.2.1 x1.toNatClampNeg (by rw [k49]; omega)).2.2 x3.toNatClampNeg (by rw [kvm]; omega)).2 x10 a10 (by omega) (by
        rw [kve, ← ev]
        exact l10)
      have ose : sd = (v - (1 : Int32)) &&& (1 : Int32) := by
        apply Int32.toInt_inj.mp
        unfold owS at own
        rw [← ev] at own
        rw [own, es]
      refine s_cl (s_imp (behind_f hF (pmA_s hA rfl) Tg Wg i1 (by rw [k49]; exact ln) a3 (by rw [kvm]; exact l3) t0 (by rw [k13]; exact tl) (rg_m ivv (by decide)) isd (by rw [k13]; omega) (fun i hi => by rw [kvm] at hi; rw [kt, k13]; exact st i hi) ?_ (Or.inr ?_)) (fun o9 ⟨T9, i9, K9⟩ => ?_))
      · unfold Gd
        rw [kvm, k13, kfI 10 Kg qR]
        simp only [kve]
        exact G
      · rw [kve, ← ev, ← ose] at CLg
        exact CLg
      · have W9 := wkp_k Tg (kf_m K9 rfl) Wg
        have kt9 : ∀ i, hI o9.2 rt i = hI h rt i := fun i => (kfI i K9 qt).trans (kt i)
        have e49' : hR o9.2 x0 4 = some R := W9.2.1.2.2.2.2.2.1
        have m129 : Sat (cl (hR o9.2 x0 51) fun r_1 => gd (inB o9.1 (hN o9.2 r_1)) <| cl (sX15_meet o9.2 x0 (hI o9.2 r_1 o9.1.toNatClampNeg) x6) fun o_3 => nm (x10 + (1 : Int32)) fun v_1 => sX15_meetAll_51 F f o_3 x0 x1 x3 x4 x6 sd ((v - (1 : Int32)) >>> ((1 : Int32) &&& 31)) v_1) (fun o => TH ρ c o ∧ Kf ρ EML h o) := by
          refine s_ref W9.2.1.2.2.1 ?_
          refine s_gd (by rw [thN T9 qw (k := 102) (n := 600000) rfl (by decide)]; exact rg_inB i9 (by decide)) ?_
          refine s_cVf (S := fS [(16, 62), (16, 63)] []) T9 (fs_sub (pmA_s hA rfl) fs_n) (zX15_meet hF fs_a (th_in _ T9) r0 (thI T9 qw (k := 102) (lo := -1000000) (hi := 3000000) rfl) (rg_top _)) (fun o2 T2 f2 => ?_)
          refine s_q (fun y ey => ?_)
          have ey2 : y.toInt = x10.toInt + 1 := by rw [ey]; exact ny.2
          exact ih T2 (kf_t Kg (kf_t K9 (kf_of f2 rfl))) (fun i => by rw [(fr_RI f2 qt (by decide) (fun _ => rfl)).1]; exact kt9 i) (by omega) (by omega)
        refine s_ref e49' ?_
        refine s_br (fun _ => m129) (fun _ => ?_)
        obtain ⟨rc, ec, qc⟩ := thR T9 r0 (i := 54) (k2 := 105) rfl (by decide)
        refine s_ref ec ?_
        refine s_gd (by rw [thN T9 qc (k := 105) (n := 9376) rfl (by decide)]; exact rg_inB (sh6 i9) (by decide)) ?_
        refine s_br (fun _ => m129) (fun _ => ?_)
        refine s_q (fun y ey => ?_)
        have ey2 : y.toInt = x10.toInt + 1 := by rw [ey]; exact ny.2
        exact ih T9 (kf_t Kg K9) kt9 (by omega) (by omega)
  have z0 : (0 : Int32).toInt = 0 := rfl
  exact l51 F T kf_r (fun _ => rfl) (by decide) (by rw [z0]; omega)
end
end
section
/-! the worth of a state now -/
def pcJ (x : Int64) : Nat → Nat
  | 0 => 0
  | n + 1 => pcJ x n + if bitJ x n = true then 1 else 0
theorem pc_le (x : Int64) : ∀ n, pcJ x n ≤ n := by
  intro n
  induction n with
  | zero => exact Nat.le_refl _
  | succ n ih =>
    show pcJ x n + (if bitJ x n = true then 1 else 0) ≤ n + 1
    split <;> omega
theorem pc_lt {x y : Int64} (s : ∀ i, bitJ y i = true → bitJ x i = true) {k : Nat} (kx : bitJ x k = true) (ky : bitJ y k = false) : ∀ n, pcJ y n ≤ pcJ x n ∧ (k < n → pcJ y n < pcJ x n) := by
  intro n
  induction n with
  | zero => exact ⟨Nat.le_refl _, fun h => by omega⟩
  | succ n ih =>
    show pcJ y n + (if bitJ y n = true then 1 else 0) ≤ pcJ x n + (if bitJ x n = true then 1 else 0) ∧ (k < n + 1 → pcJ y n + (if bitJ y n = true then 1 else 0) < pcJ x n + (if bitJ x n = true then 1 else 0))
    by_cases w : k = n
    · subst w
      rw [if_pos kx, if_neg (by rw [ky]; decide)]
      exact ⟨by omega, fun _ => by omega⟩
    · by_cases z : bitJ y n = true
      · rw [if_pos z, if_pos (s n z)]
        exact ⟨by omega, fun h => by have := ih.2 (by omega); omega⟩
      · rw [if_neg z]
        split
        · exact ⟨by omega, fun h => by have := ih.2 (by omega); omega⟩
        · exact ⟨by omega, fun h => by have := ih.2 (by omega); omega⟩
/-- the least bit is gone -/
theorem low_off {x : Int64} (hx : ¬ x = 0) : (∀ i, bitJ (x &&& (x - (1 : Int64))) i = true → bitJ x i = true) ∧ ∃ k, k < 64 ∧ bitJ x k = true ∧ bitJ (x &&& (x - (1 : Int64))) k = false := by
  obtain ⟨k, k64, kb, e⟩ := low_bit hx
  have nb : bitJ (-x) k = true := by
    have : bitJ (x &&& (-x)) k = true := by
      rw [e]
      show (BitVec.twoPow 64 k).getLsbD k = true
      rw [BitVec.getLsbD_twoPow]
      simp [k64]
    rw [bj_and] at this
    simp only [Bool.and_eq_true] at this
    exact this.2
  refine ⟨fun i w => ?_, k, k64, kb, ?_⟩
  · rw [bj_and] at w
    simp only [Bool.and_eq_true] at w
    exact w.1
  · rw [bj_and, kb, Bool.true_and]
    have e2 : (x - (1 : Int64)).toBitVec = ~~~ ((-x).toBitVec) := by
      rw [Int64.toBitVec_sub, Int64.toBitVec_neg, BitVec.not_neg]
      rfl
    unfold bitJ at nb ⊢
    rw [e2, BitVec.getLsbD_not, nb]
    simp
abbrev EVL : List (Nat × Nat) := [(108, 999), (109, 999), (110, 999), (16, 62), (16, 63)]
section
variable {ρ : Nat → Nat} {c : Cm} {x0 rm re rb rk rs ro rp rt rw mb km R Bc Bm F : Nat} {a : Int} {h o : Hp} {x1 x2 x3 : Int32}
theorem worthNow_q (hF : 700000 ≤ F) (hA : pmA c EVL) (T : TH ρ c h) (W : WkP ρ x0 rm re rb rk rs ro rp rt rw mb km R Bc Bm a h) (i1 : Rg 0 4095 x1) (ln : x1.toInt < (hI h x0 49).toInt) (a2 : 0 ≤ x2.toInt) (l2 : x2.toInt < 2 * (hI h x0 13).toInt ^ (hI h rm x1.toNatClampNeg).toNatClampNeg) (i3 : Rg 0 2000000 x3) : Sat (sX15_worthNow F h x0 x1 x2 x3) (fun o => TH ρ c o.2 ∧ Rg (-1000000) 1000000 o.1 ∧ Kf ρ EVL h o.2) := by
  have W' := W
  obtain ⟨Q, ⟨e58, e61, e51, e53, e52, e4, e13, e14⟩, ⟨qp, qt, qw, qmb, qkm, qR, qBc, qBm⟩, P, A, D, na, GG⟩ := W'
  have Q' := Q
  obtain ⟨⟨r0, qm, qe, qb, qk, qs, qo⟩, ⟨e46, e47, e48, e55, e56, e57⟩⟩ := Q'
  have c1 := clamp_i i1.1
  have im := thI T qm (k := 99) (i := x1.toNatClampNeg) (lo := 0) (hi := 5) rfl
  have cm := clamp_i im.1
  have m5 := im.2
  have is := thI T r0 (k := 16) (i := 13) (lo := 9) (hi := 64) rfl
  have s9 := is.1
  have s64 := is.2
  have z0 : (0 : Int32).toInt = 0 := rfl
  have B3 := P.2.2.1 rm rb e46 e48 x1.toNatClampNeg (by omega)
  have B2 := P.2.1.2
  have ib0 := (thI T qb (k := 101) (i := x1.toNatClampNeg) (lo := 0) (hi := 600000) rfl).1
  -- the answer
  have b186 : ∀ {g : Hp}, TH ρ c g → Kf ρ EVL h g → Sat (sX15_worthNow_186 F g x0 x3) (fun o => TH ρ c o.2 ∧ Rg (-1000000) 1000000 o.1 ∧ Kf ρ EVL h o.2) := fun {g} Tg Kg => by
    unfold sX15_worthNow_186 sX15_worthNow_217
    exact s_br (fun _ => s_br (fun _ => s_some ⟨Tg, rg_m (rg_b rfl : Rg 0 0 (0 : Int32)) (by decide), Kg⟩) (fun _ => s_some ⟨Tg, rg_sub i3 (rg_b rfl : Rg 1000000 1000000 (1000000 : Int32)) (by decide), Kg⟩)) (fun _ => s_some ⟨Tg, rg_sub (rg_b rfl : Rg 1000000 1000000 (1000000 : Int32)) i3 (by decide), Kg⟩)
  have wm : ∀ {g : Hp}, Kf ρ EVL h g → WkP ρ x0 rm re rb rk rs ro rp rt rw mb km R Bc Bm a g := fun Kg => wkp_k T (kf_m Kg rfl) W
  -- man by man
  have l73 : ∀ (f : Nat) {g : Hp} {x7 x8 : Int32}, TH ρ c g → Kf ρ EVL h g → (∀ i : Nat, (i : Int) < (hI h rm x1.toNatClampNeg).toInt → (hI g rt i).toInt = dg (x2.toInt / 2) (hI h x0 13).toInt i) → 0 ≤ x8.toInt → x8.toInt ≤ (hI h rm x1.toNatClampNeg).toInt → x7.toInt = 2 * (hI h x0 13).toInt ^ x8.toNatClampNeg → (6 - x8.toInt).toNat < f → Sat (sX15_worthNow_73 F f g x0 x1 x2 x3 (hI h rm x1.toNatClampNeg) (x2 &&& (1 : Int32)) x7 x8) (fun o => TH ρ c o.2 ∧ Rg (-1000000) 1000000 o.1 ∧ Kf ρ EVL h o.2) := by
    intro f
    induction f with
    | zero => intros; omega
    | succ f ih =>
      intro g x7 x8 Tg Kg st a8 b8 e7 hf
      have Wg := wm Kg
      have c8 := clamp_i a8
      rw [sX15_worthNow_73]
      unfold sX15_worthNow_123
      refine s_br (fun _ => b186 Tg Kg) (fun n1 => ?_)
      have l8 := nle_i n1
      have i8 : Rg 0 4 x8 := ⟨a8, by omega⟩
      obtain ⟨ix, ixn⟩ := ix5 i1 i8
      have ny := nc_s i8 (by decide)
      have pw := powm (s := (hI h x0 13).toInt) (by omega) x8.toNatClampNeg ((hI h rm x1.toNatClampNeg).toNatClampNeg - x8.toNatClampNeg)
      have en : x8.toNatClampNeg + ((hI h rm x1.toNatClampNeg).toNatClampNeg - x8.toNatClampNeg) = (hI h rm x1.toNatClampNeg).toNatClampNeg := by omega
      rw [en] at pw
      have p1 := (powm (s := (hI h x0 13).toInt) (by omega) 0 x8.toNatClampNeg).1
      rw [Int.pow_zero, Nat.zero_add] at p1
      -- move by move
      have l125 : ∀ (ff : Nat) {g : Hp} {x9 : Int64}, TH ρ c g → Kf ρ EVL h g → (∀ i : Nat, (i : Int) < (hI h rm x1.toNatClampNeg).toInt → (hI g rt i).toInt = dg (x2.toInt / 2) (hI h x0 13).toInt i) → (∀ t, t < 64 → bitJ x9 t = true → Gd h rm re R (hI h x0 13).toInt x1.toNatClampNeg (x2.toInt / 2) x8.toNatClampNeg t ∧ owS h re x1.toNatClampNeg x8.toNatClampNeg = (x2 &&& (1 : Int32)).toInt) → pcJ x9 64 < ff → Sat (sX15_worthNow_125 F (sX15_worthNow_73 F f) ff g x0 x1 x2 x3 (hI h rm x1.toNatClampNeg) (x2 &&& (1 : Int32)) x7 x8 x9) (fun o => TH ρ c o.2 ∧ Rg (-1000000) 1000000 o.1 ∧ Kf ρ EVL h o.2) := by
        intro ff
        induction ff with
        | zero => intros; omega
        | succ ff ih2 =>
          intro g x9 Tg Kg st B hp
          have Wg := wm Kg
          rw [sX15_worthNow_125]
          have k13 := kfI 13 Kg r0
          have nx : Sat (sX15_worthNow_171 F (sX15_worthNow_73 F f) g x0 x1 x2 x3 (hI h rm x1.toNatClampNeg) (x2 &&& (1 : Int32)) x7 x8) (fun o => TH ρ c o.2 ∧ Rg (-1000000) 1000000 o.1 ∧ Kf ρ EVL h o.2) := by
            unfold sX15_worthNow_171
            refine s_q (fun u eu => s_q (fun y ey => ?_))
            have ey2 : y.toInt = x8.toInt + 1 := by rw [ey]; exact ny.2
            have ey3 : y.toNatClampNeg = x8.toNatClampNeg + 1 := by rw [ey]; exact ny.1
            clear ey
            have mu : x7.toInt * (hI h x0 13).toInt ≤ 600000 * 64 := Int.mul_le_mul (by omega) s64 (by omega) (by decide)
            have mu0 : 0 ≤ x7.toInt * (hI h x0 13).toInt := Int.mul_nonneg (by omega) (by omega)
            have eu2 : u.toInt = x7.toInt * (hI h x0 13).toInt := by rw [eu, k13, tm (by omega)]
            refine ih Tg Kg st (by omega) (by omega) ?_ (by omega)
            rw [eu2, e7, ey3, Int.pow_succ, Int.mul_assoc]
          refine s_br (fun _ => nx) (fun nz => ?_)
          have nz9 : ¬ x9 = 0 := fun w => nz (by rw [w]; rfl)
          refine s_br (fun _ => ?_) (fun _ => nx)
          refine s_dd (zJ13_numberOfTrailingZeros_95d88 hF Tg nz9) (fun o3 eq3 ⟨e3, i3'⟩ => ?_)
          rw [e3]
          obtain ⟨_, k, k64, kb, kv⟩ := ntz_q nz9 eq3
          have ck := clamp_i i3'.1
          have ekk : o3.1.toNatClampNeg = k := by omega
          obtain ⟨g1, g2⟩ := B k k64 kb
          refine s_q (fun v4 ev4 => ?_)
          obtain ⟨sub, k2, k264, k2b, k2o⟩ := low_off nz9
          rw [← ev4] at sub k2o
          clear ev4
          have km' := kfI x1.toNatClampNeg Kg qm
          have ke := fun i => kfI i Kg qe
          refine s_cVfq (S := fS EML []) (P := fun o => Kf ρ EML g o) Tg (fs_sub (pmA_s hA rfl) fs_n) (meetAll_q (x6 := x3) hF (pmA_s fs_a rfl) (th_in _ Tg) Wg i1 (by rw [kfI 49 Kg r0]; exact ln) a2 (by rw [k13, km']; exact l2) a8 (by rw [km']; exact l8) i3'.1 (by rw [k13]; exact e7) (fun i hi => by rw [km'] at hi; rw [k13]; exact st i hi) (by unfold owS; rw [ke]; exact g2) ?_) (fun o5 T5 f5 K5 => ?_)
          · unfold Gd
            rw [km', k13, kfI 10 Kg qR, ekk]
            simp only [ke]
            exact g1
          · refine ih2 T5 (kf_t Kg (kf_m K5 rfl)) (fun i hi => by rw [kfI i K5 qt]; exact st i hi) (fun t t64 bt => B t t64 (sub t bt)) ?_
            have := (pc_lt sub k2b k2o 64).2 k264
            omega
      have empty : Sat (sX15_worthNow_125 F (sX15_worthNow_73 F f) F g x0 x1 x2 x3 (hI h rm x1.toNatClampNeg) (x2 &&& (1 : Int32)) x7 x8 (0 : Int64)) (fun o => TH ρ c o.2 ∧ Rg (-1000000) 1000000 o.1 ∧ Kf ρ EVL h o.2) := l125 F Tg Kg st (fun t _ bt => by
        have : bitJ (0 : Int64) t = false := BitVec.getLsbD_zero
        rw [this] at bt
        exact absurd bt (by decide)) (by have := pc_le (0 : Int64) 64; omega)
      refine s_br (fun _ => ?_) (fun _ => b186 Tg Kg)
      refine s_ref Wg.1.2.2.1 ?_
      refine s_gd (by rw [thN Tg qe (k := 100) (n := 20480) rfl (by decide)]; exact rg_inB ix (by decide)) ?_
      unfold sX15_sideOf
      refine s_cl (s_some ?_)
      dsimp only
      rw [ixn, kfI _ Kg qe]
      refine s_br (fun os => ?_) (fun _ => empty)
      have own : owS h re x1.toNatClampNeg x8.toNatClampNeg = (x2 &&& (1 : Int32)).toInt := by unfold owS; rw [os]
      refine s_ref Wg.2.1.2.2.2.2.1 ?_
      have e49 := kfI 49 Kg r0
      have k13 := kfI 13 Kg r0
      have kmm := kfI x1.toNatClampNeg Kg qm
      have d1 := (Wg.2.2.2.2.2.1 rm mb Wg.1.2.1 Wg.2.1.2.2.2.1 x1.toNatClampNeg (by rw [e49]; omega)).1
      have ibm := (thI Tg qmb (k := 104) (i := x1.toNatClampNeg) (lo := 0) (hi := 1500000) rfl).1
      have q0 : 0 ≤ x2.toInt / 2 := by omega
      have qW : x2.toInt / 2 < (hI g x0 13).toInt ^ (hI g rm x1.toNatClampNeg).toNatClampNeg := by rw [k13, kmm]; omega
      have mub : (hI g rm x1.toNatClampNeg).toInt * (x2.toInt / 2) ≤ (hI g rm x1.toNatClampNeg).toInt * (hI g x0 13).toInt ^ (hI g rm x1.toNatClampNeg).toNatClampNeg := Int.mul_le_mul_of_nonneg_left (by omega) (by rw [kmm]; exact im.1)
      refine s_dd (maskOf_q (W := (hI g x0 13).toInt ^ (hI g rm x1.toNatClampNeg).toNatClampNeg) hF Tg r0 i1 Wg.1.2.1 Wg.2.1.2.2.2.1 Wg.1.2.2.1 a2 (by omega) (by omega) a8 (by rw [kmm]; exact l8) (by rw [kfI _ Kg qe, os]; exact fun w => absurd (lt_i w) (by omega))) (fun o8 eq8 ⟨e8, i8'⟩ => ?_)
      have mx := (mask_x i1 (by rw [kmm]; exact im) Wg.1.2.1 Wg.2.1.2.2.2.1 Wg.1.2.2.1 a2 a8 ibm (by omega) eq8).2
      rw [e8]
      refine s_gd (by rw [thN Tg qkm (k := 103) (n := 1500000) rfl (by decide)]; exact rg_inB i8' (by decide)) ?_
      refine l125 F Tg Kg st (fun t t64 bt => ?_) (by have := pc_le (hJ g km o8.1.toNatClampNeg) 64; omega)
      refine ⟨?_, own⟩
      have ci := clamp_i i8'.1
      have og : owS g re x1.toNatClampNeg x8.toNatClampNeg = (x2 &&& (1 : Int32)).toInt := by unfold owS; rw [kfI _ Kg qe, os]
      have gg := Wg.2.2.2.2.2.2.2 x1.toNatClampNeg (x2.toInt / 2) x8.toNatClampNeg t (by rw [e49]; omega) q0 qW (by rw [kmm]; omega) t64 (by
        rw [og]
        have : (mkx g rm mb re x1.toNatClampNeg (x2.toInt / 2) (x2 &&& (1 : Int32)).toInt x8.toNatClampNeg).toNat = o8.1.toNatClampNeg := by omega
        rw [this]
        exact bt)
      unfold Gd at gg ⊢
      rw [kmm, k13, kfI 10 Kg qR] at gg
      simp only [fun i => kfI i Kg qe] at gg
      exact gg
  -- where the men stand
  have l21 : ∀ (f : Nat) {g : Hp} {x6 x7 : Int32}, TH ρ c g → Kf ρ EVL h g → (∀ i : Nat, (i : Int) < x7.toInt → (hI g rt i).toInt = dg (x2.toInt / 2) (hI h x0 13).toInt i) → 0 ≤ x7.toInt → x7.toInt ≤ (hI h rm x1.toNatClampNeg).toInt → x6.toInt = rsD (x2.toInt / 2) (hI h x0 13).toInt x7.toNatClampNeg → 0 ≤ x6.toInt → (6 - x7.toInt).toNat < f → Sat (sX15_worthNow_21 F f g x0 x1 x2 x3 (hI h rm x1.toNatClampNeg) (x2 &&& (1 : Int32)) x6 x7) (fun o => TH ρ c o.2 ∧ Rg (-1000000) 1000000 o.1 ∧ Kf ρ EVL h o.2) := by
    intro f
    induction f with
    | zero => intros; omega
    | succ f ih =>
      intro g x6 x7 Tg Kg st a7 b7 e6 a6 hf
      have c7 := clamp_i a7
      rw [sX15_worthNow_21]
      have k13 := kfI 13 Kg r0
      refine s_br (fun l => ?_) (fun n1 => ?_)
      · have l := le_i l
        refine s_hq (th_wI Tg r0 (k := 16) (i := 62) (lo := 0) (hi := 1) rfl (rg_m (rg_b rfl : Rg 0 0 (0 : Int32)) (by decide)) (by decide) (by decide) (pm_a hA rfl)) (fun h2 T2 w2 => ?_)
        refine s_hq (th_wI T2 r0 (k := 16) (i := 63) (lo := 0) (hi := 1) rfl (rg_m (rg_b rfl : Rg 1 1 (1 : Int32)) (by decide)) (by decide) (by decide) (pm_a hA rfl)) (fun h3 T3 w3 => ?_)
        have K3 : Kf ρ EVL g h3 := kf_t (kf_wI w2 r0) (kf_wI w3 r0)
        refine l73 F T3 (kf_t Kg K3) (fun i hi => ?_) (by decide) (by rw [z0]; exact im.1) ?_ (by rw [z0]; omega)
        · rw [w3, r_I, if_neg (ne_r qt r0 (by decide)), w2, r_I, if_neg (ne_r qt r0 (by decide))]
          exact st i (by omega)
        · show (2 : Int) = 2 * (hI h x0 13).toInt ^ 0
          rw [Int.pow_zero]
          rfl
      · have l7 := nle_i n1
        have i7 : Rg 0 4 x7 := ⟨a7, by omega⟩
        have ny := nc_s i7 (by decide)
        have isg : Rg 9 64 (hI g x0 13) := by rw [k13]; exact is
        have n0 : ¬ hI g x0 13 = 0 := fun z => by have := isg.1; rw [z] at this; exact absurd this (by decide)
        have i6 : Rg 0 2147483647 x6 := ⟨a6, (rg_top x6).2⟩
        have ed : (x6 - x6 / (hI g x0 13) * (hI g x0 13)).toInt = x6.toInt % (hI g x0 13).toInt := tr i6 isg (by decide)
        have m1 := Int.emod_nonneg x6.toInt (show (hI g x0 13).toInt ≠ 0 by have := isg.1; omega)
        have m2 := Int.emod_lt_of_pos x6.toInt (show 0 < (hI g x0 13).toInt by have := isg.1; omega)
        have sg := isg.2
        refine s_ref (by rw [kfR 61 Kg r0]; exact e61) (s_gd n0 ?_)
        refine s_gd (by rw [thN Tg qt (k := 110) (n := 5) rfl (by decide)]; exact rg_inB i7 (by decide)) ?_
        refine s_hq (th_wI Tg qt (k := 110) (lo := 0) (hi := 63) rfl ⟨by rw [ed]; exact m1, by rw [ed]; omega⟩ (by decide) (by decide) (pm_a hA rfl)) (fun h7 T7 w7 => ?_)
        have K7 : Kf ρ EVL g h7 := kf_wI w7 qt
        have k137 := kfI 13 K7 r0
        rw [k137]
        refine s_gd n0 ?_
        refine s_q (fun v ev => s_q (fun y ey => ?_))
        have ey2 : y.toInt = x7.toInt + 1 := by rw [ey]; exact ny.2
        have ey3 : y.toNatClampNeg = x7.toNatClampNeg + 1 := by rw [ey]; exact ny.1
        have ev2 : v.toInt = x6.toInt / (hI g x0 13).toInt := by rw [ev]; exact td i6 isg (by decide)
        clear ey ev
        have d0 : 0 ≤ x6.toInt / (hI g x0 13).toInt := Int.ediv_nonneg a6 (by have := isg.1; omega)
        refine ih T7 (kf_t Kg K7) (fun i hi => ?_) (by omega) (by omega) (by rw [ey3, ev2, e6, k13]; rfl) (by omega) (by omega)
        rw [w7, r_I]
        by_cases w : i = x7.toNatClampNeg
        · rw [if_pos ⟨rfl, w⟩, ed, e6, k13, w]
          rfl
        · rw [if_neg (fun z => w z.2)]
          exact st i (by omega)
  unfold sX15_worthNow
  refine s_ref e46 (s_gd (by rw [thN T qm (k := 99) (n := 4096) rfl (by decide)]; exact rg_inB i1 (by decide)) ?_)
  refine s_q (fun v3 e3 => s_q (fun v4 e4' => s_q (fun v5 e5 => ?_)))
  rw [e3, e4']
  have e52' : v5.toInt = x2.toInt / 2 := by rw [e5]; exact ti_shr1
  exact l21 F T kf_r (fun i hi => absurd hi (by rw [z0]; omega)) (by decide) (by rw [z0]; exact im.1) (by rw [e52']; rfl) (by omega) (by rw [z0]; omega)
end
end
section
/-! a solution is worked out: each round that goes on leaves fewer open states -/
def opC (h : Hp) (r : Nat) : Nat → Nat
  | 0 => 0
  | n + 1 => opC h r n + if hI h r n = (2000000 : Int32) then 1 else 0
theorem op_le {h : Hp} {r : Nat} : ∀ n, opC h r n ≤ n := by
  intro n
  induction n with
  | zero => exact Nat.le_refl _
  | succ n ih =>
    show opC h r n + (if hI h r n = (2000000 : Int32) then 1 else 0) ≤ n + 1
    split <;> omega
theorem op_eq {h o : Hp} {r : Nat} (e : ∀ i, hI o r i = hI h r i) : ∀ n, opC o r n = opC h r n := by
  intro n
  induction n with
  | zero => rfl
  | succ n ih =>
    show opC o r n + (if hI o r n = (2000000 : Int32) then 1 else 0) = opC h r n + (if hI h r n = (2000000 : Int32) then 1 else 0)
    rw [ih, e]
theorem op_w {h o : Hp} {r j : Nat} {v : Int32} (w : o = wI h r j v) (ov : ¬ v = (2000000 : Int32)) (oj : hI h r j = (2000000 : Int32)) : ∀ n, opC o r n + (if j < n then 1 else 0) = opC h r n := by
  intro n
  induction n with
  | zero => rw [if_neg (by omega)]; rfl
  | succ n ih =>
    show opC o r n + (if hI o r n = (2000000 : Int32) then 1 else 0) + _ = opC h r n + (if hI h r n = (2000000 : Int32) then 1 else 0)
    by_cases z : n = j
    · subst z
      have e : hI o r n = v := by rw [w, r_I, if_pos ⟨rfl, rfl⟩]
      rw [e, if_neg ov, oj, if_pos rfl, if_pos (by omega)]
      rw [if_neg (by omega)] at ih
      omega
    · have e : hI o r n = hI h r n := by rw [w, r_I, if_neg (fun y => z y.2)]
      rw [e]
      by_cases q : j < n
      · rw [if_pos q] at ih
        rw [if_pos (show j < n + 1 by omega)]
        omega
      · rw [if_neg q] at ih
        rw [if_neg (show ¬ j < n + 1 by omega)]
        omega
theorem cmp_lt {x : Int32} {y : Int64} (n : ¬ 0 ≤ lg_cmp x.toInt64 y) : x.toInt < y.toInt := by
  have e : x.toInt64.toInt = x.toInt := Int32.toInt_toInt64 x
  rw [← e]
  generalize x.toInt64 = z at n
  unfold lg_cmp at n
  by_cases q : z > y
  · rw [if_pos q] at n; exact absurd (by decide) n
  · rw [if_neg q] at n
    by_cases q2 : z = y
    · rw [if_pos q2] at n; exact absurd (by decide) n
    · have q' : ¬ y < z := q
      rw [Int64.lt_iff_toInt_lt] at q'
      have : ¬ z.toInt = y.toInt := fun w => q2 (Int64.toInt_inj.mp w)
      omega
section
variable {ρ : Nat → Nat} {c : Cm} {x0 rm re rb rk rs ro rp rt rw mb km R Bc Bm F : Nat} {a : Int} {h o : Hp}
theorem workOut_q (hF : 2000000 ≤ F) (hA : pmA c EWL) (T : TH ρ c h) (W : WkP ρ x0 rm re rb rk rs ro rp rt rw mb km R Bc Bm a h) : Sat (sX15_workOut F h x0) (fun o => TH ρ c o ∧ Kf ρ EWL h o) := by
  have W' := W
  obtain ⟨Q, ⟨e58, e61, e51, e53, e52, e4, e13, e14⟩, ⟨qp, qt, qw, qmb, qkm, qR, qBc, qBm⟩, P, A, D, na, GG⟩ := W'
  have Q' := Q
  obtain ⟨⟨r0, qm, qe, qb, qk, qs, qo⟩, ⟨e46, e47, e48, e55, e56, e57⟩⟩ := Q'
  have z0 : (0 : Int32).toInt = 0 := rfl
  have is := thI T r0 (k := 16) (i := 13) (lo := 9) (hi := 64) rfl
  have s9 := is.1
  have B2 := P.2.1
  have n4 := thI T r0 (k := 16) (i := 49) (lo := 0) (hi := 4096) rfl
  have n41 := n4.2
  have wm : ∀ {g : Hp}, Kf ρ EWL h g → WkP ρ x0 rm re rb rk rs ro rp rt rw mb km R Bc Bm a g := fun Kg => wkp_k T Kg W
  -- the last loop
  have l111 : ∀ (f : Nat) {g : Hp} {x3 : Int32}, TH ρ c g → Kf ρ EWL h g → 0 ≤ x3.toInt → x3.toInt ≤ 600000 → (600001 - x3.toInt).toNat < f → Sat (sX15_workOut_111 F f g x0 x3) (fun o => TH ρ c o ∧ Kf ρ EWL h o) := by
    intro f
    induction f with
    | zero => intros; omega
    | succ f ih =>
      intro g x3 Tg Kg a3 b3 hf
      rw [sX15_workOut_111]
      unfold sX15_workOut_148
      have Wg := wm Kg
      have e51g := Wg.2.1.2.2.1
      refine s_br (fun _ => s_some ⟨Tg, Kg⟩) (fun n1 => ?_)
      have l3 : x3.toInt < (hJ g x0 59).toInt := cmp_lt n1
      have j59 := kfJ 59 Kg r0
      rw [j59] at l3
      have i3 : Rg 0 599999 x3 := ⟨a3, by have := B2.2; omega⟩
      have i32 := i3.2
      have ny := nc_s i3 (by decide)
      have gw : inB x3 (hN g rw) := by rw [thN Tg qw (k := 102) (n := 600000) rfl (by decide)]; exact rg_inB i3 (by decide)
      have fin : ∀ v : Int32, Rg (-1000000) 3000000 v → Sat (gd (inB x3 (hN g rw)) <| nm (wI g rw x3.toNatClampNeg v) fun h_2 => nm (x3 + (1 : Int32)) fun v_3 => sX15_workOut_111 F f h_2 x0 v_3) (fun o => TH ρ c o ∧ Kf ρ EWL h o) := fun v iv => by
        refine s_gd gw ?_
        refine s_hq (th_wI Tg qw (k := 102) (lo := -1000000) (hi := 3000000) rfl iv (by decide) (by decide) (pm_a hA rfl)) (fun h2 T2 w2 => ?_)
        refine s_q (fun y ey => ?_)
        have ey2 : y.toInt = x3.toInt + 1 := by rw [ey]; exact ny.2
        clear ey
        exact ih T2 (kf_t Kg (kf_wI w2 qw)) (by omega) (by omega) (by omega)
      refine s_ref e51g (s_ref e51g (s_gd gw ?_))
      refine s_br (fun _ => fin _ (rg_m (rg_b rfl : Rg 0 0 (0 : Int32)) (by decide))) (fun _ => ?_)
      exact s_ref e51g (s_gd gw (fin _ (thI Tg qw (k := 102) (lo := -1000000) (hi := 3000000) rfl)))
  -- round by round
  have l4 : ∀ (f : Nat) {g : Hp} {x1 x2 : Int32}, TH ρ c g → Kf ρ EWL h g → 1 ≤ x1.toInt → 0 < f → (¬ x2 = 0 → x1.toInt + (opC g rw 600000 : Int) ≤ 600001 ∧ opC g rw 600000 + 1 < f) → Sat (sX15_workOut_4 F f g x0 x1 x2) (fun o => TH ρ c o ∧ Kf ρ EWL h o) := by
    intro f
    induction f with
    | zero => intros; omega
    | succ f ih =>
      intro g x1 x2 Tg Kg a1 _ cnt
      rw [sX15_workOut_4]
      refine s_br (fun _ => l111 F Tg Kg (by decide) (by decide) (by rw [z0]; omega)) (fun nz => ?_)
      obtain ⟨ct1, ct2⟩ := cnt nz
      generalize hC : opC g rw 600000 = C0 at ct1 ct2
      have i1 : Rg 0 2000000 x1 := ⟨by omega, by omega⟩
      have n1' := nc_s (x := x1) (b := 2000000) i1 (by decide)
      -- set by set
      have l12 : ∀ (ff : Nat) {g : Hp} {x2 x3 : Int32}, TH ρ c g → Kf ρ EWL h g → 0 ≤ x3.toInt → (x2 = 0 → opC g rw 600000 ≤ C0) → (¬ x2 = 0 → opC g rw 600000 < C0) → (4097 - x3.toInt).toNat < ff → Sat (sX15_workOut_12 F (sX15_workOut_4 F f) ff g x0 x1 x2 x3) (fun o => TH ρ c o ∧ Kf ρ EWL h o) := by
        intro ff
        induction ff with
        | zero => intros; omega
        | succ ff ih2 =>
          intro g x2 x3 Tg Kg a3 q1 q2 hf
          have Wg := wm Kg
          have k49 := kfI 49 Kg r0
          have k13 := kfI 13 Kg r0
          rw [sX15_workOut_12]
          refine s_br (fun _ => ?_) (fun n1 => ?_)
          · refine s_q (fun y ey => ?_)
            have ey2 : y.toInt = x1.toInt + 1 := by rw [ey]; exact n1'.2
            clear ey
            refine ih Tg Kg (by omega) (by omega) (fun nx => ?_)
            have := q2 nx
            exact ⟨by omega, by omega⟩
          · have l3 := nle_i n1
            rw [k49] at l3
            have i3 : Rg 0 4095 x3 := ⟨a3, by omega⟩
            have c3 := clamp_i a3
            have ny3 := nc_s i3 (by decide)
            have km' := kfI x3.toNatClampNeg Kg qm
            have B3 := P.2.2.1 rm rb e46 e48 x3.toNatClampNeg (by omega)
            have ib := thI T qb (k := 101) (i := x3.toNatClampNeg) (lo := 0) (hi := 600000) rfl
            have ib0 := ib.1
            have B22 := B2.2
            refine s_cl (s_imp (sizeOf_q (x1 := x3) (rm := rm) (by omega) Tg r0 i3 Wg.1.2.1 (by rw [k13, km']; omega)) (fun o3 ⟨e3, v3⟩ => ?_))
            rw [e3]
            rw [k13, km'] at v3
            -- state by state
            have l30 : ∀ (f3 : Nat) {g : Hp} {x2 x5 : Int32}, TH ρ c g → Kf ρ EWL h g → 0 ≤ x5.toInt → (x2 = 0 → opC g rw 600000 ≤ C0) → (¬ x2 = 0 → opC g rw 600000 < C0) → (600001 - x5.toInt).toNat < f3 → Sat (sX15_workOut_30 F (sX15_workOut_4 F f) (sX15_workOut_12 F (sX15_workOut_4 F f) ff) f3 g x0 x1 x2 x3 o3.1 x5) (fun o => TH ρ c o ∧ Kf ρ EWL h o) := by
              intro f3
              induction f3 with
              | zero => intros; omega
              | succ f3 ih3 =>
                intro g x2 x5 Tg Kg a5 q1 q2 hf3
                have Wg := wm Kg
                have k13 := kfI 13 Kg r0
                rw [sX15_workOut_30]
                refine s_br (fun _ => ?_) (fun n5 => ?_)
                · refine s_q (fun y ey => ?_)
                  have ey2 : y.toInt = x3.toInt + 1 := by rw [ey]; exact ny3.2
                  clear ey
                  exact ih2 Tg Kg (by omega) q1 q2 (by omega)
                have l5 := nle_i n5
                have i5 : Rg 0 599999 x5 := ⟨a5, by omega⟩
                have ny5 := nc_s i5 (by decide)
                refine s_ref Wg.1.2.2.2.1 ?_
                refine s_gd (by rw [thN Tg qb (k := 101) (n := 4096) rfl (by decide)]; exact rg_inB i3 (by decide)) ?_
                refine s_q (fun v5 ev => ?_)
                have kb' := kfI x3.toNatClampNeg Kg qb
                have ev2 : v5.toInt = (hI h rb x3.toNatClampNeg).toInt + x5.toInt := by rw [ev, kb', ta (by omega)]
                clear ev
                have iv5 : Rg 0 599999 v5 := ⟨by omega, by omega⟩
                have c5 := clamp_i iv5.1
                refine s_ref Wg.2.1.2.2.1 ?_
                refine s_gd (by rw [thN Tg qw (k := 102) (n := 600000) rfl (by decide)]; exact rg_inB iv5 (by decide)) ?_
                unfold sX15_workOut_73 sX15_workOut_91
                have nxt : ∀ {g2 : Hp} {y2 : Int32}, TH ρ c g2 → Kf ρ EWL h g2 → (y2 = 0 → opC g2 rw 600000 ≤ C0) → (¬ y2 = 0 → opC g2 rw 600000 < C0) → Sat (nm (x5 + (1 : Int32)) fun v_1 => sX15_workOut_30 F (sX15_workOut_4 F f) (sX15_workOut_12 F (sX15_workOut_4 F f) ff) f3 g2 x0 x1 y2 x3 o3.1 v_1) (fun o => TH ρ c o ∧ Kf ρ EWL h o) := fun {g2 y2} T2 K2 p1 p2 => by
                  refine s_q (fun y ey => ?_)
                  have ey2 : y.toInt = x5.toInt + 1 := by rw [ey]; exact ny5.2
                  clear ey
                  exact ih3 T2 K2 (by omega) p1 p2 (by omega)
                refine s_br (fun op => ?_) (fun _ => ?_)
                · refine s_cIfq (S := fS EVL []) (lo := -1000000) (hi := 1000000) (P := fun o => Kf ρ EVL g o.2) Tg (fs_sub (pmA_s hA rfl) fs_n) (s_imp (worthNow_q (by omega) fs_a (th_in _ Tg) Wg i3 (by rw [kfI 49 Kg r0]; exact l3) a5 (by rw [k13, kfI _ Kg qm]; omega) i1) (fun o w => ⟨⟨w.1, w.2.1⟩, w.2.2⟩)) (fun o9 T9 i9 f9 K9 => ?_)
                  have K9' : Kf ρ EWL h o9.2 := kf_t Kg (kf_m K9 rfl)
                  have ow : ∀ i, hI o9.2 rw i = hI g rw i := fun i => kfI i K9 qw
                  have oc : opC o9.2 rw 600000 = opC g rw 600000 := op_eq ow _
                  refine s_br (fun _ => nxt T9 K9' (fun w => by rw [oc]; exact q1 w) (fun w => by rw [oc]; exact q2 w)) (fun _ => ?_)
                  refine s_ref (wm K9').2.1.2.2.1 ?_
                  refine s_gd (by rw [thN T9 qw (k := 102) (n := 600000) rfl (by decide)]; exact rg_inB iv5 (by decide)) ?_
                  refine s_hq (th_wI T9 qw (k := 102) (lo := -1000000) (hi := 3000000) rfl (rg_m i9 (by decide)) (by decide) (by decide) (pm_a hA rfl)) (fun h4 T4 w4 => ?_)
                  have o4 := op_w w4 (fun z => by have := i9.2; rw [z] at this; exact absurd this (by decide)) (by rw [ow]; exact op) 600000
                  rw [if_pos (by have := iv5.2; omega), oc] at o4
                  have le0 : opC g rw 600000 ≤ C0 := by
                    by_cases z : x2 = 0
                    · exact q1 z
                    · have := q2 z; omega
                  exact nxt T4 (kf_t K9' (kf_wI w4 qw)) (fun w => absurd w (by decide)) (fun _ => by omega)
                · exact s_br (fun _ => nxt Tg Kg q1 q2) (fun n => absurd rfl n)
            exact l30 F Tg Kg (by decide) q1 q2 (by rw [z0]; omega)
      exact l12 F Tg Kg (by decide) (fun _ => by omega) (fun w => absurd rfl w) (by rw [z0]; omega)
  unfold sX15_workOut
  have := op_le (h := h) (r := rw) 600000
  exact l4 F T kf_r (by decide) (by omega) (fun _ => ⟨by show (1 : Int) + _ ≤ _; omega, by omega⟩)
end
end
section
/-! solve: all states are begun, and the solution is worked out -/
abbrev EBG : List (Nat × Nat) := [(102, 999), (86, 999), (16, 23), (16, 24), (16, 29), (87, 999), (88, 999), (89, 999), (105, 999), (103, 999), (62, 999), (63, 999), (64, 999), (65, 999), (13, 1), (13, 2), (13, 3), (13, 7), (66, 999), (67, 999), (68, 999), (69, 999), (70, 999), (71, 999), (72, 999), (14, 0)]
section
variable {ρ : Nat → Nat} {c : Cm} {x0 rm re rb rk rs ro rp rt rw mb km R Bc Bm F : Nat} {a : Int} {h o : Hp}
theorem wkp_b (K : Kf ρ EBG h o) (G' : MkG x0 rm mb re km R o) (W : WkP ρ x0 rm re rb rk rs ro rp rt rw mb km R Bc Bm a h) : WkP ρ x0 rm re rb rk rs ro rp rt rw mb km R Bc Bm a o := by
  obtain ⟨⟨⟨r0, qm, qe, qb, qk, qs, qo⟩, ⟨e46, e47, e48, e55, e56, e57⟩⟩, ⟨e58, e61, e51, e53, e52, e4, e13, e14⟩, ⟨qp, qt, qw, qmb, qkm, qR, qBc, qBm⟩, P, A, D, na, G⟩ := W
  refine ⟨⟨⟨r0, qm, qe, qb, qk, qs, qo⟩, ⟨by rw [kfR 46 K r0]; exact e46, by rw [kfR 47 K r0]; exact e47, by rw [kfR 48 K r0]; exact e48, by rw [kfR 55 K r0]; exact e55, by rw [kfR 56 K r0]; exact e56, by rw [kfR 57 K r0]; exact e57⟩⟩, ⟨by rw [kfR 58 K r0]; exact e58, by rw [kfR 61 K r0]; exact e61, by rw [kfR 51 K r0]; exact e51, by rw [kfR 53 K r0]; exact e53, by rw [kfR 52 K r0]; exact e52, by rw [kfR 4 K r0]; exact e4, by rw [kfR 13 K qR]; exact e13, by rw [kfR 14 K qR]; exact e14⟩, ⟨qp, qt, qw, qmb, qkm, qR, qBc, qBm⟩, ?_, ?_, ?_, na, G'⟩
  · exact se_k K r0 qm qe qb qk qs e46 e47 e48 e55 e56 P
  · exact alls_of (kfI 49 K r0) (fun i => kfI i K qm) (fun i => kfI i K qe) (fun i => kfI i K qs) (fun i => kfI i K qk) (kfI 10 K qR) (fun i => kfI i K qBc) (fun i => kfI i K qBm) A
  · intro rm' rb' em' eb' k hk
    rw [kfR 46 K r0] at em'
    rw [kfR 53 K r0] at eb'
    rw [kfI 49 K r0] at hk
    have hz1 := r_eq e46 em'
    subst hz1
    have hz1 := r_eq e53 eb'
    subst hz1
    rw [kfI 13 K r0, kfI 49 K r0]
    simp only [kfI _ K qm, kfI _ K qmb]
    exact D rm' rb' em' eb' k hk
/-- all states are begun, and worked out -/
theorem so_357 (hF : 2000000 ≤ F) (hA : pmA c [(102, 999), (86, 999), (16, 23), (16, 24), (16, 29), (87, 999), (88, 999), (89, 999), (105, 999), (103, 999), (108, 999), (109, 999), (110, 999), (16, 62), (16, 63), (16, 50)]) (hS : pmO c 2560 bS7) (hB : pmO c 2528 bL8) (hL : pmO c 2530 lL8) : ∀ (f : Nat) {g : Hp} {x4 : Int32}, TH ρ c g → WkP ρ x0 rm re rb rk rs ro rp rt rw mb km R Bc Bm a g → SqOk x0 g → hI g R 15 = 0 → 1 ≤ (hI g x0 49).toInt → 0 ≤ x4.toInt → (4097 - x4.toInt).toNat < f → Sat (sX15_solve_357 F f g x0 x4) (fun o => TH ρ c o.2 ∧ EnR x0 o.2) := by
  intro f
  induction f with
  | zero => intros; omega
  | succ f ih =>
    intro g x4 T W sq hz l1 a4 hf
    have W' := W
    obtain ⟨Q, ⟨e58, e61, e51, e53, e52, e4, e13, e14⟩, ⟨qp, qt, qw, qmb, qkm, qR, qBc, qBm⟩, P, A, D, na, GG⟩ := W'
    have Q' := Q
    obtain ⟨⟨r0, qm, qe, qb, qk, qs, qo⟩, ⟨e46, e47, e48, e55, e56, e57⟩⟩ := Q'
    rw [sX15_solve_357]
    unfold sX15_solve_372 sX15_solve_408
    refine s_br (fun _ => ?_) (fun n1 => ?_)
    · refine s_cVfq (S := fS EWL []) (P := fun o => Kf ρ EWL g o) T (fs_sub (pmA_s hA rfl) fs_n) (workOut_q hF fs_a (th_in _ T) W) (fun o2 T2 f2 K2 => ?_)
      have i49 := thI T2 r0 (k := 16) (i := 49) (lo := 0) (hi := 4096) rfl
      refine s_hq (th_wI T2 r0 (k := 16) (i := 50) (lo := 0) (hi := 4096) rfl i49 (by decide) (by decide) (pm_a hA rfl)) (fun h1 T1 w1 => ?_)
      refine s_some ⟨T1, fun _ => ?_⟩
      have W2 := wkp_k T K2 W
      have K1 : Kf ρ [(16, 50)] o2 h1 := kf_wI w1 r0
      refine ⟨se_k K1 r0 qm qe qb qk qs W2.1.2.1 W2.1.2.2.1 W2.1.2.2.2.1 W2.1.2.2.2.2.1 W2.1.2.2.2.2.2.1 W2.2.2.2.1, ?_⟩
      rw [kfI 49 K1 r0, kfI 49 K2 r0]
      exact l1
    · have l4 := nle_i n1
      have s4 := (thI T r0 (k := 16) (i := 49) (lo := 0) (hi := 4096) rfl).2
      have i4 : Rg 0 4095 x4 := ⟨a4, by omega⟩
      have c4 := clamp_i a4
      have ny4 := nc_s i4 (by decide)
      have B3 := P.2.2.1 rm rb e46 e48 x4.toNatClampNeg (by omega)
      have B2 := P.2.1.2
      have ib0 := (thI T qb (k := 101) (i := x4.toNatClampNeg) (lo := 0) (hi := 600000) rfl).1
      refine s_cl (s_imp (sizeOf_q (x1 := x4) (rm := rm) (by omega) T r0 i4 e46 (by omega)) (fun o3 ⟨e3, v3⟩ => ?_))
      rw [e3]
      have l377 : ∀ (ff : Nat) {g2 : Hp} {x6 : Int32}, TH ρ c g2 → WkP ρ x0 rm re rb rk rs ro rp rt rw mb km R Bc Bm a g2 → SqOk x0 g2 → hI g2 R 15 = 0 → hI g2 x0 49 = hI g x0 49 → hI g2 x0 13 = hI g x0 13 → hI g2 rm x4.toNatClampNeg = hI g rm x4.toNatClampNeg → 0 ≤ x6.toInt → (600001 - x6.toInt).toNat < ff → Sat (sX15_solve_377 F (sX15_solve_357 F f) ff g2 x0 x4 o3.1 x6) (fun o => TH ρ c o.2 ∧ EnR x0 o.2) := by
        intro ff
        induction ff with
        | zero => intros; omega
        | succ ff ih2 =>
          intro g2 x6 T2 W2 sq2 hz2 k49 k13 kmm a6 hf2
          rw [sX15_solve_377]
          unfold sX15_solve_392
          refine s_br (fun _ => ?_) (fun n6 => ?_)
          · refine s_q (fun y ey => ?_)
            have ey2 : y.toInt = x4.toInt + 1 := by rw [ey]; exact ny4.2
            clear ey
            exact ih T2 W2 sq2 hz2 (by rw [k49]; exact l1) (by omega) (by omega)
          · have l6 := nle_i n6
            have i6 : Rg 0 599999 x6 := ⟨a6, by omega⟩
            have ny6 := nc_s i6 (by decide)
            refine s_cVfq (S := fS bgA [(2560, bS7), (2528, bL8), (2530, lL8)]) (P := fun o => MkG x0 rm mb re km R o) T2 (fs_sub (pmA_s hA rfl) (fs_c hS (fs_c hB (fs_c hL fs_n)))) (begin_q (a := a) (by omega) fs_a (fs_o (.head _)) (fs_o (.tail _ (.head _))) (fs_o (.tail _ (.tail _ (.head _)))) (th_in _ T2) r0 sq2 W2.2.2.2.1 W2.1.2.1 W2.2.1.2.2.2.1 W2.1.2.2.1 W2.2.1.2.2.2.2.1 qkm W2.2.1.2.2.2.2.2.1 hz2 i4 (by rw [k49]; exact l4) a6 (by rw [k13, kmm]; omega) W2.2.2.2.2.2.1 na W2.2.2.2.2.2.2.2) (fun o5 T5 f5 G5 => ?_)
            have K5 : Kf ρ EBG g2 o5 := kf_of f5 rfl
            refine s_q (fun y ey => ?_)
            have ey2 : y.toInt = x6.toInt + 1 := by rw [ey]; exact ny6.2
            clear ey
            exact ih2 T5 (wkp_b K5 G5 W2) (sq_fr T2 r0 f5 (fun _ => rfl) (fun _ => rfl) (fun _ => rfl) sq2) (by rw [kfI 15 K5 qR]; exact hz2) (by rw [kfI 49 K5 r0]; exact k49) (by rw [kfI 13 K5 r0]; exact k13) (by rw [kfI _ K5 qm]; exact kmm) (by omega) (by omega)
      have z0 : (0 : Int32).toInt = 0 := rfl
      exact l377 F T W sq hz rfl rfl rfl (by decide) (by rw [z0]; omega)
end
end
