/-! all that a move leads to is met: no state is missing -/
theorem mbM {k d n m : Int} (h1 : -m ≤ k ∧ k ≤ m) (h2 : -n ≤ d ∧ d ≤ n) (hm : 0 ≤ m) : -(m * n) ≤ k * d ∧ k * d ≤ m * n := mb h1 h2 hm
theorem and1_i {x : Int32} (i : 0 ≤ x.toInt) : (x &&& (1 : Int32)).toInt = x.toInt % 2 := by
  obtain ⟨j, ej, tj, hj⟩ := rg_nI (a := 0) (b := x.toInt) ⟨i, Int.le_refl _⟩ (Int.le_refl 0)
  have ek : (1 : Int32) = nI 1 := rfl
  have hz : ∀ i, i < 2 ^ 31 → (nI i).toBitVec.toNat = i := fun i hi => by
    show (BitVec.ofNat 32 i).toNat = i
    rw [BitVec.toNat_ofNat]
    exact Nat.mod_eq_of_lt (by omega)
  have m : j &&& 1 = j % 2 := Nat.and_one_is_mod j
  have eo : x &&& (1 : Int32) = nI (j % 2) := by
    rw [ej, ek]
    apply Int32.toBitVec_inj.mp
    apply BitVec.eq_of_toNat_eq
    show ((nI j).toBitVec &&& (nI 1).toBitVec).toNat = (nI (j % 2)).toBitVec.toNat
    rw [BitVec.toNat_and, hz j hj, hz 1 (by decide), hz _ (by omega), m]
  rw [eo, z_toInt (by omega), tj]
  omega
abbrev EML : List (Nat × Nat) := [(108, 999), (109, 999), (16, 62), (16, 63)]
section
variable {ρ : Nat → Nat} {c : Cm} {x0 rm re rb rk rs ro rp rt rw mb km R Bc Bm F : Nat} {a : Int} {h o : Hp} {x1 x2 x3 x4 x5 x6 : Int32}
theorem kf_jp (J : Jp ro rp h o) (qo : ρ ro = 108) (qp : ρ rp = 109) : Kf ρ EML h o := fun a i n x => by
  have n1 : ¬ a = ro := fun w => by rw [w, qo] at x; exact absurd x (by show ¬ true = false; decide)
  have n2 : ¬ a = rp := fun w => by rw [w, qp] at x; exact absurd x (by show ¬ true = false; decide)
  exact ⟨J.2.2.2 a i n1 n2, J.2.2.1 a i, J.1 a i⟩
/-- the man that is taken, if there is one -/
theorem cap_ex (st : ∀ i : Nat, (i : Int) < (hI h rm x1.toNatClampNeg).toInt → (hI h rt i).toInt = dg (x2.toInt / 2) (hI h x0 13).toInt i) (im : Rg 0 5 (hI h rm x1.toNatClampNeg)) (t0 : 0 ≤ x4.toInt) {j : Nat} (hj : (j : Int) = x3.toInt) (G : Gd h rm re R (hI h x0 13).toInt x1.toNatClampNeg (x2.toInt / 2) j x4.toNatClampNeg) : ∃ q : Nat, ¬ q = j ∧ (q < (hI h rm x1.toNatClampNeg).toNatClampNeg ∨ 9 ≤ q) ∧ (∀ i : Nat, (i : Int) < (hI h rm x1.toNatClampNeg).toInt → ¬ (i : Int) = x3.toInt → (hI h rt i = x4 ↔ i = q)) ∧ (q < (hI h rm x1.toNatClampNeg).toNatClampNeg → ¬ (hI h re (5 * x1.toNatClampNeg + q) - (1 : Int32)) >>> ((1 : Int32) &&& 31) = hI h R 10) := by
  have cm := clamp_i im.1
  have m5 := im.2
  have c4 := clamp_i t0
  by_cases ex : ∃ i : Nat, i < (hI h rm x1.toNatClampNeg).toNatClampNeg ∧ ¬ i = j ∧ dg (x2.toInt / 2) (hI h x0 13).toInt i = x4.toInt
  · obtain ⟨q, q1, q2, q3⟩ := ex
    refine ⟨q, q2, Or.inl q1, fun i hi ni => ⟨fun e => ?_, fun e => ?_⟩, fun _ => G.2.2 q q1 q2 (by rw [c4]; exact q3)⟩
    · refine Classical.byContradiction fun ne => G.2.1 i q (by omega) q1 ne ?_
      rw [← st i hi, e, q3]
    · subst e
      apply Int32.toInt_inj.mp
      rw [st i hi, q3]
  · refine ⟨j + 10, by omega, Or.inr (by omega), fun i hi ni => ⟨fun e => ?_, fun e => by omega⟩, fun w => by omega⟩
    exact absurd ⟨i, by omega, by omega, by rw [← st i hi, e]⟩ ex
/-- the state behind a step, found -/
theorem behind_f (hF : 700000 ≤ F) (hA : pmA c rwpL) (T : TH ρ c h) (W : WkP ρ x0 rm re rb rk rs ro rp rt rw mb km R Bc Bm a h) (i1 : Rg 0 4095 x1) (ln : x1.toInt < (hI h x0 49).toInt) (a3 : 0 ≤ x3.toInt) (l3 : x3.toInt < (hI h rm x1.toNatClampNeg).toInt) (t0 : 0 ≤ x4.toInt) (tl : x4.toInt < (hI h x0 13).toInt) {v sd : Int32} (iv : Rg 0 24 v) (isd : Rg 0 1 sd) (s1 : 1 ≤ (hI h x0 13).toInt) (st : ∀ i : Nat, (i : Int) < (hI h rm x1.toNatClampNeg).toInt → (hI h rt i).toInt = dg (x2.toInt / 2) (hI h x0 13).toInt i) (G : Gd h rm re R (hI h x0 13).toInt x1.toNatClampNeg (x2.toInt / 2) x3.toNatClampNeg x4.toNatClampNeg)
    (hv : v = hI h re (5 * x1.toNatClampNeg + x3.toNatClampNeg) ∨ FdS rs rk h (hI h rm x1.toNatClampNeg).toNatClampNeg (fun w => cn (up (fun p => hI h re (5 * x1.toNatClampNeg + p)) x3.toNatClampNeg v) w (hI h rm x1.toNatClampNeg).toNatClampNeg)) : Sat (sX15_stateBehind F h x0 x1 x3 x4 v sd) (fun o => TH ρ c o.2 ∧ Rg 0 599999 o.1 ∧ Kf ρ EML h o.2) := by
  obtain ⟨Q, ⟨e58, e61, e51, e53, e52, e4, e13, e14⟩, ⟨qp, qt, qw, qmb, qkm, qR, qBc, qBm⟩, P, A, D, na, GG⟩ := W
  have c1 := clamp_i i1.1
  have c3 := clamp_i a3
  have im := thI T Q.1.2.1 (k := 99) (i := x1.toNatClampNeg) (lo := 0) (hi := 5) rfl
  have cm := clamp_i im.1
  have s64 := (thI T Q.1.1 (k := 16) (i := 13) (lo := 9) (hi := 64) rfl).2
  have m5 := im.2
  obtain ⟨q, q1, q2, q3, q4⟩ := cap_ex (x3 := x3) (R := R) (re := re) st im t0 c3 G
  refine s_imp (behind_q (q := q) hF hA Q T P e58 e61 i1 ⟨a3, by omega⟩ ⟨t0, by omega⟩ tl iv isd (fun i hi => ?_) q3 (by omega)) (fun o w => ?_)
  · rw [st i hi]
    exact Int.emod_lt_of_pos _ (by omega)
  · have := w.2.2 (fd_behind T Q P A (by omega) (by omega) q1 q2 q4 iv hv)
    exact ⟨w.1.1, ⟨this, w.1.2.1.2⟩, kf_jp w.2.1 Q.1.2.2.2.2.2.2 qp⟩
/-- where a plain step leads -/
theorem plain_ix {bg k t d un sd W q : Int} {m j : Nat} {sq : Int} (hb : 0 ≤ bg) (hW : bg + 2 * W ≤ 600000) (eW : W = sq ^ m) (eq : q = k / 2) (es : sd = k % 2) (q0 : 0 ≤ q) (ql : q < W) (hj : j < m) (s1 : 1 ≤ sq) (t0 : 0 ≤ t) (tl : t < sq) (ed : d = dg q sq j) (eu : un = 2 * sq ^ j) : 0 ≤ bg + k + (t - d) * un + 1 - 2 * sd ∧ bg + k + (t - d) * un + 1 - 2 * sd ≤ 599999 := by
  obtain ⟨p1, p2⟩ := dg_put s1 t0 tl j m q hj q0 (by rw [← eW]; exact ql)
  rw [← ed] at p1 p2
  have e : (t - d) * un = 2 * ((t - d) * sq ^ j) := by rw [eu, ← Int.mul_assoc, Int.mul_comm (t - d) 2, Int.mul_assoc]
  rw [e]
  rw [← eW] at p2
  omega
theorem meetAll_q (hF : 700000 ≤ F) (hA : pmA c [(108, 999), (109, 999), (16, 62), (16, 63)]) (T : TH ρ c h) (W : WkP ρ x0 rm re rb rk rs ro rp rt rw mb km R Bc Bm a h) (i1 : Rg 0 4095 x1) (ln : x1.toInt < (hI h x0 49).toInt) (a2 : 0 ≤ x2.toInt) (l2 : x2.toInt < 2 * (hI h x0 13).toInt ^ (hI h rm x1.toNatClampNeg).toNatClampNeg) (a3 : 0 ≤ x3.toInt) (l3 : x3.toInt < (hI h rm x1.toNatClampNeg).toInt) (t0 : 0 ≤ x4.toInt) (un : x5.toInt = 2 * (hI h x0 13).toInt ^ x3.toNatClampNeg) (st : ∀ i : Nat, (i : Int) < (hI h rm x1.toNatClampNeg).toInt → (hI h rt i).toInt = dg (x2.toInt / 2) (hI h x0 13).toInt i) (own : owS h re x1.toNatClampNeg x3.toNatClampNeg = (x2 &&& (1 : Int32)).toInt) (G : Gd h rm re R (hI h x0 13).toInt x1.toNatClampNeg (x2.toInt / 2) x3.toNatClampNeg x4.toNatClampNeg) : Sat (sX15_meetAll F h x0 x1 x2 x3 x4 x5 x6) (fun o => TH ρ c o ∧ Kf ρ EML h o) := by
  have W' := W
  obtain ⟨Q, ⟨e58, e61, e51, e53, e52, e4, e13, e14⟩, ⟨qp, qt, qw, qmb, qkm, qR, qBc, qBm⟩, P, A, D, na, GG⟩ := W'
  have Q' := Q
  obtain ⟨⟨r0, qm, qe, qb, qk, qs, qo⟩, ⟨e46, e47, e48, e55, e56, e57⟩⟩ := Q'
  have c1 := clamp_i i1.1
  have c3 := clamp_i a3
  have c4 := clamp_i t0
  have im := thI T qm (k := 99) (i := x1.toNatClampNeg) (lo := 0) (hi := 5) rfl
  have cm := clamp_i im.1
  have m5 := im.2
  have is := thI T r0 (k := 16) (i := 13) (lo := 9) (hi := 64) rfl
  have s9 := is.1
  have s64 := is.2
  have tl : x4.toInt < (hI h x0 13).toInt := by have := G.1; omega
  have i3 : Rg 0 4 x3 := ⟨a3, by omega⟩
  have i4 : Rg 0 63 x4 := ⟨t0, by omega⟩
  obtain ⟨ix, ixn⟩ := ix5 i1 i3
  unfold sX15_meetAll
  refine s_ref e47 ?_
  refine s_gd (by rw [thN T qe (k := 100) (n := 20480) rfl (by decide)]; exact rg_inB ix (by decide)) ?_
  rw [ixn]
  have pos := P.2.2.2.2.1 rm re e46 e47 x1.toNatClampNeg (by omega) x3.toNatClampNeg (by omega)
  have iv0 := thI T qe (k := 100) (i := 5 * x1.toNatClampNeg + x3.toNatClampNeg) (lo := 0) (hi := 24) rfl
  have iv : Rg 1 24 (hI h re (5 * x1.toNatClampNeg + x3.toNatClampNeg)) := ⟨pos, iv0.2⟩
  refine s_q (fun v ev => s_q (fun sd es => ?_))
  unfold sX15_manOf
  refine s_cl (s_some ?_)
  dsimp only
  have iman : Rg 0 11 ((v - (1 : Int32)) >>> ((1 : Int32) &&& 31)) := by rw [ev]; exact man_r iv
  have isd : Rg 0 1 sd := by rw [es]; exact side_r
  refine s_cl (s_imp (zX15_becomesOthers hF T r0 iman) (fun o6 ⟨e6, i6⟩ => ?_))
  rw [e6]
  -- a step without becoming
  have b149 : Sat (sX15_meetAll_149 F h x0 x1 x2 x3 x4 x5 x6 v sd) (fun o => TH ρ c o ∧ Kf ρ EML h o) := by
    unfold sX15_meetAll_149 sX15_meetAll_163
    have lp : ∀ (f : Nat) {x10 x11 : Int32}, 0 ≤ x11.toInt → (6 - x11.toInt).toNat < f → Sat (sX15_meetAll_168 F f h x0 x1 x2 x3 x4 x5 x6 v sd x10 x11) (fun o => TH ρ c o ∧ Kf ρ EML h o) := by
      intro f
      induction f with
      | zero => intros; omega
      | succ f ih =>
        intro x10 x11 a11 hf
        rw [sX15_meetAll_168]
        unfold sX15_meetAll_260 sX15_meetAll_198
        refine s_ref e46 (s_gd (by rw [thN T qm (k := 99) (n := 4096) rfl (by decide)]; exact rg_inB i1 (by decide)) ?_)
        refine s_br (fun _ => ?_) (fun n1 => ?_)
        · refine s_ref e51 ?_
          refine s_br (fun _ => ?_) (fun _ => ?_)
          · refine s_cl (s_imp (behind_f hF (pmA_s hA rfl) T W i1 ln a3 l3 t0 tl (by rw [ev]; exact iv0) isd (by omega) st G (Or.inl ev)) (fun o9 ⟨T9, i9, K9⟩ => ?_))
            refine s_gd (by rw [thN T9 qw (k := 102) (n := 600000) rfl (by decide)]; exact rg_inB i9 (by decide)) ?_
            refine s_cVf (S := fS [(16, 62), (16, 63)] []) T9 (fs_sub (pmA_s hA rfl) fs_n) (zX15_meet hF fs_a (th_in _ T9) r0 (thI T9 qw (k := 102) (lo := -1000000) (hi := 3000000) rfl) (rg_top _)) (fun o2 T2 f2 => ?_)
            exact s_some ⟨T2, kf_t K9 (kf_of f2 rfl)⟩
          · refine s_ref e48 ?_
            refine s_gd (by rw [thN T qb (k := 101) (n := 4096) rfl (by decide)]; exact rg_inB i1 (by decide)) ?_
            refine s_ref e61 ?_
            refine s_gd (by rw [thN T qt (k := 110) (n := 5) rfl (by decide)]; exact rg_inB i3 (by decide)) ?_
            have ib := thI T qb (k := 101) (i := x1.toNatClampNeg) (lo := 0) (hi := 600000) rfl
            have B3 := P.2.2.1 rm rb e46 e48 x1.toNatClampNeg (by omega)
            have B2 := P.2.1.2
            have ed := st x3.toNatClampNeg (by omega)
            have px := plain_ix (bg := (hI h rb x1.toNatClampNeg).toInt) (k := x2.toInt) (t := x4.toInt) (d := (hI h rt x3.toNatClampNeg).toInt) (un := x5.toInt) (sd := x2.toInt % 2) (W := (hI h x0 13).toInt ^ (hI h rm x1.toNatClampNeg).toNatClampNeg) (q := x2.toInt / 2) (m := (hI h rm x1.toNatClampNeg).toNatClampNeg) (j := x3.toNatClampNeg) (sq := (hI h x0 13).toInt) ib.1 (by omega) rfl rfl rfl (by omega) (by omega) (by omega) (by omega) t0 tl ed un
            have esd : sd.toInt = x2.toInt % 2 := by rw [es]; exact and1_i a2
            have ub : x5.toInt ≤ 600000 ∧ 2 ≤ x5.toInt := by
              have pw := powm (s := (hI h x0 13).toInt) (by omega) x3.toNatClampNeg ((hI h rm x1.toNatClampNeg).toNatClampNeg - x3.toNatClampNeg)
              have : x3.toNatClampNeg + ((hI h rm x1.toNatClampNeg).toNatClampNeg - x3.toNatClampNeg) = (hI h rm x1.toNatClampNeg).toNatClampNeg := by omega
              rw [this] at pw
              have p1 := (powm (s := (hI h x0 13).toInt) (by omega) 0 x3.toNatClampNeg).1
              rw [Int.pow_zero, Nat.zero_add] at p1
              have ib0 := ib.1
              omega
            have dr := thI T qt (k := 110) (i := x3.toNatClampNeg) (lo := 0) (hi := 63) rfl
            have d0 := dr.1
            have d1 := dr.2
            have t64 := i4.2
            have e1 : (x4 - (hI h rt x3.toNatClampNeg)).toInt = x4.toInt - (hI h rt x3.toNatClampNeg).toInt := ts (by omega)
            have mbd := mbM (n := 600000) (m := 63) (k := x4.toInt - (hI h rt x3.toNatClampNeg).toInt) (d := x5.toInt) ⟨by omega, by omega⟩ ⟨by omega, by omega⟩ (by decide)
            have e2 : ((x4 - (hI h rt x3.toNatClampNeg)) * x5).toInt = (x4.toInt - (hI h rt x3.toNatClampNeg).toInt) * x5.toInt := by rw [tm ⟨by rw [e1]; omega, by rw [e1]; omega⟩, e1]
            have ib0 := ib.1
            have ib1 := ib.2
            have p0 : 0 ≤ (hI h x0 13).toInt ^ (hI h rm x1.toNatClampNeg).toNatClampNeg := Int.pow_nonneg (by omega)
            have e3 : ((hI h rb x1.toNatClampNeg) + x2).toInt = (hI h rb x1.toNatClampNeg).toInt + x2.toInt := ta (by omega)
            have e4' : (((hI h rb x1.toNatClampNeg) + x2) + ((x4 - (hI h rt x3.toNatClampNeg)) * x5)).toInt = (hI h rb x1.toNatClampNeg).toInt + x2.toInt + (x4.toInt - (hI h rt x3.toNatClampNeg).toInt) * x5.toInt := by rw [ta (by rw [e3, e2]; omega), e3, e2]
            have z1 : (1 : Int32).toInt = 1 := rfl
            have z2 : (2 : Int32).toInt = 2 := rfl
            have e5 : ((((hI h rb x1.toNatClampNeg) + x2) + ((x4 - (hI h rt x3.toNatClampNeg)) * x5)) + (1 : Int32)).toInt = (hI h rb x1.toNatClampNeg).toInt + x2.toInt + (x4.toInt - (hI h rt x3.toNatClampNeg).toInt) * x5.toInt + 1 := by rw [ta (by rw [e4', z1]; omega), e4', z1]
            have e6' : ((2 : Int32) * sd).toInt = 2 * sd.toInt := by rw [tm (by rw [z2, esd]; omega), z2]
            have e7 : (((((hI h rb x1.toNatClampNeg) + x2) + ((x4 - (hI h rt x3.toNatClampNeg)) * x5)) + (1 : Int32)) - ((2 : Int32) * sd)).toInt = (hI h rb x1.toNatClampNeg).toInt + x2.toInt + (x4.toInt - (hI h rt x3.toNatClampNeg).toInt) * x5.toInt + 1 - 2 * sd.toInt := by rw [ts (by rw [e5, e6', esd]; omega), e5, e6']
            refine s_gd (by rw [thN T qw (k := 102) (n := 600000) rfl (by decide)]; exact rg_inB (⟨by rw [e7, esd]; exact px.1, by rw [e7, esd]; exact px.2⟩ : Rg 0 599999 _) (by decide)) ?_
            refine s_cVf (S := fS [(16, 62), (16, 63)] []) T (fs_sub (pmA_s hA rfl) fs_n) (zX15_meet hF fs_a (th_in _ T) r0 (thI T qw (k := 102) (lo := -1000000) (hi := 3000000) rfl) (rg_top _)) (fun o2 T2 f2 => ?_)
            exact s_some ⟨T2, kf_of f2 rfl⟩
        · have l11 := nle_i n1
          have i11 : Rg 0 4 x11 := ⟨a11, by omega⟩
          have ny := nc_s i11 (by decide)
          refine s_ref e61 (s_gd (by rw [thN T qt (k := 110) (n := 5) rfl (by decide)]; exact rg_inB i11 (by decide)) ?_)
          refine s_br (fun _ => ?_) (fun _ => ?_)
          · refine s_q (fun u eu => s_q (fun y ey => ?_))
            have ey2 : y.toInt = x11.toInt + 1 := by rw [ey]; exact ny.2
            exact ih (by omega) (by omega)
          · refine s_q (fun u eu => s_q (fun y ey => ?_))
            have ey2 : y.toInt = x11.toInt + 1 := by rw [ey]; exact ny.2
            exact ih (by omega) (by omega)
    have z0 : (0 : Int32).toInt = 0 := rfl
    refine s_cl (s_imp (zX15_isLike hF T r0 i1 i3) (fun o1 ⟨e1, i1'⟩ => ?_))
    rw [e1]
    exact s_br (fun _ => lp F (by decide) (by rw [z0]; omega)) (fun _ => lp F (by decide) (by rw [z0]; omega))
  refine s_br (fun _ => b149) (fun _ => ?_)
  refine s_cl (s_imp (zX15_rankFor hF T r0 i4 isd) (fun o8 ⟨e8, i8⟩ => ?_))
  rw [e8]
  refine s_br (fun _ => ?_) (fun _ => b149)
  -- a man that becomes another
  have l51 : ∀ (f : Nat) {g : Hp} {x10 : Int32}, TH ρ c g → Kf ρ EML h g → (∀ i, hI g rt i = hI h rt i) → 0 ≤ x10.toInt → (7 - x10.toInt).toNat < f → Sat (sX15_meetAll_51 F f g x0 x1 x3 x4 x6 sd ((v - (1 : Int32)) >>> ((1 : Int32) &&& 31)) x10) (fun o => TH ρ c o ∧ Kf ρ EML h o) := by
    intro f
    induction f with
    | zero => intros; omega
    | succ f ih =>
      intro g x10 Tg Kg kt a10 hf
      have Wg := wkp_k T (kf_m Kg rfl) W
      rw [sX15_meetAll_51]
      unfold sX15_meetAll_129 sX15_meetAll_142
      have e4g : hR g x0 4 = some R := Wg.2.1.2.2.2.2.2.1
      have e13g : hR g R 13 = some Bc := Wg.2.1.2.2.2.2.2.2.1
      have e14g : hR g R 14 = some Bm := Wg.2.1.2.2.2.2.2.2.2
      refine s_ref e4g (s_ref e14g ?_)
      refine s_gd (by rw [thN Tg qBm (k := 81) (n := 12) rfl (by decide)]; exact rg_inB iman (by decide)) ?_
      refine s_br (fun _ => s_some ⟨Tg, Kg⟩) (fun n1 => ?_)
      have l10 := nle_i n1
      have b6 := (thI Tg qBm (k := 81) (i := ((v - (1 : Int32)) >>> ((1 : Int32) &&& 31)).toNatClampNeg) (lo := 0) (hi := 6) rfl).2
      have i10 : Rg 0 5 x10 := ⟨a10, by omega⟩
      have ny := nc_s i10 (by decide)
      refine s_ref e4g (s_ref e13g ?_)
      have iq : Rg 0 66 ((6 : Int32) * ((v - (1 : Int32)) >>> ((1 : Int32) &&& 31))) := by
        have e4' : (6 : Int32).toInt = 6 := rfl
        have := iman.1
        have := iman.2
        exact ⟨by rw [tm (by rw [e4']; omega), e4']; omega, by rw [tm (by rw [e4']; omega), e4']; omega⟩
      refine s_gd (by rw [thN Tg qBc (k := 80) (n := 72) rfl (by decide)]; exact rg_inB (rg_add iq i10 (by decide) : Rg 0 71 _) (by decide)) ?_
      unfold sX15_valueOf
      refine s_cl (s_some ?_)
      dsimp only
      have kvm := kfI x1.toNatClampNeg Kg qm
      have kve := fun i => kfI i Kg qe
      have k13 := kfI 13 Kg r0
      have k49 := kfI 49 Kg r0
      have ivv := val_r (thI Tg qBc (k := 80) (i := (((6 : Int32) * ((v - (1 : Int32)) >>> ((1 : Int32) &&& 31))) + x10).toNatClampNeg) (lo := 0) (hi := 11) rfl) isd
      have CLg := ((Wg.2.2.2.2.1 x1.toNatClampNeg (by rw [k49]; omega)).2.2 x3.toNatClampNeg (by rw [kvm]; omega)).2 x10 a10 (by omega) (by
        rw [kve, ← ev]
        exact l10)
      have ose : sd = (v - (1 : Int32)) &&& (1 : Int32) := by
        apply Int32.toInt_inj.mp
        unfold owS at own
        rw [← ev] at own
        rw [own, es]
      refine s_cl (s_imp (behind_f hF (pmA_s hA rfl) Tg Wg i1 (by rw [k49]; exact ln) a3 (by rw [kvm]; exact l3) t0 (by rw [k13]; exact tl) (rg_m ivv (by decide)) isd (by rw [k13]; omega) (fun i hi => by rw [kvm] at hi; rw [kt, k13]; exact st i hi) ?_ (Or.inr ?_)) (fun o9 ⟨T9, i9, K9⟩ => ?_))
      · unfold Gd
        rw [kvm, k13, kfI 10 Kg qR]
        simp only [kve]
        exact G
      · rw [kve, ← ev, ← ose] at CLg
        exact CLg
      · have W9 := wkp_k Tg (kf_m K9 rfl) Wg
        have kt9 : ∀ i, hI o9.2 rt i = hI h rt i := fun i => (kfI i K9 qt).trans (kt i)
        have e49' : hR o9.2 x0 4 = some R := W9.2.1.2.2.2.2.2.1
        have m129 : Sat (cl (hR o9.2 x0 51) fun r_1 => gd (inB o9.1 (hN o9.2 r_1)) <| cl (sX15_meet o9.2 x0 (hI o9.2 r_1 o9.1.toNatClampNeg) x6) fun o_3 => nm (x10 + (1 : Int32)) fun v_1 => sX15_meetAll_51 F f o_3 x0 x1 x3 x4 x6 sd ((v - (1 : Int32)) >>> ((1 : Int32) &&& 31)) v_1) (fun o => TH ρ c o ∧ Kf ρ EML h o) := by
          refine s_ref W9.2.1.2.2.1 ?_
          refine s_gd (by rw [thN T9 qw (k := 102) (n := 600000) rfl (by decide)]; exact rg_inB i9 (by decide)) ?_
          refine s_cVf (S := fS [(16, 62), (16, 63)] []) T9 (fs_sub (pmA_s hA rfl) fs_n) (zX15_meet hF fs_a (th_in _ T9) r0 (thI T9 qw (k := 102) (lo := -1000000) (hi := 3000000) rfl) (rg_top _)) (fun o2 T2 f2 => ?_)
          refine s_q (fun y ey => ?_)
          have ey2 : y.toInt = x10.toInt + 1 := by rw [ey]; exact ny.2
          exact ih T2 (kf_t Kg (kf_t K9 (kf_of f2 rfl))) (fun i => by rw [(fr_RI f2 qt (by decide) (fun _ => rfl)).1]; exact kt9 i) (by omega) (by omega)
        refine s_ref e49' ?_
        refine s_br (fun _ => m129) (fun _ => ?_)
        obtain ⟨rc, ec, qc⟩ := thR T9 r0 (i := 54) (k2 := 105) rfl (by decide)
        refine s_ref ec ?_
        refine s_gd (by rw [thN T9 qc (k := 105) (n := 9376) rfl (by decide)]; exact rg_inB (sh6 i9) (by decide)) ?_
        refine s_br (fun _ => m129) (fun _ => ?_)
        refine s_q (fun y ey => ?_)
        have ey2 : y.toInt = x10.toInt + 1 := by rw [ey]; exact ny.2
        exact ih T9 (kf_t Kg K9) kt9 (by omega) (by omega)
  have z0 : (0 : Int32).toInt = 0 := rfl
  exact l51 F T kf_r (fun _ => rfl) (by decide) (by rw [z0]; omega)
end
