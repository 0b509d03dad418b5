/-! the worth of a state now -/
def pcJ (x : Int64) : Nat → Nat
  | 0 => 0
  | n + 1 => pcJ x n + if bitJ x n = true then 1 else 0
theorem pc_le (x : Int64) : ∀ n, pcJ x n ≤ n := by
  intro n
  induction n with
  | zero => exact Nat.le_refl _
  | succ n ih =>
    show pcJ x n + (if bitJ x n = true then 1 else 0) ≤ n + 1
    split <;> omega
theorem pc_lt {x y : Int64} (s : ∀ i, bitJ y i = true → bitJ x i = true) {k : Nat} (kx : bitJ x k = true) (ky : bitJ y k = false) : ∀ n, pcJ y n ≤ pcJ x n ∧ (k < n → pcJ y n < pcJ x n) := by
  intro n
  induction n with
  | zero => exact ⟨Nat.le_refl _, fun h => by omega⟩
  | succ n ih =>
    show pcJ y n + (if bitJ y n = true then 1 else 0) ≤ pcJ x n + (if bitJ x n = true then 1 else 0) ∧ (k < n + 1 → pcJ y n + (if bitJ y n = true then 1 else 0) < pcJ x n + (if bitJ x n = true then 1 else 0))
    by_cases w : k = n
    · subst w
      rw [if_pos kx, if_neg (by rw [ky]; decide)]
      exact ⟨by omega, fun _ => by omega⟩
    · by_cases z : bitJ y n = true
      · rw [if_pos z, if_pos (s n z)]
        exact ⟨by omega, fun h => by have := ih.2 (by omega); omega⟩
      · rw [if_neg z]
        split
        · exact ⟨by omega, fun h => by have := ih.2 (by omega); omega⟩
        · exact ⟨by omega, fun h => by have := ih.2 (by omega); omega⟩
/-- the least bit is gone -/
theorem low_off {x : Int64} (hx : ¬ x = 0) : (∀ i, bitJ (x &&& (x - (1 : Int64))) i = true → bitJ x i = true) ∧ ∃ k, k < 64 ∧ bitJ x k = true ∧ bitJ (x &&& (x - (1 : Int64))) k = false := by
  obtain ⟨k, k64, kb, e⟩ := low_bit hx
  have nb : bitJ (-x) k = true := by
    have : bitJ (x &&& (-x)) k = true := by
      rw [e]
      show (BitVec.twoPow 64 k).getLsbD k = true
      rw [BitVec.getLsbD_twoPow]
      simp [k64]
    rw [bj_and] at this
    simp only [Bool.and_eq_true] at this
    exact this.2
  refine ⟨fun i w => ?_, k, k64, kb, ?_⟩
  · rw [bj_and] at w
    simp only [Bool.and_eq_true] at w
    exact w.1
  · rw [bj_and, kb, Bool.true_and]
    have e2 : (x - (1 : Int64)).toBitVec = ~~~ ((-x).toBitVec) := by
      rw [Int64.toBitVec_sub, Int64.toBitVec_neg, BitVec.not_neg]
      rfl
    unfold bitJ at nb ⊢
    rw [e2, BitVec.getLsbD_not, nb]
    simp
abbrev EVL : List (Nat × Nat) := [(108, 999), (109, 999), (110, 999), (16, 62), (16, 63)]
section
variable {ρ : Nat → Nat} {c : Cm} {x0 rm re rb rk rs ro rp rt rw mb km R Bc Bm F : Nat} {a : Int} {h o : Hp} {x1 x2 x3 : Int32}
theorem worthNow_q (hF : 700000 ≤ F) (hA : pmA c EVL) (T : TH ρ c h) (W : WkP ρ x0 rm re rb rk rs ro rp rt rw mb km R Bc Bm a h) (i1 : Rg 0 4095 x1) (ln : x1.toInt < (hI h x0 49).toInt) (a2 : 0 ≤ x2.toInt) (l2 : x2.toInt < 2 * (hI h x0 13).toInt ^ (hI h rm x1.toNatClampNeg).toNatClampNeg) (i3 : Rg 0 2000000 x3) : Sat (sX15_worthNow F h x0 x1 x2 x3) (fun o => TH ρ c o.2 ∧ Rg (-1000000) 1000000 o.1 ∧ Kf ρ EVL h o.2) := by
  have W' := W
  obtain ⟨Q, ⟨e58, e61, e51, e53, e52, e4, e13, e14⟩, ⟨qp, qt, qw, qmb, qkm, qR, qBc, qBm⟩, P, A, D, na, GG⟩ := W'
  have Q' := Q
  obtain ⟨⟨r0, qm, qe, qb, qk, qs, qo⟩, ⟨e46, e47, e48, e55, e56, e57⟩⟩ := Q'
  have c1 := clamp_i i1.1
  have im := thI T qm (k := 99) (i := x1.toNatClampNeg) (lo := 0) (hi := 5) rfl
  have cm := clamp_i im.1
  have m5 := im.2
  have is := thI T r0 (k := 16) (i := 13) (lo := 9) (hi := 64) rfl
  have s9 := is.1
  have s64 := is.2
  have z0 : (0 : Int32).toInt = 0 := rfl
  have B3 := P.2.2.1 rm rb e46 e48 x1.toNatClampNeg (by omega)
  have B2 := P.2.1.2
  have ib0 := (thI T qb (k := 101) (i := x1.toNatClampNeg) (lo := 0) (hi := 600000) rfl).1
  -- the answer
  have b186 : ∀ {g : Hp}, TH ρ c g → Kf ρ EVL h g → Sat (sX15_worthNow_186 F g x0 x3) (fun o => TH ρ c o.2 ∧ Rg (-1000000) 1000000 o.1 ∧ Kf ρ EVL h o.2) := fun {g} Tg Kg => by
    unfold sX15_worthNow_186 sX15_worthNow_217
    exact s_br (fun _ => s_br (fun _ => s_some ⟨Tg, rg_m (rg_b rfl : Rg 0 0 (0 : Int32)) (by decide), Kg⟩) (fun _ => s_some ⟨Tg, rg_sub i3 (rg_b rfl : Rg 1000000 1000000 (1000000 : Int32)) (by decide), Kg⟩)) (fun _ => s_some ⟨Tg, rg_sub (rg_b rfl : Rg 1000000 1000000 (1000000 : Int32)) i3 (by decide), Kg⟩)
  have wm : ∀ {g : Hp}, Kf ρ EVL h g → WkP ρ x0 rm re rb rk rs ro rp rt rw mb km R Bc Bm a g := fun Kg => wkp_k T (kf_m Kg rfl) W
  -- man by man
  have l73 : ∀ (f : Nat) {g : Hp} {x7 x8 : Int32}, TH ρ c g → Kf ρ EVL h g → (∀ i : Nat, (i : Int) < (hI h rm x1.toNatClampNeg).toInt → (hI g rt i).toInt = dg (x2.toInt / 2) (hI h x0 13).toInt i) → 0 ≤ x8.toInt → x8.toInt ≤ (hI h rm x1.toNatClampNeg).toInt → x7.toInt = 2 * (hI h x0 13).toInt ^ x8.toNatClampNeg → (6 - x8.toInt).toNat < f → Sat (sX15_worthNow_73 F f g x0 x1 x2 x3 (hI h rm x1.toNatClampNeg) (x2 &&& (1 : Int32)) x7 x8) (fun o => TH ρ c o.2 ∧ Rg (-1000000) 1000000 o.1 ∧ Kf ρ EVL h o.2) := by
    intro f
    induction f with
    | zero => intros; omega
    | succ f ih =>
      intro g x7 x8 Tg Kg st a8 b8 e7 hf
      have Wg := wm Kg
      have c8 := clamp_i a8
      rw [sX15_worthNow_73]
      unfold sX15_worthNow_123
      refine s_br (fun _ => b186 Tg Kg) (fun n1 => ?_)
      have l8 := nle_i n1
      have i8 : Rg 0 4 x8 := ⟨a8, by omega⟩
      obtain ⟨ix, ixn⟩ := ix5 i1 i8
      have ny := nc_s i8 (by decide)
      have pw := powm (s := (hI h x0 13).toInt) (by omega) x8.toNatClampNeg ((hI h rm x1.toNatClampNeg).toNatClampNeg - x8.toNatClampNeg)
      have en : x8.toNatClampNeg + ((hI h rm x1.toNatClampNeg).toNatClampNeg - x8.toNatClampNeg) = (hI h rm x1.toNatClampNeg).toNatClampNeg := by omega
      rw [en] at pw
      have p1 := (powm (s := (hI h x0 13).toInt) (by omega) 0 x8.toNatClampNeg).1
      rw [Int.pow_zero, Nat.zero_add] at p1
      -- move by move
      have l125 : ∀ (ff : Nat) {g : Hp} {x9 : Int64}, TH ρ c g → Kf ρ EVL h g → (∀ i : Nat, (i : Int) < (hI h rm x1.toNatClampNeg).toInt → (hI g rt i).toInt = dg (x2.toInt / 2) (hI h x0 13).toInt i) → (∀ t, t < 64 → bitJ x9 t = true → Gd h rm re R (hI h x0 13).toInt x1.toNatClampNeg (x2.toInt / 2) x8.toNatClampNeg t ∧ owS h re x1.toNatClampNeg x8.toNatClampNeg = (x2 &&& (1 : Int32)).toInt) → pcJ x9 64 < ff → Sat (sX15_worthNow_125 F (sX15_worthNow_73 F f) ff g x0 x1 x2 x3 (hI h rm x1.toNatClampNeg) (x2 &&& (1 : Int32)) x7 x8 x9) (fun o => TH ρ c o.2 ∧ Rg (-1000000) 1000000 o.1 ∧ Kf ρ EVL h o.2) := by
        intro ff
        induction ff with
        | zero => intros; omega
        | succ ff ih2 =>
          intro g x9 Tg Kg st B hp
          have Wg := wm Kg
          rw [sX15_worthNow_125]
          have k13 := kfI 13 Kg r0
          have nx : Sat (sX15_worthNow_171 F (sX15_worthNow_73 F f) g x0 x1 x2 x3 (hI h rm x1.toNatClampNeg) (x2 &&& (1 : Int32)) x7 x8) (fun o => TH ρ c o.2 ∧ Rg (-1000000) 1000000 o.1 ∧ Kf ρ EVL h o.2) := by
            unfold sX15_worthNow_171
            refine s_q (fun u eu => s_q (fun y ey => ?_))
            have ey2 : y.toInt = x8.toInt + 1 := by rw [ey]; exact ny.2
            have ey3 : y.toNatClampNeg = x8.toNatClampNeg + 1 := by rw [ey]; exact ny.1
            clear ey
            have mu : x7.toInt * (hI h x0 13).toInt ≤ 600000 * 64 := Int.mul_le_mul (by omega) s64 (by omega) (by decide)
            have mu0 : 0 ≤ x7.toInt * (hI h x0 13).toInt := Int.mul_nonneg (by omega) (by omega)
            have eu2 : u.toInt = x7.toInt * (hI h x0 13).toInt := by rw [eu, k13, tm (by omega)]
            refine ih Tg Kg st (by omega) (by omega) ?_ (by omega)
            rw [eu2, e7, ey3, Int.pow_succ, Int.mul_assoc]
          refine s_br (fun _ => nx) (fun nz => ?_)
          have nz9 : ¬ x9 = 0 := fun w => nz (by rw [w]; rfl)
          refine s_br (fun _ => ?_) (fun _ => nx)
          refine s_dd (zJ13_numberOfTrailingZeros_95d88 hF Tg nz9) (fun o3 eq3 ⟨e3, i3'⟩ => ?_)
          rw [e3]
          obtain ⟨_, k, k64, kb, kv⟩ := ntz_q nz9 eq3
          have ck := clamp_i i3'.1
          have ekk : o3.1.toNatClampNeg = k := by omega
          obtain ⟨g1, g2⟩ := B k k64 kb
          refine s_q (fun v4 ev4 => ?_)
          obtain ⟨sub, k2, k264, k2b, k2o⟩ := low_off nz9
          rw [← ev4] at sub k2o
          clear ev4
          have km' := kfI x1.toNatClampNeg Kg qm
          have ke := fun i => kfI i Kg qe
          refine s_cVfq (S := fS EML []) (P := fun o => Kf ρ EML g o) Tg (fs_sub (pmA_s hA rfl) fs_n) (meetAll_q (x6 := x3) hF (pmA_s fs_a rfl) (th_in _ Tg) Wg i1 (by rw [kfI 49 Kg r0]; exact ln) a2 (by rw [k13, km']; exact l2) a8 (by rw [km']; exact l8) i3'.1 (by rw [k13]; exact e7) (fun i hi => by rw [km'] at hi; rw [k13]; exact st i hi) (by unfold owS; rw [ke]; exact g2) ?_) (fun o5 T5 f5 K5 => ?_)
          · unfold Gd
            rw [km', k13, kfI 10 Kg qR, ekk]
            simp only [ke]
            exact g1
          · refine ih2 T5 (kf_t Kg (kf_m K5 rfl)) (fun i hi => by rw [kfI i K5 qt]; exact st i hi) (fun t t64 bt => B t t64 (sub t bt)) ?_
            have := (pc_lt sub k2b k2o 64).2 k264
            omega
      have empty : Sat (sX15_worthNow_125 F (sX15_worthNow_73 F f) F g x0 x1 x2 x3 (hI h rm x1.toNatClampNeg) (x2 &&& (1 : Int32)) x7 x8 (0 : Int64)) (fun o => TH ρ c o.2 ∧ Rg (-1000000) 1000000 o.1 ∧ Kf ρ EVL h o.2) := l125 F Tg Kg st (fun t _ bt => by
        have : bitJ (0 : Int64) t = false := BitVec.getLsbD_zero
        rw [this] at bt
        exact absurd bt (by decide)) (by have := pc_le (0 : Int64) 64; omega)
      refine s_br (fun _ => ?_) (fun _ => b186 Tg Kg)
      refine s_ref Wg.1.2.2.1 ?_
      refine s_gd (by rw [thN Tg qe (k := 100) (n := 20480) rfl (by decide)]; exact rg_inB ix (by decide)) ?_
      unfold sX15_sideOf
      refine s_cl (s_some ?_)
      dsimp only
      rw [ixn, kfI _ Kg qe]
      refine s_br (fun os => ?_) (fun _ => empty)
      have own : owS h re x1.toNatClampNeg x8.toNatClampNeg = (x2 &&& (1 : Int32)).toInt := by unfold owS; rw [os]
      refine s_ref Wg.2.1.2.2.2.2.1 ?_
      have e49 := kfI 49 Kg r0
      have k13 := kfI 13 Kg r0
      have kmm := kfI x1.toNatClampNeg Kg qm
      have d1 := (Wg.2.2.2.2.2.1 rm mb Wg.1.2.1 Wg.2.1.2.2.2.1 x1.toNatClampNeg (by rw [e49]; omega)).1
      have ibm := (thI Tg qmb (k := 104) (i := x1.toNatClampNeg) (lo := 0) (hi := 1500000) rfl).1
      have q0 : 0 ≤ x2.toInt / 2 := by omega
      have qW : x2.toInt / 2 < (hI g x0 13).toInt ^ (hI g rm x1.toNatClampNeg).toNatClampNeg := by rw [k13, kmm]; omega
      have mub : (hI g rm x1.toNatClampNeg).toInt * (x2.toInt / 2) ≤ (hI g rm x1.toNatClampNeg).toInt * (hI g x0 13).toInt ^ (hI g rm x1.toNatClampNeg).toNatClampNeg := Int.mul_le_mul_of_nonneg_left (by omega) (by rw [kmm]; exact im.1)
      refine s_dd (maskOf_q (W := (hI g x0 13).toInt ^ (hI g rm x1.toNatClampNeg).toNatClampNeg) hF Tg r0 i1 Wg.1.2.1 Wg.2.1.2.2.2.1 Wg.1.2.2.1 a2 (by omega) (by omega) a8 (by rw [kmm]; exact l8) (by rw [kfI _ Kg qe, os]; exact fun w => absurd (lt_i w) (by omega))) (fun o8 eq8 ⟨e8, i8'⟩ => ?_)
      have mx := (mask_x i1 (by rw [kmm]; exact im) Wg.1.2.1 Wg.2.1.2.2.2.1 Wg.1.2.2.1 a2 a8 ibm (by omega) eq8).2
      rw [e8]
      refine s_gd (by rw [thN Tg qkm (k := 103) (n := 1500000) rfl (by decide)]; exact rg_inB i8' (by decide)) ?_
      refine l125 F Tg Kg st (fun t t64 bt => ?_) (by have := pc_le (hJ g km o8.1.toNatClampNeg) 64; omega)
      refine ⟨?_, own⟩
      have ci := clamp_i i8'.1
      have og : owS g re x1.toNatClampNeg x8.toNatClampNeg = (x2 &&& (1 : Int32)).toInt := by unfold owS; rw [kfI _ Kg qe, os]
      have gg := Wg.2.2.2.2.2.2.2 x1.toNatClampNeg (x2.toInt / 2) x8.toNatClampNeg t (by rw [e49]; omega) q0 qW (by rw [kmm]; omega) t64 (by
        rw [og]
        have : (mkx g rm mb re x1.toNatClampNeg (x2.toInt / 2) (x2 &&& (1 : Int32)).toInt x8.toNatClampNeg).toNat = o8.1.toNatClampNeg := by omega
        rw [this]
        exact bt)
      unfold Gd at gg ⊢
      rw [kmm, k13, kfI 10 Kg qR] at gg
      simp only [fun i => kfI i Kg qe] at gg
      exact gg
  -- where the men stand
  have l21 : ∀ (f : Nat) {g : Hp} {x6 x7 : Int32}, TH ρ c g → Kf ρ EVL h g → (∀ i : Nat, (i : Int) < x7.toInt → (hI g rt i).toInt = dg (x2.toInt / 2) (hI h x0 13).toInt i) → 0 ≤ x7.toInt → x7.toInt ≤ (hI h rm x1.toNatClampNeg).toInt → x6.toInt = rsD (x2.toInt / 2) (hI h x0 13).toInt x7.toNatClampNeg → 0 ≤ x6.toInt → (6 - x7.toInt).toNat < f → Sat (sX15_worthNow_21 F f g x0 x1 x2 x3 (hI h rm x1.toNatClampNeg) (x2 &&& (1 : Int32)) x6 x7) (fun o => TH ρ c o.2 ∧ Rg (-1000000) 1000000 o.1 ∧ Kf ρ EVL h o.2) := by
    intro f
    induction f with
    | zero => intros; omega
    | succ f ih =>
      intro g x6 x7 Tg Kg st a7 b7 e6 a6 hf
      have c7 := clamp_i a7
      rw [sX15_worthNow_21]
      have k13 := kfI 13 Kg r0
      refine s_br (fun l => ?_) (fun n1 => ?_)
      · have l := le_i l
        refine s_hq (th_wI Tg r0 (k := 16) (i := 62) (lo := 0) (hi := 1) rfl (rg_m (rg_b rfl : Rg 0 0 (0 : Int32)) (by decide)) (by decide) (by decide) (pm_a hA rfl)) (fun h2 T2 w2 => ?_)
        refine s_hq (th_wI T2 r0 (k := 16) (i := 63) (lo := 0) (hi := 1) rfl (rg_m (rg_b rfl : Rg 1 1 (1 : Int32)) (by decide)) (by decide) (by decide) (pm_a hA rfl)) (fun h3 T3 w3 => ?_)
        have K3 : Kf ρ EVL g h3 := kf_t (kf_wI w2 r0) (kf_wI w3 r0)
        refine l73 F T3 (kf_t Kg K3) (fun i hi => ?_) (by decide) (by rw [z0]; exact im.1) ?_ (by rw [z0]; omega)
        · rw [w3, r_I, if_neg (ne_r qt r0 (by decide)), w2, r_I, if_neg (ne_r qt r0 (by decide))]
          exact st i (by omega)
        · show (2 : Int) = 2 * (hI h x0 13).toInt ^ 0
          rw [Int.pow_zero]
          rfl
      · have l7 := nle_i n1
        have i7 : Rg 0 4 x7 := ⟨a7, by omega⟩
        have ny := nc_s i7 (by decide)
        have isg : Rg 9 64 (hI g x0 13) := by rw [k13]; exact is
        have n0 : ¬ hI g x0 13 = 0 := fun z => by have := isg.1; rw [z] at this; exact absurd this (by decide)
        have i6 : Rg 0 2147483647 x6 := ⟨a6, (rg_top x6).2⟩
        have ed : (x6 - x6 / (hI g x0 13) * (hI g x0 13)).toInt = x6.toInt % (hI g x0 13).toInt := tr i6 isg (by decide)
        have m1 := Int.emod_nonneg x6.toInt (show (hI g x0 13).toInt ≠ 0 by have := isg.1; omega)
        have m2 := Int.emod_lt_of_pos x6.toInt (show 0 < (hI g x0 13).toInt by have := isg.1; omega)
        have sg := isg.2
        refine s_ref (by rw [kfR 61 Kg r0]; exact e61) (s_gd n0 ?_)
        refine s_gd (by rw [thN Tg qt (k := 110) (n := 5) rfl (by decide)]; exact rg_inB i7 (by decide)) ?_
        refine s_hq (th_wI Tg qt (k := 110) (lo := 0) (hi := 63) rfl ⟨by rw [ed]; exact m1, by rw [ed]; omega⟩ (by decide) (by decide) (pm_a hA rfl)) (fun h7 T7 w7 => ?_)
        have K7 : Kf ρ EVL g h7 := kf_wI w7 qt
        have k137 := kfI 13 K7 r0
        rw [k137]
        refine s_gd n0 ?_
        refine s_q (fun v ev => s_q (fun y ey => ?_))
        have ey2 : y.toInt = x7.toInt + 1 := by rw [ey]; exact ny.2
        have ey3 : y.toNatClampNeg = x7.toNatClampNeg + 1 := by rw [ey]; exact ny.1
        have ev2 : v.toInt = x6.toInt / (hI g x0 13).toInt := by rw [ev]; exact td i6 isg (by decide)
        clear ey ev
        have d0 : 0 ≤ x6.toInt / (hI g x0 13).toInt := Int.ediv_nonneg a6 (by have := isg.1; omega)
        refine ih T7 (kf_t Kg K7) (fun i hi => ?_) (by omega) (by omega) (by rw [ey3, ev2, e6, k13]; rfl) (by omega) (by omega)
        rw [w7, r_I]
        by_cases w : i = x7.toNatClampNeg
        · rw [if_pos ⟨rfl, w⟩, ed, e6, k13, w]
          rfl
        · rw [if_neg (fun z => w z.2)]
          exact st i (by omega)
  unfold sX15_worthNow
  refine s_ref e46 (s_gd (by rw [thN T qm (k := 99) (n := 4096) rfl (by decide)]; exact rg_inB i1 (by decide)) ?_)
  refine s_q (fun v3 e3 => s_q (fun v4 e4' => s_q (fun v5 e5 => ?_)))
  rw [e3, e4']
  have e52' : v5.toInt = x2.toInt / 2 := by rw [e5]; exact ti_shr1
  exact l21 F T kf_r (fun i hi => absurd hi (by rw [z0]; omega)) (by decide) (by rw [z0]; exact im.1) (by rw [e52']; rfl) (by omega) (by rw [z0]; omega)
end
