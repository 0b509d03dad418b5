/-! the least bit told exactly; where a mask lies exactly -/
theorem n_all2 : ∀ k : Fin 32, (n00 (Int32.ofBitVec (BitVec.ofNat 32 (2 ^ k.val - 1)))).toInt = (k.val : Int) := by decide +kernel
theorem ntz6_q {h : Hp} {x0 : Int32} {o : Int32 × Hp} (nz : ¬ x0 = 0) (e : sJ6_numberOfTrailingZeros_0f7a4 h x0 = some o) : o.2 = h ∧ ∃ k, k < 32 ∧ x0.toBitVec.getLsbD k = true ∧ o.1.toInt = (k : Int) := by
  obtain ⟨k, hk, hb, hz⟩ := ntz_low (x := x0.toBitVec) (fun z => nz (Int32.toBitVec_inj.mp z))
  have e2 : (x0 ^^^ (-1 : Int32)) &&& (x0 - (1 : Int32)) = Int32.ofBitVec (BitVec.ofNat 32 (2 ^ k - 1)) := by
    apply Int32.toBitVec_inj.mp
    rw [Int32.toBitVec_and, Int32.toBitVec_xor, Int32.toBitVec_sub]
    exact ntz_mask hk hb hz
  unfold sJ6_numberOfTrailingZeros_0f7a4 at e
  simp only [nm] at e
  rw [e2] at e
  have e3 := e00 h (Int32.ofBitVec (BitVec.ofNat 32 (2 ^ k - 1)))
  simp only [nm] at e3
  rw [e3] at e
  have e := Option.some.inj e
  subst e
  exact ⟨rfl, k, hk, hb, n_all2 ⟨k, hk⟩⟩
theorem lo32 {x : Int64} {k : Nat} (hk : k < 32) : x.toInt32.toBitVec.getLsbD k = bitJ x k := by
  unfold bitJ
  rw [Int64.toBitVec_toInt32, BitVec.getLsbD_signExtend]
  simp [hk, show k < 64 by omega]
theorem hi32 {x : Int64} {k : Nat} (hk : k < 32) : (((x.toUInt64 >>> ((32 : Int32).toInt64.toUInt64 &&& Int64.toUInt64 63)).toInt64).toInt32).toBitVec.getLsbD k = bitJ x (32 + k) := by
  have sh : ((32 : Int32).toInt64.toUInt64 &&& Int64.toUInt64 63) = (32 : UInt64) := by decide
  rw [sh, lo32 hk]
  have e64 : ((x.toUInt64 >>> (32 : UInt64)).toInt64).toBitVec = x.toBitVec >>> 32 := by
    show (x.toUInt64 >>> (32 : UInt64)).toBitVec = _
    rw [UInt64.toBitVec_shiftRight]
    rfl
  unfold bitJ
  rw [e64, BitVec.getLsbD_ushiftRight]
theorem ntz_q {h : Hp} {x : Int64} {o : Int32 × Hp} (nz : ¬ x = 0) (e : sJ13_numberOfTrailingZeros_95d88 h x = some o) : o.2 = h ∧ ∃ k, k < 64 ∧ bitJ x k = true ∧ o.1.toInt = (k : Int) := by
  unfold sJ13_numberOfTrailingZeros_95d88 sJ13_numberOfTrailingZeros_95d88_25 at e
  replace e := br_s e; rcases e with ⟨c1, e⟩ | ⟨c1, e⟩
  · replace e := cl_s e; obtain ⟨o3, e3, e⟩ := e
    have hi : ¬ (((x.toUInt64 >>> ((32 : Int32).toInt64.toUInt64 &&& Int64.toUInt64 63)).toInt64).toInt32) = 0 := fun z => nz (by
      apply Int64.toBitVec_inj.mp
      apply BitVec.eq_of_getLsbD_eq
      intro i hi
      show bitJ x i = (0#64).getLsbD i
      rw [BitVec.getLsbD_zero]
      by_cases q : i < 32
      · rw [← lo32 q, c1]
        exact BitVec.getLsbD_zero
      · have := hi32 (x := x) (k := i - 32) (by omega)
        rw [z, show 32 + (i - 32) = i by omega] at this
        rw [← this]
        exact BitVec.getLsbD_zero)
    obtain ⟨w1, k, hk, hb, w2⟩ := ntz6_q hi e3
    have e := Option.some.inj e
    subst e
    refine ⟨w1, 32 + k, by omega, by rw [← hi32 hk]; exact hb, ?_⟩
    show ((32 : Int32) + o3.1).toInt = _
    have t : (32 : Int32).toInt = 32 := rfl
    rw [ta (by omega), t, w2]
    omega
  · replace e := cl_s e; obtain ⟨o2, e2, e⟩ := e
    obtain ⟨w1, k, hk, hb, w2⟩ := ntz6_q c1 e2
    have e := Option.some.inj e
    subst e
    exact ⟨w1, k, by omega, by rw [← lo32 hk]; exact hb, w2⟩
/-- how many men come before one -/
def rkC (own : Nat → Int) (sd : Int) (j : Nat) : Nat → Int
  | 0 => 0
  | i + 1 => rkC own sd j i + if own i < sd ∨ (own i = sd ∧ i < j) then 1 else 0
theorem rkC_b {own : Nat → Int} {sd : Int} {j : Nat} : ∀ n, 0 ≤ rkC own sd j n ∧ rkC own sd j n ≤ n := by
  intro n
  induction n with
  | zero => exact ⟨Int.le_refl _, Int.le_refl _⟩
  | succ n ih =>
    show 0 ≤ rkC own sd j n + (if own n < sd ∨ (own n = sd ∧ n < j) then 1 else 0) ∧ rkC own sd j n + (if own n < sd ∨ (own n = sd ∧ n < j) then 1 else 0) ≤ ((n + 1 : Nat) : Int)
    split <;> omega
theorem rkC_j {own : Nat → Int} {j : Nat} : ∀ n, j < n → rkC own (own j) j n + 1 ≤ n := by
  intro n
  induction n with
  | zero => intro h; omega
  | succ n ih =>
    intro h
    show rkC own (own j) j n + (if own n < own j ∨ (own n = own j ∧ n < j) then 1 else 0) + 1 ≤ ((n + 1 : Nat) : Int)
    by_cases w : n = j
    · subst w
      rw [if_neg (by omega)]
      have := (rkC_b (own := own) (sd := own n) (j := n) n).2
      omega
    · have := ih (by omega)
      split <;> omega
theorem rkC_lt {own : Nat → Int} {j j' : Nat} (lt : own j < own j' ∨ (own j = own j' ∧ j < j')) : ∀ n, rkC own (own j) j n ≤ rkC own (own j') j' n ∧ (j < n → rkC own (own j) j n + 1 ≤ rkC own (own j') j' n) := by
  intro n
  induction n with
  | zero => exact ⟨Int.le_refl _, fun h => by omega⟩
  | succ n ih =>
    show rkC own (own j) j n + (if own n < own j ∨ (own n = own j ∧ n < j) then 1 else 0) ≤ rkC own (own j') j' n + (if own n < own j' ∨ (own n = own j' ∧ n < j') then 1 else 0) ∧ (j < n + 1 → rkC own (own j) j n + (if own n < own j ∨ (own n = own j ∧ n < j) then 1 else 0) + 1 ≤ rkC own (own j') j' n + (if own n < own j' ∨ (own n = own j' ∧ n < j') then 1 else 0))
    by_cases w : n = j
    · subst w
      rw [if_neg (by omega), if_pos lt]
      exact ⟨by omega, fun _ => by omega⟩
    · by_cases z : own n < own j ∨ (own n = own j ∧ n < j)
      · rw [if_pos z, if_pos (by omega)]
        exact ⟨by omega, fun h => by have := ih.2 (by omega); omega⟩
      · rw [if_neg z]
        split
        · exact ⟨by omega, fun h => by have := ih.2 (by omega); omega⟩
        · exact ⟨by omega, fun h => by have := ih.2 (by omega); omega⟩
theorem rkC_inj {own : Nat → Int} {j j' n : Nat} (h1 : j < n) (h2 : j' < n) (e : rkC own (own j) j n = rkC own (own j') j' n) : j = j' := by
  refine Classical.byContradiction fun ne => ?_
  by_cases a : own j < own j' ∨ (own j = own j' ∧ j < j')
  · have := (rkC_lt (own := own) a n).2 h1; omega
  · have := (rkC_lt (own := own) (j := j') (j' := j) (by omega) n).2 h2; omega
/-- many times q, and a rest: both are told -/
theorem dm_inj {m q1 q2 r1 r2 : Int} (m0 : 0 < m) (a1 : 0 ≤ r1) (b1 : r1 < m) (a2 : 0 ≤ r2) (b2 : r2 < m) (e : m * q1 + r1 = m * q2 + r2) : q1 = q2 ∧ r1 = r2 := by
  have u := dm (F := m) (r := q1) (f := r1) m0 a1 b1
  have v := dm (F := m) (r := q2) (f := r2) m0 a2 b2
  rw [Int.mul_comm q1 m, e] at u
  rw [Int.mul_comm q2 m] at v
  exact ⟨u.1.symm.trans v.1, u.2.symm.trans v.2⟩
/-- where the mask of a set, a number and a man lies -/
def mkx (h : Hp) (rm rb re : Nat) (set : Nat) (q : Int) (sd : Int) (j : Nat) : Int := (hI h rb set).toInt + (hI h rm set).toInt * q + rkC (fun i => ((hI h re (5 * set + i) - (1 : Int32)) &&& (1 : Int32)).toInt) sd j (hI h rm set).toNatClampNeg
section
variable {h : Hp} {x0 rm rb re F : Nat} {x1 x2 x3 : Int32}
theorem mask_x (i1 : Rg 0 4095 x1) (im : Rg 0 5 (hI h rm x1.toNatClampNeg)) (em : hR h x0 46 = some rm) (eb : hR h x0 53 = some rb) (ee : hR h x0 47 = some re) (a2 : 0 ≤ x2.toInt) (a3 : 0 ≤ x3.toInt) (ib : 0 ≤ (hI h rb x1.toNatClampNeg).toInt) (bb : (hI h rb x1.toNatClampNeg).toInt + (hI h rm x1.toNatClampNeg).toInt * (x2.toInt / 2) + 5 ≤ 2000000000) {o : Int32 × Hp} (e : sX15_maskOf F h x0 x1 x2 x3 = some o) : o.2 = h ∧ o.1.toInt = mkx h rm rb re x1.toNatClampNeg (x2.toInt / 2) (x2 &&& (1 : Int32)).toInt x3.toNatClampNeg := by
  have m0 := im.1
  have m5 := im.2
  have cm := clamp_i m0
  have c3 := clamp_i a3
  have lp : ∀ (f : Nat) {x5 x6 : Int32}, 0 ≤ x6.toInt → x6.toInt ≤ (hI h rm x1.toNatClampNeg).toInt → x5.toInt = rkC (fun i => ((hI h re (5 * x1.toNatClampNeg + i) - (1 : Int32)) &&& (1 : Int32)).toInt) (x2 &&& (1 : Int32)).toInt x3.toNatClampNeg x6.toNatClampNeg → sX15_maskOf_11 F f h x0 x1 x2 x3 (x2 &&& (1 : Int32)) x5 x6 = some o → o.2 = h ∧ o.1.toInt = mkx h rm rb re x1.toNatClampNeg (x2.toInt / 2) (x2 &&& (1 : Int32)).toInt x3.toNatClampNeg := by
    intro f
    induction f with
    | zero => intro x5 x6 _ _ _ e; exact absurd e (by simp [sX15_maskOf_11])
    | succ f ih =>
      intro x5 x6 a6 b6 e5 e
      have c6 := clamp_i a6
      obtain ⟨k0, k1⟩ := rkC_b (own := fun i => ((hI h re (5 * x1.toNatClampNeg + i) - (1 : Int32)) &&& (1 : Int32)).toInt) (sd := (x2 &&& (1 : Int32)).toInt) (j := x3.toNatClampNeg) x6.toNatClampNeg
      rw [← e5] at k0 k1
      unfold sX15_maskOf_11 at e
      replace e := cl_s e; obtain ⟨r1, p, e⟩ := e
      have := r_eq em p; subst this
      replace e := (gd_s e).2
      replace e := br_s e; rcases e with ⟨cc, e⟩ | ⟨cc, e⟩
      · have cc := le_i cc
        replace e := cl_s e; obtain ⟨r4, p, e⟩ := e
        have := r_eq eb p; subst this
        replace e := (gd_s e).2
        replace e := cl_s e; obtain ⟨r6, p, e⟩ := e
        have := r_eq em p; subst this
        replace e := (gd_s e).2
        have e := Option.some.inj e; subst e
        refine ⟨rfl, ?_⟩
        have en : x6.toNatClampNeg = (hI h r6 x1.toNatClampNeg).toNatClampNeg := by omega
        rw [en] at e5
        have eq2 : (x2 >>> ((1 : Int32) &&& 31)).toInt = x2.toInt / 2 := ti_shr1
        have mn : 0 ≤ (hI h r6 x1.toNatClampNeg).toInt * (x2.toInt / 2) := Int.mul_nonneg m0 (by omega)
        have e1 : ((hI h r6 x1.toNatClampNeg) * (x2 >>> ((1 : Int32) &&& 31))).toInt = (hI h r6 x1.toNatClampNeg).toInt * (x2.toInt / 2) := by rw [tm ⟨by rw [eq2]; omega, by rw [eq2]; omega⟩, eq2]
        have e2 : ((hI h r4 x1.toNatClampNeg) + ((hI h r6 x1.toNatClampNeg) * (x2 >>> ((1 : Int32) &&& 31)))).toInt = (hI h r4 x1.toNatClampNeg).toInt + (hI h r6 x1.toNatClampNeg).toInt * (x2.toInt / 2) := by rw [ta ⟨by rw [e1]; omega, by rw [e1]; omega⟩, e1]
        show (((hI h r4 x1.toNatClampNeg) + ((hI h r6 x1.toNatClampNeg) * (x2 >>> ((1 : Int32) &&& 31)))) + x5).toInt = _
        rw [ta ⟨by rw [e2]; omega, by rw [e2]; omega⟩, e2, e5]
        rfl
      · have cc := nle_i cc
        have i6 : Rg 0 4 x6 := ⟨a6, by omega⟩
        have i5 : Rg 0 4 x5 := ⟨k0, by omega⟩
        have n5 := nc_s i5 (by decide)
        have n6 := nc_s i6 (by decide)
        replace e := cl_s e; obtain ⟨r8, p, e⟩ := e
        have := r_eq ee p; subst this
        replace e := (gd_s e).2
        rw [(ix5 i1 i6).2] at e
        replace e := cl_s e; obtain ⟨o10, e10, e⟩ := e
        unfold sX15_sideOf at e10
        have := Option.some.inj e10; subst this
        dsimp only at e
        unfold sX15_maskOf_60 sX15_maskOf_64 sX15_maskOf_65 at e
        simp only [nm] at e
        have st : ∀ (b : Int), (b = if ((hI h r8 (5 * x1.toNatClampNeg + x6.toNatClampNeg) - (1 : Int32)) &&& (1 : Int32)).toInt < (x2 &&& (1 : Int32)).toInt ∨ (((hI h r8 (5 * x1.toNatClampNeg + x6.toNatClampNeg) - (1 : Int32)) &&& (1 : Int32)).toInt = (x2 &&& (1 : Int32)).toInt ∧ x6.toNatClampNeg < x3.toNatClampNeg) then 1 else 0) → x5.toInt + b = rkC (fun i => ((hI h r8 (5 * x1.toNatClampNeg + i) - (1 : Int32)) &&& (1 : Int32)).toInt) (x2 &&& (1 : Int32)).toInt x3.toNatClampNeg (x6 + (1 : Int32)).toNatClampNeg := by
          intro b eb
          rw [n6.1, eb, e5]
          rfl
        have z0 : (x5 + (0 : Int32)).toInt = x5.toInt := by
          rw [ta (by show _ ≤ x5.toInt + 0 ∧ x5.toInt + 0 ≤ _; omega)]
          show x5.toInt + 0 = _
          omega
        replace e := br_s e; rcases e with ⟨c1, e⟩ | ⟨c1, e⟩
        · exact ih (by omega) (by omega) (by rw [n5.2]; exact st 1 (by rw [if_pos (Or.inl (lt_i c1))])) e
        have c1 := nlt_i c1
        replace e := br_s e; rcases e with ⟨c2, e⟩ | ⟨c2, e⟩
        · have c2' := congrArg Int32.toInt c2
          replace e := br_s e; rcases e with ⟨c3', e⟩ | ⟨c3', e⟩
          · have c3' := le_i c3'
            exact ih (by omega) (by omega) (by rw [z0]; have := st 0 (by rw [if_neg (by omega)]); omega) e
          · have c3' := nle_i c3'
            exact ih (by omega) (by omega) (by rw [n5.2]; exact st 1 (by rw [if_pos (Or.inr ⟨c2', by omega⟩)])) e
        · have c2' : ¬ ((hI h r8 (5 * x1.toNatClampNeg + x6.toNatClampNeg) - (1 : Int32)) &&& (1 : Int32)).toInt = (x2 &&& (1 : Int32)).toInt := fun w => c2 (Int32.toInt_inj.mp w)
          exact ih (by omega) (by omega) (by rw [z0]; have := st 0 (by rw [if_neg (by omega)]); omega) e
  unfold sX15_maskOf at e
  simp only [nm] at e
  exact lp F (x5 := 0) (x6 := 0) (by decide) (by show (0 : Int) ≤ _; exact m0) rfl e
end
