def Rg (lo hi : Int) (x : Int32) : Prop := lo ≤ x.toInt ∧ x.toInt ≤ hi
def rgb (lo hi : Int) (x : Int32) : Bool := decide (lo ≤ x.toInt) && decide (x.toInt ≤ hi)
theorem rg_b {lo hi : Int} {x : Int32} (h : rgb lo hi x = true) : Rg lo hi x := by
  unfold rgb at h
  simp only [Bool.and_eq_true, decide_eq_true_eq] at h
  exact h
theorem rg_top (x : Int32) : Rg (-2147483648) 2147483647 x := by
  have h1 := Int32.le_toInt x
  have h2 := Int32.toInt_lt x
  refine ⟨?_, ?_⟩
  · have : (-2 : Int) ^ 31 = -2147483648 := by decide
    omega
  · have : (2 : Int) ^ 31 = 2147483648 := by decide
    omega
theorem rg_m {a b lo hi : Int} {x : Int32} (h : Rg a b x) (e : lo ≤ a ∧ b ≤ hi) : Rg lo hi x := ⟨Int.le_trans e.1 h.1, Int.le_trans h.2 e.2⟩
theorem rg_i {a b c d : Int} {x : Int32} (h : Rg a b x) (k : Rg c d x) : Rg a d x := ⟨h.1, k.2⟩
-- the int of an Int in range
theorem ti_ofInt {z : Int} (h1 : -2147483648 ≤ z) (h2 : z ≤ 2147483647) : (Int32.ofInt z).toInt = z := by
  have e1 : -2 ^ 31 ≤ z := by
    have : (2 : Int) ^ 31 = 2147483648 := by decide
    omega
  have e2 : z < 2 ^ 31 := by
    have : (2 : Int) ^ 31 = 2147483648 := by decide
    omega
  exact Int32.toInt_ofInt_of_le e1 e2
theorem rg_add {a b c d lo hi : Int} {x y : Int32} (hx : Rg a b x) (hy : Rg c d y) (e : lo ≤ a + c ∧ b + d ≤ hi ∧ -2147483648 ≤ a + c ∧ b + d ≤ 2147483647) : Rg lo hi (x + y) := by
  have ex : x = Int32.ofInt x.toInt := (Int32.ofInt_toInt x).symm
  have ey : y = Int32.ofInt y.toInt := (Int32.ofInt_toInt y).symm
  obtain ⟨x1, x2⟩ := hx
  obtain ⟨y1, y2⟩ := hy
  have : (x + y).toInt = x.toInt + y.toInt := by
    rw [ex, ey, ← Int32.ofInt_add, ti_ofInt (by omega) (by omega), ← ex, ← ey]
  unfold Rg
  rw [this]
  omega
theorem rg_neg {a b lo hi : Int} {x : Int32} (hx : Rg a b x) (e : lo ≤ -b ∧ -a ≤ hi ∧ -2147483647 ≤ a) : Rg lo hi (-x) := by
  have ex : x = Int32.ofInt x.toInt := (Int32.ofInt_toInt x).symm
  obtain ⟨x1, x2⟩ := hx
  have t := rg_top x
  have : (-x).toInt = -x.toInt := by
    rw [ex, ← Int32.ofInt_neg, ti_ofInt (by have := t.2; omega) (by omega), ← ex]
  unfold Rg
  rw [this]
  omega
theorem rg_sub {a b c d lo hi : Int} {x y : Int32} (hx : Rg a b x) (hy : Rg c d y) (e : lo ≤ a - d ∧ b - c ≤ hi ∧ -2147483648 ≤ a - d ∧ b - c ≤ 2147483647) : Rg lo hi (x - y) := by
  have ex : x = Int32.ofInt x.toInt := (Int32.ofInt_toInt x).symm
  have ey : y = Int32.ofInt y.toInt := (Int32.ofInt_toInt y).symm
  obtain ⟨x1, x2⟩ := hx
  obtain ⟨y1, y2⟩ := hy
  have : (x - y).toInt = x.toInt - y.toInt := by
    rw [ex, ey, ← Int32.ofInt_sub, ti_ofInt (by omega) (by omega), ← ex, ← ey]
  unfold Rg
  rw [this]
  omega
/-- both not negative -/
theorem rg_mul {a b c d lo hi : Int} {x y : Int32} (hx : Rg a b x) (hy : Rg c d y) (e : 0 ≤ a ∧ 0 ≤ c ∧ lo ≤ a * c ∧ b * d ≤ hi ∧ b * d ≤ 2147483647) : Rg lo hi (x * y) := by
  have ex : x = Int32.ofInt x.toInt := (Int32.ofInt_toInt x).symm
  have ey : y = Int32.ofInt y.toInt := (Int32.ofInt_toInt y).symm
  obtain ⟨x1, x2⟩ := hx
  obtain ⟨y1, y2⟩ := hy
  obtain ⟨e1, e2, e3, e4, e5⟩ := e
  have p1 : a * c ≤ x.toInt * y.toInt := Int.mul_le_mul x1 y1 e2 (Int.le_trans e1 x1)
  have p2 : x.toInt * y.toInt ≤ b * d := Int.mul_le_mul x2 y2 (Int.le_trans e2 y1) (Int.le_trans (Int.le_trans e1 x1) x2)
  have p0 : 0 ≤ a * c := Int.mul_nonneg e1 e2
  have : (x * y).toInt = x.toInt * y.toInt := by
    rw [ex, ey, ← Int32.ofInt_mul, ti_ofInt (by omega) (by omega), ← ex, ← ey]
  unfold Rg
  rw [this]
  omega
/-- the second is a number that is not negative -/
theorem rg_mulc {a b c lo hi : Int} {x y : Int32} (hx : Rg a b x) (hy : Rg c c y) (e : 0 ≤ c ∧ lo ≤ a * c ∧ b * c ≤ hi ∧ -2147483648 ≤ a * c ∧ b * c ≤ 2147483647) : Rg lo hi (x * y) := by
  have ex : x = Int32.ofInt x.toInt := (Int32.ofInt_toInt x).symm
  have ey : y = Int32.ofInt y.toInt := (Int32.ofInt_toInt y).symm
  obtain ⟨x1, x2⟩ := hx
  obtain ⟨y1, y2⟩ := hy
  obtain ⟨e1, e3, e4, e6, e5⟩ := e
  have yc : y.toInt = c := by omega
  have p1 : a * c ≤ x.toInt * c := Int.mul_le_mul_of_nonneg_right x1 e1
  have p2 : x.toInt * c ≤ b * c := Int.mul_le_mul_of_nonneg_right x2 e1
  have : (x * y).toInt = x.toInt * c := by
    rw [← yc, ex, ey, ← Int32.ofInt_mul, ti_ofInt (by rw [yc]; omega) (by rw [yc]; omega), ← ex, ← ey]
  unfold Rg
  rw [this]
  omega
theorem rg_mulc' {a b c lo hi : Int} {x y : Int32} (hx : Rg c c x) (hy : Rg a b y) (e : 0 ≤ c ∧ lo ≤ a * c ∧ b * c ≤ hi ∧ -2147483648 ≤ a * c ∧ b * c ≤ 2147483647) : Rg lo hi (x * y) := by
  rw [Int32.mul_comm]
  exact rg_mulc hy hx e
theorem rg_nI {a b : Int} {x : Int32} (hx : Rg a b x) (ha : 0 ≤ a) : ∃ k : Nat, x = nI k ∧ x.toInt = (k : Int) ∧ k < 2 ^ 31 := by
  have h0 : ¬ x < 0 := by
    rw [Int32.lt_iff_toInt_lt, show (0 : Int32).toInt = 0 from rfl]
    have := hx.1
    omega
  obtain ⟨e, b⟩ := z_nI h0
  refine ⟨x.toNatClampNeg, e, ?_, b⟩
  conv => lhs; rw [e]
  exact z_toInt b
theorem rg_and {c d : Int} {x y : Int32} (hy : Rg c d y) (hc : 0 ≤ c) : Rg 0 d (x &&& y) := by
  obtain ⟨k, e, ek, hk⟩ := rg_nI hy hc
  obtain ⟨m, em, hm⟩ := z_and x hk
  rw [e, em]
  have : (nI m).toInt = (m : Int) := z_toInt (by omega)
  have hd := hy.2
  unfold Rg
  rw [this]
  omega
theorem rg_and' {c d : Int} {x y : Int32} (hx : Rg c d x) (hc : 0 ≤ c) : Rg 0 d (x &&& y) := by
  rw [Int32.and_comm]
  exact rg_and hx hc
theorem rg_or {b d hi : Int} {x y : Int32} {n : Nat} (hx : Rg 0 b x) (hy : Rg 0 d y) (e : n ≤ 31 ∧ b < 2 ^ n ∧ d < 2 ^ n ∧ (2 : Int) ^ n - 1 ≤ hi) : Rg 0 hi (x ||| y) := by
  obtain ⟨j, ej, tj, hj⟩ := rg_nI hx (Int.le_refl 0)
  obtain ⟨k, ek, tk, hk⟩ := rg_nI hy (Int.le_refl 0)
  obtain ⟨n31, e1, e2, e3⟩ := e
  have jb := hx.2
  have kb := hy.2
  have pw : ((2 ^ n : Nat) : Int) = (2 : Int) ^ n := by simp
  have j2 : j < 2 ^ n := by
    have : (j : Int) < ((2 ^ n : Nat) : Int) := by rw [pw]; omega
    omega
  have k2 : k < 2 ^ n := by
    have : (k : Int) < ((2 ^ n : Nat) : Int) := by rw [pw]; omega
    omega
  have o2 : j ||| k < 2 ^ n := Nat.or_lt_two_pow j2 k2
  have p31 : 2 ^ n ≤ 2 ^ 31 := Nat.pow_le_pow_right (by decide) n31
  have eo : x ||| y = nI (j ||| k) := by
    rw [ej, ek]
    apply Int32.toBitVec_inj.mp
    apply BitVec.eq_of_toNat_eq
    have hz : ∀ i, i < 2 ^ 31 → (nI i).toBitVec.toNat = i := fun i hi => by
      show (BitVec.ofNat 32 i).toNat = i
      rw [BitVec.toNat_ofNat]
      exact Nat.mod_eq_of_lt (by omega)
    show ((nI j).toBitVec ||| (nI k).toBitVec).toNat = (nI (j ||| k)).toBitVec.toNat
    rw [BitVec.toNat_or, hz j hj, hz k hk, hz _ (by omega)]
  rw [eo]
  have t : (nI (j ||| k)).toInt = ((j ||| k : Nat) : Int) := z_toInt (by omega)
  unfold Rg
  rw [t]
  have : ((j ||| k : Nat) : Int) < ((2 ^ n : Nat) : Int) := by omega
  rw [pw] at this
  omega
-- what a question tells
theorem rg_lt1 {a b c d : Int} {x y : Int32} (h : x < y) (hx : Rg a b x) (hy : Rg c d y) : Rg a (d - 1) x := by
  rw [Int32.lt_iff_toInt_lt] at h
  have := hx.1; have := hy.2
  exact ⟨by omega, by omega⟩
theorem rg_lt2 {a b c d : Int} {x y : Int32} (h : x < y) (hx : Rg a b x) (hy : Rg c d y) : Rg (a + 1) d y := by
  rw [Int32.lt_iff_toInt_lt] at h
  have := hx.1; have := hy.2
  exact ⟨by omega, by omega⟩
theorem rg_le1 {a b c d : Int} {x y : Int32} (h : x ≤ y) (hx : Rg a b x) (hy : Rg c d y) : Rg a d x := by
  rw [Int32.le_iff_toInt_le] at h
  have := hx.1; have := hy.2
  exact ⟨by omega, by omega⟩
theorem rg_le2 {a b c d : Int} {x y : Int32} (h : x ≤ y) (hx : Rg a b x) (hy : Rg c d y) : Rg a d y := by
  rw [Int32.le_iff_toInt_le] at h
  have := hx.1; have := hy.2
  exact ⟨by omega, by omega⟩
theorem nlt_le {x y : Int32} (h : ¬ x < y) : y ≤ x := by
  rw [Int32.lt_iff_toInt_lt] at h
  rw [Int32.le_iff_toInt_le]
  omega
theorem nle_lt {x y : Int32} (h : ¬ x ≤ y) : y < x := by
  rw [Int32.le_iff_toInt_le] at h
  rw [Int32.lt_iff_toInt_lt]
  omega
theorem rg_eq {c d : Int} {x y : Int32} (h : x = y) (hy : Rg c d y) : Rg c d x := h ▸ hy
/-- the lowest one is left out -/
theorem rg_nlo {a b : Int} {x y : Int32} (h : ¬ x = y) (hx : Rg a b x) (hy : Rg a a y) : Rg (a + 1) b x := by
  rw [← Int32.toInt_inj] at h
  have := hx.1; have := hx.2; have := hy.1; have := hy.2
  exact ⟨by omega, by omega⟩
theorem rg_nhi {a b : Int} {x y : Int32} (h : ¬ x = y) (hx : Rg a b x) (hy : Rg b b y) : Rg a (b - 1) x := by
  rw [← Int32.toInt_inj] at h
  have := hx.1; have := hx.2; have := hy.1; have := hy.2
  exact ⟨by omega, by omega⟩
theorem rg_inB {a b : Int} {n : Nat} {x : Int32} (hx : Rg a b x) (e : 0 ≤ a ∧ b < (n : Int)) : inB x n := by
  obtain ⟨k, ek, tk, hk⟩ := rg_nI hx e.1
  have := hx.2
  rw [ek, z_inB hk]
  omega
theorem rg_inBl {a b : Int} {n : Nat} {x : Int32} (hx : Rg a b x) (ha : 0 ≤ a) (hn : n < 2 ^ 31) (h : ¬ nI n ≤ x) : inB x n := by
  obtain ⟨k, ek, tk, hk⟩ := rg_nI hx ha
  rw [ek, z_inB hk]
  rw [ek, z_le hn hk] at h
  omega
theorem rg_bool {x : Int32} (hx : Rg 0 1 x) : x &&& 1 = x := by
  obtain ⟨k, ek, tk, hk⟩ := rg_nI hx (Int.le_refl 0)
  have := hx.2
  have : k = 0 ∨ k = 1 := by omega
  rcases this with rfl | rfl
  · rw [ek]; decide
  · rw [ek]; decide
theorem rg_if {c : Prop} [Decidable c] {a b : Int} {x y : Int32} (hx : c → Rg a b x) (hy : ¬ c → Rg a b y) : Rg a b (if c then x else y) := by
  split
  · exact hx ‹_›
  · exact hy ‹_›
theorem rg_y (x : Int32) : Rg (-128) 127 x.toInt8.toInt32 := by
  unfold Rg
  rw [Int8.toInt_toInt32]
  have h1 := Int8.le_toInt x.toInt8
  have h2 := Int8.toInt_lt x.toInt8
  have e1 : (-2 : Int) ^ 7 = -128 := by decide
  have e2 : (2 : Int) ^ 7 = 128 := by decide
  omega
