/-! packed moves as numbers -/
def PkI (t s m b a k p : Int) : Int := t + 64 * s + 4096 * m + 65536 * b + 1048576 * a + 16777216 * k + 67108864 * p
def PkR (t s m b a k p : Int) : Prop := (0 ≤ t ∧ t < 64) ∧ (0 ≤ s ∧ s < 64) ∧ (0 ≤ m ∧ m < 16) ∧ (0 ≤ b ∧ b < 16) ∧ (0 ≤ a ∧ a < 16) ∧ (0 ≤ k ∧ k < 4) ∧ (0 ≤ p ∧ p < 8)
/-- x is that move -/
def PkM (x : Int32) (t s m b a k p : Int) : Prop := PkR t s m b a k p ∧ x.toInt = PkI t s m b a k p
theorem pk_fd {x : Int32} {t s m b a k p : Int} (P : PkM x t s m b a k p) : (x &&& (63 : Int32)).toInt = t ∧ ((x >>> ((6 : Int32) &&& 31)) &&& (63 : Int32)).toInt = s ∧ ((x >>> ((12 : Int32) &&& 31)) &&& (15 : Int32)).toInt = m ∧ ((x >>> ((16 : Int32) &&& 31)) &&& (15 : Int32)).toInt = b ∧ ((x >>> ((20 : Int32) &&& 31)) &&& (15 : Int32)).toInt = a ∧ ((x >>> ((24 : Int32) &&& 31)) &&& (3 : Int32)).toInt = k ∧ ((x >>> ((26 : Int32) &&& 31)) &&& (7 : Int32)).toInt = p := by
  obtain ⟨⟨⟨t0, t1⟩, ⟨s0, s1⟩, ⟨m0, m1⟩, ⟨b0, b1⟩, ⟨a0, a1⟩, ⟨k0, k1⟩, ⟨p0, p1⟩⟩, e⟩ := P
  unfold PkI at e
  have s6 : (x >>> ((6 : Int32) &&& 31)).toInt = x.toInt / 64 := shr_i 6 (by decide)
  have s12 : (x >>> ((12 : Int32) &&& 31)).toInt = x.toInt / 4096 := shr_i 12 (by decide)
  have s16 : (x >>> ((16 : Int32) &&& 31)).toInt = x.toInt / 65536 := shr_i 16 (by decide)
  have s20' : (x >>> ((20 : Int32) &&& 31)).toInt = x.toInt / 1048576 := shr_i 20 (by decide)
  have s24 : (x >>> ((24 : Int32) &&& 31)).toInt = x.toInt / 16777216 := shr_i 24 (by decide)
  have s26' : (x >>> ((26 : Int32) &&& 31)).toInt = x.toInt / 67108864 := shr_i 26 (by decide)
  have c6 : ((2 ^ 6 : Nat) : Int) = 64 := by decide
  have c4 : ((2 ^ 4 : Nat) : Int) = 16 := by decide
  have c3 : ((2 ^ 3 : Nat) : Int) = 8 := by decide
  have c2 : ((2 ^ 2 : Nat) : Int) = 4 := by decide
  refine ⟨?_, ?_, ?_, ?_, ?_, ?_, ?_⟩
  · rw [and_i (m := 6) (by omega) (by decide) rfl, c6]; omega
  · rw [and_i (m := 6) (by rw [s6]; omega) (by decide) rfl, s6, c6]; omega
  · rw [and_i (m := 4) (by rw [s12]; omega) (by decide) rfl, s12, c4]; omega
  · rw [and_i (m := 4) (by rw [s16]; omega) (by decide) rfl, s16, c4]; omega
  · rw [and_i (m := 4) (by rw [s20']; omega) (by decide) rfl, s20', c4]; omega
  · rw [and_i (m := 2) (by rw [s24]; omega) (by decide) rfl, s24, c2]; omega
  · rw [and_i (m := 3) (by rw [s26']; omega) (by decide) rfl, s26', c3]; omega
theorem pk_plain {h : Hp} {x0 x1 x2 x3 : Int32} {o : Int32 × Hp} (i0 : Rg 0 63 x0) (i1 : Rg 0 63 x1) (i2 : Rg 0 11 x2) (i3 : Rg 0 3 x3) (e : sX5_plainMove h x0 x1 x2 x3 = some o) : o.2 = h ∧ PkM o.1 x1.toInt x0.toInt x2.toInt 15 15 x3.toInt 0 := by
  unfold sX5_plainMove at e
  rw [so_e e]
  refine ⟨rfl, ⟨⟨i1.1, by have := i1.2; omega⟩, ⟨i0.1, by have := i0.2; omega⟩, ⟨i2.1, by have := i2.2; omega⟩, by omega, by omega, ⟨i3.1, by have := i3.2; omega⟩, by omega⟩, ?_⟩
  have a0 := i0.1
  have b0 := i0.2
  have a1 := i1.1
  have b1 := i1.2
  have a2 := i2.1
  have b2 := i2.2
  have a3 := i3.1
  have b3 := i3.2
  have c6 : ((2 ^ 6 : Nat) : Int) = 64 := by decide
  have c12 : ((2 ^ 12 : Nat) : Int) = 4096 := by decide
  have c16 : ((2 ^ 16 : Nat) : Int) = 65536 := by decide
  have c20 : ((2 ^ 20 : Nat) : Int) = 1048576 := by decide
  have c24 : ((2 ^ 24 : Nat) : Int) = 16777216 := by decide
  have s0 : (x0 <<< ((6 : Int32) &&& 31)).toInt = x0.toInt * 64 := by rw [shl_i (m := 6) (by decide) a0 (by rw [c6]; omega), c6]
  have s2 : (x2 <<< ((12 : Int32) &&& 31)).toInt = x2.toInt * 4096 := by rw [shl_i (m := 12) (by decide) a2 (by rw [c12]; omega), c12]
  have s3 : (x3 <<< ((24 : Int32) &&& 31)).toInt = x3.toInt * 16777216 := by rw [shl_i (m := 24) (by decide) a3 (by rw [c24]; omega), c24]
  have k1 : (983040 : Int32).toInt = 15 * 65536 := rfl
  have k2 : (15728640 : Int32).toInt = 15 * 1048576 := rfl
  have o1 : (x1 ||| (x0 <<< ((6 : Int32) &&& 31))).toInt = x1.toInt + x0.toInt * 64 := by rw [or_i (m := 6) (z := x0.toInt) a1 (by rw [c6]; omega) a0 (by rw [s0, c6]) (by rw [s0]; omega), s0]
  have o2 : ((x1 ||| (x0 <<< ((6 : Int32) &&& 31))) ||| (x2 <<< ((12 : Int32) &&& 31))).toInt = x1.toInt + x0.toInt * 64 + x2.toInt * 4096 := by rw [or_i (m := 12) (z := x2.toInt) (by rw [o1]; omega) (by rw [o1, c12]; omega) a2 (by rw [s2, c12]) (by rw [o1, s2]; omega), o1, s2]
  have o3 : (((x1 ||| (x0 <<< ((6 : Int32) &&& 31))) ||| (x2 <<< ((12 : Int32) &&& 31))) ||| (983040 : Int32)).toInt = x1.toInt + x0.toInt * 64 + x2.toInt * 4096 + 15 * 65536 := by rw [or_i (m := 16) (z := 15) (by rw [o2]; omega) (by rw [o2, c16]; omega) (by decide) (by rw [k1, c16]) (by rw [o2, k1]; omega), o2, k1]
  have o4 : ((((x1 ||| (x0 <<< ((6 : Int32) &&& 31))) ||| (x2 <<< ((12 : Int32) &&& 31))) ||| (983040 : Int32)) ||| (15728640 : Int32)).toInt = x1.toInt + x0.toInt * 64 + x2.toInt * 4096 + 15 * 65536 + 15 * 1048576 := by rw [or_i (m := 20) (z := 15) (by rw [o3]; omega) (by rw [o3, c20]; omega) (by decide) (by rw [k2, c20]) (by rw [o3, k2]; omega), o3, k2]
  show (_ ||| _ : Int32).toInt = _
  rw [or_i (m := 24) (z := x3.toInt) (by rw [o4]; omega) (by rw [o4, c24]; omega) a3 (by rw [s3, c24]) (by rw [o4, s3]; omega), o4, s3]
  unfold PkI
  omega
/-- bits taken out of a number -/
theorem nat_clr {X p : Nat} (hp : p + 4 ≤ 31) (hX : X < 2 ^ 31) : X &&& (2 ^ 32 - 1 - 15 * 2 ^ p) = X % 2 ^ p + X / 2 ^ (p + 4) * 2 ^ (p + 4) := by
  apply Nat.eq_of_testBit_eq
  intro i
  have e : X % 2 ^ p + X / 2 ^ (p + 4) * 2 ^ (p + 4) = 2 ^ (p + 4) * (X / 2 ^ (p + 4)) + X % 2 ^ p := by rw [Nat.mul_comm, Nat.add_comm]
  have lt : X % 2 ^ p < 2 ^ (p + 4) := Nat.lt_of_lt_of_le (Nat.mod_lt _ (Nat.two_pow_pos p)) (Nat.pow_le_pow_right (by decide) (by omega))
  have m : 2 ^ 32 - 1 - 15 * 2 ^ p = 2 ^ (p + 4) * (2 ^ (28 - p) - 1) + (2 ^ p - 1) := by
    have h1 : 2 ^ 32 = 2 ^ (p + 4) * 2 ^ (28 - p) := by rw [← Nat.pow_add]; congr 1; omega
    have h2 : 2 ^ (p + 4) = 16 * 2 ^ p := by rw [Nat.pow_add, Nat.mul_comm]
    have h3 := Nat.two_pow_pos (28 - p)
    rw [h1, Nat.mul_sub, Nat.mul_one, h2]
    have h4 : 16 * 2 ^ p ≤ 16 * 2 ^ p * 2 ^ (28 - p) := Nat.le_mul_of_pos_right _ h3
    have h5 := Nat.two_pow_pos p
    omega
  have ml : 2 ^ p - 1 < 2 ^ (p + 4) := Nat.lt_of_lt_of_le (by have := Nat.two_pow_pos p; omega) (Nat.pow_le_pow_right (by decide) (show p ≤ p + 4 by omega))
  rw [e, Nat.testBit_and, m, Nat.testBit_two_pow_mul_add _ lt, Nat.testBit_two_pow_mul_add _ ml]
  by_cases c : i < p + 4
  · rw [if_pos c, if_pos c, Nat.testBit_two_pow_sub_one, Nat.testBit_mod_two_pow, Bool.and_comm]
  · rw [if_neg c, if_neg c, Nat.testBit_two_pow_sub_one, Nat.testBit_div_two_pow]
    by_cases d : i - (p + 4) < 28 - p
    · rw [decide_eq_true d, Bool.and_true]
      congr 1
      omega
    · rw [decide_eq_false d, Bool.and_false]
      symm
      rw [show i - (p + 4) + (p + 4) = i by omega]
      exact Nat.testBit_lt_two_pow (Nat.lt_of_lt_of_le hX (Nat.pow_le_pow_right (by decide) (by omega)))
theorem clr_i {x y : Int32} {p : Nat} (hp : p + 4 ≤ 31) (x0 : 0 ≤ x.toInt) (ey : y.toBitVec.toNat = 2 ^ 32 - 1 - 15 * 2 ^ p) : (x &&& y).toInt = x.toInt % ((2 ^ p : Nat) : Int) + x.toInt / ((2 ^ (p + 4) : Nat) : Int) * ((2 ^ (p + 4) : Nat) : Int) := by
  have xn : (x.toBitVec.toNat : Int) = x.toInt ∧ x.toBitVec.toNat < 2 ^ 31 := by
    have h1 : x.toInt = x.toBitVec.toInt := rfl
    have h2 := BitVec.toInt_eq_toNat_cond x.toBitVec
    have h3 := x.toBitVec.isLt
    rw [h1] at x0
    rw [h1]
    by_cases c : 2 * x.toBitVec.toNat < 2 ^ 32
    · rw [if_pos c] at h2
      omega
    · rw [if_neg c] at h2
      omega
  have v : (x &&& y).toBitVec.toNat = x.toBitVec.toNat % 2 ^ p + x.toBitVec.toNat / 2 ^ (p + 4) * 2 ^ (p + 4) := by
    rw [Int32.toBitVec_and, BitVec.toNat_and, ey, nat_clr hp xn.2]
  have le : x.toBitVec.toNat % 2 ^ p + x.toBitVec.toNat / 2 ^ (p + 4) * 2 ^ (p + 4) ≤ x.toBitVec.toNat := by
    rw [← nat_clr hp xn.2]
    exact Nat.and_le_left
  show (x &&& y).toBitVec.toInt = _
  rw [BitVec.toInt_eq_toNat_of_lt (by rw [v]; omega), v, ← xn.1]
  rw [Int.natCast_add, Int.natCast_mul, Int.natCast_emod, Int.natCast_ediv]
theorem nn_i {x : Int32} (x0 : 0 ≤ x.toInt) : (x.toBitVec.toNat : Int) = x.toInt ∧ x.toBitVec.toNat < 2 ^ 31 := by
  have h1 : x.toInt = x.toBitVec.toInt := rfl
  have h2 := BitVec.toInt_eq_toNat_cond x.toBitVec
  have h3 := x.toBitVec.isLt
  rw [h1] at x0
  rw [h1]
  by_cases c : 2 * x.toBitVec.toNat < 2 ^ 32
  · rw [if_pos c] at h2
    omega
  · rw [if_neg c] at h2
    omega
/-- a field laid into a gap -/
theorem or_f {x y : Int32} {p : Nat} {lo H z : Int} (ex : x.toInt = lo + H * ((2 ^ (p + 4) : Nat) : Int)) (l0 : 0 ≤ lo) (l1 : lo < ((2 ^ p : Nat) : Int)) (H0 : 0 ≤ H) (ey : y.toInt = z * ((2 ^ p : Nat) : Int)) (z0 : 0 ≤ z) (z1 : z < 16) (sm : x.toInt + y.toInt < 2147483648) : (x ||| y).toInt = x.toInt + y.toInt := by
  have pp : (0 : Int) < ((2 ^ p : Nat) : Int) := by have := Nat.two_pow_pos p; omega
  have y0 : 0 ≤ y.toInt := by rw [ey]; exact Int.mul_nonneg z0 (by omega)
  have x0 : 0 ≤ x.toInt := by
    have : 0 ≤ H * ((2 ^ (p + 4) : Nat) : Int) := Int.mul_nonneg H0 (Int.natCast_nonneg _)
    omega
  obtain ⟨xn, xb⟩ := nn_i x0
  obtain ⟨yn, yb⟩ := nn_i y0
  obtain ⟨l, hl⟩ : ∃ l : Nat, lo = (l : Int) := ⟨lo.toNat, by omega⟩
  obtain ⟨g, hg⟩ : ∃ g : Nat, H = (g : Int) := ⟨H.toNat, by omega⟩
  obtain ⟨w, hw⟩ : ∃ w : Nat, z = (w : Int) := ⟨z.toNat, by omega⟩
  have X : x.toBitVec.toNat = 2 ^ (p + 4) * g + l := by
    have : ((2 ^ (p + 4) * g + l : Nat) : Int) = x.toInt := by
      rw [ex, hl, hg, Int.natCast_add, Int.natCast_mul, Int.mul_comm]; omega
    omega
  have Y : y.toBitVec.toNat = 2 ^ p * w := by
    have : ((2 ^ p * w : Nat) : Int) = y.toInt := by
      rw [ey, hw, Int.natCast_mul, Int.mul_comm]
    omega
  have ll : l < 2 ^ p := by omega
  have p4 : 2 ^ (p + 4) = 2 ^ p * 16 := by rw [Nat.pow_add]
  have wl' : 2 ^ p * w + l < 2 ^ (p + 4) := by
    have : 2 ^ p * w ≤ 2 ^ p * 15 := Nat.mul_le_mul_left _ (by omega)
    omega
  have ll' : l < 2 ^ (p + 4) := by omega
  have v : (x ||| y).toBitVec.toNat = x.toBitVec.toNat + y.toBitVec.toNat := by
    rw [Int32.toBitVec_or, BitVec.toNat_or, X, Y, Nat.two_pow_add_eq_or_of_lt ll', Nat.or_assoc, Nat.or_comm l, ← Nat.two_pow_add_eq_or_of_lt ll, ← Nat.two_pow_add_eq_or_of_lt wl', ← Nat.two_pow_add_eq_or_of_lt ll']
    omega
  show (x ||| y).toBitVec.toInt = _
  rw [BitVec.toInt_eq_toNat_of_lt (by rw [v]; omega), v, Int.natCast_add, xn, yn]
section
variable {h : Hp} {x y : Int32} {t s m b a k p : Int} {o : Int32 × Hp}
theorem pk_taken (P : PkM x t s m b a k p) (iy : Rg 0 15 y) : PkM ((x &&& (-15728641 : Int32)) ||| (y <<< ((20 : Int32) &&& 31))) t s m b y.toInt k p := by
  obtain ⟨⟨⟨t0, t1⟩, ⟨s0, s1⟩, ⟨m0, m1⟩, ⟨b0, b1⟩, ⟨a0, a1⟩, ⟨k0, k1⟩, ⟨p0, p1⟩⟩, e⟩ := P
  have y0 := iy.1
  have y1 := iy.2
  unfold PkI at e
  have c20 : ((2 ^ 20 : Nat) : Int) = 1048576 := by decide
  have c24 : ((2 ^ (20 + 4) : Nat) : Int) = 16777216 := by decide
  have cl := clr_i (x := x) (y := (-15728641 : Int32)) (p := 20) (by decide) (by omega) (by decide)
  rw [c20, c24] at cl
  have v : (x &&& (-15728641 : Int32)).toInt = (t + 64 * s + 4096 * m + 65536 * b) + (k + 4 * p) * 16777216 := by rw [cl]; omega
  have sy : (y <<< ((20 : Int32) &&& 31)).toInt = y.toInt * 1048576 := by rw [shl_i (m := 20) (by decide) y0 (by rw [c20]; omega), c20]
  refine ⟨⟨⟨t0, t1⟩, ⟨s0, s1⟩, ⟨m0, m1⟩, ⟨b0, b1⟩, ⟨y0, by omega⟩, ⟨k0, k1⟩, ⟨p0, p1⟩⟩, ?_⟩
  rw [or_f (p := 20) (lo := t + 64 * s + 4096 * m + 65536 * b) (H := k + 4 * p) (z := y.toInt) (by rw [v, c24]) (by omega) (by rw [c20]; omega) (by omega) (by rw [sy, c20]) y0 (by omega) (by rw [v, sy]; omega), v, sy]
  unfold PkI
  omega
theorem pk_become (P : PkM x t s m b a k p) (iy : Rg 0 15 y) (e' : sX5_becoming h x y = some o) : o.2 = h ∧ PkM o.1 t s m y.toInt a k p := by
  unfold sX5_becoming at e'
  rw [so_e e']
  refine ⟨rfl, ?_⟩
  obtain ⟨⟨⟨t0, t1⟩, ⟨s0, s1⟩, ⟨m0, m1⟩, ⟨b0, b1⟩, ⟨a0, a1⟩, ⟨k0, k1⟩, ⟨p0, p1⟩⟩, e⟩ := P
  have y0 := iy.1
  have y1 := iy.2
  unfold PkI at e
  have c16 : ((2 ^ 16 : Nat) : Int) = 65536 := by decide
  have c20 : ((2 ^ (16 + 4) : Nat) : Int) = 1048576 := by decide
  have cl := clr_i (x := x) (y := (-983041 : Int32)) (p := 16) (by decide) (by omega) (by decide)
  rw [c16, c20] at cl
  have v : (x &&& (-983041 : Int32)).toInt = (t + 64 * s + 4096 * m) + (a + 16 * k + 64 * p) * 1048576 := by rw [cl]; omega
  have sy : (y <<< ((16 : Int32) &&& 31)).toInt = y.toInt * 65536 := by rw [shl_i (m := 16) (by decide) y0 (by rw [c16]; omega), c16]
  refine ⟨⟨⟨t0, t1⟩, ⟨s0, s1⟩, ⟨m0, m1⟩, ⟨y0, by omega⟩, ⟨a0, a1⟩, ⟨k0, k1⟩, ⟨p0, p1⟩⟩, ?_⟩
  show ((x &&& (-983041 : Int32)) ||| (y <<< ((16 : Int32) &&& 31))).toInt = _
  rw [or_f (p := 16) (lo := t + 64 * s + 4096 * m) (H := a + 16 * k + 64 * p) (z := y.toInt) (by rw [v, c20]) (by omega) (by rw [c16]; omega) (by omega) (by rw [sy, c16]) y0 (by omega) (by rw [v, sy]; omega), v, sy]
  unfold PkI
  omega
theorem pk_pass (P : PkM x t s m b a k 0) (iy : Rg 0 7 y) : PkM (x ||| (y <<< ((26 : Int32) &&& 31))) t s m b a k y.toInt := by
  obtain ⟨⟨⟨t0, t1⟩, ⟨s0, s1⟩, ⟨m0, m1⟩, ⟨b0, b1⟩, ⟨a0, a1⟩, ⟨k0, k1⟩, _⟩, e⟩ := P
  have y0 := iy.1
  have y1 := iy.2
  unfold PkI at e
  have c26 : ((2 ^ 26 : Nat) : Int) = 67108864 := by decide
  have sy : (y <<< ((26 : Int32) &&& 31)).toInt = y.toInt * 67108864 := by rw [shl_i (m := 26) (by decide) y0 (by rw [c26]; omega), c26]
  refine ⟨⟨⟨t0, t1⟩, ⟨s0, s1⟩, ⟨m0, m1⟩, ⟨b0, b1⟩, ⟨a0, a1⟩, ⟨k0, k1⟩, ⟨y0, by omega⟩⟩, ?_⟩
  rw [or_i (m := 26) (z := y.toInt) (by omega) (by rw [c26]; omega) y0 (by rw [sy, c26]) (by rw [sy]; omega), sy]
  unfold PkI
  omega
end
