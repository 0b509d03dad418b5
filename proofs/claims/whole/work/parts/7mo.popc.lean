/-! bits counted: what bitCount answers -/
def pcB (b : Nat → Bool) : Nat → Nat
  | 0 => 0
  | k + 1 => pcB b k + (if b k = true then 1 else 0)
theorem pcb_c {b c : Nat → Bool} : ∀ k, (∀ i, i < k → b i = c i) → pcB b k = pcB c k
  | 0, _ => rfl
  | k + 1, e => by
    show pcB b k + _ = pcB c k + _
    rw [pcb_c k (fun i hi => e i (by omega)), e k (by omega)]
theorem pcb_a {b : Nat → Bool} (m : Nat) : ∀ k, pcB b (m + k) = pcB b m + pcB (fun i => b (m + i)) k
  | 0 => rfl
  | k + 1 => by
    show pcB b (m + k) + _ = pcB b m + (pcB (fun i => b (m + i)) k + _)
    rw [pcb_a m k, Nat.add_assoc]
    rfl
theorem pcb_le {b : Nat → Bool} : ∀ k, pcB b k ≤ k
  | 0 => Nat.le_refl _
  | k + 1 => by
    have := pcb_le (b := b) k
    show pcB b k + _ ≤ _
    split <;> omega
/-- masks over bytes -/
def mkB (c : Nat) : Nat → Nat
  | 0 => 0
  | m + 1 => 256 * mkB c m + c
theorem cat_bit {a b i : Nat} (l : b < 256) : (256 * a + b).testBit i = if i < 8 then b.testBit i else a.testBit (i - 8) := Nat.testBit_two_pow_mul_add (i := 8) a l i
theorem cat_and {a b c d : Nat} (l : b < 256) (l' : d < 256) : (256 * a + b) &&& (256 * c + d) = 256 * (a &&& c) + (b &&& d) := by
  apply Nat.eq_of_testBit_eq
  intro i
  rw [Nat.testBit_and, cat_bit l, cat_bit l', cat_bit (Nat.lt_of_le_of_lt Nat.and_le_left l), Nat.testBit_and, Nat.testBit_and]
  split <;> rfl
theorem cat_sh {a b c d s : Nat} (l : b < 256) (hs : s ≤ 8) (l' : d < 2 ^ (8 - s)) : ((256 * a + b) >>> s) &&& (256 * c + d) = 256 * ((a >>> s) &&& c) + ((b >>> s) &&& d) := by
  have d2 : d < 256 := Nat.lt_of_lt_of_le l' (Nat.pow_le_pow_right (by decide) (show 8 - s ≤ 8 by omega))
  apply Nat.eq_of_testBit_eq
  intro i
  rw [Nat.testBit_and, Nat.testBit_shiftRight, cat_bit l, cat_bit d2, cat_bit (Nat.lt_of_le_of_lt Nat.and_le_right d2), Nat.testBit_and, Nat.testBit_and, Nat.testBit_shiftRight, Nat.testBit_shiftRight]
  by_cases z : i < 8
  · rw [if_pos z, if_pos z]
    by_cases y : s + i < 8
    · rw [if_pos y]
    · have : d.testBit i = false := Nat.testBit_lt_two_pow (Nat.lt_of_lt_of_le l' (Nat.pow_le_pow_right (by decide) (by omega)))
      rw [this, Bool.and_false, Bool.and_false]
  · rw [if_neg z, if_neg z, if_neg (show ¬ s + i < 8 by omega), show s + i - 8 = s + (i - 8) by omega]
def pV1 (m X : Nat) : Nat := X - ((X >>> 1) &&& mkB 85 m)
def pV2 (m X : Nat) : Nat := (pV1 m X &&& mkB 51 m) + ((pV1 m X >>> 2) &&& mkB 51 m)
def pV3 (m X : Nat) : Nat := (pV2 m X + (pV2 m X >>> 4)) &&& mkB 15 m
theorem by_1 : ∀ b : Fin 256, pV1 1 b.val < 256 ∧ pV2 1 b.val ≤ 68 ∧ pV2 1 b.val % 16 ≤ 4 ∧ pV3 1 b.val = pcB b.val.testBit 8 ∧ ((b.val >>> 1) &&& 85) ≤ b.val ∧ (pV2 1 b.val + pV2 1 b.val / 16) % 16 = pcB b.val.testBit 8 := by decide +kernel
theorem v1_s {m r b : Nat} (l : b < 256) : pV1 (m + 1) (256 * r + b) = 256 * pV1 m r + pV1 1 b := by
  have y := (by_1 ⟨b, l⟩).2.2.2.2.1
  have y2 : ((r >>> 1) &&& mkB 85 m) ≤ r := Nat.le_trans Nat.and_le_left (by rw [Nat.shiftRight_eq_div_pow]; omega)
  unfold pV1
  rw [show mkB 85 (m + 1) = 256 * mkB 85 m + 85 from rfl, cat_sh l (by decide) (by decide), show mkB 85 1 = 85 from rfl]
  have y : (b >>> 1) &&& 85 ≤ b := y
  omega
theorem v2_s {m r b : Nat} (l : b < 256) : pV2 (m + 1) (256 * r + b) = 256 * pV2 m r + pV2 1 b := by
  have y := (by_1 ⟨b, l⟩).1
  have y : pV1 1 b < 256 := y
  unfold pV2
  rw [v1_s l, show mkB 51 (m + 1) = 256 * mkB 51 m + 51 from rfl, cat_sh y (by decide) (by decide), cat_and y (by decide), show mkB 51 1 = 51 from rfl]
  omega
theorem v2_16 : ∀ (m X : Nat), pV2 m X % 16 ≤ 4
  | 0, X => by
    unfold pV2
    rw [show mkB 51 0 = 0 from rfl, Nat.and_zero, Nat.and_zero]
    decide
  | m + 1, X => by
    have y := (by_1 ⟨X % 256, Nat.mod_lt _ (by decide)⟩).2.2.1
    have y : pV2 1 (X % 256) % 16 ≤ 4 := y
    have e := v2_s (m := m) (r := X / 256) (b := X % 256) (Nat.mod_lt _ (by decide))
    rw [Nat.div_add_mod] at e
    omega
theorem v3_s {m r b : Nat} (l : b < 256) : pV3 (m + 1) (256 * r + b) = 256 * pV3 m r + pcB b.testBit 8 := by
  obtain ⟨_, y2, _, _, _, y6⟩ := by_1 ⟨b, l⟩
  have y2 : pV2 1 b ≤ 68 := y2
  have y6 : (pV2 1 b + pV2 1 b / 16) % 16 = pcB b.testBit 8 := y6
  have z := v2_16 m r
  unfold pV3
  rw [v2_s l, show mkB 15 (m + 1) = 256 * mkB 15 m + 15 from rfl, Nat.shiftRight_eq_div_pow, Nat.shiftRight_eq_div_pow]
  have e : 256 * pV2 m r + pV2 1 b + (256 * pV2 m r + pV2 1 b) / 2 ^ 4 = 256 * (pV2 m r + pV2 m r / 2 ^ 4) + (16 * (pV2 m r % 16) + pV2 1 b + pV2 1 b / 16) := by omega
  rw [e, cat_and (by omega) (by decide), show (15 : Nat) = 2 ^ 4 - 1 from rfl, Nat.and_two_pow_sub_one_eq_mod]
  have : (16 * (pV2 m r % 16) + pV2 1 b + pV2 1 b / 16) % 2 ^ 4 = pcB b.testBit 8 := by omega
  rw [this]
theorem v3_0 {X : Nat} : pV3 0 X = 0 := by
  unfold pV3
  rw [show mkB 15 0 = 0 from rfl, Nat.and_zero]
def byt (X j : Nat) : Nat := pcB ((X / 256 ^ j) % 256).testBit 8
theorem v3_d (m X : Nat) : pV3 (m + 1) X = 256 * pV3 m (X / 256) + byt X 0 := by
  have e := v3_s (m := m) (r := X / 256) (b := X % 256) (Nat.mod_lt _ (by decide))
  rw [Nat.div_add_mod] at e
  rw [e]
  unfold byt
  rw [Nat.pow_zero, Nat.div_one]
theorem byt_s {X j : Nat} : byt (X / 256) j = byt X (j + 1) := by
  unfold byt
  rw [Nat.div_div_eq_div_mul, Nat.pow_succ, Nat.mul_comm]
theorem v3_8 (X : Nat) : pV3 8 X = byt X 0 + 256 * (byt X 1 + 256 * (byt X 2 + 256 * (byt X 3 + 256 * (byt X 4 + 256 * (byt X 5 + 256 * (byt X 6 + 256 * byt X 7)))))) := by
  rw [v3_d, v3_d, v3_d, v3_d, v3_d, v3_d, v3_d, v3_d, v3_0]
  simp only [byt_s, Nat.reduceAdd]
  omega
theorem byt_b {X j : Nat} : byt X j = pcB (fun i => X.testBit (8 * j + i)) 8 := by
  unfold byt
  refine pcb_c 8 (fun i hi => ?_)
  rw [show (256 : Nat) = 2 ^ 8 from rfl, Nat.testBit_mod_two_pow, decide_eq_true hi, Bool.true_and, ← Nat.pow_mul, Nat.testBit_div_two_pow, Nat.add_comm]
theorem byt_a (X : Nat) : pcB X.testBit 64 = byt X 0 + byt X 1 + byt X 2 + byt X 3 + byt X 4 + byt X 5 + byt X 6 + byt X 7 := by
  rw [show (64 : Nat) = 8 + 56 from rfl, pcb_a 8 56, show (56 : Nat) = 8 + 48 from rfl, pcb_a 8 48, show (48 : Nat) = 8 + 40 from rfl, pcb_a 8 40, show (40 : Nat) = 8 + 32 from rfl, pcb_a 8 32, show (32 : Nat) = 8 + 24 from rfl, pcb_a 8 24, show (24 : Nat) = 8 + 16 from rfl, pcb_a 8 16, show (16 : Nat) = 8 + 8 from rfl, pcb_a 8 8]
  simp only [byt_b]
  have z : ∀ (a b : Nat), a = b → pcB (fun i => X.testBit (a + i)) 8 = pcB (fun i => X.testBit (b + i)) 8 := fun a b e => by rw [e]
  have e0 : pcB X.testBit 8 = pcB (fun i => X.testBit (8 * 0 + i)) 8 := pcb_c 8 (fun i _ => by rw [Nat.mul_zero, Nat.zero_add])
  rw [e0]
  simp only [← Nat.add_assoc]
/-- on words of 64 bits -/
abbrev nJ (x : Int64) : Nat := x.toBitVec.toNat
theorem nj_sh {x : Int64} {c : UInt64} {k : Nat} (hk : c.toNat % 64 = k) : nJ ((x.toUInt64 >>> c).toInt64) = nJ x >>> k := by
  show (x.toUInt64 >>> c).toNat = _
  rw [UInt64.toNat_shiftRight, hk]
  rfl
theorem nj_and {x y : Int64} : nJ (x &&& y) = nJ x &&& nJ y := by
  show (x &&& y).toBitVec.toNat = _
  rw [Int64.toBitVec_and, BitVec.toNat_and]
theorem nj_add {x y : Int64} (l : nJ x + nJ y < 2 ^ 64) : nJ (x + y) = nJ x + nJ y := by
  show (x + y).toBitVec.toNat = _
  rw [Int64.toBitVec_add, BitVec.toNat_add, Nat.mod_eq_of_lt l]
theorem nj_sub {x y : Int64} (l : nJ y ≤ nJ x) : nJ (x - y) = nJ x - nJ y := by
  have h := x.toBitVec.isLt
  show (x - y).toBitVec.toNat = _
  rw [Int64.toBitVec_sub, BitVec.toNat_sub]
  have l : y.toBitVec.toNat ≤ x.toBitVec.toNat := l
  show (2 ^ 64 - y.toBitVec.toNat + x.toBitVec.toNat) % 2 ^ 64 = x.toBitVec.toNat - y.toBitVec.toNat
  omega
/-- SO: bits that are set -/
theorem bitc_v {h : Hp} {x : Int64} {o : Int32 × Hp} (e : sJ13_bitCount_95d88 h x = some o) : o.2 = h ∧ o.1.toInt = (pcB (fun q => bitJ x q) 64 : Int) := by
  unfold sJ13_bitCount_95d88 at e
  obtain ⟨v1, w1, e⟩ := nm_s e
  obtain ⟨v2, w2, e⟩ := nm_s e
  obtain ⟨v3, w3, e⟩ := nm_s e
  obtain ⟨v4, w4, e⟩ := nm_s e
  obtain ⟨v5, w5, e⟩ := nm_s e
  obtain ⟨v6, w6, e⟩ := nm_s e
  rw [so_e e]
  refine ⟨rfl, ?_⟩
  have m1 : nJ 6148914691236517205 = mkB 85 8 := by decide +kernel
  have m2 : nJ 3689348814741910323 = mkB 51 8 := by decide +kernel
  have m3 : nJ 1085102592571150095 = mkB 15 8 := by decide +kernel
  have c1 : ((1 : Int32).toInt64.toUInt64 &&& Int64.toUInt64 63).toNat % 64 = 1 := by decide +kernel
  have c2 : ((2 : Int32).toInt64.toUInt64 &&& Int64.toUInt64 63).toNat % 64 = 2 := by decide +kernel
  have c4 : ((4 : Int32).toInt64.toUInt64 &&& Int64.toUInt64 63).toNat % 64 = 4 := by decide +kernel
  have c8 : ((8 : Int32).toInt64.toUInt64 &&& Int64.toUInt64 63).toNat % 64 = 8 := by decide +kernel
  have c16 : ((16 : Int32).toInt64.toUInt64 &&& Int64.toUInt64 63).toNat % 64 = 16 := by decide +kernel
  have c32 : ((32 : Int32).toInt64.toUInt64 &&& Int64.toUInt64 63).toNat % 64 = 32 := by decide +kernel
  have lx : nJ x < 2 ^ 64 := x.toBitVec.isLt
  have e1 : nJ v1 = pV1 8 (nJ x) := by
    rw [w1, nj_sub, nj_and, nj_sh c1, m1]
    · rfl
    · rw [nj_and, nj_sh c1, m1]
      exact Nat.le_trans Nat.and_le_left (by rw [Nat.shiftRight_eq_div_pow]; omega)
  have k2 : mkB 51 8 = 3689348814741910323 := by decide +kernel
  have e2 : nJ v2 = pV2 8 (nJ x) := by
    have a1 : nJ v1 &&& mkB 51 8 ≤ mkB 51 8 := Nat.and_le_right
    have a2 : (nJ v1 >>> 2) &&& mkB 51 8 ≤ mkB 51 8 := Nat.and_le_right
    rw [w2, nj_add, nj_and, nj_and, nj_sh c2, m2, e1]
    · rfl
    · rw [nj_and, nj_and, nj_sh c2, m2]
      rw [k2] at a1 a2 ⊢
      omega
  have e3 : nJ v3 = pV3 8 (nJ x) := by
    have b2 : nJ v2 ≤ 2 * mkB 51 8 := by
      rw [e2]
      unfold pV2
      have a1 : pV1 8 (nJ x) &&& mkB 51 8 ≤ mkB 51 8 := Nat.and_le_right
      have a2 : (pV1 8 (nJ x) >>> 2) &&& mkB 51 8 ≤ mkB 51 8 := Nat.and_le_right
      omega
    rw [k2] at b2
    rw [w3, nj_and, nj_add, nj_sh c4, m3, e2]
    · rfl
    · rw [nj_sh c4, Nat.shiftRight_eq_div_pow]
      omega
  rw [v3_8] at e3
  have b : ∀ q, byt (nJ x) q ≤ 8 := fun q => by rw [byt_b]; exact pcb_le 8
  have b0 := b 0
  have b1 := b 1
  have b2 := b 2
  have b3 := b 3
  have b4 := b 4
  have b5 := b 5
  have b6 := b 6
  have b7 := b 7
  have by' := byt_a (nJ x)
  have pc : pcB (fun q => bitJ x q) 64 = pcB (nJ x).testBit 64 := rfl
  rw [pc, by']
  generalize byt (nJ x) 0 = p0 at *
  generalize byt (nJ x) 1 = p1 at *
  generalize byt (nJ x) 2 = p2 at *
  generalize byt (nJ x) 3 = p3 at *
  generalize byt (nJ x) 4 = p4 at *
  generalize byt (nJ x) 5 = p5 at *
  generalize byt (nJ x) 6 = p6 at *
  generalize byt (nJ x) 7 = p7 at *
  have e4 : nJ v4 = nJ v3 + nJ v3 / 256 := by
    rw [w4, nj_add, nj_sh c8, Nat.shiftRight_eq_div_pow]
    rw [nj_sh c8, Nat.shiftRight_eq_div_pow]
    omega
  have e5 : nJ v5 = nJ v4 + nJ v4 / 65536 := by
    rw [w5, nj_add, nj_sh c16, Nat.shiftRight_eq_div_pow]
    rw [nj_sh c16, Nat.shiftRight_eq_div_pow]
    omega
  have e6 : nJ v6 = nJ v5 + nJ v5 / 4294967296 := by
    rw [w6, nj_add, nj_sh c32, Nat.shiftRight_eq_div_pow]
    rw [nj_sh c32, Nat.shiftRight_eq_div_pow]
    omega
  have d3 : nJ v3 / 256 = p1 + 256 * (p2 + 256 * (p3 + 256 * (p4 + 256 * (p5 + 256 * (p6 + 256 * p7))))) := by omega
  have f4 : nJ v4 = (p0 + p1) + 256 * ((p1 + p2) + 256 * ((p2 + p3) + 256 * ((p3 + p4) + 256 * ((p4 + p5) + 256 * ((p5 + p6) + 256 * ((p6 + p7) + 256 * p7)))))) := by omega
  have d4 : nJ v4 / 65536 = (p2 + p3) + 256 * ((p3 + p4) + 256 * ((p4 + p5) + 256 * ((p5 + p6) + 256 * ((p6 + p7) + 256 * p7)))) := by
    rw [f4]
    clear e1 e2 e3 e4 e5 e6 f4 d3
    omega
  have f5 : nJ v5 = (p0 + p1 + p2 + p3) + 256 * ((p1 + p2 + p3 + p4) + 256 * ((p2 + p3 + p4 + p5) + 256 * ((p3 + p4 + p5 + p6) + 256 * ((p4 + p5 + p6 + p7) + 256 * ((p5 + p6 + p7) + 256 * ((p6 + p7) + 256 * p7)))))) := by
    rw [e5, d4, f4]
    clear e1 e2 e3 e4 e5 e6 f4 d3 d4
    omega
  have d5 : nJ v5 / 4294967296 = (p4 + p5 + p6 + p7) + 256 * ((p5 + p6 + p7) + 256 * ((p6 + p7) + 256 * p7)) := by
    rw [f5]
    clear e1 e2 e3 e4 e5 e6 f4 d3 d4 f5
    omega
  rw [d5, f5] at e6
  clear e1 e2 e3 e4 e5 f4 d3 d4 f5 d5
  have fin : nJ v6 % 128 = p0 + p1 + p2 + p3 + p4 + p5 + p6 + p7 := by omega
  have t : (v6.toInt32 &&& (127 : Int32)).toBitVec.toNat = nJ v6 % 128 := by
    rw [Int32.toBitVec_and, BitVec.toNat_and]
    have : v6.toInt32.toBitVec.toNat = nJ v6 % 2 ^ 32 := by
      show (v6.toBitVec.signExtend 32).toNat = _
      rw [BitVec.signExtend_eq_setWidth_of_le _ (by decide), BitVec.toNat_setWidth]
    rw [this, show (127 : Int32).toBitVec.toNat = 2 ^ 7 - 1 from rfl, Nat.and_two_pow_sub_one_eq_mod]
    omega
  show (v6.toInt32 &&& (127 : Int32)).toBitVec.toInt = _
  rw [BitVec.toInt_eq_toNat_cond, t, fin]
  omega
