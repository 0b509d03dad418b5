/-! men in hand: one more -/
theorem dq_gt {a m k : Nat} (l : a / 2 ^ (5 * m) % 32 < 31) (h : m < k) : (a + 2 ^ (5 * m)) / 2 ^ (5 * k) = a / 2 ^ (5 * k) := by
  obtain ⟨d, hd⟩ : ∃ d, k = m + d + 1 := ⟨k - m - 1, by omega⟩
  have p : 2 ^ (5 * k) = 2 ^ (5 * m) * 32 * 2 ^ (5 * d) := by
    rw [hd, show 5 * (m + d + 1) = 5 * m + 5 + 5 * d by omega, Nat.pow_add, Nat.pow_add]
  have q := Nat.add_div_right a (Nat.two_pow_pos (5 * m))
  rw [p, ← Nat.div_div_eq_div_mul, ← Nat.div_div_eq_div_mul, ← Nat.div_div_eq_div_mul, ← Nat.div_div_eq_div_mul, q]
  have : Nat.succ (a / 2 ^ (5 * m)) / 32 = a / 2 ^ (5 * m) / 32 := by omega
  rw [this]
theorem dgt_add {a m k : Nat} (l : a / 2 ^ (5 * m) % 32 < 31) : (a + 2 ^ (5 * m)) / 2 ^ (5 * k) % 32 = a / 2 ^ (5 * k) % 32 + if k = m then 1 else 0 := by
  by_cases e : k = m
  · rw [if_pos e, e]
    have q := Nat.add_div_right a (Nat.two_pow_pos (5 * m))
    rw [q]
    omega
  rw [if_neg e, Nat.add_zero]
  by_cases h : m < k
  · rw [dq_gt l h]
  · obtain ⟨d, hd⟩ : ∃ d, m = k + d + 1 := ⟨m - k - 1, by omega⟩
    have p : 2 ^ (5 * m) = 2 ^ (5 * k) * (32 * 2 ^ (5 * d)) := by
      rw [hd, show 5 * (k + d + 1) = 5 * k + (5 + 5 * d) by omega, Nat.pow_add, Nat.pow_add]
    rw [p, Nat.add_mul_div_left a _ (Nat.two_pow_pos (5 * k))]
    omega
/-- bits of hands keep below 60 -/
def HdB (x : Int64) : Prop := x.toBitVec.toNat < 2 ^ 60
theorem hd_sh : ∀ j : Fin 12, ((1 : Int32).toInt64 <<< (((5 : Int32) * (nI j.val)).toInt64 &&& 63)).toBitVec.toNat = 2 ^ (5 * j.val) := by decide +kernel
/-- one man more in hand -/
theorem adh_v {h o : Hp} {p r : Nat} {s man : Int32} (e3 : hR h p 3 = some r) (im : Rg 0 11 man) (b : HdB (hJ h r s.toNatClampNeg)) (l : hv (hJ h r s.toNatClampNeg) man.toNatClampNeg < 31) (e : sX3_addToHand h p s man (1 : Int32) = some o) : ∃ x, o = wJ h r s.toNatClampNeg x ∧ HdB x ∧ ∀ k, hv x k = hv (hJ h r s.toNatClampNeg) k + if k = man.toNatClampNeg then 1 else 0 := by
  have m0 := im.1
  have m1 := im.2
  have nn := nc_i m0
  have em : nI man.toNatClampNeg = man := Int32.toInt_inj.mp (by rw [z_toInt (by omega)]; omega)
  have sh := hd_sh ⟨man.toNatClampNeg, by omega⟩
  dsimp only at sh
  rw [em] at sh
  unfold sX3_addToHand at e
  replace e := cl_s e; obtain ⟨q, p', e⟩ := e
  rw [r_eq e3 p'] at e
  replace e := (gd_s e).2
  replace e := (gd_s e).2
  replace e := nm_s e; obtain ⟨h4, w4, e⟩ := e
  have p55 : 2 ^ (5 * man.toNatClampNeg) ≤ 2 ^ 55 := Nat.pow_le_pow_right (by decide) (by omega)
  unfold HdB at b
  have nat : ((hJ h r s.toNatClampNeg) + ((1 : Int32).toInt64 <<< (((5 : Int32) * man).toInt64 &&& 63))).toBitVec.toNat = (hJ h r s.toNatClampNeg).toBitVec.toNat + 2 ^ (5 * man.toNatClampNeg) := by
    rw [Int64.toBitVec_add, BitVec.toNat_add, sh]
    exact Nat.mod_eq_of_lt (by
      have a1 : (2 : Nat) ^ 60 = 1152921504606846976 := by decide
      have a2 : (2 : Nat) ^ 55 = 36028797018963968 := by decide
      have a3 : (2 : Nat) ^ 64 = 18446744073709551616 := by decide
      omega)
  refine ⟨_, by rw [← Option.some.inj e]; exact w4, ?_, fun k => ?_⟩
  · unfold HdB
    rw [nat]
    have g := dq_gt (a := (hJ h r s.toNatClampNeg).toBitVec.toNat) (m := man.toNatClampNeg) (k := 12) l (by omega)
    have z : (hJ h r s.toNatClampNeg).toBitVec.toNat / 2 ^ (5 * 12) = 0 := Nat.div_eq_of_lt b
    rw [z] at g
    rcases Nat.div_eq_zero_iff.mp g with y | y
    · exact absurd y (by decide)
    · exact y
  · unfold hv
    rw [nat]
    exact dgt_add l
