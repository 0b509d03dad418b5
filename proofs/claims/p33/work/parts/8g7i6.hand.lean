/-! men in hand: five bits each -/
def hv (x : Int64) (m : Nat) : Nat := x.toBitVec.toNat / 2 ^ (5 * m) % 32
theorem ush_v {x : Int64} {k : Int32} (i : Rg 0 63 k) : ((x.toUInt64 >>> (k.toInt64.toUInt64 &&& Int64.toUInt64 63)).toInt64).toBitVec.toNat = x.toBitVec.toNat / 2 ^ k.toNatClampNeg := by
  obtain ⟨j, ej, tj, hj⟩ := rg_nI i (Int.le_refl 0)
  have j64 : j < 64 := by have := i.2; omega
  have all : ∀ j : Fin 64, (((nI j.val).toInt64.toUInt64 &&& Int64.toUInt64 63).toBitVec % 64#64).toNat = j.val := by decide +kernel
  have aj : (((nI j).toInt64.toUInt64 &&& Int64.toUInt64 63).toBitVec % 64#64).toNat = j := all ⟨j, j64⟩
  rw [ej, z_clamp hj]
  show (x.toUInt64 >>> ((nI j).toInt64.toUInt64 &&& Int64.toUInt64 63)).toBitVec.toNat = _
  rw [UInt64.toBitVec_shiftRight]
  show (x.toBitVec >>> (((nI j).toInt64.toUInt64 &&& Int64.toUInt64 63).toBitVec % 64#64)).toNat = _
  rw [BitVec.ushiftRight_eq', aj, BitVec.toNat_ushiftRight, Nat.shiftRight_eq_div_pow]
theorem lo5 (y : Int64) : (y.toInt32 &&& (31 : Int32)).toInt = ((y.toBitVec.toNat % 32 : Nat) : Int) := by
  have h : (y.toInt32 &&& (31 : Int32)).toBitVec.toNat = y.toBitVec.toNat % 32 := by
    rw [Int32.toBitVec_and, BitVec.toNat_and]
    show (y.toBitVec.signExtend 32).toNat &&& (2 ^ 5 - 1) = _
    rw [Nat.and_two_pow_sub_one_eq_mod, BitVec.signExtend_eq_setWidth_of_le _ (by decide), BitVec.toNat_setWidth]
    omega
  show (y.toInt32 &&& (31 : Int32)).toBitVec.toInt = _
  rw [BitVec.toInt_eq_toNat_of_lt (by rw [h]; omega), h]
section
variable {V : Nat → Nat} {h p r : Nat}
/-- how many of one man are in hand -/
theorem inh_v {h : Hp} {p r : Nat} {s man : Int32} {o : Int32 × Hp} (e3 : hR h p 3 = some r) (im : Rg 0 11 man) (e : sX3_inHand h p s man = some o) : o.2 = h ∧ o.1.toInt = ((hv (hJ h r s.toNatClampNeg) man.toNatClampNeg : Nat) : Int) := by
  have z5 : (5 : Int32).toInt = 5 := rfl
  have m0 := im.1
  have m1 := im.2
  unfold sX3_inHand at e
  replace e := cl_s e; obtain ⟨q, p', e⟩ := e
  rw [r_eq e3 p'] at e
  replace e := (gd_s e).2
  have t : ((5 : Int32) * man).toInt = 5 * man.toInt := by rw [tm (by rw [z5]; omega), z5]
  have c : ((5 : Int32) * man).toNatClampNeg = 5 * man.toNatClampNeg := by
    have := nc_i (x := (5 : Int32) * man) (by omega)
    have := nc_i m0
    omega
  rw [← Option.some.inj e]
  refine ⟨rfl, ?_⟩
  show (_ &&& (31 : Int32)).toInt = _
  rw [lo5, ush_v ⟨by omega, by omega⟩, c]
  rfl
end
