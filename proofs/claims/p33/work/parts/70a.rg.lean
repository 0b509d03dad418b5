section
variable {a b c d lo hi : Int} {x y : Int32}
theorem rg_ne1 {c d : Int} {y : Int32} (hy : Rg c d y) (h : 1 ≤ c) : y ≠ -1 := fun q => by
  have h1 := hy.1
  rw [q, show (-1 : Int32).toInt = -1 from rfl] at h1
  omega
theorem rg_divc (hx : Rg a b x) (hy : Rg c c y) (e : 0 ≤ a ∧ 1 ≤ c ∧ lo ≤ a / c ∧ b / c ≤ hi) : Rg lo hi (x / y) := by
  obtain ⟨e1, e2, e3, e4⟩ := e
  have hc : y.toInt = c := by have := hy.1; have := hy.2; omega
  have h1 := hx.1
  have h2 := hx.2
  unfold Rg
  rw [Int32.toInt_div_of_ne_right x y (rg_ne1 hy e2), Int.tdiv_eq_ediv_of_nonneg (by omega), hc]
  exact ⟨Int.le_trans e3 (Int.ediv_le_ediv (by omega) h1), Int.le_trans (Int.ediv_le_ediv (by omega) h2) e4⟩
theorem rg_divv (hx : Rg a b x) (hy : Rg c d y) (e : 0 ≤ a ∧ 1 ≤ c) : Rg 0 b (x / y) := by
  obtain ⟨e1, e2⟩ := e
  have h1 := hx.1
  have h2 := hx.2
  have h3 := hy.1
  unfold Rg
  rw [Int32.toInt_div_of_ne_right x y (rg_ne1 hy e2), Int.tdiv_eq_ediv_of_nonneg (by omega)]
  exact ⟨Int.ediv_nonneg (by omega) (by omega), Int.le_trans (Int.ediv_le_self _ (by omega)) h2⟩
theorem rg_rem (hx : Rg a b x) (hy : Rg c d y) (e : 0 ≤ a ∧ 1 ≤ c ∧ (d - 1 ≤ hi ∨ b ≤ hi)) : Rg 0 hi (x - x / y * y) := by
  obtain ⟨e1, e2, e3⟩ := e
  have h1 := hx.1
  have h2 := hx.2
  have h3 := hy.1
  have h4 := hy.2
  rw [irem_eq_mod]
  unfold Rg
  rw [Int32.toInt_mod, Int.tmod_eq_emod_of_nonneg (by omega)]
  have q1 := Int.emod_nonneg x.toInt (show y.toInt ≠ 0 by omega)
  have q2 := Int.emod_lt_of_pos x.toInt (show 0 < y.toInt by omega)
  have q3 : x.toInt % y.toInt ≤ x.toInt := by
    by_cases q : x.toInt < y.toInt
    · rw [Int.emod_eq_of_lt (by omega) q]; omega
    · omega
  omega
theorem rg_shrk {q : Int32} (k : Nat) (hk : q.toBitVec.toNat % 32 = k) (hx : Rg a b x) (e : lo ≤ a / (2 ^ k : Nat) ∧ b / (2 ^ k : Nat) ≤ hi) : Rg lo hi (x >>> (q &&& 31)) := by
  unfold Rg
  rw [Jvm.RoadKit.c_ishr x q k hk]
  have p : (0 : Int) < ((2 ^ k : Nat) : Int) := by have := Nat.two_pow_pos k; omega
  exact ⟨Int.le_trans e.1 (Int.ediv_le_ediv p hx.1), Int.le_trans (Int.ediv_le_ediv p hx.2) e.2⟩
theorem rg_shr {q : Int32} (hx : Rg a b x) (e : 0 ≤ a) : Rg 0 b (x >>> (q &&& 31)) := by
  unfold Rg
  rw [Jvm.RoadKit.c_ishr x q _ rfl]
  have h1 := hx.1
  have h2 := hx.2
  exact ⟨Int.ediv_nonneg (by omega) (Int.natCast_nonneg _), Int.le_trans (Int.ediv_le_self _ (by omega)) h2⟩
theorem rg_shl {s : Int32} {n : Nat} (hx : Rg 0 b x) (hs : Rg 0 (n : Int) s) (e : n ≤ 30 ∧ b * (2 ^ n : Nat) ≤ hi ∧ hi ≤ 2147483647) : Rg 0 hi (x <<< (s &&& 31)) := by
  obtain ⟨j, ej, tj, hj⟩ := rg_nI hs (Int.le_refl 0)
  obtain ⟨e1, e2, e3⟩ := e
  have s2 := hs.2
  have jn : j ≤ n := by omega
  have hk : s.toBitVec.toNat % 32 = j := by
    rw [ej]
    show (BitVec.ofNat 32 j).toNat % 32 = j
    rw [BitVec.toNat_ofNat, Nat.mod_eq_of_lt (show j < 2 ^ 32 by omega)]
    omega
  have h := Jvm.RoadKit.c_ishl x s j hk
  have x1 := hx.1
  have x2 := hx.2
  have p : ((2 ^ j : Nat) : Int) ≤ ((2 ^ n : Nat) : Int) := by
    have := Nat.pow_le_pow_right (show 0 < 2 by decide) jn
    omega
  have p0 : (0 : Int) ≤ ((2 ^ j : Nat) : Int) := Int.natCast_nonneg _
  have v1 : 0 ≤ x.toInt * ((2 ^ j : Nat) : Int) := Int.mul_nonneg x1 p0
  have v2 : x.toInt * ((2 ^ j : Nat) : Int) ≤ b * ((2 ^ n : Nat) : Int) := Int.mul_le_mul x2 p p0 (by omega)
  have t := rg_top (x <<< (s &&& 31))
  have t1 := t.1
  have t2 := t.2
  unfold Rg
  generalize (x <<< (s &&& 31)).toInt = T at *
  generalize x.toInt * ((2 ^ j : Nat) : Int) = V at *
  generalize b * ((2 ^ n : Nat) : Int) = W at *
  omega
theorem rg_nIn {n m : Nat} (e : m = n) (h : n < 2 ^ 31) : Rg n n (nI m) := by
  rw [e]
  unfold Rg
  rw [z_toInt h]
  omega
theorem rg_sq (n : Nat) : Rg 0 63 (sqT.getD n 0) := by
  have ha : ∀ y ∈ sqT, rgb 0 63 y = true := by decide
  have h0 : rgb 0 63 (0 : Int32) = true := by decide
  apply rg_b
  rw [List.getD_eq_getElem?_getD]
  cases q : sqT[n]? with
  | none => exact h0
  | some z => exact ha z (List.mem_of_getElem? q)
theorem rg_58 (m : Int64) : Rg 0 63 (((m.toUInt64 >>> ((58 : Int32).toInt64.toUInt64 &&& Int64.toUInt64 63)).toInt64).toInt32) := by
  have h : ((m.toUInt64 >>> ((58 : Int32).toInt64.toUInt64 &&& Int64.toUInt64 63)).toInt64).toInt = (m.toInt % 18446744073709551616) / (2 ^ 58 : Nat) := Jvm.RoadKit.c_lushr m 58 58 rfl (by decide)
  unfold Rg
  rw [Int64.toInt_toInt32, h]
  have h1 := Int.emod_nonneg m.toInt (show (18446744073709551616 : Int) ≠ 0 by decide)
  have h2 := Int.emod_lt_of_pos m.toInt (show (0 : Int) < 18446744073709551616 by decide)
  generalize m.toInt % 18446744073709551616 = z at *
  have e58 : ((2 ^ 58 : Nat) : Int) = 288230376151711744 := by decide
  rw [e58]
  have e32 : (2 ^ 32 : Nat) = 4294967296 := by decide
  rw [e32]
  have b : (z / 288230376151711744).bmod 4294967296 = z / 288230376151711744 := Int.bmod_eq_of_le_mul_two (by omega) (by omega)
  rw [b]
  omega
theorem rg_cmp (u v : Int64) : Rg (-1) 1 (lg_cmp u v) := by
  unfold lg_cmp
  split
  · exact rg_b rfl
  · split <;> exact rg_b rfl
theorem rg_narb (hx : Rg a b x) (e : -128 ≤ a ∧ b ≤ 127) : Rg a b (vp_nar .byte x) := by
  have h : (vp_nar .byte x).toInt = x.toInt := by
    show x.toInt8.toInt32.toInt = x.toInt
    rw [Int8.toInt_toInt32, Int32.toInt_toInt8]
    have := hx.1
    have := hx.2
    have e8 : (2 ^ 8 : Nat) = 256 := by decide
    rw [e8]
    exact Int.bmod_eq_of_le_mul_two (by omega) (by omega)
  unfold Rg
  rw [h]
  exact hx
theorem rg_narz (x : Int32) : Rg 0 1 (vp_nar .boolean x) := by
  show Rg 0 1 (x &&& 1)
  exact rg_and (c := 1) (d := 1) (rg_b rfl) (by decide)
-- branches that are not gone
theorem rc_lt (h : x < y) (hx : Rg a b x) (hy : Rg c d y) (e : d ≤ a) : False := by
  rw [Int32.lt_iff_toInt_lt] at h
  have := hx.1; have := hy.2
  omega
theorem rc_le (h : x ≤ y) (hx : Rg a b x) (hy : Rg c d y) (e : d < a) : False := by
  rw [Int32.le_iff_toInt_le] at h
  have := hx.1; have := hy.2
  omega
theorem rc_eq (h : x = y) (hx : Rg a b x) (hy : Rg c d y) (e : d < a ∨ b < c) : False := by
  subst h
  have := hx.1; have := hx.2; have := hy.1; have := hy.2
  omega
theorem rc_ne (h : ¬ x = y) (hx : Rg a a x) (hy : Rg a a y) : False := by
  rw [← Int32.toInt_inj] at h
  have := hx.1; have := hx.2; have := hy.1; have := hy.2
  omega
theorem rg_ne0 (hx : Rg a b x) (e : 1 ≤ a) : ¬ x = 0 := fun q => by
  have h1 := hx.1
  rw [q, show (0 : Int32).toInt = 0 from rfl] at h1
  omega
theorem rg_nneg (hx : Rg a b x) (e : 0 ≤ a) : ¬ x < 0 := fun q => by
  rw [Int32.lt_iff_toInt_lt, show (0 : Int32).toInt = 0 from rfl] at q
  have h1 := hx.1
  omega
theorem rg_clamp {n : Nat} (hx : Rg a b x) (e : 0 ≤ a ∧ b ≤ (n : Int)) : x.toNatClampNeg ≤ n := by
  obtain ⟨k, ek, tk, hk⟩ := rg_nI hx e.1
  have := hx.2
  rw [ek, z_clamp hk]
  omega
theorem rg_inc {a b : Int} {x : Int32} (hx : Rg a b x) (e : b ≤ 2147483646) : (x + (1 : Int32)).toInt = x.toInt + 1 := by
  have ex : x = Int32.ofInt x.toInt := (Int32.ofInt_toInt x).symm
  have := rg_top x
  obtain ⟨x1, x2⟩ := hx
  have e1 : (1 : Int32) = Int32.ofInt 1 := rfl
  rw [e1, ex, ← Int32.ofInt_add, ti_ofInt (by have := this.1; omega) (by omega), ← ex]
theorem rg_dec {a b : Int} {x : Int32} (hx : Rg a b x) (e : -2147483647 ≤ a) : (x + (-1 : Int32)).toInt = x.toInt - 1 := by
  have ex : x = Int32.ofInt x.toInt := (Int32.ofInt_toInt x).symm
  have := rg_top x
  obtain ⟨x1, x2⟩ := hx
  have e1 : (-1 : Int32) = Int32.ofInt (-1) := rfl
  rw [e1, ex, ← Int32.ofInt_add, ti_ofInt (by omega) (by have := this.2; omega), ← ex]
  omega
theorem rg_decs {a b : Int} {x : Int32} (hx : Rg a b x) (e : -2147483647 ≤ a) : (x - (1 : Int32)).toInt = x.toInt - 1 := by
  have ex : x = Int32.ofInt x.toInt := (Int32.ofInt_toInt x).symm
  have := rg_top x
  obtain ⟨x1, x2⟩ := hx
  have e1 : (1 : Int32) = Int32.ofInt 1 := rfl
  rw [e1, ex, ← Int32.ofInt_sub, ti_ofInt (by omega) (by have := this.2; omega), ← ex]
end
