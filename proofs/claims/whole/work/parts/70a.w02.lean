section
section
variable {a b c d lo hi : Int} {x y : Int32}
theorem rg_ne1 {c d : Int} {y : Int32} (hy : Rg c d y) (h : 1 ≤ c) : y ≠ -1 := fun q => by
  have h1 := hy.1
  rw [q, show (-1 : Int32).toInt = -1 from rfl] at h1
  omega
theorem rg_divc (hx : Rg a b x) (hy : Rg c c y) (e : 0 ≤ a ∧ 1 ≤ c ∧ lo ≤ a / c ∧ b / c ≤ hi) : Rg lo hi (x / y) := by
  obtain ⟨e1, e2, e3, e4⟩ := e
  have hc : y.toInt = c := by have := hy.1; have := hy.2; omega
  have h1 := hx.1
  have h2 := hx.2
  unfold Rg
  rw [Int32.toInt_div_of_ne_right x y (rg_ne1 hy e2), Int.tdiv_eq_ediv_of_nonneg (by omega), hc]
  exact ⟨Int.le_trans e3 (Int.ediv_le_ediv (by omega) h1), Int.le_trans (Int.ediv_le_ediv (by omega) h2) e4⟩
theorem rg_divv (hx : Rg a b x) (hy : Rg c d y) (e : 0 ≤ a ∧ 1 ≤ c) : Rg 0 b (x / y) := by
  obtain ⟨e1, e2⟩ := e
  have h1 := hx.1
  have h2 := hx.2
  have h3 := hy.1
  unfold Rg
  rw [Int32.toInt_div_of_ne_right x y (rg_ne1 hy e2), Int.tdiv_eq_ediv_of_nonneg (by omega)]
  exact ⟨Int.ediv_nonneg (by omega) (by omega), Int.le_trans (Int.ediv_le_self _ (by omega)) h2⟩
theorem rg_rem (hx : Rg a b x) (hy : Rg c d y) (e : 0 ≤ a ∧ 1 ≤ c ∧ (d - 1 ≤ hi ∨ b ≤ hi)) : Rg 0 hi (x - x / y * y) := by
  obtain ⟨e1, e2, e3⟩ := e
  have h1 := hx.1
  have h2 := hx.2
  have h3 := hy.1
  have h4 := hy.2
  rw [irem_eq_mod]
  unfold Rg
  rw [Int32.toInt_mod, Int.tmod_eq_emod_of_nonneg (by omega)]
  have q1 := Int.emod_nonneg x.toInt (show y.toInt ≠ 0 by omega)
  have q2 := Int.emod_lt_of_pos x.toInt (show 0 < y.toInt by omega)
  have q3 : x.toInt % y.toInt ≤ x.toInt := by
    by_cases q : x.toInt < y.toInt
    · rw [Int.emod_eq_of_lt (by omega) q]; omega
    · omega
  omega
theorem rg_shrk {q : Int32} (k : Nat) (hk : q.toBitVec.toNat % 32 = k) (hx : Rg a b x) (e : lo ≤ a / (2 ^ k : Nat) ∧ b / (2 ^ k : Nat) ≤ hi) : Rg lo hi (x >>> (q &&& 31)) := by
  unfold Rg
  rw [Jvm.RoadKit.c_ishr x q k hk]
  have p : (0 : Int) < ((2 ^ k : Nat) : Int) := by have := Nat.two_pow_pos k; omega
  exact ⟨Int.le_trans e.1 (Int.ediv_le_ediv p hx.1), Int.le_trans (Int.ediv_le_ediv p hx.2) e.2⟩
theorem rg_shr {q : Int32} (hx : Rg a b x) (e : 0 ≤ a) : Rg 0 b (x >>> (q &&& 31)) := by
  unfold Rg
  rw [Jvm.RoadKit.c_ishr x q _ rfl]
  have h1 := hx.1
  have h2 := hx.2
  exact ⟨Int.ediv_nonneg (by omega) (Int.natCast_nonneg _), Int.le_trans (Int.ediv_le_self _ (by omega)) h2⟩
theorem rg_shl {s : Int32} {n : Nat} (hx : Rg 0 b x) (hs : Rg 0 (n : Int) s) (e : n ≤ 30 ∧ b * (2 ^ n : Nat) ≤ hi ∧ hi ≤ 2147483647) : Rg 0 hi (x <<< (s &&& 31)) := by
  obtain ⟨j, ej, tj, hj⟩ := rg_nI hs (Int.le_refl 0)
  obtain ⟨e1, e2, e3⟩ := e
  have s2 := hs.2
  have jn : j ≤ n := by omega
  have hk : s.toBitVec.toNat % 32 = j := by
    rw [ej]
    show (BitVec.ofNat 32 j).toNat % 32 = j
    rw [BitVec.toNat_ofNat, Nat.mod_eq_of_lt (show j < 2 ^ 32 by omega)]
    omega
  have h := Jvm.RoadKit.c_ishl x s j hk
  have x1 := hx.1
  have x2 := hx.2
  have p : ((2 ^ j : Nat) : Int) ≤ ((2 ^ n : Nat) : Int) := by
    have := Nat.pow_le_pow_right (show 0 < 2 by decide) jn
    omega
  have p0 : (0 : Int) ≤ ((2 ^ j : Nat) : Int) := Int.natCast_nonneg _
  have v1 : 0 ≤ x.toInt * ((2 ^ j : Nat) : Int) := Int.mul_nonneg x1 p0
  have v2 : x.toInt * ((2 ^ j : Nat) : Int) ≤ b * ((2 ^ n : Nat) : Int) := Int.mul_le_mul x2 p p0 (by omega)
  have t := rg_top (x <<< (s &&& 31))
  have t1 := t.1
  have t2 := t.2
  unfold Rg
  generalize (x <<< (s &&& 31)).toInt = T at *
  generalize x.toInt * ((2 ^ j : Nat) : Int) = V at *
  generalize b * ((2 ^ n : Nat) : Int) = W at *
  omega
theorem rg_nIn {n m : Nat} (e : m = n) (h : n < 2 ^ 31) : Rg n n (nI m) := by
  rw [e]
  unfold Rg
  rw [z_toInt h]
  omega
theorem rg_sq (n : Nat) : Rg 0 63 (sqT.getD n 0) := by
  have ha : ∀ y ∈ sqT, rgb 0 63 y = true := by decide
  have h0 : rgb 0 63 (0 : Int32) = true := by decide
  apply rg_b
  rw [List.getD_eq_getElem?_getD]
  cases q : sqT[n]? with
  | none => exact h0
  | some z => exact ha z (List.mem_of_getElem? q)
theorem rg_58 (m : Int64) : Rg 0 63 (((m.toUInt64 >>> ((58 : Int32).toInt64.toUInt64 &&& Int64.toUInt64 63)).toInt64).toInt32) := by
  have h : ((m.toUInt64 >>> ((58 : Int32).toInt64.toUInt64 &&& Int64.toUInt64 63)).toInt64).toInt = (m.toInt % 18446744073709551616) / (2 ^ 58 : Nat) := Jvm.RoadKit.c_lushr m 58 58 rfl (by decide)
  unfold Rg
  rw [Int64.toInt_toInt32, h]
  have h1 := Int.emod_nonneg m.toInt (show (18446744073709551616 : Int) ≠ 0 by decide)
  have h2 := Int.emod_lt_of_pos m.toInt (show (0 : Int) < 18446744073709551616 by decide)
  generalize m.toInt % 18446744073709551616 = z at *
  have e58 : ((2 ^ 58 : Nat) : Int) = 288230376151711744 := by decide
  rw [e58]
  have e32 : (2 ^ 32 : Nat) = 4294967296 := by decide
  rw [e32]
  have b : (z / 288230376151711744).bmod 4294967296 = z / 288230376151711744 := Int.bmod_eq_of_le_mul_two (by omega) (by omega)
  rw [b]
  omega
theorem rg_cmp (u v : Int64) : Rg (-1) 1 (lg_cmp u v) := by
  unfold lg_cmp
  split
  · exact rg_b rfl
  · split <;> exact rg_b rfl
theorem rg_narb (hx : Rg a b x) (e : -128 ≤ a ∧ b ≤ 127) : Rg a b (vp_nar .byte x) := by
  have h : (vp_nar .byte x).toInt = x.toInt := by
    show x.toInt8.toInt32.toInt = x.toInt
    rw [Int8.toInt_toInt32, Int32.toInt_toInt8]
    have := hx.1
    have := hx.2
    have e8 : (2 ^ 8 : Nat) = 256 := by decide
    rw [e8]
    exact Int.bmod_eq_of_le_mul_two (by omega) (by omega)
  unfold Rg
  rw [h]
  exact hx
theorem rg_narz (x : Int32) : Rg 0 1 (vp_nar .boolean x) := by
  show Rg 0 1 (x &&& 1)
  exact rg_and (c := 1) (d := 1) (rg_b rfl) (by decide)
-- branches that are not gone
theorem rc_lt (h : x < y) (hx : Rg a b x) (hy : Rg c d y) (e : d ≤ a) : False := by
  rw [Int32.lt_iff_toInt_lt] at h
  have := hx.1; have := hy.2
  omega
theorem rc_le (h : x ≤ y) (hx : Rg a b x) (hy : Rg c d y) (e : d < a) : False := by
  rw [Int32.le_iff_toInt_le] at h
  have := hx.1; have := hy.2
  omega
theorem rc_eq (h : x = y) (hx : Rg a b x) (hy : Rg c d y) (e : d < a ∨ b < c) : False := by
  subst h
  have := hx.1; have := hx.2; have := hy.1; have := hy.2
  omega
theorem rc_ne (h : ¬ x = y) (hx : Rg a a x) (hy : Rg a a y) : False := by
  rw [← Int32.toInt_inj] at h
  have := hx.1; have := hx.2; have := hy.1; have := hy.2
  omega
theorem rg_ne0 (hx : Rg a b x) (e : 1 ≤ a) : ¬ x = 0 := fun q => by
  have h1 := hx.1
  rw [q, show (0 : Int32).toInt = 0 from rfl] at h1
  omega
theorem rg_nneg (hx : Rg a b x) (e : 0 ≤ a) : ¬ x < 0 := fun q => by
  rw [Int32.lt_iff_toInt_lt, show (0 : Int32).toInt = 0 from rfl] at q
  have h1 := hx.1
  omega
theorem rg_clamp {n : Nat} (hx : Rg a b x) (e : 0 ≤ a ∧ b ≤ (n : Int)) : x.toNatClampNeg ≤ n := by
  obtain ⟨k, ek, tk, hk⟩ := rg_nI hx e.1
  have := hx.2
  rw [ek, z_clamp hk]
  omega
theorem rg_inc {a b : Int} {x : Int32} (hx : Rg a b x) (e : b ≤ 2147483646) : (x + (1 : Int32)).toInt = x.toInt + 1 := by
  have ex : x = Int32.ofInt x.toInt := (Int32.ofInt_toInt x).symm
  have := rg_top x
  obtain ⟨x1, x2⟩ := hx
  have e1 : (1 : Int32) = Int32.ofInt 1 := rfl
  rw [e1, ex, ← Int32.ofInt_add, ti_ofInt (by have := this.1; omega) (by omega), ← ex]
theorem rg_dec {a b : Int} {x : Int32} (hx : Rg a b x) (e : -2147483647 ≤ a) : (x + (-1 : Int32)).toInt = x.toInt - 1 := by
  have ex : x = Int32.ofInt x.toInt := (Int32.ofInt_toInt x).symm
  have := rg_top x
  obtain ⟨x1, x2⟩ := hx
  have e1 : (-1 : Int32) = Int32.ofInt (-1) := rfl
  rw [e1, ex, ← Int32.ofInt_add, ti_ofInt (by omega) (by have := this.2; omega), ← ex]
  omega
theorem rg_decs {a b : Int} {x : Int32} (hx : Rg a b x) (e : -2147483647 ≤ a) : (x - (1 : Int32)).toInt = x.toInt - 1 := by
  have ex : x = Int32.ofInt x.toInt := (Int32.ofInt_toInt x).symm
  have := rg_top x
  obtain ⟨x1, x2⟩ := hx
  have e1 : (1 : Int32) = Int32.ofInt 1 := rfl
  rw [e1, ex, ← Int32.ofInt_sub, ti_ofInt (by omega) (by have := this.2; omega), ← ex]
end
end
section
def fd (q x : Int32) : Int32 := (x >>> (q &&& 31)) &&& (15 : Int32)
theorem fd_or (q a b : Int32) : fd q (a ||| b) = fd q a ||| fd q b := by
  unfold fd
  apply Int32.toBitVec_inj.mp
  have d : ((a ||| b) >>> (q &&& 31)).toBitVec = (a >>> (q &&& 31)).toBitVec ||| (b >>> (q &&& 31)).toBitVec := by
    rw [Int32.toBitVec_shiftRight, Int32.toBitVec_shiftRight, Int32.toBitVec_shiftRight, Int32.toBitVec_or]
    exact BitVec.sshiftRight_or_distrib _ _ _
  rw [Int32.toBitVec_and, d, Int32.toBitVec_or, Int32.toBitVec_and, Int32.toBitVec_and]
  apply BitVec.eq_of_getLsbD_eq
  intro i hi
  rw [BitVec.getLsbD_and, BitVec.getLsbD_or, BitVec.getLsbD_or, BitVec.getLsbD_and, BitVec.getLsbD_and]
  generalize BitVec.getLsbD (a >>> (q &&& 31)).toBitVec i = u
  generalize BitVec.getLsbD (b >>> (q &&& 31)).toBitVec i = v
  generalize BitVec.getLsbD (15 : Int32).toBitVec i = w
  cases u <;> cases v <;> cases w <;> rfl
/-- a packed move is good: the man, what it becomes, what is taken -/
def GM (m : Int32) : Prop := Rg 0 11 (fd 12 m) ∧ (Rg 0 11 (fd 16 m) ∨ fd 16 m = 15) ∧ (Rg 0 11 (fd 20 m) ∨ fd 20 m = 15)
theorem small {P : Int32 → Prop} {n : Nat} {x : Int32} (i : Rg 0 n x) (hn : n < 2 ^ 31) (all : ∀ j : Fin (n + 1), P (nI j.val)) : P x := by
  obtain ⟨j, ej, tj, hj⟩ := rg_nI i (Int.le_refl 0)
  have := i.2
  rw [ej]
  exact all ⟨j, by omega⟩
theorem gm_plain {x0 x1 x2 x3 : Int32} (i0 : Rg 0 63 x0) (i1 : Rg 0 63 x1) (i2 : Rg 0 11 x2) (i3 : Rg 0 3 x3) : GM (((((x1 ||| (x0 <<< ((6 : Int32) &&& 31))) ||| (x2 <<< ((12 : Int32) &&& 31))) ||| (983040 : Int32)) ||| (15728640 : Int32)) ||| (x3 <<< ((24 : Int32) &&& 31))) := by
  have a12 : fd 12 x1 = 0 ∧ fd 16 x1 = 0 ∧ fd 20 x1 = 0 := small (P := fun x1 => fd 12 x1 = 0 ∧ fd 16 x1 = 0 ∧ fd 20 x1 = 0) (n := 63) i1 (by decide) (by decide +kernel)
  have b12 : fd 12 (x0 <<< ((6 : Int32) &&& 31)) = 0 ∧ fd 16 (x0 <<< ((6 : Int32) &&& 31)) = 0 ∧ fd 20 (x0 <<< ((6 : Int32) &&& 31)) = 0 := small (P := fun x0 => fd 12 (x0 <<< ((6 : Int32) &&& 31)) = 0 ∧ fd 16 (x0 <<< ((6 : Int32) &&& 31)) = 0 ∧ fd 20 (x0 <<< ((6 : Int32) &&& 31)) = 0) (n := 63) i0 (by decide) (by decide +kernel)
  have c12 : fd 12 (x2 <<< ((12 : Int32) &&& 31)) = x2 ∧ fd 16 (x2 <<< ((12 : Int32) &&& 31)) = 0 ∧ fd 20 (x2 <<< ((12 : Int32) &&& 31)) = 0 := small (P := fun x2 => fd 12 (x2 <<< ((12 : Int32) &&& 31)) = x2 ∧ fd 16 (x2 <<< ((12 : Int32) &&& 31)) = 0 ∧ fd 20 (x2 <<< ((12 : Int32) &&& 31)) = 0) (n := 11) i2 (by decide) (by decide +kernel)
  have d12 : fd 12 (x3 <<< ((24 : Int32) &&& 31)) = 0 ∧ fd 16 (x3 <<< ((24 : Int32) &&& 31)) = 0 ∧ fd 20 (x3 <<< ((24 : Int32) &&& 31)) = 0 := small (P := fun x3 => fd 12 (x3 <<< ((24 : Int32) &&& 31)) = 0 ∧ fd 16 (x3 <<< ((24 : Int32) &&& 31)) = 0 ∧ fd 20 (x3 <<< ((24 : Int32) &&& 31)) = 0) (n := 3) i3 (by decide) (by decide +kernel)
  unfold GM
  simp only [fd_or, a12.1, a12.2.1, a12.2.2, b12.1, b12.2.1, b12.2.2, c12.1, c12.2.1, c12.2.2, d12.1, d12.2.1, d12.2.2]
  have e12 : fd 12 (983040 : Int32) = 0 ∧ fd 12 (15728640 : Int32) = 0 ∧ fd 16 (983040 : Int32) = 15 ∧ fd 16 (15728640 : Int32) = 0 ∧ fd 20 (983040 : Int32) = 0 ∧ fd 20 (15728640 : Int32) = 15 := by decide +kernel
  simp only [e12.1, e12.2.1, e12.2.2.1, e12.2.2.2.1, e12.2.2.2.2.1, e12.2.2.2.2.2]
  have o0 : (0 : Int32) ||| 0 = 0 := by decide
  have ox : (0 : Int32) ||| x2 = x2 := small (P := fun x => (0 : Int32) ||| x = x) (n := 11) i2 (by decide) (by decide +kernel)
  have oy : x2 ||| (0 : Int32) = x2 := small (P := fun x => x ||| (0 : Int32) = x) (n := 11) i2 (by decide) (by decide +kernel)
  rw [o0, ox, oy, oy, oy]
  exact ⟨i2, Or.inr (by decide), Or.inr (by decide)⟩
theorem fd_and (q a b : Int32) : fd q (a &&& b) = fd q a &&& fd q b := by
  unfold fd
  apply Int32.toBitVec_inj.mp
  have d : ((a &&& b) >>> (q &&& 31)).toBitVec = (a >>> (q &&& 31)).toBitVec &&& (b >>> (q &&& 31)).toBitVec := by
    rw [Int32.toBitVec_shiftRight, Int32.toBitVec_shiftRight, Int32.toBitVec_shiftRight, Int32.toBitVec_and]
    exact BitVec.sshiftRight_and_distrib _ _ _
  rw [Int32.toBitVec_and, d, Int32.toBitVec_and, Int32.toBitVec_and, Int32.toBitVec_and]
  apply BitVec.eq_of_getLsbD_eq
  intro i hi
  rw [BitVec.getLsbD_and, BitVec.getLsbD_and, BitVec.getLsbD_and, BitVec.getLsbD_and, BitVec.getLsbD_and]
  generalize BitVec.getLsbD (a >>> (q &&& 31)).toBitVec i = u
  generalize BitVec.getLsbD (b >>> (q &&& 31)).toBitVec i = v
  generalize BitVec.getLsbD (15 : Int32).toBitVec i = w
  cases u <;> cases v <;> cases w <;> rfl
theorem fd_r (q m : Int32) : Rg 0 15 (fd q m) := rg_and (c := 15) (d := 15) (rg_b rfl) (by decide)
theorem fd_15 (q m : Int32) : fd q m &&& 15 = fd q m := small (P := fun x => x &&& 15 = x) (n := 15) (fd_r q m) (by decide) (by decide +kernel)
theorem fd_0 (q m : Int32) : fd q m &&& 0 = 0 := small (P := fun x => x &&& 0 = 0) (n := 15) (fd_r q m) (by decide) (by decide +kernel)
theorem fd_o (q m : Int32) : fd q m ||| 0 = fd q m := small (P := fun x => x ||| 0 = x) (n := 15) (fd_r q m) (by decide) (by decide +kernel)
theorem gm_taken {m y : Int32} (g : GM m) (iy : Rg 0 11 y) : GM ((m &&& (-15728641 : Int32)) ||| (y <<< ((20 : Int32) &&& 31))) := by
  have b : fd 12 (y <<< ((20 : Int32) &&& 31)) = 0 ∧ fd 16 (y <<< ((20 : Int32) &&& 31)) = 0 ∧ fd 20 (y <<< ((20 : Int32) &&& 31)) = y ∧ (0 : Int32) ||| y = y := small (P := fun y => fd 12 (y <<< ((20 : Int32) &&& 31)) = 0 ∧ fd 16 (y <<< ((20 : Int32) &&& 31)) = 0 ∧ fd 20 (y <<< ((20 : Int32) &&& 31)) = y ∧ (0 : Int32) ||| y = y) (n := 11) iy (by decide) (by decide +kernel)
  have e : fd 12 (-15728641 : Int32) = 15 ∧ fd 16 (-15728641 : Int32) = 15 ∧ fd 20 (-15728641 : Int32) = 0 := by decide +kernel
  unfold GM at g ⊢
  simp only [fd_or, fd_and, b.1, b.2.1, b.2.2.1, e.1, e.2.1, e.2.2, fd_15, fd_0, fd_o, b.2.2.2]
  exact ⟨g.1, g.2.1, Or.inl iy⟩
theorem gm_become {m y : Int32} (g : GM m) (iy : Rg 0 11 y) : GM ((m &&& (-983041 : Int32)) ||| (y <<< ((16 : Int32) &&& 31))) := by
  have b : fd 12 (y <<< ((16 : Int32) &&& 31)) = 0 ∧ fd 16 (y <<< ((16 : Int32) &&& 31)) = y ∧ fd 20 (y <<< ((16 : Int32) &&& 31)) = 0 ∧ (0 : Int32) ||| y = y := small (P := fun y => fd 12 (y <<< ((16 : Int32) &&& 31)) = 0 ∧ fd 16 (y <<< ((16 : Int32) &&& 31)) = y ∧ fd 20 (y <<< ((16 : Int32) &&& 31)) = 0 ∧ (0 : Int32) ||| y = y) (n := 11) iy (by decide) (by decide +kernel)
  have e : fd 12 (-983041 : Int32) = 15 ∧ fd 16 (-983041 : Int32) = 0 ∧ fd 20 (-983041 : Int32) = 15 := by decide +kernel
  unfold GM at g ⊢
  simp only [fd_or, fd_and, b.1, b.2.1, b.2.2.1, e.1, e.2.1, e.2.2, fd_15, fd_0, fd_o, b.2.2.2]
  exact ⟨g.1, Or.inl iy, g.2.2⟩
theorem gm_pass {m y : Int32} (g : GM m) (iy : Rg 0 7 y) : GM (m ||| (y <<< ((26 : Int32) &&& 31))) := by
  have b : fd 12 (y <<< ((26 : Int32) &&& 31)) = 0 ∧ fd 16 (y <<< ((26 : Int32) &&& 31)) = 0 ∧ fd 20 (y <<< ((26 : Int32) &&& 31)) = 0 := small (P := fun y => fd 12 (y <<< ((26 : Int32) &&& 31)) = 0 ∧ fd 16 (y <<< ((26 : Int32) &&& 31)) = 0 ∧ fd 20 (y <<< ((26 : Int32) &&& 31)) = 0) (n := 7) iy (by decide) (by decide +kernel)
  unfold GM at g ⊢
  simp only [fd_or, b.1, b.2.1, b.2.2, fd_o]
  exact g
theorem gm_man {m : Int32} (g : GM m) : Rg 0 11 ((m >>> ((12 : Int32) &&& 31)) &&& (15 : Int32)) := g.1
/-- a letter of a man, or none yet -/
def LT (x : Int32) : Prop := x = 0 ∨ Rg 97 122 x
/-- a step is not both over and pass -/
def FL (v : Int32) : Prop := v &&& (8 : Int32) = 0 ∨ v &&& (16 : Int32) = 0
theorem fl_0 : FL (0 : Int32) := Or.inl (by decide)
/-- a square of a board that has been told -/
def SqB (q : Bool) (x : Int32) : Prop := q = true ∨ x.toInt < 57
def SqN (q : Bool) (s : Nat) : Prop := q = true ∨ s < 57
def GMq (q : Bool) (m : Int32) : Prop := GM m ∧ SqB q (m &&& (63 : Int32)) ∧ SqB q ((m >>> ((6 : Int32) &&& 31)) &&& (63 : Int32))
/-- each man of a key is one of the law's codes -/
def KyX (x : Int32) : Prop := ∀ s : Int32, 0 ≤ s.toInt → s.toInt ≤ 4 → ((x >>> (((5 : Int32) * s) &&& 31)) &&& (31 : Int32)).toInt ≤ 24
/-- what elements of some arrays keep to: packed moves, letters of men, words of steps, files of squares, ways -/
def rP (q : Bool) (w k i : Nat) (x : Int32) : Prop := ((k = 47 ∨ k = 48) → GMq q x) ∧ (k = 73 → LT x) ∧ (k = 75 → FL x) ∧ (k = 32 → x.toInt ≤ (i : Int) ∧ (q = true → w = 2102 → i < 64 → (i : Int) ≤ 56 + x.toInt)) ∧ (k = 51 → SqB q (x &&& (63 : Int32))) ∧ (k = 56 → 0 < x.toInt → SqN q (i / 8)) ∧ (k = 20 → KyX x)
def spc (k : Nat) : Bool := (k == 47 || k == 48) || k == 73 || k == 75 || k == 32 || k == 51 || k == 56 || k == 20
theorem rp0 {q : Bool} {w k i : Nat} {x : Int32} (h : spc k = false) : rP q w k i x := by
  unfold spc at h
  rw [Bool.or_eq_false_iff, Bool.or_eq_false_iff, Bool.or_eq_false_iff, Bool.or_eq_false_iff, Bool.or_eq_false_iff, Bool.or_eq_false_iff, Bool.or_eq_false_iff, beq_eq_false_iff_ne, beq_eq_false_iff_ne, beq_eq_false_iff_ne, beq_eq_false_iff_ne, beq_eq_false_iff_ne, beq_eq_false_iff_ne, beq_eq_false_iff_ne, beq_eq_false_iff_ne] at h
  exact ⟨fun q => q.elim (fun q => absurd q h.1.1.1.1.1.1.1) (fun q => absurd q h.1.1.1.1.1.1.2), fun q => absurd q h.1.1.1.1.1.2, fun q => absurd q h.1.1.1.1.2, fun q => absurd q h.1.1.1.2, fun q => absurd q h.1.1.2, fun q => absurd q h.1.2, fun q => absurd q h.2⟩
theorem rpL {q : Bool} {w i : Nat} {x : Int32} (h : LT x) : rP q w 73 i x := ⟨fun q => absurd q (by decide), fun _ => h, fun q => absurd q (by decide), fun q => absurd q (by decide), fun q => absurd q (by decide), fun q => absurd q (by decide), fun q => absurd q (by decide)⟩
theorem rpG {q : Bool} {w i : Nat} {x : Int32} (h : GMq q x) : rP q w 47 i x := ⟨fun _ => h, fun q => absurd q (by decide), fun q => absurd q (by decide), fun q => absurd q (by decide), fun q => absurd q (by decide), fun q => absurd q (by decide), fun q => absurd q (by decide)⟩
theorem rpG8 {q : Bool} {w i : Nat} {x : Int32} (h : GMq q x) : rP q w 48 i x := ⟨fun _ => h, fun q => absurd q (by decide), fun q => absurd q (by decide), fun q => absurd q (by decide), fun q => absurd q (by decide), fun q => absurd q (by decide), fun q => absurd q (by decide)⟩
theorem rp48 {q : Bool} {w w' i j : Nat} {x : Int32} (h : rP q w 48 i x) : rP q w' 48 j x := rpG8 (h.1 (Or.inr rfl))
theorem rpF {q : Bool} {w i : Nat} {x : Int32} (h : FL x) : rP q w 75 i x := ⟨fun q => absurd q (by decide), fun q => absurd q (by decide), fun _ => h, fun q => absurd q (by decide), fun q => absurd q (by decide), fun q => absurd q (by decide), fun q => absurd q (by decide)⟩
theorem rpD {q : Bool} {w i : Nat} {x : Int32} (h : x.toInt ≤ (i : Int) ∧ (q = true → w = 2102 → i < 64 → (i : Int) ≤ 56 + x.toInt)) : rP q w 32 i x := ⟨fun q => absurd q (by decide), fun q => absurd q (by decide), fun q => absurd q (by decide), fun _ => h, fun q => absurd q (by decide), fun q => absurd q (by decide), fun q => absurd q (by decide)⟩
theorem rpW {q : Bool} {w i : Nat} {x : Int32} (h : SqB q (x &&& (63 : Int32))) : rP q w 51 i x := ⟨fun q => absurd q (by decide), fun q => absurd q (by decide), fun q => absurd q (by decide), fun q => absurd q (by decide), fun _ => h, fun q => absurd q (by decide), fun q => absurd q (by decide)⟩
theorem sq_n {q : Bool} {x : Int32} {s : Nat} (h : SqN q s) (e : x.toInt = (s : Int)) : SqB q x := h.imp id (fun z => by omega)
theorem sq_b {q : Bool} {x : Int32} (h : SqB q x) (h0 : 0 ≤ x.toInt) : SqN q x.toNatClampNeg := h.imp id (fun z => by
  have : x.toNatClampNeg = x.toInt.toNat := rfl
  omega)
-- the low bits of a packed move
theorem lo_or (a b c : Int32) : (a ||| b) &&& c = (a &&& c) ||| (b &&& c) := by
  apply Int32.toBitVec_inj.mp
  rw [Int32.toBitVec_and, Int32.toBitVec_or, Int32.toBitVec_or, Int32.toBitVec_and, Int32.toBitVec_and]
  apply BitVec.eq_of_getLsbD_eq
  intro i hi
  rw [BitVec.getLsbD_and, BitVec.getLsbD_or, BitVec.getLsbD_or, BitVec.getLsbD_and, BitVec.getLsbD_and]
  generalize BitVec.getLsbD a.toBitVec i = u
  generalize BitVec.getLsbD b.toBitVec i = v
  generalize BitVec.getLsbD c.toBitVec i = w
  cases u <;> cases v <;> cases w <;> rfl
theorem lo_as (a b c : Int32) : (a &&& b) &&& c = a &&& (b &&& c) := by
  apply Int32.toBitVec_inj.mp
  rw [Int32.toBitVec_and, Int32.toBitVec_and, Int32.toBitVec_and, Int32.toBitVec_and]
  exact BitVec.and_assoc _ _ _
theorem sh_or (q a b : Int32) : (a ||| b) >>> q = (a >>> q) ||| (b >>> q) := by
  apply Int32.toBitVec_inj.mp
  rw [Int32.toBitVec_shiftRight, Int32.toBitVec_or, Int32.toBitVec_or, Int32.toBitVec_shiftRight, Int32.toBitVec_shiftRight]
  exact BitVec.sshiftRight_or_distrib _ _ _
theorem sh_and (q a b : Int32) : (a &&& b) >>> q = (a >>> q) &&& (b >>> q) := by
  apply Int32.toBitVec_inj.mp
  rw [Int32.toBitVec_shiftRight, Int32.toBitVec_and, Int32.toBitVec_and, Int32.toBitVec_shiftRight, Int32.toBitVec_shiftRight]
  exact BitVec.sshiftRight_and_distrib _ _ _
theorem or_0 (a : Int32) : a ||| 0 = a := by
  apply Int32.toBitVec_inj.mp
  rw [Int32.toBitVec_or]
  exact BitVec.or_zero
theorem or_l (a : Int32) : (0 : Int32) ||| a = a := by
  apply Int32.toBitVec_inj.mp
  rw [Int32.toBitVec_or]
  exact BitVec.zero_or
theorem gq_plain {q : Bool} {x0 x1 x2 x3 : Int32} (i0 : Rg 0 63 x0) (i1 : Rg 0 63 x1) (i2 : Rg 0 11 x2) (i3 : Rg 0 3 x3) (s0 : SqB q x0) (s1 : SqB q x1) : GMq q (((((x1 ||| (x0 <<< ((6 : Int32) &&& 31))) ||| (x2 <<< ((12 : Int32) &&& 31))) ||| (983040 : Int32)) ||| (15728640 : Int32)) ||| (x3 <<< ((24 : Int32) &&& 31))) := by
  refine ⟨gm_plain i0 i1 i2 i3, ?_, ?_⟩
  · have a : x1 &&& (63 : Int32) = x1 := small (P := fun x => x &&& (63 : Int32) = x) (n := 63) i1 (by decide) (by decide +kernel)
    have b : (x0 <<< ((6 : Int32) &&& 31)) &&& (63 : Int32) = 0 := small (P := fun x => (x <<< ((6 : Int32) &&& 31)) &&& (63 : Int32) = 0) (n := 63) i0 (by decide) (by decide +kernel)
    have c : (x2 <<< ((12 : Int32) &&& 31)) &&& (63 : Int32) = 0 := small (P := fun x => (x <<< ((12 : Int32) &&& 31)) &&& (63 : Int32) = 0) (n := 11) i2 (by decide) (by decide +kernel)
    have d : (x3 <<< ((24 : Int32) &&& 31)) &&& (63 : Int32) = 0 := small (P := fun x => (x <<< ((24 : Int32) &&& 31)) &&& (63 : Int32) = 0) (n := 3) i3 (by decide) (by decide +kernel)
    have e : (983040 : Int32) &&& (63 : Int32) = 0 := by decide
    have f : (15728640 : Int32) &&& (63 : Int32) = 0 := by decide
    rw [lo_or, lo_or, lo_or, lo_or, lo_or, a, b, c, d, e, f, or_0, or_0, or_0, or_0, or_0]
    exact s1
  · have a : (x1 >>> ((6 : Int32) &&& 31)) &&& (63 : Int32) = 0 := small (P := fun x => (x >>> ((6 : Int32) &&& 31)) &&& (63 : Int32) = 0) (n := 63) i1 (by decide) (by decide +kernel)
    have b : ((x0 <<< ((6 : Int32) &&& 31)) >>> ((6 : Int32) &&& 31)) &&& (63 : Int32) = x0 := small (P := fun x => ((x <<< ((6 : Int32) &&& 31)) >>> ((6 : Int32) &&& 31)) &&& (63 : Int32) = x) (n := 63) i0 (by decide) (by decide +kernel)
    have c : ((x2 <<< ((12 : Int32) &&& 31)) >>> ((6 : Int32) &&& 31)) &&& (63 : Int32) = 0 := small (P := fun x => ((x <<< ((12 : Int32) &&& 31)) >>> ((6 : Int32) &&& 31)) &&& (63 : Int32) = 0) (n := 11) i2 (by decide) (by decide +kernel)
    have d : ((x3 <<< ((24 : Int32) &&& 31)) >>> ((6 : Int32) &&& 31)) &&& (63 : Int32) = 0 := small (P := fun x => ((x <<< ((24 : Int32) &&& 31)) >>> ((6 : Int32) &&& 31)) &&& (63 : Int32) = 0) (n := 3) i3 (by decide) (by decide +kernel)
    have e : ((983040 : Int32) >>> ((6 : Int32) &&& 31)) &&& (63 : Int32) = 0 := by decide
    have f : ((15728640 : Int32) >>> ((6 : Int32) &&& 31)) &&& (63 : Int32) = 0 := by decide
    rw [sh_or, sh_or, sh_or, sh_or, sh_or, lo_or, lo_or, lo_or, lo_or, lo_or, a, b, c, d, e, f, or_l, or_0, or_0, or_0, or_0]
    exact s0
theorem gq_keep {q : Bool} {m m' A y : Int32} (g : GMq q m) (gm : GM m') (e : m' = (m &&& A) ||| y) (a1 : A &&& (63 : Int32) = 63) (a2 : (A >>> ((6 : Int32) &&& 31)) &&& (63 : Int32) = 63) (y1 : y &&& (63 : Int32) = 0) (y2 : (y >>> ((6 : Int32) &&& 31)) &&& (63 : Int32) = 0) : GMq q m' := by
  refine ⟨gm, ?_, ?_⟩
  · rw [e, lo_or, lo_as, a1, y1, or_0]; exact g.2.1
  · rw [e, sh_or, sh_and, lo_or, lo_as, a2, y2, or_0]; exact g.2.2
theorem gq_taken {q : Bool} {m y : Int32} (g : GMq q m) (iy : Rg 0 11 y) : GMq q ((m &&& (-15728641 : Int32)) ||| (y <<< ((20 : Int32) &&& 31))) :=
  gq_keep g (gm_taken g.1 iy) rfl (by decide) (by decide) (small (P := fun x => (x <<< ((20 : Int32) &&& 31)) &&& (63 : Int32) = 0) (n := 11) iy (by decide) (by decide +kernel)) (small (P := fun x => ((x <<< ((20 : Int32) &&& 31)) >>> ((6 : Int32) &&& 31)) &&& (63 : Int32) = 0) (n := 11) iy (by decide) (by decide +kernel))
theorem gq_become {q : Bool} {m y : Int32} (g : GMq q m) (iy : Rg 0 11 y) : GMq q ((m &&& (-983041 : Int32)) ||| (y <<< ((16 : Int32) &&& 31))) :=
  gq_keep g (gm_become g.1 iy) rfl (by decide) (by decide) (small (P := fun x => (x <<< ((16 : Int32) &&& 31)) &&& (63 : Int32) = 0) (n := 11) iy (by decide) (by decide +kernel)) (small (P := fun x => ((x <<< ((16 : Int32) &&& 31)) >>> ((6 : Int32) &&& 31)) &&& (63 : Int32) = 0) (n := 11) iy (by decide) (by decide +kernel))
theorem and_m1 (m : Int32) : m &&& (-1 : Int32) = m := by
  apply Int32.toBitVec_inj.mp
  rw [Int32.toBitVec_and]
  exact BitVec.and_allOnes
theorem gq_pass {q : Bool} {m y : Int32} (g : GMq q m) (iy : Rg 0 7 y) : GMq q (m ||| (y <<< ((26 : Int32) &&& 31))) :=
  gq_keep g (gm_pass g.1 iy) (by rw [and_m1]) (by decide) (by decide) (small (P := fun x => (x <<< ((26 : Int32) &&& 31)) &&& (63 : Int32) = 0) (n := 7) iy (by decide) (by decide +kernel)) (small (P := fun x => ((x <<< ((26 : Int32) &&& 31)) >>> ((6 : Int32) &&& 31)) &&& (63 : Int32) = 0) (n := 7) iy (by decide) (by decide +kernel))
theorem gq_0 {q : Bool} (g : GM 0) : GMq q (0 : Int32) := ⟨g, Or.inr (by decide), Or.inr (by decide)⟩
theorem gq_man {q : Bool} {m : Int32} (g : GMq q m) : Rg 0 11 ((m >>> ((12 : Int32) &&& 31)) &&& (15 : Int32)) := g.1.1
theorem rg57 {lo : Int} {x : Int32} (i : Rg lo 56 x) : x.toInt < 57 := by have := i.2; omega
theorem rpD2 {q : Bool} {w : Nat} {x v : Int32} (i : Rg 0 63 v) (h : x.toInt ≤ v.toInt ∧ v.toInt ≤ 56 + x.toInt) : rP q w 32 v.toNatClampNeg x := by
  have e : (v.toNatClampNeg : Int) = v.toInt := by
    have : v.toNatClampNeg = v.toInt.toNat := rfl
    have := i.1
    omega
  exact rpD (by rw [e]; exact ⟨h.1, fun _ _ _ => h.2⟩)
theorem sq_way {q : Bool} {t f k : Int32} (i0 : Rg 0 63 t) (i1 : Rg 0 63 f) (i2 : Rg 0 7 k) (s : SqB q t) : SqB q (((t ||| (f <<< ((6 : Int32) &&& 31))) ||| (k <<< ((12 : Int32) &&& 31))) &&& (63 : Int32)) := by
  have a : t &&& (63 : Int32) = t := small (P := fun x => x &&& (63 : Int32) = x) (n := 63) i0 (by decide) (by decide +kernel)
  have b : (f <<< ((6 : Int32) &&& 31)) &&& (63 : Int32) = 0 := small (P := fun x => (x <<< ((6 : Int32) &&& 31)) &&& (63 : Int32) = 0) (n := 63) i1 (by decide) (by decide +kernel)
  have c : (k <<< ((12 : Int32) &&& 31)) &&& (63 : Int32) = 0 := small (P := fun x => (x <<< ((12 : Int32) &&& 31)) &&& (63 : Int32) = 0) (n := 7) i2 (by decide) (by decide +kernel)
  rw [lo_or, lo_or, a, b, c, or_0, or_0]
  exact s
theorem clamp_i {v : Int32} (h : 0 ≤ v.toInt) : (v.toNatClampNeg : Int) = v.toInt := by
  have : v.toNatClampNeg = v.toInt.toNat := rfl
  omega
theorem rpT0 {q : Bool} {w i : Nat} : rP q w 56 i (0 : Int32) := ⟨fun q => absurd q (by decide), fun q => absurd q (by decide), fun q => absurd q (by decide), fun q => absurd q (by decide), fun q => absurd q (by decide), fun _ z => absurd z (by decide), fun q => absurd q (by decide)⟩
theorem rpK {q : Bool} {w i : Nat} {x : Int32} (h : KyX x) : rP q w 20 i x := ⟨fun q => absurd q (by decide), fun q => absurd q (by decide), fun q => absurd q (by decide), fun q => absurd q (by decide), fun q => absurd q (by decide), fun q => absurd q (by decide), fun _ => h⟩
end
