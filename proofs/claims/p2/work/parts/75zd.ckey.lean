/-! keys of the class's sets as numbers -/
theorem i32_nat {x : Int32} (a : 0 ≤ x.toInt) : ∃ j : Nat, x = nI j ∧ x.toInt = (j : Int) ∧ j < 2 ^ 31 := rg_nI (a := 0) (b := x.toInt) ⟨a, Int.le_refl _⟩ (Int.le_refl 0)
theorem nI_bv {i : Nat} (hi : i < 2 ^ 31) : (nI i).toBitVec.toNat = i := by
  show (BitVec.ofNat 32 i).toNat = i
  rw [BitVec.toNat_ofNat]
  exact Nat.mod_eq_of_lt (by omega)
theorem and_i {x y : Int32} {m : Nat} (a : 0 ≤ x.toInt) (hm : m ≤ 30) (e : y.toInt = ((2 ^ m - 1 : Nat) : Int)) : (x &&& y).toInt = x.toInt % ((2 ^ m : Nat) : Int) := by
  obtain ⟨j, ej, tj, hj⟩ := i32_nat a
  obtain ⟨k, ek, tk, hk⟩ := i32_nat (x := y) (by rw [e]; exact Int.natCast_nonneg _)
  have ek2 : k = 2 ^ m - 1 := by omega
  have p : 0 < 2 ^ m := Nat.two_pow_pos m
  have md : j % 2 ^ m < 2 ^ 31 := Nat.lt_of_le_of_lt (Nat.mod_le _ _) hj
  have eo : x &&& y = nI (j % 2 ^ m) := by
    rw [ej, ek]
    apply Int32.toBitVec_inj.mp
    apply BitVec.eq_of_toNat_eq
    show ((nI j).toBitVec &&& (nI k).toBitVec).toNat = (nI (j % 2 ^ m)).toBitVec.toNat
    rw [BitVec.toNat_and, nI_bv hj, nI_bv hk, nI_bv md, ek2, Nat.and_two_pow_sub_one_eq_mod]
  rw [eo, z_toInt md, tj]
  rfl
theorem or_i {x y : Int32} {m : Nat} {z : Int} (a : 0 ≤ x.toInt) (b : x.toInt < ((2 ^ m : Nat) : Int)) (z0 : 0 ≤ z) (e : y.toInt = z * ((2 ^ m : Nat) : Int)) (s : x.toInt + y.toInt ≤ 2147483647) : (x ||| y).toInt = x.toInt + y.toInt := by
  obtain ⟨j, ej, tj, hj⟩ := i32_nat a
  obtain ⟨w, rfl⟩ := Int.eq_ofNat_of_zero_le z0
  have y0 : 0 ≤ y.toInt := by rw [e]; exact Int.mul_nonneg z0 (Int.natCast_nonneg _)
  obtain ⟨k, ek, tk, hk⟩ := i32_nat y0
  have ek2 : k = 2 ^ m * w := by
    have : (k : Int) = ((2 ^ m * w : Nat) : Int) := by rw [← tk, e, Int.natCast_mul, Int.mul_comm]
    exact Int.ofNat.inj this
  have jl : j < 2 ^ m := by
    have : (j : Int) < ((2 ^ m : Nat) : Int) := by rw [← tj]; exact b
    exact Int.ofNat_lt.mp this
  have sl : j + k < 2 ^ 31 := by omega
  have eo : x ||| y = nI (j + k) := by
    rw [ej, ek]
    apply Int32.toBitVec_inj.mp
    apply BitVec.eq_of_toNat_eq
    show ((nI j).toBitVec ||| (nI k).toBitVec).toNat = (nI (j + k)).toBitVec.toNat
    rw [BitVec.toNat_or, nI_bv hj, nI_bv hk, nI_bv sl, ek2, Nat.or_comm, ← Nat.two_pow_add_eq_or_of_lt jl w, Nat.add_comm]
  rw [eo, z_toInt sl, tj, tk]
  omega
theorem shl_i {x s : Int32} {m : Nat} (hs : s.toBitVec.toNat % 32 = m) (a : 0 ≤ x.toInt) (b : x.toInt * ((2 ^ m : Nat) : Int) ≤ 2147483647) : (x <<< (s &&& 31)).toInt = x.toInt * ((2 ^ m : Nat) : Int) := by
  have hk := Jvm.RoadKit.c_ishl x s m hs
  have n0 : 0 ≤ x.toInt * ((2 ^ m : Nat) : Int) := Int.mul_nonneg a (Int.natCast_nonneg _)
  have t := rg_top (x <<< (s &&& 31))
  have t1 := t.1
  have t2 := t.2
  generalize x.toInt * ((2 ^ m : Nat) : Int) = B at *
  omega
theorem shr_i {x s : Int32} (m : Nat) (hs : s.toBitVec.toNat % 32 = m) : (x >>> (s &&& 31)).toInt = x.toInt / ((2 ^ m : Nat) : Int) := Jvm.RoadKit.c_ishr x s m hs
theorem i32_04 {x : Int32} (i : Rg 0 4 x) : x = 0 ∨ x = 1 ∨ x = 2 ∨ x = 3 ∨ x = 4 := by
  have a := i.1
  have b := i.2
  rcases (by omega : x.toInt = 0 ∨ x.toInt = 1 ∨ x.toInt = 2 ∨ x.toInt = 3 ∨ x.toInt = 4) with w | w | w | w | w
  · exact Or.inl (Int32.toInt_inj.mp w)
  · exact Or.inr (Or.inl (Int32.toInt_inj.mp w))
  · exact Or.inr (Or.inr (Or.inl (Int32.toInt_inj.mp w)))
  · exact Or.inr (Or.inr (Or.inr (Or.inl (Int32.toInt_inj.mp w))))
  · exact Or.inr (Or.inr (Or.inr (Or.inr (Int32.toInt_inj.mp w))))
/-- digits of a key, as numbers -/
def KyI (x : Int) : Prop := x % 32 ≤ 24 ∧ x / 32 % 32 ≤ 24 ∧ x / 1024 % 32 ≤ 24 ∧ x / 32768 % 32 ≤ 24 ∧ x / 1048576 % 32 ≤ 24
theorem dig_i {x : Int32} (a : 0 ≤ x.toInt) (m : Nat) (s : Int32) (hs : s.toBitVec.toNat % 32 = m) : ((x >>> (s &&& 31)) &&& (31 : Int32)).toInt = x.toInt / ((2 ^ m : Nat) : Int) % 32 := by
  have e := shr_i (x := x) (s := s) m hs
  have n : 0 ≤ (x >>> (s &&& 31)).toInt := by rw [e]; exact Int.ediv_nonneg a (Int.natCast_nonneg _)
  rw [and_i (m := 5) n (by decide) rfl, e]
  rfl
theorem ky_i {x : Int32} (a : 0 ≤ x.toInt) : KyX x ↔ KyI x.toInt := by
  have d0 := dig_i a 0 ((5 : Int32) * 0) rfl
  have d1 := dig_i a 5 ((5 : Int32) * 1) rfl
  have d2 := dig_i a 10 ((5 : Int32) * 2) rfl
  have d3 := dig_i a 15 ((5 : Int32) * 3) rfl
  have d4 := dig_i a 20 ((5 : Int32) * 4) rfl
  have e0 : x.toInt / ((2 ^ 0 : Nat) : Int) % 32 = x.toInt % 32 := by show x.toInt / 1 % 32 = _; omega
  rw [e0] at d0
  constructor
  · intro P
    refine ⟨?_, ?_, ?_, ?_, ?_⟩
    · rw [← d0]; exact P 0 (by decide) (by decide)
    · have := P 1 (by decide) (by decide); rw [d1] at this; exact this
    · have := P 2 (by decide) (by decide); rw [d2] at this; exact this
    · have := P 3 (by decide) (by decide); rw [d3] at this; exact this
    · have := P 4 (by decide) (by decide); rw [d4] at this; exact this
  · rintro ⟨p0, p1, p2, p3, p4⟩ s s0 s4
    rcases i32_04 (x := s) ⟨s0, s4⟩ with w | w | w | w | w <;> subst w
    · rw [d0]; exact p0
    · rw [d1]; exact p1
    · rw [d2]; exact p2
    · rw [d3]; exact p3
    · rw [d4]; exact p4
theorem ky_sum {e0 e1 e2 e3 e4 B : Int} (h0 : 0 ≤ e0 ∧ e0 ≤ 24) (h1 : 0 ≤ e1 ∧ e1 ≤ 24) (h2 : 0 ≤ e2 ∧ e2 ≤ 24) (h3 : 0 ≤ e3 ∧ e3 ≤ 24) (h4 : 0 ≤ e4 ∧ e4 ≤ 24) (e : B = e0 + 32 * e1 + 1024 * e2 + 32768 * e3 + 1048576 * e4) : KyI B := by
  subst e
  refine ⟨?_, ?_, ?_, ?_, ?_⟩
  · have : (e0 + 32 * e1 + 1024 * e2 + 32768 * e3 + 1048576 * e4) % 32 = e0 := by omega
    omega
  · have : (e0 + 32 * e1 + 1024 * e2 + 32768 * e3 + 1048576 * e4) / 32 = e1 + 32 * e2 + 1024 * e3 + 32768 * e4 := by omega
    rw [this]; omega
  · have : (e0 + 32 * e1 + 1024 * e2 + 32768 * e3 + 1048576 * e4) / 1024 = e2 + 32 * e3 + 1024 * e4 := by omega
    rw [this]; omega
  · have : (e0 + 32 * e1 + 1024 * e2 + 32768 * e3 + 1048576 * e4) / 32768 = e3 + 32 * e4 := by omega
    rw [this]; omega
  · have : (e0 + 32 * e1 + 1024 * e2 + 32768 * e3 + 1048576 * e4) / 1048576 = e4 := by omega
    rw [this]; omega
theorem ky_dig {x : Int} (a : 0 ≤ x) (b : x ≤ 33554431) (k : KyI x) : ∃ d0 d1 d2 d3 d4 : Int, (0 ≤ d0 ∧ d0 ≤ 24) ∧ (0 ≤ d1 ∧ d1 ≤ 24) ∧ (0 ≤ d2 ∧ d2 ≤ 24) ∧ (0 ≤ d3 ∧ d3 ≤ 24) ∧ (0 ≤ d4 ∧ d4 ≤ 24) ∧ x = d0 + 32 * d1 + 1024 * d2 + 32768 * d3 + 1048576 * d4 := by
  obtain ⟨k0, k1, k2, k3, k4⟩ := k
  refine ⟨x % 32, x / 32 % 32, x / 1024 % 32, x / 32768 % 32, x / 1048576 % 32, ⟨by omega, k0⟩, ⟨by omega, k1⟩, ⟨by omega, k2⟩, ⟨by omega, k3⟩, ⟨by omega, k4⟩, ?_⟩
  have a1 : x = x % 32 + 32 * (x / 32) := by omega
  have a2 : x / 32 = x / 32 % 32 + 32 * (x / 1024) := by omega
  have a3 : x / 1024 = x / 1024 % 32 + 32 * (x / 32768) := by omega
  have a4 : x / 32768 = x / 32768 % 32 + 32 * (x / 1048576) := by omega
  have a5 : x / 1048576 = x / 1048576 % 32 := by omega
  omega
/-- one man less -/
theorem wo_one {x : Int32} {m : Nat} {s s5 : Int32} (hs : s.toBitVec.toNat % 32 = m) (h5 : s5.toBitVec.toNat % 32 = m + 5) (hm : m ≤ 20) (y : (((1 : Int32) <<< (s &&& 31)) - (1 : Int32)).toInt = ((2 ^ m - 1 : Nat) : Int)) (a : 0 ≤ x.toInt) (b : x.toInt ≤ 33554431) : ((x &&& (((1 : Int32) <<< (s &&& 31)) - (1 : Int32))) ||| ((x >>> (s5 &&& 31)) <<< (s &&& 31))).toInt = x.toInt % ((2 ^ m : Nat) : Int) + x.toInt / ((2 ^ (m + 5) : Nat) : Int) * ((2 ^ m : Nat) : Int) := by
  have p : 0 < ((2 ^ m : Nat) : Int) := Int.natCast_pos.mpr (Nat.two_pow_pos m)
  have e1 := and_i (x := x) (m := m) a (by omega) y
  have e2 := shr_i (x := x) (s := s5) (m + 5) h5
  have n2 : 0 ≤ (x >>> (s5 &&& 31)).toInt := by rw [e2]; exact Int.ediv_nonneg a (Int.natCast_nonneg _)
  have pe : ((2 ^ (m + 5) : Nat) : Int) = ((2 ^ m : Nat) : Int) * 32 := by rw [Nat.pow_add, Int.natCast_mul]; rfl
  have le : x.toInt / ((2 ^ (m + 5) : Nat) : Int) * ((2 ^ m : Nat) : Int) ≤ x.toInt := by
    have d0 : 0 ≤ x.toInt / ((2 ^ (m + 5) : Nat) : Int) := Int.ediv_nonneg a (Int.natCast_nonneg _)
    have l1 := Int.ediv_mul_le x.toInt (show ((2 ^ (m + 5) : Nat) : Int) ≠ 0 by rw [pe]; omega)
    have l2 : x.toInt / ((2 ^ (m + 5) : Nat) : Int) * ((2 ^ m : Nat) : Int) ≤ x.toInt / ((2 ^ (m + 5) : Nat) : Int) * ((2 ^ (m + 5) : Nat) : Int) := Int.mul_le_mul_of_nonneg_left (by rw [pe]; omega) d0
    omega
  have e3 := shl_i (x := x >>> (s5 &&& 31)) (s := s) hs n2 (by rw [e2]; omega)
  have m0 := Int.emod_nonneg x.toInt (show ((2 ^ m : Nat) : Int) ≠ 0 by omega)
  have m1 := Int.emod_lt_of_pos x.toInt p
  have m2 : x.toInt % ((2 ^ m : Nat) : Int) ≤ x.toInt := by
    have z1 := Int.mul_ediv_add_emod x.toInt ((2 ^ m : Nat) : Int)
    have z2 : 0 ≤ ((2 ^ m : Nat) : Int) * (x.toInt / ((2 ^ m : Nat) : Int)) := Int.mul_nonneg (by omega) (Int.ediv_nonneg a (by omega))
    omega
  rw [or_i (m := m) (z := (x >>> (s5 &&& 31)).toInt) (by rw [e1]; exact m0) (by rw [e1]; exact m1) n2 e3 (by rw [e1, e3, e2]; omega), e1, e3, e2]
/-- one man more -/
theorem wi_one {x v : Int32} {m : Nat} {s s5 : Int32} (hs : s.toBitVec.toNat % 32 = m) (h5 : s5.toBitVec.toNat % 32 = m + 5) (hm : m ≤ 20) (y : (((1 : Int32) <<< (s &&& 31)) - (1 : Int32)).toInt = ((2 ^ m - 1 : Nat) : Int)) (a : 0 ≤ x.toInt) (b : x.toInt < 1048576) (iv : Rg 0 31 v) : (((x &&& (((1 : Int32) <<< (s &&& 31)) - (1 : Int32))) ||| (v <<< (s &&& 31))) ||| ((x >>> (s &&& 31)) <<< (s5 &&& 31))).toInt = x.toInt % ((2 ^ m : Nat) : Int) + v.toInt * ((2 ^ m : Nat) : Int) + x.toInt / ((2 ^ m : Nat) : Int) * ((2 ^ (m + 5) : Nat) : Int) := by
  have p : 0 < ((2 ^ m : Nat) : Int) := Int.natCast_pos.mpr (Nat.two_pow_pos m)
  have p2 : ((2 ^ m : Nat) : Int) ≤ 1048576 := by
    have : 2 ^ m ≤ 2 ^ 20 := Nat.pow_le_pow_right (by decide) hm
    omega
  have v0 := iv.1
  have v1 := iv.2
  have e1 := and_i (x := x) (m := m) a (by omega) y
  have m0 := Int.emod_nonneg x.toInt (show ((2 ^ m : Nat) : Int) ≠ 0 by omega)
  have m1 := Int.emod_lt_of_pos x.toInt p
  have vb : v.toInt * ((2 ^ m : Nat) : Int) ≤ 31 * ((2 ^ m : Nat) : Int) := Int.mul_le_mul_of_nonneg_right v1 (by omega)
  have vn : 0 ≤ v.toInt * ((2 ^ m : Nat) : Int) := Int.mul_nonneg v0 (by omega)
  have e2 := shl_i (x := v) (s := s) hs v0 (by omega)
  have e3 := shr_i (x := x) (s := s) m hs
  have d0 : 0 ≤ x.toInt / ((2 ^ m : Nat) : Int) := Int.ediv_nonneg a (by omega)
  have pe : ((2 ^ (m + 5) : Nat) : Int) = ((2 ^ m : Nat) : Int) * 32 := by rw [Nat.pow_add, Int.natCast_mul]; rfl
  have l1 := Int.ediv_mul_le x.toInt (show ((2 ^ m : Nat) : Int) ≠ 0 by omega)
  have le : x.toInt / ((2 ^ m : Nat) : Int) * ((2 ^ (m + 5) : Nat) : Int) ≤ 32 * 1048576 := by
    rw [pe, ← Int.mul_assoc]
    omega
  have n3 : 0 ≤ x.toInt / ((2 ^ m : Nat) : Int) * ((2 ^ (m + 5) : Nat) : Int) := Int.mul_nonneg d0 (Int.natCast_nonneg _)
  have e4 := shl_i (x := x >>> (s &&& 31)) (s := s5) h5 (by rw [e3]; exact d0) (by rw [e3]; omega)
  have e5 := or_i (x := x &&& (((1 : Int32) <<< (s &&& 31)) - (1 : Int32))) (y := v <<< (s &&& 31)) (m := m) (z := v.toInt) (by rw [e1]; exact m0) (by rw [e1]; exact m1) v0 e2 (by rw [e1, e2]; omega)
  rw [e1, e2] at e5
  have l5 : x.toInt % ((2 ^ m : Nat) : Int) + v.toInt * ((2 ^ m : Nat) : Int) < ((2 ^ (m + 5) : Nat) : Int) := by
    rw [pe]
    omega
  rw [or_i (m := m + 5) (z := (x >>> (s &&& 31)).toInt) (by rw [e5]; omega) (by rw [e5]; exact l5) (by rw [e3]; exact d0) e4 (by rw [e5, e4, e3]; omega), e5, e4, e3]
section
variable {ρ : Nat → Nat} {c : Cm} {h : Hp} {x x1 : Int32} {F : Nat}
/-- without: a key of one man less -/
theorem wout_q (a : 0 ≤ x.toInt) (b : x.toInt ≤ 33554431) (K : KyX x) (i : Rg 0 4 x1) : Sat (sX0_without h x x1) (fun o => o.2 = h ∧ Rg 0 1048575 o.1 ∧ KyX o.1) := by
  unfold sX0_without
  obtain ⟨d0, d1, d2, d3, d4, h0, h1, h2, h3, h4, ex⟩ := ky_dig a (by omega) ((ky_i a).mp K)
  have fin : ∀ {z : Int32} {B : Int}, z.toInt = B → 0 ≤ B → B ≤ 1048575 → KyI B → Rg 0 1048575 z ∧ KyX z := fun {z B} e b0 b1 kb => ⟨⟨by omega, by omega⟩, (ky_i (by omega)).mpr (by rw [e]; exact kb)⟩
  refine s_q (fun v ev => s_some ⟨rfl, ?_⟩)
  rcases i32_04 i with w | w | w | w | w <;> subst w <;> subst ev
  · exact fin (wo_one (m := 0) rfl rfl (by decide) rfl a b) (by show 0 ≤ x.toInt % 1 + x.toInt / 32 * 1; omega) (by show x.toInt % 1 + x.toInt / 32 * 1 ≤ _; omega) (ky_sum (e4 := 0) h1 h2 h3 h4 (by decide) (by show x.toInt % 1 + x.toInt / 32 * 1 = _; omega))
  · exact fin (wo_one (m := 5) rfl rfl (by decide) rfl a b) (by show 0 ≤ x.toInt % 32 + x.toInt / 1024 * 32; omega) (by show x.toInt % 32 + x.toInt / 1024 * 32 ≤ _; omega) (ky_sum (e4 := 0) h0 h2 h3 h4 (by decide) (by show x.toInt % 32 + x.toInt / 1024 * 32 = _; omega))
  · exact fin (wo_one (m := 10) rfl rfl (by decide) rfl a b) (by show 0 ≤ x.toInt % 1024 + x.toInt / 32768 * 1024; omega) (by show x.toInt % 1024 + x.toInt / 32768 * 1024 ≤ _; omega) (ky_sum (e4 := 0) h0 h1 h3 h4 (by decide) (by show x.toInt % 1024 + x.toInt / 32768 * 1024 = _; omega))
  · exact fin (wo_one (m := 15) rfl rfl (by decide) rfl a b) (by show 0 ≤ x.toInt % 32768 + x.toInt / 1048576 * 32768; omega) (by show x.toInt % 32768 + x.toInt / 1048576 * 32768 ≤ _; omega) (ky_sum (e4 := 0) h0 h1 h2 h4 (by decide) (by show x.toInt % 32768 + x.toInt / 1048576 * 32768 = _; omega))
  · exact fin (wo_one (m := 20) rfl rfl (by decide) rfl a b) (by show 0 ≤ x.toInt % 1048576 + x.toInt / 33554432 * 1048576; omega) (by show x.toInt % 1048576 + x.toInt / 33554432 * 1048576 ≤ _; omega) (ky_sum (e4 := 0) h0 h1 h2 h3 (by decide) (by show x.toInt % 1048576 + x.toInt / 33554432 * 1048576 = _; omega))
/-- with: a key of one man more -/
theorem with_q (hF : 700000 ≤ F) (a : 0 ≤ x.toInt) (b : x.toInt ≤ 1048575) (K : KyX x) (i : Rg 0 23 x1) : Sat (sX0_with F h x x1) (fun o => o.2 = h ∧ Rg 0 33554431 o.1 ∧ KyX o.1) := by
  obtain ⟨d0, d1, d2, d3, d4, h0, h1, h2, h3, h4, ex⟩ := ky_dig a (by omega) ((ky_i a).mp K)
  have i0 := i.1
  have i1 := i.2
  have z1 : (1 : Int32).toInt = 1 := rfl
  have ev : (x1 + (1 : Int32)).toInt = x1.toInt + 1 := by rw [ta (by rw [z1]; omega), z1]
  have iv : Rg 0 31 (x1 + (1 : Int32)) := ⟨by omega, by omega⟩
  have fin : ∀ {z : Int32} {B : Int}, z.toInt = B → 0 ≤ B → B ≤ 33554431 → KyI B → Rg 0 33554431 z ∧ KyX z := fun {z B} e b0 b1 kb => ⟨⟨by omega, by omega⟩, (ky_i (by omega)).mpr (by rw [e]; exact kb)⟩
  have b35 : ∀ s : Int32, (s = 0 ∨ s = 5 ∨ s = 10 ∨ s = 15 ∨ s = 20) → Sat (sX0_with_35 F h x x1 s) (fun o => o.2 = h ∧ Rg 0 33554431 o.1 ∧ KyX o.1) := by
    intro s hs
    unfold sX0_with_35
    refine s_q (fun v e1 => s_some ⟨rfl, ?_⟩)
    rcases hs with w | w | w | w | w <;> subst w <;> subst e1
    · have e := wi_one (x := x) (v := x1 + (1 : Int32)) (m := 0) (s := 0) (s5 := (0 : Int32) + (5 : Int32)) rfl rfl (by decide) rfl a (by omega) iv
      rw [ev] at e
      exact fin e (by show 0 ≤ x.toInt % 1 + (x1.toInt + 1) * 1 + x.toInt / 1 * 32; omega) (by show x.toInt % 1 + (x1.toInt + 1) * 1 + x.toInt / 1 * 32 ≤ _; omega) (ky_sum (e0 := x1.toInt + 1) ⟨by omega, by omega⟩ h0 h1 h2 h3 (by show x.toInt % 1 + (x1.toInt + 1) * 1 + x.toInt / 1 * 32 = _; omega))
    · have e := wi_one (x := x) (v := x1 + (1 : Int32)) (m := 5) (s := 5) (s5 := (5 : Int32) + (5 : Int32)) rfl rfl (by decide) rfl a (by omega) iv
      rw [ev] at e
      exact fin e (by show 0 ≤ x.toInt % 32 + (x1.toInt + 1) * 32 + x.toInt / 32 * 1024; omega) (by show x.toInt % 32 + (x1.toInt + 1) * 32 + x.toInt / 32 * 1024 ≤ _; omega) (ky_sum (e1 := x1.toInt + 1) h0 ⟨by omega, by omega⟩ h1 h2 h3 (by show x.toInt % 32 + (x1.toInt + 1) * 32 + x.toInt / 32 * 1024 = _; omega))
    · have e := wi_one (x := x) (v := x1 + (1 : Int32)) (m := 10) (s := 10) (s5 := (10 : Int32) + (5 : Int32)) rfl rfl (by decide) rfl a (by omega) iv
      rw [ev] at e
      exact fin e (by show 0 ≤ x.toInt % 1024 + (x1.toInt + 1) * 1024 + x.toInt / 1024 * 32768; omega) (by show x.toInt % 1024 + (x1.toInt + 1) * 1024 + x.toInt / 1024 * 32768 ≤ _; omega) (ky_sum (e2 := x1.toInt + 1) h0 h1 ⟨by omega, by omega⟩ h2 h3 (by show x.toInt % 1024 + (x1.toInt + 1) * 1024 + x.toInt / 1024 * 32768 = _; omega))
    · have e := wi_one (x := x) (v := x1 + (1 : Int32)) (m := 15) (s := 15) (s5 := (15 : Int32) + (5 : Int32)) rfl rfl (by decide) rfl a (by omega) iv
      rw [ev] at e
      exact fin e (by show 0 ≤ x.toInt % 32768 + (x1.toInt + 1) * 32768 + x.toInt / 32768 * 1048576; omega) (by show x.toInt % 32768 + (x1.toInt + 1) * 32768 + x.toInt / 32768 * 1048576 ≤ _; omega) (ky_sum (e3 := x1.toInt + 1) h0 h1 h2 ⟨by omega, by omega⟩ h3 (by show x.toInt % 32768 + (x1.toInt + 1) * 32768 + x.toInt / 32768 * 1048576 = _; omega))
    · have e := wi_one (x := x) (v := x1 + (1 : Int32)) (m := 20) (s := 20) (s5 := (20 : Int32) + (5 : Int32)) rfl rfl (by decide) rfl a (by omega) iv
      rw [ev] at e
      exact fin e (by show 0 ≤ x.toInt % 1048576 + (x1.toInt + 1) * 1048576 + x.toInt / 1048576 * 33554432; omega) (by show x.toInt % 1048576 + (x1.toInt + 1) * 1048576 + x.toInt / 1048576 * 33554432 ≤ _; omega) (ky_sum (e4 := x1.toInt + 1) h0 h1 h2 h3 ⟨by omega, by omega⟩ (by show x.toInt % 1048576 + (x1.toInt + 1) * 1048576 + x.toInt / 1048576 * 33554432 = _; omega))
  obtain ⟨F, rfl⟩ : ∃ G, F = G + 6 := ⟨F - 6, by omega⟩
  have st : ∀ (f : Nat) (s : Int32), (s = 0 ∨ s = 5 ∨ s = 10 ∨ s = 15) → Sat (sX0_with_2 (F + 6) f h x x1 (s + (5 : Int32))) (fun o => o.2 = h ∧ Rg 0 33554431 o.1 ∧ KyX o.1) → Sat (sX0_with_2 (F + 6) (f + 1) h x x1 s) (fun o => o.2 = h ∧ Rg 0 33554431 o.1 ∧ KyX o.1) := by
    intro f s hs nx
    rw [sX0_with_2]
    have c1 : s = 0 ∨ s = 5 ∨ s = 10 ∨ s = 15 ∨ s = 20 := by rcases hs with w | w | w | w <;> simp [w]
    exact s_br (fun _ => b35 s c1) (fun _ => s_br (fun _ => b35 s c1) (fun _ => s_br (fun _ => b35 s c1) (fun _ => s_q (fun y ey => by rw [ey]; exact nx))))
  have last : Sat (sX0_with_2 (F + 6) (F + 1 + 1) h x x1 20) (fun o => o.2 = h ∧ Rg 0 33554431 o.1 ∧ KyX o.1) := by
    rw [sX0_with_2]
    refine s_br (fun _ => b35 20 (by simp)) (fun _ => s_br (fun _ => b35 20 (by simp)) (fun n => absurd ?_ n))
    have d := dig_i a 20 (20 : Int32) rfl
    apply Int32.toInt_inj.mp
    rw [d]
    show x.toInt / 1048576 % 32 = 0
    omega
  unfold sX0_with
  exact st _ 0 (by simp) (st _ 5 (by simp) (st _ 10 (by simp) (st _ 15 (by simp) last)))
end
