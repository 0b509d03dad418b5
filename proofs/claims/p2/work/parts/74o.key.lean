/-! the key of a set tells how many it has -/
section
variable {ρ : Nat → Nat} {c : Cm} {h o : Hp} {x0 a b p q F : Nat} {x1 x2 x3 x4 : Int32}
theorem shl5 {x : Int32} (i : Rg 0 67108863 x) : (x <<< ((5 : Int32) &&& 31)).toInt = 32 * x.toInt := by
  have hk := Jvm.RoadKit.c_ishl x (5 : Int32) 5 rfl
  have r := rg_shl (s := (5 : Int32)) (n := 5) (hi := 2147483647) i (rg_b rfl : Rg 0 5 (5 : Int32)) (by decide)
  have e : ((2 ^ 5 : Nat) : Int) = 32 := rfl
  rw [e] at hk
  have := i.1
  have := i.2
  have := r.1
  have := r.2
  omega
theorem or5 {x m : Int32} (i : Rg 0 67108863 x) (im : Rg 0 31 m) : ((x <<< ((5 : Int32) &&& 31)) ||| m).toInt = 32 * x.toInt + m.toInt := by
  have e := shl5 i
  have a0 := i.1
  have a1 := i.2
  have b0 := im.1
  have b1 := im.2
  obtain ⟨j, ej, tj, hj⟩ := rg_nI (⟨by omega, by omega⟩ : Rg 0 2147483647 (x <<< ((5 : Int32) &&& 31))) (Int.le_refl 0)
  obtain ⟨k, ek, tk, hk⟩ := rg_nI im (Int.le_refl 0)
  obtain ⟨y, ey, ty, hy⟩ := rg_nI i (Int.le_refl 0)
  have ej2 : j = 32 * y := by omega
  have k32 : k < 2 ^ 5 := by omega
  have en : j ||| k = j + k := by
    rw [ej2]
    exact (Nat.two_pow_add_eq_or_of_lt k32 y).symm
  have hz : ∀ i, i < 2 ^ 31 → (nI i).toBitVec.toNat = i := fun i hi => by
    show (BitVec.ofNat 32 i).toNat = i
    rw [BitVec.toNat_ofNat]
    exact Nat.mod_eq_of_lt (by omega)
  have eo : (x <<< ((5 : Int32) &&& 31)) ||| m = nI (j + k) := by
    rw [ej, ek]
    apply Int32.toBitVec_inj.mp
    apply BitVec.eq_of_toNat_eq
    show ((nI j).toBitVec ||| (nI k).toBitVec).toNat = (nI (j + k)).toBitVec.toNat
    rw [BitVec.toNat_or, hz j hj, hz k hk, hz _ (by omega), en]
  rw [eo, z_toInt (by omega)]
  omega
theorem pk_rg (i1 : Rg 0 5 x1) (g : ∀ j, Rg 0 31 (hI h a j)) : ∀ n, n ≤ 5 → x1.toInt * 32 ^ n ≤ (pkN h a p x1 n).toInt ∧ (pkN h a p x1 n).toInt + 1 ≤ (x1.toInt + 1) * 32 ^ n := by
  have a1 := i1.1
  have b1 := i1.2
  have st : ∀ (n : Nat) (lo hi : Int), 0 ≤ lo → hi ≤ 67108864 → lo ≤ (pkN h a p x1 n).toInt ∧ (pkN h a p x1 n).toInt + 1 ≤ hi → lo * 32 ≤ (pkN h a p x1 (n + 1)).toInt ∧ (pkN h a p x1 (n + 1)).toInt + 1 ≤ hi * 32 := fun n lo hi l0 l1 ⟨q1, q2⟩ => by
    have e : (pkN h a p x1 (n + 1)).toInt = 32 * (pkN h a p x1 n).toInt + (hI h a (p + n)).toInt := or5 ⟨by omega, by omega⟩ (g _)
    have := (g (p + n)).1
    have := (g (p + n)).2
    omega
  have p0 : x1.toInt ≤ (pkN h a p x1 0).toInt ∧ (pkN h a p x1 0).toInt + 1 ≤ x1.toInt + 1 := ⟨Int.le_refl _, Int.le_refl _⟩
  have p1 : x1.toInt * 32 ≤ (pkN h a p x1 1).toInt ∧ (pkN h a p x1 1).toInt + 1 ≤ (x1.toInt + 1) * 32 := st 0 _ _ (by omega) (by omega) p0
  have p2 : x1.toInt * 32 * 32 ≤ (pkN h a p x1 2).toInt ∧ (pkN h a p x1 2).toInt + 1 ≤ (x1.toInt + 1) * 32 * 32 := st 1 _ _ (by omega) (by omega) p1
  have p3 : x1.toInt * 32 * 32 * 32 ≤ (pkN h a p x1 3).toInt ∧ (pkN h a p x1 3).toInt + 1 ≤ (x1.toInt + 1) * 32 * 32 * 32 := st 2 _ _ (by omega) (by omega) p2
  have p4 : x1.toInt * 32 * 32 * 32 * 32 ≤ (pkN h a p x1 4).toInt ∧ (pkN h a p x1 4).toInt + 1 ≤ (x1.toInt + 1) * 32 * 32 * 32 * 32 := st 3 _ _ (by omega) (by omega) p3
  have p5 : x1.toInt * 32 * 32 * 32 * 32 * 32 ≤ (pkN h a p x1 5).toInt ∧ (pkN h a p x1 5).toInt + 1 ≤ (x1.toInt + 1) * 32 * 32 * 32 * 32 * 32 := st 4 _ _ (by omega) (by omega) p4
  intro n hn
  rcases (by omega : n = 0 ∨ n = 1 ∨ n = 2 ∨ n = 3 ∨ n = 4 ∨ n = 5) with rfl | rfl | rfl | rfl | rfl | rfl
  · exact ⟨by show x1.toInt * 1 ≤ _; have := p0.1; omega, by show _ ≤ (x1.toInt + 1) * 1; have := p0.2; omega⟩
  · exact ⟨by show x1.toInt * 32 ≤ _; have := p1.1; omega, by show _ ≤ (x1.toInt + 1) * 32; have := p1.2; omega⟩
  · exact ⟨by show x1.toInt * 1024 ≤ _; have := p2.1; omega, by show _ ≤ (x1.toInt + 1) * 1024; have := p2.2; omega⟩
  · exact ⟨by show x1.toInt * 32768 ≤ _; have := p3.1; omega, by show _ ≤ (x1.toInt + 1) * 32768; have := p3.2; omega⟩
  · exact ⟨by show x1.toInt * 1048576 ≤ _; have := p4.1; omega, by show _ ≤ (x1.toInt + 1) * 1048576; have := p4.2; omega⟩
  · exact ⟨by show x1.toInt * 33554432 ≤ _; have := p5.1; omega, by show _ ≤ (x1.toInt + 1) * 33554432; have := p5.2; omega⟩
theorem pk_k (i1 : Rg 0 5 x1) (g : ∀ j, Rg 0 31 (hI h a j)) : (x1.toInt = 0 ∧ (pkN h a p x1 x1.toNatClampNeg).toInt = 0) ∨ (x1.toInt = 1 ∧ 32 ≤ (pkN h a p x1 x1.toNatClampNeg).toInt ∧ (pkN h a p x1 x1.toNatClampNeg).toInt < 64) ∨ (x1.toInt = 2 ∧ 2048 ≤ (pkN h a p x1 x1.toNatClampNeg).toInt ∧ (pkN h a p x1 x1.toNatClampNeg).toInt < 3072) ∨ (x1.toInt = 3 ∧ 98304 ≤ (pkN h a p x1 x1.toNatClampNeg).toInt ∧ (pkN h a p x1 x1.toNatClampNeg).toInt < 131072) ∨ (x1.toInt = 4 ∧ 4194304 ≤ (pkN h a p x1 x1.toNatClampNeg).toInt ∧ (pkN h a p x1 x1.toNatClampNeg).toInt < 5242880) ∨ (x1.toInt = 5 ∧ 167772160 ≤ (pkN h a p x1 x1.toNatClampNeg).toInt) := by
  have a1 := i1.1
  have b1 := i1.2
  have c1 := clamp_i a1
  have P := pk_rg (p := p) i1 g x1.toNatClampNeg (by omega)
  generalize (pkN h a p x1 x1.toNatClampNeg).toInt = K at *
  rcases (by omega : x1.toNatClampNeg = 0 ∨ x1.toNatClampNeg = 1 ∨ x1.toNatClampNeg = 2 ∨ x1.toNatClampNeg = 3 ∨ x1.toNatClampNeg = 4 ∨ x1.toNatClampNeg = 5) with z | z | z | z | z | z
  · rw [z] at P c1
    have e : x1.toInt = 0 := c1.symm
    rw [e] at P ⊢
    have q1 : (0 : Int) * 1 ≤ K := P.1
    have q2 : K + 1 ≤ (0 + 1) * 1 := P.2
    omega
  · rw [z] at P c1
    have e : x1.toInt = 1 := c1.symm
    rw [e] at P ⊢
    have q1 : (1 : Int) * 32 ≤ K := P.1
    have q2 : K + 1 ≤ (1 + 1) * 32 := P.2
    omega
  · rw [z] at P c1
    have e : x1.toInt = 2 := c1.symm
    rw [e] at P ⊢
    have q1 : (2 : Int) * 1024 ≤ K := P.1
    have q2 : K + 1 ≤ (2 + 1) * 1024 := P.2
    omega
  · rw [z] at P c1
    have e : x1.toInt = 3 := c1.symm
    rw [e] at P ⊢
    have q1 : (3 : Int) * 32768 ≤ K := P.1
    have q2 : K + 1 ≤ (3 + 1) * 32768 := P.2
    omega
  · rw [z] at P c1
    have e : x1.toInt = 4 := c1.symm
    rw [e] at P ⊢
    have q1 : (4 : Int) * 1048576 ≤ K := P.1
    have q2 : K + 1 ≤ (4 + 1) * 1048576 := P.2
    omega
  · rw [z] at P c1
    have e : x1.toInt = 5 := c1.symm
    rw [e] at P ⊢
    have q1 : (5 : Int) * 33554432 ≤ K := P.1
    omega
/-- equal keys: equally many -/
theorem pk_same {g : Hp} (i1 : Rg 0 5 x1) (i2 : Rg 0 5 x2) (g1 : ∀ j, Rg 0 31 (hI h a j)) (g2 : ∀ j, Rg 0 31 (hI g b j)) (e : pkN h a p x1 x1.toNatClampNeg = pkN g b q x2 x2.toNatClampNeg) : x1.toInt = x2.toInt := by
  have A := pk_k (p := p) i1 g1
  have B := pk_k (p := q) i2 g2
  rw [e] at A
  omega
end
