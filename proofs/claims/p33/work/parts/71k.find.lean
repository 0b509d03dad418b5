theorem rg_inck {a b n : Int} {x y : Int32} (hx : Rg a b x) (hy : Rg n n y) (e : -2147483648 ≤ a + n ∧ b + n ≤ 2147483647) : (x + y).toInt = x.toInt + n := by
  have x1 := hx.1
  have x2 := hx.2
  have y1 := hy.1
  have y2 := hy.2
  rw [Int32.toInt_add]
  have : y.toInt = n := by omega
  rw [this]
  exact Int.bmod_eq_of_le_mul_two (by omega) (by omega)
section
variable {ρ : Nat → Nat} {c : Cm} {h : Hp}
theorem find9 {F x0 : Nat} {x1 : Int32} (T : TH ρ c h) (r0 : ρ x0 = 1) : ∀ (f : Nat) {x2 x3 : Int32}, Rg 0 1024 x2 → Rg (-1) 1023 x3 → (x3.toInt - x2.toInt + 1).toNat < f → Sat (sX0_findSet_9 F f h x0 x1 x2 x3) (ZI0 h (-1) 1023) := by
  intro f
  induction f with
  | zero => intros; omega
  | succ f ih =>
    intro x2 x3 i2 i3 hm
    rw [sX0_findSet_9]
    unfold sX0_findSet_59
    refine s_br (fun c1 => s_some ⟨rfl, rg_b rfl⟩) (fun c1 => ?_)
    rw [Int32.lt_iff_toInt_lt] at c1
    have a1 := i2.1
    have a2 := i2.2
    have b1 := i3.1
    have b2 := i3.2
    refine s_q (fun v ev => ?_)
    have w : v.toInt = (x2.toInt + x3.toInt) / 2 := by
      rw [ev, Jvm.RoadKit.c_ishr _ (1 : Int32) 1 (by decide), Int32.toInt_add]
      have : (x2.toInt + x3.toInt).bmod (2 ^ 32) = x2.toInt + x3.toInt := Int.bmod_eq_of_le_mul_two (by omega) (by omega)
      rw [this]
      rfl
    have iv : Rg 0 1023 v := ⟨by omega, by omega⟩
    obtain ⟨r, er, qr⟩ := thR T r0 (i := 4) (k2 := 20) rfl (by decide)
    refine s_ref er ?_
    have gb : inB v (hN h r) := by rw [thN T qr (k := 20) (n := 1024) rfl (by decide)]; exact rg_inB iv (by decide)
    refine s_gd gb ?_
    refine s_br (fun c2 => s_some ⟨rfl, rg_m iv (by decide)⟩) (fun c2 => ?_)
    refine s_ref er (s_gd gb ?_)
    refine s_br (fun c3 => ?_) (fun c3 => ?_)
    · refine s_q (fun v9 e9 => ?_)
      have w9 : v9.toInt = v.toInt - 1 := by rw [e9]; exact rg_decs iv (by decide)
      exact ih i2 ⟨by omega, by omega⟩ (by omega)
    · refine s_q (fun v10 e10 => ?_)
      have w10 : v10.toInt = v.toInt + 1 := by rw [e10]; exact rg_inc iv (by decide)
      exact ih ⟨by omega, by omega⟩ i3 (by omega)
theorem zX0_findSet {F : Nat} (hF : 700000 ≤ F) {x0 : Nat} {x1 : Int32} (T : TH ρ c h) (r0 : ρ x0 = 1) (i1 : Rg (-2147483648) 2147483647 x1) : Sat (sX0_findSet F h x0 x1) (ZI0 h (-1) 1023) := by
  unfold sX0_findSet
  refine s_q (fun v ev => ?_)
  have i9 := thI T r0 (k := 1) (i := 9) (lo := 0) (hi := 1024) rfl
  have iv : Rg (-1) 1023 v := by rw [ev]; exact rg_sub i9 (rg_b rfl : Rg 1 1 (1 : Int32)) (by decide)
  have z : (0 : Int32).toInt = 0 := rfl
  have := iv.2
  exact find9 T r0 F ⟨by rw [z]; omega, by rw [z]; omega⟩ iv (by rw [z]; omega)
end
theorem rg_divn {m c d hi : Int} {x y : Int32} (hx : Rg (-m) m x) (hy : Rg c d y) (e : 0 ≤ m ∧ 1 ≤ c ∧ m / c ≤ hi) : Rg (-hi) hi (x / y) := by
  obtain ⟨e1, e2, e3⟩ := e
  have h1 := hx.1
  have h2 := hx.2
  have h3 := hy.1
  have key : ∀ z : Int, 0 ≤ z → z ≤ m → 0 ≤ z / y.toInt ∧ z / y.toInt ≤ hi := fun z z0 zm => by
    have q0 : 0 ≤ z / y.toInt := Int.ediv_nonneg z0 (by omega)
    refine ⟨q0, Int.le_trans (Int.le_ediv_of_mul_le (by omega) ?_) e3⟩
    have p1 : z / y.toInt * c ≤ z / y.toInt * y.toInt := Int.mul_le_mul_of_nonneg_left h3 q0
    have p2 : z / y.toInt * y.toInt ≤ z := Int.ediv_mul_le _ (by omega)
    omega
  unfold Rg
  rw [Int32.toInt_div_of_ne_right x y (rg_ne1 hy e2)]
  by_cases q : 0 ≤ x.toInt
  · rw [Int.tdiv_eq_ediv_of_nonneg q]
    have := key x.toInt q h2
    omega
  · have n : x.toInt.tdiv y.toInt = -((-x.toInt) / y.toInt) := by
      rw [← Int.tdiv_eq_ediv_of_nonneg (by omega), Int.neg_tdiv, Int.neg_neg]
    rw [n]
    have := key (-x.toInt) (by omega) (by omega)
    omega
theorem rg_muln {m n hi : Int} {x y : Int32} (hx : Rg (-m) m x) (hy : Rg (-n) n y) (e : 0 ≤ m ∧ 0 ≤ n ∧ m * n ≤ hi ∧ hi ≤ 2147483647) : Rg (-hi) hi (x * y) := by
  obtain ⟨e1, e2, e3, e4⟩ := e
  have h1 := hx.1
  have h2 := hx.2
  have h3 := hy.1
  have h4 := hy.2
  have a : x.toInt.natAbs ≤ m.toNat := by omega
  have b : y.toInt.natAbs ≤ n.toNat := by omega
  have c := Nat.mul_le_mul a b
  rw [← Int.natAbs_mul] at c
  have d : ((m.toNat * n.toNat : Nat) : Int) = m * n := by rw [Int.natCast_mul, Int.toNat_of_nonneg e1, Int.toNat_of_nonneg e2]
  generalize m.toNat * n.toNat = K at *
  generalize m * n = L at *
  unfold Rg
  rw [Int32.toInt_mul]
  generalize x.toInt * y.toInt = Z at *
  have : Z.bmod (2 ^ 32) = Z := Int.bmod_eq_of_le_mul_two (by omega) (by omega)
  rw [this]
  omega
