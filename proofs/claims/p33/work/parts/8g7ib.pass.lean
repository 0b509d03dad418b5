/-! short rows for equations; words of PASS -/
theorem bp_e {β : Type} {c : Prop} [Decidable c] {a b : Option β} {o : β} (q : c) (e : br c a b = some o) : a = some o := by
  rcases br_s e with ⟨_, z⟩ | ⟨n, _⟩
  · exact z
  · exact absurd q n
theorem bn_e {β : Type} {c : Prop} [Decidable c] {a b : Option β} {o : β} (q : ¬ c) (e : br c a b = some o) : b = some o := by
  rcases br_s e with ⟨n, _⟩ | ⟨_, z⟩
  · exact absurd n q
  · exact z
theorem br_2 {β γ : Type} {c c' : Prop} [Decidable c] [Decidable c'] {a b : Option β} {a' b' : Option γ} {o : β} {o' : γ} (q : c ↔ c') (e : br c a b = some o) (e' : br c' a' b' = some o') : (c ∧ a = some o ∧ a' = some o') ∨ (¬ c ∧ b = some o ∧ b' = some o') := by
  rcases br_s e with ⟨n, z⟩ | ⟨n, z⟩
  · exact Or.inl ⟨n, z, bp_e (q.mp n) e'⟩
  · exact Or.inr ⟨n, z, bn_e (fun y => n (q.mpr y)) e'⟩
theorem ce_e {α β : Type} {x : Option α} {k : α → Option β} {o : β} {y : α} (q : x = some y) (e : cl x k = some o) : k y = some o := by
  rw [q] at e
  exact e
theorem gg_e {β : Type} {c : Prop} [Decidable c] {k : Option β} {o : β} (e : gd c k = some o) : k = some o := (gd_s e).2
theorem nx_e {α β : Type} {x : α} {k : α → Option β} {o : β} (e : nm x k = some o) : k x = some o := e
theorem so_e {α : Type} {x o : α} (e : some x = some o) : o = x := (Option.some.inj e).symm
theorem cmp_ne {a b : Int64} (h : ¬ a = b) : ¬ lg_cmp a b = 0 := fun z => h (cmp_eq z)
theorem cmp_rf (a : Int64) : lg_cmp a a = 0 := by
  unfold lg_cmp
  simp
/-- digits of 6 bits -/
def pkS (q : Nat → Nat) : Nat → Nat
  | 0 => 0
  | n + 1 => pkS q n + q n * 64 ^ n
theorem pks_lt {q : Nat → Nat} : ∀ n, (∀ i, i < n → q i < 64) → pkS q n < 64 ^ n
  | 0, _ => by
    show 0 < 64 ^ 0
    decide
  | n + 1, hq => by
    have a := pks_lt n (fun i hi => hq i (by omega))
    have b := hq n (by omega)
    have c : q n * 64 ^ n ≤ 63 * 64 ^ n := Nat.mul_le_mul_right _ (by omega)
    show pkS q n + q n * 64 ^ n < 64 ^ (n + 1)
    rw [Nat.pow_succ]
    omega
theorem pks_dig {q : Nat → Nat} : ∀ n, (∀ i, i < n → q i < 64) → ∀ i, i < n → pkS q n / 64 ^ i % 64 = q i
  | 0, _, i, hi => absurd hi (by omega)
  | n + 1, hq, i, hi => by
    have hq' : ∀ i, i < n → q i < 64 := fun i hi => hq i (by omega)
    have a := pks_lt n hq'
    have b := hq n (by omega)
    show (pkS q n + q n * 64 ^ n) / 64 ^ i % 64 = q i
    by_cases c : i = n
    · rw [c, Nat.add_mul_div_right _ _ (Nat.pow_pos (by decide)), Nat.div_eq_of_lt a]
      omega
    · have l : i < n := by omega
      obtain ⟨d, hd⟩ : ∃ d, n = i + d + 1 := ⟨n - i - 1, by omega⟩
      have p : q n * 64 ^ n = 64 ^ i * (64 * (q n * 64 ^ d)) := by
        have : 64 ^ n = 64 ^ i * (64 * 64 ^ d) := by
          rw [hd, show i + d + 1 = i + (1 + d) by omega, Nat.pow_add, Nat.pow_add, Nat.pow_one]
        rw [this, Nat.mul_left_comm, Nat.mul_left_comm (q n) 64]
      rw [p, Nat.add_mul_div_left _ _ (Nat.pow_pos (by decide)), Nat.add_mul_mod_self_left]
      exact pks_dig n hq' i l
theorem pks_c {q r : Nat → Nat} : ∀ n, (∀ i, i < n → q i = r i) → pkS q n = pkS r n
  | 0, _ => rfl
  | n + 1, h => by
    show pkS q n + q n * 64 ^ n = pkS r n + r n * 64 ^ n
    rw [pks_c n (fun i hi => h i (by omega)), h n (by omega)]
/-- a word of PASS: n squares -/
def Pw (x : Int64) (n : Nat) (q : Nat → Nat) : Prop := n ≤ 7 ∧ (∀ i, i < n → q i < 64) ∧ x.toBitVec.toNat = n + 8 * pkS q n
theorem pw_inj {x y : Int64} {n m : Nat} {q r : Nat → Nat} (A : Pw x n q) (B : Pw y m r) : x = y ↔ (n = m ∧ ∀ i, i < n → q i = r i) := by
  obtain ⟨a1, a2, a3⟩ := A
  obtain ⟨b1, b2, b3⟩ := B
  constructor
  · intro z
    rw [z] at a3
    have e : n = m := by omega
    refine ⟨e, fun i hi => ?_⟩
    rw [← pks_dig n a2 i hi, ← pks_dig m b2 i (by omega), show pkS q n = pkS r m by omega]
  · rintro ⟨z1, z2⟩
    have : x.toBitVec = y.toBitVec := BitVec.eq_of_toNat_eq (by rw [a3, b3, z1, pks_c m (fun i hi => z2 i (by omega))])
    exact Int64.toBitVec_inj.mp this
theorem lo3 (y : Int64) : (y.toInt32 &&& (7 : Int32)).toInt = ((y.toBitVec.toNat % 8 : Nat) : Int) := by
  have h : (y.toInt32 &&& (7 : Int32)).toBitVec.toNat = y.toBitVec.toNat % 8 := by
    rw [Int32.toBitVec_and, BitVec.toNat_and]
    show (y.toBitVec.signExtend 32).toNat &&& (2 ^ 3 - 1) = _
    rw [Nat.and_two_pow_sub_one_eq_mod, BitVec.signExtend_eq_setWidth_of_le _ (by decide), BitVec.toNat_setWidth]
    omega
  show (y.toInt32 &&& (7 : Int32)).toBitVec.toInt = _
  rw [BitVec.toInt_eq_toNat_of_lt (by rw [h]; omega), h]
theorem lo6 (y : Int64) : (y.toInt32 &&& (63 : Int32)).toInt = ((y.toBitVec.toNat % 64 : Nat) : Int) := by
  have h : (y.toInt32 &&& (63 : Int32)).toBitVec.toNat = y.toBitVec.toNat % 64 := by
    rw [Int32.toBitVec_and, BitVec.toNat_and]
    show (y.toBitVec.signExtend 32).toNat &&& (2 ^ 6 - 1) = _
    rw [Nat.and_two_pow_sub_one_eq_mod, BitVec.signExtend_eq_setWidth_of_le _ (by decide), BitVec.toNat_setWidth]
    omega
  show (y.toInt32 &&& (63 : Int32)).toBitVec.toInt = _
  rw [BitVec.toInt_eq_toNat_of_lt (by rw [h]; omega), h]
theorem pw_8 : (8 : Int64).toBitVec.toNat = 8 := by decide
theorem pw_n8 {x : Int64} {n : Nat} {q : Nat → Nat} (A : Pw x n q) : ¬ x = (8 : Int64) := fun z => by
  obtain ⟨a1, _, a3⟩ := A
  rw [z, pw_8] at a3
  have : n = 0 := by omega
  rw [this] at a3
  exact absurd a3 (show ¬ (8 : Nat) = 0 + 8 * 0 by decide)
theorem pw_sh : ∀ j : Fin 7, ∀ s : Fin 64, ((nI s.val).toInt64 <<< (((3 : Int32) + ((6 : Int32) * (nI j.val))).toInt64 &&& 63)).toBitVec.toNat = s.val * 2 ^ (3 + 6 * j.val) := by decide +kernel
section
variable {h o' : Hp} {p : Nat} {x1 : Int32} {o : Int32 × Hp} {n : Nat} {q : Nat → Nat}
theorem ps_q (e : sX3_passSize h p = some o) (A : Pw (hJ h p 9) n q) : o.2 = h ∧ o.1.toInt = (n : Int) := by
  obtain ⟨a1, _, a3⟩ := A
  rw [so_e e]
  refine ⟨rfl, ?_⟩
  show (_ &&& (7 : Int32)).toInt = _
  rw [lo3, a3]
  omega
theorem psq_q {i : Int32} (e : sX3_passSquare h p i = some o) (A : Pw (hJ h p 9) n q) (i0 : 0 ≤ i.toInt) (i1 : i.toInt < n) : o.2 = h ∧ o.1.toInt = (q i.toNatClampNeg : Int) := by
  have z3 : (3 : Int32).toInt = 3 := rfl
  have z6 : (6 : Int32).toInt = 6 := rfl
  obtain ⟨a1, a2, a3⟩ := A
  have ni := nc_i i0
  have t6 : ((6 : Int32) * i).toInt = 6 * i.toInt := by rw [tm (by rw [z6]; omega), z6]
  have t3 : ((3 : Int32) + ((6 : Int32) * i)).toInt = 3 + 6 * i.toInt := by rw [ta (by rw [z3, t6]; omega), z3, t6]
  have c3 := nc_i (x := (3 : Int32) + ((6 : Int32) * i)) (by omega)
  have cc : ((3 : Int32) + ((6 : Int32) * i)).toNatClampNeg = 3 + 6 * i.toNatClampNeg := by omega
  rw [so_e e]
  refine ⟨rfl, ?_⟩
  show (_ &&& (63 : Int32)).toInt = _
  rw [lo6, ush_v ⟨by omega, by omega⟩, cc, a3, Nat.pow_add, ← Nat.div_div_eq_div_mul]
  have : (n + 8 * pkS q n) / 2 ^ 3 = pkS q n := by omega
  rw [this, Nat.pow_mul, show (2 : Nat) ^ 6 = 64 by decide, pks_dig n a2 _ (by omega)]
/-- one square more -/
theorem ap_q (i1 : Rg 0 63 x1) (A : Pw (hJ h p 9) n q) (ln : n ≤ 6) (e : sX3_addPass h p x1 = some o') : ∃ x y, o' = wJ (wJ h p 9 x) p 10 y ∧ Pw x (n + 1) (fun i => if i = n then x1.toNatClampNeg else q i) ∧ ∀ t, bitJ y t = (bitJ (hJ h p 10) t || (decide (0 < n) && decide (x1.toNatClampNeg = t))) := by
  have z7 : (7 : Int32).toInt = 7 := rfl
  have z0 : (0 : Int32).toInt = 0 := rfl
  have i10 := i1.1
  have i11 := i1.2
  have c1 := nc_i i10
  unfold sX3_addPass sX3_addPass_22 sX3_addPass_66 at e
  replace e := cl_s e; obtain ⟨o1, eo1, e⟩ := e
  obtain ⟨w1, v1⟩ := ps_q eo1 A
  rw [w1] at e
  replace e := bn_e (cmp_ne (pw_n8 A)) e
  replace e := bp_e (ii_lt.mpr (by rw [z7]; omega)) e
  have A' := A
  obtain ⟨a1, a2, a3⟩ := A
  have eo : o1.1 = nI n := Int32.toInt_inj.mp (by rw [v1, z_toInt (by omega)])
  have ex : nI x1.toNatClampNeg = x1 := Int32.toInt_inj.mp (by rw [z_toInt (by omega)]; omega)
  have sh := pw_sh ⟨n, by omega⟩ ⟨x1.toNatClampNeg, by omega⟩
  dsimp only at sh
  rw [ex, ← eo] at sh
  have pl := pks_lt n a2
  have p64 : 2 ^ (3 + 6 * n) = 8 * 64 ^ n := by
    rw [Nat.pow_add, Nat.pow_mul]
  have up : 64 ^ n ≤ 64 ^ 6 := Nat.pow_le_pow_right (by decide) ln
  have u6 : (64 : Nat) ^ 6 = 68719476736 := by decide
  have lt : (hJ h p 9).toBitVec.toNat < 2 ^ (3 + 6 * n) := by rw [a3, p64]; omega
  have ml : x1.toNatClampNeg * 64 ^ n ≤ 63 * 64 ^ n := Nat.mul_le_mul_right _ (by omega)
  have mm : x1.toNatClampNeg * 2 ^ (3 + 6 * n) = 8 * (x1.toNatClampNeg * 64 ^ n) := by rw [p64, Nat.mul_left_comm]
  have nat : (((hJ h p 9) ||| (x1.toInt64 <<< (((3 : Int32) + ((6 : Int32) * o1.1)).toInt64 &&& 63))) + (1 : Int64)).toBitVec.toNat = (n + 1) + 8 * (pkS q n + x1.toNatClampNeg * 64 ^ n) := by
    have orr : ((hJ h p 9) ||| (x1.toInt64 <<< (((3 : Int32) + ((6 : Int32) * o1.1)).toInt64 &&& 63))).toBitVec.toNat = n + 8 * (pkS q n + x1.toNatClampNeg * 64 ^ n) := by
      rw [Int64.toBitVec_or, BitVec.toNat_or, sh, Nat.or_comm, Nat.mul_comm x1.toNatClampNeg, ← Nat.two_pow_add_eq_or_of_lt lt, Nat.mul_comm, mm, a3]
      omega
    rw [Int64.toBitVec_add, BitVec.toNat_add, orr]
    show (_ + 1) % 2 ^ 64 = _
    rw [Nat.mod_eq_of_lt (by
      have : (2 : Nat) ^ 64 = 18446744073709551616 := by decide
      omega)]
    omega
  have W : Pw (((hJ h p 9) ||| (x1.toInt64 <<< (((3 : Int32) + ((6 : Int32) * o1.1)).toInt64 &&& 63))) + (1 : Int64)) (n + 1) (fun i => if i = n then x1.toNatClampNeg else q i) := by
    refine ⟨by omega, fun i hi => ?_, ?_⟩
    · show (if i = n then _ else _) < 64
      by_cases c : i = n
      · rw [if_pos c]; omega
      · rw [if_neg c]; exact a2 i (by omega)
    · rw [nat]
      show _ = n + 1 + 8 * (pkS _ n + (if n = n then x1.toNatClampNeg else q n) * 64 ^ n)
      rw [if_pos rfl, pks_c (r := q) n (fun i hi => if_neg (by omega))]
  replace e := nm_s e; obtain ⟨h4, w4, e⟩ := e
  have j10 : hJ h4 p 10 = hJ h p 10 := by rw [w4, r_J, if_neg (fun z => absurd z.2 (by decide))]
  replace e := br_s e
  rcases e with ⟨l, e⟩ | ⟨l, e⟩
  · have l := le_i l
    rw [z0] at l
    refine ⟨_, _, by rw [so_e (nx_e e), w4], W, fun t => ?_⟩
    rw [bj_or, r_J, if_neg (fun z => absurd z.2 (by decide)), bj_zero]
    have : decide (0 < n) = false := decide_eq_false (by omega)
    rw [this]
    simp
  · have l := nle_i l
    rw [z0] at l
    refine ⟨_, _, by rw [so_e (nx_e e), w4], W, fun t => ?_⟩
    rw [bj_or, r_J, if_neg (fun z => absurd z.2 (by decide)), bj_one i1]
    have : decide (0 < n) = true := decide_eq_true (by omega)
    rw [this]
    simp
/-- too many -/
theorem ap_8 (A : Pw (hJ h p 9) 7 q ∨ hJ h p 9 = 8) (e : sX3_addPass h p x1 = some o') : o' = wJ h p 9 8 := by
  have z7 : (7 : Int32).toInt = 7 := rfl
  unfold sX3_addPass sX3_addPass_22 at e
  replace e := cl_s e; obtain ⟨o1, eo1, e⟩ := e
  have w1 : o1.2 = h := by rw [so_e eo1]
  rw [w1] at e
  rcases A with A | A
  · have v1 := (ps_q eo1 A).2
    replace e := bn_e (cmp_ne (pw_n8 A)) e
    replace e := bn_e (fun z => by
      have := lt_i z
      rw [z7] at this
      omega) e
    exact so_e (nx_e e)
  · replace e := bp_e (by rw [A]; exact cmp_rf 8) e
    exact so_e (nx_e e)
end
