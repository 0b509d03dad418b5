theorem least {P : Nat → Bool} : ∀ n, P n = true → ∃ k, k ≤ n ∧ P k = true ∧ ∀ j, j < k → P j = false := by
  intro n
  induction n using Nat.strongRecOn with
  | ind n ih =>
    intro hn
    by_cases q : ∃ j, j < n ∧ P j = true
    · obtain ⟨j, hj, pj⟩ := q
      obtain ⟨k, hk, pk, hl⟩ := ih j hj pj
      exact ⟨k, by omega, pk, hl⟩
    · refine ⟨n, Nat.le_refl n, hn, fun j hj => ?_⟩
      cases z : P j with
      | false => rfl
      | true => exact absurd ⟨j, hj, z⟩ q
theorem low_bit {x : Int64} (hx : ¬ x = 0) : ∃ k, k < 64 ∧ bitJ x k = true ∧ (x &&& (-x)) = Int64.ofBitVec (BitVec.twoPow 64 k) := by
  have e : ∃ n, n < 64 ∧ bitJ x n = true := by
    refine Classical.byContradiction (fun q => hx ?_)
    apply Int64.toBitVec_inj.mp
    apply BitVec.eq_of_getLsbD_eq
    intro i hi
    have : bitJ x i = false := by
      cases z : bitJ x i with
      | false => rfl
      | true => exact absurd ⟨i, hi, z⟩ q
    show bitJ x i = bitJ (0 : Int64) i
    rw [this, bj_zero]
  obtain ⟨n, hn, pn⟩ := e
  obtain ⟨k, hk, pk, hl⟩ := least (P := fun i => bitJ x i) n pn
  refine ⟨k, by omega, pk, ?_⟩
  apply Int64.toBitVec_inj.mp
  show (x &&& (-x)).toBitVec = BitVec.twoPow 64 k
  apply BitVec.eq_of_getLsbD_eq
  intro i hi
  rw [BitVec.getLsbD_twoPow]
  show (x.toBitVec &&& (-x).toBitVec).getLsbD i = _
  rw [BitVec.getLsbD_and, Int64.toBitVec_neg, BitVec.getLsbD_neg]
  have pk' : x.toBitVec.getLsbD k = true := pk
  have hl' : ∀ j, j < k → x.toBitVec.getLsbD j = false := hl
  by_cases a : i < k
  · rw [hl' i a]
    have : ¬ k = i := by omega
    simp [this]
  · by_cases b : i = k
    · subst b
      have : ¬ ∃ j, j < i ∧ x.toBitVec.getLsbD j = true := fun ⟨j, hj, hz⟩ => by rw [hl' j hj] at hz; exact absurd hz (by decide)
      simp [pk', hi, this]
    · have e2 : ∃ j, j < i ∧ x.toBitVec.getLsbD j = true := ⟨k, by omega, pk'⟩
      have : ¬ k = i := by omega
      simp [hi, e2, this]
theorem sq_pow {k : Nat} (hk : k < 64) : sqT.getD ((((Int64.ofBitVec (BitVec.twoPow 64 k) * (285870213051386505 : Int64)).toUInt64 >>> ((58 : Int32).toInt64.toUInt64 &&& Int64.toUInt64 63)).toInt64).toInt32).toNatClampNeg 0 = nI k := by
  have all : ∀ k : Fin 64, sqT.getD ((((Int64.ofBitVec (BitVec.twoPow 64 k.val) * (285870213051386505 : Int64)).toUInt64 >>> ((58 : Int32).toInt64.toUInt64 &&& Int64.toUInt64 63)).toInt64).toInt32).toNatClampNeg 0 = nI k.val := by decide +kernel
  exact all ⟨k, hk⟩
theorem bj_pow {k s : Nat} (hk : k < 64) : bitJ (Int64.ofBitVec (BitVec.twoPow 64 k)) s = decide (k = s) := by
  show (BitVec.twoPow 64 k).getLsbD s = _
  rw [BitVec.getLsbD_twoPow]
  simp [hk]
theorem bj_xor (a b : Int64) (s : Nat) : bitJ (a ^^^ b) s = (bitJ a s ^^ bitJ b s) := by
  unfold bitJ
  rw [Int64.toBitVec_xor, BitVec.getLsbD_xor]
/-- what is left when the lowest bit is taken away is a part -/
theorem bj_rest {x : Int64} {s : Nat} (hx : ¬ x = 0) (h : bitJ (x ^^^ (x &&& (-x))) s = true) : bitJ x s = true := by
  obtain ⟨k, hk, pk, e⟩ := low_bit hx
  rw [e, bj_xor, bj_pow hk] at h
  by_cases q : k = s
  · subst q; exact pk
  · rw [decide_eq_false q, Bool.xor_false] at h
    exact h
theorem sq_bit {x : Int64} (hx : ¬ x = 0) : bitJ x (sqT.getD (((((x &&& (-x)) * (285870213051386505 : Int64)).toUInt64 >>> ((58 : Int32).toInt64.toUInt64 &&& Int64.toUInt64 63)).toInt64).toInt32).toNatClampNeg 0).toNatClampNeg = true := by
  obtain ⟨k, hk, pk, e⟩ := low_bit hx
  rw [e, sq_pow hk, z_clamp (by omega)]
  exact pk
theorem cmp0 {x : Int64} (h : ¬ lg_cmp x (0 : Int64) = 0) : ¬ x = 0 := fun q => h (by rw [q]; decide)
