theorem s_onr {β : Type} {Q : β → Prop} {x : Option Nat} {k0 : Option β} {k : Nat → Option β} (h0 : x = none → Sat k0 Q) (h1 : ∀ r, x = some r → Sat (k r) Q) : Sat (onr x k0 k) Q := by
  cases q : x with
  | none => exact h0 q
  | some r => exact h1 r q
theorem s_onr_some {β : Type} {Q : β → Prop} {x : Option Nat} {r : Nat} {k0 : Option β} {k : Nat → Option β} (e : x = some r) (h1 : Sat (k r) Q) : Sat (onr x k0 k) Q := by
  subst e; exact h1
theorem rz0 {x : Int32} (h : Rg 0 0 x) : x = 0 := by
  rw [← Int32.toInt_inj, show (0 : Int32).toInt = 0 from rfl]
  have := h.1; have := h.2
  omega
theorem nid_1 : ∀ k' i', nid k' i' = 1 → k' = 3 ∧ i' = 0 := by
  intro k i h
  unfold nid at h
  split at h <;> first | (exact absurd h (by decide)) | exact ⟨rfl, rfl⟩
theorem nid_2 : ∀ k' i', nid k' i' = 2 → k' = 3 ∧ i' = 1 := by
  intro k i h
  unfold nid at h
  split at h <;> first | (exact absurd h (by decide)) | exact ⟨rfl, rfl⟩
theorem nid_3 : ∀ k' i', nid k' i' = 3 → k' = 6 ∧ i' = 4 := by
  intro k i h
  unfold nid at h
  split at h <;> first | (exact absurd h (by decide)) | exact ⟨rfl, rfl⟩
theorem nid_4 : ∀ k' i', nid k' i' = 4 → k' = 6 ∧ i' = 5 := by
  intro k i h
  unfold nid at h
  split at h <;> first | (exact absurd h (by decide)) | exact ⟨rfl, rfl⟩
theorem nid_5 : ∀ k' i', nid k' i' = 5 → k' = 8 ∧ i' = 1 := by
  intro k i h
  unfold nid at h
  split at h <;> first | (exact absurd h (by decide)) | exact ⟨rfl, rfl⟩
theorem nid_6 : ∀ k' i', nid k' i' = 6 → k' = 11 ∧ i' = 7 := by
  intro k i h
  unfold nid at h
  split at h <;> first | (exact absurd h (by decide)) | exact ⟨rfl, rfl⟩
theorem nid_7 : ∀ k' i', nid k' i' = 7 → k' = 16 ∧ i' = 17 := by
  intro k i h
  unfold nid at h
  split at h <;> first | (exact absurd h (by decide)) | exact ⟨rfl, rfl⟩
theorem nid_8 : ∀ k' i', nid k' i' = 8 → k' = 16 ∧ i' = 52 := by
  intro k i h
  unfold nid at h
  split at h <;> first | (exact absurd h (by decide)) | exact ⟨rfl, rfl⟩
set_option maxRecDepth 20000 in
theorem zJ13_bitCount_95d88 {ρ : Nat → Nat} {c : Cm} {F : Nat} (hF : 700000 ≤ F) {h : Hp} {x0 : Int64} (T : TH ρ c h) : Sat (sJ13_bitCount_95d88 h x0) (ZI0 h (0) (127)) := by
  unfold sJ13_bitCount_95d88 
  refine s_q (fun v_1 e_1 => ?_)
  refine s_q (fun v_2 e_2 => ?_)
  refine s_q (fun v_3 e_3 => ?_)
  refine s_q (fun v_4 e_4 => ?_)
  refine s_q (fun v_5 e_5 => ?_)
  refine s_q (fun v_6 e_6 => ?_)
  exact s_some ⟨rfl, (rg_and (rg_b rfl : Rg (127) (127) ((127 : Int32))) (by decide) : Rg (0) (127) (v_6.toInt32 &&& (127 : Int32)))⟩
theorem ntz_low {x : BitVec 32} (hx : ¬ x = 0#32) : ∃ k, k < 32 ∧ x.getLsbD k = true ∧ ∀ j, j < k → x.getLsbD j = false := by
  have ex : ∃ k, k < 32 ∧ x.getLsbD k = true := by
    refine Classical.byContradiction (fun n => hx ?_)
    apply BitVec.eq_of_getLsbD_eq
    intro i hi
    rw [BitVec.getLsbD_zero]
    cases q : x.getLsbD i with
    | false => rfl
    | true => exact absurd ⟨i, hi, q⟩ n
  obtain ⟨k, hk, hb⟩ := ex
  induction k using Nat.strongRecOn with
  | ind k ih =>
    by_cases q : ∃ j, j < k ∧ x.getLsbD j = true
    · obtain ⟨j, hj, hjb⟩ := q
      exact ih j hj (by omega) hjb
    · refine ⟨k, hk, hb, fun j hj => ?_⟩
      cases w : x.getLsbD j with
      | false => rfl
      | true => exact absurd ⟨j, hj, w⟩ q
theorem ntz_mask {x : BitVec 32} {k : Nat} (hk : k < 32) (hb : x.getLsbD k = true) (hz : ∀ j, j < k → x.getLsbD j = false) : (x ^^^ BitVec.allOnes 32) &&& (x - 1#32) = BitVec.ofNat 32 (2 ^ k - 1) := by
  have hn : x.toNat < 2 ^ 32 := x.isLt
  have hd : x.toNat % 2 ^ k = 0 := by
    apply Nat.eq_of_testBit_eq
    intro j
    rw [Nat.testBit_mod_two_pow, Nat.zero_testBit]
    by_cases q : j < k
    · have : x.toNat.testBit j = false := hz j q
      rw [this, Bool.and_false]
    · rw [decide_eq_false q, Bool.false_and]
  obtain ⟨m, hm⟩ : ∃ m, x.toNat = 2 ^ k * m := ⟨x.toNat / 2 ^ k, by have := Nat.div_add_mod x.toNat (2 ^ k); omega⟩
  have hmo : m.testBit 0 = true := by
    have : x.toNat.testBit k = true := hb
    rw [hm, Nat.testBit_two_pow_mul] at this
    simpa using this
  have m0 : 0 < m := by
    cases m with
    | zero => simp at hmo
    | succ m => omega
  have hp : 0 < 2 ^ k := Nat.two_pow_pos k
  have sub : (x - 1#32).toNat = 2 ^ k * (m - 1) + (2 ^ k - 1) := by
    have e1 : (x - 1#32).toNat = x.toNat - 1 := by
      rw [BitVec.toNat_sub]
      show (2 ^ 32 - 1 + x.toNat) % 2 ^ 32 = x.toNat - 1
      have : 0 < x.toNat := by rw [hm]; exact Nat.mul_pos hp m0
      omega
    rw [e1, hm]
    have : 2 ^ k * m = 2 ^ k * (m - 1) + 2 ^ k := by
      rw [← Nat.mul_succ]; congr 1; omega
    omega
  apply BitVec.eq_of_getLsbD_eq
  intro i hi
  rw [BitVec.getLsbD_and, BitVec.getLsbD_xor, BitVec.getLsbD_allOnes, decide_eq_true hi, Bool.xor_true]
  have r : (BitVec.ofNat 32 (2 ^ k - 1)).getLsbD i = decide (i < k) := by
    rw [BitVec.getLsbD_ofNat, decide_eq_true hi, Bool.true_and, Nat.testBit_two_pow_sub_one]
  rw [r]
  have g : (x - 1#32).getLsbD i = (2 ^ k * (m - 1) + (2 ^ k - 1)).testBit i := by
    show (x - 1#32).toNat.testBit i = _
    rw [sub]
  rw [g, Nat.testBit_two_pow_mul_add _ (by omega)]
  by_cases q : i < k
  · rw [if_pos q, hz i q, Nat.testBit_two_pow_sub_one, decide_eq_true q]; rfl
  · rw [if_neg q, decide_eq_false q]
    by_cases q2 : i = k
    · rw [q2, hb]; rfl
    · have gx : x.getLsbD i = m.testBit (i - k) := by
        show x.toNat.testBit i = _
        rw [hm, Nat.testBit_two_pow_mul, decide_eq_true (by omega), Bool.true_and]
      have mm : (m - 1).testBit (i - k) = m.testBit (i - k) := by
        obtain ⟨d, hd'⟩ : ∃ d, i - k = d + 1 := ⟨i - k - 1, by omega⟩
        have modd : m % 2 = 1 := by
          have := hmo
          rw [Nat.testBit_zero] at this
          simpa using this
        rw [hd', Nat.testBit_succ, Nat.testBit_succ]
        congr 1
        omega
      rw [gx, mm]
      cases m.testBit (i - k) <;> rfl
def n74 (x0 x1 : Int32) : Int32 := x1 + ((x0.toUInt32 >>> ((1 : Int32).toUInt32 &&& Int32.toUInt32 31)).toInt32)
def n62 (x0 x1 : Int32) : Int32 := if x0 ≤ (4 : Int32) then n74 x0 x1 else n74 ((x0.toUInt32 >>> ((2 : Int32).toUInt32 &&& Int32.toUInt32 31)).toInt32) (x1 + (2 : Int32))
def n49 (x0 x1 : Int32) : Int32 := if x0 ≤ (16 : Int32) then n62 x0 x1 else n62 ((x0.toUInt32 >>> ((4 : Int32).toUInt32 &&& Int32.toUInt32 31)).toInt32) (x1 + (4 : Int32))
def n34 (x0 x1 : Int32) : Int32 := if x0 ≤ (256 : Int32) then n49 x0 x1 else n49 ((x0.toUInt32 >>> ((8 : Int32).toUInt32 &&& Int32.toUInt32 31)).toInt32) (x1 + (8 : Int32))
def n00 (x0 : Int32) : Int32 := if 0 < x0 then (if x0 ≤ (65536 : Int32) then n34 x0 (1 : Int32) else n34 ((x0.toUInt32 >>> ((16 : Int32).toUInt32 &&& Int32.toUInt32 31)).toInt32) ((1 : Int32) + (16 : Int32))) else x0 &&& (32 : Int32)
theorem e62 (h : Hp) (x0 x1 : Int32) : sJ6_numberOfTrailingZeros_0f7a4_62 h x0 x1 = some (n62 x0 x1, h) := by
  unfold sJ6_numberOfTrailingZeros_0f7a4_62 n62 br nm sJ6_numberOfTrailingZeros_0f7a4_74 n74
  split <;> rfl
theorem e49 (h : Hp) (x0 x1 : Int32) : sJ6_numberOfTrailingZeros_0f7a4_49 h x0 x1 = some (n49 x0 x1, h) := by
  unfold sJ6_numberOfTrailingZeros_0f7a4_49 n49 br nm
  split <;> exact e62 _ _ _
theorem e34 (h : Hp) (x0 x1 : Int32) : sJ6_numberOfTrailingZeros_0f7a4_34 h x0 x1 = some (n34 x0 x1, h) := by
  unfold sJ6_numberOfTrailingZeros_0f7a4_34 n34 br nm
  split <;> exact e49 _ _ _
theorem e00 (h : Hp) (x0 : Int32) : (br (0 < x0) (br (x0 ≤ (65536 : Int32)) (sJ6_numberOfTrailingZeros_0f7a4_34 h x0 (1 : Int32)) (nm ((1 : Int32) + (16 : Int32)) fun v_4 => nm (((x0.toUInt32 >>> ((16 : Int32).toUInt32 &&& Int32.toUInt32 31)).toInt32)) fun v_5 => sJ6_numberOfTrailingZeros_0f7a4_34 h v_5 v_4)) (some (x0 &&& (32 : Int32), h))) = some (n00 x0, h) := by
  unfold n00 br nm
  split
  · split <;> exact e34 _ _ _
  · rfl
theorem n_all : ∀ k : Fin 32, 0 ≤ (n00 (Int32.ofBitVec (BitVec.ofNat 32 (2 ^ k.val - 1)))).toInt ∧ (n00 (Int32.ofBitVec (BitVec.ofNat 32 (2 ^ k.val - 1)))).toInt ≤ 31 := by decide +kernel
theorem zJ6_numberOfTrailingZeros_0f7a4 {ρ : Nat → Nat} {c : Cm} {F : Nat} (hF : 700000 ≤ F) {h : Hp} {x0 : Int32} (T : TH ρ c h) (i_x0 : Rg (-2147483648) (2147483647) (x0)) (nz : (¬ x0 = 0)) : Sat (sJ6_numberOfTrailingZeros_0f7a4 h x0) (ZI0 h (0) (31)) := by
  obtain ⟨k, hk, hb, hz⟩ := ntz_low (x := x0.toBitVec) (fun z => nz (Int32.toBitVec_inj.mp z))
  have e : (x0 ^^^ (-1 : Int32)) &&& (x0 - (1 : Int32)) = Int32.ofBitVec (BitVec.ofNat 32 (2 ^ k - 1)) := by
    apply Int32.toBitVec_inj.mp
    rw [Int32.toBitVec_and, Int32.toBitVec_xor, Int32.toBitVec_sub]
    exact ntz_mask hk hb hz
  unfold sJ6_numberOfTrailingZeros_0f7a4
  refine s_q (fun v ev => ?_)
  rw [ev, e]
  exact ⟨_, e00 h _, rfl, n_all ⟨k, hk⟩⟩

theorem zJ13_numberOfTrailingZeros_95d88 {ρ : Nat → Nat} {c : Cm} {F : Nat} (hF : 700000 ≤ F) {h : Hp} {x0 : Int64} (T : TH ρ c h) (nz : (¬ x0 = 0)) : Sat (sJ13_numberOfTrailingZeros_95d88 h x0) (ZI0 h (0) (63)) := by
  unfold sJ13_numberOfTrailingZeros_95d88 sJ13_numberOfTrailingZeros_95d88_25
  refine s_br (fun c1 => ?_) (fun c1 => ?_)
  · have hi : ¬ (((x0.toUInt64 >>> ((32 : Int32).toInt64.toUInt64 &&& Int64.toUInt64 63)).toInt64).toInt32) = 0 := fun z => nz (by
      apply Int64.toBitVec_inj.mp
      have a1 : x0.toInt32.toBitVec = 0#32 := by rw [c1]; rfl
      have a2 : (((x0.toUInt64 >>> ((32 : Int32).toInt64.toUInt64 &&& Int64.toUInt64 63)).toInt64).toInt32).toBitVec = 0#32 := by rw [z]; rfl
      have b1 : x0.toInt32.toBitVec = x0.toBitVec.signExtend 32 := rfl
      apply BitVec.eq_of_getLsbD_eq
      intro i hi
      show x0.toBitVec.getLsbD i = (0#64).getLsbD i
      rw [BitVec.getLsbD_zero]
      by_cases q : i < 32
      · have := congrArg (fun b => BitVec.getLsbD b i) a1
        simp only [Int64.toBitVec_toInt32, BitVec.getLsbD_zero] at this
        rw [BitVec.getLsbD_signExtend] at this
        simpa [q, hi] using this
      · have := congrArg (fun b => BitVec.getLsbD b (i - 32)) a2
        have sh : ((32 : Int32).toInt64.toUInt64 &&& Int64.toUInt64 63) = (32 : UInt64) := by decide
        rw [sh] at this
        have e64 : ((x0.toUInt64 >>> (32 : UInt64)).toInt64).toBitVec = x0.toBitVec >>> 32 := by
          show (x0.toUInt64 >>> (32 : UInt64)).toBitVec = _
          rw [UInt64.toBitVec_shiftRight]
          rfl
        simp only [Int64.toBitVec_toInt32, BitVec.getLsbD_zero, e64] at this
        rw [BitVec.getLsbD_signExtend] at this
        have l1 : i - 32 < 32 := by omega
        have l2 : i - 32 < 64 := by omega
        simp only [l1, l2, decide_true, Bool.true_and, if_true, BitVec.getLsbD_ushiftRight] at this
        have e3 : 32 + (i - 32) = i := by omega
        rw [e3] at this
        exact this)
    refine s_dI0 (zJ6_numberOfTrailingZeros_0f7a4 hF T (rg_top _) hi) (fun o _ e i => ?_)
    refine s_some ⟨e, ?_⟩
    have a1 := i.1
    have a2 := i.2
    have t : (32 : Int32).toInt = 32 := rfl
    have := ta (x := (32 : Int32)) (y := o.1) (by omega)
    exact ⟨by show (0 : Int) ≤ ((32 : Int32) + o.1).toInt; omega, by show ((32 : Int32) + o.1).toInt ≤ 63; omega⟩
  · refine s_dI0 (zJ6_numberOfTrailingZeros_0f7a4 hF T (rg_top _) c1) (fun o _ e i => ?_)
    exact s_some ⟨e, rg_m i (by decide)⟩

set_option maxRecDepth 20000 in
theorem zX0_sizeOf_2 {ρ : Nat → Nat} {c : Cm} {h0 : Hp} {F : Nat} (hF : 700000 ≤ F) : ∀ (f : Nat) {h : Hp} {x0 : Int32} {x1 : Int32}, h = h0 → TH ρ c h → Rg (0) (33554431) (x0) → Rg (0) (5) (x1) → (5 - x1.toInt).toNat < f → Sat (sX0_sizeOf_2 F f h x0 x1) (ZI0 h0 (0) (5)) := by
  intro f
  induction f with
  | zero => intros; omega
  | succ f ih =>
    intro h x0 x1 E T i_x0 i_x1 hm
    rw [sX0_sizeOf_2]
    unfold sX0_sizeOf_22 sX0_codeIn
    obtain ⟨C_2, hC_2⟩ : ∃ C : Int, C = x1.toInt := ⟨_, rfl⟩
    have hk_2 : ∀ {h : Hp} {x0 : Int32} {x1 : Int32}, h = h0 → TH ρ c h → Rg (0) (33554431) (x0) → Rg (0) (5) (x1) → C_2 < x1.toInt → Sat (sX0_sizeOf_2 F f h x0 x1) (ZI0 h0 (0) (5)) := by
      intro h' x0' x1' E' T' i_x0' i_x1' hl
      exact ih E' T' i_x0' i_x1' (by have := i_x1'.1; have := i_x1'.2; omega)
    have hc_2 : C_2 ≤ x1.toInt := by omega
    refine s_br (fun c_1 => ?_) (fun c_1 => ?_)
    · have _ := c_1
      have i_f_2 : Rg (5) (5) (x1) := rg_le2 c_1 (rg_b rfl : Rg (5) (5) ((5 : Int32))) i_x1
      exact s_some ⟨E, (rg_m i_f_2 (by decide))⟩
    · have _ := c_1
      have i_f_3 : Rg (0) (4) (x1) := rg_lt1 (nle_lt c_1) i_x1 (rg_b rfl : Rg (5) (5) ((5 : Int32)))
      refine s_pu (fun o_2z e_4 => ?_)
      try dsimp only
      have i_o_2z : Rg (-1) (30) (o_2z) := by rw [e_4]; exact (rg_sub (rg_and (rg_b rfl : Rg (31) (31) ((31 : Int32))) (by decide) : Rg (0) (31) (((x0 >>> (((5 : Int32) * x1) &&& 31)) &&& (31 : Int32)))) (rg_b rfl : Rg (1) (1) ((1 : Int32))) (by decide) : Rg (-1) (30) (((x0 >>> (((5 : Int32) * x1) &&& 31)) &&& (31 : Int32)) - (1 : Int32)))
      refine s_br (fun c_5 => ?_) (fun c_5 => ?_)
      · have _ := c_5
        have i_f_6 : Rg (-1) (-1) (o_2z) := rg_eq c_5 (rg_b rfl : Rg (-1) (-1) ((- 1 : Int32)))
        have i_f_7 : Rg (0) (0) (((x0 >>> (((5 : Int32) * x1) &&& 31)) &&& (31 : Int32))) := rg_bks ((by rw [← e_4]; exact i_f_6) : Rg (-1) (-1) (((x0 >>> (((5 : Int32) * x1) &&& 31)) &&& (31 : Int32)) - (1 : Int32))) (rg_and (rg_b rfl : Rg (31) (31) ((31 : Int32))) (by decide) : Rg (0) (31) (((x0 >>> (((5 : Int32) * x1) &&& 31)) &&& (31 : Int32)))) (rg_b rfl : Rg (1) (1) ((1 : Int32))) (by decide)
        exact s_some ⟨E, (rg_m i_f_3 (by decide))⟩
      · have _ := c_5
        have i_f_8 : Rg (0) (30) (o_2z) := rg_nlo c_5 i_o_2z (rg_b rfl : Rg (-1) (-1) ((- 1 : Int32)))
        have i_f_9 : Rg (1) (31) (((x0 >>> (((5 : Int32) * x1) &&& 31)) &&& (31 : Int32))) := rg_bks ((by rw [← e_4]; exact i_f_8) : Rg (0) (30) (((x0 >>> (((5 : Int32) * x1) &&& 31)) &&& (31 : Int32)) - (1 : Int32))) (rg_and (rg_b rfl : Rg (31) (31) ((31 : Int32))) (by decide) : Rg (0) (31) (((x0 >>> (((5 : Int32) * x1) &&& 31)) &&& (31 : Int32)))) (rg_b rfl : Rg (1) (1) ((1 : Int32))) (by decide)
        refine s_q (fun v_4 e_10 => ?_)
        have i_v_4 : Rg (1) (5) (v_4) := by rw [e_10]; exact (rg_add i_f_3 (rg_b rfl : Rg (1) (1) ((1 : Int32))) (by decide) : Rg (1) (5) (x1 + (1 : Int32)))
        have m_11 : (v_4).toInt = x1.toInt + 1 := by rw [e_10]; exact rg_inc i_f_3 (by decide)
        exact hk_2 E T i_x0 (rg_m i_v_4 (by decide)) (by have := hc_2; omega)
set_option maxRecDepth 20000 in
theorem zX0_sizeOf {ρ : Nat → Nat} {c : Cm} {F : Nat} (hF : 700000 ≤ F) {h : Hp} {x0 : Int32} (T : TH ρ c h) (i_x0 : Rg (0) (33554431) (x0)) : Sat (sX0_sizeOf F h x0) (ZI0 h (0) (5)) := by
  unfold sX0_sizeOf 
  have m_1 : Rg (0) (5) ((0 : Int32)) := (rg_m (rg_b rfl : Rg (0) (0) ((0 : Int32))) (by decide))
  exact zX0_sizeOf_2 hF F rfl T i_x0 (rg_m (rg_b rfl : Rg (0) (0) ((0 : Int32))) (by decide)) (by have := m_1.1; have := m_1.2; omega)
set_option maxRecDepth 20000 in
theorem zX0_addSet_2 {ρ : Nat → Nat} {c : Cm} {F : Nat} (hF : 700000 ≤ F) (hA : pmA c [(20, 999), (1, 9), (1, 18)]) : ∀ (f : Nat) {h : Hp} {x0 : Nat} {x1 : Int32} {x2 : Int32}, TH ρ c h → ρ x0 = 1 → Rg (0) (33554431) (x1) → Rg (0) (1024) (x2) → (KyD x1 h) → (1024 - x2.toInt).toNat < f → Sat (sX0_addSet_2 F f h x0 x1 x2) (ZV ρ c) := by
  intro f
  induction f with
  | zero => intros; omega
  | succ f ih =>
    intro h x0 x1 x2 T r_x0 i_x1 i_x2 ky hm
    rw [sX0_addSet_2]
    unfold sX0_addSet_91
    obtain ⟨C_2, hC_2⟩ : ∃ C : Int, C = x2.toInt := ⟨_, rfl⟩
    have hk_2 : ∀ {h : Hp} {x0 : Nat} {x1 : Int32} {x2 : Int32}, TH ρ c h → ρ x0 = 1 → Rg (0) (33554431) (x1) → Rg (0) (1024) (x2) → (KyD x1 h) → C_2 < x2.toInt → Sat (sX0_addSet_2 F f h x0 x1 x2) (ZV ρ c) := by
      intro h' x0' x1' x2' T' r_x0' i_x1' i_x2' ky' hl
      exact ih T' r_x0' i_x1' i_x2' ky' (by have := i_x2'.1; have := i_x2'.2; omega)
    have hc_2 : C_2 ≤ x2.toInt := by omega
    refine s_br (fun c_1 => ?_) (fun c_1 => ?_)
    · have _ := c_1
      obtain ⟨r_2, e_r_2, q_r_2⟩ := thR T r_x0 (k := 1) (i := 6) (k2 := 22) rfl (by decide)
      refine s_ref e_r_2 ?_
      refine s_dI0 (zX0_sizeOf hF T i_x1) (fun o_3 eb_o_3 e_o_3 i_o_3 => ?_)
      have T_2 := th_eq e_o_3 T
      refine s_gd (by rw [thN T_2 q_r_2 (k := 22) (n := 6) rfl (by decide)]; exact rg_inB (i_o_3 : Rg (0) (5) (o_3.1)) (by decide)) ?_
      refine s_hq (th_wJ T_2 r_x0 (k := 1) (by decide) (pm_a hA rfl)) (fun h_5 T_3 w_4 => ?_)
      refine s_br (fun c_5 => ?_) (fun c_5 => ?_)
      · have _ := c_5
        exact s_some (T_3)
      · have _ := c_5
        refine s_br (fun c_6 => ?_) (fun c_6 => ?_)
        · have _ := c_6
          have i_f_7 : Rg (1024) (1024) ((hI h_5 x0 9)) := rg_le2 c_6 (rg_b rfl : Rg (1024) (1024) ((1024 : Int32))) (thI T_3 r_x0 (k := 1) (i := 9) rfl : Rg (0) (1024) ((hI h_5 x0 9)))
          exact s_some (T_3)
        · have _ := c_6
          have i_f_8 : Rg (0) (1023) ((hI h_5 x0 9)) := rg_lt1 (nle_lt c_6) (thI T_3 r_x0 (k := 1) (i := 9) rfl : Rg (0) (1024) ((hI h_5 x0 9))) (rg_b rfl : Rg (1024) (1024) ((1024 : Int32)))
          obtain ⟨r_8, e_r_8, q_r_8⟩ := thR T_3 r_x0 (k := 1) (i := 4) (k2 := 20) rfl (by decide)
          refine s_ref e_r_8 ?_
          refine s_gd (by rw [thN T_3 q_r_8 (k := 20) (n := 1024) rfl (by decide)]; exact rg_inB (i_f_8 : Rg (0) (1023) ((hI h_5 x0 9))) (by decide)) ?_
          have pf_11 : KyD x1 h_5 := (ky_fr T_2  (fr1J (A := [(1, 18)]) r_x0 rfl w_4)  (by rw [e_o_3]; exact ky))
          refine s_hq (th_wI T_3 q_r_8 (k := 20) (lo := (0)) (hi := (33554431)) rfl (i_x1 : Rg (0) (33554431) (x1)) (by decide) (by decide) (pm_a hA rfl) (rpK pf_11)) (fun h_10 T_9 w_10 => ?_)
          refine s_hq (th_wI T_9 r_x0 (k := 1) (lo := (0)) (hi := (1024)) rfl ((rg_m (rg_add ((rg_hw w_10 (ne_r r_x0 q_r_8 (by decide)) i_f_8) : Rg (0) (1023) ((hI h_10 x0 9))) (rg_b rfl : Rg (1) (1) ((1 : Int32))) (by decide) : Rg (1) (1024) (((hI h_10 x0 9) + (1 : Int32)))) (by decide)) : Rg (0) (1024) (((hI h_10 x0 9) + (1 : Int32)))) (by decide) (by decide) (pm_a hA rfl)) (fun h_11 T_12 w_13 => ?_)
          exact s_some (T_12)
    · have _ := c_1
      have i_f_14 : Rg (0) (1023) (x2) := rg_lt1 (nle_lt c_1) i_x2 (thI T r_x0 (k := 1) (i := 9) rfl : Rg (0) (1024) ((hI h x0 9)))
      have i_f_15 : Rg (1) (1024) ((hI h x0 9)) := rg_lt2 (nle_lt c_1) i_x2 (thI T r_x0 (k := 1) (i := 9) rfl : Rg (0) (1024) ((hI h x0 9)))
      obtain ⟨r_12, e_r_12, q_r_12⟩ := thR T r_x0 (k := 1) (i := 4) (k2 := 20) rfl (by decide)
      refine s_ref e_r_12 ?_
      refine s_gd (by rw [thN T q_r_12 (k := 20) (n := 1024) rfl (by decide)]; exact rg_inB (i_f_14 : Rg (0) (1023) (x2)) (by decide)) ?_
      refine s_br (fun c_16 => ?_) (fun c_16 => ?_)
      · have _ := c_16
        exact s_some (T)
      · have _ := c_16
        refine s_q (fun v_15 e_17 => ?_)
        have i_v_15 : Rg (1) (1024) (v_15) := by rw [e_17]; exact (rg_add i_f_14 (rg_b rfl : Rg (1) (1) ((1 : Int32))) (by decide) : Rg (1) (1024) (x2 + (1 : Int32)))
        have m_18 : (v_15).toInt = x2.toInt + 1 := by rw [e_17]; exact rg_inc i_f_14 (by decide)
        exact hk_2 T r_x0 i_x1 (rg_m i_v_15 (by decide)) ky (by have := hc_2; omega)
set_option maxRecDepth 20000 in
theorem zX0_addSet {ρ : Nat → Nat} {c : Cm} {F : Nat} (hF : 700000 ≤ F) (hA : pmA c [(20, 999), (1, 9), (1, 18)]) {h : Hp} {x0 : Nat} {x1 : Int32} (T : TH ρ c h) (r_x0 : ρ x0 = 1) (i_x1 : Rg (0) (33554431) (x1)) (ky : (KyD x1 h)) : Sat (sX0_addSet F h x0 x1) (ZV ρ c) := by
  unfold sX0_addSet 
  have m_1 : Rg (0) (1024) ((0 : Int32)) := (rg_m (rg_b rfl : Rg (0) (0) ((0 : Int32))) (by decide))
  exact zX0_addSet_2 hF (pmA_s hA rfl) F T r_x0 i_x1 (rg_m (rg_b rfl : Rg (0) (0) ((0 : Int32))) (by decide)) ky (by have := m_1.1; have := m_1.2; omega)
set_option maxRecDepth 20000 in
theorem zX0_with_35 {ρ : Nat → Nat} {c : Cm} {h0 : Hp} {F : Nat} (hF : 700000 ≤ F) {h : Hp} {x0 : Int32} {x1 : Int32} {x2 : Int32} (E : h = h0) (T : TH ρ c h) (i_x0 : Rg (-2147483648) (2147483647) (x0)) (i_x1 : Rg (-2) (23) (x1)) (i_x2 : Rg (0) (29) (x2)) : Sat (sX0_with_35 F h x0 x1 x2) (ZI0 h0 (-2147483648) (2147483647)) := by
  unfold sX0_with_35 
  refine s_q (fun v_1 e_1 => ?_)
  have i_v_1 : Rg (-2147483648) (2147483647) (v_1) := by rw [e_1]; exact (rg_top _ : Rg (-2147483648) (2147483647) (x0 &&& (((1 : Int32) <<< (x2 &&& 31)) - (1 : Int32))))
  exact s_some ⟨E, (rg_top _ : Rg (-2147483648) (2147483647) ((v_1 ||| ((x1 + (1 : Int32)) <<< (x2 &&& 31))) ||| ((x0 >>> (x2 &&& 31)) <<< ((x2 + (5 : Int32)) &&& 31))))⟩
set_option maxRecDepth 20000 in
theorem zX0_with_2 {ρ : Nat → Nat} {c : Cm} {h0 : Hp} {F : Nat} (hF : 700000 ≤ F) : ∀ (f : Nat) {h : Hp} {x0 : Int32} {x1 : Int32} {x2 : Int32}, h = h0 → TH ρ c h → Rg (-2147483648) (2147483647) (x0) → Rg (-2) (23) (x1) → Rg (0) (29) (x2) → (29 - x2.toInt).toNat < f → Sat (sX0_with_2 F f h x0 x1 x2) (ZI0 h0 (-2147483648) (2147483647)) := by
  intro f
  induction f with
  | zero => intros; omega
  | succ f ih =>
    intro h x0 x1 x2 E T i_x0 i_x1 i_x2 hm
    rw [sX0_with_2]
    obtain ⟨C_2, hC_2⟩ : ∃ C : Int, C = x2.toInt := ⟨_, rfl⟩
    have hk_2 : ∀ {h : Hp} {x0 : Int32} {x1 : Int32} {x2 : Int32}, h = h0 → TH ρ c h → Rg (-2147483648) (2147483647) (x0) → Rg (-2) (23) (x1) → Rg (0) (29) (x2) → C_2 < x2.toInt → Sat (sX0_with_2 F f h x0 x1 x2) (ZI0 h0 (-2147483648) (2147483647)) := by
      intro h' x0' x1' x2' E' T' i_x0' i_x1' i_x2' hl
      exact ih E' T' i_x0' i_x1' i_x2' (by have := i_x2'.1; have := i_x2'.2; omega)
    have hc_2 : C_2 ≤ x2.toInt := by omega
    refine s_br (fun c_1 => ?_) (fun c_1 => ?_)
    · have _ := c_1
      have i_f_2 : Rg (25) (29) (x2) := rg_le2 c_1 (rg_b rfl : Rg (25) (25) ((25 : Int32))) i_x2
      exact zX0_with_35 hF E T i_x0 i_x1 (rg_m i_f_2 (by decide))
    · have _ := c_1
      have i_f_3 : Rg (0) (24) (x2) := rg_lt1 (nle_lt c_1) i_x2 (rg_b rfl : Rg (25) (25) ((25 : Int32)))
      refine s_br (fun c_4 => ?_) (fun c_4 => ?_)
      · have _ := c_4
        have i_f_5 : Rg (0) (0) (((x0 >>> (x2 &&& 31)) &&& (31 : Int32))) := rg_eq c_4 (rg_b rfl : Rg (0) (0) (0 : Int32))
        exact zX0_with_35 hF E T i_x0 i_x1 (rg_m i_f_3 (by decide))
      · have _ := c_4
        have i_f_6 : Rg (1) (31) (((x0 >>> (x2 &&& 31)) &&& (31 : Int32))) := rg_nlo c_4 (rg_and (rg_b rfl : Rg (31) (31) ((31 : Int32))) (by decide) : Rg (0) (31) (((x0 >>> (x2 &&& 31)) &&& (31 : Int32)))) (rg_b rfl : Rg (0) (0) (0 : Int32))
        refine s_br (fun c_7 => ?_) (fun c_7 => ?_)
        · have _ := c_7
          exact zX0_with_35 hF E T i_x0 i_x1 (rg_m i_f_3 (by decide))
        · have _ := c_7
          have i_f_8 : Rg (1) (24) (((x0 >>> (x2 &&& 31)) &&& (31 : Int32))) := rg_le1 (nlt_le c_7) i_f_6 (rg_add i_x1 (rg_b rfl : Rg (1) (1) ((1 : Int32))) (by decide) : Rg (-1) (24) ((x1 + (1 : Int32))))
          have i_f_9 : Rg (1) (24) ((x1 + (1 : Int32))) := rg_le2 (nlt_le c_7) i_f_6 (rg_add i_x1 (rg_b rfl : Rg (1) (1) ((1 : Int32))) (by decide) : Rg (-1) (24) ((x1 + (1 : Int32))))
          have i_f_10 : Rg (0) (23) (x1) := rg_bka (i_f_9 : Rg (1) (24) ((x1 + (1 : Int32)))) i_x1 (rg_b rfl : Rg (1) (1) ((1 : Int32))) (by decide)
          refine s_q (fun v_4 e_11 => ?_)
          have i_v_4 : Rg (5) (29) (v_4) := by rw [e_11]; exact (rg_add i_f_3 (rg_b rfl : Rg (5) (5) ((5 : Int32))) (by decide) : Rg (5) (29) (x2 + (5 : Int32)))
          have m_12 : (v_4).toInt = x2.toInt + 5 := by rw [e_11]; exact rg_inck i_f_3 (rg_b rfl : Rg 5 5 (5 : Int32)) (by decide)
          exact hk_2 E T i_x0 (rg_m i_f_10 (by decide)) (rg_m i_v_4 (by decide)) (by have := hc_2; omega)
set_option maxRecDepth 20000 in
theorem zX0_with {ρ : Nat → Nat} {c : Cm} {F : Nat} (hF : 700000 ≤ F) {h : Hp} {x0 : Int32} {x1 : Int32} (T : TH ρ c h) (i_x0 : Rg (-2147483648) (2147483647) (x0)) (i_x1 : Rg (-2) (23) (x1)) : Sat (sX0_with F h x0 x1) (ZI0 h (-2147483648) (2147483647)) := by
  unfold sX0_with 
  have m_1 : Rg (0) (29) ((0 : Int32)) := (rg_m (rg_b rfl : Rg (0) (0) ((0 : Int32))) (by decide))
  exact zX0_with_2 hF F rfl T i_x0 i_x1 (rg_m (rg_b rfl : Rg (0) (0) ((0 : Int32))) (by decide)) (by have := m_1.1; have := m_1.2; omega)
set_option maxRecDepth 20000 in
theorem zX0_without {ρ : Nat → Nat} {c : Cm} {F : Nat} (hF : 700000 ≤ F) {h : Hp} {x0 : Int32} {x1 : Int32} (T : TH ρ c h) (i_x0 : Rg (0) (33554431) (x0)) (i_x1 : Rg (0) (4) (x1)) : Sat (sX0_without h x0 x1) (ZI0 h (-2147483648) (2147483647)) := by
  unfold sX0_without 
  refine s_q (fun v_1 e_1 => ?_)
  have i_v_1 : Rg (0) (20) (v_1) := by rw [e_1]; exact (rg_mulc' (rg_b rfl : Rg (5) (5) ((5 : Int32))) i_x1 (by decide) : Rg (0) (20) ((5 : Int32) * x1))
  exact s_some ⟨rfl, (rg_top _ : Rg (-2147483648) (2147483647) ((x0 &&& (((1 : Int32) <<< (v_1 &&& 31)) - (1 : Int32))) ||| ((x0 >>> ((v_1 + (5 : Int32)) &&& 31)) <<< (v_1 &&& 31))))⟩
set_option maxRecDepth 20000 in
theorem zX0_addToRow_41 {ρ : Nat → Nat} {c : Cm} {F : Nat} (hF : 700000 ≤ F) (hA : pmA c [(23, 999), (1, 8)]) {h : Hp} {x0 : Nat} {x1 : Int32} {x2 : Int32} (T : TH ρ c h) (r_x0 : ρ x0 = 1) (i_x1 : Rg (0) (2047) (x1)) (i_x2 : Rg (0) (4) (x2)) (ar : ((hI h x0 8).toInt ≤ 4)) : Sat (sX0_addToRow_41 F h x0 x1 x2) (ZV ρ c) := by
  unfold sX0_addToRow_41 
  obtain ⟨r_1, e_r_1, q_r_1⟩ := thR T r_x0 (k := 1) (i := 7) (k2 := 23) rfl (by decide)
  refine s_ref e_r_1 ?_
  refine s_gd (by rw [thN T q_r_1 (k := 23) (n := 5) rfl (by decide)]; exact rg_inB (i_x2 : Rg (0) (4) (x2)) (by decide)) ?_
  refine s_hq (th_wI T q_r_1 (k := 23) (lo := (0)) (hi := (2047)) rfl (i_x1 : Rg (0) (2047) (x1)) (by decide) (by decide) (pm_a hA rfl)) (fun h_3 T_1 w_2 => ?_)
  have og_5 : Rg (0) (5) (((hI h_3 x0 8) + (1 : Int32))) := ⟨(by have : (((hI h_3 x0 8) + (1 : Int32)) : Int32).toInt = ((hI h_3 x0 8) : Int32).toInt + ((1 : Int32) : Int32).toInt := ti_add ((thI T_1 r_x0 (k := 1) (i := 8) rfl : Rg (0) (5) ((hI h_3 x0 8))) : Rg (0) (5) ((hI h_3 x0 8))) ((rg_b rfl : Rg (1) (1) ((1 : Int32))) : Rg (1) (1) ((1 : Int32))) (by decide); have hq_ := ((thI T_1 r_x0 (k := 1) (i := 8) rfl : Rg (0) (5) ((hI h_3 x0 8))) : Rg (0) (5) ((hI h_3 x0 8))); have := hq_.1; have := hq_.2; have : (hI h_3 x0 8).toInt = (hI h x0 8).toInt := congrArg Int32.toInt (he_w w_2 (ne_r r_x0 q_r_1 (by decide))); have : ((1 : Int32)).toInt = 1 := rfl; have hq_ := ((thI T r_x0 (k := 1) (i := 8) rfl : Rg (0) (5) ((hI h x0 8))) : Rg (0) (5) ((hI h x0 8))); have := hq_.1; have := hq_.2; omega), (by have : (((hI h_3 x0 8) + (1 : Int32)) : Int32).toInt = ((hI h_3 x0 8) : Int32).toInt + ((1 : Int32) : Int32).toInt := ti_add ((thI T_1 r_x0 (k := 1) (i := 8) rfl : Rg (0) (5) ((hI h_3 x0 8))) : Rg (0) (5) ((hI h_3 x0 8))) ((rg_b rfl : Rg (1) (1) ((1 : Int32))) : Rg (1) (1) ((1 : Int32))) (by decide); have hq_ := ((thI T_1 r_x0 (k := 1) (i := 8) rfl : Rg (0) (5) ((hI h_3 x0 8))) : Rg (0) (5) ((hI h_3 x0 8))); have := hq_.1; have := hq_.2; have : (hI h_3 x0 8).toInt = (hI h x0 8).toInt := congrArg Int32.toInt (he_w w_2 (ne_r r_x0 q_r_1 (by decide))); have : ((1 : Int32)).toInt = 1 := rfl; have hq_ := ((thI T r_x0 (k := 1) (i := 8) rfl : Rg (0) (5) ((hI h x0 8))) : Rg (0) (5) ((hI h x0 8))); have := hq_.1; have := hq_.2; omega)⟩
  refine s_hq (th_wI T_1 r_x0 (k := 1) (lo := (0)) (hi := (5)) rfl (og_5 : Rg (0) (5) (((hI h_3 x0 8) + (1 : Int32)))) (by decide) (by decide) (pm_a hA rfl)) (fun h_4 T_3 w_4 => ?_)
  exact s_some (T_3)
set_option maxRecDepth 20000 in
theorem zX0_addToRow_5 {ρ : Nat → Nat} {c : Cm} {F : Nat} (hF : 700000 ≤ F) (hA : pmA c [(23, 999), (1, 8)]) : ∀ (f : Nat) {h : Hp} {x0 : Nat} {x1 : Int32} {x2 : Int32}, TH ρ c h → ρ x0 = 1 → Rg (0) (2047) (x1) → Rg (0) (4) (x2) → ((hI h x0 8).toInt ≤ 4) → (x2.toInt - (0)).toNat < f → Sat (sX0_addToRow_5 F f h x0 x1 x2) (ZV ρ c) := by
  intro f
  induction f with
  | zero => intros; omega
  | succ f ih =>
    intro h x0 x1 x2 T r_x0 i_x1 i_x2 ar hm
    rw [sX0_addToRow_5]
    obtain ⟨C_5, hC_5⟩ : ∃ C : Int, C = x2.toInt := ⟨_, rfl⟩
    have hk_5 : ∀ {h : Hp} {x0 : Nat} {x1 : Int32} {x2 : Int32}, TH ρ c h → ρ x0 = 1 → Rg (0) (2047) (x1) → Rg (0) (4) (x2) → ((hI h x0 8).toInt ≤ 4) → x2.toInt < C_5 → Sat (sX0_addToRow_5 F f h x0 x1 x2) (ZV ρ c) := by
      intro h' x0' x1' x2' T' r_x0' i_x1' i_x2' ar' hl
      exact ih T' r_x0' i_x1' i_x2' ar' (by have := i_x2'.1; have := i_x2'.2; omega)
    have hc_5 : x2.toInt ≤ C_5 := by omega
    refine s_br (fun c_1 => ?_) (fun c_1 => ?_)
    · have _ := c_1
      have i_f_2 : Rg (0) (0) (x2) := rg_le1 c_1 i_x2 (rg_b rfl : Rg (0) (0) (0 : Int32))
      exact zX0_addToRow_41 hF (pmA_s hA rfl) T r_x0 i_x1 (rg_m i_f_2 (by decide)) ar
    · have _ := c_1
      have i_f_3 : Rg (1) (4) (x2) := rg_lt2 (nle_lt c_1) (rg_b rfl : Rg (0) (0) (0 : Int32)) i_x2
      obtain ⟨r_2, e_r_2, q_r_2⟩ := thR T r_x0 (k := 1) (i := 7) (k2 := 23) rfl (by decide)
      refine s_ref e_r_2 ?_
      refine s_gd (by rw [thN T q_r_2 (k := 23) (n := 5) rfl (by decide)]; exact rg_inB ((rg_m (rg_sub i_f_3 (rg_b rfl : Rg (1) (1) ((1 : Int32))) (by decide) : Rg (0) (3) ((x2 - (1 : Int32)))) (by decide)) : Rg (0) (4) ((x2 - (1 : Int32)))) (by decide)) ?_
      refine s_br (fun c_4 => ?_) (fun c_4 => ?_)
      · have _ := c_4
        exact zX0_addToRow_41 hF (pmA_s hA rfl) T r_x0 i_x1 (rg_m i_f_3 (by decide)) ar
      · have _ := c_4
        have i_f_5 : Rg (0) (2046) (x1) := rg_lt1 (nle_lt c_4) i_x1 (thI T q_r_2 (k := 23) rfl : Rg (0) (2047) ((hI h r_2 (x2 - (1 : Int32)).toNatClampNeg)))
        have i_f_6 : Rg (1) (2047) ((hI h r_2 (x2 - (1 : Int32)).toNatClampNeg)) := rg_lt2 (nle_lt c_4) i_x1 (thI T q_r_2 (k := 23) rfl : Rg (0) (2047) ((hI h r_2 (x2 - (1 : Int32)).toNatClampNeg)))
        refine s_ref e_r_2 ?_
        refine s_ref e_r_2 ?_
        refine s_gd (by rw [thN T q_r_2 (k := 23) (n := 5) rfl (by decide)]; exact rg_inB ((rg_m (rg_sub i_f_3 (rg_b rfl : Rg (1) (1) ((1 : Int32))) (by decide) : Rg (0) (3) ((x2 - (1 : Int32)))) (by decide)) : Rg (0) (4) ((x2 - (1 : Int32)))) (by decide)) ?_
        refine s_gd (by rw [thN T q_r_2 (k := 23) (n := 5) rfl (by decide)]; exact rg_inB ((rg_m i_f_3 (by decide)) : Rg (0) (4) (x2)) (by decide)) ?_
        refine s_hq (th_wI T q_r_2 (k := 23) (lo := (0)) (hi := (2047)) rfl ((rg_m i_f_6 (by decide)) : Rg (0) (2047) ((hI h r_2 (x2 - (1 : Int32)).toNatClampNeg))) (by decide) (by decide) (pm_a hA rfl)) (fun h_9 T_7 w_8 => ?_)
        refine s_q (fun v_10 e_9 => ?_)
        have i_v_10 : Rg (0) (3) (v_10) := by rw [e_9]; exact (rg_add i_f_3 (rg_b rfl : Rg (-1) (-1) ((- 1 : Int32))) (by decide) : Rg (0) (3) (x2 + (- 1 : Int32)))
        have m_10 : (v_10).toInt = x2.toInt - 1 := by rw [e_9]; exact rg_dec i_f_3 (by decide)
        exact hk_5 T_7 r_x0 (rg_m i_f_5 (by decide)) (rg_m i_v_10 (by decide)) (show (hI h_9 x0 8).toInt ≤ 4 from (by have hq_ := ((thI T_7 r_x0 (k := 1) (i := 8) rfl : Rg (0) (5) ((hI h_9 x0 8))) : Rg (0) (5) ((hI h_9 x0 8))); have := hq_.1; have := hq_.2; have : (hI h_9 x0 8).toInt = (hI h x0 8).toInt := congrArg Int32.toInt (he_w w_8 (ne_r r_x0 q_r_2 (by decide))); have hq_ := ((thI T r_x0 (k := 1) (i := 8) rfl : Rg (0) (5) ((hI h x0 8))) : Rg (0) (5) ((hI h x0 8))); have := hq_.1; have := hq_.2; omega)) (by have := hc_5; omega)
set_option maxRecDepth 20000 in
theorem zX0_addToRow {ρ : Nat → Nat} {c : Cm} {F : Nat} (hF : 700000 ≤ F) (hA : pmA c [(23, 999), (1, 8)]) {h : Hp} {x0 : Nat} {x1 : Int32} (T : TH ρ c h) (r_x0 : ρ x0 = 1) (i_x1 : Rg (0) (2047) (x1)) (ra : ((hI h x0 8).toInt ≤ 4)) : Sat (sX0_addToRow F h x0 x1) (ZV ρ c) := by
  unfold sX0_addToRow 
  refine s_q (fun v_1 e_1 => ?_)
  have i_v_1 : Rg (0) (5) (v_1) := by rw [e_1]; exact (thI T r_x0 (k := 1) (i := 8) rfl : Rg (0) (5) (hI h x0 8))
  have og_2 : Rg (0) (4) (v_1) := ⟨(by have := (i_v_1 : Rg (0) (5) (v_1)).1; have := (i_v_1 : Rg (0) (5) (v_1)).2; have : (v_1).toInt = (hI h x0 8 : Int32).toInt := congrArg Int32.toInt e_1; have hq_ := ((thI T r_x0 (k := 1) (i := 8) rfl : Rg (0) (5) (hI h x0 8)) : Rg (0) (5) (hI h x0 8)); have := hq_.1; have := hq_.2; have hq_ := ((thI T r_x0 (k := 1) (i := 8) rfl : Rg (0) (5) ((hI h x0 8))) : Rg (0) (5) ((hI h x0 8))); have := hq_.1; have := hq_.2; omega), (by have := (i_v_1 : Rg (0) (5) (v_1)).1; have := (i_v_1 : Rg (0) (5) (v_1)).2; have : (v_1).toInt = (hI h x0 8 : Int32).toInt := congrArg Int32.toInt e_1; have hq_ := ((thI T r_x0 (k := 1) (i := 8) rfl : Rg (0) (5) (hI h x0 8)) : Rg (0) (5) (hI h x0 8)); have := hq_.1; have := hq_.2; have hq_ := ((thI T r_x0 (k := 1) (i := 8) rfl : Rg (0) (5) ((hI h x0 8))) : Rg (0) (5) ((hI h x0 8))); have := hq_.1; have := hq_.2; omega)⟩
  have m_3 : Rg (0) (4) (v_1) := og_2
  exact zX0_addToRow_5 hF (pmA_s hA rfl) F T r_x0 i_x1 og_2 (show (hI h x0 8).toInt ≤ 4 from (by have hq_ := ((thI T r_x0 (k := 1) (i := 8) rfl : Rg (0) (5) ((hI h x0 8))) : Rg (0) (5) ((hI h x0 8))); have := hq_.1; have := hq_.2; omega)) (by have := m_3.1; have := m_3.2; omega)
set_option maxRecDepth 20000 in
theorem zX11_lowest {ρ : Nat → Nat} {c : Cm} {F : Nat} (hF : 700000 ≤ F) {h : Hp} {x0 : Int64} (T : TH ρ c h) : Sat (sX11_lowest h x0) (ZI0 h (0) (63)) := by
  unfold sX11_lowest 
  refine s_gd (rg_inB ((rg_58 _ : Rg (0) (63) ((((((x0 &&& (- x0)) * (285870213051386505 : Int64)).toUInt64 >>> ((58 : Int32).toInt64.toUInt64 &&& Int64.toUInt64 63)).toInt64).toInt32))) : Rg (0) (63) ((((((x0 &&& (- x0)) * (285870213051386505 : Int64)).toUInt64 >>> ((58 : Int32).toInt64.toUInt64 &&& Int64.toUInt64 63)).toInt64).toInt32))) (by decide)) ?_
  exact s_some ⟨rfl, (rg_sq _ : Rg (0) (63) (sqT.getD (((((x0 &&& (- x0)) * (285870213051386505 : Int64)).toUInt64 >>> ((58 : Int32).toInt64.toUInt64 &&& Int64.toUInt64 63)).toInt64).toInt32).toNatClampNeg 0))⟩
set_option maxRecDepth 20000 in
theorem zX3_occupied {ρ : Nat → Nat} {c : Cm} {F : Nat} (hF : 700000 ≤ F) {h : Hp} {x0 : Nat} (T : TH ρ c h) (r_x0 : ρ x0 = 4) : Sat (sX3_occupied h x0) (ZJ0 h) := by
  unfold sX3_occupied 
  obtain ⟨r_1, e_r_1, q_r_1⟩ := thR T r_x0 (k := 4) (i := 1) (k2 := 35) rfl (by decide)
  refine s_ref e_r_1 ?_
  refine s_gd (by rw [thN T q_r_1 (k := 35) (n := 2) rfl (by decide)]; exact rg_inB ((rg_m (rg_b rfl : Rg (0) (0) ((0 : Int32))) (by decide)) : Rg (0) (1) ((0 : Int32))) (by decide)) ?_
  refine s_ref e_r_1 ?_
  refine s_gd (by rw [thN T q_r_1 (k := 35) (n := 2) rfl (by decide)]; exact rg_inB ((rg_m (rg_b rfl : Rg (1) (1) ((1 : Int32))) (by decide)) : Rg (0) (1) ((1 : Int32))) (by decide)) ?_
  exact s_some rfl
set_option maxRecDepth 20000 in
theorem zX0_gatherRow_61 {ρ : Nat → Nat} {c : Cm} {F : Nat} {w_x1 : Nat} (hF : 700000 ≤ F) {k_14 : Hp → Nat → Nat → Int32 → Int32 → Int64 → Int32 → Option (Hp)} {C_14 : Int} (hk_14 : ∀ {h : Hp} {x0 : Nat} {x1 : Nat} {x2 : Int32} {x3 : Int32} {x4 : Int64} {x6 : Int32}, cw c x1 = w_x1 → TH ρ c h → ρ x0 = 1 → ρ x1 = 4 → Rg (-1) (63) (x2) → Rg (-1) (23) (x3) → Rg (0) (64) (x6) → (PosM x1 x4 h) → C_14 < x6.toInt → Sat (k_14 h x0 x1 x2 x3 x4 x6) (ZV ρ c)) (hA : pmA c [(23, 999), (1, 8)]) {h : Hp} {x0 : Nat} {x1 : Nat} {x2 : Int32} {x3 : Int32} {x4 : Int64} {x6 : Int32} {x7 : Int32} {t0 : Int32} (o_x1 : cw c x1 = w_x1) (T : TH ρ c h) (r_x0 : ρ x0 = 1) (r_x1 : ρ x1 = 4) (i_x2 : Rg (-1) (63) (x2)) (i_x3 : Rg (-1) (23) (x3)) (i_x6 : Rg (0) (63) (x6)) (i_x7 : Rg (0) (63) (x7)) (i_t0 : Rg (-1) (23) (t0)) (hc_14 : C_14 ≤ x6.toInt) (pm : (PosM x1 x4 h)) : Sat (sX0_gatherRow_61 F k_14 h x0 x1 x2 x3 x4 x6 x7 t0) (ZV ρ c) := by
  unfold sX0_gatherRow_61 sX0_gatherRow_89
  refine s_br (fun c_1 => ?_) (fun c_1 => ?_)
  · have _ := c_1
    have i_f_2 : Rg (-1) (-1) (t0) := rg_eq c_1 (rg_b rfl : Rg (-1) (-1) ((- 1 : Int32)))
    refine s_q (fun v_1q1 e_3 => ?_)
    have i_v_1q1 : Rg (1) (64) (v_1q1) := by rw [e_3]; exact (rg_add i_x6 (rg_b rfl : Rg (1) (1) ((1 : Int32))) (by decide) : Rg (1) (64) (x6 + (1 : Int32)))
    have m_4 : (v_1q1).toInt = x6.toInt + 1 := by rw [e_3]; exact rg_inc i_x6 (by decide)
    exact hk_14 o_x1 T r_x0 r_x1 i_x2 i_x3 (rg_m i_v_1q1 (by decide)) pm (by have := hc_14; omega)
  · have _ := c_1
    have i_f_5 : Rg (0) (23) (t0) := rg_nlo c_1 i_t0 (rg_b rfl : Rg (-1) (-1) ((- 1 : Int32)))
    refine s_br (fun c_6 => ?_) (fun c_6 => ?_)
    · have _ := c_6
      have i_f_7 : Rg (5) (5) ((hI h x0 8)) := rg_le2 c_6 (rg_b rfl : Rg (5) (5) ((5 : Int32))) (thI T r_x0 (k := 1) (i := 8) rfl : Rg (0) (5) ((hI h x0 8)))
      refine s_q (fun v_1q2 e_8 => ?_)
      have i_v_1q2 : Rg (1) (64) (v_1q2) := by rw [e_8]; exact (rg_add i_x6 (rg_b rfl : Rg (1) (1) ((1 : Int32))) (by decide) : Rg (1) (64) (x6 + (1 : Int32)))
      have m_9 : (v_1q2).toInt = x6.toInt + 1 := by rw [e_8]; exact rg_inc i_x6 (by decide)
      exact hk_14 o_x1 T r_x0 r_x1 i_x2 i_x3 (rg_m i_v_1q2 (by decide)) pm (by have := hc_14; omega)
    · have _ := c_6
      have i_f_10 : Rg (0) (4) ((hI h x0 8)) := rg_lt1 (nle_lt c_6) (thI T r_x0 (k := 1) (i := 8) rfl : Rg (0) (5) ((hI h x0 8))) (rg_b rfl : Rg (5) (5) ((5 : Int32)))
      refine s_cVf (S := fS [(23, 999), (1, 8)] []) T (fs_sub (pmA_s hA rfl) fs_n) (zX0_addToRow hF fs_a (th_in _ T) r_x0 (rg_or (n := 11) (rg_m (rg_shl (n := 6) (rg_m i_f_5 (by decide) : Rg (0) (23) (t0)) (rg_m (rg_b rfl : Rg (6) (6) ((6 : Int32))) (by decide) : Rg (0) (6) ((6 : Int32))) (by decide) : Rg (0) (1472) ((t0 <<< ((6 : Int32) &&& 31)))) (by decide) : Rg (0) (1472) ((t0 <<< ((6 : Int32) &&& 31)))) (rg_m i_x7 (by decide) : Rg (0) (63) (x7)) (by decide) : Rg (0) (2047) (((t0 <<< ((6 : Int32) &&& 31)) ||| x7))) (show (hI h x0 8).toInt ≤ 4 from (by have hq_ := ((rg_or (n := 11) (rg_m (rg_shl (n := 6) (rg_m i_f_5 (by decide) : Rg (0) (23) (t0)) (rg_m (rg_b rfl : Rg (6) (6) ((6 : Int32))) (by decide) : Rg (0) (6) ((6 : Int32))) (by decide) : Rg (0) (1472) ((t0 <<< ((6 : Int32) &&& 31)))) (by decide) : Rg (0) (1472) ((t0 <<< ((6 : Int32) &&& 31)))) (rg_m i_x7 (by decide) : Rg (0) (63) (x7)) (by decide) : Rg (0) (2047) (((t0 <<< ((6 : Int32) &&& 31)) ||| x7))) : Rg (0) (2047) (((t0 <<< ((6 : Int32) &&& 31)) ||| x7))); have := hq_.1; have := hq_.2; have := (i_f_10 : Rg (0) (4) ((hI h x0 8))).1; have := (i_f_10 : Rg (0) (4) ((hI h x0 8))).2; have := ne_i c_1; have := (i_f_5 : Rg (0) (23) (t0)).1; have := (i_f_5 : Rg (0) (23) (t0)).2; have : ((- 1 : Int32)).toInt = -1 := rfl; have := nle_i c_6; have : ((5 : Int32)).toInt = 5 := rfl; clear o_x1; omega))) (fun o_3 T_11 f_o_3 => ?_)
      refine s_q (fun v_1q3 e_12 => ?_)
      have i_v_1q3 : Rg (1) (64) (v_1q3) := by rw [e_12]; exact (rg_add i_x6 (rg_b rfl : Rg (1) (1) ((1 : Int32))) (by decide) : Rg (1) (64) (x6 + (1 : Int32)))
      have pf_13 : PosM x1 x4 o_3 := (pm_fr T r_x1 f_o_3 rfl (fun _ => rfl) pm)
      have m_14 : (v_1q3).toInt = x6.toInt + 1 := by rw [e_12]; exact rg_inc i_x6 (by decide)
      exact hk_14 o_x1 T_11 r_x0 r_x1 i_x2 i_x3 (rg_m i_v_1q3 (by decide)) pf_13 (by have := hc_14; omega)
set_option maxRecDepth 20000 in
theorem zX0_gatherRow_14 {ρ : Nat → Nat} {c : Cm} {F : Nat} {w_x1 : Nat} (hF : 700000 ≤ F) (hA : pmA c [(23, 999), (1, 8)]) : ∀ (f : Nat) {h : Hp} {x0 : Nat} {x1 : Nat} {x2 : Int32} {x3 : Int32} {x4 : Int64} {x6 : Int32}, cw c x1 = w_x1 → TH ρ c h → ρ x0 = 1 → ρ x1 = 4 → Rg (-1) (63) (x2) → Rg (-1) (23) (x3) → Rg (0) (64) (x6) → (PosM x1 x4 h) → (64 - x6.toInt).toNat < f → Sat (sX0_gatherRow_14 F f h x0 x1 x2 x3 x4 x6) (ZV ρ c) := by
  intro f
  induction f with
  | zero => intros; omega
  | succ f ih =>
    intro h x0 x1 x2 x3 x4 x6 o_x1 T r_x0 r_x1 i_x2 i_x3 i_x6 pm hm
    rw [sX0_gatherRow_14]
    unfold sX0_gatherRow_95
    obtain ⟨C_14, hC_14⟩ : ∃ C : Int, C = x6.toInt := ⟨_, rfl⟩
    have hk_14 : ∀ {h : Hp} {x0 : Nat} {x1 : Nat} {x2 : Int32} {x3 : Int32} {x4 : Int64} {x6 : Int32}, cw c x1 = w_x1 → TH ρ c h → ρ x0 = 1 → ρ x1 = 4 → Rg (-1) (63) (x2) → Rg (-1) (23) (x3) → Rg (0) (64) (x6) → (PosM x1 x4 h) → C_14 < x6.toInt → Sat (sX0_gatherRow_14 F f h x0 x1 x2 x3 x4 x6) (ZV ρ c) := by
      intro h' x0' x1' x2' x3' x4' x6' o_x1' T' r_x0' r_x1' i_x2' i_x3' i_x6' pm' hl
      exact ih o_x1' T' r_x0' r_x1' i_x2' i_x3' i_x6' pm' (by have := i_x6'.1; have := i_x6'.2; omega)
    have hc_14 : C_14 ≤ x6.toInt := by omega
    refine s_br (fun c_1 => ?_) (fun c_1 => ?_)
    · have _ := c_1
      have i_f_2 : Rg (64) (64) (x6) := rg_le2 c_1 (rg_b rfl : Rg (64) (64) ((64 : Int32))) i_x6
      exact s_some (T)
    · have _ := c_1
      have i_f_3 : Rg (0) (63) (x6) := rg_lt1 (nle_lt c_1) i_x6 (rg_b rfl : Rg (64) (64) ((64 : Int32)))
      refine s_br (fun c_4 => ?_) (fun c_4 => ?_)
      · have _ := c_4
        exact s_some (T)
      · have _ := c_4
        refine s_dI0 (zX11_lowest hF T) (fun o_3 eb_o_3 e_o_3 i_o_3 => ?_)
        have T_5 := th_eq e_o_3 T
        refine s_q (fun v_4 e_6 => ?_)
        refine s_br (fun c_7 => ?_) (fun c_7 => ?_)
        · have _ := c_7
          have i_f_8 : Rg (0) (63) (x2) := rg_eq c_7.symm i_o_3
          have pf_9 : PosM x1 x4 o_3.2 := (by rw [e_o_3]; exact pm)
          have es_10 : PosM x1 v_4 o_3.2 := by rw [e_6]; exact pm_and pf_9
          exact zX0_gatherRow_61 hF @hk_14 (pmA_s hA rfl) o_x1 T_5 r_x0 r_x1 (rg_m i_f_8 (by decide)) i_x3 i_f_3 i_o_3 i_x3 hc_14 es_10
        · have _ := c_7
          obtain ⟨r_6, e_r_6, q_r_6⟩ := thR T_5 r_x1 (k := 4) (i := 0) (k2 := 34) rfl (by decide)
          refine s_ref e_r_6 ?_
          have pf_12 : PosM x1 x4 o_3.2 := (by rw [e_o_3]; exact pm)
          have rh_11 : Rg 0 23 (hI o_3.2 r_6 o_3.1.toNatClampNeg) := pm_low pf_12 eb_o_3 c_4 (rg_m i_o_3 (by decide)) e_r_6 (thI T_5 q_r_6 (k := 34) (lo := -2) (hi := 23) rfl)
          refine s_gd (by rw [thN T_5 q_r_6 (k := 34) (n := 64) rfl (by decide)]; exact rg_inB (i_o_3 : Rg (0) (63) (o_3.1)) (by decide)) ?_
          have es_13 : PosM x1 v_4 o_3.2 := by rw [e_6]; exact pm_and pf_12
          exact zX0_gatherRow_61 hF @hk_14 (pmA_s hA rfl) o_x1 T_5 r_x0 r_x1 i_x2 i_x3 i_f_3 i_o_3 (rg_m rh_11 (by decide)) hc_14 es_13
set_option maxRecDepth 20000 in
theorem zX0_gatherRow {ρ : Nat → Nat} {c : Cm} {F : Nat} {w_x1 : Nat} (hF : 700000 ≤ F) (hA : pmA c [(23, 999), (1, 8)]) {h : Hp} {x0 : Nat} {x1 : Nat} {x2 : Int32} {x3 : Int32} (o_x1 : cw c x1 = w_x1) (T : TH ρ c h) (r_x0 : ρ x0 = 1) (r_x1 : ρ x1 = 4) (i_x2 : Rg (-1) (63) (x2)) (i_x3 : Rg (-1) (23) (x3)) : Sat (sX0_gatherRow F h x0 x1 x2 x3) (ZV ρ c) := by
  unfold sX0_gatherRow 
  refine s_hq (th_wI T r_x0 (k := 1) (lo := (0)) (hi := (5)) rfl ((rg_m (rg_b rfl : Rg (0) (0) ((0 : Int32))) (by decide)) : Rg (0) (5) ((0 : Int32))) (by decide) (by decide) (pm_a hA rfl)) (fun h_1 T_1 w_2 => ?_)
  refine s_dJ0 (zX3_occupied hF T_1 r_x1) (fun o_2 eb_o_2 e_o_2 => ?_)
  have T_3 := th_eq e_o_2 T_1
  have es_4 : PosM x1 o_2.1 o_2.2 := by rw [e_o_2]; exact pm_occ T_1 r_x1 eb_o_2
  have m_5 : Rg (0) (64) ((0 : Int32)) := (rg_m (rg_b rfl : Rg (0) (0) ((0 : Int32))) (by decide))
  exact zX0_gatherRow_14 hF (pmA_s hA rfl) F o_x1 T_3 r_x0 r_x1 i_x2 i_x3 (rg_m (rg_b rfl : Rg (0) (0) ((0 : Int32))) (by decide)) es_4 (by have := m_5.1; have := m_5.2; omega)
set_option maxRecDepth 20000 in
theorem zX0_keyOfRow_4 {ρ : Nat → Nat} {c : Cm} {h0 : Hp} {F : Nat} (hF : 700000 ≤ F) : ∀ (f : Nat) {h : Hp} {x0 : Nat} {x1 : Int32} {x2 : Int32}, h = h0 → TH ρ c h → ρ x0 = 1 → Rg (0) (2147483647) (x1) → Rg (0) (5) (x2) → (5 - x2.toInt).toNat < f → Sat (sX0_keyOfRow_4 F f h x0 x1 x2) (ZI0 h0 (0) (2147483647)) := by
  intro f
  induction f with
  | zero => intros; omega
  | succ f ih =>
    intro h x0 x1 x2 E T r_x0 i_x1 i_x2 hm
    rw [sX0_keyOfRow_4]
    obtain ⟨C_4, hC_4⟩ : ∃ C : Int, C = x2.toInt := ⟨_, rfl⟩
    have hk_4 : ∀ {h : Hp} {x0 : Nat} {x1 : Int32} {x2 : Int32}, h = h0 → TH ρ c h → ρ x0 = 1 → Rg (0) (2147483647) (x1) → Rg (0) (5) (x2) → C_4 < x2.toInt → Sat (sX0_keyOfRow_4 F f h x0 x1 x2) (ZI0 h0 (0) (2147483647)) := by
      intro h' x0' x1' x2' E' T' r_x0' i_x1' i_x2' hl
      exact ih E' T' r_x0' i_x1' i_x2' (by have := i_x2'.1; have := i_x2'.2; omega)
    have hc_4 : C_4 ≤ x2.toInt := by omega
    refine s_br (fun c_1 => ?_) (fun c_1 => ?_)
    · have _ := c_1
      exact s_some ⟨E, i_x1⟩
    · have _ := c_1
      have i_f_2 : Rg (0) (4) (x2) := rg_lt1 (nle_lt c_1) i_x2 (thI T r_x0 (k := 1) (i := 8) rfl : Rg (0) (5) ((hI h x0 8)))
      have i_f_3 : Rg (1) (5) ((hI h x0 8)) := rg_lt2 (nle_lt c_1) i_x2 (thI T r_x0 (k := 1) (i := 8) rfl : Rg (0) (5) ((hI h x0 8)))
      obtain ⟨r_2, e_r_2, q_r_2⟩ := thR T r_x0 (k := 1) (i := 7) (k2 := 23) rfl (by decide)
      refine s_ref e_r_2 ?_
      refine s_gd (by rw [thN T q_r_2 (k := 23) (n := 5) rfl (by decide)]; exact rg_inB (i_f_2 : Rg (0) (4) (x2)) (by decide)) ?_
      refine s_q (fun v_4 e_4 => ?_)
      have i_v_4 : Rg (0) (2147483647) (v_4) := by rw [e_4]; exact (rg_or (n := 31) (rg_m i_x1 (by decide) : Rg (0) (2147483647) (x1)) (rg_m (rg_shl (n := 20) (rg_m (rg_add (rg_shrk 6 (by decide) (thI T q_r_2 (k := 23) rfl : Rg (0) (2047) ((hI h r_2 x2.toNatClampNeg))) (by decide) : Rg (0) (31) (((hI h r_2 x2.toNatClampNeg) >>> ((6 : Int32) &&& 31)))) (rg_b rfl : Rg (1) (1) ((1 : Int32))) (by decide) : Rg (1) (32) ((((hI h r_2 x2.toNatClampNeg) >>> ((6 : Int32) &&& 31)) + (1 : Int32)))) (by decide) : Rg (0) (32) ((((hI h r_2 x2.toNatClampNeg) >>> ((6 : Int32) &&& 31)) + (1 : Int32)))) (rg_m (rg_mulc' (rg_b rfl : Rg (5) (5) ((5 : Int32))) i_f_2 (by decide) : Rg (0) (20) (((5 : Int32) * x2))) (by decide) : Rg (0) (20) (((5 : Int32) * x2))) (by decide) : Rg (0) (33554432) (((((hI h r_2 x2.toNatClampNeg) >>> ((6 : Int32) &&& 31)) + (1 : Int32)) <<< (((5 : Int32) * x2) &&& 31)))) (by decide) : Rg (0) (33554432) (((((hI h r_2 x2.toNatClampNeg) >>> ((6 : Int32) &&& 31)) + (1 : Int32)) <<< (((5 : Int32) * x2) &&& 31)))) (by decide) : Rg (0) (2147483647) (x1 ||| ((((hI h r_2 x2.toNatClampNeg) >>> ((6 : Int32) &&& 31)) + (1 : Int32)) <<< (((5 : Int32) * x2) &&& 31))))
      refine s_q (fun v_5 e_5 => ?_)
      have i_v_5 : Rg (1) (5) (v_5) := by rw [e_5]; exact (rg_add i_f_2 (rg_b rfl : Rg (1) (1) ((1 : Int32))) (by decide) : Rg (1) (5) (x2 + (1 : Int32)))
      have m_6 : (v_5).toInt = x2.toInt + 1 := by rw [e_5]; exact rg_inc i_f_2 (by decide)
      exact hk_4 E T r_x0 i_v_4 (rg_m i_v_5 (by decide)) (by have := hc_4; omega)
set_option maxRecDepth 20000 in
theorem zX0_keyOfRow {ρ : Nat → Nat} {c : Cm} {F : Nat} (hF : 700000 ≤ F) {h : Hp} {x0 : Nat} (T : TH ρ c h) (r_x0 : ρ x0 = 1) : Sat (sX0_keyOfRow F h x0) (ZI0 h (0) (2147483647)) := by
  unfold sX0_keyOfRow 
  have m_1 : Rg (0) (5) ((0 : Int32)) := (rg_m (rg_b rfl : Rg (0) (0) ((0 : Int32))) (by decide))
  exact zX0_keyOfRow_4 hF F rfl T r_x0 (rg_m (rg_b rfl : Rg (0) (0) ((0 : Int32))) (by decide)) (rg_m (rg_b rfl : Rg (0) (0) ((0 : Int32))) (by decide)) (by have := m_1.1; have := m_1.2; omega)
set_option maxRecDepth 20000 in
theorem zX0_numberOf_64 {ρ : Nat → Nat} {c : Cm} {h0 : Hp} {F : Nat} (hF : 700000 ≤ F) {k_19 : Hp → Nat → Int32 → Int32 → Int32 → Int32 → Int32 → Option (Int32 × Hp)} {C_19 : Int} (hk_19 : ∀ {h : Hp} {x0 : Nat} {x1 : Int32} {x2 : Int32} {x3 : Int32} {x4 : Int32} {x5 : Int32}, h = h0 → TH ρ c h → ρ x0 = 1 → Rg (-2147483648) (2147483647) (x1) → Rg (-2147483648) (2147483647) (x2) → Rg (0) (6) (x3) → Rg (0) (1) (x4) → Rg (0) (5) (x5) → (x3.toInt ≤ x5.toInt + x4.toInt) → C_19 < x5.toInt → Sat (k_19 h x0 x1 x2 x3 x4 x5) (ZI0 h0 (-2147483648) (2147483647))) {h : Hp} {x0 : Nat} {x1 : Int32} {x2 : Int32} {x3 : Int32} {x4 : Int32} {x5 : Int32} (E : h = h0) (T : TH ρ c h) (r_x0 : ρ x0 = 1) (i_x1 : Rg (-2147483648) (2147483647) (x1)) (i_x2 : Rg (-2147483648) (2147483647) (x2)) (i_x3 : Rg (0) (6) (x3)) (i_x4 : Rg (0) (1) (x4)) (i_x5 : Rg (0) (4) (x5)) (hc_19 : C_19 ≤ x5.toInt) (nb : (x3.toInt ≤ x5.toInt + x4.toInt)) : Sat (sX0_numberOf_64 F k_19 h x0 x1 x2 x3 x4 x5) (ZI0 h0 (-2147483648) (2147483647)) := by
  unfold sX0_numberOf_64 
  obtain ⟨r_1, e_r_1, q_r_1⟩ := thR T r_x0 (k := 1) (i := 7) (k2 := 23) rfl (by decide)
  refine s_ref e_r_1 ?_
  refine s_gd (by rw [thN T q_r_1 (k := 23) (n := 5) rfl (by decide)]; exact rg_inB (i_x5 : Rg (0) (4) (x5)) (by decide)) ?_
  obtain ⟨r_3, e_r_3, q_r_3⟩ := thR T r_x0 (k := 1) (i := 6) (k2 := 22) rfl (by decide)
  refine s_ref e_r_3 ?_
  have og_1 : Rg (0) (5) (x3) := ⟨(by have := (i_x3 : Rg (0) (6) (x3)).1; have := (i_x3 : Rg (0) (6) (x3)).2; have := (i_x4 : Rg (0) (1) (x4)).1; have := (i_x4 : Rg (0) (1) (x4)).2; have := (i_x5 : Rg (0) (4) (x5)).1; have := (i_x5 : Rg (0) (4) (x5)).2; omega), (by have := (i_x3 : Rg (0) (6) (x3)).1; have := (i_x3 : Rg (0) (6) (x3)).2; have := (i_x4 : Rg (0) (1) (x4)).1; have := (i_x4 : Rg (0) (1) (x4)).2; have := (i_x5 : Rg (0) (4) (x5)).1; have := (i_x5 : Rg (0) (4) (x5)).2; omega)⟩
  refine s_gd (by rw [thN T q_r_3 (k := 22) (n := 6) rfl (by decide)]; exact rg_inB (og_1 : Rg (0) (5) (x3)) (by decide)) ?_
  refine s_q (fun v_5 e_2 => ?_)
  have i_v_5 : Rg (-2147483648) (2147483647) (v_5) := by rw [e_2]; exact (rg_top _ : Rg (-2147483648) (2147483647) (x2 + (((hI h r_1 x5.toNatClampNeg) &&& (63 : Int32)) * (hI h r_3 x3.toNatClampNeg))))
  refine s_q (fun v_6 e_3 => ?_)
  have i_v_6 : Rg (1) (6) (v_6) := by rw [e_3]; exact (rg_add og_1 (rg_b rfl : Rg (1) (1) ((1 : Int32))) (by decide) : Rg (1) (6) (x3 + (1 : Int32)))
  refine s_q (fun v_7 e_4 => ?_)
  have i_v_7 : Rg (1) (5) (v_7) := by rw [e_4]; exact (rg_add i_x5 (rg_b rfl : Rg (1) (1) ((1 : Int32))) (by decide) : Rg (1) (5) (x5 + (1 : Int32)))
  have m_5 : (v_7).toInt = x5.toInt + 1 := by rw [e_4]; exact rg_inc i_x5 (by decide)
  exact hk_19 E T r_x0 i_x1 i_v_5 (rg_m i_v_6 (by decide)) i_x4 (rg_m i_v_7 (by decide)) (show (v_6).toInt ≤ (v_7).toInt + (x4).toInt from (by have := (i_v_6 : Rg (1) (6) (v_6)).1; have := (i_v_6 : Rg (1) (6) (v_6)).2; have : (v_6).toInt = (x3 + (1 : Int32) : Int32).toInt := congrArg Int32.toInt e_3; have : (x3 + (1 : Int32) : Int32).toInt = (x3 : Int32).toInt + ((1 : Int32) : Int32).toInt := ti_add (og_1 : Rg (0) (5) (x3)) ((rg_b rfl : Rg (1) (1) ((1 : Int32))) : Rg (1) (1) ((1 : Int32))) (by decide); have := (og_1 : Rg (0) (5) (x3)).1; have := (og_1 : Rg (0) (5) (x3)).2; have : ((1 : Int32)).toInt = 1 := rfl; have := (i_x4 : Rg (0) (1) (x4)).1; have := (i_x4 : Rg (0) (1) (x4)).2; have := (i_v_7 : Rg (1) (5) (v_7)).1; have := (i_v_7 : Rg (1) (5) (v_7)).2; have : (v_7).toInt = (x5 + (1 : Int32) : Int32).toInt := congrArg Int32.toInt e_4; have : (x5 + (1 : Int32) : Int32).toInt = (x5 : Int32).toInt + ((1 : Int32) : Int32).toInt := ti_add (i_x5 : Rg (0) (4) (x5)) ((rg_b rfl : Rg (1) (1) ((1 : Int32))) : Rg (1) (1) ((1 : Int32))) (by decide); have := (i_x5 : Rg (0) (4) (x5)).1; have := (i_x5 : Rg (0) (4) (x5)).2; omega)) (by have := hc_19; omega)
set_option maxRecDepth 20000 in
theorem zX0_numberOf_19 {ρ : Nat → Nat} {c : Cm} {h0 : Hp} {F : Nat} (hF : 700000 ≤ F) : ∀ (f : Nat) {h : Hp} {x0 : Nat} {x1 : Int32} {x2 : Int32} {x3 : Int32} {x4 : Int32} {x5 : Int32}, h = h0 → TH ρ c h → ρ x0 = 1 → Rg (-2147483648) (2147483647) (x1) → Rg (-2147483648) (2147483647) (x2) → Rg (0) (6) (x3) → Rg (0) (1) (x4) → Rg (0) (5) (x5) → (x3.toInt ≤ x5.toInt + x4.toInt) → (5 - x5.toInt).toNat < f → Sat (sX0_numberOf_19 F f h x0 x1 x2 x3 x4 x5) (ZI0 h0 (-2147483648) (2147483647)) := by
  intro f
  induction f with
  | zero => intros; omega
  | succ f ih =>
    intro h x0 x1 x2 x3 x4 x5 E T r_x0 i_x1 i_x2 i_x3 i_x4 i_x5 nb hm
    rw [sX0_numberOf_19]
    unfold sX0_numberOf_115
    obtain ⟨C_19, hC_19⟩ : ∃ C : Int, C = x5.toInt := ⟨_, rfl⟩
    have hk_19 : ∀ {h : Hp} {x0 : Nat} {x1 : Int32} {x2 : Int32} {x3 : Int32} {x4 : Int32} {x5 : Int32}, h = h0 → TH ρ c h → ρ x0 = 1 → Rg (-2147483648) (2147483647) (x1) → Rg (-2147483648) (2147483647) (x2) → Rg (0) (6) (x3) → Rg (0) (1) (x4) → Rg (0) (5) (x5) → (x3.toInt ≤ x5.toInt + x4.toInt) → C_19 < x5.toInt → Sat (sX0_numberOf_19 F f h x0 x1 x2 x3 x4 x5) (ZI0 h0 (-2147483648) (2147483647)) := by
      intro h' x0' x1' x2' x3' x4' x5' E' T' r_x0' i_x1' i_x2' i_x3' i_x4' i_x5' nb' hl
      exact ih E' T' r_x0' i_x1' i_x2' i_x3' i_x4' i_x5' nb' (by have := i_x5'.1; have := i_x5'.2; omega)
    have hc_19 : C_19 ≤ x5.toInt := by omega
    refine s_br (fun c_1 => ?_) (fun c_1 => ?_)
    · have _ := c_1
      refine s_br (fun c_2 => ?_) (fun c_2 => ?_)
      · have _ := c_2
        have i_f_3 : Rg (0) (0) (x4) := rg_eq c_2 (rg_b rfl : Rg (0) (0) (0 : Int32))
        obtain ⟨r_3, e_r_3, q_r_3⟩ := thR T r_x0 (k := 1) (i := 6) (k2 := 22) rfl (by decide)
        refine s_ref e_r_3 ?_
        have og_4 : Rg (0) (5) (x3) := ⟨(by have := (i_x3 : Rg (0) (6) (x3)).1; have := (i_x3 : Rg (0) (6) (x3)).2; have := (i_f_3 : Rg (0) (0) (x4)).1; have := (i_f_3 : Rg (0) (0) (x4)).2; have := (i_x5 : Rg (0) (5) (x5)).1; have := (i_x5 : Rg (0) (5) (x5)).2; have := le_i c_1; have hq_ := ((thI T r_x0 (k := 1) (i := 8) rfl : Rg (0) (5) ((hI h x0 8))) : Rg (0) (5) ((hI h x0 8))); have := hq_.1; have := hq_.2; have := eq_i c_2; have : (0 : Int32).toInt = 0 := rfl; omega), (by have := (i_x3 : Rg (0) (6) (x3)).1; have := (i_x3 : Rg (0) (6) (x3)).2; have := (i_f_3 : Rg (0) (0) (x4)).1; have := (i_f_3 : Rg (0) (0) (x4)).2; have := (i_x5 : Rg (0) (5) (x5)).1; have := (i_x5 : Rg (0) (5) (x5)).2; have := le_i c_1; have hq_ := ((thI T r_x0 (k := 1) (i := 8) rfl : Rg (0) (5) ((hI h x0 8))) : Rg (0) (5) ((hI h x0 8))); have := hq_.1; have := hq_.2; have := eq_i c_2; have : (0 : Int32).toInt = 0 := rfl; omega)⟩
        refine s_gd (by rw [thN T q_r_3 (k := 22) (n := 6) rfl (by decide)]; exact rg_inB (og_4 : Rg (0) (5) (x3)) (by decide)) ?_
        exact s_some ⟨E, (rg_top _ : Rg (-2147483648) (2147483647) ((x2 + ((x1 &&& (63 : Int32)) * (hI h r_3 x3.toNatClampNeg)))))⟩
      · have _ := c_2
        have i_f_5 : Rg (1) (1) (x4) := rg_nlo c_2 i_x4 (rg_b rfl : Rg (0) (0) (0 : Int32))
        exact s_some ⟨E, i_x2⟩
    · have _ := c_1
      have i_f_6 : Rg (0) (4) (x5) := rg_lt1 (nle_lt c_1) i_x5 (thI T r_x0 (k := 1) (i := 8) rfl : Rg (0) (5) ((hI h x0 8)))
      have i_f_7 : Rg (1) (5) ((hI h x0 8)) := rg_lt2 (nle_lt c_1) i_x5 (thI T r_x0 (k := 1) (i := 8) rfl : Rg (0) (5) ((hI h x0 8)))
      refine s_br (fun c_8 => ?_) (fun c_8 => ?_)
      · have _ := c_8
        have i_f_9 : Rg (0) (0) (x4) := rg_eq c_8 (rg_b rfl : Rg (0) (0) (0 : Int32))
        obtain ⟨r_6, e_r_6, q_r_6⟩ := thR T r_x0 (k := 1) (i := 7) (k2 := 23) rfl (by decide)
        refine s_ref e_r_6 ?_
        refine s_gd (by rw [thN T q_r_6 (k := 23) (n := 5) rfl (by decide)]; exact rg_inB (i_f_6 : Rg (0) (4) (x5)) (by decide)) ?_
        refine s_br (fun c_10 => ?_) (fun c_10 => ?_)
        · have _ := c_10
          have i_f_11 : Rg (0) (2147483647) (x1) := rg_le2 c_10 (thI T q_r_6 (k := 23) rfl : Rg (0) (2047) ((hI h r_6 x5.toNatClampNeg))) i_x1
          exact zX0_numberOf_64 hF @hk_19 E T r_x0 (rg_m i_f_11 (by decide)) i_x2 i_x3 (rg_m i_f_9 (by decide)) i_f_6 hc_19 nb
        · have _ := c_10
          have i_f_12 : Rg (-2147483648) (2046) (x1) := rg_lt1 (nle_lt c_10) i_x1 (thI T q_r_6 (k := 23) rfl : Rg (0) (2047) ((hI h r_6 x5.toNatClampNeg)))
          obtain ⟨r_9, e_r_9, q_r_9⟩ := thR T r_x0 (k := 1) (i := 6) (k2 := 22) rfl (by decide)
          refine s_ref e_r_9 ?_
          have og_13 : Rg (0) (5) (x3) := ⟨(by have := (i_x3 : Rg (0) (6) (x3)).1; have := (i_x3 : Rg (0) (6) (x3)).2; have := (i_f_9 : Rg (0) (0) (x4)).1; have := (i_f_9 : Rg (0) (0) (x4)).2; have := (i_f_6 : Rg (0) (4) (x5)).1; have := (i_f_6 : Rg (0) (4) (x5)).2; have := nle_i c_1; have := (i_f_7 : Rg (1) (5) ((hI h x0 8))).1; have := (i_f_7 : Rg (1) (5) ((hI h x0 8))).2; have := eq_i c_8; have : (0 : Int32).toInt = 0 := rfl; have := nle_i c_10; have hq_ := ((thI T q_r_6 (k := 23) rfl : Rg (0) (2047) ((hI h r_6 x5.toNatClampNeg))) : Rg (0) (2047) ((hI h r_6 x5.toNatClampNeg))); have := hq_.1; have := hq_.2; have := (i_f_12 : Rg (-2147483648) (2046) (x1)).1; have := (i_f_12 : Rg (-2147483648) (2046) (x1)).2; omega), (by have := (i_x3 : Rg (0) (6) (x3)).1; have := (i_x3 : Rg (0) (6) (x3)).2; have := (i_f_9 : Rg (0) (0) (x4)).1; have := (i_f_9 : Rg (0) (0) (x4)).2; have := (i_f_6 : Rg (0) (4) (x5)).1; have := (i_f_6 : Rg (0) (4) (x5)).2; have := nle_i c_1; have := (i_f_7 : Rg (1) (5) ((hI h x0 8))).1; have := (i_f_7 : Rg (1) (5) ((hI h x0 8))).2; have := eq_i c_8; have : (0 : Int32).toInt = 0 := rfl; have := nle_i c_10; have hq_ := ((thI T q_r_6 (k := 23) rfl : Rg (0) (2047) ((hI h r_6 x5.toNatClampNeg))) : Rg (0) (2047) ((hI h r_6 x5.toNatClampNeg))); have := hq_.1; have := hq_.2; have := (i_f_12 : Rg (-2147483648) (2046) (x1)).1; have := (i_f_12 : Rg (-2147483648) (2046) (x1)).2; omega)⟩
          refine s_gd (by rw [thN T q_r_9 (k := 22) (n := 6) rfl (by decide)]; exact rg_inB (og_13 : Rg (0) (5) (x3)) (by decide)) ?_
          refine s_q (fun v_11 e_14 => ?_)
          have i_v_11 : Rg (-2147483648) (2147483647) (v_11) := by rw [e_14]; exact (rg_top _ : Rg (-2147483648) (2147483647) (x2 + ((x1 &&& (63 : Int32)) * (hI h r_9 x3.toNatClampNeg))))
          refine s_q (fun v_12 e_15 => ?_)
          have i_v_12 : Rg (1) (6) (v_12) := by rw [e_15]; exact (rg_add og_13 (rg_b rfl : Rg (1) (1) ((1 : Int32))) (by decide) : Rg (1) (6) (x3 + (1 : Int32)))
          exact zX0_numberOf_64 hF @hk_19 E T r_x0 (rg_m i_f_12 (by decide)) i_v_11 (rg_m i_v_12 (by decide)) (rg_m (rg_b rfl : Rg (1) (1) ((1 : Int32))) (by decide)) i_f_6 hc_19 (show (v_12).toInt ≤ (x5).toInt + ((1 : Int32)).toInt from (by have := (i_v_12 : Rg (1) (6) (v_12)).1; have := (i_v_12 : Rg (1) (6) (v_12)).2; have : (v_12).toInt = (x3 + (1 : Int32) : Int32).toInt := congrArg Int32.toInt e_15; have : (x3 + (1 : Int32) : Int32).toInt = (x3 : Int32).toInt + ((1 : Int32) : Int32).toInt := ti_add (og_13 : Rg (0) (5) (x3)) ((rg_b rfl : Rg (1) (1) ((1 : Int32))) : Rg (1) (1) ((1 : Int32))) (by decide); have := (og_13 : Rg (0) (5) (x3)).1; have := (og_13 : Rg (0) (5) (x3)).2; have : ((1 : Int32)).toInt = 1 := rfl; have := (i_f_6 : Rg (0) (4) (x5)).1; have := (i_f_6 : Rg (0) (4) (x5)).2; have := (i_f_9 : Rg (0) (0) (x4)).1; have := (i_f_9 : Rg (0) (0) (x4)).2; have := nle_i c_1; have := (i_f_7 : Rg (1) (5) ((hI h x0 8))).1; have := (i_f_7 : Rg (1) (5) ((hI h x0 8))).2; have := eq_i c_8; have : (0 : Int32).toInt = 0 := rfl; have := nle_i c_10; have hq_ := ((thI T q_r_6 (k := 23) rfl : Rg (0) (2047) ((hI h r_6 x5.toNatClampNeg))) : Rg (0) (2047) ((hI h r_6 x5.toNatClampNeg))); have := hq_.1; have := hq_.2; have := (i_f_12 : Rg (-2147483648) (2046) (x1)).1; have := (i_f_12 : Rg (-2147483648) (2046) (x1)).2; omega))
      · have _ := c_8
        have i_f_16 : Rg (1) (1) (x4) := rg_nlo c_8 i_x4 (rg_b rfl : Rg (0) (0) (0 : Int32))
        exact zX0_numberOf_64 hF @hk_19 E T r_x0 i_x1 i_x2 i_x3 (rg_m i_f_16 (by decide)) i_f_6 hc_19 nb
set_option maxRecDepth 20000 in
theorem zX0_numberOf {ρ : Nat → Nat} {c : Cm} {F : Nat} (hF : 700000 ≤ F) {h : Hp} {x0 : Nat} {x1 : Int32} (T : TH ρ c h) (r_x0 : ρ x0 = 1) (i_x1 : Rg (-2147483648) (2147483647) (x1)) : Sat (sX0_numberOf F h x0 x1) (ZI0 h (-2147483648) (2147483647)) := by
  unfold sX0_numberOf sX0_numberOf_14
  refine s_br (fun c_1 => ?_) (fun c_1 => ?_)
  · have _ := c_1
    have i_f_2 : Rg (-1) (-1) (x1) := rg_eq c_1 (rg_b rfl : Rg (-1) (-1) ((- 1 : Int32)))
    have m_3 : Rg (0) (5) ((0 : Int32)) := (rg_m (rg_b rfl : Rg (0) (0) ((0 : Int32))) (by decide))
    exact zX0_numberOf_19 hF F rfl T r_x0 (rg_m i_f_2 (by decide)) (rg_m (rg_b rfl : Rg (0) (0) ((0 : Int32))) (by decide)) (rg_m (rg_b rfl : Rg (0) (0) ((0 : Int32))) (by decide)) (rg_m (rg_b rfl : Rg (1) (1) ((1 : Int32))) (by decide)) (rg_m (rg_b rfl : Rg (0) (0) ((0 : Int32))) (by decide)) (show ((0 : Int32)).toInt ≤ ((0 : Int32)).toInt + ((1 : Int32)).toInt from (by have : ((0 : Int32)).toInt = 0 := rfl; have : ((1 : Int32)).toInt = 1 := rfl; omega)) (by have := m_3.1; have := m_3.2; omega)
  · have _ := c_1
    have m_4 : Rg (0) (5) ((0 : Int32)) := (rg_m (rg_b rfl : Rg (0) (0) ((0 : Int32))) (by decide))
    exact zX0_numberOf_19 hF F rfl T r_x0 i_x1 (rg_m (rg_b rfl : Rg (0) (0) ((0 : Int32))) (by decide)) (rg_m (rg_b rfl : Rg (0) (0) ((0 : Int32))) (by decide)) (rg_m (rg_b rfl : Rg (0) (0) ((0 : Int32))) (by decide)) (rg_m (rg_b rfl : Rg (0) (0) ((0 : Int32))) (by decide)) (show ((0 : Int32)).toInt ≤ ((0 : Int32)).toInt + ((0 : Int32)).toInt from (by have : ((0 : Int32)).toInt = 0 := rfl; omega)) (by have := m_4.1; have := m_4.2; omega)
set_option maxRecDepth 20000 in
theorem zX0_push {ρ : Nat → Nat} {c : Cm} {F : Nat} (hF : 700000 ≤ F) (hA : pmA c [(26, 999), (1, 16)]) {h : Hp} {x0 : Nat} {x1 : Int32} (T : TH ρ c h) (r_x0 : ρ x0 = 1) (i_x1 : Rg (0) (599999) (x1)) (ln : (LenP x0 h)) : Sat (sX0_push h x0 x1) (ZV ρ c) := by
  unfold sX0_push sX0_push_32
  obtain ⟨r_1, e_r_1, q_r_1⟩ := thR T r_x0 (k := 1) (i := 13) (k2 := 26) rfl (by decide)
  refine s_ref e_r_1 ?_
  have pu_1 : (nI (hN h r_1)).toInt = 600000 := len_u13 ln r_1 e_r_1
  refine s_br (fun c_2 => ?_) (fun c_2 => ?_)
  · have _ := c_2
    have i_f_3 : Rg (-2147483648) (600000) ((nI (hN h r_1))) := rg_le1 c_2 (rg_top _ : Rg (-2147483648) (2147483647) ((nI (hN h r_1)))) (thI T r_x0 (k := 1) (i := 16) rfl : Rg (0) (600000) ((hI h x0 16)))
    exact s_some (T)
  · have _ := c_2
    have i_f_4 : Rg (1) (2147483647) ((nI (hN h r_1))) := rg_lt2 (nle_lt c_2) (thI T r_x0 (k := 1) (i := 16) rfl : Rg (0) (600000) ((hI h x0 16))) (rg_top _ : Rg (-2147483648) (2147483647) ((nI (hN h r_1))))
    refine s_ref e_r_1 ?_
    have og_5 : Rg (0) (599999) ((hI h x0 16)) := ⟨(by have hq_ := ((thI T r_x0 (k := 1) (i := 16) rfl : Rg (0) (600000) ((hI h x0 16))) : Rg (0) (600000) ((hI h x0 16))); have := hq_.1; have := hq_.2; have := nle_i c_2; have := (i_f_4 : Rg (1) (2147483647) ((nI (hN h r_1)))).1; have := (i_f_4 : Rg (1) (2147483647) ((nI (hN h r_1)))).2; omega), (by have hq_ := ((thI T r_x0 (k := 1) (i := 16) rfl : Rg (0) (600000) ((hI h x0 16))) : Rg (0) (600000) ((hI h x0 16))); have := hq_.1; have := hq_.2; have := nle_i c_2; have := (i_f_4 : Rg (1) (2147483647) ((nI (hN h r_1)))).1; have := (i_f_4 : Rg (1) (2147483647) ((nI (hN h r_1)))).2; omega)⟩
    refine s_gd (by rw [ln 13 _ (by decide) e_r_1]; exact rg_inB (og_5 : Rg (0) (599999) ((hI h x0 16))) (by decide)) ?_
    refine s_hq (th_wI T q_r_1 (k := 26) (lo := (0)) (hi := (599999)) rfl (i_x1 : Rg (0) (599999) (x1)) (by decide) (by decide) (pm_a hA rfl)) (fun h_5 T_6 w_7 => ?_)
    refine s_hq (th_wI T_6 r_x0 (k := 1) (lo := (0)) (hi := (600000)) rfl ((rg_m (rg_add ((rg_hw w_7 (ne_r r_x0 q_r_1 (by decide)) og_5) : Rg (0) (599999) ((hI h_5 x0 16))) (rg_b rfl : Rg (1) (1) ((1 : Int32))) (by decide) : Rg (1) (600000) (((hI h_5 x0 16) + (1 : Int32)))) (by decide)) : Rg (0) (600000) (((hI h_5 x0 16) + (1 : Int32)))) (by decide) (by decide) (pm_a hA rfl)) (fun h_6 T_8 w_9 => ?_)
    exact s_some (T_8)
set_option maxRecDepth 20000 in
theorem zX0_touch_59 {ρ : Nat → Nat} {c : Cm} {F : Nat} (hF : 700000 ≤ F) (hA : pmA c [(24, 999), (25, 999), (26, 999), (1, 16)]) {h : Hp} {x0 : Nat} {x1 : Int32} (T : TH ρ c h) (r_x0 : ρ x0 = 1) (i_x1 : Rg (0) (599999) (x1)) (ln : (LenP x0 h)) : Sat (sX0_touch_59 h x0 x1) (ZV ρ c) := by
  unfold sX0_touch_59 sX0_touch_125
  refine s_br (fun c_1 => ?_) (fun c_1 => ?_)
  · have _ := c_1
    have i_f_2 : Rg (0) (4000000) ((hI h x0 17)) := rg_le2 c_1 (rg_b rfl : Rg (0) (0) (0 : Int32)) (thI T r_x0 (k := 1) (i := 17) rfl : Rg (-4000000) (4000000) ((hI h x0 17)))
    obtain ⟨r_2, e_r_2, q_r_2⟩ := thR T r_x0 (k := 1) (i := 12) (k2 := 25) rfl (by decide)
    refine s_ref e_r_2 ?_
    have pu_3 : (nI (hN h r_2)).toInt = 600000 := len_u12 ln r_2 e_r_2
    refine s_gd (by rw [ln 12 _ (by decide) e_r_2]; exact rg_inB (i_x1 : Rg (0) (599999) (x1)) (by decide)) ?_
    refine s_gd (by rw [ln 12 _ (by decide) e_r_2]; exact rg_inB (i_x1 : Rg (0) (599999) (x1)) (by decide)) ?_
    refine s_hq (th_wI T q_r_2 (k := 25) (lo := (-2147483648)) (hi := (2147483647)) rfl ((rg_top _ : Rg (-2147483648) (2147483647) (((hI h r_2 x1.toNatClampNeg) - (1 : Int32)))) : Rg (-2147483648) (2147483647) (((hI h r_2 x1.toNatClampNeg) - (1 : Int32)))) (by decide) (by decide) (pm_a hA rfl)) (fun h_5 T_4 w_5 => ?_)
    refine s_ref (hr_w w_5 e_r_2) ?_
    have pf_6 : LenP x0 h_5 := (len_fr T r_x0 (fr1I (A := [(25, 999)]) q_r_2 rfl w_5) (fun _ => rfl) (fun _ => rfl) (fun _ => rfl) ln)
    refine s_gd (by rw [pf_6 12 _ (by decide) (hr_w w_5 e_r_2)]; exact rg_inB (i_x1 : Rg (0) (599999) (x1)) (by decide)) ?_
    refine s_br (fun c_7 => ?_) (fun c_7 => ?_)
    · have _ := c_7
      have i_f_8 : Rg (0) (0) (((hI h_5 r_2 x1.toNatClampNeg) &&& (4095 : Int32))) := rg_eq c_7 (rg_b rfl : Rg (0) (0) (0 : Int32))
      obtain ⟨r_9, e_r_9, q_r_9⟩ := thR T_4 r_x0 (k := 1) (i := 11) (k2 := 24) rfl (by decide)
      refine s_ref e_r_9 ?_
      have pu_9 : (nI (hN h_5 r_9)).toInt = 600000 := len_u11 pf_6 r_9 e_r_9
      refine s_gd (by rw [pf_6 11 _ (by decide) e_r_9]; exact rg_inB (i_x1 : Rg (0) (599999) (x1)) (by decide)) ?_
      refine s_hq (th_wI T_4 q_r_9 (k := 24) (lo := (-4000000)) (hi := (4000000)) rfl ((rg_m (rg_sub (rg_b rfl : Rg (1) (1) ((1 : Int32))) ((rg_hw w_5 (ne_r r_x0 q_r_2 (by decide)) i_f_2) : Rg (0) (4000000) ((hI h_5 x0 17))) (by decide) : Rg (-3999999) (1) (((1 : Int32) - (hI h_5 x0 17)))) (by decide)) : Rg (-4000000) (4000000) (((1 : Int32) - (hI h_5 x0 17)))) (by decide) (by decide) (pm_a hA rfl)) (fun h_11 T_10 w_11 => ?_)
      have pf_12 : LenP x0 h_11 := (len_fr T_4 r_x0 (fr1I (A := [(24, 999)]) q_r_9 rfl w_11) (fun _ => rfl) (fun _ => rfl) (fun _ => rfl) pf_6)
      refine s_cV (zX0_push hF (pmA_s hA rfl) T_10 r_x0 i_x1 pf_12) (fun o_12 T_13 => ?_)
      exact s_some (T_13)
    · have _ := c_7
      have i_f_14 : Rg (1) (4095) (((hI h_5 r_2 x1.toNatClampNeg) &&& (4095 : Int32))) := rg_nlo c_7 (rg_and (rg_b rfl : Rg (4095) (4095) ((4095 : Int32))) (by decide) : Rg (0) (4095) (((hI h_5 r_2 x1.toNatClampNeg) &&& (4095 : Int32)))) (rg_b rfl : Rg (0) (0) (0 : Int32))
      exact s_some (T_4)
  · have _ := c_1
    have i_f_15 : Rg (-4000000) (-1) ((hI h x0 17)) := rg_lt1 (nle_lt c_1) (thI T r_x0 (k := 1) (i := 17) rfl : Rg (-4000000) (4000000) ((hI h x0 17))) (rg_b rfl : Rg (0) (0) (0 : Int32))
    obtain ⟨r_13, e_r_13, q_r_13⟩ := thR T r_x0 (k := 1) (i := 11) (k2 := 24) rfl (by decide)
    refine s_ref e_r_13 ?_
    have pu_16 : (nI (hN h r_13)).toInt = 600000 := len_u11 ln r_13 e_r_13
    refine s_gd (by rw [ln 11 _ (by decide) e_r_13]; exact rg_inB (i_x1 : Rg (0) (599999) (x1)) (by decide)) ?_
    refine s_hq (th_wI T q_r_13 (k := 24) (lo := (-4000000)) (hi := (4000000)) rfl ((rg_m (rg_sub (rg_neg i_f_15 (by decide) : Rg (1) (4000000) ((- (hI h x0 17)))) (rg_b rfl : Rg (1) (1) ((1 : Int32))) (by decide) : Rg (0) (3999999) (((- (hI h x0 17)) - (1 : Int32)))) (by decide)) : Rg (-4000000) (4000000) (((- (hI h x0 17)) - (1 : Int32)))) (by decide) (by decide) (pm_a hA rfl)) (fun h_15 T_17 w_18 => ?_)
    have pf_19 : LenP x0 h_15 := (len_fr T r_x0 (fr1I (A := [(24, 999)]) q_r_13 rfl w_18) (fun _ => rfl) (fun _ => rfl) (fun _ => rfl) ln)
    refine s_cV (zX0_push hF (pmA_s hA rfl) T_17 r_x0 i_x1 pf_19) (fun o_16 T_20 => ?_)
    exact s_some (T_20)
set_option maxRecDepth 20000 in
theorem zX0_touch {ρ : Nat → Nat} {c : Cm} {F : Nat} (hF : 700000 ≤ F) (hA : pmA c [(24, 999), (25, 999), (26, 999), (1, 16)]) {h : Hp} {x0 : Nat} {x1 : Int32} {x2 : Int32} (T : TH ρ c h) (r_x0 : ρ x0 = 1) (i_x1 : Rg (0) (599999) (x1)) (i_x2 : Rg (0) (1) (x2)) (ln : (LenP x0 h)) : Sat (sX0_touch h x0 x1 x2) (ZV ρ c) := by
  unfold sX0_touch sX0_touch_39
  obtain ⟨r_1, e_r_1, q_r_1⟩ := thR T r_x0 (k := 1) (i := 11) (k2 := 24) rfl (by decide)
  refine s_ref e_r_1 ?_
  have pu_1 : (nI (hN h r_1)).toInt = 600000 := len_u11 ln r_1 e_r_1
  refine s_gd (by rw [ln 11 _ (by decide) e_r_1]; exact rg_inB (i_x1 : Rg (0) (599999) (x1)) (by decide)) ?_
  refine s_br (fun c_2 => ?_) (fun c_2 => ?_)
  · have _ := c_2
    have i_f_3 : Rg (3000000) (3000000) ((hI h r_1 x1.toNatClampNeg)) := rg_eq c_2 (rg_b rfl : Rg (3000000) (3000000) ((3000000 : Int32)))
    refine s_br (fun c_4 => ?_) (fun c_4 => ?_)
    · have _ := c_4
      have i_f_5 : Rg (3000000) (3000000) ((hI h x0 17)) := rg_eq c_4 (rg_b rfl : Rg (3000000) (3000000) ((3000000 : Int32)))
      obtain ⟨r_9, e_r_9, q_r_9⟩ := thR T r_x0 (k := 1) (i := 12) (k2 := 25) rfl (by decide)
      refine s_ref e_r_9 ?_
      have pu_6 : (nI (hN h r_9)).toInt = 600000 := len_u12 ln r_9 e_r_9
      refine s_gd (by rw [ln 12 _ (by decide) e_r_9]; exact rg_inB (i_x1 : Rg (0) (599999) (x1)) (by decide)) ?_
      refine s_br (fun c_7 => ?_) (fun c_7 => ?_)
      · have _ := c_7
        have i_f_8 : Rg (0) (0) (x2) := rg_eq c_7 (rg_b rfl : Rg (0) (0) (0 : Int32))
        refine s_gd (by rw [ln 12 _ (by decide) e_r_9]; exact rg_inB (i_x1 : Rg (0) (599999) (x1)) (by decide)) ?_
        refine s_hq (th_wI T q_r_9 (k := 25) (lo := (-2147483648)) (hi := (2147483647)) rfl ((rg_top _ : Rg (-2147483648) (2147483647) (((hI h r_9 x1.toNatClampNeg) + (1 : Int32)))) : Rg (-2147483648) (2147483647) (((hI h r_9 x1.toNatClampNeg) + (1 : Int32)))) (by decide) (by decide) (pm_a hA rfl)) (fun h_2q1 T_9 w_10 => ?_)
        exact s_some (T_9)
      · have _ := c_7
        have i_f_11 : Rg (1) (1) (x2) := rg_nlo c_7 i_x2 (rg_b rfl : Rg (0) (0) (0 : Int32))
        refine s_gd (by rw [ln 12 _ (by decide) e_r_9]; exact rg_inB (i_x1 : Rg (0) (599999) (x1)) (by decide)) ?_
        refine s_hq (th_wI T q_r_9 (k := 25) (lo := (-2147483648)) (hi := (2147483647)) rfl ((rg_top _ : Rg (-2147483648) (2147483647) (((hI h r_9 x1.toNatClampNeg) + (4096 : Int32)))) : Rg (-2147483648) (2147483647) (((hI h r_9 x1.toNatClampNeg) + (4096 : Int32)))) (by decide) (by decide) (pm_a hA rfl)) (fun h_2q2 T_12 w_13 => ?_)
        exact s_some (T_12)
    · have _ := c_4
      refine s_br (fun c_14 => ?_) (fun c_14 => ?_)
      · have _ := c_14
        have i_f_15 : Rg (0) (0) (x2) := rg_eq c_14 (rg_b rfl : Rg (0) (0) (0 : Int32))
        obtain ⟨r_6, e_r_6, q_r_6⟩ := thR T r_x0 (k := 1) (i := 12) (k2 := 25) rfl (by decide)
        refine s_ref e_r_6 ?_
        have pu_16 : (nI (hN h r_6)).toInt = 600000 := len_u12 ln r_6 e_r_6
        refine s_gd (by rw [ln 12 _ (by decide) e_r_6]; exact rg_inB (i_x1 : Rg (0) (599999) (x1)) (by decide)) ?_
        refine s_br (fun c_17 => ?_) (fun c_17 => ?_)
        · have _ := c_17
          have i_f_18 : Rg (0) (0) (((hI h r_6 x1.toNatClampNeg) &&& (16777216 : Int32))) := rg_eq c_17 (rg_b rfl : Rg (0) (0) (0 : Int32))
          exact zX0_touch_59 hF (pmA_s hA rfl) T r_x0 i_x1 ln
        · have _ := c_17
          have i_f_19 : Rg (1) (16777216) (((hI h r_6 x1.toNatClampNeg) &&& (16777216 : Int32))) := rg_nlo c_17 (rg_and (rg_b rfl : Rg (16777216) (16777216) ((16777216 : Int32))) (by decide) : Rg (0) (16777216) (((hI h r_6 x1.toNatClampNeg) &&& (16777216 : Int32)))) (rg_b rfl : Rg (0) (0) (0 : Int32))
          exact s_some (T)
      · have _ := c_14
        have i_f_20 : Rg (1) (1) (x2) := rg_nlo c_14 i_x2 (rg_b rfl : Rg (0) (0) (0 : Int32))
        exact zX0_touch_59 hF (pmA_s hA rfl) T r_x0 i_x1 ln
  · have _ := c_2
    exact s_some (T)
set_option maxRecDepth 20000 in
theorem zX0_weightOf_4 {ρ : Nat → Nat} {c : Cm} {h0 : Hp} {F : Nat} (hF : 700000 ≤ F) : ∀ (f : Nat) {h : Hp} {x0 : Nat} {x1 : Int32} {x2 : Int32} {x3 : Int32}, h = h0 → TH ρ c h → ρ x0 = 1 → Rg (-2) (23) (x1) → Rg (0) (5) (x2) → Rg (0) (5) (x3) → (0 ≤ x2.toInt ∧ x2.toInt ≤ x3.toInt) → (5 - x3.toInt).toNat < f → Sat (sX0_weightOf_4 F f h x0 x1 x2 x3) (ZI0 h0 (0) (1073741824)) := by
  intro f
  induction f with
  | zero => intros; omega
  | succ f ih =>
    intro h x0 x1 x2 x3 E T r_x0 i_x1 i_x2 i_x3 w2 hm
    rw [sX0_weightOf_4]
    unfold sX0_weightOf_46
    obtain ⟨C_4, hC_4⟩ : ∃ C : Int, C = x3.toInt := ⟨_, rfl⟩
    have hk_4 : ∀ {h : Hp} {x0 : Nat} {x1 : Int32} {x2 : Int32} {x3 : Int32}, h = h0 → TH ρ c h → ρ x0 = 1 → Rg (-2) (23) (x1) → Rg (0) (5) (x2) → Rg (0) (5) (x3) → (0 ≤ x2.toInt ∧ x2.toInt ≤ x3.toInt) → C_4 < x3.toInt → Sat (sX0_weightOf_4 F f h x0 x1 x2 x3) (ZI0 h0 (0) (1073741824)) := by
      intro h' x0' x1' x2' x3' E' T' r_x0' i_x1' i_x2' i_x3' w2' hl
      exact ih E' T' r_x0' i_x1' i_x2' i_x3' w2' (by have := i_x3'.1; have := i_x3'.2; omega)
    have hc_4 : C_4 ≤ x3.toInt := by omega
    refine s_br (fun c_1 => ?_) (fun c_1 => ?_)
    · have _ := c_1
      obtain ⟨r_2, e_r_2, q_r_2⟩ := thR T r_x0 (k := 1) (i := 6) (k2 := 22) rfl (by decide)
      refine s_ref e_r_2 ?_
      refine s_gd (by rw [thN T q_r_2 (k := 22) (n := 6) rfl (by decide)]; exact rg_inB (i_x2 : Rg (0) (5) (x2)) (by decide)) ?_
      exact s_some ⟨E, (thI T q_r_2 (k := 22) rfl : Rg (0) (1073741824) (hI h r_2 x2.toNatClampNeg))⟩
    · have _ := c_1
      have i_f_2 : Rg (0) (4) (x3) := rg_lt1 (nle_lt c_1) i_x3 (thI T r_x0 (k := 1) (i := 8) rfl : Rg (0) (5) ((hI h x0 8)))
      have i_f_3 : Rg (1) (5) ((hI h x0 8)) := rg_lt2 (nle_lt c_1) i_x3 (thI T r_x0 (k := 1) (i := 8) rfl : Rg (0) (5) ((hI h x0 8)))
      obtain ⟨r_4, e_r_4, q_r_4⟩ := thR T r_x0 (k := 1) (i := 7) (k2 := 23) rfl (by decide)
      refine s_ref e_r_4 ?_
      refine s_gd (by rw [thN T q_r_4 (k := 23) (n := 5) rfl (by decide)]; exact rg_inB (i_f_2 : Rg (0) (4) (x3)) (by decide)) ?_
      refine s_br (fun c_4 => ?_) (fun c_4 => ?_)
      · have _ := c_4
        exact s_some ⟨E, (rg_m (rg_b rfl : Rg (0) (0) ((0 : Int32))) (by decide))⟩
      · have _ := c_4
        refine s_ref e_r_4 ?_
        refine s_gd (by rw [thN T q_r_4 (k := 23) (n := 5) rfl (by decide)]; exact rg_inB (i_f_2 : Rg (0) (4) (x3)) (by decide)) ?_
        refine s_br (fun c_5 => ?_) (fun c_5 => ?_)
        · have _ := c_5
          refine s_q (fun v_1q1 e_6 => ?_)
          have i_v_1q1 : Rg (0) (5) (v_1q1) := by rw [e_6]; exact (rg_add i_x2 (rg_b rfl : Rg (0) (0) ((0 : Int32))) (by decide) : Rg (0) (5) (x2 + (0 : Int32)))
          refine s_q (fun v_2q1 e_7 => ?_)
          have i_v_2q1 : Rg (1) (5) (v_2q1) := by rw [e_7]; exact (rg_add i_f_2 (rg_b rfl : Rg (1) (1) ((1 : Int32))) (by decide) : Rg (1) (5) (x3 + (1 : Int32)))
          have m_8 : (v_2q1).toInt = x3.toInt + 1 := by rw [e_7]; exact rg_inc i_f_2 (by decide)
          exact hk_4 E T r_x0 i_x1 i_v_1q1 (rg_m i_v_2q1 (by decide)) (show 0 ≤ (v_1q1).toInt ∧ (v_1q1).toInt ≤ (v_2q1).toInt from (by have := (i_v_1q1 : Rg (0) (5) (v_1q1)).1; have := (i_v_1q1 : Rg (0) (5) (v_1q1)).2; have : (v_1q1).toInt = (x2 + (0 : Int32) : Int32).toInt := congrArg Int32.toInt e_6; have : (x2 + (0 : Int32) : Int32).toInt = (x2 : Int32).toInt + ((0 : Int32) : Int32).toInt := ti_add (i_x2 : Rg (0) (5) (x2)) ((rg_b rfl : Rg (0) (0) ((0 : Int32))) : Rg (0) (0) ((0 : Int32))) (by decide); have := (i_x2 : Rg (0) (5) (x2)).1; have := (i_x2 : Rg (0) (5) (x2)).2; have : ((0 : Int32)).toInt = 0 := rfl; have := (i_v_2q1 : Rg (1) (5) (v_2q1)).1; have := (i_v_2q1 : Rg (1) (5) (v_2q1)).2; have : (v_2q1).toInt = (x3 + (1 : Int32) : Int32).toInt := congrArg Int32.toInt e_7; have : (x3 + (1 : Int32) : Int32).toInt = (x3 : Int32).toInt + ((1 : Int32) : Int32).toInt := ti_add (i_f_2 : Rg (0) (4) (x3)) ((rg_b rfl : Rg (1) (1) ((1 : Int32))) : Rg (1) (1) ((1 : Int32))) (by decide); have := (i_f_2 : Rg (0) (4) (x3)).1; have := (i_f_2 : Rg (0) (4) (x3)).2; have : ((1 : Int32)).toInt = 1 := rfl; have := nle_i c_1; have := (i_f_3 : Rg (1) (5) ((hI h x0 8))).1; have := (i_f_3 : Rg (1) (5) ((hI h x0 8))).2; have := ne_i c_4; have hq_ := ((rg_shrk 6 (by decide) (thI T q_r_4 (k := 23) rfl : Rg (0) (2047) ((hI h r_4 x3.toNatClampNeg))) (by decide) : Rg (0) (31) (((hI h r_4 x3.toNatClampNeg) >>> ((6 : Int32) &&& 31)))) : Rg (0) (31) (((hI h r_4 x3.toNatClampNeg) >>> ((6 : Int32) &&& 31)))); have := hq_.1; have := hq_.2; have := (i_x1 : Rg (-2) (23) (x1)).1; have := (i_x1 : Rg (-2) (23) (x1)).2; have := le_i c_5; omega)) (by have := hc_4; omega)
        · have _ := c_5
          have i_f_9 : Rg (0) (22) (((hI h r_4 x3.toNatClampNeg) >>> ((6 : Int32) &&& 31))) := rg_lt1 (nle_lt c_5) (rg_shrk 6 (by decide) (thI T q_r_4 (k := 23) rfl : Rg (0) (2047) ((hI h r_4 x3.toNatClampNeg))) (by decide) : Rg (0) (31) (((hI h r_4 x3.toNatClampNeg) >>> ((6 : Int32) &&& 31)))) i_x1
          have i_f_10 : Rg (1) (23) (x1) := rg_lt2 (nle_lt c_5) (rg_shrk 6 (by decide) (thI T q_r_4 (k := 23) rfl : Rg (0) (2047) ((hI h r_4 x3.toNatClampNeg))) (by decide) : Rg (0) (31) (((hI h r_4 x3.toNatClampNeg) >>> ((6 : Int32) &&& 31)))) i_x1
          refine s_q (fun v_1q2 e_11 => ?_)
          have i_v_1q2 : Rg (1) (6) (v_1q2) := by rw [e_11]; exact (rg_add i_x2 (rg_b rfl : Rg (1) (1) ((1 : Int32))) (by decide) : Rg (1) (6) (x2 + (1 : Int32)))
          refine s_q (fun v_2q2 e_12 => ?_)
          have i_v_2q2 : Rg (1) (5) (v_2q2) := by rw [e_12]; exact (rg_add i_f_2 (rg_b rfl : Rg (1) (1) ((1 : Int32))) (by decide) : Rg (1) (5) (x3 + (1 : Int32)))
          have og_13 : Rg (0) (5) (v_1q2) := ⟨(by have := (i_v_1q2 : Rg (1) (6) (v_1q2)).1; have := (i_v_1q2 : Rg (1) (6) (v_1q2)).2; have : (v_1q2).toInt = (x2 + (1 : Int32) : Int32).toInt := congrArg Int32.toInt e_11; have : (x2 + (1 : Int32) : Int32).toInt = (x2 : Int32).toInt + ((1 : Int32) : Int32).toInt := ti_add (i_x2 : Rg (0) (5) (x2)) ((rg_b rfl : Rg (1) (1) ((1 : Int32))) : Rg (1) (1) ((1 : Int32))) (by decide); have := (i_x2 : Rg (0) (5) (x2)).1; have := (i_x2 : Rg (0) (5) (x2)).2; have : ((1 : Int32)).toInt = 1 := rfl; have := (i_f_2 : Rg (0) (4) (x3)).1; have := (i_f_2 : Rg (0) (4) (x3)).2; have := nle_i c_1; have := (i_f_3 : Rg (1) (5) ((hI h x0 8))).1; have := (i_f_3 : Rg (1) (5) ((hI h x0 8))).2; have := ne_i c_4; have := (i_f_9 : Rg (0) (22) (((hI h r_4 x3.toNatClampNeg) >>> ((6 : Int32) &&& 31)))).1; have := (i_f_9 : Rg (0) (22) (((hI h r_4 x3.toNatClampNeg) >>> ((6 : Int32) &&& 31)))).2; have := (i_f_10 : Rg (1) (23) (x1)).1; have := (i_f_10 : Rg (1) (23) (x1)).2; have := nle_i c_5; omega), (by have := (i_v_1q2 : Rg (1) (6) (v_1q2)).1; have := (i_v_1q2 : Rg (1) (6) (v_1q2)).2; have : (v_1q2).toInt = (x2 + (1 : Int32) : Int32).toInt := congrArg Int32.toInt e_11; have : (x2 + (1 : Int32) : Int32).toInt = (x2 : Int32).toInt + ((1 : Int32) : Int32).toInt := ti_add (i_x2 : Rg (0) (5) (x2)) ((rg_b rfl : Rg (1) (1) ((1 : Int32))) : Rg (1) (1) ((1 : Int32))) (by decide); have := (i_x2 : Rg (0) (5) (x2)).1; have := (i_x2 : Rg (0) (5) (x2)).2; have : ((1 : Int32)).toInt = 1 := rfl; have := (i_f_2 : Rg (0) (4) (x3)).1; have := (i_f_2 : Rg (0) (4) (x3)).2; have := nle_i c_1; have := (i_f_3 : Rg (1) (5) ((hI h x0 8))).1; have := (i_f_3 : Rg (1) (5) ((hI h x0 8))).2; have := ne_i c_4; have := (i_f_9 : Rg (0) (22) (((hI h r_4 x3.toNatClampNeg) >>> ((6 : Int32) &&& 31)))).1; have := (i_f_9 : Rg (0) (22) (((hI h r_4 x3.toNatClampNeg) >>> ((6 : Int32) &&& 31)))).2; have := (i_f_10 : Rg (1) (23) (x1)).1; have := (i_f_10 : Rg (1) (23) (x1)).2; have := nle_i c_5; omega)⟩
          have m_14 : (v_2q2).toInt = x3.toInt + 1 := by rw [e_12]; exact rg_inc i_f_2 (by decide)
          exact hk_4 E T r_x0 (rg_m i_f_10 (by decide)) og_13 (rg_m i_v_2q2 (by decide)) (show 0 ≤ (v_1q2).toInt ∧ (v_1q2).toInt ≤ (v_2q2).toInt from (by have := (i_v_1q2 : Rg (1) (6) (v_1q2)).1; have := (i_v_1q2 : Rg (1) (6) (v_1q2)).2; have : (v_1q2).toInt = (x2 + (1 : Int32) : Int32).toInt := congrArg Int32.toInt e_11; have : (x2 + (1 : Int32) : Int32).toInt = (x2 : Int32).toInt + ((1 : Int32) : Int32).toInt := ti_add (i_x2 : Rg (0) (5) (x2)) ((rg_b rfl : Rg (1) (1) ((1 : Int32))) : Rg (1) (1) ((1 : Int32))) (by decide); have := (i_x2 : Rg (0) (5) (x2)).1; have := (i_x2 : Rg (0) (5) (x2)).2; have : ((1 : Int32)).toInt = 1 := rfl; have := (i_v_2q2 : Rg (1) (5) (v_2q2)).1; have := (i_v_2q2 : Rg (1) (5) (v_2q2)).2; have : (v_2q2).toInt = (x3 + (1 : Int32) : Int32).toInt := congrArg Int32.toInt e_12; have : (x3 + (1 : Int32) : Int32).toInt = (x3 : Int32).toInt + ((1 : Int32) : Int32).toInt := ti_add (i_f_2 : Rg (0) (4) (x3)) ((rg_b rfl : Rg (1) (1) ((1 : Int32))) : Rg (1) (1) ((1 : Int32))) (by decide); have := (i_f_2 : Rg (0) (4) (x3)).1; have := (i_f_2 : Rg (0) (4) (x3)).2; have := nle_i c_1; have := (i_f_3 : Rg (1) (5) ((hI h x0 8))).1; have := (i_f_3 : Rg (1) (5) ((hI h x0 8))).2; have := ne_i c_4; have := (i_f_9 : Rg (0) (22) (((hI h r_4 x3.toNatClampNeg) >>> ((6 : Int32) &&& 31)))).1; have := (i_f_9 : Rg (0) (22) (((hI h r_4 x3.toNatClampNeg) >>> ((6 : Int32) &&& 31)))).2; have := (i_f_10 : Rg (1) (23) (x1)).1; have := (i_f_10 : Rg (1) (23) (x1)).2; have := nle_i c_5; omega)) (by have := hc_4; omega)
set_option maxRecDepth 20000 in
theorem zX0_weightOf {ρ : Nat → Nat} {c : Cm} {F : Nat} (hF : 700000 ≤ F) {h : Hp} {x0 : Nat} {x1 : Int32} (T : TH ρ c h) (r_x0 : ρ x0 = 1) (i_x1 : Rg (-2) (23) (x1)) : Sat (sX0_weightOf F h x0 x1) (ZI0 h (0) (1073741824)) := by
  unfold sX0_weightOf 
  have m_1 : Rg (0) (5) ((0 : Int32)) := (rg_m (rg_b rfl : Rg (0) (0) ((0 : Int32))) (by decide))
  exact zX0_weightOf_4 hF F rfl T r_x0 i_x1 (rg_m (rg_b rfl : Rg (0) (0) ((0 : Int32))) (by decide)) (rg_m (rg_b rfl : Rg (0) (0) ((0 : Int32))) (by decide)) (show 0 ≤ ((0 : Int32)).toInt ∧ ((0 : Int32)).toInt ≤ ((0 : Int32)).toInt from (by have : ((0 : Int32)).toInt = 0 := rfl; omega)) (by have := m_1.1; have := m_1.2; omega)
set_option maxRecDepth 20000 in
theorem zX10_isOpen {ρ : Nat → Nat} {c : Cm} {F : Nat} (hF : 700000 ≤ F) {h : Hp} {x0 : Nat} {x1 : Int32} {x2 : Int64} (T : TH ρ c h) (r_x0 : ρ x0 = 11) (i_x1 : Rg (0) (172031) (x1)) : Sat (sX10_isOpen h x0 x1 x2) (ZI0 h (0) (1)) := by
  unfold sX10_isOpen sX10_isOpen_37 sX10_isOpen_61 sX10_isOpen_62
  obtain ⟨r_1, e_r_1, q_r_1⟩ := thR T r_x0 (k := 11) (i := 2) (k2 := 52) rfl (by decide)
  refine s_ref e_r_1 ?_
  refine s_gd (by rw [thN T q_r_1 (k := 52) (n := 172032) rfl (by decide)]; exact rg_inB (i_x1 : Rg (0) (172031) (x1)) (by decide)) ?_
  refine s_q (fun v_3 e_1 => ?_)
  obtain ⟨r_4, e_r_4, q_r_4⟩ := thR T r_x0 (k := 11) (i := 1) (k2 := 51) rfl (by decide)
  refine s_ref e_r_4 ?_
  refine s_gd (by rw [thN T q_r_4 (k := 51) (n := 172032) rfl (by decide)]; exact rg_inB (i_x1 : Rg (0) (172031) (x1)) (by decide)) ?_
  refine s_br (fun c_2 => ?_) (fun c_2 => ?_)
  · have _ := c_2
    have i_f_3 : Rg (0) (0) ((((hI h r_4 x1.toNatClampNeg) >>> ((6 : Int32) &&& 31)) &&& (8 : Int32))) := rg_eq c_2 (rg_b rfl : Rg (0) (0) (0 : Int32))
    refine s_br (fun c_4 => ?_) (fun c_4 => ?_)
    · have _ := c_4
      refine s_gd (rg_bool (rg_m (rg_b rfl : Rg (1) (1) ((1 : Int32))) (by decide))) ?_
      exact s_some ⟨rfl, (rg_m (rg_b rfl : Rg (1) (1) ((1 : Int32))) (by decide))⟩
    · have _ := c_4
      refine s_gd (rg_bool (rg_m (rg_b rfl : Rg (0) (0) ((0 : Int32))) (by decide))) ?_
      exact s_some ⟨rfl, (rg_m (rg_b rfl : Rg (0) (0) ((0 : Int32))) (by decide))⟩
  · have _ := c_2
    have i_f_5 : Rg (1) (8) ((((hI h r_4 x1.toNatClampNeg) >>> ((6 : Int32) &&& 31)) &&& (8 : Int32))) := rg_nlo c_2 (rg_and (rg_b rfl : Rg (8) (8) ((8 : Int32))) (by decide) : Rg (0) (8) ((((hI h r_4 x1.toNatClampNeg) >>> ((6 : Int32) &&& 31)) &&& (8 : Int32)))) (rg_b rfl : Rg (0) (0) (0 : Int32))
    refine s_br (fun c_6 => ?_) (fun c_6 => ?_)
    · have _ := c_6
      refine s_gd (rg_bool (rg_m (rg_b rfl : Rg (0) (0) ((0 : Int32))) (by decide))) ?_
      exact s_some ⟨rfl, (rg_m (rg_b rfl : Rg (0) (0) ((0 : Int32))) (by decide))⟩
    · have _ := c_6
      refine s_br (fun c_7 => ?_) (fun c_7 => ?_)
      · have _ := c_7
        refine s_gd (rg_bool (rg_m (rg_b rfl : Rg (1) (1) ((1 : Int32))) (by decide))) ?_
        exact s_some ⟨rfl, (rg_m (rg_b rfl : Rg (1) (1) ((1 : Int32))) (by decide))⟩
      · have _ := c_7
        refine s_gd (rg_bool (rg_m (rg_b rfl : Rg (0) (0) ((0 : Int32))) (by decide))) ?_
        exact s_some ⟨rfl, (rg_m (rg_b rfl : Rg (0) (0) ((0 : Int32))) (by decide))⟩
set_option maxRecDepth 20000 in
theorem zX10_origins_116 {ρ : Nat → Nat} {c : Cm} {h0 : Hp} {F : Nat} (hF : 700000 ≤ F) {k_45 : Hp → Nat → Int64 → Int64 → Int32 → Int64 → Int32 → Int32 → Option (Int64 × Hp)} {C_45 : Int} (hk_45 : ∀ {h : Hp} {x0 : Nat} {x4 : Int64} {x6 : Int64} {x8 : Int32} {x9 : Int64} {x11 : Int32} {x12 : Int32}, h = h0 → TH ρ c h → ρ x0 = 11 → Rg (1) (2) (x8) → Rg (0) (94271) (x11) → Rg (0) (64) (x12) → C_45 < x12.toInt → Sat (k_45 h x0 x4 x6 x8 x9 x11 x12) (ZJ0 h0)) : ∀ (f : Nat) {h : Hp} {x0 : Nat} {x4 : Int64} {x6 : Int64} {x8 : Int32} {x9 : Int64} {x11 : Int32} {x12 : Int32} {x13 : Int64} {x16 : Int32} {x17 : Int32}, h = h0 → TH ρ c h → ρ x0 = 11 → Rg (1) (2) (x8) → Rg (0) (94271) (x11) → Rg (0) (63) (x12) → Rg (0) (172032) (x16) → Rg (0) (172032) (x17) → C_45 ≤ x12.toInt → (172032 - x17.toInt).toNat < f → Sat (sX10_origins_116 F k_45 f h x0 x4 x6 x8 x9 x11 x12 x13 x16 x17) (ZJ0 h0) := by
  intro f
  induction f with
  | zero => intros; omega
  | succ f ih =>
    intro h x0 x4 x6 x8 x9 x11 x12 x13 x16 x17 E T r_x0 i_x8 i_x11 i_x12 i_x16 i_x17 hc_45 hm
    rw [sX10_origins_116]
    unfold sX10_origins_157
    obtain ⟨C_116, hC_116⟩ : ∃ C : Int, C = x17.toInt := ⟨_, rfl⟩
    have hk_116 : ∀ {h : Hp} {x0 : Nat} {x4 : Int64} {x6 : Int64} {x8 : Int32} {x9 : Int64} {x11 : Int32} {x12 : Int32} {x13 : Int64} {x16 : Int32} {x17 : Int32}, h = h0 → TH ρ c h → ρ x0 = 11 → Rg (1) (2) (x8) → Rg (0) (94271) (x11) → Rg (0) (63) (x12) → Rg (0) (172032) (x16) → Rg (0) (172032) (x17) → C_45 ≤ x12.toInt → C_116 < x17.toInt → Sat (sX10_origins_116 F k_45 f h x0 x4 x6 x8 x9 x11 x12 x13 x16 x17) (ZJ0 h0) := by
      intro h' x0' x4' x6' x8' x9' x11' x12' x13' x16' x17' E' T' r_x0' i_x8' i_x11' i_x12' i_x16' i_x17' hc_45' hl
      exact ih E' T' r_x0' i_x8' i_x11' i_x12' i_x16' i_x17' hc_45' (by have := i_x17'.1; have := i_x17'.2; omega)
    have hc_116 : C_116 ≤ x17.toInt := by omega
    refine s_br (fun c_1 => ?_) (fun c_1 => ?_)
    · have _ := c_1
      refine s_q (fun v_2 e_2 => ?_)
      have i_v_2 : Rg (1) (64) (v_2) := by rw [e_2]; exact (rg_add i_x12 (rg_b rfl : Rg (1) (1) ((1 : Int32))) (by decide) : Rg (1) (64) (x12 + (1 : Int32)))
      have m_3 : (v_2).toInt = x12.toInt + 1 := by rw [e_2]; exact rg_inc i_x12 (by decide)
      exact hk_45 E T r_x0 i_x8 i_x11 (rg_m i_v_2 (by decide)) (by have := hc_45; omega)
    · have _ := c_1
      have i_f_4 : Rg (0) (172031) (x17) := rg_lt1 (nle_lt c_1) i_x17 i_x16
      have i_f_5 : Rg (1) (172032) (x16) := rg_lt2 (nle_lt c_1) i_x17 i_x16
      obtain ⟨r_3, e_r_3, q_r_3⟩ := thR T r_x0 (k := 11) (i := 1) (k2 := 51) rfl (by decide)
      refine s_ref e_r_3 ?_
      refine s_gd (by rw [thN T q_r_3 (k := 51) (n := 172032) rfl (by decide)]; exact rg_inB (i_f_4 : Rg (0) (172031) (x17)) (by decide)) ?_
      refine s_br (fun c_6 => ?_) (fun c_6 => ?_)
      · have _ := c_6
        have i_f_7 : Rg (0) (0) ((((hI h r_3 x17.toNatClampNeg) >>> ((6 : Int32) &&& 31)) &&& x8)) := rg_eq c_6 (rg_b rfl : Rg (0) (0) (0 : Int32))
        refine s_dI0 (zX10_isOpen hF T r_x0 i_f_4) (fun o_6 eb_o_6 e_o_6 i_o_6 => ?_)
        have T_8 := th_eq e_o_6 T
        refine s_br (fun c_9 => ?_) (fun c_9 => ?_)
        · have _ := c_9
          have i_f_10 : Rg (0) (0) (o_6.1) := rg_eq c_9 (rg_b rfl : Rg (0) (0) (0 : Int32))
          refine s_q (fun v_1q1 e_11 => ?_)
          have i_v_1q1 : Rg (1) (172032) (v_1q1) := by rw [e_11]; exact (rg_add i_f_4 (rg_b rfl : Rg (1) (1) ((1 : Int32))) (by decide) : Rg (1) (172032) (x17 + (1 : Int32)))
          have m_12 : (v_1q1).toInt = x17.toInt + 1 := by rw [e_11]; exact rg_inc i_f_4 (by decide)
          exact hk_116 (e_o_6.trans E) T_8 r_x0 i_x8 i_x11 i_x12 (rg_m i_f_5 (by decide)) (rg_m i_v_1q1 (by decide)) hc_45 (by have := hc_116; omega)
        · have _ := c_9
          have i_f_13 : Rg (1) (1) (o_6.1) := rg_nlo c_9 i_o_6 (rg_b rfl : Rg (0) (0) (0 : Int32))
          refine s_q (fun v_8 e_14 => ?_)
          refine s_q (fun v_1q2 e_15 => ?_)
          have i_v_1q2 : Rg (1) (172032) (v_1q2) := by rw [e_15]; exact (rg_add i_f_4 (rg_b rfl : Rg (1) (1) ((1 : Int32))) (by decide) : Rg (1) (172032) (x17 + (1 : Int32)))
          have m_16 : (v_1q2).toInt = x17.toInt + 1 := by rw [e_15]; exact rg_inc i_f_4 (by decide)
          exact hk_116 (e_o_6.trans E) T_8 r_x0 i_x8 i_x11 i_x12 (rg_m i_f_5 (by decide)) (rg_m i_v_1q2 (by decide)) hc_45 (by have := hc_116; omega)
      · have _ := c_6
        have i_f_17 : Rg (1) (2) ((((hI h r_3 x17.toNatClampNeg) >>> ((6 : Int32) &&& 31)) &&& x8)) := rg_nlo c_6 (rg_and i_x8 (by decide) : Rg (0) (2) ((((hI h r_3 x17.toNatClampNeg) >>> ((6 : Int32) &&& 31)) &&& x8))) (rg_b rfl : Rg (0) (0) (0 : Int32))
        refine s_q (fun v_1q3 e_18 => ?_)
        have i_v_1q3 : Rg (1) (172032) (v_1q3) := by rw [e_18]; exact (rg_add i_f_4 (rg_b rfl : Rg (1) (1) ((1 : Int32))) (by decide) : Rg (1) (172032) (x17 + (1 : Int32)))
        have m_19 : (v_1q3).toInt = x17.toInt + 1 := by rw [e_18]; exact rg_inc i_f_4 (by decide)
        exact hk_116 E T r_x0 i_x8 i_x11 i_x12 (rg_m i_f_5 (by decide)) (rg_m i_v_1q3 (by decide)) hc_45 (by have := hc_116; omega)
set_option maxRecDepth 20000 in
theorem zX10_origins_45 {ρ : Nat → Nat} {c : Cm} {h0 : Hp} {F : Nat} (hF : 700000 ≤ F) : ∀ (f : Nat) {h : Hp} {x0 : Nat} {x4 : Int64} {x6 : Int64} {x8 : Int32} {x9 : Int64} {x11 : Int32} {x12 : Int32}, h = h0 → TH ρ c h → ρ x0 = 11 → Rg (1) (2) (x8) → Rg (0) (94271) (x11) → Rg (0) (64) (x12) → (64 - x12.toInt).toNat < f → Sat (sX10_origins_45 F f h x0 x4 x6 x8 x9 x11 x12) (ZJ0 h0) := by
  intro f
  induction f with
  | zero => intros; omega
  | succ f ih =>
    intro h x0 x4 x6 x8 x9 x11 x12 E T r_x0 i_x8 i_x11 i_x12 hm
    rw [sX10_origins_45]
    unfold sX10_origins_169
    obtain ⟨C_45, hC_45⟩ : ∃ C : Int, C = x12.toInt := ⟨_, rfl⟩
    have hk_45 : ∀ {h : Hp} {x0 : Nat} {x4 : Int64} {x6 : Int64} {x8 : Int32} {x9 : Int64} {x11 : Int32} {x12 : Int32}, h = h0 → TH ρ c h → ρ x0 = 11 → Rg (1) (2) (x8) → Rg (0) (94271) (x11) → Rg (0) (64) (x12) → C_45 < x12.toInt → Sat (sX10_origins_45 F f h x0 x4 x6 x8 x9 x11 x12) (ZJ0 h0) := by
      intro h' x0' x4' x6' x8' x9' x11' x12' E' T' r_x0' i_x8' i_x11' i_x12' hl
      exact ih E' T' r_x0' i_x8' i_x11' i_x12' (by have := i_x12'.1; have := i_x12'.2; omega)
    have hc_45 : C_45 ≤ x12.toInt := by omega
    refine s_br (fun c_1 => ?_) (fun c_1 => ?_)
    · have _ := c_1
      have i_f_2 : Rg (64) (64) (x12) := rg_le2 c_1 (rg_b rfl : Rg (64) (64) ((64 : Int32))) i_x12
      exact s_some E
    · have _ := c_1
      have i_f_3 : Rg (0) (63) (x12) := rg_lt1 (nle_lt c_1) i_x12 (rg_b rfl : Rg (64) (64) ((64 : Int32)))
      refine s_br (fun c_4 => ?_) (fun c_4 => ?_)
      · have _ := c_4
        exact s_some E
      · have _ := c_4
        refine s_q (fun v_3 e_5 => ?_)
        refine s_q (fun v_4 e_6 => ?_)
        refine s_gd (rg_inB ((rg_58 _ : Rg (0) (63) (((((v_3 * (285870213051386505 : Int64)).toUInt64 >>> ((58 : Int32).toInt64.toUInt64 &&& Int64.toUInt64 63)).toInt64).toInt32))) : Rg (0) (63) (((((v_3 * (285870213051386505 : Int64)).toUInt64 >>> ((58 : Int32).toInt64.toUInt64 &&& Int64.toUInt64 63)).toInt64).toInt32))) (by decide)) ?_
        refine s_q (fun v_6 e_7 => ?_)
        have i_v_6 : Rg (0) (98303) (v_6) := by rw [e_7]; exact (rg_add i_x11 (rg_mulc (rg_sq _ : Rg (0) (63) ((sqT.getD ((((v_3 * (285870213051386505 : Int64)).toUInt64 >>> ((58 : Int32).toInt64.toUInt64 &&& Int64.toUInt64 63)).toInt64).toInt32).toNatClampNeg 0))) (rg_b rfl : Rg (64) (64) ((64 : Int32))) (by decide) : Rg (0) (4032) (((sqT.getD ((((v_3 * (285870213051386505 : Int64)).toUInt64 >>> ((58 : Int32).toInt64.toUInt64 &&& Int64.toUInt64 63)).toInt64).toInt32).toNatClampNeg 0) * (64 : Int32)))) (by decide) : Rg (0) (98303) (x11 + ((sqT.getD ((((v_3 * (285870213051386505 : Int64)).toUInt64 >>> ((58 : Int32).toInt64.toUInt64 &&& Int64.toUInt64 63)).toInt64).toInt32).toNatClampNeg 0) * (64 : Int32))))
        obtain ⟨r_7, e_r_7, q_r_7⟩ := thR T r_x0 (k := 11) (i := 0) (k2 := 50) rfl (by decide)
        refine s_ref e_r_7 ?_
        refine s_gd (by rw [thN T q_r_7 (k := 50) (n := 98305) rfl (by decide)]; exact rg_inB ((rg_m (rg_add i_v_6 (rg_b rfl : Rg (1) (1) ((1 : Int32))) (by decide) : Rg (1) (98304) ((v_6 + (1 : Int32)))) (by decide)) : Rg (0) (98304) ((v_6 + (1 : Int32)))) (by decide)) ?_
        refine s_q (fun v_9 e_8 => ?_)
        have i_v_9 : Rg (0) (172032) (v_9) := by rw [e_8]; exact (thI T q_r_7 (k := 50) rfl : Rg (0) (172032) (hI h r_7 (v_6 + (1 : Int32)).toNatClampNeg))
        refine s_ref e_r_7 ?_
        refine s_gd (by rw [thN T q_r_7 (k := 50) (n := 98305) rfl (by decide)]; exact rg_inB ((rg_m i_v_6 (by decide)) : Rg (0) (98304) (v_6)) (by decide)) ?_
        refine s_q (fun v_12 e_9 => ?_)
        have i_v_12 : Rg (0) (172032) (v_12) := by rw [e_9]; exact (thI T q_r_7 (k := 50) rfl : Rg (0) (172032) (hI h r_7 v_6.toNatClampNeg))
        have m_10 : Rg (0) (172032) (v_12) := i_v_12
        exact zX10_origins_116 hF @hk_45 F E T r_x0 i_x8 i_x11 i_f_3 i_v_9 i_v_12 hc_45 (by have := m_10.1; have := m_10.2; omega)
set_option maxRecDepth 20000 in
theorem zX10_origins_12 {ρ : Nat → Nat} {c : Cm} {h0 : Hp} {F : Nat} (hF : 700000 ≤ F) {h : Hp} {x0 : Nat} {x1 : Int32} {x2 : Int32} {x4 : Int64} {x6 : Int64} {t0 : Int32} (E : h = h0) (T : TH ρ c h) (r_x0 : ρ x0 = 11) (i_x1 : Rg (0) (23) (x1)) (i_x2 : Rg (0) (63) (x2)) (i_t0 : Rg (1) (2) (t0)) : Sat (sX10_origins_12 F h x0 x1 x2 x4 x6 t0) (ZJ0 h0) := by
  unfold sX10_origins_12 sX10_cell
  obtain ⟨r_1, e_r_1, q_r_1⟩ := thR T r_x0 (k := 11) (i := 3) (k2 := 53) rfl (by decide)
  refine s_ref e_r_1 ?_
  refine s_gd (by rw [thN T q_r_1 (k := 53) (n := 1536) rfl (by decide)]; exact rg_inB ((rg_add (rg_mulc i_x1 (rg_b rfl : Rg (64) (64) ((64 : Int32))) (by decide) : Rg (0) (1472) ((x1 * (64 : Int32)))) i_x2 (by decide) : Rg (0) (1535) (((x1 * (64 : Int32)) + x2))) : Rg (0) (1535) (((x1 * (64 : Int32)) + x2))) (by decide)) ?_
  refine s_q (fun v_3 e_1 => ?_)
  refine s_pu (fun o_4z e_2 => ?_)
  try dsimp only
  have i_o_4z : Rg (0) (94271) (o_4z) := by rw [e_2]; exact (rg_add (rg_mulc (rg_add (rg_mulc i_x1 (rg_b rfl : Rg (64) (64) ((64 : Int32))) (by decide) : Rg (0) (1472) ((x1 * (64 : Int32)))) (rg_b rfl : Rg (0) (0) ((0 : Int32))) (by decide) : Rg (0) (1472) (((x1 * (64 : Int32)) + (0 : Int32)))) (rg_b rfl : Rg (64) (64) ((64 : Int32))) (by decide) : Rg (0) (94208) ((((x1 * (64 : Int32)) + (0 : Int32)) * (64 : Int32)))) i_x2 (by decide) : Rg (0) (94271) ((((x1 * (64 : Int32)) + (0 : Int32)) * (64 : Int32)) + x2))
  have m_3 : Rg (0) (64) ((0 : Int32)) := (rg_m (rg_b rfl : Rg (0) (0) ((0 : Int32))) (by decide))
  exact zX10_origins_45 hF F E T r_x0 i_t0 i_o_4z (rg_m (rg_b rfl : Rg (0) (0) ((0 : Int32))) (by decide)) (by have := m_3.1; have := m_3.2; omega)
set_option maxRecDepth 20000 in
theorem zX10_origins {ρ : Nat → Nat} {c : Cm} {F : Nat} (hF : 700000 ≤ F) {h : Hp} {x0 : Nat} {x1 : Int32} {x2 : Int32} {x3 : Int32} {x4 : Int64} (T : TH ρ c h) (r_x0 : ρ x0 = 11) (i_x1 : Rg (0) (23) (x1)) (i_x2 : Rg (0) (63) (x2)) (i_x3 : Rg (0) (1) (x3)) : Sat (sX10_origins F h x0 x1 x2 x3 x4) (ZJ0 h) := by
  unfold sX10_origins 
  refine s_br (fun c_1 => ?_) (fun c_1 => ?_)
  · have _ := c_1
    have i_f_2 : Rg (0) (0) (x3) := rg_eq c_1 (rg_b rfl : Rg (0) (0) (0 : Int32))
    exact zX10_origins_12 hF rfl T r_x0 i_x1 i_x2 (rg_m (rg_b rfl : Rg (2) (2) ((2 : Int32))) (by decide))
  · have _ := c_1
    have i_f_3 : Rg (1) (1) (x3) := rg_nlo c_1 i_x3 (rg_b rfl : Rg (0) (0) (0 : Int32))
    exact zX10_origins_12 hF rfl T r_x0 i_x1 i_x2 (rg_m (rg_b rfl : Rg (1) (1) ((1 : Int32))) (by decide))
set_option maxRecDepth 20000 in
theorem zX1_becomesThis_2 {ρ : Nat → Nat} {c : Cm} {h0 : Hp} {F : Nat} (hF : 700000 ≤ F) : ∀ (f : Nat) {h : Hp} {x0 : Nat} {x1 : Int32} {x2 : Int32} {x3 : Int32}, h = h0 → TH ρ c h → ρ x0 = 2 → Rg (0) (11) (x1) → Rg (-1) (11) (x2) → Rg (0) (6) (x3) → (6 - x3.toInt).toNat < f → Sat (sX1_becomesThis_2 F f h x0 x1 x2 x3) (ZI0 h0 (0) (1)) := by
  intro f
  induction f with
  | zero => intros; omega
  | succ f ih =>
    intro h x0 x1 x2 x3 E T r_x0 i_x1 i_x2 i_x3 hm
    rw [sX1_becomesThis_2]
    obtain ⟨C_2, hC_2⟩ : ∃ C : Int, C = x3.toInt := ⟨_, rfl⟩
    have hk_2 : ∀ {h : Hp} {x0 : Nat} {x1 : Int32} {x2 : Int32} {x3 : Int32}, h = h0 → TH ρ c h → ρ x0 = 2 → Rg (0) (11) (x1) → Rg (-1) (11) (x2) → Rg (0) (6) (x3) → C_2 < x3.toInt → Sat (sX1_becomesThis_2 F f h x0 x1 x2 x3) (ZI0 h0 (0) (1)) := by
      intro h' x0' x1' x2' x3' E' T' r_x0' i_x1' i_x2' i_x3' hl
      exact ih E' T' r_x0' i_x1' i_x2' i_x3' (by have := i_x3'.1; have := i_x3'.2; omega)
    have hc_2 : C_2 ≤ x3.toInt := by omega
    obtain ⟨r_1, e_r_1, q_r_1⟩ := thR T r_x0 (k := 2) (i := 18) (k2 := 31) rfl (by decide)
    refine s_ref e_r_1 ?_
    refine s_gd (by rw [thN T q_r_1 (k := 31) (n := 12) rfl (by decide)]; exact rg_inB (i_x1 : Rg (0) (11) (x1)) (by decide)) ?_
    refine s_br (fun c_1 => ?_) (fun c_1 => ?_)
    · have _ := c_1
      exact s_some ⟨E, (rg_m (rg_b rfl : Rg (0) (0) ((0 : Int32))) (by decide))⟩
    · have _ := c_1
      have i_f_2 : Rg (0) (5) (x3) := rg_lt1 (nle_lt c_1) i_x3 (thI T q_r_1 (k := 31) rfl : Rg (0) (6) ((hI h r_1 x1.toNatClampNeg)))
      have i_f_3 : Rg (1) (6) ((hI h r_1 x1.toNatClampNeg)) := rg_lt2 (nle_lt c_1) i_x3 (thI T q_r_1 (k := 31) rfl : Rg (0) (6) ((hI h r_1 x1.toNatClampNeg)))
      obtain ⟨r_4, e_r_4, q_r_4⟩ := thR T r_x0 (k := 2) (i := 17) (k2 := 30) rfl (by decide)
      refine s_ref e_r_4 ?_
      refine s_gd (by rw [thN T q_r_4 (k := 30) (n := 72) rfl (by decide)]; exact rg_inB ((rg_add (rg_mulc i_x1 (rg_b rfl : Rg (6) (6) ((6 : Int32))) (by decide) : Rg (0) (66) ((x1 * (6 : Int32)))) i_f_2 (by decide) : Rg (0) (71) (((x1 * (6 : Int32)) + x3))) : Rg (0) (71) (((x1 * (6 : Int32)) + x3))) (by decide)) ?_
      refine s_br (fun c_4 => ?_) (fun c_4 => ?_)
      · have _ := c_4
        have i_f_5 : Rg (0) (11) (x2) := rg_eq c_4.symm (thI T q_r_4 (k := 30) rfl : Rg (0) (11) ((hI h r_4 ((x1 * (6 : Int32)) + x3).toNatClampNeg)))
        exact s_some ⟨E, (rg_m (rg_b rfl : Rg (1) (1) ((1 : Int32))) (by decide))⟩
      · have _ := c_4
        refine s_q (fun v_7 e_6 => ?_)
        have i_v_7 : Rg (1) (6) (v_7) := by rw [e_6]; exact (rg_add i_f_2 (rg_b rfl : Rg (1) (1) ((1 : Int32))) (by decide) : Rg (1) (6) (x3 + (1 : Int32)))
        have m_7 : (v_7).toInt = x3.toInt + 1 := by rw [e_6]; exact rg_inc i_f_2 (by decide)
        exact hk_2 E T r_x0 i_x1 i_x2 (rg_m i_v_7 (by decide)) (by have := hc_2; omega)
set_option maxRecDepth 20000 in
theorem zX1_becomesThis {ρ : Nat → Nat} {c : Cm} {F : Nat} (hF : 700000 ≤ F) {h : Hp} {x0 : Nat} {x1 : Int32} {x2 : Int32} (T : TH ρ c h) (r_x0 : ρ x0 = 2) (i_x1 : Rg (0) (11) (x1)) (i_x2 : Rg (-1) (11) (x2)) : Sat (sX1_becomesThis F h x0 x1 x2) (ZI0 h (0) (1)) := by
  unfold sX1_becomesThis 
  have m_1 : Rg (0) (6) ((0 : Int32)) := (rg_m (rg_b rfl : Rg (0) (0) ((0 : Int32))) (by decide))
  exact zX1_becomesThis_2 hF F rfl T r_x0 i_x1 i_x2 (rg_m (rg_b rfl : Rg (0) (0) ((0 : Int32))) (by decide)) (by have := m_1.1; have := m_1.2; omega)
set_option maxRecDepth 20000 in
theorem zX1_has {ρ : Nat → Nat} {c : Cm} {F : Nat} (hF : 700000 ≤ F) {h : Hp} {x0 : Nat} {x1 : Int32} (T : TH ρ c h) (r_x0 : ρ x0 = 2) (i_x1 : Rg (1) (12) (x1)) : Sat (sX1_has h x0 x1) (ZI0 h (0) (1)) := by
  unfold sX1_has sX1_has_14
  refine s_br (fun c_1 => ?_) (fun c_1 => ?_)
  · have _ := c_1
    have i_f_2 : Rg (0) (0) (((hI h x0 10) &&& x1)) := rg_eq c_1 (rg_b rfl : Rg (0) (0) (0 : Int32))
    refine s_gd (rg_bool (rg_m (rg_b rfl : Rg (0) (0) ((0 : Int32))) (by decide))) ?_
    exact s_some ⟨rfl, (rg_m (rg_b rfl : Rg (0) (0) ((0 : Int32))) (by decide))⟩
  · have _ := c_1
    have i_f_3 : Rg (1) (12) (((hI h x0 10) &&& x1)) := rg_nlo c_1 (rg_and i_x1 (by decide) : Rg (0) (12) (((hI h x0 10) &&& x1))) (rg_b rfl : Rg (0) (0) (0 : Int32))
    refine s_gd (rg_bool (rg_m (rg_b rfl : Rg (1) (1) ((1 : Int32))) (by decide))) ?_
    exact s_some ⟨rfl, (rg_m (rg_b rfl : Rg (1) (1) ((1 : Int32))) (by decide))⟩
set_option maxRecDepth 20000 in
theorem zX1_isLast {ρ : Nat → Nat} {c : Cm} {F : Nat} (hF : 700000 ≤ F) {h : Hp} {x0 : Nat} {x1 : Int32} {x2 : Int32} (T : TH ρ c h) (r_x0 : ρ x0 = 2) (i_x1 : Rg (0) (63) (x1)) (i_x2 : Rg (0) (1) (x2)) : Sat (sX1_isLast h x0 x1 x2) (ZI0 h (0) (1)) := by
  unfold sX1_isLast sX1_isLast_20 sX1_isLast_28
  obtain ⟨r_1, e_r_1, q_r_1⟩ := thR T r_x0 (k := 2) (i := 20) (k2 := 33) rfl (by decide)
  refine s_ref e_r_1 ?_
  refine s_gd (by rw [thN T q_r_1 (k := 33) (n := 64) rfl (by decide)]; exact rg_inB (i_x1 : Rg (0) (63) (x1)) (by decide)) ?_
  refine s_br (fun c_1 => ?_) (fun c_1 => ?_)
  · have _ := c_1
    have i_f_2 : Rg (0) (0) (x2) := rg_eq c_1 (rg_b rfl : Rg (0) (0) (0 : Int32))
    refine s_br (fun c_3 => ?_) (fun c_3 => ?_)
    · have _ := c_3
      have i_f_4 : Rg (0) (7) (((hI h x0 1) - (1 : Int32))) := rg_eq c_3.symm (thI T q_r_1 (k := 33) rfl : Rg (0) (7) ((hI h r_1 x1.toNatClampNeg)))
      have i_f_5 : Rg (1) (8) ((hI h x0 1)) := rg_bks (i_f_4 : Rg (0) (7) (((hI h x0 1) - (1 : Int32)))) (thI T r_x0 (k := 2) (i := 1) rfl : Rg (0) (8) ((hI h x0 1))) (rg_b rfl : Rg (1) (1) ((1 : Int32))) (by decide)
      refine s_gd (rg_bool (rg_m (rg_b rfl : Rg (1) (1) ((1 : Int32))) (by decide))) ?_
      exact s_some ⟨rfl, (rg_m (rg_b rfl : Rg (1) (1) ((1 : Int32))) (by decide))⟩
    · have _ := c_3
      refine s_gd (rg_bool (rg_m (rg_b rfl : Rg (0) (0) ((0 : Int32))) (by decide))) ?_
      exact s_some ⟨rfl, (rg_m (rg_b rfl : Rg (0) (0) ((0 : Int32))) (by decide))⟩
  · have _ := c_1
    have i_f_6 : Rg (1) (1) (x2) := rg_nlo c_1 i_x2 (rg_b rfl : Rg (0) (0) (0 : Int32))
    refine s_br (fun c_7 => ?_) (fun c_7 => ?_)
    · have _ := c_7
      have i_f_8 : Rg (0) (0) ((hI h r_1 x1.toNatClampNeg)) := rg_eq c_7 (rg_b rfl : Rg (0) (0) ((0 : Int32)))
      refine s_gd (rg_bool (rg_m (rg_b rfl : Rg (1) (1) ((1 : Int32))) (by decide))) ?_
      exact s_some ⟨rfl, (rg_m (rg_b rfl : Rg (1) (1) ((1 : Int32))) (by decide))⟩
    · have _ := c_7
      have i_f_9 : Rg (1) (7) ((hI h r_1 x1.toNatClampNeg)) := rg_nlo c_7 (thI T q_r_1 (k := 33) rfl : Rg (0) (7) ((hI h r_1 x1.toNatClampNeg))) (rg_b rfl : Rg (0) (0) ((0 : Int32)))
      refine s_gd (rg_bool (rg_m (rg_b rfl : Rg (0) (0) ((0 : Int32))) (by decide))) ?_
      exact s_some ⟨rfl, (rg_m (rg_b rfl : Rg (0) (0) ((0 : Int32))) (by decide))⟩
set_option maxRecDepth 20000 in
theorem zX5_isHit_227 {ρ : Nat → Nat} {c : Cm} {h0 : Hp} {F : Nat} (hF : 700000 ≤ F) {k_26 : Hp → Nat → Nat → Int32 → Int64 → Int64 → Int32 → Option (Int32 × Hp)} {C_26 : Int} {k_133 : Hp → Nat → Nat → Int32 → Int64 → Int64 → Int32 → Int32 → Int32 → Option (Int32 × Hp)} {C_133 : Int} (hk_26 : ∀ {h : Hp} {x0 : Nat} {x1 : Nat} {x2 : Int32} {x4 : Int64} {x6 : Int64} {x8 : Int32}, h = h0 → TH ρ c h → ρ x0 = 6 → ρ x1 = 4 → Rg (0) (63) (x2) → Rg (0) (64) (x8) → (∀ on s, hR h x1 0 = some on → s < 64 → bitJ x6 s = true → 0 ≤ (hI h on s).toInt) → C_26 < x8.toInt → Sat (k_26 h x0 x1 x2 x4 x6 x8) (ZI0 h0 (0) (1))) (hk_133 : ∀ {h : Hp} {x0 : Nat} {x1 : Nat} {x2 : Int32} {x4 : Int64} {x6 : Int64} {x8 : Int32} {x13 : Int32} {x14 : Int32}, h = h0 → TH ρ c h → ρ x0 = 6 → ρ x1 = 4 → Rg (0) (63) (x2) → Rg (0) (63) (x8) → Rg (0) (98303) (x13) → Rg (0) (172032) (x14) → C_26 ≤ x8.toInt → (∀ on s, hR h x1 0 = some on → s < 64 → bitJ x6 s = true → 0 ≤ (hI h on s).toInt) → C_133 < x14.toInt → Sat (k_133 h x0 x1 x2 x4 x6 x8 x13 x14) (ZI0 h0 (0) (1))) {h : Hp} {x0 : Nat} {x1 : Nat} {x2 : Int32} {x4 : Int64} {x6 : Int64} {x8 : Int32} {x13 : Int32} {x14 : Int32} {x15 : Int32} {t0 : Int32} (E : h = h0) (T : TH ρ c h) (r_x0 : ρ x0 = 6) (r_x1 : ρ x1 = 4) (i_x2 : Rg (0) (63) (x2)) (i_x8 : Rg (0) (63) (x8)) (i_x13 : Rg (0) (98303) (x13)) (i_x14 : Rg (0) (172031) (x14)) (i_x15 : Rg (0) (511) (x15)) (i_t0 : Rg (0) (1) (t0)) (hc_26 : C_26 ≤ x8.toInt) (hc_133 : C_133 ≤ x14.toInt) (xh : (∀ on s, hR h x1 0 = some on → s < 64 → bitJ x6 s = true → 0 ≤ (hI h on s).toInt)) : Sat (sX5_isHit_227 F k_26 k_133 h x0 x1 x2 x4 x6 x8 x13 x14 x15 t0) (ZI0 h0 (0) (1)) := by
  unfold sX5_isHit_227 sX5_isHit_243
  refine s_br (fun c_1 => ?_) (fun c_1 => ?_)
  · have _ := c_1
    have i_f_2 : Rg (0) (0) (t0) := rg_eq c_1 (rg_b rfl : Rg (0) (0) (0 : Int32))
    refine s_q (fun v_1q1 e_3 => ?_)
    have i_v_1q1 : Rg (1) (172032) (v_1q1) := by rw [e_3]; exact (rg_add i_x14 (rg_b rfl : Rg (1) (1) ((1 : Int32))) (by decide) : Rg (1) (172032) (x14 + (1 : Int32)))
    have m_4 : (v_1q1).toInt = x14.toInt + 1 := by rw [e_3]; exact rg_inc i_x14 (by decide)
    exact hk_133 E T r_x0 r_x1 i_x2 i_x8 i_x13 (rg_m i_v_1q1 (by decide)) hc_26 xh (by have := hc_133; omega)
  · have _ := c_1
    have i_f_5 : Rg (1) (1) (t0) := rg_nlo c_1 i_t0 (rg_b rfl : Rg (0) (0) (0 : Int32))
    refine s_br (fun c_6 => ?_) (fun c_6 => ?_)
    · have _ := c_6
      have i_f_7 : Rg (0) (0) ((x15 &&& (1 : Int32))) := rg_eq c_6 (rg_b rfl : Rg (0) (0) (0 : Int32))
      exact s_some ⟨E, (rg_m (rg_b rfl : Rg (1) (1) ((1 : Int32))) (by decide))⟩
    · have _ := c_6
      have i_f_8 : Rg (1) (1) ((x15 &&& (1 : Int32))) := rg_nlo c_6 (rg_and (rg_b rfl : Rg (1) (1) ((1 : Int32))) (by decide) : Rg (0) (1) ((x15 &&& (1 : Int32)))) (rg_b rfl : Rg (0) (0) (0 : Int32))
      refine s_q (fun v_1q2 e_9 => ?_)
      have i_v_1q2 : Rg (1) (172032) (v_1q2) := by rw [e_9]; exact (rg_add i_x14 (rg_b rfl : Rg (1) (1) ((1 : Int32))) (by decide) : Rg (1) (172032) (x14 + (1 : Int32)))
      have m_10 : (v_1q2).toInt = x14.toInt + 1 := by rw [e_9]; exact rg_inc i_x14 (by decide)
      exact hk_133 E T r_x0 r_x1 i_x2 i_x8 i_x13 (rg_m i_v_1q2 (by decide)) hc_26 xh (by have := hc_133; omega)
set_option maxRecDepth 20000 in
theorem zX5_isHit_133 {ρ : Nat → Nat} {c : Cm} {h0 : Hp} {F : Nat} (hF : 700000 ≤ F) {k_26 : Hp → Nat → Nat → Int32 → Int64 → Int64 → Int32 → Option (Int32 × Hp)} {C_26 : Int} (hk_26 : ∀ {h : Hp} {x0 : Nat} {x1 : Nat} {x2 : Int32} {x4 : Int64} {x6 : Int64} {x8 : Int32}, h = h0 → TH ρ c h → ρ x0 = 6 → ρ x1 = 4 → Rg (0) (63) (x2) → Rg (0) (64) (x8) → (∀ on s, hR h x1 0 = some on → s < 64 → bitJ x6 s = true → 0 ≤ (hI h on s).toInt) → C_26 < x8.toInt → Sat (k_26 h x0 x1 x2 x4 x6 x8) (ZI0 h0 (0) (1))) : ∀ (f : Nat) {h : Hp} {x0 : Nat} {x1 : Nat} {x2 : Int32} {x4 : Int64} {x6 : Int64} {x8 : Int32} {x13 : Int32} {x14 : Int32}, h = h0 → TH ρ c h → ρ x0 = 6 → ρ x1 = 4 → Rg (0) (63) (x2) → Rg (0) (63) (x8) → Rg (0) (98303) (x13) → Rg (0) (172032) (x14) → C_26 ≤ x8.toInt → (∀ on s, hR h x1 0 = some on → s < 64 → bitJ x6 s = true → 0 ≤ (hI h on s).toInt) → (172032 - x14.toInt).toNat < f → Sat (sX5_isHit_133 F k_26 f h x0 x1 x2 x4 x6 x8 x13 x14) (ZI0 h0 (0) (1)) := by
  intro f
  induction f with
  | zero => intros; omega
  | succ f ih =>
    intro h x0 x1 x2 x4 x6 x8 x13 x14 E T r_x0 r_x1 i_x2 i_x8 i_x13 i_x14 hc_26 xh hm
    rw [sX5_isHit_133]
    unfold sX5_isHit_249 sX5_isHit_226
    obtain ⟨C_133, hC_133⟩ : ∃ C : Int, C = x14.toInt := ⟨_, rfl⟩
    have hk_133 : ∀ {h : Hp} {x0 : Nat} {x1 : Nat} {x2 : Int32} {x4 : Int64} {x6 : Int64} {x8 : Int32} {x13 : Int32} {x14 : Int32}, h = h0 → TH ρ c h → ρ x0 = 6 → ρ x1 = 4 → Rg (0) (63) (x2) → Rg (0) (63) (x8) → Rg (0) (98303) (x13) → Rg (0) (172032) (x14) → C_26 ≤ x8.toInt → (∀ on s, hR h x1 0 = some on → s < 64 → bitJ x6 s = true → 0 ≤ (hI h on s).toInt) → C_133 < x14.toInt → Sat (sX5_isHit_133 F k_26 f h x0 x1 x2 x4 x6 x8 x13 x14) (ZI0 h0 (0) (1)) := by
      intro h' x0' x1' x2' x4' x6' x8' x13' x14' E' T' r_x0' r_x1' i_x2' i_x8' i_x13' i_x14' hc_26' xh' hl
      exact ih E' T' r_x0' r_x1' i_x2' i_x8' i_x13' i_x14' hc_26' xh' (by have := i_x14'.1; have := i_x14'.2; omega)
    have hc_133 : C_133 ≤ x14.toInt := by omega
    obtain ⟨r_1, e_r_1, q_r_1⟩ := thR T r_x0 (k := 6) (i := 1) (k2 := 11) rfl (by decide)
    refine s_ref e_r_1 ?_
    obtain ⟨r_2, e_r_2, q_r_2⟩ := thR T q_r_1 (k := 11) (i := 0) (k2 := 50) rfl (by decide)
    refine s_ref e_r_2 ?_
    refine s_gd (by rw [thN T q_r_2 (k := 50) (n := 98305) rfl (by decide)]; exact rg_inB ((rg_m (rg_add i_x13 (rg_b rfl : Rg (1) (1) ((1 : Int32))) (by decide) : Rg (1) (98304) ((x13 + (1 : Int32)))) (by decide)) : Rg (0) (98304) ((x13 + (1 : Int32)))) (by decide)) ?_
    refine s_br (fun c_1 => ?_) (fun c_1 => ?_)
    · have _ := c_1
      refine s_q (fun v_1q1 e_2 => ?_)
      have i_v_1q1 : Rg (1) (64) (v_1q1) := by rw [e_2]; exact (rg_add i_x8 (rg_b rfl : Rg (1) (1) ((1 : Int32))) (by decide) : Rg (1) (64) (x8 + (1 : Int32)))
      have m_3 : (v_1q1).toInt = x8.toInt + 1 := by rw [e_2]; exact rg_inc i_x8 (by decide)
      exact hk_26 E T r_x0 r_x1 i_x2 (rg_m i_v_1q1 (by decide)) xh (by have := hc_26; omega)
    · have _ := c_1
      have i_f_4 : Rg (0) (172031) (x14) := rg_lt1 (nle_lt c_1) i_x14 (thI T q_r_2 (k := 50) rfl : Rg (0) (172032) ((hI h r_2 (x13 + (1 : Int32)).toNatClampNeg)))
      have i_f_5 : Rg (1) (172032) ((hI h r_2 (x13 + (1 : Int32)).toNatClampNeg)) := rg_lt2 (nle_lt c_1) i_x14 (thI T q_r_2 (k := 50) rfl : Rg (0) (172032) ((hI h r_2 (x13 + (1 : Int32)).toNatClampNeg)))
      refine s_ref e_r_1 ?_
      obtain ⟨r_6, e_r_6, q_r_6⟩ := thR T q_r_1 (k := 11) (i := 1) (k2 := 51) rfl (by decide)
      refine s_ref e_r_6 ?_
      refine s_gd (by rw [thN T q_r_6 (k := 51) (n := 172032) rfl (by decide)]; exact rg_inB (i_f_4 : Rg (0) (172031) (x14)) (by decide)) ?_
      refine s_q (fun v_8 e_6 => ?_)
      have i_v_8 : Rg (0) (511) (v_8) := by rw [e_6]; exact (rg_shrk 6 (by decide) (thI T q_r_6 (k := 51) rfl : Rg (0) (32767) ((hI h r_6 x14.toNatClampNeg))) (by decide) : Rg (0) (511) ((hI h r_6 x14.toNatClampNeg) >>> ((6 : Int32) &&& 31)))
      refine s_ref e_r_1 ?_
      obtain ⟨r_10, e_r_10, q_r_10⟩ := thR T q_r_1 (k := 11) (i := 2) (k2 := 52) rfl (by decide)
      refine s_ref e_r_10 ?_
      refine s_gd (by rw [thN T q_r_10 (k := 52) (n := 172032) rfl (by decide)]; exact rg_inB (i_f_4 : Rg (0) (172031) (x14)) (by decide)) ?_
      refine s_q (fun v_12 e_7 => ?_)
      refine s_br (fun c_8 => ?_) (fun c_8 => ?_)
      · have _ := c_8
        have i_f_9 : Rg (0) (0) ((v_8 &&& (8 : Int32))) := rg_eq c_8 (rg_b rfl : Rg (0) (0) (0 : Int32))
        refine s_br (fun c_10 => ?_) (fun c_10 => ?_)
        · have _ := c_10
          exact zX5_isHit_227 hF @hk_26 @hk_133 E T r_x0 r_x1 i_x2 i_x8 i_x13 i_f_4 i_v_8 (rg_m (rg_b rfl : Rg (1) (1) ((1 : Int32))) (by decide)) hc_26 hc_133 xh
        · have _ := c_10
          exact zX5_isHit_227 hF @hk_26 @hk_133 E T r_x0 r_x1 i_x2 i_x8 i_x13 i_f_4 i_v_8 (rg_m (rg_b rfl : Rg (0) (0) ((0 : Int32))) (by decide)) hc_26 hc_133 xh
      · have _ := c_8
        have i_f_11 : Rg (1) (8) ((v_8 &&& (8 : Int32))) := rg_nlo c_8 (rg_and (rg_b rfl : Rg (8) (8) ((8 : Int32))) (by decide) : Rg (0) (8) ((v_8 &&& (8 : Int32)))) (rg_b rfl : Rg (0) (0) (0 : Int32))
        refine s_br (fun c_12 => ?_) (fun c_12 => ?_)
        · have _ := c_12
          exact zX5_isHit_227 hF @hk_26 @hk_133 E T r_x0 r_x1 i_x2 i_x8 i_x13 i_f_4 i_v_8 (rg_m (rg_b rfl : Rg (0) (0) ((0 : Int32))) (by decide)) hc_26 hc_133 xh
        · have _ := c_12
          refine s_br (fun c_13 => ?_) (fun c_13 => ?_)
          · have _ := c_13
            exact zX5_isHit_227 hF @hk_26 @hk_133 E T r_x0 r_x1 i_x2 i_x8 i_x13 i_f_4 i_v_8 (rg_m (rg_b rfl : Rg (1) (1) ((1 : Int32))) (by decide)) hc_26 hc_133 xh
          · have _ := c_13
            exact zX5_isHit_227 hF @hk_26 @hk_133 E T r_x0 r_x1 i_x2 i_x8 i_x13 i_f_4 i_v_8 (rg_m (rg_b rfl : Rg (0) (0) ((0 : Int32))) (by decide)) hc_26 hc_133 xh
set_option maxRecDepth 20000 in
theorem zX5_isHit_26 {ρ : Nat → Nat} {c : Cm} {h0 : Hp} {F : Nat} (hF : 700000 ≤ F) : ∀ (f : Nat) {h : Hp} {x0 : Nat} {x1 : Nat} {x2 : Int32} {x4 : Int64} {x6 : Int64} {x8 : Int32}, h = h0 → TH ρ c h → ρ x0 = 6 → ρ x1 = 4 → Rg (0) (63) (x2) → Rg (0) (64) (x8) → (∀ on s, hR h x1 0 = some on → s < 64 → bitJ x6 s = true → 0 ≤ (hI h on s).toInt) → (64 - x8.toInt).toNat < f → Sat (sX5_isHit_26 F f h x0 x1 x2 x4 x6 x8) (ZI0 h0 (0) (1)) := by
  intro f
  induction f with
  | zero => intros; omega
  | succ f ih =>
    intro h x0 x1 x2 x4 x6 x8 E T r_x0 r_x1 i_x2 i_x8 xh hm
    rw [sX5_isHit_26]
    unfold sX5_isHit_255 sX5_isHit_249
    obtain ⟨C_26, hC_26⟩ : ∃ C : Int, C = x8.toInt := ⟨_, rfl⟩
    have hk_26 : ∀ {h : Hp} {x0 : Nat} {x1 : Nat} {x2 : Int32} {x4 : Int64} {x6 : Int64} {x8 : Int32}, h = h0 → TH ρ c h → ρ x0 = 6 → ρ x1 = 4 → Rg (0) (63) (x2) → Rg (0) (64) (x8) → (∀ on s, hR h x1 0 = some on → s < 64 → bitJ x6 s = true → 0 ≤ (hI h on s).toInt) → C_26 < x8.toInt → Sat (sX5_isHit_26 F f h x0 x1 x2 x4 x6 x8) (ZI0 h0 (0) (1)) := by
      intro h' x0' x1' x2' x4' x6' x8' E' T' r_x0' r_x1' i_x2' i_x8' xh' hl
      exact ih E' T' r_x0' r_x1' i_x2' i_x8' xh' (by have := i_x8'.1; have := i_x8'.2; omega)
    have hc_26 : C_26 ≤ x8.toInt := by omega
    refine s_br (fun c_1 => ?_) (fun c_1 => ?_)
    · have _ := c_1
      have i_f_2 : Rg (64) (64) (x8) := rg_le2 c_1 (rg_b rfl : Rg (64) (64) ((64 : Int32))) i_x8
      exact s_some ⟨E, (rg_m (rg_b rfl : Rg (0) (0) ((0 : Int32))) (by decide))⟩
    · have _ := c_1
      have i_f_3 : Rg (0) (63) (x8) := rg_lt1 (nle_lt c_1) i_x8 (rg_b rfl : Rg (64) (64) ((64 : Int32)))
      refine s_br (fun c_4 => ?_) (fun c_4 => ?_)
      · have _ := c_4
        exact s_some ⟨E, (rg_m (rg_b rfl : Rg (0) (0) ((0 : Int32))) (by decide))⟩
      · have _ := c_4
        refine s_q (fun v_3 e_5 => ?_)
        refine s_q (fun v_4 e_6 => ?_)
        refine s_gd (rg_inB ((rg_58 _ : Rg (0) (63) (((((v_3 * (285870213051386505 : Int64)).toUInt64 >>> ((58 : Int32).toInt64.toUInt64 &&& Int64.toUInt64 63)).toInt64).toInt32))) : Rg (0) (63) (((((v_3 * (285870213051386505 : Int64)).toUInt64 >>> ((58 : Int32).toInt64.toUInt64 &&& Int64.toUInt64 63)).toInt64).toInt32))) (by decide)) ?_
        refine s_q (fun v_6 e_7 => ?_)
        have i_v_6 : Rg (0) (63) (v_6) := by rw [e_7]; exact (rg_sq _ : Rg (0) (63) (sqT.getD ((((v_3 * (285870213051386505 : Int64)).toUInt64 >>> ((58 : Int32).toInt64.toUInt64 &&& Int64.toUInt64 63)).toInt64).toInt32).toNatClampNeg 0))
        obtain ⟨r_7, e_r_7, q_r_7⟩ := thR T r_x1 (k := 4) (i := 0) (k2 := 34) rfl (by decide)
        refine s_ref e_r_7 ?_
        refine s_gd (by rw [thN T q_r_7 (k := 34) (n := 64) rfl (by decide)]; exact rg_inB (i_v_6 : Rg (0) (63) (v_6)) (by decide)) ?_
        refine s_q (fun v_9 e_8 => ?_)
        have i_v_9 : Rg (-2) (23) (v_9) := by rw [e_8]; exact (thI T q_r_7 (k := 34) rfl : Rg (-2) (23) (hI h r_7 v_6.toNatClampNeg))
        have hv_9 : Rg 0 23 v_9 := ⟨by rw [e_8]; exact xh _ _ e_r_7 (show v_6.toNatClampNeg < 64 by have := rg_clamp (n := 63) i_v_6 (by decide); omega) (by rw [e_7, e_5]; exact sq_bit (cmp0 c_4)), i_v_9.2⟩
        obtain ⟨r_10, e_r_10, q_r_10⟩ := thR T r_x0 (k := 6) (i := 1) (k2 := 11) rfl (by decide)
        refine s_ref e_r_10 ?_
        obtain ⟨r_11, e_r_11, q_r_11⟩ := thR T q_r_10 (k := 11) (i := 4) (k2 := 54) rfl (by decide)
        refine s_ref e_r_11 ?_
        refine s_gd (by rw [thN T q_r_11 (k := 54) (n := 1536) rfl (by decide)]; exact rg_inB ((rg_add (rg_mulc hv_9 (rg_b rfl : Rg (64) (64) ((64 : Int32))) (by decide) : Rg (0) (1472) ((v_9 * (64 : Int32)))) i_x2 (by decide) : Rg (0) (1535) (((v_9 * (64 : Int32)) + x2))) : Rg (0) (1535) (((v_9 * (64 : Int32)) + x2))) (by decide)) ?_
        refine s_br (fun c_10 => ?_) (fun c_10 => ?_)
        · have _ := c_10
          refine s_q (fun v_1q3 e_11 => ?_)
          have i_v_1q3 : Rg (1) (64) (v_1q3) := by rw [e_11]; exact (rg_add i_f_3 (rg_b rfl : Rg (1) (1) ((1 : Int32))) (by decide) : Rg (1) (64) (x8 + (1 : Int32)))
          have m_12 : (v_1q3).toInt = x8.toInt + 1 := by rw [e_11]; exact rg_inc i_f_3 (by decide)
          exact hk_26 E T r_x0 r_x1 i_x2 (rg_m i_v_1q3 (by decide)) (fun on s ho hs hb => xh on s ho hs (bj_rest (cmp0 c_4) (by rw [e_6, e_5] at hb; exact hb))) (by have := hc_26; omega)
        · have _ := c_10
          refine s_q (fun v_14 e_13 => ?_)
          have i_v_14 : Rg (0) (98303) (v_14) := by rw [e_13]; exact (rg_add (rg_mulc (rg_add (rg_mulc hv_9 (rg_b rfl : Rg (64) (64) ((64 : Int32))) (by decide) : Rg (0) (1472) ((v_9 * (64 : Int32)))) i_v_6 (by decide) : Rg (0) (1535) (((v_9 * (64 : Int32)) + v_6))) (rg_b rfl : Rg (64) (64) ((64 : Int32))) (by decide) : Rg (0) (98240) ((((v_9 * (64 : Int32)) + v_6) * (64 : Int32)))) i_x2 (by decide) : Rg (0) (98303) ((((v_9 * (64 : Int32)) + v_6) * (64 : Int32)) + x2))
          refine s_ref e_r_10 ?_
          obtain ⟨r_16, e_r_16, q_r_16⟩ := thR T q_r_10 (k := 11) (i := 0) (k2 := 50) rfl (by decide)
          refine s_ref e_r_16 ?_
          refine s_gd (by rw [thN T q_r_16 (k := 50) (n := 98305) rfl (by decide)]; exact rg_inB ((rg_m i_v_14 (by decide)) : Rg (0) (98304) (v_14)) (by decide)) ?_
          refine s_q (fun v_18 e_14 => ?_)
          have i_v_18 : Rg (0) (172032) (v_18) := by rw [e_14]; exact (thI T q_r_16 (k := 50) rfl : Rg (0) (172032) (hI h r_16 v_14.toNatClampNeg))
          have m_15 : Rg (0) (172032) (v_18) := i_v_18
          exact zX5_isHit_133 hF @hk_26 F E T r_x0 r_x1 i_x2 i_f_3 i_v_14 i_v_18 hc_26 (fun on s ho hs hb => xh on s ho hs (bj_rest (cmp0 c_4) (by rw [e_6, e_5] at hb; exact hb))) (by have := m_15.1; have := m_15.2; omega)
set_option maxRecDepth 20000 in
theorem zX5_isHit {ρ : Nat → Nat} {c : Cm} {F : Nat} (hF : 700000 ≤ F) {h : Hp} {x0 : Nat} {x1 : Nat} {x2 : Int32} {x3 : Int32} (T : TH ρ c h) (r_x0 : ρ x0 = 6) (r_x1 : ρ x1 = 4) (i_x2 : Rg (0) (63) (x2)) (i_x3 : Rg (0) (1) (x3)) : Sat (sX5_isHit F h x0 x1 x2 x3) (ZI0 h (0) (1)) := by
  unfold sX5_isHit 
  obtain ⟨r_1, e_r_1, q_r_1⟩ := thR T r_x1 (k := 4) (i := 1) (k2 := 35) rfl (by decide)
  refine s_ref e_r_1 ?_
  refine s_gd (by rw [thN T q_r_1 (k := 35) (n := 2) rfl (by decide)]; exact rg_inB ((rg_m (rg_b rfl : Rg (0) (0) ((0 : Int32))) (by decide)) : Rg (0) (1) ((0 : Int32))) (by decide)) ?_
  refine s_ref e_r_1 ?_
  refine s_gd (by rw [thN T q_r_1 (k := 35) (n := 2) rfl (by decide)]; exact rg_inB ((rg_m (rg_b rfl : Rg (1) (1) ((1 : Int32))) (by decide)) : Rg (0) (1) ((1 : Int32))) (by decide)) ?_
  refine s_q (fun v_5 e_1 => ?_)
  refine s_ref e_r_1 ?_
  refine s_gd (by rw [thN T q_r_1 (k := 35) (n := 2) rfl (by decide)]; exact rg_inB (i_x3 : Rg (0) (1) (x3)) (by decide)) ?_
  refine s_q (fun v_8 e_2 => ?_)
  have m_3 : Rg (0) (64) ((0 : Int32)) := (rg_m (rg_b rfl : Rg (0) (0) ((0 : Int32))) (by decide))
  exact zX5_isHit_26 hF F rfl T r_x0 r_x1 i_x2 (rg_m (rg_b rfl : Rg (0) (0) ((0 : Int32))) (by decide)) (fun on s ho hs hb => (th_ps T r_x1 ho e_r_1 hs (show x3.toNatClampNeg < 2 by have := rg_clamp (n := 1) i_x3 (by decide); omega) (by rw [← e_2]; exact hb)).1) (by have := m_3.1; have := m_3.2; omega)
set_option maxRecDepth 20000 in
theorem zX5_isRoyalHit {ρ : Nat → Nat} {c : Cm} {F : Nat} (hF : 700000 ≤ F) {h : Hp} {x0 : Nat} {x1 : Nat} {x2 : Int32} (T : TH ρ c h) (r_x0 : ρ x0 = 6) (r_x1 : ρ x1 = 4) (i_x2 : Rg (0) (1) (x2)) : Sat (sX5_isRoyalHit F h x0 x1 x2) (ZI0 h (0) (1)) := by
  unfold sX5_isRoyalHit sX5_isRoyalHit_31 sX5_isRoyalHit_32
  obtain ⟨r_1, e_r_1, q_r_1⟩ := thR T r_x1 (k := 4) (i := 2) (k2 := 36) rfl (by decide)
  refine s_ref e_r_1 ?_
  refine s_gd (by rw [thN T q_r_1 (k := 36) (n := 2) rfl (by decide)]; exact rg_inB (i_x2 : Rg (0) (1) (x2)) (by decide)) ?_
  refine s_br (fun c_1 => ?_) (fun c_1 => ?_)
  · have _ := c_1
    have i_f_2 : Rg (-1) (-1) ((hI h r_1 x2.toNatClampNeg)) := rg_eq c_1 (rg_b rfl : Rg (-1) (-1) ((- 1 : Int32)))
    refine s_gd (rg_bool (rg_m (rg_b rfl : Rg (0) (0) ((0 : Int32))) (by decide))) ?_
    exact s_some ⟨rfl, (rg_m (rg_b rfl : Rg (0) (0) ((0 : Int32))) (by decide))⟩
  · have _ := c_1
    have i_f_3 : Rg (0) (63) ((hI h r_1 x2.toNatClampNeg)) := rg_nlo c_1 (thI T q_r_1 (k := 36) rfl : Rg (-1) (63) ((hI h r_1 x2.toNatClampNeg))) (rg_b rfl : Rg (-1) (-1) ((- 1 : Int32)))
    refine s_ref e_r_1 ?_
    refine s_gd (by rw [thN T q_r_1 (k := 36) (n := 2) rfl (by decide)]; exact rg_inB (i_x2 : Rg (0) (1) (x2)) (by decide)) ?_
    refine s_dI0 (zX5_isHit hF T r_x0 r_x1 i_f_3 (rg_sub (rg_b rfl : Rg (1) (1) ((1 : Int32))) i_x2 (by decide) : Rg (0) (1) (((1 : Int32) - x2)))) (fun o_6 eb_o_6 e_o_6 i_o_6 => ?_)
    have T_4 := th_eq e_o_6 T
    refine s_br (fun c_5 => ?_) (fun c_5 => ?_)
    · have _ := c_5
      have i_f_6 : Rg (0) (0) (o_6.1) := rg_eq c_5 (rg_b rfl : Rg (0) (0) (0 : Int32))
      refine s_gd (rg_bool (rg_m (rg_b rfl : Rg (0) (0) ((0 : Int32))) (by decide))) ?_
      exact s_some ⟨(e_o_6.trans rfl), (rg_m (rg_b rfl : Rg (0) (0) ((0 : Int32))) (by decide))⟩
    · have _ := c_5
      have i_f_7 : Rg (1) (1) (o_6.1) := rg_nlo c_5 i_o_6 (rg_b rfl : Rg (0) (0) (0 : Int32))
      refine s_gd (rg_bool (rg_m (rg_b rfl : Rg (1) (1) ((1 : Int32))) (by decide))) ?_
      exact s_some ⟨(e_o_6.trans rfl), (rg_m (rg_b rfl : Rg (1) (1) ((1 : Int32))) (by decide))⟩
set_option maxRecDepth 20000 in
theorem zX1_becomesOthers {ρ : Nat → Nat} {c : Cm} {F : Nat} (hF : 700000 ≤ F) {h : Hp} {x0 : Nat} {x1 : Int32} (T : TH ρ c h) (r_x0 : ρ x0 = 2) (i_x1 : Rg (-1) (15) (x1)) : Sat (sX1_becomesOthers h x0 x1) (ZI0 h (0) (1)) := by
  unfold sX1_becomesOthers sX1_becomesOthers_23 sX1_becomesOthers_24
  refine s_br (fun c_1 => ?_) (fun c_1 => ?_)
  · have _ := c_1
    have i_f_2 : Rg (-1) (-1) (x1) := rg_lt1 c_1 i_x1 (rg_b rfl : Rg (0) (0) (0 : Int32))
    refine s_gd (rg_bool (rg_m (rg_b rfl : Rg (0) (0) ((0 : Int32))) (by decide))) ?_
    exact s_some ⟨rfl, (rg_m (rg_b rfl : Rg (0) (0) ((0 : Int32))) (by decide))⟩
  · have _ := c_1
    have i_f_3 : Rg (0) (15) (x1) := rg_le2 (nlt_le c_1) (rg_b rfl : Rg (0) (0) (0 : Int32)) i_x1
    refine s_br (fun c_4 => ?_) (fun c_4 => ?_)
    · have _ := c_4
      have i_f_5 : Rg (12) (15) (x1) := rg_le2 c_4 (rg_b rfl : Rg (12) (12) ((12 : Int32))) i_f_3
      refine s_gd (rg_bool (rg_m (rg_b rfl : Rg (0) (0) ((0 : Int32))) (by decide))) ?_
      exact s_some ⟨rfl, (rg_m (rg_b rfl : Rg (0) (0) ((0 : Int32))) (by decide))⟩
    · have _ := c_4
      have i_f_6 : Rg (0) (11) (x1) := rg_lt1 (nle_lt c_4) i_f_3 (rg_b rfl : Rg (12) (12) ((12 : Int32)))
      obtain ⟨r_3, e_r_3, q_r_3⟩ := thR T r_x0 (k := 2) (i := 18) (k2 := 31) rfl (by decide)
      refine s_ref e_r_3 ?_
      refine s_gd (by rw [thN T q_r_3 (k := 31) (n := 12) rfl (by decide)]; exact rg_inB (i_f_6 : Rg (0) (11) (x1)) (by decide)) ?_
      refine s_br (fun c_7 => ?_) (fun c_7 => ?_)
      · have _ := c_7
        have i_f_8 : Rg (0) (0) ((hI h r_3 x1.toNatClampNeg)) := rg_le1 c_7 (thI T q_r_3 (k := 31) rfl : Rg (0) (6) ((hI h r_3 x1.toNatClampNeg))) (rg_b rfl : Rg (0) (0) (0 : Int32))
        refine s_gd (rg_bool (rg_m (rg_b rfl : Rg (0) (0) ((0 : Int32))) (by decide))) ?_
        exact s_some ⟨rfl, (rg_m (rg_b rfl : Rg (0) (0) ((0 : Int32))) (by decide))⟩
      · have _ := c_7
        have i_f_9 : Rg (1) (6) ((hI h r_3 x1.toNatClampNeg)) := rg_lt2 (nle_lt c_7) (rg_b rfl : Rg (0) (0) (0 : Int32)) (thI T q_r_3 (k := 31) rfl : Rg (0) (6) ((hI h r_3 x1.toNatClampNeg)))
        refine s_gd (rg_bool (rg_m (rg_b rfl : Rg (1) (1) ((1 : Int32))) (by decide))) ?_
        exact s_some ⟨rfl, (rg_m (rg_b rfl : Rg (1) (1) ((1 : Int32))) (by decide))⟩
set_option maxRecDepth 20000 in
theorem zX0_layOut_178 {ρ : Nat → Nat} {c : Cm} {F : Nat} (hF : 700000 ≤ F) {k_79 : Hp → Nat → Int32 → Int32 → Int32 → Int32 → Int32 → Int32 → Option (Int32 × Hp)} {C_79 : Int} (hk_79 : ∀ {h : Hp} {x0 : Nat} {x1 : Int32} {x5 : Int32} {x6 : Int32} {x7 : Int32} {x8 : Int32} {x9 : Int32}, TH ρ c h → ρ x0 = 1 → Rg (0) (33554431) (x1) → Rg (0) (5) (x5) → Rg (0) (64) (x6) → Rg (0) (599999) (x7) → Rg (-2147483648) (2147483647) (x8) → Rg (0) (5) (x9) → (LwR ρ c h) → (KyD x1 h) → ( SqL (c.2.1 50) x6) → C_79 < x9.toInt → Sat (k_79 h x0 x1 x5 x6 x7 x8 x9) (ZI ρ c (0) (1))) (hi_1003 : pmO c 1003 [(34, 999), (35, 999), (36, 999), (4, 7)]) {h : Hp} {x0 : Nat} {x1 : Int32} {x5 : Int32} {x6 : Int32} {x7 : Int32} {x9 : Int32} {x10 : Int32} {x11 : Int32} {x12 : Int32} {t0 : Int32} (T : TH ρ c h) (r_x0 : ρ x0 = 1) (i_x1 : Rg (0) (33554431) (x1)) (i_x5 : Rg (0) (5) (x5)) (i_x6 : Rg (1) (64) (x6)) (i_x7 : Rg (0) (599999) (x7)) (i_x9 : Rg (0) (4) (x9)) (i_x10 : Rg (0) (63) (x10)) (i_x11 : Rg (-1) (23) (x11)) (i_x12 : Rg (0) (1) (x12)) (i_t0 : Rg (0) (1) (t0)) (hc_79 : C_79 ≤ x9.toInt) (lw : (LwR ρ c h)) (ky : (KyD x1 h)) (s10 : ( SqB (c.2.1 50) x10)) (sx : ( SqL (c.2.1 50) x6)) : Sat (sX0_layOut_178 F k_79 h x0 x1 x5 x6 x7 x9 x10 x11 x12 t0) (ZI ρ c (0) (1)) := by
  unfold sX0_layOut_178 sX0_layOut_204
  refine s_br (fun c_1 => ?_) (fun c_1 => ?_)
  · have _ := c_1
    have i_f_2 : Rg (0) (0) (x12) := rg_eq c_1 (rg_b rfl : Rg (0) (0) (0 : Int32))
    refine s_br (fun c_3 => ?_) (fun c_3 => ?_)
    · have _ := c_3
      have i_f_4 : Rg (0) (0) (t0) := rg_eq c_3 (rg_b rfl : Rg (0) (0) (0 : Int32))
      obtain ⟨r_3, e_r_3, q_r_3⟩ := thR T r_x0 (k := 1) (i := 3) (k2 := 4) rfl (by decide)
      refine s_ref e_r_3 ?_
      obtain ⟨r_4, e_r_4, q_r_4⟩ := thR T q_r_3 (k := 4) (i := 0) (k2 := 34) rfl (by decide)
      refine s_ref e_r_4 ?_
      refine s_gd (by rw [thN T q_r_4 (k := 34) (n := 64) rfl (by decide)]; exact rg_inB (i_x10 : Rg (0) (63) (x10)) (by decide)) ?_
      refine s_br (fun c_5 => ?_) (fun c_5 => ?_)
      · have _ := c_5
        have i_f_6 : Rg (-1) (-1) ((hI h r_4 x10.toNatClampNeg)) := rg_eq c_5 (rg_b rfl : Rg (-1) (-1) ((- 1 : Int32)))
        refine s_q (fun v_7 e_7 => ?_)
        have i_v_7 : Rg (-2147483648) (2147483647) (v_7) := by rw [e_7]; exact (rg_top _ : Rg (-2147483648) (2147483647) ((x11 <<< ((6 : Int32) &&& 31)) ||| x10))
        refine s_ref e_r_3 ?_
        obtain ⟨r_9, e_r_9, q_r_9⟩ := thR T r_x0 (k := 1) (i := 0) (k2 := 2) rfl (by decide)
        refine s_ref e_r_9 ?_
        refine s_cVf (S := fS [] [(1003, [(34, 999), (35, 999), (36, 999), (4, 7)])]) T (fs_sub pmA_n (fs_c (pmO_s hi_1003 rfl) fs_n)) (zX3_put hF (pmO_e (th_id T r_x0 (k := 1) (i := 3) (w := 1003) e_r_3 rfl (by decide)) (fs_o (.head _)) rfl) (th_in _ T) q_r_3 (rg_m i_x10 (by decide)) (rg_m i_x11 (by decide)) (rg_m (thI T q_r_9 (k := 2) (i := 4) rfl : Rg (-1) (11) ((hI h r_9 4))) (by decide)) (fun _ => s10)) (fun o_10 T_8 f_o_10 => ?_)
        refine s_q (fun v_11 e_9 => ?_)
        have i_v_11 : Rg (1) (5) (v_11) := by rw [e_9]; exact (rg_add i_x9 (rg_b rfl : Rg (1) (1) ((1 : Int32))) (by decide) : Rg (1) (5) (x9 + (1 : Int32)))
        have pf_10 : LwR ρ c o_10 := (lw_fr T  f_o_10 (fun _ => rfl) (fun _ => rfl) (fun _ => rfl) lw)
        have pf_11 : KyD x1 o_10 := (ky_fr T  f_o_10  ky)
        have m_12 : (v_11).toInt = x9.toInt + 1 := by rw [e_9]; exact rg_inc i_x9 (by decide)
        exact hk_79 T_8 r_x0 i_x1 i_x5 (rg_m i_x6 (by decide)) i_x7 i_v_7 (rg_m i_v_11 (by decide)) pf_10 pf_11 sx (by have := hc_79; omega)
      · have _ := c_5
        exact s_some ⟨(T), (rg_m (rg_b rfl : Rg (0) (0) ((0 : Int32))) (by decide))⟩
    · have _ := c_3
      have i_f_13 : Rg (1) (1) (t0) := rg_nlo c_3 i_t0 (rg_b rfl : Rg (0) (0) (0 : Int32))
      exact s_some ⟨(T), (rg_m (rg_b rfl : Rg (0) (0) ((0 : Int32))) (by decide))⟩
  · have _ := c_1
    have i_f_14 : Rg (1) (1) (x12) := rg_nlo c_1 i_x12 (rg_b rfl : Rg (0) (0) (0 : Int32))
    exact s_some ⟨(T), (rg_m (rg_b rfl : Rg (0) (0) ((0 : Int32))) (by decide))⟩
set_option maxRecDepth 20000 in
theorem zX0_layOut_141 {ρ : Nat → Nat} {c : Cm} {F : Nat} (hF : 700000 ≤ F) {k_79 : Hp → Nat → Int32 → Int32 → Int32 → Int32 → Int32 → Int32 → Option (Int32 × Hp)} {C_79 : Int} (hk_79 : ∀ {h : Hp} {x0 : Nat} {x1 : Int32} {x5 : Int32} {x6 : Int32} {x7 : Int32} {x8 : Int32} {x9 : Int32}, TH ρ c h → ρ x0 = 1 → Rg (0) (33554431) (x1) → Rg (0) (5) (x5) → Rg (0) (64) (x6) → Rg (0) (599999) (x7) → Rg (-2147483648) (2147483647) (x8) → Rg (0) (5) (x9) → (LwR ρ c h) → (KyD x1 h) → ( SqL (c.2.1 50) x6) → C_79 < x9.toInt → Sat (k_79 h x0 x1 x5 x6 x7 x8 x9) (ZI ρ c (0) (1))) (hi_1003 : pmO c 1003 [(34, 999), (35, 999), (36, 999), (4, 7)]) {h : Hp} {x0 : Nat} {x1 : Int32} {x5 : Int32} {x6 : Int32} {x7 : Int32} {x9 : Int32} {x10 : Int32} {x11 : Int32} {t0 : Int32} (T : TH ρ c h) (r_x0 : ρ x0 = 1) (i_x1 : Rg (0) (33554431) (x1)) (i_x5 : Rg (0) (5) (x5)) (i_x6 : Rg (1) (64) (x6)) (i_x7 : Rg (0) (599999) (x7)) (i_x9 : Rg (0) (4) (x9)) (i_x10 : Rg (0) (63) (x10)) (i_x11 : Rg (-1) (23) (x11)) (i_t0 : Rg (0) (1) (t0)) (hc_79 : C_79 ≤ x9.toInt) (lw : (LwR ρ c h)) (ky : (KyD x1 h)) (s10 : ( SqB (c.2.1 50) x10)) (sx : ( SqL (c.2.1 50) x6)) : Sat (sX0_layOut_141 F k_79 h x0 x1 x5 x6 x7 x9 x10 x11 t0) (ZI ρ c (0) (1)) := by
  unfold sX0_layOut_141 sX0_layOut_177
  obtain ⟨r_1, e_r_1, q_r_1⟩ := thR T r_x0 (k := 1) (i := 0) (k2 := 2) rfl (by decide)
  refine s_ref e_r_1 ?_
  refine s_dI0 (zX1_becomesOthers hF T q_r_1 (rg_m (rg_shrk 1 (by decide) i_x11 (by decide) : Rg (-1) (11) ((x11 >>> ((1 : Int32) &&& 31)))) (by decide))) (fun o_2 eb_o_2 e_o_2 i_o_2 => ?_)
  have T_1 := th_eq e_o_2 T
  refine s_br (fun c_2 => ?_) (fun c_2 => ?_)
  · have _ := c_2
    have i_f_3 : Rg (0) (0) (o_2.1) := rg_eq c_2 (rg_b rfl : Rg (0) (0) (0 : Int32))
    have pf_4 : LwR ρ c o_2.2 := (by rw [e_o_2]; exact lw)
    have pf_5 : KyD x1 o_2.2 := (by rw [e_o_2]; exact ky)
    exact zX0_layOut_178 hF @hk_79 (pmO_s hi_1003 rfl) T_1 r_x0 i_x1 i_x5 i_x6 i_x7 i_x9 i_x10 i_x11 i_t0 (rg_m (rg_b rfl : Rg (0) (0) ((0 : Int32))) (by decide)) hc_79 pf_4 pf_5 s10 sx
  · have _ := c_2
    have i_f_6 : Rg (1) (1) (o_2.1) := rg_nlo c_2 i_o_2 (rg_b rfl : Rg (0) (0) (0 : Int32))
    refine s_ref (hr_e e_o_2 e_r_1) ?_
    refine s_dI0 (zX1_isLast hF T_1 q_r_1 i_x10 (rg_and (rg_b rfl : Rg (1) (1) ((1 : Int32))) (by decide) : Rg (0) (1) ((x11 &&& (1 : Int32))))) (fun o_5 eb_o_5 e_o_5 i_o_5 => ?_)
    have T_7 := th_eq e_o_5 T_1
    refine s_br (fun c_8 => ?_) (fun c_8 => ?_)
    · have _ := c_8
      have i_f_9 : Rg (0) (0) (o_5.1) := rg_eq c_8 (rg_b rfl : Rg (0) (0) (0 : Int32))
      have pf_10 : LwR ρ c o_5.2 := (by rw [e_o_5]; exact (by rw [e_o_2]; exact lw))
      have pf_11 : KyD x1 o_5.2 := (by rw [e_o_5]; exact (by rw [e_o_2]; exact ky))
      exact zX0_layOut_178 hF @hk_79 (pmO_s hi_1003 rfl) T_7 r_x0 i_x1 i_x5 i_x6 i_x7 i_x9 i_x10 i_x11 i_t0 (rg_m (rg_b rfl : Rg (0) (0) ((0 : Int32))) (by decide)) hc_79 pf_10 pf_11 s10 sx
    · have _ := c_8
      have i_f_12 : Rg (1) (1) (o_5.1) := rg_nlo c_8 i_o_5 (rg_b rfl : Rg (0) (0) (0 : Int32))
      have pf_13 : LwR ρ c o_5.2 := (by rw [e_o_5]; exact (by rw [e_o_2]; exact lw))
      have pf_14 : KyD x1 o_5.2 := (by rw [e_o_5]; exact (by rw [e_o_2]; exact ky))
      exact zX0_layOut_178 hF @hk_79 (pmO_s hi_1003 rfl) T_7 r_x0 i_x1 i_x5 i_x6 i_x7 i_x9 i_x10 i_x11 i_t0 (rg_m (rg_b rfl : Rg (1) (1) ((1 : Int32))) (by decide)) hc_79 pf_13 pf_14 s10 sx
set_option maxRecDepth 20000 in
theorem zX0_layOut_79 {ρ : Nat → Nat} {c : Cm} {F : Nat} (hF : 700000 ≤ F) (hi_1003 : pmO c 1003 [(34, 999), (35, 999), (36, 999), (4, 7)]) : ∀ (f : Nat) {h : Hp} {x0 : Nat} {x1 : Int32} {x5 : Int32} {x6 : Int32} {x7 : Int32} {x8 : Int32} {x9 : Int32}, TH ρ c h → ρ x0 = 1 → Rg (0) (33554431) (x1) → Rg (0) (5) (x5) → Rg (0) (64) (x6) → Rg (0) (599999) (x7) → Rg (-2147483648) (2147483647) (x8) → Rg (0) (5) (x9) → (LwR ρ c h) → (KyD x1 h) → ( SqL (c.2.1 50) x6) → (5 - x9.toInt).toNat < f → Sat (sX0_layOut_79 F f h x0 x1 x5 x6 x7 x8 x9) (ZI ρ c (0) (1)) := by
  intro f
  induction f with
  | zero => intros; omega
  | succ f ih =>
    intro h x0 x1 x5 x6 x7 x8 x9 T r_x0 i_x1 i_x5 i_x6 i_x7 i_x8 i_x9 lw ky sx hm
    rw [sX0_layOut_79]
    unfold sX0_layOut_240 sX0_codeIn sX0_layOut_140
    obtain ⟨C_79, hC_79⟩ : ∃ C : Int, C = x9.toInt := ⟨_, rfl⟩
    have hk_79 : ∀ {h : Hp} {x0 : Nat} {x1 : Int32} {x5 : Int32} {x6 : Int32} {x7 : Int32} {x8 : Int32} {x9 : Int32}, TH ρ c h → ρ x0 = 1 → Rg (0) (33554431) (x1) → Rg (0) (5) (x5) → Rg (0) (64) (x6) → Rg (0) (599999) (x7) → Rg (-2147483648) (2147483647) (x8) → Rg (0) (5) (x9) → (LwR ρ c h) → (KyD x1 h) → ( SqL (c.2.1 50) x6) → C_79 < x9.toInt → Sat (sX0_layOut_79 F f h x0 x1 x5 x6 x7 x8 x9) (ZI ρ c (0) (1)) := by
      intro h' x0' x1' x5' x6' x7' x8' x9' T' r_x0' i_x1' i_x5' i_x6' i_x7' i_x8' i_x9' lw' ky' sx' hl
      exact ih T' r_x0' i_x1' i_x5' i_x6' i_x7' i_x8' i_x9' lw' ky' sx' (by have := i_x9'.1; have := i_x9'.2; omega)
    have hc_79 : C_79 ≤ x9.toInt := by omega
    refine s_br (fun c_1 => ?_) (fun c_1 => ?_)
    · have _ := c_1
      exact s_some ⟨(T), (rg_m (rg_b rfl : Rg (1) (1) ((1 : Int32))) (by decide))⟩
    · have _ := c_1
      have i_f_2 : Rg (0) (4) (x9) := rg_lt1 (nle_lt c_1) i_x9 i_x5
      have i_f_3 : Rg (1) (5) (x5) := rg_lt2 (nle_lt c_1) i_x9 i_x5
      refine s_br (fun c_4 => ?_) (fun c_4 => ?_)
      · have _ := c_4
        have i_f_5 : Rg (0) (0) (x6) := rg_le1 c_4 i_x6 (rg_b rfl : Rg (0) (0) (0 : Int32))
        exact s_some ⟨(T), (rg_m (rg_b rfl : Rg (1) (1) ((1 : Int32))) (by decide))⟩
      · have _ := c_4
        have i_f_6 : Rg (1) (64) (x6) := rg_lt2 (nle_lt c_4) (rg_b rfl : Rg (0) (0) (0 : Int32)) i_x6
        refine s_gd (rg_ne0 i_f_6 (by decide)) ?_
        refine s_q (fun v_4 e_7 => ?_)
        have i_v_4 : Rg (0) (63) (v_4) := by rw [e_7]; exact (rg_rem i_x7 i_f_6 (by decide) : Rg (0) (63) (x7 - x7 / x6 * x6))
        refine s_gd (rg_ne0 i_f_6 (by decide)) ?_
        refine s_q (fun v_6 e_8 => ?_)
        have i_v_6 : Rg (0) (599999) (v_6) := by rw [e_8]; exact (rg_divw i_x7 i_f_6 (by decide) : Rg (0) (599999) (x7 / x6))
        have rh_9 : Rg (-1) 23 (((x1 >>> (((5 : Int32) * x9) &&& 31)) &&& (31 : Int32)) - (1 : Int32)) := ky_c ky (i_f_2 : Rg 0 4 x9)
        refine s_pu (fun o_7z e_10 => ?_)
        try dsimp only
        have i_o_7z : Rg (-1) (23) (o_7z) := by rw [e_10]; exact rh_9
        refine s_br (fun c_11 => ?_) (fun c_11 => ?_)
        · have _ := c_11
          have i_f_12 : Rg (-1) (23) ((x8 >>> ((6 : Int32) &&& 31))) := rg_eq c_11 i_o_7z
          refine s_br (fun c_13 => ?_) (fun c_13 => ?_)
          · have _ := c_13
            exact zX0_layOut_141 hF @hk_79 (pmO_s hi_1003 rfl) T r_x0 i_x1 (rg_m i_f_3 (by decide)) i_f_6 i_v_6 i_f_2 i_v_4 i_o_7z (rg_m (rg_b rfl : Rg (0) (0) ((0 : Int32))) (by decide)) hc_79 lw ky (sl_sq sx (by rw [e_7]; exact rem_lt (i_x7 : Rg (0) (599999) (x7)) (i_f_6 : Rg (1) (64) (x6)) (by decide))) sx
          · have _ := c_13
            have i_f_14 : Rg (-2147483648) (2147483646) (((o_7z <<< ((6 : Int32) &&& 31)) ||| v_4)) := rg_lt1 (nle_lt c_13) (rg_top _ : Rg (-2147483648) (2147483647) (((o_7z <<< ((6 : Int32) &&& 31)) ||| v_4))) i_x8
            have i_f_15 : Rg (-2147483647) (2147483647) (x8) := rg_lt2 (nle_lt c_13) (rg_top _ : Rg (-2147483648) (2147483647) (((o_7z <<< ((6 : Int32) &&& 31)) ||| v_4))) i_x8
            exact zX0_layOut_141 hF @hk_79 (pmO_s hi_1003 rfl) T r_x0 i_x1 (rg_m i_f_3 (by decide)) i_f_6 i_v_6 i_f_2 i_v_4 i_o_7z (rg_m (rg_b rfl : Rg (1) (1) ((1 : Int32))) (by decide)) hc_79 lw ky (sl_sq sx (by rw [e_7]; exact rem_lt (i_x7 : Rg (0) (599999) (x7)) (i_f_6 : Rg (1) (64) (x6)) (by decide))) sx
        · have _ := c_11
          exact zX0_layOut_141 hF @hk_79 (pmO_s hi_1003 rfl) T r_x0 i_x1 (rg_m i_f_3 (by decide)) i_f_6 i_v_6 i_f_2 i_v_4 i_o_7z (rg_m (rg_b rfl : Rg (0) (0) ((0 : Int32))) (by decide)) hc_79 lw ky (sl_sq sx (by rw [e_7]; exact rem_lt (i_x7 : Rg (0) (599999) (x7)) (i_f_6 : Rg (1) (64) (x6)) (by decide))) sx
set_option maxRecDepth 20000 in
theorem zX0_layOut_55 {ρ : Nat → Nat} {c : Cm} {F : Nat} (hF : 700000 ≤ F) (hi_1003 : pmO c 1003 [(34, 999), (35, 999), (36, 999), (4, 7)]) {h : Hp} {x0 : Nat} {x1 : Int32} {x2 : Int32} (T : TH ρ c h) (r_x0 : ρ x0 = 1) (i_x1 : Rg (0) (33554431) (x1)) (i_x2 : Rg (0) (599999) (x2)) (lw : (LwR ρ c h)) (ky : (KyD x1 h)) : Sat (sX0_layOut_55 F h x0 x1 x2) (ZI ρ c (0) (1)) := by
  unfold sX0_layOut_55 
  refine s_dI0 (zX0_sizeOf hF T i_x1) (fun o_1 eb_o_1 e_o_1 i_o_1 => ?_)
  have T_1 := th_eq e_o_1 T
  obtain ⟨r_2, e_r_2, q_r_2⟩ := thR T_1 r_x0 (k := 1) (i := 0) (k2 := 2) rfl (by decide)
  refine s_ref e_r_2 ?_
  refine s_q (fun v_3 e_2 => ?_)
  have i_v_3 : Rg (0) (64) (v_3) := by rw [e_2]; exact (thI T_1 q_r_2 (k := 2) (i := 2) rfl : Rg (0) (64) (hI o_1.2 r_2 2))
  have pf_3 : LwR ρ c o_1.2 := (by rw [e_o_1]; exact lw)
  have pf_4 : KyD x1 o_1.2 := (by rw [e_o_1]; exact ky)
  have m_5 : Rg (0) (5) ((0 : Int32)) := (rg_m (rg_b rfl : Rg (0) (0) ((0 : Int32))) (by decide))
  exact zX0_layOut_79 hF (pmO_s hi_1003 rfl) F T_1 r_x0 i_x1 i_o_1 i_v_3 i_x2 (rg_m (rg_b rfl : Rg (-1) (-1) ((- 1 : Int32))) (by decide)) (rg_m (rg_b rfl : Rg (0) (0) ((0 : Int32))) (by decide)) pf_3 pf_4 (sl_lw pf_3 q_r_2 (kid_w T_1 r_x0 (i := 0) rfl (by decide) e_r_2) e_2) (by have := m_5.1; have := m_5.2; omega)
set_option maxRecDepth 20000 in
theorem zX0_layOut_11 {ρ : Nat → Nat} {c : Cm} {F : Nat} (hF : 700000 ≤ F) (hi_1003 : pmO c 1003 [(34, 999), (35, 999), (36, 999), (4, 7)]) : ∀ (f : Nat) {h : Hp} {x0 : Nat} {x1 : Int32} {x2 : Int32} {x3 : Int64} {x5 : Int32}, TH ρ c h → ρ x0 = 1 → Rg (0) (33554431) (x1) → Rg (0) (599999) (x2) → Rg (0) (64) (x5) → (LwR ρ c h) → (KyD x1 h) → (64 - x5.toInt).toNat < f → Sat (sX0_layOut_11 F f h x0 x1 x2 x3 x5) (ZI ρ c (0) (1)) := by
  intro f
  induction f with
  | zero => intros; omega
  | succ f ih =>
    intro h x0 x1 x2 x3 x5 T r_x0 i_x1 i_x2 i_x5 lw ky hm
    rw [sX0_layOut_11]
    obtain ⟨C_11, hC_11⟩ : ∃ C : Int, C = x5.toInt := ⟨_, rfl⟩
    have hk_11 : ∀ {h : Hp} {x0 : Nat} {x1 : Int32} {x2 : Int32} {x3 : Int64} {x5 : Int32}, TH ρ c h → ρ x0 = 1 → Rg (0) (33554431) (x1) → Rg (0) (599999) (x2) → Rg (0) (64) (x5) → (LwR ρ c h) → (KyD x1 h) → C_11 < x5.toInt → Sat (sX0_layOut_11 F f h x0 x1 x2 x3 x5) (ZI ρ c (0) (1)) := by
      intro h' x0' x1' x2' x3' x5' T' r_x0' i_x1' i_x2' i_x5' lw' ky' hl
      exact ih T' r_x0' i_x1' i_x2' i_x5' lw' ky' (by have := i_x5'.1; have := i_x5'.2; omega)
    have hc_11 : C_11 ≤ x5.toInt := by omega
    refine s_br (fun c_1 => ?_) (fun c_1 => ?_)
    · have _ := c_1
      have i_f_2 : Rg (64) (64) (x5) := rg_le2 c_1 (rg_b rfl : Rg (64) (64) ((64 : Int32))) i_x5
      exact zX0_layOut_55 hF (pmO_s hi_1003 rfl) T r_x0 i_x1 i_x2 lw ky
    · have _ := c_1
      have i_f_3 : Rg (0) (63) (x5) := rg_lt1 (nle_lt c_1) i_x5 (rg_b rfl : Rg (64) (64) ((64 : Int32)))
      refine s_br (fun c_4 => ?_) (fun c_4 => ?_)
      · have _ := c_4
        exact zX0_layOut_55 hF (pmO_s hi_1003 rfl) T r_x0 i_x1 i_x2 lw ky
      · have _ := c_4
        obtain ⟨r_3, e_r_3, q_r_3⟩ := thR T r_x0 (k := 1) (i := 3) (k2 := 4) rfl (by decide)
        refine s_ref e_r_3 ?_
        refine s_dI0 (zX11_lowest hF T) (fun o_4 eb_o_4 e_o_4 i_o_4 => ?_)
        have T_5 := th_eq e_o_4 T
        obtain ⟨r_5, e_r_5, q_r_5⟩ := thR T_5 r_x0 (k := 1) (i := 0) (k2 := 2) rfl (by decide)
        refine s_ref e_r_5 ?_
        refine s_cVf (S := fS [] [(1003, [(34, 999), (35, 999), (36, 999), (4, 7)])]) T_5 (fs_sub pmA_n (fs_c (pmO_s hi_1003 rfl) fs_n)) (zX3_put hF (pmO_e (th_id T r_x0 (k := 1) (i := 3) (w := 1003) e_r_3 rfl (by decide)) (fs_o (.head _)) rfl) (th_in _ T_5) q_r_3 (rg_m i_o_4 (by decide)) (rg_m (rg_b rfl : Rg (-1) (-1) ((- 1 : Int32))) (by decide)) (rg_m (thI T_5 q_r_5 (k := 2) (i := 4) rfl : Rg (-1) (11) ((hI o_4.2 r_5 4))) (by decide)) (fun z => absurd z (by have := ((rg_b rfl : Rg (-1) (-1) ((- 1 : Int32))) : Rg (-1) (-1) (((- 1 : Int32)))).2; omega))) (fun o_6 T_6 f_o_6 => ?_)
        refine s_q (fun v_7 e_7 => ?_)
        refine s_q (fun v_8 e_8 => ?_)
        have i_v_8 : Rg (1) (64) (v_8) := by rw [e_8]; exact (rg_add i_f_3 (rg_b rfl : Rg (1) (1) ((1 : Int32))) (by decide) : Rg (1) (64) (x5 + (1 : Int32)))
        have pf_9 : LwR ρ c o_6 := (lw_fr T_5  f_o_6 (fun _ => rfl) (fun _ => rfl) (fun _ => rfl) (by rw [e_o_4]; exact lw))
        have pf_10 : KyD x1 o_6 := (ky_fr T_5  f_o_6  (by rw [e_o_4]; exact ky))
        have m_11 : (v_8).toInt = x5.toInt + 1 := by rw [e_8]; exact rg_inc i_f_3 (by decide)
        exact hk_11 T_6 r_x0 i_x1 i_x2 (rg_m i_v_8 (by decide)) pf_9 pf_10 (by have := hc_11; omega)
set_option maxRecDepth 20000 in
theorem zX0_layOut {ρ : Nat → Nat} {c : Cm} {F : Nat} (hF : 700000 ≤ F) (hi_1003 : pmO c 1003 [(34, 999), (35, 999), (36, 999), (4, 7)]) {h : Hp} {x0 : Nat} {x1 : Int32} {x2 : Int32} (T : TH ρ c h) (r_x0 : ρ x0 = 1) (i_x1 : Rg (0) (33554431) (x1)) (i_x2 : Rg (0) (599999) (x2)) (lw : (LwR ρ c h)) (ky : (KyD x1 h)) : Sat (sX0_layOut F h x0 x1 x2) (ZI ρ c (0) (1)) := by
  unfold sX0_layOut 
  obtain ⟨r_1, e_r_1, q_r_1⟩ := thR T r_x0 (k := 1) (i := 3) (k2 := 4) rfl (by decide)
  refine s_ref e_r_1 ?_
  refine s_dJ0 (zX3_occupied hF T q_r_1) (fun o_2 eb_o_2 e_o_2 => ?_)
  have T_1 := th_eq e_o_2 T
  have pf_2 : LwR ρ c o_2.2 := (by rw [e_o_2]; exact lw)
  have pf_3 : KyD x1 o_2.2 := (by rw [e_o_2]; exact ky)
  have m_4 : Rg (0) (64) ((0 : Int32)) := (rg_m (rg_b rfl : Rg (0) (0) ((0 : Int32))) (by decide))
  exact zX0_layOut_11 hF (pmO_s hi_1003 rfl) F T_1 r_x0 i_x1 i_x2 (rg_m (rg_b rfl : Rg (0) (0) ((0 : Int32))) (by decide)) pf_2 pf_3 (by have := m_4.1; have := m_4.2; omega)
set_option maxRecDepth 20000 in
theorem zX0_countWorth_29 {ρ : Nat → Nat} {c : Cm} {h0 : Hp} {F : Nat} (hF : 700000 ≤ F) : ∀ (f : Nat) {h : Hp} {x0 : Nat} {x1 : Int32} {x2 : Int32} {x3 : Int32} {x4 : Int32} {x5 : Int32}, h = h0 → TH ρ c h → ρ x0 = 1 → Rg (0) (1) (x1) → Rg (-1000000) (1000000) (x2) → Rg (-1) (1023) (x3) → Rg (-2147483648) (2147483647) (x4) → Rg (0) (600000) (x5) → (LenP x0 h) → (EvP x0 h) → (x5.toInt % 2 = 0) → ((600000 - x5.toInt) - (0)).toNat < f → Sat (sX0_countWorth_29 F f h x0 x1 x2 x3 x4 x5) (ZI0 h0 (-2147483648) (2147483647)) := by
  intro f
  induction f with
  | zero => intros; omega
  | succ f ih =>
    intro h x0 x1 x2 x3 x4 x5 E T r_x0 i_x1 i_x2 i_x3 i_x4 i_x5 ln ep pe hm
    rw [sX0_countWorth_29]
    unfold sX0_countWorth_76 sX0_countWorth_67
    obtain ⟨C_29, hC_29⟩ : ∃ C : Int, C = (600000 - x5.toInt) := ⟨_, rfl⟩
    have hk_29 : ∀ {h : Hp} {x0 : Nat} {x1 : Int32} {x2 : Int32} {x3 : Int32} {x4 : Int32} {x5 : Int32}, h = h0 → TH ρ c h → ρ x0 = 1 → Rg (0) (1) (x1) → Rg (-1000000) (1000000) (x2) → Rg (-1) (1023) (x3) → Rg (-2147483648) (2147483647) (x4) → Rg (0) (600000) (x5) → (LenP x0 h) → (EvP x0 h) → (x5.toInt % 2 = 0) → (0 ≤ (600000 - x5.toInt) ∧ (600000 - x5.toInt) < C_29) → Sat (sX0_countWorth_29 F f h x0 x1 x2 x3 x4 x5) (ZI0 h0 (-2147483648) (2147483647)) := by
      intro h' x0' x1' x2' x3' x4' x5' E' T' r_x0' i_x1' i_x2' i_x3' i_x4' i_x5' ln' ep' pe' hl
      exact ih E' T' r_x0' i_x1' i_x2' i_x3' i_x4' i_x5' ln' ep' pe' (by omega)
    have hc_29 : (0 ≤ (600000 - x5.toInt) ∧ (600000 - x5.toInt) ≤ C_29) := (by have := (i_x5 : Rg (0) (600000) (x5)).1; have := (i_x5 : Rg (0) (600000) (x5)).2; omega)
    refine s_br (fun c_1 => ?_) (fun c_1 => ?_)
    · have _ := c_1
      have i_f_2 : Rg (-1) (-1) (x3) := rg_eq c_1 (rg_b rfl : Rg (-1) (-1) ((- 1 : Int32)))
      exact s_some ⟨E, i_x4⟩
    · have _ := c_1
      have i_f_3 : Rg (0) (1023) (x3) := rg_nlo c_1 i_x3 (rg_b rfl : Rg (-1) (-1) ((- 1 : Int32)))
      obtain ⟨r_2, e_r_2, q_r_2⟩ := thR T r_x0 (k := 1) (i := 5) (k2 := 21) rfl (by decide)
      refine s_ref e_r_2 ?_
      have ev_4 : (hI h r_2 (x3 + (1 : Int32)).toNatClampNeg).toInt % 2 = 0 := ep _ e_r_2 _
      refine s_gd (by rw [thN T q_r_2 (k := 21) (n := 1025) rfl (by decide)]; exact rg_inB ((rg_m (rg_add i_f_3 (rg_b rfl : Rg (1) (1) ((1 : Int32))) (by decide) : Rg (1) (1024) ((x3 + (1 : Int32)))) (by decide)) : Rg (0) (1024) ((x3 + (1 : Int32)))) (by decide)) ?_
      refine s_br (fun c_5 => ?_) (fun c_5 => ?_)
      · have _ := c_5
        exact s_some ⟨E, i_x4⟩
      · have _ := c_5
        have i_f_6 : Rg (0) (599999) (x5) := rg_lt1 (nle_lt c_5) i_x5 (thI T q_r_2 (k := 21) rfl : Rg (0) (600000) ((hI h r_2 (x3 + (1 : Int32)).toNatClampNeg)))
        have i_f_7 : Rg (1) (600000) ((hI h r_2 (x3 + (1 : Int32)).toNatClampNeg)) := rg_lt2 (nle_lt c_5) i_x5 (thI T q_r_2 (k := 21) rfl : Rg (0) (600000) ((hI h r_2 (x3 + (1 : Int32)).toNatClampNeg)))
        obtain ⟨r_5, e_r_5, q_r_5⟩ := thR T r_x0 (k := 1) (i := 11) (k2 := 24) rfl (by decide)
        refine s_ref e_r_5 ?_
        have pu_8 : (nI (hN h r_5)).toInt = 600000 := len_u11 ln r_5 e_r_5
        have og_9 : Rg (0) (599999) ((x5 + x1)) := ⟨(by have : ((x5 + x1) : Int32).toInt = (x5 : Int32).toInt + (x1 : Int32).toInt := ti_add (i_f_6 : Rg (0) (599999) (x5)) (i_x1 : Rg (0) (1) (x1)) (by decide); have := (i_f_6 : Rg (0) (599999) (x5)).1; have := (i_f_6 : Rg (0) (599999) (x5)).2; have := (i_x1 : Rg (0) (1) (x1)).1; have := (i_x1 : Rg (0) (1) (x1)).2; have := (i_f_3 : Rg (0) (1023) (x3)).1; have := (i_f_3 : Rg (0) (1023) (x3)).2; have := ne_i c_1; have : ((- 1 : Int32)).toInt = -1 := rfl; have := nle_i c_5; have := (i_f_7 : Rg (1) (600000) ((hI h r_2 (x3 + (1 : Int32)).toNatClampNeg))).1; have := (i_f_7 : Rg (1) (600000) ((hI h r_2 (x3 + (1 : Int32)).toNatClampNeg))).2; omega), (by have : ((x5 + x1) : Int32).toInt = (x5 : Int32).toInt + (x1 : Int32).toInt := ti_add (i_f_6 : Rg (0) (599999) (x5)) (i_x1 : Rg (0) (1) (x1)) (by decide); have := (i_f_6 : Rg (0) (599999) (x5)).1; have := (i_f_6 : Rg (0) (599999) (x5)).2; have := (i_x1 : Rg (0) (1) (x1)).1; have := (i_x1 : Rg (0) (1) (x1)).2; have := (i_f_3 : Rg (0) (1023) (x3)).1; have := (i_f_3 : Rg (0) (1023) (x3)).2; have := ne_i c_1; have : ((- 1 : Int32)).toInt = -1 := rfl; have := nle_i c_5; have := (i_f_7 : Rg (1) (600000) ((hI h r_2 (x3 + (1 : Int32)).toNatClampNeg))).1; have := (i_f_7 : Rg (1) (600000) ((hI h r_2 (x3 + (1 : Int32)).toNatClampNeg))).2; omega)⟩
        refine s_gd (by rw [ln 11 _ (by decide) e_r_5]; exact rg_inB (og_9 : Rg (0) (599999) ((x5 + x1))) (by decide)) ?_
        refine s_br (fun c_10 => ?_) (fun c_10 => ?_)
        · have _ := c_10
          have i_f_11 : Rg (-1000000) (1000000) ((hI h r_5 (x5 + x1).toNatClampNeg)) := rg_eq c_10 i_x2
          refine s_q (fun v_1q3 e_12 => ?_)
          have i_v_1q3 : Rg (-2147483648) (2147483647) (v_1q3) := by rw [e_12]; exact (rg_top _ : Rg (-2147483648) (2147483647) (x4 + (1 : Int32)))
          refine s_q (fun v_2q3 e_13 => ?_)
          have i_v_2q3 : Rg (2) (600001) (v_2q3) := by rw [e_13]; exact (rg_add i_f_6 (rg_b rfl : Rg (2) (2) ((2 : Int32))) (by decide) : Rg (2) (600001) (x5 + (2 : Int32)))
          have og_14 : Rg (0) (600000) (v_2q3) := ⟨(by have := (i_v_2q3 : Rg (2) (600001) (v_2q3)).1; have := (i_v_2q3 : Rg (2) (600001) (v_2q3)).2; have : (v_2q3).toInt = (x5 + (2 : Int32) : Int32).toInt := congrArg Int32.toInt e_13; have : (x5 + (2 : Int32) : Int32).toInt = (x5 : Int32).toInt + ((2 : Int32) : Int32).toInt := ti_add (i_f_6 : Rg (0) (599999) (x5)) ((rg_b rfl : Rg (2) (2) ((2 : Int32))) : Rg (2) (2) ((2 : Int32))) (by decide); have := (i_f_6 : Rg (0) (599999) (x5)).1; have := (i_f_6 : Rg (0) (599999) (x5)).2; have : ((2 : Int32)).toInt = 2 := rfl; have := (i_f_3 : Rg (0) (1023) (x3)).1; have := (i_f_3 : Rg (0) (1023) (x3)).2; have := ne_i c_1; have : ((- 1 : Int32)).toInt = -1 := rfl; have := nle_i c_5; have := (i_f_7 : Rg (1) (600000) ((hI h r_2 (x3 + (1 : Int32)).toNatClampNeg))).1; have := (i_f_7 : Rg (1) (600000) ((hI h r_2 (x3 + (1 : Int32)).toNatClampNeg))).2; have := eq_i c_10; have := (i_f_11 : Rg (-1000000) (1000000) ((hI h r_5 (x5 + x1).toNatClampNeg))).1; have := (i_f_11 : Rg (-1000000) (1000000) ((hI h r_5 (x5 + x1).toNatClampNeg))).2; have := (i_x2 : Rg (-1000000) (1000000) (x2)).1; have := (i_x2 : Rg (-1000000) (1000000) (x2)).2; omega), (by have := (i_v_2q3 : Rg (2) (600001) (v_2q3)).1; have := (i_v_2q3 : Rg (2) (600001) (v_2q3)).2; have : (v_2q3).toInt = (x5 + (2 : Int32) : Int32).toInt := congrArg Int32.toInt e_13; have : (x5 + (2 : Int32) : Int32).toInt = (x5 : Int32).toInt + ((2 : Int32) : Int32).toInt := ti_add (i_f_6 : Rg (0) (599999) (x5)) ((rg_b rfl : Rg (2) (2) ((2 : Int32))) : Rg (2) (2) ((2 : Int32))) (by decide); have := (i_f_6 : Rg (0) (599999) (x5)).1; have := (i_f_6 : Rg (0) (599999) (x5)).2; have : ((2 : Int32)).toInt = 2 := rfl; have := (i_f_3 : Rg (0) (1023) (x3)).1; have := (i_f_3 : Rg (0) (1023) (x3)).2; have := ne_i c_1; have : ((- 1 : Int32)).toInt = -1 := rfl; have := nle_i c_5; have := (i_f_7 : Rg (1) (600000) ((hI h r_2 (x3 + (1 : Int32)).toNatClampNeg))).1; have := (i_f_7 : Rg (1) (600000) ((hI h r_2 (x3 + (1 : Int32)).toNatClampNeg))).2; have := eq_i c_10; have := (i_f_11 : Rg (-1000000) (1000000) ((hI h r_5 (x5 + x1).toNatClampNeg))).1; have := (i_f_11 : Rg (-1000000) (1000000) ((hI h r_5 (x5 + x1).toNatClampNeg))).2; have := (i_x2 : Rg (-1000000) (1000000) (x2)).1; have := (i_x2 : Rg (-1000000) (1000000) (x2)).2; omega)⟩
          exact hk_29 E T r_x0 i_x1 i_x2 (rg_m i_f_3 (by decide)) i_v_1q3 og_14 ln ep (show (v_2q3).toInt % 2 = 0 from (by have := (i_v_2q3 : Rg (2) (600001) (v_2q3)).1; have := (i_v_2q3 : Rg (2) (600001) (v_2q3)).2; have : (v_2q3).toInt = (x5 + (2 : Int32) : Int32).toInt := congrArg Int32.toInt e_13; have : (x5 + (2 : Int32) : Int32).toInt = (x5 : Int32).toInt + ((2 : Int32) : Int32).toInt := ti_add (i_f_6 : Rg (0) (599999) (x5)) ((rg_b rfl : Rg (2) (2) ((2 : Int32))) : Rg (2) (2) ((2 : Int32))) (by decide); have := (i_f_6 : Rg (0) (599999) (x5)).1; have := (i_f_6 : Rg (0) (599999) (x5)).2; have : ((2 : Int32)).toInt = 2 := rfl; have := (i_f_3 : Rg (0) (1023) (x3)).1; have := (i_f_3 : Rg (0) (1023) (x3)).2; have := ne_i c_1; have : ((- 1 : Int32)).toInt = -1 := rfl; have := nle_i c_5; have := (i_f_7 : Rg (1) (600000) ((hI h r_2 (x3 + (1 : Int32)).toNatClampNeg))).1; have := (i_f_7 : Rg (1) (600000) ((hI h r_2 (x3 + (1 : Int32)).toNatClampNeg))).2; have := eq_i c_10; have := (i_f_11 : Rg (-1000000) (1000000) ((hI h r_5 (x5 + x1).toNatClampNeg))).1; have := (i_f_11 : Rg (-1000000) (1000000) ((hI h r_5 (x5 + x1).toNatClampNeg))).2; have := (i_x2 : Rg (-1000000) (1000000) (x2)).1; have := (i_x2 : Rg (-1000000) (1000000) (x2)).2; omega)) (show (0 ≤ (600000 - (v_2q3).toInt) ∧ (600000 - (v_2q3).toInt) < C_29) from (by have := (i_v_2q3 : Rg (2) (600001) (v_2q3)).1; have := (i_v_2q3 : Rg (2) (600001) (v_2q3)).2; have : (v_2q3).toInt = (x5 + (2 : Int32) : Int32).toInt := congrArg Int32.toInt e_13; have : (x5 + (2 : Int32) : Int32).toInt = (x5 : Int32).toInt + ((2 : Int32) : Int32).toInt := ti_add (i_f_6 : Rg (0) (599999) (x5)) ((rg_b rfl : Rg (2) (2) ((2 : Int32))) : Rg (2) (2) ((2 : Int32))) (by decide); have := (i_f_6 : Rg (0) (599999) (x5)).1; have := (i_f_6 : Rg (0) (599999) (x5)).2; have : ((2 : Int32)).toInt = 2 := rfl; have := (i_f_3 : Rg (0) (1023) (x3)).1; have := (i_f_3 : Rg (0) (1023) (x3)).2; have := ne_i c_1; have : ((- 1 : Int32)).toInt = -1 := rfl; have := nle_i c_5; have := (i_f_7 : Rg (1) (600000) ((hI h r_2 (x3 + (1 : Int32)).toNatClampNeg))).1; have := (i_f_7 : Rg (1) (600000) ((hI h r_2 (x3 + (1 : Int32)).toNatClampNeg))).2; have := eq_i c_10; have := (i_f_11 : Rg (-1000000) (1000000) ((hI h r_5 (x5 + x1).toNatClampNeg))).1; have := (i_f_11 : Rg (-1000000) (1000000) ((hI h r_5 (x5 + x1).toNatClampNeg))).2; have := (i_x2 : Rg (-1000000) (1000000) (x2)).1; have := (i_x2 : Rg (-1000000) (1000000) (x2)).2; omega))
        · have _ := c_10
          refine s_q (fun v_1q4 e_15 => ?_)
          have i_v_1q4 : Rg (-2147483648) (2147483647) (v_1q4) := by rw [e_15]; exact (rg_add i_x4 (rg_b rfl : Rg (0) (0) ((0 : Int32))) (by decide) : Rg (-2147483648) (2147483647) (x4 + (0 : Int32)))
          refine s_q (fun v_2q4 e_16 => ?_)
          have i_v_2q4 : Rg (2) (600001) (v_2q4) := by rw [e_16]; exact (rg_add i_f_6 (rg_b rfl : Rg (2) (2) ((2 : Int32))) (by decide) : Rg (2) (600001) (x5 + (2 : Int32)))
          have og_17 : Rg (0) (600000) (v_2q4) := ⟨(by have := (i_v_2q4 : Rg (2) (600001) (v_2q4)).1; have := (i_v_2q4 : Rg (2) (600001) (v_2q4)).2; have : (v_2q4).toInt = (x5 + (2 : Int32) : Int32).toInt := congrArg Int32.toInt e_16; have : (x5 + (2 : Int32) : Int32).toInt = (x5 : Int32).toInt + ((2 : Int32) : Int32).toInt := ti_add (i_f_6 : Rg (0) (599999) (x5)) ((rg_b rfl : Rg (2) (2) ((2 : Int32))) : Rg (2) (2) ((2 : Int32))) (by decide); have := (i_f_6 : Rg (0) (599999) (x5)).1; have := (i_f_6 : Rg (0) (599999) (x5)).2; have : ((2 : Int32)).toInt = 2 := rfl; have := (i_f_3 : Rg (0) (1023) (x3)).1; have := (i_f_3 : Rg (0) (1023) (x3)).2; have := ne_i c_1; have : ((- 1 : Int32)).toInt = -1 := rfl; have := nle_i c_5; have := (i_f_7 : Rg (1) (600000) ((hI h r_2 (x3 + (1 : Int32)).toNatClampNeg))).1; have := (i_f_7 : Rg (1) (600000) ((hI h r_2 (x3 + (1 : Int32)).toNatClampNeg))).2; have := ne_i c_10; have hq_ := ((thI T q_r_5 (k := 24) rfl : Rg (-4000000) (4000000) ((hI h r_5 (x5 + x1).toNatClampNeg))) : Rg (-4000000) (4000000) ((hI h r_5 (x5 + x1).toNatClampNeg))); have := hq_.1; have := hq_.2; have := (i_x2 : Rg (-1000000) (1000000) (x2)).1; have := (i_x2 : Rg (-1000000) (1000000) (x2)).2; omega), (by have := (i_v_2q4 : Rg (2) (600001) (v_2q4)).1; have := (i_v_2q4 : Rg (2) (600001) (v_2q4)).2; have : (v_2q4).toInt = (x5 + (2 : Int32) : Int32).toInt := congrArg Int32.toInt e_16; have : (x5 + (2 : Int32) : Int32).toInt = (x5 : Int32).toInt + ((2 : Int32) : Int32).toInt := ti_add (i_f_6 : Rg (0) (599999) (x5)) ((rg_b rfl : Rg (2) (2) ((2 : Int32))) : Rg (2) (2) ((2 : Int32))) (by decide); have := (i_f_6 : Rg (0) (599999) (x5)).1; have := (i_f_6 : Rg (0) (599999) (x5)).2; have : ((2 : Int32)).toInt = 2 := rfl; have := (i_f_3 : Rg (0) (1023) (x3)).1; have := (i_f_3 : Rg (0) (1023) (x3)).2; have := ne_i c_1; have : ((- 1 : Int32)).toInt = -1 := rfl; have := nle_i c_5; have := (i_f_7 : Rg (1) (600000) ((hI h r_2 (x3 + (1 : Int32)).toNatClampNeg))).1; have := (i_f_7 : Rg (1) (600000) ((hI h r_2 (x3 + (1 : Int32)).toNatClampNeg))).2; have := ne_i c_10; have hq_ := ((thI T q_r_5 (k := 24) rfl : Rg (-4000000) (4000000) ((hI h r_5 (x5 + x1).toNatClampNeg))) : Rg (-4000000) (4000000) ((hI h r_5 (x5 + x1).toNatClampNeg))); have := hq_.1; have := hq_.2; have := (i_x2 : Rg (-1000000) (1000000) (x2)).1; have := (i_x2 : Rg (-1000000) (1000000) (x2)).2; omega)⟩
          exact hk_29 E T r_x0 i_x1 i_x2 (rg_m i_f_3 (by decide)) i_v_1q4 og_17 ln ep (show (v_2q4).toInt % 2 = 0 from (by have := (i_v_2q4 : Rg (2) (600001) (v_2q4)).1; have := (i_v_2q4 : Rg (2) (600001) (v_2q4)).2; have : (v_2q4).toInt = (x5 + (2 : Int32) : Int32).toInt := congrArg Int32.toInt e_16; have : (x5 + (2 : Int32) : Int32).toInt = (x5 : Int32).toInt + ((2 : Int32) : Int32).toInt := ti_add (i_f_6 : Rg (0) (599999) (x5)) ((rg_b rfl : Rg (2) (2) ((2 : Int32))) : Rg (2) (2) ((2 : Int32))) (by decide); have := (i_f_6 : Rg (0) (599999) (x5)).1; have := (i_f_6 : Rg (0) (599999) (x5)).2; have : ((2 : Int32)).toInt = 2 := rfl; have := (i_f_3 : Rg (0) (1023) (x3)).1; have := (i_f_3 : Rg (0) (1023) (x3)).2; have := ne_i c_1; have : ((- 1 : Int32)).toInt = -1 := rfl; have := nle_i c_5; have := (i_f_7 : Rg (1) (600000) ((hI h r_2 (x3 + (1 : Int32)).toNatClampNeg))).1; have := (i_f_7 : Rg (1) (600000) ((hI h r_2 (x3 + (1 : Int32)).toNatClampNeg))).2; have := ne_i c_10; have hq_ := ((thI T q_r_5 (k := 24) rfl : Rg (-4000000) (4000000) ((hI h r_5 (x5 + x1).toNatClampNeg))) : Rg (-4000000) (4000000) ((hI h r_5 (x5 + x1).toNatClampNeg))); have := hq_.1; have := hq_.2; have := (i_x2 : Rg (-1000000) (1000000) (x2)).1; have := (i_x2 : Rg (-1000000) (1000000) (x2)).2; omega)) (show (0 ≤ (600000 - (v_2q4).toInt) ∧ (600000 - (v_2q4).toInt) < C_29) from (by have := (i_v_2q4 : Rg (2) (600001) (v_2q4)).1; have := (i_v_2q4 : Rg (2) (600001) (v_2q4)).2; have : (v_2q4).toInt = (x5 + (2 : Int32) : Int32).toInt := congrArg Int32.toInt e_16; have : (x5 + (2 : Int32) : Int32).toInt = (x5 : Int32).toInt + ((2 : Int32) : Int32).toInt := ti_add (i_f_6 : Rg (0) (599999) (x5)) ((rg_b rfl : Rg (2) (2) ((2 : Int32))) : Rg (2) (2) ((2 : Int32))) (by decide); have := (i_f_6 : Rg (0) (599999) (x5)).1; have := (i_f_6 : Rg (0) (599999) (x5)).2; have : ((2 : Int32)).toInt = 2 := rfl; have := (i_f_3 : Rg (0) (1023) (x3)).1; have := (i_f_3 : Rg (0) (1023) (x3)).2; have := ne_i c_1; have : ((- 1 : Int32)).toInt = -1 := rfl; have := nle_i c_5; have := (i_f_7 : Rg (1) (600000) ((hI h r_2 (x3 + (1 : Int32)).toNatClampNeg))).1; have := (i_f_7 : Rg (1) (600000) ((hI h r_2 (x3 + (1 : Int32)).toNatClampNeg))).2; have := ne_i c_10; have hq_ := ((thI T q_r_5 (k := 24) rfl : Rg (-4000000) (4000000) ((hI h r_5 (x5 + x1).toNatClampNeg))) : Rg (-4000000) (4000000) ((hI h r_5 (x5 + x1).toNatClampNeg))); have := hq_.1; have := hq_.2; have := (i_x2 : Rg (-1000000) (1000000) (x2)).1; have := (i_x2 : Rg (-1000000) (1000000) (x2)).2; omega))
set_option maxRecDepth 20000 in
theorem zX0_countWorth {ρ : Nat → Nat} {c : Cm} {F : Nat} (hF : 700000 ≤ F) {h : Hp} {x0 : Nat} {x1 : Int32} {x2 : Int32} (T : TH ρ c h) (r_x0 : ρ x0 = 1) (i_x1 : Rg (0) (1) (x1)) (i_x2 : Rg (-1000000) (1000000) (x2)) (ln : (LenP x0 h)) (ep : (EvP x0 h)) : Sat (sX0_countWorth F h x0 x1 x2) (ZI0 h (-2147483648) (2147483647)) := by
  unfold sX0_countWorth sX0_countWorth_27
  refine s_dI0 (zX0_findSet hF T r_x0 (rg_m (thI T r_x0 (k := 1) (i := 15) rfl : Rg (0) (33554431) ((hI h x0 15))) (by decide))) (fun o_1 eb_o_1 e_o_1 i_o_1 => ?_)
  have T_1 := th_eq e_o_1 T
  refine s_br (fun c_2 => ?_) (fun c_2 => ?_)
  · have _ := c_2
    have i_f_3 : Rg (-1) (-1) (o_1.1) := rg_eq c_2 (rg_b rfl : Rg (-1) (-1) ((- 1 : Int32)))
    have pf_4 : LenP x0 o_1.2 := (by rw [e_o_1]; exact ln)
    have pf_5 : EvP x0 o_1.2 := (by rw [e_o_1]; exact ep)
    exact zX0_countWorth_29 hF F (e_o_1.trans rfl) T_1 r_x0 i_x1 i_x2 (rg_m i_f_3 (by decide)) (rg_m (rg_b rfl : Rg (0) (0) ((0 : Int32))) (by decide)) (rg_m (rg_b rfl : Rg (0) (0) ((0 : Int32))) (by decide)) pf_4 pf_5 (show ((0 : Int32)).toInt % 2 = 0 from (by have : ((0 : Int32)).toInt = 0 := rfl; omega)) (show ((600000 - ((0 : Int32)).toInt) - 0).toNat < F from (by have := (i_x1 : Rg (0) (1) (x1)).1; have := (i_x1 : Rg (0) (1) (x1)).2; have := (i_x2 : Rg (-1000000) (1000000) (x2)).1; have := (i_x2 : Rg (-1000000) (1000000) (x2)).2; have := (i_f_3 : Rg (-1) (-1) (o_1.1)).1; have := (i_f_3 : Rg (-1) (-1) (o_1.1)).2; have : ((0 : Int32)).toInt = 0 := rfl; have := eq_i c_2; have : ((- 1 : Int32)).toInt = -1 := rfl; omega))
  · have _ := c_2
    have i_f_6 : Rg (0) (1023) (o_1.1) := rg_nlo c_2 i_o_1 (rg_b rfl : Rg (-1) (-1) ((- 1 : Int32)))
    obtain ⟨r_3, e_r_3, q_r_3⟩ := thR T_1 r_x0 (k := 1) (i := 5) (k2 := 21) rfl (by decide)
    refine s_ref e_r_3 ?_
    have pf_7 : EvP x0 o_1.2 := (by rw [e_o_1]; exact ep)
    have ev_8 : (hI o_1.2 r_3 o_1.1.toNatClampNeg).toInt % 2 = 0 := pf_7 _ e_r_3 _
    refine s_gd (by rw [thN T_1 q_r_3 (k := 21) (n := 1025) rfl (by decide)]; exact rg_inB ((rg_m i_f_6 (by decide)) : Rg (0) (1024) (o_1.1)) (by decide)) ?_
    have pf_9 : LenP x0 o_1.2 := (by rw [e_o_1]; exact ln)
    exact zX0_countWorth_29 hF F (e_o_1.trans rfl) T_1 r_x0 i_x1 i_x2 (rg_m i_f_6 (by decide)) (rg_m (rg_b rfl : Rg (0) (0) ((0 : Int32))) (by decide)) (thI T_1 q_r_3 (k := 21) rfl : Rg (0) (600000) ((hI o_1.2 r_3 o_1.1.toNatClampNeg))) pf_9 pf_7 (show ((hI o_1.2 r_3 o_1.1.toNatClampNeg)).toInt % 2 = 0 from (by have hq_ := ((thI T_1 q_r_3 (k := 21) rfl : Rg (0) (600000) ((hI o_1.2 r_3 o_1.1.toNatClampNeg))) : Rg (0) (600000) ((hI o_1.2 r_3 o_1.1.toNatClampNeg))); have := hq_.1; have := hq_.2; have : (hI o_1.2 r_3 o_1.1.toNatClampNeg).toInt = (hI h r_3 o_1.1.toNatClampNeg).toInt := congrArg Int32.toInt (he_e e_o_1); have := (i_f_6 : Rg (0) (1023) (o_1.1)).1; have := (i_f_6 : Rg (0) (1023) (o_1.1)).2; have := ne_i c_2; have : ((- 1 : Int32)).toInt = -1 := rfl; omega)) (show ((600000 - ((hI o_1.2 r_3 o_1.1.toNatClampNeg)).toInt) - 0).toNat < F from (by have := (i_x1 : Rg (0) (1) (x1)).1; have := (i_x1 : Rg (0) (1) (x1)).2; have := (i_x2 : Rg (-1000000) (1000000) (x2)).1; have := (i_x2 : Rg (-1000000) (1000000) (x2)).2; have := (i_f_6 : Rg (0) (1023) (o_1.1)).1; have := (i_f_6 : Rg (0) (1023) (o_1.1)).2; have : ((0 : Int32)).toInt = 0 := rfl; have hq_ := ((thI T_1 q_r_3 (k := 21) rfl : Rg (0) (600000) ((hI o_1.2 r_3 o_1.1.toNatClampNeg))) : Rg (0) (600000) ((hI o_1.2 r_3 o_1.1.toNatClampNeg))); have := hq_.1; have := hq_.2; have : (hI o_1.2 r_3 o_1.1.toNatClampNeg).toInt = (hI h r_3 o_1.1.toNatClampNeg).toInt := congrArg Int32.toInt (he_e e_o_1); have := ne_i c_2; have : ((- 1 : Int32)).toInt = -1 := rfl; omega))
set_option maxRecDepth 20000 in
theorem zX5_isBare {ρ : Nat → Nat} {c : Cm} {F : Nat} (hF : 700000 ≤ F) {h : Hp} {x0 : Nat} {x1 : Nat} {x2 : Int32} (T : TH ρ c h) (r_x0 : ρ x0 = 6) (r_x1 : ρ x1 = 4) (i_x2 : Rg (0) (1) (x2)) : Sat (sX5_isBare h x0 x1 x2) (ZI0 h (0) (1)) := by
  unfold sX5_isBare sX5_isBare_27 sX5_isBare_26
  obtain ⟨r_1, e_r_1, q_r_1⟩ := thR T r_x1 (k := 4) (i := 1) (k2 := 35) rfl (by decide)
  refine s_ref e_r_1 ?_
  refine s_gd (by rw [thN T q_r_1 (k := 35) (n := 2) rfl (by decide)]; exact rg_inB (i_x2 : Rg (0) (1) (x2)) (by decide)) ?_
  refine s_br (fun c_1 => ?_) (fun c_1 => ?_)
  · have _ := c_1
    obtain ⟨r_4, e_r_4, q_r_4⟩ := thR T r_x1 (k := 4) (i := 3) (k2 := 37) rfl (by decide)
    refine s_ref e_r_4 ?_
    refine s_gd (by rw [thN T q_r_4 (k := 37) (n := 2) rfl (by decide)]; exact rg_inB (i_x2 : Rg (0) (1) (x2)) (by decide)) ?_
    refine s_br (fun c_2 => ?_) (fun c_2 => ?_)
    · have _ := c_2
      refine s_gd (rg_bool (rg_m (rg_b rfl : Rg (1) (1) ((1 : Int32))) (by decide))) ?_
      exact s_some ⟨rfl, (rg_m (rg_b rfl : Rg (1) (1) ((1 : Int32))) (by decide))⟩
    · have _ := c_2
      refine s_gd (rg_bool (rg_m (rg_b rfl : Rg (0) (0) ((0 : Int32))) (by decide))) ?_
      exact s_some ⟨rfl, (rg_m (rg_b rfl : Rg (0) (0) ((0 : Int32))) (by decide))⟩
  · have _ := c_1
    refine s_gd (rg_bool (rg_m (rg_b rfl : Rg (0) (0) ((0 : Int32))) (by decide))) ?_
    exact s_some ⟨rfl, (rg_m (rg_b rfl : Rg (0) (0) ((0 : Int32))) (by decide))⟩
