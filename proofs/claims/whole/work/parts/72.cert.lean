theorem s_onr {β : Type} {Q : β → Prop} {x : Option Nat} {k0 : Option β} {k : Nat → Option β} (h0 : x = none → Sat k0 Q) (h1 : ∀ r, x = some r → Sat (k r) Q) : Sat (onr x k0 k) Q := by
  cases q : x with
  | none => exact h0 q
  | some r => exact h1 r q
theorem s_onr_some {β : Type} {Q : β → Prop} {x : Option Nat} {r : Nat} {k0 : Option β} {k : Nat → Option β} (e : x = some r) (h1 : Sat (k r) Q) : Sat (onr x k0 k) Q := by
  subst e; exact h1
theorem rz0 {x : Int32} (h : Rg 0 0 x) : x = 0 := by
  rw [← Int32.toInt_inj, show (0 : Int32).toInt = 0 from rfl]
  have := h.1; have := h.2
  omega
theorem nid_1 : ∀ k' i', nid k' i' = 1 → k' = 3 ∧ i' = 0 := by
  intro k i h
  unfold nid at h
  split at h <;> first | (exact absurd h (by decide)) | exact ⟨rfl, rfl⟩
theorem nid_2 : ∀ k' i', nid k' i' = 2 → k' = 3 ∧ i' = 1 := by
  intro k i h
  unfold nid at h
  split at h <;> first | (exact absurd h (by decide)) | exact ⟨rfl, rfl⟩
theorem nid_3 : ∀ k' i', nid k' i' = 3 → k' = 6 ∧ i' = 4 := by
  intro k i h
  unfold nid at h
  split at h <;> first | (exact absurd h (by decide)) | exact ⟨rfl, rfl⟩
theorem nid_4 : ∀ k' i', nid k' i' = 4 → k' = 6 ∧ i' = 5 := by
  intro k i h
  unfold nid at h
  split at h <;> first | (exact absurd h (by decide)) | exact ⟨rfl, rfl⟩
theorem nid_5 : ∀ k' i', nid k' i' = 5 → k' = 8 ∧ i' = 1 := by
  intro k i h
  unfold nid at h
  split at h <;> first | (exact absurd h (by decide)) | exact ⟨rfl, rfl⟩
theorem nid_6 : ∀ k' i', nid k' i' = 6 → k' = 11 ∧ i' = 7 := by
  intro k i h
  unfold nid at h
  split at h <;> first | (exact absurd h (by decide)) | exact ⟨rfl, rfl⟩
theorem nid_7 : ∀ k' i', nid k' i' = 7 → k' = 16 ∧ i' = 17 := by
  intro k i h
  unfold nid at h
  split at h <;> first | (exact absurd h (by decide)) | exact ⟨rfl, rfl⟩
theorem nid_8 : ∀ k' i', nid k' i' = 8 → k' = 16 ∧ i' = 52 := by
  intro k i h
  unfold nid at h
  split at h <;> first | (exact absurd h (by decide)) | exact ⟨rfl, rfl⟩
set_option maxRecDepth 20000 in
theorem zJ13_bitCount_95d88 {ρ : Nat → Nat} {c : Cm} {F : Nat} (hF : 700000 ≤ F) {h : Hp} {x0 : Int64} (T : TH ρ c h) : Sat (sJ13_bitCount_95d88 h x0) (ZI0 h (0) (127)) := by
  unfold sJ13_bitCount_95d88 
  refine s_q (fun v_1 e_1 => ?_)
  refine s_q (fun v_2 e_2 => ?_)
  refine s_q (fun v_3 e_3 => ?_)
  refine s_q (fun v_4 e_4 => ?_)
  refine s_q (fun v_5 e_5 => ?_)
  refine s_q (fun v_6 e_6 => ?_)
  exact s_some ⟨rfl, (rg_and (rg_b rfl : Rg (127) (127) ((127 : Int32))) (by decide) : Rg (0) (127) (v_6.toInt32 &&& (127 : Int32)))⟩
set_option maxRecDepth 20000 in
theorem zX0_sizeOf_2 {ρ : Nat → Nat} {c : Cm} {h0 : Hp} {F : Nat} (hF : 700000 ≤ F) : ∀ (f : Nat) {h : Hp} {x0 : Int32} {x1 : Int32}, h = h0 → TH ρ c h → Rg (-2147483648) (2147483647) (x0) → Rg (0) (5) (x1) → (5 - x1.toInt).toNat < f → Sat (sX0_sizeOf_2 F f h x0 x1) (ZI0 h0 (0) (5)) := by
  intro f
  induction f with
  | zero => intros; omega
  | succ f ih =>
    intro h x0 x1 E T i_x0 i_x1 hm
    rw [sX0_sizeOf_2]
    unfold sX0_sizeOf_22 sX0_codeIn
    obtain ⟨C_2, hC_2⟩ : ∃ C : Int, C = x1.toInt := ⟨_, rfl⟩
    have hk_2 : ∀ {h : Hp} {x0 : Int32} {x1 : Int32}, h = h0 → TH ρ c h → Rg (-2147483648) (2147483647) (x0) → Rg (0) (5) (x1) → C_2 < x1.toInt → Sat (sX0_sizeOf_2 F f h x0 x1) (ZI0 h0 (0) (5)) := by
      intro h' x0' x1' E' T' i_x0' i_x1' hl
      exact ih E' T' i_x0' i_x1' (by have := i_x1'.1; have := i_x1'.2; omega)
    have hc_2 : C_2 ≤ x1.toInt := by omega
    refine s_br (fun c_1 => ?_) (fun c_1 => ?_)
    · have _ := c_1
      have i_f_2 : Rg (5) (5) (x1) := rg_le2 c_1 (rg_b rfl : Rg (5) (5) ((5 : Int32))) i_x1
      exact s_some ⟨E, (rg_m i_f_2 (by decide))⟩
    · have _ := c_1
      have i_f_3 : Rg (0) (4) (x1) := rg_lt1 (nle_lt c_1) i_x1 (rg_b rfl : Rg (5) (5) ((5 : Int32)))
      refine s_pu (fun o_2z e_4 => ?_)
      try dsimp only
      have i_o_2z : Rg (-1) (30) (o_2z) := by rw [e_4]; exact (rg_sub (rg_and (rg_b rfl : Rg (31) (31) ((31 : Int32))) (by decide) : Rg (0) (31) (((x0 >>> (((5 : Int32) * x1) &&& 31)) &&& (31 : Int32)))) (rg_b rfl : Rg (1) (1) ((1 : Int32))) (by decide) : Rg (-1) (30) (((x0 >>> (((5 : Int32) * x1) &&& 31)) &&& (31 : Int32)) - (1 : Int32)))
      refine s_br (fun c_5 => ?_) (fun c_5 => ?_)
      · have _ := c_5
        have i_f_6 : Rg (-1) (-1) (o_2z) := rg_eq c_5 (rg_b rfl : Rg (-1) (-1) ((- 1 : Int32)))
        exact s_some ⟨E, (rg_m i_f_3 (by decide))⟩
      · have _ := c_5
        have i_f_7 : Rg (0) (30) (o_2z) := rg_nlo c_5 i_o_2z (rg_b rfl : Rg (-1) (-1) ((- 1 : Int32)))
        refine s_q (fun v_4 e_8 => ?_)
        have i_v_4 : Rg (1) (5) (v_4) := by rw [e_8]; exact (rg_add i_f_3 (rg_b rfl : Rg (1) (1) ((1 : Int32))) (by decide) : Rg (1) (5) (x1 + (1 : Int32)))
        have m_9 : (v_4).toInt = x1.toInt + 1 := by rw [e_8]; exact rg_inc i_f_3 (by decide)
        exact hk_2 E T i_x0 (rg_m i_v_4 (by decide)) (by have := hc_2; omega)
set_option maxRecDepth 20000 in
theorem zX0_sizeOf {ρ : Nat → Nat} {c : Cm} {F : Nat} (hF : 700000 ≤ F) {h : Hp} {x0 : Int32} (T : TH ρ c h) (i_x0 : Rg (-2147483648) (2147483647) (x0)) : Sat (sX0_sizeOf F h x0) (ZI0 h (0) (5)) := by
  unfold sX0_sizeOf 
  have m_1 : Rg (0) (5) ((0 : Int32)) := (rg_m (rg_b rfl : Rg (0) (0) ((0 : Int32))) (by decide))
  exact zX0_sizeOf_2 hF F rfl T i_x0 (rg_m (rg_b rfl : Rg (0) (0) ((0 : Int32))) (by decide)) (by have := m_1.1; have := m_1.2; omega)
set_option maxRecDepth 20000 in
theorem zX0_with_35 {ρ : Nat → Nat} {c : Cm} {h0 : Hp} {F : Nat} (hF : 700000 ≤ F) {h : Hp} {x0 : Int32} {x1 : Int32} {x2 : Int32} (E : h = h0) (T : TH ρ c h) (i_x0 : Rg (-2147483648) (2147483647) (x0)) (i_x1 : Rg (-1) (23) (x1)) (i_x2 : Rg (0) (29) (x2)) : Sat (sX0_with_35 F h x0 x1 x2) (ZI0 h0 (-2147483648) (2147483647)) := by
  unfold sX0_with_35 
  refine s_q (fun v_1 e_1 => ?_)
  have i_v_1 : Rg (-2147483648) (2147483647) (v_1) := by rw [e_1]; exact (rg_top _ : Rg (-2147483648) (2147483647) (x0 &&& (((1 : Int32) <<< (x2 &&& 31)) - (1 : Int32))))
  exact s_some ⟨E, (rg_top _ : Rg (-2147483648) (2147483647) ((v_1 ||| ((x1 + (1 : Int32)) <<< (x2 &&& 31))) ||| ((x0 >>> (x2 &&& 31)) <<< ((x2 + (5 : Int32)) &&& 31))))⟩
set_option maxRecDepth 20000 in
theorem zX0_with_2 {ρ : Nat → Nat} {c : Cm} {h0 : Hp} {F : Nat} (hF : 700000 ≤ F) : ∀ (f : Nat) {h : Hp} {x0 : Int32} {x1 : Int32} {x2 : Int32}, h = h0 → TH ρ c h → Rg (-2147483648) (2147483647) (x0) → Rg (-1) (23) (x1) → Rg (0) (29) (x2) → (29 - x2.toInt).toNat < f → Sat (sX0_with_2 F f h x0 x1 x2) (ZI0 h0 (-2147483648) (2147483647)) := by
  intro f
  induction f with
  | zero => intros; omega
  | succ f ih =>
    intro h x0 x1 x2 E T i_x0 i_x1 i_x2 hm
    rw [sX0_with_2]
    obtain ⟨C_2, hC_2⟩ : ∃ C : Int, C = x2.toInt := ⟨_, rfl⟩
    have hk_2 : ∀ {h : Hp} {x0 : Int32} {x1 : Int32} {x2 : Int32}, h = h0 → TH ρ c h → Rg (-2147483648) (2147483647) (x0) → Rg (-1) (23) (x1) → Rg (0) (29) (x2) → C_2 < x2.toInt → Sat (sX0_with_2 F f h x0 x1 x2) (ZI0 h0 (-2147483648) (2147483647)) := by
      intro h' x0' x1' x2' E' T' i_x0' i_x1' i_x2' hl
      exact ih E' T' i_x0' i_x1' i_x2' (by have := i_x2'.1; have := i_x2'.2; omega)
    have hc_2 : C_2 ≤ x2.toInt := by omega
    refine s_br (fun c_1 => ?_) (fun c_1 => ?_)
    · have _ := c_1
      have i_f_2 : Rg (25) (29) (x2) := rg_le2 c_1 (rg_b rfl : Rg (25) (25) ((25 : Int32))) i_x2
      exact zX0_with_35 hF E T i_x0 i_x1 (rg_m i_f_2 (by decide))
    · have _ := c_1
      have i_f_3 : Rg (0) (24) (x2) := rg_lt1 (nle_lt c_1) i_x2 (rg_b rfl : Rg (25) (25) ((25 : Int32)))
      refine s_br (fun c_4 => ?_) (fun c_4 => ?_)
      · have _ := c_4
        have i_f_5 : Rg (0) (0) (((x0 >>> (x2 &&& 31)) &&& (31 : Int32))) := rg_eq c_4 (rg_b rfl : Rg (0) (0) (0 : Int32))
        exact zX0_with_35 hF E T i_x0 i_x1 (rg_m i_f_3 (by decide))
      · have _ := c_4
        have i_f_6 : Rg (1) (31) (((x0 >>> (x2 &&& 31)) &&& (31 : Int32))) := rg_nlo c_4 (rg_and (rg_b rfl : Rg (31) (31) ((31 : Int32))) (by decide) : Rg (0) (31) (((x0 >>> (x2 &&& 31)) &&& (31 : Int32)))) (rg_b rfl : Rg (0) (0) (0 : Int32))
        refine s_br (fun c_7 => ?_) (fun c_7 => ?_)
        · have _ := c_7
          exact zX0_with_35 hF E T i_x0 i_x1 (rg_m i_f_3 (by decide))
        · have _ := c_7
          have i_f_8 : Rg (1) (24) (((x0 >>> (x2 &&& 31)) &&& (31 : Int32))) := rg_le1 (nlt_le c_7) i_f_6 (rg_add i_x1 (rg_b rfl : Rg (1) (1) ((1 : Int32))) (by decide) : Rg (0) (24) ((x1 + (1 : Int32))))
          have i_f_9 : Rg (1) (24) ((x1 + (1 : Int32))) := rg_le2 (nlt_le c_7) i_f_6 (rg_add i_x1 (rg_b rfl : Rg (1) (1) ((1 : Int32))) (by decide) : Rg (0) (24) ((x1 + (1 : Int32))))
          refine s_q (fun v_4 e_10 => ?_)
          have i_v_4 : Rg (5) (29) (v_4) := by rw [e_10]; exact (rg_add i_f_3 (rg_b rfl : Rg (5) (5) ((5 : Int32))) (by decide) : Rg (5) (29) (x2 + (5 : Int32)))
          have m_11 : (v_4).toInt = x2.toInt + 5 := by rw [e_10]; exact rg_inck i_f_3 (rg_b rfl : Rg 5 5 (5 : Int32)) (by decide)
          exact hk_2 E T i_x0 i_x1 (rg_m i_v_4 (by decide)) (by have := hc_2; omega)
set_option maxRecDepth 20000 in
theorem zX0_with {ρ : Nat → Nat} {c : Cm} {F : Nat} (hF : 700000 ≤ F) {h : Hp} {x0 : Int32} {x1 : Int32} (T : TH ρ c h) (i_x0 : Rg (-2147483648) (2147483647) (x0)) (i_x1 : Rg (-1) (23) (x1)) : Sat (sX0_with F h x0 x1) (ZI0 h (-2147483648) (2147483647)) := by
  unfold sX0_with 
  have m_1 : Rg (0) (29) ((0 : Int32)) := (rg_m (rg_b rfl : Rg (0) (0) ((0 : Int32))) (by decide))
  exact zX0_with_2 hF F rfl T i_x0 i_x1 (rg_m (rg_b rfl : Rg (0) (0) ((0 : Int32))) (by decide)) (by have := m_1.1; have := m_1.2; omega)
set_option maxRecDepth 20000 in
theorem zX0_without {ρ : Nat → Nat} {c : Cm} {F : Nat} (hF : 700000 ≤ F) {h : Hp} {x0 : Int32} {x1 : Int32} (T : TH ρ c h) (i_x0 : Rg (0) (33554431) (x0)) (i_x1 : Rg (0) (4) (x1)) : Sat (sX0_without h x0 x1) (ZI0 h (-2147483648) (2147483647)) := by
  unfold sX0_without 
  refine s_q (fun v_1 e_1 => ?_)
  have i_v_1 : Rg (0) (20) (v_1) := by rw [e_1]; exact (rg_mulc' (rg_b rfl : Rg (5) (5) ((5 : Int32))) i_x1 (by decide) : Rg (0) (20) ((5 : Int32) * x1))
  exact s_some ⟨rfl, (rg_top _ : Rg (-2147483648) (2147483647) ((x0 &&& (((1 : Int32) <<< (v_1 &&& 31)) - (1 : Int32))) ||| ((x0 >>> ((v_1 + (5 : Int32)) &&& 31)) <<< (v_1 &&& 31))))⟩
set_option maxRecDepth 20000 in
theorem zX11_lowest {ρ : Nat → Nat} {c : Cm} {F : Nat} (hF : 700000 ≤ F) {h : Hp} {x0 : Int64} (T : TH ρ c h) : Sat (sX11_lowest h x0) (ZI0 h (0) (63)) := by
  unfold sX11_lowest 
  refine s_gd (rg_inB (rg_58 _ : Rg (0) (63) ((((((x0 &&& (- x0)) * (285870213051386505 : Int64)).toUInt64 >>> ((58 : Int32).toInt64.toUInt64 &&& Int64.toUInt64 63)).toInt64).toInt32))) (by decide)) ?_
  exact s_some ⟨rfl, (rg_sq _ : Rg (0) (63) (sqT.getD (((((x0 &&& (- x0)) * (285870213051386505 : Int64)).toUInt64 >>> ((58 : Int32).toInt64.toUInt64 &&& Int64.toUInt64 63)).toInt64).toInt32).toNatClampNeg 0))⟩
set_option maxRecDepth 20000 in
theorem zX3_occupied {ρ : Nat → Nat} {c : Cm} {F : Nat} (hF : 700000 ≤ F) {h : Hp} {x0 : Nat} (T : TH ρ c h) (r_x0 : ρ x0 = 4) : Sat (sX3_occupied h x0) (ZJ0 h) := by
  unfold sX3_occupied 
  obtain ⟨r_1, e_r_1, q_r_1⟩ := thR T r_x0 (k := 4) (i := 1) (k2 := 35) rfl (by decide)
  refine s_ref e_r_1 ?_
  refine s_gd (by rw [thN T q_r_1 (k := 35) (n := 2) rfl (by decide)]; exact rg_inB (rg_b rfl : Rg (0) (0) ((0 : Int32))) (by decide)) ?_
  refine s_ref e_r_1 ?_
  refine s_gd (by rw [thN T q_r_1 (k := 35) (n := 2) rfl (by decide)]; exact rg_inB (rg_b rfl : Rg (1) (1) ((1 : Int32))) (by decide)) ?_
  exact s_some rfl
set_option maxRecDepth 20000 in
theorem zX0_keyOfRow_4 {ρ : Nat → Nat} {c : Cm} {h0 : Hp} {F : Nat} (hF : 700000 ≤ F) : ∀ (f : Nat) {h : Hp} {x0 : Nat} {x1 : Int32} {x2 : Int32}, h = h0 → TH ρ c h → ρ x0 = 1 → Rg (0) (2147483647) (x1) → Rg (0) (5) (x2) → (5 - x2.toInt).toNat < f → Sat (sX0_keyOfRow_4 F f h x0 x1 x2) (ZI0 h0 (0) (2147483647)) := by
  intro f
  induction f with
  | zero => intros; omega
  | succ f ih =>
    intro h x0 x1 x2 E T r_x0 i_x1 i_x2 hm
    rw [sX0_keyOfRow_4]
    obtain ⟨C_4, hC_4⟩ : ∃ C : Int, C = x2.toInt := ⟨_, rfl⟩
    have hk_4 : ∀ {h : Hp} {x0 : Nat} {x1 : Int32} {x2 : Int32}, h = h0 → TH ρ c h → ρ x0 = 1 → Rg (0) (2147483647) (x1) → Rg (0) (5) (x2) → C_4 < x2.toInt → Sat (sX0_keyOfRow_4 F f h x0 x1 x2) (ZI0 h0 (0) (2147483647)) := by
      intro h' x0' x1' x2' E' T' r_x0' i_x1' i_x2' hl
      exact ih E' T' r_x0' i_x1' i_x2' (by have := i_x2'.1; have := i_x2'.2; omega)
    have hc_4 : C_4 ≤ x2.toInt := by omega
    refine s_br (fun c_1 => ?_) (fun c_1 => ?_)
    · have _ := c_1
      exact s_some ⟨E, i_x1⟩
    · have _ := c_1
      have i_f_2 : Rg (0) (4) (x2) := rg_lt1 (nle_lt c_1) i_x2 (thI T r_x0 (k := 1) (i := 8) rfl : Rg (0) (5) ((hI h x0 8)))
      have i_f_3 : Rg (1) (5) ((hI h x0 8)) := rg_lt2 (nle_lt c_1) i_x2 (thI T r_x0 (k := 1) (i := 8) rfl : Rg (0) (5) ((hI h x0 8)))
      obtain ⟨r_2, e_r_2, q_r_2⟩ := thR T r_x0 (k := 1) (i := 7) (k2 := 23) rfl (by decide)
      refine s_ref e_r_2 ?_
      refine s_gd (by rw [thN T q_r_2 (k := 23) (n := 5) rfl (by decide)]; exact rg_inB i_f_2 (by decide)) ?_
      refine s_q (fun v_4 e_4 => ?_)
      have i_v_4 : Rg (0) (2147483647) (v_4) := by rw [e_4]; exact (rg_or (n := 31) (rg_m i_x1 (by decide) : Rg (0) (2147483647) (x1)) (rg_m (rg_shl (n := 20) (rg_m (rg_add (rg_shrk 6 (by decide) (thI T q_r_2 (k := 23) rfl : Rg (0) (1535) ((hI h r_2 x2.toNatClampNeg))) (by decide) : Rg (0) (23) (((hI h r_2 x2.toNatClampNeg) >>> ((6 : Int32) &&& 31)))) (rg_b rfl : Rg (1) (1) ((1 : Int32))) (by decide) : Rg (1) (24) ((((hI h r_2 x2.toNatClampNeg) >>> ((6 : Int32) &&& 31)) + (1 : Int32)))) (by decide) : Rg (0) (24) ((((hI h r_2 x2.toNatClampNeg) >>> ((6 : Int32) &&& 31)) + (1 : Int32)))) (rg_m (rg_mulc' (rg_b rfl : Rg (5) (5) ((5 : Int32))) i_f_2 (by decide) : Rg (0) (20) (((5 : Int32) * x2))) (by decide) : Rg (0) (20) (((5 : Int32) * x2))) (by decide) : Rg (0) (25165824) (((((hI h r_2 x2.toNatClampNeg) >>> ((6 : Int32) &&& 31)) + (1 : Int32)) <<< (((5 : Int32) * x2) &&& 31)))) (by decide) : Rg (0) (25165824) (((((hI h r_2 x2.toNatClampNeg) >>> ((6 : Int32) &&& 31)) + (1 : Int32)) <<< (((5 : Int32) * x2) &&& 31)))) (by decide) : Rg (0) (2147483647) (x1 ||| ((((hI h r_2 x2.toNatClampNeg) >>> ((6 : Int32) &&& 31)) + (1 : Int32)) <<< (((5 : Int32) * x2) &&& 31))))
      refine s_q (fun v_5 e_5 => ?_)
      have i_v_5 : Rg (1) (5) (v_5) := by rw [e_5]; exact (rg_add i_f_2 (rg_b rfl : Rg (1) (1) ((1 : Int32))) (by decide) : Rg (1) (5) (x2 + (1 : Int32)))
      have m_6 : (v_5).toInt = x2.toInt + 1 := by rw [e_5]; exact rg_inc i_f_2 (by decide)
      exact hk_4 E T r_x0 i_v_4 (rg_m i_v_5 (by decide)) (by have := hc_4; omega)
set_option maxRecDepth 20000 in
theorem zX0_keyOfRow {ρ : Nat → Nat} {c : Cm} {F : Nat} (hF : 700000 ≤ F) {h : Hp} {x0 : Nat} (T : TH ρ c h) (r_x0 : ρ x0 = 1) : Sat (sX0_keyOfRow F h x0) (ZI0 h (0) (2147483647)) := by
  unfold sX0_keyOfRow 
  have m_1 : Rg (0) (5) ((0 : Int32)) := (rg_m (rg_b rfl : Rg (0) (0) ((0 : Int32))) (by decide))
  exact zX0_keyOfRow_4 hF F rfl T r_x0 (rg_m (rg_b rfl : Rg (0) (0) ((0 : Int32))) (by decide)) (rg_m (rg_b rfl : Rg (0) (0) ((0 : Int32))) (by decide)) (by have := m_1.1; have := m_1.2; omega)
set_option maxRecDepth 20000 in
theorem zX10_isOpen {ρ : Nat → Nat} {c : Cm} {F : Nat} (hF : 700000 ≤ F) {h : Hp} {x0 : Nat} {x1 : Int32} {x2 : Int64} (T : TH ρ c h) (r_x0 : ρ x0 = 11) (i_x1 : Rg (0) (172031) (x1)) : Sat (sX10_isOpen h x0 x1 x2) (ZI0 h (0) (1)) := by
  unfold sX10_isOpen sX10_isOpen_37 sX10_isOpen_61 sX10_isOpen_62
  obtain ⟨r_1, e_r_1, q_r_1⟩ := thR T r_x0 (k := 11) (i := 2) (k2 := 52) rfl (by decide)
  refine s_ref e_r_1 ?_
  refine s_gd (by rw [thN T q_r_1 (k := 52) (n := 172032) rfl (by decide)]; exact rg_inB i_x1 (by decide)) ?_
  refine s_q (fun v_3 e_1 => ?_)
  obtain ⟨r_4, e_r_4, q_r_4⟩ := thR T r_x0 (k := 11) (i := 1) (k2 := 51) rfl (by decide)
  refine s_ref e_r_4 ?_
  refine s_gd (by rw [thN T q_r_4 (k := 51) (n := 172032) rfl (by decide)]; exact rg_inB i_x1 (by decide)) ?_
  refine s_br (fun c_2 => ?_) (fun c_2 => ?_)
  · have _ := c_2
    have i_f_3 : Rg (0) (0) ((((hI h r_4 x1.toNatClampNeg) >>> ((6 : Int32) &&& 31)) &&& (8 : Int32))) := rg_eq c_2 (rg_b rfl : Rg (0) (0) (0 : Int32))
    refine s_br (fun c_4 => ?_) (fun c_4 => ?_)
    · have _ := c_4
      refine s_gd (rg_bool (rg_m (rg_b rfl : Rg (1) (1) ((1 : Int32))) (by decide))) ?_
      exact s_some ⟨rfl, (rg_m (rg_b rfl : Rg (1) (1) ((1 : Int32))) (by decide))⟩
    · have _ := c_4
      refine s_gd (rg_bool (rg_m (rg_b rfl : Rg (0) (0) ((0 : Int32))) (by decide))) ?_
      exact s_some ⟨rfl, (rg_m (rg_b rfl : Rg (0) (0) ((0 : Int32))) (by decide))⟩
  · have _ := c_2
    have i_f_5 : Rg (1) (8) ((((hI h r_4 x1.toNatClampNeg) >>> ((6 : Int32) &&& 31)) &&& (8 : Int32))) := rg_nlo c_2 (rg_and (rg_b rfl : Rg (8) (8) ((8 : Int32))) (by decide) : Rg (0) (8) ((((hI h r_4 x1.toNatClampNeg) >>> ((6 : Int32) &&& 31)) &&& (8 : Int32)))) (rg_b rfl : Rg (0) (0) (0 : Int32))
    refine s_br (fun c_6 => ?_) (fun c_6 => ?_)
    · have _ := c_6
      refine s_gd (rg_bool (rg_m (rg_b rfl : Rg (0) (0) ((0 : Int32))) (by decide))) ?_
      exact s_some ⟨rfl, (rg_m (rg_b rfl : Rg (0) (0) ((0 : Int32))) (by decide))⟩
    · have _ := c_6
      refine s_br (fun c_7 => ?_) (fun c_7 => ?_)
      · have _ := c_7
        refine s_gd (rg_bool (rg_m (rg_b rfl : Rg (1) (1) ((1 : Int32))) (by decide))) ?_
        exact s_some ⟨rfl, (rg_m (rg_b rfl : Rg (1) (1) ((1 : Int32))) (by decide))⟩
      · have _ := c_7
        refine s_gd (rg_bool (rg_m (rg_b rfl : Rg (0) (0) ((0 : Int32))) (by decide))) ?_
        exact s_some ⟨rfl, (rg_m (rg_b rfl : Rg (0) (0) ((0 : Int32))) (by decide))⟩
set_option maxRecDepth 20000 in
theorem zX1_becomesThis_2 {ρ : Nat → Nat} {c : Cm} {h0 : Hp} {F : Nat} (hF : 700000 ≤ F) : ∀ (f : Nat) {h : Hp} {x0 : Nat} {x1 : Int32} {x2 : Int32} {x3 : Int32}, h = h0 → TH ρ c h → ρ x0 = 2 → Rg (0) (11) (x1) → Rg (-1) (11) (x2) → Rg (0) (6) (x3) → (6 - x3.toInt).toNat < f → Sat (sX1_becomesThis_2 F f h x0 x1 x2 x3) (ZI0 h0 (0) (1)) := by
  intro f
  induction f with
  | zero => intros; omega
  | succ f ih =>
    intro h x0 x1 x2 x3 E T r_x0 i_x1 i_x2 i_x3 hm
    rw [sX1_becomesThis_2]
    obtain ⟨C_2, hC_2⟩ : ∃ C : Int, C = x3.toInt := ⟨_, rfl⟩
    have hk_2 : ∀ {h : Hp} {x0 : Nat} {x1 : Int32} {x2 : Int32} {x3 : Int32}, h = h0 → TH ρ c h → ρ x0 = 2 → Rg (0) (11) (x1) → Rg (-1) (11) (x2) → Rg (0) (6) (x3) → C_2 < x3.toInt → Sat (sX1_becomesThis_2 F f h x0 x1 x2 x3) (ZI0 h0 (0) (1)) := by
      intro h' x0' x1' x2' x3' E' T' r_x0' i_x1' i_x2' i_x3' hl
      exact ih E' T' r_x0' i_x1' i_x2' i_x3' (by have := i_x3'.1; have := i_x3'.2; omega)
    have hc_2 : C_2 ≤ x3.toInt := by omega
    obtain ⟨r_1, e_r_1, q_r_1⟩ := thR T r_x0 (k := 2) (i := 18) (k2 := 31) rfl (by decide)
    refine s_ref e_r_1 ?_
    refine s_gd (by rw [thN T q_r_1 (k := 31) (n := 12) rfl (by decide)]; exact rg_inB i_x1 (by decide)) ?_
    refine s_br (fun c_1 => ?_) (fun c_1 => ?_)
    · have _ := c_1
      exact s_some ⟨E, (rg_m (rg_b rfl : Rg (0) (0) ((0 : Int32))) (by decide))⟩
    · have _ := c_1
      have i_f_2 : Rg (0) (5) (x3) := rg_lt1 (nle_lt c_1) i_x3 (thI T q_r_1 (k := 31) rfl : Rg (0) (6) ((hI h r_1 x1.toNatClampNeg)))
      have i_f_3 : Rg (1) (6) ((hI h r_1 x1.toNatClampNeg)) := rg_lt2 (nle_lt c_1) i_x3 (thI T q_r_1 (k := 31) rfl : Rg (0) (6) ((hI h r_1 x1.toNatClampNeg)))
      obtain ⟨r_4, e_r_4, q_r_4⟩ := thR T r_x0 (k := 2) (i := 17) (k2 := 30) rfl (by decide)
      refine s_ref e_r_4 ?_
      refine s_gd (by rw [thN T q_r_4 (k := 30) (n := 72) rfl (by decide)]; exact rg_inB (rg_add (rg_mulc i_x1 (rg_b rfl : Rg (6) (6) ((6 : Int32))) (by decide) : Rg (0) (66) ((x1 * (6 : Int32)))) i_f_2 (by decide) : Rg (0) (71) (((x1 * (6 : Int32)) + x3))) (by decide)) ?_
      refine s_br (fun c_4 => ?_) (fun c_4 => ?_)
      · have _ := c_4
        have i_f_5 : Rg (0) (11) (x2) := rg_eq c_4.symm (thI T q_r_4 (k := 30) rfl : Rg (0) (11) ((hI h r_4 ((x1 * (6 : Int32)) + x3).toNatClampNeg)))
        exact s_some ⟨E, (rg_m (rg_b rfl : Rg (1) (1) ((1 : Int32))) (by decide))⟩
      · have _ := c_4
        refine s_q (fun v_7 e_6 => ?_)
        have i_v_7 : Rg (1) (6) (v_7) := by rw [e_6]; exact (rg_add i_f_2 (rg_b rfl : Rg (1) (1) ((1 : Int32))) (by decide) : Rg (1) (6) (x3 + (1 : Int32)))
        have m_7 : (v_7).toInt = x3.toInt + 1 := by rw [e_6]; exact rg_inc i_f_2 (by decide)
        exact hk_2 E T r_x0 i_x1 i_x2 (rg_m i_v_7 (by decide)) (by have := hc_2; omega)
set_option maxRecDepth 20000 in
theorem zX1_becomesThis {ρ : Nat → Nat} {c : Cm} {F : Nat} (hF : 700000 ≤ F) {h : Hp} {x0 : Nat} {x1 : Int32} {x2 : Int32} (T : TH ρ c h) (r_x0 : ρ x0 = 2) (i_x1 : Rg (0) (11) (x1)) (i_x2 : Rg (-1) (11) (x2)) : Sat (sX1_becomesThis F h x0 x1 x2) (ZI0 h (0) (1)) := by
  unfold sX1_becomesThis 
  have m_1 : Rg (0) (6) ((0 : Int32)) := (rg_m (rg_b rfl : Rg (0) (0) ((0 : Int32))) (by decide))
  exact zX1_becomesThis_2 hF F rfl T r_x0 i_x1 i_x2 (rg_m (rg_b rfl : Rg (0) (0) ((0 : Int32))) (by decide)) (by have := m_1.1; have := m_1.2; omega)
set_option maxRecDepth 20000 in
theorem zX1_has {ρ : Nat → Nat} {c : Cm} {F : Nat} (hF : 700000 ≤ F) {h : Hp} {x0 : Nat} {x1 : Int32} (T : TH ρ c h) (r_x0 : ρ x0 = 2) (i_x1 : Rg (1) (12) (x1)) : Sat (sX1_has h x0 x1) (ZI0 h (0) (1)) := by
  unfold sX1_has sX1_has_14
  refine s_br (fun c_1 => ?_) (fun c_1 => ?_)
  · have _ := c_1
    have i_f_2 : Rg (0) (0) (((hI h x0 10) &&& x1)) := rg_eq c_1 (rg_b rfl : Rg (0) (0) (0 : Int32))
    refine s_gd (rg_bool (rg_m (rg_b rfl : Rg (0) (0) ((0 : Int32))) (by decide))) ?_
    exact s_some ⟨rfl, (rg_m (rg_b rfl : Rg (0) (0) ((0 : Int32))) (by decide))⟩
  · have _ := c_1
    have i_f_3 : Rg (1) (12) (((hI h x0 10) &&& x1)) := rg_nlo c_1 (rg_and i_x1 (by decide) : Rg (0) (12) (((hI h x0 10) &&& x1))) (rg_b rfl : Rg (0) (0) (0 : Int32))
    refine s_gd (rg_bool (rg_m (rg_b rfl : Rg (1) (1) ((1 : Int32))) (by decide))) ?_
    exact s_some ⟨rfl, (rg_m (rg_b rfl : Rg (1) (1) ((1 : Int32))) (by decide))⟩
set_option maxRecDepth 20000 in
theorem zX1_isLast {ρ : Nat → Nat} {c : Cm} {F : Nat} (hF : 700000 ≤ F) {h : Hp} {x0 : Nat} {x1 : Int32} {x2 : Int32} (T : TH ρ c h) (r_x0 : ρ x0 = 2) (i_x1 : Rg (0) (63) (x1)) (i_x2 : Rg (0) (1) (x2)) : Sat (sX1_isLast h x0 x1 x2) (ZI0 h (0) (1)) := by
  unfold sX1_isLast sX1_isLast_20 sX1_isLast_28
  obtain ⟨r_1, e_r_1, q_r_1⟩ := thR T r_x0 (k := 2) (i := 20) (k2 := 33) rfl (by decide)
  refine s_ref e_r_1 ?_
  refine s_gd (by rw [thN T q_r_1 (k := 33) (n := 64) rfl (by decide)]; exact rg_inB i_x1 (by decide)) ?_
  refine s_br (fun c_1 => ?_) (fun c_1 => ?_)
  · have _ := c_1
    have i_f_2 : Rg (0) (0) (x2) := rg_eq c_1 (rg_b rfl : Rg (0) (0) (0 : Int32))
    refine s_br (fun c_3 => ?_) (fun c_3 => ?_)
    · have _ := c_3
      have i_f_4 : Rg (0) (7) (((hI h x0 1) - (1 : Int32))) := rg_eq c_3.symm (thI T q_r_1 (k := 33) rfl : Rg (0) (7) ((hI h r_1 x1.toNatClampNeg)))
      refine s_gd (rg_bool (rg_m (rg_b rfl : Rg (1) (1) ((1 : Int32))) (by decide))) ?_
      exact s_some ⟨rfl, (rg_m (rg_b rfl : Rg (1) (1) ((1 : Int32))) (by decide))⟩
    · have _ := c_3
      refine s_gd (rg_bool (rg_m (rg_b rfl : Rg (0) (0) ((0 : Int32))) (by decide))) ?_
      exact s_some ⟨rfl, (rg_m (rg_b rfl : Rg (0) (0) ((0 : Int32))) (by decide))⟩
  · have _ := c_1
    have i_f_5 : Rg (1) (1) (x2) := rg_nlo c_1 i_x2 (rg_b rfl : Rg (0) (0) (0 : Int32))
    refine s_br (fun c_6 => ?_) (fun c_6 => ?_)
    · have _ := c_6
      have i_f_7 : Rg (0) (0) ((hI h r_1 x1.toNatClampNeg)) := rg_eq c_6 (rg_b rfl : Rg (0) (0) ((0 : Int32)))
      refine s_gd (rg_bool (rg_m (rg_b rfl : Rg (1) (1) ((1 : Int32))) (by decide))) ?_
      exact s_some ⟨rfl, (rg_m (rg_b rfl : Rg (1) (1) ((1 : Int32))) (by decide))⟩
    · have _ := c_6
      have i_f_8 : Rg (1) (7) ((hI h r_1 x1.toNatClampNeg)) := rg_nlo c_6 (thI T q_r_1 (k := 33) rfl : Rg (0) (7) ((hI h r_1 x1.toNatClampNeg))) (rg_b rfl : Rg (0) (0) ((0 : Int32)))
      refine s_gd (rg_bool (rg_m (rg_b rfl : Rg (0) (0) ((0 : Int32))) (by decide))) ?_
      exact s_some ⟨rfl, (rg_m (rg_b rfl : Rg (0) (0) ((0 : Int32))) (by decide))⟩
set_option maxRecDepth 20000 in
theorem zX5_isHit_227 {ρ : Nat → Nat} {c : Cm} {h0 : Hp} {F : Nat} (hF : 700000 ≤ F) {k_26 : Hp → Nat → Nat → Int32 → Int64 → Int64 → Int32 → Option (Int32 × Hp)} {C_26 : Int} {k_133 : Hp → Nat → Nat → Int32 → Int64 → Int64 → Int32 → Int32 → Int32 → Option (Int32 × Hp)} {C_133 : Int} (hk_26 : ∀ {h : Hp} {x0 : Nat} {x1 : Nat} {x2 : Int32} {x4 : Int64} {x6 : Int64} {x8 : Int32}, h = h0 → TH ρ c h → ρ x0 = 6 → ρ x1 = 4 → Rg (0) (63) (x2) → Rg (0) (64) (x8) → (∀ on s, hR h x1 0 = some on → s < 64 → bitJ x6 s = true → 0 ≤ (hI h on s).toInt) → C_26 < x8.toInt → Sat (k_26 h x0 x1 x2 x4 x6 x8) (ZI0 h0 (0) (1))) (hk_133 : ∀ {h : Hp} {x0 : Nat} {x1 : Nat} {x2 : Int32} {x4 : Int64} {x6 : Int64} {x8 : Int32} {x13 : Int32} {x14 : Int32}, h = h0 → TH ρ c h → ρ x0 = 6 → ρ x1 = 4 → Rg (0) (63) (x2) → Rg (0) (63) (x8) → Rg (0) (98303) (x13) → Rg (0) (172032) (x14) → C_26 ≤ x8.toInt → (∀ on s, hR h x1 0 = some on → s < 64 → bitJ x6 s = true → 0 ≤ (hI h on s).toInt) → C_133 < x14.toInt → Sat (k_133 h x0 x1 x2 x4 x6 x8 x13 x14) (ZI0 h0 (0) (1))) {h : Hp} {x0 : Nat} {x1 : Nat} {x2 : Int32} {x4 : Int64} {x6 : Int64} {x8 : Int32} {x13 : Int32} {x14 : Int32} {x15 : Int32} {t0 : Int32} (E : h = h0) (T : TH ρ c h) (r_x0 : ρ x0 = 6) (r_x1 : ρ x1 = 4) (i_x2 : Rg (0) (63) (x2)) (i_x8 : Rg (0) (63) (x8)) (i_x13 : Rg (0) (98303) (x13)) (i_x14 : Rg (0) (172031) (x14)) (i_x15 : Rg (0) (511) (x15)) (i_t0 : Rg (0) (1) (t0)) (hc_26 : C_26 ≤ x8.toInt) (hc_133 : C_133 ≤ x14.toInt) (xh : (∀ on s, hR h x1 0 = some on → s < 64 → bitJ x6 s = true → 0 ≤ (hI h on s).toInt)) : Sat (sX5_isHit_227 F k_26 k_133 h x0 x1 x2 x4 x6 x8 x13 x14 x15 t0) (ZI0 h0 (0) (1)) := by
  unfold sX5_isHit_227 sX5_isHit_243
  refine s_br (fun c_1 => ?_) (fun c_1 => ?_)
  · have _ := c_1
    have i_f_2 : Rg (0) (0) (t0) := rg_eq c_1 (rg_b rfl : Rg (0) (0) (0 : Int32))
    refine s_q (fun v_1q1 e_3 => ?_)
    have i_v_1q1 : Rg (1) (172032) (v_1q1) := by rw [e_3]; exact (rg_add i_x14 (rg_b rfl : Rg (1) (1) ((1 : Int32))) (by decide) : Rg (1) (172032) (x14 + (1 : Int32)))
    have m_4 : (v_1q1).toInt = x14.toInt + 1 := by rw [e_3]; exact rg_inc i_x14 (by decide)
    exact hk_133 E T r_x0 r_x1 i_x2 i_x8 i_x13 (rg_m i_v_1q1 (by decide)) hc_26 xh (by have := hc_133; omega)
  · have _ := c_1
    have i_f_5 : Rg (1) (1) (t0) := rg_nlo c_1 i_t0 (rg_b rfl : Rg (0) (0) (0 : Int32))
    refine s_br (fun c_6 => ?_) (fun c_6 => ?_)
    · have _ := c_6
      have i_f_7 : Rg (0) (0) ((x15 &&& (1 : Int32))) := rg_eq c_6 (rg_b rfl : Rg (0) (0) (0 : Int32))
      exact s_some ⟨E, (rg_m (rg_b rfl : Rg (1) (1) ((1 : Int32))) (by decide))⟩
    · have _ := c_6
      have i_f_8 : Rg (1) (1) ((x15 &&& (1 : Int32))) := rg_nlo c_6 (rg_and (rg_b rfl : Rg (1) (1) ((1 : Int32))) (by decide) : Rg (0) (1) ((x15 &&& (1 : Int32)))) (rg_b rfl : Rg (0) (0) (0 : Int32))
      refine s_q (fun v_1q2 e_9 => ?_)
      have i_v_1q2 : Rg (1) (172032) (v_1q2) := by rw [e_9]; exact (rg_add i_x14 (rg_b rfl : Rg (1) (1) ((1 : Int32))) (by decide) : Rg (1) (172032) (x14 + (1 : Int32)))
      have m_10 : (v_1q2).toInt = x14.toInt + 1 := by rw [e_9]; exact rg_inc i_x14 (by decide)
      exact hk_133 E T r_x0 r_x1 i_x2 i_x8 i_x13 (rg_m i_v_1q2 (by decide)) hc_26 xh (by have := hc_133; omega)
set_option maxRecDepth 20000 in
theorem zX5_isHit_133 {ρ : Nat → Nat} {c : Cm} {h0 : Hp} {F : Nat} (hF : 700000 ≤ F) {k_26 : Hp → Nat → Nat → Int32 → Int64 → Int64 → Int32 → Option (Int32 × Hp)} {C_26 : Int} (hk_26 : ∀ {h : Hp} {x0 : Nat} {x1 : Nat} {x2 : Int32} {x4 : Int64} {x6 : Int64} {x8 : Int32}, h = h0 → TH ρ c h → ρ x0 = 6 → ρ x1 = 4 → Rg (0) (63) (x2) → Rg (0) (64) (x8) → (∀ on s, hR h x1 0 = some on → s < 64 → bitJ x6 s = true → 0 ≤ (hI h on s).toInt) → C_26 < x8.toInt → Sat (k_26 h x0 x1 x2 x4 x6 x8) (ZI0 h0 (0) (1))) : ∀ (f : Nat) {h : Hp} {x0 : Nat} {x1 : Nat} {x2 : Int32} {x4 : Int64} {x6 : Int64} {x8 : Int32} {x13 : Int32} {x14 : Int32}, h = h0 → TH ρ c h → ρ x0 = 6 → ρ x1 = 4 → Rg (0) (63) (x2) → Rg (0) (63) (x8) → Rg (0) (98303) (x13) → Rg (0) (172032) (x14) → C_26 ≤ x8.toInt → (∀ on s, hR h x1 0 = some on → s < 64 → bitJ x6 s = true → 0 ≤ (hI h on s).toInt) → (172032 - x14.toInt).toNat < f → Sat (sX5_isHit_133 F k_26 f h x0 x1 x2 x4 x6 x8 x13 x14) (ZI0 h0 (0) (1)) := by
  intro f
  induction f with
  | zero => intros; omega
  | succ f ih =>
    intro h x0 x1 x2 x4 x6 x8 x13 x14 E T r_x0 r_x1 i_x2 i_x8 i_x13 i_x14 hc_26 xh hm
    rw [sX5_isHit_133]
    unfold sX5_isHit_249 sX5_isHit_226
    obtain ⟨C_133, hC_133⟩ : ∃ C : Int, C = x14.toInt := ⟨_, rfl⟩
    have hk_133 : ∀ {h : Hp} {x0 : Nat} {x1 : Nat} {x2 : Int32} {x4 : Int64} {x6 : Int64} {x8 : Int32} {x13 : Int32} {x14 : Int32}, h = h0 → TH ρ c h → ρ x0 = 6 → ρ x1 = 4 → Rg (0) (63) (x2) → Rg (0) (63) (x8) → Rg (0) (98303) (x13) → Rg (0) (172032) (x14) → C_26 ≤ x8.toInt → (∀ on s, hR h x1 0 = some on → s < 64 → bitJ x6 s = true → 0 ≤ (hI h on s).toInt) → C_133 < x14.toInt → Sat (sX5_isHit_133 F k_26 f h x0 x1 x2 x4 x6 x8 x13 x14) (ZI0 h0 (0) (1)) := by
      intro h' x0' x1' x2' x4' x6' x8' x13' x14' E' T' r_x0' r_x1' i_x2' i_x8' i_x13' i_x14' hc_26' xh' hl
      exact ih E' T' r_x0' r_x1' i_x2' i_x8' i_x13' i_x14' hc_26' xh' (by have := i_x14'.1; have := i_x14'.2; omega)
    have hc_133 : C_133 ≤ x14.toInt := by omega
    obtain ⟨r_1, e_r_1, q_r_1⟩ := thR T r_x0 (k := 6) (i := 1) (k2 := 11) rfl (by decide)
    refine s_ref e_r_1 ?_
    obtain ⟨r_2, e_r_2, q_r_2⟩ := thR T q_r_1 (k := 11) (i := 0) (k2 := 50) rfl (by decide)
    refine s_ref e_r_2 ?_
    refine s_gd (by rw [thN T q_r_2 (k := 50) (n := 98305) rfl (by decide)]; exact rg_inB (rg_add i_x13 (rg_b rfl : Rg (1) (1) ((1 : Int32))) (by decide) : Rg (1) (98304) ((x13 + (1 : Int32)))) (by decide)) ?_
    refine s_br (fun c_1 => ?_) (fun c_1 => ?_)
    · have _ := c_1
      refine s_q (fun v_1q1 e_2 => ?_)
      have i_v_1q1 : Rg (1) (64) (v_1q1) := by rw [e_2]; exact (rg_add i_x8 (rg_b rfl : Rg (1) (1) ((1 : Int32))) (by decide) : Rg (1) (64) (x8 + (1 : Int32)))
      have m_3 : (v_1q1).toInt = x8.toInt + 1 := by rw [e_2]; exact rg_inc i_x8 (by decide)
      exact hk_26 E T r_x0 r_x1 i_x2 (rg_m i_v_1q1 (by decide)) xh (by have := hc_26; omega)
    · have _ := c_1
      have i_f_4 : Rg (0) (172031) (x14) := rg_lt1 (nle_lt c_1) i_x14 (thI T q_r_2 (k := 50) rfl : Rg (0) (172032) ((hI h r_2 (x13 + (1 : Int32)).toNatClampNeg)))
      have i_f_5 : Rg (1) (172032) ((hI h r_2 (x13 + (1 : Int32)).toNatClampNeg)) := rg_lt2 (nle_lt c_1) i_x14 (thI T q_r_2 (k := 50) rfl : Rg (0) (172032) ((hI h r_2 (x13 + (1 : Int32)).toNatClampNeg)))
      refine s_ref e_r_1 ?_
      obtain ⟨r_6, e_r_6, q_r_6⟩ := thR T q_r_1 (k := 11) (i := 1) (k2 := 51) rfl (by decide)
      refine s_ref e_r_6 ?_
      refine s_gd (by rw [thN T q_r_6 (k := 51) (n := 172032) rfl (by decide)]; exact rg_inB i_f_4 (by decide)) ?_
      refine s_q (fun v_8 e_6 => ?_)
      have i_v_8 : Rg (0) (511) (v_8) := by rw [e_6]; exact (rg_shrk 6 (by decide) (thI T q_r_6 (k := 51) rfl : Rg (0) (32767) ((hI h r_6 x14.toNatClampNeg))) (by decide) : Rg (0) (511) ((hI h r_6 x14.toNatClampNeg) >>> ((6 : Int32) &&& 31)))
      refine s_ref e_r_1 ?_
      obtain ⟨r_10, e_r_10, q_r_10⟩ := thR T q_r_1 (k := 11) (i := 2) (k2 := 52) rfl (by decide)
      refine s_ref e_r_10 ?_
      refine s_gd (by rw [thN T q_r_10 (k := 52) (n := 172032) rfl (by decide)]; exact rg_inB i_f_4 (by decide)) ?_
      refine s_q (fun v_12 e_7 => ?_)
      refine s_br (fun c_8 => ?_) (fun c_8 => ?_)
      · have _ := c_8
        have i_f_9 : Rg (0) (0) ((v_8 &&& (8 : Int32))) := rg_eq c_8 (rg_b rfl : Rg (0) (0) (0 : Int32))
        refine s_br (fun c_10 => ?_) (fun c_10 => ?_)
        · have _ := c_10
          exact zX5_isHit_227 hF @hk_26 @hk_133 E T r_x0 r_x1 i_x2 i_x8 i_x13 i_f_4 i_v_8 (rg_m (rg_b rfl : Rg (1) (1) ((1 : Int32))) (by decide)) hc_26 hc_133 xh
        · have _ := c_10
          exact zX5_isHit_227 hF @hk_26 @hk_133 E T r_x0 r_x1 i_x2 i_x8 i_x13 i_f_4 i_v_8 (rg_m (rg_b rfl : Rg (0) (0) ((0 : Int32))) (by decide)) hc_26 hc_133 xh
      · have _ := c_8
        have i_f_11 : Rg (1) (8) ((v_8 &&& (8 : Int32))) := rg_nlo c_8 (rg_and (rg_b rfl : Rg (8) (8) ((8 : Int32))) (by decide) : Rg (0) (8) ((v_8 &&& (8 : Int32)))) (rg_b rfl : Rg (0) (0) (0 : Int32))
        refine s_br (fun c_12 => ?_) (fun c_12 => ?_)
        · have _ := c_12
          exact zX5_isHit_227 hF @hk_26 @hk_133 E T r_x0 r_x1 i_x2 i_x8 i_x13 i_f_4 i_v_8 (rg_m (rg_b rfl : Rg (0) (0) ((0 : Int32))) (by decide)) hc_26 hc_133 xh
        · have _ := c_12
          refine s_br (fun c_13 => ?_) (fun c_13 => ?_)
          · have _ := c_13
            exact zX5_isHit_227 hF @hk_26 @hk_133 E T r_x0 r_x1 i_x2 i_x8 i_x13 i_f_4 i_v_8 (rg_m (rg_b rfl : Rg (1) (1) ((1 : Int32))) (by decide)) hc_26 hc_133 xh
          · have _ := c_13
            exact zX5_isHit_227 hF @hk_26 @hk_133 E T r_x0 r_x1 i_x2 i_x8 i_x13 i_f_4 i_v_8 (rg_m (rg_b rfl : Rg (0) (0) ((0 : Int32))) (by decide)) hc_26 hc_133 xh
set_option maxRecDepth 20000 in
theorem zX5_isHit_26 {ρ : Nat → Nat} {c : Cm} {h0 : Hp} {F : Nat} (hF : 700000 ≤ F) : ∀ (f : Nat) {h : Hp} {x0 : Nat} {x1 : Nat} {x2 : Int32} {x4 : Int64} {x6 : Int64} {x8 : Int32}, h = h0 → TH ρ c h → ρ x0 = 6 → ρ x1 = 4 → Rg (0) (63) (x2) → Rg (0) (64) (x8) → (∀ on s, hR h x1 0 = some on → s < 64 → bitJ x6 s = true → 0 ≤ (hI h on s).toInt) → (64 - x8.toInt).toNat < f → Sat (sX5_isHit_26 F f h x0 x1 x2 x4 x6 x8) (ZI0 h0 (0) (1)) := by
  intro f
  induction f with
  | zero => intros; omega
  | succ f ih =>
    intro h x0 x1 x2 x4 x6 x8 E T r_x0 r_x1 i_x2 i_x8 xh hm
    rw [sX5_isHit_26]
    unfold sX5_isHit_255 sX5_isHit_249
    obtain ⟨C_26, hC_26⟩ : ∃ C : Int, C = x8.toInt := ⟨_, rfl⟩
    have hk_26 : ∀ {h : Hp} {x0 : Nat} {x1 : Nat} {x2 : Int32} {x4 : Int64} {x6 : Int64} {x8 : Int32}, h = h0 → TH ρ c h → ρ x0 = 6 → ρ x1 = 4 → Rg (0) (63) (x2) → Rg (0) (64) (x8) → (∀ on s, hR h x1 0 = some on → s < 64 → bitJ x6 s = true → 0 ≤ (hI h on s).toInt) → C_26 < x8.toInt → Sat (sX5_isHit_26 F f h x0 x1 x2 x4 x6 x8) (ZI0 h0 (0) (1)) := by
      intro h' x0' x1' x2' x4' x6' x8' E' T' r_x0' r_x1' i_x2' i_x8' xh' hl
      exact ih E' T' r_x0' r_x1' i_x2' i_x8' xh' (by have := i_x8'.1; have := i_x8'.2; omega)
    have hc_26 : C_26 ≤ x8.toInt := by omega
    refine s_br (fun c_1 => ?_) (fun c_1 => ?_)
    · have _ := c_1
      have i_f_2 : Rg (64) (64) (x8) := rg_le2 c_1 (rg_b rfl : Rg (64) (64) ((64 : Int32))) i_x8
      exact s_some ⟨E, (rg_m (rg_b rfl : Rg (0) (0) ((0 : Int32))) (by decide))⟩
    · have _ := c_1
      have i_f_3 : Rg (0) (63) (x8) := rg_lt1 (nle_lt c_1) i_x8 (rg_b rfl : Rg (64) (64) ((64 : Int32)))
      refine s_br (fun c_4 => ?_) (fun c_4 => ?_)
      · have _ := c_4
        exact s_some ⟨E, (rg_m (rg_b rfl : Rg (0) (0) ((0 : Int32))) (by decide))⟩
      · have _ := c_4
        refine s_q (fun v_3 e_5 => ?_)
        refine s_q (fun v_4 e_6 => ?_)
        refine s_gd (rg_inB (rg_58 _ : Rg (0) (63) (((((v_3 * (285870213051386505 : Int64)).toUInt64 >>> ((58 : Int32).toInt64.toUInt64 &&& Int64.toUInt64 63)).toInt64).toInt32))) (by decide)) ?_
        refine s_q (fun v_6 e_7 => ?_)
        have i_v_6 : Rg (0) (63) (v_6) := by rw [e_7]; exact (rg_sq _ : Rg (0) (63) (sqT.getD ((((v_3 * (285870213051386505 : Int64)).toUInt64 >>> ((58 : Int32).toInt64.toUInt64 &&& Int64.toUInt64 63)).toInt64).toInt32).toNatClampNeg 0))
        obtain ⟨r_7, e_r_7, q_r_7⟩ := thR T r_x1 (k := 4) (i := 0) (k2 := 34) rfl (by decide)
        refine s_ref e_r_7 ?_
        refine s_gd (by rw [thN T q_r_7 (k := 34) (n := 64) rfl (by decide)]; exact rg_inB i_v_6 (by decide)) ?_
        refine s_q (fun v_9 e_8 => ?_)
        have i_v_9 : Rg (-1) (23) (v_9) := by rw [e_8]; exact (thI T q_r_7 (k := 34) rfl : Rg (-1) (23) (hI h r_7 v_6.toNatClampNeg))
        have hv_9 : Rg 0 23 v_9 := ⟨by rw [e_8]; exact xh _ _ e_r_7 (show v_6.toNatClampNeg < 64 by have := rg_clamp (n := 63) i_v_6 (by decide); omega) (by rw [e_7, e_5]; exact sq_bit (cmp0 c_4)), i_v_9.2⟩
        obtain ⟨r_10, e_r_10, q_r_10⟩ := thR T r_x0 (k := 6) (i := 1) (k2 := 11) rfl (by decide)
        refine s_ref e_r_10 ?_
        obtain ⟨r_11, e_r_11, q_r_11⟩ := thR T q_r_10 (k := 11) (i := 4) (k2 := 54) rfl (by decide)
        refine s_ref e_r_11 ?_
        refine s_gd (by rw [thN T q_r_11 (k := 54) (n := 1536) rfl (by decide)]; exact rg_inB (rg_add (rg_mulc hv_9 (rg_b rfl : Rg (64) (64) ((64 : Int32))) (by decide) : Rg (0) (1472) ((v_9 * (64 : Int32)))) i_x2 (by decide) : Rg (0) (1535) (((v_9 * (64 : Int32)) + x2))) (by decide)) ?_
        refine s_br (fun c_10 => ?_) (fun c_10 => ?_)
        · have _ := c_10
          refine s_q (fun v_1q3 e_11 => ?_)
          have i_v_1q3 : Rg (1) (64) (v_1q3) := by rw [e_11]; exact (rg_add i_f_3 (rg_b rfl : Rg (1) (1) ((1 : Int32))) (by decide) : Rg (1) (64) (x8 + (1 : Int32)))
          have m_12 : (v_1q3).toInt = x8.toInt + 1 := by rw [e_11]; exact rg_inc i_f_3 (by decide)
          exact hk_26 E T r_x0 r_x1 i_x2 (rg_m i_v_1q3 (by decide)) (fun on s ho hs hb => xh on s ho hs (bj_rest (cmp0 c_4) (by rw [e_6, e_5] at hb; exact hb))) (by have := hc_26; omega)
        · have _ := c_10
          refine s_q (fun v_14 e_13 => ?_)
          have i_v_14 : Rg (0) (98303) (v_14) := by rw [e_13]; exact (rg_add (rg_mulc (rg_add (rg_mulc hv_9 (rg_b rfl : Rg (64) (64) ((64 : Int32))) (by decide) : Rg (0) (1472) ((v_9 * (64 : Int32)))) i_v_6 (by decide) : Rg (0) (1535) (((v_9 * (64 : Int32)) + v_6))) (rg_b rfl : Rg (64) (64) ((64 : Int32))) (by decide) : Rg (0) (98240) ((((v_9 * (64 : Int32)) + v_6) * (64 : Int32)))) i_x2 (by decide) : Rg (0) (98303) ((((v_9 * (64 : Int32)) + v_6) * (64 : Int32)) + x2))
          refine s_ref e_r_10 ?_
          obtain ⟨r_16, e_r_16, q_r_16⟩ := thR T q_r_10 (k := 11) (i := 0) (k2 := 50) rfl (by decide)
          refine s_ref e_r_16 ?_
          refine s_gd (by rw [thN T q_r_16 (k := 50) (n := 98305) rfl (by decide)]; exact rg_inB i_v_14 (by decide)) ?_
          refine s_q (fun v_18 e_14 => ?_)
          have i_v_18 : Rg (0) (172032) (v_18) := by rw [e_14]; exact (thI T q_r_16 (k := 50) rfl : Rg (0) (172032) (hI h r_16 v_14.toNatClampNeg))
          have m_15 : Rg (0) (172032) (v_18) := i_v_18
          exact zX5_isHit_133 hF @hk_26 F E T r_x0 r_x1 i_x2 i_f_3 i_v_14 i_v_18 hc_26 (fun on s ho hs hb => xh on s ho hs (bj_rest (cmp0 c_4) (by rw [e_6, e_5] at hb; exact hb))) (by have := m_15.1; have := m_15.2; omega)
set_option maxRecDepth 20000 in
theorem zX5_isHit {ρ : Nat → Nat} {c : Cm} {F : Nat} (hF : 700000 ≤ F) {h : Hp} {x0 : Nat} {x1 : Nat} {x2 : Int32} {x3 : Int32} (T : TH ρ c h) (r_x0 : ρ x0 = 6) (r_x1 : ρ x1 = 4) (i_x2 : Rg (0) (63) (x2)) (i_x3 : Rg (0) (1) (x3)) : Sat (sX5_isHit F h x0 x1 x2 x3) (ZI0 h (0) (1)) := by
  unfold sX5_isHit 
  obtain ⟨r_1, e_r_1, q_r_1⟩ := thR T r_x1 (k := 4) (i := 1) (k2 := 35) rfl (by decide)
  refine s_ref e_r_1 ?_
  refine s_gd (by rw [thN T q_r_1 (k := 35) (n := 2) rfl (by decide)]; exact rg_inB (rg_b rfl : Rg (0) (0) ((0 : Int32))) (by decide)) ?_
  refine s_ref e_r_1 ?_
  refine s_gd (by rw [thN T q_r_1 (k := 35) (n := 2) rfl (by decide)]; exact rg_inB (rg_b rfl : Rg (1) (1) ((1 : Int32))) (by decide)) ?_
  refine s_q (fun v_5 e_1 => ?_)
  refine s_ref e_r_1 ?_
  refine s_gd (by rw [thN T q_r_1 (k := 35) (n := 2) rfl (by decide)]; exact rg_inB i_x3 (by decide)) ?_
  refine s_q (fun v_8 e_2 => ?_)
  have m_3 : Rg (0) (64) ((0 : Int32)) := (rg_m (rg_b rfl : Rg (0) (0) ((0 : Int32))) (by decide))
  exact zX5_isHit_26 hF F rfl T r_x0 r_x1 i_x2 (rg_m (rg_b rfl : Rg (0) (0) ((0 : Int32))) (by decide)) (fun on s ho hs hb => (th_ps T r_x1 ho e_r_1 hs (show x3.toNatClampNeg < 2 by have := rg_clamp (n := 1) i_x3 (by decide); omega) (by rw [← e_2]; exact hb)).1) (by have := m_3.1; have := m_3.2; omega)
set_option maxRecDepth 20000 in
theorem zX5_isRoyalHit {ρ : Nat → Nat} {c : Cm} {F : Nat} (hF : 700000 ≤ F) {h : Hp} {x0 : Nat} {x1 : Nat} {x2 : Int32} (T : TH ρ c h) (r_x0 : ρ x0 = 6) (r_x1 : ρ x1 = 4) (i_x2 : Rg (0) (1) (x2)) : Sat (sX5_isRoyalHit F h x0 x1 x2) (ZI0 h (0) (1)) := by
  unfold sX5_isRoyalHit sX5_isRoyalHit_31 sX5_isRoyalHit_32
  obtain ⟨r_1, e_r_1, q_r_1⟩ := thR T r_x1 (k := 4) (i := 2) (k2 := 36) rfl (by decide)
  refine s_ref e_r_1 ?_
  refine s_gd (by rw [thN T q_r_1 (k := 36) (n := 2) rfl (by decide)]; exact rg_inB i_x2 (by decide)) ?_
  refine s_br (fun c_1 => ?_) (fun c_1 => ?_)
  · have _ := c_1
    have i_f_2 : Rg (-1) (-1) ((hI h r_1 x2.toNatClampNeg)) := rg_eq c_1 (rg_b rfl : Rg (-1) (-1) ((- 1 : Int32)))
    refine s_gd (rg_bool (rg_m (rg_b rfl : Rg (0) (0) ((0 : Int32))) (by decide))) ?_
    exact s_some ⟨rfl, (rg_m (rg_b rfl : Rg (0) (0) ((0 : Int32))) (by decide))⟩
  · have _ := c_1
    have i_f_3 : Rg (0) (63) ((hI h r_1 x2.toNatClampNeg)) := rg_nlo c_1 (thI T q_r_1 (k := 36) rfl : Rg (-1) (63) ((hI h r_1 x2.toNatClampNeg))) (rg_b rfl : Rg (-1) (-1) ((- 1 : Int32)))
    refine s_ref e_r_1 ?_
    refine s_gd (by rw [thN T q_r_1 (k := 36) (n := 2) rfl (by decide)]; exact rg_inB i_x2 (by decide)) ?_
    refine s_cI0 (zX5_isHit hF T r_x0 r_x1 i_f_3 (rg_sub (rg_b rfl : Rg (1) (1) ((1 : Int32))) i_x2 (by decide) : Rg (0) (1) (((1 : Int32) - x2)))) (fun o_6 e_o_6 i_o_6 => ?_)
    have T_4 := th_eq e_o_6 T
    refine s_br (fun c_5 => ?_) (fun c_5 => ?_)
    · have _ := c_5
      have i_f_6 : Rg (0) (0) (o_6.1) := rg_eq c_5 (rg_b rfl : Rg (0) (0) (0 : Int32))
      refine s_gd (rg_bool (rg_m (rg_b rfl : Rg (0) (0) ((0 : Int32))) (by decide))) ?_
      exact s_some ⟨(e_o_6.trans rfl), (rg_m (rg_b rfl : Rg (0) (0) ((0 : Int32))) (by decide))⟩
    · have _ := c_5
      have i_f_7 : Rg (1) (1) (o_6.1) := rg_nlo c_5 i_o_6 (rg_b rfl : Rg (0) (0) (0 : Int32))
      refine s_gd (rg_bool (rg_m (rg_b rfl : Rg (1) (1) ((1 : Int32))) (by decide))) ?_
      exact s_some ⟨(e_o_6.trans rfl), (rg_m (rg_b rfl : Rg (1) (1) ((1 : Int32))) (by decide))⟩
set_option maxRecDepth 20000 in
theorem zX1_becomesOthers {ρ : Nat → Nat} {c : Cm} {F : Nat} (hF : 700000 ≤ F) {h : Hp} {x0 : Nat} {x1 : Int32} (T : TH ρ c h) (r_x0 : ρ x0 = 2) (i_x1 : Rg (-1) (15) (x1)) : Sat (sX1_becomesOthers h x0 x1) (ZI0 h (0) (1)) := by
  unfold sX1_becomesOthers sX1_becomesOthers_23 sX1_becomesOthers_24
  refine s_br (fun c_1 => ?_) (fun c_1 => ?_)
  · have _ := c_1
    have i_f_2 : Rg (-1) (-1) (x1) := rg_lt1 c_1 i_x1 (rg_b rfl : Rg (0) (0) (0 : Int32))
    refine s_gd (rg_bool (rg_m (rg_b rfl : Rg (0) (0) ((0 : Int32))) (by decide))) ?_
    exact s_some ⟨rfl, (rg_m (rg_b rfl : Rg (0) (0) ((0 : Int32))) (by decide))⟩
  · have _ := c_1
    have i_f_3 : Rg (0) (15) (x1) := rg_le2 (nlt_le c_1) (rg_b rfl : Rg (0) (0) (0 : Int32)) i_x1
    refine s_br (fun c_4 => ?_) (fun c_4 => ?_)
    · have _ := c_4
      have i_f_5 : Rg (12) (15) (x1) := rg_le2 c_4 (rg_b rfl : Rg (12) (12) ((12 : Int32))) i_f_3
      refine s_gd (rg_bool (rg_m (rg_b rfl : Rg (0) (0) ((0 : Int32))) (by decide))) ?_
      exact s_some ⟨rfl, (rg_m (rg_b rfl : Rg (0) (0) ((0 : Int32))) (by decide))⟩
    · have _ := c_4
      have i_f_6 : Rg (0) (11) (x1) := rg_lt1 (nle_lt c_4) i_f_3 (rg_b rfl : Rg (12) (12) ((12 : Int32)))
      obtain ⟨r_3, e_r_3, q_r_3⟩ := thR T r_x0 (k := 2) (i := 18) (k2 := 31) rfl (by decide)
      refine s_ref e_r_3 ?_
      refine s_gd (by rw [thN T q_r_3 (k := 31) (n := 12) rfl (by decide)]; exact rg_inB i_f_6 (by decide)) ?_
      refine s_br (fun c_7 => ?_) (fun c_7 => ?_)
      · have _ := c_7
        have i_f_8 : Rg (0) (0) ((hI h r_3 x1.toNatClampNeg)) := rg_le1 c_7 (thI T q_r_3 (k := 31) rfl : Rg (0) (6) ((hI h r_3 x1.toNatClampNeg))) (rg_b rfl : Rg (0) (0) (0 : Int32))
        refine s_gd (rg_bool (rg_m (rg_b rfl : Rg (0) (0) ((0 : Int32))) (by decide))) ?_
        exact s_some ⟨rfl, (rg_m (rg_b rfl : Rg (0) (0) ((0 : Int32))) (by decide))⟩
      · have _ := c_7
        have i_f_9 : Rg (1) (6) ((hI h r_3 x1.toNatClampNeg)) := rg_lt2 (nle_lt c_7) (rg_b rfl : Rg (0) (0) (0 : Int32)) (thI T q_r_3 (k := 31) rfl : Rg (0) (6) ((hI h r_3 x1.toNatClampNeg)))
        refine s_gd (rg_bool (rg_m (rg_b rfl : Rg (1) (1) ((1 : Int32))) (by decide))) ?_
        exact s_some ⟨rfl, (rg_m (rg_b rfl : Rg (1) (1) ((1 : Int32))) (by decide))⟩
set_option maxRecDepth 20000 in
theorem zX5_isBare {ρ : Nat → Nat} {c : Cm} {F : Nat} (hF : 700000 ≤ F) {h : Hp} {x0 : Nat} {x1 : Nat} {x2 : Int32} (T : TH ρ c h) (r_x0 : ρ x0 = 6) (r_x1 : ρ x1 = 4) (i_x2 : Rg (0) (1) (x2)) : Sat (sX5_isBare h x0 x1 x2) (ZI0 h (0) (1)) := by
  unfold sX5_isBare sX5_isBare_27 sX5_isBare_26
  obtain ⟨r_1, e_r_1, q_r_1⟩ := thR T r_x1 (k := 4) (i := 1) (k2 := 35) rfl (by decide)
  refine s_ref e_r_1 ?_
  refine s_gd (by rw [thN T q_r_1 (k := 35) (n := 2) rfl (by decide)]; exact rg_inB i_x2 (by decide)) ?_
  refine s_br (fun c_1 => ?_) (fun c_1 => ?_)
  · have _ := c_1
    obtain ⟨r_4, e_r_4, q_r_4⟩ := thR T r_x1 (k := 4) (i := 3) (k2 := 37) rfl (by decide)
    refine s_ref e_r_4 ?_
    refine s_gd (by rw [thN T q_r_4 (k := 37) (n := 2) rfl (by decide)]; exact rg_inB i_x2 (by decide)) ?_
    refine s_br (fun c_2 => ?_) (fun c_2 => ?_)
    · have _ := c_2
      refine s_gd (rg_bool (rg_m (rg_b rfl : Rg (1) (1) ((1 : Int32))) (by decide))) ?_
      exact s_some ⟨rfl, (rg_m (rg_b rfl : Rg (1) (1) ((1 : Int32))) (by decide))⟩
    · have _ := c_2
      refine s_gd (rg_bool (rg_m (rg_b rfl : Rg (0) (0) ((0 : Int32))) (by decide))) ?_
      exact s_some ⟨rfl, (rg_m (rg_b rfl : Rg (0) (0) ((0 : Int32))) (by decide))⟩
  · have _ := c_1
    refine s_gd (rg_bool (rg_m (rg_b rfl : Rg (0) (0) ((0 : Int32))) (by decide))) ?_
    exact s_some ⟨rfl, (rg_m (rg_b rfl : Rg (0) (0) ((0 : Int32))) (by decide))⟩
set_option maxRecDepth 20000 in
theorem zX5_isOnHill {ρ : Nat → Nat} {c : Cm} {F : Nat} (hF : 700000 ≤ F) {h : Hp} {x0 : Nat} {x1 : Nat} {x2 : Int32} (T : TH ρ c h) (r_x0 : ρ x0 = 6) (r_x1 : ρ x1 = 4) (i_x2 : Rg (0) (1) (x2)) : Sat (sX5_isOnHill h x0 x1 x2) (ZI0 h (0) (1)) := by
  unfold sX5_isOnHill sX5_isOnHill_35 sX5_isOnHill_36
  obtain ⟨r_1, e_r_1, q_r_1⟩ := thR T r_x1 (k := 4) (i := 2) (k2 := 36) rfl (by decide)
  refine s_ref e_r_1 ?_
  refine s_gd (by rw [thN T q_r_1 (k := 36) (n := 2) rfl (by decide)]; exact rg_inB i_x2 (by decide)) ?_
  refine s_br (fun c_1 => ?_) (fun c_1 => ?_)
  · have _ := c_1
    have i_f_2 : Rg (-1) (-1) ((hI h r_1 x2.toNatClampNeg)) := rg_eq c_1 (rg_b rfl : Rg (-1) (-1) ((- 1 : Int32)))
    refine s_gd (rg_bool (rg_m (rg_b rfl : Rg (0) (0) ((0 : Int32))) (by decide))) ?_
    exact s_some ⟨rfl, (rg_m (rg_b rfl : Rg (0) (0) ((0 : Int32))) (by decide))⟩
  · have _ := c_1
    have i_f_3 : Rg (0) (63) ((hI h r_1 x2.toNatClampNeg)) := rg_nlo c_1 (thI T q_r_1 (k := 36) rfl : Rg (-1) (63) ((hI h r_1 x2.toNatClampNeg))) (rg_b rfl : Rg (-1) (-1) ((- 1 : Int32)))
    obtain ⟨r_4, e_r_4, q_r_4⟩ := thR T r_x0 (k := 6) (i := 0) (k2 := 2) rfl (by decide)
    refine s_ref e_r_4 ?_
    refine s_ref e_r_1 ?_
    refine s_gd (by rw [thN T q_r_1 (k := 36) (n := 2) rfl (by decide)]; exact rg_inB i_x2 (by decide)) ?_
    refine s_br (fun c_4 => ?_) (fun c_4 => ?_)
    · have _ := c_4
      refine s_gd (rg_bool (rg_m (rg_b rfl : Rg (0) (0) ((0 : Int32))) (by decide))) ?_
      exact s_some ⟨rfl, (rg_m (rg_b rfl : Rg (0) (0) ((0 : Int32))) (by decide))⟩
    · have _ := c_4
      refine s_gd (rg_bool (rg_m (rg_b rfl : Rg (1) (1) ((1 : Int32))) (by decide))) ?_
      exact s_some ⟨rfl, (rg_m (rg_b rfl : Rg (1) (1) ((1 : Int32))) (by decide))⟩
set_option maxRecDepth 20000 in
theorem zX5_winnerOf {ρ : Nat → Nat} {c : Cm} {F : Nat} (hF : 700000 ≤ F) {h : Hp} {x0 : Nat} {x1 : Nat} {x2 : Int32} (T : TH ρ c h) (r_x0 : ρ x0 = 6) (r_x1 : ρ x1 = 4) (i_x2 : Rg (0) (6) (x2)) : Sat (sX5_winnerOf h x0 x1 x2) (ZI0 h (-1) (2)) := by
  unfold sX5_winnerOf sX5_winnerOf_64 sX5_winnerOf_81 sX5_winnerOf_105 sX5_winnerOf_121 sX5_winnerOf_143 sX5_winnerOf_179
  refine s_q (fun v_1 e_1 => ?_)
  have i_v_1 : Rg (0) (1) (v_1) := by rw [e_1]; exact (thI T r_x1 (k := 4) (i := 5) rfl : Rg (0) (1) (hI h x1 5))
  refine s_q (fun v_2 e_2 => ?_)
  have i_v_2 : Rg (0) (1) (v_2) := by rw [e_2]; exact (rg_sub (rg_b rfl : Rg (1) (1) ((1 : Int32))) i_v_1 (by decide) : Rg (0) (1) ((1 : Int32) - v_1))
  refine s_br (fun c_3 => ?_) (fun c_3 => ?_)
  · have _ := c_3
    have i_f_4 : Rg (1) (1) (x2) := rg_eq c_3 (rg_b rfl : Rg (1) (1) ((1 : Int32)))
    obtain ⟨r_3, e_r_3, q_r_3⟩ := thR T r_x1 (k := 4) (i := 2) (k2 := 36) rfl (by decide)
    refine s_ref e_r_3 ?_
    refine s_gd (by rw [thN T q_r_3 (k := 36) (n := 2) rfl (by decide)]; exact rg_inB i_v_1 (by decide)) ?_
    refine s_br (fun c_5 => ?_) (fun c_5 => ?_)
    · have _ := c_5
      have i_f_6 : Rg (-1) (-1) ((hI h r_3 v_1.toNatClampNeg)) := rg_eq c_5 (rg_b rfl : Rg (-1) (-1) ((- 1 : Int32)))
      exact s_some ⟨rfl, (rg_m i_v_2 (by decide))⟩
    · have _ := c_5
      have i_f_7 : Rg (0) (63) ((hI h r_3 v_1.toNatClampNeg)) := rg_nlo c_5 (thI T q_r_3 (k := 36) rfl : Rg (-1) (63) ((hI h r_3 v_1.toNatClampNeg))) (rg_b rfl : Rg (-1) (-1) ((- 1 : Int32)))
      exact s_some ⟨rfl, (rg_m i_v_1 (by decide))⟩
  · have _ := c_3
    refine s_br (fun c_8 => ?_) (fun c_8 => ?_)
    · have _ := c_8
      have i_f_9 : Rg (2) (2) (x2) := rg_eq c_8 (rg_b rfl : Rg (2) (2) ((2 : Int32)))
      refine s_cI0 (zX5_isOnHill hF T r_x0 r_x1 i_v_2) (fun o_7 e_o_7 i_o_7 => ?_)
      have T_10 := th_eq e_o_7 T
      refine s_br (fun c_11 => ?_) (fun c_11 => ?_)
      · have _ := c_11
        have i_f_12 : Rg (0) (0) (o_7.1) := rg_eq c_11 (rg_b rfl : Rg (0) (0) (0 : Int32))
        exact s_some ⟨(e_o_7.trans rfl), (rg_m i_v_1 (by decide))⟩
      · have _ := c_11
        have i_f_13 : Rg (1) (1) (o_7.1) := rg_nlo c_11 i_o_7 (rg_b rfl : Rg (0) (0) (0 : Int32))
        exact s_some ⟨(e_o_7.trans rfl), (rg_m i_v_2 (by decide))⟩
    · have _ := c_8
      refine s_br (fun c_14 => ?_) (fun c_14 => ?_)
      · have _ := c_14
        have i_f_15 : Rg (3) (3) (x2) := rg_eq c_14 (rg_b rfl : Rg (3) (3) ((3 : Int32)))
        obtain ⟨r_10, e_r_10, q_r_10⟩ := thR T r_x1 (k := 4) (i := 4) (k2 := 38) rfl (by decide)
        refine s_ref e_r_10 ?_
        refine s_gd (by rw [thN T q_r_10 (k := 38) (n := 2) rfl (by decide)]; exact rg_inB i_v_2 (by decide)) ?_
        obtain ⟨r_12, e_r_12, q_r_12⟩ := thR T r_x0 (k := 6) (i := 0) (k2 := 2) rfl (by decide)
        refine s_ref e_r_12 ?_
        refine s_br (fun c_16 => ?_) (fun c_16 => ?_)
        · have _ := c_16
          have i_f_17 : Rg (0) (8) ((hI h r_10 v_2.toNatClampNeg)) := rg_lt1 c_16 (thI T q_r_10 (k := 38) rfl : Rg (0) (9) ((hI h r_10 v_2.toNatClampNeg))) (thI T q_r_12 (k := 2) (i := 7) rfl : Rg (0) (9) ((hI h r_12 7)))
          have i_f_18 : Rg (1) (9) ((hI h r_12 7)) := rg_lt2 c_16 (thI T q_r_10 (k := 38) rfl : Rg (0) (9) ((hI h r_10 v_2.toNatClampNeg))) (thI T q_r_12 (k := 2) (i := 7) rfl : Rg (0) (9) ((hI h r_12 7)))
          exact s_some ⟨rfl, (rg_m i_v_1 (by decide))⟩
        · have _ := c_16
          exact s_some ⟨rfl, (rg_m i_v_2 (by decide))⟩
      · have _ := c_14
        refine s_br (fun c_19 => ?_) (fun c_19 => ?_)
        · have _ := c_19
          have i_f_20 : Rg (4) (4) (x2) := rg_eq c_19 (rg_b rfl : Rg (4) (4) ((4 : Int32)))
          refine s_cI0 (zX5_isBare hF T r_x0 r_x1 i_v_1) (fun o_15 e_o_15 i_o_15 => ?_)
          have T_21 := th_eq e_o_15 T
          refine s_br (fun c_22 => ?_) (fun c_22 => ?_)
          · have _ := c_22
            have i_f_23 : Rg (0) (0) (o_15.1) := rg_eq c_22 (rg_b rfl : Rg (0) (0) (0 : Int32))
            obtain ⟨r_1q7, e_r_1q7, q_r_1q7⟩ := thR T_21 r_x0 (k := 6) (i := 0) (k2 := 2) rfl (by decide)
            refine s_ref e_r_1q7 ?_
            refine s_br (fun c_24 => ?_) (fun c_24 => ?_)
            · have _ := c_24
              have i_f_25 : Rg (1) (1) ((hI o_15.2 r_1q7 9)) := rg_eq c_24 (rg_b rfl : Rg (1) (1) ((1 : Int32)))
              exact s_some ⟨(e_o_15.trans rfl), (rg_m i_v_2 (by decide))⟩
            · have _ := c_24
              exact s_some ⟨(e_o_15.trans rfl), (rg_m (rg_sub (rg_b rfl : Rg (1) (1) ((1 : Int32))) i_v_2 (by decide) : Rg (0) (1) (((1 : Int32) - v_2))) (by decide))⟩
          · have _ := c_22
            have i_f_26 : Rg (1) (1) (o_15.1) := rg_nlo c_22 i_o_15 (rg_b rfl : Rg (0) (0) (0 : Int32))
            obtain ⟨r_1q10, e_r_1q10, q_r_1q10⟩ := thR T_21 r_x0 (k := 6) (i := 0) (k2 := 2) rfl (by decide)
            refine s_ref e_r_1q10 ?_
            refine s_br (fun c_27 => ?_) (fun c_27 => ?_)
            · have _ := c_27
              have i_f_28 : Rg (1) (1) ((hI o_15.2 r_1q10 9)) := rg_eq c_27 (rg_b rfl : Rg (1) (1) ((1 : Int32)))
              exact s_some ⟨(e_o_15.trans rfl), (rg_m i_v_1 (by decide))⟩
            · have _ := c_27
              exact s_some ⟨(e_o_15.trans rfl), (rg_m (rg_sub (rg_b rfl : Rg (1) (1) ((1 : Int32))) i_v_1 (by decide) : Rg (0) (1) (((1 : Int32) - v_1))) (by decide))⟩
        · have _ := c_19
          refine s_br (fun c_29 => ?_) (fun c_29 => ?_)
          · have _ := c_29
            have i_f_30 : Rg (5) (5) (x2) := rg_eq c_29 (rg_b rfl : Rg (5) (5) ((5 : Int32)))
            exact s_some ⟨rfl, (rg_m i_v_2 (by decide))⟩
          · have _ := c_29
            refine s_br (fun c_31 => ?_) (fun c_31 => ?_)
            · have _ := c_31
              have i_f_32 : Rg (6) (6) (x2) := rg_eq c_31 (rg_b rfl : Rg (6) (6) ((6 : Int32)))
              obtain ⟨r_19, e_r_19, q_r_19⟩ := thR T r_x0 (k := 6) (i := 0) (k2 := 2) rfl (by decide)
              refine s_ref e_r_19 ?_
              refine s_br (fun c_33 => ?_) (fun c_33 => ?_)
              · have _ := c_33
                have i_f_34 : Rg (1) (1) ((hI h r_19 8)) := rg_eq c_33 (rg_b rfl : Rg (1) (1) ((1 : Int32)))
                exact s_some ⟨rfl, (rg_m i_v_1 (by decide))⟩
              · have _ := c_33
                refine s_ref e_r_19 ?_
                refine s_br (fun c_35 => ?_) (fun c_35 => ?_)
                · have _ := c_35
                  have i_f_36 : Rg (2) (2) ((hI h r_19 8)) := rg_eq c_35 (rg_b rfl : Rg (2) (2) ((2 : Int32)))
                  exact s_some ⟨rfl, (rg_m i_v_2 (by decide))⟩
                · have _ := c_35
                  have i_f_37 : Rg (0) (1) ((hI h r_19 8)) := rg_nhi c_35 (thI T q_r_19 (k := 2) (i := 8) rfl : Rg (0) (2) ((hI h r_19 8))) (rg_b rfl : Rg (2) (2) ((2 : Int32)))
                  exact s_some ⟨rfl, (rg_m (rg_b rfl : Rg (2) (2) ((2 : Int32))) (by decide))⟩
            · have _ := c_31
              have i_f_38 : Rg (0) (5) (x2) := rg_nhi c_31 i_x2 (rg_b rfl : Rg (6) (6) ((6 : Int32)))
              exact s_some ⟨rfl, (rg_m (rg_b rfl : Rg (-1) (-1) ((- 1 : Int32))) (by decide))⟩
set_option maxRecDepth 20000 in
theorem zX0_endWorth {ρ : Nat → Nat} {c : Cm} {F : Nat} (hF : 700000 ≤ F) {h : Hp} {x0 : Nat} {x1 : Int32} (T : TH ρ c h) (r_x0 : ρ x0 = 1) (i_x1 : Rg (1) (6) (x1)) : Sat (sX0_endWorth h x0 x1) (ZI0 h (-1000000) (1000000)) := by
  unfold sX0_endWorth sX0_endWorth_40
  obtain ⟨r_1, e_r_1, q_r_1⟩ := thR T r_x0 (k := 1) (i := 2) (k2 := 6) rfl (by decide)
  refine s_ref e_r_1 ?_
  obtain ⟨r_2, e_r_2, q_r_2⟩ := thR T r_x0 (k := 1) (i := 3) (k2 := 4) rfl (by decide)
  refine s_ref e_r_2 ?_
  refine s_cI0 (zX5_winnerOf hF T q_r_1 q_r_2 (rg_m i_x1 (by decide))) (fun o_3 e_o_3 i_o_3 => ?_)
  have T_1 := th_eq e_o_3 T
  refine s_br (fun c_2 => ?_) (fun c_2 => ?_)
  · have _ := c_2
    have i_f_3 : Rg (2) (2) (o_3.1) := rg_eq c_2 (rg_b rfl : Rg (2) (2) ((2 : Int32)))
    exact s_some ⟨(e_o_3.trans rfl), (rg_m (rg_b rfl : Rg (0) (0) ((0 : Int32))) (by decide))⟩
  · have _ := c_2
    have i_f_4 : Rg (-1) (1) (o_3.1) := rg_nhi c_2 i_o_3 (rg_b rfl : Rg (2) (2) ((2 : Int32)))
    refine s_ref (hr_e e_o_3 e_r_2) ?_
    refine s_br (fun c_5 => ?_) (fun c_5 => ?_)
    · have _ := c_5
      have i_f_6 : Rg (0) (1) (o_3.1) := rg_eq c_5 (thI T_1 q_r_2 (k := 4) (i := 5) rfl : Rg (0) (1) ((hI o_3.2 r_2 5)))
      exact s_some ⟨(e_o_3.trans rfl), (rg_m (rg_b rfl : Rg (1000000) (1000000) ((1000000 : Int32))) (by decide))⟩
    · have _ := c_5
      exact s_some ⟨(e_o_3.trans rfl), (rg_m (rg_b rfl : Rg (-1000000) (-1000000) ((- 1000000 : Int32))) (by decide))⟩
set_option maxRecDepth 20000 in
theorem zX5_earlyEnd_109 {ρ : Nat → Nat} {c : Cm} {h0 : Hp} {F : Nat} (hF : 700000 ≤ F) {h : Hp} {x0 : Nat} {x1 : Nat} (E : h = h0) (T : TH ρ c h) (r_x0 : ρ x0 = 6) (r_x1 : ρ x1 = 4) : Sat (sX5_earlyEnd_109 h x0 x1) (ZI0 h0 (0) (4)) := by
  unfold sX5_earlyEnd_109 sX5_earlyEnd_132 sX5_earlyEnd_127
  refine s_cI0 (zX5_isBare hF T r_x0 r_x1 (rg_m (rg_b rfl : Rg (0) (0) ((0 : Int32))) (by decide))) (fun o_1 e_o_1 i_o_1 => ?_)
  have T_1 := th_eq e_o_1 T
  refine s_br (fun c_2 => ?_) (fun c_2 => ?_)
  · have _ := c_2
    have i_f_3 : Rg (0) (0) (o_1.1) := rg_eq c_2 (rg_b rfl : Rg (0) (0) (0 : Int32))
    refine s_cI0 (zX5_isBare hF T_1 r_x0 r_x1 (rg_m (rg_b rfl : Rg (1) (1) ((1 : Int32))) (by decide))) (fun o_3 e_o_3 i_o_3 => ?_)
    have T_4 := th_eq e_o_3 T_1
    refine s_br (fun c_5 => ?_) (fun c_5 => ?_)
    · have _ := c_5
      have i_f_6 : Rg (0) (0) (o_3.1) := rg_eq c_5 (rg_b rfl : Rg (0) (0) (0 : Int32))
      exact s_some ⟨(e_o_3.trans (e_o_1.trans E)), (rg_m (rg_b rfl : Rg (0) (0) ((0 : Int32))) (by decide))⟩
    · have _ := c_5
      have i_f_7 : Rg (1) (1) (o_3.1) := rg_nlo c_5 i_o_3 (rg_b rfl : Rg (0) (0) (0 : Int32))
      exact s_some ⟨(e_o_3.trans (e_o_1.trans E)), (rg_m (rg_b rfl : Rg (4) (4) ((4 : Int32))) (by decide))⟩
  · have _ := c_2
    have i_f_8 : Rg (1) (1) (o_1.1) := rg_nlo c_2 i_o_1 (rg_b rfl : Rg (0) (0) (0 : Int32))
    exact s_some ⟨(e_o_1.trans E), (rg_m (rg_b rfl : Rg (4) (4) ((4 : Int32))) (by decide))⟩
set_option maxRecDepth 20000 in
theorem zX5_earlyEnd_45 {ρ : Nat → Nat} {c : Cm} {h0 : Hp} {F : Nat} (hF : 700000 ≤ F) {h : Hp} {x0 : Nat} {x1 : Nat} (E : h = h0) (T : TH ρ c h) (r_x0 : ρ x0 = 6) (r_x1 : ρ x1 = 4) : Sat (sX5_earlyEnd_45 h x0 x1) (ZI0 h0 (0) (4)) := by
  unfold sX5_earlyEnd_45 sX5_earlyEnd_107 sX5_earlyEnd_63
  refine s_cI0 (zX5_isOnHill hF T r_x0 r_x1 (rg_m (rg_b rfl : Rg (0) (0) ((0 : Int32))) (by decide))) (fun o_1 e_o_1 i_o_1 => ?_)
  have T_1 := th_eq e_o_1 T
  refine s_br (fun c_2 => ?_) (fun c_2 => ?_)
  · have _ := c_2
    have i_f_3 : Rg (0) (0) (o_1.1) := rg_eq c_2 (rg_b rfl : Rg (0) (0) (0 : Int32))
    refine s_cI0 (zX5_isOnHill hF T_1 r_x0 r_x1 (rg_m (rg_b rfl : Rg (1) (1) ((1 : Int32))) (by decide))) (fun o_3 e_o_3 i_o_3 => ?_)
    have T_4 := th_eq e_o_3 T_1
    refine s_br (fun c_5 => ?_) (fun c_5 => ?_)
    · have _ := c_5
      have i_f_6 : Rg (0) (0) (o_3.1) := rg_eq c_5 (rg_b rfl : Rg (0) (0) (0 : Int32))
      obtain ⟨r_5, e_r_5, q_r_5⟩ := thR T_4 r_x0 (k := 6) (i := 0) (k2 := 2) rfl (by decide)
      refine s_ref e_r_5 ?_
      refine s_br (fun c_7 => ?_) (fun c_7 => ?_)
      · have _ := c_7
        have i_f_8 : Rg (0) (0) ((hI o_3.2 r_5 7)) := rg_le1 c_7 (thI T_4 q_r_5 (k := 2) (i := 7) rfl : Rg (0) (9) ((hI o_3.2 r_5 7))) (rg_b rfl : Rg (0) (0) (0 : Int32))
        exact zX5_earlyEnd_109 hF (e_o_3.trans (e_o_1.trans E)) T_4 r_x0 r_x1
      · have _ := c_7
        have i_f_9 : Rg (1) (9) ((hI o_3.2 r_5 7)) := rg_lt2 (nle_lt c_7) (rg_b rfl : Rg (0) (0) (0 : Int32)) (thI T_4 q_r_5 (k := 2) (i := 7) rfl : Rg (0) (9) ((hI o_3.2 r_5 7)))
        obtain ⟨r_7, e_r_7, q_r_7⟩ := thR T_4 r_x1 (k := 4) (i := 4) (k2 := 38) rfl (by decide)
        refine s_ref e_r_7 ?_
        refine s_gd (by rw [thN T_4 q_r_7 (k := 38) (n := 2) rfl (by decide)]; exact rg_inB (rg_b rfl : Rg (0) (0) ((0 : Int32))) (by decide)) ?_
        refine s_ref e_r_5 ?_
        refine s_br (fun c_10 => ?_) (fun c_10 => ?_)
        · have _ := c_10
          have i_f_11 : Rg (1) (9) ((hI o_3.2 r_7 (0 : Int32).toNatClampNeg)) := rg_le2 c_10 i_f_9 (thI T_4 q_r_7 (k := 38) rfl : Rg (0) (9) ((hI o_3.2 r_7 (0 : Int32).toNatClampNeg)))
          exact s_some ⟨(e_o_3.trans (e_o_1.trans E)), (rg_m (rg_b rfl : Rg (3) (3) ((3 : Int32))) (by decide))⟩
        · have _ := c_10
          have i_f_12 : Rg (0) (8) ((hI o_3.2 r_7 (0 : Int32).toNatClampNeg)) := rg_lt1 (nle_lt c_10) (thI T_4 q_r_7 (k := 38) rfl : Rg (0) (9) ((hI o_3.2 r_7 (0 : Int32).toNatClampNeg))) i_f_9
          refine s_ref e_r_7 ?_
          refine s_gd (by rw [thN T_4 q_r_7 (k := 38) (n := 2) rfl (by decide)]; exact rg_inB (rg_b rfl : Rg (1) (1) ((1 : Int32))) (by decide)) ?_
          refine s_ref e_r_5 ?_
          refine s_br (fun c_13 => ?_) (fun c_13 => ?_)
          · have _ := c_13
            have i_f_14 : Rg (0) (8) ((hI o_3.2 r_7 (1 : Int32).toNatClampNeg)) := rg_lt1 c_13 (thI T_4 q_r_7 (k := 38) rfl : Rg (0) (9) ((hI o_3.2 r_7 (1 : Int32).toNatClampNeg))) i_f_9
            exact zX5_earlyEnd_109 hF (e_o_3.trans (e_o_1.trans E)) T_4 r_x0 r_x1
          · have _ := c_13
            have i_f_15 : Rg (1) (9) ((hI o_3.2 r_7 (1 : Int32).toNatClampNeg)) := rg_le2 (nlt_le c_13) i_f_9 (thI T_4 q_r_7 (k := 38) rfl : Rg (0) (9) ((hI o_3.2 r_7 (1 : Int32).toNatClampNeg)))
            exact s_some ⟨(e_o_3.trans (e_o_1.trans E)), (rg_m (rg_b rfl : Rg (3) (3) ((3 : Int32))) (by decide))⟩
    · have _ := c_5
      have i_f_16 : Rg (1) (1) (o_3.1) := rg_nlo c_5 i_o_3 (rg_b rfl : Rg (0) (0) (0 : Int32))
      exact s_some ⟨(e_o_3.trans (e_o_1.trans E)), (rg_m (rg_b rfl : Rg (2) (2) ((2 : Int32))) (by decide))⟩
  · have _ := c_2
    have i_f_17 : Rg (1) (1) (o_1.1) := rg_nlo c_2 i_o_1 (rg_b rfl : Rg (0) (0) (0 : Int32))
    exact s_some ⟨(e_o_1.trans E), (rg_m (rg_b rfl : Rg (2) (2) ((2 : Int32))) (by decide))⟩
set_option maxRecDepth 20000 in
theorem zX5_earlyEnd {ρ : Nat → Nat} {c : Cm} {F : Nat} (hF : 700000 ≤ F) {h : Hp} {x0 : Nat} {x1 : Nat} (T : TH ρ c h) (r_x0 : ρ x0 = 6) (r_x1 : ρ x1 = 4) : Sat (sX5_earlyEnd h x0 x1) (ZI0 h (0) (4)) := by
  unfold sX5_earlyEnd sX5_earlyEnd_43
  obtain ⟨r_1, e_r_1, q_r_1⟩ := thR T r_x0 (k := 6) (i := 0) (k2 := 2) rfl (by decide)
  refine s_ref e_r_1 ?_
  refine s_cI0 (zX1_has hF T q_r_1 (rg_m (rg_b rfl : Rg (8) (8) ((8 : Int32))) (by decide))) (fun o_2 e_o_2 i_o_2 => ?_)
  have T_1 := th_eq e_o_2 T
  refine s_br (fun c_2 => ?_) (fun c_2 => ?_)
  · have _ := c_2
    have i_f_3 : Rg (0) (0) (o_2.1) := rg_eq c_2 (rg_b rfl : Rg (0) (0) (0 : Int32))
    exact zX5_earlyEnd_45 hF (e_o_2.trans rfl) T_1 r_x0 r_x1
  · have _ := c_2
    have i_f_4 : Rg (1) (1) (o_2.1) := rg_nlo c_2 i_o_2 (rg_b rfl : Rg (0) (0) (0 : Int32))
    refine s_ref (hr_e e_o_2 e_r_1) ?_
    refine s_br (fun c_5 => ?_) (fun c_5 => ?_)
    · have _ := c_5
      have i_f_6 : Rg (-1) (-1) ((hI o_2.2 r_1 4)) := rg_eq c_5 (rg_b rfl : Rg (-1) (-1) ((- 1 : Int32)))
      exact zX5_earlyEnd_45 hF (e_o_2.trans rfl) T_1 r_x0 r_x1
    · have _ := c_5
      have i_f_7 : Rg (0) (11) ((hI o_2.2 r_1 4)) := rg_nlo c_5 (thI T_1 q_r_1 (k := 2) (i := 4) rfl : Rg (-1) (11) ((hI o_2.2 r_1 4))) (rg_b rfl : Rg (-1) (-1) ((- 1 : Int32)))
      obtain ⟨r_6, e_r_6, q_r_6⟩ := thR T_1 r_x1 (k := 4) (i := 2) (k2 := 36) rfl (by decide)
      refine s_ref e_r_6 ?_
      refine s_gd (by rw [thN T_1 q_r_6 (k := 36) (n := 2) rfl (by decide)]; exact rg_inB (rg_b rfl : Rg (0) (0) ((0 : Int32))) (by decide)) ?_
      refine s_br (fun c_8 => ?_) (fun c_8 => ?_)
      · have _ := c_8
        have i_f_9 : Rg (-1) (-1) ((hI o_2.2 r_6 (0 : Int32).toNatClampNeg)) := rg_eq c_8 (rg_b rfl : Rg (-1) (-1) ((- 1 : Int32)))
        exact s_some ⟨(e_o_2.trans rfl), (rg_m (rg_b rfl : Rg (1) (1) ((1 : Int32))) (by decide))⟩
      · have _ := c_8
        have i_f_10 : Rg (0) (63) ((hI o_2.2 r_6 (0 : Int32).toNatClampNeg)) := rg_nlo c_8 (thI T_1 q_r_6 (k := 36) rfl : Rg (-1) (63) ((hI o_2.2 r_6 (0 : Int32).toNatClampNeg))) (rg_b rfl : Rg (-1) (-1) ((- 1 : Int32)))
        refine s_ref e_r_6 ?_
        refine s_gd (by rw [thN T_1 q_r_6 (k := 36) (n := 2) rfl (by decide)]; exact rg_inB (rg_b rfl : Rg (1) (1) ((1 : Int32))) (by decide)) ?_
        refine s_br (fun c_11 => ?_) (fun c_11 => ?_)
        · have _ := c_11
          have i_f_12 : Rg (-1) (-1) ((hI o_2.2 r_6 (1 : Int32).toNatClampNeg)) := rg_eq c_11 (rg_b rfl : Rg (-1) (-1) ((- 1 : Int32)))
          exact s_some ⟨(e_o_2.trans rfl), (rg_m (rg_b rfl : Rg (1) (1) ((1 : Int32))) (by decide))⟩
        · have _ := c_11
          have i_f_13 : Rg (0) (63) ((hI o_2.2 r_6 (1 : Int32).toNatClampNeg)) := rg_nlo c_11 (thI T_1 q_r_6 (k := 36) rfl : Rg (-1) (63) ((hI o_2.2 r_6 (1 : Int32).toNatClampNeg))) (rg_b rfl : Rg (-1) (-1) ((- 1 : Int32)))
          exact zX5_earlyEnd_45 hF (e_o_2.trans rfl) T_1 r_x0 r_x1
set_option maxRecDepth 20000 in
theorem zX0_earlyWorth {ρ : Nat → Nat} {c : Cm} {F : Nat} (hF : 700000 ≤ F) (hi_1003 : pmO c 1003 [(4, 5)]) {h : Hp} {x0 : Nat} {x1 : Int32} (T : TH ρ c h) (r_x0 : ρ x0 = 1) (i_x1 : Rg (0) (1) (x1)) : Sat (sX0_earlyWorth F h x0 x1) (ZI ρ c (-1000000) (4000000)) := by
  unfold sX0_earlyWorth sX0_earlyWorth_54
  obtain ⟨r_1, e_r_1, q_r_1⟩ := thR T r_x0 (k := 1) (i := 3) (k2 := 4) rfl (by decide)
  refine s_ref e_r_1 ?_
  refine s_hq (th_wI T q_r_1 (k := 4) (lo := (0)) (hi := (1)) rfl (i_x1 : Rg (0) (1) (x1)) (by decide) (by decide) (pm_o hi_1003 (th_id T r_x0 (k := 1) (i := 3) (w := 1003) e_r_1 rfl (by decide)) rfl)) (fun h_2 T_1 w_2 => ?_)
  obtain ⟨r_3, e_r_3, q_r_3⟩ := thR T_1 r_x0 (k := 1) (i := 2) (k2 := 6) rfl (by decide)
  refine s_ref e_r_3 ?_
  refine s_ref (hr_w w_2 e_r_1) ?_
  refine s_cI0 (zX5_isRoyalHit hF T_1 q_r_3 q_r_1 (rg_sub (rg_b rfl : Rg (1) (1) ((1 : Int32))) i_x1 (by decide) : Rg (0) (1) (((1 : Int32) - x1)))) (fun o_5 e_o_5 i_o_5 => ?_)
  have T_3 := th_eq e_o_5 T_1
  refine s_br (fun c_4 => ?_) (fun c_4 => ?_)
  · have _ := c_4
    have i_f_5 : Rg (0) (0) (o_5.1) := rg_eq c_4 (rg_b rfl : Rg (0) (0) (0 : Int32))
    refine s_ref (hr_e e_o_5 e_r_3) ?_
    refine s_ref (hr_e e_o_5 (hr_w w_2 e_r_1)) ?_
    refine s_cI0 (zX5_earlyEnd hF T_3 q_r_3 q_r_1) (fun o_9 e_o_9 i_o_9 => ?_)
    have T_6 := th_eq e_o_9 T_3
    refine s_br (fun c_7 => ?_) (fun c_7 => ?_)
    · have _ := c_7
      have i_f_8 : Rg (0) (0) (o_9.1) := rg_eq c_7 (rg_b rfl : Rg (0) (0) (0 : Int32))
      exact s_some ⟨(T_6), (rg_m (rg_b rfl : Rg (3000000) (3000000) ((3000000 : Int32))) (by decide))⟩
    · have _ := c_7
      have i_f_9 : Rg (1) (4) (o_9.1) := rg_nlo c_7 i_o_9 (rg_b rfl : Rg (0) (0) (0 : Int32))
      refine s_cI0 (zX0_endWorth hF T_6 r_x0 (rg_m i_f_9 (by decide))) (fun o_11 e_o_11 i_o_11 => ?_)
      have T_10 := th_eq e_o_11 T_6
      exact s_some ⟨(T_10), (rg_m i_o_11 (by decide))⟩
  · have _ := c_4
    have i_f_11 : Rg (1) (1) (o_5.1) := rg_nlo c_4 i_o_5 (rg_b rfl : Rg (0) (0) (0 : Int32))
    exact s_some ⟨(T_3), (rg_m (rg_b rfl : Rg (4000000) (4000000) ((4000000 : Int32))) (by decide))⟩
set_option maxRecDepth 20000 in
theorem zX1_manOf_2 {ρ : Nat → Nat} {c : Cm} {h0 : Hp} {F : Nat} (hF : 700000 ≤ F) : ∀ (f : Nat) {h : Hp} {x0 : Nat} {x1 : Int32} {x2 : Int32}, h = h0 → TH ρ c h → ρ x0 = 2 → Rg (-1) (255) (x1) → Rg (0) (12) (x2) → (12 - x2.toInt).toNat < f → Sat (sX1_manOf_2 F f h x0 x1 x2) (ZI0 h0 (-1) (11)) := by
  intro f
  induction f with
  | zero => intros; omega
  | succ f ih =>
    intro h x0 x1 x2 E T r_x0 i_x1 i_x2 hm
    rw [sX1_manOf_2]
    obtain ⟨C_2, hC_2⟩ : ∃ C : Int, C = x2.toInt := ⟨_, rfl⟩
    have hk_2 : ∀ {h : Hp} {x0 : Nat} {x1 : Int32} {x2 : Int32}, h = h0 → TH ρ c h → ρ x0 = 2 → Rg (-1) (255) (x1) → Rg (0) (12) (x2) → C_2 < x2.toInt → Sat (sX1_manOf_2 F f h x0 x1 x2) (ZI0 h0 (-1) (11)) := by
      intro h' x0' x1' x2' E' T' r_x0' i_x1' i_x2' hl
      exact ih E' T' r_x0' i_x1' i_x2' (by have := i_x2'.1; have := i_x2'.2; omega)
    have hc_2 : C_2 ≤ x2.toInt := by omega
    refine s_br (fun c_1 => ?_) (fun c_1 => ?_)
    · have _ := c_1
      exact s_some ⟨E, (rg_m (rg_b rfl : Rg (-1) (-1) ((- 1 : Int32))) (by decide))⟩
    · have _ := c_1
      have i_f_2 : Rg (0) (11) (x2) := rg_lt1 (nle_lt c_1) i_x2 (thI T r_x0 (k := 2) (i := 3) rfl : Rg (0) (12) ((hI h x0 3)))
      have i_f_3 : Rg (1) (12) ((hI h x0 3)) := rg_lt2 (nle_lt c_1) i_x2 (thI T r_x0 (k := 2) (i := 3) rfl : Rg (0) (12) ((hI h x0 3)))
      obtain ⟨r_2, e_r_2, q_r_2⟩ := thR T r_x0 (k := 2) (i := 14) (k2 := 27) rfl (by decide)
      refine s_ref e_r_2 ?_
      refine s_gd (by rw [thN T q_r_2 (k := 27) (n := 12) rfl (by decide)]; exact rg_inB i_f_2 (by decide)) ?_
      refine s_br (fun c_4 => ?_) (fun c_4 => ?_)
      · have _ := c_4
        have i_f_5 : Rg (0) (122) (x1) := rg_eq c_4.symm (thI T q_r_2 (k := 27) rfl : Rg (0) (122) ((hI h r_2 x2.toNatClampNeg)))
        exact s_some ⟨E, (rg_m i_f_2 (by decide))⟩
      · have _ := c_4
        refine s_q (fun v_5 e_6 => ?_)
        have i_v_5 : Rg (1) (12) (v_5) := by rw [e_6]; exact (rg_add i_f_2 (rg_b rfl : Rg (1) (1) ((1 : Int32))) (by decide) : Rg (1) (12) (x2 + (1 : Int32)))
        have m_7 : (v_5).toInt = x2.toInt + 1 := by rw [e_6]; exact rg_inc i_f_2 (by decide)
        exact hk_2 E T r_x0 i_x1 (rg_m i_v_5 (by decide)) (by have := hc_2; omega)
set_option maxRecDepth 20000 in
theorem zX1_manOf {ρ : Nat → Nat} {c : Cm} {F : Nat} (hF : 700000 ≤ F) {h : Hp} {x0 : Nat} {x1 : Int32} (T : TH ρ c h) (r_x0 : ρ x0 = 2) (i_x1 : Rg (-1) (255) (x1)) : Sat (sX1_manOf F h x0 x1) (ZI0 h (-1) (11)) := by
  unfold sX1_manOf 
  have m_1 : Rg (0) (12) ((0 : Int32)) := (rg_m (rg_b rfl : Rg (0) (0) ((0 : Int32))) (by decide))
  exact zX1_manOf_2 hF F rfl T r_x0 i_x1 (rg_m (rg_b rfl : Rg (0) (0) ((0 : Int32))) (by decide)) (by have := m_1.1; have := m_1.2; omega)
set_option maxRecDepth 20000 in
theorem zX1_codeOf_31 {ρ : Nat → Nat} {c : Cm} {h0 : Hp} {F : Nat} (hF : 700000 ≤ F) {h : Hp} {x2 : Int32} {t0 : Int32} {t1 : Nat} (E : h = h0) (T : TH ρ c h) (i_x2 : Rg (0) (1) (x2)) (i_t0 : Rg (-1) (255) (t0)) (r_t1 : ρ t1 = 2) : Sat (sX1_codeOf_31 F h x2 t0 t1) (ZI0 h0 (-1) (23)) := by
  unfold sX1_codeOf_31 sX1_codeOf_57 sX1_codeOf_56
  refine s_cI0 (zX1_manOf hF T r_t1 i_t0) (fun o_1 e_o_1 i_o_1 => ?_)
  have T_1 := th_eq e_o_1 T
  refine s_br (fun c_2 => ?_) (fun c_2 => ?_)
  · have _ := c_2
    have i_f_3 : Rg (-1) (-1) (o_1.1) := rg_eq c_2 (rg_b rfl : Rg (-1) (-1) ((- 1 : Int32)))
    exact s_some ⟨(e_o_1.trans E), (rg_m (rg_b rfl : Rg (-1) (-1) ((- 1 : Int32))) (by decide))⟩
  · have _ := c_2
    have i_f_4 : Rg (0) (11) (o_1.1) := rg_nlo c_2 i_o_1 (rg_b rfl : Rg (-1) (-1) ((- 1 : Int32)))
    refine s_br (fun c_5 => ?_) (fun c_5 => ?_)
    · have _ := c_5
      have i_f_6 : Rg (0) (0) (x2) := rg_eq c_5 (rg_b rfl : Rg (0) (0) (0 : Int32))
      exact s_some ⟨(e_o_1.trans E), (rg_m (rg_add (rg_mulc' (rg_b rfl : Rg (2) (2) ((2 : Int32))) i_f_4 (by decide) : Rg (0) (22) (((2 : Int32) * o_1.1))) (rg_b rfl : Rg (1) (1) ((1 : Int32))) (by decide) : Rg (1) (23) ((((2 : Int32) * o_1.1) + (1 : Int32)))) (by decide))⟩
    · have _ := c_5
      have i_f_7 : Rg (1) (1) (x2) := rg_nlo c_5 i_x2 (rg_b rfl : Rg (0) (0) (0 : Int32))
      exact s_some ⟨(e_o_1.trans E), (rg_m (rg_add (rg_mulc' (rg_b rfl : Rg (2) (2) ((2 : Int32))) i_f_4 (by decide) : Rg (0) (22) (((2 : Int32) * o_1.1))) (rg_b rfl : Rg (0) (0) ((0 : Int32))) (by decide) : Rg (0) (22) ((((2 : Int32) * o_1.1) + (0 : Int32)))) (by decide))⟩
set_option maxRecDepth 20000 in
theorem zX1_codeOf {ρ : Nat → Nat} {c : Cm} {F : Nat} (hF : 700000 ≤ F) {h : Hp} {x0 : Nat} {x1 : Int32} (T : TH ρ c h) (r_x0 : ρ x0 = 2) (i_x1 : Rg (-1) (255) (x1)) : Sat (sX1_codeOf F h x0 x1) (ZI0 h (-1) (23)) := by
  unfold sX1_codeOf sX1_codeOf_16 sX1_codeOf_17
  refine s_br (fun c_1 => ?_) (fun c_1 => ?_)
  · have _ := c_1
    have i_f_2 : Rg (-1) (64) (x1) := rg_lt1 c_1 i_x1 (rg_b rfl : Rg (65) (65) ((65 : Int32)))
    refine s_br (fun c_3 => ?_) (fun c_3 => ?_)
    · have _ := c_3
      exact zX1_codeOf_31 hF rfl T (rg_m (rg_b rfl : Rg (0) (0) ((0 : Int32))) (by decide)) (rg_m i_f_2 (by decide)) r_x0
    · have _ := c_3
      exact (rc_ne c_3 (rg_b rfl : Rg (0) (0) ((0 : Int32))) (rg_b rfl : Rg (0) (0) (0 : Int32))).elim
  · have _ := c_1
    have i_f_4 : Rg (65) (255) (x1) := rg_le2 (nlt_le c_1) (rg_b rfl : Rg (65) (65) ((65 : Int32))) i_x1
    refine s_br (fun c_5 => ?_) (fun c_5 => ?_)
    · have _ := c_5
      have i_f_6 : Rg (91) (255) (x1) := rg_lt2 c_5 (rg_b rfl : Rg (90) (90) ((90 : Int32))) i_f_4
      refine s_br (fun c_7 => ?_) (fun c_7 => ?_)
      · have _ := c_7
        exact zX1_codeOf_31 hF rfl T (rg_m (rg_b rfl : Rg (0) (0) ((0 : Int32))) (by decide)) (rg_m i_f_6 (by decide)) r_x0
      · have _ := c_7
        exact (rc_ne c_7 (rg_b rfl : Rg (0) (0) ((0 : Int32))) (rg_b rfl : Rg (0) (0) (0 : Int32))).elim
    · have _ := c_5
      have i_f_8 : Rg (65) (90) (x1) := rg_le1 (nlt_le c_5) i_f_4 (rg_b rfl : Rg (90) (90) ((90 : Int32)))
      refine s_br (fun c_9 => ?_) (fun c_9 => ?_)
      · have _ := c_9
        exact (rc_eq c_9 (rg_b rfl : Rg (1) (1) ((1 : Int32))) (rg_b rfl : Rg (0) (0) (0 : Int32)) (by decide)).elim
      · have _ := c_9
        exact zX1_codeOf_31 hF rfl T (rg_m (rg_b rfl : Rg (1) (1) ((1 : Int32))) (by decide)) (rg_m (rg_add i_f_8 (rg_b rfl : Rg (32) (32) ((32 : Int32))) (by decide) : Rg (97) (122) ((x1 + (32 : Int32)))) (by decide)) r_x0
set_option maxRecDepth 20000 in
theorem zX10_isOn {ρ : Nat → Nat} {c : Cm} {F : Nat} (hF : 700000 ≤ F) (m6 : c.2.1 6 = true) {h : Hp} {x0 : Nat} {x1 : Int32} {x2 : Int32} (T : TH ρ c h) (r_x0 : ρ x0 = 11) (i_x1 : Rg (-8) (15) (x1)) (i_x2 : Rg (-8) (15) (x2)) : Sat (sX10_isOn h x0 x1 x2) (ZP0 h (0) (1) (0) (Rg (0) (7) (x1) ∧ Rg (0) (7) (x2))) := by
  unfold sX10_isOn sX10_isOn_34 sX10_isOn_35
  refine s_br (fun c_1 => ?_) (fun c_1 => ?_)
  · have _ := c_1
    have i_f_2 : Rg (-8) (-1) (x1) := rg_lt1 c_1 i_x1 (rg_b rfl : Rg (0) (0) (0 : Int32))
    refine s_gd (rg_bool (rg_m (rg_b rfl : Rg (0) (0) ((0 : Int32))) (by decide))) ?_
    exact s_some ⟨rfl, (rg_m (rg_b rfl : Rg (0) (0) ((0 : Int32))) (by decide)), (fun q => absurd (rz_s (rg_b rfl : Rg (0) (0) ((0 : Int32))) (rg_b rfl : Rg (0) (0) (0 : Int32))) q)⟩
  · have _ := c_1
    have i_f_3 : Rg (0) (15) (x1) := rg_le2 (nlt_le c_1) (rg_b rfl : Rg (0) (0) (0 : Int32)) i_x1
    obtain ⟨r_2, e_r_2, q_r_2⟩ := thM T r_x0 (k := 11) (i := 7) (j := 6) (k2 := 2) rfl (by decide) rfl (by decide) m6
    refine s_ref e_r_2 ?_
    refine s_br (fun c_4 => ?_) (fun c_4 => ?_)
    · have _ := c_4
      refine s_gd (rg_bool (rg_m (rg_b rfl : Rg (0) (0) ((0 : Int32))) (by decide))) ?_
      exact s_some ⟨rfl, (rg_m (rg_b rfl : Rg (0) (0) ((0 : Int32))) (by decide)), (fun q => absurd (rz_s (rg_b rfl : Rg (0) (0) ((0 : Int32))) (rg_b rfl : Rg (0) (0) (0 : Int32))) q)⟩
    · have _ := c_4
      have i_f_5 : Rg (0) (7) (x1) := rg_lt1 (nle_lt c_4) i_f_3 (thI T q_r_2 (k := 2) (i := 0) rfl : Rg (0) (8) ((hI h r_2 0)))
      have i_f_6 : Rg (1) (8) ((hI h r_2 0)) := rg_lt2 (nle_lt c_4) i_f_3 (thI T q_r_2 (k := 2) (i := 0) rfl : Rg (0) (8) ((hI h r_2 0)))
      refine s_br (fun c_7 => ?_) (fun c_7 => ?_)
      · have _ := c_7
        have i_f_8 : Rg (-8) (-1) (x2) := rg_lt1 c_7 i_x2 (rg_b rfl : Rg (0) (0) (0 : Int32))
        refine s_gd (rg_bool (rg_m (rg_b rfl : Rg (0) (0) ((0 : Int32))) (by decide))) ?_
        exact s_some ⟨rfl, (rg_m (rg_b rfl : Rg (0) (0) ((0 : Int32))) (by decide)), (fun q => absurd (rz_s (rg_b rfl : Rg (0) (0) ((0 : Int32))) (rg_b rfl : Rg (0) (0) (0 : Int32))) q)⟩
      · have _ := c_7
        have i_f_9 : Rg (0) (15) (x2) := rg_le2 (nlt_le c_7) (rg_b rfl : Rg (0) (0) (0 : Int32)) i_x2
        refine s_ref e_r_2 ?_
        refine s_br (fun c_10 => ?_) (fun c_10 => ?_)
        · have _ := c_10
          refine s_gd (rg_bool (rg_m (rg_b rfl : Rg (0) (0) ((0 : Int32))) (by decide))) ?_
          exact s_some ⟨rfl, (rg_m (rg_b rfl : Rg (0) (0) ((0 : Int32))) (by decide)), (fun q => absurd (rz_s (rg_b rfl : Rg (0) (0) ((0 : Int32))) (rg_b rfl : Rg (0) (0) (0 : Int32))) q)⟩
        · have _ := c_10
          have i_f_11 : Rg (0) (7) (x2) := rg_lt1 (nle_lt c_10) i_f_9 (thI T q_r_2 (k := 2) (i := 1) rfl : Rg (0) (8) ((hI h r_2 1)))
          have i_f_12 : Rg (1) (8) ((hI h r_2 1)) := rg_lt2 (nle_lt c_10) i_f_9 (thI T q_r_2 (k := 2) (i := 1) rfl : Rg (0) (8) ((hI h r_2 1)))
          refine s_gd (rg_bool (rg_m (rg_b rfl : Rg (1) (1) ((1 : Int32))) (by decide))) ?_
          exact s_some ⟨rfl, (rg_m (rg_b rfl : Rg (1) (1) ((1 : Int32))) (by decide)), (fun _ => ⟨i_f_5, i_f_11⟩)⟩
set_option maxRecDepth 20000 in
theorem zX10_layAround_18 {ρ : Nat → Nat} {c : Cm} {F : Nat} (hF : 700000 ≤ F) (m6 : c.2.1 6 = true) {k_2 : Hp → Nat → Int32 → Option (Hp)} {C_2 : Int} (hk_2 : ∀ {h : Hp} {x0 : Nat} {x1 : Int32}, TH ρ c h → ρ x0 = 11 → Rg (0) (64) (x1) → C_2 < x1.toInt → Sat (k_2 h x0 x1) (ZV ρ c)) (hA : pmA c [(55, 999)]) : ∀ (f : Nat) {h : Hp} {x0 : Nat} {x1 : Int32} {x2 : Int64} {x4 : Int32}, TH ρ c h → ρ x0 = 11 → Rg (0) (63) (x1) → Rg (0) (9) (x4) → C_2 ≤ x1.toInt → (9 - x4.toInt).toNat < f → Sat (sX10_layAround_18 F k_2 f h x0 x1 x2 x4) (ZV ρ c) := by
  intro f
  induction f with
  | zero => intros; omega
  | succ f ih =>
    intro h x0 x1 x2 x4 T r_x0 i_x1 i_x4 hc_2 hm
    rw [sX10_layAround_18]
    unfold sX10_layAround_96
    obtain ⟨C_18, hC_18⟩ : ∃ C : Int, C = x4.toInt := ⟨_, rfl⟩
    have hk_18 : ∀ {h : Hp} {x0 : Nat} {x1 : Int32} {x2 : Int64} {x4 : Int32}, TH ρ c h → ρ x0 = 11 → Rg (0) (63) (x1) → Rg (0) (9) (x4) → C_2 ≤ x1.toInt → C_18 < x4.toInt → Sat (sX10_layAround_18 F k_2 f h x0 x1 x2 x4) (ZV ρ c) := by
      intro h' x0' x1' x2' x4' T' r_x0' i_x1' i_x4' hc_2' hl
      exact ih T' r_x0' i_x1' i_x4' hc_2' (by have := i_x4'.1; have := i_x4'.2; omega)
    have hc_18 : C_18 ≤ x4.toInt := by omega
    refine s_br (fun c_1 => ?_) (fun c_1 => ?_)
    · have _ := c_1
      have i_f_2 : Rg (9) (9) (x4) := rg_le2 c_1 (rg_b rfl : Rg (9) (9) ((9 : Int32))) i_x4
      obtain ⟨r_2, e_r_2, q_r_2⟩ := thR T r_x0 (k := 11) (i := 5) (k2 := 55) rfl (by decide)
      refine s_ref e_r_2 ?_
      refine s_gd (by rw [thN T q_r_2 (k := 55) (n := 64) rfl (by decide)]; exact rg_inB i_x1 (by decide)) ?_
      refine s_hq (th_wJ T q_r_2 (k := 55) (by decide) (pm_a hA rfl)) (fun h_4 T_3 w_4 => ?_)
      refine s_q (fun v_5 e_5 => ?_)
      have i_v_5 : Rg (1) (64) (v_5) := by rw [e_5]; exact (rg_add i_x1 (rg_b rfl : Rg (1) (1) ((1 : Int32))) (by decide) : Rg (1) (64) (x1 + (1 : Int32)))
      have m_6 : (v_5).toInt = x1.toInt + 1 := by rw [e_5]; exact rg_inc i_x1 (by decide)
      exact hk_2 T_3 r_x0 (rg_m i_v_5 (by decide)) (by have := hc_2; omega)
    · have _ := c_1
      have i_f_7 : Rg (0) (8) (x4) := rg_lt1 (nle_lt c_1) i_x4 (rg_b rfl : Rg (9) (9) ((9 : Int32)))
      obtain ⟨r_6, e_r_6, q_r_6⟩ := thM T r_x0 (k := 11) (i := 7) (j := 6) (k2 := 2) rfl (by decide) rfl (by decide) m6
      refine s_ref e_r_6 ?_
      obtain ⟨r_7, e_r_7, q_r_7⟩ := thR T q_r_6 (k := 2) (i := 19) (k2 := 32) rfl (by decide)
      refine s_ref e_r_7 ?_
      refine s_gd (by rw [thN T q_r_7 (k := 32) (n := 64) rfl (by decide)]; exact rg_inB i_x1 (by decide)) ?_
      refine s_q (fun v_9 e_8 => ?_)
      have i_v_9 : Rg (-1) (8) (v_9) := by rw [e_8]; exact (rg_sub (rg_add (thI T q_r_7 (k := 32) rfl : Rg (0) (7) ((hI h r_7 x1.toNatClampNeg))) (rg_rem i_f_7 (rg_b rfl : Rg (3) (3) ((3 : Int32))) (by decide) : Rg (0) (2) ((x4 - x4 / (3 : Int32) * (3 : Int32)))) (by decide) : Rg (0) (9) (((hI h r_7 x1.toNatClampNeg) + (x4 - x4 / (3 : Int32) * (3 : Int32))))) (rg_b rfl : Rg (1) (1) ((1 : Int32))) (by decide) : Rg (-1) (8) (((hI h r_7 x1.toNatClampNeg) + (x4 - x4 / (3 : Int32) * (3 : Int32))) - (1 : Int32)))
      refine s_ref e_r_6 ?_
      obtain ⟨r_11, e_r_11, q_r_11⟩ := thR T q_r_6 (k := 2) (i := 20) (k2 := 33) rfl (by decide)
      refine s_ref e_r_11 ?_
      refine s_gd (by rw [thN T q_r_11 (k := 33) (n := 64) rfl (by decide)]; exact rg_inB i_x1 (by decide)) ?_
      refine s_q (fun v_13 e_9 => ?_)
      have i_v_13 : Rg (-1) (8) (v_13) := by rw [e_9]; exact (rg_sub (rg_add (thI T q_r_11 (k := 33) rfl : Rg (0) (7) ((hI h r_11 x1.toNatClampNeg))) (rg_divc i_f_7 (rg_b rfl : Rg (3) (3) ((3 : Int32))) (by decide) : Rg (0) (2) ((x4 / (3 : Int32)))) (by decide) : Rg (0) (9) (((hI h r_11 x1.toNatClampNeg) + (x4 / (3 : Int32))))) (rg_b rfl : Rg (1) (1) ((1 : Int32))) (by decide) : Rg (-1) (8) (((hI h r_11 x1.toNatClampNeg) + (x4 / (3 : Int32))) - (1 : Int32)))
      refine s_br (fun c_10 => ?_) (fun c_10 => ?_)
      · have _ := c_10
        have i_f_11 : Rg (4) (4) (x4) := rg_eq c_10 (rg_b rfl : Rg (4) (4) ((4 : Int32)))
        refine s_q (fun v_1q1 e_12 => ?_)
        have i_v_1q1 : Rg (5) (5) (v_1q1) := by rw [e_12]; exact (rg_add i_f_11 (rg_b rfl : Rg (1) (1) ((1 : Int32))) (by decide) : Rg (5) (5) (x4 + (1 : Int32)))
        have m_13 : (v_1q1).toInt = x4.toInt + 1 := by rw [e_12]; exact rg_inc i_f_11 (by decide)
        exact hk_18 T r_x0 i_x1 (rg_m i_v_1q1 (by decide)) hc_2 (by have := hc_18; omega)
      · have _ := c_10
        refine s_cP0 (zX10_isOn hF m6 T r_x0 (rg_m i_v_9 (by decide)) (rg_m i_v_13 (by decide))) (fun o_15 e_o_15 i_o_15 p_o_15 => ?_)
        have T_14 := th_eq e_o_15 T
        refine s_br (fun c_15 => ?_) (fun c_15 => ?_)
        · have _ := c_15
          have i_f_16 : Rg (0) (0) (o_15.1) := rg_eq c_15 (rg_b rfl : Rg (0) (0) (0 : Int32))
          refine s_q (fun v_1q2 e_17 => ?_)
          have i_v_1q2 : Rg (1) (9) (v_1q2) := by rw [e_17]; exact (rg_add i_f_7 (rg_b rfl : Rg (1) (1) ((1 : Int32))) (by decide) : Rg (1) (9) (x4 + (1 : Int32)))
          have m_18 : (v_1q2).toInt = x4.toInt + 1 := by rw [e_17]; exact rg_inc i_f_7 (by decide)
          exact hk_18 T_14 r_x0 i_x1 (rg_m i_v_1q2 (by decide)) hc_2 (by have := hc_18; omega)
        · have _ := c_15
          have i_f_19 : Rg (1) (1) (o_15.1) := rg_nlo c_15 i_o_15 (rg_b rfl : Rg (0) (0) (0 : Int32))
          have p_f_20 := p_o_15 c_15
          refine s_ref (hr_e e_o_15 e_r_6) ?_
          refine s_q (fun v_18 e_21 => ?_)
          refine s_q (fun v_1q3 e_22 => ?_)
          have i_v_1q3 : Rg (1) (9) (v_1q3) := by rw [e_22]; exact (rg_add i_f_7 (rg_b rfl : Rg (1) (1) ((1 : Int32))) (by decide) : Rg (1) (9) (x4 + (1 : Int32)))
          have m_23 : (v_1q3).toInt = x4.toInt + 1 := by rw [e_22]; exact rg_inc i_f_7 (by decide)
          exact hk_18 T_14 r_x0 i_x1 (rg_m i_v_1q3 (by decide)) hc_2 (by have := hc_18; omega)
set_option maxRecDepth 20000 in
theorem zX10_layAround_2 {ρ : Nat → Nat} {c : Cm} {F : Nat} (hF : 700000 ≤ F) (m6 : c.2.1 6 = true) (hA : pmA c [(55, 999)]) : ∀ (f : Nat) {h : Hp} {x0 : Nat} {x1 : Int32}, TH ρ c h → ρ x0 = 11 → Rg (0) (64) (x1) → (64 - x1.toInt).toNat < f → Sat (sX10_layAround_2 F f h x0 x1) (ZV ρ c) := by
  intro f
  induction f with
  | zero => intros; omega
  | succ f ih =>
    intro h x0 x1 T r_x0 i_x1 hm
    rw [sX10_layAround_2]
    obtain ⟨C_2, hC_2⟩ : ∃ C : Int, C = x1.toInt := ⟨_, rfl⟩
    have hk_2 : ∀ {h : Hp} {x0 : Nat} {x1 : Int32}, TH ρ c h → ρ x0 = 11 → Rg (0) (64) (x1) → C_2 < x1.toInt → Sat (sX10_layAround_2 F f h x0 x1) (ZV ρ c) := by
      intro h' x0' x1' T' r_x0' i_x1' hl
      exact ih T' r_x0' i_x1' (by have := i_x1'.1; have := i_x1'.2; omega)
    have hc_2 : C_2 ≤ x1.toInt := by omega
    obtain ⟨r_1, e_r_1, q_r_1⟩ := thM T r_x0 (k := 11) (i := 7) (j := 6) (k2 := 2) rfl (by decide) rfl (by decide) m6
    refine s_ref e_r_1 ?_
    refine s_br (fun c_1 => ?_) (fun c_1 => ?_)
    · have _ := c_1
      exact s_some (T)
    · have _ := c_1
      have i_f_2 : Rg (0) (63) (x1) := rg_lt1 (nle_lt c_1) i_x1 (thI T q_r_1 (k := 2) (i := 2) rfl : Rg (0) (64) ((hI h r_1 2)))
      have i_f_3 : Rg (1) (64) ((hI h r_1 2)) := rg_lt2 (nle_lt c_1) i_x1 (thI T q_r_1 (k := 2) (i := 2) rfl : Rg (0) (64) ((hI h r_1 2)))
      have m_4 : Rg (0) (9) ((0 : Int32)) := (rg_m (rg_b rfl : Rg (0) (0) ((0 : Int32))) (by decide))
      exact zX10_layAround_18 hF m6 @hk_2 (pmA_s hA rfl) F T r_x0 i_f_2 (rg_m (rg_b rfl : Rg (0) (0) ((0 : Int32))) (by decide)) hc_2 (by have := m_4.1; have := m_4.2; omega)
set_option maxRecDepth 20000 in
theorem zX10_layAround {ρ : Nat → Nat} {c : Cm} {F : Nat} (hF : 700000 ≤ F) (m6 : c.2.1 6 = true) (hA : pmA c [(55, 999)]) {h : Hp} {x0 : Nat} (T : TH ρ c h) (r_x0 : ρ x0 = 11) : Sat (sX10_layAround F h x0) (ZV ρ c) := by
  unfold sX10_layAround 
  have m_1 : Rg (0) (64) ((0 : Int32)) := (rg_m (rg_b rfl : Rg (0) (0) ((0 : Int32))) (by decide))
  exact zX10_layAround_2 hF m6 (pmA_s hA rfl) F T r_x0 (rg_m (rg_b rfl : Rg (0) (0) ((0 : Int32))) (by decide)) (by have := m_1.1; have := m_1.2; omega)
set_option maxRecDepth 20000 in
theorem zX10_ride_158 {ρ : Nat → Nat} {c : Cm} {F : Nat} (hF : 700000 ≤ F) (m6 : c.2.1 6 = true) (hA : pmA c [(56, 999)]) : ∀ (f : Nat) {h : Hp} {x0 : Nat} {x2 : Int32} {x3 : Int32} {x9 : Int32} {x10 : Int32} {x11 : Int64} {x13 : Int32} {x14 : Int32} {x15 : Int32}, TH ρ c h → ρ x0 = 11 → Rg (0) (7) (x2) → Rg (-2147483648) (2147483647) (x3) → Rg (-8) (8) (x9) → Rg (-8) (8) (x10) → Rg (-8) (15) (x13) → Rg (-8) (15) (x14) → Rg (1) (8) (x15) → (8 - x15.toInt).toNat < f → Sat (sX10_ride_158 F f h x0 x2 x3 x9 x10 x11 x13 x14 x15) (ZJ ρ c) := by
  intro f
  induction f with
  | zero => intros; omega
  | succ f ih =>
    intro h x0 x2 x3 x9 x10 x11 x13 x14 x15 T r_x0 i_x2 i_x3 i_x9 i_x10 i_x13 i_x14 i_x15 hm
    rw [sX10_ride_158]
    unfold sX10_ride_239
    obtain ⟨C_158, hC_158⟩ : ∃ C : Int, C = x15.toInt := ⟨_, rfl⟩
    have hk_158 : ∀ {h : Hp} {x0 : Nat} {x2 : Int32} {x3 : Int32} {x9 : Int32} {x10 : Int32} {x11 : Int64} {x13 : Int32} {x14 : Int32} {x15 : Int32}, TH ρ c h → ρ x0 = 11 → Rg (0) (7) (x2) → Rg (-2147483648) (2147483647) (x3) → Rg (-8) (8) (x9) → Rg (-8) (8) (x10) → Rg (-8) (15) (x13) → Rg (-8) (15) (x14) → Rg (1) (8) (x15) → C_158 < x15.toInt → Sat (sX10_ride_158 F f h x0 x2 x3 x9 x10 x11 x13 x14 x15) (ZJ ρ c) := by
      intro h' x0' x2' x3' x9' x10' x11' x13' x14' x15' T' r_x0' i_x2' i_x3' i_x9' i_x10' i_x13' i_x14' i_x15' hl
      exact ih T' r_x0' i_x2' i_x3' i_x9' i_x10' i_x13' i_x14' i_x15' (by have := i_x15'.1; have := i_x15'.2; omega)
    have hc_158 : C_158 ≤ x15.toInt := by omega
    refine s_br (fun c_1 => ?_) (fun c_1 => ?_)
    · have _ := c_1
      exact s_some (T)
    · have _ := c_1
      have i_f_2 : Rg (1) (7) (x15) := rg_le1 (nlt_le c_1) i_x15 (rg_and (rg_b rfl : Rg (7) (7) ((7 : Int32))) (by decide) : Rg (0) (7) (((x3 >>> ((14 : Int32) &&& 31)) &&& (7 : Int32))))
      have i_f_3 : Rg (1) (7) (((x3 >>> ((14 : Int32) &&& 31)) &&& (7 : Int32))) := rg_le2 (nlt_le c_1) i_x15 (rg_and (rg_b rfl : Rg (7) (7) ((7 : Int32))) (by decide) : Rg (0) (7) (((x3 >>> ((14 : Int32) &&& 31)) &&& (7 : Int32))))
      refine s_cP0 (zX10_isOn hF m6 T r_x0 i_x13 i_x14) (fun o_2 e_o_2 i_o_2 p_o_2 => ?_)
      have T_4 := th_eq e_o_2 T
      refine s_br (fun c_5 => ?_) (fun c_5 => ?_)
      · have _ := c_5
        have i_f_6 : Rg (0) (0) (o_2.1) := rg_eq c_5 (rg_b rfl : Rg (0) (0) (0 : Int32))
        exact s_some (T_4)
      · have _ := c_5
        have i_f_7 : Rg (1) (1) (o_2.1) := rg_nlo c_5 i_o_2 (rg_b rfl : Rg (0) (0) (0 : Int32))
        have p_f_8 := p_o_2 c_5
        obtain ⟨r_4, e_r_4, q_r_4⟩ := thM T_4 r_x0 (k := 11) (i := 7) (j := 6) (k2 := 2) rfl (by decide) rfl (by decide) m6
        refine s_ref e_r_4 ?_
        refine s_q (fun v_5 e_9 => ?_)
        have i_v_5 : Rg (0) (63) (v_5) := by rw [e_9]; exact (rg_add (rg_mul p_f_8.2 (thI T_4 q_r_4 (k := 2) (i := 0) rfl : Rg (0) (8) ((hI o_2.2 r_4 0))) (by decide) : Rg (0) (56) ((x14 * (hI o_2.2 r_4 0)))) p_f_8.1 (by decide) : Rg (0) (63) ((x14 * (hI o_2.2 r_4 0)) + x13))
        obtain ⟨r_6, e_r_6, q_r_6⟩ := thR T_4 r_x0 (k := 11) (i := 6) (k2 := 56) rfl (by decide)
        refine s_ref e_r_6 ?_
        refine s_gd (by rw [thN T_4 q_r_6 (k := 56) (n := 512) rfl (by decide)]; exact rg_inB (rg_add (rg_mulc i_v_5 (rg_b rfl : Rg (8) (8) ((8 : Int32))) (by decide) : Rg (0) (504) ((v_5 * (8 : Int32)))) i_x2 (by decide) : Rg (0) (511) (((v_5 * (8 : Int32)) + x2))) (by decide)) ?_
        refine s_hq (th_wI T_4 q_r_6 (k := 56) (lo := (0)) (hi := (7)) rfl ((rg_m i_f_2 (by decide)) : Rg (0) (7) (x15)) (by decide) (by decide) (pm_a hA rfl)) (fun h_8 T_10 w_11 => ?_)
        refine s_q (fun v_9 e_12 => ?_)
        refine s_q (fun v_10 e_13 => ?_)
        have i_v_10 : Rg (-8) (15) (v_10) := by rw [e_13]; exact (rg_add p_f_8.1 i_x9 (by decide) : Rg (-8) (15) (x13 + x9))
        refine s_q (fun v_11 e_14 => ?_)
        have i_v_11 : Rg (-8) (15) (v_11) := by rw [e_14]; exact (rg_add p_f_8.2 i_x10 (by decide) : Rg (-8) (15) (x14 + x10))
        refine s_q (fun v_12 e_15 => ?_)
        have i_v_12 : Rg (2) (8) (v_12) := by rw [e_15]; exact (rg_add i_f_2 (rg_b rfl : Rg (1) (1) ((1 : Int32))) (by decide) : Rg (2) (8) (x15 + (1 : Int32)))
        have m_16 : (v_12).toInt = x15.toInt + 1 := by rw [e_15]; exact rg_inc i_f_2 (by decide)
        exact hk_158 T_10 r_x0 i_x2 i_x3 i_x9 i_x10 i_v_10 i_v_11 (rg_m i_v_12 (by decide)) (by have := hc_158; omega)
set_option maxRecDepth 20000 in
theorem zX10_ride_124 {ρ : Nat → Nat} {c : Cm} {F : Nat} (hF : 700000 ≤ F) (m6 : c.2.1 6 = true) (hA : pmA c [(56, 999)]) {h : Hp} {x0 : Nat} {x1 : Int32} {x2 : Int32} {x3 : Int32} {x9 : Int32} {x10 : Int32} (T : TH ρ c h) (r_x0 : ρ x0 = 11) (i_x1 : Rg (0) (63) (x1)) (i_x2 : Rg (0) (7) (x2)) (i_x3 : Rg (-2147483648) (2147483647) (x3)) (i_x9 : Rg (-8) (8) (x9)) (i_x10 : Rg (-8) (8) (x10)) : Sat (sX10_ride_124 F h x0 x1 x2 x3 x9 x10) (ZJ ρ c) := by
  unfold sX10_ride_124 
  obtain ⟨r_1, e_r_1, q_r_1⟩ := thM T r_x0 (k := 11) (i := 7) (j := 6) (k2 := 2) rfl (by decide) rfl (by decide) m6
  refine s_ref e_r_1 ?_
  obtain ⟨r_2, e_r_2, q_r_2⟩ := thR T q_r_1 (k := 2) (i := 19) (k2 := 32) rfl (by decide)
  refine s_ref e_r_2 ?_
  refine s_gd (by rw [thN T q_r_2 (k := 32) (n := 64) rfl (by decide)]; exact rg_inB i_x1 (by decide)) ?_
  refine s_q (fun v_4 e_1 => ?_)
  have i_v_4 : Rg (-8) (15) (v_4) := by rw [e_1]; exact (rg_add (thI T q_r_2 (k := 32) rfl : Rg (0) (7) ((hI h r_2 x1.toNatClampNeg))) i_x9 (by decide) : Rg (-8) (15) ((hI h r_2 x1.toNatClampNeg) + x9))
  refine s_ref e_r_1 ?_
  obtain ⟨r_6, e_r_6, q_r_6⟩ := thR T q_r_1 (k := 2) (i := 20) (k2 := 33) rfl (by decide)
  refine s_ref e_r_6 ?_
  refine s_gd (by rw [thN T q_r_6 (k := 33) (n := 64) rfl (by decide)]; exact rg_inB i_x1 (by decide)) ?_
  refine s_q (fun v_8 e_2 => ?_)
  have i_v_8 : Rg (-8) (15) (v_8) := by rw [e_2]; exact (rg_add (thI T q_r_6 (k := 33) rfl : Rg (0) (7) ((hI h r_6 x1.toNatClampNeg))) i_x10 (by decide) : Rg (-8) (15) ((hI h r_6 x1.toNatClampNeg) + x10))
  have m_3 : Rg (1) (8) ((1 : Int32)) := (rg_m (rg_b rfl : Rg (1) (1) ((1 : Int32))) (by decide))
  exact zX10_ride_158 hF m6 (pmA_s hA rfl) F T r_x0 i_x2 i_x3 i_x9 i_x10 i_v_4 i_v_8 (rg_m (rg_b rfl : Rg (1) (1) ((1 : Int32))) (by decide)) (by have := m_3.1; have := m_3.2; omega)
set_option maxRecDepth 20000 in
theorem zX10_ride_101 {ρ : Nat → Nat} {c : Cm} {F : Nat} (hF : 700000 ≤ F) (m6 : c.2.1 6 = true) (hA : pmA c [(56, 999)]) {h : Hp} {x0 : Nat} {x1 : Int32} {x2 : Int32} {x3 : Int32} {x4 : Int32} {x5 : Int32} {x8 : Int32} {x9 : Int32} {x10 : Int32} (T : TH ρ c h) (r_x0 : ρ x0 = 11) (i_x1 : Rg (0) (63) (x1)) (i_x2 : Rg (0) (7) (x2)) (i_x3 : Rg (-2147483648) (2147483647) (x3)) (i_x4 : Rg (0) (7) (x4)) (i_x5 : Rg (0) (1) (x5)) (i_x8 : Rg (0) (1) (x8)) (i_x9 : Rg (-8) (8) (x9)) (i_x10 : Rg (-8) (7) (x10)) : Sat (sX10_ride_101 F h x0 x1 x2 x3 x4 x5 x8 x9 x10) (ZJ ρ c) := by
  unfold sX10_ride_101 sX10_ride_119
  refine s_br (fun c_1 => ?_) (fun c_1 => ?_)
  · have _ := c_1
    have i_f_2 : Rg (0) (0) ((x4 &&& (2 : Int32))) := rg_eq c_1 (rg_b rfl : Rg (0) (0) (0 : Int32))
    refine s_br (fun c_3 => ?_) (fun c_3 => ?_)
    · have _ := c_3
      have i_f_4 : Rg (0) (0) (x8) := rg_eq c_3 (rg_b rfl : Rg (0) (0) (0 : Int32))
      exact zX10_ride_124 hF m6 (pmA_s hA rfl) T r_x0 i_x1 i_x2 i_x3 i_x9 (rg_m i_x10 (by decide))
    · have _ := c_3
      have i_f_5 : Rg (1) (1) (x8) := rg_nlo c_3 i_x8 (rg_b rfl : Rg (0) (0) (0 : Int32))
      refine s_br (fun c_6 => ?_) (fun c_6 => ?_)
      · have _ := c_6
        have i_f_7 : Rg (1) (1) (x5) := rg_eq c_6 (rg_b rfl : Rg (1) (1) ((1 : Int32)))
        refine s_q (fun v_1q1 e_8 => ?_)
        have i_v_1q1 : Rg (-7) (8) (v_1q1) := by rw [e_8]; exact (rg_neg i_x10 (by decide) : Rg (-7) (8) (- x10))
        exact zX10_ride_124 hF m6 (pmA_s hA rfl) T r_x0 i_x1 i_x2 i_x3 i_x9 (rg_m i_v_1q1 (by decide))
      · have _ := c_6
        have i_f_9 : Rg (0) (0) (x5) := rg_nhi c_6 i_x5 (rg_b rfl : Rg (1) (1) ((1 : Int32)))
        exact zX10_ride_124 hF m6 (pmA_s hA rfl) T r_x0 i_x1 i_x2 i_x3 i_x9 (rg_m i_x10 (by decide))
  · have _ := c_1
    have i_f_10 : Rg (1) (2) ((x4 &&& (2 : Int32))) := rg_nlo c_1 (rg_and (rg_b rfl : Rg (2) (2) ((2 : Int32))) (by decide) : Rg (0) (2) ((x4 &&& (2 : Int32)))) (rg_b rfl : Rg (0) (0) (0 : Int32))
    refine s_q (fun v_1q2 e_11 => ?_)
    have i_v_1q2 : Rg (-7) (8) (v_1q2) := by rw [e_11]; exact (rg_neg i_x10 (by decide) : Rg (-7) (8) (- x10))
    exact zX10_ride_124 hF m6 (pmA_s hA rfl) T r_x0 i_x1 i_x2 i_x3 i_x9 (rg_m i_v_1q2 (by decide))
set_option maxRecDepth 20000 in
theorem zX10_ride_87 {ρ : Nat → Nat} {c : Cm} {F : Nat} (hF : 700000 ≤ F) (m6 : c.2.1 6 = true) (hA : pmA c [(56, 999)]) {h : Hp} {x0 : Nat} {x1 : Int32} {x2 : Int32} {x3 : Int32} {x4 : Int32} {x5 : Int32} {x8 : Int32} {x9 : Int32} {t0 : Int32} (T : TH ρ c h) (r_x0 : ρ x0 = 11) (i_x1 : Rg (0) (63) (x1)) (i_x2 : Rg (0) (7) (x2)) (i_x3 : Rg (-2147483648) (2147483647) (x3)) (i_x4 : Rg (0) (7) (x4)) (i_x5 : Rg (0) (1) (x5)) (i_x8 : Rg (0) (1) (x8)) (i_x9 : Rg (-8) (7) (x9)) (i_t0 : Rg (-8) (7) (t0)) : Sat (sX10_ride_87 F h x0 x1 x2 x3 x4 x5 x8 x9 t0) (ZJ ρ c) := by
  unfold sX10_ride_87 
  refine s_br (fun c_1 => ?_) (fun c_1 => ?_)
  · have _ := c_1
    have i_f_2 : Rg (0) (0) ((x4 &&& (1 : Int32))) := rg_eq c_1 (rg_b rfl : Rg (0) (0) (0 : Int32))
    exact zX10_ride_101 hF m6 (pmA_s hA rfl) T r_x0 i_x1 i_x2 i_x3 i_x4 i_x5 i_x8 (rg_m i_x9 (by decide)) i_t0
  · have _ := c_1
    have i_f_3 : Rg (1) (1) ((x4 &&& (1 : Int32))) := rg_nlo c_1 (rg_and (rg_b rfl : Rg (1) (1) ((1 : Int32))) (by decide) : Rg (0) (1) ((x4 &&& (1 : Int32)))) (rg_b rfl : Rg (0) (0) (0 : Int32))
    refine s_q (fun v_2 e_4 => ?_)
    have i_v_2 : Rg (-7) (8) (v_2) := by rw [e_4]; exact (rg_neg i_x9 (by decide) : Rg (-7) (8) (- x9))
    exact zX10_ride_101 hF m6 (pmA_s hA rfl) T r_x0 i_x1 i_x2 i_x3 i_x4 i_x5 i_x8 (rg_m i_v_2 (by decide)) i_t0
set_option maxRecDepth 20000 in
theorem zX10_ride_61 {ρ : Nat → Nat} {c : Cm} {F : Nat} (hF : 700000 ≤ F) (m6 : c.2.1 6 = true) (hA : pmA c [(56, 999)]) {h : Hp} {x0 : Nat} {x1 : Int32} {x2 : Int32} {x3 : Int32} {x4 : Int32} {x5 : Int32} {x6 : Int32} {x7 : Int32} {x8 : Int32} {t0 : Int32} (T : TH ρ c h) (r_x0 : ρ x0 = 11) (i_x1 : Rg (0) (63) (x1)) (i_x2 : Rg (0) (7) (x2)) (i_x3 : Rg (-2147483648) (2147483647) (x3)) (i_x4 : Rg (0) (7) (x4)) (i_x5 : Rg (0) (1) (x5)) (i_x6 : Rg (-8) (7) (x6)) (i_x7 : Rg (-8) (7) (x7)) (i_x8 : Rg (0) (1) (x8)) (i_t0 : Rg (-8) (7) (t0)) : Sat (sX10_ride_61 F h x0 x1 x2 x3 x4 x5 x6 x7 x8 t0) (ZJ ρ c) := by
  unfold sX10_ride_61 
  refine s_br (fun c_1 => ?_) (fun c_1 => ?_)
  · have _ := c_1
    have i_f_2 : Rg (0) (0) (x8) := rg_eq c_1 (rg_b rfl : Rg (0) (0) (0 : Int32))
    refine s_br (fun c_3 => ?_) (fun c_3 => ?_)
    · have _ := c_3
      have i_f_4 : Rg (0) (0) ((x4 &&& (4 : Int32))) := rg_eq c_3 (rg_b rfl : Rg (0) (0) (0 : Int32))
      exact zX10_ride_87 hF m6 (pmA_s hA rfl) T r_x0 i_x1 i_x2 i_x3 i_x4 i_x5 (rg_m i_f_2 (by decide)) i_t0 i_x7
    · have _ := c_3
      have i_f_5 : Rg (1) (4) ((x4 &&& (4 : Int32))) := rg_nlo c_3 (rg_and (rg_b rfl : Rg (4) (4) ((4 : Int32))) (by decide) : Rg (0) (4) ((x4 &&& (4 : Int32)))) (rg_b rfl : Rg (0) (0) (0 : Int32))
      exact zX10_ride_87 hF m6 (pmA_s hA rfl) T r_x0 i_x1 i_x2 i_x3 i_x4 i_x5 (rg_m i_f_2 (by decide)) i_t0 i_x6
  · have _ := c_1
    have i_f_6 : Rg (1) (1) (x8) := rg_nlo c_1 i_x8 (rg_b rfl : Rg (0) (0) (0 : Int32))
    exact zX10_ride_87 hF m6 (pmA_s hA rfl) T r_x0 i_x1 i_x2 i_x3 i_x4 i_x5 (rg_m i_f_6 (by decide)) i_t0 i_x7
set_option maxRecDepth 20000 in
theorem zX10_ride_35 {ρ : Nat → Nat} {c : Cm} {F : Nat} (hF : 700000 ≤ F) (m6 : c.2.1 6 = true) (hA : pmA c [(56, 999)]) {h : Hp} {x0 : Nat} {x1 : Int32} {x2 : Int32} {x3 : Int32} {x4 : Int32} {x5 : Int32} {x6 : Int32} {x7 : Int32} {t0 : Int32} (T : TH ρ c h) (r_x0 : ρ x0 = 11) (i_x1 : Rg (0) (63) (x1)) (i_x2 : Rg (0) (7) (x2)) (i_x3 : Rg (-2147483648) (2147483647) (x3)) (i_x4 : Rg (0) (7) (x4)) (i_x5 : Rg (0) (1) (x5)) (i_x6 : Rg (-8) (7) (x6)) (i_x7 : Rg (-8) (7) (x7)) (i_t0 : Rg (0) (1) (t0)) : Sat (sX10_ride_35 F h x0 x1 x2 x3 x4 x5 x6 x7 t0) (ZJ ρ c) := by
  unfold sX10_ride_35 
  refine s_br (fun c_1 => ?_) (fun c_1 => ?_)
  · have _ := c_1
    have i_f_2 : Rg (0) (0) (t0) := rg_eq c_1 (rg_b rfl : Rg (0) (0) (0 : Int32))
    refine s_br (fun c_3 => ?_) (fun c_3 => ?_)
    · have _ := c_3
      have i_f_4 : Rg (0) (0) ((x4 &&& (4 : Int32))) := rg_eq c_3 (rg_b rfl : Rg (0) (0) (0 : Int32))
      exact zX10_ride_61 hF m6 (pmA_s hA rfl) T r_x0 i_x1 i_x2 i_x3 i_x4 i_x5 i_x6 i_x7 (rg_m i_f_2 (by decide)) i_x6
    · have _ := c_3
      have i_f_5 : Rg (1) (4) ((x4 &&& (4 : Int32))) := rg_nlo c_3 (rg_and (rg_b rfl : Rg (4) (4) ((4 : Int32))) (by decide) : Rg (0) (4) ((x4 &&& (4 : Int32)))) (rg_b rfl : Rg (0) (0) (0 : Int32))
      exact zX10_ride_61 hF m6 (pmA_s hA rfl) T r_x0 i_x1 i_x2 i_x3 i_x4 i_x5 i_x6 i_x7 (rg_m i_f_2 (by decide)) i_x7
  · have _ := c_1
    have i_f_6 : Rg (1) (1) (t0) := rg_nlo c_1 i_t0 (rg_b rfl : Rg (0) (0) (0 : Int32))
    exact zX10_ride_61 hF m6 (pmA_s hA rfl) T r_x0 i_x1 i_x2 i_x3 i_x4 i_x5 i_x6 i_x7 (rg_m i_f_6 (by decide)) i_x6
set_option maxRecDepth 20000 in
theorem zX10_ride {ρ : Nat → Nat} {c : Cm} {F : Nat} (hF : 700000 ≤ F) (m6 : c.2.1 6 = true) (hA : pmA c [(56, 999)]) {h : Hp} {x0 : Nat} {x1 : Int32} {x2 : Int32} {x3 : Int32} {x4 : Int32} {x5 : Int32} (T : TH ρ c h) (r_x0 : ρ x0 = 11) (i_x1 : Rg (0) (63) (x1)) (i_x2 : Rg (0) (7) (x2)) (i_x3 : Rg (-2147483648) (2147483647) (x3)) (i_x4 : Rg (0) (7) (x4)) (i_x5 : Rg (0) (1) (x5)) : Sat (sX10_ride F h x0 x1 x2 x3 x4 x5) (ZJ ρ c) := by
  unfold sX10_ride 
  refine s_q (fun v_1 e_1 => ?_)
  have i_v_1 : Rg (-8) (7) (v_1) := by rw [e_1]; exact (rg_sub (rg_and (rg_b rfl : Rg (15) (15) ((15 : Int32))) (by decide) : Rg (0) (15) (((x3 >>> ((6 : Int32) &&& 31)) &&& (15 : Int32)))) (rg_b rfl : Rg (8) (8) ((8 : Int32))) (by decide) : Rg (-8) (7) (((x3 >>> ((6 : Int32) &&& 31)) &&& (15 : Int32)) - (8 : Int32)))
  refine s_q (fun v_2 e_2 => ?_)
  have i_v_2 : Rg (-8) (7) (v_2) := by rw [e_2]; exact (rg_sub (rg_and (rg_b rfl : Rg (15) (15) ((15 : Int32))) (by decide) : Rg (0) (15) (((x3 >>> ((10 : Int32) &&& 31)) &&& (15 : Int32)))) (rg_b rfl : Rg (8) (8) ((8 : Int32))) (by decide) : Rg (-8) (7) (((x3 >>> ((10 : Int32) &&& 31)) &&& (15 : Int32)) - (8 : Int32)))
  refine s_br (fun c_3 => ?_) (fun c_3 => ?_)
  · have _ := c_3
    have i_f_4 : Rg (0) (0) ((x3 &&& (4 : Int32))) := rg_eq c_3 (rg_b rfl : Rg (0) (0) (0 : Int32))
    exact zX10_ride_35 hF m6 (pmA_s hA rfl) T r_x0 i_x1 i_x2 i_x3 i_x4 i_x5 i_v_1 i_v_2 (rg_m (rg_b rfl : Rg (0) (0) ((0 : Int32))) (by decide))
  · have _ := c_3
    have i_f_5 : Rg (1) (4) ((x3 &&& (4 : Int32))) := rg_nlo c_3 (rg_and (rg_b rfl : Rg (4) (4) ((4 : Int32))) (by decide) : Rg (0) (4) ((x3 &&& (4 : Int32)))) (rg_b rfl : Rg (0) (0) (0 : Int32))
    exact zX10_ride_35 hF m6 (pmA_s hA rfl) T r_x0 i_x1 i_x2 i_x3 i_x4 i_x5 i_v_1 i_v_2 (rg_m (rg_b rfl : Rg (1) (1) ((1 : Int32))) (by decide))
set_option maxRecDepth 20000 in
theorem zX10_reach_123 {ρ : Nat → Nat} {c : Cm} {F : Nat} (hF : 700000 ≤ F) (m6 : c.2.1 6 = true) {k_10 : Hp → Nat → Int32 → Int32 → Int32 → Int64 → Int32 → Option (Int64 × Hp)} {C_10 : Int} (hk_10 : ∀ {h : Hp} {x0 : Nat} {x1 : Int32} {x2 : Int32} {x3 : Int32} {x4 : Int64} {x6 : Int32}, TH ρ c h → ρ x0 = 11 → Rg (0) (23) (x1) → Rg (0) (63) (x2) → Rg (0) (11) (x3) → Rg (0) (8) (x6) → C_10 < x6.toInt → Sat (k_10 h x0 x1 x2 x3 x4 x6) (ZJ ρ c)) (hA : pmA c [(56, 999)]) : ∀ (f : Nat) {h : Hp} {x0 : Nat} {x1 : Int32} {x2 : Int32} {x3 : Int32} {x4 : Int64} {x6 : Int32} {x7 : Int32} {x10 : Int32} {x11 : Int32}, TH ρ c h → ρ x0 = 11 → Rg (0) (23) (x1) → Rg (0) (63) (x2) → Rg (0) (11) (x3) → Rg (0) (7) (x6) → Rg (-2147483648) (2147483647) (x7) → Rg (1) (8) (x10) → Rg (0) (8) (x11) → C_10 ≤ x6.toInt → (8 - x11.toInt).toNat < f → Sat (sX10_reach_123 F k_10 f h x0 x1 x2 x3 x4 x6 x7 x10 x11) (ZJ ρ c) := by
  intro f
  induction f with
  | zero => intros; omega
  | succ f ih =>
    intro h x0 x1 x2 x3 x4 x6 x7 x10 x11 T r_x0 i_x1 i_x2 i_x3 i_x6 i_x7 i_x10 i_x11 hc_10 hm
    rw [sX10_reach_123]
    unfold sX10_reach_155
    obtain ⟨C_123, hC_123⟩ : ∃ C : Int, C = x11.toInt := ⟨_, rfl⟩
    have hk_123 : ∀ {h : Hp} {x0 : Nat} {x1 : Int32} {x2 : Int32} {x3 : Int32} {x4 : Int64} {x6 : Int32} {x7 : Int32} {x10 : Int32} {x11 : Int32}, TH ρ c h → ρ x0 = 11 → Rg (0) (23) (x1) → Rg (0) (63) (x2) → Rg (0) (11) (x3) → Rg (0) (7) (x6) → Rg (-2147483648) (2147483647) (x7) → Rg (1) (8) (x10) → Rg (0) (8) (x11) → C_10 ≤ x6.toInt → C_123 < x11.toInt → Sat (sX10_reach_123 F k_10 f h x0 x1 x2 x3 x4 x6 x7 x10 x11) (ZJ ρ c) := by
      intro h' x0' x1' x2' x3' x4' x6' x7' x10' x11' T' r_x0' i_x1' i_x2' i_x3' i_x6' i_x7' i_x10' i_x11' hc_10' hl
      exact ih T' r_x0' i_x1' i_x2' i_x3' i_x6' i_x7' i_x10' i_x11' hc_10' (by have := i_x11'.1; have := i_x11'.2; omega)
    have hc_123 : C_123 ≤ x11.toInt := by omega
    refine s_br (fun c_1 => ?_) (fun c_1 => ?_)
    · have _ := c_1
      have i_f_2 : Rg (1) (8) (x11) := rg_le2 c_1 i_x10 i_x11
      refine s_q (fun v_1q1 e_3 => ?_)
      have i_v_1q1 : Rg (1) (8) (v_1q1) := by rw [e_3]; exact (rg_add i_x6 (rg_b rfl : Rg (1) (1) ((1 : Int32))) (by decide) : Rg (1) (8) (x6 + (1 : Int32)))
      have m_4 : (v_1q1).toInt = x6.toInt + 1 := by rw [e_3]; exact rg_inc i_x6 (by decide)
      exact hk_10 T r_x0 i_x1 i_x2 i_x3 (rg_m i_v_1q1 (by decide)) (by have := hc_10; omega)
    · have _ := c_1
      have i_f_5 : Rg (0) (7) (x11) := rg_lt1 (nle_lt c_1) i_x11 i_x10
      refine s_cJ (zX10_ride hF m6 (pmA_s hA rfl) T r_x0 i_x2 i_x6 i_x7 i_f_5 (rg_and (rg_b rfl : Rg (1) (1) ((1 : Int32))) (by decide) : Rg (0) (1) ((x1 &&& (1 : Int32))))) (fun o_2 T_6 => ?_)
      refine s_q (fun v_3 e_7 => ?_)
      refine s_q (fun v_4 e_8 => ?_)
      have i_v_4 : Rg (1) (8) (v_4) := by rw [e_8]; exact (rg_add i_f_5 (rg_b rfl : Rg (1) (1) ((1 : Int32))) (by decide) : Rg (1) (8) (x11 + (1 : Int32)))
      have m_9 : (v_4).toInt = x11.toInt + 1 := by rw [e_8]; exact rg_inc i_f_5 (by decide)
      exact hk_123 T_6 r_x0 i_x1 i_x2 i_x3 i_x6 i_x7 i_x10 (rg_m i_v_4 (by decide)) hc_10 (by have := hc_123; omega)
set_option maxRecDepth 20000 in
theorem zX10_reach_105 {ρ : Nat → Nat} {c : Cm} {F : Nat} (hF : 700000 ≤ F) (m6 : c.2.1 6 = true) {k_10 : Hp → Nat → Int32 → Int32 → Int32 → Int64 → Int32 → Option (Int64 × Hp)} {C_10 : Int} (hk_10 : ∀ {h : Hp} {x0 : Nat} {x1 : Int32} {x2 : Int32} {x3 : Int32} {x4 : Int64} {x6 : Int32}, TH ρ c h → ρ x0 = 11 → Rg (0) (23) (x1) → Rg (0) (63) (x2) → Rg (0) (11) (x3) → Rg (0) (8) (x6) → C_10 < x6.toInt → Sat (k_10 h x0 x1 x2 x3 x4 x6) (ZJ ρ c)) (hA : pmA c [(56, 999)]) {h : Hp} {x0 : Nat} {x1 : Int32} {x2 : Int32} {x3 : Int32} {x4 : Int64} {x6 : Int32} {x7 : Int32} (T : TH ρ c h) (r_x0 : ρ x0 = 11) (i_x1 : Rg (0) (23) (x1)) (i_x2 : Rg (0) (63) (x2)) (i_x3 : Rg (0) (11) (x3)) (i_x6 : Rg (0) (7) (x6)) (i_x7 : Rg (-2147483648) (2147483647) (x7)) (hc_10 : C_10 ≤ x6.toInt) : Sat (sX10_reach_105 F k_10 h x0 x1 x2 x3 x4 x6 x7) (ZJ ρ c) := by
  unfold sX10_reach_105 sX10_reach_118
  refine s_br (fun c_1 => ?_) (fun c_1 => ?_)
  · have _ := c_1
    have i_f_2 : Rg (0) (0) ((x7 &&& (4 : Int32))) := rg_eq c_1 (rg_b rfl : Rg (0) (0) (0 : Int32))
    have m_3 : Rg (0) (8) ((0 : Int32)) := (rg_m (rg_b rfl : Rg (0) (0) ((0 : Int32))) (by decide))
    exact zX10_reach_123 hF m6 @hk_10 (pmA_s hA rfl) F T r_x0 i_x1 i_x2 i_x3 i_x6 i_x7 (rg_m (rg_b rfl : Rg (8) (8) ((8 : Int32))) (by decide)) (rg_m (rg_b rfl : Rg (0) (0) ((0 : Int32))) (by decide)) hc_10 (by have := m_3.1; have := m_3.2; omega)
  · have _ := c_1
    have i_f_4 : Rg (1) (4) ((x7 &&& (4 : Int32))) := rg_nlo c_1 (rg_and (rg_b rfl : Rg (4) (4) ((4 : Int32))) (by decide) : Rg (0) (4) ((x7 &&& (4 : Int32)))) (rg_b rfl : Rg (0) (0) (0 : Int32))
    have m_5 : Rg (0) (8) ((0 : Int32)) := (rg_m (rg_b rfl : Rg (0) (0) ((0 : Int32))) (by decide))
    exact zX10_reach_123 hF m6 @hk_10 (pmA_s hA rfl) F T r_x0 i_x1 i_x2 i_x3 i_x6 i_x7 (rg_m (rg_b rfl : Rg (1) (1) ((1 : Int32))) (by decide)) (rg_m (rg_b rfl : Rg (0) (0) ((0 : Int32))) (by decide)) hc_10 (by have := m_5.1; have := m_5.2; omega)
set_option maxRecDepth 20000 in
theorem zX10_reach_88 {ρ : Nat → Nat} {c : Cm} {F : Nat} (hF : 700000 ≤ F) (m6 : c.2.1 6 = true) {k_10 : Hp → Nat → Int32 → Int32 → Int32 → Int64 → Int32 → Option (Int64 × Hp)} {C_10 : Int} (hk_10 : ∀ {h : Hp} {x0 : Nat} {x1 : Int32} {x2 : Int32} {x3 : Int32} {x4 : Int64} {x6 : Int32}, TH ρ c h → ρ x0 = 11 → Rg (0) (23) (x1) → Rg (0) (63) (x2) → Rg (0) (11) (x3) → Rg (0) (8) (x6) → C_10 < x6.toInt → Sat (k_10 h x0 x1 x2 x3 x4 x6) (ZJ ρ c)) (hA : pmA c [(56, 999)]) {h : Hp} {x0 : Nat} {x1 : Int32} {x2 : Int32} {x3 : Int32} {x4 : Int64} {x6 : Int32} {x7 : Int32} {x8 : Int32} {t0 : Int32} (T : TH ρ c h) (r_x0 : ρ x0 = 11) (i_x1 : Rg (0) (23) (x1)) (i_x2 : Rg (0) (63) (x2)) (i_x3 : Rg (0) (11) (x3)) (i_x6 : Rg (0) (7) (x6)) (i_x7 : Rg (-2147483648) (2147483647) (x7)) (i_x8 : Rg (0) (15) (x8)) (i_t0 : Rg (-7) (8) (t0)) (hc_10 : C_10 ≤ x6.toInt) : Sat (sX10_reach_88 F k_10 h x0 x1 x2 x3 x4 x6 x7 x8 t0) (ZJ ρ c) := by
  unfold sX10_reach_88 sX10_reach_155
  refine s_br (fun c_1 => ?_) (fun c_1 => ?_)
  · have _ := c_1
    have i_f_2 : Rg (0) (0) (x8) := rg_eq c_1 (rg_b rfl : Rg (0) (0) (0 : Int32))
    exact zX10_reach_105 hF m6 @hk_10 (pmA_s hA rfl) T r_x0 i_x1 i_x2 i_x3 i_x6 i_x7 hc_10
  · have _ := c_1
    have i_f_3 : Rg (1) (15) (x8) := rg_nlo c_1 i_x8 (rg_b rfl : Rg (0) (0) (0 : Int32))
    refine s_br (fun c_4 => ?_) (fun c_4 => ?_)
    · have _ := c_4
      exact zX10_reach_105 hF m6 @hk_10 (pmA_s hA rfl) T r_x0 i_x1 i_x2 i_x3 i_x6 i_x7 hc_10
    · have _ := c_4
      refine s_q (fun v_1q1 e_5 => ?_)
      have i_v_1q1 : Rg (1) (8) (v_1q1) := by rw [e_5]; exact (rg_add i_x6 (rg_b rfl : Rg (1) (1) ((1 : Int32))) (by decide) : Rg (1) (8) (x6 + (1 : Int32)))
      have m_6 : (v_1q1).toInt = x6.toInt + 1 := by rw [e_5]; exact rg_inc i_x6 (by decide)
      exact hk_10 T r_x0 i_x1 i_x2 i_x3 (rg_m i_v_1q1 (by decide)) (by have := hc_10; omega)
set_option maxRecDepth 20000 in
theorem zX10_reach_10 {ρ : Nat → Nat} {c : Cm} {F : Nat} (hF : 700000 ≤ F) (m6 : c.2.1 6 = true) (hA : pmA c [(56, 999)]) : ∀ (f : Nat) {h : Hp} {x0 : Nat} {x1 : Int32} {x2 : Int32} {x3 : Int32} {x4 : Int64} {x6 : Int32}, TH ρ c h → ρ x0 = 11 → Rg (0) (23) (x1) → Rg (0) (63) (x2) → Rg (0) (11) (x3) → Rg (0) (8) (x6) → (8 - x6.toInt).toNat < f → Sat (sX10_reach_10 F f h x0 x1 x2 x3 x4 x6) (ZJ ρ c) := by
  intro f
  induction f with
  | zero => intros; omega
  | succ f ih =>
    intro h x0 x1 x2 x3 x4 x6 T r_x0 i_x1 i_x2 i_x3 i_x6 hm
    rw [sX10_reach_10]
    obtain ⟨C_10, hC_10⟩ : ∃ C : Int, C = x6.toInt := ⟨_, rfl⟩
    have hk_10 : ∀ {h : Hp} {x0 : Nat} {x1 : Int32} {x2 : Int32} {x3 : Int32} {x4 : Int64} {x6 : Int32}, TH ρ c h → ρ x0 = 11 → Rg (0) (23) (x1) → Rg (0) (63) (x2) → Rg (0) (11) (x3) → Rg (0) (8) (x6) → C_10 < x6.toInt → Sat (sX10_reach_10 F f h x0 x1 x2 x3 x4 x6) (ZJ ρ c) := by
      intro h' x0' x1' x2' x3' x4' x6' T' r_x0' i_x1' i_x2' i_x3' i_x6' hl
      exact ih T' r_x0' i_x1' i_x2' i_x3' i_x6' (by have := i_x6'.1; have := i_x6'.2; omega)
    have hc_10 : C_10 ≤ x6.toInt := by omega
    obtain ⟨r_1, e_r_1, q_r_1⟩ := thM T r_x0 (k := 11) (i := 7) (j := 6) (k2 := 2) rfl (by decide) rfl (by decide) m6
    refine s_ref e_r_1 ?_
    obtain ⟨r_2, e_r_2, q_r_2⟩ := thR T q_r_1 (k := 2) (i := 16) (k2 := 29) rfl (by decide)
    refine s_ref e_r_2 ?_
    refine s_gd (by rw [thN T q_r_2 (k := 29) (n := 12) rfl (by decide)]; exact rg_inB i_x3 (by decide)) ?_
    refine s_br (fun c_1 => ?_) (fun c_1 => ?_)
    · have _ := c_1
      exact s_some (T)
    · have _ := c_1
      have i_f_2 : Rg (0) (7) (x6) := rg_lt1 (nle_lt c_1) i_x6 (thI T q_r_2 (k := 29) rfl : Rg (0) (8) ((hI h r_2 x3.toNatClampNeg)))
      have i_f_3 : Rg (1) (8) ((hI h r_2 x3.toNatClampNeg)) := rg_lt2 (nle_lt c_1) i_x6 (thI T q_r_2 (k := 29) rfl : Rg (0) (8) ((hI h r_2 x3.toNatClampNeg)))
      refine s_ref e_r_1 ?_
      obtain ⟨r_6, e_r_6, q_r_6⟩ := thR T q_r_1 (k := 2) (i := 15) (k2 := 28) rfl (by decide)
      refine s_ref e_r_6 ?_
      refine s_gd (by rw [thN T q_r_6 (k := 28) (n := 96) rfl (by decide)]; exact rg_inB (rg_add (rg_mulc i_x3 (rg_b rfl : Rg (8) (8) ((8 : Int32))) (by decide) : Rg (0) (88) ((x3 * (8 : Int32)))) i_f_2 (by decide) : Rg (0) (95) (((x3 * (8 : Int32)) + x6))) (by decide)) ?_
      refine s_q (fun v_8 e_4 => ?_)
      have i_v_8 : Rg (-2147483648) (2147483647) (v_8) := by rw [e_4]; exact (thI T q_r_6 (k := 28) rfl : Rg (-2147483648) (2147483647) (hI h r_6 ((x3 * (8 : Int32)) + x6).toNatClampNeg))
      refine s_q (fun v_9 e_5 => ?_)
      have i_v_9 : Rg (0) (15) (v_9) := by rw [e_5]; exact (rg_and (rg_b rfl : Rg (15) (15) ((15 : Int32))) (by decide) : Rg (0) (15) ((v_8 >>> ((17 : Int32) &&& 31)) &&& (15 : Int32)))
      refine s_br (fun c_6 => ?_) (fun c_6 => ?_)
      · have _ := c_6
        have i_f_7 : Rg (0) (0) ((x1 &&& (1 : Int32))) := rg_eq c_6 (rg_b rfl : Rg (0) (0) (0 : Int32))
        refine s_ref e_r_1 ?_
        obtain ⟨r_16, e_r_16, q_r_16⟩ := thR T q_r_1 (k := 2) (i := 20) (k2 := 33) rfl (by decide)
        refine s_ref e_r_16 ?_
        refine s_gd (by rw [thN T q_r_16 (k := 33) (n := 64) rfl (by decide)]; exact rg_inB i_x2 (by decide)) ?_
        exact zX10_reach_88 hF m6 @hk_10 (pmA_s hA rfl) T r_x0 i_x1 i_x2 i_x3 i_f_2 i_v_8 i_v_9 (rg_m (rg_add (thI T q_r_16 (k := 33) rfl : Rg (0) (7) ((hI h r_16 x2.toNatClampNeg))) (rg_b rfl : Rg (1) (1) ((1 : Int32))) (by decide) : Rg (1) (8) (((hI h r_16 x2.toNatClampNeg) + (1 : Int32)))) (by decide)) hc_10
      · have _ := c_6
        have i_f_8 : Rg (1) (1) ((x1 &&& (1 : Int32))) := rg_nlo c_6 (rg_and (rg_b rfl : Rg (1) (1) ((1 : Int32))) (by decide) : Rg (0) (1) ((x1 &&& (1 : Int32)))) (rg_b rfl : Rg (0) (0) (0 : Int32))
        refine s_ref e_r_1 ?_
        refine s_ref e_r_1 ?_
        obtain ⟨r_13, e_r_13, q_r_13⟩ := thR T q_r_1 (k := 2) (i := 20) (k2 := 33) rfl (by decide)
        refine s_ref e_r_13 ?_
        refine s_gd (by rw [thN T q_r_13 (k := 33) (n := 64) rfl (by decide)]; exact rg_inB i_x2 (by decide)) ?_
        exact zX10_reach_88 hF m6 @hk_10 (pmA_s hA rfl) T r_x0 i_x1 i_x2 i_x3 i_f_2 i_v_8 i_v_9 (rg_sub (thI T q_r_1 (k := 2) (i := 1) rfl : Rg (0) (8) ((hI h r_1 1))) (thI T q_r_13 (k := 33) rfl : Rg (0) (7) ((hI h r_13 x2.toNatClampNeg))) (by decide) : Rg (-7) (8) (((hI h r_1 1) - (hI h r_13 x2.toNatClampNeg)))) hc_10
set_option maxRecDepth 20000 in
theorem zX10_reach {ρ : Nat → Nat} {c : Cm} {F : Nat} (hF : 700000 ≤ F) (m6 : c.2.1 6 = true) (hA : pmA c [(56, 999)]) {h : Hp} {x0 : Nat} {x1 : Int32} {x2 : Int32} (T : TH ρ c h) (r_x0 : ρ x0 = 11) (i_x1 : Rg (0) (23) (x1)) (i_x2 : Rg (0) (63) (x2)) : Sat (sX10_reach F h x0 x1 x2) (ZJ ρ c) := by
  unfold sX10_reach 
  refine s_q (fun v_1 e_1 => ?_)
  have i_v_1 : Rg (0) (11) (v_1) := by rw [e_1]; exact (rg_shrk 1 (by decide) i_x1 (by decide) : Rg (0) (11) (x1 >>> ((1 : Int32) &&& 31)))
  have m_2 : Rg (0) (8) ((0 : Int32)) := (rg_m (rg_b rfl : Rg (0) (0) ((0 : Int32))) (by decide))
  exact zX10_reach_10 hF m6 (pmA_s hA rfl) F T r_x0 i_x1 i_x2 i_v_1 (rg_m (rg_b rfl : Rg (0) (0) ((0 : Int32))) (by decide)) (by have := m_2.1; have := m_2.2; omega)
set_option maxRecDepth 20000 in
theorem zX11_isGame {ρ : Nat → Nat} {c : Cm} {F : Nat} (hF : 700000 ≤ F) {h : Hp} {x0 : Int32} (T : TH ρ c h) (i_x0 : Rg (-2147483648) (2147483647) (x0)) : Sat (sX11_isGame h x0) (ZP0 h (0) (1) (0) (Rg (0) (7) (x0))) := by
  unfold sX11_isGame sX11_isGame_14 sX11_isGame_15
  refine s_br (fun c_1 => ?_) (fun c_1 => ?_)
  · have _ := c_1
    have i_f_2 : Rg (-2147483648) (-1) (x0) := rg_lt1 c_1 i_x0 (rg_b rfl : Rg (0) (0) (0 : Int32))
    refine s_gd (rg_bool (rg_m (rg_b rfl : Rg (0) (0) ((0 : Int32))) (by decide))) ?_
    exact s_some ⟨rfl, (rg_m (rg_b rfl : Rg (0) (0) ((0 : Int32))) (by decide)), (fun q => absurd (rz_s (rg_b rfl : Rg (0) (0) ((0 : Int32))) (rg_b rfl : Rg (0) (0) (0 : Int32))) q)⟩
  · have _ := c_1
    have i_f_3 : Rg (0) (2147483647) (x0) := rg_le2 (nlt_le c_1) (rg_b rfl : Rg (0) (0) (0 : Int32)) i_x0
    refine s_br (fun c_4 => ?_) (fun c_4 => ?_)
    · have _ := c_4
      have i_f_5 : Rg (8) (2147483647) (x0) := rg_le2 c_4 (rg_b rfl : Rg (8) (8) ((8 : Int32))) i_f_3
      refine s_gd (rg_bool (rg_m (rg_b rfl : Rg (0) (0) ((0 : Int32))) (by decide))) ?_
      exact s_some ⟨rfl, (rg_m (rg_b rfl : Rg (0) (0) ((0 : Int32))) (by decide)), (fun q => absurd (rz_s (rg_b rfl : Rg (0) (0) ((0 : Int32))) (rg_b rfl : Rg (0) (0) (0 : Int32))) q)⟩
    · have _ := c_4
      have i_f_6 : Rg (0) (7) (x0) := rg_lt1 (nle_lt c_4) i_f_3 (rg_b rfl : Rg (8) (8) ((8 : Int32)))
      refine s_gd (rg_bool (rg_m (rg_b rfl : Rg (1) (1) ((1 : Int32))) (by decide))) ?_
      exact s_some ⟨rfl, (rg_m (rg_b rfl : Rg (1) (1) ((1 : Int32))) (by decide)), (fun _ => i_f_6)⟩
set_option maxRecDepth 20000 in
theorem zX5_addMove {ρ : Nat → Nat} {c : Cm} {F : Nat} (hF : 700000 ≤ F) (m4 : c.2.1 4 = true) (hA : pmA c [(47, 999), (6, 6)]) {h : Hp} {x0 : Nat} {x1 : Int32} (T : TH ρ c h) (r_x0 : ρ x0 = 6) (i_x1 : Rg (-2147483648) (2147483647) (x1)) : Sat (sX5_addMove h x0 x1) (ZV ρ c) := by
  unfold sX5_addMove sX5_addMove_32
  obtain ⟨r_1, e_r_1, q_r_1⟩ := thM T r_x0 (k := 6) (i := 5) (j := 4) (k2 := 47) rfl (by decide) rfl (by decide) m4
  refine s_ref e_r_1 ?_
  refine s_br (fun c_1 => ?_) (fun c_1 => ?_)
  · have _ := c_1
    have i_f_2 : Rg (4096) (4096) ((hI h x0 6)) := rg_le2 c_1 (rg_nIn (thN T q_r_1 (k := 47) (n := 4096) rfl (by decide)) (by decide) : Rg (4096) (4096) ((nI (hN h r_1)))) (thI T r_x0 (k := 6) (i := 6) rfl : Rg (0) (4096) ((hI h x0 6)))
    exact s_some (T)
  · have _ := c_1
    have i_f_3 : Rg (0) (4095) ((hI h x0 6)) := rg_lt1 (nle_lt c_1) (thI T r_x0 (k := 6) (i := 6) rfl : Rg (0) (4096) ((hI h x0 6))) (rg_nIn (thN T q_r_1 (k := 47) (n := 4096) rfl (by decide)) (by decide) : Rg (4096) (4096) ((nI (hN h r_1))))
    refine s_ref e_r_1 ?_
    refine s_gd (by rw [thN T q_r_1 (k := 47) (n := 4096) rfl (by decide)]; exact rg_inB i_f_3 (by decide)) ?_
    refine s_hq (th_wI T q_r_1 (k := 47) (lo := (-2147483648)) (hi := (2147483647)) rfl (i_x1 : Rg (-2147483648) (2147483647) (x1)) (by decide) (by decide) (pm_a hA rfl)) (fun h_5 T_4 w_5 => ?_)
    refine s_hq (th_wI T_4 r_x0 (k := 6) (lo := (0)) (hi := (4096)) rfl ((rg_m (rg_add ((rg_hw w_5 (ne_r r_x0 q_r_1 (by decide)) i_f_3) : Rg (0) (4095) ((hI h_5 x0 6))) (rg_b rfl : Rg (1) (1) ((1 : Int32))) (by decide) : Rg (1) (4096) (((hI h_5 x0 6) + (1 : Int32)))) (by decide)) : Rg (0) (4096) (((hI h_5 x0 6) + (1 : Int32)))) (by decide) (by decide) (pm_a hA rfl)) (fun h_6 T_6 w_7 => ?_)
    exact s_some (T_6)
set_option maxRecDepth 20000 in
theorem zX3_inHand {ρ : Nat → Nat} {c : Cm} {F : Nat} (hF : 700000 ≤ F) {h : Hp} {x0 : Nat} {x1 : Int32} {x2 : Int32} (T : TH ρ c h) (r_x0 : ρ x0 = 4) (i_x1 : Rg (0) (1) (x1)) (i_x2 : Rg (-1) (14) (x2)) : Sat (sX3_inHand h x0 x1 x2) (ZI0 h (0) (31)) := by
  unfold sX3_inHand 
  obtain ⟨r_1, e_r_1, q_r_1⟩ := thR T r_x0 (k := 4) (i := 3) (k2 := 37) rfl (by decide)
  refine s_ref e_r_1 ?_
  refine s_gd (by rw [thN T q_r_1 (k := 37) (n := 2) rfl (by decide)]; exact rg_inB i_x1 (by decide)) ?_
  exact s_some ⟨rfl, (rg_and (rg_b rfl : Rg (31) (31) ((31 : Int32))) (by decide) : Rg (0) (31) (((((hJ h r_1 x1.toNatClampNeg).toUInt64 >>> (((5 : Int32) * x2).toInt64.toUInt64 &&& Int64.toUInt64 63)).toInt64).toInt32) &&& (31 : Int32)))⟩
set_option maxRecDepth 20000 in
theorem zX5_addDrops_46 {ρ : Nat → Nat} {c : Cm} {F : Nat} (hF : 700000 ≤ F) (m3 : c.2.1 3 = true) (m4 : c.2.1 4 = true) (hA : pmA c [(47, 999), (6, 6)]) : ∀ (f : Nat) {h : Hp} {x0 : Nat} {x1 : Int32} {x2 : Int32} {x3 : Int32}, TH ρ c h → ρ x0 = 6 → Rg (0) (63) (x1) → Rg (0) (1) (x2) → Rg (0) (12) (x3) → (12 - x3.toInt).toNat < f → Sat (sX5_addDrops_46 F f h x0 x1 x2 x3) (ZV ρ c) := by
  intro f
  induction f with
  | zero => intros; omega
  | succ f ih =>
    intro h x0 x1 x2 x3 T r_x0 i_x1 i_x2 i_x3 hm
    rw [sX5_addDrops_46]
    unfold sX5_addDrops_101 sX5_addDrops_90 sX5_plainMove
    obtain ⟨C_46, hC_46⟩ : ∃ C : Int, C = x3.toInt := ⟨_, rfl⟩
    have hk_46 : ∀ {h : Hp} {x0 : Nat} {x1 : Int32} {x2 : Int32} {x3 : Int32}, TH ρ c h → ρ x0 = 6 → Rg (0) (63) (x1) → Rg (0) (1) (x2) → Rg (0) (12) (x3) → C_46 < x3.toInt → Sat (sX5_addDrops_46 F f h x0 x1 x2 x3) (ZV ρ c) := by
      intro h' x0' x1' x2' x3' T' r_x0' i_x1' i_x2' i_x3' hl
      exact ih T' r_x0' i_x1' i_x2' i_x3' (by have := i_x3'.1; have := i_x3'.2; omega)
    have hc_46 : C_46 ≤ x3.toInt := by omega
    obtain ⟨r_1, e_r_1, q_r_1⟩ := thR T r_x0 (k := 6) (i := 0) (k2 := 2) rfl (by decide)
    refine s_ref e_r_1 ?_
    refine s_br (fun c_1 => ?_) (fun c_1 => ?_)
    · have _ := c_1
      exact s_some (T)
    · have _ := c_1
      have i_f_2 : Rg (0) (11) (x3) := rg_lt1 (nle_lt c_1) i_x3 (thI T q_r_1 (k := 2) (i := 3) rfl : Rg (0) (12) ((hI h r_1 3)))
      have i_f_3 : Rg (1) (12) ((hI h r_1 3)) := rg_lt2 (nle_lt c_1) i_x3 (thI T q_r_1 (k := 2) (i := 3) rfl : Rg (0) (12) ((hI h r_1 3)))
      obtain ⟨r_3, e_r_3, q_r_3⟩ := thM T r_x0 (k := 6) (i := 4) (j := 3) (k2 := 4) rfl (by decide) rfl (by decide) m3
      refine s_ref e_r_3 ?_
      refine s_ref e_r_3 ?_
      refine s_cI0 (zX3_inHand hF T q_r_3 (thI T q_r_3 (k := 4) (i := 5) rfl : Rg (0) (1) ((hI h r_3 5))) (rg_m i_f_2 (by decide))) (fun o_5 e_o_5 i_o_5 => ?_)
      have T_4 := th_eq e_o_5 T
      refine s_br (fun c_5 => ?_) (fun c_5 => ?_)
      · have _ := c_5
        have i_f_6 : Rg (0) (0) (o_5.1) := rg_le1 c_5 i_o_5 (rg_b rfl : Rg (0) (0) (0 : Int32))
        refine s_q (fun v_1q1 e_7 => ?_)
        have i_v_1q1 : Rg (1) (12) (v_1q1) := by rw [e_7]; exact (rg_add i_f_2 (rg_b rfl : Rg (1) (1) ((1 : Int32))) (by decide) : Rg (1) (12) (x3 + (1 : Int32)))
        have m_8 : (v_1q1).toInt = x3.toInt + 1 := by rw [e_7]; exact rg_inc i_f_2 (by decide)
        exact hk_46 T_4 r_x0 i_x1 i_x2 (rg_m i_v_1q1 (by decide)) (by have := hc_46; omega)
      · have _ := c_5
        have i_f_9 : Rg (1) (31) (o_5.1) := rg_lt2 (nle_lt c_5) (rg_b rfl : Rg (0) (0) (0 : Int32)) i_o_5
        refine s_br (fun c_10 => ?_) (fun c_10 => ?_)
        · have _ := c_10
          have i_f_11 : Rg (0) (0) (x2) := rg_eq c_10 (rg_b rfl : Rg (0) (0) (0 : Int32))
          refine s_pu (fun o_1q2z e_12 => ?_)
          try dsimp only
          have i_o_1q2z : Rg (0) (67108863) (o_1q2z) := by rw [e_12]; exact (rg_or (n := 26) (rg_m (rg_or (n := 24) (rg_m (rg_or (n := 20) (rg_m (rg_or (n := 16) (rg_m (rg_or (n := 6) (rg_m i_x1 (by decide) : Rg (0) (63) (x1)) (rg_m (rg_shl (n := 6) (rg_m (rg_b rfl : Rg (0) (0) ((0 : Int32))) (by decide) : Rg (0) (0) ((0 : Int32))) (rg_m (rg_b rfl : Rg (6) (6) ((6 : Int32))) (by decide) : Rg (0) (6) ((6 : Int32))) (by decide) : Rg (0) (0) (((0 : Int32) <<< ((6 : Int32) &&& 31)))) (by decide) : Rg (0) (0) (((0 : Int32) <<< ((6 : Int32) &&& 31)))) (by decide) : Rg (0) (63) ((x1 ||| ((0 : Int32) <<< ((6 : Int32) &&& 31))))) (by decide) : Rg (0) (63) ((x1 ||| ((0 : Int32) <<< ((6 : Int32) &&& 31))))) (rg_m (rg_shl (n := 12) (rg_m i_f_2 (by decide) : Rg (0) (11) (x3)) (rg_m (rg_b rfl : Rg (12) (12) ((12 : Int32))) (by decide) : Rg (0) (12) ((12 : Int32))) (by decide) : Rg (0) (45056) ((x3 <<< ((12 : Int32) &&& 31)))) (by decide) : Rg (0) (45056) ((x3 <<< ((12 : Int32) &&& 31)))) (by decide) : Rg (0) (65535) (((x1 ||| ((0 : Int32) <<< ((6 : Int32) &&& 31))) ||| (x3 <<< ((12 : Int32) &&& 31))))) (by decide) : Rg (0) (65535) (((x1 ||| ((0 : Int32) <<< ((6 : Int32) &&& 31))) ||| (x3 <<< ((12 : Int32) &&& 31))))) (rg_m (rg_b rfl : Rg (983040) (983040) ((983040 : Int32))) (by decide) : Rg (0) (983040) ((983040 : Int32))) (by decide) : Rg (0) (1048575) ((((x1 ||| ((0 : Int32) <<< ((6 : Int32) &&& 31))) ||| (x3 <<< ((12 : Int32) &&& 31))) ||| (983040 : Int32)))) (by decide) : Rg (0) (1048575) ((((x1 ||| ((0 : Int32) <<< ((6 : Int32) &&& 31))) ||| (x3 <<< ((12 : Int32) &&& 31))) ||| (983040 : Int32)))) (rg_m (rg_b rfl : Rg (15728640) (15728640) ((15728640 : Int32))) (by decide) : Rg (0) (15728640) ((15728640 : Int32))) (by decide) : Rg (0) (16777215) (((((x1 ||| ((0 : Int32) <<< ((6 : Int32) &&& 31))) ||| (x3 <<< ((12 : Int32) &&& 31))) ||| (983040 : Int32)) ||| (15728640 : Int32)))) (by decide) : Rg (0) (16777215) (((((x1 ||| ((0 : Int32) <<< ((6 : Int32) &&& 31))) ||| (x3 <<< ((12 : Int32) &&& 31))) ||| (983040 : Int32)) ||| (15728640 : Int32)))) (rg_m (rg_shl (n := 24) (rg_m (rg_b rfl : Rg (3) (3) ((3 : Int32))) (by decide) : Rg (0) (3) ((3 : Int32))) (rg_m (rg_b rfl : Rg (24) (24) ((24 : Int32))) (by decide) : Rg (0) (24) ((24 : Int32))) (by decide) : Rg (0) (50331648) (((3 : Int32) <<< ((24 : Int32) &&& 31)))) (by decide) : Rg (0) (50331648) (((3 : Int32) <<< ((24 : Int32) &&& 31)))) (by decide) : Rg (0) (67108863) (((((x1 ||| ((0 : Int32) <<< ((6 : Int32) &&& 31))) ||| (x3 <<< ((12 : Int32) &&& 31))) ||| (983040 : Int32)) ||| (15728640 : Int32)) ||| ((3 : Int32) <<< ((24 : Int32) &&& 31))))
          refine s_cV (zX5_addMove hF m4 (pmA_s hA rfl) T_4 r_x0 (rg_m i_o_1q2z (by decide))) (fun o_2q2 T_13 => ?_)
          refine s_q (fun v_1q3 e_14 => ?_)
          have i_v_1q3 : Rg (1) (12) (v_1q3) := by rw [e_14]; exact (rg_add i_f_2 (rg_b rfl : Rg (1) (1) ((1 : Int32))) (by decide) : Rg (1) (12) (x3 + (1 : Int32)))
          have m_15 : (v_1q3).toInt = x3.toInt + 1 := by rw [e_14]; exact rg_inc i_f_2 (by decide)
          exact hk_46 T_13 r_x0 i_x1 (rg_m i_f_11 (by decide)) (rg_m i_v_1q3 (by decide)) (by have := hc_46; omega)
        · have _ := c_10
          have i_f_16 : Rg (1) (1) (x2) := rg_nlo c_10 i_x2 (rg_b rfl : Rg (0) (0) (0 : Int32))
          refine s_ref (hr_e e_o_5 e_r_1) ?_
          refine s_cI0 (zX1_becomesOthers hF T_4 q_r_1 (rg_m i_f_2 (by decide))) (fun o_9 e_o_9 i_o_9 => ?_)
          have T_17 := th_eq e_o_9 T_4
          refine s_br (fun c_18 => ?_) (fun c_18 => ?_)
          · have _ := c_18
            have i_f_19 : Rg (0) (0) (o_9.1) := rg_eq c_18 (rg_b rfl : Rg (0) (0) (0 : Int32))
            refine s_pu (fun o_1q4z e_20 => ?_)
            try dsimp only
            have i_o_1q4z : Rg (0) (67108863) (o_1q4z) := by rw [e_20]; exact (rg_or (n := 26) (rg_m (rg_or (n := 24) (rg_m (rg_or (n := 20) (rg_m (rg_or (n := 16) (rg_m (rg_or (n := 6) (rg_m i_x1 (by decide) : Rg (0) (63) (x1)) (rg_m (rg_shl (n := 6) (rg_m (rg_b rfl : Rg (0) (0) ((0 : Int32))) (by decide) : Rg (0) (0) ((0 : Int32))) (rg_m (rg_b rfl : Rg (6) (6) ((6 : Int32))) (by decide) : Rg (0) (6) ((6 : Int32))) (by decide) : Rg (0) (0) (((0 : Int32) <<< ((6 : Int32) &&& 31)))) (by decide) : Rg (0) (0) (((0 : Int32) <<< ((6 : Int32) &&& 31)))) (by decide) : Rg (0) (63) ((x1 ||| ((0 : Int32) <<< ((6 : Int32) &&& 31))))) (by decide) : Rg (0) (63) ((x1 ||| ((0 : Int32) <<< ((6 : Int32) &&& 31))))) (rg_m (rg_shl (n := 12) (rg_m i_f_2 (by decide) : Rg (0) (11) (x3)) (rg_m (rg_b rfl : Rg (12) (12) ((12 : Int32))) (by decide) : Rg (0) (12) ((12 : Int32))) (by decide) : Rg (0) (45056) ((x3 <<< ((12 : Int32) &&& 31)))) (by decide) : Rg (0) (45056) ((x3 <<< ((12 : Int32) &&& 31)))) (by decide) : Rg (0) (65535) (((x1 ||| ((0 : Int32) <<< ((6 : Int32) &&& 31))) ||| (x3 <<< ((12 : Int32) &&& 31))))) (by decide) : Rg (0) (65535) (((x1 ||| ((0 : Int32) <<< ((6 : Int32) &&& 31))) ||| (x3 <<< ((12 : Int32) &&& 31))))) (rg_m (rg_b rfl : Rg (983040) (983040) ((983040 : Int32))) (by decide) : Rg (0) (983040) ((983040 : Int32))) (by decide) : Rg (0) (1048575) ((((x1 ||| ((0 : Int32) <<< ((6 : Int32) &&& 31))) ||| (x3 <<< ((12 : Int32) &&& 31))) ||| (983040 : Int32)))) (by decide) : Rg (0) (1048575) ((((x1 ||| ((0 : Int32) <<< ((6 : Int32) &&& 31))) ||| (x3 <<< ((12 : Int32) &&& 31))) ||| (983040 : Int32)))) (rg_m (rg_b rfl : Rg (15728640) (15728640) ((15728640 : Int32))) (by decide) : Rg (0) (15728640) ((15728640 : Int32))) (by decide) : Rg (0) (16777215) (((((x1 ||| ((0 : Int32) <<< ((6 : Int32) &&& 31))) ||| (x3 <<< ((12 : Int32) &&& 31))) ||| (983040 : Int32)) ||| (15728640 : Int32)))) (by decide) : Rg (0) (16777215) (((((x1 ||| ((0 : Int32) <<< ((6 : Int32) &&& 31))) ||| (x3 <<< ((12 : Int32) &&& 31))) ||| (983040 : Int32)) ||| (15728640 : Int32)))) (rg_m (rg_shl (n := 24) (rg_m (rg_b rfl : Rg (3) (3) ((3 : Int32))) (by decide) : Rg (0) (3) ((3 : Int32))) (rg_m (rg_b rfl : Rg (24) (24) ((24 : Int32))) (by decide) : Rg (0) (24) ((24 : Int32))) (by decide) : Rg (0) (50331648) (((3 : Int32) <<< ((24 : Int32) &&& 31)))) (by decide) : Rg (0) (50331648) (((3 : Int32) <<< ((24 : Int32) &&& 31)))) (by decide) : Rg (0) (67108863) (((((x1 ||| ((0 : Int32) <<< ((6 : Int32) &&& 31))) ||| (x3 <<< ((12 : Int32) &&& 31))) ||| (983040 : Int32)) ||| (15728640 : Int32)) ||| ((3 : Int32) <<< ((24 : Int32) &&& 31))))
            refine s_cV (zX5_addMove hF m4 (pmA_s hA rfl) T_17 r_x0 (rg_m i_o_1q4z (by decide))) (fun o_2q4 T_21 => ?_)
            refine s_q (fun v_1q5 e_22 => ?_)
            have i_v_1q5 : Rg (1) (12) (v_1q5) := by rw [e_22]; exact (rg_add i_f_2 (rg_b rfl : Rg (1) (1) ((1 : Int32))) (by decide) : Rg (1) (12) (x3 + (1 : Int32)))
            have m_23 : (v_1q5).toInt = x3.toInt + 1 := by rw [e_22]; exact rg_inc i_f_2 (by decide)
            exact hk_46 T_21 r_x0 i_x1 (rg_m i_f_16 (by decide)) (rg_m i_v_1q5 (by decide)) (by have := hc_46; omega)
          · have _ := c_18
            have i_f_24 : Rg (1) (1) (o_9.1) := rg_nlo c_18 i_o_9 (rg_b rfl : Rg (0) (0) (0 : Int32))
            refine s_q (fun v_1q6 e_25 => ?_)
            have i_v_1q6 : Rg (1) (12) (v_1q6) := by rw [e_25]; exact (rg_add i_f_2 (rg_b rfl : Rg (1) (1) ((1 : Int32))) (by decide) : Rg (1) (12) (x3 + (1 : Int32)))
            have m_26 : (v_1q6).toInt = x3.toInt + 1 := by rw [e_25]; exact rg_inc i_f_2 (by decide)
            exact hk_46 T_17 r_x0 i_x1 (rg_m i_f_16 (by decide)) (rg_m i_v_1q6 (by decide)) (by have := hc_46; omega)
set_option maxRecDepth 20000 in
theorem zX5_addDrops {ρ : Nat → Nat} {c : Cm} {F : Nat} (hF : 700000 ≤ F) (m3 : c.2.1 3 = true) (m4 : c.2.1 4 = true) (hA : pmA c [(47, 999), (6, 6)]) {h : Hp} {x0 : Nat} {x1 : Int32} (T : TH ρ c h) (r_x0 : ρ x0 = 6) (i_x1 : Rg (0) (63) (x1)) : Sat (sX5_addDrops F h x0 x1) (ZV ρ c) := by
  unfold sX5_addDrops sX5_addDrops_43 sX5_addDrops_38
  obtain ⟨r_1, e_r_1, q_r_1⟩ := thM T r_x0 (k := 6) (i := 4) (j := 3) (k2 := 4) rfl (by decide) rfl (by decide) m3
  refine s_ref e_r_1 ?_
  obtain ⟨r_2, e_r_2, q_r_2⟩ := thR T q_r_1 (k := 4) (i := 0) (k2 := 34) rfl (by decide)
  refine s_ref e_r_2 ?_
  refine s_gd (by rw [thN T q_r_2 (k := 34) (n := 64) rfl (by decide)]; exact rg_inB i_x1 (by decide)) ?_
  refine s_br (fun c_1 => ?_) (fun c_1 => ?_)
  · have _ := c_1
    have i_f_2 : Rg (-1) (-1) ((hI h r_2 x1.toNatClampNeg)) := rg_eq c_1 (rg_b rfl : Rg (-1) (-1) ((- 1 : Int32)))
    obtain ⟨r_5, e_r_5, q_r_5⟩ := thR T r_x0 (k := 6) (i := 0) (k2 := 2) rfl (by decide)
    refine s_ref e_r_5 ?_
    refine s_cI0 (zX1_isLast hF T q_r_5 i_x1 (rg_m (rg_b rfl : Rg (0) (0) ((0 : Int32))) (by decide))) (fun o_6 e_o_6 i_o_6 => ?_)
    have T_3 := th_eq e_o_6 T
    refine s_br (fun c_4 => ?_) (fun c_4 => ?_)
    · have _ := c_4
      have i_f_5 : Rg (0) (0) (o_6.1) := rg_eq c_4 (rg_b rfl : Rg (0) (0) (0 : Int32))
      refine s_ref (hr_e e_o_6 e_r_5) ?_
      refine s_cI0 (zX1_isLast hF T_3 q_r_5 i_x1 (rg_m (rg_b rfl : Rg (1) (1) ((1 : Int32))) (by decide))) (fun o_9 e_o_9 i_o_9 => ?_)
      have T_6 := th_eq e_o_9 T_3
      refine s_br (fun c_7 => ?_) (fun c_7 => ?_)
      · have _ := c_7
        have i_f_8 : Rg (0) (0) (o_9.1) := rg_eq c_7 (rg_b rfl : Rg (0) (0) (0 : Int32))
        have m_9 : Rg (0) (12) ((0 : Int32)) := (rg_m (rg_b rfl : Rg (0) (0) ((0 : Int32))) (by decide))
        exact zX5_addDrops_46 hF m3 m4 (pmA_s hA rfl) F T_6 r_x0 i_x1 (rg_m (rg_b rfl : Rg (0) (0) ((0 : Int32))) (by decide)) (rg_m (rg_b rfl : Rg (0) (0) ((0 : Int32))) (by decide)) (by have := m_9.1; have := m_9.2; omega)
      · have _ := c_7
        have i_f_10 : Rg (1) (1) (o_9.1) := rg_nlo c_7 i_o_9 (rg_b rfl : Rg (0) (0) (0 : Int32))
        have m_11 : Rg (0) (12) ((0 : Int32)) := (rg_m (rg_b rfl : Rg (0) (0) ((0 : Int32))) (by decide))
        exact zX5_addDrops_46 hF m3 m4 (pmA_s hA rfl) F T_6 r_x0 i_x1 (rg_m (rg_b rfl : Rg (1) (1) ((1 : Int32))) (by decide)) (rg_m (rg_b rfl : Rg (0) (0) ((0 : Int32))) (by decide)) (by have := m_11.1; have := m_11.2; omega)
    · have _ := c_4
      have i_f_12 : Rg (1) (1) (o_6.1) := rg_nlo c_4 i_o_6 (rg_b rfl : Rg (0) (0) (0 : Int32))
      have m_13 : Rg (0) (12) ((0 : Int32)) := (rg_m (rg_b rfl : Rg (0) (0) ((0 : Int32))) (by decide))
      exact zX5_addDrops_46 hF m3 m4 (pmA_s hA rfl) F T_3 r_x0 i_x1 (rg_m (rg_b rfl : Rg (1) (1) ((1 : Int32))) (by decide)) (rg_m (rg_b rfl : Rg (0) (0) ((0 : Int32))) (by decide)) (by have := m_13.1; have := m_13.2; omega)
  · have _ := c_1
    have i_f_14 : Rg (0) (23) ((hI h r_2 x1.toNatClampNeg)) := rg_nlo c_1 (thI T q_r_2 (k := 34) rfl : Rg (-1) (23) ((hI h r_2 x1.toNatClampNeg))) (rg_b rfl : Rg (-1) (-1) ((- 1 : Int32)))
    exact s_some (T)
set_option maxRecDepth 20000 in
theorem zX5_takenBy {ρ : Nat → Nat} {c : Cm} {F : Nat} (hF : 700000 ≤ F) {h : Hp} {x0 : Int32} (T : TH ρ c h) (i_x0 : Rg (-2147483648) (2147483647) (x0)) : Sat (sX5_takenBy h x0) (ZI0 h (-1) (14)) := by
  unfold sX5_takenBy sX5_takenBy_19
  refine s_q (fun v_1 e_1 => ?_)
  have i_v_1 : Rg (0) (15) (v_1) := by rw [e_1]; exact (rg_and (rg_b rfl : Rg (15) (15) ((15 : Int32))) (by decide) : Rg (0) (15) ((x0 >>> ((20 : Int32) &&& 31)) &&& (15 : Int32)))
  refine s_br (fun c_2 => ?_) (fun c_2 => ?_)
  · have _ := c_2
    have i_f_3 : Rg (15) (15) (v_1) := rg_eq c_2 (rg_b rfl : Rg (15) (15) ((15 : Int32)))
    exact s_some ⟨rfl, (rg_m (rg_b rfl : Rg (-1) (-1) ((- 1 : Int32))) (by decide))⟩
  · have _ := c_2
    have i_f_4 : Rg (0) (14) (v_1) := rg_nhi c_2 i_v_1 (rg_b rfl : Rg (15) (15) ((15 : Int32)))
    exact s_some ⟨rfl, (rg_m i_f_4 (by decide))⟩
set_option maxRecDepth 20000 in
theorem zX5_leads_94 {ρ : Nat → Nat} {c : Cm} {h0 : Hp} {F : Nat} (hF : 700000 ≤ F) {h : Hp} {x1 : Nat} {x3 : Int32} {x4 : Int32} {x5 : Int64} (E : h = h0) (T : TH ρ c h) (r_x1 : ρ x1 = 4) (i_x3 : Rg (0) (1) (x3)) (i_x4 : Rg (0) (63) (x4)) : Sat (sX5_leads_94 h x1 x3 x4 x5) (ZI0 h0 (0) (1)) := by
  unfold sX5_leads_94 sX5_leads_115 sX5_leads_129 sX5_leads_138
  obtain ⟨r_1, e_r_1, q_r_1⟩ := thR T r_x1 (k := 4) (i := 1) (k2 := 35) rfl (by decide)
  refine s_ref e_r_1 ?_
  refine s_gd (by rw [thN T q_r_1 (k := 35) (n := 2) rfl (by decide)]; exact rg_inB (rg_sub (rg_b rfl : Rg (1) (1) ((1 : Int32))) i_x3 (by decide) : Rg (0) (1) (((1 : Int32) - x3))) (by decide)) ?_
  refine s_br (fun c_1 => ?_) (fun c_1 => ?_)
  · have _ := c_1
    refine s_br (fun c_2 => ?_) (fun c_2 => ?_)
    · have _ := c_2
      refine s_br (fun c_3 => ?_) (fun c_3 => ?_)
      · have _ := c_3
        have i_f_4 : Rg (0) (0) ((x4 &&& (2 : Int32))) := rg_eq c_3 (rg_b rfl : Rg (0) (0) (0 : Int32))
        refine s_gd (rg_bool (rg_m (rg_b rfl : Rg (1) (1) ((1 : Int32))) (by decide))) ?_
        exact s_some ⟨E, (rg_m (rg_b rfl : Rg (1) (1) ((1 : Int32))) (by decide))⟩
      · have _ := c_3
        have i_f_5 : Rg (1) (2) ((x4 &&& (2 : Int32))) := rg_nlo c_3 (rg_and (rg_b rfl : Rg (2) (2) ((2 : Int32))) (by decide) : Rg (0) (2) ((x4 &&& (2 : Int32)))) (rg_b rfl : Rg (0) (0) (0 : Int32))
        refine s_gd (rg_bool (rg_m (rg_b rfl : Rg (0) (0) ((0 : Int32))) (by decide))) ?_
        exact s_some ⟨E, (rg_m (rg_b rfl : Rg (0) (0) ((0 : Int32))) (by decide))⟩
    · have _ := c_2
      exact (rc_ne c_2 (rg_b rfl : Rg (0) (0) ((0 : Int32))) (rg_b rfl : Rg (0) (0) (0 : Int32))).elim
  · have _ := c_1
    refine s_br (fun c_6 => ?_) (fun c_6 => ?_)
    · have _ := c_6
      exact (rc_eq c_6 (rg_b rfl : Rg (1) (1) ((1 : Int32))) (rg_b rfl : Rg (0) (0) (0 : Int32)) (by decide)).elim
    · have _ := c_6
      refine s_br (fun c_7 => ?_) (fun c_7 => ?_)
      · have _ := c_7
        have i_f_8 : Rg (0) (0) ((x4 &&& (1 : Int32))) := rg_eq c_7 (rg_b rfl : Rg (0) (0) (0 : Int32))
        refine s_gd (rg_bool (rg_m (rg_b rfl : Rg (1) (1) ((1 : Int32))) (by decide))) ?_
        exact s_some ⟨E, (rg_m (rg_b rfl : Rg (1) (1) ((1 : Int32))) (by decide))⟩
      · have _ := c_7
        have i_f_9 : Rg (1) (1) ((x4 &&& (1 : Int32))) := rg_nlo c_7 (rg_and (rg_b rfl : Rg (1) (1) ((1 : Int32))) (by decide) : Rg (0) (1) ((x4 &&& (1 : Int32)))) (rg_b rfl : Rg (0) (0) (0 : Int32))
        refine s_gd (rg_bool (rg_m (rg_b rfl : Rg (0) (0) ((0 : Int32))) (by decide))) ?_
        exact s_some ⟨E, (rg_m (rg_b rfl : Rg (0) (0) ((0 : Int32))) (by decide))⟩
set_option maxRecDepth 20000 in
theorem zX5_leads {ρ : Nat → Nat} {c : Cm} {F : Nat} (hF : 700000 ≤ F) {h : Hp} {x0 : Nat} {x1 : Nat} {x2 : Int32} {x3 : Int32} (T : TH ρ c h) (r_x0 : ρ x0 = 6) (r_x1 : ρ x1 = 4) (i_x2 : Rg (0) (172031) (x2)) (i_x3 : Rg (0) (1) (x3)) : Sat (sX5_leads h x0 x1 x2 x3) (ZI0 h (0) (1)) := by
  unfold sX5_leads sX5_leads_62
  obtain ⟨r_1, e_r_1, q_r_1⟩ := thR T r_x0 (k := 6) (i := 1) (k2 := 11) rfl (by decide)
  refine s_ref e_r_1 ?_
  obtain ⟨r_2, e_r_2, q_r_2⟩ := thR T q_r_1 (k := 11) (i := 1) (k2 := 51) rfl (by decide)
  refine s_ref e_r_2 ?_
  refine s_gd (by rw [thN T q_r_2 (k := 51) (n := 172032) rfl (by decide)]; exact rg_inB i_x2 (by decide)) ?_
  refine s_q (fun v_4 e_1 => ?_)
  have i_v_4 : Rg (0) (63) (v_4) := by rw [e_1]; exact (rg_and (rg_b rfl : Rg (63) (63) ((63 : Int32))) (by decide) : Rg (0) (63) (((hI h r_2 x2.toNatClampNeg) >>> ((6 : Int32) &&& 31)) &&& (63 : Int32)))
  refine s_ref e_r_1 ?_
  refine s_ref e_r_2 ?_
  refine s_gd (by rw [thN T q_r_2 (k := 51) (n := 172032) rfl (by decide)]; exact rg_inB i_x2 (by decide)) ?_
  refine s_q (fun v_8 e_2 => ?_)
  obtain ⟨r_9, e_r_9, q_r_9⟩ := thR T r_x1 (k := 4) (i := 1) (k2 := 35) rfl (by decide)
  refine s_ref e_r_9 ?_
  refine s_gd (by rw [thN T q_r_9 (k := 35) (n := 2) rfl (by decide)]; exact rg_inB i_x3 (by decide)) ?_
  refine s_br (fun c_3 => ?_) (fun c_3 => ?_)
  · have _ := c_3
    refine s_ref e_r_1 ?_
    refine s_cJ0 (zX3_occupied hF T r_x1) (fun o_13 e_o_13 => ?_)
    have T_4 := th_eq e_o_13 T
    refine s_cI0 (zX10_isOpen hF T_4 q_r_1 i_x2) (fun o_14 e_o_14 i_o_14 => ?_)
    have T_5 := th_eq e_o_14 T_4
    refine s_br (fun c_6 => ?_) (fun c_6 => ?_)
    · have _ := c_6
      have i_f_7 : Rg (0) (0) (o_14.1) := rg_eq c_6 (rg_b rfl : Rg (0) (0) (0 : Int32))
      exact s_some ⟨(e_o_14.trans (e_o_13.trans rfl)), (rg_m (rg_b rfl : Rg (0) (0) ((0 : Int32))) (by decide))⟩
    · have _ := c_6
      have i_f_8 : Rg (1) (1) (o_14.1) := rg_nlo c_6 i_o_14 (rg_b rfl : Rg (0) (0) (0 : Int32))
      refine s_br (fun c_9 => ?_) (fun c_9 => ?_)
      · have _ := c_9
        have i_f_10 : Rg (0) (0) ((v_4 &&& (32 : Int32))) := rg_eq c_9 (rg_b rfl : Rg (0) (0) (0 : Int32))
        exact zX5_leads_94 hF (e_o_14.trans (e_o_13.trans rfl)) T_5 r_x1 i_x3 i_v_4
      · have _ := c_9
        have i_f_11 : Rg (1) (32) ((v_4 &&& (32 : Int32))) := rg_nlo c_9 (rg_and (rg_b rfl : Rg (32) (32) ((32 : Int32))) (by decide) : Rg (0) (32) ((v_4 &&& (32 : Int32)))) (rg_b rfl : Rg (0) (0) (0 : Int32))
        refine s_br (fun c_12 => ?_) (fun c_12 => ?_)
        · have _ := c_12
          refine s_br (fun c_13 => ?_) (fun c_13 => ?_)
          · have _ := c_13
            exact zX5_leads_94 hF (e_o_14.trans (e_o_13.trans rfl)) T_5 r_x1 i_x3 i_v_4
          · have _ := c_13
            exact s_some ⟨(e_o_14.trans (e_o_13.trans rfl)), (rg_m (rg_b rfl : Rg (1) (1) ((1 : Int32))) (by decide))⟩
        · have _ := c_12
          exact zX5_leads_94 hF (e_o_14.trans (e_o_13.trans rfl)) T_5 r_x1 i_x3 i_v_4
  · have _ := c_3
    exact s_some ⟨rfl, (rg_m (rg_b rfl : Rg (0) (0) ((0 : Int32))) (by decide))⟩
set_option maxRecDepth 20000 in
theorem zX3_passSquare {ρ : Nat → Nat} {c : Cm} {F : Nat} (hF : 700000 ≤ F) {h : Hp} {x0 : Nat} {x1 : Int32} (T : TH ρ c h) (r_x0 : ρ x0 = 4) (i_x1 : Rg (0) (6) (x1)) : Sat (sX3_passSquare h x0 x1) (ZI0 h (0) (63)) := by
  unfold sX3_passSquare 
  exact s_some ⟨rfl, (rg_and (rg_b rfl : Rg (63) (63) ((63 : Int32))) (by decide) : Rg (0) (63) (((((hJ h x0 9).toUInt64 >>> (((3 : Int32) + ((6 : Int32) * x1)).toInt64.toUInt64 &&& Int64.toUInt64 63)).toInt64).toInt32) &&& (63 : Int32)))⟩
set_option maxRecDepth 20000 in
theorem zX5_moveAlong_154 {ρ : Nat → Nat} {c : Cm} {h0 : Hp} {F : Nat} (hF : 700000 ≤ F) {h : Hp} {x5 : Int32} {x6 : Int32} {x9 : Int32} (E : h = h0) (T : TH ρ c h) (i_x5 : Rg (0) (63) (x5)) (i_x6 : Rg (0) (7) (x6)) (i_x9 : Rg (-2147483648) (2147483647) (x9)) : Sat (sX5_moveAlong_154 h x5 x6 x9) (ZI0 h0 (-2147483648) (2147483647)) := by
  unfold sX5_moveAlong_154 sX5_moveAlong_179 sX5_moveAlong_181
  refine s_br (fun c_1 => ?_) (fun c_1 => ?_)
  · have _ := c_1
    have i_f_2 : Rg (0) (0) ((x5 &&& (16 : Int32))) := rg_eq c_1 (rg_b rfl : Rg (0) (0) (0 : Int32))
    exact s_some ⟨E, i_x9⟩
  · have _ := c_1
    have i_f_3 : Rg (1) (16) ((x5 &&& (16 : Int32))) := rg_nlo c_1 (rg_and (rg_b rfl : Rg (16) (16) ((16 : Int32))) (by decide) : Rg (0) (16) ((x5 &&& (16 : Int32)))) (rg_b rfl : Rg (0) (0) (0 : Int32))
    refine s_br (fun c_4 => ?_) (fun c_4 => ?_)
    · have _ := c_4
      have i_f_5 : Rg (0) (1) (x6) := rg_le1 c_4 i_x6 (rg_b rfl : Rg (1) (1) ((1 : Int32)))
      exact s_some ⟨E, i_x9⟩
    · have _ := c_4
      have i_f_6 : Rg (2) (7) (x6) := rg_lt2 (nle_lt c_4) (rg_b rfl : Rg (1) (1) ((1 : Int32))) i_x6
      exact s_some ⟨E, (rg_top _ : Rg (-2147483648) (2147483647) ((x9 ||| (x6 <<< ((26 : Int32) &&& 31)))))⟩
set_option maxRecDepth 20000 in
theorem zX5_moveAlong_129 {ρ : Nat → Nat} {c : Cm} {h0 : Hp} {F : Nat} (hF : 700000 ≤ F) {h : Hp} {x5 : Int32} {x6 : Int32} {x8 : Int32} {t0 : Int32} {t1 : Int32} {t2 : Int32} {t3 : Int32} (E : h = h0) (T : TH ρ c h) (i_x5 : Rg (0) (63) (x5)) (i_x6 : Rg (0) (7) (x6)) (i_x8 : Rg (-1) (23) (x8)) (i_t0 : Rg (0) (1) (t0)) (i_t1 : Rg (-1) (11) (t1)) (i_t2 : Rg (0) (63) (t2)) (i_t3 : Rg (0) (63) (t3)) : Sat (sX5_moveAlong_129 h x5 x6 x8 t0 t1 t2 t3) (ZI0 h0 (-2147483648) (2147483647)) := by
  unfold sX5_moveAlong_129 sX5_plainMove
  refine s_pu (fun o_1z e_1 => ?_)
  try dsimp only
  have i_o_1z : Rg (-2147483648) (2147483647) (o_1z) := by rw [e_1]; exact (rg_top _ : Rg (-2147483648) (2147483647) (((((t2 ||| (t3 <<< ((6 : Int32) &&& 31))) ||| (t1 <<< ((12 : Int32) &&& 31))) ||| (983040 : Int32)) ||| (15728640 : Int32)) ||| (t0 <<< ((24 : Int32) &&& 31))))
  refine s_br (fun c_2 => ?_) (fun c_2 => ?_)
  · have _ := c_2
    have i_f_3 : Rg (-1) (-1) (x8) := rg_lt1 c_2 i_x8 (rg_b rfl : Rg (0) (0) (0 : Int32))
    exact zX5_moveAlong_154 hF E T i_x5 i_x6 i_o_1z
  · have _ := c_2
    have i_f_4 : Rg (0) (23) (x8) := rg_le2 (nlt_le c_2) (rg_b rfl : Rg (0) (0) (0 : Int32)) i_x8
    refine s_q (fun v_3 e_5 => ?_)
    have i_v_3 : Rg (-2147483648) (2147483647) (v_3) := by rw [e_5]; exact (rg_top _ : Rg (-2147483648) (2147483647) ((o_1z &&& (- 15728641 : Int32)) ||| ((x8 >>> ((1 : Int32) &&& 31)) <<< ((20 : Int32) &&& 31))))
    exact zX5_moveAlong_154 hF E T i_x5 i_x6 i_v_3
set_option maxRecDepth 20000 in
theorem zX5_moveAlong_111 {ρ : Nat → Nat} {c : Cm} {h0 : Hp} {F : Nat} (hF : 700000 ≤ F) {h : Hp} {x2 : Int32} {x3 : Int32} {x4 : Int32} {x5 : Int32} {x6 : Int32} {x7 : Int32} {t0 : Int32} (E : h = h0) (T : TH ρ c h) (i_x2 : Rg (0) (63) (x2)) (i_x3 : Rg (-1) (23) (x3)) (i_x4 : Rg (0) (63) (x4)) (i_x5 : Rg (0) (63) (x5)) (i_x6 : Rg (0) (7) (x6)) (i_x7 : Rg (0) (1) (x7)) (i_t0 : Rg (-1) (23) (t0)) : Sat (sX5_moveAlong_111 h x2 x3 x4 x5 x6 x7 t0) (ZI0 h0 (-2147483648) (2147483647)) := by
  unfold sX5_moveAlong_111 
  refine s_br (fun c_1 => ?_) (fun c_1 => ?_)
  · have _ := c_1
    have i_f_2 : Rg (0) (0) (x7) := rg_eq c_1 (rg_b rfl : Rg (0) (0) (0 : Int32))
    exact zX5_moveAlong_129 hF E T i_x5 i_x6 i_t0 (rg_m (rg_b rfl : Rg (0) (0) ((0 : Int32))) (by decide)) (rg_shrk 1 (by decide) i_x3 (by decide) : Rg (-1) (11) ((x3 >>> ((1 : Int32) &&& 31)))) i_x4 i_x2
  · have _ := c_1
    have i_f_3 : Rg (1) (1) (x7) := rg_nlo c_1 i_x7 (rg_b rfl : Rg (0) (0) (0 : Int32))
    exact zX5_moveAlong_129 hF E T i_x5 i_x6 i_t0 (rg_m (rg_b rfl : Rg (1) (1) ((1 : Int32))) (by decide)) (rg_shrk 1 (by decide) i_x3 (by decide) : Rg (-1) (11) ((x3 >>> ((1 : Int32) &&& 31)))) i_x4 i_x2
set_option maxRecDepth 20000 in
theorem zX5_moveAlong_75 {ρ : Nat → Nat} {c : Cm} {h0 : Hp} {F : Nat} (hF : 700000 ≤ F) (m3 : c.2.1 3 = true) {h : Hp} {x0 : Nat} {x2 : Int32} {x3 : Int32} {x4 : Int32} {x5 : Int32} {x6 : Int32} {t0 : Int32} (E : h = h0) (T : TH ρ c h) (r_x0 : ρ x0 = 6) (i_x2 : Rg (0) (63) (x2)) (i_x3 : Rg (-1) (23) (x3)) (i_x4 : Rg (0) (63) (x4)) (i_x5 : Rg (0) (63) (x5)) (i_x6 : Rg (0) (7) (x6)) (i_t0 : Rg (0) (1) (t0)) : Sat (sX5_moveAlong_75 h x0 x2 x3 x4 x5 x6 t0) (ZI0 h0 (-2147483648) (2147483647)) := by
  unfold sX5_moveAlong_75 
  refine s_br (fun c_1 => ?_) (fun c_1 => ?_)
  · have _ := c_1
    have i_f_2 : Rg (0) (0) (t0) := rg_eq c_1 (rg_b rfl : Rg (0) (0) (0 : Int32))
    obtain ⟨r_2, e_r_2, q_r_2⟩ := thM T r_x0 (k := 6) (i := 4) (j := 3) (k2 := 4) rfl (by decide) rfl (by decide) m3
    refine s_ref e_r_2 ?_
    obtain ⟨r_3, e_r_3, q_r_3⟩ := thR T q_r_2 (k := 4) (i := 0) (k2 := 34) rfl (by decide)
    refine s_ref e_r_3 ?_
    refine s_gd (by rw [thN T q_r_3 (k := 34) (n := 64) rfl (by decide)]; exact rg_inB i_x4 (by decide)) ?_
    exact zX5_moveAlong_111 hF E T i_x2 i_x3 i_x4 i_x5 i_x6 (rg_m i_f_2 (by decide)) (thI T q_r_3 (k := 34) rfl : Rg (-1) (23) ((hI h r_3 x4.toNatClampNeg)))
  · have _ := c_1
    have i_f_3 : Rg (1) (1) (t0) := rg_nlo c_1 i_t0 (rg_b rfl : Rg (0) (0) (0 : Int32))
    obtain ⟨r_5, e_r_5, q_r_5⟩ := thM T r_x0 (k := 6) (i := 4) (j := 3) (k2 := 4) rfl (by decide) rfl (by decide) m3
    refine s_ref e_r_5 ?_
    obtain ⟨r_6, e_r_6, q_r_6⟩ := thR T q_r_5 (k := 4) (i := 0) (k2 := 34) rfl (by decide)
    refine s_ref e_r_6 ?_
    refine s_ref e_r_5 ?_
    refine s_cI0 (zX3_passSquare hF T q_r_5 (rg_m (rg_b rfl : Rg (0) (0) ((0 : Int32))) (by decide))) (fun o_8 e_o_8 i_o_8 => ?_)
    have T_4 := th_eq e_o_8 T
    refine s_gd (by rw [thN T_4 q_r_6 (k := 34) (n := 64) rfl (by decide)]; exact rg_inB i_o_8 (by decide)) ?_
    exact zX5_moveAlong_111 hF (e_o_8.trans E) T_4 i_x2 i_x3 i_x4 i_x5 i_x6 (rg_m i_f_3 (by decide)) (thI T_4 q_r_6 (k := 34) rfl : Rg (-1) (23) ((hI o_8.2 r_6 o_8.1.toNatClampNeg)))
set_option maxRecDepth 20000 in
theorem zX5_moveAlong {ρ : Nat → Nat} {c : Cm} {F : Nat} (hF : 700000 ≤ F) (m3 : c.2.1 3 = true) {h : Hp} {x0 : Nat} {x1 : Int32} {x2 : Int32} {x3 : Int32} (T : TH ρ c h) (r_x0 : ρ x0 = 6) (i_x1 : Rg (0) (172031) (x1)) (i_x2 : Rg (0) (63) (x2)) (i_x3 : Rg (-1) (23) (x3)) : Sat (sX5_moveAlong h x0 x1 x2 x3) (ZI0 h (-2147483648) (2147483647)) := by
  unfold sX5_moveAlong sX5_moveAlong_74
  obtain ⟨r_1, e_r_1, q_r_1⟩ := thR T r_x0 (k := 6) (i := 1) (k2 := 11) rfl (by decide)
  refine s_ref e_r_1 ?_
  obtain ⟨r_2, e_r_2, q_r_2⟩ := thR T q_r_1 (k := 11) (i := 1) (k2 := 51) rfl (by decide)
  refine s_ref e_r_2 ?_
  refine s_gd (by rw [thN T q_r_2 (k := 51) (n := 172032) rfl (by decide)]; exact rg_inB i_x1 (by decide)) ?_
  refine s_q (fun v_4 e_1 => ?_)
  have i_v_4 : Rg (0) (63) (v_4) := by rw [e_1]; exact (rg_and (rg_b rfl : Rg (63) (63) ((63 : Int32))) (by decide) : Rg (0) (63) ((hI h r_2 x1.toNatClampNeg) &&& (63 : Int32)))
  refine s_ref e_r_1 ?_
  refine s_ref e_r_2 ?_
  refine s_gd (by rw [thN T q_r_2 (k := 51) (n := 172032) rfl (by decide)]; exact rg_inB i_x1 (by decide)) ?_
  refine s_q (fun v_8 e_2 => ?_)
  have i_v_8 : Rg (0) (63) (v_8) := by rw [e_2]; exact (rg_and (rg_b rfl : Rg (63) (63) ((63 : Int32))) (by decide) : Rg (0) (63) (((hI h r_2 x1.toNatClampNeg) >>> ((6 : Int32) &&& 31)) &&& (63 : Int32)))
  refine s_ref e_r_1 ?_
  refine s_ref e_r_2 ?_
  refine s_gd (by rw [thN T q_r_2 (k := 51) (n := 172032) rfl (by decide)]; exact rg_inB i_x1 (by decide)) ?_
  refine s_q (fun v_12 e_3 => ?_)
  have i_v_12 : Rg (0) (7) (v_12) := by rw [e_3]; exact (rg_shrk 12 (by decide) (thI T q_r_2 (k := 51) rfl : Rg (0) (32767) ((hI h r_2 x1.toNatClampNeg))) (by decide) : Rg (0) (7) ((hI h r_2 x1.toNatClampNeg) >>> ((12 : Int32) &&& 31)))
  refine s_br (fun c_4 => ?_) (fun c_4 => ?_)
  · have _ := c_4
    have i_f_5 : Rg (0) (0) ((v_8 &&& (32 : Int32))) := rg_eq c_4 (rg_b rfl : Rg (0) (0) (0 : Int32))
    exact zX5_moveAlong_75 hF m3 rfl T r_x0 i_x2 i_x3 i_v_4 i_v_8 i_v_12 (rg_m (rg_b rfl : Rg (0) (0) ((0 : Int32))) (by decide))
  · have _ := c_4
    have i_f_6 : Rg (1) (32) ((v_8 &&& (32 : Int32))) := rg_nlo c_4 (rg_and (rg_b rfl : Rg (32) (32) ((32 : Int32))) (by decide) : Rg (0) (32) ((v_8 &&& (32 : Int32)))) (rg_b rfl : Rg (0) (0) (0 : Int32))
    obtain ⟨r_14, e_r_14, q_r_14⟩ := thM T r_x0 (k := 6) (i := 4) (j := 3) (k2 := 4) rfl (by decide) rfl (by decide) m3
    refine s_ref e_r_14 ?_
    refine s_br (fun c_7 => ?_) (fun c_7 => ?_)
    · have _ := c_7
      exact zX5_moveAlong_75 hF m3 rfl T r_x0 i_x2 i_x3 i_v_4 i_v_8 i_v_12 (rg_m (rg_b rfl : Rg (0) (0) ((0 : Int32))) (by decide))
    · have _ := c_7
      exact zX5_moveAlong_75 hF m3 rfl T r_x0 i_x2 i_x3 i_v_4 i_v_8 i_v_12 (rg_m (rg_b rfl : Rg (1) (1) ((1 : Int32))) (by decide))
set_option maxRecDepth 20000 in
theorem zX5_survey_135 {ρ : Nat → Nat} {c : Cm} {F : Nat} (hF : 700000 ≤ F) {k_30 : Hp → Nat → Int32 → Int64 → Int64 → Int32 → Option (Hp)} {C_30 : Int} (hk_30 : ∀ {h : Hp} {x0 : Nat} {x1 : Int32} {x2 : Int64} {x4 : Int64} {x6 : Int32}, TH ρ c h → ρ x0 = 6 → Rg (0) (63) (x1) → Rg (0) (64) (x6) → (OnMen x0 x4 h) → C_30 < x6.toInt → Sat (k_30 h x0 x1 x2 x4 x6) (ZV ρ c)) (hA : pmA c [(6, 8), (6, 9)]) : ∀ (f : Nat) {h : Hp} {x0 : Nat} {x1 : Int32} {x2 : Int64} {x4 : Int64} {x6 : Int32} {x11 : Int32} {x12 : Int32}, TH ρ c h → ρ x0 = 6 → Rg (0) (63) (x1) → Rg (0) (63) (x6) → Rg (0) (98303) (x11) → Rg (0) (172032) (x12) → C_30 ≤ x6.toInt → (OnMen x0 x4 h) → (172032 - x12.toInt).toNat < f → Sat (sX5_survey_135 F k_30 f h x0 x1 x2 x4 x6 x11 x12) (ZV ρ c) := by
  intro f
  induction f with
  | zero => intros; omega
  | succ f ih =>
    intro h x0 x1 x2 x4 x6 x11 x12 T r_x0 i_x1 i_x6 i_x11 i_x12 hc_30 om hm
    rw [sX5_survey_135]
    unfold sX5_survey_224 sX5_survey_214 sX5_survey_215 sX5_survey_218
    obtain ⟨C_135, hC_135⟩ : ∃ C : Int, C = x12.toInt := ⟨_, rfl⟩
    have hk_135 : ∀ {h : Hp} {x0 : Nat} {x1 : Int32} {x2 : Int64} {x4 : Int64} {x6 : Int32} {x11 : Int32} {x12 : Int32}, TH ρ c h → ρ x0 = 6 → Rg (0) (63) (x1) → Rg (0) (63) (x6) → Rg (0) (98303) (x11) → Rg (0) (172032) (x12) → C_30 ≤ x6.toInt → (OnMen x0 x4 h) → C_135 < x12.toInt → Sat (sX5_survey_135 F k_30 f h x0 x1 x2 x4 x6 x11 x12) (ZV ρ c) := by
      intro h' x0' x1' x2' x4' x6' x11' x12' T' r_x0' i_x1' i_x6' i_x11' i_x12' hc_30' om' hl
      exact ih T' r_x0' i_x1' i_x6' i_x11' i_x12' hc_30' om' (by have := i_x12'.1; have := i_x12'.2; omega)
    have hc_135 : C_135 ≤ x12.toInt := by omega
    obtain ⟨r_1, e_r_1, q_r_1⟩ := thR T r_x0 (k := 6) (i := 1) (k2 := 11) rfl (by decide)
    refine s_ref e_r_1 ?_
    obtain ⟨r_2, e_r_2, q_r_2⟩ := thR T q_r_1 (k := 11) (i := 0) (k2 := 50) rfl (by decide)
    refine s_ref e_r_2 ?_
    refine s_gd (by rw [thN T q_r_2 (k := 50) (n := 98305) rfl (by decide)]; exact rg_inB (rg_add i_x11 (rg_b rfl : Rg (1) (1) ((1 : Int32))) (by decide) : Rg (1) (98304) ((x11 + (1 : Int32)))) (by decide)) ?_
    refine s_br (fun c_1 => ?_) (fun c_1 => ?_)
    · have _ := c_1
      refine s_q (fun v_1q1 e_2 => ?_)
      have i_v_1q1 : Rg (1) (64) (v_1q1) := by rw [e_2]; exact (rg_add i_x6 (rg_b rfl : Rg (1) (1) ((1 : Int32))) (by decide) : Rg (1) (64) (x6 + (1 : Int32)))
      have m_3 : (v_1q1).toInt = x6.toInt + 1 := by rw [e_2]; exact rg_inc i_x6 (by decide)
      exact hk_30 T r_x0 i_x1 (rg_m i_v_1q1 (by decide)) om (by have := hc_30; omega)
    · have _ := c_1
      have i_f_4 : Rg (0) (172031) (x12) := rg_lt1 (nle_lt c_1) i_x12 (thI T q_r_2 (k := 50) rfl : Rg (0) (172032) ((hI h r_2 (x11 + (1 : Int32)).toNatClampNeg)))
      have i_f_5 : Rg (1) (172032) ((hI h r_2 (x11 + (1 : Int32)).toNatClampNeg)) := rg_lt2 (nle_lt c_1) i_x12 (thI T q_r_2 (k := 50) rfl : Rg (0) (172032) ((hI h r_2 (x11 + (1 : Int32)).toNatClampNeg)))
      refine s_ref e_r_1 ?_
      obtain ⟨r_6, e_r_6, q_r_6⟩ := thR T q_r_1 (k := 11) (i := 1) (k2 := 51) rfl (by decide)
      refine s_ref e_r_6 ?_
      refine s_gd (by rw [thN T q_r_6 (k := 51) (n := 172032) rfl (by decide)]; exact rg_inB i_f_4 (by decide)) ?_
      refine s_br (fun c_6 => ?_) (fun c_6 => ?_)
      · have _ := c_6
        have i_f_7 : Rg (0) (0) ((((hI h r_6 x12.toNatClampNeg) >>> ((6 : Int32) &&& 31)) &&& (1 : Int32))) := rg_eq c_6 (rg_b rfl : Rg (0) (0) (0 : Int32))
        refine s_ref e_r_1 ?_
        obtain ⟨r_10, e_r_10, q_r_10⟩ := thR T q_r_1 (k := 11) (i := 2) (k2 := 52) rfl (by decide)
        refine s_ref e_r_10 ?_
        refine s_gd (by rw [thN T q_r_10 (k := 52) (n := 172032) rfl (by decide)]; exact rg_inB i_f_4 (by decide)) ?_
        refine s_hq (th_wJ T r_x0 (k := 6) (by decide) (pm_a hA rfl)) (fun h_12 T_8 w_9 => ?_)
        refine s_br (fun c_10 => ?_) (fun c_10 => ?_)
        · have _ := c_10
          have i_f_11 : Rg (0) (0) ((hI h_12 x0 9)) := rg_eq c_10 (rg_b rfl : Rg (0) (0) (0 : Int32))
          refine s_gd (rg_bool (rg_m (rg_b rfl : Rg (0) (0) ((0 : Int32))) (by decide))) ?_
          refine s_hq (th_wI T_8 r_x0 (k := 6) (lo := (0)) (hi := (1)) rfl ((rg_m (rg_b rfl : Rg (0) (0) ((0 : Int32))) (by decide)) : Rg (0) (1) ((0 : Int32))) (by decide) (by decide) (pm_a hA rfl)) (fun h_2q3 T_12 w_13 => ?_)
          refine s_q (fun v_1q4 e_14 => ?_)
          have i_v_1q4 : Rg (1) (172032) (v_1q4) := by rw [e_14]; exact (rg_add i_f_4 (rg_b rfl : Rg (1) (1) ((1 : Int32))) (by decide) : Rg (1) (172032) (x12 + (1 : Int32)))
          have m_15 : (v_1q4).toInt = x12.toInt + 1 := by rw [e_14]; exact rg_inc i_f_4 (by decide)
          exact hk_135 T_12 r_x0 i_x1 i_x6 i_x11 (rg_m i_v_1q4 (by decide)) hc_30 (om_w T_8 r_x0 w_13 (fun q => absurd (r_x0.symm.trans q) (by decide)) (om_j w_9 om)) (by have := hc_135; omega)
        · have _ := c_10
          have i_f_16 : Rg (1) (1) ((hI h_12 x0 9)) := rg_nlo c_10 (thI T_8 r_x0 (k := 6) (i := 9) rfl : Rg (0) (1) ((hI h_12 x0 9))) (rg_b rfl : Rg (0) (0) (0 : Int32))
          refine s_ref (hr_j w_9 e_r_1) ?_
          refine s_cI0 (zX10_isOpen hF T_8 q_r_1 i_f_4) (fun o_15 e_o_15 i_o_15 => ?_)
          have T_17 := th_eq e_o_15 T_8
          refine s_br (fun c_18 => ?_) (fun c_18 => ?_)
          · have _ := c_18
            have i_f_19 : Rg (0) (0) (o_15.1) := rg_eq c_18 (rg_b rfl : Rg (0) (0) (0 : Int32))
            refine s_gd (rg_bool (rg_m (rg_b rfl : Rg (1) (1) ((1 : Int32))) (by decide))) ?_
            refine s_hq (th_wI T_17 r_x0 (k := 6) (lo := (0)) (hi := (1)) rfl ((rg_m (rg_b rfl : Rg (1) (1) ((1 : Int32))) (by decide)) : Rg (0) (1) ((1 : Int32))) (by decide) (by decide) (pm_a hA rfl)) (fun h_2q5 T_20 w_21 => ?_)
            refine s_q (fun v_1q6 e_22 => ?_)
            have i_v_1q6 : Rg (1) (172032) (v_1q6) := by rw [e_22]; exact (rg_add i_f_4 (rg_b rfl : Rg (1) (1) ((1 : Int32))) (by decide) : Rg (1) (172032) (x12 + (1 : Int32)))
            have m_23 : (v_1q6).toInt = x12.toInt + 1 := by rw [e_22]; exact rg_inc i_f_4 (by decide)
            exact hk_135 T_20 r_x0 i_x1 i_x6 i_x11 (rg_m i_v_1q6 (by decide)) hc_30 (om_w T_17 r_x0 w_21 (fun q => absurd (r_x0.symm.trans q) (by decide)) (om_e e_o_15 (om_j w_9 om))) (by have := hc_135; omega)
          · have _ := c_18
            have i_f_24 : Rg (1) (1) (o_15.1) := rg_nlo c_18 i_o_15 (rg_b rfl : Rg (0) (0) (0 : Int32))
            refine s_gd (rg_bool (rg_m (rg_b rfl : Rg (0) (0) ((0 : Int32))) (by decide))) ?_
            refine s_hq (th_wI T_17 r_x0 (k := 6) (lo := (0)) (hi := (1)) rfl ((rg_m (rg_b rfl : Rg (0) (0) ((0 : Int32))) (by decide)) : Rg (0) (1) ((0 : Int32))) (by decide) (by decide) (pm_a hA rfl)) (fun h_2q8 T_25 w_26 => ?_)
            refine s_q (fun v_1q9 e_27 => ?_)
            have i_v_1q9 : Rg (1) (172032) (v_1q9) := by rw [e_27]; exact (rg_add i_f_4 (rg_b rfl : Rg (1) (1) ((1 : Int32))) (by decide) : Rg (1) (172032) (x12 + (1 : Int32)))
            have m_28 : (v_1q9).toInt = x12.toInt + 1 := by rw [e_27]; exact rg_inc i_f_4 (by decide)
            exact hk_135 T_25 r_x0 i_x1 i_x6 i_x11 (rg_m i_v_1q9 (by decide)) hc_30 (om_w T_17 r_x0 w_26 (fun q => absurd (r_x0.symm.trans q) (by decide)) (om_e e_o_15 (om_j w_9 om))) (by have := hc_135; omega)
      · have _ := c_6
        have i_f_29 : Rg (1) (1) ((((hI h r_6 x12.toNatClampNeg) >>> ((6 : Int32) &&& 31)) &&& (1 : Int32))) := rg_nlo c_6 (rg_and (rg_b rfl : Rg (1) (1) ((1 : Int32))) (by decide) : Rg (0) (1) ((((hI h r_6 x12.toNatClampNeg) >>> ((6 : Int32) &&& 31)) &&& (1 : Int32)))) (rg_b rfl : Rg (0) (0) (0 : Int32))
        refine s_q (fun v_1q10 e_30 => ?_)
        have i_v_1q10 : Rg (1) (172032) (v_1q10) := by rw [e_30]; exact (rg_add i_f_4 (rg_b rfl : Rg (1) (1) ((1 : Int32))) (by decide) : Rg (1) (172032) (x12 + (1 : Int32)))
        have m_31 : (v_1q10).toInt = x12.toInt + 1 := by rw [e_30]; exact rg_inc i_f_4 (by decide)
        exact hk_135 T r_x0 i_x1 i_x6 i_x11 (rg_m i_v_1q10 (by decide)) hc_30 om (by have := hc_135; omega)
set_option maxRecDepth 20000 in
theorem zX5_survey_30 {ρ : Nat → Nat} {c : Cm} {F : Nat} (hF : 700000 ≤ F) (m3 : c.2.1 3 = true) (hA : pmA c [(6, 8), (6, 9)]) : ∀ (f : Nat) {h : Hp} {x0 : Nat} {x1 : Int32} {x2 : Int64} {x4 : Int64} {x6 : Int32}, TH ρ c h → ρ x0 = 6 → Rg (0) (63) (x1) → Rg (0) (64) (x6) → (OnMen x0 x4 h) → (64 - x6.toInt).toNat < f → Sat (sX5_survey_30 F f h x0 x1 x2 x4 x6) (ZV ρ c) := by
  intro f
  induction f with
  | zero => intros; omega
  | succ f ih =>
    intro h x0 x1 x2 x4 x6 T r_x0 i_x1 i_x6 om hm
    rw [sX5_survey_30]
    unfold sX5_survey_230 sX5_survey_224 sX10_cell
    obtain ⟨C_30, hC_30⟩ : ∃ C : Int, C = x6.toInt := ⟨_, rfl⟩
    have hk_30 : ∀ {h : Hp} {x0 : Nat} {x1 : Int32} {x2 : Int64} {x4 : Int64} {x6 : Int32}, TH ρ c h → ρ x0 = 6 → Rg (0) (63) (x1) → Rg (0) (64) (x6) → (OnMen x0 x4 h) → C_30 < x6.toInt → Sat (sX5_survey_30 F f h x0 x1 x2 x4 x6) (ZV ρ c) := by
      intro h' x0' x1' x2' x4' x6' T' r_x0' i_x1' i_x6' om' hl
      exact ih T' r_x0' i_x1' i_x6' om' (by have := i_x6'.1; have := i_x6'.2; omega)
    have hc_30 : C_30 ≤ x6.toInt := by omega
    refine s_br (fun c_1 => ?_) (fun c_1 => ?_)
    · have _ := c_1
      have i_f_2 : Rg (64) (64) (x6) := rg_le2 c_1 (rg_b rfl : Rg (64) (64) ((64 : Int32))) i_x6
      exact s_some (T)
    · have _ := c_1
      have i_f_3 : Rg (0) (63) (x6) := rg_lt1 (nle_lt c_1) i_x6 (rg_b rfl : Rg (64) (64) ((64 : Int32)))
      refine s_br (fun c_4 => ?_) (fun c_4 => ?_)
      · have _ := c_4
        exact s_some (T)
      · have _ := c_4
        refine s_q (fun v_3 e_5 => ?_)
        refine s_q (fun v_4 e_6 => ?_)
        refine s_gd (rg_inB (rg_58 _ : Rg (0) (63) (((((v_3 * (285870213051386505 : Int64)).toUInt64 >>> ((58 : Int32).toInt64.toUInt64 &&& Int64.toUInt64 63)).toInt64).toInt32))) (by decide)) ?_
        refine s_q (fun v_6 e_7 => ?_)
        have i_v_6 : Rg (0) (63) (v_6) := by rw [e_7]; exact (rg_sq _ : Rg (0) (63) (sqT.getD ((((v_3 * (285870213051386505 : Int64)).toUInt64 >>> ((58 : Int32).toInt64.toUInt64 &&& Int64.toUInt64 63)).toInt64).toInt32).toNatClampNeg 0))
        obtain ⟨r_7, e_r_7, q_r_7⟩ := thM T r_x0 (k := 6) (i := 4) (j := 3) (k2 := 4) rfl (by decide) rfl (by decide) m3
        refine s_ref e_r_7 ?_
        obtain ⟨r_8, e_r_8, q_r_8⟩ := thR T q_r_7 (k := 4) (i := 0) (k2 := 34) rfl (by decide)
        refine s_ref e_r_8 ?_
        refine s_gd (by rw [thN T q_r_8 (k := 34) (n := 64) rfl (by decide)]; exact rg_inB i_v_6 (by decide)) ?_
        refine s_q (fun v_10 e_8 => ?_)
        have i_v_10 : Rg (-1) (23) (v_10) := by rw [e_8]; exact (thI T q_r_8 (k := 34) rfl : Rg (-1) (23) (hI h r_8 v_6.toNatClampNeg))
        have hv_9 : Rg 0 23 v_10 := ⟨by rw [e_8]; exact om _ _ _ e_r_7 e_r_8 (show v_6.toNatClampNeg < 64 by have := rg_clamp (n := 63) i_v_6 (by decide); omega) (by rw [e_7, e_5]; exact sq_bit (cmp0 c_4)), i_v_10.2⟩
        obtain ⟨r_11, e_r_11, q_r_11⟩ := thR T r_x0 (k := 6) (i := 1) (k2 := 11) rfl (by decide)
        refine s_ref e_r_11 ?_
        obtain ⟨r_12, e_r_12, q_r_12⟩ := thR T q_r_11 (k := 11) (i := 4) (k2 := 54) rfl (by decide)
        refine s_ref e_r_12 ?_
        refine s_gd (by rw [thN T q_r_12 (k := 54) (n := 1536) rfl (by decide)]; exact rg_inB (rg_add (rg_mulc hv_9 (rg_b rfl : Rg (64) (64) ((64 : Int32))) (by decide) : Rg (0) (1472) ((v_10 * (64 : Int32)))) i_x1 (by decide) : Rg (0) (1535) (((v_10 * (64 : Int32)) + x1))) (by decide)) ?_
        refine s_br (fun c_10 => ?_) (fun c_10 => ?_)
        · have _ := c_10
          refine s_q (fun v_1q3 e_11 => ?_)
          have i_v_1q3 : Rg (1) (64) (v_1q3) := by rw [e_11]; exact (rg_add i_f_3 (rg_b rfl : Rg (1) (1) ((1 : Int32))) (by decide) : Rg (1) (64) (x6 + (1 : Int32)))
          have om_12 : OnMen x0 v_4 h := by rw [e_6, e_5]; exact om_rest (cmp0 c_4) om
          have m_13 : (v_1q3).toInt = x6.toInt + 1 := by rw [e_11]; exact rg_inc i_f_3 (by decide)
          exact hk_30 T r_x0 i_x1 (rg_m i_v_1q3 (by decide)) om_12 (by have := hc_30; omega)
        · have _ := c_10
          refine s_pu (fun o_15z e_14 => ?_)
          try dsimp only
          have i_o_15z : Rg (0) (98303) (o_15z) := by rw [e_14]; exact (rg_add (rg_mulc (rg_add (rg_mulc hv_9 (rg_b rfl : Rg (64) (64) ((64 : Int32))) (by decide) : Rg (0) (1472) ((v_10 * (64 : Int32)))) i_v_6 (by decide) : Rg (0) (1535) (((v_10 * (64 : Int32)) + v_6))) (rg_b rfl : Rg (64) (64) ((64 : Int32))) (by decide) : Rg (0) (98240) ((((v_10 * (64 : Int32)) + v_6) * (64 : Int32)))) i_x1 (by decide) : Rg (0) (98303) ((((v_10 * (64 : Int32)) + v_6) * (64 : Int32)) + x1))
          refine s_ref e_r_11 ?_
          obtain ⟨r_17, e_r_17, q_r_17⟩ := thR T q_r_11 (k := 11) (i := 0) (k2 := 50) rfl (by decide)
          refine s_ref e_r_17 ?_
          refine s_gd (by rw [thN T q_r_17 (k := 50) (n := 98305) rfl (by decide)]; exact rg_inB i_o_15z (by decide)) ?_
          refine s_q (fun v_19 e_15 => ?_)
          have i_v_19 : Rg (0) (172032) (v_19) := by rw [e_15]; exact (thI T q_r_17 (k := 50) rfl : Rg (0) (172032) (hI h r_17 o_15z.toNatClampNeg))
          have om_16 : OnMen x0 v_4 h := by rw [e_6, e_5]; exact om_rest (cmp0 c_4) om
          have m_17 : Rg (0) (172032) (v_19) := i_v_19
          exact zX5_survey_135 hF @hk_30 (pmA_s hA rfl) F T r_x0 i_x1 i_f_3 i_o_15z i_v_19 hc_30 om_16 (by have := m_17.1; have := m_17.2; omega)
set_option maxRecDepth 20000 in
theorem zX5_survey {ρ : Nat → Nat} {c : Cm} {F : Nat} (hF : 700000 ≤ F) (m3 : c.2.1 3 = true) (hA : pmA c [(6, 8), (6, 9)]) {h : Hp} {x0 : Nat} {x1 : Int32} (T : TH ρ c h) (r_x0 : ρ x0 = 6) (i_x1 : Rg (0) (63) (x1)) : Sat (sX5_survey F h x0 x1) (ZV ρ c) := by
  unfold sX5_survey 
  obtain ⟨r_1, e_r_1, q_r_1⟩ := thM T r_x0 (k := 6) (i := 4) (j := 3) (k2 := 4) rfl (by decide) rfl (by decide) m3
  refine s_ref e_r_1 ?_
  refine s_cJ0 (zX3_occupied hF T q_r_1) (fun o_2 e_o_2 => ?_)
  have T_1 := th_eq e_o_2 T
  refine s_ref (hr_e e_o_2 e_r_1) ?_
  obtain ⟨r_4, e_r_4, q_r_4⟩ := thR T_1 q_r_1 (k := 4) (i := 1) (k2 := 35) rfl (by decide)
  refine s_ref e_r_4 ?_
  refine s_ref (hr_e e_o_2 e_r_1) ?_
  refine s_gd (by rw [thN T_1 q_r_4 (k := 35) (n := 2) rfl (by decide)]; exact rg_inB (rg_sub (rg_b rfl : Rg (1) (1) ((1 : Int32))) (thI T_1 q_r_1 (k := 4) (i := 5) rfl : Rg (0) (1) ((hI o_2.2 r_1 5))) (by decide) : Rg (0) (1) (((1 : Int32) - (hI o_2.2 r_1 5)))) (by decide)) ?_
  refine s_q (fun v_7 e_2 => ?_)
  have om_3 : OnMen x0 v_7 o_2.2 := by rw [e_2]; exact om_start T_1 r_x0 (hr_e e_o_2 e_r_1) e_r_4 (show ((1 : Int32) - (hI o_2.2 r_1 5)).toNatClampNeg < 2 by have := rg_clamp (n := 1) ((rg_sub (rg_b rfl : Rg (1) (1) ((1 : Int32))) (thI T_1 q_r_1 (k := 4) (i := 5) rfl : Rg (0) (1) ((hI o_2.2 r_1 5))) (by decide) : Rg (0) (1) (((1 : Int32) - (hI o_2.2 r_1 5)))) : Rg 0 1 ((1 : Int32) - (hI o_2.2 r_1 5))) (by decide); omega)
  have m_4 : Rg (0) (64) ((0 : Int32)) := (rg_m (rg_b rfl : Rg (0) (0) ((0 : Int32))) (by decide))
  exact zX5_survey_30 hF m3 (pmA_s hA rfl) F T_1 r_x0 i_x1 (rg_m (rg_b rfl : Rg (0) (0) ((0 : Int32))) (by decide)) om_3 (by have := m_4.1; have := m_4.2; omega)
set_option maxRecDepth 20000 in
theorem zX5_begin_54 {ρ : Nat → Nat} {c : Cm} {F : Nat} (hF : 700000 ≤ F) (m3 : c.2.1 3 = true) (hA : pmA c [(6, 8), (6, 9)]) {h : Hp} {x0 : Nat} {t0 : Int32} {t1 : Nat} (T : TH ρ c h) (r_x0 : ρ x0 = 6) (i_t0 : Rg (0) (1) (t0)) (r_t1 : ρ t1 = 6) : Sat (sX5_begin_54 F h x0 t0 t1) (ZV ρ c) := by
  unfold sX5_begin_54 sX5_begin_102
  refine s_gd (rg_bool i_t0) ?_
  refine s_hq (th_wI T r_t1 (k := 6) (lo := (0)) (hi := (1)) rfl (i_t0 : Rg (0) (1) (t0)) (by decide) (by decide) (pm_a hA rfl)) (fun h_2 T_1 w_2 => ?_)
  refine s_br (fun c_3 => ?_) (fun c_3 => ?_)
  · have _ := c_3
    have i_f_4 : Rg (0) (0) ((hI h_2 x0 9)) := rg_eq c_3 (rg_b rfl : Rg (0) (0) (0 : Int32))
    exact s_some (T_1)
  · have _ := c_3
    have i_f_5 : Rg (1) (1) ((hI h_2 x0 9)) := rg_nlo c_3 (thI T_1 r_x0 (k := 6) (i := 9) rfl : Rg (0) (1) ((hI h_2 x0 9))) (rg_b rfl : Rg (0) (0) (0 : Int32))
    obtain ⟨r_4, e_r_4, q_r_4⟩ := thM T_1 r_x0 (k := 6) (i := 4) (j := 3) (k2 := 4) rfl (by decide) rfl (by decide) m3
    refine s_ref e_r_4 ?_
    obtain ⟨r_5, e_r_5, q_r_5⟩ := thR T_1 q_r_4 (k := 4) (i := 2) (k2 := 36) rfl (by decide)
    refine s_ref e_r_5 ?_
    refine s_ref e_r_4 ?_
    refine s_gd (by rw [thN T_1 q_r_5 (k := 36) (n := 2) rfl (by decide)]; exact rg_inB (thI T_1 q_r_4 (k := 4) (i := 5) rfl : Rg (0) (1) ((hI h_2 r_4 5))) (by decide)) ?_
    refine s_br (fun c_6 => ?_) (fun c_6 => ?_)
    · have _ := c_6
      have i_f_7 : Rg (-1) (-1) ((hI h_2 r_5 (hI h_2 r_4 5).toNatClampNeg)) := rg_eq c_6 (rg_b rfl : Rg (-1) (-1) ((- 1 : Int32)))
      exact s_some (T_1)
    · have _ := c_6
      have i_f_8 : Rg (0) (63) ((hI h_2 r_5 (hI h_2 r_4 5).toNatClampNeg)) := rg_nlo c_6 (thI T_1 q_r_5 (k := 36) rfl : Rg (-1) (63) ((hI h_2 r_5 (hI h_2 r_4 5).toNatClampNeg))) (rg_b rfl : Rg (-1) (-1) ((- 1 : Int32)))
      refine s_ref e_r_4 ?_
      refine s_ref e_r_5 ?_
      refine s_ref e_r_4 ?_
      refine s_gd (by rw [thN T_1 q_r_5 (k := 36) (n := 2) rfl (by decide)]; exact rg_inB (thI T_1 q_r_4 (k := 4) (i := 5) rfl : Rg (0) (1) ((hI h_2 r_4 5))) (by decide)) ?_
      refine s_cV (zX5_survey hF m3 (pmA_s hA rfl) T_1 r_x0 i_f_8) (fun o_13 T_9 => ?_)
      exact s_some (T_9)
set_option maxRecDepth 20000 in
theorem zX5_begin {ρ : Nat → Nat} {c : Cm} {F : Nat} {w_x1 w_x2 : Nat} (hF : 700000 ≤ F) (hA : pmA c [(6, 4), (6, 5), (6, 6), (6, 7), (6, 8), (6, 9)]) {h : Hp} {x0 : Nat} {x1 : Nat} {x2 : Nat} (o_x1 : cw c x1 = w_x1) (o_x2 : cw c x2 = w_x2) (T : TH ρ c h) (r_x0 : ρ x0 = 6) (r_x1 : ρ x1 = 4) (r_x2 : ρ x2 = 47) : Sat (sX5_begin F h x0 x1 x2) (ZV ρ c) := by
  unfold sX5_begin sX5_begin_49
  refine s_hq (th_wR T r_x0 (k := 6) (i := 4) (j := 3) (k2 := 4) rfl (by decide) rfl r_x1 rfl nid_3 (by decide) (by decide) rfl rfl rfl (pm_a hA rfl)) (fun h_1 T_1 w_2 => ?_)
  refine s_hq (th_wR T_1 r_x0 (k := 6) (i := 5) (j := 4) (k2 := 47) rfl (by decide) rfl r_x2 rfl nid_4 (by decide) (by decide) rfl rfl rfl (pm_a hA rfl)) (fun h_2 T_3 w_4 => ?_)
  refine s_hq (th_wI T_3 r_x0 (k := 6) (lo := (0)) (hi := (4096)) rfl ((rg_m (rg_b rfl : Rg (0) (0) ((0 : Int32))) (by decide)) : Rg (0) (4096) ((0 : Int32))) (by decide) (by decide) (pm_a hA rfl)) (fun h_3 T_5 w_6 => ?_)
  refine s_hq (th_wI T_5 r_x0 (k := 6) (lo := (0)) (hi := (1)) rfl ((rg_m (rg_b rfl : Rg (0) (0) ((0 : Int32))) (by decide)) : Rg (0) (1) ((0 : Int32))) (by decide) (by decide) (pm_a hA rfl)) (fun h_4 T_7 w_8 => ?_)
  refine s_hq (th_wJ T_7 r_x0 (k := 6) (by decide) (pm_a hA rfl)) (fun h_5 T_9 w_10 => ?_)
  obtain ⟨r_6, e_r_6, q_r_6⟩ := thR T_9 r_x0 (k := 6) (i := 0) (k2 := 2) rfl (by decide)
  refine s_ref e_r_6 ?_
  refine s_br (fun c_11 => ?_) (fun c_11 => ?_)
  · have _ := c_11
    have i_f_12 : Rg (-1) (-1) ((hI h_5 r_6 4)) := rg_eq c_11 (rg_b rfl : Rg (-1) (-1) ((- 1 : Int32)))
    exact s_imp (zX5_begin_54 hF (nst_o nst_s) (pmA_s hA rfl) T_9 r_x0 (rg_m (rg_b rfl : Rg (1) (1) ((1 : Int32))) (by decide)) r_x0) (fun o ho => th_un (th_un (ho)))
  · have _ := c_11
    have i_f_13 : Rg (0) (11) ((hI h_5 r_6 4)) := rg_nlo c_11 (thI T_9 q_r_6 (k := 2) (i := 4) rfl : Rg (-1) (11) ((hI h_5 r_6 4))) (rg_b rfl : Rg (-1) (-1) ((- 1 : Int32)))
    refine s_ref e_r_6 ?_
    refine s_cI0 (zX1_has hF T_9 q_r_6 (rg_m (rg_b rfl : Rg (12) (12) ((12 : Int32))) (by decide))) (fun o_9 e_o_9 i_o_9 => ?_)
    have T_14 := th_eq e_o_9 T_9
    refine s_br (fun c_15 => ?_) (fun c_15 => ?_)
    · have _ := c_15
      have i_f_16 : Rg (0) (0) (o_9.1) := rg_eq c_15 (rg_b rfl : Rg (0) (0) (0 : Int32))
      exact s_imp (zX5_begin_54 hF (nst_o nst_s) (pmA_s hA rfl) T_14 r_x0 (rg_m (rg_b rfl : Rg (1) (1) ((1 : Int32))) (by decide)) r_x0) (fun o ho => th_un (th_un (ho)))
    · have _ := c_15
      have i_f_17 : Rg (1) (1) (o_9.1) := rg_nlo c_15 i_o_9 (rg_b rfl : Rg (0) (0) (0 : Int32))
      exact s_imp (zX5_begin_54 hF (nst_o nst_s) (pmA_s hA rfl) T_14 r_x0 (rg_m (rg_b rfl : Rg (0) (0) ((0 : Int32))) (by decide)) r_x0) (fun o ho => th_un (th_un (ho)))
set_option maxRecDepth 20000 in
theorem zX5_blast_58 {ρ : Nat → Nat} {c : Cm} {F : Nat} {w_x1 : Nat} (hF : 700000 ≤ F) (hO_x1 : pmO c w_x1 [(34, 999), (35, 999), (36, 999), (4, 7)]) : ∀ (f : Nat) {h : Hp} {x0 : Nat} {x1 : Nat} {x4 : Int64} {x6 : Int32}, cw c x1 = w_x1 → TH ρ c h → ρ x0 = 6 → ρ x1 = 4 → Rg (0) (64) (x6) → (64 - x6.toInt).toNat < f → Sat (sX5_blast_58 F f h x0 x1 x4 x6) (ZV ρ c) := by
  intro f
  induction f with
  | zero => intros; omega
  | succ f ih =>
    intro h x0 x1 x4 x6 o_x1 T r_x0 r_x1 i_x6 hm
    rw [sX5_blast_58]
    unfold sX5_blast_130 sX5_blast_124
    obtain ⟨C_58, hC_58⟩ : ∃ C : Int, C = x6.toInt := ⟨_, rfl⟩
    have hk_58 : ∀ {h : Hp} {x0 : Nat} {x1 : Nat} {x4 : Int64} {x6 : Int32}, cw c x1 = w_x1 → TH ρ c h → ρ x0 = 6 → ρ x1 = 4 → Rg (0) (64) (x6) → C_58 < x6.toInt → Sat (sX5_blast_58 F f h x0 x1 x4 x6) (ZV ρ c) := by
      intro h' x0' x1' x4' x6' o_x1' T' r_x0' r_x1' i_x6' hl
      exact ih o_x1' T' r_x0' r_x1' i_x6' (by have := i_x6'.1; have := i_x6'.2; omega)
    have hc_58 : C_58 ≤ x6.toInt := by omega
    refine s_br (fun c_1 => ?_) (fun c_1 => ?_)
    · have _ := c_1
      have i_f_2 : Rg (64) (64) (x6) := rg_le2 c_1 (rg_b rfl : Rg (64) (64) ((64 : Int32))) i_x6
      exact s_some (T)
    · have _ := c_1
      have i_f_3 : Rg (0) (63) (x6) := rg_lt1 (nle_lt c_1) i_x6 (rg_b rfl : Rg (64) (64) ((64 : Int32)))
      refine s_br (fun c_4 => ?_) (fun c_4 => ?_)
      · have _ := c_4
        exact s_some (T)
      · have _ := c_4
        refine s_cI0 (zX11_lowest hF T) (fun o_3 e_o_3 i_o_3 => ?_)
        have T_5 := th_eq e_o_3 T
        refine s_q (fun v_4 e_6 => ?_)
        obtain ⟨r_5, e_r_5, q_r_5⟩ := thR T_5 r_x0 (k := 6) (i := 0) (k2 := 2) rfl (by decide)
        refine s_ref e_r_5 ?_
        obtain ⟨r_6, e_r_6, q_r_6⟩ := thR T_5 r_x1 (k := 4) (i := 0) (k2 := 34) rfl (by decide)
        refine s_ref e_r_6 ?_
        refine s_gd (by rw [thN T_5 q_r_6 (k := 34) (n := 64) rfl (by decide)]; exact rg_inB i_o_3 (by decide)) ?_
        refine s_br (fun c_7 => ?_) (fun c_7 => ?_)
        · have _ := c_7
          have i_f_8 : Rg (0) (0) ((((hI o_3.2 r_5 11) >>> (((hI o_3.2 r_6 o_3.1.toNatClampNeg) >>> ((1 : Int32) &&& 31)) &&& 31)) &&& (1 : Int32))) := rg_eq c_7 (rg_b rfl : Rg (0) (0) (0 : Int32))
          refine s_ref e_r_5 ?_
          refine s_cV (zX3_put hF (pmO_e o_x1 hO_x1 rfl) T_5 r_x1 (rg_m i_o_3 (by decide)) (rg_m (rg_b rfl : Rg (-1) (-1) ((- 1 : Int32))) (by decide)) (rg_m (thI T_5 q_r_5 (k := 2) (i := 4) rfl : Rg (-1) (11) ((hI o_3.2 r_5 4))) (by decide))) (fun o_10 T_9 => ?_)
          refine s_q (fun v_1q3 e_10 => ?_)
          have i_v_1q3 : Rg (1) (64) (v_1q3) := by rw [e_10]; exact (rg_add i_f_3 (rg_b rfl : Rg (1) (1) ((1 : Int32))) (by decide) : Rg (1) (64) (x6 + (1 : Int32)))
          have m_11 : (v_1q3).toInt = x6.toInt + 1 := by rw [e_10]; exact rg_inc i_f_3 (by decide)
          exact hk_58 o_x1 T_9 r_x0 r_x1 (rg_m i_v_1q3 (by decide)) (by have := hc_58; omega)
        · have _ := c_7
          have i_f_12 : Rg (1) (1) ((((hI o_3.2 r_5 11) >>> (((hI o_3.2 r_6 o_3.1.toNatClampNeg) >>> ((1 : Int32) &&& 31)) &&& 31)) &&& (1 : Int32))) := rg_nlo c_7 (rg_and (rg_b rfl : Rg (1) (1) ((1 : Int32))) (by decide) : Rg (0) (1) ((((hI o_3.2 r_5 11) >>> (((hI o_3.2 r_6 o_3.1.toNatClampNeg) >>> ((1 : Int32) &&& 31)) &&& 31)) &&& (1 : Int32)))) (rg_b rfl : Rg (0) (0) (0 : Int32))
          refine s_q (fun v_1q4 e_13 => ?_)
          have i_v_1q4 : Rg (1) (64) (v_1q4) := by rw [e_13]; exact (rg_add i_f_3 (rg_b rfl : Rg (1) (1) ((1 : Int32))) (by decide) : Rg (1) (64) (x6 + (1 : Int32)))
          have m_14 : (v_1q4).toInt = x6.toInt + 1 := by rw [e_13]; exact rg_inc i_f_3 (by decide)
          exact hk_58 o_x1 T_5 r_x0 r_x1 (rg_m i_v_1q4 (by decide)) (by have := hc_58; omega)
set_option maxRecDepth 20000 in
theorem zX5_blast {ρ : Nat → Nat} {c : Cm} {F : Nat} {w_x1 : Nat} (hF : 700000 ≤ F) (hO_x1 : pmO c w_x1 [(34, 999), (35, 999), (36, 999), (4, 7)]) {h : Hp} {x0 : Nat} {x1 : Nat} {x2 : Int32} (o_x1 : cw c x1 = w_x1) (T : TH ρ c h) (r_x0 : ρ x0 = 6) (r_x1 : ρ x1 = 4) (i_x2 : Rg (-2147483648) (2147483647) (x2)) : Sat (sX5_blast F h x0 x1 x2) (ZV ρ c) := by
  unfold sX5_blast sX5_blast_20 sX5_comeTo
  obtain ⟨r_1, e_r_1, q_r_1⟩ := thR T r_x0 (k := 6) (i := 0) (k2 := 2) rfl (by decide)
  refine s_ref e_r_1 ?_
  refine s_cI0 (zX1_has hF T q_r_1 (rg_m (rg_b rfl : Rg (8) (8) ((8 : Int32))) (by decide))) (fun o_2 e_o_2 i_o_2 => ?_)
  have T_1 := th_eq e_o_2 T
  refine s_br (fun c_2 => ?_) (fun c_2 => ?_)
  · have _ := c_2
    have i_f_3 : Rg (0) (0) (o_2.1) := rg_eq c_2 (rg_b rfl : Rg (0) (0) (0 : Int32))
    exact s_some (T_1)
  · have _ := c_2
    have i_f_4 : Rg (1) (1) (o_2.1) := rg_nlo c_2 i_o_2 (rg_b rfl : Rg (0) (0) (0 : Int32))
    refine s_cI0 (zX5_takenBy hF T_1 i_x2) (fun o_4 e_o_4 i_o_4 => ?_)
    have T_5 := th_eq e_o_4 T_1
    refine s_br (fun c_6 => ?_) (fun c_6 => ?_)
    · have _ := c_6
      have i_f_7 : Rg (-1) (-1) (o_4.1) := rg_eq c_6 (rg_b rfl : Rg (-1) (-1) ((- 1 : Int32)))
      exact s_some (T_5)
    · have _ := c_6
      have i_f_8 : Rg (0) (14) (o_4.1) := rg_nlo c_6 i_o_4 (rg_b rfl : Rg (-1) (-1) ((- 1 : Int32)))
      refine s_pu (fun o_6z e_9 => ?_)
      try dsimp only
      have i_o_6z : Rg (0) (63) (o_6z) := by rw [e_9]; exact (rg_and (rg_b rfl : Rg (63) (63) ((63 : Int32))) (by decide) : Rg (0) (63) (x2 &&& (63 : Int32)))
      refine s_ref (hr_e e_o_4 (hr_e e_o_2 e_r_1)) ?_
      refine s_cV (zX3_put hF (pmO_e o_x1 hO_x1 rfl) T_5 r_x1 (rg_m i_o_6z (by decide)) (rg_m (rg_b rfl : Rg (-1) (-1) ((- 1 : Int32))) (by decide)) (rg_m (thI T_5 q_r_1 (k := 2) (i := 4) rfl : Rg (-1) (11) ((hI o_4.2 r_1 4))) (by decide))) (fun o_8 T_10 => ?_)
      obtain ⟨r_9, e_r_9, q_r_9⟩ := thR T_10 r_x0 (k := 6) (i := 1) (k2 := 11) rfl (by decide)
      refine s_ref e_r_9 ?_
      obtain ⟨r_10, e_r_10, q_r_10⟩ := thR T_10 q_r_9 (k := 11) (i := 5) (k2 := 55) rfl (by decide)
      refine s_ref e_r_10 ?_
      refine s_gd (by rw [thN T_10 q_r_10 (k := 55) (n := 64) rfl (by decide)]; exact rg_inB i_o_6z (by decide)) ?_
      refine s_cJ0 (zX3_occupied hF T_10 r_x1) (fun o_12 e_o_12 => ?_)
      have T_11 := th_eq e_o_12 T_10
      refine s_q (fun v_13 e_12 => ?_)
      have m_13 : Rg (0) (64) ((0 : Int32)) := (rg_m (rg_b rfl : Rg (0) (0) ((0 : Int32))) (by decide))
      exact zX5_blast_58 hF (pmO_s hO_x1 rfl) F o_x1 T_11 r_x0 r_x1 (rg_m (rg_b rfl : Rg (0) (0) ((0 : Int32))) (by decide)) (by have := m_13.1; have := m_13.2; omega)
set_option maxRecDepth 20000 in
theorem zX5_isSafe_54 {ρ : Nat → Nat} {c : Cm} {h0 : Hp} {F : Nat} (hF : 700000 ≤ F) (m3 : c.2.1 3 = true) {h : Hp} {x0 : Nat} {x2 : Int32} {x3 : Int64} (E : h = h0) (T : TH ρ c h) (r_x0 : ρ x0 = 6) (i_x2 : Rg (0) (3) (x2)) : Sat (sX5_isSafe_54 h x0 x2 x3) (ZI0 h0 (0) (1)) := by
  unfold sX5_isSafe_54 sX5_isSafe_72 sX5_isSafe_88
  refine s_br (fun c_1 => ?_) (fun c_1 => ?_)
  · have _ := c_1
    have i_f_2 : Rg (1) (1) (x2) := rg_eq c_1 (rg_b rfl : Rg (1) (1) ((1 : Int32)))
    obtain ⟨r_2, e_r_2, q_r_2⟩ := thM T r_x0 (k := 6) (i := 4) (j := 3) (k2 := 4) rfl (by decide) rfl (by decide) m3
    refine s_ref e_r_2 ?_
    refine s_cI0 (zX3_passSquare hF T q_r_2 (rg_m (rg_b rfl : Rg (0) (0) ((0 : Int32))) (by decide))) (fun o_3 e_o_3 i_o_3 => ?_)
    have T_3 := th_eq e_o_3 T
    refine s_q (fun v_4 e_4 => ?_)
    refine s_br (fun c_5 => ?_) (fun c_5 => ?_)
    · have _ := c_5
      refine s_gd (rg_bool (rg_m (rg_b rfl : Rg (1) (1) ((1 : Int32))) (by decide))) ?_
      exact s_some ⟨(e_o_3.trans E), (rg_m (rg_b rfl : Rg (1) (1) ((1 : Int32))) (by decide))⟩
    · have _ := c_5
      refine s_gd (rg_bool (rg_m (rg_b rfl : Rg (0) (0) ((0 : Int32))) (by decide))) ?_
      exact s_some ⟨(e_o_3.trans E), (rg_m (rg_b rfl : Rg (0) (0) ((0 : Int32))) (by decide))⟩
  · have _ := c_1
    refine s_br (fun c_6 => ?_) (fun c_6 => ?_)
    · have _ := c_6
      refine s_gd (rg_bool (rg_m (rg_b rfl : Rg (1) (1) ((1 : Int32))) (by decide))) ?_
      exact s_some ⟨E, (rg_m (rg_b rfl : Rg (1) (1) ((1 : Int32))) (by decide))⟩
    · have _ := c_6
      refine s_gd (rg_bool (rg_m (rg_b rfl : Rg (0) (0) ((0 : Int32))) (by decide))) ?_
      exact s_some ⟨E, (rg_m (rg_b rfl : Rg (0) (0) ((0 : Int32))) (by decide))⟩
set_option maxRecDepth 20000 in
theorem zX5_isSafe {ρ : Nat → Nat} {c : Cm} {F : Nat} (hF : 700000 ≤ F) (m3 : c.2.1 3 = true) {h : Hp} {x0 : Nat} {x1 : Int32} (T : TH ρ c h) (r_x0 : ρ x0 = 6) (i_x1 : Rg (-2147483648) (2147483647) (x1)) : Sat (sX5_isSafe h x0 x1) (ZI0 h (0) (1)) := by
  unfold sX5_isSafe sX5_kindOf sX5_isSafe_31 sX5_manOf sX5_comeTo sX5_leftBy
  refine s_pu (fun o_1z e_1 => ?_)
  try dsimp only
  have i_o_1z : Rg (0) (3) (o_1z) := by rw [e_1]; exact (rg_and (rg_b rfl : Rg (3) (3) ((3 : Int32))) (by decide) : Rg (0) (3) ((x1 >>> ((24 : Int32) &&& 31)) &&& (3 : Int32)))
  refine s_br (fun c_2 => ?_) (fun c_2 => ?_)
  · have _ := c_2
    have i_f_3 : Rg (0) (0) ((hI h x0 9)) := rg_eq c_2 (rg_b rfl : Rg (0) (0) (0 : Int32))
    exact s_some ⟨rfl, (rg_m (rg_b rfl : Rg (0) (0) ((0 : Int32))) (by decide))⟩
  · have _ := c_2
    have i_f_4 : Rg (1) (1) ((hI h x0 9)) := rg_nlo c_2 (thI T r_x0 (k := 6) (i := 9) rfl : Rg (0) (1) ((hI h x0 9))) (rg_b rfl : Rg (0) (0) (0 : Int32))
    refine s_br (fun c_5 => ?_) (fun c_5 => ?_)
    · have _ := c_5
      have i_f_6 : Rg (2) (2) (o_1z) := rg_eq c_5 (rg_b rfl : Rg (2) (2) ((2 : Int32)))
      exact s_some ⟨rfl, (rg_m (rg_b rfl : Rg (0) (0) ((0 : Int32))) (by decide))⟩
    · have _ := c_5
      refine s_pu (fun o_4z e_7 => ?_)
      try dsimp only
      have i_o_4z : Rg (0) (15) (o_4z) := by rw [e_7]; exact (rg_and (rg_b rfl : Rg (15) (15) ((15 : Int32))) (by decide) : Rg (0) (15) ((x1 >>> ((12 : Int32) &&& 31)) &&& (15 : Int32)))
      obtain ⟨r_5, e_r_5, q_r_5⟩ := thR T r_x0 (k := 6) (i := 0) (k2 := 2) rfl (by decide)
      refine s_ref e_r_5 ?_
      refine s_br (fun c_8 => ?_) (fun c_8 => ?_)
      · have _ := c_8
        exact s_some ⟨rfl, (rg_m (rg_b rfl : Rg (0) (0) ((0 : Int32))) (by decide))⟩
      · have _ := c_8
        refine s_pu (fun o_7z e_9 => ?_)
        try dsimp only
        have i_o_7z : Rg (0) (63) (o_7z) := by rw [e_9]; exact (rg_and (rg_b rfl : Rg (63) (63) ((63 : Int32))) (by decide) : Rg (0) (63) (x1 &&& (63 : Int32)))
        refine s_q (fun v_8 e_10 => ?_)
        refine s_br (fun c_11 => ?_) (fun c_11 => ?_)
        · have _ := c_11
          have i_f_12 : Rg (3) (3) (o_1z) := rg_eq c_11 (rg_b rfl : Rg (3) (3) ((3 : Int32)))
          exact zX5_isSafe_54 hF m3 rfl T r_x0 (rg_m i_f_12 (by decide))
        · have _ := c_11
          have i_f_13 : Rg (0) (2) (o_1z) := rg_nhi c_11 i_o_1z (rg_b rfl : Rg (3) (3) ((3 : Int32)))
          refine s_pu (fun o_10z e_14 => ?_)
          try dsimp only
          have i_o_10z : Rg (0) (63) (o_10z) := by rw [e_14]; exact (rg_and (rg_b rfl : Rg (63) (63) ((63 : Int32))) (by decide) : Rg (0) (63) ((x1 >>> ((6 : Int32) &&& 31)) &&& (63 : Int32)))
          refine s_q (fun v_11 e_15 => ?_)
          exact zX5_isSafe_54 hF m3 rfl T r_x0 (rg_m i_f_13 (by decide))
set_option maxRecDepth 20000 in
theorem zX5_mayStand_97 {ρ : Nat → Nat} {c : Cm} {h0 : Hp} {F : Nat} (hF : 700000 ≤ F) {h : Hp} {x0 : Nat} {x1 : Int32} {x4 : Int32} (E : h = h0) (T : TH ρ c h) (r_x0 : ρ x0 = 6) (i_x1 : Rg (0) (1) (x1)) (i_x4 : Rg (-1) (63) (x4)) : Sat (sX5_mayStand_97 F h x0 x1 x4) (ZI0 h0 (0) (1)) := by
  unfold sX5_mayStand_97 sX5_mayStand_128 sX5_mayStand_133
  obtain ⟨r_1, e_r_1, q_r_1⟩ := thR T r_x0 (k := 6) (i := 0) (k2 := 2) rfl (by decide)
  refine s_ref e_r_1 ?_
  refine s_cI0 (zX1_has hF T q_r_1 (rg_m (rg_b rfl : Rg (4) (4) ((4 : Int32))) (by decide))) (fun o_2 e_o_2 i_o_2 => ?_)
  have T_1 := th_eq e_o_2 T
  refine s_br (fun c_2 => ?_) (fun c_2 => ?_)
  · have _ := c_2
    have i_f_3 : Rg (0) (0) (o_2.1) := rg_eq c_2 (rg_b rfl : Rg (0) (0) (0 : Int32))
    refine s_gd (rg_bool (rg_m (rg_b rfl : Rg (1) (1) ((1 : Int32))) (by decide))) ?_
    exact s_some ⟨(e_o_2.trans E), (rg_m (rg_b rfl : Rg (1) (1) ((1 : Int32))) (by decide))⟩
  · have _ := c_2
    have i_f_4 : Rg (1) (1) (o_2.1) := rg_nlo c_2 i_o_2 (rg_b rfl : Rg (0) (0) (0 : Int32))
    refine s_br (fun c_5 => ?_) (fun c_5 => ?_)
    · have _ := c_5
      have i_f_6 : Rg (-1) (-1) (x4) := rg_eq c_5 (rg_b rfl : Rg (-1) (-1) ((- 1 : Int32)))
      refine s_gd (rg_bool (rg_m (rg_b rfl : Rg (1) (1) ((1 : Int32))) (by decide))) ?_
      exact s_some ⟨(e_o_2.trans E), (rg_m (rg_b rfl : Rg (1) (1) ((1 : Int32))) (by decide))⟩
    · have _ := c_5
      have i_f_7 : Rg (0) (63) (x4) := rg_nlo c_5 i_x4 (rg_b rfl : Rg (-1) (-1) ((- 1 : Int32)))
      obtain ⟨r_5, e_r_5, q_r_5⟩ := thR T_1 r_x0 (k := 6) (i := 3) (k2 := 4) rfl (by decide)
      refine s_ref e_r_5 ?_
      refine s_cI0 (zX5_isHit hF T_1 r_x0 q_r_5 i_f_7 i_x1) (fun o_6 e_o_6 i_o_6 => ?_)
      have T_8 := th_eq e_o_6 T_1
      refine s_br (fun c_9 => ?_) (fun c_9 => ?_)
      · have _ := c_9
        have i_f_10 : Rg (0) (0) (o_6.1) := rg_eq c_9 (rg_b rfl : Rg (0) (0) (0 : Int32))
        refine s_gd (rg_bool (rg_m (rg_b rfl : Rg (1) (1) ((1 : Int32))) (by decide))) ?_
        exact s_some ⟨(e_o_6.trans (e_o_2.trans E)), (rg_m (rg_b rfl : Rg (1) (1) ((1 : Int32))) (by decide))⟩
      · have _ := c_9
        have i_f_11 : Rg (1) (1) (o_6.1) := rg_nlo c_9 i_o_6 (rg_b rfl : Rg (0) (0) (0 : Int32))
        refine s_gd (rg_bool (rg_m (rg_b rfl : Rg (0) (0) ((0 : Int32))) (by decide))) ?_
        exact s_some ⟨(e_o_6.trans (e_o_2.trans E)), (rg_m (rg_b rfl : Rg (0) (0) ((0 : Int32))) (by decide))⟩
set_option maxRecDepth 20000 in
theorem zX5_mayStand_70 {ρ : Nat → Nat} {c : Cm} {h0 : Hp} {F : Nat} (hF : 700000 ≤ F) {h : Hp} {x0 : Nat} {x1 : Int32} {x2 : Int32} {x3 : Int32} {x4 : Int32} {t0 : Int32} (E : h = h0) (T : TH ρ c h) (r_x0 : ρ x0 = 6) (i_x1 : Rg (0) (1) (x1)) (i_x2 : Rg (0) (1) (x2)) (i_x3 : Rg (-1) (63) (x3)) (i_x4 : Rg (-1) (63) (x4)) (i_t0 : Rg (0) (1) (t0)) : Sat (sX5_mayStand_70 F h x0 x1 x2 x3 x4 t0) (ZI0 h0 (0) (1)) := by
  unfold sX5_mayStand_70 sX5_mayStand_95
  refine s_br (fun c_1 => ?_) (fun c_1 => ?_)
  · have _ := c_1
    have i_f_2 : Rg (-1) (-1) (x3) := rg_eq c_1 (rg_b rfl : Rg (-1) (-1) ((- 1 : Int32)))
    exact s_some ⟨E, (rg_m (rg_b rfl : Rg (0) (0) ((0 : Int32))) (by decide))⟩
  · have _ := c_1
    have i_f_3 : Rg (0) (63) (x3) := rg_nlo c_1 i_x3 (rg_b rfl : Rg (-1) (-1) ((- 1 : Int32)))
    refine s_br (fun c_4 => ?_) (fun c_4 => ?_)
    · have _ := c_4
      have i_f_5 : Rg (0) (0) (t0) := rg_eq c_4 (rg_b rfl : Rg (0) (0) (0 : Int32))
      obtain ⟨r_3, e_r_3, q_r_3⟩ := thR T r_x0 (k := 6) (i := 3) (k2 := 4) rfl (by decide)
      refine s_ref e_r_3 ?_
      refine s_cI0 (zX5_isHit hF T r_x0 q_r_3 i_f_3 i_x2) (fun o_4 e_o_4 i_o_4 => ?_)
      have T_6 := th_eq e_o_4 T
      refine s_br (fun c_7 => ?_) (fun c_7 => ?_)
      · have _ := c_7
        have i_f_8 : Rg (0) (0) (o_4.1) := rg_eq c_7 (rg_b rfl : Rg (0) (0) (0 : Int32))
        exact zX5_mayStand_97 hF (e_o_4.trans E) T_6 r_x0 i_x1 i_x4
      · have _ := c_7
        have i_f_9 : Rg (1) (1) (o_4.1) := rg_nlo c_7 i_o_4 (rg_b rfl : Rg (0) (0) (0 : Int32))
        exact s_some ⟨(e_o_4.trans E), (rg_m (rg_b rfl : Rg (0) (0) ((0 : Int32))) (by decide))⟩
    · have _ := c_4
      have i_f_10 : Rg (1) (1) (t0) := rg_nlo c_4 i_t0 (rg_b rfl : Rg (0) (0) (0 : Int32))
      exact zX5_mayStand_97 hF E T r_x0 i_x1 i_x4
set_option maxRecDepth 20000 in
theorem zX5_mayStand {ρ : Nat → Nat} {c : Cm} {F : Nat} (hF : 700000 ≤ F) (m3 : c.2.1 3 = true) {h : Hp} {x0 : Nat} (T : TH ρ c h) (r_x0 : ρ x0 = 6) : Sat (sX5_mayStand F h x0) (ZI0 h (0) (1)) := by
  unfold sX5_mayStand sX5_mayStand_69
  obtain ⟨r_1, e_r_1, q_r_1⟩ := thM T r_x0 (k := 6) (i := 4) (j := 3) (k2 := 4) rfl (by decide) rfl (by decide) m3
  refine s_ref e_r_1 ?_
  refine s_q (fun v_2 e_1 => ?_)
  have i_v_2 : Rg (0) (1) (v_2) := by rw [e_1]; exact (thI T q_r_1 (k := 4) (i := 5) rfl : Rg (0) (1) (hI h r_1 5))
  refine s_q (fun v_3 e_2 => ?_)
  have i_v_3 : Rg (0) (1) (v_3) := by rw [e_2]; exact (rg_sub (rg_b rfl : Rg (1) (1) ((1 : Int32))) i_v_2 (by decide) : Rg (0) (1) ((1 : Int32) - v_2))
  obtain ⟨r_4, e_r_4, q_r_4⟩ := thR T r_x0 (k := 6) (i := 3) (k2 := 4) rfl (by decide)
  refine s_ref e_r_4 ?_
  obtain ⟨r_5, e_r_5, q_r_5⟩ := thR T q_r_4 (k := 4) (i := 2) (k2 := 36) rfl (by decide)
  refine s_ref e_r_5 ?_
  refine s_gd (by rw [thN T q_r_5 (k := 36) (n := 2) rfl (by decide)]; exact rg_inB i_v_2 (by decide)) ?_
  refine s_q (fun v_7 e_3 => ?_)
  have i_v_7 : Rg (-1) (63) (v_7) := by rw [e_3]; exact (thI T q_r_5 (k := 36) rfl : Rg (-1) (63) (hI h r_5 v_2.toNatClampNeg))
  refine s_ref e_r_4 ?_
  refine s_ref e_r_5 ?_
  refine s_gd (by rw [thN T q_r_5 (k := 36) (n := 2) rfl (by decide)]; exact rg_inB i_v_3 (by decide)) ?_
  refine s_q (fun v_11 e_4 => ?_)
  have i_v_11 : Rg (-1) (63) (v_11) := by rw [e_4]; exact (thI T q_r_5 (k := 36) rfl : Rg (-1) (63) (hI h r_5 v_3.toNatClampNeg))
  refine s_ref e_r_1 ?_
  obtain ⟨r_13, e_r_13, q_r_13⟩ := thR T q_r_1 (k := 4) (i := 2) (k2 := 36) rfl (by decide)
  refine s_ref e_r_13 ?_
  refine s_gd (by rw [thN T q_r_13 (k := 36) (n := 2) rfl (by decide)]; exact rg_inB i_v_2 (by decide)) ?_
  refine s_br (fun c_5 => ?_) (fun c_5 => ?_)
  · have _ := c_5
    have i_f_6 : Rg (-1) (-1) ((hI h r_13 v_2.toNatClampNeg)) := rg_eq c_5 (rg_b rfl : Rg (-1) (-1) ((- 1 : Int32)))
    exact zX5_mayStand_97 hF rfl T r_x0 i_v_2 i_v_11
  · have _ := c_5
    have i_f_7 : Rg (0) (63) ((hI h r_13 v_2.toNatClampNeg)) := rg_nlo c_5 (thI T q_r_13 (k := 36) rfl : Rg (-1) (63) ((hI h r_13 v_2.toNatClampNeg))) (rg_b rfl : Rg (-1) (-1) ((- 1 : Int32)))
    refine s_ref e_r_1 ?_
    refine s_ref e_r_13 ?_
    refine s_gd (by rw [thN T q_r_13 (k := 36) (n := 2) rfl (by decide)]; exact rg_inB i_v_3 (by decide)) ?_
    refine s_br (fun c_8 => ?_) (fun c_8 => ?_)
    · have _ := c_8
      have i_f_9 : Rg (-1) (-1) ((hI h r_13 v_3.toNatClampNeg)) := rg_eq c_8 (rg_b rfl : Rg (-1) (-1) ((- 1 : Int32)))
      exact zX5_mayStand_70 hF rfl T r_x0 i_v_2 i_v_3 i_v_7 i_v_11 (rg_m (rg_b rfl : Rg (0) (0) ((0 : Int32))) (by decide))
    · have _ := c_8
      have i_f_10 : Rg (0) (63) ((hI h r_13 v_3.toNatClampNeg)) := rg_nlo c_8 (thI T q_r_13 (k := 36) rfl : Rg (-1) (63) ((hI h r_13 v_3.toNatClampNeg))) (rg_b rfl : Rg (-1) (-1) ((- 1 : Int32)))
      refine s_br (fun c_11 => ?_) (fun c_11 => ?_)
      · have _ := c_11
        have i_f_12 : Rg (-1) (-1) (v_11) := rg_eq c_11 (rg_b rfl : Rg (-1) (-1) ((- 1 : Int32)))
        exact zX5_mayStand_70 hF rfl T r_x0 i_v_2 i_v_3 i_v_7 (rg_m i_f_12 (by decide)) (rg_m (rg_b rfl : Rg (1) (1) ((1 : Int32))) (by decide))
      · have _ := c_11
        have i_f_13 : Rg (0) (63) (v_11) := rg_nlo c_11 i_v_11 (rg_b rfl : Rg (-1) (-1) ((- 1 : Int32)))
        exact zX5_mayStand_70 hF rfl T r_x0 i_v_2 i_v_3 i_v_7 (rg_m i_f_13 (by decide)) (rg_m (rg_b rfl : Rg (0) (0) ((0 : Int32))) (by decide))
set_option maxRecDepth 20000 in
theorem zX5_becomes {ρ : Nat → Nat} {c : Cm} {F : Nat} (hF : 700000 ≤ F) {h : Hp} {x0 : Int32} (T : TH ρ c h) (i_x0 : Rg (-2147483648) (2147483647) (x0)) : Sat (sX5_becomes h x0) (ZI0 h (-1) (14)) := by
  unfold sX5_becomes sX5_becomes_19
  refine s_q (fun v_1 e_1 => ?_)
  have i_v_1 : Rg (0) (15) (v_1) := by rw [e_1]; exact (rg_and (rg_b rfl : Rg (15) (15) ((15 : Int32))) (by decide) : Rg (0) (15) ((x0 >>> ((16 : Int32) &&& 31)) &&& (15 : Int32)))
  refine s_br (fun c_2 => ?_) (fun c_2 => ?_)
  · have _ := c_2
    have i_f_3 : Rg (15) (15) (v_1) := rg_eq c_2 (rg_b rfl : Rg (15) (15) ((15 : Int32)))
    exact s_some ⟨rfl, (rg_m (rg_b rfl : Rg (-1) (-1) ((- 1 : Int32))) (by decide))⟩
  · have _ := c_2
    have i_f_4 : Rg (0) (14) (v_1) := rg_nhi c_2 i_v_1 (rg_b rfl : Rg (15) (15) ((15 : Int32)))
    exact s_some ⟨rfl, (rg_m i_f_4 (by decide))⟩
set_option maxRecDepth 20000 in
theorem zX5_keepTakes_4 {ρ : Nat → Nat} {c : Cm} {F : Nat} (hF : 700000 ≤ F) (m4 : c.2.1 4 = true) (hA : pmA c [(47, 999), (6, 6)]) : ∀ (f : Nat) {h : Hp} {x0 : Nat} {x1 : Int32} {x2 : Int32}, TH ρ c h → ρ x0 = 6 → Rg (0) (4096) (x1) → Rg (0) (4096) (x2) → x1.toInt ≤ x2.toInt + 0 → (4096 - x2.toInt).toNat < f → Sat (sX5_keepTakes_4 F f h x0 x1 x2) (ZV ρ c) := by
  intro f
  induction f with
  | zero => intros; omega
  | succ f ih =>
    intro h x0 x1 x2 T r_x0 i_x1 i_x2 le_x1_x2 hm
    rw [sX5_keepTakes_4]
    unfold sX5_keepTakes_40
    obtain ⟨C_4, hC_4⟩ : ∃ C : Int, C = x2.toInt := ⟨_, rfl⟩
    have hk_4 : ∀ {h : Hp} {x0 : Nat} {x1 : Int32} {x2 : Int32}, TH ρ c h → ρ x0 = 6 → Rg (0) (4096) (x1) → Rg (0) (4096) (x2) → x1.toInt ≤ x2.toInt + 0 → C_4 < x2.toInt → Sat (sX5_keepTakes_4 F f h x0 x1 x2) (ZV ρ c) := by
      intro h' x0' x1' x2' T' r_x0' i_x1' i_x2' le_x1_x2' hl
      exact ih T' r_x0' i_x1' i_x2' le_x1_x2' (by have := i_x2'.1; have := i_x2'.2; omega)
    have hc_4 : C_4 ≤ x2.toInt := by omega
    refine s_br (fun c_1 => ?_) (fun c_1 => ?_)
    · have _ := c_1
      refine s_hq (th_wI T r_x0 (k := 6) (lo := (0)) (hi := (4096)) rfl (i_x1 : Rg (0) (4096) (x1)) (by decide) (by decide) (pm_a hA rfl)) (fun h_2 T_2 w_3 => ?_)
      exact s_some (T_2)
    · have _ := c_1
      have i_f_4 : Rg (0) (4095) (x2) := rg_lt1 (nle_lt c_1) i_x2 (thI T r_x0 (k := 6) (i := 6) rfl : Rg (0) (4096) ((hI h x0 6)))
      have i_f_5 : Rg (1) (4096) ((hI h x0 6)) := rg_lt2 (nle_lt c_1) i_x2 (thI T r_x0 (k := 6) (i := 6) rfl : Rg (0) (4096) ((hI h x0 6)))
      have i_r_6 : Rg (0) (4095) (x1) := ⟨i_x1.1, by have := i_f_4.2; have := le_x1_x2; omega⟩
      obtain ⟨r_3, e_r_3, q_r_3⟩ := thM T r_x0 (k := 6) (i := 5) (j := 4) (k2 := 47) rfl (by decide) rfl (by decide) m4
      refine s_ref e_r_3 ?_
      refine s_gd (by rw [thN T q_r_3 (k := 47) (n := 4096) rfl (by decide)]; exact rg_inB i_f_4 (by decide)) ?_
      refine s_cI0 (zX5_takenBy hF T (thI T q_r_3 (k := 47) rfl : Rg (-2147483648) (2147483647) ((hI h r_3 x2.toNatClampNeg)))) (fun o_5 e_o_5 i_o_5 => ?_)
      have T_7 := th_eq e_o_5 T
      refine s_br (fun c_8 => ?_) (fun c_8 => ?_)
      · have _ := c_8
        have i_f_9 : Rg (-1) (-1) (o_5.1) := rg_eq c_8 (rg_b rfl : Rg (-1) (-1) ((- 1 : Int32)))
        refine s_q (fun v_1q1 e_10 => ?_)
        have i_v_1q1 : Rg (1) (4096) (v_1q1) := by rw [e_10]; exact (rg_add i_f_4 (rg_b rfl : Rg (1) (1) ((1 : Int32))) (by decide) : Rg (1) (4096) (x2 + (1 : Int32)))
        have m_11 : (v_1q1).toInt = x2.toInt + 1 := by rw [e_10]; exact rg_inc i_f_4 (by decide)
        have m_12 : (v_1q1).toInt = x2.toInt + 1 := by rw [e_10]; exact rg_inc i_f_4 (by decide)
        exact hk_4 T_7 r_x0 (rg_m i_r_6 (by decide)) (rg_m i_v_1q1 (by decide)) (by omega) (by have := hc_4; omega)
      · have _ := c_8
        have i_f_13 : Rg (0) (14) (o_5.1) := rg_nlo c_8 i_o_5 (rg_b rfl : Rg (-1) (-1) ((- 1 : Int32)))
        refine s_ref (hr_e e_o_5 e_r_3) ?_
        refine s_ref (hr_e e_o_5 e_r_3) ?_
        refine s_gd (by rw [thN T_7 q_r_3 (k := 47) (n := 4096) rfl (by decide)]; exact rg_inB i_f_4 (by decide)) ?_
        refine s_gd (by rw [thN T_7 q_r_3 (k := 47) (n := 4096) rfl (by decide)]; exact rg_inB i_r_6 (by decide)) ?_
        refine s_hq (th_wI T_7 q_r_3 (k := 47) (lo := (-2147483648)) (hi := (2147483647)) rfl ((thI T_7 q_r_3 (k := 47) rfl : Rg (-2147483648) (2147483647) ((hI o_5.2 r_3 x2.toNatClampNeg))) : Rg (-2147483648) (2147483647) ((hI o_5.2 r_3 x2.toNatClampNeg))) (by decide) (by decide) (pm_a hA rfl)) (fun h_11 T_14 w_15 => ?_)
        refine s_q (fun v_12 e_16 => ?_)
        have i_v_12 : Rg (1) (4096) (v_12) := by rw [e_16]; exact (rg_add i_r_6 (rg_b rfl : Rg (1) (1) ((1 : Int32))) (by decide) : Rg (1) (4096) (x1 + (1 : Int32)))
        refine s_q (fun v_1q2 e_17 => ?_)
        have i_v_1q2 : Rg (1) (4096) (v_1q2) := by rw [e_17]; exact (rg_add i_f_4 (rg_b rfl : Rg (1) (1) ((1 : Int32))) (by decide) : Rg (1) (4096) (x2 + (1 : Int32)))
        have m_18 : (v_12).toInt = x1.toInt + 1 := by rw [e_16]; exact rg_inc i_r_6 (by decide)
        have m_19 : (v_1q2).toInt = x2.toInt + 1 := by rw [e_17]; exact rg_inc i_f_4 (by decide)
        have m_20 : (v_1q2).toInt = x2.toInt + 1 := by rw [e_17]; exact rg_inc i_f_4 (by decide)
        exact hk_4 T_14 r_x0 (rg_m i_v_12 (by decide)) (rg_m i_v_1q2 (by decide)) (by omega) (by have := hc_4; omega)
set_option maxRecDepth 20000 in
theorem zX5_keepTakes {ρ : Nat → Nat} {c : Cm} {F : Nat} (hF : 700000 ≤ F) (m4 : c.2.1 4 = true) (hA : pmA c [(47, 999), (6, 6)]) {h : Hp} {x0 : Nat} (T : TH ρ c h) (r_x0 : ρ x0 = 6) : Sat (sX5_keepTakes F h x0) (ZV ρ c) := by
  unfold sX5_keepTakes 
  have m_1 : ((0 : Int32)).toInt = 0 := rfl
  have m_2 : ((0 : Int32)).toInt = 0 := rfl
  have m_3 : Rg (0) (4096) ((0 : Int32)) := (rg_m (rg_b rfl : Rg (0) (0) ((0 : Int32))) (by decide))
  exact zX5_keepTakes_4 hF m4 (pmA_s hA rfl) F T r_x0 (rg_m (rg_b rfl : Rg (0) (0) ((0 : Int32))) (by decide)) (rg_m (rg_b rfl : Rg (0) (0) ((0 : Int32))) (by decide)) (by omega) (by have := m_3.1; have := m_3.2; omega)
set_option maxRecDepth 20000 in
theorem zX3_addToHand {ρ : Nat → Nat} {c : Cm} {F : Nat} {w_x0 : Nat} (hF : 700000 ≤ F) (hO_x0 : pmO c w_x0 [(37, 999)]) {h : Hp} {x0 : Nat} {x1 : Int32} {x2 : Int32} {x3 : Int32} (o_x0 : cw c x0 = w_x0) (T : TH ρ c h) (r_x0 : ρ x0 = 4) (i_x1 : Rg (0) (1) (x1)) (i_x2 : Rg (0) (15) (x2)) (i_x3 : Rg (-1) (1) (x3)) : Sat (sX3_addToHand h x0 x1 x2 x3) (ZV ρ c) := by
  unfold sX3_addToHand 
  obtain ⟨r_1, e_r_1, q_r_1⟩ := thR T r_x0 (k := 4) (i := 3) (k2 := 37) rfl (by decide)
  refine s_ref e_r_1 ?_
  refine s_gd (by rw [thN T q_r_1 (k := 37) (n := 2) rfl (by decide)]; exact rg_inB i_x1 (by decide)) ?_
  refine s_gd (by rw [thN T q_r_1 (k := 37) (n := 2) rfl (by decide)]; exact rg_inB i_x1 (by decide)) ?_
  refine s_hq (th_wJ T q_r_1 (k := 37) (by decide) (pm_o hO_x0 (th_ih T r_x0 (k := 4) rfl e_r_1 o_x0) rfl)) (fun h_4 T_1 w_2 => ?_)
  exact s_some (T_1)
set_option maxRecDepth 20000 in
theorem zX3_passSize {ρ : Nat → Nat} {c : Cm} {F : Nat} (hF : 700000 ≤ F) {h : Hp} {x0 : Nat} (T : TH ρ c h) (r_x0 : ρ x0 = 4) : Sat (sX3_passSize h x0) (ZI0 h (0) (7)) := by
  unfold sX3_passSize 
  exact s_some ⟨rfl, (rg_and (rg_b rfl : Rg (7) (7) ((7 : Int32))) (by decide) : Rg (0) (7) (((hJ h x0 9).toInt32) &&& (7 : Int32)))⟩
set_option maxRecDepth 20000 in
theorem zX3_addPass {ρ : Nat → Nat} {c : Cm} {F : Nat} {w_x0 : Nat} (hF : 700000 ≤ F) (hO_x0 : pmO c w_x0 [(4, 9), (4, 10)]) {h : Hp} {x0 : Nat} {x1 : Int32} (o_x0 : cw c x0 = w_x0) (T : TH ρ c h) (r_x0 : ρ x0 = 4) (i_x1 : Rg (-186) (249) (x1)) : Sat (sX3_addPass h x0 x1) (ZV ρ c) := by
  unfold sX3_addPass sX3_addPass_22 sX3_addPass_66
  refine s_cI0 (zX3_passSize hF T r_x0) (fun o_1 e_o_1 i_o_1 => ?_)
  have T_1 := th_eq e_o_1 T
  refine s_br (fun c_2 => ?_) (fun c_2 => ?_)
  · have _ := c_2
    refine s_hq (th_wJ T_1 r_x0 (k := 4) (by decide) (pm_o hO_x0 o_x0 rfl)) (fun h_1q1 T_3 w_4 => ?_)
    exact s_some (T_3)
  · have _ := c_2
    refine s_br (fun c_5 => ?_) (fun c_5 => ?_)
    · have _ := c_5
      have i_f_6 : Rg (0) (6) (o_1.1) := rg_lt1 c_5 i_o_1 (rg_b rfl : Rg (7) (7) ((7 : Int32)))
      refine s_hq (th_wJ T_1 r_x0 (k := 4) (by decide) (pm_o hO_x0 o_x0 rfl)) (fun h_4 T_7 w_8 => ?_)
      refine s_br (fun c_9 => ?_) (fun c_9 => ?_)
      · have _ := c_9
        have i_f_10 : Rg (0) (0) (o_1.1) := rg_le1 c_9 i_f_6 (rg_b rfl : Rg (0) (0) (0 : Int32))
        refine s_hq (th_wJ T_7 r_x0 (k := 4) (by decide) (pm_o hO_x0 o_x0 rfl)) (fun h_1q2 T_11 w_12 => ?_)
        exact s_some (T_11)
      · have _ := c_9
        have i_f_13 : Rg (1) (6) (o_1.1) := rg_lt2 (nle_lt c_9) (rg_b rfl : Rg (0) (0) (0 : Int32)) i_f_6
        refine s_hq (th_wJ T_7 r_x0 (k := 4) (by decide) (pm_o hO_x0 o_x0 rfl)) (fun h_1q3 T_14 w_15 => ?_)
        exact s_some (T_14)
    · have _ := c_5
      have i_f_16 : Rg (7) (7) (o_1.1) := rg_le2 (nlt_le c_5) (rg_b rfl : Rg (7) (7) ((7 : Int32))) i_o_1
      refine s_hq (th_wJ T_1 r_x0 (k := 4) (by decide) (pm_o hO_x0 o_x0 rfl)) (fun h_1q4 T_17 w_18 => ?_)
      exact s_some (T_17)
set_option maxRecDepth 20000 in
theorem zX3_clearPass {ρ : Nat → Nat} {c : Cm} {F : Nat} {w_x0 : Nat} (hF : 700000 ≤ F) (hO_x0 : pmO c w_x0 [(4, 9), (4, 10)]) {h : Hp} {x0 : Nat} (o_x0 : cw c x0 = w_x0) (T : TH ρ c h) (r_x0 : ρ x0 = 4) : Sat (sX3_clearPass h x0) (ZV ρ c) := by
  unfold sX3_clearPass 
  refine s_hq (th_wJ T r_x0 (k := 4) (by decide) (pm_o hO_x0 o_x0 rfl)) (fun h_1 T_1 w_2 => ?_)
  refine s_hq (th_wJ T_1 r_x0 (k := 4) (by decide) (pm_o hO_x0 o_x0 rfl)) (fun h_2 T_3 w_4 => ?_)
  exact s_some (T_3)
set_option maxRecDepth 20000 in
theorem zX5_notePass_56 {ρ : Nat → Nat} {c : Cm} {F : Nat} {w_x1 : Nat} (hF : 700000 ≤ F) (hO_x1 : pmO c w_x1 [(4, 9), (4, 10)]) : ∀ (f : Nat) {h : Hp} {x1 : Nat} {x3 : Int32} {x5 : Int32} {x6 : Int32} {x7 : Int32}, cw c x1 = w_x1 → TH ρ c h → ρ x1 = 4 → Rg (2) (7) (x3) → Rg (0) (63) (x5) → Rg (-31) (31) (x6) → Rg (1) (7) (x7) → (7 - x7.toInt).toNat < f → Sat (sX5_notePass_56 F f h x1 x3 x5 x6 x7) (ZV ρ c) := by
  intro f
  induction f with
  | zero => intros; omega
  | succ f ih =>
    intro h x1 x3 x5 x6 x7 o_x1 T r_x1 i_x3 i_x5 i_x6 i_x7 hm
    rw [sX5_notePass_56]
    obtain ⟨C_56, hC_56⟩ : ∃ C : Int, C = x7.toInt := ⟨_, rfl⟩
    have hk_56 : ∀ {h : Hp} {x1 : Nat} {x3 : Int32} {x5 : Int32} {x6 : Int32} {x7 : Int32}, cw c x1 = w_x1 → TH ρ c h → ρ x1 = 4 → Rg (2) (7) (x3) → Rg (0) (63) (x5) → Rg (-31) (31) (x6) → Rg (1) (7) (x7) → C_56 < x7.toInt → Sat (sX5_notePass_56 F f h x1 x3 x5 x6 x7) (ZV ρ c) := by
      intro h' x1' x3' x5' x6' x7' o_x1' T' r_x1' i_x3' i_x5' i_x6' i_x7' hl
      exact ih o_x1' T' r_x1' i_x3' i_x5' i_x6' i_x7' (by have := i_x7'.1; have := i_x7'.2; omega)
    have hc_56 : C_56 ≤ x7.toInt := by omega
    refine s_br (fun c_1 => ?_) (fun c_1 => ?_)
    · have _ := c_1
      have i_f_2 : Rg (2) (7) (x7) := rg_le2 c_1 i_x3 i_x7
      exact s_some (T)
    · have _ := c_1
      have i_f_3 : Rg (1) (6) (x7) := rg_lt1 (nle_lt c_1) i_x7 i_x3
      refine s_cV (zX3_addPass hF (pmO_s hO_x1 rfl) o_x1 T r_x1 (rg_add i_x5 (rg_muln (rg_m i_f_3 (by decide) : Rg (-6) (6) (x7)) (rg_m i_x6 (by decide) : Rg (-31) (31) (x6)) (by decide) : Rg (-186) (186) ((x7 * x6))) (by decide) : Rg (-186) (249) ((x5 + (x7 * x6))))) (fun o_2 T_4 => ?_)
      refine s_q (fun v_3 e_5 => ?_)
      have i_v_3 : Rg (2) (7) (v_3) := by rw [e_5]; exact (rg_add i_f_3 (rg_b rfl : Rg (1) (1) ((1 : Int32))) (by decide) : Rg (2) (7) (x7 + (1 : Int32)))
      have m_6 : (v_3).toInt = x7.toInt + 1 := by rw [e_5]; exact rg_inc i_f_3 (by decide)
      exact hk_56 o_x1 T_4 r_x1 i_x3 i_x5 i_x6 (rg_m i_v_3 (by decide)) (by have := hc_56; omega)
set_option maxRecDepth 20000 in
theorem zX5_notePass {ρ : Nat → Nat} {c : Cm} {F : Nat} {w_x1 : Nat} (hF : 700000 ≤ F) (hO_x1 : pmO c w_x1 [(4, 9), (4, 10)]) {h : Hp} {x0 : Nat} {x1 : Nat} {x2 : Int32} (o_x1 : cw c x1 = w_x1) (T : TH ρ c h) (r_x0 : ρ x0 = 6) (r_x1 : ρ x1 = 4) (i_x2 : Rg (-2147483648) (2147483647) (x2)) : Sat (sX5_notePass F h x0 x1 x2) (ZV ρ c) := by
  unfold sX5_notePass sX5_passedBy sX5_comeTo sX5_notePass_31 sX5_leftBy
  refine s_cV (zX3_clearPass hF (pmO_s hO_x1 rfl) o_x1 T r_x1) (fun o_1 T_1 => ?_)
  refine s_pu (fun o_2z e_2 => ?_)
  try dsimp only
  have i_o_2z : Rg (0) (7) (o_2z) := by rw [e_2]; exact (rg_and (rg_b rfl : Rg (7) (7) ((7 : Int32))) (by decide) : Rg (0) (7) ((x2 >>> ((26 : Int32) &&& 31)) &&& (7 : Int32)))
  refine s_pu (fun o_3z e_3 => ?_)
  try dsimp only
  have i_o_3z : Rg (0) (63) (o_3z) := by rw [e_3]; exact (rg_and (rg_b rfl : Rg (63) (63) ((63 : Int32))) (by decide) : Rg (0) (63) (x2 &&& (63 : Int32)))
  refine s_br (fun c_4 => ?_) (fun c_4 => ?_)
  · have _ := c_4
    have i_f_5 : Rg (0) (1) (o_2z) := rg_lt1 c_4 i_o_2z (rg_b rfl : Rg (2) (2) ((2 : Int32)))
    exact s_some (T_1)
  · have _ := c_4
    have i_f_6 : Rg (2) (7) (o_2z) := rg_le2 (nlt_le c_4) (rg_b rfl : Rg (2) (2) ((2 : Int32))) i_o_2z
    obtain ⟨r_5, e_r_5, q_r_5⟩ := thR T_1 r_x1 (k := 4) (i := 0) (k2 := 34) rfl (by decide)
    refine s_ref e_r_5 ?_
    refine s_gd (by rw [thN T_1 q_r_5 (k := 34) (n := 64) rfl (by decide)]; exact rg_inB i_o_3z (by decide)) ?_
    refine s_br (fun c_7 => ?_) (fun c_7 => ?_)
    · have _ := c_7
      have i_f_8 : Rg (-1) (-1) ((hI o_1 r_5 o_3z.toNatClampNeg)) := rg_eq c_7 (rg_b rfl : Rg (-1) (-1) ((- 1 : Int32)))
      exact s_some (T_1)
    · have _ := c_7
      have i_f_9 : Rg (0) (23) ((hI o_1 r_5 o_3z.toNatClampNeg)) := rg_nlo c_7 (thI T_1 q_r_5 (k := 34) rfl : Rg (-1) (23) ((hI o_1 r_5 o_3z.toNatClampNeg))) (rg_b rfl : Rg (-1) (-1) ((- 1 : Int32)))
      refine s_pu (fun o_8z e_10 => ?_)
      try dsimp only
      have i_o_8z : Rg (0) (63) (o_8z) := by rw [e_10]; exact (rg_and (rg_b rfl : Rg (63) (63) ((63 : Int32))) (by decide) : Rg (0) (63) ((x2 >>> ((6 : Int32) &&& 31)) &&& (63 : Int32)))
      refine s_gd (rg_ne0 i_f_6 (by decide)) ?_
      refine s_q (fun v_10 e_11 => ?_)
      have i_v_10 : Rg (-31) (31) (v_10) := by rw [e_11]; exact (rg_divn (rg_m (rg_sub i_o_3z i_o_8z (by decide) : Rg (-63) (63) ((o_3z - o_8z))) (by decide) : Rg (-63) (63) ((o_3z - o_8z))) i_f_6 (by decide) : Rg (-31) (31) ((o_3z - o_8z) / o_2z))
      refine s_cV (zX3_addPass hF (pmO_s hO_x1 rfl) o_x1 T_1 r_x1 (rg_m i_o_3z (by decide))) (fun o_11 T_12 => ?_)
      have m_13 : Rg (1) (7) ((1 : Int32)) := (rg_m (rg_b rfl : Rg (1) (1) ((1 : Int32))) (by decide))
      exact zX5_notePass_56 hF (pmO_s hO_x1 rfl) F o_x1 T_12 r_x1 i_f_6 i_o_8z i_v_10 (rg_m (rg_b rfl : Rg (1) (1) ((1 : Int32))) (by decide)) (by have := m_13.1; have := m_13.2; omega)
set_option maxRecDepth 20000 in
theorem zX11_isPlace {ρ : Nat → Nat} {c : Cm} {F : Nat} (hF : 700000 ≤ F) {h : Hp} {x0 : Nat} {x1 : Int32} (T : TH ρ c h) (r_x0 : ρ x0 = 12) (i_x1 : Rg (-2147483648) (2147483647) (x1)) : Sat (sX11_isPlace h x0 x1) (ZP0 h (0) (1) (0) (Rg (0) (59) (x1))) := by
  unfold sX11_isPlace sX11_isPlace_23 sX11_isPlace_24
  refine s_br (fun c_1 => ?_) (fun c_1 => ?_)
  · have _ := c_1
    have i_f_2 : Rg (-2147483648) (-1) (x1) := rg_lt1 c_1 i_x1 (rg_b rfl : Rg (0) (0) (0 : Int32))
    refine s_gd (rg_bool (rg_m (rg_b rfl : Rg (0) (0) ((0 : Int32))) (by decide))) ?_
    exact s_some ⟨rfl, (rg_m (rg_b rfl : Rg (0) (0) ((0 : Int32))) (by decide)), (fun q => absurd (rz_s (rg_b rfl : Rg (0) (0) ((0 : Int32))) (rg_b rfl : Rg (0) (0) (0 : Int32))) q)⟩
  · have _ := c_1
    have i_f_3 : Rg (0) (2147483647) (x1) := rg_le2 (nlt_le c_1) (rg_b rfl : Rg (0) (0) (0 : Int32)) i_x1
    refine s_br (fun c_4 => ?_) (fun c_4 => ?_)
    · have _ := c_4
      have i_f_5 : Rg (60) (2147483647) (x1) := rg_le2 c_4 (rg_b rfl : Rg (60) (60) ((60 : Int32))) i_f_3
      refine s_gd (rg_bool (rg_m (rg_b rfl : Rg (0) (0) ((0 : Int32))) (by decide))) ?_
      exact s_some ⟨rfl, (rg_m (rg_b rfl : Rg (0) (0) ((0 : Int32))) (by decide)), (fun q => absurd (rz_s (rg_b rfl : Rg (0) (0) ((0 : Int32))) (rg_b rfl : Rg (0) (0) (0 : Int32))) q)⟩
    · have _ := c_4
      have i_f_6 : Rg (0) (59) (x1) := rg_lt1 (nle_lt c_4) i_f_3 (rg_b rfl : Rg (60) (60) ((60 : Int32)))
      obtain ⟨r_3, e_r_3, q_r_3⟩ := thR T r_x0 (k := 12) (i := 14) (k2 := 58) rfl (by decide)
      refine s_ref e_r_3 ?_
      refine s_gd (by rw [thN T q_r_3 (k := 58) (n := 60) rfl (by decide)]; exact rg_inB i_f_6 (by decide)) ?_
      refine s_br (fun c_7 => ?_) (fun c_7 => ?_)
      · have _ := c_7
        have i_f_8 : Rg (0) (0) ((hI h r_3 x1.toNatClampNeg)) := rg_eq c_7 (rg_b rfl : Rg (0) (0) (0 : Int32))
        refine s_gd (rg_bool (rg_m (rg_b rfl : Rg (0) (0) ((0 : Int32))) (by decide))) ?_
        exact s_some ⟨rfl, (rg_m (rg_b rfl : Rg (0) (0) ((0 : Int32))) (by decide)), (fun q => absurd (rz_s (rg_b rfl : Rg (0) (0) ((0 : Int32))) (rg_b rfl : Rg (0) (0) (0 : Int32))) q)⟩
      · have _ := c_7
        have i_f_9 : Rg (1) (1) ((hI h r_3 x1.toNatClampNeg)) := rg_nlo c_7 (thI T q_r_3 (k := 58) rfl : Rg (0) (1) ((hI h r_3 x1.toNatClampNeg))) (rg_b rfl : Rg (0) (0) (0 : Int32))
        refine s_gd (rg_bool (rg_m (rg_b rfl : Rg (1) (1) ((1 : Int32))) (by decide))) ?_
        exact s_some ⟨rfl, (rg_m (rg_b rfl : Rg (1) (1) ((1 : Int32))) (by decide)), (fun _ => i_f_6)⟩
set_option maxRecDepth 20000 in
theorem zX11_isSquare {ρ : Nat → Nat} {c : Cm} {F : Nat} (hF : 700000 ≤ F) {h : Hp} {x0 : Nat} {x1 : Int32} (T : TH ρ c h) (r_x0 : ρ x0 = 12) (i_x1 : Rg (-2147483648) (2147483647) (x1)) : Sat (sX11_isSquare h x0 x1) (ZP0 h (0) (1) (0) (Rg (0) (63) (x1))) := by
  unfold sX11_isSquare sX11_isSquare_19 sX11_isSquare_20
  refine s_br (fun c_1 => ?_) (fun c_1 => ?_)
  · have _ := c_1
    have i_f_2 : Rg (-2147483648) (-1) (x1) := rg_lt1 c_1 i_x1 (rg_b rfl : Rg (0) (0) (0 : Int32))
    refine s_gd (rg_bool (rg_m (rg_b rfl : Rg (0) (0) ((0 : Int32))) (by decide))) ?_
    exact s_some ⟨rfl, (rg_m (rg_b rfl : Rg (0) (0) ((0 : Int32))) (by decide)), (fun q => absurd (rz_s (rg_b rfl : Rg (0) (0) ((0 : Int32))) (rg_b rfl : Rg (0) (0) (0 : Int32))) q)⟩
  · have _ := c_1
    have i_f_3 : Rg (0) (2147483647) (x1) := rg_le2 (nlt_le c_1) (rg_b rfl : Rg (0) (0) (0 : Int32)) i_x1
    obtain ⟨r_2, e_r_2, q_r_2⟩ := thR T r_x0 (k := 12) (i := 2) (k2 := 2) rfl (by decide)
    refine s_ref e_r_2 ?_
    refine s_br (fun c_4 => ?_) (fun c_4 => ?_)
    · have _ := c_4
      refine s_gd (rg_bool (rg_m (rg_b rfl : Rg (0) (0) ((0 : Int32))) (by decide))) ?_
      exact s_some ⟨rfl, (rg_m (rg_b rfl : Rg (0) (0) ((0 : Int32))) (by decide)), (fun q => absurd (rz_s (rg_b rfl : Rg (0) (0) ((0 : Int32))) (rg_b rfl : Rg (0) (0) (0 : Int32))) q)⟩
    · have _ := c_4
      have i_f_5 : Rg (0) (63) (x1) := rg_lt1 (nle_lt c_4) i_f_3 (thI T q_r_2 (k := 2) (i := 2) rfl : Rg (0) (64) ((hI h r_2 2)))
      have i_f_6 : Rg (1) (64) ((hI h r_2 2)) := rg_lt2 (nle_lt c_4) i_f_3 (thI T q_r_2 (k := 2) (i := 2) rfl : Rg (0) (64) ((hI h r_2 2)))
      refine s_gd (rg_bool (rg_m (rg_b rfl : Rg (1) (1) ((1 : Int32))) (by decide))) ?_
      exact s_some ⟨rfl, (rg_m (rg_b rfl : Rg (1) (1) ((1 : Int32))) (by decide)), (fun _ => i_f_5)⟩
set_option maxRecDepth 20000 in
theorem zX11_at {ρ : Nat → Nat} {c : Cm} {F : Nat} (hF : 700000 ≤ F) {h : Hp} {x0 : Nat} {x1 : Int32} {x2 : Int32} (T : TH ρ c h) (r_x0 : ρ x0 = 12) (i_x1 : Rg (-2147483648) (2147483647) (x1)) (i_x2 : Rg (-2147483648) (2147483647) (x2)) : Sat (sX11_at h x0 x1 x2) (ZI0 h (-102) (23)) := by
  unfold sX11_at sX11_at_35
  refine s_cP0 (zX11_isSquare hF T r_x0 i_x2) (fun o_1 e_o_1 i_o_1 p_o_1 => ?_)
  have T_1 := th_eq e_o_1 T
  refine s_br (fun c_2 => ?_) (fun c_2 => ?_)
  · have _ := c_2
    have i_f_3 : Rg (0) (0) (o_1.1) := rg_eq c_2 (rg_b rfl : Rg (0) (0) (0 : Int32))
    exact s_some ⟨(e_o_1.trans rfl), (rg_m (rg_b rfl : Rg (-101) (-101) ((- 101 : Int32))) (by decide))⟩
  · have _ := c_2
    have i_f_4 : Rg (1) (1) (o_1.1) := rg_nlo c_2 i_o_1 (rg_b rfl : Rg (0) (0) (0 : Int32))
    have p_f_5 := p_o_1 c_2
    refine s_cP0 (zX11_isPlace hF T_1 r_x0 i_x1) (fun o_3 e_o_3 i_o_3 p_o_3 => ?_)
    have T_6 := th_eq e_o_3 T_1
    refine s_br (fun c_7 => ?_) (fun c_7 => ?_)
    · have _ := c_7
      have i_f_8 : Rg (0) (0) (o_3.1) := rg_eq c_7 (rg_b rfl : Rg (0) (0) (0 : Int32))
      exact s_some ⟨(e_o_3.trans (e_o_1.trans rfl)), (rg_m (rg_b rfl : Rg (-102) (-102) ((- 102 : Int32))) (by decide))⟩
    · have _ := c_7
      have i_f_9 : Rg (1) (1) (o_3.1) := rg_nlo c_7 i_o_3 (rg_b rfl : Rg (0) (0) (0 : Int32))
      have p_f_10 := p_o_3 c_7
      obtain ⟨r_5, e_r_5, q_r_5⟩ := thR T_6 r_x0 (k := 12) (i := 13) (k2 := 57) rfl (by decide)
      refine s_ref e_r_5 ?_
      refine s_gd (by rw [thN T_6 q_r_5 (k := 57) (n := 60) rfl (by decide)]; exact rg_inB p_f_10 (by decide)) ?_
      obtain ⟨r_7, e_r_7, q_r_7⟩ := thE T_6 q_r_5 (k := 57) (n := 60) (k2 := 4) (b := 59) (p_f_10 : Rg (0) (59) (x1)) (by decide) (by decide) (by decide)
      refine s_ref e_r_7 ?_
      obtain ⟨r_8, e_r_8, q_r_8⟩ := thR T_6 q_r_7 (k := 4) (i := 0) (k2 := 34) rfl (by decide)
      refine s_ref e_r_8 ?_
      refine s_gd (by rw [thN T_6 q_r_8 (k := 34) (n := 64) rfl (by decide)]; exact rg_inB p_f_5 (by decide)) ?_
      exact s_some ⟨(e_o_3.trans (e_o_1.trans rfl)), (rg_m (thI T_6 q_r_8 (k := 34) rfl : Rg (-1) (23) ((hI o_3.2 r_8 x2.toNatClampNeg))) (by decide))⟩
set_option maxRecDepth 20000 in
theorem zX11_isSide {ρ : Nat → Nat} {c : Cm} {F : Nat} (hF : 700000 ≤ F) {h : Hp} {x0 : Int32} (T : TH ρ c h) (i_x0 : Rg (-2147483648) (2147483647) (x0)) : Sat (sX11_isSide h x0) (ZP0 h (0) (1) (0) (Rg (0) (1) (x0))) := by
  unfold sX11_isSide sX11_isSide_9 sX11_isSide_14
  refine s_br (fun c_1 => ?_) (fun c_1 => ?_)
  · have _ := c_1
    have i_f_2 : Rg (0) (0) (x0) := rg_eq c_1 (rg_b rfl : Rg (0) (0) (0 : Int32))
    refine s_gd (rg_bool (rg_m (rg_b rfl : Rg (1) (1) ((1 : Int32))) (by decide))) ?_
    exact s_some ⟨rfl, (rg_m (rg_b rfl : Rg (1) (1) ((1 : Int32))) (by decide)), (fun _ => (rg_m i_f_2 (by decide)))⟩
  · have _ := c_1
    refine s_br (fun c_3 => ?_) (fun c_3 => ?_)
    · have _ := c_3
      have i_f_4 : Rg (1) (1) (x0) := rg_eq c_3 (rg_b rfl : Rg (1) (1) ((1 : Int32)))
      refine s_gd (rg_bool (rg_m (rg_b rfl : Rg (1) (1) ((1 : Int32))) (by decide))) ?_
      exact s_some ⟨rfl, (rg_m (rg_b rfl : Rg (1) (1) ((1 : Int32))) (by decide)), (fun _ => (rg_m i_f_4 (by decide)))⟩
    · have _ := c_3
      refine s_gd (rg_bool (rg_m (rg_b rfl : Rg (0) (0) ((0 : Int32))) (by decide))) ?_
      exact s_some ⟨rfl, (rg_m (rg_b rfl : Rg (0) (0) ((0 : Int32))) (by decide)), (fun q => absurd (rz_s (rg_b rfl : Rg (0) (0) ((0 : Int32))) (rg_b rfl : Rg (0) (0) (0 : Int32))) q)⟩
set_option maxRecDepth 20000 in
theorem zX11_attacked {ρ : Nat → Nat} {c : Cm} {F : Nat} (hF : 700000 ≤ F) {h : Hp} {x0 : Nat} {x1 : Int32} {x2 : Int32} {x3 : Int32} (T : TH ρ c h) (r_x0 : ρ x0 = 12) (i_x1 : Rg (-2147483648) (2147483647) (x1)) (i_x2 : Rg (-2147483648) (2147483647) (x2)) (i_x3 : Rg (-2147483648) (2147483647) (x3)) : Sat (sX11_attacked F h x0 x1 x2 x3) (ZI0 h (-102) (1)) := by
  unfold sX11_attacked sX11_attacked_15 sX11_attacked_52
  refine s_cP0 (zX11_isSquare hF T r_x0 i_x2) (fun o_1 e_o_1 i_o_1 p_o_1 => ?_)
  have T_1 := th_eq e_o_1 T
  refine s_br (fun c_2 => ?_) (fun c_2 => ?_)
  · have _ := c_2
    have i_f_3 : Rg (0) (0) (o_1.1) := rg_eq c_2 (rg_b rfl : Rg (0) (0) (0 : Int32))
    exact s_some ⟨(e_o_1.trans rfl), (rg_m (rg_b rfl : Rg (-101) (-101) ((- 101 : Int32))) (by decide))⟩
  · have _ := c_2
    have i_f_4 : Rg (1) (1) (o_1.1) := rg_nlo c_2 i_o_1 (rg_b rfl : Rg (0) (0) (0 : Int32))
    have p_f_5 := p_o_1 c_2
    refine s_cP0 (zX11_isSide hF T_1 i_x3) (fun o_3 e_o_3 i_o_3 p_o_3 => ?_)
    have T_6 := th_eq e_o_3 T_1
    refine s_br (fun c_7 => ?_) (fun c_7 => ?_)
    · have _ := c_7
      have i_f_8 : Rg (0) (0) (o_3.1) := rg_eq c_7 (rg_b rfl : Rg (0) (0) (0 : Int32))
      exact s_some ⟨(e_o_3.trans (e_o_1.trans rfl)), (rg_m (rg_b rfl : Rg (-101) (-101) ((- 101 : Int32))) (by decide))⟩
    · have _ := c_7
      have i_f_9 : Rg (1) (1) (o_3.1) := rg_nlo c_7 i_o_3 (rg_b rfl : Rg (0) (0) (0 : Int32))
      have p_f_10 := p_o_3 c_7
      refine s_cP0 (zX11_isPlace hF T_6 r_x0 i_x1) (fun o_5 e_o_5 i_o_5 p_o_5 => ?_)
      have T_11 := th_eq e_o_5 T_6
      refine s_br (fun c_12 => ?_) (fun c_12 => ?_)
      · have _ := c_12
        have i_f_13 : Rg (0) (0) (o_5.1) := rg_eq c_12 (rg_b rfl : Rg (0) (0) (0 : Int32))
        exact s_some ⟨(e_o_5.trans (e_o_3.trans (e_o_1.trans rfl))), (rg_m (rg_b rfl : Rg (-102) (-102) ((- 102 : Int32))) (by decide))⟩
      · have _ := c_12
        have i_f_14 : Rg (1) (1) (o_5.1) := rg_nlo c_12 i_o_5 (rg_b rfl : Rg (0) (0) (0 : Int32))
        have p_f_15 := p_o_5 c_12
        obtain ⟨r_7, e_r_7, q_r_7⟩ := thR T_11 r_x0 (k := 12) (i := 6) (k2 := 6) rfl (by decide)
        refine s_ref e_r_7 ?_
        obtain ⟨r_8, e_r_8, q_r_8⟩ := thR T_11 r_x0 (k := 12) (i := 13) (k2 := 57) rfl (by decide)
        refine s_ref e_r_8 ?_
        refine s_gd (by rw [thN T_11 q_r_8 (k := 57) (n := 60) rfl (by decide)]; exact rg_inB p_f_15 (by decide)) ?_
        obtain ⟨r_10, e_r_10, q_r_10⟩ := thE T_11 q_r_8 (k := 57) (n := 60) (k2 := 4) (b := 59) (p_f_15 : Rg (0) (59) (x1)) (by decide) (by decide) (by decide)
        refine s_ref e_r_10 ?_
        refine s_cI0 (zX5_isHit hF T_11 q_r_7 q_r_10 p_f_5 p_f_10) (fun o_11 e_o_11 i_o_11 => ?_)
        have T_16 := th_eq e_o_11 T_11
        refine s_br (fun c_17 => ?_) (fun c_17 => ?_)
        · have _ := c_17
          have i_f_18 : Rg (0) (0) (o_11.1) := rg_eq c_17 (rg_b rfl : Rg (0) (0) (0 : Int32))
          exact s_some ⟨(e_o_11.trans (e_o_5.trans (e_o_3.trans (e_o_1.trans rfl)))), (rg_m (rg_b rfl : Rg (0) (0) ((0 : Int32))) (by decide))⟩
        · have _ := c_17
          have i_f_19 : Rg (1) (1) (o_11.1) := rg_nlo c_17 i_o_11 (rg_b rfl : Rg (0) (0) (0 : Int32))
          exact s_some ⟨(e_o_11.trans (e_o_5.trans (e_o_3.trans (e_o_1.trans rfl)))), (rg_m (rg_b rfl : Rg (1) (1) ((1 : Int32))) (by decide))⟩
set_option maxRecDepth 20000 in
theorem zX11_back {ρ : Nat → Nat} {c : Cm} {F : Nat} (hF : 700000 ≤ F) (hA : pmA c [(61, 999)]) {h : Hp} {x0 : Nat} {x1 : Int32} (T : TH ρ c h) (r_x0 : ρ x0 = 12) (i_x1 : Rg (-2147483648) (2147483647) (x1)) : Sat (sX11_back h x0 x1) (ZI ρ c (-103) (300)) := by
  unfold sX11_back 
  refine s_cP0 (zX11_isGame hF T i_x1) (fun o_1 e_o_1 i_o_1 p_o_1 => ?_)
  have T_1 := th_eq e_o_1 T
  refine s_br (fun c_2 => ?_) (fun c_2 => ?_)
  · have _ := c_2
    have i_f_3 : Rg (0) (0) (o_1.1) := rg_eq c_2 (rg_b rfl : Rg (0) (0) (0 : Int32))
    exact s_some ⟨(T_1), (rg_m (rg_b rfl : Rg (-101) (-101) ((- 101 : Int32))) (by decide))⟩
  · have _ := c_2
    have i_f_4 : Rg (1) (1) (o_1.1) := rg_nlo c_2 i_o_1 (rg_b rfl : Rg (0) (0) (0 : Int32))
    have p_f_5 := p_o_1 c_2
    obtain ⟨r_3, e_r_3, q_r_3⟩ := thR T_1 r_x0 (k := 12) (i := 17) (k2 := 61) rfl (by decide)
    refine s_ref e_r_3 ?_
    refine s_gd (by rw [thN T_1 q_r_3 (k := 61) (n := 8) rfl (by decide)]; exact rg_inB p_f_5 (by decide)) ?_
    refine s_br (fun c_6 => ?_) (fun c_6 => ?_)
    · have _ := c_6
      have i_f_7 : Rg (-1) (-1) ((hI o_1.2 r_3 x1.toNatClampNeg)) := rg_eq c_6 (rg_b rfl : Rg (-1) (-1) ((- 1 : Int32)))
      exact s_some ⟨(T_1), (rg_m (rg_b rfl : Rg (-102) (-102) ((- 102 : Int32))) (by decide))⟩
    · have _ := c_6
      have i_f_8 : Rg (0) (300) ((hI o_1.2 r_3 x1.toNatClampNeg)) := rg_nlo c_6 (thI T_1 q_r_3 (k := 61) rfl : Rg (-1) (300) ((hI o_1.2 r_3 x1.toNatClampNeg))) (rg_b rfl : Rg (-1) (-1) ((- 1 : Int32)))
      refine s_ref e_r_3 ?_
      refine s_gd (by rw [thN T_1 q_r_3 (k := 61) (n := 8) rfl (by decide)]; exact rg_inB p_f_5 (by decide)) ?_
      refine s_br (fun c_9 => ?_) (fun c_9 => ?_)
      · have _ := c_9
        have i_f_10 : Rg (0) (0) ((hI o_1.2 r_3 x1.toNatClampNeg)) := rg_eq c_9 (rg_b rfl : Rg (0) (0) (0 : Int32))
        exact s_some ⟨(T_1), (rg_m (rg_b rfl : Rg (-103) (-103) ((- 103 : Int32))) (by decide))⟩
      · have _ := c_9
        have i_f_11 : Rg (1) (300) ((hI o_1.2 r_3 x1.toNatClampNeg)) := rg_nlo c_9 i_f_8 (rg_b rfl : Rg (0) (0) (0 : Int32))
        refine s_ref e_r_3 ?_
        refine s_gd (by rw [thN T_1 q_r_3 (k := 61) (n := 8) rfl (by decide)]; exact rg_inB p_f_5 (by decide)) ?_
        refine s_gd (by rw [thN T_1 q_r_3 (k := 61) (n := 8) rfl (by decide)]; exact rg_inB p_f_5 (by decide)) ?_
        refine s_hq (th_wI T_1 q_r_3 (k := 61) (lo := (-1)) (hi := (300)) rfl ((rg_m (rg_sub i_f_11 (rg_b rfl : Rg (1) (1) ((1 : Int32))) (by decide) : Rg (0) (299) (((hI o_1.2 r_3 x1.toNatClampNeg) - (1 : Int32)))) (by decide)) : Rg (-1) (300) (((hI o_1.2 r_3 x1.toNatClampNeg) - (1 : Int32)))) (by decide) (by decide) (pm_a hA rfl)) (fun h_12 T_12 w_13 => ?_)
        refine s_ref (hr_w w_13 e_r_3) ?_
        refine s_gd (by rw [thN T_12 q_r_3 (k := 61) (n := 8) rfl (by decide)]; exact rg_inB p_f_5 (by decide)) ?_
        exact s_some ⟨(T_12), (rg_m ((rg_hs w_13 (rg_sub i_f_11 (rg_b rfl : Rg (1) (1) ((1 : Int32))) (by decide) : Rg (0) (299) (((hI o_1.2 r_3 x1.toNatClampNeg) - (1 : Int32))))) : Rg (0) (299) (hI h_12 r_3 x1.toNatClampNeg)) (by decide))⟩
set_option maxRecDepth 20000 in
theorem zX1_isPlain {ρ : Nat → Nat} {c : Cm} {F : Nat} (hF : 700000 ≤ F) {h : Hp} {x0 : Nat} (T : TH ρ c h) (r_x0 : ρ x0 = 2) : Sat (sX1_isPlain h x0) (ZI0 h (0) (1)) := by
  unfold sX1_isPlain sX1_isPlain_21 sX1_isPlain_20
  refine s_cI0 (zX1_has hF T r_x0 (rg_m (rg_b rfl : Rg (9) (9) ((9 : Int32))) (by decide))) (fun o_1 e_o_1 i_o_1 => ?_)
  have T_1 := th_eq e_o_1 T
  refine s_br (fun c_2 => ?_) (fun c_2 => ?_)
  · have _ := c_2
    have i_f_3 : Rg (0) (0) (o_1.1) := rg_eq c_2 (rg_b rfl : Rg (0) (0) (0 : Int32))
    refine s_br (fun c_4 => ?_) (fun c_4 => ?_)
    · have _ := c_4
      have i_f_5 : Rg (0) (0) ((hI o_1.2 x0 7)) := rg_eq c_4 (rg_b rfl : Rg (0) (0) (0 : Int32))
      refine s_gd (rg_bool (rg_m (rg_b rfl : Rg (1) (1) ((1 : Int32))) (by decide))) ?_
      exact s_some ⟨(e_o_1.trans rfl), (rg_m (rg_b rfl : Rg (1) (1) ((1 : Int32))) (by decide))⟩
    · have _ := c_4
      have i_f_6 : Rg (1) (9) ((hI o_1.2 x0 7)) := rg_nlo c_4 (thI T_1 r_x0 (k := 2) (i := 7) rfl : Rg (0) (9) ((hI o_1.2 x0 7))) (rg_b rfl : Rg (0) (0) (0 : Int32))
      refine s_gd (rg_bool (rg_m (rg_b rfl : Rg (0) (0) ((0 : Int32))) (by decide))) ?_
      exact s_some ⟨(e_o_1.trans rfl), (rg_m (rg_b rfl : Rg (0) (0) ((0 : Int32))) (by decide))⟩
  · have _ := c_2
    have i_f_7 : Rg (1) (1) (o_1.1) := rg_nlo c_2 i_o_1 (rg_b rfl : Rg (0) (0) (0 : Int32))
    refine s_gd (rg_bool (rg_m (rg_b rfl : Rg (0) (0) ((0 : Int32))) (by decide))) ?_
    exact s_some ⟨(e_o_1.trans rfl), (rg_m (rg_b rfl : Rg (0) (0) ((0 : Int32))) (by decide))⟩
set_option maxRecDepth 20000 in
theorem zX5_hasLateMan_17 {ρ : Nat → Nat} {c : Cm} {h0 : Hp} {F : Nat} (hF : 700000 ≤ F) : ∀ (f : Nat) {h : Hp} {x0 : Nat} {x1 : Nat} {x2 : Int64} {x4 : Int32}, h = h0 → TH ρ c h → ρ x0 = 6 → ρ x1 = 4 → Rg (0) (64) (x4) → (64 - x4.toInt).toNat < f → Sat (sX5_hasLateMan_17 F f h x0 x1 x2 x4) (ZI0 h0 (0) (1)) := by
  intro f
  induction f with
  | zero => intros; omega
  | succ f ih =>
    intro h x0 x1 x2 x4 E T r_x0 r_x1 i_x4 hm
    rw [sX5_hasLateMan_17]
    unfold sX5_hasLateMan_89 sX5_hasLateMan_83
    obtain ⟨C_17, hC_17⟩ : ∃ C : Int, C = x4.toInt := ⟨_, rfl⟩
    have hk_17 : ∀ {h : Hp} {x0 : Nat} {x1 : Nat} {x2 : Int64} {x4 : Int32}, h = h0 → TH ρ c h → ρ x0 = 6 → ρ x1 = 4 → Rg (0) (64) (x4) → C_17 < x4.toInt → Sat (sX5_hasLateMan_17 F f h x0 x1 x2 x4) (ZI0 h0 (0) (1)) := by
      intro h' x0' x1' x2' x4' E' T' r_x0' r_x1' i_x4' hl
      exact ih E' T' r_x0' r_x1' i_x4' (by have := i_x4'.1; have := i_x4'.2; omega)
    have hc_17 : C_17 ≤ x4.toInt := by omega
    refine s_br (fun c_1 => ?_) (fun c_1 => ?_)
    · have _ := c_1
      have i_f_2 : Rg (64) (64) (x4) := rg_le2 c_1 (rg_b rfl : Rg (64) (64) ((64 : Int32))) i_x4
      exact s_some ⟨E, (rg_m (rg_b rfl : Rg (0) (0) ((0 : Int32))) (by decide))⟩
    · have _ := c_1
      have i_f_3 : Rg (0) (63) (x4) := rg_lt1 (nle_lt c_1) i_x4 (rg_b rfl : Rg (64) (64) ((64 : Int32)))
      refine s_br (fun c_4 => ?_) (fun c_4 => ?_)
      · have _ := c_4
        exact s_some ⟨E, (rg_m (rg_b rfl : Rg (0) (0) ((0 : Int32))) (by decide))⟩
      · have _ := c_4
        refine s_cI0 (zX11_lowest hF T) (fun o_3 e_o_3 i_o_3 => ?_)
        have T_5 := th_eq e_o_3 T
        refine s_q (fun v_4 e_6 => ?_)
        obtain ⟨r_5, e_r_5, q_r_5⟩ := thR T_5 r_x1 (k := 4) (i := 0) (k2 := 34) rfl (by decide)
        refine s_ref e_r_5 ?_
        refine s_gd (by rw [thN T_5 q_r_5 (k := 34) (n := 64) rfl (by decide)]; exact rg_inB i_o_3 (by decide)) ?_
        refine s_q (fun v_7 e_7 => ?_)
        have i_v_7 : Rg (-1) (23) (v_7) := by rw [e_7]; exact (thI T_5 q_r_5 (k := 34) rfl : Rg (-1) (23) (hI o_3.2 r_5 o_3.1.toNatClampNeg))
        obtain ⟨r_8, e_r_8, q_r_8⟩ := thR T_5 r_x0 (k := 6) (i := 0) (k2 := 2) rfl (by decide)
        refine s_ref e_r_8 ?_
        refine s_cI0 (zX1_becomesOthers hF T_5 q_r_8 (rg_m (rg_shrk 1 (by decide) i_v_7 (by decide) : Rg (-1) (11) ((v_7 >>> ((1 : Int32) &&& 31)))) (by decide))) (fun o_9 e_o_9 i_o_9 => ?_)
        have T_8 := th_eq e_o_9 T_5
        refine s_br (fun c_9 => ?_) (fun c_9 => ?_)
        · have _ := c_9
          have i_f_10 : Rg (0) (0) (o_9.1) := rg_eq c_9 (rg_b rfl : Rg (0) (0) (0 : Int32))
          refine s_q (fun v_1q3 e_11 => ?_)
          have i_v_1q3 : Rg (1) (64) (v_1q3) := by rw [e_11]; exact (rg_add i_f_3 (rg_b rfl : Rg (1) (1) ((1 : Int32))) (by decide) : Rg (1) (64) (x4 + (1 : Int32)))
          have m_12 : (v_1q3).toInt = x4.toInt + 1 := by rw [e_11]; exact rg_inc i_f_3 (by decide)
          exact hk_17 (e_o_9.trans (e_o_3.trans E)) T_8 r_x0 r_x1 (rg_m i_v_1q3 (by decide)) (by have := hc_17; omega)
        · have _ := c_9
          have i_f_13 : Rg (1) (1) (o_9.1) := rg_nlo c_9 i_o_9 (rg_b rfl : Rg (0) (0) (0 : Int32))
          refine s_ref (hr_e e_o_9 e_r_8) ?_
          refine s_cI0 (zX1_isLast hF T_8 q_r_8 i_o_3 (rg_and (rg_b rfl : Rg (1) (1) ((1 : Int32))) (by decide) : Rg (0) (1) ((v_7 &&& (1 : Int32))))) (fun o_12 e_o_12 i_o_12 => ?_)
          have T_14 := th_eq e_o_12 T_8
          refine s_br (fun c_15 => ?_) (fun c_15 => ?_)
          · have _ := c_15
            have i_f_16 : Rg (0) (0) (o_12.1) := rg_eq c_15 (rg_b rfl : Rg (0) (0) (0 : Int32))
            refine s_q (fun v_1q4 e_17 => ?_)
            have i_v_1q4 : Rg (1) (64) (v_1q4) := by rw [e_17]; exact (rg_add i_f_3 (rg_b rfl : Rg (1) (1) ((1 : Int32))) (by decide) : Rg (1) (64) (x4 + (1 : Int32)))
            have m_18 : (v_1q4).toInt = x4.toInt + 1 := by rw [e_17]; exact rg_inc i_f_3 (by decide)
            exact hk_17 (e_o_12.trans (e_o_9.trans (e_o_3.trans E))) T_14 r_x0 r_x1 (rg_m i_v_1q4 (by decide)) (by have := hc_17; omega)
          · have _ := c_15
            have i_f_19 : Rg (1) (1) (o_12.1) := rg_nlo c_15 i_o_12 (rg_b rfl : Rg (0) (0) (0 : Int32))
            exact s_some ⟨(e_o_12.trans (e_o_9.trans (e_o_3.trans E))), (rg_m (rg_b rfl : Rg (1) (1) ((1 : Int32))) (by decide))⟩
set_option maxRecDepth 20000 in
theorem zX5_hasLateMan {ρ : Nat → Nat} {c : Cm} {F : Nat} (hF : 700000 ≤ F) {h : Hp} {x0 : Nat} {x1 : Nat} (T : TH ρ c h) (r_x0 : ρ x0 = 6) (r_x1 : ρ x1 = 4) : Sat (sX5_hasLateMan F h x0 x1) (ZI0 h (0) (1)) := by
  unfold sX5_hasLateMan 
  obtain ⟨r_1, e_r_1, q_r_1⟩ := thR T r_x1 (k := 4) (i := 1) (k2 := 35) rfl (by decide)
  refine s_ref e_r_1 ?_
  refine s_gd (by rw [thN T q_r_1 (k := 35) (n := 2) rfl (by decide)]; exact rg_inB (rg_b rfl : Rg (0) (0) ((0 : Int32))) (by decide)) ?_
  refine s_ref e_r_1 ?_
  refine s_gd (by rw [thN T q_r_1 (k := 35) (n := 2) rfl (by decide)]; exact rg_inB (rg_b rfl : Rg (1) (1) ((1 : Int32))) (by decide)) ?_
  refine s_q (fun v_5 e_1 => ?_)
  have m_2 : Rg (0) (64) ((0 : Int32)) := (rg_m (rg_b rfl : Rg (0) (0) ((0 : Int32))) (by decide))
  exact zX5_hasLateMan_17 hF F rfl T r_x0 r_x1 (rg_m (rg_b rfl : Rg (0) (0) ((0 : Int32))) (by decide)) (by have := m_2.1; have := m_2.2; omega)
set_option maxRecDepth 20000 in
theorem zX5_hasRightMen_117 {ρ : Nat → Nat} {c : Cm} {h0 : Hp} {F : Nat} (hF : 700000 ≤ F) {k_15 : Hp → Nat → Nat → Int32 → Option (Int32 × Hp)} {C_15 : Int} (hk_15 : ∀ {h : Hp} {x0 : Nat} {x1 : Nat} {x2 : Int32}, h = h0 → TH ρ c h → ρ x0 = 6 → ρ x1 = 4 → Rg (0) (2) (x2) → C_15 < x2.toInt → Sat (k_15 h x0 x1 x2) (ZI0 h0 (0) (1))) {h : Hp} {x0 : Nat} {x1 : Nat} {x2 : Int32} (E : h = h0) (T : TH ρ c h) (r_x0 : ρ x0 = 6) (r_x1 : ρ x1 = 4) (i_x2 : Rg (0) (1) (x2)) (hc_15 : C_15 ≤ x2.toInt) : Sat (sX5_hasRightMen_117 F k_15 h x0 x1 x2) (ZI0 h0 (0) (1)) := by
  unfold sX5_hasRightMen_117 sX5_hasRightMen_132
  obtain ⟨r_1, e_r_1, q_r_1⟩ := thR T r_x0 (k := 6) (i := 0) (k2 := 2) rfl (by decide)
  refine s_ref e_r_1 ?_
  refine s_cI0 (zX3_inHand hF T r_x1 i_x2 (rg_m (thI T q_r_1 (k := 2) (i := 4) rfl : Rg (-1) (11) ((hI h r_1 4))) (by decide))) (fun o_2 e_o_2 i_o_2 => ?_)
  have T_1 := th_eq e_o_2 T
  refine s_br (fun c_2 => ?_) (fun c_2 => ?_)
  · have _ := c_2
    have i_f_3 : Rg (0) (0) (o_2.1) := rg_le1 c_2 i_o_2 (rg_b rfl : Rg (0) (0) (0 : Int32))
    refine s_q (fun v_4 e_4 => ?_)
    have i_v_4 : Rg (1) (2) (v_4) := by rw [e_4]; exact (rg_add i_x2 (rg_b rfl : Rg (1) (1) ((1 : Int32))) (by decide) : Rg (1) (2) (x2 + (1 : Int32)))
    have m_5 : (v_4).toInt = x2.toInt + 1 := by rw [e_4]; exact rg_inc i_x2 (by decide)
    exact hk_15 (e_o_2.trans E) T_1 r_x0 r_x1 (rg_m i_v_4 (by decide)) (by have := hc_15; omega)
  · have _ := c_2
    have i_f_6 : Rg (1) (31) (o_2.1) := rg_lt2 (nle_lt c_2) (rg_b rfl : Rg (0) (0) (0 : Int32)) i_o_2
    exact s_some ⟨(e_o_2.trans E), (rg_m (rg_b rfl : Rg (0) (0) ((0 : Int32))) (by decide))⟩
set_option maxRecDepth 20000 in
theorem zX5_hasRightMen_96 {ρ : Nat → Nat} {c : Cm} {h0 : Hp} {F : Nat} (hF : 700000 ≤ F) {k_15 : Hp → Nat → Nat → Int32 → Option (Int32 × Hp)} {C_15 : Int} (hk_15 : ∀ {h : Hp} {x0 : Nat} {x1 : Nat} {x2 : Int32}, h = h0 → TH ρ c h → ρ x0 = 6 → ρ x1 = 4 → Rg (0) (2) (x2) → C_15 < x2.toInt → Sat (k_15 h x0 x1 x2) (ZI0 h0 (0) (1))) {h : Hp} {x0 : Nat} {x1 : Nat} {x2 : Int32} {x3 : Int32} (E : h = h0) (T : TH ρ c h) (r_x0 : ρ x0 = 6) (r_x1 : ρ x1 = 4) (i_x2 : Rg (0) (1) (x2)) (i_x3 : Rg (-2147483648) (2147483647) (x3)) (hc_15 : C_15 ≤ x2.toInt) : Sat (sX5_hasRightMen_96 F k_15 h x0 x1 x2 x3) (ZI0 h0 (0) (1)) := by
  unfold sX5_hasRightMen_96 sX5_hasRightMen_132
  refine s_br (fun c_1 => ?_) (fun c_1 => ?_)
  · have _ := c_1
    have i_f_2 : Rg (2) (2147483647) (x3) := rg_lt2 c_1 (rg_b rfl : Rg (1) (1) ((1 : Int32))) i_x3
    exact s_some ⟨E, (rg_m (rg_b rfl : Rg (0) (0) ((0 : Int32))) (by decide))⟩
  · have _ := c_1
    have i_f_3 : Rg (-2147483648) (1) (x3) := rg_le1 (nlt_le c_1) i_x3 (rg_b rfl : Rg (1) (1) ((1 : Int32)))
    refine s_br (fun c_4 => ?_) (fun c_4 => ?_)
    · have _ := c_4
      have i_f_5 : Rg (0) (0) (x3) := rg_eq c_4 (rg_b rfl : Rg (0) (0) (0 : Int32))
      obtain ⟨r_3, e_r_3, q_r_3⟩ := thR T r_x0 (k := 6) (i := 0) (k2 := 2) rfl (by decide)
      refine s_ref e_r_3 ?_
      refine s_cI0 (zX1_has hF T q_r_3 (rg_m (rg_b rfl : Rg (8) (8) ((8 : Int32))) (by decide))) (fun o_4 e_o_4 i_o_4 => ?_)
      have T_6 := th_eq e_o_4 T
      refine s_br (fun c_7 => ?_) (fun c_7 => ?_)
      · have _ := c_7
        have i_f_8 : Rg (0) (0) (o_4.1) := rg_eq c_7 (rg_b rfl : Rg (0) (0) (0 : Int32))
        exact zX5_hasRightMen_117 hF @hk_15 (e_o_4.trans E) T_6 r_x0 r_x1 i_x2 hc_15
      · have _ := c_7
        have i_f_9 : Rg (1) (1) (o_4.1) := rg_nlo c_7 i_o_4 (rg_b rfl : Rg (0) (0) (0 : Int32))
        exact s_some ⟨(e_o_4.trans E), (rg_m (rg_b rfl : Rg (0) (0) ((0 : Int32))) (by decide))⟩
    · have _ := c_4
      exact zX5_hasRightMen_117 hF @hk_15 E T r_x0 r_x1 i_x2 hc_15
set_option maxRecDepth 20000 in
theorem zX5_hasRightMen_33 {ρ : Nat → Nat} {c : Cm} {h0 : Hp} {F : Nat} (hF : 700000 ≤ F) {k_15 : Hp → Nat → Nat → Int32 → Option (Int32 × Hp)} {C_15 : Int} (hk_15 : ∀ {h : Hp} {x0 : Nat} {x1 : Nat} {x2 : Int32}, h = h0 → TH ρ c h → ρ x0 = 6 → ρ x1 = 4 → Rg (0) (2) (x2) → C_15 < x2.toInt → Sat (k_15 h x0 x1 x2) (ZI0 h0 (0) (1))) : ∀ (f : Nat) {h : Hp} {x0 : Nat} {x1 : Nat} {x2 : Int32} {x3 : Int32} {x4 : Int64} {x6 : Int32}, h = h0 → TH ρ c h → ρ x0 = 6 → ρ x1 = 4 → Rg (0) (1) (x2) → Rg (-2147483648) (2147483647) (x3) → Rg (0) (64) (x6) → C_15 ≤ x2.toInt → (64 - x6.toInt).toNat < f → Sat (sX5_hasRightMen_33 F k_15 f h x0 x1 x2 x3 x4 x6) (ZI0 h0 (0) (1)) := by
  intro f
  induction f with
  | zero => intros; omega
  | succ f ih =>
    intro h x0 x1 x2 x3 x4 x6 E T r_x0 r_x1 i_x2 i_x3 i_x6 hc_15 hm
    rw [sX5_hasRightMen_33]
    unfold sX5_hasRightMen_88
    obtain ⟨C_33, hC_33⟩ : ∃ C : Int, C = x6.toInt := ⟨_, rfl⟩
    have hk_33 : ∀ {h : Hp} {x0 : Nat} {x1 : Nat} {x2 : Int32} {x3 : Int32} {x4 : Int64} {x6 : Int32}, h = h0 → TH ρ c h → ρ x0 = 6 → ρ x1 = 4 → Rg (0) (1) (x2) → Rg (-2147483648) (2147483647) (x3) → Rg (0) (64) (x6) → C_15 ≤ x2.toInt → C_33 < x6.toInt → Sat (sX5_hasRightMen_33 F k_15 f h x0 x1 x2 x3 x4 x6) (ZI0 h0 (0) (1)) := by
      intro h' x0' x1' x2' x3' x4' x6' E' T' r_x0' r_x1' i_x2' i_x3' i_x6' hc_15' hl
      exact ih E' T' r_x0' r_x1' i_x2' i_x3' i_x6' hc_15' (by have := i_x6'.1; have := i_x6'.2; omega)
    have hc_33 : C_33 ≤ x6.toInt := by omega
    refine s_br (fun c_1 => ?_) (fun c_1 => ?_)
    · have _ := c_1
      have i_f_2 : Rg (64) (64) (x6) := rg_le2 c_1 (rg_b rfl : Rg (64) (64) ((64 : Int32))) i_x6
      exact zX5_hasRightMen_96 hF @hk_15 E T r_x0 r_x1 i_x2 i_x3 hc_15
    · have _ := c_1
      have i_f_3 : Rg (0) (63) (x6) := rg_lt1 (nle_lt c_1) i_x6 (rg_b rfl : Rg (64) (64) ((64 : Int32)))
      refine s_br (fun c_4 => ?_) (fun c_4 => ?_)
      · have _ := c_4
        exact zX5_hasRightMen_96 hF @hk_15 E T r_x0 r_x1 i_x2 i_x3 hc_15
      · have _ := c_4
        refine s_cI0 (zX11_lowest hF T) (fun o_3 e_o_3 i_o_3 => ?_)
        have T_5 := th_eq e_o_3 T
        refine s_q (fun v_4 e_6 => ?_)
        obtain ⟨r_5, e_r_5, q_r_5⟩ := thR T_5 r_x1 (k := 4) (i := 0) (k2 := 34) rfl (by decide)
        refine s_ref e_r_5 ?_
        refine s_gd (by rw [thN T_5 q_r_5 (k := 34) (n := 64) rfl (by decide)]; exact rg_inB i_o_3 (by decide)) ?_
        obtain ⟨r_7, e_r_7, q_r_7⟩ := thR T_5 r_x0 (k := 6) (i := 0) (k2 := 2) rfl (by decide)
        refine s_ref e_r_7 ?_
        refine s_br (fun c_7 => ?_) (fun c_7 => ?_)
        · have _ := c_7
          refine s_q (fun v_1q1 e_8 => ?_)
          have i_v_1q1 : Rg (-2147483648) (2147483647) (v_1q1) := by rw [e_8]; exact (rg_top _ : Rg (-2147483648) (2147483647) (x3 + (1 : Int32)))
          refine s_q (fun v_2q1 e_9 => ?_)
          have i_v_2q1 : Rg (1) (64) (v_2q1) := by rw [e_9]; exact (rg_add i_f_3 (rg_b rfl : Rg (1) (1) ((1 : Int32))) (by decide) : Rg (1) (64) (x6 + (1 : Int32)))
          have m_10 : (v_2q1).toInt = x6.toInt + 1 := by rw [e_9]; exact rg_inc i_f_3 (by decide)
          exact hk_33 (e_o_3.trans E) T_5 r_x0 r_x1 i_x2 i_v_1q1 (rg_m i_v_2q1 (by decide)) hc_15 (by have := hc_33; omega)
        · have _ := c_7
          refine s_q (fun v_1q2 e_11 => ?_)
          have i_v_1q2 : Rg (-2147483648) (2147483647) (v_1q2) := by rw [e_11]; exact (rg_add i_x3 (rg_b rfl : Rg (0) (0) ((0 : Int32))) (by decide) : Rg (-2147483648) (2147483647) (x3 + (0 : Int32)))
          refine s_q (fun v_2q2 e_12 => ?_)
          have i_v_2q2 : Rg (1) (64) (v_2q2) := by rw [e_12]; exact (rg_add i_f_3 (rg_b rfl : Rg (1) (1) ((1 : Int32))) (by decide) : Rg (1) (64) (x6 + (1 : Int32)))
          have m_13 : (v_2q2).toInt = x6.toInt + 1 := by rw [e_12]; exact rg_inc i_f_3 (by decide)
          exact hk_33 (e_o_3.trans E) T_5 r_x0 r_x1 i_x2 i_v_1q2 (rg_m i_v_2q2 (by decide)) hc_15 (by have := hc_33; omega)
set_option maxRecDepth 20000 in
theorem zX5_hasRightMen_15 {ρ : Nat → Nat} {c : Cm} {h0 : Hp} {F : Nat} (hF : 700000 ≤ F) : ∀ (f : Nat) {h : Hp} {x0 : Nat} {x1 : Nat} {x2 : Int32}, h = h0 → TH ρ c h → ρ x0 = 6 → ρ x1 = 4 → Rg (0) (2) (x2) → (2 - x2.toInt).toNat < f → Sat (sX5_hasRightMen_15 F f h x0 x1 x2) (ZI0 h0 (0) (1)) := by
  intro f
  induction f with
  | zero => intros; omega
  | succ f ih =>
    intro h x0 x1 x2 E T r_x0 r_x1 i_x2 hm
    rw [sX5_hasRightMen_15]
    obtain ⟨C_15, hC_15⟩ : ∃ C : Int, C = x2.toInt := ⟨_, rfl⟩
    have hk_15 : ∀ {h : Hp} {x0 : Nat} {x1 : Nat} {x2 : Int32}, h = h0 → TH ρ c h → ρ x0 = 6 → ρ x1 = 4 → Rg (0) (2) (x2) → C_15 < x2.toInt → Sat (sX5_hasRightMen_15 F f h x0 x1 x2) (ZI0 h0 (0) (1)) := by
      intro h' x0' x1' x2' E' T' r_x0' r_x1' i_x2' hl
      exact ih E' T' r_x0' r_x1' i_x2' (by have := i_x2'.1; have := i_x2'.2; omega)
    have hc_15 : C_15 ≤ x2.toInt := by omega
    refine s_br (fun c_1 => ?_) (fun c_1 => ?_)
    · have _ := c_1
      have i_f_2 : Rg (2) (2) (x2) := rg_le2 c_1 (rg_b rfl : Rg (2) (2) ((2 : Int32))) i_x2
      exact s_some ⟨E, (rg_m (rg_b rfl : Rg (1) (1) ((1 : Int32))) (by decide))⟩
    · have _ := c_1
      have i_f_3 : Rg (0) (1) (x2) := rg_lt1 (nle_lt c_1) i_x2 (rg_b rfl : Rg (2) (2) ((2 : Int32)))
      obtain ⟨r_2, e_r_2, q_r_2⟩ := thR T r_x1 (k := 4) (i := 1) (k2 := 35) rfl (by decide)
      refine s_ref e_r_2 ?_
      refine s_gd (by rw [thN T q_r_2 (k := 35) (n := 2) rfl (by decide)]; exact rg_inB i_f_3 (by decide)) ?_
      refine s_q (fun v_4 e_4 => ?_)
      have m_5 : Rg (0) (64) ((0 : Int32)) := (rg_m (rg_b rfl : Rg (0) (0) ((0 : Int32))) (by decide))
      exact zX5_hasRightMen_33 hF @hk_15 F E T r_x0 r_x1 i_f_3 (rg_m (rg_b rfl : Rg (0) (0) ((0 : Int32))) (by decide)) (rg_m (rg_b rfl : Rg (0) (0) ((0 : Int32))) (by decide)) hc_15 (by have := m_5.1; have := m_5.2; omega)
set_option maxRecDepth 20000 in
theorem zX5_hasRightMen {ρ : Nat → Nat} {c : Cm} {F : Nat} (hF : 700000 ≤ F) {h : Hp} {x0 : Nat} {x1 : Nat} (T : TH ρ c h) (r_x0 : ρ x0 = 6) (r_x1 : ρ x1 = 4) : Sat (sX5_hasRightMen F h x0 x1) (ZI0 h (0) (1)) := by
  unfold sX5_hasRightMen 
  obtain ⟨r_1, e_r_1, q_r_1⟩ := thR T r_x0 (k := 6) (i := 0) (k2 := 2) rfl (by decide)
  refine s_ref e_r_1 ?_
  refine s_br (fun c_1 => ?_) (fun c_1 => ?_)
  · have _ := c_1
    have i_f_2 : Rg (-1) (-1) ((hI h r_1 4)) := rg_eq c_1 (rg_b rfl : Rg (-1) (-1) ((- 1 : Int32)))
    exact s_some ⟨rfl, (rg_m (rg_b rfl : Rg (1) (1) ((1 : Int32))) (by decide))⟩
  · have _ := c_1
    have i_f_3 : Rg (0) (11) ((hI h r_1 4)) := rg_nlo c_1 (thI T q_r_1 (k := 2) (i := 4) rfl : Rg (-1) (11) ((hI h r_1 4))) (rg_b rfl : Rg (-1) (-1) ((- 1 : Int32)))
    have m_4 : Rg (0) (2) ((0 : Int32)) := (rg_m (rg_b rfl : Rg (0) (0) ((0 : Int32))) (by decide))
    exact zX5_hasRightMen_15 hF F rfl T r_x0 r_x1 (rg_m (rg_b rfl : Rg (0) (0) ((0 : Int32))) (by decide)) (by have := m_4.1; have := m_4.2; omega)
set_option maxRecDepth 20000 in
theorem zX5_wentOver_21 {ρ : Nat → Nat} {c : Cm} {h0 : Hp} {F : Nat} (hF : 700000 ≤ F) : ∀ (f : Nat) {h : Hp} {x0 : Nat} {x1 : Int32} {x2 : Int32} {x3 : Int32} {x4 : Int32}, h = h0 → TH ρ c h → ρ x0 = 4 → Rg (0) (63) (x1) → Rg (2) (7) (x2) → Rg (-31) (31) (x3) → Rg (1) (7) (x4) → (7 - x4.toInt).toNat < f → Sat (sX5_wentOver_21 F f h x0 x1 x2 x3 x4) (ZI0 h0 (0) (1)) := by
  intro f
  induction f with
  | zero => intros; omega
  | succ f ih =>
    intro h x0 x1 x2 x3 x4 E T r_x0 i_x1 i_x2 i_x3 i_x4 hm
    rw [sX5_wentOver_21]
    obtain ⟨C_21, hC_21⟩ : ∃ C : Int, C = x4.toInt := ⟨_, rfl⟩
    have hk_21 : ∀ {h : Hp} {x0 : Nat} {x1 : Int32} {x2 : Int32} {x3 : Int32} {x4 : Int32}, h = h0 → TH ρ c h → ρ x0 = 4 → Rg (0) (63) (x1) → Rg (2) (7) (x2) → Rg (-31) (31) (x3) → Rg (1) (7) (x4) → C_21 < x4.toInt → Sat (sX5_wentOver_21 F f h x0 x1 x2 x3 x4) (ZI0 h0 (0) (1)) := by
      intro h' x0' x1' x2' x3' x4' E' T' r_x0' i_x1' i_x2' i_x3' i_x4' hl
      exact ih E' T' r_x0' i_x1' i_x2' i_x3' i_x4' (by have := i_x4'.1; have := i_x4'.2; omega)
    have hc_21 : C_21 ≤ x4.toInt := by omega
    refine s_br (fun c_1 => ?_) (fun c_1 => ?_)
    · have _ := c_1
      have i_f_2 : Rg (2) (7) (x4) := rg_le2 c_1 i_x2 i_x4
      exact s_some ⟨E, (rg_m (rg_b rfl : Rg (1) (1) ((1 : Int32))) (by decide))⟩
    · have _ := c_1
      have i_f_3 : Rg (1) (6) (x4) := rg_lt1 (nle_lt c_1) i_x4 i_x2
      refine s_cI0 (zX3_passSquare hF T r_x0 (rg_m i_f_3 (by decide))) (fun o_2 e_o_2 i_o_2 => ?_)
      have T_4 := th_eq e_o_2 T
      refine s_br (fun c_5 => ?_) (fun c_5 => ?_)
      · have _ := c_5
        have i_f_6 : Rg (0) (63) ((x1 + (x4 * x3))) := rg_eq c_5.symm i_o_2
        refine s_q (fun v_4 e_7 => ?_)
        have i_v_4 : Rg (2) (7) (v_4) := by rw [e_7]; exact (rg_add i_f_3 (rg_b rfl : Rg (1) (1) ((1 : Int32))) (by decide) : Rg (2) (7) (x4 + (1 : Int32)))
        have m_8 : (v_4).toInt = x4.toInt + 1 := by rw [e_7]; exact rg_inc i_f_3 (by decide)
        exact hk_21 (e_o_2.trans E) T_4 r_x0 i_x1 i_x2 i_x3 (rg_m i_v_4 (by decide)) (by have := hc_21; omega)
      · have _ := c_5
        exact s_some ⟨(e_o_2.trans E), (rg_m (rg_b rfl : Rg (0) (0) ((0 : Int32))) (by decide))⟩
set_option maxRecDepth 20000 in
theorem zX5_wentOver {ρ : Nat → Nat} {c : Cm} {F : Nat} (hF : 700000 ≤ F) {h : Hp} {x0 : Nat} {x1 : Int32} {x2 : Int32} (T : TH ρ c h) (r_x0 : ρ x0 = 4) (i_x1 : Rg (0) (63) (x1)) (i_x2 : Rg (2) (7) (x2)) : Sat (sX5_wentOver F h x0 x1 x2) (ZI0 h (0) (1)) := by
  unfold sX5_wentOver sX5_wentOver_17
  refine s_br (fun c_1 => ?_) (fun c_1 => ?_)
  · have _ := c_1
    exact (rc_le c_1 i_x2 (rg_b rfl : Rg (0) (0) (0 : Int32)) (by decide)).elim
  · have _ := c_1
    refine s_cI0 (zX3_passSquare hF T r_x0 (rg_m (rg_b rfl : Rg (0) (0) ((0 : Int32))) (by decide))) (fun o_2 e_o_2 i_o_2 => ?_)
    have T_2 := th_eq e_o_2 T
    refine s_gd (rg_ne0 i_x2 (by decide)) ?_
    have m_3 : Rg (1) (7) ((1 : Int32)) := (rg_m (rg_b rfl : Rg (1) (1) ((1 : Int32))) (by decide))
    exact zX5_wentOver_21 hF F (e_o_2.trans rfl) T_2 r_x0 i_x1 i_x2 (rg_divn (rg_m (rg_sub i_o_2 i_x1 (by decide) : Rg (-63) (63) ((o_2.1 - x1))) (by decide) : Rg (-63) (63) ((o_2.1 - x1))) i_x2 (by decide) : Rg (-31) (31) (((o_2.1 - x1) / x2))) (rg_m (rg_b rfl : Rg (1) (1) ((1 : Int32))) (by decide)) (by have := m_3.1; have := m_3.2; omega)
set_option maxRecDepth 20000 in
theorem zX5_hasRightPass_108 {ρ : Nat → Nat} {c : Cm} {h0 : Hp} {F : Nat} (hF : 700000 ≤ F) {k_60 : Hp → Nat → Nat → Int32 → Int32 → Int32 → Int32 → Option (Int32 × Hp)} {C_60 : Int} (hk_60 : ∀ {h : Hp} {x0 : Nat} {x1 : Nat} {x2 : Int32} {x3 : Int32} {x4 : Int32} {x5 : Int32}, h = h0 → TH ρ c h → ρ x0 = 6 → ρ x1 = 4 → Rg (2) (7) (x2) → Rg (0) (63) (x3) → Rg (0) (23) (x4) → Rg (0) (64) (x5) → C_60 < x5.toInt → Sat (k_60 h x0 x1 x2 x3 x4 x5) (ZI0 h0 (0) (1))) : ∀ (f : Nat) {h : Hp} {x0 : Nat} {x1 : Nat} {x2 : Int32} {x3 : Int32} {x4 : Int32} {x5 : Int32} {x6 : Int32} {x7 : Int32}, h = h0 → TH ρ c h → ρ x0 = 6 → ρ x1 = 4 → Rg (2) (7) (x2) → Rg (0) (63) (x3) → Rg (0) (23) (x4) → Rg (0) (63) (x5) → Rg (0) (98303) (x6) → Rg (0) (172032) (x7) → C_60 ≤ x5.toInt → (172032 - x7.toInt).toNat < f → Sat (sX5_hasRightPass_108 F k_60 f h x0 x1 x2 x3 x4 x5 x6 x7) (ZI0 h0 (0) (1)) := by
  intro f
  induction f with
  | zero => intros; omega
  | succ f ih =>
    intro h x0 x1 x2 x3 x4 x5 x6 x7 E T r_x0 r_x1 i_x2 i_x3 i_x4 i_x5 i_x6 i_x7 hc_60 hm
    rw [sX5_hasRightPass_108]
    unfold sX5_hasRightPass_179 sX5_hasRightPass_173
    obtain ⟨C_108, hC_108⟩ : ∃ C : Int, C = x7.toInt := ⟨_, rfl⟩
    have hk_108 : ∀ {h : Hp} {x0 : Nat} {x1 : Nat} {x2 : Int32} {x3 : Int32} {x4 : Int32} {x5 : Int32} {x6 : Int32} {x7 : Int32}, h = h0 → TH ρ c h → ρ x0 = 6 → ρ x1 = 4 → Rg (2) (7) (x2) → Rg (0) (63) (x3) → Rg (0) (23) (x4) → Rg (0) (63) (x5) → Rg (0) (98303) (x6) → Rg (0) (172032) (x7) → C_60 ≤ x5.toInt → C_108 < x7.toInt → Sat (sX5_hasRightPass_108 F k_60 f h x0 x1 x2 x3 x4 x5 x6 x7) (ZI0 h0 (0) (1)) := by
      intro h' x0' x1' x2' x3' x4' x5' x6' x7' E' T' r_x0' r_x1' i_x2' i_x3' i_x4' i_x5' i_x6' i_x7' hc_60' hl
      exact ih E' T' r_x0' r_x1' i_x2' i_x3' i_x4' i_x5' i_x6' i_x7' hc_60' (by have := i_x7'.1; have := i_x7'.2; omega)
    have hc_108 : C_108 ≤ x7.toInt := by omega
    obtain ⟨r_1, e_r_1, q_r_1⟩ := thR T r_x0 (k := 6) (i := 1) (k2 := 11) rfl (by decide)
    refine s_ref e_r_1 ?_
    obtain ⟨r_2, e_r_2, q_r_2⟩ := thR T q_r_1 (k := 11) (i := 0) (k2 := 50) rfl (by decide)
    refine s_ref e_r_2 ?_
    refine s_gd (by rw [thN T q_r_2 (k := 50) (n := 98305) rfl (by decide)]; exact rg_inB (rg_add i_x6 (rg_b rfl : Rg (1) (1) ((1 : Int32))) (by decide) : Rg (1) (98304) ((x6 + (1 : Int32)))) (by decide)) ?_
    refine s_br (fun c_1 => ?_) (fun c_1 => ?_)
    · have _ := c_1
      refine s_q (fun v_1q1 e_2 => ?_)
      have i_v_1q1 : Rg (1) (64) (v_1q1) := by rw [e_2]; exact (rg_add i_x5 (rg_b rfl : Rg (1) (1) ((1 : Int32))) (by decide) : Rg (1) (64) (x5 + (1 : Int32)))
      have m_3 : (v_1q1).toInt = x5.toInt + 1 := by rw [e_2]; exact rg_inc i_x5 (by decide)
      exact hk_60 E T r_x0 r_x1 i_x2 i_x3 i_x4 (rg_m i_v_1q1 (by decide)) (by have := hc_60; omega)
    · have _ := c_1
      have i_f_4 : Rg (0) (172031) (x7) := rg_lt1 (nle_lt c_1) i_x7 (thI T q_r_2 (k := 50) rfl : Rg (0) (172032) ((hI h r_2 (x6 + (1 : Int32)).toNatClampNeg)))
      have i_f_5 : Rg (1) (172032) ((hI h r_2 (x6 + (1 : Int32)).toNatClampNeg)) := rg_lt2 (nle_lt c_1) i_x7 (thI T q_r_2 (k := 50) rfl : Rg (0) (172032) ((hI h r_2 (x6 + (1 : Int32)).toNatClampNeg)))
      refine s_ref e_r_1 ?_
      obtain ⟨r_6, e_r_6, q_r_6⟩ := thR T q_r_1 (k := 11) (i := 1) (k2 := 51) rfl (by decide)
      refine s_ref e_r_6 ?_
      refine s_gd (by rw [thN T q_r_6 (k := 51) (n := 172032) rfl (by decide)]; exact rg_inB i_f_4 (by decide)) ?_
      refine s_br (fun c_6 => ?_) (fun c_6 => ?_)
      · have _ := c_6
        have i_f_7 : Rg (0) (0) ((((hI h r_6 x7.toNatClampNeg) >>> ((6 : Int32) &&& 31)) &&& (16 : Int32))) := rg_eq c_6 (rg_b rfl : Rg (0) (0) (0 : Int32))
        refine s_q (fun v_1q2 e_8 => ?_)
        have i_v_1q2 : Rg (1) (172032) (v_1q2) := by rw [e_8]; exact (rg_add i_f_4 (rg_b rfl : Rg (1) (1) ((1 : Int32))) (by decide) : Rg (1) (172032) (x7 + (1 : Int32)))
        have m_9 : (v_1q2).toInt = x7.toInt + 1 := by rw [e_8]; exact rg_inc i_f_4 (by decide)
        exact hk_108 E T r_x0 r_x1 i_x2 i_x3 i_x4 i_x5 i_x6 (rg_m i_v_1q2 (by decide)) hc_60 (by have := hc_108; omega)
      · have _ := c_6
        have i_f_10 : Rg (1) (16) ((((hI h r_6 x7.toNatClampNeg) >>> ((6 : Int32) &&& 31)) &&& (16 : Int32))) := rg_nlo c_6 (rg_and (rg_b rfl : Rg (16) (16) ((16 : Int32))) (by decide) : Rg (0) (16) ((((hI h r_6 x7.toNatClampNeg) >>> ((6 : Int32) &&& 31)) &&& (16 : Int32)))) (rg_b rfl : Rg (0) (0) (0 : Int32))
        refine s_ref e_r_1 ?_
        refine s_ref e_r_6 ?_
        refine s_gd (by rw [thN T q_r_6 (k := 51) (n := 172032) rfl (by decide)]; exact rg_inB i_f_4 (by decide)) ?_
        refine s_br (fun c_11 => ?_) (fun c_11 => ?_)
        · have _ := c_11
          have i_f_12 : Rg (2) (7) (((hI h r_6 x7.toNatClampNeg) >>> ((12 : Int32) &&& 31))) := rg_eq c_11 i_x2
          refine s_cI0 (zX5_wentOver hF T r_x1 i_x5 i_x2) (fun o_13 e_o_13 i_o_13 => ?_)
          have T_13 := th_eq e_o_13 T
          refine s_br (fun c_14 => ?_) (fun c_14 => ?_)
          · have _ := c_14
            have i_f_15 : Rg (0) (0) (o_13.1) := rg_eq c_14 (rg_b rfl : Rg (0) (0) (0 : Int32))
            refine s_q (fun v_1q3 e_16 => ?_)
            have i_v_1q3 : Rg (1) (172032) (v_1q3) := by rw [e_16]; exact (rg_add i_f_4 (rg_b rfl : Rg (1) (1) ((1 : Int32))) (by decide) : Rg (1) (172032) (x7 + (1 : Int32)))
            have m_17 : (v_1q3).toInt = x7.toInt + 1 := by rw [e_16]; exact rg_inc i_f_4 (by decide)
            exact hk_108 (e_o_13.trans E) T_13 r_x0 r_x1 i_x2 i_x3 i_x4 i_x5 i_x6 (rg_m i_v_1q3 (by decide)) hc_60 (by have := hc_108; omega)
          · have _ := c_14
            have i_f_18 : Rg (1) (1) (o_13.1) := rg_nlo c_14 i_o_13 (rg_b rfl : Rg (0) (0) (0 : Int32))
            exact s_some ⟨(e_o_13.trans E), (rg_m (rg_b rfl : Rg (1) (1) ((1 : Int32))) (by decide))⟩
        · have _ := c_11
          refine s_q (fun v_1q4 e_19 => ?_)
          have i_v_1q4 : Rg (1) (172032) (v_1q4) := by rw [e_19]; exact (rg_add i_f_4 (rg_b rfl : Rg (1) (1) ((1 : Int32))) (by decide) : Rg (1) (172032) (x7 + (1 : Int32)))
          have m_20 : (v_1q4).toInt = x7.toInt + 1 := by rw [e_19]; exact rg_inc i_f_4 (by decide)
          exact hk_108 E T r_x0 r_x1 i_x2 i_x3 i_x4 i_x5 i_x6 (rg_m i_v_1q4 (by decide)) hc_60 (by have := hc_108; omega)
set_option maxRecDepth 20000 in
theorem zX5_hasRightPass_60 {ρ : Nat → Nat} {c : Cm} {h0 : Hp} {F : Nat} (hF : 700000 ≤ F) : ∀ (f : Nat) {h : Hp} {x0 : Nat} {x1 : Nat} {x2 : Int32} {x3 : Int32} {x4 : Int32} {x5 : Int32}, h = h0 → TH ρ c h → ρ x0 = 6 → ρ x1 = 4 → Rg (2) (7) (x2) → Rg (0) (63) (x3) → Rg (0) (23) (x4) → Rg (0) (64) (x5) → (64 - x5.toInt).toNat < f → Sat (sX5_hasRightPass_60 F f h x0 x1 x2 x3 x4 x5) (ZI0 h0 (0) (1)) := by
  intro f
  induction f with
  | zero => intros; omega
  | succ f ih =>
    intro h x0 x1 x2 x3 x4 x5 E T r_x0 r_x1 i_x2 i_x3 i_x4 i_x5 hm
    rw [sX5_hasRightPass_60]
    unfold sX10_cell sX5_hasRightPass_179
    obtain ⟨C_60, hC_60⟩ : ∃ C : Int, C = x5.toInt := ⟨_, rfl⟩
    have hk_60 : ∀ {h : Hp} {x0 : Nat} {x1 : Nat} {x2 : Int32} {x3 : Int32} {x4 : Int32} {x5 : Int32}, h = h0 → TH ρ c h → ρ x0 = 6 → ρ x1 = 4 → Rg (2) (7) (x2) → Rg (0) (63) (x3) → Rg (0) (23) (x4) → Rg (0) (64) (x5) → C_60 < x5.toInt → Sat (sX5_hasRightPass_60 F f h x0 x1 x2 x3 x4 x5) (ZI0 h0 (0) (1)) := by
      intro h' x0' x1' x2' x3' x4' x5' E' T' r_x0' r_x1' i_x2' i_x3' i_x4' i_x5' hl
      exact ih E' T' r_x0' r_x1' i_x2' i_x3' i_x4' i_x5' (by have := i_x5'.1; have := i_x5'.2; omega)
    have hc_60 : C_60 ≤ x5.toInt := by omega
    obtain ⟨r_1, e_r_1, q_r_1⟩ := thR T r_x0 (k := 6) (i := 0) (k2 := 2) rfl (by decide)
    refine s_ref e_r_1 ?_
    refine s_br (fun c_1 => ?_) (fun c_1 => ?_)
    · have _ := c_1
      exact s_some ⟨E, (rg_m (rg_b rfl : Rg (0) (0) ((0 : Int32))) (by decide))⟩
    · have _ := c_1
      have i_f_2 : Rg (0) (63) (x5) := rg_lt1 (nle_lt c_1) i_x5 (thI T q_r_1 (k := 2) (i := 2) rfl : Rg (0) (64) ((hI h r_1 2)))
      have i_f_3 : Rg (1) (64) ((hI h r_1 2)) := rg_lt2 (nle_lt c_1) i_x5 (thI T q_r_1 (k := 2) (i := 2) rfl : Rg (0) (64) ((hI h r_1 2)))
      obtain ⟨r_3, e_r_3, q_r_3⟩ := thR T r_x1 (k := 4) (i := 0) (k2 := 34) rfl (by decide)
      refine s_ref e_r_3 ?_
      refine s_gd (by rw [thN T q_r_3 (k := 34) (n := 64) rfl (by decide)]; exact rg_inB i_f_2 (by decide)) ?_
      refine s_br (fun c_4 => ?_) (fun c_4 => ?_)
      · have _ := c_4
        have i_f_5 : Rg (-1) (-1) ((hI h r_3 x5.toNatClampNeg)) := rg_eq c_4 (rg_b rfl : Rg (-1) (-1) ((- 1 : Int32)))
        refine s_pu (fun o_6z e_6 => ?_)
        try dsimp only
        have i_o_6z : Rg (0) (98303) (o_6z) := by rw [e_6]; exact (rg_add (rg_mulc (rg_add (rg_mulc i_x4 (rg_b rfl : Rg (64) (64) ((64 : Int32))) (by decide) : Rg (0) (1472) ((x4 * (64 : Int32)))) i_f_2 (by decide) : Rg (0) (1535) (((x4 * (64 : Int32)) + x5))) (rg_b rfl : Rg (64) (64) ((64 : Int32))) (by decide) : Rg (0) (98240) ((((x4 * (64 : Int32)) + x5) * (64 : Int32)))) i_x3 (by decide) : Rg (0) (98303) ((((x4 * (64 : Int32)) + x5) * (64 : Int32)) + x3))
        obtain ⟨r_7, e_r_7, q_r_7⟩ := thR T r_x0 (k := 6) (i := 1) (k2 := 11) rfl (by decide)
        refine s_ref e_r_7 ?_
        obtain ⟨r_8, e_r_8, q_r_8⟩ := thR T q_r_7 (k := 11) (i := 0) (k2 := 50) rfl (by decide)
        refine s_ref e_r_8 ?_
        refine s_gd (by rw [thN T q_r_8 (k := 50) (n := 98305) rfl (by decide)]; exact rg_inB i_o_6z (by decide)) ?_
        refine s_q (fun v_10 e_7 => ?_)
        have i_v_10 : Rg (0) (172032) (v_10) := by rw [e_7]; exact (thI T q_r_8 (k := 50) rfl : Rg (0) (172032) (hI h r_8 o_6z.toNatClampNeg))
        have m_8 : Rg (0) (172032) (v_10) := i_v_10
        exact zX5_hasRightPass_108 hF @hk_60 F E T r_x0 r_x1 i_x2 i_x3 i_x4 i_f_2 i_o_6z i_v_10 hc_60 (by have := m_8.1; have := m_8.2; omega)
      · have _ := c_4
        have i_f_9 : Rg (0) (23) ((hI h r_3 x5.toNatClampNeg)) := rg_nlo c_4 (thI T q_r_3 (k := 34) rfl : Rg (-1) (23) ((hI h r_3 x5.toNatClampNeg))) (rg_b rfl : Rg (-1) (-1) ((- 1 : Int32)))
        refine s_q (fun v_1q1 e_10 => ?_)
        have i_v_1q1 : Rg (1) (64) (v_1q1) := by rw [e_10]; exact (rg_add i_f_2 (rg_b rfl : Rg (1) (1) ((1 : Int32))) (by decide) : Rg (1) (64) (x5 + (1 : Int32)))
        have m_11 : (v_1q1).toInt = x5.toInt + 1 := by rw [e_10]; exact rg_inc i_f_2 (by decide)
        exact hk_60 E T r_x0 r_x1 i_x2 i_x3 i_x4 (rg_m i_v_1q1 (by decide)) (by have := hc_60; omega)
set_option maxRecDepth 20000 in
theorem zX5_hasRightPass {ρ : Nat → Nat} {c : Cm} {F : Nat} (hF : 700000 ≤ F) {h : Hp} {x0 : Nat} {x1 : Nat} (T : TH ρ c h) (r_x0 : ρ x0 = 6) (r_x1 : ρ x1 = 4) : Sat (sX5_hasRightPass F h x0 x1) (ZI0 h (0) (1)) := by
  unfold sX5_hasRightPass sX5_hasRightPass_55
  refine s_cI0 (zX3_passSize hF T r_x1) (fun o_1 e_o_1 i_o_1 => ?_)
  have T_1 := th_eq e_o_1 T
  refine s_cI0 (zX3_passSquare hF T_1 r_x1 (rg_m (rg_b rfl : Rg (0) (0) ((0 : Int32))) (by decide))) (fun o_2 e_o_2 i_o_2 => ?_)
  have T_2 := th_eq e_o_2 T_1
  obtain ⟨r_3, e_r_3, q_r_3⟩ := thR T_2 r_x1 (k := 4) (i := 0) (k2 := 34) rfl (by decide)
  refine s_ref e_r_3 ?_
  refine s_gd (by rw [thN T_2 q_r_3 (k := 34) (n := 64) rfl (by decide)]; exact rg_inB i_o_2 (by decide)) ?_
  refine s_q (fun v_5 e_3 => ?_)
  have i_v_5 : Rg (-1) (23) (v_5) := by rw [e_3]; exact (thI T_2 q_r_3 (k := 34) rfl : Rg (-1) (23) (hI o_2.2 r_3 o_2.1.toNatClampNeg))
  refine s_br (fun c_4 => ?_) (fun c_4 => ?_)
  · have _ := c_4
    have i_f_5 : Rg (0) (1) (o_1.1) := rg_lt1 c_4 i_o_1 (rg_b rfl : Rg (2) (2) ((2 : Int32)))
    exact s_some ⟨(e_o_2.trans (e_o_1.trans rfl)), (rg_m (rg_b rfl : Rg (0) (0) ((0 : Int32))) (by decide))⟩
  · have _ := c_4
    have i_f_6 : Rg (2) (7) (o_1.1) := rg_le2 (nlt_le c_4) (rg_b rfl : Rg (2) (2) ((2 : Int32))) i_o_1
    refine s_br (fun c_7 => ?_) (fun c_7 => ?_)
    · have _ := c_7
      have i_f_8 : Rg (-1) (-1) (v_5) := rg_eq c_7 (rg_b rfl : Rg (-1) (-1) ((- 1 : Int32)))
      exact s_some ⟨(e_o_2.trans (e_o_1.trans rfl)), (rg_m (rg_b rfl : Rg (0) (0) ((0 : Int32))) (by decide))⟩
    · have _ := c_7
      have i_f_9 : Rg (0) (23) (v_5) := rg_nlo c_7 i_v_5 (rg_b rfl : Rg (-1) (-1) ((- 1 : Int32)))
      refine s_br (fun c_10 => ?_) (fun c_10 => ?_)
      · have _ := c_10
        exact s_some ⟨(e_o_2.trans (e_o_1.trans rfl)), (rg_m (rg_b rfl : Rg (0) (0) ((0 : Int32))) (by decide))⟩
      · have _ := c_10
        refine s_cJ0 (zX3_occupied hF T_2 r_x1) (fun o_9 e_o_9 => ?_)
        have T_11 := th_eq e_o_9 T_2
        refine s_br (fun c_12 => ?_) (fun c_12 => ?_)
        · have _ := c_12
          have m_13 : Rg (0) (64) ((0 : Int32)) := (rg_m (rg_b rfl : Rg (0) (0) ((0 : Int32))) (by decide))
          exact zX5_hasRightPass_60 hF F (e_o_9.trans (e_o_2.trans (e_o_1.trans rfl))) T_11 r_x0 r_x1 i_f_6 i_o_2 i_f_9 (rg_m (rg_b rfl : Rg (0) (0) ((0 : Int32))) (by decide)) (by have := m_13.1; have := m_13.2; omega)
        · have _ := c_12
          exact s_some ⟨(e_o_9.trans (e_o_2.trans (e_o_1.trans rfl))), (rg_m (rg_b rfl : Rg (0) (0) ((0 : Int32))) (by decide))⟩
set_option maxRecDepth 20000 in
theorem zX1_isFirst {ρ : Nat → Nat} {c : Cm} {F : Nat} (hF : 700000 ≤ F) {h : Hp} {x0 : Nat} {x1 : Int32} {x2 : Int32} (T : TH ρ c h) (r_x0 : ρ x0 = 2) (i_x1 : Rg (0) (63) (x1)) (i_x2 : Rg (0) (1) (x2)) : Sat (sX1_isFirst h x0 x1 x2) (ZI0 h (0) (1)) := by
  unfold sX1_isFirst 
  refine s_cI0 (zX1_isLast hF T r_x0 i_x1 (rg_sub (rg_b rfl : Rg (1) (1) ((1 : Int32))) i_x2 (by decide) : Rg (0) (1) (((1 : Int32) - x2)))) (fun o_1 e_o_1 i_o_1 => ?_)
  have T_1 := th_eq e_o_1 T
  refine s_gd (rg_bool i_o_1) ?_
  exact s_some ⟨(e_o_1.trans rfl), i_o_1⟩
set_option maxRecDepth 20000 in
theorem zX5_hasRightRights_2 {ρ : Nat → Nat} {c : Cm} {h0 : Hp} {F : Nat} (hF : 700000 ≤ F) : ∀ (f : Nat) {h : Hp} {x0 : Nat} {x1 : Nat} {x2 : Int32}, h = h0 → TH ρ c h → ρ x0 = 6 → ρ x1 = 4 → Rg (0) (64) (x2) → (64 - x2.toInt).toNat < f → Sat (sX5_hasRightRights_2 F f h x0 x1 x2) (ZI0 h0 (0) (1)) := by
  intro f
  induction f with
  | zero => intros; omega
  | succ f ih =>
    intro h x0 x1 x2 E T r_x0 r_x1 i_x2 hm
    rw [sX5_hasRightRights_2]
    unfold sX5_hasRightRights_129 sX5_hasRightRights_123 sX5_hasRightRights_88 sX5_hasRightRights_121
    obtain ⟨C_2, hC_2⟩ : ∃ C : Int, C = x2.toInt := ⟨_, rfl⟩
    have hk_2 : ∀ {h : Hp} {x0 : Nat} {x1 : Nat} {x2 : Int32}, h = h0 → TH ρ c h → ρ x0 = 6 → ρ x1 = 4 → Rg (0) (64) (x2) → C_2 < x2.toInt → Sat (sX5_hasRightRights_2 F f h x0 x1 x2) (ZI0 h0 (0) (1)) := by
      intro h' x0' x1' x2' E' T' r_x0' r_x1' i_x2' hl
      exact ih E' T' r_x0' r_x1' i_x2' (by have := i_x2'.1; have := i_x2'.2; omega)
    have hc_2 : C_2 ≤ x2.toInt := by omega
    obtain ⟨r_1, e_r_1, q_r_1⟩ := thR T r_x0 (k := 6) (i := 0) (k2 := 2) rfl (by decide)
    refine s_ref e_r_1 ?_
    refine s_br (fun c_1 => ?_) (fun c_1 => ?_)
    · have _ := c_1
      exact s_some ⟨E, (rg_m (rg_b rfl : Rg (1) (1) ((1 : Int32))) (by decide))⟩
    · have _ := c_1
      have i_f_2 : Rg (0) (63) (x2) := rg_lt1 (nle_lt c_1) i_x2 (thI T q_r_1 (k := 2) (i := 2) rfl : Rg (0) (64) ((hI h r_1 2)))
      have i_f_3 : Rg (1) (64) ((hI h r_1 2)) := rg_lt2 (nle_lt c_1) i_x2 (thI T q_r_1 (k := 2) (i := 2) rfl : Rg (0) (64) ((hI h r_1 2)))
      refine s_br (fun c_4 => ?_) (fun c_4 => ?_)
      · have _ := c_4
        exact s_some ⟨E, (rg_m (rg_b rfl : Rg (1) (1) ((1 : Int32))) (by decide))⟩
      · have _ := c_4
        refine s_br (fun c_5 => ?_) (fun c_5 => ?_)
        · have _ := c_5
          refine s_q (fun v_1q3 e_6 => ?_)
          have i_v_1q3 : Rg (1) (64) (v_1q3) := by rw [e_6]; exact (rg_add i_f_2 (rg_b rfl : Rg (1) (1) ((1 : Int32))) (by decide) : Rg (1) (64) (x2 + (1 : Int32)))
          have m_7 : (v_1q3).toInt = x2.toInt + 1 := by rw [e_6]; exact rg_inc i_f_2 (by decide)
          exact hk_2 E T r_x0 r_x1 (rg_m i_v_1q3 (by decide)) (by have := hc_2; omega)
        · have _ := c_5
          obtain ⟨r_5, e_r_5, q_r_5⟩ := thR T r_x1 (k := 4) (i := 0) (k2 := 34) rfl (by decide)
          refine s_ref e_r_5 ?_
          refine s_gd (by rw [thN T q_r_5 (k := 34) (n := 64) rfl (by decide)]; exact rg_inB i_f_2 (by decide)) ?_
          refine s_q (fun v_7 e_8 => ?_)
          have i_v_7 : Rg (-1) (23) (v_7) := by rw [e_8]; exact (thI T q_r_5 (k := 34) rfl : Rg (-1) (23) (hI h r_5 x2.toNatClampNeg))
          refine s_ref e_r_1 ?_
          refine s_br (fun c_9 => ?_) (fun c_9 => ?_)
          · have _ := c_9
            have i_f_10 : Rg (-1) (-1) ((hI h r_1 6)) := rg_eq c_9 (rg_b rfl : Rg (-1) (-1) ((- 1 : Int32)))
            exact s_some ⟨E, (rg_m (rg_b rfl : Rg (0) (0) ((0 : Int32))) (by decide))⟩
          · have _ := c_9
            have i_f_11 : Rg (0) (11) ((hI h r_1 6)) := rg_nlo c_9 (thI T q_r_1 (k := 2) (i := 6) rfl : Rg (-1) (11) ((hI h r_1 6))) (rg_b rfl : Rg (-1) (-1) ((- 1 : Int32)))
            refine s_br (fun c_12 => ?_) (fun c_12 => ?_)
            · have _ := c_12
              have i_f_13 : Rg (-1) (-1) (v_7) := rg_eq c_12 (rg_b rfl : Rg (-1) (-1) ((- 1 : Int32)))
              exact s_some ⟨E, (rg_m (rg_b rfl : Rg (0) (0) ((0 : Int32))) (by decide))⟩
            · have _ := c_12
              have i_f_14 : Rg (0) (23) (v_7) := rg_nlo c_12 i_v_7 (rg_b rfl : Rg (-1) (-1) ((- 1 : Int32)))
              refine s_ref e_r_1 ?_
              refine s_br (fun c_15 => ?_) (fun c_15 => ?_)
              · have _ := c_15
                refine s_ref e_r_1 ?_
                refine s_cI0 (zX1_isFirst hF T q_r_1 i_f_2 (rg_and (rg_b rfl : Rg (1) (1) ((1 : Int32))) (by decide) : Rg (0) (1) ((v_7 &&& (1 : Int32))))) (fun o_14 e_o_14 i_o_14 => ?_)
                have T_16 := th_eq e_o_14 T
                refine s_br (fun c_17 => ?_) (fun c_17 => ?_)
                · have _ := c_17
                  have i_f_18 : Rg (0) (0) (o_14.1) := rg_eq c_17 (rg_b rfl : Rg (0) (0) (0 : Int32))
                  exact s_some ⟨(e_o_14.trans E), (rg_m (rg_b rfl : Rg (0) (0) ((0 : Int32))) (by decide))⟩
                · have _ := c_17
                  have i_f_19 : Rg (1) (1) (o_14.1) := rg_nlo c_17 i_o_14 (rg_b rfl : Rg (0) (0) (0 : Int32))
                  obtain ⟨r_16, e_r_16, q_r_16⟩ := thR T_16 r_x1 (k := 4) (i := 2) (k2 := 36) rfl (by decide)
                  refine s_ref e_r_16 ?_
                  refine s_gd (by rw [thN T_16 q_r_16 (k := 36) (n := 2) rfl (by decide)]; exact rg_inB (rg_and (rg_b rfl : Rg (1) (1) ((1 : Int32))) (by decide) : Rg (0) (1) ((v_7 &&& (1 : Int32)))) (by decide)) ?_
                  refine s_q (fun v_18 e_20 => ?_)
                  have i_v_18 : Rg (-1) (63) (v_18) := by rw [e_20]; exact (thI T_16 q_r_16 (k := 36) rfl : Rg (-1) (63) (hI o_14.2 r_16 (v_7 &&& (1 : Int32)).toNatClampNeg))
                  refine s_br (fun c_21 => ?_) (fun c_21 => ?_)
                  · have _ := c_21
                    have i_f_22 : Rg (-1) (-1) (v_18) := rg_eq c_21 (rg_b rfl : Rg (-1) (-1) ((- 1 : Int32)))
                    exact s_some ⟨(e_o_14.trans E), (rg_m (rg_b rfl : Rg (0) (0) ((0 : Int32))) (by decide))⟩
                  · have _ := c_21
                    have i_f_23 : Rg (0) (63) (v_18) := rg_nlo c_21 i_v_18 (rg_b rfl : Rg (-1) (-1) ((- 1 : Int32)))
                    refine s_ref (hr_e e_o_14 e_r_1) ?_
                    refine s_cI0 (zX1_isFirst hF T_16 q_r_1 i_f_23 (rg_and (rg_b rfl : Rg (1) (1) ((1 : Int32))) (by decide) : Rg (0) (1) ((v_7 &&& (1 : Int32))))) (fun o_21 e_o_21 i_o_21 => ?_)
                    have T_24 := th_eq e_o_21 T_16
                    refine s_br (fun c_25 => ?_) (fun c_25 => ?_)
                    · have _ := c_25
                      have i_f_26 : Rg (0) (0) (o_21.1) := rg_eq c_25 (rg_b rfl : Rg (0) (0) (0 : Int32))
                      exact s_some ⟨(e_o_21.trans (e_o_14.trans E)), (rg_m (rg_b rfl : Rg (0) (0) ((0 : Int32))) (by decide))⟩
                    · have _ := c_25
                      have i_f_27 : Rg (1) (1) (o_21.1) := rg_nlo c_25 i_o_21 (rg_b rfl : Rg (0) (0) (0 : Int32))
                      refine s_q (fun v_1q9 e_28 => ?_)
                      have i_v_1q9 : Rg (1) (64) (v_1q9) := by rw [e_28]; exact (rg_add i_f_2 (rg_b rfl : Rg (1) (1) ((1 : Int32))) (by decide) : Rg (1) (64) (x2 + (1 : Int32)))
                      have m_29 : (v_1q9).toInt = x2.toInt + 1 := by rw [e_28]; exact rg_inc i_f_2 (by decide)
                      exact hk_2 (e_o_21.trans (e_o_14.trans E)) T_24 r_x0 r_x1 (rg_m i_v_1q9 (by decide)) (by have := hc_2; omega)
              · have _ := c_15
                exact s_some ⟨E, (rg_m (rg_b rfl : Rg (0) (0) ((0 : Int32))) (by decide))⟩
set_option maxRecDepth 20000 in
theorem zX5_hasRightRights {ρ : Nat → Nat} {c : Cm} {F : Nat} (hF : 700000 ≤ F) {h : Hp} {x0 : Nat} {x1 : Nat} (T : TH ρ c h) (r_x0 : ρ x0 = 6) (r_x1 : ρ x1 = 4) : Sat (sX5_hasRightRights F h x0 x1) (ZI0 h (0) (1)) := by
  unfold sX5_hasRightRights 
  have m_1 : Rg (0) (64) ((0 : Int32)) := (rg_m (rg_b rfl : Rg (0) (0) ((0 : Int32))) (by decide))
  exact zX5_hasRightRights_2 hF F rfl T r_x0 r_x1 (rg_m (rg_b rfl : Rg (0) (0) ((0 : Int32))) (by decide)) (by have := m_1.1; have := m_1.2; omega)
set_option maxRecDepth 20000 in
theorem zX5_faultOf_97 {ρ : Nat → Nat} {c : Cm} {h0 : Hp} {F : Nat} (hF : 700000 ≤ F) {h : Hp} {x0 : Nat} {x1 : Nat} (E : h = h0) (T : TH ρ c h) (r_x0 : ρ x0 = 6) (r_x1 : ρ x1 = 4) : Sat (sX5_faultOf_97 F h x0 x1) (ZI0 h0 (0) (8)) := by
  unfold sX5_faultOf_97 sX5_faultOf_135 sX5_faultOf_136 sX5_faultOf_130
  obtain ⟨r_1, e_r_1, q_r_1⟩ := thR T r_x0 (k := 6) (i := 0) (k2 := 2) rfl (by decide)
  refine s_ref e_r_1 ?_
  refine s_cI0 (zX1_has hF T q_r_1 (rg_m (rg_b rfl : Rg (1) (1) ((1 : Int32))) (by decide))) (fun o_2 e_o_2 i_o_2 => ?_)
  have T_1 := th_eq e_o_2 T
  refine s_br (fun c_2 => ?_) (fun c_2 => ?_)
  · have _ := c_2
    have i_f_3 : Rg (0) (0) (o_2.1) := rg_eq c_2 (rg_b rfl : Rg (0) (0) (0 : Int32))
    obtain ⟨r_4, e_r_4, q_r_4⟩ := thR T_1 r_x1 (k := 4) (i := 3) (k2 := 37) rfl (by decide)
    refine s_ref e_r_4 ?_
    refine s_gd (by rw [thN T_1 q_r_4 (k := 37) (n := 2) rfl (by decide)]; exact rg_inB (rg_b rfl : Rg (0) (0) ((0 : Int32))) (by decide)) ?_
    refine s_br (fun c_4 => ?_) (fun c_4 => ?_)
    · have _ := c_4
      refine s_ref e_r_4 ?_
      refine s_gd (by rw [thN T_1 q_r_4 (k := 37) (n := 2) rfl (by decide)]; exact rg_inB (rg_b rfl : Rg (1) (1) ((1 : Int32))) (by decide)) ?_
      refine s_br (fun c_5 => ?_) (fun c_5 => ?_)
      · have _ := c_5
        exact s_some ⟨(e_o_2.trans E), (rg_m (rg_b rfl : Rg (0) (0) ((0 : Int32))) (by decide))⟩
      · have _ := c_5
        exact s_some ⟨(e_o_2.trans E), (rg_m (rg_b rfl : Rg (8) (8) ((8 : Int32))) (by decide))⟩
    · have _ := c_4
      exact s_some ⟨(e_o_2.trans E), (rg_m (rg_b rfl : Rg (8) (8) ((8 : Int32))) (by decide))⟩
  · have _ := c_2
    have i_f_6 : Rg (1) (1) (o_2.1) := rg_nlo c_2 i_o_2 (rg_b rfl : Rg (0) (0) (0 : Int32))
    exact s_some ⟨(e_o_2.trans E), (rg_m (rg_b rfl : Rg (0) (0) ((0 : Int32))) (by decide))⟩
set_option maxRecDepth 20000 in
theorem zX5_faultOf_49 {ρ : Nat → Nat} {c : Cm} {h0 : Hp} {F : Nat} (hF : 700000 ≤ F) {h : Hp} {x0 : Nat} {x1 : Nat} (E : h = h0) (T : TH ρ c h) (r_x0 : ρ x0 = 6) (r_x1 : ρ x1 = 4) : Sat (sX5_faultOf_49 F h x0 x1) (ZI0 h0 (0) (8)) := by
  unfold sX5_faultOf_49 sX5_faultOf_94
  refine s_cI0 (zX5_isRoyalHit hF T r_x0 r_x1 (rg_sub (rg_b rfl : Rg (1) (1) ((1 : Int32))) (thI T r_x1 (k := 4) (i := 5) rfl : Rg (0) (1) ((hI h x1 5))) (by decide) : Rg (0) (1) (((1 : Int32) - (hI h x1 5))))) (fun o_1 e_o_1 i_o_1 => ?_)
  have T_1 := th_eq e_o_1 T
  refine s_br (fun c_2 => ?_) (fun c_2 => ?_)
  · have _ := c_2
    have i_f_3 : Rg (0) (0) (o_1.1) := rg_eq c_2 (rg_b rfl : Rg (0) (0) (0 : Int32))
    obtain ⟨r_3, e_r_3, q_r_3⟩ := thR T_1 r_x0 (k := 6) (i := 0) (k2 := 2) rfl (by decide)
    refine s_ref e_r_3 ?_
    refine s_br (fun c_4 => ?_) (fun c_4 => ?_)
    · have _ := c_4
      have i_f_5 : Rg (0) (0) ((hI o_1.2 r_3 7)) := rg_eq c_4 (rg_b rfl : Rg (0) (0) (0 : Int32))
      obtain ⟨r_5, e_r_5, q_r_5⟩ := thR T_1 r_x1 (k := 4) (i := 4) (k2 := 38) rfl (by decide)
      refine s_ref e_r_5 ?_
      refine s_gd (by rw [thN T_1 q_r_5 (k := 38) (n := 2) rfl (by decide)]; exact rg_inB (rg_b rfl : Rg (0) (0) ((0 : Int32))) (by decide)) ?_
      refine s_br (fun c_6 => ?_) (fun c_6 => ?_)
      · have _ := c_6
        have i_f_7 : Rg (0) (0) ((hI o_1.2 r_5 (0 : Int32).toNatClampNeg)) := rg_eq c_6 (rg_b rfl : Rg (0) (0) (0 : Int32))
        refine s_ref e_r_5 ?_
        refine s_gd (by rw [thN T_1 q_r_5 (k := 38) (n := 2) rfl (by decide)]; exact rg_inB (rg_b rfl : Rg (1) (1) ((1 : Int32))) (by decide)) ?_
        refine s_br (fun c_8 => ?_) (fun c_8 => ?_)
        · have _ := c_8
          have i_f_9 : Rg (0) (0) ((hI o_1.2 r_5 (1 : Int32).toNatClampNeg)) := rg_eq c_8 (rg_b rfl : Rg (0) (0) (0 : Int32))
          exact zX5_faultOf_97 hF (e_o_1.trans E) T_1 r_x0 r_x1
        · have _ := c_8
          have i_f_10 : Rg (1) (9) ((hI o_1.2 r_5 (1 : Int32).toNatClampNeg)) := rg_nlo c_8 (thI T_1 q_r_5 (k := 38) rfl : Rg (0) (9) ((hI o_1.2 r_5 (1 : Int32).toNatClampNeg))) (rg_b rfl : Rg (0) (0) (0 : Int32))
          exact s_some ⟨(e_o_1.trans E), (rg_m (rg_b rfl : Rg (7) (7) ((7 : Int32))) (by decide))⟩
      · have _ := c_6
        have i_f_11 : Rg (1) (9) ((hI o_1.2 r_5 (0 : Int32).toNatClampNeg)) := rg_nlo c_6 (thI T_1 q_r_5 (k := 38) rfl : Rg (0) (9) ((hI o_1.2 r_5 (0 : Int32).toNatClampNeg))) (rg_b rfl : Rg (0) (0) (0 : Int32))
        exact s_some ⟨(e_o_1.trans E), (rg_m (rg_b rfl : Rg (7) (7) ((7 : Int32))) (by decide))⟩
    · have _ := c_4
      have i_f_12 : Rg (1) (9) ((hI o_1.2 r_3 7)) := rg_nlo c_4 (thI T_1 q_r_3 (k := 2) (i := 7) rfl : Rg (0) (9) ((hI o_1.2 r_3 7))) (rg_b rfl : Rg (0) (0) (0 : Int32))
      exact zX5_faultOf_97 hF (e_o_1.trans E) T_1 r_x0 r_x1
  · have _ := c_2
    have i_f_13 : Rg (1) (1) (o_1.1) := rg_nlo c_2 i_o_1 (rg_b rfl : Rg (0) (0) (0 : Int32))
    exact s_some ⟨(e_o_1.trans E), (rg_m (rg_b rfl : Rg (6) (6) ((6 : Int32))) (by decide))⟩
set_option maxRecDepth 20000 in
theorem zX5_faultOf {ρ : Nat → Nat} {c : Cm} {F : Nat} (hF : 700000 ≤ F) {h : Hp} {x0 : Nat} {x1 : Nat} (T : TH ρ c h) (r_x0 : ρ x0 = 6) (r_x1 : ρ x1 = 4) : Sat (sX5_faultOf F h x0 x1) (ZI0 h (0) (8)) := by
  unfold sX5_faultOf 
  refine s_cI0 (zX5_hasRightMen hF T r_x0 r_x1) (fun o_1 e_o_1 i_o_1 => ?_)
  have T_1 := th_eq e_o_1 T
  refine s_br (fun c_2 => ?_) (fun c_2 => ?_)
  · have _ := c_2
    have i_f_3 : Rg (0) (0) (o_1.1) := rg_eq c_2 (rg_b rfl : Rg (0) (0) (0 : Int32))
    exact s_some ⟨(e_o_1.trans rfl), (rg_m (rg_b rfl : Rg (2) (2) ((2 : Int32))) (by decide))⟩
  · have _ := c_2
    have i_f_4 : Rg (1) (1) (o_1.1) := rg_nlo c_2 i_o_1 (rg_b rfl : Rg (0) (0) (0 : Int32))
    refine s_cI0 (zX5_hasLateMan hF T_1 r_x0 r_x1) (fun o_3 e_o_3 i_o_3 => ?_)
    have T_5 := th_eq e_o_3 T_1
    refine s_br (fun c_6 => ?_) (fun c_6 => ?_)
    · have _ := c_6
      have i_f_7 : Rg (0) (0) (o_3.1) := rg_eq c_6 (rg_b rfl : Rg (0) (0) (0 : Int32))
      refine s_cI0 (zX5_hasRightRights hF T_5 r_x0 r_x1) (fun o_5 e_o_5 i_o_5 => ?_)
      have T_8 := th_eq e_o_5 T_5
      refine s_br (fun c_9 => ?_) (fun c_9 => ?_)
      · have _ := c_9
        have i_f_10 : Rg (0) (0) (o_5.1) := rg_eq c_9 (rg_b rfl : Rg (0) (0) (0 : Int32))
        exact s_some ⟨(e_o_5.trans (e_o_3.trans (e_o_1.trans rfl))), (rg_m (rg_b rfl : Rg (4) (4) ((4 : Int32))) (by decide))⟩
      · have _ := c_9
        have i_f_11 : Rg (1) (1) (o_5.1) := rg_nlo c_9 i_o_5 (rg_b rfl : Rg (0) (0) (0 : Int32))
        refine s_br (fun c_12 => ?_) (fun c_12 => ?_)
        · have _ := c_12
          exact zX5_faultOf_49 hF (e_o_5.trans (e_o_3.trans (e_o_1.trans rfl))) T_8 r_x0 r_x1
        · have _ := c_12
          refine s_cI0 (zX5_hasRightPass hF T_8 r_x0 r_x1) (fun o_8 e_o_8 i_o_8 => ?_)
          have T_13 := th_eq e_o_8 T_8
          refine s_br (fun c_14 => ?_) (fun c_14 => ?_)
          · have _ := c_14
            have i_f_15 : Rg (0) (0) (o_8.1) := rg_eq c_14 (rg_b rfl : Rg (0) (0) (0 : Int32))
            exact s_some ⟨(e_o_8.trans (e_o_5.trans (e_o_3.trans (e_o_1.trans rfl)))), (rg_m (rg_b rfl : Rg (5) (5) ((5 : Int32))) (by decide))⟩
          · have _ := c_14
            have i_f_16 : Rg (1) (1) (o_8.1) := rg_nlo c_14 i_o_8 (rg_b rfl : Rg (0) (0) (0 : Int32))
            exact zX5_faultOf_49 hF (e_o_8.trans (e_o_5.trans (e_o_3.trans (e_o_1.trans rfl)))) T_13 r_x0 r_x1
    · have _ := c_6
      have i_f_17 : Rg (1) (1) (o_3.1) := rg_nlo c_6 i_o_3 (rg_b rfl : Rg (0) (0) (0 : Int32))
      exact s_some ⟨(e_o_3.trans (e_o_1.trans rfl)), (rg_m (rg_b rfl : Rg (3) (3) ((3 : Int32))) (by decide))⟩
set_option maxRecDepth 20000 in
theorem zX1_letterOf {ρ : Nat → Nat} {c : Cm} {F : Nat} (hF : 700000 ≤ F) {h : Hp} {x0 : Nat} {x1 : Int32} (T : TH ρ c h) (r_x0 : ρ x0 = 2) (i_x1 : Rg (-2) (31) (x1)) : Sat (sX1_letterOf h x0 x1) (ZI0 h (-32) (122)) := by
  unfold sX1_letterOf sX1_letterOf_16 sX1_letterOf_43
  refine s_q (fun v_1 e_1 => ?_)
  have i_v_1 : Rg (-1) (15) (v_1) := by rw [e_1]; exact (rg_shrk 1 (by decide) i_x1 (by decide) : Rg (-1) (15) (x1 >>> ((1 : Int32) &&& 31)))
  refine s_br (fun c_2 => ?_) (fun c_2 => ?_)
  · have _ := c_2
    have i_f_3 : Rg (-1) (-1) (v_1) := rg_lt1 c_2 i_v_1 (rg_b rfl : Rg (0) (0) (0 : Int32))
    exact s_some ⟨rfl, (rg_m (rg_b rfl : Rg (63) (63) ((63 : Int32))) (by decide))⟩
  · have _ := c_2
    have i_f_4 : Rg (0) (15) (v_1) := rg_le2 (nlt_le c_2) (rg_b rfl : Rg (0) (0) (0 : Int32)) i_v_1
    refine s_br (fun c_5 => ?_) (fun c_5 => ?_)
    · have _ := c_5
      have i_f_6 : Rg (0) (11) (v_1) := rg_lt1 c_5 i_f_4 (thI T r_x0 (k := 2) (i := 3) rfl : Rg (0) (12) ((hI h x0 3)))
      have i_f_7 : Rg (1) (12) ((hI h x0 3)) := rg_lt2 c_5 i_f_4 (thI T r_x0 (k := 2) (i := 3) rfl : Rg (0) (12) ((hI h x0 3)))
      refine s_br (fun c_8 => ?_) (fun c_8 => ?_)
      · have _ := c_8
        have i_f_9 : Rg (0) (0) ((x1 &&& (1 : Int32))) := rg_eq c_8 (rg_b rfl : Rg (0) (0) (0 : Int32))
        obtain ⟨r_7, e_r_7, q_r_7⟩ := thR T r_x0 (k := 2) (i := 14) (k2 := 27) rfl (by decide)
        refine s_ref e_r_7 ?_
        refine s_gd (by rw [thN T q_r_7 (k := 27) (n := 12) rfl (by decide)]; exact rg_inB i_f_6 (by decide)) ?_
        exact s_some ⟨rfl, (rg_m (rg_sub (thI T q_r_7 (k := 27) rfl : Rg (0) (122) ((hI h r_7 v_1.toNatClampNeg))) (rg_b rfl : Rg (32) (32) ((32 : Int32))) (by decide) : Rg (-32) (90) (((hI h r_7 v_1.toNatClampNeg) - (32 : Int32)))) (by decide))⟩
      · have _ := c_8
        have i_f_10 : Rg (1) (1) ((x1 &&& (1 : Int32))) := rg_nlo c_8 (rg_and (rg_b rfl : Rg (1) (1) ((1 : Int32))) (by decide) : Rg (0) (1) ((x1 &&& (1 : Int32)))) (rg_b rfl : Rg (0) (0) (0 : Int32))
        obtain ⟨r_5, e_r_5, q_r_5⟩ := thR T r_x0 (k := 2) (i := 14) (k2 := 27) rfl (by decide)
        refine s_ref e_r_5 ?_
        refine s_gd (by rw [thN T q_r_5 (k := 27) (n := 12) rfl (by decide)]; exact rg_inB i_f_6 (by decide)) ?_
        exact s_some ⟨rfl, (rg_m (thI T q_r_5 (k := 27) rfl : Rg (0) (122) ((hI h r_5 v_1.toNatClampNeg))) (by decide))⟩
    · have _ := c_5
      exact s_some ⟨rfl, (rg_m (rg_b rfl : Rg (63) (63) ((63 : Int32))) (by decide))⟩
set_option maxRecDepth 20000 in
theorem zX6_isWrittenFirst {ρ : Nat → Nat} {c : Cm} {F : Nat} (hF : 700000 ≤ F) {h : Hp} {x0 : Nat} {x1 : Int32} {x2 : Int32} (T : TH ρ c h) (r_x0 : ρ x0 = 7) (i_x1 : Rg (0) (63) (x1)) (i_x2 : Rg (0) (63) (x2)) : Sat (sX6_isWrittenFirst h x0 x1 x2) (ZI0 h (0) (1)) := by
  unfold sX6_isWrittenFirst sX6_isWrittenFirst_47 sX6_isWrittenFirst_52 sX6_isWrittenFirst_51
  obtain ⟨r_1, e_r_1, q_r_1⟩ := thR T r_x0 (k := 7) (i := 0) (k2 := 2) rfl (by decide)
  refine s_ref e_r_1 ?_
  obtain ⟨r_2, e_r_2, q_r_2⟩ := thR T q_r_1 (k := 2) (i := 20) (k2 := 33) rfl (by decide)
  refine s_ref e_r_2 ?_
  refine s_gd (by rw [thN T q_r_2 (k := 33) (n := 64) rfl (by decide)]; exact rg_inB i_x1 (by decide)) ?_
  refine s_ref e_r_1 ?_
  refine s_ref e_r_2 ?_
  refine s_gd (by rw [thN T q_r_2 (k := 33) (n := 64) rfl (by decide)]; exact rg_inB i_x2 (by decide)) ?_
  refine s_br (fun c_1 => ?_) (fun c_1 => ?_)
  · have _ := c_1
    have i_f_2 : Rg (0) (6) ((hI h r_2 x2.toNatClampNeg)) := rg_lt1 c_1 (thI T q_r_2 (k := 33) rfl : Rg (0) (7) ((hI h r_2 x2.toNatClampNeg))) (thI T q_r_2 (k := 33) rfl : Rg (0) (7) ((hI h r_2 x1.toNatClampNeg)))
    have i_f_3 : Rg (1) (7) ((hI h r_2 x1.toNatClampNeg)) := rg_lt2 c_1 (thI T q_r_2 (k := 33) rfl : Rg (0) (7) ((hI h r_2 x2.toNatClampNeg))) (thI T q_r_2 (k := 33) rfl : Rg (0) (7) ((hI h r_2 x1.toNatClampNeg)))
    refine s_gd (rg_bool (rg_m (rg_b rfl : Rg (1) (1) ((1 : Int32))) (by decide))) ?_
    exact s_some ⟨rfl, (rg_m (rg_b rfl : Rg (1) (1) ((1 : Int32))) (by decide))⟩
  · have _ := c_1
    refine s_ref e_r_1 ?_
    refine s_ref e_r_2 ?_
    refine s_gd (by rw [thN T q_r_2 (k := 33) (n := 64) rfl (by decide)]; exact rg_inB i_x1 (by decide)) ?_
    refine s_ref e_r_1 ?_
    refine s_ref e_r_2 ?_
    refine s_gd (by rw [thN T q_r_2 (k := 33) (n := 64) rfl (by decide)]; exact rg_inB i_x2 (by decide)) ?_
    refine s_br (fun c_4 => ?_) (fun c_4 => ?_)
    · have _ := c_4
      refine s_br (fun c_5 => ?_) (fun c_5 => ?_)
      · have _ := c_5
        refine s_gd (rg_bool (rg_m (rg_b rfl : Rg (0) (0) ((0 : Int32))) (by decide))) ?_
        exact s_some ⟨rfl, (rg_m (rg_b rfl : Rg (0) (0) ((0 : Int32))) (by decide))⟩
      · have _ := c_5
        have i_f_6 : Rg (0) (62) (x1) := rg_lt1 (nle_lt c_5) i_x1 i_x2
        have i_f_7 : Rg (1) (63) (x2) := rg_lt2 (nle_lt c_5) i_x1 i_x2
        refine s_gd (rg_bool (rg_m (rg_b rfl : Rg (1) (1) ((1 : Int32))) (by decide))) ?_
        exact s_some ⟨rfl, (rg_m (rg_b rfl : Rg (1) (1) ((1 : Int32))) (by decide))⟩
    · have _ := c_4
      refine s_gd (rg_bool (rg_m (rg_b rfl : Rg (0) (0) ((0 : Int32))) (by decide))) ?_
      exact s_some ⟨rfl, (rg_m (rg_b rfl : Rg (0) (0) ((0 : Int32))) (by decide))⟩
set_option maxRecDepth 20000 in
theorem zX6_takenIn {ρ : Nat → Nat} {c : Cm} {F : Nat} (hF : 700000 ≤ F) {h : Hp} {x0 : Nat} {x1 : Int32} (T : TH ρ c h) (r_x0 : ρ x0 = 7) (i_x1 : Rg (-2147483648) (2147483647) (x1)) : Sat (sX6_takenIn h x0 x1) (ZI0 h (-1) (29)) := by
  unfold sX6_takenIn sX6_takenIn_31
  refine s_q (fun v_1 e_1 => ?_)
  have i_v_1 : Rg (0) (15) (v_1) := by rw [e_1]; exact (rg_and (rg_b rfl : Rg (15) (15) ((15 : Int32))) (by decide) : Rg (0) (15) ((x1 >>> ((16 : Int32) &&& 31)) &&& (15 : Int32)))
  refine s_br (fun c_2 => ?_) (fun c_2 => ?_)
  · have _ := c_2
    have i_f_3 : Rg (15) (15) (v_1) := rg_eq c_2 (rg_b rfl : Rg (15) (15) ((15 : Int32)))
    exact s_some ⟨rfl, (rg_m (rg_b rfl : Rg (-1) (-1) ((- 1 : Int32))) (by decide))⟩
  · have _ := c_2
    have i_f_4 : Rg (0) (14) (v_1) := rg_nhi c_2 i_v_1 (rg_b rfl : Rg (15) (15) ((15 : Int32)))
    obtain ⟨r_3, e_r_3, q_r_3⟩ := thR T r_x0 (k := 7) (i := 3) (k2 := 4) rfl (by decide)
    refine s_ref e_r_3 ?_
    exact s_some ⟨rfl, (rg_m (rg_sub (rg_add (rg_mulc' (rg_b rfl : Rg (2) (2) ((2 : Int32))) i_f_4 (by decide) : Rg (0) (28) (((2 : Int32) * v_1))) (rg_b rfl : Rg (1) (1) ((1 : Int32))) (by decide) : Rg (1) (29) ((((2 : Int32) * v_1) + (1 : Int32)))) (thI T q_r_3 (k := 4) (i := 5) rfl : Rg (0) (1) ((hI h r_3 5))) (by decide) : Rg (0) (29) (((((2 : Int32) * v_1) + (1 : Int32)) - (hI h r_3 5)))) (by decide))⟩
set_option maxRecDepth 20000 in
theorem zX6_standsOn {ρ : Nat → Nat} {c : Cm} {F : Nat} (hF : 700000 ≤ F) {h : Hp} {x0 : Nat} {x1 : Int32} {x2 : Int32} (T : TH ρ c h) (r_x0 : ρ x0 = 7) (i_x1 : Rg (-2147483648) (2147483647) (x1)) (i_x2 : Rg (0) (63) (x2)) : Sat (sX6_standsOn h x0 x1 x2) (ZI0 h (-1) (31)) := by
  unfold sX6_standsOn sX6_standsOn_54
  refine s_br (fun c_1 => ?_) (fun c_1 => ?_)
  · have _ := c_1
    obtain ⟨r_7, e_r_7, q_r_7⟩ := thR T r_x0 (k := 7) (i := 3) (k2 := 4) rfl (by decide)
    refine s_ref e_r_7 ?_
    exact s_some ⟨rfl, (rg_m (rg_add (rg_mulc' (rg_b rfl : Rg (2) (2) ((2 : Int32))) (rg_and (rg_b rfl : Rg (15) (15) ((15 : Int32))) (by decide) : Rg (0) (15) (((x1 >>> ((12 : Int32) &&& 31)) &&& (15 : Int32)))) (by decide) : Rg (0) (30) (((2 : Int32) * ((x1 >>> ((12 : Int32) &&& 31)) &&& (15 : Int32))))) (thI T q_r_7 (k := 4) (i := 5) rfl : Rg (0) (1) ((hI h r_7 5))) (by decide) : Rg (0) (31) (((2 : Int32) * ((x1 >>> ((12 : Int32) &&& 31)) &&& (15 : Int32))) + (hI h r_7 5))) (by decide))⟩
  · have _ := c_1
    refine s_br (fun c_2 => ?_) (fun c_2 => ?_)
    · have _ := c_2
      refine s_cI0 (zX6_takenIn hF T r_x0 i_x1) (fun o_6 e_o_6 i_o_6 => ?_)
      have T_3 := th_eq e_o_6 T
      exact s_some ⟨(e_o_6.trans rfl), (rg_m i_o_6 (by decide))⟩
    · have _ := c_2
      obtain ⟨r_3, e_r_3, q_r_3⟩ := thR T r_x0 (k := 7) (i := 3) (k2 := 4) rfl (by decide)
      refine s_ref e_r_3 ?_
      obtain ⟨r_4, e_r_4, q_r_4⟩ := thR T q_r_3 (k := 4) (i := 0) (k2 := 34) rfl (by decide)
      refine s_ref e_r_4 ?_
      refine s_gd (by rw [thN T q_r_4 (k := 34) (n := 64) rfl (by decide)]; exact rg_inB i_x2 (by decide)) ?_
      exact s_some ⟨rfl, (rg_m (thI T q_r_4 (k := 34) rfl : Rg (-1) (23) ((hI h r_4 x2.toNatClampNeg))) (by decide))⟩
set_option maxRecDepth 20000 in
theorem zX11_freePlace_2 {ρ : Nat → Nat} {c : Cm} {h0 : Hp} {F : Nat} (hF : 700000 ≤ F) : ∀ (f : Nat) {h : Hp} {x0 : Nat} {x1 : Int32}, h = h0 → TH ρ c h → ρ x0 = 12 → Rg (0) (60) (x1) → (60 - x1.toInt).toNat < f → Sat (sX11_freePlace_2 F f h x0 x1) (ZI0 h0 (-1) (59)) := by
  intro f
  induction f with
  | zero => intros; omega
  | succ f ih =>
    intro h x0 x1 E T r_x0 i_x1 hm
    rw [sX11_freePlace_2]
    obtain ⟨C_2, hC_2⟩ : ∃ C : Int, C = x1.toInt := ⟨_, rfl⟩
    have hk_2 : ∀ {h : Hp} {x0 : Nat} {x1 : Int32}, h = h0 → TH ρ c h → ρ x0 = 12 → Rg (0) (60) (x1) → C_2 < x1.toInt → Sat (sX11_freePlace_2 F f h x0 x1) (ZI0 h0 (-1) (59)) := by
      intro h' x0' x1' E' T' r_x0' i_x1' hl
      exact ih E' T' r_x0' i_x1' (by have := i_x1'.1; have := i_x1'.2; omega)
    have hc_2 : C_2 ≤ x1.toInt := by omega
    refine s_br (fun c_1 => ?_) (fun c_1 => ?_)
    · have _ := c_1
      have i_f_2 : Rg (60) (60) (x1) := rg_le2 c_1 (rg_b rfl : Rg (60) (60) ((60 : Int32))) i_x1
      exact s_some ⟨E, (rg_m (rg_b rfl : Rg (-1) (-1) ((- 1 : Int32))) (by decide))⟩
    · have _ := c_1
      have i_f_3 : Rg (0) (59) (x1) := rg_lt1 (nle_lt c_1) i_x1 (rg_b rfl : Rg (60) (60) ((60 : Int32)))
      obtain ⟨r_2, e_r_2, q_r_2⟩ := thR T r_x0 (k := 12) (i := 14) (k2 := 58) rfl (by decide)
      refine s_ref e_r_2 ?_
      refine s_gd (by rw [thN T q_r_2 (k := 58) (n := 60) rfl (by decide)]; exact rg_inB i_f_3 (by decide)) ?_
      refine s_br (fun c_4 => ?_) (fun c_4 => ?_)
      · have _ := c_4
        have i_f_5 : Rg (0) (0) ((hI h r_2 x1.toNatClampNeg)) := rg_eq c_4 (rg_b rfl : Rg (0) (0) (0 : Int32))
        exact s_some ⟨E, (rg_m i_f_3 (by decide))⟩
      · have _ := c_4
        have i_f_6 : Rg (1) (1) ((hI h r_2 x1.toNatClampNeg)) := rg_nlo c_4 (thI T q_r_2 (k := 58) rfl : Rg (0) (1) ((hI h r_2 x1.toNatClampNeg))) (rg_b rfl : Rg (0) (0) (0 : Int32))
        refine s_q (fun v_5 e_7 => ?_)
        have i_v_5 : Rg (1) (60) (v_5) := by rw [e_7]; exact (rg_add i_f_3 (rg_b rfl : Rg (1) (1) ((1 : Int32))) (by decide) : Rg (1) (60) (x1 + (1 : Int32)))
        have m_8 : (v_5).toInt = x1.toInt + 1 := by rw [e_7]; exact rg_inc i_f_3 (by decide)
        exact hk_2 E T r_x0 (rg_m i_v_5 (by decide)) (by have := hc_2; omega)
set_option maxRecDepth 20000 in
theorem zX11_freePlace {ρ : Nat → Nat} {c : Cm} {F : Nat} (hF : 700000 ≤ F) {h : Hp} {x0 : Nat} (T : TH ρ c h) (r_x0 : ρ x0 = 12) : Sat (sX11_freePlace F h x0) (ZI0 h (-1) (59)) := by
  unfold sX11_freePlace 
  have m_1 : Rg (0) (60) ((0 : Int32)) := (rg_m (rg_b rfl : Rg (0) (0) ((0 : Int32))) (by decide))
  exact zX11_freePlace_2 hF F rfl T r_x0 (rg_m (rg_b rfl : Rg (0) (0) ((0 : Int32))) (by decide)) (by have := m_1.1; have := m_1.2; omega)
set_option maxRecDepth 20000 in
theorem zX11_countPlaces_4 {ρ : Nat → Nat} {c : Cm} {h0 : Hp} {F : Nat} (hF : 700000 ≤ F) : ∀ (f : Nat) {h : Hp} {x0 : Nat} {x1 : Int32} {x2 : Int32}, h = h0 → TH ρ c h → ρ x0 = 12 → Rg (-2147483648) (2147483647) (x1) → Rg (0) (60) (x2) → (60 - x2.toInt).toNat < f → Sat (sX11_countPlaces_4 F f h x0 x1 x2) (ZI0 h0 (-2147483648) (2147483647)) := by
  intro f
  induction f with
  | zero => intros; omega
  | succ f ih =>
    intro h x0 x1 x2 E T r_x0 i_x1 i_x2 hm
    rw [sX11_countPlaces_4]
    unfold sX11_countPlaces_25
    obtain ⟨C_4, hC_4⟩ : ∃ C : Int, C = x2.toInt := ⟨_, rfl⟩
    have hk_4 : ∀ {h : Hp} {x0 : Nat} {x1 : Int32} {x2 : Int32}, h = h0 → TH ρ c h → ρ x0 = 12 → Rg (-2147483648) (2147483647) (x1) → Rg (0) (60) (x2) → C_4 < x2.toInt → Sat (sX11_countPlaces_4 F f h x0 x1 x2) (ZI0 h0 (-2147483648) (2147483647)) := by
      intro h' x0' x1' x2' E' T' r_x0' i_x1' i_x2' hl
      exact ih E' T' r_x0' i_x1' i_x2' (by have := i_x2'.1; have := i_x2'.2; omega)
    have hc_4 : C_4 ≤ x2.toInt := by omega
    refine s_br (fun c_1 => ?_) (fun c_1 => ?_)
    · have _ := c_1
      have i_f_2 : Rg (60) (60) (x2) := rg_le2 c_1 (rg_b rfl : Rg (60) (60) ((60 : Int32))) i_x2
      exact s_some ⟨E, i_x1⟩
    · have _ := c_1
      have i_f_3 : Rg (0) (59) (x2) := rg_lt1 (nle_lt c_1) i_x2 (rg_b rfl : Rg (60) (60) ((60 : Int32)))
      obtain ⟨r_2, e_r_2, q_r_2⟩ := thR T r_x0 (k := 12) (i := 14) (k2 := 58) rfl (by decide)
      refine s_ref e_r_2 ?_
      refine s_gd (by rw [thN T q_r_2 (k := 58) (n := 60) rfl (by decide)]; exact rg_inB i_f_3 (by decide)) ?_
      refine s_br (fun c_4 => ?_) (fun c_4 => ?_)
      · have _ := c_4
        have i_f_5 : Rg (0) (0) ((hI h r_2 x2.toNatClampNeg)) := rg_eq c_4 (rg_b rfl : Rg (0) (0) (0 : Int32))
        refine s_q (fun v_1q1 e_6 => ?_)
        have i_v_1q1 : Rg (-2147483648) (2147483647) (v_1q1) := by rw [e_6]; exact (rg_add i_x1 (rg_b rfl : Rg (0) (0) ((0 : Int32))) (by decide) : Rg (-2147483648) (2147483647) (x1 + (0 : Int32)))
        refine s_q (fun v_2q1 e_7 => ?_)
        have i_v_2q1 : Rg (1) (60) (v_2q1) := by rw [e_7]; exact (rg_add i_f_3 (rg_b rfl : Rg (1) (1) ((1 : Int32))) (by decide) : Rg (1) (60) (x2 + (1 : Int32)))
        have m_8 : (v_2q1).toInt = x2.toInt + 1 := by rw [e_7]; exact rg_inc i_f_3 (by decide)
        exact hk_4 E T r_x0 i_v_1q1 (rg_m i_v_2q1 (by decide)) (by have := hc_4; omega)
      · have _ := c_4
        have i_f_9 : Rg (1) (1) ((hI h r_2 x2.toNatClampNeg)) := rg_nlo c_4 (thI T q_r_2 (k := 58) rfl : Rg (0) (1) ((hI h r_2 x2.toNatClampNeg))) (rg_b rfl : Rg (0) (0) (0 : Int32))
        refine s_q (fun v_1q2 e_10 => ?_)
        have i_v_1q2 : Rg (-2147483648) (2147483647) (v_1q2) := by rw [e_10]; exact (rg_top _ : Rg (-2147483648) (2147483647) (x1 + (1 : Int32)))
        refine s_q (fun v_2q2 e_11 => ?_)
        have i_v_2q2 : Rg (1) (60) (v_2q2) := by rw [e_11]; exact (rg_add i_f_3 (rg_b rfl : Rg (1) (1) ((1 : Int32))) (by decide) : Rg (1) (60) (x2 + (1 : Int32)))
        have m_12 : (v_2q2).toInt = x2.toInt + 1 := by rw [e_11]; exact rg_inc i_f_3 (by decide)
        exact hk_4 E T r_x0 i_v_1q2 (rg_m i_v_2q2 (by decide)) (by have := hc_4; omega)
set_option maxRecDepth 20000 in
theorem zX11_countPlaces {ρ : Nat → Nat} {c : Cm} {F : Nat} (hF : 700000 ≤ F) {h : Hp} {x0 : Nat} (T : TH ρ c h) (r_x0 : ρ x0 = 12) : Sat (sX11_countPlaces F h x0) (ZI0 h (-2147483648) (2147483647)) := by
  unfold sX11_countPlaces 
  have m_1 : Rg (0) (60) ((0 : Int32)) := (rg_m (rg_b rfl : Rg (0) (0) ((0 : Int32))) (by decide))
  exact zX11_countPlaces_4 hF F rfl T r_x0 (rg_m (rg_b rfl : Rg (0) (0) ((0 : Int32))) (by decide)) (rg_m (rg_b rfl : Rg (0) (0) ((0 : Int32))) (by decide)) (by have := m_1.1; have := m_1.2; omega)
set_option maxRecDepth 20000 in
theorem zX4_forget {ρ : Nat → Nat} {c : Cm} {F : Nat} (hF : 700000 ≤ F) (hA : pmA c [(5, 14), (5, 15), (5, 16)]) {h : Hp} {x0 : Nat} {x1 : Int32} (T : TH ρ c h) (r_x0 : ρ x0 = 5) (i_x1 : Rg (0) (59) (x1)) : Sat (sX4_forget h x0 x1) (ZV ρ c) := by
  unfold sX4_forget sX4_forget_23
  refine s_br (fun c_1 => ?_) (fun c_1 => ?_)
  · have _ := c_1
    have i_f_2 : Rg (0) (59) ((hI h x0 16)) := rg_eq c_1 i_x1
    refine s_hq (th_wI T r_x0 (k := 5) (lo := (-1)) (hi := (59)) rfl ((rg_m (rg_b rfl : Rg (-1) (-1) ((- 1 : Int32))) (by decide)) : Rg (-1) (59) ((- 1 : Int32))) (by decide) (by decide) (pm_a hA rfl)) (fun h_2 T_3 w_4 => ?_)
    refine s_hq (th_wI T_3 r_x0 (k := 5) (lo := (0)) (hi := (4096)) rfl ((rg_m (rg_b rfl : Rg (0) (0) ((0 : Int32))) (by decide)) : Rg (0) (4096) ((0 : Int32))) (by decide) (by decide) (pm_a hA rfl)) (fun h_3 T_5 w_6 => ?_)
    refine s_hq (th_wI T_5 r_x0 (k := 5) (lo := (0)) (hi := (4096)) rfl ((rg_m (rg_b rfl : Rg (0) (0) ((0 : Int32))) (by decide)) : Rg (0) (4096) ((0 : Int32))) (by decide) (by decide) (pm_a hA rfl)) (fun h_4 T_7 w_8 => ?_)
    exact s_some (T_7)
  · have _ := c_1
    exact s_some (T)
set_option maxRecDepth 20000 in
theorem zX11_drop {ρ : Nat → Nat} {c : Cm} {F : Nat} (hF : 700000 ≤ F) (hA : pmA c [(58, 999), (5, 14), (5, 15), (5, 16)]) {h : Hp} {x0 : Nat} {x1 : Int32} (T : TH ρ c h) (r_x0 : ρ x0 = 12) (i_x1 : Rg (-2147483648) (2147483647) (x1)) : Sat (sX11_drop h x0 x1) (ZI ρ c (-102) (1)) := by
  unfold sX11_drop 
  refine s_cP0 (zX11_isPlace hF T r_x0 i_x1) (fun o_1 e_o_1 i_o_1 p_o_1 => ?_)
  have T_1 := th_eq e_o_1 T
  refine s_br (fun c_2 => ?_) (fun c_2 => ?_)
  · have _ := c_2
    have i_f_3 : Rg (0) (0) (o_1.1) := rg_eq c_2 (rg_b rfl : Rg (0) (0) (0 : Int32))
    exact s_some ⟨(T_1), (rg_m (rg_b rfl : Rg (-102) (-102) ((- 102 : Int32))) (by decide))⟩
  · have _ := c_2
    have i_f_4 : Rg (1) (1) (o_1.1) := rg_nlo c_2 i_o_1 (rg_b rfl : Rg (0) (0) (0 : Int32))
    have p_f_5 := p_o_1 c_2
    obtain ⟨r_3, e_r_3, q_r_3⟩ := thR T_1 r_x0 (k := 12) (i := 14) (k2 := 58) rfl (by decide)
    refine s_ref e_r_3 ?_
    refine s_gd (by rw [thN T_1 q_r_3 (k := 58) (n := 60) rfl (by decide)]; exact rg_inB p_f_5 (by decide)) ?_
    refine s_hq (th_wI T_1 q_r_3 (k := 58) (lo := (0)) (hi := (1)) rfl ((rg_narz _ : Rg (0) (1) ((vp_nar .boolean (0 : Int32)))) : Rg (0) (1) ((vp_nar .boolean (0 : Int32)))) (by decide) (by decide) (pm_a hA rfl)) (fun h_5 T_6 w_7 => ?_)
    obtain ⟨r_6, e_r_6, q_r_6⟩ := thR T_6 r_x0 (k := 12) (i := 11) (k2 := 5) rfl (by decide)
    refine s_ref e_r_6 ?_
    refine s_cV (zX4_forget hF (pmA_s hA rfl) T_6 q_r_6 p_f_5) (fun o_7 T_8 => ?_)
    exact s_some ⟨(T_8), (rg_m (rg_b rfl : Rg (1) (1) ((1 : Int32))) (by decide))⟩
set_option maxRecDepth 20000 in
theorem zX9_appendNumber {ρ : Nat → Nat} {c : Cm} {F : Nat} {w_x0 : Nat} (hF : 700000 ≤ F) (hO_x0 : pmO c w_x0 [(49, 999), (10, 1)]) {h : Hp} {x0 : Nat} {x1 : Int32} (o_x0 : cw c x0 = w_x0) (T : TH ρ c h) (r_x0 : ρ x0 = 10) (i_x1 : Rg (-2147483648) (2147483647) (x1)) : Sat (sX9_appendNumber h x0 x1) (ZV ρ c) := by
  unfold sX9_appendNumber 
  refine s_cV (zX9_append hF (pmO_e o_x0 hO_x0 rfl) T r_x0 (rg_top _ : Rg (-2147483648) (2147483647) (((x1.toUInt32 >>> ((24 : Int32).toUInt32 &&& Int32.toUInt32 31)).toInt32)))) (fun o_1 T_1 => ?_)
  refine s_cV (zX9_append hF (pmO_e o_x0 hO_x0 rfl) T_1 r_x0 (rg_top _ : Rg (-2147483648) (2147483647) (((x1.toUInt32 >>> ((16 : Int32).toUInt32 &&& Int32.toUInt32 31)).toInt32)))) (fun o_2 T_2 => ?_)
  refine s_cV (zX9_append hF (pmO_e o_x0 hO_x0 rfl) T_2 r_x0 (rg_top _ : Rg (-2147483648) (2147483647) (((x1.toUInt32 >>> ((8 : Int32).toUInt32 &&& Int32.toUInt32 31)).toInt32)))) (fun o_3 T_3 => ?_)
  refine s_cV (zX9_append hF (pmO_e o_x0 hO_x0 rfl) T_3 r_x0 i_x1) (fun o_4 T_4 => ?_)
  exact s_some (T_4)
set_option maxRecDepth 20000 in
theorem zX11_feed {ρ : Nat → Nat} {c : Cm} {F : Nat} (hF : 700000 ≤ F) (hi_2100 : pmO c 2100 [(49, 999), (10, 1)]) {h : Hp} {x0 : Nat} {x1 : Int32} {x2 : Int32} {x3 : Int32} {x4 : Int32} {x5 : Int32} (T : TH ρ c h) (r_x0 : ρ x0 = 12) (i_x1 : Rg (-2147483648) (2147483647) (x1)) (i_x2 : Rg (-2147483648) (2147483647) (x2)) (i_x3 : Rg (-2147483648) (2147483647) (x3)) (i_x4 : Rg (-2147483648) (2147483647) (x4)) (i_x5 : Rg (-2147483648) (2147483647) (x5)) : Sat (sX11_feed h x0 x1 x2 x3 x4 x5) (ZI ρ c (-104) (1200)) := by
  unfold sX11_feed 
  obtain ⟨r_1, e_r_1, q_r_1⟩ := thR T r_x0 (k := 12) (i := 0) (k2 := 10) rfl (by decide)
  refine s_ref e_r_1 ?_
  refine s_br (fun c_1 => ?_) (fun c_1 => ?_)
  · have _ := c_1
    have i_f_2 : Rg (20) (1200) (((hI h r_1 1) + (20 : Int32))) := rg_le1 c_1 (rg_add (thI T q_r_1 (k := 10) (i := 1) rfl : Rg (0) (1200) ((hI h r_1 1))) (rg_b rfl : Rg (20) (20) ((20 : Int32))) (by decide) : Rg (20) (1220) (((hI h r_1 1) + (20 : Int32)))) (rg_b rfl : Rg (1200) (1200) ((1200 : Int32)))
    refine s_ref e_r_1 ?_
    refine s_cV (zX9_appendNumber hF (pmO_s hi_2100 rfl) (th_id T r_x0 (k := 12) (i := 0) (w := 2100) e_r_1 rfl (by decide)) T q_r_1 i_x1) (fun o_4 T_3 => ?_)
    obtain ⟨r_5, e_r_5, q_r_5⟩ := thR T_3 r_x0 (k := 12) (i := 0) (k2 := 10) rfl (by decide)
    refine s_ref e_r_5 ?_
    refine s_cV (zX9_appendNumber hF (pmO_s hi_2100 rfl) (th_id T_3 r_x0 (k := 12) (i := 0) (w := 2100) e_r_5 rfl (by decide)) T_3 q_r_5 i_x2) (fun o_6 T_4 => ?_)
    obtain ⟨r_7, e_r_7, q_r_7⟩ := thR T_4 r_x0 (k := 12) (i := 0) (k2 := 10) rfl (by decide)
    refine s_ref e_r_7 ?_
    refine s_cV (zX9_appendNumber hF (pmO_s hi_2100 rfl) (th_id T_4 r_x0 (k := 12) (i := 0) (w := 2100) e_r_7 rfl (by decide)) T_4 q_r_7 i_x3) (fun o_8 T_5 => ?_)
    obtain ⟨r_9, e_r_9, q_r_9⟩ := thR T_5 r_x0 (k := 12) (i := 0) (k2 := 10) rfl (by decide)
    refine s_ref e_r_9 ?_
    refine s_cV (zX9_appendNumber hF (pmO_s hi_2100 rfl) (th_id T_5 r_x0 (k := 12) (i := 0) (w := 2100) e_r_9 rfl (by decide)) T_5 q_r_9 i_x4) (fun o_10 T_6 => ?_)
    obtain ⟨r_11, e_r_11, q_r_11⟩ := thR T_6 r_x0 (k := 12) (i := 0) (k2 := 10) rfl (by decide)
    refine s_ref e_r_11 ?_
    refine s_cV (zX9_appendNumber hF (pmO_s hi_2100 rfl) (th_id T_6 r_x0 (k := 12) (i := 0) (w := 2100) e_r_11 rfl (by decide)) T_6 q_r_11 i_x5) (fun o_12 T_7 => ?_)
    obtain ⟨r_13, e_r_13, q_r_13⟩ := thR T_7 r_x0 (k := 12) (i := 0) (k2 := 10) rfl (by decide)
    refine s_ref e_r_13 ?_
    exact s_some ⟨(T_7), (rg_m (thI T_7 q_r_13 (k := 10) (i := 1) rfl : Rg (0) (1200) (hI o_12 r_13 1)) (by decide))⟩
  · have _ := c_1
    have i_f_8 : Rg (1201) (1220) (((hI h r_1 1) + (20 : Int32))) := rg_lt2 (nle_lt c_1) (rg_b rfl : Rg (1200) (1200) ((1200 : Int32))) (rg_add (thI T q_r_1 (k := 10) (i := 1) rfl : Rg (0) (1200) ((hI h r_1 1))) (rg_b rfl : Rg (20) (20) ((20 : Int32))) (by decide) : Rg (20) (1220) (((hI h r_1 1) + (20 : Int32))))
    exact s_some ⟨(T), (rg_m (rg_b rfl : Rg (-104) (-104) ((- 104 : Int32))) (by decide))⟩
set_option maxRecDepth 20000 in
theorem zX3_handSize_4 {ρ : Nat → Nat} {c : Cm} {h0 : Hp} {F : Nat} (hF : 700000 ≤ F) : ∀ (f : Nat) {h : Hp} {x0 : Nat} {x1 : Int32} {x2 : Int32} {x3 : Int32}, h = h0 → TH ρ c h → ρ x0 = 4 → Rg (0) (1) (x1) → Rg (-2147483648) (2147483647) (x2) → Rg (0) (12) (x3) → (12 - x3.toInt).toNat < f → Sat (sX3_handSize_4 F f h x0 x1 x2 x3) (ZI0 h0 (-2147483648) (2147483647)) := by
  intro f
  induction f with
  | zero => intros; omega
  | succ f ih =>
    intro h x0 x1 x2 x3 E T r_x0 i_x1 i_x2 i_x3 hm
    rw [sX3_handSize_4]
    obtain ⟨C_4, hC_4⟩ : ∃ C : Int, C = x3.toInt := ⟨_, rfl⟩
    have hk_4 : ∀ {h : Hp} {x0 : Nat} {x1 : Int32} {x2 : Int32} {x3 : Int32}, h = h0 → TH ρ c h → ρ x0 = 4 → Rg (0) (1) (x1) → Rg (-2147483648) (2147483647) (x2) → Rg (0) (12) (x3) → C_4 < x3.toInt → Sat (sX3_handSize_4 F f h x0 x1 x2 x3) (ZI0 h0 (-2147483648) (2147483647)) := by
      intro h' x0' x1' x2' x3' E' T' r_x0' i_x1' i_x2' i_x3' hl
      exact ih E' T' r_x0' i_x1' i_x2' i_x3' (by have := i_x3'.1; have := i_x3'.2; omega)
    have hc_4 : C_4 ≤ x3.toInt := by omega
    refine s_br (fun c_1 => ?_) (fun c_1 => ?_)
    · have _ := c_1
      have i_f_2 : Rg (12) (12) (x3) := rg_le2 c_1 (rg_b rfl : Rg (12) (12) ((12 : Int32))) i_x3
      exact s_some ⟨E, i_x2⟩
    · have _ := c_1
      have i_f_3 : Rg (0) (11) (x3) := rg_lt1 (nle_lt c_1) i_x3 (rg_b rfl : Rg (12) (12) ((12 : Int32)))
      refine s_cI0 (zX3_inHand hF T r_x0 i_x1 (rg_m i_f_3 (by decide))) (fun o_2 e_o_2 i_o_2 => ?_)
      have T_4 := th_eq e_o_2 T
      refine s_q (fun v_3 e_5 => ?_)
      have i_v_3 : Rg (-2147483648) (2147483647) (v_3) := by rw [e_5]; exact (rg_top _ : Rg (-2147483648) (2147483647) (x2 + o_2.1))
      refine s_q (fun v_4 e_6 => ?_)
      have i_v_4 : Rg (1) (12) (v_4) := by rw [e_6]; exact (rg_add i_f_3 (rg_b rfl : Rg (1) (1) ((1 : Int32))) (by decide) : Rg (1) (12) (x3 + (1 : Int32)))
      have m_7 : (v_4).toInt = x3.toInt + 1 := by rw [e_6]; exact rg_inc i_f_3 (by decide)
      exact hk_4 (e_o_2.trans E) T_4 r_x0 i_x1 i_v_3 (rg_m i_v_4 (by decide)) (by have := hc_4; omega)
set_option maxRecDepth 20000 in
theorem zX3_handSize {ρ : Nat → Nat} {c : Cm} {F : Nat} (hF : 700000 ≤ F) {h : Hp} {x0 : Nat} {x1 : Int32} (T : TH ρ c h) (r_x0 : ρ x0 = 4) (i_x1 : Rg (0) (1) (x1)) : Sat (sX3_handSize F h x0 x1) (ZI0 h (-2147483648) (2147483647)) := by
  unfold sX3_handSize 
  have m_1 : Rg (0) (12) ((0 : Int32)) := (rg_m (rg_b rfl : Rg (0) (0) ((0 : Int32))) (by decide))
  exact zX3_handSize_4 hF F rfl T r_x0 i_x1 (rg_m (rg_b rfl : Rg (0) (0) ((0 : Int32))) (by decide)) (rg_m (rg_b rfl : Rg (0) (0) ((0 : Int32))) (by decide)) (by have := m_1.1; have := m_1.2; omega)
set_option maxRecDepth 20000 in
theorem zX11_figure {ρ : Nat → Nat} {c : Cm} {F : Nat} (hF : 700000 ≤ F) {h : Hp} {x0 : Nat} {x1 : Int32} {x2 : Int32} (T : TH ρ c h) (r_x0 : ρ x0 = 12) (i_x1 : Rg (-2147483648) (2147483647) (x1)) (i_x2 : Rg (-2147483648) (2147483647) (x2)) : Sat (sX11_figure F h x0 x1 x2) (ZI0 h (-2147483648) (2147483647)) := by
  unfold sX11_figure sX11_figure_10 sX11_figure_130
  refine s_br (fun c_1 => ?_) (fun c_1 => ?_)
  · have _ := c_1
    have i_f_2 : Rg (-2147483648) (-1) (x2) := rg_lt1 c_1 i_x2 (rg_b rfl : Rg (0) (0) (0 : Int32))
    exact s_some ⟨rfl, (rg_m (rg_b rfl : Rg (-101) (-101) ((- 101 : Int32))) (by decide))⟩
  · have _ := c_1
    have i_f_3 : Rg (0) (2147483647) (x2) := rg_le2 (nlt_le c_1) (rg_b rfl : Rg (0) (0) (0 : Int32)) i_x2
    refine s_br (fun c_4 => ?_) (fun c_4 => ?_)
    · have _ := c_4
      have i_f_5 : Rg (0) (8) (x2) := rg_le1 c_4 i_f_3 (rg_b rfl : Rg (8) (8) ((8 : Int32)))
      refine s_cP0 (zX11_isPlace hF T r_x0 i_x1) (fun o_3 e_o_3 i_o_3 p_o_3 => ?_)
      have T_6 := th_eq e_o_3 T
      refine s_br (fun c_7 => ?_) (fun c_7 => ?_)
      · have _ := c_7
        have i_f_8 : Rg (0) (0) (o_3.1) := rg_eq c_7 (rg_b rfl : Rg (0) (0) (0 : Int32))
        exact s_some ⟨(e_o_3.trans rfl), (rg_m (rg_b rfl : Rg (-102) (-102) ((- 102 : Int32))) (by decide))⟩
      · have _ := c_7
        have i_f_9 : Rg (1) (1) (o_3.1) := rg_nlo c_7 i_o_3 (rg_b rfl : Rg (0) (0) (0 : Int32))
        have p_f_10 := p_o_3 c_7
        obtain ⟨r_5, e_r_5, q_r_5⟩ := thR T_6 r_x0 (k := 12) (i := 13) (k2 := 57) rfl (by decide)
        refine s_ref e_r_5 ?_
        refine s_gd (by rw [thN T_6 q_r_5 (k := 57) (n := 60) rfl (by decide)]; exact rg_inB p_f_10 (by decide)) ?_
        obtain ⟨r_7, e_r_7, q_r_7⟩ := thE T_6 q_r_5 (k := 57) (n := 60) (k2 := 4) (b := 59) (p_f_10 : Rg (0) (59) (x1)) (by decide) (by decide) (by decide)
        refine s_ref e_r_7 ?_
        refine s_br (fun c_11 => ?_) (fun c_11 => ?_)
        · have _ := c_11
          have i_f_12 : Rg (0) (0) (x2) := rg_eq c_11 (rg_b rfl : Rg (0) (0) ((0 : Int32)))
          exact s_some ⟨(e_o_3.trans rfl), (rg_m (thI T_6 q_r_7 (k := 4) (i := 5) rfl : Rg (0) (1) (hI o_3.2 r_7 5)) (by decide))⟩
        · have _ := c_11
          have i_f_13 : Rg (1) (8) (x2) := rg_nlo c_11 i_f_5 (rg_b rfl : Rg (0) (0) ((0 : Int32)))
          refine s_br (fun c_14 => ?_) (fun c_14 => ?_)
          · have _ := c_14
            have i_f_15 : Rg (1) (1) (x2) := rg_eq c_14 (rg_b rfl : Rg (1) (1) ((1 : Int32)))
            exact s_some ⟨(e_o_3.trans rfl), (rg_m (thI T_6 q_r_7 (k := 4) (i := 6) rfl : Rg (0) (999) (hI o_3.2 r_7 6)) (by decide))⟩
          · have _ := c_14
            have i_f_16 : Rg (2) (8) (x2) := rg_nlo c_14 i_f_13 (rg_b rfl : Rg (1) (1) ((1 : Int32)))
            refine s_br (fun c_17 => ?_) (fun c_17 => ?_)
            · have _ := c_17
              have i_f_18 : Rg (2) (2) (x2) := rg_eq c_17 (rg_b rfl : Rg (2) (2) ((2 : Int32)))
              obtain ⟨r_10, e_r_10, q_r_10⟩ := thR T_6 q_r_7 (k := 4) (i := 4) (k2 := 38) rfl (by decide)
              refine s_ref e_r_10 ?_
              refine s_gd (by rw [thN T_6 q_r_10 (k := 38) (n := 2) rfl (by decide)]; exact rg_inB (rg_b rfl : Rg (0) (0) ((0 : Int32))) (by decide)) ?_
              exact s_some ⟨(e_o_3.trans rfl), (rg_m (thI T_6 q_r_10 (k := 38) rfl : Rg (0) (9) (hI o_3.2 r_10 (0 : Int32).toNatClampNeg)) (by decide))⟩
            · have _ := c_17
              have i_f_19 : Rg (3) (8) (x2) := rg_nlo c_17 i_f_16 (rg_b rfl : Rg (2) (2) ((2 : Int32)))
              refine s_br (fun c_20 => ?_) (fun c_20 => ?_)
              · have _ := c_20
                have i_f_21 : Rg (3) (3) (x2) := rg_eq c_20 (rg_b rfl : Rg (3) (3) ((3 : Int32)))
                obtain ⟨r_13, e_r_13, q_r_13⟩ := thR T_6 q_r_7 (k := 4) (i := 4) (k2 := 38) rfl (by decide)
                refine s_ref e_r_13 ?_
                refine s_gd (by rw [thN T_6 q_r_13 (k := 38) (n := 2) rfl (by decide)]; exact rg_inB (rg_b rfl : Rg (1) (1) ((1 : Int32))) (by decide)) ?_
                exact s_some ⟨(e_o_3.trans rfl), (rg_m (thI T_6 q_r_13 (k := 38) rfl : Rg (0) (9) (hI o_3.2 r_13 (1 : Int32).toNatClampNeg)) (by decide))⟩
              · have _ := c_20
                have i_f_22 : Rg (4) (8) (x2) := rg_nlo c_20 i_f_19 (rg_b rfl : Rg (3) (3) ((3 : Int32)))
                refine s_br (fun c_23 => ?_) (fun c_23 => ?_)
                · have _ := c_23
                  have i_f_24 : Rg (4) (4) (x2) := rg_eq c_23 (rg_b rfl : Rg (4) (4) ((4 : Int32)))
                  refine s_cI0 (zJ13_bitCount_95d88 hF T_6) (fun o_16 e_o_16 i_o_16 => ?_)
                  have T_25 := th_eq e_o_16 T_6
                  exact s_some ⟨(e_o_16.trans (e_o_3.trans rfl)), (rg_m i_o_16 (by decide))⟩
                · have _ := c_23
                  have i_f_26 : Rg (5) (8) (x2) := rg_nlo c_23 i_f_22 (rg_b rfl : Rg (4) (4) ((4 : Int32)))
                  refine s_br (fun c_27 => ?_) (fun c_27 => ?_)
                  · have _ := c_27
                    have i_f_28 : Rg (5) (5) (x2) := rg_eq c_27 (rg_b rfl : Rg (5) (5) ((5 : Int32)))
                    refine s_br (fun c_29 => ?_) (fun c_29 => ?_)
                    · have _ := c_29
                      exact s_some ⟨(e_o_3.trans rfl), (rg_m (rg_b rfl : Rg (-1) (-1) ((- 1 : Int32))) (by decide))⟩
                    · have _ := c_29
                      refine s_cI0 (zX3_passSquare hF T_6 q_r_7 (rg_m (rg_b rfl : Rg (0) (0) ((0 : Int32))) (by decide))) (fun o_19 e_o_19 i_o_19 => ?_)
                      have T_30 := th_eq e_o_19 T_6
                      exact s_some ⟨(e_o_19.trans (e_o_3.trans rfl)), (rg_m i_o_19 (by decide))⟩
                  · have _ := c_27
                    have i_f_31 : Rg (6) (8) (x2) := rg_nlo c_27 i_f_26 (rg_b rfl : Rg (5) (5) ((5 : Int32)))
                    refine s_br (fun c_32 => ?_) (fun c_32 => ?_)
                    · have _ := c_32
                      have i_f_33 : Rg (6) (6) (x2) := rg_eq c_32 (rg_b rfl : Rg (6) (6) ((6 : Int32)))
                      refine s_cI0 (zX3_handSize hF T_6 q_r_7 (rg_m (rg_b rfl : Rg (0) (0) ((0 : Int32))) (by decide))) (fun o_21 e_o_21 i_o_21 => ?_)
                      have T_34 := th_eq e_o_21 T_6
                      exact s_some ⟨(e_o_21.trans (e_o_3.trans rfl)), i_o_21⟩
                    · have _ := c_32
                      have i_f_35 : Rg (7) (8) (x2) := rg_nlo c_32 i_f_31 (rg_b rfl : Rg (6) (6) ((6 : Int32)))
                      refine s_br (fun c_36 => ?_) (fun c_36 => ?_)
                      · have _ := c_36
                        have i_f_37 : Rg (7) (7) (x2) := rg_eq c_36 (rg_b rfl : Rg (7) (7) ((7 : Int32)))
                        refine s_cI0 (zX3_handSize hF T_6 q_r_7 (rg_m (rg_b rfl : Rg (1) (1) ((1 : Int32))) (by decide))) (fun o_23 e_o_23 i_o_23 => ?_)
                        have T_38 := th_eq e_o_23 T_6
                        exact s_some ⟨(e_o_23.trans (e_o_3.trans rfl)), i_o_23⟩
                      · have _ := c_36
                        have i_f_39 : Rg (8) (8) (x2) := rg_nlo c_36 i_f_35 (rg_b rfl : Rg (7) (7) ((7 : Int32)))
                        refine s_cJ0 (zX3_occupied hF T_6 q_r_7) (fun o_25 e_o_25 => ?_)
                        have T_40 := th_eq e_o_25 T_6
                        refine s_cI0 (zJ13_bitCount_95d88 hF T_40) (fun o_26 e_o_26 i_o_26 => ?_)
                        have T_41 := th_eq e_o_26 T_40
                        exact s_some ⟨(e_o_26.trans (e_o_25.trans (e_o_3.trans rfl))), (rg_m i_o_26 (by decide))⟩
    · have _ := c_4
      have i_f_42 : Rg (9) (2147483647) (x2) := rg_lt2 (nle_lt c_4) (rg_b rfl : Rg (8) (8) ((8 : Int32))) i_f_3
      exact s_some ⟨rfl, (rg_m (rg_b rfl : Rg (-101) (-101) ((- 101 : Int32))) (by decide))⟩
set_option maxRecDepth 20000 in
theorem zX11_forgetAll_10 {ρ : Nat → Nat} {c : Cm} {F : Nat} (hF : 700000 ≤ F) (hA : pmA c [(58, 999), (1, 10), (5, 14), (5, 15), (5, 16), (7, 6)]) : ∀ (f : Nat) {h : Hp} {x0 : Nat} {x1 : Int32}, TH ρ c h → ρ x0 = 12 → Rg (0) (60) (x1) → (60 - x1.toInt).toNat < f → Sat (sX11_forgetAll_10 F f h x0 x1) (ZV ρ c) := by
  intro f
  induction f with
  | zero => intros; omega
  | succ f ih =>
    intro h x0 x1 T r_x0 i_x1 hm
    rw [sX11_forgetAll_10]
    obtain ⟨C_10, hC_10⟩ : ∃ C : Int, C = x1.toInt := ⟨_, rfl⟩
    have hk_10 : ∀ {h : Hp} {x0 : Nat} {x1 : Int32}, TH ρ c h → ρ x0 = 12 → Rg (0) (60) (x1) → C_10 < x1.toInt → Sat (sX11_forgetAll_10 F f h x0 x1) (ZV ρ c) := by
      intro h' x0' x1' T' r_x0' i_x1' hl
      exact ih T' r_x0' i_x1' (by have := i_x1'.1; have := i_x1'.2; omega)
    have hc_10 : C_10 ≤ x1.toInt := by omega
    refine s_br (fun c_1 => ?_) (fun c_1 => ?_)
    · have _ := c_1
      have i_f_2 : Rg (60) (60) (x1) := rg_le2 c_1 (rg_b rfl : Rg (60) (60) ((60 : Int32))) i_x1
      obtain ⟨r_2, e_r_2, q_r_2⟩ := thR T r_x0 (k := 12) (i := 9) (k2 := 7) rfl (by decide)
      refine s_ref e_r_2 ?_
      refine s_hq (th_wI T q_r_2 (k := 7) (lo := (0)) (hi := (3000)) rfl ((rg_m (rg_b rfl : Rg (0) (0) ((0 : Int32))) (by decide)) : Rg (0) (3000) ((0 : Int32))) (by decide) (by decide) (pm_a hA rfl)) (fun h_3 T_3 w_4 => ?_)
      obtain ⟨r_4, e_r_4, q_r_4⟩ := thR T_3 r_x0 (k := 12) (i := 10) (k2 := 1) rfl (by decide)
      refine s_ref e_r_4 ?_
      refine s_hq (th_wI T_3 q_r_4 (k := 1) (lo := (0)) (hi := (1)) rfl ((rg_m (rg_b rfl : Rg (0) (0) ((0 : Int32))) (by decide)) : Rg (0) (1) ((0 : Int32))) (by decide) (by decide) (pm_a hA rfl)) (fun h_5 T_5 w_6 => ?_)
      exact s_some (T_5)
    · have _ := c_1
      have i_f_7 : Rg (0) (59) (x1) := rg_lt1 (nle_lt c_1) i_x1 (rg_b rfl : Rg (60) (60) ((60 : Int32)))
      obtain ⟨r_6, e_r_6, q_r_6⟩ := thR T r_x0 (k := 12) (i := 14) (k2 := 58) rfl (by decide)
      refine s_ref e_r_6 ?_
      refine s_gd (by rw [thN T q_r_6 (k := 58) (n := 60) rfl (by decide)]; exact rg_inB i_f_7 (by decide)) ?_
      refine s_hq (th_wI T q_r_6 (k := 58) (lo := (0)) (hi := (1)) rfl ((rg_narz _ : Rg (0) (1) ((vp_nar .boolean (0 : Int32)))) : Rg (0) (1) ((vp_nar .boolean (0 : Int32)))) (by decide) (by decide) (pm_a hA rfl)) (fun h_8 T_8 w_9 => ?_)
      obtain ⟨r_9, e_r_9, q_r_9⟩ := thR T_8 r_x0 (k := 12) (i := 11) (k2 := 5) rfl (by decide)
      refine s_ref e_r_9 ?_
      refine s_cV (zX4_forget hF (pmA_s hA rfl) T_8 q_r_9 i_f_7) (fun o_10 T_10 => ?_)
      refine s_q (fun v_11 e_11 => ?_)
      have i_v_11 : Rg (1) (60) (v_11) := by rw [e_11]; exact (rg_add i_f_7 (rg_b rfl : Rg (1) (1) ((1 : Int32))) (by decide) : Rg (1) (60) (x1 + (1 : Int32)))
      have m_12 : (v_11).toInt = x1.toInt + 1 := by rw [e_11]; exact rg_inc i_f_7 (by decide)
      exact hk_10 T_10 r_x0 (rg_m i_v_11 (by decide)) (by have := hc_10; omega)
set_option maxRecDepth 20000 in
theorem zX11_forgetAll {ρ : Nat → Nat} {c : Cm} {F : Nat} (hF : 700000 ≤ F) (hA : pmA c [(58, 999), (61, 999), (1, 10), (5, 14), (5, 15), (5, 16), (7, 6)]) {h : Hp} {x0 : Nat} (T : TH ρ c h) (r_x0 : ρ x0 = 12) : Sat (sX11_forgetAll F h x0) (ZV ρ c) := by
  unfold sX11_forgetAll 
  obtain ⟨r_1, e_r_1, q_r_1⟩ := thR T r_x0 (k := 12) (i := 17) (k2 := 61) rfl (by decide)
  refine s_ref e_r_1 ?_
  refine s_cV (zJ7_fill_53178 hF T q_r_1 (k := 61) (n := 8) (lo := (-1)) (hi := (300)) (rg_m (rg_b rfl : Rg (-1) (-1) ((- 1 : Int32))) (by decide)) (fun _ => rfl) rfl (by decide) (by decide) (by decide) (by decide) (fun _ => (pm_a hA rfl))) (fun o_2 T_1 => ?_)
  have m_2 : Rg (0) (60) ((0 : Int32)) := (rg_m (rg_b rfl : Rg (0) (0) ((0 : Int32))) (by decide))
  exact zX11_forgetAll_10 hF (pmA_s hA rfl) F T_1 r_x0 (rg_m (rg_b rfl : Rg (0) (0) ((0 : Int32))) (by decide)) (by have := m_2.1; have := m_2.2; omega)
set_option maxRecDepth 20000 in
theorem zX11_settle {ρ : Nat → Nat} {c : Cm} {F : Nat} {w_x2 : Nat} (hF : 700000 ≤ F) (hA : pmA c [(58, 999)]) (hi_3200 : pmO c 3200 [(34, 999), (35, 999), (36, 999), (37, 999), (38, 999), (4, 5), (4, 6), (4, 8), (4, 9), (4, 10)]) {h : Hp} {x0 : Nat} {x1 : Int32} {x2 : Nat} (o_x2 : cw c x2 = w_x2) (T : TH ρ c h) (r_x0 : ρ x0 = 12) (i_x1 : Rg (0) (59) (x1)) (r_x2 : ρ x2 = 4) : Sat (sX11_settle F h x0 x1 x2) (ZV ρ c) := by
  unfold sX11_settle 
  obtain ⟨r_1, e_r_1, q_r_1⟩ := thR T r_x0 (k := 12) (i := 14) (k2 := 58) rfl (by decide)
  refine s_ref e_r_1 ?_
  refine s_gd (by rw [thN T q_r_1 (k := 58) (n := 60) rfl (by decide)]; exact rg_inB i_x1 (by decide)) ?_
  refine s_hq (th_wI T q_r_1 (k := 58) (lo := (0)) (hi := (1)) rfl ((rg_narz _ : Rg (0) (1) ((vp_nar .boolean (1 : Int32)))) : Rg (0) (1) ((vp_nar .boolean (1 : Int32)))) (by decide) (by decide) (pm_a hA rfl)) (fun h_3 T_1 w_2 => ?_)
  obtain ⟨r_4, e_r_4, q_r_4⟩ := thR T_1 r_x0 (k := 12) (i := 13) (k2 := 57) rfl (by decide)
  refine s_ref e_r_4 ?_
  refine s_gd (by rw [thN T_1 q_r_4 (k := 57) (n := 60) rfl (by decide)]; exact rg_inB i_x1 (by decide)) ?_
  obtain ⟨r_6, e_r_6, q_r_6⟩ := thE T_1 q_r_4 (k := 57) (n := 60) (k2 := 4) (b := 59) (i_x1 : Rg (0) (59) (x1)) (by decide) (by decide) (by decide)
  refine s_ref e_r_6 ?_
  refine s_cV (zX3_copyFrom hF (pmO_e (th_id T_1 q_r_4 (k := 57) (w := 3200) e_r_6 rfl (by decide)) hi_3200 rfl) T_1 q_r_6 r_x2) (fun o_7 T_3 => ?_)
  exact s_some (T_3)
set_option maxRecDepth 20000 in
theorem zX8_begins_2 {ρ : Nat → Nat} {c : Cm} {h0 : Hp} {F : Nat} (hF : 700000 ≤ F) : ∀ (f : Nat) {h : Hp} {x0 : Nat} {x1 : Nat} {x2 : Int32}, h = h0 → TH ρ c h → ρ x0 = 9 → ρ x1 = 10 → Rg (0) (1200) (x2) → (1200 - x2.toInt).toNat < f → Sat (sX8_begins_2 F f h x0 x1 x2) (ZI0 h0 (0) (1)) := by
  intro f
  induction f with
  | zero => intros; omega
  | succ f ih =>
    intro h x0 x1 x2 E T r_x0 r_x1 i_x2 hm
    rw [sX8_begins_2]
    obtain ⟨C_2, hC_2⟩ : ∃ C : Int, C = x2.toInt := ⟨_, rfl⟩
    have hk_2 : ∀ {h : Hp} {x0 : Nat} {x1 : Nat} {x2 : Int32}, h = h0 → TH ρ c h → ρ x0 = 9 → ρ x1 = 10 → Rg (0) (1200) (x2) → C_2 < x2.toInt → Sat (sX8_begins_2 F f h x0 x1 x2) (ZI0 h0 (0) (1)) := by
      intro h' x0' x1' x2' E' T' r_x0' r_x1' i_x2' hl
      exact ih E' T' r_x0' r_x1' i_x2' (by have := i_x2'.1; have := i_x2'.2; omega)
    have hc_2 : C_2 ≤ x2.toInt := by omega
    obtain ⟨r_1, e_r_1, q_r_1⟩ := thR T r_x0 (k := 9) (i := 3) (k2 := 10) rfl (by decide)
    refine s_ref e_r_1 ?_
    refine s_br (fun c_1 => ?_) (fun c_1 => ?_)
    · have _ := c_1
      exact s_some ⟨E, (rg_m (rg_b rfl : Rg (1) (1) ((1 : Int32))) (by decide))⟩
    · have _ := c_1
      have i_f_2 : Rg (0) (1199) (x2) := rg_lt1 (nle_lt c_1) i_x2 (thI T q_r_1 (k := 10) (i := 1) rfl : Rg (0) (1200) ((hI h r_1 1)))
      have i_f_3 : Rg (1) (1200) ((hI h r_1 1)) := rg_lt2 (nle_lt c_1) i_x2 (thI T q_r_1 (k := 10) (i := 1) rfl : Rg (0) (1200) ((hI h r_1 1)))
      refine s_ref e_r_1 ?_
      refine s_cP0 (zX9_byteAt hF T q_r_1 (rg_m i_f_2 (by decide))) (fun o_4 e_o_4 i_o_4 p_o_4 => ?_)
      have T_4 := th_eq e_o_4 T
      refine s_cP0 (zX9_byteAt hF T_4 r_x1 (rg_m i_f_2 (by decide))) (fun o_5 e_o_5 i_o_5 p_o_5 => ?_)
      have T_5 := th_eq e_o_5 T_4
      refine s_br (fun c_6 => ?_) (fun c_6 => ?_)
      · have _ := c_6
        refine s_q (fun v_7 e_7 => ?_)
        have i_v_7 : Rg (1) (1200) (v_7) := by rw [e_7]; exact (rg_add i_f_2 (rg_b rfl : Rg (1) (1) ((1 : Int32))) (by decide) : Rg (1) (1200) (x2 + (1 : Int32)))
        have m_8 : (v_7).toInt = x2.toInt + 1 := by rw [e_7]; exact rg_inc i_f_2 (by decide)
        exact hk_2 (e_o_5.trans (e_o_4.trans E)) T_5 r_x0 r_x1 (rg_m i_v_7 (by decide)) (by have := hc_2; omega)
      · have _ := c_6
        exact s_some ⟨(e_o_5.trans (e_o_4.trans E)), (rg_m (rg_b rfl : Rg (0) (0) ((0 : Int32))) (by decide))⟩
set_option maxRecDepth 20000 in
theorem zX8_begins {ρ : Nat → Nat} {c : Cm} {F : Nat} (hF : 700000 ≤ F) {h : Hp} {x0 : Nat} {x1 : Nat} (T : TH ρ c h) (r_x0 : ρ x0 = 9) (r_x1 : ρ x1 = 10) : Sat (sX8_begins F h x0 x1) (ZI0 h (0) (1)) := by
  unfold sX8_begins 
  have m_1 : Rg (0) (1200) ((0 : Int32)) := (rg_m (rg_b rfl : Rg (0) (0) ((0 : Int32))) (by decide))
  exact zX8_begins_2 hF F rfl T r_x0 r_x1 (rg_m (rg_b rfl : Rg (0) (0) ((0 : Int32))) (by decide)) (by have := m_1.1; have := m_1.2; omega)
set_option maxRecDepth 20000 in
theorem zX7_writeSquare {ρ : Nat → Nat} {c : Cm} {F : Nat} {w_x0 w_x2 : Nat} (hF : 700000 ≤ F) (hO_x2 : pmO c w_x2 [(49, 999), (10, 1)]) {h : Hp} {x0 : Nat} {x1 : Int32} {x2 : Nat} (o_x0 : cw c x0 = w_x0) (o_x2 : cw c x2 = w_x2) (T : TH ρ c h) (r_x0 : ρ x0 = 2) (i_x1 : Rg (0) (63) (x1)) (r_x2 : ρ x2 = 10) : Sat (sX7_writeSquare h x0 x1 x2) (ZV ρ c) := by
  unfold sX7_writeSquare 
  obtain ⟨r_1, e_r_1, q_r_1⟩ := thR T r_x0 (k := 2) (i := 19) (k2 := 32) rfl (by decide)
  refine s_ref e_r_1 ?_
  refine s_gd (by rw [thN T q_r_1 (k := 32) (n := 64) rfl (by decide)]; exact rg_inB i_x1 (by decide)) ?_
  refine s_cV (zX9_append hF (pmO_e o_x2 hO_x2 rfl) T r_x2 (rg_m (rg_add (rg_b rfl : Rg (97) (97) ((97 : Int32))) (thI T q_r_1 (k := 32) rfl : Rg (0) (7) ((hI h r_1 x1.toNatClampNeg))) (by decide) : Rg (97) (104) (((97 : Int32) + (hI h r_1 x1.toNatClampNeg)))) (by decide))) (fun o_3 T_1 => ?_)
  obtain ⟨r_4, e_r_4, q_r_4⟩ := thR T_1 r_x0 (k := 2) (i := 20) (k2 := 33) rfl (by decide)
  refine s_ref e_r_4 ?_
  refine s_gd (by rw [thN T_1 q_r_4 (k := 33) (n := 64) rfl (by decide)]; exact rg_inB i_x1 (by decide)) ?_
  refine s_cV (zX9_append hF (pmO_e o_x2 hO_x2 rfl) T_1 r_x2 (rg_m (rg_add (rg_b rfl : Rg (49) (49) ((49 : Int32))) (thI T_1 q_r_4 (k := 33) rfl : Rg (0) (7) ((hI o_3 r_4 x1.toNatClampNeg))) (by decide) : Rg (49) (56) (((49 : Int32) + (hI o_3 r_4 x1.toNatClampNeg)))) (by decide))) (fun o_6 T_2 => ?_)
  exact s_some (T_2)
set_option maxRecDepth 20000 in
theorem zX8_isRival {ρ : Nat → Nat} {c : Cm} {F : Nat} (hF : 700000 ≤ F) {h : Hp} {x0 : Int32} {x1 : Int32} (T : TH ρ c h) (i_x0 : Rg (-2147483648) (2147483647) (x0)) (i_x1 : Rg (-2147483648) (2147483647) (x1)) : Sat (sX8_isRival h x0 x1) (ZI0 h (0) (1)) := by
  unfold sX8_isRival sX5_manOf sX5_comeTo sX5_kindOf sX8_isRival_34 sX8_isRival_35
  refine s_pu (fun o_1z e_1 => ?_)
  try dsimp only
  have i_o_1z : Rg (0) (15) (o_1z) := by rw [e_1]; exact (rg_and (rg_b rfl : Rg (15) (15) ((15 : Int32))) (by decide) : Rg (0) (15) ((x0 >>> ((12 : Int32) &&& 31)) &&& (15 : Int32)))
  refine s_pu (fun o_2z e_2 => ?_)
  try dsimp only
  have i_o_2z : Rg (0) (15) (o_2z) := by rw [e_2]; exact (rg_and (rg_b rfl : Rg (15) (15) ((15 : Int32))) (by decide) : Rg (0) (15) ((x1 >>> ((12 : Int32) &&& 31)) &&& (15 : Int32)))
  refine s_br (fun c_3 => ?_) (fun c_3 => ?_)
  · have _ := c_3
    refine s_pu (fun o_4z e_4 => ?_)
    try dsimp only
    have i_o_4z : Rg (0) (63) (o_4z) := by rw [e_4]; exact (rg_and (rg_b rfl : Rg (63) (63) ((63 : Int32))) (by decide) : Rg (0) (63) (x0 &&& (63 : Int32)))
    refine s_pu (fun o_5z e_5 => ?_)
    try dsimp only
    have i_o_5z : Rg (0) (63) (o_5z) := by rw [e_5]; exact (rg_and (rg_b rfl : Rg (63) (63) ((63 : Int32))) (by decide) : Rg (0) (63) (x1 &&& (63 : Int32)))
    refine s_br (fun c_6 => ?_) (fun c_6 => ?_)
    · have _ := c_6
      refine s_pu (fun o_7z e_7 => ?_)
      try dsimp only
      have i_o_7z : Rg (0) (3) (o_7z) := by rw [e_7]; exact (rg_and (rg_b rfl : Rg (3) (3) ((3 : Int32))) (by decide) : Rg (0) (3) ((x0 >>> ((24 : Int32) &&& 31)) &&& (3 : Int32)))
      refine s_br (fun c_8 => ?_) (fun c_8 => ?_)
      · have _ := c_8
        have i_f_9 : Rg (2) (3) (o_7z) := rg_lt2 c_8 (rg_b rfl : Rg (1) (1) ((1 : Int32))) i_o_7z
        refine s_gd (rg_bool (rg_m (rg_b rfl : Rg (0) (0) ((0 : Int32))) (by decide))) ?_
        exact s_some ⟨rfl, (rg_m (rg_b rfl : Rg (0) (0) ((0 : Int32))) (by decide))⟩
      · have _ := c_8
        have i_f_10 : Rg (0) (1) (o_7z) := rg_le1 (nlt_le c_8) i_o_7z (rg_b rfl : Rg (1) (1) ((1 : Int32)))
        refine s_gd (rg_bool (rg_m (rg_b rfl : Rg (1) (1) ((1 : Int32))) (by decide))) ?_
        exact s_some ⟨rfl, (rg_m (rg_b rfl : Rg (1) (1) ((1 : Int32))) (by decide))⟩
    · have _ := c_6
      refine s_gd (rg_bool (rg_m (rg_b rfl : Rg (0) (0) ((0 : Int32))) (by decide))) ?_
      exact s_some ⟨rfl, (rg_m (rg_b rfl : Rg (0) (0) ((0 : Int32))) (by decide))⟩
  · have _ := c_3
    refine s_gd (rg_bool (rg_m (rg_b rfl : Rg (0) (0) ((0 : Int32))) (by decide))) ?_
    exact s_some ⟨rfl, (rg_m (rg_b rfl : Rg (0) (0) ((0 : Int32))) (by decide))⟩
set_option maxRecDepth 20000 in
theorem zX8_writeLeft_231 {ρ : Nat → Nat} {c : Cm} {F : Nat} {w_x4 : Nat} (hF : 700000 ≤ F) (hO_x4 : pmO c w_x4 [(49, 999), (10, 1)]) {h : Hp} {x0 : Nat} {x4 : Nat} {x5 : Int32} {x11 : Int32} (o_x4 : cw c x4 = w_x4) (T : TH ρ c h) (r_x0 : ρ x0 = 9) (r_x4 : ρ x4 = 10) (i_x5 : Rg (0) (63) (x5)) (i_x11 : Rg (0) (1) (x11)) : Sat (sX8_writeLeft_231 F h x0 x4 x5 x11) (ZV ρ c) := by
  unfold sX8_writeLeft_231 sX8_writeLeft_254
  refine s_br (fun c_1 => ?_) (fun c_1 => ?_)
  · have _ := c_1
    have i_f_2 : Rg (0) (0) (x11) := rg_eq c_1 (rg_b rfl : Rg (0) (0) (0 : Int32))
    exact s_some (T)
  · have _ := c_1
    have i_f_3 : Rg (1) (1) (x11) := rg_nlo c_1 i_x11 (rg_b rfl : Rg (0) (0) (0 : Int32))
    obtain ⟨r_2, e_r_2, q_r_2⟩ := thR T r_x0 (k := 9) (i := 0) (k2 := 2) rfl (by decide)
    refine s_ref e_r_2 ?_
    obtain ⟨r_3, e_r_3, q_r_3⟩ := thR T q_r_2 (k := 2) (i := 20) (k2 := 33) rfl (by decide)
    refine s_ref e_r_3 ?_
    refine s_gd (by rw [thN T q_r_3 (k := 33) (n := 64) rfl (by decide)]; exact rg_inB i_x5 (by decide)) ?_
    refine s_cV (zX9_append hF (pmO_e o_x4 hO_x4 rfl) T r_x4 (rg_m (rg_add (rg_b rfl : Rg (49) (49) ((49 : Int32))) (thI T q_r_3 (k := 33) rfl : Rg (0) (7) ((hI h r_3 x5.toNatClampNeg))) (by decide) : Rg (49) (56) (((49 : Int32) + (hI h r_3 x5.toNatClampNeg)))) (by decide))) (fun o_5 T_4 => ?_)
    exact s_some (T_4)
set_option maxRecDepth 20000 in
theorem zX8_writeLeft_87 {ρ : Nat → Nat} {c : Cm} {F : Nat} {w_x1 w_x4 : Nat} (hF : 700000 ≤ F) {k_18 : Hp → Nat → Nat → Int32 → Int32 → Nat → Int32 → Int32 → Int32 → Int32 → Int32 → Option (Hp)} {C_18 : Int} (hk_18 : ∀ {h : Hp} {x0 : Nat} {x1 : Nat} {x2 : Int32} {x3 : Int32} {x4 : Nat} {x5 : Int32} {x6 : Int32} {x7 : Int32} {x8 : Int32} {x9 : Int32}, cw c x1 = w_x1 → cw c x4 = w_x4 → TH ρ c h → ρ x0 = 9 → ρ x1 = 47 → Rg (1) (4096) (x2) → Rg (-2147483648) (2147483647) (x3) → ρ x4 = 10 → Rg (0) (63) (x5) → Rg (0) (1) (x6) → Rg (0) (1) (x7) → Rg (0) (1) (x8) → Rg (0) (4096) (x9) → C_18 < x9.toInt → Sat (k_18 h x0 x1 x2 x3 x4 x5 x6 x7 x8 x9) (ZV ρ c)) {h : Hp} {x0 : Nat} {x1 : Nat} {x2 : Int32} {x3 : Int32} {x4 : Nat} {x5 : Int32} {x6 : Int32} {x8 : Int32} {x9 : Int32} {x10 : Int32} {t0 : Int32} (o_x1 : cw c x1 = w_x1) (o_x4 : cw c x4 = w_x4) (T : TH ρ c h) (r_x0 : ρ x0 = 9) (r_x1 : ρ x1 = 47) (i_x2 : Rg (1) (4096) (x2)) (i_x3 : Rg (-2147483648) (2147483647) (x3)) (r_x4 : ρ x4 = 10) (i_x5 : Rg (0) (63) (x5)) (i_x6 : Rg (1) (1) (x6)) (i_x8 : Rg (0) (1) (x8)) (i_x9 : Rg (0) (4095) (x9)) (i_x10 : Rg (0) (63) (x10)) (i_t0 : Rg (0) (1) (t0)) (hc_18 : C_18 ≤ x9.toInt) : Sat (sX8_writeLeft_87 F k_18 h x0 x1 x2 x3 x4 x5 x6 x8 x9 x10 t0) (ZV ρ c) := by
  unfold sX8_writeLeft_87 sX8_writeLeft_117 sX8_writeLeft_122 sX8_writeLeft_124
  refine s_br (fun c_1 => ?_) (fun c_1 => ?_)
  · have _ := c_1
    have i_f_2 : Rg (0) (0) (x8) := rg_eq c_1 (rg_b rfl : Rg (0) (0) (0 : Int32))
    obtain ⟨r_2, e_r_2, q_r_2⟩ := thR T r_x0 (k := 9) (i := 0) (k2 := 2) rfl (by decide)
    refine s_ref e_r_2 ?_
    obtain ⟨r_3, e_r_3, q_r_3⟩ := thR T q_r_2 (k := 2) (i := 20) (k2 := 33) rfl (by decide)
    refine s_ref e_r_3 ?_
    refine s_gd (by rw [thN T q_r_3 (k := 33) (n := 64) rfl (by decide)]; exact rg_inB i_x10 (by decide)) ?_
    refine s_ref e_r_2 ?_
    refine s_ref e_r_3 ?_
    refine s_gd (by rw [thN T q_r_3 (k := 33) (n := 64) rfl (by decide)]; exact rg_inB i_x5 (by decide)) ?_
    refine s_br (fun c_3 => ?_) (fun c_3 => ?_)
    · have _ := c_3
      refine s_q (fun v_1q3 e_4 => ?_)
      have i_v_1q3 : Rg (1) (4096) (v_1q3) := by rw [e_4]; exact (rg_add i_x9 (rg_b rfl : Rg (1) (1) ((1 : Int32))) (by decide) : Rg (1) (4096) (x9 + (1 : Int32)))
      have m_5 : (v_1q3).toInt = x9.toInt + 1 := by rw [e_4]; exact rg_inc i_x9 (by decide)
      exact hk_18 o_x1 o_x4 T r_x0 r_x1 i_x2 i_x3 r_x4 i_x5 (rg_m i_x6 (by decide)) i_t0 (rg_m (rg_b rfl : Rg (1) (1) ((1 : Int32))) (by decide)) (rg_m i_v_1q3 (by decide)) (by have := hc_18; omega)
    · have _ := c_3
      refine s_q (fun v_1q5 e_6 => ?_)
      have i_v_1q5 : Rg (1) (4096) (v_1q5) := by rw [e_6]; exact (rg_add i_x9 (rg_b rfl : Rg (1) (1) ((1 : Int32))) (by decide) : Rg (1) (4096) (x9 + (1 : Int32)))
      have m_7 : (v_1q5).toInt = x9.toInt + 1 := by rw [e_6]; exact rg_inc i_x9 (by decide)
      exact hk_18 o_x1 o_x4 T r_x0 r_x1 i_x2 i_x3 r_x4 i_x5 (rg_m i_x6 (by decide)) i_t0 (rg_m (rg_b rfl : Rg (0) (0) ((0 : Int32))) (by decide)) (rg_m i_v_1q5 (by decide)) (by have := hc_18; omega)
  · have _ := c_1
    have i_f_8 : Rg (1) (1) (x8) := rg_nlo c_1 i_x8 (rg_b rfl : Rg (0) (0) (0 : Int32))
    refine s_q (fun v_1q8 e_9 => ?_)
    have i_v_1q8 : Rg (1) (4096) (v_1q8) := by rw [e_9]; exact (rg_add i_x9 (rg_b rfl : Rg (1) (1) ((1 : Int32))) (by decide) : Rg (1) (4096) (x9 + (1 : Int32)))
    have m_10 : (v_1q8).toInt = x9.toInt + 1 := by rw [e_9]; exact rg_inc i_x9 (by decide)
    exact hk_18 o_x1 o_x4 T r_x0 r_x1 i_x2 i_x3 r_x4 i_x5 (rg_m i_x6 (by decide)) i_t0 (rg_m (rg_b rfl : Rg (1) (1) ((1 : Int32))) (by decide)) (rg_m i_v_1q8 (by decide)) (by have := hc_18; omega)
set_option maxRecDepth 20000 in
theorem zX8_writeLeft_206 {ρ : Nat → Nat} {c : Cm} {F : Nat} {w_x4 : Nat} (hF : 700000 ≤ F) (hO_x4 : pmO c w_x4 [(49, 999), (10, 1)]) {h : Hp} {x0 : Nat} {x4 : Nat} {x5 : Int32} {x10 : Int32} {t0 : Int32} (o_x4 : cw c x4 = w_x4) (T : TH ρ c h) (r_x0 : ρ x0 = 9) (r_x4 : ρ x4 = 10) (i_x5 : Rg (0) (63) (x5)) (i_x10 : Rg (0) (1) (x10)) (i_t0 : Rg (0) (1) (t0)) : Sat (sX8_writeLeft_206 F h x0 x4 x5 x10 t0) (ZV ρ c) := by
  unfold sX8_writeLeft_206 
  refine s_br (fun c_1 => ?_) (fun c_1 => ?_)
  · have _ := c_1
    have i_f_2 : Rg (0) (0) (x10) := rg_eq c_1 (rg_b rfl : Rg (0) (0) (0 : Int32))
    exact zX8_writeLeft_231 hF (pmO_s hO_x4 rfl) o_x4 T r_x0 r_x4 i_x5 i_t0
  · have _ := c_1
    have i_f_3 : Rg (1) (1) (x10) := rg_nlo c_1 i_x10 (rg_b rfl : Rg (0) (0) (0 : Int32))
    obtain ⟨r_2, e_r_2, q_r_2⟩ := thR T r_x0 (k := 9) (i := 0) (k2 := 2) rfl (by decide)
    refine s_ref e_r_2 ?_
    obtain ⟨r_3, e_r_3, q_r_3⟩ := thR T q_r_2 (k := 2) (i := 19) (k2 := 32) rfl (by decide)
    refine s_ref e_r_3 ?_
    refine s_gd (by rw [thN T q_r_3 (k := 32) (n := 64) rfl (by decide)]; exact rg_inB i_x5 (by decide)) ?_
    refine s_cV (zX9_append hF (pmO_e o_x4 hO_x4 rfl) T r_x4 (rg_m (rg_add (rg_b rfl : Rg (97) (97) ((97 : Int32))) (thI T q_r_3 (k := 32) rfl : Rg (0) (7) ((hI h r_3 x5.toNatClampNeg))) (by decide) : Rg (97) (104) (((97 : Int32) + (hI h r_3 x5.toNatClampNeg)))) (by decide))) (fun o_5 T_4 => ?_)
    exact zX8_writeLeft_231 hF (pmO_s hO_x4 rfl) o_x4 T_4 r_x0 r_x4 i_x5 i_t0
set_option maxRecDepth 20000 in
theorem zX8_writeLeft_184 {ρ : Nat → Nat} {c : Cm} {F : Nat} {w_x4 : Nat} (hF : 700000 ≤ F) (hO_x4 : pmO c w_x4 [(49, 999), (10, 1)]) {h : Hp} {x0 : Nat} {x4 : Nat} {x5 : Int32} {x6 : Int32} {x7 : Int32} {x9 : Int32} {t0 : Int32} (o_x4 : cw c x4 = w_x4) (T : TH ρ c h) (r_x0 : ρ x0 = 9) (r_x4 : ρ x4 = 10) (i_x5 : Rg (0) (63) (x5)) (i_x6 : Rg (0) (1) (x6)) (i_x7 : Rg (0) (1) (x7)) (i_x9 : Rg (0) (1) (x9)) (i_t0 : Rg (0) (1) (t0)) : Sat (sX8_writeLeft_184 F h x0 x4 x5 x6 x7 x9 t0) (ZV ρ c) := by
  unfold sX8_writeLeft_184 sX8_writeLeft_205 sX8_writeLeft_201
  refine s_br (fun c_1 => ?_) (fun c_1 => ?_)
  · have _ := c_1
    have i_f_2 : Rg (0) (0) (x7) := rg_eq c_1 (rg_b rfl : Rg (0) (0) (0 : Int32))
    exact zX8_writeLeft_206 hF (pmO_s hO_x4 rfl) o_x4 T r_x0 r_x4 i_x5 i_t0 (rg_m (rg_b rfl : Rg (0) (0) ((0 : Int32))) (by decide))
  · have _ := c_1
    have i_f_3 : Rg (1) (1) (x7) := rg_nlo c_1 i_x7 (rg_b rfl : Rg (0) (0) (0 : Int32))
    refine s_br (fun c_4 => ?_) (fun c_4 => ?_)
    · have _ := c_4
      have i_f_5 : Rg (0) (0) (x9) := rg_eq c_4 (rg_b rfl : Rg (0) (0) (0 : Int32))
      refine s_br (fun c_6 => ?_) (fun c_6 => ?_)
      · have _ := c_6
        have i_f_7 : Rg (0) (0) (x6) := rg_eq c_6 (rg_b rfl : Rg (0) (0) (0 : Int32))
        exact zX8_writeLeft_206 hF (pmO_s hO_x4 rfl) o_x4 T r_x0 r_x4 i_x5 i_t0 (rg_m (rg_b rfl : Rg (0) (0) ((0 : Int32))) (by decide))
      · have _ := c_6
        have i_f_8 : Rg (1) (1) (x6) := rg_nlo c_6 i_x6 (rg_b rfl : Rg (0) (0) (0 : Int32))
        exact zX8_writeLeft_206 hF (pmO_s hO_x4 rfl) o_x4 T r_x0 r_x4 i_x5 i_t0 (rg_m (rg_b rfl : Rg (1) (1) ((1 : Int32))) (by decide))
    · have _ := c_4
      have i_f_9 : Rg (1) (1) (x9) := rg_nlo c_4 i_x9 (rg_b rfl : Rg (0) (0) (0 : Int32))
      exact zX8_writeLeft_206 hF (pmO_s hO_x4 rfl) o_x4 T r_x0 r_x4 i_x5 i_t0 (rg_m (rg_b rfl : Rg (1) (1) ((1 : Int32))) (by decide))
set_option maxRecDepth 20000 in
theorem zX8_writeLeft_157 {ρ : Nat → Nat} {c : Cm} {F : Nat} {w_x4 : Nat} (hF : 700000 ≤ F) (hO_x4 : pmO c w_x4 [(49, 999), (10, 1)]) {h : Hp} {x0 : Nat} {x4 : Nat} {x5 : Int32} {x6 : Int32} {x7 : Int32} {x8 : Int32} {t0 : Int32} (o_x4 : cw c x4 = w_x4) (T : TH ρ c h) (r_x0 : ρ x0 = 9) (r_x4 : ρ x4 = 10) (i_x5 : Rg (0) (63) (x5)) (i_x6 : Rg (0) (1) (x6)) (i_x7 : Rg (0) (1) (x7)) (i_x8 : Rg (0) (1) (x8)) (i_t0 : Rg (0) (1) (t0)) : Sat (sX8_writeLeft_157 F h x0 x4 x5 x6 x7 x8 t0) (ZV ρ c) := by
  unfold sX8_writeLeft_157 sX8_writeLeft_183 sX8_writeLeft_179
  refine s_br (fun c_1 => ?_) (fun c_1 => ?_)
  · have _ := c_1
    have i_f_2 : Rg (0) (0) (t0) := rg_eq c_1 (rg_b rfl : Rg (0) (0) (0 : Int32))
    refine s_br (fun c_3 => ?_) (fun c_3 => ?_)
    · have _ := c_3
      have i_f_4 : Rg (0) (0) (x6) := rg_eq c_3 (rg_b rfl : Rg (0) (0) (0 : Int32))
      exact zX8_writeLeft_184 hF (pmO_s hO_x4 rfl) o_x4 T r_x0 r_x4 i_x5 (rg_m i_f_4 (by decide)) i_x7 (rg_m i_f_2 (by decide)) (rg_m (rg_b rfl : Rg (0) (0) ((0 : Int32))) (by decide))
    · have _ := c_3
      have i_f_5 : Rg (1) (1) (x6) := rg_nlo c_3 i_x6 (rg_b rfl : Rg (0) (0) (0 : Int32))
      refine s_br (fun c_6 => ?_) (fun c_6 => ?_)
      · have _ := c_6
        have i_f_7 : Rg (0) (0) (x7) := rg_eq c_6 (rg_b rfl : Rg (0) (0) (0 : Int32))
        exact zX8_writeLeft_184 hF (pmO_s hO_x4 rfl) o_x4 T r_x0 r_x4 i_x5 (rg_m i_f_5 (by decide)) (rg_m i_f_7 (by decide)) (rg_m i_f_2 (by decide)) (rg_m (rg_b rfl : Rg (1) (1) ((1 : Int32))) (by decide))
      · have _ := c_6
        have i_f_8 : Rg (1) (1) (x7) := rg_nlo c_6 i_x7 (rg_b rfl : Rg (0) (0) (0 : Int32))
        refine s_br (fun c_9 => ?_) (fun c_9 => ?_)
        · have _ := c_9
          have i_f_10 : Rg (0) (0) (x8) := rg_eq c_9 (rg_b rfl : Rg (0) (0) (0 : Int32))
          exact zX8_writeLeft_184 hF (pmO_s hO_x4 rfl) o_x4 T r_x0 r_x4 i_x5 (rg_m i_f_5 (by decide)) (rg_m i_f_8 (by decide)) (rg_m i_f_2 (by decide)) (rg_m (rg_b rfl : Rg (0) (0) ((0 : Int32))) (by decide))
        · have _ := c_9
          have i_f_11 : Rg (1) (1) (x8) := rg_nlo c_9 i_x8 (rg_b rfl : Rg (0) (0) (0 : Int32))
          exact zX8_writeLeft_184 hF (pmO_s hO_x4 rfl) o_x4 T r_x0 r_x4 i_x5 (rg_m i_f_5 (by decide)) (rg_m i_f_8 (by decide)) (rg_m i_f_2 (by decide)) (rg_m (rg_b rfl : Rg (1) (1) ((1 : Int32))) (by decide))
  · have _ := c_1
    have i_f_12 : Rg (1) (1) (t0) := rg_nlo c_1 i_t0 (rg_b rfl : Rg (0) (0) (0 : Int32))
    exact zX8_writeLeft_184 hF (pmO_s hO_x4 rfl) o_x4 T r_x0 r_x4 i_x5 i_x6 i_x7 (rg_m i_f_12 (by decide)) (rg_m (rg_b rfl : Rg (1) (1) ((1 : Int32))) (by decide))
set_option maxRecDepth 20000 in
theorem zX8_writeLeft_18 {ρ : Nat → Nat} {c : Cm} {F : Nat} {w_x1 w_x4 : Nat} (hF : 700000 ≤ F) (hO_x4 : pmO c w_x4 [(49, 999), (10, 1)]) : ∀ (f : Nat) {h : Hp} {x0 : Nat} {x1 : Nat} {x2 : Int32} {x3 : Int32} {x4 : Nat} {x5 : Int32} {x6 : Int32} {x7 : Int32} {x8 : Int32} {x9 : Int32}, cw c x1 = w_x1 → cw c x4 = w_x4 → TH ρ c h → ρ x0 = 9 → ρ x1 = 47 → Rg (1) (4096) (x2) → Rg (-2147483648) (2147483647) (x3) → ρ x4 = 10 → Rg (0) (63) (x5) → Rg (0) (1) (x6) → Rg (0) (1) (x7) → Rg (0) (1) (x8) → Rg (0) (4096) (x9) → (4096 - x9.toInt).toNat < f → Sat (sX8_writeLeft_18 F f h x0 x1 x2 x3 x4 x5 x6 x7 x8 x9) (ZV ρ c) := by
  intro f
  induction f with
  | zero => intros; omega
  | succ f ih =>
    intro h x0 x1 x2 x3 x4 x5 x6 x7 x8 x9 o_x1 o_x4 T r_x0 r_x1 i_x2 i_x3 r_x4 i_x5 i_x6 i_x7 i_x8 i_x9 hm
    rw [sX8_writeLeft_18]
    unfold sX5_manOf sX8_writeLeft_156 sX5_leftBy sX8_writeLeft_124 sX8_writeLeft_82
    obtain ⟨C_18, hC_18⟩ : ∃ C : Int, C = x9.toInt := ⟨_, rfl⟩
    have hk_18 : ∀ {h : Hp} {x0 : Nat} {x1 : Nat} {x2 : Int32} {x3 : Int32} {x4 : Nat} {x5 : Int32} {x6 : Int32} {x7 : Int32} {x8 : Int32} {x9 : Int32}, cw c x1 = w_x1 → cw c x4 = w_x4 → TH ρ c h → ρ x0 = 9 → ρ x1 = 47 → Rg (1) (4096) (x2) → Rg (-2147483648) (2147483647) (x3) → ρ x4 = 10 → Rg (0) (63) (x5) → Rg (0) (1) (x6) → Rg (0) (1) (x7) → Rg (0) (1) (x8) → Rg (0) (4096) (x9) → C_18 < x9.toInt → Sat (sX8_writeLeft_18 F f h x0 x1 x2 x3 x4 x5 x6 x7 x8 x9) (ZV ρ c) := by
      intro h' x0' x1' x2' x3' x4' x5' x6' x7' x8' x9' o_x1' o_x4' T' r_x0' r_x1' i_x2' i_x3' r_x4' i_x5' i_x6' i_x7' i_x8' i_x9' hl
      exact ih o_x1' o_x4' T' r_x0' r_x1' i_x2' i_x3' r_x4' i_x5' i_x6' i_x7' i_x8' i_x9' (by have := i_x9'.1; have := i_x9'.2; omega)
    have hc_18 : C_18 ≤ x9.toInt := by omega
    refine s_br (fun c_1 => ?_) (fun c_1 => ?_)
    · have _ := c_1
      have i_f_2 : Rg (1) (4096) (x9) := rg_le2 c_1 i_x2 i_x9
      refine s_pu (fun o_2z e_3 => ?_)
      try dsimp only
      have i_o_2z : Rg (0) (15) (o_2z) := by rw [e_3]; exact (rg_and (rg_b rfl : Rg (15) (15) ((15 : Int32))) (by decide) : Rg (0) (15) ((x3 >>> ((12 : Int32) &&& 31)) &&& (15 : Int32)))
      obtain ⟨r_3, e_r_3, q_r_3⟩ := thR T r_x0 (k := 9) (i := 0) (k2 := 2) rfl (by decide)
      refine s_ref e_r_3 ?_
      refine s_br (fun c_4 => ?_) (fun c_4 => ?_)
      · have _ := c_4
        refine s_cI0 (zX5_takenBy hF T i_x3) (fun o_5 e_o_5 i_o_5 => ?_)
        have T_5 := th_eq e_o_5 T
        refine s_br (fun c_6 => ?_) (fun c_6 => ?_)
        · have _ := c_6
          have i_f_7 : Rg (-1) (-1) (o_5.1) := rg_eq c_6 (rg_b rfl : Rg (-1) (-1) ((- 1 : Int32)))
          exact zX8_writeLeft_157 hF (pmO_s hO_x4 rfl) o_x4 T_5 r_x0 r_x4 i_x5 i_x6 i_x7 i_x8 (rg_m (rg_b rfl : Rg (0) (0) ((0 : Int32))) (by decide))
        · have _ := c_6
          have i_f_8 : Rg (0) (14) (o_5.1) := rg_nlo c_6 i_o_5 (rg_b rfl : Rg (-1) (-1) ((- 1 : Int32)))
          exact zX8_writeLeft_157 hF (pmO_s hO_x4 rfl) o_x4 T_5 r_x0 r_x4 i_x5 i_x6 i_x7 i_x8 (rg_m (rg_b rfl : Rg (1) (1) ((1 : Int32))) (by decide))
      · have _ := c_4
        exact zX8_writeLeft_157 hF (pmO_s hO_x4 rfl) o_x4 T r_x0 r_x4 i_x5 i_x6 i_x7 i_x8 (rg_m (rg_b rfl : Rg (0) (0) ((0 : Int32))) (by decide))
    · have _ := c_1
      have i_f_9 : Rg (0) (4095) (x9) := rg_lt1 (nle_lt c_1) i_x9 i_x2
      refine s_gd (by rw [thN T r_x1 (k := 47) (n := 4096) rfl (by decide)]; exact rg_inB i_f_9 (by decide)) ?_
      refine s_pu (fun o_8z e_10 => ?_)
      try dsimp only
      have i_o_8z : Rg (0) (63) (o_8z) := by rw [e_10]; exact (rg_and (rg_b rfl : Rg (63) (63) ((63 : Int32))) (by decide) : Rg (0) (63) (((hI h x1 x9.toNatClampNeg) >>> ((6 : Int32) &&& 31)) &&& (63 : Int32)))
      refine s_br (fun c_11 => ?_) (fun c_11 => ?_)
      · have _ := c_11
        refine s_q (fun v_1q3 e_12 => ?_)
        have i_v_1q3 : Rg (1) (4096) (v_1q3) := by rw [e_12]; exact (rg_add i_f_9 (rg_b rfl : Rg (1) (1) ((1 : Int32))) (by decide) : Rg (1) (4096) (x9 + (1 : Int32)))
        have m_13 : (v_1q3).toInt = x9.toInt + 1 := by rw [e_12]; exact rg_inc i_f_9 (by decide)
        exact hk_18 o_x1 o_x4 T r_x0 r_x1 i_x2 i_x3 r_x4 i_x5 i_x6 i_x7 i_x8 (rg_m i_v_1q3 (by decide)) (by have := hc_18; omega)
      · have _ := c_11
        refine s_gd (by rw [thN T r_x1 (k := 47) (n := 4096) rfl (by decide)]; exact rg_inB i_f_9 (by decide)) ?_
        refine s_cI0 (zX8_isRival hF T (thI T r_x1 (k := 47) rfl : Rg (-2147483648) (2147483647) ((hI h x1 x9.toNatClampNeg))) i_x3) (fun o_11 e_o_11 i_o_11 => ?_)
        have T_14 := th_eq e_o_11 T
        refine s_br (fun c_15 => ?_) (fun c_15 => ?_)
        · have _ := c_15
          have i_f_16 : Rg (0) (0) (o_11.1) := rg_eq c_15 (rg_b rfl : Rg (0) (0) (0 : Int32))
          refine s_q (fun v_1q4 e_17 => ?_)
          have i_v_1q4 : Rg (1) (4096) (v_1q4) := by rw [e_17]; exact (rg_add i_f_9 (rg_b rfl : Rg (1) (1) ((1 : Int32))) (by decide) : Rg (1) (4096) (x9 + (1 : Int32)))
          have m_18 : (v_1q4).toInt = x9.toInt + 1 := by rw [e_17]; exact rg_inc i_f_9 (by decide)
          exact hk_18 o_x1 o_x4 T_14 r_x0 r_x1 i_x2 i_x3 r_x4 i_x5 i_x6 i_x7 i_x8 (rg_m i_v_1q4 (by decide)) (by have := hc_18; omega)
        · have _ := c_15
          have i_f_19 : Rg (1) (1) (o_11.1) := rg_nlo c_15 i_o_11 (rg_b rfl : Rg (0) (0) (0 : Int32))
          refine s_br (fun c_20 => ?_) (fun c_20 => ?_)
          · have _ := c_20
            have i_f_21 : Rg (0) (0) (x7) := rg_eq c_20 (rg_b rfl : Rg (0) (0) (0 : Int32))
            obtain ⟨r_14, e_r_14, q_r_14⟩ := thR T_14 r_x0 (k := 9) (i := 0) (k2 := 2) rfl (by decide)
            refine s_ref e_r_14 ?_
            obtain ⟨r_15, e_r_15, q_r_15⟩ := thR T_14 q_r_14 (k := 2) (i := 19) (k2 := 32) rfl (by decide)
            refine s_ref e_r_15 ?_
            refine s_gd (by rw [thN T_14 q_r_15 (k := 32) (n := 64) rfl (by decide)]; exact rg_inB i_o_8z (by decide)) ?_
            refine s_ref e_r_14 ?_
            refine s_ref e_r_15 ?_
            refine s_gd (by rw [thN T_14 q_r_15 (k := 32) (n := 64) rfl (by decide)]; exact rg_inB i_x5 (by decide)) ?_
            refine s_br (fun c_22 => ?_) (fun c_22 => ?_)
            · have _ := c_22
              exact zX8_writeLeft_87 hF @hk_18 o_x1 o_x4 T_14 r_x0 r_x1 i_x2 i_x3 r_x4 i_x5 (rg_b rfl : Rg (1) (1) ((1 : Int32))) i_x8 i_f_9 i_o_8z (rg_m (rg_b rfl : Rg (1) (1) ((1 : Int32))) (by decide)) hc_18
            · have _ := c_22
              exact zX8_writeLeft_87 hF @hk_18 o_x1 o_x4 T_14 r_x0 r_x1 i_x2 i_x3 r_x4 i_x5 (rg_b rfl : Rg (1) (1) ((1 : Int32))) i_x8 i_f_9 i_o_8z (rg_m (rg_b rfl : Rg (0) (0) ((0 : Int32))) (by decide)) hc_18
          · have _ := c_20
            have i_f_23 : Rg (1) (1) (x7) := rg_nlo c_20 i_x7 (rg_b rfl : Rg (0) (0) (0 : Int32))
            exact zX8_writeLeft_87 hF @hk_18 o_x1 o_x4 T_14 r_x0 r_x1 i_x2 i_x3 r_x4 i_x5 (rg_b rfl : Rg (1) (1) ((1 : Int32))) i_x8 i_f_9 i_o_8z (rg_m (rg_b rfl : Rg (1) (1) ((1 : Int32))) (by decide)) hc_18
set_option maxRecDepth 20000 in
theorem zX8_writeLeft {ρ : Nat → Nat} {c : Cm} {F : Nat} {w_x1 w_x4 : Nat} (hF : 700000 ≤ F) (hO_x4 : pmO c w_x4 [(49, 999), (10, 1)]) {h : Hp} {x0 : Nat} {x1 : Nat} {x2 : Int32} {x3 : Int32} {x4 : Nat} (o_x1 : cw c x1 = w_x1) (o_x4 : cw c x4 = w_x4) (T : TH ρ c h) (r_x0 : ρ x0 = 9) (r_x1 : ρ x1 = 47) (i_x2 : Rg (1) (4096) (x2)) (i_x3 : Rg (-2147483648) (2147483647) (x3)) (r_x4 : ρ x4 = 10) : Sat (sX8_writeLeft F h x0 x1 x2 x3 x4) (ZV ρ c) := by
  unfold sX8_writeLeft sX5_leftBy
  refine s_pu (fun o_1z e_1 => ?_)
  try dsimp only
  have i_o_1z : Rg (0) (63) (o_1z) := by rw [e_1]; exact (rg_and (rg_b rfl : Rg (63) (63) ((63 : Int32))) (by decide) : Rg (0) (63) ((x3 >>> ((6 : Int32) &&& 31)) &&& (63 : Int32)))
  have m_2 : Rg (0) (4096) ((0 : Int32)) := (rg_m (rg_b rfl : Rg (0) (0) ((0 : Int32))) (by decide))
  exact zX8_writeLeft_18 hF (pmO_s hO_x4 rfl) F o_x1 o_x4 T r_x0 r_x1 i_x2 i_x3 r_x4 i_o_1z (rg_m (rg_b rfl : Rg (0) (0) ((0 : Int32))) (by decide)) (rg_m (rg_b rfl : Rg (0) (0) ((0 : Int32))) (by decide)) (rg_m (rg_b rfl : Rg (0) (0) ((0 : Int32))) (by decide)) (rg_m (rg_b rfl : Rg (0) (0) ((0 : Int32))) (by decide)) (by have := m_2.1; have := m_2.2; omega)
set_option maxRecDepth 20000 in
theorem zX9_appendAll_2 {ρ : Nat → Nat} {c : Cm} {F : Nat} {w_x0 : Nat} (hF : 700000 ≤ F) (hO_x0 : pmO c w_x0 [(49, 999), (10, 1)]) : ∀ (f : Nat) {h : Hp} {x0 : Nat} {x1 : Nat} {x2 : Int32}, cw c x0 = w_x0 → TH ρ c h → ρ x0 = 10 → Rg (0) (231) (x2) → (231 - x2.toInt).toNat < f → Sat (sX9_appendAll_2 F f h x0 x1 x2) (ZV ρ c) := by
  intro f
  induction f with
  | zero => intros; omega
  | succ f ih =>
    intro h x0 x1 x2 o_x0 T r_x0 i_x2 hm
    rw [sX9_appendAll_2]
    obtain ⟨C_2, hC_2⟩ : ∃ C : Int, C = x2.toInt := ⟨_, rfl⟩
    have hk_2 : ∀ {h : Hp} {x0 : Nat} {x1 : Nat} {x2 : Int32}, cw c x0 = w_x0 → TH ρ c h → ρ x0 = 10 → Rg (0) (231) (x2) → C_2 < x2.toInt → Sat (sX9_appendAll_2 F f h x0 x1 x2) (ZV ρ c) := by
      intro h' x0' x1' x2' o_x0' T' r_x0' i_x2' hl
      exact ih o_x0' T' r_x0' i_x2' (by have := i_x2'.1; have := i_x2'.2; omega)
    have hc_2 : C_2 ≤ x2.toInt := by omega
    refine s_br (fun c_1 => ?_) (fun c_1 => ?_)
    · have _ := c_1
      exact s_some (T)
    · have _ := c_1
      have i_f_2 : Rg (0) (230) (x2) := rg_lt1 (nle_lt c_1) i_x2 (rg_lB _ : Rg (0) (231) ((nI (lB x1).length)))
      have i_f_3 : Rg (1) (231) ((nI (lB x1).length)) := rg_lt2 (nle_lt c_1) i_x2 (rg_lB _ : Rg (0) (231) ((nI (lB x1).length)))
      refine s_gd (rg_inBl i_f_2 (by decide) (lB_lt2 _) c_1) ?_
      refine s_cV (zX9_append hF (pmO_e o_x0 hO_x0 rfl) T r_x0 (rg_m (rg_schr _ _ : Rg (0) (255) ((schr x1 x2))) (by decide))) (fun o_3 T_4 => ?_)
      refine s_q (fun v_4 e_5 => ?_)
      have i_v_4 : Rg (1) (231) (v_4) := by rw [e_5]; exact (rg_add i_f_2 (rg_b rfl : Rg (1) (1) ((1 : Int32))) (by decide) : Rg (1) (231) (x2 + (1 : Int32)))
      have m_6 : (v_4).toInt = x2.toInt + 1 := by rw [e_5]; exact rg_inc i_f_2 (by decide)
      exact hk_2 o_x0 T_4 r_x0 (rg_m i_v_4 (by decide)) (by have := hc_2; omega)
set_option maxRecDepth 20000 in
theorem zX9_appendAll {ρ : Nat → Nat} {c : Cm} {F : Nat} {w_x0 : Nat} (hF : 700000 ≤ F) (hO_x0 : pmO c w_x0 [(49, 999), (10, 1)]) {h : Hp} {x0 : Nat} {x1 : Nat} (o_x0 : cw c x0 = w_x0) (T : TH ρ c h) (r_x0 : ρ x0 = 10) : Sat (sX9_appendAll F h x0 x1) (ZV ρ c) := by
  unfold sX9_appendAll 
  have m_1 : Rg (0) (231) ((0 : Int32)) := (rg_m (rg_b rfl : Rg (0) (0) ((0 : Int32))) (by decide))
  exact zX9_appendAll_2 hF (pmO_s hO_x0 rfl) F o_x0 T r_x0 (rg_m (rg_b rfl : Rg (0) (0) ((0 : Int32))) (by decide)) (by have := m_1.1; have := m_1.2; omega)
set_option maxRecDepth 20000 in
theorem zX8_writeMove_141 {ρ : Nat → Nat} {c : Cm} {F : Nat} {w_x4 : Nat} (hF : 700000 ≤ F) (hO_x4 : pmO c w_x4 [(49, 999), (10, 1)]) {h : Hp} {x0 : Nat} {x4 : Nat} {x5 : Int32} {x6 : Int32} (o_x4 : cw c x4 = w_x4) (T : TH ρ c h) (r_x0 : ρ x0 = 9) (r_x4 : ρ x4 = 10) (i_x5 : Rg (-2147483648) (2147483647) (x5)) (i_x6 : Rg (0) (63) (x6)) : Sat (sX8_writeMove_141 F h x0 x4 x5 x6) (ZV ρ c) := by
  unfold sX8_writeMove_141 sX8_writeMove_187
  obtain ⟨r_1, e_r_1, q_r_1⟩ := thR T r_x0 (k := 9) (i := 0) (k2 := 2) rfl (by decide)
  refine s_ref e_r_1 ?_
  refine s_cV (zX7_writeSquare hF (pmO_s hO_x4 rfl) (th_id T r_x0 (k := 9) (i := 0) (w := 2102) e_r_1 rfl (by decide)) o_x4 T q_r_1 i_x6 r_x4) (fun o_2 T_1 => ?_)
  refine s_cI0 (zX5_becomes hF T_1 i_x5) (fun o_3 e_o_3 i_o_3 => ?_)
  have T_2 := th_eq e_o_3 T_1
  refine s_br (fun c_3 => ?_) (fun c_3 => ?_)
  · have _ := c_3
    have i_f_4 : Rg (-1) (-1) (o_3.1) := rg_eq c_3 (rg_b rfl : Rg (-1) (-1) ((- 1 : Int32)))
    exact s_some (T_2)
  · have _ := c_3
    have i_f_5 : Rg (0) (14) (o_3.1) := rg_nlo c_3 i_o_3 (rg_b rfl : Rg (-1) (-1) ((- 1 : Int32)))
    refine s_cV (zX9_append hF (pmO_e o_x4 hO_x4 rfl) T_2 r_x4 (rg_m (rg_b rfl : Rg (61) (61) ((61 : Int32))) (by decide))) (fun o_5 T_6 => ?_)
    obtain ⟨r_6, e_r_6, q_r_6⟩ := thR T_6 r_x0 (k := 9) (i := 0) (k2 := 2) rfl (by decide)
    refine s_ref e_r_6 ?_
    refine s_cI0 (zX5_becomes hF T_6 i_x5) (fun o_7 e_o_7 i_o_7 => ?_)
    have T_7 := th_eq e_o_7 T_6
    refine s_cI0 (zX1_letterOf hF T_7 q_r_6 (rg_m (rg_mulc' (rg_b rfl : Rg (2) (2) ((2 : Int32))) i_o_7 (by decide) : Rg (-2) (28) (((2 : Int32) * o_7.1))) (by decide))) (fun o_8 e_o_8 i_o_8 => ?_)
    have T_8 := th_eq e_o_8 T_7
    refine s_cV (zX9_append hF (pmO_e o_x4 hO_x4 rfl) T_8 r_x4 (rg_m i_o_8 (by decide))) (fun o_9 T_9 => ?_)
    exact s_some (T_9)
set_option maxRecDepth 20000 in
theorem zX8_writeMove_125 {ρ : Nat → Nat} {c : Cm} {F : Nat} {w_x4 : Nat} (hF : 700000 ≤ F) (hO_x4 : pmO c w_x4 [(49, 999), (10, 1)]) {h : Hp} {x0 : Nat} {x4 : Nat} {x5 : Int32} {x6 : Int32} (o_x4 : cw c x4 = w_x4) (T : TH ρ c h) (r_x0 : ρ x0 = 9) (r_x4 : ρ x4 = 10) (i_x5 : Rg (-2147483648) (2147483647) (x5)) (i_x6 : Rg (0) (63) (x6)) : Sat (sX8_writeMove_125 F h x0 x4 x5 x6) (ZV ρ c) := by
  unfold sX8_writeMove_125 
  refine s_cI0 (zX5_takenBy hF T i_x5) (fun o_1 e_o_1 i_o_1 => ?_)
  have T_1 := th_eq e_o_1 T
  refine s_br (fun c_2 => ?_) (fun c_2 => ?_)
  · have _ := c_2
    have i_f_3 : Rg (-1) (-1) (o_1.1) := rg_eq c_2 (rg_b rfl : Rg (-1) (-1) ((- 1 : Int32)))
    exact zX8_writeMove_141 hF (pmO_s hO_x4 rfl) o_x4 T_1 r_x0 r_x4 i_x5 i_x6
  · have _ := c_2
    have i_f_4 : Rg (0) (14) (o_1.1) := rg_nlo c_2 i_o_1 (rg_b rfl : Rg (-1) (-1) ((- 1 : Int32)))
    refine s_cV (zX9_append hF (pmO_e o_x4 hO_x4 rfl) T_1 r_x4 (rg_m (rg_b rfl : Rg (120) (120) ((120 : Int32))) (by decide))) (fun o_3 T_5 => ?_)
    exact zX8_writeMove_141 hF (pmO_s hO_x4 rfl) o_x4 T_5 r_x0 r_x4 i_x5 i_x6
set_option maxRecDepth 20000 in
theorem zX8_writeMove {ρ : Nat → Nat} {c : Cm} {F : Nat} {w_x1 w_x4 : Nat} (hF : 700000 ≤ F) (hO_x4 : pmO c w_x4 [(49, 999), (10, 1)]) {h : Hp} {x0 : Nat} {x1 : Nat} {x2 : Int32} {x3 : Int32} {x4 : Nat} (o_x1 : cw c x1 = w_x1) (o_x4 : cw c x4 = w_x4) (T : TH ρ c h) (r_x0 : ρ x0 = 9) (r_x1 : ρ x1 = 47) (i_x2 : Rg (1) (4096) (x2)) (i_x3 : Rg (0) (4095) (x3)) (r_x4 : ρ x4 = 10) : Sat (sX8_writeMove F h x0 x1 x2 x3 x4) (ZV ρ c) := by
  unfold sX8_writeMove sX5_comeTo sX5_kindOf sX5_leftBy sX8_writeMove_44 sX5_manOf sX8_writeMove_115
  refine s_gd (by rw [thN T r_x1 (k := 47) (n := 4096) rfl (by decide)]; exact rg_inB i_x3 (by decide)) ?_
  refine s_q (fun v_2 e_1 => ?_)
  have i_v_2 : Rg (-2147483648) (2147483647) (v_2) := by rw [e_1]; exact (thI T r_x1 (k := 47) rfl : Rg (-2147483648) (2147483647) (hI h x1 x3.toNatClampNeg))
  refine s_pu (fun o_3z e_2 => ?_)
  try dsimp only
  have i_o_3z : Rg (0) (63) (o_3z) := by rw [e_2]; exact (rg_and (rg_b rfl : Rg (63) (63) ((63 : Int32))) (by decide) : Rg (0) (63) (v_2 &&& (63 : Int32)))
  refine s_pu (fun o_4z e_3 => ?_)
  try dsimp only
  have i_o_4z : Rg (0) (3) (o_4z) := by rw [e_3]; exact (rg_and (rg_b rfl : Rg (3) (3) ((3 : Int32))) (by decide) : Rg (0) (3) ((v_2 >>> ((24 : Int32) &&& 31)) &&& (3 : Int32)))
  refine s_br (fun c_4 => ?_) (fun c_4 => ?_)
  · have _ := c_4
    have i_f_5 : Rg (2) (2) (o_4z) := rg_eq c_4 (rg_b rfl : Rg (2) (2) ((2 : Int32)))
    refine s_pu (fun o_17z e_6 => ?_)
    try dsimp only
    have i_o_17z : Rg (0) (63) (o_17z) := by rw [e_6]; exact (rg_and (rg_b rfl : Rg (63) (63) ((63 : Int32))) (by decide) : Rg (0) (63) ((v_2 >>> ((6 : Int32) &&& 31)) &&& (63 : Int32)))
    refine s_br (fun c_7 => ?_) (fun c_7 => ?_)
    · have _ := c_7
      refine s_cV (zX9_appendAll hF (pmO_s hO_x4 rfl) o_x4 T r_x4) (fun o_1q1 T_8 => ?_)
      exact s_some (T_8)
    · have _ := c_7
      have i_f_9 : Rg (0) (62) (o_17z) := rg_lt1 (nle_lt c_7) i_o_17z i_o_3z
      have i_f_10 : Rg (1) (63) (o_3z) := rg_lt2 (nle_lt c_7) i_o_17z i_o_3z
      refine s_cV (zX9_appendAll hF (pmO_s hO_x4 rfl) o_x4 T r_x4) (fun o_1q2 T_11 => ?_)
      exact s_some (T_11)
  · have _ := c_4
    refine s_pu (fun o_6z e_12 => ?_)
    try dsimp only
    have i_o_6z : Rg (0) (15) (o_6z) := by rw [e_12]; exact (rg_and (rg_b rfl : Rg (15) (15) ((15 : Int32))) (by decide) : Rg (0) (15) ((v_2 >>> ((12 : Int32) &&& 31)) &&& (15 : Int32)))
    refine s_br (fun c_13 => ?_) (fun c_13 => ?_)
    · have _ := c_13
      have i_f_14 : Rg (3) (3) (o_4z) := rg_eq c_13 (rg_b rfl : Rg (3) (3) ((3 : Int32)))
      obtain ⟨r_13, e_r_13, q_r_13⟩ := thR T r_x0 (k := 9) (i := 0) (k2 := 2) rfl (by decide)
      refine s_ref e_r_13 ?_
      refine s_cI0 (zX1_letterOf hF T q_r_13 (rg_m (rg_mulc' (rg_b rfl : Rg (2) (2) ((2 : Int32))) i_o_6z (by decide) : Rg (0) (30) (((2 : Int32) * o_6z))) (by decide))) (fun o_14 e_o_14 i_o_14 => ?_)
      have T_15 := th_eq e_o_14 T
      refine s_cV (zX9_append hF (pmO_e o_x4 hO_x4 rfl) T_15 r_x4 (rg_m i_o_14 (by decide))) (fun o_15 T_16 => ?_)
      refine s_cV (zX9_append hF (pmO_e o_x4 hO_x4 rfl) T_16 r_x4 (rg_m (rg_b rfl : Rg (64) (64) ((64 : Int32))) (by decide))) (fun o_16 T_17 => ?_)
      exact zX8_writeMove_125 hF (pmO_s hO_x4 rfl) o_x4 T_17 r_x0 r_x4 i_v_2 i_o_3z
    · have _ := c_13
      have i_f_18 : Rg (0) (2) (o_4z) := rg_nhi c_13 i_o_4z (rg_b rfl : Rg (3) (3) ((3 : Int32)))
      obtain ⟨r_8, e_r_8, q_r_8⟩ := thR T r_x0 (k := 9) (i := 0) (k2 := 2) rfl (by decide)
      refine s_ref e_r_8 ?_
      refine s_br (fun c_19 => ?_) (fun c_19 => ?_)
      · have _ := c_19
        refine s_cV (zX8_writeLeft hF (pmO_s hO_x4 rfl) o_x1 o_x4 T r_x0 r_x1 i_x2 i_v_2 r_x4) (fun o_1q3 T_20 => ?_)
        exact zX8_writeMove_125 hF (pmO_s hO_x4 rfl) o_x4 T_20 r_x0 r_x4 i_v_2 i_o_3z
      · have _ := c_19
        refine s_ref e_r_8 ?_
        refine s_cI0 (zX1_letterOf hF T q_r_8 (rg_m (rg_mulc' (rg_b rfl : Rg (2) (2) ((2 : Int32))) i_o_6z (by decide) : Rg (0) (30) (((2 : Int32) * o_6z))) (by decide))) (fun o_11 e_o_11 i_o_11 => ?_)
        have T_21 := th_eq e_o_11 T
        refine s_cV (zX9_append hF (pmO_e o_x4 hO_x4 rfl) T_21 r_x4 (rg_m i_o_11 (by decide))) (fun o_12 T_22 => ?_)
        refine s_cV (zX8_writeLeft hF (pmO_s hO_x4 rfl) o_x1 o_x4 T_22 r_x0 r_x1 i_x2 i_v_2 r_x4) (fun o_1q4 T_23 => ?_)
        exact zX8_writeMove_125 hF (pmO_s hO_x4 rfl) o_x4 T_23 r_x0 r_x4 i_v_2 i_o_3z
set_option maxRecDepth 20000 in
theorem zX8_find_3 {ρ : Nat → Nat} {c : Cm} {F : Nat} {w_x1 w_x3 : Nat} (hF : 700000 ≤ F) (hi_1803 : pmO c 1803 [(49, 999), (10, 1)]) : ∀ (f : Nat) {h : Hp} {x0 : Nat} {x1 : Nat} {x2 : Int32} {x3 : Nat} {x4 : Int32}, cw c x1 = w_x1 → cw c x3 = w_x3 → TH ρ c h → ρ x0 = 9 → ρ x1 = 47 → Rg (0) (4096) (x2) → ρ x3 = 10 → Rg (0) (4096) (x4) → (4096 - x4.toInt).toNat < f → Sat (sX8_find_3 F f h x0 x1 x2 x3 x4) (ZI ρ c (-1) (4095)) := by
  intro f
  induction f with
  | zero => intros; omega
  | succ f ih =>
    intro h x0 x1 x2 x3 x4 o_x1 o_x3 T r_x0 r_x1 i_x2 r_x3 i_x4 hm
    rw [sX8_find_3]
    unfold sX8_find_53 sX8_find_64
    obtain ⟨C_3, hC_3⟩ : ∃ C : Int, C = x4.toInt := ⟨_, rfl⟩
    have hk_3 : ∀ {h : Hp} {x0 : Nat} {x1 : Nat} {x2 : Int32} {x3 : Nat} {x4 : Int32}, cw c x1 = w_x1 → cw c x3 = w_x3 → TH ρ c h → ρ x0 = 9 → ρ x1 = 47 → Rg (0) (4096) (x2) → ρ x3 = 10 → Rg (0) (4096) (x4) → C_3 < x4.toInt → Sat (sX8_find_3 F f h x0 x1 x2 x3 x4) (ZI ρ c (-1) (4095)) := by
      intro h' x0' x1' x2' x3' x4' o_x1' o_x3' T' r_x0' r_x1' i_x2' r_x3' i_x4' hl
      exact ih o_x1' o_x3' T' r_x0' r_x1' i_x2' r_x3' i_x4' (by have := i_x4'.1; have := i_x4'.2; omega)
    have hc_3 : C_3 ≤ x4.toInt := by omega
    refine s_br (fun c_1 => ?_) (fun c_1 => ?_)
    · have _ := c_1
      exact s_some ⟨(T), (rg_m (rg_b rfl : Rg (-1) (-1) ((- 1 : Int32))) (by decide))⟩
    · have _ := c_1
      have i_f_2 : Rg (0) (4095) (x4) := rg_lt1 (nle_lt c_1) i_x4 i_x2
      have i_f_3 : Rg (1) (4096) (x2) := rg_lt2 (nle_lt c_1) i_x4 i_x2
      obtain ⟨r_2, e_r_2, q_r_2⟩ := thR T r_x0 (k := 9) (i := 3) (k2 := 10) rfl (by decide)
      refine s_ref e_r_2 ?_
      refine s_cV (zX9_clear hF (pmO_e (th_id T r_x0 (k := 9) (i := 3) (w := 1803) e_r_2 rfl (by decide)) hi_1803 rfl) T q_r_2) (fun o_3 T_4 => ?_)
      obtain ⟨r_4, e_r_4, q_r_4⟩ := thR T_4 r_x0 (k := 9) (i := 3) (k2 := 10) rfl (by decide)
      refine s_ref e_r_4 ?_
      refine s_cV (zX8_writeMove hF (pmO_s hi_1803 rfl) o_x1 (th_id T_4 r_x0 (k := 9) (i := 3) (w := 1803) e_r_4 rfl (by decide)) T_4 r_x0 r_x1 i_f_3 i_f_2 q_r_4) (fun o_5 T_5 => ?_)
      obtain ⟨r_6, e_r_6, q_r_6⟩ := thR T_5 r_x0 (k := 9) (i := 3) (k2 := 10) rfl (by decide)
      refine s_ref e_r_6 ?_
      refine s_q (fun v_7 e_6 => ?_)
      have i_v_7 : Rg (-1200) (1200) (v_7) := by rw [e_6]; exact (rg_sub (thI T_5 r_x3 (k := 10) (i := 1) rfl : Rg (0) (1200) ((hI o_5 x3 1))) (thI T_5 q_r_6 (k := 10) (i := 1) rfl : Rg (0) (1200) ((hI o_5 r_6 1))) (by decide) : Rg (-1200) (1200) ((hI o_5 x3 1) - (hI o_5 r_6 1)))
      refine s_br (fun c_7 => ?_) (fun c_7 => ?_)
      · have _ := c_7
        have i_f_8 : Rg (0) (0) (v_7) := rg_eq c_7 (rg_b rfl : Rg (0) (0) (0 : Int32))
        refine s_cI0 (zX8_begins hF T_5 r_x0 r_x3) (fun o_1q1 e_o_1q1 i_o_1q1 => ?_)
        have T_9 := th_eq e_o_1q1 T_5
        refine s_br (fun c_10 => ?_) (fun c_10 => ?_)
        · have _ := c_10
          have i_f_11 : Rg (0) (0) (o_1q1.1) := rg_eq c_10 (rg_b rfl : Rg (0) (0) (0 : Int32))
          refine s_q (fun v_1q2 e_12 => ?_)
          have i_v_1q2 : Rg (1) (4096) (v_1q2) := by rw [e_12]; exact (rg_add i_f_2 (rg_b rfl : Rg (1) (1) ((1 : Int32))) (by decide) : Rg (1) (4096) (x4 + (1 : Int32)))
          have m_13 : (v_1q2).toInt = x4.toInt + 1 := by rw [e_12]; exact rg_inc i_f_2 (by decide)
          exact hk_3 o_x1 o_x3 T_9 r_x0 r_x1 (rg_m i_f_3 (by decide)) r_x3 (rg_m i_v_1q2 (by decide)) (by have := hc_3; omega)
        · have _ := c_10
          have i_f_14 : Rg (1) (1) (o_1q1.1) := rg_nlo c_10 i_o_1q1 (rg_b rfl : Rg (0) (0) (0 : Int32))
          exact s_some ⟨(T_9), (rg_m i_f_2 (by decide))⟩
      · have _ := c_7
        refine s_br (fun c_15 => ?_) (fun c_15 => ?_)
        · have _ := c_15
          have i_f_16 : Rg (1) (1) (v_7) := rg_eq c_15 (rg_b rfl : Rg (1) (1) ((1 : Int32)))
          refine s_cI0 (zX8_begins hF T_5 r_x0 r_x3) (fun o_1q3 e_o_1q3 i_o_1q3 => ?_)
          have T_17 := th_eq e_o_1q3 T_5
          refine s_br (fun c_18 => ?_) (fun c_18 => ?_)
          · have _ := c_18
            have i_f_19 : Rg (0) (0) (o_1q3.1) := rg_eq c_18 (rg_b rfl : Rg (0) (0) (0 : Int32))
            refine s_q (fun v_1q4 e_20 => ?_)
            have i_v_1q4 : Rg (1) (4096) (v_1q4) := by rw [e_20]; exact (rg_add i_f_2 (rg_b rfl : Rg (1) (1) ((1 : Int32))) (by decide) : Rg (1) (4096) (x4 + (1 : Int32)))
            have m_21 : (v_1q4).toInt = x4.toInt + 1 := by rw [e_20]; exact rg_inc i_f_2 (by decide)
            exact hk_3 o_x1 o_x3 T_17 r_x0 r_x1 (rg_m i_f_3 (by decide)) r_x3 (rg_m i_v_1q4 (by decide)) (by have := hc_3; omega)
          · have _ := c_18
            have i_f_22 : Rg (1) (1) (o_1q3.1) := rg_nlo c_18 i_o_1q3 (rg_b rfl : Rg (0) (0) (0 : Int32))
            exact s_some ⟨(T_17), (rg_m i_f_2 (by decide))⟩
        · have _ := c_15
          refine s_q (fun v_1q5 e_23 => ?_)
          have i_v_1q5 : Rg (1) (4096) (v_1q5) := by rw [e_23]; exact (rg_add i_f_2 (rg_b rfl : Rg (1) (1) ((1 : Int32))) (by decide) : Rg (1) (4096) (x4 + (1 : Int32)))
          have m_24 : (v_1q5).toInt = x4.toInt + 1 := by rw [e_23]; exact rg_inc i_f_2 (by decide)
          exact hk_3 o_x1 o_x3 T_5 r_x0 r_x1 (rg_m i_f_3 (by decide)) r_x3 (rg_m i_v_1q5 (by decide)) (by have := hc_3; omega)
set_option maxRecDepth 20000 in
theorem zX8_find {ρ : Nat → Nat} {c : Cm} {F : Nat} {w_x1 w_x3 : Nat} (hF : 700000 ≤ F) (hi_1803 : pmO c 1803 [(49, 999), (10, 1)]) {h : Hp} {x0 : Nat} {x1 : Nat} {x2 : Int32} {x3 : Nat} (o_x1 : cw c x1 = w_x1) (o_x3 : cw c x3 = w_x3) (T : TH ρ c h) (r_x0 : ρ x0 = 9) (r_x1 : ρ x1 = 47) (i_x2 : Rg (0) (4096) (x2)) (r_x3 : ρ x3 = 10) : Sat (sX8_find F h x0 x1 x2 x3) (ZI ρ c (-1) (4095)) := by
  unfold sX8_find 
  have m_1 : Rg (0) (4096) ((0 : Int32)) := (rg_m (rg_b rfl : Rg (0) (0) ((0 : Int32))) (by decide))
  exact zX8_find_3 hF (pmO_s hi_1803 rfl) F o_x1 o_x3 T r_x0 r_x1 i_x2 r_x3 (rg_m (rg_b rfl : Rg (0) (0) ((0 : Int32))) (by decide)) (by have := m_1.1; have := m_1.2; omega)
set_option maxRecDepth 20000 in
theorem zX8_isWhole {ρ : Nat → Nat} {c : Cm} {F : Nat} (hF : 700000 ≤ F) {h : Hp} {x0 : Nat} {x1 : Nat} (T : TH ρ c h) (r_x0 : ρ x0 = 9) (r_x1 : ρ x1 = 10) : Sat (sX8_isWhole h x0 x1) (ZI0 h (0) (1)) := by
  unfold sX8_isWhole sX8_isWhole_19
  obtain ⟨r_1, e_r_1, q_r_1⟩ := thR T r_x0 (k := 9) (i := 3) (k2 := 10) rfl (by decide)
  refine s_ref e_r_1 ?_
  refine s_br (fun c_1 => ?_) (fun c_1 => ?_)
  · have _ := c_1
    refine s_gd (rg_bool (rg_m (rg_b rfl : Rg (1) (1) ((1 : Int32))) (by decide))) ?_
    exact s_some ⟨rfl, (rg_m (rg_b rfl : Rg (1) (1) ((1 : Int32))) (by decide))⟩
  · have _ := c_1
    refine s_gd (rg_bool (rg_m (rg_b rfl : Rg (0) (0) ((0 : Int32))) (by decide))) ?_
    exact s_some ⟨rfl, (rg_m (rg_b rfl : Rg (0) (0) ((0 : Int32))) (by decide))⟩
set_option maxRecDepth 20000 in
theorem zX4_keyAt {ρ : Nat → Nat} {c : Cm} {F : Nat} (hF : 700000 ≤ F) {h : Hp} {x0 : Nat} {x1 : Int32} (T : TH ρ c h) (r_x0 : ρ x0 = 5) (i_x1 : Rg (-2147483648) (2147483647) (x1)) : Sat (sX4_keyAt h x0 x1) (ZI0 h (-1) (4095)) := by
  unfold sX4_keyAt sX4_keyAt_21 sX4_keyAt_22
  refine s_br (fun c_1 => ?_) (fun c_1 => ?_)
  · have _ := c_1
    have i_f_2 : Rg (-2147483648) (-1) (x1) := rg_lt1 c_1 i_x1 (rg_b rfl : Rg (0) (0) (0 : Int32))
    exact s_some ⟨rfl, (rg_m (rg_b rfl : Rg (-1) (-1) ((- 1 : Int32))) (by decide))⟩
  · have _ := c_1
    have i_f_3 : Rg (0) (2147483647) (x1) := rg_le2 (nlt_le c_1) (rg_b rfl : Rg (0) (0) (0 : Int32)) i_x1
    refine s_br (fun c_4 => ?_) (fun c_4 => ?_)
    · have _ := c_4
      exact s_some ⟨rfl, (rg_m (rg_b rfl : Rg (-1) (-1) ((- 1 : Int32))) (by decide))⟩
    · have _ := c_4
      have i_f_5 : Rg (0) (4095) (x1) := rg_lt1 (nle_lt c_4) i_f_3 (thI T r_x0 (k := 5) (i := 14) rfl : Rg (0) (4096) ((hI h x0 14)))
      have i_f_6 : Rg (1) (4096) ((hI h x0 14)) := rg_lt2 (nle_lt c_4) i_f_3 (thI T r_x0 (k := 5) (i := 14) rfl : Rg (0) (4096) ((hI h x0 14)))
      obtain ⟨r_3, e_r_3, q_r_3⟩ := thR T r_x0 (k := 5) (i := 12) (k2 := 45) rfl (by decide)
      refine s_ref e_r_3 ?_
      refine s_gd (by rw [thN T q_r_3 (k := 45) (n := 4096) rfl (by decide)]; exact rg_inB i_f_5 (by decide)) ?_
      exact s_some ⟨rfl, (rg_m (thI T q_r_3 (k := 45) rfl : Rg (0) (4095) ((hI h r_3 x1.toNatClampNeg))) (by decide))⟩
set_option maxRecDepth 20000 in
theorem zX11_key {ρ : Nat → Nat} {c : Cm} {F : Nat} (hF : 700000 ≤ F) {h : Hp} {x0 : Nat} {x1 : Int32} (T : TH ρ c h) (r_x0 : ρ x0 = 12) (i_x1 : Rg (-2147483648) (2147483647) (x1)) : Sat (sX11_key h x0 x1) (ZI0 h (-1) (4095)) := by
  unfold sX11_key 
  obtain ⟨r_1, e_r_1, q_r_1⟩ := thR T r_x0 (k := 12) (i := 11) (k2 := 5) rfl (by decide)
  refine s_ref e_r_1 ?_
  refine s_cI0 (zX4_keyAt hF T q_r_1 i_x1) (fun o_2 e_o_2 i_o_2 => ?_)
  have T_1 := th_eq e_o_2 T
  exact s_some ⟨(e_o_2.trans rfl), i_o_2⟩
set_option maxRecDepth 20000 in
theorem zX11_out {ρ : Nat → Nat} {c : Cm} {F : Nat} (hF : 700000 ≤ F) {h : Hp} {x0 : Nat} {x1 : Int32} (T : TH ρ c h) (r_x0 : ρ x0 = 12) (i_x1 : Rg (-2147483648) (2147483647) (x1)) : Sat (sX11_out h x0 x1) (ZI0 h (-1) (255)) := by
  unfold sX11_out 
  obtain ⟨r_1, e_r_1, q_r_1⟩ := thR T r_x0 (k := 12) (i := 1) (k2 := 10) rfl (by decide)
  refine s_ref e_r_1 ?_
  refine s_cP0 (zX9_byteAt hF T q_r_1 i_x1) (fun o_2 e_o_2 i_o_2 p_o_2 => ?_)
  have T_1 := th_eq e_o_2 T
  exact s_some ⟨(e_o_2.trans rfl), i_o_2⟩
set_option maxRecDepth 20000 in
theorem zX11_played {ρ : Nat → Nat} {c : Cm} {F : Nat} (hF : 700000 ≤ F) {h : Hp} {x0 : Nat} {x1 : Int32} {x2 : Int32} (T : TH ρ c h) (r_x0 : ρ x0 = 12) (i_x1 : Rg (-2147483648) (2147483647) (x1)) (i_x2 : Rg (-2147483648) (2147483647) (x2)) : Sat (sX11_played h x0 x1 x2) (ZI0 h (-102) (4095)) := by
  unfold sX11_played sX11_played_39 sX11_played_41
  refine s_cP0 (zX11_isGame hF T i_x1) (fun o_1 e_o_1 i_o_1 p_o_1 => ?_)
  have T_1 := th_eq e_o_1 T
  refine s_br (fun c_2 => ?_) (fun c_2 => ?_)
  · have _ := c_2
    have i_f_3 : Rg (0) (0) (o_1.1) := rg_eq c_2 (rg_b rfl : Rg (0) (0) (0 : Int32))
    exact s_some ⟨(e_o_1.trans rfl), (rg_m (rg_b rfl : Rg (-101) (-101) ((- 101 : Int32))) (by decide))⟩
  · have _ := c_2
    have i_f_4 : Rg (1) (1) (o_1.1) := rg_nlo c_2 i_o_1 (rg_b rfl : Rg (0) (0) (0 : Int32))
    have p_f_5 := p_o_1 c_2
    refine s_br (fun c_6 => ?_) (fun c_6 => ?_)
    · have _ := c_6
      have i_f_7 : Rg (-2147483648) (-1) (x2) := rg_lt1 c_6 i_x2 (rg_b rfl : Rg (0) (0) (0 : Int32))
      exact s_some ⟨(e_o_1.trans rfl), (rg_m (rg_b rfl : Rg (-102) (-102) ((- 102 : Int32))) (by decide))⟩
    · have _ := c_6
      have i_f_8 : Rg (0) (2147483647) (x2) := rg_le2 (nlt_le c_6) (rg_b rfl : Rg (0) (0) (0 : Int32)) i_x2
      obtain ⟨r_4, e_r_4, q_r_4⟩ := thR T_1 r_x0 (k := 12) (i := 17) (k2 := 61) rfl (by decide)
      refine s_ref e_r_4 ?_
      refine s_gd (by rw [thN T_1 q_r_4 (k := 61) (n := 8) rfl (by decide)]; exact rg_inB p_f_5 (by decide)) ?_
      refine s_br (fun c_9 => ?_) (fun c_9 => ?_)
      · have _ := c_9
        exact s_some ⟨(e_o_1.trans rfl), (rg_m (rg_b rfl : Rg (-102) (-102) ((- 102 : Int32))) (by decide))⟩
      · have _ := c_9
        have i_f_10 : Rg (0) (299) (x2) := rg_lt1 (nle_lt c_9) i_f_8 (thI T_1 q_r_4 (k := 61) rfl : Rg (-1) (300) ((hI o_1.2 r_4 x1.toNatClampNeg)))
        have i_f_11 : Rg (1) (300) ((hI o_1.2 r_4 x1.toNatClampNeg)) := rg_lt2 (nle_lt c_9) i_f_8 (thI T_1 q_r_4 (k := 61) rfl : Rg (-1) (300) ((hI o_1.2 r_4 x1.toNatClampNeg)))
        obtain ⟨r_7, e_r_7, q_r_7⟩ := thR T_1 r_x0 (k := 12) (i := 16) (k2 := 60) rfl (by decide)
        refine s_ref e_r_7 ?_
        refine s_gd (by rw [thN T_1 q_r_7 (k := 60) (n := 2408) rfl (by decide)]; exact rg_inB (rg_add (rg_mulc p_f_5 (rg_b rfl : Rg (301) (301) ((301 : Int32))) (by decide) : Rg (0) (2107) ((x1 * (301 : Int32)))) i_f_10 (by decide) : Rg (0) (2406) (((x1 * (301 : Int32)) + x2))) (by decide)) ?_
        exact s_some ⟨(e_o_1.trans rfl), (rg_m (thI T_1 q_r_7 (k := 60) rfl : Rg (0) (4095) ((hI o_1.2 r_7 ((x1 * (301 : Int32)) + x2).toNatClampNeg))) (by decide))⟩
set_option maxRecDepth 20000 in
theorem zX2_isDigit {ρ : Nat → Nat} {c : Cm} {F : Nat} (hF : 700000 ≤ F) {h : Hp} {x0 : Int32} (T : TH ρ c h) (i_x0 : Rg (-1) (255) (x0)) : Sat (sX2_isDigit h x0) (ZP0 h (0) (1) (0) (Rg (48) (57) (x0))) := by
  unfold sX2_isDigit sX2_isDigit_16 sX2_isDigit_17
  refine s_br (fun c_1 => ?_) (fun c_1 => ?_)
  · have _ := c_1
    have i_f_2 : Rg (-1) (47) (x0) := rg_lt1 c_1 i_x0 (rg_b rfl : Rg (48) (48) ((48 : Int32)))
    refine s_gd (rg_bool (rg_m (rg_b rfl : Rg (0) (0) ((0 : Int32))) (by decide))) ?_
    exact s_some ⟨rfl, (rg_m (rg_b rfl : Rg (0) (0) ((0 : Int32))) (by decide)), (fun q => absurd (rz_s (rg_b rfl : Rg (0) (0) ((0 : Int32))) (rg_b rfl : Rg (0) (0) (0 : Int32))) q)⟩
  · have _ := c_1
    have i_f_3 : Rg (48) (255) (x0) := rg_le2 (nlt_le c_1) (rg_b rfl : Rg (48) (48) ((48 : Int32))) i_x0
    refine s_br (fun c_4 => ?_) (fun c_4 => ?_)
    · have _ := c_4
      have i_f_5 : Rg (58) (255) (x0) := rg_lt2 c_4 (rg_b rfl : Rg (57) (57) ((57 : Int32))) i_f_3
      refine s_gd (rg_bool (rg_m (rg_b rfl : Rg (0) (0) ((0 : Int32))) (by decide))) ?_
      exact s_some ⟨rfl, (rg_m (rg_b rfl : Rg (0) (0) ((0 : Int32))) (by decide)), (fun q => absurd (rz_s (rg_b rfl : Rg (0) (0) ((0 : Int32))) (rg_b rfl : Rg (0) (0) (0 : Int32))) q)⟩
    · have _ := c_4
      have i_f_6 : Rg (48) (57) (x0) := rg_le1 (nlt_le c_4) i_f_3 (rg_b rfl : Rg (57) (57) ((57 : Int32)))
      refine s_gd (rg_bool (rg_m (rg_b rfl : Rg (1) (1) ((1 : Int32))) (by decide))) ?_
      exact s_some ⟨rfl, (rg_m (rg_b rfl : Rg (1) (1) ((1 : Int32))) (by decide)), (fun _ => i_f_6)⟩
set_option maxRecDepth 20000 in
theorem zX7_takeByte {ρ : Nat → Nat} {c : Cm} {F : Nat} (hF : 700000 ≤ F) (m5 : c.2.1 5 = true) (hA : pmA c [(8, 2)]) {h : Hp} {x0 : Nat} {x1 : Int32} (T : TH ρ c h) (r_x0 : ρ x0 = 8) (i_x1 : Rg (32) (47) (x1)) : Sat (sX7_takeByte h x0 x1) (ZI ρ c (0) (1)) := by
  unfold sX7_takeByte 
  obtain ⟨r_1, e_r_1, q_r_1⟩ := thM T r_x0 (k := 8) (i := 1) (j := 5) (k2 := 10) rfl (by decide) rfl (by decide) m5
  refine s_ref e_r_1 ?_
  refine s_cP0 (zX9_byteAt hF T q_r_1 (rg_m (thI T r_x0 (k := 8) (i := 2) rfl : Rg (0) (1201) ((hI h x0 2))) (by decide))) (fun o_2 e_o_2 i_o_2 p_o_2 => ?_)
  have T_1 := th_eq e_o_2 T
  refine s_br (fun c_2 => ?_) (fun c_2 => ?_)
  · have _ := c_2
    have i_f_3 : Rg (32) (47) (o_2.1) := rg_eq c_2 i_x1
    have p_f_4 := p_o_2 (fun q => rc_eq q i_f_3 (rg_b rfl : Rg (-1) (-1) (-1 : Int32)) (by decide))
    refine s_hq (th_wI T_1 r_x0 (k := 8) (lo := (0)) (hi := (1201)) rfl ((rg_m (rg_add ((rg_he e_o_2 p_f_4) : Rg (0) (1199) ((hI o_2.2 x0 2))) (rg_b rfl : Rg (1) (1) ((1 : Int32))) (by decide) : Rg (1) (1200) (((hI o_2.2 x0 2) + (1 : Int32)))) (by decide)) : Rg (0) (1201) (((hI o_2.2 x0 2) + (1 : Int32)))) (by decide) (by decide) (pm_a hA rfl)) (fun h_4 T_5 w_6 => ?_)
    exact s_some ⟨(T_5), (rg_m (rg_b rfl : Rg (1) (1) ((1 : Int32))) (by decide))⟩
  · have _ := c_2
    exact s_some ⟨(T_1), (rg_m (rg_b rfl : Rg (0) (0) ((0 : Int32))) (by decide))⟩
set_option maxRecDepth 20000 in
theorem zX7_readSide {ρ : Nat → Nat} {c : Cm} {F : Nat} {w_x1 : Nat} (hF : 700000 ≤ F) (m5 : c.2.1 5 = true) (hA : pmA c [(8, 2)]) (hO_x1 : pmO c w_x1 [(4, 5)]) {h : Hp} {x0 : Nat} {x1 : Nat} (o_x1 : cw c x1 = w_x1) (T : TH ρ c h) (r_x0 : ρ x0 = 8) (r_x1 : ρ x1 = 4) : Sat (sX7_readSide h x0 x1) (ZI ρ c (0) (1)) := by
  unfold sX7_readSide sX7_readSide_26 sX7_readSide_38
  obtain ⟨r_1, e_r_1, q_r_1⟩ := thM T r_x0 (k := 8) (i := 1) (j := 5) (k2 := 10) rfl (by decide) rfl (by decide) m5
  refine s_ref e_r_1 ?_
  refine s_cP0 (zX9_byteAt hF T q_r_1 (rg_m (thI T r_x0 (k := 8) (i := 2) rfl : Rg (0) (1201) ((hI h x0 2))) (by decide))) (fun o_2 e_o_2 i_o_2 p_o_2 => ?_)
  have T_1 := th_eq e_o_2 T
  refine s_br (fun c_2 => ?_) (fun c_2 => ?_)
  · have _ := c_2
    have i_f_3 : Rg (119) (119) (o_2.1) := rg_eq c_2 (rg_b rfl : Rg (119) (119) ((119 : Int32)))
    have p_f_4 := p_o_2 (fun q => rc_eq q i_f_3 (rg_b rfl : Rg (-1) (-1) (-1 : Int32)) (by decide))
    refine s_br (fun c_5 => ?_) (fun c_5 => ?_)
    · have _ := c_5
      refine s_hq (th_wI T_1 r_x1 (k := 4) (lo := (0)) (hi := (1)) rfl ((rg_m (rg_b rfl : Rg (0) (0) ((0 : Int32))) (by decide)) : Rg (0) (1) ((0 : Int32))) (by decide) (by decide) (pm_o hO_x1 o_x1 rfl)) (fun h_1q2 T_6 w_7 => ?_)
      refine s_hq (th_wI T_6 r_x0 (k := 8) (lo := (0)) (hi := (1201)) rfl ((rg_m (rg_add ((rg_hw w_7 (ne_r r_x0 r_x1 (by decide)) (rg_he e_o_2 p_f_4)) : Rg (0) (1199) ((hI h_1q2 x0 2))) (rg_b rfl : Rg (1) (1) ((1 : Int32))) (by decide) : Rg (1) (1200) (((hI h_1q2 x0 2) + (1 : Int32)))) (by decide)) : Rg (0) (1201) (((hI h_1q2 x0 2) + (1 : Int32)))) (by decide) (by decide) (pm_a hA rfl)) (fun h_2q2 T_8 w_9 => ?_)
      exact s_some ⟨(T_8), (rg_m (rg_b rfl : Rg (1) (1) ((1 : Int32))) (by decide))⟩
    · have _ := c_5
      exact (rc_ne c_5 i_f_3 (rg_b rfl : Rg (119) (119) ((119 : Int32)))).elim
  · have _ := c_2
    refine s_br (fun c_10 => ?_) (fun c_10 => ?_)
    · have _ := c_10
      have i_f_11 : Rg (98) (98) (o_2.1) := rg_eq c_10 (rg_b rfl : Rg (98) (98) ((98 : Int32)))
      have p_f_12 := p_o_2 (fun q => rc_eq q i_f_11 (rg_b rfl : Rg (-1) (-1) (-1 : Int32)) (by decide))
      refine s_br (fun c_13 => ?_) (fun c_13 => ?_)
      · have _ := c_13
        exact (rc_eq c_13 i_f_11 (rg_b rfl : Rg (119) (119) ((119 : Int32))) (by decide)).elim
      · have _ := c_13
        refine s_hq (th_wI T_1 r_x1 (k := 4) (lo := (0)) (hi := (1)) rfl ((rg_m (rg_b rfl : Rg (1) (1) ((1 : Int32))) (by decide)) : Rg (0) (1) ((1 : Int32))) (by decide) (by decide) (pm_o hO_x1 o_x1 rfl)) (fun h_1q6 T_14 w_15 => ?_)
        refine s_hq (th_wI T_14 r_x0 (k := 8) (lo := (0)) (hi := (1201)) rfl ((rg_m (rg_add ((rg_hw w_15 (ne_r r_x0 r_x1 (by decide)) (rg_he e_o_2 p_f_12)) : Rg (0) (1199) ((hI h_1q6 x0 2))) (rg_b rfl : Rg (1) (1) ((1 : Int32))) (by decide) : Rg (1) (1200) (((hI h_1q6 x0 2) + (1 : Int32)))) (by decide)) : Rg (0) (1201) (((hI h_1q6 x0 2) + (1 : Int32)))) (by decide) (by decide) (pm_a hA rfl)) (fun h_2q6 T_16 w_17 => ?_)
        exact s_some ⟨(T_16), (rg_m (rg_b rfl : Rg (1) (1) ((1 : Int32))) (by decide))⟩
    · have _ := c_10
      exact s_some ⟨(T_1), (rg_m (rg_b rfl : Rg (0) (0) ((0 : Int32))) (by decide))⟩
set_option maxRecDepth 20000 in
theorem zX4_isGoal {ρ : Nat → Nat} {c : Cm} {F : Nat} (hF : 700000 ≤ F) {h : Hp} {x0 : Nat} {x1 : Int32} (T : TH ρ c h) (r_x0 : ρ x0 = 5) (i_x1 : Rg (1) (8) (x1)) : Sat (sX4_isGoal h x0 x1) (ZI0 h (0) (1)) := by
  unfold sX4_isGoal sX4_isGoal_47 sX4_isGoal_64 sX4_isGoal_103
  refine s_br (fun c_1 => ?_) (fun c_1 => ?_)
  · have _ := c_1
    have i_f_2 : Rg (0) (0) ((hI h x0 6)) := rg_eq c_1 (rg_b rfl : Rg (0) (0) ((0 : Int32)))
    obtain ⟨r_1, e_r_1, q_r_1⟩ := thR T r_x0 (k := 5) (i := 3) (k2 := 41) rfl (by decide)
    refine s_ref e_r_1 ?_
    refine s_gd (by rw [thN T q_r_1 (k := 41) (n := 9) rfl (by decide)]; exact rg_inB i_x1 (by decide)) ?_
    refine s_br (fun c_3 => ?_) (fun c_3 => ?_)
    · have _ := c_3
      have i_f_4 : Rg (5) (5) ((hI h r_1 x1.toNatClampNeg)) := rg_eq c_3 (rg_b rfl : Rg (5) (5) ((5 : Int32)))
      refine s_gd (rg_bool (rg_m (rg_b rfl : Rg (1) (1) ((1 : Int32))) (by decide))) ?_
      exact s_some ⟨rfl, (rg_m (rg_b rfl : Rg (1) (1) ((1 : Int32))) (by decide))⟩
    · have _ := c_3
      refine s_gd (rg_bool (rg_m (rg_b rfl : Rg (0) (0) ((0 : Int32))) (by decide))) ?_
      exact s_some ⟨rfl, (rg_m (rg_b rfl : Rg (0) (0) ((0 : Int32))) (by decide))⟩
  · have _ := c_1
    have i_f_5 : Rg (1) (2) ((hI h x0 6)) := rg_nlo c_1 (thI T r_x0 (k := 5) (i := 6) rfl : Rg (0) (2) ((hI h x0 6))) (rg_b rfl : Rg (0) (0) ((0 : Int32)))
    refine s_br (fun c_6 => ?_) (fun c_6 => ?_)
    · have _ := c_6
      have i_f_7 : Rg (1) (1) ((hI h x0 6)) := rg_eq c_6 (rg_b rfl : Rg (1) (1) ((1 : Int32)))
      obtain ⟨r_5, e_r_5, q_r_5⟩ := thR T r_x0 (k := 5) (i := 3) (k2 := 41) rfl (by decide)
      refine s_ref e_r_5 ?_
      refine s_gd (by rw [thN T q_r_5 (k := 41) (n := 9) rfl (by decide)]; exact rg_inB i_x1 (by decide)) ?_
      refine s_br (fun c_8 => ?_) (fun c_8 => ?_)
      · have _ := c_8
        have i_f_9 : Rg (6) (6) ((hI h r_5 x1.toNatClampNeg)) := rg_eq c_8 (rg_b rfl : Rg (6) (6) ((6 : Int32)))
        refine s_gd (rg_bool (rg_m (rg_b rfl : Rg (1) (1) ((1 : Int32))) (by decide))) ?_
        exact s_some ⟨rfl, (rg_m (rg_b rfl : Rg (1) (1) ((1 : Int32))) (by decide))⟩
      · have _ := c_8
        have i_f_10 : Rg (0) (5) ((hI h r_5 x1.toNatClampNeg)) := rg_nhi c_8 (thI T q_r_5 (k := 41) rfl : Rg (0) (6) ((hI h r_5 x1.toNatClampNeg))) (rg_b rfl : Rg (6) (6) ((6 : Int32)))
        refine s_gd (rg_bool (rg_m (rg_b rfl : Rg (0) (0) ((0 : Int32))) (by decide))) ?_
        exact s_some ⟨rfl, (rg_m (rg_b rfl : Rg (0) (0) ((0 : Int32))) (by decide))⟩
    · have _ := c_6
      have i_f_11 : Rg (2) (2) ((hI h x0 6)) := rg_nlo c_6 i_f_5 (rg_b rfl : Rg (1) (1) ((1 : Int32)))
      obtain ⟨r_9, e_r_9, q_r_9⟩ := thR T r_x0 (k := 5) (i := 0) (k2 := 6) rfl (by decide)
      refine s_ref e_r_9 ?_
      obtain ⟨r_10, e_r_10, q_r_10⟩ := thR T r_x0 (k := 5) (i := 1) (k2 := 39) rfl (by decide)
      refine s_ref e_r_10 ?_
      refine s_gd (by rw [thN T q_r_10 (k := 39) (n := 9) rfl (by decide)]; exact rg_inB i_x1 (by decide)) ?_
      obtain ⟨r_12, e_r_12, q_r_12⟩ := thE T q_r_10 (k := 39) (n := 9) (k2 := 4) (b := 8) ((rg_m i_x1 (by decide)) : Rg (0) (8) (x1)) (by decide) (by decide) (by decide)
      refine s_ref e_r_12 ?_
      obtain ⟨r_13, e_r_13, q_r_13⟩ := thR T r_x0 (k := 5) (i := 3) (k2 := 41) rfl (by decide)
      refine s_ref e_r_13 ?_
      refine s_gd (by rw [thN T q_r_13 (k := 41) (n := 9) rfl (by decide)]; exact rg_inB i_x1 (by decide)) ?_
      refine s_cI0 (zX5_winnerOf hF T q_r_9 q_r_12 (thI T q_r_13 (k := 41) rfl : Rg (0) (6) ((hI h r_13 x1.toNatClampNeg)))) (fun o_15 e_o_15 i_o_15 => ?_)
      have T_12 := th_eq e_o_15 T
      refine s_ref (hr_e e_o_15 e_r_10) ?_
      refine s_gd (by rw [thN T_12 q_r_10 (k := 39) (n := 9) rfl (by decide)]; exact rg_inB i_x1 (by decide)) ?_
      refine s_ref (hr_e e_o_15 e_r_12) ?_
      refine s_br (fun c_13 => ?_) (fun c_13 => ?_)
      · have _ := c_13
        have i_f_14 : Rg (0) (1) (o_15.1) := rg_eq c_13 (rg_sub (rg_b rfl : Rg (1) (1) ((1 : Int32))) (thI T_12 q_r_12 (k := 4) (i := 5) rfl : Rg (0) (1) ((hI o_15.2 r_12 5))) (by decide) : Rg (0) (1) (((1 : Int32) - (hI o_15.2 r_12 5))))
        refine s_gd (rg_bool (rg_m (rg_b rfl : Rg (1) (1) ((1 : Int32))) (by decide))) ?_
        exact s_some ⟨(e_o_15.trans rfl), (rg_m (rg_b rfl : Rg (1) (1) ((1 : Int32))) (by decide))⟩
      · have _ := c_13
        refine s_gd (rg_bool (rg_m (rg_b rfl : Rg (0) (0) ((0 : Int32))) (by decide))) ?_
        exact s_some ⟨(e_o_15.trans rfl), (rg_m (rg_b rfl : Rg (0) (0) ((0 : Int32))) (by decide))⟩
set_option maxRecDepth 20000 in
theorem zX4_refutesOf {ρ : Nat → Nat} {c : Cm} {F : Nat} (hF : 700000 ≤ F) {h : Hp} {x0 : Nat} {x1 : Int32} (T : TH ρ c h) (r_x0 : ρ x0 = 5) (i_x1 : Rg (-2147483648) (2147483647) (x1)) : Sat (sX4_refutesOf h x0 x1) (ZI0 h (-2147483648) (2147483647)) := by
  unfold sX4_refutesOf sX4_refutesOf_21 sX4_refutesOf_22
  refine s_br (fun c_1 => ?_) (fun c_1 => ?_)
  · have _ := c_1
    have i_f_2 : Rg (-2147483648) (-1) (x1) := rg_lt1 c_1 i_x1 (rg_b rfl : Rg (0) (0) (0 : Int32))
    exact s_some ⟨rfl, (rg_m (rg_b rfl : Rg (-1) (-1) ((- 1 : Int32))) (by decide))⟩
  · have _ := c_1
    have i_f_3 : Rg (0) (2147483647) (x1) := rg_le2 (nlt_le c_1) (rg_b rfl : Rg (0) (0) (0 : Int32)) i_x1
    refine s_br (fun c_4 => ?_) (fun c_4 => ?_)
    · have _ := c_4
      exact s_some ⟨rfl, (rg_m (rg_b rfl : Rg (-1) (-1) ((- 1 : Int32))) (by decide))⟩
    · have _ := c_4
      have i_f_5 : Rg (0) (4095) (x1) := rg_lt1 (nle_lt c_4) i_f_3 (thI T r_x0 (k := 5) (i := 15) rfl : Rg (0) (4096) ((hI h x0 15)))
      have i_f_6 : Rg (1) (4096) ((hI h x0 15)) := rg_lt2 (nle_lt c_4) i_f_3 (thI T r_x0 (k := 5) (i := 15) rfl : Rg (0) (4096) ((hI h x0 15)))
      obtain ⟨r_3, e_r_3, q_r_3⟩ := thR T r_x0 (k := 5) (i := 13) (k2 := 46) rfl (by decide)
      refine s_ref e_r_3 ?_
      refine s_gd (by rw [thN T q_r_3 (k := 46) (n := 4096) rfl (by decide)]; exact rg_inB i_f_5 (by decide)) ?_
      exact s_some ⟨rfl, (thI T q_r_3 (k := 46) rfl : Rg (-2147483648) (2147483647) ((hI h r_3 x1.toNatClampNeg)))⟩
set_option maxRecDepth 20000 in
theorem zX11_refutes {ρ : Nat → Nat} {c : Cm} {F : Nat} (hF : 700000 ≤ F) {h : Hp} {x0 : Nat} {x1 : Int32} (T : TH ρ c h) (r_x0 : ρ x0 = 12) (i_x1 : Rg (-2147483648) (2147483647) (x1)) : Sat (sX11_refutes h x0 x1) (ZI0 h (-2147483648) (2147483647)) := by
  unfold sX11_refutes 
  obtain ⟨r_1, e_r_1, q_r_1⟩ := thR T r_x0 (k := 12) (i := 11) (k2 := 5) rfl (by decide)
  refine s_ref e_r_1 ?_
  refine s_cI0 (zX4_refutesOf hF T q_r_1 i_x1) (fun o_2 e_o_2 i_o_2 => ?_)
  have T_1 := th_eq e_o_2 T
  exact s_some ⟨(e_o_2.trans rfl), i_o_2⟩
set_option maxRecDepth 20000 in
theorem zX2_faultPlace {ρ : Nat → Nat} {c : Cm} {F : Nat} (hF : 700000 ≤ F) {h : Hp} {x0 : Nat} (T : TH ρ c h) (r_x0 : ρ x0 = 3) : Sat (sX2_faultPlace h x0) (ZI0 h (0) (1201)) := by
  unfold sX2_faultPlace 
  exact s_some ⟨rfl, (thI T r_x0 (k := 3) (i := 2) rfl : Rg (0) (1201) (hI h x0 2))⟩
set_option maxRecDepth 20000 in
theorem zX1_clear {ρ : Nat → Nat} {c : Cm} {F : Nat} {w_x0 : Nat} (hF : 700000 ≤ F) (hO_x0 : pmO c w_x0 [(29, 999), (31, 999), (2, 0), (2, 1), (2, 2), (2, 3), (2, 4), (2, 5), (2, 6), (2, 7), (2, 8), (2, 9), (2, 10), (2, 11), (2, 12), (2, 13)]) {h : Hp} {x0 : Nat} (o_x0 : cw c x0 = w_x0) (T : TH ρ c h) (r_x0 : ρ x0 = 2) : Sat (sX1_clear F h x0) (ZV ρ c) := by
  unfold sX1_clear 
  refine s_hq (th_wI T r_x0 (k := 2) (lo := (0)) (hi := (4095)) rfl ((rg_m (rg_b rfl : Rg (0) (0) ((0 : Int32))) (by decide)) : Rg (0) (4095) ((0 : Int32))) (by decide) (by decide) (pm_o hO_x0 o_x0 rfl)) (fun h_1 T_1 w_2 => ?_)
  refine s_hq (th_wI T_1 r_x0 (k := 2) (lo := (0)) (hi := (4095)) rfl ((rg_m (rg_b rfl : Rg (0) (0) ((0 : Int32))) (by decide)) : Rg (0) (4095) ((0 : Int32))) (by decide) (by decide) (pm_o hO_x0 o_x0 rfl)) (fun h_2 T_3 w_4 => ?_)
  refine s_hq (th_wI T_3 r_x0 (k := 2) (lo := (0)) (hi := (15)) rfl ((rg_m (rg_b rfl : Rg (0) (0) ((0 : Int32))) (by decide)) : Rg (0) (15) ((0 : Int32))) (by decide) (by decide) (pm_o hO_x0 o_x0 rfl)) (fun h_3 T_5 w_6 => ?_)
  refine s_hq (th_wI T_5 r_x0 (k := 2) (lo := (0)) (hi := (2)) rfl ((rg_m (rg_b rfl : Rg (0) (0) ((0 : Int32))) (by decide)) : Rg (0) (2) ((0 : Int32))) (by decide) (by decide) (pm_o hO_x0 o_x0 rfl)) (fun h_4 T_7 w_8 => ?_)
  refine s_hq (th_wI T_7 r_x0 (k := 2) (lo := (0)) (hi := (2)) rfl ((rg_m (rg_b rfl : Rg (0) (0) ((0 : Int32))) (by decide)) : Rg (0) (2) ((0 : Int32))) (by decide) (by decide) (pm_o hO_x0 o_x0 rfl)) (fun h_5 T_9 w_10 => ?_)
  refine s_hq (th_wI T_9 r_x0 (k := 2) (lo := (0)) (hi := (9)) rfl ((rg_m (rg_b rfl : Rg (0) (0) ((0 : Int32))) (by decide)) : Rg (0) (9) ((0 : Int32))) (by decide) (by decide) (pm_o hO_x0 o_x0 rfl)) (fun h_6 T_11 w_12 => ?_)
  refine s_hq (th_wI T_11 r_x0 (k := 2) (lo := (0)) (hi := (12)) rfl ((rg_m (rg_b rfl : Rg (0) (0) ((0 : Int32))) (by decide)) : Rg (0) (12) ((0 : Int32))) (by decide) (by decide) (pm_o hO_x0 o_x0 rfl)) (fun h_7 T_13 w_14 => ?_)
  refine s_hq (th_wI T_13 r_x0 (k := 2) (lo := (0)) (hi := (64)) rfl ((rg_m (rg_b rfl : Rg (0) (0) ((0 : Int32))) (by decide)) : Rg (0) (64) ((0 : Int32))) (by decide) (by decide) (pm_o hO_x0 o_x0 rfl)) (fun h_8 T_15 w_16 => ?_)
  refine s_hq (th_wI T_15 r_x0 (k := 2) (lo := (0)) (hi := (8)) rfl ((rg_m (rg_b rfl : Rg (0) (0) ((0 : Int32))) (by decide)) : Rg (0) (8) ((0 : Int32))) (by decide) (by decide) (pm_o hO_x0 o_x0 rfl)) (fun h_9 T_17 w_18 => ?_)
  refine s_hq (th_wI T_17 r_x0 (k := 2) (lo := (0)) (hi := (8)) rfl ((rg_m (rg_b rfl : Rg (0) (0) ((0 : Int32))) (by decide)) : Rg (0) (8) ((0 : Int32))) (by decide) (by decide) (pm_o hO_x0 o_x0 rfl)) (fun h_10 T_19 w_20 => ?_)
  refine s_hq (th_wI T_19 r_x0 (k := 2) (lo := (-1)) (hi := (11)) rfl ((rg_m (rg_b rfl : Rg (-1) (-1) ((- 1 : Int32))) (by decide)) : Rg (-1) (11) ((- 1 : Int32))) (by decide) (by decide) (pm_o hO_x0 o_x0 rfl)) (fun h_11 T_21 w_22 => ?_)
  refine s_hq (th_wI T_21 r_x0 (k := 2) (lo := (-1)) (hi := (11)) rfl ((rg_m (rg_b rfl : Rg (-1) (-1) ((- 1 : Int32))) (by decide)) : Rg (-1) (11) ((- 1 : Int32))) (by decide) (by decide) (pm_o hO_x0 o_x0 rfl)) (fun h_12 T_23 w_24 => ?_)
  refine s_hq (th_wI T_23 r_x0 (k := 2) (lo := (-1)) (hi := (11)) rfl ((rg_m (rg_b rfl : Rg (-1) (-1) ((- 1 : Int32))) (by decide)) : Rg (-1) (11) ((- 1 : Int32))) (by decide) (by decide) (pm_o hO_x0 o_x0 rfl)) (fun h_13 T_25 w_26 => ?_)
  refine s_hq (th_wJ T_25 r_x0 (k := 2) (by decide) (pm_o hO_x0 o_x0 rfl)) (fun h_14 T_27 w_28 => ?_)
  obtain ⟨r_15, e_r_15, q_r_15⟩ := thR T_27 r_x0 (k := 2) (i := 16) (k2 := 29) rfl (by decide)
  refine s_ref e_r_15 ?_
  refine s_cV (zJ7_fill_53178 hF T_27 q_r_15 (k := 29) (n := 12) (lo := (0)) (hi := (8)) (rg_m (rg_b rfl : Rg (0) (0) ((0 : Int32))) (by decide)) (fun _ => rfl) rfl (by decide) (by decide) (by decide) (by decide) (fun _ => (pm_o hO_x0 (th_ih T_27 r_x0 (k := 2) rfl e_r_15 o_x0) rfl))) (fun o_16 T_29 => ?_)
  obtain ⟨r_17, e_r_17, q_r_17⟩ := thR T_29 r_x0 (k := 2) (i := 18) (k2 := 31) rfl (by decide)
  refine s_ref e_r_17 ?_
  refine s_cV (zJ7_fill_53178 hF T_29 q_r_17 (k := 31) (n := 12) (lo := (0)) (hi := (6)) (rg_m (rg_b rfl : Rg (0) (0) ((0 : Int32))) (by decide)) (fun _ => rfl) rfl (by decide) (by decide) (by decide) (by decide) (fun _ => (pm_o hO_x0 (th_ih T_29 r_x0 (k := 2) rfl e_r_17 o_x0) rfl))) (fun o_18 T_30 => ?_)
  exact s_some (T_30)
set_option maxRecDepth 20000 in
theorem zX2_isLetter {ρ : Nat → Nat} {c : Cm} {F : Nat} (hF : 700000 ≤ F) {h : Hp} {x0 : Int32} (T : TH ρ c h) (i_x0 : Rg (-1) (255) (x0)) : Sat (sX2_isLetter h x0) (ZI0 h (0) (1)) := by
  unfold sX2_isLetter sX2_isLetter_16 sX2_isLetter_17
  refine s_br (fun c_1 => ?_) (fun c_1 => ?_)
  · have _ := c_1
    have i_f_2 : Rg (-1) (96) (x0) := rg_lt1 c_1 i_x0 (rg_b rfl : Rg (97) (97) ((97 : Int32)))
    refine s_gd (rg_bool (rg_m (rg_b rfl : Rg (0) (0) ((0 : Int32))) (by decide))) ?_
    exact s_some ⟨rfl, (rg_m (rg_b rfl : Rg (0) (0) ((0 : Int32))) (by decide))⟩
  · have _ := c_1
    have i_f_3 : Rg (97) (255) (x0) := rg_le2 (nlt_le c_1) (rg_b rfl : Rg (97) (97) ((97 : Int32))) i_x0
    refine s_br (fun c_4 => ?_) (fun c_4 => ?_)
    · have _ := c_4
      have i_f_5 : Rg (123) (255) (x0) := rg_lt2 c_4 (rg_b rfl : Rg (122) (122) ((122 : Int32))) i_f_3
      refine s_gd (rg_bool (rg_m (rg_b rfl : Rg (0) (0) ((0 : Int32))) (by decide))) ?_
      exact s_some ⟨rfl, (rg_m (rg_b rfl : Rg (0) (0) ((0 : Int32))) (by decide))⟩
    · have _ := c_4
      have i_f_6 : Rg (97) (122) (x0) := rg_le1 (nlt_le c_4) i_f_3 (rg_b rfl : Rg (122) (122) ((122 : Int32)))
      refine s_gd (rg_bool (rg_m (rg_b rfl : Rg (1) (1) ((1 : Int32))) (by decide))) ?_
      exact s_some ⟨rfl, (rg_m (rg_b rfl : Rg (1) (1) ((1 : Int32))) (by decide))⟩
set_option maxRecDepth 20000 in
theorem zX2_isWord_28 {ρ : Nat → Nat} {c : Cm} {h0 : Hp} {F : Nat} (hF : 700000 ≤ F) (m1 : c.2.1 1 = true) : ∀ (f : Nat) {h : Hp} {x0 : Nat} {x1 : Nat} {x2 : Int32}, h = h0 → TH ρ c h → ρ x0 = 3 → Rg (0) (231) (x2) → (231 - x2.toInt).toNat < f → Sat (sX2_isWord_28 F f h x0 x1 x2) (ZI0 h0 (0) (1)) := by
  intro f
  induction f with
  | zero => intros; omega
  | succ f ih =>
    intro h x0 x1 x2 E T r_x0 i_x2 hm
    rw [sX2_isWord_28]
    obtain ⟨C_28, hC_28⟩ : ∃ C : Int, C = x2.toInt := ⟨_, rfl⟩
    have hk_28 : ∀ {h : Hp} {x0 : Nat} {x1 : Nat} {x2 : Int32}, h = h0 → TH ρ c h → ρ x0 = 3 → Rg (0) (231) (x2) → C_28 < x2.toInt → Sat (sX2_isWord_28 F f h x0 x1 x2) (ZI0 h0 (0) (1)) := by
      intro h' x0' x1' x2' E' T' r_x0' i_x2' hl
      exact ih E' T' r_x0' i_x2' (by have := i_x2'.1; have := i_x2'.2; omega)
    have hc_28 : C_28 ≤ x2.toInt := by omega
    refine s_br (fun c_1 => ?_) (fun c_1 => ?_)
    · have _ := c_1
      exact s_some ⟨E, (rg_m (rg_b rfl : Rg (1) (1) ((1 : Int32))) (by decide))⟩
    · have _ := c_1
      have i_f_2 : Rg (0) (230) (x2) := rg_lt1 (nle_lt c_1) i_x2 (rg_lB _ : Rg (0) (231) ((nI (lB x1).length)))
      have i_f_3 : Rg (1) (231) ((nI (lB x1).length)) := rg_lt2 (nle_lt c_1) i_x2 (rg_lB _ : Rg (0) (231) ((nI (lB x1).length)))
      obtain ⟨r_2, e_r_2, q_r_2⟩ := thM T r_x0 (k := 3) (i := 0) (j := 1) (k2 := 10) rfl (by decide) rfl (by decide) m1
      refine s_ref e_r_2 ?_
      refine s_cP0 (zX9_byteAt hF T q_r_2 (rg_m (rg_add (thI T r_x0 (k := 3) (i := 2) rfl : Rg (0) (1201) ((hI h x0 2))) i_f_2 (by decide) : Rg (0) (1431) (((hI h x0 2) + x2))) (by decide))) (fun o_3 e_o_3 i_o_3 p_o_3 => ?_)
      have T_4 := th_eq e_o_3 T
      refine s_gd (rg_inBl i_f_2 (by decide) (lB_lt2 _) c_1) ?_
      refine s_br (fun c_5 => ?_) (fun c_5 => ?_)
      · have _ := c_5
        have i_f_6 : Rg (0) (255) (o_3.1) := rg_eq c_5 (rg_schr _ _ : Rg (0) (255) ((schr x1 x2)))
        have p_f_7 := p_o_3 (fun q => rc_eq q i_f_6 (rg_b rfl : Rg (-1) (-1) (-1 : Int32)) (by decide))
        refine s_q (fun v_6 e_8 => ?_)
        have i_v_6 : Rg (1) (231) (v_6) := by rw [e_8]; exact (rg_add i_f_2 (rg_b rfl : Rg (1) (1) ((1 : Int32))) (by decide) : Rg (1) (231) (x2 + (1 : Int32)))
        have m_9 : (v_6).toInt = x2.toInt + 1 := by rw [e_8]; exact rg_inc i_f_2 (by decide)
        exact hk_28 (e_o_3.trans E) T_4 r_x0 (rg_m i_v_6 (by decide)) (by have := hc_28; omega)
      · have _ := c_5
        exact s_some ⟨(e_o_3.trans E), (rg_m (rg_b rfl : Rg (0) (0) ((0 : Int32))) (by decide))⟩
set_option maxRecDepth 20000 in
theorem zX2_isWord {ρ : Nat → Nat} {c : Cm} {F : Nat} (hF : 700000 ≤ F) (m1 : c.2.1 1 = true) {h : Hp} {x0 : Nat} {x1 : Nat} (T : TH ρ c h) (r_x0 : ρ x0 = 3) : Sat (sX2_isWord F h x0 x1) (ZI0 h (0) (1)) := by
  unfold sX2_isWord sX2_isWord_24
  refine s_br (fun c_1 => ?_) (fun c_1 => ?_)
  · have _ := c_1
    have i_f_2 : Rg (1) (1) ((hI h x0 4)) := rg_eq c_1 (rg_b rfl : Rg (1) (1) ((1 : Int32)))
    refine s_br (fun c_3 => ?_) (fun c_3 => ?_)
    · have _ := c_3
      have i_f_4 : Rg (0) (231) (((hI h x0 3) - (hI h x0 2))) := rg_eq c_3 (rg_lB _ : Rg (0) (231) ((nI (lB x1).length)))
      have m_5 : Rg (0) (231) ((0 : Int32)) := (rg_m (rg_b rfl : Rg (0) (0) ((0 : Int32))) (by decide))
      exact zX2_isWord_28 hF m1 F rfl T r_x0 (rg_m (rg_b rfl : Rg (0) (0) ((0 : Int32))) (by decide)) (by have := m_5.1; have := m_5.2; omega)
    · have _ := c_3
      exact s_some ⟨rfl, (rg_m (rg_b rfl : Rg (0) (0) ((0 : Int32))) (by decide))⟩
  · have _ := c_1
    exact s_some ⟨rfl, (rg_m (rg_b rfl : Rg (0) (0) ((0 : Int32))) (by decide))⟩
set_option maxRecDepth 20000 in
theorem zX2_oneLetter {ρ : Nat → Nat} {c : Cm} {F : Nat} (hF : 700000 ≤ F) (m1 : c.2.1 1 = true) {h : Hp} {x0 : Nat} (T : TH ρ c h) (r_x0 : ρ x0 = 3) : Sat (sX2_oneLetter h x0) (ZI0 h (-1) (255)) := by
  unfold sX2_oneLetter sX2_oneLetter_36 sX2_oneLetter_35
  refine s_br (fun c_1 => ?_) (fun c_1 => ?_)
  · have _ := c_1
    have i_f_2 : Rg (1) (1) ((hI h x0 4)) := rg_eq c_1 (rg_b rfl : Rg (1) (1) ((1 : Int32)))
    refine s_br (fun c_3 => ?_) (fun c_3 => ?_)
    · have _ := c_3
      have i_f_4 : Rg (1) (1) (((hI h x0 3) - (hI h x0 2))) := rg_eq c_3 (rg_b rfl : Rg (1) (1) ((1 : Int32)))
      obtain ⟨r_3, e_r_3, q_r_3⟩ := thM T r_x0 (k := 3) (i := 0) (j := 1) (k2 := 10) rfl (by decide) rfl (by decide) m1
      refine s_ref e_r_3 ?_
      refine s_cP0 (zX9_byteAt hF T q_r_3 (rg_m (thI T r_x0 (k := 3) (i := 2) rfl : Rg (0) (1201) ((hI h x0 2))) (by decide))) (fun o_4 e_o_4 i_o_4 p_o_4 => ?_)
      have T_5 := th_eq e_o_4 T
      exact s_some ⟨(e_o_4.trans rfl), i_o_4⟩
    · have _ := c_3
      exact s_some ⟨rfl, (rg_m (rg_b rfl : Rg (-1) (-1) ((- 1 : Int32))) (by decide))⟩
  · have _ := c_1
    exact s_some ⟨rfl, (rg_m (rg_b rfl : Rg (-1) (-1) ((- 1 : Int32))) (by decide))⟩
set_option maxRecDepth 20000 in
theorem zX2_toldMan {ρ : Nat → Nat} {c : Cm} {F : Nat} (hF : 700000 ≤ F) (m1 : c.2.1 1 = true) (m2 : c.2.1 2 = true) {h : Hp} {x0 : Nat} (T : TH ρ c h) (r_x0 : ρ x0 = 3) : Sat (sX2_toldMan F h x0) (ZI0 h (-1) (11)) := by
  unfold sX2_toldMan sX2_toldMan_22
  refine s_cI0 (zX2_oneLetter hF m1 T r_x0) (fun o_1 e_o_1 i_o_1 => ?_)
  have T_1 := th_eq e_o_1 T
  refine s_br (fun c_2 => ?_) (fun c_2 => ?_)
  · have _ := c_2
    have i_f_3 : Rg (-1) (-1) (o_1.1) := rg_eq c_2 (rg_b rfl : Rg (-1) (-1) ((- 1 : Int32)))
    exact s_some ⟨(e_o_1.trans rfl), (rg_m (rg_b rfl : Rg (-1) (-1) ((- 1 : Int32))) (by decide))⟩
  · have _ := c_2
    have i_f_4 : Rg (0) (255) (o_1.1) := rg_nlo c_2 i_o_1 (rg_b rfl : Rg (-1) (-1) ((- 1 : Int32)))
    obtain ⟨r_3, e_r_3, q_r_3⟩ := thM T_1 r_x0 (k := 3) (i := 1) (j := 2) (k2 := 2) rfl (by decide) rfl (by decide) m2
    refine s_ref e_r_3 ?_
    refine s_cI0 (zX1_manOf hF T_1 q_r_3 (rg_m i_f_4 (by decide))) (fun o_4 e_o_4 i_o_4 => ?_)
    have T_5 := th_eq e_o_4 T_1
    exact s_some ⟨(e_o_4.trans (e_o_1.trans rfl)), i_o_4⟩
set_option maxRecDepth 20000 in
theorem zX2_takeBecomes_178 {ρ : Nat → Nat} {c : Cm} {F : Nat} (hF : 700000 ≤ F) (m2 : c.2.1 2 = true) (hA : pmA c [(2, 5), (2, 12)]) {h : Hp} {x0 : Nat} {x1 : Int32} {x2 : Int32} (T : TH ρ c h) (r_x0 : ρ x0 = 3) (i_x1 : Rg (0) (11) (x1)) (i_x2 : Rg (0) (4095) (x2)) : Sat (sX2_takeBecomes_178 F h x0 x1 x2) (ZI ρ c (0) (1)) := by
  unfold sX2_takeBecomes_178 sX2_takeBecomes_217
  obtain ⟨r_1, e_r_1, q_r_1⟩ := thM T r_x0 (k := 3) (i := 1) (j := 2) (k2 := 2) rfl (by decide) rfl (by decide) m2
  refine s_ref e_r_1 ?_
  refine s_hq (th_wI T q_r_1 (k := 2) (lo := (0)) (hi := (4095)) rfl ((rg_or (n := 12) (rg_m (thI T q_r_1 (k := 2) (i := 12) rfl : Rg (0) (4095) ((hI h r_1 12))) (by decide) : Rg (0) (4095) ((hI h r_1 12))) (rg_m i_x2 (by decide) : Rg (0) (4095) (x2)) (by decide) : Rg (0) (4095) (((hI h r_1 12) ||| x2))) : Rg (0) (4095) (((hI h r_1 12) ||| x2))) (by decide) (by decide) (pm_a hA rfl)) (fun h_2 T_1 w_2 => ?_)
  refine s_ref (hr_w w_2 e_r_1) ?_
  refine s_ref (hr_w w_2 e_r_1) ?_
  refine s_br (fun c_3 => ?_) (fun c_3 => ?_)
  · have _ := c_3
    have i_f_4 : Rg (-1) (-1) ((hI h_2 r_1 5)) := rg_eq c_3 (rg_b rfl : Rg (-1) (-1) ((- 1 : Int32)))
    refine s_hq (th_wI T_1 q_r_1 (k := 2) (lo := (-1)) (hi := (11)) rfl ((rg_m i_x1 (by decide)) : Rg (-1) (11) (x1)) (by decide) (by decide) (pm_a hA rfl)) (fun h_1q1 T_5 w_6 => ?_)
    exact s_some ⟨(T_5), (rg_m (rg_b rfl : Rg (1) (1) ((1 : Int32))) (by decide))⟩
  · have _ := c_3
    have i_f_7 : Rg (0) (11) ((hI h_2 r_1 5)) := rg_nlo c_3 (thI T_1 q_r_1 (k := 2) (i := 5) rfl : Rg (-1) (11) ((hI h_2 r_1 5))) (rg_b rfl : Rg (-1) (-1) ((- 1 : Int32)))
    refine s_ref (hr_w w_2 e_r_1) ?_
    refine s_hq (th_wI T_1 q_r_1 (k := 2) (lo := (-1)) (hi := (11)) rfl ((rg_m i_f_7 (by decide)) : Rg (-1) (11) ((hI h_2 r_1 5))) (by decide) (by decide) (pm_a hA rfl)) (fun h_1q2 T_8 w_9 => ?_)
    exact s_some ⟨(T_8), (rg_m (rg_b rfl : Rg (1) (1) ((1 : Int32))) (by decide))⟩
set_option maxRecDepth 20000 in
theorem zX2_takeBecomes_78 {ρ : Nat → Nat} {c : Cm} {F : Nat} (hF : 700000 ≤ F) (m1 : c.2.1 1 = true) (m2 : c.2.1 2 = true) {k_60 : Hp → Nat → Int32 → Int32 → Int32 → Option (Int32 × Hp)} {C_60 : Int} (hk_60 : ∀ {h : Hp} {x0 : Nat} {x1 : Int32} {x2 : Int32} {x3 : Int32}, TH ρ c h → ρ x0 = 3 → Rg (0) (11) (x1) → Rg (0) (4095) (x2) → Rg (0) (6) (x3) → C_60 < x3.toInt → Sat (k_60 h x0 x1 x2 x3) (ZI ρ c (0) (1))) (hA : pmA c [(30, 999), (31, 999), (3, 2), (3, 3), (3, 4), (3, 5)]) {h : Hp} {x0 : Nat} {x1 : Int32} {x2 : Int32} {x3 : Int32} (T : TH ρ c h) (r_x0 : ρ x0 = 3) (i_x1 : Rg (0) (11) (x1)) (i_x2 : Rg (0) (4095) (x2)) (i_x3 : Rg (0) (5) (x3)) (hc_60 : C_60 ≤ x3.toInt) : Sat (sX2_takeBecomes_78 F k_60 h x0 x1 x2 x3) (ZI ρ c (0) (1)) := by
  unfold sX2_takeBecomes_78 sX2_takeBecomes_108 sX2_takeBecomes_131
  refine s_cI0 (zX2_toldMan hF m1 m2 T r_x0) (fun o_1 e_o_1 i_o_1 => ?_)
  have T_1 := th_eq e_o_1 T
  refine s_br (fun c_2 => ?_) (fun c_2 => ?_)
  · have _ := c_2
    have i_f_3 : Rg (-1) (-1) (o_1.1) := rg_eq c_2 (rg_b rfl : Rg (-1) (-1) ((- 1 : Int32)))
    exact s_some ⟨(T_1), (rg_m (rg_b rfl : Rg (0) (0) ((0 : Int32))) (by decide))⟩
  · have _ := c_2
    have i_f_4 : Rg (0) (11) (o_1.1) := rg_nlo c_2 i_o_1 (rg_b rfl : Rg (-1) (-1) ((- 1 : Int32)))
    refine s_br (fun c_5 => ?_) (fun c_5 => ?_)
    · have _ := c_5
      exact s_some ⟨(T_1), (rg_m (rg_b rfl : Rg (0) (0) ((0 : Int32))) (by decide))⟩
    · have _ := c_5
      obtain ⟨r_4, e_r_4, q_r_4⟩ := thM T_1 r_x0 (k := 3) (i := 1) (j := 2) (k2 := 2) rfl (by decide) rfl (by decide) m2
      refine s_ref e_r_4 ?_
      refine s_br (fun c_6 => ?_) (fun c_6 => ?_)
      · have _ := c_6
        have i_f_7 : Rg (0) (11) ((hI o_1.2 r_4 4)) := rg_eq c_6.symm i_f_4
        exact s_some ⟨(T_1), (rg_m (rg_b rfl : Rg (0) (0) ((0 : Int32))) (by decide))⟩
      · have _ := c_6
        refine s_ref e_r_4 ?_
        refine s_cI0 (zX1_becomesOthers hF T_1 q_r_4 (rg_m i_f_4 (by decide))) (fun o_7 e_o_7 i_o_7 => ?_)
        have T_8 := th_eq e_o_7 T_1
        refine s_br (fun c_9 => ?_) (fun c_9 => ?_)
        · have _ := c_9
          have i_f_10 : Rg (0) (0) (o_7.1) := rg_eq c_9 (rg_b rfl : Rg (0) (0) (0 : Int32))
          refine s_br (fun c_11 => ?_) (fun c_11 => ?_)
          · have _ := c_11
            have i_f_12 : Rg (0) (0) (((x2 >>> (o_1.1 &&& 31)) &&& (1 : Int32))) := rg_eq c_11 (rg_b rfl : Rg (0) (0) (0 : Int32))
            refine s_q (fun v_10 e_13 => ?_)
            have i_v_10 : Rg (0) (4095) (v_10) := by rw [e_13]; exact (rg_or (n := 12) (rg_m i_x2 (by decide) : Rg (0) (4095) (x2)) (rg_m (rg_shl (n := 11) (rg_m (rg_b rfl : Rg (1) (1) ((1 : Int32))) (by decide) : Rg (0) (1) ((1 : Int32))) (rg_m i_f_4 (by decide) : Rg (0) (11) (o_1.1)) (by decide) : Rg (0) (2048) (((1 : Int32) <<< (o_1.1 &&& 31)))) (by decide) : Rg (0) (2048) (((1 : Int32) <<< (o_1.1 &&& 31)))) (by decide) : Rg (0) (4095) (x2 ||| ((1 : Int32) <<< (o_1.1 &&& 31))))
            refine s_ref (hr_e e_o_7 e_r_4) ?_
            obtain ⟨r_12, e_r_12, q_r_12⟩ := thR T_8 q_r_4 (k := 2) (i := 17) (k2 := 30) rfl (by decide)
            refine s_ref e_r_12 ?_
            refine s_gd (by rw [thN T_8 q_r_12 (k := 30) (n := 72) rfl (by decide)]; exact rg_inB (rg_add (rg_mulc i_x1 (rg_b rfl : Rg (6) (6) ((6 : Int32))) (by decide) : Rg (0) (66) ((x1 * (6 : Int32)))) i_x3 (by decide) : Rg (0) (71) (((x1 * (6 : Int32)) + x3))) (by decide)) ?_
            refine s_hq (th_wI T_8 q_r_12 (k := 30) (lo := (0)) (hi := (11)) rfl (i_f_4 : Rg (0) (11) (o_1.1)) (by decide) (by decide) (pm_a hA rfl)) (fun h_14 T_14 w_15 => ?_)
            refine s_ref (hr_w w_15 (hr_e e_o_7 e_r_4)) ?_
            obtain ⟨r_16, e_r_16, q_r_16⟩ := thR T_14 q_r_4 (k := 2) (i := 18) (k2 := 31) rfl (by decide)
            refine s_ref e_r_16 ?_
            refine s_gd (by rw [thN T_14 q_r_16 (k := 31) (n := 12) rfl (by decide)]; exact rg_inB i_x1 (by decide)) ?_
            refine s_hq (th_wI T_14 q_r_16 (k := 31) (lo := (0)) (hi := (6)) rfl ((rg_m (rg_add i_x3 (rg_b rfl : Rg (1) (1) ((1 : Int32))) (by decide) : Rg (1) (6) ((x3 + (1 : Int32)))) (by decide)) : Rg (0) (6) ((x3 + (1 : Int32)))) (by decide) (by decide) (pm_a hA rfl)) (fun h_18 T_16 w_17 => ?_)
            refine s_cV (zX2_advance hF m1 (pmA_s hA rfl) T_16 r_x0) (fun o_19 T_18 => ?_)
            refine s_q (fun v_20 e_19 => ?_)
            have i_v_20 : Rg (1) (6) (v_20) := by rw [e_19]; exact (rg_add i_x3 (rg_b rfl : Rg (1) (1) ((1 : Int32))) (by decide) : Rg (1) (6) (x3 + (1 : Int32)))
            have m_20 : (v_20).toInt = x3.toInt + 1 := by rw [e_19]; exact rg_inc i_x3 (by decide)
            exact hk_60 T_18 r_x0 i_x1 i_v_10 (rg_m i_v_20 (by decide)) (by have := hc_60; omega)
          · have _ := c_11
            have i_f_21 : Rg (1) (1) (((x2 >>> (o_1.1 &&& 31)) &&& (1 : Int32))) := rg_nlo c_11 (rg_and (rg_b rfl : Rg (1) (1) ((1 : Int32))) (by decide) : Rg (0) (1) (((x2 >>> (o_1.1 &&& 31)) &&& (1 : Int32)))) (rg_b rfl : Rg (0) (0) (0 : Int32))
            exact s_some ⟨(T_8), (rg_m (rg_b rfl : Rg (0) (0) ((0 : Int32))) (by decide))⟩
        · have _ := c_9
          have i_f_22 : Rg (1) (1) (o_7.1) := rg_nlo c_9 i_o_7 (rg_b rfl : Rg (0) (0) (0 : Int32))
          exact s_some ⟨(T_8), (rg_m (rg_b rfl : Rg (0) (0) ((0 : Int32))) (by decide))⟩
set_option maxRecDepth 20000 in
theorem zX2_takeBecomes_60 {ρ : Nat → Nat} {c : Cm} {F : Nat} (hF : 700000 ≤ F) (m1 : c.2.1 1 = true) (m2 : c.2.1 2 = true) (hA : pmA c [(30, 999), (31, 999), (2, 5), (2, 12), (3, 2), (3, 3), (3, 4), (3, 5)]) : ∀ (f : Nat) {h : Hp} {x0 : Nat} {x1 : Int32} {x2 : Int32} {x3 : Int32}, TH ρ c h → ρ x0 = 3 → Rg (0) (11) (x1) → Rg (0) (4095) (x2) → Rg (0) (6) (x3) → (6 - x3.toInt).toNat < f → Sat (sX2_takeBecomes_60 F f h x0 x1 x2 x3) (ZI ρ c (0) (1)) := by
  intro f
  induction f with
  | zero => intros; omega
  | succ f ih =>
    intro h x0 x1 x2 x3 T r_x0 i_x1 i_x2 i_x3 hm
    rw [sX2_takeBecomes_60]
    obtain ⟨C_60, hC_60⟩ : ∃ C : Int, C = x3.toInt := ⟨_, rfl⟩
    have hk_60 : ∀ {h : Hp} {x0 : Nat} {x1 : Int32} {x2 : Int32} {x3 : Int32}, TH ρ c h → ρ x0 = 3 → Rg (0) (11) (x1) → Rg (0) (4095) (x2) → Rg (0) (6) (x3) → C_60 < x3.toInt → Sat (sX2_takeBecomes_60 F f h x0 x1 x2 x3) (ZI ρ c (0) (1)) := by
      intro h' x0' x1' x2' x3' T' r_x0' i_x1' i_x2' i_x3' hl
      exact ih T' r_x0' i_x1' i_x2' i_x3' (by have := i_x3'.1; have := i_x3'.2; omega)
    have hc_60 : C_60 ≤ x3.toInt := by omega
    refine s_br (fun c_1 => ?_) (fun c_1 => ?_)
    · have _ := c_1
      have i_f_2 : Rg (6) (6) (x3) := rg_le2 c_1 (rg_b rfl : Rg (6) (6) ((6 : Int32))) i_x3
      exact zX2_takeBecomes_178 hF m2 (pmA_s hA rfl) T r_x0 i_x1 i_x2
    · have _ := c_1
      have i_f_3 : Rg (0) (5) (x3) := rg_lt1 (nle_lt c_1) i_x3 (rg_b rfl : Rg (6) (6) ((6 : Int32)))
      refine s_br (fun c_4 => ?_) (fun c_4 => ?_)
      · have _ := c_4
        have i_f_5 : Rg (0) (0) (x3) := rg_eq c_4 (rg_b rfl : Rg (0) (0) (0 : Int32))
        exact zX2_takeBecomes_78 hF m1 m2 @hk_60 (pmA_s hA rfl) T r_x0 i_x1 i_x2 (rg_m i_f_5 (by decide)) hc_60
      · have _ := c_4
        have i_f_6 : Rg (1) (5) (x3) := rg_nlo c_4 i_f_3 (rg_b rfl : Rg (0) (0) (0 : Int32))
        refine s_br (fun c_7 => ?_) (fun c_7 => ?_)
        · have _ := c_7
          have i_f_8 : Rg (1) (1) ((hI h x0 4)) := rg_eq c_7 (rg_b rfl : Rg (1) (1) ((1 : Int32)))
          exact zX2_takeBecomes_78 hF m1 m2 @hk_60 (pmA_s hA rfl) T r_x0 i_x1 i_x2 (rg_m i_f_6 (by decide)) hc_60
        · have _ := c_7
          exact zX2_takeBecomes_178 hF m2 (pmA_s hA rfl) T r_x0 i_x1 i_x2
set_option maxRecDepth 20000 in
theorem zX2_takeBecomes {ρ : Nat → Nat} {c : Cm} {F : Nat} (hF : 700000 ≤ F) (m1 : c.2.1 1 = true) (m2 : c.2.1 2 = true) (hA : pmA c [(30, 999), (31, 999), (2, 5), (2, 12), (3, 2), (3, 3), (3, 4), (3, 5)]) {h : Hp} {x0 : Nat} (T : TH ρ c h) (r_x0 : ρ x0 = 3) : Sat (sX2_takeBecomes F h x0) (ZI ρ c (0) (1)) := by
  unfold sX2_takeBecomes sX2_takeBecomes_50
  refine s_cV (zX2_advance hF m1 (pmA_s hA rfl) T r_x0) (fun o_1 T_1 => ?_)
  refine s_cI0 (zX2_toldMan hF m1 m2 T_1 r_x0) (fun o_2 e_o_2 i_o_2 => ?_)
  have T_2 := th_eq e_o_2 T_1
  refine s_br (fun c_3 => ?_) (fun c_3 => ?_)
  · have _ := c_3
    have i_f_4 : Rg (-1) (-1) (o_2.1) := rg_eq c_3 (rg_b rfl : Rg (-1) (-1) ((- 1 : Int32)))
    exact s_some ⟨(T_2), (rg_m (rg_b rfl : Rg (0) (0) ((0 : Int32))) (by decide))⟩
  · have _ := c_3
    have i_f_5 : Rg (0) (11) (o_2.1) := rg_nlo c_3 i_o_2 (rg_b rfl : Rg (-1) (-1) ((- 1 : Int32)))
    obtain ⟨r_4, e_r_4, q_r_4⟩ := thM T_2 r_x0 (k := 3) (i := 1) (j := 2) (k2 := 2) rfl (by decide) rfl (by decide) m2
    refine s_ref e_r_4 ?_
    refine s_br (fun c_6 => ?_) (fun c_6 => ?_)
    · have _ := c_6
      have i_f_7 : Rg (0) (11) ((hI o_2.2 r_4 4)) := rg_eq c_6.symm i_f_5
      exact s_some ⟨(T_2), (rg_m (rg_b rfl : Rg (0) (0) ((0 : Int32))) (by decide))⟩
    · have _ := c_6
      refine s_ref e_r_4 ?_
      refine s_cI0 (zX1_becomesOthers hF T_2 q_r_4 (rg_m i_f_5 (by decide))) (fun o_7 e_o_7 i_o_7 => ?_)
      have T_8 := th_eq e_o_7 T_2
      refine s_br (fun c_9 => ?_) (fun c_9 => ?_)
      · have _ := c_9
        have i_f_10 : Rg (0) (0) (o_7.1) := rg_eq c_9 (rg_b rfl : Rg (0) (0) (0 : Int32))
        refine s_ref (hr_e e_o_7 e_r_4) ?_
        refine s_br (fun c_11 => ?_) (fun c_11 => ?_)
        · have _ := c_11
          have i_f_12 : Rg (0) (0) ((((hI o_7.2 r_4 12) >>> (o_2.1 &&& 31)) &&& (1 : Int32))) := rg_eq c_11 (rg_b rfl : Rg (0) (0) (0 : Int32))
          refine s_cV (zX2_advance hF m1 (pmA_s hA rfl) T_8 r_x0) (fun o_11 T_13 => ?_)
          have m_14 : Rg (0) (6) ((0 : Int32)) := (rg_m (rg_b rfl : Rg (0) (0) ((0 : Int32))) (by decide))
          exact zX2_takeBecomes_60 hF m1 m2 (pmA_s hA rfl) F T_13 r_x0 i_f_5 (rg_m (rg_b rfl : Rg (0) (0) ((0 : Int32))) (by decide)) (rg_m (rg_b rfl : Rg (0) (0) ((0 : Int32))) (by decide)) (by have := m_14.1; have := m_14.2; omega)
        · have _ := c_11
          have i_f_15 : Rg (1) (1) ((((hI o_7.2 r_4 12) >>> (o_2.1 &&& 31)) &&& (1 : Int32))) := rg_nlo c_11 (rg_and (rg_b rfl : Rg (1) (1) ((1 : Int32))) (by decide) : Rg (0) (1) ((((hI o_7.2 r_4 12) >>> (o_2.1 &&& 31)) &&& (1 : Int32)))) (rg_b rfl : Rg (0) (0) (0 : Int32))
          exact s_some ⟨(T_8), (rg_m (rg_b rfl : Rg (0) (0) ((0 : Int32))) (by decide))⟩
      · have _ := c_9
        have i_f_16 : Rg (1) (1) (o_7.1) := rg_nlo c_9 i_o_7 (rg_b rfl : Rg (0) (0) (0 : Int32))
        exact s_some ⟨(T_8), (rg_m (rg_b rfl : Rg (0) (0) ((0 : Int32))) (by decide))⟩
set_option maxRecDepth 20000 in
theorem zX1_setBoard_28 {ρ : Nat → Nat} {c : Cm} {F : Nat} {w_x0 : Nat} (hF : 700000 ≤ F) {k_17 : Hp → Nat → Int32 → Option (Hp)} {C_17 : Int} (hk_17 : ∀ {h : Hp} {x0 : Nat} {x3 : Int32}, cw c x0 = w_x0 → TH ρ c h → ρ x0 = 2 → Rg (0) (8) (x3) → C_17 < x3.toInt → Sat (k_17 h x0 x3) (ZV ρ c)) (hO_x0 : pmO c w_x0 [(32, 999), (33, 999), (2, 2)]) : ∀ (f : Nat) {h : Hp} {x0 : Nat} {x3 : Int32} {x4 : Int32}, cw c x0 = w_x0 → TH ρ c h → ρ x0 = 2 → Rg (0) (7) (x3) → Rg (0) (8) (x4) → C_17 ≤ x3.toInt → (8 - x4.toInt).toNat < f → Sat (sX1_setBoard_28 F k_17 f h x0 x3 x4) (ZV ρ c) := by
  intro f
  induction f with
  | zero => intros; omega
  | succ f ih =>
    intro h x0 x3 x4 o_x0 T r_x0 i_x3 i_x4 hc_17 hm
    rw [sX1_setBoard_28]
    unfold sX1_setBoard_83
    obtain ⟨C_28, hC_28⟩ : ∃ C : Int, C = x4.toInt := ⟨_, rfl⟩
    have hk_28 : ∀ {h : Hp} {x0 : Nat} {x3 : Int32} {x4 : Int32}, cw c x0 = w_x0 → TH ρ c h → ρ x0 = 2 → Rg (0) (7) (x3) → Rg (0) (8) (x4) → C_17 ≤ x3.toInt → C_28 < x4.toInt → Sat (sX1_setBoard_28 F k_17 f h x0 x3 x4) (ZV ρ c) := by
      intro h' x0' x3' x4' o_x0' T' r_x0' i_x3' i_x4' hc_17' hl
      exact ih o_x0' T' r_x0' i_x3' i_x4' hc_17' (by have := i_x4'.1; have := i_x4'.2; omega)
    have hc_28 : C_28 ≤ x4.toInt := by omega
    refine s_br (fun c_1 => ?_) (fun c_1 => ?_)
    · have _ := c_1
      refine s_q (fun v_1q1 e_2 => ?_)
      have i_v_1q1 : Rg (1) (8) (v_1q1) := by rw [e_2]; exact (rg_add i_x3 (rg_b rfl : Rg (1) (1) ((1 : Int32))) (by decide) : Rg (1) (8) (x3 + (1 : Int32)))
      have m_3 : (v_1q1).toInt = x3.toInt + 1 := by rw [e_2]; exact rg_inc i_x3 (by decide)
      exact hk_17 o_x0 T r_x0 (rg_m i_v_1q1 (by decide)) (by have := hc_17; omega)
    · have _ := c_1
      have i_f_4 : Rg (0) (7) (x4) := rg_lt1 (nle_lt c_1) i_x4 (thI T r_x0 (k := 2) (i := 0) rfl : Rg (0) (8) ((hI h x0 0)))
      have i_f_5 : Rg (1) (8) ((hI h x0 0)) := rg_lt2 (nle_lt c_1) i_x4 (thI T r_x0 (k := 2) (i := 0) rfl : Rg (0) (8) ((hI h x0 0)))
      refine s_br (fun c_6 => ?_) (fun c_6 => ?_)
      · have _ := c_6
        have i_f_7 : Rg (64) (64) ((hI h x0 2)) := rg_le2 c_6 (rg_b rfl : Rg (64) (64) ((64 : Int32))) (thI T r_x0 (k := 2) (i := 2) rfl : Rg (0) (64) ((hI h x0 2)))
        refine s_q (fun v_1q2 e_8 => ?_)
        have i_v_1q2 : Rg (1) (8) (v_1q2) := by rw [e_8]; exact (rg_add i_x3 (rg_b rfl : Rg (1) (1) ((1 : Int32))) (by decide) : Rg (1) (8) (x3 + (1 : Int32)))
        have m_9 : (v_1q2).toInt = x3.toInt + 1 := by rw [e_8]; exact rg_inc i_x3 (by decide)
        exact hk_17 o_x0 T r_x0 (rg_m i_v_1q2 (by decide)) (by have := hc_17; omega)
      · have _ := c_6
        have i_f_10 : Rg (0) (63) ((hI h x0 2)) := rg_lt1 (nle_lt c_6) (thI T r_x0 (k := 2) (i := 2) rfl : Rg (0) (64) ((hI h x0 2))) (rg_b rfl : Rg (64) (64) ((64 : Int32)))
        obtain ⟨r_3, e_r_3, q_r_3⟩ := thR T r_x0 (k := 2) (i := 19) (k2 := 32) rfl (by decide)
        refine s_ref e_r_3 ?_
        refine s_gd (by rw [thN T q_r_3 (k := 32) (n := 64) rfl (by decide)]; exact rg_inB i_f_10 (by decide)) ?_
        refine s_hq (th_wI T q_r_3 (k := 32) (lo := (0)) (hi := (7)) rfl (i_f_4 : Rg (0) (7) (x4)) (by decide) (by decide) (pm_o hO_x0 (th_ih T r_x0 (k := 2) rfl e_r_3 o_x0) rfl)) (fun h_5 T_11 w_12 => ?_)
        obtain ⟨r_6, e_r_6, q_r_6⟩ := thR T_11 r_x0 (k := 2) (i := 20) (k2 := 33) rfl (by decide)
        refine s_ref e_r_6 ?_
        refine s_gd (by rw [thN T_11 q_r_6 (k := 33) (n := 64) rfl (by decide)]; exact rg_inB ((rg_hw w_12 (ne_r r_x0 q_r_3 (by decide)) i_f_10) : Rg (0) (63) ((hI h_5 x0 2))) (by decide)) ?_
        refine s_hq (th_wI T_11 q_r_6 (k := 33) (lo := (0)) (hi := (7)) rfl (i_x3 : Rg (0) (7) (x3)) (by decide) (by decide) (pm_o hO_x0 (th_ih T_11 r_x0 (k := 2) rfl e_r_6 o_x0) rfl)) (fun h_8 T_13 w_14 => ?_)
        refine s_hq (th_wI T_13 r_x0 (k := 2) (lo := (0)) (hi := (64)) rfl ((rg_m (rg_add ((rg_hw w_14 (ne_r r_x0 q_r_6 (by decide)) (rg_hw w_12 (ne_r r_x0 q_r_3 (by decide)) i_f_10)) : Rg (0) (63) ((hI h_8 x0 2))) (rg_b rfl : Rg (1) (1) ((1 : Int32))) (by decide) : Rg (1) (64) (((hI h_8 x0 2) + (1 : Int32)))) (by decide)) : Rg (0) (64) (((hI h_8 x0 2) + (1 : Int32)))) (by decide) (by decide) (pm_o hO_x0 o_x0 rfl)) (fun h_9 T_15 w_16 => ?_)
        refine s_q (fun v_10 e_17 => ?_)
        have i_v_10 : Rg (1) (8) (v_10) := by rw [e_17]; exact (rg_add i_f_4 (rg_b rfl : Rg (1) (1) ((1 : Int32))) (by decide) : Rg (1) (8) (x4 + (1 : Int32)))
        have m_18 : (v_10).toInt = x4.toInt + 1 := by rw [e_17]; exact rg_inc i_f_4 (by decide)
        exact hk_28 o_x0 T_15 r_x0 i_x3 (rg_m i_v_10 (by decide)) hc_17 (by have := hc_28; omega)
set_option maxRecDepth 20000 in
theorem zX1_setBoard_17 {ρ : Nat → Nat} {c : Cm} {F : Nat} {w_x0 : Nat} (hF : 700000 ≤ F) (hO_x0 : pmO c w_x0 [(32, 999), (33, 999), (2, 2)]) : ∀ (f : Nat) {h : Hp} {x0 : Nat} {x3 : Int32}, cw c x0 = w_x0 → TH ρ c h → ρ x0 = 2 → Rg (0) (8) (x3) → (8 - x3.toInt).toNat < f → Sat (sX1_setBoard_17 F f h x0 x3) (ZV ρ c) := by
  intro f
  induction f with
  | zero => intros; omega
  | succ f ih =>
    intro h x0 x3 o_x0 T r_x0 i_x3 hm
    rw [sX1_setBoard_17]
    obtain ⟨C_17, hC_17⟩ : ∃ C : Int, C = x3.toInt := ⟨_, rfl⟩
    have hk_17 : ∀ {h : Hp} {x0 : Nat} {x3 : Int32}, cw c x0 = w_x0 → TH ρ c h → ρ x0 = 2 → Rg (0) (8) (x3) → C_17 < x3.toInt → Sat (sX1_setBoard_17 F f h x0 x3) (ZV ρ c) := by
      intro h' x0' x3' o_x0' T' r_x0' i_x3' hl
      exact ih o_x0' T' r_x0' i_x3' (by have := i_x3'.1; have := i_x3'.2; omega)
    have hc_17 : C_17 ≤ x3.toInt := by omega
    refine s_br (fun c_1 => ?_) (fun c_1 => ?_)
    · have _ := c_1
      exact s_some (T)
    · have _ := c_1
      have i_f_2 : Rg (0) (7) (x3) := rg_lt1 (nle_lt c_1) i_x3 (thI T r_x0 (k := 2) (i := 1) rfl : Rg (0) (8) ((hI h x0 1)))
      have i_f_3 : Rg (1) (8) ((hI h x0 1)) := rg_lt2 (nle_lt c_1) i_x3 (thI T r_x0 (k := 2) (i := 1) rfl : Rg (0) (8) ((hI h x0 1)))
      have m_4 : Rg (0) (8) ((0 : Int32)) := (rg_m (rg_b rfl : Rg (0) (0) ((0 : Int32))) (by decide))
      exact zX1_setBoard_28 hF @hk_17 (pmO_s hO_x0 rfl) F o_x0 T r_x0 i_f_2 (rg_m (rg_b rfl : Rg (0) (0) ((0 : Int32))) (by decide)) hc_17 (by have := m_4.1; have := m_4.2; omega)
set_option maxRecDepth 20000 in
theorem zX1_setBoard {ρ : Nat → Nat} {c : Cm} {F : Nat} {w_x0 : Nat} (hF : 700000 ≤ F) (hO_x0 : pmO c w_x0 [(32, 999), (33, 999), (2, 0), (2, 1), (2, 2)]) {h : Hp} {x0 : Nat} {x1 : Int32} {x2 : Int32} (o_x0 : cw c x0 = w_x0) (T : TH ρ c h) (r_x0 : ρ x0 = 2) (i_x1 : Rg (3) (8) (x1)) (i_x2 : Rg (3) (8) (x2)) : Sat (sX1_setBoard F h x0 x1 x2) (ZV ρ c) := by
  unfold sX1_setBoard 
  refine s_hq (th_wI T r_x0 (k := 2) (lo := (0)) (hi := (8)) rfl ((rg_m i_x1 (by decide)) : Rg (0) (8) (x1)) (by decide) (by decide) (pm_o hO_x0 o_x0 rfl)) (fun h_1 T_1 w_2 => ?_)
  refine s_hq (th_wI T_1 r_x0 (k := 2) (lo := (0)) (hi := (8)) rfl ((rg_m i_x2 (by decide)) : Rg (0) (8) (x2)) (by decide) (by decide) (pm_o hO_x0 o_x0 rfl)) (fun h_2 T_3 w_4 => ?_)
  refine s_hq (th_wI T_3 r_x0 (k := 2) (lo := (0)) (hi := (64)) rfl ((rg_m (rg_b rfl : Rg (0) (0) ((0 : Int32))) (by decide)) : Rg (0) (64) ((0 : Int32))) (by decide) (by decide) (pm_o hO_x0 o_x0 rfl)) (fun h_3 T_5 w_6 => ?_)
  have m_7 : Rg (0) (8) ((0 : Int32)) := (rg_m (rg_b rfl : Rg (0) (0) ((0 : Int32))) (by decide))
  exact zX1_setBoard_17 hF (pmO_s hO_x0 rfl) F o_x0 T_5 r_x0 (rg_m (rg_b rfl : Rg (0) (0) ((0 : Int32))) (by decide)) (by have := m_7.1; have := m_7.2; omega)
set_option maxRecDepth 20000 in
theorem zX2_takeEnd {ρ : Nat → Nat} {c : Cm} {F : Nat} (hF : 700000 ≤ F) (m1 : c.2.1 1 = true) (hA : pmA c [(3, 2), (3, 3), (3, 4), (3, 5)]) {h : Hp} {x0 : Nat} (T : TH ρ c h) (r_x0 : ρ x0 = 3) : Sat (sX2_takeEnd F h x0) (ZI ρ c (0) (1)) := by
  unfold sX2_takeEnd 
  refine s_br (fun c_1 => ?_) (fun c_1 => ?_)
  · have _ := c_1
    have i_f_2 : Rg (3) (3) ((hI h x0 4)) := rg_eq c_1 (rg_b rfl : Rg (3) (3) ((3 : Int32)))
    refine s_cV (zX2_advance hF m1 (pmA_s hA rfl) T r_x0) (fun o_2 T_3 => ?_)
    exact s_some ⟨(T_3), (rg_m (rg_b rfl : Rg (1) (1) ((1 : Int32))) (by decide))⟩
  · have _ := c_1
    exact s_some ⟨(T), (rg_m (rg_b rfl : Rg (0) (0) ((0 : Int32))) (by decide))⟩
set_option maxRecDepth 20000 in
theorem zX2_takeBoard {ρ : Nat → Nat} {c : Cm} {F : Nat} (hF : 700000 ≤ F) (m1 : c.2.1 1 = true) (m2 : c.2.1 2 = true) (hA : pmA c [(32, 999), (33, 999), (2, 0), (2, 1), (2, 2), (3, 2), (3, 3), (3, 4), (3, 5)]) {h : Hp} {x0 : Nat} (T : TH ρ c h) (r_x0 : ρ x0 = 3) : Sat (sX2_takeBoard F h x0) (ZI ρ c (0) (1)) := by
  unfold sX2_takeBoard 
  refine s_cI0 (zX2_isWord hF m1 T r_x0) (fun o_1 e_o_1 i_o_1 => ?_)
  have T_1 := th_eq e_o_1 T
  refine s_br (fun c_2 => ?_) (fun c_2 => ?_)
  · have _ := c_2
    have i_f_3 : Rg (0) (0) (o_1.1) := rg_eq c_2 (rg_b rfl : Rg (0) (0) (0 : Int32))
    exact s_some ⟨(T_1), (rg_m (rg_b rfl : Rg (0) (0) ((0 : Int32))) (by decide))⟩
  · have _ := c_2
    have i_f_4 : Rg (1) (1) (o_1.1) := rg_nlo c_2 i_o_1 (rg_b rfl : Rg (0) (0) (0 : Int32))
    refine s_cV (zX2_advance hF m1 (pmA_s hA rfl) T_1 r_x0) (fun o_3 T_5 => ?_)
    refine s_cP0 (zX2_isNumber hF ((rg_b rfl : Rg (3) (3) ((3 : Int32))) : Rg (3) (3) ((3 : Int32))) ((rg_b rfl : Rg (8) (8) ((8 : Int32))) : Rg (8) (8) ((8 : Int32)))) (fun o_4 e_o_4 i_o_4 p_o_4 => ?_)
    have T_6 := th_eq e_o_4 T_5
    refine s_br (fun c_7 => ?_) (fun c_7 => ?_)
    · have _ := c_7
      have i_f_8 : Rg (0) (0) (o_4.1) := rg_eq c_7 (rg_b rfl : Rg (0) (0) (0 : Int32))
      exact s_some ⟨(T_6), (rg_m (rg_b rfl : Rg (0) (0) ((0 : Int32))) (by decide))⟩
    · have _ := c_7
      have i_f_9 : Rg (1) (1) (o_4.1) := rg_nlo c_7 i_o_4 (rg_b rfl : Rg (0) (0) (0 : Int32))
      have p_f_10 := p_o_4 c_7
      refine s_q (fun v_6 e_11 => ?_)
      have i_v_6 : Rg (3) (8) (v_6) := by rw [e_11]; exact ((rg_he e_o_4 p_f_10) : Rg (3) (8) (hI o_4.2 x0 5))
      refine s_cV (zX2_advance hF m1 (pmA_s hA rfl) T_6 r_x0) (fun o_7 T_12 => ?_)
      refine s_cP0 (zX2_isNumber hF ((rg_b rfl : Rg (3) (3) ((3 : Int32))) : Rg (3) (3) ((3 : Int32))) ((rg_b rfl : Rg (8) (8) ((8 : Int32))) : Rg (8) (8) ((8 : Int32)))) (fun o_8 e_o_8 i_o_8 p_o_8 => ?_)
      have T_13 := th_eq e_o_8 T_12
      refine s_br (fun c_14 => ?_) (fun c_14 => ?_)
      · have _ := c_14
        have i_f_15 : Rg (0) (0) (o_8.1) := rg_eq c_14 (rg_b rfl : Rg (0) (0) (0 : Int32))
        exact s_some ⟨(T_13), (rg_m (rg_b rfl : Rg (0) (0) ((0 : Int32))) (by decide))⟩
      · have _ := c_14
        have i_f_16 : Rg (1) (1) (o_8.1) := rg_nlo c_14 i_o_8 (rg_b rfl : Rg (0) (0) (0 : Int32))
        have p_f_17 := p_o_8 c_14
        obtain ⟨r_10, e_r_10, q_r_10⟩ := thM T_13 r_x0 (k := 3) (i := 1) (j := 2) (k2 := 2) rfl (by decide) rfl (by decide) m2
        refine s_ref e_r_10 ?_
        refine s_cV (zX1_setBoard hF (pmO_a hA rfl) rfl T_13 q_r_10 i_v_6 ((rg_he e_o_8 p_f_17) : Rg (3) (8) ((hI o_8.2 x0 5)))) (fun o_11 T_18 => ?_)
        refine s_cV (zX2_advance hF m1 (pmA_s hA rfl) T_18 r_x0) (fun o_12 T_19 => ?_)
        refine s_cI (zX2_takeEnd hF m1 (pmA_s hA rfl) T_19 r_x0) (fun o_13 T_20 i_o_13 => ?_)
        refine s_gd (rg_bool i_o_13) ?_
        exact s_some ⟨(T_20), i_o_13⟩
set_option maxRecDepth 20000 in
theorem zX2_fits {ρ : Nat → Nat} {c : Cm} {F : Nat} (hF : 700000 ≤ F) {h : Hp} {x0 : Int32} {x1 : Int32} (T : TH ρ c h) (i_x0 : Rg (0) (63) (x0)) (i_x1 : Rg (1) (32) (x1)) : Sat (sX2_fits h x0 x1) (ZI0 h (0) (1)) := by
  unfold sX2_fits sX2_fits_12 sX2_fits_32 sX2_fits_43 sX2_fits_29
  refine s_br (fun c_1 => ?_) (fun c_1 => ?_)
  · have _ := c_1
    have i_f_2 : Rg (1) (1) (x1) := rg_eq c_1 (rg_b rfl : Rg (1) (1) ((1 : Int32)))
    refine s_br (fun c_3 => ?_) (fun c_3 => ?_)
    · have _ := c_3
      have i_f_4 : Rg (0) (0) ((x0 &&& (3 : Int32))) := rg_eq c_3 (rg_b rfl : Rg (0) (0) (0 : Int32))
      refine s_gd (rg_bool (rg_m (rg_b rfl : Rg (1) (1) ((1 : Int32))) (by decide))) ?_
      exact s_some ⟨rfl, (rg_m (rg_b rfl : Rg (1) (1) ((1 : Int32))) (by decide))⟩
    · have _ := c_3
      have i_f_5 : Rg (1) (3) ((x0 &&& (3 : Int32))) := rg_nlo c_3 (rg_and (rg_b rfl : Rg (3) (3) ((3 : Int32))) (by decide) : Rg (0) (3) ((x0 &&& (3 : Int32)))) (rg_b rfl : Rg (0) (0) (0 : Int32))
      refine s_gd (rg_bool (rg_m (rg_b rfl : Rg (0) (0) ((0 : Int32))) (by decide))) ?_
      exact s_some ⟨rfl, (rg_m (rg_b rfl : Rg (0) (0) ((0 : Int32))) (by decide))⟩
  · have _ := c_1
    have i_f_6 : Rg (2) (32) (x1) := rg_nlo c_1 i_x1 (rg_b rfl : Rg (1) (1) ((1 : Int32)))
    refine s_br (fun c_7 => ?_) (fun c_7 => ?_)
    · have _ := c_7
      have i_f_8 : Rg (2) (2) (x1) := rg_eq c_7 (rg_b rfl : Rg (2) (2) ((2 : Int32)))
      refine s_br (fun c_9 => ?_) (fun c_9 => ?_)
      · have _ := c_9
        have i_f_10 : Rg (0) (0) ((x0 &&& (3 : Int32))) := rg_eq c_9 (rg_b rfl : Rg (0) (0) (0 : Int32))
        refine s_gd (rg_bool (rg_m (rg_b rfl : Rg (1) (1) ((1 : Int32))) (by decide))) ?_
        exact s_some ⟨rfl, (rg_m (rg_b rfl : Rg (1) (1) ((1 : Int32))) (by decide))⟩
      · have _ := c_9
        have i_f_11 : Rg (1) (3) ((x0 &&& (3 : Int32))) := rg_nlo c_9 (rg_and (rg_b rfl : Rg (3) (3) ((3 : Int32))) (by decide) : Rg (0) (3) ((x0 &&& (3 : Int32)))) (rg_b rfl : Rg (0) (0) (0 : Int32))
        refine s_gd (rg_bool (rg_m (rg_b rfl : Rg (0) (0) ((0 : Int32))) (by decide))) ?_
        exact s_some ⟨rfl, (rg_m (rg_b rfl : Rg (0) (0) ((0 : Int32))) (by decide))⟩
    · have _ := c_7
      have i_f_12 : Rg (3) (32) (x1) := rg_nlo c_7 i_f_6 (rg_b rfl : Rg (2) (2) ((2 : Int32)))
      refine s_br (fun c_13 => ?_) (fun c_13 => ?_)
      · have _ := c_13
        have i_f_14 : Rg (8) (8) (x1) := rg_eq c_13 (rg_b rfl : Rg (8) (8) ((8 : Int32)))
        refine s_br (fun c_15 => ?_) (fun c_15 => ?_)
        · have _ := c_15
          have i_f_16 : Rg (0) (0) ((x0 &&& (24 : Int32))) := rg_eq c_15 (rg_b rfl : Rg (0) (0) (0 : Int32))
          refine s_gd (rg_bool (rg_m (rg_b rfl : Rg (1) (1) ((1 : Int32))) (by decide))) ?_
          exact s_some ⟨rfl, (rg_m (rg_b rfl : Rg (1) (1) ((1 : Int32))) (by decide))⟩
        · have _ := c_15
          have i_f_17 : Rg (1) (24) ((x0 &&& (24 : Int32))) := rg_nlo c_15 (rg_and (rg_b rfl : Rg (24) (24) ((24 : Int32))) (by decide) : Rg (0) (24) ((x0 &&& (24 : Int32)))) (rg_b rfl : Rg (0) (0) (0 : Int32))
          refine s_gd (rg_bool (rg_m (rg_b rfl : Rg (0) (0) ((0 : Int32))) (by decide))) ?_
          exact s_some ⟨rfl, (rg_m (rg_b rfl : Rg (0) (0) ((0 : Int32))) (by decide))⟩
      · have _ := c_13
        refine s_br (fun c_18 => ?_) (fun c_18 => ?_)
        · have _ := c_18
          have i_f_19 : Rg (16) (16) (x1) := rg_eq c_18 (rg_b rfl : Rg (16) (16) ((16 : Int32)))
          refine s_br (fun c_20 => ?_) (fun c_20 => ?_)
          · have _ := c_20
            have i_f_21 : Rg (0) (0) ((x0 &&& (24 : Int32))) := rg_eq c_20 (rg_b rfl : Rg (0) (0) (0 : Int32))
            refine s_gd (rg_bool (rg_m (rg_b rfl : Rg (1) (1) ((1 : Int32))) (by decide))) ?_
            exact s_some ⟨rfl, (rg_m (rg_b rfl : Rg (1) (1) ((1 : Int32))) (by decide))⟩
          · have _ := c_20
            have i_f_22 : Rg (1) (24) ((x0 &&& (24 : Int32))) := rg_nlo c_20 (rg_and (rg_b rfl : Rg (24) (24) ((24 : Int32))) (by decide) : Rg (0) (24) ((x0 &&& (24 : Int32)))) (rg_b rfl : Rg (0) (0) (0 : Int32))
            refine s_gd (rg_bool (rg_m (rg_b rfl : Rg (0) (0) ((0 : Int32))) (by decide))) ?_
            exact s_some ⟨rfl, (rg_m (rg_b rfl : Rg (0) (0) ((0 : Int32))) (by decide))⟩
        · have _ := c_18
          refine s_br (fun c_23 => ?_) (fun c_23 => ?_)
          · have _ := c_23
            have i_f_24 : Rg (0) (0) ((x0 &&& x1)) := rg_eq c_23 (rg_b rfl : Rg (0) (0) (0 : Int32))
            refine s_gd (rg_bool (rg_m (rg_b rfl : Rg (1) (1) ((1 : Int32))) (by decide))) ?_
            exact s_some ⟨rfl, (rg_m (rg_b rfl : Rg (1) (1) ((1 : Int32))) (by decide))⟩
          · have _ := c_23
            have i_f_25 : Rg (1) (32) ((x0 &&& x1)) := rg_nlo c_23 (rg_and i_f_12 (by decide) : Rg (0) (32) ((x0 &&& x1))) (rg_b rfl : Rg (0) (0) (0 : Int32))
            refine s_gd (rg_bool (rg_m (rg_b rfl : Rg (0) (0) ((0 : Int32))) (by decide))) ?_
            exact s_some ⟨rfl, (rg_m (rg_b rfl : Rg (0) (0) ((0 : Int32))) (by decide))⟩
set_option maxRecDepth 20000 in
theorem zX2_stepFlag {ρ : Nat → Nat} {c : Cm} {F : Nat} (hF : 700000 ≤ F) (m1 : c.2.1 1 = true) {h : Hp} {x0 : Nat} (T : TH ρ c h) (r_x0 : ρ x0 = 3) : Sat (sX2_stepFlag F h x0) (ZI0 h (0) (32)) := by
  unfold sX2_stepFlag sX2_stepFlag_72
  refine s_cI0 (zX2_isWord hF m1 T r_x0) (fun o_1 e_o_1 i_o_1 => ?_)
  have T_1 := th_eq e_o_1 T
  refine s_br (fun c_2 => ?_) (fun c_2 => ?_)
  · have _ := c_2
    have i_f_3 : Rg (0) (0) (o_1.1) := rg_eq c_2 (rg_b rfl : Rg (0) (0) (0 : Int32))
    refine s_cI0 (zX2_isWord hF m1 T_1 r_x0) (fun o_3 e_o_3 i_o_3 => ?_)
    have T_4 := th_eq e_o_3 T_1
    refine s_br (fun c_5 => ?_) (fun c_5 => ?_)
    · have _ := c_5
      have i_f_6 : Rg (0) (0) (o_3.1) := rg_eq c_5 (rg_b rfl : Rg (0) (0) (0 : Int32))
      refine s_cI0 (zX2_isWord hF m1 T_4 r_x0) (fun o_5 e_o_5 i_o_5 => ?_)
      have T_7 := th_eq e_o_5 T_4
      refine s_br (fun c_8 => ?_) (fun c_8 => ?_)
      · have _ := c_8
        have i_f_9 : Rg (0) (0) (o_5.1) := rg_eq c_8 (rg_b rfl : Rg (0) (0) (0 : Int32))
        refine s_cI0 (zX2_isWord hF m1 T_7 r_x0) (fun o_7 e_o_7 i_o_7 => ?_)
        have T_10 := th_eq e_o_7 T_7
        refine s_br (fun c_11 => ?_) (fun c_11 => ?_)
        · have _ := c_11
          have i_f_12 : Rg (0) (0) (o_7.1) := rg_eq c_11 (rg_b rfl : Rg (0) (0) (0 : Int32))
          refine s_cI0 (zX2_isWord hF m1 T_10 r_x0) (fun o_9 e_o_9 i_o_9 => ?_)
          have T_13 := th_eq e_o_9 T_10
          refine s_br (fun c_14 => ?_) (fun c_14 => ?_)
          · have _ := c_14
            have i_f_15 : Rg (0) (0) (o_9.1) := rg_eq c_14 (rg_b rfl : Rg (0) (0) (0 : Int32))
            refine s_cI0 (zX2_isWord hF m1 T_13 r_x0) (fun o_11 e_o_11 i_o_11 => ?_)
            have T_16 := th_eq e_o_11 T_13
            refine s_br (fun c_17 => ?_) (fun c_17 => ?_)
            · have _ := c_17
              have i_f_18 : Rg (0) (0) (o_11.1) := rg_eq c_17 (rg_b rfl : Rg (0) (0) (0 : Int32))
              exact s_some ⟨(e_o_11.trans (e_o_9.trans (e_o_7.trans (e_o_5.trans (e_o_3.trans (e_o_1.trans rfl)))))), (rg_m (rg_b rfl : Rg (0) (0) ((0 : Int32))) (by decide))⟩
            · have _ := c_17
              have i_f_19 : Rg (1) (1) (o_11.1) := rg_nlo c_17 i_o_11 (rg_b rfl : Rg (0) (0) (0 : Int32))
              exact s_some ⟨(e_o_11.trans (e_o_9.trans (e_o_7.trans (e_o_5.trans (e_o_3.trans (e_o_1.trans rfl)))))), (rg_m (rg_b rfl : Rg (32) (32) ((32 : Int32))) (by decide))⟩
          · have _ := c_14
            have i_f_20 : Rg (1) (1) (o_9.1) := rg_nlo c_14 i_o_9 (rg_b rfl : Rg (0) (0) (0 : Int32))
            exact s_some ⟨(e_o_9.trans (e_o_7.trans (e_o_5.trans (e_o_3.trans (e_o_1.trans rfl))))), (rg_m (rg_b rfl : Rg (16) (16) ((16 : Int32))) (by decide))⟩
        · have _ := c_11
          have i_f_21 : Rg (1) (1) (o_7.1) := rg_nlo c_11 i_o_7 (rg_b rfl : Rg (0) (0) (0 : Int32))
          exact s_some ⟨(e_o_7.trans (e_o_5.trans (e_o_3.trans (e_o_1.trans rfl)))), (rg_m (rg_b rfl : Rg (8) (8) ((8 : Int32))) (by decide))⟩
      · have _ := c_8
        have i_f_22 : Rg (1) (1) (o_5.1) := rg_nlo c_8 i_o_5 (rg_b rfl : Rg (0) (0) (0 : Int32))
        exact s_some ⟨(e_o_5.trans (e_o_3.trans (e_o_1.trans rfl))), (rg_m (rg_b rfl : Rg (4) (4) ((4 : Int32))) (by decide))⟩
    · have _ := c_5
      have i_f_23 : Rg (1) (1) (o_3.1) := rg_nlo c_5 i_o_3 (rg_b rfl : Rg (0) (0) (0 : Int32))
      exact s_some ⟨(e_o_3.trans (e_o_1.trans rfl)), (rg_m (rg_b rfl : Rg (2) (2) ((2 : Int32))) (by decide))⟩
  · have _ := c_2
    have i_f_24 : Rg (1) (1) (o_1.1) := rg_nlo c_2 i_o_1 (rg_b rfl : Rg (0) (0) (0 : Int32))
    exact s_some ⟨(e_o_1.trans rfl), (rg_m (rg_b rfl : Rg (1) (1) ((1 : Int32))) (by decide))⟩
set_option maxRecDepth 20000 in
theorem zX2_takeTail {ρ : Nat → Nat} {c : Cm} {F : Nat} (hF : 700000 ≤ F) (m1 : c.2.1 1 = true) (hA : pmA c [(3, 2), (3, 3), (3, 4), (3, 5)]) {h : Hp} {x0 : Nat} {x1 : Nat} {x2 : Int32} {x3 : Int32} {x4 : Int32} (T : TH ρ c h) (r_x0 : ρ x0 = 3) (i_x2 : Rg (1) (2) (x2)) (i_x3 : Rg (0) (8) (x3)) (i_x4 : Rg (0) (1) (x4)) : Sat (sX2_takeTail F h x0 x1 x2 x3 x4) (ZI ρ c (-1) (8)) := by
  unfold sX2_takeTail 
  refine s_cI0 (zX2_isWord hF m1 T r_x0) (fun o_1 e_o_1 i_o_1 => ?_)
  have T_1 := th_eq e_o_1 T
  refine s_br (fun c_2 => ?_) (fun c_2 => ?_)
  · have _ := c_2
    have i_f_3 : Rg (0) (0) (o_1.1) := rg_eq c_2 (rg_b rfl : Rg (0) (0) (0 : Int32))
    exact s_some ⟨(T_1), (rg_m i_x4 (by decide))⟩
  · have _ := c_2
    have i_f_4 : Rg (1) (1) (o_1.1) := rg_nlo c_2 i_o_1 (rg_b rfl : Rg (0) (0) (0 : Int32))
    refine s_cV (zX2_advance hF m1 (pmA_s hA rfl) T_1 r_x0) (fun o_3 T_5 => ?_)
    refine s_cP0 (zX2_isNumber hF (i_x2 : Rg (1) (2) (x2)) (i_x3 : Rg (0) (8) (x3))) (fun o_4 e_o_4 i_o_4 p_o_4 => ?_)
    have T_6 := th_eq e_o_4 T_5
    refine s_br (fun c_7 => ?_) (fun c_7 => ?_)
    · have _ := c_7
      have i_f_8 : Rg (0) (0) (o_4.1) := rg_eq c_7 (rg_b rfl : Rg (0) (0) (0 : Int32))
      exact s_some ⟨(T_6), (rg_m (rg_b rfl : Rg (-1) (-1) ((- 1 : Int32))) (by decide))⟩
    · have _ := c_7
      have i_f_9 : Rg (1) (1) (o_4.1) := rg_nlo c_7 i_o_4 (rg_b rfl : Rg (0) (0) (0 : Int32))
      have p_f_10 := p_o_4 c_7
      refine s_q (fun v_6 e_11 => ?_)
      have i_v_6 : Rg (1) (8) (v_6) := by rw [e_11]; exact ((rg_he e_o_4 p_f_10) : Rg (1) (8) (hI o_4.2 x0 5))
      refine s_cV (zX2_advance hF m1 (pmA_s hA rfl) T_6 r_x0) (fun o_7 T_12 => ?_)
      exact s_some ⟨(T_12), (rg_m i_v_6 (by decide))⟩
set_option maxRecDepth 20000 in
theorem zX2_takeStep_168 {ρ : Nat → Nat} {c : Cm} {F : Nat} (hF : 700000 ≤ F) (m2 : c.2.1 2 = true) (hA : pmA c [(28, 999), (29, 999)]) {h : Hp} {x0 : Nat} {x1 : Int32} {x2 : Int32} {x3 : Int32} {x5 : Int32} {t0 : Int32} (T : TH ρ c h) (r_x0 : ρ x0 = 3) (i_x1 : Rg (0) (11) (x1)) (i_x2 : Rg (0) (7) (x2)) (i_x3 : Rg (-2147483648) (2147483647) (x3)) (i_x5 : Rg (-1) (8) (x5)) (i_t0 : Rg (-1) (8) (t0)) : Sat (sX2_takeStep_168 F h x0 x1 x2 x3 x5 t0) (ZI ρ c (0) (1)) := by
  unfold sX2_takeStep_168 sX2_takeStep_182
  refine s_br (fun c_1 => ?_) (fun c_1 => ?_)
  · have _ := c_1
    have i_f_2 : Rg (-1) (-1) (x5) := rg_eq c_1 (rg_b rfl : Rg (-1) (-1) ((- 1 : Int32)))
    exact s_some ⟨(T), (rg_m (rg_b rfl : Rg (0) (0) ((0 : Int32))) (by decide))⟩
  · have _ := c_1
    have i_f_3 : Rg (0) (8) (x5) := rg_nlo c_1 i_x5 (rg_b rfl : Rg (-1) (-1) ((- 1 : Int32)))
    refine s_br (fun c_4 => ?_) (fun c_4 => ?_)
    · have _ := c_4
      have i_f_5 : Rg (-1) (-1) (t0) := rg_eq c_4 (rg_b rfl : Rg (-1) (-1) ((- 1 : Int32)))
      exact s_some ⟨(T), (rg_m (rg_b rfl : Rg (0) (0) ((0 : Int32))) (by decide))⟩
    · have _ := c_4
      have i_f_6 : Rg (0) (8) (t0) := rg_nlo c_4 i_t0 (rg_b rfl : Rg (-1) (-1) ((- 1 : Int32)))
      obtain ⟨r_3, e_r_3, q_r_3⟩ := thM T r_x0 (k := 3) (i := 1) (j := 2) (k2 := 2) rfl (by decide) rfl (by decide) m2
      refine s_ref e_r_3 ?_
      obtain ⟨r_4, e_r_4, q_r_4⟩ := thR T q_r_3 (k := 2) (i := 15) (k2 := 28) rfl (by decide)
      refine s_ref e_r_4 ?_
      refine s_gd (by rw [thN T q_r_4 (k := 28) (n := 96) rfl (by decide)]; exact rg_inB (rg_add (rg_mulc i_x1 (rg_b rfl : Rg (8) (8) ((8 : Int32))) (by decide) : Rg (0) (88) ((x1 * (8 : Int32)))) i_x2 (by decide) : Rg (0) (95) (((x1 * (8 : Int32)) + x2))) (by decide)) ?_
      refine s_hq (th_wI T q_r_4 (k := 28) (lo := (-2147483648)) (hi := (2147483647)) rfl ((rg_top _ : Rg (-2147483648) (2147483647) (((x3 ||| (x5 <<< ((14 : Int32) &&& 31))) ||| (t0 <<< ((17 : Int32) &&& 31))))) : Rg (-2147483648) (2147483647) (((x3 ||| (x5 <<< ((14 : Int32) &&& 31))) ||| (t0 <<< ((17 : Int32) &&& 31))))) (by decide) (by decide) (pm_a hA rfl)) (fun h_6 T_7 w_8 => ?_)
      refine s_ref (hr_w w_8 e_r_3) ?_
      obtain ⟨r_8, e_r_8, q_r_8⟩ := thR T_7 q_r_3 (k := 2) (i := 16) (k2 := 29) rfl (by decide)
      refine s_ref e_r_8 ?_
      refine s_gd (by rw [thN T_7 q_r_8 (k := 29) (n := 12) rfl (by decide)]; exact rg_inB i_x1 (by decide)) ?_
      refine s_hq (th_wI T_7 q_r_8 (k := 29) (lo := (0)) (hi := (8)) rfl ((rg_m (rg_add i_x2 (rg_b rfl : Rg (1) (1) ((1 : Int32))) (by decide) : Rg (1) (8) ((x2 + (1 : Int32)))) (by decide)) : Rg (0) (8) ((x2 + (1 : Int32)))) (by decide) (by decide) (pm_a hA rfl)) (fun h_10 T_9 w_10 => ?_)
      exact s_some ⟨(T_9), (rg_m (rg_b rfl : Rg (1) (1) ((1 : Int32))) (by decide))⟩
set_option maxRecDepth 20000 in
theorem zX2_takeStep_105 {ρ : Nat → Nat} {c : Cm} {F : Nat} (hF : 700000 ≤ F) (m1 : c.2.1 1 = true) (m2 : c.2.1 2 = true) (hA : pmA c [(28, 999), (29, 999), (3, 2), (3, 3), (3, 4), (3, 5)]) {h : Hp} {x0 : Nat} {x1 : Int32} {x2 : Int32} {x3 : Int32} {x4 : Int32} (T : TH ρ c h) (r_x0 : ρ x0 = 3) (i_x1 : Rg (0) (11) (x1)) (i_x2 : Rg (0) (7) (x2)) (i_x3 : Rg (0) (63) (x3)) (i_x4 : Rg (-7) (7) (x4)) : Sat (sX2_takeStep_105 F h x0 x1 x2 x3 x4) (ZI ρ c (0) (1)) := by
  unfold sX2_takeStep_105 
  refine s_q (fun v_1 e_1 => ?_)
  have i_v_1 : Rg (-2147483648) (2147483647) (v_1) := by rw [e_1]; exact (rg_top _ : Rg (-2147483648) (2147483647) (x3 ||| (((x4 + (8 : Int32)) <<< ((6 : Int32) &&& 31)) ||| (((hI h x0 5) + (8 : Int32)) <<< ((10 : Int32) &&& 31)))))
  refine s_cV (zX2_advance hF m1 (pmA_s hA rfl) T r_x0) (fun o_2 T_2 => ?_)
  refine s_cI (zX2_takeTail hF m1 (pmA_s hA rfl) T_2 r_x0 (rg_m (rg_b rfl : Rg (2) (2) ((2 : Int32))) (by decide)) (rg_m (rg_b rfl : Rg (7) (7) ((7 : Int32))) (by decide)) (rg_m (rg_b rfl : Rg (1) (1) ((1 : Int32))) (by decide))) (fun o_3 T_3 i_o_3 => ?_)
  refine s_br (fun c_4 => ?_) (fun c_4 => ?_)
  · have _ := c_4
    have i_f_5 : Rg (-1) (-1) (o_3.1) := rg_eq c_4 (rg_b rfl : Rg (-1) (-1) ((- 1 : Int32)))
    exact zX2_takeStep_168 hF m2 (pmA_s hA rfl) T_3 r_x0 i_x1 i_x2 i_v_1 (rg_m i_f_5 (by decide)) (rg_m (rg_b rfl : Rg (-1) (-1) ((- 1 : Int32))) (by decide))
  · have _ := c_4
    have i_f_6 : Rg (0) (8) (o_3.1) := rg_nlo c_4 i_o_3 (rg_b rfl : Rg (-1) (-1) ((- 1 : Int32)))
    obtain ⟨r_5, e_r_5, q_r_5⟩ := thM T_3 r_x0 (k := 3) (i := 1) (j := 2) (k2 := 2) rfl (by decide) rfl (by decide) m2
    refine s_ref e_r_5 ?_
    refine s_cI (zX2_takeTail hF m1 (pmA_s hA rfl) T_3 r_x0 (rg_m (rg_b rfl : Rg (1) (1) ((1 : Int32))) (by decide)) (thI T_3 q_r_5 (k := 2) (i := 1) rfl : Rg (0) (8) ((hI o_3.2 r_5 1))) (rg_m (rg_b rfl : Rg (0) (0) ((0 : Int32))) (by decide))) (fun o_6 T_7 i_o_6 => ?_)
    exact zX2_takeStep_168 hF m2 (pmA_s hA rfl) T_7 r_x0 i_x1 i_x2 i_v_1 (rg_m i_f_6 (by decide)) i_o_6
set_option maxRecDepth 20000 in
theorem zX2_takeStep_57 {ρ : Nat → Nat} {c : Cm} {F : Nat} (hF : 700000 ≤ F) (m1 : c.2.1 1 = true) (m2 : c.2.1 2 = true) (hA : pmA c [(28, 999), (29, 999), (3, 2), (3, 3), (3, 4), (3, 5)]) {h : Hp} {x0 : Nat} {x1 : Int32} {x2 : Int32} {x3 : Int32} (T : TH ρ c h) (r_x0 : ρ x0 = 3) (i_x1 : Rg (0) (11) (x1)) (i_x2 : Rg (0) (7) (x2)) (i_x3 : Rg (0) (63) (x3)) : Sat (sX2_takeStep_57 F h x0 x1 x2 x3) (ZI ρ c (0) (1)) := by
  unfold sX2_takeStep_57 sX2_takeStep_103
  refine s_cP0 (zX2_isNumber hF ((rg_b rfl : Rg (-7) (-7) ((- 7 : Int32))) : Rg (-7) (-7) ((- 7 : Int32))) ((rg_b rfl : Rg (7) (7) ((7 : Int32))) : Rg (7) (7) ((7 : Int32)))) (fun o_1 e_o_1 i_o_1 p_o_1 => ?_)
  have T_1 := th_eq e_o_1 T
  refine s_br (fun c_2 => ?_) (fun c_2 => ?_)
  · have _ := c_2
    have i_f_3 : Rg (0) (0) (o_1.1) := rg_eq c_2 (rg_b rfl : Rg (0) (0) (0 : Int32))
    exact s_some ⟨(T_1), (rg_m (rg_b rfl : Rg (0) (0) ((0 : Int32))) (by decide))⟩
  · have _ := c_2
    have i_f_4 : Rg (1) (1) (o_1.1) := rg_nlo c_2 i_o_1 (rg_b rfl : Rg (0) (0) (0 : Int32))
    have p_f_5 := p_o_1 c_2
    refine s_q (fun v_3 e_6 => ?_)
    have i_v_3 : Rg (-7) (7) (v_3) := by rw [e_6]; exact ((rg_he e_o_1 p_f_5) : Rg (-7) (7) (hI o_1.2 x0 5))
    refine s_cV (zX2_advance hF m1 (pmA_s hA rfl) T_1 r_x0) (fun o_4 T_7 => ?_)
    refine s_cP0 (zX2_isNumber hF ((rg_b rfl : Rg (-7) (-7) ((- 7 : Int32))) : Rg (-7) (-7) ((- 7 : Int32))) ((rg_b rfl : Rg (7) (7) ((7 : Int32))) : Rg (7) (7) ((7 : Int32)))) (fun o_5 e_o_5 i_o_5 p_o_5 => ?_)
    have T_8 := th_eq e_o_5 T_7
    refine s_br (fun c_9 => ?_) (fun c_9 => ?_)
    · have _ := c_9
      have i_f_10 : Rg (0) (0) (o_5.1) := rg_eq c_9 (rg_b rfl : Rg (0) (0) (0 : Int32))
      exact s_some ⟨(T_8), (rg_m (rg_b rfl : Rg (0) (0) ((0 : Int32))) (by decide))⟩
    · have _ := c_9
      have i_f_11 : Rg (1) (1) (o_5.1) := rg_nlo c_9 i_o_5 (rg_b rfl : Rg (0) (0) (0 : Int32))
      have p_f_12 := p_o_5 c_9
      refine s_br (fun c_13 => ?_) (fun c_13 => ?_)
      · have _ := c_13
        have i_f_14 : Rg (0) (0) (v_3) := rg_eq c_13 (rg_b rfl : Rg (0) (0) (0 : Int32))
        refine s_br (fun c_15 => ?_) (fun c_15 => ?_)
        · have _ := c_15
          have i_f_16 : Rg (0) (0) ((hI o_5.2 x0 5)) := rg_eq c_15 (rg_b rfl : Rg (0) (0) (0 : Int32))
          exact s_some ⟨(T_8), (rg_m (rg_b rfl : Rg (0) (0) ((0 : Int32))) (by decide))⟩
        · have _ := c_15
          exact zX2_takeStep_105 hF m1 m2 (pmA_s hA rfl) T_8 r_x0 i_x1 i_x2 i_x3 (rg_m i_f_14 (by decide))
      · have _ := c_13
        exact zX2_takeStep_105 hF m1 m2 (pmA_s hA rfl) T_8 r_x0 i_x1 i_x2 i_x3 i_v_3
set_option maxRecDepth 20000 in
theorem zX2_takeStep_5 {ρ : Nat → Nat} {c : Cm} {F : Nat} (hF : 700000 ≤ F) (m1 : c.2.1 1 = true) (m2 : c.2.1 2 = true) (hA : pmA c [(28, 999), (29, 999), (3, 2), (3, 3), (3, 4), (3, 5)]) : ∀ (f : Nat) {h : Hp} {x0 : Nat} {x1 : Int32} {x2 : Int32} {x3 : Int32} {x4 : Int32}, TH ρ c h → ρ x0 = 3 → Rg (0) (11) (x1) → Rg (0) (7) (x2) → Rg (0) (63) (x3) → Rg (0) (6) (x4) → (6 - x4.toInt).toNat < f → Sat (sX2_takeStep_5 F f h x0 x1 x2 x3 x4) (ZI ρ c (0) (1)) := by
  intro f
  induction f with
  | zero => intros; omega
  | succ f ih =>
    intro h x0 x1 x2 x3 x4 T r_x0 i_x1 i_x2 i_x3 i_x4 hm
    rw [sX2_takeStep_5]
    unfold sX2_takeStep_40
    obtain ⟨C_5, hC_5⟩ : ∃ C : Int, C = x4.toInt := ⟨_, rfl⟩
    have hk_5 : ∀ {h : Hp} {x0 : Nat} {x1 : Int32} {x2 : Int32} {x3 : Int32} {x4 : Int32}, TH ρ c h → ρ x0 = 3 → Rg (0) (11) (x1) → Rg (0) (7) (x2) → Rg (0) (63) (x3) → Rg (0) (6) (x4) → C_5 < x4.toInt → Sat (sX2_takeStep_5 F f h x0 x1 x2 x3 x4) (ZI ρ c (0) (1)) := by
      intro h' x0' x1' x2' x3' x4' T' r_x0' i_x1' i_x2' i_x3' i_x4' hl
      exact ih T' r_x0' i_x1' i_x2' i_x3' i_x4' (by have := i_x4'.1; have := i_x4'.2; omega)
    have hc_5 : C_5 ≤ x4.toInt := by omega
    refine s_br (fun c_1 => ?_) (fun c_1 => ?_)
    · have _ := c_1
      have i_f_2 : Rg (6) (6) (x4) := rg_le2 c_1 (rg_b rfl : Rg (6) (6) ((6 : Int32))) i_x4
      exact zX2_takeStep_57 hF m1 m2 (pmA_s hA rfl) T r_x0 i_x1 i_x2 i_x3
    · have _ := c_1
      have i_f_3 : Rg (0) (5) (x4) := rg_lt1 (nle_lt c_1) i_x4 (rg_b rfl : Rg (6) (6) ((6 : Int32)))
      refine s_br (fun c_4 => ?_) (fun c_4 => ?_)
      · have _ := c_4
        have i_f_5 : Rg (1) (1) ((hI h x0 4)) := rg_eq c_4 (rg_b rfl : Rg (1) (1) ((1 : Int32)))
        refine s_cI0 (zX2_stepFlag hF m1 T r_x0) (fun o_3 e_o_3 i_o_3 => ?_)
        have T_6 := th_eq e_o_3 T
        refine s_br (fun c_7 => ?_) (fun c_7 => ?_)
        · have _ := c_7
          have i_f_8 : Rg (0) (0) (o_3.1) := rg_eq c_7 (rg_b rfl : Rg (0) (0) (0 : Int32))
          exact s_some ⟨(T_6), (rg_m (rg_b rfl : Rg (0) (0) ((0 : Int32))) (by decide))⟩
        · have _ := c_7
          have i_f_9 : Rg (1) (32) (o_3.1) := rg_nlo c_7 i_o_3 (rg_b rfl : Rg (0) (0) (0 : Int32))
          refine s_cI0 (zX2_fits hF T_6 i_x3 i_f_9) (fun o_5 e_o_5 i_o_5 => ?_)
          have T_10 := th_eq e_o_5 T_6
          refine s_br (fun c_11 => ?_) (fun c_11 => ?_)
          · have _ := c_11
            have i_f_12 : Rg (0) (0) (o_5.1) := rg_eq c_11 (rg_b rfl : Rg (0) (0) (0 : Int32))
            exact s_some ⟨(T_10), (rg_m (rg_b rfl : Rg (0) (0) ((0 : Int32))) (by decide))⟩
          · have _ := c_11
            have i_f_13 : Rg (1) (1) (o_5.1) := rg_nlo c_11 i_o_5 (rg_b rfl : Rg (0) (0) (0 : Int32))
            refine s_q (fun v_7 e_14 => ?_)
            have i_v_7 : Rg (0) (63) (v_7) := by rw [e_14]; exact (rg_or (n := 6) (rg_m i_x3 (by decide) : Rg (0) (63) (x3)) (rg_m i_f_9 (by decide) : Rg (0) (32) (o_3.1)) (by decide) : Rg (0) (63) (x3 ||| o_3.1))
            refine s_cV (zX2_advance hF m1 (pmA_s hA rfl) T_10 r_x0) (fun o_8 T_15 => ?_)
            refine s_q (fun v_9 e_16 => ?_)
            have i_v_9 : Rg (1) (6) (v_9) := by rw [e_16]; exact (rg_add i_f_3 (rg_b rfl : Rg (1) (1) ((1 : Int32))) (by decide) : Rg (1) (6) (x4 + (1 : Int32)))
            have m_17 : (v_9).toInt = x4.toInt + 1 := by rw [e_16]; exact rg_inc i_f_3 (by decide)
            exact hk_5 T_15 r_x0 i_x1 i_x2 i_v_7 (rg_m i_v_9 (by decide)) (by have := hc_5; omega)
      · have _ := c_4
        exact zX2_takeStep_57 hF m1 m2 (pmA_s hA rfl) T r_x0 i_x1 i_x2 i_x3
set_option maxRecDepth 20000 in
theorem zX2_takeStep {ρ : Nat → Nat} {c : Cm} {F : Nat} (hF : 700000 ≤ F) (m1 : c.2.1 1 = true) (m2 : c.2.1 2 = true) (hA : pmA c [(28, 999), (29, 999), (3, 2), (3, 3), (3, 4), (3, 5)]) {h : Hp} {x0 : Nat} {x1 : Int32} {x2 : Int32} (T : TH ρ c h) (r_x0 : ρ x0 = 3) (i_x1 : Rg (0) (11) (x1)) (i_x2 : Rg (0) (7) (x2)) : Sat (sX2_takeStep F h x0 x1 x2) (ZI ρ c (0) (1)) := by
  unfold sX2_takeStep 
  have m_1 : Rg (0) (6) ((0 : Int32)) := (rg_m (rg_b rfl : Rg (0) (0) ((0 : Int32))) (by decide))
  exact zX2_takeStep_5 hF m1 m2 (pmA_s hA rfl) F T r_x0 i_x1 i_x2 (rg_m (rg_b rfl : Rg (0) (0) ((0 : Int32))) (by decide)) (rg_m (rg_b rfl : Rg (0) (0) ((0 : Int32))) (by decide)) (by have := m_1.1; have := m_1.2; omega)
set_option maxRecDepth 20000 in
theorem zX2_onceWord {ρ : Nat → Nat} {c : Cm} {F : Nat} (hF : 700000 ≤ F) (m1 : c.2.1 1 = true) {h : Hp} {x0 : Nat} (T : TH ρ c h) (r_x0 : ρ x0 = 3) : Sat (sX2_onceWord F h x0) (ZI0 h (0) (512)) := by
  unfold sX2_onceWord sX2_onceWord_123
  refine s_cI0 (zX2_isWord hF m1 T r_x0) (fun o_1 e_o_1 i_o_1 => ?_)
  have T_1 := th_eq e_o_1 T
  refine s_br (fun c_2 => ?_) (fun c_2 => ?_)
  · have _ := c_2
    have i_f_3 : Rg (0) (0) (o_1.1) := rg_eq c_2 (rg_b rfl : Rg (0) (0) (0 : Int32))
    refine s_cI0 (zX2_isWord hF m1 T_1 r_x0) (fun o_3 e_o_3 i_o_3 => ?_)
    have T_4 := th_eq e_o_3 T_1
    refine s_br (fun c_5 => ?_) (fun c_5 => ?_)
    · have _ := c_5
      have i_f_6 : Rg (0) (0) (o_3.1) := rg_eq c_5 (rg_b rfl : Rg (0) (0) (0 : Int32))
      refine s_cI0 (zX2_isWord hF m1 T_4 r_x0) (fun o_5 e_o_5 i_o_5 => ?_)
      have T_7 := th_eq e_o_5 T_4
      refine s_br (fun c_8 => ?_) (fun c_8 => ?_)
      · have _ := c_8
        have i_f_9 : Rg (0) (0) (o_5.1) := rg_eq c_8 (rg_b rfl : Rg (0) (0) (0 : Int32))
        refine s_cI0 (zX2_isWord hF m1 T_7 r_x0) (fun o_7 e_o_7 i_o_7 => ?_)
        have T_10 := th_eq e_o_7 T_7
        refine s_br (fun c_11 => ?_) (fun c_11 => ?_)
        · have _ := c_11
          have i_f_12 : Rg (0) (0) (o_7.1) := rg_eq c_11 (rg_b rfl : Rg (0) (0) (0 : Int32))
          refine s_cI0 (zX2_isWord hF m1 T_10 r_x0) (fun o_9 e_o_9 i_o_9 => ?_)
          have T_13 := th_eq e_o_9 T_10
          refine s_br (fun c_14 => ?_) (fun c_14 => ?_)
          · have _ := c_14
            have i_f_15 : Rg (0) (0) (o_9.1) := rg_eq c_14 (rg_b rfl : Rg (0) (0) (0 : Int32))
            refine s_cI0 (zX2_isWord hF m1 T_13 r_x0) (fun o_11 e_o_11 i_o_11 => ?_)
            have T_16 := th_eq e_o_11 T_13
            refine s_br (fun c_17 => ?_) (fun c_17 => ?_)
            · have _ := c_17
              have i_f_18 : Rg (0) (0) (o_11.1) := rg_eq c_17 (rg_b rfl : Rg (0) (0) (0 : Int32))
              refine s_cI0 (zX2_isWord hF m1 T_16 r_x0) (fun o_13 e_o_13 i_o_13 => ?_)
              have T_19 := th_eq e_o_13 T_16
              refine s_br (fun c_20 => ?_) (fun c_20 => ?_)
              · have _ := c_20
                have i_f_21 : Rg (0) (0) (o_13.1) := rg_eq c_20 (rg_b rfl : Rg (0) (0) (0 : Int32))
                refine s_cI0 (zX2_isWord hF m1 T_19 r_x0) (fun o_15 e_o_15 i_o_15 => ?_)
                have T_22 := th_eq e_o_15 T_19
                refine s_br (fun c_23 => ?_) (fun c_23 => ?_)
                · have _ := c_23
                  have i_f_24 : Rg (0) (0) (o_15.1) := rg_eq c_23 (rg_b rfl : Rg (0) (0) (0 : Int32))
                  refine s_cI0 (zX2_isWord hF m1 T_22 r_x0) (fun o_17 e_o_17 i_o_17 => ?_)
                  have T_25 := th_eq e_o_17 T_22
                  refine s_br (fun c_26 => ?_) (fun c_26 => ?_)
                  · have _ := c_26
                    have i_f_27 : Rg (0) (0) (o_17.1) := rg_eq c_26 (rg_b rfl : Rg (0) (0) (0 : Int32))
                    refine s_cI0 (zX2_isWord hF m1 T_25 r_x0) (fun o_19 e_o_19 i_o_19 => ?_)
                    have T_28 := th_eq e_o_19 T_25
                    refine s_br (fun c_29 => ?_) (fun c_29 => ?_)
                    · have _ := c_29
                      have i_f_30 : Rg (0) (0) (o_19.1) := rg_eq c_29 (rg_b rfl : Rg (0) (0) (0 : Int32))
                      exact s_some ⟨(e_o_19.trans (e_o_17.trans (e_o_15.trans (e_o_13.trans (e_o_11.trans (e_o_9.trans (e_o_7.trans (e_o_5.trans (e_o_3.trans (e_o_1.trans rfl)))))))))), (rg_m (rg_b rfl : Rg (0) (0) ((0 : Int32))) (by decide))⟩
                    · have _ := c_29
                      have i_f_31 : Rg (1) (1) (o_19.1) := rg_nlo c_29 i_o_19 (rg_b rfl : Rg (0) (0) (0 : Int32))
                      exact s_some ⟨(e_o_19.trans (e_o_17.trans (e_o_15.trans (e_o_13.trans (e_o_11.trans (e_o_9.trans (e_o_7.trans (e_o_5.trans (e_o_3.trans (e_o_1.trans rfl)))))))))), (rg_m (rg_b rfl : Rg (512) (512) ((512 : Int32))) (by decide))⟩
                  · have _ := c_26
                    have i_f_32 : Rg (1) (1) (o_17.1) := rg_nlo c_26 i_o_17 (rg_b rfl : Rg (0) (0) (0 : Int32))
                    exact s_some ⟨(e_o_17.trans (e_o_15.trans (e_o_13.trans (e_o_11.trans (e_o_9.trans (e_o_7.trans (e_o_5.trans (e_o_3.trans (e_o_1.trans rfl))))))))), (rg_m (rg_b rfl : Rg (256) (256) ((256 : Int32))) (by decide))⟩
                · have _ := c_23
                  have i_f_33 : Rg (1) (1) (o_15.1) := rg_nlo c_23 i_o_15 (rg_b rfl : Rg (0) (0) (0 : Int32))
                  exact s_some ⟨(e_o_15.trans (e_o_13.trans (e_o_11.trans (e_o_9.trans (e_o_7.trans (e_o_5.trans (e_o_3.trans (e_o_1.trans rfl)))))))), (rg_m (rg_b rfl : Rg (128) (128) ((128 : Int32))) (by decide))⟩
              · have _ := c_20
                have i_f_34 : Rg (1) (1) (o_13.1) := rg_nlo c_20 i_o_13 (rg_b rfl : Rg (0) (0) (0 : Int32))
                exact s_some ⟨(e_o_13.trans (e_o_11.trans (e_o_9.trans (e_o_7.trans (e_o_5.trans (e_o_3.trans (e_o_1.trans rfl))))))), (rg_m (rg_b rfl : Rg (64) (64) ((64 : Int32))) (by decide))⟩
            · have _ := c_17
              have i_f_35 : Rg (1) (1) (o_11.1) := rg_nlo c_17 i_o_11 (rg_b rfl : Rg (0) (0) (0 : Int32))
              exact s_some ⟨(e_o_11.trans (e_o_9.trans (e_o_7.trans (e_o_5.trans (e_o_3.trans (e_o_1.trans rfl)))))), (rg_m (rg_b rfl : Rg (32) (32) ((32 : Int32))) (by decide))⟩
          · have _ := c_14
            have i_f_36 : Rg (1) (1) (o_9.1) := rg_nlo c_14 i_o_9 (rg_b rfl : Rg (0) (0) (0 : Int32))
            exact s_some ⟨(e_o_9.trans (e_o_7.trans (e_o_5.trans (e_o_3.trans (e_o_1.trans rfl))))), (rg_m (rg_b rfl : Rg (16) (16) ((16 : Int32))) (by decide))⟩
        · have _ := c_11
          have i_f_37 : Rg (1) (1) (o_7.1) := rg_nlo c_11 i_o_7 (rg_b rfl : Rg (0) (0) (0 : Int32))
          exact s_some ⟨(e_o_7.trans (e_o_5.trans (e_o_3.trans (e_o_1.trans rfl)))), (rg_m (rg_b rfl : Rg (8) (8) ((8 : Int32))) (by decide))⟩
      · have _ := c_8
        have i_f_38 : Rg (1) (1) (o_5.1) := rg_nlo c_8 i_o_5 (rg_b rfl : Rg (0) (0) (0 : Int32))
        exact s_some ⟨(e_o_5.trans (e_o_3.trans (e_o_1.trans rfl))), (rg_m (rg_b rfl : Rg (4) (4) ((4 : Int32))) (by decide))⟩
    · have _ := c_5
      have i_f_39 : Rg (1) (1) (o_3.1) := rg_nlo c_5 i_o_3 (rg_b rfl : Rg (0) (0) (0 : Int32))
      exact s_some ⟨(e_o_3.trans (e_o_1.trans rfl)), (rg_m (rg_b rfl : Rg (2) (2) ((2 : Int32))) (by decide))⟩
  · have _ := c_2
    have i_f_40 : Rg (1) (1) (o_1.1) := rg_nlo c_2 i_o_1 (rg_b rfl : Rg (0) (0) (0 : Int32))
    exact s_some ⟨(e_o_1.trans rfl), (rg_m (rg_b rfl : Rg (1) (1) ((1 : Int32))) (by decide))⟩
set_option maxRecDepth 20000 in
theorem zX2_takeBlast_16 {ρ : Nat → Nat} {c : Cm} {F : Nat} (hF : 700000 ≤ F) (m1 : c.2.1 1 = true) (m2 : c.2.1 2 = true) (hA : pmA c [(2, 11), (3, 2), (3, 3), (3, 4), (3, 5)]) : ∀ (f : Nat) {h : Hp} {x0 : Nat} {x1 : Int32}, TH ρ c h → ρ x0 = 3 → Rg (0) (12) (x1) → (12 - x1.toInt).toNat < f → Sat (sX2_takeBlast_16 F f h x0 x1) (ZI ρ c (0) (1)) := by
  intro f
  induction f with
  | zero => intros; omega
  | succ f ih =>
    intro h x0 x1 T r_x0 i_x1 hm
    rw [sX2_takeBlast_16]
    unfold sX2_takeBlast_81 sX2_takeBlast_54
    obtain ⟨C_16, hC_16⟩ : ∃ C : Int, C = x1.toInt := ⟨_, rfl⟩
    have hk_16 : ∀ {h : Hp} {x0 : Nat} {x1 : Int32}, TH ρ c h → ρ x0 = 3 → Rg (0) (12) (x1) → C_16 < x1.toInt → Sat (sX2_takeBlast_16 F f h x0 x1) (ZI ρ c (0) (1)) := by
      intro h' x0' x1' T' r_x0' i_x1' hl
      exact ih T' r_x0' i_x1' (by have := i_x1'.1; have := i_x1'.2; omega)
    have hc_16 : C_16 ≤ x1.toInt := by omega
    refine s_br (fun c_1 => ?_) (fun c_1 => ?_)
    · have _ := c_1
      have i_f_2 : Rg (12) (12) (x1) := rg_le2 c_1 (rg_b rfl : Rg (12) (12) ((12 : Int32))) i_x1
      exact s_some ⟨(T), (rg_m (rg_b rfl : Rg (1) (1) ((1 : Int32))) (by decide))⟩
    · have _ := c_1
      have i_f_3 : Rg (0) (11) (x1) := rg_lt1 (nle_lt c_1) i_x1 (rg_b rfl : Rg (12) (12) ((12 : Int32)))
      refine s_br (fun c_4 => ?_) (fun c_4 => ?_)
      · have _ := c_4
        have i_f_5 : Rg (1) (1) ((hI h x0 4)) := rg_eq c_4 (rg_b rfl : Rg (1) (1) ((1 : Int32)))
        refine s_cI0 (zX2_toldMan hF m1 m2 T r_x0) (fun o_3 e_o_3 i_o_3 => ?_)
        have T_6 := th_eq e_o_3 T
        refine s_br (fun c_7 => ?_) (fun c_7 => ?_)
        · have _ := c_7
          have i_f_8 : Rg (-1) (-1) (o_3.1) := rg_eq c_7 (rg_b rfl : Rg (-1) (-1) ((- 1 : Int32)))
          exact s_some ⟨(T_6), (rg_m (rg_b rfl : Rg (0) (0) ((0 : Int32))) (by decide))⟩
        · have _ := c_7
          have i_f_9 : Rg (0) (11) (o_3.1) := rg_nlo c_7 i_o_3 (rg_b rfl : Rg (-1) (-1) ((- 1 : Int32)))
          obtain ⟨r_5, e_r_5, q_r_5⟩ := thM T_6 r_x0 (k := 3) (i := 1) (j := 2) (k2 := 2) rfl (by decide) rfl (by decide) m2
          refine s_ref e_r_5 ?_
          refine s_br (fun c_10 => ?_) (fun c_10 => ?_)
          · have _ := c_10
            have i_f_11 : Rg (0) (0) ((((hI o_3.2 r_5 11) >>> (o_3.1 &&& 31)) &&& (1 : Int32))) := rg_eq c_10 (rg_b rfl : Rg (0) (0) (0 : Int32))
            refine s_ref e_r_5 ?_
            refine s_hq (th_wI T_6 q_r_5 (k := 2) (lo := (0)) (hi := (4095)) rfl ((rg_or (n := 12) (rg_m (thI T_6 q_r_5 (k := 2) (i := 11) rfl : Rg (0) (4095) ((hI o_3.2 r_5 11))) (by decide) : Rg (0) (4095) ((hI o_3.2 r_5 11))) (rg_m (rg_shl (n := 11) (rg_m (rg_b rfl : Rg (1) (1) ((1 : Int32))) (by decide) : Rg (0) (1) ((1 : Int32))) (rg_m i_f_9 (by decide) : Rg (0) (11) (o_3.1)) (by decide) : Rg (0) (2048) (((1 : Int32) <<< (o_3.1 &&& 31)))) (by decide) : Rg (0) (2048) (((1 : Int32) <<< (o_3.1 &&& 31)))) (by decide) : Rg (0) (4095) (((hI o_3.2 r_5 11) ||| ((1 : Int32) <<< (o_3.1 &&& 31))))) : Rg (0) (4095) (((hI o_3.2 r_5 11) ||| ((1 : Int32) <<< (o_3.1 &&& 31))))) (by decide) (by decide) (pm_a hA rfl)) (fun h_8 T_12 w_13 => ?_)
            refine s_cV (zX2_advance hF m1 (pmA_s hA rfl) T_12 r_x0) (fun o_9 T_14 => ?_)
            refine s_q (fun v_10 e_15 => ?_)
            have i_v_10 : Rg (1) (12) (v_10) := by rw [e_15]; exact (rg_add i_f_3 (rg_b rfl : Rg (1) (1) ((1 : Int32))) (by decide) : Rg (1) (12) (x1 + (1 : Int32)))
            have m_16 : (v_10).toInt = x1.toInt + 1 := by rw [e_15]; exact rg_inc i_f_3 (by decide)
            exact hk_16 T_14 r_x0 (rg_m i_v_10 (by decide)) (by have := hc_16; omega)
          · have _ := c_10
            have i_f_17 : Rg (1) (1) ((((hI o_3.2 r_5 11) >>> (o_3.1 &&& 31)) &&& (1 : Int32))) := rg_nlo c_10 (rg_and (rg_b rfl : Rg (1) (1) ((1 : Int32))) (by decide) : Rg (0) (1) ((((hI o_3.2 r_5 11) >>> (o_3.1 &&& 31)) &&& (1 : Int32)))) (rg_b rfl : Rg (0) (0) (0 : Int32))
            exact s_some ⟨(T_6), (rg_m (rg_b rfl : Rg (0) (0) ((0 : Int32))) (by decide))⟩
      · have _ := c_4
        exact s_some ⟨(T), (rg_m (rg_b rfl : Rg (1) (1) ((1 : Int32))) (by decide))⟩
set_option maxRecDepth 20000 in
theorem zX2_takeBlast {ρ : Nat → Nat} {c : Cm} {F : Nat} (hF : 700000 ≤ F) (m1 : c.2.1 1 = true) (m2 : c.2.1 2 = true) (hA : pmA c [(2, 10), (2, 11), (3, 2), (3, 3), (3, 4), (3, 5)]) {h : Hp} {x0 : Nat} (T : TH ρ c h) (r_x0 : ρ x0 = 3) : Sat (sX2_takeBlast F h x0) (ZI ρ c (0) (1)) := by
  unfold sX2_takeBlast 
  obtain ⟨r_1, e_r_1, q_r_1⟩ := thM T r_x0 (k := 3) (i := 1) (j := 2) (k2 := 2) rfl (by decide) rfl (by decide) m2
  refine s_ref e_r_1 ?_
  refine s_hq (th_wI T q_r_1 (k := 2) (lo := (0)) (hi := (15)) rfl ((rg_or (n := 4) (rg_m (thI T q_r_1 (k := 2) (i := 10) rfl : Rg (0) (15) ((hI h r_1 10))) (by decide) : Rg (0) (15) ((hI h r_1 10))) (rg_m (rg_b rfl : Rg (8) (8) ((8 : Int32))) (by decide) : Rg (0) (8) ((8 : Int32))) (by decide) : Rg (0) (15) (((hI h r_1 10) ||| (8 : Int32)))) : Rg (0) (15) (((hI h r_1 10) ||| (8 : Int32)))) (by decide) (by decide) (pm_a hA rfl)) (fun h_2 T_1 w_2 => ?_)
  have m_3 : Rg (0) (12) ((0 : Int32)) := (rg_m (rg_b rfl : Rg (0) (0) ((0 : Int32))) (by decide))
  exact zX2_takeBlast_16 hF m1 m2 (pmA_s hA rfl) F T_1 r_x0 (rg_m (rg_b rfl : Rg (0) (0) ((0 : Int32))) (by decide)) (by have := m_3.1; have := m_3.2; omega)
set_option maxRecDepth 20000 in
theorem zX2_takeCastle {ρ : Nat → Nat} {c : Cm} {F : Nat} (hF : 700000 ≤ F) (m1 : c.2.1 1 = true) (m2 : c.2.1 2 = true) (hA : pmA c [(2, 6), (3, 2), (3, 3), (3, 4), (3, 5)]) {h : Hp} {x0 : Nat} (T : TH ρ c h) (r_x0 : ρ x0 = 3) : Sat (sX2_takeCastle F h x0) (ZI ρ c (0) (1)) := by
  unfold sX2_takeCastle sX2_takeCastle_21
  refine s_cI0 (zX2_toldMan hF m1 m2 T r_x0) (fun o_1 e_o_1 i_o_1 => ?_)
  have T_1 := th_eq e_o_1 T
  refine s_br (fun c_2 => ?_) (fun c_2 => ?_)
  · have _ := c_2
    have i_f_3 : Rg (-1) (-1) (o_1.1) := rg_eq c_2 (rg_b rfl : Rg (-1) (-1) ((- 1 : Int32)))
    exact s_some ⟨(T_1), (rg_m (rg_b rfl : Rg (0) (0) ((0 : Int32))) (by decide))⟩
  · have _ := c_2
    have i_f_4 : Rg (0) (11) (o_1.1) := rg_nlo c_2 i_o_1 (rg_b rfl : Rg (-1) (-1) ((- 1 : Int32)))
    obtain ⟨r_3, e_r_3, q_r_3⟩ := thM T_1 r_x0 (k := 3) (i := 1) (j := 2) (k2 := 2) rfl (by decide) rfl (by decide) m2
    refine s_ref e_r_3 ?_
    refine s_br (fun c_5 => ?_) (fun c_5 => ?_)
    · have _ := c_5
      have i_f_6 : Rg (0) (11) ((hI o_1.2 r_3 4)) := rg_eq c_5.symm i_f_4
      exact s_some ⟨(T_1), (rg_m (rg_b rfl : Rg (0) (0) ((0 : Int32))) (by decide))⟩
    · have _ := c_5
      refine s_ref e_r_3 ?_
      refine s_hq (th_wI T_1 q_r_3 (k := 2) (lo := (-1)) (hi := (11)) rfl ((rg_m i_f_4 (by decide)) : Rg (-1) (11) (o_1.1)) (by decide) (by decide) (pm_a hA rfl)) (fun h_6 T_7 w_8 => ?_)
      refine s_cV (zX2_advance hF m1 (pmA_s hA rfl) T_7 r_x0) (fun o_7 T_9 => ?_)
      exact s_some ⟨(T_9), (rg_m (rg_b rfl : Rg (1) (1) ((1 : Int32))) (by decide))⟩
set_option maxRecDepth 20000 in
theorem zX2_takeChecks {ρ : Nat → Nat} {c : Cm} {F : Nat} (hF : 700000 ≤ F) (m1 : c.2.1 1 = true) (m2 : c.2.1 2 = true) (hA : pmA c [(2, 7), (3, 2), (3, 3), (3, 4), (3, 5)]) {h : Hp} {x0 : Nat} (T : TH ρ c h) (r_x0 : ρ x0 = 3) : Sat (sX2_takeChecks F h x0) (ZI ρ c (0) (1)) := by
  unfold sX2_takeChecks 
  refine s_cP0 (zX2_isNumber hF ((rg_b rfl : Rg (1) (1) ((1 : Int32))) : Rg (1) (1) ((1 : Int32))) ((rg_b rfl : Rg (9) (9) ((9 : Int32))) : Rg (9) (9) ((9 : Int32)))) (fun o_1 e_o_1 i_o_1 p_o_1 => ?_)
  have T_1 := th_eq e_o_1 T
  refine s_br (fun c_2 => ?_) (fun c_2 => ?_)
  · have _ := c_2
    have i_f_3 : Rg (0) (0) (o_1.1) := rg_eq c_2 (rg_b rfl : Rg (0) (0) (0 : Int32))
    exact s_some ⟨(T_1), (rg_m (rg_b rfl : Rg (0) (0) ((0 : Int32))) (by decide))⟩
  · have _ := c_2
    have i_f_4 : Rg (1) (1) (o_1.1) := rg_nlo c_2 i_o_1 (rg_b rfl : Rg (0) (0) (0 : Int32))
    have p_f_5 := p_o_1 c_2
    obtain ⟨r_3, e_r_3, q_r_3⟩ := thM T_1 r_x0 (k := 3) (i := 1) (j := 2) (k2 := 2) rfl (by decide) rfl (by decide) m2
    refine s_ref e_r_3 ?_
    refine s_hq (th_wI T_1 q_r_3 (k := 2) (lo := (0)) (hi := (9)) rfl ((rg_m ((rg_he e_o_1 p_f_5) : Rg (1) (9) ((hI o_1.2 x0 5))) (by decide)) : Rg (0) (9) ((hI o_1.2 x0 5))) (by decide) (by decide) (pm_a hA rfl)) (fun h_4 T_6 w_7 => ?_)
    refine s_cV (zX2_advance hF m1 (pmA_s hA rfl) T_6 r_x0) (fun o_5 T_8 => ?_)
    exact s_some ⟨(T_8), (rg_m (rg_b rfl : Rg (1) (1) ((1 : Int32))) (by decide))⟩
set_option maxRecDepth 20000 in
theorem zX2_takeHill_20 {ρ : Nat → Nat} {c : Cm} {F : Nat} (hF : 700000 ≤ F) (m1 : c.2.1 1 = true) (m2 : c.2.1 2 = true) {k_2 : Hp → Nat → Int32 → Option (Int32 × Hp)} {C_2 : Int} (hk_2 : ∀ {h : Hp} {x0 : Nat} {x1 : Int32}, TH ρ c h → ρ x0 = 3 → Rg (0) (65) (x1) → C_2 < x1.toInt → Sat (k_2 h x0 x1) (ZI ρ c (0) (1))) (hA : pmA c [(2, 13), (3, 2), (3, 3), (3, 4), (3, 5)]) {h : Hp} {x0 : Nat} {x1 : Int32} (T : TH ρ c h) (r_x0 : ρ x0 = 3) (i_x1 : Rg (0) (64) (x1)) (hc_2 : C_2 ≤ x1.toInt) : Sat (sX2_takeHill_20 F k_2 h x0 x1) (ZI ρ c (0) (1)) := by
  unfold sX2_takeHill_20 sX2_takeHill_44
  refine s_cI0 (zX2_oneLetter hF m1 T r_x0) (fun o_1 e_o_1 i_o_1 => ?_)
  have T_1 := th_eq e_o_1 T
  refine s_br (fun c_2 => ?_) (fun c_2 => ?_)
  · have _ := c_2
    have i_f_3 : Rg (-1) (-1) (o_1.1) := rg_eq c_2 (rg_b rfl : Rg (-1) (-1) ((- 1 : Int32)))
    exact s_some ⟨(T_1), (rg_m (rg_b rfl : Rg (0) (0) ((0 : Int32))) (by decide))⟩
  · have _ := c_2
    have i_f_4 : Rg (0) (255) (o_1.1) := rg_nlo c_2 i_o_1 (rg_b rfl : Rg (-1) (-1) ((- 1 : Int32)))
    obtain ⟨r_3, e_r_3, q_r_3⟩ := thM T_1 r_x0 (k := 3) (i := 1) (j := 2) (k2 := 2) rfl (by decide) rfl (by decide) m2
    refine s_ref e_r_3 ?_
    refine s_br (fun c_5 => ?_) (fun c_5 => ?_)
    · have _ := c_5
      have i_f_6 : Rg (-97) (7) ((o_1.1 - (97 : Int32))) := rg_lt1 c_5 (rg_sub i_f_4 (rg_b rfl : Rg (97) (97) ((97 : Int32))) (by decide) : Rg (-97) (158) ((o_1.1 - (97 : Int32)))) (thI T_1 q_r_3 (k := 2) (i := 0) rfl : Rg (0) (8) ((hI o_1.2 r_3 0)))
      refine s_cV (zX2_advance hF m1 (pmA_s hA rfl) T_1 r_x0) (fun o_5 T_7 => ?_)
      obtain ⟨r_6, e_r_6, q_r_6⟩ := thM T_7 r_x0 (k := 3) (i := 1) (j := 2) (k2 := 2) rfl (by decide) rfl (by decide) m2
      refine s_ref e_r_6 ?_
      refine s_cP0 (zX2_isNumber hF ((rg_b rfl : Rg (1) (1) ((1 : Int32))) : Rg (1) (1) ((1 : Int32))) ((thI T_7 q_r_6 (k := 2) (i := 1) rfl : Rg (0) (8) ((hI o_5 r_6 1))) : Rg (0) (8) ((hI o_5 r_6 1)))) (fun o_7 e_o_7 i_o_7 p_o_7 => ?_)
      have T_8 := th_eq e_o_7 T_7
      refine s_br (fun c_9 => ?_) (fun c_9 => ?_)
      · have _ := c_9
        have i_f_10 : Rg (0) (0) (o_7.1) := rg_eq c_9 (rg_b rfl : Rg (0) (0) (0 : Int32))
        exact s_some ⟨(T_8), (rg_m (rg_b rfl : Rg (0) (0) ((0 : Int32))) (by decide))⟩
      · have _ := c_9
        have i_f_11 : Rg (1) (1) (o_7.1) := rg_nlo c_9 i_o_7 (rg_b rfl : Rg (0) (0) (0 : Int32))
        have p_f_12 := p_o_7 c_9
        refine s_ref (hr_e e_o_7 e_r_6) ?_
        refine s_q (fun v_10 e_13 => ?_)
        refine s_ref (hr_e e_o_7 e_r_6) ?_
        refine s_br (fun c_14 => ?_) (fun c_14 => ?_)
        · have _ := c_14
          refine s_ref (hr_e e_o_7 e_r_6) ?_
          refine s_hq (th_wJ T_8 q_r_6 (k := 2) (by decide) (pm_a hA rfl)) (fun h_14 T_15 w_16 => ?_)
          refine s_cV (zX2_advance hF m1 (pmA_s hA rfl) T_15 r_x0) (fun o_15 T_17 => ?_)
          refine s_q (fun v_16 e_18 => ?_)
          have i_v_16 : Rg (1) (65) (v_16) := by rw [e_18]; exact (rg_add i_x1 (rg_b rfl : Rg (1) (1) ((1 : Int32))) (by decide) : Rg (1) (65) (x1 + (1 : Int32)))
          have m_19 : (v_16).toInt = x1.toInt + 1 := by rw [e_18]; exact rg_inc i_x1 (by decide)
          exact hk_2 T_17 r_x0 (rg_m i_v_16 (by decide)) (by have := hc_2; omega)
        · have _ := c_14
          exact s_some ⟨(T_8), (rg_m (rg_b rfl : Rg (0) (0) ((0 : Int32))) (by decide))⟩
    · have _ := c_5
      have i_f_20 : Rg (0) (158) ((o_1.1 - (97 : Int32))) := rg_le2 (nlt_le c_5) (thI T_1 q_r_3 (k := 2) (i := 0) rfl : Rg (0) (8) ((hI o_1.2 r_3 0))) (rg_sub i_f_4 (rg_b rfl : Rg (97) (97) ((97 : Int32))) (by decide) : Rg (-97) (158) ((o_1.1 - (97 : Int32))))
      exact s_some ⟨(T_1), (rg_m (rg_b rfl : Rg (0) (0) ((0 : Int32))) (by decide))⟩
set_option maxRecDepth 20000 in
theorem zX2_takeHill_2 {ρ : Nat → Nat} {c : Cm} {F : Nat} (hF : 700000 ≤ F) (m1 : c.2.1 1 = true) (m2 : c.2.1 2 = true) (hA : pmA c [(2, 13), (3, 2), (3, 3), (3, 4), (3, 5)]) : ∀ (f : Nat) {h : Hp} {x0 : Nat} {x1 : Int32}, TH ρ c h → ρ x0 = 3 → Rg (0) (65) (x1) → (65 - x1.toInt).toNat < f → Sat (sX2_takeHill_2 F f h x0 x1) (ZI ρ c (0) (1)) := by
  intro f
  induction f with
  | zero => intros; omega
  | succ f ih =>
    intro h x0 x1 T r_x0 i_x1 hm
    rw [sX2_takeHill_2]
    unfold sX2_takeHill_128
    obtain ⟨C_2, hC_2⟩ : ∃ C : Int, C = x1.toInt := ⟨_, rfl⟩
    have hk_2 : ∀ {h : Hp} {x0 : Nat} {x1 : Int32}, TH ρ c h → ρ x0 = 3 → Rg (0) (65) (x1) → C_2 < x1.toInt → Sat (sX2_takeHill_2 F f h x0 x1) (ZI ρ c (0) (1)) := by
      intro h' x0' x1' T' r_x0' i_x1' hl
      exact ih T' r_x0' i_x1' (by have := i_x1'.1; have := i_x1'.2; omega)
    have hc_2 : C_2 ≤ x1.toInt := by omega
    refine s_br (fun c_1 => ?_) (fun c_1 => ?_)
    · have _ := c_1
      have i_f_2 : Rg (65) (65) (x1) := rg_lt2 c_1 (rg_b rfl : Rg (64) (64) ((64 : Int32))) i_x1
      exact s_some ⟨(T), (rg_m (rg_b rfl : Rg (1) (1) ((1 : Int32))) (by decide))⟩
    · have _ := c_1
      have i_f_3 : Rg (0) (64) (x1) := rg_le1 (nlt_le c_1) i_x1 (rg_b rfl : Rg (64) (64) ((64 : Int32)))
      refine s_br (fun c_4 => ?_) (fun c_4 => ?_)
      · have _ := c_4
        have i_f_5 : Rg (0) (0) (x1) := rg_eq c_4 (rg_b rfl : Rg (0) (0) (0 : Int32))
        exact zX2_takeHill_20 hF m1 m2 @hk_2 (pmA_s hA rfl) T r_x0 (rg_m i_f_5 (by decide)) hc_2
      · have _ := c_4
        have i_f_6 : Rg (1) (64) (x1) := rg_nlo c_4 i_f_3 (rg_b rfl : Rg (0) (0) (0 : Int32))
        refine s_br (fun c_7 => ?_) (fun c_7 => ?_)
        · have _ := c_7
          have i_f_8 : Rg (1) (1) ((hI h x0 4)) := rg_eq c_7 (rg_b rfl : Rg (1) (1) ((1 : Int32)))
          exact zX2_takeHill_20 hF m1 m2 @hk_2 (pmA_s hA rfl) T r_x0 (rg_m i_f_6 (by decide)) hc_2
        · have _ := c_7
          exact s_some ⟨(T), (rg_m (rg_b rfl : Rg (1) (1) ((1 : Int32))) (by decide))⟩
set_option maxRecDepth 20000 in
theorem zX2_takeHill {ρ : Nat → Nat} {c : Cm} {F : Nat} (hF : 700000 ≤ F) (m1 : c.2.1 1 = true) (m2 : c.2.1 2 = true) (hA : pmA c [(2, 13), (3, 2), (3, 3), (3, 4), (3, 5)]) {h : Hp} {x0 : Nat} (T : TH ρ c h) (r_x0 : ρ x0 = 3) : Sat (sX2_takeHill F h x0) (ZI ρ c (0) (1)) := by
  unfold sX2_takeHill 
  have m_1 : Rg (0) (65) ((0 : Int32)) := (rg_m (rg_b rfl : Rg (0) (0) ((0 : Int32))) (by decide))
  exact zX2_takeHill_2 hF m1 m2 (pmA_s hA rfl) F T r_x0 (rg_m (rg_b rfl : Rg (0) (0) ((0 : Int32))) (by decide)) (by have := m_1.1; have := m_1.2; omega)
set_option maxRecDepth 20000 in
theorem zX2_takeRoyal {ρ : Nat → Nat} {c : Cm} {F : Nat} (hF : 700000 ≤ F) (m1 : c.2.1 1 = true) (m2 : c.2.1 2 = true) (hA : pmA c [(2, 4), (3, 2), (3, 3), (3, 4), (3, 5)]) {h : Hp} {x0 : Nat} (T : TH ρ c h) (r_x0 : ρ x0 = 3) : Sat (sX2_takeRoyal F h x0) (ZI ρ c (0) (1)) := by
  unfold sX2_takeRoyal sX2_takeRoyal_35
  refine s_cI0 (zX2_toldMan hF m1 m2 T r_x0) (fun o_1 e_o_1 i_o_1 => ?_)
  have T_1 := th_eq e_o_1 T
  refine s_br (fun c_2 => ?_) (fun c_2 => ?_)
  · have _ := c_2
    have i_f_3 : Rg (-1) (-1) (o_1.1) := rg_eq c_2 (rg_b rfl : Rg (-1) (-1) ((- 1 : Int32)))
    exact s_some ⟨(T_1), (rg_m (rg_b rfl : Rg (0) (0) ((0 : Int32))) (by decide))⟩
  · have _ := c_2
    have i_f_4 : Rg (0) (11) (o_1.1) := rg_nlo c_2 i_o_1 (rg_b rfl : Rg (-1) (-1) ((- 1 : Int32)))
    obtain ⟨r_3, e_r_3, q_r_3⟩ := thM T_1 r_x0 (k := 3) (i := 1) (j := 2) (k2 := 2) rfl (by decide) rfl (by decide) m2
    refine s_ref e_r_3 ?_
    refine s_cI0 (zX1_becomesOthers hF T_1 q_r_3 (rg_m i_f_4 (by decide))) (fun o_4 e_o_4 i_o_4 => ?_)
    have T_5 := th_eq e_o_4 T_1
    refine s_br (fun c_6 => ?_) (fun c_6 => ?_)
    · have _ := c_6
      have i_f_7 : Rg (0) (0) (o_4.1) := rg_eq c_6 (rg_b rfl : Rg (0) (0) (0 : Int32))
      refine s_ref (hr_e e_o_4 e_r_3) ?_
      refine s_br (fun c_8 => ?_) (fun c_8 => ?_)
      · have _ := c_8
        have i_f_9 : Rg (0) (0) ((((hI o_4.2 r_3 12) >>> (o_1.1 &&& 31)) &&& (1 : Int32))) := rg_eq c_8 (rg_b rfl : Rg (0) (0) (0 : Int32))
        refine s_ref (hr_e e_o_4 e_r_3) ?_
        refine s_hq (th_wI T_5 q_r_3 (k := 2) (lo := (-1)) (hi := (11)) rfl ((rg_m i_f_4 (by decide)) : Rg (-1) (11) (o_1.1)) (by decide) (by decide) (pm_a hA rfl)) (fun h_9 T_10 w_11 => ?_)
        refine s_cV (zX2_advance hF m1 (pmA_s hA rfl) T_10 r_x0) (fun o_10 T_12 => ?_)
        exact s_some ⟨(T_12), (rg_m (rg_b rfl : Rg (1) (1) ((1 : Int32))) (by decide))⟩
      · have _ := c_8
        have i_f_13 : Rg (1) (1) ((((hI o_4.2 r_3 12) >>> (o_1.1 &&& 31)) &&& (1 : Int32))) := rg_nlo c_8 (rg_and (rg_b rfl : Rg (1) (1) ((1 : Int32))) (by decide) : Rg (0) (1) ((((hI o_4.2 r_3 12) >>> (o_1.1 &&& 31)) &&& (1 : Int32)))) (rg_b rfl : Rg (0) (0) (0 : Int32))
        exact s_some ⟨(T_5), (rg_m (rg_b rfl : Rg (0) (0) ((0 : Int32))) (by decide))⟩
    · have _ := c_6
      have i_f_14 : Rg (1) (1) (o_4.1) := rg_nlo c_6 i_o_4 (rg_b rfl : Rg (0) (0) (0 : Int32))
      exact s_some ⟨(T_5), (rg_m (rg_b rfl : Rg (0) (0) ((0 : Int32))) (by decide))⟩
set_option maxRecDepth 20000 in
theorem zX2_wonOrLost {ρ : Nat → Nat} {c : Cm} {F : Nat} (hF : 700000 ≤ F) (m1 : c.2.1 1 = true) (hA : pmA c [(3, 2), (3, 3), (3, 4), (3, 5)]) {h : Hp} {x0 : Nat} (T : TH ρ c h) (r_x0 : ρ x0 = 3) : Sat (sX2_wonOrLost F h x0) (ZI ρ c (0) (2)) := by
  unfold sX2_wonOrLost sX2_wonOrLost_27 sX2_wonOrLost_36
  refine s_cI0 (zX2_isWord hF m1 T r_x0) (fun o_1 e_o_1 i_o_1 => ?_)
  have T_1 := th_eq e_o_1 T
  refine s_br (fun c_2 => ?_) (fun c_2 => ?_)
  · have _ := c_2
    have i_f_3 : Rg (0) (0) (o_1.1) := rg_eq c_2 (rg_b rfl : Rg (0) (0) (0 : Int32))
    refine s_cI0 (zX2_isWord hF m1 T_1 r_x0) (fun o_3 e_o_3 i_o_3 => ?_)
    have T_4 := th_eq e_o_3 T_1
    refine s_br (fun c_5 => ?_) (fun c_5 => ?_)
    · have _ := c_5
      have i_f_6 : Rg (0) (0) (o_3.1) := rg_eq c_5 (rg_b rfl : Rg (0) (0) (0 : Int32))
      refine s_br (fun c_7 => ?_) (fun c_7 => ?_)
      · have _ := c_7
        exact s_some ⟨(T_4), (rg_m (rg_b rfl : Rg (0) (0) ((0 : Int32))) (by decide))⟩
      · have _ := c_7
        exact (rc_ne c_7 (rg_b rfl : Rg (0) (0) ((0 : Int32))) (rg_b rfl : Rg (0) (0) (0 : Int32))).elim
    · have _ := c_5
      have i_f_8 : Rg (1) (1) (o_3.1) := rg_nlo c_5 i_o_3 (rg_b rfl : Rg (0) (0) (0 : Int32))
      refine s_br (fun c_9 => ?_) (fun c_9 => ?_)
      · have _ := c_9
        exact (rc_eq c_9 (rg_b rfl : Rg (2) (2) ((2 : Int32))) (rg_b rfl : Rg (0) (0) (0 : Int32)) (by decide)).elim
      · have _ := c_9
        refine s_cV (zX2_advance hF m1 (pmA_s hA rfl) T_4 r_x0) (fun o_2q4 T_10 => ?_)
        exact s_some ⟨(T_10), (rg_m (rg_b rfl : Rg (2) (2) ((2 : Int32))) (by decide))⟩
  · have _ := c_2
    have i_f_11 : Rg (1) (1) (o_1.1) := rg_nlo c_2 i_o_1 (rg_b rfl : Rg (0) (0) (0 : Int32))
    refine s_br (fun c_12 => ?_) (fun c_12 => ?_)
    · have _ := c_12
      exact (rc_eq c_12 (rg_b rfl : Rg (1) (1) ((1 : Int32))) (rg_b rfl : Rg (0) (0) (0 : Int32)) (by decide)).elim
    · have _ := c_12
      refine s_cV (zX2_advance hF m1 (pmA_s hA rfl) T_1 r_x0) (fun o_2q7 T_13 => ?_)
      exact s_some ⟨(T_13), (rg_m (rg_b rfl : Rg (1) (1) ((1 : Int32))) (by decide))⟩
set_option maxRecDepth 20000 in
theorem zX2_takeOnce {ρ : Nat → Nat} {c : Cm} {F : Nat} (hF : 700000 ≤ F) (m1 : c.2.1 1 = true) (m2 : c.2.1 2 = true) (hA : pmA c [(2, 4), (2, 6), (2, 7), (2, 8), (2, 9), (2, 10), (2, 11), (2, 13), (3, 2), (3, 3), (3, 4), (3, 5)]) {h : Hp} {x0 : Nat} {x1 : Int32} (T : TH ρ c h) (r_x0 : ρ x0 = 3) (i_x1 : Rg (1) (512) (x1)) : Sat (sX2_takeOnce F h x0 x1) (ZI ρ c (0) (1)) := by
  unfold sX2_takeOnce sX2_takeOnce_180 sX2_takeOnce_207
  refine s_br (fun c_1 => ?_) (fun c_1 => ?_)
  · have _ := c_1
    have i_f_2 : Rg (1) (1) (x1) := rg_eq c_1 (rg_b rfl : Rg (1) (1) ((1 : Int32)))
    refine s_cI (zX2_takeRoyal hF m1 m2 (pmA_s hA rfl) T r_x0) (fun o_1 T_3 i_o_1 => ?_)
    refine s_gd (rg_bool i_o_1) ?_
    exact s_some ⟨(T_3), i_o_1⟩
  · have _ := c_1
    have i_f_4 : Rg (2) (512) (x1) := rg_nlo c_1 i_x1 (rg_b rfl : Rg (1) (1) ((1 : Int32)))
    refine s_br (fun c_5 => ?_) (fun c_5 => ?_)
    · have _ := c_5
      have i_f_6 : Rg (2) (2) (x1) := rg_eq c_5 (rg_b rfl : Rg (2) (2) ((2 : Int32)))
      refine s_cI (zX2_takeCastle hF m1 m2 (pmA_s hA rfl) T r_x0) (fun o_4 T_7 i_o_4 => ?_)
      refine s_gd (rg_bool i_o_4) ?_
      exact s_some ⟨(T_7), i_o_4⟩
    · have _ := c_5
      have i_f_8 : Rg (3) (512) (x1) := rg_nlo c_5 i_f_4 (rg_b rfl : Rg (2) (2) ((2 : Int32)))
      refine s_br (fun c_9 => ?_) (fun c_9 => ?_)
      · have _ := c_9
        have i_f_10 : Rg (4) (4) (x1) := rg_eq c_9 (rg_b rfl : Rg (4) (4) ((4 : Int32)))
        obtain ⟨r_7, e_r_7, q_r_7⟩ := thM T r_x0 (k := 3) (i := 1) (j := 2) (k2 := 2) rfl (by decide) rfl (by decide) m2
        refine s_ref e_r_7 ?_
        refine s_hq (th_wI T q_r_7 (k := 2) (lo := (0)) (hi := (15)) rfl ((rg_or (n := 4) (rg_m (thI T q_r_7 (k := 2) (i := 10) rfl : Rg (0) (15) ((hI h r_7 10))) (by decide) : Rg (0) (15) ((hI h r_7 10))) (rg_m (rg_b rfl : Rg (1) (1) ((1 : Int32))) (by decide) : Rg (0) (1) ((1 : Int32))) (by decide) : Rg (0) (15) (((hI h r_7 10) ||| (1 : Int32)))) : Rg (0) (15) (((hI h r_7 10) ||| (1 : Int32)))) (by decide) (by decide) (pm_a hA rfl)) (fun h_8 T_11 w_12 => ?_)
        exact s_some ⟨(T_11), (rg_m (rg_b rfl : Rg (1) (1) ((1 : Int32))) (by decide))⟩
      · have _ := c_9
        refine s_br (fun c_13 => ?_) (fun c_13 => ?_)
        · have _ := c_13
          have i_f_14 : Rg (8) (8) (x1) := rg_eq c_13 (rg_b rfl : Rg (8) (8) ((8 : Int32)))
          obtain ⟨r_10, e_r_10, q_r_10⟩ := thM T r_x0 (k := 3) (i := 1) (j := 2) (k2 := 2) rfl (by decide) rfl (by decide) m2
          refine s_ref e_r_10 ?_
          refine s_hq (th_wI T q_r_10 (k := 2) (lo := (0)) (hi := (15)) rfl ((rg_or (n := 4) (rg_m (thI T q_r_10 (k := 2) (i := 10) rfl : Rg (0) (15) ((hI h r_10 10))) (by decide) : Rg (0) (15) ((hI h r_10 10))) (rg_m (rg_b rfl : Rg (2) (2) ((2 : Int32))) (by decide) : Rg (0) (2) ((2 : Int32))) (by decide) : Rg (0) (15) (((hI h r_10 10) ||| (2 : Int32)))) : Rg (0) (15) (((hI h r_10 10) ||| (2 : Int32)))) (by decide) (by decide) (pm_a hA rfl)) (fun h_11 T_15 w_16 => ?_)
          exact s_some ⟨(T_15), (rg_m (rg_b rfl : Rg (1) (1) ((1 : Int32))) (by decide))⟩
        · have _ := c_13
          refine s_br (fun c_17 => ?_) (fun c_17 => ?_)
          · have _ := c_17
            have i_f_18 : Rg (16) (16) (x1) := rg_eq c_17 (rg_b rfl : Rg (16) (16) ((16 : Int32)))
            obtain ⟨r_13, e_r_13, q_r_13⟩ := thM T r_x0 (k := 3) (i := 1) (j := 2) (k2 := 2) rfl (by decide) rfl (by decide) m2
            refine s_ref e_r_13 ?_
            refine s_hq (th_wI T q_r_13 (k := 2) (lo := (0)) (hi := (15)) rfl ((rg_or (n := 4) (rg_m (thI T q_r_13 (k := 2) (i := 10) rfl : Rg (0) (15) ((hI h r_13 10))) (by decide) : Rg (0) (15) ((hI h r_13 10))) (rg_m (rg_b rfl : Rg (4) (4) ((4 : Int32))) (by decide) : Rg (0) (4) ((4 : Int32))) (by decide) : Rg (0) (15) (((hI h r_13 10) ||| (4 : Int32)))) : Rg (0) (15) (((hI h r_13 10) ||| (4 : Int32)))) (by decide) (by decide) (pm_a hA rfl)) (fun h_14 T_19 w_20 => ?_)
            exact s_some ⟨(T_19), (rg_m (rg_b rfl : Rg (1) (1) ((1 : Int32))) (by decide))⟩
          · have _ := c_17
            refine s_br (fun c_21 => ?_) (fun c_21 => ?_)
            · have _ := c_21
              have i_f_22 : Rg (32) (32) (x1) := rg_eq c_21 (rg_b rfl : Rg (32) (32) ((32 : Int32)))
              refine s_cI (zX2_takeBlast hF m1 m2 (pmA_s hA rfl) T r_x0) (fun o_16 T_23 i_o_16 => ?_)
              refine s_gd (rg_bool i_o_16) ?_
              exact s_some ⟨(T_23), i_o_16⟩
            · have _ := c_21
              refine s_br (fun c_24 => ?_) (fun c_24 => ?_)
              · have _ := c_24
                have i_f_25 : Rg (64) (64) (x1) := rg_eq c_24 (rg_b rfl : Rg (64) (64) ((64 : Int32)))
                refine s_cI (zX2_takeChecks hF m1 m2 (pmA_s hA rfl) T r_x0) (fun o_19 T_26 i_o_19 => ?_)
                refine s_gd (rg_bool i_o_19) ?_
                exact s_some ⟨(T_26), i_o_19⟩
              · have _ := c_24
                refine s_br (fun c_27 => ?_) (fun c_27 => ?_)
                · have _ := c_27
                  have i_f_28 : Rg (128) (128) (x1) := rg_eq c_27 (rg_b rfl : Rg (128) (128) ((128 : Int32)))
                  refine s_cI (zX2_takeHill hF m1 m2 (pmA_s hA rfl) T r_x0) (fun o_22 T_29 i_o_22 => ?_)
                  refine s_gd (rg_bool i_o_22) ?_
                  exact s_some ⟨(T_29), i_o_22⟩
                · have _ := c_27
                  refine s_br (fun c_30 => ?_) (fun c_30 => ?_)
                  · have _ := c_30
                    have i_f_31 : Rg (256) (256) (x1) := rg_eq c_30 (rg_b rfl : Rg (256) (256) ((256 : Int32)))
                    obtain ⟨r_25, e_r_25, q_r_25⟩ := thM T r_x0 (k := 3) (i := 1) (j := 2) (k2 := 2) rfl (by decide) rfl (by decide) m2
                    refine s_ref e_r_25 ?_
                    refine s_cI (zX2_wonOrLost hF m1 (pmA_s hA rfl) T r_x0) (fun o_26 T_32 i_o_26 => ?_)
                    refine s_hq (th_wI T_32 q_r_25 (k := 2) (lo := (0)) (hi := (2)) rfl (i_o_26 : Rg (0) (2) (o_26.1)) (by decide) (by decide) (pm_a hA rfl)) (fun h_27 T_33 w_34 => ?_)
                    obtain ⟨r_28, e_r_28, q_r_28⟩ := thM T_33 r_x0 (k := 3) (i := 1) (j := 2) (k2 := 2) rfl (by decide) rfl (by decide) m2
                    refine s_ref e_r_28 ?_
                    refine s_br (fun c_35 => ?_) (fun c_35 => ?_)
                    · have _ := c_35
                      have i_f_36 : Rg (0) (0) ((hI h_27 r_28 8)) := rg_eq c_35 (rg_b rfl : Rg (0) (0) (0 : Int32))
                      refine s_gd (rg_bool (rg_m (rg_b rfl : Rg (0) (0) ((0 : Int32))) (by decide))) ?_
                      exact s_some ⟨(T_33), (rg_m (rg_b rfl : Rg (0) (0) ((0 : Int32))) (by decide))⟩
                    · have _ := c_35
                      have i_f_37 : Rg (1) (2) ((hI h_27 r_28 8)) := rg_nlo c_35 (thI T_33 q_r_28 (k := 2) (i := 8) rfl : Rg (0) (2) ((hI h_27 r_28 8))) (rg_b rfl : Rg (0) (0) (0 : Int32))
                      refine s_gd (rg_bool (rg_m (rg_b rfl : Rg (1) (1) ((1 : Int32))) (by decide))) ?_
                      exact s_some ⟨(T_33), (rg_m (rg_b rfl : Rg (1) (1) ((1 : Int32))) (by decide))⟩
                  · have _ := c_30
                    obtain ⟨r_31, e_r_31, q_r_31⟩ := thM T r_x0 (k := 3) (i := 1) (j := 2) (k2 := 2) rfl (by decide) rfl (by decide) m2
                    refine s_ref e_r_31 ?_
                    refine s_cI (zX2_wonOrLost hF m1 (pmA_s hA rfl) T r_x0) (fun o_32 T_38 i_o_32 => ?_)
                    refine s_hq (th_wI T_38 q_r_31 (k := 2) (lo := (0)) (hi := (2)) rfl (i_o_32 : Rg (0) (2) (o_32.1)) (by decide) (by decide) (pm_a hA rfl)) (fun h_33 T_39 w_40 => ?_)
                    obtain ⟨r_34, e_r_34, q_r_34⟩ := thM T_39 r_x0 (k := 3) (i := 1) (j := 2) (k2 := 2) rfl (by decide) rfl (by decide) m2
                    refine s_ref e_r_34 ?_
                    refine s_br (fun c_41 => ?_) (fun c_41 => ?_)
                    · have _ := c_41
                      have i_f_42 : Rg (0) (0) ((hI h_33 r_34 9)) := rg_eq c_41 (rg_b rfl : Rg (0) (0) (0 : Int32))
                      refine s_gd (rg_bool (rg_m (rg_b rfl : Rg (0) (0) ((0 : Int32))) (by decide))) ?_
                      exact s_some ⟨(T_39), (rg_m (rg_b rfl : Rg (0) (0) ((0 : Int32))) (by decide))⟩
                    · have _ := c_41
                      have i_f_43 : Rg (1) (2) ((hI h_33 r_34 9)) := rg_nlo c_41 (thI T_39 q_r_34 (k := 2) (i := 9) rfl : Rg (0) (2) ((hI h_33 r_34 9))) (rg_b rfl : Rg (0) (0) (0 : Int32))
                      refine s_gd (rg_bool (rg_m (rg_b rfl : Rg (1) (1) ((1 : Int32))) (by decide))) ?_
                      exact s_some ⟨(T_39), (rg_m (rg_b rfl : Rg (1) (1) ((1 : Int32))) (by decide))⟩
set_option maxRecDepth 20000 in
theorem zX2_takeOther_26 {ρ : Nat → Nat} {c : Cm} {F : Nat} (hF : 700000 ≤ F) (m1 : c.2.1 1 = true) (m2 : c.2.1 2 = true) (hA : pmA c [(2, 4), (2, 6), (2, 7), (2, 8), (2, 9), (2, 10), (2, 11), (2, 13), (3, 2), (3, 3), (3, 4), (3, 5), (3, 6)]) {h : Hp} {x0 : Nat} {x1 : Int32} {t0 : Int32} (T : TH ρ c h) (r_x0 : ρ x0 = 3) (i_x1 : Rg (0) (512) (x1)) (i_t0 : Rg (0) (1) (t0)) : Sat (sX2_takeOther_26 F h x0 x1 t0) (ZI ρ c (0) (1)) := by
  unfold sX2_takeOther_26 sX2_takeOther_44
  refine s_br (fun c_1 => ?_) (fun c_1 => ?_)
  · have _ := c_1
    have i_f_2 : Rg (0) (0) (x1) := rg_eq c_1 (rg_b rfl : Rg (0) (0) (0 : Int32))
    exact s_some ⟨(T), (rg_m (rg_b rfl : Rg (0) (0) ((0 : Int32))) (by decide))⟩
  · have _ := c_1
    have i_f_3 : Rg (1) (512) (x1) := rg_nlo c_1 i_x1 (rg_b rfl : Rg (0) (0) (0 : Int32))
    refine s_br (fun c_4 => ?_) (fun c_4 => ?_)
    · have _ := c_4
      have i_f_5 : Rg (0) (0) (t0) := rg_eq c_4 (rg_b rfl : Rg (0) (0) (0 : Int32))
      refine s_br (fun c_6 => ?_) (fun c_6 => ?_)
      · have _ := c_6
        have i_f_7 : Rg (0) (0) (((hI h x0 6) &&& x1)) := rg_eq c_6 (rg_b rfl : Rg (0) (0) (0 : Int32))
        refine s_hq (th_wI T r_x0 (k := 3) (lo := (0)) (hi := (1023)) rfl ((rg_or (n := 10) (rg_m (thI T r_x0 (k := 3) (i := 6) rfl : Rg (0) (1023) ((hI h x0 6))) (by decide) : Rg (0) (1023) ((hI h x0 6))) (rg_m i_f_3 (by decide) : Rg (0) (512) (x1)) (by decide) : Rg (0) (1023) (((hI h x0 6) ||| x1))) : Rg (0) (1023) (((hI h x0 6) ||| x1))) (by decide) (by decide) (pm_a hA rfl)) (fun h_4 T_8 w_9 => ?_)
        refine s_cV (zX2_advance hF m1 (pmA_s hA rfl) T_8 r_x0) (fun o_5 T_10 => ?_)
        refine s_cI (zX2_takeOnce hF m1 m2 (pmA_s hA rfl) T_10 r_x0 i_f_3) (fun o_6 T_11 i_o_6 => ?_)
        refine s_gd (rg_bool i_o_6) ?_
        exact s_some ⟨(T_11), i_o_6⟩
      · have _ := c_6
        have i_f_12 : Rg (1) (512) (((hI h x0 6) &&& x1)) := rg_nlo c_6 (rg_and i_f_3 (by decide) : Rg (0) (512) (((hI h x0 6) &&& x1))) (rg_b rfl : Rg (0) (0) (0 : Int32))
        exact s_some ⟨(T), (rg_m (rg_b rfl : Rg (0) (0) ((0 : Int32))) (by decide))⟩
    · have _ := c_4
      have i_f_13 : Rg (1) (1) (t0) := rg_nlo c_4 i_t0 (rg_b rfl : Rg (0) (0) (0 : Int32))
      exact s_some ⟨(T), (rg_m (rg_b rfl : Rg (0) (0) ((0 : Int32))) (by decide))⟩
set_option maxRecDepth 20000 in
theorem zX2_takeOther {ρ : Nat → Nat} {c : Cm} {F : Nat} (hF : 700000 ≤ F) (m1 : c.2.1 1 = true) (m2 : c.2.1 2 = true) (hA : pmA c [(2, 4), (2, 6), (2, 7), (2, 8), (2, 9), (2, 10), (2, 11), (2, 13), (3, 2), (3, 3), (3, 4), (3, 5), (3, 6)]) {h : Hp} {x0 : Nat} (T : TH ρ c h) (r_x0 : ρ x0 = 3) : Sat (sX2_takeOther F h x0) (ZI ρ c (0) (1)) := by
  unfold sX2_takeOther sX2_takeOther_25
  refine s_cI0 (zX2_onceWord hF m1 T r_x0) (fun o_1 e_o_1 i_o_1 => ?_)
  have T_1 := th_eq e_o_1 T
  refine s_br (fun c_2 => ?_) (fun c_2 => ?_)
  · have _ := c_2
    have i_f_3 : Rg (2) (2) (o_1.1) := rg_eq c_2 (rg_b rfl : Rg (2) (2) ((2 : Int32)))
    obtain ⟨r_3, e_r_3, q_r_3⟩ := thM T_1 r_x0 (k := 3) (i := 1) (j := 2) (k2 := 2) rfl (by decide) rfl (by decide) m2
    refine s_ref e_r_3 ?_
    refine s_br (fun c_4 => ?_) (fun c_4 => ?_)
    · have _ := c_4
      have i_f_5 : Rg (-1) (-1) ((hI o_1.2 r_3 4)) := rg_eq c_4 (rg_b rfl : Rg (-1) (-1) ((- 1 : Int32)))
      exact zX2_takeOther_26 hF m1 m2 (pmA_s hA rfl) T_1 r_x0 (rg_m i_f_3 (by decide)) (rg_m (rg_b rfl : Rg (1) (1) ((1 : Int32))) (by decide))
    · have _ := c_4
      have i_f_6 : Rg (0) (11) ((hI o_1.2 r_3 4)) := rg_nlo c_4 (thI T_1 q_r_3 (k := 2) (i := 4) rfl : Rg (-1) (11) ((hI o_1.2 r_3 4))) (rg_b rfl : Rg (-1) (-1) ((- 1 : Int32)))
      exact zX2_takeOther_26 hF m1 m2 (pmA_s hA rfl) T_1 r_x0 (rg_m i_f_3 (by decide)) (rg_m (rg_b rfl : Rg (0) (0) ((0 : Int32))) (by decide))
  · have _ := c_2
    exact zX2_takeOther_26 hF m1 m2 (pmA_s hA rfl) T_1 r_x0 i_o_1 (rg_m (rg_b rfl : Rg (0) (0) ((0 : Int32))) (by decide))
set_option maxRecDepth 20000 in
theorem zX1_hasCatch_12 {ρ : Nat → Nat} {c : Cm} {h0 : Hp} {F : Nat} (hF : 700000 ≤ F) {k_2 : Hp → Nat → Int32 → Option (Int32 × Hp)} {C_2 : Int} (hk_2 : ∀ {h : Hp} {x0 : Nat} {x1 : Int32}, h = h0 → TH ρ c h → ρ x0 = 2 → Rg (0) (12) (x1) → C_2 < x1.toInt → Sat (k_2 h x0 x1) (ZI0 h0 (0) (1))) : ∀ (f : Nat) {h : Hp} {x0 : Nat} {x1 : Int32} {x2 : Int32}, h = h0 → TH ρ c h → ρ x0 = 2 → Rg (0) (11) (x1) → Rg (0) (8) (x2) → C_2 ≤ x1.toInt → (8 - x2.toInt).toNat < f → Sat (sX1_hasCatch_12 F k_2 f h x0 x1 x2) (ZI0 h0 (0) (1)) := by
  intro f
  induction f with
  | zero => intros; omega
  | succ f ih =>
    intro h x0 x1 x2 E T r_x0 i_x1 i_x2 hc_2 hm
    rw [sX1_hasCatch_12]
    obtain ⟨C_12, hC_12⟩ : ∃ C : Int, C = x2.toInt := ⟨_, rfl⟩
    have hk_12 : ∀ {h : Hp} {x0 : Nat} {x1 : Int32} {x2 : Int32}, h = h0 → TH ρ c h → ρ x0 = 2 → Rg (0) (11) (x1) → Rg (0) (8) (x2) → C_2 ≤ x1.toInt → C_12 < x2.toInt → Sat (sX1_hasCatch_12 F k_2 f h x0 x1 x2) (ZI0 h0 (0) (1)) := by
      intro h' x0' x1' x2' E' T' r_x0' i_x1' i_x2' hc_2' hl
      exact ih E' T' r_x0' i_x1' i_x2' hc_2' (by have := i_x2'.1; have := i_x2'.2; omega)
    have hc_12 : C_12 ≤ x2.toInt := by omega
    obtain ⟨r_1, e_r_1, q_r_1⟩ := thR T r_x0 (k := 2) (i := 16) (k2 := 29) rfl (by decide)
    refine s_ref e_r_1 ?_
    refine s_gd (by rw [thN T q_r_1 (k := 29) (n := 12) rfl (by decide)]; exact rg_inB i_x1 (by decide)) ?_
    refine s_br (fun c_1 => ?_) (fun c_1 => ?_)
    · have _ := c_1
      refine s_q (fun v_4 e_2 => ?_)
      have i_v_4 : Rg (1) (12) (v_4) := by rw [e_2]; exact (rg_add i_x1 (rg_b rfl : Rg (1) (1) ((1 : Int32))) (by decide) : Rg (1) (12) (x1 + (1 : Int32)))
      have m_3 : (v_4).toInt = x1.toInt + 1 := by rw [e_2]; exact rg_inc i_x1 (by decide)
      exact hk_2 E T r_x0 (rg_m i_v_4 (by decide)) (by have := hc_2; omega)
    · have _ := c_1
      have i_f_4 : Rg (0) (7) (x2) := rg_lt1 (nle_lt c_1) i_x2 (thI T q_r_1 (k := 29) rfl : Rg (0) (8) ((hI h r_1 x1.toNatClampNeg)))
      have i_f_5 : Rg (1) (8) ((hI h r_1 x1.toNatClampNeg)) := rg_lt2 (nle_lt c_1) i_x2 (thI T q_r_1 (k := 29) rfl : Rg (0) (8) ((hI h r_1 x1.toNatClampNeg)))
      obtain ⟨r_5, e_r_5, q_r_5⟩ := thR T r_x0 (k := 2) (i := 15) (k2 := 28) rfl (by decide)
      refine s_ref e_r_5 ?_
      refine s_gd (by rw [thN T q_r_5 (k := 28) (n := 96) rfl (by decide)]; exact rg_inB (rg_add (rg_mulc i_x1 (rg_b rfl : Rg (8) (8) ((8 : Int32))) (by decide) : Rg (0) (88) ((x1 * (8 : Int32)))) i_f_4 (by decide) : Rg (0) (95) (((x1 * (8 : Int32)) + x2))) (by decide)) ?_
      refine s_br (fun c_6 => ?_) (fun c_6 => ?_)
      · have _ := c_6
        have i_f_7 : Rg (0) (0) (((hI h r_5 ((x1 * (8 : Int32)) + x2).toNatClampNeg) &&& (32 : Int32))) := rg_eq c_6 (rg_b rfl : Rg (0) (0) (0 : Int32))
        refine s_q (fun v_8 e_8 => ?_)
        have i_v_8 : Rg (1) (8) (v_8) := by rw [e_8]; exact (rg_add i_f_4 (rg_b rfl : Rg (1) (1) ((1 : Int32))) (by decide) : Rg (1) (8) (x2 + (1 : Int32)))
        have m_9 : (v_8).toInt = x2.toInt + 1 := by rw [e_8]; exact rg_inc i_f_4 (by decide)
        exact hk_12 E T r_x0 i_x1 (rg_m i_v_8 (by decide)) hc_2 (by have := hc_12; omega)
      · have _ := c_6
        have i_f_10 : Rg (1) (32) (((hI h r_5 ((x1 * (8 : Int32)) + x2).toNatClampNeg) &&& (32 : Int32))) := rg_nlo c_6 (rg_and (rg_b rfl : Rg (32) (32) ((32 : Int32))) (by decide) : Rg (0) (32) (((hI h r_5 ((x1 * (8 : Int32)) + x2).toNatClampNeg) &&& (32 : Int32)))) (rg_b rfl : Rg (0) (0) (0 : Int32))
        exact s_some ⟨E, (rg_m (rg_b rfl : Rg (1) (1) ((1 : Int32))) (by decide))⟩
set_option maxRecDepth 20000 in
theorem zX1_hasCatch_2 {ρ : Nat → Nat} {c : Cm} {h0 : Hp} {F : Nat} (hF : 700000 ≤ F) : ∀ (f : Nat) {h : Hp} {x0 : Nat} {x1 : Int32}, h = h0 → TH ρ c h → ρ x0 = 2 → Rg (0) (12) (x1) → (12 - x1.toInt).toNat < f → Sat (sX1_hasCatch_2 F f h x0 x1) (ZI0 h0 (0) (1)) := by
  intro f
  induction f with
  | zero => intros; omega
  | succ f ih =>
    intro h x0 x1 E T r_x0 i_x1 hm
    rw [sX1_hasCatch_2]
    obtain ⟨C_2, hC_2⟩ : ∃ C : Int, C = x1.toInt := ⟨_, rfl⟩
    have hk_2 : ∀ {h : Hp} {x0 : Nat} {x1 : Int32}, h = h0 → TH ρ c h → ρ x0 = 2 → Rg (0) (12) (x1) → C_2 < x1.toInt → Sat (sX1_hasCatch_2 F f h x0 x1) (ZI0 h0 (0) (1)) := by
      intro h' x0' x1' E' T' r_x0' i_x1' hl
      exact ih E' T' r_x0' i_x1' (by have := i_x1'.1; have := i_x1'.2; omega)
    have hc_2 : C_2 ≤ x1.toInt := by omega
    refine s_br (fun c_1 => ?_) (fun c_1 => ?_)
    · have _ := c_1
      exact s_some ⟨E, (rg_m (rg_b rfl : Rg (0) (0) ((0 : Int32))) (by decide))⟩
    · have _ := c_1
      have i_f_2 : Rg (0) (11) (x1) := rg_lt1 (nle_lt c_1) i_x1 (thI T r_x0 (k := 2) (i := 3) rfl : Rg (0) (12) ((hI h x0 3)))
      have i_f_3 : Rg (1) (12) ((hI h x0 3)) := rg_lt2 (nle_lt c_1) i_x1 (thI T r_x0 (k := 2) (i := 3) rfl : Rg (0) (12) ((hI h x0 3)))
      have m_4 : Rg (0) (8) ((0 : Int32)) := (rg_m (rg_b rfl : Rg (0) (0) ((0 : Int32))) (by decide))
      exact zX1_hasCatch_12 hF @hk_2 F E T r_x0 i_f_2 (rg_m (rg_b rfl : Rg (0) (0) ((0 : Int32))) (by decide)) hc_2 (by have := m_4.1; have := m_4.2; omega)
set_option maxRecDepth 20000 in
theorem zX1_hasCatch {ρ : Nat → Nat} {c : Cm} {F : Nat} (hF : 700000 ≤ F) {h : Hp} {x0 : Nat} (T : TH ρ c h) (r_x0 : ρ x0 = 2) : Sat (sX1_hasCatch F h x0) (ZI0 h (0) (1)) := by
  unfold sX1_hasCatch 
  have m_1 : Rg (0) (12) ((0 : Int32)) := (rg_m (rg_b rfl : Rg (0) (0) ((0 : Int32))) (by decide))
  exact zX1_hasCatch_2 hF F rfl T r_x0 (rg_m (rg_b rfl : Rg (0) (0) ((0 : Int32))) (by decide)) (by have := m_1.1; have := m_1.2; omega)
set_option maxRecDepth 20000 in
theorem zX11_told {ρ : Nat → Nat} {c : Cm} {F : Nat} (hF : 700000 ≤ F) {h : Hp} {x0 : Nat} {x1 : Int32} (T : TH ρ c h) (r_x0 : ρ x0 = 12) (i_x1 : Rg (-2147483648) (2147483647) (x1)) : Sat (sX11_told F h x0 x1) (ZI0 h (-2147483648) (2147483647)) := by
  unfold sX11_told 
  refine s_br (fun c_1 => ?_) (fun c_1 => ?_)
  · have _ := c_1
    have i_f_2 : Rg (0) (0) (x1) := rg_eq c_1 (rg_b rfl : Rg (0) (0) ((0 : Int32)))
    obtain ⟨r_1, e_r_1, q_r_1⟩ := thR T r_x0 (k := 12) (i := 2) (k2 := 2) rfl (by decide)
    refine s_ref e_r_1 ?_
    exact s_some ⟨rfl, (rg_m (thI T q_r_1 (k := 2) (i := 0) rfl : Rg (0) (8) (hI h r_1 0)) (by decide))⟩
  · have _ := c_1
    refine s_br (fun c_3 => ?_) (fun c_3 => ?_)
    · have _ := c_3
      have i_f_4 : Rg (1) (1) (x1) := rg_eq c_3 (rg_b rfl : Rg (1) (1) ((1 : Int32)))
      obtain ⟨r_3, e_r_3, q_r_3⟩ := thR T r_x0 (k := 12) (i := 2) (k2 := 2) rfl (by decide)
      refine s_ref e_r_3 ?_
      exact s_some ⟨rfl, (rg_m (thI T q_r_3 (k := 2) (i := 1) rfl : Rg (0) (8) (hI h r_3 1)) (by decide))⟩
    · have _ := c_3
      refine s_br (fun c_5 => ?_) (fun c_5 => ?_)
      · have _ := c_5
        have i_f_6 : Rg (2) (2) (x1) := rg_eq c_5 (rg_b rfl : Rg (2) (2) ((2 : Int32)))
        obtain ⟨r_5, e_r_5, q_r_5⟩ := thR T r_x0 (k := 12) (i := 2) (k2 := 2) rfl (by decide)
        refine s_ref e_r_5 ?_
        exact s_some ⟨rfl, (rg_m (thI T q_r_5 (k := 2) (i := 3) rfl : Rg (0) (12) (hI h r_5 3)) (by decide))⟩
      · have _ := c_5
        refine s_br (fun c_7 => ?_) (fun c_7 => ?_)
        · have _ := c_7
          have i_f_8 : Rg (3) (3) (x1) := rg_eq c_7 (rg_b rfl : Rg (3) (3) ((3 : Int32)))
          obtain ⟨r_7, e_r_7, q_r_7⟩ := thR T r_x0 (k := 12) (i := 2) (k2 := 2) rfl (by decide)
          refine s_ref e_r_7 ?_
          exact s_some ⟨rfl, (rg_m (thI T q_r_7 (k := 2) (i := 4) rfl : Rg (-1) (11) (hI h r_7 4)) (by decide))⟩
        · have _ := c_7
          refine s_br (fun c_9 => ?_) (fun c_9 => ?_)
          · have _ := c_9
            have i_f_10 : Rg (4) (4) (x1) := rg_eq c_9 (rg_b rfl : Rg (4) (4) ((4 : Int32)))
            obtain ⟨r_9, e_r_9, q_r_9⟩ := thR T r_x0 (k := 12) (i := 2) (k2 := 2) rfl (by decide)
            refine s_ref e_r_9 ?_
            exact s_some ⟨rfl, (rg_m (thI T q_r_9 (k := 2) (i := 5) rfl : Rg (-1) (11) (hI h r_9 5)) (by decide))⟩
          · have _ := c_9
            refine s_br (fun c_11 => ?_) (fun c_11 => ?_)
            · have _ := c_11
              have i_f_12 : Rg (5) (5) (x1) := rg_eq c_11 (rg_b rfl : Rg (5) (5) ((5 : Int32)))
              refine s_cI0 (zX11_countPlaces hF T r_x0) (fun o_11 e_o_11 i_o_11 => ?_)
              have T_13 := th_eq e_o_11 T
              exact s_some ⟨(e_o_11.trans rfl), i_o_11⟩
            · have _ := c_11
              refine s_br (fun c_14 => ?_) (fun c_14 => ?_)
              · have _ := c_14
                have i_f_15 : Rg (6) (6) (x1) := rg_eq c_14 (rg_b rfl : Rg (6) (6) ((6 : Int32)))
                obtain ⟨r_13, e_r_13, q_r_13⟩ := thR T r_x0 (k := 12) (i := 1) (k2 := 10) rfl (by decide)
                refine s_ref e_r_13 ?_
                exact s_some ⟨rfl, (rg_m (thI T q_r_13 (k := 10) (i := 1) rfl : Rg (0) (1200) (hI h r_13 1)) (by decide))⟩
              · have _ := c_14
                refine s_br (fun c_16 => ?_) (fun c_16 => ?_)
                · have _ := c_16
                  have i_f_17 : Rg (7) (7) (x1) := rg_eq c_16 (rg_b rfl : Rg (7) (7) ((7 : Int32)))
                  obtain ⟨r_15, e_r_15, q_r_15⟩ := thR T r_x0 (k := 12) (i := 0) (k2 := 10) rfl (by decide)
                  refine s_ref e_r_15 ?_
                  exact s_some ⟨rfl, (rg_m (thI T q_r_15 (k := 10) (i := 1) rfl : Rg (0) (1200) (hI h r_15 1)) (by decide))⟩
                · have _ := c_16
                  exact s_some ⟨rfl, (rg_m (rg_b rfl : Rg (-101) (-101) ((- 101 : Int32))) (by decide))⟩
set_option maxRecDepth 20000 in
theorem zX7_writeEmpty {ρ : Nat → Nat} {c : Cm} {F : Nat} {w_x1 : Nat} (hF : 700000 ≤ F) (hO_x1 : pmO c w_x1 [(49, 999), (10, 1)]) {h : Hp} {x0 : Int32} {x1 : Nat} (o_x1 : cw c x1 = w_x1) (T : TH ρ c h) (i_x0 : Rg (-2147483648) (2147483647) (x0)) (r_x1 : ρ x1 = 10) : Sat (sX7_writeEmpty h x0 x1) (ZV ρ c) := by
  unfold sX7_writeEmpty sX7_writeEmpty_12
  refine s_br (fun c_1 => ?_) (fun c_1 => ?_)
  · have _ := c_1
    have i_f_2 : Rg (-2147483648) (0) (x0) := rg_le1 c_1 i_x0 (rg_b rfl : Rg (0) (0) (0 : Int32))
    exact s_some (T)
  · have _ := c_1
    have i_f_3 : Rg (1) (2147483647) (x0) := rg_lt2 (nle_lt c_1) (rg_b rfl : Rg (0) (0) (0 : Int32)) i_x0
    refine s_cV (zX9_append hF (pmO_e o_x1 hO_x1 rfl) T r_x1 (rg_top _ : Rg (-2147483648) (2147483647) (((48 : Int32) + x0)))) (fun o_2 T_4 => ?_)
    exact s_some (T_4)
set_option maxRecDepth 20000 in
theorem zX7_writeClock_49 {ρ : Nat → Nat} {c : Cm} {F : Nat} {w_x0 w_x1 : Nat} (hF : 700000 ≤ F) (hO_x1 : pmO c w_x1 [(49, 999), (10, 1)]) {h : Hp} {x0 : Nat} {x1 : Nat} (o_x0 : cw c x0 = w_x0) (o_x1 : cw c x1 = w_x1) (T : TH ρ c h) (r_x0 : ρ x0 = 4) (r_x1 : ρ x1 = 10) : Sat (sX7_writeClock_49 h x0 x1) (ZV ρ c) := by
  unfold sX7_writeClock_49 
  refine s_cV (zX9_append hF (pmO_e o_x1 hO_x1 rfl) T r_x1 (rg_m (rg_add (rg_b rfl : Rg (48) (48) ((48 : Int32))) (rg_rem (thI T r_x0 (k := 4) (i := 6) rfl : Rg (0) (999) ((hI h x0 6))) (rg_b rfl : Rg (10) (10) ((10 : Int32))) (by decide) : Rg (0) (9) (((hI h x0 6) - (hI h x0 6) / (10 : Int32) * (10 : Int32)))) (by decide) : Rg (48) (57) (((48 : Int32) + ((hI h x0 6) - (hI h x0 6) / (10 : Int32) * (10 : Int32))))) (by decide))) (fun o_1 T_1 => ?_)
  exact s_some (T_1)
set_option maxRecDepth 20000 in
theorem zX7_writeClock_23 {ρ : Nat → Nat} {c : Cm} {F : Nat} {w_x0 w_x1 : Nat} (hF : 700000 ≤ F) (hO_x1 : pmO c w_x1 [(49, 999), (10, 1)]) {h : Hp} {x0 : Nat} {x1 : Nat} (o_x0 : cw c x0 = w_x0) (o_x1 : cw c x1 = w_x1) (T : TH ρ c h) (r_x0 : ρ x0 = 4) (r_x1 : ρ x1 = 10) : Sat (sX7_writeClock_23 h x0 x1) (ZV ρ c) := by
  unfold sX7_writeClock_23 
  refine s_br (fun c_1 => ?_) (fun c_1 => ?_)
  · have _ := c_1
    have i_f_2 : Rg (0) (9) ((hI h x0 6)) := rg_lt1 c_1 (thI T r_x0 (k := 4) (i := 6) rfl : Rg (0) (999) ((hI h x0 6))) (rg_b rfl : Rg (10) (10) ((10 : Int32)))
    exact zX7_writeClock_49 hF (pmO_s hO_x1 rfl) o_x0 o_x1 T r_x0 r_x1
  · have _ := c_1
    have i_f_3 : Rg (10) (999) ((hI h x0 6)) := rg_le2 (nlt_le c_1) (rg_b rfl : Rg (10) (10) ((10 : Int32))) (thI T r_x0 (k := 4) (i := 6) rfl : Rg (0) (999) ((hI h x0 6)))
    refine s_cV (zX9_append hF (pmO_e o_x1 hO_x1 rfl) T r_x1 (rg_m (rg_add (rg_b rfl : Rg (48) (48) ((48 : Int32))) (rg_rem (rg_divc i_f_3 (rg_b rfl : Rg (10) (10) ((10 : Int32))) (by decide) : Rg (1) (99) (((hI h x0 6) / (10 : Int32)))) (rg_b rfl : Rg (10) (10) ((10 : Int32))) (by decide) : Rg (0) (9) ((((hI h x0 6) / (10 : Int32)) - ((hI h x0 6) / (10 : Int32)) / (10 : Int32) * (10 : Int32)))) (by decide) : Rg (48) (57) (((48 : Int32) + (((hI h x0 6) / (10 : Int32)) - ((hI h x0 6) / (10 : Int32)) / (10 : Int32) * (10 : Int32))))) (by decide))) (fun o_2 T_4 => ?_)
    exact zX7_writeClock_49 hF (pmO_s hO_x1 rfl) o_x0 o_x1 T_4 r_x0 r_x1
set_option maxRecDepth 20000 in
theorem zX7_writeClock {ρ : Nat → Nat} {c : Cm} {F : Nat} {w_x0 w_x1 : Nat} (hF : 700000 ≤ F) (hO_x1 : pmO c w_x1 [(49, 999), (10, 1)]) {h : Hp} {x0 : Nat} {x1 : Nat} (o_x0 : cw c x0 = w_x0) (o_x1 : cw c x1 = w_x1) (T : TH ρ c h) (r_x0 : ρ x0 = 4) (r_x1 : ρ x1 = 10) : Sat (sX7_writeClock h x0 x1) (ZV ρ c) := by
  unfold sX7_writeClock 
  refine s_br (fun c_1 => ?_) (fun c_1 => ?_)
  · have _ := c_1
    have i_f_2 : Rg (0) (99) ((hI h x0 6)) := rg_lt1 c_1 (thI T r_x0 (k := 4) (i := 6) rfl : Rg (0) (999) ((hI h x0 6))) (rg_b rfl : Rg (100) (100) ((100 : Int32)))
    exact zX7_writeClock_23 hF (pmO_s hO_x1 rfl) o_x0 o_x1 T r_x0 r_x1
  · have _ := c_1
    have i_f_3 : Rg (100) (999) ((hI h x0 6)) := rg_le2 (nlt_le c_1) (rg_b rfl : Rg (100) (100) ((100 : Int32))) (thI T r_x0 (k := 4) (i := 6) rfl : Rg (0) (999) ((hI h x0 6)))
    refine s_cV (zX9_append hF (pmO_e o_x1 hO_x1 rfl) T r_x1 (rg_m (rg_add (rg_b rfl : Rg (48) (48) ((48 : Int32))) (rg_divc i_f_3 (rg_b rfl : Rg (100) (100) ((100 : Int32))) (by decide) : Rg (1) (9) (((hI h x0 6) / (100 : Int32)))) (by decide) : Rg (49) (57) (((48 : Int32) + ((hI h x0 6) / (100 : Int32))))) (by decide))) (fun o_2 T_4 => ?_)
    exact zX7_writeClock_23 hF (pmO_s hO_x1 rfl) o_x0 o_x1 T_4 r_x0 r_x1
set_option maxRecDepth 20000 in
theorem zX7_writeHands_25 {ρ : Nat → Nat} {c : Cm} {F : Nat} {w_x1 w_x2 : Nat} (hF : 700000 ≤ F) {k_2 : Hp → Nat → Nat → Nat → Int32 → Option (Hp)} {C_2 : Int} {k_10 : Hp → Nat → Nat → Nat → Int32 → Int32 → Option (Hp)} {C_10 : Int} (hk_2 : ∀ {h : Hp} {x0 : Nat} {x1 : Nat} {x2 : Nat} {x3 : Int32}, cw c x1 = w_x1 → cw c x2 = w_x2 → TH ρ c h → ρ x0 = 8 → ρ x1 = 4 → ρ x2 = 10 → Rg (0) (2) (x3) → C_2 < x3.toInt → Sat (k_2 h x0 x1 x2 x3) (ZV ρ c)) (hk_10 : ∀ {h : Hp} {x0 : Nat} {x1 : Nat} {x2 : Nat} {x3 : Int32} {x4 : Int32}, cw c x1 = w_x1 → cw c x2 = w_x2 → TH ρ c h → ρ x0 = 8 → ρ x1 = 4 → ρ x2 = 10 → Rg (0) (1) (x3) → Rg (0) (12) (x4) → C_2 ≤ x3.toInt → C_10 < x4.toInt → Sat (k_10 h x0 x1 x2 x3 x4) (ZV ρ c)) (hO_x2 : pmO c w_x2 [(49, 999), (10, 1)]) : ∀ (f : Nat) {h : Hp} {x0 : Nat} {x1 : Nat} {x2 : Nat} {x3 : Int32} {x4 : Int32} {x5 : Int32}, cw c x1 = w_x1 → cw c x2 = w_x2 → TH ρ c h → ρ x0 = 8 → ρ x1 = 4 → ρ x2 = 10 → Rg (0) (1) (x3) → Rg (0) (11) (x4) → Rg (0) (31) (x5) → C_2 ≤ x3.toInt → C_10 ≤ x4.toInt → (31 - x5.toInt).toNat < f → Sat (sX7_writeHands_25 F k_2 k_10 f h x0 x1 x2 x3 x4 x5) (ZV ρ c) := by
  intro f
  induction f with
  | zero => intros; omega
  | succ f ih =>
    intro h x0 x1 x2 x3 x4 x5 o_x1 o_x2 T r_x0 r_x1 r_x2 i_x3 i_x4 i_x5 hc_2 hc_10 hm
    rw [sX7_writeHands_25]
    obtain ⟨C_25, hC_25⟩ : ∃ C : Int, C = x5.toInt := ⟨_, rfl⟩
    have hk_25 : ∀ {h : Hp} {x0 : Nat} {x1 : Nat} {x2 : Nat} {x3 : Int32} {x4 : Int32} {x5 : Int32}, cw c x1 = w_x1 → cw c x2 = w_x2 → TH ρ c h → ρ x0 = 8 → ρ x1 = 4 → ρ x2 = 10 → Rg (0) (1) (x3) → Rg (0) (11) (x4) → Rg (0) (31) (x5) → C_2 ≤ x3.toInt → C_10 ≤ x4.toInt → C_25 < x5.toInt → Sat (sX7_writeHands_25 F k_2 k_10 f h x0 x1 x2 x3 x4 x5) (ZV ρ c) := by
      intro h' x0' x1' x2' x3' x4' x5' o_x1' o_x2' T' r_x0' r_x1' r_x2' i_x3' i_x4' i_x5' hc_2' hc_10' hl
      exact ih o_x1' o_x2' T' r_x0' r_x1' r_x2' i_x3' i_x4' i_x5' hc_2' hc_10' (by have := i_x5'.1; have := i_x5'.2; omega)
    have hc_25 : C_25 ≤ x5.toInt := by omega
    refine s_cI0 (zX3_inHand hF T r_x1 i_x3 (rg_m i_x4 (by decide))) (fun o_1 e_o_1 i_o_1 => ?_)
    have T_1 := th_eq e_o_1 T
    refine s_br (fun c_2 => ?_) (fun c_2 => ?_)
    · have _ := c_2
      refine s_q (fun v_3 e_3 => ?_)
      have i_v_3 : Rg (1) (12) (v_3) := by rw [e_3]; exact (rg_add i_x4 (rg_b rfl : Rg (1) (1) ((1 : Int32))) (by decide) : Rg (1) (12) (x4 + (1 : Int32)))
      have m_4 : (v_3).toInt = x4.toInt + 1 := by rw [e_3]; exact rg_inc i_x4 (by decide)
      exact hk_10 o_x1 o_x2 T_1 r_x0 r_x1 r_x2 i_x3 (rg_m i_v_3 (by decide)) hc_2 (by have := hc_10; omega)
    · have _ := c_2
      have i_f_5 : Rg (0) (30) (x5) := rg_lt1 (nle_lt c_2) i_x5 i_o_1
      have i_f_6 : Rg (1) (31) (o_1.1) := rg_lt2 (nle_lt c_2) i_x5 i_o_1
      obtain ⟨r_4, e_r_4, q_r_4⟩ := thR T_1 r_x0 (k := 8) (i := 0) (k2 := 2) rfl (by decide)
      refine s_ref e_r_4 ?_
      refine s_cI0 (zX1_letterOf hF T_1 q_r_4 (rg_m (rg_add (rg_mulc' (rg_b rfl : Rg (2) (2) ((2 : Int32))) i_x4 (by decide) : Rg (0) (22) (((2 : Int32) * x4))) i_x3 (by decide) : Rg (0) (23) ((((2 : Int32) * x4) + x3))) (by decide))) (fun o_5 e_o_5 i_o_5 => ?_)
      have T_7 := th_eq e_o_5 T_1
      refine s_cV (zX9_append hF (pmO_e o_x2 hO_x2 rfl) T_7 r_x2 (rg_m i_o_5 (by decide))) (fun o_6 T_8 => ?_)
      refine s_q (fun v_7 e_9 => ?_)
      have i_v_7 : Rg (1) (31) (v_7) := by rw [e_9]; exact (rg_add i_f_5 (rg_b rfl : Rg (1) (1) ((1 : Int32))) (by decide) : Rg (1) (31) (x5 + (1 : Int32)))
      have m_10 : (v_7).toInt = x5.toInt + 1 := by rw [e_9]; exact rg_inc i_f_5 (by decide)
      exact hk_25 o_x1 o_x2 T_8 r_x0 r_x1 r_x2 i_x3 i_x4 (rg_m i_v_7 (by decide)) hc_2 hc_10 (by have := hc_25; omega)
set_option maxRecDepth 20000 in
theorem zX7_writeHands_10 {ρ : Nat → Nat} {c : Cm} {F : Nat} {w_x1 w_x2 : Nat} (hF : 700000 ≤ F) {k_2 : Hp → Nat → Nat → Nat → Int32 → Option (Hp)} {C_2 : Int} (hk_2 : ∀ {h : Hp} {x0 : Nat} {x1 : Nat} {x2 : Nat} {x3 : Int32}, cw c x1 = w_x1 → cw c x2 = w_x2 → TH ρ c h → ρ x0 = 8 → ρ x1 = 4 → ρ x2 = 10 → Rg (0) (2) (x3) → C_2 < x3.toInt → Sat (k_2 h x0 x1 x2 x3) (ZV ρ c)) (hO_x2 : pmO c w_x2 [(49, 999), (10, 1)]) : ∀ (f : Nat) {h : Hp} {x0 : Nat} {x1 : Nat} {x2 : Nat} {x3 : Int32} {x4 : Int32}, cw c x1 = w_x1 → cw c x2 = w_x2 → TH ρ c h → ρ x0 = 8 → ρ x1 = 4 → ρ x2 = 10 → Rg (0) (1) (x3) → Rg (0) (12) (x4) → C_2 ≤ x3.toInt → (12 - x4.toInt).toNat < f → Sat (sX7_writeHands_10 F k_2 f h x0 x1 x2 x3 x4) (ZV ρ c) := by
  intro f
  induction f with
  | zero => intros; omega
  | succ f ih =>
    intro h x0 x1 x2 x3 x4 o_x1 o_x2 T r_x0 r_x1 r_x2 i_x3 i_x4 hc_2 hm
    rw [sX7_writeHands_10]
    obtain ⟨C_10, hC_10⟩ : ∃ C : Int, C = x4.toInt := ⟨_, rfl⟩
    have hk_10 : ∀ {h : Hp} {x0 : Nat} {x1 : Nat} {x2 : Nat} {x3 : Int32} {x4 : Int32}, cw c x1 = w_x1 → cw c x2 = w_x2 → TH ρ c h → ρ x0 = 8 → ρ x1 = 4 → ρ x2 = 10 → Rg (0) (1) (x3) → Rg (0) (12) (x4) → C_2 ≤ x3.toInt → C_10 < x4.toInt → Sat (sX7_writeHands_10 F k_2 f h x0 x1 x2 x3 x4) (ZV ρ c) := by
      intro h' x0' x1' x2' x3' x4' o_x1' o_x2' T' r_x0' r_x1' r_x2' i_x3' i_x4' hc_2' hl
      exact ih o_x1' o_x2' T' r_x0' r_x1' r_x2' i_x3' i_x4' hc_2' (by have := i_x4'.1; have := i_x4'.2; omega)
    have hc_10 : C_10 ≤ x4.toInt := by omega
    obtain ⟨r_1, e_r_1, q_r_1⟩ := thR T r_x0 (k := 8) (i := 0) (k2 := 2) rfl (by decide)
    refine s_ref e_r_1 ?_
    refine s_br (fun c_1 => ?_) (fun c_1 => ?_)
    · have _ := c_1
      refine s_q (fun v_3 e_2 => ?_)
      have i_v_3 : Rg (1) (2) (v_3) := by rw [e_2]; exact (rg_add i_x3 (rg_b rfl : Rg (1) (1) ((1 : Int32))) (by decide) : Rg (1) (2) (x3 + (1 : Int32)))
      have m_3 : (v_3).toInt = x3.toInt + 1 := by rw [e_2]; exact rg_inc i_x3 (by decide)
      exact hk_2 o_x1 o_x2 T r_x0 r_x1 r_x2 (rg_m i_v_3 (by decide)) (by have := hc_2; omega)
    · have _ := c_1
      have i_f_4 : Rg (0) (11) (x4) := rg_lt1 (nle_lt c_1) i_x4 (thI T q_r_1 (k := 2) (i := 3) rfl : Rg (0) (12) ((hI h r_1 3)))
      have i_f_5 : Rg (1) (12) ((hI h r_1 3)) := rg_lt2 (nle_lt c_1) i_x4 (thI T q_r_1 (k := 2) (i := 3) rfl : Rg (0) (12) ((hI h r_1 3)))
      have m_6 : Rg (0) (31) ((0 : Int32)) := (rg_m (rg_b rfl : Rg (0) (0) ((0 : Int32))) (by decide))
      exact zX7_writeHands_25 hF @hk_2 @hk_10 (pmO_s hO_x2 rfl) F o_x1 o_x2 T r_x0 r_x1 r_x2 i_x3 i_f_4 (rg_m (rg_b rfl : Rg (0) (0) ((0 : Int32))) (by decide)) hc_2 hc_10 (by have := m_6.1; have := m_6.2; omega)
set_option maxRecDepth 20000 in
theorem zX7_writeHands_2 {ρ : Nat → Nat} {c : Cm} {F : Nat} {w_x1 w_x2 : Nat} (hF : 700000 ≤ F) (hO_x2 : pmO c w_x2 [(49, 999), (10, 1)]) : ∀ (f : Nat) {h : Hp} {x0 : Nat} {x1 : Nat} {x2 : Nat} {x3 : Int32}, cw c x1 = w_x1 → cw c x2 = w_x2 → TH ρ c h → ρ x0 = 8 → ρ x1 = 4 → ρ x2 = 10 → Rg (0) (2) (x3) → (2 - x3.toInt).toNat < f → Sat (sX7_writeHands_2 F f h x0 x1 x2 x3) (ZV ρ c) := by
  intro f
  induction f with
  | zero => intros; omega
  | succ f ih =>
    intro h x0 x1 x2 x3 o_x1 o_x2 T r_x0 r_x1 r_x2 i_x3 hm
    rw [sX7_writeHands_2]
    unfold sX7_writeHands_100
    obtain ⟨C_2, hC_2⟩ : ∃ C : Int, C = x3.toInt := ⟨_, rfl⟩
    have hk_2 : ∀ {h : Hp} {x0 : Nat} {x1 : Nat} {x2 : Nat} {x3 : Int32}, cw c x1 = w_x1 → cw c x2 = w_x2 → TH ρ c h → ρ x0 = 8 → ρ x1 = 4 → ρ x2 = 10 → Rg (0) (2) (x3) → C_2 < x3.toInt → Sat (sX7_writeHands_2 F f h x0 x1 x2 x3) (ZV ρ c) := by
      intro h' x0' x1' x2' x3' o_x1' o_x2' T' r_x0' r_x1' r_x2' i_x3' hl
      exact ih o_x1' o_x2' T' r_x0' r_x1' r_x2' i_x3' (by have := i_x3'.1; have := i_x3'.2; omega)
    have hc_2 : C_2 ≤ x3.toInt := by omega
    refine s_br (fun c_1 => ?_) (fun c_1 => ?_)
    · have _ := c_1
      have i_f_2 : Rg (2) (2) (x3) := rg_le2 c_1 (rg_b rfl : Rg (2) (2) ((2 : Int32))) i_x3
      obtain ⟨r_2, e_r_2, q_r_2⟩ := thR T r_x1 (k := 4) (i := 3) (k2 := 37) rfl (by decide)
      refine s_ref e_r_2 ?_
      refine s_gd (by rw [thN T q_r_2 (k := 37) (n := 2) rfl (by decide)]; exact rg_inB (rg_b rfl : Rg (0) (0) ((0 : Int32))) (by decide)) ?_
      refine s_br (fun c_3 => ?_) (fun c_3 => ?_)
      · have _ := c_3
        refine s_ref e_r_2 ?_
        refine s_gd (by rw [thN T q_r_2 (k := 37) (n := 2) rfl (by decide)]; exact rg_inB (rg_b rfl : Rg (1) (1) ((1 : Int32))) (by decide)) ?_
        refine s_br (fun c_4 => ?_) (fun c_4 => ?_)
        · have _ := c_4
          refine s_cV (zX9_append hF (pmO_e o_x2 hO_x2 rfl) T r_x2 (rg_m (rg_b rfl : Rg (45) (45) ((45 : Int32))) (by decide))) (fun o_8 T_5 => ?_)
          exact s_some (T_5)
        · have _ := c_4
          exact s_some (T)
      · have _ := c_3
        exact s_some (T)
    · have _ := c_1
      have i_f_6 : Rg (0) (1) (x3) := rg_lt1 (nle_lt c_1) i_x3 (rg_b rfl : Rg (2) (2) ((2 : Int32)))
      have m_7 : Rg (0) (12) ((0 : Int32)) := (rg_m (rg_b rfl : Rg (0) (0) ((0 : Int32))) (by decide))
      exact zX7_writeHands_10 hF @hk_2 (pmO_s hO_x2 rfl) F o_x1 o_x2 T r_x0 r_x1 r_x2 i_f_6 (rg_m (rg_b rfl : Rg (0) (0) ((0 : Int32))) (by decide)) hc_2 (by have := m_7.1; have := m_7.2; omega)
set_option maxRecDepth 20000 in
theorem zX7_writeHands {ρ : Nat → Nat} {c : Cm} {F : Nat} {w_x1 w_x2 : Nat} (hF : 700000 ≤ F) (hO_x2 : pmO c w_x2 [(49, 999), (10, 1)]) {h : Hp} {x0 : Nat} {x1 : Nat} {x2 : Nat} (o_x1 : cw c x1 = w_x1) (o_x2 : cw c x2 = w_x2) (T : TH ρ c h) (r_x0 : ρ x0 = 8) (r_x1 : ρ x1 = 4) (r_x2 : ρ x2 = 10) : Sat (sX7_writeHands F h x0 x1 x2) (ZV ρ c) := by
  unfold sX7_writeHands 
  have m_1 : Rg (0) (2) ((0 : Int32)) := (rg_m (rg_b rfl : Rg (0) (0) ((0 : Int32))) (by decide))
  exact zX7_writeHands_2 hF (pmO_s hO_x2 rfl) F o_x1 o_x2 T r_x0 r_x1 r_x2 (rg_m (rg_b rfl : Rg (0) (0) ((0 : Int32))) (by decide)) (by have := m_1.1; have := m_1.2; omega)
set_option maxRecDepth 20000 in
theorem zX7_writePass_2 {ρ : Nat → Nat} {c : Cm} {F : Nat} {w_x1 w_x2 : Nat} (hF : 700000 ≤ F) (hO_x2 : pmO c w_x2 [(49, 999), (10, 1)]) : ∀ (f : Nat) {h : Hp} {x0 : Nat} {x1 : Nat} {x2 : Nat} {x3 : Int32}, cw c x1 = w_x1 → cw c x2 = w_x2 → TH ρ c h → ρ x0 = 8 → ρ x1 = 4 → ρ x2 = 10 → Rg (0) (7) (x3) → (7 - x3.toInt).toNat < f → Sat (sX7_writePass_2 F f h x0 x1 x2 x3) (ZV ρ c) := by
  intro f
  induction f with
  | zero => intros; omega
  | succ f ih =>
    intro h x0 x1 x2 x3 o_x1 o_x2 T r_x0 r_x1 r_x2 i_x3 hm
    rw [sX7_writePass_2]
    unfold sX7_writePass_44
    obtain ⟨C_2, hC_2⟩ : ∃ C : Int, C = x3.toInt := ⟨_, rfl⟩
    have hk_2 : ∀ {h : Hp} {x0 : Nat} {x1 : Nat} {x2 : Nat} {x3 : Int32}, cw c x1 = w_x1 → cw c x2 = w_x2 → TH ρ c h → ρ x0 = 8 → ρ x1 = 4 → ρ x2 = 10 → Rg (0) (7) (x3) → C_2 < x3.toInt → Sat (sX7_writePass_2 F f h x0 x1 x2 x3) (ZV ρ c) := by
      intro h' x0' x1' x2' x3' o_x1' o_x2' T' r_x0' r_x1' r_x2' i_x3' hl
      exact ih o_x1' o_x2' T' r_x0' r_x1' r_x2' i_x3' (by have := i_x3'.1; have := i_x3'.2; omega)
    have hc_2 : C_2 ≤ x3.toInt := by omega
    refine s_cI0 (zX3_passSize hF T r_x1) (fun o_1 e_o_1 i_o_1 => ?_)
    have T_1 := th_eq e_o_1 T
    refine s_br (fun c_2 => ?_) (fun c_2 => ?_)
    · have _ := c_2
      refine s_br (fun c_3 => ?_) (fun c_3 => ?_)
      · have _ := c_3
        refine s_cV (zX9_append hF (pmO_e o_x2 hO_x2 rfl) T_1 r_x2 (rg_m (rg_b rfl : Rg (45) (45) ((45 : Int32))) (by decide))) (fun o_4 T_4 => ?_)
        exact s_some (T_4)
      · have _ := c_3
        exact s_some (T_1)
    · have _ := c_2
      have i_f_5 : Rg (0) (6) (x3) := rg_lt1 (nle_lt c_2) i_x3 i_o_1
      have i_f_6 : Rg (1) (7) (o_1.1) := rg_lt2 (nle_lt c_2) i_x3 i_o_1
      obtain ⟨r_5, e_r_5, q_r_5⟩ := thR T_1 r_x0 (k := 8) (i := 0) (k2 := 2) rfl (by decide)
      refine s_ref e_r_5 ?_
      refine s_cI0 (zX3_passSquare hF T_1 r_x1 i_f_5) (fun o_6 e_o_6 i_o_6 => ?_)
      have T_7 := th_eq e_o_6 T_1
      refine s_cV (zX7_writeSquare hF (pmO_s hO_x2 rfl) (th_id T_1 r_x0 (k := 8) (i := 0) (w := 2102) e_r_5 rfl (by decide)) o_x2 T_7 q_r_5 i_o_6 r_x2) (fun o_7 T_8 => ?_)
      refine s_q (fun v_8 e_9 => ?_)
      have i_v_8 : Rg (1) (7) (v_8) := by rw [e_9]; exact (rg_add i_f_5 (rg_b rfl : Rg (1) (1) ((1 : Int32))) (by decide) : Rg (1) (7) (x3 + (1 : Int32)))
      have m_10 : (v_8).toInt = x3.toInt + 1 := by rw [e_9]; exact rg_inc i_f_5 (by decide)
      exact hk_2 o_x1 o_x2 T_8 r_x0 r_x1 r_x2 (rg_m i_v_8 (by decide)) (by have := hc_2; omega)
set_option maxRecDepth 20000 in
theorem zX7_writePass {ρ : Nat → Nat} {c : Cm} {F : Nat} {w_x1 w_x2 : Nat} (hF : 700000 ≤ F) (hO_x2 : pmO c w_x2 [(49, 999), (10, 1)]) {h : Hp} {x0 : Nat} {x1 : Nat} {x2 : Nat} (o_x1 : cw c x1 = w_x1) (o_x2 : cw c x2 = w_x2) (T : TH ρ c h) (r_x0 : ρ x0 = 8) (r_x1 : ρ x1 = 4) (r_x2 : ρ x2 = 10) : Sat (sX7_writePass F h x0 x1 x2) (ZV ρ c) := by
  unfold sX7_writePass 
  have m_1 : Rg (0) (7) ((0 : Int32)) := (rg_m (rg_b rfl : Rg (0) (0) ((0 : Int32))) (by decide))
  exact zX7_writePass_2 hF (pmO_s hO_x2 rfl) F o_x1 o_x2 T r_x0 r_x1 r_x2 (rg_m (rg_b rfl : Rg (0) (0) ((0 : Int32))) (by decide)) (by have := m_1.1; have := m_1.2; omega)
set_option maxRecDepth 20000 in
theorem zX7_writeRights_2 {ρ : Nat → Nat} {c : Cm} {F : Nat} {w_x1 w_x2 : Nat} (hF : 700000 ≤ F) (hO_x2 : pmO c w_x2 [(49, 999), (10, 1)]) : ∀ (f : Nat) {h : Hp} {x0 : Nat} {x1 : Nat} {x2 : Nat} {x3 : Int32}, cw c x1 = w_x1 → cw c x2 = w_x2 → TH ρ c h → ρ x0 = 8 → ρ x1 = 4 → ρ x2 = 10 → Rg (0) (64) (x3) → (64 - x3.toInt).toNat < f → Sat (sX7_writeRights_2 F f h x0 x1 x2 x3) (ZV ρ c) := by
  intro f
  induction f with
  | zero => intros; omega
  | succ f ih =>
    intro h x0 x1 x2 x3 o_x1 o_x2 T r_x0 r_x1 r_x2 i_x3 hm
    rw [sX7_writeRights_2]
    unfold sX7_writeRights_56 sX7_writeRights_35
    obtain ⟨C_2, hC_2⟩ : ∃ C : Int, C = x3.toInt := ⟨_, rfl⟩
    have hk_2 : ∀ {h : Hp} {x0 : Nat} {x1 : Nat} {x2 : Nat} {x3 : Int32}, cw c x1 = w_x1 → cw c x2 = w_x2 → TH ρ c h → ρ x0 = 8 → ρ x1 = 4 → ρ x2 = 10 → Rg (0) (64) (x3) → C_2 < x3.toInt → Sat (sX7_writeRights_2 F f h x0 x1 x2 x3) (ZV ρ c) := by
      intro h' x0' x1' x2' x3' o_x1' o_x2' T' r_x0' r_x1' r_x2' i_x3' hl
      exact ih o_x1' o_x2' T' r_x0' r_x1' r_x2' i_x3' (by have := i_x3'.1; have := i_x3'.2; omega)
    have hc_2 : C_2 ≤ x3.toInt := by omega
    obtain ⟨r_1, e_r_1, q_r_1⟩ := thR T r_x0 (k := 8) (i := 0) (k2 := 2) rfl (by decide)
    refine s_ref e_r_1 ?_
    refine s_br (fun c_1 => ?_) (fun c_1 => ?_)
    · have _ := c_1
      refine s_br (fun c_2 => ?_) (fun c_2 => ?_)
      · have _ := c_2
        refine s_cV (zX9_append hF (pmO_e o_x2 hO_x2 rfl) T r_x2 (rg_m (rg_b rfl : Rg (45) (45) ((45 : Int32))) (by decide))) (fun o_4 T_3 => ?_)
        exact s_some (T_3)
      · have _ := c_2
        exact s_some (T)
    · have _ := c_1
      have i_f_4 : Rg (0) (63) (x3) := rg_lt1 (nle_lt c_1) i_x3 (thI T q_r_1 (k := 2) (i := 2) rfl : Rg (0) (64) ((hI h r_1 2)))
      have i_f_5 : Rg (1) (64) ((hI h r_1 2)) := rg_lt2 (nle_lt c_1) i_x3 (thI T q_r_1 (k := 2) (i := 2) rfl : Rg (0) (64) ((hI h r_1 2)))
      refine s_br (fun c_6 => ?_) (fun c_6 => ?_)
      · have _ := c_6
        refine s_q (fun v_1q3 e_7 => ?_)
        have i_v_1q3 : Rg (1) (64) (v_1q3) := by rw [e_7]; exact (rg_add i_f_4 (rg_b rfl : Rg (1) (1) ((1 : Int32))) (by decide) : Rg (1) (64) (x3 + (1 : Int32)))
        have m_8 : (v_1q3).toInt = x3.toInt + 1 := by rw [e_7]; exact rg_inc i_f_4 (by decide)
        exact hk_2 o_x1 o_x2 T r_x0 r_x1 r_x2 (rg_m i_v_1q3 (by decide)) (by have := hc_2; omega)
      · have _ := c_6
        refine s_ref e_r_1 ?_
        refine s_cV (zX7_writeSquare hF (pmO_s hO_x2 rfl) (th_id T r_x0 (k := 8) (i := 0) (w := 2102) e_r_1 rfl (by decide)) o_x2 T q_r_1 i_f_4 r_x2) (fun o_7 T_9 => ?_)
        refine s_q (fun v_1q4 e_10 => ?_)
        have i_v_1q4 : Rg (1) (64) (v_1q4) := by rw [e_10]; exact (rg_add i_f_4 (rg_b rfl : Rg (1) (1) ((1 : Int32))) (by decide) : Rg (1) (64) (x3 + (1 : Int32)))
        have m_11 : (v_1q4).toInt = x3.toInt + 1 := by rw [e_10]; exact rg_inc i_f_4 (by decide)
        exact hk_2 o_x1 o_x2 T_9 r_x0 r_x1 r_x2 (rg_m i_v_1q4 (by decide)) (by have := hc_2; omega)
set_option maxRecDepth 20000 in
theorem zX7_writeRights {ρ : Nat → Nat} {c : Cm} {F : Nat} {w_x1 w_x2 : Nat} (hF : 700000 ≤ F) (hO_x2 : pmO c w_x2 [(49, 999), (10, 1)]) {h : Hp} {x0 : Nat} {x1 : Nat} {x2 : Nat} (o_x1 : cw c x1 = w_x1) (o_x2 : cw c x2 = w_x2) (T : TH ρ c h) (r_x0 : ρ x0 = 8) (r_x1 : ρ x1 = 4) (r_x2 : ρ x2 = 10) : Sat (sX7_writeRights F h x0 x1 x2) (ZV ρ c) := by
  unfold sX7_writeRights 
  have m_1 : Rg (0) (64) ((0 : Int32)) := (rg_m (rg_b rfl : Rg (0) (0) ((0 : Int32))) (by decide))
  exact zX7_writeRights_2 hF (pmO_s hO_x2 rfl) F o_x1 o_x2 T r_x0 r_x1 r_x2 (rg_m (rg_b rfl : Rg (0) (0) ((0 : Int32))) (by decide)) (by have := m_1.1; have := m_1.2; omega)
set_option maxRecDepth 20000 in
theorem zX12_clear_38 {ρ : Nat → Nat} {c : Cm} {F : Nat} {w_x0 : Nat} (hF : 700000 ≤ F) (hO_x0 : pmO c w_x0 [(64, 999), (65, 999), (13, 7)]) : ∀ (f : Nat) {h : Hp} {x0 : Nat} {x1 : Int32}, cw c x0 = w_x0 → TH ρ c h → ρ x0 = 13 → Rg (0) (24) (x1) → (24 - x1.toInt).toNat < f → Sat (sX12_clear_38 F f h x0 x1) (ZV ρ c) := by
  intro f
  induction f with
  | zero => intros; omega
  | succ f ih =>
    intro h x0 x1 o_x0 T r_x0 i_x1 hm
    rw [sX12_clear_38]
    obtain ⟨C_38, hC_38⟩ : ∃ C : Int, C = x1.toInt := ⟨_, rfl⟩
    have hk_38 : ∀ {h : Hp} {x0 : Nat} {x1 : Int32}, cw c x0 = w_x0 → TH ρ c h → ρ x0 = 13 → Rg (0) (24) (x1) → C_38 < x1.toInt → Sat (sX12_clear_38 F f h x0 x1) (ZV ρ c) := by
      intro h' x0' x1' o_x0' T' r_x0' i_x1' hl
      exact ih o_x0' T' r_x0' i_x1' (by have := i_x1'.1; have := i_x1'.2; omega)
    have hc_38 : C_38 ≤ x1.toInt := by omega
    refine s_br (fun c_1 => ?_) (fun c_1 => ?_)
    · have _ := c_1
      have i_f_2 : Rg (24) (24) (x1) := rg_le2 c_1 (rg_b rfl : Rg (24) (24) ((24 : Int32))) i_x1
      obtain ⟨r_2, e_r_2, q_r_2⟩ := thR T r_x0 (k := 13) (i := 6) (k2 := 65) rfl (by decide)
      refine s_ref e_r_2 ?_
      refine s_gd (by rw [thN T q_r_2 (k := 65) (n := 2) rfl (by decide)]; exact rg_inB (rg_b rfl : Rg (0) (0) ((0 : Int32))) (by decide)) ?_
      refine s_hq (th_wI T q_r_2 (k := 65) (lo := (0)) (hi := (9)) rfl ((rg_m (rg_b rfl : Rg (0) (0) ((0 : Int32))) (by decide)) : Rg (0) (9) ((0 : Int32))) (by decide) (by decide) (pm_o hO_x0 (th_ih T r_x0 (k := 13) rfl e_r_2 o_x0) rfl)) (fun h_4 T_3 w_4 => ?_)
      refine s_ref (hr_w w_4 e_r_2) ?_
      refine s_gd (by rw [thN T_3 q_r_2 (k := 65) (n := 2) rfl (by decide)]; exact rg_inB (rg_b rfl : Rg (1) (1) ((1 : Int32))) (by decide)) ?_
      refine s_hq (th_wI T_3 q_r_2 (k := 65) (lo := (0)) (hi := (9)) rfl ((rg_m (rg_b rfl : Rg (0) (0) ((0 : Int32))) (by decide)) : Rg (0) (9) ((0 : Int32))) (by decide) (by decide) (pm_o hO_x0 (th_ih T r_x0 (k := 13) rfl e_r_2 o_x0) rfl)) (fun h_7 T_5 w_6 => ?_)
      refine s_hq (th_wI T_5 r_x0 (k := 13) (lo := (0)) (hi := (999)) rfl ((rg_m (rg_b rfl : Rg (0) (0) ((0 : Int32))) (by decide)) : Rg (0) (999) ((0 : Int32))) (by decide) (by decide) (pm_o hO_x0 o_x0 rfl)) (fun h_8 T_7 w_8 => ?_)
      exact s_some (T_7)
    · have _ := c_1
      have i_f_9 : Rg (0) (23) (x1) := rg_lt1 (nle_lt c_1) i_x1 (rg_b rfl : Rg (24) (24) ((24 : Int32)))
      obtain ⟨r_9, e_r_9, q_r_9⟩ := thR T r_x0 (k := 13) (i := 5) (k2 := 64) rfl (by decide)
      refine s_ref e_r_9 ?_
      refine s_gd (by rw [thN T q_r_9 (k := 64) (n := 24) rfl (by decide)]; exact rg_inB i_f_9 (by decide)) ?_
      refine s_hq (th_wI T q_r_9 (k := 64) (lo := (0)) (hi := (16)) rfl ((rg_m (rg_b rfl : Rg (0) (0) ((0 : Int32))) (by decide)) : Rg (0) (16) ((0 : Int32))) (by decide) (by decide) (pm_o hO_x0 (th_ih T r_x0 (k := 13) rfl e_r_9 o_x0) rfl)) (fun h_11 T_10 w_11 => ?_)
      refine s_q (fun v_12 e_12 => ?_)
      have i_v_12 : Rg (1) (24) (v_12) := by rw [e_12]; exact (rg_add i_f_9 (rg_b rfl : Rg (1) (1) ((1 : Int32))) (by decide) : Rg (1) (24) (x1 + (1 : Int32)))
      have m_13 : (v_12).toInt = x1.toInt + 1 := by rw [e_12]; exact rg_inc i_f_9 (by decide)
      exact hk_38 o_x0 T_10 r_x0 (rg_m i_v_12 (by decide)) (by have := hc_38; omega)
set_option maxRecDepth 20000 in
theorem zX12_clear_2 {ρ : Nat → Nat} {c : Cm} {F : Nat} {w_x0 : Nat} (hF : 700000 ≤ F) (hO_x0 : pmO c w_x0 [(62, 999), (64, 999), (65, 999), (13, 1), (13, 2), (13, 3), (13, 7)]) : ∀ (f : Nat) {h : Hp} {x0 : Nat} {x1 : Int32}, cw c x0 = w_x0 → TH ρ c h → ρ x0 = 13 → Rg (0) (64) (x1) → (64 - x1.toInt).toNat < f → Sat (sX12_clear_2 F f h x0 x1) (ZV ρ c) := by
  intro f
  induction f with
  | zero => intros; omega
  | succ f ih =>
    intro h x0 x1 o_x0 T r_x0 i_x1 hm
    rw [sX12_clear_2]
    obtain ⟨C_2, hC_2⟩ : ∃ C : Int, C = x1.toInt := ⟨_, rfl⟩
    have hk_2 : ∀ {h : Hp} {x0 : Nat} {x1 : Int32}, cw c x0 = w_x0 → TH ρ c h → ρ x0 = 13 → Rg (0) (64) (x1) → C_2 < x1.toInt → Sat (sX12_clear_2 F f h x0 x1) (ZV ρ c) := by
      intro h' x0' x1' o_x0' T' r_x0' i_x1' hl
      exact ih o_x0' T' r_x0' i_x1' (by have := i_x1'.1; have := i_x1'.2; omega)
    have hc_2 : C_2 ≤ x1.toInt := by omega
    refine s_br (fun c_1 => ?_) (fun c_1 => ?_)
    · have _ := c_1
      have i_f_2 : Rg (64) (64) (x1) := rg_le2 c_1 (rg_b rfl : Rg (64) (64) ((64 : Int32))) i_x1
      refine s_hq (th_wI T r_x0 (k := 13) (lo := (0)) (hi := (1)) rfl ((rg_m (rg_b rfl : Rg (0) (0) ((0 : Int32))) (by decide)) : Rg (0) (1) ((0 : Int32))) (by decide) (by decide) (pm_o hO_x0 o_x0 rfl)) (fun h_2 T_3 w_4 => ?_)
      refine s_hq (th_wJ T_3 r_x0 (k := 13) (by decide) (pm_o hO_x0 o_x0 rfl)) (fun h_3 T_5 w_6 => ?_)
      refine s_hq (th_wI T_5 r_x0 (k := 13) (lo := (0)) (hi := (64)) rfl ((rg_m (rg_b rfl : Rg (0) (0) ((0 : Int32))) (by decide)) : Rg (0) (64) ((0 : Int32))) (by decide) (by decide) (pm_o hO_x0 o_x0 rfl)) (fun h_4 T_7 w_8 => ?_)
      have m_9 : Rg (0) (24) ((0 : Int32)) := (rg_m (rg_b rfl : Rg (0) (0) ((0 : Int32))) (by decide))
      exact zX12_clear_38 hF (pmO_s hO_x0 rfl) F o_x0 T_7 r_x0 (rg_m (rg_b rfl : Rg (0) (0) ((0 : Int32))) (by decide)) (by have := m_9.1; have := m_9.2; omega)
    · have _ := c_1
      have i_f_10 : Rg (0) (63) (x1) := rg_lt1 (nle_lt c_1) i_x1 (rg_b rfl : Rg (64) (64) ((64 : Int32)))
      obtain ⟨r_5, e_r_5, q_r_5⟩ := thR T r_x0 (k := 13) (i := 0) (k2 := 62) rfl (by decide)
      refine s_ref e_r_5 ?_
      refine s_gd (by rw [thN T q_r_5 (k := 62) (n := 64) rfl (by decide)]; exact rg_inB i_f_10 (by decide)) ?_
      refine s_hq (th_wI T q_r_5 (k := 62) (lo := (0)) (hi := (24)) rfl ((rg_m (rg_b rfl : Rg (0) (0) ((0 : Int32))) (by decide)) : Rg (0) (24) ((0 : Int32))) (by decide) (by decide) (pm_o hO_x0 (th_ih T r_x0 (k := 13) rfl e_r_5 o_x0) rfl)) (fun h_7 T_11 w_12 => ?_)
      refine s_q (fun v_8 e_13 => ?_)
      have i_v_8 : Rg (1) (64) (v_8) := by rw [e_13]; exact (rg_add i_f_10 (rg_b rfl : Rg (1) (1) ((1 : Int32))) (by decide) : Rg (1) (64) (x1 + (1 : Int32)))
      have m_14 : (v_8).toInt = x1.toInt + 1 := by rw [e_13]; exact rg_inc i_f_10 (by decide)
      exact hk_2 o_x0 T_11 r_x0 (rg_m i_v_8 (by decide)) (by have := hc_2; omega)
set_option maxRecDepth 20000 in
theorem zX12_clear {ρ : Nat → Nat} {c : Cm} {F : Nat} {w_x0 : Nat} (hF : 700000 ≤ F) (hO_x0 : pmO c w_x0 [(62, 999), (64, 999), (65, 999), (13, 1), (13, 2), (13, 3), (13, 7)]) {h : Hp} {x0 : Nat} (o_x0 : cw c x0 = w_x0) (T : TH ρ c h) (r_x0 : ρ x0 = 13) : Sat (sX12_clear F h x0) (ZV ρ c) := by
  unfold sX12_clear 
  have m_1 : Rg (0) (64) ((0 : Int32)) := (rg_m (rg_b rfl : Rg (0) (0) ((0 : Int32))) (by decide))
  exact zX12_clear_2 hF (pmO_s hO_x0 rfl) F o_x0 T r_x0 (rg_m (rg_b rfl : Rg (0) (0) ((0 : Int32))) (by decide)) (by have := m_1.1; have := m_1.2; omega)
set_option maxRecDepth 20000 in
theorem zX12_copy {ρ : Nat → Nat} {c : Cm} {F : Nat} {w_x0 w_x1 : Nat} (hF : 700000 ≤ F) (hO_x0 : pmO c w_x0 [(62, 999), (63, 999), (64, 999), (65, 999), (13, 1), (13, 2), (13, 3), (13, 7)]) {h : Hp} {x0 : Nat} {x1 : Nat} (o_x0 : cw c x0 = w_x0) (o_x1 : cw c x1 = w_x1) (T : TH ρ c h) (r_x0 : ρ x0 = 13) (r_x1 : ρ x1 = 13) : Sat (sX12_copy h x0 x1) (ZV ρ c) := by
  unfold sX12_copy 
  obtain ⟨r_1, e_r_1, q_r_1⟩ := thR T r_x1 (k := 13) (i := 0) (k2 := 62) rfl (by decide)
  refine s_ref e_r_1 ?_
  obtain ⟨r_2, e_r_2, q_r_2⟩ := thR T r_x0 (k := 13) (i := 0) (k2 := 62) rfl (by decide)
  refine s_ref e_r_2 ?_
  refine s_gd (rg_nneg (rg_b rfl : Rg (0) (0) ((0 : Int32))) (by decide)) ?_
  refine s_gd (rg_nneg (rg_b rfl : Rg (0) (0) ((0 : Int32))) (by decide)) ?_
  refine s_gd (rg_nneg (rg_b rfl : Rg (64) (64) ((64 : Int32))) (by decide)) ?_
  refine s_gd (g_len (rg_b rfl : Rg (0) (0) ((0 : Int32))) (rg_b rfl : Rg (64) (64) ((64 : Int32))) (thN T q_r_1 (k := 62) (n := 64) rfl (by decide)) (by decide)) ?_
  refine s_gd (g_len (rg_b rfl : Rg (0) (0) ((0 : Int32))) (rg_b rfl : Rg (64) (64) ((64 : Int32))) (thN T q_r_2 (k := 62) (n := 64) rfl (by decide)) (by decide)) ?_
  refine s_hq (th_cpI T q_r_1 q_r_2 (k0 := 62) (k := 62) (lo0 := (0)) (hi0 := (24)) (lo := (0)) (hi := (24)) (fun _ => rfl) (fun _ => rfl) (by decide) (by decide) (by decide) (fun _ => (pm_o hO_x0 (th_ih T r_x0 (k := 13) rfl e_r_2 o_x0) rfl))) (fun h_8 T_1 w_2 => ?_)
  refine s_hq (th_wI T_1 r_x0 (k := 13) (lo := (0)) (hi := (1)) rfl ((thI T_1 r_x1 (k := 13) (i := 1) rfl : Rg (0) (1) ((hI h_8 x1 1))) : Rg (0) (1) ((hI h_8 x1 1))) (by decide) (by decide) (pm_o hO_x0 o_x0 rfl)) (fun h_9 T_3 w_4 => ?_)
  refine s_hq (th_wJ T_3 r_x0 (k := 13) (by decide) (pm_o hO_x0 o_x0 rfl)) (fun h_10 T_5 w_6 => ?_)
  refine s_hq (th_wI T_5 r_x0 (k := 13) (lo := (0)) (hi := (64)) rfl ((thI T_5 r_x1 (k := 13) (i := 3) rfl : Rg (0) (64) ((hI h_10 x1 3))) : Rg (0) (64) ((hI h_10 x1 3))) (by decide) (by decide) (pm_o hO_x0 o_x0 rfl)) (fun h_11 T_7 w_8 => ?_)
  obtain ⟨r_12, e_r_12, q_r_12⟩ := thR T_7 r_x1 (k := 13) (i := 4) (k2 := 63) rfl (by decide)
  refine s_ref e_r_12 ?_
  obtain ⟨r_13, e_r_13, q_r_13⟩ := thR T_7 r_x0 (k := 13) (i := 4) (k2 := 63) rfl (by decide)
  refine s_ref e_r_13 ?_
  refine s_gd (rg_nneg (rg_b rfl : Rg (0) (0) ((0 : Int32))) (by decide)) ?_
  refine s_gd (rg_nneg (rg_b rfl : Rg (0) (0) ((0 : Int32))) (by decide)) ?_
  refine s_gd (rg_nneg ((rg_hs w_8 (thI T_5 r_x1 (k := 13) (i := 3) rfl : Rg (0) (64) ((hI h_10 x1 3)))) : Rg (0) (64) ((hI h_11 x0 3))) (by decide)) ?_
  refine s_gd (g_len (rg_b rfl : Rg (0) (0) ((0 : Int32))) ((rg_hs w_8 (thI T_5 r_x1 (k := 13) (i := 3) rfl : Rg (0) (64) ((hI h_10 x1 3)))) : Rg (0) (64) ((hI h_11 x0 3))) (thN T_7 q_r_12 (k := 63) (n := 64) rfl (by decide)) (by decide)) ?_
  refine s_gd (g_len (rg_b rfl : Rg (0) (0) ((0 : Int32))) ((rg_hs w_8 (thI T_5 r_x1 (k := 13) (i := 3) rfl : Rg (0) (64) ((hI h_10 x1 3)))) : Rg (0) (64) ((hI h_11 x0 3))) (thN T_7 q_r_13 (k := 63) (n := 64) rfl (by decide)) (by decide)) ?_
  refine s_hq (th_cpI T_7 q_r_12 q_r_13 (k0 := 63) (k := 63) (lo0 := (0)) (hi0 := (63)) (lo := (0)) (hi := (63)) (fun _ => rfl) (fun _ => rfl) (by decide) (by decide) (by decide) (fun _ => (pm_o hO_x0 (th_ih T_7 r_x0 (k := 13) rfl e_r_13 o_x0) rfl))) (fun h_19 T_9 w_10 => ?_)
  obtain ⟨r_20, e_r_20, q_r_20⟩ := thR T_9 r_x1 (k := 13) (i := 5) (k2 := 64) rfl (by decide)
  refine s_ref e_r_20 ?_
  obtain ⟨r_21, e_r_21, q_r_21⟩ := thR T_9 r_x0 (k := 13) (i := 5) (k2 := 64) rfl (by decide)
  refine s_ref e_r_21 ?_
  refine s_gd (rg_nneg (rg_b rfl : Rg (0) (0) ((0 : Int32))) (by decide)) ?_
  refine s_gd (rg_nneg (rg_b rfl : Rg (0) (0) ((0 : Int32))) (by decide)) ?_
  refine s_gd (rg_nneg (rg_b rfl : Rg (24) (24) ((24 : Int32))) (by decide)) ?_
  refine s_gd (g_len (rg_b rfl : Rg (0) (0) ((0 : Int32))) (rg_b rfl : Rg (24) (24) ((24 : Int32))) (thN T_9 q_r_20 (k := 64) (n := 24) rfl (by decide)) (by decide)) ?_
  refine s_gd (g_len (rg_b rfl : Rg (0) (0) ((0 : Int32))) (rg_b rfl : Rg (24) (24) ((24 : Int32))) (thN T_9 q_r_21 (k := 64) (n := 24) rfl (by decide)) (by decide)) ?_
  refine s_hq (th_cpI T_9 q_r_20 q_r_21 (k0 := 64) (k := 64) (lo0 := (0)) (hi0 := (16)) (lo := (0)) (hi := (16)) (fun _ => rfl) (fun _ => rfl) (by decide) (by decide) (by decide) (fun _ => (pm_o hO_x0 (th_ih T_9 r_x0 (k := 13) rfl e_r_21 o_x0) rfl))) (fun h_27 T_11 w_12 => ?_)
  obtain ⟨r_28, e_r_28, q_r_28⟩ := thR T_11 r_x0 (k := 13) (i := 6) (k2 := 65) rfl (by decide)
  refine s_ref e_r_28 ?_
  obtain ⟨r_29, e_r_29, q_r_29⟩ := thR T_11 r_x1 (k := 13) (i := 6) (k2 := 65) rfl (by decide)
  refine s_ref e_r_29 ?_
  refine s_gd (by rw [thN T_11 q_r_29 (k := 65) (n := 2) rfl (by decide)]; exact rg_inB (rg_b rfl : Rg (0) (0) ((0 : Int32))) (by decide)) ?_
  refine s_gd (by rw [thN T_11 q_r_28 (k := 65) (n := 2) rfl (by decide)]; exact rg_inB (rg_b rfl : Rg (0) (0) ((0 : Int32))) (by decide)) ?_
  refine s_hq (th_wI T_11 q_r_28 (k := 65) (lo := (0)) (hi := (9)) rfl ((thI T_11 q_r_29 (k := 65) rfl : Rg (0) (9) ((hI h_27 r_29 (0 : Int32).toNatClampNeg))) : Rg (0) (9) ((hI h_27 r_29 (0 : Int32).toNatClampNeg))) (by decide) (by decide) (pm_o hO_x0 (th_ih T_11 r_x0 (k := 13) rfl e_r_28 o_x0) rfl)) (fun h_32 T_13 w_14 => ?_)
  refine s_ref (hr_w w_14 e_r_28) ?_
  refine s_ref (hr_w w_14 e_r_29) ?_
  refine s_gd (by rw [thN T_13 q_r_29 (k := 65) (n := 2) rfl (by decide)]; exact rg_inB (rg_b rfl : Rg (1) (1) ((1 : Int32))) (by decide)) ?_
  refine s_gd (by rw [thN T_13 q_r_28 (k := 65) (n := 2) rfl (by decide)]; exact rg_inB (rg_b rfl : Rg (1) (1) ((1 : Int32))) (by decide)) ?_
  refine s_hq (th_wI T_13 q_r_28 (k := 65) (lo := (0)) (hi := (9)) rfl ((thI T_13 q_r_29 (k := 65) rfl : Rg (0) (9) ((hI h_32 r_29 (1 : Int32).toNatClampNeg))) : Rg (0) (9) ((hI h_32 r_29 (1 : Int32).toNatClampNeg))) (by decide) (by decide) (pm_o hO_x0 (th_ih T_11 r_x0 (k := 13) rfl e_r_28 o_x0) rfl)) (fun h_37 T_15 w_16 => ?_)
  refine s_hq (th_wI T_15 r_x0 (k := 13) (lo := (0)) (hi := (999)) rfl ((thI T_15 r_x1 (k := 13) (i := 7) rfl : Rg (0) (999) ((hI h_37 x1 7))) : Rg (0) (999) ((hI h_37 x1 7))) (by decide) (by decide) (pm_o hO_x0 o_x0 rfl)) (fun h_38 T_17 w_18 => ?_)
  exact s_some (T_17)
set_option maxRecDepth 20000 in
theorem zX13_set {ρ : Nat → Nat} {c : Cm} {F : Nat} {w_x0 w_x2 : Nat} (hF : 700000 ≤ F) (hO_x0 : pmO c w_x0 [(66, 999), (67, 999), (68, 999), (69, 999), (70, 999), (71, 999), (72, 999)]) {h : Hp} {x0 : Nat} {x1 : Int32} {x2 : Nat} {x3 : Int32} (o_x0 : cw c x0 = w_x0) (o_x2 : cw c x2 = w_x2) (T : TH ρ c h) (r_x0 : ρ x0 = 14) (i_x1 : Rg (0) (2999) (x1)) (r_x2 : ρ x2 = 14) (i_x3 : Rg (0) (2999) (x3)) : Sat (sX13_set h x0 x1 x2 x3) (ZV ρ c) := by
  unfold sX13_set 
  obtain ⟨r_1, e_r_1, q_r_1⟩ := thR T r_x0 (k := 14) (i := 1) (k2 := 66) rfl (by decide)
  refine s_ref e_r_1 ?_
  obtain ⟨r_2, e_r_2, q_r_2⟩ := thR T r_x2 (k := 14) (i := 1) (k2 := 66) rfl (by decide)
  refine s_ref e_r_2 ?_
  refine s_gd (by rw [thN T q_r_2 (k := 66) (n := 3000) rfl (by decide)]; exact rg_inB i_x3 (by decide)) ?_
  refine s_gd (by rw [thN T q_r_1 (k := 66) (n := 3000) rfl (by decide)]; exact rg_inB i_x1 (by decide)) ?_
  refine s_hq (th_wI T q_r_1 (k := 66) (lo := (-1)) (hi := (63)) rfl ((thI T q_r_2 (k := 66) rfl : Rg (-1) (63) ((hI h r_2 x3.toNatClampNeg))) : Rg (-1) (63) ((hI h r_2 x3.toNatClampNeg))) (by decide) (by decide) (pm_o hO_x0 (th_ih T r_x0 (k := 14) rfl e_r_1 o_x0) rfl)) (fun h_5 T_1 w_2 => ?_)
  obtain ⟨r_6, e_r_6, q_r_6⟩ := thR T_1 r_x0 (k := 14) (i := 2) (k2 := 67) rfl (by decide)
  refine s_ref e_r_6 ?_
  obtain ⟨r_7, e_r_7, q_r_7⟩ := thR T_1 r_x2 (k := 14) (i := 2) (k2 := 67) rfl (by decide)
  refine s_ref e_r_7 ?_
  refine s_gd (by rw [thN T_1 q_r_7 (k := 67) (n := 3000) rfl (by decide)]; exact rg_inB i_x3 (by decide)) ?_
  refine s_gd (by rw [thN T_1 q_r_6 (k := 67) (n := 3000) rfl (by decide)]; exact rg_inB i_x1 (by decide)) ?_
  refine s_hq (th_wI T_1 q_r_6 (k := 67) (lo := (0)) (hi := (63)) rfl ((thI T_1 q_r_7 (k := 67) rfl : Rg (0) (63) ((hI h_5 r_7 x3.toNatClampNeg))) : Rg (0) (63) ((hI h_5 r_7 x3.toNatClampNeg))) (by decide) (by decide) (pm_o hO_x0 (th_ih T_1 r_x0 (k := 14) rfl e_r_6 o_x0) rfl)) (fun h_10 T_3 w_4 => ?_)
  obtain ⟨r_11, e_r_11, q_r_11⟩ := thR T_3 r_x0 (k := 14) (i := 3) (k2 := 68) rfl (by decide)
  refine s_ref e_r_11 ?_
  obtain ⟨r_12, e_r_12, q_r_12⟩ := thR T_3 r_x2 (k := 14) (i := 3) (k2 := 68) rfl (by decide)
  refine s_ref e_r_12 ?_
  refine s_gd (by rw [thN T_3 q_r_12 (k := 68) (n := 3000) rfl (by decide)]; exact rg_inB i_x3 (by decide)) ?_
  refine s_gd (by rw [thN T_3 q_r_11 (k := 68) (n := 3000) rfl (by decide)]; exact rg_inB i_x1 (by decide)) ?_
  refine s_hq (th_wI T_3 q_r_11 (k := 68) (lo := (0)) (hi := (11)) rfl ((thI T_3 q_r_12 (k := 68) rfl : Rg (0) (11) ((hI h_10 r_12 x3.toNatClampNeg))) : Rg (0) (11) ((hI h_10 r_12 x3.toNatClampNeg))) (by decide) (by decide) (pm_o hO_x0 (th_ih T_3 r_x0 (k := 14) rfl e_r_11 o_x0) rfl)) (fun h_15 T_5 w_6 => ?_)
  obtain ⟨r_16, e_r_16, q_r_16⟩ := thR T_5 r_x0 (k := 14) (i := 4) (k2 := 69) rfl (by decide)
  refine s_ref e_r_16 ?_
  obtain ⟨r_17, e_r_17, q_r_17⟩ := thR T_5 r_x2 (k := 14) (i := 4) (k2 := 69) rfl (by decide)
  refine s_ref e_r_17 ?_
  refine s_gd (by rw [thN T_5 q_r_17 (k := 69) (n := 3000) rfl (by decide)]; exact rg_inB i_x3 (by decide)) ?_
  refine s_gd (by rw [thN T_5 q_r_16 (k := 69) (n := 3000) rfl (by decide)]; exact rg_inB i_x1 (by decide)) ?_
  refine s_hq (th_wI T_5 q_r_16 (k := 69) (lo := (-1)) (hi := (11)) rfl ((thI T_5 q_r_17 (k := 69) rfl : Rg (-1) (11) ((hI h_15 r_17 x3.toNatClampNeg))) : Rg (-1) (11) ((hI h_15 r_17 x3.toNatClampNeg))) (by decide) (by decide) (pm_o hO_x0 (th_ih T_5 r_x0 (k := 14) rfl e_r_16 o_x0) rfl)) (fun h_20 T_7 w_8 => ?_)
  obtain ⟨r_21, e_r_21, q_r_21⟩ := thR T_7 r_x0 (k := 14) (i := 5) (k2 := 70) rfl (by decide)
  refine s_ref e_r_21 ?_
  obtain ⟨r_22, e_r_22, q_r_22⟩ := thR T_7 r_x2 (k := 14) (i := 5) (k2 := 70) rfl (by decide)
  refine s_ref e_r_22 ?_
  refine s_gd (by rw [thN T_7 q_r_22 (k := 70) (n := 3000) rfl (by decide)]; exact rg_inB i_x3 (by decide)) ?_
  refine s_gd (by rw [thN T_7 q_r_21 (k := 70) (n := 3000) rfl (by decide)]; exact rg_inB i_x1 (by decide)) ?_
  refine s_hq (th_wI T_7 q_r_21 (k := 70) (lo := (-1)) (hi := (11)) rfl ((thI T_7 q_r_22 (k := 70) rfl : Rg (-1) (11) ((hI h_20 r_22 x3.toNatClampNeg))) : Rg (-1) (11) ((hI h_20 r_22 x3.toNatClampNeg))) (by decide) (by decide) (pm_o hO_x0 (th_ih T_7 r_x0 (k := 14) rfl e_r_21 o_x0) rfl)) (fun h_25 T_9 w_10 => ?_)
  obtain ⟨r_26, e_r_26, q_r_26⟩ := thR T_9 r_x0 (k := 14) (i := 6) (k2 := 71) rfl (by decide)
  refine s_ref e_r_26 ?_
  obtain ⟨r_27, e_r_27, q_r_27⟩ := thR T_9 r_x2 (k := 14) (i := 6) (k2 := 71) rfl (by decide)
  refine s_ref e_r_27 ?_
  refine s_gd (by rw [thN T_9 q_r_27 (k := 71) (n := 3000) rfl (by decide)]; exact rg_inB i_x3 (by decide)) ?_
  refine s_gd (by rw [thN T_9 q_r_26 (k := 71) (n := 3000) rfl (by decide)]; exact rg_inB i_x1 (by decide)) ?_
  refine s_hq (th_wI T_9 q_r_26 (k := 71) (lo := (0)) (hi := (3)) rfl ((thI T_9 q_r_27 (k := 71) rfl : Rg (0) (3) ((hI h_25 r_27 x3.toNatClampNeg))) : Rg (0) (3) ((hI h_25 r_27 x3.toNatClampNeg))) (by decide) (by decide) (pm_o hO_x0 (th_ih T_9 r_x0 (k := 14) rfl e_r_26 o_x0) rfl)) (fun h_30 T_11 w_12 => ?_)
  obtain ⟨r_31, e_r_31, q_r_31⟩ := thR T_11 r_x0 (k := 14) (i := 7) (k2 := 72) rfl (by decide)
  refine s_ref e_r_31 ?_
  obtain ⟨r_32, e_r_32, q_r_32⟩ := thR T_11 r_x2 (k := 14) (i := 7) (k2 := 72) rfl (by decide)
  refine s_ref e_r_32 ?_
  refine s_gd (by rw [thN T_11 q_r_32 (k := 72) (n := 3000) rfl (by decide)]; exact rg_inB i_x3 (by decide)) ?_
  refine s_gd (by rw [thN T_11 q_r_31 (k := 72) (n := 3000) rfl (by decide)]; exact rg_inB i_x1 (by decide)) ?_
  refine s_hq (th_wI T_11 q_r_31 (k := 72) (lo := (0)) (hi := (63)) rfl ((thI T_11 q_r_32 (k := 72) rfl : Rg (0) (63) ((hI h_30 r_32 x3.toNatClampNeg))) : Rg (0) (63) ((hI h_30 r_32 x3.toNatClampNeg))) (by decide) (by decide) (pm_o hO_x0 (th_ih T_11 r_x0 (k := 14) rfl e_r_31 o_x0) rfl)) (fun h_35 T_13 w_14 => ?_)
  exact s_some (T_13)
set_option maxRecDepth 20000 in
theorem zX14_clear_22 {ρ : Nat → Nat} {c : Cm} {F : Nat} {w_x0 : Nat} (hF : 700000 ≤ F) (hO_x0 : pmO c w_x0 [(74, 999), (81, 999), (15, 15), (15, 16), (15, 17), (15, 18), (15, 19), (15, 20), (15, 21), (15, 22), (15, 23)]) : ∀ (f : Nat) {h : Hp} {x0 : Nat} {x1 : Int32}, cw c x0 = w_x0 → TH ρ c h → ρ x0 = 15 → Rg (0) (12) (x1) → (12 - x1.toInt).toNat < f → Sat (sX14_clear_22 F f h x0 x1) (ZV ρ c) := by
  intro f
  induction f with
  | zero => intros; omega
  | succ f ih =>
    intro h x0 x1 o_x0 T r_x0 i_x1 hm
    rw [sX14_clear_22]
    obtain ⟨C_22, hC_22⟩ : ∃ C : Int, C = x1.toInt := ⟨_, rfl⟩
    have hk_22 : ∀ {h : Hp} {x0 : Nat} {x1 : Int32}, cw c x0 = w_x0 → TH ρ c h → ρ x0 = 15 → Rg (0) (12) (x1) → C_22 < x1.toInt → Sat (sX14_clear_22 F f h x0 x1) (ZV ρ c) := by
      intro h' x0' x1' o_x0' T' r_x0' i_x1' hl
      exact ih o_x0' T' r_x0' i_x1' (by have := i_x1'.1; have := i_x1'.2; omega)
    have hc_22 : C_22 ≤ x1.toInt := by omega
    refine s_br (fun c_1 => ?_) (fun c_1 => ?_)
    · have _ := c_1
      have i_f_2 : Rg (12) (12) (x1) := rg_le2 c_1 (rg_b rfl : Rg (12) (12) ((12 : Int32))) i_x1
      refine s_hq (th_wI T r_x0 (k := 15) (lo := (0)) (hi := (1)) rfl ((rg_m (rg_b rfl : Rg (0) (0) ((0 : Int32))) (by decide)) : Rg (0) (1) ((0 : Int32))) (by decide) (by decide) (pm_o hO_x0 o_x0 rfl)) (fun h_2 T_3 w_4 => ?_)
      refine s_hq (th_wI T_3 r_x0 (k := 15) (lo := (0)) (hi := (1)) rfl ((rg_m (rg_b rfl : Rg (0) (0) ((0 : Int32))) (by decide)) : Rg (0) (1) ((0 : Int32))) (by decide) (by decide) (pm_o hO_x0 o_x0 rfl)) (fun h_3 T_5 w_6 => ?_)
      refine s_hq (th_wI T_5 r_x0 (k := 15) (lo := (0)) (hi := (1)) rfl ((rg_m (rg_b rfl : Rg (0) (0) ((0 : Int32))) (by decide)) : Rg (0) (1) ((0 : Int32))) (by decide) (by decide) (pm_o hO_x0 o_x0 rfl)) (fun h_4 T_7 w_8 => ?_)
      refine s_hq (th_wI T_7 r_x0 (k := 15) (lo := (0)) (hi := (1)) rfl ((rg_m (rg_b rfl : Rg (0) (0) ((0 : Int32))) (by decide)) : Rg (0) (1) ((0 : Int32))) (by decide) (by decide) (pm_o hO_x0 o_x0 rfl)) (fun h_5 T_9 w_10 => ?_)
      refine s_hq (th_wI T_9 r_x0 (k := 15) (lo := (0)) (hi := (4095)) rfl ((rg_m (rg_b rfl : Rg (0) (0) ((0 : Int32))) (by decide)) : Rg (0) (4095) ((0 : Int32))) (by decide) (by decide) (pm_o hO_x0 o_x0 rfl)) (fun h_6 T_11 w_12 => ?_)
      refine s_hq (th_wI T_11 r_x0 (k := 15) (lo := (0)) (hi := (9)) rfl ((rg_m (rg_b rfl : Rg (0) (0) ((0 : Int32))) (by decide)) : Rg (0) (9) ((0 : Int32))) (by decide) (by decide) (pm_o hO_x0 o_x0 rfl)) (fun h_7 T_13 w_14 => ?_)
      refine s_hq (th_wJ T_13 r_x0 (k := 15) (by decide) (pm_o hO_x0 o_x0 rfl)) (fun h_8 T_15 w_16 => ?_)
      refine s_hq (th_wI T_15 r_x0 (k := 15) (lo := (0)) (hi := (2)) rfl ((rg_m (rg_b rfl : Rg (0) (0) ((0 : Int32))) (by decide)) : Rg (0) (2) ((0 : Int32))) (by decide) (by decide) (pm_o hO_x0 o_x0 rfl)) (fun h_9 T_17 w_18 => ?_)
      refine s_hq (th_wI T_17 r_x0 (k := 15) (lo := (0)) (hi := (2)) rfl ((rg_m (rg_b rfl : Rg (0) (0) ((0 : Int32))) (by decide)) : Rg (0) (2) ((0 : Int32))) (by decide) (by decide) (pm_o hO_x0 o_x0 rfl)) (fun h_10 T_19 w_20 => ?_)
      exact s_some (T_19)
    · have _ := c_1
      have i_f_21 : Rg (0) (11) (x1) := rg_lt1 (nle_lt c_1) i_x1 (rg_b rfl : Rg (12) (12) ((12 : Int32)))
      obtain ⟨r_11, e_r_11, q_r_11⟩ := thR T r_x0 (k := 15) (i := 4) (k2 := 74) rfl (by decide)
      refine s_ref e_r_11 ?_
      refine s_gd (by rw [thN T q_r_11 (k := 74) (n := 12) rfl (by decide)]; exact rg_inB i_f_21 (by decide)) ?_
      refine s_hq (th_wI T q_r_11 (k := 74) (lo := (0)) (hi := (8)) rfl ((rg_m (rg_b rfl : Rg (0) (0) ((0 : Int32))) (by decide)) : Rg (0) (8) ((0 : Int32))) (by decide) (by decide) (pm_o hO_x0 (th_ih T r_x0 (k := 15) rfl e_r_11 o_x0) rfl)) (fun h_13 T_22 w_23 => ?_)
      obtain ⟨r_14, e_r_14, q_r_14⟩ := thR T_22 r_x0 (k := 15) (i := 14) (k2 := 81) rfl (by decide)
      refine s_ref e_r_14 ?_
      refine s_gd (by rw [thN T_22 q_r_14 (k := 81) (n := 12) rfl (by decide)]; exact rg_inB i_f_21 (by decide)) ?_
      refine s_hq (th_wI T_22 q_r_14 (k := 81) (lo := (0)) (hi := (6)) rfl ((rg_m (rg_b rfl : Rg (0) (0) ((0 : Int32))) (by decide)) : Rg (0) (6) ((0 : Int32))) (by decide) (by decide) (pm_o hO_x0 (th_ih T_22 r_x0 (k := 15) rfl e_r_14 o_x0) rfl)) (fun h_16 T_24 w_25 => ?_)
      refine s_q (fun v_17 e_26 => ?_)
      have i_v_17 : Rg (1) (12) (v_17) := by rw [e_26]; exact (rg_add i_f_21 (rg_b rfl : Rg (1) (1) ((1 : Int32))) (by decide) : Rg (1) (12) (x1 + (1 : Int32)))
      have m_27 : (v_17).toInt = x1.toInt + 1 := by rw [e_26]; exact rg_inc i_f_21 (by decide)
      exact hk_22 o_x0 T_24 r_x0 (rg_m i_v_17 (by decide)) (by have := hc_22; omega)
set_option maxRecDepth 20000 in
theorem zX14_clear {ρ : Nat → Nat} {c : Cm} {F : Nat} {w_x0 : Nat} (hF : 700000 ≤ F) (hO_x0 : pmO c w_x0 [(74, 999), (81, 999), (15, 2), (15, 10), (15, 11), (15, 12), (15, 15), (15, 16), (15, 17), (15, 18), (15, 19), (15, 20), (15, 21), (15, 22), (15, 23)]) {h : Hp} {x0 : Nat} (o_x0 : cw c x0 = w_x0) (T : TH ρ c h) (r_x0 : ρ x0 = 15) : Sat (sX14_clear F h x0) (ZV ρ c) := by
  unfold sX14_clear 
  refine s_hq (th_wI T r_x0 (k := 15) (lo := (0)) (hi := (12)) rfl ((rg_m (rg_b rfl : Rg (0) (0) ((0 : Int32))) (by decide)) : Rg (0) (12) ((0 : Int32))) (by decide) (by decide) (pm_o hO_x0 o_x0 rfl)) (fun h_1 T_1 w_2 => ?_)
  refine s_hq (th_wI T_1 r_x0 (k := 15) (lo := (-1)) (hi := (11)) rfl ((rg_m (rg_b rfl : Rg (-1) (-1) ((- 1 : Int32))) (by decide)) : Rg (-1) (11) ((- 1 : Int32))) (by decide) (by decide) (pm_o hO_x0 o_x0 rfl)) (fun h_2 T_3 w_4 => ?_)
  refine s_hq (th_wI T_3 r_x0 (k := 15) (lo := (-1)) (hi := (11)) rfl ((rg_m (rg_b rfl : Rg (-1) (-1) ((- 1 : Int32))) (by decide)) : Rg (-1) (11) ((- 1 : Int32))) (by decide) (by decide) (pm_o hO_x0 o_x0 rfl)) (fun h_3 T_5 w_6 => ?_)
  refine s_hq (th_wI T_5 r_x0 (k := 15) (lo := (-1)) (hi := (11)) rfl ((rg_m (rg_b rfl : Rg (-1) (-1) ((- 1 : Int32))) (by decide)) : Rg (-1) (11) ((- 1 : Int32))) (by decide) (by decide) (pm_o hO_x0 o_x0 rfl)) (fun h_4 T_7 w_8 => ?_)
  have m_9 : Rg (0) (12) ((0 : Int32)) := (rg_m (rg_b rfl : Rg (0) (0) ((0 : Int32))) (by decide))
  exact zX14_clear_22 hF (pmO_s hO_x0 rfl) F o_x0 T_7 r_x0 (rg_m (rg_b rfl : Rg (0) (0) ((0 : Int32))) (by decide)) (by have := m_9.1; have := m_9.2; omega)
set_option maxRecDepth 20000 in
theorem zX14_find_2 {ρ : Nat → Nat} {c : Cm} {h0 : Hp} {F : Nat} (hF : 700000 ≤ F) : ∀ (f : Nat) {h : Hp} {x0 : Nat} {x1 : Int32} {x2 : Int32}, h = h0 → TH ρ c h → ρ x0 = 15 → Rg (-128) (127) (x1) → Rg (0) (12) (x2) → (12 - x2.toInt).toNat < f → Sat (sX14_find_2 F f h x0 x1 x2) (ZI0 h0 (-1) (11)) := by
  intro f
  induction f with
  | zero => intros; omega
  | succ f ih =>
    intro h x0 x1 x2 E T r_x0 i_x1 i_x2 hm
    rw [sX14_find_2]
    obtain ⟨C_2, hC_2⟩ : ∃ C : Int, C = x2.toInt := ⟨_, rfl⟩
    have hk_2 : ∀ {h : Hp} {x0 : Nat} {x1 : Int32} {x2 : Int32}, h = h0 → TH ρ c h → ρ x0 = 15 → Rg (-128) (127) (x1) → Rg (0) (12) (x2) → C_2 < x2.toInt → Sat (sX14_find_2 F f h x0 x1 x2) (ZI0 h0 (-1) (11)) := by
      intro h' x0' x1' x2' E' T' r_x0' i_x1' i_x2' hl
      exact ih E' T' r_x0' i_x1' i_x2' (by have := i_x2'.1; have := i_x2'.2; omega)
    have hc_2 : C_2 ≤ x2.toInt := by omega
    refine s_br (fun c_1 => ?_) (fun c_1 => ?_)
    · have _ := c_1
      exact s_some ⟨E, (rg_m (rg_b rfl : Rg (-1) (-1) ((- 1 : Int32))) (by decide))⟩
    · have _ := c_1
      have i_f_2 : Rg (0) (11) (x2) := rg_lt1 (nle_lt c_1) i_x2 (thI T r_x0 (k := 15) (i := 2) rfl : Rg (0) (12) ((hI h x0 2)))
      have i_f_3 : Rg (1) (12) ((hI h x0 2)) := rg_lt2 (nle_lt c_1) i_x2 (thI T r_x0 (k := 15) (i := 2) rfl : Rg (0) (12) ((hI h x0 2)))
      obtain ⟨r_2, e_r_2, q_r_2⟩ := thR T r_x0 (k := 15) (i := 3) (k2 := 73) rfl (by decide)
      refine s_ref e_r_2 ?_
      refine s_gd (by rw [thN T q_r_2 (k := 73) (n := 12) rfl (by decide)]; exact rg_inB i_f_2 (by decide)) ?_
      refine s_br (fun c_4 => ?_) (fun c_4 => ?_)
      · have _ := c_4
        have i_f_5 : Rg (0) (122) (x1) := rg_eq c_4.symm (thI T q_r_2 (k := 73) rfl : Rg (0) (122) ((hI h r_2 x2.toNatClampNeg)))
        exact s_some ⟨E, (rg_m i_f_2 (by decide))⟩
      · have _ := c_4
        refine s_q (fun v_5 e_6 => ?_)
        have i_v_5 : Rg (1) (12) (v_5) := by rw [e_6]; exact (rg_add i_f_2 (rg_b rfl : Rg (1) (1) ((1 : Int32))) (by decide) : Rg (1) (12) (x2 + (1 : Int32)))
        have m_7 : (v_5).toInt = x2.toInt + 1 := by rw [e_6]; exact rg_inc i_f_2 (by decide)
        exact hk_2 E T r_x0 i_x1 (rg_m i_v_5 (by decide)) (by have := hc_2; omega)
set_option maxRecDepth 20000 in
theorem zX14_find {ρ : Nat → Nat} {c : Cm} {F : Nat} (hF : 700000 ≤ F) {h : Hp} {x0 : Nat} {x1 : Int32} (T : TH ρ c h) (r_x0 : ρ x0 = 15) (i_x1 : Rg (-128) (127) (x1)) : Sat (sX14_find F h x0 x1) (ZI0 h (-1) (11)) := by
  unfold sX14_find 
  have m_1 : Rg (0) (12) ((0 : Int32)) := (rg_m (rg_b rfl : Rg (0) (0) ((0 : Int32))) (by decide))
  exact zX14_find_2 hF F rfl T r_x0 i_x1 (rg_m (rg_b rfl : Rg (0) (0) ((0 : Int32))) (by decide)) (by have := m_1.1; have := m_1.2; omega)
set_option maxRecDepth 20000 in
theorem zX14_isBecome_15 {ρ : Nat → Nat} {c : Cm} {h0 : Hp} {F : Nat} (hF : 700000 ≤ F) {k_4 : Hp → Nat → Int32 → Int32 → Int32 → Option (Int32 × Hp)} {C_4 : Int} (hk_4 : ∀ {h : Hp} {x0 : Nat} {x1 : Int32} {x2 : Int32} {x3 : Int32}, h = h0 → TH ρ c h → ρ x0 = 15 → Rg (0) (11) (x1) → Rg (0) (1) (x2) → Rg (0) (12) (x3) → C_4 < x3.toInt → Sat (k_4 h x0 x1 x2 x3) (ZI0 h0 (0) (1))) : ∀ (f : Nat) {h : Hp} {x0 : Nat} {x1 : Int32} {x2 : Int32} {x3 : Int32} {x4 : Int32}, h = h0 → TH ρ c h → ρ x0 = 15 → Rg (0) (11) (x1) → Rg (0) (1) (x2) → Rg (0) (11) (x3) → Rg (0) (6) (x4) → C_4 ≤ x3.toInt → (6 - x4.toInt).toNat < f → Sat (sX14_isBecome_15 F k_4 f h x0 x1 x2 x3 x4) (ZI0 h0 (0) (1)) := by
  intro f
  induction f with
  | zero => intros; omega
  | succ f ih =>
    intro h x0 x1 x2 x3 x4 E T r_x0 i_x1 i_x2 i_x3 i_x4 hc_4 hm
    rw [sX14_isBecome_15]
    unfold sX14_isBecome_48
    obtain ⟨C_15, hC_15⟩ : ∃ C : Int, C = x4.toInt := ⟨_, rfl⟩
    have hk_15 : ∀ {h : Hp} {x0 : Nat} {x1 : Int32} {x2 : Int32} {x3 : Int32} {x4 : Int32}, h = h0 → TH ρ c h → ρ x0 = 15 → Rg (0) (11) (x1) → Rg (0) (1) (x2) → Rg (0) (11) (x3) → Rg (0) (6) (x4) → C_4 ≤ x3.toInt → C_15 < x4.toInt → Sat (sX14_isBecome_15 F k_4 f h x0 x1 x2 x3 x4) (ZI0 h0 (0) (1)) := by
      intro h' x0' x1' x2' x3' x4' E' T' r_x0' i_x1' i_x2' i_x3' i_x4' hc_4' hl
      exact ih E' T' r_x0' i_x1' i_x2' i_x3' i_x4' hc_4' (by have := i_x4'.1; have := i_x4'.2; omega)
    have hc_15 : C_15 ≤ x4.toInt := by omega
    obtain ⟨r_1, e_r_1, q_r_1⟩ := thR T r_x0 (k := 15) (i := 14) (k2 := 81) rfl (by decide)
    refine s_ref e_r_1 ?_
    refine s_gd (by rw [thN T q_r_1 (k := 81) (n := 12) rfl (by decide)]; exact rg_inB i_x3 (by decide)) ?_
    refine s_br (fun c_1 => ?_) (fun c_1 => ?_)
    · have _ := c_1
      refine s_q (fun v_4 e_2 => ?_)
      have i_v_4 : Rg (1) (12) (v_4) := by rw [e_2]; exact (rg_add i_x3 (rg_b rfl : Rg (1) (1) ((1 : Int32))) (by decide) : Rg (1) (12) (x3 + (1 : Int32)))
      have m_3 : (v_4).toInt = x3.toInt + 1 := by rw [e_2]; exact rg_inc i_x3 (by decide)
      exact hk_4 E T r_x0 i_x1 i_x2 (rg_m i_v_4 (by decide)) (by have := hc_4; omega)
    · have _ := c_1
      have i_f_4 : Rg (0) (5) (x4) := rg_lt1 (nle_lt c_1) i_x4 (thI T q_r_1 (k := 81) rfl : Rg (0) (6) ((hI h r_1 x3.toNatClampNeg)))
      have i_f_5 : Rg (1) (6) ((hI h r_1 x3.toNatClampNeg)) := rg_lt2 (nle_lt c_1) i_x4 (thI T q_r_1 (k := 81) rfl : Rg (0) (6) ((hI h r_1 x3.toNatClampNeg)))
      obtain ⟨r_5, e_r_5, q_r_5⟩ := thR T r_x0 (k := 15) (i := 13) (k2 := 80) rfl (by decide)
      refine s_ref e_r_5 ?_
      refine s_gd (by rw [thN T q_r_5 (k := 80) (n := 72) rfl (by decide)]; exact rg_inB (rg_add (rg_mulc' (rg_b rfl : Rg (6) (6) ((6 : Int32))) i_x3 (by decide) : Rg (0) (66) (((6 : Int32) * x3))) i_f_4 (by decide) : Rg (0) (71) ((((6 : Int32) * x3) + x4))) (by decide)) ?_
      refine s_br (fun c_6 => ?_) (fun c_6 => ?_)
      · have _ := c_6
        refine s_q (fun v_1q1 e_7 => ?_)
        have i_v_1q1 : Rg (0) (1) (v_1q1) := by rw [e_7]; exact (rg_or (n := 1) (rg_m i_x2 (by decide) : Rg (0) (1) (x2)) (rg_m (rg_b rfl : Rg (1) (1) ((1 : Int32))) (by decide) : Rg (0) (1) ((1 : Int32))) (by decide) : Rg (0) (1) (x2 ||| (1 : Int32)))
        refine s_q (fun v_2q1 e_8 => ?_)
        have i_v_2q1 : Rg (1) (6) (v_2q1) := by rw [e_8]; exact (rg_add i_f_4 (rg_b rfl : Rg (1) (1) ((1 : Int32))) (by decide) : Rg (1) (6) (x4 + (1 : Int32)))
        have m_9 : (v_2q1).toInt = x4.toInt + 1 := by rw [e_8]; exact rg_inc i_f_4 (by decide)
        exact hk_15 E T r_x0 i_x1 i_v_1q1 i_x3 (rg_m i_v_2q1 (by decide)) hc_4 (by have := hc_15; omega)
      · have _ := c_6
        refine s_q (fun v_1q2 e_10 => ?_)
        have i_v_1q2 : Rg (0) (1) (v_1q2) := by rw [e_10]; exact (rg_or (n := 1) (rg_m i_x2 (by decide) : Rg (0) (1) (x2)) (rg_m (rg_b rfl : Rg (0) (0) ((0 : Int32))) (by decide) : Rg (0) (0) ((0 : Int32))) (by decide) : Rg (0) (1) (x2 ||| (0 : Int32)))
        refine s_q (fun v_2q2 e_11 => ?_)
        have i_v_2q2 : Rg (1) (6) (v_2q2) := by rw [e_11]; exact (rg_add i_f_4 (rg_b rfl : Rg (1) (1) ((1 : Int32))) (by decide) : Rg (1) (6) (x4 + (1 : Int32)))
        have m_12 : (v_2q2).toInt = x4.toInt + 1 := by rw [e_11]; exact rg_inc i_f_4 (by decide)
        exact hk_15 E T r_x0 i_x1 i_v_1q2 i_x3 (rg_m i_v_2q2 (by decide)) hc_4 (by have := hc_15; omega)
set_option maxRecDepth 20000 in
theorem zX14_isBecome_4 {ρ : Nat → Nat} {c : Cm} {h0 : Hp} {F : Nat} (hF : 700000 ≤ F) : ∀ (f : Nat) {h : Hp} {x0 : Nat} {x1 : Int32} {x2 : Int32} {x3 : Int32}, h = h0 → TH ρ c h → ρ x0 = 15 → Rg (0) (11) (x1) → Rg (0) (1) (x2) → Rg (0) (12) (x3) → (12 - x3.toInt).toNat < f → Sat (sX14_isBecome_4 F f h x0 x1 x2 x3) (ZI0 h0 (0) (1)) := by
  intro f
  induction f with
  | zero => intros; omega
  | succ f ih =>
    intro h x0 x1 x2 x3 E T r_x0 i_x1 i_x2 i_x3 hm
    rw [sX14_isBecome_4]
    obtain ⟨C_4, hC_4⟩ : ∃ C : Int, C = x3.toInt := ⟨_, rfl⟩
    have hk_4 : ∀ {h : Hp} {x0 : Nat} {x1 : Int32} {x2 : Int32} {x3 : Int32}, h = h0 → TH ρ c h → ρ x0 = 15 → Rg (0) (11) (x1) → Rg (0) (1) (x2) → Rg (0) (12) (x3) → C_4 < x3.toInt → Sat (sX14_isBecome_4 F f h x0 x1 x2 x3) (ZI0 h0 (0) (1)) := by
      intro h' x0' x1' x2' x3' E' T' r_x0' i_x1' i_x2' i_x3' hl
      exact ih E' T' r_x0' i_x1' i_x2' i_x3' (by have := i_x3'.1; have := i_x3'.2; omega)
    have hc_4 : C_4 ≤ x3.toInt := by omega
    refine s_br (fun c_1 => ?_) (fun c_1 => ?_)
    · have _ := c_1
      refine s_gd (rg_bool i_x2) ?_
      exact s_some ⟨E, i_x2⟩
    · have _ := c_1
      have i_f_2 : Rg (0) (11) (x3) := rg_lt1 (nle_lt c_1) i_x3 (thI T r_x0 (k := 15) (i := 2) rfl : Rg (0) (12) ((hI h x0 2)))
      have i_f_3 : Rg (1) (12) ((hI h x0 2)) := rg_lt2 (nle_lt c_1) i_x3 (thI T r_x0 (k := 15) (i := 2) rfl : Rg (0) (12) ((hI h x0 2)))
      have m_4 : Rg (0) (6) ((0 : Int32)) := (rg_m (rg_b rfl : Rg (0) (0) ((0 : Int32))) (by decide))
      exact zX14_isBecome_15 hF @hk_4 F E T r_x0 i_x1 i_x2 i_f_2 (rg_m (rg_b rfl : Rg (0) (0) ((0 : Int32))) (by decide)) hc_4 (by have := m_4.1; have := m_4.2; omega)
set_option maxRecDepth 20000 in
theorem zX14_isBecome {ρ : Nat → Nat} {c : Cm} {F : Nat} (hF : 700000 ≤ F) {h : Hp} {x0 : Nat} {x1 : Int32} (T : TH ρ c h) (r_x0 : ρ x0 = 15) (i_x1 : Rg (0) (11) (x1)) : Sat (sX14_isBecome F h x0 x1) (ZI0 h (0) (1)) := by
  unfold sX14_isBecome 
  have m_1 : Rg (0) (12) ((0 : Int32)) := (rg_m (rg_b rfl : Rg (0) (0) ((0 : Int32))) (by decide))
  exact zX14_isBecome_4 hF F rfl T r_x0 i_x1 (rg_m (rg_b rfl : Rg (0) (0) ((0 : Int32))) (by decide)) (rg_m (rg_b rfl : Rg (0) (0) ((0 : Int32))) (by decide)) (by have := m_1.1; have := m_1.2; omega)
set_option maxRecDepth 20000 in
theorem zX15_isGame {ρ : Nat → Nat} {c : Cm} {F : Nat} (hF : 700000 ≤ F) {h : Hp} {x0 : Int32} (T : TH ρ c h) (i_x0 : Rg (-2147483648) (2147483647) (x0)) : Sat (sX15_isGame h x0) (ZP0 h (0) (1) (0) (Rg (0) (7) (x0))) := by
  unfold sX15_isGame sX15_isGame_14 sX15_isGame_15
  refine s_br (fun c_1 => ?_) (fun c_1 => ?_)
  · have _ := c_1
    have i_f_2 : Rg (-2147483648) (-1) (x0) := rg_lt1 c_1 i_x0 (rg_b rfl : Rg (0) (0) (0 : Int32))
    refine s_gd (rg_bool (rg_m (rg_b rfl : Rg (0) (0) ((0 : Int32))) (by decide))) ?_
    exact s_some ⟨rfl, (rg_m (rg_b rfl : Rg (0) (0) ((0 : Int32))) (by decide)), (fun q => absurd (rz_s (rg_b rfl : Rg (0) (0) ((0 : Int32))) (rg_b rfl : Rg (0) (0) (0 : Int32))) q)⟩
  · have _ := c_1
    have i_f_3 : Rg (0) (2147483647) (x0) := rg_le2 (nlt_le c_1) (rg_b rfl : Rg (0) (0) (0 : Int32)) i_x0
    refine s_br (fun c_4 => ?_) (fun c_4 => ?_)
    · have _ := c_4
      have i_f_5 : Rg (8) (2147483647) (x0) := rg_le2 c_4 (rg_b rfl : Rg (8) (8) ((8 : Int32))) i_f_3
      refine s_gd (rg_bool (rg_m (rg_b rfl : Rg (0) (0) ((0 : Int32))) (by decide))) ?_
      exact s_some ⟨rfl, (rg_m (rg_b rfl : Rg (0) (0) ((0 : Int32))) (by decide)), (fun q => absurd (rz_s (rg_b rfl : Rg (0) (0) ((0 : Int32))) (rg_b rfl : Rg (0) (0) (0 : Int32))) q)⟩
    · have _ := c_4
      have i_f_6 : Rg (0) (7) (x0) := rg_lt1 (nle_lt c_4) i_f_3 (rg_b rfl : Rg (8) (8) ((8 : Int32)))
      refine s_gd (rg_bool (rg_m (rg_b rfl : Rg (1) (1) ((1 : Int32))) (by decide))) ?_
      exact s_some ⟨rfl, (rg_m (rg_b rfl : Rg (1) (1) ((1 : Int32))) (by decide)), (fun _ => i_f_6)⟩
set_option maxRecDepth 20000 in
theorem zX15_hasMen_42 {ρ : Nat → Nat} {c : Cm} {h0 : Hp} {F : Nat} (hF : 700000 ≤ F) : ∀ (f : Nat) {h : Hp} {x0 : Nat} {x1 : Nat} {x2 : Int32} {x3 : Int32}, h = h0 → TH ρ c h → ρ x0 = 16 → ρ x1 = 13 → Rg (0) (1) (x2) → Rg (0) (12) (x3) → (12 - x3.toInt).toNat < f → Sat (sX15_hasMen_42 F f h x0 x1 x2 x3) (ZI0 h0 (0) (1)) := by
  intro f
  induction f with
  | zero => intros; omega
  | succ f ih =>
    intro h x0 x1 x2 x3 E T r_x0 r_x1 i_x2 i_x3 hm
    rw [sX15_hasMen_42]
    obtain ⟨C_42, hC_42⟩ : ∃ C : Int, C = x3.toInt := ⟨_, rfl⟩
    have hk_42 : ∀ {h : Hp} {x0 : Nat} {x1 : Nat} {x2 : Int32} {x3 : Int32}, h = h0 → TH ρ c h → ρ x0 = 16 → ρ x1 = 13 → Rg (0) (1) (x2) → Rg (0) (12) (x3) → C_42 < x3.toInt → Sat (sX15_hasMen_42 F f h x0 x1 x2 x3) (ZI0 h0 (0) (1)) := by
      intro h' x0' x1' x2' x3' E' T' r_x0' r_x1' i_x2' i_x3' hl
      exact ih E' T' r_x0' r_x1' i_x2' i_x3' (by have := i_x3'.1; have := i_x3'.2; omega)
    have hc_42 : C_42 ≤ x3.toInt := by omega
    obtain ⟨r_1, e_r_1, q_r_1⟩ := thR T r_x0 (k := 16) (i := 4) (k2 := 15) rfl (by decide)
    refine s_ref e_r_1 ?_
    refine s_br (fun c_1 => ?_) (fun c_1 => ?_)
    · have _ := c_1
      exact s_some ⟨E, (rg_m (rg_b rfl : Rg (0) (0) ((0 : Int32))) (by decide))⟩
    · have _ := c_1
      have i_f_2 : Rg (0) (11) (x3) := rg_lt1 (nle_lt c_1) i_x3 (thI T q_r_1 (k := 15) (i := 2) rfl : Rg (0) (12) ((hI h r_1 2)))
      have i_f_3 : Rg (1) (12) ((hI h r_1 2)) := rg_lt2 (nle_lt c_1) i_x3 (thI T q_r_1 (k := 15) (i := 2) rfl : Rg (0) (12) ((hI h r_1 2)))
      obtain ⟨r_3, e_r_3, q_r_3⟩ := thR T r_x1 (k := 13) (i := 5) (k2 := 64) rfl (by decide)
      refine s_ref e_r_3 ?_
      refine s_gd (by rw [thN T q_r_3 (k := 64) (n := 24) rfl (by decide)]; exact rg_inB (rg_add (rg_mulc' (rg_b rfl : Rg (2) (2) ((2 : Int32))) i_f_2 (by decide) : Rg (0) (22) (((2 : Int32) * x3))) i_x2 (by decide) : Rg (0) (23) ((((2 : Int32) * x3) + x2))) (by decide)) ?_
      refine s_br (fun c_4 => ?_) (fun c_4 => ?_)
      · have _ := c_4
        have i_f_5 : Rg (0) (0) ((hI h r_3 (((2 : Int32) * x3) + x2).toNatClampNeg)) := rg_le1 c_4 (thI T q_r_3 (k := 64) rfl : Rg (0) (16) ((hI h r_3 (((2 : Int32) * x3) + x2).toNatClampNeg))) (rg_b rfl : Rg (0) (0) (0 : Int32))
        refine s_q (fun v_6 e_6 => ?_)
        have i_v_6 : Rg (1) (12) (v_6) := by rw [e_6]; exact (rg_add i_f_2 (rg_b rfl : Rg (1) (1) ((1 : Int32))) (by decide) : Rg (1) (12) (x3 + (1 : Int32)))
        have m_7 : (v_6).toInt = x3.toInt + 1 := by rw [e_6]; exact rg_inc i_f_2 (by decide)
        exact hk_42 E T r_x0 r_x1 i_x2 (rg_m i_v_6 (by decide)) (by have := hc_42; omega)
      · have _ := c_4
        have i_f_8 : Rg (1) (16) ((hI h r_3 (((2 : Int32) * x3) + x2).toNatClampNeg)) := rg_lt2 (nle_lt c_4) (rg_b rfl : Rg (0) (0) (0 : Int32)) (thI T q_r_3 (k := 64) rfl : Rg (0) (16) ((hI h r_3 (((2 : Int32) * x3) + x2).toNatClampNeg)))
        exact s_some ⟨E, (rg_m (rg_b rfl : Rg (1) (1) ((1 : Int32))) (by decide))⟩
set_option maxRecDepth 20000 in
theorem zX15_hasMen_2 {ρ : Nat → Nat} {c : Cm} {h0 : Hp} {F : Nat} (hF : 700000 ≤ F) : ∀ (f : Nat) {h : Hp} {x0 : Nat} {x1 : Nat} {x2 : Int32} {x3 : Int32}, h = h0 → TH ρ c h → ρ x0 = 16 → ρ x1 = 13 → Rg (0) (1) (x2) → Rg (0) (64) (x3) → (64 - x3.toInt).toNat < f → Sat (sX15_hasMen_2 F f h x0 x1 x2 x3) (ZI0 h0 (0) (1)) := by
  intro f
  induction f with
  | zero => intros; omega
  | succ f ih =>
    intro h x0 x1 x2 x3 E T r_x0 r_x1 i_x2 i_x3 hm
    rw [sX15_hasMen_2]
    unfold sX15_hasMen_34 sX15_sideOf
    obtain ⟨C_2, hC_2⟩ : ∃ C : Int, C = x3.toInt := ⟨_, rfl⟩
    have hk_2 : ∀ {h : Hp} {x0 : Nat} {x1 : Nat} {x2 : Int32} {x3 : Int32}, h = h0 → TH ρ c h → ρ x0 = 16 → ρ x1 = 13 → Rg (0) (1) (x2) → Rg (0) (64) (x3) → C_2 < x3.toInt → Sat (sX15_hasMen_2 F f h x0 x1 x2 x3) (ZI0 h0 (0) (1)) := by
      intro h' x0' x1' x2' x3' E' T' r_x0' r_x1' i_x2' i_x3' hl
      exact ih E' T' r_x0' r_x1' i_x2' i_x3' (by have := i_x3'.1; have := i_x3'.2; omega)
    have hc_2 : C_2 ≤ x3.toInt := by omega
    refine s_br (fun c_1 => ?_) (fun c_1 => ?_)
    · have _ := c_1
      have i_f_2 : Rg (9) (64) (x3) := rg_le2 c_1 (thI T r_x0 (k := 16) (i := 13) rfl : Rg (9) (64) ((hI h x0 13))) i_x3
      have m_3 : Rg (0) (12) ((0 : Int32)) := (rg_m (rg_b rfl : Rg (0) (0) ((0 : Int32))) (by decide))
      exact zX15_hasMen_42 hF F E T r_x0 r_x1 i_x2 (rg_m (rg_b rfl : Rg (0) (0) ((0 : Int32))) (by decide)) (by have := m_3.1; have := m_3.2; omega)
    · have _ := c_1
      have i_f_4 : Rg (0) (63) (x3) := rg_lt1 (nle_lt c_1) i_x3 (thI T r_x0 (k := 16) (i := 13) rfl : Rg (9) (64) ((hI h x0 13)))
      obtain ⟨r_2, e_r_2, q_r_2⟩ := thR T r_x1 (k := 13) (i := 0) (k2 := 62) rfl (by decide)
      refine s_ref e_r_2 ?_
      refine s_gd (by rw [thN T q_r_2 (k := 62) (n := 64) rfl (by decide)]; exact rg_inB i_f_4 (by decide)) ?_
      refine s_br (fun c_5 => ?_) (fun c_5 => ?_)
      · have _ := c_5
        have i_f_6 : Rg (0) (0) ((hI h r_2 x3.toNatClampNeg)) := rg_le1 c_5 (thI T q_r_2 (k := 62) rfl : Rg (0) (24) ((hI h r_2 x3.toNatClampNeg))) (rg_b rfl : Rg (0) (0) (0 : Int32))
        refine s_q (fun v_1q1 e_7 => ?_)
        have i_v_1q1 : Rg (1) (64) (v_1q1) := by rw [e_7]; exact (rg_add i_f_4 (rg_b rfl : Rg (1) (1) ((1 : Int32))) (by decide) : Rg (1) (64) (x3 + (1 : Int32)))
        have m_8 : (v_1q1).toInt = x3.toInt + 1 := by rw [e_7]; exact rg_inc i_f_4 (by decide)
        exact hk_2 E T r_x0 r_x1 i_x2 (rg_m i_v_1q1 (by decide)) (by have := hc_2; omega)
      · have _ := c_5
        have i_f_9 : Rg (1) (24) ((hI h r_2 x3.toNatClampNeg)) := rg_lt2 (nle_lt c_5) (rg_b rfl : Rg (0) (0) (0 : Int32)) (thI T q_r_2 (k := 62) rfl : Rg (0) (24) ((hI h r_2 x3.toNatClampNeg)))
        refine s_ref e_r_2 ?_
        refine s_gd (by rw [thN T q_r_2 (k := 62) (n := 64) rfl (by decide)]; exact rg_inB i_f_4 (by decide)) ?_
        refine s_pu (fun o_7z e_10 => ?_)
        try dsimp only
        have i_o_7z : Rg (0) (1) (o_7z) := by rw [e_10]; exact (rg_and (rg_b rfl : Rg (1) (1) ((1 : Int32))) (by decide) : Rg (0) (1) (((hI h r_2 x3.toNatClampNeg) - (1 : Int32)) &&& (1 : Int32)))
        refine s_br (fun c_11 => ?_) (fun c_11 => ?_)
        · have _ := c_11
          exact s_some ⟨E, (rg_m (rg_b rfl : Rg (1) (1) ((1 : Int32))) (by decide))⟩
        · have _ := c_11
          refine s_q (fun v_1q2 e_12 => ?_)
          have i_v_1q2 : Rg (1) (64) (v_1q2) := by rw [e_12]; exact (rg_add i_f_4 (rg_b rfl : Rg (1) (1) ((1 : Int32))) (by decide) : Rg (1) (64) (x3 + (1 : Int32)))
          have m_13 : (v_1q2).toInt = x3.toInt + 1 := by rw [e_12]; exact rg_inc i_f_4 (by decide)
          exact hk_2 E T r_x0 r_x1 i_x2 (rg_m i_v_1q2 (by decide)) (by have := hc_2; omega)
set_option maxRecDepth 20000 in
theorem zX15_hasMen {ρ : Nat → Nat} {c : Cm} {F : Nat} (hF : 700000 ≤ F) {h : Hp} {x0 : Nat} {x1 : Nat} {x2 : Int32} (T : TH ρ c h) (r_x0 : ρ x0 = 16) (r_x1 : ρ x1 = 13) (i_x2 : Rg (0) (1) (x2)) : Sat (sX15_hasMen F h x0 x1 x2) (ZI0 h (0) (1)) := by
  unfold sX15_hasMen 
  have m_1 : Rg (0) (64) ((0 : Int32)) := (rg_m (rg_b rfl : Rg (0) (0) ((0 : Int32))) (by decide))
  exact zX15_hasMen_2 hF F rfl T r_x0 r_x1 i_x2 (rg_m (rg_b rfl : Rg (0) (0) ((0 : Int32))) (by decide)) (by have := m_1.1; have := m_1.2; omega)
set_option maxRecDepth 20000 in
theorem zX15_royalOf_2 {ρ : Nat → Nat} {c : Cm} {h0 : Hp} {F : Nat} (hF : 700000 ≤ F) : ∀ (f : Nat) {h : Hp} {x0 : Nat} {x1 : Nat} {x2 : Int32} {x3 : Int32}, h = h0 → TH ρ c h → ρ x0 = 16 → ρ x1 = 13 → Rg (0) (1) (x2) → Rg (0) (64) (x3) → (64 - x3.toInt).toNat < f → Sat (sX15_royalOf_2 F f h x0 x1 x2 x3) (ZI0 h0 (-1) (63)) := by
  intro f
  induction f with
  | zero => intros; omega
  | succ f ih =>
    intro h x0 x1 x2 x3 E T r_x0 r_x1 i_x2 i_x3 hm
    rw [sX15_royalOf_2]
    unfold sX15_royalOf_49 sX15_valueOf
    obtain ⟨C_2, hC_2⟩ : ∃ C : Int, C = x3.toInt := ⟨_, rfl⟩
    have hk_2 : ∀ {h : Hp} {x0 : Nat} {x1 : Nat} {x2 : Int32} {x3 : Int32}, h = h0 → TH ρ c h → ρ x0 = 16 → ρ x1 = 13 → Rg (0) (1) (x2) → Rg (0) (64) (x3) → C_2 < x3.toInt → Sat (sX15_royalOf_2 F f h x0 x1 x2 x3) (ZI0 h0 (-1) (63)) := by
      intro h' x0' x1' x2' x3' E' T' r_x0' r_x1' i_x2' i_x3' hl
      exact ih E' T' r_x0' r_x1' i_x2' i_x3' (by have := i_x3'.1; have := i_x3'.2; omega)
    have hc_2 : C_2 ≤ x3.toInt := by omega
    refine s_br (fun c_1 => ?_) (fun c_1 => ?_)
    · have _ := c_1
      have i_f_2 : Rg (9) (64) (x3) := rg_le2 c_1 (thI T r_x0 (k := 16) (i := 13) rfl : Rg (9) (64) ((hI h x0 13))) i_x3
      exact s_some ⟨E, (rg_m (rg_b rfl : Rg (-1) (-1) ((- 1 : Int32))) (by decide))⟩
    · have _ := c_1
      have i_f_3 : Rg (0) (63) (x3) := rg_lt1 (nle_lt c_1) i_x3 (thI T r_x0 (k := 16) (i := 13) rfl : Rg (9) (64) ((hI h x0 13)))
      obtain ⟨r_2, e_r_2, q_r_2⟩ := thR T r_x0 (k := 16) (i := 4) (k2 := 15) rfl (by decide)
      refine s_ref e_r_2 ?_
      refine s_br (fun c_4 => ?_) (fun c_4 => ?_)
      · have _ := c_4
        have i_f_5 : Rg (-1) (-1) ((hI h r_2 10)) := rg_eq c_4 (rg_b rfl : Rg (-1) (-1) ((- 1 : Int32)))
        exact s_some ⟨E, (rg_m (rg_b rfl : Rg (-1) (-1) ((- 1 : Int32))) (by decide))⟩
      · have _ := c_4
        have i_f_6 : Rg (0) (11) ((hI h r_2 10)) := rg_nlo c_4 (thI T q_r_2 (k := 15) (i := 10) rfl : Rg (-1) (11) ((hI h r_2 10))) (rg_b rfl : Rg (-1) (-1) ((- 1 : Int32)))
        obtain ⟨r_4, e_r_4, q_r_4⟩ := thR T r_x1 (k := 13) (i := 0) (k2 := 62) rfl (by decide)
        refine s_ref e_r_4 ?_
        refine s_gd (by rw [thN T q_r_4 (k := 62) (n := 64) rfl (by decide)]; exact rg_inB i_f_3 (by decide)) ?_
        refine s_ref e_r_2 ?_
        refine s_pu (fun o_7z e_7 => ?_)
        try dsimp only
        have i_o_7z : Rg (1) (24) (o_7z) := by rw [e_7]; exact (rg_add (rg_add (rg_b rfl : Rg (1) (1) ((1 : Int32))) (rg_mulc' (rg_b rfl : Rg (2) (2) ((2 : Int32))) i_f_6 (by decide) : Rg (0) (22) (((2 : Int32) * (hI h r_2 10)))) (by decide) : Rg (1) (23) (((1 : Int32) + ((2 : Int32) * (hI h r_2 10))))) i_x2 (by decide) : Rg (1) (24) (((1 : Int32) + ((2 : Int32) * (hI h r_2 10))) + x2))
        refine s_br (fun c_8 => ?_) (fun c_8 => ?_)
        · have _ := c_8
          have i_f_9 : Rg (1) (24) ((hI h r_4 x3.toNatClampNeg)) := rg_eq c_8 i_o_7z
          exact s_some ⟨E, (rg_m i_f_3 (by decide))⟩
        · have _ := c_8
          refine s_q (fun v_9 e_10 => ?_)
          have i_v_9 : Rg (1) (64) (v_9) := by rw [e_10]; exact (rg_add i_f_3 (rg_b rfl : Rg (1) (1) ((1 : Int32))) (by decide) : Rg (1) (64) (x3 + (1 : Int32)))
          have m_11 : (v_9).toInt = x3.toInt + 1 := by rw [e_10]; exact rg_inc i_f_3 (by decide)
          exact hk_2 E T r_x0 r_x1 i_x2 (rg_m i_v_9 (by decide)) (by have := hc_2; omega)
set_option maxRecDepth 20000 in
theorem zX15_royalOf {ρ : Nat → Nat} {c : Cm} {F : Nat} (hF : 700000 ≤ F) {h : Hp} {x0 : Nat} {x1 : Nat} {x2 : Int32} (T : TH ρ c h) (r_x0 : ρ x0 = 16) (r_x1 : ρ x1 = 13) (i_x2 : Rg (0) (1) (x2)) : Sat (sX15_royalOf F h x0 x1 x2) (ZI0 h (-1) (63)) := by
  unfold sX15_royalOf 
  have m_1 : Rg (0) (64) ((0 : Int32)) := (rg_m (rg_b rfl : Rg (0) (0) ((0 : Int32))) (by decide))
  exact zX15_royalOf_2 hF F rfl T r_x0 r_x1 i_x2 (rg_m (rg_b rfl : Rg (0) (0) ((0 : Int32))) (by decide)) (by have := m_1.1; have := m_1.2; omega)
set_option maxRecDepth 20000 in
theorem zX15_early_240 {ρ : Nat → Nat} {c : Cm} {F : Nat} {w_x1 : Nat} (hF : 700000 ≤ F) {k_218 : Hp → Nat → Nat → Int32 → Option (Int32 × Hp)} {C_218 : Int} (hk_218 : ∀ {h : Hp} {x0 : Nat} {x1 : Nat} {x2 : Int32}, cw c x1 = w_x1 → TH ρ c h → ρ x0 = 16 → ρ x1 = 13 → Rg (0) (2) (x2) → C_218 < x2.toInt → Sat (k_218 h x0 x1 x2) (ZI ρ c (0) (4))) (hA : pmA c [(16, 29)]) {h : Hp} {x0 : Nat} {x1 : Nat} {x2 : Int32} {t0 : Int32} (o_x1 : cw c x1 = w_x1) (T : TH ρ c h) (r_x0 : ρ x0 = 16) (r_x1 : ρ x1 = 13) (i_x2 : Rg (0) (1) (x2)) (i_t0 : Rg (0) (1) (t0)) (hc_218 : C_218 ≤ x2.toInt) : Sat (sX15_early_240 F k_218 h x0 x1 x2 t0) (ZI ρ c (0) (4)) := by
  unfold sX15_early_240 sX15_early_269
  refine s_cI0 (zX15_hasMen hF T r_x0 r_x1 i_t0) (fun o_1 e_o_1 i_o_1 => ?_)
  have T_1 := th_eq e_o_1 T
  refine s_br (fun c_2 => ?_) (fun c_2 => ?_)
  · have _ := c_2
    have i_f_3 : Rg (0) (0) (o_1.1) := rg_eq c_2 (rg_b rfl : Rg (0) (0) (0 : Int32))
    obtain ⟨r_4, e_r_4, q_r_4⟩ := thR T_1 r_x0 (k := 16) (i := 4) (k2 := 15) rfl (by decide)
    refine s_ref e_r_4 ?_
    refine s_br (fun c_4 => ?_) (fun c_4 => ?_)
    · have _ := c_4
      have i_f_5 : Rg (1) (1) ((hI o_1.2 r_4 23)) := rg_eq c_4 (rg_b rfl : Rg (1) (1) ((1 : Int32)))
      refine s_hq (th_wI T_1 r_x0 (k := 16) (lo := (0)) (hi := (2)) rfl ((rg_m i_t0 (by decide)) : Rg (0) (2) (t0)) (by decide) (by decide) (pm_a hA rfl)) (fun h_1q1 T_6 w_7 => ?_)
      exact s_some ⟨(T_6), (rg_m (rg_b rfl : Rg (4) (4) ((4 : Int32))) (by decide))⟩
    · have _ := c_4
      refine s_hq (th_wI T_1 r_x0 (k := 16) (lo := (0)) (hi := (2)) rfl ((rg_m (rg_sub (rg_b rfl : Rg (1) (1) ((1 : Int32))) i_t0 (by decide) : Rg (0) (1) (((1 : Int32) - t0))) (by decide)) : Rg (0) (2) (((1 : Int32) - t0))) (by decide) (by decide) (pm_a hA rfl)) (fun h_1q2 T_8 w_9 => ?_)
      exact s_some ⟨(T_8), (rg_m (rg_b rfl : Rg (4) (4) ((4 : Int32))) (by decide))⟩
  · have _ := c_2
    have i_f_10 : Rg (1) (1) (o_1.1) := rg_nlo c_2 i_o_1 (rg_b rfl : Rg (0) (0) (0 : Int32))
    refine s_q (fun v_3 e_11 => ?_)
    have i_v_3 : Rg (1) (2) (v_3) := by rw [e_11]; exact (rg_add i_x2 (rg_b rfl : Rg (1) (1) ((1 : Int32))) (by decide) : Rg (1) (2) (x2 + (1 : Int32)))
    have m_12 : (v_3).toInt = x2.toInt + 1 := by rw [e_11]; exact rg_inc i_x2 (by decide)
    exact hk_218 o_x1 T_1 r_x0 r_x1 (rg_m i_v_3 (by decide)) (by have := hc_218; omega)
set_option maxRecDepth 20000 in
theorem zX15_early_186 {ρ : Nat → Nat} {c : Cm} {F : Nat} {w_x1 : Nat} (hF : 700000 ≤ F) {k_154 : Hp → Nat → Nat → Int32 → Option (Int32 × Hp)} {C_154 : Int} (hk_154 : ∀ {h : Hp} {x0 : Nat} {x1 : Nat} {x2 : Int32}, cw c x1 = w_x1 → TH ρ c h → ρ x0 = 16 → ρ x1 = 13 → Rg (0) (2) (x2) → C_154 < x2.toInt → Sat (k_154 h x0 x1 x2) (ZI ρ c (0) (4))) (hA : pmA c [(16, 29)]) {h : Hp} {x0 : Nat} {x1 : Nat} {x2 : Int32} {t0 : Int32} (o_x1 : cw c x1 = w_x1) (T : TH ρ c h) (r_x0 : ρ x0 = 16) (r_x1 : ρ x1 = 13) (i_x2 : Rg (0) (1) (x2)) (i_t0 : Rg (0) (1) (t0)) (hc_154 : C_154 ≤ x2.toInt) : Sat (sX15_early_186 F k_154 h x0 x1 x2 t0) (ZI ρ c (0) (4)) := by
  unfold sX15_early_186 
  obtain ⟨r_1, e_r_1, q_r_1⟩ := thR T r_x1 (k := 13) (i := 6) (k2 := 65) rfl (by decide)
  refine s_ref e_r_1 ?_
  refine s_gd (by rw [thN T q_r_1 (k := 65) (n := 2) rfl (by decide)]; exact rg_inB i_t0 (by decide)) ?_
  obtain ⟨r_3, e_r_3, q_r_3⟩ := thR T r_x0 (k := 16) (i := 4) (k2 := 15) rfl (by decide)
  refine s_ref e_r_3 ?_
  refine s_br (fun c_1 => ?_) (fun c_1 => ?_)
  · have _ := c_1
    have i_f_2 : Rg (0) (8) ((hI h r_1 t0.toNatClampNeg)) := rg_lt1 c_1 (thI T q_r_1 (k := 65) rfl : Rg (0) (9) ((hI h r_1 t0.toNatClampNeg))) (thI T q_r_3 (k := 15) (i := 20) rfl : Rg (0) (9) ((hI h r_3 20)))
    have i_f_3 : Rg (1) (9) ((hI h r_3 20)) := rg_lt2 c_1 (thI T q_r_1 (k := 65) rfl : Rg (0) (9) ((hI h r_1 t0.toNatClampNeg))) (thI T q_r_3 (k := 15) (i := 20) rfl : Rg (0) (9) ((hI h r_3 20)))
    refine s_q (fun v_5 e_4 => ?_)
    have i_v_5 : Rg (1) (2) (v_5) := by rw [e_4]; exact (rg_add i_x2 (rg_b rfl : Rg (1) (1) ((1 : Int32))) (by decide) : Rg (1) (2) (x2 + (1 : Int32)))
    have m_5 : (v_5).toInt = x2.toInt + 1 := by rw [e_4]; exact rg_inc i_x2 (by decide)
    exact hk_154 o_x1 T r_x0 r_x1 (rg_m i_v_5 (by decide)) (by have := hc_154; omega)
  · have _ := c_1
    refine s_hq (th_wI T r_x0 (k := 16) (lo := (0)) (hi := (2)) rfl ((rg_m i_t0 (by decide)) : Rg (0) (2) (t0)) (by decide) (by decide) (pm_a hA rfl)) (fun h_6 T_6 w_7 => ?_)
    exact s_some ⟨(T_6), (rg_m (rg_b rfl : Rg (3) (3) ((3 : Int32))) (by decide))⟩
set_option maxRecDepth 20000 in
theorem zX15_early_107 {ρ : Nat → Nat} {c : Cm} {F : Nat} {w_x1 : Nat} (hF : 700000 ≤ F) {k_73 : Hp → Nat → Nat → Int32 → Option (Int32 × Hp)} {C_73 : Int} (hk_73 : ∀ {h : Hp} {x0 : Nat} {x1 : Nat} {x2 : Int32}, cw c x1 = w_x1 → TH ρ c h → ρ x0 = 16 → ρ x1 = 13 → Rg (0) (2) (x2) → C_73 < x2.toInt → Sat (k_73 h x0 x1 x2) (ZI ρ c (0) (4))) (hA : pmA c [(16, 29)]) {h : Hp} {x0 : Nat} {x1 : Nat} {x2 : Int32} {t0 : Int32} (o_x1 : cw c x1 = w_x1) (T : TH ρ c h) (r_x0 : ρ x0 = 16) (r_x1 : ρ x1 = 13) (i_x2 : Rg (0) (1) (x2)) (i_t0 : Rg (0) (1) (t0)) (hc_73 : C_73 ≤ x2.toInt) : Sat (sX15_early_107 F k_73 h x0 x1 x2 t0) (ZI ρ c (0) (4)) := by
  unfold sX15_early_107 sX15_early_146
  refine s_cI0 (zX15_royalOf hF T r_x0 r_x1 i_t0) (fun o_1 e_o_1 i_o_1 => ?_)
  have T_1 := th_eq e_o_1 T
  refine s_br (fun c_2 => ?_) (fun c_2 => ?_)
  · have _ := c_2
    have i_f_3 : Rg (-1) (-1) (o_1.1) := rg_eq c_2 (rg_b rfl : Rg (-1) (-1) ((- 1 : Int32)))
    refine s_q (fun v_1q1 e_4 => ?_)
    have i_v_1q1 : Rg (1) (2) (v_1q1) := by rw [e_4]; exact (rg_add i_x2 (rg_b rfl : Rg (1) (1) ((1 : Int32))) (by decide) : Rg (1) (2) (x2 + (1 : Int32)))
    have m_5 : (v_1q1).toInt = x2.toInt + 1 := by rw [e_4]; exact rg_inc i_x2 (by decide)
    exact hk_73 o_x1 T_1 r_x0 r_x1 (rg_m i_v_1q1 (by decide)) (by have := hc_73; omega)
  · have _ := c_2
    have i_f_6 : Rg (0) (63) (o_1.1) := rg_nlo c_2 i_o_1 (rg_b rfl : Rg (-1) (-1) ((- 1 : Int32)))
    obtain ⟨r_3, e_r_3, q_r_3⟩ := thR T_1 r_x0 (k := 16) (i := 4) (k2 := 15) rfl (by decide)
    refine s_ref e_r_3 ?_
    refine s_br (fun c_7 => ?_) (fun c_7 => ?_)
    · have _ := c_7
      refine s_hq (th_wI T_1 r_x0 (k := 16) (lo := (0)) (hi := (2)) rfl ((rg_m i_t0 (by decide)) : Rg (0) (2) (t0)) (by decide) (by decide) (pm_a hA rfl)) (fun h_5 T_8 w_9 => ?_)
      exact s_some ⟨(T_8), (rg_m (rg_b rfl : Rg (2) (2) ((2 : Int32))) (by decide))⟩
    · have _ := c_7
      refine s_q (fun v_1q2 e_10 => ?_)
      have i_v_1q2 : Rg (1) (2) (v_1q2) := by rw [e_10]; exact (rg_add i_x2 (rg_b rfl : Rg (1) (1) ((1 : Int32))) (by decide) : Rg (1) (2) (x2 + (1 : Int32)))
      have m_11 : (v_1q2).toInt = x2.toInt + 1 := by rw [e_10]; exact rg_inc i_x2 (by decide)
      exact hk_73 o_x1 T_1 r_x0 r_x1 (rg_m i_v_1q2 (by decide)) (by have := hc_73; omega)
set_option maxRecDepth 20000 in
theorem zX15_early_45 {ρ : Nat → Nat} {c : Cm} {F : Nat} {w_x1 : Nat} (hF : 700000 ≤ F) {k_2 : Hp → Nat → Nat → Int32 → Option (Int32 × Hp)} {C_2 : Int} (hk_2 : ∀ {h : Hp} {x0 : Nat} {x1 : Nat} {x2 : Int32}, cw c x1 = w_x1 → TH ρ c h → ρ x0 = 16 → ρ x1 = 13 → Rg (0) (2) (x2) → C_2 < x2.toInt → Sat (k_2 h x0 x1 x2) (ZI ρ c (0) (4))) (hA : pmA c [(16, 29)]) {h : Hp} {x0 : Nat} {x1 : Nat} {x2 : Int32} {t0 : Int32} (o_x1 : cw c x1 = w_x1) (T : TH ρ c h) (r_x0 : ρ x0 = 16) (r_x1 : ρ x1 = 13) (i_x2 : Rg (0) (1) (x2)) (i_t0 : Rg (0) (1) (t0)) (hc_2 : C_2 ≤ x2.toInt) : Sat (sX15_early_45 F k_2 h x0 x1 x2 t0) (ZI ρ c (0) (4)) := by
  unfold sX15_early_45 
  refine s_cI0 (zX15_royalOf hF T r_x0 r_x1 i_t0) (fun o_1 e_o_1 i_o_1 => ?_)
  have T_1 := th_eq e_o_1 T
  refine s_br (fun c_2 => ?_) (fun c_2 => ?_)
  · have _ := c_2
    have i_f_3 : Rg (-1) (-1) (o_1.1) := rg_eq c_2 (rg_b rfl : Rg (-1) (-1) ((- 1 : Int32)))
    refine s_hq (th_wI T_1 r_x0 (k := 16) (lo := (0)) (hi := (2)) rfl ((rg_m (rg_sub (rg_b rfl : Rg (1) (1) ((1 : Int32))) i_t0 (by decide) : Rg (0) (1) (((1 : Int32) - t0))) (by decide)) : Rg (0) (2) (((1 : Int32) - t0))) (by decide) (by decide) (pm_a hA rfl)) (fun h_4 T_4 w_5 => ?_)
    exact s_some ⟨(T_4), (rg_m (rg_b rfl : Rg (1) (1) ((1 : Int32))) (by decide))⟩
  · have _ := c_2
    have i_f_6 : Rg (0) (63) (o_1.1) := rg_nlo c_2 i_o_1 (rg_b rfl : Rg (-1) (-1) ((- 1 : Int32)))
    refine s_q (fun v_3 e_7 => ?_)
    have i_v_3 : Rg (1) (2) (v_3) := by rw [e_7]; exact (rg_add i_x2 (rg_b rfl : Rg (1) (1) ((1 : Int32))) (by decide) : Rg (1) (2) (x2 + (1 : Int32)))
    have m_8 : (v_3).toInt = x2.toInt + 1 := by rw [e_7]; exact rg_inc i_x2 (by decide)
    exact hk_2 o_x1 T_1 r_x0 r_x1 (rg_m i_v_3 (by decide)) (by have := hc_2; omega)
set_option maxRecDepth 20000 in
theorem zX15_early_218 {ρ : Nat → Nat} {c : Cm} {F : Nat} {w_x1 : Nat} (hF : 700000 ≤ F) (hA : pmA c [(16, 29)]) : ∀ (f : Nat) {h : Hp} {x0 : Nat} {x1 : Nat} {x2 : Int32}, cw c x1 = w_x1 → TH ρ c h → ρ x0 = 16 → ρ x1 = 13 → Rg (0) (2) (x2) → (2 - x2.toInt).toNat < f → Sat (sX15_early_218 F f h x0 x1 x2) (ZI ρ c (0) (4)) := by
  intro f
  induction f with
  | zero => intros; omega
  | succ f ih =>
    intro h x0 x1 x2 o_x1 T r_x0 r_x1 i_x2 hm
    rw [sX15_early_218]
    obtain ⟨C_218, hC_218⟩ : ∃ C : Int, C = x2.toInt := ⟨_, rfl⟩
    have hk_218 : ∀ {h : Hp} {x0 : Nat} {x1 : Nat} {x2 : Int32}, cw c x1 = w_x1 → TH ρ c h → ρ x0 = 16 → ρ x1 = 13 → Rg (0) (2) (x2) → C_218 < x2.toInt → Sat (sX15_early_218 F f h x0 x1 x2) (ZI ρ c (0) (4)) := by
      intro h' x0' x1' x2' o_x1' T' r_x0' r_x1' i_x2' hl
      exact ih o_x1' T' r_x0' r_x1' i_x2' (by have := i_x2'.1; have := i_x2'.2; omega)
    have hc_218 : C_218 ≤ x2.toInt := by omega
    refine s_br (fun c_1 => ?_) (fun c_1 => ?_)
    · have _ := c_1
      have i_f_2 : Rg (2) (2) (x2) := rg_le2 c_1 (rg_b rfl : Rg (2) (2) ((2 : Int32))) i_x2
      exact s_some ⟨(T), (rg_m (rg_b rfl : Rg (0) (0) ((0 : Int32))) (by decide))⟩
    · have _ := c_1
      have i_f_3 : Rg (0) (1) (x2) := rg_lt1 (nle_lt c_1) i_x2 (rg_b rfl : Rg (2) (2) ((2 : Int32)))
      refine s_br (fun c_4 => ?_) (fun c_4 => ?_)
      · have _ := c_4
        have i_f_5 : Rg (0) (0) (x2) := rg_eq c_4 (rg_b rfl : Rg (0) (0) (0 : Int32))
        exact zX15_early_240 hF @hk_218 (pmA_s hA rfl) o_x1 T r_x0 r_x1 (rg_m i_f_5 (by decide)) (thI T r_x1 (k := 13) (i := 1) rfl : Rg (0) (1) ((hI h x1 1))) hc_218
      · have _ := c_4
        have i_f_6 : Rg (1) (1) (x2) := rg_nlo c_4 i_f_3 (rg_b rfl : Rg (0) (0) (0 : Int32))
        exact zX15_early_240 hF @hk_218 (pmA_s hA rfl) o_x1 T r_x0 r_x1 (rg_m i_f_6 (by decide)) (rg_sub (rg_b rfl : Rg (1) (1) ((1 : Int32))) (thI T r_x1 (k := 13) (i := 1) rfl : Rg (0) (1) ((hI h x1 1))) (by decide) : Rg (0) (1) (((1 : Int32) - (hI h x1 1)))) hc_218
set_option maxRecDepth 20000 in
theorem zX15_early_154 {ρ : Nat → Nat} {c : Cm} {F : Nat} {w_x1 : Nat} (hF : 700000 ≤ F) (hA : pmA c [(16, 29)]) : ∀ (f : Nat) {h : Hp} {x0 : Nat} {x1 : Nat} {x2 : Int32}, cw c x1 = w_x1 → TH ρ c h → ρ x0 = 16 → ρ x1 = 13 → Rg (0) (2) (x2) → (2 - x2.toInt).toNat < f → Sat (sX15_early_154 F f h x0 x1 x2) (ZI ρ c (0) (4)) := by
  intro f
  induction f with
  | zero => intros; omega
  | succ f ih =>
    intro h x0 x1 x2 o_x1 T r_x0 r_x1 i_x2 hm
    rw [sX15_early_154]
    unfold sX15_early_216
    obtain ⟨C_154, hC_154⟩ : ∃ C : Int, C = x2.toInt := ⟨_, rfl⟩
    have hk_154 : ∀ {h : Hp} {x0 : Nat} {x1 : Nat} {x2 : Int32}, cw c x1 = w_x1 → TH ρ c h → ρ x0 = 16 → ρ x1 = 13 → Rg (0) (2) (x2) → C_154 < x2.toInt → Sat (sX15_early_154 F f h x0 x1 x2) (ZI ρ c (0) (4)) := by
      intro h' x0' x1' x2' o_x1' T' r_x0' r_x1' i_x2' hl
      exact ih o_x1' T' r_x0' r_x1' i_x2' (by have := i_x2'.1; have := i_x2'.2; omega)
    have hc_154 : C_154 ≤ x2.toInt := by omega
    refine s_br (fun c_1 => ?_) (fun c_1 => ?_)
    · have _ := c_1
      have i_f_2 : Rg (2) (2) (x2) := rg_le2 c_1 (rg_b rfl : Rg (2) (2) ((2 : Int32))) i_x2
      have m_3 : Rg (0) (2) ((0 : Int32)) := (rg_m (rg_b rfl : Rg (0) (0) ((0 : Int32))) (by decide))
      exact zX15_early_218 hF (pmA_s hA rfl) F o_x1 T r_x0 r_x1 (rg_m (rg_b rfl : Rg (0) (0) ((0 : Int32))) (by decide)) (by have := m_3.1; have := m_3.2; omega)
    · have _ := c_1
      have i_f_4 : Rg (0) (1) (x2) := rg_lt1 (nle_lt c_1) i_x2 (rg_b rfl : Rg (2) (2) ((2 : Int32)))
      obtain ⟨r_2, e_r_2, q_r_2⟩ := thR T r_x0 (k := 16) (i := 4) (k2 := 15) rfl (by decide)
      refine s_ref e_r_2 ?_
      refine s_br (fun c_5 => ?_) (fun c_5 => ?_)
      · have _ := c_5
        have i_f_6 : Rg (0) (0) ((hI h r_2 20)) := rg_le1 c_5 (thI T q_r_2 (k := 15) (i := 20) rfl : Rg (0) (9) ((hI h r_2 20))) (rg_b rfl : Rg (0) (0) (0 : Int32))
        have m_7 : Rg (0) (2) ((0 : Int32)) := (rg_m (rg_b rfl : Rg (0) (0) ((0 : Int32))) (by decide))
        exact zX15_early_218 hF (pmA_s hA rfl) F o_x1 T r_x0 r_x1 (rg_m (rg_b rfl : Rg (0) (0) ((0 : Int32))) (by decide)) (by have := m_7.1; have := m_7.2; omega)
      · have _ := c_5
        have i_f_8 : Rg (1) (9) ((hI h r_2 20)) := rg_lt2 (nle_lt c_5) (rg_b rfl : Rg (0) (0) (0 : Int32)) (thI T q_r_2 (k := 15) (i := 20) rfl : Rg (0) (9) ((hI h r_2 20)))
        refine s_br (fun c_9 => ?_) (fun c_9 => ?_)
        · have _ := c_9
          have i_f_10 : Rg (0) (0) (x2) := rg_eq c_9 (rg_b rfl : Rg (0) (0) (0 : Int32))
          exact zX15_early_186 hF @hk_154 (pmA_s hA rfl) o_x1 T r_x0 r_x1 (rg_m i_f_10 (by decide)) (rg_sub (rg_b rfl : Rg (1) (1) ((1 : Int32))) (thI T r_x1 (k := 13) (i := 1) rfl : Rg (0) (1) ((hI h x1 1))) (by decide) : Rg (0) (1) (((1 : Int32) - (hI h x1 1)))) hc_154
        · have _ := c_9
          have i_f_11 : Rg (1) (1) (x2) := rg_nlo c_9 i_f_4 (rg_b rfl : Rg (0) (0) (0 : Int32))
          exact zX15_early_186 hF @hk_154 (pmA_s hA rfl) o_x1 T r_x0 r_x1 (rg_m i_f_11 (by decide)) (thI T r_x1 (k := 13) (i := 1) rfl : Rg (0) (1) ((hI h x1 1))) hc_154
set_option maxRecDepth 20000 in
theorem zX15_early_73 {ρ : Nat → Nat} {c : Cm} {F : Nat} {w_x1 : Nat} (hF : 700000 ≤ F) (hA : pmA c [(16, 29)]) : ∀ (f : Nat) {h : Hp} {x0 : Nat} {x1 : Nat} {x2 : Int32}, cw c x1 = w_x1 → TH ρ c h → ρ x0 = 16 → ρ x1 = 13 → Rg (0) (2) (x2) → (2 - x2.toInt).toNat < f → Sat (sX15_early_73 F f h x0 x1 x2) (ZI ρ c (0) (4)) := by
  intro f
  induction f with
  | zero => intros; omega
  | succ f ih =>
    intro h x0 x1 x2 o_x1 T r_x0 r_x1 i_x2 hm
    rw [sX15_early_73]
    unfold sX15_early_152
    obtain ⟨C_73, hC_73⟩ : ∃ C : Int, C = x2.toInt := ⟨_, rfl⟩
    have hk_73 : ∀ {h : Hp} {x0 : Nat} {x1 : Nat} {x2 : Int32}, cw c x1 = w_x1 → TH ρ c h → ρ x0 = 16 → ρ x1 = 13 → Rg (0) (2) (x2) → C_73 < x2.toInt → Sat (sX15_early_73 F f h x0 x1 x2) (ZI ρ c (0) (4)) := by
      intro h' x0' x1' x2' o_x1' T' r_x0' r_x1' i_x2' hl
      exact ih o_x1' T' r_x0' r_x1' i_x2' (by have := i_x2'.1; have := i_x2'.2; omega)
    have hc_73 : C_73 ≤ x2.toInt := by omega
    refine s_br (fun c_1 => ?_) (fun c_1 => ?_)
    · have _ := c_1
      have i_f_2 : Rg (2) (2) (x2) := rg_le2 c_1 (rg_b rfl : Rg (2) (2) ((2 : Int32))) i_x2
      have m_3 : Rg (0) (2) ((0 : Int32)) := (rg_m (rg_b rfl : Rg (0) (0) ((0 : Int32))) (by decide))
      exact zX15_early_154 hF (pmA_s hA rfl) F o_x1 T r_x0 r_x1 (rg_m (rg_b rfl : Rg (0) (0) ((0 : Int32))) (by decide)) (by have := m_3.1; have := m_3.2; omega)
    · have _ := c_1
      have i_f_4 : Rg (0) (1) (x2) := rg_lt1 (nle_lt c_1) i_x2 (rg_b rfl : Rg (2) (2) ((2 : Int32)))
      obtain ⟨r_2, e_r_2, q_r_2⟩ := thR T r_x0 (k := 16) (i := 4) (k2 := 15) rfl (by decide)
      refine s_ref e_r_2 ?_
      refine s_br (fun c_5 => ?_) (fun c_5 => ?_)
      · have _ := c_5
        have m_6 : Rg (0) (2) ((0 : Int32)) := (rg_m (rg_b rfl : Rg (0) (0) ((0 : Int32))) (by decide))
        exact zX15_early_154 hF (pmA_s hA rfl) F o_x1 T r_x0 r_x1 (rg_m (rg_b rfl : Rg (0) (0) ((0 : Int32))) (by decide)) (by have := m_6.1; have := m_6.2; omega)
      · have _ := c_5
        refine s_br (fun c_7 => ?_) (fun c_7 => ?_)
        · have _ := c_7
          have i_f_8 : Rg (0) (0) (x2) := rg_eq c_7 (rg_b rfl : Rg (0) (0) (0 : Int32))
          exact zX15_early_107 hF @hk_73 (pmA_s hA rfl) o_x1 T r_x0 r_x1 (rg_m i_f_8 (by decide)) (rg_sub (rg_b rfl : Rg (1) (1) ((1 : Int32))) (thI T r_x1 (k := 13) (i := 1) rfl : Rg (0) (1) ((hI h x1 1))) (by decide) : Rg (0) (1) (((1 : Int32) - (hI h x1 1)))) hc_73
        · have _ := c_7
          have i_f_9 : Rg (1) (1) (x2) := rg_nlo c_7 i_f_4 (rg_b rfl : Rg (0) (0) (0 : Int32))
          exact zX15_early_107 hF @hk_73 (pmA_s hA rfl) o_x1 T r_x0 r_x1 (rg_m i_f_9 (by decide)) (thI T r_x1 (k := 13) (i := 1) rfl : Rg (0) (1) ((hI h x1 1))) hc_73
set_option maxRecDepth 20000 in
theorem zX15_early_2 {ρ : Nat → Nat} {c : Cm} {F : Nat} {w_x1 : Nat} (hF : 700000 ≤ F) (hA : pmA c [(16, 29)]) : ∀ (f : Nat) {h : Hp} {x0 : Nat} {x1 : Nat} {x2 : Int32}, cw c x1 = w_x1 → TH ρ c h → ρ x0 = 16 → ρ x1 = 13 → Rg (0) (2) (x2) → (2 - x2.toInt).toNat < f → Sat (sX15_early_2 F f h x0 x1 x2) (ZI ρ c (0) (4)) := by
  intro f
  induction f with
  | zero => intros; omega
  | succ f ih =>
    intro h x0 x1 x2 o_x1 T r_x0 r_x1 i_x2 hm
    rw [sX15_early_2]
    unfold sX15_early_71
    obtain ⟨C_2, hC_2⟩ : ∃ C : Int, C = x2.toInt := ⟨_, rfl⟩
    have hk_2 : ∀ {h : Hp} {x0 : Nat} {x1 : Nat} {x2 : Int32}, cw c x1 = w_x1 → TH ρ c h → ρ x0 = 16 → ρ x1 = 13 → Rg (0) (2) (x2) → C_2 < x2.toInt → Sat (sX15_early_2 F f h x0 x1 x2) (ZI ρ c (0) (4)) := by
      intro h' x0' x1' x2' o_x1' T' r_x0' r_x1' i_x2' hl
      exact ih o_x1' T' r_x0' r_x1' i_x2' (by have := i_x2'.1; have := i_x2'.2; omega)
    have hc_2 : C_2 ≤ x2.toInt := by omega
    refine s_br (fun c_1 => ?_) (fun c_1 => ?_)
    · have _ := c_1
      have i_f_2 : Rg (2) (2) (x2) := rg_le2 c_1 (rg_b rfl : Rg (2) (2) ((2 : Int32))) i_x2
      have m_3 : Rg (0) (2) ((0 : Int32)) := (rg_m (rg_b rfl : Rg (0) (0) ((0 : Int32))) (by decide))
      exact zX15_early_73 hF (pmA_s hA rfl) F o_x1 T r_x0 r_x1 (rg_m (rg_b rfl : Rg (0) (0) ((0 : Int32))) (by decide)) (by have := m_3.1; have := m_3.2; omega)
    · have _ := c_1
      have i_f_4 : Rg (0) (1) (x2) := rg_lt1 (nle_lt c_1) i_x2 (rg_b rfl : Rg (2) (2) ((2 : Int32)))
      obtain ⟨r_2, e_r_2, q_r_2⟩ := thR T r_x0 (k := 16) (i := 4) (k2 := 15) rfl (by decide)
      refine s_ref e_r_2 ?_
      refine s_br (fun c_5 => ?_) (fun c_5 => ?_)
      · have _ := c_5
        have i_f_6 : Rg (0) (0) ((hI h r_2 18)) := rg_eq c_5 (rg_b rfl : Rg (0) (0) (0 : Int32))
        have m_7 : Rg (0) (2) ((0 : Int32)) := (rg_m (rg_b rfl : Rg (0) (0) ((0 : Int32))) (by decide))
        exact zX15_early_73 hF (pmA_s hA rfl) F o_x1 T r_x0 r_x1 (rg_m (rg_b rfl : Rg (0) (0) ((0 : Int32))) (by decide)) (by have := m_7.1; have := m_7.2; omega)
      · have _ := c_5
        have i_f_8 : Rg (1) (1) ((hI h r_2 18)) := rg_nlo c_5 (thI T q_r_2 (k := 15) (i := 18) rfl : Rg (0) (1) ((hI h r_2 18))) (rg_b rfl : Rg (0) (0) (0 : Int32))
        refine s_ref e_r_2 ?_
        refine s_br (fun c_9 => ?_) (fun c_9 => ?_)
        · have _ := c_9
          have i_f_10 : Rg (-1) (-1) ((hI h r_2 10)) := rg_eq c_9 (rg_b rfl : Rg (-1) (-1) ((- 1 : Int32)))
          have m_11 : Rg (0) (2) ((0 : Int32)) := (rg_m (rg_b rfl : Rg (0) (0) ((0 : Int32))) (by decide))
          exact zX15_early_73 hF (pmA_s hA rfl) F o_x1 T r_x0 r_x1 (rg_m (rg_b rfl : Rg (0) (0) ((0 : Int32))) (by decide)) (by have := m_11.1; have := m_11.2; omega)
        · have _ := c_9
          have i_f_12 : Rg (0) (11) ((hI h r_2 10)) := rg_nlo c_9 (thI T q_r_2 (k := 15) (i := 10) rfl : Rg (-1) (11) ((hI h r_2 10))) (rg_b rfl : Rg (-1) (-1) ((- 1 : Int32)))
          refine s_br (fun c_13 => ?_) (fun c_13 => ?_)
          · have _ := c_13
            have i_f_14 : Rg (0) (0) (x2) := rg_eq c_13 (rg_b rfl : Rg (0) (0) (0 : Int32))
            exact zX15_early_45 hF @hk_2 (pmA_s hA rfl) o_x1 T r_x0 r_x1 (rg_m i_f_14 (by decide)) (thI T r_x1 (k := 13) (i := 1) rfl : Rg (0) (1) ((hI h x1 1))) hc_2
          · have _ := c_13
            have i_f_15 : Rg (1) (1) (x2) := rg_nlo c_13 i_f_4 (rg_b rfl : Rg (0) (0) (0 : Int32))
            exact zX15_early_45 hF @hk_2 (pmA_s hA rfl) o_x1 T r_x0 r_x1 (rg_m i_f_15 (by decide)) (rg_sub (rg_b rfl : Rg (1) (1) ((1 : Int32))) (thI T r_x1 (k := 13) (i := 1) rfl : Rg (0) (1) ((hI h x1 1))) (by decide) : Rg (0) (1) (((1 : Int32) - (hI h x1 1)))) hc_2
set_option maxRecDepth 20000 in
theorem zX15_early {ρ : Nat → Nat} {c : Cm} {F : Nat} {w_x1 : Nat} (hF : 700000 ≤ F) (hA : pmA c [(16, 29)]) {h : Hp} {x0 : Nat} {x1 : Nat} (o_x1 : cw c x1 = w_x1) (T : TH ρ c h) (r_x0 : ρ x0 = 16) (r_x1 : ρ x1 = 13) : Sat (sX15_early F h x0 x1) (ZI ρ c (0) (4)) := by
  unfold sX15_early 
  have m_1 : Rg (0) (2) ((0 : Int32)) := (rg_m (rg_b rfl : Rg (0) (0) ((0 : Int32))) (by decide))
  exact zX15_early_2 hF (pmA_s hA rfl) F o_x1 T r_x0 r_x1 (rg_m (rg_b rfl : Rg (0) (0) ((0 : Int32))) (by decide)) (by have := m_1.1; have := m_1.2; omega)
set_option maxRecDepth 20000 in
theorem zX15_hasVector_170 {ρ : Nat → Nat} {c : Cm} {F : Nat} (hF : 700000 ≤ F) {h : Hp} {x4 : Int32} {x5 : Int32} {x6 : Int32} (T : TH ρ c h) (i_x4 : Rg (-7) (7) (x4)) (i_x5 : Rg (-7) (7) (x5)) (i_x6 : Rg (0) (1) (x6)) : Sat (sX15_hasVector_170 h x4 x5 x6) (ZI ρ c (0) (1)) := by
  unfold sX15_hasVector_170 sX15_hasVector_188 sX15_hasVector_193 sX15_hasVector_192
  refine s_br (fun c_1 => ?_) (fun c_1 => ?_)
  · have _ := c_1
    have i_f_2 : Rg (0) (0) (x6) := rg_eq c_1 (rg_b rfl : Rg (0) (0) (0 : Int32))
    refine s_gd (rg_bool (rg_m (rg_b rfl : Rg (1) (1) ((1 : Int32))) (by decide))) ?_
    exact s_some ⟨(T), (rg_m (rg_b rfl : Rg (1) (1) ((1 : Int32))) (by decide))⟩
  · have _ := c_1
    have i_f_3 : Rg (1) (1) (x6) := rg_nlo c_1 i_x6 (rg_b rfl : Rg (0) (0) (0 : Int32))
    refine s_br (fun c_4 => ?_) (fun c_4 => ?_)
    · have _ := c_4
      refine s_gd (rg_bool (rg_m (rg_b rfl : Rg (0) (0) ((0 : Int32))) (by decide))) ?_
      exact s_some ⟨(T), (rg_m (rg_b rfl : Rg (0) (0) ((0 : Int32))) (by decide))⟩
    · have _ := c_4
      refine s_gd (rg_bool (rg_m (rg_b rfl : Rg (1) (1) ((1 : Int32))) (by decide))) ?_
      exact s_some ⟨(T), (rg_m (rg_b rfl : Rg (1) (1) ((1 : Int32))) (by decide))⟩
set_option maxRecDepth 20000 in
theorem zX15_hasVector_145 {ρ : Nat → Nat} {c : Cm} {F : Nat} (hF : 700000 ≤ F) (hA : pmA c [(16, 24)]) {h : Hp} {x2 : Int32} {x4 : Int32} {x5 : Int32} {x6 : Int32} {x7 : Int32} {x8 : Int32} {t0 : Int32} {t1 : Nat} (T : TH ρ c h) (i_x2 : Rg (0) (7) (x2)) (i_x4 : Rg (-7) (7) (x4)) (i_x5 : Rg (-7) (7) (x5)) (i_x6 : Rg (0) (1) (x6)) (i_x7 : Rg (-7) (7) (x7)) (i_x8 : Rg (-7) (7) (x8)) (i_t0 : Rg (-7) (7) (t0)) (r_t1 : ρ t1 = 16) : Sat (sX15_hasVector_145 h x2 x4 x5 x6 x7 x8 t0 t1) (ZI ρ c (0) (1)) := by
  unfold sX15_hasVector_145 sX15_hasVector_159 sX15_hasVector_192 sX15_hasVector_193
  refine s_hq (th_wI T r_t1 (k := 16) (lo := (-7)) (hi := (7)) rfl (i_t0 : Rg (-7) (7) (t0)) (by decide) (by decide) (pm_a hA rfl)) (fun h_1 T_1 w_2 => ?_)
  refine s_br (fun c_3 => ?_) (fun c_3 => ?_)
  · have _ := c_3
    have i_f_4 : Rg (0) (0) ((x2 &&& (1 : Int32))) := rg_eq c_3 (rg_b rfl : Rg (0) (0) (0 : Int32))
    refine s_br (fun c_5 => ?_) (fun c_5 => ?_)
    · have _ := c_5
      have i_f_6 : Rg (0) (0) ((x2 &&& (2 : Int32))) := rg_eq c_5 (rg_b rfl : Rg (0) (0) (0 : Int32))
      exact zX15_hasVector_170 hF T_1 i_x4 i_x5 i_x6
    · have _ := c_5
      have i_f_7 : Rg (1) (2) ((x2 &&& (2 : Int32))) := rg_nlo c_5 (rg_and (rg_b rfl : Rg (2) (2) ((2 : Int32))) (by decide) : Rg (0) (2) ((x2 &&& (2 : Int32)))) (rg_b rfl : Rg (0) (0) (0 : Int32))
      refine s_br (fun c_8 => ?_) (fun c_8 => ?_)
      · have _ := c_8
        have i_f_9 : Rg (0) (0) (x8) := rg_eq c_8 (rg_b rfl : Rg (0) (0) (0 : Int32))
        refine s_gd (rg_bool (rg_m (rg_b rfl : Rg (0) (0) ((0 : Int32))) (by decide))) ?_
        exact s_some ⟨(T_1), (rg_m (rg_b rfl : Rg (0) (0) ((0 : Int32))) (by decide))⟩
      · have _ := c_8
        exact zX15_hasVector_170 hF T_1 i_x4 i_x5 i_x6
  · have _ := c_3
    have i_f_10 : Rg (1) (1) ((x2 &&& (1 : Int32))) := rg_nlo c_3 (rg_and (rg_b rfl : Rg (1) (1) ((1 : Int32))) (by decide) : Rg (0) (1) ((x2 &&& (1 : Int32)))) (rg_b rfl : Rg (0) (0) (0 : Int32))
    refine s_br (fun c_11 => ?_) (fun c_11 => ?_)
    · have _ := c_11
      have i_f_12 : Rg (0) (0) (x7) := rg_eq c_11 (rg_b rfl : Rg (0) (0) (0 : Int32))
      refine s_gd (rg_bool (rg_m (rg_b rfl : Rg (0) (0) ((0 : Int32))) (by decide))) ?_
      exact s_some ⟨(T_1), (rg_m (rg_b rfl : Rg (0) (0) ((0 : Int32))) (by decide))⟩
    · have _ := c_11
      refine s_br (fun c_13 => ?_) (fun c_13 => ?_)
      · have _ := c_13
        have i_f_14 : Rg (0) (0) ((x2 &&& (2 : Int32))) := rg_eq c_13 (rg_b rfl : Rg (0) (0) (0 : Int32))
        exact zX15_hasVector_170 hF T_1 i_x4 i_x5 i_x6
      · have _ := c_13
        have i_f_15 : Rg (1) (2) ((x2 &&& (2 : Int32))) := rg_nlo c_13 (rg_and (rg_b rfl : Rg (2) (2) ((2 : Int32))) (by decide) : Rg (0) (2) ((x2 &&& (2 : Int32)))) (rg_b rfl : Rg (0) (0) (0 : Int32))
        refine s_br (fun c_16 => ?_) (fun c_16 => ?_)
        · have _ := c_16
          have i_f_17 : Rg (0) (0) (x8) := rg_eq c_16 (rg_b rfl : Rg (0) (0) (0 : Int32))
          refine s_gd (rg_bool (rg_m (rg_b rfl : Rg (0) (0) ((0 : Int32))) (by decide))) ?_
          exact s_some ⟨(T_1), (rg_m (rg_b rfl : Rg (0) (0) ((0 : Int32))) (by decide))⟩
        · have _ := c_16
          exact zX15_hasVector_170 hF T_1 i_x4 i_x5 i_x6
set_option maxRecDepth 20000 in
theorem zX15_hasVector_126 {ρ : Nat → Nat} {c : Cm} {F : Nat} (hF : 700000 ≤ F) (hA : pmA c [(16, 23), (16, 24)]) {h : Hp} {x0 : Nat} {x2 : Int32} {x4 : Int32} {x5 : Int32} {x6 : Int32} {x7 : Int32} {x8 : Int32} {t0 : Int32} {t1 : Nat} (T : TH ρ c h) (r_x0 : ρ x0 = 16) (i_x2 : Rg (0) (7) (x2)) (i_x4 : Rg (-7) (7) (x4)) (i_x5 : Rg (-7) (7) (x5)) (i_x6 : Rg (0) (1) (x6)) (i_x7 : Rg (-7) (7) (x7)) (i_x8 : Rg (-7) (7) (x8)) (i_t0 : Rg (-7) (7) (t0)) (r_t1 : ρ t1 = 16) : Sat (sX15_hasVector_126 h x0 x2 x4 x5 x6 x7 x8 t0 t1) (ZI ρ c (0) (1)) := by
  unfold sX15_hasVector_126 
  refine s_hq (th_wI T r_t1 (k := 16) (lo := (-7)) (hi := (7)) rfl (i_t0 : Rg (-7) (7) (t0)) (by decide) (by decide) (pm_a hA rfl)) (fun h_1 T_1 w_2 => ?_)
  refine s_br (fun c_3 => ?_) (fun c_3 => ?_)
  · have _ := c_3
    have i_f_4 : Rg (0) (0) ((x2 &&& (2 : Int32))) := rg_eq c_3 (rg_b rfl : Rg (0) (0) (0 : Int32))
    exact zX15_hasVector_145 hF (pmA_s hA rfl) T_1 i_x2 i_x4 i_x5 i_x6 i_x7 i_x8 i_x8 r_x0
  · have _ := c_3
    have i_f_5 : Rg (1) (2) ((x2 &&& (2 : Int32))) := rg_nlo c_3 (rg_and (rg_b rfl : Rg (2) (2) ((2 : Int32))) (by decide) : Rg (0) (2) ((x2 &&& (2 : Int32)))) (rg_b rfl : Rg (0) (0) (0 : Int32))
    exact zX15_hasVector_145 hF (pmA_s hA rfl) T_1 i_x2 i_x4 i_x5 i_x6 i_x7 i_x8 (rg_sub (rg_b rfl : Rg (0) (0) ((0 : Int32))) i_x8 (by decide) : Rg (-7) (7) (((0 : Int32) - x8))) r_x0
set_option maxRecDepth 20000 in
theorem zX15_hasVector_108 {ρ : Nat → Nat} {c : Cm} {F : Nat} (hF : 700000 ≤ F) (hA : pmA c [(16, 23), (16, 24)]) {h : Hp} {x0 : Nat} {x2 : Int32} {x4 : Int32} {x5 : Int32} {x6 : Int32} {x7 : Int32} {t0 : Int32} (T : TH ρ c h) (r_x0 : ρ x0 = 16) (i_x2 : Rg (0) (7) (x2)) (i_x4 : Rg (-7) (7) (x4)) (i_x5 : Rg (-7) (7) (x5)) (i_x6 : Rg (0) (1) (x6)) (i_x7 : Rg (-7) (7) (x7)) (i_t0 : Rg (-7) (7) (t0)) : Sat (sX15_hasVector_108 h x0 x2 x4 x5 x6 x7 t0) (ZI ρ c (0) (1)) := by
  unfold sX15_hasVector_108 
  refine s_br (fun c_1 => ?_) (fun c_1 => ?_)
  · have _ := c_1
    have i_f_2 : Rg (0) (0) ((x2 &&& (1 : Int32))) := rg_eq c_1 (rg_b rfl : Rg (0) (0) (0 : Int32))
    exact zX15_hasVector_126 hF (pmA_s hA rfl) T r_x0 i_x2 i_x4 i_x5 i_x6 i_x7 i_t0 i_x7 r_x0
  · have _ := c_1
    have i_f_3 : Rg (1) (1) ((x2 &&& (1 : Int32))) := rg_nlo c_1 (rg_and (rg_b rfl : Rg (1) (1) ((1 : Int32))) (by decide) : Rg (0) (1) ((x2 &&& (1 : Int32)))) (rg_b rfl : Rg (0) (0) (0 : Int32))
    exact zX15_hasVector_126 hF (pmA_s hA rfl) T r_x0 i_x2 i_x4 i_x5 i_x6 i_x7 i_t0 (rg_sub (rg_b rfl : Rg (0) (0) ((0 : Int32))) i_x7 (by decide) : Rg (-7) (7) (((0 : Int32) - x7))) r_x0
set_option maxRecDepth 20000 in
theorem zX15_hasVector {ρ : Nat → Nat} {c : Cm} {F : Nat} (hF : 700000 ≤ F) (hA : pmA c [(16, 23), (16, 24)]) {h : Hp} {x0 : Nat} {x1 : Int32} {x2 : Int32} {x3 : Int32} (T : TH ρ c h) (r_x0 : ρ x0 = 16) (i_x1 : Rg (0) (95) (x1)) (i_x2 : Rg (0) (7) (x2)) (i_x3 : Rg (0) (1) (x3)) : Sat (sX15_hasVector h x0 x1 x2 x3) (ZI ρ c (0) (1)) := by
  unfold sX15_hasVector sX15_hasVector_80 sX15_hasVector_94 sX15_hasVector_56 sX15_hasVector_68
  obtain ⟨r_1, e_r_1, q_r_1⟩ := thR T r_x0 (k := 16) (i := 4) (k2 := 15) rfl (by decide)
  refine s_ref e_r_1 ?_
  obtain ⟨r_2, e_r_2, q_r_2⟩ := thR T q_r_1 (k := 15) (i := 6) (k2 := 76) rfl (by decide)
  refine s_ref e_r_2 ?_
  refine s_gd (by rw [thN T q_r_2 (k := 76) (n := 96) rfl (by decide)]; exact rg_inB i_x1 (by decide)) ?_
  refine s_q (fun v_4 e_1 => ?_)
  have i_v_4 : Rg (-7) (7) (v_4) := by rw [e_1]; exact (thI T q_r_2 (k := 76) rfl : Rg (-7) (7) (hI h r_2 x1.toNatClampNeg))
  refine s_ref e_r_1 ?_
  obtain ⟨r_6, e_r_6, q_r_6⟩ := thR T q_r_1 (k := 15) (i := 7) (k2 := 77) rfl (by decide)
  refine s_ref e_r_6 ?_
  refine s_gd (by rw [thN T q_r_6 (k := 77) (n := 96) rfl (by decide)]; exact rg_inB i_x1 (by decide)) ?_
  refine s_q (fun v_8 e_2 => ?_)
  have i_v_8 : Rg (-7) (7) (v_8) := by rw [e_2]; exact (thI T q_r_6 (k := 77) rfl : Rg (-7) (7) (hI h r_6 x1.toNatClampNeg))
  refine s_ref e_r_1 ?_
  obtain ⟨r_10, e_r_10, q_r_10⟩ := thR T q_r_1 (k := 15) (i := 5) (k2 := 75) rfl (by decide)
  refine s_ref e_r_10 ?_
  refine s_gd (by rw [thN T q_r_10 (k := 75) (n := 96) rfl (by decide)]; exact rg_inB i_x1 (by decide)) ?_
  refine s_br (fun c_3 => ?_) (fun c_3 => ?_)
  · have _ := c_3
    have i_f_4 : Rg (0) (0) (((hI h r_10 x1.toNatClampNeg) &&& (4 : Int32))) := rg_eq c_3 (rg_b rfl : Rg (0) (0) (0 : Int32))
    refine s_br (fun c_5 => ?_) (fun c_5 => ?_)
    · have _ := c_5
      have i_f_6 : Rg (0) (0) ((x2 &&& (4 : Int32))) := rg_eq c_5 (rg_b rfl : Rg (0) (0) (0 : Int32))
      refine s_br (fun c_7 => ?_) (fun c_7 => ?_)
      · have _ := c_7
        refine s_br (fun c_8 => ?_) (fun c_8 => ?_)
        · have _ := c_8
          exact zX15_hasVector_108 hF (pmA_s hA rfl) T r_x0 i_x2 i_v_4 i_v_8 (rg_m (rg_b rfl : Rg (0) (0) ((0 : Int32))) (by decide)) i_v_4 i_v_8
        · have _ := c_8
          exact (rc_ne c_8 (rg_b rfl : Rg (0) (0) ((0 : Int32))) (rg_b rfl : Rg (0) (0) (0 : Int32))).elim
      · have _ := c_7
        exact (rc_ne c_7 (rg_b rfl : Rg (0) (0) ((0 : Int32))) (rg_b rfl : Rg (0) (0) (0 : Int32))).elim
    · have _ := c_5
      have i_f_9 : Rg (1) (4) ((x2 &&& (4 : Int32))) := rg_nlo c_5 (rg_and (rg_b rfl : Rg (4) (4) ((4 : Int32))) (by decide) : Rg (0) (4) ((x2 &&& (4 : Int32)))) (rg_b rfl : Rg (0) (0) (0 : Int32))
      refine s_br (fun c_10 => ?_) (fun c_10 => ?_)
      · have _ := c_10
        exact (rc_eq c_10 (rg_b rfl : Rg (1) (1) ((1 : Int32))) (rg_b rfl : Rg (0) (0) (0 : Int32)) (by decide)).elim
      · have _ := c_10
        refine s_br (fun c_11 => ?_) (fun c_11 => ?_)
        · have _ := c_11
          exact (rc_eq c_11 (rg_b rfl : Rg (1) (1) ((1 : Int32))) (rg_b rfl : Rg (0) (0) (0 : Int32)) (by decide)).elim
        · have _ := c_11
          exact zX15_hasVector_108 hF (pmA_s hA rfl) T r_x0 i_x2 i_v_4 i_v_8 (rg_m (rg_b rfl : Rg (1) (1) ((1 : Int32))) (by decide)) i_v_8 i_v_4
  · have _ := c_3
    have i_f_12 : Rg (1) (4) (((hI h r_10 x1.toNatClampNeg) &&& (4 : Int32))) := rg_nlo c_3 (rg_and (rg_b rfl : Rg (4) (4) ((4 : Int32))) (by decide) : Rg (0) (4) (((hI h r_10 x1.toNatClampNeg) &&& (4 : Int32)))) (rg_b rfl : Rg (0) (0) (0 : Int32))
    refine s_hq (th_wI T r_x0 (k := 16) (lo := (-7)) (hi := (7)) rfl (i_v_4 : Rg (-7) (7) (v_4)) (by decide) (by decide) (pm_a hA rfl)) (fun h_14 T_13 w_14 => ?_)
    refine s_br (fun c_15 => ?_) (fun c_15 => ?_)
    · have _ := c_15
      have i_f_16 : Rg (0) (0) (x3) := rg_eq c_15 (rg_b rfl : Rg (0) (0) (0 : Int32))
      refine s_hq (th_wI T_13 r_x0 (k := 16) (lo := (-7)) (hi := (7)) rfl (i_v_8 : Rg (-7) (7) (v_8)) (by decide) (by decide) (pm_a hA rfl)) (fun h_1q7 T_17 w_18 => ?_)
      refine s_br (fun c_19 => ?_) (fun c_19 => ?_)
      · have _ := c_19
        have i_f_20 : Rg (0) (0) (x2) := rg_eq c_19 (rg_b rfl : Rg (0) (0) (0 : Int32))
        refine s_gd (rg_bool (rg_m (rg_b rfl : Rg (1) (1) ((1 : Int32))) (by decide))) ?_
        exact s_some ⟨(T_17), (rg_m (rg_b rfl : Rg (1) (1) ((1 : Int32))) (by decide))⟩
      · have _ := c_19
        have i_f_21 : Rg (1) (7) (x2) := rg_nlo c_19 i_x2 (rg_b rfl : Rg (0) (0) (0 : Int32))
        refine s_gd (rg_bool (rg_m (rg_b rfl : Rg (0) (0) ((0 : Int32))) (by decide))) ?_
        exact s_some ⟨(T_17), (rg_m (rg_b rfl : Rg (0) (0) ((0 : Int32))) (by decide))⟩
    · have _ := c_15
      have i_f_22 : Rg (1) (1) (x3) := rg_nlo c_15 i_x3 (rg_b rfl : Rg (0) (0) (0 : Int32))
      refine s_hq (th_wI T_13 r_x0 (k := 16) (lo := (-7)) (hi := (7)) rfl ((rg_sub (rg_b rfl : Rg (0) (0) ((0 : Int32))) i_v_8 (by decide) : Rg (-7) (7) (((0 : Int32) - v_8))) : Rg (-7) (7) (((0 : Int32) - v_8))) (by decide) (by decide) (pm_a hA rfl)) (fun h_1q10 T_23 w_24 => ?_)
      refine s_br (fun c_25 => ?_) (fun c_25 => ?_)
      · have _ := c_25
        have i_f_26 : Rg (0) (0) (x2) := rg_eq c_25 (rg_b rfl : Rg (0) (0) (0 : Int32))
        refine s_gd (rg_bool (rg_m (rg_b rfl : Rg (1) (1) ((1 : Int32))) (by decide))) ?_
        exact s_some ⟨(T_23), (rg_m (rg_b rfl : Rg (1) (1) ((1 : Int32))) (by decide))⟩
      · have _ := c_25
        have i_f_27 : Rg (1) (7) (x2) := rg_nlo c_25 i_x2 (rg_b rfl : Rg (0) (0) (0 : Int32))
        refine s_gd (rg_bool (rg_m (rg_b rfl : Rg (0) (0) ((0 : Int32))) (by decide))) ?_
        exact s_some ⟨(T_23), (rg_m (rg_b rfl : Rg (0) (0) ((0 : Int32))) (by decide))⟩
set_option maxRecDepth 20000 in
theorem zX15_rankFor {ρ : Nat → Nat} {c : Cm} {F : Nat} (hF : 700000 ≤ F) {h : Hp} {x0 : Nat} {x1 : Int32} {x2 : Int32} (T : TH ρ c h) (r_x0 : ρ x0 = 16) (i_x1 : Rg (0) (63) (x1)) (i_x2 : Rg (0) (1) (x2)) : Sat (sX15_rankFor h x0 x1 x2) (ZI0 h (-18) (22)) := by
  unfold sX15_rankFor sX15_rankFor_26
  refine s_br (fun c_1 => ?_) (fun c_1 => ?_)
  · have _ := c_1
    have i_f_2 : Rg (0) (0) (x2) := rg_eq c_1 (rg_b rfl : Rg (0) (0) (0 : Int32))
    refine s_gd (rg_ne0 (thI T r_x0 (k := 16) (i := 11) rfl : Rg (3) (8) ((hI h x0 11))) (by decide)) ?_
    exact s_some ⟨rfl, (rg_m (rg_add (rg_divw i_x1 (thI T r_x0 (k := 16) (i := 11) rfl : Rg (3) (8) ((hI h x0 11))) (by decide) : Rg (0) (21) ((x1 / (hI h x0 11)))) (rg_b rfl : Rg (1) (1) ((1 : Int32))) (by decide) : Rg (1) (22) (((x1 / (hI h x0 11)) + (1 : Int32)))) (by decide))⟩
  · have _ := c_1
    have i_f_3 : Rg (1) (1) (x2) := rg_nlo c_1 i_x2 (rg_b rfl : Rg (0) (0) (0 : Int32))
    refine s_gd (rg_ne0 (thI T r_x0 (k := 16) (i := 11) rfl : Rg (3) (8) ((hI h x0 11))) (by decide)) ?_
    exact s_some ⟨rfl, (rg_m (rg_sub (thI T r_x0 (k := 16) (i := 12) rfl : Rg (3) (8) ((hI h x0 12))) (rg_divw i_x1 (thI T r_x0 (k := 16) (i := 11) rfl : Rg (3) (8) ((hI h x0 11))) (by decide) : Rg (0) (21) ((x1 / (hI h x0 11)))) (by decide) : Rg (-18) (8) (((hI h x0 12) - (x1 / (hI h x0 11))))) (by decide))⟩
set_option maxRecDepth 20000 in
theorem zX15_isFrom {ρ : Nat → Nat} {c : Cm} {F : Nat} (hF : 700000 ≤ F) {h : Hp} {x0 : Nat} {x1 : Int32} {x2 : Int32} {x3 : Int32} (T : TH ρ c h) (r_x0 : ρ x0 = 16) (i_x1 : Rg (0) (95) (x1)) (i_x2 : Rg (0) (63) (x2)) (i_x3 : Rg (0) (1) (x3)) : Sat (sX15_isFrom h x0 x1 x2 x3) (ZI0 h (0) (1)) := by
  unfold sX15_isFrom sX15_isFrom_30 sX15_isFrom_35
  obtain ⟨r_1, e_r_1, q_r_1⟩ := thR T r_x0 (k := 16) (i := 4) (k2 := 15) rfl (by decide)
  refine s_ref e_r_1 ?_
  obtain ⟨r_2, e_r_2, q_r_2⟩ := thR T q_r_1 (k := 15) (i := 9) (k2 := 79) rfl (by decide)
  refine s_ref e_r_2 ?_
  refine s_gd (by rw [thN T q_r_2 (k := 79) (n := 96) rfl (by decide)]; exact rg_inB i_x1 (by decide)) ?_
  refine s_br (fun c_1 => ?_) (fun c_1 => ?_)
  · have _ := c_1
    have i_f_2 : Rg (0) (0) ((hI h r_2 x1.toNatClampNeg)) := rg_eq c_1 (rg_b rfl : Rg (0) (0) (0 : Int32))
    refine s_gd (rg_bool (rg_m (rg_b rfl : Rg (1) (1) ((1 : Int32))) (by decide))) ?_
    exact s_some ⟨rfl, (rg_m (rg_b rfl : Rg (1) (1) ((1 : Int32))) (by decide))⟩
  · have _ := c_1
    have i_f_3 : Rg (1) (8) ((hI h r_2 x1.toNatClampNeg)) := rg_nlo c_1 (thI T q_r_2 (k := 79) rfl : Rg (0) (8) ((hI h r_2 x1.toNatClampNeg))) (rg_b rfl : Rg (0) (0) (0 : Int32))
    refine s_ref e_r_1 ?_
    refine s_ref e_r_2 ?_
    refine s_gd (by rw [thN T q_r_2 (k := 79) (n := 96) rfl (by decide)]; exact rg_inB i_x1 (by decide)) ?_
    refine s_cI0 (zX15_rankFor hF T r_x0 i_x2 i_x3) (fun o_8 e_o_8 i_o_8 => ?_)
    have T_4 := th_eq e_o_8 T
    refine s_br (fun c_5 => ?_) (fun c_5 => ?_)
    · have _ := c_5
      have i_f_6 : Rg (1) (8) (o_8.1) := rg_eq c_5.symm i_f_3
      refine s_gd (rg_bool (rg_m (rg_b rfl : Rg (1) (1) ((1 : Int32))) (by decide))) ?_
      exact s_some ⟨(e_o_8.trans rfl), (rg_m (rg_b rfl : Rg (1) (1) ((1 : Int32))) (by decide))⟩
    · have _ := c_5
      refine s_gd (rg_bool (rg_m (rg_b rfl : Rg (0) (0) ((0 : Int32))) (by decide))) ?_
      exact s_some ⟨(e_o_8.trans rfl), (rg_m (rg_b rfl : Rg (0) (0) ((0 : Int32))) (by decide))⟩
set_option maxRecDepth 20000 in
theorem zX15_isFree {ρ : Nat → Nat} {c : Cm} {F : Nat} (hF : 700000 ≤ F) {h : Hp} {x0 : Int32} {x1 : Int32} (T : TH ρ c h) (i_x0 : Rg (0) (63) (x0)) (i_x1 : Rg (0) (1) (x1)) : Sat (sX15_isFree h x0 x1) (ZI0 h (0) (1)) := by
  unfold sX15_isFree sX15_isFree_29
  refine s_br (fun c_1 => ?_) (fun c_1 => ?_)
  · have _ := c_1
    have i_f_2 : Rg (0) (0) ((x0 &&& (8 : Int32))) := rg_eq c_1 (rg_b rfl : Rg (0) (0) (0 : Int32))
    refine s_br (fun c_3 => ?_) (fun c_3 => ?_)
    · have _ := c_3
      have i_f_4 : Rg (0) (0) (x1) := rg_eq c_3 (rg_b rfl : Rg (0) (0) (0 : Int32))
      refine s_gd (rg_bool (rg_m (rg_b rfl : Rg (1) (1) ((1 : Int32))) (by decide))) ?_
      exact s_some ⟨rfl, (rg_m (rg_b rfl : Rg (1) (1) ((1 : Int32))) (by decide))⟩
    · have _ := c_3
      have i_f_5 : Rg (1) (1) (x1) := rg_nlo c_3 i_x1 (rg_b rfl : Rg (0) (0) (0 : Int32))
      refine s_gd (rg_bool (rg_m (rg_b rfl : Rg (0) (0) ((0 : Int32))) (by decide))) ?_
      exact s_some ⟨rfl, (rg_m (rg_b rfl : Rg (0) (0) ((0 : Int32))) (by decide))⟩
  · have _ := c_1
    have i_f_6 : Rg (1) (8) ((x0 &&& (8 : Int32))) := rg_nlo c_1 (rg_and (rg_b rfl : Rg (8) (8) ((8 : Int32))) (by decide) : Rg (0) (8) ((x0 &&& (8 : Int32)))) (rg_b rfl : Rg (0) (0) (0 : Int32))
    refine s_br (fun c_7 => ?_) (fun c_7 => ?_)
    · have _ := c_7
      have i_f_8 : Rg (1) (1) (x1) := rg_eq c_7 (rg_b rfl : Rg (1) (1) ((1 : Int32)))
      refine s_gd (rg_bool (rg_m (rg_b rfl : Rg (1) (1) ((1 : Int32))) (by decide))) ?_
      exact s_some ⟨rfl, (rg_m (rg_b rfl : Rg (1) (1) ((1 : Int32))) (by decide))⟩
    · have _ := c_7
      have i_f_9 : Rg (0) (0) (x1) := rg_nhi c_7 i_x1 (rg_b rfl : Rg (1) (1) ((1 : Int32)))
      refine s_gd (rg_bool (rg_m (rg_b rfl : Rg (0) (0) ((0 : Int32))) (by decide))) ?_
      exact s_some ⟨rfl, (rg_m (rg_b rfl : Rg (0) (0) ((0 : Int32))) (by decide))⟩
set_option maxRecDepth 20000 in
theorem zX15_onward {ρ : Nat → Nat} {c : Cm} {F : Nat} (hF : 700000 ≤ F) {h : Hp} {x0 : Nat} {x1 : Int32} {x2 : Int32} (T : TH ρ c h) (r_x0 : ρ x0 = 16) (i_x1 : Rg (0) (63) (x1)) (i_x2 : Rg (-7) (7) (x2)) : Sat (sX15_onward h x0 x1 x2) (ZI0 h (-1) (63)) := by
  unfold sX15_onward sX15_onward_55 sX15_onward_68
  refine s_gd (rg_ne0 (thI T r_x0 (k := 16) (i := 11) rfl : Rg (3) (8) ((hI h x0 11))) (by decide)) ?_
  refine s_q (fun v_2 e_1 => ?_)
  have i_v_2 : Rg (-49) (56) (v_2) := by rw [e_1]; exact (rg_add (rg_rem i_x1 (thI T r_x0 (k := 16) (i := 11) rfl : Rg (3) (8) ((hI h x0 11))) (by decide) : Rg (0) (7) ((x1 - x1 / (hI h x0 11) * (hI h x0 11)))) (rg_muln (rg_m i_x2 (by decide) : Rg (-7) (7) (x2)) (rg_m (thI T r_x0 (k := 16) (i := 23) rfl : Rg (-7) (7) ((hI h x0 23))) (by decide) : Rg (-7) (7) ((hI h x0 23))) (by decide) : Rg (-49) (49) ((x2 * (hI h x0 23)))) (by decide) : Rg (-49) (56) ((x1 - x1 / (hI h x0 11) * (hI h x0 11)) + (x2 * (hI h x0 23))))
  refine s_gd (rg_ne0 (thI T r_x0 (k := 16) (i := 11) rfl : Rg (3) (8) ((hI h x0 11))) (by decide)) ?_
  refine s_q (fun v_4 e_2 => ?_)
  have i_v_4 : Rg (-49) (70) (v_4) := by rw [e_2]; exact (rg_add (rg_divw i_x1 (thI T r_x0 (k := 16) (i := 11) rfl : Rg (3) (8) ((hI h x0 11))) (by decide) : Rg (0) (21) ((x1 / (hI h x0 11)))) (rg_muln (rg_m i_x2 (by decide) : Rg (-7) (7) (x2)) (rg_m (thI T r_x0 (k := 16) (i := 24) rfl : Rg (-7) (7) ((hI h x0 24))) (by decide) : Rg (-7) (7) ((hI h x0 24))) (by decide) : Rg (-49) (49) ((x2 * (hI h x0 24)))) (by decide) : Rg (-49) (70) ((x1 / (hI h x0 11)) + (x2 * (hI h x0 24))))
  refine s_br (fun c_3 => ?_) (fun c_3 => ?_)
  · have _ := c_3
    have i_f_4 : Rg (-49) (-1) (v_2) := rg_lt1 c_3 i_v_2 (rg_b rfl : Rg (0) (0) (0 : Int32))
    exact s_some ⟨rfl, (rg_m (rg_b rfl : Rg (-1) (-1) ((- 1 : Int32))) (by decide))⟩
  · have _ := c_3
    have i_f_5 : Rg (0) (56) (v_2) := rg_le2 (nlt_le c_3) (rg_b rfl : Rg (0) (0) (0 : Int32)) i_v_2
    refine s_br (fun c_6 => ?_) (fun c_6 => ?_)
    · have _ := c_6
      have i_f_7 : Rg (3) (56) (v_2) := rg_le2 c_6 (thI T r_x0 (k := 16) (i := 11) rfl : Rg (3) (8) ((hI h x0 11))) i_f_5
      exact s_some ⟨rfl, (rg_m (rg_b rfl : Rg (-1) (-1) ((- 1 : Int32))) (by decide))⟩
    · have _ := c_6
      have i_f_8 : Rg (0) (7) (v_2) := rg_lt1 (nle_lt c_6) i_f_5 (thI T r_x0 (k := 16) (i := 11) rfl : Rg (3) (8) ((hI h x0 11)))
      refine s_br (fun c_9 => ?_) (fun c_9 => ?_)
      · have _ := c_9
        have i_f_10 : Rg (-49) (-1) (v_4) := rg_lt1 c_9 i_v_4 (rg_b rfl : Rg (0) (0) (0 : Int32))
        exact s_some ⟨rfl, (rg_m (rg_b rfl : Rg (-1) (-1) ((- 1 : Int32))) (by decide))⟩
      · have _ := c_9
        have i_f_11 : Rg (0) (70) (v_4) := rg_le2 (nlt_le c_9) (rg_b rfl : Rg (0) (0) (0 : Int32)) i_v_4
        refine s_br (fun c_12 => ?_) (fun c_12 => ?_)
        · have _ := c_12
          have i_f_13 : Rg (0) (7) (v_4) := rg_lt1 c_12 i_f_11 (thI T r_x0 (k := 16) (i := 12) rfl : Rg (3) (8) ((hI h x0 12)))
          exact s_some ⟨rfl, (rg_m (rg_add (rg_mul i_f_13 (thI T r_x0 (k := 16) (i := 11) rfl : Rg (3) (8) ((hI h x0 11))) (by decide) : Rg (0) (56) ((v_4 * (hI h x0 11)))) i_f_8 (by decide) : Rg (0) (63) (((v_4 * (hI h x0 11)) + v_2))) (by decide))⟩
        · have _ := c_12
          have i_f_14 : Rg (3) (70) (v_4) := rg_le2 (nlt_le c_12) (thI T r_x0 (k := 16) (i := 12) rfl : Rg (3) (8) ((hI h x0 12))) i_f_11
          exact s_some ⟨rfl, (rg_m (rg_b rfl : Rg (-1) (-1) ((- 1 : Int32))) (by decide))⟩
set_option maxRecDepth 20000 in
theorem zX15_reaches_6 {ρ : Nat → Nat} {c : Cm} {h0 : Hp} {F : Nat} (hF : 700000 ≤ F) : ∀ (f : Nat) {h : Hp} {x0 : Nat} {x1 : Nat} {x2 : Int32} {x3 : Int32} {x4 : Int32} {x5 : Int32} {x6 : Int32}, h = h0 → TH ρ c h → ρ x0 = 16 → ρ x1 = 13 → Rg (0) (63) (x2) → Rg (0) (63) (x3) → Rg (0) (95) (x4) → Rg (0) (2) (x5) → Rg (1) (8) (x6) → (8 - x6.toInt).toNat < f → Sat (sX15_reaches_6 F f h x0 x1 x2 x3 x4 x5 x6) (ZI0 h0 (0) (1)) := by
  intro f
  induction f with
  | zero => intros; omega
  | succ f ih =>
    intro h x0 x1 x2 x3 x4 x5 x6 E T r_x0 r_x1 i_x2 i_x3 i_x4 i_x5 i_x6 hm
    rw [sX15_reaches_6]
    unfold sX15_reaches_42 sX15_reaches_83
    obtain ⟨C_6, hC_6⟩ : ∃ C : Int, C = x6.toInt := ⟨_, rfl⟩
    have hk_6 : ∀ {h : Hp} {x0 : Nat} {x1 : Nat} {x2 : Int32} {x3 : Int32} {x4 : Int32} {x5 : Int32} {x6 : Int32}, h = h0 → TH ρ c h → ρ x0 = 16 → ρ x1 = 13 → Rg (0) (63) (x2) → Rg (0) (63) (x3) → Rg (0) (95) (x4) → Rg (0) (2) (x5) → Rg (1) (8) (x6) → C_6 < x6.toInt → Sat (sX15_reaches_6 F f h x0 x1 x2 x3 x4 x5 x6) (ZI0 h0 (0) (1)) := by
      intro h' x0' x1' x2' x3' x4' x5' x6' E' T' r_x0' r_x1' i_x2' i_x3' i_x4' i_x5' i_x6' hl
      exact ih E' T' r_x0' r_x1' i_x2' i_x3' i_x4' i_x5' i_x6' (by have := i_x6'.1; have := i_x6'.2; omega)
    have hc_6 : C_6 ≤ x6.toInt := by omega
    obtain ⟨r_1, e_r_1, q_r_1⟩ := thR T r_x0 (k := 16) (i := 4) (k2 := 15) rfl (by decide)
    refine s_ref e_r_1 ?_
    obtain ⟨r_2, e_r_2, q_r_2⟩ := thR T q_r_1 (k := 15) (i := 8) (k2 := 78) rfl (by decide)
    refine s_ref e_r_2 ?_
    refine s_gd (by rw [thN T q_r_2 (k := 78) (n := 96) rfl (by decide)]; exact rg_inB i_x4 (by decide)) ?_
    refine s_br (fun c_1 => ?_) (fun c_1 => ?_)
    · have _ := c_1
      exact s_some ⟨E, (rg_m (rg_b rfl : Rg (0) (0) ((0 : Int32))) (by decide))⟩
    · have _ := c_1
      have i_f_2 : Rg (1) (7) (x6) := rg_le1 (nlt_le c_1) i_x6 (thI T q_r_2 (k := 78) rfl : Rg (0) (7) ((hI h r_2 x4.toNatClampNeg)))
      have i_f_3 : Rg (1) (7) ((hI h r_2 x4.toNatClampNeg)) := rg_le2 (nlt_le c_1) i_x6 (thI T q_r_2 (k := 78) rfl : Rg (0) (7) ((hI h r_2 x4.toNatClampNeg)))
      refine s_cI0 (zX15_onward hF T r_x0 i_x2 (rg_m i_f_2 (by decide))) (fun o_5 e_o_5 i_o_5 => ?_)
      have T_4 := th_eq e_o_5 T
      refine s_br (fun c_5 => ?_) (fun c_5 => ?_)
      · have _ := c_5
        have i_f_6 : Rg (-1) (-1) (o_5.1) := rg_eq c_5 (rg_b rfl : Rg (-1) (-1) ((- 1 : Int32)))
        exact s_some ⟨(e_o_5.trans E), (rg_m (rg_b rfl : Rg (0) (0) ((0 : Int32))) (by decide))⟩
      · have _ := c_5
        have i_f_7 : Rg (0) (63) (o_5.1) := rg_nlo c_5 i_o_5 (rg_b rfl : Rg (-1) (-1) ((- 1 : Int32)))
        refine s_br (fun c_8 => ?_) (fun c_8 => ?_)
        · have _ := c_8
          have i_f_9 : Rg (0) (1) (x5) := rg_le1 c_8 i_x5 (rg_b rfl : Rg (1) (1) ((1 : Int32)))
          refine s_br (fun c_10 => ?_) (fun c_10 => ?_)
          · have _ := c_10
            refine s_ref (hr_e e_o_5 e_r_1) ?_
            obtain ⟨r_13, e_r_13, q_r_13⟩ := thR T_4 q_r_1 (k := 15) (i := 5) (k2 := 75) rfl (by decide)
            refine s_ref e_r_13 ?_
            refine s_gd (by rw [thN T_4 q_r_13 (k := 75) (n := 96) rfl (by decide)]; exact rg_inB i_x4 (by decide)) ?_
            refine s_cI0 (zX15_isFree hF T_4 (thI T_4 q_r_13 (k := 75) rfl : Rg (0) (63) ((hI o_5.2 r_13 x4.toNatClampNeg))) i_f_9) (fun o_15 e_o_15 i_o_15 => ?_)
            have T_11 := th_eq e_o_15 T_4
            refine s_gd (rg_bool i_o_15) ?_
            exact s_some ⟨(e_o_15.trans (e_o_5.trans E)), i_o_15⟩
          · have _ := c_10
            obtain ⟨r_9, e_r_9, q_r_9⟩ := thR T_4 r_x1 (k := 13) (i := 0) (k2 := 62) rfl (by decide)
            refine s_ref e_r_9 ?_
            refine s_gd (by rw [thN T_4 q_r_9 (k := 62) (n := 64) rfl (by decide)]; exact rg_inB i_f_7 (by decide)) ?_
            refine s_br (fun c_12 => ?_) (fun c_12 => ?_)
            · have _ := c_12
              have i_f_13 : Rg (0) (0) ((hI o_5.2 r_9 o_5.1.toNatClampNeg)) := rg_le1 c_12 (thI T_4 q_r_9 (k := 62) rfl : Rg (0) (24) ((hI o_5.2 r_9 o_5.1.toNatClampNeg))) (rg_b rfl : Rg (0) (0) (0 : Int32))
              refine s_q (fun v_1q2 e_14 => ?_)
              have i_v_1q2 : Rg (0) (1) (v_1q2) := by rw [e_14]; exact (rg_add i_f_9 (rg_b rfl : Rg (0) (0) ((0 : Int32))) (by decide) : Rg (0) (1) (x5 + (0 : Int32)))
              refine s_q (fun v_2q2 e_15 => ?_)
              have i_v_2q2 : Rg (2) (8) (v_2q2) := by rw [e_15]; exact (rg_add i_f_2 (rg_b rfl : Rg (1) (1) ((1 : Int32))) (by decide) : Rg (2) (8) (x6 + (1 : Int32)))
              have m_16 : (v_2q2).toInt = x6.toInt + 1 := by rw [e_15]; exact rg_inc i_f_2 (by decide)
              exact hk_6 (e_o_5.trans E) T_4 r_x0 r_x1 i_x2 i_x3 i_x4 (rg_m i_v_1q2 (by decide)) (rg_m i_v_2q2 (by decide)) (by have := hc_6; omega)
            · have _ := c_12
              have i_f_17 : Rg (1) (24) ((hI o_5.2 r_9 o_5.1.toNatClampNeg)) := rg_lt2 (nle_lt c_12) (rg_b rfl : Rg (0) (0) (0 : Int32)) (thI T_4 q_r_9 (k := 62) rfl : Rg (0) (24) ((hI o_5.2 r_9 o_5.1.toNatClampNeg)))
              refine s_q (fun v_1q3 e_18 => ?_)
              have i_v_1q3 : Rg (1) (2) (v_1q3) := by rw [e_18]; exact (rg_add i_f_9 (rg_b rfl : Rg (1) (1) ((1 : Int32))) (by decide) : Rg (1) (2) (x5 + (1 : Int32)))
              refine s_q (fun v_2q3 e_19 => ?_)
              have i_v_2q3 : Rg (2) (8) (v_2q3) := by rw [e_19]; exact (rg_add i_f_2 (rg_b rfl : Rg (1) (1) ((1 : Int32))) (by decide) : Rg (2) (8) (x6 + (1 : Int32)))
              have m_20 : (v_2q3).toInt = x6.toInt + 1 := by rw [e_19]; exact rg_inc i_f_2 (by decide)
              exact hk_6 (e_o_5.trans E) T_4 r_x0 r_x1 i_x2 i_x3 i_x4 (rg_m i_v_1q3 (by decide)) (rg_m i_v_2q3 (by decide)) (by have := hc_6; omega)
        · have _ := c_8
          have i_f_21 : Rg (2) (2) (x5) := rg_lt2 (nle_lt c_8) (rg_b rfl : Rg (1) (1) ((1 : Int32))) i_x5
          exact s_some ⟨(e_o_5.trans E), (rg_m (rg_b rfl : Rg (0) (0) ((0 : Int32))) (by decide))⟩
set_option maxRecDepth 20000 in
theorem zX15_reaches {ρ : Nat → Nat} {c : Cm} {F : Nat} (hF : 700000 ≤ F) {h : Hp} {x0 : Nat} {x1 : Nat} {x2 : Int32} {x3 : Int32} {x4 : Int32} (T : TH ρ c h) (r_x0 : ρ x0 = 16) (r_x1 : ρ x1 = 13) (i_x2 : Rg (0) (63) (x2)) (i_x3 : Rg (0) (63) (x3)) (i_x4 : Rg (0) (95) (x4)) : Sat (sX15_reaches F h x0 x1 x2 x3 x4) (ZI0 h (0) (1)) := by
  unfold sX15_reaches 
  have m_1 : Rg (1) (8) ((1 : Int32)) := (rg_m (rg_b rfl : Rg (1) (1) ((1 : Int32))) (by decide))
  exact zX15_reaches_6 hF F rfl T r_x0 r_x1 i_x2 i_x3 i_x4 (rg_m (rg_b rfl : Rg (0) (0) ((0 : Int32))) (by decide)) (rg_m (rg_b rfl : Rg (1) (1) ((1 : Int32))) (by decide)) (by have := m_1.1; have := m_1.2; omega)
set_option maxRecDepth 20000 in
theorem zX15_attacks_70 {ρ : Nat → Nat} {c : Cm} {F : Nat} {w_x1 : Nat} (hF : 700000 ≤ F) {k_9 : Hp → Nat → Nat → Int32 → Int32 → Int32 → Int32 → Int32 → Option (Int32 × Hp)} {C_9 : Int} (hk_9 : ∀ {h : Hp} {x0 : Nat} {x1 : Nat} {x2 : Int32} {x3 : Int32} {x4 : Int32} {x5 : Int32} {x6 : Int32}, cw c x1 = w_x1 → TH ρ c h → ρ x0 = 16 → ρ x1 = 13 → Rg (0) (63) (x2) → Rg (1) (24) (x3) → Rg (0) (63) (x4) → Rg (0) (11) (x5) → Rg (0) (8) (x6) → C_9 < x6.toInt → Sat (k_9 h x0 x1 x2 x3 x4 x5 x6) (ZI ρ c (0) (1))) (hA : pmA c [(16, 23), (16, 24)]) : ∀ (f : Nat) {h : Hp} {x0 : Nat} {x1 : Nat} {x2 : Int32} {x3 : Int32} {x4 : Int32} {x5 : Int32} {x6 : Int32} {x7 : Int32} {x9 : Int32}, cw c x1 = w_x1 → TH ρ c h → ρ x0 = 16 → ρ x1 = 13 → Rg (0) (63) (x2) → Rg (1) (24) (x3) → Rg (0) (63) (x4) → Rg (0) (11) (x5) → Rg (0) (7) (x6) → Rg (0) (95) (x7) → Rg (0) (8) (x9) → C_9 ≤ x6.toInt → (8 - x9.toInt).toNat < f → Sat (sX15_attacks_70 F k_9 f h x0 x1 x2 x3 x4 x5 x6 x7 x9) (ZI ρ c (0) (1)) := by
  intro f
  induction f with
  | zero => intros; omega
  | succ f ih =>
    intro h x0 x1 x2 x3 x4 x5 x6 x7 x9 o_x1 T r_x0 r_x1 i_x2 i_x3 i_x4 i_x5 i_x6 i_x7 i_x9 hc_9 hm
    rw [sX15_attacks_70]
    unfold sX15_attacks_113 sX15_sideOf sX15_attacks_107
    obtain ⟨C_70, hC_70⟩ : ∃ C : Int, C = x9.toInt := ⟨_, rfl⟩
    have hk_70 : ∀ {h : Hp} {x0 : Nat} {x1 : Nat} {x2 : Int32} {x3 : Int32} {x4 : Int32} {x5 : Int32} {x6 : Int32} {x7 : Int32} {x9 : Int32}, cw c x1 = w_x1 → TH ρ c h → ρ x0 = 16 → ρ x1 = 13 → Rg (0) (63) (x2) → Rg (1) (24) (x3) → Rg (0) (63) (x4) → Rg (0) (11) (x5) → Rg (0) (7) (x6) → Rg (0) (95) (x7) → Rg (0) (8) (x9) → C_9 ≤ x6.toInt → C_70 < x9.toInt → Sat (sX15_attacks_70 F k_9 f h x0 x1 x2 x3 x4 x5 x6 x7 x9) (ZI ρ c (0) (1)) := by
      intro h' x0' x1' x2' x3' x4' x5' x6' x7' x9' o_x1' T' r_x0' r_x1' i_x2' i_x3' i_x4' i_x5' i_x6' i_x7' i_x9' hc_9' hl
      exact ih o_x1' T' r_x0' r_x1' i_x2' i_x3' i_x4' i_x5' i_x6' i_x7' i_x9' hc_9' (by have := i_x9'.1; have := i_x9'.2; omega)
    have hc_70 : C_70 ≤ x9.toInt := by omega
    refine s_br (fun c_1 => ?_) (fun c_1 => ?_)
    · have _ := c_1
      have i_f_2 : Rg (8) (8) (x9) := rg_le2 c_1 (rg_b rfl : Rg (8) (8) ((8 : Int32))) i_x9
      refine s_q (fun v_1q1 e_3 => ?_)
      have i_v_1q1 : Rg (1) (8) (v_1q1) := by rw [e_3]; exact (rg_add i_x6 (rg_b rfl : Rg (1) (1) ((1 : Int32))) (by decide) : Rg (1) (8) (x6 + (1 : Int32)))
      have m_4 : (v_1q1).toInt = x6.toInt + 1 := by rw [e_3]; exact rg_inc i_x6 (by decide)
      exact hk_9 o_x1 T r_x0 r_x1 i_x2 i_x3 i_x4 i_x5 (rg_m i_v_1q1 (by decide)) (by have := hc_9; omega)
    · have _ := c_1
      have i_f_5 : Rg (0) (7) (x9) := rg_lt1 (nle_lt c_1) i_x9 (rg_b rfl : Rg (8) (8) ((8 : Int32)))
      refine s_pu (fun o_2z e_6 => ?_)
      try dsimp only
      have i_o_2z : Rg (0) (1) (o_2z) := by rw [e_6]; exact (rg_and (rg_b rfl : Rg (1) (1) ((1 : Int32))) (by decide) : Rg (0) (1) ((x3 - (1 : Int32)) &&& (1 : Int32)))
      refine s_cI (zX15_hasVector hF (pmA_s hA rfl) T r_x0 i_x7 i_f_5 i_o_2z) (fun o_3 T_7 i_o_3 => ?_)
      refine s_br (fun c_8 => ?_) (fun c_8 => ?_)
      · have _ := c_8
        have i_f_9 : Rg (0) (0) (o_3.1) := rg_eq c_8 (rg_b rfl : Rg (0) (0) (0 : Int32))
        refine s_q (fun v_1q2 e_10 => ?_)
        have i_v_1q2 : Rg (1) (8) (v_1q2) := by rw [e_10]; exact (rg_add i_f_5 (rg_b rfl : Rg (1) (1) ((1 : Int32))) (by decide) : Rg (1) (8) (x9 + (1 : Int32)))
        have m_11 : (v_1q2).toInt = x9.toInt + 1 := by rw [e_10]; exact rg_inc i_f_5 (by decide)
        exact hk_70 o_x1 T_7 r_x0 r_x1 i_x2 i_x3 i_x4 i_x5 i_x6 i_x7 (rg_m i_v_1q2 (by decide)) hc_9 (by have := hc_70; omega)
      · have _ := c_8
        have i_f_12 : Rg (1) (1) (o_3.1) := rg_nlo c_8 i_o_3 (rg_b rfl : Rg (0) (0) (0 : Int32))
        refine s_cI0 (zX15_reaches hF T_7 r_x0 r_x1 i_x2 i_x4 i_x7) (fun o_5 e_o_5 i_o_5 => ?_)
        have T_13 := th_eq e_o_5 T_7
        refine s_br (fun c_14 => ?_) (fun c_14 => ?_)
        · have _ := c_14
          have i_f_15 : Rg (0) (0) (o_5.1) := rg_eq c_14 (rg_b rfl : Rg (0) (0) (0 : Int32))
          refine s_q (fun v_1q3 e_16 => ?_)
          have i_v_1q3 : Rg (1) (8) (v_1q3) := by rw [e_16]; exact (rg_add i_f_5 (rg_b rfl : Rg (1) (1) ((1 : Int32))) (by decide) : Rg (1) (8) (x9 + (1 : Int32)))
          have m_17 : (v_1q3).toInt = x9.toInt + 1 := by rw [e_16]; exact rg_inc i_f_5 (by decide)
          exact hk_70 o_x1 T_13 r_x0 r_x1 i_x2 i_x3 i_x4 i_x5 i_x6 i_x7 (rg_m i_v_1q3 (by decide)) hc_9 (by have := hc_70; omega)
        · have _ := c_14
          have i_f_18 : Rg (1) (1) (o_5.1) := rg_nlo c_14 i_o_5 (rg_b rfl : Rg (0) (0) (0 : Int32))
          exact s_some ⟨(T_13), (rg_m (rg_b rfl : Rg (1) (1) ((1 : Int32))) (by decide))⟩
set_option maxRecDepth 20000 in
theorem zX15_attacks_9 {ρ : Nat → Nat} {c : Cm} {F : Nat} {w_x1 : Nat} (hF : 700000 ≤ F) (hA : pmA c [(16, 23), (16, 24)]) : ∀ (f : Nat) {h : Hp} {x0 : Nat} {x1 : Nat} {x2 : Int32} {x3 : Int32} {x4 : Int32} {x5 : Int32} {x6 : Int32}, cw c x1 = w_x1 → TH ρ c h → ρ x0 = 16 → ρ x1 = 13 → Rg (0) (63) (x2) → Rg (1) (24) (x3) → Rg (0) (63) (x4) → Rg (0) (11) (x5) → Rg (0) (8) (x6) → (8 - x6.toInt).toNat < f → Sat (sX15_attacks_9 F f h x0 x1 x2 x3 x4 x5 x6) (ZI ρ c (0) (1)) := by
  intro f
  induction f with
  | zero => intros; omega
  | succ f ih =>
    intro h x0 x1 x2 x3 x4 x5 x6 o_x1 T r_x0 r_x1 i_x2 i_x3 i_x4 i_x5 i_x6 hm
    rw [sX15_attacks_9]
    unfold sX15_sideOf sX15_attacks_113
    obtain ⟨C_9, hC_9⟩ : ∃ C : Int, C = x6.toInt := ⟨_, rfl⟩
    have hk_9 : ∀ {h : Hp} {x0 : Nat} {x1 : Nat} {x2 : Int32} {x3 : Int32} {x4 : Int32} {x5 : Int32} {x6 : Int32}, cw c x1 = w_x1 → TH ρ c h → ρ x0 = 16 → ρ x1 = 13 → Rg (0) (63) (x2) → Rg (1) (24) (x3) → Rg (0) (63) (x4) → Rg (0) (11) (x5) → Rg (0) (8) (x6) → C_9 < x6.toInt → Sat (sX15_attacks_9 F f h x0 x1 x2 x3 x4 x5 x6) (ZI ρ c (0) (1)) := by
      intro h' x0' x1' x2' x3' x4' x5' x6' o_x1' T' r_x0' r_x1' i_x2' i_x3' i_x4' i_x5' i_x6' hl
      exact ih o_x1' T' r_x0' r_x1' i_x2' i_x3' i_x4' i_x5' i_x6' (by have := i_x6'.1; have := i_x6'.2; omega)
    have hc_9 : C_9 ≤ x6.toInt := by omega
    obtain ⟨r_1, e_r_1, q_r_1⟩ := thR T r_x0 (k := 16) (i := 4) (k2 := 15) rfl (by decide)
    refine s_ref e_r_1 ?_
    obtain ⟨r_2, e_r_2, q_r_2⟩ := thR T q_r_1 (k := 15) (i := 4) (k2 := 74) rfl (by decide)
    refine s_ref e_r_2 ?_
    refine s_gd (by rw [thN T q_r_2 (k := 74) (n := 12) rfl (by decide)]; exact rg_inB i_x5 (by decide)) ?_
    refine s_br (fun c_1 => ?_) (fun c_1 => ?_)
    · have _ := c_1
      exact s_some ⟨(T), (rg_m (rg_b rfl : Rg (0) (0) ((0 : Int32))) (by decide))⟩
    · have _ := c_1
      have i_f_2 : Rg (0) (7) (x6) := rg_lt1 (nle_lt c_1) i_x6 (thI T q_r_2 (k := 74) rfl : Rg (0) (8) ((hI h r_2 x5.toNatClampNeg)))
      have i_f_3 : Rg (1) (8) ((hI h r_2 x5.toNatClampNeg)) := rg_lt2 (nle_lt c_1) i_x6 (thI T q_r_2 (k := 74) rfl : Rg (0) (8) ((hI h r_2 x5.toNatClampNeg)))
      refine s_q (fun v_5 e_4 => ?_)
      have i_v_5 : Rg (0) (95) (v_5) := by rw [e_4]; exact (rg_add (rg_mulc' (rg_b rfl : Rg (8) (8) ((8 : Int32))) i_x5 (by decide) : Rg (0) (88) (((8 : Int32) * x5))) i_f_2 (by decide) : Rg (0) (95) (((8 : Int32) * x5) + x6))
      refine s_ref e_r_1 ?_
      obtain ⟨r_7, e_r_7, q_r_7⟩ := thR T q_r_1 (k := 15) (i := 5) (k2 := 75) rfl (by decide)
      refine s_ref e_r_7 ?_
      refine s_gd (by rw [thN T q_r_7 (k := 75) (n := 96) rfl (by decide)]; exact rg_inB i_v_5 (by decide)) ?_
      refine s_q (fun v_9 e_5 => ?_)
      have i_v_9 : Rg (0) (63) (v_9) := by rw [e_5]; exact (thI T q_r_7 (k := 75) rfl : Rg (0) (63) (hI h r_7 v_5.toNatClampNeg))
      refine s_br (fun c_6 => ?_) (fun c_6 => ?_)
      · have _ := c_6
        have i_f_7 : Rg (0) (0) ((v_9 &&& (1 : Int32))) := rg_eq c_6 (rg_b rfl : Rg (0) (0) (0 : Int32))
        refine s_pu (fun o_11z e_8 => ?_)
        try dsimp only
        have i_o_11z : Rg (0) (1) (o_11z) := by rw [e_8]; exact (rg_and (rg_b rfl : Rg (1) (1) ((1 : Int32))) (by decide) : Rg (0) (1) ((x3 - (1 : Int32)) &&& (1 : Int32)))
        refine s_cI0 (zX15_isFrom hF T r_x0 i_v_5 i_x2 i_o_11z) (fun o_12 e_o_12 i_o_12 => ?_)
        have T_9 := th_eq e_o_12 T
        refine s_br (fun c_10 => ?_) (fun c_10 => ?_)
        · have _ := c_10
          have i_f_11 : Rg (0) (0) (o_12.1) := rg_eq c_10 (rg_b rfl : Rg (0) (0) (0 : Int32))
          refine s_q (fun v_1q1 e_12 => ?_)
          have i_v_1q1 : Rg (1) (8) (v_1q1) := by rw [e_12]; exact (rg_add i_f_2 (rg_b rfl : Rg (1) (1) ((1 : Int32))) (by decide) : Rg (1) (8) (x6 + (1 : Int32)))
          have m_13 : (v_1q1).toInt = x6.toInt + 1 := by rw [e_12]; exact rg_inc i_f_2 (by decide)
          exact hk_9 o_x1 T_9 r_x0 r_x1 i_x2 i_x3 i_x4 i_x5 (rg_m i_v_1q1 (by decide)) (by have := hc_9; omega)
        · have _ := c_10
          have i_f_14 : Rg (1) (1) (o_12.1) := rg_nlo c_10 i_o_12 (rg_b rfl : Rg (0) (0) (0 : Int32))
          have m_15 : Rg (0) (8) ((0 : Int32)) := (rg_m (rg_b rfl : Rg (0) (0) ((0 : Int32))) (by decide))
          exact zX15_attacks_70 hF @hk_9 (pmA_s hA rfl) F o_x1 T_9 r_x0 r_x1 i_x2 i_x3 i_x4 i_x5 i_f_2 i_v_5 (rg_m (rg_b rfl : Rg (0) (0) ((0 : Int32))) (by decide)) hc_9 (by have := m_15.1; have := m_15.2; omega)
      · have _ := c_6
        have i_f_16 : Rg (1) (1) ((v_9 &&& (1 : Int32))) := rg_nlo c_6 (rg_and (rg_b rfl : Rg (1) (1) ((1 : Int32))) (by decide) : Rg (0) (1) ((v_9 &&& (1 : Int32)))) (rg_b rfl : Rg (0) (0) (0 : Int32))
        refine s_q (fun v_1q2 e_17 => ?_)
        have i_v_1q2 : Rg (1) (8) (v_1q2) := by rw [e_17]; exact (rg_add i_f_2 (rg_b rfl : Rg (1) (1) ((1 : Int32))) (by decide) : Rg (1) (8) (x6 + (1 : Int32)))
        have m_18 : (v_1q2).toInt = x6.toInt + 1 := by rw [e_17]; exact rg_inc i_f_2 (by decide)
        exact hk_9 o_x1 T r_x0 r_x1 i_x2 i_x3 i_x4 i_x5 (rg_m i_v_1q2 (by decide)) (by have := hc_9; omega)
set_option maxRecDepth 20000 in
theorem zX15_attacks {ρ : Nat → Nat} {c : Cm} {F : Nat} {w_x1 : Nat} (hF : 700000 ≤ F) (hA : pmA c [(16, 23), (16, 24)]) {h : Hp} {x0 : Nat} {x1 : Nat} {x2 : Int32} {x3 : Int32} {x4 : Int32} (o_x1 : cw c x1 = w_x1) (T : TH ρ c h) (r_x0 : ρ x0 = 16) (r_x1 : ρ x1 = 13) (i_x2 : Rg (0) (63) (x2)) (i_x3 : Rg (1) (24) (x3)) (i_x4 : Rg (0) (63) (x4)) : Sat (sX15_attacks F h x0 x1 x2 x3 x4) (ZI ρ c (0) (1)) := by
  unfold sX15_attacks sX15_manOf
  refine s_pu (fun o_1z e_1 => ?_)
  try dsimp only
  have i_o_1z : Rg (0) (11) (o_1z) := by rw [e_1]; exact (rg_shrk 1 (by decide) (rg_sub i_x3 (rg_b rfl : Rg (1) (1) ((1 : Int32))) (by decide) : Rg (0) (23) ((x3 - (1 : Int32)))) (by decide) : Rg (0) (11) ((x3 - (1 : Int32)) >>> ((1 : Int32) &&& 31)))
  have m_2 : Rg (0) (8) ((0 : Int32)) := (rg_m (rg_b rfl : Rg (0) (0) ((0 : Int32))) (by decide))
  exact zX15_attacks_9 hF (pmA_s hA rfl) F o_x1 T r_x0 r_x1 i_x2 i_x3 i_x4 i_o_1z (rg_m (rg_b rfl : Rg (0) (0) ((0 : Int32))) (by decide)) (by have := m_2.1; have := m_2.2; omega)
set_option maxRecDepth 20000 in
theorem zX15_isAttacked_3 {ρ : Nat → Nat} {c : Cm} {F : Nat} {w_x1 : Nat} (hF : 700000 ≤ F) (hA : pmA c [(16, 23), (16, 24)]) : ∀ (f : Nat) {h : Hp} {x0 : Nat} {x1 : Nat} {x2 : Int32} {x3 : Int32} {x4 : Int32}, cw c x1 = w_x1 → TH ρ c h → ρ x0 = 16 → ρ x1 = 13 → Rg (0) (63) (x2) → Rg (0) (1) (x3) → Rg (0) (64) (x4) → (64 - x4.toInt).toNat < f → Sat (sX15_isAttacked_3 F f h x0 x1 x2 x3 x4) (ZI ρ c (0) (1)) := by
  intro f
  induction f with
  | zero => intros; omega
  | succ f ih =>
    intro h x0 x1 x2 x3 x4 o_x1 T r_x0 r_x1 i_x2 i_x3 i_x4 hm
    rw [sX15_isAttacked_3]
    unfold sX15_isAttacked_56 sX15_sideOf
    obtain ⟨C_3, hC_3⟩ : ∃ C : Int, C = x4.toInt := ⟨_, rfl⟩
    have hk_3 : ∀ {h : Hp} {x0 : Nat} {x1 : Nat} {x2 : Int32} {x3 : Int32} {x4 : Int32}, cw c x1 = w_x1 → TH ρ c h → ρ x0 = 16 → ρ x1 = 13 → Rg (0) (63) (x2) → Rg (0) (1) (x3) → Rg (0) (64) (x4) → C_3 < x4.toInt → Sat (sX15_isAttacked_3 F f h x0 x1 x2 x3 x4) (ZI ρ c (0) (1)) := by
      intro h' x0' x1' x2' x3' x4' o_x1' T' r_x0' r_x1' i_x2' i_x3' i_x4' hl
      exact ih o_x1' T' r_x0' r_x1' i_x2' i_x3' i_x4' (by have := i_x4'.1; have := i_x4'.2; omega)
    have hc_3 : C_3 ≤ x4.toInt := by omega
    refine s_br (fun c_1 => ?_) (fun c_1 => ?_)
    · have _ := c_1
      have i_f_2 : Rg (9) (64) (x4) := rg_le2 c_1 (thI T r_x0 (k := 16) (i := 13) rfl : Rg (9) (64) ((hI h x0 13))) i_x4
      exact s_some ⟨(T), (rg_m (rg_b rfl : Rg (0) (0) ((0 : Int32))) (by decide))⟩
    · have _ := c_1
      have i_f_3 : Rg (0) (63) (x4) := rg_lt1 (nle_lt c_1) i_x4 (thI T r_x0 (k := 16) (i := 13) rfl : Rg (9) (64) ((hI h x0 13)))
      obtain ⟨r_2, e_r_2, q_r_2⟩ := thR T r_x1 (k := 13) (i := 0) (k2 := 62) rfl (by decide)
      refine s_ref e_r_2 ?_
      refine s_gd (by rw [thN T q_r_2 (k := 62) (n := 64) rfl (by decide)]; exact rg_inB i_f_3 (by decide)) ?_
      refine s_q (fun v_4 e_4 => ?_)
      have i_v_4 : Rg (0) (24) (v_4) := by rw [e_4]; exact (thI T q_r_2 (k := 62) rfl : Rg (0) (24) (hI h r_2 x4.toNatClampNeg))
      refine s_br (fun c_5 => ?_) (fun c_5 => ?_)
      · have _ := c_5
        have i_f_6 : Rg (0) (0) (v_4) := rg_le1 c_5 i_v_4 (rg_b rfl : Rg (0) (0) (0 : Int32))
        refine s_q (fun v_1q1 e_7 => ?_)
        have i_v_1q1 : Rg (1) (64) (v_1q1) := by rw [e_7]; exact (rg_add i_f_3 (rg_b rfl : Rg (1) (1) ((1 : Int32))) (by decide) : Rg (1) (64) (x4 + (1 : Int32)))
        have m_8 : (v_1q1).toInt = x4.toInt + 1 := by rw [e_7]; exact rg_inc i_f_3 (by decide)
        exact hk_3 o_x1 T r_x0 r_x1 i_x2 i_x3 (rg_m i_v_1q1 (by decide)) (by have := hc_3; omega)
      · have _ := c_5
        have i_f_9 : Rg (1) (24) (v_4) := rg_lt2 (nle_lt c_5) (rg_b rfl : Rg (0) (0) (0 : Int32)) i_v_4
        refine s_pu (fun o_6z e_10 => ?_)
        try dsimp only
        have i_o_6z : Rg (0) (1) (o_6z) := by rw [e_10]; exact (rg_and (rg_b rfl : Rg (1) (1) ((1 : Int32))) (by decide) : Rg (0) (1) ((v_4 - (1 : Int32)) &&& (1 : Int32)))
        refine s_br (fun c_11 => ?_) (fun c_11 => ?_)
        · have _ := c_11
          refine s_br (fun c_12 => ?_) (fun c_12 => ?_)
          · have _ := c_12
            refine s_q (fun v_1q2 e_13 => ?_)
            have i_v_1q2 : Rg (1) (64) (v_1q2) := by rw [e_13]; exact (rg_add i_f_3 (rg_b rfl : Rg (1) (1) ((1 : Int32))) (by decide) : Rg (1) (64) (x4 + (1 : Int32)))
            have m_14 : (v_1q2).toInt = x4.toInt + 1 := by rw [e_13]; exact rg_inc i_f_3 (by decide)
            exact hk_3 o_x1 T r_x0 r_x1 i_x2 i_x3 (rg_m i_v_1q2 (by decide)) (by have := hc_3; omega)
          · have _ := c_12
            refine s_cI (zX15_attacks hF (pmA_s hA rfl) o_x1 T r_x0 r_x1 i_f_3 i_f_9 i_x2) (fun o_9 T_15 i_o_9 => ?_)
            refine s_br (fun c_16 => ?_) (fun c_16 => ?_)
            · have _ := c_16
              have i_f_17 : Rg (0) (0) (o_9.1) := rg_eq c_16 (rg_b rfl : Rg (0) (0) (0 : Int32))
              refine s_q (fun v_1q3 e_18 => ?_)
              have i_v_1q3 : Rg (1) (64) (v_1q3) := by rw [e_18]; exact (rg_add i_f_3 (rg_b rfl : Rg (1) (1) ((1 : Int32))) (by decide) : Rg (1) (64) (x4 + (1 : Int32)))
              have m_19 : (v_1q3).toInt = x4.toInt + 1 := by rw [e_18]; exact rg_inc i_f_3 (by decide)
              exact hk_3 o_x1 T_15 r_x0 r_x1 i_x2 i_x3 (rg_m i_v_1q3 (by decide)) (by have := hc_3; omega)
            · have _ := c_16
              have i_f_20 : Rg (1) (1) (o_9.1) := rg_nlo c_16 i_o_9 (rg_b rfl : Rg (0) (0) (0 : Int32))
              exact s_some ⟨(T_15), (rg_m (rg_b rfl : Rg (1) (1) ((1 : Int32))) (by decide))⟩
        · have _ := c_11
          refine s_q (fun v_1q4 e_21 => ?_)
          have i_v_1q4 : Rg (1) (64) (v_1q4) := by rw [e_21]; exact (rg_add i_f_3 (rg_b rfl : Rg (1) (1) ((1 : Int32))) (by decide) : Rg (1) (64) (x4 + (1 : Int32)))
          have m_22 : (v_1q4).toInt = x4.toInt + 1 := by rw [e_21]; exact rg_inc i_f_3 (by decide)
          exact hk_3 o_x1 T r_x0 r_x1 i_x2 i_x3 (rg_m i_v_1q4 (by decide)) (by have := hc_3; omega)
set_option maxRecDepth 20000 in
theorem zX15_isAttacked {ρ : Nat → Nat} {c : Cm} {F : Nat} {w_x1 : Nat} (hF : 700000 ≤ F) (hA : pmA c [(16, 23), (16, 24)]) {h : Hp} {x0 : Nat} {x1 : Nat} {x2 : Int32} {x3 : Int32} (o_x1 : cw c x1 = w_x1) (T : TH ρ c h) (r_x0 : ρ x0 = 16) (r_x1 : ρ x1 = 13) (i_x2 : Rg (0) (63) (x2)) (i_x3 : Rg (0) (1) (x3)) : Sat (sX15_isAttacked F h x0 x1 x2 x3) (ZI ρ c (0) (1)) := by
  unfold sX15_isAttacked 
  have m_1 : Rg (0) (64) ((0 : Int32)) := (rg_m (rg_b rfl : Rg (0) (0) ((0 : Int32))) (by decide))
  exact zX15_isAttacked_3 hF (pmA_s hA rfl) F o_x1 T r_x0 r_x1 i_x2 i_x3 (rg_m (rg_b rfl : Rg (0) (0) ((0 : Int32))) (by decide)) (by have := m_1.1; have := m_1.2; omega)
set_option maxRecDepth 20000 in
theorem zX15_becomesOthers {ρ : Nat → Nat} {c : Cm} {F : Nat} (hF : 700000 ≤ F) {h : Hp} {x0 : Nat} {x1 : Int32} (T : TH ρ c h) (r_x0 : ρ x0 = 16) (i_x1 : Rg (0) (11) (x1)) : Sat (sX15_becomesOthers h x0 x1) (ZI0 h (0) (1)) := by
  unfold sX15_becomesOthers sX15_becomesOthers_17
  obtain ⟨r_1, e_r_1, q_r_1⟩ := thR T r_x0 (k := 16) (i := 4) (k2 := 15) rfl (by decide)
  refine s_ref e_r_1 ?_
  obtain ⟨r_2, e_r_2, q_r_2⟩ := thR T q_r_1 (k := 15) (i := 14) (k2 := 81) rfl (by decide)
  refine s_ref e_r_2 ?_
  refine s_gd (by rw [thN T q_r_2 (k := 81) (n := 12) rfl (by decide)]; exact rg_inB i_x1 (by decide)) ?_
  refine s_br (fun c_1 => ?_) (fun c_1 => ?_)
  · have _ := c_1
    have i_f_2 : Rg (0) (0) ((hI h r_2 x1.toNatClampNeg)) := rg_le1 c_1 (thI T q_r_2 (k := 81) rfl : Rg (0) (6) ((hI h r_2 x1.toNatClampNeg))) (rg_b rfl : Rg (0) (0) (0 : Int32))
    refine s_gd (rg_bool (rg_m (rg_b rfl : Rg (0) (0) ((0 : Int32))) (by decide))) ?_
    exact s_some ⟨rfl, (rg_m (rg_b rfl : Rg (0) (0) ((0 : Int32))) (by decide))⟩
  · have _ := c_1
    have i_f_3 : Rg (1) (6) ((hI h r_2 x1.toNatClampNeg)) := rg_lt2 (nle_lt c_1) (rg_b rfl : Rg (0) (0) (0 : Int32)) (thI T q_r_2 (k := 81) rfl : Rg (0) (6) ((hI h r_2 x1.toNatClampNeg)))
    refine s_gd (rg_bool (rg_m (rg_b rfl : Rg (1) (1) ((1 : Int32))) (by decide))) ?_
    exact s_some ⟨rfl, (rg_m (rg_b rfl : Rg (1) (1) ((1 : Int32))) (by decide))⟩
set_option maxRecDepth 20000 in
theorem zX15_leave {ρ : Nat → Nat} {c : Cm} {F : Nat} {w_x1 : Nat} (hF : 700000 ≤ F) (hO_x1 : pmO c w_x1 [(62, 999), (13, 2)]) {h : Hp} {x0 : Nat} {x1 : Nat} {x2 : Int32} (o_x1 : cw c x1 = w_x1) (T : TH ρ c h) (r_x0 : ρ x0 = 16) (r_x1 : ρ x1 = 13) (i_x2 : Rg (0) (63) (x2)) : Sat (sX15_leave h x0 x1 x2) (ZV ρ c) := by
  unfold sX15_leave 
  obtain ⟨r_1, e_r_1, q_r_1⟩ := thR T r_x1 (k := 13) (i := 0) (k2 := 62) rfl (by decide)
  refine s_ref e_r_1 ?_
  refine s_gd (by rw [thN T q_r_1 (k := 62) (n := 64) rfl (by decide)]; exact rg_inB i_x2 (by decide)) ?_
  refine s_hq (th_wI T q_r_1 (k := 62) (lo := (0)) (hi := (24)) rfl ((rg_m (rg_b rfl : Rg (0) (0) ((0 : Int32))) (by decide)) : Rg (0) (24) ((0 : Int32))) (by decide) (by decide) (pm_o hO_x1 (th_ih T r_x1 (k := 13) rfl e_r_1 o_x1) rfl)) (fun h_3 T_1 w_2 => ?_)
  refine s_hq (th_wJ T_1 r_x1 (k := 13) (by decide) (pm_o hO_x1 o_x1 rfl)) (fun h_4 T_3 w_4 => ?_)
  exact s_some (T_3)
set_option maxRecDepth 20000 in
theorem zX15_blast_61 {ρ : Nat → Nat} {c : Cm} {F : Nat} {w_x1 : Nat} (hF : 700000 ≤ F) {k_8 : Hp → Nat → Nat → Int32 → Int32 → Option (Hp)} {C_8 : Int} (hk_8 : ∀ {h : Hp} {x0 : Nat} {x1 : Nat} {x2 : Int32} {x3 : Int32}, cw c x1 = w_x1 → TH ρ c h → ρ x0 = 16 → ρ x1 = 13 → Rg (0) (63) (x2) → Rg (0) (64) (x3) → C_8 < x3.toInt → Sat (k_8 h x0 x1 x2 x3) (ZV ρ c)) (hO_x1 : pmO c w_x1 [(62, 999), (13, 2)]) {h : Hp} {x0 : Nat} {x1 : Nat} {x2 : Int32} {x3 : Int32} {t0 : Int32} (o_x1 : cw c x1 = w_x1) (T : TH ρ c h) (r_x0 : ρ x0 = 16) (r_x1 : ρ x1 = 13) (i_x2 : Rg (0) (63) (x2)) (i_x3 : Rg (0) (63) (x3)) (i_t0 : Rg (0) (1) (t0)) (hc_8 : C_8 ≤ x3.toInt) : Sat (sX15_blast_61 F k_8 h x0 x1 x2 x3 t0) (ZV ρ c) := by
  unfold sX15_blast_61 sX15_blast_105 sX15_manOf
  refine s_br (fun c_1 => ?_) (fun c_1 => ?_)
  · have _ := c_1
    have i_f_2 : Rg (0) (0) (t0) := rg_eq c_1 (rg_b rfl : Rg (0) (0) (0 : Int32))
    refine s_q (fun v_1q1 e_3 => ?_)
    have i_v_1q1 : Rg (1) (64) (v_1q1) := by rw [e_3]; exact (rg_add i_x3 (rg_b rfl : Rg (1) (1) ((1 : Int32))) (by decide) : Rg (1) (64) (x3 + (1 : Int32)))
    have m_4 : (v_1q1).toInt = x3.toInt + 1 := by rw [e_3]; exact rg_inc i_x3 (by decide)
    exact hk_8 o_x1 T r_x0 r_x1 i_x2 (rg_m i_v_1q1 (by decide)) (by have := hc_8; omega)
  · have _ := c_1
    have i_f_5 : Rg (1) (1) (t0) := rg_nlo c_1 i_t0 (rg_b rfl : Rg (0) (0) (0 : Int32))
    obtain ⟨r_2, e_r_2, q_r_2⟩ := thR T r_x1 (k := 13) (i := 0) (k2 := 62) rfl (by decide)
    refine s_ref e_r_2 ?_
    refine s_gd (by rw [thN T q_r_2 (k := 62) (n := 64) rfl (by decide)]; exact rg_inB i_x3 (by decide)) ?_
    refine s_br (fun c_6 => ?_) (fun c_6 => ?_)
    · have _ := c_6
      have i_f_7 : Rg (0) (0) ((hI h r_2 x3.toNatClampNeg)) := rg_le1 c_6 (thI T q_r_2 (k := 62) rfl : Rg (0) (24) ((hI h r_2 x3.toNatClampNeg))) (rg_b rfl : Rg (0) (0) (0 : Int32))
      refine s_q (fun v_1q2 e_8 => ?_)
      have i_v_1q2 : Rg (1) (64) (v_1q2) := by rw [e_8]; exact (rg_add i_x3 (rg_b rfl : Rg (1) (1) ((1 : Int32))) (by decide) : Rg (1) (64) (x3 + (1 : Int32)))
      have m_9 : (v_1q2).toInt = x3.toInt + 1 := by rw [e_8]; exact rg_inc i_x3 (by decide)
      exact hk_8 o_x1 T r_x0 r_x1 i_x2 (rg_m i_v_1q2 (by decide)) (by have := hc_8; omega)
    · have _ := c_6
      have i_f_10 : Rg (1) (24) ((hI h r_2 x3.toNatClampNeg)) := rg_lt2 (nle_lt c_6) (rg_b rfl : Rg (0) (0) (0 : Int32)) (thI T q_r_2 (k := 62) rfl : Rg (0) (24) ((hI h r_2 x3.toNatClampNeg)))
      obtain ⟨r_5, e_r_5, q_r_5⟩ := thR T r_x0 (k := 16) (i := 4) (k2 := 15) rfl (by decide)
      refine s_ref e_r_5 ?_
      refine s_ref e_r_2 ?_
      refine s_gd (by rw [thN T q_r_2 (k := 62) (n := 64) rfl (by decide)]; exact rg_inB i_x3 (by decide)) ?_
      refine s_pu (fun o_8z e_11 => ?_)
      try dsimp only
      have i_o_8z : Rg (0) (11) (o_8z) := by rw [e_11]; exact (rg_shrk 1 (by decide) (rg_sub i_f_10 (rg_b rfl : Rg (1) (1) ((1 : Int32))) (by decide) : Rg (0) (23) (((hI h r_2 x3.toNatClampNeg) - (1 : Int32)))) (by decide) : Rg (0) (11) (((hI h r_2 x3.toNatClampNeg) - (1 : Int32)) >>> ((1 : Int32) &&& 31)))
      refine s_br (fun c_12 => ?_) (fun c_12 => ?_)
      · have _ := c_12
        have i_f_13 : Rg (0) (0) ((((hI h r_5 19) >>> (o_8z &&& 31)) &&& (1 : Int32))) := rg_eq c_12 (rg_b rfl : Rg (0) (0) (0 : Int32))
        refine s_cV (zX15_leave hF (pmO_s hO_x1 rfl) o_x1 T r_x0 r_x1 i_x3) (fun o_10 T_14 => ?_)
        refine s_q (fun v_1q3 e_15 => ?_)
        have i_v_1q3 : Rg (1) (64) (v_1q3) := by rw [e_15]; exact (rg_add i_x3 (rg_b rfl : Rg (1) (1) ((1 : Int32))) (by decide) : Rg (1) (64) (x3 + (1 : Int32)))
        have m_16 : (v_1q3).toInt = x3.toInt + 1 := by rw [e_15]; exact rg_inc i_x3 (by decide)
        exact hk_8 o_x1 T_14 r_x0 r_x1 i_x2 (rg_m i_v_1q3 (by decide)) (by have := hc_8; omega)
      · have _ := c_12
        have i_f_17 : Rg (1) (1) ((((hI h r_5 19) >>> (o_8z &&& 31)) &&& (1 : Int32))) := rg_nlo c_12 (rg_and (rg_b rfl : Rg (1) (1) ((1 : Int32))) (by decide) : Rg (0) (1) ((((hI h r_5 19) >>> (o_8z &&& 31)) &&& (1 : Int32)))) (rg_b rfl : Rg (0) (0) (0 : Int32))
        refine s_q (fun v_1q4 e_18 => ?_)
        have i_v_1q4 : Rg (1) (64) (v_1q4) := by rw [e_18]; exact (rg_add i_x3 (rg_b rfl : Rg (1) (1) ((1 : Int32))) (by decide) : Rg (1) (64) (x3 + (1 : Int32)))
        have m_19 : (v_1q4).toInt = x3.toInt + 1 := by rw [e_18]; exact rg_inc i_x3 (by decide)
        exact hk_8 o_x1 T r_x0 r_x1 i_x2 (rg_m i_v_1q4 (by decide)) (by have := hc_8; omega)
set_option maxRecDepth 20000 in
theorem zX15_blast_8 {ρ : Nat → Nat} {c : Cm} {F : Nat} {w_x1 : Nat} (hF : 700000 ≤ F) (hO_x1 : pmO c w_x1 [(62, 999), (13, 2)]) : ∀ (f : Nat) {h : Hp} {x0 : Nat} {x1 : Nat} {x2 : Int32} {x3 : Int32}, cw c x1 = w_x1 → TH ρ c h → ρ x0 = 16 → ρ x1 = 13 → Rg (0) (63) (x2) → Rg (0) (64) (x3) → (64 - x3.toInt).toNat < f → Sat (sX15_blast_8 F f h x0 x1 x2 x3) (ZV ρ c) := by
  intro f
  induction f with
  | zero => intros; omega
  | succ f ih =>
    intro h x0 x1 x2 x3 o_x1 T r_x0 r_x1 i_x2 i_x3 hm
    rw [sX15_blast_8]
    unfold sX15_blast_60
    obtain ⟨C_8, hC_8⟩ : ∃ C : Int, C = x3.toInt := ⟨_, rfl⟩
    have hk_8 : ∀ {h : Hp} {x0 : Nat} {x1 : Nat} {x2 : Int32} {x3 : Int32}, cw c x1 = w_x1 → TH ρ c h → ρ x0 = 16 → ρ x1 = 13 → Rg (0) (63) (x2) → Rg (0) (64) (x3) → C_8 < x3.toInt → Sat (sX15_blast_8 F f h x0 x1 x2 x3) (ZV ρ c) := by
      intro h' x0' x1' x2' x3' o_x1' T' r_x0' r_x1' i_x2' i_x3' hl
      exact ih o_x1' T' r_x0' r_x1' i_x2' i_x3' (by have := i_x3'.1; have := i_x3'.2; omega)
    have hc_8 : C_8 ≤ x3.toInt := by omega
    refine s_br (fun c_1 => ?_) (fun c_1 => ?_)
    · have _ := c_1
      have i_f_2 : Rg (9) (64) (x3) := rg_le2 c_1 (thI T r_x0 (k := 16) (i := 13) rfl : Rg (9) (64) ((hI h x0 13))) i_x3
      exact s_some (T)
    · have _ := c_1
      have i_f_3 : Rg (0) (63) (x3) := rg_lt1 (nle_lt c_1) i_x3 (thI T r_x0 (k := 16) (i := 13) rfl : Rg (9) (64) ((hI h x0 13)))
      refine s_gd (rg_ne0 (thI T r_x0 (k := 16) (i := 11) rfl : Rg (3) (8) ((hI h x0 11))) (by decide)) ?_
      refine s_gd (rg_ne0 (thI T r_x0 (k := 16) (i := 11) rfl : Rg (3) (8) ((hI h x0 11))) (by decide)) ?_
      refine s_br (fun c_4 => ?_) (fun c_4 => ?_)
      · have _ := c_4
        have i_f_5 : Rg (2) (7) ((if 0 ≤ ((x3 - x3 / (hI h x0 11) * (hI h x0 11)) - (x2 - x2 / (hI h x0 11) * (hI h x0 11))) then ((x3 - x3 / (hI h x0 11) * (hI h x0 11)) - (x2 - x2 / (hI h x0 11) * (hI h x0 11))) else 0 - ((x3 - x3 / (hI h x0 11) * (hI h x0 11)) - (x2 - x2 / (hI h x0 11) * (hI h x0 11))))) := rg_le2 c_4 (rg_b rfl : Rg (2) (2) ((2 : Int32))) (rg_if (fun hq_ => by have i_fI8548_1 : Rg (0) (7) (((x3 - x3 / (hI h x0 11) * (hI h x0 11)) - (x2 - x2 / (hI h x0 11) * (hI h x0 11)))) := rg_le2 hq_ (rg_b rfl : Rg (0) (0) (0 : Int32)) (rg_sub (rg_rem i_f_3 (thI T r_x0 (k := 16) (i := 11) rfl : Rg (3) (8) ((hI h x0 11))) (by decide) : Rg (0) (7) ((x3 - x3 / (hI h x0 11) * (hI h x0 11)))) (rg_rem i_x2 (thI T r_x0 (k := 16) (i := 11) rfl : Rg (3) (8) ((hI h x0 11))) (by decide) : Rg (0) (7) ((x2 - x2 / (hI h x0 11) * (hI h x0 11)))) (by decide) : Rg (-7) (7) (((x3 - x3 / (hI h x0 11) * (hI h x0 11)) - (x2 - x2 / (hI h x0 11) * (hI h x0 11))))); exact i_fI8548_1) (fun hq_ => by have i_fI4894_1 : Rg (-7) (-1) (((x3 - x3 / (hI h x0 11) * (hI h x0 11)) - (x2 - x2 / (hI h x0 11) * (hI h x0 11)))) := rg_lt1 (nle_lt hq_) (rg_sub (rg_rem i_f_3 (thI T r_x0 (k := 16) (i := 11) rfl : Rg (3) (8) ((hI h x0 11))) (by decide) : Rg (0) (7) ((x3 - x3 / (hI h x0 11) * (hI h x0 11)))) (rg_rem i_x2 (thI T r_x0 (k := 16) (i := 11) rfl : Rg (3) (8) ((hI h x0 11))) (by decide) : Rg (0) (7) ((x2 - x2 / (hI h x0 11) * (hI h x0 11)))) (by decide) : Rg (-7) (7) (((x3 - x3 / (hI h x0 11) * (hI h x0 11)) - (x2 - x2 / (hI h x0 11) * (hI h x0 11))))) (rg_b rfl : Rg (0) (0) (0 : Int32)); exact (rg_m (rg_sub (rg_b rfl : Rg (0) (0) (0 : Int32)) i_fI4894_1 (by decide) : Rg (1) (7) (0 - ((x3 - x3 / (hI h x0 11) * (hI h x0 11)) - (x2 - x2 / (hI h x0 11) * (hI h x0 11))))) (by decide))) : Rg (0) (7) ((if 0 ≤ ((x3 - x3 / (hI h x0 11) * (hI h x0 11)) - (x2 - x2 / (hI h x0 11) * (hI h x0 11))) then ((x3 - x3 / (hI h x0 11) * (hI h x0 11)) - (x2 - x2 / (hI h x0 11) * (hI h x0 11))) else 0 - ((x3 - x3 / (hI h x0 11) * (hI h x0 11)) - (x2 - x2 / (hI h x0 11) * (hI h x0 11))))))
        exact zX15_blast_61 hF @hk_8 (pmO_s hO_x1 rfl) o_x1 T r_x0 r_x1 i_x2 i_f_3 (rg_m (rg_b rfl : Rg (0) (0) ((0 : Int32))) (by decide)) hc_8
      · have _ := c_4
        have i_f_6 : Rg (0) (1) ((if 0 ≤ ((x3 - x3 / (hI h x0 11) * (hI h x0 11)) - (x2 - x2 / (hI h x0 11) * (hI h x0 11))) then ((x3 - x3 / (hI h x0 11) * (hI h x0 11)) - (x2 - x2 / (hI h x0 11) * (hI h x0 11))) else 0 - ((x3 - x3 / (hI h x0 11) * (hI h x0 11)) - (x2 - x2 / (hI h x0 11) * (hI h x0 11))))) := rg_lt1 (nle_lt c_4) (rg_if (fun hq_ => by have i_fI2008_1 : Rg (0) (7) (((x3 - x3 / (hI h x0 11) * (hI h x0 11)) - (x2 - x2 / (hI h x0 11) * (hI h x0 11)))) := rg_le2 hq_ (rg_b rfl : Rg (0) (0) (0 : Int32)) (rg_sub (rg_rem i_f_3 (thI T r_x0 (k := 16) (i := 11) rfl : Rg (3) (8) ((hI h x0 11))) (by decide) : Rg (0) (7) ((x3 - x3 / (hI h x0 11) * (hI h x0 11)))) (rg_rem i_x2 (thI T r_x0 (k := 16) (i := 11) rfl : Rg (3) (8) ((hI h x0 11))) (by decide) : Rg (0) (7) ((x2 - x2 / (hI h x0 11) * (hI h x0 11)))) (by decide) : Rg (-7) (7) (((x3 - x3 / (hI h x0 11) * (hI h x0 11)) - (x2 - x2 / (hI h x0 11) * (hI h x0 11))))); exact i_fI2008_1) (fun hq_ => by have i_fI7437_1 : Rg (-7) (-1) (((x3 - x3 / (hI h x0 11) * (hI h x0 11)) - (x2 - x2 / (hI h x0 11) * (hI h x0 11)))) := rg_lt1 (nle_lt hq_) (rg_sub (rg_rem i_f_3 (thI T r_x0 (k := 16) (i := 11) rfl : Rg (3) (8) ((hI h x0 11))) (by decide) : Rg (0) (7) ((x3 - x3 / (hI h x0 11) * (hI h x0 11)))) (rg_rem i_x2 (thI T r_x0 (k := 16) (i := 11) rfl : Rg (3) (8) ((hI h x0 11))) (by decide) : Rg (0) (7) ((x2 - x2 / (hI h x0 11) * (hI h x0 11)))) (by decide) : Rg (-7) (7) (((x3 - x3 / (hI h x0 11) * (hI h x0 11)) - (x2 - x2 / (hI h x0 11) * (hI h x0 11))))) (rg_b rfl : Rg (0) (0) (0 : Int32)); exact (rg_m (rg_sub (rg_b rfl : Rg (0) (0) (0 : Int32)) i_fI7437_1 (by decide) : Rg (1) (7) (0 - ((x3 - x3 / (hI h x0 11) * (hI h x0 11)) - (x2 - x2 / (hI h x0 11) * (hI h x0 11))))) (by decide))) : Rg (0) (7) ((if 0 ≤ ((x3 - x3 / (hI h x0 11) * (hI h x0 11)) - (x2 - x2 / (hI h x0 11) * (hI h x0 11))) then ((x3 - x3 / (hI h x0 11) * (hI h x0 11)) - (x2 - x2 / (hI h x0 11) * (hI h x0 11))) else 0 - ((x3 - x3 / (hI h x0 11) * (hI h x0 11)) - (x2 - x2 / (hI h x0 11) * (hI h x0 11)))))) (rg_b rfl : Rg (2) (2) ((2 : Int32)))
        refine s_gd (rg_ne0 (thI T r_x0 (k := 16) (i := 11) rfl : Rg (3) (8) ((hI h x0 11))) (by decide)) ?_
        refine s_gd (rg_ne0 (thI T r_x0 (k := 16) (i := 11) rfl : Rg (3) (8) ((hI h x0 11))) (by decide)) ?_
        refine s_br (fun c_7 => ?_) (fun c_7 => ?_)
        · have _ := c_7
          have i_f_8 : Rg (2) (21) ((if 0 ≤ ((x3 / (hI h x0 11)) - (x2 / (hI h x0 11))) then ((x3 / (hI h x0 11)) - (x2 / (hI h x0 11))) else 0 - ((x3 / (hI h x0 11)) - (x2 / (hI h x0 11))))) := rg_le2 c_7 (rg_b rfl : Rg (2) (2) ((2 : Int32))) (rg_if (fun hq_ => by have i_fI6541_1 : Rg (0) (21) (((x3 / (hI h x0 11)) - (x2 / (hI h x0 11)))) := rg_le2 hq_ (rg_b rfl : Rg (0) (0) (0 : Int32)) (rg_sub (rg_divw i_f_3 (thI T r_x0 (k := 16) (i := 11) rfl : Rg (3) (8) ((hI h x0 11))) (by decide) : Rg (0) (21) ((x3 / (hI h x0 11)))) (rg_divw i_x2 (thI T r_x0 (k := 16) (i := 11) rfl : Rg (3) (8) ((hI h x0 11))) (by decide) : Rg (0) (21) ((x2 / (hI h x0 11)))) (by decide) : Rg (-21) (21) (((x3 / (hI h x0 11)) - (x2 / (hI h x0 11))))); exact i_fI6541_1) (fun hq_ => by have i_fI203_1 : Rg (-21) (-1) (((x3 / (hI h x0 11)) - (x2 / (hI h x0 11)))) := rg_lt1 (nle_lt hq_) (rg_sub (rg_divw i_f_3 (thI T r_x0 (k := 16) (i := 11) rfl : Rg (3) (8) ((hI h x0 11))) (by decide) : Rg (0) (21) ((x3 / (hI h x0 11)))) (rg_divw i_x2 (thI T r_x0 (k := 16) (i := 11) rfl : Rg (3) (8) ((hI h x0 11))) (by decide) : Rg (0) (21) ((x2 / (hI h x0 11)))) (by decide) : Rg (-21) (21) (((x3 / (hI h x0 11)) - (x2 / (hI h x0 11))))) (rg_b rfl : Rg (0) (0) (0 : Int32)); exact (rg_m (rg_sub (rg_b rfl : Rg (0) (0) (0 : Int32)) i_fI203_1 (by decide) : Rg (1) (21) (0 - ((x3 / (hI h x0 11)) - (x2 / (hI h x0 11))))) (by decide))) : Rg (0) (21) ((if 0 ≤ ((x3 / (hI h x0 11)) - (x2 / (hI h x0 11))) then ((x3 / (hI h x0 11)) - (x2 / (hI h x0 11))) else 0 - ((x3 / (hI h x0 11)) - (x2 / (hI h x0 11))))))
          exact zX15_blast_61 hF @hk_8 (pmO_s hO_x1 rfl) o_x1 T r_x0 r_x1 i_x2 i_f_3 (rg_m (rg_b rfl : Rg (0) (0) ((0 : Int32))) (by decide)) hc_8
        · have _ := c_7
          have i_f_9 : Rg (0) (1) ((if 0 ≤ ((x3 / (hI h x0 11)) - (x2 / (hI h x0 11))) then ((x3 / (hI h x0 11)) - (x2 / (hI h x0 11))) else 0 - ((x3 / (hI h x0 11)) - (x2 / (hI h x0 11))))) := rg_lt1 (nle_lt c_7) (rg_if (fun hq_ => by have i_fI560_1 : Rg (0) (21) (((x3 / (hI h x0 11)) - (x2 / (hI h x0 11)))) := rg_le2 hq_ (rg_b rfl : Rg (0) (0) (0 : Int32)) (rg_sub (rg_divw i_f_3 (thI T r_x0 (k := 16) (i := 11) rfl : Rg (3) (8) ((hI h x0 11))) (by decide) : Rg (0) (21) ((x3 / (hI h x0 11)))) (rg_divw i_x2 (thI T r_x0 (k := 16) (i := 11) rfl : Rg (3) (8) ((hI h x0 11))) (by decide) : Rg (0) (21) ((x2 / (hI h x0 11)))) (by decide) : Rg (-21) (21) (((x3 / (hI h x0 11)) - (x2 / (hI h x0 11))))); exact i_fI560_1) (fun hq_ => by have i_fI11_1 : Rg (-21) (-1) (((x3 / (hI h x0 11)) - (x2 / (hI h x0 11)))) := rg_lt1 (nle_lt hq_) (rg_sub (rg_divw i_f_3 (thI T r_x0 (k := 16) (i := 11) rfl : Rg (3) (8) ((hI h x0 11))) (by decide) : Rg (0) (21) ((x3 / (hI h x0 11)))) (rg_divw i_x2 (thI T r_x0 (k := 16) (i := 11) rfl : Rg (3) (8) ((hI h x0 11))) (by decide) : Rg (0) (21) ((x2 / (hI h x0 11)))) (by decide) : Rg (-21) (21) (((x3 / (hI h x0 11)) - (x2 / (hI h x0 11))))) (rg_b rfl : Rg (0) (0) (0 : Int32)); exact (rg_m (rg_sub (rg_b rfl : Rg (0) (0) (0 : Int32)) i_fI11_1 (by decide) : Rg (1) (21) (0 - ((x3 / (hI h x0 11)) - (x2 / (hI h x0 11))))) (by decide))) : Rg (0) (21) ((if 0 ≤ ((x3 / (hI h x0 11)) - (x2 / (hI h x0 11))) then ((x3 / (hI h x0 11)) - (x2 / (hI h x0 11))) else 0 - ((x3 / (hI h x0 11)) - (x2 / (hI h x0 11)))))) (rg_b rfl : Rg (2) (2) ((2 : Int32)))
          exact zX15_blast_61 hF @hk_8 (pmO_s hO_x1 rfl) o_x1 T r_x0 r_x1 i_x2 i_f_3 (rg_m (rg_b rfl : Rg (1) (1) ((1 : Int32))) (by decide)) hc_8
set_option maxRecDepth 20000 in
theorem zX15_blast {ρ : Nat → Nat} {c : Cm} {F : Nat} {w_x1 : Nat} (hF : 700000 ≤ F) (hO_x1 : pmO c w_x1 [(62, 999), (13, 2)]) {h : Hp} {x0 : Nat} {x1 : Nat} {x2 : Int32} (o_x1 : cw c x1 = w_x1) (T : TH ρ c h) (r_x0 : ρ x0 = 16) (r_x1 : ρ x1 = 13) (i_x2 : Rg (0) (63) (x2)) : Sat (sX15_blast F h x0 x1 x2) (ZV ρ c) := by
  unfold sX15_blast 
  refine s_cV (zX15_leave hF (pmO_s hO_x1 rfl) o_x1 T r_x0 r_x1 i_x2) (fun o_1 T_1 => ?_)
  have m_2 : Rg (0) (64) ((0 : Int32)) := (rg_m (rg_b rfl : Rg (0) (0) ((0 : Int32))) (by decide))
  exact zX15_blast_8 hF (pmO_s hO_x1 rfl) F o_x1 T_1 r_x0 r_x1 i_x2 (rg_m (rg_b rfl : Rg (0) (0) ((0 : Int32))) (by decide)) (by have := m_2.1; have := m_2.2; omega)
set_option maxRecDepth 20000 in
theorem zX15_come {ρ : Nat → Nat} {c : Cm} {F : Nat} {w_x1 : Nat} (hF : 700000 ≤ F) (hO_x1 : pmO c w_x1 [(62, 999), (13, 2)]) {h : Hp} {x0 : Nat} {x1 : Nat} {x2 : Int32} {x3 : Int32} (o_x1 : cw c x1 = w_x1) (T : TH ρ c h) (r_x0 : ρ x0 = 16) (r_x1 : ρ x1 = 13) (i_x2 : Rg (0) (63) (x2)) (i_x3 : Rg (0) (24) (x3)) : Sat (sX15_come h x0 x1 x2 x3) (ZV ρ c) := by
  unfold sX15_come 
  obtain ⟨r_1, e_r_1, q_r_1⟩ := thR T r_x1 (k := 13) (i := 0) (k2 := 62) rfl (by decide)
  refine s_ref e_r_1 ?_
  refine s_gd (by rw [thN T q_r_1 (k := 62) (n := 64) rfl (by decide)]; exact rg_inB i_x2 (by decide)) ?_
  refine s_hq (th_wI T q_r_1 (k := 62) (lo := (0)) (hi := (24)) rfl (i_x3 : Rg (0) (24) (x3)) (by decide) (by decide) (pm_o hO_x1 (th_ih T r_x1 (k := 13) rfl e_r_1 o_x1) rfl)) (fun h_3 T_1 w_2 => ?_)
  refine s_hq (th_wJ T_1 r_x1 (k := 13) (by decide) (pm_o hO_x1 o_x1 rfl)) (fun h_4 T_3 w_4 => ?_)
  exact s_some (T_3)
set_option maxRecDepth 20000 in
theorem zX15_isGoneOver_2 {ρ : Nat → Nat} {c : Cm} {h0 : Hp} {F : Nat} (hF : 700000 ≤ F) : ∀ (f : Nat) {h : Hp} {x1 : Nat} {x2 : Int32} {x3 : Int32}, h = h0 → TH ρ c h → ρ x1 = 13 → Rg (0) (63) (x2) → Rg (1) (64) (x3) → (64 - x3.toInt).toNat < f → Sat (sX15_isGoneOver_2 F f h x1 x2 x3) (ZI0 h0 (0) (1)) := by
  intro f
  induction f with
  | zero => intros; omega
  | succ f ih =>
    intro h x1 x2 x3 E T r_x1 i_x2 i_x3 hm
    rw [sX15_isGoneOver_2]
    obtain ⟨C_2, hC_2⟩ : ∃ C : Int, C = x3.toInt := ⟨_, rfl⟩
    have hk_2 : ∀ {h : Hp} {x1 : Nat} {x2 : Int32} {x3 : Int32}, h = h0 → TH ρ c h → ρ x1 = 13 → Rg (0) (63) (x2) → Rg (1) (64) (x3) → C_2 < x3.toInt → Sat (sX15_isGoneOver_2 F f h x1 x2 x3) (ZI0 h0 (0) (1)) := by
      intro h' x1' x2' x3' E' T' r_x1' i_x2' i_x3' hl
      exact ih E' T' r_x1' i_x2' i_x3' (by have := i_x3'.1; have := i_x3'.2; omega)
    have hc_2 : C_2 ≤ x3.toInt := by omega
    refine s_br (fun c_1 => ?_) (fun c_1 => ?_)
    · have _ := c_1
      exact s_some ⟨E, (rg_m (rg_b rfl : Rg (0) (0) ((0 : Int32))) (by decide))⟩
    · have _ := c_1
      have i_f_2 : Rg (1) (63) (x3) := rg_lt1 (nle_lt c_1) i_x3 (thI T r_x1 (k := 13) (i := 3) rfl : Rg (0) (64) ((hI h x1 3)))
      have i_f_3 : Rg (2) (64) ((hI h x1 3)) := rg_lt2 (nle_lt c_1) i_x3 (thI T r_x1 (k := 13) (i := 3) rfl : Rg (0) (64) ((hI h x1 3)))
      obtain ⟨r_2, e_r_2, q_r_2⟩ := thR T r_x1 (k := 13) (i := 4) (k2 := 63) rfl (by decide)
      refine s_ref e_r_2 ?_
      refine s_gd (by rw [thN T q_r_2 (k := 63) (n := 64) rfl (by decide)]; exact rg_inB i_f_2 (by decide)) ?_
      refine s_br (fun c_4 => ?_) (fun c_4 => ?_)
      · have _ := c_4
        exact s_some ⟨E, (rg_m (rg_b rfl : Rg (1) (1) ((1 : Int32))) (by decide))⟩
      · have _ := c_4
        refine s_q (fun v_5 e_5 => ?_)
        have i_v_5 : Rg (2) (64) (v_5) := by rw [e_5]; exact (rg_add i_f_2 (rg_b rfl : Rg (1) (1) ((1 : Int32))) (by decide) : Rg (2) (64) (x3 + (1 : Int32)))
        have m_6 : (v_5).toInt = x3.toInt + 1 := by rw [e_5]; exact rg_inc i_f_2 (by decide)
        exact hk_2 E T r_x1 i_x2 (rg_m i_v_5 (by decide)) (by have := hc_2; omega)
set_option maxRecDepth 20000 in
theorem zX15_isGoneOver {ρ : Nat → Nat} {c : Cm} {F : Nat} (hF : 700000 ≤ F) {h : Hp} {x0 : Nat} {x1 : Nat} {x2 : Int32} (T : TH ρ c h) (r_x0 : ρ x0 = 16) (r_x1 : ρ x1 = 13) (i_x2 : Rg (0) (63) (x2)) : Sat (sX15_isGoneOver F h x0 x1 x2) (ZI0 h (0) (1)) := by
  unfold sX15_isGoneOver 
  have m_1 : Rg (1) (64) ((1 : Int32)) := (rg_m (rg_b rfl : Rg (1) (1) ((1 : Int32))) (by decide))
  exact zX15_isGoneOver_2 hF F rfl T r_x1 i_x2 (rg_m (rg_b rfl : Rg (1) (1) ((1 : Int32))) (by decide)) (by have := m_1.1; have := m_1.2; omega)
set_option maxRecDepth 20000 in
theorem zX15_leadBy_195 {ρ : Nat → Nat} {c : Cm} {F : Nat} {w_x1 : Nat} (hF : 700000 ≤ F) {k_18 : Hp → Nat → Nat → Int32 → Int32 → Int32 → Int32 → Int32 → Int32 → Int32 → Option (Hp)} {C_18 : Int} (hk_18 : ∀ {h : Hp} {x0 : Nat} {x1 : Nat} {x2 : Int32} {x3 : Int32} {x4 : Int32} {x5 : Int32} {x6 : Int32} {x7 : Int32} {x8 : Int32}, cw c x1 = w_x1 → TH ρ c h → ρ x0 = 16 → ρ x1 = 13 → Rg (0) (63) (x2) → Rg (0) (1) (x3) → Rg (0) (95) (x4) → Rg (0) (1) (x5) → Rg (0) (63) (x6) → Rg (0) (2) (x7) → Rg (1) (8) (x8) → C_18 < x8.toInt → Sat (k_18 h x0 x1 x2 x3 x4 x5 x6 x7 x8) (ZV ρ c)) {h : Hp} {x0 : Nat} {x1 : Nat} {x2 : Int32} {x3 : Int32} {x4 : Int32} {x5 : Int32} {x6 : Int32} {x7 : Int32} {x8 : Int32} {x10 : Int32} (o_x1 : cw c x1 = w_x1) (T : TH ρ c h) (r_x0 : ρ x0 = 16) (r_x1 : ρ x1 = 13) (i_x2 : Rg (0) (63) (x2)) (i_x3 : Rg (0) (1) (x3)) (i_x4 : Rg (0) (95) (x4)) (i_x5 : Rg (0) (1) (x5)) (i_x6 : Rg (0) (63) (x6)) (i_x7 : Rg (0) (1) (x7)) (i_x8 : Rg (1) (7) (x8)) (i_x10 : Rg (0) (24) (x10)) (hc_18 : C_18 ≤ x8.toInt) : Sat (sX15_leadBy_195 F k_18 h x0 x1 x2 x3 x4 x5 x6 x7 x8 x10) (ZV ρ c) := by
  unfold sX15_leadBy_195 sX15_leadBy_207
  refine s_br (fun c_1 => ?_) (fun c_1 => ?_)
  · have _ := c_1
    have i_f_2 : Rg (0) (0) (x10) := rg_le1 c_1 i_x10 (rg_b rfl : Rg (0) (0) (0 : Int32))
    refine s_q (fun v_1q1 e_3 => ?_)
    have i_v_1q1 : Rg (0) (1) (v_1q1) := by rw [e_3]; exact (rg_add i_x7 (rg_b rfl : Rg (0) (0) ((0 : Int32))) (by decide) : Rg (0) (1) (x7 + (0 : Int32)))
    refine s_q (fun v_2q1 e_4 => ?_)
    have i_v_2q1 : Rg (2) (8) (v_2q1) := by rw [e_4]; exact (rg_add i_x8 (rg_b rfl : Rg (1) (1) ((1 : Int32))) (by decide) : Rg (2) (8) (x8 + (1 : Int32)))
    have m_5 : (v_2q1).toInt = x8.toInt + 1 := by rw [e_4]; exact rg_inc i_x8 (by decide)
    exact hk_18 o_x1 T r_x0 r_x1 i_x2 i_x3 i_x4 i_x5 i_x6 (rg_m i_v_1q1 (by decide)) (rg_m i_v_2q1 (by decide)) (by have := hc_18; omega)
  · have _ := c_1
    have i_f_6 : Rg (1) (24) (x10) := rg_lt2 (nle_lt c_1) (rg_b rfl : Rg (0) (0) (0 : Int32)) i_x10
    refine s_q (fun v_1q2 e_7 => ?_)
    have i_v_1q2 : Rg (1) (2) (v_1q2) := by rw [e_7]; exact (rg_add i_x7 (rg_b rfl : Rg (1) (1) ((1 : Int32))) (by decide) : Rg (1) (2) (x7 + (1 : Int32)))
    refine s_q (fun v_2q2 e_8 => ?_)
    have i_v_2q2 : Rg (2) (8) (v_2q2) := by rw [e_8]; exact (rg_add i_x8 (rg_b rfl : Rg (1) (1) ((1 : Int32))) (by decide) : Rg (2) (8) (x8 + (1 : Int32)))
    have m_9 : (v_2q2).toInt = x8.toInt + 1 := by rw [e_8]; exact rg_inc i_x8 (by decide)
    exact hk_18 o_x1 T r_x0 r_x1 i_x2 i_x3 i_x4 i_x5 i_x6 (rg_m i_v_1q2 (by decide)) (rg_m i_v_2q2 (by decide)) (by have := hc_18; omega)
set_option maxRecDepth 20000 in
theorem zX15_leadBy_168 {ρ : Nat → Nat} {c : Cm} {F : Nat} {w_x1 : Nat} (hF : 700000 ≤ F) {k_18 : Hp → Nat → Nat → Int32 → Int32 → Int32 → Int32 → Int32 → Int32 → Int32 → Option (Hp)} {C_18 : Int} (hk_18 : ∀ {h : Hp} {x0 : Nat} {x1 : Nat} {x2 : Int32} {x3 : Int32} {x4 : Int32} {x5 : Int32} {x6 : Int32} {x7 : Int32} {x8 : Int32}, cw c x1 = w_x1 → TH ρ c h → ρ x0 = 16 → ρ x1 = 13 → Rg (0) (63) (x2) → Rg (0) (1) (x3) → Rg (0) (95) (x4) → Rg (0) (1) (x5) → Rg (0) (63) (x6) → Rg (0) (2) (x7) → Rg (1) (8) (x8) → C_18 < x8.toInt → Sat (k_18 h x0 x1 x2 x3 x4 x5 x6 x7 x8) (ZV ρ c)) (hA : pmA c [(87, 999), (88, 999), (89, 999)]) {h : Hp} {x0 : Nat} {x1 : Nat} {x2 : Int32} {x3 : Int32} {x4 : Int32} {x5 : Int32} {x6 : Int32} {x7 : Int32} {x8 : Int32} {x9 : Int32} {x10 : Int32} {x11 : Int32} (o_x1 : cw c x1 = w_x1) (T : TH ρ c h) (r_x0 : ρ x0 = 16) (r_x1 : ρ x1 = 13) (i_x2 : Rg (0) (63) (x2)) (i_x3 : Rg (0) (1) (x3)) (i_x4 : Rg (0) (95) (x4)) (i_x5 : Rg (0) (1) (x5)) (i_x6 : Rg (0) (63) (x6)) (i_x7 : Rg (0) (1) (x7)) (i_x8 : Rg (1) (7) (x8)) (i_x9 : Rg (0) (63) (x9)) (i_x10 : Rg (0) (24) (x10)) (i_x11 : Rg (0) (1) (x11)) (hc_18 : C_18 ≤ x8.toInt) : Sat (sX15_leadBy_168 F k_18 h x0 x1 x2 x3 x4 x5 x6 x7 x8 x9 x10 x11) (ZV ρ c) := by
  unfold sX15_leadBy_168 
  obtain ⟨r_1, e_r_1, q_r_1⟩ := thR T r_x0 (k := 16) (i := 25) (k2 := 87) rfl (by decide)
  refine s_ref e_r_1 ?_
  refine s_gd (by rw [thN T q_r_1 (k := 87) (n := 64) rfl (by decide)]; exact rg_inB i_x9 (by decide)) ?_
  refine s_hq (th_wI T q_r_1 (k := 87) (lo := (-1)) (hi := (95)) rfl ((rg_m i_x4 (by decide)) : Rg (-1) (95) (x4)) (by decide) (by decide) (pm_a hA rfl)) (fun h_3 T_1 w_2 => ?_)
  obtain ⟨r_4, e_r_4, q_r_4⟩ := thR T_1 r_x0 (k := 16) (i := 26) (k2 := 88) rfl (by decide)
  refine s_ref e_r_4 ?_
  refine s_gd (by rw [thN T_1 q_r_4 (k := 88) (n := 64) rfl (by decide)]; exact rg_inB i_x9 (by decide)) ?_
  refine s_hq (th_wI T_1 q_r_4 (k := 88) (lo := (0)) (hi := (7)) rfl ((rg_m i_x8 (by decide)) : Rg (0) (7) (x8)) (by decide) (by decide) (pm_a hA rfl)) (fun h_6 T_3 w_4 => ?_)
  obtain ⟨r_7, e_r_7, q_r_7⟩ := thR T_3 r_x0 (k := 16) (i := 27) (k2 := 89) rfl (by decide)
  refine s_ref e_r_7 ?_
  refine s_gd (by rw [thN T_3 q_r_7 (k := 89) (n := 64) rfl (by decide)]; exact rg_inB i_x9 (by decide)) ?_
  refine s_hq (th_wI T_3 q_r_7 (k := 89) (lo := (0)) (hi := (1)) rfl ((rg_narz _ : Rg (0) (1) ((vp_nar .boolean x11))) : Rg (0) (1) ((vp_nar .boolean x11))) (by decide) (by decide) (pm_a hA rfl)) (fun h_9 T_5 w_6 => ?_)
  exact zX15_leadBy_195 hF @hk_18 o_x1 T_5 r_x0 r_x1 i_x2 i_x3 i_x4 i_x5 i_x6 i_x7 i_x8 i_x10 hc_18
set_option maxRecDepth 20000 in
theorem zX15_leadBy_156 {ρ : Nat → Nat} {c : Cm} {F : Nat} {w_x1 : Nat} (hF : 700000 ≤ F) {k_18 : Hp → Nat → Nat → Int32 → Int32 → Int32 → Int32 → Int32 → Int32 → Int32 → Option (Hp)} {C_18 : Int} (hk_18 : ∀ {h : Hp} {x0 : Nat} {x1 : Nat} {x2 : Int32} {x3 : Int32} {x4 : Int32} {x5 : Int32} {x6 : Int32} {x7 : Int32} {x8 : Int32}, cw c x1 = w_x1 → TH ρ c h → ρ x0 = 16 → ρ x1 = 13 → Rg (0) (63) (x2) → Rg (0) (1) (x3) → Rg (0) (95) (x4) → Rg (0) (1) (x5) → Rg (0) (63) (x6) → Rg (0) (2) (x7) → Rg (1) (8) (x8) → C_18 < x8.toInt → Sat (k_18 h x0 x1 x2 x3 x4 x5 x6 x7 x8) (ZV ρ c)) (hA : pmA c [(87, 999), (88, 999), (89, 999)]) {h : Hp} {x0 : Nat} {x1 : Nat} {x2 : Int32} {x3 : Int32} {x4 : Int32} {x5 : Int32} {x6 : Int32} {x7 : Int32} {x8 : Int32} {x9 : Int32} {x10 : Int32} {x11 : Int32} {t0 : Int32} (o_x1 : cw c x1 = w_x1) (T : TH ρ c h) (r_x0 : ρ x0 = 16) (r_x1 : ρ x1 = 13) (i_x2 : Rg (0) (63) (x2)) (i_x3 : Rg (0) (1) (x3)) (i_x4 : Rg (0) (95) (x4)) (i_x5 : Rg (0) (1) (x5)) (i_x6 : Rg (0) (63) (x6)) (i_x7 : Rg (0) (1) (x7)) (i_x8 : Rg (1) (7) (x8)) (i_x9 : Rg (0) (63) (x9)) (i_x10 : Rg (0) (24) (x10)) (i_x11 : Rg (0) (1) (x11)) (i_t0 : Rg (0) (1) (t0)) (hc_18 : C_18 ≤ x8.toInt) : Sat (sX15_leadBy_156 F k_18 h x0 x1 x2 x3 x4 x5 x6 x7 x8 x9 x10 x11 t0) (ZV ρ c) := by
  unfold sX15_leadBy_156 
  refine s_br (fun c_1 => ?_) (fun c_1 => ?_)
  · have _ := c_1
    have i_f_2 : Rg (0) (0) (x11) := rg_eq c_1 (rg_b rfl : Rg (0) (0) (0 : Int32))
    refine s_br (fun c_3 => ?_) (fun c_3 => ?_)
    · have _ := c_3
      have i_f_4 : Rg (0) (0) (t0) := rg_eq c_3 (rg_b rfl : Rg (0) (0) (0 : Int32))
      exact zX15_leadBy_195 hF @hk_18 o_x1 T r_x0 r_x1 i_x2 i_x3 i_x4 i_x5 i_x6 i_x7 i_x8 i_x10 hc_18
    · have _ := c_3
      have i_f_5 : Rg (1) (1) (t0) := rg_nlo c_3 i_t0 (rg_b rfl : Rg (0) (0) (0 : Int32))
      exact zX15_leadBy_168 hF @hk_18 (pmA_s hA rfl) o_x1 T r_x0 r_x1 i_x2 i_x3 i_x4 i_x5 i_x6 i_x7 i_x8 i_x9 i_x10 (rg_m i_f_2 (by decide)) hc_18
  · have _ := c_1
    have i_f_6 : Rg (1) (1) (x11) := rg_nlo c_1 i_x11 (rg_b rfl : Rg (0) (0) (0 : Int32))
    exact zX15_leadBy_168 hF @hk_18 (pmA_s hA rfl) o_x1 T r_x0 r_x1 i_x2 i_x3 i_x4 i_x5 i_x6 i_x7 i_x8 i_x9 i_x10 (rg_m i_f_6 (by decide)) hc_18
set_option maxRecDepth 20000 in
theorem zX15_leadBy_113 {ρ : Nat → Nat} {c : Cm} {F : Nat} {w_x1 : Nat} (hF : 700000 ≤ F) {k_18 : Hp → Nat → Nat → Int32 → Int32 → Int32 → Int32 → Int32 → Int32 → Int32 → Option (Hp)} {C_18 : Int} (hk_18 : ∀ {h : Hp} {x0 : Nat} {x1 : Nat} {x2 : Int32} {x3 : Int32} {x4 : Int32} {x5 : Int32} {x6 : Int32} {x7 : Int32} {x8 : Int32}, cw c x1 = w_x1 → TH ρ c h → ρ x0 = 16 → ρ x1 = 13 → Rg (0) (63) (x2) → Rg (0) (1) (x3) → Rg (0) (95) (x4) → Rg (0) (1) (x5) → Rg (0) (63) (x6) → Rg (0) (2) (x7) → Rg (1) (8) (x8) → C_18 < x8.toInt → Sat (k_18 h x0 x1 x2 x3 x4 x5 x6 x7 x8) (ZV ρ c)) (hA : pmA c [(87, 999), (88, 999), (89, 999)]) {h : Hp} {x0 : Nat} {x1 : Nat} {x2 : Int32} {x3 : Int32} {x4 : Int32} {x5 : Int32} {x6 : Int32} {x7 : Int32} {x8 : Int32} {x9 : Int32} {x10 : Int32} {t0 : Int32} (o_x1 : cw c x1 = w_x1) (T : TH ρ c h) (r_x0 : ρ x0 = 16) (r_x1 : ρ x1 = 13) (i_x2 : Rg (0) (63) (x2)) (i_x3 : Rg (0) (1) (x3)) (i_x4 : Rg (0) (95) (x4)) (i_x5 : Rg (0) (1) (x5)) (i_x6 : Rg (0) (63) (x6)) (i_x7 : Rg (0) (1) (x7)) (i_x8 : Rg (1) (7) (x8)) (i_x9 : Rg (0) (63) (x9)) (i_x10 : Rg (0) (24) (x10)) (i_t0 : Rg (0) (1) (t0)) (hc_18 : C_18 ≤ x8.toInt) : Sat (sX15_leadBy_113 F k_18 h x0 x1 x2 x3 x4 x5 x6 x7 x8 x9 x10 t0) (ZV ρ c) := by
  unfold sX15_leadBy_113 sX15_sideOf sX15_leadBy_140
  refine s_br (fun c_1 => ?_) (fun c_1 => ?_)
  · have _ := c_1
    have i_f_2 : Rg (0) (0) (x10) := rg_le1 c_1 i_x10 (rg_b rfl : Rg (0) (0) (0 : Int32))
    refine s_br (fun c_3 => ?_) (fun c_3 => ?_)
    · have _ := c_3
      have i_f_4 : Rg (0) (0) ((x6 &&& (2 : Int32))) := rg_eq c_3 (rg_b rfl : Rg (0) (0) (0 : Int32))
      exact zX15_leadBy_156 hF @hk_18 (pmA_s hA rfl) o_x1 T r_x0 r_x1 i_x2 i_x3 i_x4 i_x5 i_x6 i_x7 i_x8 i_x9 (rg_m i_f_2 (by decide)) i_t0 (rg_m (rg_b rfl : Rg (1) (1) ((1 : Int32))) (by decide)) hc_18
    · have _ := c_3
      have i_f_5 : Rg (1) (2) ((x6 &&& (2 : Int32))) := rg_nlo c_3 (rg_and (rg_b rfl : Rg (2) (2) ((2 : Int32))) (by decide) : Rg (0) (2) ((x6 &&& (2 : Int32)))) (rg_b rfl : Rg (0) (0) (0 : Int32))
      exact zX15_leadBy_156 hF @hk_18 (pmA_s hA rfl) o_x1 T r_x0 r_x1 i_x2 i_x3 i_x4 i_x5 i_x6 i_x7 i_x8 i_x9 (rg_m i_f_2 (by decide)) i_t0 (rg_m (rg_b rfl : Rg (0) (0) ((0 : Int32))) (by decide)) hc_18
  · have _ := c_1
    have i_f_6 : Rg (1) (24) (x10) := rg_lt2 (nle_lt c_1) (rg_b rfl : Rg (0) (0) (0 : Int32)) i_x10
    refine s_pu (fun o_3z e_7 => ?_)
    try dsimp only
    have i_o_3z : Rg (0) (1) (o_3z) := by rw [e_7]; exact (rg_and (rg_b rfl : Rg (1) (1) ((1 : Int32))) (by decide) : Rg (0) (1) ((x10 - (1 : Int32)) &&& (1 : Int32)))
    refine s_br (fun c_8 => ?_) (fun c_8 => ?_)
    · have _ := c_8
      exact zX15_leadBy_156 hF @hk_18 (pmA_s hA rfl) o_x1 T r_x0 r_x1 i_x2 i_x3 i_x4 i_x5 i_x6 i_x7 i_x8 i_x9 (rg_m i_f_6 (by decide)) i_t0 (rg_m (rg_b rfl : Rg (0) (0) ((0 : Int32))) (by decide)) hc_18
    · have _ := c_8
      refine s_br (fun c_9 => ?_) (fun c_9 => ?_)
      · have _ := c_9
        have i_f_10 : Rg (0) (0) ((x6 &&& (1 : Int32))) := rg_eq c_9 (rg_b rfl : Rg (0) (0) (0 : Int32))
        exact zX15_leadBy_156 hF @hk_18 (pmA_s hA rfl) o_x1 T r_x0 r_x1 i_x2 i_x3 i_x4 i_x5 i_x6 i_x7 i_x8 i_x9 (rg_m i_f_6 (by decide)) i_t0 (rg_m (rg_b rfl : Rg (1) (1) ((1 : Int32))) (by decide)) hc_18
      · have _ := c_9
        have i_f_11 : Rg (1) (1) ((x6 &&& (1 : Int32))) := rg_nlo c_9 (rg_and (rg_b rfl : Rg (1) (1) ((1 : Int32))) (by decide) : Rg (0) (1) ((x6 &&& (1 : Int32)))) (rg_b rfl : Rg (0) (0) (0 : Int32))
        exact zX15_leadBy_156 hF @hk_18 (pmA_s hA rfl) o_x1 T r_x0 r_x1 i_x2 i_x3 i_x4 i_x5 i_x6 i_x7 i_x8 i_x9 (rg_m i_f_6 (by decide)) i_t0 (rg_m (rg_b rfl : Rg (0) (0) ((0 : Int32))) (by decide)) hc_18
set_option maxRecDepth 20000 in
theorem zX15_leadBy_18 {ρ : Nat → Nat} {c : Cm} {F : Nat} {w_x1 : Nat} (hF : 700000 ≤ F) (hA : pmA c [(87, 999), (88, 999), (89, 999)]) : ∀ (f : Nat) {h : Hp} {x0 : Nat} {x1 : Nat} {x2 : Int32} {x3 : Int32} {x4 : Int32} {x5 : Int32} {x6 : Int32} {x7 : Int32} {x8 : Int32}, cw c x1 = w_x1 → TH ρ c h → ρ x0 = 16 → ρ x1 = 13 → Rg (0) (63) (x2) → Rg (0) (1) (x3) → Rg (0) (95) (x4) → Rg (0) (1) (x5) → Rg (0) (63) (x6) → Rg (0) (2) (x7) → Rg (1) (8) (x8) → (8 - x8.toInt).toNat < f → Sat (sX15_leadBy_18 F f h x0 x1 x2 x3 x4 x5 x6 x7 x8) (ZV ρ c) := by
  intro f
  induction f with
  | zero => intros; omega
  | succ f ih =>
    intro h x0 x1 x2 x3 x4 x5 x6 x7 x8 o_x1 T r_x0 r_x1 i_x2 i_x3 i_x4 i_x5 i_x6 i_x7 i_x8 hm
    rw [sX15_leadBy_18]
    unfold sX15_leadBy_216 sX15_leadBy_112
    obtain ⟨C_18, hC_18⟩ : ∃ C : Int, C = x8.toInt := ⟨_, rfl⟩
    have hk_18 : ∀ {h : Hp} {x0 : Nat} {x1 : Nat} {x2 : Int32} {x3 : Int32} {x4 : Int32} {x5 : Int32} {x6 : Int32} {x7 : Int32} {x8 : Int32}, cw c x1 = w_x1 → TH ρ c h → ρ x0 = 16 → ρ x1 = 13 → Rg (0) (63) (x2) → Rg (0) (1) (x3) → Rg (0) (95) (x4) → Rg (0) (1) (x5) → Rg (0) (63) (x6) → Rg (0) (2) (x7) → Rg (1) (8) (x8) → C_18 < x8.toInt → Sat (sX15_leadBy_18 F f h x0 x1 x2 x3 x4 x5 x6 x7 x8) (ZV ρ c) := by
      intro h' x0' x1' x2' x3' x4' x5' x6' x7' x8' o_x1' T' r_x0' r_x1' i_x2' i_x3' i_x4' i_x5' i_x6' i_x7' i_x8' hl
      exact ih o_x1' T' r_x0' r_x1' i_x2' i_x3' i_x4' i_x5' i_x6' i_x7' i_x8' (by have := i_x8'.1; have := i_x8'.2; omega)
    have hc_18 : C_18 ≤ x8.toInt := by omega
    obtain ⟨r_1, e_r_1, q_r_1⟩ := thR T r_x0 (k := 16) (i := 4) (k2 := 15) rfl (by decide)
    refine s_ref e_r_1 ?_
    obtain ⟨r_2, e_r_2, q_r_2⟩ := thR T q_r_1 (k := 15) (i := 8) (k2 := 78) rfl (by decide)
    refine s_ref e_r_2 ?_
    refine s_gd (by rw [thN T q_r_2 (k := 78) (n := 96) rfl (by decide)]; exact rg_inB i_x4 (by decide)) ?_
    refine s_br (fun c_1 => ?_) (fun c_1 => ?_)
    · have _ := c_1
      exact s_some (T)
    · have _ := c_1
      have i_f_2 : Rg (1) (7) (x8) := rg_le1 (nlt_le c_1) i_x8 (thI T q_r_2 (k := 78) rfl : Rg (0) (7) ((hI h r_2 x4.toNatClampNeg)))
      have i_f_3 : Rg (1) (7) ((hI h r_2 x4.toNatClampNeg)) := rg_le2 (nlt_le c_1) i_x8 (thI T q_r_2 (k := 78) rfl : Rg (0) (7) ((hI h r_2 x4.toNatClampNeg)))
      refine s_br (fun c_4 => ?_) (fun c_4 => ?_)
      · have _ := c_4
        have i_f_5 : Rg (2) (2) (x7) := rg_le2 c_4 (rg_b rfl : Rg (2) (2) ((2 : Int32))) i_x7
        exact s_some (T)
      · have _ := c_4
        have i_f_6 : Rg (0) (1) (x7) := rg_lt1 (nle_lt c_4) i_x7 (rg_b rfl : Rg (2) (2) ((2 : Int32)))
        refine s_cI0 (zX15_onward hF T r_x0 i_x2 (rg_m i_f_2 (by decide))) (fun o_6 e_o_6 i_o_6 => ?_)
        have T_7 := th_eq e_o_6 T
        refine s_br (fun c_8 => ?_) (fun c_8 => ?_)
        · have _ := c_8
          have i_f_9 : Rg (-1) (-1) (o_6.1) := rg_eq c_8 (rg_b rfl : Rg (-1) (-1) ((- 1 : Int32)))
          exact s_some (T_7)
        · have _ := c_8
          have i_f_10 : Rg (0) (63) (o_6.1) := rg_nlo c_8 i_o_6 (rg_b rfl : Rg (-1) (-1) ((- 1 : Int32)))
          obtain ⟨r_8, e_r_8, q_r_8⟩ := thR T_7 r_x1 (k := 13) (i := 0) (k2 := 62) rfl (by decide)
          refine s_ref e_r_8 ?_
          refine s_gd (by rw [thN T_7 q_r_8 (k := 62) (n := 64) rfl (by decide)]; exact rg_inB i_f_10 (by decide)) ?_
          refine s_q (fun v_10 e_11 => ?_)
          have i_v_10 : Rg (0) (24) (v_10) := by rw [e_11]; exact (thI T_7 q_r_8 (k := 62) rfl : Rg (0) (24) (hI o_6.2 r_8 o_6.1.toNatClampNeg))
          refine s_cI0 (zX15_isFree hF T_7 i_x6 i_f_6) (fun o_11 e_o_11 i_o_11 => ?_)
          have T_12 := th_eq e_o_11 T_7
          refine s_br (fun c_13 => ?_) (fun c_13 => ?_)
          · have _ := c_13
            have i_f_14 : Rg (0) (0) (o_11.1) := rg_eq c_13 (rg_b rfl : Rg (0) (0) (0 : Int32))
            exact zX15_leadBy_195 hF @hk_18 o_x1 T_12 r_x0 r_x1 i_x2 i_x3 i_x4 i_x5 i_x6 i_f_6 i_f_2 i_v_10 hc_18
          · have _ := c_13
            have i_f_15 : Rg (1) (1) (o_11.1) := rg_nlo c_13 i_o_11 (rg_b rfl : Rg (0) (0) (0 : Int32))
            obtain ⟨r_13, e_r_13, q_r_13⟩ := thR T_12 r_x0 (k := 16) (i := 25) (k2 := 87) rfl (by decide)
            refine s_ref e_r_13 ?_
            refine s_gd (by rw [thN T_12 q_r_13 (k := 87) (n := 64) rfl (by decide)]; exact rg_inB i_f_10 (by decide)) ?_
            refine s_br (fun c_16 => ?_) (fun c_16 => ?_)
            · have _ := c_16
              have i_f_17 : Rg (-1) (-1) ((hI o_11.2 r_13 o_6.1.toNatClampNeg)) := rg_eq c_16 (rg_b rfl : Rg (-1) (-1) ((- 1 : Int32)))
              refine s_br (fun c_18 => ?_) (fun c_18 => ?_)
              · have _ := c_18
                have i_f_19 : Rg (0) (0) (x5) := rg_eq c_18 (rg_b rfl : Rg (0) (0) (0 : Int32))
                exact zX15_leadBy_113 hF @hk_18 (pmA_s hA rfl) o_x1 T_12 r_x0 r_x1 i_x2 i_x3 i_x4 (rg_m i_f_19 (by decide)) i_x6 i_f_6 i_f_2 i_f_10 i_v_10 (rg_m (rg_b rfl : Rg (0) (0) ((0 : Int32))) (by decide)) hc_18
              · have _ := c_18
                have i_f_20 : Rg (1) (1) (x5) := rg_nlo c_18 i_x5 (rg_b rfl : Rg (0) (0) (0 : Int32))
                refine s_br (fun c_21 => ?_) (fun c_21 => ?_)
                · have _ := c_21
                  have i_f_22 : Rg (0) (0) ((x6 &&& (32 : Int32))) := rg_eq c_21 (rg_b rfl : Rg (0) (0) (0 : Int32))
                  exact zX15_leadBy_113 hF @hk_18 (pmA_s hA rfl) o_x1 T_12 r_x0 r_x1 i_x2 i_x3 i_x4 (rg_m i_f_20 (by decide)) i_x6 i_f_6 i_f_2 i_f_10 i_v_10 (rg_m (rg_b rfl : Rg (0) (0) ((0 : Int32))) (by decide)) hc_18
                · have _ := c_21
                  have i_f_23 : Rg (1) (32) ((x6 &&& (32 : Int32))) := rg_nlo c_21 (rg_and (rg_b rfl : Rg (32) (32) ((32 : Int32))) (by decide) : Rg (0) (32) ((x6 &&& (32 : Int32)))) (rg_b rfl : Rg (0) (0) (0 : Int32))
                  refine s_cI0 (zX15_isGoneOver hF T_12 r_x0 r_x1 i_f_10) (fun o_18 e_o_18 i_o_18 => ?_)
                  have T_24 := th_eq e_o_18 T_12
                  refine s_br (fun c_25 => ?_) (fun c_25 => ?_)
                  · have _ := c_25
                    have i_f_26 : Rg (0) (0) (o_18.1) := rg_eq c_25 (rg_b rfl : Rg (0) (0) (0 : Int32))
                    exact zX15_leadBy_113 hF @hk_18 (pmA_s hA rfl) o_x1 T_24 r_x0 r_x1 i_x2 i_x3 i_x4 (rg_m i_f_20 (by decide)) i_x6 i_f_6 i_f_2 i_f_10 i_v_10 (rg_m (rg_b rfl : Rg (0) (0) ((0 : Int32))) (by decide)) hc_18
                  · have _ := c_25
                    have i_f_27 : Rg (1) (1) (o_18.1) := rg_nlo c_25 i_o_18 (rg_b rfl : Rg (0) (0) (0 : Int32))
                    exact zX15_leadBy_113 hF @hk_18 (pmA_s hA rfl) o_x1 T_24 r_x0 r_x1 i_x2 i_x3 i_x4 (rg_m i_f_20 (by decide)) i_x6 i_f_6 i_f_2 i_f_10 i_v_10 (rg_m (rg_b rfl : Rg (1) (1) ((1 : Int32))) (by decide)) hc_18
            · have _ := c_16
              have i_f_28 : Rg (0) (95) ((hI o_11.2 r_13 o_6.1.toNatClampNeg)) := rg_nlo c_16 (thI T_12 q_r_13 (k := 87) rfl : Rg (-1) (95) ((hI o_11.2 r_13 o_6.1.toNatClampNeg))) (rg_b rfl : Rg (-1) (-1) ((- 1 : Int32)))
              exact zX15_leadBy_195 hF @hk_18 o_x1 T_12 r_x0 r_x1 i_x2 i_x3 i_x4 i_x5 i_x6 i_f_6 i_f_2 i_v_10 hc_18
set_option maxRecDepth 20000 in
theorem zX15_leadBy {ρ : Nat → Nat} {c : Cm} {F : Nat} {w_x1 : Nat} (hF : 700000 ≤ F) (hA : pmA c [(87, 999), (88, 999), (89, 999)]) {h : Hp} {x0 : Nat} {x1 : Nat} {x2 : Int32} {x3 : Int32} {x4 : Int32} {x5 : Int32} (o_x1 : cw c x1 = w_x1) (T : TH ρ c h) (r_x0 : ρ x0 = 16) (r_x1 : ρ x1 = 13) (i_x2 : Rg (0) (63) (x2)) (i_x3 : Rg (0) (1) (x3)) (i_x4 : Rg (0) (95) (x4)) (i_x5 : Rg (0) (1) (x5)) : Sat (sX15_leadBy F h x0 x1 x2 x3 x4 x5) (ZV ρ c) := by
  unfold sX15_leadBy 
  obtain ⟨r_1, e_r_1, q_r_1⟩ := thR T r_x0 (k := 16) (i := 4) (k2 := 15) rfl (by decide)
  refine s_ref e_r_1 ?_
  obtain ⟨r_2, e_r_2, q_r_2⟩ := thR T q_r_1 (k := 15) (i := 5) (k2 := 75) rfl (by decide)
  refine s_ref e_r_2 ?_
  refine s_gd (by rw [thN T q_r_2 (k := 75) (n := 96) rfl (by decide)]; exact rg_inB i_x4 (by decide)) ?_
  refine s_q (fun v_4 e_1 => ?_)
  have i_v_4 : Rg (0) (63) (v_4) := by rw [e_1]; exact (thI T q_r_2 (k := 75) rfl : Rg (0) (63) (hI h r_2 x4.toNatClampNeg))
  have m_2 : Rg (1) (8) ((1 : Int32)) := (rg_m (rg_b rfl : Rg (1) (1) ((1 : Int32))) (by decide))
  exact zX15_leadBy_18 hF (pmA_s hA rfl) F o_x1 T r_x0 r_x1 i_x2 i_x3 i_x4 i_x5 i_v_4 (rg_m (rg_b rfl : Rg (0) (0) ((0 : Int32))) (by decide)) (rg_m (rg_b rfl : Rg (1) (1) ((1 : Int32))) (by decide)) (by have := m_2.1; have := m_2.2; omega)
set_option maxRecDepth 20000 in
theorem zX15_lead_78 {ρ : Nat → Nat} {c : Cm} {F : Nat} {w_x1 : Nat} (hF : 700000 ≤ F) {k_44 : Hp → Nat → Nat → Int32 → Int32 → Int32 → Int32 → Int32 → Option (Hp)} {C_44 : Int} (hk_44 : ∀ {h : Hp} {x0 : Nat} {x1 : Nat} {x2 : Int32} {x3 : Int32} {x4 : Int32} {x5 : Int32} {x6 : Int32}, cw c x1 = w_x1 → TH ρ c h → ρ x0 = 16 → ρ x1 = 13 → Rg (0) (63) (x2) → Rg (0) (1) (x3) → Rg (1) (24) (x4) → Rg (0) (1) (x5) → Rg (0) (8) (x6) → C_44 < x6.toInt → Sat (k_44 h x0 x1 x2 x3 x4 x5 x6) (ZV ρ c)) (hA : pmA c [(87, 999), (88, 999), (89, 999), (16, 23), (16, 24)]) : ∀ (f : Nat) {h : Hp} {x0 : Nat} {x1 : Nat} {x2 : Int32} {x3 : Int32} {x4 : Int32} {x5 : Int32} {x6 : Int32} {x7 : Int32} {x8 : Int32}, cw c x1 = w_x1 → TH ρ c h → ρ x0 = 16 → ρ x1 = 13 → Rg (0) (63) (x2) → Rg (0) (1) (x3) → Rg (1) (24) (x4) → Rg (0) (1) (x5) → Rg (0) (7) (x6) → Rg (0) (95) (x7) → Rg (0) (8) (x8) → C_44 ≤ x6.toInt → (8 - x8.toInt).toNat < f → Sat (sX15_lead_78 F k_44 f h x0 x1 x2 x3 x4 x5 x6 x7 x8) (ZV ρ c) := by
  intro f
  induction f with
  | zero => intros; omega
  | succ f ih =>
    intro h x0 x1 x2 x3 x4 x5 x6 x7 x8 o_x1 T r_x0 r_x1 i_x2 i_x3 i_x4 i_x5 i_x6 i_x7 i_x8 hc_44 hm
    rw [sX15_lead_78]
    unfold sX15_lead_127 sX15_lead_121
    obtain ⟨C_78, hC_78⟩ : ∃ C : Int, C = x8.toInt := ⟨_, rfl⟩
    have hk_78 : ∀ {h : Hp} {x0 : Nat} {x1 : Nat} {x2 : Int32} {x3 : Int32} {x4 : Int32} {x5 : Int32} {x6 : Int32} {x7 : Int32} {x8 : Int32}, cw c x1 = w_x1 → TH ρ c h → ρ x0 = 16 → ρ x1 = 13 → Rg (0) (63) (x2) → Rg (0) (1) (x3) → Rg (1) (24) (x4) → Rg (0) (1) (x5) → Rg (0) (7) (x6) → Rg (0) (95) (x7) → Rg (0) (8) (x8) → C_44 ≤ x6.toInt → C_78 < x8.toInt → Sat (sX15_lead_78 F k_44 f h x0 x1 x2 x3 x4 x5 x6 x7 x8) (ZV ρ c) := by
      intro h' x0' x1' x2' x3' x4' x5' x6' x7' x8' o_x1' T' r_x0' r_x1' i_x2' i_x3' i_x4' i_x5' i_x6' i_x7' i_x8' hc_44' hl
      exact ih o_x1' T' r_x0' r_x1' i_x2' i_x3' i_x4' i_x5' i_x6' i_x7' i_x8' hc_44' (by have := i_x8'.1; have := i_x8'.2; omega)
    have hc_78 : C_78 ≤ x8.toInt := by omega
    refine s_br (fun c_1 => ?_) (fun c_1 => ?_)
    · have _ := c_1
      have i_f_2 : Rg (8) (8) (x8) := rg_le2 c_1 (rg_b rfl : Rg (8) (8) ((8 : Int32))) i_x8
      refine s_q (fun v_1q1 e_3 => ?_)
      have i_v_1q1 : Rg (1) (8) (v_1q1) := by rw [e_3]; exact (rg_add i_x6 (rg_b rfl : Rg (1) (1) ((1 : Int32))) (by decide) : Rg (1) (8) (x6 + (1 : Int32)))
      have m_4 : (v_1q1).toInt = x6.toInt + 1 := by rw [e_3]; exact rg_inc i_x6 (by decide)
      exact hk_44 o_x1 T r_x0 r_x1 i_x2 i_x3 i_x4 i_x5 (rg_m i_v_1q1 (by decide)) (by have := hc_44; omega)
    · have _ := c_1
      have i_f_5 : Rg (0) (7) (x8) := rg_lt1 (nle_lt c_1) i_x8 (rg_b rfl : Rg (8) (8) ((8 : Int32)))
      refine s_cI0 (zX15_isFrom hF T r_x0 i_x7 i_x2 i_x5) (fun o_2 e_o_2 i_o_2 => ?_)
      have T_6 := th_eq e_o_2 T
      refine s_br (fun c_7 => ?_) (fun c_7 => ?_)
      · have _ := c_7
        have i_f_8 : Rg (0) (0) (o_2.1) := rg_eq c_7 (rg_b rfl : Rg (0) (0) (0 : Int32))
        refine s_q (fun v_1q2 e_9 => ?_)
        have i_v_1q2 : Rg (1) (8) (v_1q2) := by rw [e_9]; exact (rg_add i_x6 (rg_b rfl : Rg (1) (1) ((1 : Int32))) (by decide) : Rg (1) (8) (x6 + (1 : Int32)))
        have m_10 : (v_1q2).toInt = x6.toInt + 1 := by rw [e_9]; exact rg_inc i_x6 (by decide)
        exact hk_44 o_x1 T_6 r_x0 r_x1 i_x2 i_x3 i_x4 i_x5 (rg_m i_v_1q2 (by decide)) (by have := hc_44; omega)
      · have _ := c_7
        have i_f_11 : Rg (1) (1) (o_2.1) := rg_nlo c_7 i_o_2 (rg_b rfl : Rg (0) (0) (0 : Int32))
        refine s_cI (zX15_hasVector hF (pmA_s hA rfl) T_6 r_x0 i_x7 i_f_5 i_x5) (fun o_4 T_12 i_o_4 => ?_)
        refine s_br (fun c_13 => ?_) (fun c_13 => ?_)
        · have _ := c_13
          have i_f_14 : Rg (0) (0) (o_4.1) := rg_eq c_13 (rg_b rfl : Rg (0) (0) (0 : Int32))
          refine s_q (fun v_1q3 e_15 => ?_)
          have i_v_1q3 : Rg (1) (8) (v_1q3) := by rw [e_15]; exact (rg_add i_f_5 (rg_b rfl : Rg (1) (1) ((1 : Int32))) (by decide) : Rg (1) (8) (x8 + (1 : Int32)))
          have m_16 : (v_1q3).toInt = x8.toInt + 1 := by rw [e_15]; exact rg_inc i_f_5 (by decide)
          exact hk_78 o_x1 T_12 r_x0 r_x1 i_x2 i_x3 i_x4 i_x5 i_x6 i_x7 (rg_m i_v_1q3 (by decide)) hc_44 (by have := hc_78; omega)
        · have _ := c_13
          have i_f_17 : Rg (1) (1) (o_4.1) := rg_nlo c_13 i_o_4 (rg_b rfl : Rg (0) (0) (0 : Int32))
          refine s_cV (zX15_leadBy hF (pmA_s hA rfl) o_x1 T_12 r_x0 r_x1 i_x2 i_x5 i_x7 i_x3) (fun o_6 T_18 => ?_)
          refine s_q (fun v_1q4 e_19 => ?_)
          have i_v_1q4 : Rg (1) (8) (v_1q4) := by rw [e_19]; exact (rg_add i_f_5 (rg_b rfl : Rg (1) (1) ((1 : Int32))) (by decide) : Rg (1) (8) (x8 + (1 : Int32)))
          have m_20 : (v_1q4).toInt = x8.toInt + 1 := by rw [e_19]; exact rg_inc i_f_5 (by decide)
          exact hk_78 o_x1 T_18 r_x0 r_x1 i_x2 i_x3 i_x4 i_x5 i_x6 i_x7 (rg_m i_v_1q4 (by decide)) hc_44 (by have := hc_78; omega)
set_option maxRecDepth 20000 in
theorem zX15_lead_44 {ρ : Nat → Nat} {c : Cm} {F : Nat} {w_x1 : Nat} (hF : 700000 ≤ F) (hA : pmA c [(87, 999), (88, 999), (89, 999), (16, 23), (16, 24)]) : ∀ (f : Nat) {h : Hp} {x0 : Nat} {x1 : Nat} {x2 : Int32} {x3 : Int32} {x4 : Int32} {x5 : Int32} {x6 : Int32}, cw c x1 = w_x1 → TH ρ c h → ρ x0 = 16 → ρ x1 = 13 → Rg (0) (63) (x2) → Rg (0) (1) (x3) → Rg (1) (24) (x4) → Rg (0) (1) (x5) → Rg (0) (8) (x6) → (8 - x6.toInt).toNat < f → Sat (sX15_lead_44 F f h x0 x1 x2 x3 x4 x5 x6) (ZV ρ c) := by
  intro f
  induction f with
  | zero => intros; omega
  | succ f ih =>
    intro h x0 x1 x2 x3 x4 x5 x6 o_x1 T r_x0 r_x1 i_x2 i_x3 i_x4 i_x5 i_x6 hm
    rw [sX15_lead_44]
    unfold sX15_manOf
    obtain ⟨C_44, hC_44⟩ : ∃ C : Int, C = x6.toInt := ⟨_, rfl⟩
    have hk_44 : ∀ {h : Hp} {x0 : Nat} {x1 : Nat} {x2 : Int32} {x3 : Int32} {x4 : Int32} {x5 : Int32} {x6 : Int32}, cw c x1 = w_x1 → TH ρ c h → ρ x0 = 16 → ρ x1 = 13 → Rg (0) (63) (x2) → Rg (0) (1) (x3) → Rg (1) (24) (x4) → Rg (0) (1) (x5) → Rg (0) (8) (x6) → C_44 < x6.toInt → Sat (sX15_lead_44 F f h x0 x1 x2 x3 x4 x5 x6) (ZV ρ c) := by
      intro h' x0' x1' x2' x3' x4' x5' x6' o_x1' T' r_x0' r_x1' i_x2' i_x3' i_x4' i_x5' i_x6' hl
      exact ih o_x1' T' r_x0' r_x1' i_x2' i_x3' i_x4' i_x5' i_x6' (by have := i_x6'.1; have := i_x6'.2; omega)
    have hc_44 : C_44 ≤ x6.toInt := by omega
    obtain ⟨r_1, e_r_1, q_r_1⟩ := thR T r_x0 (k := 16) (i := 4) (k2 := 15) rfl (by decide)
    refine s_ref e_r_1 ?_
    obtain ⟨r_2, e_r_2, q_r_2⟩ := thR T q_r_1 (k := 15) (i := 4) (k2 := 74) rfl (by decide)
    refine s_ref e_r_2 ?_
    refine s_pu (fun o_3z e_1 => ?_)
    try dsimp only
    have i_o_3z : Rg (0) (11) (o_3z) := by rw [e_1]; exact (rg_shrk 1 (by decide) (rg_sub i_x4 (rg_b rfl : Rg (1) (1) ((1 : Int32))) (by decide) : Rg (0) (23) ((x4 - (1 : Int32)))) (by decide) : Rg (0) (11) ((x4 - (1 : Int32)) >>> ((1 : Int32) &&& 31)))
    refine s_gd (by rw [thN T q_r_2 (k := 74) (n := 12) rfl (by decide)]; exact rg_inB i_o_3z (by decide)) ?_
    refine s_br (fun c_2 => ?_) (fun c_2 => ?_)
    · have _ := c_2
      exact s_some (T)
    · have _ := c_2
      have i_f_3 : Rg (0) (7) (x6) := rg_lt1 (nle_lt c_2) i_x6 (thI T q_r_2 (k := 74) rfl : Rg (0) (8) ((hI h r_2 o_3z.toNatClampNeg)))
      have i_f_4 : Rg (1) (8) ((hI h r_2 o_3z.toNatClampNeg)) := rg_lt2 (nle_lt c_2) i_x6 (thI T q_r_2 (k := 74) rfl : Rg (0) (8) ((hI h r_2 o_3z.toNatClampNeg)))
      refine s_pu (fun o_6z e_5 => ?_)
      try dsimp only
      have i_o_6z : Rg (0) (11) (o_6z) := by rw [e_5]; exact (rg_shrk 1 (by decide) (rg_sub i_x4 (rg_b rfl : Rg (1) (1) ((1 : Int32))) (by decide) : Rg (0) (23) ((x4 - (1 : Int32)))) (by decide) : Rg (0) (11) ((x4 - (1 : Int32)) >>> ((1 : Int32) &&& 31)))
      refine s_q (fun v_7 e_6 => ?_)
      have i_v_7 : Rg (0) (95) (v_7) := by rw [e_6]; exact (rg_add (rg_mulc' (rg_b rfl : Rg (8) (8) ((8 : Int32))) i_o_6z (by decide) : Rg (0) (88) (((8 : Int32) * o_6z))) i_f_3 (by decide) : Rg (0) (95) (((8 : Int32) * o_6z) + x6))
      have m_7 : Rg (0) (8) ((0 : Int32)) := (rg_m (rg_b rfl : Rg (0) (0) ((0 : Int32))) (by decide))
      exact zX15_lead_78 hF @hk_44 (pmA_s hA rfl) F o_x1 T r_x0 r_x1 i_x2 i_x3 i_x4 i_x5 i_f_3 i_v_7 (rg_m (rg_b rfl : Rg (0) (0) ((0 : Int32))) (by decide)) hc_44 (by have := m_7.1; have := m_7.2; omega)
set_option maxRecDepth 20000 in
theorem zX15_lead_18 {ρ : Nat → Nat} {c : Cm} {F : Nat} {w_x1 : Nat} (hF : 700000 ≤ F) (hA : pmA c [(87, 999), (88, 999), (89, 999), (16, 23), (16, 24)]) : ∀ (f : Nat) {h : Hp} {x0 : Nat} {x1 : Nat} {x2 : Int32} {x3 : Int32} {x4 : Int32} {x5 : Int32} {x6 : Int32}, cw c x1 = w_x1 → TH ρ c h → ρ x0 = 16 → ρ x1 = 13 → Rg (0) (63) (x2) → Rg (0) (1) (x3) → Rg (1) (24) (x4) → Rg (0) (1) (x5) → Rg (0) (64) (x6) → (64 - x6.toInt).toNat < f → Sat (sX15_lead_18 F f h x0 x1 x2 x3 x4 x5 x6) (ZV ρ c) := by
  intro f
  induction f with
  | zero => intros; omega
  | succ f ih =>
    intro h x0 x1 x2 x3 x4 x5 x6 o_x1 T r_x0 r_x1 i_x2 i_x3 i_x4 i_x5 i_x6 hm
    rw [sX15_lead_18]
    obtain ⟨C_18, hC_18⟩ : ∃ C : Int, C = x6.toInt := ⟨_, rfl⟩
    have hk_18 : ∀ {h : Hp} {x0 : Nat} {x1 : Nat} {x2 : Int32} {x3 : Int32} {x4 : Int32} {x5 : Int32} {x6 : Int32}, cw c x1 = w_x1 → TH ρ c h → ρ x0 = 16 → ρ x1 = 13 → Rg (0) (63) (x2) → Rg (0) (1) (x3) → Rg (1) (24) (x4) → Rg (0) (1) (x5) → Rg (0) (64) (x6) → C_18 < x6.toInt → Sat (sX15_lead_18 F f h x0 x1 x2 x3 x4 x5 x6) (ZV ρ c) := by
      intro h' x0' x1' x2' x3' x4' x5' x6' o_x1' T' r_x0' r_x1' i_x2' i_x3' i_x4' i_x5' i_x6' hl
      exact ih o_x1' T' r_x0' r_x1' i_x2' i_x3' i_x4' i_x5' i_x6' (by have := i_x6'.1; have := i_x6'.2; omega)
    have hc_18 : C_18 ≤ x6.toInt := by omega
    refine s_br (fun c_1 => ?_) (fun c_1 => ?_)
    · have _ := c_1
      have i_f_2 : Rg (9) (64) (x6) := rg_le2 c_1 (thI T r_x0 (k := 16) (i := 13) rfl : Rg (9) (64) ((hI h x0 13))) i_x6
      have m_3 : Rg (0) (8) ((0 : Int32)) := (rg_m (rg_b rfl : Rg (0) (0) ((0 : Int32))) (by decide))
      exact zX15_lead_44 hF (pmA_s hA rfl) F o_x1 T r_x0 r_x1 i_x2 i_x3 i_x4 i_x5 (rg_m (rg_b rfl : Rg (0) (0) ((0 : Int32))) (by decide)) (by have := m_3.1; have := m_3.2; omega)
    · have _ := c_1
      have i_f_4 : Rg (0) (63) (x6) := rg_lt1 (nle_lt c_1) i_x6 (thI T r_x0 (k := 16) (i := 13) rfl : Rg (9) (64) ((hI h x0 13)))
      obtain ⟨r_2, e_r_2, q_r_2⟩ := thR T r_x0 (k := 16) (i := 25) (k2 := 87) rfl (by decide)
      refine s_ref e_r_2 ?_
      refine s_gd (by rw [thN T q_r_2 (k := 87) (n := 64) rfl (by decide)]; exact rg_inB i_f_4 (by decide)) ?_
      refine s_hq (th_wI T q_r_2 (k := 87) (lo := (-1)) (hi := (95)) rfl ((rg_m (rg_b rfl : Rg (-1) (-1) ((- 1 : Int32))) (by decide)) : Rg (-1) (95) ((- 1 : Int32))) (by decide) (by decide) (pm_a hA rfl)) (fun h_4 T_5 w_6 => ?_)
      refine s_q (fun v_5 e_7 => ?_)
      have i_v_5 : Rg (1) (64) (v_5) := by rw [e_7]; exact (rg_add i_f_4 (rg_b rfl : Rg (1) (1) ((1 : Int32))) (by decide) : Rg (1) (64) (x6 + (1 : Int32)))
      have m_8 : (v_5).toInt = x6.toInt + 1 := by rw [e_7]; exact rg_inc i_f_4 (by decide)
      exact hk_18 o_x1 T_5 r_x0 r_x1 i_x2 i_x3 i_x4 i_x5 (rg_m i_v_5 (by decide)) (by have := hc_18; omega)
set_option maxRecDepth 20000 in
theorem zX15_lead {ρ : Nat → Nat} {c : Cm} {F : Nat} {w_x1 : Nat} (hF : 700000 ≤ F) (hA : pmA c [(87, 999), (88, 999), (89, 999), (16, 23), (16, 24)]) {h : Hp} {x0 : Nat} {x1 : Nat} {x2 : Int32} {x3 : Int32} (o_x1 : cw c x1 = w_x1) (T : TH ρ c h) (r_x0 : ρ x0 = 16) (r_x1 : ρ x1 = 13) (i_x2 : Rg (0) (63) (x2)) (i_x3 : Rg (0) (1) (x3)) (ph0 : ∀ r, hR h x1 0 = some r → Rg (1) (24) (hI h r x2.toNatClampNeg)) : Sat (sX15_lead F h x0 x1 x2 x3) (ZV ρ c) := by
  unfold sX15_lead sX15_sideOf
  obtain ⟨r_1, e_r_1, q_r_1⟩ := thR T r_x1 (k := 13) (i := 0) (k2 := 62) rfl (by decide)
  refine s_ref e_r_1 ?_
  refine s_gd (by rw [thN T q_r_1 (k := 62) (n := 64) rfl (by decide)]; exact rg_inB i_x2 (by decide)) ?_
  refine s_q (fun v_3 e_1 => ?_)
  have i_v_3 : Rg (1) (24) (v_3) := by rw [e_1]; exact (ph0 r_1 e_r_1)
  refine s_pu (fun o_4z e_2 => ?_)
  try dsimp only
  have i_o_4z : Rg (0) (1) (o_4z) := by rw [e_2]; exact (rg_and (rg_b rfl : Rg (1) (1) ((1 : Int32))) (by decide) : Rg (0) (1) ((v_3 - (1 : Int32)) &&& (1 : Int32)))
  have m_3 : Rg (0) (64) ((0 : Int32)) := (rg_m (rg_b rfl : Rg (0) (0) ((0 : Int32))) (by decide))
  exact zX15_lead_18 hF (pmA_s hA rfl) F o_x1 T r_x0 r_x1 i_x2 i_x3 i_v_3 i_o_4z (rg_m (rg_b rfl : Rg (0) (0) ((0 : Int32))) (by decide)) (by have := m_3.1; have := m_3.2; omega)
set_option maxRecDepth 20000 in
theorem zX15_has {ρ : Nat → Nat} {c : Cm} {F : Nat} (hF : 700000 ≤ F) {h : Hp} {x0 : Nat} {x1 : Int32} (T : TH ρ c h) (r_x0 : ρ x0 = 16) (i_x1 : Rg (-2147483648) (2147483647) (x1)) : Sat (sX15_has h x0 x1) (ZP0 h (0) (1) (0) (Rg (0) (59) (x1))) := by
  unfold sX15_has sX15_has_23 sX15_has_24
  refine s_br (fun c_1 => ?_) (fun c_1 => ?_)
  · have _ := c_1
    have i_f_2 : Rg (-2147483648) (-1) (x1) := rg_lt1 c_1 i_x1 (rg_b rfl : Rg (0) (0) (0 : Int32))
    refine s_gd (rg_bool (rg_m (rg_b rfl : Rg (0) (0) ((0 : Int32))) (by decide))) ?_
    exact s_some ⟨rfl, (rg_m (rg_b rfl : Rg (0) (0) ((0 : Int32))) (by decide)), (fun q => absurd (rz_s (rg_b rfl : Rg (0) (0) ((0 : Int32))) (rg_b rfl : Rg (0) (0) (0 : Int32))) q)⟩
  · have _ := c_1
    have i_f_3 : Rg (0) (2147483647) (x1) := rg_le2 (nlt_le c_1) (rg_b rfl : Rg (0) (0) (0 : Int32)) i_x1
    refine s_br (fun c_4 => ?_) (fun c_4 => ?_)
    · have _ := c_4
      have i_f_5 : Rg (60) (2147483647) (x1) := rg_le2 c_4 (rg_b rfl : Rg (60) (60) ((60 : Int32))) i_f_3
      refine s_gd (rg_bool (rg_m (rg_b rfl : Rg (0) (0) ((0 : Int32))) (by decide))) ?_
      exact s_some ⟨rfl, (rg_m (rg_b rfl : Rg (0) (0) ((0 : Int32))) (by decide)), (fun q => absurd (rz_s (rg_b rfl : Rg (0) (0) ((0 : Int32))) (rg_b rfl : Rg (0) (0) (0 : Int32))) q)⟩
    · have _ := c_4
      have i_f_6 : Rg (0) (59) (x1) := rg_lt1 (nle_lt c_4) i_f_3 (rg_b rfl : Rg (60) (60) ((60 : Int32)))
      obtain ⟨r_3, e_r_3, q_r_3⟩ := thR T r_x0 (k := 16) (i := 15) (k2 := 85) rfl (by decide)
      refine s_ref e_r_3 ?_
      refine s_gd (by rw [thN T q_r_3 (k := 85) (n := 60) rfl (by decide)]; exact rg_inB i_f_6 (by decide)) ?_
      refine s_br (fun c_7 => ?_) (fun c_7 => ?_)
      · have _ := c_7
        have i_f_8 : Rg (-2147483648) (0) ((hI h r_3 x1.toNatClampNeg)) := rg_le1 c_7 (thI T q_r_3 (k := 85) rfl : Rg (-2147483648) (2147483647) ((hI h r_3 x1.toNatClampNeg))) (rg_b rfl : Rg (0) (0) (0 : Int32))
        refine s_gd (rg_bool (rg_m (rg_b rfl : Rg (0) (0) ((0 : Int32))) (by decide))) ?_
        exact s_some ⟨rfl, (rg_m (rg_b rfl : Rg (0) (0) ((0 : Int32))) (by decide)), (fun q => absurd (rz_s (rg_b rfl : Rg (0) (0) ((0 : Int32))) (rg_b rfl : Rg (0) (0) (0 : Int32))) q)⟩
      · have _ := c_7
        have i_f_9 : Rg (1) (2147483647) ((hI h r_3 x1.toNatClampNeg)) := rg_lt2 (nle_lt c_7) (rg_b rfl : Rg (0) (0) (0 : Int32)) (thI T q_r_3 (k := 85) rfl : Rg (-2147483648) (2147483647) ((hI h r_3 x1.toNatClampNeg)))
        refine s_gd (rg_bool (rg_m (rg_b rfl : Rg (1) (1) ((1 : Int32))) (by decide))) ?_
        exact s_some ⟨rfl, (rg_m (rg_b rfl : Rg (1) (1) ((1 : Int32))) (by decide)), (fun _ => i_f_6)⟩
set_option maxRecDepth 20000 in
theorem zX15_back {ρ : Nat → Nat} {c : Cm} {F : Nat} (hF : 700000 ≤ F) (hA : pmA c [(94, 999)]) {h : Hp} {x0 : Nat} {x1 : Int32} (T : TH ρ c h) (r_x0 : ρ x0 = 16) (i_x1 : Rg (-2147483648) (2147483647) (x1)) : Sat (sX15_back h x0 x1) (ZI ρ c (-103) (300)) := by
  unfold sX15_back 
  refine s_cP0 (zX15_isGame hF T i_x1) (fun o_1 e_o_1 i_o_1 p_o_1 => ?_)
  have T_1 := th_eq e_o_1 T
  refine s_br (fun c_2 => ?_) (fun c_2 => ?_)
  · have _ := c_2
    have i_f_3 : Rg (0) (0) (o_1.1) := rg_eq c_2 (rg_b rfl : Rg (0) (0) (0 : Int32))
    exact s_some ⟨(T_1), (rg_m (rg_b rfl : Rg (-101) (-101) ((- 101 : Int32))) (by decide))⟩
  · have _ := c_2
    have i_f_4 : Rg (1) (1) (o_1.1) := rg_nlo c_2 i_o_1 (rg_b rfl : Rg (0) (0) (0 : Int32))
    have p_f_5 := p_o_1 c_2
    obtain ⟨r_3, e_r_3, q_r_3⟩ := thR T_1 r_x0 (k := 16) (i := 39) (k2 := 94) rfl (by decide)
    refine s_ref e_r_3 ?_
    refine s_gd (by rw [thN T_1 q_r_3 (k := 94) (n := 8) rfl (by decide)]; exact rg_inB p_f_5 (by decide)) ?_
    refine s_br (fun c_6 => ?_) (fun c_6 => ?_)
    · have _ := c_6
      have i_f_7 : Rg (-1) (-1) ((hI o_1.2 r_3 x1.toNatClampNeg)) := rg_eq c_6 (rg_b rfl : Rg (-1) (-1) ((- 1 : Int32)))
      exact s_some ⟨(T_1), (rg_m (rg_b rfl : Rg (-102) (-102) ((- 102 : Int32))) (by decide))⟩
    · have _ := c_6
      have i_f_8 : Rg (0) (300) ((hI o_1.2 r_3 x1.toNatClampNeg)) := rg_nlo c_6 (thI T_1 q_r_3 (k := 94) rfl : Rg (-1) (300) ((hI o_1.2 r_3 x1.toNatClampNeg))) (rg_b rfl : Rg (-1) (-1) ((- 1 : Int32)))
      refine s_ref e_r_3 ?_
      refine s_gd (by rw [thN T_1 q_r_3 (k := 94) (n := 8) rfl (by decide)]; exact rg_inB p_f_5 (by decide)) ?_
      refine s_br (fun c_9 => ?_) (fun c_9 => ?_)
      · have _ := c_9
        have i_f_10 : Rg (0) (0) ((hI o_1.2 r_3 x1.toNatClampNeg)) := rg_eq c_9 (rg_b rfl : Rg (0) (0) (0 : Int32))
        exact s_some ⟨(T_1), (rg_m (rg_b rfl : Rg (-103) (-103) ((- 103 : Int32))) (by decide))⟩
      · have _ := c_9
        have i_f_11 : Rg (1) (300) ((hI o_1.2 r_3 x1.toNatClampNeg)) := rg_nlo c_9 i_f_8 (rg_b rfl : Rg (0) (0) (0 : Int32))
        refine s_ref e_r_3 ?_
        refine s_gd (by rw [thN T_1 q_r_3 (k := 94) (n := 8) rfl (by decide)]; exact rg_inB p_f_5 (by decide)) ?_
        refine s_gd (by rw [thN T_1 q_r_3 (k := 94) (n := 8) rfl (by decide)]; exact rg_inB p_f_5 (by decide)) ?_
        refine s_hq (th_wI T_1 q_r_3 (k := 94) (lo := (-1)) (hi := (300)) rfl ((rg_m (rg_sub i_f_11 (rg_b rfl : Rg (1) (1) ((1 : Int32))) (by decide) : Rg (0) (299) (((hI o_1.2 r_3 x1.toNatClampNeg) - (1 : Int32)))) (by decide)) : Rg (-1) (300) (((hI o_1.2 r_3 x1.toNatClampNeg) - (1 : Int32)))) (by decide) (by decide) (pm_a hA rfl)) (fun h_12 T_12 w_13 => ?_)
        refine s_ref (hr_w w_13 e_r_3) ?_
        refine s_gd (by rw [thN T_12 q_r_3 (k := 94) (n := 8) rfl (by decide)]; exact rg_inB p_f_5 (by decide)) ?_
        exact s_some ⟨(T_12), (rg_m ((rg_hs w_13 (rg_sub i_f_11 (rg_b rfl : Rg (1) (1) ((1 : Int32))) (by decide) : Rg (0) (299) (((hI o_1.2 r_3 x1.toNatClampNeg) - (1 : Int32))))) : Rg (0) (299) (hI h_12 r_3 x1.toNatClampNeg)) (by decide))⟩
set_option maxRecDepth 20000 in
theorem zX15_letterOf {ρ : Nat → Nat} {c : Cm} {F : Nat} (hF : 700000 ≤ F) {h : Hp} {x0 : Nat} {x1 : Int32} (T : TH ρ c h) (r_x0 : ρ x0 = 16) (i_x1 : Rg (1) (24) (x1)) : Sat (sX15_letterOf h x0 x1) (ZI0 h (-32) (122)) := by
  unfold sX15_letterOf sX15_manOf sX15_sideOf sX15_letterOf_25
  obtain ⟨r_1, e_r_1, q_r_1⟩ := thR T r_x0 (k := 16) (i := 4) (k2 := 15) rfl (by decide)
  refine s_ref e_r_1 ?_
  obtain ⟨r_2, e_r_2, q_r_2⟩ := thR T q_r_1 (k := 15) (i := 3) (k2 := 73) rfl (by decide)
  refine s_ref e_r_2 ?_
  refine s_pu (fun o_3z e_1 => ?_)
  try dsimp only
  have i_o_3z : Rg (0) (11) (o_3z) := by rw [e_1]; exact (rg_shrk 1 (by decide) (rg_sub i_x1 (rg_b rfl : Rg (1) (1) ((1 : Int32))) (by decide) : Rg (0) (23) ((x1 - (1 : Int32)))) (by decide) : Rg (0) (11) ((x1 - (1 : Int32)) >>> ((1 : Int32) &&& 31)))
  refine s_gd (by rw [thN T q_r_2 (k := 73) (n := 12) rfl (by decide)]; exact rg_inB i_o_3z (by decide)) ?_
  refine s_pu (fun o_5z e_2 => ?_)
  try dsimp only
  have i_o_5z : Rg (0) (1) (o_5z) := by rw [e_2]; exact (rg_and (rg_b rfl : Rg (1) (1) ((1 : Int32))) (by decide) : Rg (0) (1) ((x1 - (1 : Int32)) &&& (1 : Int32)))
  refine s_br (fun c_3 => ?_) (fun c_3 => ?_)
  · have _ := c_3
    have i_f_4 : Rg (0) (0) (o_5z) := rg_eq c_3 (rg_b rfl : Rg (0) (0) (0 : Int32))
    exact s_some ⟨rfl, (rg_m (rg_sub (thI T q_r_2 (k := 73) rfl : Rg (0) (122) ((hI h r_2 o_3z.toNatClampNeg))) (rg_b rfl : Rg (32) (32) ((32 : Int32))) (by decide) : Rg (-32) (90) ((hI h r_2 o_3z.toNatClampNeg) - (32 : Int32))) (by decide))⟩
  · have _ := c_3
    have i_f_5 : Rg (1) (1) (o_5z) := rg_nlo c_3 i_o_5z (rg_b rfl : Rg (0) (0) (0 : Int32))
    exact s_some ⟨rfl, (rg_m (rg_sub (thI T q_r_2 (k := 73) rfl : Rg (0) (122) ((hI h r_2 o_3z.toNatClampNeg))) (rg_b rfl : Rg (0) (0) ((0 : Int32))) (by decide) : Rg (0) (122) ((hI h r_2 o_3z.toNatClampNeg) - (0 : Int32))) (by decide))⟩
set_option maxRecDepth 20000 in
theorem zX15_fileOf {ρ : Nat → Nat} {c : Cm} {F : Nat} (hF : 700000 ≤ F) {h : Hp} {x0 : Nat} {x1 : Int32} (T : TH ρ c h) (r_x0 : ρ x0 = 16) (i_x1 : Rg (0) (63) (x1)) : Sat (sX15_fileOf h x0 x1) (ZI0 h (0) (7)) := by
  unfold sX15_fileOf 
  refine s_gd (rg_ne0 (thI T r_x0 (k := 16) (i := 11) rfl : Rg (3) (8) ((hI h x0 11))) (by decide)) ?_
  exact s_some ⟨rfl, (rg_rem i_x1 (thI T r_x0 (k := 16) (i := 11) rfl : Rg (3) (8) ((hI h x0 11))) (by decide) : Rg (0) (7) (x1 - x1 / (hI h x0 11) * (hI h x0 11)))⟩
set_option maxRecDepth 20000 in
theorem zX15_isPassBy_86 {ρ : Nat → Nat} {c : Cm} {h0 : Hp} {F : Nat} (hF : 700000 ≤ F) : ∀ (f : Nat) {h : Hp} {x0 : Nat} {x1 : Nat} {x5 : Int32} {x6 : Int32} {x7 : Int32}, h = h0 → TH ρ c h → ρ x0 = 16 → ρ x1 = 13 → Rg (0) (7) (x5) → Rg (0) (63) (x6) → Rg (1) (7) (x7) → (7 - x7.toInt).toNat < f → Sat (sX15_isPassBy_86 F f h x0 x1 x5 x6 x7) (ZI0 h0 (0) (1)) := by
  intro f
  induction f with
  | zero => intros; omega
  | succ f ih =>
    intro h x0 x1 x5 x6 x7 E T r_x0 r_x1 i_x5 i_x6 i_x7 hm
    rw [sX15_isPassBy_86]
    obtain ⟨C_86, hC_86⟩ : ∃ C : Int, C = x7.toInt := ⟨_, rfl⟩
    have hk_86 : ∀ {h : Hp} {x0 : Nat} {x1 : Nat} {x5 : Int32} {x6 : Int32} {x7 : Int32}, h = h0 → TH ρ c h → ρ x0 = 16 → ρ x1 = 13 → Rg (0) (7) (x5) → Rg (0) (63) (x6) → Rg (1) (7) (x7) → C_86 < x7.toInt → Sat (sX15_isPassBy_86 F f h x0 x1 x5 x6 x7) (ZI0 h0 (0) (1)) := by
      intro h' x0' x1' x5' x6' x7' E' T' r_x0' r_x1' i_x5' i_x6' i_x7' hl
      exact ih E' T' r_x0' r_x1' i_x5' i_x6' i_x7' (by have := i_x7'.1; have := i_x7'.2; omega)
    have hc_86 : C_86 ≤ x7.toInt := by omega
    refine s_br (fun c_1 => ?_) (fun c_1 => ?_)
    · have _ := c_1
      exact s_some ⟨E, (rg_m (rg_b rfl : Rg (1) (1) ((1 : Int32))) (by decide))⟩
    · have _ := c_1
      have i_f_2 : Rg (1) (6) (x7) := rg_lt1 (nle_lt c_1) i_x7 i_x5
      have i_f_3 : Rg (2) (7) (x5) := rg_lt2 (nle_lt c_1) i_x7 i_x5
      refine s_cI0 (zX15_onward hF T r_x0 i_x6 (rg_m i_f_2 (by decide))) (fun o_2 e_o_2 i_o_2 => ?_)
      have T_4 := th_eq e_o_2 T
      obtain ⟨r_3, e_r_3, q_r_3⟩ := thR T_4 r_x1 (k := 13) (i := 4) (k2 := 63) rfl (by decide)
      refine s_ref e_r_3 ?_
      refine s_gd (by rw [thN T_4 q_r_3 (k := 63) (n := 64) rfl (by decide)]; exact rg_inB i_f_2 (by decide)) ?_
      refine s_br (fun c_5 => ?_) (fun c_5 => ?_)
      · have _ := c_5
        have i_f_6 : Rg (0) (63) (o_2.1) := rg_eq c_5 (thI T_4 q_r_3 (k := 63) rfl : Rg (0) (63) ((hI o_2.2 r_3 x7.toNatClampNeg)))
        refine s_q (fun v_6 e_7 => ?_)
        have i_v_6 : Rg (2) (7) (v_6) := by rw [e_7]; exact (rg_add i_f_2 (rg_b rfl : Rg (1) (1) ((1 : Int32))) (by decide) : Rg (2) (7) (x7 + (1 : Int32)))
        have m_8 : (v_6).toInt = x7.toInt + 1 := by rw [e_7]; exact rg_inc i_f_2 (by decide)
        exact hk_86 (e_o_2.trans E) T_4 r_x0 r_x1 (rg_m i_f_3 (by decide)) i_x6 (rg_m i_v_6 (by decide)) (by have := hc_86; omega)
      · have _ := c_5
        exact s_some ⟨(e_o_2.trans E), (rg_m (rg_b rfl : Rg (0) (0) ((0 : Int32))) (by decide))⟩
set_option maxRecDepth 20000 in
theorem zX15_isPassBy {ρ : Nat → Nat} {c : Cm} {F : Nat} (hF : 700000 ≤ F) {h : Hp} {x0 : Nat} {x1 : Nat} {x2 : Int32} {x3 : Int32} {x4 : Int32} (T : TH ρ c h) (r_x0 : ρ x0 = 16) (r_x1 : ρ x1 = 13) (i_x2 : Rg (0) (63) (x2)) (i_x3 : Rg (0) (95) (x3)) (i_x4 : Rg (0) (1) (x4)) : Sat (sX15_isPassBy F h x0 x1 x2 x3 x4) (ZI0 h (0) (1)) := by
  unfold sX15_isPassBy sX15_isPassBy_81 sX15_isPassBy_83
  refine s_q (fun v_1 e_1 => ?_)
  have i_v_1 : Rg (0) (64) (v_1) := by rw [e_1]; exact (thI T r_x1 (k := 13) (i := 3) rfl : Rg (0) (64) (hI h x1 3))
  obtain ⟨r_2, e_r_2, q_r_2⟩ := thR T r_x0 (k := 16) (i := 4) (k2 := 15) rfl (by decide)
  refine s_ref e_r_2 ?_
  obtain ⟨r_3, e_r_3, q_r_3⟩ := thR T q_r_2 (k := 15) (i := 8) (k2 := 78) rfl (by decide)
  refine s_ref e_r_3 ?_
  refine s_gd (by rw [thN T q_r_3 (k := 78) (n := 96) rfl (by decide)]; exact rg_inB i_x3 (by decide)) ?_
  refine s_br (fun c_2 => ?_) (fun c_2 => ?_)
  · have _ := c_2
    have i_f_3 : Rg (0) (7) (v_1) := rg_le1 c_2 i_v_1 (thI T q_r_3 (k := 78) rfl : Rg (0) (7) ((hI h r_3 x3.toNatClampNeg)))
    refine s_cI0 (zX15_onward hF T r_x0 i_x2 (rg_m (rg_sub (rg_b rfl : Rg (0) (0) ((0 : Int32))) i_f_3 (by decide) : Rg (-7) (0) (((0 : Int32) - v_1))) (by decide))) (fun o_6 e_o_6 i_o_6 => ?_)
    have T_4 := th_eq e_o_6 T
    refine s_br (fun c_5 => ?_) (fun c_5 => ?_)
    · have _ := c_5
      have i_f_6 : Rg (-1) (-1) (o_6.1) := rg_eq c_5 (rg_b rfl : Rg (-1) (-1) ((- 1 : Int32)))
      exact s_some ⟨(e_o_6.trans rfl), (rg_m (rg_b rfl : Rg (0) (0) ((0 : Int32))) (by decide))⟩
    · have _ := c_5
      have i_f_7 : Rg (0) (63) (o_6.1) := rg_nlo c_5 i_o_6 (rg_b rfl : Rg (-1) (-1) ((- 1 : Int32)))
      obtain ⟨r_8, e_r_8, q_r_8⟩ := thR T_4 r_x1 (k := 13) (i := 0) (k2 := 62) rfl (by decide)
      refine s_ref e_r_8 ?_
      refine s_gd (by rw [thN T_4 q_r_8 (k := 62) (n := 64) rfl (by decide)]; exact rg_inB i_f_7 (by decide)) ?_
      refine s_br (fun c_8 => ?_) (fun c_8 => ?_)
      · have _ := c_8
        have i_f_9 : Rg (1) (24) ((hI o_6.2 r_8 o_6.1.toNatClampNeg)) := rg_lt2 c_8 (rg_b rfl : Rg (0) (0) (0 : Int32)) (thI T_4 q_r_8 (k := 62) rfl : Rg (0) (24) ((hI o_6.2 r_8 o_6.1.toNatClampNeg)))
        exact s_some ⟨(e_o_6.trans rfl), (rg_m (rg_b rfl : Rg (0) (0) ((0 : Int32))) (by decide))⟩
      · have _ := c_8
        have i_f_10 : Rg (0) (0) ((hI o_6.2 r_8 o_6.1.toNatClampNeg)) := rg_le1 (nlt_le c_8) (thI T_4 q_r_8 (k := 62) rfl : Rg (0) (24) ((hI o_6.2 r_8 o_6.1.toNatClampNeg))) (rg_b rfl : Rg (0) (0) (0 : Int32))
        refine s_ref (hr_e e_o_6 e_r_2) ?_
        obtain ⟨r_12, e_r_12, q_r_12⟩ := thR T_4 q_r_2 (k := 15) (i := 9) (k2 := 79) rfl (by decide)
        refine s_ref e_r_12 ?_
        refine s_gd (by rw [thN T_4 q_r_12 (k := 79) (n := 96) rfl (by decide)]; exact rg_inB i_x3 (by decide)) ?_
        refine s_br (fun c_11 => ?_) (fun c_11 => ?_)
        · have _ := c_11
          have i_f_12 : Rg (0) (0) ((hI o_6.2 r_12 x3.toNatClampNeg)) := rg_le1 c_11 (thI T_4 q_r_12 (k := 79) rfl : Rg (0) (8) ((hI o_6.2 r_12 x3.toNatClampNeg))) (rg_b rfl : Rg (0) (0) (0 : Int32))
          have m_13 : Rg (1) (7) ((1 : Int32)) := (rg_m (rg_b rfl : Rg (1) (1) ((1 : Int32))) (by decide))
          exact zX15_isPassBy_86 hF F (e_o_6.trans rfl) T_4 r_x0 r_x1 i_f_3 i_f_7 (rg_m (rg_b rfl : Rg (1) (1) ((1 : Int32))) (by decide)) (by have := m_13.1; have := m_13.2; omega)
        · have _ := c_11
          have i_f_14 : Rg (1) (8) ((hI o_6.2 r_12 x3.toNatClampNeg)) := rg_lt2 (nle_lt c_11) (rg_b rfl : Rg (0) (0) (0 : Int32)) (thI T_4 q_r_12 (k := 79) rfl : Rg (0) (8) ((hI o_6.2 r_12 x3.toNatClampNeg)))
          refine s_cI0 (zX15_rankFor hF T_4 r_x0 i_f_7 i_x4) (fun o_15 e_o_15 i_o_15 => ?_)
          have T_15 := th_eq e_o_15 T_4
          refine s_ref (hr_e e_o_15 (hr_e e_o_6 e_r_2)) ?_
          refine s_ref (hr_e e_o_15 e_r_12) ?_
          refine s_gd (by rw [thN T_15 q_r_12 (k := 79) (n := 96) rfl (by decide)]; exact rg_inB i_x3 (by decide)) ?_
          refine s_br (fun c_16 => ?_) (fun c_16 => ?_)
          · have _ := c_16
            have i_f_17 : Rg (1) (8) (o_15.1) := rg_eq c_16 ((rg_he e_o_15 i_f_14) : Rg (1) (8) ((hI o_15.2 r_12 x3.toNatClampNeg)))
            have m_18 : Rg (1) (7) ((1 : Int32)) := (rg_m (rg_b rfl : Rg (1) (1) ((1 : Int32))) (by decide))
            exact zX15_isPassBy_86 hF F (e_o_15.trans (e_o_6.trans rfl)) T_15 r_x0 r_x1 i_f_3 i_f_7 (rg_m (rg_b rfl : Rg (1) (1) ((1 : Int32))) (by decide)) (by have := m_18.1; have := m_18.2; omega)
          · have _ := c_16
            exact s_some ⟨(e_o_15.trans (e_o_6.trans rfl)), (rg_m (rg_b rfl : Rg (0) (0) ((0 : Int32))) (by decide))⟩
  · have _ := c_2
    have i_f_19 : Rg (1) (64) (v_1) := rg_lt2 (nle_lt c_2) (thI T q_r_3 (k := 78) rfl : Rg (0) (7) ((hI h r_3 x3.toNatClampNeg))) i_v_1
    exact s_some ⟨rfl, (rg_m (rg_b rfl : Rg (0) (0) ((0 : Int32))) (by decide))⟩
set_option maxRecDepth 20000 in
theorem zX15_isPass_107 {ρ : Nat → Nat} {c : Cm} {F : Nat} {w_x1 : Nat} (hF : 700000 ≤ F) {k_75 : Hp → Nat → Nat → Int32 → Int32 → Int32 → Int32 → Option (Int32 × Hp)} {C_75 : Int} (hk_75 : ∀ {h : Hp} {x0 : Nat} {x1 : Nat} {x2 : Int32} {x3 : Int32} {x4 : Int32} {x5 : Int32}, cw c x1 = w_x1 → TH ρ c h → ρ x0 = 16 → ρ x1 = 13 → Rg (0) (63) (x2) → Rg (1) (24) (x3) → Rg (0) (1) (x4) → Rg (0) (8) (x5) → C_75 < x5.toInt → Sat (k_75 h x0 x1 x2 x3 x4 x5) (ZI ρ c (0) (1))) (hA : pmA c [(16, 23), (16, 24)]) : ∀ (f : Nat) {h : Hp} {x0 : Nat} {x1 : Nat} {x2 : Int32} {x3 : Int32} {x4 : Int32} {x5 : Int32} {x6 : Int32} {x7 : Int32}, cw c x1 = w_x1 → TH ρ c h → ρ x0 = 16 → ρ x1 = 13 → Rg (0) (63) (x2) → Rg (1) (24) (x3) → Rg (0) (1) (x4) → Rg (0) (7) (x5) → Rg (0) (95) (x6) → Rg (0) (8) (x7) → C_75 ≤ x5.toInt → (8 - x7.toInt).toNat < f → Sat (sX15_isPass_107 F k_75 f h x0 x1 x2 x3 x4 x5 x6 x7) (ZI ρ c (0) (1)) := by
  intro f
  induction f with
  | zero => intros; omega
  | succ f ih =>
    intro h x0 x1 x2 x3 x4 x5 x6 x7 o_x1 T r_x0 r_x1 i_x2 i_x3 i_x4 i_x5 i_x6 i_x7 hc_75 hm
    rw [sX15_isPass_107]
    unfold sX15_isPass_164 sX15_isPass_158
    obtain ⟨C_107, hC_107⟩ : ∃ C : Int, C = x7.toInt := ⟨_, rfl⟩
    have hk_107 : ∀ {h : Hp} {x0 : Nat} {x1 : Nat} {x2 : Int32} {x3 : Int32} {x4 : Int32} {x5 : Int32} {x6 : Int32} {x7 : Int32}, cw c x1 = w_x1 → TH ρ c h → ρ x0 = 16 → ρ x1 = 13 → Rg (0) (63) (x2) → Rg (1) (24) (x3) → Rg (0) (1) (x4) → Rg (0) (7) (x5) → Rg (0) (95) (x6) → Rg (0) (8) (x7) → C_75 ≤ x5.toInt → C_107 < x7.toInt → Sat (sX15_isPass_107 F k_75 f h x0 x1 x2 x3 x4 x5 x6 x7) (ZI ρ c (0) (1)) := by
      intro h' x0' x1' x2' x3' x4' x5' x6' x7' o_x1' T' r_x0' r_x1' i_x2' i_x3' i_x4' i_x5' i_x6' i_x7' hc_75' hl
      exact ih o_x1' T' r_x0' r_x1' i_x2' i_x3' i_x4' i_x5' i_x6' i_x7' hc_75' (by have := i_x7'.1; have := i_x7'.2; omega)
    have hc_107 : C_107 ≤ x7.toInt := by omega
    refine s_br (fun c_1 => ?_) (fun c_1 => ?_)
    · have _ := c_1
      have i_f_2 : Rg (8) (8) (x7) := rg_le2 c_1 (rg_b rfl : Rg (8) (8) ((8 : Int32))) i_x7
      refine s_q (fun v_1q1 e_3 => ?_)
      have i_v_1q1 : Rg (1) (8) (v_1q1) := by rw [e_3]; exact (rg_add i_x5 (rg_b rfl : Rg (1) (1) ((1 : Int32))) (by decide) : Rg (1) (8) (x5 + (1 : Int32)))
      have m_4 : (v_1q1).toInt = x5.toInt + 1 := by rw [e_3]; exact rg_inc i_x5 (by decide)
      exact hk_75 o_x1 T r_x0 r_x1 i_x2 i_x3 i_x4 (rg_m i_v_1q1 (by decide)) (by have := hc_75; omega)
    · have _ := c_1
      have i_f_5 : Rg (0) (7) (x7) := rg_lt1 (nle_lt c_1) i_x7 (rg_b rfl : Rg (8) (8) ((8 : Int32)))
      obtain ⟨r_2, e_r_2, q_r_2⟩ := thR T r_x0 (k := 16) (i := 4) (k2 := 15) rfl (by decide)
      refine s_ref e_r_2 ?_
      obtain ⟨r_3, e_r_3, q_r_3⟩ := thR T q_r_2 (k := 15) (i := 5) (k2 := 75) rfl (by decide)
      refine s_ref e_r_3 ?_
      refine s_gd (by rw [thN T q_r_3 (k := 75) (n := 96) rfl (by decide)]; exact rg_inB i_x6 (by decide)) ?_
      refine s_br (fun c_6 => ?_) (fun c_6 => ?_)
      · have _ := c_6
        have i_f_7 : Rg (0) (0) (((hI h r_3 x6.toNatClampNeg) &&& (16 : Int32))) := rg_eq c_6 (rg_b rfl : Rg (0) (0) (0 : Int32))
        refine s_q (fun v_1q2 e_8 => ?_)
        have i_v_1q2 : Rg (1) (8) (v_1q2) := by rw [e_8]; exact (rg_add i_x5 (rg_b rfl : Rg (1) (1) ((1 : Int32))) (by decide) : Rg (1) (8) (x5 + (1 : Int32)))
        have m_9 : (v_1q2).toInt = x5.toInt + 1 := by rw [e_8]; exact rg_inc i_x5 (by decide)
        exact hk_75 o_x1 T r_x0 r_x1 i_x2 i_x3 i_x4 (rg_m i_v_1q2 (by decide)) (by have := hc_75; omega)
      · have _ := c_6
        have i_f_10 : Rg (1) (16) (((hI h r_3 x6.toNatClampNeg) &&& (16 : Int32))) := rg_nlo c_6 (rg_and (rg_b rfl : Rg (16) (16) ((16 : Int32))) (by decide) : Rg (0) (16) (((hI h r_3 x6.toNatClampNeg) &&& (16 : Int32)))) (rg_b rfl : Rg (0) (0) (0 : Int32))
        refine s_cI (zX15_hasVector hF (pmA_s hA rfl) T r_x0 i_x6 i_f_5 i_x4) (fun o_6 T_11 i_o_6 => ?_)
        refine s_br (fun c_12 => ?_) (fun c_12 => ?_)
        · have _ := c_12
          have i_f_13 : Rg (0) (0) (o_6.1) := rg_eq c_12 (rg_b rfl : Rg (0) (0) (0 : Int32))
          refine s_q (fun v_1q3 e_14 => ?_)
          have i_v_1q3 : Rg (1) (8) (v_1q3) := by rw [e_14]; exact (rg_add i_f_5 (rg_b rfl : Rg (1) (1) ((1 : Int32))) (by decide) : Rg (1) (8) (x7 + (1 : Int32)))
          have m_15 : (v_1q3).toInt = x7.toInt + 1 := by rw [e_14]; exact rg_inc i_f_5 (by decide)
          exact hk_107 o_x1 T_11 r_x0 r_x1 i_x2 i_x3 i_x4 i_x5 i_x6 (rg_m i_v_1q3 (by decide)) hc_75 (by have := hc_107; omega)
        · have _ := c_12
          have i_f_16 : Rg (1) (1) (o_6.1) := rg_nlo c_12 i_o_6 (rg_b rfl : Rg (0) (0) (0 : Int32))
          refine s_cI0 (zX15_isPassBy hF T_11 r_x0 r_x1 i_x2 i_x6 i_x4) (fun o_8 e_o_8 i_o_8 => ?_)
          have T_17 := th_eq e_o_8 T_11
          refine s_br (fun c_18 => ?_) (fun c_18 => ?_)
          · have _ := c_18
            have i_f_19 : Rg (0) (0) (o_8.1) := rg_eq c_18 (rg_b rfl : Rg (0) (0) (0 : Int32))
            refine s_q (fun v_1q4 e_20 => ?_)
            have i_v_1q4 : Rg (1) (8) (v_1q4) := by rw [e_20]; exact (rg_add i_f_5 (rg_b rfl : Rg (1) (1) ((1 : Int32))) (by decide) : Rg (1) (8) (x7 + (1 : Int32)))
            have m_21 : (v_1q4).toInt = x7.toInt + 1 := by rw [e_20]; exact rg_inc i_f_5 (by decide)
            exact hk_107 o_x1 T_17 r_x0 r_x1 i_x2 i_x3 i_x4 i_x5 i_x6 (rg_m i_v_1q4 (by decide)) hc_75 (by have := hc_107; omega)
          · have _ := c_18
            have i_f_22 : Rg (1) (1) (o_8.1) := rg_nlo c_18 i_o_8 (rg_b rfl : Rg (0) (0) (0 : Int32))
            exact s_some ⟨(T_17), (rg_m (rg_b rfl : Rg (1) (1) ((1 : Int32))) (by decide))⟩
set_option maxRecDepth 20000 in
theorem zX15_isPass_75 {ρ : Nat → Nat} {c : Cm} {F : Nat} {w_x1 : Nat} (hF : 700000 ≤ F) (hA : pmA c [(16, 23), (16, 24)]) : ∀ (f : Nat) {h : Hp} {x0 : Nat} {x1 : Nat} {x2 : Int32} {x3 : Int32} {x4 : Int32} {x5 : Int32}, cw c x1 = w_x1 → TH ρ c h → ρ x0 = 16 → ρ x1 = 13 → Rg (0) (63) (x2) → Rg (1) (24) (x3) → Rg (0) (1) (x4) → Rg (0) (8) (x5) → (8 - x5.toInt).toNat < f → Sat (sX15_isPass_75 F f h x0 x1 x2 x3 x4 x5) (ZI ρ c (0) (1)) := by
  intro f
  induction f with
  | zero => intros; omega
  | succ f ih =>
    intro h x0 x1 x2 x3 x4 x5 o_x1 T r_x0 r_x1 i_x2 i_x3 i_x4 i_x5 hm
    rw [sX15_isPass_75]
    unfold sX15_manOf
    obtain ⟨C_75, hC_75⟩ : ∃ C : Int, C = x5.toInt := ⟨_, rfl⟩
    have hk_75 : ∀ {h : Hp} {x0 : Nat} {x1 : Nat} {x2 : Int32} {x3 : Int32} {x4 : Int32} {x5 : Int32}, cw c x1 = w_x1 → TH ρ c h → ρ x0 = 16 → ρ x1 = 13 → Rg (0) (63) (x2) → Rg (1) (24) (x3) → Rg (0) (1) (x4) → Rg (0) (8) (x5) → C_75 < x5.toInt → Sat (sX15_isPass_75 F f h x0 x1 x2 x3 x4 x5) (ZI ρ c (0) (1)) := by
      intro h' x0' x1' x2' x3' x4' x5' o_x1' T' r_x0' r_x1' i_x2' i_x3' i_x4' i_x5' hl
      exact ih o_x1' T' r_x0' r_x1' i_x2' i_x3' i_x4' i_x5' (by have := i_x5'.1; have := i_x5'.2; omega)
    have hc_75 : C_75 ≤ x5.toInt := by omega
    obtain ⟨r_1, e_r_1, q_r_1⟩ := thR T r_x0 (k := 16) (i := 4) (k2 := 15) rfl (by decide)
    refine s_ref e_r_1 ?_
    obtain ⟨r_2, e_r_2, q_r_2⟩ := thR T q_r_1 (k := 15) (i := 4) (k2 := 74) rfl (by decide)
    refine s_ref e_r_2 ?_
    refine s_pu (fun o_3z e_1 => ?_)
    try dsimp only
    have i_o_3z : Rg (0) (11) (o_3z) := by rw [e_1]; exact (rg_shrk 1 (by decide) (rg_sub i_x3 (rg_b rfl : Rg (1) (1) ((1 : Int32))) (by decide) : Rg (0) (23) ((x3 - (1 : Int32)))) (by decide) : Rg (0) (11) ((x3 - (1 : Int32)) >>> ((1 : Int32) &&& 31)))
    refine s_gd (by rw [thN T q_r_2 (k := 74) (n := 12) rfl (by decide)]; exact rg_inB i_o_3z (by decide)) ?_
    refine s_br (fun c_2 => ?_) (fun c_2 => ?_)
    · have _ := c_2
      exact s_some ⟨(T), (rg_m (rg_b rfl : Rg (0) (0) ((0 : Int32))) (by decide))⟩
    · have _ := c_2
      have i_f_3 : Rg (0) (7) (x5) := rg_lt1 (nle_lt c_2) i_x5 (thI T q_r_2 (k := 74) rfl : Rg (0) (8) ((hI h r_2 o_3z.toNatClampNeg)))
      have i_f_4 : Rg (1) (8) ((hI h r_2 o_3z.toNatClampNeg)) := rg_lt2 (nle_lt c_2) i_x5 (thI T q_r_2 (k := 74) rfl : Rg (0) (8) ((hI h r_2 o_3z.toNatClampNeg)))
      refine s_pu (fun o_6z e_5 => ?_)
      try dsimp only
      have i_o_6z : Rg (0) (11) (o_6z) := by rw [e_5]; exact (rg_shrk 1 (by decide) (rg_sub i_x3 (rg_b rfl : Rg (1) (1) ((1 : Int32))) (by decide) : Rg (0) (23) ((x3 - (1 : Int32)))) (by decide) : Rg (0) (11) ((x3 - (1 : Int32)) >>> ((1 : Int32) &&& 31)))
      refine s_q (fun v_7 e_6 => ?_)
      have i_v_7 : Rg (0) (95) (v_7) := by rw [e_6]; exact (rg_add (rg_mulc' (rg_b rfl : Rg (8) (8) ((8 : Int32))) i_o_6z (by decide) : Rg (0) (88) (((8 : Int32) * o_6z))) i_f_3 (by decide) : Rg (0) (95) (((8 : Int32) * o_6z) + x5))
      have m_7 : Rg (0) (8) ((0 : Int32)) := (rg_m (rg_b rfl : Rg (0) (0) ((0 : Int32))) (by decide))
      exact zX15_isPass_107 hF @hk_75 (pmA_s hA rfl) F o_x1 T r_x0 r_x1 i_x2 i_x3 i_x4 i_f_3 i_v_7 (rg_m (rg_b rfl : Rg (0) (0) ((0 : Int32))) (by decide)) hc_75 (by have := m_7.1; have := m_7.2; omega)
set_option maxRecDepth 20000 in
theorem zX15_isPass_34 {ρ : Nat → Nat} {c : Cm} {F : Nat} {w_x1 : Nat} (hF : 700000 ≤ F) (hA : pmA c [(16, 23), (16, 24)]) : ∀ (f : Nat) {h : Hp} {x0 : Nat} {x1 : Nat} {x2 : Int32} {x3 : Int32} {x4 : Int32}, cw c x1 = w_x1 → TH ρ c h → ρ x0 = 16 → ρ x1 = 13 → Rg (0) (63) (x2) → Rg (1) (24) (x3) → Rg (1) (64) (x4) → (64 - x4.toInt).toNat < f → Sat (sX15_isPass_34 F f h x0 x1 x2 x3 x4) (ZI ρ c (0) (1)) := by
  intro f
  induction f with
  | zero => intros; omega
  | succ f ih =>
    intro h x0 x1 x2 x3 x4 o_x1 T r_x0 r_x1 i_x2 i_x3 i_x4 hm
    rw [sX15_isPass_34]
    unfold sX15_sideOf
    obtain ⟨C_34, hC_34⟩ : ∃ C : Int, C = x4.toInt := ⟨_, rfl⟩
    have hk_34 : ∀ {h : Hp} {x0 : Nat} {x1 : Nat} {x2 : Int32} {x3 : Int32} {x4 : Int32}, cw c x1 = w_x1 → TH ρ c h → ρ x0 = 16 → ρ x1 = 13 → Rg (0) (63) (x2) → Rg (1) (24) (x3) → Rg (1) (64) (x4) → C_34 < x4.toInt → Sat (sX15_isPass_34 F f h x0 x1 x2 x3 x4) (ZI ρ c (0) (1)) := by
      intro h' x0' x1' x2' x3' x4' o_x1' T' r_x0' r_x1' i_x2' i_x3' i_x4' hl
      exact ih o_x1' T' r_x0' r_x1' i_x2' i_x3' i_x4' (by have := i_x4'.1; have := i_x4'.2; omega)
    have hc_34 : C_34 ≤ x4.toInt := by omega
    refine s_br (fun c_1 => ?_) (fun c_1 => ?_)
    · have _ := c_1
      refine s_pu (fun o_2z e_2 => ?_)
      try dsimp only
      have i_o_2z : Rg (0) (1) (o_2z) := by rw [e_2]; exact (rg_and (rg_b rfl : Rg (1) (1) ((1 : Int32))) (by decide) : Rg (0) (1) ((x3 - (1 : Int32)) &&& (1 : Int32)))
      have m_3 : Rg (0) (8) ((0 : Int32)) := (rg_m (rg_b rfl : Rg (0) (0) ((0 : Int32))) (by decide))
      exact zX15_isPass_75 hF (pmA_s hA rfl) F o_x1 T r_x0 r_x1 i_x2 i_x3 i_o_2z (rg_m (rg_b rfl : Rg (0) (0) ((0 : Int32))) (by decide)) (by have := m_3.1; have := m_3.2; omega)
    · have _ := c_1
      have i_f_4 : Rg (1) (63) (x4) := rg_lt1 (nle_lt c_1) i_x4 (thI T r_x1 (k := 13) (i := 3) rfl : Rg (0) (64) ((hI h x1 3)))
      have i_f_5 : Rg (2) (64) ((hI h x1 3)) := rg_lt2 (nle_lt c_1) i_x4 (thI T r_x1 (k := 13) (i := 3) rfl : Rg (0) (64) ((hI h x1 3)))
      obtain ⟨r_3, e_r_3, q_r_3⟩ := thR T r_x1 (k := 13) (i := 0) (k2 := 62) rfl (by decide)
      refine s_ref e_r_3 ?_
      obtain ⟨r_4, e_r_4, q_r_4⟩ := thR T r_x1 (k := 13) (i := 4) (k2 := 63) rfl (by decide)
      refine s_ref e_r_4 ?_
      refine s_gd (by rw [thN T q_r_4 (k := 63) (n := 64) rfl (by decide)]; exact rg_inB i_f_4 (by decide)) ?_
      refine s_gd (by rw [thN T q_r_3 (k := 62) (n := 64) rfl (by decide)]; exact rg_inB (thI T q_r_4 (k := 63) rfl : Rg (0) (63) ((hI h r_4 x4.toNatClampNeg))) (by decide)) ?_
      refine s_br (fun c_6 => ?_) (fun c_6 => ?_)
      · have _ := c_6
        have i_f_7 : Rg (0) (0) ((hI h r_3 (hI h r_4 x4.toNatClampNeg).toNatClampNeg)) := rg_le1 c_6 (thI T q_r_3 (k := 62) rfl : Rg (0) (24) ((hI h r_3 (hI h r_4 x4.toNatClampNeg).toNatClampNeg))) (rg_b rfl : Rg (0) (0) (0 : Int32))
        refine s_q (fun v_8 e_8 => ?_)
        have i_v_8 : Rg (2) (64) (v_8) := by rw [e_8]; exact (rg_add i_f_4 (rg_b rfl : Rg (1) (1) ((1 : Int32))) (by decide) : Rg (2) (64) (x4 + (1 : Int32)))
        have m_9 : (v_8).toInt = x4.toInt + 1 := by rw [e_8]; exact rg_inc i_f_4 (by decide)
        exact hk_34 o_x1 T r_x0 r_x1 i_x2 i_x3 (rg_m i_v_8 (by decide)) (by have := hc_34; omega)
      · have _ := c_6
        have i_f_10 : Rg (1) (24) ((hI h r_3 (hI h r_4 x4.toNatClampNeg).toNatClampNeg)) := rg_lt2 (nle_lt c_6) (rg_b rfl : Rg (0) (0) (0 : Int32)) (thI T q_r_3 (k := 62) rfl : Rg (0) (24) ((hI h r_3 (hI h r_4 x4.toNatClampNeg).toNatClampNeg)))
        exact s_some ⟨(T), (rg_m (rg_b rfl : Rg (0) (0) ((0 : Int32))) (by decide))⟩
set_option maxRecDepth 20000 in
theorem zX15_isPass {ρ : Nat → Nat} {c : Cm} {F : Nat} {w_x1 : Nat} (hF : 700000 ≤ F) (hA : pmA c [(16, 23), (16, 24)]) {h : Hp} {x0 : Nat} {x1 : Nat} (o_x1 : cw c x1 = w_x1) (T : TH ρ c h) (r_x0 : ρ x0 = 16) (r_x1 : ρ x1 = 13) : Sat (sX15_isPass F h x0 x1) (ZI ρ c (0) (1)) := by
  unfold sX15_isPass sX15_isPass_29 sX15_sideOf
  obtain ⟨r_1, e_r_1, q_r_1⟩ := thR T r_x1 (k := 13) (i := 4) (k2 := 63) rfl (by decide)
  refine s_ref e_r_1 ?_
  refine s_gd (by rw [thN T q_r_1 (k := 63) (n := 64) rfl (by decide)]; exact rg_inB (rg_b rfl : Rg (0) (0) ((0 : Int32))) (by decide)) ?_
  refine s_q (fun v_3 e_1 => ?_)
  have i_v_3 : Rg (0) (63) (v_3) := by rw [e_1]; exact (thI T q_r_1 (k := 63) rfl : Rg (0) (63) (hI h r_1 (0 : Int32).toNatClampNeg))
  obtain ⟨r_4, e_r_4, q_r_4⟩ := thR T r_x1 (k := 13) (i := 0) (k2 := 62) rfl (by decide)
  refine s_ref e_r_4 ?_
  refine s_gd (by rw [thN T q_r_4 (k := 62) (n := 64) rfl (by decide)]; exact rg_inB i_v_3 (by decide)) ?_
  refine s_q (fun v_6 e_2 => ?_)
  have i_v_6 : Rg (0) (24) (v_6) := by rw [e_2]; exact (thI T q_r_4 (k := 62) rfl : Rg (0) (24) (hI h r_4 v_3.toNatClampNeg))
  refine s_br (fun c_3 => ?_) (fun c_3 => ?_)
  · have _ := c_3
    have i_f_4 : Rg (0) (0) (v_6) := rg_eq c_3 (rg_b rfl : Rg (0) (0) (0 : Int32))
    exact s_some ⟨(T), (rg_m (rg_b rfl : Rg (0) (0) ((0 : Int32))) (by decide))⟩
  · have _ := c_3
    have i_f_5 : Rg (1) (24) (v_6) := rg_nlo c_3 i_v_6 (rg_b rfl : Rg (0) (0) (0 : Int32))
    refine s_pu (fun o_8z e_6 => ?_)
    try dsimp only
    have i_o_8z : Rg (0) (1) (o_8z) := by rw [e_6]; exact (rg_and (rg_b rfl : Rg (1) (1) ((1 : Int32))) (by decide) : Rg (0) (1) ((v_6 - (1 : Int32)) &&& (1 : Int32)))
    refine s_br (fun c_7 => ?_) (fun c_7 => ?_)
    · have _ := c_7
      exact s_some ⟨(T), (rg_m (rg_b rfl : Rg (0) (0) ((0 : Int32))) (by decide))⟩
    · have _ := c_7
      have m_8 : Rg (1) (64) ((1 : Int32)) := (rg_m (rg_b rfl : Rg (1) (1) ((1 : Int32))) (by decide))
      exact zX15_isPass_34 hF (pmA_s hA rfl) F o_x1 T r_x0 r_x1 i_v_3 i_f_5 (rg_m (rg_b rfl : Rg (1) (1) ((1 : Int32))) (by decide)) (by have := m_8.1; have := m_8.2; omega)
set_option maxRecDepth 20000 in
theorem zX15_isRight {ρ : Nat → Nat} {c : Cm} {F : Nat} (hF : 700000 ≤ F) {h : Hp} {x0 : Nat} {x1 : Nat} {x2 : Int32} (T : TH ρ c h) (r_x0 : ρ x0 = 16) (r_x1 : ρ x1 = 13) (i_x2 : Rg (0) (63) (x2)) : Sat (sX15_isRight F h x0 x1 x2) (ZI0 h (0) (1)) := by
  unfold sX15_isRight sX15_isRight_49 sX15_manOf sX15_sideOf sX15_isRight_86 sX15_isRight_87
  obtain ⟨r_1, e_r_1, q_r_1⟩ := thR T r_x1 (k := 13) (i := 0) (k2 := 62) rfl (by decide)
  refine s_ref e_r_1 ?_
  refine s_gd (by rw [thN T q_r_1 (k := 62) (n := 64) rfl (by decide)]; exact rg_inB i_x2 (by decide)) ?_
  refine s_q (fun v_3 e_1 => ?_)
  have i_v_3 : Rg (0) (24) (v_3) := by rw [e_1]; exact (thI T q_r_1 (k := 62) rfl : Rg (0) (24) (hI h r_1 x2.toNatClampNeg))
  refine s_br (fun c_2 => ?_) (fun c_2 => ?_)
  · have _ := c_2
    have i_f_3 : Rg (0) (0) (v_3) := rg_eq c_2 (rg_b rfl : Rg (0) (0) (0 : Int32))
    exact s_some ⟨rfl, (rg_m (rg_b rfl : Rg (0) (0) ((0 : Int32))) (by decide))⟩
  · have _ := c_2
    have i_f_4 : Rg (1) (24) (v_3) := rg_nlo c_2 i_v_3 (rg_b rfl : Rg (0) (0) (0 : Int32))
    obtain ⟨r_5, e_r_5, q_r_5⟩ := thR T r_x0 (k := 16) (i := 4) (k2 := 15) rfl (by decide)
    refine s_ref e_r_5 ?_
    refine s_br (fun c_5 => ?_) (fun c_5 => ?_)
    · have _ := c_5
      have i_f_6 : Rg (-1) (-1) ((hI h r_5 12)) := rg_eq c_5 (rg_b rfl : Rg (-1) (-1) ((- 1 : Int32)))
      exact s_some ⟨rfl, (rg_m (rg_b rfl : Rg (0) (0) ((0 : Int32))) (by decide))⟩
    · have _ := c_5
      have i_f_7 : Rg (0) (11) ((hI h r_5 12)) := rg_nlo c_5 (thI T q_r_5 (k := 15) (i := 12) rfl : Rg (-1) (11) ((hI h r_5 12))) (rg_b rfl : Rg (-1) (-1) ((- 1 : Int32)))
      refine s_pu (fun o_7z e_8 => ?_)
      try dsimp only
      have i_o_7z : Rg (0) (11) (o_7z) := by rw [e_8]; exact (rg_shrk 1 (by decide) (rg_sub i_f_4 (rg_b rfl : Rg (1) (1) ((1 : Int32))) (by decide) : Rg (0) (23) ((v_3 - (1 : Int32)))) (by decide) : Rg (0) (11) ((v_3 - (1 : Int32)) >>> ((1 : Int32) &&& 31)))
      refine s_ref e_r_5 ?_
      refine s_br (fun c_9 => ?_) (fun c_9 => ?_)
      · have _ := c_9
        refine s_pu (fun o_10z e_10 => ?_)
        try dsimp only
        have i_o_10z : Rg (0) (1) (o_10z) := by rw [e_10]; exact (rg_and (rg_b rfl : Rg (1) (1) ((1 : Int32))) (by decide) : Rg (0) (1) ((v_3 - (1 : Int32)) &&& (1 : Int32)))
        refine s_cI0 (zX15_rankFor hF T r_x0 i_x2 i_o_10z) (fun o_11 e_o_11 i_o_11 => ?_)
        have T_11 := th_eq e_o_11 T
        refine s_br (fun c_12 => ?_) (fun c_12 => ?_)
        · have _ := c_12
          have i_f_13 : Rg (1) (1) (o_11.1) := rg_eq c_12 (rg_b rfl : Rg (1) (1) ((1 : Int32)))
          refine s_pu (fun o_13z e_14 => ?_)
          try dsimp only
          have i_o_13z : Rg (0) (1) (o_13z) := by rw [e_14]; exact (rg_and (rg_b rfl : Rg (1) (1) ((1 : Int32))) (by decide) : Rg (0) (1) ((v_3 - (1 : Int32)) &&& (1 : Int32)))
          refine s_cI0 (zX15_royalOf hF T_11 r_x0 r_x1 i_o_13z) (fun o_14 e_o_14 i_o_14 => ?_)
          have T_15 := th_eq e_o_14 T_11
          refine s_br (fun c_16 => ?_) (fun c_16 => ?_)
          · have _ := c_16
            have i_f_17 : Rg (-1) (-1) (o_14.1) := rg_eq c_16 (rg_b rfl : Rg (-1) (-1) ((- 1 : Int32)))
            refine s_gd (rg_bool (rg_m (rg_b rfl : Rg (0) (0) ((0 : Int32))) (by decide))) ?_
            exact s_some ⟨(e_o_14.trans (e_o_11.trans rfl)), (rg_m (rg_b rfl : Rg (0) (0) ((0 : Int32))) (by decide))⟩
          · have _ := c_16
            have i_f_18 : Rg (0) (63) (o_14.1) := rg_nlo c_16 i_o_14 (rg_b rfl : Rg (-1) (-1) ((- 1 : Int32)))
            refine s_pu (fun o_16z e_19 => ?_)
            try dsimp only
            have i_o_16z : Rg (0) (1) (o_16z) := by rw [e_19]; exact (rg_and (rg_b rfl : Rg (1) (1) ((1 : Int32))) (by decide) : Rg (0) (1) ((v_3 - (1 : Int32)) &&& (1 : Int32)))
            refine s_cI0 (zX15_rankFor hF T_15 r_x0 i_f_18 i_o_16z) (fun o_17 e_o_17 i_o_17 => ?_)
            have T_20 := th_eq e_o_17 T_15
            refine s_br (fun c_21 => ?_) (fun c_21 => ?_)
            · have _ := c_21
              have i_f_22 : Rg (1) (1) (o_17.1) := rg_eq c_21 (rg_b rfl : Rg (1) (1) ((1 : Int32)))
              refine s_gd (rg_bool (rg_m (rg_b rfl : Rg (1) (1) ((1 : Int32))) (by decide))) ?_
              exact s_some ⟨(e_o_17.trans (e_o_14.trans (e_o_11.trans rfl))), (rg_m (rg_b rfl : Rg (1) (1) ((1 : Int32))) (by decide))⟩
            · have _ := c_21
              refine s_gd (rg_bool (rg_m (rg_b rfl : Rg (0) (0) ((0 : Int32))) (by decide))) ?_
              exact s_some ⟨(e_o_17.trans (e_o_14.trans (e_o_11.trans rfl))), (rg_m (rg_b rfl : Rg (0) (0) ((0 : Int32))) (by decide))⟩
        · have _ := c_12
          exact s_some ⟨(e_o_11.trans rfl), (rg_m (rg_b rfl : Rg (0) (0) ((0 : Int32))) (by decide))⟩
      · have _ := c_9
        exact s_some ⟨rfl, (rg_m (rg_b rfl : Rg (0) (0) ((0 : Int32))) (by decide))⟩
set_option maxRecDepth 20000 in
theorem zX15_wrongOf_368 {ρ : Nat → Nat} {c : Cm} {F : Nat} {w_x1 : Nat} (hF : 700000 ≤ F) : ∀ (f : Nat) {h : Hp} {x0 : Nat} {x1 : Nat} {x5 : Int32}, cw c x1 = w_x1 → TH ρ c h → ρ x0 = 16 → ρ x1 = 13 → Rg (0) (24) (x5) → (24 - x5.toInt).toNat < f → Sat (sX15_wrongOf_368 F f h x0 x1 x5) (ZI ρ c (0) (8)) := by
  intro f
  induction f with
  | zero => intros; omega
  | succ f ih =>
    intro h x0 x1 x5 o_x1 T r_x0 r_x1 i_x5 hm
    rw [sX15_wrongOf_368]
    unfold sX15_wrongOf_404
    obtain ⟨C_368, hC_368⟩ : ∃ C : Int, C = x5.toInt := ⟨_, rfl⟩
    have hk_368 : ∀ {h : Hp} {x0 : Nat} {x1 : Nat} {x5 : Int32}, cw c x1 = w_x1 → TH ρ c h → ρ x0 = 16 → ρ x1 = 13 → Rg (0) (24) (x5) → C_368 < x5.toInt → Sat (sX15_wrongOf_368 F f h x0 x1 x5) (ZI ρ c (0) (8)) := by
      intro h' x0' x1' x5' o_x1' T' r_x0' r_x1' i_x5' hl
      exact ih o_x1' T' r_x0' r_x1' i_x5' (by have := i_x5'.1; have := i_x5'.2; omega)
    have hc_368 : C_368 ≤ x5.toInt := by omega
    refine s_br (fun c_1 => ?_) (fun c_1 => ?_)
    · have _ := c_1
      have i_f_2 : Rg (24) (24) (x5) := rg_le2 c_1 (rg_b rfl : Rg (24) (24) ((24 : Int32))) i_x5
      exact s_some ⟨(T), (rg_m (rg_b rfl : Rg (0) (0) ((0 : Int32))) (by decide))⟩
    · have _ := c_1
      have i_f_3 : Rg (0) (23) (x5) := rg_lt1 (nle_lt c_1) i_x5 (rg_b rfl : Rg (24) (24) ((24 : Int32)))
      obtain ⟨r_2, e_r_2, q_r_2⟩ := thR T r_x0 (k := 16) (i := 4) (k2 := 15) rfl (by decide)
      refine s_ref e_r_2 ?_
      refine s_br (fun c_4 => ?_) (fun c_4 => ?_)
      · have _ := c_4
        have i_f_5 : Rg (0) (0) ((hI h r_2 15)) := rg_eq c_4 (rg_b rfl : Rg (0) (0) (0 : Int32))
        obtain ⟨r_4, e_r_4, q_r_4⟩ := thR T r_x1 (k := 13) (i := 5) (k2 := 64) rfl (by decide)
        refine s_ref e_r_4 ?_
        refine s_gd (by rw [thN T q_r_4 (k := 64) (n := 24) rfl (by decide)]; exact rg_inB i_f_3 (by decide)) ?_
        refine s_br (fun c_6 => ?_) (fun c_6 => ?_)
        · have _ := c_6
          have i_f_7 : Rg (0) (0) ((hI h r_4 x5.toNatClampNeg)) := rg_le1 c_6 (thI T q_r_4 (k := 64) rfl : Rg (0) (16) ((hI h r_4 x5.toNatClampNeg))) (rg_b rfl : Rg (0) (0) (0 : Int32))
          refine s_q (fun v_7 e_8 => ?_)
          have i_v_7 : Rg (1) (24) (v_7) := by rw [e_8]; exact (rg_add i_f_3 (rg_b rfl : Rg (1) (1) ((1 : Int32))) (by decide) : Rg (1) (24) (x5 + (1 : Int32)))
          have m_9 : (v_7).toInt = x5.toInt + 1 := by rw [e_8]; exact rg_inc i_f_3 (by decide)
          exact hk_368 o_x1 T r_x0 r_x1 (rg_m i_v_7 (by decide)) (by have := hc_368; omega)
        · have _ := c_6
          have i_f_10 : Rg (1) (16) ((hI h r_4 x5.toNatClampNeg)) := rg_lt2 (nle_lt c_6) (rg_b rfl : Rg (0) (0) (0 : Int32)) (thI T q_r_4 (k := 64) rfl : Rg (0) (16) ((hI h r_4 x5.toNatClampNeg)))
          exact s_some ⟨(T), (rg_m (rg_b rfl : Rg (8) (8) ((8 : Int32))) (by decide))⟩
      · have _ := c_4
        have i_f_11 : Rg (1) (1) ((hI h r_2 15)) := rg_nlo c_4 (thI T q_r_2 (k := 15) (i := 15) rfl : Rg (0) (1) ((hI h r_2 15))) (rg_b rfl : Rg (0) (0) (0 : Int32))
        exact s_some ⟨(T), (rg_m (rg_b rfl : Rg (0) (0) ((0 : Int32))) (by decide))⟩
set_option maxRecDepth 20000 in
theorem zX15_wrongOf_70 {ρ : Nat → Nat} {c : Cm} {F : Nat} {w_x1 : Nat} (hF : 700000 ≤ F) {k_18 : Hp → Nat → Nat → Int32 → Int32 → Option (Int32 × Hp)} {C_18 : Int} (hk_18 : ∀ {h : Hp} {x0 : Nat} {x1 : Nat} {x2 : Int32} {x3 : Int32}, cw c x1 = w_x1 → TH ρ c h → ρ x0 = 16 → ρ x1 = 13 → Rg (0) (1) (x2) → Rg (0) (64) (x3) → C_18 < x3.toInt → Sat (k_18 h x0 x1 x2 x3) (ZI ρ c (0) (8))) (hA : pmA c [(86, 999)]) {h : Hp} {x0 : Nat} {x1 : Nat} {x2 : Int32} {x3 : Int32} {x4 : Int32} {t0 : Int32} {t1 : Int32} {t2 : Int32} {t3 : Nat} (o_x1 : cw c x1 = w_x1) (T : TH ρ c h) (r_x0 : ρ x0 = 16) (r_x1 : ρ x1 = 13) (i_x2 : Rg (0) (1) (x2)) (i_x3 : Rg (0) (63) (x3)) (i_x4 : Rg (1) (24) (x4)) (i_t0 : Rg (0) (1) (t0)) (i_t1 : Rg (-2147483648) (2147483647) (t1)) (i_t2 : Rg (0) (1) (t2)) (r_t3 : ρ t3 = 86) (hc_18 : C_18 ≤ x3.toInt) : Sat (sX15_wrongOf_70 F k_18 h x0 x1 x2 x3 x4 t0 t1 t2 t3) (ZI ρ c (0) (8)) := by
  unfold sX15_wrongOf_70 sX15_manOf sX15_wrongOf_106 sX15_wrongOf_107 sX15_wrongOf_109 sX15_sideOf
  refine s_gd (by rw [thN T r_t3 (k := 86) (n := 2) rfl (by decide)]; exact rg_inB i_t2 (by decide)) ?_
  refine s_hq (th_wI T r_t3 (k := 86) (lo := (-2147483648)) (hi := (2147483647)) rfl ((rg_top _ : Rg (-2147483648) (2147483647) ((t1 + t0))) : Rg (-2147483648) (2147483647) ((t1 + t0))) (by decide) (by decide) (pm_a hA rfl)) (fun h_2 T_1 w_2 => ?_)
  refine s_pu (fun o_3z e_3 => ?_)
  try dsimp only
  have i_o_3z : Rg (0) (11) (o_3z) := by rw [e_3]; exact (rg_shrk 1 (by decide) (rg_sub i_x4 (rg_b rfl : Rg (1) (1) ((1 : Int32))) (by decide) : Rg (0) (23) ((x4 - (1 : Int32)))) (by decide) : Rg (0) (11) ((x4 - (1 : Int32)) >>> ((1 : Int32) &&& 31)))
  refine s_cI0 (zX15_becomesOthers hF T_1 r_x0 i_o_3z) (fun o_4 e_o_4 i_o_4 => ?_)
  have T_4 := th_eq e_o_4 T_1
  refine s_br (fun c_5 => ?_) (fun c_5 => ?_)
  · have _ := c_5
    have i_f_6 : Rg (0) (0) (o_4.1) := rg_eq c_5 (rg_b rfl : Rg (0) (0) (0 : Int32))
    refine s_q (fun v_1q2 e_7 => ?_)
    have i_v_1q2 : Rg (0) (1) (v_1q2) := by rw [e_7]; exact (rg_or (n := 1) (rg_m i_x2 (by decide) : Rg (0) (1) (x2)) (rg_m (rg_b rfl : Rg (0) (0) ((0 : Int32))) (by decide) : Rg (0) (0) ((0 : Int32))) (by decide) : Rg (0) (1) (x2 ||| (0 : Int32)))
    refine s_q (fun v_1q3 e_8 => ?_)
    have i_v_1q3 : Rg (1) (64) (v_1q3) := by rw [e_8]; exact (rg_add i_x3 (rg_b rfl : Rg (1) (1) ((1 : Int32))) (by decide) : Rg (1) (64) (x3 + (1 : Int32)))
    have m_9 : (v_1q3).toInt = x3.toInt + 1 := by rw [e_8]; exact rg_inc i_x3 (by decide)
    exact hk_18 o_x1 T_4 r_x0 r_x1 i_v_1q2 (rg_m i_v_1q3 (by decide)) (by have := hc_18; omega)
  · have _ := c_5
    have i_f_10 : Rg (1) (1) (o_4.1) := rg_nlo c_5 i_o_4 (rg_b rfl : Rg (0) (0) (0 : Int32))
    refine s_pu (fun o_6z e_11 => ?_)
    try dsimp only
    have i_o_6z : Rg (0) (1) (o_6z) := by rw [e_11]; exact (rg_and (rg_b rfl : Rg (1) (1) ((1 : Int32))) (by decide) : Rg (0) (1) ((x4 - (1 : Int32)) &&& (1 : Int32)))
    refine s_cI0 (zX15_rankFor hF T_4 r_x0 i_x3 i_o_6z) (fun o_7 e_o_7 i_o_7 => ?_)
    have T_12 := th_eq e_o_7 T_4
    refine s_br (fun c_13 => ?_) (fun c_13 => ?_)
    · have _ := c_13
      have i_f_14 : Rg (3) (8) (o_7.1) := rg_eq c_13 (thI T_12 r_x0 (k := 16) (i := 12) rfl : Rg (3) (8) ((hI o_7.2 x0 12)))
      refine s_q (fun v_1q4 e_15 => ?_)
      have i_v_1q4 : Rg (0) (1) (v_1q4) := by rw [e_15]; exact (rg_or (n := 1) (rg_m i_x2 (by decide) : Rg (0) (1) (x2)) (rg_m (rg_b rfl : Rg (1) (1) ((1 : Int32))) (by decide) : Rg (0) (1) ((1 : Int32))) (by decide) : Rg (0) (1) (x2 ||| (1 : Int32)))
      refine s_q (fun v_1q5 e_16 => ?_)
      have i_v_1q5 : Rg (1) (64) (v_1q5) := by rw [e_16]; exact (rg_add i_x3 (rg_b rfl : Rg (1) (1) ((1 : Int32))) (by decide) : Rg (1) (64) (x3 + (1 : Int32)))
      have m_17 : (v_1q5).toInt = x3.toInt + 1 := by rw [e_16]; exact rg_inc i_x3 (by decide)
      exact hk_18 o_x1 T_12 r_x0 r_x1 i_v_1q4 (rg_m i_v_1q5 (by decide)) (by have := hc_18; omega)
    · have _ := c_13
      refine s_q (fun v_1q7 e_18 => ?_)
      have i_v_1q7 : Rg (0) (1) (v_1q7) := by rw [e_18]; exact (rg_or (n := 1) (rg_m i_x2 (by decide) : Rg (0) (1) (x2)) (rg_m (rg_b rfl : Rg (0) (0) ((0 : Int32))) (by decide) : Rg (0) (0) ((0 : Int32))) (by decide) : Rg (0) (1) (x2 ||| (0 : Int32)))
      refine s_q (fun v_1q8 e_19 => ?_)
      have i_v_1q8 : Rg (1) (64) (v_1q8) := by rw [e_19]; exact (rg_add i_x3 (rg_b rfl : Rg (1) (1) ((1 : Int32))) (by decide) : Rg (1) (64) (x3 + (1 : Int32)))
      have m_20 : (v_1q8).toInt = x3.toInt + 1 := by rw [e_19]; exact rg_inc i_x3 (by decide)
      exact hk_18 o_x1 T_12 r_x0 r_x1 i_v_1q7 (rg_m i_v_1q8 (by decide)) (by have := hc_18; omega)
set_option maxRecDepth 20000 in
theorem zX15_wrongOf_336 {ρ : Nat → Nat} {c : Cm} {F : Nat} {w_x1 : Nat} (hF : 700000 ≤ F) {h : Hp} {x0 : Nat} {x1 : Nat} (o_x1 : cw c x1 = w_x1) (T : TH ρ c h) (r_x0 : ρ x0 = 16) (r_x1 : ρ x1 = 13) : Sat (sX15_wrongOf_336 F h x0 x1) (ZI ρ c (0) (8)) := by
  unfold sX15_wrongOf_336 sX15_wrongOf_365
  obtain ⟨r_1, e_r_1, q_r_1⟩ := thR T r_x0 (k := 16) (i := 4) (k2 := 15) rfl (by decide)
  refine s_ref e_r_1 ?_
  refine s_br (fun c_1 => ?_) (fun c_1 => ?_)
  · have _ := c_1
    have i_f_2 : Rg (0) (0) ((hI h r_1 20)) := rg_eq c_1 (rg_b rfl : Rg (0) (0) (0 : Int32))
    obtain ⟨r_3, e_r_3, q_r_3⟩ := thR T r_x1 (k := 13) (i := 6) (k2 := 65) rfl (by decide)
    refine s_ref e_r_3 ?_
    refine s_gd (by rw [thN T q_r_3 (k := 65) (n := 2) rfl (by decide)]; exact rg_inB (rg_b rfl : Rg (0) (0) ((0 : Int32))) (by decide)) ?_
    refine s_ref e_r_3 ?_
    refine s_gd (by rw [thN T q_r_3 (k := 65) (n := 2) rfl (by decide)]; exact rg_inB (rg_b rfl : Rg (1) (1) ((1 : Int32))) (by decide)) ?_
    refine s_br (fun c_3 => ?_) (fun c_3 => ?_)
    · have _ := c_3
      have i_f_4 : Rg (0) (0) (((hI h r_3 (0 : Int32).toNatClampNeg) + (hI h r_3 (1 : Int32).toNatClampNeg))) := rg_le1 c_3 (rg_add (thI T q_r_3 (k := 65) rfl : Rg (0) (9) ((hI h r_3 (0 : Int32).toNatClampNeg))) (thI T q_r_3 (k := 65) rfl : Rg (0) (9) ((hI h r_3 (1 : Int32).toNatClampNeg))) (by decide) : Rg (0) (18) (((hI h r_3 (0 : Int32).toNatClampNeg) + (hI h r_3 (1 : Int32).toNatClampNeg)))) (rg_b rfl : Rg (0) (0) (0 : Int32))
      have m_5 : Rg (0) (24) ((0 : Int32)) := (rg_m (rg_b rfl : Rg (0) (0) ((0 : Int32))) (by decide))
      exact zX15_wrongOf_368 hF F o_x1 T r_x0 r_x1 (rg_m (rg_b rfl : Rg (0) (0) ((0 : Int32))) (by decide)) (by have := m_5.1; have := m_5.2; omega)
    · have _ := c_3
      have i_f_6 : Rg (1) (18) (((hI h r_3 (0 : Int32).toNatClampNeg) + (hI h r_3 (1 : Int32).toNatClampNeg))) := rg_lt2 (nle_lt c_3) (rg_b rfl : Rg (0) (0) (0 : Int32)) (rg_add (thI T q_r_3 (k := 65) rfl : Rg (0) (9) ((hI h r_3 (0 : Int32).toNatClampNeg))) (thI T q_r_3 (k := 65) rfl : Rg (0) (9) ((hI h r_3 (1 : Int32).toNatClampNeg))) (by decide) : Rg (0) (18) (((hI h r_3 (0 : Int32).toNatClampNeg) + (hI h r_3 (1 : Int32).toNatClampNeg))))
      exact s_some ⟨(T), (rg_m (rg_b rfl : Rg (7) (7) ((7 : Int32))) (by decide))⟩
  · have _ := c_1
    have i_f_7 : Rg (1) (9) ((hI h r_1 20)) := rg_nlo c_1 (thI T q_r_1 (k := 15) (i := 20) rfl : Rg (0) (9) ((hI h r_1 20))) (rg_b rfl : Rg (0) (0) (0 : Int32))
    have m_8 : Rg (0) (24) ((0 : Int32)) := (rg_m (rg_b rfl : Rg (0) (0) ((0 : Int32))) (by decide))
    exact zX15_wrongOf_368 hF F o_x1 T r_x0 r_x1 (rg_m (rg_b rfl : Rg (0) (0) ((0 : Int32))) (by decide)) (by have := m_8.1; have := m_8.2; omega)
set_option maxRecDepth 20000 in
theorem zX15_wrongOf_300 {ρ : Nat → Nat} {c : Cm} {F : Nat} {w_x1 : Nat} (hF : 700000 ≤ F) (hA : pmA c [(16, 23), (16, 24)]) {h : Hp} {x0 : Nat} {x1 : Nat} (o_x1 : cw c x1 = w_x1) (T : TH ρ c h) (r_x0 : ρ x0 = 16) (r_x1 : ρ x1 = 13) : Sat (sX15_wrongOf_300 F h x0 x1) (ZI ρ c (0) (8)) := by
  unfold sX15_wrongOf_300 
  refine s_cI0 (zX15_royalOf hF T r_x0 r_x1 (rg_sub (rg_b rfl : Rg (1) (1) ((1 : Int32))) (thI T r_x1 (k := 13) (i := 1) rfl : Rg (0) (1) ((hI h x1 1))) (by decide) : Rg (0) (1) (((1 : Int32) - (hI h x1 1))))) (fun o_1 e_o_1 i_o_1 => ?_)
  have T_1 := th_eq e_o_1 T
  refine s_br (fun c_2 => ?_) (fun c_2 => ?_)
  · have _ := c_2
    have i_f_3 : Rg (-1) (-1) (o_1.1) := rg_eq c_2 (rg_b rfl : Rg (-1) (-1) ((- 1 : Int32)))
    exact zX15_wrongOf_336 hF o_x1 T_1 r_x0 r_x1
  · have _ := c_2
    have i_f_4 : Rg (0) (63) (o_1.1) := rg_nlo c_2 i_o_1 (rg_b rfl : Rg (-1) (-1) ((- 1 : Int32)))
    refine s_cI (zX15_isAttacked hF (pmA_s hA rfl) o_x1 T_1 r_x0 r_x1 i_f_4 (thI T_1 r_x1 (k := 13) (i := 1) rfl : Rg (0) (1) ((hI o_1.2 x1 1)))) (fun o_3 T_5 i_o_3 => ?_)
    refine s_br (fun c_6 => ?_) (fun c_6 => ?_)
    · have _ := c_6
      have i_f_7 : Rg (0) (0) (o_3.1) := rg_eq c_6 (rg_b rfl : Rg (0) (0) (0 : Int32))
      exact zX15_wrongOf_336 hF o_x1 T_5 r_x0 r_x1
    · have _ := c_6
      have i_f_8 : Rg (1) (1) (o_3.1) := rg_nlo c_6 i_o_3 (rg_b rfl : Rg (0) (0) (0 : Int32))
      exact s_some ⟨(T_5), (rg_m (rg_b rfl : Rg (6) (6) ((6 : Int32))) (by decide))⟩
set_option maxRecDepth 20000 in
theorem zX15_wrongOf_242 {ρ : Nat → Nat} {c : Cm} {F : Nat} {w_x1 : Nat} (hF : 700000 ≤ F) (hA : pmA c [(16, 23), (16, 24)]) : ∀ (f : Nat) {h : Hp} {x0 : Nat} {x1 : Nat} {x4 : Int32}, cw c x1 = w_x1 → TH ρ c h → ρ x0 = 16 → ρ x1 = 13 → Rg (0) (64) (x4) → (64 - x4.toInt).toNat < f → Sat (sX15_wrongOf_242 F f h x0 x1 x4) (ZI ρ c (0) (8)) := by
  intro f
  induction f with
  | zero => intros; omega
  | succ f ih =>
    intro h x0 x1 x4 o_x1 T r_x0 r_x1 i_x4 hm
    rw [sX15_wrongOf_242]
    unfold sX15_wrongOf_277
    obtain ⟨C_242, hC_242⟩ : ∃ C : Int, C = x4.toInt := ⟨_, rfl⟩
    have hk_242 : ∀ {h : Hp} {x0 : Nat} {x1 : Nat} {x4 : Int32}, cw c x1 = w_x1 → TH ρ c h → ρ x0 = 16 → ρ x1 = 13 → Rg (0) (64) (x4) → C_242 < x4.toInt → Sat (sX15_wrongOf_242 F f h x0 x1 x4) (ZI ρ c (0) (8)) := by
      intro h' x0' x1' x4' o_x1' T' r_x0' r_x1' i_x4' hl
      exact ih o_x1' T' r_x0' r_x1' i_x4' (by have := i_x4'.1; have := i_x4'.2; omega)
    have hc_242 : C_242 ≤ x4.toInt := by omega
    refine s_br (fun c_1 => ?_) (fun c_1 => ?_)
    · have _ := c_1
      have i_f_2 : Rg (9) (64) (x4) := rg_le2 c_1 (thI T r_x0 (k := 16) (i := 13) rfl : Rg (9) (64) ((hI h x0 13))) i_x4
      refine s_br (fun c_3 => ?_) (fun c_3 => ?_)
      · have _ := c_3
        have i_f_4 : Rg (0) (0) ((hI h x1 3)) := rg_le1 c_3 (thI T r_x1 (k := 13) (i := 3) rfl : Rg (0) (64) ((hI h x1 3))) (rg_b rfl : Rg (0) (0) (0 : Int32))
        exact zX15_wrongOf_300 hF (pmA_s hA rfl) o_x1 T r_x0 r_x1
      · have _ := c_3
        have i_f_5 : Rg (1) (64) ((hI h x1 3)) := rg_lt2 (nle_lt c_3) (rg_b rfl : Rg (0) (0) (0 : Int32)) (thI T r_x1 (k := 13) (i := 3) rfl : Rg (0) (64) ((hI h x1 3)))
        refine s_cI (zX15_isPass hF (pmA_s hA rfl) o_x1 T r_x0 r_x1) (fun o_3 T_6 i_o_3 => ?_)
        refine s_br (fun c_7 => ?_) (fun c_7 => ?_)
        · have _ := c_7
          have i_f_8 : Rg (0) (0) (o_3.1) := rg_eq c_7 (rg_b rfl : Rg (0) (0) (0 : Int32))
          exact s_some ⟨(T_6), (rg_m (rg_b rfl : Rg (5) (5) ((5 : Int32))) (by decide))⟩
        · have _ := c_7
          have i_f_9 : Rg (1) (1) (o_3.1) := rg_nlo c_7 i_o_3 (rg_b rfl : Rg (0) (0) (0 : Int32))
          exact zX15_wrongOf_300 hF (pmA_s hA rfl) o_x1 T_6 r_x0 r_x1
    · have _ := c_1
      have i_f_10 : Rg (0) (63) (x4) := rg_lt1 (nle_lt c_1) i_x4 (thI T r_x0 (k := 16) (i := 13) rfl : Rg (9) (64) ((hI h x0 13)))
      refine s_br (fun c_11 => ?_) (fun c_11 => ?_)
      · have _ := c_11
        refine s_cI0 (zX15_isRight hF T r_x0 r_x1 i_f_10) (fun o_6 e_o_6 i_o_6 => ?_)
        have T_12 := th_eq e_o_6 T
        refine s_br (fun c_13 => ?_) (fun c_13 => ?_)
        · have _ := c_13
          have i_f_14 : Rg (0) (0) (o_6.1) := rg_eq c_13 (rg_b rfl : Rg (0) (0) (0 : Int32))
          exact s_some ⟨(T_12), (rg_m (rg_b rfl : Rg (4) (4) ((4 : Int32))) (by decide))⟩
        · have _ := c_13
          have i_f_15 : Rg (1) (1) (o_6.1) := rg_nlo c_13 i_o_6 (rg_b rfl : Rg (0) (0) (0 : Int32))
          refine s_q (fun v_1q1 e_16 => ?_)
          have i_v_1q1 : Rg (1) (64) (v_1q1) := by rw [e_16]; exact (rg_add i_f_10 (rg_b rfl : Rg (1) (1) ((1 : Int32))) (by decide) : Rg (1) (64) (x4 + (1 : Int32)))
          have m_17 : (v_1q1).toInt = x4.toInt + 1 := by rw [e_16]; exact rg_inc i_f_10 (by decide)
          exact hk_242 o_x1 T_12 r_x0 r_x1 (rg_m i_v_1q1 (by decide)) (by have := hc_242; omega)
      · have _ := c_11
        refine s_q (fun v_1q2 e_18 => ?_)
        have i_v_1q2 : Rg (1) (64) (v_1q2) := by rw [e_18]; exact (rg_add i_f_10 (rg_b rfl : Rg (1) (1) ((1 : Int32))) (by decide) : Rg (1) (64) (x4 + (1 : Int32)))
        have m_19 : (v_1q2).toInt = x4.toInt + 1 := by rw [e_18]; exact rg_inc i_f_10 (by decide)
        exact hk_242 o_x1 T r_x0 r_x1 (rg_m i_v_1q2 (by decide)) (by have := hc_242; omega)
set_option maxRecDepth 20000 in
theorem zX15_wrongOf_165 {ρ : Nat → Nat} {c : Cm} {F : Nat} {w_x1 : Nat} (hF : 700000 ≤ F) (hA : pmA c [(16, 23), (16, 24)]) {h : Hp} {x0 : Nat} {x1 : Nat} {x2 : Int32} {t0 : Int32} (o_x1 : cw c x1 = w_x1) (T : TH ρ c h) (r_x0 : ρ x0 = 16) (r_x1 : ρ x1 = 13) (i_x2 : Rg (0) (1) (x2)) (i_t0 : Rg (0) (1) (t0)) : Sat (sX15_wrongOf_165 F h x0 x1 x2 t0) (ZI ρ c (0) (8)) := by
  unfold sX15_wrongOf_165 sX15_wrongOf_231 sX15_wrongOf_233
  obtain ⟨r_1, e_r_1, q_r_1⟩ := thR T r_x0 (k := 16) (i := 22) (k2 := 86) rfl (by decide)
  refine s_ref e_r_1 ?_
  refine s_gd (by rw [thN T q_r_1 (k := 86) (n := 2) rfl (by decide)]; exact rg_inB (rg_b rfl : Rg (0) (0) ((0 : Int32))) (by decide)) ?_
  refine s_br (fun c_1 => ?_) (fun c_1 => ?_)
  · have _ := c_1
    have i_f_2 : Rg (2) (2147483647) ((hI h r_1 (0 : Int32).toNatClampNeg)) := rg_lt2 c_1 (rg_b rfl : Rg (1) (1) ((1 : Int32))) (thI T q_r_1 (k := 86) rfl : Rg (-2147483648) (2147483647) ((hI h r_1 (0 : Int32).toNatClampNeg)))
    exact s_some ⟨(T), (rg_m (rg_b rfl : Rg (2) (2) ((2 : Int32))) (by decide))⟩
  · have _ := c_1
    have i_f_3 : Rg (-2147483648) (1) ((hI h r_1 (0 : Int32).toNatClampNeg)) := rg_le1 (nlt_le c_1) (thI T q_r_1 (k := 86) rfl : Rg (-2147483648) (2147483647) ((hI h r_1 (0 : Int32).toNatClampNeg))) (rg_b rfl : Rg (1) (1) ((1 : Int32)))
    refine s_ref e_r_1 ?_
    refine s_gd (by rw [thN T q_r_1 (k := 86) (n := 2) rfl (by decide)]; exact rg_inB (rg_b rfl : Rg (1) (1) ((1 : Int32))) (by decide)) ?_
    refine s_br (fun c_4 => ?_) (fun c_4 => ?_)
    · have _ := c_4
      have i_f_5 : Rg (2) (2147483647) ((hI h r_1 (1 : Int32).toNatClampNeg)) := rg_lt2 c_4 (rg_b rfl : Rg (1) (1) ((1 : Int32))) (thI T q_r_1 (k := 86) rfl : Rg (-2147483648) (2147483647) ((hI h r_1 (1 : Int32).toNatClampNeg)))
      exact s_some ⟨(T), (rg_m (rg_b rfl : Rg (2) (2) ((2 : Int32))) (by decide))⟩
    · have _ := c_4
      have i_f_6 : Rg (-2147483648) (1) ((hI h r_1 (1 : Int32).toNatClampNeg)) := rg_le1 (nlt_le c_4) (thI T q_r_1 (k := 86) rfl : Rg (-2147483648) (2147483647) ((hI h r_1 (1 : Int32).toNatClampNeg))) (rg_b rfl : Rg (1) (1) ((1 : Int32)))
      refine s_br (fun c_7 => ?_) (fun c_7 => ?_)
      · have _ := c_7
        have i_f_8 : Rg (0) (0) (t0) := rg_eq c_7 (rg_b rfl : Rg (0) (0) (0 : Int32))
        obtain ⟨r_8, e_r_8, q_r_8⟩ := thR T r_x0 (k := 16) (i := 4) (k2 := 15) rfl (by decide)
        refine s_ref e_r_8 ?_
        refine s_br (fun c_9 => ?_) (fun c_9 => ?_)
        · have _ := c_9
          have i_f_10 : Rg (0) (0) ((hI h r_8 18)) := rg_eq c_9 (rg_b rfl : Rg (0) (0) (0 : Int32))
          refine s_br (fun c_11 => ?_) (fun c_11 => ?_)
          · have _ := c_11
            have i_f_12 : Rg (0) (0) (x2) := rg_eq c_11 (rg_b rfl : Rg (0) (0) (0 : Int32))
            have m_13 : Rg (0) (64) ((0 : Int32)) := (rg_m (rg_b rfl : Rg (0) (0) ((0 : Int32))) (by decide))
            exact zX15_wrongOf_242 hF (pmA_s hA rfl) F o_x1 T r_x0 r_x1 (rg_m (rg_b rfl : Rg (0) (0) ((0 : Int32))) (by decide)) (by have := m_13.1; have := m_13.2; omega)
          · have _ := c_11
            have i_f_14 : Rg (1) (1) (x2) := rg_nlo c_11 i_x2 (rg_b rfl : Rg (0) (0) (0 : Int32))
            exact s_some ⟨(T), (rg_m (rg_b rfl : Rg (3) (3) ((3 : Int32))) (by decide))⟩
        · have _ := c_9
          have i_f_15 : Rg (1) (1) ((hI h r_8 18)) := rg_nlo c_9 (thI T q_r_8 (k := 15) (i := 18) rfl : Rg (0) (1) ((hI h r_8 18))) (rg_b rfl : Rg (0) (0) (0 : Int32))
          refine s_ref e_r_8 ?_
          refine s_br (fun c_16 => ?_) (fun c_16 => ?_)
          · have _ := c_16
            have i_f_17 : Rg (-1) (-1) ((hI h r_8 10)) := rg_eq c_16 (rg_b rfl : Rg (-1) (-1) ((- 1 : Int32)))
            refine s_br (fun c_18 => ?_) (fun c_18 => ?_)
            · have _ := c_18
              have i_f_19 : Rg (0) (0) (x2) := rg_eq c_18 (rg_b rfl : Rg (0) (0) (0 : Int32))
              have m_20 : Rg (0) (64) ((0 : Int32)) := (rg_m (rg_b rfl : Rg (0) (0) ((0 : Int32))) (by decide))
              exact zX15_wrongOf_242 hF (pmA_s hA rfl) F o_x1 T r_x0 r_x1 (rg_m (rg_b rfl : Rg (0) (0) ((0 : Int32))) (by decide)) (by have := m_20.1; have := m_20.2; omega)
            · have _ := c_18
              have i_f_21 : Rg (1) (1) (x2) := rg_nlo c_18 i_x2 (rg_b rfl : Rg (0) (0) (0 : Int32))
              exact s_some ⟨(T), (rg_m (rg_b rfl : Rg (3) (3) ((3 : Int32))) (by decide))⟩
          · have _ := c_16
            have i_f_22 : Rg (0) (11) ((hI h r_8 10)) := rg_nlo c_16 (thI T q_r_8 (k := 15) (i := 10) rfl : Rg (-1) (11) ((hI h r_8 10))) (rg_b rfl : Rg (-1) (-1) ((- 1 : Int32)))
            refine s_ref e_r_1 ?_
            refine s_gd (by rw [thN T q_r_1 (k := 86) (n := 2) rfl (by decide)]; exact rg_inB (rg_b rfl : Rg (0) (0) ((0 : Int32))) (by decide)) ?_
            refine s_br (fun c_23 => ?_) (fun c_23 => ?_)
            · have _ := c_23
              have i_f_24 : Rg (1) (1) ((hI h r_1 (0 : Int32).toNatClampNeg)) := rg_eq c_23 (rg_b rfl : Rg (1) (1) ((1 : Int32)))
              refine s_ref e_r_1 ?_
              refine s_gd (by rw [thN T q_r_1 (k := 86) (n := 2) rfl (by decide)]; exact rg_inB (rg_b rfl : Rg (1) (1) ((1 : Int32))) (by decide)) ?_
              refine s_br (fun c_25 => ?_) (fun c_25 => ?_)
              · have _ := c_25
                have i_f_26 : Rg (1) (1) ((hI h r_1 (1 : Int32).toNatClampNeg)) := rg_eq c_25 (rg_b rfl : Rg (1) (1) ((1 : Int32)))
                refine s_br (fun c_27 => ?_) (fun c_27 => ?_)
                · have _ := c_27
                  have i_f_28 : Rg (0) (0) (x2) := rg_eq c_27 (rg_b rfl : Rg (0) (0) (0 : Int32))
                  have m_29 : Rg (0) (64) ((0 : Int32)) := (rg_m (rg_b rfl : Rg (0) (0) ((0 : Int32))) (by decide))
                  exact zX15_wrongOf_242 hF (pmA_s hA rfl) F o_x1 T r_x0 r_x1 (rg_m (rg_b rfl : Rg (0) (0) ((0 : Int32))) (by decide)) (by have := m_29.1; have := m_29.2; omega)
                · have _ := c_27
                  have i_f_30 : Rg (1) (1) (x2) := rg_nlo c_27 i_x2 (rg_b rfl : Rg (0) (0) (0 : Int32))
                  exact s_some ⟨(T), (rg_m (rg_b rfl : Rg (3) (3) ((3 : Int32))) (by decide))⟩
              · have _ := c_25
                have i_f_31 : Rg (-2147483648) (0) ((hI h r_1 (1 : Int32).toNatClampNeg)) := rg_nhi c_25 i_f_6 (rg_b rfl : Rg (1) (1) ((1 : Int32)))
                exact s_some ⟨(T), (rg_m (rg_b rfl : Rg (2) (2) ((2 : Int32))) (by decide))⟩
            · have _ := c_23
              have i_f_32 : Rg (-2147483648) (0) ((hI h r_1 (0 : Int32).toNatClampNeg)) := rg_nhi c_23 i_f_3 (rg_b rfl : Rg (1) (1) ((1 : Int32)))
              exact s_some ⟨(T), (rg_m (rg_b rfl : Rg (2) (2) ((2 : Int32))) (by decide))⟩
      · have _ := c_7
        have i_f_33 : Rg (1) (1) (t0) := rg_nlo c_7 i_t0 (rg_b rfl : Rg (0) (0) (0 : Int32))
        exact s_some ⟨(T), (rg_m (rg_b rfl : Rg (2) (2) ((2 : Int32))) (by decide))⟩
set_option maxRecDepth 20000 in
theorem zX15_wrongOf_18 {ρ : Nat → Nat} {c : Cm} {F : Nat} {w_x1 : Nat} (hF : 700000 ≤ F) (hA : pmA c [(86, 999), (16, 23), (16, 24)]) : ∀ (f : Nat) {h : Hp} {x0 : Nat} {x1 : Nat} {x2 : Int32} {x3 : Int32}, cw c x1 = w_x1 → TH ρ c h → ρ x0 = 16 → ρ x1 = 13 → Rg (0) (1) (x2) → Rg (0) (64) (x3) → (64 - x3.toInt).toNat < f → Sat (sX15_wrongOf_18 F f h x0 x1 x2 x3) (ZI ρ c (0) (8)) := by
  intro f
  induction f with
  | zero => intros; omega
  | succ f ih =>
    intro h x0 x1 x2 x3 o_x1 T r_x0 r_x1 i_x2 i_x3 hm
    rw [sX15_wrongOf_18]
    unfold sX15_wrongOf_164 sX15_wrongOf_109 sX15_sideOf sX15_manOf
    obtain ⟨C_18, hC_18⟩ : ∃ C : Int, C = x3.toInt := ⟨_, rfl⟩
    have hk_18 : ∀ {h : Hp} {x0 : Nat} {x1 : Nat} {x2 : Int32} {x3 : Int32}, cw c x1 = w_x1 → TH ρ c h → ρ x0 = 16 → ρ x1 = 13 → Rg (0) (1) (x2) → Rg (0) (64) (x3) → C_18 < x3.toInt → Sat (sX15_wrongOf_18 F f h x0 x1 x2 x3) (ZI ρ c (0) (8)) := by
      intro h' x0' x1' x2' x3' o_x1' T' r_x0' r_x1' i_x2' i_x3' hl
      exact ih o_x1' T' r_x0' r_x1' i_x2' i_x3' (by have := i_x3'.1; have := i_x3'.2; omega)
    have hc_18 : C_18 ≤ x3.toInt := by omega
    refine s_br (fun c_1 => ?_) (fun c_1 => ?_)
    · have _ := c_1
      have i_f_2 : Rg (9) (64) (x3) := rg_le2 c_1 (thI T r_x0 (k := 16) (i := 13) rfl : Rg (9) (64) ((hI h x0 13))) i_x3
      obtain ⟨r_2, e_r_2, q_r_2⟩ := thR T r_x0 (k := 16) (i := 4) (k2 := 15) rfl (by decide)
      refine s_ref e_r_2 ?_
      refine s_br (fun c_3 => ?_) (fun c_3 => ?_)
      · have _ := c_3
        have i_f_4 : Rg (-1) (-1) ((hI h r_2 10)) := rg_eq c_3 (rg_b rfl : Rg (-1) (-1) ((- 1 : Int32)))
        exact zX15_wrongOf_165 hF (pmA_s hA rfl) o_x1 T r_x0 r_x1 i_x2 (rg_m (rg_b rfl : Rg (0) (0) ((0 : Int32))) (by decide))
      · have _ := c_3
        have i_f_5 : Rg (0) (11) ((hI h r_2 10)) := rg_nlo c_3 (thI T q_r_2 (k := 15) (i := 10) rfl : Rg (-1) (11) ((hI h r_2 10))) (rg_b rfl : Rg (-1) (-1) ((- 1 : Int32)))
        obtain ⟨r_4, e_r_4, q_r_4⟩ := thR T r_x1 (k := 13) (i := 5) (k2 := 64) rfl (by decide)
        refine s_ref e_r_4 ?_
        refine s_ref e_r_2 ?_
        refine s_gd (by rw [thN T q_r_4 (k := 64) (n := 24) rfl (by decide)]; exact rg_inB (rg_mulc' (rg_b rfl : Rg (2) (2) ((2 : Int32))) i_f_5 (by decide) : Rg (0) (22) (((2 : Int32) * (hI h r_2 10)))) (by decide)) ?_
        refine s_ref e_r_4 ?_
        refine s_ref e_r_2 ?_
        refine s_gd (by rw [thN T q_r_4 (k := 64) (n := 24) rfl (by decide)]; exact rg_inB (rg_add (rg_mulc' (rg_b rfl : Rg (2) (2) ((2 : Int32))) i_f_5 (by decide) : Rg (0) (22) (((2 : Int32) * (hI h r_2 10)))) (rg_b rfl : Rg (1) (1) ((1 : Int32))) (by decide) : Rg (1) (23) ((((2 : Int32) * (hI h r_2 10)) + (1 : Int32)))) (by decide)) ?_
        refine s_br (fun c_6 => ?_) (fun c_6 => ?_)
        · have _ := c_6
          have i_f_7 : Rg (0) (0) (((hI h r_4 ((2 : Int32) * (hI h r_2 10)).toNatClampNeg) + (hI h r_4 (((2 : Int32) * (hI h r_2 10)) + (1 : Int32)).toNatClampNeg))) := rg_le1 c_6 (rg_add (thI T q_r_4 (k := 64) rfl : Rg (0) (16) ((hI h r_4 ((2 : Int32) * (hI h r_2 10)).toNatClampNeg))) (thI T q_r_4 (k := 64) rfl : Rg (0) (16) ((hI h r_4 (((2 : Int32) * (hI h r_2 10)) + (1 : Int32)).toNatClampNeg))) (by decide) : Rg (0) (32) (((hI h r_4 ((2 : Int32) * (hI h r_2 10)).toNatClampNeg) + (hI h r_4 (((2 : Int32) * (hI h r_2 10)) + (1 : Int32)).toNatClampNeg)))) (rg_b rfl : Rg (0) (0) (0 : Int32))
          exact zX15_wrongOf_165 hF (pmA_s hA rfl) o_x1 T r_x0 r_x1 i_x2 (rg_m (rg_b rfl : Rg (0) (0) ((0 : Int32))) (by decide))
        · have _ := c_6
          have i_f_8 : Rg (1) (32) (((hI h r_4 ((2 : Int32) * (hI h r_2 10)).toNatClampNeg) + (hI h r_4 (((2 : Int32) * (hI h r_2 10)) + (1 : Int32)).toNatClampNeg))) := rg_lt2 (nle_lt c_6) (rg_b rfl : Rg (0) (0) (0 : Int32)) (rg_add (thI T q_r_4 (k := 64) rfl : Rg (0) (16) ((hI h r_4 ((2 : Int32) * (hI h r_2 10)).toNatClampNeg))) (thI T q_r_4 (k := 64) rfl : Rg (0) (16) ((hI h r_4 (((2 : Int32) * (hI h r_2 10)) + (1 : Int32)).toNatClampNeg))) (by decide) : Rg (0) (32) (((hI h r_4 ((2 : Int32) * (hI h r_2 10)).toNatClampNeg) + (hI h r_4 (((2 : Int32) * (hI h r_2 10)) + (1 : Int32)).toNatClampNeg))))
          exact zX15_wrongOf_165 hF (pmA_s hA rfl) o_x1 T r_x0 r_x1 i_x2 (rg_m (rg_b rfl : Rg (1) (1) ((1 : Int32))) (by decide))
    · have _ := c_1
      have i_f_9 : Rg (0) (63) (x3) := rg_lt1 (nle_lt c_1) i_x3 (thI T r_x0 (k := 16) (i := 13) rfl : Rg (9) (64) ((hI h x0 13)))
      obtain ⟨r_11, e_r_11, q_r_11⟩ := thR T r_x1 (k := 13) (i := 0) (k2 := 62) rfl (by decide)
      refine s_ref e_r_11 ?_
      refine s_gd (by rw [thN T q_r_11 (k := 62) (n := 64) rfl (by decide)]; exact rg_inB i_f_9 (by decide)) ?_
      refine s_q (fun v_13 e_10 => ?_)
      have i_v_13 : Rg (0) (24) (v_13) := by rw [e_10]; exact (thI T q_r_11 (k := 62) rfl : Rg (0) (24) (hI h r_11 x3.toNatClampNeg))
      refine s_br (fun c_11 => ?_) (fun c_11 => ?_)
      · have _ := c_11
        have i_f_12 : Rg (0) (0) (v_13) := rg_le1 c_11 i_v_13 (rg_b rfl : Rg (0) (0) (0 : Int32))
        refine s_q (fun v_1q3 e_13 => ?_)
        have i_v_1q3 : Rg (1) (64) (v_1q3) := by rw [e_13]; exact (rg_add i_f_9 (rg_b rfl : Rg (1) (1) ((1 : Int32))) (by decide) : Rg (1) (64) (x3 + (1 : Int32)))
        have m_14 : (v_1q3).toInt = x3.toInt + 1 := by rw [e_13]; exact rg_inc i_f_9 (by decide)
        exact hk_18 o_x1 T r_x0 r_x1 i_x2 (rg_m i_v_1q3 (by decide)) (by have := hc_18; omega)
      · have _ := c_11
        have i_f_15 : Rg (1) (24) (v_13) := rg_lt2 (nle_lt c_11) (rg_b rfl : Rg (0) (0) (0 : Int32)) i_v_13
        obtain ⟨r_15, e_r_15, q_r_15⟩ := thR T r_x0 (k := 16) (i := 22) (k2 := 86) rfl (by decide)
        refine s_ref e_r_15 ?_
        refine s_pu (fun o_16z e_16 => ?_)
        try dsimp only
        have i_o_16z : Rg (0) (1) (o_16z) := by rw [e_16]; exact (rg_and (rg_b rfl : Rg (1) (1) ((1 : Int32))) (by decide) : Rg (0) (1) ((v_13 - (1 : Int32)) &&& (1 : Int32)))
        refine s_gd (by rw [thN T q_r_15 (k := 86) (n := 2) rfl (by decide)]; exact rg_inB i_o_16z (by decide)) ?_
        refine s_pu (fun o_18z e_17 => ?_)
        try dsimp only
        have i_o_18z : Rg (0) (11) (o_18z) := by rw [e_17]; exact (rg_shrk 1 (by decide) (rg_sub i_f_15 (rg_b rfl : Rg (1) (1) ((1 : Int32))) (by decide) : Rg (0) (23) ((v_13 - (1 : Int32)))) (by decide) : Rg (0) (11) ((v_13 - (1 : Int32)) >>> ((1 : Int32) &&& 31)))
        obtain ⟨r_19, e_r_19, q_r_19⟩ := thR T r_x0 (k := 16) (i := 4) (k2 := 15) rfl (by decide)
        refine s_ref e_r_19 ?_
        refine s_br (fun c_18 => ?_) (fun c_18 => ?_)
        · have _ := c_18
          have i_f_19 : Rg (0) (11) ((hI h r_19 10)) := rg_eq c_18.symm i_o_18z
          exact zX15_wrongOf_70 hF @hk_18 (pmA_s hA rfl) o_x1 T r_x0 r_x1 i_x2 i_f_9 i_f_15 (rg_m (rg_b rfl : Rg (1) (1) ((1 : Int32))) (by decide)) (thI T q_r_15 (k := 86) rfl : Rg (-2147483648) (2147483647) ((hI h r_15 o_16z.toNatClampNeg))) i_o_16z q_r_15 hc_18
        · have _ := c_18
          exact zX15_wrongOf_70 hF @hk_18 (pmA_s hA rfl) o_x1 T r_x0 r_x1 i_x2 i_f_9 i_f_15 (rg_m (rg_b rfl : Rg (0) (0) ((0 : Int32))) (by decide)) (thI T q_r_15 (k := 86) rfl : Rg (-2147483648) (2147483647) ((hI h r_15 o_16z.toNatClampNeg))) i_o_16z q_r_15 hc_18
set_option maxRecDepth 20000 in
theorem zX15_wrongOf {ρ : Nat → Nat} {c : Cm} {F : Nat} {w_x1 : Nat} (hF : 700000 ≤ F) (hA : pmA c [(86, 999), (16, 23), (16, 24)]) {h : Hp} {x0 : Nat} {x1 : Nat} (o_x1 : cw c x1 = w_x1) (T : TH ρ c h) (r_x0 : ρ x0 = 16) (r_x1 : ρ x1 = 13) : Sat (sX15_wrongOf F h x0 x1) (ZI ρ c (0) (8)) := by
  unfold sX15_wrongOf 
  obtain ⟨r_1, e_r_1, q_r_1⟩ := thR T r_x0 (k := 16) (i := 22) (k2 := 86) rfl (by decide)
  refine s_ref e_r_1 ?_
  refine s_gd (by rw [thN T q_r_1 (k := 86) (n := 2) rfl (by decide)]; exact rg_inB (rg_b rfl : Rg (0) (0) ((0 : Int32))) (by decide)) ?_
  refine s_hq (th_wI T q_r_1 (k := 86) (lo := (-2147483648)) (hi := (2147483647)) rfl ((rg_m (rg_b rfl : Rg (0) (0) ((0 : Int32))) (by decide)) : Rg (-2147483648) (2147483647) ((0 : Int32))) (by decide) (by decide) (pm_a hA rfl)) (fun h_3 T_1 w_2 => ?_)
  refine s_ref (hr_w w_2 e_r_1) ?_
  refine s_gd (by rw [thN T_1 q_r_1 (k := 86) (n := 2) rfl (by decide)]; exact rg_inB (rg_b rfl : Rg (1) (1) ((1 : Int32))) (by decide)) ?_
  refine s_hq (th_wI T_1 q_r_1 (k := 86) (lo := (-2147483648)) (hi := (2147483647)) rfl ((rg_m (rg_b rfl : Rg (0) (0) ((0 : Int32))) (by decide)) : Rg (-2147483648) (2147483647) ((0 : Int32))) (by decide) (by decide) (pm_a hA rfl)) (fun h_6 T_3 w_4 => ?_)
  have m_5 : Rg (0) (64) ((0 : Int32)) := (rg_m (rg_b rfl : Rg (0) (0) ((0 : Int32))) (by decide))
  exact zX15_wrongOf_18 hF (pmA_s hA rfl) F o_x1 T_3 r_x0 r_x1 (rg_m (rg_b rfl : Rg (0) (0) ((0 : Int32))) (by decide)) (rg_m (rg_b rfl : Rg (0) (0) ((0 : Int32))) (by decide)) (by have := m_5.1; have := m_5.2; omega)
set_option maxRecDepth 20000 in
theorem zX15_freePlace_2 {ρ : Nat → Nat} {c : Cm} {h0 : Hp} {F : Nat} (hF : 700000 ≤ F) : ∀ (f : Nat) {h : Hp} {x0 : Nat} {x1 : Int32}, h = h0 → TH ρ c h → ρ x0 = 16 → Rg (0) (60) (x1) → (60 - x1.toInt).toNat < f → Sat (sX15_freePlace_2 F f h x0 x1) (ZI0 h0 (-1) (59)) := by
  intro f
  induction f with
  | zero => intros; omega
  | succ f ih =>
    intro h x0 x1 E T r_x0 i_x1 hm
    rw [sX15_freePlace_2]
    obtain ⟨C_2, hC_2⟩ : ∃ C : Int, C = x1.toInt := ⟨_, rfl⟩
    have hk_2 : ∀ {h : Hp} {x0 : Nat} {x1 : Int32}, h = h0 → TH ρ c h → ρ x0 = 16 → Rg (0) (60) (x1) → C_2 < x1.toInt → Sat (sX15_freePlace_2 F f h x0 x1) (ZI0 h0 (-1) (59)) := by
      intro h' x0' x1' E' T' r_x0' i_x1' hl
      exact ih E' T' r_x0' i_x1' (by have := i_x1'.1; have := i_x1'.2; omega)
    have hc_2 : C_2 ≤ x1.toInt := by omega
    refine s_br (fun c_1 => ?_) (fun c_1 => ?_)
    · have _ := c_1
      have i_f_2 : Rg (60) (60) (x1) := rg_le2 c_1 (rg_b rfl : Rg (60) (60) ((60 : Int32))) i_x1
      exact s_some ⟨E, (rg_m (rg_b rfl : Rg (-1) (-1) ((- 1 : Int32))) (by decide))⟩
    · have _ := c_1
      have i_f_3 : Rg (0) (59) (x1) := rg_lt1 (nle_lt c_1) i_x1 (rg_b rfl : Rg (60) (60) ((60 : Int32)))
      obtain ⟨r_2, e_r_2, q_r_2⟩ := thR T r_x0 (k := 16) (i := 15) (k2 := 85) rfl (by decide)
      refine s_ref e_r_2 ?_
      refine s_gd (by rw [thN T q_r_2 (k := 85) (n := 60) rfl (by decide)]; exact rg_inB i_f_3 (by decide)) ?_
      refine s_br (fun c_4 => ?_) (fun c_4 => ?_)
      · have _ := c_4
        have i_f_5 : Rg (0) (0) ((hI h r_2 x1.toNatClampNeg)) := rg_eq c_4 (rg_b rfl : Rg (0) (0) (0 : Int32))
        exact s_some ⟨E, (rg_m i_f_3 (by decide))⟩
      · have _ := c_4
        refine s_q (fun v_5 e_6 => ?_)
        have i_v_5 : Rg (1) (60) (v_5) := by rw [e_6]; exact (rg_add i_f_3 (rg_b rfl : Rg (1) (1) ((1 : Int32))) (by decide) : Rg (1) (60) (x1 + (1 : Int32)))
        have m_7 : (v_5).toInt = x1.toInt + 1 := by rw [e_6]; exact rg_inc i_f_3 (by decide)
        exact hk_2 E T r_x0 (rg_m i_v_5 (by decide)) (by have := hc_2; omega)
set_option maxRecDepth 20000 in
theorem zX15_freePlace {ρ : Nat → Nat} {c : Cm} {F : Nat} (hF : 700000 ≤ F) {h : Hp} {x0 : Nat} (T : TH ρ c h) (r_x0 : ρ x0 = 16) : Sat (sX15_freePlace F h x0) (ZI0 h (-1) (59)) := by
  unfold sX15_freePlace 
  have m_1 : Rg (0) (60) ((0 : Int32)) := (rg_m (rg_b rfl : Rg (0) (0) ((0 : Int32))) (by decide))
  exact zX15_freePlace_2 hF F rfl T r_x0 (rg_m (rg_b rfl : Rg (0) (0) ((0 : Int32))) (by decide)) (by have := m_1.1; have := m_1.2; omega)
set_option maxRecDepth 20000 in
theorem zX15_endedBy_61 {ρ : Nat → Nat} {c : Cm} {F : Nat} {w_x1 : Nat} (hF : 700000 ≤ F) (hA : pmA c [(16, 29)]) {h : Hp} {x0 : Nat} {x1 : Nat} (o_x1 : cw c x1 = w_x1) (T : TH ρ c h) (r_x0 : ρ x0 = 16) (r_x1 : ρ x1 = 13) : Sat (sX15_endedBy_61 F h x0 x1) (ZI ρ c (0) (6)) := by
  unfold sX15_endedBy_61 sX15_endedBy_100
  obtain ⟨r_1, e_r_1, q_r_1⟩ := thR T r_x0 (k := 16) (i := 4) (k2 := 15) rfl (by decide)
  refine s_ref e_r_1 ?_
  refine s_br (fun c_1 => ?_) (fun c_1 => ?_)
  · have _ := c_1
    have i_f_2 : Rg (0) (0) ((hI h r_1 22)) := rg_eq c_1 (rg_b rfl : Rg (0) (0) (0 : Int32))
    refine s_hq (th_wI T r_x0 (k := 16) (lo := (0)) (hi := (2)) rfl ((rg_m (rg_b rfl : Rg (2) (2) ((2 : Int32))) (by decide)) : Rg (0) (2) ((2 : Int32))) (by decide) (by decide) (pm_a hA rfl)) (fun h_1q1 T_3 w_4 => ?_)
    exact s_some ⟨(T_3), (rg_m (rg_b rfl : Rg (6) (6) ((6 : Int32))) (by decide))⟩
  · have _ := c_1
    have i_f_5 : Rg (1) (2) ((hI h r_1 22)) := rg_nlo c_1 (thI T q_r_1 (k := 15) (i := 22) rfl : Rg (0) (2) ((hI h r_1 22))) (rg_b rfl : Rg (0) (0) (0 : Int32))
    refine s_ref e_r_1 ?_
    refine s_br (fun c_6 => ?_) (fun c_6 => ?_)
    · have _ := c_6
      have i_f_7 : Rg (1) (1) ((hI h r_1 22)) := rg_eq c_6 (rg_b rfl : Rg (1) (1) ((1 : Int32)))
      refine s_hq (th_wI T r_x0 (k := 16) (lo := (0)) (hi := (2)) rfl ((rg_m (thI T r_x1 (k := 13) (i := 1) rfl : Rg (0) (1) ((hI h x1 1))) (by decide)) : Rg (0) (2) ((hI h x1 1))) (by decide) (by decide) (pm_a hA rfl)) (fun h_1q2 T_8 w_9 => ?_)
      exact s_some ⟨(T_8), (rg_m (rg_b rfl : Rg (6) (6) ((6 : Int32))) (by decide))⟩
    · have _ := c_6
      have i_f_10 : Rg (2) (2) ((hI h r_1 22)) := rg_nlo c_6 i_f_5 (rg_b rfl : Rg (1) (1) ((1 : Int32)))
      refine s_hq (th_wI T r_x0 (k := 16) (lo := (0)) (hi := (2)) rfl ((rg_m (rg_sub (rg_b rfl : Rg (1) (1) ((1 : Int32))) (thI T r_x1 (k := 13) (i := 1) rfl : Rg (0) (1) ((hI h x1 1))) (by decide) : Rg (0) (1) (((1 : Int32) - (hI h x1 1)))) (by decide)) : Rg (0) (2) (((1 : Int32) - (hI h x1 1)))) (by decide) (by decide) (pm_a hA rfl)) (fun h_1q3 T_11 w_12 => ?_)
      exact s_some ⟨(T_11), (rg_m (rg_b rfl : Rg (6) (6) ((6 : Int32))) (by decide))⟩
set_option maxRecDepth 20000 in
theorem zX15_endedBy {ρ : Nat → Nat} {c : Cm} {F : Nat} {w_x1 : Nat} (hF : 700000 ≤ F) (hA : pmA c [(16, 23), (16, 24), (16, 29)]) {h : Hp} {x0 : Nat} {x1 : Nat} {x2 : Int32} (o_x1 : cw c x1 = w_x1) (T : TH ρ c h) (r_x0 : ρ x0 = 16) (r_x1 : ρ x1 = 13) (i_x2 : Rg (0) (3000) (x2)) : Sat (sX15_endedBy F h x0 x1 x2) (ZI ρ c (0) (6)) := by
  unfold sX15_endedBy sX15_endedBy_14
  refine s_cI (zX15_early hF (pmA_s hA rfl) o_x1 T r_x0 r_x1) (fun o_1 T_1 i_o_1 => ?_)
  refine s_br (fun c_2 => ?_) (fun c_2 => ?_)
  · have _ := c_2
    have i_f_3 : Rg (1) (4) (o_1.1) := rg_lt2 c_2 (rg_b rfl : Rg (0) (0) (0 : Int32)) i_o_1
    exact s_some ⟨(T_1), (rg_m i_f_3 (by decide))⟩
  · have _ := c_2
    have i_f_4 : Rg (0) (0) (o_1.1) := rg_le1 (nlt_le c_2) i_o_1 (rg_b rfl : Rg (0) (0) (0 : Int32))
    refine s_br (fun c_5 => ?_) (fun c_5 => ?_)
    · have _ := c_5
      have i_f_6 : Rg (0) (0) (x2) := rg_le1 c_5 i_x2 (rg_b rfl : Rg (0) (0) (0 : Int32))
      refine s_cI0 (zX15_royalOf hF T_1 r_x0 r_x1 (thI T_1 r_x1 (k := 13) (i := 1) rfl : Rg (0) (1) ((hI o_1.2 x1 1)))) (fun o_4 e_o_4 i_o_4 => ?_)
      have T_7 := th_eq e_o_4 T_1
      refine s_br (fun c_8 => ?_) (fun c_8 => ?_)
      · have _ := c_8
        have i_f_9 : Rg (-1) (-1) (o_4.1) := rg_eq c_8 (rg_b rfl : Rg (-1) (-1) ((- 1 : Int32)))
        exact zX15_endedBy_61 hF (pmA_s hA rfl) o_x1 T_7 r_x0 r_x1
      · have _ := c_8
        have i_f_10 : Rg (0) (63) (o_4.1) := rg_nlo c_8 i_o_4 (rg_b rfl : Rg (-1) (-1) ((- 1 : Int32)))
        refine s_cI (zX15_isAttacked hF (pmA_s hA rfl) o_x1 T_7 r_x0 r_x1 i_f_10 (rg_sub (rg_b rfl : Rg (1) (1) ((1 : Int32))) (thI T_7 r_x1 (k := 13) (i := 1) rfl : Rg (0) (1) ((hI o_4.2 x1 1))) (by decide) : Rg (0) (1) (((1 : Int32) - (hI o_4.2 x1 1))))) (fun o_6 T_11 i_o_6 => ?_)
        refine s_br (fun c_12 => ?_) (fun c_12 => ?_)
        · have _ := c_12
          have i_f_13 : Rg (0) (0) (o_6.1) := rg_eq c_12 (rg_b rfl : Rg (0) (0) (0 : Int32))
          exact zX15_endedBy_61 hF (pmA_s hA rfl) o_x1 T_11 r_x0 r_x1
        · have _ := c_12
          have i_f_14 : Rg (1) (1) (o_6.1) := rg_nlo c_12 i_o_6 (rg_b rfl : Rg (0) (0) (0 : Int32))
          refine s_hq (th_wI T_11 r_x0 (k := 16) (lo := (0)) (hi := (2)) rfl ((rg_m (rg_sub (rg_b rfl : Rg (1) (1) ((1 : Int32))) (thI T_11 r_x1 (k := 13) (i := 1) rfl : Rg (0) (1) ((hI o_6.2 x1 1))) (by decide) : Rg (0) (1) (((1 : Int32) - (hI o_6.2 x1 1)))) (by decide)) : Rg (0) (2) (((1 : Int32) - (hI o_6.2 x1 1)))) (by decide) (by decide) (pm_a hA rfl)) (fun h_8 T_15 w_16 => ?_)
          exact s_some ⟨(T_15), (rg_m (rg_b rfl : Rg (5) (5) ((5 : Int32))) (by decide))⟩
    · have _ := c_5
      have i_f_17 : Rg (1) (3000) (x2) := rg_lt2 (nle_lt c_5) (rg_b rfl : Rg (0) (0) (0 : Int32)) i_x2
      exact s_some ⟨(T_1), (rg_m i_f_4 (by decide))⟩
set_option maxRecDepth 20000 in
theorem zX15_layState_111 {ρ : Nat → Nat} {c : Cm} {F : Nat} (hF : 700000 ≤ F) {k_27 : Hp → Nat → Int32 → Int32 → Int32 → Int32 → Option (Int32 × Hp)} {C_27 : Int} (hk_27 : ∀ {h : Hp} {x0 : Nat} {x1 : Int32} {x3 : Int32} {x4 : Int32} {x5 : Int32}, TH ρ c h → ρ x0 = 16 → Rg (0) (4095) (x1) → Rg (0) (1073741823) (x3) → Rg (-1) (63) (x4) → Rg (0) (5) (x5) → C_27 < x5.toInt → Sat (k_27 h x0 x1 x3 x4 x5) (ZI ρ c (0) (1))) (hi_2560 : pmO c 2560 [(62, 999)]) {h : Hp} {x0 : Nat} {x1 : Int32} {x3 : Int32} {x5 : Int32} {x6 : Int32} {x7 : Int32} (T : TH ρ c h) (r_x0 : ρ x0 = 16) (i_x1 : Rg (0) (4095) (x1)) (i_x3 : Rg (0) (119304647) (x3)) (i_x5 : Rg (0) (4) (x5)) (i_x6 : Rg (0) (63) (x6)) (i_x7 : Rg (0) (24) (x7)) (hc_27 : C_27 ≤ x5.toInt) : Sat (sX15_layState_111 F k_27 h x0 x1 x3 x5 x6 x7) (ZI ρ c (0) (1)) := by
  unfold sX15_layState_111 
  obtain ⟨r_1, e_r_1, q_r_1⟩ := thR T r_x0 (k := 16) (i := 60) (k2 := 13) rfl (by decide)
  refine s_ref e_r_1 ?_
  obtain ⟨r_2, e_r_2, q_r_2⟩ := thR T q_r_1 (k := 13) (i := 0) (k2 := 62) rfl (by decide)
  refine s_ref e_r_2 ?_
  refine s_gd (by rw [thN T q_r_2 (k := 62) (n := 64) rfl (by decide)]; exact rg_inB i_x6 (by decide)) ?_
  refine s_hq (th_wI T q_r_2 (k := 62) (lo := (0)) (hi := (24)) rfl (i_x7 : Rg (0) (24) (x7)) (by decide) (by decide) (pm_o hi_2560 (th_ih T q_r_1 (k := 13) rfl e_r_2 (th_id T r_x0 (k := 16) (i := 60) (w := 2560) e_r_1 rfl (by decide))) rfl)) (fun h_4 T_1 w_2 => ?_)
  refine s_q (fun v_5 e_3 => ?_)
  have i_v_5 : Rg (1) (5) (v_5) := by rw [e_3]; exact (rg_add i_x5 (rg_b rfl : Rg (1) (1) ((1 : Int32))) (by decide) : Rg (1) (5) (x5 + (1 : Int32)))
  have m_4 : (v_5).toInt = x5.toInt + 1 := by rw [e_3]; exact rg_inc i_x5 (by decide)
  exact hk_27 T_1 r_x0 i_x1 (rg_m i_x3 (by decide)) (rg_m i_x6 (by decide)) (rg_m i_v_5 (by decide)) (by have := hc_27; omega)
set_option maxRecDepth 20000 in
theorem zX15_layState_27 {ρ : Nat → Nat} {c : Cm} {F : Nat} (hF : 700000 ≤ F) (hi_2560 : pmO c 2560 [(62, 999)]) : ∀ (f : Nat) {h : Hp} {x0 : Nat} {x1 : Int32} {x3 : Int32} {x4 : Int32} {x5 : Int32}, TH ρ c h → ρ x0 = 16 → Rg (0) (4095) (x1) → Rg (0) (1073741823) (x3) → Rg (-1) (63) (x4) → Rg (0) (5) (x5) → (5 - x5.toInt).toNat < f → Sat (sX15_layState_27 F f h x0 x1 x3 x4 x5) (ZI ρ c (0) (1)) := by
  intro f
  induction f with
  | zero => intros; omega
  | succ f ih =>
    intro h x0 x1 x3 x4 x5 T r_x0 i_x1 i_x3 i_x4 i_x5 hm
    rw [sX15_layState_27]
    unfold sX15_layState_109
    obtain ⟨C_27, hC_27⟩ : ∃ C : Int, C = x5.toInt := ⟨_, rfl⟩
    have hk_27 : ∀ {h : Hp} {x0 : Nat} {x1 : Int32} {x3 : Int32} {x4 : Int32} {x5 : Int32}, TH ρ c h → ρ x0 = 16 → Rg (0) (4095) (x1) → Rg (0) (1073741823) (x3) → Rg (-1) (63) (x4) → Rg (0) (5) (x5) → C_27 < x5.toInt → Sat (sX15_layState_27 F f h x0 x1 x3 x4 x5) (ZI ρ c (0) (1)) := by
      intro h' x0' x1' x3' x4' x5' T' r_x0' i_x1' i_x3' i_x4' i_x5' hl
      exact ih T' r_x0' i_x1' i_x3' i_x4' i_x5' (by have := i_x5'.1; have := i_x5'.2; omega)
    have hc_27 : C_27 ≤ x5.toInt := by omega
    obtain ⟨r_1, e_r_1, q_r_1⟩ := thR T r_x0 (k := 16) (i := 46) (k2 := 99) rfl (by decide)
    refine s_ref e_r_1 ?_
    refine s_gd (by rw [thN T q_r_1 (k := 99) (n := 4096) rfl (by decide)]; exact rg_inB i_x1 (by decide)) ?_
    refine s_br (fun c_1 => ?_) (fun c_1 => ?_)
    · have _ := c_1
      exact s_some ⟨(T), (rg_m (rg_b rfl : Rg (1) (1) ((1 : Int32))) (by decide))⟩
    · have _ := c_1
      have i_f_2 : Rg (0) (4) (x5) := rg_lt1 (nle_lt c_1) i_x5 (thI T q_r_1 (k := 99) rfl : Rg (0) (5) ((hI h r_1 x1.toNatClampNeg)))
      have i_f_3 : Rg (1) (5) ((hI h r_1 x1.toNatClampNeg)) := rg_lt2 (nle_lt c_1) i_x5 (thI T q_r_1 (k := 99) rfl : Rg (0) (5) ((hI h r_1 x1.toNatClampNeg)))
      refine s_gd (rg_ne0 (thI T r_x0 (k := 16) (i := 13) rfl : Rg (9) (64) ((hI h x0 13))) (by decide)) ?_
      refine s_q (fun v_5 e_4 => ?_)
      have i_v_5 : Rg (0) (63) (v_5) := by rw [e_4]; exact (rg_rem i_x3 (thI T r_x0 (k := 16) (i := 13) rfl : Rg (9) (64) ((hI h x0 13))) (by decide) : Rg (0) (63) (x3 - x3 / (hI h x0 13) * (hI h x0 13)))
      refine s_gd (rg_ne0 (thI T r_x0 (k := 16) (i := 13) rfl : Rg (9) (64) ((hI h x0 13))) (by decide)) ?_
      refine s_q (fun v_7 e_5 => ?_)
      have i_v_7 : Rg (0) (119304647) (v_7) := by rw [e_5]; exact (rg_divw i_x3 (thI T r_x0 (k := 16) (i := 13) rfl : Rg (9) (64) ((hI h x0 13))) (by decide) : Rg (0) (119304647) (x3 / (hI h x0 13)))
      obtain ⟨r_8, e_r_8, q_r_8⟩ := thR T r_x0 (k := 16) (i := 47) (k2 := 100) rfl (by decide)
      refine s_ref e_r_8 ?_
      refine s_gd (by rw [thN T q_r_8 (k := 100) (n := 20480) rfl (by decide)]; exact rg_inB (rg_add (rg_mulc' (rg_b rfl : Rg (5) (5) ((5 : Int32))) i_x1 (by decide) : Rg (0) (20475) (((5 : Int32) * x1))) i_f_2 (by decide) : Rg (0) (20479) ((((5 : Int32) * x1) + x5))) (by decide)) ?_
      refine s_q (fun v_10 e_6 => ?_)
      have i_v_10 : Rg (0) (24) (v_10) := by rw [e_6]; exact (thI T q_r_8 (k := 100) rfl : Rg (0) (24) (hI h r_8 (((5 : Int32) * x1) + x5).toNatClampNeg))
      obtain ⟨r_11, e_r_11, q_r_11⟩ := thR T r_x0 (k := 16) (i := 60) (k2 := 13) rfl (by decide)
      refine s_ref e_r_11 ?_
      obtain ⟨r_12, e_r_12, q_r_12⟩ := thR T q_r_11 (k := 13) (i := 0) (k2 := 62) rfl (by decide)
      refine s_ref e_r_12 ?_
      refine s_gd (by rw [thN T q_r_12 (k := 62) (n := 64) rfl (by decide)]; exact rg_inB i_v_5 (by decide)) ?_
      refine s_br (fun c_7 => ?_) (fun c_7 => ?_)
      · have _ := c_7
        have i_f_8 : Rg (1) (24) ((hI h r_12 v_5.toNatClampNeg)) := rg_lt2 c_7 (rg_b rfl : Rg (0) (0) (0 : Int32)) (thI T q_r_12 (k := 62) rfl : Rg (0) (24) ((hI h r_12 v_5.toNatClampNeg)))
        exact s_some ⟨(T), (rg_m (rg_b rfl : Rg (0) (0) ((0 : Int32))) (by decide))⟩
      · have _ := c_7
        have i_f_9 : Rg (0) (0) ((hI h r_12 v_5.toNatClampNeg)) := rg_le1 (nlt_le c_7) (thI T q_r_12 (k := 62) rfl : Rg (0) (24) ((hI h r_12 v_5.toNatClampNeg))) (rg_b rfl : Rg (0) (0) (0 : Int32))
        refine s_br (fun c_10 => ?_) (fun c_10 => ?_)
        · have _ := c_10
          have i_f_11 : Rg (0) (0) (x5) := rg_le1 c_10 i_f_2 (rg_b rfl : Rg (0) (0) (0 : Int32))
          exact zX15_layState_111 hF @hk_27 (pmO_s hi_2560 rfl) T r_x0 i_x1 i_v_7 (rg_m i_f_11 (by decide)) i_v_5 i_v_10 hc_27
        · have _ := c_10
          have i_f_12 : Rg (1) (4) (x5) := rg_lt2 (nle_lt c_10) (rg_b rfl : Rg (0) (0) (0 : Int32)) i_f_2
          refine s_ref e_r_8 ?_
          refine s_gd (by rw [thN T q_r_8 (k := 100) (n := 20480) rfl (by decide)]; exact rg_inB (rg_sub (rg_add (rg_mulc' (rg_b rfl : Rg (5) (5) ((5 : Int32))) i_x1 (by decide) : Rg (0) (20475) (((5 : Int32) * x1))) i_f_12 (by decide) : Rg (1) (20479) ((((5 : Int32) * x1) + x5))) (rg_b rfl : Rg (1) (1) ((1 : Int32))) (by decide) : Rg (0) (20478) (((((5 : Int32) * x1) + x5) - (1 : Int32)))) (by decide)) ?_
          refine s_br (fun c_13 => ?_) (fun c_13 => ?_)
          · have _ := c_13
            refine s_br (fun c_14 => ?_) (fun c_14 => ?_)
            · have _ := c_14
              exact zX15_layState_111 hF @hk_27 (pmO_s hi_2560 rfl) T r_x0 i_x1 i_v_7 (rg_m i_f_12 (by decide)) i_v_5 i_v_10 hc_27
            · have _ := c_14
              have i_f_15 : Rg (0) (62) (v_5) := rg_lt1 (nle_lt c_14) i_v_5 i_x4
              have i_f_16 : Rg (1) (63) (x4) := rg_lt2 (nle_lt c_14) i_v_5 i_x4
              exact s_some ⟨(T), (rg_m (rg_b rfl : Rg (0) (0) ((0 : Int32))) (by decide))⟩
          · have _ := c_13
            exact zX15_layState_111 hF @hk_27 (pmO_s hi_2560 rfl) T r_x0 i_x1 i_v_7 (rg_m i_f_12 (by decide)) i_v_5 i_v_10 hc_27
set_option maxRecDepth 20000 in
theorem zX15_layState {ρ : Nat → Nat} {c : Cm} {F : Nat} (hF : 700000 ≤ F) (hi_2560 : pmO c 2560 [(62, 999), (64, 999), (65, 999), (13, 1), (13, 2), (13, 3), (13, 7)]) {h : Hp} {x0 : Nat} {x1 : Int32} {x2 : Int32} (T : TH ρ c h) (r_x0 : ρ x0 = 16) (i_x1 : Rg (0) (4095) (x1)) (i_x2 : Rg (0) (2147483646) (x2)) : Sat (sX15_layState F h x0 x1 x2) (ZI ρ c (0) (1)) := by
  unfold sX15_layState 
  obtain ⟨r_1, e_r_1, q_r_1⟩ := thR T r_x0 (k := 16) (i := 60) (k2 := 13) rfl (by decide)
  refine s_ref e_r_1 ?_
  refine s_cV (zX12_clear hF (pmO_s hi_2560 rfl) (th_id T r_x0 (k := 16) (i := 60) (w := 2560) e_r_1 rfl (by decide)) T q_r_1) (fun o_2 T_1 => ?_)
  obtain ⟨r_3, e_r_3, q_r_3⟩ := thR T_1 r_x0 (k := 16) (i := 60) (k2 := 13) rfl (by decide)
  refine s_ref e_r_3 ?_
  refine s_hq (th_wI T_1 q_r_3 (k := 13) (lo := (0)) (hi := (1)) rfl ((rg_and (rg_b rfl : Rg (1) (1) ((1 : Int32))) (by decide) : Rg (0) (1) ((x2 &&& (1 : Int32)))) : Rg (0) (1) ((x2 &&& (1 : Int32)))) (by decide) (by decide) (pm_o hi_2560 (th_id T_1 r_x0 (k := 16) (i := 60) (w := 2560) e_r_3 rfl (by decide)) rfl)) (fun h_4 T_2 w_3 => ?_)
  refine s_q (fun v_5 e_4 => ?_)
  have i_v_5 : Rg (0) (1073741823) (v_5) := by rw [e_4]; exact (rg_shrk 1 (by decide) i_x2 (by decide) : Rg (0) (1073741823) (x2 >>> ((1 : Int32) &&& 31)))
  have m_5 : Rg (0) (5) ((0 : Int32)) := (rg_m (rg_b rfl : Rg (0) (0) ((0 : Int32))) (by decide))
  exact zX15_layState_27 hF (pmO_s hi_2560 rfl) F T_2 r_x0 i_x1 i_v_5 (rg_m (rg_b rfl : Rg (-1) (-1) ((- 1 : Int32))) (by decide)) (rg_m (rg_b rfl : Rg (0) (0) ((0 : Int32))) (by decide)) (by have := m_5.1; have := m_5.2; omega)
set_option maxRecDepth 20000 in
theorem zX15_maskOf_11 {ρ : Nat → Nat} {c : Cm} {h0 : Hp} {F : Nat} (hF : 700000 ≤ F) : ∀ (f : Nat) {h : Hp} {x0 : Nat} {x1 : Int32} {x2 : Int32} {x3 : Int32} {x4 : Int32} {x5 : Int32} {x6 : Int32}, h = h0 → TH ρ c h → ρ x0 = 16 → Rg (0) (4095) (x1) → Rg (-2147483643) (2147483646) (x2) → Rg (-2147483648) (2147483647) (x3) → Rg (0) (1) (x4) → Rg (-2147483648) (2147483647) (x5) → Rg (0) (5) (x6) → (5 - x6.toInt).toNat < f → Sat (sX15_maskOf_11 F f h x0 x1 x2 x3 x4 x5 x6) (ZI0 h0 (-2147483648) (2147483647)) := by
  intro f
  induction f with
  | zero => intros; omega
  | succ f ih =>
    intro h x0 x1 x2 x3 x4 x5 x6 E T r_x0 i_x1 i_x2 i_x3 i_x4 i_x5 i_x6 hm
    rw [sX15_maskOf_11]
    unfold sX15_sideOf sX15_maskOf_60 sX15_maskOf_65 sX15_maskOf_64
    obtain ⟨C_11, hC_11⟩ : ∃ C : Int, C = x6.toInt := ⟨_, rfl⟩
    have hk_11 : ∀ {h : Hp} {x0 : Nat} {x1 : Int32} {x2 : Int32} {x3 : Int32} {x4 : Int32} {x5 : Int32} {x6 : Int32}, h = h0 → TH ρ c h → ρ x0 = 16 → Rg (0) (4095) (x1) → Rg (-2147483643) (2147483646) (x2) → Rg (-2147483648) (2147483647) (x3) → Rg (0) (1) (x4) → Rg (-2147483648) (2147483647) (x5) → Rg (0) (5) (x6) → C_11 < x6.toInt → Sat (sX15_maskOf_11 F f h x0 x1 x2 x3 x4 x5 x6) (ZI0 h0 (-2147483648) (2147483647)) := by
      intro h' x0' x1' x2' x3' x4' x5' x6' E' T' r_x0' i_x1' i_x2' i_x3' i_x4' i_x5' i_x6' hl
      exact ih E' T' r_x0' i_x1' i_x2' i_x3' i_x4' i_x5' i_x6' (by have := i_x6'.1; have := i_x6'.2; omega)
    have hc_11 : C_11 ≤ x6.toInt := by omega
    obtain ⟨r_1, e_r_1, q_r_1⟩ := thR T r_x0 (k := 16) (i := 46) (k2 := 99) rfl (by decide)
    refine s_ref e_r_1 ?_
    refine s_gd (by rw [thN T q_r_1 (k := 99) (n := 4096) rfl (by decide)]; exact rg_inB i_x1 (by decide)) ?_
    refine s_br (fun c_1 => ?_) (fun c_1 => ?_)
    · have _ := c_1
      obtain ⟨r_4, e_r_4, q_r_4⟩ := thR T r_x0 (k := 16) (i := 53) (k2 := 104) rfl (by decide)
      refine s_ref e_r_4 ?_
      refine s_gd (by rw [thN T q_r_4 (k := 104) (n := 4096) rfl (by decide)]; exact rg_inB i_x1 (by decide)) ?_
      refine s_ref e_r_1 ?_
      refine s_gd (by rw [thN T q_r_1 (k := 99) (n := 4096) rfl (by decide)]; exact rg_inB i_x1 (by decide)) ?_
      exact s_some ⟨E, (rg_top _ : Rg (-2147483648) (2147483647) (((hI h r_4 x1.toNatClampNeg) + ((hI h r_1 x1.toNatClampNeg) * (x2 >>> ((1 : Int32) &&& 31)))) + x5))⟩
    · have _ := c_1
      have i_f_2 : Rg (0) (4) (x6) := rg_lt1 (nle_lt c_1) i_x6 (thI T q_r_1 (k := 99) rfl : Rg (0) (5) ((hI h r_1 x1.toNatClampNeg)))
      have i_f_3 : Rg (1) (5) ((hI h r_1 x1.toNatClampNeg)) := rg_lt2 (nle_lt c_1) i_x6 (thI T q_r_1 (k := 99) rfl : Rg (0) (5) ((hI h r_1 x1.toNatClampNeg)))
      obtain ⟨r_8, e_r_8, q_r_8⟩ := thR T r_x0 (k := 16) (i := 47) (k2 := 100) rfl (by decide)
      refine s_ref e_r_8 ?_
      refine s_gd (by rw [thN T q_r_8 (k := 100) (n := 20480) rfl (by decide)]; exact rg_inB (rg_add (rg_mulc' (rg_b rfl : Rg (5) (5) ((5 : Int32))) i_x1 (by decide) : Rg (0) (20475) (((5 : Int32) * x1))) i_f_2 (by decide) : Rg (0) (20479) ((((5 : Int32) * x1) + x6))) (by decide)) ?_
      refine s_pu (fun o_10z e_4 => ?_)
      try dsimp only
      have i_o_10z : Rg (0) (1) (o_10z) := by rw [e_4]; exact (rg_and (rg_b rfl : Rg (1) (1) ((1 : Int32))) (by decide) : Rg (0) (1) (((hI h r_8 (((5 : Int32) * x1) + x6).toNatClampNeg) - (1 : Int32)) &&& (1 : Int32)))
      refine s_br (fun c_5 => ?_) (fun c_5 => ?_)
      · have _ := c_5
        have i_f_6 : Rg (0) (0) (o_10z) := rg_lt1 c_5 i_o_10z i_x4
        have i_f_7 : Rg (1) (1) (x4) := rg_lt2 c_5 i_o_10z i_x4
        refine s_q (fun v_1q2 e_8 => ?_)
        have i_v_1q2 : Rg (-2147483648) (2147483647) (v_1q2) := by rw [e_8]; exact (rg_top _ : Rg (-2147483648) (2147483647) (x5 + (1 : Int32)))
        refine s_q (fun v_2q2 e_9 => ?_)
        have i_v_2q2 : Rg (1) (5) (v_2q2) := by rw [e_9]; exact (rg_add i_f_2 (rg_b rfl : Rg (1) (1) ((1 : Int32))) (by decide) : Rg (1) (5) (x6 + (1 : Int32)))
        have m_10 : (v_2q2).toInt = x6.toInt + 1 := by rw [e_9]; exact rg_inc i_f_2 (by decide)
        exact hk_11 E T r_x0 i_x1 i_x2 i_x3 (rg_m i_f_7 (by decide)) i_v_1q2 (rg_m i_v_2q2 (by decide)) (by have := hc_11; omega)
      · have _ := c_5
        refine s_br (fun c_11 => ?_) (fun c_11 => ?_)
        · have _ := c_11
          refine s_br (fun c_12 => ?_) (fun c_12 => ?_)
          · have _ := c_12
            have i_f_13 : Rg (-2147483648) (4) (x3) := rg_le1 c_12 i_x3 i_f_2
            refine s_q (fun v_1q4 e_14 => ?_)
            have i_v_1q4 : Rg (-2147483648) (2147483647) (v_1q4) := by rw [e_14]; exact (rg_add i_x5 (rg_b rfl : Rg (0) (0) ((0 : Int32))) (by decide) : Rg (-2147483648) (2147483647) (x5 + (0 : Int32)))
            refine s_q (fun v_2q4 e_15 => ?_)
            have i_v_2q4 : Rg (1) (5) (v_2q4) := by rw [e_15]; exact (rg_add i_f_2 (rg_b rfl : Rg (1) (1) ((1 : Int32))) (by decide) : Rg (1) (5) (x6 + (1 : Int32)))
            have m_16 : (v_2q4).toInt = x6.toInt + 1 := by rw [e_15]; exact rg_inc i_f_2 (by decide)
            exact hk_11 E T r_x0 i_x1 i_x2 (rg_m i_f_13 (by decide)) i_x4 i_v_1q4 (rg_m i_v_2q4 (by decide)) (by have := hc_11; omega)
          · have _ := c_12
            have i_f_17 : Rg (1) (2147483647) (x3) := rg_lt2 (nle_lt c_12) i_f_2 i_x3
            refine s_q (fun v_1q6 e_18 => ?_)
            have i_v_1q6 : Rg (-2147483648) (2147483647) (v_1q6) := by rw [e_18]; exact (rg_top _ : Rg (-2147483648) (2147483647) (x5 + (1 : Int32)))
            refine s_q (fun v_2q6 e_19 => ?_)
            have i_v_2q6 : Rg (1) (5) (v_2q6) := by rw [e_19]; exact (rg_add i_f_2 (rg_b rfl : Rg (1) (1) ((1 : Int32))) (by decide) : Rg (1) (5) (x6 + (1 : Int32)))
            have m_20 : (v_2q6).toInt = x6.toInt + 1 := by rw [e_19]; exact rg_inc i_f_2 (by decide)
            exact hk_11 E T r_x0 i_x1 i_x2 (rg_m i_f_17 (by decide)) i_x4 i_v_1q6 (rg_m i_v_2q6 (by decide)) (by have := hc_11; omega)
        · have _ := c_11
          refine s_q (fun v_1q8 e_21 => ?_)
          have i_v_1q8 : Rg (-2147483648) (2147483647) (v_1q8) := by rw [e_21]; exact (rg_add i_x5 (rg_b rfl : Rg (0) (0) ((0 : Int32))) (by decide) : Rg (-2147483648) (2147483647) (x5 + (0 : Int32)))
          refine s_q (fun v_2q8 e_22 => ?_)
          have i_v_2q8 : Rg (1) (5) (v_2q8) := by rw [e_22]; exact (rg_add i_f_2 (rg_b rfl : Rg (1) (1) ((1 : Int32))) (by decide) : Rg (1) (5) (x6 + (1 : Int32)))
          have m_23 : (v_2q8).toInt = x6.toInt + 1 := by rw [e_22]; exact rg_inc i_f_2 (by decide)
          exact hk_11 E T r_x0 i_x1 i_x2 i_x3 i_x4 i_v_1q8 (rg_m i_v_2q8 (by decide)) (by have := hc_11; omega)
set_option maxRecDepth 20000 in
theorem zX15_maskOf {ρ : Nat → Nat} {c : Cm} {F : Nat} (hF : 700000 ≤ F) {h : Hp} {x0 : Nat} {x1 : Int32} {x2 : Int32} {x3 : Int32} (T : TH ρ c h) (r_x0 : ρ x0 = 16) (i_x1 : Rg (0) (4095) (x1)) (i_x2 : Rg (-2147483643) (2147483646) (x2)) (i_x3 : Rg (-2147483648) (2147483647) (x3)) : Sat (sX15_maskOf F h x0 x1 x2 x3) (ZI0 h (-2147483648) (2147483647)) := by
  unfold sX15_maskOf 
  refine s_q (fun v_1 e_1 => ?_)
  have i_v_1 : Rg (0) (1) (v_1) := by rw [e_1]; exact (rg_and (rg_b rfl : Rg (1) (1) ((1 : Int32))) (by decide) : Rg (0) (1) (x2 &&& (1 : Int32)))
  have m_2 : Rg (0) (5) ((0 : Int32)) := (rg_m (rg_b rfl : Rg (0) (0) ((0 : Int32))) (by decide))
  exact zX15_maskOf_11 hF F rfl T r_x0 i_x1 i_x2 i_x3 i_v_1 (rg_m (rg_b rfl : Rg (0) (0) ((0 : Int32))) (by decide)) (rg_m (rg_b rfl : Rg (0) (0) ((0 : Int32))) (by decide)) (by have := m_2.1; have := m_2.2; omega)
set_option maxRecDepth 20000 in
theorem zX15_drop {ρ : Nat → Nat} {c : Cm} {F : Nat} (hF : 700000 ≤ F) (hA : pmA c [(85, 999)]) {h : Hp} {x0 : Nat} {x1 : Int32} (T : TH ρ c h) (r_x0 : ρ x0 = 16) (i_x1 : Rg (-2147483648) (2147483647) (x1)) : Sat (sX15_drop h x0 x1) (ZI ρ c (-102) (1)) := by
  unfold sX15_drop 
  refine s_cP0 (zX15_has hF T r_x0 i_x1) (fun o_1 e_o_1 i_o_1 p_o_1 => ?_)
  have T_1 := th_eq e_o_1 T
  refine s_br (fun c_2 => ?_) (fun c_2 => ?_)
  · have _ := c_2
    have i_f_3 : Rg (0) (0) (o_1.1) := rg_eq c_2 (rg_b rfl : Rg (0) (0) (0 : Int32))
    exact s_some ⟨(T_1), (rg_m (rg_b rfl : Rg (-102) (-102) ((- 102 : Int32))) (by decide))⟩
  · have _ := c_2
    have i_f_4 : Rg (1) (1) (o_1.1) := rg_nlo c_2 i_o_1 (rg_b rfl : Rg (0) (0) (0 : Int32))
    have p_f_5 := p_o_1 c_2
    obtain ⟨r_3, e_r_3, q_r_3⟩ := thR T_1 r_x0 (k := 16) (i := 15) (k2 := 85) rfl (by decide)
    refine s_ref e_r_3 ?_
    refine s_gd (by rw [thN T_1 q_r_3 (k := 85) (n := 60) rfl (by decide)]; exact rg_inB p_f_5 (by decide)) ?_
    refine s_hq (th_wI T_1 q_r_3 (k := 85) (lo := (-2147483648)) (hi := (2147483647)) rfl ((rg_m (rg_b rfl : Rg (0) (0) ((0 : Int32))) (by decide)) : Rg (-2147483648) (2147483647) ((0 : Int32))) (by decide) (by decide) (pm_a hA rfl)) (fun h_5 T_6 w_7 => ?_)
    exact s_some ⟨(T_6), (rg_m (rg_b rfl : Rg (1) (1) ((1 : Int32))) (by decide))⟩
set_option maxRecDepth 20000 in
theorem zX15_end {ρ : Nat → Nat} {c : Cm} {F : Nat} (hF : 700000 ≤ F) (hA : pmA c [(16, 1)]) {h : Hp} {x0 : Nat} {x1 : Int32} (T : TH ρ c h) (r_x0 : ρ x0 = 16) (i_x1 : Rg (-2147483648) (2147483647) (x1)) : Sat (sX15_end h x0 x1) (ZI ρ c (-101) (1200)) := by
  unfold sX15_end sX15_end_12
  refine s_br (fun c_1 => ?_) (fun c_1 => ?_)
  · have _ := c_1
    have i_f_2 : Rg (-2147483648) (-1) (x1) := rg_lt1 c_1 i_x1 (rg_b rfl : Rg (0) (0) (0 : Int32))
    exact s_some ⟨(T), (rg_m (rg_b rfl : Rg (-101) (-101) ((- 101 : Int32))) (by decide))⟩
  · have _ := c_1
    have i_f_3 : Rg (0) (2147483647) (x1) := rg_le2 (nlt_le c_1) (rg_b rfl : Rg (0) (0) (0 : Int32)) i_x1
    refine s_br (fun c_4 => ?_) (fun c_4 => ?_)
    · have _ := c_4
      have i_f_5 : Rg (0) (1200) (x1) := rg_le1 c_4 i_f_3 (thI T r_x0 (k := 16) (i := 1) rfl : Rg (0) (1200) ((hI h x0 1)))
      refine s_hq (th_wI T r_x0 (k := 16) (lo := (0)) (hi := (1200)) rfl (i_f_5 : Rg (0) (1200) (x1)) (by decide) (by decide) (pm_a hA rfl)) (fun h_3 T_6 w_7 => ?_)
      exact s_some ⟨(T_6), (rg_m i_f_5 (by decide))⟩
    · have _ := c_4
      have i_f_8 : Rg (1) (2147483647) (x1) := rg_lt2 (nle_lt c_4) (thI T r_x0 (k := 16) (i := 1) rfl : Rg (0) (1200) ((hI h x0 1))) i_f_3
      exact s_some ⟨(T), (rg_m (rg_b rfl : Rg (-101) (-101) ((- 101 : Int32))) (by decide))⟩
set_option maxRecDepth 20000 in
theorem zX15_isDigit {ρ : Nat → Nat} {c : Cm} {F : Nat} (hF : 700000 ≤ F) {h : Hp} {x0 : Int32} (T : TH ρ c h) (i_x0 : Rg (-128) (127) (x0)) : Sat (sX15_isDigit h x0) (ZP0 h (0) (1) (0) (Rg (48) (57) (x0))) := by
  unfold sX15_isDigit sX15_isDigit_16 sX15_isDigit_17
  refine s_br (fun c_1 => ?_) (fun c_1 => ?_)
  · have _ := c_1
    have i_f_2 : Rg (-128) (47) (x0) := rg_lt1 c_1 i_x0 (rg_b rfl : Rg (48) (48) ((48 : Int32)))
    refine s_gd (rg_bool (rg_m (rg_b rfl : Rg (0) (0) ((0 : Int32))) (by decide))) ?_
    exact s_some ⟨rfl, (rg_m (rg_b rfl : Rg (0) (0) ((0 : Int32))) (by decide)), (fun q => absurd (rz_s (rg_b rfl : Rg (0) (0) ((0 : Int32))) (rg_b rfl : Rg (0) (0) (0 : Int32))) q)⟩
  · have _ := c_1
    have i_f_3 : Rg (48) (127) (x0) := rg_le2 (nlt_le c_1) (rg_b rfl : Rg (48) (48) ((48 : Int32))) i_x0
    refine s_br (fun c_4 => ?_) (fun c_4 => ?_)
    · have _ := c_4
      have i_f_5 : Rg (58) (127) (x0) := rg_lt2 c_4 (rg_b rfl : Rg (57) (57) ((57 : Int32))) i_f_3
      refine s_gd (rg_bool (rg_m (rg_b rfl : Rg (0) (0) ((0 : Int32))) (by decide))) ?_
      exact s_some ⟨rfl, (rg_m (rg_b rfl : Rg (0) (0) ((0 : Int32))) (by decide)), (fun q => absurd (rz_s (rg_b rfl : Rg (0) (0) ((0 : Int32))) (rg_b rfl : Rg (0) (0) (0 : Int32))) q)⟩
    · have _ := c_4
      have i_f_6 : Rg (48) (57) (x0) := rg_le1 (nlt_le c_4) i_f_3 (rg_b rfl : Rg (57) (57) ((57 : Int32)))
      refine s_gd (rg_bool (rg_m (rg_b rfl : Rg (1) (1) ((1 : Int32))) (by decide))) ?_
      exact s_some ⟨rfl, (rg_m (rg_b rfl : Rg (1) (1) ((1 : Int32))) (by decide)), (fun _ => i_f_6)⟩
set_option maxRecDepth 20000 in
theorem zX15_isSmall {ρ : Nat → Nat} {c : Cm} {F : Nat} (hF : 700000 ≤ F) {h : Hp} {x0 : Int32} (T : TH ρ c h) (i_x0 : Rg (-128) (127) (x0)) : Sat (sX15_isSmall h x0) (ZI0 h (0) (1)) := by
  unfold sX15_isSmall sX15_isSmall_16 sX15_isSmall_17
  refine s_br (fun c_1 => ?_) (fun c_1 => ?_)
  · have _ := c_1
    have i_f_2 : Rg (-128) (96) (x0) := rg_lt1 c_1 i_x0 (rg_b rfl : Rg (97) (97) ((97 : Int32)))
    refine s_gd (rg_bool (rg_m (rg_b rfl : Rg (0) (0) ((0 : Int32))) (by decide))) ?_
    exact s_some ⟨rfl, (rg_m (rg_b rfl : Rg (0) (0) ((0 : Int32))) (by decide))⟩
  · have _ := c_1
    have i_f_3 : Rg (97) (127) (x0) := rg_le2 (nlt_le c_1) (rg_b rfl : Rg (97) (97) ((97 : Int32))) i_x0
    refine s_br (fun c_4 => ?_) (fun c_4 => ?_)
    · have _ := c_4
      have i_f_5 : Rg (123) (127) (x0) := rg_lt2 c_4 (rg_b rfl : Rg (122) (122) ((122 : Int32))) i_f_3
      refine s_gd (rg_bool (rg_m (rg_b rfl : Rg (0) (0) ((0 : Int32))) (by decide))) ?_
      exact s_some ⟨rfl, (rg_m (rg_b rfl : Rg (0) (0) ((0 : Int32))) (by decide))⟩
    · have _ := c_4
      have i_f_6 : Rg (97) (122) (x0) := rg_le1 (nlt_le c_4) i_f_3 (rg_b rfl : Rg (122) (122) ((122 : Int32)))
      refine s_gd (rg_bool (rg_m (rg_b rfl : Rg (1) (1) ((1 : Int32))) (by decide))) ?_
      exact s_some ⟨rfl, (rg_m (rg_b rfl : Rg (1) (1) ((1 : Int32))) (by decide))⟩
set_option maxRecDepth 20000 in
theorem zX15_hasCatches_15 {ρ : Nat → Nat} {c : Cm} {h0 : Hp} {F : Nat} (hF : 700000 ≤ F) {k_2 : Hp → Nat → Int32 → Option (Int32 × Hp)} {C_2 : Int} (hk_2 : ∀ {h : Hp} {x0 : Nat} {x1 : Int32}, h = h0 → TH ρ c h → ρ x0 = 16 → Rg (0) (12) (x1) → C_2 < x1.toInt → Sat (k_2 h x0 x1) (ZI0 h0 (0) (1))) : ∀ (f : Nat) {h : Hp} {x0 : Nat} {x1 : Int32} {x2 : Int32}, h = h0 → TH ρ c h → ρ x0 = 16 → Rg (0) (11) (x1) → Rg (0) (8) (x2) → C_2 ≤ x1.toInt → (8 - x2.toInt).toNat < f → Sat (sX15_hasCatches_15 F k_2 f h x0 x1 x2) (ZI0 h0 (0) (1)) := by
  intro f
  induction f with
  | zero => intros; omega
  | succ f ih =>
    intro h x0 x1 x2 E T r_x0 i_x1 i_x2 hc_2 hm
    rw [sX15_hasCatches_15]
    obtain ⟨C_15, hC_15⟩ : ∃ C : Int, C = x2.toInt := ⟨_, rfl⟩
    have hk_15 : ∀ {h : Hp} {x0 : Nat} {x1 : Int32} {x2 : Int32}, h = h0 → TH ρ c h → ρ x0 = 16 → Rg (0) (11) (x1) → Rg (0) (8) (x2) → C_2 ≤ x1.toInt → C_15 < x2.toInt → Sat (sX15_hasCatches_15 F k_2 f h x0 x1 x2) (ZI0 h0 (0) (1)) := by
      intro h' x0' x1' x2' E' T' r_x0' i_x1' i_x2' hc_2' hl
      exact ih E' T' r_x0' i_x1' i_x2' hc_2' (by have := i_x2'.1; have := i_x2'.2; omega)
    have hc_15 : C_15 ≤ x2.toInt := by omega
    obtain ⟨r_1, e_r_1, q_r_1⟩ := thR T r_x0 (k := 16) (i := 4) (k2 := 15) rfl (by decide)
    refine s_ref e_r_1 ?_
    obtain ⟨r_2, e_r_2, q_r_2⟩ := thR T q_r_1 (k := 15) (i := 4) (k2 := 74) rfl (by decide)
    refine s_ref e_r_2 ?_
    refine s_gd (by rw [thN T q_r_2 (k := 74) (n := 12) rfl (by decide)]; exact rg_inB i_x1 (by decide)) ?_
    refine s_br (fun c_1 => ?_) (fun c_1 => ?_)
    · have _ := c_1
      refine s_q (fun v_5 e_2 => ?_)
      have i_v_5 : Rg (1) (12) (v_5) := by rw [e_2]; exact (rg_add i_x1 (rg_b rfl : Rg (1) (1) ((1 : Int32))) (by decide) : Rg (1) (12) (x1 + (1 : Int32)))
      have m_3 : (v_5).toInt = x1.toInt + 1 := by rw [e_2]; exact rg_inc i_x1 (by decide)
      exact hk_2 E T r_x0 (rg_m i_v_5 (by decide)) (by have := hc_2; omega)
    · have _ := c_1
      have i_f_4 : Rg (0) (7) (x2) := rg_lt1 (nle_lt c_1) i_x2 (thI T q_r_2 (k := 74) rfl : Rg (0) (8) ((hI h r_2 x1.toNatClampNeg)))
      have i_f_5 : Rg (1) (8) ((hI h r_2 x1.toNatClampNeg)) := rg_lt2 (nle_lt c_1) i_x2 (thI T q_r_2 (k := 74) rfl : Rg (0) (8) ((hI h r_2 x1.toNatClampNeg)))
      refine s_ref e_r_1 ?_
      obtain ⟨r_7, e_r_7, q_r_7⟩ := thR T q_r_1 (k := 15) (i := 5) (k2 := 75) rfl (by decide)
      refine s_ref e_r_7 ?_
      refine s_gd (by rw [thN T q_r_7 (k := 75) (n := 96) rfl (by decide)]; exact rg_inB (rg_add (rg_mulc' (rg_b rfl : Rg (8) (8) ((8 : Int32))) i_x1 (by decide) : Rg (0) (88) (((8 : Int32) * x1))) i_f_4 (by decide) : Rg (0) (95) ((((8 : Int32) * x1) + x2))) (by decide)) ?_
      refine s_br (fun c_6 => ?_) (fun c_6 => ?_)
      · have _ := c_6
        have i_f_7 : Rg (0) (0) (((hI h r_7 (((8 : Int32) * x1) + x2).toNatClampNeg) &&& (32 : Int32))) := rg_eq c_6 (rg_b rfl : Rg (0) (0) (0 : Int32))
        refine s_q (fun v_10 e_8 => ?_)
        have i_v_10 : Rg (1) (8) (v_10) := by rw [e_8]; exact (rg_add i_f_4 (rg_b rfl : Rg (1) (1) ((1 : Int32))) (by decide) : Rg (1) (8) (x2 + (1 : Int32)))
        have m_9 : (v_10).toInt = x2.toInt + 1 := by rw [e_8]; exact rg_inc i_f_4 (by decide)
        exact hk_15 E T r_x0 i_x1 (rg_m i_v_10 (by decide)) hc_2 (by have := hc_15; omega)
      · have _ := c_6
        have i_f_10 : Rg (1) (32) (((hI h r_7 (((8 : Int32) * x1) + x2).toNatClampNeg) &&& (32 : Int32))) := rg_nlo c_6 (rg_and (rg_b rfl : Rg (32) (32) ((32 : Int32))) (by decide) : Rg (0) (32) (((hI h r_7 (((8 : Int32) * x1) + x2).toNatClampNeg) &&& (32 : Int32)))) (rg_b rfl : Rg (0) (0) (0 : Int32))
        exact s_some ⟨E, (rg_m (rg_b rfl : Rg (1) (1) ((1 : Int32))) (by decide))⟩
set_option maxRecDepth 20000 in
theorem zX15_hasCatches_2 {ρ : Nat → Nat} {c : Cm} {h0 : Hp} {F : Nat} (hF : 700000 ≤ F) : ∀ (f : Nat) {h : Hp} {x0 : Nat} {x1 : Int32}, h = h0 → TH ρ c h → ρ x0 = 16 → Rg (0) (12) (x1) → (12 - x1.toInt).toNat < f → Sat (sX15_hasCatches_2 F f h x0 x1) (ZI0 h0 (0) (1)) := by
  intro f
  induction f with
  | zero => intros; omega
  | succ f ih =>
    intro h x0 x1 E T r_x0 i_x1 hm
    rw [sX15_hasCatches_2]
    obtain ⟨C_2, hC_2⟩ : ∃ C : Int, C = x1.toInt := ⟨_, rfl⟩
    have hk_2 : ∀ {h : Hp} {x0 : Nat} {x1 : Int32}, h = h0 → TH ρ c h → ρ x0 = 16 → Rg (0) (12) (x1) → C_2 < x1.toInt → Sat (sX15_hasCatches_2 F f h x0 x1) (ZI0 h0 (0) (1)) := by
      intro h' x0' x1' E' T' r_x0' i_x1' hl
      exact ih E' T' r_x0' i_x1' (by have := i_x1'.1; have := i_x1'.2; omega)
    have hc_2 : C_2 ≤ x1.toInt := by omega
    obtain ⟨r_1, e_r_1, q_r_1⟩ := thR T r_x0 (k := 16) (i := 4) (k2 := 15) rfl (by decide)
    refine s_ref e_r_1 ?_
    refine s_br (fun c_1 => ?_) (fun c_1 => ?_)
    · have _ := c_1
      exact s_some ⟨E, (rg_m (rg_b rfl : Rg (0) (0) ((0 : Int32))) (by decide))⟩
    · have _ := c_1
      have i_f_2 : Rg (0) (11) (x1) := rg_lt1 (nle_lt c_1) i_x1 (thI T q_r_1 (k := 15) (i := 2) rfl : Rg (0) (12) ((hI h r_1 2)))
      have i_f_3 : Rg (1) (12) ((hI h r_1 2)) := rg_lt2 (nle_lt c_1) i_x1 (thI T q_r_1 (k := 15) (i := 2) rfl : Rg (0) (12) ((hI h r_1 2)))
      have m_4 : Rg (0) (8) ((0 : Int32)) := (rg_m (rg_b rfl : Rg (0) (0) ((0 : Int32))) (by decide))
      exact zX15_hasCatches_15 hF @hk_2 F E T r_x0 i_f_2 (rg_m (rg_b rfl : Rg (0) (0) ((0 : Int32))) (by decide)) hc_2 (by have := m_4.1; have := m_4.2; omega)
set_option maxRecDepth 20000 in
theorem zX15_hasCatches {ρ : Nat → Nat} {c : Cm} {F : Nat} (hF : 700000 ≤ F) {h : Hp} {x0 : Nat} (T : TH ρ c h) (r_x0 : ρ x0 = 16) : Sat (sX15_hasCatches F h x0) (ZI0 h (0) (1)) := by
  unfold sX15_hasCatches 
  have m_1 : Rg (0) (12) ((0 : Int32)) := (rg_m (rg_b rfl : Rg (0) (0) ((0 : Int32))) (by decide))
  exact zX15_hasCatches_2 hF F rfl T r_x0 (rg_m (rg_b rfl : Rg (0) (0) ((0 : Int32))) (by decide)) (by have := m_1.1; have := m_1.2; omega)
set_option maxRecDepth 20000 in
theorem zX15_isOnce_16 {ρ : Nat → Nat} {c : Cm} {F : Nat} (hF : 700000 ≤ F) (hA : pmA c [(16, 10)]) {h : Hp} {x0 : Nat} {x1 : Int32} {t0 : Int32} (T : TH ρ c h) (r_x0 : ρ x0 = 16) (i_x1 : Rg (0) (9) (x1)) (i_t0 : Rg (0) (1) (t0)) : Sat (sX15_isOnce_16 h x0 x1 t0) (ZI ρ c (0) (1)) := by
  unfold sX15_isOnce_16 
  refine s_hq (th_wI T r_x0 (k := 16) (lo := (0)) (hi := (1023)) rfl ((rg_or (n := 10) (rg_m (thI T r_x0 (k := 16) (i := 10) rfl : Rg (0) (1023) ((hI h x0 10))) (by decide) : Rg (0) (1023) ((hI h x0 10))) (rg_m (rg_shl (n := 9) (rg_m (rg_b rfl : Rg (1) (1) ((1 : Int32))) (by decide) : Rg (0) (1) ((1 : Int32))) (rg_m i_x1 (by decide) : Rg (0) (9) (x1)) (by decide) : Rg (0) (512) (((1 : Int32) <<< (x1 &&& 31)))) (by decide) : Rg (0) (512) (((1 : Int32) <<< (x1 &&& 31)))) (by decide) : Rg (0) (1023) (((hI h x0 10) ||| ((1 : Int32) <<< (x1 &&& 31))))) : Rg (0) (1023) (((hI h x0 10) ||| ((1 : Int32) <<< (x1 &&& 31))))) (by decide) (by decide) (pm_a hA rfl)) (fun h_1 T_1 w_2 => ?_)
  refine s_gd (rg_bool i_t0) ?_
  exact s_some ⟨(T_1), i_t0⟩
set_option maxRecDepth 20000 in
theorem zX15_isOnce {ρ : Nat → Nat} {c : Cm} {F : Nat} (hF : 700000 ≤ F) (hA : pmA c [(16, 10)]) {h : Hp} {x0 : Nat} {x1 : Int32} (T : TH ρ c h) (r_x0 : ρ x0 = 16) (i_x1 : Rg (0) (9) (x1)) : Sat (sX15_isOnce h x0 x1) (ZI ρ c (0) (1)) := by
  unfold sX15_isOnce 
  refine s_br (fun c_1 => ?_) (fun c_1 => ?_)
  · have _ := c_1
    have i_f_2 : Rg (0) (0) ((((hI h x0 10) >>> (x1 &&& 31)) &&& (1 : Int32))) := rg_eq c_1 (rg_b rfl : Rg (0) (0) (0 : Int32))
    exact zX15_isOnce_16 hF (pmA_s hA rfl) T r_x0 i_x1 (rg_m (rg_b rfl : Rg (1) (1) ((1 : Int32))) (by decide))
  · have _ := c_1
    have i_f_3 : Rg (1) (1) ((((hI h x0 10) >>> (x1 &&& 31)) &&& (1 : Int32))) := rg_nlo c_1 (rg_and (rg_b rfl : Rg (1) (1) ((1 : Int32))) (by decide) : Rg (0) (1) ((((hI h x0 10) >>> (x1 &&& 31)) &&& (1 : Int32)))) (rg_b rfl : Rg (0) (0) (0 : Int32))
    exact zX15_isOnce_16 hF (pmA_s hA rfl) T r_x0 i_x1 (rg_m (rg_b rfl : Rg (0) (0) ((0 : Int32))) (by decide))
set_option maxRecDepth 20000 in
theorem zX15_look {ρ : Nat → Nat} {c : Cm} {F : Nat} (hF : 700000 ≤ F) (m7 : c.2.1 7 = true) {h : Hp} {x0 : Nat} (T : TH ρ c h) (r_x0 : ρ x0 = 16) : Sat (sX15_look h x0) (ZP0 h (-128) (127) (-1) (Rg (0) (1199) ((hI h x0 19)))) := by
  unfold sX15_look sX15_look_24
  refine s_br (fun c_1 => ?_) (fun c_1 => ?_)
  · have _ := c_1
    exact s_some ⟨rfl, (rg_m (rg_b rfl : Rg (-1) (-1) ((- 1 : Int32))) (by decide)), (fun q => absurd (rz_s (rg_b rfl : Rg (-1) (-1) ((- 1 : Int32))) (rg_b rfl : Rg (-1) (-1) (-1 : Int32))) q)⟩
  · have _ := c_1
    have i_f_2 : Rg (0) (1199) ((hI h x0 19)) := rg_lt1 (nle_lt c_1) (thI T r_x0 (k := 16) (i := 19) rfl : Rg (0) (1200) ((hI h x0 19))) (thI T r_x0 (k := 16) (i := 18) rfl : Rg (0) (1200) ((hI h x0 18)))
    have i_f_3 : Rg (1) (1200) ((hI h x0 18)) := rg_lt2 (nle_lt c_1) (thI T r_x0 (k := 16) (i := 19) rfl : Rg (0) (1200) ((hI h x0 19))) (thI T r_x0 (k := 16) (i := 18) rfl : Rg (0) (1200) ((hI h x0 18)))
    obtain ⟨r_2, e_r_2, q_r_2⟩ := thM T r_x0 (k := 16) (i := 17) (j := 7) (k2 := 82) rfl (by decide) rfl (by decide) m7
    refine s_ref e_r_2 ?_
    refine s_gd (by rw [thN T q_r_2 (k := 82) (n := 1220) rfl (by decide)]; exact rg_inB i_f_2 (by decide)) ?_
    exact s_some ⟨rfl, (thI T q_r_2 (k := 82) rfl : Rg (-128) (127) ((hI h r_2 (hI h x0 19).toNatClampNeg))), (fun _ => i_f_2)⟩
set_option maxRecDepth 20000 in
theorem zX15_manLetter_2 {ρ : Nat → Nat} {c : Cm} {h0 : Hp} {F : Nat} (hF : 700000 ≤ F) : ∀ (f : Nat) {h : Hp} {x0 : Nat} {x1 : Int32} {x2 : Int32}, h = h0 → TH ρ c h → ρ x0 = 16 → Rg (-128) (127) (x1) → Rg (0) (12) (x2) → (12 - x2.toInt).toNat < f → Sat (sX15_manLetter_2 F f h x0 x1 x2) (ZI0 h0 (0) (24)) := by
  intro f
  induction f with
  | zero => intros; omega
  | succ f ih =>
    intro h x0 x1 x2 E T r_x0 i_x1 i_x2 hm
    rw [sX15_manLetter_2]
    unfold sX15_valueOf
    obtain ⟨C_2, hC_2⟩ : ∃ C : Int, C = x2.toInt := ⟨_, rfl⟩
    have hk_2 : ∀ {h : Hp} {x0 : Nat} {x1 : Int32} {x2 : Int32}, h = h0 → TH ρ c h → ρ x0 = 16 → Rg (-128) (127) (x1) → Rg (0) (12) (x2) → C_2 < x2.toInt → Sat (sX15_manLetter_2 F f h x0 x1 x2) (ZI0 h0 (0) (24)) := by
      intro h' x0' x1' x2' E' T' r_x0' i_x1' i_x2' hl
      exact ih E' T' r_x0' i_x1' i_x2' (by have := i_x2'.1; have := i_x2'.2; omega)
    have hc_2 : C_2 ≤ x2.toInt := by omega
    obtain ⟨r_1, e_r_1, q_r_1⟩ := thR T r_x0 (k := 16) (i := 4) (k2 := 15) rfl (by decide)
    refine s_ref e_r_1 ?_
    refine s_br (fun c_1 => ?_) (fun c_1 => ?_)
    · have _ := c_1
      exact s_some ⟨E, (rg_m (rg_b rfl : Rg (0) (0) ((0 : Int32))) (by decide))⟩
    · have _ := c_1
      have i_f_2 : Rg (0) (11) (x2) := rg_lt1 (nle_lt c_1) i_x2 (thI T q_r_1 (k := 15) (i := 2) rfl : Rg (0) (12) ((hI h r_1 2)))
      have i_f_3 : Rg (1) (12) ((hI h r_1 2)) := rg_lt2 (nle_lt c_1) i_x2 (thI T q_r_1 (k := 15) (i := 2) rfl : Rg (0) (12) ((hI h r_1 2)))
      refine s_ref e_r_1 ?_
      obtain ⟨r_4, e_r_4, q_r_4⟩ := thR T q_r_1 (k := 15) (i := 3) (k2 := 73) rfl (by decide)
      refine s_ref e_r_4 ?_
      refine s_gd (by rw [thN T q_r_4 (k := 73) (n := 12) rfl (by decide)]; exact rg_inB i_f_2 (by decide)) ?_
      refine s_br (fun c_4 => ?_) (fun c_4 => ?_)
      · have _ := c_4
        have i_f_5 : Rg (0) (122) (x1) := rg_eq c_4 (thI T q_r_4 (k := 73) rfl : Rg (0) (122) ((hI h r_4 x2.toNatClampNeg)))
        refine s_pu (fun o_13z e_6 => ?_)
        try dsimp only
        have i_o_13z : Rg (2) (24) (o_13z) := by rw [e_6]; exact (rg_add (rg_add (rg_b rfl : Rg (1) (1) ((1 : Int32))) (rg_mulc' (rg_b rfl : Rg (2) (2) ((2 : Int32))) i_f_2 (by decide) : Rg (0) (22) (((2 : Int32) * x2))) (by decide) : Rg (1) (23) (((1 : Int32) + ((2 : Int32) * x2)))) (rg_b rfl : Rg (1) (1) ((1 : Int32))) (by decide) : Rg (2) (24) (((1 : Int32) + ((2 : Int32) * x2)) + (1 : Int32)))
        exact s_some ⟨E, (rg_m i_o_13z (by decide))⟩
      · have _ := c_4
        refine s_ref e_r_1 ?_
        refine s_ref e_r_4 ?_
        refine s_gd (by rw [thN T q_r_4 (k := 73) (n := 12) rfl (by decide)]; exact rg_inB i_f_2 (by decide)) ?_
        refine s_br (fun c_7 => ?_) (fun c_7 => ?_)
        · have _ := c_7
          have i_f_8 : Rg (-32) (90) (x1) := rg_eq c_7 (rg_sub (thI T q_r_4 (k := 73) rfl : Rg (0) (122) ((hI h r_4 x2.toNatClampNeg))) (rg_b rfl : Rg (32) (32) ((32 : Int32))) (by decide) : Rg (-32) (90) (((hI h r_4 x2.toNatClampNeg) - (32 : Int32))))
          refine s_pu (fun o_12z e_9 => ?_)
          try dsimp only
          have i_o_12z : Rg (1) (23) (o_12z) := by rw [e_9]; exact (rg_add (rg_add (rg_b rfl : Rg (1) (1) ((1 : Int32))) (rg_mulc' (rg_b rfl : Rg (2) (2) ((2 : Int32))) i_f_2 (by decide) : Rg (0) (22) (((2 : Int32) * x2))) (by decide) : Rg (1) (23) (((1 : Int32) + ((2 : Int32) * x2)))) (rg_b rfl : Rg (0) (0) ((0 : Int32))) (by decide) : Rg (1) (23) (((1 : Int32) + ((2 : Int32) * x2)) + (0 : Int32)))
          exact s_some ⟨E, (rg_m i_o_12z (by decide))⟩
        · have _ := c_7
          refine s_q (fun v_11 e_10 => ?_)
          have i_v_11 : Rg (1) (12) (v_11) := by rw [e_10]; exact (rg_add i_f_2 (rg_b rfl : Rg (1) (1) ((1 : Int32))) (by decide) : Rg (1) (12) (x2 + (1 : Int32)))
          have m_11 : (v_11).toInt = x2.toInt + 1 := by rw [e_10]; exact rg_inc i_f_2 (by decide)
          exact hk_2 E T r_x0 i_x1 (rg_m i_v_11 (by decide)) (by have := hc_2; omega)
set_option maxRecDepth 20000 in
theorem zX15_manLetter {ρ : Nat → Nat} {c : Cm} {F : Nat} (hF : 700000 ≤ F) {h : Hp} {x0 : Nat} {x1 : Int32} (T : TH ρ c h) (r_x0 : ρ x0 = 16) (i_x1 : Rg (-128) (127) (x1)) : Sat (sX15_manLetter F h x0 x1) (ZI0 h (0) (24)) := by
  unfold sX15_manLetter 
  have m_1 : Rg (0) (12) ((0 : Int32)) := (rg_m (rg_b rfl : Rg (0) (0) ((0 : Int32))) (by decide))
  exact zX15_manLetter_2 hF F rfl T r_x0 i_x1 (rg_m (rg_b rfl : Rg (0) (0) ((0 : Int32))) (by decide)) (by have := m_1.1; have := m_1.2; omega)
set_option maxRecDepth 20000 in
theorem zX15_reads {ρ : Nat → Nat} {c : Cm} {F : Nat} (hF : 700000 ≤ F) (m7 : c.2.1 7 = true) (hA : pmA c [(16, 19)]) {h : Hp} {x0 : Nat} {x1 : Int32} (T : TH ρ c h) (r_x0 : ρ x0 = 16) (i_x1 : Rg (32) (47) (x1)) : Sat (sX15_reads h x0 x1) (ZI ρ c (0) (1)) := by
  unfold sX15_reads 
  refine s_cP0 (zX15_look hF m7 T r_x0) (fun o_1 e_o_1 i_o_1 p_o_1 => ?_)
  have T_1 := th_eq e_o_1 T
  refine s_br (fun c_2 => ?_) (fun c_2 => ?_)
  · have _ := c_2
    have i_f_3 : Rg (32) (47) (o_1.1) := rg_eq c_2 i_x1
    have p_f_4 := p_o_1 (fun q => rc_eq q i_f_3 (rg_b rfl : Rg (-1) (-1) (-1 : Int32)) (by decide))
    refine s_hq (th_wI T_1 r_x0 (k := 16) (lo := (0)) (hi := (1200)) rfl ((rg_m (rg_add ((rg_he e_o_1 p_f_4) : Rg (0) (1199) ((hI o_1.2 x0 19))) (rg_b rfl : Rg (1) (1) ((1 : Int32))) (by decide) : Rg (1) (1200) (((hI o_1.2 x0 19) + (1 : Int32)))) (by decide)) : Rg (0) (1200) (((hI o_1.2 x0 19) + (1 : Int32)))) (by decide) (by decide) (pm_a hA rfl)) (fun h_3 T_5 w_6 => ?_)
    exact s_some ⟨(T_5), (rg_m (rg_b rfl : Rg (1) (1) ((1 : Int32))) (by decide))⟩
  · have _ := c_2
    exact s_some ⟨(T_1), (rg_m (rg_b rfl : Rg (0) (0) ((0 : Int32))) (by decide))⟩
set_option maxRecDepth 20000 in
theorem zX15_isProblem {ρ : Nat → Nat} {c : Cm} {F : Nat} (hF : 700000 ≤ F) {h : Hp} {x0 : Nat} (T : TH ρ c h) (r_x0 : ρ x0 = 16) : Sat (sX15_isProblem h x0) (ZI0 h (0) (1)) := by
  unfold sX15_isProblem sX15_isProblem_27 sX15_isProblem_28
  refine s_br (fun c_1 => ?_) (fun c_1 => ?_)
  · have _ := c_1
    have i_f_2 : Rg (-2147483648) (0) ((hI h x0 65)) := rg_le1 c_1 (thI T r_x0 (k := 16) (i := 65) rfl : Rg (-2147483648) (2147483647) ((hI h x0 65))) (rg_b rfl : Rg (0) (0) (0 : Int32))
    refine s_gd (rg_bool (rg_m (rg_b rfl : Rg (0) (0) ((0 : Int32))) (by decide))) ?_
    exact s_some ⟨rfl, (rg_m (rg_b rfl : Rg (0) (0) ((0 : Int32))) (by decide))⟩
  · have _ := c_1
    have i_f_3 : Rg (1) (2147483647) ((hI h x0 65)) := rg_lt2 (nle_lt c_1) (rg_b rfl : Rg (0) (0) (0 : Int32)) (thI T r_x0 (k := 16) (i := 65) rfl : Rg (-2147483648) (2147483647) ((hI h x0 65)))
    obtain ⟨r_2, e_r_2, q_r_2⟩ := thR T r_x0 (k := 16) (i := 15) (k2 := 85) rfl (by decide)
    refine s_ref e_r_2 ?_
    refine s_gd (by rw [thN T q_r_2 (k := 85) (n := 60) rfl (by decide)]; exact rg_inB (thI T r_x0 (k := 16) (i := 64) rfl : Rg (0) (59) ((hI h x0 64))) (by decide)) ?_
    refine s_br (fun c_4 => ?_) (fun c_4 => ?_)
    · have _ := c_4
      have i_f_5 : Rg (1) (2147483647) ((hI h r_2 (hI h x0 64).toNatClampNeg)) := rg_eq c_4 i_f_3
      refine s_gd (rg_bool (rg_m (rg_b rfl : Rg (1) (1) ((1 : Int32))) (by decide))) ?_
      exact s_some ⟨rfl, (rg_m (rg_b rfl : Rg (1) (1) ((1 : Int32))) (by decide))⟩
    · have _ := c_4
      refine s_gd (rg_bool (rg_m (rg_b rfl : Rg (0) (0) ((0 : Int32))) (by decide))) ?_
      exact s_some ⟨rfl, (rg_m (rg_b rfl : Rg (0) (0) ((0 : Int32))) (by decide))⟩
set_option maxRecDepth 20000 in
theorem zX15_key {ρ : Nat → Nat} {c : Cm} {F : Nat} (hF : 700000 ≤ F) {h : Hp} {x0 : Nat} {x1 : Int32} (T : TH ρ c h) (r_x0 : ρ x0 = 16) (i_x1 : Rg (-2147483648) (2147483647) (x1)) : Sat (sX15_key h x0 x1) (ZI0 h (-1) (2999)) := by
  unfold sX15_key sX15_key_19 sX15_key_29
  refine s_cI0 (zX15_isProblem hF T r_x0) (fun o_1 e_o_1 i_o_1 => ?_)
  have T_1 := th_eq e_o_1 T
  refine s_br (fun c_2 => ?_) (fun c_2 => ?_)
  · have _ := c_2
    have i_f_3 : Rg (0) (0) (o_1.1) := rg_eq c_2 (rg_b rfl : Rg (0) (0) (0 : Int32))
    exact s_some ⟨(e_o_1.trans rfl), (rg_m (rg_b rfl : Rg (-1) (-1) ((- 1 : Int32))) (by decide))⟩
  · have _ := c_2
    have i_f_4 : Rg (1) (1) (o_1.1) := rg_nlo c_2 i_o_1 (rg_b rfl : Rg (0) (0) (0 : Int32))
    refine s_br (fun c_5 => ?_) (fun c_5 => ?_)
    · have _ := c_5
      have i_f_6 : Rg (-2147483648) (-1) (x1) := rg_lt1 c_5 i_x1 (rg_b rfl : Rg (0) (0) (0 : Int32))
      exact s_some ⟨(e_o_1.trans rfl), (rg_m (rg_b rfl : Rg (-1) (-1) ((- 1 : Int32))) (by decide))⟩
    · have _ := c_5
      have i_f_7 : Rg (0) (2147483647) (x1) := rg_le2 (nlt_le c_5) (rg_b rfl : Rg (0) (0) (0 : Int32)) i_x1
      refine s_br (fun c_8 => ?_) (fun c_8 => ?_)
      · have _ := c_8
        have i_f_9 : Rg (0) (2999) (x1) := rg_lt1 c_8 i_f_7 (thI T_1 r_x0 (k := 16) (i := 70) rfl : Rg (0) (3000) ((hI o_1.2 x0 70)))
        have i_f_10 : Rg (1) (3000) ((hI o_1.2 x0 70)) := rg_lt2 c_8 i_f_7 (thI T_1 r_x0 (k := 16) (i := 70) rfl : Rg (0) (3000) ((hI o_1.2 x0 70)))
        obtain ⟨r_5, e_r_5, q_r_5⟩ := thR T_1 r_x0 (k := 16) (i := 69) (k2 := 111) rfl (by decide)
        refine s_ref e_r_5 ?_
        refine s_gd (by rw [thN T_1 q_r_5 (k := 111) (n := 3000) rfl (by decide)]; exact rg_inB i_f_9 (by decide)) ?_
        exact s_some ⟨(e_o_1.trans rfl), (rg_m (thI T_1 q_r_5 (k := 111) rfl : Rg (0) (2999) ((hI o_1.2 r_5 x1.toNatClampNeg))) (by decide))⟩
      · have _ := c_8
        exact s_some ⟨(e_o_1.trans rfl), (rg_m (rg_b rfl : Rg (-1) (-1) ((- 1 : Int32))) (by decide))⟩
set_option maxRecDepth 20000 in
theorem zX15_meet_21 {ρ : Nat → Nat} {c : Cm} {F : Nat} (hF : 700000 ≤ F) (hA : pmA c [(16, 62), (16, 63)]) {h : Hp} {x0 : Nat} {x1 : Int32} {x2 : Int32} {t0 : Int32} {t1 : Int32} {t2 : Nat} (T : TH ρ c h) (r_x0 : ρ x0 = 16) (i_x1 : Rg (-1000000) (3000000) (x1)) (i_x2 : Rg (-2147483648) (2147483647) (x2)) (i_t0 : Rg (0) (1) (t0)) (i_t1 : Rg (0) (1) (t1)) (r_t2 : ρ t2 = 16) : Sat (sX15_meet_21 h x0 x1 x2 t0 t1 t2) (ZV ρ c) := by
  unfold sX15_meet_21 sX15_meet_50 sX15_meet_51
  refine s_gd (rg_bool (rg_or (n := 1) (rg_m i_t1 (by decide) : Rg (0) (1) (t1)) (rg_m i_t0 (by decide) : Rg (0) (1) (t0)) (by decide) : Rg (0) (1) ((t1 ||| t0)))) ?_
  refine s_hq (th_wI T r_t2 (k := 16) (lo := (0)) (hi := (1)) rfl ((rg_or (n := 1) (rg_m i_t1 (by decide) : Rg (0) (1) (t1)) (rg_m i_t0 (by decide) : Rg (0) (1) (t0)) (by decide) : Rg (0) (1) ((t1 ||| t0))) : Rg (0) (1) ((t1 ||| t0))) (by decide) (by decide) (pm_a hA rfl)) (fun h_2 T_1 w_2 => ?_)
  refine s_br (fun c_3 => ?_) (fun c_3 => ?_)
  · have _ := c_3
    refine s_gd (rg_bool (rg_m (rg_and (rg_b rfl : Rg (0) (0) ((0 : Int32))) (by decide) : Rg (0) (0) (((hI h_2 x0 63) &&& (0 : Int32)))) (by decide))) ?_
    refine s_hq (th_wI T_1 r_x0 (k := 16) (lo := (0)) (hi := (1)) rfl ((rg_m (rg_and (rg_b rfl : Rg (0) (0) ((0 : Int32))) (by decide) : Rg (0) (0) (((hI h_2 x0 63) &&& (0 : Int32)))) (by decide)) : Rg (0) (1) (((hI h_2 x0 63) &&& (0 : Int32)))) (by decide) (by decide) (pm_a hA rfl)) (fun h_2q2 T_4 w_5 => ?_)
    exact s_some (T_4)
  · have _ := c_3
    refine s_br (fun c_6 => ?_) (fun c_6 => ?_)
    · have _ := c_6
      have i_f_7 : Rg (1000001) (3000000) (x1) := rg_lt2 c_6 (rg_b rfl : Rg (1000000) (1000000) ((1000000 : Int32))) i_x1
      refine s_gd (rg_bool (rg_m (rg_and (rg_b rfl : Rg (0) (0) ((0 : Int32))) (by decide) : Rg (0) (0) (((hI h_2 x0 63) &&& (0 : Int32)))) (by decide))) ?_
      refine s_hq (th_wI T_1 r_x0 (k := 16) (lo := (0)) (hi := (1)) rfl ((rg_m (rg_and (rg_b rfl : Rg (0) (0) ((0 : Int32))) (by decide) : Rg (0) (0) (((hI h_2 x0 63) &&& (0 : Int32)))) (by decide)) : Rg (0) (1) (((hI h_2 x0 63) &&& (0 : Int32)))) (by decide) (by decide) (pm_a hA rfl)) (fun h_2q4 T_8 w_9 => ?_)
      exact s_some (T_8)
    · have _ := c_6
      have i_f_10 : Rg (-1000000) (1000000) (x1) := rg_le1 (nlt_le c_6) i_x1 (rg_b rfl : Rg (1000000) (1000000) ((1000000 : Int32)))
      refine s_gd (rg_bool (rg_and (rg_b rfl : Rg (1) (1) ((1 : Int32))) (by decide) : Rg (0) (1) (((hI h_2 x0 63) &&& (1 : Int32))))) ?_
      refine s_hq (th_wI T_1 r_x0 (k := 16) (lo := (0)) (hi := (1)) rfl ((rg_and (rg_b rfl : Rg (1) (1) ((1 : Int32))) (by decide) : Rg (0) (1) (((hI h_2 x0 63) &&& (1 : Int32)))) : Rg (0) (1) (((hI h_2 x0 63) &&& (1 : Int32)))) (by decide) (by decide) (pm_a hA rfl)) (fun h_2q5 T_11 w_12 => ?_)
      exact s_some (T_11)
set_option maxRecDepth 20000 in
theorem zX15_meet {ρ : Nat → Nat} {c : Cm} {F : Nat} (hF : 700000 ≤ F) (hA : pmA c [(16, 62), (16, 63)]) {h : Hp} {x0 : Nat} {x1 : Int32} {x2 : Int32} (T : TH ρ c h) (r_x0 : ρ x0 = 16) (i_x1 : Rg (-1000000) (3000000) (x1)) (i_x2 : Rg (-2147483648) (2147483647) (x2)) : Sat (sX15_meet h x0 x1 x2) (ZV ρ c) := by
  unfold sX15_meet 
  refine s_br (fun c_1 => ?_) (fun c_1 => ?_)
  · have _ := c_1
    exact zX15_meet_21 hF (pmA_s hA rfl) T r_x0 i_x1 i_x2 (rg_m (rg_b rfl : Rg (1) (1) ((1 : Int32))) (by decide)) (thI T r_x0 (k := 16) (i := 62) rfl : Rg (0) (1) ((hI h x0 62))) r_x0
  · have _ := c_1
    exact zX15_meet_21 hF (pmA_s hA rfl) T r_x0 i_x1 i_x2 (rg_m (rg_b rfl : Rg (0) (0) ((0 : Int32))) (by decide)) (thI T r_x0 (k := 16) (i := 62) rfl : Rg (0) (1) ((hI h x0 62))) r_x0
set_option maxRecDepth 20000 in
theorem zX15_out {ρ : Nat → Nat} {c : Cm} {F : Nat} (hF : 700000 ≤ F) {h : Hp} {x0 : Nat} {x1 : Int32} (T : TH ρ c h) (r_x0 : ρ x0 = 16) (i_x1 : Rg (-2147483648) (2147483647) (x1)) : Sat (sX15_out h x0 x1) (ZI0 h (-128) (127)) := by
  unfold sX15_out sX15_out_12 sX15_out_22
  refine s_br (fun c_1 => ?_) (fun c_1 => ?_)
  · have _ := c_1
    have i_f_2 : Rg (-2147483648) (-1) (x1) := rg_lt1 c_1 i_x1 (rg_b rfl : Rg (0) (0) (0 : Int32))
    exact s_some ⟨rfl, (rg_m (rg_b rfl : Rg (-1) (-1) ((- 1 : Int32))) (by decide))⟩
  · have _ := c_1
    have i_f_3 : Rg (0) (2147483647) (x1) := rg_le2 (nlt_le c_1) (rg_b rfl : Rg (0) (0) (0 : Int32)) i_x1
    refine s_br (fun c_4 => ?_) (fun c_4 => ?_)
    · have _ := c_4
      have i_f_5 : Rg (0) (255) (x1) := rg_lt1 c_4 i_f_3 (thI T r_x0 (k := 16) (i := 3) rfl : Rg (0) (256) ((hI h x0 3)))
      have i_f_6 : Rg (1) (256) ((hI h x0 3)) := rg_lt2 c_4 i_f_3 (thI T r_x0 (k := 16) (i := 3) rfl : Rg (0) (256) ((hI h x0 3)))
      obtain ⟨r_3, e_r_3, q_r_3⟩ := thR T r_x0 (k := 16) (i := 2) (k2 := 83) rfl (by decide)
      refine s_ref e_r_3 ?_
      refine s_gd (by rw [thN T q_r_3 (k := 83) (n := 256) rfl (by decide)]; exact rg_inB i_f_5 (by decide)) ?_
      exact s_some ⟨rfl, (thI T q_r_3 (k := 83) rfl : Rg (-128) (127) ((hI h r_3 x1.toNatClampNeg)))⟩
    · have _ := c_4
      exact s_some ⟨rfl, (rg_m (rg_b rfl : Rg (-1) (-1) ((- 1 : Int32))) (by decide))⟩
set_option maxRecDepth 20000 in
theorem zX15_played {ρ : Nat → Nat} {c : Cm} {F : Nat} (hF : 700000 ≤ F) {h : Hp} {x0 : Nat} {x1 : Int32} {x2 : Int32} (T : TH ρ c h) (r_x0 : ρ x0 = 16) (i_x1 : Rg (-2147483648) (2147483647) (x1)) (i_x2 : Rg (-2147483648) (2147483647) (x2)) : Sat (sX15_played h x0 x1 x2) (ZI0 h (-102) (2999)) := by
  unfold sX15_played sX15_played_34 sX15_played_51
  refine s_cP0 (zX15_isGame hF T i_x1) (fun o_1 e_o_1 i_o_1 p_o_1 => ?_)
  have T_1 := th_eq e_o_1 T
  refine s_br (fun c_2 => ?_) (fun c_2 => ?_)
  · have _ := c_2
    have i_f_3 : Rg (0) (0) (o_1.1) := rg_eq c_2 (rg_b rfl : Rg (0) (0) (0 : Int32))
    exact s_some ⟨(e_o_1.trans rfl), (rg_m (rg_b rfl : Rg (-101) (-101) ((- 101 : Int32))) (by decide))⟩
  · have _ := c_2
    have i_f_4 : Rg (1) (1) (o_1.1) := rg_nlo c_2 i_o_1 (rg_b rfl : Rg (0) (0) (0 : Int32))
    have p_f_5 := p_o_1 c_2
    obtain ⟨r_3, e_r_3, q_r_3⟩ := thR T_1 r_x0 (k := 16) (i := 39) (k2 := 94) rfl (by decide)
    refine s_ref e_r_3 ?_
    refine s_gd (by rw [thN T_1 q_r_3 (k := 94) (n := 8) rfl (by decide)]; exact rg_inB p_f_5 (by decide)) ?_
    refine s_br (fun c_6 => ?_) (fun c_6 => ?_)
    · have _ := c_6
      have i_f_7 : Rg (-1) (-1) ((hI o_1.2 r_3 x1.toNatClampNeg)) := rg_eq c_6 (rg_b rfl : Rg (-1) (-1) ((- 1 : Int32)))
      exact s_some ⟨(e_o_1.trans rfl), (rg_m (rg_b rfl : Rg (-102) (-102) ((- 102 : Int32))) (by decide))⟩
    · have _ := c_6
      have i_f_8 : Rg (0) (300) ((hI o_1.2 r_3 x1.toNatClampNeg)) := rg_nlo c_6 (thI T_1 q_r_3 (k := 94) rfl : Rg (-1) (300) ((hI o_1.2 r_3 x1.toNatClampNeg))) (rg_b rfl : Rg (-1) (-1) ((- 1 : Int32)))
      refine s_br (fun c_9 => ?_) (fun c_9 => ?_)
      · have _ := c_9
        have i_f_10 : Rg (-2147483648) (-1) (x2) := rg_lt1 c_9 i_x2 (rg_b rfl : Rg (0) (0) (0 : Int32))
        exact s_some ⟨(e_o_1.trans rfl), (rg_m (rg_b rfl : Rg (-102) (-102) ((- 102 : Int32))) (by decide))⟩
      · have _ := c_9
        have i_f_11 : Rg (0) (2147483647) (x2) := rg_le2 (nlt_le c_9) (rg_b rfl : Rg (0) (0) (0 : Int32)) i_x2
        refine s_ref e_r_3 ?_
        refine s_gd (by rw [thN T_1 q_r_3 (k := 94) (n := 8) rfl (by decide)]; exact rg_inB p_f_5 (by decide)) ?_
        refine s_br (fun c_12 => ?_) (fun c_12 => ?_)
        · have _ := c_12
          have i_f_13 : Rg (0) (299) (x2) := rg_lt1 c_12 i_f_11 i_f_8
          have i_f_14 : Rg (1) (300) ((hI o_1.2 r_3 x1.toNatClampNeg)) := rg_lt2 c_12 i_f_11 i_f_8
          obtain ⟨r_10, e_r_10, q_r_10⟩ := thR T_1 r_x0 (k := 16) (i := 38) (k2 := 93) rfl (by decide)
          refine s_ref e_r_10 ?_
          refine s_gd (by rw [thN T_1 q_r_10 (k := 93) (n := 2408) rfl (by decide)]; exact rg_inB (rg_add (rg_mulc p_f_5 (rg_b rfl : Rg (301) (301) ((301 : Int32))) (by decide) : Rg (0) (2107) ((x1 * (301 : Int32)))) i_f_13 (by decide) : Rg (0) (2406) (((x1 * (301 : Int32)) + x2))) (by decide)) ?_
          exact s_some ⟨(e_o_1.trans rfl), (rg_m (thI T_1 q_r_10 (k := 93) rfl : Rg (0) (2999) ((hI o_1.2 r_10 ((x1 * (301 : Int32)) + x2).toNatClampNeg))) (by decide))⟩
        · have _ := c_12
          exact s_some ⟨(e_o_1.trans rfl), (rg_m (rg_b rfl : Rg (-102) (-102) ((- 102 : Int32))) (by decide))⟩
set_option maxRecDepth 20000 in
theorem zX15_sizeOf_4 {ρ : Nat → Nat} {c : Cm} {h0 : Hp} {F : Nat} (hF : 700000 ≤ F) : ∀ (f : Nat) {h : Hp} {x0 : Nat} {x1 : Int32} {x2 : Int32} {x3 : Int32}, h = h0 → TH ρ c h → ρ x0 = 16 → Rg (0) (4095) (x1) → Rg (-2147483648) (2147483647) (x2) → Rg (0) (5) (x3) → (5 - x3.toInt).toNat < f → Sat (sX15_sizeOf_4 F f h x0 x1 x2 x3) (ZI0 h0 (-2147483648) (2147483647)) := by
  intro f
  induction f with
  | zero => intros; omega
  | succ f ih =>
    intro h x0 x1 x2 x3 E T r_x0 i_x1 i_x2 i_x3 hm
    rw [sX15_sizeOf_4]
    obtain ⟨C_4, hC_4⟩ : ∃ C : Int, C = x3.toInt := ⟨_, rfl⟩
    have hk_4 : ∀ {h : Hp} {x0 : Nat} {x1 : Int32} {x2 : Int32} {x3 : Int32}, h = h0 → TH ρ c h → ρ x0 = 16 → Rg (0) (4095) (x1) → Rg (-2147483648) (2147483647) (x2) → Rg (0) (5) (x3) → C_4 < x3.toInt → Sat (sX15_sizeOf_4 F f h x0 x1 x2 x3) (ZI0 h0 (-2147483648) (2147483647)) := by
      intro h' x0' x1' x2' x3' E' T' r_x0' i_x1' i_x2' i_x3' hl
      exact ih E' T' r_x0' i_x1' i_x2' i_x3' (by have := i_x3'.1; have := i_x3'.2; omega)
    have hc_4 : C_4 ≤ x3.toInt := by omega
    obtain ⟨r_1, e_r_1, q_r_1⟩ := thR T r_x0 (k := 16) (i := 46) (k2 := 99) rfl (by decide)
    refine s_ref e_r_1 ?_
    refine s_gd (by rw [thN T q_r_1 (k := 99) (n := 4096) rfl (by decide)]; exact rg_inB i_x1 (by decide)) ?_
    refine s_br (fun c_1 => ?_) (fun c_1 => ?_)
    · have _ := c_1
      exact s_some ⟨E, i_x2⟩
    · have _ := c_1
      have i_f_2 : Rg (0) (4) (x3) := rg_lt1 (nle_lt c_1) i_x3 (thI T q_r_1 (k := 99) rfl : Rg (0) (5) ((hI h r_1 x1.toNatClampNeg)))
      have i_f_3 : Rg (1) (5) ((hI h r_1 x1.toNatClampNeg)) := rg_lt2 (nle_lt c_1) i_x3 (thI T q_r_1 (k := 99) rfl : Rg (0) (5) ((hI h r_1 x1.toNatClampNeg)))
      refine s_q (fun v_4 e_4 => ?_)
      have i_v_4 : Rg (-2147483648) (2147483647) (v_4) := by rw [e_4]; exact (rg_top _ : Rg (-2147483648) (2147483647) (x2 * (hI h x0 13)))
      refine s_q (fun v_5 e_5 => ?_)
      have i_v_5 : Rg (1) (5) (v_5) := by rw [e_5]; exact (rg_add i_f_2 (rg_b rfl : Rg (1) (1) ((1 : Int32))) (by decide) : Rg (1) (5) (x3 + (1 : Int32)))
      have m_6 : (v_5).toInt = x3.toInt + 1 := by rw [e_5]; exact rg_inc i_f_2 (by decide)
      exact hk_4 E T r_x0 i_x1 i_v_4 (rg_m i_v_5 (by decide)) (by have := hc_4; omega)
set_option maxRecDepth 20000 in
theorem zX15_sizeOf {ρ : Nat → Nat} {c : Cm} {F : Nat} (hF : 700000 ≤ F) {h : Hp} {x0 : Nat} {x1 : Int32} (T : TH ρ c h) (r_x0 : ρ x0 = 16) (i_x1 : Rg (0) (4095) (x1)) : Sat (sX15_sizeOf F h x0 x1) (ZI0 h (-2147483648) (2147483647)) := by
  unfold sX15_sizeOf 
  have m_1 : Rg (0) (5) ((0 : Int32)) := (rg_m (rg_b rfl : Rg (0) (0) ((0 : Int32))) (by decide))
  exact zX15_sizeOf_4 hF F rfl T r_x0 i_x1 (rg_m (rg_b rfl : Rg (2) (2) ((2 : Int32))) (by decide)) (rg_m (rg_b rfl : Rg (0) (0) ((0 : Int32))) (by decide)) (by have := m_1.1; have := m_1.2; omega)
