/-! how many SETS there may be -/
def ct (P : Nat → Bool) : Nat → Nat
  | 0 => 0
  | s + 1 => ct P s + if P s = true then 1 else 0
theorem ct_0 {P : Nat → Bool} : ∀ s, (∀ k, k < s → P k = false) → ct P s = 0
  | 0, _ => rfl
  | s + 1, h => by
    show ct P s + (if P s = true then 1 else 0) = 0
    rw [ct_0 s (fun k hk => h k (by omega)), h s (by omega)]
    rfl
theorem ct_or {P Q R : Nat → Bool} (h : ∀ k, R k = true → P k = true ∨ Q k = true) : ∀ s, ct R s ≤ ct P s + ct Q s
  | 0 => Nat.le_refl 0
  | s + 1 => by
    have ih := ct_or h s
    show ct R s + (if R s = true then 1 else 0) ≤ ct P s + (if P s = true then 1 else 0) + (ct Q s + (if Q s = true then 1 else 0))
    by_cases r : R s = true
    · rcases h s r with p | p
      · rw [if_pos r, if_pos p]; omega
      · rw [if_pos r, if_pos p]; omega
    · rw [if_neg r]; omega
theorem ct_1 {key : Nat → Int} {x : Int} : ∀ s, (∀ j k, j < k → k < s → ¬ key j = key k) → ct (fun k => decide (key k = x)) s ≤ 1
  | 0, _ => by show 0 ≤ 1; decide
  | s + 1, d => by
    show ct (fun k => decide (key k = x)) s + (if decide (key s = x) = true then 1 else 0) ≤ 1
    by_cases q : key s = x
    · rw [ct_0 s (fun k hk => decide_eq_false (fun z => d k s hk (by omega) (z.trans q.symm)))]
      split <;> omega
    · rw [if_neg (by rw [decide_eq_true_iff]; exact q)]
      exact ct_1 s (fun j k h1 h2 => d j k h1 (by omega))
theorem ct_l {key : Nat → Int} {s : Nat} (d : ∀ j k, j < k → k < s → ¬ key j = key k) : ∀ l : List Int, ct (fun k => decide (key k ∈ l)) s ≤ l.length
  | [] => by rw [ct_0 s (fun k _ => decide_eq_false (List.not_mem_nil))]; exact Nat.zero_le _
  | x :: l => by
    have a := ct_or (R := fun k => decide (key k ∈ x :: l)) (P := fun k => decide (key k = x)) (Q := fun k => decide (key k ∈ l)) (fun k h => by
      rw [decide_eq_true_iff] at h
      rcases List.mem_cons.mp h with z | z
      · exact Or.inl (decide_eq_true z)
      · exact Or.inr (decide_eq_true z)) s
    have b := ct_1 (x := x) s d
    have c := ct_l d l
    show _ ≤ l.length + 1
    omega
theorem ct_s {P : Nat → Bool} : ∀ s, ct P s + ct (fun k => !(P k)) s = s
  | 0 => rfl
  | s + 1 => by
    have ih := ct_s (P := P) s
    show ct P s + (if P s = true then 1 else 0) + (ct (fun k => !(P k)) s + (if (!(P s)) = true then 1 else 0)) = s + 1
    cases q : P s with
    | true => rw [if_pos rfl, if_neg (by decide)]; omega
    | false => rw [if_neg (by decide), if_pos (show (!false) = true from rfl)]; omega
theorem ct_sm {P : Nat → Bool} {f : Nat → Int} {c : Int} (h0 : ∀ k, 0 ≤ f k) : ∀ s, (∀ k, k < s → P k = true → c ≤ f k) → c * (ct P s : Int) ≤ sm f s
  | 0, _ => by show c * 0 ≤ 0; omega
  | s + 1, h => by
    have ih := ct_sm h0 s (fun k hk => h k (by omega))
    show c * ((ct P s + (if P s = true then 1 else 0) : Nat) : Int) ≤ sm f s + f s
    by_cases q : P s = true
    · rw [if_pos q]
      have := h s (by omega) q
      rw [Int.natCast_add, Int.mul_add]
      omega
    · rw [if_neg q]
      have := h0 s
      rw [Nat.add_zero]
      omega
theorem pow_9 {q : Int} (h : 9 ≤ q) : ∀ n : Nat, 1 ≤ q ^ n ∧ 9 ^ n ≤ q ^ n
  | 0 => by rw [Int.pow_zero, Int.pow_zero]; exact ⟨by decide, by decide⟩
  | n + 1 => by
    have ih := pow_9 h n
    rw [Int.pow_succ, Int.pow_succ]
    have a : q ^ n * 9 ≤ q ^ n * q := Int.mul_le_mul_of_nonneg_left h (by omega)
    omega
abbrev cand : List Int := ((List.range 25).map fun (d : Nat) => (d : Int)) ++ (List.range 24).flatMap fun (e : Nat) => (List.range (e + 1)).map fun (d : Nat) => ((d + 1 : Nat) : Int) + 32 * ((e + 1 : Nat) : Int)
theorem cand_n : cand.length = 325 := by decide +kernel
theorem cand_m {x : Int32} {n : Nat} {f : Nat → Int32} (Q : Kq x n f) (n2 : n ≤ 2) : x.toInt ∈ cand := by
  obtain ⟨_, e, V, S⟩ := Q
  unfold K5 pad at e
  have hc : n = 0 ∨ n = 1 ∨ n = 2 := by omega
  rcases hc with q | q | q
  · subst q
    simp at e
    rw [e]
    exact List.mem_append_left _ (List.mem_map.mpr ⟨0, List.mem_range.mpr (by decide), rfl⟩)
  · subst q
    simp at e
    have v := V 0 (by decide)
    exact List.mem_append_left _ (List.mem_map.mpr ⟨(f 0).toInt.toNat, List.mem_range.mpr (by omega), by omega⟩)
  · subst q
    simp at e
    have v0 := V 0 (by decide)
    have v1 := V 1 (by decide)
    have s := S 0 1 (by decide) (by decide)
    refine List.mem_append_right _ (List.mem_flatMap.mpr ⟨(f 1).toInt.toNat - 1, List.mem_range.mpr (by omega), List.mem_map.mpr ⟨(f 0).toInt.toNat - 1, List.mem_range.mpr (by omega), ?_⟩⟩)
    omega
/-- fewer than 1024 -/
theorem cnt_lt {key : Nat → Int32} {nk : Nat → Nat} {row : Nat → Nat → Int32} {q : Int} {s : Nat} (h9 : 9 ≤ q) (K : ∀ k, k < s → Kq (key k) (nk k) (row k)) (d : ∀ j k, j < k → k < s → ¬ key j = key k) (t : sm (fun k => 2 * q ^ nk k) s ≤ 600000) : s ≤ 736 := by
  have a1 := ct_s (P := fun k => decide (nk k ≤ 2)) s
  have a2 : ct (fun k => decide (nk k ≤ 2)) s ≤ 325 := by
    have b := ct_l (key := fun k => (key k).toInt) (s := s) (fun j k h1 h2 z => d j k h1 h2 (Int32.toInt_inj.mp z)) cand
    rw [cand_n] at b
    have c : ∀ u, u ≤ s → ct (fun k => decide (nk k ≤ 2)) u ≤ ct (fun k => decide ((key k).toInt ∈ cand)) u := by
      intro u
      induction u with
      | zero => intro _; exact Nat.le_refl 0
      | succ u ih =>
        intro hu
        have ih := ih (by omega)
        show ct (fun k => decide (nk k ≤ 2)) u + (if decide (nk u ≤ 2) = true then 1 else 0) ≤ ct (fun k => decide ((key k).toInt ∈ cand)) u + (if decide ((key u).toInt ∈ cand) = true then 1 else 0)
        by_cases z : nk u ≤ 2
        · rw [if_pos (decide_eq_true z), if_pos (decide_eq_true (cand_m (K u (by omega)) z))]; omega
        · rw [if_neg (by rw [decide_eq_true_iff]; exact z)]; omega
    exact Nat.le_trans (c s (Nat.le_refl s)) b
  have a3 := ct_sm (P := fun k => !(decide (nk k ≤ 2))) (f := fun k => 2 * q ^ nk k) (c := 1458) (fun k => by have := (pow_9 h9 (nk k)).1; show 0 ≤ 2 * q ^ nk k; omega) s (fun k hk z => by
    have n5 := (K k hk).1
    have n3 : ¬ nk k ≤ 2 := fun w => by
      rw [decide_eq_true w] at z
      exact absurd z (by decide)
    have p := (pow_9 h9 (nk k)).2
    show 1458 ≤ 2 * q ^ nk k
    have hc : nk k = 3 ∨ nk k = 4 ∨ nk k = 5 := by omega
    have e3 : (9 : Int) ^ 3 = 729 := by decide
    have e4 : (9 : Int) ^ 4 = 6561 := by decide
    have e5 : (9 : Int) ^ 5 = 59049 := by decide
    rcases hc with w | w | w <;> rw [w] at p ⊢ <;> omega)
  have a3' : 1458 * (ct (fun k => !(decide (nk k ≤ 2))) s : Int) ≤ 600000 := Int.le_trans a3 t
  omega
