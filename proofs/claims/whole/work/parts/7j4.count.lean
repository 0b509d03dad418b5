/-! no STEP comes from a square to more than 14 others -/
def cntB (P : Nat → Bool) : Nat → Nat
  | 0 => 0
  | n + 1 => cntB P n + (if P n = true then 1 else 0)
theorem cntb_le {P Q : Nat → Bool} : ∀ n, (∀ i, i < n → P i = true → Q i = true) → cntB P n ≤ cntB Q n
  | 0, _ => Nat.le_refl _
  | n + 1, h => by
    have ih := cntb_le (P := P) (Q := Q) n (fun i hi => h i (by omega))
    show cntB P n + _ ≤ cntB Q n + _
    by_cases c : P n = true
    · rw [if_pos c, if_pos (h n (by omega) c)]; omega
    · rw [if_neg c]; omega
theorem cntb_lt {P Q : Nat → Bool} {k : Nat} (pk : ¬ P k = true) (qk : Q k = true) : ∀ n, k < n → (∀ i, i < n → P i = true → Q i = true) → cntB P n + 1 ≤ cntB Q n
  | 0, hk, _ => absurd hk (Nat.not_lt_zero _)
  | n + 1, hk, h => by
    show cntB P n + _ + 1 ≤ cntB Q n + _
    by_cases e : k = n
    · have := cntb_le (P := P) (Q := Q) n (fun i hi => h i (by omega))
      rw [← e, if_neg pk, if_pos qk]
      rw [← e] at this
      omega
    · have := cntb_lt pk qk n (by omega) (fun i hi => h i (by omega))
      by_cases c : P n = true
      · rw [if_pos c, if_pos (h n (by omega) c)]; omega
      · rw [if_neg c]; omega
/-- pair p: vector p % 8, gone along p / 8 + 1 times, on 8 x 8 -/
def okP (a b : Int) (f r : Int) (p : Nat) : Bool := vOk a b false (p % 8) && (decide (0 ≤ f + ((p / 8 : Nat) + 1 : Int) * vXi a b false (p % 8)) && decide (f + ((p / 8 : Nat) + 1 : Int) * vXi a b false (p % 8) < 8)) && (decide (0 ≤ r + ((p / 8 : Nat) + 1 : Int) * vYi a b 0 false (p % 8)) && decide (r + ((p / 8 : Nat) + 1 : Int) * vYi a b 0 false (p % 8) < 8))
theorem w14_0 : ∀ i : Fin 4, ∀ j : Fin 15, ∀ f r : Fin 8, Nat.ble (cntB (okP ((i.val : Int) - 7) ((j.val : Int) - 7) f.val r.val) 56) 14 = true := by decide +kernel
theorem w14_1 : ∀ i : Fin 4, ∀ j : Fin 15, ∀ f r : Fin 8, Nat.ble (cntB (okP (((i.val + 4 : Nat) : Int) - 7) ((j.val : Int) - 7) f.val r.val) 56) 14 = true := by decide +kernel
theorem w14_2 : ∀ i : Fin 4, ∀ j : Fin 15, ∀ f r : Fin 8, Nat.ble (cntB (okP (((i.val + 8 : Nat) : Int) - 7) ((j.val : Int) - 7) f.val r.val) 56) 14 = true := by decide +kernel
theorem w14_3 : ∀ i : Fin 3, ∀ j : Fin 15, ∀ f r : Fin 8, Nat.ble (cntB (okP (((i.val + 12 : Nat) : Int) - 7) ((j.val : Int) - 7) f.val r.val) 56) 14 = true := by decide +kernel
theorem w14 {a b f r : Int} (ia : -7 ≤ a ∧ a ≤ 7) (ib : -7 ≤ b ∧ b ≤ 7) (hf : 0 ≤ f ∧ f < 8) (hr : 0 ≤ r ∧ r < 8) : cntB (okP a b f r) 56 ≤ 14 := by
  obtain ⟨j, hj⟩ : ∃ j : Nat, b = (j : Int) - 7 := ⟨(b + 7).toNat, by omega⟩
  obtain ⟨u, hu⟩ : ∃ u : Nat, f = (u : Int) := ⟨f.toNat, by omega⟩
  obtain ⟨v, hv⟩ : ∃ v : Nat, r = (v : Int) := ⟨r.toNat, by omega⟩
  apply Nat.le_of_ble_eq_true
  rw [hj, hu, hv]
  by_cases c1 : a < -3
  · obtain ⟨i, hi⟩ : ∃ i : Nat, a = (i : Int) - 7 := ⟨(a + 7).toNat, by omega⟩
    rw [hi]
    exact w14_0 ⟨i, by omega⟩ ⟨j, by omega⟩ ⟨u, by omega⟩ ⟨v, by omega⟩
  by_cases c2 : a < 1
  · obtain ⟨i, hi⟩ : ∃ i : Nat, a = ((i + 4 : Nat) : Int) - 7 := ⟨(a + 3).toNat, by omega⟩
    rw [hi]
    exact w14_1 ⟨i, by omega⟩ ⟨j, by omega⟩ ⟨u, by omega⟩ ⟨v, by omega⟩
  by_cases c3 : a < 5
  · obtain ⟨i, hi⟩ : ∃ i : Nat, a = ((i + 8 : Nat) : Int) - 7 := ⟨(a - 1).toNat, by omega⟩
    rw [hi]
    exact w14_2 ⟨i, by omega⟩ ⟨j, by omega⟩ ⟨u, by omega⟩ ⟨v, by omega⟩
  · obtain ⟨i, hi⟩ : ∃ i : Nat, a = ((i + 12 : Nat) : Int) - 7 := ⟨(a - 5).toNat, by omega⟩
    rw [hi]
    exact w14_3 ⟨i, by omega⟩ ⟨j, by omega⟩ ⟨u, by omega⟩ ⟨v, by omega⟩
