/-! ways of a man are few -/
theorem c7_all : cntB (fun p => decide (p % 8 = 0)) 56 ≤ 14 := by decide
/-- whether STEP j leads to t at all -/
noncomputable def hitB (L : Nat → Nat → Int) (j : Nat) (sd : Int) (s t : Nat) : Bool := @decide (∃ k, RchL L j sd s t k) (Classical.propDecidable _)
theorem hb_t {L : Nat → Nat → Int} {j : Nat} {sd : Int} {s t : Nat} : hitB L j sd s t = true ↔ ∃ k, RchL L j sd s t k := by
  unfold hitB
  exact @decide_eq_true_iff _ (Classical.propDecidable _)
section
variable {L : Nat → Nat → Int} {j : Nat} {sd : Int} {s : Nat}
/-- pairs of this STEP and square on its own board, whose square is below T -/
noncomputable def prB (L : Nat → Nat → Int) (j : Nat) (sd : Int) (s T p : Nat) : Bool := vOk (L 76 j) (L 77 j) (fbt (L 75 j) 2) (p % 8) && @decide (onK (L 0 0) (L 1 0) s (vXi (L 76 j) (L 77 j) (fbt (L 75 j) 2) (p % 8)) (vYi (L 76 j) (L 77 j) sd (fbt (L 75 j) 2) (p % 8)) ((p / 8 : Nat) + 1) ∧ tgt (L 0 0) s (vXi (L 76 j) (L 77 j) (fbt (L 75 j) 2) (p % 8)) (vYi (L 76 j) (L 77 j) sd (fbt (L 75 j) 2) (p % 8)) ((p / 8 : Nat) + 1) < T) (Classical.propDecidable _)
theorem prb_t {T p : Nat} : prB L j sd s T p = true ↔ vOk (L 76 j) (L 77 j) (fbt (L 75 j) 2) (p % 8) = true ∧ onK (L 0 0) (L 1 0) s (vXi (L 76 j) (L 77 j) (fbt (L 75 j) 2) (p % 8)) (vYi (L 76 j) (L 77 j) sd (fbt (L 75 j) 2) (p % 8)) ((p / 8 : Nat) + 1) ∧ tgt (L 0 0) s (vXi (L 76 j) (L 77 j) (fbt (L 75 j) 2) (p % 8)) (vYi (L 76 j) (L 77 j) sd (fbt (L 75 j) 2) (p % 8)) ((p / 8 : Nat) + 1) < T := by
  unfold prB
  rw [Bool.and_eq_true]
  exact and_congr Iff.rfl (@decide_eq_true_iff _ (Classical.propDecidable _))
theorem prb_14 (H : LOk L) (J : StR L j) (sL : (s : Int) < L 0 0 * L 1 0) (T : Nat) : cntB (prB L j sd s T) 56 ≤ 14 := by
  have fi := H.1
  have ra := H.2.1
  have r1 : (s : Int) / L 0 0 < L 1 0 := Int.ediv_lt_of_lt_mul (by omega) (by rw [Int.mul_comm]; exact sL)
  have r0 : 0 ≤ (s : Int) / L 0 0 := Int.ediv_nonneg (by omega) (by omega)
  have m0 : 0 ≤ (s : Int) % L 0 0 := Int.emod_nonneg _ (by omega)
  have m1 : (s : Int) % L 0 0 < L 0 0 := Int.emod_lt_of_pos _ (by omega)
  cases q : fbt (L 75 j) 2 with
  | true =>
    refine Nat.le_trans (cntb_le 56 (fun p _ h => ?_)) c7_all
    have := (prb_t.mp h).1
    rw [q] at this
    exact this
  | false =>
    refine Nat.le_trans (cntb_le 56 (fun p _ h => ?_)) (w14 (a := L 76 j) (b := L 77 j) (f := (s : Int) % L 0 0) (r := (s : Int) / L 0 0) J.2.1 J.2.2.1 ⟨m0, by omega⟩ ⟨r0, by omega⟩)
    obtain ⟨a, ⟨b, c, d, e⟩, _⟩ := prb_t.mp h
    rw [q] at a b c d e
    rw [vy_f] at d e
    unfold okP
    rw [a, decide_eq_true b, decide_eq_true (show _ < (8 : Int) from by omega), decide_eq_true d, decide_eq_true (show _ < (8 : Int) from by omega)]
    rfl
/-- squares below T that it leads to -/
noncomputable def gT (L : Nat → Nat → Int) (j : Nat) (sd : Int) (s T : Nat) : Nat := cntB (hitB L j sd s) T
theorem gt_le (H : LOk L) (J : StR L j) (sL : (s : Int) < L 0 0 * L 1 0) : ∀ T, gT L j sd s T ≤ cntB (prB L j sd s T) 56
  | 0 => Nat.zero_le _
  | T + 1 => by
    have ih := gt_le H J sL T
    have mono : ∀ p, p < 56 → prB L j sd s T p = true → prB L j sd s (T + 1) p = true := fun p _ h => by
      obtain ⟨a, b, c⟩ := prb_t.mp h
      exact prb_t.mpr ⟨a, b, by omega⟩
    show gT L j sd s T + _ ≤ _
    by_cases c : hitB L j sd s T = true
    · rw [if_pos c]
      obtain ⟨k, _, k1, k2, d, hd, o1, e1⟩ := hb_t.mp c
      obtain ⟨e, he, ok, ex, ey⟩ := vok_ex (sd := sd) (fo := fbt (L 75 j) 2) J.2.1 J.2.2.1 hd
      rw [← ex, ← ey] at o1 e1
      have r7 := J.2.2.2.2.1
      have pm : (8 * (k - 1).toNat + e) % 8 = e := by omega
      have pd : (((8 * (k - 1).toNat + e) / 8 : Nat) : Int) + 1 = k := by omega
      refine Nat.le_trans (Nat.add_le_add_right ih 1) (cntb_lt (k := 8 * (k - 1).toNat + e) (fun z => ?_) ?_ 56 (by omega) mono)
      · obtain ⟨_, _, z⟩ := prb_t.mp z
        rw [pm, pd, ← e1] at z
        omega
      · refine prb_t.mpr ⟨by rw [pm]; exact ok, by rw [pm, pd]; exact o1, ?_⟩
        rw [pm, pd, ← e1]
        omega
    · rw [if_neg c]
      exact Nat.le_trans ih (cntb_le 56 mono)
theorem gt_14 (H : LOk L) (J : StR L j) (sL : (s : Int) < L 0 0 * L 1 0) (T : Nat) : gT L j sd s T ≤ 14 := Nat.le_trans (gt_le H J sL T) (prb_14 H J sL T)
/-- ways of one man from one square: by squares below T, and at T by STEPS below i -/
noncomputable def nW (L : Nat → Nat → Int) (m : Nat) (sd : Int) (s T i : Nat) : Nat → Nat
  | 0 => 0
  | n + 1 => nW L m sd s T i n + gT L (8 * m + n) sd s (if n < i then T + 1 else T)
theorem nw_le {m T i : Nat} (H : LOk L) (Hst : ∀ x : Nat, (x : Int) < L 74 m → StR L (8 * m + x)) (sL : (s : Int) < L 0 0 * L 1 0) : ∀ n : Nat, (n : Int) ≤ L 74 m → nW L m sd s T i n ≤ 14 * n
  | 0, _ => Nat.le_refl _
  | n + 1, h => by
    have ih := nw_le (T := T) (i := i) H Hst sL n (by omega)
    have := gt_14 (sd := sd) H (Hst n (by omega)) sL (if n < i then T + 1 else T)
    show nW L m sd s T i n + _ ≤ _
    omega
theorem nw_i {m T i : Nat} : ∀ n, nW L m sd s T (i + 1) n = nW L m sd s T i n + (if i < n then (if hitB L (8 * m + i) sd s T = true then 1 else 0) else 0)
  | 0 => rfl
  | n + 1 => by
    have ih := nw_i (m := m) (T := T) (i := i) n
    show nW L m sd s T (i + 1) n + gT L (8 * m + n) sd s (if n < i + 1 then T + 1 else T) = nW L m sd s T i n + gT L (8 * m + n) sd s (if n < i then T + 1 else T) + _
    rw [ih]
    by_cases c : n < i
    · rw [if_pos c, if_pos (show n < i + 1 by omega), if_neg (show ¬ i < n by omega), if_neg (show ¬ i < n + 1 by omega)]
      omega
    · by_cases d : n = i
      · rw [d, if_neg (show ¬ i < i by omega), if_pos (show i < i + 1 by omega), if_neg (show ¬ i < i by omega), if_pos (show i < i + 1 by omega)]
        show _ + 0 + (gT L (8 * m + i) sd s T + _) = _
        omega
      · rw [if_neg c, if_neg (show ¬ n < i + 1 by omega), if_pos (show i < n by omega), if_pos (show i < n + 1 by omega)]
        omega
theorem nw_t {m T i : Nat} : ∀ n, n ≤ i → nW L m sd s T i n = nW L m sd s (T + 1) 0 n
  | 0, _ => rfl
  | n + 1, h => by
    show nW L m sd s T i n + gT L (8 * m + n) sd s (if n < i then T + 1 else T) = nW L m sd s (T + 1) 0 n + gT L (8 * m + n) sd s (if n < 0 then T + 1 + 1 else T + 1)
    rw [nw_t n (by omega), if_pos (show n < i by omega), if_neg (Nat.not_lt_zero n)]
theorem nw_0 {m : Nat} : ∀ n, nW L m sd s 0 0 n = 0
  | 0 => rfl
  | n + 1 => by
    show nW L m sd s 0 0 n + gT L (8 * m + n) sd s (if n < 0 then 0 + 1 else 0) = 0
    rw [nw_0 n, if_neg (Nat.not_lt_zero n)]
    rfl
end
