/-! the class: all ways laid out -/
def cntN (V : Nat → Nat) (h : Hp) : Nat := (hI h (V 11) 8).toNatClampNeg
def fstA (V : Nat → Nat) (h : Hp) (N a y : Nat) : Nat := if y < N then rowN h (V 50) y else a
/-- cells below N are right; the last of them ends at a -/
def LayA (L : Nat → Nat → Int) (V : Nat → Nat) (h : Hp) (N a : Nat) : Prop := ∀ x, x < N → 0 ≤ (hI h (V 50) x).toInt ∧ rowN h (V 50) x ≤ fstA V h N a (x + 1) ∧ fstA V h N a (x + 1) ≤ a ∧ (((x / 64 % 64 : Nat) : Int) < L 0 0 * L 1 0 → CellW L V h (x / 4096) (x / 64 % 64) (x % 64) (rowN h (V 50) x) (fstA V h N a (x + 1)))
/-- squares from which ways lead, by cells below N, and at N by STEPS below I -/
def LayB (L : Nat → Nat → Int) (V : Nat → Nat) (h : Hp) (N I : Nat) : Prop := ∀ c s t : Nat, (c : Int) < 2 * L 2 0 → s < 64 → t < 64 → (bitJ (hJ h (V 53) (c * 64 + t)) s = true ↔ (s : Int) < L 0 0 * L 1 0 ∧ ∃ (i : Nat) (k : Int), (celN c s t < N ∨ (celN c s t = N ∧ i < I)) ∧ (i : Int) < L 74 (c / 2) ∧ RchL L (8 * (c / 2) + i) ((c % 2 : Nat) : Int) s t k) ∧ (bitJ (hJ h (V 54) (c * 64 + t)) s = true ↔ (s : Int) < L 0 0 * L 1 0 ∧ ∃ (i : Nat) (k : Int), (celN c s t < N ∨ (celN c s t = N ∧ i < I)) ∧ (i : Int) < L 74 (c / 2) ∧ fbt (L 75 (8 * (c / 2) + i)) 0 = false ∧ RchL L (8 * (c / 2) + i) ((c % 2 : Nat) : Int) s t k)
/-- one cell, by STEPS below I -/
def CellP (L : Nat → Nat → Int) (V : Nat → Nat) (h : Hp) (c s t a b n : Nat) : Prop := a ≤ b ∧ ∃ I : Nat → Nat, (∀ w, a ≤ w → w < b → I w < n ∧ ((I w : Nat) : Int) < L 74 (c / 2) ∧ WyE L V h c s t (I w) w) ∧ (∀ w w', a ≤ w → w < w' → w' < b → I w < I w') ∧ ∀ (i : Nat) (k : Int), i < n → (i : Int) < L 74 (c / 2) → RchL L (8 * (c / 2) + i) ((c % 2 : Nat) : Int) s t k → ∃ w, a ≤ w ∧ w < b ∧ I w = i
/-- times: those below (T, I) are gone again -/
def Tst (L : Nat → Nat → Int) (V : Nat → Nat) (m : Nat) (sd : Int) (s T I : Nat) (h : Hp) : Prop := ∀ t i : Nat, t < 64 → i < 8 → ((t < T ∨ (t = T ∧ i < I)) → hI h (V 56) (t * 8 + i) = 0) ∧ (¬ (t < T ∨ (t = T ∧ i < I)) → ((i : Int) < L 74 m → TmS L (8 * m + i) sd s t (hI h (V 56) (t * 8 + i)).toInt) ∧ (L 74 m ≤ (i : Int) → hI h (V 56) (t * 8 + i) = 0))
def Tz (V : Nat → Nat) (h : Hp) : Prop := ∀ x, x < 512 → hI h (V 56) x = 0
section
variable {F : Nat} {V : Nat → Nat} {L : Nat → Nat → Int}
theorem wye_k {h h' : Hp} {c s t i w : Nat} (E : WyE L V h c s t i w) (a : hI h' (V 51) w = hI h (V 51) w) (b : hJ h' (V 52) w = hJ h (V 52) w) : WyE L V h' c s t i w := by
  unfold WyE
  rw [a, b]
  exact E
theorem cw_k {h h' : Hp} {c s t a b : Nat} (E : CellW L V h c s t a b) (ka : ∀ w, w < b → hI h' (V 51) w = hI h (V 51) w) (kb : ∀ w, w < b → hJ h' (V 52) w = hJ h (V 52) w) : CellW L V h' c s t a b := by
  obtain ⟨l, I, I1, I2, I3⟩ := E
  exact ⟨l, I, fun w x y => ⟨(I1 w x y).1, wye_k (I1 w x y).2 (ka w y) (kb w y)⟩, I2, I3⟩
theorem cp_k {h h' : Hp} {c s t a b n : Nat} (E : CellP L V h c s t a b n) (ka : ∀ w, w < b → hI h' (V 51) w = hI h (V 51) w) (kb : ∀ w, w < b → hJ h' (V 52) w = hJ h (V 52) w) : CellP L V h' c s t a b n := by
  obtain ⟨l, I, I1, I2, I3⟩ := E
  exact ⟨l, I, fun w x y => ⟨(I1 w x y).1, (I1 w x y).2.1, wye_k (I1 w x y).2.2 (ka w y) (kb w y)⟩, I2, I3⟩
theorem cp_0 {h : Hp} {c s t a : Nat} : CellP L V h c s t a a 0 := ⟨Nat.le_refl _, fun _ => 0, fun w x y => by omega, fun w w' x y z => by omega, fun i k x => absurd x (Nat.not_lt_zero i)⟩
theorem cp_w {h : Hp} {c s t a b n : Nat} (E : CellP L V h c s t a b n) (hn : L 74 (c / 2) ≤ (n : Int)) : CellW L V h c s t a b := by
  obtain ⟨l, I, I1, I2, I3⟩ := E
  exact ⟨l, I, fun w x y => ⟨(I1 w x y).2.1, (I1 w x y).2.2⟩, I2, fun i k x y => I3 i k (by omega) x y⟩
/-- no way by STEP n -/
theorem cp_n {h : Hp} {c s t a b n : Nat} (E : CellP L V h c s t a b n) (no : (n : Int) < L 74 (c / 2) → ∀ k, ¬ RchL L (8 * (c / 2) + n) ((c % 2 : Nat) : Int) s t k) : CellP L V h c s t a b (n + 1) := by
  obtain ⟨l, I, I1, I2, I3⟩ := E
  refine ⟨l, I, fun w x y => ⟨by have := (I1 w x y).1; omega, (I1 w x y).2⟩, I2, fun i k x y z => ?_⟩
  by_cases c' : i = n
  · rw [c'] at y z
    exact absurd z (no y k)
  · exact I3 i k (by omega) y z
/-- one way by STEP n -/
theorem cp_s {h h' : Hp} {c s t a b n : Nat} (E : CellP L V h c s t a b n) (ka : ∀ w, w < b → hI h' (V 51) w = hI h (V 51) w) (kb : ∀ w, w < b → hJ h' (V 52) w = hJ h (V 52) w) (nL : (n : Int) < L 74 (c / 2)) (W : WyE L V h' c s t n b) : CellP L V h' c s t a (b + 1) (n + 1) := by
  obtain ⟨l, I, I1, I2, I3⟩ := E
  refine ⟨by omega, fun w => if w = b then n else I w, fun w x y => ?_, fun w w' x y z => ?_, fun i k x y z => ?_⟩
  · dsimp only
    by_cases c' : w = b
    · rw [if_pos c', c']
      exact ⟨by omega, nL, W⟩
    · rw [if_neg c']
      have q := I1 w x (by omega)
      exact ⟨by omega, q.2.1, wye_k q.2.2 (ka w (by omega)) (kb w (by omega))⟩
  · have cw : ¬ w = b := by omega
    show (if w = b then n else I w) < (if w' = b then n else I w')
    rw [if_neg cw]
    by_cases c' : w' = b
    · rw [if_pos c']
      exact (I1 w x (by omega)).1
    · rw [if_neg c']
      exact I2 w w' x y (by omega)
  · by_cases c' : i = n
    · exact ⟨b, l, by omega, by show (if b = b then n else I b) = i; rw [if_pos rfl, c']⟩
    · obtain ⟨w, p, q, r⟩ := I3 i k (by omega) y z
      exact ⟨w, p, by omega, by show (if w = b then n else I w) = i; rw [if_neg (show ¬ w = b by omega)]; exact r⟩
theorem la_k {h h' : Hp} {N a : Nat} (E : LayA L V h N a) (k50 : ∀ x, x < N → hI h' (V 50) x = hI h (V 50) x) (ka : ∀ w, w < a → hI h' (V 51) w = hI h (V 51) w) (kb : ∀ w, w < a → hJ h' (V 52) w = hJ h (V 52) w) : LayA L V h' N a := fun x hx => by
  obtain ⟨p, q, r, w⟩ := E x hx
  have e1 : rowN h' (V 50) x = rowN h (V 50) x := by unfold rowN; rw [k50 x hx]
  have e2 : fstA V h' N a (x + 1) = fstA V h N a (x + 1) := by
    unfold fstA
    by_cases c : x + 1 < N
    · rw [if_pos c, if_pos c]; unfold rowN; rw [k50 _ c]
    · rw [if_neg c, if_neg c]
  rw [k50 x hx, e1, e2]
  exact ⟨p, q, r, fun z => cw_k (w z) (fun w' y => ka w' (by omega)) (fun w' y => kb w' (by omega))⟩
theorem lb_k {h h' : Hp} {N I : Nat} (E : LayB L V h N I) (k53 : ∀ x, hJ h' (V 53) x = hJ h (V 53) x) (k54 : ∀ x, hJ h' (V 54) x = hJ h (V 54) x) : LayB L V h' N I := fun c s t hc hs ht => by
  rw [k53, k54]
  exact E c s t hc hs ht
/-- the cell is whole -/
theorem la_s {h : Hp} {N a b : Nat} (E : LayA L V h N a) (eN : rowN h (V 50) N = a) (e0 : 0 ≤ (hI h (V 50) N).toInt) (ab : a ≤ b) (W : ((N / 64 % 64 : Nat) : Int) < L 0 0 * L 1 0 → CellW L V h (N / 4096) (N / 64 % 64) (N % 64) a b) : LayA L V h (N + 1) b := fun x hx => by
  by_cases c : x = N
  · rw [c]
    unfold fstA
    rw [if_neg (Nat.lt_irrefl _), eN]
    exact ⟨e0, ab, Nat.le_refl _, W⟩
  · obtain ⟨p, q, r, w⟩ := E x (by omega)
    have e2 : fstA V h (N + 1) b (x + 1) = fstA V h N a (x + 1) := by
      unfold fstA
      rw [if_pos (show x + 1 < N + 1 by omega)]
      by_cases d : x + 1 < N
      · rw [if_pos d]
      · rw [if_neg d, show x + 1 = N by omega, eN]
    rw [e2]
    exact ⟨p, q, by omega, w⟩
theorem lb_s {h : Hp} {N n : Nat} (E : LayB L V h N n) (hn : ∀ c s t : Nat, (c : Int) < 2 * L 2 0 → s < 64 → t < 64 → celN c s t = N → (s : Int) < L 0 0 * L 1 0 → L 74 (c / 2) ≤ (n : Int)) : LayB L V h (N + 1) 0 := fun c s t hc hs ht => by
  obtain ⟨p, q⟩ := E c s t hc hs ht
  constructor
  · rw [p]
    constructor
    · rintro ⟨a, i, k, b, d, g⟩
      exact ⟨a, i, k, Or.inl (by omega), d, g⟩
    · rintro ⟨a, i, k, b, d, g⟩
      refine ⟨a, i, k, ?_, d, g⟩
      by_cases y : celN c s t = N
      · have := hn c s t hc hs ht y a
        exact Or.inr ⟨y, by omega⟩
      · exact Or.inl (by omega)
  · rw [q]
    constructor
    · rintro ⟨a, i, k, b, d, g⟩
      exact ⟨a, i, k, Or.inl (by omega), d, g⟩
    · rintro ⟨a, i, k, b, d, g⟩
      refine ⟨a, i, k, ?_, d, g⟩
      by_cases y : celN c s t = N
      · have := hn c s t hc hs ht y a
        exact Or.inr ⟨y, by omega⟩
      · exact Or.inl (by omega)
/-- STEP n adds nothing -/
theorem lb_n {h : Hp} {c0 s0 t0 n : Nat} (h0 : s0 < 64) (ht0 : t0 < 64) (E : LayB L V h (celN c0 s0 t0) n) (no : (n : Int) < L 74 (c0 / 2) → ∀ k, ¬ RchL L (8 * (c0 / 2) + n) ((c0 % 2 : Nat) : Int) s0 t0 k) : LayB L V h (celN c0 s0 t0) (n + 1) := fun c s t hc hs ht => by
  have inj : celN c s t = celN c0 s0 t0 → c = c0 ∧ s = s0 ∧ t = t0 := fun z => by unfold celN at z; omega
  obtain ⟨p, q⟩ := E c s t hc hs ht
  constructor
  · rw [p]
    constructor
    · rintro ⟨a, i, k, b, d, g⟩
      exact ⟨a, i, k, by omega, d, g⟩
    · rintro ⟨a, i, k, b, d, g⟩
      refine ⟨a, i, k, ?_, d, g⟩
      by_cases y : celN c s t = celN c0 s0 t0 ∧ i = n
      · obtain ⟨e1, e2, e3⟩ := inj y.1
        rw [e1, e2, e3, y.2] at g
        rw [e1, y.2] at d
        exact absurd g (no d k)
      · omega
  · rw [q]
    constructor
    · rintro ⟨a, i, k, b, d, g⟩
      exact ⟨a, i, k, by omega, d, g⟩
    · rintro ⟨a, i, k, b, d, g⟩
      refine ⟨a, i, k, ?_, d, g⟩
      by_cases y : celN c s t = celN c0 s0 t0 ∧ i = n
      · obtain ⟨e1, e2, e3⟩ := inj y.1
        rw [e1, e2, e3, y.2] at g
        rw [e1, y.2] at d
        exact absurd g.2 (no d k)
      · omega
/-- STEP n adds s0 -/
theorem lb_w {h h' : Hp} {c0 s0 t0 n : Nat} {fl k0 : Int} (h0 : s0 < 64) (ht0 : t0 < 64) (sL : (s0 : Int) < L 0 0 * L 1 0) (E : LayB L V h (celN c0 s0 t0) n) (nL : (n : Int) < L 74 (c0 / 2)) (fe : fl = L 75 (8 * (c0 / 2) + n)) (r : RchL L (8 * (c0 / 2) + n) ((c0 % 2 : Nat) : Int) s0 t0 k0) (k53 : ∀ x q, bitJ (hJ h' (V 53) x) q = (bitJ (hJ h (V 53) x) q || (decide (x = c0 * 64 + t0) && decide (s0 = q)))) (k54 : ∀ x q, bitJ (hJ h' (V 54) x) q = (bitJ (hJ h (V 54) x) q || (decide (x = c0 * 64 + t0) && decide (s0 = q) && !fbt fl 0))) : LayB L V h' (celN c0 s0 t0) (n + 1) := fun c s t hc hs ht => by
  have inj : celN c s t = celN c0 s0 t0 → c = c0 ∧ s = s0 ∧ t = t0 := fun z => by unfold celN at z; omega
  obtain ⟨p, q⟩ := E c s t hc hs ht
  constructor
  · rw [k53, Bool.or_eq_true, p, Bool.and_eq_true, decide_eq_true_eq, decide_eq_true_eq]
    constructor
    · rintro (⟨a, i, k, b, d, g⟩ | ⟨a, b⟩)
      · exact ⟨a, i, k, by omega, d, g⟩
      · have e1 : c = c0 := by omega
        have e2 : t = t0 := by omega
        rw [e1, e2, ← b]
        exact ⟨sL, n, k0, Or.inr ⟨rfl, by omega⟩, nL, r⟩
    · rintro ⟨a, i, k, b, d, g⟩
      by_cases y : celN c s t = celN c0 s0 t0 ∧ i = n
      · obtain ⟨e1, e2, e3⟩ := inj y.1
        exact Or.inr ⟨by rw [e1, e3], e2.symm⟩
      · exact Or.inl ⟨a, i, k, by omega, d, g⟩
  · rw [k54, Bool.or_eq_true, q, Bool.and_eq_true, Bool.and_eq_true, decide_eq_true_eq, decide_eq_true_eq]
    constructor
    · rintro (⟨a, i, k, b, d, g⟩ | ⟨⟨a, b⟩, f⟩)
      · exact ⟨a, i, k, by omega, d, g⟩
      · have e1 : c = c0 := by omega
        have e2 : t = t0 := by omega
        rw [e1, e2, ← b]
        refine ⟨sL, n, k0, Or.inr ⟨rfl, by omega⟩, nL, ?_, r⟩
        rw [← fe]
        cases y : fbt fl 0 with
        | false => rfl
        | true => rw [y] at f; exact absurd f (by decide)
    · rintro ⟨a, i, k, b, d, f, g⟩
      by_cases y : celN c s t = celN c0 s0 t0 ∧ i = n
      · obtain ⟨e1, e2, e3⟩ := inj y.1
        refine Or.inr ⟨⟨by rw [e1, e3], e2.symm⟩, ?_⟩
        rw [e1, y.2, ← fe] at f
        rw [f]; rfl
      · exact Or.inl ⟨a, i, k, by omega, d, f, g⟩
end
