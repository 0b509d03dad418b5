/-! rows of men: how often each is there, and in their order -/
def cn (f : Nat → Int32) (v : Int32) : Nat → Nat
  | 0 => 0
  | n + 1 => cn f v n + if f n = v then 1 else 0
def Sd (f : Nat → Int32) (n : Nat) : Prop := ∀ i j, i < j → j < n → (f i).toInt ≤ (f j).toInt
/-- one cell anew -/
def up (f : Nat → Int32) (k : Nat) (v : Int32) : Nat → Int32 := fun i => if i = k then v else f i
/-- one cell left out -/
def sk (f : Nat → Int32) (k : Nat) : Nat → Int32 := fun i => if i < k then f i else f (i + 1)
theorem cn_eq {f g : Nat → Int32} {v : Int32} : ∀ n, (∀ i, i < n → f i = g i) → cn f v n = cn g v n := by
  intro n
  induction n with
  | zero => intro _; rfl
  | succ n ih =>
    intro h
    show cn f v n + _ = cn g v n + _
    rw [ih (fun i hi => h i (by omega)), h n (by omega)]
theorem cn_pos {f : Nat → Int32} {v : Int32} : ∀ n, 0 < cn f v n → ∃ i, i < n ∧ f i = v := by
  intro n
  induction n with
  | zero => intro h; exact absurd h (by show ¬ 0 < 0; omega)
  | succ n ih =>
    intro h
    by_cases w : f n = v
    · exact ⟨n, by omega, w⟩
    · have : cn f v (n + 1) = cn f v n := by show cn f v n + (if f n = v then 1 else 0) = _; rw [if_neg w]; rfl
      obtain ⟨i, i1, i2⟩ := ih (by omega)
      exact ⟨i, by omega, i2⟩
theorem cn_in {f : Nat → Int32} {i : Nat} : ∀ n, i < n → 0 < cn f (f i) n := by
  intro n
  induction n with
  | zero => intro h; omega
  | succ n ih =>
    intro h
    show 0 < cn f (f i) n + if f n = f i then 1 else 0
    by_cases w : i = n
    · subst w; rw [if_pos rfl]; omega
    · have := ih (by omega); omega
theorem sd_uni {f g : Nat → Int32} : ∀ n, Sd f n → Sd g n → (∀ v, cn f v n = cn g v n) → ∀ i, i < n → f i = g i := by
  intro n
  induction n with
  | zero => intro _ _ _ i hi; omega
  | succ n ih =>
    intro a b e
    have top : f n = g n := by
      have h1 : 0 < cn g (f n) (n + 1) := by rw [← e]; exact cn_in _ (by omega)
      have h2 : 0 < cn f (g n) (n + 1) := by rw [e]; exact cn_in _ (by omega)
      obtain ⟨i, i1, i2⟩ := cn_pos _ h1
      obtain ⟨j, j1, j2⟩ := cn_pos _ h2
      apply Int32.toInt_inj.mp
      have l1 : (g i).toInt ≤ (g n).toInt := by
        by_cases w : i = n
        · rw [w]; exact Int.le_refl _
        · exact b i n (by omega) (by omega)
      have l2 : (f j).toInt ≤ (f n).toInt := by
        by_cases w : j = n
        · rw [w]; exact Int.le_refl _
        · exact a j n (by omega) (by omega)
      rw [i2] at l1
      rw [j2] at l2
      omega
    have ee : ∀ v, cn f v n = cn g v n := fun v => by
      have := e v
      have e1 : cn f v (n + 1) = cn f v n + if f n = v then 1 else 0 := rfl
      have e2 : cn g v (n + 1) = cn g v n + if g n = v then 1 else 0 := rfl
      rw [e1, e2, top] at this
      omega
    intro i hi
    by_cases w : i = n
    · rw [w]; exact top
    · exact ih (fun i j l1 l2 => a i j l1 (by omega)) (fun i j l1 l2 => b i j l1 (by omega)) ee i (by omega)
/-- one cell anew: one more of the one, one less of the other -/
theorem cn_up {f : Nat → Int32} {k : Nat} {v w : Int32} : ∀ n, k < n → cn (up f k v) w n + (if f k = w then 1 else 0) = cn f w n + (if v = w then 1 else 0) := by
  intro n
  induction n with
  | zero => intro h; omega
  | succ n ih =>
    intro h
    show cn (up f k v) w n + (if up f k v n = w then 1 else 0) + _ = cn f w n + (if f n = w then 1 else 0) + _
    by_cases z : k = n
    · subst z
      have : cn (up f k v) w k = cn f w k := cn_eq k (fun i hi => by unfold up; rw [if_neg (by omega)])
      have e2 : up f k v k = v := by unfold up; rw [if_pos rfl]
      rw [this, e2]
      omega
    · have := ih (by omega)
      have e2 : up f k v n = f n := by unfold up; rw [if_neg (by omega)]
      rw [e2]
      omega
/-- one cell left out: one less of it -/
theorem cn_sk {f : Nat → Int32} {k : Nat} {w : Int32} : ∀ n, k ≤ n → cn (sk f k) w n + (if f k = w then 1 else 0) = cn f w (n + 1) := by
  intro n
  induction n with
  | zero => intro h; have : k = 0 := by omega
            subst this; show 0 + _ = 0 + _; rfl
  | succ n ih =>
    intro h
    show cn (sk f k) w n + (if sk f k n = w then 1 else 0) + _ = cn f w (n + 1) + (if f (n + 1) = w then 1 else 0)
    by_cases z : k = n + 1
    · subst z
      have : cn (sk f (n + 1)) w n = cn f w n := cn_eq n (fun i hi => by unfold sk; rw [if_pos (by omega)])
      have e2 : sk f (n + 1) n = f n := by unfold sk; rw [if_pos (by omega)]
      rw [this, e2]
      rfl
    · have := ih (by omega)
      have e2 : sk f k n = f (n + 1) := by unfold sk; rw [if_neg (by omega)]
      rw [e2]
      omega
theorem sd_sk {f : Nat → Int32} {k n : Nat} (s : Sd f (n + 1)) : Sd (sk f k) n := by
  intro i j a b
  unfold sk
  split <;> split
  · exact s _ _ (by omega) (by omega)
  · exact s _ _ (by omega) (by omega)
  · omega
  · exact s _ _ (by omega) (by omega)
/-- the key of a row -/
def pkF (f : Nat → Int32) (x : Int32) : Nat → Int32
  | 0 => x
  | i + 1 => ((pkF f x i) <<< ((5 : Int32) &&& 31)) ||| (f i)
theorem pkF_eq {f g : Nat → Int32} {x : Int32} : ∀ n, (∀ i, i < n → f i = g i) → pkF f x n = pkF g x n := by
  intro n
  induction n with
  | zero => intro _; rfl
  | succ n ih =>
    intro z
    show ((pkF f x n) <<< ((5 : Int32) &&& 31)) ||| (f n) = ((pkF g x n) <<< ((5 : Int32) &&& 31)) ||| (g n)
    rw [ih (fun i hi => z i (by omega)), z n (by omega)]
theorem pkN_F {h : Hp} {a p : Nat} {x : Int32} : ∀ n, pkN h a p x n = pkF (fun i => hI h a (p + i)) x n := by
  intro n
  induction n with
  | zero => rfl
  | succ n ih =>
    show ((pkN h a p x n) <<< ((5 : Int32) &&& 31)) ||| (hI h a (p + n)) = _
    rw [ih]
    rfl
theorem pkF_rg {f : Nat → Int32} {x1 : Int32} (i1 : Rg 0 5 x1) (g : ∀ j, Rg 0 31 (f j)) : ∀ n, n ≤ 5 → x1.toInt * 32 ^ n ≤ (pkF f x1 n).toInt ∧ (pkF f x1 n).toInt + 1 ≤ (x1.toInt + 1) * 32 ^ n := by
  have a1 := i1.1
  have b1 := i1.2
  have st : ∀ (n : Nat) (lo hi : Int), 0 ≤ lo → hi ≤ 67108864 → lo ≤ (pkF f x1 n).toInt ∧ (pkF f x1 n).toInt + 1 ≤ hi → lo * 32 ≤ (pkF f x1 (n + 1)).toInt ∧ (pkF f x1 (n + 1)).toInt + 1 ≤ hi * 32 := fun n lo hi l0 l1 ⟨q1, q2⟩ => by
    have e : (pkF f x1 (n + 1)).toInt = 32 * (pkF f x1 n).toInt + (f n).toInt := or5 ⟨by omega, by omega⟩ (g _)
    have := (g n).1
    have := (g n).2
    omega
  have p0 : x1.toInt ≤ (pkF f x1 0).toInt ∧ (pkF f x1 0).toInt + 1 ≤ x1.toInt + 1 := ⟨Int.le_refl _, Int.le_refl _⟩
  have p1 : x1.toInt * 32 ≤ (pkF f x1 1).toInt ∧ (pkF f x1 1).toInt + 1 ≤ (x1.toInt + 1) * 32 := st 0 _ _ (by omega) (by omega) p0
  have p2 : x1.toInt * 32 * 32 ≤ (pkF f x1 2).toInt ∧ (pkF f x1 2).toInt + 1 ≤ (x1.toInt + 1) * 32 * 32 := st 1 _ _ (by omega) (by omega) p1
  have p3 : x1.toInt * 32 * 32 * 32 ≤ (pkF f x1 3).toInt ∧ (pkF f x1 3).toInt + 1 ≤ (x1.toInt + 1) * 32 * 32 * 32 := st 2 _ _ (by omega) (by omega) p2
  have p4 : x1.toInt * 32 * 32 * 32 * 32 ≤ (pkF f x1 4).toInt ∧ (pkF f x1 4).toInt + 1 ≤ (x1.toInt + 1) * 32 * 32 * 32 * 32 := st 3 _ _ (by omega) (by omega) p3
  have p5 : x1.toInt * 32 * 32 * 32 * 32 * 32 ≤ (pkF f x1 5).toInt ∧ (pkF f x1 5).toInt + 1 ≤ (x1.toInt + 1) * 32 * 32 * 32 * 32 * 32 := st 4 _ _ (by omega) (by omega) p4
  intro n hn
  rcases (by omega : n = 0 ∨ n = 1 ∨ n = 2 ∨ n = 3 ∨ n = 4 ∨ n = 5) with rfl | rfl | rfl | rfl | rfl | rfl
  · exact ⟨by show x1.toInt * 1 ≤ _; have := p0.1; omega, by show _ ≤ (x1.toInt + 1) * 1; have := p0.2; omega⟩
  · exact ⟨by show x1.toInt * 32 ≤ _; have := p1.1; omega, by show _ ≤ (x1.toInt + 1) * 32; have := p1.2; omega⟩
  · exact ⟨by show x1.toInt * 1024 ≤ _; have := p2.1; omega, by show _ ≤ (x1.toInt + 1) * 1024; have := p2.2; omega⟩
  · exact ⟨by show x1.toInt * 32768 ≤ _; have := p3.1; omega, by show _ ≤ (x1.toInt + 1) * 32768; have := p3.2; omega⟩
  · exact ⟨by show x1.toInt * 1048576 ≤ _; have := p4.1; omega, by show _ ≤ (x1.toInt + 1) * 1048576; have := p4.2; omega⟩
  · exact ⟨by show x1.toInt * 33554432 ≤ _; have := p5.1; omega, by show _ ≤ (x1.toInt + 1) * 33554432; have := p5.2; omega⟩
theorem pkF_k {f : Nat → Int32} {x1 : Int32} (i1 : Rg 0 5 x1) (g : ∀ j, Rg 0 31 (f j)) : (x1.toInt = 0 ∧ (pkF f x1 x1.toNatClampNeg).toInt = 0) ∨ (x1.toInt = 1 ∧ 32 ≤ (pkF f x1 x1.toNatClampNeg).toInt ∧ (pkF f x1 x1.toNatClampNeg).toInt < 64) ∨ (x1.toInt = 2 ∧ 2048 ≤ (pkF f x1 x1.toNatClampNeg).toInt ∧ (pkF f x1 x1.toNatClampNeg).toInt < 3072) ∨ (x1.toInt = 3 ∧ 98304 ≤ (pkF f x1 x1.toNatClampNeg).toInt ∧ (pkF f x1 x1.toNatClampNeg).toInt < 131072) ∨ (x1.toInt = 4 ∧ 4194304 ≤ (pkF f x1 x1.toNatClampNeg).toInt ∧ (pkF f x1 x1.toNatClampNeg).toInt < 5242880) ∨ (x1.toInt = 5 ∧ 167772160 ≤ (pkF f x1 x1.toNatClampNeg).toInt) := by
  have a1 := i1.1
  have b1 := i1.2
  have c1 := clamp_i a1
  have P := pkF_rg i1 g x1.toNatClampNeg (by omega)
  generalize (pkF f x1 x1.toNatClampNeg).toInt = K at *
  rcases (by omega : x1.toNatClampNeg = 0 ∨ x1.toNatClampNeg = 1 ∨ x1.toNatClampNeg = 2 ∨ x1.toNatClampNeg = 3 ∨ x1.toNatClampNeg = 4 ∨ x1.toNatClampNeg = 5) with z | z | z | z | z | z
  · rw [z] at P c1
    have e : x1.toInt = 0 := c1.symm
    rw [e] at P ⊢
    have q1 : (0 : Int) * 1 ≤ K := P.1
    have q2 : K + 1 ≤ (0 + 1) * 1 := P.2
    omega
  · rw [z] at P c1
    have e : x1.toInt = 1 := c1.symm
    rw [e] at P ⊢
    have q1 : (1 : Int) * 32 ≤ K := P.1
    have q2 : K + 1 ≤ (1 + 1) * 32 := P.2
    omega
  · rw [z] at P c1
    have e : x1.toInt = 2 := c1.symm
    rw [e] at P ⊢
    have q1 : (2 : Int) * 1024 ≤ K := P.1
    have q2 : K + 1 ≤ (2 + 1) * 1024 := P.2
    omega
  · rw [z] at P c1
    have e : x1.toInt = 3 := c1.symm
    rw [e] at P ⊢
    have q1 : (3 : Int) * 32768 ≤ K := P.1
    have q2 : K + 1 ≤ (3 + 1) * 32768 := P.2
    omega
  · rw [z] at P c1
    have e : x1.toInt = 4 := c1.symm
    rw [e] at P ⊢
    have q1 : (4 : Int) * 1048576 ≤ K := P.1
    have q2 : K + 1 ≤ (4 + 1) * 1048576 := P.2
    omega
  · rw [z] at P c1
    have e : x1.toInt = 5 := c1.symm
    rw [e] at P ⊢
    have q1 : (5 : Int) * 33554432 ≤ K := P.1
    omega
/-- equal keys: equally many -/
theorem pkF_same {f g : Nat → Int32} {x1 x2 : Int32} (i1 : Rg 0 5 x1) (i2 : Rg 0 5 x2) (g1 : ∀ j, Rg 0 31 (f j)) (g2 : ∀ j, Rg 0 31 (g j)) (e : pkF f x1 x1.toNatClampNeg = pkF g x2 x2.toNatClampNeg) : x1.toInt = x2.toInt := by
  have A := pkF_k i1 g1
  have B := pkF_k i2 g2
  rw [e] at A
  omega

/-- equal keys: equal rows -/
theorem pkF_inj {f g : Nat → Int32} {x y : Int32} (ix : Rg 0 5 x) (iy : Rg 0 5 y) (gf : ∀ j, Rg 0 31 (f j)) (gg : ∀ j, Rg 0 31 (g j)) (e : pkF f x x.toNatClampNeg = pkF g y y.toNatClampNeg) : x = y ∧ ∀ i, i < x.toNatClampNeg → f i = g i := by
  have e1 : x = y := Int32.toInt_inj.mp (pkF_same ix iy gf gg e)
  subst e1
  refine ⟨rfl, ?_⟩
  have st : ∀ n, n ≤ 5 → pkF f x n = pkF g x n → ∀ i, i < n → f i = g i := by
    intro n
    induction n with
    | zero => intro _ _ i hi; omega
    | succ n ih =>
      intro hn e i hi
      have bd : ∀ {f : Nat → Int32}, (∀ j, Rg 0 31 (f j)) → Rg 0 67108863 (pkF f x n) := fun {f} gf => by
        obtain ⟨w1, w2⟩ := pkF_rg ix gf n (by omega)
        have a1 := ix.1
        have b1 := ix.2
        have c1 : (1 : Int) ≤ 32 ^ n := by
          have : n = 0 ∨ n = 1 ∨ n = 2 ∨ n = 3 ∨ n = 4 := by omega
          rcases this with w | w | w | w | w <;> subst w <;> decide
        have c2 : (32 : Int) ^ n ≤ 1048576 := by
          have : n = 0 ∨ n = 1 ∨ n = 2 ∨ n = 3 ∨ n = 4 := by omega
          rcases this with w | w | w | w | w <;> subst w <;> decide
        have d1 : 0 ≤ x.toInt * 32 ^ n := Int.mul_nonneg a1 (by omega)
        have d2 : (x.toInt + 1) * 32 ^ n ≤ 6 * 1048576 := Int.mul_le_mul (by omega) c2 (by omega) (by decide)
        exact ⟨by omega, by omega⟩
      have e1 : (pkF f x (n + 1)).toInt = 32 * (pkF f x n).toInt + (f n).toInt := or5 (bd gf) (gf n)
      have e2 : (pkF g x (n + 1)).toInt = 32 * (pkF g x n).toInt + (g n).toInt := or5 (bd gg) (gg n)
      have e3 := congrArg Int32.toInt e
      rw [e1, e2] at e3
      have := (gf n).1
      have := (gf n).2
      have := (gg n).1
      have := (gg n).2
      have k1 : (pkF f x n).toInt = (pkF g x n).toInt := by omega
      have k2 : (f n).toInt = (g n).toInt := by omega
      by_cases w : i = n
      · rw [w]; exact Int32.toInt_inj.mp k2
      · exact ih (by omega) (Int32.toInt_inj.mp k1) i (by omega)
  have b5 : x.toNatClampNeg ≤ 5 := by have := clamp_i ix.1; have := ix.2; omega
  exact st _ b5 e
