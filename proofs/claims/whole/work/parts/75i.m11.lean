section
/-! rows of men: how often each is there, and in their order -/
def cn (f : Nat → Int32) (v : Int32) : Nat → Nat
  | 0 => 0
  | n + 1 => cn f v n + if f n = v then 1 else 0
def Sd (f : Nat → Int32) (n : Nat) : Prop := ∀ i j, i < j → j < n → (f i).toInt ≤ (f j).toInt
/-- one cell anew -/
def up (f : Nat → Int32) (k : Nat) (v : Int32) : Nat → Int32 := fun i => if i = k then v else f i
/-- one cell left out -/
def sk (f : Nat → Int32) (k : Nat) : Nat → Int32 := fun i => if i < k then f i else f (i + 1)
theorem cn_eq {f g : Nat → Int32} {v : Int32} : ∀ n, (∀ i, i < n → f i = g i) → cn f v n = cn g v n := by
  intro n
  induction n with
  | zero => intro _; rfl
  | succ n ih =>
    intro h
    show cn f v n + _ = cn g v n + _
    rw [ih (fun i hi => h i (by omega)), h n (by omega)]
theorem cn_pos {f : Nat → Int32} {v : Int32} : ∀ n, 0 < cn f v n → ∃ i, i < n ∧ f i = v := by
  intro n
  induction n with
  | zero => intro h; exact absurd h (by show ¬ 0 < 0; omega)
  | succ n ih =>
    intro h
    by_cases w : f n = v
    · exact ⟨n, by omega, w⟩
    · have : cn f v (n + 1) = cn f v n := by show cn f v n + (if f n = v then 1 else 0) = _; rw [if_neg w]; rfl
      obtain ⟨i, i1, i2⟩ := ih (by omega)
      exact ⟨i, by omega, i2⟩
theorem cn_in {f : Nat → Int32} {i : Nat} : ∀ n, i < n → 0 < cn f (f i) n := by
  intro n
  induction n with
  | zero => intro h; omega
  | succ n ih =>
    intro h
    show 0 < cn f (f i) n + if f n = f i then 1 else 0
    by_cases w : i = n
    · subst w; rw [if_pos rfl]; omega
    · have := ih (by omega); omega
theorem sd_uni {f g : Nat → Int32} : ∀ n, Sd f n → Sd g n → (∀ v, cn f v n = cn g v n) → ∀ i, i < n → f i = g i := by
  intro n
  induction n with
  | zero => intro _ _ _ i hi; omega
  | succ n ih =>
    intro a b e
    have top : f n = g n := by
      have h1 : 0 < cn g (f n) (n + 1) := by rw [← e]; exact cn_in _ (by omega)
      have h2 : 0 < cn f (g n) (n + 1) := by rw [e]; exact cn_in _ (by omega)
      obtain ⟨i, i1, i2⟩ := cn_pos _ h1
      obtain ⟨j, j1, j2⟩ := cn_pos _ h2
      apply Int32.toInt_inj.mp
      have l1 : (g i).toInt ≤ (g n).toInt := by
        by_cases w : i = n
        · rw [w]; exact Int.le_refl _
        · exact b i n (by omega) (by omega)
      have l2 : (f j).toInt ≤ (f n).toInt := by
        by_cases w : j = n
        · rw [w]; exact Int.le_refl _
        · exact a j n (by omega) (by omega)
      rw [i2] at l1
      rw [j2] at l2
      omega
    have ee : ∀ v, cn f v n = cn g v n := fun v => by
      have := e v
      have e1 : cn f v (n + 1) = cn f v n + if f n = v then 1 else 0 := rfl
      have e2 : cn g v (n + 1) = cn g v n + if g n = v then 1 else 0 := rfl
      rw [e1, e2, top] at this
      omega
    intro i hi
    by_cases w : i = n
    · rw [w]; exact top
    · exact ih (fun i j l1 l2 => a i j l1 (by omega)) (fun i j l1 l2 => b i j l1 (by omega)) ee i (by omega)
/-- one cell anew: one more of the one, one less of the other -/
theorem cn_up {f : Nat → Int32} {k : Nat} {v w : Int32} : ∀ n, k < n → cn (up f k v) w n + (if f k = w then 1 else 0) = cn f w n + (if v = w then 1 else 0) := by
  intro n
  induction n with
  | zero => intro h; omega
  | succ n ih =>
    intro h
    show cn (up f k v) w n + (if up f k v n = w then 1 else 0) + _ = cn f w n + (if f n = w then 1 else 0) + _
    by_cases z : k = n
    · subst z
      have : cn (up f k v) w k = cn f w k := cn_eq k (fun i hi => by unfold up; rw [if_neg (by omega)])
      have e2 : up f k v k = v := by unfold up; rw [if_pos rfl]
      rw [this, e2]
      omega
    · have := ih (by omega)
      have e2 : up f k v n = f n := by unfold up; rw [if_neg (by omega)]
      rw [e2]
      omega
/-- one cell left out: one less of it -/
theorem cn_sk {f : Nat → Int32} {k : Nat} {w : Int32} : ∀ n, k ≤ n → cn (sk f k) w n + (if f k = w then 1 else 0) = cn f w (n + 1) := by
  intro n
  induction n with
  | zero => intro h; have : k = 0 := by omega
            subst this; show 0 + _ = 0 + _; rfl
  | succ n ih =>
    intro h
    show cn (sk f k) w n + (if sk f k n = w then 1 else 0) + _ = cn f w (n + 1) + (if f (n + 1) = w then 1 else 0)
    by_cases z : k = n + 1
    · subst z
      have : cn (sk f (n + 1)) w n = cn f w n := cn_eq n (fun i hi => by unfold sk; rw [if_pos (by omega)])
      have e2 : sk f (n + 1) n = f n := by unfold sk; rw [if_pos (by omega)]
      rw [this, e2]
      rfl
    · have := ih (by omega)
      have e2 : sk f k n = f (n + 1) := by unfold sk; rw [if_neg (by omega)]
      rw [e2]
      omega
theorem sd_sk {f : Nat → Int32} {k n : Nat} (s : Sd f (n + 1)) : Sd (sk f k) n := by
  intro i j a b
  unfold sk
  split <;> split
  · exact s _ _ (by omega) (by omega)
  · exact s _ _ (by omega) (by omega)
  · omega
  · exact s _ _ (by omega) (by omega)
/-- the key of a row -/
def pkF (f : Nat → Int32) (x : Int32) : Nat → Int32
  | 0 => x
  | i + 1 => ((pkF f x i) <<< ((5 : Int32) &&& 31)) ||| (f i)
theorem pkF_eq {f g : Nat → Int32} {x : Int32} : ∀ n, (∀ i, i < n → f i = g i) → pkF f x n = pkF g x n := by
  intro n
  induction n with
  | zero => intro _; rfl
  | succ n ih =>
    intro z
    show ((pkF f x n) <<< ((5 : Int32) &&& 31)) ||| (f n) = ((pkF g x n) <<< ((5 : Int32) &&& 31)) ||| (g n)
    rw [ih (fun i hi => z i (by omega)), z n (by omega)]
theorem pkN_F {h : Hp} {a p : Nat} {x : Int32} : ∀ n, pkN h a p x n = pkF (fun i => hI h a (p + i)) x n := by
  intro n
  induction n with
  | zero => rfl
  | succ n ih =>
    show ((pkN h a p x n) <<< ((5 : Int32) &&& 31)) ||| (hI h a (p + n)) = _
    rw [ih]
    rfl
theorem pkF_rg {f : Nat → Int32} {x1 : Int32} (i1 : Rg 0 5 x1) (g : ∀ j, Rg 0 31 (f j)) : ∀ n, n ≤ 5 → x1.toInt * 32 ^ n ≤ (pkF f x1 n).toInt ∧ (pkF f x1 n).toInt + 1 ≤ (x1.toInt + 1) * 32 ^ n := by
  have a1 := i1.1
  have b1 := i1.2
  have st : ∀ (n : Nat) (lo hi : Int), 0 ≤ lo → hi ≤ 67108864 → lo ≤ (pkF f x1 n).toInt ∧ (pkF f x1 n).toInt + 1 ≤ hi → lo * 32 ≤ (pkF f x1 (n + 1)).toInt ∧ (pkF f x1 (n + 1)).toInt + 1 ≤ hi * 32 := fun n lo hi l0 l1 ⟨q1, q2⟩ => by
    have e : (pkF f x1 (n + 1)).toInt = 32 * (pkF f x1 n).toInt + (f n).toInt := or5 ⟨by omega, by omega⟩ (g _)
    have := (g n).1
    have := (g n).2
    omega
  have p0 : x1.toInt ≤ (pkF f x1 0).toInt ∧ (pkF f x1 0).toInt + 1 ≤ x1.toInt + 1 := ⟨Int.le_refl _, Int.le_refl _⟩
  have p1 : x1.toInt * 32 ≤ (pkF f x1 1).toInt ∧ (pkF f x1 1).toInt + 1 ≤ (x1.toInt + 1) * 32 := st 0 _ _ (by omega) (by omega) p0
  have p2 : x1.toInt * 32 * 32 ≤ (pkF f x1 2).toInt ∧ (pkF f x1 2).toInt + 1 ≤ (x1.toInt + 1) * 32 * 32 := st 1 _ _ (by omega) (by omega) p1
  have p3 : x1.toInt * 32 * 32 * 32 ≤ (pkF f x1 3).toInt ∧ (pkF f x1 3).toInt + 1 ≤ (x1.toInt + 1) * 32 * 32 * 32 := st 2 _ _ (by omega) (by omega) p2
  have p4 : x1.toInt * 32 * 32 * 32 * 32 ≤ (pkF f x1 4).toInt ∧ (pkF f x1 4).toInt + 1 ≤ (x1.toInt + 1) * 32 * 32 * 32 * 32 := st 3 _ _ (by omega) (by omega) p3
  have p5 : x1.toInt * 32 * 32 * 32 * 32 * 32 ≤ (pkF f x1 5).toInt ∧ (pkF f x1 5).toInt + 1 ≤ (x1.toInt + 1) * 32 * 32 * 32 * 32 * 32 := st 4 _ _ (by omega) (by omega) p4
  intro n hn
  rcases (by omega : n = 0 ∨ n = 1 ∨ n = 2 ∨ n = 3 ∨ n = 4 ∨ n = 5) with rfl | rfl | rfl | rfl | rfl | rfl
  · exact ⟨by show x1.toInt * 1 ≤ _; have := p0.1; omega, by show _ ≤ (x1.toInt + 1) * 1; have := p0.2; omega⟩
  · exact ⟨by show x1.toInt * 32 ≤ _; have := p1.1; omega, by show _ ≤ (x1.toInt + 1) * 32; have := p1.2; omega⟩
  · exact ⟨by show x1.toInt * 1024 ≤ _; have := p2.1; omega, by show _ ≤ (x1.toInt + 1) * 1024; have := p2.2; omega⟩
  · exact ⟨by show x1.toInt * 32768 ≤ _; have := p3.1; omega, by show _ ≤ (x1.toInt + 1) * 32768; have := p3.2; omega⟩
  · exact ⟨by show x1.toInt * 1048576 ≤ _; have := p4.1; omega, by show _ ≤ (x1.toInt + 1) * 1048576; have := p4.2; omega⟩
  · exact ⟨by show x1.toInt * 33554432 ≤ _; have := p5.1; omega, by show _ ≤ (x1.toInt + 1) * 33554432; have := p5.2; omega⟩
theorem pkF_k {f : Nat → Int32} {x1 : Int32} (i1 : Rg 0 5 x1) (g : ∀ j, Rg 0 31 (f j)) : (x1.toInt = 0 ∧ (pkF f x1 x1.toNatClampNeg).toInt = 0) ∨ (x1.toInt = 1 ∧ 32 ≤ (pkF f x1 x1.toNatClampNeg).toInt ∧ (pkF f x1 x1.toNatClampNeg).toInt < 64) ∨ (x1.toInt = 2 ∧ 2048 ≤ (pkF f x1 x1.toNatClampNeg).toInt ∧ (pkF f x1 x1.toNatClampNeg).toInt < 3072) ∨ (x1.toInt = 3 ∧ 98304 ≤ (pkF f x1 x1.toNatClampNeg).toInt ∧ (pkF f x1 x1.toNatClampNeg).toInt < 131072) ∨ (x1.toInt = 4 ∧ 4194304 ≤ (pkF f x1 x1.toNatClampNeg).toInt ∧ (pkF f x1 x1.toNatClampNeg).toInt < 5242880) ∨ (x1.toInt = 5 ∧ 167772160 ≤ (pkF f x1 x1.toNatClampNeg).toInt) := by
  have a1 := i1.1
  have b1 := i1.2
  have c1 := clamp_i a1
  have P := pkF_rg i1 g x1.toNatClampNeg (by omega)
  generalize (pkF f x1 x1.toNatClampNeg).toInt = K at *
  rcases (by omega : x1.toNatClampNeg = 0 ∨ x1.toNatClampNeg = 1 ∨ x1.toNatClampNeg = 2 ∨ x1.toNatClampNeg = 3 ∨ x1.toNatClampNeg = 4 ∨ x1.toNatClampNeg = 5) with z | z | z | z | z | z
  · rw [z] at P c1
    have e : x1.toInt = 0 := c1.symm
    rw [e] at P ⊢
    have q1 : (0 : Int) * 1 ≤ K := P.1
    have q2 : K + 1 ≤ (0 + 1) * 1 := P.2
    omega
  · rw [z] at P c1
    have e : x1.toInt = 1 := c1.symm
    rw [e] at P ⊢
    have q1 : (1 : Int) * 32 ≤ K := P.1
    have q2 : K + 1 ≤ (1 + 1) * 32 := P.2
    omega
  · rw [z] at P c1
    have e : x1.toInt = 2 := c1.symm
    rw [e] at P ⊢
    have q1 : (2 : Int) * 1024 ≤ K := P.1
    have q2 : K + 1 ≤ (2 + 1) * 1024 := P.2
    omega
  · rw [z] at P c1
    have e : x1.toInt = 3 := c1.symm
    rw [e] at P ⊢
    have q1 : (3 : Int) * 32768 ≤ K := P.1
    have q2 : K + 1 ≤ (3 + 1) * 32768 := P.2
    omega
  · rw [z] at P c1
    have e : x1.toInt = 4 := c1.symm
    rw [e] at P ⊢
    have q1 : (4 : Int) * 1048576 ≤ K := P.1
    have q2 : K + 1 ≤ (4 + 1) * 1048576 := P.2
    omega
  · rw [z] at P c1
    have e : x1.toInt = 5 := c1.symm
    rw [e] at P ⊢
    have q1 : (5 : Int) * 33554432 ≤ K := P.1
    omega
/-- equal keys: equally many -/
theorem pkF_same {f g : Nat → Int32} {x1 x2 : Int32} (i1 : Rg 0 5 x1) (i2 : Rg 0 5 x2) (g1 : ∀ j, Rg 0 31 (f j)) (g2 : ∀ j, Rg 0 31 (g j)) (e : pkF f x1 x1.toNatClampNeg = pkF g x2 x2.toNatClampNeg) : x1.toInt = x2.toInt := by
  have A := pkF_k i1 g1
  have B := pkF_k i2 g2
  rw [e] at A
  omega

/-- equal keys: equal rows -/
theorem pkF_inj {f g : Nat → Int32} {x y : Int32} (ix : Rg 0 5 x) (iy : Rg 0 5 y) (gf : ∀ j, Rg 0 31 (f j)) (gg : ∀ j, Rg 0 31 (g j)) (e : pkF f x x.toNatClampNeg = pkF g y y.toNatClampNeg) : x = y ∧ ∀ i, i < x.toNatClampNeg → f i = g i := by
  have e1 : x = y := Int32.toInt_inj.mp (pkF_same ix iy gf gg e)
  subst e1
  refine ⟨rfl, ?_⟩
  have st : ∀ n, n ≤ 5 → pkF f x n = pkF g x n → ∀ i, i < n → f i = g i := by
    intro n
    induction n with
    | zero => intro _ _ i hi; omega
    | succ n ih =>
      intro hn e i hi
      have bd : ∀ {f : Nat → Int32}, (∀ j, Rg 0 31 (f j)) → Rg 0 67108863 (pkF f x n) := fun {f} gf => by
        obtain ⟨w1, w2⟩ := pkF_rg ix gf n (by omega)
        have a1 := ix.1
        have b1 := ix.2
        have c1 : (1 : Int) ≤ 32 ^ n := by
          have : n = 0 ∨ n = 1 ∨ n = 2 ∨ n = 3 ∨ n = 4 := by omega
          rcases this with w | w | w | w | w <;> subst w <;> decide
        have c2 : (32 : Int) ^ n ≤ 1048576 := by
          have : n = 0 ∨ n = 1 ∨ n = 2 ∨ n = 3 ∨ n = 4 := by omega
          rcases this with w | w | w | w | w <;> subst w <;> decide
        have d1 : 0 ≤ x.toInt * 32 ^ n := Int.mul_nonneg a1 (by omega)
        have d2 : (x.toInt + 1) * 32 ^ n ≤ 6 * 1048576 := Int.mul_le_mul (by omega) c2 (by omega) (by decide)
        exact ⟨by omega, by omega⟩
      have e1 : (pkF f x (n + 1)).toInt = 32 * (pkF f x n).toInt + (f n).toInt := or5 (bd gf) (gf n)
      have e2 : (pkF g x (n + 1)).toInt = 32 * (pkF g x n).toInt + (g n).toInt := or5 (bd gg) (gg n)
      have e3 := congrArg Int32.toInt e
      rw [e1, e2] at e3
      have := (gf n).1
      have := (gf n).2
      have := (gg n).1
      have := (gg n).2
      have k1 : (pkF f x n).toInt = (pkF g x n).toInt := by omega
      have k2 : (f n).toInt = (g n).toInt := by omega
      by_cases w : i = n
      · rw [w]; exact Int32.toInt_inj.mp k2
      · exact ih (by omega) (Int32.toInt_inj.mp k1) i (by omega)
  have b5 : x.toNatClampNeg ≤ 5 := by have := clamp_i ix.1; have := ix.2; omega
  exact st _ b5 e
end
section
/-! slots by their keys, told by equations -/
theorem sat_e {α : Type} {Z : α → Prop} {m : Option α} {o : α} (S : Sat m Z) (e : m = some o) : Z o := by
  obtain ⟨b, e1, z⟩ := S
  rw [e1] at e
  exact (Option.some.inj e) ▸ z
def hsK (key : Int32) : Int32 := (((key ^^^ ((key.toUInt32 >>> ((13 : Int32).toUInt32 &&& Int32.toUInt32 31)).toInt32)) * (-1640531535 : Int32)).toUInt32 >>> ((18 : Int32).toUInt32 &&& Int32.toUInt32 31)).toInt32
def sl (key : Int32) (m : Nat) : Nat := ((hsK key).toNatClampNeg + m) % 16384
/-- a key is found -/
def Fnd (rs rk : Nat) (key : Int32) (h : Hp) : Prop := ∃ m, (∀ m', m' < m → 0 < (hI h rs (sl key m')).toInt) ∧ 0 < (hI h rs (sl key m)).toInt ∧ hI h rk (sl key m) = key
section
variable {x0 rs rk F : Nat} {h : Hp} {key : Int32}
theorem slot_q (er : hR h x0 56 = some rs) (e4 : hR h x0 55 = some rk) {o : Int32 × Hp} (e : sX15_slotOf F h x0 key = some o) : o.2 = h ∧ 0 ≤ o.1.toInt ∧ ∃ m, o.1.toNatClampNeg = sl key m ∧ (∀ m', m' < m → 0 < (hI h rs (sl key m')).toInt ∧ ¬ hI h rk (sl key m') = key) ∧ (¬ 0 < (hI h rs (sl key m)).toInt ∨ hI h rk (sl key m) = key) := by
  have lp : ∀ (f : Nat) {x2 : Int32} {m0 : Nat}, Rg 0 16383 x2 → x2.toNatClampNeg = sl key m0 → (∀ m', m' < m0 → 0 < (hI h rs (sl key m')).toInt ∧ ¬ hI h rk (sl key m') = key) → sX15_slotOf_14 F f h x0 key x2 = some o → o.2 = h ∧ 0 ≤ o.1.toInt ∧ ∃ m, o.1.toNatClampNeg = sl key m ∧ (∀ m', m' < m → 0 < (hI h rs (sl key m')).toInt ∧ ¬ hI h rk (sl key m') = key) ∧ (¬ 0 < (hI h rs (sl key m)).toInt ∨ hI h rk (sl key m) = key) := by
    intro f
    induction f with
    | zero => intro x2 m0 _ _ _ e; exact absurd e (by simp [sX15_slotOf_14])
    | succ f ih =>
      intro x2 m0 i2 ex A e
      unfold sX15_slotOf_14 sX15_slotOf_44 at e
      simp only [nm] at e
      replace e := cl_s e; obtain ⟨r1, p, e⟩ := e
      have := r_eq er p; subst this
      replace e := (gd_s e).2
      replace e := br_s e; rcases e with ⟨c, e⟩ | ⟨c, e⟩
      · have e := Option.some.inj e; subst e
        have c := le_i c
        have z0 : (0 : Int32).toInt = 0 := rfl
        exact ⟨rfl, i2.1, m0, ex, A, Or.inl (by rw [← ex]; omega)⟩
      have c := nle_i c
      replace e := cl_s e; obtain ⟨r4, p, e⟩ := e
      have := r_eq e4 p; subst this
      replace e := (gd_s e).2
      replace e := br_s e; rcases e with ⟨c2, e⟩ | ⟨c2, e⟩
      · have e := Option.some.inj e; subst e
        exact ⟨rfl, i2.1, m0, ex, A, Or.inr (by rw [← ex]; exact c2)⟩
      have a2 := i2.1
      have b2 := i2.2
      have s1 : (x2 + (1 : Int32)).toInt = x2.toInt + 1 := ta (by show _ ≤ x2.toInt + 1 ∧ x2.toInt + 1 ≤ _; omega)
      have s2 := and14 (x := x2 + (1 : Int32)) ⟨by omega, by omega⟩
      rw [s1] at s2
      have i2' : Rg 0 16383 ((x2 + (1 : Int32)) &&& (16383 : Int32)) := ⟨by omega, by omega⟩
      refine ih (m0 := m0 + 1) i2' ?_ (fun m' hm => ?_) e
      · have k1 := clamp_i i2'.1
        have k2 := clamp_i i2.1
        unfold sl at ex ⊢
        omega
      · by_cases w : m' = m0
        · subst w; rw [← ex]; exact ⟨c, c2⟩
        · exact A m' (by omega)
  unfold sX15_slotOf at e
  simp only [nm] at e
  refine lp F (m0 := 0) (ush18 _) ?_ (fun m' hm => absurd hm (by omega)) e
  have i := ush18 ((key ^^^ ((key.toUInt32 >>> ((13 : Int32).toUInt32 &&& Int32.toUInt32 31)).toInt32)) * (-1640531535 : Int32))
  have := clamp_i i.1
  have := i.2
  unfold sl hsK
  omega
/-- who is found, is found by slotOf -/
theorem slot_fnd (er : hR h x0 56 = some rs) (e4 : hR h x0 55 = some rk) {o : Int32 × Hp} (e : sX15_slotOf F h x0 key = some o) (N : Fnd rs rk key h) : 0 < (hI h rs o.1.toNatClampNeg).toInt := by
  obtain ⟨_, _, m, em, A, alt⟩ := slot_q er e4 e
  obtain ⟨M, B1, B2, B3⟩ := N
  rw [em]
  by_cases w : m < M
  · exact B1 m w
  · by_cases w2 : m = M
    · subst w2; exact B2
    · exact absurd B3 (A M (by omega)).2
theorem find_q (hF : 700000 ≤ F) {a : Nat} {n : Int32} (hn : hN h a = 6) (i1 : Rg 0 6 n) (irs : ∀ j, 0 ≤ (hI h rs j).toInt ∧ (hI h rs j).toInt ≤ 4096) (er : hR h x0 56 = some rs) (e4 : hR h x0 55 = some rk) {o : Int32 × Hp} (e : sX15_findSet F h x0 a n = some o) : o.2 = h ∧ (Fnd rs rk (pkN h a 0 n n.toNatClampNeg) h → 0 ≤ o.1.toInt) ∧ (¬ o.1 = (-1 : Int32) → 0 ≤ o.1.toInt ∧ Fnd rs rk (pkN h a 0 n n.toNatClampNeg) h) := by
  unfold sX15_findSet at e
  replace e := cl_s e; obtain ⟨r1, p, e⟩ := e
  have := r_eq er p; subst this
  replace e := cl_s e; obtain ⟨o2, e2, e⟩ := e
  obtain ⟨w1, w2⟩ := sat_e (packed_q hF hn i1) e2
  rw [w1, w2] at e
  replace e := cl_s e; obtain ⟨o3, e3, e⟩ := e
  have sf := slot_fnd er e4 e3
  obtain ⟨v1, v2, m, em, A, alt⟩ := slot_q er e4 e3
  rw [v1] at e
  replace e := (gd_s e).2
  have e := Option.some.inj e; subst e
  have ir := irs o3.1.toNatClampNeg
  have sb : (hI h r1 o3.1.toNatClampNeg - (1 : Int32)).toInt = (hI h r1 o3.1.toNatClampNeg).toInt - 1 := ts (by show _ ≤ (hI h r1 o3.1.toNatClampNeg).toInt - 1 ∧ (hI h r1 o3.1.toNatClampNeg).toInt - 1 ≤ _; omega)
  refine ⟨rfl, fun N => ?_, fun ne => ?_⟩
  · have := sf N
    show 0 ≤ (hI h r1 o3.1.toNatClampNeg - (1 : Int32)).toInt
    omega
  · have u : 0 < (hI h r1 o3.1.toNatClampNeg).toInt := by
      refine Classical.byContradiction fun z => ne ?_
      apply Int32.toInt_inj.mp
      show (hI h r1 o3.1.toNatClampNeg - (1 : Int32)).toInt = (-1 : Int32).toInt
      rw [sb]
      have : (-1 : Int32).toInt = -1 := rfl
      omega
    refine ⟨by show 0 ≤ (hI h r1 o3.1.toNatClampNeg - (1 : Int32)).toInt; omega, m, fun m' hm => (A m' hm).1, by rw [← em]; exact u, ?_⟩
    rcases alt with z | z
    · rw [← em] at z; exact absurd u z
    · exact z
/-- a slot that is written for its key -/
theorem fnd_w {g : Hp} {m : Nat} {v : Int32} (A : ∀ m', m' < m → 0 < (hI h rs (sl key m')).toInt ∧ ¬ hI h rk (sl key m') = key) (alt : ¬ 0 < (hI h rs (sl key m)).toInt ∨ hI h rk (sl key m) = key) (vp : 0 < v.toInt) (n1 : ¬ rs = rk) (w1 : ∀ j, hI g rk j = if j = sl key m then key else hI h rk j) (w2 : ∀ j, hI g rs j = if j = sl key m then v else hI h rs j) : Fnd rs rk key g ∧ ∀ k2, Fnd rs rk k2 h → Fnd rs rk k2 g := by
  constructor
  · refine ⟨m, fun m' hm => ?_, ?_, ?_⟩
    · rw [w2]; split
      · exact vp
      · exact (A m' hm).1
    · rw [w2, if_pos rfl]; exact vp
    · rw [w1, if_pos rfl]
  · rintro k2 ⟨M, B1, B2, B3⟩
    refine ⟨M, fun m' hm => ?_, ?_, ?_⟩
    · rw [w2]; split
      · exact vp
      · exact B1 m' hm
    · rw [w2]; split
      · exact vp
      · exact B2
    · rw [w1]; split
      · rename_i q
        rcases alt with z | z
        · rw [← q] at z; exact absurd B2 z
        · rw [← q, B3] at z; exact z.symm
      · exact B3
end
end
section
/-! addSet by its equation: the row in its order is there behind it -/
/-- the rows of the sets -/
def SlR (ρ : Nat → Nat) (x0 rm re rb rk rs ro : Nat) (h : Hp) : Prop := (ρ x0 = 16 ∧ ρ rm = 99 ∧ ρ re = 100 ∧ ρ rb = 101 ∧ ρ rk = 106 ∧ ρ rs = 107 ∧ ρ ro = 108) ∧ (hR h x0 46 = some rm ∧ hR h x0 47 = some re ∧ hR h x0 48 = some rb ∧ hR h x0 55 = some rk ∧ hR h x0 56 = some rs ∧ hR h x0 57 = some ro)
/-- what is as it was, and what is more -/
def Mo (ρ : Nat → Nat) (x0 rm re rk rs : Nat) (h g : Hp) : Prop := (∀ a i, hR g a i = hR h a i) ∧ (∀ a, hN g a = hN h a) ∧ (∀ a i, ¬ (99 ≤ ρ a ∧ ρ a ≤ 101) → ¬ (106 ≤ ρ a ∧ ρ a ≤ 108) → ¬ (a = x0 ∧ i = 49) → hI g a i = hI h a i) ∧ (∀ key, Fnd rs rk key h → Fnd rs rk key g) ∧ (hI h x0 49).toInt ≤ (hI g x0 49).toInt ∧ (∀ k : Nat, (k : Int) < (hI h x0 49).toInt → hI g rm k = hI h rm k ∧ ∀ i, i < 5 → hI g re (5 * k + i) = hI h re (5 * k + i)) ∧ (∀ k : Nat, (hI h x0 49).toInt ≤ (k : Int) → (k : Int) < (hI g x0 49).toInt → Sd (fun i => hI g re (5 * k + i)) (hI g rm k).toNatClampNeg ∧ Fnd rs rk (pkF (fun i => hI g re (5 * k + i)) (hI g rm k) (hI g rm k).toNatClampNeg) g)
section
variable {ρ : Nat → Nat} {x0 rm re rb rk rs ro F : Nat} {h0 h g : Hp} {n : Int32}
theorem mo_t {g2 : Hp} (m5 : ∀ k, (hI g rm k).toNatClampNeg ≤ 5) (A : Mo ρ x0 rm re rk rs h g) (B : Mo ρ x0 rm re rk rs g g2) : Mo ρ x0 rm re rk rs h g2 := by
  obtain ⟨a1, a2, a3, a4, a5, a6, a7⟩ := A
  obtain ⟨b1, b2, b3, b4, b5, b6, b7⟩ := B
  refine ⟨fun a i => (b1 a i).trans (a1 a i), fun a => (b2 a).trans (a2 a), fun a i n1 n2 n3 => (b3 a i n1 n2 n3).trans (a3 a i n1 n2 n3), fun k w => b4 k (a4 k w), by omega, fun k hk => ?_, fun k l1 l2 => ?_⟩
  · obtain ⟨p1, p2⟩ := a6 k hk
    obtain ⟨q1, q2⟩ := b6 k (by omega)
    exact ⟨q1.trans p1, fun i hi => (q2 i hi).trans (p2 i hi)⟩
  · by_cases w : (k : Int) < (hI g x0 49).toInt
    · obtain ⟨q1, q2⟩ := b6 k w
      obtain ⟨z, y⟩ := a7 k l1 w
      have m := m5 k
      rw [q1]
      refine ⟨fun i j lij lj => ?_, ?_⟩
      · show (hI g2 re (5 * k + i)).toInt ≤ (hI g2 re (5 * k + j)).toInt
        rw [q2 i (by omega), q2 j (by omega)]
        exact z i j lij lj
      · rw [pkF_eq (f := fun i => hI g2 re (5 * k + i)) (g := fun i => hI g re (5 * k + i)) _ (fun i hi => q2 i (by omega))]
        exact b4 _ y
    · exact b7 k (by omega) l2
/-- but for the row of men, all is as it was -/
def Jo (ro : Nat) (h g : Hp) : Prop := (∀ a i, hR g a i = hR h a i) ∧ (∀ a, hN g a = hN h a) ∧ (∀ a i, hJ g a i = hJ h a i) ∧ ∀ a i, ¬ a = ro → hI g a i = hI h a i
theorem jo_w {j : Nat} {v : Int32} (A : Jo ro h g) : Jo ro h (wI g ro j v) := ⟨A.1, A.2.1, A.2.2.1, fun a i na => by rw [r_I, if_neg (fun w => na w.1)]; exact A.2.2.2 a i na⟩
theorem row_up {j : Nat} {v : Int32} : (fun i => hI (wI g ro j v) ro i) = up (fun i => hI g ro i) j v := by
  funext i
  show hI (wI g ro j v) ro i = if i = j then v else hI g ro i
  rw [r_I]
  by_cases w : i = j
  · rw [if_pos ⟨rfl, w⟩, if_pos w]
  · rw [if_neg (fun z => w z.2), if_neg w]
/-- a swap of neighbours -/
theorem cn_swap {f : Nat → Int32} {k m : Nat} {v w : Int32} (hk : k + 1 < m) : cn (up (up f (k + 1) (f k)) k v) w m = cn (up f (k + 1) v) w m := by
  have a := cn_up (f := up f (k + 1) (f k)) (k := k) (v := v) (w := w) m (by omega)
  have b := cn_up (f := f) (k := k + 1) (v := f k) (w := w) m hk
  have c := cn_up (f := f) (k := k + 1) (v := v) (w := w) m hk
  have e : up f (k + 1) (f k) k = f k := by unfold up; rw [if_neg (by omega)]
  rw [e] at a
  omega
/-- what holds in the midst of putting a man in -/
def In (f : Nat → Int32) (v : Int32) (i k : Nat) : Prop := (∀ p q, p < q → q ≤ i → ¬ p = k → ¬ q = k → (f p).toInt ≤ (f q).toInt) ∧ ∀ q, k < q → q ≤ i → v.toInt ≤ (f q).toInt
theorem in_0 {f : Nat → Int32} {i : Nat} (s : Sd f i) : In f (f i) i i := ⟨fun p q a b _ n2 => s p q a (by omega), fun q a b => absurd a (by omega)⟩
theorem in_s {f : Nat → Int32} {v : Int32} {i k : Nat} (hk : k + 1 ≤ i) (I : In f v i (k + 1)) (lt : v.toInt ≤ (f k).toInt) : In (up f (k + 1) (f k)) v i k := by
  constructor
  · intro p q a b n1 n2
    unfold up
    split <;> split
    · exact Int.le_refl _
    · rename_i w1 w2
      exact I.1 k q (by omega) b (by omega) w2
    · rename_i w1 w2
      exact I.1 p k (by omega) (by omega) w1 (by omega)
    · rename_i w1 w2
      exact I.1 p q a b w1 w2
  · intro q a b
    unfold up
    split
    · omega
    · rename_i w
      exact I.2 q (by omega) b
theorem in_e {f : Nat → Int32} {v : Int32} {i k : Nat} (hk : k ≤ i) (I : In f v i k) (z : k = 0 ∨ (f (k - 1)).toInt ≤ v.toInt) : Sd (up f k v) (i + 1) := by
  intro p q a b
  unfold up
  split <;> split
  · omega
  · rename_i w1 w2
    exact I.2 q (by omega) (by omega)
  · rename_i w1 w2
    rcases z with z | z
    · omega
    · by_cases w : p = k - 1
      · rw [w]; exact z
      · have := I.1 p (k - 1) (by omega) (by omega) w1 (by omega)
        omega
  · rename_i w1 w2
    exact I.1 p q a (by omega) w1 w2
theorem ads_q (hF : 700000 ≤ F) (Q : SlR ρ x0 rm re rb rk rs ro h0) (i1 : Rg 0 5 n) (hn : hN h0 ro = 6) (irs : ∀ j, 0 ≤ (hI h0 rs j).toInt ∧ (hI h0 rs j).toInt ≤ 4096) (s0 : 0 ≤ (hI h0 x0 49).toInt) (s1 : (hI h0 x0 49).toInt ≤ 4096) {o : Int32 × Hp} (e : sX15_addSet F h0 x0 n = some o) (nz : ¬ o.1 = 0) : Mo ρ x0 rm re rk rs h0 o.2 ∧ ∃ f, Sd f n.toNatClampNeg ∧ (∀ v, cn f v n.toNatClampNeg = cn (fun i => hI h0 ro i) v n.toNatClampNeg) ∧ Fnd rs rk (pkF f n n.toNatClampNeg) o.2 := by
  obtain ⟨⟨r0, qm, qe, qb, qk, qs, qo⟩, ⟨e46, e47, e48, e55, e56, e57⟩⟩ := Q
  have z0 : (0 : Int32).toInt = 0 := rfl
  have nn := clamp_i i1.1
  have n5 := i1.2
  have nos : ¬ rs = ro := fun w => absurd (w ▸ qs) (by rw [qo]; decide)
  have nok : ¬ rk = ro := fun w => absurd (w ▸ qk) (by rw [qo]; decide)
  have noe : ¬ re = ro := fun w => absurd (w ▸ qe) (by rw [qo]; decide)
  have nom : ¬ rm = ro := fun w => absurd (w ▸ qm) (by rw [qo]; decide)
  have nox : ¬ x0 = ro := fun w => absurd (w ▸ r0) (by rw [qo]; decide)
  have nks : ¬ rs = rk := fun w => absurd (w ▸ qs) (by rw [qk]; decide)
  have nem : ¬ re = rm := fun w => absurd (w ▸ qe) (by rw [qm]; decide)
  have neb : ¬ re = rb := fun w => absurd (w ▸ qe) (by rw [qb]; decide)
  have nek : ¬ re = rk := fun w => absurd (w ▸ qe) (by rw [qk]; decide)
  have nes : ¬ re = rs := fun w => absurd (w ▸ qe) (by rw [qs]; decide)
  have nmb : ¬ rm = rb := fun w => absurd (w ▸ qm) (by rw [qb]; decide)
  have nmk : ¬ rm = rk := fun w => absurd (w ▸ qm) (by rw [qk]; decide)
  have nms : ¬ rm = rs := fun w => absurd (w ▸ qm) (by rw [qs]; decide)
  have nsb : ¬ rs = rb := fun w => absurd (w ▸ qs) (by rw [qb]; decide)
  have nkb : ¬ rk = rb := fun w => absurd (w ▸ qk) (by rw [qb]; decide)
  have nxm : ¬ x0 = rm := fun w => absurd (w ▸ r0) (by rw [qm]; decide)
  have nxe : ¬ x0 = re := fun w => absurd (w ▸ r0) (by rw [qe]; decide)
  have nxb : ¬ x0 = rb := fun w => absurd (w ▸ r0) (by rw [qb]; decide)
  have nxk : ¬ x0 = rk := fun w => absurd (w ▸ r0) (by rw [qk]; decide)
  have nxs : ¬ x0 = rs := fun w => absurd (w ▸ r0) (by rw [qs]; decide)
  have nob : ¬ ro = rb := fun w => absurd (w ▸ qo) (by rw [qb]; decide)
  -- the last loop: the row is copied into the new set
  have b165 : ∀ (J : Int64) (f : Nat) {g : Hp} {x4 : Int32}, (∀ a i, hR g a i = hR h0 a i) → (∀ a, hN g a = hN h0 a) → (∀ a i, ¬ a = re → ¬ a = ro → ¬ (a = rm ∧ i = (hI h0 x0 49).toNatClampNeg) → ¬ (a = rb) → hI g a i = hI h0 a i) → hI g rm (hI h0 x0 49).toNatClampNeg = n → (∀ j, ¬ (5 * (hI h0 x0 49).toNatClampNeg ≤ j ∧ j < 5 * (hI h0 x0 49).toNatClampNeg + 5) → hI g re j = hI h0 re j) → (∀ i : Nat, (i : Int) < x4.toInt → hI g re (5 * (hI h0 x0 49).toNatClampNeg + i) = hI g ro i) → Sd (fun i => hI g ro i) n.toNatClampNeg → (∀ v, cn (fun i => hI g ro i) v n.toNatClampNeg = cn (fun i => hI h0 ro i) v n.toNatClampNeg) → (hI h0 x0 49).toInt < 4096 → 0 ≤ x4.toInt → x4.toInt ≤ n.toInt → sX15_addSet_165 F f g x0 n J x4 = some o → Mo ρ x0 rm re rk rs h0 o.2 ∧ ∃ f, Sd f n.toNatClampNeg ∧ (∀ v, cn f v n.toNatClampNeg = cn (fun i => hI h0 ro i) v n.toNatClampNeg) ∧ Fnd rs rk (pkF f n n.toNatClampNeg) o.2 := by
    intro J f
    induction f with
    | zero => intro g x4 _ _ _ _ _ _ _ _ _ _ _ e; exact absurd e (by simp [sX15_addSet_165])
    | succ f ih =>
      intro g x4 kR kN kI km ke kx S C ls a4 b4 e
      have k49 : hI g x0 49 = hI h0 x0 49 := kI x0 49 nxe nox (fun w => nxm w.1) nxb
      unfold sX15_addSet_165 at e
      simp only [nm] at e
      have ns := clamp_i s0
      replace e := br_s e; rcases e with ⟨c, e⟩ | ⟨c, e⟩
      · have c := le_i c
        replace e := cl_s e; obtain ⟨r4, p, e⟩ := e
        replace p : hR g x0 57 = some r4 := p
        rw [kR] at p
        have := r_eq e57 p; subst this
        replace e := cl_s e; obtain ⟨o5, e5, e⟩ := e
        obtain ⟨w1, w2⟩ := sat_e (packed_q hF (by show hN g r4 = 6; rw [kN]; exact hn) ⟨i1.1, by omega⟩) e5
        rw [w1, w2] at e
        have ek : pkN (wI (wJ g x0 59 ((hJ g x0 59) + J)) x0 49 ((hI (wJ g x0 59 ((hJ g x0 59) + J)) x0 49) + (1 : Int32))) r4 0 n n.toNatClampNeg = pkF (fun i => hI g r4 i) n n.toNatClampNeg := by
          rw [pkN_F]
          apply pkF_eq
          intro i hi
          show hI (wI _ x0 49 _) r4 (0 + i) = hI g r4 i
          rw [r_I, if_neg (fun w => nox w.1.symm), Nat.zero_add]
          rfl
        rw [ek] at e
        replace e := cl_s e; obtain ⟨o6, e6, e⟩ := e
        obtain ⟨v1, v2, m, em, A, alt⟩ := slot_q (h := (wI (wJ g x0 59 ((hJ g x0 59) + J)) x0 49 ((hI (wJ g x0 59 ((hJ g x0 59) + J)) x0 49) + (1 : Int32)))) (rs := rs) (rk := rk) (by show hR g x0 56 = _; rw [kR]; exact e56) (by show hR g x0 55 = _; rw [kR]; exact e55) e6
        rw [v1] at e
        replace e := cl_s e; obtain ⟨r7, p, e⟩ := e
        replace p : hR g x0 55 = some r7 := p
        rw [kR] at p
        have := r_eq e55 p; subst this
        replace e := cl_s e; obtain ⟨r8, p, e⟩ := e
        replace p : hR g x0 57 = some r8 := p
        rw [kR] at p
        have := r_eq e57 p; subst this
        replace e := cl_s e; obtain ⟨o9, e9, e⟩ := e
        obtain ⟨u1, u2⟩ := sat_e (packed_q hF (by show hN g r8 = 6; rw [kN]; exact hn) ⟨i1.1, by omega⟩) e9
        rw [u1, u2, ek] at e
        replace e := (gd_s e).2
        replace e := cl_s e; obtain ⟨r12, p, e⟩ := e
        replace p : hR g x0 56 = some r12 := p
        rw [kR] at p
        have := r_eq e56 p; subst this
        replace e := (gd_s e).2
        have e := Option.some.inj e
        subst e
        have inc : ((hI g x0 49) + (1 : Int32)).toInt = (hI h0 x0 49).toInt + 1 := by
          rw [k49]
          exact ta (by show _ ≤ (hI h0 x0 49).toInt + 1 ∧ (hI h0 x0 49).toInt + 1 ≤ _; omega)
        have vS : hI (wI (wI (wJ g x0 59 ((hJ g x0 59) + J)) x0 49 ((hI (wJ g x0 59 ((hJ g x0 59) + J)) x0 49) + (1 : Int32))) r7 o6.1.toNatClampNeg (pkF (fun i => hI g r8 i) n n.toNatClampNeg)) x0 49 = (hI g x0 49) + (1 : Int32) := by
          rw [r_I, if_neg (fun w => nxk w.1), r_I, if_pos ⟨rfl, rfl⟩]
          rfl
        rw [em] at *
        have fw := fnd_w (h := (wI (wJ g x0 59 ((hJ g x0 59) + J)) x0 49 ((hI (wJ g x0 59 ((hJ g x0 59) + J)) x0 49) + (1 : Int32)))) (g := wI (wI (wI (wJ g x0 59 ((hJ g x0 59) + J)) x0 49 ((hI (wJ g x0 59 ((hJ g x0 59) + J)) x0 49) + (1 : Int32))) r7 (sl (pkF (fun i => hI g r8 i) n n.toNatClampNeg) m) (pkF (fun i => hI g r8 i) n n.toNatClampNeg)) r12 (sl (pkF (fun i => hI g r8 i) n n.toNatClampNeg) m) ((hI g x0 49) + (1 : Int32))) (v := (hI g x0 49) + (1 : Int32)) A alt (by omega) nks (fun j => by
            rw [r_I, if_neg (fun w => nks w.1.symm), r_I]
            by_cases w : j = sl (pkF (fun i => hI g r8 i) n n.toNatClampNeg) m
            · rw [if_pos ⟨rfl, w⟩, if_pos w]
            · rw [if_neg (fun z => w z.2), if_neg w]) (fun j => by
            rw [r_I]
            by_cases w : j = sl (pkF (fun i => hI g r8 i) n n.toNatClampNeg) m
            · rw [if_pos ⟨rfl, w⟩, if_pos w]
            · rw [if_neg (fun z => w z.2), if_neg w, r_I, if_neg (fun z => nks z.1)])
        rw [vS]
        have old : ∀ k2, Fnd r12 r7 k2 h0 → Fnd r12 r7 k2 (wI (wJ g x0 59 ((hJ g x0 59) + J)) x0 49 ((hI (wJ g x0 59 ((hJ g x0 59) + J)) x0 49) + (1 : Int32))) := by
          rintro k2 ⟨M, B1, B2, B3⟩
          have q1 : ∀ j, hI (wI (wJ g x0 59 ((hJ g x0 59) + J)) x0 49 ((hI (wJ g x0 59 ((hJ g x0 59) + J)) x0 49) + (1 : Int32))) r12 j = hI h0 r12 j := fun j => by
            rw [r_I, if_neg (fun w => nxs w.1.symm)]
            exact kI r12 j (fun w => nes w.symm) nos (fun w => nms w.1.symm) nsb
          have q2 : ∀ j, hI (wI (wJ g x0 59 ((hJ g x0 59) + J)) x0 49 ((hI (wJ g x0 59 ((hJ g x0 59) + J)) x0 49) + (1 : Int32))) r7 j = hI h0 r7 j := fun j => by
            rw [r_I, if_neg (fun w => nxk w.1.symm)]
            exact kI r7 j (fun w => nek w.symm) nok (fun w => nmk w.1.symm) nkb
          exact ⟨M, fun m' hm => by rw [q1]; exact B1 m' hm, by rw [q1]; exact B2, by rw [q2]; exact B3⟩
        -- reads behind all writes
        have rd : ∀ a i, ¬ a = r7 → ¬ a = r12 → ¬ (a = x0 ∧ i = 49) → hI (wI (wI (wI (wJ g x0 59 ((hJ g x0 59) + J)) x0 49 ((hI (wJ g x0 59 ((hJ g x0 59) + J)) x0 49) + (1 : Int32))) r7 (sl (pkF (fun i => hI g r8 i) n n.toNatClampNeg) m) (pkF (fun i => hI g r8 i) n n.toNatClampNeg)) r12 (sl (pkF (fun i => hI g r8 i) n n.toNatClampNeg) m) ((hI g x0 49) + (1 : Int32))) a i = hI g a i := fun a i m1 m2 m3 => by
          rw [r_I, if_neg (fun w => m2 w.1), r_I, if_neg (fun w => m1 w.1), r_I, if_neg m3]
          rfl
        have rx : hI (wI (wI (wI (wJ g x0 59 ((hJ g x0 59) + J)) x0 49 ((hI (wJ g x0 59 ((hJ g x0 59) + J)) x0 49) + (1 : Int32))) r7 (sl (pkF (fun i => hI g r8 i) n n.toNatClampNeg) m) (pkF (fun i => hI g r8 i) n n.toNatClampNeg)) r12 (sl (pkF (fun i => hI g r8 i) n n.toNatClampNeg) m) ((hI g x0 49) + (1 : Int32))) x0 49 = (hI g x0 49) + (1 : Int32) := by
          rw [r_I, if_neg (fun w => nxs w.1), r_I, if_neg (fun w => nxk w.1), r_I, if_pos ⟨rfl, rfl⟩]
          rfl
        refine ⟨⟨fun a i => kR a i, fun a => kN a, fun a i n1 n2 n3 => ?_, fun k w => fw.2 k (old k w), by rw [rx, inc]; omega, fun k hk => ⟨?_, fun i hi => ?_⟩, fun k l1 l2 => ?_⟩, _, S, C, fw.1⟩
        · rw [rd a i (fun w => n2 (by rw [w, qk]; decide)) (fun w => n2 (by rw [w, qs]; decide)) n3]
          exact kI a i (fun w => n1 (by rw [w, qe]; decide)) (fun w => n2 (by rw [w, qo]; decide)) (fun w => n1 (by rw [w.1, qm]; decide)) (fun w => n1 (by rw [w, qb]; decide))
        · rw [rd rm k nmk nms (fun w => nxm w.1.symm)]
          exact kI rm k (fun w => nem w.symm) nom (fun w => by omega) nmb
        · rw [rd re _ nek nes (fun w => nxe w.1.symm)]
          exact ke _ (by omega)
        · rw [rx, inc] at l2
          have kk : k = (hI h0 x0 49).toNatClampNeg := by omega
          subst kk
          rw [rd rm _ nmk nms (fun w => nxm w.1.symm), km]
          have rowe : ∀ i, i < n.toNatClampNeg → hI (wI (wI (wI (wJ g x0 59 ((hJ g x0 59) + J)) x0 49 ((hI (wJ g x0 59 ((hJ g x0 59) + J)) x0 49) + (1 : Int32))) r7 (sl (pkF (fun i => hI g r8 i) n n.toNatClampNeg) m) (pkF (fun i => hI g r8 i) n n.toNatClampNeg)) r12 (sl (pkF (fun i => hI g r8 i) n n.toNatClampNeg) m) ((hI g x0 49) + (1 : Int32))) re (5 * (hI h0 x0 49).toNatClampNeg + i) = hI g r8 i := fun i hi => by
            rw [rd re _ nek nes (fun w => nxe w.1.symm)]
            exact kx i (by omega)
          refine ⟨fun i j lij lj => ?_, ?_⟩
          · show (hI _ re _).toInt ≤ (hI _ re _).toInt
            rw [rowe i (by omega), rowe j lj]
            exact S i j lij lj
          · rw [pkF_eq (g := fun i => hI g r8 i) _ rowe]
            exact fw.1
      · have c := nle_i c
        replace e := cl_s e; obtain ⟨r15, p, e⟩ := e
        rw [kR] at p
        have := r_eq e47 p; subst this
        replace e := cl_s e; obtain ⟨r16, p, e⟩ := e
        rw [kR] at p
        have := r_eq e57 p; subst this
        replace e := (gd_s e).2
        replace e := (gd_s e).2
        have i4 : Rg 0 4 x4 := ⟨a4, by omega⟩
        have ix := (ix5 (x1 := hI h0 x0 49) (x4 := x4) ⟨s0, by omega⟩ i4).2
        rw [k49, ix] at e
        have ny := nc_s i4 (by decide)
        have c4 := clamp_i a4
        refine ih (g := wI g r15 (5 * (hI h0 x0 49).toNatClampNeg + x4.toNatClampNeg) (hI g r16 x4.toNatClampNeg)) kR kN (fun a i n1 n2 n3 n4 => ?_) ?_ (fun j nj => ?_) (fun i hi => ?_) ?_ ?_ ls (by omega) (by omega) e
        · rw [r_I, if_neg (fun w => n1 w.1)]; exact kI a i n1 n2 n3 n4
        · rw [r_I, if_neg (fun w => nem w.1.symm)]; exact km
        · rw [r_I, if_neg (fun w => by omega)]; exact ke j nj
        · have eR : hI (wI g r15 (5 * (hI h0 x0 49).toNatClampNeg + x4.toNatClampNeg) (hI g r16 x4.toNatClampNeg)) r16 i = hI g r16 i := by rw [r_I, if_neg (fun w => noe w.1.symm)]
          rw [eR, r_I]
          by_cases w : i = x4.toNatClampNeg
          · rw [if_pos ⟨rfl, by omega⟩, w]
          · rw [if_neg (fun z => w (by omega))]
            exact kx i (by omega)
        · intro i j lij lj
          show (hI _ r16 i).toInt ≤ (hI _ r16 j).toInt
          rw [r_I, if_neg (fun w => noe w.1.symm), r_I, if_neg (fun w => noe w.1.symm)]
          exact S i j lij lj
        · intro v
          rw [← C v]
          exact cn_eq _ (fun i hi => by show hI _ r16 i = _; rw [r_I, if_neg (fun w => noe w.1.symm)])
  -- the row stands in its order
  have b93 : ∀ (f : Nat) {g : Hp} {J : Int64} {x4 : Int32}, Jo ro h0 g → Sd (fun i => hI g ro i) n.toNatClampNeg → (∀ v, cn (fun i => hI g ro i) v n.toNatClampNeg = cn (fun i => hI h0 ro i) v n.toNatClampNeg) → sX15_addSet_93 F f g x0 n J x4 = some o → Mo ρ x0 rm re rk rs h0 o.2 ∧ ∃ f, Sd f n.toNatClampNeg ∧ (∀ v, cn f v n.toNatClampNeg = cn (fun i => hI h0 ro i) v n.toNatClampNeg) ∧ Fnd rs rk (pkF f n n.toNatClampNeg) o.2 := by
    intro f
    induction f with
    | zero => intro g J x4 _ _ _ e; exact absurd e (by simp [sX15_addSet_93])
    | succ f ih =>
      intro g J x4 jo S C e
      have k49 : hI g x0 49 = hI h0 x0 49 := jo.2.2.2 x0 49 nox
      unfold sX15_addSet_93 sX15_addSet_136 at e
      simp only [nm] at e
      replace e := br_s e; rcases e with ⟨_, e⟩ | ⟨_, e⟩
      · replace e := br_s e; rcases e with ⟨_, e⟩ | ⟨_, e⟩
        · rw [← Option.some.inj e] at nz; exact absurd rfl nz
        replace e := br_s e; rcases e with ⟨_, e⟩ | ⟨c, e⟩
        · rw [← Option.some.inj e] at nz; exact absurd rfl nz
        replace e := cl_s e; obtain ⟨r4, p, e⟩ := e
        rw [jo.1] at p
        have := r_eq e46 p; subst this
        replace e := (gd_s e).2
        replace e := cl_s e; obtain ⟨r7, p, e⟩ := e
        replace p : hR g x0 48 = some r7 := p
        rw [jo.1] at p
        have := r_eq e48 p; subst this
        replace e := (gd_s e).2
        have k49' : hI (wI g r4 (hI g x0 49).toNatClampNeg n) x0 49 = hI h0 x0 49 := by rw [r_I, if_neg (fun w => nxm w.1)]; exact k49
        rw [k49', k49] at e
        have lt : (hI h0 x0 49).toInt < 4096 := by
          have : ¬ (hI h0 x0 49).toInt = 4096 := fun w => c (by rw [k49]; exact Int32.toInt_inj.mp (by rw [w]; rfl))
          omega
        refine b165 J F (g := wI (wI g r4 (hI h0 x0 49).toNatClampNeg n) r7 (hI h0 x0 49).toNatClampNeg (hJ (wI g r4 (hI h0 x0 49).toNatClampNeg n) x0 59).toInt32) (fun a i => jo.1 a i) (fun a => jo.2.1 a) (fun a i n1 n2 n3 n4 => ?_) ?_ (fun j _ => ?_) (fun i hi => absurd hi (by rw [z0]; omega)) ?_ ?_ lt (by decide) (by rw [z0]; exact i1.1) e
        · rw [r_I, if_neg (fun w => n4 w.1), r_I, if_neg (fun w => n3 w)]; exact jo.2.2.2 a i n2
        · rw [r_I, if_neg (fun w => nmb w.1), r_I, if_pos ⟨rfl, rfl⟩]
        · rw [r_I, if_neg (fun w => neb w.1), r_I, if_neg (fun w => nem w.1)]; exact jo.2.2.2 re j noe
        · intro i j lij lj
          show (hI _ ro i).toInt ≤ (hI _ ro j).toInt
          rw [r_I, if_neg (fun w => nob w.1), r_I, if_neg (fun w => nom w.1.symm), r_I, if_neg (fun w => nob w.1), r_I, if_neg (fun w => nom w.1.symm)]
          exact S i j lij lj
        · intro v
          rw [← C v]
          exact cn_eq _ (fun i hi => by show hI _ ro i = _; rw [r_I, if_neg (fun w => nob w.1), r_I, if_neg (fun w => nom w.1.symm)])
      · exact ih jo S C e
  -- the row is put in order
  have b2 : ∀ (f : Nat) {g : Hp} {x2 : Int32}, Jo ro h0 g → 1 ≤ x2.toInt → x2.toInt ≤ 5 → Sd (fun i => hI g ro i) x2.toNatClampNeg → (∀ v, cn (fun i => hI g ro i) v n.toNatClampNeg = cn (fun i => hI h0 ro i) v n.toNatClampNeg) → sX15_addSet_2 F f g x0 n x2 = some o → Mo ρ x0 rm re rk rs h0 o.2 ∧ ∃ f, Sd f n.toNatClampNeg ∧ (∀ v, cn f v n.toNatClampNeg = cn (fun i => hI h0 ro i) v n.toNatClampNeg) ∧ Fnd rs rk (pkF f n n.toNatClampNeg) o.2 := by
    intro f
    induction f with
    | zero => intro g x2 _ _ _ _ _ e; exact absurd e (by simp [sX15_addSet_2])
    | succ f ih =>
      intro g x2 jo a2 b2 S C e
      unfold sX15_addSet_2 at e
      simp only [nm] at e
      have c2 := clamp_i (v := x2) (by omega)
      replace e := br_s e; rcases e with ⟨c, e⟩ | ⟨c, e⟩
      · have c := le_i c
        have S2 : Sd (fun i => hI g ro i) n.toNatClampNeg := fun i j l1 l2 => S i j l1 (by omega)
        replace e := cl_s e; obtain ⟨r2, p, e⟩ := e
        rw [jo.1] at p
        have := r_eq e57 p; subst this
        replace e := cl_s e; obtain ⟨o3, e3, e⟩ := e
        have ks : ∀ j, hI g rs j = hI h0 rs j := fun j => jo.2.2.2 rs j nos
        have kk : ∀ j, hI g rk j = hI h0 rk j := fun j => jo.2.2.2 rk j nok
        obtain ⟨w1, _, w2⟩ := find_q (rs := rs) (rk := rk) hF (by rw [jo.2.1]; exact hn) ⟨i1.1, by omega⟩ (fun j => by rw [ks]; exact irs j) (by rw [jo.1]; exact e56) (by rw [jo.1]; exact e55) e3
        rw [w1] at e
        replace e := br_s e; rcases e with ⟨_, e⟩ | ⟨c3, e⟩
        · exact b93 F jo S2 C e
        · have e := Option.some.inj e; subst e
          obtain ⟨_, N⟩ := w2 c3
          refine ⟨⟨jo.1, jo.2.1, fun a i _ n2 _ => jo.2.2.2 a i (fun w => n2 (by rw [w, qo]; decide)), ?_, by rw [jo.2.2.2 x0 49 nox]; exact Int.le_refl _, fun k _ => ⟨jo.2.2.2 rm k nom, fun i _ => jo.2.2.2 re _ noe⟩, fun k l1 l2 => absurd l2 (by rw [jo.2.2.2 x0 49 nox]; omega)⟩, _, S2, C, ?_⟩
          · rintro key ⟨M, B1, B2, B3⟩
            exact ⟨M, fun m' hm => by rw [ks]; exact B1 m' hm, by rw [ks]; exact B2, by rw [kk]; exact B3⟩
          · rw [pkN_F] at N
            have : pkF (fun i => hI g r2 (0 + i)) n n.toNatClampNeg = pkF (fun i => hI g r2 i) n n.toNatClampNeg := pkF_eq _ (fun i _ => by rw [Nat.zero_add])
            rw [this] at N
            exact N
      · have c := nle_i c
        replace e := cl_s e; obtain ⟨r5, p, e⟩ := e
        rw [jo.1] at p
        have := r_eq e57 p; subst this
        replace e := (gd_s e).2
        generalize hv : hI g r5 x2.toNatClampNeg = v at e
        have inn : ∀ (ff : Nat) {g : Hp} {x4 : Int32}, Jo r5 h0 g → 0 ≤ x4.toInt → x4.toInt ≤ x2.toInt → In (fun i => hI g r5 i) v x2.toNatClampNeg x4.toNatClampNeg → (∀ w, cn (up (fun i => hI g r5 i) x4.toNatClampNeg v) w n.toNatClampNeg = cn (fun i => hI h0 r5 i) w n.toNatClampNeg) → sX15_addSet_17 F (sX15_addSet_2 F f) ff g x0 n x2 v x4 = some o → Mo ρ x0 rm re rk rs h0 o.2 ∧ ∃ f, Sd f n.toNatClampNeg ∧ (∀ v, cn f v n.toNatClampNeg = cn (fun i => hI h0 r5 i) v n.toNatClampNeg) ∧ Fnd rs rk (pkF f n n.toNatClampNeg) o.2 := by
          intro ff
          induction ff with
          | zero => intro g x4 _ _ _ _ _ e; exact absurd e (by simp [sX15_addSet_17])
          | succ ff ih2 =>
            intro g x4 jo a4 b4 I C e
            have c4 := clamp_i a4
            have put : (x4.toNatClampNeg = 0 ∨ (hI g r5 (x4.toNatClampNeg - 1)).toInt ≤ v.toInt) → sX15_addSet_57 F (sX15_addSet_2 F f) g x0 n x2 v x4 = some o → Mo ρ x0 rm re rk rs h0 o.2 ∧ ∃ f, Sd f n.toNatClampNeg ∧ (∀ v, cn f v n.toNatClampNeg = cn (fun i => hI h0 r5 i) v n.toNatClampNeg) ∧ Fnd rs rk (pkF f n n.toNatClampNeg) o.2 := by
              intro z e
              unfold sX15_addSet_57 at e
              simp only [nm] at e
              replace e := cl_s e; obtain ⟨r1, p, e⟩ := e
              rw [jo.1] at p
              have := r_eq e57 p; subst this
              replace e := (gd_s e).2
              have ny := nc_s (x := x2) (b := 5) ⟨by omega, b2⟩ (by decide)
              refine ih (jo_w jo) (by omega) (by omega) ?_ (fun w => ?_) e
              · rw [row_up, ny.1]
                exact in_e (by omega) I z
              · rw [row_up]; exact C w
            unfold sX15_addSet_17 at e
            simp only [nm] at e
            replace e := br_s e; rcases e with ⟨cz, e⟩ | ⟨cz, e⟩
            · have cz := le_i cz
              exact put (Or.inl (by omega)) e
            have cz := nle_i cz
            have i4 : Rg 1 5 x4 := ⟨by omega, by omega⟩
            have d1 : (x4 - (1 : Int32)).toInt = x4.toInt - 1 := rg_decs i4 (by decide)
            have d1n : (x4 - (1 : Int32)).toNatClampNeg = x4.toNatClampNeg - 1 := by
              have := clamp_i (v := x4 - (1 : Int32)) (by omega)
              omega
            replace e := cl_s e; obtain ⟨r2, p, e⟩ := e
            rw [jo.1] at p
            have := r_eq e57 p; subst this
            replace e := (gd_s e).2
            replace e := br_s e; rcases e with ⟨cl, e⟩ | ⟨cl, e⟩
            · exact put (Or.inr (by rw [d1n] at cl; exact le_i cl)) e
            rw [d1n] at cl
            have cl := nle_i cl
            replace e := cl_s e; obtain ⟨r2', p, e⟩ := e
            rw [jo.1] at p
            have := r_eq e57 p; subst this
            replace e := cl_s e; obtain ⟨r6, p, e⟩ := e
            rw [jo.1] at p
            have := r_eq e57 p; subst this
            replace e := (gd_s e).2
            replace e := (gd_s e).2
            rw [d1n] at e
            have d2 : (x4 + (-1 : Int32)).toInt = x4.toInt - 1 := rg_dec i4 (by decide)
            generalize x4 + (-1 : Int32) = y at e d2
            have cy := clamp_i (v := y) (by omega)
            have ek : x4.toNatClampNeg = y.toNatClampNeg + 1 := by omega
            have ek2 : x4.toNatClampNeg - 1 = y.toNatClampNeg := by omega
            rw [ek2] at e cl
            rw [ek] at e I C
            refine ih2 (jo_w jo) (by omega) (by omega) ?_ (fun w => ?_) e
            · rw [row_up]
              exact in_s (by omega) I (Int.le_of_lt cl)
            · rw [row_up]
              rw [cn_swap (f := fun i => hI g r6 i) (by omega)]
              exact C w
        refine inn F jo (by omega) (Int.le_refl _) (by rw [← hv]; exact in_0 S) (fun w => ?_) e
        rw [← C w]
        apply cn_eq
        intro i hi
        unfold up
        split
        · rename_i q; rw [q, hv]
        · rfl
  unfold sX15_addSet at e
  exact b2 F ⟨fun _ _ => rfl, fun _ => rfl, fun _ _ => rfl, fun _ _ _ => rfl⟩ (by decide) (by decide) (fun i j l1 l2 => absurd l2 (by show ¬ j < 1; omega)) (fun _ => rfl) e
end
end
section
/-! addAll by its equation: all that comes of a set is there -/
/-- a row of so many men is there -/
def FdS (rs rk : Nat) (g : Hp) (m : Nat) (b : Int32 → Nat) : Prop := ∃ f, Sd f m ∧ (∀ v, cn f v m = b v) ∧ Fnd rs rk (pkF f (nI m) m) g
/-- the man i of set k left out, and become -/
def CL (re rm R Bc Bm rs rk : Nat) (g : Hp) (k i : Nat) (n : Int) : Prop :=
  (¬ (hI g re (5 * k + i) - (1 : Int32)) >>> ((1 : Int32) &&& 31) = hI g R 10 → FdS rs rk g ((hI g rm k).toNatClampNeg - 1) (fun v => cn (sk (fun p => hI g re (5 * k + p)) i) v ((hI g rm k).toNatClampNeg - 1))) ∧
  ∀ j : Int32, 0 ≤ j.toInt → j.toInt < n → j.toInt < (hI g Bm ((hI g re (5 * k + i) - (1 : Int32)) >>> ((1 : Int32) &&& 31)).toNatClampNeg).toInt → FdS rs rk g (hI g rm k).toNatClampNeg (fun v => cn (up (fun p => hI g re (5 * k + p)) i (((1 : Int32) + ((2 : Int32) * (hI g Bc (((6 : Int32) * ((hI g re (5 * k + i) - (1 : Int32)) >>> ((1 : Int32) &&& 31))) + j).toNatClampNeg))) + ((hI g re (5 * k + i) - (1 : Int32)) &&& (1 : Int32)))) v (hI g rm k).toNatClampNeg)
section
variable {ρ : Nat → Nat} {c : Cm} {x0 rm re rb rk rs ro R Bc Bm F : Nat} {h0 h g : Hp}
theorem cl_mono (qR : ρ R = 15) (qBc : ρ Bc = 80) (qBm : ρ Bm = 81) (r0 : ρ x0 = 16) (m5 : ∀ k, (hI h rm k).toNatClampNeg ≤ 5) (A : Mo ρ x0 rm re rk rs h g) {k i : Nat} {n : Int} (hk : (k : Int) < (hI h x0 49).toInt) (hi : i < (hI h rm k).toNatClampNeg) (P : CL re rm R Bc Bm rs rk h k i n) : CL re rm R Bc Bm rs rk g k i n := by
  obtain ⟨a1, a2, a3, a4, a5, a6, a7⟩ := A
  obtain ⟨b1, b2⟩ := a6 k hk
  have m := m5 k
  have fs : ∀ {n : Nat} {f f' : Nat → Int32}, FdS rs rk h n (fun v => cn f v n) → (∀ p, p < n → f' p = f p) → FdS rs rk g n (fun v => cn f' v n) := by
    rintro n f f' ⟨q, q1, q2, q3⟩ w
    exact ⟨q, q1, fun v => by rw [q2 v]; exact (cn_eq n w).symm, a4 _ q3⟩
  have kR : hI g R 10 = hI h R 10 := a3 R 10 (by rw [qR]; decide) (by rw [qR]; decide) (fun w => absurd (w.1 ▸ qR) (by rw [r0]; decide))
  have kBc : ∀ j, hI g Bc j = hI h Bc j := fun j => a3 Bc j (by rw [qBc]; decide) (by rw [qBc]; decide) (fun w => absurd (w.1 ▸ qBc) (by rw [r0]; decide))
  have kBm : ∀ j, hI g Bm j = hI h Bm j := fun j => a3 Bm j (by rw [qBm]; decide) (by rw [qBm]; decide) (fun w => absurd (w.1 ▸ qBm) (by rw [r0]; decide))
  unfold CL
  rw [b1, b2 i (by omega), kR, kBm]
  refine ⟨fun nr => fs (P.1 nr) (fun p hp => ?_), fun j j0 jn jl => ?_⟩
  · unfold sk
    split
    · exact b2 p (by omega)
    · exact b2 (p + 1) (by omega)
  · rw [kBc]
    refine fs (P.2 j j0 jn jl) (fun p hp => ?_)
    unfold up
    split
    · rfl
    · exact b2 p (by omega)
theorem mo_w {j : Nat} {v : Int32} (qs : ρ rs = 107) (qk : ρ rk = 106) (qo : ρ ro = 108) (qm : ρ rm = 99) (qe : ρ re = 100) (r0 : ρ x0 = 16) : Mo ρ x0 rm re rk rs g (wI g ro j v) := by
  have rd : ∀ a i, ¬ a = ro → hI (wI g ro j v) a i = hI g a i := fun a i na => by rw [r_I, if_neg (fun w => na w.1)]
  have nx : ¬ x0 = ro := fun w => absurd (w ▸ r0) (by rw [qo]; decide)
  have ns : ¬ rs = ro := fun w => absurd (w ▸ qs) (by rw [qo]; decide)
  have nk : ¬ rk = ro := fun w => absurd (w ▸ qk) (by rw [qo]; decide)
  have nm' : ¬ rm = ro := fun w => absurd (w ▸ qm) (by rw [qo]; decide)
  have ne : ¬ re = ro := fun w => absurd (w ▸ qe) (by rw [qo]; decide)
  refine ⟨fun _ _ => rfl, fun _ => rfl, fun a i _ n2 _ => rd a i (fun w => n2 (by rw [w, qo]; decide)), ?_, by rw [rd x0 49 nx]; exact Int.le_refl _, fun k _ => ⟨rd rm k nm', fun i _ => rd re _ ne⟩, fun k l1 l2 => absurd l2 (by rw [rd x0 49 nx]; omega)⟩
  rintro key ⟨M, B1, B2, B3⟩
  exact ⟨M, fun m' hm => by rw [rd rs _ ns]; exact B1 m' hm, by rw [rd rs _ ns]; exact B2, by rw [rd rk _ nk]; exact B3⟩
/-- addSet, with all that is told of it -/
theorem ads_t (hF : 700000 ≤ F) (hA : pmA c seL) (Q : SlR ρ x0 rm re rb rk rs ro h) (T : TH ρ c h) (P : SE x0 h) {n : Int32} (i1 : Rg 0 5 n) (W : RW x0 n.toInt h) {o : Int32 × Hp} (e : sX15_addSet F h x0 n = some o) : (TH ρ c o.2 ∧ SE x0 o.2) ∧ (¬ o.1 = 0 → Mo ρ x0 rm re rk rs h o.2 ∧ FdS rs rk o.2 n.toNatClampNeg (fun v => cn (fun i => hI h ro i) v n.toNatClampNeg)) := by
  obtain ⟨t1, _, t3, _⟩ := sat_e (zX15_addSet hF hA T Q.1.1 i1 P W) e
  refine ⟨⟨t1, t3⟩, fun nz => ?_⟩
  have s := thI T Q.1.1 (k := 16) (i := 49) (lo := 0) (hi := 4096) rfl
  obtain ⟨m1, f, f1, f2, f3⟩ := ads_q hF Q i1 (thN T Q.1.2.2.2.2.2.2 (k := 108) (n := 6) rfl (by decide)) (fun j => by have := thI T Q.1.2.2.2.2.2.1 (k := 107) (i := j) (lo := 0) (hi := 4096) rfl; exact ⟨this.1, this.2⟩) s.1 s.2 e nz
  refine ⟨m1, f, f1, f2, ?_⟩
  have : n = nI n.toNatClampNeg := by
    have a := i1.1
    have b := i1.2
    have := clamp_i a
    apply Int32.toInt_inj.mp
    rw [z_toInt (by omega)]
    omega
  rw [← this]
  exact f3
theorem slr_mo (Q : SlR ρ x0 rm re rb rk rs ro h) (A : Mo ρ x0 rm re rk rs h g) : SlR ρ x0 rm re rb rk rs ro g := by
  obtain ⟨q, e1, e2, e3, e4, e5, e6⟩ := Q
  exact ⟨q, by rw [A.1]; exact e1, by rw [A.1]; exact e2, by rw [A.1]; exact e3, by rw [A.1]; exact e4, by rw [A.1]; exact e5, by rw [A.1]; exact e6⟩
theorem cwo_q (hF : 700000 ≤ F) (hA : pmA c seL) (Q : SlR ρ x0 rm re rb rk rs ro h) (T : TH ρ c h) (P : SE x0 h) {x1 x2 : Int32} (i1 : Rg 0 4095 x1) (ln : x1.toInt < (hI h x0 49).toInt) (a2 : 0 ≤ x2.toInt) (l2 : x2.toInt < (hI h rm x1.toNatClampNeg).toInt) {o : Int32 × Hp} (e : sX15_copyWithout F h x0 x1 x2 = some o) : (TH ρ c o.2 ∧ SE x0 o.2) ∧ (¬ o.1 = 0 → Mo ρ x0 rm re rk rs h o.2 ∧ FdS rs rk o.2 ((hI h rm x1.toNatClampNeg).toNatClampNeg - 1) (fun v => cn (sk (fun p => hI h re (5 * x1.toNatClampNeg + p)) x2.toNatClampNeg) v ((hI h rm x1.toNatClampNeg).toNatClampNeg - 1))) := by
  have Q' := Q
  obtain ⟨⟨r0, qm, qe, qb, qk, qs, qo⟩, ⟨e46, e47, e48, e55, e56, e57⟩⟩ := Q'
  have nom : ¬ rm = ro := fun w => absurd (w ▸ qm) (by rw [qo]; decide)
  have noe : ¬ re = ro := fun w => absurd (w ▸ qe) (by rw [qo]; decide)
  have nox : ¬ x0 = ro := fun w => absurd (w ▸ r0) (by rw [qo]; decide)
  have c2 := clamp_i a2
  have im := thI T qm (k := 99) (i := x1.toNatClampNeg) (lo := 0) (hi := 5) rfl
  have cm := clamp_i im.1
  have bm := im.2
  have c1 := clamp_i i1.1
  have lp : ∀ (f : Nat) {g : Hp} {x3 x4 : Int32}, TH ρ c g → SE x0 g → Mo ρ x0 rm re rk rs h g → (∀ k, hI g rm k = hI h rm k) → (∀ k, hI g re k = hI h re k) → hI g x0 49 = hI h x0 49 → RW x0 x3.toInt g → 0 ≤ x4.toInt → x4.toInt ≤ (hI h rm x1.toNatClampNeg).toInt → (x3.toInt = if x4.toInt ≤ x2.toInt then x4.toInt else x4.toInt - 1) → (∀ p : Nat, (p : Int) < x3.toInt → hI g ro p = sk (fun p => hI h re (5 * x1.toNatClampNeg + p)) x2.toNatClampNeg p) → sX15_copyWithout_5 F f g x0 x1 x2 x3 x4 = some o → (TH ρ c o.2 ∧ SE x0 o.2) ∧ (¬ o.1 = 0 → Mo ρ x0 rm re rk rs h o.2 ∧ FdS rs rk o.2 ((hI h rm x1.toNatClampNeg).toNatClampNeg - 1) (fun v => cn (sk (fun p => hI h re (5 * x1.toNatClampNeg + p)) x2.toNatClampNeg) v ((hI h rm x1.toNatClampNeg).toNatClampNeg - 1))) := by
    intro f
    induction f with
    | zero => intro g x3 x4 _ _ _ _ _ _ _ _ _ _ _ e; exact absurd e (by simp [sX15_copyWithout_5])
    | succ f ih =>
      intro g x3 x4 Tg Pg M km ke k49 W a4 b4 r3 rows e
      unfold sX15_copyWithout_5 sX15_copyWithout_42 at e
      simp only [nm] at e
      have c4 := clamp_i a4
      replace e := cl_s e; obtain ⟨r1, p, e⟩ := e
      rw [M.1] at p
      have := r_eq e46 p; subst this
      replace e := (gd_s e).2
      rw [km] at e
      replace e := br_s e; rcases e with ⟨cc, e⟩ | ⟨cc, e⟩
      · have cc := le_i cc
        have x3v : x3.toInt = (hI h r1 x1.toNatClampNeg).toInt - 1 := by rw [r3, if_neg (by omega)]; omega
        have c3 := clamp_i (v := x3) (by omega)
        replace e := cl_s e; obtain ⟨o4, e4, e⟩ := e
        have e := Option.some.inj (gd_s e).2
        subst e
        obtain ⟨t, u⟩ := ads_t hF hA (slr_mo Q M) Tg Pg ⟨by omega, by omega⟩ W e4
        refine ⟨t, fun nz => ?_⟩
        obtain ⟨u1, u2⟩ := u nz
        have en : x3.toNatClampNeg = (hI h r1 x1.toNatClampNeg).toNatClampNeg - 1 := by omega
        have m5 : ∀ k, (hI g r1 k).toNatClampNeg ≤ 5 := fun k => by
          have i := thI Tg qm (k := 99) (i := k) (lo := 0) (hi := 5) rfl
          have := clamp_i i.1
          have := i.2
          omega
        refine ⟨mo_t m5 M u1, ?_⟩
        rw [en] at u2
        obtain ⟨f, f1, f2, f3⟩ := u2
        exact ⟨f, f1, fun v => by rw [f2 v]; exact cn_eq _ (fun p hp => rows p (by omega)), f3⟩
      have cc := nle_i cc
      have i4 : Rg 0 4 x4 := ⟨a4, by omega⟩
      have ny := nc_s i4 (by decide)
      replace e := br_s e; rcases e with ⟨q, e⟩ | ⟨q, e⟩
      · rw [q] at r3
        refine ih Tg Pg M km ke k49 W (by omega) (by omega) ?_ rows e
        rw [ny.2, if_neg (by rw [q]; omega), r3, if_pos (Int.le_refl _), q]
        omega
      · have q' : ¬ x4.toInt = x2.toInt := fun w => q (Int32.toInt_inj.mp w)
        replace e := cl_s e; obtain ⟨r7, p, e⟩ := e
        rw [M.1] at p
        have := r_eq e57 p; subst this
        replace e := cl_s e; obtain ⟨r8, p, e⟩ := e
        rw [M.1] at p
        have := r_eq e47 p; subst this
        replace e := (gd_s e).2
        replace e := (gd_s e).2
        have ix := (ix5 (x1 := x1) (x4 := x4) i1 i4).2
        rw [ix, ke] at e
        have x3b : 0 ≤ x3.toInt ∧ x3.toInt ≤ 4 := by rw [r3]; split <;> omega
        have c3 := clamp_i x3b.1
        have n3 := nc_s (x := x3) (b := 4) ⟨x3b.1, x3b.2⟩ (by decide)
        have pos : 1 ≤ (hI h r8 (5 * x1.toNatClampNeg + x4.toNatClampNeg)).toInt := P.2.2.2.2.1 r1 r8 e46 e47 x1.toNatClampNeg (by omega) x4.toNatClampNeg (by omega)
        have iv := thI T qe (k := 100) (i := 5 * x1.toNatClampNeg + x4.toNatClampNeg) (lo := 0) (hi := 24) rfl
        have T2 : TH ρ c (wI g r7 x3.toNatClampNeg (hI h r8 (5 * x1.toNatClampNeg + x4.toNatClampNeg))) := th_wI Tg qo (k := 108) (lo := 0) (hi := 24) rfl iv (by decide) (by decide) (pm_a hA rfl)
        obtain ⟨P2, _, W2⟩ := row_w (n := x3.toInt) Tg r0 (by rw [M.1]; exact e57) qo rfl Pg rfl (Or.inl pos) W
        have m5 : ∀ k, (hI g r1 k).toNatClampNeg ≤ 5 := fun k => by
          have i := thI Tg qm (k := 99) (i := k) (lo := 0) (hi := 5) rfl
          have := clamp_i i.1
          have := i.2
          omega
        refine ih T2 P2 (mo_t m5 M (mo_w qs qk qo qm qe r0)) (fun k => by rw [r_I, if_neg (fun w => nom w.1)]; exact km k) (fun k => by rw [r_I, if_neg (fun w => noe w.1)]; exact ke k) (by rw [r_I, if_neg (fun w => nox w.1)]; exact k49) ?_ (by omega) (by omega) ?_ ?_ e
        · intro ro' er i hi
          replace er : hR g x0 57 = some ro' := er
          rw [M.1] at er
          have := r_eq e57 er; subst this
          rw [r_I]
          by_cases w : i = x3.toNatClampNeg
          · rw [if_pos ⟨rfl, w⟩]; exact pos
          · rw [if_neg (fun z => w z.2)]
            exact W ro' (by rw [M.1]; exact e57) i (by omega)
        · rw [n3.2, ny.2, r3]
          split <;> split <;> omega
        · intro p hp
          rw [r_I]
          by_cases w : p = x3.toNatClampNeg
          · rw [if_pos ⟨rfl, w⟩, w]
            unfold sk
            by_cases z : x4.toInt ≤ x2.toInt
            · rw [if_pos z] at r3
              rw [if_pos (by omega)]
              congr 1
              omega
            · rw [if_neg z] at r3
              rw [if_neg (by omega)]
              congr 1
              omega
          · rw [if_neg (fun z => w z.2)]
            exact rows p (by omega)
  unfold sX15_copyWithout at e
  have z0 : (0 : Int32).toInt = 0 := rfl
  refine lp F T P ⟨fun _ _ => rfl, fun _ => rfl, fun _ _ _ _ _ => rfl, fun _ w => w, Int.le_refl _, fun _ _ => ⟨rfl, fun _ _ => rfl⟩, fun k l1 l2 => absurd l2 (by omega)⟩ (fun _ => rfl) (fun _ => rfl) rfl (fun _ _ i hi => absurd hi (by rw [z0]; omega)) (by decide) (by rw [z0]; exact im.1) (by rw [z0, if_pos a2]) (fun p hp => absurd hp (by rw [z0]; omega)) e
end
end
