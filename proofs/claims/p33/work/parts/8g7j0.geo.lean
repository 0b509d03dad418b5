/-! pure: flags, vectors, squares on a line -/
def fbt (x : Int) (n : Nat) : Bool := decide (x / ((2 ^ n : Nat) : Int) % 2 = 1)
theorem fb_all : ∀ j : Fin 64, ((nI j.val &&& (1 : Int32)) = 0 ↔ fbt (j.val : Int) 0 = false) ∧ ((nI j.val &&& (2 : Int32)) = 0 ↔ fbt (j.val : Int) 1 = false) ∧ ((nI j.val &&& (4 : Int32)) = 0 ↔ fbt (j.val : Int) 2 = false) ∧ ((nI j.val &&& (8 : Int32)) = 0 ↔ fbt (j.val : Int) 3 = false) ∧ ((nI j.val &&& (16 : Int32)) = 0 ↔ fbt (j.val : Int) 4 = false) ∧ ((nI j.val &&& (32 : Int32)) = 0 ↔ fbt (j.val : Int) 5 = false) := by decide +kernel
theorem fb_e {x : Int32} (i : Rg 0 63 x) : ((x &&& (1 : Int32)) = 0 ↔ fbt x.toInt 0 = false) ∧ ((x &&& (2 : Int32)) = 0 ↔ fbt x.toInt 1 = false) ∧ ((x &&& (4 : Int32)) = 0 ↔ fbt x.toInt 2 = false) ∧ ((x &&& (8 : Int32)) = 0 ↔ fbt x.toInt 3 = false) ∧ ((x &&& (16 : Int32)) = 0 ↔ fbt x.toInt 4 = false) ∧ ((x &&& (32 : Int32)) = 0 ↔ fbt x.toInt 5 = false) := by
  obtain ⟨j, ej, tj, hj⟩ := rg_nI i (Int.le_refl 0)
  have j64 : j < 64 := by have := i.2; omega
  have a := fb_all ⟨j, j64⟩
  rw [tj, ej]
  exact a
def vXi (a b : Int) (fo : Bool) (d : Nat) : Int := if fo = true then a else if d % 2 = 1 then -(if d / 4 % 2 = 1 then b else a) else (if d / 4 % 2 = 1 then b else a)
def vYi (a b sd : Int) (fo : Bool) (d : Nat) : Int := if fo = true then (if sd = 0 then b else -b) else if d / 2 % 2 = 1 then -(if d / 4 % 2 = 1 then a else b) else (if d / 4 % 2 = 1 then a else b)
/-- the reference leaves out vectors that come twice -/
def vOk (a b : Int) (fo : Bool) (d : Nat) : Bool := if fo = true then decide (d = 0) else (!decide (d % 2 = 1) || !decide ((if d / 4 % 2 = 1 then b else a) = 0)) && (!decide (d / 2 % 2 = 1) || !decide ((if d / 4 % 2 = 1 then a else b) = 0)) && (!decide (d / 4 % 2 = 1) || !decide (a.natAbs = b.natAbs))
theorem vok_all : ∀ i j : Fin 15, ∀ d : Fin 8, ∃ e : Fin 8, vOk ((i.val : Int) - 7) ((j.val : Int) - 7) false e.val = true ∧ vXi ((i.val : Int) - 7) ((j.val : Int) - 7) false e.val = vXi ((i.val : Int) - 7) ((j.val : Int) - 7) false d.val ∧ vYi ((i.val : Int) - 7) ((j.val : Int) - 7) 0 false e.val = vYi ((i.val : Int) - 7) ((j.val : Int) - 7) 0 false d.val := by decide +kernel
theorem vy_f (a b sd : Int) (d : Nat) : vYi a b sd false d = vYi a b 0 false d := rfl
theorem vok_ex {a b sd : Int} {fo : Bool} {d : Nat} (ia : -7 ≤ a ∧ a ≤ 7) (ib : -7 ≤ b ∧ b ≤ 7) (hd : d < 8) : ∃ e, e < 8 ∧ vOk a b fo e = true ∧ vXi a b fo e = vXi a b fo d ∧ vYi a b sd fo e = vYi a b sd fo d := by
  cases fo with
  | true => exact ⟨0, by decide, rfl, rfl, rfl⟩
  | false =>
    obtain ⟨i, hi⟩ : ∃ i : Nat, a = (i : Int) - 7 := ⟨(a + 7).toNat, by omega⟩
    obtain ⟨j, hj⟩ : ∃ j : Nat, b = (j : Int) - 7 := ⟨(b + 7).toNat, by omega⟩
    obtain ⟨e, e1, e2, e3⟩ := vok_all ⟨i, by omega⟩ ⟨j, by omega⟩ ⟨d, hd⟩
    rw [hi, hj]
    exact ⟨e.val, e.isLt, e1, e2, e3⟩
theorem v_sq {a b sd : Int} {fo : Bool} {d : Nat} : vXi a b fo d * vXi a b fo d + vYi a b sd fo d * vYi a b sd fo d = a * a + b * b := by
  have n : ∀ z : Int, -z * -z = z * z := fun z => Int.neg_mul_neg z z
  unfold vXi vYi
  split
  · split
    · rfl
    · rw [n]
  · split <;> split <;> split <;> (try simp only [n]) <;> omega
theorem sq_pos {a b : Int} (n : ¬ (a = 0 ∧ b = 0)) : 0 < a * a + b * b := by
  have nn : ∀ z : Int, 0 ≤ z * z := fun z => by
    by_cases c : 0 ≤ z
    · exact Int.mul_nonneg c c
    · exact Int.mul_nonneg_of_nonpos_of_nonpos (by omega) (by omega)
  have ps : ∀ z : Int, ¬ z = 0 → 0 < z * z := fun z h => by
    by_cases c : 0 < z
    · exact Int.mul_pos c c
    · exact Int.mul_pos_of_neg_of_neg (by omega) (by omega)
  have a1 := nn a
  have b1 := nn b
  by_cases c : a = 0
  · have := ps b (fun z => n ⟨c, z⟩)
    omega
  · have := ps a c
    omega
theorem v_rg {a b sd : Int} {fo : Bool} {d : Nat} (ia : -7 ≤ a ∧ a ≤ 7) (ib : -7 ≤ b ∧ b ≤ 7) : (-7 ≤ vXi a b fo d ∧ vXi a b fo d ≤ 7) ∧ (-7 ≤ vYi a b sd fo d ∧ vYi a b sd fo d ≤ 7) := by
  unfold vXi vYi
  split
  · split <;> omega
  · split <;> split <;> split <;> omega
/-- the square k vectors on, and whether it is on the board -/
def tgt (fi s x y k : Int) : Int := (s / fi + k * y) * fi + (s % fi + k * x)
def onK (fi ra s x y k : Int) : Prop := 0 ≤ s % fi + k * x ∧ s % fi + k * x < fi ∧ 0 ≤ s / fi + k * y ∧ s / fi + k * y < ra
theorem tgt_s {fi s x y k : Int} : tgt fi s x y k = s + k * (y * fi + x) := by
  unfold tgt
  have h := Int.mul_ediv_add_emod s fi
  rw [Int.add_mul, Int.mul_add, Int.mul_assoc, Int.mul_comm (s / fi) fi]
  omega
theorem dm_uni {fi A B A' B' : Int} (h1 : 0 ≤ B ∧ B < fi) (h2 : 0 ≤ B' ∧ B' < fi) (e : A * fi + B = A' * fi + B') : A = A' ∧ B = B' := by
  have key : ∀ {A A' B B' : Int}, 0 ≤ B ∧ B < fi → 0 ≤ B' ∧ B' < fi → A * fi + B = A' * fi + B' → ¬ A < A' := fun {A A' B B'} h1 h2 e l => by
    have := Int.mul_le_mul_of_nonneg_right (show A + 1 ≤ A' by omega) (show 0 ≤ fi by omega)
    rw [Int.add_mul, Int.one_mul] at this
    omega
  have a := key h1 h2 e
  have b := key h2 h1 e.symm
  have c : A = A' := by omega
  rw [c] at e
  exact ⟨c, by omega⟩
theorem tgt_u {fi ra s x y k x' y' k' : Int} (h1 : onK fi ra s x y k) (h2 : onK fi ra s x' y' k') (e : tgt fi s x y k = tgt fi s x' y' k') : k * x = k' * x' ∧ k * y = k' * y' := by
  obtain ⟨a, b⟩ := dm_uni ⟨h1.1, h1.2.1⟩ ⟨h2.1, h2.2.1⟩ e
  omega
theorem tgt_on {fi ra s x y k : Int} (f0 : 0 < fi) (h : onK fi ra s x y k) : 0 ≤ tgt fi s x y k ∧ tgt fi s x y k < fi * ra ∧ tgt fi s x y k % fi = s % fi + k * x ∧ tgt fi s x y k / fi = s / fi + k * y := by
  obtain ⟨a, b, c, d⟩ := h
  unfold tgt
  have m0 := Int.mul_nonneg c (show 0 ≤ fi by omega)
  have m1 := Int.mul_le_mul_of_nonneg_right (show s / fi + k * y + 1 ≤ ra by omega) (show 0 ≤ fi by omega)
  rw [Int.add_mul, Int.one_mul, Int.mul_comm ra fi] at m1
  refine ⟨by omega, by omega, ?_, ?_⟩
  · rw [Int.add_comm, Int.add_mul_emod_self_right, Int.emod_eq_of_lt a b]
  · rw [Int.add_comm, Int.add_mul_ediv_right _ _ (by omega), Int.ediv_eq_zero_of_lt a b]
    omega
theorem mid1 {w n x k j : Int} (h0 : 0 ≤ w ∧ w < n) (hk : 0 ≤ w + k * x ∧ w + k * x < n) (hj : 0 ≤ j ∧ j ≤ k) : 0 ≤ w + j * x ∧ w + j * x < n := by
  by_cases c : 0 ≤ x
  · have a := Int.mul_nonneg hj.1 c
    have b := Int.mul_le_mul_of_nonneg_right hj.2 c
    omega
  · have a := Int.mul_le_mul_of_nonpos_right hj.1 (show x ≤ 0 by omega)
    have b := Int.mul_le_mul_of_nonpos_right hj.2 (show x ≤ 0 by omega)
    rw [Int.zero_mul] at a
    omega
theorem onk_mid {fi ra s x y k j : Int} (f0 : 0 < fi) (s0 : 0 ≤ s) (s1 : s < fi * ra) (h : onK fi ra s x y k) (hj : 0 ≤ j ∧ j ≤ k) : onK fi ra s x y j := by
  obtain ⟨a, b, c, d⟩ := h
  have r1 : s / fi < ra := Int.ediv_lt_of_lt_mul f0 (by rw [Int.mul_comm]; exact s1)
  obtain ⟨p, q⟩ := mid1 (w := s % fi) (n := fi) ⟨Int.emod_nonneg _ (by omega), Int.emod_lt_of_pos _ f0⟩ ⟨a, b⟩ hj
  obtain ⟨u, v⟩ := mid1 (w := s / fi) (n := ra) ⟨Int.ediv_nonneg s0 (by omega), r1⟩ ⟨c, d⟩ hj
  exact ⟨p, q, u, v⟩
/-- a STEP's vector comes from s to t when gone along k times -/
def Rch (fi ra a b rd sd : Int) (fo : Bool) (s t k : Int) : Prop := 1 ≤ k ∧ k ≤ rd ∧ ∃ d : Nat, d < 8 ∧ onK fi ra s (vXi a b fo d) (vYi a b sd fo d) k ∧ t = tgt fi s (vXi a b fo d) (vYi a b sd fo d) k
theorem pos_sq {k k' : Int} (h : 0 < k) (h' : 0 < k') (e : k * k = k' * k') : k = k' := by
  have key : ∀ {k k' : Int}, 0 < k → 0 < k' → k * k = k' * k' → ¬ k < k' := fun {k k'} h h' e l => by
    have a := Int.mul_lt_mul_of_pos_left l h
    have b := Int.mul_lt_mul_of_pos_right l h'
    omega
  have a := key h h' e
  have b := key h' h e.symm
  omega
theorem v_uni {a b sd fi ra s k k' : Int} {fo : Bool} {d d' : Nat} (nz : ¬ (a = 0 ∧ b = 0)) (h : 1 ≤ k) (h' : 1 ≤ k') (o1 : onK fi ra s (vXi a b fo d) (vYi a b sd fo d) k) (o2 : onK fi ra s (vXi a b fo d') (vYi a b sd fo d') k') (e : tgt fi s (vXi a b fo d) (vYi a b sd fo d) k = tgt fi s (vXi a b fo d') (vYi a b sd fo d') k') : k = k' ∧ vXi a b fo d = vXi a b fo d' ∧ vYi a b sd fo d = vYi a b sd fo d' := by
  obtain ⟨ex, ey⟩ := tgt_u o1 o2 e
  have n := sq_pos nz
  have s1 := v_sq (a := a) (b := b) (sd := sd) (fo := fo) (d := d)
  have s2 := v_sq (a := a) (b := b) (sd := sd) (fo := fo) (d := d')
  have e1 : (k * k) * (a * a + b * b) = (k' * k') * (a * a + b * b) := by
    have l : (k * k) * (a * a + b * b) = (k * vXi a b fo d) * (k * vXi a b fo d) + (k * vYi a b sd fo d) * (k * vYi a b sd fo d) := by
      rw [← s1, Int.mul_add]
      congr 1
      · rw [Int.mul_assoc, Int.mul_assoc, Int.mul_left_comm k (vXi a b fo d)]
      · rw [Int.mul_assoc, Int.mul_assoc, Int.mul_left_comm k (vYi a b sd fo d)]
    have r : (k' * k') * (a * a + b * b) = (k' * vXi a b fo d') * (k' * vXi a b fo d') + (k' * vYi a b sd fo d') * (k' * vYi a b sd fo d') := by
      rw [← s2, Int.mul_add]
      congr 1
      · rw [Int.mul_assoc, Int.mul_assoc, Int.mul_left_comm k' (vXi a b fo d')]
      · rw [Int.mul_assoc, Int.mul_assoc, Int.mul_left_comm k' (vYi a b sd fo d')]
    rw [l, r, ex, ey]
  have kk : k = k' := pos_sq (by omega) (by omega) (Int.eq_of_mul_eq_mul_right (by omega) e1)
  rw [kk] at ex ey
  exact ⟨kk, Int.eq_of_mul_eq_mul_left (by omega) ex, Int.eq_of_mul_eq_mul_left (by omega) ey⟩
theorem rch_u {fi ra a b rd sd s t k k' : Int} {fo : Bool} (nz : ¬ (a = 0 ∧ b = 0)) (h : Rch fi ra a b rd sd fo s t k) (h' : Rch fi ra a b rd sd fo s t k') : k = k' := by
  obtain ⟨k1, _, d, _, o1, e1⟩ := h
  obtain ⟨k2, _, d', _, o2, e2⟩ := h'
  exact (v_uni nz k1 k2 o1 o2 (e1.symm.trans e2)).1
/-- the vector as a number of squares -/
theorem rch_st {fi ra a b rd sd s t k : Int} {fo : Bool} (h : Rch fi ra a b rd sd fo s t k) : ∃ d : Nat, d < 8 ∧ onK fi ra s (vXi a b fo d) (vYi a b sd fo d) k ∧ t = tgt fi s (vXi a b fo d) (vYi a b sd fo d) k ∧ (t - s) / k = vYi a b sd fo d * fi + vXi a b fo d ∧ t - s = k * (vYi a b sd fo d * fi + vXi a b fo d) := by
  obtain ⟨k1, _, d, hd, o1, e1⟩ := h
  have z : t - s = k * (vYi a b sd fo d * fi + vXi a b fo d) := by
    rw [e1, tgt_s]; omega
  exact ⟨d, hd, o1, e1, by rw [z, Int.mul_ediv_cancel_left _ (by omega)], z⟩
theorem st_nz {fi x y : Int} (f0 : 8 ≤ fi ∨ (x.natAbs : Int) < fi) (n : ¬ (x = 0 ∧ y = 0)) (lx : x.natAbs < 8) : ¬ y * fi + x = 0 := fun z => by
  have fx : (x.natAbs : Int) < fi := by omega
  have : y * fi + x = 0 * fi + 0 := by rw [z]; omega
  by_cases c : 0 ≤ x
  · obtain ⟨a, b⟩ := dm_uni (fi := fi) (A := y) (B := x) (A' := 0) (B' := 0) ⟨c, by omega⟩ ⟨by omega, by omega⟩ this
    exact n ⟨b, a⟩
  · have e2 : y * fi + 0 = 0 * fi + (-x) := by omega
    obtain ⟨a, b⟩ := dm_uni (fi := fi) (A := y) (B := 0) (A' := 0) (B' := -x) ⟨by omega, by omega⟩ ⟨by omega, by omega⟩ e2
    exact n ⟨by omega, a⟩
/-- men on the squares s + st, .. , s + n st -/
def cnP (M : Nat → Int) (s st : Int) : Nat → Nat
  | 0 => 0
  | n + 1 => cnP M s st n + (if 0 < M (s + ((n : Int) + 1) * st).toNat then 1 else 0)
theorem cnp_le {M : Nat → Int} {s st : Int} {n : Nat} : ∀ m, n ≤ m → cnP M s st n ≤ cnP M s st m
  | 0, h => by rw [show n = 0 by omega]; exact Nat.le_refl _
  | m + 1, h => by
    by_cases c : n = m + 1
    · rw [c]; exact Nat.le_refl _
    · have := cnp_le (M := M) (s := s) (st := st) (n := n) m (by omega)
      show _ ≤ cnP M s st m + _
      omega
theorem cnp_c {M M' : Nat → Int} {s st : Int} : ∀ n, (∀ j : Nat, 1 ≤ j → j ≤ n → (0 < M (s + (j : Int) * st).toNat ↔ 0 < M' (s + (j : Int) * st).toNat)) → cnP M s st n = cnP M' s st n
  | 0, _ => rfl
  | n + 1, h => by
    have := h (n + 1) (by omega) (Nat.le_refl _)
    show cnP M s st n + _ = cnP M' s st n + _
    rw [cnp_c n (fun j a b => h j a (by omega))]
    have c : ((n + 1 : Nat) : Int) = (n : Int) + 1 := by omega
    rw [c] at this
    by_cases q : 0 < M (s + ((n : Int) + 1) * st).toNat
    · rw [if_pos q, if_pos (this.mp q)]
    · rw [if_neg q, if_neg (fun z => q (this.mpr z))]
theorem cnp_0 {M : Nat → Int} {s st : Int} : ∀ n, cnP M s st n = 0 ↔ ∀ j : Nat, 1 ≤ j → j ≤ n → ¬ 0 < M (s + (j : Int) * st).toNat
  | 0 => ⟨fun _ j a b => by omega, fun _ => rfl⟩
  | n + 1 => by
    have ih := cnp_0 (M := M) (s := s) (st := st) n
    have c : ((n + 1 : Nat) : Int) = (n : Int) + 1 := by omega
    show cnP M s st n + _ = 0 ↔ _
    by_cases q : 0 < M (s + ((n : Int) + 1) * st).toNat
    · rw [if_pos q]
      exact ⟨fun z => by omega, fun z => absurd q (by rw [← c]; exact z (n + 1) (by omega) (Nat.le_refl _))⟩
    · rw [if_neg q, Nat.add_zero, ih]
      refine ⟨fun z j a b => ?_, fun z j a b => z j a (by omega)⟩
      by_cases e : j = n + 1
      · rw [e, c]; exact q
      · exact z j a (by omega)
theorem cnp_1 {M : Nat → Int} {s st : Int} : ∀ n, cnP M s st n = 1 ↔ ∃ j : Nat, 1 ≤ j ∧ j ≤ n ∧ 0 < M (s + (j : Int) * st).toNat ∧ ∀ i : Nat, 1 ≤ i → i ≤ n → 0 < M (s + (i : Int) * st).toNat → i = j
  | 0 => ⟨fun z => absurd (show (0 : Nat) = 1 from z) (by decide), fun ⟨j, a, b, _⟩ => by omega⟩
  | n + 1 => by
    have ih := cnp_1 (M := M) (s := s) (st := st) n
    have i0 := cnp_0 (M := M) (s := s) (st := st) n
    have c : ((n + 1 : Nat) : Int) = (n : Int) + 1 := by omega
    show cnP M s st n + _ = 1 ↔ _
    by_cases q : 0 < M (s + ((n : Int) + 1) * st).toNat
    · rw [if_pos q]
      constructor
      · intro z
        have y := i0.mp (by omega)
        refine ⟨n + 1, by omega, Nat.le_refl _, by rw [c]; exact q, fun i a b w => ?_⟩
        by_cases e : i = n + 1
        · exact e
        · exact absurd w (y i a (by omega))
      · rintro ⟨j, a, b, w, u⟩
        have e := u (n + 1) (by omega) (Nat.le_refl _) (by rw [c]; exact q)
        have : cnP M s st n = 0 := i0.mpr (fun i a' b' w' => by
          have := u i a' (by omega) w'
          omega)
        omega
    · rw [if_neg q, Nat.add_zero, ih]
      constructor
      · rintro ⟨j, a, b, w, u⟩
        refine ⟨j, a, by omega, w, fun i a' b' w' => ?_⟩
        by_cases e : i = n + 1
        · rw [e, c] at w'
          exact absurd w' q
        · exact u i a' (by omega) w'
      · rintro ⟨j, a, b, w, u⟩
        have : ¬ j = n + 1 := fun e => by
          rw [e, c] at w
          exact q w
        exact ⟨j, a, by omega, w, fun i a' b' w' => u i a' (by omega) w'⟩
/-! a law as numbers: fields of the reference's RULES by their places, rows by their keys -/
def rkF (L : Nat → Nat → Int) (s sd : Int) : Int := if sd = 0 then s / L 0 0 + 1 else L 1 0 - s / L 0 0
def RchL (L : Nat → Nat → Int) (j : Nat) (sd : Int) (s t : Nat) (k : Int) : Prop := (L 79 j = 0 ∨ L 79 j = rkF L s sd) ∧ Rch (L 0 0) (L 1 0) (L 76 j) (L 77 j) (L 78 j) sd (fbt (L 75 j) 2) s t k
def ovN (L : Nat → Nat → Int) (j : Nat) : Nat := if fbt (L 75 j) 3 = true then 1 else 0
/-- STEP j leads from s to t, k times along, and the squares between let it pass -/
def Led (L : Nat → Nat → Int) (M : Nat → Int) (j : Nat) (sd : Int) (s t : Nat) (k : Int) : Prop := RchL L j sd s t k ∧ cnP M s (((t : Int) - s) / k) (k - 1).toNat = ovN L j
def mnO (v : Int) : Nat := ((v - 1) / 2).toNat
def AttP (L : Nat → Nat → Int) (M : Nat → Int) (by' : Int) (q : Nat) : Prop := ∃ (s i : Nat) (k : Int), (s : Int) < L 0 0 * L 1 0 ∧ 0 < M s ∧ (M s - 1) % 2 = by' ∧ (i : Int) < L 74 (mnO (M s)) ∧ fbt (L 75 (8 * mnO (M s) + i)) 0 = false ∧ Led L M (8 * mnO (M s) + i) by' s q k
/-- numbers of a law as they must be -/
def LOk (L : Nat → Nat → Int) : Prop := (3 ≤ L 0 0 ∧ L 0 0 ≤ 8) ∧ (3 ≤ L 1 0 ∧ L 1 0 ≤ 8) ∧ (0 ≤ L 2 0 ∧ L 2 0 ≤ 12) ∧ ∀ m : Nat, (m : Int) < L 2 0 → (1 ≤ L 74 m ∧ L 74 m ≤ 8) ∧ ∀ i : Nat, (i : Int) < L 74 m → (0 ≤ L 75 (8 * m + i) ∧ L 75 (8 * m + i) ≤ 63) ∧ (-7 ≤ L 76 (8 * m + i) ∧ L 76 (8 * m + i) ≤ 7) ∧ (-7 ≤ L 77 (8 * m + i) ∧ L 77 (8 * m + i) ≤ 7) ∧ ¬ (L 76 (8 * m + i) = 0 ∧ L 77 (8 * m + i) = 0) ∧ (1 ≤ L 78 (8 * m + i) ∧ L 78 (8 * m + i) ≤ 7) ∧ (0 ≤ L 79 (8 * m + i) ∧ L 79 (8 * m + i) ≤ 8)
/-- men of a board are men of the law, and stand on its squares -/
def MOk (L : Nat → Nat → Int) (M : Nat → Int) : Prop := ∀ s : Nat, s < 64 → 0 ≤ M s ∧ (0 < M s → (s : Int) < L 0 0 * L 1 0 ∧ M s ≤ 2 * L 2 0)
theorem sq_64 {L : Nat → Nat → Int} (H : LOk L) : 9 ≤ L 0 0 * L 1 0 ∧ L 0 0 * L 1 0 ≤ 64 := by
  obtain ⟨⟨a, b⟩, ⟨c, d⟩, _⟩ := H
  have m1 : L 0 0 * L 1 0 ≤ 8 * 8 := Int.mul_le_mul b d (by omega) (by decide)
  have m2 : 3 * 3 ≤ L 0 0 * L 1 0 := Int.mul_le_mul a c (by decide) (by omega)
  omega
theorem mno_lt {L : Nat → Nat → Int} {v : Int} (h : 0 < v) (h' : v ≤ 2 * L 2 0) : ((mnO v : Nat) : Int) < L 2 0 ∧ ((mnO v : Nat) : Int) = (v - 1) / 2 := by
  unfold mnO
  omega
