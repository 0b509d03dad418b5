-- the heap as a value: the next free address and how many slots were made, the kind of each address, lengths, ints, longs, references
abbrev Hp : Type := (Nat × Nat) × (Nat → Nat) × (Nat → Nat) × (Nat → Nat → Int32) × (Nat → Nat → Int64) × (Nat → Nat → Option Nat)
def hS (h : Hp) : Nat := h.1.1
/-- how many slots were made -/
def hL (h : Hp) : Nat := h.1.2
def hK (h : Hp) : Nat → Nat := h.2.1
def hN (h : Hp) : Nat → Nat := h.2.2.1
def hI (h : Hp) : Nat → Nat → Int32 := h.2.2.2.1
def hJ (h : Hp) : Nat → Nat → Int64 := h.2.2.2.2.1
def hR (h : Hp) : Nat → Nat → Option Nat := h.2.2.2.2.2
def wI (h : Hp) (a i : Nat) (v : Int32) : Hp := (h.1, h.2.1, h.2.2.1, (fun b => if b = a then upd (h.2.2.2.1 b) i v else h.2.2.2.1 b), h.2.2.2.2)
def wJ (h : Hp) (a i : Nat) (v : Int64) : Hp := (h.1, h.2.1, h.2.2.1, h.2.2.2.1, (fun b => if b = a then vp_updL (h.2.2.2.2.1 b) i v else h.2.2.2.2.1 b), h.2.2.2.2.2)
def wR (h : Hp) (a i : Nat) (v : Option Nat) : Hp := (h.1, h.2.1, h.2.2.1, h.2.2.2.1, h.2.2.2.2.1, (fun b => if b = a then va_up (h.2.2.2.2.2 b) i v else h.2.2.2.2.2 b))
-- a new cell at the next free address: an object of kind k, or an array of kind k and length n; all its places are 0 or null
def nC (h : Hp) (k n z : Nat) : Hp := ((h.1.1 + 1, h.1.2 + z), va_up h.2.1 h.1.1 k, va_up h.2.2.1 h.1.1 n, va_up h.2.2.2.1 h.1.1 (fun _ => 0), va_up h.2.2.2.2.1 h.1.1 (fun _ => 0), va_up h.2.2.2.2.2 h.1.1 (fun _ => none))
-- the classes whose objects the pool holds, and the types of their slots: 0 an int, 1 a long, 2 a reference
abbrev classes : List vw_C := [(RX0, TX0, 19), (RX1, TX1, 21), (RX2, TX2, 7), (RX3, TX3, 11), (RX4, TX4, 17), (RX5, TX5, 10), (RX6, TX6, 8), (RX7, TX7, 3), (RX8, TX8, 4), (RX9, TX9, 2), (RX10, TX10, 9), (RX11, TX11, 18), (RX12, TX12, 8), (RX13, TX13, 8), (RX14, TX14, 24), (RX15, TX15, 71)]
def tl : Nat → List Nat
  | 0 => [2, 2, 2, 2, 2, 2, 2, 2, 0, 0, 0, 2, 2, 2, 0, 0, 0, 0, 1]
  | 1 => [0, 0, 0, 0, 0, 0, 0, 0, 0, 0, 0, 0, 0, 1, 2, 2, 2, 2, 2, 2, 2]
  | 2 => [2, 2, 0, 0, 0, 0, 0]
  | 3 => [2, 2, 2, 2, 2, 0, 0, 1, 1, 1, 1]
  | 4 => [2, 2, 2, 2, 2, 0, 0, 0, 0, 0, 2, 2, 2, 2, 0, 0, 0]
  | 5 => [2, 2, 2, 2, 2, 2, 0, 0, 1, 0]
  | 6 => [2, 2, 2, 2, 2, 2, 0, 0]
  | 7 => [2, 2, 0]
  | 8 => [2, 2, 2, 2]
  | 9 => [2, 0]
  | 10 => [2, 2, 2, 2, 2, 2, 2, 2, 0]
  | 11 => [2, 2, 2, 2, 2, 2, 2, 2, 2, 2, 2, 2, 2, 2, 2, 2, 2, 2]
  | 12 => [2, 0, 1, 0, 2, 2, 2, 0]
  | 13 => [0, 2, 2, 2, 2, 2, 2, 2]
  | 14 => [0, 0, 0, 2, 2, 2, 2, 2, 2, 2, 0, 0, 0, 2, 2, 0, 0, 0, 0, 0, 0, 1, 0, 0]
  | 15 => [2, 0, 2, 0, 2, 2, 0, 0, 0, 0, 0, 0, 0, 0, 2, 2, 0, 2, 0, 0, 0, 2, 2, 0, 0, 2, 2, 2, 2, 0, 2, 2, 2, 2, 2, 2, 0, 2, 2, 2, 2, 2, 2, 2, 0, 2, 2, 2, 2, 0, 0, 2, 2, 2, 2, 2, 2, 2, 2, 1, 2, 2, 0, 0, 0, 0, 0, 0, 0, 2, 0]
  | _ => []
def fv (h : Hp) (a t i : Nat) : Value := match t with
  | 0 => .int (hI h a i)
  | 1 => .long (hJ h a i)
  | _ => va_rf (hR h a i)
def fl (h : Hp) (a : Nat) : Nat → List Nat → List Value
  | _, [] => []
  | i, t :: ts => fv h a t i :: fl h a (i + 1) ts
def aE (h : Hp) (k a : Nat) : (Nat → Int32) ⊕ (Nat → Int64) ⊕ (Nat → UInt32) ⊕ (Nat → UInt64) ⊕ (Nat → Option Nat) :=
  if k = 18 then .inr (.inl (hJ h a)) else if k < 20 then .inl (hI h a) else .inr (.inr (.inr (.inr (hR h a))))
def cE (cy : Nat → ClassId) (h : Hp) (a : Nat) : va_E :=
  if hK h a < 16 then .inr (hK h a, fl h a 0 (tl (hK h a))) else .inl (cy (hK h a), hN h a, aE h (hK h a) a)
abbrev tys (cy : Nat → ClassId) : List (ClassId × FieldType) := [(cy 16, .byte), (cy 17, .int), (cy 18, .long), (cy 19, .boolean), (cy 20, .object "GameRules$Position"), (cy 21, .object "GameRulesModel$Board"), (cy 22, .object "GameRulesModel$Moves"), (cy 23, .array .int)]
abbrev pL (base n : Nat) : List Nat := List.range' base (n - base)
abbrev wP (cy : Nat → ClassId) (base : Nat) (h : Hp) : va_W := [] ++ va_pl (pL base (hS h)) (cE cy h)
def Wd (G : va_G) (cy : Nat → ClassId) (base : Nat) (h : Hp) (H : Heap) : Prop :=
  H.size = hS h ∧ base ≤ hS h ∧ (∀ a, hK h a < 24 → base ≤ a ∧ a < hS h) ∧ va_P G classes (wP cy base h) H
abbrev aA (base : Nat) : Nat → Prop := fun q => base ≤ q
-- ===== reading and writing the value
theorem wI_S (h : Hp) (a i : Nat) (v : Int32) : hS (wI h a i v) = hS h := rfl
theorem wI_K (h : Hp) (a i : Nat) (v : Int32) : hK (wI h a i v) = hK h := rfl
theorem wI_N (h : Hp) (a i : Nat) (v : Int32) : hN (wI h a i v) = hN h := rfl
theorem wI_J (h : Hp) (a i : Nat) (v : Int32) : hJ (wI h a i v) = hJ h := rfl
theorem wI_R (h : Hp) (a i : Nat) (v : Int32) : hR (wI h a i v) = hR h := rfl
theorem wI_I (h : Hp) (a i : Nat) (v : Int32) (b : Nat) : hI (wI h a i v) b = if b = a then upd (hI h b) i v else hI h b := rfl
theorem wJ_S (h : Hp) (a i : Nat) (v : Int64) : hS (wJ h a i v) = hS h := rfl
theorem wJ_K (h : Hp) (a i : Nat) (v : Int64) : hK (wJ h a i v) = hK h := rfl
theorem wJ_N (h : Hp) (a i : Nat) (v : Int64) : hN (wJ h a i v) = hN h := rfl
theorem wJ_I (h : Hp) (a i : Nat) (v : Int64) : hI (wJ h a i v) = hI h := rfl
theorem wJ_R (h : Hp) (a i : Nat) (v : Int64) : hR (wJ h a i v) = hR h := rfl
theorem wJ_J (h : Hp) (a i : Nat) (v : Int64) (b : Nat) : hJ (wJ h a i v) b = if b = a then vp_updL (hJ h b) i v else hJ h b := rfl
theorem wR_S (h : Hp) (a i : Nat) (v : Option Nat) : hS (wR h a i v) = hS h := rfl
theorem wR_K (h : Hp) (a i : Nat) (v : Option Nat) : hK (wR h a i v) = hK h := rfl
theorem wR_N (h : Hp) (a i : Nat) (v : Option Nat) : hN (wR h a i v) = hN h := rfl
theorem wR_I (h : Hp) (a i : Nat) (v : Option Nat) : hI (wR h a i v) = hI h := rfl
theorem wR_J (h : Hp) (a i : Nat) (v : Option Nat) : hJ (wR h a i v) = hJ h := rfl
theorem wR_R (h : Hp) (a i : Nat) (v : Option Nat) (b : Nat) : hR (wR h a i v) b = if b = a then va_up (hR h b) i v else hR h b := rfl
-- ===== the list of an object's slots
theorem fl_get (h : Hp) (a : Nat) : ∀ (ts : List Nat) (i k : Nat), (fl h a i ts)[k]? = (ts[k]?).map (fun t => fv h a t (i + k))
  | [], i, k => by simp [fl]
  | t :: ts, i, 0 => by simp [fl]
  | t :: ts, i, k + 1 => by
    have := fl_get h a ts (i + 1) k
    simp [fl, this, Nat.add_assoc, Nat.add_comm 1 k]
theorem fl_len (h : Hp) (a : Nat) : ∀ (ts : List Nat) (i : Nat), (fl h a i ts).length = ts.length
  | [], i => rfl
  | t :: ts, i => by simp [fl, fl_len h a ts (i + 1)]
theorem fl_congr {h h' : Hp} {a : Nat} : ∀ (ts : List Nat) (i : Nat), (∀ k t, ts[k]? = some t → fv h a t (i + k) = fv h' a t (i + k)) → fl h a i ts = fl h' a i ts
  | [], i, _ => rfl
  | t :: ts, i, hk => by
    have h0 := hk 0 t rfl
    have h1 := fl_congr (h := h) (h' := h') (a := a) ts (i + 1) (fun k t' hk' => by
      have := hk (k + 1) t' (by simpa using hk')
      rw [show i + (k + 1) = i + 1 + k by omega] at this
      exact this)
    simp only [fl]
    rw [h1]
    exact congrArg (· :: _) h0
theorem fl_set {h h' : Hp} {a : Nat} : ∀ (ts : List Nat) (i k : Nat) (v : Value), (∀ j t, ts[j]? = some t → fv h' a t (i + j) = if j = k then v else fv h a t (i + j)) → (fl h a i ts).set k v = fl h' a i ts
  | [], i, k, v, _ => rfl
  | t :: ts, i, 0, v, hk => by
    have h0 : fv h' a t i = v := (hk 0 t rfl).trans (if_pos rfl)
    simp only [fl, List.set_cons_zero]
    rw [h0]
    exact congrArg _ (fl_congr ts (i + 1) (fun j t' hj => by
      have := hk (j + 1) t' (by simpa using hj)
      rw [show i + (j + 1) = i + 1 + j by omega] at this
      rw [this]; simp))
  | t :: ts, i, k + 1, v, hk => by
    have h0 : fv h' a t i = fv h a t i := (hk 0 t rfl).trans (if_neg (by omega))
    simp only [fl, List.set_cons_succ]
    rw [h0]
    exact congrArg _ (fl_set ts (i + 1) k v (fun j t' hj => by
      have := hk (j + 1) t' (by simpa using hj)
      rw [show i + (j + 1) = i + 1 + j by omega] at this
      rw [this]; simp))
theorem cE_obj {cy : Nat → ClassId} {h : Hp} {a ci : Nat} (hk : hK h a = ci) (hc : ci < 16) : cE cy h a = .inr (ci, fl h a 0 (tl ci)) := by
  subst hk; exact if_pos hc
theorem cE_arr {cy : Nat → ClassId} {h : Hp} {a k : Nat} (hk : hK h a = k) (hc : 16 ≤ k) : cE cy h a = .inl (cy k, hN h a, aE h k a) := by
  subst hk; exact if_neg (by omega)
theorem aE_I {h : Hp} {k a : Nat} (h1 : k = 16 ∨ k = 17 ∨ k = 19) : aE h k a = .inl (hI h a) := by
  rcases h1 with rfl | rfl | rfl <;> simp [aE]
theorem aE_J {h : Hp} {a : Nat} : aE h 18 a = .inr (.inl (hJ h a)) := by simp [aE]
theorem aE_R {h : Hp} {k a : Nat} (h1 : 20 ≤ k) : aE h k a = .inr (.inr (.inr (.inr (hR h a)))) := by
  have : ¬ k = 18 := by omega
  have h2 : ¬ k < 20 := by omega
  simp [aE, this, h2]
theorem pL_mem {base n a : Nat} (h1 : base ≤ a) (h2 : a < n) : a ∈ pL base n := by
  rw [List.mem_range'_1]; omega
theorem pL_D (base n : Nat) (f : Nat → va_E) : va_D (aA base) ([] ++ va_pl (pL base n) f) := by
  constructor
  · intro i j p q hi hj hpq
    simp only [List.nil_append, va_pl, List.getElem?_map] at hi hj
    obtain ⟨x, hx, rfl⟩ := Option.map_eq_some_iff.mp hi
    obtain ⟨y, hy, rfl⟩ := Option.map_eq_some_iff.mp hj
    simp only at hpq
    obtain ⟨_, e1⟩ := List.getElem?_eq_some_iff.mp hx
    obtain ⟨_, e2⟩ := List.getElem?_eq_some_iff.mp hy
    rw [List.getElem_range'] at e1 e2
    omega
  · intro k q hq
    simp only [List.nil_append, va_pl, List.getElem?_map] at hq
    obtain ⟨x, hx, rfl⟩ := Option.map_eq_some_iff.mp hq
    have := List.mem_of_getElem? hx
    rw [List.mem_range'_1] at this
    exact this.1
-- a cell is replaced
theorem wd_up {G : va_G} {cy : Nat → ClassId} {base : Nat} {h h' : Hp} {H H1 : Heap} (hW : Wd G cy base h H) {a k : Nat} {e : va_E} (hk : (wP cy base h)[k]? = some (a, cE cy h a)) (ha : base ≤ a) (ha2 : a < hS h)
    (hs : hS h' = hS h) (hK' : hK h' = hK h) (he : cE cy h' a = e) (ho : ∀ b, b ≠ a → cE cy h' b = cE cy h b) (hz : H1.size = H.size) (hP : va_P G classes ((wP cy base h).set k (a, e)) H1) : Wd G cy base h' H1 := by
  obtain ⟨h1, h2, h3, h4⟩ := hW
  refine ⟨by rw [hz, hs]; exact h1, by rw [hs]; exact h2, by rw [hK', hs]; exact h3, ?_⟩
  unfold wP at hP hk ⊢
  rw [va_pl_set (pL_D base (hS h) (cE cy h)) (pL_mem ha ha2) hk] at hP
  rw [hs]
  have : va_pl (pL base (hS h)) (va_up (cE cy h) a e) = va_pl (pL base (hS h)) (cE cy h') := va_pl_congr (fun b => by
    by_cases hb : b = a
    · subst hb; rw [he]; simp [va_up]
    · rw [ho b hb]; simp [va_up, hb])
  rw [← this]
  exact hP
