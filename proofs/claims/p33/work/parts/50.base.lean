theorem z_clamp {n : Nat} (h : n < 2 ^ 31) : (nI n).toNatClampNeg = n := by
  unfold nI Int32.toNatClampNeg
  rw [Int32.toInt_ofNat_of_lt h]
  rfl
theorem z_toInt {n : Nat} (h : n < 2 ^ 31) : (nI n).toInt = (n : Int) := Int32.toInt_ofNat_of_lt h
theorem z_lt {a b : Nat} (ha : a < 2 ^ 31) (hb : b < 2 ^ 31) : (nI a < nI b) = (a < b) := by
  rw [Int32.lt_iff_toInt_lt, z_toInt ha, z_toInt hb]
  simp
theorem z_le {a b : Nat} (ha : a < 2 ^ 31) (hb : b < 2 ^ 31) : (nI a ≤ nI b) = (a ≤ b) := by
  rw [Int32.le_iff_toInt_le, z_toInt ha, z_toInt hb]
  simp
theorem z_eq {a b : Nat} (ha : a < 2 ^ 31) (hb : b < 2 ^ 31) : (nI a = nI b) = (a = b) := by
  apply propext
  constructor
  · intro h
    have := congrArg Int32.toInt h
    rw [z_toInt ha, z_toInt hb] at this
    omega
  · intro h; rw [h]
theorem z_add (a b : Nat) : nI a + nI b = nI (a + b) := (Int32.ofNat_add a b).symm
theorem z_mul (a b : Nat) : nI a * nI b = nI (a * b) := (Int32.ofNat_mul a b).symm
theorem z_sub {a b : Nat} (h : b ≤ a) : nI a - nI b = nI (a - b) := by
  have : nI (a - b) + nI b = nI a := by rw [z_add]; congr 1; omega
  rw [← this, Int32.add_sub_cancel]
theorem z_inB {i n : Nat} (hi : i < 2 ^ 31) : inB (nI i) n = (i < n) := by
  unfold inB
  rw [z_clamp hi]
  have h0 : (nI i < 0) = False := by
    have := z_lt hi (b := 0) (by decide)
    rw [show (0 : Int32) = nI 0 from rfl, this]
    simp
  rw [h0]
  simp
theorem z_neg {i : Nat} (hi : i < 2 ^ 31) : (nI i < 0) = False := by
  have := z_lt hi (b := 0) (by decide)
  rw [show (0 : Int32) = nI 0 from rfl, this]
  simp
theorem z_nI {x : Int32} (h : ¬ x < 0) : x = nI x.toNatClampNeg ∧ x.toNatClampNeg < 2 ^ 31 := by
  have h0 : (0 : Int) ≤ x.toInt := by
    rw [Int32.lt_iff_toInt_lt] at h
    have e : (0 : Int32).toInt = 0 := rfl
    rw [e] at h
    omega
  have h1 : x.toInt < 2 ^ 31 := Int32.toInt_lt x
  have h2 : x.toNatClampNeg < 2 ^ 31 := by
    unfold Int32.toNatClampNeg
    omega
  refine ⟨?_, h2⟩
  apply Int32.toInt_inj.mp
  rw [z_toInt h2]
  unfold Int32.toNatClampNeg
  omega
def Sat {β : Type} (m : Option β) (Q : β → Prop) : Prop := ∃ b, m = some b ∧ Q b
theorem s_some {β : Type} {b : β} {Q : β → Prop} (h : Q b) : Sat (some b) Q := ⟨b, rfl, h⟩
theorem s_cl {α β : Type} {x : Option α} {k : α → Option β} {Q : β → Prop} (h : Sat x fun a => Sat (k a) Q) : Sat (cl x k) Q := by
  obtain ⟨a, e, b, e2, q⟩ := h
  exact ⟨b, by rw [e]; exact e2, q⟩
theorem s_ref {β : Type} {x : Option Nat} {r : Nat} {k : Nat → Option β} {Q : β → Prop} (e : x = some r) (h : Sat (k r) Q) : Sat (cl x k) Q := by
  subst e; exact h
theorem s_nm {α β : Type} {x : α} {k : α → Option β} {Q : β → Prop} (h : Sat (k x) Q) : Sat (nm x k) Q := h
theorem s_gd {β : Type} {c : Prop} [Decidable c] {k : Option β} {Q : β → Prop} (hc : c) (h : Sat k Q) : Sat (gd c k) Q := by
  unfold gd; rw [if_pos hc]; exact h
theorem s_br {β : Type} {c : Prop} [Decidable c] {a b : Option β} {Q : β → Prop} (ha : c → Sat a Q) (hb : ¬ c → Sat b Q) : Sat (br c a b) Q := by
  unfold br; split
  · exact ha ‹_›
  · exact hb ‹_›
theorem s_imp {β : Type} {m : Option β} {Q R : β → Prop} (h : Sat m Q) (hi : ∀ b, Q b → R b) : Sat m R := by
  obtain ⟨b, e, q⟩ := h; exact ⟨b, e, hi b q⟩
theorem s_and {β : Type} {m : Option β} {Q R : β → Prop} (h : Sat m Q) (h2 : Sat m R) : Sat m fun b => Q b ∧ R b := by
  obtain ⟨b, e, q⟩ := h; obtain ⟨c, e2, r⟩ := h2
  rw [e] at e2; cases e2
  exact ⟨b, e, q, r⟩
theorem r_I (h : Hp) (a i : Nat) (v : Int32) (b j : Nat) : hI (wI h a i v) b j = if b = a ∧ j = i then v else hI h b j := by
  show (if b = a then upd (hI h b) i v else hI h b) j = _
  by_cases e : b = a
  · rw [if_pos e]; by_cases e2 : j = i
    · simp [upd, e, e2]
    · simp [upd, e2]
  · simp [e]
theorem r_J (h : Hp) (a i : Nat) (v : Int64) (b j : Nat) : hJ (wJ h a i v) b j = if b = a ∧ j = i then v else hJ h b j := by
  show (if b = a then vp_updL (hJ h b) i v else hJ h b) j = _
  by_cases e : b = a
  · rw [if_pos e]; by_cases e2 : j = i
    · simp [vp_updL, e, e2]
    · simp [vp_updL, e2]
  · simp [e]
theorem r_R (h : Hp) (a i : Nat) (v : Option Nat) (b j : Nat) : hR (wR h a i v) b j = if b = a ∧ j = i then v else hR h b j := by
  show (if b = a then va_up (hR h b) i v else hR h b) j = _
  by_cases e : b = a
  · rw [if_pos e]; by_cases e2 : j = i
    · simp [va_up, e, e2]
    · simp [va_up, e2]
  · simp [e]
theorem br_pos {β : Type} {c : Prop} [Decidable c] {a b : Option β} (h : c) : br c a b = a := if_pos h
theorem br_neg {β : Type} {c : Prop} [Decidable c] {a b : Option β} (h : ¬ c) : br c a b = b := if_neg h
theorem gd_pos {β : Type} {c : Prop} [Decidable c] {k : Option β} (h : c) : gd c k = k := if_pos h
theorem cl_some {α β : Type} (a : α) (k : α → Option β) : cl (some a) k = k a := id rfl
theorem nm_eq {α β : Type} (a : α) (k : α → Option β) : nm a k = k a := id rfl
theorem z_nneg {i : Nat} (hi : i < 2 ^ 31) : ¬ nI i < 0 := by rw [z_neg hi]; exact id
theorem mapS {α β : Type} (f : α → β) (a : α) : (some a).map f = some (f a) := id rfl
theorem z_and (y : Int32) {k : Nat} (hk : k < 2 ^ 31) : ∃ m, y &&& nI k = nI m ∧ m ≤ k := by
  refine ⟨y.toBitVec.toNat &&& k, ?_, Nat.and_le_right⟩
  apply Int32.toBitVec_inj.mp
  apply BitVec.eq_of_toNat_eq
  have h1 : (y.toBitVec.toNat &&& k) ≤ k := Nat.and_le_right
  show (y.toBitVec &&& (nI k).toBitVec).toNat = (nI (y.toBitVec.toNat &&& k)).toBitVec.toNat
  rw [BitVec.toNat_and]
  have h2 : ∀ j, j < 2 ^ 31 → (nI j).toBitVec.toNat = j := fun j hj => by
    show (BitVec.ofNat 32 j).toNat = j
    rw [BitVec.toNat_ofNat]
    exact Nat.mod_eq_of_lt (by omega)
  rw [h2 k hk, h2 _ (by omega)]

def Fx (A : Nat → Prop) (h h' : Hp) : Prop := h'.1 = h.1 ∧ hK h' = hK h ∧ hN h' = hN h ∧ hR h' = hR h ∧ (∀ a, ¬ A a → hI h' a = hI h a) ∧ (∀ a, ¬ A a → hJ h' a = hJ h a)
theorem Fx.rf {A : Nat → Prop} (h : Hp) : Fx A h h := ⟨rfl, rfl, rfl, rfl, fun _ _ => rfl, fun _ _ => rfl⟩
theorem Fx.tr {A : Nat → Prop} {h h1 h2 : Hp} (a : Fx A h h1) (b : Fx A h1 h2) : Fx A h h2 :=
  ⟨b.1.trans a.1, b.2.1.trans a.2.1, b.2.2.1.trans a.2.2.1, b.2.2.2.1.trans a.2.2.2.1, fun q hq => (b.2.2.2.2.1 q hq).trans (a.2.2.2.2.1 q hq), fun q hq => (b.2.2.2.2.2 q hq).trans (a.2.2.2.2.2 q hq)⟩
theorem Fx.mo {A A' : Nat → Prop} {h h1 : Hp} (a : Fx A h h1) (hs : ∀ q, A q → A' q) : Fx A' h h1 :=
  ⟨a.1, a.2.1, a.2.2.1, a.2.2.2.1, fun q hq => a.2.2.2.2.1 q (fun x => hq (hs q x)), fun q hq => a.2.2.2.2.2 q (fun x => hq (hs q x))⟩
theorem Fx.wI {A : Nat → Prop} {h h1 : Hp} (f : Fx A h h1) {a : Nat} (ha : A a) (i : Nat) (v : Int32) : Fx A h (wI h1 a i v) :=
  ⟨f.1, f.2.1, f.2.2.1, f.2.2.2.1, fun q hq => by
    rw [← f.2.2.2.2.1 q hq]
    have : q ≠ a := fun e => hq (e ▸ ha)
    funext j
    rw [r_I]; simp [this], f.2.2.2.2.2⟩
theorem Fx.wJ {A : Nat → Prop} {h h1 : Hp} (f : Fx A h h1) {a : Nat} (ha : A a) (i : Nat) (v : Int64) : Fx A h (wJ h1 a i v) :=
  ⟨f.1, f.2.1, f.2.2.1, f.2.2.2.1, f.2.2.2.2.1, fun q hq => by
    rw [← f.2.2.2.2.2 q hq]
    have : q ≠ a := fun e => hq (e ▸ ha)
    funext j
    rw [r_J]; simp [this]⟩
theorem Fx.R {A : Nat → Prop} {h h1 : Hp} (f : Fx A h h1) (a i : Nat) : hR h1 a i = hR h a i := by rw [f.2.2.2.1]
theorem Fx.N {A : Nat → Prop} {h h1 : Hp} (f : Fx A h h1) (a : Nat) : hN h1 a = hN h a := by rw [f.2.2.1]
theorem Fx.I {A : Nat → Prop} {h h1 : Hp} (f : Fx A h h1) {a : Nat} (ha : ¬ A a) : hI h1 a = hI h a := f.2.2.2.2.1 a ha
def TX (h : Hp) (t tb N : Nat) : Prop := hR h t 0 = some tb ∧ hI h t 1 = nI N ∧ N ≤ hN h tb ∧ hN h tb ≤ 100000
def bt (B : Nat → Int32) (N i : Nat) : Int32 := if i < N then B i else -1
theorem c_byteAt {h : Hp} {t tb N : Nat} (T : TX h t tb N) {i : Nat} (hi : i < 2 ^ 31) : sX9_byteAt h t (nI i) = some (bt (hI h tb) N i, h) := by
  obtain ⟨h1, h2, h3, h4⟩ := T
  have hN31 : N < 2 ^ 31 := by omega
  unfold sX9_byteAt sX9_byteAt_21 sX9_byteAt_22 bt
  rw [br_neg (z_nneg hi), h2, h1, cl_some]
  by_cases e : N ≤ i
  · rw [br_pos (by rw [z_le hN31 hi]; exact e), if_neg (by omega)]
  · rw [br_neg (by rw [z_le hN31 hi]; exact e), if_pos (by omega), gd_pos (by rw [z_inB hi]; omega), z_clamp hi]

theorem m_br {α β : Type} {c : Prop} [Decidable c] (f : α → β) (a b : Option α) : (br c a b).map f = br c (a.map f) (b.map f) := by
  unfold br; split <;> rfl
theorem m_gd {α β : Type} {c : Prop} [Decidable c] (f : α → β) (a : Option α) : (gd c a).map f = gd c (a.map f) := by
  unfold gd; split <;> rfl
theorem m_nm {γ α β : Type} (f : α → β) (x : γ) (k : γ → Option α) : (nm x k).map f = nm x (fun a => (k a).map f) := id rfl
theorem m_cl {γ α β : Type} (f : α → β) (x : Option γ) (k : γ → Option α) : (cl x k).map f = cl x (fun a => (k a).map f) := by
  cases x <;> rfl
theorem cl_m {γ α β : Type} (g : γ → α) (x : Option γ) (k : α → Option β) : cl (x.map g) k = cl x (fun a => k (g a)) := by
  cases x <;> rfl

def lnC : Nat → Nat
  | 1 => 12
  | 2 => 96
  | 3 => 12
  | 4 => 72
  | 5 => 12
  | 6 => 64
  | 7 => 64
  | _ => 0
