def Fl (m : Nat) (h h' : Hp) : Prop := h'.1 = h.1 ∧ ∀ a, m ≤ a → hK h' a = hK h a ∧ hN h' a = hN h a ∧ hI h' a = hI h a ∧ hJ h' a = hJ h a ∧ hR h' a = hR h a
theorem Fl.rf {m : Nat} (h : Hp) : Fl m h h := ⟨rfl, fun _ _ => ⟨rfl, rfl, rfl, rfl, rfl⟩⟩
theorem Fl.tr {m : Nat} {h h1 h2 : Hp} (a : Fl m h h1) (b : Fl m h1 h2) : Fl m h h2 :=
  ⟨b.1.trans a.1, fun q hq => ⟨(b.2 q hq).1.trans (a.2 q hq).1, (b.2 q hq).2.1.trans (a.2 q hq).2.1, (b.2 q hq).2.2.1.trans (a.2 q hq).2.2.1, (b.2 q hq).2.2.2.1.trans (a.2 q hq).2.2.2.1, (b.2 q hq).2.2.2.2.trans (a.2 q hq).2.2.2.2⟩⟩
theorem Fl.wI {m a : Nat} (ha : a < m) (h : Hp) (i : Nat) (v : Int32) : Fl m h (wI h a i v) :=
  ⟨rfl, fun q hq => ⟨rfl, rfl, by rw [wI_I, if_neg (by omega)], rfl, rfl⟩⟩
theorem Fl.wJ {m a : Nat} (ha : a < m) (h : Hp) (i : Nat) (v : Int64) : Fl m h (wJ h a i v) :=
  ⟨rfl, fun q hq => ⟨rfl, rfl, rfl, by rw [wJ_J, if_neg (by omega)], rfl⟩⟩
theorem Fl.wR {m a : Nat} (ha : a < m) (h : Hp) (i : Nat) (v : Option Nat) : Fl m h (wR h a i v) :=
  ⟨rfl, fun q hq => ⟨rfl, rfl, rfl, rfl, by rw [wR_R, if_neg (by omega)]⟩⟩
theorem Fl.fx {m : Nat} {A : Nat → Prop} {h h1 : Hp} (f : Fx A h h1) (ha : ∀ a, A a → a < m) : Fl m h h1 :=
  ⟨f.1, fun q hq => by
    have n : ¬ A q := fun x => Nat.not_le.mpr (ha q x) hq
    exact ⟨congrFun f.2.1 q, congrFun f.2.2.1 q, f.2.2.2.2.1 q n, f.2.2.2.2.2 q n, congrFun f.2.2.2.1 q⟩⟩
def MF (v : Hp) (m : Nat) (r : Qs) : Prop := ckB r = true ∧ ∃ u, hS u = m ∧ v = rel u r
theorem MF.fl {v v' : Hp} {m : Nat} {r : Qs} (M : MF v m r) (f : Fl m v v') : MF v' m r := by
  obtain ⟨h0, u, hu, e⟩ := M
  refine ⟨h0, ((hS u, hL u), hK v', hN v', hI v', hJ v', hR v'), hu, ?_⟩
  apply rel_of
  · rw [f.1, e]; rfl
  · intro b hb; exact ⟨rfl, rfl, rfl, rfl, rfl⟩
  · intro a
    obtain ⟨k1, k2, k3, k4, k5⟩ := f.2 (hS u + a) (by omega)
    obtain ⟨j1, j2, j3, j4, j5⟩ := rel_hi u r a
    rw [e] at k1 k2 k3 k4 k5
    exact ⟨k1.trans j1, k2.trans j2, k3.trans j3, k4.trans j4, k5.trans j5⟩
theorem ckB_all {r : Qs} (h : ckB r = true) : r.1 = (97, 1023333) ∧ ckR r rB = true ∧ ckN r nB = true ∧ ckI r iB = true ∧ ((List.range 60).all fun i => decide (cI r 24 i = 0)) = true ∧ ((List.range 8).all fun i => decide (cI r 69 i = -1)) = true := by
  unfold ckB at h
  simp only [Bool.and_eq_true, decide_eq_true_eq] at h
  exact h
theorem ckB_1 {r : Qs} (h : ckB r = true) : r.1 = (97, 1023333) := (ckB_all h).1
theorem ckB_R {r : Qs} (h : ckB r = true) : ckR r rB = true := (ckB_all h).2.1
theorem ckB_N {r : Qs} (h : ckB r = true) : ckN r nB = true := (ckB_all h).2.2.1
theorem ckB_I {r : Qs} (h : ckB r = true) : ckI r iB = true := (ckB_all h).2.2.2.1
theorem ckB_z {r : Qs} (h : ckB r = true) {i : Nat} (hi : i < 60) : cI r 24 i = 0 := of_decide_eq_true (List.all_eq_true.mp (ckB_all h).2.2.2.2.1 i (List.mem_range.mpr hi))
theorem ckB_p {r : Qs} (h : ckB r = true) {i : Nat} (hi : i < 8) : cI r 69 i = -1 := of_decide_eq_true (List.all_eq_true.mp (ckB_all h).2.2.2.2.2 i (List.mem_range.mpr hi))
theorem ckA_all {q : Qs} (h : ckA q = true) : q.1 = (513, 522076) ∧ ckR q rA = true ∧ ckN q nA = true ∧ ckI q iA = true ∧ ((List.range 60).all fun i => decide (cI q 149 i = 0)) = true ∧ ((List.range 8).all fun i => decide (cI q 152 i = -1)) = true ∧ ((List.range 512).all fun i => decide (cI q 29 i = 0)) = true ∧ ¬ (cI q 7 42 &&& 32 = 0) ∧ q.2.length = 9 ∧ (lget [] q.2 8).length = 1 ∧ (lget [] (lget [] q.2 8) 0).length = 1 := by
  unfold ckA at h
  simp only [Bool.and_eq_true, decide_eq_true_eq] at h
  exact h
theorem ckA_1 {q : Qs} (h : ckA q = true) : q.1 = (513, 522076) := (ckA_all h).1
theorem ckA_R {q : Qs} (h : ckA q = true) : ckR q rA = true := (ckA_all h).2.1
theorem ckA_N {q : Qs} (h : ckA q = true) : ckN q nA = true := (ckA_all h).2.2.1
theorem ckA_I {q : Qs} (h : ckA q = true) : ckI q iA = true := (ckA_all h).2.2.2.1
theorem ckA_z {q : Qs} (h : ckA q = true) {i : Nat} (hi : i < 60) : cI q 149 i = 0 := of_decide_eq_true (List.all_eq_true.mp (ckA_all h).2.2.2.2.1 i (List.mem_range.mpr hi))
theorem ckA_p {q : Qs} (h : ckA q = true) {i : Nat} (hi : i < 8) : cI q 152 i = -1 := of_decide_eq_true (List.all_eq_true.mp (ckA_all h).2.2.2.2.2.1 i (List.mem_range.mpr hi))
theorem ckA_t {q : Qs} (h : ckA q = true) {i : Nat} (hi : i < 512) : cI q 29 i = 0 := of_decide_eq_true (List.all_eq_true.mp (ckA_all h).2.2.2.2.2.2.1 i (List.mem_range.mpr hi))
theorem ckA_c {q : Qs} (h : ckA q = true) : ¬ (cI q 7 42 &&& 32 = 0) := (ckA_all h).2.2.2.2.2.2.2.1
theorem lget_ge {α : Type} (d : α) : ∀ (l : List α) (k : Nat), l.length ≤ k → lget d l k = d
  | [], _, _ => rfl
  | _ :: xs, 0, h => by simp at h
  | _ :: xs, k + 1, h => lget_ge d xs k (by simpa using h)
theorem top_q {q : Qs} (h : ckA q = true) {a : Nat} (ha : 513 ≤ a) : cg q a = cd := by
  obtain ⟨h1, h2, h3⟩ := (ckA_all h).2.2.2.2.2.2.2.2
  unfold cg
  by_cases c1 : 9 ≤ a / 64
  · rw [lget_ge [] q.2 (a / 64) (by omega)]
    rfl
  · have e1 : a / 64 = 8 := by omega
    rw [e1]
    by_cases c2 : 1 ≤ a / 8 % 8
    · rw [lget_ge [] (lget [] q.2 8) (a / 8 % 8) (by omega)]
      rfl
    · have e2 : a / 8 % 8 = 0 := by omega
      rw [e2]
      exact lget_ge cd _ _ (by omega)
theorem ckR_e {q : Qs} {l : List (Nat × Nat × Nat)} (h : ckR q l = true) {a i b : Nat} (hm : (a, i, b) ∈ l) : cR q a i = some b := of_decide_eq_true (List.all_eq_true.mp h _ hm)
theorem ckN_e {q : Qs} {l : List (Nat × Nat)} (h : ckN q l = true) {a n : Nat} (hm : (a, n) ∈ l) : cN q a = n := of_decide_eq_true (List.all_eq_true.mp h _ hm)
theorem ckI_e {q : Qs} {l : List (Nat × Nat × Int32)} (h : ckI q l = true) {a i : Nat} {v : Int32} (hm : (a, i, v) ∈ l) : cI q a i = v := of_decide_eq_true (List.all_eq_true.mp h _ hm)
section
variable {v : Hp} {m : Nat} {r : Qs}
theorem mR (M : MF v m r) {a i b : Nat} (hm : (a, i, b) ∈ rB) : hR v (m + a) i = some (m + b) := by
  obtain ⟨h0, u, rfl, rfl⟩ := M
  rw [l_R, ckR_e (ckB_R h0) hm]; rfl
theorem mR0 (M : MF v m r) {i b : Nat} (hm : (0, i, b) ∈ rB) : hR v m i = some (m + b) := mR M hm
theorem mN (M : MF v m r) {a n : Nat} (hm : (a, n) ∈ nB) : hN v (m + a) = n := by
  obtain ⟨h0, u, rfl, rfl⟩ := M
  rw [l_N, ckN_e (ckB_N h0) hm]
theorem mI (M : MF v m r) {a i : Nat} {k : Int32} (hm : (a, i, k) ∈ iB) : hI v (m + a) i = k := by
  obtain ⟨h0, u, rfl, rfl⟩ := M
  rw [l_I, ckI_e (ckB_I h0) hm]
theorem mI0 (M : MF v m r) {i : Nat} {k : Int32} (hm : (0, i, k) ∈ iB) : hI v m i = k := mI M hm
theorem mZ (M : MF v m r) {i : Nat} (hi : i < 60) : hI v (m + 24) i = 0 := by
  obtain ⟨h0, u, rfl, rfl⟩ := M
  rw [l_I, ckB_z h0 hi]
theorem mP (M : MF v m r) {i : Nat} (hi : i < 8) : hI v (m + 69) i = -1 := by
  obtain ⟨h0, u, rfl, rfl⟩ := M
  rw [l_I, ckB_p h0 hi]
end
def wz (a : Nat) : Prop := 22 ≤ a ∧ a ≤ 29
def CF (v : Hp) (x : Nat) (q : Qs) : Prop := ckA q = true ∧ (∀ a, a < 513 → ¬ (22 ≤ a ∧ a ≤ 29) → a ≠ 1 → hI v (x + a) = cI q a) ∧ hI v (x + 1) 1 = 0 ∧ (∀ a, a < 513 → hN v (x + a) = cN q a) ∧ ∀ a i, a < 513 → ¬ (a = 22 ∧ i = 7) → hR v (x + a) i = (cR q a i).map (x + ·)
theorem rA_ok : ∀ y ∈ rA, y.1 < 513 ∧ ¬ (y.1 = 22 ∧ y.2.1 = 7) := by decide
theorem nA_ok : ∀ y ∈ nA, y.1 < 513 := by decide
theorem iA_ok : ∀ y ∈ iA, y.1 < 513 ∧ ¬ (22 ≤ y.1 ∧ y.1 ≤ 29) ∧ y.1 ≠ 1 := by decide
section
variable {v : Hp} {x : Nat} {q : Qs}
theorem xR (C : CF v x q) {a i b : Nat} (hm : (a, i, b) ∈ rA) : hR v (x + a) i = some (x + b) := by
  rw [C.2.2.2.2 a i (rA_ok _ hm).1 (rA_ok _ hm).2, ckR_e (ckA_R C.1) hm]; rfl
theorem xR0 (C : CF v x q) {i b : Nat} (hm : (0, i, b) ∈ rA) : hR v x i = some (x + b) := xR C hm
theorem xN (C : CF v x q) {a n : Nat} (hm : (a, n) ∈ nA) : hN v (x + a) = n := by
  rw [C.2.2.2.1 a (nA_ok _ hm), ckN_e (ckA_N C.1) hm]
theorem xI (C : CF v x q) {a i : Nat} {k : Int32} (hm : (a, i, k) ∈ iA) : hI v (x + a) i = k := by
  rw [C.2.1 a (iA_ok _ hm).1 (iA_ok _ hm).2.1 (iA_ok _ hm).2.2, ckI_e (ckA_I C.1) hm]
theorem xZ (C : CF v x q) {i : Nat} (hi : i < 60) : hI v (x + 149) i = 0 := by
  rw [C.2.1 149 (by decide) (by decide) (by decide), ckA_z C.1 hi]
theorem xP (C : CF v x q) {i : Nat} (hi : i < 8) : hI v (x + 152) i = -1 := by
  rw [C.2.1 152 (by decide) (by decide) (by decide), ckA_p C.1 hi]
theorem xC (C : CF v x q) : ¬ (hI v (x + 7) 42 &&& 32 = 0) := by
  rw [C.2.1 7 (by decide) (by decide) (by decide)]; exact ckA_c C.1
theorem xT (C : CF v x q) : hI v (x + 1) 1 = 0 := C.2.2.1
end
theorem i_lt {a b : Int32} : a < b ↔ ¬ b ≤ a := by
  rw [Int32.lt_iff_toInt_lt, Int32.le_iff_toInt_le]; omega
theorem i_le {a b : Int32} : a ≤ b ↔ ¬ b < a := by
  rw [Int32.lt_iff_toInt_lt, Int32.le_iff_toInt_le]; omega
theorem rng (N : Nat) (hN : N < 2 ^ 31) (p : Int32) : p < 0 ∨ (¬ p < 0 ∧ nI N ≤ p) ∨ ∃ k, k < N ∧ p = nI k := by
  by_cases c1 : p < 0
  · exact .inl c1
  · obtain ⟨e, b⟩ := z_nI c1
    by_cases c2 : nI N ≤ p
    · exact .inr (.inl ⟨c1, c2⟩)
    · refine .inr (.inr ⟨p.toNatClampNeg, ?_, e⟩)
      rw [e, z_le hN b] at c2
      omega
theorem sd01 (s : Int32) : s = 0 ∨ s = 1 ∨ (¬ s = 0 ∧ ¬ s = 1 ∧ (s < 0 ∨ 1 < s)) := by
  by_cases h0 : s = 0
  · exact .inl h0
  · by_cases h1 : s = 1
    · exact .inr (.inl h1)
    · refine .inr (.inr ⟨h0, h1, ?_⟩)
      rw [← Int32.toInt_inj, show (0 : Int32).toInt = 0 from rfl] at h0
      rw [← Int32.toInt_inj, show (1 : Int32).toInt = 1 from rfl] at h1
      rw [Int32.lt_iff_toInt_lt, Int32.lt_iff_toInt_lt, show (0 : Int32).toInt = 0 from rfl, show (1 : Int32).toInt = 1 from rfl]
      omega
