/-! slots by their keys, told by equations -/
theorem sat_e {α : Type} {Z : α → Prop} {m : Option α} {o : α} (S : Sat m Z) (e : m = some o) : Z o := by
  obtain ⟨b, e1, z⟩ := S
  rw [e1] at e
  exact (Option.some.inj e) ▸ z
def hsK (key : Int32) : Int32 := (((key ^^^ ((key.toUInt32 >>> ((13 : Int32).toUInt32 &&& Int32.toUInt32 31)).toInt32)) * (-1640531535 : Int32)).toUInt32 >>> ((18 : Int32).toUInt32 &&& Int32.toUInt32 31)).toInt32
def sl (key : Int32) (m : Nat) : Nat := ((hsK key).toNatClampNeg + m) % 16384
/-- a key is found -/
def Fnd (rs rk : Nat) (key : Int32) (h : Hp) : Prop := ∃ m, (∀ m', m' < m → 0 < (hI h rs (sl key m')).toInt) ∧ 0 < (hI h rs (sl key m)).toInt ∧ hI h rk (sl key m) = key
section
variable {x0 rs rk F : Nat} {h : Hp} {key : Int32}
theorem slot_q (er : hR h x0 56 = some rs) (e4 : hR h x0 55 = some rk) {o : Int32 × Hp} (e : sX15_slotOf F h x0 key = some o) : o.2 = h ∧ 0 ≤ o.1.toInt ∧ ∃ m, o.1.toNatClampNeg = sl key m ∧ (∀ m', m' < m → 0 < (hI h rs (sl key m')).toInt ∧ ¬ hI h rk (sl key m') = key) ∧ (¬ 0 < (hI h rs (sl key m)).toInt ∨ hI h rk (sl key m) = key) := by
  have lp : ∀ (f : Nat) {x2 : Int32} {m0 : Nat}, Rg 0 16383 x2 → x2.toNatClampNeg = sl key m0 → (∀ m', m' < m0 → 0 < (hI h rs (sl key m')).toInt ∧ ¬ hI h rk (sl key m') = key) → sX15_slotOf_14 F f h x0 key x2 = some o → o.2 = h ∧ 0 ≤ o.1.toInt ∧ ∃ m, o.1.toNatClampNeg = sl key m ∧ (∀ m', m' < m → 0 < (hI h rs (sl key m')).toInt ∧ ¬ hI h rk (sl key m') = key) ∧ (¬ 0 < (hI h rs (sl key m)).toInt ∨ hI h rk (sl key m) = key) := by
    intro f
    induction f with
    | zero => intro x2 m0 _ _ _ e; exact absurd e (by simp [sX15_slotOf_14])
    | succ f ih =>
      intro x2 m0 i2 ex A e
      unfold sX15_slotOf_14 sX15_slotOf_44 at e
      simp only [nm] at e
      replace e := cl_s e; obtain ⟨r1, p, e⟩ := e
      have := r_eq er p; subst this
      replace e := (gd_s e).2
      replace e := br_s e; rcases e with ⟨c, e⟩ | ⟨c, e⟩
      · have e := Option.some.inj e; subst e
        have c := le_i c
        have z0 : (0 : Int32).toInt = 0 := rfl
        exact ⟨rfl, i2.1, m0, ex, A, Or.inl (by rw [← ex]; omega)⟩
      have c := nle_i c
      replace e := cl_s e; obtain ⟨r4, p, e⟩ := e
      have := r_eq e4 p; subst this
      replace e := (gd_s e).2
      replace e := br_s e; rcases e with ⟨c2, e⟩ | ⟨c2, e⟩
      · have e := Option.some.inj e; subst e
        exact ⟨rfl, i2.1, m0, ex, A, Or.inr (by rw [← ex]; exact c2)⟩
      have a2 := i2.1
      have b2 := i2.2
      have s1 : (x2 + (1 : Int32)).toInt = x2.toInt + 1 := ta (by show _ ≤ x2.toInt + 1 ∧ x2.toInt + 1 ≤ _; omega)
      have s2 := and14 (x := x2 + (1 : Int32)) ⟨by omega, by omega⟩
      rw [s1] at s2
      have i2' : Rg 0 16383 ((x2 + (1 : Int32)) &&& (16383 : Int32)) := ⟨by omega, by omega⟩
      refine ih (m0 := m0 + 1) i2' ?_ (fun m' hm => ?_) e
      · have k1 := clamp_i i2'.1
        have k2 := clamp_i i2.1
        unfold sl at ex ⊢
        omega
      · by_cases w : m' = m0
        · subst w; rw [← ex]; exact ⟨c, c2⟩
        · exact A m' (by omega)
  unfold sX15_slotOf at e
  simp only [nm] at e
  refine lp F (m0 := 0) (ush18 _) ?_ (fun m' hm => absurd hm (by omega)) e
  have i := ush18 ((key ^^^ ((key.toUInt32 >>> ((13 : Int32).toUInt32 &&& Int32.toUInt32 31)).toInt32)) * (-1640531535 : Int32))
  have := clamp_i i.1
  have := i.2
  unfold sl hsK
  omega
/-- who is found, is found by slotOf -/
theorem slot_fnd (er : hR h x0 56 = some rs) (e4 : hR h x0 55 = some rk) {o : Int32 × Hp} (e : sX15_slotOf F h x0 key = some o) (N : Fnd rs rk key h) : 0 < (hI h rs o.1.toNatClampNeg).toInt := by
  obtain ⟨_, _, m, em, A, alt⟩ := slot_q er e4 e
  obtain ⟨M, B1, B2, B3⟩ := N
  rw [em]
  by_cases w : m < M
  · exact B1 m w
  · by_cases w2 : m = M
    · subst w2; exact B2
    · exact absurd B3 (A M (by omega)).2
theorem find_q (hF : 700000 ≤ F) {a : Nat} {n : Int32} (hn : hN h a = 6) (i1 : Rg 0 6 n) (irs : ∀ j, 0 ≤ (hI h rs j).toInt ∧ (hI h rs j).toInt ≤ 4096) (er : hR h x0 56 = some rs) (e4 : hR h x0 55 = some rk) {o : Int32 × Hp} (e : sX15_findSet F h x0 a n = some o) : o.2 = h ∧ (Fnd rs rk (pkN h a 0 n n.toNatClampNeg) h → 0 ≤ o.1.toInt) ∧ (¬ o.1 = (-1 : Int32) → 0 ≤ o.1.toInt ∧ Fnd rs rk (pkN h a 0 n n.toNatClampNeg) h) := by
  unfold sX15_findSet at e
  replace e := cl_s e; obtain ⟨r1, p, e⟩ := e
  have := r_eq er p; subst this
  replace e := cl_s e; obtain ⟨o2, e2, e⟩ := e
  obtain ⟨w1, w2⟩ := sat_e (packed_q hF hn i1) e2
  rw [w1, w2] at e
  replace e := cl_s e; obtain ⟨o3, e3, e⟩ := e
  have sf := slot_fnd er e4 e3
  obtain ⟨v1, v2, m, em, A, alt⟩ := slot_q er e4 e3
  rw [v1] at e
  replace e := (gd_s e).2
  have e := Option.some.inj e; subst e
  have ir := irs o3.1.toNatClampNeg
  have sb : (hI h r1 o3.1.toNatClampNeg - (1 : Int32)).toInt = (hI h r1 o3.1.toNatClampNeg).toInt - 1 := ts (by show _ ≤ (hI h r1 o3.1.toNatClampNeg).toInt - 1 ∧ (hI h r1 o3.1.toNatClampNeg).toInt - 1 ≤ _; omega)
  refine ⟨rfl, fun N => ?_, fun ne => ?_⟩
  · have := sf N
    show 0 ≤ (hI h r1 o3.1.toNatClampNeg - (1 : Int32)).toInt
    omega
  · have u : 0 < (hI h r1 o3.1.toNatClampNeg).toInt := by
      refine Classical.byContradiction fun z => ne ?_
      apply Int32.toInt_inj.mp
      show (hI h r1 o3.1.toNatClampNeg - (1 : Int32)).toInt = (-1 : Int32).toInt
      rw [sb]
      have : (-1 : Int32).toInt = -1 := rfl
      omega
    refine ⟨by show 0 ≤ (hI h r1 o3.1.toNatClampNeg - (1 : Int32)).toInt; omega, m, fun m' hm => (A m' hm).1, by rw [← em]; exact u, ?_⟩
    rcases alt with z | z
    · rw [← em] at z; exact absurd u z
    · exact z
/-- a slot that is written for its key -/
theorem fnd_w {g : Hp} {m : Nat} {v : Int32} (A : ∀ m', m' < m → 0 < (hI h rs (sl key m')).toInt ∧ ¬ hI h rk (sl key m') = key) (alt : ¬ 0 < (hI h rs (sl key m)).toInt ∨ hI h rk (sl key m) = key) (vp : 0 < v.toInt) (n1 : ¬ rs = rk) (w1 : ∀ j, hI g rk j = if j = sl key m then key else hI h rk j) (w2 : ∀ j, hI g rs j = if j = sl key m then v else hI h rs j) : Fnd rs rk key g ∧ ∀ k2, Fnd rs rk k2 h → Fnd rs rk k2 g := by
  constructor
  · refine ⟨m, fun m' hm => ?_, ?_, ?_⟩
    · rw [w2]; split
      · exact vp
      · exact (A m' hm).1
    · rw [w2, if_pos rfl]; exact vp
    · rw [w1, if_pos rfl]
  · rintro k2 ⟨M, B1, B2, B3⟩
    refine ⟨M, fun m' hm => ?_, ?_, ?_⟩
    · rw [w2]; split
      · exact vp
      · exact B1 m' hm
    · rw [w2]; split
      · exact vp
      · exact B2
    · rw [w1]; split
      · rename_i q
        rcases alt with z | z
        · rw [← q] at z; exact absurd B2 z
        · rw [← q, B3] at z; exact z.symm
      · exact B3
end
