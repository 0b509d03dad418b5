/-! the class's total never falls -/
section
variable {h o : Hp} {x ks pw L bm bc F : Nat} {x1 key slot : Int32}
theorem sizeOf_h : ∀ (f : Nat) {a : Int32} {q : Int32 × Hp}, 0 ≤ a.toInt → a.toInt ≤ 5 → sX0_sizeOf_2 F f h x1 a = some q → q.2 = h ∧ 0 ≤ q.1.toInt ∧ q.1.toInt ≤ 5 := by
  have z1 : (1 : Int32).toInt = 1 := rfl
  have z5 : (5 : Int32).toInt = 5 := rfl
  intro f
  induction f with
  | zero => intro a q _ _ e; exact absurd e (by rw [sX0_sizeOf_2]; exact fun z => nomatch z)
  | succ f ih =>
    intro a q a0 a5 e
    rw [sX0_sizeOf_2] at e
    unfold sX0_sizeOf_22 at e
    replace e := br_s e
    rcases e with ⟨_, e⟩ | ⟨l, e⟩
    · rw [← Option.some.inj e]; exact ⟨rfl, a0, a5⟩
    have l := nle_i l
    rw [z5] at l
    replace e := cl_s e
    obtain ⟨o2, e2, e⟩ := e
    unfold sX0_codeIn at e2
    have w2 : o2.2 = h := by rw [← Option.some.inj e2]
    replace e := br_s e
    rcases e with ⟨_, e⟩ | ⟨_, e⟩
    · rw [← Option.some.inj e]; exact ⟨w2, a0, a5⟩
    replace e := nm_s e
    obtain ⟨v, wv, e⟩ := e
    rw [w2] at e
    have tv : v.toInt = a.toInt + 1 := by rw [wv, ta (by rw [z1]; omega), z1]
    exact ih (by omega) (by omega) e
theorem with_h {a : Int32} : ∀ (f : Nat) {s : Int32} {q : Int32 × Hp}, sX0_with_2 F f h x1 a s = some q → q.2 = h := by
  intro f
  induction f with
  | zero => intro s q e; exact absurd e (by rw [sX0_with_2]; exact fun z => nomatch z)
  | succ f ih =>
    intro s q e
    rw [sX0_with_2] at e
    have b : sX0_with_35 F h x1 a s = some q → q.2 = h := fun e => by
      unfold sX0_with_35 at e
      replace e := nm_s e
      obtain ⟨v, _, e⟩ := e
      rw [← Option.some.inj e]
    replace e := br_s e
    rcases e with ⟨_, e⟩ | ⟨_, e⟩
    · exact b e
    replace e := br_s e
    rcases e with ⟨_, e⟩ | ⟨_, e⟩
    · exact b e
    replace e := br_s e
    rcases e with ⟨_, e⟩ | ⟨_, e⟩
    · exact b e
    replace e := nm_s e
    obtain ⟨v, _, e⟩ := e
    exact ih e
theorem without_h {a : Int32} {q : Int32 × Hp} (e : sX0_without h x1 a = some q) : q.2 = h := by
  unfold sX0_without at e
  replace e := nm_s e
  obtain ⟨v, _, e⟩ := e
  rw [← Option.some.inj e]
/-- what the class must have for it -/
def CM (x ks pw L bc : Nat) (h : Hp) : Prop := (hR h x 4 = some ks ∧ hR h x 6 = some pw ∧ hR h x 0 = some L ∧ hR h L 18 = some bc) ∧ (¬ x = ks ∧ ¬ pw = x ∧ ¬ pw = ks ∧ ¬ bc = x ∧ ¬ bc = ks) ∧ (∀ i, Rg 0 1073741824 (hI h pw i)) ∧ ∀ i, (hI h bc i).toInt ≤ 6
theorem cm_k {g : Hp} (C : CM x ks pw L bc h) (R : ∀ a i, hR g a i = hR h a i) (I : ∀ a i, ¬ a = x → ¬ a = ks → hI g a i = hI h a i) : CM x ks pw L bc g := by
  obtain ⟨⟨e1, e2, e3, e4⟩, n, p, b⟩ := C
  exact ⟨⟨by rw [R]; exact e1, by rw [R]; exact e2, by rw [R]; exact e3, by rw [R]; exact e4⟩, n, fun i => by rw [I pw i n.2.1 n.2.2.1]; exact p i, fun i => by rw [I bc i n.2.2.2.1 n.2.2.2.2]; exact b i⟩
/-- addSet -/
theorem cadd_m (C : CM x ks pw L bc h) (t0 : 0 ≤ (hJ h x 18).toInt) (tb : (hJ h x 18).toInt ≤ 1000000000000) (e : sX0_addSet F h x x1 = some o) : CM x ks pw L bc o ∧ (hJ h x 18).toInt ≤ (hJ o x 18).toInt ∧ (hJ o x 18).toInt ≤ (hJ h x 18).toInt + 2147483648 := by
  obtain ⟨⟨e4, e6, _, _⟩, ⟨n1, n2, n3, n4, n5⟩, pp, bb⟩ := id C
  have lp : ∀ (f : Nat) {x2 : Int32}, sX0_addSet_2 F f h x x1 x2 = some o → CM x ks pw L bc o ∧ (hJ h x 18).toInt ≤ (hJ o x 18).toInt ∧ (hJ o x 18).toInt ≤ (hJ h x 18).toInt + 2147483648 := by
    intro f
    induction f with
    | zero => intro x2 e; exact absurd e (by rw [sX0_addSet_2]; exact fun z => nomatch z)
    | succ f ih =>
      intro x2 e
      rw [sX0_addSet_2] at e
      unfold sX0_addSet_91 at e
      replace e := br_s e
      rcases e with ⟨_, e⟩ | ⟨_, e⟩
      · replace e := cl_s e
        obtain ⟨r2, er2, e⟩ := e
        rw [r_eq e6 er2] at e
        replace e := cl_s e
        obtain ⟨o3, e3, e⟩ := e
        unfold sX0_sizeOf at e3
        obtain ⟨w3, _, _⟩ := sizeOf_h F (by decide) (by decide) e3
        rw [w3] at e
        replace e := (gd_s e).2
        replace e := nm_s e
        obtain ⟨h5, w5, e⟩ := e
        have p0 := (pp o3.1.toNatClampNeg).1
        have p1 := (pp o3.1.toNatClampNeg).2
        have ep : ((2 : Int64) * ((hI h pw o3.1.toNatClampNeg).toInt64)).toInt = 2 * (hI h pw o3.1.toNatClampNeg).toInt := by
          have e : ((hI h pw o3.1.toNatClampNeg).toInt64).toInt = (hI h pw o3.1.toNatClampNeg).toInt := Int32.toInt_toInt64 _
          have z2 : (2 : Int64).toInt = 2 := rfl
          rw [tm64 (by rw [e, z2]; omega) (by rw [e, z2]; omega), e, z2]
        have et : ((hJ h x 18) + ((2 : Int64) * ((hI h pw o3.1.toNatClampNeg).toInt64))).toInt = (hJ h x 18).toInt + 2 * (hI h pw o3.1.toNatClampNeg).toInt := by
          rw [ta64 (by rw [ep]; omega) (by rw [ep]; omega), ep]
        have j5 : (hJ h5 x 18).toInt = (hJ h x 18).toInt + 2 * (hI h pw o3.1.toNatClampNeg).toInt := by rw [w5, r_J, if_pos ⟨rfl, rfl⟩, et]
        have C5 : CM x ks pw L bc h5 := cm_k C (fun a i => by rw [w5]; rfl) (fun a i _ _ => by rw [w5]; rfl)
        replace e := br_s e
        rcases e with ⟨_, e⟩ | ⟨_, e⟩
        · rw [← Option.some.inj e]; exact ⟨C5, by omega, by omega⟩
        replace e := br_s e
        rcases e with ⟨_, e⟩ | ⟨_, e⟩
        · rw [← Option.some.inj e]; exact ⟨C5, by omega, by omega⟩
        replace e := cl_s e
        obtain ⟨r8, er8, e⟩ := e
        have y8 : r8 = ks := r_eq C5.1.1 er8
        rw [y8] at e
        replace e := (gd_s e).2
        replace e := nm_s e
        obtain ⟨h10, w10, e⟩ := e
        replace e := nm_s e
        obtain ⟨h11, w11, e⟩ := e
        rw [← Option.some.inj e]
        refine ⟨cm_k C5 (fun a i => by rw [w11, w10]; rfl) (fun a i a1 a2 => by rw [w11, rI_a a1, w10, rI_a a2]), ?_⟩
        have : hJ h11 x 18 = hJ h5 x 18 := by rw [w11, w10]; rfl
        rw [this]
        omega
      · replace e := cl_s e
        obtain ⟨r12, er12, e⟩ := e
        replace e := (gd_s e).2
        replace e := br_s e
        rcases e with ⟨_, e⟩ | ⟨_, e⟩
        · rw [← Option.some.inj e]; exact ⟨C, Int.le_refl _, by omega⟩
        replace e := nm_s e
        obtain ⟨v, _, e⟩ := e
        exact ih e
  unfold sX0_addSet at e
  exact lp F e
theorem mono_52 {k2 : Hp → Nat → Int32 → Int32 → Option Hp} {x3 x4 x5 : Int32} {s : Int} (R : ∀ {g : Hp}, CM x ks pw L bc g → 0 ≤ (hJ g x 18).toInt → (hJ g x 18).toInt ≤ 1000000000000 - 15100000000 * (4 - s) → k2 g x key (slot + (1 : Int32)) = some o → (hJ g x 18).toInt ≤ (hJ o x 18).toInt) : ∀ (f : Nat) {h : Hp} {x6 : Int32}, CM x ks pw L bc h → 0 ≤ x6.toInt → x6.toInt ≤ 6 → s ≤ 4 → 0 ≤ (hJ h x 18).toInt → (hJ h x 18).toInt ≤ 1000000000000 - 15100000000 * (4 - s) - 2147483648 * (6 - x6.toInt) → sX0_addSetsOf_52 F k2 f h x key slot x3 x4 x5 x6 = some o → (hJ h x 18).toInt ≤ (hJ o x 18).toInt := by
  have z1 : (1 : Int32).toInt = 1 := rfl
  intro f
  induction f with
  | zero => intro h x6 _ _ _ _ _ _ e; exact absurd e (by rw [sX0_addSetsOf_52]; exact fun z => nomatch z)
  | succ f ih =>
    intro h x6 C a6 b6 s4 t0 tb e
    rw [sX0_addSetsOf_52] at e
    unfold sX0_addSetsOf_104 at e
    replace e := cl_s e
    obtain ⟨r1, er1, e⟩ := e
    rw [r_eq C.1.2.2.1 er1] at e
    replace e := cl_s e
    obtain ⟨r2, er2, e⟩ := e
    rw [r_eq C.1.2.2.2 er2] at e
    replace e := (gd_s e).2
    replace e := br_s e
    rcases e with ⟨_, e⟩ | ⟨l, e⟩
    · replace e := nm_s e
      obtain ⟨v, wv, e⟩ := e
      rw [wv] at e
      exact R C t0 (by omega) e
    have l := nle_i l
    have b5 := C.2.2.2 x4.toNatClampNeg
    replace e := cl_s e
    obtain ⟨r5, er5, e⟩ := e
    replace e := cl_s e
    obtain ⟨r6, er6, e⟩ := e
    replace e := (gd_s e).2
    replace e := cl_s e
    obtain ⟨o8, e8, e⟩ := e
    unfold sX0_with at e8
    rw [with_h F e8] at e
    replace e := cl_s e
    obtain ⟨o9, e9, e⟩ := e
    obtain ⟨C9, m1, m2⟩ := cadd_m C t0 (by omega) e9
    replace e := nm_s e
    obtain ⟨v, wv, e⟩ := e
    have tv : v.toInt = x6.toInt + 1 := by rw [wv, ta (by rw [z1]; omega), z1]
    have := ih C9 (by omega) (by omega) s4 (by omega) (by omega) e
    omega
theorem mono_2 : ∀ (f : Nat) {h : Hp} {slot : Int32}, CM x ks pw L bc h → 0 ≤ slot.toInt → slot.toInt ≤ 5 → 0 ≤ (hJ h x 18).toInt → (hJ h x 18).toInt ≤ 1000000000000 - 15100000000 * (5 - slot.toInt) → sX0_addSetsOf_2 F f h x key slot = some o → (hJ h x 18).toInt ≤ (hJ o x 18).toInt := by
  have z1 : (1 : Int32).toInt = 1 := rfl
  intro f
  induction f with
  | zero => intro h slot _ _ _ _ _ e; exact absurd e (by rw [sX0_addSetsOf_2]; exact fun z => nomatch z)
  | succ f ih =>
    intro h slot C a5 b5 t0 tb e
    rw [sX0_addSetsOf_2] at e
    unfold sX0_addSetsOf_104 at e
    replace e := cl_s e
    obtain ⟨o1, e1, e⟩ := e
    unfold sX0_sizeOf at e1
    obtain ⟨w1, _, s5⟩ := sizeOf_h F (by decide) (by decide) e1
    rw [w1] at e
    replace e := br_s e
    rcases e with ⟨_, e⟩ | ⟨l, e⟩
    · rw [← Option.some.inj e]; exact Int.le_refl _
    have l := nle_i l
    have nx : ∀ {g : Hp}, CM x ks pw L bc g → 0 ≤ (hJ g x 18).toInt → (hJ g x 18).toInt ≤ 1000000000000 - 15100000000 * (4 - slot.toInt) → sX0_addSetsOf_2 F f g x key (slot + (1 : Int32)) = some o → (hJ g x 18).toInt ≤ (hJ o x 18).toInt := fun {g} Cg g0 gb e => by
      have tv : (slot + (1 : Int32)).toInt = slot.toInt + 1 := by rw [ta (by rw [z1]; omega), z1]
      exact ih Cg (by omega) (by omega) g0 (by omega) e
    replace e := cl_s e
    obtain ⟨o3, e3, e⟩ := e
    unfold sX0_codeIn at e3
    have w3 : o3.2 = h := by rw [← Option.some.inj e3]
    rw [w3] at e
    replace e := nm_s e
    obtain ⟨v4, wv4, e⟩ := e
    replace e := cl_s e
    obtain ⟨r5, er5, e⟩ := e
    replace e := br_s e
    rcases e with ⟨_, e⟩ | ⟨_, e⟩
    · replace e := nm_s e
      obtain ⟨v, wv, e⟩ := e
      rw [wv] at e
      exact nx C t0 (by omega) e
    replace e := cl_s e
    obtain ⟨o7, e7, e⟩ := e
    rw [without_h e7] at e
    replace e := cl_s e
    obtain ⟨o8, e8, e⟩ := e
    obtain ⟨C8, m1, m2⟩ := cadd_m C t0 (by omega) e8
    have := mono_52 (s := slot.toInt) (fun Cg g0 gb e => nx Cg g0 gb e) F C8 (by decide) (by decide) (by omega) (by omega) (by have : (0 : Int32).toInt = 0 := rfl; rw [this]; omega) e
    omega
end
