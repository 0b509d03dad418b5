/-! both readings from their beginning -/
def BF (L a b : Nat) (h o : Hp) : Prop := ((∀ x i, hR o x i = hR h x i) ∧ ∀ x i, hJ o x i = hJ h x i) ∧ ∀ x i, ¬ (x = L ∧ i = 2) → ¬ x = a → ¬ x = b → hI o x i = hI h x i
theorem bf_t {L a b : Nat} {h g o : Hp} (A : BF L a b h g) (B : BF L a b g o) : BF L a b h o := ⟨⟨fun x i => by rw [B.1.1, A.1.1], fun x i => by rw [B.1.2, A.1.2]⟩, fun x i n1 n2 n3 => by rw [B.2 x i n1 n2 n3, A.2 x i n1 n2 n3]⟩
theorem bf_r {L a b : Nat} {h : Hp} : BF L a b h h := ⟨⟨fun _ _ => rfl, fun _ _ => rfl⟩, fun _ _ _ _ _ => rfl⟩
section
variable {L a b F : Nat}
theorem sbf_28 {x3 : Int32} {K : Hp → Nat → Int32 → Option Hp} (R : ∀ {h o : Hp} {v : Int32}, hR h L 19 = some a → hR h L 20 = some b → K h L v = some o → BF L a b h o) : ∀ (f : Nat) {h o : Hp} {x4 : Int32}, hR h L 19 = some a → hR h L 20 = some b → sX1_setBoard_28 F K f h L x3 x4 = some o → BF L a b h o := by
  intro f
  induction f with
  | zero => intro h o x4 _ _ e; exact absurd e (by rw [sX1_setBoard_28]; exact fun z => nomatch z)
  | succ f ih =>
    intro h o x4 ra rb e
    rw [sX1_setBoard_28] at e
    unfold sX1_setBoard_83 at e
    replace e := br_s e
    rcases e with ⟨_, e⟩ | ⟨_, e⟩
    · replace e := nm_s e
      obtain ⟨v, _, e⟩ := e
      exact R ra rb e
    replace e := br_s e
    rcases e with ⟨_, e⟩ | ⟨_, e⟩
    · replace e := nm_s e
      obtain ⟨v, _, e⟩ := e
      exact R ra rb e
    replace e := cl_s e
    obtain ⟨r3, e3, e⟩ := e
    have y3 : r3 = a := r_eq ra e3
    replace e := (gd_s e).2
    replace e := nm_s e
    obtain ⟨h5, w5, e⟩ := e
    replace e := cl_s e
    obtain ⟨r6, e6, e⟩ := e
    have y6 : r6 = b := r_eq (by rw [w5]; exact rb) e6
    replace e := (gd_s e).2
    replace e := nm_s e
    obtain ⟨h8, w8, e⟩ := e
    replace e := nm_s e
    obtain ⟨h9, w9, e⟩ := e
    replace e := nm_s e
    obtain ⟨v, _, e⟩ := e
    have A : BF L a b h h9 := by
      refine ⟨⟨fun x i => by rw [w9, w8, w5]; rfl, fun x i => by rw [w9, w8, w5]; rfl⟩, fun x i n1 n2 n3 => ?_⟩
      rw [w9, r_I, if_neg n1, w8, rI_a (by rw [y6]; exact n3), w5, rI_a (by rw [y3]; exact n2)]
    exact bf_t A (ih (by rw [A.1.1]; exact ra) (by rw [A.1.1]; exact rb) e)
theorem sbf_17 : ∀ (f : Nat) {h o : Hp} {x3 : Int32}, hR h L 19 = some a → hR h L 20 = some b → sX1_setBoard_17 F f h L x3 = some o → BF L a b h o := by
  intro f
  induction f with
  | zero => intro h o x3 _ _ e; exact absurd e (by rw [sX1_setBoard_17]; exact fun z => nomatch z)
  | succ f ih =>
    intro h o x3 ra rb e
    rw [sX1_setBoard_17] at e
    replace e := br_s e
    rcases e with ⟨_, e⟩ | ⟨_, e⟩
    · rw [← Option.some.inj e]; exact bf_r
    · exact sbf_28 (fun ra rb e => ih ra rb e) F ra rb e
/-- a board laid: all else stays -/
theorem sbf {x1 x2 : Int32} {h o : Hp} (ra : hR h L 19 = some a) (rb : hR h L 20 = some b) (na : ¬ L = a) (nb : ¬ L = b) (e : sX1_setBoard F h L x1 x2 = some o) : (hI o L 0 = x1 ∧ hI o L 1 = x2) ∧ ((∀ x i, hR o x i = hR h x i) ∧ ∀ x i, hJ o x i = hJ h x i) ∧ ∀ x i, ¬ (x = L ∧ i ≤ 2) → ¬ x = a → ¬ x = b → hI o x i = hI h x i := by
  unfold sX1_setBoard at e
  replace e := nm_s e
  obtain ⟨h1, w1, e⟩ := e
  replace e := nm_s e
  obtain ⟨h2, w2, e⟩ := e
  replace e := nm_s e
  obtain ⟨h3, w3, e⟩ := e
  have B := sbf_17 F (by rw [w3, w2, w1]; exact ra) (by rw [w3, w2, w1]; exact rb) e
  refine ⟨⟨?_, ?_⟩, ⟨fun x i => by rw [B.1.1, w3, w2, w1]; rfl, fun x i => by rw [B.1.2, w3, w2, w1]; rfl⟩, fun x i n1 n2 n3 => ?_⟩
  · rw [B.2 L 0 (fun z => absurd z.2 (by decide)) na nb, w3, rI_o (by decide), w2, rI_o (by decide), w1, rI_s]
  · rw [B.2 L 1 (fun z => absurd z.2 (by decide)) na nb, w3, rI_o (by decide), w2, rI_s]
  · rw [B.2 x i (fun z => n1 ⟨z.1, by have := z.2; omega⟩) n2 n3, w3, r_I, if_neg (fun z => n1 ⟨z.1, by have := z.2; omega⟩), w2, r_I, if_neg (fun z => n1 ⟨z.1, by have := z.2; omega⟩), w1, r_I, if_neg (fun z => n1 ⟨z.1, by have := z.2; omega⟩)]
/-- the class's law cleared -/
theorem c1_r {h o : Hp} (r1 : hR h L 16 = some a) (r2 : hR h L 18 = some b) (na : ¬ L = a) (nb : ¬ L = b) (l1 : hN h a = 12) (l2 : hN h b = 12) (e : sX1_clear F h L = some o) : ((∀ x i, hR o x i = hR h x i) ∧ ∀ x i, ¬ x = L → hJ o x i = hJ h x i) ∧ (∀ x i, ¬ x = L → ¬ x = a → ¬ x = b → hI o x i = hI h x i) ∧ (∀ i, i < 12 → hI o b i = 0) ∧ hJ o L 13 = 0 ∧ hI o L 3 = 0 ∧ hI o L 4 = -1 ∧ hI o L 5 = -1 ∧ hI o L 6 = -1 ∧ hI o L 7 = 0 ∧ hI o L 8 = 0 ∧ hI o L 9 = 0 ∧ hI o L 11 = 0 ∧ hI o L 12 = 0 ∧ hI o L 10 = 0 := by
  unfold sX1_clear at e
  replace e := nm_s e
  obtain ⟨h1, w1, e⟩ := e
  replace e := nm_s e
  obtain ⟨h2, w2, e⟩ := e
  replace e := nm_s e
  obtain ⟨h3, w3, e⟩ := e
  replace e := nm_s e
  obtain ⟨h4, w4, e⟩ := e
  replace e := nm_s e
  obtain ⟨h5, w5, e⟩ := e
  replace e := nm_s e
  obtain ⟨h6, w6, e⟩ := e
  replace e := nm_s e
  obtain ⟨h7, w7, e⟩ := e
  replace e := nm_s e
  obtain ⟨h8, w8, e⟩ := e
  replace e := nm_s e
  obtain ⟨h9, w9, e⟩ := e
  replace e := nm_s e
  obtain ⟨h10, w10, e⟩ := e
  replace e := nm_s e
  obtain ⟨h11, w11, e⟩ := e
  replace e := nm_s e
  obtain ⟨h12, w12, e⟩ := e
  replace e := nm_s e
  obtain ⟨h13, w13, e⟩ := e
  replace e := nm_s e
  obtain ⟨h14, w14, e⟩ := e
  have J14 : ∀ x i, hI h14 x i = hI h13 x i := fun x i => by rw [w14]; rfl
  have f3 : hI h14 L 3 = 0 := by rw [J14, w13, rI_o (by decide), w12, rI_o (by decide), w11, rI_o (by decide), w10, rI_o (by decide), w9, rI_o (by decide), w8, rI_o (by decide), w7, rI_s]
  have f4 : hI h14 L 4 = -1 := by rw [J14, w13, rI_s]
  have f5 : hI h14 L 5 = -1 := by rw [J14, w13, rI_o (by decide), w12, rI_s]
  have f6 : hI h14 L 6 = -1 := by rw [J14, w13, rI_o (by decide), w12, rI_o (by decide), w11, rI_s]
  have f7 : hI h14 L 7 = 0 := by rw [J14, w13, rI_o (by decide), w12, rI_o (by decide), w11, rI_o (by decide), w10, rI_o (by decide), w9, rI_o (by decide), w8, rI_o (by decide), w7, rI_o (by decide), w6, rI_s]
  have f8 : hI h14 L 8 = 0 := by rw [J14, w13, rI_o (by decide), w12, rI_o (by decide), w11, rI_o (by decide), w10, rI_o (by decide), w9, rI_o (by decide), w8, rI_o (by decide), w7, rI_o (by decide), w6, rI_o (by decide), w5, rI_s]
  have f9 : hI h14 L 9 = 0 := by rw [J14, w13, rI_o (by decide), w12, rI_o (by decide), w11, rI_o (by decide), w10, rI_o (by decide), w9, rI_o (by decide), w8, rI_o (by decide), w7, rI_o (by decide), w6, rI_o (by decide), w5, rI_o (by decide), w4, rI_s]
  have f10 : hI h14 L 10 = 0 := by rw [J14, w13, rI_o (by decide), w12, rI_o (by decide), w11, rI_o (by decide), w10, rI_o (by decide), w9, rI_o (by decide), w8, rI_o (by decide), w7, rI_o (by decide), w6, rI_o (by decide), w5, rI_o (by decide), w4, rI_o (by decide), w3, rI_s]
  have f11 : hI h14 L 11 = 0 := by rw [J14, w13, rI_o (by decide), w12, rI_o (by decide), w11, rI_o (by decide), w10, rI_o (by decide), w9, rI_o (by decide), w8, rI_o (by decide), w7, rI_o (by decide), w6, rI_o (by decide), w5, rI_o (by decide), w4, rI_o (by decide), w3, rI_o (by decide), w2, rI_s]
  have f12 : hI h14 L 12 = 0 := by rw [J14, w13, rI_o (by decide), w12, rI_o (by decide), w11, rI_o (by decide), w10, rI_o (by decide), w9, rI_o (by decide), w8, rI_o (by decide), w7, rI_o (by decide), w6, rI_o (by decide), w5, rI_o (by decide), w4, rI_o (by decide), w3, rI_o (by decide), w2, rI_o (by decide), w1, rI_s]
  have I14 : ∀ x i, ¬ x = L → hI h14 x i = hI h x i := fun x i n => by rw [J14, w13, rI_a n, w12, rI_a n, w11, rI_a n, w10, rI_a n, w9, rI_a n, w8, rI_a n, w7, rI_a n, w6, rI_a n, w5, rI_a n, w4, rI_a n, w3, rI_a n, w2, rI_a n, w1, rI_a n]
  have R14 : ∀ x i, hR h14 x i = hR h x i := fun x i => by rw [w14, hR_wJ, w13, hR_wI, w12, hR_wI, w11, hR_wI, w10, hR_wI, w9, hR_wI, w8, hR_wI, w7, hR_wI, w6, hR_wI, w5, hR_wI, w4, hR_wI, w3, hR_wI, w2, hR_wI, w1, hR_wI]
  have N14 : ∀ x, hN h14 x = hN h x := fun x => by rw [w14, hN_wJ, w13, hN_wI, w12, hN_wI, w11, hN_wI, w10, hN_wI, w9, hN_wI, w8, hN_wI, w7, hN_wI, w6, hN_wI, w5, hN_wI, w4, hN_wI, w3, hN_wI, w2, hN_wI, w1, hN_wI]
  have K14 : ∀ x i, ¬ x = L → hJ h14 x i = hJ h x i := fun x i n => by rw [w14, r_J, if_neg (fun z => n z.1), w13, w12, w11, w10, w9, w8, w7, w6, w5, w4, w3, w2, w1]; rfl
  have j14 : hJ h14 L 13 = 0 := by rw [w14, r_J, if_pos ⟨rfl, rfl⟩]
  clear J14 w1 w2 w3 w4 w5 w6 w7 w8 w9 w10 w11 w12 w13 w14
  replace e := cl_s e
  obtain ⟨r15, e15, e⟩ := e
  have y15 : r15 = a := r_eq (by rw [R14]; exact r1) e15
  rw [y15] at e
  replace e := cl_s e
  obtain ⟨o16, e16, e⟩ := e
  unfold sJ7_fill_53178 at e16
  have n15 : hN h14 a = 12 := by rw [N14]; exact l1
  have e16' : sJ7_fill_53178_5 F F h14 a (0 : Int32) (0 : Int32) (nI 12) = some o16 := by rw [← n15]; exact e16
  obtain ⟨⟨g16, m16⟩, k16, _, _⟩ := fI (by decide) F (by decide) e16'
  have q16 := fI_J F e16'
  replace e := cl_s e
  obtain ⟨r17, e17, e⟩ := e
  have y17 : r17 = b := r_eq (by rw [g16, R14]; exact r2) e17
  rw [y17] at e
  replace e := cl_s e
  obtain ⟨o18, e18, e⟩ := e
  unfold sJ7_fill_53178 at e18
  have n17 : hN o16 b = 12 := by rw [m16, N14]; exact l2
  have e18' : sJ7_fill_53178_5 F F o16 b (0 : Int32) (0 : Int32) (nI 12) = some o18 := by rw [← n17]; exact e18
  obtain ⟨⟨g18, m18⟩, k18, _, v18⟩ := fI (by decide) F (by decide) e18'
  have q18 := fI_J F e18'
  have z := Option.some.inj e
  subst z
  have IL : ∀ i, hI o18 L i = hI h14 L i := fun i => by rw [k18 L i nb, k16 L i na]
  refine ⟨⟨fun x i => by rw [g18, g16, R14], fun x i n => by rw [q18, q16, K14 x i n]⟩, fun x i n1 n2 n3 => by rw [k18 x i n3, k16 x i n2, I14 x i n1], fun i hi => v18 i (by show (0 : Int) ≤ _; omega) hi, by rw [q18, q16]; exact j14, ?_, ?_, ?_, ?_, ?_, ?_, ?_, ?_, ?_, ?_⟩
  · rw [IL]; exact f3
  · rw [IL]; exact f4
  · rw [IL]; exact f5
  · rw [IL]; exact f6
  · rw [IL]; exact f7
  · rw [IL]; exact f8
  · rw [IL]; exact f9
  · rw [IL]; exact f11
  · rw [IL]; exact f12
  · rw [IL]; exact f10
/-- the reference's law cleared -/
theorem c2_22 (na : ¬ L = a) (nb : ¬ L = b) : ∀ (f : Nat) {h o : Hp} {x1 : Int32}, 0 ≤ x1.toInt → hR h L 4 = some a → hR h L 14 = some b → (∀ i : Nat, (i : Int) < x1.toInt → hI h a i = 0 ∧ hI h b i = 0) → sX14_clear_22 F f h L x1 = some o → ((∀ x i, hR o x i = hR h x i) ∧ ∀ x i, ¬ x = L → hJ o x i = hJ h x i) ∧ (∀ x i, ¬ x = L → ¬ x = a → ¬ x = b → hI o x i = hI h x i) ∧ (∀ i : Nat, i < 12 → hI o a i = 0 ∧ hI o b i = 0) ∧ hJ o L 21 = 0 ∧ (hI o L 19 = 0 ∧ hI o L 20 = 0 ∧ hI o L 22 = 0 ∧ hI o L 23 = 0 ∧ hI o L 15 = 0 ∧ hI o L 16 = 0 ∧ hI o L 17 = 0 ∧ hI o L 18 = 0) ∧ hI o L 2 = hI h L 2 ∧ hI o L 10 = hI h L 10 ∧ hI o L 11 = hI h L 11 ∧ hI o L 12 = hI h L 12 := by
  have z1 : (1 : Int32).toInt = 1 := rfl
  have z12 : (12 : Int32).toInt = 12 := rfl
  intro f
  induction f with
  | zero => intro h o x1 _ _ _ _ e; exact absurd e (by rw [sX14_clear_22]; exact fun z => nomatch z)
  | succ f ih =>
    intro h o x1 x0 ra rb A e
    rw [sX14_clear_22] at e
    replace e := br_s e
    rcases e with ⟨l, e⟩ | ⟨l, e⟩
    · have l := le_i l
      rw [z12] at l
      replace e := nm_s e
      obtain ⟨h2, w2, e⟩ := e
      replace e := nm_s e
      obtain ⟨h3, w3, e⟩ := e
      replace e := nm_s e
      obtain ⟨h4, w4, e⟩ := e
      replace e := nm_s e
      obtain ⟨h5, w5, e⟩ := e
      replace e := nm_s e
      obtain ⟨h6, w6, e⟩ := e
      replace e := nm_s e
      obtain ⟨h7, w7, e⟩ := e
      replace e := nm_s e
      obtain ⟨h8, w8, e⟩ := e
      replace e := nm_s e
      obtain ⟨h9, w9, e⟩ := e
      replace e := nm_s e
      obtain ⟨h10, w10, e⟩ := e
      rw [← Option.some.inj e]
      have J8 : ∀ x i, hI h8 x i = hI h7 x i := fun x i => by rw [w8]; rfl
      have I10 : ∀ x i, ¬ x = L → hI h10 x i = hI h x i := fun x i n => by rw [w10, rI_a n, w9, rI_a n, J8, w7, rI_a n, w6, rI_a n, w5, rI_a n, w4, rI_a n, w3, rI_a n, w2, rI_a n]
      have R10 : ∀ x i, hR h10 x i = hR h x i := fun x i => by rw [w10, w9, w8, w7, w6, w5, w4, w3, w2]; rfl
      have lo : ∀ i, ¬ i = 15 → ¬ i = 16 → ¬ i = 17 → ¬ i = 18 → ¬ i = 19 → ¬ i = 20 → ¬ i = 22 → ¬ i = 23 → hI h10 L i = hI h L i := fun i n1 n2 n3 n4 n5 n6 n7 n8 => by rw [w10, rI_o n8, w9, rI_o n7, J8, w7, rI_o n6, w6, rI_o n5, w5, rI_o n4, w4, rI_o n3, w3, rI_o n2, w2, rI_o n1]
      refine ⟨⟨R10, fun x i n => ?_⟩, fun x i n _ _ => I10 x i n, fun i hi => ?_, ?_, ⟨?_, ?_, ?_, ?_, ?_, ?_, ?_, ?_⟩, lo 2 (by decide) (by decide) (by decide) (by decide) (by decide) (by decide) (by decide) (by decide), lo 10 (by decide) (by decide) (by decide) (by decide) (by decide) (by decide) (by decide) (by decide), lo 11 (by decide) (by decide) (by decide) (by decide) (by decide) (by decide) (by decide) (by decide), lo 12 (by decide) (by decide) (by decide) (by decide) (by decide) (by decide) (by decide) (by decide)⟩
      · rw [w10, w9]
        show hJ h8 x i = _
        rw [w8, r_J, if_neg (fun z => n z.1), w7, w6, w5, w4, w3, w2]
        rfl
      · rw [I10 a i (fun z => na z.symm), I10 b i (fun z => nb z.symm)]
        exact A i (by omega)
      · rw [w10, w9]
        show hJ h8 L 21 = _
        rw [w8, r_J, if_pos ⟨rfl, rfl⟩]
      · rw [w10, rI_o (by decide), w9, rI_o (by decide), J8, w7, rI_o (by decide), w6, rI_s]
      · rw [w10, rI_o (by decide), w9, rI_o (by decide), J8, w7, rI_s]
      · rw [w10, rI_o (by decide), w9, rI_s]
      · rw [w10, rI_s]
      · rw [w10, rI_o (by decide), w9, rI_o (by decide), J8, w7, rI_o (by decide), w6, rI_o (by decide), w5, rI_o (by decide), w4, rI_o (by decide), w3, rI_o (by decide), w2, rI_s]
      · rw [w10, rI_o (by decide), w9, rI_o (by decide), J8, w7, rI_o (by decide), w6, rI_o (by decide), w5, rI_o (by decide), w4, rI_o (by decide), w3, rI_s]
      · rw [w10, rI_o (by decide), w9, rI_o (by decide), J8, w7, rI_o (by decide), w6, rI_o (by decide), w5, rI_o (by decide), w4, rI_s]
      · rw [w10, rI_o (by decide), w9, rI_o (by decide), J8, w7, rI_o (by decide), w6, rI_o (by decide), w5, rI_s]
    · have l := nle_i l
      rw [z12] at l
      replace e := cl_s e
      obtain ⟨r11, e11, e⟩ := e
      have y11 : r11 = a := r_eq ra e11
      rw [y11] at e
      replace e := (gd_s e).2
      replace e := nm_s e
      obtain ⟨h13, w13, e⟩ := e
      replace e := cl_s e
      obtain ⟨r14, e14, e⟩ := e
      have y14 : r14 = b := r_eq (by rw [w13]; exact rb) e14
      rw [y14] at e
      replace e := (gd_s e).2
      replace e := nm_s e
      obtain ⟨h16, w16, e⟩ := e
      replace e := nm_s e
      obtain ⟨v, wv, e⟩ := e
      have nx := nc_i (x := x1) (by omega)
      have tv : v.toInt = x1.toInt + 1 := by rw [wv, ta (by rw [z1]; omega), z1]
      have R16 : ∀ x i, hR h16 x i = hR h x i := fun x i => by rw [w16, w13]; rfl
      have I16 : ∀ x i, ¬ x = a → ¬ x = b → hI h16 x i = hI h x i := fun x i n1 n2 => by rw [w16, rI_a n2, w13, rI_a n1]
      obtain ⟨⟨g1, g2⟩, g3, g4, g5, g6, g7, g8, g9, g10⟩ := ih (by omega) (by rw [R16]; exact ra) (by rw [R16]; exact rb) (fun i hi => by
        by_cases q : i = x1.toNatClampNeg
        · refine ⟨?_, ?_⟩
          · rw [w16, r_I]
            split
            · rfl
            · rw [w13, r_I, if_pos ⟨rfl, q⟩]
          · rw [w16, r_I, if_pos ⟨rfl, q⟩]
        · have B := A i (by omega)
          refine ⟨?_, ?_⟩
          · rw [w16, r_I, if_neg (fun z => q z.2), w13, r_I, if_neg (fun z => q z.2)]; exact B.1
          · rw [w16, r_I, if_neg (fun z => q z.2), w13, r_I, if_neg (fun z => q z.2)]; exact B.2) e
      refine ⟨⟨fun x i => by rw [g1, R16], fun x i n => by rw [g2 x i n, w16, w13]; rfl⟩, fun x i n1 n2 n3 => by rw [g3 x i n1 n2 n3, I16 x i n2 n3], g4, g5, g6, by rw [g7, I16 L 2 na nb], by rw [g8, I16 L 10 na nb], by rw [g9, I16 L 11 na nb], by rw [g10, I16 L 12 na nb]⟩
theorem c2_r {h o : Hp} (na : ¬ L = a) (nb : ¬ L = b) (ra : hR h L 4 = some a) (rb : hR h L 14 = some b) (e : sX14_clear F h L = some o) : ((∀ x i, hR o x i = hR h x i) ∧ ∀ x i, ¬ x = L → hJ o x i = hJ h x i) ∧ (∀ x i, ¬ x = L → ¬ x = a → ¬ x = b → hI o x i = hI h x i) ∧ (∀ i : Nat, i < 12 → hI o a i = 0 ∧ hI o b i = 0) ∧ hJ o L 21 = 0 ∧ (hI o L 19 = 0 ∧ hI o L 20 = 0 ∧ hI o L 22 = 0 ∧ hI o L 23 = 0 ∧ hI o L 15 = 0 ∧ hI o L 16 = 0 ∧ hI o L 17 = 0 ∧ hI o L 18 = 0) ∧ hI o L 2 = 0 ∧ hI o L 10 = -1 ∧ hI o L 11 = -1 ∧ hI o L 12 = -1 := by
  unfold sX14_clear at e
  replace e := nm_s e
  obtain ⟨h1, w1, e⟩ := e
  replace e := nm_s e
  obtain ⟨h2, w2, e⟩ := e
  replace e := nm_s e
  obtain ⟨h3, w3, e⟩ := e
  replace e := nm_s e
  obtain ⟨h4, w4, e⟩ := e
  obtain ⟨⟨g1, g2⟩, g3, g4, g5, g6, g7, g8, g9, g10⟩ := c2_22 na nb F (by decide) (by rw [w4, w3, w2, w1]; exact ra) (by rw [w4, w3, w2, w1]; exact rb) (fun i hi => absurd hi (by show ¬ (i : Int) < 0; omega)) e
  refine ⟨⟨fun x i => by rw [g1, w4, w3, w2, w1]; rfl, fun x i n => by rw [g2 x i n, w4, w3, w2, w1]; rfl⟩, fun x i n1 n2 n3 => by rw [g3 x i n1 n2 n3, w4, rI_a n1, w3, rI_a n1, w2, rI_a n1, w1, rI_a n1], g4, g5, g6, ?_, ?_, ?_, ?_⟩
  · rw [g7, w4, rI_o (by decide), w3, rI_o (by decide), w2, rI_o (by decide), w1, rI_s]
  · rw [g8, w4, rI_o (by decide), w3, rI_o (by decide), w2, rI_s]
  · rw [g9, w4, rI_o (by decide), w3, rI_s]
  · rw [g10, w4, rI_s]
end
/-- a reading that has failed -/
theorem rd_0 {F x0 : Nat} {o : Int32 × Hp} {h : Hp} {x4 : Int32} : ∀ {f : Nat}, sX2_read_39 F f h x0 (0 : Int32) x4 = some o → o = ((0 : Int32), h) := fun {f} e => by
  cases f with
  | zero => exact absurd e (by rw [sX2_read_39]; exact fun z => nomatch z)
  | succ f =>
    rw [sX2_read_39] at e
    unfold sX2_read_118 sX2_read_133 sX2_read_134 at e
    replace e := br_s e
    rcases e with ⟨_, e⟩ | ⟨_, e⟩
    · replace e := br_s e
      rcases e with ⟨_, e⟩ | ⟨z, _⟩
      · exact (Option.some.inj (gd_s e).2).symm
      · exact absurd rfl z
    · replace e := br_s e
      rcases e with ⟨_, e⟩ | ⟨z, _⟩
      · replace e := br_s e
        rcases e with ⟨_, e⟩ | ⟨z, _⟩
        · exact (Option.some.inj (gd_s e).2).symm
        · exact absurd rfl z
      · exact absurd rfl z
/-- both before their boards -/
def B0 (T : Nat → Int) (N : Int) (Z : Nat → Nat) (a b : Nat) (h : Hp) : Prop := ZC Z h ∧ CT T N (Z 10) (Z 3) h ∧ (hR h (Z 2) 19 = some a ∧ hR h (Z 2) 20 = some b) ∧ hI h (Z 3) 6 = 0 ∧ (hI h (Z 2) 3 = 0 ∧ hI h (Z 2) 4 = -1 ∧ hI h (Z 2) 5 = -1 ∧ hI h (Z 2) 6 = -1 ∧ hI h (Z 2) 7 = 0 ∧ hI h (Z 2) 8 = 0 ∧ hI h (Z 2) 9 = 0 ∧ hI h (Z 2) 11 = 0 ∧ hI h (Z 2) 12 = 0 ∧ hI h (Z 2) 10 = 0) ∧ hJ h (Z 2) 13 = 0 ∧ ∀ i : Nat, i < 12 → hI h (Z 31) i = 0
def B1 (T : Nat → Int) (N : Int) (Z : Nat → Nat) (h : Hp) : Prop := ZR Z h ∧ RT T N (Z 82) h ∧ hI h (Z 16) 10 = 0 ∧ (hI h (Z 15) 2 = 0 ∧ hI h (Z 15) 10 = -1 ∧ hI h (Z 15) 11 = -1 ∧ hI h (Z 15) 12 = -1 ∧ hI h (Z 15) 19 = 0 ∧ hI h (Z 15) 20 = 0 ∧ hI h (Z 15) 22 = 0 ∧ hI h (Z 15) 23 = 0 ∧ hI h (Z 15) 15 = 0 ∧ hI h (Z 15) 16 = 0 ∧ hI h (Z 15) 17 = 0 ∧ hI h (Z 15) 18 = 0) ∧ hJ h (Z 15) 21 = 0 ∧ ∀ i : Nat, i < 12 → hI h (Z 74) i = 0 ∧ hI h (Z 81) i = 0
section
variable {T : Nat → Int} {N : Int} {F a b : Nat} {Z : Nat → Nat} {x2 : Int32} {hc hr h oc or : Hp} {o o' : Int32 × Hp}
theorem b0_k (B : B0 T N Z a b h) (kR : ∀ x i, hR oc x i = hR h x i) (kJ : ∀ x i, hJ oc x i = hJ h x i) (kC : CT T N (Z 10) (Z 3) oc) (k3 : hI oc (Z 3) 6 = hI h (Z 3) 6) (k2 : ∀ i, 3 ≤ i → hI oc (Z 2) i = hI h (Z 2) i) (kr : ∀ i, hI oc (Z 31) i = hI h (Z 31) i) : B0 T N Z a b oc := by
  obtain ⟨b1, b2, ⟨b3, b4⟩, b5, ⟨c1, c2, c3, c4, c5, c6, c7, c8, c9, c10⟩, b6, b7⟩ := B
  refine ⟨zc_k b1 kR, kC, ⟨by rw [kR]; exact b3, by rw [kR]; exact b4⟩, by rw [k3]; exact b5, ⟨?_, ?_, ?_, ?_, ?_, ?_, ?_, ?_, ?_, ?_⟩, by rw [kJ]; exact b6, fun i hi => by rw [kr]; exact b7 i hi⟩
  · rw [k2 3 (by decide)]; exact c1
  · rw [k2 4 (by decide)]; exact c2
  · rw [k2 5 (by decide)]; exact c3
  · rw [k2 6 (by decide)]; exact c4
  · rw [k2 7 (by decide)]; exact c5
  · rw [k2 8 (by decide)]; exact c6
  · rw [k2 9 (by decide)]; exact c7
  · rw [k2 11 (by decide)]; exact c8
  · rw [k2 12 (by decide)]; exact c9
  · rw [k2 10 (by decide)]; exact c10
theorem b0_x (D : ZD Z) (B : B0 T N Z a b h) (K : Kx (Z 3) h oc) : B0 T N Z a b oc := b0_k B K.1.1 K.1.2 (ct_k B.2.1 K) (K.2 (Z 3) 6 (fun z => by have := z.2.2; omega)) (fun i _ => K.2 (Z 2) i (fun z => zn D z.1)) (fun i => K.2 (Z 31) i (fun z => zn D z.1))
theorem b1_k (B : B1 T N Z h) (kR : ∀ x i, hR or x i = hR h x i) (kJ : ∀ x i, hJ or x i = hJ h x i) (kC : RT T N (Z 82) or) (k3 : hI or (Z 16) 10 = hI h (Z 16) 10) (k2 : ∀ i, 2 ≤ i → hI or (Z 15) i = hI h (Z 15) i) (kr : ∀ i, hI or (Z 74) i = hI h (Z 74) i) (ks : ∀ i, hI or (Z 81) i = hI h (Z 81) i) : B1 T N Z or := by
  obtain ⟨b1, b2, b5, ⟨c1, c2, c3, c4, c5, c6, c7, c8, c9, c10, c11, c12⟩, b6, b7⟩ := B
  refine ⟨zr_k b1 kR, kC, by rw [k3]; exact b5, ⟨?_, ?_, ?_, ?_, ?_, ?_, ?_, ?_, ?_, ?_, ?_, ?_⟩, by rw [kJ]; exact b6, fun i hi => by rw [kr, ks]; exact b7 i hi⟩
  · rw [k2 2 (by decide)]; exact c1
  · rw [k2 10 (by decide)]; exact c2
  · rw [k2 11 (by decide)]; exact c3
  · rw [k2 12 (by decide)]; exact c4
  · rw [k2 19 (by decide)]; exact c5
  · rw [k2 20 (by decide)]; exact c6
  · rw [k2 22 (by decide)]; exact c7
  · rw [k2 23 (by decide)]; exact c8
  · rw [k2 15 (by decide)]; exact c9
  · rw [k2 16 (by decide)]; exact c10
  · rw [k2 17 (by decide)]; exact c11
  · rw [k2 18 (by decide)]; exact c12
theorem b1_x (D : ZD Z) (B : B1 T N Z h) (K : Kr (Z 16) h or) : B1 T N Z or := b1_k B K.1.1 K.1.2 (rt_k (zne D) B.2.1 K) (K.2 (Z 16) 10 (fun z => by have := z.2.2; omega)) (fun i _ => K.2 (Z 15) i (fun z => zn D z.1)) (fun i => K.2 (Z 74) i (fun z => zn D z.1)) (fun i => K.2 (Z 81) i (fun z => zn D z.1))
theorem b1_w (D : ZD Z) (B : B1 T N Z h) {i : Nat} (l : i < 2) {v : Int32} : B1 T N Z (wI h (Z 15) i v) := b1_k B (fun _ _ => rfl) (fun _ _ => rfl) (fun j hj => by rw [rI_a (zne D)]; exact B.2.1 j hj) (rI_a (zne D)) (fun j hj => rI_o (by omega)) (fun j => rI_a (zne D)) (fun j => rI_a (zne D))
theorem bq_0 : ∀ q : Nat, q < 12 → ¬ Bq (0 : Int32) q := by unfold Bq; decide
/-- both boards laid: the laws agree -/
theorem ls_0 (B : B0 T N Z a b hc) (C : B1 T N Z hr) (f0 : hI hc (Z 2) 0 = hI hr (Z 15) 0) (f1 : hI hc (Z 2) 1 = hI hr (Z 15) 1) (g0 : Rg 3 8 (hI hc (Z 2) 0)) (g1 : Rg 3 8 (hI hc (Z 2) 1)) (z999 : Z 999 = 0) (nx : 0 ≤ (hI hc (Z 3) 3).toInt) : LwS Z hc hr := by
  obtain ⟨_, _, _, b5, ⟨c1, c2, c3, c4, c5, c6, c7, c8, c9, c10⟩, b6, b7⟩ := B
  obtain ⟨_, _, d5, ⟨k1, k2, k3, k4, k5, k6, k7, k8, k9, k10, k11, k12⟩, d6, d7⟩ := C
  have z0 : (0 : Int32).toInt = 0 := rfl
  have r0 : ∀ n : Int, 0 ≤ n → Rg 0 n (0 : Int32) := fun n hn => ⟨by rw [z0]; exact Int.le_refl 0, by rw [z0]; exact hn⟩
  refine ⟨⟨by rw [b5, d5], by rw [b5]; exact r0 _ (by decide)⟩, fun p hp => ?_, by rw [b6, d6], by rw [c1]; exact r0 _ (by decide), fun i hi => ?_, fun i hi => ?_, ⟨by rw [c9]; exact r0 _ (by decide), fun q hq => ?_⟩, ⟨g0, g1, by rw [c2]; exact ⟨by decide, by decide⟩, by rw [c8]; exact r0 _ (by decide)⟩, fun _ => c8, fun _ => b6, fun q _ h2 => d7 q h2, by rw [z999]; exact nx, ⟨by rw [c10]; exact r0 _ (by decide), fun k hk _ => ?_⟩, fun j hj => by rw [k1, z0] at hj; omega, fun q hq z => by
    have zm : (-1 : Int32).toInt = -1 := rfl
    rw [c2, zm] at z
    omega⟩
  · simp only [List.mem_cons, List.not_mem_nil, or_false] at hp
    rcases hp with rfl | rfl | rfl | rfl | rfl | rfl | rfl | rfl | rfl | rfl
    · exact f0
    · exact f1
    · show hI hc (Z 2) 3 = hI hr (Z 15) 2
      rw [c1, k1]
    · show hI hc (Z 2) 4 = hI hr (Z 15) 10
      rw [c2, k2]
    · show hI hc (Z 2) 5 = hI hr (Z 15) 11
      rw [c3, k3]
    · show hI hc (Z 2) 6 = hI hr (Z 15) 12
      rw [c4, k4]
    · show hI hc (Z 2) 7 = hI hr (Z 15) 20
      rw [c5, k6]
    · show hI hc (Z 2) 8 = hI hr (Z 15) 22
      rw [c6, k7]
    · show hI hc (Z 2) 9 = hI hr (Z 15) 23
      rw [c7, k8]
    · show hI hc (Z 2) 11 = hI hr (Z 15) 19
      rw [c8, k5]
  · rw [c1, z0] at hi
    omega
  · rw [b7 i hi, (d7 i hi).2]
    refine ⟨rfl, r0 _ (by decide), fun j hj => ?_⟩
    rw [z0] at hj
    omega
  · rw [c9]
    refine ⟨fun z => absurd z (bq_0 q hq), ?_⟩
    rintro ⟨i, j, l, _, _⟩
    rw [k1, z0] at l
    omega
  · rw [c10]
    refine ⟨fun z => absurd z (bq_0 k (by omega)), fun z => absurd ?_ z⟩
    match k, hk with
    | 0, _ => exact k9
    | 1, _ => exact k10
    | 2, _ => exact k11
    | 3, _ => exact k12
/-- both readings of one tape end alike -/
theorem rd_r (n12 : N ≤ 1200) (dg : ∀ j : Nat, (j : Int) < N → 0 ≤ T j ∧ T j ≤ 255) (D : ZD Z) (n2 : x2.toInt = N) (nN : 0 ≤ N) (z999 : Z 999 = 0) (z6 : Z 996 = 0) (z7 : Z 997 = 0) (z8' : Z 998 = 0) (c1 : hR hc (Z 10) 0 = some (Z 49)) (c2 : hR hc (Z 2) 14 = some (Z 27)) (c3 : hR hc (Z 2) 15 = some (Z 28)) (c4 : hR hc (Z 2) 16 = some (Z 29)) (c5 : hR hc (Z 2) 17 = some (Z 30)) (c6 : hR hc (Z 2) 18 = some (Z 31)) (l1 : hN hc (Z 29) = 12) (l2 : hN hc (Z 31) = 12) (tl : (hI hc (Z 10) 1).toInt = N) (tb : ∀ i : Nat, (i : Int) < N → (hI hc (Z 49) i).toInt = T i) (ra : hR hc (Z 2) 19 = some a) (rb : hR hc (Z 2) 20 = some b) (oa : ∀ i, i ∈ zl → ¬ Z i = a) (ob : ∀ i, i ∈ zl → ¬ Z i = b) (R : ZR Z hr) (rt : RT T N (Z 82) hr) (e : sX2_read F hc (Z 3) (Z 10) (Z 2) = some o) (e' : sX15_isRules F hr (Z 16) (Z 82) x2 = some o') : Fin2 Z o o' := by
  have z0 : (0 : Int32).toInt = 0 := rfl
  have z3 : (3 : Int32).toInt = 3 := rfl
  have z8 : (8 : Int32).toInt = 8 := rfl
  unfold sX2_read at e
  unfold sX15_isRules at e'
  -- the class's law cleared
  replace e := nm_s e
  obtain ⟨h1, w1, e⟩ := e
  replace e := nm_s e
  obtain ⟨h2, w2, e⟩ := e
  replace e := cl_s e
  obtain ⟨r3, e3, e⟩ := e
  have y3 : r3 = Z 2 := by
    rw [w2, r_R, if_pos ⟨rfl, rfl⟩] at e3
    exact (Option.some.inj e3).symm
  rw [y3] at e
  have R2 : ∀ x i, ¬ x = Z 3 → hR h2 x i = hR hc x i := fun x i n => by rw [w2, r_R, if_neg (fun z => n z.1), w1, r_R, if_neg (fun z => n z.1)]
  have R20 : hR h2 (Z 3) 0 = some (Z 10) := by rw [w2, r_R, if_neg (fun z => absurd z.2 (by decide)), w1, r_R, if_pos ⟨rfl, rfl⟩]
  have R21 : hR h2 (Z 3) 1 = some (Z 2) := by rw [w2, r_R, if_pos ⟨rfl, rfl⟩]
  have I2 : ∀ x i, hI h2 x i = hI hc x i := fun x i => by rw [w2, w1]; rfl
  have N2 : ∀ x, hN h2 x = hN hc x := fun x => by rw [w2, w1]; rfl
  replace e := cl_s e
  obtain ⟨o4, e4, e⟩ := e
  obtain ⟨⟨g4, _⟩, k4, v4, j4, f4⟩ := c1_r (a := Z 29) (b := Z 31) (by rw [R2 (Z 2) 16 (zne D)]; exact c4) (by rw [R2 (Z 2) 18 (zne D)]; exact c6) (zne D) (zne D) (by rw [N2]; exact l1) (by rw [N2]; exact l2) e4
  replace e := nm_s e
  obtain ⟨h5, w5, e⟩ := e
  replace e := nm_s e
  obtain ⟨h6, w6, e⟩ := e
  have G6 : ∀ x i, hR h6 x i = hR h2 x i := fun x i => by
    rw [w6, w5]
    exact g4 x i
  have I6 : ∀ x i, ¬ x = Z 3 → hI h6 x i = hI o4 x i := fun x i n => by rw [w6, rI_a n, w5, rI_a n]
  have L6 : ∀ i, hI h6 (Z 2) i = hI o4 (Z 2) i := fun i => I6 (Z 2) i (zne D)
  have J6 : ∀ x i, hJ h6 x i = hJ o4 x i := fun x i => by rw [w6, w5]; rfl
  have C6 : B0 T N Z a b h6 := by
    refine ⟨⟨?_, ?_, ?_, ?_, ?_, ?_, ?_, ?_⟩, ⟨?_, zne D, ?_, Z 49, ?_, zne D, fun i hi => ?_⟩, ⟨?_, ?_⟩, ?_, ?_, ?_, fun i hi => ?_⟩
    · rw [G6]; exact R20
    · rw [G6]; exact R21
    · rw [G6, R2 (Z 10) 0 (zne D)]; exact c1
    · rw [G6, R2 (Z 2) 14 (zne D)]; exact c2
    · rw [G6, R2 (Z 2) 15 (zne D)]; exact c3
    · rw [G6, R2 (Z 2) 16 (zne D)]; exact c4
    · rw [G6, R2 (Z 2) 17 (zne D)]; exact c5
    · rw [G6, R2 (Z 2) 18 (zne D)]; exact c6
    · rw [G6]; exact R20
    · rw [I6 (Z 10) 1 (zne D), k4 (Z 10) 1 (zne D) (zne D) (zne D), I2]; exact tl
    · rw [G6, R2 (Z 10) 0 (zne D)]; exact c1
    · rw [I6 (Z 49) i (zne D), k4 (Z 49) i (zne D) (zne D) (zne D), I2]; exact tb i hi
    · rw [G6, R2 (Z 2) 19 (zne D)]; exact ra
    · rw [G6, R2 (Z 2) 20 (zne D)]; exact rb
    · rw [w6, rI_s]
    · rw [L6, L6, L6, L6, L6, L6, L6, L6, L6, L6]; exact f4
    · rw [J6]; exact j4
    · rw [I6 (Z 31) i (zne D)]; exact v4 i hi
  have n6 : hI h6 (Z 3) 3 = 0 := by rw [w6, rI_o (by decide), w5, rI_s]
  -- the reference's
  replace e' := cl_s e'
  obtain ⟨r1, er1, e'⟩ := e'
  have y1 : r1 = Z 15 := r_eq R.1 er1
  rw [y1] at e'
  replace e' := cl_s e'
  obtain ⟨p2, ep2, e'⟩ := e'
  obtain ⟨⟨s1, _⟩, s2, s3, s4, ⟨s5, s6, s7, s8, s13, s14, s15, s16⟩, s9, s10, s11, s12⟩ := c2_r (a := Z 74) (b := Z 81) (zne D) (zne D) R.2.2.1 R.2.2.2.2.2.2.2.2.2 ep2
  replace e' := nm_s e'
  obtain ⟨p3, wp3, e'⟩ := e'
  replace e' := nm_s e'
  obtain ⟨p4, wp4, e'⟩ := e'
  have G4 : ∀ x i, hR p4 x i = hR hr x i := fun x i => by
    rw [wp4, wp3]
    exact s1 x i
  have I4 : ∀ x i, ¬ x = Z 16 → hI p4 x i = hI p2 x i := fun x i n => by rw [wp4, rI_a n, wp3, rI_a n]
  have L4 : ∀ i, hI p4 (Z 15) i = hI p2 (Z 15) i := fun i => I4 (Z 15) i (zne D)
  have D4 : B1 T N Z p4 := by
    refine ⟨zr_k R G4, fun i hi => ?_, ?_, ⟨?_, ?_, ?_, ?_, ?_, ?_, ?_, ?_, ?_, ?_, ?_, ?_⟩, ?_, fun i hi => ?_⟩
    · rw [I4 (Z 82) i (zne D), s2 (Z 82) i (zne D) (zne D) (zne D)]; exact rt i hi
    · rw [wp4, rI_o (by decide), wp3, rI_s]
    · rw [L4]; exact s9
    · rw [L4]; exact s10
    · rw [L4]; exact s11
    · rw [L4]; exact s12
    · rw [L4]; exact s5
    · rw [L4]; exact s6
    · rw [L4]; exact s7
    · rw [L4]; exact s8
    · rw [L4]; exact s13
    · rw [L4]; exact s14
    · rw [L4]; exact s15
    · rw [L4]; exact s16
    · rw [wp4, wp3]; exact s4
    · rw [I4 (Z 74) i (zne D), I4 (Z 81) i (zne D)]; exact s3 i hi
  have n4 : hI p4 (Z 16) 8 = 0 := by rw [wp4, rI_s]
  clear w1 w2 w5 w6 wp3 wp4 e3 e4 er1 ep2 R2 R20 R21 I2 N2 g4 k4 v4 j4 f4 G6 I6 L6 J6 s1 s2 s3 s4 s5 s6 s7 s8 s9 s10 s11 s12 s13 s14 s15 s16 G4 I4 L4
  -- the first token
  replace e := cl_s e
  obtain ⟨o7, e7, e⟩ := e
  replace e' := cl_s e'
  obtain ⟨p5, ep5, e'⟩ := e'
  obtain ⟨S7, K7, Q5⟩ := ts_a n12 dg C6.2.1 D4.2.1 (zne D) n2 ⟨by rw [n6, n4], by rw [n6, z0]; exact Int.le_refl 0, by rw [n6, z0]; exact nN⟩ e7 ep5
  have C7 := b0_x D C6 K7
  have D5 := b1_x D D4 Q5
  replace e := cl_s e
  obtain ⟨o8, e8, e⟩ := e
  unfold sX2_takeBoard at e8
  replace e8 := cl_s e8
  obtain ⟨u1, eu1, e8⟩ := e8
  replace e' := cl_s e'
  obtain ⟨t1, et1, e'⟩ := e'
  obtain ⟨a1, a2, a3⟩ := iw_r n12 C7.2.1 D5.2.1 S7 (i := 3) (i' := 29) rfl (by decide) eu1 et1
  rw [a1] at e8
  rw [a2] at e'
  replace e8 := br_s e8
  replace e' := br_s e'
  rcases e8 with ⟨b1, e8⟩ | ⟨b1, e8⟩
  · rcases e' with ⟨_, e'⟩ | ⟨b2, _⟩
    · rw [← Option.some.inj e8] at e
      rw [rd_0 e, ← Option.some.inj e']
      exact Or.inl ⟨rfl, rfl, (ts_f S7).1⟩
    · rw [← a3] at b2; exact absurd b1 b2
  rcases e' with ⟨b2, _⟩ | ⟨_, e'⟩
  · rw [← a3] at b2; exact absurd b2 b1
  -- files
  replace e8 := cl_s e8
  obtain ⟨o3, e3, e8⟩ := e8
  replace e' := cl_s e'
  obtain ⟨p8, ep8, e'⟩ := e'
  obtain ⟨S8, K8, Q8⟩ := ts_a n12 dg C7.2.1 D5.2.1 (zne D) n2 (ts_n S7) e3 ep8
  have C8 := b0_x D C7 K8
  have D8 := b1_x D D5 Q8
  replace e8 := cl_s e8
  obtain ⟨u4, eu4, e8⟩ := e8
  replace e' := cl_s e'
  obtain ⟨t9, et9, e'⟩ := e'
  obtain ⟨m1, m2, m3, m4⟩ := in_r S8 eu4 et9
  rw [m1] at e8
  rw [m2] at e'
  replace e8 := br_s e8
  replace e' := br_s e'
  rcases e8 with ⟨b3, e8⟩ | ⟨b3, e8⟩
  · rcases e' with ⟨_, e'⟩ | ⟨b4, _⟩
    · rw [← Option.some.inj e8] at e
      rw [rd_0 e, ← Option.some.inj e']
      exact Or.inl ⟨rfl, rfl, (ts_f S8).1⟩
    · rw [← m3] at b4; exact absurd b3 b4
  rcases e' with ⟨b4, _⟩ | ⟨_, e'⟩
  · rw [← m3] at b4; exact absurd b4 b3
  obtain ⟨v1, v2, v3⟩ := m4 b3
  replace e8 := nm_s e8
  obtain ⟨v6, wv6, e8⟩ := e8
  replace e' := cl_s e'
  obtain ⟨r11, er11, e'⟩ := e'
  have y11 : r11 = Z 15 := r_eq D8.1.1 er11
  rw [y11] at e'
  replace e' := nm_s e'
  obtain ⟨p12, wp12, e'⟩ := e'
  have D12 : B1 T N Z p12 := by rw [wp12]; exact b1_w D D8 (by decide)
  have x12 : hI p12 (Z 15) 0 = hI p8 (Z 16) 9 := by rw [wp12, rI_s]
  -- ranks
  replace e8 := cl_s e8
  obtain ⟨o9, e9, e8⟩ := e8
  replace e' := cl_s e'
  obtain ⟨p13, ep13, e'⟩ := e'
  obtain ⟨S9, K9, Q9⟩ := ts_a n12 dg C8.2.1 D12.2.1 (zne D) n2 ⟨by rw [wp12, rI_a (zne D)]; exact (ts_n S8).1, (ts_n S8).2⟩ e9 ep13
  have C9 := b0_x D C8 K9
  have D9 := b1_x D D12 Q9
  replace e8 := cl_s e8
  obtain ⟨u8, eu8, e8⟩ := e8
  replace e' := cl_s e'
  obtain ⟨t14, et14, e'⟩ := e'
  obtain ⟨q1, q2, q3, q4⟩ := in_r S9 eu8 et14
  rw [q1] at e8
  rw [q2] at e'
  replace e8 := br_s e8
  replace e' := br_s e'
  rcases e8 with ⟨b5, e8⟩ | ⟨b5, e8⟩
  · rcases e' with ⟨_, e'⟩ | ⟨b6, _⟩
    · rw [← Option.some.inj e8] at e
      rw [rd_0 e, ← Option.some.inj e']
      exact Or.inl ⟨rfl, rfl, (ts_f S9).1⟩
    · rw [← q3] at b6; exact absurd b5 b6
  rcases e' with ⟨b6, _⟩ | ⟨_, e'⟩
  · rw [← q3] at b6; exact absurd b6 b5
  obtain ⟨x1, x3, x4⟩ := q4 b5
  replace e8 := cl_s e8
  obtain ⟨r10, er10, e8⟩ := e8
  have y10 : r10 = Z 2 := r_eq C9.1.2.1 er10
  rw [y10] at e8
  replace e8 := cl_s e8
  obtain ⟨o11, e11, e8⟩ := e8
  obtain ⟨⟨f0, f1⟩, ⟨g1, g2⟩, g3⟩ := sbf C9.2.2.1.1 C9.2.2.1.2 (oa 2 (by decide)) (ob 2 (by decide)) e11
  have C11 : B0 T N Z a b o11 := by
    have K : Kx (Z 3) o9 o11 → CT T N (Z 10) (Z 3) o11 := fun K => ct_k C9.2.1 K
    obtain ⟨d1, d2, d3, bb, d4, d5, d6⟩ := id C9.2.1
    have y : bb = Z 49 := r_eq C9.1.2.2.1 d4
    refine b0_k C9 g1 g2 ⟨by rw [g1]; exact d1, d2, ?_, bb, by rw [g1]; exact d4, d5, fun i hi => ?_⟩ (g3 (Z 3) 6 (fun z => zn D z.1) (oa 3 (by decide)) (ob 3 (by decide))) (fun i hi => g3 (Z 2) i (fun z => by have := z.2; omega) (oa 2 (by decide)) (ob 2 (by decide))) (fun i => g3 (Z 31) i (fun z => zn D z.1) (oa 31 (by decide)) (ob 31 (by decide)))
    · rw [g3 (Z 10) 1 (fun z => zn D z.1) (oa 10 (by decide)) (ob 10 (by decide))]; exact d3
    · have d7 := d6 i hi
      rw [y] at d7 ⊢
      rw [g3 (Z 49) i (fun z => zn D z.1) (oa 49 (by decide)) (ob 49 (by decide))]; exact d7
  replace e' := cl_s e'
  obtain ⟨r16, er16, e'⟩ := e'
  have y16 : r16 = Z 15 := r_eq D9.1.1 er16
  rw [y16] at e'
  replace e' := nm_s e'
  obtain ⟨p17, wp17, e'⟩ := e'
  have D17 : B1 T N Z p17 := by rw [wp17]; exact b1_w D D9 (by decide)
  have n11 : hI o11 (Z 3) 3 = hI o9 (Z 3) 3 := g3 (Z 3) 3 (fun z => zn D z.1) (oa 3 (by decide)) (ob 3 (by decide))
  have A0 : hI o11 (Z 2) 0 = hI p17 (Z 15) 0 := by rw [f0, wv6, v1, wp17, rI_o (by decide), Q9.2 (Z 15) 0 (fun z => zn D z.1), x12]
  have A1 : hI o11 (Z 2) 1 = hI p17 (Z 15) 1 := by rw [f1, x1, wp17, rI_s]
  have L11 : LwS Z o11 p17 := ls_0 C11 D17 A0 A1 ⟨by rw [f0, wv6]; exact v2, by rw [f0, wv6]; exact v3⟩ ⟨by rw [f1]; exact x3, by rw [f1]; exact x4⟩ z999 (by rw [n11]; exact (ts_n S9).2.1)
  -- the end of the sentence
  replace e8 := cl_s e8
  obtain ⟨o12, e12, e8⟩ := e8
  replace e' := cl_s e'
  obtain ⟨p18, ep18, e'⟩ := e'
  have P2 := ps_a n12 dg D n2 ⟨C11.1, D17.1, C11.2.1, D17.2.1, L11⟩ ⟨by rw [n11, wp17, rI_a (zne D)]; exact (ts_n S9).1, by rw [n11]; exact (ts_n S9).2⟩ e12 ep18
  replace e8 := cl_s e8
  obtain ⟨o13, e13, e8⟩ := e8
  replace e8 := (gd_s e8).2
  rw [← Option.some.inj e8] at e
  replace e' := cl_s e'
  obtain ⟨t19, et19, e'⟩ := e'
  obtain ⟨i1, i2⟩ := sg_r P2.2.2.1 P2.2.2.2.1 P2.2.2.2.2.1 (kd := 3) (Or.inl ⟨rfl, rfl⟩) et19
  rw [i1] at e'
  unfold sX2_takeEnd at e13
  replace e13 := br_s e13
  replace e' := br_s e'
  rcases e13 with ⟨k3, e13⟩ | ⟨k3, e13⟩
  rotate_left
  · rw [← Option.some.inj e13] at e
    rcases e' with ⟨_, e'⟩ | ⟨n, _⟩
    · rw [rd_0 e, ← Option.some.inj e']
      exact Or.inl ⟨rfl, rfl, ps_fl P2⟩
    · exact absurd (i2.mpr (fun z => k3 (Int32.toInt_inj.mp z))) n
  rcases e' with ⟨n, _⟩ | ⟨_, e'⟩
  · exact absurd (by rw [k3]; rfl) (i2.mp n)
  replace e13 := cl_s e13
  obtain ⟨h14, e14, e13⟩ := e13
  rw [← Option.some.inj e13] at e
  replace e' := cl_s e'
  obtain ⟨p21, ep21, e'⟩ := e'
  have P3 := ps_a n12 dg D n2 (ps_b P2).1 (ps_b P2).2 e14 ep21
  exact rd_39 n12 dg D n2 z999 z6 z7 z8' F F P3 (by decide) (by rw [z0]; exact (ts_b P3.2.2.2.2.1).1) e e'
end
