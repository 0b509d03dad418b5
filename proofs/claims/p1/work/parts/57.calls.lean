section
variable {v : Hp} {x m F : Nat} {q r : Qs}
theorem g00 {β : Type} (k : Option β) : gd ((0 : Int32) &&& 1 = 0) k = k := gd_pos (by decide)
theorem g11 {β : Type} (k : Option β) : gd ((1 : Int32) &&& 1 = 1) k = k := gd_pos (by decide)
theorem brT {β : Type} {d : Decidable True} (a b : Option β) : @br β True d a b = a := if_pos trivial
theorem brF {β : Type} {d : Decidable False} (a b : Option β) : @br β False d a b = b := if_neg id
theorem gdT {β : Type} {d : Decidable True} (a : Option β) : @gd β True d a = a := if_pos trivial
theorem b00 {β : Type} (a b : Option β) : br ((0 : Int32) = 0) a b = a := br_pos rfl
theorem b10 {β : Type} (a b : Option β) : br ((1 : Int32) = 0) a b = b := br_neg (by decide)
theorem bpp {β : Type} (a b : Option β) : br ((-1 : Int32) = (-1 : Int32)) a b = a := br_pos rfl
theorem buu {β : Type} (a b : Option β) : br ((-102 : Int32) = (-102 : Int32)) a b = a := br_pos rfl
theorem nneg {k : Nat} (h : k < 1000) : ¬ nI k < 0 := z_nneg (by omega)
theorem ngt {k N : Nat} (h : k < N) (hN : N < 1000) : ¬ nI N ≤ nI k := by rw [z_le (by omega) (by omega)]; omega
theorem nlt {k N : Nat} (h : k < N) (hN : N < 1000) : nI k < nI N := by rw [z_lt (by omega) (by omega)]; omega
theorem inBn {k N : Nat} (h : k < N) (hN : N < 1000) : inB (nI k) N := by rw [z_inB (by omega)]; exact h
theorem clk {k : Nat} (h : k < 1000) : (nI k).toNatClampNeg = k := z_clamp (by omega)
theorem kPlace (C : CF v x q) (p : Int32) : sX11_isPlace v x p = some (0, v) := by
  unfold sX11_isPlace sX11_isPlace_23 sX11_isPlace_24
  rcases rng 60 (by decide) p with c | ⟨c, d⟩ | ⟨k, hk, rfl⟩
  · rw [br_pos c, g00]
  · rw [br_neg c, br_pos (show (60 : Int32) ≤ p from d), g00]
  · rw [br_neg (nneg (by omega)), br_neg (show ¬ (60 : Int32) ≤ nI k from ngt hk (by decide)), xR0 C (i := 14) (b := 149) (by decide), cl_some, xN C (a := 149) (n := 60) (by decide), gd_pos (inBn hk (by decide)), clk (by omega), xZ C hk, b00, g00]
theorem mHas (M : MF v m r) (p : Int32) : sX15_has v m p = some (0, v) := by
  unfold sX15_has sX15_has_23 sX15_has_24
  rcases rng 60 (by decide) p with c | ⟨c, d⟩ | ⟨k, hk, rfl⟩
  · rw [br_pos c, g00]
  · rw [br_neg c, br_pos (show (60 : Int32) ≤ p from d), g00]
  · rw [br_neg (nneg (by omega)), br_neg (show ¬ (60 : Int32) ≤ nI k from ngt hk (by decide)), mR0 M (i := 15) (b := 24) (by decide), cl_some, mN M (a := 24) (n := 60) (by decide), gd_pos (inBn hk (by decide)), clk (by omega), mZ M hk, br_pos (show (0 : Int32) ≤ 0 by decide), g00]
theorem mMoves (M : MF v m r) (p : Int32) : sX15_moves v m p = some (-102, v) := by
  unfold sX15_moves
  rw [mHas M, cl_some]
  exact b00 _ _
theorem kList (C : CF v x q) (p : Int32) : sX11_listMoves v x p = some (0, v) := by
  unfold sX11_listMoves sX11_listMoves_32
  rw [kPlace C, cl_some]
  exact b00 _ _
theorem kSq0 (C : CF v x q) {s : Int32} (c : s < 0 ∨ (¬ s < 0 ∧ nI 64 ≤ s)) : sX11_isSquare v x s = some (0, v) := by
  unfold sX11_isSquare sX11_isSquare_19 sX11_isSquare_20
  rcases c with c | ⟨c, d⟩
  · rw [br_pos c, g00]
  · rw [br_neg c, xR0 C (i := 2) (b := 5) (by decide), cl_some, xI C (a := 5) (i := 2) (k := 64) (by decide), br_pos (show (64 : Int32) ≤ s from d), g00]
theorem kSq1 (C : CF v x q) {k : Nat} (hk : k < 64) : sX11_isSquare v x (nI k) = some (1, v) := by
  unfold sX11_isSquare sX11_isSquare_19 sX11_isSquare_20
  rw [br_neg (nneg (by omega)), xR0 C (i := 2) (b := 5) (by decide), cl_some, xI C (a := 5) (i := 2) (k := 64) (by decide), br_neg (show ¬ (64 : Int32) ≤ nI k from ngt hk (by decide)), g11]
theorem kSd0 : sX11_isSide v 0 = some (1, v) := by
  unfold sX11_isSide sX11_isSide_9 sX11_isSide_14
  rw [b00, g11]
theorem kSd1 : sX11_isSide v 1 = some (1, v) := by
  unfold sX11_isSide sX11_isSide_9 sX11_isSide_14
  rw [b10, br_pos rfl, g11]
theorem kSdN {s : Int32} (h0 : ¬ s = 0) (h1 : ¬ s = 1) : sX11_isSide v s = some (0, v) := by
  unfold sX11_isSide sX11_isSide_9 sX11_isSide_14
  rw [br_neg h0, br_neg h1, g00]
theorem kGm0 {g : Int32} (c : g < 0 ∨ (¬ g < 0 ∧ nI 8 ≤ g)) : sX11_isGame v g = some (0, v) := by
  unfold sX11_isGame sX11_isGame_14 sX11_isGame_15
  rcases c with c | ⟨c, d⟩
  · rw [br_pos c, g00]
  · rw [br_neg c, br_pos (show (8 : Int32) ≤ g from d), g00]
theorem kGm1 {k : Nat} (hk : k < 8) : sX11_isGame v (nI k) = some (1, v) := by
  unfold sX11_isGame sX11_isGame_14 sX11_isGame_15
  rw [br_neg (nneg (by omega)), br_neg (show ¬ (8 : Int32) ≤ nI k from ngt hk (by decide)), g11]
theorem mGm0 {g : Int32} (c : g < 0 ∨ (¬ g < 0 ∧ nI 8 ≤ g)) : sX15_isGame v g = some (0, v) := by
  unfold sX15_isGame sX15_isGame_14 sX15_isGame_15
  rcases c with c | ⟨c, d⟩
  · rw [br_pos c, g00]
  · rw [br_neg c, br_pos (show (8 : Int32) ≤ g from d), g00]
theorem mGm1 {k : Nat} (hk : k < 8) : sX15_isGame v (nI k) = some (1, v) := by
  unfold sX15_isGame sX15_isGame_14 sX15_isGame_15
  rw [br_neg (nneg (by omega)), br_neg (show ¬ (8 : Int32) ≤ nI k from ngt hk (by decide)), g11]
theorem mSq0a {s : Int32} (c : s < 0 ∨ (¬ s < 0 ∧ nI 64 ≤ s)) : s < 0 ∨ ¬ s < 0 ∧ ¬ s < 64 ∧ (64 : Int32) ≤ s := by
  rcases c with c | ⟨c, d⟩
  · exact .inl c
  · exact .inr ⟨c, fun e => i_lt.mp e d, d⟩
abbrev Bo (v : Hp) (a b : Option (Int32 × Hp)) : Prop := ∃ k, a = some (k, v) ∧ b = some (k, v)
theorem bo_drop (C : CF v x q) (M : MF v m r) (p : Int32) : Bo v (sX11_drop v x p) (sX15_drop v m p) := by
  refine ⟨-102, ?_, ?_⟩
  · simp only [sX11_drop, kPlace C, kList C, cl_some, b00, brT, brF, gdT]
  · simp only [sX15_drop, mHas M, mMoves M, cl_some, b00, buu, brT, brF, gdT]
theorem bo_write (C : CF v x q) (M : MF v m r) (p : Int32) : Bo v (sX11_write v x p) (sX15_write v m p) := by
  refine ⟨-102, ?_, ?_⟩
  · simp only [sX11_write, kPlace C, kList C, cl_some, b00, brT, brF, gdT]
  · simp only [sX15_write, mHas M, mMoves M, cl_some, b00, buu, brT, brF, gdT]
theorem bo_same (C : CF v x q) (M : MF v m r) (p : Int32) (s : Int32) : Bo v (sX11_same v x p s) (sX15_same v m p s) := by
  refine ⟨0, ?_, ?_⟩
  · simp only [sX11_same, sX11_same_42, sX11_same_43, g00, kPlace C, kList C, cl_some, b00, brT, brF, gdT]
  · simp only [sX15_same, sX15_same_39, sX15_same_40, g00, mHas M, mMoves M, cl_some, b00, buu, brT, brF, gdT]
theorem bo_moves (C : CF v x q) (M : MF v m r) (p : Int32) : Bo v (sX11_moves v x p) (sX15_moves v m p) := by
  refine ⟨-102, ?_, ?_⟩
  · simp only [sX11_moves, sX11_moves_18, kPlace C, kList C, cl_some, b00, brT, brF, gdT]
  · simp only [sX15_moves, mHas M, mMoves M, cl_some, b00, buu, brT, brF, gdT]
theorem bo_ended (C : CF v x q) (M : MF v m r) (p : Int32) : Bo v (sX11_ended v x p) (sX15_ended v m p) := by
  refine ⟨-102, ?_, ?_⟩
  · simp only [sX11_ended, sX11_ended_26, kPlace C, kList C, cl_some, b00, brT, brF, gdT]
  · simp only [sX15_ended, sX15_ended_32, mHas M, mMoves M, cl_some, b00, buu, brT, brF, gdT]
theorem bo_result (C : CF v x q) (M : MF v m r) (p : Int32) : Bo v (sX11_result v x p) (sX15_result v m p) := by
  refine ⟨-102, ?_, ?_⟩
  · simp only [sX11_result, kPlace C, kList C, cl_some, b00, brT, brF, gdT]
  · simp only [sX15_result, sX15_result_43, mHas M, mMoves M, cl_some, b00, buu, brT, brF, gdT]
theorem bo_book (C : CF v x q) (M : MF v m r) (p : Int32) (i : Int32) : Bo v (sX11_book F v x p i) (sX15_book F v m p i) := by
  refine ⟨-102, ?_, ?_⟩
  · simp only [sX11_book, sX11_book_5, sX11_book_26, kPlace C, kList C, cl_some, b00, brT, brF, gdT]
  · simp only [sX15_book, sX15_book_5, sX15_book_30, mHas M, mMoves M, cl_some, b00, buu, brT, brF, gdT]
theorem bo_before (C : CF v x q) (M : MF v m r) (p : Int32) : Bo v (sX11_before v x p) (sX15_before F v m p) := by
  refine ⟨-102, ?_, ?_⟩
  · simp only [sX11_before, kPlace C, kList C, cl_some, b00, brT, brF, gdT]
  · simp only [sX15_before, sX15_before_5, mHas M, mMoves M, cl_some, b00, buu, brT, brF, gdT]
theorem bo_worth (C : CF v x q) (M : MF v m r) (p : Int32) : Bo v (sX11_worth v x p) (sX15_worth v m p) := by
  refine ⟨-102, ?_, ?_⟩
  · simp only [sX11_worth, kPlace C, kList C, cl_some, b00, brT, brF, gdT]
  · simp only [sX15_worth, mHas M, mMoves M, cl_some, b00, buu, brT, brF, gdT]
theorem bo_go (C : CF v x q) (M : MF v m r) (p : Int32) (i : Int32) : Bo v (sX11_go F v x p i) (sX15_go F v m p i) := by
  refine ⟨-102, ?_, ?_⟩
  · unfold sX11_go sX11_go_13
    by_cases c : i < 0
    · rw [br_pos c]
    · rw [br_neg c, kList C, cl_some]
      exact br_neg c
  · simp only [sX15_go, sX15_go_5, sX15_go_25, mMoves M, cl_some, buu, brT, brF, gdT]
theorem bo_say (C : CF v x q) (M : MF v m r) (p : Int32) (i : Int32) : Bo v (sX11_say v x p i) (sX15_say_ v m p i) := by
  refine ⟨-102, ?_, ?_⟩
  · unfold sX11_say sX11_say_15
    rw [kList C, cl_some]
    by_cases c : i < 0
    · exact br_pos c
    · exact (br_neg c).trans (br_neg c)
  · simp only [sX15_say_, sX15_say__25, mMoves M, cl_some, buu, brT, brF, gdT]
theorem bo_key (C : CF v x q) (M : MF v m r) (k : Int32) : Bo v (sX11_key v x k) (sX15_key v m k) := by
  refine ⟨-1, ?_, ?_⟩
  · unfold sX11_key sX4_keyAt sX4_keyAt_21 sX4_keyAt_22
    rw [xR0 C (i := 11) (b := 76) (by decide), cl_some, xI C (a := 76) (i := 14) (k := 0) (by decide)]
    by_cases c : k < 0
    · rw [br_pos c]; rfl
    · rw [br_neg c, br_pos (i_le.mpr c)]; rfl
  · unfold sX15_key sX15_key_19 sX15_key_29 sX15_isProblem sX15_isProblem_27 sX15_isProblem_28
    rw [mI0 M (i := 65) (k := 0) (by decide), br_pos (show (0 : Int32) ≤ 0 by decide), g00, cl_some]
    exact b00 _ _
theorem bo_refutes (C : CF v x q) (M : MF v m r) (k : Int32) : Bo v (sX11_refutes v x k) (sX15_refutes F v m k) := by
  refine ⟨-1, ?_, ?_⟩
  · unfold sX11_refutes sX4_refutesOf sX4_refutesOf_21 sX4_refutesOf_22
    rw [xR0 C (i := 11) (b := 76) (by decide), cl_some, xI C (a := 76) (i := 15) (k := 0) (by decide)]
    by_cases c : k < 0
    · rw [br_pos c]; rfl
    · rw [br_neg c, br_pos (i_le.mpr c)]; rfl
  · unfold sX15_refutes sX15_refutes_4 sX15_refutes_15 sX15_isProblem sX15_isProblem_27 sX15_isProblem_28
    rw [mI0 M (i := 65) (k := 0) (by decide), br_pos (show (0 : Int32) ≤ 0 by decide), g00, cl_some]
    exact b00 _ _
theorem bo_beforeAt (C : CF v x q) (M : MF v m r) (k : Int32) : Bo v (sX11_beforeAt F v x k) (sX15_beforeAt v m k) := by
  refine ⟨-102, ?_, ?_⟩
  · unfold sX11_beforeAt sX11_beforeAt_15
    by_cases c : k < 0
    · rw [br_pos c]
    · rw [br_neg c, xR0 C (i := 9) (b := 48) (by decide), cl_some, xI C (a := 48) (i := 6) (k := 0) (by decide), br_neg c]
  · unfold sX15_beforeAt sX15_beforeAt_12 sX15_beforeAt_32
    by_cases c : k < 0
    · rw [br_pos c]
    · rw [br_neg c, mI0 M (i := 44) (k := 0) (by decide), br_neg c]
theorem bo_out (C : CF v x q) (M : MF v m r) (k : Int32) : Bo v (sX11_out v x k) (sX15_out v m k) := by
  refine ⟨-1, ?_, ?_⟩
  · unfold sX11_out sX9_byteAt sX9_byteAt_21 sX9_byteAt_22
    rw [xR0 C (i := 1) (b := 3) (by decide), cl_some, xI C (a := 3) (i := 1) (k := 0) (by decide)]
    by_cases c : k < 0
    · rw [br_pos c]; rfl
    · rw [br_neg c, br_pos (i_le.mpr c)]; rfl
  · unfold sX15_out sX15_out_12 sX15_out_22
    by_cases c : k < 0
    · rw [br_pos c]
    · rw [br_neg c, mI0 M (i := 3) (k := 0) (by decide), br_neg c]
theorem bo_at (C : CF v x q) (M : MF v m r) (p : Int32) (s : Int32) : Bo v (sX11_at v x p s) (sX15_at v m p s) := by
  rcases rng 64 (by decide) s with c | c | ⟨k, hk, rfl⟩
  · refine ⟨-101, ?_, ?_⟩
    · simp only [sX11_at, kSq0 C (.inl c), cl_some, b00, brT, brF, gdT]
    · simp only [sX15_at, sX15_at_12, sX15_at_61, br_pos c, brT, brF, gdT]
  · refine ⟨-101, ?_, ?_⟩
    · simp only [sX11_at, kSq0 C (.inr c), cl_some, b00, brT, brF, gdT]
    · simp only [sX15_at, sX15_at_12, sX15_at_61, br_neg c.1, mI0 M (i := 13) (k := 64) (by decide), brT, brF, gdT]
      exact br_neg (fun e => i_lt.mp e c.2)
  · refine ⟨-102, ?_, ?_⟩
    · simp only [sX11_at, sX11_at_35, kSq1 C hk, cl_some, b10, kPlace C, b00, brT, brF, gdT]
    · simp only [sX15_at, sX15_at_61, br_neg (nneg (show k < 1000 by omega)), mI0 M (i := 13) (k := 64) (by decide), br_pos (show nI k < (64 : Int32) from nlt hk (by decide)), mHas M, cl_some, b00, brT, brF, gdT]
theorem bo_figure (C : CF v x q) (M : MF v m r) (p : Int32) (w : Int32) : Bo v (sX11_figure v x p w) (sX15_figure F v m p w) := by
  by_cases c : w < 0
  · refine ⟨-101, ?_, ?_⟩
    · simp only [sX11_figure, sX11_figure_10, br_pos c, brT, brF, gdT]
    · simp only [sX15_figure, sX15_figure_10, sX15_figure_18, br_pos c, brT, brF, gdT]
  · by_cases d : w ≤ (8 : Int32)
    · refine ⟨-102, ?_, ?_⟩
      · simp only [sX11_figure, sX11_figure_10, br_neg c, br_pos d, kPlace C, kList C, cl_some, b00, brT, brF, gdT]
      · simp only [sX15_figure, sX15_figure_10, sX15_figure_18, br_neg c, br_pos d, mHas M, mMoves M, cl_some, b00, buu, brT, brF, gdT]
    · refine ⟨-101, ?_, ?_⟩
      · simp only [sX11_figure, sX11_figure_10, br_neg c, br_neg d, brT, brF, gdT]
      · simp only [sX15_figure, sX15_figure_10, sX15_figure_18, br_neg c, br_neg d, brT, brF, gdT]
theorem bo_rows (C : CF v x q) (M : MF v m r) (p : Int32) (w : Int32) : Bo v (sX11_rows v x p w) (sX15_rows v m p w) := by
  by_cases c : w < 0
  · refine ⟨-101, ?_, ?_⟩
    · simp only [sX11_rows, sX11_rows_10, br_pos c, brT, brF, gdT]
    · simp only [sX15_rows, sX15_rows_10, sX15_rows_18, br_pos c, brT, brF, gdT]
  · by_cases d : w ≤ (6 : Int32)
    · refine ⟨-102, ?_, ?_⟩
      · simp only [sX11_rows, sX11_rows_10, br_neg c, br_pos d, kPlace C, kList C, cl_some, b00, brT, brF, gdT]
      · simp only [sX15_rows, sX15_rows_10, sX15_rows_18, br_neg c, br_pos d, mHas M, mMoves M, cl_some, b00, buu, brT, brF, gdT]
    · refine ⟨-101, ?_, ?_⟩
      · simp only [sX11_rows, sX11_rows_10, br_neg c, br_neg d, brT, brF, gdT]
      · simp only [sX15_rows, sX15_rows_10, sX15_rows_18, br_neg c, br_neg d, brT, brF, gdT]
theorem bo_move (C : CF v x q) (M : MF v m r) (p : Int32) (i : Int32) (w : Int32) : Bo v (sX11_move v x p i w) (sX15_move v m p i w) := by
  by_cases c : w < 0
  · refine ⟨-101, ?_, ?_⟩
    · simp only [sX11_move, sX11_move_9, sX11_move_25, br_pos c, brT, brF, gdT]
    · simp only [sX15_move, sX15_move_9, sX15_move_37, br_pos c, brT, brF, gdT]
  · by_cases d : w ≤ (5 : Int32)
    · refine ⟨-102, ?_, ?_⟩
      · simp only [sX11_move, sX11_move_9, sX11_move_25, br_neg c, br_pos d, kPlace C, kList C, cl_some, b00, brT, brF, gdT]
        by_cases e : i < 0
        · rw [br_pos e]
        · rw [br_neg e, br_neg e]
      · simp only [sX15_move, sX15_move_9, sX15_move_37, br_neg c, br_pos d, mHas M, mMoves M, cl_some, b00, buu, brT, brF, gdT]
    · refine ⟨-101, ?_, ?_⟩
      · simp only [sX11_move, sX11_move_9, sX11_move_25, br_neg c, br_neg d, brT, brF, gdT]
      · simp only [sX15_move, sX15_move_9, sX15_move_37, br_neg c, br_neg d, brT, brF, gdT]
theorem bo_view (C : CF v x q) (M : MF v m r) (p : Int32) (s : Int32) : Bo v (sX11_view v x p s) (sX15_view v m p s) := by
  rcases sd01 s with rfl | rfl | ⟨h0, h1, c⟩
  · refine ⟨-102, ?_, ?_⟩
    · simp only [sX11_view, kSd0, cl_some, b10, kPlace C, b00, brT, brF, gdT]
    · simp only [sX15_view, br_neg (show ¬ (0 : Int32) < 0 by decide), br_pos (show (0 : Int32) ≤ 1 by decide), mHas M, cl_some, b00, brT, brF, gdT]
  · refine ⟨-102, ?_, ?_⟩
    · simp only [sX11_view, kSd1, cl_some, b10, kPlace C, b00, brT, brF, gdT]
    · simp only [sX15_view, br_neg (show ¬ (1 : Int32) < 0 by decide), br_pos (show (1 : Int32) ≤ 1 by decide), mHas M, cl_some, b00, brT, brF, gdT]
  · refine ⟨-101, ?_, ?_⟩
    · simp only [sX11_view, kSdN h0 h1, cl_some, b00, brT, brF, gdT]
    · unfold sX15_view sX15_view_9
      by_cases e : s < 0
      · rw [br_pos e]
      · rw [br_neg e, br_neg (fun d => i_le.mp d (c.resolve_left e))]
theorem bo_tally (C : CF v x q) (M : MF v m r) (s : Int32) (w : Int32) : Bo v (sX11_tally v x s w) (sX15_tally F v m s w) := by
  rcases sd01 s with rfl | rfl | ⟨h0, h1, c⟩
  · by_cases d : w < (-1000000 : Int32)
    · refine ⟨-101, ?_, ?_⟩
      · simp only [sX11_tally, sX11_tally_21, kSd0, cl_some, b10, br_pos d, brT, brF, gdT]
      · simp only [sX15_tally, sX15_tally_23, br_neg (show ¬ (0 : Int32) < 0 by decide), br_neg (show ¬ (1 : Int32) < 0 by decide), br_pos d, brT, brF, gdT]
    · by_cases e : w ≤ (1000000 : Int32)
      · refine ⟨-103, ?_, ?_⟩
        · simp only [sX11_tally, sX11_tally_48, kSd0, cl_some, b10, br_neg d, br_pos e, xR0 C (i := 10) (b := 62) (by decide), xI C (a := 62) (i := 10) (k := 0) (by decide), b00, brT, brF, gdT]
        · simp only [sX15_tally, br_neg (show ¬ (0 : Int32) < 0 by decide), br_neg (show ¬ (1 : Int32) < 0 by decide), br_neg d, br_pos e, mI0 M (i := 50) (k := 0) (by decide), b00, brT, brF, gdT]
      · refine ⟨-101, ?_, ?_⟩
        · simp only [sX11_tally, sX11_tally_21, kSd0, cl_some, b10, br_neg d, br_neg e, brT, brF, gdT]
        · simp only [sX15_tally, sX15_tally_23, br_neg (show ¬ (0 : Int32) < 0 by decide), br_neg (show ¬ (1 : Int32) < 0 by decide), br_neg d, br_neg e, brT, brF, gdT]
  · by_cases d : w < (-1000000 : Int32)
    · refine ⟨-101, ?_, ?_⟩
      · simp only [sX11_tally, sX11_tally_21, kSd1, cl_some, b10, br_pos d, brT, brF, gdT]
      · simp only [sX15_tally, sX15_tally_23, br_neg (show ¬ (1 : Int32) < 0 by decide), br_neg (show ¬ (1 : Int32) < 1 by decide), br_pos d, brT, brF, gdT]
    · by_cases e : w ≤ (1000000 : Int32)
      · refine ⟨-103, ?_, ?_⟩
        · simp only [sX11_tally, sX11_tally_48, kSd1, cl_some, b10, br_neg d, br_pos e, xR0 C (i := 10) (b := 62) (by decide), xI C (a := 62) (i := 10) (k := 0) (by decide), b00, brT, brF, gdT]
        · simp only [sX15_tally, br_neg (show ¬ (1 : Int32) < 0 by decide), br_neg (show ¬ (1 : Int32) < 1 by decide), br_neg d, br_pos e, mI0 M (i := 50) (k := 0) (by decide), b00, brT, brF, gdT]
      · refine ⟨-101, ?_, ?_⟩
        · simp only [sX11_tally, sX11_tally_21, kSd1, cl_some, b10, br_neg d, br_neg e, brT, brF, gdT]
        · simp only [sX15_tally, sX15_tally_23, br_neg (show ¬ (1 : Int32) < 0 by decide), br_neg (show ¬ (1 : Int32) < 1 by decide), br_neg d, br_neg e, brT, brF, gdT]
  · refine ⟨-101, ?_, ?_⟩
    · simp only [sX11_tally, sX11_tally_21, kSdN h0 h1, cl_some, b00, brT, brF, gdT]
    · unfold sX15_tally sX15_tally_23
      by_cases e : s < 0
      · rw [br_pos e]
      · rw [br_neg e, br_pos (c.resolve_left e)]
theorem bo_attacked (C : CF v x q) (M : MF v m r) (p : Int32) (t : Int32) (s : Int32) : Bo v (sX11_attacked v x p t s) (sX15_attacked v m p t s) := by
  have hz : ∀ k, k < 64 → ¬ (64 : Int32) ≤ nI k := fun k hk => ngt (N := 64) hk (by decide)
  rcases rng 64 (by decide) t with c | c | ⟨k, hk, rfl⟩
  · refine ⟨-101, ?_, ?_⟩
    · simp only [sX11_attacked, sX11_attacked_15, kSq0 C (.inl c), cl_some, b00, brT, brF, gdT]
    · simp only [sX15_attacked, sX15_attacked_21, br_pos c, brT, brF, gdT]
  · refine ⟨-101, ?_, ?_⟩
    · simp only [sX11_attacked, sX11_attacked_15, kSq0 C (.inr c), cl_some, b00, brT, brF, gdT]
    · simp only [sX15_attacked, sX15_attacked_21, br_neg c.1, mI0 M (i := 13) (k := 64) (by decide), brT, brF, gdT]
      exact br_pos c.2
  · rcases sd01 s with rfl | rfl | ⟨h0, h1, c⟩
    · refine ⟨-102, ?_, ?_⟩
      · simp only [sX11_attacked, kSq1 C hk, kSd0, cl_some, b10, kPlace C, b00, brT, brF, gdT]
      · simp only [sX15_attacked, sX15_attacked_57, br_neg (nneg (show k < 1000 by omega)), mI0 M (i := 13) (k := 64) (by decide), br_neg (hz k hk), br_neg (show ¬ (0 : Int32) < 0 by decide), br_pos (show (0 : Int32) ≤ 1 by decide), mHas M, cl_some, b00, brT, brF, gdT]
    · refine ⟨-102, ?_, ?_⟩
      · simp only [sX11_attacked, kSq1 C hk, kSd1, cl_some, b10, kPlace C, b00, brT, brF, gdT]
      · simp only [sX15_attacked, sX15_attacked_57, br_neg (nneg (show k < 1000 by omega)), mI0 M (i := 13) (k := 64) (by decide), br_neg (hz k hk), br_neg (show ¬ (1 : Int32) < 0 by decide), br_pos (show (1 : Int32) ≤ 1 by decide), mHas M, cl_some, b00, brT, brF, gdT]
    · refine ⟨-101, ?_, ?_⟩
      · simp only [sX11_attacked, sX11_attacked_15, kSq1 C hk, kSdN h0 h1, cl_some, b10, b00, brT, brF, gdT]
      · simp only [sX15_attacked, sX15_attacked_21, br_neg (nneg (show k < 1000 by omega)), mI0 M (i := 13) (k := 64) (by decide), br_neg (hz k hk), brT, brF, gdT]
        by_cases e : s < 0
        · rw [br_pos e]
        · rw [br_neg e, br_neg (fun d => i_le.mp d (c.resolve_left e))]
theorem bo_sees (C : CF v x q) (M : MF v m r) (p : Int32) (s : Int32) (t : Int32) : Bo v (sX11_sees v x p s t) (sX15_sees v m p s t) := by
  have hz : ∀ k, k < 64 → nI k < (64 : Int32) := fun k hk => nlt (N := 64) hk (by decide)
  have ha : ∀ {β : Type} (z : Option β) (w : Option β), (s < 0 ∨ 1 < s) → br (s < 0) z (br ((1 : Int32) < s) z w) = z := fun z w c => by
    by_cases e : s < 0
    · rw [br_pos e]
    · rw [br_neg e, br_pos (c.resolve_left e)]
  have hb : ∀ {β : Type} (z : Option β) (w : Option β), (t < 0 ∨ (¬ t < 0 ∧ nI 64 ≤ t)) → br (s < 0) z (br ((1 : Int32) < s) z (br (t < 0) z (br (t < (64 : Int32)) w z))) = z := fun z w c => by
    by_cases e : s < 0
    · rw [br_pos e]
    · rw [br_neg e]
      by_cases e2 : (1 : Int32) < s
      · rw [br_pos e2]
      · rw [br_neg e2]
        rcases c with c | ⟨c, d⟩
        · rw [br_pos c]
        · rw [br_neg c]
          exact br_neg (fun e => i_lt.mp e d)
  rcases rng 64 (by decide) t with c | c | ⟨k, hk, rfl⟩
  · refine ⟨-101, ?_, ?_⟩
    · simp only [sX11_sees, sX11_sees_15, kSq0 C (.inl c), cl_some, b00, brT, brF, gdT]
    · simp only [sX15_sees, sX15_sees_21, mI0 M (i := 13) (k := 64) (by decide), brT, brF, gdT]
      exact hb _ _ (.inl c)
  · refine ⟨-101, ?_, ?_⟩
    · simp only [sX11_sees, sX11_sees_15, kSq0 C (.inr c), cl_some, b00, brT, brF, gdT]
    · simp only [sX15_sees, sX15_sees_21, mI0 M (i := 13) (k := 64) (by decide), brT, brF, gdT]
      exact hb _ _ (.inr c)
  · rcases sd01 s with rfl | rfl | ⟨h0, h1, c⟩
    · refine ⟨-102, ?_, ?_⟩
      · simp only [sX11_sees, kSq1 C hk, kSd0, cl_some, b10, kPlace C, b00, brT, brF, gdT]
      · simp only [sX15_sees, sX15_sees_53, br_neg (nneg (show k < 1000 by omega)), mI0 M (i := 13) (k := 64) (by decide), br_pos (hz k hk), br_neg (show ¬ (0 : Int32) < 0 by decide), br_neg (show ¬ (1 : Int32) < 0 by decide), mHas M, cl_some, b00, brT, brF, gdT]
    · refine ⟨-102, ?_, ?_⟩
      · simp only [sX11_sees, kSq1 C hk, kSd1, cl_some, b10, kPlace C, b00, brT, brF, gdT]
      · simp only [sX15_sees, sX15_sees_53, br_neg (nneg (show k < 1000 by omega)), mI0 M (i := 13) (k := 64) (by decide), br_pos (hz k hk), br_neg (show ¬ (1 : Int32) < 0 by decide), br_neg (show ¬ (1 : Int32) < 1 by decide), mHas M, cl_some, b00, brT, brF, gdT]
    · refine ⟨-101, ?_, ?_⟩
      · simp only [sX11_sees, sX11_sees_15, kSq1 C hk, kSdN h0 h1, cl_some, b10, b00, brT, brF, gdT]
      · simp only [sX15_sees, sX15_sees_21, brT, brF, gdT]
        exact ha _ _ c
theorem bo_start (C : CF v x q) (M : MF v m r) (g : Int32) (p : Int32) : Bo v (sX11_start v x g p) (sX15_start v m g p) := by
  rcases rng 8 (by decide) g with c | c | ⟨k, hk, rfl⟩
  · refine ⟨-101, ?_, ?_⟩
    · simp only [sX11_start, sX11_start_4, sX11_start_15, kGm0 (.inl c), cl_some, b00, brT, brF, gdT]
    · simp only [sX15_start, sX15_start_4, sX15_start_15, mGm0 (.inl c), cl_some, b00, brT, brF, gdT]
  · refine ⟨-101, ?_, ?_⟩
    · simp only [sX11_start, sX11_start_4, sX11_start_15, kGm0 (.inr c), cl_some, b00, brT, brF, gdT]
    · simp only [sX15_start, sX15_start_4, sX15_start_15, mGm0 (.inr c), cl_some, b00, brT, brF, gdT]
  · refine ⟨-102, ?_, ?_⟩
    · simp only [sX11_start, sX11_start_4, sX11_start_15, kGm1 hk, cl_some, b10, nm_eq, kPlace C, b00, brT, brF, gdT]
    · simp only [sX15_start, sX15_start_4, sX15_start_15, mGm1 hk, cl_some, b10, nm_eq, mHas M, b00, brT, brF, gdT]
theorem bo_add (C : CF v x q) (M : MF v m r) (g : Int32) (i : Int32) : Bo v (sX11_add v x g i) (sX15_add v m g i) := by
  rcases rng 8 (by decide) g with c | c | ⟨k, hk, rfl⟩
  · refine ⟨-101, ?_, ?_⟩
    · simp only [sX11_add, sX11_add_4, kGm0 (.inl c), cl_some, b00, brT, brF, gdT]
    · simp only [sX15_add, sX15_add_4, mGm0 (.inl c), cl_some, b00, brT, brF, gdT]
  · refine ⟨-101, ?_, ?_⟩
    · simp only [sX11_add, sX11_add_4, kGm0 (.inr c), cl_some, b00, brT, brF, gdT]
    · simp only [sX15_add, sX15_add_4, mGm0 (.inr c), cl_some, b00, brT, brF, gdT]
  · refine ⟨-102, ?_, ?_⟩
    · simp only [sX11_add, sX11_add_4, kGm1 hk, cl_some, b10, nm_eq, xR0 C (i := 17) (b := 152) (by decide), xN C (a := 152) (n := 8) (by decide), gd_pos (inBn hk (show 8 < 1000 by decide)), clk (show k < 1000 by omega), xP C hk, bpp, brT, brF, gdT]
    · simp only [sX15_add, sX15_add_4, mGm1 hk, cl_some, b10, nm_eq, mR0 M (i := 39) (b := 69) (by decide), mN M (a := 69) (n := 8) (by decide), gd_pos (inBn hk (show 8 < 1000 by decide)), clk (show k < 1000 by omega), mP M hk, bpp, brT, brF, gdT]
theorem bo_back (C : CF v x q) (M : MF v m r) (g : Int32) : Bo v (sX11_back v x g) (sX15_back v m g) := by
  rcases rng 8 (by decide) g with c | c | ⟨k, hk, rfl⟩
  · refine ⟨-101, ?_, ?_⟩
    · simp only [sX11_back, kGm0 (.inl c), cl_some, b00, brT, brF, gdT]
    · simp only [sX15_back, mGm0 (.inl c), cl_some, b00, brT, brF, gdT]
  · refine ⟨-101, ?_, ?_⟩
    · simp only [sX11_back, kGm0 (.inr c), cl_some, b00, brT, brF, gdT]
    · simp only [sX15_back, mGm0 (.inr c), cl_some, b00, brT, brF, gdT]
  · refine ⟨-102, ?_, ?_⟩
    · simp only [sX11_back, kGm1 hk, cl_some, b10, nm_eq, xR0 C (i := 17) (b := 152) (by decide), xN C (a := 152) (n := 8) (by decide), gd_pos (inBn hk (show 8 < 1000 by decide)), clk (show k < 1000 by omega), xP C hk, bpp, brT, brF, gdT]
    · simp only [sX15_back, mGm1 hk, cl_some, b10, nm_eq, mR0 M (i := 39) (b := 69) (by decide), mN M (a := 69) (n := 8) (by decide), gd_pos (inBn hk (show 8 < 1000 by decide)), clk (show k < 1000 by omega), mP M hk, bpp, brT, brF, gdT]
theorem bo_now (C : CF v x q) (M : MF v m r) (g : Int32) : Bo v (sX11_now F v x g) (sX15_now v m g) := by
  rcases rng 8 (by decide) g with c | c | ⟨k, hk, rfl⟩
  · refine ⟨-101, ?_, ?_⟩
    · simp only [sX11_now, sX11_now_4, kGm0 (.inl c), cl_some, b00, brT, brF, gdT]
    · simp only [sX15_now, sX15_now_4, sX15_now_40, mGm0 (.inl c), cl_some, b00, brT, brF, gdT]
  · refine ⟨-101, ?_, ?_⟩
    · simp only [sX11_now, sX11_now_4, kGm0 (.inr c), cl_some, b00, brT, brF, gdT]
    · simp only [sX15_now, sX15_now_4, sX15_now_40, mGm0 (.inr c), cl_some, b00, brT, brF, gdT]
  · refine ⟨-102, ?_, ?_⟩
    · simp only [sX11_now, sX11_now_4, kGm1 hk, cl_some, b10, nm_eq, xR0 C (i := 17) (b := 152) (by decide), xN C (a := 152) (n := 8) (by decide), gd_pos (inBn hk (show 8 < 1000 by decide)), clk (show k < 1000 by omega), xP C hk, bpp, brT, brF, gdT]
    · simp only [sX15_now, sX15_now_4, sX15_now_40, mGm1 hk, cl_some, b10, nm_eq, mR0 M (i := 39) (b := 69) (by decide), mN M (a := 69) (n := 8) (by decide), gd_pos (inBn hk (show 8 < 1000 by decide)), clk (show k < 1000 by omega), mP M hk, bpp, brT, brF, gdT]
theorem bo_played (C : CF v x q) (M : MF v m r) (g : Int32) (k : Int32) : Bo v (sX11_played v x g k) (sX15_played v m g k) := by
  rcases rng 8 (by decide) g with c | c | ⟨j, hk, rfl⟩
  · refine ⟨-101, ?_, ?_⟩
    · simp only [sX11_played, kGm0 (.inl c), cl_some, b00, brT, brF, gdT]
    · simp only [sX15_played, mGm0 (.inl c), cl_some, b00, brT, brF, gdT]
  · refine ⟨-101, ?_, ?_⟩
    · simp only [sX11_played, kGm0 (.inr c), cl_some, b00, brT, brF, gdT]
    · simp only [sX15_played, mGm0 (.inr c), cl_some, b00, brT, brF, gdT]
  · refine ⟨-102, ?_, ?_⟩
    · simp only [sX11_played, sX11_played_39, sX11_played_41, kGm1 hk, cl_some, b10, nm_eq, xR0 C (i := 17) (b := 152) (by decide), xN C (a := 152) (n := 8) (by decide), gd_pos (inBn hk (show 8 < 1000 by decide)), clk (show j < 1000 by omega), xP C hk, brT, brF, gdT]
      by_cases e : k < 0
      · rw [br_pos e]
      · rw [br_neg e, br_pos]
        rw [Int32.le_iff_toInt_le, show (-1 : Int32).toInt = -1 from rfl]
        rw [Int32.lt_iff_toInt_lt, show (0 : Int32).toInt = 0 from rfl] at e
        omega
    · simp only [sX15_played, sX15_played_34, sX15_played_51, mGm1 hk, cl_some, b10, nm_eq, mR0 M (i := 39) (b := 69) (by decide), mN M (a := 69) (n := 8) (by decide), gd_pos (inBn hk (show 8 < 1000 by decide)), clk (show j < 1000 by omega), mP M hk, bpp, brT, brF, gdT]
theorem bo_game (C : CF v x q) (M : MF v m r) (g : Int32) (w : Int32) : Bo v (sX11_game v x g w) (sX15_game F v m g w) := by
  by_cases c1 : w < 0
  · rcases rng 8 (by decide) g with c | c | ⟨k, hk, rfl⟩
    · exact ⟨-101, by simp only [sX11_game, sX11_game_4, sX11_game_16, kGm0 (.inl c), cl_some, b00, brT, brF, gdT], by simp only [sX15_game, sX15_game_4, sX15_game_16, mGm0 (.inl c), cl_some, b00, brT, brF, gdT]⟩
    · exact ⟨-101, by simp only [sX11_game, sX11_game_4, sX11_game_16, kGm0 (.inr c), cl_some, b00, brT, brF, gdT], by simp only [sX15_game, sX15_game_4, sX15_game_16, mGm0 (.inr c), cl_some, b00, brT, brF, gdT]⟩
    · exact ⟨-101, by simp only [sX11_game, sX11_game_4, sX11_game_16, kGm1 hk, cl_some, b10, br_pos c1, brT, brF, gdT], by simp only [sX15_game, sX15_game_4, sX15_game_16, mGm1 hk, cl_some, b10, br_pos c1, brT, brF, gdT]⟩
  · by_cases c2 : w ≤ (3 : Int32)
    · rcases rng 8 (by decide) g with c | c | ⟨k, hk, rfl⟩
      · exact ⟨-101, by simp only [sX11_game, sX11_game_4, sX11_game_16, kGm0 (.inl c), cl_some, b00, brT, brF, gdT], by simp only [sX15_game, sX15_game_4, sX15_game_16, mGm0 (.inl c), cl_some, b00, brT, brF, gdT]⟩
      · exact ⟨-101, by simp only [sX11_game, sX11_game_4, sX11_game_16, kGm0 (.inr c), cl_some, b00, brT, brF, gdT], by simp only [sX15_game, sX15_game_4, sX15_game_16, mGm0 (.inr c), cl_some, b00, brT, brF, gdT]⟩
      · refine ⟨-102, ?_, ?_⟩
        · simp only [sX11_game, sX11_game_4, kGm1 hk, cl_some, b10, br_neg c1, br_pos c2, nm_eq, xR0 C (i := 17) (b := 152) (by decide), xN C (a := 152) (n := 8) (by decide), gd_pos (inBn hk (show 8 < 1000 by decide)), clk (show k < 1000 by omega), xP C hk, bpp, brT, brF, gdT]
        · simp only [sX15_game, sX15_game_4, mGm1 hk, cl_some, b10, br_neg c1, br_pos c2, nm_eq, mR0 M (i := 39) (b := 69) (by decide), mN M (a := 69) (n := 8) (by decide), gd_pos (inBn hk (show 8 < 1000 by decide)), clk (show k < 1000 by omega), mP M hk, bpp, brT, brF, gdT]
    · rcases rng 8 (by decide) g with c | c | ⟨k, hk, rfl⟩
      · exact ⟨-101, by simp only [sX11_game, sX11_game_4, sX11_game_16, kGm0 (.inl c), cl_some, b00, brT, brF, gdT], by simp only [sX15_game, sX15_game_4, sX15_game_16, mGm0 (.inl c), cl_some, b00, brT, brF, gdT]⟩
      · exact ⟨-101, by simp only [sX11_game, sX11_game_4, sX11_game_16, kGm0 (.inr c), cl_some, b00, brT, brF, gdT], by simp only [sX15_game, sX15_game_4, sX15_game_16, mGm0 (.inr c), cl_some, b00, brT, brF, gdT]⟩
      · exact ⟨-101, by simp only [sX11_game, sX11_game_4, sX11_game_16, kGm1 hk, cl_some, b10, br_neg c1, br_neg c2, brT, brF, gdT], by simp only [sX15_game, sX15_game_4, sX15_game_16, mGm1 hk, cl_some, b10, br_neg c1, br_neg c2, brT, brF, gdT]⟩
theorem bo_problem (C : CF v x q) (M : MF v m r) (p a b n : Int32) : Bo v (sX11_problem v x p a b n) (sX15_problem F v m p a b n) := by
  unfold sX11_problem sX15_problem
  by_cases c1 : a < 0
  · exact ⟨-101, br_pos c1, br_pos c1⟩
  rw [br_neg c1, br_neg c1]
  by_cases c2 : (3 : Int32) < a
  · exact ⟨-101, br_pos c2, br_pos c2⟩
  rw [br_neg c2, br_neg c2]
  by_cases c3 : b < 0
  · exact ⟨-101, br_pos c3, br_pos c3⟩
  rw [br_neg c3, br_neg c3]
  by_cases c4 : (2 : Int32) < b
  · exact ⟨-101, br_pos c4, br_pos c4⟩
  rw [br_neg c4, br_neg c4]
  by_cases c5 : n < (1 : Int32)
  · exact ⟨-101, br_pos c5, br_pos c5⟩
  rw [br_neg c5, br_neg c5]
  by_cases c6 : n ≤ (4 : Int32)
  · rw [br_pos c6, br_pos c6]
    refine ⟨-102, ?_, ?_⟩
    · rw [kPlace C, cl_some]; exact b00 _ _
    · rw [mMoves M, cl_some]; exact buu _ _
  · exact ⟨-101, br_neg c6, br_neg c6⟩
end
