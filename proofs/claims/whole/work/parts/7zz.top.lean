section
variable {F : Nat} {Inv : Nat → Nat → Hp → Prop}
theorem one_step
    (s0 : ∀ (n k : Nat) (h : Hp) (a1 a2 a3 a4 a5 : Int32), k < 512 → Inv n k h → St (fun h => sX11_feed h n a1 a2 a3 a4 a5) (fun h => sX15_feed F h (n + 513) a1 a2 a3 a4 a5) h (Inv n (k + 1)))
    (s1 : ∀ (n k : Nat) (h : Hp) (a1 : Int32), k < 512 → Inv n k h → St (fun h => sX11_end h n a1) (fun h => sX15_end h (n + 513) a1) h (Inv n (k + 1)))
    (s2 : ∀ (n k : Nat) (h : Hp) , k < 512 → Inv n k h → St (fun h => sX11_rules F h n ) (fun h => sX15_rules F h (n + 513) ) h (Inv n (k + 1)))
    (s3 : ∀ (n k : Nat) (h : Hp) (a1 : Int32), k < 512 → Inv n k h → St (fun h => sX11_told F h n a1) (fun h => sX15_told F h (n + 513) a1) h (Inv n (k + 1)))
    (s4 : ∀ (n k : Nat) (h : Hp) (a1 : Int32), k < 512 → Inv n k h → St (fun h => sX11_out h n a1) (fun h => sX15_out h (n + 513) a1) h (Inv n (k + 1)))
    (s5 : ∀ (n k : Nat) (h : Hp) , k < 512 → Inv n k h → St (fun h => sX11_position F h n ) (fun h => sX15_position F h (n + 513) ) h (Inv n (k + 1)))
    (s6 : ∀ (n k : Nat) (h : Hp) (a1 : Int32), k < 512 → Inv n k h → St (fun h => sX11_drop h n a1) (fun h => sX15_drop h (n + 513) a1) h (Inv n (k + 1)))
    (s7 : ∀ (n k : Nat) (h : Hp) (a1 : Int32), k < 512 → Inv n k h → St (fun h => sX11_write F h n a1) (fun h => sX15_write F h (n + 513) a1) h (Inv n (k + 1)))
    (s8 : ∀ (n k : Nat) (h : Hp) (a1 a2 : Int32), k < 512 → Inv n k h → St (fun h => sX11_same F h n a1 a2) (fun h => sX15_same F h (n + 513) a1 a2) h (Inv n (k + 1)))
    (s9 : ∀ (n k : Nat) (h : Hp) (a1 a2 : Int32), k < 512 → Inv n k h → St (fun h => sX11_at h n a1 a2) (fun h => sX15_at h (n + 513) a1 a2) h (Inv n (k + 1)))
    (s10 : ∀ (n k : Nat) (h : Hp) (a1 a2 : Int32), k < 512 → Inv n k h → St (fun h => sX11_figure F h n a1 a2) (fun h => sX15_figure F h (n + 513) a1 a2) h (Inv n (k + 1)))
    (s11 : ∀ (n k : Nat) (h : Hp) (a1 a2 a3 : Int32), k < 512 → Inv n k h → St (fun h => sX11_attacked F h n a1 a2 a3) (fun h => sX15_attacked F h (n + 513) a1 a2 a3) h (Inv n (k + 1)))
    (s12 : ∀ (n k : Nat) (h : Hp) (a1 : Int32), k < 512 → Inv n k h → St (fun h => sX11_moves F h n a1) (fun h => sX15_moves F h (n + 513) a1) h (Inv n (k + 1)))
    (s13 : ∀ (n k : Nat) (h : Hp) (a1 a2 a3 : Int32), k < 512 → Inv n k h → St (fun h => sX11_move F h n a1 a2 a3) (fun h => sX15_move F h (n + 513) a1 a2 a3) h (Inv n (k + 1)))
    (s14 : ∀ (n k : Nat) (h : Hp) (a1 a2 : Int32), k < 512 → Inv n k h → St (fun h => sX11_go F h n a1 a2) (fun h => sX15_go F h (n + 513) a1 a2) h (Inv n (k + 1)))
    (s15 : ∀ (n k : Nat) (h : Hp) (a1 a2 : Int32), k < 512 → Inv n k h → St (fun h => sX11_rows F h n a1 a2) (fun h => sX15_rows F h (n + 513) a1 a2) h (Inv n (k + 1)))
    (s16 : ∀ (n k : Nat) (h : Hp) (a1 : Int32), k < 512 → Inv n k h → St (fun h => sX11_ended F h n a1) (fun h => sX15_ended F h (n + 513) a1) h (Inv n (k + 1)))
    (s17 : ∀ (n k : Nat) (h : Hp) (a1 : Int32), k < 512 → Inv n k h → St (fun h => sX11_result F h n a1) (fun h => sX15_result F h (n + 513) a1) h (Inv n (k + 1)))
    (s18 : ∀ (n k : Nat) (h : Hp) (a1 a2 : Int32), k < 512 → Inv n k h → St (fun h => sX11_say F h n a1 a2) (fun h => sX15_say_ F h (n + 513) a1 a2) h (Inv n (k + 1)))
    (s19 : ∀ (n k : Nat) (h : Hp) (a1 : Int32), k < 512 → Inv n k h → St (fun h => sX11_hear F h n a1) (fun h => sX15_hear F h (n + 513) a1) h (Inv n (k + 1)))
    (s20 : ∀ (n k : Nat) (h : Hp) (a1 a2 : Int32), k < 512 → Inv n k h → St (fun h => sX11_start F h n a1 a2) (fun h => sX15_start h (n + 513) a1 a2) h (Inv n (k + 1)))
    (s21 : ∀ (n k : Nat) (h : Hp) (a1 a2 : Int32), k < 512 → Inv n k h → St (fun h => sX11_add F h n a1 a2) (fun h => sX15_add F h (n + 513) a1 a2) h (Inv n (k + 1)))
    (s22 : ∀ (n k : Nat) (h : Hp) (a1 : Int32), k < 512 → Inv n k h → St (fun h => sX11_back h n a1) (fun h => sX15_back h (n + 513) a1) h (Inv n (k + 1)))
    (s23 : ∀ (n k : Nat) (h : Hp) (a1 a2 : Int32), k < 512 → Inv n k h → St (fun h => sX11_game F h n a1 a2) (fun h => sX15_game F h (n + 513) a1 a2) h (Inv n (k + 1)))
    (s24 : ∀ (n k : Nat) (h : Hp) (a1 a2 : Int32), k < 512 → Inv n k h → St (fun h => sX11_played h n a1 a2) (fun h => sX15_played h (n + 513) a1 a2) h (Inv n (k + 1)))
    (s25 : ∀ (n k : Nat) (h : Hp) (a1 : Int32), k < 512 → Inv n k h → St (fun h => sX11_now F h n a1) (fun h => sX15_now F h (n + 513) a1) h (Inv n (k + 1)))
    (s26 : ∀ (n k : Nat) (h : Hp) (a1 a2 : Int32), k < 512 → Inv n k h → St (fun h => sX11_book F h n a1 a2) (fun h => sX15_book F h (n + 513) a1 a2) h (Inv n (k + 1)))
    (s27 : ∀ (n k : Nat) (h : Hp) (a1 a2 a3 : Int32), k < 512 → Inv n k h → St (fun h => sX11_sees F h n a1 a2 a3) (fun h => sX15_sees F h (n + 513) a1 a2 a3) h (Inv n (k + 1)))
    (s28 : ∀ (n k : Nat) (h : Hp) (a1 a2 : Int32), k < 512 → Inv n k h → St (fun h => sX11_view F h n a1 a2) (fun h => sX15_view F h (n + 513) a1 a2) h (Inv n (k + 1)))
    (s29 : ∀ (n k : Nat) (h : Hp) (a1 : Int32), k < 512 → Inv n k h → St (fun h => sX11_before F h n a1) (fun h => sX15_before F h (n + 513) a1) h (Inv n (k + 1)))
    (s30 : ∀ (n k : Nat) (h : Hp) (a1 : Int32), k < 512 → Inv n k h → St (fun h => sX11_beforeAt F h n a1) (fun h => sX15_beforeAt F h (n + 513) a1) h (Inv n (k + 1)))
    (s31 : ∀ (n k : Nat) (h : Hp) , k < 512 → Inv n k h → St (fun h => sX11_solve F h n ) (fun h => sX15_solve F h (n + 513) ) h (Inv n (k + 1)))
    (s32 : ∀ (n k : Nat) (h : Hp) (a1 : Int32), k < 512 → Inv n k h → St (fun h => sX11_worth F h n a1) (fun h => sX15_worth F h (n + 513) a1) h (Inv n (k + 1)))
    (s33 : ∀ (n k : Nat) (h : Hp) (a1 a2 : Int32), k < 512 → Inv n k h → St (fun h => sX11_tally F h n a1 a2) (fun h => sX15_tally F h (n + 513) a1 a2) h (Inv n (k + 1)))
    (s34 : ∀ (n k : Nat) (h : Hp) (a1 a2 a3 a4 : Int32), k < 512 → Inv n k h → St (fun h => sX11_problem F h n a1 a2 a3 a4) (fun h => sX15_problem F h (n + 513) a1 a2 a3 a4) h (Inv n (k + 1)))
    (s35 : ∀ (n k : Nat) (h : Hp) (a1 : Int32), k < 512 → Inv n k h → St (fun h => sX11_key h n a1) (fun h => sX15_key h (n + 513) a1) h (Inv n (k + 1)))
    (s36 : ∀ (n k : Nat) (h : Hp) (a1 : Int32), k < 512 → Inv n k h → St (fun h => sX11_refutes h n a1) (fun h => sX15_refutes F h (n + 513) a1) h (Inv n (k + 1)))
    {xs : Nat → Int32} {L : Nat} (hL : L ≤ 3072) {Q : Int32 × Hp → Prop} {f n k i : Nat} {h : Hp} (hi : i + 6 ≤ L) (hk : k < 512) (I : Inv n k h)
    (sN : ∀ (n k : Nat) (h : Hp), Inv n k h → Inv n (k + 1) h)
    (hK : ∀ h2, Inv n (k + 1) h2 → Sat (sL_law_18 F L xs f h2 n (n + 513) (nI i + (6 : Int32))) Q) : Sat (sL_law_18 F L xs (f + 1) h n (n + 513) (nI i)) Q := by
  rw [sL_law_18, br_neg (by rw [show (6 : Int32) = nI 6 from rfl, z_sub (by omega), z_lt (by omega) (by omega)]; omega), g4 _ (by omega) hL]
  apply s_br
  · intro _
    rw [gl1 _ (by omega) hL]
    rw [gl2 _ (by omega) hL]
    rw [gl3 _ (by omega) hL]
    rw [gl4 _ (by omega) hL]
    rw [gl5 _ (by omega) hL]
    obtain ⟨a, h1, h2, e1, e2, I2⟩ := s0 n k h (xs (nI i + (1 : Int32)).toNatClampNeg) (xs (nI i + (2 : Int32)).toNatClampNeg) (xs (nI i + (3 : Int32)).toNatClampNeg) (xs (nI i + (4 : Int32)).toNatClampNeg) (xs (nI i + (5 : Int32)).toNatClampNeg) hk I
    dsimp only at e1 e2
    rw [e1, cl_some]
    unfold sL_law_225
    rw [gl1 _ (by omega) hL]
    rw [gl2 _ (by omega) hL]
    rw [gl3 _ (by omega) hL]
    rw [gl4 _ (by omega) hL]
    rw [gl5 _ (by omega) hL]
    rw [e2, cl_some]
    unfold sL_law_254 sL_law_1277
    rw [br_pos rfl, nm_eq]
    exact hK h2 I2
  intro _
  apply s_br
  · intro _
    rw [gl1 _ (by omega) hL]
    obtain ⟨a, h1, h2, e1, e2, I2⟩ := s1 n k h (xs (nI i + (1 : Int32)).toNatClampNeg) hk I
    dsimp only at e1 e2
    rw [e1, cl_some]
    unfold sL_law_268
    rw [gl1 _ (by omega) hL]
    rw [e2, cl_some]
    unfold sL_law_277 sL_law_1277
    rw [br_pos rfl, nm_eq]
    exact hK h2 I2
  intro _
  apply s_br
  · intro _
    obtain ⟨a, h1, h2, e1, e2, I2⟩ := s2 n k h  hk I
    dsimp only at e1 e2
    rw [e1, cl_some]
    unfold sL_law_286
    rw [e2, cl_some]
    unfold sL_law_290 sL_law_1277
    rw [br_pos rfl, nm_eq]
    exact hK h2 I2
  intro _
  apply s_br
  · intro _
    rw [gl1 _ (by omega) hL]
    obtain ⟨a, h1, h2, e1, e2, I2⟩ := s3 n k h (xs (nI i + (1 : Int32)).toNatClampNeg) hk I
    dsimp only at e1 e2
    rw [e1, cl_some]
    unfold sL_law_304
    rw [gl1 _ (by omega) hL]
    rw [e2, cl_some]
    unfold sL_law_313 sL_law_1277
    rw [br_pos rfl, nm_eq]
    exact hK h2 I2
  intro _
  apply s_br
  · intro _
    rw [gl1 _ (by omega) hL]
    obtain ⟨a, h1, h2, e1, e2, I2⟩ := s4 n k h (xs (nI i + (1 : Int32)).toNatClampNeg) hk I
    dsimp only at e1 e2
    rw [e1, cl_some]
    unfold sL_law_327
    rw [gl1 _ (by omega) hL]
    rw [e2, cl_some]
    unfold sL_law_336 sL_law_1277
    rw [br_pos rfl, nm_eq]
    exact hK h2 I2
  intro _
  apply s_br
  · intro _
    obtain ⟨a, h1, h2, e1, e2, I2⟩ := s5 n k h  hk I
    dsimp only at e1 e2
    rw [e1, cl_some]
    unfold sL_law_345
    rw [e2, cl_some]
    unfold sL_law_349 sL_law_1277
    rw [br_pos rfl, nm_eq]
    exact hK h2 I2
  intro _
  apply s_br
  · intro _
    rw [gl1 _ (by omega) hL]
    obtain ⟨a, h1, h2, e1, e2, I2⟩ := s6 n k h (xs (nI i + (1 : Int32)).toNatClampNeg) hk I
    dsimp only at e1 e2
    rw [e1, cl_some]
    unfold sL_law_363
    rw [gl1 _ (by omega) hL]
    rw [e2, cl_some]
    unfold sL_law_372 sL_law_1277
    rw [br_pos rfl, nm_eq]
    exact hK h2 I2
  intro _
  apply s_br
  · intro _
    rw [gl1 _ (by omega) hL]
    obtain ⟨a, h1, h2, e1, e2, I2⟩ := s7 n k h (xs (nI i + (1 : Int32)).toNatClampNeg) hk I
    dsimp only at e1 e2
    rw [e1, cl_some]
    unfold sL_law_386
    rw [gl1 _ (by omega) hL]
    rw [e2, cl_some]
    unfold sL_law_395 sL_law_1277
    rw [br_pos rfl, nm_eq]
    exact hK h2 I2
  intro _
  apply s_br
  · intro _
    rw [gl1 _ (by omega) hL]
    rw [gl2 _ (by omega) hL]
    obtain ⟨a, h1, h2, e1, e2, I2⟩ := s8 n k h (xs (nI i + (1 : Int32)).toNatClampNeg) (xs (nI i + (2 : Int32)).toNatClampNeg) hk I
    dsimp only at e1 e2
    rw [e1, cl_some]
    unfold sL_law_414
    rw [gl1 _ (by omega) hL]
    rw [gl2 _ (by omega) hL]
    rw [e2, cl_some]
    unfold sL_law_428 sL_law_1277
    rw [br_pos rfl, nm_eq]
    exact hK h2 I2
  intro _
  apply s_br
  · intro _
    rw [gl1 _ (by omega) hL]
    rw [gl2 _ (by omega) hL]
    obtain ⟨a, h1, h2, e1, e2, I2⟩ := s9 n k h (xs (nI i + (1 : Int32)).toNatClampNeg) (xs (nI i + (2 : Int32)).toNatClampNeg) hk I
    dsimp only at e1 e2
    rw [e1, cl_some]
    unfold sL_law_447
    rw [gl1 _ (by omega) hL]
    rw [gl2 _ (by omega) hL]
    rw [e2, cl_some]
    unfold sL_law_461 sL_law_1277
    rw [br_pos rfl, nm_eq]
    exact hK h2 I2
  intro _
  apply s_br
  · intro _
    rw [gl1 _ (by omega) hL]
    rw [gl2 _ (by omega) hL]
    obtain ⟨a, h1, h2, e1, e2, I2⟩ := s10 n k h (xs (nI i + (1 : Int32)).toNatClampNeg) (xs (nI i + (2 : Int32)).toNatClampNeg) hk I
    dsimp only at e1 e2
    rw [e1, cl_some]
    unfold sL_law_480
    rw [gl1 _ (by omega) hL]
    rw [gl2 _ (by omega) hL]
    rw [e2, cl_some]
    unfold sL_law_494 sL_law_1277
    rw [br_pos rfl, nm_eq]
    exact hK h2 I2
  intro _
  apply s_br
  · intro _
    rw [gl1 _ (by omega) hL]
    rw [gl2 _ (by omega) hL]
    rw [gl3 _ (by omega) hL]
    obtain ⟨a, h1, h2, e1, e2, I2⟩ := s11 n k h (xs (nI i + (1 : Int32)).toNatClampNeg) (xs (nI i + (2 : Int32)).toNatClampNeg) (xs (nI i + (3 : Int32)).toNatClampNeg) hk I
    dsimp only at e1 e2
    rw [e1, cl_some]
    unfold sL_law_518
    rw [gl1 _ (by omega) hL]
    rw [gl2 _ (by omega) hL]
    rw [gl3 _ (by omega) hL]
    rw [e2, cl_some]
    unfold sL_law_537 sL_law_1277
    rw [br_pos rfl, nm_eq]
    exact hK h2 I2
  intro _
  apply s_br
  · intro _
    rw [gl1 _ (by omega) hL]
    obtain ⟨a, h1, h2, e1, e2, I2⟩ := s12 n k h (xs (nI i + (1 : Int32)).toNatClampNeg) hk I
    dsimp only at e1 e2
    rw [e1, cl_some]
    unfold sL_law_551
    rw [gl1 _ (by omega) hL]
    rw [e2, cl_some]
    unfold sL_law_560 sL_law_1277
    rw [br_pos rfl, nm_eq]
    exact hK h2 I2
  intro _
  apply s_br
  · intro _
    rw [gl1 _ (by omega) hL]
    rw [gl2 _ (by omega) hL]
    rw [gl3 _ (by omega) hL]
    obtain ⟨a, h1, h2, e1, e2, I2⟩ := s13 n k h (xs (nI i + (1 : Int32)).toNatClampNeg) (xs (nI i + (2 : Int32)).toNatClampNeg) (xs (nI i + (3 : Int32)).toNatClampNeg) hk I
    dsimp only at e1 e2
    rw [e1, cl_some]
    unfold sL_law_584
    rw [gl1 _ (by omega) hL]
    rw [gl2 _ (by omega) hL]
    rw [gl3 _ (by omega) hL]
    rw [e2, cl_some]
    unfold sL_law_603 sL_law_1277
    rw [br_pos rfl, nm_eq]
    exact hK h2 I2
  intro _
  apply s_br
  · intro _
    rw [gl1 _ (by omega) hL]
    rw [gl2 _ (by omega) hL]
    obtain ⟨a, h1, h2, e1, e2, I2⟩ := s14 n k h (xs (nI i + (1 : Int32)).toNatClampNeg) (xs (nI i + (2 : Int32)).toNatClampNeg) hk I
    dsimp only at e1 e2
    rw [e1, cl_some]
    unfold sL_law_622
    rw [gl1 _ (by omega) hL]
    rw [gl2 _ (by omega) hL]
    rw [e2, cl_some]
    unfold sL_law_636 sL_law_1277
    rw [br_pos rfl, nm_eq]
    exact hK h2 I2
  intro _
  apply s_br
  · intro _
    rw [gl1 _ (by omega) hL]
    rw [gl2 _ (by omega) hL]
    obtain ⟨a, h1, h2, e1, e2, I2⟩ := s15 n k h (xs (nI i + (1 : Int32)).toNatClampNeg) (xs (nI i + (2 : Int32)).toNatClampNeg) hk I
    dsimp only at e1 e2
    rw [e1, cl_some]
    unfold sL_law_655
    rw [gl1 _ (by omega) hL]
    rw [gl2 _ (by omega) hL]
    rw [e2, cl_some]
    unfold sL_law_669 sL_law_1277
    rw [br_pos rfl, nm_eq]
    exact hK h2 I2
  intro _
  apply s_br
  · intro _
    rw [gl1 _ (by omega) hL]
    obtain ⟨a, h1, h2, e1, e2, I2⟩ := s16 n k h (xs (nI i + (1 : Int32)).toNatClampNeg) hk I
    dsimp only at e1 e2
    rw [e1, cl_some]
    unfold sL_law_683
    rw [gl1 _ (by omega) hL]
    rw [e2, cl_some]
    unfold sL_law_692 sL_law_1277
    rw [br_pos rfl, nm_eq]
    exact hK h2 I2
  intro _
  apply s_br
  · intro _
    rw [gl1 _ (by omega) hL]
    obtain ⟨a, h1, h2, e1, e2, I2⟩ := s17 n k h (xs (nI i + (1 : Int32)).toNatClampNeg) hk I
    dsimp only at e1 e2
    rw [e1, cl_some]
    unfold sL_law_706
    rw [gl1 _ (by omega) hL]
    rw [e2, cl_some]
    unfold sL_law_715 sL_law_1277
    rw [br_pos rfl, nm_eq]
    exact hK h2 I2
  intro _
  apply s_br
  · intro _
    rw [gl1 _ (by omega) hL]
    rw [gl2 _ (by omega) hL]
    obtain ⟨a, h1, h2, e1, e2, I2⟩ := s18 n k h (xs (nI i + (1 : Int32)).toNatClampNeg) (xs (nI i + (2 : Int32)).toNatClampNeg) hk I
    dsimp only at e1 e2
    rw [e1, cl_some]
    unfold sL_law_734
    rw [gl1 _ (by omega) hL]
    rw [gl2 _ (by omega) hL]
    rw [e2, cl_some]
    unfold sL_law_748 sL_law_1277
    rw [br_pos rfl, nm_eq]
    exact hK h2 I2
  intro _
  apply s_br
  · intro _
    rw [gl1 _ (by omega) hL]
    obtain ⟨a, h1, h2, e1, e2, I2⟩ := s19 n k h (xs (nI i + (1 : Int32)).toNatClampNeg) hk I
    dsimp only at e1 e2
    rw [e1, cl_some]
    unfold sL_law_762
    rw [gl1 _ (by omega) hL]
    rw [e2, cl_some]
    unfold sL_law_771 sL_law_1277
    rw [br_pos rfl, nm_eq]
    exact hK h2 I2
  intro _
  apply s_br
  · intro _
    rw [gl1 _ (by omega) hL]
    rw [gl2 _ (by omega) hL]
    obtain ⟨a, h1, h2, e1, e2, I2⟩ := s20 n k h (xs (nI i + (1 : Int32)).toNatClampNeg) (xs (nI i + (2 : Int32)).toNatClampNeg) hk I
    dsimp only at e1 e2
    rw [e1, cl_some]
    unfold sL_law_790
    rw [gl1 _ (by omega) hL]
    rw [gl2 _ (by omega) hL]
    rw [e2, cl_some]
    unfold sL_law_804 sL_law_1277
    rw [br_pos rfl, nm_eq]
    exact hK h2 I2
  intro _
  apply s_br
  · intro _
    rw [gl1 _ (by omega) hL]
    rw [gl2 _ (by omega) hL]
    obtain ⟨a, h1, h2, e1, e2, I2⟩ := s21 n k h (xs (nI i + (1 : Int32)).toNatClampNeg) (xs (nI i + (2 : Int32)).toNatClampNeg) hk I
    dsimp only at e1 e2
    rw [e1, cl_some]
    unfold sL_law_823
    rw [gl1 _ (by omega) hL]
    rw [gl2 _ (by omega) hL]
    rw [e2, cl_some]
    unfold sL_law_837 sL_law_1277
    rw [br_pos rfl, nm_eq]
    exact hK h2 I2
  intro _
  apply s_br
  · intro _
    rw [gl1 _ (by omega) hL]
    obtain ⟨a, h1, h2, e1, e2, I2⟩ := s22 n k h (xs (nI i + (1 : Int32)).toNatClampNeg) hk I
    dsimp only at e1 e2
    rw [e1, cl_some]
    unfold sL_law_851
    rw [gl1 _ (by omega) hL]
    rw [e2, cl_some]
    unfold sL_law_860 sL_law_1277
    rw [br_pos rfl, nm_eq]
    exact hK h2 I2
  intro _
  apply s_br
  · intro _
    rw [gl1 _ (by omega) hL]
    rw [gl2 _ (by omega) hL]
    obtain ⟨a, h1, h2, e1, e2, I2⟩ := s23 n k h (xs (nI i + (1 : Int32)).toNatClampNeg) (xs (nI i + (2 : Int32)).toNatClampNeg) hk I
    dsimp only at e1 e2
    rw [e1, cl_some]
    unfold sL_law_879
    rw [gl1 _ (by omega) hL]
    rw [gl2 _ (by omega) hL]
    rw [e2, cl_some]
    unfold sL_law_893 sL_law_1277
    rw [br_pos rfl, nm_eq]
    exact hK h2 I2
  intro _
  apply s_br
  · intro _
    rw [gl1 _ (by omega) hL]
    rw [gl2 _ (by omega) hL]
    obtain ⟨a, h1, h2, e1, e2, I2⟩ := s24 n k h (xs (nI i + (1 : Int32)).toNatClampNeg) (xs (nI i + (2 : Int32)).toNatClampNeg) hk I
    dsimp only at e1 e2
    rw [e1, cl_some]
    unfold sL_law_912
    rw [gl1 _ (by omega) hL]
    rw [gl2 _ (by omega) hL]
    rw [e2, cl_some]
    unfold sL_law_926 sL_law_1277
    rw [br_pos rfl, nm_eq]
    exact hK h2 I2
  intro _
  apply s_br
  · intro _
    rw [gl1 _ (by omega) hL]
    obtain ⟨a, h1, h2, e1, e2, I2⟩ := s25 n k h (xs (nI i + (1 : Int32)).toNatClampNeg) hk I
    dsimp only at e1 e2
    rw [e1, cl_some]
    unfold sL_law_940
    rw [gl1 _ (by omega) hL]
    rw [e2, cl_some]
    unfold sL_law_949 sL_law_1277
    rw [br_pos rfl, nm_eq]
    exact hK h2 I2
  intro _
  apply s_br
  · intro _
    rw [gl1 _ (by omega) hL]
    rw [gl2 _ (by omega) hL]
    obtain ⟨a, h1, h2, e1, e2, I2⟩ := s26 n k h (xs (nI i + (1 : Int32)).toNatClampNeg) (xs (nI i + (2 : Int32)).toNatClampNeg) hk I
    dsimp only at e1 e2
    rw [e1, cl_some]
    unfold sL_law_968
    rw [gl1 _ (by omega) hL]
    rw [gl2 _ (by omega) hL]
    rw [e2, cl_some]
    unfold sL_law_982 sL_law_1277
    rw [br_pos rfl, nm_eq]
    exact hK h2 I2
  intro _
  apply s_br
  · intro _
    rw [gl1 _ (by omega) hL]
    rw [gl2 _ (by omega) hL]
    rw [gl3 _ (by omega) hL]
    obtain ⟨a, h1, h2, e1, e2, I2⟩ := s27 n k h (xs (nI i + (1 : Int32)).toNatClampNeg) (xs (nI i + (2 : Int32)).toNatClampNeg) (xs (nI i + (3 : Int32)).toNatClampNeg) hk I
    dsimp only at e1 e2
    rw [e1, cl_some]
    unfold sL_law_1006
    rw [gl1 _ (by omega) hL]
    rw [gl2 _ (by omega) hL]
    rw [gl3 _ (by omega) hL]
    rw [e2, cl_some]
    unfold sL_law_1025 sL_law_1277
    rw [br_pos rfl, nm_eq]
    exact hK h2 I2
  intro _
  apply s_br
  · intro _
    rw [gl1 _ (by omega) hL]
    rw [gl2 _ (by omega) hL]
    obtain ⟨a, h1, h2, e1, e2, I2⟩ := s28 n k h (xs (nI i + (1 : Int32)).toNatClampNeg) (xs (nI i + (2 : Int32)).toNatClampNeg) hk I
    dsimp only at e1 e2
    rw [e1, cl_some]
    unfold sL_law_1044
    rw [gl1 _ (by omega) hL]
    rw [gl2 _ (by omega) hL]
    rw [e2, cl_some]
    unfold sL_law_1058 sL_law_1277
    rw [br_pos rfl, nm_eq]
    exact hK h2 I2
  intro _
  apply s_br
  · intro _
    rw [gl1 _ (by omega) hL]
    obtain ⟨a, h1, h2, e1, e2, I2⟩ := s29 n k h (xs (nI i + (1 : Int32)).toNatClampNeg) hk I
    dsimp only at e1 e2
    rw [e1, cl_some]
    unfold sL_law_1072
    rw [gl1 _ (by omega) hL]
    rw [e2, cl_some]
    unfold sL_law_1081 sL_law_1277
    rw [br_pos rfl, nm_eq]
    exact hK h2 I2
  intro _
  apply s_br
  · intro _
    rw [gl1 _ (by omega) hL]
    obtain ⟨a, h1, h2, e1, e2, I2⟩ := s30 n k h (xs (nI i + (1 : Int32)).toNatClampNeg) hk I
    dsimp only at e1 e2
    rw [e1, cl_some]
    unfold sL_law_1095
    rw [gl1 _ (by omega) hL]
    rw [e2, cl_some]
    unfold sL_law_1104 sL_law_1277
    rw [br_pos rfl, nm_eq]
    exact hK h2 I2
  intro _
  apply s_br
  · intro _
    obtain ⟨a, h1, h2, e1, e2, I2⟩ := s31 n k h  hk I
    dsimp only at e1 e2
    rw [e1, cl_some]
    unfold sL_law_1113
    rw [e2, cl_some]
    unfold sL_law_1117 sL_law_1277
    rw [br_pos rfl, nm_eq]
    exact hK h2 I2
  intro _
  apply s_br
  · intro _
    rw [gl1 _ (by omega) hL]
    obtain ⟨a, h1, h2, e1, e2, I2⟩ := s32 n k h (xs (nI i + (1 : Int32)).toNatClampNeg) hk I
    dsimp only at e1 e2
    rw [e1, cl_some]
    unfold sL_law_1131
    rw [gl1 _ (by omega) hL]
    rw [e2, cl_some]
    unfold sL_law_1140 sL_law_1277
    rw [br_pos rfl, nm_eq]
    exact hK h2 I2
  intro _
  apply s_br
  · intro _
    rw [gl1 _ (by omega) hL]
    rw [gl2 _ (by omega) hL]
    obtain ⟨a, h1, h2, e1, e2, I2⟩ := s33 n k h (xs (nI i + (1 : Int32)).toNatClampNeg) (xs (nI i + (2 : Int32)).toNatClampNeg) hk I
    dsimp only at e1 e2
    rw [e1, cl_some]
    unfold sL_law_1159
    rw [gl1 _ (by omega) hL]
    rw [gl2 _ (by omega) hL]
    rw [e2, cl_some]
    unfold sL_law_1173 sL_law_1277
    rw [br_pos rfl, nm_eq]
    exact hK h2 I2
  intro _
  apply s_br
  · intro _
    rw [gl1 _ (by omega) hL]
    rw [gl2 _ (by omega) hL]
    rw [gl3 _ (by omega) hL]
    rw [gl4 _ (by omega) hL]
    obtain ⟨a, h1, h2, e1, e2, I2⟩ := s34 n k h (xs (nI i + (1 : Int32)).toNatClampNeg) (xs (nI i + (2 : Int32)).toNatClampNeg) (xs (nI i + (3 : Int32)).toNatClampNeg) (xs (nI i + (4 : Int32)).toNatClampNeg) hk I
    dsimp only at e1 e2
    rw [e1, cl_some]
    unfold sL_law_1202
    rw [gl1 _ (by omega) hL]
    rw [gl2 _ (by omega) hL]
    rw [gl3 _ (by omega) hL]
    rw [gl4 _ (by omega) hL]
    rw [e2, cl_some]
    unfold sL_law_1226 sL_law_1277
    rw [br_pos rfl, nm_eq]
    exact hK h2 I2
  intro _
  apply s_br
  · intro _
    rw [gl1 _ (by omega) hL]
    obtain ⟨a, h1, h2, e1, e2, I2⟩ := s35 n k h (xs (nI i + (1 : Int32)).toNatClampNeg) hk I
    dsimp only at e1 e2
    rw [e1, cl_some]
    unfold sL_law_1240
    rw [gl1 _ (by omega) hL]
    rw [e2, cl_some]
    unfold sL_law_1249 sL_law_1277
    rw [br_pos rfl, nm_eq]
    exact hK h2 I2
  intro _
  apply s_br
  · intro _
    rw [gl1 _ (by omega) hL]
    obtain ⟨a, h1, h2, e1, e2, I2⟩ := s36 n k h (xs (nI i + (1 : Int32)).toNatClampNeg) hk I
    dsimp only at e1 e2
    rw [e1, cl_some]
    unfold sL_law_1263
    rw [gl1 _ (by omega) hL]
    rw [e2, cl_some]
    unfold sL_law_1272 sL_law_1277
    rw [br_pos rfl, nm_eq]
    exact hK h2 I2
  intro _
  unfold sL_law_1277
  rw [nm_eq]
  exact hK h (sN n k h I)

theorem law_of (hF : 600 ≤ F)
    (s0 : ∀ (n k : Nat) (h : Hp) (a1 a2 a3 a4 a5 : Int32), k < 512 → Inv n k h → St (fun h => sX11_feed h n a1 a2 a3 a4 a5) (fun h => sX15_feed F h (n + 513) a1 a2 a3 a4 a5) h (Inv n (k + 1)))
    (s1 : ∀ (n k : Nat) (h : Hp) (a1 : Int32), k < 512 → Inv n k h → St (fun h => sX11_end h n a1) (fun h => sX15_end h (n + 513) a1) h (Inv n (k + 1)))
    (s2 : ∀ (n k : Nat) (h : Hp) , k < 512 → Inv n k h → St (fun h => sX11_rules F h n ) (fun h => sX15_rules F h (n + 513) ) h (Inv n (k + 1)))
    (s3 : ∀ (n k : Nat) (h : Hp) (a1 : Int32), k < 512 → Inv n k h → St (fun h => sX11_told F h n a1) (fun h => sX15_told F h (n + 513) a1) h (Inv n (k + 1)))
    (s4 : ∀ (n k : Nat) (h : Hp) (a1 : Int32), k < 512 → Inv n k h → St (fun h => sX11_out h n a1) (fun h => sX15_out h (n + 513) a1) h (Inv n (k + 1)))
    (s5 : ∀ (n k : Nat) (h : Hp) , k < 512 → Inv n k h → St (fun h => sX11_position F h n ) (fun h => sX15_position F h (n + 513) ) h (Inv n (k + 1)))
    (s6 : ∀ (n k : Nat) (h : Hp) (a1 : Int32), k < 512 → Inv n k h → St (fun h => sX11_drop h n a1) (fun h => sX15_drop h (n + 513) a1) h (Inv n (k + 1)))
    (s7 : ∀ (n k : Nat) (h : Hp) (a1 : Int32), k < 512 → Inv n k h → St (fun h => sX11_write F h n a1) (fun h => sX15_write F h (n + 513) a1) h (Inv n (k + 1)))
    (s8 : ∀ (n k : Nat) (h : Hp) (a1 a2 : Int32), k < 512 → Inv n k h → St (fun h => sX11_same F h n a1 a2) (fun h => sX15_same F h (n + 513) a1 a2) h (Inv n (k + 1)))
    (s9 : ∀ (n k : Nat) (h : Hp) (a1 a2 : Int32), k < 512 → Inv n k h → St (fun h => sX11_at h n a1 a2) (fun h => sX15_at h (n + 513) a1 a2) h (Inv n (k + 1)))
    (s10 : ∀ (n k : Nat) (h : Hp) (a1 a2 : Int32), k < 512 → Inv n k h → St (fun h => sX11_figure F h n a1 a2) (fun h => sX15_figure F h (n + 513) a1 a2) h (Inv n (k + 1)))
    (s11 : ∀ (n k : Nat) (h : Hp) (a1 a2 a3 : Int32), k < 512 → Inv n k h → St (fun h => sX11_attacked F h n a1 a2 a3) (fun h => sX15_attacked F h (n + 513) a1 a2 a3) h (Inv n (k + 1)))
    (s12 : ∀ (n k : Nat) (h : Hp) (a1 : Int32), k < 512 → Inv n k h → St (fun h => sX11_moves F h n a1) (fun h => sX15_moves F h (n + 513) a1) h (Inv n (k + 1)))
    (s13 : ∀ (n k : Nat) (h : Hp) (a1 a2 a3 : Int32), k < 512 → Inv n k h → St (fun h => sX11_move F h n a1 a2 a3) (fun h => sX15_move F h (n + 513) a1 a2 a3) h (Inv n (k + 1)))
    (s14 : ∀ (n k : Nat) (h : Hp) (a1 a2 : Int32), k < 512 → Inv n k h → St (fun h => sX11_go F h n a1 a2) (fun h => sX15_go F h (n + 513) a1 a2) h (Inv n (k + 1)))
    (s15 : ∀ (n k : Nat) (h : Hp) (a1 a2 : Int32), k < 512 → Inv n k h → St (fun h => sX11_rows F h n a1 a2) (fun h => sX15_rows F h (n + 513) a1 a2) h (Inv n (k + 1)))
    (s16 : ∀ (n k : Nat) (h : Hp) (a1 : Int32), k < 512 → Inv n k h → St (fun h => sX11_ended F h n a1) (fun h => sX15_ended F h (n + 513) a1) h (Inv n (k + 1)))
    (s17 : ∀ (n k : Nat) (h : Hp) (a1 : Int32), k < 512 → Inv n k h → St (fun h => sX11_result F h n a1) (fun h => sX15_result F h (n + 513) a1) h (Inv n (k + 1)))
    (s18 : ∀ (n k : Nat) (h : Hp) (a1 a2 : Int32), k < 512 → Inv n k h → St (fun h => sX11_say F h n a1 a2) (fun h => sX15_say_ F h (n + 513) a1 a2) h (Inv n (k + 1)))
    (s19 : ∀ (n k : Nat) (h : Hp) (a1 : Int32), k < 512 → Inv n k h → St (fun h => sX11_hear F h n a1) (fun h => sX15_hear F h (n + 513) a1) h (Inv n (k + 1)))
    (s20 : ∀ (n k : Nat) (h : Hp) (a1 a2 : Int32), k < 512 → Inv n k h → St (fun h => sX11_start F h n a1 a2) (fun h => sX15_start h (n + 513) a1 a2) h (Inv n (k + 1)))
    (s21 : ∀ (n k : Nat) (h : Hp) (a1 a2 : Int32), k < 512 → Inv n k h → St (fun h => sX11_add F h n a1 a2) (fun h => sX15_add F h (n + 513) a1 a2) h (Inv n (k + 1)))
    (s22 : ∀ (n k : Nat) (h : Hp) (a1 : Int32), k < 512 → Inv n k h → St (fun h => sX11_back h n a1) (fun h => sX15_back h (n + 513) a1) h (Inv n (k + 1)))
    (s23 : ∀ (n k : Nat) (h : Hp) (a1 a2 : Int32), k < 512 → Inv n k h → St (fun h => sX11_game F h n a1 a2) (fun h => sX15_game F h (n + 513) a1 a2) h (Inv n (k + 1)))
    (s24 : ∀ (n k : Nat) (h : Hp) (a1 a2 : Int32), k < 512 → Inv n k h → St (fun h => sX11_played h n a1 a2) (fun h => sX15_played h (n + 513) a1 a2) h (Inv n (k + 1)))
    (s25 : ∀ (n k : Nat) (h : Hp) (a1 : Int32), k < 512 → Inv n k h → St (fun h => sX11_now F h n a1) (fun h => sX15_now F h (n + 513) a1) h (Inv n (k + 1)))
    (s26 : ∀ (n k : Nat) (h : Hp) (a1 a2 : Int32), k < 512 → Inv n k h → St (fun h => sX11_book F h n a1 a2) (fun h => sX15_book F h (n + 513) a1 a2) h (Inv n (k + 1)))
    (s27 : ∀ (n k : Nat) (h : Hp) (a1 a2 a3 : Int32), k < 512 → Inv n k h → St (fun h => sX11_sees F h n a1 a2 a3) (fun h => sX15_sees F h (n + 513) a1 a2 a3) h (Inv n (k + 1)))
    (s28 : ∀ (n k : Nat) (h : Hp) (a1 a2 : Int32), k < 512 → Inv n k h → St (fun h => sX11_view F h n a1 a2) (fun h => sX15_view F h (n + 513) a1 a2) h (Inv n (k + 1)))
    (s29 : ∀ (n k : Nat) (h : Hp) (a1 : Int32), k < 512 → Inv n k h → St (fun h => sX11_before F h n a1) (fun h => sX15_before F h (n + 513) a1) h (Inv n (k + 1)))
    (s30 : ∀ (n k : Nat) (h : Hp) (a1 : Int32), k < 512 → Inv n k h → St (fun h => sX11_beforeAt F h n a1) (fun h => sX15_beforeAt F h (n + 513) a1) h (Inv n (k + 1)))
    (s31 : ∀ (n k : Nat) (h : Hp) , k < 512 → Inv n k h → St (fun h => sX11_solve F h n ) (fun h => sX15_solve F h (n + 513) ) h (Inv n (k + 1)))
    (s32 : ∀ (n k : Nat) (h : Hp) (a1 : Int32), k < 512 → Inv n k h → St (fun h => sX11_worth F h n a1) (fun h => sX15_worth F h (n + 513) a1) h (Inv n (k + 1)))
    (s33 : ∀ (n k : Nat) (h : Hp) (a1 a2 : Int32), k < 512 → Inv n k h → St (fun h => sX11_tally F h n a1 a2) (fun h => sX15_tally F h (n + 513) a1 a2) h (Inv n (k + 1)))
    (s34 : ∀ (n k : Nat) (h : Hp) (a1 a2 a3 a4 : Int32), k < 512 → Inv n k h → St (fun h => sX11_problem F h n a1 a2 a3 a4) (fun h => sX15_problem F h (n + 513) a1 a2 a3 a4) h (Inv n (k + 1)))
    (s35 : ∀ (n k : Nat) (h : Hp) (a1 : Int32), k < 512 → Inv n k h → St (fun h => sX11_key h n a1) (fun h => sX15_key h (n + 513) a1) h (Inv n (k + 1)))
    (s36 : ∀ (n k : Nat) (h : Hp) (a1 : Int32), k < 512 → Inv n k h → St (fun h => sX11_refutes h n a1) (fun h => sX15_refutes F h (n + 513) a1) h (Inv n (k + 1)))
    (sN : ∀ (n k : Nat) (h : Hp), Inv n k h → Inv n (k + 1) h) (sS : ∀ n, Sat (sX11_init F (nC (h00 n) 11 0 18) n) fun o => Sat (sX15_init F (nC o 15 0 71) (hS o)) fun v => hS o = n + 513 ∧ Inv n 0 v)
    (sR : ∀ n k h, Inv n k h → hS h - n ≤ 600000 ∧ hL h ≤ 7302250) : ∀ (n L : Nat) (xs : Nat → Int32), L ≤ 3072 → Sat (sL_law F L xs (h00 n)) fun o => o.1 = 1 ∧ hS o.2 - n ≤ 600000 ∧ hL o.2 ≤ 7302250 := by
  intro n L xs hLe
  have go : ∀ (f k : Nat) (h : Hp), 513 - k < f → k ≤ 512 → 6 * k ≤ L + 5 → Inv n k h → Sat (sL_law_18 F L xs f h n (n + 513) (nI (6 * k))) fun o => o.1 = 1 ∧ hS o.2 - n ≤ 600000 ∧ hL o.2 ≤ 7302250 := by
    intro f
    induction f with
    | zero => intro k h hk; omega
    | succ f ih =>
      intro k h hk k5 kL I
      by_cases c : 6 * k + 6 ≤ L
      · refine one_step s0 s1 s2 s3 s4 s5 s6 s7 s8 s9 s10 s11 s12 s13 s14 s15 s16 s17 s18 s19 s20 s21 s22 s23 s24 s25 s26 s27 s28 s29 s30 s31 s32 s33 s34 s35 s36 hLe c (by omega) I sN ?_
        intro h2 I2
        rw [show (6 : Int32) = nI 6 from rfl, z_add]
        exact ih (k + 1) h2 (by omega) (by omega) (by omega) I2
      · rw [sL_law_18, br_pos]
        · exact s_some ⟨rfl, sR n k h I⟩
        · rw [Int32.lt_iff_toInt_lt, show (6 : Int32) = nI 6 from rfl, z_toInt (n := 6 * k) (by omega)]
          by_cases c2 : 6 ≤ L
          · rw [z_sub c2, z_toInt (by omega)]; omega
          · have : L = 0 ∨ L = 1 ∨ L = 2 ∨ L = 3 ∨ L = 4 ∨ L = 5 := by omega
            have e : (nI L - nI 6).toInt = (L : Int) - 6 := by
              rcases this with rfl | rfl | rfl | rfl | rfl | rfl <;> decide
            rw [e]; omega
  unfold sL_law sL_law_3
  rw [nm_eq, nm_eq]
  apply s_cl
  refine s_imp (sS n) (fun o ho => ?_)
  unfold sL_law_7
  rw [nm_eq, nm_eq]
  unfold sL_law_11
  apply s_cl
  refine s_imp ho (fun v hv => ?_)
  unfold sL_law_15
  rw [hv.1]
  exact go F 0 v (by omega) (by omega) (by omega) hv.2
end
/-- what holds behind k calls -/
abbrev Iv (n k : Nat) (h : Hp) : Prop := ∃ j, j ≤ k ∧ j ≤ 512 ∧ TI n j (n + 42600 + j, 6142800 + 8 * j) h
theorem si_le {n m : Nat} {L L' : Nat × Nat} {h : Hp} (I : SI n m L h) (l1 : L.1 ≤ L'.1) (l2 : L.2 ≤ L'.2) : SI n m L' h := by
  obtain ⟨ρ, c, T, r0, rm, I1, P, ⟨kp, ke, na, nd, ng, nf, hp, hq, ha, hd, hg, hf, cp, j1, j2⟩, tp⟩ := I
  exact ⟨ρ, c, T, r0, rm, I1, P, ⟨kp, ke, na, nd, ng, nf, hp, hq, ha, hd, hg, hf, cp, Nat.le_trans j1 l1, Nat.le_trans j2 l2⟩, tp⟩
theorem iv_t {n j k : Nat} {h : Hp} {A B : Hp → Option (Int32 × Hp)} {L : Nat × Nat} (j1 : j ≤ k) (hk : k < 512) (s : St A B h (TI n (j + 1) L)) (l1 : L.1 ≤ n + 42600 + (j + 1) := by dsimp only; omega) (l2 : L.2 ≤ 6142800 + 8 * (j + 1) := by dsimp only; omega) : St A B h (Iv n (k + 1)) := by
  obtain ⟨a, h1, h2, e1, e2, I2, J2⟩ := s
  exact ⟨a, h1, h2, e1, e2, j + 1, by omega, by omega, si_le I2 l1 l2, J2⟩
theorem law_pure : PureLaw := by
  intro n L xs hL
  have hF : 2000000 ≤ 2000000 := Nat.le_refl _
  have z := law_of (F := 2000000) (Inv := Iv) (by omega)
    (fun n k h _ _ _ _ _ hk ⟨j, j1, j2, I⟩ => iv_t j1 hk (tj_feed hF I (by omega)))
    (fun n k h _ hk ⟨j, j1, j2, I⟩ => iv_t j1 hk (tj_end hF I (by omega)))
    (fun n k h  hk ⟨j, j1, j2, I⟩ => iv_t j1 hk (tj_rules hF I (by omega)))
    (fun n k h _ hk ⟨j, j1, j2, I⟩ => iv_t j1 hk (tj_told hF I (by omega)))
    (fun n k h _ hk ⟨j, j1, j2, I⟩ => iv_t j1 hk (tj_out hF I (by omega)))
    (fun n k h  hk ⟨j, j1, j2, I⟩ => iv_t j1 hk (tj_position hF I (by omega)))
    (fun n k h _ hk ⟨j, j1, j2, I⟩ => iv_t j1 hk (tj_drop hF I (by omega)))
    (fun n k h _ hk ⟨j, j1, j2, I⟩ => iv_t j1 hk (tj_write hF I (by omega)))
    (fun n k h _ _ hk ⟨j, j1, j2, I⟩ => iv_t j1 hk (tj_same hF I (by omega)))
    (fun n k h _ _ hk ⟨j, j1, j2, I⟩ => iv_t j1 hk (tj_at hF I (by omega)))
    (fun n k h _ _ hk ⟨j, j1, j2, I⟩ => iv_t j1 hk (tj_figure hF I (by omega)))
    (fun n k h _ _ _ hk ⟨j, j1, j2, I⟩ => iv_t j1 hk (tj_attacked hF I (by omega)))
    (fun n k h _ hk ⟨j, j1, j2, I⟩ => iv_t j1 hk (tj_moves hF I (by omega)))
    (fun n k h _ _ _ hk ⟨j, j1, j2, I⟩ => iv_t j1 hk (tj_move hF I (by omega)))
    (fun n k h _ _ hk ⟨j, j1, j2, I⟩ => iv_t j1 hk (tj_go hF I (by omega)))
    (fun n k h _ _ hk ⟨j, j1, j2, I⟩ => iv_t j1 hk (tj_rows hF I (by omega)))
    (fun n k h _ hk ⟨j, j1, j2, I⟩ => iv_t j1 hk (tj_ended hF I (by omega)))
    (fun n k h _ hk ⟨j, j1, j2, I⟩ => iv_t j1 hk (tj_result hF I (by omega)))
    (fun n k h _ _ hk ⟨j, j1, j2, I⟩ => iv_t j1 hk (tj_say hF I (by omega)))
    (fun n k h _ hk ⟨j, j1, j2, I⟩ => iv_t j1 hk (tj_hear hF I (by omega)))
    (fun n k h _ _ hk ⟨j, j1, j2, I⟩ => iv_t j1 hk (tj_start hF I (by omega)))
    (fun n k h _ _ hk ⟨j, j1, j2, I⟩ => iv_t j1 hk (tj_add hF I (by omega)))
    (fun n k h _ hk ⟨j, j1, j2, I⟩ => iv_t j1 hk (tj_back hF I (by omega)))
    (fun n k h _ _ hk ⟨j, j1, j2, I⟩ => iv_t j1 hk (tj_game hF I (by omega)))
    (fun n k h _ _ hk ⟨j, j1, j2, I⟩ => iv_t j1 hk (tj_played hF I (by omega)))
    (fun n k h _ hk ⟨j, j1, j2, I⟩ => iv_t j1 hk (tj_now hF I (by omega)))
    (fun n k h _ _ hk ⟨j, j1, j2, I⟩ => iv_t j1 hk (tj_book hF I (by omega)))
    (fun n k h _ _ _ hk ⟨j, j1, j2, I⟩ => iv_t j1 hk (tj_sees hF I (by omega)))
    (fun n k h _ _ hk ⟨j, j1, j2, I⟩ => iv_t j1 hk (tj_view hF I (by omega)))
    (fun n k h _ hk ⟨j, j1, j2, I⟩ => iv_t j1 hk (tj_before hF I (by omega)))
    (fun n k h _ hk ⟨j, j1, j2, I⟩ => iv_t j1 hk (tj_beforeAt hF I (by omega)))
    (fun n k h  hk ⟨j, j1, j2, I⟩ => iv_t j1 hk (tj_solve hF I (by omega)))
    (fun n k h _ hk ⟨j, j1, j2, I⟩ => iv_t j1 hk (tj_worth hF I (by omega)))
    (fun n k h _ _ hk ⟨j, j1, j2, I⟩ => iv_t j1 hk (tj_tally hF I (by omega)))
    (fun n k h _ _ _ _ hk ⟨j, j1, j2, I⟩ => iv_t j1 hk (tj_problem hF I (by omega)))
    (fun n k h _ hk ⟨j, j1, j2, I⟩ => iv_t j1 hk (tj_key hF I (by omega)))
    (fun n k h _ hk ⟨j, j1, j2, I⟩ => iv_t j1 hk (tj_refutes hF I (by omega)))
    (fun n k h ⟨j, j1, j2, I⟩ => ⟨j, by omega, j2, I⟩)
    (fun n => by
      obtain ⟨c, o, e, C⟩ := s_class n
      obtain ⟨v, e2, I⟩ := s_both C
      have os : hS o = n + 513 := congrArg Prod.fst C.2.2.2.1
      exact ⟨o, e, v, by rw [os]; exact e2, os, 0, Nat.le_refl _, Nat.zero_le _, s_ti e e2 I⟩)
    (fun n k h ⟨j, j1, j2, I, _⟩ => by
      obtain ⟨ρ, c, T, r0, rm, I1, P, ⟨kp, ke, na, nd, ng, nf, hp, hq, ha, hd, hg, hf, cp, j3, j4⟩, tp⟩ := I
      have j3 : _ ≤ n + 42600 + j := j3
      have j4 : _ ≤ 6142800 + 8 * j := j4
      show h.1.1 - n ≤ 600000 ∧ h.1.2 ≤ 7302250
      omega)
    n L xs hL
  obtain ⟨o, e, h⟩ := z
  exact ⟨2000000, o, e, h⟩
