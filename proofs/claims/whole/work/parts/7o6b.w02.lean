section
/-! what sX15_isBlast;x0=S:513;x1=S:514|sX15_isHill;x0=S:513;x1=S:514|sX15_isChecks;x0=S:513;x1=S:514 writes: printed by wfx.py -/
theorem xu_X15_byteAt_12 {n : Nat} {g : Hp} {o : Int32 × Hp} {t0 : Int32} {h : Hp} (k : DyX n xlU g h) (e : sX15_byteAt_12 h t0 = some o) : DyX n xlU g o.2 ∧ FrW (WBl n 516) h o.2 := by
  unfold sX15_byteAt_12 at e
  rw [← Option.some.inj e]; exact ⟨k, fw_0⟩
theorem xu_X15_byteAt {n : Nat} {g : Hp} {o : Int32 × Hp} {x2 : Int32} {x3 : Int32} {h : Hp} (k : DyX n xlU g h) (e : sX15_byteAt h (n + 513) (n + 514) x2 x3 = some o) : DyX n xlU g o.2 ∧ FrW (WBl n 516) h o.2 := by
  unfold sX15_byteAt at e
  rcases br_s e with ⟨_, e⟩ | ⟨_, e⟩
  · exact xu_X15_byteAt_12 k e
  · replace e := (gd_s e).2
    exact xu_X15_byteAt_12 k e
theorem xu_X15_isSmall_17 {n : Nat} {g : Hp} {o : Int32 × Hp} {t0 : Int32} {h : Hp} (k : DyX n xlU g h) (e : sX15_isSmall_17 h t0 = some o) : DyX n xlU g o.2 ∧ FrW (WBl n 516) h o.2 := by
  unfold sX15_isSmall_17 at e
  replace e := (gd_s e).2
  rw [← Option.some.inj e]; exact ⟨k, fw_0⟩
theorem xu_X15_isSmall_16 {n : Nat} {g : Hp} {o : Int32 × Hp} {h : Hp} (k : DyX n xlU g h) (e : sX15_isSmall_16 h = some o) : DyX n xlU g o.2 ∧ FrW (WBl n 516) h o.2 := by
  unfold sX15_isSmall_16 at e
  exact xu_X15_isSmall_17 k e
theorem xu_X15_isSmall {n : Nat} {g : Hp} {o : Int32 × Hp} {x0 : Int32} {h : Hp} (k : DyX n xlU g h) (e : sX15_isSmall h x0 = some o) : DyX n xlU g o.2 ∧ FrW (WBl n 516) h o.2 := by
  unfold sX15_isSmall at e
  rcases br_s e with ⟨_, e⟩ | ⟨_, e⟩
  · exact xu_X15_isSmall_16 k e
  · rcases br_s e with ⟨_, e⟩ | ⟨_, e⟩
    · exact xu_X15_isSmall_16 k e
    · exact xu_X15_isSmall_17 k e
theorem xu_X15_isDigit_17 {n : Nat} {g : Hp} {o : Int32 × Hp} {t0 : Int32} {h : Hp} (k : DyX n xlU g h) (e : sX15_isDigit_17 h t0 = some o) : DyX n xlU g o.2 ∧ FrW (WBl n 516) h o.2 := by
  unfold sX15_isDigit_17 at e
  replace e := (gd_s e).2
  rw [← Option.some.inj e]; exact ⟨k, fw_0⟩
theorem xu_X15_isDigit_16 {n : Nat} {g : Hp} {o : Int32 × Hp} {h : Hp} (k : DyX n xlU g h) (e : sX15_isDigit_16 h = some o) : DyX n xlU g o.2 ∧ FrW (WBl n 516) h o.2 := by
  unfold sX15_isDigit_16 at e
  exact xu_X15_isDigit_17 k e
theorem xu_X15_isDigit {n : Nat} {g : Hp} {o : Int32 × Hp} {x0 : Int32} {h : Hp} (k : DyX n xlU g h) (e : sX15_isDigit h x0 = some o) : DyX n xlU g o.2 ∧ FrW (WBl n 516) h o.2 := by
  unfold sX15_isDigit at e
  rcases br_s e with ⟨_, e⟩ | ⟨_, e⟩
  · exact xu_X15_isDigit_16 k e
  · rcases br_s e with ⟨_, e⟩ | ⟨_, e⟩
    · exact xu_X15_isDigit_16 k e
    · exact xu_X15_isDigit_17 k e
theorem xu_X15_nextToken_308 {n : Nat} {g : Hp} {F : Nat} {o : Hp} {h : Hp} (k : DyX n xlU g h) (e : sX15_nextToken_308 F h = some o) : DyX n xlU g o ∧ FrW (WBl n 516) h o := by
  unfold sX15_nextToken_308 at e
  rw [← Option.some.inj e]; exact ⟨k, fw_0⟩
theorem xu_X15_nextToken_298 {n : Nat} {g : Hp} {F : Nat} {o : Hp} {x3 : Int32} {t0 : Int32} {h : Hp} (k : DyX n xlU g h) (e : sX15_nextToken_298 F h (n + 513) x3 t0 (n + 513) = some o) : DyX n xlU g o ∧ FrW (WBl n 516) h o := by
  unfold sX15_nextToken_298 at e
  obtain ⟨h_1, wh_1, e⟩ := nm_s e
  have kh_1 : DyX n xlU g h_1 := by rw [wh_1]; exact dx_wI k
  have fh_1 : FrW (WBl n 516) h h_1 := by rw [wh_1]; exact fw_wI fw_0 (by unfold WBl; omega)
  obtain ⟨h_2, wh_2, e⟩ := nm_s e
  have kh_2 : DyX n xlU g h_2 := by rw [wh_2]; exact dx_wI kh_1
  have fh_2 : FrW (WBl n 516) h h_2 := by rw [wh_2]; exact fw_wI fh_1 (by unfold WBl; omega)
  exact ⟨(xu_X15_nextToken_308 kh_2 e).1, fw_t fh_2 (xu_X15_nextToken_308 kh_2 e).2⟩
theorem xu_X15_nextToken_293 {n : Nat} {g : Hp} {F : Nat} {o : Hp} {x3 : Int32} {h : Hp} (k : DyX n xlU g h) (e : sX15_nextToken_293 F h (n + 513) x3 (n + 513) = some o) : DyX n xlU g o ∧ FrW (WBl n 516) h o := by
  unfold sX15_nextToken_293 at e
  exact xu_X15_nextToken_298 k e
theorem xu_X15_nextToken_278 {n : Nat} {g : Hp} {F : Nat} {o : Hp} {x3 : Int32} {x4 : Int32} {h : Hp} (k : DyX n xlU g h) (e : sX15_nextToken_278 F h (n + 513) x3 x4 = some o) : DyX n xlU g o ∧ FrW (WBl n 516) h o := by
  unfold sX15_nextToken_278 at e
  rcases br_s e with ⟨_, e⟩ | ⟨_, e⟩
  · exact xu_X15_nextToken_293 k e
  · rcases br_s e with ⟨_, e⟩ | ⟨_, e⟩
    · exact xu_X15_nextToken_293 k e
    · exact xu_X15_nextToken_298 k e
theorem xu_X15_nextToken_266 {n : Nat} {g : Hp} {F : Nat} {o : Hp} {x6 : Int32} {t0 : Int32} {h : Hp} (k : DyX n xlU g h) (e : sX15_nextToken_266 F h (n + 513) x6 t0 (n + 513) = some o) : DyX n xlU g o ∧ FrW (WBl n 516) h o := by
  unfold sX15_nextToken_266 at e
  obtain ⟨h_1, wh_1, e⟩ := nm_s e
  have kh_1 : DyX n xlU g h_1 := by rw [wh_1]; exact dx_wI k
  have fh_1 : FrW (WBl n 516) h h_1 := by rw [wh_1]; exact fw_wI fw_0 (by unfold WBl; omega)
  obtain ⟨h_2, wh_2, e⟩ := nm_s e
  have kh_2 : DyX n xlU g h_2 := by rw [wh_2]; exact dx_wI kh_1
  have fh_2 : FrW (WBl n 516) h h_2 := by rw [wh_2]; exact fw_wI fh_1 (by unfold WBl; omega)
  exact ⟨(xu_X15_nextToken_308 kh_2 e).1, fw_t fh_2 (xu_X15_nextToken_308 kh_2 e).2⟩
theorem xu_X15_nextToken_242 {n : Nat} {g : Hp} {F : Nat} {o : Hp} {x4 : Int32} {x6 : Int32} {t0 : Int32} {h : Hp} (k : DyX n xlU g h) (e : sX15_nextToken_242 F h (n + 513) x4 x6 t0 (n + 513) = some o) : DyX n xlU g o ∧ FrW (WBl n 516) h o := by
  unfold sX15_nextToken_242 at e
  obtain ⟨h_1, wh_1, e⟩ := nm_s e
  have kh_1 : DyX n xlU g h_1 := by rw [wh_1]; exact dx_wI k
  have fh_1 : FrW (WBl n 516) h h_1 := by rw [wh_1]; exact fw_wI fw_0 (by unfold WBl; omega)
  rcases br_s e with ⟨_, e⟩ | ⟨_, e⟩
  · exact ⟨(xu_X15_nextToken_266 kh_1 e).1, fw_t fh_1 (xu_X15_nextToken_266 kh_1 e).2⟩
  · exact ⟨(xu_X15_nextToken_266 kh_1 e).1, fw_t fh_1 (xu_X15_nextToken_266 kh_1 e).2⟩
theorem xu_X15_nextToken_194 {n : Nat} {g : Hp} {F : Nat} {o : Hp} {x4 : Int32} {x5 : Int32} {x6 : Int32} {t0 : Int32} {h : Hp} (k : DyX n xlU g h) (e : sX15_nextToken_194 F h (n + 513) (n + 514) x4 x5 x6 t0 (n + 513) = some o) : DyX n xlU g o ∧ FrW (WBl n 516) h o := by
  unfold sX15_nextToken_194 at e
  obtain ⟨h_1, wh_1, e⟩ := nm_s e
  have kh_1 : DyX n xlU g h_1 := by rw [wh_1]; exact dx_wI k
  have fh_1 : FrW (WBl n 516) h h_1 := by rw [wh_1]; exact fw_wI fw_0 (by unfold WBl; omega)
  replace e := (gd_s e).2
  obtain ⟨h_3, wh_3, e⟩ := nm_s e
  have kh_3 : DyX n xlU g h_3 := by rw [wh_3]; exact dx_wI kh_1
  have fh_3 : FrW (WBl n 516) h h_3 := by rw [wh_3]; exact fw_wI fh_1 (by unfold WBl; omega)
  rcases br_s e with ⟨_, e⟩ | ⟨_, e⟩
  · replace e := (gd_s e).2
    exact ⟨(xu_X15_nextToken_242 kh_3 e).1, fw_t fh_3 (xu_X15_nextToken_242 kh_3 e).2⟩
  · exact ⟨(xu_X15_nextToken_242 kh_3 e).1, fw_t fh_3 (xu_X15_nextToken_242 kh_3 e).2⟩
theorem xu_X15_nextToken_159 {n : Nat} {g : Hp} {F : Nat} {o : Hp} : ∀ (f : Nat) {h : Hp} {x2 : Int32} {x4 : Int32} {x5 : Int32} {x6 : Int32}, DyX n xlU g h → sX15_nextToken_159 F f h (n + 513) (n + 514) x2 x4 x5 x6 = some o → DyX n xlU g o ∧ FrW (WBl n 516) h o := by
  intro f
  induction f with
  | zero => intro h x2 x4 x5 x6 _ e; exact absurd e (by rw [sX15_nextToken_159]; exact fun z => nomatch z)
  | succ f ih =>
    intro h x2 x4 x5 x6 k e
    rw [sX15_nextToken_159] at e
    obtain ⟨o_1, eo_1, e⟩ := cl_s e
    obtain ⟨ko_1, fo_1⟩ := xu_X15_byteAt k eo_1
    obtain ⟨o_2, eo_2, e⟩ := cl_s e
    obtain ⟨ko_2, fo_2⟩ := xu_X15_isDigit ko_1 eo_2
    replace fo_2 := fw_t fo_1 fo_2
    rcases br_s e with ⟨_, e⟩ | ⟨_, e⟩
    · rcases br_s e with ⟨_, e⟩ | ⟨_, e⟩
      · exact ⟨(xu_X15_nextToken_194 ko_2 e).1, fw_t fo_2 (xu_X15_nextToken_194 ko_2 e).2⟩
      · exact ⟨(xu_X15_nextToken_194 ko_2 e).1, fw_t fo_2 (xu_X15_nextToken_194 ko_2 e).2⟩
    · obtain ⟨v_5, wv_5, e⟩ := nm_s e
      exact ⟨(ih ko_2 e).1, fw_t fo_2 (ih ko_2 e).2⟩
theorem xu_X15_nextToken_153 {n : Nat} {g : Hp} {F : Nat} {o : Hp} {x2 : Int32} {x4 : Int32} {t0 : Int32} {h : Hp} (k : DyX n xlU g h) (e : sX15_nextToken_153 F h (n + 513) (n + 514) x2 x4 t0 = some o) : DyX n xlU g o ∧ FrW (WBl n 516) h o := by
  unfold sX15_nextToken_153 at e
  exact xu_X15_nextToken_159 F k e
theorem xu_X15_nextToken_139 {n : Nat} {g : Hp} {F : Nat} {o : Hp} {x2 : Int32} {x3 : Int32} {x4 : Int32} {h : Hp} (k : DyX n xlU g h) (e : sX15_nextToken_139 F h (n + 513) (n + 514) x2 x3 x4 = some o) : DyX n xlU g o ∧ FrW (WBl n 516) h o := by
  unfold sX15_nextToken_139 at e
  rcases br_s e with ⟨_, e⟩ | ⟨_, e⟩
  · exact xu_X15_nextToken_153 k e
  · exact xu_X15_nextToken_153 k e
theorem xu_X15_nextToken_77 {n : Nat} {g : Hp} {F : Nat} {o : Hp} : ∀ (f : Nat) {h : Hp} {x2 : Int32} {x3 : Int32}, DyX n xlU g h → sX15_nextToken_77 F f h (n + 513) (n + 514) x2 x3 = some o → DyX n xlU g o ∧ FrW (WBl n 516) h o := by
  intro f
  induction f with
  | zero => intro h x2 x3 _ e; exact absurd e (by rw [sX15_nextToken_77]; exact fun z => nomatch z)
  | succ f ih =>
    intro h x2 x3 k e
    rw [sX15_nextToken_77] at e
    obtain ⟨o_1, eo_1, e⟩ := cl_s e
    obtain ⟨ko_1, fo_1⟩ := xu_X15_byteAt k eo_1
    obtain ⟨o_2, eo_2, e⟩ := cl_s e
    obtain ⟨ko_2, fo_2⟩ := xu_X15_isSmall ko_1 eo_2
    replace fo_2 := fw_t fo_1 fo_2
    rcases br_s e with ⟨_, e⟩ | ⟨_, e⟩
    · obtain ⟨h_4, wh_4, e⟩ := nm_s e
      have kh_4 : DyX n xlU g h_4 := by rw [wh_4]; exact dx_wI ko_2
      have fh_4 : FrW (WBl n 516) h h_4 := by rw [wh_4]; exact fw_wI fo_2 (by unfold WBl; omega)
      obtain ⟨h_5, wh_5, e⟩ := nm_s e
      have kh_5 : DyX n xlU g h_5 := by rw [wh_5]; exact dx_wI kh_4
      have fh_5 : FrW (WBl n 516) h h_5 := by rw [wh_5]; exact fw_wI fh_4 (by unfold WBl; omega)
      exact ⟨(xu_X15_nextToken_308 kh_5 e).1, fw_t fh_5 (xu_X15_nextToken_308 kh_5 e).2⟩
    · obtain ⟨v_6, wv_6, e⟩ := nm_s e
      exact ⟨(ih ko_2 e).1, fw_t fo_2 (ih ko_2 e).2⟩
theorem xu_X15_nextToken_32 {n : Nat} {g : Hp} {F : Nat} {o : Hp} {x2 : Int32} {x3 : Int32} {h : Hp} (k : DyX n xlU g h) (e : sX15_nextToken_32 F h (n + 513) (n + 514) x2 x3 = some o) : DyX n xlU g o ∧ FrW (WBl n 516) h o := by
  unfold sX15_nextToken_32 at e
  obtain ⟨h_1, wh_1, e⟩ := nm_s e
  have kh_1 : DyX n xlU g h_1 := by rw [wh_1]; exact dx_wI k
  have fh_1 : FrW (WBl n 516) h h_1 := by rw [wh_1]; exact fw_wI fw_0 (by unfold WBl; omega)
  obtain ⟨o_2, eo_2, e⟩ := cl_s e
  obtain ⟨ko_2, fo_2⟩ := xu_X15_byteAt kh_1 eo_2
  replace fo_2 := fw_t fh_1 fo_2
  rcases br_s e with ⟨_, e⟩ | ⟨_, e⟩
  · obtain ⟨o_4, eo_4, e⟩ := cl_s e
    obtain ⟨ko_4, fo_4⟩ := xu_X15_isSmall ko_2 eo_4
    replace fo_4 := fw_t fo_2 fo_4
    rcases br_s e with ⟨_, e⟩ | ⟨_, e⟩
    · obtain ⟨o_6, eo_6, e⟩ := cl_s e
      obtain ⟨ko_6, fo_6⟩ := xu_X15_isDigit ko_4 eo_6
      replace fo_6 := fw_t fo_4 fo_6
      rcases br_s e with ⟨_, e⟩ | ⟨_, e⟩
      · rcases br_s e with ⟨_, e⟩ | ⟨_, e⟩
        · obtain ⟨o_9, eo_9, e⟩ := cl_s e
          obtain ⟨ko_9, fo_9⟩ := xu_X15_byteAt ko_6 eo_9
          replace fo_9 := fw_t fo_6 fo_9
          obtain ⟨o_10, eo_10, e⟩ := cl_s e
          obtain ⟨ko_10, fo_10⟩ := xu_X15_isDigit ko_9 eo_10
          replace fo_10 := fw_t fo_9 fo_10
          rcases br_s e with ⟨_, e⟩ | ⟨_, e⟩
          · exact ⟨(xu_X15_nextToken_278 ko_10 e).1, fw_t fo_10 (xu_X15_nextToken_278 ko_10 e).2⟩
          · exact ⟨(xu_X15_nextToken_139 ko_10 e).1, fw_t fo_10 (xu_X15_nextToken_139 ko_10 e).2⟩
        · exact ⟨(xu_X15_nextToken_278 ko_6 e).1, fw_t fo_6 (xu_X15_nextToken_278 ko_6 e).2⟩
      · exact ⟨(xu_X15_nextToken_139 ko_6 e).1, fw_t fo_6 (xu_X15_nextToken_139 ko_6 e).2⟩
    · exact ⟨(xu_X15_nextToken_77 F ko_4 e).1, fw_t fo_4 (xu_X15_nextToken_77 F ko_4 e).2⟩
  · obtain ⟨h_12, wh_12, e⟩ := nm_s e
    have kh_12 : DyX n xlU g h_12 := by rw [wh_12]; exact dx_wI ko_2
    have fh_12 : FrW (WBl n 516) h h_12 := by rw [wh_12]; exact fw_wI fo_2 (by unfold WBl; omega)
    obtain ⟨h_13, wh_13, e⟩ := nm_s e
    have kh_13 : DyX n xlU g h_13 := by rw [wh_13]; exact dx_wI kh_12
    have fh_13 : FrW (WBl n 516) h h_13 := by rw [wh_13]; exact fw_wI fh_12 (by unfold WBl; omega)
    obtain ⟨h_14, wh_14, e⟩ := nm_s e
    have kh_14 : DyX n xlU g h_14 := by rw [wh_14]; exact dx_wI kh_13
    have fh_14 : FrW (WBl n 516) h h_14 := by rw [wh_14]; exact fw_wI fh_13 (by unfold WBl; omega)
    exact ⟨(xu_X15_nextToken_308 kh_14 e).1, fw_t fh_14 (xu_X15_nextToken_308 kh_14 e).2⟩
theorem xu_X15_nextToken_26 {n : Nat} {g : Hp} {F : Nat} {o : Hp} {x2 : Int32} {x3 : Int32} {k_5 : Hp → Nat → Nat → Int32 → Int32 → Option (Hp)} (D_5 : ∀ {h : Hp} {y3 : Int32} {y4 : Int32}, DyX n xlU g h → k_5 h (n + 513) (n + 514) y3 y4 = some o → DyX n xlU g o ∧ FrW (WBl n 516) h o) {h : Hp} (k : DyX n xlU g h) (e : sX15_nextToken_26 F k_5 h (n + 513) (n + 514) x2 x3 = some o) : DyX n xlU g o ∧ FrW (WBl n 516) h o := by
  unfold sX15_nextToken_26 at e
  obtain ⟨v_1, wv_1, e⟩ := nm_s e
  exact D_5 k e
theorem xu_X15_nextToken_5 {n : Nat} {g : Hp} {F : Nat} {o : Hp} : ∀ (f : Nat) {h : Hp} {x2 : Int32} {x3 : Int32}, DyX n xlU g h → sX15_nextToken_5 F f h (n + 513) (n + 514) x2 x3 = some o → DyX n xlU g o ∧ FrW (WBl n 516) h o := by
  intro f
  induction f with
  | zero => intro h x2 x3 _ e; exact absurd e (by rw [sX15_nextToken_5]; exact fun z => nomatch z)
  | succ f ih =>
    intro h x2 x3 k e
    rw [sX15_nextToken_5] at e
    rcases br_s e with ⟨_, e⟩ | ⟨_, e⟩
    · exact xu_X15_nextToken_32 k e
    · replace e := (gd_s e).2
      rcases br_s e with ⟨_, e⟩ | ⟨_, e⟩
      · exact xu_X15_nextToken_26 (fun k e => ih k e) k e
      · replace e := (gd_s e).2
        rcases br_s e with ⟨_, e⟩ | ⟨_, e⟩
        · exact xu_X15_nextToken_26 (fun k e => ih k e) k e
        · exact xu_X15_nextToken_32 k e
theorem xu_X15_nextToken {n : Nat} {g : Hp} {F : Nat} {o : Hp} {x2 : Int32} {h : Hp} (k : DyX n xlU g h) (e : sX15_nextToken F h (n + 513) (n + 514) x2 = some o) : DyX n xlU g o ∧ FrW (WBl n 516) h o := by
  unfold sX15_nextToken at e
  obtain ⟨v_1, wv_1, e⟩ := nm_s e
  exact xu_X15_nextToken_5 F k e
theorem xu_X14_find_2 {n : Nat} {g : Hp} {F : Nat} {o : Int32 × Hp} : ∀ (f : Nat) {h : Hp} {x1 : Int32} {x2 : Int32}, DyX n xlU g h → sX14_find_2 F f h (n + 516) x1 x2 = some o → DyX n xlU g o.2 ∧ FrW (WBl n 516) h o.2 := by
  intro f
  induction f with
  | zero => intro h x1 x2 _ e; exact absurd e (by rw [sX14_find_2]; exact fun z => nomatch z)
  | succ f ih =>
    intro h x1 x2 k e
    rw [sX14_find_2] at e
    rcases br_s e with ⟨_, e⟩ | ⟨_, e⟩
    · rw [← Option.some.inj e]; exact ⟨k, fw_0⟩
    · obtain ⟨r_2, er_2, e⟩ := cl_s e
      have yr_2 := dx_ed (a := 516) (b := 517) k (by decide +kernel) er_2
      subst yr_2
      replace e := (gd_s e).2
      rcases br_s e with ⟨_, e⟩ | ⟨_, e⟩
      · rw [← Option.some.inj e]; exact ⟨k, fw_0⟩
      · obtain ⟨v_5, wv_5, e⟩ := nm_s e
        exact ih k e
theorem xu_X14_find {n : Nat} {g : Hp} {F : Nat} {o : Int32 × Hp} {x1 : Int32} {h : Hp} (k : DyX n xlU g h) (e : sX14_find F h (n + 516) x1 = some o) : DyX n xlU g o.2 ∧ FrW (WBl n 516) h o.2 := by
  unfold sX14_find at e
  exact xu_X14_find_2 F k e
theorem xu_X15_manAt_38 {n : Nat} {g : Hp} {F : Nat} {o : Int32 × Hp} {t0 : Int32} {h : Hp} (k : DyX n xlU g h) (e : sX15_manAt_38 F h t0 = some o) : DyX n xlU g o.2 ∧ FrW (WBl n 516) h o.2 := by
  unfold sX15_manAt_38 at e
  rw [← Option.some.inj e]; exact ⟨k, fw_0⟩
theorem xu_X15_manAt_37 {n : Nat} {g : Hp} {F : Nat} {o : Int32 × Hp} {h : Hp} (k : DyX n xlU g h) (e : sX15_manAt_37 F h = some o) : DyX n xlU g o.2 ∧ FrW (WBl n 516) h o.2 := by
  unfold sX15_manAt_37 at e
  exact xu_X15_manAt_38 k e
theorem xu_X15_manAt {n : Nat} {g : Hp} {F : Nat} {o : Int32 × Hp} {h : Hp} (k : DyX n xlU g h) (e : sX15_manAt F h (n + 513) (n + 514) = some o) : DyX n xlU g o.2 ∧ FrW (WBl n 516) h o.2 := by
  unfold sX15_manAt at e
  rcases br_s e with ⟨_, e⟩ | ⟨_, e⟩
  · rcases br_s e with ⟨_, e⟩ | ⟨_, e⟩
    · obtain ⟨r_3, er_3, e⟩ := cl_s e
      have yr_3 := dx_xd (a := 513) (b := 516) k (by decide) er_3
      subst yr_3
      replace e := (gd_s e).2
      obtain ⟨o_5, eo_5, e⟩ := cl_s e
      obtain ⟨ko_5, fo_5⟩ := xu_X14_find k eo_5
      exact ⟨(xu_X15_manAt_38 ko_5 e).1, fw_t fo_5 (xu_X15_manAt_38 ko_5 e).2⟩
    · exact xu_X15_manAt_37 k e
  · exact xu_X15_manAt_37 k e
theorem xu_X15_isBlast_40 {n : Nat} {g : Hp} {F : Nat} {o : Int32 × Hp} {h : Hp} (k : DyX n xlU g h) (e : sX15_isBlast_40 F h = some o) : DyX n xlU g o.2 ∧ FrW (WBl n 516) h o.2 := by
  unfold sX15_isBlast_40 at e
  rw [← Option.some.inj e]; exact ⟨k, fw_0⟩
theorem xu_X15_isBlast_6 {n : Nat} {g : Hp} {F : Nat} {o : Int32 × Hp} : ∀ (f : Nat) {h : Hp} {x2 : Int32}, DyX n xlU g h → sX15_isBlast_6 F f h (n + 513) (n + 514) x2 = some o → DyX n xlU g o.2 ∧ FrW (WBl n 516) h o.2 := by
  intro f
  induction f with
  | zero => intro h x2 _ e; exact absurd e (by rw [sX15_isBlast_6]; exact fun z => nomatch z)
  | succ f ih =>
    intro h x2 k e
    rw [sX15_isBlast_6] at e
    rcases br_s e with ⟨_, e⟩ | ⟨_, e⟩
    · obtain ⟨o_2, eo_2, e⟩ := cl_s e
      obtain ⟨ko_2, fo_2⟩ := xu_X15_manAt k eo_2
      rcases br_s e with ⟨_, e⟩ | ⟨_, e⟩
      · exact ⟨(xu_X15_isBlast_40 ko_2 e).1, fw_t fo_2 (xu_X15_isBlast_40 ko_2 e).2⟩
      · obtain ⟨r_4, er_4, e⟩ := cl_s e
        have yr_4 := dx_xd (a := 513) (b := 516) ko_2 (by decide) er_4
        subst yr_4
        rcases br_s e with ⟨_, e⟩ | ⟨_, e⟩
        · exact ⟨(xu_X15_isBlast_40 ko_2 e).1, fw_t fo_2 (xu_X15_isBlast_40 ko_2 e).2⟩
        · obtain ⟨r_6, er_6, e⟩ := cl_s e
          have yr_6 := dx_xd (a := 513) (b := 516) ko_2 (by decide) er_6
          subst yr_6
          obtain ⟨h_7, wh_7, e⟩ := nm_s e
          have kh_7 : DyX n xlU g h_7 := by rw [wh_7]; exact dx_wI ko_2
          have fh_7 : FrW (WBl n 516) h h_7 := by rw [wh_7]; exact fw_wI fo_2 (by unfold WBl; omega)
          obtain ⟨o_8, eo_8, e⟩ := cl_s e
          obtain ⟨ko_8, fo_8⟩ := xu_X15_nextToken kh_7 eo_8
          replace fo_8 := fw_t fh_7 fo_8
          exact ⟨(ih ko_8 e).1, fw_t fo_8 (ih ko_8 e).2⟩
    · rw [← Option.some.inj e]; exact ⟨k, fw_0⟩
theorem xu_X15_isBlast {n : Nat} {g : Hp} {F : Nat} {o : Int32 × Hp} {x2 : Int32} {h : Hp} (k : DyX n xlU g h) (e : sX15_isBlast F h (n + 513) (n + 514) x2 = some o) : DyX n xlU g o.2 ∧ FrW (WBl n 516) h o.2 := by
  unfold sX15_isBlast at e
  obtain ⟨o_1, eo_1, e⟩ := cl_s e
  obtain ⟨ko_1, fo_1⟩ := xu_X15_nextToken k eo_1
  exact ⟨(xu_X15_isBlast_6 F ko_1 e).1, fw_t fo_1 (xu_X15_isBlast_6 F ko_1 e).2⟩
theorem xu_X15_isNumber_29 {n : Nat} {g : Hp} {o : Int32 × Hp} {t0 : Int32} {h : Hp} (k : DyX n xlU g h) (e : sX15_isNumber_29 h t0 = some o) : DyX n xlU g o.2 ∧ FrW (WBl n 516) h o.2 := by
  unfold sX15_isNumber_29 at e
  replace e := (gd_s e).2
  rw [← Option.some.inj e]; exact ⟨k, fw_0⟩
theorem xu_X15_isNumber_28 {n : Nat} {g : Hp} {o : Int32 × Hp} {h : Hp} (k : DyX n xlU g h) (e : sX15_isNumber_28 h = some o) : DyX n xlU g o.2 ∧ FrW (WBl n 516) h o.2 := by
  unfold sX15_isNumber_28 at e
  exact xu_X15_isNumber_29 k e
theorem xu_X15_isNumber {n : Nat} {g : Hp} {o : Int32 × Hp} {x1 : Int32} {x2 : Int32} {h : Hp} (k : DyX n xlU g h) (e : sX15_isNumber h (n + 513) x1 x2 = some o) : DyX n xlU g o.2 ∧ FrW (WBl n 516) h o.2 := by
  unfold sX15_isNumber at e
  rcases br_s e with ⟨_, e⟩ | ⟨_, e⟩
  · rcases br_s e with ⟨_, e⟩ | ⟨_, e⟩
    · exact xu_X15_isNumber_28 k e
    · rcases br_s e with ⟨_, e⟩ | ⟨_, e⟩
      · exact xu_X15_isNumber_28 k e
      · exact xu_X15_isNumber_29 k e
  · exact xu_X15_isNumber_28 k e
theorem xu_X15_isHill_128 {n : Nat} {g : Hp} {F : Nat} {o : Int32 × Hp} {h : Hp} (k : DyX n xlU g h) (e : sX15_isHill_128 F h = some o) : DyX n xlU g o.2 ∧ FrW (WBl n 516) h o.2 := by
  unfold sX15_isHill_128 at e
  rw [← Option.some.inj e]; exact ⟨k, fw_0⟩
theorem xu_X15_isHill_62 {n : Nat} {g : Hp} {F : Nat} {o : Int32 × Hp} {h : Hp} (k : DyX n xlU g h) (e : sX15_isHill_62 F h = some o) : DyX n xlU g o.2 ∧ FrW (WBl n 516) h o.2 := by
  unfold sX15_isHill_62 at e
  rw [← Option.some.inj e]; exact ⟨k, fw_0⟩
theorem xu_X15_isHill_22 {n : Nat} {g : Hp} {F : Nat} {o : Int32 × Hp} {x2 : Int32} {k_8 : Hp → Nat → Nat → Int32 → Int32 → Option (Int32 × Hp)} (D_8 : ∀ {h : Hp} {y3 : Int32} {y4 : Int32}, DyX n xlU g h → k_8 h (n + 513) (n + 514) y3 y4 = some o → DyX n xlU g o.2 ∧ FrW (WBl n 516) h o.2) {h : Hp} (k : DyX n xlU g h) (e : sX15_isHill_22 F k_8 h (n + 513) (n + 514) x2 = some o) : DyX n xlU g o.2 ∧ FrW (WBl n 516) h o.2 := by
  unfold sX15_isHill_22 at e
  rcases br_s e with ⟨_, e⟩ | ⟨_, e⟩
  · rcases br_s e with ⟨_, e⟩ | ⟨_, e⟩
    · replace e := (gd_s e).2
      obtain ⟨r_4, er_4, e⟩ := cl_s e
      have yr_4 := dx_xd (a := 513) (b := 516) k (by decide) er_4
      subst yr_4
      rcases br_s e with ⟨_, e⟩ | ⟨_, e⟩
      · replace e := (gd_s e).2
        obtain ⟨v_7, wv_7, e⟩ := nm_s e
        obtain ⟨o_8, eo_8, e⟩ := cl_s e
        obtain ⟨ko_8, fo_8⟩ := xu_X15_nextToken k eo_8
        obtain ⟨r_9, er_9, e⟩ := cl_s e
        have yr_9 := dx_xd (a := 513) (b := 516) ko_8 (by decide) er_9
        subst yr_9
        obtain ⟨o_10, eo_10, e⟩ := cl_s e
        obtain ⟨ko_10, fo_10⟩ := xu_X15_isNumber ko_8 eo_10
        replace fo_10 := fw_t fo_8 fo_10
        rcases br_s e with ⟨_, e⟩ | ⟨_, e⟩
        · exact ⟨(xu_X15_isHill_128 ko_10 e).1, fw_t fo_10 (xu_X15_isHill_128 ko_10 e).2⟩
        · obtain ⟨r_12, er_12, e⟩ := cl_s e
          have yr_12 := dx_xd (a := 513) (b := 516) ko_10 (by decide) er_12
          subst yr_12
          obtain ⟨r_13, er_13, e⟩ := cl_s e
          have yr_13 := dx_xd (a := 513) (b := 516) ko_10 (by decide) er_13
          subst yr_13
          rcases br_s e with ⟨_, e⟩ | ⟨_, e⟩
          · exact ⟨(xu_X15_isHill_128 ko_10 e).1, fw_t fo_10 (xu_X15_isHill_128 ko_10 e).2⟩
          · obtain ⟨r_15, er_15, e⟩ := cl_s e
            have yr_15 := dx_xd (a := 513) (b := 516) ko_10 (by decide) er_15
            subst yr_15
            obtain ⟨r_16, er_16, e⟩ := cl_s e
            have yr_16 := dx_xd (a := 513) (b := 516) ko_10 (by decide) er_16
            subst yr_16
            obtain ⟨h_17, wh_17, e⟩ := nm_s e
            have kh_17 : DyX n xlU g h_17 := by rw [wh_17]; exact dx_wJ ko_10
            have fh_17 : FrW (WBl n 516) h h_17 := by rw [wh_17]; exact fw_wJ fo_10 (by unfold WBl; omega)
            obtain ⟨o_18, eo_18, e⟩ := cl_s e
            obtain ⟨ko_18, fo_18⟩ := xu_X15_nextToken kh_17 eo_18
            replace fo_18 := fw_t fh_17 fo_18
            exact ⟨(D_8 ko_18 e).1, fw_t fo_18 (D_8 ko_18 e).2⟩
      · exact xu_X15_isHill_62 k e
    · exact xu_X15_isHill_62 k e
  · exact xu_X15_isHill_62 k e
theorem xu_X15_isSign_23 {n : Nat} {g : Hp} {o : Int32 × Hp} {t0 : Int32} {h : Hp} (k : DyX n xlU g h) (e : sX15_isSign_23 h t0 = some o) : DyX n xlU g o.2 ∧ FrW (WBl n 516) h o.2 := by
  unfold sX15_isSign_23 at e
  replace e := (gd_s e).2
  rw [← Option.some.inj e]; exact ⟨k, fw_0⟩
theorem xu_X15_isSign_22 {n : Nat} {g : Hp} {o : Int32 × Hp} {h : Hp} (k : DyX n xlU g h) (e : sX15_isSign_22 h = some o) : DyX n xlU g o.2 ∧ FrW (WBl n 516) h o.2 := by
  unfold sX15_isSign_22 at e
  exact xu_X15_isSign_23 k e
theorem xu_X15_isSign {n : Nat} {g : Hp} {o : Int32 × Hp} {x2 : Int32} {h : Hp} (k : DyX n xlU g h) (e : sX15_isSign h (n + 513) (n + 514) x2 = some o) : DyX n xlU g o.2 ∧ FrW (WBl n 516) h o.2 := by
  unfold sX15_isSign at e
  rcases br_s e with ⟨_, e⟩ | ⟨_, e⟩
  · replace e := (gd_s e).2
    rcases br_s e with ⟨_, e⟩ | ⟨_, e⟩
    · exact xu_X15_isSign_23 k e
    · exact xu_X15_isSign_22 k e
  · exact xu_X15_isSign_22 k e
theorem xu_X15_isHill_8 {n : Nat} {g : Hp} {F : Nat} {o : Int32 × Hp} : ∀ (f : Nat) {h : Hp} {x2 : Int32} {x3 : Int32}, DyX n xlU g h → sX15_isHill_8 F f h (n + 513) (n + 514) x2 x3 = some o → DyX n xlU g o.2 ∧ FrW (WBl n 516) h o.2 := by
  intro f
  induction f with
  | zero => intro h x2 x3 _ e; exact absurd e (by rw [sX15_isHill_8]; exact fun z => nomatch z)
  | succ f ih =>
    intro h x2 x3 k e
    rw [sX15_isHill_8] at e
    rcases br_s e with ⟨_, e⟩ | ⟨_, e⟩
    · exact xu_X15_isHill_22 (fun k e => ih k e) k e
    · obtain ⟨o_2, eo_2, e⟩ := cl_s e
      obtain ⟨ko_2, fo_2⟩ := xu_X15_isSign k eo_2
      rcases br_s e with ⟨_, e⟩ | ⟨_, e⟩
      · exact ⟨(xu_X15_isHill_22 (fun k e => ih k e) ko_2 e).1, fw_t fo_2 (xu_X15_isHill_22 (fun k e => ih k e) ko_2 e).2⟩
      · rw [← Option.some.inj e]; exact ⟨ko_2, fo_2⟩
theorem xu_X15_isHill {n : Nat} {g : Hp} {F : Nat} {o : Int32 × Hp} {x2 : Int32} {h : Hp} (k : DyX n xlU g h) (e : sX15_isHill F h (n + 513) (n + 514) x2 = some o) : DyX n xlU g o.2 ∧ FrW (WBl n 516) h o.2 := by
  unfold sX15_isHill at e
  obtain ⟨o_1, eo_1, e⟩ := cl_s e
  obtain ⟨ko_1, fo_1⟩ := xu_X15_nextToken k eo_1
  exact ⟨(xu_X15_isHill_8 F ko_1 e).1, fw_t fo_1 (xu_X15_isHill_8 F ko_1 e).2⟩
theorem xu_X15_goesOn {n : Nat} {g : Hp} {F : Nat} {o : Int32 × Hp} {x2 : Int32} {h : Hp} (k : DyX n xlU g h) (e : sX15_goesOn F h (n + 513) (n + 514) x2 = some o) : DyX n xlU g o.2 ∧ FrW (WBl n 516) h o.2 := by
  unfold sX15_goesOn at e
  obtain ⟨o_1, eo_1, e⟩ := cl_s e
  obtain ⟨ko_1, fo_1⟩ := xu_X15_nextToken k eo_1
  rw [← Option.some.inj e]; exact ⟨ko_1, fo_1⟩
theorem xu_X15_isChecks {n : Nat} {g : Hp} {F : Nat} {o : Int32 × Hp} {x2 : Int32} {h : Hp} (k : DyX n xlU g h) (e : sX15_isChecks F h (n + 513) (n + 514) x2 = some o) : DyX n xlU g o.2 ∧ FrW (WBl n 516) h o.2 := by
  unfold sX15_isChecks at e
  obtain ⟨o_1, eo_1, e⟩ := cl_s e
  obtain ⟨ko_1, fo_1⟩ := xu_X15_nextToken k eo_1
  obtain ⟨o_2, eo_2, e⟩ := cl_s e
  obtain ⟨ko_2, fo_2⟩ := xu_X15_isNumber ko_1 eo_2
  replace fo_2 := fw_t fo_1 fo_2
  rcases br_s e with ⟨_, e⟩ | ⟨_, e⟩
  · rw [← Option.some.inj e]; exact ⟨ko_2, fo_2⟩
  · obtain ⟨r_4, er_4, e⟩ := cl_s e
    have yr_4 := dx_xd (a := 513) (b := 516) ko_2 (by decide) er_4
    subst yr_4
    obtain ⟨h_5, wh_5, e⟩ := nm_s e
    have kh_5 : DyX n xlU g h_5 := by rw [wh_5]; exact dx_wI ko_2
    have fh_5 : FrW (WBl n 516) h h_5 := by rw [wh_5]; exact fw_wI fo_2 (by unfold WBl; omega)
    obtain ⟨o_6, eo_6, e⟩ := cl_s e
    obtain ⟨ko_6, fo_6⟩ := xu_X15_goesOn kh_5 eo_6
    replace fo_6 := fw_t fh_5 fo_6
    replace e := (gd_s e).2
    rw [← Option.some.inj e]; exact ⟨ko_6, fo_6⟩
end
section
/-! what sX15_isBlast;x0=S:513;x1=S:514|sX15_isHill;x0=S:513;x1=S:514|sX15_isChecks;x0=S:513;x1=S:514 writes: printed by wfx.py -/
theorem xv_X15_byteAt_12 {n : Nat} {g : Hp} {o : Int32 × Hp} {t0 : Int32} {h : Hp} (k : DyX n xlV g h) (e : sX15_byteAt_12 h t0 = some o) : DyX n xlV g o.2 ∧ FrW (WBl n 526) h o.2 := by
  unfold sX15_byteAt_12 at e
  rw [← Option.some.inj e]; exact ⟨k, fw_0⟩
theorem xv_X15_byteAt {n : Nat} {g : Hp} {o : Int32 × Hp} {x2 : Int32} {x3 : Int32} {h : Hp} (k : DyX n xlV g h) (e : sX15_byteAt h (n + 513) (n + 514) x2 x3 = some o) : DyX n xlV g o.2 ∧ FrW (WBl n 526) h o.2 := by
  unfold sX15_byteAt at e
  rcases br_s e with ⟨_, e⟩ | ⟨_, e⟩
  · exact xv_X15_byteAt_12 k e
  · replace e := (gd_s e).2
    exact xv_X15_byteAt_12 k e
theorem xv_X15_isSmall_17 {n : Nat} {g : Hp} {o : Int32 × Hp} {t0 : Int32} {h : Hp} (k : DyX n xlV g h) (e : sX15_isSmall_17 h t0 = some o) : DyX n xlV g o.2 ∧ FrW (WBl n 526) h o.2 := by
  unfold sX15_isSmall_17 at e
  replace e := (gd_s e).2
  rw [← Option.some.inj e]; exact ⟨k, fw_0⟩
theorem xv_X15_isSmall_16 {n : Nat} {g : Hp} {o : Int32 × Hp} {h : Hp} (k : DyX n xlV g h) (e : sX15_isSmall_16 h = some o) : DyX n xlV g o.2 ∧ FrW (WBl n 526) h o.2 := by
  unfold sX15_isSmall_16 at e
  exact xv_X15_isSmall_17 k e
theorem xv_X15_isSmall {n : Nat} {g : Hp} {o : Int32 × Hp} {x0 : Int32} {h : Hp} (k : DyX n xlV g h) (e : sX15_isSmall h x0 = some o) : DyX n xlV g o.2 ∧ FrW (WBl n 526) h o.2 := by
  unfold sX15_isSmall at e
  rcases br_s e with ⟨_, e⟩ | ⟨_, e⟩
  · exact xv_X15_isSmall_16 k e
  · rcases br_s e with ⟨_, e⟩ | ⟨_, e⟩
    · exact xv_X15_isSmall_16 k e
    · exact xv_X15_isSmall_17 k e
theorem xv_X15_isDigit_17 {n : Nat} {g : Hp} {o : Int32 × Hp} {t0 : Int32} {h : Hp} (k : DyX n xlV g h) (e : sX15_isDigit_17 h t0 = some o) : DyX n xlV g o.2 ∧ FrW (WBl n 526) h o.2 := by
  unfold sX15_isDigit_17 at e
  replace e := (gd_s e).2
  rw [← Option.some.inj e]; exact ⟨k, fw_0⟩
theorem xv_X15_isDigit_16 {n : Nat} {g : Hp} {o : Int32 × Hp} {h : Hp} (k : DyX n xlV g h) (e : sX15_isDigit_16 h = some o) : DyX n xlV g o.2 ∧ FrW (WBl n 526) h o.2 := by
  unfold sX15_isDigit_16 at e
  exact xv_X15_isDigit_17 k e
theorem xv_X15_isDigit {n : Nat} {g : Hp} {o : Int32 × Hp} {x0 : Int32} {h : Hp} (k : DyX n xlV g h) (e : sX15_isDigit h x0 = some o) : DyX n xlV g o.2 ∧ FrW (WBl n 526) h o.2 := by
  unfold sX15_isDigit at e
  rcases br_s e with ⟨_, e⟩ | ⟨_, e⟩
  · exact xv_X15_isDigit_16 k e
  · rcases br_s e with ⟨_, e⟩ | ⟨_, e⟩
    · exact xv_X15_isDigit_16 k e
    · exact xv_X15_isDigit_17 k e
theorem xv_X15_nextToken_308 {n : Nat} {g : Hp} {F : Nat} {o : Hp} {h : Hp} (k : DyX n xlV g h) (e : sX15_nextToken_308 F h = some o) : DyX n xlV g o ∧ FrW (WBl n 526) h o := by
  unfold sX15_nextToken_308 at e
  rw [← Option.some.inj e]; exact ⟨k, fw_0⟩
theorem xv_X15_nextToken_298 {n : Nat} {g : Hp} {F : Nat} {o : Hp} {x3 : Int32} {t0 : Int32} {h : Hp} (k : DyX n xlV g h) (e : sX15_nextToken_298 F h (n + 513) x3 t0 (n + 513) = some o) : DyX n xlV g o ∧ FrW (WBl n 526) h o := by
  unfold sX15_nextToken_298 at e
  obtain ⟨h_1, wh_1, e⟩ := nm_s e
  have kh_1 : DyX n xlV g h_1 := by rw [wh_1]; exact dx_wI k
  have fh_1 : FrW (WBl n 526) h h_1 := by rw [wh_1]; exact fw_wI fw_0 (by unfold WBl; omega)
  obtain ⟨h_2, wh_2, e⟩ := nm_s e
  have kh_2 : DyX n xlV g h_2 := by rw [wh_2]; exact dx_wI kh_1
  have fh_2 : FrW (WBl n 526) h h_2 := by rw [wh_2]; exact fw_wI fh_1 (by unfold WBl; omega)
  exact ⟨(xv_X15_nextToken_308 kh_2 e).1, fw_t fh_2 (xv_X15_nextToken_308 kh_2 e).2⟩
theorem xv_X15_nextToken_293 {n : Nat} {g : Hp} {F : Nat} {o : Hp} {x3 : Int32} {h : Hp} (k : DyX n xlV g h) (e : sX15_nextToken_293 F h (n + 513) x3 (n + 513) = some o) : DyX n xlV g o ∧ FrW (WBl n 526) h o := by
  unfold sX15_nextToken_293 at e
  exact xv_X15_nextToken_298 k e
theorem xv_X15_nextToken_278 {n : Nat} {g : Hp} {F : Nat} {o : Hp} {x3 : Int32} {x4 : Int32} {h : Hp} (k : DyX n xlV g h) (e : sX15_nextToken_278 F h (n + 513) x3 x4 = some o) : DyX n xlV g o ∧ FrW (WBl n 526) h o := by
  unfold sX15_nextToken_278 at e
  rcases br_s e with ⟨_, e⟩ | ⟨_, e⟩
  · exact xv_X15_nextToken_293 k e
  · rcases br_s e with ⟨_, e⟩ | ⟨_, e⟩
    · exact xv_X15_nextToken_293 k e
    · exact xv_X15_nextToken_298 k e
theorem xv_X15_nextToken_266 {n : Nat} {g : Hp} {F : Nat} {o : Hp} {x6 : Int32} {t0 : Int32} {h : Hp} (k : DyX n xlV g h) (e : sX15_nextToken_266 F h (n + 513) x6 t0 (n + 513) = some o) : DyX n xlV g o ∧ FrW (WBl n 526) h o := by
  unfold sX15_nextToken_266 at e
  obtain ⟨h_1, wh_1, e⟩ := nm_s e
  have kh_1 : DyX n xlV g h_1 := by rw [wh_1]; exact dx_wI k
  have fh_1 : FrW (WBl n 526) h h_1 := by rw [wh_1]; exact fw_wI fw_0 (by unfold WBl; omega)
  obtain ⟨h_2, wh_2, e⟩ := nm_s e
  have kh_2 : DyX n xlV g h_2 := by rw [wh_2]; exact dx_wI kh_1
  have fh_2 : FrW (WBl n 526) h h_2 := by rw [wh_2]; exact fw_wI fh_1 (by unfold WBl; omega)
  exact ⟨(xv_X15_nextToken_308 kh_2 e).1, fw_t fh_2 (xv_X15_nextToken_308 kh_2 e).2⟩
theorem xv_X15_nextToken_242 {n : Nat} {g : Hp} {F : Nat} {o : Hp} {x4 : Int32} {x6 : Int32} {t0 : Int32} {h : Hp} (k : DyX n xlV g h) (e : sX15_nextToken_242 F h (n + 513) x4 x6 t0 (n + 513) = some o) : DyX n xlV g o ∧ FrW (WBl n 526) h o := by
  unfold sX15_nextToken_242 at e
  obtain ⟨h_1, wh_1, e⟩ := nm_s e
  have kh_1 : DyX n xlV g h_1 := by rw [wh_1]; exact dx_wI k
  have fh_1 : FrW (WBl n 526) h h_1 := by rw [wh_1]; exact fw_wI fw_0 (by unfold WBl; omega)
  rcases br_s e with ⟨_, e⟩ | ⟨_, e⟩
  · exact ⟨(xv_X15_nextToken_266 kh_1 e).1, fw_t fh_1 (xv_X15_nextToken_266 kh_1 e).2⟩
  · exact ⟨(xv_X15_nextToken_266 kh_1 e).1, fw_t fh_1 (xv_X15_nextToken_266 kh_1 e).2⟩
theorem xv_X15_nextToken_194 {n : Nat} {g : Hp} {F : Nat} {o : Hp} {x4 : Int32} {x5 : Int32} {x6 : Int32} {t0 : Int32} {h : Hp} (k : DyX n xlV g h) (e : sX15_nextToken_194 F h (n + 513) (n + 514) x4 x5 x6 t0 (n + 513) = some o) : DyX n xlV g o ∧ FrW (WBl n 526) h o := by
  unfold sX15_nextToken_194 at e
  obtain ⟨h_1, wh_1, e⟩ := nm_s e
  have kh_1 : DyX n xlV g h_1 := by rw [wh_1]; exact dx_wI k
  have fh_1 : FrW (WBl n 526) h h_1 := by rw [wh_1]; exact fw_wI fw_0 (by unfold WBl; omega)
  replace e := (gd_s e).2
  obtain ⟨h_3, wh_3, e⟩ := nm_s e
  have kh_3 : DyX n xlV g h_3 := by rw [wh_3]; exact dx_wI kh_1
  have fh_3 : FrW (WBl n 526) h h_3 := by rw [wh_3]; exact fw_wI fh_1 (by unfold WBl; omega)
  rcases br_s e with ⟨_, e⟩ | ⟨_, e⟩
  · replace e := (gd_s e).2
    exact ⟨(xv_X15_nextToken_242 kh_3 e).1, fw_t fh_3 (xv_X15_nextToken_242 kh_3 e).2⟩
  · exact ⟨(xv_X15_nextToken_242 kh_3 e).1, fw_t fh_3 (xv_X15_nextToken_242 kh_3 e).2⟩
theorem xv_X15_nextToken_159 {n : Nat} {g : Hp} {F : Nat} {o : Hp} : ∀ (f : Nat) {h : Hp} {x2 : Int32} {x4 : Int32} {x5 : Int32} {x6 : Int32}, DyX n xlV g h → sX15_nextToken_159 F f h (n + 513) (n + 514) x2 x4 x5 x6 = some o → DyX n xlV g o ∧ FrW (WBl n 526) h o := by
  intro f
  induction f with
  | zero => intro h x2 x4 x5 x6 _ e; exact absurd e (by rw [sX15_nextToken_159]; exact fun z => nomatch z)
  | succ f ih =>
    intro h x2 x4 x5 x6 k e
    rw [sX15_nextToken_159] at e
    obtain ⟨o_1, eo_1, e⟩ := cl_s e
    obtain ⟨ko_1, fo_1⟩ := xv_X15_byteAt k eo_1
    obtain ⟨o_2, eo_2, e⟩ := cl_s e
    obtain ⟨ko_2, fo_2⟩ := xv_X15_isDigit ko_1 eo_2
    replace fo_2 := fw_t fo_1 fo_2
    rcases br_s e with ⟨_, e⟩ | ⟨_, e⟩
    · rcases br_s e with ⟨_, e⟩ | ⟨_, e⟩
      · exact ⟨(xv_X15_nextToken_194 ko_2 e).1, fw_t fo_2 (xv_X15_nextToken_194 ko_2 e).2⟩
      · exact ⟨(xv_X15_nextToken_194 ko_2 e).1, fw_t fo_2 (xv_X15_nextToken_194 ko_2 e).2⟩
    · obtain ⟨v_5, wv_5, e⟩ := nm_s e
      exact ⟨(ih ko_2 e).1, fw_t fo_2 (ih ko_2 e).2⟩
theorem xv_X15_nextToken_153 {n : Nat} {g : Hp} {F : Nat} {o : Hp} {x2 : Int32} {x4 : Int32} {t0 : Int32} {h : Hp} (k : DyX n xlV g h) (e : sX15_nextToken_153 F h (n + 513) (n + 514) x2 x4 t0 = some o) : DyX n xlV g o ∧ FrW (WBl n 526) h o := by
  unfold sX15_nextToken_153 at e
  exact xv_X15_nextToken_159 F k e
theorem xv_X15_nextToken_139 {n : Nat} {g : Hp} {F : Nat} {o : Hp} {x2 : Int32} {x3 : Int32} {x4 : Int32} {h : Hp} (k : DyX n xlV g h) (e : sX15_nextToken_139 F h (n + 513) (n + 514) x2 x3 x4 = some o) : DyX n xlV g o ∧ FrW (WBl n 526) h o := by
  unfold sX15_nextToken_139 at e
  rcases br_s e with ⟨_, e⟩ | ⟨_, e⟩
  · exact xv_X15_nextToken_153 k e
  · exact xv_X15_nextToken_153 k e
theorem xv_X15_nextToken_77 {n : Nat} {g : Hp} {F : Nat} {o : Hp} : ∀ (f : Nat) {h : Hp} {x2 : Int32} {x3 : Int32}, DyX n xlV g h → sX15_nextToken_77 F f h (n + 513) (n + 514) x2 x3 = some o → DyX n xlV g o ∧ FrW (WBl n 526) h o := by
  intro f
  induction f with
  | zero => intro h x2 x3 _ e; exact absurd e (by rw [sX15_nextToken_77]; exact fun z => nomatch z)
  | succ f ih =>
    intro h x2 x3 k e
    rw [sX15_nextToken_77] at e
    obtain ⟨o_1, eo_1, e⟩ := cl_s e
    obtain ⟨ko_1, fo_1⟩ := xv_X15_byteAt k eo_1
    obtain ⟨o_2, eo_2, e⟩ := cl_s e
    obtain ⟨ko_2, fo_2⟩ := xv_X15_isSmall ko_1 eo_2
    replace fo_2 := fw_t fo_1 fo_2
    rcases br_s e with ⟨_, e⟩ | ⟨_, e⟩
    · obtain ⟨h_4, wh_4, e⟩ := nm_s e
      have kh_4 : DyX n xlV g h_4 := by rw [wh_4]; exact dx_wI ko_2
      have fh_4 : FrW (WBl n 526) h h_4 := by rw [wh_4]; exact fw_wI fo_2 (by unfold WBl; omega)
      obtain ⟨h_5, wh_5, e⟩ := nm_s e
      have kh_5 : DyX n xlV g h_5 := by rw [wh_5]; exact dx_wI kh_4
      have fh_5 : FrW (WBl n 526) h h_5 := by rw [wh_5]; exact fw_wI fh_4 (by unfold WBl; omega)
      exact ⟨(xv_X15_nextToken_308 kh_5 e).1, fw_t fh_5 (xv_X15_nextToken_308 kh_5 e).2⟩
    · obtain ⟨v_6, wv_6, e⟩ := nm_s e
      exact ⟨(ih ko_2 e).1, fw_t fo_2 (ih ko_2 e).2⟩
theorem xv_X15_nextToken_32 {n : Nat} {g : Hp} {F : Nat} {o : Hp} {x2 : Int32} {x3 : Int32} {h : Hp} (k : DyX n xlV g h) (e : sX15_nextToken_32 F h (n + 513) (n + 514) x2 x3 = some o) : DyX n xlV g o ∧ FrW (WBl n 526) h o := by
  unfold sX15_nextToken_32 at e
  obtain ⟨h_1, wh_1, e⟩ := nm_s e
  have kh_1 : DyX n xlV g h_1 := by rw [wh_1]; exact dx_wI k
  have fh_1 : FrW (WBl n 526) h h_1 := by rw [wh_1]; exact fw_wI fw_0 (by unfold WBl; omega)
  obtain ⟨o_2, eo_2, e⟩ := cl_s e
  obtain ⟨ko_2, fo_2⟩ := xv_X15_byteAt kh_1 eo_2
  replace fo_2 := fw_t fh_1 fo_2
  rcases br_s e with ⟨_, e⟩ | ⟨_, e⟩
  · obtain ⟨o_4, eo_4, e⟩ := cl_s e
    obtain ⟨ko_4, fo_4⟩ := xv_X15_isSmall ko_2 eo_4
    replace fo_4 := fw_t fo_2 fo_4
    rcases br_s e with ⟨_, e⟩ | ⟨_, e⟩
    · obtain ⟨o_6, eo_6, e⟩ := cl_s e
      obtain ⟨ko_6, fo_6⟩ := xv_X15_isDigit ko_4 eo_6
      replace fo_6 := fw_t fo_4 fo_6
      rcases br_s e with ⟨_, e⟩ | ⟨_, e⟩
      · rcases br_s e with ⟨_, e⟩ | ⟨_, e⟩
        · obtain ⟨o_9, eo_9, e⟩ := cl_s e
          obtain ⟨ko_9, fo_9⟩ := xv_X15_byteAt ko_6 eo_9
          replace fo_9 := fw_t fo_6 fo_9
          obtain ⟨o_10, eo_10, e⟩ := cl_s e
          obtain ⟨ko_10, fo_10⟩ := xv_X15_isDigit ko_9 eo_10
          replace fo_10 := fw_t fo_9 fo_10
          rcases br_s e with ⟨_, e⟩ | ⟨_, e⟩
          · exact ⟨(xv_X15_nextToken_278 ko_10 e).1, fw_t fo_10 (xv_X15_nextToken_278 ko_10 e).2⟩
          · exact ⟨(xv_X15_nextToken_139 ko_10 e).1, fw_t fo_10 (xv_X15_nextToken_139 ko_10 e).2⟩
        · exact ⟨(xv_X15_nextToken_278 ko_6 e).1, fw_t fo_6 (xv_X15_nextToken_278 ko_6 e).2⟩
      · exact ⟨(xv_X15_nextToken_139 ko_6 e).1, fw_t fo_6 (xv_X15_nextToken_139 ko_6 e).2⟩
    · exact ⟨(xv_X15_nextToken_77 F ko_4 e).1, fw_t fo_4 (xv_X15_nextToken_77 F ko_4 e).2⟩
  · obtain ⟨h_12, wh_12, e⟩ := nm_s e
    have kh_12 : DyX n xlV g h_12 := by rw [wh_12]; exact dx_wI ko_2
    have fh_12 : FrW (WBl n 526) h h_12 := by rw [wh_12]; exact fw_wI fo_2 (by unfold WBl; omega)
    obtain ⟨h_13, wh_13, e⟩ := nm_s e
    have kh_13 : DyX n xlV g h_13 := by rw [wh_13]; exact dx_wI kh_12
    have fh_13 : FrW (WBl n 526) h h_13 := by rw [wh_13]; exact fw_wI fh_12 (by unfold WBl; omega)
    obtain ⟨h_14, wh_14, e⟩ := nm_s e
    have kh_14 : DyX n xlV g h_14 := by rw [wh_14]; exact dx_wI kh_13
    have fh_14 : FrW (WBl n 526) h h_14 := by rw [wh_14]; exact fw_wI fh_13 (by unfold WBl; omega)
    exact ⟨(xv_X15_nextToken_308 kh_14 e).1, fw_t fh_14 (xv_X15_nextToken_308 kh_14 e).2⟩
theorem xv_X15_nextToken_26 {n : Nat} {g : Hp} {F : Nat} {o : Hp} {x2 : Int32} {x3 : Int32} {k_5 : Hp → Nat → Nat → Int32 → Int32 → Option (Hp)} (D_5 : ∀ {h : Hp} {y3 : Int32} {y4 : Int32}, DyX n xlV g h → k_5 h (n + 513) (n + 514) y3 y4 = some o → DyX n xlV g o ∧ FrW (WBl n 526) h o) {h : Hp} (k : DyX n xlV g h) (e : sX15_nextToken_26 F k_5 h (n + 513) (n + 514) x2 x3 = some o) : DyX n xlV g o ∧ FrW (WBl n 526) h o := by
  unfold sX15_nextToken_26 at e
  obtain ⟨v_1, wv_1, e⟩ := nm_s e
  exact D_5 k e
theorem xv_X15_nextToken_5 {n : Nat} {g : Hp} {F : Nat} {o : Hp} : ∀ (f : Nat) {h : Hp} {x2 : Int32} {x3 : Int32}, DyX n xlV g h → sX15_nextToken_5 F f h (n + 513) (n + 514) x2 x3 = some o → DyX n xlV g o ∧ FrW (WBl n 526) h o := by
  intro f
  induction f with
  | zero => intro h x2 x3 _ e; exact absurd e (by rw [sX15_nextToken_5]; exact fun z => nomatch z)
  | succ f ih =>
    intro h x2 x3 k e
    rw [sX15_nextToken_5] at e
    rcases br_s e with ⟨_, e⟩ | ⟨_, e⟩
    · exact xv_X15_nextToken_32 k e
    · replace e := (gd_s e).2
      rcases br_s e with ⟨_, e⟩ | ⟨_, e⟩
      · exact xv_X15_nextToken_26 (fun k e => ih k e) k e
      · replace e := (gd_s e).2
        rcases br_s e with ⟨_, e⟩ | ⟨_, e⟩
        · exact xv_X15_nextToken_26 (fun k e => ih k e) k e
        · exact xv_X15_nextToken_32 k e
theorem xv_X15_nextToken {n : Nat} {g : Hp} {F : Nat} {o : Hp} {x2 : Int32} {h : Hp} (k : DyX n xlV g h) (e : sX15_nextToken F h (n + 513) (n + 514) x2 = some o) : DyX n xlV g o ∧ FrW (WBl n 526) h o := by
  unfold sX15_nextToken at e
  obtain ⟨v_1, wv_1, e⟩ := nm_s e
  exact xv_X15_nextToken_5 F k e
theorem xv_X14_find_2 {n : Nat} {g : Hp} {F : Nat} {o : Int32 × Hp} : ∀ (f : Nat) {h : Hp} {x1 : Int32} {x2 : Int32}, DyX n xlV g h → sX14_find_2 F f h (n + 526) x1 x2 = some o → DyX n xlV g o.2 ∧ FrW (WBl n 526) h o.2 := by
  intro f
  induction f with
  | zero => intro h x1 x2 _ e; exact absurd e (by rw [sX14_find_2]; exact fun z => nomatch z)
  | succ f ih =>
    intro h x1 x2 k e
    rw [sX14_find_2] at e
    rcases br_s e with ⟨_, e⟩ | ⟨_, e⟩
    · rw [← Option.some.inj e]; exact ⟨k, fw_0⟩
    · obtain ⟨r_2, er_2, e⟩ := cl_s e
      have yr_2 := dx_ed (a := 526) (b := 527) k (by decide +kernel) er_2
      subst yr_2
      replace e := (gd_s e).2
      rcases br_s e with ⟨_, e⟩ | ⟨_, e⟩
      · rw [← Option.some.inj e]; exact ⟨k, fw_0⟩
      · obtain ⟨v_5, wv_5, e⟩ := nm_s e
        exact ih k e
theorem xv_X14_find {n : Nat} {g : Hp} {F : Nat} {o : Int32 × Hp} {x1 : Int32} {h : Hp} (k : DyX n xlV g h) (e : sX14_find F h (n + 526) x1 = some o) : DyX n xlV g o.2 ∧ FrW (WBl n 526) h o.2 := by
  unfold sX14_find at e
  exact xv_X14_find_2 F k e
theorem xv_X15_manAt_38 {n : Nat} {g : Hp} {F : Nat} {o : Int32 × Hp} {t0 : Int32} {h : Hp} (k : DyX n xlV g h) (e : sX15_manAt_38 F h t0 = some o) : DyX n xlV g o.2 ∧ FrW (WBl n 526) h o.2 := by
  unfold sX15_manAt_38 at e
  rw [← Option.some.inj e]; exact ⟨k, fw_0⟩
theorem xv_X15_manAt_37 {n : Nat} {g : Hp} {F : Nat} {o : Int32 × Hp} {h : Hp} (k : DyX n xlV g h) (e : sX15_manAt_37 F h = some o) : DyX n xlV g o.2 ∧ FrW (WBl n 526) h o.2 := by
  unfold sX15_manAt_37 at e
  exact xv_X15_manAt_38 k e
theorem xv_X15_manAt {n : Nat} {g : Hp} {F : Nat} {o : Int32 × Hp} {h : Hp} (k : DyX n xlV g h) (e : sX15_manAt F h (n + 513) (n + 514) = some o) : DyX n xlV g o.2 ∧ FrW (WBl n 526) h o.2 := by
  unfold sX15_manAt at e
  rcases br_s e with ⟨_, e⟩ | ⟨_, e⟩
  · rcases br_s e with ⟨_, e⟩ | ⟨_, e⟩
    · obtain ⟨r_3, er_3, e⟩ := cl_s e
      have yr_3 := dx_xd (a := 513) (b := 526) k (by decide) er_3
      subst yr_3
      replace e := (gd_s e).2
      obtain ⟨o_5, eo_5, e⟩ := cl_s e
      obtain ⟨ko_5, fo_5⟩ := xv_X14_find k eo_5
      exact ⟨(xv_X15_manAt_38 ko_5 e).1, fw_t fo_5 (xv_X15_manAt_38 ko_5 e).2⟩
    · exact xv_X15_manAt_37 k e
  · exact xv_X15_manAt_37 k e
theorem xv_X15_isBlast_40 {n : Nat} {g : Hp} {F : Nat} {o : Int32 × Hp} {h : Hp} (k : DyX n xlV g h) (e : sX15_isBlast_40 F h = some o) : DyX n xlV g o.2 ∧ FrW (WBl n 526) h o.2 := by
  unfold sX15_isBlast_40 at e
  rw [← Option.some.inj e]; exact ⟨k, fw_0⟩
theorem xv_X15_isBlast_6 {n : Nat} {g : Hp} {F : Nat} {o : Int32 × Hp} : ∀ (f : Nat) {h : Hp} {x2 : Int32}, DyX n xlV g h → sX15_isBlast_6 F f h (n + 513) (n + 514) x2 = some o → DyX n xlV g o.2 ∧ FrW (WBl n 526) h o.2 := by
  intro f
  induction f with
  | zero => intro h x2 _ e; exact absurd e (by rw [sX15_isBlast_6]; exact fun z => nomatch z)
  | succ f ih =>
    intro h x2 k e
    rw [sX15_isBlast_6] at e
    rcases br_s e with ⟨_, e⟩ | ⟨_, e⟩
    · obtain ⟨o_2, eo_2, e⟩ := cl_s e
      obtain ⟨ko_2, fo_2⟩ := xv_X15_manAt k eo_2
      rcases br_s e with ⟨_, e⟩ | ⟨_, e⟩
      · exact ⟨(xv_X15_isBlast_40 ko_2 e).1, fw_t fo_2 (xv_X15_isBlast_40 ko_2 e).2⟩
      · obtain ⟨r_4, er_4, e⟩ := cl_s e
        have yr_4 := dx_xd (a := 513) (b := 526) ko_2 (by decide) er_4
        subst yr_4
        rcases br_s e with ⟨_, e⟩ | ⟨_, e⟩
        · exact ⟨(xv_X15_isBlast_40 ko_2 e).1, fw_t fo_2 (xv_X15_isBlast_40 ko_2 e).2⟩
        · obtain ⟨r_6, er_6, e⟩ := cl_s e
          have yr_6 := dx_xd (a := 513) (b := 526) ko_2 (by decide) er_6
          subst yr_6
          obtain ⟨h_7, wh_7, e⟩ := nm_s e
          have kh_7 : DyX n xlV g h_7 := by rw [wh_7]; exact dx_wI ko_2
          have fh_7 : FrW (WBl n 526) h h_7 := by rw [wh_7]; exact fw_wI fo_2 (by unfold WBl; omega)
          obtain ⟨o_8, eo_8, e⟩ := cl_s e
          obtain ⟨ko_8, fo_8⟩ := xv_X15_nextToken kh_7 eo_8
          replace fo_8 := fw_t fh_7 fo_8
          exact ⟨(ih ko_8 e).1, fw_t fo_8 (ih ko_8 e).2⟩
    · rw [← Option.some.inj e]; exact ⟨k, fw_0⟩
theorem xv_X15_isBlast {n : Nat} {g : Hp} {F : Nat} {o : Int32 × Hp} {x2 : Int32} {h : Hp} (k : DyX n xlV g h) (e : sX15_isBlast F h (n + 513) (n + 514) x2 = some o) : DyX n xlV g o.2 ∧ FrW (WBl n 526) h o.2 := by
  unfold sX15_isBlast at e
  obtain ⟨o_1, eo_1, e⟩ := cl_s e
  obtain ⟨ko_1, fo_1⟩ := xv_X15_nextToken k eo_1
  exact ⟨(xv_X15_isBlast_6 F ko_1 e).1, fw_t fo_1 (xv_X15_isBlast_6 F ko_1 e).2⟩
theorem xv_X15_isNumber_29 {n : Nat} {g : Hp} {o : Int32 × Hp} {t0 : Int32} {h : Hp} (k : DyX n xlV g h) (e : sX15_isNumber_29 h t0 = some o) : DyX n xlV g o.2 ∧ FrW (WBl n 526) h o.2 := by
  unfold sX15_isNumber_29 at e
  replace e := (gd_s e).2
  rw [← Option.some.inj e]; exact ⟨k, fw_0⟩
theorem xv_X15_isNumber_28 {n : Nat} {g : Hp} {o : Int32 × Hp} {h : Hp} (k : DyX n xlV g h) (e : sX15_isNumber_28 h = some o) : DyX n xlV g o.2 ∧ FrW (WBl n 526) h o.2 := by
  unfold sX15_isNumber_28 at e
  exact xv_X15_isNumber_29 k e
theorem xv_X15_isNumber {n : Nat} {g : Hp} {o : Int32 × Hp} {x1 : Int32} {x2 : Int32} {h : Hp} (k : DyX n xlV g h) (e : sX15_isNumber h (n + 513) x1 x2 = some o) : DyX n xlV g o.2 ∧ FrW (WBl n 526) h o.2 := by
  unfold sX15_isNumber at e
  rcases br_s e with ⟨_, e⟩ | ⟨_, e⟩
  · rcases br_s e with ⟨_, e⟩ | ⟨_, e⟩
    · exact xv_X15_isNumber_28 k e
    · rcases br_s e with ⟨_, e⟩ | ⟨_, e⟩
      · exact xv_X15_isNumber_28 k e
      · exact xv_X15_isNumber_29 k e
  · exact xv_X15_isNumber_28 k e
theorem xv_X15_isHill_128 {n : Nat} {g : Hp} {F : Nat} {o : Int32 × Hp} {h : Hp} (k : DyX n xlV g h) (e : sX15_isHill_128 F h = some o) : DyX n xlV g o.2 ∧ FrW (WBl n 526) h o.2 := by
  unfold sX15_isHill_128 at e
  rw [← Option.some.inj e]; exact ⟨k, fw_0⟩
theorem xv_X15_isHill_62 {n : Nat} {g : Hp} {F : Nat} {o : Int32 × Hp} {h : Hp} (k : DyX n xlV g h) (e : sX15_isHill_62 F h = some o) : DyX n xlV g o.2 ∧ FrW (WBl n 526) h o.2 := by
  unfold sX15_isHill_62 at e
  rw [← Option.some.inj e]; exact ⟨k, fw_0⟩
theorem xv_X15_isHill_22 {n : Nat} {g : Hp} {F : Nat} {o : Int32 × Hp} {x2 : Int32} {k_8 : Hp → Nat → Nat → Int32 → Int32 → Option (Int32 × Hp)} (D_8 : ∀ {h : Hp} {y3 : Int32} {y4 : Int32}, DyX n xlV g h → k_8 h (n + 513) (n + 514) y3 y4 = some o → DyX n xlV g o.2 ∧ FrW (WBl n 526) h o.2) {h : Hp} (k : DyX n xlV g h) (e : sX15_isHill_22 F k_8 h (n + 513) (n + 514) x2 = some o) : DyX n xlV g o.2 ∧ FrW (WBl n 526) h o.2 := by
  unfold sX15_isHill_22 at e
  rcases br_s e with ⟨_, e⟩ | ⟨_, e⟩
  · rcases br_s e with ⟨_, e⟩ | ⟨_, e⟩
    · replace e := (gd_s e).2
      obtain ⟨r_4, er_4, e⟩ := cl_s e
      have yr_4 := dx_xd (a := 513) (b := 526) k (by decide) er_4
      subst yr_4
      rcases br_s e with ⟨_, e⟩ | ⟨_, e⟩
      · replace e := (gd_s e).2
        obtain ⟨v_7, wv_7, e⟩ := nm_s e
        obtain ⟨o_8, eo_8, e⟩ := cl_s e
        obtain ⟨ko_8, fo_8⟩ := xv_X15_nextToken k eo_8
        obtain ⟨r_9, er_9, e⟩ := cl_s e
        have yr_9 := dx_xd (a := 513) (b := 526) ko_8 (by decide) er_9
        subst yr_9
        obtain ⟨o_10, eo_10, e⟩ := cl_s e
        obtain ⟨ko_10, fo_10⟩ := xv_X15_isNumber ko_8 eo_10
        replace fo_10 := fw_t fo_8 fo_10
        rcases br_s e with ⟨_, e⟩ | ⟨_, e⟩
        · exact ⟨(xv_X15_isHill_128 ko_10 e).1, fw_t fo_10 (xv_X15_isHill_128 ko_10 e).2⟩
        · obtain ⟨r_12, er_12, e⟩ := cl_s e
          have yr_12 := dx_xd (a := 513) (b := 526) ko_10 (by decide) er_12
          subst yr_12
          obtain ⟨r_13, er_13, e⟩ := cl_s e
          have yr_13 := dx_xd (a := 513) (b := 526) ko_10 (by decide) er_13
          subst yr_13
          rcases br_s e with ⟨_, e⟩ | ⟨_, e⟩
          · exact ⟨(xv_X15_isHill_128 ko_10 e).1, fw_t fo_10 (xv_X15_isHill_128 ko_10 e).2⟩
          · obtain ⟨r_15, er_15, e⟩ := cl_s e
            have yr_15 := dx_xd (a := 513) (b := 526) ko_10 (by decide) er_15
            subst yr_15
            obtain ⟨r_16, er_16, e⟩ := cl_s e
            have yr_16 := dx_xd (a := 513) (b := 526) ko_10 (by decide) er_16
            subst yr_16
            obtain ⟨h_17, wh_17, e⟩ := nm_s e
            have kh_17 : DyX n xlV g h_17 := by rw [wh_17]; exact dx_wJ ko_10
            have fh_17 : FrW (WBl n 526) h h_17 := by rw [wh_17]; exact fw_wJ fo_10 (by unfold WBl; omega)
            obtain ⟨o_18, eo_18, e⟩ := cl_s e
            obtain ⟨ko_18, fo_18⟩ := xv_X15_nextToken kh_17 eo_18
            replace fo_18 := fw_t fh_17 fo_18
            exact ⟨(D_8 ko_18 e).1, fw_t fo_18 (D_8 ko_18 e).2⟩
      · exact xv_X15_isHill_62 k e
    · exact xv_X15_isHill_62 k e
  · exact xv_X15_isHill_62 k e
theorem xv_X15_isSign_23 {n : Nat} {g : Hp} {o : Int32 × Hp} {t0 : Int32} {h : Hp} (k : DyX n xlV g h) (e : sX15_isSign_23 h t0 = some o) : DyX n xlV g o.2 ∧ FrW (WBl n 526) h o.2 := by
  unfold sX15_isSign_23 at e
  replace e := (gd_s e).2
  rw [← Option.some.inj e]; exact ⟨k, fw_0⟩
theorem xv_X15_isSign_22 {n : Nat} {g : Hp} {o : Int32 × Hp} {h : Hp} (k : DyX n xlV g h) (e : sX15_isSign_22 h = some o) : DyX n xlV g o.2 ∧ FrW (WBl n 526) h o.2 := by
  unfold sX15_isSign_22 at e
  exact xv_X15_isSign_23 k e
theorem xv_X15_isSign {n : Nat} {g : Hp} {o : Int32 × Hp} {x2 : Int32} {h : Hp} (k : DyX n xlV g h) (e : sX15_isSign h (n + 513) (n + 514) x2 = some o) : DyX n xlV g o.2 ∧ FrW (WBl n 526) h o.2 := by
  unfold sX15_isSign at e
  rcases br_s e with ⟨_, e⟩ | ⟨_, e⟩
  · replace e := (gd_s e).2
    rcases br_s e with ⟨_, e⟩ | ⟨_, e⟩
    · exact xv_X15_isSign_23 k e
    · exact xv_X15_isSign_22 k e
  · exact xv_X15_isSign_22 k e
theorem xv_X15_isHill_8 {n : Nat} {g : Hp} {F : Nat} {o : Int32 × Hp} : ∀ (f : Nat) {h : Hp} {x2 : Int32} {x3 : Int32}, DyX n xlV g h → sX15_isHill_8 F f h (n + 513) (n + 514) x2 x3 = some o → DyX n xlV g o.2 ∧ FrW (WBl n 526) h o.2 := by
  intro f
  induction f with
  | zero => intro h x2 x3 _ e; exact absurd e (by rw [sX15_isHill_8]; exact fun z => nomatch z)
  | succ f ih =>
    intro h x2 x3 k e
    rw [sX15_isHill_8] at e
    rcases br_s e with ⟨_, e⟩ | ⟨_, e⟩
    · exact xv_X15_isHill_22 (fun k e => ih k e) k e
    · obtain ⟨o_2, eo_2, e⟩ := cl_s e
      obtain ⟨ko_2, fo_2⟩ := xv_X15_isSign k eo_2
      rcases br_s e with ⟨_, e⟩ | ⟨_, e⟩
      · exact ⟨(xv_X15_isHill_22 (fun k e => ih k e) ko_2 e).1, fw_t fo_2 (xv_X15_isHill_22 (fun k e => ih k e) ko_2 e).2⟩
      · rw [← Option.some.inj e]; exact ⟨ko_2, fo_2⟩
theorem xv_X15_isHill {n : Nat} {g : Hp} {F : Nat} {o : Int32 × Hp} {x2 : Int32} {h : Hp} (k : DyX n xlV g h) (e : sX15_isHill F h (n + 513) (n + 514) x2 = some o) : DyX n xlV g o.2 ∧ FrW (WBl n 526) h o.2 := by
  unfold sX15_isHill at e
  obtain ⟨o_1, eo_1, e⟩ := cl_s e
  obtain ⟨ko_1, fo_1⟩ := xv_X15_nextToken k eo_1
  exact ⟨(xv_X15_isHill_8 F ko_1 e).1, fw_t fo_1 (xv_X15_isHill_8 F ko_1 e).2⟩
theorem xv_X15_goesOn {n : Nat} {g : Hp} {F : Nat} {o : Int32 × Hp} {x2 : Int32} {h : Hp} (k : DyX n xlV g h) (e : sX15_goesOn F h (n + 513) (n + 514) x2 = some o) : DyX n xlV g o.2 ∧ FrW (WBl n 526) h o.2 := by
  unfold sX15_goesOn at e
  obtain ⟨o_1, eo_1, e⟩ := cl_s e
  obtain ⟨ko_1, fo_1⟩ := xv_X15_nextToken k eo_1
  rw [← Option.some.inj e]; exact ⟨ko_1, fo_1⟩
theorem xv_X15_isChecks {n : Nat} {g : Hp} {F : Nat} {o : Int32 × Hp} {x2 : Int32} {h : Hp} (k : DyX n xlV g h) (e : sX15_isChecks F h (n + 513) (n + 514) x2 = some o) : DyX n xlV g o.2 ∧ FrW (WBl n 526) h o.2 := by
  unfold sX15_isChecks at e
  obtain ⟨o_1, eo_1, e⟩ := cl_s e
  obtain ⟨ko_1, fo_1⟩ := xv_X15_nextToken k eo_1
  obtain ⟨o_2, eo_2, e⟩ := cl_s e
  obtain ⟨ko_2, fo_2⟩ := xv_X15_isNumber ko_1 eo_2
  replace fo_2 := fw_t fo_1 fo_2
  rcases br_s e with ⟨_, e⟩ | ⟨_, e⟩
  · rw [← Option.some.inj e]; exact ⟨ko_2, fo_2⟩
  · obtain ⟨r_4, er_4, e⟩ := cl_s e
    have yr_4 := dx_xd (a := 513) (b := 526) ko_2 (by decide) er_4
    subst yr_4
    obtain ⟨h_5, wh_5, e⟩ := nm_s e
    have kh_5 : DyX n xlV g h_5 := by rw [wh_5]; exact dx_wI ko_2
    have fh_5 : FrW (WBl n 526) h h_5 := by rw [wh_5]; exact fw_wI fo_2 (by unfold WBl; omega)
    obtain ⟨o_6, eo_6, e⟩ := cl_s e
    obtain ⟨ko_6, fo_6⟩ := xv_X15_goesOn kh_5 eo_6
    replace fo_6 := fw_t fh_5 fo_6
    replace e := (gd_s e).2
    rw [← Option.some.inj e]; exact ⟨ko_6, fo_6⟩
end
