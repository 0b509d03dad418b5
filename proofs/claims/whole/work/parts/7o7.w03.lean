section
/-! what sX15_nextToken;x0=S:513;x1=S:514|sX15_isWord;x0=S:513;x1=S:514|sX15_isSign;x0=S:513;x1=S:514|sX15_isNumber;x0=S:513|sX15_manAt;x0=S:513;x1=S:514|sX14_isBecome|sX15_flagAt;x0=S:513;x1=S:514|sX15_goesOn;x0=S:513;x1=S:514 writes: printed by wfx.py -/
theorem wk_X15_byteAt_12 {n : Nat} {g : Hp} {o : Int32 × Hp} {t0 : Int32} {h : Hp} (k : DyX n xlO g h) (e : sX15_byteAt_12 h t0 = some o) : DyX n xlO g o.2 ∧ FrW (WTk n) h o.2 := by
  unfold sX15_byteAt_12 at e
  rw [← Option.some.inj e]; exact ⟨k, fw_0⟩
theorem wk_X15_byteAt {n : Nat} {g : Hp} {o : Int32 × Hp} {x2 : Int32} {x3 : Int32} {h : Hp} (k : DyX n xlO g h) (e : sX15_byteAt h (n + 513) (n + 514) x2 x3 = some o) : DyX n xlO g o.2 ∧ FrW (WTk n) h o.2 := by
  unfold sX15_byteAt at e
  rcases br_s e with ⟨_, e⟩ | ⟨_, e⟩
  · exact wk_X15_byteAt_12 k e
  · replace e := (gd_s e).2
    exact wk_X15_byteAt_12 k e
theorem wk_X15_isSmall_17 {n : Nat} {g : Hp} {o : Int32 × Hp} {t0 : Int32} {h : Hp} (k : DyX n xlO g h) (e : sX15_isSmall_17 h t0 = some o) : DyX n xlO g o.2 ∧ FrW (WTk n) h o.2 := by
  unfold sX15_isSmall_17 at e
  replace e := (gd_s e).2
  rw [← Option.some.inj e]; exact ⟨k, fw_0⟩
theorem wk_X15_isSmall_16 {n : Nat} {g : Hp} {o : Int32 × Hp} {h : Hp} (k : DyX n xlO g h) (e : sX15_isSmall_16 h = some o) : DyX n xlO g o.2 ∧ FrW (WTk n) h o.2 := by
  unfold sX15_isSmall_16 at e
  exact wk_X15_isSmall_17 k e
theorem wk_X15_isSmall {n : Nat} {g : Hp} {o : Int32 × Hp} {x0 : Int32} {h : Hp} (k : DyX n xlO g h) (e : sX15_isSmall h x0 = some o) : DyX n xlO g o.2 ∧ FrW (WTk n) h o.2 := by
  unfold sX15_isSmall at e
  rcases br_s e with ⟨_, e⟩ | ⟨_, e⟩
  · exact wk_X15_isSmall_16 k e
  · rcases br_s e with ⟨_, e⟩ | ⟨_, e⟩
    · exact wk_X15_isSmall_16 k e
    · exact wk_X15_isSmall_17 k e
theorem wk_X15_isDigit_17 {n : Nat} {g : Hp} {o : Int32 × Hp} {t0 : Int32} {h : Hp} (k : DyX n xlO g h) (e : sX15_isDigit_17 h t0 = some o) : DyX n xlO g o.2 ∧ FrW (WTk n) h o.2 := by
  unfold sX15_isDigit_17 at e
  replace e := (gd_s e).2
  rw [← Option.some.inj e]; exact ⟨k, fw_0⟩
theorem wk_X15_isDigit_16 {n : Nat} {g : Hp} {o : Int32 × Hp} {h : Hp} (k : DyX n xlO g h) (e : sX15_isDigit_16 h = some o) : DyX n xlO g o.2 ∧ FrW (WTk n) h o.2 := by
  unfold sX15_isDigit_16 at e
  exact wk_X15_isDigit_17 k e
theorem wk_X15_isDigit {n : Nat} {g : Hp} {o : Int32 × Hp} {x0 : Int32} {h : Hp} (k : DyX n xlO g h) (e : sX15_isDigit h x0 = some o) : DyX n xlO g o.2 ∧ FrW (WTk n) h o.2 := by
  unfold sX15_isDigit at e
  rcases br_s e with ⟨_, e⟩ | ⟨_, e⟩
  · exact wk_X15_isDigit_16 k e
  · rcases br_s e with ⟨_, e⟩ | ⟨_, e⟩
    · exact wk_X15_isDigit_16 k e
    · exact wk_X15_isDigit_17 k e
theorem wk_X15_nextToken_308 {n : Nat} {g : Hp} {F : Nat} {o : Hp} {h : Hp} (k : DyX n xlO g h) (e : sX15_nextToken_308 F h = some o) : DyX n xlO g o ∧ FrW (WTk n) h o := by
  unfold sX15_nextToken_308 at e
  rw [← Option.some.inj e]; exact ⟨k, fw_0⟩
theorem wk_X15_nextToken_298 {n : Nat} {g : Hp} {F : Nat} {o : Hp} {x3 : Int32} {t0 : Int32} {h : Hp} (k : DyX n xlO g h) (e : sX15_nextToken_298 F h (n + 513) x3 t0 (n + 513) = some o) : DyX n xlO g o ∧ FrW (WTk n) h o := by
  unfold sX15_nextToken_298 at e
  obtain ⟨h_1, wh_1, e⟩ := nm_s e
  have kh_1 : DyX n xlO g h_1 := by rw [wh_1]; exact dx_wI k
  have fh_1 : FrW (WTk n) h h_1 := by rw [wh_1]; exact fw_wI fw_0 (by unfold WTk; omega)
  obtain ⟨h_2, wh_2, e⟩ := nm_s e
  have kh_2 : DyX n xlO g h_2 := by rw [wh_2]; exact dx_wI kh_1
  have fh_2 : FrW (WTk n) h h_2 := by rw [wh_2]; exact fw_wI fh_1 (by unfold WTk; omega)
  exact ⟨(wk_X15_nextToken_308 kh_2 e).1, fw_t fh_2 (wk_X15_nextToken_308 kh_2 e).2⟩
theorem wk_X15_nextToken_293 {n : Nat} {g : Hp} {F : Nat} {o : Hp} {x3 : Int32} {h : Hp} (k : DyX n xlO g h) (e : sX15_nextToken_293 F h (n + 513) x3 (n + 513) = some o) : DyX n xlO g o ∧ FrW (WTk n) h o := by
  unfold sX15_nextToken_293 at e
  exact wk_X15_nextToken_298 k e
theorem wk_X15_nextToken_278 {n : Nat} {g : Hp} {F : Nat} {o : Hp} {x3 : Int32} {x4 : Int32} {h : Hp} (k : DyX n xlO g h) (e : sX15_nextToken_278 F h (n + 513) x3 x4 = some o) : DyX n xlO g o ∧ FrW (WTk n) h o := by
  unfold sX15_nextToken_278 at e
  rcases br_s e with ⟨_, e⟩ | ⟨_, e⟩
  · exact wk_X15_nextToken_293 k e
  · rcases br_s e with ⟨_, e⟩ | ⟨_, e⟩
    · exact wk_X15_nextToken_293 k e
    · exact wk_X15_nextToken_298 k e
theorem wk_X15_nextToken_266 {n : Nat} {g : Hp} {F : Nat} {o : Hp} {x6 : Int32} {t0 : Int32} {h : Hp} (k : DyX n xlO g h) (e : sX15_nextToken_266 F h (n + 513) x6 t0 (n + 513) = some o) : DyX n xlO g o ∧ FrW (WTk n) h o := by
  unfold sX15_nextToken_266 at e
  obtain ⟨h_1, wh_1, e⟩ := nm_s e
  have kh_1 : DyX n xlO g h_1 := by rw [wh_1]; exact dx_wI k
  have fh_1 : FrW (WTk n) h h_1 := by rw [wh_1]; exact fw_wI fw_0 (by unfold WTk; omega)
  obtain ⟨h_2, wh_2, e⟩ := nm_s e
  have kh_2 : DyX n xlO g h_2 := by rw [wh_2]; exact dx_wI kh_1
  have fh_2 : FrW (WTk n) h h_2 := by rw [wh_2]; exact fw_wI fh_1 (by unfold WTk; omega)
  exact ⟨(wk_X15_nextToken_308 kh_2 e).1, fw_t fh_2 (wk_X15_nextToken_308 kh_2 e).2⟩
theorem wk_X15_nextToken_242 {n : Nat} {g : Hp} {F : Nat} {o : Hp} {x4 : Int32} {x6 : Int32} {t0 : Int32} {h : Hp} (k : DyX n xlO g h) (e : sX15_nextToken_242 F h (n + 513) x4 x6 t0 (n + 513) = some o) : DyX n xlO g o ∧ FrW (WTk n) h o := by
  unfold sX15_nextToken_242 at e
  obtain ⟨h_1, wh_1, e⟩ := nm_s e
  have kh_1 : DyX n xlO g h_1 := by rw [wh_1]; exact dx_wI k
  have fh_1 : FrW (WTk n) h h_1 := by rw [wh_1]; exact fw_wI fw_0 (by unfold WTk; omega)
  rcases br_s e with ⟨_, e⟩ | ⟨_, e⟩
  · exact ⟨(wk_X15_nextToken_266 kh_1 e).1, fw_t fh_1 (wk_X15_nextToken_266 kh_1 e).2⟩
  · exact ⟨(wk_X15_nextToken_266 kh_1 e).1, fw_t fh_1 (wk_X15_nextToken_266 kh_1 e).2⟩
theorem wk_X15_nextToken_194 {n : Nat} {g : Hp} {F : Nat} {o : Hp} {x4 : Int32} {x5 : Int32} {x6 : Int32} {t0 : Int32} {h : Hp} (k : DyX n xlO g h) (e : sX15_nextToken_194 F h (n + 513) (n + 514) x4 x5 x6 t0 (n + 513) = some o) : DyX n xlO g o ∧ FrW (WTk n) h o := by
  unfold sX15_nextToken_194 at e
  obtain ⟨h_1, wh_1, e⟩ := nm_s e
  have kh_1 : DyX n xlO g h_1 := by rw [wh_1]; exact dx_wI k
  have fh_1 : FrW (WTk n) h h_1 := by rw [wh_1]; exact fw_wI fw_0 (by unfold WTk; omega)
  replace e := (gd_s e).2
  obtain ⟨h_3, wh_3, e⟩ := nm_s e
  have kh_3 : DyX n xlO g h_3 := by rw [wh_3]; exact dx_wI kh_1
  have fh_3 : FrW (WTk n) h h_3 := by rw [wh_3]; exact fw_wI fh_1 (by unfold WTk; omega)
  rcases br_s e with ⟨_, e⟩ | ⟨_, e⟩
  · replace e := (gd_s e).2
    exact ⟨(wk_X15_nextToken_242 kh_3 e).1, fw_t fh_3 (wk_X15_nextToken_242 kh_3 e).2⟩
  · exact ⟨(wk_X15_nextToken_242 kh_3 e).1, fw_t fh_3 (wk_X15_nextToken_242 kh_3 e).2⟩
theorem wk_X15_nextToken_159 {n : Nat} {g : Hp} {F : Nat} {o : Hp} : ∀ (f : Nat) {h : Hp} {x2 : Int32} {x4 : Int32} {x5 : Int32} {x6 : Int32}, DyX n xlO g h → sX15_nextToken_159 F f h (n + 513) (n + 514) x2 x4 x5 x6 = some o → DyX n xlO g o ∧ FrW (WTk n) h o := by
  intro f
  induction f with
  | zero => intro h x2 x4 x5 x6 _ e; exact absurd e (by rw [sX15_nextToken_159]; exact fun z => nomatch z)
  | succ f ih =>
    intro h x2 x4 x5 x6 k e
    rw [sX15_nextToken_159] at e
    obtain ⟨o_1, eo_1, e⟩ := cl_s e
    obtain ⟨ko_1, fo_1⟩ := wk_X15_byteAt k eo_1
    obtain ⟨o_2, eo_2, e⟩ := cl_s e
    obtain ⟨ko_2, fo_2⟩ := wk_X15_isDigit ko_1 eo_2
    replace fo_2 := fw_t fo_1 fo_2
    rcases br_s e with ⟨_, e⟩ | ⟨_, e⟩
    · rcases br_s e with ⟨_, e⟩ | ⟨_, e⟩
      · exact ⟨(wk_X15_nextToken_194 ko_2 e).1, fw_t fo_2 (wk_X15_nextToken_194 ko_2 e).2⟩
      · exact ⟨(wk_X15_nextToken_194 ko_2 e).1, fw_t fo_2 (wk_X15_nextToken_194 ko_2 e).2⟩
    · obtain ⟨v_5, wv_5, e⟩ := nm_s e
      exact ⟨(ih ko_2 e).1, fw_t fo_2 (ih ko_2 e).2⟩
theorem wk_X15_nextToken_153 {n : Nat} {g : Hp} {F : Nat} {o : Hp} {x2 : Int32} {x4 : Int32} {t0 : Int32} {h : Hp} (k : DyX n xlO g h) (e : sX15_nextToken_153 F h (n + 513) (n + 514) x2 x4 t0 = some o) : DyX n xlO g o ∧ FrW (WTk n) h o := by
  unfold sX15_nextToken_153 at e
  exact wk_X15_nextToken_159 F k e
theorem wk_X15_nextToken_139 {n : Nat} {g : Hp} {F : Nat} {o : Hp} {x2 : Int32} {x3 : Int32} {x4 : Int32} {h : Hp} (k : DyX n xlO g h) (e : sX15_nextToken_139 F h (n + 513) (n + 514) x2 x3 x4 = some o) : DyX n xlO g o ∧ FrW (WTk n) h o := by
  unfold sX15_nextToken_139 at e
  rcases br_s e with ⟨_, e⟩ | ⟨_, e⟩
  · exact wk_X15_nextToken_153 k e
  · exact wk_X15_nextToken_153 k e
theorem wk_X15_nextToken_77 {n : Nat} {g : Hp} {F : Nat} {o : Hp} : ∀ (f : Nat) {h : Hp} {x2 : Int32} {x3 : Int32}, DyX n xlO g h → sX15_nextToken_77 F f h (n + 513) (n + 514) x2 x3 = some o → DyX n xlO g o ∧ FrW (WTk n) h o := by
  intro f
  induction f with
  | zero => intro h x2 x3 _ e; exact absurd e (by rw [sX15_nextToken_77]; exact fun z => nomatch z)
  | succ f ih =>
    intro h x2 x3 k e
    rw [sX15_nextToken_77] at e
    obtain ⟨o_1, eo_1, e⟩ := cl_s e
    obtain ⟨ko_1, fo_1⟩ := wk_X15_byteAt k eo_1
    obtain ⟨o_2, eo_2, e⟩ := cl_s e
    obtain ⟨ko_2, fo_2⟩ := wk_X15_isSmall ko_1 eo_2
    replace fo_2 := fw_t fo_1 fo_2
    rcases br_s e with ⟨_, e⟩ | ⟨_, e⟩
    · obtain ⟨h_4, wh_4, e⟩ := nm_s e
      have kh_4 : DyX n xlO g h_4 := by rw [wh_4]; exact dx_wI ko_2
      have fh_4 : FrW (WTk n) h h_4 := by rw [wh_4]; exact fw_wI fo_2 (by unfold WTk; omega)
      obtain ⟨h_5, wh_5, e⟩ := nm_s e
      have kh_5 : DyX n xlO g h_5 := by rw [wh_5]; exact dx_wI kh_4
      have fh_5 : FrW (WTk n) h h_5 := by rw [wh_5]; exact fw_wI fh_4 (by unfold WTk; omega)
      exact ⟨(wk_X15_nextToken_308 kh_5 e).1, fw_t fh_5 (wk_X15_nextToken_308 kh_5 e).2⟩
    · obtain ⟨v_6, wv_6, e⟩ := nm_s e
      exact ⟨(ih ko_2 e).1, fw_t fo_2 (ih ko_2 e).2⟩
theorem wk_X15_nextToken_32 {n : Nat} {g : Hp} {F : Nat} {o : Hp} {x2 : Int32} {x3 : Int32} {h : Hp} (k : DyX n xlO g h) (e : sX15_nextToken_32 F h (n + 513) (n + 514) x2 x3 = some o) : DyX n xlO g o ∧ FrW (WTk n) h o := by
  unfold sX15_nextToken_32 at e
  obtain ⟨h_1, wh_1, e⟩ := nm_s e
  have kh_1 : DyX n xlO g h_1 := by rw [wh_1]; exact dx_wI k
  have fh_1 : FrW (WTk n) h h_1 := by rw [wh_1]; exact fw_wI fw_0 (by unfold WTk; omega)
  obtain ⟨o_2, eo_2, e⟩ := cl_s e
  obtain ⟨ko_2, fo_2⟩ := wk_X15_byteAt kh_1 eo_2
  replace fo_2 := fw_t fh_1 fo_2
  rcases br_s e with ⟨_, e⟩ | ⟨_, e⟩
  · obtain ⟨o_4, eo_4, e⟩ := cl_s e
    obtain ⟨ko_4, fo_4⟩ := wk_X15_isSmall ko_2 eo_4
    replace fo_4 := fw_t fo_2 fo_4
    rcases br_s e with ⟨_, e⟩ | ⟨_, e⟩
    · obtain ⟨o_6, eo_6, e⟩ := cl_s e
      obtain ⟨ko_6, fo_6⟩ := wk_X15_isDigit ko_4 eo_6
      replace fo_6 := fw_t fo_4 fo_6
      rcases br_s e with ⟨_, e⟩ | ⟨_, e⟩
      · rcases br_s e with ⟨_, e⟩ | ⟨_, e⟩
        · obtain ⟨o_9, eo_9, e⟩ := cl_s e
          obtain ⟨ko_9, fo_9⟩ := wk_X15_byteAt ko_6 eo_9
          replace fo_9 := fw_t fo_6 fo_9
          obtain ⟨o_10, eo_10, e⟩ := cl_s e
          obtain ⟨ko_10, fo_10⟩ := wk_X15_isDigit ko_9 eo_10
          replace fo_10 := fw_t fo_9 fo_10
          rcases br_s e with ⟨_, e⟩ | ⟨_, e⟩
          · exact ⟨(wk_X15_nextToken_278 ko_10 e).1, fw_t fo_10 (wk_X15_nextToken_278 ko_10 e).2⟩
          · exact ⟨(wk_X15_nextToken_139 ko_10 e).1, fw_t fo_10 (wk_X15_nextToken_139 ko_10 e).2⟩
        · exact ⟨(wk_X15_nextToken_278 ko_6 e).1, fw_t fo_6 (wk_X15_nextToken_278 ko_6 e).2⟩
      · exact ⟨(wk_X15_nextToken_139 ko_6 e).1, fw_t fo_6 (wk_X15_nextToken_139 ko_6 e).2⟩
    · exact ⟨(wk_X15_nextToken_77 F ko_4 e).1, fw_t fo_4 (wk_X15_nextToken_77 F ko_4 e).2⟩
  · obtain ⟨h_12, wh_12, e⟩ := nm_s e
    have kh_12 : DyX n xlO g h_12 := by rw [wh_12]; exact dx_wI ko_2
    have fh_12 : FrW (WTk n) h h_12 := by rw [wh_12]; exact fw_wI fo_2 (by unfold WTk; omega)
    obtain ⟨h_13, wh_13, e⟩ := nm_s e
    have kh_13 : DyX n xlO g h_13 := by rw [wh_13]; exact dx_wI kh_12
    have fh_13 : FrW (WTk n) h h_13 := by rw [wh_13]; exact fw_wI fh_12 (by unfold WTk; omega)
    obtain ⟨h_14, wh_14, e⟩ := nm_s e
    have kh_14 : DyX n xlO g h_14 := by rw [wh_14]; exact dx_wI kh_13
    have fh_14 : FrW (WTk n) h h_14 := by rw [wh_14]; exact fw_wI fh_13 (by unfold WTk; omega)
    exact ⟨(wk_X15_nextToken_308 kh_14 e).1, fw_t fh_14 (wk_X15_nextToken_308 kh_14 e).2⟩
theorem wk_X15_nextToken_26 {n : Nat} {g : Hp} {F : Nat} {o : Hp} {x2 : Int32} {x3 : Int32} {k_5 : Hp → Nat → Nat → Int32 → Int32 → Option (Hp)} (D_5 : ∀ {h : Hp} {y3 : Int32} {y4 : Int32}, DyX n xlO g h → k_5 h (n + 513) (n + 514) y3 y4 = some o → DyX n xlO g o ∧ FrW (WTk n) h o) {h : Hp} (k : DyX n xlO g h) (e : sX15_nextToken_26 F k_5 h (n + 513) (n + 514) x2 x3 = some o) : DyX n xlO g o ∧ FrW (WTk n) h o := by
  unfold sX15_nextToken_26 at e
  obtain ⟨v_1, wv_1, e⟩ := nm_s e
  exact D_5 k e
theorem wk_X15_nextToken_5 {n : Nat} {g : Hp} {F : Nat} {o : Hp} : ∀ (f : Nat) {h : Hp} {x2 : Int32} {x3 : Int32}, DyX n xlO g h → sX15_nextToken_5 F f h (n + 513) (n + 514) x2 x3 = some o → DyX n xlO g o ∧ FrW (WTk n) h o := by
  intro f
  induction f with
  | zero => intro h x2 x3 _ e; exact absurd e (by rw [sX15_nextToken_5]; exact fun z => nomatch z)
  | succ f ih =>
    intro h x2 x3 k e
    rw [sX15_nextToken_5] at e
    rcases br_s e with ⟨_, e⟩ | ⟨_, e⟩
    · exact wk_X15_nextToken_32 k e
    · replace e := (gd_s e).2
      rcases br_s e with ⟨_, e⟩ | ⟨_, e⟩
      · exact wk_X15_nextToken_26 (fun k e => ih k e) k e
      · replace e := (gd_s e).2
        rcases br_s e with ⟨_, e⟩ | ⟨_, e⟩
        · exact wk_X15_nextToken_26 (fun k e => ih k e) k e
        · exact wk_X15_nextToken_32 k e
theorem wk_X15_nextToken {n : Nat} {g : Hp} {F : Nat} {o : Hp} {x2 : Int32} {h : Hp} (k : DyX n xlO g h) (e : sX15_nextToken F h (n + 513) (n + 514) x2 = some o) : DyX n xlO g o ∧ FrW (WTk n) h o := by
  unfold sX15_nextToken at e
  obtain ⟨v_1, wv_1, e⟩ := nm_s e
  exact wk_X15_nextToken_5 F k e
theorem wk_X15_isWord_28 {n : Nat} {g : Hp} {F : Nat} {o : Int32 × Hp} : ∀ (f : Nat) {h : Hp} {x2 : Nat} {x3 : Int32}, DyX n xlO g h → sX15_isWord_28 F f h (n + 513) (n + 514) x2 x3 = some o → DyX n xlO g o.2 ∧ FrW (WTk n) h o.2 := by
  intro f
  induction f with
  | zero => intro h x2 x3 _ e; exact absurd e (by rw [sX15_isWord_28]; exact fun z => nomatch z)
  | succ f ih =>
    intro h x2 x3 k e
    rw [sX15_isWord_28] at e
    rcases br_s e with ⟨_, e⟩ | ⟨_, e⟩
    · rw [← Option.some.inj e]; exact ⟨k, fw_0⟩
    · replace e := (gd_s e).2
      replace e := (gd_s e).2
      rcases br_s e with ⟨_, e⟩ | ⟨_, e⟩
      · obtain ⟨v_5, wv_5, e⟩ := nm_s e
        exact ih k e
      · rw [← Option.some.inj e]; exact ⟨k, fw_0⟩
theorem wk_X15_isWord_24 {n : Nat} {g : Hp} {F : Nat} {o : Int32 × Hp} {h : Hp} (k : DyX n xlO g h) (e : sX15_isWord_24 F h = some o) : DyX n xlO g o.2 ∧ FrW (WTk n) h o.2 := by
  unfold sX15_isWord_24 at e
  rw [← Option.some.inj e]; exact ⟨k, fw_0⟩
theorem wk_X15_isWord {n : Nat} {g : Hp} {F : Nat} {o : Int32 × Hp} {x2 : Nat} {h : Hp} (k : DyX n xlO g h) (e : sX15_isWord F h (n + 513) (n + 514) x2 = some o) : DyX n xlO g o.2 ∧ FrW (WTk n) h o.2 := by
  unfold sX15_isWord at e
  rcases br_s e with ⟨_, e⟩ | ⟨_, e⟩
  · rcases br_s e with ⟨_, e⟩ | ⟨_, e⟩
    · exact wk_X15_isWord_28 F k e
    · exact wk_X15_isWord_24 k e
  · exact wk_X15_isWord_24 k e
theorem wk_X15_isSign_23 {n : Nat} {g : Hp} {o : Int32 × Hp} {t0 : Int32} {h : Hp} (k : DyX n xlO g h) (e : sX15_isSign_23 h t0 = some o) : DyX n xlO g o.2 ∧ FrW (WTk n) h o.2 := by
  unfold sX15_isSign_23 at e
  replace e := (gd_s e).2
  rw [← Option.some.inj e]; exact ⟨k, fw_0⟩
theorem wk_X15_isSign_22 {n : Nat} {g : Hp} {o : Int32 × Hp} {h : Hp} (k : DyX n xlO g h) (e : sX15_isSign_22 h = some o) : DyX n xlO g o.2 ∧ FrW (WTk n) h o.2 := by
  unfold sX15_isSign_22 at e
  exact wk_X15_isSign_23 k e
theorem wk_X15_isSign {n : Nat} {g : Hp} {o : Int32 × Hp} {x2 : Int32} {h : Hp} (k : DyX n xlO g h) (e : sX15_isSign h (n + 513) (n + 514) x2 = some o) : DyX n xlO g o.2 ∧ FrW (WTk n) h o.2 := by
  unfold sX15_isSign at e
  rcases br_s e with ⟨_, e⟩ | ⟨_, e⟩
  · replace e := (gd_s e).2
    rcases br_s e with ⟨_, e⟩ | ⟨_, e⟩
    · exact wk_X15_isSign_23 k e
    · exact wk_X15_isSign_22 k e
  · exact wk_X15_isSign_22 k e
theorem wk_X15_isNumber_29 {n : Nat} {g : Hp} {o : Int32 × Hp} {t0 : Int32} {h : Hp} (k : DyX n xlO g h) (e : sX15_isNumber_29 h t0 = some o) : DyX n xlO g o.2 ∧ FrW (WTk n) h o.2 := by
  unfold sX15_isNumber_29 at e
  replace e := (gd_s e).2
  rw [← Option.some.inj e]; exact ⟨k, fw_0⟩
theorem wk_X15_isNumber_28 {n : Nat} {g : Hp} {o : Int32 × Hp} {h : Hp} (k : DyX n xlO g h) (e : sX15_isNumber_28 h = some o) : DyX n xlO g o.2 ∧ FrW (WTk n) h o.2 := by
  unfold sX15_isNumber_28 at e
  exact wk_X15_isNumber_29 k e
theorem wk_X15_isNumber {n : Nat} {g : Hp} {o : Int32 × Hp} {x1 : Int32} {x2 : Int32} {h : Hp} (k : DyX n xlO g h) (e : sX15_isNumber h (n + 513) x1 x2 = some o) : DyX n xlO g o.2 ∧ FrW (WTk n) h o.2 := by
  unfold sX15_isNumber at e
  rcases br_s e with ⟨_, e⟩ | ⟨_, e⟩
  · rcases br_s e with ⟨_, e⟩ | ⟨_, e⟩
    · exact wk_X15_isNumber_28 k e
    · rcases br_s e with ⟨_, e⟩ | ⟨_, e⟩
      · exact wk_X15_isNumber_28 k e
      · exact wk_X15_isNumber_29 k e
  · exact wk_X15_isNumber_28 k e
theorem wk_X14_find_2 {n : Nat} {g : Hp} {F : Nat} {o : Int32 × Hp} : ∀ (f : Nat) {h : Hp} {x0 : Nat} {x1 : Int32} {x2 : Int32}, DyX n xlO g h → sX14_find_2 F f h x0 x1 x2 = some o → DyX n xlO g o.2 ∧ FrW (WTk n) h o.2 := by
  intro f
  induction f with
  | zero => intro h x0 x1 x2 _ e; exact absurd e (by rw [sX14_find_2]; exact fun z => nomatch z)
  | succ f ih =>
    intro h x0 x1 x2 k e
    rw [sX14_find_2] at e
    rcases br_s e with ⟨_, e⟩ | ⟨_, e⟩
    · rw [← Option.some.inj e]; exact ⟨k, fw_0⟩
    · obtain ⟨r_2, er_2, e⟩ := cl_s e
      replace e := (gd_s e).2
      rcases br_s e with ⟨_, e⟩ | ⟨_, e⟩
      · rw [← Option.some.inj e]; exact ⟨k, fw_0⟩
      · obtain ⟨v_5, wv_5, e⟩ := nm_s e
        exact ih k e
theorem wk_X14_find {n : Nat} {g : Hp} {F : Nat} {o : Int32 × Hp} {x0 : Nat} {x1 : Int32} {h : Hp} (k : DyX n xlO g h) (e : sX14_find F h x0 x1 = some o) : DyX n xlO g o.2 ∧ FrW (WTk n) h o.2 := by
  unfold sX14_find at e
  exact wk_X14_find_2 F k e
theorem wk_X15_manAt_38 {n : Nat} {g : Hp} {F : Nat} {o : Int32 × Hp} {t0 : Int32} {h : Hp} (k : DyX n xlO g h) (e : sX15_manAt_38 F h t0 = some o) : DyX n xlO g o.2 ∧ FrW (WTk n) h o.2 := by
  unfold sX15_manAt_38 at e
  rw [← Option.some.inj e]; exact ⟨k, fw_0⟩
theorem wk_X15_manAt_37 {n : Nat} {g : Hp} {F : Nat} {o : Int32 × Hp} {h : Hp} (k : DyX n xlO g h) (e : sX15_manAt_37 F h = some o) : DyX n xlO g o.2 ∧ FrW (WTk n) h o.2 := by
  unfold sX15_manAt_37 at e
  exact wk_X15_manAt_38 k e
theorem wk_X15_manAt {n : Nat} {g : Hp} {F : Nat} {o : Int32 × Hp} {h : Hp} (k : DyX n xlO g h) (e : sX15_manAt F h (n + 513) (n + 514) = some o) : DyX n xlO g o.2 ∧ FrW (WTk n) h o.2 := by
  unfold sX15_manAt at e
  rcases br_s e with ⟨_, e⟩ | ⟨_, e⟩
  · rcases br_s e with ⟨_, e⟩ | ⟨_, e⟩
    · obtain ⟨r_3, er_3, e⟩ := cl_s e
      replace e := (gd_s e).2
      obtain ⟨o_5, eo_5, e⟩ := cl_s e
      obtain ⟨ko_5, fo_5⟩ := wk_X14_find k eo_5
      exact ⟨(wk_X15_manAt_38 ko_5 e).1, fw_t fo_5 (wk_X15_manAt_38 ko_5 e).2⟩
    · exact wk_X15_manAt_37 k e
  · exact wk_X15_manAt_37 k e
theorem wk_X14_isBecome_48 {n : Nat} {g : Hp} {F : Nat} {o : Int32 × Hp} {x0 : Nat} {x1 : Int32} {x3 : Int32} {x4 : Int32} {t0 : Int32} {t1 : Int32} {k_4 : Hp → Nat → Int32 → Int32 → Int32 → Option (Int32 × Hp)} (D_4 : ∀ {h : Hp} {y1 : Nat} {y2 : Int32} {y3 : Int32} {y4 : Int32}, DyX n xlO g h → k_4 h y1 y2 y3 y4 = some o → DyX n xlO g o.2 ∧ FrW (WTk n) h o.2) {k_15 : Hp → Nat → Int32 → Int32 → Int32 → Int32 → Option (Int32 × Hp)} (D_15 : ∀ {h : Hp} {y1 : Nat} {y2 : Int32} {y3 : Int32} {y4 : Int32} {y5 : Int32}, DyX n xlO g h → k_15 h y1 y2 y3 y4 y5 = some o → DyX n xlO g o.2 ∧ FrW (WTk n) h o.2) {h : Hp} (k : DyX n xlO g h) (e : sX14_isBecome_48 F k_4 k_15 h x0 x1 x3 x4 t0 t1 = some o) : DyX n xlO g o.2 ∧ FrW (WTk n) h o.2 := by
  unfold sX14_isBecome_48 at e
  obtain ⟨v_1, wv_1, e⟩ := nm_s e
  obtain ⟨v_2, wv_2, e⟩ := nm_s e
  exact D_15 k e
theorem wk_X14_isBecome_15 {n : Nat} {g : Hp} {F : Nat} {o : Int32 × Hp} {k_4 : Hp → Nat → Int32 → Int32 → Int32 → Option (Int32 × Hp)} (D_4 : ∀ {h : Hp} {y1 : Nat} {y2 : Int32} {y3 : Int32} {y4 : Int32}, DyX n xlO g h → k_4 h y1 y2 y3 y4 = some o → DyX n xlO g o.2 ∧ FrW (WTk n) h o.2) : ∀ (f : Nat) {h : Hp} {x0 : Nat} {x1 : Int32} {x2 : Int32} {x3 : Int32} {x4 : Int32}, DyX n xlO g h → sX14_isBecome_15 F k_4 f h x0 x1 x2 x3 x4 = some o → DyX n xlO g o.2 ∧ FrW (WTk n) h o.2 := by
  intro f
  induction f with
  | zero => intro h x0 x1 x2 x3 x4 _ e; exact absurd e (by rw [sX14_isBecome_15]; exact fun z => nomatch z)
  | succ f ih =>
    intro h x0 x1 x2 x3 x4 k e
    rw [sX14_isBecome_15] at e
    obtain ⟨r_1, er_1, e⟩ := cl_s e
    replace e := (gd_s e).2
    rcases br_s e with ⟨_, e⟩ | ⟨_, e⟩
    · obtain ⟨v_4, wv_4, e⟩ := nm_s e
      exact D_4 k e
    · obtain ⟨r_5, er_5, e⟩ := cl_s e
      replace e := (gd_s e).2
      rcases br_s e with ⟨_, e⟩ | ⟨_, e⟩
      · exact wk_X14_isBecome_48 D_4 (fun k e => ih k e) k e
      · exact wk_X14_isBecome_48 D_4 (fun k e => ih k e) k e
theorem wk_X14_isBecome_4 {n : Nat} {g : Hp} {F : Nat} {o : Int32 × Hp} : ∀ (f : Nat) {h : Hp} {x0 : Nat} {x1 : Int32} {x2 : Int32} {x3 : Int32}, DyX n xlO g h → sX14_isBecome_4 F f h x0 x1 x2 x3 = some o → DyX n xlO g o.2 ∧ FrW (WTk n) h o.2 := by
  intro f
  induction f with
  | zero => intro h x0 x1 x2 x3 _ e; exact absurd e (by rw [sX14_isBecome_4]; exact fun z => nomatch z)
  | succ f ih =>
    intro h x0 x1 x2 x3 k e
    rw [sX14_isBecome_4] at e
    rcases br_s e with ⟨_, e⟩ | ⟨_, e⟩
    · replace e := (gd_s e).2
      rw [← Option.some.inj e]; exact ⟨k, fw_0⟩
    · exact wk_X14_isBecome_15 (fun k e => ih k e) F k e
theorem wk_X14_isBecome {n : Nat} {g : Hp} {F : Nat} {o : Int32 × Hp} {x0 : Nat} {x1 : Int32} {h : Hp} (k : DyX n xlO g h) (e : sX14_isBecome F h x0 x1 = some o) : DyX n xlO g o.2 ∧ FrW (WTk n) h o.2 := by
  unfold sX14_isBecome at e
  exact wk_X14_isBecome_4 F k e
theorem wk_X15_flagAt_88 {n : Nat} {g : Hp} {F : Nat} {o : Int32 × Hp} {t0 : Int32} {h : Hp} (k : DyX n xlO g h) (e : sX15_flagAt_88 F h t0 = some o) : DyX n xlO g o.2 ∧ FrW (WTk n) h o.2 := by
  unfold sX15_flagAt_88 at e
  rw [← Option.some.inj e]; exact ⟨k, fw_0⟩
theorem wk_X15_flagAt {n : Nat} {g : Hp} {F : Nat} {o : Int32 × Hp} {h : Hp} (k : DyX n xlO g h) (e : sX15_flagAt F h (n + 513) (n + 514) = some o) : DyX n xlO g o.2 ∧ FrW (WTk n) h o.2 := by
  unfold sX15_flagAt at e
  obtain ⟨o_1, eo_1, e⟩ := cl_s e
  obtain ⟨ko_1, fo_1⟩ := wk_X15_isWord k eo_1
  rcases br_s e with ⟨_, e⟩ | ⟨_, e⟩
  · obtain ⟨o_3, eo_3, e⟩ := cl_s e
    obtain ⟨ko_3, fo_3⟩ := wk_X15_isWord ko_1 eo_3
    replace fo_3 := fw_t fo_1 fo_3
    rcases br_s e with ⟨_, e⟩ | ⟨_, e⟩
    · obtain ⟨o_5, eo_5, e⟩ := cl_s e
      obtain ⟨ko_5, fo_5⟩ := wk_X15_isWord ko_3 eo_5
      replace fo_5 := fw_t fo_3 fo_5
      rcases br_s e with ⟨_, e⟩ | ⟨_, e⟩
      · obtain ⟨o_7, eo_7, e⟩ := cl_s e
        obtain ⟨ko_7, fo_7⟩ := wk_X15_isWord ko_5 eo_7
        replace fo_7 := fw_t fo_5 fo_7
        rcases br_s e with ⟨_, e⟩ | ⟨_, e⟩
        · obtain ⟨o_9, eo_9, e⟩ := cl_s e
          obtain ⟨ko_9, fo_9⟩ := wk_X15_isWord ko_7 eo_9
          replace fo_9 := fw_t fo_7 fo_9
          rcases br_s e with ⟨_, e⟩ | ⟨_, e⟩
          · obtain ⟨o_11, eo_11, e⟩ := cl_s e
            obtain ⟨ko_11, fo_11⟩ := wk_X15_isWord ko_9 eo_11
            replace fo_11 := fw_t fo_9 fo_11
            rcases br_s e with ⟨_, e⟩ | ⟨_, e⟩
            · exact ⟨(wk_X15_flagAt_88 ko_11 e).1, fw_t fo_11 (wk_X15_flagAt_88 ko_11 e).2⟩
            · exact ⟨(wk_X15_flagAt_88 ko_11 e).1, fw_t fo_11 (wk_X15_flagAt_88 ko_11 e).2⟩
          · exact ⟨(wk_X15_flagAt_88 ko_9 e).1, fw_t fo_9 (wk_X15_flagAt_88 ko_9 e).2⟩
        · exact ⟨(wk_X15_flagAt_88 ko_7 e).1, fw_t fo_7 (wk_X15_flagAt_88 ko_7 e).2⟩
      · exact ⟨(wk_X15_flagAt_88 ko_5 e).1, fw_t fo_5 (wk_X15_flagAt_88 ko_5 e).2⟩
    · exact ⟨(wk_X15_flagAt_88 ko_3 e).1, fw_t fo_3 (wk_X15_flagAt_88 ko_3 e).2⟩
  · exact ⟨(wk_X15_flagAt_88 ko_1 e).1, fw_t fo_1 (wk_X15_flagAt_88 ko_1 e).2⟩
theorem wk_X15_goesOn {n : Nat} {g : Hp} {F : Nat} {o : Int32 × Hp} {x2 : Int32} {h : Hp} (k : DyX n xlO g h) (e : sX15_goesOn F h (n + 513) (n + 514) x2 = some o) : DyX n xlO g o.2 ∧ FrW (WTk n) h o.2 := by
  unfold sX15_goesOn at e
  obtain ⟨o_1, eo_1, e⟩ := cl_s e
  obtain ⟨ko_1, fo_1⟩ := wk_X15_nextToken k eo_1
  rw [← Option.some.inj e]; exact ⟨ko_1, fo_1⟩
end
section
/-! what the RULES that the reference reads keep to -/
def LEs (lw : Nat) (h : Hp) (k : Nat) : Prop := ¬ (hI h (lw + 4) k = 0 ∧ hI h (lw + 5) k = 0) ∧ (hI h (lw + 3) k &&& (8 : Int32) = 0 ∨ hI h (lw + 3) k &&& (16 : Int32) = 0)
/-- a man that another becomes: not ROYAL, becomes none, told once -/
def LEb (lw : Nat) (h : Hp) (l k : Nat) : Prop := ¬ (hI h (lw + 8) (6 * l + k)).toInt = (hI h lw 10).toInt ∧ hI h (lw + 9) (hI h (lw + 8) (6 * l + k)).toNatClampNeg = 0 ∧ ∀ q : Nat, q < k → ¬ hI h (lw + 8) (6 * l + k) = hI h (lw + 8) (6 * l + q)
def LEi (m lw : Nat) (h : Hp) : Prop := ((0 ≤ (hI h lw 2).toInt ∧ (hI h lw 2).toInt ≤ 12) ∧ (-1 ≤ (hI h lw 10).toInt ∧ (hI h lw 10).toInt < (hI h lw 2).toInt) ∧ (-1 ≤ (hI h lw 11).toInt ∧ (hI h lw 11).toInt < (hI h lw 2).toInt) ∧ ((hI h lw 12).toInt = -1 ∨ (0 ≤ (hI h lw 12).toInt ∧ (hI h lw 12).toInt < (hI h lw 2).toInt ∧ 0 ≤ (hI h lw 10).toInt ∧ ¬ (hI h lw 12).toInt = (hI h lw 10).toInt)) ∧ (0 ≤ (hI h lw 22).toInt ∧ (hI h lw 22).toInt ≤ 2) ∧ ((hI h lw 10).toInt = -1 ∨ Bq (hI h m 10) 0)) ∧ (∀ l : Nat, l < 12 → (0 ≤ (hI h (lw + 9) l).toInt ∧ (hI h (lw + 9) l).toInt ≤ 6) ∧ ((hI h lw 2).toInt ≤ (l : Int) → hI h (lw + 9) l = 0) ∧ ∀ k : Nat, (k : Int) < (hI h (lw + 9) l).toInt → 0 ≤ (hI h (lw + 8) (6 * l + k)).toInt ∧ (hI h (lw + 8) (6 * l + k)).toInt < (hI h lw 2).toInt ∧ LEb lw h l k) ∧ ∀ l : Nat, l < 12 → (0 ≤ (hI h (lw + 2) l).toInt ∧ (hI h (lw + 2) l).toInt ≤ 8) ∧ (((hI h lw 2).toInt ≤ (l : Int) → hI h (lw + 2) l = 0) ∧ ((l : Int) < (hI h lw 2).toInt → ∀ q : Nat, q < l → ¬ hI h (lw + 1) l = hI h (lw + 1) q)) ∧ ∀ i : Nat, (i : Int) < (hI h (lw + 2) l).toInt → LEs lw h (8 * l + i)
section
variable {n w m lw F : Nat} {g h o : Hp} {x2 : Int32}
theorem lei_c (E : LEi m lw h) (p : ∀ i, i = 2 ∨ i = 10 ∨ i = 11 ∨ i = 12 ∨ i = 22 → hI o lw i = hI h lw i) (t : Bq (hI h m 10) 0 → Bq (hI o m 10) 0) (b9 : ∀ l, l < 12 → hI o (lw + 9) l = hI h (lw + 9) l) (b8 : ∀ l k : Nat, l < 12 → (k : Int) < (hI h (lw + 9) l).toInt → hI o (lw + 8) (6 * l + k) = hI h (lw + 8) (6 * l + k)) (s2 : ∀ l, l < 12 → hI o (lw + 2) l = hI h (lw + 2) l) (s1 : ∀ l, l < 12 → hI o (lw + 1) l = hI h (lw + 1) l) (s3 : ∀ l i : Nat, l < 12 → (i : Int) < (hI h (lw + 2) l).toInt → LEs lw h (8 * l + i) → LEs lw o (8 * l + i)) : LEi m lw o := by
  obtain ⟨⟨a1, a2, a3, a4, a5, a6⟩, B, C⟩ := E
  have p2 := p 2 (by decide)
  have p10 := p 10 (by decide)
  have p11 := p 11 (by decide)
  have p12 := p 12 (by decide)
  have p22 := p 22 (by decide)
  refine ⟨⟨by rw [p2]; exact a1, by rw [p2, p10]; exact a2, by rw [p2, p11]; exact a3, by rw [p12, p2, p10]; exact a4, by rw [p22]; exact a5, ?_⟩, fun l hl => ⟨by rw [b9 l hl]; exact (B l hl).1, fun z => by rw [b9 l hl]; rw [p2] at z; exact (B l hl).2.1 z, fun k hk => ?_⟩, fun l hl => ⟨by rw [s2 l hl]; exact (C l hl).1, ⟨fun z => ?_, fun z q hq => by rw [p2] at z; rw [s1 l hl, s1 q (by omega)]; exact (C l hl).2.1.2 z q hq⟩, fun i hi => ?_⟩⟩
  · rw [p10]
    exact a6.imp id t
  · rw [b9 l hl] at hk
    obtain ⟨y1, y2, y3, y4, y5⟩ := (B l hl).2.2 k hk
    have e8 := b8 l k hl hk
    have nx := nc_i y1
    exact ⟨by rw [e8]; exact y1, by rw [e8, p2]; exact y2, by rw [e8, p10]; exact y3, by rw [e8, b9 _ (by omega)]; exact y4, fun u hu => by rw [e8, b8 l u hl (by omega)]; exact y5 u hu⟩
  · rw [s2 l hl]
    rw [p2] at z
    exact (C l hl).2.1.1 z
  · rw [s2 l hl] at hi
    exact s3 l i hl hi ((C l hl).2.2 i hi)
/-- the law's cells and what was told once stay -/
def EqL (n w : Nat) (h o : Hp) : Prop := (∀ j i, j < 10 → hI o (n + w + j) i = hI h (n + w + j) i) ∧ hI o (n + 513) 10 = hI h (n + 513) 10
theorem eql_0 (A : EqL n w h o) (i : Nat) : hI o (n + w) i = hI h (n + w) i := A.1 0 i (by decide)
theorem eql_t {v : Hp} (A : EqL n w h o) (B : EqL n w o v) : EqL n w h v := ⟨fun j i l => (B.1 j i l).trans (A.1 j i l), B.2.trans A.2⟩
theorem les_k {k : Nat} (a : hI o (lw + 4) k = hI h (lw + 4) k) (b : hI o (lw + 5) k = hI h (lw + 5) k) (c : hI o (lw + 3) k = hI h (lw + 3) k) (E : LEs lw h k) : LEs lw o k := by
  unfold LEs at E ⊢
  rw [a, b, c]; exact E
theorem lei_e (A : EqL n w h o) (E : LEi (n + 513) (n + w) h) : LEi (n + 513) (n + w) o := lei_c E (fun i _ => eql_0 A i) (fun z => by rw [A.2]; exact z) (fun l _ => A.1 9 l (by decide)) (fun l k _ _ => A.1 8 _ (by decide)) (fun l _ => A.1 2 l (by decide)) (fun l _ => A.1 1 l (by decide)) (fun l i _ _ z => les_k (A.1 4 _ (by decide)) (A.1 5 _ (by decide)) (A.1 3 _ (by decide)) z)
theorem eql_k (hw : w = 516 ∨ w = 526) (k : DyK n g h) (f : FrW (WTk n) h o) : EqL n w h o := by
  have s6 := dk_610 k
  refine ⟨fun j i l => (f.2 _ _ (by omega) (fun c => by unfold WTk at c; omega)).1, (f.2 _ _ (by omega) (fun c => by unfold WTk at c; omega)).1⟩
/-- references of the reader and of its law -/
theorem lx_5 (k : DyK n g h) (eg : hR g (n + 513) 5 = some (n + w)) : hR h (n + 513) 5 = some (n + w) := by
  rw [k.1.2.2.2.2.2 5 (Or.inr rfl)]; exact eg
abbrev lwF : List (Nat × Nat) := [(3, 1), (4, 2), (5, 3), (6, 4), (7, 5), (8, 6), (9, 7), (13, 8), (14, 9)]
theorem lx_e (k : DyK n g h) (hw : w = 516 ∨ w = 526) {f b : Nat} (m : (f, b) ∈ lwF) : hR h (n + w) f = some (n + w + b) := by
  rcases hw with z | z <;> subst z
  · have : ∀ q, q ∈ lwF → (516, q.1, 516 + q.2) ∈ edL := by decide +kernel
    have := dk_e k (this (f, b) m)
    rw [show n + (516 + (f, b).2) = n + 516 + b by show n + (516 + b) = _; omega] at this
    exact this
  · have : ∀ q, q ∈ lwF → (526, q.1, 526 + q.2) ∈ edL := by decide +kernel
    have := dk_e k (this (f, b) m)
    rw [show n + (526 + (f, b).2) = n + 526 + b by show n + (526 + b) = _; omega] at this
    exact this
theorem te_n (hw : w = 516 ∨ w = 526) (k : DyK n g h) (e : sX15_nextToken F h (n + 513) (n + 514) x2 = some o) : DyK n g o ∧ EqL n w h o := by
  obtain ⟨a, b⟩ := wk_X15_nextToken (dx_0 k) e
  exact ⟨a.1, eql_k hw k b⟩
theorem te_w {x : Nat} {o : Int32 × Hp} (hw : w = 516 ∨ w = 526) (k : DyK n g h) (e : sX15_isWord F h (n + 513) (n + 514) x = some o) : DyK n g o.2 ∧ EqL n w h o.2 := by
  obtain ⟨a, b⟩ := wk_X15_isWord (dx_0 k) e
  exact ⟨a.1, eql_k hw k b⟩
theorem te_s {x : Int32} {o : Int32 × Hp} (hw : w = 516 ∨ w = 526) (k : DyK n g h) (e : sX15_isSign h (n + 513) (n + 514) x = some o) : DyK n g o.2 ∧ EqL n w h o.2 := by
  obtain ⟨a, b⟩ := wk_X15_isSign (dx_0 k) e
  exact ⟨a.1, eql_k hw k b⟩
theorem te_d {x y : Int32} {o : Int32 × Hp} (hw : w = 516 ∨ w = 526) (k : DyK n g h) (e : sX15_isNumber h (n + 513) x y = some o) : DyK n g o.2 ∧ EqL n w h o.2 := by
  obtain ⟨a, b⟩ := wk_X15_isNumber (dx_0 k) e
  exact ⟨a.1, eql_k hw k b⟩
theorem te_f {o : Int32 × Hp} (hw : w = 516 ∨ w = 526) (k : DyK n g h) (e : sX15_flagAt F h (n + 513) (n + 514) = some o) : DyK n g o.2 ∧ EqL n w h o.2 := by
  obtain ⟨a, b⟩ := wk_X15_flagAt (dx_0 k) e
  exact ⟨a.1, eql_k hw k b⟩
theorem te_g {o : Int32 × Hp} (hw : w = 516 ∨ w = 526) (k : DyK n g h) (e : sX15_goesOn F h (n + 513) (n + 514) x2 = some o) : DyK n g o.2 ∧ EqL n w h o.2 := by
  obtain ⟨a, b⟩ := wk_X15_goesOn (dx_0 k) e
  exact ⟨a.1, eql_k hw k b⟩
/-- a man of the law, or none -/
theorem fi_2 : ∀ (f : Nat) {y x : Int32} {o : Int32 × Hp}, 0 ≤ x.toInt → sX14_find_2 F f h lw y x = some o → o.2 = h ∧ (o.1 = (-1 : Int32) ∨ (0 ≤ o.1.toInt ∧ o.1.toInt < (hI h lw 2).toInt)) := by
  intro f
  induction f with
  | zero => intro y x o _ e; exact absurd e (by rw [sX14_find_2]; exact fun z => nomatch z)
  | succ f ih =>
    intro y x o x0 e
    rw [sX14_find_2] at e
    rcases br_s e with ⟨_, e⟩ | ⟨c, e⟩
    · rw [so_e e]; exact ⟨rfl, Or.inl rfl⟩
    · have c := nle_i c
      have b := (rg_top (hI h lw 2)).2
      have z1 : (1 : Int32).toInt = 1 := rfl
      obtain ⟨r, _, e⟩ := cl_s e
      replace e := gg_e e
      rcases br_s e with ⟨_, e⟩ | ⟨_, e⟩
      · rw [so_e e]; exact ⟨rfl, Or.inr ⟨x0, c⟩⟩
      · replace e := nx_e e
        exact ih (by rw [ta (by omega)]; omega) e
theorem te_m {o : Int32 × Hp} (hw : w = 516 ∨ w = 526) (k : DyK n g h) (eg : hR g (n + 513) 5 = some (n + w)) (e : sX15_manAt F h (n + 513) (n + 514) = some o) : (DyK n g o.2 ∧ EqL n w h o.2) ∧ (o.1 = (-1 : Int32) ∨ (0 ≤ o.1.toInt ∧ o.1.toInt < (hI h (n + w) 2).toInt)) := by
  obtain ⟨a, b⟩ := wk_X15_manAt (dx_0 k) e
  refine ⟨⟨a.1, eql_k hw k b⟩, ?_⟩
  unfold sX15_manAt sX15_manAt_37 sX15_manAt_38 at e
  rcases br_s e with ⟨_, e⟩ | ⟨_, e⟩
  · rcases br_s e with ⟨_, e⟩ | ⟨_, e⟩
    · replace e := ce_e (lx_5 k eg) e
      replace e := gg_e e
      obtain ⟨o5, e5, e⟩ := cl_s e
      rw [so_e e]
      unfold sX14_find at e5
      exact (fi_2 F (by decide) e5).2
    · rw [so_e e]; exact Or.inl rfl
  · rw [so_e e]; exact Or.inl rfl
end
end
section
/-! what the RULES that the reference reads keep to: sentence by sentence -/
section
variable {n w F : Nat} {g h : Hp} {x2 x3 : Int32} {o : Int32 × Hp}
/-- a man whose steps are told: which, how many he has -/
def SPt (n w mm s : Nat) (h : Hp) : Prop := LEi (n + 513) (n + w) h ∧ (hI h (n + w + 2) mm).toInt = (s : Int) ∧ (mm : Int) < (hI h (n + w) 2).toInt
theorem spt_e {mm s : Nat} {o : Hp} (A : EqL n w h o) (E : SPt n w mm s h) : SPt n w mm s o := ⟨lei_e A E.1, by rw [A.1 2 _ (by decide)]; exact E.2.1, by rw [eql_0 A]; exact E.2.2⟩
/-- a write behind the steps that count -/
theorem spt_w {mm s j : Nat} {v : Int32} (hw : w = 516 ∨ w = 526) (m12 : mm < 12) (s8 : s < 8) (hj : 3 ≤ j ∧ j ≤ 7) (E : SPt n w mm s h) : SPt n w mm s (wI h (n + w + j) (8 * mm + s) v) := by
  have q : ∀ a i, ¬ (a = n + w + j ∧ i = 8 * mm + s) → hI (wI h (n + w + j) (8 * mm + s) v) a i = hI h a i := fun a i z => by rw [r_I, if_neg z]
  refine ⟨lei_c E.1 (fun i _ => q _ _ (fun z => by omega)) (fun z => by rw [q _ _ (fun z => by omega)]; exact z) (fun l _ => q _ _ (fun z => by omega)) (fun l k _ _ => q _ _ (fun z => by omega)) (fun l _ => q _ _ (fun z => by omega)) (fun l _ => q _ _ (fun z => by omega)) (fun l i hl hi z => ?_), by rw [q _ _ (fun z => by omega)]; exact E.2.1, by rw [q _ _ (fun z => by omega)]; exact E.2.2⟩
  have b8 := (E.1.2.2 l hl).1
  have ne : ¬ 8 * l + i = 8 * mm + s := fun y => by
    have l1 : l = mm := by omega
    rw [l1, E.2.1] at hi
    omega
  exact les_k (q _ _ (fun z => ne z.2)) (q _ _ (fun z => ne z.2)) (q _ _ (fun z => ne z.2)) z
theorem les_w {mm s j : Nat} {v : Int32} (hj : 6 ≤ j ∧ j ≤ 7) (E : LEs (n + w) h (8 * mm + s)) : LEs (n + w) (wI h (n + w + j) (8 * mm + s) v) (8 * mm + s) := les_k (rI_a (by omega)) (rI_a (by omega)) (rI_a (by omega)) E
theorem les_e {k : Nat} {o : Hp} (A : EqL n w h o) (E : LEs (n + w) h k) : LEs (n + w) o k := les_k (A.1 4 _ (by decide)) (A.1 5 _ (by decide)) (A.1 3 _ (by decide)) E
/-- what a step leaves -/
def SxR (n w mm s : Nat) (g : Hp) (o : Int32 × Hp) : Prop := DyK n g o.2 ∧ (¬ o.1 = 0 → SPt n w mm s o.2 ∧ LEs (n + w) o.2 (8 * mm + s))
theorem st_244 {mm s : Nat} (hw : w = 516 ∨ w = 526) (eg : hR g (n + 513) 5 = some (n + w)) (m12 : mm < 12) (s8 : s < 8) (i3 : x3.toNatClampNeg = 8 * mm + s) (k : DyK n g h) (E : SPt n w mm s h) (Ls : LEs (n + w) h (8 * mm + s)) (e : sX15_isStep_244 F h (n + 513) (n + 514) x2 x3 = some o) : SxR n w mm s g o := by
  unfold sX15_isStep_244 sX15_isStep_296 at e
  obtain ⟨o1, e1, e⟩ := cl_s e
  obtain ⟨k1, A1⟩ := te_w hw k e1
  rcases br_s e with ⟨_, e⟩ | ⟨_, e⟩
  · rw [so_e e]; exact ⟨k1, fun _ => ⟨spt_e A1 E, les_e A1 Ls⟩⟩
  obtain ⟨o3, e3, e⟩ := cl_s e
  obtain ⟨k3, A3⟩ := te_n hw k1 e3
  replace e := ce_e (lx_5 k3 eg) e
  obtain ⟨o5, e5, e⟩ := cl_s e
  obtain ⟨k5, A5⟩ := te_d hw k3 e5
  rcases br_s e with ⟨_, e⟩ | ⟨_, e⟩
  · rw [so_e e]; exact ⟨k5, fun z => absurd rfl z⟩
  replace e := ce_e (lx_5 k5 eg) e
  replace e := ce_e (lx_e k5 hw (f := 9) (b := 7) (by decide)) e
  replace e := gg_e e
  obtain ⟨h10, w10, e⟩ := nm_s e
  have A := eql_t (eql_t A1 A3) A5
  have E5 := spt_e A E
  have L5 := les_e A Ls
  rw [i3] at w10
  have k10 : DyK n g h10 := by rw [w10]; exact dk_wI k5
  have E10 : SPt n w mm s h10 := by rw [w10]; exact spt_w hw m12 s8 (by decide) E5
  have L10 : LEs (n + w) h10 (8 * mm + s) := by rw [w10]; exact les_w (by decide) L5
  obtain ⟨o11, e11, e⟩ := cl_s e
  obtain ⟨k11, A11⟩ := te_n hw k10 e11
  rw [so_e e]
  exact ⟨k11, fun _ => ⟨spt_e A11 E10, les_e A11 L10⟩⟩
theorem st_158 {mm s : Nat} (hw : w = 516 ∨ w = 526) (eg : hR g (n + 513) 5 = some (n + w)) (m12 : mm < 12) (s8 : s < 8) (i3 : x3.toNatClampNeg = 8 * mm + s) (k : DyK n g h) (E : SPt n w mm s h) (fl : hI h (n + w + 3) (8 * mm + s) &&& (8 : Int32) = 0 ∨ hI h (n + w + 3) (8 * mm + s) &&& (16 : Int32) = 0) (ab : ¬ (hI h (n + w + 4) (8 * mm + s) = 0 ∧ hI h (n + 513) 9 = 0)) (e : sX15_isStep_158 F h (n + 513) (n + 514) x2 x3 = some o) : SxR n w mm s g o := by
  unfold sX15_isStep_158 at e
  replace e := ce_e (lx_5 k eg) e
  replace e := ce_e (lx_e k hw (f := 7) (b := 5) (by decide)) e
  replace e := gg_e e
  obtain ⟨h4, w4, e⟩ := nm_s e
  rw [i3] at w4
  have k4 : DyK n g h4 := by rw [w4]; exact dk_wI k
  have E4 : SPt n w mm s h4 := by rw [w4]; exact spt_w hw m12 s8 (by decide) E
  have L4 : LEs (n + w) h4 (8 * mm + s) := by
    unfold LEs
    rw [w4, rI_a (a := n + w + 4) (by omega), rI_s, rI_a (a := n + w + 3) (by omega)]
    exact ⟨ab, fl⟩
  replace e := ce_e (lx_5 k4 eg) e
  replace e := ce_e (lx_e k4 hw (f := 8) (b := 6) (by decide)) e
  replace e := gg_e e
  obtain ⟨h8, w8, e⟩ := nm_s e
  rw [i3] at w8
  have k8 : DyK n g h8 := by rw [w8]; exact dk_wI k4
  have E8 : SPt n w mm s h8 := by rw [w8]; exact spt_w hw m12 s8 (by decide) E4
  have L8 : LEs (n + w) h8 (8 * mm + s) := by rw [w8]; exact les_w (by decide) L4
  replace e := ce_e (lx_5 k8 eg) e
  replace e := ce_e (lx_e k8 hw (f := 9) (b := 7) (by decide)) e
  replace e := gg_e e
  obtain ⟨h12, w12, e⟩ := nm_s e
  rw [i3] at w12
  have k12 : DyK n g h12 := by rw [w12]; exact dk_wI k8
  have E12 : SPt n w mm s h12 := by rw [w12]; exact spt_w hw m12 s8 (by decide) E8
  have L12 : LEs (n + w) h12 (8 * mm + s) := by rw [w12]; exact les_w (by decide) L8
  obtain ⟨o13, e13, e⟩ := cl_s e
  obtain ⟨k13, A13⟩ := te_n hw k12 e13
  obtain ⟨o14, e14, e⟩ := cl_s e
  obtain ⟨k14, A14⟩ := te_w hw k13 e14
  have A := eql_t A13 A14
  rcases br_s e with ⟨_, e⟩ | ⟨_, e⟩
  · exact st_244 hw eg m12 s8 i3 k14 (spt_e A E12) (les_e A L12) e
  obtain ⟨o16, e16, e⟩ := cl_s e
  obtain ⟨k16, A16⟩ := te_n hw k14 e16
  obtain ⟨o17, e17, e⟩ := cl_s e
  obtain ⟨k17, A17⟩ := te_d hw k16 e17
  rcases br_s e with ⟨_, e⟩ | ⟨_, e⟩
  · rw [so_e e]; exact ⟨k17, fun z => absurd rfl z⟩
  have B := eql_t (eql_t A A16) A17
  replace e := ce_e (lx_5 k17 eg) e
  replace e := ce_e (lx_e k17 hw (f := 8) (b := 6) (by decide)) e
  replace e := gg_e e
  obtain ⟨h22, w22, e⟩ := nm_s e
  rw [i3] at w22
  have k22 : DyK n g h22 := by rw [w22]; exact dk_wI k17
  have E22 : SPt n w mm s h22 := by rw [w22]; exact spt_w hw m12 s8 (by decide) (spt_e B E12)
  have L22 : LEs (n + w) h22 (8 * mm + s) := by rw [w22]; exact les_w (by decide) (les_e B L12)
  obtain ⟨o23, e23, e⟩ := cl_s e
  obtain ⟨k23, A23⟩ := te_n hw k22 e23
  exact st_244 hw eg m12 s8 i3 k23 (spt_e A23 E22) (les_e A23 L22) e
theorem st_3 {mm s : Nat} (hw : w = 516 ∨ w = 526) (eg : hR g (n + 513) 5 = some (n + w)) (m12 : mm < 12) (s8 : s < 8) (i3 : x3.toNatClampNeg = 8 * mm + s) : ∀ (f : Nat) {h : Hp} {x4 : Int32}, DyK n g h → SPt n w mm s h → (x4 &&& (8 : Int32) = 0 ∨ x4 &&& (16 : Int32) = 0) → sX15_isStep_3 F f h (n + 513) (n + 514) x2 x3 x4 = some o → SxR n w mm s g o := by
  intro f
  induction f with
  | zero => intro h x4 _ _ _ e; exact absurd e (by rw [sX15_isStep_3]; exact fun z => nomatch z)
  | succ f ih =>
    intro h x4 k E fl e
    rw [sX15_isStep_3] at e
    rcases br_s e with ⟨_, e⟩ | ⟨_, e⟩
    · obtain ⟨o20, e20, e⟩ := cl_s e
      obtain ⟨k20, A20⟩ := te_f hw k e20
      obtain ⟨v21, w21, e⟩ := nm_s e
      have go : sX15_isStep_52 F (sX15_isStep_3 F f) o20.2 (n + 513) (n + 514) x2 x3 v21 = some o → SxR n w mm s g o := fun e => by
        unfold sX15_isStep_52 sX15_isStep_70 sX15_isStep_68 at e
        rcases br_s e with ⟨c, e⟩ | ⟨_, e⟩
        · obtain ⟨o1, e1, e⟩ := cl_s e
          obtain ⟨k1, A1⟩ := te_n hw k20 e1
          exact ih k1 (spt_e (eql_t A20 A1) E) (Or.inl c) e
        · rcases br_s e with ⟨c, e⟩ | ⟨_, e⟩
          · obtain ⟨o1, e1, e⟩ := cl_s e
            obtain ⟨k1, A1⟩ := te_n hw k20 e1
            exact ih k1 (spt_e (eql_t A20 A1) E) (Or.inr c) e
          · rw [so_e e]; exact ⟨k20, fun z => absurd rfl z⟩
      have no : sX15_isStep_68 F o20.2 = some o → SxR n w mm s g o := fun e => by
        unfold sX15_isStep_68 at e
        rw [so_e e]; exact ⟨k20, fun z => absurd rfl z⟩
      rcases br_s e with ⟨_, e⟩ | ⟨_, e⟩
      · exact no e
      rcases br_s e with ⟨_, e⟩ | ⟨_, e⟩
      · rcases br_s e with ⟨_, e⟩ | ⟨_, e⟩
        · exact go e
        · rcases br_s e with ⟨_, e⟩ | ⟨_, e⟩
          · exact go e
          · exact no e
      · exact no e
    · replace e := ce_e (lx_5 k eg) e
      replace e := ce_e (lx_e k hw (f := 5) (b := 3) (by decide)) e
      replace e := gg_e e
      obtain ⟨h5, w5, e⟩ := nm_s e
      rw [i3] at w5
      have k5 : DyK n g h5 := by rw [w5]; exact dk_wI k
      have E5 : SPt n w mm s h5 := by rw [w5]; exact spt_w hw m12 s8 (by decide) E
      have f5 : hI h5 (n + w + 3) (8 * mm + s) = x4 := by rw [w5, rI_s]
      obtain ⟨o6, e6, e⟩ := cl_s e
      obtain ⟨k6, A6⟩ := te_d hw k5 e6
      rcases br_s e with ⟨_, e⟩ | ⟨_, e⟩
      · rw [so_e e]; exact ⟨k6, fun z => absurd rfl z⟩
      replace e := ce_e (lx_5 k6 eg) e
      replace e := ce_e (lx_e k6 hw (f := 6) (b := 4) (by decide)) e
      replace e := gg_e e
      obtain ⟨h11, w11, e⟩ := nm_s e
      rw [i3] at w11
      have k11 : DyK n g h11 := by rw [w11]; exact dk_wI k6
      have E11 : SPt n w mm s h11 := by rw [w11]; exact spt_w hw m12 s8 (by decide) (spt_e A6 E5)
      have f11 : hI h11 (n + w + 3) (8 * mm + s) = x4 := by rw [w11, rI_a (by omega), A6.1 3 _ (by decide)]; exact f5
      obtain ⟨o12, e12, e⟩ := cl_s e
      obtain ⟨k12, A12⟩ := te_n hw k11 e12
      obtain ⟨o13, e13, e⟩ := cl_s e
      obtain ⟨k13, A13⟩ := te_d hw k12 e13
      have A := eql_t A12 A13
      have f13 : hI o13.2 (n + w + 3) (8 * mm + s) = x4 := (A.1 3 _ (by decide)).trans f11
      rcases br_s e with ⟨_, e⟩ | ⟨_, e⟩
      · unfold sX15_isStep_156 at e
        rw [so_e e]; exact ⟨k13, fun z => absurd rfl z⟩
      rcases br_s e with ⟨_, e⟩ | ⟨c, e⟩
      · replace e := ce_e (lx_5 k13 eg) e
        replace e := ce_e (lx_e k13 hw (f := 6) (b := 4) (by decide)) e
        replace e := gg_e e
        rcases br_s e with ⟨_, e⟩ | ⟨c, e⟩
        · unfold sX15_isStep_156 at e
          rw [so_e e]; exact ⟨k13, fun z => absurd rfl z⟩
        rw [i3] at c
        exact st_158 hw eg m12 s8 i3 k13 (spt_e A E11) (by rw [f13]; exact fl) (fun z => c z.1) e
      · exact st_158 hw eg m12 s8 i3 k13 (spt_e A E11) (by rw [f13]; exact fl) (fun z => c z.2) e
/-- what a sentence leaves -/
def SnR (n w : Nat) (g : Hp) (o : Int32 × Hp) : Prop := DyK n g o.2 ∧ (¬ o.1 = 0 → LEi (n + 513) (n + w) o.2)
theorem im_92 {mm : Nat} (hw : w = 516 ∨ w = 526) (eg : hR g (n + 513) 5 = some (n + w)) (m12 : mm < 12) (i3 : x3.toInt = (mm : Int)) : ∀ (f : Nat) {h : Hp} {s : Nat}, DyK n g h → SPt n w mm s h → s < 8 → sX15_isMan_92 F f h (n + 513) (n + 514) x2 x3 = some o → SnR n w g o := by
  have z8 : (8 : Int32).toInt = 8 := rfl
  have z1 : (1 : Int32).toInt = 1 := rfl
  have c3 := nc_i (x := x3) (by omega)
  have c3 : x3.toNatClampNeg = mm := by omega
  intro f
  induction f with
  | zero => intro h s _ _ _ e; exact absurd e (by rw [sX15_isMan_92]; exact fun z => nomatch z)
  | succ f ih =>
    intro h s k E s8 e
    rw [sX15_isMan_92] at e
    replace e := ce_e (lx_5 k eg) e
    replace e := ce_e (lx_e k hw (f := 4) (b := 2) (by decide)) e
    replace e := gg_e e
    obtain ⟨o4, e4, e⟩ := cl_s e
    rw [c3] at e4
    have m8 : ((8 : Int32) * x3).toInt = 8 * (mm : Int) := by rw [tm (by rw [z8, i3]; omega), z8, i3]
    have v8 : (((8 : Int32) * x3) + hI h (n + w + 2) mm).toInt = 8 * (mm : Int) + s := by rw [ta (by rw [m8, E.2.1]; omega), m8, E.2.1]
    have ix : (((8 : Int32) * x3) + hI h (n + w + 2) mm).toNatClampNeg = 8 * mm + s := by
      have := nc_i (x := ((8 : Int32) * x3) + hI h (n + w + 2) mm) (by omega)
      omega
    unfold sX15_isStep at e4
    obtain ⟨k4, R4⟩ := st_3 hw eg m12 s8 ix F k E (Or.inl (by decide)) e4
    rcases br_s e with ⟨_, e⟩ | ⟨c, e⟩
    · rw [so_e e]; exact ⟨k4, fun z => absurd rfl z⟩
    obtain ⟨E4, L4⟩ := R4 c
    replace e := ce_e (lx_5 k4 eg) e
    replace e := ce_e (lx_e k4 hw (f := 4) (b := 2) (by decide)) e
    replace e := gg_e e
    replace e := gg_e e
    obtain ⟨h10, w10, e⟩ := nm_s e
    rw [c3] at w10
    have k10 : DyK n g h10 := by rw [w10]; exact dk_wI k4
    have q : ∀ a i, ¬ (a = n + w + 2 ∧ i = mm) → hI h10 a i = hI o4.2 a i := fun a i z => by rw [w10, r_I, if_neg z]
    have v10 : (hI h10 (n + w + 2) mm).toInt = ((s + 1 : Nat) : Int) := by
      rw [w10, rI_s, ta (by rw [E4.2.1]; omega), E4.2.1, z1]; omega
    have E10 : SPt n w mm (s + 1) h10 := by
      obtain ⟨⟨a0, B, C⟩, u, v⟩ := E4
      have p : ∀ i, hI h10 (n + w) i = hI o4.2 (n + w) i := fun i => q _ _ (fun z => by omega)
      refine ⟨⟨?_, fun l hl => ⟨?_, fun z => by rw [q _ _ (fun z => by omega)]; rw [p] at z; exact (B l hl).2.1 z, fun kk hk => ?_⟩, fun l hl => ⟨?_, ⟨fun z => ?_, fun z u hu => by rw [p] at z; rw [q _ _ (fun z => by omega), q _ _ (fun z => by omega)]; exact (C l hl).2.1.2 z u hu⟩, fun i hi => ?_⟩⟩, v10, by rw [p]; exact v⟩
      · simp only [p]
        rw [q (n + 513) 10 (fun z => by omega)]
        exact a0
      · rw [q _ _ (fun z => by omega)]; exact (B l hl).1
      · rw [q _ _ (fun z => by omega)] at hk
        obtain ⟨b1, b2, b3, b4, b5⟩ := (B l hl).2.2 kk hk
        have e8 := q (n + w + 8) (6 * l + kk) (fun z => by omega)
        exact ⟨by rw [e8]; exact b1, by rw [e8, p]; exact b2, by rw [e8, p]; exact b3, by rw [e8, q (n + w + 9) _ (fun z => by omega)]; exact b4, fun u hu => by rw [e8, q (n + w + 8) (6 * l + u) (fun z => by omega)]; exact b5 u hu⟩
      · by_cases y : l = mm
        · rw [y, v10]; omega
        · rw [q _ _ (fun z => y z.2)]; exact (C l hl).1
      · rw [p] at z
        have y : ¬ l = mm := fun y => by rw [y] at z; omega
        rw [q _ _ (fun z => y z.2)]
        exact (C l hl).2.1.1 z
      · have t : ∀ k', LEs (n + w) o4.2 k' → LEs (n + w) h10 k' := fun k' z => les_k (q _ _ (fun z => by omega)) (q _ _ (fun z => by omega)) (q _ _ (fun z => by omega)) z
        by_cases y : l = mm
        · rw [y, v10] at hi
          rw [y]
          by_cases y2 : i = s
          · rw [y2]; exact t _ L4
          · refine t _ ((C mm m12).2.2 i ?_)
            rw [u]; omega
        · rw [q _ _ (fun z => y z.2)] at hi
          exact t _ ((C l hl).2.2 i hi)
    obtain ⟨o11, e11, e⟩ := cl_s e
    obtain ⟨k11, A11⟩ := te_s hw k10 e11
    unfold sX15_isMan_154 at e
    rcases br_s e with ⟨_, e⟩ | ⟨_, e⟩
    · rw [so_e e]; exact ⟨k11, fun _ => lei_e A11 E10.1⟩
    replace e := ce_e (lx_5 k11 eg) e
    replace e := ce_e (lx_e k11 hw (f := 4) (b := 2) (by decide)) e
    replace e := gg_e e
    rcases br_s e with ⟨_, e⟩ | ⟨c8, e⟩
    · rw [so_e e]; exact ⟨k11, fun _ => lei_e A11 E10.1⟩
    obtain ⟨o17, e17, e⟩ := cl_s e
    obtain ⟨k17, A17⟩ := te_n hw k11 e17
    have E11 := spt_e A11 E10
    rw [c3] at c8
    have s9 : ¬ s + 1 = 8 := fun y => c8 (Int32.toInt_inj.mp (by rw [E11.2.1, y, z8]; rfl))
    exact ih k17 (spt_e A17 E11) (by omega) e
/-- a letter that no man has -/
theorem fi_n : ∀ (f : Nat) {lw : Nat} {y x : Int32} {h : Hp} {o : Int32 × Hp}, 0 ≤ x.toInt → (hI h lw 2).toInt ≤ 12 → hR h lw 3 = some (lw + 1) → sX14_find_2 F f h lw y x = some o → o.1 = (-1 : Int32) → ∀ q : Nat, x.toInt ≤ (q : Int) → (q : Int) < (hI h lw 2).toInt → ¬ hI h (lw + 1) q = y := by
  intro f
  induction f with
  | zero => intro lw y x h o _ _ _ e; exact absurd e (by rw [sX14_find_2]; exact fun z => nomatch z)
  | succ f ih =>
    intro lw y x h o x0 m12 r3 e z q q0 q1
    rw [sX14_find_2] at e
    rcases br_s e with ⟨c, e⟩ | ⟨c, e⟩
    · have c := le_i c
      omega
    · have c := nle_i c
      have z1 : (1 : Int32).toInt = 1 := rfl
      replace e := ce_e r3 e
      replace e := gg_e e
      rcases br_s e with ⟨c2, e⟩ | ⟨c2, e⟩
      · rw [so_e e] at z
        rw [show x = (-1 : Int32) from z] at x0
        exact absurd x0 (by decide)
      · replace e := nx_e e
        have nx := nc_i x0
        by_cases y : q = x.toNatClampNeg
        · rw [y]; exact c2
        · exact ih (by rw [ta (by omega)]; omega) m12 r3 e z q (by rw [ta (by omega)]; omega) q1
theorem te_n1 {h : Hp} {o : Int32 × Hp} (k : DyK n g h) (hw : w = 516 ∨ w = 526) (eg : hR g (n + 513) 5 = some (n + w)) (c1 : hI h (n + 513) 6 = (1 : Int32)) (c2 : hI h (n + 513) 8 = hI h (n + 513) 7 + (1 : Int32)) (m0 : 0 ≤ (hI o.2 (n + w) 2).toInt) (m12 : (hI o.2 (n + w) 2).toInt ≤ 12) (c4 : o.1 = (-1 : Int32)) (e : sX15_manAt F h (n + 513) (n + 514) = some o) : ∀ q : Nat, (q : Int) < (hI o.2 (n + w) 2).toInt → ¬ hI o.2 (n + w + 1) q = hI o.2 (n + 514) (hI o.2 (n + 513) 7).toNatClampNeg := by
  unfold sX15_manAt sX15_manAt_37 sX15_manAt_38 at e
  replace e := bp_e c1 e
  replace e := bp_e c2 e
  replace e := ce_e (lx_5 k eg) e
  replace e := gg_e e
  obtain ⟨o5, e5, e⟩ := cl_s e
  have y := so_e e
  unfold sX14_find at e5
  have hh := (fi_2 F (by decide) e5).1
  rw [y] at m12 c4 ⊢
  have m12 : (hI o5.2 (n + w) 2).toInt ≤ 12 := m12
  rw [hh] at m12
  show ∀ q : Nat, (q : Int) < (hI o5.2 (n + w) 2).toInt → ¬ hI o5.2 (n + w + 1) q = hI o5.2 (n + 514) (hI o5.2 (n + 513) 7).toNatClampNeg
  rw [hh]
  exact fun q hq => fi_n F (by decide) m12 (lx_e k hw (f := 3) (b := 1) (by decide)) e5 c4 q (by have : (0 : Int32).toInt = 0 := rfl; omega) hq
theorem im_r (hw : w = 516 ∨ w = 526) (eg : hR g (n + 513) 5 = some (n + w)) (k : DyK n g h) (E : LEi (n + 513) (n + w) h) (e : sX15_isMan F h (n + 513) (n + 514) x2 = some o) : SnR n w g o := by
  have z12 : (12 : Int32).toInt = 12 := rfl
  have z1 : (1 : Int32).toInt = 1 := rfl
  unfold sX15_isMan sX15_isMan_48 at e
  obtain ⟨o1, e1, e⟩ := cl_s e
  obtain ⟨k1, A1⟩ := te_n hw k e1
  rcases br_s e with ⟨c1, e⟩ | ⟨_, e⟩
  rotate_left
  · rw [so_e e]; exact ⟨k1, fun z => absurd rfl z⟩
  rcases br_s e with ⟨c2, e⟩ | ⟨_, e⟩
  rotate_left
  · rw [so_e e]; exact ⟨k1, fun z => absurd rfl z⟩
  obtain ⟨o4, e4, e⟩ := cl_s e
  obtain ⟨⟨k4, A4⟩, _⟩ := te_m hw k1 eg e4
  have E4 := lei_e (eql_t A1 A4) E
  rcases br_s e with ⟨c4, e⟩ | ⟨_, e⟩
  rotate_left
  · rw [so_e e]; exact ⟨k4, fun z => absurd rfl z⟩
  replace e := ce_e (lx_5 k4 eg) e
  rcases br_s e with ⟨_, e⟩ | ⟨c, e⟩
  · rw [so_e e]; exact ⟨k4, fun z => absurd rfl z⟩
  replace e := ce_e (lx_5 k4 eg) e
  obtain ⟨v9, w9, e⟩ := nm_s e
  replace e := ce_e (lx_5 k4 eg) e
  replace e := ce_e (lx_e k4 hw (f := 3) (b := 1) (by decide)) e
  replace e := gg_e e
  replace e := gg_e e
  obtain ⟨h14, w14, e⟩ := nm_s e
  have k14 : DyK n g h14 := by rw [w14]; exact dk_wI k4
  replace e := ce_e (lx_5 k14 eg) e
  obtain ⟨h16, w16, e⟩ := nm_s e
  have k16 : DyK n g h16 := by rw [w16]; exact dk_wI k14
  have q : ∀ a i, ¬ a = n + w + 1 → ¬ (a = n + w ∧ i = 2) → hI h16 a i = hI o4.2 a i := fun a i z z' => by rw [w16, r_I, if_neg z', w14, rI_a z]
  have D4 := te_n1 k1 hw eg c1 c2 E4.1.1.1 E4.1.1.2 c4 e4
  obtain ⟨⟨⟨a1, a2⟩, a3, a4, a5, a6, a7⟩, B, C⟩ := E4
  have m11 : (hI o4.2 (n + w) 2).toInt ≤ 11 := by
    have : ¬ (hI o4.2 (n + w) 2).toInt = 12 := fun y => c (Int32.toInt_inj.mp (by rw [y, z12]))
    omega
  have v2 : (hI h16 (n + w) 2).toInt = (hI o4.2 (n + w) 2).toInt + 1 := by
    rw [w16, rI_s, w14, rI_a (by omega), ta (by omega), z1]
  have p : ∀ i, ¬ i = 2 → hI h16 (n + w) i = hI o4.2 (n + w) i := fun i z => q _ _ (by omega) (fun y => z y.2)
  have s9 : v9.toInt = (v9.toNatClampNeg : Int) := (nc_i (by rw [w9]; exact a1)).symm
  have l9 : v9.toNatClampNeg < 12 := by rw [w9] at s9 ⊢; omega
  have st0 : hI h16 (n + w + 2) v9.toNatClampNeg = 0 := by
    rw [q _ _ (by omega) (fun y => by omega)]
    exact (C _ l9).2.1.1 (by rw [← s9, w9]; exact Int.le_refl _)
  have E16 : LEi (n + 513) (n + w) h16 := by
    refine ⟨⟨by rw [v2]; omega, by rw [v2, p 10 (by decide)]; omega, by rw [v2, p 11 (by decide)]; omega, ?_, by rw [p 22 (by decide)]; exact a6, by rw [p 10 (by decide), q (n + 513) 10 (by omega) (fun y => by omega)]; exact a7⟩, fun l hl => ⟨?_, fun z => by rw [q _ _ (by omega) (fun y => by omega)]; exact (B l hl).2.1 (by omega), fun kk hk => ?_⟩, fun l hl => ⟨?_, ⟨fun z => ?_, fun z q hq => ?_⟩, fun i hi => ?_⟩⟩
    · rw [v2, p 12 (by decide), p 10 (by decide)]
      rcases a5 with y | ⟨y1, y2, y3, y4⟩
      · exact Or.inl y
      · exact Or.inr ⟨y1, by omega, y3, y4⟩
    · rw [q _ _ (by omega) (fun y => by omega)]; exact (B l hl).1
    · rw [q _ _ (by omega) (fun y => by omega)] at hk
      obtain ⟨b1, b2, b3, b4, b5⟩ := (B l hl).2.2 kk hk
      have e8 := q (n + w + 8) (6 * l + kk) (by omega) (fun y => by omega)
      exact ⟨by rw [e8]; exact b1, by rw [e8, v2]; omega, by rw [e8, p 10 (by decide)]; exact b3, by rw [e8, q (n + w + 9) _ (by omega) (fun y => by omega)]; exact b4, fun u hu => by rw [e8, q (n + w + 8) (6 * l + u) (by omega) (fun y => by omega)]; exact b5 u hu⟩
    · rw [q _ _ (by omega) (fun y => by omega)]; exact (C l hl).1
    · rw [q _ _ (by omega) (fun y => by omega)]
      exact (C l hl).2.1.1 (by omega)
    · have wr : ∀ u : Nat, (u : Int) < (hI o4.2 (n + w) 2).toInt → hI h16 (n + w + 1) u = hI o4.2 (n + w + 1) u := fun u hu => by
        rw [w16, rI_a (by omega), w14, rI_o (fun y => by rw [y, ← s9, w9] at hu; omega)]
      by_cases y : (l : Int) < (hI o4.2 (n + w) 2).toInt
      · rw [wr l y, wr q (by omega)]; exact (C l hl).2.1.2 y q hq
      · have yl : l = v9.toNatClampNeg := by rw [w9] at s9 ⊢; omega
        rw [wr q (by omega), w16, rI_a (by omega), w14, yl, rI_s]
        exact fun y => D4 q (by omega) y.symm
    · rw [q _ _ (by omega) (fun y => by omega)] at hi
      exact les_k (q _ _ (by omega) (fun y => by omega)) (q _ _ (by omega) (fun y => by omega)) (q _ _ (by omega) (fun y => by omega)) ((C l hl).2.2 i hi)
  obtain ⟨o17, e17, e⟩ := cl_s e
  obtain ⟨k17, A17⟩ := te_n hw k16 e17
  have S16 : SPt n w v9.toNatClampNeg 0 h16 := ⟨E16, by rw [st0]; rfl, by rw [v2, ← s9, w9]; omega⟩
  exact im_92 hw eg l9 s9 F k17 (spt_e A17 S16) (by decide) e
end
end
