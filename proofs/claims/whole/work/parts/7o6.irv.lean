/-! what sX15_isRules;x0=S:513;x1=S:514 writes: printed by wfx.py -/
theorem wv_X14_clear_22 {n : Nat} {g : Hp} {F : Nat} {o : Hp} : ∀ (f : Nat) {h : Hp} {x1 : Int32}, DyX n xlV g h → sX14_clear_22 F f h (n + 526) x1 = some o → DyX n xlV g o ∧ FrW (WIr n 526) h o := by
  intro f
  induction f with
  | zero => intro h x1 _ e; exact absurd e (by rw [sX14_clear_22]; exact fun z => nomatch z)
  | succ f ih =>
    intro h x1 k e
    rw [sX14_clear_22] at e
    rcases br_s e with ⟨_, e⟩ | ⟨_, e⟩
    · obtain ⟨h_2, wh_2, e⟩ := nm_s e
      have kh_2 : DyX n xlV g h_2 := by rw [wh_2]; exact dx_wI k
      have fh_2 : FrW (WIr n 526) h h_2 := by rw [wh_2]; exact fw_wI fw_0 (by unfold WIr; omega)
      obtain ⟨h_3, wh_3, e⟩ := nm_s e
      have kh_3 : DyX n xlV g h_3 := by rw [wh_3]; exact dx_wI kh_2
      have fh_3 : FrW (WIr n 526) h h_3 := by rw [wh_3]; exact fw_wI fh_2 (by unfold WIr; omega)
      obtain ⟨h_4, wh_4, e⟩ := nm_s e
      have kh_4 : DyX n xlV g h_4 := by rw [wh_4]; exact dx_wI kh_3
      have fh_4 : FrW (WIr n 526) h h_4 := by rw [wh_4]; exact fw_wI fh_3 (by unfold WIr; omega)
      obtain ⟨h_5, wh_5, e⟩ := nm_s e
      have kh_5 : DyX n xlV g h_5 := by rw [wh_5]; exact dx_wI kh_4
      have fh_5 : FrW (WIr n 526) h h_5 := by rw [wh_5]; exact fw_wI fh_4 (by unfold WIr; omega)
      obtain ⟨h_6, wh_6, e⟩ := nm_s e
      have kh_6 : DyX n xlV g h_6 := by rw [wh_6]; exact dx_wI kh_5
      have fh_6 : FrW (WIr n 526) h h_6 := by rw [wh_6]; exact fw_wI fh_5 (by unfold WIr; omega)
      obtain ⟨h_7, wh_7, e⟩ := nm_s e
      have kh_7 : DyX n xlV g h_7 := by rw [wh_7]; exact dx_wI kh_6
      have fh_7 : FrW (WIr n 526) h h_7 := by rw [wh_7]; exact fw_wI fh_6 (by unfold WIr; omega)
      obtain ⟨h_8, wh_8, e⟩ := nm_s e
      have kh_8 : DyX n xlV g h_8 := by rw [wh_8]; exact dx_wJ kh_7
      have fh_8 : FrW (WIr n 526) h h_8 := by rw [wh_8]; exact fw_wJ fh_7 (by unfold WIr; omega)
      obtain ⟨h_9, wh_9, e⟩ := nm_s e
      have kh_9 : DyX n xlV g h_9 := by rw [wh_9]; exact dx_wI kh_8
      have fh_9 : FrW (WIr n 526) h h_9 := by rw [wh_9]; exact fw_wI fh_8 (by unfold WIr; omega)
      obtain ⟨h_10, wh_10, e⟩ := nm_s e
      have kh_10 : DyX n xlV g h_10 := by rw [wh_10]; exact dx_wI kh_9
      have fh_10 : FrW (WIr n 526) h h_10 := by rw [wh_10]; exact fw_wI fh_9 (by unfold WIr; omega)
      rw [← Option.some.inj e]; exact ⟨kh_10, fh_10⟩
    · obtain ⟨r_11, er_11, e⟩ := cl_s e
      have yr_11 := dx_ed (a := 526) (b := 528) k (by decide +kernel) er_11
      subst yr_11
      replace e := (gd_s e).2
      obtain ⟨h_13, wh_13, e⟩ := nm_s e
      have kh_13 : DyX n xlV g h_13 := by rw [wh_13]; exact dx_wI k
      have fh_13 : FrW (WIr n 526) h h_13 := by rw [wh_13]; exact fw_wI fw_0 (by unfold WIr; omega)
      obtain ⟨r_14, er_14, e⟩ := cl_s e
      have yr_14 := dx_ed (a := 526) (b := 535) kh_13 (by decide +kernel) er_14
      subst yr_14
      replace e := (gd_s e).2
      obtain ⟨h_16, wh_16, e⟩ := nm_s e
      have kh_16 : DyX n xlV g h_16 := by rw [wh_16]; exact dx_wI kh_13
      have fh_16 : FrW (WIr n 526) h h_16 := by rw [wh_16]; exact fw_wI fh_13 (by unfold WIr; omega)
      obtain ⟨v_17, wv_17, e⟩ := nm_s e
      exact ⟨(ih kh_16 e).1, fw_t fh_16 (ih kh_16 e).2⟩
theorem wv_X14_clear {n : Nat} {g : Hp} {F : Nat} {o : Hp} {h : Hp} (k : DyX n xlV g h) (e : sX14_clear F h (n + 526) = some o) : DyX n xlV g o ∧ FrW (WIr n 526) h o := by
  unfold sX14_clear at e
  obtain ⟨h_1, wh_1, e⟩ := nm_s e
  have kh_1 : DyX n xlV g h_1 := by rw [wh_1]; exact dx_wI k
  have fh_1 : FrW (WIr n 526) h h_1 := by rw [wh_1]; exact fw_wI fw_0 (by unfold WIr; omega)
  obtain ⟨h_2, wh_2, e⟩ := nm_s e
  have kh_2 : DyX n xlV g h_2 := by rw [wh_2]; exact dx_wI kh_1
  have fh_2 : FrW (WIr n 526) h h_2 := by rw [wh_2]; exact fw_wI fh_1 (by unfold WIr; omega)
  obtain ⟨h_3, wh_3, e⟩ := nm_s e
  have kh_3 : DyX n xlV g h_3 := by rw [wh_3]; exact dx_wI kh_2
  have fh_3 : FrW (WIr n 526) h h_3 := by rw [wh_3]; exact fw_wI fh_2 (by unfold WIr; omega)
  obtain ⟨h_4, wh_4, e⟩ := nm_s e
  have kh_4 : DyX n xlV g h_4 := by rw [wh_4]; exact dx_wI kh_3
  have fh_4 : FrW (WIr n 526) h h_4 := by rw [wh_4]; exact fw_wI fh_3 (by unfold WIr; omega)
  exact ⟨(wv_X14_clear_22 F kh_4 e).1, fw_t fh_4 (wv_X14_clear_22 F kh_4 e).2⟩
theorem wv_X15_byteAt_12 {n : Nat} {g : Hp} {o : Int32 × Hp} {t0 : Int32} {h : Hp} (k : DyX n xlV g h) (e : sX15_byteAt_12 h t0 = some o) : DyX n xlV g o.2 ∧ FrW (WIr n 526) h o.2 := by
  unfold sX15_byteAt_12 at e
  rw [← Option.some.inj e]; exact ⟨k, fw_0⟩
theorem wv_X15_byteAt {n : Nat} {g : Hp} {o : Int32 × Hp} {x2 : Int32} {x3 : Int32} {h : Hp} (k : DyX n xlV g h) (e : sX15_byteAt h (n + 513) (n + 514) x2 x3 = some o) : DyX n xlV g o.2 ∧ FrW (WIr n 526) h o.2 := by
  unfold sX15_byteAt at e
  rcases br_s e with ⟨_, e⟩ | ⟨_, e⟩
  · exact wv_X15_byteAt_12 k e
  · replace e := (gd_s e).2
    exact wv_X15_byteAt_12 k e
theorem wv_X15_isSmall_17 {n : Nat} {g : Hp} {o : Int32 × Hp} {t0 : Int32} {h : Hp} (k : DyX n xlV g h) (e : sX15_isSmall_17 h t0 = some o) : DyX n xlV g o.2 ∧ FrW (WIr n 526) h o.2 := by
  unfold sX15_isSmall_17 at e
  replace e := (gd_s e).2
  rw [← Option.some.inj e]; exact ⟨k, fw_0⟩
theorem wv_X15_isSmall_16 {n : Nat} {g : Hp} {o : Int32 × Hp} {h : Hp} (k : DyX n xlV g h) (e : sX15_isSmall_16 h = some o) : DyX n xlV g o.2 ∧ FrW (WIr n 526) h o.2 := by
  unfold sX15_isSmall_16 at e
  exact wv_X15_isSmall_17 k e
theorem wv_X15_isSmall {n : Nat} {g : Hp} {o : Int32 × Hp} {x0 : Int32} {h : Hp} (k : DyX n xlV g h) (e : sX15_isSmall h x0 = some o) : DyX n xlV g o.2 ∧ FrW (WIr n 526) h o.2 := by
  unfold sX15_isSmall at e
  rcases br_s e with ⟨_, e⟩ | ⟨_, e⟩
  · exact wv_X15_isSmall_16 k e
  · rcases br_s e with ⟨_, e⟩ | ⟨_, e⟩
    · exact wv_X15_isSmall_16 k e
    · exact wv_X15_isSmall_17 k e
theorem wv_X15_isDigit_17 {n : Nat} {g : Hp} {o : Int32 × Hp} {t0 : Int32} {h : Hp} (k : DyX n xlV g h) (e : sX15_isDigit_17 h t0 = some o) : DyX n xlV g o.2 ∧ FrW (WIr n 526) h o.2 := by
  unfold sX15_isDigit_17 at e
  replace e := (gd_s e).2
  rw [← Option.some.inj e]; exact ⟨k, fw_0⟩
theorem wv_X15_isDigit_16 {n : Nat} {g : Hp} {o : Int32 × Hp} {h : Hp} (k : DyX n xlV g h) (e : sX15_isDigit_16 h = some o) : DyX n xlV g o.2 ∧ FrW (WIr n 526) h o.2 := by
  unfold sX15_isDigit_16 at e
  exact wv_X15_isDigit_17 k e
theorem wv_X15_isDigit {n : Nat} {g : Hp} {o : Int32 × Hp} {x0 : Int32} {h : Hp} (k : DyX n xlV g h) (e : sX15_isDigit h x0 = some o) : DyX n xlV g o.2 ∧ FrW (WIr n 526) h o.2 := by
  unfold sX15_isDigit at e
  rcases br_s e with ⟨_, e⟩ | ⟨_, e⟩
  · exact wv_X15_isDigit_16 k e
  · rcases br_s e with ⟨_, e⟩ | ⟨_, e⟩
    · exact wv_X15_isDigit_16 k e
    · exact wv_X15_isDigit_17 k e
theorem wv_X15_nextToken_308 {n : Nat} {g : Hp} {F : Nat} {o : Hp} {h : Hp} (k : DyX n xlV g h) (e : sX15_nextToken_308 F h = some o) : DyX n xlV g o ∧ FrW (WIr n 526) h o := by
  unfold sX15_nextToken_308 at e
  rw [← Option.some.inj e]; exact ⟨k, fw_0⟩
theorem wv_X15_nextToken_298 {n : Nat} {g : Hp} {F : Nat} {o : Hp} {x3 : Int32} {t0 : Int32} {h : Hp} (k : DyX n xlV g h) (e : sX15_nextToken_298 F h (n + 513) x3 t0 (n + 513) = some o) : DyX n xlV g o ∧ FrW (WIr n 526) h o := by
  unfold sX15_nextToken_298 at e
  obtain ⟨h_1, wh_1, e⟩ := nm_s e
  have kh_1 : DyX n xlV g h_1 := by rw [wh_1]; exact dx_wI k
  have fh_1 : FrW (WIr n 526) h h_1 := by rw [wh_1]; exact fw_wI fw_0 (by unfold WIr; omega)
  obtain ⟨h_2, wh_2, e⟩ := nm_s e
  have kh_2 : DyX n xlV g h_2 := by rw [wh_2]; exact dx_wI kh_1
  have fh_2 : FrW (WIr n 526) h h_2 := by rw [wh_2]; exact fw_wI fh_1 (by unfold WIr; omega)
  exact ⟨(wv_X15_nextToken_308 kh_2 e).1, fw_t fh_2 (wv_X15_nextToken_308 kh_2 e).2⟩
theorem wv_X15_nextToken_293 {n : Nat} {g : Hp} {F : Nat} {o : Hp} {x3 : Int32} {h : Hp} (k : DyX n xlV g h) (e : sX15_nextToken_293 F h (n + 513) x3 (n + 513) = some o) : DyX n xlV g o ∧ FrW (WIr n 526) h o := by
  unfold sX15_nextToken_293 at e
  exact wv_X15_nextToken_298 k e
theorem wv_X15_nextToken_278 {n : Nat} {g : Hp} {F : Nat} {o : Hp} {x3 : Int32} {x4 : Int32} {h : Hp} (k : DyX n xlV g h) (e : sX15_nextToken_278 F h (n + 513) x3 x4 = some o) : DyX n xlV g o ∧ FrW (WIr n 526) h o := by
  unfold sX15_nextToken_278 at e
  rcases br_s e with ⟨_, e⟩ | ⟨_, e⟩
  · exact wv_X15_nextToken_293 k e
  · rcases br_s e with ⟨_, e⟩ | ⟨_, e⟩
    · exact wv_X15_nextToken_293 k e
    · exact wv_X15_nextToken_298 k e
theorem wv_X15_nextToken_266 {n : Nat} {g : Hp} {F : Nat} {o : Hp} {x6 : Int32} {t0 : Int32} {h : Hp} (k : DyX n xlV g h) (e : sX15_nextToken_266 F h (n + 513) x6 t0 (n + 513) = some o) : DyX n xlV g o ∧ FrW (WIr n 526) h o := by
  unfold sX15_nextToken_266 at e
  obtain ⟨h_1, wh_1, e⟩ := nm_s e
  have kh_1 : DyX n xlV g h_1 := by rw [wh_1]; exact dx_wI k
  have fh_1 : FrW (WIr n 526) h h_1 := by rw [wh_1]; exact fw_wI fw_0 (by unfold WIr; omega)
  obtain ⟨h_2, wh_2, e⟩ := nm_s e
  have kh_2 : DyX n xlV g h_2 := by rw [wh_2]; exact dx_wI kh_1
  have fh_2 : FrW (WIr n 526) h h_2 := by rw [wh_2]; exact fw_wI fh_1 (by unfold WIr; omega)
  exact ⟨(wv_X15_nextToken_308 kh_2 e).1, fw_t fh_2 (wv_X15_nextToken_308 kh_2 e).2⟩
theorem wv_X15_nextToken_242 {n : Nat} {g : Hp} {F : Nat} {o : Hp} {x4 : Int32} {x6 : Int32} {t0 : Int32} {h : Hp} (k : DyX n xlV g h) (e : sX15_nextToken_242 F h (n + 513) x4 x6 t0 (n + 513) = some o) : DyX n xlV g o ∧ FrW (WIr n 526) h o := by
  unfold sX15_nextToken_242 at e
  obtain ⟨h_1, wh_1, e⟩ := nm_s e
  have kh_1 : DyX n xlV g h_1 := by rw [wh_1]; exact dx_wI k
  have fh_1 : FrW (WIr n 526) h h_1 := by rw [wh_1]; exact fw_wI fw_0 (by unfold WIr; omega)
  rcases br_s e with ⟨_, e⟩ | ⟨_, e⟩
  · exact ⟨(wv_X15_nextToken_266 kh_1 e).1, fw_t fh_1 (wv_X15_nextToken_266 kh_1 e).2⟩
  · exact ⟨(wv_X15_nextToken_266 kh_1 e).1, fw_t fh_1 (wv_X15_nextToken_266 kh_1 e).2⟩
theorem wv_X15_nextToken_194 {n : Nat} {g : Hp} {F : Nat} {o : Hp} {x4 : Int32} {x5 : Int32} {x6 : Int32} {t0 : Int32} {h : Hp} (k : DyX n xlV g h) (e : sX15_nextToken_194 F h (n + 513) (n + 514) x4 x5 x6 t0 (n + 513) = some o) : DyX n xlV g o ∧ FrW (WIr n 526) h o := by
  unfold sX15_nextToken_194 at e
  obtain ⟨h_1, wh_1, e⟩ := nm_s e
  have kh_1 : DyX n xlV g h_1 := by rw [wh_1]; exact dx_wI k
  have fh_1 : FrW (WIr n 526) h h_1 := by rw [wh_1]; exact fw_wI fw_0 (by unfold WIr; omega)
  replace e := (gd_s e).2
  obtain ⟨h_3, wh_3, e⟩ := nm_s e
  have kh_3 : DyX n xlV g h_3 := by rw [wh_3]; exact dx_wI kh_1
  have fh_3 : FrW (WIr n 526) h h_3 := by rw [wh_3]; exact fw_wI fh_1 (by unfold WIr; omega)
  rcases br_s e with ⟨_, e⟩ | ⟨_, e⟩
  · replace e := (gd_s e).2
    exact ⟨(wv_X15_nextToken_242 kh_3 e).1, fw_t fh_3 (wv_X15_nextToken_242 kh_3 e).2⟩
  · exact ⟨(wv_X15_nextToken_242 kh_3 e).1, fw_t fh_3 (wv_X15_nextToken_242 kh_3 e).2⟩
theorem wv_X15_nextToken_159 {n : Nat} {g : Hp} {F : Nat} {o : Hp} : ∀ (f : Nat) {h : Hp} {x2 : Int32} {x4 : Int32} {x5 : Int32} {x6 : Int32}, DyX n xlV g h → sX15_nextToken_159 F f h (n + 513) (n + 514) x2 x4 x5 x6 = some o → DyX n xlV g o ∧ FrW (WIr n 526) h o := by
  intro f
  induction f with
  | zero => intro h x2 x4 x5 x6 _ e; exact absurd e (by rw [sX15_nextToken_159]; exact fun z => nomatch z)
  | succ f ih =>
    intro h x2 x4 x5 x6 k e
    rw [sX15_nextToken_159] at e
    obtain ⟨o_1, eo_1, e⟩ := cl_s e
    obtain ⟨ko_1, fo_1⟩ := wv_X15_byteAt k eo_1
    obtain ⟨o_2, eo_2, e⟩ := cl_s e
    obtain ⟨ko_2, fo_2⟩ := wv_X15_isDigit ko_1 eo_2
    replace fo_2 := fw_t fo_1 fo_2
    rcases br_s e with ⟨_, e⟩ | ⟨_, e⟩
    · rcases br_s e with ⟨_, e⟩ | ⟨_, e⟩
      · exact ⟨(wv_X15_nextToken_194 ko_2 e).1, fw_t fo_2 (wv_X15_nextToken_194 ko_2 e).2⟩
      · exact ⟨(wv_X15_nextToken_194 ko_2 e).1, fw_t fo_2 (wv_X15_nextToken_194 ko_2 e).2⟩
    · obtain ⟨v_5, wv_5, e⟩ := nm_s e
      exact ⟨(ih ko_2 e).1, fw_t fo_2 (ih ko_2 e).2⟩
theorem wv_X15_nextToken_153 {n : Nat} {g : Hp} {F : Nat} {o : Hp} {x2 : Int32} {x4 : Int32} {t0 : Int32} {h : Hp} (k : DyX n xlV g h) (e : sX15_nextToken_153 F h (n + 513) (n + 514) x2 x4 t0 = some o) : DyX n xlV g o ∧ FrW (WIr n 526) h o := by
  unfold sX15_nextToken_153 at e
  exact wv_X15_nextToken_159 F k e
theorem wv_X15_nextToken_139 {n : Nat} {g : Hp} {F : Nat} {o : Hp} {x2 : Int32} {x3 : Int32} {x4 : Int32} {h : Hp} (k : DyX n xlV g h) (e : sX15_nextToken_139 F h (n + 513) (n + 514) x2 x3 x4 = some o) : DyX n xlV g o ∧ FrW (WIr n 526) h o := by
  unfold sX15_nextToken_139 at e
  rcases br_s e with ⟨_, e⟩ | ⟨_, e⟩
  · exact wv_X15_nextToken_153 k e
  · exact wv_X15_nextToken_153 k e
theorem wv_X15_nextToken_77 {n : Nat} {g : Hp} {F : Nat} {o : Hp} : ∀ (f : Nat) {h : Hp} {x2 : Int32} {x3 : Int32}, DyX n xlV g h → sX15_nextToken_77 F f h (n + 513) (n + 514) x2 x3 = some o → DyX n xlV g o ∧ FrW (WIr n 526) h o := by
  intro f
  induction f with
  | zero => intro h x2 x3 _ e; exact absurd e (by rw [sX15_nextToken_77]; exact fun z => nomatch z)
  | succ f ih =>
    intro h x2 x3 k e
    rw [sX15_nextToken_77] at e
    obtain ⟨o_1, eo_1, e⟩ := cl_s e
    obtain ⟨ko_1, fo_1⟩ := wv_X15_byteAt k eo_1
    obtain ⟨o_2, eo_2, e⟩ := cl_s e
    obtain ⟨ko_2, fo_2⟩ := wv_X15_isSmall ko_1 eo_2
    replace fo_2 := fw_t fo_1 fo_2
    rcases br_s e with ⟨_, e⟩ | ⟨_, e⟩
    · obtain ⟨h_4, wh_4, e⟩ := nm_s e
      have kh_4 : DyX n xlV g h_4 := by rw [wh_4]; exact dx_wI ko_2
      have fh_4 : FrW (WIr n 526) h h_4 := by rw [wh_4]; exact fw_wI fo_2 (by unfold WIr; omega)
      obtain ⟨h_5, wh_5, e⟩ := nm_s e
      have kh_5 : DyX n xlV g h_5 := by rw [wh_5]; exact dx_wI kh_4
      have fh_5 : FrW (WIr n 526) h h_5 := by rw [wh_5]; exact fw_wI fh_4 (by unfold WIr; omega)
      exact ⟨(wv_X15_nextToken_308 kh_5 e).1, fw_t fh_5 (wv_X15_nextToken_308 kh_5 e).2⟩
    · obtain ⟨v_6, wv_6, e⟩ := nm_s e
      exact ⟨(ih ko_2 e).1, fw_t fo_2 (ih ko_2 e).2⟩
theorem wv_X15_nextToken_32 {n : Nat} {g : Hp} {F : Nat} {o : Hp} {x2 : Int32} {x3 : Int32} {h : Hp} (k : DyX n xlV g h) (e : sX15_nextToken_32 F h (n + 513) (n + 514) x2 x3 = some o) : DyX n xlV g o ∧ FrW (WIr n 526) h o := by
  unfold sX15_nextToken_32 at e
  obtain ⟨h_1, wh_1, e⟩ := nm_s e
  have kh_1 : DyX n xlV g h_1 := by rw [wh_1]; exact dx_wI k
  have fh_1 : FrW (WIr n 526) h h_1 := by rw [wh_1]; exact fw_wI fw_0 (by unfold WIr; omega)
  obtain ⟨o_2, eo_2, e⟩ := cl_s e
  obtain ⟨ko_2, fo_2⟩ := wv_X15_byteAt kh_1 eo_2
  replace fo_2 := fw_t fh_1 fo_2
  rcases br_s e with ⟨_, e⟩ | ⟨_, e⟩
  · obtain ⟨o_4, eo_4, e⟩ := cl_s e
    obtain ⟨ko_4, fo_4⟩ := wv_X15_isSmall ko_2 eo_4
    replace fo_4 := fw_t fo_2 fo_4
    rcases br_s e with ⟨_, e⟩ | ⟨_, e⟩
    · obtain ⟨o_6, eo_6, e⟩ := cl_s e
      obtain ⟨ko_6, fo_6⟩ := wv_X15_isDigit ko_4 eo_6
      replace fo_6 := fw_t fo_4 fo_6
      rcases br_s e with ⟨_, e⟩ | ⟨_, e⟩
      · rcases br_s e with ⟨_, e⟩ | ⟨_, e⟩
        · obtain ⟨o_9, eo_9, e⟩ := cl_s e
          obtain ⟨ko_9, fo_9⟩ := wv_X15_byteAt ko_6 eo_9
          replace fo_9 := fw_t fo_6 fo_9
          obtain ⟨o_10, eo_10, e⟩ := cl_s e
          obtain ⟨ko_10, fo_10⟩ := wv_X15_isDigit ko_9 eo_10
          replace fo_10 := fw_t fo_9 fo_10
          rcases br_s e with ⟨_, e⟩ | ⟨_, e⟩
          · exact ⟨(wv_X15_nextToken_278 ko_10 e).1, fw_t fo_10 (wv_X15_nextToken_278 ko_10 e).2⟩
          · exact ⟨(wv_X15_nextToken_139 ko_10 e).1, fw_t fo_10 (wv_X15_nextToken_139 ko_10 e).2⟩
        · exact ⟨(wv_X15_nextToken_278 ko_6 e).1, fw_t fo_6 (wv_X15_nextToken_278 ko_6 e).2⟩
      · exact ⟨(wv_X15_nextToken_139 ko_6 e).1, fw_t fo_6 (wv_X15_nextToken_139 ko_6 e).2⟩
    · exact ⟨(wv_X15_nextToken_77 F ko_4 e).1, fw_t fo_4 (wv_X15_nextToken_77 F ko_4 e).2⟩
  · obtain ⟨h_12, wh_12, e⟩ := nm_s e
    have kh_12 : DyX n xlV g h_12 := by rw [wh_12]; exact dx_wI ko_2
    have fh_12 : FrW (WIr n 526) h h_12 := by rw [wh_12]; exact fw_wI fo_2 (by unfold WIr; omega)
    obtain ⟨h_13, wh_13, e⟩ := nm_s e
    have kh_13 : DyX n xlV g h_13 := by rw [wh_13]; exact dx_wI kh_12
    have fh_13 : FrW (WIr n 526) h h_13 := by rw [wh_13]; exact fw_wI fh_12 (by unfold WIr; omega)
    obtain ⟨h_14, wh_14, e⟩ := nm_s e
    have kh_14 : DyX n xlV g h_14 := by rw [wh_14]; exact dx_wI kh_13
    have fh_14 : FrW (WIr n 526) h h_14 := by rw [wh_14]; exact fw_wI fh_13 (by unfold WIr; omega)
    exact ⟨(wv_X15_nextToken_308 kh_14 e).1, fw_t fh_14 (wv_X15_nextToken_308 kh_14 e).2⟩
theorem wv_X15_nextToken_26 {n : Nat} {g : Hp} {F : Nat} {o : Hp} {x2 : Int32} {x3 : Int32} {k_5 : Hp → Nat → Nat → Int32 → Int32 → Option (Hp)} (D_5 : ∀ {h : Hp} {y3 : Int32} {y4 : Int32}, DyX n xlV g h → k_5 h (n + 513) (n + 514) y3 y4 = some o → DyX n xlV g o ∧ FrW (WIr n 526) h o) {h : Hp} (k : DyX n xlV g h) (e : sX15_nextToken_26 F k_5 h (n + 513) (n + 514) x2 x3 = some o) : DyX n xlV g o ∧ FrW (WIr n 526) h o := by
  unfold sX15_nextToken_26 at e
  obtain ⟨v_1, wv_1, e⟩ := nm_s e
  exact D_5 k e
theorem wv_X15_nextToken_5 {n : Nat} {g : Hp} {F : Nat} {o : Hp} : ∀ (f : Nat) {h : Hp} {x2 : Int32} {x3 : Int32}, DyX n xlV g h → sX15_nextToken_5 F f h (n + 513) (n + 514) x2 x3 = some o → DyX n xlV g o ∧ FrW (WIr n 526) h o := by
  intro f
  induction f with
  | zero => intro h x2 x3 _ e; exact absurd e (by rw [sX15_nextToken_5]; exact fun z => nomatch z)
  | succ f ih =>
    intro h x2 x3 k e
    rw [sX15_nextToken_5] at e
    rcases br_s e with ⟨_, e⟩ | ⟨_, e⟩
    · exact wv_X15_nextToken_32 k e
    · replace e := (gd_s e).2
      rcases br_s e with ⟨_, e⟩ | ⟨_, e⟩
      · exact wv_X15_nextToken_26 (fun k e => ih k e) k e
      · replace e := (gd_s e).2
        rcases br_s e with ⟨_, e⟩ | ⟨_, e⟩
        · exact wv_X15_nextToken_26 (fun k e => ih k e) k e
        · exact wv_X15_nextToken_32 k e
theorem wv_X15_nextToken {n : Nat} {g : Hp} {F : Nat} {o : Hp} {x2 : Int32} {h : Hp} (k : DyX n xlV g h) (e : sX15_nextToken F h (n + 513) (n + 514) x2 = some o) : DyX n xlV g o ∧ FrW (WIr n 526) h o := by
  unfold sX15_nextToken at e
  obtain ⟨v_1, wv_1, e⟩ := nm_s e
  exact wv_X15_nextToken_5 F k e
theorem wv_X15_isWord_28 {n : Nat} {g : Hp} {F : Nat} {o : Int32 × Hp} : ∀ (f : Nat) {h : Hp} {x2 : Nat} {x3 : Int32}, DyX n xlV g h → sX15_isWord_28 F f h (n + 513) (n + 514) x2 x3 = some o → DyX n xlV g o.2 ∧ FrW (WIr n 526) h o.2 := by
  intro f
  induction f with
  | zero => intro h x2 x3 _ e; exact absurd e (by rw [sX15_isWord_28]; exact fun z => nomatch z)
  | succ f ih =>
    intro h x2 x3 k e
    rw [sX15_isWord_28] at e
    rcases br_s e with ⟨_, e⟩ | ⟨_, e⟩
    · rw [← Option.some.inj e]; exact ⟨k, fw_0⟩
    · replace e := (gd_s e).2
      replace e := (gd_s e).2
      rcases br_s e with ⟨_, e⟩ | ⟨_, e⟩
      · obtain ⟨v_5, wv_5, e⟩ := nm_s e
        exact ih k e
      · rw [← Option.some.inj e]; exact ⟨k, fw_0⟩
theorem wv_X15_isWord_24 {n : Nat} {g : Hp} {F : Nat} {o : Int32 × Hp} {h : Hp} (k : DyX n xlV g h) (e : sX15_isWord_24 F h = some o) : DyX n xlV g o.2 ∧ FrW (WIr n 526) h o.2 := by
  unfold sX15_isWord_24 at e
  rw [← Option.some.inj e]; exact ⟨k, fw_0⟩
theorem wv_X15_isWord {n : Nat} {g : Hp} {F : Nat} {o : Int32 × Hp} {x2 : Nat} {h : Hp} (k : DyX n xlV g h) (e : sX15_isWord F h (n + 513) (n + 514) x2 = some o) : DyX n xlV g o.2 ∧ FrW (WIr n 526) h o.2 := by
  unfold sX15_isWord at e
  rcases br_s e with ⟨_, e⟩ | ⟨_, e⟩
  · rcases br_s e with ⟨_, e⟩ | ⟨_, e⟩
    · exact wv_X15_isWord_28 F k e
    · exact wv_X15_isWord_24 k e
  · exact wv_X15_isWord_24 k e
theorem wv_X15_isNumber_29 {n : Nat} {g : Hp} {o : Int32 × Hp} {t0 : Int32} {h : Hp} (k : DyX n xlV g h) (e : sX15_isNumber_29 h t0 = some o) : DyX n xlV g o.2 ∧ FrW (WIr n 526) h o.2 := by
  unfold sX15_isNumber_29 at e
  replace e := (gd_s e).2
  rw [← Option.some.inj e]; exact ⟨k, fw_0⟩
theorem wv_X15_isNumber_28 {n : Nat} {g : Hp} {o : Int32 × Hp} {h : Hp} (k : DyX n xlV g h) (e : sX15_isNumber_28 h = some o) : DyX n xlV g o.2 ∧ FrW (WIr n 526) h o.2 := by
  unfold sX15_isNumber_28 at e
  exact wv_X15_isNumber_29 k e
theorem wv_X15_isNumber {n : Nat} {g : Hp} {o : Int32 × Hp} {x1 : Int32} {x2 : Int32} {h : Hp} (k : DyX n xlV g h) (e : sX15_isNumber h (n + 513) x1 x2 = some o) : DyX n xlV g o.2 ∧ FrW (WIr n 526) h o.2 := by
  unfold sX15_isNumber at e
  rcases br_s e with ⟨_, e⟩ | ⟨_, e⟩
  · rcases br_s e with ⟨_, e⟩ | ⟨_, e⟩
    · exact wv_X15_isNumber_28 k e
    · rcases br_s e with ⟨_, e⟩ | ⟨_, e⟩
      · exact wv_X15_isNumber_28 k e
      · exact wv_X15_isNumber_29 k e
  · exact wv_X15_isNumber_28 k e
theorem wv_X15_isSign_23 {n : Nat} {g : Hp} {o : Int32 × Hp} {t0 : Int32} {h : Hp} (k : DyX n xlV g h) (e : sX15_isSign_23 h t0 = some o) : DyX n xlV g o.2 ∧ FrW (WIr n 526) h o.2 := by
  unfold sX15_isSign_23 at e
  replace e := (gd_s e).2
  rw [← Option.some.inj e]; exact ⟨k, fw_0⟩
theorem wv_X15_isSign_22 {n : Nat} {g : Hp} {o : Int32 × Hp} {h : Hp} (k : DyX n xlV g h) (e : sX15_isSign_22 h = some o) : DyX n xlV g o.2 ∧ FrW (WIr n 526) h o.2 := by
  unfold sX15_isSign_22 at e
  exact wv_X15_isSign_23 k e
theorem wv_X15_isSign {n : Nat} {g : Hp} {o : Int32 × Hp} {x2 : Int32} {h : Hp} (k : DyX n xlV g h) (e : sX15_isSign h (n + 513) (n + 514) x2 = some o) : DyX n xlV g o.2 ∧ FrW (WIr n 526) h o.2 := by
  unfold sX15_isSign at e
  rcases br_s e with ⟨_, e⟩ | ⟨_, e⟩
  · replace e := (gd_s e).2
    rcases br_s e with ⟨_, e⟩ | ⟨_, e⟩
    · exact wv_X15_isSign_23 k e
    · exact wv_X15_isSign_22 k e
  · exact wv_X15_isSign_22 k e
theorem wv_X15_isSentence_401 {n : Nat} {g : Hp} {F : Nat} {o : Int32 × Hp} {t0 : Int32} {h : Hp} (k : DyX n xlV g h) (e : sX15_isSentence_401 F h t0 = some o) : DyX n xlV g o.2 ∧ FrW (WIr n 526) h o.2 := by
  unfold sX15_isSentence_401 at e
  replace e := (gd_s e).2
  rw [← Option.some.inj e]; exact ⟨k, fw_0⟩
theorem wv_X15_isSentence_400 {n : Nat} {g : Hp} {F : Nat} {o : Int32 × Hp} {h : Hp} (k : DyX n xlV g h) (e : sX15_isSentence_400 F h = some o) : DyX n xlV g o.2 ∧ FrW (WIr n 526) h o.2 := by
  unfold sX15_isSentence_400 at e
  exact wv_X15_isSentence_401 k e
theorem wv_X15_isOnce_16 {n : Nat} {g : Hp} {o : Int32 × Hp} {x1 : Int32} {t0 : Int32} {h : Hp} (k : DyX n xlV g h) (e : sX15_isOnce_16 h (n + 513) x1 t0 = some o) : DyX n xlV g o.2 ∧ FrW (WIr n 526) h o.2 := by
  unfold sX15_isOnce_16 at e
  obtain ⟨h_1, wh_1, e⟩ := nm_s e
  have kh_1 : DyX n xlV g h_1 := by rw [wh_1]; exact dx_wI k
  have fh_1 : FrW (WIr n 526) h h_1 := by rw [wh_1]; exact fw_wI fw_0 (by unfold WIr; omega)
  replace e := (gd_s e).2
  rw [← Option.some.inj e]; exact ⟨kh_1, fh_1⟩
theorem wv_X15_isOnce {n : Nat} {g : Hp} {o : Int32 × Hp} {x1 : Int32} {h : Hp} (k : DyX n xlV g h) (e : sX15_isOnce h (n + 513) x1 = some o) : DyX n xlV g o.2 ∧ FrW (WIr n 526) h o.2 := by
  unfold sX15_isOnce at e
  rcases br_s e with ⟨_, e⟩ | ⟨_, e⟩
  · exact wv_X15_isOnce_16 k e
  · exact wv_X15_isOnce_16 k e
theorem wv_X15_goesOn {n : Nat} {g : Hp} {F : Nat} {o : Int32 × Hp} {x2 : Int32} {h : Hp} (k : DyX n xlV g h) (e : sX15_goesOn F h (n + 513) (n + 514) x2 = some o) : DyX n xlV g o.2 ∧ FrW (WIr n 526) h o.2 := by
  unfold sX15_goesOn at e
  obtain ⟨o_1, eo_1, e⟩ := cl_s e
  obtain ⟨ko_1, fo_1⟩ := wv_X15_nextToken k eo_1
  rw [← Option.some.inj e]; exact ⟨ko_1, fo_1⟩
theorem wv_X15_isOutcome_69 {n : Nat} {g : Hp} {F : Nat} {o : Int32 × Hp} {x2 : Int32} {h : Hp} (k : DyX n xlV g h) (e : sX15_isOutcome_69 F h (n + 513) (n + 514) x2 = some o) : DyX n xlV g o.2 ∧ FrW (WIr n 526) h o.2 := by
  unfold sX15_isOutcome_69 at e
  obtain ⟨o_1, eo_1, e⟩ := cl_s e
  obtain ⟨ko_1, fo_1⟩ := wv_X15_goesOn k eo_1
  replace e := (gd_s e).2
  rw [← Option.some.inj e]; exact ⟨ko_1, fo_1⟩
theorem wv_X15_isOutcome_35 {n : Nat} {g : Hp} {F : Nat} {o : Int32 × Hp} {x2 : Int32} {x3 : Int32} {t0 : Int32} {h : Hp} (k : DyX n xlV g h) (e : sX15_isOutcome_35 F h (n + 513) (n + 514) x2 x3 t0 = some o) : DyX n xlV g o.2 ∧ FrW (WIr n 526) h o.2 := by
  unfold sX15_isOutcome_35 at e
  rcases br_s e with ⟨_, e⟩ | ⟨_, e⟩
  · rw [← Option.some.inj e]; exact ⟨k, fw_0⟩
  · rcases br_s e with ⟨_, e⟩ | ⟨_, e⟩
    · obtain ⟨r_3, er_3, e⟩ := cl_s e
      have yr_3 := dx_xd (a := 513) (b := 526) k (by decide) er_3
      subst yr_3
      obtain ⟨h_4, wh_4, e⟩ := nm_s e
      have kh_4 : DyX n xlV g h_4 := by rw [wh_4]; exact dx_wI k
      have fh_4 : FrW (WIr n 526) h h_4 := by rw [wh_4]; exact fw_wI fw_0 (by unfold WIr; omega)
      exact ⟨(wv_X15_isOutcome_69 kh_4 e).1, fw_t fh_4 (wv_X15_isOutcome_69 kh_4 e).2⟩
    · obtain ⟨r_5, er_5, e⟩ := cl_s e
      have yr_5 := dx_xd (a := 513) (b := 526) k (by decide) er_5
      subst yr_5
      obtain ⟨h_6, wh_6, e⟩ := nm_s e
      have kh_6 : DyX n xlV g h_6 := by rw [wh_6]; exact dx_wI k
      have fh_6 : FrW (WIr n 526) h h_6 := by rw [wh_6]; exact fw_wI fw_0 (by unfold WIr; omega)
      exact ⟨(wv_X15_isOutcome_69 kh_6 e).1, fw_t fh_6 (wv_X15_isOutcome_69 kh_6 e).2⟩
theorem wv_X15_isOutcome {n : Nat} {g : Hp} {F : Nat} {o : Int32 × Hp} {x2 : Int32} {x3 : Int32} {h : Hp} (k : DyX n xlV g h) (e : sX15_isOutcome F h (n + 513) (n + 514) x2 x3 = some o) : DyX n xlV g o.2 ∧ FrW (WIr n 526) h o.2 := by
  unfold sX15_isOutcome at e
  obtain ⟨o_1, eo_1, e⟩ := cl_s e
  obtain ⟨ko_1, fo_1⟩ := wv_X15_nextToken k eo_1
  obtain ⟨o_2, eo_2, e⟩ := cl_s e
  obtain ⟨ko_2, fo_2⟩ := wv_X15_isWord ko_1 eo_2
  replace fo_2 := fw_t fo_1 fo_2
  rcases br_s e with ⟨_, e⟩ | ⟨_, e⟩
  · obtain ⟨o_4, eo_4, e⟩ := cl_s e
    obtain ⟨ko_4, fo_4⟩ := wv_X15_isWord ko_2 eo_4
    replace fo_4 := fw_t fo_2 fo_4
    rcases br_s e with ⟨_, e⟩ | ⟨_, e⟩
    · exact ⟨(wv_X15_isOutcome_35 ko_4 e).1, fw_t fo_4 (wv_X15_isOutcome_35 ko_4 e).2⟩
    · exact ⟨(wv_X15_isOutcome_35 ko_4 e).1, fw_t fo_4 (wv_X15_isOutcome_35 ko_4 e).2⟩
  · exact ⟨(wv_X15_isOutcome_35 ko_2 e).1, fw_t fo_2 (wv_X15_isOutcome_35 ko_2 e).2⟩
theorem wv_X15_isSentence_366 {n : Nat} {g : Hp} {F : Nat} {o : Int32 × Hp} {t0 : Int32} {h : Hp} (k : DyX n xlV g h) (e : sX15_isSentence_366 F h t0 = some o) : DyX n xlV g o.2 ∧ FrW (WIr n 526) h o.2 := by
  unfold sX15_isSentence_366 at e
  replace e := (gd_s e).2
  rw [← Option.some.inj e]; exact ⟨k, fw_0⟩
theorem wv_X15_isSentence_365 {n : Nat} {g : Hp} {F : Nat} {o : Int32 × Hp} {h : Hp} (k : DyX n xlV g h) (e : sX15_isSentence_365 F h = some o) : DyX n xlV g o.2 ∧ FrW (WIr n 526) h o.2 := by
  unfold sX15_isSentence_365 at e
  exact wv_X15_isSentence_366 k e
theorem wv_X15_isSentence_331 {n : Nat} {g : Hp} {F : Nat} {o : Int32 × Hp} {t0 : Int32} {h : Hp} (k : DyX n xlV g h) (e : sX15_isSentence_331 F h t0 = some o) : DyX n xlV g o.2 ∧ FrW (WIr n 526) h o.2 := by
  unfold sX15_isSentence_331 at e
  replace e := (gd_s e).2
  rw [← Option.some.inj e]; exact ⟨k, fw_0⟩
theorem wv_X15_isSentence_330 {n : Nat} {g : Hp} {F : Nat} {o : Int32 × Hp} {h : Hp} (k : DyX n xlV g h) (e : sX15_isSentence_330 F h = some o) : DyX n xlV g o.2 ∧ FrW (WIr n 526) h o.2 := by
  unfold sX15_isSentence_330 at e
  exact wv_X15_isSentence_331 k e
theorem wv_X15_isHill_128 {n : Nat} {g : Hp} {F : Nat} {o : Int32 × Hp} {h : Hp} (k : DyX n xlV g h) (e : sX15_isHill_128 F h = some o) : DyX n xlV g o.2 ∧ FrW (WIr n 526) h o.2 := by
  unfold sX15_isHill_128 at e
  rw [← Option.some.inj e]; exact ⟨k, fw_0⟩
theorem wv_X15_isHill_62 {n : Nat} {g : Hp} {F : Nat} {o : Int32 × Hp} {h : Hp} (k : DyX n xlV g h) (e : sX15_isHill_62 F h = some o) : DyX n xlV g o.2 ∧ FrW (WIr n 526) h o.2 := by
  unfold sX15_isHill_62 at e
  rw [← Option.some.inj e]; exact ⟨k, fw_0⟩
theorem wv_X15_isHill_22 {n : Nat} {g : Hp} {F : Nat} {o : Int32 × Hp} {x2 : Int32} {k_8 : Hp → Nat → Nat → Int32 → Int32 → Option (Int32 × Hp)} (D_8 : ∀ {h : Hp} {y3 : Int32} {y4 : Int32}, DyX n xlV g h → k_8 h (n + 513) (n + 514) y3 y4 = some o → DyX n xlV g o.2 ∧ FrW (WIr n 526) h o.2) {h : Hp} (k : DyX n xlV g h) (e : sX15_isHill_22 F k_8 h (n + 513) (n + 514) x2 = some o) : DyX n xlV g o.2 ∧ FrW (WIr n 526) h o.2 := by
  unfold sX15_isHill_22 at e
  rcases br_s e with ⟨_, e⟩ | ⟨_, e⟩
  · rcases br_s e with ⟨_, e⟩ | ⟨_, e⟩
    · replace e := (gd_s e).2
      obtain ⟨r_4, er_4, e⟩ := cl_s e
      have yr_4 := dx_xd (a := 513) (b := 526) k (by decide) er_4
      subst yr_4
      rcases br_s e with ⟨_, e⟩ | ⟨_, e⟩
      · replace e := (gd_s e).2
        obtain ⟨v_7, wv_7, e⟩ := nm_s e
        obtain ⟨o_8, eo_8, e⟩ := cl_s e
        obtain ⟨ko_8, fo_8⟩ := wv_X15_nextToken k eo_8
        obtain ⟨r_9, er_9, e⟩ := cl_s e
        have yr_9 := dx_xd (a := 513) (b := 526) ko_8 (by decide) er_9
        subst yr_9
        obtain ⟨o_10, eo_10, e⟩ := cl_s e
        obtain ⟨ko_10, fo_10⟩ := wv_X15_isNumber ko_8 eo_10
        replace fo_10 := fw_t fo_8 fo_10
        rcases br_s e with ⟨_, e⟩ | ⟨_, e⟩
        · exact ⟨(wv_X15_isHill_128 ko_10 e).1, fw_t fo_10 (wv_X15_isHill_128 ko_10 e).2⟩
        · obtain ⟨r_12, er_12, e⟩ := cl_s e
          have yr_12 := dx_xd (a := 513) (b := 526) ko_10 (by decide) er_12
          subst yr_12
          obtain ⟨r_13, er_13, e⟩ := cl_s e
          have yr_13 := dx_xd (a := 513) (b := 526) ko_10 (by decide) er_13
          subst yr_13
          rcases br_s e with ⟨_, e⟩ | ⟨_, e⟩
          · exact ⟨(wv_X15_isHill_128 ko_10 e).1, fw_t fo_10 (wv_X15_isHill_128 ko_10 e).2⟩
          · obtain ⟨r_15, er_15, e⟩ := cl_s e
            have yr_15 := dx_xd (a := 513) (b := 526) ko_10 (by decide) er_15
            subst yr_15
            obtain ⟨r_16, er_16, e⟩ := cl_s e
            have yr_16 := dx_xd (a := 513) (b := 526) ko_10 (by decide) er_16
            subst yr_16
            obtain ⟨h_17, wh_17, e⟩ := nm_s e
            have kh_17 : DyX n xlV g h_17 := by rw [wh_17]; exact dx_wJ ko_10
            have fh_17 : FrW (WIr n 526) h h_17 := by rw [wh_17]; exact fw_wJ fo_10 (by unfold WIr; omega)
            obtain ⟨o_18, eo_18, e⟩ := cl_s e
            obtain ⟨ko_18, fo_18⟩ := wv_X15_nextToken kh_17 eo_18
            replace fo_18 := fw_t fh_17 fo_18
            exact ⟨(D_8 ko_18 e).1, fw_t fo_18 (D_8 ko_18 e).2⟩
      · exact wv_X15_isHill_62 k e
    · exact wv_X15_isHill_62 k e
  · exact wv_X15_isHill_62 k e
theorem wv_X15_isHill_8 {n : Nat} {g : Hp} {F : Nat} {o : Int32 × Hp} : ∀ (f : Nat) {h : Hp} {x2 : Int32} {x3 : Int32}, DyX n xlV g h → sX15_isHill_8 F f h (n + 513) (n + 514) x2 x3 = some o → DyX n xlV g o.2 ∧ FrW (WIr n 526) h o.2 := by
  intro f
  induction f with
  | zero => intro h x2 x3 _ e; exact absurd e (by rw [sX15_isHill_8]; exact fun z => nomatch z)
  | succ f ih =>
    intro h x2 x3 k e
    rw [sX15_isHill_8] at e
    rcases br_s e with ⟨_, e⟩ | ⟨_, e⟩
    · exact wv_X15_isHill_22 (fun k e => ih k e) k e
    · obtain ⟨o_2, eo_2, e⟩ := cl_s e
      obtain ⟨ko_2, fo_2⟩ := wv_X15_isSign k eo_2
      rcases br_s e with ⟨_, e⟩ | ⟨_, e⟩
      · exact ⟨(wv_X15_isHill_22 (fun k e => ih k e) ko_2 e).1, fw_t fo_2 (wv_X15_isHill_22 (fun k e => ih k e) ko_2 e).2⟩
      · rw [← Option.some.inj e]; exact ⟨ko_2, fo_2⟩
theorem wv_X15_isHill {n : Nat} {g : Hp} {F : Nat} {o : Int32 × Hp} {x2 : Int32} {h : Hp} (k : DyX n xlV g h) (e : sX15_isHill F h (n + 513) (n + 514) x2 = some o) : DyX n xlV g o.2 ∧ FrW (WIr n 526) h o.2 := by
  unfold sX15_isHill at e
  obtain ⟨o_1, eo_1, e⟩ := cl_s e
  obtain ⟨ko_1, fo_1⟩ := wv_X15_nextToken k eo_1
  exact ⟨(wv_X15_isHill_8 F ko_1 e).1, fw_t fo_1 (wv_X15_isHill_8 F ko_1 e).2⟩
theorem wv_X15_isSentence_297 {n : Nat} {g : Hp} {F : Nat} {o : Int32 × Hp} {t0 : Int32} {h : Hp} (k : DyX n xlV g h) (e : sX15_isSentence_297 F h t0 = some o) : DyX n xlV g o.2 ∧ FrW (WIr n 526) h o.2 := by
  unfold sX15_isSentence_297 at e
  replace e := (gd_s e).2
  rw [← Option.some.inj e]; exact ⟨k, fw_0⟩
theorem wv_X15_isSentence_296 {n : Nat} {g : Hp} {F : Nat} {o : Int32 × Hp} {h : Hp} (k : DyX n xlV g h) (e : sX15_isSentence_296 F h = some o) : DyX n xlV g o.2 ∧ FrW (WIr n 526) h o.2 := by
  unfold sX15_isSentence_296 at e
  exact wv_X15_isSentence_297 k e
theorem wv_X15_isChecks {n : Nat} {g : Hp} {F : Nat} {o : Int32 × Hp} {x2 : Int32} {h : Hp} (k : DyX n xlV g h) (e : sX15_isChecks F h (n + 513) (n + 514) x2 = some o) : DyX n xlV g o.2 ∧ FrW (WIr n 526) h o.2 := by
  unfold sX15_isChecks at e
  obtain ⟨o_1, eo_1, e⟩ := cl_s e
  obtain ⟨ko_1, fo_1⟩ := wv_X15_nextToken k eo_1
  obtain ⟨o_2, eo_2, e⟩ := cl_s e
  obtain ⟨ko_2, fo_2⟩ := wv_X15_isNumber ko_1 eo_2
  replace fo_2 := fw_t fo_1 fo_2
  rcases br_s e with ⟨_, e⟩ | ⟨_, e⟩
  · rw [← Option.some.inj e]; exact ⟨ko_2, fo_2⟩
  · obtain ⟨r_4, er_4, e⟩ := cl_s e
    have yr_4 := dx_xd (a := 513) (b := 526) ko_2 (by decide) er_4
    subst yr_4
    obtain ⟨h_5, wh_5, e⟩ := nm_s e
    have kh_5 : DyX n xlV g h_5 := by rw [wh_5]; exact dx_wI ko_2
    have fh_5 : FrW (WIr n 526) h h_5 := by rw [wh_5]; exact fw_wI fo_2 (by unfold WIr; omega)
    obtain ⟨o_6, eo_6, e⟩ := cl_s e
    obtain ⟨ko_6, fo_6⟩ := wv_X15_goesOn kh_5 eo_6
    replace fo_6 := fw_t fh_5 fo_6
    replace e := (gd_s e).2
    rw [← Option.some.inj e]; exact ⟨ko_6, fo_6⟩
theorem wv_X15_isSentence_263 {n : Nat} {g : Hp} {F : Nat} {o : Int32 × Hp} {t0 : Int32} {h : Hp} (k : DyX n xlV g h) (e : sX15_isSentence_263 F h t0 = some o) : DyX n xlV g o.2 ∧ FrW (WIr n 526) h o.2 := by
  unfold sX15_isSentence_263 at e
  replace e := (gd_s e).2
  rw [← Option.some.inj e]; exact ⟨k, fw_0⟩
theorem wv_X15_isSentence_262 {n : Nat} {g : Hp} {F : Nat} {o : Int32 × Hp} {h : Hp} (k : DyX n xlV g h) (e : sX15_isSentence_262 F h = some o) : DyX n xlV g o.2 ∧ FrW (WIr n 526) h o.2 := by
  unfold sX15_isSentence_262 at e
  exact wv_X15_isSentence_263 k e
theorem wv_X14_find_2 {n : Nat} {g : Hp} {F : Nat} {o : Int32 × Hp} : ∀ (f : Nat) {h : Hp} {x1 : Int32} {x2 : Int32}, DyX n xlV g h → sX14_find_2 F f h (n + 526) x1 x2 = some o → DyX n xlV g o.2 ∧ FrW (WIr n 526) h o.2 := by
  intro f
  induction f with
  | zero => intro h x1 x2 _ e; exact absurd e (by rw [sX14_find_2]; exact fun z => nomatch z)
  | succ f ih =>
    intro h x1 x2 k e
    rw [sX14_find_2] at e
    rcases br_s e with ⟨_, e⟩ | ⟨_, e⟩
    · rw [← Option.some.inj e]; exact ⟨k, fw_0⟩
    · obtain ⟨r_2, er_2, e⟩ := cl_s e
      have yr_2 := dx_ed (a := 526) (b := 527) k (by decide +kernel) er_2
      subst yr_2
      replace e := (gd_s e).2
      rcases br_s e with ⟨_, e⟩ | ⟨_, e⟩
      · rw [← Option.some.inj e]; exact ⟨k, fw_0⟩
      · obtain ⟨v_5, wv_5, e⟩ := nm_s e
        exact ih k e
theorem wv_X14_find {n : Nat} {g : Hp} {F : Nat} {o : Int32 × Hp} {x1 : Int32} {h : Hp} (k : DyX n xlV g h) (e : sX14_find F h (n + 526) x1 = some o) : DyX n xlV g o.2 ∧ FrW (WIr n 526) h o.2 := by
  unfold sX14_find at e
  exact wv_X14_find_2 F k e
theorem wv_X15_manAt_38 {n : Nat} {g : Hp} {F : Nat} {o : Int32 × Hp} {t0 : Int32} {h : Hp} (k : DyX n xlV g h) (e : sX15_manAt_38 F h t0 = some o) : DyX n xlV g o.2 ∧ FrW (WIr n 526) h o.2 := by
  unfold sX15_manAt_38 at e
  rw [← Option.some.inj e]; exact ⟨k, fw_0⟩
theorem wv_X15_manAt_37 {n : Nat} {g : Hp} {F : Nat} {o : Int32 × Hp} {h : Hp} (k : DyX n xlV g h) (e : sX15_manAt_37 F h = some o) : DyX n xlV g o.2 ∧ FrW (WIr n 526) h o.2 := by
  unfold sX15_manAt_37 at e
  exact wv_X15_manAt_38 k e
theorem wv_X15_manAt {n : Nat} {g : Hp} {F : Nat} {o : Int32 × Hp} {h : Hp} (k : DyX n xlV g h) (e : sX15_manAt F h (n + 513) (n + 514) = some o) : DyX n xlV g o.2 ∧ FrW (WIr n 526) h o.2 := by
  unfold sX15_manAt at e
  rcases br_s e with ⟨_, e⟩ | ⟨_, e⟩
  · rcases br_s e with ⟨_, e⟩ | ⟨_, e⟩
    · obtain ⟨r_3, er_3, e⟩ := cl_s e
      have yr_3 := dx_xd (a := 513) (b := 526) k (by decide) er_3
      subst yr_3
      replace e := (gd_s e).2
      obtain ⟨o_5, eo_5, e⟩ := cl_s e
      obtain ⟨ko_5, fo_5⟩ := wv_X14_find k eo_5
      exact ⟨(wv_X15_manAt_38 ko_5 e).1, fw_t fo_5 (wv_X15_manAt_38 ko_5 e).2⟩
    · exact wv_X15_manAt_37 k e
  · exact wv_X15_manAt_37 k e
theorem wv_X15_isBlast_40 {n : Nat} {g : Hp} {F : Nat} {o : Int32 × Hp} {h : Hp} (k : DyX n xlV g h) (e : sX15_isBlast_40 F h = some o) : DyX n xlV g o.2 ∧ FrW (WIr n 526) h o.2 := by
  unfold sX15_isBlast_40 at e
  rw [← Option.some.inj e]; exact ⟨k, fw_0⟩
theorem wv_X15_isBlast_6 {n : Nat} {g : Hp} {F : Nat} {o : Int32 × Hp} : ∀ (f : Nat) {h : Hp} {x2 : Int32}, DyX n xlV g h → sX15_isBlast_6 F f h (n + 513) (n + 514) x2 = some o → DyX n xlV g o.2 ∧ FrW (WIr n 526) h o.2 := by
  intro f
  induction f with
  | zero => intro h x2 _ e; exact absurd e (by rw [sX15_isBlast_6]; exact fun z => nomatch z)
  | succ f ih =>
    intro h x2 k e
    rw [sX15_isBlast_6] at e
    rcases br_s e with ⟨_, e⟩ | ⟨_, e⟩
    · obtain ⟨o_2, eo_2, e⟩ := cl_s e
      obtain ⟨ko_2, fo_2⟩ := wv_X15_manAt k eo_2
      rcases br_s e with ⟨_, e⟩ | ⟨_, e⟩
      · exact ⟨(wv_X15_isBlast_40 ko_2 e).1, fw_t fo_2 (wv_X15_isBlast_40 ko_2 e).2⟩
      · obtain ⟨r_4, er_4, e⟩ := cl_s e
        have yr_4 := dx_xd (a := 513) (b := 526) ko_2 (by decide) er_4
        subst yr_4
        rcases br_s e with ⟨_, e⟩ | ⟨_, e⟩
        · exact ⟨(wv_X15_isBlast_40 ko_2 e).1, fw_t fo_2 (wv_X15_isBlast_40 ko_2 e).2⟩
        · obtain ⟨r_6, er_6, e⟩ := cl_s e
          have yr_6 := dx_xd (a := 513) (b := 526) ko_2 (by decide) er_6
          subst yr_6
          obtain ⟨h_7, wh_7, e⟩ := nm_s e
          have kh_7 : DyX n xlV g h_7 := by rw [wh_7]; exact dx_wI ko_2
          have fh_7 : FrW (WIr n 526) h h_7 := by rw [wh_7]; exact fw_wI fo_2 (by unfold WIr; omega)
          obtain ⟨o_8, eo_8, e⟩ := cl_s e
          obtain ⟨ko_8, fo_8⟩ := wv_X15_nextToken kh_7 eo_8
          replace fo_8 := fw_t fh_7 fo_8
          exact ⟨(ih ko_8 e).1, fw_t fo_8 (ih ko_8 e).2⟩
    · rw [← Option.some.inj e]; exact ⟨k, fw_0⟩
theorem wv_X15_isBlast {n : Nat} {g : Hp} {F : Nat} {o : Int32 × Hp} {x2 : Int32} {h : Hp} (k : DyX n xlV g h) (e : sX15_isBlast F h (n + 513) (n + 514) x2 = some o) : DyX n xlV g o.2 ∧ FrW (WIr n 526) h o.2 := by
  unfold sX15_isBlast at e
  obtain ⟨o_1, eo_1, e⟩ := cl_s e
  obtain ⟨ko_1, fo_1⟩ := wv_X15_nextToken k eo_1
  exact ⟨(wv_X15_isBlast_6 F ko_1 e).1, fw_t fo_1 (wv_X15_isBlast_6 F ko_1 e).2⟩
theorem wv_X15_isSentence_222 {n : Nat} {g : Hp} {F : Nat} {o : Int32 × Hp} {t0 : Int32} {h : Hp} (k : DyX n xlV g h) (e : sX15_isSentence_222 F h t0 = some o) : DyX n xlV g o.2 ∧ FrW (WIr n 526) h o.2 := by
  unfold sX15_isSentence_222 at e
  replace e := (gd_s e).2
  rw [← Option.some.inj e]; exact ⟨k, fw_0⟩
theorem wv_X15_isSentence_221 {n : Nat} {g : Hp} {F : Nat} {o : Int32 × Hp} {h : Hp} (k : DyX n xlV g h) (e : sX15_isSentence_221 F h = some o) : DyX n xlV g o.2 ∧ FrW (WIr n 526) h o.2 := by
  unfold sX15_isSentence_221 at e
  exact wv_X15_isSentence_222 k e
theorem wv_X15_isSentence_181 {n : Nat} {g : Hp} {F : Nat} {o : Int32 × Hp} {t0 : Int32} {h : Hp} (k : DyX n xlV g h) (e : sX15_isSentence_181 F h t0 = some o) : DyX n xlV g o.2 ∧ FrW (WIr n 526) h o.2 := by
  unfold sX15_isSentence_181 at e
  replace e := (gd_s e).2
  rw [← Option.some.inj e]; exact ⟨k, fw_0⟩
theorem wv_X15_isSentence_180 {n : Nat} {g : Hp} {F : Nat} {o : Int32 × Hp} {h : Hp} (k : DyX n xlV g h) (e : sX15_isSentence_180 F h = some o) : DyX n xlV g o.2 ∧ FrW (WIr n 526) h o.2 := by
  unfold sX15_isSentence_180 at e
  exact wv_X15_isSentence_181 k e
theorem wv_X15_isSentence_140 {n : Nat} {g : Hp} {F : Nat} {o : Int32 × Hp} {t0 : Int32} {h : Hp} (k : DyX n xlV g h) (e : sX15_isSentence_140 F h t0 = some o) : DyX n xlV g o.2 ∧ FrW (WIr n 526) h o.2 := by
  unfold sX15_isSentence_140 at e
  replace e := (gd_s e).2
  rw [← Option.some.inj e]; exact ⟨k, fw_0⟩
theorem wv_X15_isSentence_139 {n : Nat} {g : Hp} {F : Nat} {o : Int32 × Hp} {h : Hp} (k : DyX n xlV g h) (e : sX15_isSentence_139 F h = some o) : DyX n xlV g o.2 ∧ FrW (WIr n 526) h o.2 := by
  unfold sX15_isSentence_139 at e
  exact wv_X15_isSentence_140 k e
theorem wv_X15_isSentence_99 {n : Nat} {g : Hp} {F : Nat} {o : Int32 × Hp} {t0 : Int32} {h : Hp} (k : DyX n xlV g h) (e : sX15_isSentence_99 F h t0 = some o) : DyX n xlV g o.2 ∧ FrW (WIr n 526) h o.2 := by
  unfold sX15_isSentence_99 at e
  replace e := (gd_s e).2
  rw [← Option.some.inj e]; exact ⟨k, fw_0⟩
theorem wv_X15_isSentence_98 {n : Nat} {g : Hp} {F : Nat} {o : Int32 × Hp} {h : Hp} (k : DyX n xlV g h) (e : sX15_isSentence_98 F h = some o) : DyX n xlV g o.2 ∧ FrW (WIr n 526) h o.2 := by
  unfold sX15_isSentence_98 at e
  exact wv_X15_isSentence_99 k e
theorem wv_X15_isCastle_41 {n : Nat} {g : Hp} {F : Nat} {o : Int32 × Hp} {h : Hp} (k : DyX n xlV g h) (e : sX15_isCastle_41 F h = some o) : DyX n xlV g o.2 ∧ FrW (WIr n 526) h o.2 := by
  unfold sX15_isCastle_41 at e
  rw [← Option.some.inj e]; exact ⟨k, fw_0⟩
theorem wv_X15_isCastle {n : Nat} {g : Hp} {F : Nat} {o : Int32 × Hp} {x2 : Int32} {h : Hp} (k : DyX n xlV g h) (e : sX15_isCastle F h (n + 513) (n + 514) x2 = some o) : DyX n xlV g o.2 ∧ FrW (WIr n 526) h o.2 := by
  unfold sX15_isCastle at e
  obtain ⟨r_1, er_1, e⟩ := cl_s e
  have yr_1 := dx_xd (a := 513) (b := 526) k (by decide) er_1
  subst yr_1
  rcases br_s e with ⟨_, e⟩ | ⟨_, e⟩
  · rw [← Option.some.inj e]; exact ⟨k, fw_0⟩
  · obtain ⟨o_3, eo_3, e⟩ := cl_s e
    obtain ⟨ko_3, fo_3⟩ := wv_X15_nextToken k eo_3
    obtain ⟨o_4, eo_4, e⟩ := cl_s e
    obtain ⟨ko_4, fo_4⟩ := wv_X15_manAt ko_3 eo_4
    replace fo_4 := fw_t fo_3 fo_4
    rcases br_s e with ⟨_, e⟩ | ⟨_, e⟩
    · exact ⟨(wv_X15_isCastle_41 ko_4 e).1, fw_t fo_4 (wv_X15_isCastle_41 ko_4 e).2⟩
    · obtain ⟨r_6, er_6, e⟩ := cl_s e
      have yr_6 := dx_xd (a := 513) (b := 526) ko_4 (by decide) er_6
      subst yr_6
      rcases br_s e with ⟨_, e⟩ | ⟨_, e⟩
      · exact ⟨(wv_X15_isCastle_41 ko_4 e).1, fw_t fo_4 (wv_X15_isCastle_41 ko_4 e).2⟩
      · obtain ⟨r_8, er_8, e⟩ := cl_s e
        have yr_8 := dx_xd (a := 513) (b := 526) ko_4 (by decide) er_8
        subst yr_8
        obtain ⟨h_9, wh_9, e⟩ := nm_s e
        have kh_9 : DyX n xlV g h_9 := by rw [wh_9]; exact dx_wI ko_4
        have fh_9 : FrW (WIr n 526) h h_9 := by rw [wh_9]; exact fw_wI fo_4 (by unfold WIr; omega)
        obtain ⟨o_10, eo_10, e⟩ := cl_s e
        obtain ⟨ko_10, fo_10⟩ := wv_X15_goesOn kh_9 eo_10
        replace fo_10 := fw_t fh_9 fo_10
        replace e := (gd_s e).2
        rw [← Option.some.inj e]; exact ⟨ko_10, fo_10⟩
theorem wv_X15_isSentence_66 {n : Nat} {g : Hp} {F : Nat} {o : Int32 × Hp} {t0 : Int32} {h : Hp} (k : DyX n xlV g h) (e : sX15_isSentence_66 F h t0 = some o) : DyX n xlV g o.2 ∧ FrW (WIr n 526) h o.2 := by
  unfold sX15_isSentence_66 at e
  replace e := (gd_s e).2
  rw [← Option.some.inj e]; exact ⟨k, fw_0⟩
theorem wv_X15_isSentence_65 {n : Nat} {g : Hp} {F : Nat} {o : Int32 × Hp} {h : Hp} (k : DyX n xlV g h) (e : sX15_isSentence_65 F h = some o) : DyX n xlV g o.2 ∧ FrW (WIr n 526) h o.2 := by
  unfold sX15_isSentence_65 at e
  exact wv_X15_isSentence_66 k e
theorem wv_X15_isRoyal_40 {n : Nat} {g : Hp} {F : Nat} {o : Int32 × Hp} {h : Hp} (k : DyX n xlV g h) (e : sX15_isRoyal_40 F h = some o) : DyX n xlV g o.2 ∧ FrW (WIr n 526) h o.2 := by
  unfold sX15_isRoyal_40 at e
  rw [← Option.some.inj e]; exact ⟨k, fw_0⟩
theorem wv_X14_isBecome_48 {n : Nat} {g : Hp} {F : Nat} {o : Int32 × Hp} {x1 : Int32} {x3 : Int32} {x4 : Int32} {t0 : Int32} {t1 : Int32} {k_4 : Hp → Nat → Int32 → Int32 → Int32 → Option (Int32 × Hp)} (D_4 : ∀ {h : Hp} {y2 : Int32} {y3 : Int32} {y4 : Int32}, DyX n xlV g h → k_4 h (n + 526) y2 y3 y4 = some o → DyX n xlV g o.2 ∧ FrW (WIr n 526) h o.2) {k_15 : Hp → Nat → Int32 → Int32 → Int32 → Int32 → Option (Int32 × Hp)} (D_15 : ∀ {h : Hp} {y2 : Int32} {y3 : Int32} {y4 : Int32} {y5 : Int32}, DyX n xlV g h → k_15 h (n + 526) y2 y3 y4 y5 = some o → DyX n xlV g o.2 ∧ FrW (WIr n 526) h o.2) {h : Hp} (k : DyX n xlV g h) (e : sX14_isBecome_48 F k_4 k_15 h (n + 526) x1 x3 x4 t0 t1 = some o) : DyX n xlV g o.2 ∧ FrW (WIr n 526) h o.2 := by
  unfold sX14_isBecome_48 at e
  obtain ⟨v_1, wv_1, e⟩ := nm_s e
  obtain ⟨v_2, wv_2, e⟩ := nm_s e
  exact D_15 k e
theorem wv_X14_isBecome_15 {n : Nat} {g : Hp} {F : Nat} {o : Int32 × Hp} {k_4 : Hp → Nat → Int32 → Int32 → Int32 → Option (Int32 × Hp)} (D_4 : ∀ {h : Hp} {y2 : Int32} {y3 : Int32} {y4 : Int32}, DyX n xlV g h → k_4 h (n + 526) y2 y3 y4 = some o → DyX n xlV g o.2 ∧ FrW (WIr n 526) h o.2) : ∀ (f : Nat) {h : Hp} {x1 : Int32} {x2 : Int32} {x3 : Int32} {x4 : Int32}, DyX n xlV g h → sX14_isBecome_15 F k_4 f h (n + 526) x1 x2 x3 x4 = some o → DyX n xlV g o.2 ∧ FrW (WIr n 526) h o.2 := by
  intro f
  induction f with
  | zero => intro h x1 x2 x3 x4 _ e; exact absurd e (by rw [sX14_isBecome_15]; exact fun z => nomatch z)
  | succ f ih =>
    intro h x1 x2 x3 x4 k e
    rw [sX14_isBecome_15] at e
    obtain ⟨r_1, er_1, e⟩ := cl_s e
    have yr_1 := dx_ed (a := 526) (b := 535) k (by decide +kernel) er_1
    subst yr_1
    replace e := (gd_s e).2
    rcases br_s e with ⟨_, e⟩ | ⟨_, e⟩
    · obtain ⟨v_4, wv_4, e⟩ := nm_s e
      exact D_4 k e
    · obtain ⟨r_5, er_5, e⟩ := cl_s e
      have yr_5 := dx_ed (a := 526) (b := 534) k (by decide +kernel) er_5
      subst yr_5
      replace e := (gd_s e).2
      rcases br_s e with ⟨_, e⟩ | ⟨_, e⟩
      · exact wv_X14_isBecome_48 D_4 (fun k e => ih k e) k e
      · exact wv_X14_isBecome_48 D_4 (fun k e => ih k e) k e
theorem wv_X14_isBecome_4 {n : Nat} {g : Hp} {F : Nat} {o : Int32 × Hp} : ∀ (f : Nat) {h : Hp} {x1 : Int32} {x2 : Int32} {x3 : Int32}, DyX n xlV g h → sX14_isBecome_4 F f h (n + 526) x1 x2 x3 = some o → DyX n xlV g o.2 ∧ FrW (WIr n 526) h o.2 := by
  intro f
  induction f with
  | zero => intro h x1 x2 x3 _ e; exact absurd e (by rw [sX14_isBecome_4]; exact fun z => nomatch z)
  | succ f ih =>
    intro h x1 x2 x3 k e
    rw [sX14_isBecome_4] at e
    rcases br_s e with ⟨_, e⟩ | ⟨_, e⟩
    · replace e := (gd_s e).2
      rw [← Option.some.inj e]; exact ⟨k, fw_0⟩
    · exact wv_X14_isBecome_15 (fun k e => ih k e) F k e
theorem wv_X14_isBecome {n : Nat} {g : Hp} {F : Nat} {o : Int32 × Hp} {x1 : Int32} {h : Hp} (k : DyX n xlV g h) (e : sX14_isBecome F h (n + 526) x1 = some o) : DyX n xlV g o.2 ∧ FrW (WIr n 526) h o.2 := by
  unfold sX14_isBecome at e
  exact wv_X14_isBecome_4 F k e
theorem wv_X15_isRoyal {n : Nat} {g : Hp} {F : Nat} {o : Int32 × Hp} {x2 : Int32} {h : Hp} (k : DyX n xlV g h) (e : sX15_isRoyal F h (n + 513) (n + 514) x2 = some o) : DyX n xlV g o.2 ∧ FrW (WIr n 526) h o.2 := by
  unfold sX15_isRoyal at e
  obtain ⟨o_1, eo_1, e⟩ := cl_s e
  obtain ⟨ko_1, fo_1⟩ := wv_X15_nextToken k eo_1
  obtain ⟨o_2, eo_2, e⟩ := cl_s e
  obtain ⟨ko_2, fo_2⟩ := wv_X15_manAt ko_1 eo_2
  replace fo_2 := fw_t fo_1 fo_2
  rcases br_s e with ⟨_, e⟩ | ⟨_, e⟩
  · exact ⟨(wv_X15_isRoyal_40 ko_2 e).1, fw_t fo_2 (wv_X15_isRoyal_40 ko_2 e).2⟩
  · obtain ⟨r_4, er_4, e⟩ := cl_s e
    have yr_4 := dx_xd (a := 513) (b := 526) ko_2 (by decide) er_4
    subst yr_4
    obtain ⟨r_5, er_5, e⟩ := cl_s e
    have yr_5 := dx_ed (a := 526) (b := 535) ko_2 (by decide +kernel) er_5
    subst yr_5
    replace e := (gd_s e).2
    rcases br_s e with ⟨_, e⟩ | ⟨_, e⟩
    · exact ⟨(wv_X15_isRoyal_40 ko_2 e).1, fw_t fo_2 (wv_X15_isRoyal_40 ko_2 e).2⟩
    · obtain ⟨r_8, er_8, e⟩ := cl_s e
      have yr_8 := dx_xd (a := 513) (b := 526) ko_2 (by decide) er_8
      subst yr_8
      obtain ⟨o_9, eo_9, e⟩ := cl_s e
      obtain ⟨ko_9, fo_9⟩ := wv_X14_isBecome ko_2 eo_9
      replace fo_9 := fw_t fo_2 fo_9
      rcases br_s e with ⟨_, e⟩ | ⟨_, e⟩
      · obtain ⟨r_11, er_11, e⟩ := cl_s e
        have yr_11 := dx_xd (a := 513) (b := 526) ko_9 (by decide) er_11
        subst yr_11
        obtain ⟨h_12, wh_12, e⟩ := nm_s e
        have kh_12 : DyX n xlV g h_12 := by rw [wh_12]; exact dx_wI ko_9
        have fh_12 : FrW (WIr n 526) h h_12 := by rw [wh_12]; exact fw_wI fo_9 (by unfold WIr; omega)
        obtain ⟨o_13, eo_13, e⟩ := cl_s e
        obtain ⟨ko_13, fo_13⟩ := wv_X15_goesOn kh_12 eo_13
        replace fo_13 := fw_t fh_12 fo_13
        replace e := (gd_s e).2
        rw [← Option.some.inj e]; exact ⟨ko_13, fo_13⟩
      · exact ⟨(wv_X15_isRoyal_40 ko_9 e).1, fw_t fo_9 (wv_X15_isRoyal_40 ko_9 e).2⟩
theorem wv_X15_isBecoming_51 {n : Nat} {g : Hp} {F : Nat} {o : Int32 × Hp} {h : Hp} (k : DyX n xlV g h) (e : sX15_isBecoming_51 F h = some o) : DyX n xlV g o.2 ∧ FrW (WIr n 526) h o.2 := by
  unfold sX15_isBecoming_51 at e
  rw [← Option.some.inj e]; exact ⟨k, fw_0⟩
theorem wv_X15_isBecoming_172 {n : Nat} {g : Hp} {F : Nat} {o : Int32 × Hp} {x2 : Int32} {x3 : Int32} {x4 : Int32} {x5 : Int32} {x7 : Int32} {t0 : Int32} {t1 : Int32} {k_62 : Hp → Nat → Nat → Int32 → Int32 → Int32 → Option (Int32 × Hp)} (D_62 : ∀ {h : Hp} {y3 : Int32} {y4 : Int32} {y5 : Int32}, DyX n xlV g h → k_62 h (n + 513) (n + 514) y3 y4 y5 = some o → DyX n xlV g o.2 ∧ FrW (WIr n 526) h o.2) {k_138 : Hp → Nat → Nat → Int32 → Int32 → Int32 → Int32 → Int32 → Int32 → Option (Int32 × Hp)} (D_138 : ∀ {h : Hp} {y3 : Int32} {y4 : Int32} {y5 : Int32} {y6 : Int32} {y7 : Int32} {y8 : Int32}, DyX n xlV g h → k_138 h (n + 513) (n + 514) y3 y4 y5 y6 y7 y8 = some o → DyX n xlV g o.2 ∧ FrW (WIr n 526) h o.2) {h : Hp} (k : DyX n xlV g h) (e : sX15_isBecoming_172 F k_62 k_138 h (n + 513) (n + 514) x2 x3 x4 x5 x7 t0 t1 = some o) : DyX n xlV g o.2 ∧ FrW (WIr n 526) h o.2 := by
  unfold sX15_isBecoming_172 at e
  obtain ⟨v_1, wv_1, e⟩ := nm_s e
  obtain ⟨v_2, wv_2, e⟩ := nm_s e
  exact D_138 k e
theorem wv_X15_isBecoming_138 {n : Nat} {g : Hp} {F : Nat} {o : Int32 × Hp} {k_62 : Hp → Nat → Nat → Int32 → Int32 → Int32 → Option (Int32 × Hp)} (D_62 : ∀ {h : Hp} {y3 : Int32} {y4 : Int32} {y5 : Int32}, DyX n xlV g h → k_62 h (n + 513) (n + 514) y3 y4 y5 = some o → DyX n xlV g o.2 ∧ FrW (WIr n 526) h o.2) : ∀ (f : Nat) {h : Hp} {x2 : Int32} {x3 : Int32} {x4 : Int32} {x5 : Int32} {x6 : Int32} {x7 : Int32}, DyX n xlV g h → sX15_isBecoming_138 F k_62 f h (n + 513) (n + 514) x2 x3 x4 x5 x6 x7 = some o → DyX n xlV g o.2 ∧ FrW (WIr n 526) h o.2 := by
  intro f
  induction f with
  | zero => intro h x2 x3 x4 x5 x6 x7 _ e; exact absurd e (by rw [sX15_isBecoming_138]; exact fun z => nomatch z)
  | succ f ih =>
    intro h x2 x3 x4 x5 x6 x7 k e
    rw [sX15_isBecoming_138] at e
    rcases br_s e with ⟨_, e⟩ | ⟨_, e⟩
    · rcases br_s e with ⟨_, e⟩ | ⟨_, e⟩
      · rw [← Option.some.inj e]; exact ⟨k, fw_0⟩
      · obtain ⟨r_3, er_3, e⟩ := cl_s e
        have yr_3 := dx_xd (a := 513) (b := 526) k (by decide) er_3
        subst yr_3
        obtain ⟨r_4, er_4, e⟩ := cl_s e
        have yr_4 := dx_ed (a := 526) (b := 534) k (by decide +kernel) er_4
        subst yr_4
        replace e := (gd_s e).2
        obtain ⟨h_6, wh_6, e⟩ := nm_s e
        have kh_6 : DyX n xlV g h_6 := by rw [wh_6]; exact dx_wI k
        have fh_6 : FrW (WIr n 526) h h_6 := by rw [wh_6]; exact fw_wI fw_0 (by unfold WIr; omega)
        obtain ⟨v_7, wv_7, e⟩ := nm_s e
        obtain ⟨o_8, eo_8, e⟩ := cl_s e
        obtain ⟨ko_8, fo_8⟩ := wv_X15_nextToken kh_6 eo_8
        replace fo_8 := fw_t fh_6 fo_8
        exact ⟨(D_62 ko_8 e).1, fw_t fo_8 (D_62 ko_8 e).2⟩
    · obtain ⟨r_9, er_9, e⟩ := cl_s e
      have yr_9 := dx_xd (a := 513) (b := 526) k (by decide) er_9
      subst yr_9
      obtain ⟨r_10, er_10, e⟩ := cl_s e
      have yr_10 := dx_ed (a := 526) (b := 534) k (by decide +kernel) er_10
      subst yr_10
      replace e := (gd_s e).2
      rcases br_s e with ⟨_, e⟩ | ⟨_, e⟩
      · exact wv_X15_isBecoming_172 D_62 (fun k e => ih k e) k e
      · exact wv_X15_isBecoming_172 D_62 (fun k e => ih k e) k e
theorem wv_X15_isBecoming_133 {n : Nat} {g : Hp} {F : Nat} {o : Int32 × Hp} {x2 : Int32} {x3 : Int32} {x4 : Int32} {x5 : Int32} {t0 : Int32} {k_62 : Hp → Nat → Nat → Int32 → Int32 → Int32 → Option (Int32 × Hp)} (D_62 : ∀ {h : Hp} {y3 : Int32} {y4 : Int32} {y5 : Int32}, DyX n xlV g h → k_62 h (n + 513) (n + 514) y3 y4 y5 = some o → DyX n xlV g o.2 ∧ FrW (WIr n 526) h o.2) {h : Hp} (k : DyX n xlV g h) (e : sX15_isBecoming_133 F k_62 h (n + 513) (n + 514) x2 x3 x4 x5 t0 = some o) : DyX n xlV g o.2 ∧ FrW (WIr n 526) h o.2 := by
  unfold sX15_isBecoming_133 at e
  exact wv_X15_isBecoming_138 D_62 F k e
theorem wv_X15_isBecoming_132 {n : Nat} {g : Hp} {F : Nat} {o : Int32 × Hp} {x2 : Int32} {x3 : Int32} {x4 : Int32} {x5 : Int32} {k_62 : Hp → Nat → Nat → Int32 → Int32 → Int32 → Option (Int32 × Hp)} (D_62 : ∀ {h : Hp} {y3 : Int32} {y4 : Int32} {y5 : Int32}, DyX n xlV g h → k_62 h (n + 513) (n + 514) y3 y4 y5 = some o → DyX n xlV g o.2 ∧ FrW (WIr n 526) h o.2) {h : Hp} (k : DyX n xlV g h) (e : sX15_isBecoming_132 F k_62 h (n + 513) (n + 514) x2 x3 x4 x5 = some o) : DyX n xlV g o.2 ∧ FrW (WIr n 526) h o.2 := by
  unfold sX15_isBecoming_132 at e
  exact wv_X15_isBecoming_133 D_62 k e
theorem wv_X15_isBecoming_77 {n : Nat} {g : Hp} {F : Nat} {o : Int32 × Hp} {x2 : Int32} {x3 : Int32} {x4 : Int32} {k_62 : Hp → Nat → Nat → Int32 → Int32 → Int32 → Option (Int32 × Hp)} (D_62 : ∀ {h : Hp} {y3 : Int32} {y4 : Int32} {y5 : Int32}, DyX n xlV g h → k_62 h (n + 513) (n + 514) y3 y4 y5 = some o → DyX n xlV g o.2 ∧ FrW (WIr n 526) h o.2) {h : Hp} (k : DyX n xlV g h) (e : sX15_isBecoming_77 F k_62 h (n + 513) (n + 514) x2 x3 x4 = some o) : DyX n xlV g o.2 ∧ FrW (WIr n 526) h o.2 := by
  unfold sX15_isBecoming_77 at e
  obtain ⟨o_1, eo_1, e⟩ := cl_s e
  obtain ⟨ko_1, fo_1⟩ := wv_X15_manAt k eo_1
  rcases br_s e with ⟨_, e⟩ | ⟨_, e⟩
  · exact ⟨(wv_X15_isBecoming_132 D_62 ko_1 e).1, fw_t fo_1 (wv_X15_isBecoming_132 D_62 ko_1 e).2⟩
  · rcases br_s e with ⟨_, e⟩ | ⟨_, e⟩
    · exact ⟨(wv_X15_isBecoming_132 D_62 ko_1 e).1, fw_t fo_1 (wv_X15_isBecoming_132 D_62 ko_1 e).2⟩
    · obtain ⟨r_4, er_4, e⟩ := cl_s e
      have yr_4 := dx_xd (a := 513) (b := 526) ko_1 (by decide) er_4
      subst yr_4
      rcases br_s e with ⟨_, e⟩ | ⟨_, e⟩
      · exact ⟨(wv_X15_isBecoming_132 D_62 ko_1 e).1, fw_t fo_1 (wv_X15_isBecoming_132 D_62 ko_1 e).2⟩
      · obtain ⟨r_6, er_6, e⟩ := cl_s e
        have yr_6 := dx_xd (a := 513) (b := 526) ko_1 (by decide) er_6
        subst yr_6
        obtain ⟨r_7, er_7, e⟩ := cl_s e
        have yr_7 := dx_ed (a := 526) (b := 535) ko_1 (by decide +kernel) er_7
        subst yr_7
        replace e := (gd_s e).2
        rcases br_s e with ⟨_, e⟩ | ⟨_, e⟩
        · rcases br_s e with ⟨_, e⟩ | ⟨_, e⟩
          · exact ⟨(wv_X15_isBecoming_132 D_62 ko_1 e).1, fw_t fo_1 (wv_X15_isBecoming_132 D_62 ko_1 e).2⟩
          · exact ⟨(wv_X15_isBecoming_133 D_62 ko_1 e).1, fw_t fo_1 (wv_X15_isBecoming_133 D_62 ko_1 e).2⟩
        · exact ⟨(wv_X15_isBecoming_132 D_62 ko_1 e).1, fw_t fo_1 (wv_X15_isBecoming_132 D_62 ko_1 e).2⟩
theorem wv_X15_isBecoming_254 {n : Nat} {g : Hp} {F : Nat} {o : Int32 × Hp} {t0 : Int32} {h : Hp} (k : DyX n xlV g h) (e : sX15_isBecoming_254 F h t0 (n + 526) = some o) : DyX n xlV g o.2 ∧ FrW (WIr n 526) h o.2 := by
  unfold sX15_isBecoming_254 at e
  obtain ⟨h_1, wh_1, e⟩ := nm_s e
  have kh_1 : DyX n xlV g h_1 := by rw [wh_1]; exact dx_wI k
  have fh_1 : FrW (WIr n 526) h h_1 := by rw [wh_1]; exact fw_wI fw_0 (by unfold WIr; omega)
  rw [← Option.some.inj e]; exact ⟨kh_1, fh_1⟩
theorem wv_X15_isBecoming_62 {n : Nat} {g : Hp} {F : Nat} {o : Int32 × Hp} : ∀ (f : Nat) {h : Hp} {x2 : Int32} {x3 : Int32} {x4 : Int32}, DyX n xlV g h → sX15_isBecoming_62 F f h (n + 513) (n + 514) x2 x3 x4 = some o → DyX n xlV g o.2 ∧ FrW (WIr n 526) h o.2 := by
  intro f
  induction f with
  | zero => intro h x2 x3 x4 _ e; exact absurd e (by rw [sX15_isBecoming_62]; exact fun z => nomatch z)
  | succ f ih =>
    intro h x2 x3 x4 k e
    rw [sX15_isBecoming_62] at e
    rcases br_s e with ⟨_, e⟩ | ⟨_, e⟩
    · exact wv_X15_isBecoming_77 (fun k e => ih k e) k e
    · obtain ⟨o_2, eo_2, e⟩ := cl_s e
      obtain ⟨ko_2, fo_2⟩ := wv_X15_isSign k eo_2
      rcases br_s e with ⟨_, e⟩ | ⟨_, e⟩
      · exact ⟨(wv_X15_isBecoming_77 (fun k e => ih k e) ko_2 e).1, fw_t fo_2 (wv_X15_isBecoming_77 (fun k e => ih k e) ko_2 e).2⟩
      · obtain ⟨r_4, er_4, e⟩ := cl_s e
        have yr_4 := dx_xd (a := 513) (b := 526) ko_2 (by decide) er_4
        subst yr_4
        obtain ⟨r_5, er_5, e⟩ := cl_s e
        have yr_5 := dx_ed (a := 526) (b := 535) ko_2 (by decide +kernel) er_5
        subst yr_5
        replace e := (gd_s e).2
        obtain ⟨h_7, wh_7, e⟩ := nm_s e
        have kh_7 : DyX n xlV g h_7 := by rw [wh_7]; exact dx_wI ko_2
        have fh_7 : FrW (WIr n 526) h h_7 := by rw [wh_7]; exact fw_wI fo_2 (by unfold WIr; omega)
        obtain ⟨r_8, er_8, e⟩ := cl_s e
        have yr_8 := dx_xd (a := 513) (b := 526) kh_7 (by decide) er_8
        subst yr_8
        obtain ⟨r_9, er_9, e⟩ := cl_s e
        have yr_9 := dx_xd (a := 513) (b := 526) kh_7 (by decide) er_9
        subst yr_9
        rcases br_s e with ⟨_, e⟩ | ⟨_, e⟩
        · exact ⟨(wv_X15_isBecoming_254 kh_7 e).1, fw_t fh_7 (wv_X15_isBecoming_254 kh_7 e).2⟩
        · obtain ⟨r_11, er_11, e⟩ := cl_s e
          have yr_11 := dx_xd (a := 513) (b := 526) kh_7 (by decide) er_11
          subst yr_11
          exact ⟨(wv_X15_isBecoming_254 kh_7 e).1, fw_t fh_7 (wv_X15_isBecoming_254 kh_7 e).2⟩
theorem wv_X15_isBecoming {n : Nat} {g : Hp} {F : Nat} {o : Int32 × Hp} {x2 : Int32} {h : Hp} (k : DyX n xlV g h) (e : sX15_isBecoming F h (n + 513) (n + 514) x2 = some o) : DyX n xlV g o.2 ∧ FrW (WIr n 526) h o.2 := by
  unfold sX15_isBecoming at e
  obtain ⟨o_1, eo_1, e⟩ := cl_s e
  obtain ⟨ko_1, fo_1⟩ := wv_X15_nextToken k eo_1
  obtain ⟨o_2, eo_2, e⟩ := cl_s e
  obtain ⟨ko_2, fo_2⟩ := wv_X15_manAt ko_1 eo_2
  replace fo_2 := fw_t fo_1 fo_2
  rcases br_s e with ⟨_, e⟩ | ⟨_, e⟩
  · exact ⟨(wv_X15_isBecoming_51 ko_2 e).1, fw_t fo_2 (wv_X15_isBecoming_51 ko_2 e).2⟩
  · obtain ⟨r_4, er_4, e⟩ := cl_s e
    have yr_4 := dx_xd (a := 513) (b := 526) ko_2 (by decide) er_4
    subst yr_4
    rcases br_s e with ⟨_, e⟩ | ⟨_, e⟩
    · exact ⟨(wv_X15_isBecoming_51 ko_2 e).1, fw_t fo_2 (wv_X15_isBecoming_51 ko_2 e).2⟩
    · obtain ⟨r_6, er_6, e⟩ := cl_s e
      have yr_6 := dx_xd (a := 513) (b := 526) ko_2 (by decide) er_6
      subst yr_6
      obtain ⟨r_7, er_7, e⟩ := cl_s e
      have yr_7 := dx_ed (a := 526) (b := 535) ko_2 (by decide +kernel) er_7
      subst yr_7
      replace e := (gd_s e).2
      rcases br_s e with ⟨_, e⟩ | ⟨_, e⟩
      · exact ⟨(wv_X15_isBecoming_51 ko_2 e).1, fw_t fo_2 (wv_X15_isBecoming_51 ko_2 e).2⟩
      · obtain ⟨r_10, er_10, e⟩ := cl_s e
        have yr_10 := dx_xd (a := 513) (b := 526) ko_2 (by decide) er_10
        subst yr_10
        obtain ⟨o_11, eo_11, e⟩ := cl_s e
        obtain ⟨ko_11, fo_11⟩ := wv_X14_isBecome ko_2 eo_11
        replace fo_11 := fw_t fo_2 fo_11
        rcases br_s e with ⟨_, e⟩ | ⟨_, e⟩
        · obtain ⟨o_13, eo_13, e⟩ := cl_s e
          obtain ⟨ko_13, fo_13⟩ := wv_X15_nextToken ko_11 eo_13
          replace fo_13 := fw_t fo_11 fo_13
          exact ⟨(wv_X15_isBecoming_62 F ko_13 e).1, fw_t fo_13 (wv_X15_isBecoming_62 F ko_13 e).2⟩
        · exact ⟨(wv_X15_isBecoming_51 ko_11 e).1, fw_t fo_11 (wv_X15_isBecoming_51 ko_11 e).2⟩
theorem wv_X15_isMan_48 {n : Nat} {g : Hp} {F : Nat} {o : Int32 × Hp} {h : Hp} (k : DyX n xlV g h) (e : sX15_isMan_48 F h = some o) : DyX n xlV g o.2 ∧ FrW (WIr n 526) h o.2 := by
  unfold sX15_isMan_48 at e
  rw [← Option.some.inj e]; exact ⟨k, fw_0⟩
theorem wv_X15_flagAt_88 {n : Nat} {g : Hp} {F : Nat} {o : Int32 × Hp} {t0 : Int32} {h : Hp} (k : DyX n xlV g h) (e : sX15_flagAt_88 F h t0 = some o) : DyX n xlV g o.2 ∧ FrW (WIr n 526) h o.2 := by
  unfold sX15_flagAt_88 at e
  rw [← Option.some.inj e]; exact ⟨k, fw_0⟩
theorem wv_X15_flagAt {n : Nat} {g : Hp} {F : Nat} {o : Int32 × Hp} {h : Hp} (k : DyX n xlV g h) (e : sX15_flagAt F h (n + 513) (n + 514) = some o) : DyX n xlV g o.2 ∧ FrW (WIr n 526) h o.2 := by
  unfold sX15_flagAt at e
  obtain ⟨o_1, eo_1, e⟩ := cl_s e
  obtain ⟨ko_1, fo_1⟩ := wv_X15_isWord k eo_1
  rcases br_s e with ⟨_, e⟩ | ⟨_, e⟩
  · obtain ⟨o_3, eo_3, e⟩ := cl_s e
    obtain ⟨ko_3, fo_3⟩ := wv_X15_isWord ko_1 eo_3
    replace fo_3 := fw_t fo_1 fo_3
    rcases br_s e with ⟨_, e⟩ | ⟨_, e⟩
    · obtain ⟨o_5, eo_5, e⟩ := cl_s e
      obtain ⟨ko_5, fo_5⟩ := wv_X15_isWord ko_3 eo_5
      replace fo_5 := fw_t fo_3 fo_5
      rcases br_s e with ⟨_, e⟩ | ⟨_, e⟩
      · obtain ⟨o_7, eo_7, e⟩ := cl_s e
        obtain ⟨ko_7, fo_7⟩ := wv_X15_isWord ko_5 eo_7
        replace fo_7 := fw_t fo_5 fo_7
        rcases br_s e with ⟨_, e⟩ | ⟨_, e⟩
        · obtain ⟨o_9, eo_9, e⟩ := cl_s e
          obtain ⟨ko_9, fo_9⟩ := wv_X15_isWord ko_7 eo_9
          replace fo_9 := fw_t fo_7 fo_9
          rcases br_s e with ⟨_, e⟩ | ⟨_, e⟩
          · obtain ⟨o_11, eo_11, e⟩ := cl_s e
            obtain ⟨ko_11, fo_11⟩ := wv_X15_isWord ko_9 eo_11
            replace fo_11 := fw_t fo_9 fo_11
            rcases br_s e with ⟨_, e⟩ | ⟨_, e⟩
            · exact ⟨(wv_X15_flagAt_88 ko_11 e).1, fw_t fo_11 (wv_X15_flagAt_88 ko_11 e).2⟩
            · exact ⟨(wv_X15_flagAt_88 ko_11 e).1, fw_t fo_11 (wv_X15_flagAt_88 ko_11 e).2⟩
          · exact ⟨(wv_X15_flagAt_88 ko_9 e).1, fw_t fo_9 (wv_X15_flagAt_88 ko_9 e).2⟩
        · exact ⟨(wv_X15_flagAt_88 ko_7 e).1, fw_t fo_7 (wv_X15_flagAt_88 ko_7 e).2⟩
      · exact ⟨(wv_X15_flagAt_88 ko_5 e).1, fw_t fo_5 (wv_X15_flagAt_88 ko_5 e).2⟩
    · exact ⟨(wv_X15_flagAt_88 ko_3 e).1, fw_t fo_3 (wv_X15_flagAt_88 ko_3 e).2⟩
  · exact ⟨(wv_X15_flagAt_88 ko_1 e).1, fw_t fo_1 (wv_X15_flagAt_88 ko_1 e).2⟩
theorem wv_X15_isStep_68 {n : Nat} {g : Hp} {F : Nat} {o : Int32 × Hp} {h : Hp} (k : DyX n xlV g h) (e : sX15_isStep_68 F h = some o) : DyX n xlV g o.2 ∧ FrW (WIr n 526) h o.2 := by
  unfold sX15_isStep_68 at e
  rw [← Option.some.inj e]; exact ⟨k, fw_0⟩
theorem wv_X15_isStep_70 {n : Nat} {g : Hp} {F : Nat} {o : Int32 × Hp} {x2 : Int32} {x3 : Int32} {x6 : Int32} {k_3 : Hp → Nat → Nat → Int32 → Int32 → Int32 → Option (Int32 × Hp)} (D_3 : ∀ {h : Hp} {y3 : Int32} {y4 : Int32} {y5 : Int32}, DyX n xlV g h → k_3 h (n + 513) (n + 514) y3 y4 y5 = some o → DyX n xlV g o.2 ∧ FrW (WIr n 526) h o.2) {h : Hp} (k : DyX n xlV g h) (e : sX15_isStep_70 F k_3 h (n + 513) (n + 514) x2 x3 x6 = some o) : DyX n xlV g o.2 ∧ FrW (WIr n 526) h o.2 := by
  unfold sX15_isStep_70 at e
  obtain ⟨o_1, eo_1, e⟩ := cl_s e
  obtain ⟨ko_1, fo_1⟩ := wv_X15_nextToken k eo_1
  exact ⟨(D_3 ko_1 e).1, fw_t fo_1 (D_3 ko_1 e).2⟩
theorem wv_X15_isStep_52 {n : Nat} {g : Hp} {F : Nat} {o : Int32 × Hp} {x2 : Int32} {x3 : Int32} {x6 : Int32} {k_3 : Hp → Nat → Nat → Int32 → Int32 → Int32 → Option (Int32 × Hp)} (D_3 : ∀ {h : Hp} {y3 : Int32} {y4 : Int32} {y5 : Int32}, DyX n xlV g h → k_3 h (n + 513) (n + 514) y3 y4 y5 = some o → DyX n xlV g o.2 ∧ FrW (WIr n 526) h o.2) {h : Hp} (k : DyX n xlV g h) (e : sX15_isStep_52 F k_3 h (n + 513) (n + 514) x2 x3 x6 = some o) : DyX n xlV g o.2 ∧ FrW (WIr n 526) h o.2 := by
  unfold sX15_isStep_52 at e
  rcases br_s e with ⟨_, e⟩ | ⟨_, e⟩
  · exact wv_X15_isStep_70 D_3 k e
  · rcases br_s e with ⟨_, e⟩ | ⟨_, e⟩
    · exact wv_X15_isStep_70 D_3 k e
    · exact wv_X15_isStep_68 k e
theorem wv_X15_isStep_156 {n : Nat} {g : Hp} {F : Nat} {o : Int32 × Hp} {h : Hp} (k : DyX n xlV g h) (e : sX15_isStep_156 F h = some o) : DyX n xlV g o.2 ∧ FrW (WIr n 526) h o.2 := by
  unfold sX15_isStep_156 at e
  rw [← Option.some.inj e]; exact ⟨k, fw_0⟩
theorem wv_X15_isStep_296 {n : Nat} {g : Hp} {F : Nat} {o : Int32 × Hp} {h : Hp} (k : DyX n xlV g h) (e : sX15_isStep_296 F h = some o) : DyX n xlV g o.2 ∧ FrW (WIr n 526) h o.2 := by
  unfold sX15_isStep_296 at e
  rw [← Option.some.inj e]; exact ⟨k, fw_0⟩
theorem wv_X15_isStep_244 {n : Nat} {g : Hp} {F : Nat} {o : Int32 × Hp} {x2 : Int32} {x3 : Int32} {h : Hp} (k : DyX n xlV g h) (e : sX15_isStep_244 F h (n + 513) (n + 514) x2 x3 = some o) : DyX n xlV g o.2 ∧ FrW (WIr n 526) h o.2 := by
  unfold sX15_isStep_244 at e
  obtain ⟨o_1, eo_1, e⟩ := cl_s e
  obtain ⟨ko_1, fo_1⟩ := wv_X15_isWord k eo_1
  rcases br_s e with ⟨_, e⟩ | ⟨_, e⟩
  · exact ⟨(wv_X15_isStep_296 ko_1 e).1, fw_t fo_1 (wv_X15_isStep_296 ko_1 e).2⟩
  · obtain ⟨o_3, eo_3, e⟩ := cl_s e
    obtain ⟨ko_3, fo_3⟩ := wv_X15_nextToken ko_1 eo_3
    replace fo_3 := fw_t fo_1 fo_3
    obtain ⟨r_4, er_4, e⟩ := cl_s e
    have yr_4 := dx_xd (a := 513) (b := 526) ko_3 (by decide) er_4
    subst yr_4
    obtain ⟨o_5, eo_5, e⟩ := cl_s e
    obtain ⟨ko_5, fo_5⟩ := wv_X15_isNumber ko_3 eo_5
    replace fo_5 := fw_t fo_3 fo_5
    rcases br_s e with ⟨_, e⟩ | ⟨_, e⟩
    · rw [← Option.some.inj e]; exact ⟨ko_5, fo_5⟩
    · obtain ⟨r_7, er_7, e⟩ := cl_s e
      have yr_7 := dx_xd (a := 513) (b := 526) ko_5 (by decide) er_7
      subst yr_7
      obtain ⟨r_8, er_8, e⟩ := cl_s e
      have yr_8 := dx_ed (a := 526) (b := 533) ko_5 (by decide +kernel) er_8
      subst yr_8
      replace e := (gd_s e).2
      obtain ⟨h_10, wh_10, e⟩ := nm_s e
      have kh_10 : DyX n xlV g h_10 := by rw [wh_10]; exact dx_wI ko_5
      have fh_10 : FrW (WIr n 526) h h_10 := by rw [wh_10]; exact fw_wI fo_5 (by unfold WIr; omega)
      obtain ⟨o_11, eo_11, e⟩ := cl_s e
      obtain ⟨ko_11, fo_11⟩ := wv_X15_nextToken kh_10 eo_11
      replace fo_11 := fw_t fh_10 fo_11
      exact ⟨(wv_X15_isStep_296 ko_11 e).1, fw_t fo_11 (wv_X15_isStep_296 ko_11 e).2⟩
theorem wv_X15_isStep_158 {n : Nat} {g : Hp} {F : Nat} {o : Int32 × Hp} {x2 : Int32} {x3 : Int32} {h : Hp} (k : DyX n xlV g h) (e : sX15_isStep_158 F h (n + 513) (n + 514) x2 x3 = some o) : DyX n xlV g o.2 ∧ FrW (WIr n 526) h o.2 := by
  unfold sX15_isStep_158 at e
  obtain ⟨r_1, er_1, e⟩ := cl_s e
  have yr_1 := dx_xd (a := 513) (b := 526) k (by decide) er_1
  subst yr_1
  obtain ⟨r_2, er_2, e⟩ := cl_s e
  have yr_2 := dx_ed (a := 526) (b := 531) k (by decide +kernel) er_2
  subst yr_2
  replace e := (gd_s e).2
  obtain ⟨h_4, wh_4, e⟩ := nm_s e
  have kh_4 : DyX n xlV g h_4 := by rw [wh_4]; exact dx_wI k
  have fh_4 : FrW (WIr n 526) h h_4 := by rw [wh_4]; exact fw_wI fw_0 (by unfold WIr; omega)
  obtain ⟨r_5, er_5, e⟩ := cl_s e
  have yr_5 := dx_xd (a := 513) (b := 526) kh_4 (by decide) er_5
  subst yr_5
  obtain ⟨r_6, er_6, e⟩ := cl_s e
  have yr_6 := dx_ed (a := 526) (b := 532) kh_4 (by decide +kernel) er_6
  subst yr_6
  replace e := (gd_s e).2
  obtain ⟨h_8, wh_8, e⟩ := nm_s e
  have kh_8 : DyX n xlV g h_8 := by rw [wh_8]; exact dx_wI kh_4
  have fh_8 : FrW (WIr n 526) h h_8 := by rw [wh_8]; exact fw_wI fh_4 (by unfold WIr; omega)
  obtain ⟨r_9, er_9, e⟩ := cl_s e
  have yr_9 := dx_xd (a := 513) (b := 526) kh_8 (by decide) er_9
  subst yr_9
  obtain ⟨r_10, er_10, e⟩ := cl_s e
  have yr_10 := dx_ed (a := 526) (b := 533) kh_8 (by decide +kernel) er_10
  subst yr_10
  replace e := (gd_s e).2
  obtain ⟨h_12, wh_12, e⟩ := nm_s e
  have kh_12 : DyX n xlV g h_12 := by rw [wh_12]; exact dx_wI kh_8
  have fh_12 : FrW (WIr n 526) h h_12 := by rw [wh_12]; exact fw_wI fh_8 (by unfold WIr; omega)
  obtain ⟨o_13, eo_13, e⟩ := cl_s e
  obtain ⟨ko_13, fo_13⟩ := wv_X15_nextToken kh_12 eo_13
  replace fo_13 := fw_t fh_12 fo_13
  obtain ⟨o_14, eo_14, e⟩ := cl_s e
  obtain ⟨ko_14, fo_14⟩ := wv_X15_isWord ko_13 eo_14
  replace fo_14 := fw_t fo_13 fo_14
  rcases br_s e with ⟨_, e⟩ | ⟨_, e⟩
  · exact ⟨(wv_X15_isStep_244 ko_14 e).1, fw_t fo_14 (wv_X15_isStep_244 ko_14 e).2⟩
  · obtain ⟨o_16, eo_16, e⟩ := cl_s e
    obtain ⟨ko_16, fo_16⟩ := wv_X15_nextToken ko_14 eo_16
    replace fo_16 := fw_t fo_14 fo_16
    obtain ⟨o_17, eo_17, e⟩ := cl_s e
    obtain ⟨ko_17, fo_17⟩ := wv_X15_isNumber ko_16 eo_17
    replace fo_17 := fw_t fo_16 fo_17
    rcases br_s e with ⟨_, e⟩ | ⟨_, e⟩
    · rw [← Option.some.inj e]; exact ⟨ko_17, fo_17⟩
    · obtain ⟨r_19, er_19, e⟩ := cl_s e
      have yr_19 := dx_xd (a := 513) (b := 526) ko_17 (by decide) er_19
      subst yr_19
      obtain ⟨r_20, er_20, e⟩ := cl_s e
      have yr_20 := dx_ed (a := 526) (b := 532) ko_17 (by decide +kernel) er_20
      subst yr_20
      replace e := (gd_s e).2
      obtain ⟨h_22, wh_22, e⟩ := nm_s e
      have kh_22 : DyX n xlV g h_22 := by rw [wh_22]; exact dx_wI ko_17
      have fh_22 : FrW (WIr n 526) h h_22 := by rw [wh_22]; exact fw_wI fo_17 (by unfold WIr; omega)
      obtain ⟨o_23, eo_23, e⟩ := cl_s e
      obtain ⟨ko_23, fo_23⟩ := wv_X15_nextToken kh_22 eo_23
      replace fo_23 := fw_t fh_22 fo_23
      exact ⟨(wv_X15_isStep_244 ko_23 e).1, fw_t fo_23 (wv_X15_isStep_244 ko_23 e).2⟩
theorem wv_X15_isStep_3 {n : Nat} {g : Hp} {F : Nat} {o : Int32 × Hp} : ∀ (f : Nat) {h : Hp} {x2 : Int32} {x3 : Int32} {x4 : Int32}, DyX n xlV g h → sX15_isStep_3 F f h (n + 513) (n + 514) x2 x3 x4 = some o → DyX n xlV g o.2 ∧ FrW (WIr n 526) h o.2 := by
  intro f
  induction f with
  | zero => intro h x2 x3 x4 _ e; exact absurd e (by rw [sX15_isStep_3]; exact fun z => nomatch z)
  | succ f ih =>
    intro h x2 x3 x4 k e
    rw [sX15_isStep_3] at e
    rcases br_s e with ⟨_, e⟩ | ⟨_, e⟩
    · obtain ⟨o_20, eo_20, e⟩ := cl_s e
      obtain ⟨ko_20, fo_20⟩ := wv_X15_flagAt k eo_20
      obtain ⟨v_21, wv_21, e⟩ := nm_s e
      rcases br_s e with ⟨_, e⟩ | ⟨_, e⟩
      · exact ⟨(wv_X15_isStep_68 ko_20 e).1, fw_t fo_20 (wv_X15_isStep_68 ko_20 e).2⟩
      · rcases br_s e with ⟨_, e⟩ | ⟨_, e⟩
        · rcases br_s e with ⟨_, e⟩ | ⟨_, e⟩
          · exact ⟨(wv_X15_isStep_52 (fun k e => ih k e) ko_20 e).1, fw_t fo_20 (wv_X15_isStep_52 (fun k e => ih k e) ko_20 e).2⟩
          · rcases br_s e with ⟨_, e⟩ | ⟨_, e⟩
            · exact ⟨(wv_X15_isStep_52 (fun k e => ih k e) ko_20 e).1, fw_t fo_20 (wv_X15_isStep_52 (fun k e => ih k e) ko_20 e).2⟩
            · exact ⟨(wv_X15_isStep_68 ko_20 e).1, fw_t fo_20 (wv_X15_isStep_68 ko_20 e).2⟩
        · exact ⟨(wv_X15_isStep_68 ko_20 e).1, fw_t fo_20 (wv_X15_isStep_68 ko_20 e).2⟩
    · obtain ⟨r_2, er_2, e⟩ := cl_s e
      have yr_2 := dx_xd (a := 513) (b := 526) k (by decide) er_2
      subst yr_2
      obtain ⟨r_3, er_3, e⟩ := cl_s e
      have yr_3 := dx_ed (a := 526) (b := 529) k (by decide +kernel) er_3
      subst yr_3
      replace e := (gd_s e).2
      obtain ⟨h_5, wh_5, e⟩ := nm_s e
      have kh_5 : DyX n xlV g h_5 := by rw [wh_5]; exact dx_wI k
      have fh_5 : FrW (WIr n 526) h h_5 := by rw [wh_5]; exact fw_wI fw_0 (by unfold WIr; omega)
      obtain ⟨o_6, eo_6, e⟩ := cl_s e
      obtain ⟨ko_6, fo_6⟩ := wv_X15_isNumber kh_5 eo_6
      replace fo_6 := fw_t fh_5 fo_6
      rcases br_s e with ⟨_, e⟩ | ⟨_, e⟩
      · rw [← Option.some.inj e]; exact ⟨ko_6, fo_6⟩
      · obtain ⟨r_8, er_8, e⟩ := cl_s e
        have yr_8 := dx_xd (a := 513) (b := 526) ko_6 (by decide) er_8
        subst yr_8
        obtain ⟨r_9, er_9, e⟩ := cl_s e
        have yr_9 := dx_ed (a := 526) (b := 530) ko_6 (by decide +kernel) er_9
        subst yr_9
        replace e := (gd_s e).2
        obtain ⟨h_11, wh_11, e⟩ := nm_s e
        have kh_11 : DyX n xlV g h_11 := by rw [wh_11]; exact dx_wI ko_6
        have fh_11 : FrW (WIr n 526) h h_11 := by rw [wh_11]; exact fw_wI fo_6 (by unfold WIr; omega)
        obtain ⟨o_12, eo_12, e⟩ := cl_s e
        obtain ⟨ko_12, fo_12⟩ := wv_X15_nextToken kh_11 eo_12
        replace fo_12 := fw_t fh_11 fo_12
        obtain ⟨o_13, eo_13, e⟩ := cl_s e
        obtain ⟨ko_13, fo_13⟩ := wv_X15_isNumber ko_12 eo_13
        replace fo_13 := fw_t fo_12 fo_13
        rcases br_s e with ⟨_, e⟩ | ⟨_, e⟩
        · exact ⟨(wv_X15_isStep_156 ko_13 e).1, fw_t fo_13 (wv_X15_isStep_156 ko_13 e).2⟩
        · rcases br_s e with ⟨_, e⟩ | ⟨_, e⟩
          · obtain ⟨r_16, er_16, e⟩ := cl_s e
            have yr_16 := dx_xd (a := 513) (b := 526) ko_13 (by decide) er_16
            subst yr_16
            obtain ⟨r_17, er_17, e⟩ := cl_s e
            have yr_17 := dx_ed (a := 526) (b := 530) ko_13 (by decide +kernel) er_17
            subst yr_17
            replace e := (gd_s e).2
            rcases br_s e with ⟨_, e⟩ | ⟨_, e⟩
            · exact ⟨(wv_X15_isStep_156 ko_13 e).1, fw_t fo_13 (wv_X15_isStep_156 ko_13 e).2⟩
            · exact ⟨(wv_X15_isStep_158 ko_13 e).1, fw_t fo_13 (wv_X15_isStep_158 ko_13 e).2⟩
          · exact ⟨(wv_X15_isStep_158 ko_13 e).1, fw_t fo_13 (wv_X15_isStep_158 ko_13 e).2⟩
theorem wv_X15_isStep {n : Nat} {g : Hp} {F : Nat} {o : Int32 × Hp} {x2 : Int32} {x3 : Int32} {h : Hp} (k : DyX n xlV g h) (e : sX15_isStep F h (n + 513) (n + 514) x2 x3 = some o) : DyX n xlV g o.2 ∧ FrW (WIr n 526) h o.2 := by
  unfold sX15_isStep at e
  exact wv_X15_isStep_3 F k e
theorem wv_X15_isMan_154 {n : Nat} {g : Hp} {F : Nat} {o : Int32 × Hp} {h : Hp} (k : DyX n xlV g h) (e : sX15_isMan_154 F h = some o) : DyX n xlV g o.2 ∧ FrW (WIr n 526) h o.2 := by
  unfold sX15_isMan_154 at e
  rw [← Option.some.inj e]; exact ⟨k, fw_0⟩
theorem wv_X15_isMan_92 {n : Nat} {g : Hp} {F : Nat} {o : Int32 × Hp} : ∀ (f : Nat) {h : Hp} {x2 : Int32} {x3 : Int32}, DyX n xlV g h → sX15_isMan_92 F f h (n + 513) (n + 514) x2 x3 = some o → DyX n xlV g o.2 ∧ FrW (WIr n 526) h o.2 := by
  intro f
  induction f with
  | zero => intro h x2 x3 _ e; exact absurd e (by rw [sX15_isMan_92]; exact fun z => nomatch z)
  | succ f ih =>
    intro h x2 x3 k e
    rw [sX15_isMan_92] at e
    obtain ⟨r_1, er_1, e⟩ := cl_s e
    have yr_1 := dx_xd (a := 513) (b := 526) k (by decide) er_1
    subst yr_1
    obtain ⟨r_2, er_2, e⟩ := cl_s e
    have yr_2 := dx_ed (a := 526) (b := 528) k (by decide +kernel) er_2
    subst yr_2
    replace e := (gd_s e).2
    obtain ⟨o_4, eo_4, e⟩ := cl_s e
    obtain ⟨ko_4, fo_4⟩ := wv_X15_isStep k eo_4
    rcases br_s e with ⟨_, e⟩ | ⟨_, e⟩
    · rw [← Option.some.inj e]; exact ⟨ko_4, fo_4⟩
    · obtain ⟨r_6, er_6, e⟩ := cl_s e
      have yr_6 := dx_xd (a := 513) (b := 526) ko_4 (by decide) er_6
      subst yr_6
      obtain ⟨r_7, er_7, e⟩ := cl_s e
      have yr_7 := dx_ed (a := 526) (b := 528) ko_4 (by decide +kernel) er_7
      subst yr_7
      replace e := (gd_s e).2
      replace e := (gd_s e).2
      obtain ⟨h_10, wh_10, e⟩ := nm_s e
      have kh_10 : DyX n xlV g h_10 := by rw [wh_10]; exact dx_wI ko_4
      have fh_10 : FrW (WIr n 526) h h_10 := by rw [wh_10]; exact fw_wI fo_4 (by unfold WIr; omega)
      obtain ⟨o_11, eo_11, e⟩ := cl_s e
      obtain ⟨ko_11, fo_11⟩ := wv_X15_isSign kh_10 eo_11
      replace fo_11 := fw_t fh_10 fo_11
      rcases br_s e with ⟨_, e⟩ | ⟨_, e⟩
      · exact ⟨(wv_X15_isMan_154 ko_11 e).1, fw_t fo_11 (wv_X15_isMan_154 ko_11 e).2⟩
      · obtain ⟨r_13, er_13, e⟩ := cl_s e
        have yr_13 := dx_xd (a := 513) (b := 526) ko_11 (by decide) er_13
        subst yr_13
        obtain ⟨r_14, er_14, e⟩ := cl_s e
        have yr_14 := dx_ed (a := 526) (b := 528) ko_11 (by decide +kernel) er_14
        subst yr_14
        replace e := (gd_s e).2
        rcases br_s e with ⟨_, e⟩ | ⟨_, e⟩
        · exact ⟨(wv_X15_isMan_154 ko_11 e).1, fw_t fo_11 (wv_X15_isMan_154 ko_11 e).2⟩
        · obtain ⟨o_17, eo_17, e⟩ := cl_s e
          obtain ⟨ko_17, fo_17⟩ := wv_X15_nextToken ko_11 eo_17
          replace fo_17 := fw_t fo_11 fo_17
          exact ⟨(ih ko_17 e).1, fw_t fo_17 (ih ko_17 e).2⟩
theorem wv_X15_isMan {n : Nat} {g : Hp} {F : Nat} {o : Int32 × Hp} {x2 : Int32} {h : Hp} (k : DyX n xlV g h) (e : sX15_isMan F h (n + 513) (n + 514) x2 = some o) : DyX n xlV g o.2 ∧ FrW (WIr n 526) h o.2 := by
  unfold sX15_isMan at e
  obtain ⟨o_1, eo_1, e⟩ := cl_s e
  obtain ⟨ko_1, fo_1⟩ := wv_X15_nextToken k eo_1
  rcases br_s e with ⟨_, e⟩ | ⟨_, e⟩
  · rcases br_s e with ⟨_, e⟩ | ⟨_, e⟩
    · obtain ⟨o_4, eo_4, e⟩ := cl_s e
      obtain ⟨ko_4, fo_4⟩ := wv_X15_manAt ko_1 eo_4
      replace fo_4 := fw_t fo_1 fo_4
      rcases br_s e with ⟨_, e⟩ | ⟨_, e⟩
      · obtain ⟨r_6, er_6, e⟩ := cl_s e
        have yr_6 := dx_xd (a := 513) (b := 526) ko_4 (by decide) er_6
        subst yr_6
        rcases br_s e with ⟨_, e⟩ | ⟨_, e⟩
        · exact ⟨(wv_X15_isMan_48 ko_4 e).1, fw_t fo_4 (wv_X15_isMan_48 ko_4 e).2⟩
        · obtain ⟨r_8, er_8, e⟩ := cl_s e
          have yr_8 := dx_xd (a := 513) (b := 526) ko_4 (by decide) er_8
          subst yr_8
          obtain ⟨v_9, wv_9, e⟩ := nm_s e
          obtain ⟨r_10, er_10, e⟩ := cl_s e
          have yr_10 := dx_xd (a := 513) (b := 526) ko_4 (by decide) er_10
          subst yr_10
          obtain ⟨r_11, er_11, e⟩ := cl_s e
          have yr_11 := dx_ed (a := 526) (b := 527) ko_4 (by decide +kernel) er_11
          subst yr_11
          replace e := (gd_s e).2
          replace e := (gd_s e).2
          obtain ⟨h_14, wh_14, e⟩ := nm_s e
          have kh_14 : DyX n xlV g h_14 := by rw [wh_14]; exact dx_wI ko_4
          have fh_14 : FrW (WIr n 526) h h_14 := by rw [wh_14]; exact fw_wI fo_4 (by unfold WIr; omega)
          obtain ⟨r_15, er_15, e⟩ := cl_s e
          have yr_15 := dx_xd (a := 513) (b := 526) kh_14 (by decide) er_15
          subst yr_15
          obtain ⟨h_16, wh_16, e⟩ := nm_s e
          have kh_16 : DyX n xlV g h_16 := by rw [wh_16]; exact dx_wI kh_14
          have fh_16 : FrW (WIr n 526) h h_16 := by rw [wh_16]; exact fw_wI fh_14 (by unfold WIr; omega)
          obtain ⟨o_17, eo_17, e⟩ := cl_s e
          obtain ⟨ko_17, fo_17⟩ := wv_X15_nextToken kh_16 eo_17
          replace fo_17 := fw_t fh_16 fo_17
          exact ⟨(wv_X15_isMan_92 F ko_17 e).1, fw_t fo_17 (wv_X15_isMan_92 F ko_17 e).2⟩
      · exact ⟨(wv_X15_isMan_48 ko_4 e).1, fw_t fo_4 (wv_X15_isMan_48 ko_4 e).2⟩
    · exact ⟨(wv_X15_isMan_48 ko_1 e).1, fw_t fo_1 (wv_X15_isMan_48 ko_1 e).2⟩
  · exact ⟨(wv_X15_isMan_48 ko_1 e).1, fw_t fo_1 (wv_X15_isMan_48 ko_1 e).2⟩
theorem wv_X15_isSentence {n : Nat} {g : Hp} {F : Nat} {o : Int32 × Hp} {x2 : Int32} {h : Hp} (k : DyX n xlV g h) (e : sX15_isSentence F h (n + 513) (n + 514) x2 = some o) : DyX n xlV g o.2 ∧ FrW (WIr n 526) h o.2 := by
  unfold sX15_isSentence at e
  obtain ⟨o_1, eo_1, e⟩ := cl_s e
  obtain ⟨ko_1, fo_1⟩ := wv_X15_isWord k eo_1
  rcases br_s e with ⟨_, e⟩ | ⟨_, e⟩
  · obtain ⟨o_3, eo_3, e⟩ := cl_s e
    obtain ⟨ko_3, fo_3⟩ := wv_X15_isWord ko_1 eo_3
    replace fo_3 := fw_t fo_1 fo_3
    rcases br_s e with ⟨_, e⟩ | ⟨_, e⟩
    · obtain ⟨o_5, eo_5, e⟩ := cl_s e
      obtain ⟨ko_5, fo_5⟩ := wv_X15_isWord ko_3 eo_5
      replace fo_5 := fw_t fo_3 fo_5
      rcases br_s e with ⟨_, e⟩ | ⟨_, e⟩
      · obtain ⟨o_7, eo_7, e⟩ := cl_s e
        obtain ⟨ko_7, fo_7⟩ := wv_X15_isWord ko_5 eo_7
        replace fo_7 := fw_t fo_5 fo_7
        rcases br_s e with ⟨_, e⟩ | ⟨_, e⟩
        · obtain ⟨o_9, eo_9, e⟩ := cl_s e
          obtain ⟨ko_9, fo_9⟩ := wv_X15_isWord ko_7 eo_9
          replace fo_9 := fw_t fo_7 fo_9
          rcases br_s e with ⟨_, e⟩ | ⟨_, e⟩
          · obtain ⟨o_11, eo_11, e⟩ := cl_s e
            obtain ⟨ko_11, fo_11⟩ := wv_X15_isWord ko_9 eo_11
            replace fo_11 := fw_t fo_9 fo_11
            rcases br_s e with ⟨_, e⟩ | ⟨_, e⟩
            · obtain ⟨o_13, eo_13, e⟩ := cl_s e
              obtain ⟨ko_13, fo_13⟩ := wv_X15_isWord ko_11 eo_13
              replace fo_13 := fw_t fo_11 fo_13
              rcases br_s e with ⟨_, e⟩ | ⟨_, e⟩
              · obtain ⟨o_15, eo_15, e⟩ := cl_s e
                obtain ⟨ko_15, fo_15⟩ := wv_X15_isWord ko_13 eo_15
                replace fo_15 := fw_t fo_13 fo_15
                rcases br_s e with ⟨_, e⟩ | ⟨_, e⟩
                · obtain ⟨o_17, eo_17, e⟩ := cl_s e
                  obtain ⟨ko_17, fo_17⟩ := wv_X15_isWord ko_15 eo_17
                  replace fo_17 := fw_t fo_15 fo_17
                  rcases br_s e with ⟨_, e⟩ | ⟨_, e⟩
                  · obtain ⟨o_19, eo_19, e⟩ := cl_s e
                    obtain ⟨ko_19, fo_19⟩ := wv_X15_isWord ko_17 eo_19
                    replace fo_19 := fw_t fo_17 fo_19
                    rcases br_s e with ⟨_, e⟩ | ⟨_, e⟩
                    · obtain ⟨o_21, eo_21, e⟩ := cl_s e
                      obtain ⟨ko_21, fo_21⟩ := wv_X15_isWord ko_19 eo_21
                      replace fo_21 := fw_t fo_19 fo_21
                      rcases br_s e with ⟨_, e⟩ | ⟨_, e⟩
                      · obtain ⟨o_23, eo_23, e⟩ := cl_s e
                        obtain ⟨ko_23, fo_23⟩ := wv_X15_isWord ko_21 eo_23
                        replace fo_23 := fw_t fo_21 fo_23
                        rcases br_s e with ⟨_, e⟩ | ⟨_, e⟩
                        · exact ⟨(wv_X15_isSentence_400 ko_23 e).1, fw_t fo_23 (wv_X15_isSentence_400 ko_23 e).2⟩
                        · obtain ⟨o_25, eo_25, e⟩ := cl_s e
                          obtain ⟨ko_25, fo_25⟩ := wv_X15_isOnce ko_23 eo_25
                          replace fo_25 := fw_t fo_23 fo_25
                          rcases br_s e with ⟨_, e⟩ | ⟨_, e⟩
                          · exact ⟨(wv_X15_isSentence_400 ko_25 e).1, fw_t fo_25 (wv_X15_isSentence_400 ko_25 e).2⟩
                          · obtain ⟨o_27, eo_27, e⟩ := cl_s e
                            obtain ⟨ko_27, fo_27⟩ := wv_X15_isOutcome ko_25 eo_27
                            replace fo_27 := fw_t fo_25 fo_27
                            rcases br_s e with ⟨_, e⟩ | ⟨_, e⟩
                            · exact ⟨(wv_X15_isSentence_400 ko_27 e).1, fw_t fo_27 (wv_X15_isSentence_400 ko_27 e).2⟩
                            · exact ⟨(wv_X15_isSentence_401 ko_27 e).1, fw_t fo_27 (wv_X15_isSentence_401 ko_27 e).2⟩
                      · obtain ⟨o_29, eo_29, e⟩ := cl_s e
                        obtain ⟨ko_29, fo_29⟩ := wv_X15_isOnce ko_21 eo_29
                        replace fo_29 := fw_t fo_21 fo_29
                        rcases br_s e with ⟨_, e⟩ | ⟨_, e⟩
                        · exact ⟨(wv_X15_isSentence_365 ko_29 e).1, fw_t fo_29 (wv_X15_isSentence_365 ko_29 e).2⟩
                        · obtain ⟨o_31, eo_31, e⟩ := cl_s e
                          obtain ⟨ko_31, fo_31⟩ := wv_X15_isOutcome ko_29 eo_31
                          replace fo_31 := fw_t fo_29 fo_31
                          rcases br_s e with ⟨_, e⟩ | ⟨_, e⟩
                          · exact ⟨(wv_X15_isSentence_365 ko_31 e).1, fw_t fo_31 (wv_X15_isSentence_365 ko_31 e).2⟩
                          · exact ⟨(wv_X15_isSentence_366 ko_31 e).1, fw_t fo_31 (wv_X15_isSentence_366 ko_31 e).2⟩
                    · obtain ⟨o_33, eo_33, e⟩ := cl_s e
                      obtain ⟨ko_33, fo_33⟩ := wv_X15_isOnce ko_19 eo_33
                      replace fo_33 := fw_t fo_19 fo_33
                      rcases br_s e with ⟨_, e⟩ | ⟨_, e⟩
                      · exact ⟨(wv_X15_isSentence_330 ko_33 e).1, fw_t fo_33 (wv_X15_isSentence_330 ko_33 e).2⟩
                      · obtain ⟨o_35, eo_35, e⟩ := cl_s e
                        obtain ⟨ko_35, fo_35⟩ := wv_X15_isHill ko_33 eo_35
                        replace fo_35 := fw_t fo_33 fo_35
                        rcases br_s e with ⟨_, e⟩ | ⟨_, e⟩
                        · exact ⟨(wv_X15_isSentence_330 ko_35 e).1, fw_t fo_35 (wv_X15_isSentence_330 ko_35 e).2⟩
                        · exact ⟨(wv_X15_isSentence_331 ko_35 e).1, fw_t fo_35 (wv_X15_isSentence_331 ko_35 e).2⟩
                  · obtain ⟨o_37, eo_37, e⟩ := cl_s e
                    obtain ⟨ko_37, fo_37⟩ := wv_X15_isOnce ko_17 eo_37
                    replace fo_37 := fw_t fo_17 fo_37
                    rcases br_s e with ⟨_, e⟩ | ⟨_, e⟩
                    · exact ⟨(wv_X15_isSentence_296 ko_37 e).1, fw_t fo_37 (wv_X15_isSentence_296 ko_37 e).2⟩
                    · obtain ⟨o_39, eo_39, e⟩ := cl_s e
                      obtain ⟨ko_39, fo_39⟩ := wv_X15_isChecks ko_37 eo_39
                      replace fo_39 := fw_t fo_37 fo_39
                      rcases br_s e with ⟨_, e⟩ | ⟨_, e⟩
                      · exact ⟨(wv_X15_isSentence_296 ko_39 e).1, fw_t fo_39 (wv_X15_isSentence_296 ko_39 e).2⟩
                      · exact ⟨(wv_X15_isSentence_297 ko_39 e).1, fw_t fo_39 (wv_X15_isSentence_297 ko_39 e).2⟩
                · obtain ⟨r_41, er_41, e⟩ := cl_s e
                  have yr_41 := dx_xd (a := 513) (b := 526) ko_15 (by decide) er_41
                  subst yr_41
                  obtain ⟨h_42, wh_42, e⟩ := nm_s e
                  have kh_42 : DyX n xlV g h_42 := by rw [wh_42]; exact dx_wI ko_15
                  have fh_42 : FrW (WIr n 526) h h_42 := by rw [wh_42]; exact fw_wI fo_15 (by unfold WIr; omega)
                  obtain ⟨o_43, eo_43, e⟩ := cl_s e
                  obtain ⟨ko_43, fo_43⟩ := wv_X15_isOnce kh_42 eo_43
                  replace fo_43 := fw_t fh_42 fo_43
                  rcases br_s e with ⟨_, e⟩ | ⟨_, e⟩
                  · exact ⟨(wv_X15_isSentence_262 ko_43 e).1, fw_t fo_43 (wv_X15_isSentence_262 ko_43 e).2⟩
                  · obtain ⟨o_45, eo_45, e⟩ := cl_s e
                    obtain ⟨ko_45, fo_45⟩ := wv_X15_isBlast ko_43 eo_45
                    replace fo_45 := fw_t fo_43 fo_45
                    rcases br_s e with ⟨_, e⟩ | ⟨_, e⟩
                    · exact ⟨(wv_X15_isSentence_262 ko_45 e).1, fw_t fo_45 (wv_X15_isSentence_262 ko_45 e).2⟩
                    · exact ⟨(wv_X15_isSentence_263 ko_45 e).1, fw_t fo_45 (wv_X15_isSentence_263 ko_45 e).2⟩
              · obtain ⟨r_47, er_47, e⟩ := cl_s e
                have yr_47 := dx_xd (a := 513) (b := 526) ko_13 (by decide) er_47
                subst yr_47
                obtain ⟨h_48, wh_48, e⟩ := nm_s e
                have kh_48 : DyX n xlV g h_48 := by rw [wh_48]; exact dx_wI ko_13
                have fh_48 : FrW (WIr n 526) h h_48 := by rw [wh_48]; exact fw_wI fo_13 (by unfold WIr; omega)
                obtain ⟨o_49, eo_49, e⟩ := cl_s e
                obtain ⟨ko_49, fo_49⟩ := wv_X15_isOnce kh_48 eo_49
                replace fo_49 := fw_t fh_48 fo_49
                rcases br_s e with ⟨_, e⟩ | ⟨_, e⟩
                · exact ⟨(wv_X15_isSentence_221 ko_49 e).1, fw_t fo_49 (wv_X15_isSentence_221 ko_49 e).2⟩
                · obtain ⟨o_51, eo_51, e⟩ := cl_s e
                  obtain ⟨ko_51, fo_51⟩ := wv_X15_goesOn ko_49 eo_51
                  replace fo_51 := fw_t fo_49 fo_51
                  rcases br_s e with ⟨_, e⟩ | ⟨_, e⟩
                  · exact ⟨(wv_X15_isSentence_221 ko_51 e).1, fw_t fo_51 (wv_X15_isSentence_221 ko_51 e).2⟩
                  · exact ⟨(wv_X15_isSentence_222 ko_51 e).1, fw_t fo_51 (wv_X15_isSentence_222 ko_51 e).2⟩
            · obtain ⟨r_53, er_53, e⟩ := cl_s e
              have yr_53 := dx_xd (a := 513) (b := 526) ko_11 (by decide) er_53
              subst yr_53
              obtain ⟨h_54, wh_54, e⟩ := nm_s e
              have kh_54 : DyX n xlV g h_54 := by rw [wh_54]; exact dx_wI ko_11
              have fh_54 : FrW (WIr n 526) h h_54 := by rw [wh_54]; exact fw_wI fo_11 (by unfold WIr; omega)
              obtain ⟨o_55, eo_55, e⟩ := cl_s e
              obtain ⟨ko_55, fo_55⟩ := wv_X15_isOnce kh_54 eo_55
              replace fo_55 := fw_t fh_54 fo_55
              rcases br_s e with ⟨_, e⟩ | ⟨_, e⟩
              · exact ⟨(wv_X15_isSentence_180 ko_55 e).1, fw_t fo_55 (wv_X15_isSentence_180 ko_55 e).2⟩
              · obtain ⟨o_57, eo_57, e⟩ := cl_s e
                obtain ⟨ko_57, fo_57⟩ := wv_X15_goesOn ko_55 eo_57
                replace fo_57 := fw_t fo_55 fo_57
                rcases br_s e with ⟨_, e⟩ | ⟨_, e⟩
                · exact ⟨(wv_X15_isSentence_180 ko_57 e).1, fw_t fo_57 (wv_X15_isSentence_180 ko_57 e).2⟩
                · exact ⟨(wv_X15_isSentence_181 ko_57 e).1, fw_t fo_57 (wv_X15_isSentence_181 ko_57 e).2⟩
          · obtain ⟨r_59, er_59, e⟩ := cl_s e
            have yr_59 := dx_xd (a := 513) (b := 526) ko_9 (by decide) er_59
            subst yr_59
            obtain ⟨h_60, wh_60, e⟩ := nm_s e
            have kh_60 : DyX n xlV g h_60 := by rw [wh_60]; exact dx_wI ko_9
            have fh_60 : FrW (WIr n 526) h h_60 := by rw [wh_60]; exact fw_wI fo_9 (by unfold WIr; omega)
            obtain ⟨o_61, eo_61, e⟩ := cl_s e
            obtain ⟨ko_61, fo_61⟩ := wv_X15_isOnce kh_60 eo_61
            replace fo_61 := fw_t fh_60 fo_61
            rcases br_s e with ⟨_, e⟩ | ⟨_, e⟩
            · exact ⟨(wv_X15_isSentence_139 ko_61 e).1, fw_t fo_61 (wv_X15_isSentence_139 ko_61 e).2⟩
            · obtain ⟨o_63, eo_63, e⟩ := cl_s e
              obtain ⟨ko_63, fo_63⟩ := wv_X15_goesOn ko_61 eo_63
              replace fo_63 := fw_t fo_61 fo_63
              rcases br_s e with ⟨_, e⟩ | ⟨_, e⟩
              · exact ⟨(wv_X15_isSentence_139 ko_63 e).1, fw_t fo_63 (wv_X15_isSentence_139 ko_63 e).2⟩
              · exact ⟨(wv_X15_isSentence_140 ko_63 e).1, fw_t fo_63 (wv_X15_isSentence_140 ko_63 e).2⟩
        · obtain ⟨o_65, eo_65, e⟩ := cl_s e
          obtain ⟨ko_65, fo_65⟩ := wv_X15_isOnce ko_7 eo_65
          replace fo_65 := fw_t fo_7 fo_65
          rcases br_s e with ⟨_, e⟩ | ⟨_, e⟩
          · exact ⟨(wv_X15_isSentence_98 ko_65 e).1, fw_t fo_65 (wv_X15_isSentence_98 ko_65 e).2⟩
          · obtain ⟨o_67, eo_67, e⟩ := cl_s e
            obtain ⟨ko_67, fo_67⟩ := wv_X15_isCastle ko_65 eo_67
            replace fo_67 := fw_t fo_65 fo_67
            rcases br_s e with ⟨_, e⟩ | ⟨_, e⟩
            · exact ⟨(wv_X15_isSentence_98 ko_67 e).1, fw_t fo_67 (wv_X15_isSentence_98 ko_67 e).2⟩
            · exact ⟨(wv_X15_isSentence_99 ko_67 e).1, fw_t fo_67 (wv_X15_isSentence_99 ko_67 e).2⟩
      · obtain ⟨o_69, eo_69, e⟩ := cl_s e
        obtain ⟨ko_69, fo_69⟩ := wv_X15_isOnce ko_5 eo_69
        replace fo_69 := fw_t fo_5 fo_69
        rcases br_s e with ⟨_, e⟩ | ⟨_, e⟩
        · exact ⟨(wv_X15_isSentence_65 ko_69 e).1, fw_t fo_69 (wv_X15_isSentence_65 ko_69 e).2⟩
        · obtain ⟨o_71, eo_71, e⟩ := cl_s e
          obtain ⟨ko_71, fo_71⟩ := wv_X15_isRoyal ko_69 eo_71
          replace fo_71 := fw_t fo_69 fo_71
          rcases br_s e with ⟨_, e⟩ | ⟨_, e⟩
          · exact ⟨(wv_X15_isSentence_65 ko_71 e).1, fw_t fo_71 (wv_X15_isSentence_65 ko_71 e).2⟩
          · exact ⟨(wv_X15_isSentence_66 ko_71 e).1, fw_t fo_71 (wv_X15_isSentence_66 ko_71 e).2⟩
    · obtain ⟨o_73, eo_73, e⟩ := cl_s e
      obtain ⟨ko_73, fo_73⟩ := wv_X15_isBecoming ko_3 eo_73
      replace fo_73 := fw_t fo_3 fo_73
      replace e := (gd_s e).2
      rw [← Option.some.inj e]; exact ⟨ko_73, fo_73⟩
  · obtain ⟨o_75, eo_75, e⟩ := cl_s e
    obtain ⟨ko_75, fo_75⟩ := wv_X15_isMan ko_1 eo_75
    replace fo_75 := fw_t fo_1 fo_75
    replace e := (gd_s e).2
    rw [← Option.some.inj e]; exact ⟨ko_75, fo_75⟩
theorem wv_X15_isRules_144 {n : Nat} {g : Hp} {F : Nat} {o : Int32 × Hp} {h : Hp} (k : DyX n xlV g h) (e : sX15_isRules_144 F h = some o) : DyX n xlV g o.2 ∧ FrW (WIr n 526) h o.2 := by
  unfold sX15_isRules_144 at e
  rw [← Option.some.inj e]; exact ⟨k, fw_0⟩
theorem wv_X15_isRules_117 {n : Nat} {g : Hp} {F : Nat} {o : Int32 × Hp} : ∀ (f : Nat) {h : Hp} {x2 : Int32}, DyX n xlV g h → sX15_isRules_117 F f h (n + 513) (n + 514) x2 = some o → DyX n xlV g o.2 ∧ FrW (WIr n 526) h o.2 := by
  intro f
  induction f with
  | zero => intro h x2 _ e; exact absurd e (by rw [sX15_isRules_117]; exact fun z => nomatch z)
  | succ f ih =>
    intro h x2 k e
    rw [sX15_isRules_117] at e
    rcases br_s e with ⟨_, e⟩ | ⟨_, e⟩
    · rw [← Option.some.inj e]; exact ⟨k, fw_0⟩
    · obtain ⟨o_2, eo_2, e⟩ := cl_s e
      obtain ⟨ko_2, fo_2⟩ := wv_X15_isSentence k eo_2
      rcases br_s e with ⟨_, e⟩ | ⟨_, e⟩
      · exact ⟨(wv_X15_isRules_144 ko_2 e).1, fw_t fo_2 (wv_X15_isRules_144 ko_2 e).2⟩
      · obtain ⟨o_4, eo_4, e⟩ := cl_s e
        obtain ⟨ko_4, fo_4⟩ := wv_X15_isSign ko_2 eo_4
        replace fo_4 := fw_t fo_2 fo_4
        rcases br_s e with ⟨_, e⟩ | ⟨_, e⟩
        · exact ⟨(wv_X15_isRules_144 ko_4 e).1, fw_t fo_4 (wv_X15_isRules_144 ko_4 e).2⟩
        · obtain ⟨o_6, eo_6, e⟩ := cl_s e
          obtain ⟨ko_6, fo_6⟩ := wv_X15_nextToken ko_4 eo_6
          replace fo_6 := fw_t fo_4 fo_6
          exact ⟨(ih ko_6 e).1, fw_t fo_6 (ih ko_6 e).2⟩
theorem wv_X15_isRules {n : Nat} {g : Hp} {F : Nat} {o : Int32 × Hp} {x2 : Int32} {h : Hp} (k : DyX n xlV g h) (e : sX15_isRules F h (n + 513) (n + 514) x2 = some o) : DyX n xlV g o.2 ∧ FrW (WIr n 526) h o.2 := by
  unfold sX15_isRules at e
  obtain ⟨r_1, er_1, e⟩ := cl_s e
  have yr_1 := dx_xd (a := 513) (b := 526) k (by decide) er_1
  subst yr_1
  obtain ⟨o_2, eo_2, e⟩ := cl_s e
  obtain ⟨ko_2, fo_2⟩ := wv_X14_clear k eo_2
  obtain ⟨h_3, wh_3, e⟩ := nm_s e
  have kh_3 : DyX n xlV g h_3 := by rw [wh_3]; exact dx_wI ko_2
  have fh_3 : FrW (WIr n 526) h h_3 := by rw [wh_3]; exact fw_wI fo_2 (by unfold WIr; omega)
  obtain ⟨h_4, wh_4, e⟩ := nm_s e
  have kh_4 : DyX n xlV g h_4 := by rw [wh_4]; exact dx_wI kh_3
  have fh_4 : FrW (WIr n 526) h h_4 := by rw [wh_4]; exact fw_wI fh_3 (by unfold WIr; omega)
  obtain ⟨o_5, eo_5, e⟩ := cl_s e
  obtain ⟨ko_5, fo_5⟩ := wv_X15_nextToken kh_4 eo_5
  replace fo_5 := fw_t fh_4 fo_5
  obtain ⟨o_6, eo_6, e⟩ := cl_s e
  obtain ⟨ko_6, fo_6⟩ := wv_X15_isWord ko_5 eo_6
  replace fo_6 := fw_t fo_5 fo_6
  rcases br_s e with ⟨_, e⟩ | ⟨_, e⟩
  · rw [← Option.some.inj e]; exact ⟨ko_6, fo_6⟩
  · obtain ⟨o_8, eo_8, e⟩ := cl_s e
    obtain ⟨ko_8, fo_8⟩ := wv_X15_nextToken ko_6 eo_8
    replace fo_8 := fw_t fo_6 fo_8
    obtain ⟨o_9, eo_9, e⟩ := cl_s e
    obtain ⟨ko_9, fo_9⟩ := wv_X15_isNumber ko_8 eo_9
    replace fo_9 := fw_t fo_8 fo_9
    rcases br_s e with ⟨_, e⟩ | ⟨_, e⟩
    · rw [← Option.some.inj e]; exact ⟨ko_9, fo_9⟩
    · obtain ⟨r_11, er_11, e⟩ := cl_s e
      have yr_11 := dx_xd (a := 513) (b := 526) ko_9 (by decide) er_11
      subst yr_11
      obtain ⟨h_12, wh_12, e⟩ := nm_s e
      have kh_12 : DyX n xlV g h_12 := by rw [wh_12]; exact dx_wI ko_9
      have fh_12 : FrW (WIr n 526) h h_12 := by rw [wh_12]; exact fw_wI fo_9 (by unfold WIr; omega)
      obtain ⟨o_13, eo_13, e⟩ := cl_s e
      obtain ⟨ko_13, fo_13⟩ := wv_X15_nextToken kh_12 eo_13
      replace fo_13 := fw_t fh_12 fo_13
      obtain ⟨o_14, eo_14, e⟩ := cl_s e
      obtain ⟨ko_14, fo_14⟩ := wv_X15_isNumber ko_13 eo_14
      replace fo_14 := fw_t fo_13 fo_14
      rcases br_s e with ⟨_, e⟩ | ⟨_, e⟩
      · rw [← Option.some.inj e]; exact ⟨ko_14, fo_14⟩
      · obtain ⟨r_16, er_16, e⟩ := cl_s e
        have yr_16 := dx_xd (a := 513) (b := 526) ko_14 (by decide) er_16
        subst yr_16
        obtain ⟨h_17, wh_17, e⟩ := nm_s e
        have kh_17 : DyX n xlV g h_17 := by rw [wh_17]; exact dx_wI ko_14
        have fh_17 : FrW (WIr n 526) h h_17 := by rw [wh_17]; exact fw_wI fo_14 (by unfold WIr; omega)
        obtain ⟨o_18, eo_18, e⟩ := cl_s e
        obtain ⟨ko_18, fo_18⟩ := wv_X15_nextToken kh_17 eo_18
        replace fo_18 := fw_t fh_17 fo_18
        obtain ⟨o_19, eo_19, e⟩ := cl_s e
        obtain ⟨ko_19, fo_19⟩ := wv_X15_isSign ko_18 eo_19
        replace fo_19 := fw_t fo_18 fo_19
        rcases br_s e with ⟨_, e⟩ | ⟨_, e⟩
        · rw [← Option.some.inj e]; exact ⟨ko_19, fo_19⟩
        · obtain ⟨o_21, eo_21, e⟩ := cl_s e
          obtain ⟨ko_21, fo_21⟩ := wv_X15_nextToken ko_19 eo_21
          replace fo_21 := fw_t fo_19 fo_21
          exact ⟨(wv_X15_isRules_117 F ko_21 e).1, fw_t fo_21 (wv_X15_isRules_117 F ko_21 e).2⟩
