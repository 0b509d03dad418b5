/-! what sX2_advance;x0=S:21|sX2_isWord;x0=S:21|sX2_isNumber;x0=S:21|sX2_takeEnd;x0=S:21|sX2_read_39;x0=S:21|sJ7_fill_53178 writes: printed by wfx.py -/
theorem wz_X9_byteAt_22 {n : Nat} {g : Hp} {o : Int32 × Hp} {t0 : Int32} {h : Hp} (k : DyX n xlL g h) (e : sX9_byteAt_22 h t0 = some o) : DyX n xlL g o.2 ∧ FrW (WRm n) h o.2 := by
  unfold sX9_byteAt_22 at e
  rw [← Option.some.inj e]; exact ⟨k, fw_0⟩
theorem wz_X9_byteAt_21 {n : Nat} {g : Hp} {o : Int32 × Hp} {h : Hp} (k : DyX n xlL g h) (e : sX9_byteAt_21 h = some o) : DyX n xlL g o.2 ∧ FrW (WRm n) h o.2 := by
  unfold sX9_byteAt_21 at e
  exact wz_X9_byteAt_22 k e
theorem wz_X9_byteAt {n : Nat} {g : Hp} {o : Int32 × Hp} {x1 : Int32} {h : Hp} (k : DyX n xlL g h) (e : sX9_byteAt h (n + 1) x1 = some o) : DyX n xlL g o.2 ∧ FrW (WRm n) h o.2 := by
  unfold sX9_byteAt at e
  rcases br_s e with ⟨_, e⟩ | ⟨_, e⟩
  · exact wz_X9_byteAt_21 k e
  · rcases br_s e with ⟨_, e⟩ | ⟨_, e⟩
    · exact wz_X9_byteAt_21 k e
    · obtain ⟨r_3, er_3, e⟩ := cl_s e
      have yr_3 := dx_ed (a := 1) (b := 2) k (by decide +kernel) er_3
      subst yr_3
      replace e := (gd_s e).2
      exact wz_X9_byteAt_22 k e
theorem wz_X2_advance_230 {n : Nat} {g : Hp} {F : Nat} {o : Hp} {h : Hp} (k : DyX n xlL g h) (e : sX2_advance_230 F h = some o) : DyX n xlL g o ∧ FrW (WRm n) h o := by
  unfold sX2_advance_230 at e
  rw [← Option.some.inj e]; exact ⟨k, fw_0⟩
theorem wz_X2_isLetter_17 {n : Nat} {g : Hp} {o : Int32 × Hp} {t0 : Int32} {h : Hp} (k : DyX n xlL g h) (e : sX2_isLetter_17 h t0 = some o) : DyX n xlL g o.2 ∧ FrW (WRm n) h o.2 := by
  unfold sX2_isLetter_17 at e
  replace e := (gd_s e).2
  rw [← Option.some.inj e]; exact ⟨k, fw_0⟩
theorem wz_X2_isLetter_16 {n : Nat} {g : Hp} {o : Int32 × Hp} {h : Hp} (k : DyX n xlL g h) (e : sX2_isLetter_16 h = some o) : DyX n xlL g o.2 ∧ FrW (WRm n) h o.2 := by
  unfold sX2_isLetter_16 at e
  exact wz_X2_isLetter_17 k e
theorem wz_X2_isLetter {n : Nat} {g : Hp} {o : Int32 × Hp} {x0 : Int32} {h : Hp} (k : DyX n xlL g h) (e : sX2_isLetter h x0 = some o) : DyX n xlL g o.2 ∧ FrW (WRm n) h o.2 := by
  unfold sX2_isLetter at e
  rcases br_s e with ⟨_, e⟩ | ⟨_, e⟩
  · exact wz_X2_isLetter_16 k e
  · rcases br_s e with ⟨_, e⟩ | ⟨_, e⟩
    · exact wz_X2_isLetter_16 k e
    · exact wz_X2_isLetter_17 k e
theorem wz_X2_isDigit_17 {n : Nat} {g : Hp} {o : Int32 × Hp} {t0 : Int32} {h : Hp} (k : DyX n xlL g h) (e : sX2_isDigit_17 h t0 = some o) : DyX n xlL g o.2 ∧ FrW (WRm n) h o.2 := by
  unfold sX2_isDigit_17 at e
  replace e := (gd_s e).2
  rw [← Option.some.inj e]; exact ⟨k, fw_0⟩
theorem wz_X2_isDigit_16 {n : Nat} {g : Hp} {o : Int32 × Hp} {h : Hp} (k : DyX n xlL g h) (e : sX2_isDigit_16 h = some o) : DyX n xlL g o.2 ∧ FrW (WRm n) h o.2 := by
  unfold sX2_isDigit_16 at e
  exact wz_X2_isDigit_17 k e
theorem wz_X2_isDigit {n : Nat} {g : Hp} {o : Int32 × Hp} {x0 : Int32} {h : Hp} (k : DyX n xlL g h) (e : sX2_isDigit h x0 = some o) : DyX n xlL g o.2 ∧ FrW (WRm n) h o.2 := by
  unfold sX2_isDigit at e
  rcases br_s e with ⟨_, e⟩ | ⟨_, e⟩
  · exact wz_X2_isDigit_16 k e
  · rcases br_s e with ⟨_, e⟩ | ⟨_, e⟩
    · exact wz_X2_isDigit_16 k e
    · exact wz_X2_isDigit_17 k e
theorem wz_X2_scanNumber_141 {n : Nat} {g : Hp} {F : Nat} {o : Hp} {h : Hp} (k : DyX n xlL g h) (e : sX2_scanNumber_141 F h = some o) : DyX n xlL g o ∧ FrW (WRm n) h o := by
  unfold sX2_scanNumber_141 at e
  rw [← Option.some.inj e]; exact ⟨k, fw_0⟩
theorem wz_X2_scanNumber_121 {n : Nat} {g : Hp} {F : Nat} {o : Hp} {x1 : Int32} {t0 : Int32} {h : Hp} (k : DyX n xlL g h) (e : sX2_scanNumber_121 F h (n + 21) x1 t0 (n + 21) = some o) : DyX n xlL g o ∧ FrW (WRm n) h o := by
  unfold sX2_scanNumber_121 at e
  obtain ⟨h_1, wh_1, e⟩ := nm_s e
  have kh_1 : DyX n xlL g h_1 := by rw [wh_1]; exact dx_wI k
  have fh_1 : FrW (WRm n) h h_1 := by rw [wh_1]; exact fw_wI fw_0 (by unfold WRm; omega)
  rcases br_s e with ⟨_, e⟩ | ⟨_, e⟩
  · exact ⟨(wz_X2_scanNumber_141 kh_1 e).1, fw_t fh_1 (wz_X2_scanNumber_141 kh_1 e).2⟩
  · obtain ⟨h_3, wh_3, e⟩ := nm_s e
    have kh_3 : DyX n xlL g h_3 := by rw [wh_3]; exact dx_wI kh_1
    have fh_3 : FrW (WRm n) h h_3 := by rw [wh_3]; exact fw_wI fh_1 (by unfold WRm; omega)
    exact ⟨(wz_X2_scanNumber_141 kh_3 e).1, fw_t fh_3 (wz_X2_scanNumber_141 kh_3 e).2⟩
theorem wz_X2_scanNumber_116 {n : Nat} {g : Hp} {F : Nat} {o : Hp} {x1 : Int32} {h : Hp} (k : DyX n xlL g h) (e : sX2_scanNumber_116 F h (n + 21) x1 (n + 21) = some o) : DyX n xlL g o ∧ FrW (WRm n) h o := by
  unfold sX2_scanNumber_116 at e
  exact wz_X2_scanNumber_121 k e
theorem wz_X2_scanNumber_97 {n : Nat} {g : Hp} {F : Nat} {o : Hp} {x1 : Int32} {h : Hp} (k : DyX n xlL g h) (e : sX2_scanNumber_97 F h (n + 21) x1 = some o) : DyX n xlL g o ∧ FrW (WRm n) h o := by
  unfold sX2_scanNumber_97 at e
  rcases br_s e with ⟨_, e⟩ | ⟨_, e⟩
  · exact wz_X2_scanNumber_116 k e
  · rcases br_s e with ⟨_, e⟩ | ⟨_, e⟩
    · exact wz_X2_scanNumber_121 k e
    · exact wz_X2_scanNumber_116 k e
theorem wz_X2_scanNumber_81 {n : Nat} {g : Hp} {F : Nat} {o : Hp} {x1 : Int32} {t0 : Int32} {k_10 : Hp → Nat → Int32 → Option (Hp)} (D_10 : ∀ {h : Hp} {y2 : Int32}, DyX n xlL g h → k_10 h (n + 21) y2 = some o → DyX n xlL g o ∧ FrW (WRm n) h o) {h : Hp} (k : DyX n xlL g h) (e : sX2_scanNumber_81 F k_10 h (n + 21) x1 t0 (n + 21) = some o) : DyX n xlL g o ∧ FrW (WRm n) h o := by
  unfold sX2_scanNumber_81 at e
  obtain ⟨h_1, wh_1, e⟩ := nm_s e
  have kh_1 : DyX n xlL g h_1 := by rw [wh_1]; exact dx_wI k
  have fh_1 : FrW (WRm n) h h_1 := by rw [wh_1]; exact fw_wI fw_0 (by unfold WRm; omega)
  obtain ⟨h_2, wh_2, e⟩ := nm_s e
  have kh_2 : DyX n xlL g h_2 := by rw [wh_2]; exact dx_wI kh_1
  have fh_2 : FrW (WRm n) h h_2 := by rw [wh_2]; exact fw_wI fh_1 (by unfold WRm; omega)
  exact ⟨(D_10 kh_2 e).1, fw_t fh_2 (D_10 kh_2 e).2⟩
theorem wz_X2_scanNumber_10 {n : Nat} {g : Hp} {F : Nat} {o : Hp} : ∀ (f : Nat) {h : Hp} {x1 : Int32}, DyX n xlL g h → sX2_scanNumber_10 F f h (n + 21) x1 = some o → DyX n xlL g o ∧ FrW (WRm n) h o := by
  intro f
  induction f with
  | zero => intro h x1 _ e; exact absurd e (by rw [sX2_scanNumber_10]; exact fun z => nomatch z)
  | succ f ih =>
    intro h x1 k e
    rw [sX2_scanNumber_10] at e
    obtain ⟨r_1, er_1, e⟩ := cl_s e
    have yr_1 := dx_xd (a := 21) (b := 1) k (by decide) er_1
    subst yr_1
    rcases br_s e with ⟨_, e⟩ | ⟨_, e⟩
    · exact wz_X2_scanNumber_97 k e
    · obtain ⟨r_3, er_3, e⟩ := cl_s e
      have yr_3 := dx_xd (a := 21) (b := 1) k (by decide) er_3
      subst yr_3
      obtain ⟨o_4, eo_4, e⟩ := cl_s e
      obtain ⟨ko_4, fo_4⟩ := wz_X9_byteAt k eo_4
      obtain ⟨o_5, eo_5, e⟩ := cl_s e
      obtain ⟨ko_5, fo_5⟩ := wz_X2_isDigit ko_4 eo_5
      replace fo_5 := fw_t fo_4 fo_5
      rcases br_s e with ⟨_, e⟩ | ⟨_, e⟩
      · exact ⟨(wz_X2_scanNumber_97 ko_5 e).1, fw_t fo_5 (wz_X2_scanNumber_97 ko_5 e).2⟩
      · rcases br_s e with ⟨_, e⟩ | ⟨_, e⟩
        · exact ⟨(wz_X2_scanNumber_81 (fun k e => ih k e) ko_5 e).1, fw_t fo_5 (wz_X2_scanNumber_81 (fun k e => ih k e) ko_5 e).2⟩
        · obtain ⟨r_8, er_8, e⟩ := cl_s e
          have yr_8 := dx_xd (a := 21) (b := 1) ko_5 (by decide) er_8
          subst yr_8
          obtain ⟨o_9, eo_9, e⟩ := cl_s e
          obtain ⟨ko_9, fo_9⟩ := wz_X9_byteAt ko_5 eo_9
          replace fo_9 := fw_t fo_5 fo_9
          exact ⟨(wz_X2_scanNumber_81 (fun k e => ih k e) ko_9 e).1, fw_t fo_9 (wz_X2_scanNumber_81 (fun k e => ih k e) ko_9 e).2⟩
theorem wz_X2_scanNumber {n : Nat} {g : Hp} {F : Nat} {o : Hp} {x1 : Int32} {h : Hp} (k : DyX n xlL g h) (e : sX2_scanNumber F h (n + 21) x1 = some o) : DyX n xlL g o ∧ FrW (WRm n) h o := by
  unfold sX2_scanNumber at e
  obtain ⟨h_1, wh_1, e⟩ := nm_s e
  have kh_1 : DyX n xlL g h_1 := by rw [wh_1]; exact dx_wI k
  have fh_1 : FrW (WRm n) h h_1 := by rw [wh_1]; exact fw_wI fw_0 (by unfold WRm; omega)
  obtain ⟨h_2, wh_2, e⟩ := nm_s e
  have kh_2 : DyX n xlL g h_2 := by rw [wh_2]; exact dx_wI kh_1
  have fh_2 : FrW (WRm n) h h_2 := by rw [wh_2]; exact fw_wI fh_1 (by unfold WRm; omega)
  exact ⟨(wz_X2_scanNumber_10 F kh_2 e).1, fw_t fh_2 (wz_X2_scanNumber_10 F kh_2 e).2⟩
theorem wz_X2_advance_199 {n : Nat} {g : Hp} {F : Nat} {o : Hp} {t0 : Int32} {h : Hp} (k : DyX n xlL g h) (e : sX2_advance_199 F h t0 (n + 21) = some o) : DyX n xlL g o ∧ FrW (WRm n) h o := by
  unfold sX2_advance_199 at e
  obtain ⟨o_1, eo_1, e⟩ := cl_s e
  obtain ⟨ko_1, fo_1⟩ := wz_X2_scanNumber k eo_1
  exact ⟨(wz_X2_advance_230 ko_1 e).1, fw_t fo_1 (wz_X2_advance_230 ko_1 e).2⟩
theorem wz_X2_advance_179 {n : Nat} {g : Hp} {F : Nat} {o : Hp} {x1 : Int32} {h : Hp} (k : DyX n xlL g h) (e : sX2_advance_179 F h (n + 21) x1 = some o) : DyX n xlL g o ∧ FrW (WRm n) h o := by
  unfold sX2_advance_179 at e
  rcases br_s e with ⟨_, e⟩ | ⟨_, e⟩
  · exact wz_X2_advance_199 k e
  · exact wz_X2_advance_199 k e
theorem wz_X2_advance_227 {n : Nat} {g : Hp} {F : Nat} {o : Hp} {t0 : Int32} {h : Hp} (k : DyX n xlL g h) (e : sX2_advance_227 F h t0 (n + 21) = some o) : DyX n xlL g o ∧ FrW (WRm n) h o := by
  unfold sX2_advance_227 at e
  obtain ⟨h_1, wh_1, e⟩ := nm_s e
  have kh_1 : DyX n xlL g h_1 := by rw [wh_1]; exact dx_wI k
  have fh_1 : FrW (WRm n) h h_1 := by rw [wh_1]; exact fw_wI fw_0 (by unfold WRm; omega)
  exact ⟨(wz_X2_advance_230 kh_1 e).1, fw_t fh_1 (wz_X2_advance_230 kh_1 e).2⟩
theorem wz_X2_advance_122 {n : Nat} {g : Hp} {F : Nat} {o : Hp} : ∀ (f : Nat) {h : Hp}, DyX n xlL g h → sX2_advance_122 F f h (n + 21) = some o → DyX n xlL g o ∧ FrW (WRm n) h o := by
  intro f
  induction f with
  | zero => intro h _ e; exact absurd e (by rw [sX2_advance_122]; exact fun z => nomatch z)
  | succ f ih =>
    intro h k e
    rw [sX2_advance_122] at e
    obtain ⟨r_1, er_1, e⟩ := cl_s e
    have yr_1 := dx_xd (a := 21) (b := 1) k (by decide) er_1
    subst yr_1
    rcases br_s e with ⟨_, e⟩ | ⟨_, e⟩
    · exact wz_X2_advance_230 k e
    · obtain ⟨r_3, er_3, e⟩ := cl_s e
      have yr_3 := dx_xd (a := 21) (b := 1) k (by decide) er_3
      subst yr_3
      obtain ⟨o_4, eo_4, e⟩ := cl_s e
      obtain ⟨ko_4, fo_4⟩ := wz_X9_byteAt k eo_4
      obtain ⟨o_5, eo_5, e⟩ := cl_s e
      obtain ⟨ko_5, fo_5⟩ := wz_X2_isLetter ko_4 eo_5
      replace fo_5 := fw_t fo_4 fo_5
      rcases br_s e with ⟨_, e⟩ | ⟨_, e⟩
      · exact ⟨(wz_X2_advance_230 ko_5 e).1, fw_t fo_5 (wz_X2_advance_230 ko_5 e).2⟩
      · obtain ⟨h_7, wh_7, e⟩ := nm_s e
        have kh_7 : DyX n xlL g h_7 := by rw [wh_7]; exact dx_wI ko_5
        have fh_7 : FrW (WRm n) h h_7 := by rw [wh_7]; exact fw_wI fo_5 (by unfold WRm; omega)
        exact ⟨(ih kh_7 e).1, fw_t fh_7 (ih kh_7 e).2⟩
theorem wz_X2_advance_67 {n : Nat} {g : Hp} {F : Nat} {o : Hp} {h : Hp} (k : DyX n xlL g h) (e : sX2_advance_67 F h (n + 21) = some o) : DyX n xlL g o ∧ FrW (WRm n) h o := by
  unfold sX2_advance_67 at e
  obtain ⟨r_1, er_1, e⟩ := cl_s e
  have yr_1 := dx_xd (a := 21) (b := 1) k (by decide) er_1
  subst yr_1
  obtain ⟨o_2, eo_2, e⟩ := cl_s e
  obtain ⟨ko_2, fo_2⟩ := wz_X9_byteAt k eo_2
  obtain ⟨h_3, wh_3, e⟩ := nm_s e
  have kh_3 : DyX n xlL g h_3 := by rw [wh_3]; exact dx_wI ko_2
  have fh_3 : FrW (WRm n) h h_3 := by rw [wh_3]; exact fw_wI fo_2 (by unfold WRm; omega)
  rcases br_s e with ⟨_, e⟩ | ⟨_, e⟩
  · obtain ⟨h_13, wh_13, e⟩ := nm_s e
    have kh_13 : DyX n xlL g h_13 := by rw [wh_13]; exact dx_wI kh_3
    have fh_13 : FrW (WRm n) h h_13 := by rw [wh_13]; exact fw_wI fh_3 (by unfold WRm; omega)
    obtain ⟨h_14, wh_14, e⟩ := nm_s e
    have kh_14 : DyX n xlL g h_14 := by rw [wh_14]; exact dx_wI kh_13
    have fh_14 : FrW (WRm n) h h_14 := by rw [wh_14]; exact fw_wI fh_13 (by unfold WRm; omega)
    exact ⟨(wz_X2_advance_230 kh_14 e).1, fw_t fh_14 (wz_X2_advance_230 kh_14 e).2⟩
  · obtain ⟨o_5, eo_5, e⟩ := cl_s e
    obtain ⟨ko_5, fo_5⟩ := wz_X2_isLetter kh_3 eo_5
    replace fo_5 := fw_t fh_3 fo_5
    rcases br_s e with ⟨_, e⟩ | ⟨_, e⟩
    · obtain ⟨o_7, eo_7, e⟩ := cl_s e
      obtain ⟨ko_7, fo_7⟩ := wz_X2_isDigit ko_5 eo_7
      replace fo_7 := fw_t fo_5 fo_7
      rcases br_s e with ⟨_, e⟩ | ⟨_, e⟩
      · rcases br_s e with ⟨_, e⟩ | ⟨_, e⟩
        · exact ⟨(wz_X2_advance_179 ko_7 e).1, fw_t fo_7 (wz_X2_advance_179 ko_7 e).2⟩
        · rcases br_s e with ⟨_, e⟩ | ⟨_, e⟩
          · exact ⟨(wz_X2_advance_227 ko_7 e).1, fw_t fo_7 (wz_X2_advance_227 ko_7 e).2⟩
          · rcases br_s e with ⟨_, e⟩ | ⟨_, e⟩
            · exact ⟨(wz_X2_advance_227 ko_7 e).1, fw_t fo_7 (wz_X2_advance_227 ko_7 e).2⟩
            · exact ⟨(wz_X2_advance_227 ko_7 e).1, fw_t fo_7 (wz_X2_advance_227 ko_7 e).2⟩
      · exact ⟨(wz_X2_advance_179 ko_7 e).1, fw_t fo_7 (wz_X2_advance_179 ko_7 e).2⟩
    · obtain ⟨h_12, wh_12, e⟩ := nm_s e
      have kh_12 : DyX n xlL g h_12 := by rw [wh_12]; exact dx_wI ko_5
      have fh_12 : FrW (WRm n) h h_12 := by rw [wh_12]; exact fw_wI fo_5 (by unfold WRm; omega)
      exact ⟨(wz_X2_advance_122 F kh_12 e).1, fw_t fh_12 (wz_X2_advance_122 F kh_12 e).2⟩
theorem wz_X2_advance_54 {n : Nat} {g : Hp} {F : Nat} {o : Hp} {k_8 : Hp → Nat → Option (Hp)} (D_8 : ∀ {h : Hp}, DyX n xlL g h → k_8 h (n + 21) = some o → DyX n xlL g o ∧ FrW (WRm n) h o) {h : Hp} (k : DyX n xlL g h) (e : sX2_advance_54 F k_8 h (n + 21) = some o) : DyX n xlL g o ∧ FrW (WRm n) h o := by
  unfold sX2_advance_54 at e
  obtain ⟨h_1, wh_1, e⟩ := nm_s e
  have kh_1 : DyX n xlL g h_1 := by rw [wh_1]; exact dx_wI k
  have fh_1 : FrW (WRm n) h h_1 := by rw [wh_1]; exact fw_wI fw_0 (by unfold WRm; omega)
  exact ⟨(D_8 kh_1 e).1, fw_t fh_1 (D_8 kh_1 e).2⟩
theorem wz_X2_advance_8 {n : Nat} {g : Hp} {F : Nat} {o : Hp} : ∀ (f : Nat) {h : Hp}, DyX n xlL g h → sX2_advance_8 F f h (n + 21) = some o → DyX n xlL g o ∧ FrW (WRm n) h o := by
  intro f
  induction f with
  | zero => intro h _ e; exact absurd e (by rw [sX2_advance_8]; exact fun z => nomatch z)
  | succ f ih =>
    intro h k e
    rw [sX2_advance_8] at e
    obtain ⟨r_1, er_1, e⟩ := cl_s e
    have yr_1 := dx_xd (a := 21) (b := 1) k (by decide) er_1
    subst yr_1
    rcases br_s e with ⟨_, e⟩ | ⟨_, e⟩
    · exact wz_X2_advance_67 k e
    · obtain ⟨r_3, er_3, e⟩ := cl_s e
      have yr_3 := dx_xd (a := 21) (b := 1) k (by decide) er_3
      subst yr_3
      obtain ⟨o_4, eo_4, e⟩ := cl_s e
      obtain ⟨ko_4, fo_4⟩ := wz_X9_byteAt k eo_4
      rcases br_s e with ⟨_, e⟩ | ⟨_, e⟩
      · exact ⟨(wz_X2_advance_54 (fun k e => ih k e) ko_4 e).1, fw_t fo_4 (wz_X2_advance_54 (fun k e => ih k e) ko_4 e).2⟩
      · obtain ⟨r_6, er_6, e⟩ := cl_s e
        have yr_6 := dx_xd (a := 21) (b := 1) ko_4 (by decide) er_6
        subst yr_6
        obtain ⟨o_7, eo_7, e⟩ := cl_s e
        obtain ⟨ko_7, fo_7⟩ := wz_X9_byteAt ko_4 eo_7
        replace fo_7 := fw_t fo_4 fo_7
        rcases br_s e with ⟨_, e⟩ | ⟨_, e⟩
        · exact ⟨(wz_X2_advance_54 (fun k e => ih k e) ko_7 e).1, fw_t fo_7 (wz_X2_advance_54 (fun k e => ih k e) ko_7 e).2⟩
        · exact ⟨(wz_X2_advance_67 ko_7 e).1, fw_t fo_7 (wz_X2_advance_67 ko_7 e).2⟩
theorem wz_X2_advance {n : Nat} {g : Hp} {F : Nat} {o : Hp} {h : Hp} (k : DyX n xlL g h) (e : sX2_advance F h (n + 21) = some o) : DyX n xlL g o ∧ FrW (WRm n) h o := by
  unfold sX2_advance at e
  obtain ⟨h_1, wh_1, e⟩ := nm_s e
  have kh_1 : DyX n xlL g h_1 := by rw [wh_1]; exact dx_wI k
  have fh_1 : FrW (WRm n) h h_1 := by rw [wh_1]; exact fw_wI fw_0 (by unfold WRm; omega)
  exact ⟨(wz_X2_advance_8 F kh_1 e).1, fw_t fh_1 (wz_X2_advance_8 F kh_1 e).2⟩
theorem wz_X2_isWord_28 {n : Nat} {g : Hp} {F : Nat} {o : Int32 × Hp} : ∀ (f : Nat) {h : Hp} {x1 : Nat} {x2 : Int32}, DyX n xlL g h → sX2_isWord_28 F f h (n + 21) x1 x2 = some o → DyX n xlL g o.2 ∧ FrW (WRm n) h o.2 := by
  intro f
  induction f with
  | zero => intro h x1 x2 _ e; exact absurd e (by rw [sX2_isWord_28]; exact fun z => nomatch z)
  | succ f ih =>
    intro h x1 x2 k e
    rw [sX2_isWord_28] at e
    rcases br_s e with ⟨_, e⟩ | ⟨_, e⟩
    · rw [← Option.some.inj e]; exact ⟨k, fw_0⟩
    · obtain ⟨r_2, er_2, e⟩ := cl_s e
      have yr_2 := dx_xd (a := 21) (b := 1) k (by decide) er_2
      subst yr_2
      obtain ⟨o_3, eo_3, e⟩ := cl_s e
      obtain ⟨ko_3, fo_3⟩ := wz_X9_byteAt k eo_3
      replace e := (gd_s e).2
      rcases br_s e with ⟨_, e⟩ | ⟨_, e⟩
      · obtain ⟨v_6, wv_6, e⟩ := nm_s e
        exact ⟨(ih ko_3 e).1, fw_t fo_3 (ih ko_3 e).2⟩
      · rw [← Option.some.inj e]; exact ⟨ko_3, fo_3⟩
theorem wz_X2_isWord_24 {n : Nat} {g : Hp} {F : Nat} {o : Int32 × Hp} {h : Hp} (k : DyX n xlL g h) (e : sX2_isWord_24 F h = some o) : DyX n xlL g o.2 ∧ FrW (WRm n) h o.2 := by
  unfold sX2_isWord_24 at e
  rw [← Option.some.inj e]; exact ⟨k, fw_0⟩
theorem wz_X2_isWord {n : Nat} {g : Hp} {F : Nat} {o : Int32 × Hp} {x1 : Nat} {h : Hp} (k : DyX n xlL g h) (e : sX2_isWord F h (n + 21) x1 = some o) : DyX n xlL g o.2 ∧ FrW (WRm n) h o.2 := by
  unfold sX2_isWord at e
  rcases br_s e with ⟨_, e⟩ | ⟨_, e⟩
  · rcases br_s e with ⟨_, e⟩ | ⟨_, e⟩
    · exact wz_X2_isWord_28 F k e
    · exact wz_X2_isWord_24 k e
  · exact wz_X2_isWord_24 k e
theorem wz_X2_isNumber_29 {n : Nat} {g : Hp} {o : Int32 × Hp} {t0 : Int32} {h : Hp} (k : DyX n xlL g h) (e : sX2_isNumber_29 h t0 = some o) : DyX n xlL g o.2 ∧ FrW (WRm n) h o.2 := by
  unfold sX2_isNumber_29 at e
  replace e := (gd_s e).2
  rw [← Option.some.inj e]; exact ⟨k, fw_0⟩
theorem wz_X2_isNumber_28 {n : Nat} {g : Hp} {o : Int32 × Hp} {h : Hp} (k : DyX n xlL g h) (e : sX2_isNumber_28 h = some o) : DyX n xlL g o.2 ∧ FrW (WRm n) h o.2 := by
  unfold sX2_isNumber_28 at e
  exact wz_X2_isNumber_29 k e
theorem wz_X2_isNumber {n : Nat} {g : Hp} {o : Int32 × Hp} {x1 : Int32} {x2 : Int32} {h : Hp} (k : DyX n xlL g h) (e : sX2_isNumber h (n + 21) x1 x2 = some o) : DyX n xlL g o.2 ∧ FrW (WRm n) h o.2 := by
  unfold sX2_isNumber at e
  rcases br_s e with ⟨_, e⟩ | ⟨_, e⟩
  · rcases br_s e with ⟨_, e⟩ | ⟨_, e⟩
    · exact wz_X2_isNumber_28 k e
    · rcases br_s e with ⟨_, e⟩ | ⟨_, e⟩
      · exact wz_X2_isNumber_28 k e
      · exact wz_X2_isNumber_29 k e
  · exact wz_X2_isNumber_28 k e
theorem wz_X2_takeEnd {n : Nat} {g : Hp} {F : Nat} {o : Int32 × Hp} {h : Hp} (k : DyX n xlL g h) (e : sX2_takeEnd F h (n + 21) = some o) : DyX n xlL g o.2 ∧ FrW (WRm n) h o.2 := by
  unfold sX2_takeEnd at e
  rcases br_s e with ⟨_, e⟩ | ⟨_, e⟩
  · obtain ⟨o_2, eo_2, e⟩ := cl_s e
    obtain ⟨ko_2, fo_2⟩ := wz_X2_advance k eo_2
    rw [← Option.some.inj e]; exact ⟨ko_2, fo_2⟩
  · rw [← Option.some.inj e]; exact ⟨k, fw_0⟩
theorem wz_X2_read_134 {n : Nat} {g : Hp} {F : Nat} {o : Int32 × Hp} {t0 : Int32} {h : Hp} (k : DyX n xlL g h) (e : sX2_read_134 F h t0 = some o) : DyX n xlL g o.2 ∧ FrW (WRm n) h o.2 := by
  unfold sX2_read_134 at e
  replace e := (gd_s e).2
  rw [← Option.some.inj e]; exact ⟨k, fw_0⟩
theorem wz_X2_read_133 {n : Nat} {g : Hp} {F : Nat} {o : Int32 × Hp} {h : Hp} (k : DyX n xlL g h) (e : sX2_read_133 F h = some o) : DyX n xlL g o.2 ∧ FrW (WRm n) h o.2 := by
  unfold sX2_read_133 at e
  exact wz_X2_read_134 k e
theorem wz_X2_read_118 {n : Nat} {g : Hp} {F : Nat} {o : Int32 × Hp} {x3 : Int32} {h : Hp} (k : DyX n xlL g h) (e : sX2_read_118 F h (n + 21) x3 = some o) : DyX n xlL g o.2 ∧ FrW (WRm n) h o.2 := by
  unfold sX2_read_118 at e
  rcases br_s e with ⟨_, e⟩ | ⟨_, e⟩
  · exact wz_X2_read_133 k e
  · rcases br_s e with ⟨_, e⟩ | ⟨_, e⟩
    · exact wz_X2_read_134 k e
    · exact wz_X2_read_133 k e
theorem wz_X2_onceWord_123 {n : Nat} {g : Hp} {F : Nat} {o : Int32 × Hp} {t0 : Int32} {h : Hp} (k : DyX n xlL g h) (e : sX2_onceWord_123 F h t0 = some o) : DyX n xlL g o.2 ∧ FrW (WRm n) h o.2 := by
  unfold sX2_onceWord_123 at e
  rw [← Option.some.inj e]; exact ⟨k, fw_0⟩
theorem wz_X2_onceWord {n : Nat} {g : Hp} {F : Nat} {o : Int32 × Hp} {h : Hp} (k : DyX n xlL g h) (e : sX2_onceWord F h (n + 21) = some o) : DyX n xlL g o.2 ∧ FrW (WRm n) h o.2 := by
  unfold sX2_onceWord at e
  obtain ⟨o_1, eo_1, e⟩ := cl_s e
  obtain ⟨ko_1, fo_1⟩ := wz_X2_isWord k eo_1
  rcases br_s e with ⟨_, e⟩ | ⟨_, e⟩
  · obtain ⟨o_3, eo_3, e⟩ := cl_s e
    obtain ⟨ko_3, fo_3⟩ := wz_X2_isWord ko_1 eo_3
    replace fo_3 := fw_t fo_1 fo_3
    rcases br_s e with ⟨_, e⟩ | ⟨_, e⟩
    · obtain ⟨o_5, eo_5, e⟩ := cl_s e
      obtain ⟨ko_5, fo_5⟩ := wz_X2_isWord ko_3 eo_5
      replace fo_5 := fw_t fo_3 fo_5
      rcases br_s e with ⟨_, e⟩ | ⟨_, e⟩
      · obtain ⟨o_7, eo_7, e⟩ := cl_s e
        obtain ⟨ko_7, fo_7⟩ := wz_X2_isWord ko_5 eo_7
        replace fo_7 := fw_t fo_5 fo_7
        rcases br_s e with ⟨_, e⟩ | ⟨_, e⟩
        · obtain ⟨o_9, eo_9, e⟩ := cl_s e
          obtain ⟨ko_9, fo_9⟩ := wz_X2_isWord ko_7 eo_9
          replace fo_9 := fw_t fo_7 fo_9
          rcases br_s e with ⟨_, e⟩ | ⟨_, e⟩
          · obtain ⟨o_11, eo_11, e⟩ := cl_s e
            obtain ⟨ko_11, fo_11⟩ := wz_X2_isWord ko_9 eo_11
            replace fo_11 := fw_t fo_9 fo_11
            rcases br_s e with ⟨_, e⟩ | ⟨_, e⟩
            · obtain ⟨o_13, eo_13, e⟩ := cl_s e
              obtain ⟨ko_13, fo_13⟩ := wz_X2_isWord ko_11 eo_13
              replace fo_13 := fw_t fo_11 fo_13
              rcases br_s e with ⟨_, e⟩ | ⟨_, e⟩
              · obtain ⟨o_15, eo_15, e⟩ := cl_s e
                obtain ⟨ko_15, fo_15⟩ := wz_X2_isWord ko_13 eo_15
                replace fo_15 := fw_t fo_13 fo_15
                rcases br_s e with ⟨_, e⟩ | ⟨_, e⟩
                · obtain ⟨o_17, eo_17, e⟩ := cl_s e
                  obtain ⟨ko_17, fo_17⟩ := wz_X2_isWord ko_15 eo_17
                  replace fo_17 := fw_t fo_15 fo_17
                  rcases br_s e with ⟨_, e⟩ | ⟨_, e⟩
                  · obtain ⟨o_19, eo_19, e⟩ := cl_s e
                    obtain ⟨ko_19, fo_19⟩ := wz_X2_isWord ko_17 eo_19
                    replace fo_19 := fw_t fo_17 fo_19
                    rcases br_s e with ⟨_, e⟩ | ⟨_, e⟩
                    · exact ⟨(wz_X2_onceWord_123 ko_19 e).1, fw_t fo_19 (wz_X2_onceWord_123 ko_19 e).2⟩
                    · exact ⟨(wz_X2_onceWord_123 ko_19 e).1, fw_t fo_19 (wz_X2_onceWord_123 ko_19 e).2⟩
                  · rw [← Option.some.inj e]; exact ⟨ko_17, fo_17⟩
                · rw [← Option.some.inj e]; exact ⟨ko_15, fo_15⟩
              · rw [← Option.some.inj e]; exact ⟨ko_13, fo_13⟩
            · rw [← Option.some.inj e]; exact ⟨ko_11, fo_11⟩
          · rw [← Option.some.inj e]; exact ⟨ko_9, fo_9⟩
        · rw [← Option.some.inj e]; exact ⟨ko_7, fo_7⟩
      · rw [← Option.some.inj e]; exact ⟨ko_5, fo_5⟩
    · rw [← Option.some.inj e]; exact ⟨ko_3, fo_3⟩
  · rw [← Option.some.inj e]; exact ⟨ko_1, fo_1⟩
theorem wz_X2_takeOther_44 {n : Nat} {g : Hp} {F : Nat} {o : Int32 × Hp} {h : Hp} (k : DyX n xlL g h) (e : sX2_takeOther_44 F h = some o) : DyX n xlL g o.2 ∧ FrW (WRm n) h o.2 := by
  unfold sX2_takeOther_44 at e
  rw [← Option.some.inj e]; exact ⟨k, fw_0⟩
theorem wz_X2_oneLetter_36 {n : Nat} {g : Hp} {o : Int32 × Hp} {t0 : Int32} {h : Hp} (k : DyX n xlL g h) (e : sX2_oneLetter_36 h t0 = some o) : DyX n xlL g o.2 ∧ FrW (WRm n) h o.2 := by
  unfold sX2_oneLetter_36 at e
  rw [← Option.some.inj e]; exact ⟨k, fw_0⟩
theorem wz_X2_oneLetter_35 {n : Nat} {g : Hp} {o : Int32 × Hp} {h : Hp} (k : DyX n xlL g h) (e : sX2_oneLetter_35 h = some o) : DyX n xlL g o.2 ∧ FrW (WRm n) h o.2 := by
  unfold sX2_oneLetter_35 at e
  exact wz_X2_oneLetter_36 k e
theorem wz_X2_oneLetter {n : Nat} {g : Hp} {o : Int32 × Hp} {h : Hp} (k : DyX n xlL g h) (e : sX2_oneLetter h (n + 21) = some o) : DyX n xlL g o.2 ∧ FrW (WRm n) h o.2 := by
  unfold sX2_oneLetter at e
  rcases br_s e with ⟨_, e⟩ | ⟨_, e⟩
  · rcases br_s e with ⟨_, e⟩ | ⟨_, e⟩
    · obtain ⟨r_3, er_3, e⟩ := cl_s e
      have yr_3 := dx_xd (a := 21) (b := 1) k (by decide) er_3
      subst yr_3
      obtain ⟨o_4, eo_4, e⟩ := cl_s e
      obtain ⟨ko_4, fo_4⟩ := wz_X9_byteAt k eo_4
      exact ⟨(wz_X2_oneLetter_36 ko_4 e).1, fw_t fo_4 (wz_X2_oneLetter_36 ko_4 e).2⟩
    · exact wz_X2_oneLetter_35 k e
  · exact wz_X2_oneLetter_35 k e
theorem wz_X2_toldMan_22 {n : Nat} {g : Hp} {F : Nat} {o : Int32 × Hp} {t0 : Int32} {h : Hp} (k : DyX n xlL g h) (e : sX2_toldMan_22 F h t0 = some o) : DyX n xlL g o.2 ∧ FrW (WRm n) h o.2 := by
  unfold sX2_toldMan_22 at e
  rw [← Option.some.inj e]; exact ⟨k, fw_0⟩
theorem wz_X1_manOf_2 {n : Nat} {g : Hp} {F : Nat} {o : Int32 × Hp} : ∀ (f : Nat) {h : Hp} {x1 : Int32} {x2 : Int32}, DyX n xlL g h → sX1_manOf_2 F f h (n + 5) x1 x2 = some o → DyX n xlL g o.2 ∧ FrW (WRm n) h o.2 := by
  intro f
  induction f with
  | zero => intro h x1 x2 _ e; exact absurd e (by rw [sX1_manOf_2]; exact fun z => nomatch z)
  | succ f ih =>
    intro h x1 x2 k e
    rw [sX1_manOf_2] at e
    rcases br_s e with ⟨_, e⟩ | ⟨_, e⟩
    · rw [← Option.some.inj e]; exact ⟨k, fw_0⟩
    · obtain ⟨r_2, er_2, e⟩ := cl_s e
      have yr_2 := dx_ed (a := 5) (b := 6) k (by decide +kernel) er_2
      subst yr_2
      replace e := (gd_s e).2
      rcases br_s e with ⟨_, e⟩ | ⟨_, e⟩
      · rw [← Option.some.inj e]; exact ⟨k, fw_0⟩
      · obtain ⟨v_5, wv_5, e⟩ := nm_s e
        exact ih k e
theorem wz_X1_manOf {n : Nat} {g : Hp} {F : Nat} {o : Int32 × Hp} {x1 : Int32} {h : Hp} (k : DyX n xlL g h) (e : sX1_manOf F h (n + 5) x1 = some o) : DyX n xlL g o.2 ∧ FrW (WRm n) h o.2 := by
  unfold sX1_manOf at e
  exact wz_X1_manOf_2 F k e
theorem wz_X2_toldMan {n : Nat} {g : Hp} {F : Nat} {o : Int32 × Hp} {h : Hp} (k : DyX n xlL g h) (e : sX2_toldMan F h (n + 21) = some o) : DyX n xlL g o.2 ∧ FrW (WRm n) h o.2 := by
  unfold sX2_toldMan at e
  obtain ⟨o_1, eo_1, e⟩ := cl_s e
  obtain ⟨ko_1, fo_1⟩ := wz_X2_oneLetter k eo_1
  rcases br_s e with ⟨_, e⟩ | ⟨_, e⟩
  · exact ⟨(wz_X2_toldMan_22 ko_1 e).1, fw_t fo_1 (wz_X2_toldMan_22 ko_1 e).2⟩
  · obtain ⟨r_3, er_3, e⟩ := cl_s e
    have yr_3 := dx_xd (a := 21) (b := 5) ko_1 (by decide) er_3
    subst yr_3
    obtain ⟨o_4, eo_4, e⟩ := cl_s e
    obtain ⟨ko_4, fo_4⟩ := wz_X1_manOf ko_1 eo_4
    replace fo_4 := fw_t fo_1 fo_4
    exact ⟨(wz_X2_toldMan_22 ko_4 e).1, fw_t fo_4 (wz_X2_toldMan_22 ko_4 e).2⟩
theorem wz_X2_takeRoyal_35 {n : Nat} {g : Hp} {F : Nat} {o : Int32 × Hp} {h : Hp} (k : DyX n xlL g h) (e : sX2_takeRoyal_35 F h = some o) : DyX n xlL g o.2 ∧ FrW (WRm n) h o.2 := by
  unfold sX2_takeRoyal_35 at e
  rw [← Option.some.inj e]; exact ⟨k, fw_0⟩
theorem wz_X1_becomesOthers_24 {n : Nat} {g : Hp} {o : Int32 × Hp} {t0 : Int32} {h : Hp} (k : DyX n xlL g h) (e : sX1_becomesOthers_24 h t0 = some o) : DyX n xlL g o.2 ∧ FrW (WRm n) h o.2 := by
  unfold sX1_becomesOthers_24 at e
  replace e := (gd_s e).2
  rw [← Option.some.inj e]; exact ⟨k, fw_0⟩
theorem wz_X1_becomesOthers_23 {n : Nat} {g : Hp} {o : Int32 × Hp} {h : Hp} (k : DyX n xlL g h) (e : sX1_becomesOthers_23 h = some o) : DyX n xlL g o.2 ∧ FrW (WRm n) h o.2 := by
  unfold sX1_becomesOthers_23 at e
  exact wz_X1_becomesOthers_24 k e
theorem wz_X1_becomesOthers {n : Nat} {g : Hp} {o : Int32 × Hp} {x1 : Int32} {h : Hp} (k : DyX n xlL g h) (e : sX1_becomesOthers h (n + 5) x1 = some o) : DyX n xlL g o.2 ∧ FrW (WRm n) h o.2 := by
  unfold sX1_becomesOthers at e
  rcases br_s e with ⟨_, e⟩ | ⟨_, e⟩
  · exact wz_X1_becomesOthers_23 k e
  · rcases br_s e with ⟨_, e⟩ | ⟨_, e⟩
    · exact wz_X1_becomesOthers_23 k e
    · obtain ⟨r_3, er_3, e⟩ := cl_s e
      have yr_3 := dx_ed (a := 5) (b := 10) k (by decide +kernel) er_3
      subst yr_3
      replace e := (gd_s e).2
      rcases br_s e with ⟨_, e⟩ | ⟨_, e⟩
      · exact wz_X1_becomesOthers_23 k e
      · exact wz_X1_becomesOthers_24 k e
theorem wz_X2_takeRoyal {n : Nat} {g : Hp} {F : Nat} {o : Int32 × Hp} {h : Hp} (k : DyX n xlL g h) (e : sX2_takeRoyal F h (n + 21) = some o) : DyX n xlL g o.2 ∧ FrW (WRm n) h o.2 := by
  unfold sX2_takeRoyal at e
  obtain ⟨o_1, eo_1, e⟩ := cl_s e
  obtain ⟨ko_1, fo_1⟩ := wz_X2_toldMan k eo_1
  rcases br_s e with ⟨_, e⟩ | ⟨_, e⟩
  · exact ⟨(wz_X2_takeRoyal_35 ko_1 e).1, fw_t fo_1 (wz_X2_takeRoyal_35 ko_1 e).2⟩
  · obtain ⟨r_3, er_3, e⟩ := cl_s e
    have yr_3 := dx_xd (a := 21) (b := 5) ko_1 (by decide) er_3
    subst yr_3
    obtain ⟨o_4, eo_4, e⟩ := cl_s e
    obtain ⟨ko_4, fo_4⟩ := wz_X1_becomesOthers ko_1 eo_4
    replace fo_4 := fw_t fo_1 fo_4
    rcases br_s e with ⟨_, e⟩ | ⟨_, e⟩
    · obtain ⟨r_6, er_6, e⟩ := cl_s e
      have yr_6 := dx_xd (a := 21) (b := 5) ko_4 (by decide) er_6
      subst yr_6
      rcases br_s e with ⟨_, e⟩ | ⟨_, e⟩
      · obtain ⟨r_8, er_8, e⟩ := cl_s e
        have yr_8 := dx_xd (a := 21) (b := 5) ko_4 (by decide) er_8
        subst yr_8
        obtain ⟨h_9, wh_9, e⟩ := nm_s e
        have kh_9 : DyX n xlL g h_9 := by rw [wh_9]; exact dx_wI ko_4
        have fh_9 : FrW (WRm n) h h_9 := by rw [wh_9]; exact fw_wI fo_4 (by unfold WRm; omega)
        obtain ⟨o_10, eo_10, e⟩ := cl_s e
        obtain ⟨ko_10, fo_10⟩ := wz_X2_advance kh_9 eo_10
        replace fo_10 := fw_t fh_9 fo_10
        rw [← Option.some.inj e]; exact ⟨ko_10, fo_10⟩
      · exact ⟨(wz_X2_takeRoyal_35 ko_4 e).1, fw_t fo_4 (wz_X2_takeRoyal_35 ko_4 e).2⟩
    · exact ⟨(wz_X2_takeRoyal_35 ko_4 e).1, fw_t fo_4 (wz_X2_takeRoyal_35 ko_4 e).2⟩
theorem wz_X2_takeCastle_21 {n : Nat} {g : Hp} {F : Nat} {o : Int32 × Hp} {h : Hp} (k : DyX n xlL g h) (e : sX2_takeCastle_21 F h = some o) : DyX n xlL g o.2 ∧ FrW (WRm n) h o.2 := by
  unfold sX2_takeCastle_21 at e
  rw [← Option.some.inj e]; exact ⟨k, fw_0⟩
theorem wz_X2_takeCastle {n : Nat} {g : Hp} {F : Nat} {o : Int32 × Hp} {h : Hp} (k : DyX n xlL g h) (e : sX2_takeCastle F h (n + 21) = some o) : DyX n xlL g o.2 ∧ FrW (WRm n) h o.2 := by
  unfold sX2_takeCastle at e
  obtain ⟨o_1, eo_1, e⟩ := cl_s e
  obtain ⟨ko_1, fo_1⟩ := wz_X2_toldMan k eo_1
  rcases br_s e with ⟨_, e⟩ | ⟨_, e⟩
  · exact ⟨(wz_X2_takeCastle_21 ko_1 e).1, fw_t fo_1 (wz_X2_takeCastle_21 ko_1 e).2⟩
  · obtain ⟨r_3, er_3, e⟩ := cl_s e
    have yr_3 := dx_xd (a := 21) (b := 5) ko_1 (by decide) er_3
    subst yr_3
    rcases br_s e with ⟨_, e⟩ | ⟨_, e⟩
    · exact ⟨(wz_X2_takeCastle_21 ko_1 e).1, fw_t fo_1 (wz_X2_takeCastle_21 ko_1 e).2⟩
    · obtain ⟨r_5, er_5, e⟩ := cl_s e
      have yr_5 := dx_xd (a := 21) (b := 5) ko_1 (by decide) er_5
      subst yr_5
      obtain ⟨h_6, wh_6, e⟩ := nm_s e
      have kh_6 : DyX n xlL g h_6 := by rw [wh_6]; exact dx_wI ko_1
      have fh_6 : FrW (WRm n) h h_6 := by rw [wh_6]; exact fw_wI fo_1 (by unfold WRm; omega)
      obtain ⟨o_7, eo_7, e⟩ := cl_s e
      obtain ⟨ko_7, fo_7⟩ := wz_X2_advance kh_6 eo_7
      replace fo_7 := fw_t fh_6 fo_7
      rw [← Option.some.inj e]; exact ⟨ko_7, fo_7⟩
theorem wz_X2_takeBlast_81 {n : Nat} {g : Hp} {F : Nat} {o : Int32 × Hp} {h : Hp} (k : DyX n xlL g h) (e : sX2_takeBlast_81 F h = some o) : DyX n xlL g o.2 ∧ FrW (WRm n) h o.2 := by
  unfold sX2_takeBlast_81 at e
  rw [← Option.some.inj e]; exact ⟨k, fw_0⟩
theorem wz_X2_takeBlast_54 {n : Nat} {g : Hp} {F : Nat} {o : Int32 × Hp} {h : Hp} (k : DyX n xlL g h) (e : sX2_takeBlast_54 F h = some o) : DyX n xlL g o.2 ∧ FrW (WRm n) h o.2 := by
  unfold sX2_takeBlast_54 at e
  rw [← Option.some.inj e]; exact ⟨k, fw_0⟩
theorem wz_X2_takeBlast_16 {n : Nat} {g : Hp} {F : Nat} {o : Int32 × Hp} : ∀ (f : Nat) {h : Hp} {x1 : Int32}, DyX n xlL g h → sX2_takeBlast_16 F f h (n + 21) x1 = some o → DyX n xlL g o.2 ∧ FrW (WRm n) h o.2 := by
  intro f
  induction f with
  | zero => intro h x1 _ e; exact absurd e (by rw [sX2_takeBlast_16]; exact fun z => nomatch z)
  | succ f ih =>
    intro h x1 k e
    rw [sX2_takeBlast_16] at e
    rcases br_s e with ⟨_, e⟩ | ⟨_, e⟩
    · exact wz_X2_takeBlast_81 k e
    · rcases br_s e with ⟨_, e⟩ | ⟨_, e⟩
      · obtain ⟨o_3, eo_3, e⟩ := cl_s e
        obtain ⟨ko_3, fo_3⟩ := wz_X2_toldMan k eo_3
        rcases br_s e with ⟨_, e⟩ | ⟨_, e⟩
        · exact ⟨(wz_X2_takeBlast_54 ko_3 e).1, fw_t fo_3 (wz_X2_takeBlast_54 ko_3 e).2⟩
        · obtain ⟨r_5, er_5, e⟩ := cl_s e
          have yr_5 := dx_xd (a := 21) (b := 5) ko_3 (by decide) er_5
          subst yr_5
          rcases br_s e with ⟨_, e⟩ | ⟨_, e⟩
          · obtain ⟨r_7, er_7, e⟩ := cl_s e
            have yr_7 := dx_xd (a := 21) (b := 5) ko_3 (by decide) er_7
            subst yr_7
            obtain ⟨h_8, wh_8, e⟩ := nm_s e
            have kh_8 : DyX n xlL g h_8 := by rw [wh_8]; exact dx_wI ko_3
            have fh_8 : FrW (WRm n) h h_8 := by rw [wh_8]; exact fw_wI fo_3 (by unfold WRm; omega)
            obtain ⟨o_9, eo_9, e⟩ := cl_s e
            obtain ⟨ko_9, fo_9⟩ := wz_X2_advance kh_8 eo_9
            replace fo_9 := fw_t fh_8 fo_9
            obtain ⟨v_10, wv_10, e⟩ := nm_s e
            exact ⟨(ih ko_9 e).1, fw_t fo_9 (ih ko_9 e).2⟩
          · exact ⟨(wz_X2_takeBlast_54 ko_3 e).1, fw_t fo_3 (wz_X2_takeBlast_54 ko_3 e).2⟩
      · exact wz_X2_takeBlast_81 k e
theorem wz_X2_takeBlast {n : Nat} {g : Hp} {F : Nat} {o : Int32 × Hp} {h : Hp} (k : DyX n xlL g h) (e : sX2_takeBlast F h (n + 21) = some o) : DyX n xlL g o.2 ∧ FrW (WRm n) h o.2 := by
  unfold sX2_takeBlast at e
  obtain ⟨r_1, er_1, e⟩ := cl_s e
  have yr_1 := dx_xd (a := 21) (b := 5) k (by decide) er_1
  subst yr_1
  obtain ⟨h_2, wh_2, e⟩ := nm_s e
  have kh_2 : DyX n xlL g h_2 := by rw [wh_2]; exact dx_wI k
  have fh_2 : FrW (WRm n) h h_2 := by rw [wh_2]; exact fw_wI fw_0 (by unfold WRm; omega)
  exact ⟨(wz_X2_takeBlast_16 F kh_2 e).1, fw_t fh_2 (wz_X2_takeBlast_16 F kh_2 e).2⟩
theorem wz_X2_takeChecks {n : Nat} {g : Hp} {F : Nat} {o : Int32 × Hp} {h : Hp} (k : DyX n xlL g h) (e : sX2_takeChecks F h (n + 21) = some o) : DyX n xlL g o.2 ∧ FrW (WRm n) h o.2 := by
  unfold sX2_takeChecks at e
  obtain ⟨o_1, eo_1, e⟩ := cl_s e
  obtain ⟨ko_1, fo_1⟩ := wz_X2_isNumber k eo_1
  rcases br_s e with ⟨_, e⟩ | ⟨_, e⟩
  · rw [← Option.some.inj e]; exact ⟨ko_1, fo_1⟩
  · obtain ⟨r_3, er_3, e⟩ := cl_s e
    have yr_3 := dx_xd (a := 21) (b := 5) ko_1 (by decide) er_3
    subst yr_3
    obtain ⟨h_4, wh_4, e⟩ := nm_s e
    have kh_4 : DyX n xlL g h_4 := by rw [wh_4]; exact dx_wI ko_1
    have fh_4 : FrW (WRm n) h h_4 := by rw [wh_4]; exact fw_wI fo_1 (by unfold WRm; omega)
    obtain ⟨o_5, eo_5, e⟩ := cl_s e
    obtain ⟨ko_5, fo_5⟩ := wz_X2_advance kh_4 eo_5
    replace fo_5 := fw_t fh_4 fo_5
    rw [← Option.some.inj e]; exact ⟨ko_5, fo_5⟩
theorem wz_X2_takeHill_128 {n : Nat} {g : Hp} {F : Nat} {o : Int32 × Hp} {h : Hp} (k : DyX n xlL g h) (e : sX2_takeHill_128 F h = some o) : DyX n xlL g o.2 ∧ FrW (WRm n) h o.2 := by
  unfold sX2_takeHill_128 at e
  rw [← Option.some.inj e]; exact ⟨k, fw_0⟩
theorem wz_X2_takeHill_44 {n : Nat} {g : Hp} {F : Nat} {o : Int32 × Hp} {h : Hp} (k : DyX n xlL g h) (e : sX2_takeHill_44 F h = some o) : DyX n xlL g o.2 ∧ FrW (WRm n) h o.2 := by
  unfold sX2_takeHill_44 at e
  rw [← Option.some.inj e]; exact ⟨k, fw_0⟩
theorem wz_X2_takeHill_20 {n : Nat} {g : Hp} {F : Nat} {o : Int32 × Hp} {x1 : Int32} {k_2 : Hp → Nat → Int32 → Option (Int32 × Hp)} (D_2 : ∀ {h : Hp} {y2 : Int32}, DyX n xlL g h → k_2 h (n + 21) y2 = some o → DyX n xlL g o.2 ∧ FrW (WRm n) h o.2) {h : Hp} (k : DyX n xlL g h) (e : sX2_takeHill_20 F k_2 h (n + 21) x1 = some o) : DyX n xlL g o.2 ∧ FrW (WRm n) h o.2 := by
  unfold sX2_takeHill_20 at e
  obtain ⟨o_1, eo_1, e⟩ := cl_s e
  obtain ⟨ko_1, fo_1⟩ := wz_X2_oneLetter k eo_1
  rcases br_s e with ⟨_, e⟩ | ⟨_, e⟩
  · exact ⟨(wz_X2_takeHill_44 ko_1 e).1, fw_t fo_1 (wz_X2_takeHill_44 ko_1 e).2⟩
  · obtain ⟨r_3, er_3, e⟩ := cl_s e
    have yr_3 := dx_xd (a := 21) (b := 5) ko_1 (by decide) er_3
    subst yr_3
    rcases br_s e with ⟨_, e⟩ | ⟨_, e⟩
    · obtain ⟨o_5, eo_5, e⟩ := cl_s e
      obtain ⟨ko_5, fo_5⟩ := wz_X2_advance ko_1 eo_5
      replace fo_5 := fw_t fo_1 fo_5
      obtain ⟨r_6, er_6, e⟩ := cl_s e
      have yr_6 := dx_xd (a := 21) (b := 5) ko_5 (by decide) er_6
      subst yr_6
      obtain ⟨o_7, eo_7, e⟩ := cl_s e
      obtain ⟨ko_7, fo_7⟩ := wz_X2_isNumber ko_5 eo_7
      replace fo_7 := fw_t fo_5 fo_7
      rcases br_s e with ⟨_, e⟩ | ⟨_, e⟩
      · rw [← Option.some.inj e]; exact ⟨ko_7, fo_7⟩
      · obtain ⟨r_9, er_9, e⟩ := cl_s e
        have yr_9 := dx_xd (a := 21) (b := 5) ko_7 (by decide) er_9
        subst yr_9
        obtain ⟨v_10, wv_10, e⟩ := nm_s e
        obtain ⟨r_11, er_11, e⟩ := cl_s e
        have yr_11 := dx_xd (a := 21) (b := 5) ko_7 (by decide) er_11
        subst yr_11
        rcases br_s e with ⟨_, e⟩ | ⟨_, e⟩
        · obtain ⟨r_13, er_13, e⟩ := cl_s e
          have yr_13 := dx_xd (a := 21) (b := 5) ko_7 (by decide) er_13
          subst yr_13
          obtain ⟨h_14, wh_14, e⟩ := nm_s e
          have kh_14 : DyX n xlL g h_14 := by rw [wh_14]; exact dx_wJ ko_7
          have fh_14 : FrW (WRm n) h h_14 := by rw [wh_14]; exact fw_wJ fo_7 (by unfold WRm; omega)
          obtain ⟨o_15, eo_15, e⟩ := cl_s e
          obtain ⟨ko_15, fo_15⟩ := wz_X2_advance kh_14 eo_15
          replace fo_15 := fw_t fh_14 fo_15
          obtain ⟨v_16, wv_16, e⟩ := nm_s e
          exact ⟨(D_2 ko_15 e).1, fw_t fo_15 (D_2 ko_15 e).2⟩
        · rw [← Option.some.inj e]; exact ⟨ko_7, fo_7⟩
    · exact ⟨(wz_X2_takeHill_44 ko_1 e).1, fw_t fo_1 (wz_X2_takeHill_44 ko_1 e).2⟩
theorem wz_X2_takeHill_2 {n : Nat} {g : Hp} {F : Nat} {o : Int32 × Hp} : ∀ (f : Nat) {h : Hp} {x1 : Int32}, DyX n xlL g h → sX2_takeHill_2 F f h (n + 21) x1 = some o → DyX n xlL g o.2 ∧ FrW (WRm n) h o.2 := by
  intro f
  induction f with
  | zero => intro h x1 _ e; exact absurd e (by rw [sX2_takeHill_2]; exact fun z => nomatch z)
  | succ f ih =>
    intro h x1 k e
    rw [sX2_takeHill_2] at e
    rcases br_s e with ⟨_, e⟩ | ⟨_, e⟩
    · exact wz_X2_takeHill_128 k e
    · rcases br_s e with ⟨_, e⟩ | ⟨_, e⟩
      · exact wz_X2_takeHill_20 (fun k e => ih k e) k e
      · rcases br_s e with ⟨_, e⟩ | ⟨_, e⟩
        · exact wz_X2_takeHill_20 (fun k e => ih k e) k e
        · exact wz_X2_takeHill_128 k e
theorem wz_X2_takeHill {n : Nat} {g : Hp} {F : Nat} {o : Int32 × Hp} {h : Hp} (k : DyX n xlL g h) (e : sX2_takeHill F h (n + 21) = some o) : DyX n xlL g o.2 ∧ FrW (WRm n) h o.2 := by
  unfold sX2_takeHill at e
  exact wz_X2_takeHill_2 F k e
theorem wz_X2_wonOrLost_36 {n : Nat} {g : Hp} {F : Nat} {o : Int32 × Hp} {x1 : Int32} {h : Hp} (k : DyX n xlL g h) (e : sX2_wonOrLost_36 F h x1 = some o) : DyX n xlL g o.2 ∧ FrW (WRm n) h o.2 := by
  unfold sX2_wonOrLost_36 at e
  rw [← Option.some.inj e]; exact ⟨k, fw_0⟩
theorem wz_X2_wonOrLost_27 {n : Nat} {g : Hp} {F : Nat} {o : Int32 × Hp} {t0 : Int32} {h : Hp} (k : DyX n xlL g h) (e : sX2_wonOrLost_27 F h (n + 21) t0 = some o) : DyX n xlL g o.2 ∧ FrW (WRm n) h o.2 := by
  unfold sX2_wonOrLost_27 at e
  rcases br_s e with ⟨_, e⟩ | ⟨_, e⟩
  · exact wz_X2_wonOrLost_36 k e
  · obtain ⟨o_2, eo_2, e⟩ := cl_s e
    obtain ⟨ko_2, fo_2⟩ := wz_X2_advance k eo_2
    exact ⟨(wz_X2_wonOrLost_36 ko_2 e).1, fw_t fo_2 (wz_X2_wonOrLost_36 ko_2 e).2⟩
theorem wz_X2_wonOrLost {n : Nat} {g : Hp} {F : Nat} {o : Int32 × Hp} {h : Hp} (k : DyX n xlL g h) (e : sX2_wonOrLost F h (n + 21) = some o) : DyX n xlL g o.2 ∧ FrW (WRm n) h o.2 := by
  unfold sX2_wonOrLost at e
  obtain ⟨o_1, eo_1, e⟩ := cl_s e
  obtain ⟨ko_1, fo_1⟩ := wz_X2_isWord k eo_1
  rcases br_s e with ⟨_, e⟩ | ⟨_, e⟩
  · obtain ⟨o_3, eo_3, e⟩ := cl_s e
    obtain ⟨ko_3, fo_3⟩ := wz_X2_isWord ko_1 eo_3
    replace fo_3 := fw_t fo_1 fo_3
    rcases br_s e with ⟨_, e⟩ | ⟨_, e⟩
    · exact ⟨(wz_X2_wonOrLost_27 ko_3 e).1, fw_t fo_3 (wz_X2_wonOrLost_27 ko_3 e).2⟩
    · exact ⟨(wz_X2_wonOrLost_27 ko_3 e).1, fw_t fo_3 (wz_X2_wonOrLost_27 ko_3 e).2⟩
  · exact ⟨(wz_X2_wonOrLost_27 ko_1 e).1, fw_t fo_1 (wz_X2_wonOrLost_27 ko_1 e).2⟩
theorem wz_X2_takeOnce_180 {n : Nat} {g : Hp} {F : Nat} {o : Int32 × Hp} {t0 : Int32} {h : Hp} (k : DyX n xlL g h) (e : sX2_takeOnce_180 F h t0 = some o) : DyX n xlL g o.2 ∧ FrW (WRm n) h o.2 := by
  unfold sX2_takeOnce_180 at e
  replace e := (gd_s e).2
  rw [← Option.some.inj e]; exact ⟨k, fw_0⟩
theorem wz_X2_takeOnce_207 {n : Nat} {g : Hp} {F : Nat} {o : Int32 × Hp} {t0 : Int32} {h : Hp} (k : DyX n xlL g h) (e : sX2_takeOnce_207 F h t0 = some o) : DyX n xlL g o.2 ∧ FrW (WRm n) h o.2 := by
  unfold sX2_takeOnce_207 at e
  replace e := (gd_s e).2
  rw [← Option.some.inj e]; exact ⟨k, fw_0⟩
theorem wz_X2_takeOnce {n : Nat} {g : Hp} {F : Nat} {o : Int32 × Hp} {x1 : Int32} {h : Hp} (k : DyX n xlL g h) (e : sX2_takeOnce F h (n + 21) x1 = some o) : DyX n xlL g o.2 ∧ FrW (WRm n) h o.2 := by
  unfold sX2_takeOnce at e
  rcases br_s e with ⟨_, e⟩ | ⟨_, e⟩
  · obtain ⟨o_1, eo_1, e⟩ := cl_s e
    obtain ⟨ko_1, fo_1⟩ := wz_X2_takeRoyal k eo_1
    replace e := (gd_s e).2
    rw [← Option.some.inj e]; exact ⟨ko_1, fo_1⟩
  · rcases br_s e with ⟨_, e⟩ | ⟨_, e⟩
    · obtain ⟨o_4, eo_4, e⟩ := cl_s e
      obtain ⟨ko_4, fo_4⟩ := wz_X2_takeCastle k eo_4
      replace e := (gd_s e).2
      rw [← Option.some.inj e]; exact ⟨ko_4, fo_4⟩
    · rcases br_s e with ⟨_, e⟩ | ⟨_, e⟩
      · obtain ⟨r_7, er_7, e⟩ := cl_s e
        have yr_7 := dx_xd (a := 21) (b := 5) k (by decide) er_7
        subst yr_7
        obtain ⟨h_8, wh_8, e⟩ := nm_s e
        have kh_8 : DyX n xlL g h_8 := by rw [wh_8]; exact dx_wI k
        have fh_8 : FrW (WRm n) h h_8 := by rw [wh_8]; exact fw_wI fw_0 (by unfold WRm; omega)
        rw [← Option.some.inj e]; exact ⟨kh_8, fh_8⟩
      · rcases br_s e with ⟨_, e⟩ | ⟨_, e⟩
        · obtain ⟨r_10, er_10, e⟩ := cl_s e
          have yr_10 := dx_xd (a := 21) (b := 5) k (by decide) er_10
          subst yr_10
          obtain ⟨h_11, wh_11, e⟩ := nm_s e
          have kh_11 : DyX n xlL g h_11 := by rw [wh_11]; exact dx_wI k
          have fh_11 : FrW (WRm n) h h_11 := by rw [wh_11]; exact fw_wI fw_0 (by unfold WRm; omega)
          rw [← Option.some.inj e]; exact ⟨kh_11, fh_11⟩
        · rcases br_s e with ⟨_, e⟩ | ⟨_, e⟩
          · obtain ⟨r_13, er_13, e⟩ := cl_s e
            have yr_13 := dx_xd (a := 21) (b := 5) k (by decide) er_13
            subst yr_13
            obtain ⟨h_14, wh_14, e⟩ := nm_s e
            have kh_14 : DyX n xlL g h_14 := by rw [wh_14]; exact dx_wI k
            have fh_14 : FrW (WRm n) h h_14 := by rw [wh_14]; exact fw_wI fw_0 (by unfold WRm; omega)
            rw [← Option.some.inj e]; exact ⟨kh_14, fh_14⟩
          · rcases br_s e with ⟨_, e⟩ | ⟨_, e⟩
            · obtain ⟨o_16, eo_16, e⟩ := cl_s e
              obtain ⟨ko_16, fo_16⟩ := wz_X2_takeBlast k eo_16
              replace e := (gd_s e).2
              rw [← Option.some.inj e]; exact ⟨ko_16, fo_16⟩
            · rcases br_s e with ⟨_, e⟩ | ⟨_, e⟩
              · obtain ⟨o_19, eo_19, e⟩ := cl_s e
                obtain ⟨ko_19, fo_19⟩ := wz_X2_takeChecks k eo_19
                replace e := (gd_s e).2
                rw [← Option.some.inj e]; exact ⟨ko_19, fo_19⟩
              · rcases br_s e with ⟨_, e⟩ | ⟨_, e⟩
                · obtain ⟨o_22, eo_22, e⟩ := cl_s e
                  obtain ⟨ko_22, fo_22⟩ := wz_X2_takeHill k eo_22
                  replace e := (gd_s e).2
                  rw [← Option.some.inj e]; exact ⟨ko_22, fo_22⟩
                · rcases br_s e with ⟨_, e⟩ | ⟨_, e⟩
                  · obtain ⟨r_25, er_25, e⟩ := cl_s e
                    have yr_25 := dx_xd (a := 21) (b := 5) k (by decide) er_25
                    subst yr_25
                    obtain ⟨o_26, eo_26, e⟩ := cl_s e
                    obtain ⟨ko_26, fo_26⟩ := wz_X2_wonOrLost k eo_26
                    obtain ⟨h_27, wh_27, e⟩ := nm_s e
                    have kh_27 : DyX n xlL g h_27 := by rw [wh_27]; exact dx_wI ko_26
                    have fh_27 : FrW (WRm n) h h_27 := by rw [wh_27]; exact fw_wI fo_26 (by unfold WRm; omega)
                    obtain ⟨r_28, er_28, e⟩ := cl_s e
                    have yr_28 := dx_xd (a := 21) (b := 5) kh_27 (by decide) er_28
                    subst yr_28
                    rcases br_s e with ⟨_, e⟩ | ⟨_, e⟩
                    · exact ⟨(wz_X2_takeOnce_180 kh_27 e).1, fw_t fh_27 (wz_X2_takeOnce_180 kh_27 e).2⟩
                    · exact ⟨(wz_X2_takeOnce_180 kh_27 e).1, fw_t fh_27 (wz_X2_takeOnce_180 kh_27 e).2⟩
                  · obtain ⟨r_31, er_31, e⟩ := cl_s e
                    have yr_31 := dx_xd (a := 21) (b := 5) k (by decide) er_31
                    subst yr_31
                    obtain ⟨o_32, eo_32, e⟩ := cl_s e
                    obtain ⟨ko_32, fo_32⟩ := wz_X2_wonOrLost k eo_32
                    obtain ⟨h_33, wh_33, e⟩ := nm_s e
                    have kh_33 : DyX n xlL g h_33 := by rw [wh_33]; exact dx_wI ko_32
                    have fh_33 : FrW (WRm n) h h_33 := by rw [wh_33]; exact fw_wI fo_32 (by unfold WRm; omega)
                    obtain ⟨r_34, er_34, e⟩ := cl_s e
                    have yr_34 := dx_xd (a := 21) (b := 5) kh_33 (by decide) er_34
                    subst yr_34
                    rcases br_s e with ⟨_, e⟩ | ⟨_, e⟩
                    · exact ⟨(wz_X2_takeOnce_207 kh_33 e).1, fw_t fh_33 (wz_X2_takeOnce_207 kh_33 e).2⟩
                    · exact ⟨(wz_X2_takeOnce_207 kh_33 e).1, fw_t fh_33 (wz_X2_takeOnce_207 kh_33 e).2⟩
theorem wz_X2_takeOther_26 {n : Nat} {g : Hp} {F : Nat} {o : Int32 × Hp} {x1 : Int32} {t0 : Int32} {h : Hp} (k : DyX n xlL g h) (e : sX2_takeOther_26 F h (n + 21) x1 t0 = some o) : DyX n xlL g o.2 ∧ FrW (WRm n) h o.2 := by
  unfold sX2_takeOther_26 at e
  rcases br_s e with ⟨_, e⟩ | ⟨_, e⟩
  · exact wz_X2_takeOther_44 k e
  · rcases br_s e with ⟨_, e⟩ | ⟨_, e⟩
    · rcases br_s e with ⟨_, e⟩ | ⟨_, e⟩
      · obtain ⟨h_4, wh_4, e⟩ := nm_s e
        have kh_4 : DyX n xlL g h_4 := by rw [wh_4]; exact dx_wI k
        have fh_4 : FrW (WRm n) h h_4 := by rw [wh_4]; exact fw_wI fw_0 (by unfold WRm; omega)
        obtain ⟨o_5, eo_5, e⟩ := cl_s e
        obtain ⟨ko_5, fo_5⟩ := wz_X2_advance kh_4 eo_5
        replace fo_5 := fw_t fh_4 fo_5
        obtain ⟨o_6, eo_6, e⟩ := cl_s e
        obtain ⟨ko_6, fo_6⟩ := wz_X2_takeOnce ko_5 eo_6
        replace fo_6 := fw_t fo_5 fo_6
        replace e := (gd_s e).2
        rw [← Option.some.inj e]; exact ⟨ko_6, fo_6⟩
      · exact wz_X2_takeOther_44 k e
    · exact wz_X2_takeOther_44 k e
theorem wz_X2_takeOther_25 {n : Nat} {g : Hp} {F : Nat} {o : Int32 × Hp} {x1 : Int32} {h : Hp} (k : DyX n xlL g h) (e : sX2_takeOther_25 F h (n + 21) x1 = some o) : DyX n xlL g o.2 ∧ FrW (WRm n) h o.2 := by
  unfold sX2_takeOther_25 at e
  exact wz_X2_takeOther_26 k e
theorem wz_X2_takeOther {n : Nat} {g : Hp} {F : Nat} {o : Int32 × Hp} {h : Hp} (k : DyX n xlL g h) (e : sX2_takeOther F h (n + 21) = some o) : DyX n xlL g o.2 ∧ FrW (WRm n) h o.2 := by
  unfold sX2_takeOther at e
  obtain ⟨o_1, eo_1, e⟩ := cl_s e
  obtain ⟨ko_1, fo_1⟩ := wz_X2_onceWord k eo_1
  rcases br_s e with ⟨_, e⟩ | ⟨_, e⟩
  · obtain ⟨r_3, er_3, e⟩ := cl_s e
    have yr_3 := dx_xd (a := 21) (b := 5) ko_1 (by decide) er_3
    subst yr_3
    rcases br_s e with ⟨_, e⟩ | ⟨_, e⟩
    · exact ⟨(wz_X2_takeOther_26 ko_1 e).1, fw_t fo_1 (wz_X2_takeOther_26 ko_1 e).2⟩
    · exact ⟨(wz_X2_takeOther_25 ko_1 e).1, fw_t fo_1 (wz_X2_takeOther_25 ko_1 e).2⟩
  · exact ⟨(wz_X2_takeOther_25 ko_1 e).1, fw_t fo_1 (wz_X2_takeOther_25 ko_1 e).2⟩
theorem wz_X2_read_111 {n : Nat} {g : Hp} {F : Nat} {o : Int32 × Hp} {x4 : Int32} {t0 : Int32} {k_39 : Hp → Nat → Int32 → Int32 → Option (Int32 × Hp)} (D_39 : ∀ {h : Hp} {y2 : Int32} {y3 : Int32}, DyX n xlL g h → k_39 h (n + 21) y2 y3 = some o → DyX n xlL g o.2 ∧ FrW (WRm n) h o.2) {h : Hp} (k : DyX n xlL g h) (e : sX2_read_111 F k_39 h (n + 21) x4 t0 = some o) : DyX n xlL g o.2 ∧ FrW (WRm n) h o.2 := by
  unfold sX2_read_111 at e
  obtain ⟨v_1, wv_1, e⟩ := nm_s e
  exact D_39 k e
theorem wz_X2_read_110 {n : Nat} {g : Hp} {F : Nat} {o : Int32 × Hp} {x4 : Int32} {k_39 : Hp → Nat → Int32 → Int32 → Option (Int32 × Hp)} (D_39 : ∀ {h : Hp} {y2 : Int32} {y3 : Int32}, DyX n xlL g h → k_39 h (n + 21) y2 y3 = some o → DyX n xlL g o.2 ∧ FrW (WRm n) h o.2) {h : Hp} (k : DyX n xlL g h) (e : sX2_read_110 F k_39 h (n + 21) x4 = some o) : DyX n xlL g o.2 ∧ FrW (WRm n) h o.2 := by
  unfold sX2_read_110 at e
  exact wz_X2_read_111 D_39 k e
theorem wz_X2_read_94 {n : Nat} {g : Hp} {F : Nat} {o : Int32 × Hp} {x4 : Int32} {t0 : Int32} {k_39 : Hp → Nat → Int32 → Int32 → Option (Int32 × Hp)} (D_39 : ∀ {h : Hp} {y2 : Int32} {y3 : Int32}, DyX n xlL g h → k_39 h (n + 21) y2 y3 = some o → DyX n xlL g o.2 ∧ FrW (WRm n) h o.2) {h : Hp} (k : DyX n xlL g h) (e : sX2_read_94 F k_39 h (n + 21) x4 t0 = some o) : DyX n xlL g o.2 ∧ FrW (WRm n) h o.2 := by
  unfold sX2_read_94 at e
  rcases br_s e with ⟨_, e⟩ | ⟨_, e⟩
  · exact wz_X2_read_110 D_39 k e
  · obtain ⟨o_2, eo_2, e⟩ := cl_s e
    obtain ⟨ko_2, fo_2⟩ := wz_X2_takeEnd k eo_2
    rcases br_s e with ⟨_, e⟩ | ⟨_, e⟩
    · exact ⟨(wz_X2_read_110 D_39 ko_2 e).1, fw_t fo_2 (wz_X2_read_110 D_39 ko_2 e).2⟩
    · exact ⟨(wz_X2_read_111 D_39 ko_2 e).1, fw_t fo_2 (wz_X2_read_111 D_39 ko_2 e).2⟩
theorem wz_X2_takeBecomes_50 {n : Nat} {g : Hp} {F : Nat} {o : Int32 × Hp} {h : Hp} (k : DyX n xlL g h) (e : sX2_takeBecomes_50 F h = some o) : DyX n xlL g o.2 ∧ FrW (WRm n) h o.2 := by
  unfold sX2_takeBecomes_50 at e
  rw [← Option.some.inj e]; exact ⟨k, fw_0⟩
theorem wz_X2_takeBecomes_217 {n : Nat} {g : Hp} {F : Nat} {o : Int32 × Hp} {t0 : Int32} {h : Hp} (k : DyX n xlL g h) (e : sX2_takeBecomes_217 F h t0 (n + 5) = some o) : DyX n xlL g o.2 ∧ FrW (WRm n) h o.2 := by
  unfold sX2_takeBecomes_217 at e
  obtain ⟨h_1, wh_1, e⟩ := nm_s e
  have kh_1 : DyX n xlL g h_1 := by rw [wh_1]; exact dx_wI k
  have fh_1 : FrW (WRm n) h h_1 := by rw [wh_1]; exact fw_wI fw_0 (by unfold WRm; omega)
  rw [← Option.some.inj e]; exact ⟨kh_1, fh_1⟩
theorem wz_X2_takeBecomes_178 {n : Nat} {g : Hp} {F : Nat} {o : Int32 × Hp} {x1 : Int32} {x2 : Int32} {h : Hp} (k : DyX n xlL g h) (e : sX2_takeBecomes_178 F h (n + 21) x1 x2 = some o) : DyX n xlL g o.2 ∧ FrW (WRm n) h o.2 := by
  unfold sX2_takeBecomes_178 at e
  obtain ⟨r_1, er_1, e⟩ := cl_s e
  have yr_1 := dx_xd (a := 21) (b := 5) k (by decide) er_1
  subst yr_1
  obtain ⟨h_2, wh_2, e⟩ := nm_s e
  have kh_2 : DyX n xlL g h_2 := by rw [wh_2]; exact dx_wI k
  have fh_2 : FrW (WRm n) h h_2 := by rw [wh_2]; exact fw_wI fw_0 (by unfold WRm; omega)
  obtain ⟨r_3, er_3, e⟩ := cl_s e
  have yr_3 := dx_xd (a := 21) (b := 5) kh_2 (by decide) er_3
  subst yr_3
  obtain ⟨r_4, er_4, e⟩ := cl_s e
  have yr_4 := dx_xd (a := 21) (b := 5) kh_2 (by decide) er_4
  subst yr_4
  rcases br_s e with ⟨_, e⟩ | ⟨_, e⟩
  · exact ⟨(wz_X2_takeBecomes_217 kh_2 e).1, fw_t fh_2 (wz_X2_takeBecomes_217 kh_2 e).2⟩
  · obtain ⟨r_6, er_6, e⟩ := cl_s e
    have yr_6 := dx_xd (a := 21) (b := 5) kh_2 (by decide) er_6
    subst yr_6
    exact ⟨(wz_X2_takeBecomes_217 kh_2 e).1, fw_t fh_2 (wz_X2_takeBecomes_217 kh_2 e).2⟩
theorem wz_X2_takeBecomes_108 {n : Nat} {g : Hp} {F : Nat} {o : Int32 × Hp} {h : Hp} (k : DyX n xlL g h) (e : sX2_takeBecomes_108 F h = some o) : DyX n xlL g o.2 ∧ FrW (WRm n) h o.2 := by
  unfold sX2_takeBecomes_108 at e
  rw [← Option.some.inj e]; exact ⟨k, fw_0⟩
theorem wz_X2_takeBecomes_131 {n : Nat} {g : Hp} {F : Nat} {o : Int32 × Hp} {h : Hp} (k : DyX n xlL g h) (e : sX2_takeBecomes_131 F h = some o) : DyX n xlL g o.2 ∧ FrW (WRm n) h o.2 := by
  unfold sX2_takeBecomes_131 at e
  rw [← Option.some.inj e]; exact ⟨k, fw_0⟩
theorem wz_X2_takeBecomes_78 {n : Nat} {g : Hp} {F : Nat} {o : Int32 × Hp} {x1 : Int32} {x2 : Int32} {x3 : Int32} {k_60 : Hp → Nat → Int32 → Int32 → Int32 → Option (Int32 × Hp)} (D_60 : ∀ {h : Hp} {y2 : Int32} {y3 : Int32} {y4 : Int32}, DyX n xlL g h → k_60 h (n + 21) y2 y3 y4 = some o → DyX n xlL g o.2 ∧ FrW (WRm n) h o.2) {h : Hp} (k : DyX n xlL g h) (e : sX2_takeBecomes_78 F k_60 h (n + 21) x1 x2 x3 = some o) : DyX n xlL g o.2 ∧ FrW (WRm n) h o.2 := by
  unfold sX2_takeBecomes_78 at e
  obtain ⟨o_1, eo_1, e⟩ := cl_s e
  obtain ⟨ko_1, fo_1⟩ := wz_X2_toldMan k eo_1
  rcases br_s e with ⟨_, e⟩ | ⟨_, e⟩
  · exact ⟨(wz_X2_takeBecomes_108 ko_1 e).1, fw_t fo_1 (wz_X2_takeBecomes_108 ko_1 e).2⟩
  · rcases br_s e with ⟨_, e⟩ | ⟨_, e⟩
    · exact ⟨(wz_X2_takeBecomes_108 ko_1 e).1, fw_t fo_1 (wz_X2_takeBecomes_108 ko_1 e).2⟩
    · obtain ⟨r_4, er_4, e⟩ := cl_s e
      have yr_4 := dx_xd (a := 21) (b := 5) ko_1 (by decide) er_4
      subst yr_4
      rcases br_s e with ⟨_, e⟩ | ⟨_, e⟩
      · exact ⟨(wz_X2_takeBecomes_108 ko_1 e).1, fw_t fo_1 (wz_X2_takeBecomes_108 ko_1 e).2⟩
      · obtain ⟨r_6, er_6, e⟩ := cl_s e
        have yr_6 := dx_xd (a := 21) (b := 5) ko_1 (by decide) er_6
        subst yr_6
        obtain ⟨o_7, eo_7, e⟩ := cl_s e
        obtain ⟨ko_7, fo_7⟩ := wz_X1_becomesOthers ko_1 eo_7
        replace fo_7 := fw_t fo_1 fo_7
        rcases br_s e with ⟨_, e⟩ | ⟨_, e⟩
        · rcases br_s e with ⟨_, e⟩ | ⟨_, e⟩
          · obtain ⟨v_10, wv_10, e⟩ := nm_s e
            obtain ⟨r_11, er_11, e⟩ := cl_s e
            have yr_11 := dx_xd (a := 21) (b := 5) ko_7 (by decide) er_11
            subst yr_11
            obtain ⟨r_12, er_12, e⟩ := cl_s e
            have yr_12 := dx_ed (a := 5) (b := 9) ko_7 (by decide +kernel) er_12
            subst yr_12
            replace e := (gd_s e).2
            obtain ⟨h_14, wh_14, e⟩ := nm_s e
            have kh_14 : DyX n xlL g h_14 := by rw [wh_14]; exact dx_wI ko_7
            have fh_14 : FrW (WRm n) h h_14 := by rw [wh_14]; exact fw_wI fo_7 (by unfold WRm; omega)
            obtain ⟨r_15, er_15, e⟩ := cl_s e
            have yr_15 := dx_xd (a := 21) (b := 5) kh_14 (by decide) er_15
            subst yr_15
            obtain ⟨r_16, er_16, e⟩ := cl_s e
            have yr_16 := dx_ed (a := 5) (b := 10) kh_14 (by decide +kernel) er_16
            subst yr_16
            replace e := (gd_s e).2
            obtain ⟨h_18, wh_18, e⟩ := nm_s e
            have kh_18 : DyX n xlL g h_18 := by rw [wh_18]; exact dx_wI kh_14
            have fh_18 : FrW (WRm n) h h_18 := by rw [wh_18]; exact fw_wI fh_14 (by unfold WRm; omega)
            obtain ⟨o_19, eo_19, e⟩ := cl_s e
            obtain ⟨ko_19, fo_19⟩ := wz_X2_advance kh_18 eo_19
            replace fo_19 := fw_t fh_18 fo_19
            obtain ⟨v_20, wv_20, e⟩ := nm_s e
            exact ⟨(D_60 ko_19 e).1, fw_t fo_19 (D_60 ko_19 e).2⟩
          · exact ⟨(wz_X2_takeBecomes_131 ko_7 e).1, fw_t fo_7 (wz_X2_takeBecomes_131 ko_7 e).2⟩
        · exact ⟨(wz_X2_takeBecomes_131 ko_7 e).1, fw_t fo_7 (wz_X2_takeBecomes_131 ko_7 e).2⟩
theorem wz_X2_takeBecomes_60 {n : Nat} {g : Hp} {F : Nat} {o : Int32 × Hp} : ∀ (f : Nat) {h : Hp} {x1 : Int32} {x2 : Int32} {x3 : Int32}, DyX n xlL g h → sX2_takeBecomes_60 F f h (n + 21) x1 x2 x3 = some o → DyX n xlL g o.2 ∧ FrW (WRm n) h o.2 := by
  intro f
  induction f with
  | zero => intro h x1 x2 x3 _ e; exact absurd e (by rw [sX2_takeBecomes_60]; exact fun z => nomatch z)
  | succ f ih =>
    intro h x1 x2 x3 k e
    rw [sX2_takeBecomes_60] at e
    rcases br_s e with ⟨_, e⟩ | ⟨_, e⟩
    · exact wz_X2_takeBecomes_178 k e
    · rcases br_s e with ⟨_, e⟩ | ⟨_, e⟩
      · exact wz_X2_takeBecomes_78 (fun k e => ih k e) k e
      · rcases br_s e with ⟨_, e⟩ | ⟨_, e⟩
        · exact wz_X2_takeBecomes_78 (fun k e => ih k e) k e
        · exact wz_X2_takeBecomes_178 k e
theorem wz_X2_takeBecomes {n : Nat} {g : Hp} {F : Nat} {o : Int32 × Hp} {h : Hp} (k : DyX n xlL g h) (e : sX2_takeBecomes F h (n + 21) = some o) : DyX n xlL g o.2 ∧ FrW (WRm n) h o.2 := by
  unfold sX2_takeBecomes at e
  obtain ⟨o_1, eo_1, e⟩ := cl_s e
  obtain ⟨ko_1, fo_1⟩ := wz_X2_advance k eo_1
  obtain ⟨o_2, eo_2, e⟩ := cl_s e
  obtain ⟨ko_2, fo_2⟩ := wz_X2_toldMan ko_1 eo_2
  replace fo_2 := fw_t fo_1 fo_2
  rcases br_s e with ⟨_, e⟩ | ⟨_, e⟩
  · exact ⟨(wz_X2_takeBecomes_50 ko_2 e).1, fw_t fo_2 (wz_X2_takeBecomes_50 ko_2 e).2⟩
  · obtain ⟨r_4, er_4, e⟩ := cl_s e
    have yr_4 := dx_xd (a := 21) (b := 5) ko_2 (by decide) er_4
    subst yr_4
    rcases br_s e with ⟨_, e⟩ | ⟨_, e⟩
    · exact ⟨(wz_X2_takeBecomes_50 ko_2 e).1, fw_t fo_2 (wz_X2_takeBecomes_50 ko_2 e).2⟩
    · obtain ⟨r_6, er_6, e⟩ := cl_s e
      have yr_6 := dx_xd (a := 21) (b := 5) ko_2 (by decide) er_6
      subst yr_6
      obtain ⟨o_7, eo_7, e⟩ := cl_s e
      obtain ⟨ko_7, fo_7⟩ := wz_X1_becomesOthers ko_2 eo_7
      replace fo_7 := fw_t fo_2 fo_7
      rcases br_s e with ⟨_, e⟩ | ⟨_, e⟩
      · obtain ⟨r_9, er_9, e⟩ := cl_s e
        have yr_9 := dx_xd (a := 21) (b := 5) ko_7 (by decide) er_9
        subst yr_9
        rcases br_s e with ⟨_, e⟩ | ⟨_, e⟩
        · obtain ⟨o_11, eo_11, e⟩ := cl_s e
          obtain ⟨ko_11, fo_11⟩ := wz_X2_advance ko_7 eo_11
          replace fo_11 := fw_t fo_7 fo_11
          exact ⟨(wz_X2_takeBecomes_60 F ko_11 e).1, fw_t fo_11 (wz_X2_takeBecomes_60 F ko_11 e).2⟩
        · exact ⟨(wz_X2_takeBecomes_50 ko_7 e).1, fw_t fo_7 (wz_X2_takeBecomes_50 ko_7 e).2⟩
      · exact ⟨(wz_X2_takeBecomes_50 ko_7 e).1, fw_t fo_7 (wz_X2_takeBecomes_50 ko_7 e).2⟩
theorem wz_X2_takeMan_38 {n : Nat} {g : Hp} {F : Nat} {o : Int32 × Hp} {h : Hp} (k : DyX n xlL g h) (e : sX2_takeMan_38 F h = some o) : DyX n xlL g o.2 ∧ FrW (WRm n) h o.2 := by
  unfold sX2_takeMan_38 at e
  rw [← Option.some.inj e]; exact ⟨k, fw_0⟩
theorem wz_X2_takeStep_103 {n : Nat} {g : Hp} {F : Nat} {o : Int32 × Hp} {h : Hp} (k : DyX n xlL g h) (e : sX2_takeStep_103 F h = some o) : DyX n xlL g o.2 ∧ FrW (WRm n) h o.2 := by
  unfold sX2_takeStep_103 at e
  rw [← Option.some.inj e]; exact ⟨k, fw_0⟩
theorem wz_X2_takeTail {n : Nat} {g : Hp} {F : Nat} {o : Int32 × Hp} {x1 : Nat} {x2 : Int32} {x3 : Int32} {x4 : Int32} {h : Hp} (k : DyX n xlL g h) (e : sX2_takeTail F h (n + 21) x1 x2 x3 x4 = some o) : DyX n xlL g o.2 ∧ FrW (WRm n) h o.2 := by
  unfold sX2_takeTail at e
  obtain ⟨o_1, eo_1, e⟩ := cl_s e
  obtain ⟨ko_1, fo_1⟩ := wz_X2_isWord k eo_1
  rcases br_s e with ⟨_, e⟩ | ⟨_, e⟩
  · rw [← Option.some.inj e]; exact ⟨ko_1, fo_1⟩
  · obtain ⟨o_3, eo_3, e⟩ := cl_s e
    obtain ⟨ko_3, fo_3⟩ := wz_X2_advance ko_1 eo_3
    replace fo_3 := fw_t fo_1 fo_3
    obtain ⟨o_4, eo_4, e⟩ := cl_s e
    obtain ⟨ko_4, fo_4⟩ := wz_X2_isNumber ko_3 eo_4
    replace fo_4 := fw_t fo_3 fo_4
    rcases br_s e with ⟨_, e⟩ | ⟨_, e⟩
    · rw [← Option.some.inj e]; exact ⟨ko_4, fo_4⟩
    · obtain ⟨v_6, wv_6, e⟩ := nm_s e
      obtain ⟨o_7, eo_7, e⟩ := cl_s e
      obtain ⟨ko_7, fo_7⟩ := wz_X2_advance ko_4 eo_7
      replace fo_7 := fw_t fo_4 fo_7
      rw [← Option.some.inj e]; exact ⟨ko_7, fo_7⟩
theorem wz_X2_takeStep_182 {n : Nat} {g : Hp} {F : Nat} {o : Int32 × Hp} {h : Hp} (k : DyX n xlL g h) (e : sX2_takeStep_182 F h = some o) : DyX n xlL g o.2 ∧ FrW (WRm n) h o.2 := by
  unfold sX2_takeStep_182 at e
  rw [← Option.some.inj e]; exact ⟨k, fw_0⟩
theorem wz_X2_takeStep_168 {n : Nat} {g : Hp} {F : Nat} {o : Int32 × Hp} {x1 : Int32} {x2 : Int32} {x3 : Int32} {x5 : Int32} {t0 : Int32} {h : Hp} (k : DyX n xlL g h) (e : sX2_takeStep_168 F h (n + 21) x1 x2 x3 x5 t0 = some o) : DyX n xlL g o.2 ∧ FrW (WRm n) h o.2 := by
  unfold sX2_takeStep_168 at e
  rcases br_s e with ⟨_, e⟩ | ⟨_, e⟩
  · exact wz_X2_takeStep_182 k e
  · rcases br_s e with ⟨_, e⟩ | ⟨_, e⟩
    · exact wz_X2_takeStep_182 k e
    · obtain ⟨r_3, er_3, e⟩ := cl_s e
      have yr_3 := dx_xd (a := 21) (b := 5) k (by decide) er_3
      subst yr_3
      obtain ⟨r_4, er_4, e⟩ := cl_s e
      have yr_4 := dx_ed (a := 5) (b := 7) k (by decide +kernel) er_4
      subst yr_4
      replace e := (gd_s e).2
      obtain ⟨h_6, wh_6, e⟩ := nm_s e
      have kh_6 : DyX n xlL g h_6 := by rw [wh_6]; exact dx_wI k
      have fh_6 : FrW (WRm n) h h_6 := by rw [wh_6]; exact fw_wI fw_0 (by unfold WRm; omega)
      obtain ⟨r_7, er_7, e⟩ := cl_s e
      have yr_7 := dx_xd (a := 21) (b := 5) kh_6 (by decide) er_7
      subst yr_7
      obtain ⟨r_8, er_8, e⟩ := cl_s e
      have yr_8 := dx_ed (a := 5) (b := 8) kh_6 (by decide +kernel) er_8
      subst yr_8
      replace e := (gd_s e).2
      obtain ⟨h_10, wh_10, e⟩ := nm_s e
      have kh_10 : DyX n xlL g h_10 := by rw [wh_10]; exact dx_wI kh_6
      have fh_10 : FrW (WRm n) h h_10 := by rw [wh_10]; exact fw_wI fh_6 (by unfold WRm; omega)
      rw [← Option.some.inj e]; exact ⟨kh_10, fh_10⟩
theorem wz_X2_takeStep_105 {n : Nat} {g : Hp} {F : Nat} {o : Int32 × Hp} {x1 : Int32} {x2 : Int32} {x3 : Int32} {x4 : Int32} {h : Hp} (k : DyX n xlL g h) (e : sX2_takeStep_105 F h (n + 21) x1 x2 x3 x4 = some o) : DyX n xlL g o.2 ∧ FrW (WRm n) h o.2 := by
  unfold sX2_takeStep_105 at e
  obtain ⟨v_1, wv_1, e⟩ := nm_s e
  obtain ⟨o_2, eo_2, e⟩ := cl_s e
  obtain ⟨ko_2, fo_2⟩ := wz_X2_advance k eo_2
  obtain ⟨o_3, eo_3, e⟩ := cl_s e
  obtain ⟨ko_3, fo_3⟩ := wz_X2_takeTail ko_2 eo_3
  replace fo_3 := fw_t fo_2 fo_3
  rcases br_s e with ⟨_, e⟩ | ⟨_, e⟩
  · exact ⟨(wz_X2_takeStep_168 ko_3 e).1, fw_t fo_3 (wz_X2_takeStep_168 ko_3 e).2⟩
  · obtain ⟨r_5, er_5, e⟩ := cl_s e
    have yr_5 := dx_xd (a := 21) (b := 5) ko_3 (by decide) er_5
    subst yr_5
    obtain ⟨o_6, eo_6, e⟩ := cl_s e
    obtain ⟨ko_6, fo_6⟩ := wz_X2_takeTail ko_3 eo_6
    replace fo_6 := fw_t fo_3 fo_6
    exact ⟨(wz_X2_takeStep_168 ko_6 e).1, fw_t fo_6 (wz_X2_takeStep_168 ko_6 e).2⟩
theorem wz_X2_takeStep_57 {n : Nat} {g : Hp} {F : Nat} {o : Int32 × Hp} {x1 : Int32} {x2 : Int32} {x3 : Int32} {h : Hp} (k : DyX n xlL g h) (e : sX2_takeStep_57 F h (n + 21) x1 x2 x3 = some o) : DyX n xlL g o.2 ∧ FrW (WRm n) h o.2 := by
  unfold sX2_takeStep_57 at e
  obtain ⟨o_1, eo_1, e⟩ := cl_s e
  obtain ⟨ko_1, fo_1⟩ := wz_X2_isNumber k eo_1
  rcases br_s e with ⟨_, e⟩ | ⟨_, e⟩
  · rw [← Option.some.inj e]; exact ⟨ko_1, fo_1⟩
  · obtain ⟨v_3, wv_3, e⟩ := nm_s e
    obtain ⟨o_4, eo_4, e⟩ := cl_s e
    obtain ⟨ko_4, fo_4⟩ := wz_X2_advance ko_1 eo_4
    replace fo_4 := fw_t fo_1 fo_4
    obtain ⟨o_5, eo_5, e⟩ := cl_s e
    obtain ⟨ko_5, fo_5⟩ := wz_X2_isNumber ko_4 eo_5
    replace fo_5 := fw_t fo_4 fo_5
    rcases br_s e with ⟨_, e⟩ | ⟨_, e⟩
    · exact ⟨(wz_X2_takeStep_103 ko_5 e).1, fw_t fo_5 (wz_X2_takeStep_103 ko_5 e).2⟩
    · rcases br_s e with ⟨_, e⟩ | ⟨_, e⟩
      · rcases br_s e with ⟨_, e⟩ | ⟨_, e⟩
        · exact ⟨(wz_X2_takeStep_103 ko_5 e).1, fw_t fo_5 (wz_X2_takeStep_103 ko_5 e).2⟩
        · exact ⟨(wz_X2_takeStep_105 ko_5 e).1, fw_t fo_5 (wz_X2_takeStep_105 ko_5 e).2⟩
      · exact ⟨(wz_X2_takeStep_105 ko_5 e).1, fw_t fo_5 (wz_X2_takeStep_105 ko_5 e).2⟩
theorem wz_X2_stepFlag_72 {n : Nat} {g : Hp} {F : Nat} {o : Int32 × Hp} {t0 : Int32} {h : Hp} (k : DyX n xlL g h) (e : sX2_stepFlag_72 F h t0 = some o) : DyX n xlL g o.2 ∧ FrW (WRm n) h o.2 := by
  unfold sX2_stepFlag_72 at e
  rw [← Option.some.inj e]; exact ⟨k, fw_0⟩
theorem wz_X2_stepFlag {n : Nat} {g : Hp} {F : Nat} {o : Int32 × Hp} {h : Hp} (k : DyX n xlL g h) (e : sX2_stepFlag F h (n + 21) = some o) : DyX n xlL g o.2 ∧ FrW (WRm n) h o.2 := by
  unfold sX2_stepFlag at e
  obtain ⟨o_1, eo_1, e⟩ := cl_s e
  obtain ⟨ko_1, fo_1⟩ := wz_X2_isWord k eo_1
  rcases br_s e with ⟨_, e⟩ | ⟨_, e⟩
  · obtain ⟨o_3, eo_3, e⟩ := cl_s e
    obtain ⟨ko_3, fo_3⟩ := wz_X2_isWord ko_1 eo_3
    replace fo_3 := fw_t fo_1 fo_3
    rcases br_s e with ⟨_, e⟩ | ⟨_, e⟩
    · obtain ⟨o_5, eo_5, e⟩ := cl_s e
      obtain ⟨ko_5, fo_5⟩ := wz_X2_isWord ko_3 eo_5
      replace fo_5 := fw_t fo_3 fo_5
      rcases br_s e with ⟨_, e⟩ | ⟨_, e⟩
      · obtain ⟨o_7, eo_7, e⟩ := cl_s e
        obtain ⟨ko_7, fo_7⟩ := wz_X2_isWord ko_5 eo_7
        replace fo_7 := fw_t fo_5 fo_7
        rcases br_s e with ⟨_, e⟩ | ⟨_, e⟩
        · obtain ⟨o_9, eo_9, e⟩ := cl_s e
          obtain ⟨ko_9, fo_9⟩ := wz_X2_isWord ko_7 eo_9
          replace fo_9 := fw_t fo_7 fo_9
          rcases br_s e with ⟨_, e⟩ | ⟨_, e⟩
          · obtain ⟨o_11, eo_11, e⟩ := cl_s e
            obtain ⟨ko_11, fo_11⟩ := wz_X2_isWord ko_9 eo_11
            replace fo_11 := fw_t fo_9 fo_11
            rcases br_s e with ⟨_, e⟩ | ⟨_, e⟩
            · exact ⟨(wz_X2_stepFlag_72 ko_11 e).1, fw_t fo_11 (wz_X2_stepFlag_72 ko_11 e).2⟩
            · exact ⟨(wz_X2_stepFlag_72 ko_11 e).1, fw_t fo_11 (wz_X2_stepFlag_72 ko_11 e).2⟩
          · rw [← Option.some.inj e]; exact ⟨ko_9, fo_9⟩
        · rw [← Option.some.inj e]; exact ⟨ko_7, fo_7⟩
      · rw [← Option.some.inj e]; exact ⟨ko_5, fo_5⟩
    · rw [← Option.some.inj e]; exact ⟨ko_3, fo_3⟩
  · rw [← Option.some.inj e]; exact ⟨ko_1, fo_1⟩
theorem wz_X2_takeStep_40 {n : Nat} {g : Hp} {F : Nat} {o : Int32 × Hp} {h : Hp} (k : DyX n xlL g h) (e : sX2_takeStep_40 F h = some o) : DyX n xlL g o.2 ∧ FrW (WRm n) h o.2 := by
  unfold sX2_takeStep_40 at e
  rw [← Option.some.inj e]; exact ⟨k, fw_0⟩
theorem wz_X2_fits_43 {n : Nat} {g : Hp} {o : Int32 × Hp} {t0 : Int32} {h : Hp} (k : DyX n xlL g h) (e : sX2_fits_43 h t0 = some o) : DyX n xlL g o.2 ∧ FrW (WRm n) h o.2 := by
  unfold sX2_fits_43 at e
  replace e := (gd_s e).2
  rw [← Option.some.inj e]; exact ⟨k, fw_0⟩
theorem wz_X2_fits_32 {n : Nat} {g : Hp} {o : Int32 × Hp} {x0 : Int32} {x2 : Int32} {h : Hp} (k : DyX n xlL g h) (e : sX2_fits_32 h x0 x2 = some o) : DyX n xlL g o.2 ∧ FrW (WRm n) h o.2 := by
  unfold sX2_fits_32 at e
  rcases br_s e with ⟨_, e⟩ | ⟨_, e⟩
  · exact wz_X2_fits_43 k e
  · exact wz_X2_fits_43 k e
theorem wz_X2_fits_12 {n : Nat} {g : Hp} {o : Int32 × Hp} {x0 : Int32} {h : Hp} (k : DyX n xlL g h) (e : sX2_fits_12 h x0 = some o) : DyX n xlL g o.2 ∧ FrW (WRm n) h o.2 := by
  unfold sX2_fits_12 at e
  exact wz_X2_fits_32 k e
theorem wz_X2_fits_29 {n : Nat} {g : Hp} {o : Int32 × Hp} {x0 : Int32} {h : Hp} (k : DyX n xlL g h) (e : sX2_fits_29 h x0 = some o) : DyX n xlL g o.2 ∧ FrW (WRm n) h o.2 := by
  unfold sX2_fits_29 at e
  exact wz_X2_fits_32 k e
theorem wz_X2_fits {n : Nat} {g : Hp} {o : Int32 × Hp} {x0 : Int32} {x1 : Int32} {h : Hp} (k : DyX n xlL g h) (e : sX2_fits h x0 x1 = some o) : DyX n xlL g o.2 ∧ FrW (WRm n) h o.2 := by
  unfold sX2_fits at e
  rcases br_s e with ⟨_, e⟩ | ⟨_, e⟩
  · exact wz_X2_fits_12 k e
  · rcases br_s e with ⟨_, e⟩ | ⟨_, e⟩
    · exact wz_X2_fits_12 k e
    · rcases br_s e with ⟨_, e⟩ | ⟨_, e⟩
      · exact wz_X2_fits_29 k e
      · rcases br_s e with ⟨_, e⟩ | ⟨_, e⟩
        · exact wz_X2_fits_29 k e
        · exact wz_X2_fits_32 k e
theorem wz_X2_takeStep_5 {n : Nat} {g : Hp} {F : Nat} {o : Int32 × Hp} : ∀ (f : Nat) {h : Hp} {x1 : Int32} {x2 : Int32} {x3 : Int32} {x4 : Int32}, DyX n xlL g h → sX2_takeStep_5 F f h (n + 21) x1 x2 x3 x4 = some o → DyX n xlL g o.2 ∧ FrW (WRm n) h o.2 := by
  intro f
  induction f with
  | zero => intro h x1 x2 x3 x4 _ e; exact absurd e (by rw [sX2_takeStep_5]; exact fun z => nomatch z)
  | succ f ih =>
    intro h x1 x2 x3 x4 k e
    rw [sX2_takeStep_5] at e
    rcases br_s e with ⟨_, e⟩ | ⟨_, e⟩
    · exact wz_X2_takeStep_57 k e
    · rcases br_s e with ⟨_, e⟩ | ⟨_, e⟩
      · obtain ⟨o_3, eo_3, e⟩ := cl_s e
        obtain ⟨ko_3, fo_3⟩ := wz_X2_stepFlag k eo_3
        rcases br_s e with ⟨_, e⟩ | ⟨_, e⟩
        · exact ⟨(wz_X2_takeStep_40 ko_3 e).1, fw_t fo_3 (wz_X2_takeStep_40 ko_3 e).2⟩
        · obtain ⟨o_5, eo_5, e⟩ := cl_s e
          obtain ⟨ko_5, fo_5⟩ := wz_X2_fits ko_3 eo_5
          replace fo_5 := fw_t fo_3 fo_5
          rcases br_s e with ⟨_, e⟩ | ⟨_, e⟩
          · exact ⟨(wz_X2_takeStep_40 ko_5 e).1, fw_t fo_5 (wz_X2_takeStep_40 ko_5 e).2⟩
          · obtain ⟨v_7, wv_7, e⟩ := nm_s e
            obtain ⟨o_8, eo_8, e⟩ := cl_s e
            obtain ⟨ko_8, fo_8⟩ := wz_X2_advance ko_5 eo_8
            replace fo_8 := fw_t fo_5 fo_8
            obtain ⟨v_9, wv_9, e⟩ := nm_s e
            exact ⟨(ih ko_8 e).1, fw_t fo_8 (ih ko_8 e).2⟩
      · exact wz_X2_takeStep_57 k e
theorem wz_X2_takeStep {n : Nat} {g : Hp} {F : Nat} {o : Int32 × Hp} {x1 : Int32} {x2 : Int32} {h : Hp} (k : DyX n xlL g h) (e : sX2_takeStep F h (n + 21) x1 x2 = some o) : DyX n xlL g o.2 ∧ FrW (WRm n) h o.2 := by
  unfold sX2_takeStep at e
  exact wz_X2_takeStep_5 F k e
theorem wz_X2_takeMan_108 {n : Nat} {g : Hp} {F : Nat} {o : Int32 × Hp} {h : Hp} (k : DyX n xlL g h) (e : sX2_takeMan_108 F h = some o) : DyX n xlL g o.2 ∧ FrW (WRm n) h o.2 := by
  unfold sX2_takeMan_108 at e
  rw [← Option.some.inj e]; exact ⟨k, fw_0⟩
theorem wz_X2_takeMan_77 {n : Nat} {g : Hp} {F : Nat} {o : Int32 × Hp} : ∀ (f : Nat) {h : Hp} {x2 : Int32} {x3 : Int32}, DyX n xlL g h → sX2_takeMan_77 F f h (n + 21) x2 x3 = some o → DyX n xlL g o.2 ∧ FrW (WRm n) h o.2 := by
  intro f
  induction f with
  | zero => intro h x2 x3 _ e; exact absurd e (by rw [sX2_takeMan_77]; exact fun z => nomatch z)
  | succ f ih =>
    intro h x2 x3 k e
    rw [sX2_takeMan_77] at e
    rcases br_s e with ⟨_, e⟩ | ⟨_, e⟩
    · rw [← Option.some.inj e]; exact ⟨k, fw_0⟩
    · obtain ⟨o_2, eo_2, e⟩ := cl_s e
      obtain ⟨ko_2, fo_2⟩ := wz_X2_takeStep k eo_2
      rcases br_s e with ⟨_, e⟩ | ⟨_, e⟩
      · rw [← Option.some.inj e]; exact ⟨ko_2, fo_2⟩
      · rcases br_s e with ⟨_, e⟩ | ⟨_, e⟩
        · rcases br_s e with ⟨_, e⟩ | ⟨_, e⟩
          · exact ⟨(wz_X2_takeMan_108 ko_2 e).1, fw_t fo_2 (wz_X2_takeMan_108 ko_2 e).2⟩
          · obtain ⟨o_6, eo_6, e⟩ := cl_s e
            obtain ⟨ko_6, fo_6⟩ := wz_X2_advance ko_2 eo_6
            replace fo_6 := fw_t fo_2 fo_6
            obtain ⟨v_7, wv_7, e⟩ := nm_s e
            exact ⟨(ih ko_6 e).1, fw_t fo_6 (ih ko_6 e).2⟩
        · exact ⟨(wz_X2_takeMan_108 ko_2 e).1, fw_t fo_2 (wz_X2_takeMan_108 ko_2 e).2⟩
theorem wz_X2_takeMan {n : Nat} {g : Hp} {F : Nat} {o : Int32 × Hp} {h : Hp} (k : DyX n xlL g h) (e : sX2_takeMan F h (n + 21) = some o) : DyX n xlL g o.2 ∧ FrW (WRm n) h o.2 := by
  unfold sX2_takeMan at e
  obtain ⟨o_1, eo_1, e⟩ := cl_s e
  obtain ⟨ko_1, fo_1⟩ := wz_X2_advance k eo_1
  obtain ⟨o_2, eo_2, e⟩ := cl_s e
  obtain ⟨ko_2, fo_2⟩ := wz_X2_oneLetter ko_1 eo_2
  replace fo_2 := fw_t fo_1 fo_2
  rcases br_s e with ⟨_, e⟩ | ⟨_, e⟩
  · exact ⟨(wz_X2_takeMan_38 ko_2 e).1, fw_t fo_2 (wz_X2_takeMan_38 ko_2 e).2⟩
  · obtain ⟨r_4, er_4, e⟩ := cl_s e
    have yr_4 := dx_xd (a := 21) (b := 5) ko_2 (by decide) er_4
    subst yr_4
    obtain ⟨o_5, eo_5, e⟩ := cl_s e
    obtain ⟨ko_5, fo_5⟩ := wz_X1_manOf ko_2 eo_5
    replace fo_5 := fw_t fo_2 fo_5
    rcases br_s e with ⟨_, e⟩ | ⟨_, e⟩
    · obtain ⟨r_7, er_7, e⟩ := cl_s e
      have yr_7 := dx_xd (a := 21) (b := 5) ko_5 (by decide) er_7
      subst yr_7
      rcases br_s e with ⟨_, e⟩ | ⟨_, e⟩
      · obtain ⟨o_9, eo_9, e⟩ := cl_s e
        obtain ⟨ko_9, fo_9⟩ := wz_X2_advance ko_5 eo_9
        replace fo_9 := fw_t fo_5 fo_9
        obtain ⟨r_10, er_10, e⟩ := cl_s e
        have yr_10 := dx_xd (a := 21) (b := 5) ko_9 (by decide) er_10
        subst yr_10
        obtain ⟨v_11, wv_11, e⟩ := nm_s e
        obtain ⟨r_12, er_12, e⟩ := cl_s e
        have yr_12 := dx_xd (a := 21) (b := 5) ko_9 (by decide) er_12
        subst yr_12
        obtain ⟨r_13, er_13, e⟩ := cl_s e
        have yr_13 := dx_ed (a := 5) (b := 6) ko_9 (by decide +kernel) er_13
        subst yr_13
        replace e := (gd_s e).2
        obtain ⟨h_15, wh_15, e⟩ := nm_s e
        have kh_15 : DyX n xlL g h_15 := by rw [wh_15]; exact dx_wI ko_9
        have fh_15 : FrW (WRm n) h h_15 := by rw [wh_15]; exact fw_wI fo_9 (by unfold WRm; omega)
        obtain ⟨r_16, er_16, e⟩ := cl_s e
        have yr_16 := dx_xd (a := 21) (b := 5) kh_15 (by decide) er_16
        subst yr_16
        obtain ⟨h_17, wh_17, e⟩ := nm_s e
        have kh_17 : DyX n xlL g h_17 := by rw [wh_17]; exact dx_wI kh_15
        have fh_17 : FrW (WRm n) h h_17 := by rw [wh_17]; exact fw_wI fh_15 (by unfold WRm; omega)
        exact ⟨(wz_X2_takeMan_77 F kh_17 e).1, fw_t fh_17 (wz_X2_takeMan_77 F kh_17 e).2⟩
      · exact ⟨(wz_X2_takeMan_38 ko_5 e).1, fw_t fo_5 (wz_X2_takeMan_38 ko_5 e).2⟩
    · exact ⟨(wz_X2_takeMan_38 ko_5 e).1, fw_t fo_5 (wz_X2_takeMan_38 ko_5 e).2⟩
theorem wz_X2_read_39 {n : Nat} {g : Hp} {F : Nat} {o : Int32 × Hp} : ∀ (f : Nat) {h : Hp} {x3 : Int32} {x4 : Int32}, DyX n xlL g h → sX2_read_39 F f h (n + 21) x3 x4 = some o → DyX n xlL g o.2 ∧ FrW (WRm n) h o.2 := by
  intro f
  induction f with
  | zero => intro h x3 x4 _ e; exact absurd e (by rw [sX2_read_39]; exact fun z => nomatch z)
  | succ f ih =>
    intro h x3 x4 k e
    rw [sX2_read_39] at e
    rcases br_s e with ⟨_, e⟩ | ⟨_, e⟩
    · exact wz_X2_read_118 k e
    · rcases br_s e with ⟨_, e⟩ | ⟨_, e⟩
      · exact wz_X2_read_118 k e
      · rcases br_s e with ⟨_, e⟩ | ⟨_, e⟩
        · exact wz_X2_read_118 k e
        · obtain ⟨o_4, eo_4, e⟩ := cl_s e
          obtain ⟨ko_4, fo_4⟩ := wz_X2_isWord k eo_4
          rcases br_s e with ⟨_, e⟩ | ⟨_, e⟩
          · obtain ⟨o_6, eo_6, e⟩ := cl_s e
            obtain ⟨ko_6, fo_6⟩ := wz_X2_isWord ko_4 eo_6
            replace fo_6 := fw_t fo_4 fo_6
            rcases br_s e with ⟨_, e⟩ | ⟨_, e⟩
            · obtain ⟨o_8, eo_8, e⟩ := cl_s e
              obtain ⟨ko_8, fo_8⟩ := wz_X2_takeOther ko_6 eo_8
              replace fo_8 := fw_t fo_6 fo_8
              exact ⟨(wz_X2_read_94 (fun k e => ih k e) ko_8 e).1, fw_t fo_8 (wz_X2_read_94 (fun k e => ih k e) ko_8 e).2⟩
            · obtain ⟨o_9, eo_9, e⟩ := cl_s e
              obtain ⟨ko_9, fo_9⟩ := wz_X2_takeBecomes ko_6 eo_9
              replace fo_9 := fw_t fo_6 fo_9
              exact ⟨(wz_X2_read_94 (fun k e => ih k e) ko_9 e).1, fw_t fo_9 (wz_X2_read_94 (fun k e => ih k e) ko_9 e).2⟩
          · obtain ⟨o_10, eo_10, e⟩ := cl_s e
            obtain ⟨ko_10, fo_10⟩ := wz_X2_takeMan ko_4 eo_10
            replace fo_10 := fw_t fo_4 fo_10
            exact ⟨(wz_X2_read_94 (fun k e => ih k e) ko_10 e).1, fw_t fo_10 (wz_X2_read_94 (fun k e => ih k e) ko_10 e).2⟩
theorem wz_J7_fill_53178_5 {n : Nat} {g : Hp} {F : Nat} {o : Hp} : ∀ (f : Nat) {h : Hp} {x0 : Nat} {x1 : Int32} {x2 : Int32} {x3 : Int32}, (∀ i, WRm n x0 i) → DyX n xlL g h → sJ7_fill_53178_5 F f h x0 x1 x2 x3 = some o → DyX n xlL g o ∧ FrW (WRm n) h o := by
  intro f
  induction f with
  | zero => intro h x0 x1 x2 x3 _ _ e; exact absurd e (by rw [sJ7_fill_53178_5]; exact fun z => nomatch z)
  | succ f ih =>
    intro h x0 x1 x2 x3 w_x0 k e
    rw [sJ7_fill_53178_5] at e
    rcases br_s e with ⟨_, e⟩ | ⟨_, e⟩
    · rw [← Option.some.inj e]; exact ⟨k, fw_0⟩
    · replace e := (gd_s e).2
      obtain ⟨h_3, wh_3, e⟩ := nm_s e
      have kh_3 : DyX n xlL g h_3 := by rw [wh_3]; exact dx_wI k
      have fh_3 : FrW (WRm n) h h_3 := by rw [wh_3]; exact fw_wI fw_0 (w_x0 _)
      obtain ⟨v_4, wv_4, e⟩ := nm_s e
      exact ⟨(ih w_x0 kh_3 e).1, fw_t fh_3 (ih w_x0 kh_3 e).2⟩
theorem wz_J7_fill_53178 {n : Nat} {g : Hp} {F : Nat} {o : Hp} {x0 : Nat} {x1 : Int32} {h : Hp} (w_x0 : ∀ i, WRm n x0 i) (k : DyX n xlL g h) (e : sJ7_fill_53178 F h x0 x1 = some o) : DyX n xlL g o ∧ FrW (WRm n) h o := by
  unfold sJ7_fill_53178 at e
  obtain ⟨v_1, wv_1, e⟩ := nm_s e
  exact wz_J7_fill_53178_5 F w_x0 k e
