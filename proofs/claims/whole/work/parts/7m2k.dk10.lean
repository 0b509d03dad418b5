/-! what stands where stays so: printed -/
theorem dk_X1_becomesThis_2 {n : Nat} {g : Hp} {F : Nat} {o : Int32 × Hp} : ∀ (f : Nat) {h : Hp} {x0 : Nat} {x1 : Int32} {x2 : Int32} {x3 : Int32}, DyK n g h → sX1_becomesThis_2 F f h x0 x1 x2 x3 = some o → DyK n g o.2 := by
  intro f
  induction f with
  | zero => intro h x0 x1 x2 x3 _ e; exact absurd e (by rw [sX1_becomesThis_2]; exact fun z => nomatch z)
  | succ f ih =>
    intro h x0 x1 x2 x3 k e
    rw [sX1_becomesThis_2] at e
    replace e := cl_s e
    obtain ⟨r_1, _, e⟩ := e
    replace e := (gd_s e).2
    replace e := br_s e
    rcases e with ⟨_, e⟩ | ⟨_, e⟩
    · rw [← Option.some.inj e]; exact k
    · replace e := cl_s e
      obtain ⟨r_4, _, e⟩ := e
      replace e := (gd_s e).2
      replace e := br_s e
      rcases e with ⟨_, e⟩ | ⟨_, e⟩
      · rw [← Option.some.inj e]; exact k
      · replace e := nm_s e
        obtain ⟨v_7, wv_7, e⟩ := e
        exact ih k e
theorem dk_X1_becomesThis {n : Nat} {g : Hp} {F : Nat} {o : Int32 × Hp} {x0 : Nat} {x1 : Int32} {x2 : Int32} {h : Hp} (k : DyK n g h) (e : sX1_becomesThis F h x0 x1 x2 = some o) : DyK n g o.2 := by
  unfold sX1_becomesThis at e
  exact dk_X1_becomesThis_2 F k e
theorem dk_X6_find_219 {n : Nat} {g : Hp} {F : Nat} {o : Int32 × Hp} {x2 : Int64} {x4 : Int32} {x5 : Int32} {x6 : Int32} {x7 : Int32} {k_109 : Hp → Nat → Int64 → Int32 → Option (Int32 × Hp)} (R_109 : ∀ {h : Hp} {y2 : Int64} {y3 : Int32}, DyK n g h → k_109 h (n + 48) y2 y3 = some o → DyK n g o.2) {k_166 : Hp → Nat → Int64 → Int32 → Int32 → Int32 → Int32 → Option (Int32 × Hp)} (R_166 : ∀ {h : Hp} {y2 : Int64} {y3 : Int32} {y4 : Int32} {y5 : Int32} {y6 : Int32}, DyK n g h → k_166 h (n + 48) y2 y3 y4 y5 y6 = some o → DyK n g o.2) {h : Hp} (k : DyK n g h) (e : sX6_find_219 F k_109 k_166 h (n + 48) x2 x4 x5 x6 x7 = some o) : DyK n g o.2 := by
  unfold sX6_find_219 at e
  replace e := nm_s e
  obtain ⟨v_1, wv_1, e⟩ := e
  exact R_166 k e
theorem dk_X6_find_166 {n : Nat} {g : Hp} {F : Nat} {o : Int32 × Hp} {k_109 : Hp → Nat → Int64 → Int32 → Option (Int32 × Hp)} (R_109 : ∀ {h : Hp} {y2 : Int64} {y3 : Int32}, DyK n g h → k_109 h (n + 48) y2 y3 = some o → DyK n g o.2) : ∀ (f : Nat) {h : Hp} {x2 : Int64} {x4 : Int32} {x5 : Int32} {x6 : Int32} {x7 : Int32}, DyK n g h → sX6_find_166 F k_109 f h (n + 48) x2 x4 x5 x6 x7 = some o → DyK n g o.2 := by
  intro f
  induction f with
  | zero => intro h x2 x4 x5 x6 x7 _ e; exact absurd e (by rw [sX6_find_166]; exact fun z => nomatch z)
  | succ f ih =>
    intro h x2 x4 x5 x6 x7 k e
    rw [sX6_find_166] at e
    replace e := cl_s e
    obtain ⟨r_1, _, e⟩ := e
    replace e := br_s e
    rcases e with ⟨_, e⟩ | ⟨_, e⟩
    · exact dk_X6_find_225 R_109 k e
    · replace e := cl_s e
      obtain ⟨r_3, _, e⟩ := e
      replace e := cl_s e
      obtain ⟨r_4, _, e⟩ := e
      replace e := cl_s e
      obtain ⟨o_5, eo_5, e⟩ := e
      have ko_5 : DyK n g o_5.2 := dk_X1_isLast k eo_5
      replace e := br_s e
      rcases e with ⟨_, e⟩ | ⟨_, e⟩
      · exact dk_X6_find_225 R_109 ko_5 e
      · replace e := cl_s e
        obtain ⟨r_7, _, e⟩ := e
        replace e := cl_s e
        obtain ⟨o_8, eo_8, e⟩ := e
        have ko_8 : DyK n g o_8.2 := dk_X1_becomesThis ko_5 eo_8
        replace e := br_s e
        rcases e with ⟨_, e⟩ | ⟨_, e⟩
        · exact dk_X6_find_219 R_109 (fun k e => ih k e) ko_8 e
        · replace e := cl_s e
          obtain ⟨o_10, eo_10, e⟩ := e
          have ko_10 : DyK n g o_10 := dk_X6_takeBack ko_8 eo_10
          exact dk_X6_find_219 R_109 (fun k e => ih k e) ko_10 e
theorem dk_X6_find_109 {n : Nat} {g : Hp} {F : Nat} {o : Int32 × Hp} : ∀ (f : Nat) {h : Hp} {x2 : Int64} {x4 : Int32}, DyK n g h → sX6_find_109 F f h (n + 48) x2 x4 = some o → DyK n g o.2 := by
  intro f
  induction f with
  | zero => intro h x2 x4 _ e; exact absurd e (by rw [sX6_find_109]; exact fun z => nomatch z)
  | succ f ih =>
    intro h x2 x4 k e
    rw [sX6_find_109] at e
    replace e := br_s e
    rcases e with ⟨_, e⟩ | ⟨_, e⟩
    · exact dk_X6_find_231 k e
    · replace e := br_s e
      rcases e with ⟨_, e⟩ | ⟨_, e⟩
      · exact dk_X6_find_231 k e
      · replace e := br_s e
        rcases e with ⟨_, e⟩ | ⟨_, e⟩
        · replace e := cl_s e
          obtain ⟨o_4, eo_4, e⟩ := e
          have ko_4 : DyK n g o_4.2 := dk_X11_lowest k eo_4
          replace e := nm_s e
          obtain ⟨v_5, wv_5, e⟩ := e
          replace e := cl_s e
          obtain ⟨r_6, _, e⟩ := e
          replace e := cl_s e
          obtain ⟨r_7, _, e⟩ := e
          replace e := (gd_s e).2
          replace e := nm_s e
          obtain ⟨v_9, wv_9, e⟩ := e
          replace e := cl_s e
          obtain ⟨o_10, eo_10, e⟩ := e
          have ko_10 : DyK n g o_10 := dk_X6_takeBack ko_4 eo_10
          exact dk_X6_find_166 (fun k e => ih k e) F ko_10 e
        · exact dk_X6_find_231 k e
theorem dk_X6_find_90 {n : Nat} {g : Hp} {F : Nat} {o : Int32 × Hp} {h : Hp} (k : DyK n g h) (e : sX6_find_90 F h (n + 48) = some o) : DyK n g o.2 := by
  unfold sX6_find_90 at e
  replace e := cl_s e
  obtain ⟨r_1, _, e⟩ := e
  replace e := cl_s e
  obtain ⟨r_2, _, e⟩ := e
  replace e := cl_s e
  obtain ⟨r_3, _, e⟩ := e
  replace e := (gd_s e).2
  replace e := nm_s e
  obtain ⟨v_5, wv_5, e⟩ := e
  exact dk_X6_find_109 F k e
theorem dk_X6_find_88 {n : Nat} {g : Hp} {F : Nat} {o : Int32 × Hp} {h : Hp} (k : DyK n g h) (e : sX6_find_88 F h = some o) : DyK n g o.2 := by
  unfold sX6_find_88 at e
  rw [← Option.some.inj e]; exact k
theorem dk_X6_find {n : Nat} {g : Hp} {F : Nat} {o : Int32 × Hp} {x1 : Nat} {h : Hp} (k : DyK n g h) (e : sX6_find F h (n + 48) x1 = some o) : DyK n g o.2 := by
  unfold sX6_find at e
  replace e := nm_s e
  obtain ⟨h_1, wh_1, e⟩ := e
  have kh_1 : DyK n g h_1 := by rw [wh_1]; exact dk_wI k
  replace e := nm_s e
  obtain ⟨h_2, wh_2, e⟩ := e
  have kh_2 : DyK n g h_2 := by rw [wh_2]; exact dk_wI kh_1
  replace e := cl_s e
  obtain ⟨r_3, _, e⟩ := e
  replace e := cl_s e
  obtain ⟨o_4, eo_4, e⟩ := e
  have ko_4 : DyK n g o_4 := dk_X3_copyFrom kh_2 eo_4
  replace e := cl_s e
  obtain ⟨r_5, _, e⟩ := e
  replace e := cl_s e
  obtain ⟨o_6, eo_6, e⟩ := e
  have ko_6 : DyK n g o_6 := dk_X3_strip ko_4 eo_6
  replace e := cl_s e
  obtain ⟨r_7, _, e⟩ := e
  replace e := nm_s e
  obtain ⟨h_8, wh_8, e⟩ := e
  have kh_8 : DyK n g h_8 := by rw [wh_8]; exact dk_wI ko_6
  replace e := cl_s e
  obtain ⟨r_9, _, e⟩ := e
  replace e := cl_s e
  obtain ⟨r_10, _, e⟩ := e
  replace e := cl_s e
  obtain ⟨r_11, _, e⟩ := e
  replace e := cl_s e
  obtain ⟨o_12, eo_12, e⟩ := e
  have ko_12 : DyK n g o_12.2 := dk_X5_isRoyalHit kh_8 eo_12
  replace e := br_s e
  rcases e with ⟨_, e⟩ | ⟨_, e⟩
  · replace e := cl_s e
    obtain ⟨r_14, _, e⟩ := e
    replace e := cl_s e
    obtain ⟨o_15, eo_15, e⟩ := e
    have ko_15 : DyK n g o_15.2 := dk_X1_has ko_12 eo_15
    replace e := br_s e
    rcases e with ⟨_, e⟩ | ⟨_, e⟩
    · exact dk_X6_find_90 ko_15 e
    · replace e := cl_s e
      obtain ⟨r_17, _, e⟩ := e
      replace e := cl_s e
      obtain ⟨r_18, _, e⟩ := e
      replace e := cl_s e
      obtain ⟨o_19, eo_19, e⟩ := e
      have ko_19 : DyK n g o_19.2 := dk_X5_isRoyalHit ko_15 eo_19
      replace e := br_s e
      rcases e with ⟨_, e⟩ | ⟨_, e⟩
      · exact dk_X6_find_90 ko_19 e
      · exact dk_X6_find_88 ko_19 e
  · exact dk_X6_find_88 ko_12 e
theorem dk_X11_before_52 {n : Nat} {g : Hp} {F : Nat} {o : Int32 × Hp} {t0 : Int32} {h : Hp} (k : DyK n g h) (e : sX11_before_52 F h t0 = some o) : DyK n g o.2 := by
  unfold sX11_before_52 at e
  rw [← Option.some.inj e]; exact k
theorem dk_X11_before {n : Nat} {g : Hp} {F : Nat} {o : Int32 × Hp} {x1 : Int32} {h : Hp} (k : DyK n g h) (e : sX11_before F h n x1 = some o) : DyK n g o.2 := by
  unfold sX11_before at e
  replace e := cl_s e
  obtain ⟨o_1, eo_1, e⟩ := e
  have ko_1 : DyK n g o_1.2 := dk_X11_isPlace k eo_1
  replace e := br_s e
  rcases e with ⟨_, e⟩ | ⟨_, e⟩
  · rw [← Option.some.inj e]; exact ko_1
  · replace e := cl_s e
    obtain ⟨r_3, _, e⟩ := e
    replace e := cl_s e
    obtain ⟨o_4, eo_4, e⟩ := e
    have ko_4 : DyK n g o_4.2 := dk_X1_isPlain ko_1 eo_4
    replace e := br_s e
    rcases e with ⟨_, e⟩ | ⟨_, e⟩
    · rw [← Option.some.inj e]; exact ko_4
    · replace e := cl_s e
      obtain ⟨r_6, er_6, e⟩ := e
      have yr_6 := dk_ed (a := 0) (b := 48) ko_4 (by decide +kernel) er_6
      subst yr_6
      replace e := cl_s e
      obtain ⟨r_7, _, e⟩ := e
      replace e := (gd_s e).2
      replace e := cl_s e
      obtain ⟨r_9, _, e⟩ := e
      replace e := cl_s e
      obtain ⟨o_10, eo_10, e⟩ := e
      have ko_10 : DyK n g o_10.2 := dk_X6_find ko_4 eo_10
      replace e := br_s e
      rcases e with ⟨_, e⟩ | ⟨_, e⟩
      · exact dk_X11_before_52 ko_10 e
      · replace e := cl_s e
        obtain ⟨r_12, _, e⟩ := e
        exact dk_X11_before_52 ko_10 e
theorem dk_X11_beforeAt_15 {n : Nat} {g : Hp} {F : Nat} {o : Int32 × Hp} {h : Hp} (k : DyK n g h) (e : sX11_beforeAt_15 F h = some o) : DyK n g o.2 := by
  unfold sX11_beforeAt_15 at e
  rw [← Option.some.inj e]; exact k
theorem dk_X6_fillIn_23 {n : Nat} {g : Hp} {F : Nat} {o : Hp} {h : Hp} (k : DyK n g h) (e : sX6_fillIn_23 F h = some o) : DyK n g o := by
  unfold sX6_fillIn_23 at e
  rw [← Option.some.inj e]; exact k
theorem dk_X6_fillIn {n : Nat} {g : Hp} {F : Nat} {o : Hp} {x0 : Nat} {x1 : Nat} {x2 : Int32} {h : Hp} (k : DyK n g h) (e : sX6_fillIn F h x0 x1 x2 = some o) : DyK n g o := by
  unfold sX6_fillIn at e
  replace e := br_s e
  rcases e with ⟨_, e⟩ | ⟨_, e⟩
  · exact dk_X6_fillIn_23 k e
  · replace e := br_s e
    rcases e with ⟨_, e⟩ | ⟨_, e⟩
    · exact dk_X6_fillIn_23 k e
    · replace e := cl_s e
      obtain ⟨r_3, _, e⟩ := e
      replace e := (gd_s e).2
      replace e := cl_s e
      obtain ⟨o_5, eo_5, e⟩ := e
      have ko_5 : DyK n g o_5 := dk_X6_lay k eo_5
      exact dk_X6_fillIn_23 ko_5 e
theorem dk_X11_beforeAt {n : Nat} {g : Hp} {F : Nat} {o : Int32 × Hp} {x0 : Nat} {x1 : Int32} {h : Hp} (k : DyK n g h) (e : sX11_beforeAt F h x0 x1 = some o) : DyK n g o.2 := by
  unfold sX11_beforeAt at e
  replace e := br_s e
  rcases e with ⟨_, e⟩ | ⟨_, e⟩
  · exact dk_X11_beforeAt_15 k e
  · replace e := cl_s e
    obtain ⟨r_2, _, e⟩ := e
    replace e := br_s e
    rcases e with ⟨_, e⟩ | ⟨_, e⟩
    · replace e := cl_s e
      obtain ⟨o_4, eo_4, e⟩ := e
      have ko_4 : DyK n g o_4.2 := dk_X11_freePlace k eo_4
      replace e := br_s e
      rcases e with ⟨_, e⟩ | ⟨_, e⟩
      · rw [← Option.some.inj e]; exact ko_4
      · replace e := cl_s e
        obtain ⟨r_6, _, e⟩ := e
        replace e := (gd_s e).2
        replace e := nm_s e
        obtain ⟨h_8, wh_8, e⟩ := e
        have kh_8 : DyK n g h_8 := by rw [wh_8]; exact dk_wI ko_4
        replace e := cl_s e
        obtain ⟨r_9, _, e⟩ := e
        replace e := cl_s e
        obtain ⟨r_10, _, e⟩ := e
        replace e := (gd_s e).2
        replace e := cl_s e
        obtain ⟨r_12, _, e⟩ := e
        replace e := cl_s e
        obtain ⟨o_13, eo_13, e⟩ := e
        have ko_13 : DyK n g o_13 := dk_X6_fillIn kh_8 eo_13
        rw [← Option.some.inj e]; exact ko_13
    · exact dk_X11_beforeAt_15 k e
theorem dk_X11_solve_78 {n : Nat} {g : Hp} {F : Nat} {o : Int32 × Hp} {x1 : Int32} {h : Hp} (k : DyK n g h) (e : sX11_solve_78 F h x1 = some o) : DyK n g o.2 := by
  unfold sX11_solve_78 at e
  rw [← Option.some.inj e]; exact k
theorem dk_X11_solve_71 {n : Nat} {g : Hp} {F : Nat} {o : Int32 × Hp} {x1 : Int32} {h : Hp} (k : DyK n g h) (e : sX11_solve_71 F h n x1 = some o) : DyK n g o.2 := by
  unfold sX11_solve_71 at e
  replace e := cl_s e
  obtain ⟨r_1, _, e⟩ := e
  replace e := cl_s e
  obtain ⟨o_2, eo_2, e⟩ := e
  have ko_2 : DyK n g o_2 := dk_X9_clear k eo_2
  exact dk_X11_solve_78 ko_2 e
theorem dk_X1_hasCatch_12 {n : Nat} {g : Hp} {F : Nat} {o : Int32 × Hp} {k_2 : Hp → Nat → Int32 → Option (Int32 × Hp)} (R_2 : ∀ {h : Hp} {y1 : Nat} {y2 : Int32}, DyK n g h → k_2 h y1 y2 = some o → DyK n g o.2) : ∀ (f : Nat) {h : Hp} {x0 : Nat} {x1 : Int32} {x2 : Int32}, DyK n g h → sX1_hasCatch_12 F k_2 f h x0 x1 x2 = some o → DyK n g o.2 := by
  intro f
  induction f with
  | zero => intro h x0 x1 x2 _ e; exact absurd e (by rw [sX1_hasCatch_12]; exact fun z => nomatch z)
  | succ f ih =>
    intro h x0 x1 x2 k e
    rw [sX1_hasCatch_12] at e
    replace e := cl_s e
    obtain ⟨r_1, _, e⟩ := e
    replace e := (gd_s e).2
    replace e := br_s e
    rcases e with ⟨_, e⟩ | ⟨_, e⟩
    · replace e := nm_s e
      obtain ⟨v_4, wv_4, e⟩ := e
      exact R_2 k e
    · replace e := cl_s e
      obtain ⟨r_5, _, e⟩ := e
      replace e := (gd_s e).2
      replace e := br_s e
      rcases e with ⟨_, e⟩ | ⟨_, e⟩
      · replace e := nm_s e
        obtain ⟨v_8, wv_8, e⟩ := e
        exact ih k e
      · rw [← Option.some.inj e]; exact k
theorem dk_X1_hasCatch_2 {n : Nat} {g : Hp} {F : Nat} {o : Int32 × Hp} : ∀ (f : Nat) {h : Hp} {x0 : Nat} {x1 : Int32}, DyK n g h → sX1_hasCatch_2 F f h x0 x1 = some o → DyK n g o.2 := by
  intro f
  induction f with
  | zero => intro h x0 x1 _ e; exact absurd e (by rw [sX1_hasCatch_2]; exact fun z => nomatch z)
  | succ f ih =>
    intro h x0 x1 k e
    rw [sX1_hasCatch_2] at e
    replace e := br_s e
    rcases e with ⟨_, e⟩ | ⟨_, e⟩
    · rw [← Option.some.inj e]; exact k
    · exact dk_X1_hasCatch_12 (fun k e => ih k e) F k e
theorem dk_X1_hasCatch {n : Nat} {g : Hp} {F : Nat} {o : Int32 × Hp} {x0 : Nat} {h : Hp} (k : DyK n g h) (e : sX1_hasCatch F h x0 = some o) : DyK n g o.2 := by
  unfold sX1_hasCatch at e
  exact dk_X1_hasCatch_2 F k e
theorem dk_X0_read_117 {n : Nat} {g : Hp} {F : Nat} {o : Int32 × Hp} {t0 : Int32} {h : Hp} (k : DyK n g h) (e : sX0_read_117 F h t0 = some o) : DyK n g o.2 := by
  unfold sX0_read_117 at e
  rw [← Option.some.inj e]; exact k
theorem dk_X0_read_43 {n : Nat} {g : Hp} {F : Nat} {o : Int32 × Hp} {x4 : Int32} {h : Hp} (k : DyK n g h) (e : sX0_read_43 F h x4 = some o) : DyK n g o.2 := by
  unfold sX0_read_43 at e
  rw [← Option.some.inj e]; exact k
theorem dk_X0_with_35 {n : Nat} {g : Hp} {F : Nat} {o : Int32 × Hp} {x0 : Int32} {x1 : Int32} {x2 : Int32} {h : Hp} (k : DyK n g h) (e : sX0_with_35 F h x0 x1 x2 = some o) : DyK n g o.2 := by
  unfold sX0_with_35 at e
  replace e := nm_s e
  obtain ⟨v_1, wv_1, e⟩ := e
  rw [← Option.some.inj e]; exact k
theorem dk_X0_with_2 {n : Nat} {g : Hp} {F : Nat} {o : Int32 × Hp} : ∀ (f : Nat) {h : Hp} {x0 : Int32} {x1 : Int32} {x2 : Int32}, DyK n g h → sX0_with_2 F f h x0 x1 x2 = some o → DyK n g o.2 := by
  intro f
  induction f with
  | zero => intro h x0 x1 x2 _ e; exact absurd e (by rw [sX0_with_2]; exact fun z => nomatch z)
  | succ f ih =>
    intro h x0 x1 x2 k e
    rw [sX0_with_2] at e
    replace e := br_s e
    rcases e with ⟨_, e⟩ | ⟨_, e⟩
    · exact dk_X0_with_35 k e
    · replace e := br_s e
      rcases e with ⟨_, e⟩ | ⟨_, e⟩
      · exact dk_X0_with_35 k e
      · replace e := br_s e
        rcases e with ⟨_, e⟩ | ⟨_, e⟩
        · exact dk_X0_with_35 k e
        · replace e := nm_s e
          obtain ⟨v_4, wv_4, e⟩ := e
          exact ih k e
theorem dk_X0_with {n : Nat} {g : Hp} {F : Nat} {o : Int32 × Hp} {x0 : Int32} {x1 : Int32} {h : Hp} (k : DyK n g h) (e : sX0_with F h x0 x1 = some o) : DyK n g o.2 := by
  unfold sX0_with at e
  exact dk_X0_with_2 F k e
theorem dk_X0_read_83 {n : Nat} {g : Hp} {F : Nat} {o : Int32 × Hp} {x0 : Nat} {x1 : Nat} {x2 : Int32} {x3 : Int32} {x4 : Int32} {x5 : Int32} {k_7 : Hp → Nat → Nat → Int32 → Int32 → Int32 → Option (Int32 × Hp)} (R_7 : ∀ {h : Hp} {y1 : Nat} {y2 : Nat} {y3 : Int32} {y4 : Int32} {y5 : Int32}, DyK n g h → k_7 h y1 y2 y3 y4 y5 = some o → DyK n g o.2) {h : Hp} (k : DyK n g h) (e : sX0_read_83 F k_7 h x0 x1 x2 x3 x4 x5 = some o) : DyK n g o.2 := by
  unfold sX0_read_83 at e
  replace e := cl_s e
  obtain ⟨o_1, eo_1, e⟩ := e
  have ko_1 : DyK n g o_1.2 := dk_X0_with k eo_1
  replace e := nm_s e
  obtain ⟨v_2, wv_2, e⟩ := e
  exact R_7 ko_1 e
theorem dk_X0_read_7 {n : Nat} {g : Hp} {F : Nat} {o : Int32 × Hp} : ∀ (f : Nat) {h : Hp} {x0 : Nat} {x1 : Nat} {x2 : Int32} {x3 : Int32} {x4 : Int32}, DyK n g h → sX0_read_7 F f h x0 x1 x2 x3 x4 = some o → DyK n g o.2 := by
  intro f
  induction f with
  | zero => intro h x0 x1 x2 x3 x4 _ e; exact absurd e (by rw [sX0_read_7]; exact fun z => nomatch z)
  | succ f ih =>
    intro h x0 x1 x2 x3 x4 k e
    rw [sX0_read_7] at e
    replace e := br_s e
    rcases e with ⟨_, e⟩ | ⟨_, e⟩
    · replace e := nm_s e
      obtain ⟨h_2, wh_2, e⟩ := e
      have kh_2 : DyK n g h_2 := by rw [wh_2]; exact dk_wI k
      replace e := br_s e
      rcases e with ⟨_, e⟩ | ⟨_, e⟩
      · exact dk_X0_read_117 kh_2 e
      · exact dk_X0_read_117 kh_2 e
    · replace e := cl_s e
      obtain ⟨r_4, _, e⟩ := e
      replace e := cl_s e
      obtain ⟨o_5, eo_5, e⟩ := e
      have ko_5 : DyK n g o_5.2 := dk_X9_byteAt k eo_5
      replace e := cl_s e
      obtain ⟨o_6, eo_6, e⟩ := e
      have ko_6 : DyK n g o_6.2 := dk_X1_codeOf ko_5 eo_6
      replace e := br_s e
      rcases e with ⟨_, e⟩ | ⟨_, e⟩
      · exact dk_X0_read_43 ko_6 e
      · replace e := br_s e
        rcases e with ⟨_, e⟩ | ⟨_, e⟩
        · exact dk_X0_read_43 ko_6 e
        · replace e := cl_s e
          obtain ⟨r_9, _, e⟩ := e
          replace e := br_s e
          rcases e with ⟨_, e⟩ | ⟨_, e⟩
          · replace e := br_s e
            rcases e with ⟨_, e⟩ | ⟨_, e⟩
            · replace e := nm_s e
              obtain ⟨v_12, wv_12, e⟩ := e
              exact dk_X0_read_83 (fun k e => ih k e) ko_6 e
            · rw [← Option.some.inj e]; exact ko_6
          · exact dk_X0_read_83 (fun k e => ih k e) ko_6 e
theorem dk_X0_read {n : Nat} {g : Hp} {F : Nat} {o : Int32 × Hp} {x0 : Nat} {x1 : Nat} {h : Hp} (k : DyK n g h) (e : sX0_read F h x0 x1 = some o) : DyK n g o.2 := by
  unfold sX0_read at e
  exact dk_X0_read_7 F k e
theorem dk_X0_sizeOf_22 {n : Nat} {g : Hp} {F : Nat} {o : Int32 × Hp} {x1 : Int32} {h : Hp} (k : DyK n g h) (e : sX0_sizeOf_22 F h x1 = some o) : DyK n g o.2 := by
  unfold sX0_sizeOf_22 at e
  rw [← Option.some.inj e]; exact k
theorem dk_X0_codeIn {n : Nat} {g : Hp} {o : Int32 × Hp} {x0 : Int32} {x1 : Int32} {h : Hp} (k : DyK n g h) (e : sX0_codeIn h x0 x1 = some o) : DyK n g o.2 := by
  unfold sX0_codeIn at e
  rw [← Option.some.inj e]; exact k
theorem dk_X0_sizeOf_2 {n : Nat} {g : Hp} {F : Nat} {o : Int32 × Hp} : ∀ (f : Nat) {h : Hp} {x0 : Int32} {x1 : Int32}, DyK n g h → sX0_sizeOf_2 F f h x0 x1 = some o → DyK n g o.2 := by
  intro f
  induction f with
  | zero => intro h x0 x1 _ e; exact absurd e (by rw [sX0_sizeOf_2]; exact fun z => nomatch z)
  | succ f ih =>
    intro h x0 x1 k e
    rw [sX0_sizeOf_2] at e
    replace e := br_s e
    rcases e with ⟨_, e⟩ | ⟨_, e⟩
    · exact dk_X0_sizeOf_22 k e
    · replace e := cl_s e
      obtain ⟨o_2, eo_2, e⟩ := e
      have ko_2 : DyK n g o_2.2 := dk_X0_codeIn k eo_2
      replace e := br_s e
      rcases e with ⟨_, e⟩ | ⟨_, e⟩
      · exact dk_X0_sizeOf_22 ko_2 e
      · replace e := nm_s e
        obtain ⟨v_4, wv_4, e⟩ := e
        exact ih ko_2 e
theorem dk_X0_sizeOf {n : Nat} {g : Hp} {F : Nat} {o : Int32 × Hp} {x0 : Int32} {h : Hp} (k : DyK n g h) (e : sX0_sizeOf F h x0 = some o) : DyK n g o.2 := by
  unfold sX0_sizeOf at e
  exact dk_X0_sizeOf_2 F k e
theorem dk_X0_addSet_91 {n : Nat} {g : Hp} {F : Nat} {o : Hp} {h : Hp} (k : DyK n g h) (e : sX0_addSet_91 F h = some o) : DyK n g o := by
  unfold sX0_addSet_91 at e
  rw [← Option.some.inj e]; exact k
theorem dk_X0_addSet_2 {n : Nat} {g : Hp} {F : Nat} {o : Hp} : ∀ (f : Nat) {h : Hp} {x0 : Nat} {x1 : Int32} {x2 : Int32}, DyK n g h → sX0_addSet_2 F f h x0 x1 x2 = some o → DyK n g o := by
  intro f
  induction f with
  | zero => intro h x0 x1 x2 _ e; exact absurd e (by rw [sX0_addSet_2]; exact fun z => nomatch z)
  | succ f ih =>
    intro h x0 x1 x2 k e
    rw [sX0_addSet_2] at e
    replace e := br_s e
    rcases e with ⟨_, e⟩ | ⟨_, e⟩
    · replace e := cl_s e
      obtain ⟨r_2, _, e⟩ := e
      replace e := cl_s e
      obtain ⟨o_3, eo_3, e⟩ := e
      have ko_3 : DyK n g o_3.2 := dk_X0_sizeOf k eo_3
      replace e := (gd_s e).2
      replace e := nm_s e
      obtain ⟨h_5, wh_5, e⟩ := e
      have kh_5 : DyK n g h_5 := by rw [wh_5]; exact dk_wJ ko_3
      replace e := br_s e
      rcases e with ⟨_, e⟩ | ⟨_, e⟩
      · exact dk_X0_addSet_91 kh_5 e
      · replace e := br_s e
        rcases e with ⟨_, e⟩ | ⟨_, e⟩
        · exact dk_X0_addSet_91 kh_5 e
        · replace e := cl_s e
          obtain ⟨r_8, _, e⟩ := e
          replace e := (gd_s e).2
          replace e := nm_s e
          obtain ⟨h_10, wh_10, e⟩ := e
          have kh_10 : DyK n g h_10 := by rw [wh_10]; exact dk_wI kh_5
          replace e := nm_s e
          obtain ⟨h_11, wh_11, e⟩ := e
          have kh_11 : DyK n g h_11 := by rw [wh_11]; exact dk_wI kh_10
          exact dk_X0_addSet_91 kh_11 e
    · replace e := cl_s e
      obtain ⟨r_12, _, e⟩ := e
      replace e := (gd_s e).2
      replace e := br_s e
      rcases e with ⟨_, e⟩ | ⟨_, e⟩
      · rw [← Option.some.inj e]; exact k
      · replace e := nm_s e
        obtain ⟨v_15, wv_15, e⟩ := e
        exact ih k e
theorem dk_X0_addSet {n : Nat} {g : Hp} {F : Nat} {o : Hp} {x0 : Nat} {x1 : Int32} {h : Hp} (k : DyK n g h) (e : sX0_addSet F h x0 x1 = some o) : DyK n g o := by
  unfold sX0_addSet at e
  exact dk_X0_addSet_2 F k e
theorem dk_X0_sortSets_77 {n : Nat} {g : Hp} {F : Nat} {o : Hp} : ∀ (f : Nat) {h : Hp} {x0 : Nat} {x1 : Int32}, DyK n g h → sX0_sortSets_77 F f h x0 x1 = some o → DyK n g o := by
  intro f
  induction f with
  | zero => intro h x0 x1 _ e; exact absurd e (by rw [sX0_sortSets_77]; exact fun z => nomatch z)
  | succ f ih =>
    intro h x0 x1 k e
    rw [sX0_sortSets_77] at e
    replace e := br_s e
    rcases e with ⟨_, e⟩ | ⟨_, e⟩
    · rw [← Option.some.inj e]; exact k
    · replace e := cl_s e
      obtain ⟨r_2, _, e⟩ := e
      replace e := cl_s e
      obtain ⟨r_3, _, e⟩ := e
      replace e := (gd_s e).2
      replace e := cl_s e
      obtain ⟨r_5, _, e⟩ := e
      replace e := cl_s e
      obtain ⟨r_6, _, e⟩ := e
      replace e := (gd_s e).2
      replace e := cl_s e
      obtain ⟨o_8, eo_8, e⟩ := e
      have ko_8 : DyK n g o_8.2 := dk_X0_sizeOf k eo_8
      replace e := (gd_s e).2
      replace e := (gd_s e).2
      replace e := nm_s e
      obtain ⟨h_11, wh_11, e⟩ := e
      have kh_11 : DyK n g h_11 := by rw [wh_11]; exact dk_wI ko_8
      replace e := nm_s e
      obtain ⟨v_12, wv_12, e⟩ := e
      exact ih kh_11 e
theorem dk_X0_sortSets_55 {n : Nat} {g : Hp} {F : Nat} {o : Hp} {x0 : Nat} {x1 : Int32} {x2 : Int32} {x3 : Int32} {k_2 : Hp → Nat → Int32 → Option (Hp)} (R_2 : ∀ {h : Hp} {y1 : Nat} {y2 : Int32}, DyK n g h → k_2 h y1 y2 = some o → DyK n g o) {h : Hp} (k : DyK n g h) (e : sX0_sortSets_55 F k_2 h x0 x1 x2 x3 = some o) : DyK n g o := by
  unfold sX0_sortSets_55 at e
  replace e := cl_s e
  obtain ⟨r_1, _, e⟩ := e
  replace e := (gd_s e).2
  replace e := nm_s e
  obtain ⟨h_3, wh_3, e⟩ := e
  have kh_3 : DyK n g h_3 := by rw [wh_3]; exact dk_wI k
  replace e := nm_s e
  obtain ⟨v_4, wv_4, e⟩ := e
  exact R_2 kh_3 e
theorem dk_X0_sortSets_19 {n : Nat} {g : Hp} {F : Nat} {o : Hp} {k_2 : Hp → Nat → Int32 → Option (Hp)} (R_2 : ∀ {h : Hp} {y1 : Nat} {y2 : Int32}, DyK n g h → k_2 h y1 y2 = some o → DyK n g o) : ∀ (f : Nat) {h : Hp} {x0 : Nat} {x1 : Int32} {x2 : Int32} {x3 : Int32}, DyK n g h → sX0_sortSets_19 F k_2 f h x0 x1 x2 x3 = some o → DyK n g o := by
  intro f
  induction f with
  | zero => intro h x0 x1 x2 x3 _ e; exact absurd e (by rw [sX0_sortSets_19]; exact fun z => nomatch z)
  | succ f ih =>
    intro h x0 x1 x2 x3 k e
    rw [sX0_sortSets_19] at e
    replace e := br_s e
    rcases e with ⟨_, e⟩ | ⟨_, e⟩
    · exact dk_X0_sortSets_55 R_2 k e
    · replace e := cl_s e
      obtain ⟨r_2, _, e⟩ := e
      replace e := (gd_s e).2
      replace e := br_s e
      rcases e with ⟨_, e⟩ | ⟨_, e⟩
      · exact dk_X0_sortSets_55 R_2 k e
      · replace e := cl_s e
        obtain ⟨r_5, _, e⟩ := e
        replace e := cl_s e
        obtain ⟨r_6, _, e⟩ := e
        replace e := (gd_s e).2
        replace e := (gd_s e).2
        replace e := nm_s e
        obtain ⟨h_9, wh_9, e⟩ := e
        have kh_9 : DyK n g h_9 := by rw [wh_9]; exact dk_wI k
        replace e := nm_s e
        obtain ⟨v_10, wv_10, e⟩ := e
        exact ih kh_9 e
theorem dk_X0_sortSets_2 {n : Nat} {g : Hp} {F : Nat} {o : Hp} : ∀ (f : Nat) {h : Hp} {x0 : Nat} {x1 : Int32}, DyK n g h → sX0_sortSets_2 F f h x0 x1 = some o → DyK n g o := by
  intro f
  induction f with
  | zero => intro h x0 x1 _ e; exact absurd e (by rw [sX0_sortSets_2]; exact fun z => nomatch z)
  | succ f ih =>
    intro h x0 x1 k e
    rw [sX0_sortSets_2] at e
    replace e := br_s e
    rcases e with ⟨_, e⟩ | ⟨_, e⟩
    · replace e := cl_s e
      obtain ⟨r_2, _, e⟩ := e
      replace e := (gd_s e).2
      replace e := nm_s e
      obtain ⟨h_4, wh_4, e⟩ := e
      have kh_4 : DyK n g h_4 := by rw [wh_4]; exact dk_wI k
      exact dk_X0_sortSets_77 F kh_4 e
    · replace e := cl_s e
      obtain ⟨r_5, _, e⟩ := e
      replace e := (gd_s e).2
      replace e := nm_s e
      obtain ⟨v_7, wv_7, e⟩ := e
      exact dk_X0_sortSets_19 (fun k e => ih k e) F k e
theorem dk_X0_sortSets {n : Nat} {g : Hp} {F : Nat} {o : Hp} {x0 : Nat} {h : Hp} (k : DyK n g h) (e : sX0_sortSets F h x0 = some o) : DyK n g o := by
  unfold sX0_sortSets at e
  exact dk_X0_sortSets_2 F k e
theorem dk_X0_gatherSets_104 {n : Nat} {g : Hp} {F : Nat} {o : Int32 × Hp} {x0 : Nat} {h : Hp} (k : DyK n g h) (e : sX0_gatherSets_104 F h x0 = some o) : DyK n g o.2 := by
  unfold sX0_gatherSets_104 at e
  replace e := br_s e
  rcases e with ⟨_, e⟩ | ⟨_, e⟩
  · replace e := cl_s e
    obtain ⟨o_2, eo_2, e⟩ := e
    have ko_2 : DyK n g o_2 := dk_X0_sortSets k eo_2
    rw [← Option.some.inj e]; exact ko_2
  · rw [← Option.some.inj e]; exact k
theorem dk_X0_addSetsOf_104 {n : Nat} {g : Hp} {F : Nat} {o : Hp} {x0 : Nat} {x1 : Int32} {x2 : Int32} {k_2 : Hp → Nat → Int32 → Int32 → Option (Hp)} (R_2 : ∀ {h : Hp} {y1 : Nat} {y2 : Int32} {y3 : Int32}, DyK n g h → k_2 h y1 y2 y3 = some o → DyK n g o) {h : Hp} (k : DyK n g h) (e : sX0_addSetsOf_104 F k_2 h x0 x1 x2 = some o) : DyK n g o := by
  unfold sX0_addSetsOf_104 at e
  replace e := nm_s e
  obtain ⟨v_1, wv_1, e⟩ := e
  exact R_2 k e
theorem dk_X0_without {n : Nat} {g : Hp} {o : Int32 × Hp} {x0 : Int32} {x1 : Int32} {h : Hp} (k : DyK n g h) (e : sX0_without h x0 x1 = some o) : DyK n g o.2 := by
  unfold sX0_without at e
  replace e := nm_s e
  obtain ⟨v_1, wv_1, e⟩ := e
  rw [← Option.some.inj e]; exact k
theorem dk_X0_addSetsOf_52 {n : Nat} {g : Hp} {F : Nat} {o : Hp} {k_2 : Hp → Nat → Int32 → Int32 → Option (Hp)} (R_2 : ∀ {h : Hp} {y1 : Nat} {y2 : Int32} {y3 : Int32}, DyK n g h → k_2 h y1 y2 y3 = some o → DyK n g o) : ∀ (f : Nat) {h : Hp} {x0 : Nat} {x1 : Int32} {x2 : Int32} {x3 : Int32} {x4 : Int32} {x5 : Int32} {x6 : Int32}, DyK n g h → sX0_addSetsOf_52 F k_2 f h x0 x1 x2 x3 x4 x5 x6 = some o → DyK n g o := by
  intro f
  induction f with
  | zero => intro h x0 x1 x2 x3 x4 x5 x6 _ e; exact absurd e (by rw [sX0_addSetsOf_52]; exact fun z => nomatch z)
  | succ f ih =>
    intro h x0 x1 x2 x3 x4 x5 x6 k e
    rw [sX0_addSetsOf_52] at e
    replace e := cl_s e
    obtain ⟨r_1, _, e⟩ := e
    replace e := cl_s e
    obtain ⟨r_2, _, e⟩ := e
    replace e := (gd_s e).2
    replace e := br_s e
    rcases e with ⟨_, e⟩ | ⟨_, e⟩
    · exact dk_X0_addSetsOf_104 R_2 k e
    · replace e := cl_s e
      obtain ⟨r_5, _, e⟩ := e
      replace e := cl_s e
      obtain ⟨r_6, _, e⟩ := e
      replace e := (gd_s e).2
      replace e := cl_s e
      obtain ⟨o_8, eo_8, e⟩ := e
      have ko_8 : DyK n g o_8.2 := dk_X0_with k eo_8
      replace e := cl_s e
      obtain ⟨o_9, eo_9, e⟩ := e
      have ko_9 : DyK n g o_9 := dk_X0_addSet ko_8 eo_9
      replace e := nm_s e
      obtain ⟨v_10, wv_10, e⟩ := e
      exact ih ko_9 e
theorem dk_X0_addSetsOf_2 {n : Nat} {g : Hp} {F : Nat} {o : Hp} : ∀ (f : Nat) {h : Hp} {x0 : Nat} {x1 : Int32} {x2 : Int32}, DyK n g h → sX0_addSetsOf_2 F f h x0 x1 x2 = some o → DyK n g o := by
  intro f
  induction f with
  | zero => intro h x0 x1 x2 _ e; exact absurd e (by rw [sX0_addSetsOf_2]; exact fun z => nomatch z)
  | succ f ih =>
    intro h x0 x1 x2 k e
    rw [sX0_addSetsOf_2] at e
    replace e := cl_s e
    obtain ⟨o_1, eo_1, e⟩ := e
    have ko_1 : DyK n g o_1.2 := dk_X0_sizeOf k eo_1
    replace e := br_s e
    rcases e with ⟨_, e⟩ | ⟨_, e⟩
    · rw [← Option.some.inj e]; exact ko_1
    · replace e := cl_s e
      obtain ⟨o_3, eo_3, e⟩ := e
      have ko_3 : DyK n g o_3.2 := dk_X0_codeIn ko_1 eo_3
      replace e := nm_s e
      obtain ⟨v_4, wv_4, e⟩ := e
      replace e := cl_s e
      obtain ⟨r_5, _, e⟩ := e
      replace e := br_s e
      rcases e with ⟨_, e⟩ | ⟨_, e⟩
      · exact dk_X0_addSetsOf_104 (fun k e => ih k e) ko_3 e
      · replace e := cl_s e
        obtain ⟨o_7, eo_7, e⟩ := e
        have ko_7 : DyK n g o_7.2 := dk_X0_without ko_3 eo_7
        replace e := cl_s e
        obtain ⟨o_8, eo_8, e⟩ := e
        have ko_8 : DyK n g o_8 := dk_X0_addSet ko_7 eo_8
        exact dk_X0_addSetsOf_52 (fun k e => ih k e) F ko_8 e
theorem dk_X0_addSetsOf {n : Nat} {g : Hp} {F : Nat} {o : Hp} {x0 : Nat} {x1 : Int32} {h : Hp} (k : DyK n g h) (e : sX0_addSetsOf F h x0 x1 = some o) : DyK n g o := by
  unfold sX0_addSetsOf at e
  exact dk_X0_addSetsOf_2 F k e
theorem dk_X0_gatherSets_62 {n : Nat} {g : Hp} {F : Nat} {o : Int32 × Hp} : ∀ (f : Nat) {h : Hp} {x0 : Nat} {x1 : Int32}, DyK n g h → sX0_gatherSets_62 F f h x0 x1 = some o → DyK n g o.2 := by
  intro f
  induction f with
  | zero => intro h x0 x1 _ e; exact absurd e (by rw [sX0_gatherSets_62]; exact fun z => nomatch z)
  | succ f ih =>
    intro h x0 x1 k e
    rw [sX0_gatherSets_62] at e
    replace e := br_s e
    rcases e with ⟨_, e⟩ | ⟨_, e⟩
    · exact dk_X0_gatherSets_104 k e
    · replace e := br_s e
      rcases e with ⟨_, e⟩ | ⟨_, e⟩
      · exact dk_X0_gatherSets_104 k e
      · replace e := br_s e
        rcases e with ⟨_, e⟩ | ⟨_, e⟩
        · exact dk_X0_gatherSets_104 k e
        · replace e := cl_s e
          obtain ⟨r_4, _, e⟩ := e
          replace e := (gd_s e).2
          replace e := cl_s e
          obtain ⟨o_6, eo_6, e⟩ := e
          have ko_6 : DyK n g o_6 := dk_X0_addSetsOf k eo_6
          replace e := nm_s e
          obtain ⟨v_7, wv_7, e⟩ := e
          exact ih ko_6 e
theorem dk_X0_gatherSets_9 {n : Nat} {g : Hp} {F : Nat} {o : Int32 × Hp} : ∀ (f : Nat) {h : Hp} {x0 : Nat} {x1 : Int32}, DyK n g h → sX0_gatherSets_9 F f h x0 x1 = some o → DyK n g o.2 := by
  intro f
  induction f with
  | zero => intro h x0 x1 _ e; exact absurd e (by rw [sX0_gatherSets_9]; exact fun z => nomatch z)
  | succ f ih =>
    intro h x0 x1 k e
    rw [sX0_gatherSets_9] at e
    replace e := br_s e
    rcases e with ⟨_, e⟩ | ⟨_, e⟩
    · replace e := nm_s e
      obtain ⟨h_2, wh_2, e⟩ := e
      have kh_2 : DyK n g h_2 := by rw [wh_2]; exact dk_wI k
      replace e := nm_s e
      obtain ⟨h_3, wh_3, e⟩ := e
      have kh_3 : DyK n g h_3 := by rw [wh_3]; exact dk_wJ kh_2
      replace e := cl_s e
      obtain ⟨o_4, eo_4, e⟩ := e
      have ko_4 : DyK n g o_4 := dk_X0_addSet kh_3 eo_4
      exact dk_X0_gatherSets_62 F ko_4 e
    · replace e := cl_s e
      obtain ⟨r_5, _, e⟩ := e
      replace e := cl_s e
      obtain ⟨r_6, _, e⟩ := e
      replace e := (gd_s e).2
      replace e := cl_s e
      obtain ⟨r_8, _, e⟩ := e
      replace e := (gd_s e).2
      replace e := nm_s e
      obtain ⟨h_10, wh_10, e⟩ := e
      have kh_10 : DyK n g h_10 := by rw [wh_10]; exact dk_wI k
      replace e := nm_s e
      obtain ⟨v_11, wv_11, e⟩ := e
      exact ih kh_10 e
theorem dk_X0_gatherSets {n : Nat} {g : Hp} {F : Nat} {o : Int32 × Hp} {x0 : Nat} {h : Hp} (k : DyK n g h) (e : sX0_gatherSets F h x0 = some o) : DyK n g o.2 := by
  unfold sX0_gatherSets at e
  replace e := cl_s e
  obtain ⟨r_1, _, e⟩ := e
  replace e := (gd_s e).2
  replace e := nm_s e
  obtain ⟨h_3, wh_3, e⟩ := e
  have kh_3 : DyK n g h_3 := by rw [wh_3]; exact dk_wI k
  exact dk_X0_gatherSets_9 F kh_3 e

theorem dk_X0_layOut_240 {n : Nat} {g : Hp} {F : Nat} {o : Int32 × Hp} {h : Hp} (k : DyK n g h) (e : sX0_layOut_240 F h = some o) : DyK n g o.2 := by
  unfold sX0_layOut_240 at e
  rw [← Option.some.inj e]; exact k
theorem dk_X0_layOut_204 {n : Nat} {g : Hp} {F : Nat} {o : Int32 × Hp} {h : Hp} (k : DyK n g h) (e : sX0_layOut_204 F h = some o) : DyK n g o.2 := by
  unfold sX0_layOut_204 at e
  rw [← Option.some.inj e]; exact k
theorem dk_X0_layOut_178 {n : Nat} {g : Hp} {F : Nat} {o : Int32 × Hp} {x0 : Nat} {x1 : Int32} {x5 : Int32} {x6 : Int32} {x7 : Int32} {x9 : Int32} {x10 : Int32} {x11 : Int32} {x12 : Int32} {t0 : Int32} {k_79 : Hp → Nat → Int32 → Int32 → Int32 → Int32 → Int32 → Int32 → Option (Int32 × Hp)} (R_79 : ∀ {h : Hp} {y1 : Nat} {y2 : Int32} {y3 : Int32} {y4 : Int32} {y5 : Int32} {y6 : Int32} {y7 : Int32}, DyK n g h → k_79 h y1 y2 y3 y4 y5 y6 y7 = some o → DyK n g o.2) {h : Hp} (k : DyK n g h) (e : sX0_layOut_178 F k_79 h x0 x1 x5 x6 x7 x9 x10 x11 x12 t0 = some o) : DyK n g o.2 := by
  unfold sX0_layOut_178 at e
  replace e := br_s e
  rcases e with ⟨_, e⟩ | ⟨_, e⟩
  · replace e := br_s e
    rcases e with ⟨_, e⟩ | ⟨_, e⟩
    · replace e := cl_s e
      obtain ⟨r_3, _, e⟩ := e
      replace e := cl_s e
      obtain ⟨r_4, _, e⟩ := e
      replace e := (gd_s e).2
      replace e := br_s e
      rcases e with ⟨_, e⟩ | ⟨_, e⟩
      · replace e := nm_s e
        obtain ⟨v_7, wv_7, e⟩ := e
        replace e := cl_s e
        obtain ⟨r_8, _, e⟩ := e
        replace e := cl_s e
        obtain ⟨r_9, _, e⟩ := e
        replace e := cl_s e
        obtain ⟨o_10, eo_10, e⟩ := e
        have ko_10 : DyK n g o_10 := dk_X3_put k eo_10
        replace e := nm_s e
        obtain ⟨v_11, wv_11, e⟩ := e
        exact R_79 ko_10 e
      · exact dk_X0_layOut_204 k e
    · exact dk_X0_layOut_204 k e
  · exact dk_X0_layOut_204 k e
theorem dk_X0_layOut_177 {n : Nat} {g : Hp} {F : Nat} {o : Int32 × Hp} {x0 : Nat} {x1 : Int32} {x5 : Int32} {x6 : Int32} {x7 : Int32} {x9 : Int32} {x10 : Int32} {x11 : Int32} {x12 : Int32} {k_79 : Hp → Nat → Int32 → Int32 → Int32 → Int32 → Int32 → Int32 → Option (Int32 × Hp)} (R_79 : ∀ {h : Hp} {y1 : Nat} {y2 : Int32} {y3 : Int32} {y4 : Int32} {y5 : Int32} {y6 : Int32} {y7 : Int32}, DyK n g h → k_79 h y1 y2 y3 y4 y5 y6 y7 = some o → DyK n g o.2) {h : Hp} (k : DyK n g h) (e : sX0_layOut_177 F k_79 h x0 x1 x5 x6 x7 x9 x10 x11 x12 = some o) : DyK n g o.2 := by
  unfold sX0_layOut_177 at e
  exact dk_X0_layOut_178 R_79 k e
theorem dk_X0_layOut_141 {n : Nat} {g : Hp} {F : Nat} {o : Int32 × Hp} {x0 : Nat} {x1 : Int32} {x5 : Int32} {x6 : Int32} {x7 : Int32} {x9 : Int32} {x10 : Int32} {x11 : Int32} {t0 : Int32} {k_79 : Hp → Nat → Int32 → Int32 → Int32 → Int32 → Int32 → Int32 → Option (Int32 × Hp)} (R_79 : ∀ {h : Hp} {y1 : Nat} {y2 : Int32} {y3 : Int32} {y4 : Int32} {y5 : Int32} {y6 : Int32} {y7 : Int32}, DyK n g h → k_79 h y1 y2 y3 y4 y5 y6 y7 = some o → DyK n g o.2) {h : Hp} (k : DyK n g h) (e : sX0_layOut_141 F k_79 h x0 x1 x5 x6 x7 x9 x10 x11 t0 = some o) : DyK n g o.2 := by
  unfold sX0_layOut_141 at e
  replace e := cl_s e
  obtain ⟨r_1, _, e⟩ := e
  replace e := cl_s e
  obtain ⟨o_2, eo_2, e⟩ := e
  have ko_2 : DyK n g o_2.2 := dk_X1_becomesOthers k eo_2
  replace e := br_s e
  rcases e with ⟨_, e⟩ | ⟨_, e⟩
  · exact dk_X0_layOut_177 R_79 ko_2 e
  · replace e := cl_s e
    obtain ⟨r_4, _, e⟩ := e
    replace e := cl_s e
    obtain ⟨o_5, eo_5, e⟩ := e
    have ko_5 : DyK n g o_5.2 := dk_X1_isLast ko_2 eo_5
    replace e := br_s e
    rcases e with ⟨_, e⟩ | ⟨_, e⟩
    · exact dk_X0_layOut_177 R_79 ko_5 e
    · exact dk_X0_layOut_178 R_79 ko_5 e
theorem dk_X0_layOut_140 {n : Nat} {g : Hp} {F : Nat} {o : Int32 × Hp} {x0 : Nat} {x1 : Int32} {x5 : Int32} {x6 : Int32} {x7 : Int32} {x9 : Int32} {x10 : Int32} {x11 : Int32} {k_79 : Hp → Nat → Int32 → Int32 → Int32 → Int32 → Int32 → Int32 → Option (Int32 × Hp)} (R_79 : ∀ {h : Hp} {y1 : Nat} {y2 : Int32} {y3 : Int32} {y4 : Int32} {y5 : Int32} {y6 : Int32} {y7 : Int32}, DyK n g h → k_79 h y1 y2 y3 y4 y5 y6 y7 = some o → DyK n g o.2) {h : Hp} (k : DyK n g h) (e : sX0_layOut_140 F k_79 h x0 x1 x5 x6 x7 x9 x10 x11 = some o) : DyK n g o.2 := by
  unfold sX0_layOut_140 at e
  exact dk_X0_layOut_141 R_79 k e
theorem dk_X0_layOut_79 {n : Nat} {g : Hp} {F : Nat} {o : Int32 × Hp} : ∀ (f : Nat) {h : Hp} {x0 : Nat} {x1 : Int32} {x5 : Int32} {x6 : Int32} {x7 : Int32} {x8 : Int32} {x9 : Int32}, DyK n g h → sX0_layOut_79 F f h x0 x1 x5 x6 x7 x8 x9 = some o → DyK n g o.2 := by
  intro f
  induction f with
  | zero => intro h x0 x1 x5 x6 x7 x8 x9 _ e; exact absurd e (by rw [sX0_layOut_79]; exact fun z => nomatch z)
  | succ f ih =>
    intro h x0 x1 x5 x6 x7 x8 x9 k e
    rw [sX0_layOut_79] at e
    replace e := br_s e
    rcases e with ⟨_, e⟩ | ⟨_, e⟩
    · exact dk_X0_layOut_240 k e
    · replace e := br_s e
      rcases e with ⟨_, e⟩ | ⟨_, e⟩
      · exact dk_X0_layOut_240 k e
      · replace e := (gd_s e).2
        replace e := nm_s e
        obtain ⟨v_4, wv_4, e⟩ := e
        replace e := (gd_s e).2
        replace e := nm_s e
        obtain ⟨v_6, wv_6, e⟩ := e
        replace e := cl_s e
        obtain ⟨o_7, eo_7, e⟩ := e
        have ko_7 : DyK n g o_7.2 := dk_X0_codeIn k eo_7
        replace e := br_s e
        rcases e with ⟨_, e⟩ | ⟨_, e⟩
        · replace e := br_s e
          rcases e with ⟨_, e⟩ | ⟨_, e⟩
          · exact dk_X0_layOut_140 (fun k e => ih k e) ko_7 e
          · exact dk_X0_layOut_141 (fun k e => ih k e) ko_7 e
        · exact dk_X0_layOut_140 (fun k e => ih k e) ko_7 e
theorem dk_X0_layOut_55 {n : Nat} {g : Hp} {F : Nat} {o : Int32 × Hp} {x0 : Nat} {x1 : Int32} {x2 : Int32} {h : Hp} (k : DyK n g h) (e : sX0_layOut_55 F h x0 x1 x2 = some o) : DyK n g o.2 := by
  unfold sX0_layOut_55 at e
  replace e := cl_s e
  obtain ⟨o_1, eo_1, e⟩ := e
  have ko_1 : DyK n g o_1.2 := dk_X0_sizeOf k eo_1
  replace e := cl_s e
  obtain ⟨r_2, _, e⟩ := e
  replace e := nm_s e
  obtain ⟨v_3, wv_3, e⟩ := e
  exact dk_X0_layOut_79 F ko_1 e
theorem dk_X0_layOut_11 {n : Nat} {g : Hp} {F : Nat} {o : Int32 × Hp} : ∀ (f : Nat) {h : Hp} {x0 : Nat} {x1 : Int32} {x2 : Int32} {x3 : Int64} {x5 : Int32}, DyK n g h → sX0_layOut_11 F f h x0 x1 x2 x3 x5 = some o → DyK n g o.2 := by
  intro f
  induction f with
  | zero => intro h x0 x1 x2 x3 x5 _ e; exact absurd e (by rw [sX0_layOut_11]; exact fun z => nomatch z)
  | succ f ih =>
    intro h x0 x1 x2 x3 x5 k e
    rw [sX0_layOut_11] at e
    replace e := br_s e
    rcases e with ⟨_, e⟩ | ⟨_, e⟩
    · exact dk_X0_layOut_55 k e
    · replace e := br_s e
      rcases e with ⟨_, e⟩ | ⟨_, e⟩
      · exact dk_X0_layOut_55 k e
      · replace e := cl_s e
        obtain ⟨r_3, _, e⟩ := e
        replace e := cl_s e
        obtain ⟨o_4, eo_4, e⟩ := e
        have ko_4 : DyK n g o_4.2 := dk_X11_lowest k eo_4
        replace e := cl_s e
        obtain ⟨r_5, _, e⟩ := e
        replace e := cl_s e
        obtain ⟨o_6, eo_6, e⟩ := e
        have ko_6 : DyK n g o_6 := dk_X3_put ko_4 eo_6
        replace e := nm_s e
        obtain ⟨v_7, wv_7, e⟩ := e
        replace e := nm_s e
        obtain ⟨v_8, wv_8, e⟩ := e
        exact ih ko_6 e
theorem dk_X0_layOut {n : Nat} {g : Hp} {F : Nat} {o : Int32 × Hp} {x0 : Nat} {x1 : Int32} {x2 : Int32} {h : Hp} (k : DyK n g h) (e : sX0_layOut F h x0 x1 x2 = some o) : DyK n g o.2 := by
  unfold sX0_layOut at e
  replace e := cl_s e
  obtain ⟨r_1, _, e⟩ := e
  replace e := cl_s e
  obtain ⟨o_2, eo_2, e⟩ := e
  have ko_2 : DyK n g o_2.2 := dk_X3_occupied k eo_2
  exact dk_X0_layOut_11 F ko_2 e
theorem dk_X0_markAll_94 {n : Nat} {g : Hp} {F : Nat} {o : Hp} {x0 : Nat} {x1 : Int32} {x2 : Int32} {x3 : Int32} {x4 : Int32} {x5 : Int32} {x6 : Int32} {t0 : Int32} {t1 : Int32} {t2 : Nat} {k_2 : Hp → Nat → Int32 → Option (Hp)} (R_2 : ∀ {h : Hp} {y1 : Nat} {y2 : Int32}, DyK n g h → k_2 h y1 y2 = some o → DyK n g o) {k_30 : Hp → Nat → Int32 → Int32 → Int32 → Option (Hp)} (R_30 : ∀ {h : Hp} {y1 : Nat} {y2 : Int32} {y3 : Int32} {y4 : Int32}, DyK n g h → k_30 h y1 y2 y3 y4 = some o → DyK n g o) {k_63 : Hp → Nat → Int32 → Int32 → Int32 → Int32 → Int32 → Int32 → Option (Hp)} (R_63 : ∀ {h : Hp} {y1 : Nat} {y2 : Int32} {y3 : Int32} {y4 : Int32} {y5 : Int32} {y6 : Int32} {y7 : Int32}, DyK n g h → k_63 h y1 y2 y3 y4 y5 y6 y7 = some o → DyK n g o) {h : Hp} (k : DyK n g h) (e : sX0_markAll_94 F k_2 k_30 k_63 h x0 x1 x2 x3 x4 x5 x6 t0 t1 t2 = some o) : DyK n g o := by
  unfold sX0_markAll_94 at e
  replace e := (gd_s e).2
  replace e := nm_s e
  obtain ⟨h_2, wh_2, e⟩ := e
  have kh_2 : DyK n g h_2 := by rw [wh_2]; exact dk_wI k
  replace e := cl_s e
  obtain ⟨r_3, _, e⟩ := e
  replace e := (gd_s e).2
  replace e := nm_s e
  obtain ⟨h_5, wh_5, e⟩ := e
  have kh_5 : DyK n g h_5 := by rw [wh_5]; exact dk_wI kh_2
  replace e := nm_s e
  obtain ⟨v_6, wv_6, e⟩ := e
  exact R_63 kh_5 e
theorem dk_X0_earlyWorth_54 {n : Nat} {g : Hp} {F : Nat} {o : Int32 × Hp} {t0 : Int32} {h : Hp} (k : DyK n g h) (e : sX0_earlyWorth_54 F h t0 = some o) : DyK n g o.2 := by
  unfold sX0_earlyWorth_54 at e
  rw [← Option.some.inj e]; exact k
theorem dk_X0_endWorth_40 {n : Nat} {g : Hp} {o : Int32 × Hp} {t0 : Int32} {h : Hp} (k : DyK n g h) (e : sX0_endWorth_40 h t0 = some o) : DyK n g o.2 := by
  unfold sX0_endWorth_40 at e
  rw [← Option.some.inj e]; exact k
theorem dk_X0_endWorth {n : Nat} {g : Hp} {o : Int32 × Hp} {x0 : Nat} {x1 : Int32} {h : Hp} (k : DyK n g h) (e : sX0_endWorth h x0 x1 = some o) : DyK n g o.2 := by
  unfold sX0_endWorth at e
  replace e := cl_s e
  obtain ⟨r_1, _, e⟩ := e
  replace e := cl_s e
  obtain ⟨r_2, _, e⟩ := e
  replace e := cl_s e
  obtain ⟨o_3, eo_3, e⟩ := e
  have ko_3 : DyK n g o_3.2 := dk_X5_winnerOf k eo_3
  replace e := br_s e
  rcases e with ⟨_, e⟩ | ⟨_, e⟩
  · exact dk_X0_endWorth_40 ko_3 e
  · replace e := cl_s e
    obtain ⟨r_5, _, e⟩ := e
    replace e := br_s e
    rcases e with ⟨_, e⟩ | ⟨_, e⟩
    · exact dk_X0_endWorth_40 ko_3 e
    · exact dk_X0_endWorth_40 ko_3 e
theorem dk_X0_earlyWorth {n : Nat} {g : Hp} {F : Nat} {o : Int32 × Hp} {x0 : Nat} {x1 : Int32} {h : Hp} (k : DyK n g h) (e : sX0_earlyWorth F h x0 x1 = some o) : DyK n g o.2 := by
  unfold sX0_earlyWorth at e
  replace e := cl_s e
  obtain ⟨r_1, _, e⟩ := e
  replace e := nm_s e
  obtain ⟨h_2, wh_2, e⟩ := e
  have kh_2 : DyK n g h_2 := by rw [wh_2]; exact dk_wI k
  replace e := cl_s e
  obtain ⟨r_3, _, e⟩ := e
  replace e := cl_s e
  obtain ⟨r_4, _, e⟩ := e
  replace e := cl_s e
  obtain ⟨o_5, eo_5, e⟩ := e
  have ko_5 : DyK n g o_5.2 := dk_X5_isRoyalHit kh_2 eo_5
  replace e := br_s e
  rcases e with ⟨_, e⟩ | ⟨_, e⟩
  · replace e := cl_s e
    obtain ⟨r_7, _, e⟩ := e
    replace e := cl_s e
    obtain ⟨r_8, _, e⟩ := e
    replace e := cl_s e
    obtain ⟨o_9, eo_9, e⟩ := e
    have ko_9 : DyK n g o_9.2 := dk_X5_earlyEnd ko_5 eo_9
    replace e := br_s e
    rcases e with ⟨_, e⟩ | ⟨_, e⟩
    · exact dk_X0_earlyWorth_54 ko_9 e
    · replace e := cl_s e
      obtain ⟨o_11, eo_11, e⟩ := e
      have ko_11 : DyK n g o_11.2 := dk_X0_endWorth ko_9 eo_11
      exact dk_X0_earlyWorth_54 ko_11 e
  · rw [← Option.some.inj e]; exact ko_5
theorem dk_X0_markAll_63 {n : Nat} {g : Hp} {F : Nat} {o : Hp} {k_2 : Hp → Nat → Int32 → Option (Hp)} (R_2 : ∀ {h : Hp} {y1 : Nat} {y2 : Int32}, DyK n g h → k_2 h y1 y2 = some o → DyK n g o) {k_30 : Hp → Nat → Int32 → Int32 → Int32 → Option (Hp)} (R_30 : ∀ {h : Hp} {y1 : Nat} {y2 : Int32} {y3 : Int32} {y4 : Int32}, DyK n g h → k_30 h y1 y2 y3 y4 = some o → DyK n g o) : ∀ (f : Nat) {h : Hp} {x0 : Nat} {x1 : Int32} {x2 : Int32} {x3 : Int32} {x4 : Int32} {x5 : Int32} {x6 : Int32}, DyK n g h → sX0_markAll_63 F k_2 k_30 f h x0 x1 x2 x3 x4 x5 x6 = some o → DyK n g o := by
  intro f
  induction f with
  | zero => intro h x0 x1 x2 x3 x4 x5 x6 _ e; exact absurd e (by rw [sX0_markAll_63]; exact fun z => nomatch z)
  | succ f ih =>
    intro h x0 x1 x2 x3 x4 x5 x6 k e
    rw [sX0_markAll_63] at e
    replace e := br_s e
    rcases e with ⟨_, e⟩ | ⟨_, e⟩
    · replace e := nm_s e
      obtain ⟨v_2, wv_2, e⟩ := e
      exact R_30 k e
    · replace e := cl_s e
      obtain ⟨r_3, _, e⟩ := e
      replace e := br_s e
      rcases e with ⟨_, e⟩ | ⟨_, e⟩
      · exact dk_X0_markAll_94 R_2 R_30 (fun k e => ih k e) k e
      · replace e := cl_s e
        obtain ⟨o_5, eo_5, e⟩ := e
        have ko_5 : DyK n g o_5.2 := dk_X0_earlyWorth k eo_5
        exact dk_X0_markAll_94 R_2 R_30 (fun k e => ih k e) ko_5 e
theorem dk_X0_markAll_30 {n : Nat} {g : Hp} {F : Nat} {o : Hp} {k_2 : Hp → Nat → Int32 → Option (Hp)} (R_2 : ∀ {h : Hp} {y1 : Nat} {y2 : Int32}, DyK n g h → k_2 h y1 y2 = some o → DyK n g o) : ∀ (f : Nat) {h : Hp} {x0 : Nat} {x1 : Int32} {x2 : Int32} {x3 : Int32}, DyK n g h → sX0_markAll_30 F k_2 f h x0 x1 x2 x3 = some o → DyK n g o := by
  intro f
  induction f with
  | zero => intro h x0 x1 x2 x3 _ e; exact absurd e (by rw [sX0_markAll_30]; exact fun z => nomatch z)
  | succ f ih =>
    intro h x0 x1 x2 x3 k e
    rw [sX0_markAll_30] at e
    replace e := br_s e
    rcases e with ⟨_, e⟩ | ⟨_, e⟩
    · replace e := nm_s e
      obtain ⟨v_2, wv_2, e⟩ := e
      exact R_2 k e
    · replace e := cl_s e
      obtain ⟨r_3, _, e⟩ := e
      replace e := (gd_s e).2
      replace e := cl_s e
      obtain ⟨o_5, eo_5, e⟩ := e
      have ko_5 : DyK n g o_5.2 := dk_X0_layOut k eo_5
      replace e := cl_s e
      obtain ⟨r_6, _, e⟩ := e
      replace e := (gd_s e).2
      replace e := nm_s e
      obtain ⟨v_8, wv_8, e⟩ := e
      exact dk_X0_markAll_63 R_2 (fun k e => ih k e) F ko_5 e
theorem dk_X0_markAll_2 {n : Nat} {g : Hp} {F : Nat} {o : Hp} : ∀ (f : Nat) {h : Hp} {x0 : Nat} {x1 : Int32}, DyK n g h → sX0_markAll_2 F f h x0 x1 = some o → DyK n g o := by
  intro f
  induction f with
  | zero => intro h x0 x1 _ e; exact absurd e (by rw [sX0_markAll_2]; exact fun z => nomatch z)
  | succ f ih =>
    intro h x0 x1 k e
    rw [sX0_markAll_2] at e
    replace e := br_s e
    rcases e with ⟨_, e⟩ | ⟨_, e⟩
    · rw [← Option.some.inj e]; exact k
    · replace e := cl_s e
      obtain ⟨r_2, _, e⟩ := e
      replace e := (gd_s e).2
      replace e := cl_s e
      obtain ⟨r_4, _, e⟩ := e
      replace e := (gd_s e).2
      replace e := nm_s e
      obtain ⟨v_6, wv_6, e⟩ := e
      exact dk_X0_markAll_30 (fun k e => ih k e) F k e
theorem dk_X0_markAll {n : Nat} {g : Hp} {F : Nat} {o : Hp} {x0 : Nat} {h : Hp} (k : DyK n g h) (e : sX0_markAll F h x0 = some o) : DyK n g o := by
  unfold sX0_markAll at e
  exact dk_X0_markAll_2 F k e
theorem dk_X0_countAll_138 {n : Nat} {g : Hp} {F : Nat} {o : Hp} {x0 : Nat} {x1 : Int32} {x2 : Int32} {x3 : Int32} {k_2 : Hp → Nat → Int32 → Option (Hp)} (R_2 : ∀ {h : Hp} {y1 : Nat} {y2 : Int32}, DyK n g h → k_2 h y1 y2 = some o → DyK n g o) {k_30 : Hp → Nat → Int32 → Int32 → Int32 → Option (Hp)} (R_30 : ∀ {h : Hp} {y1 : Nat} {y2 : Int32} {y3 : Int32} {y4 : Int32}, DyK n g h → k_30 h y1 y2 y3 y4 = some o → DyK n g o) {h : Hp} (k : DyK n g h) (e : sX0_countAll_138 F k_2 k_30 h x0 x1 x2 x3 = some o) : DyK n g o := by
  unfold sX0_countAll_138 at e
  replace e := nm_s e
  obtain ⟨v_1, wv_1, e⟩ := e
  exact R_30 k e
theorem dk_X0_countAll_132 {n : Nat} {g : Hp} {F : Nat} {o : Hp} {x0 : Nat} {x1 : Int32} {x2 : Int32} {x3 : Int32} {x4 : Int32} {x6 : Int32} {k_2 : Hp → Nat → Int32 → Option (Hp)} (R_2 : ∀ {h : Hp} {y1 : Nat} {y2 : Int32}, DyK n g h → k_2 h y1 y2 = some o → DyK n g o) {k_30 : Hp → Nat → Int32 → Int32 → Int32 → Option (Hp)} (R_30 : ∀ {h : Hp} {y1 : Nat} {y2 : Int32} {y3 : Int32} {y4 : Int32}, DyK n g h → k_30 h y1 y2 y3 y4 = some o → DyK n g o) {k_105 : Hp → Nat → Int32 → Int32 → Int32 → Int32 → Int32 → Option (Hp)} (R_105 : ∀ {h : Hp} {y1 : Nat} {y2 : Int32} {y3 : Int32} {y4 : Int32} {y5 : Int32} {y6 : Int32}, DyK n g h → k_105 h y1 y2 y3 y4 y5 y6 = some o → DyK n g o) {h : Hp} (k : DyK n g h) (e : sX0_countAll_132 F k_2 k_30 k_105 h x0 x1 x2 x3 x4 x6 = some o) : DyK n g o := by
  unfold sX0_countAll_132 at e
  replace e := nm_s e
  obtain ⟨v_1, wv_1, e⟩ := e
  exact R_105 k e
theorem dk_X0_goBack_157 {n : Nat} {g : Hp} {F : Nat} {o : Hp} {h : Hp} (k : DyK n g h) (e : sX0_goBack_157 F h = some o) : DyK n g o := by
  unfold sX0_goBack_157 at e
  rw [← Option.some.inj e]; exact k
theorem dk_X0_gatherRow_95 {n : Nat} {g : Hp} {F : Nat} {o : Hp} {h : Hp} (k : DyK n g h) (e : sX0_gatherRow_95 F h = some o) : DyK n g o := by
  unfold sX0_gatherRow_95 at e
  rw [← Option.some.inj e]; exact k
theorem dk_X0_gatherRow_89 {n : Nat} {g : Hp} {F : Nat} {o : Hp} {x0 : Nat} {x1 : Nat} {x2 : Int32} {x3 : Int32} {x4 : Int64} {x6 : Int32} {k_14 : Hp → Nat → Nat → Int32 → Int32 → Int64 → Int32 → Option (Hp)} (R_14 : ∀ {h : Hp} {y1 : Nat} {y2 : Nat} {y3 : Int32} {y4 : Int32} {y5 : Int64} {y6 : Int32}, DyK n g h → k_14 h y1 y2 y3 y4 y5 y6 = some o → DyK n g o) {h : Hp} (k : DyK n g h) (e : sX0_gatherRow_89 F k_14 h x0 x1 x2 x3 x4 x6 = some o) : DyK n g o := by
  unfold sX0_gatherRow_89 at e
  replace e := nm_s e
  obtain ⟨v_1, wv_1, e⟩ := e
  exact R_14 k e
theorem dk_X0_addToRow_41 {n : Nat} {g : Hp} {F : Nat} {o : Hp} {x0 : Nat} {x1 : Int32} {x2 : Int32} {h : Hp} (k : DyK n g h) (e : sX0_addToRow_41 F h x0 x1 x2 = some o) : DyK n g o := by
  unfold sX0_addToRow_41 at e
  replace e := cl_s e
  obtain ⟨r_1, _, e⟩ := e
  replace e := (gd_s e).2
  replace e := nm_s e
  obtain ⟨h_3, wh_3, e⟩ := e
  have kh_3 : DyK n g h_3 := by rw [wh_3]; exact dk_wI k
  replace e := nm_s e
  obtain ⟨h_4, wh_4, e⟩ := e
  have kh_4 : DyK n g h_4 := by rw [wh_4]; exact dk_wI kh_3
  rw [← Option.some.inj e]; exact kh_4
theorem dk_X0_addToRow_5 {n : Nat} {g : Hp} {F : Nat} {o : Hp} : ∀ (f : Nat) {h : Hp} {x0 : Nat} {x1 : Int32} {x2 : Int32}, DyK n g h → sX0_addToRow_5 F f h x0 x1 x2 = some o → DyK n g o := by
  intro f
  induction f with
  | zero => intro h x0 x1 x2 _ e; exact absurd e (by rw [sX0_addToRow_5]; exact fun z => nomatch z)
  | succ f ih =>
    intro h x0 x1 x2 k e
    rw [sX0_addToRow_5] at e
    replace e := br_s e
    rcases e with ⟨_, e⟩ | ⟨_, e⟩
    · exact dk_X0_addToRow_41 k e
    · replace e := cl_s e
      obtain ⟨r_2, _, e⟩ := e
      replace e := (gd_s e).2
      replace e := br_s e
      rcases e with ⟨_, e⟩ | ⟨_, e⟩
      · exact dk_X0_addToRow_41 k e
      · replace e := cl_s e
        obtain ⟨r_5, _, e⟩ := e
        replace e := cl_s e
        obtain ⟨r_6, _, e⟩ := e
        replace e := (gd_s e).2
        replace e := (gd_s e).2
        replace e := nm_s e
        obtain ⟨h_9, wh_9, e⟩ := e
        have kh_9 : DyK n g h_9 := by rw [wh_9]; exact dk_wI k
        replace e := nm_s e
        obtain ⟨v_10, wv_10, e⟩ := e
        exact ih kh_9 e
theorem dk_X0_addToRow {n : Nat} {g : Hp} {F : Nat} {o : Hp} {x0 : Nat} {x1 : Int32} {h : Hp} (k : DyK n g h) (e : sX0_addToRow F h x0 x1 = some o) : DyK n g o := by
  unfold sX0_addToRow at e
  replace e := nm_s e
  obtain ⟨v_1, wv_1, e⟩ := e
  exact dk_X0_addToRow_5 F k e
theorem dk_X0_gatherRow_61 {n : Nat} {g : Hp} {F : Nat} {o : Hp} {x0 : Nat} {x1 : Nat} {x2 : Int32} {x3 : Int32} {x4 : Int64} {x6 : Int32} {x7 : Int32} {t0 : Int32} {k_14 : Hp → Nat → Nat → Int32 → Int32 → Int64 → Int32 → Option (Hp)} (R_14 : ∀ {h : Hp} {y1 : Nat} {y2 : Nat} {y3 : Int32} {y4 : Int32} {y5 : Int64} {y6 : Int32}, DyK n g h → k_14 h y1 y2 y3 y4 y5 y6 = some o → DyK n g o) {h : Hp} (k : DyK n g h) (e : sX0_gatherRow_61 F k_14 h x0 x1 x2 x3 x4 x6 x7 t0 = some o) : DyK n g o := by
  unfold sX0_gatherRow_61 at e
  replace e := br_s e
  rcases e with ⟨_, e⟩ | ⟨_, e⟩
  · exact dk_X0_gatherRow_89 R_14 k e
  · replace e := br_s e
    rcases e with ⟨_, e⟩ | ⟨_, e⟩
    · exact dk_X0_gatherRow_89 R_14 k e
    · replace e := cl_s e
      obtain ⟨o_3, eo_3, e⟩ := e
      have ko_3 : DyK n g o_3 := dk_X0_addToRow k eo_3
      exact dk_X0_gatherRow_89 R_14 ko_3 e
theorem dk_X0_gatherRow_14 {n : Nat} {g : Hp} {F : Nat} {o : Hp} : ∀ (f : Nat) {h : Hp} {x0 : Nat} {x1 : Nat} {x2 : Int32} {x3 : Int32} {x4 : Int64} {x6 : Int32}, DyK n g h → sX0_gatherRow_14 F f h x0 x1 x2 x3 x4 x6 = some o → DyK n g o := by
  intro f
  induction f with
  | zero => intro h x0 x1 x2 x3 x4 x6 _ e; exact absurd e (by rw [sX0_gatherRow_14]; exact fun z => nomatch z)
  | succ f ih =>
    intro h x0 x1 x2 x3 x4 x6 k e
    rw [sX0_gatherRow_14] at e
    replace e := br_s e
    rcases e with ⟨_, e⟩ | ⟨_, e⟩
    · exact dk_X0_gatherRow_95 k e
    · replace e := br_s e
      rcases e with ⟨_, e⟩ | ⟨_, e⟩
      · exact dk_X0_gatherRow_95 k e
      · replace e := cl_s e
        obtain ⟨o_3, eo_3, e⟩ := e
        have ko_3 : DyK n g o_3.2 := dk_X11_lowest k eo_3
        replace e := nm_s e
        obtain ⟨v_4, wv_4, e⟩ := e
        replace e := br_s e
        rcases e with ⟨_, e⟩ | ⟨_, e⟩
        · exact dk_X0_gatherRow_61 (fun k e => ih k e) ko_3 e
        · replace e := cl_s e
          obtain ⟨r_6, _, e⟩ := e
          replace e := (gd_s e).2
          exact dk_X0_gatherRow_61 (fun k e => ih k e) ko_3 e
theorem dk_X0_gatherRow {n : Nat} {g : Hp} {F : Nat} {o : Hp} {x0 : Nat} {x1 : Nat} {x2 : Int32} {x3 : Int32} {h : Hp} (k : DyK n g h) (e : sX0_gatherRow F h x0 x1 x2 x3 = some o) : DyK n g o := by
  unfold sX0_gatherRow at e
  replace e := nm_s e
  obtain ⟨h_1, wh_1, e⟩ := e
  have kh_1 : DyK n g h_1 := by rw [wh_1]; exact dk_wI k
  replace e := cl_s e
  obtain ⟨o_2, eo_2, e⟩ := e
  have ko_2 : DyK n g o_2.2 := dk_X3_occupied kh_1 eo_2
  exact dk_X0_gatherRow_14 F ko_2 e
theorem dk_X0_keyOfRow_4 {n : Nat} {g : Hp} {F : Nat} {o : Int32 × Hp} : ∀ (f : Nat) {h : Hp} {x0 : Nat} {x1 : Int32} {x2 : Int32}, DyK n g h → sX0_keyOfRow_4 F f h x0 x1 x2 = some o → DyK n g o.2 := by
  intro f
  induction f with
  | zero => intro h x0 x1 x2 _ e; exact absurd e (by rw [sX0_keyOfRow_4]; exact fun z => nomatch z)
  | succ f ih =>
    intro h x0 x1 x2 k e
    rw [sX0_keyOfRow_4] at e
    replace e := br_s e
    rcases e with ⟨_, e⟩ | ⟨_, e⟩
    · rw [← Option.some.inj e]; exact k
    · replace e := cl_s e
      obtain ⟨r_2, _, e⟩ := e
      replace e := (gd_s e).2
      replace e := nm_s e
      obtain ⟨v_4, wv_4, e⟩ := e
      replace e := nm_s e
      obtain ⟨v_5, wv_5, e⟩ := e
      exact ih k e
theorem dk_X0_keyOfRow {n : Nat} {g : Hp} {F : Nat} {o : Int32 × Hp} {x0 : Nat} {h : Hp} (k : DyK n g h) (e : sX0_keyOfRow F h x0 = some o) : DyK n g o.2 := by
  unfold sX0_keyOfRow at e
  exact dk_X0_keyOfRow_4 F k e
theorem dk_X0_findSet_59 {n : Nat} {g : Hp} {F : Nat} {o : Int32 × Hp} {x0 : Nat} {x1 : Int32} {x2 : Int32} {x3 : Int32} {k_9 : Hp → Nat → Int32 → Int32 → Int32 → Option (Int32 × Hp)} (R_9 : ∀ {h : Hp} {y1 : Nat} {y2 : Int32} {y3 : Int32} {y4 : Int32}, DyK n g h → k_9 h y1 y2 y3 y4 = some o → DyK n g o.2) {h : Hp} (k : DyK n g h) (e : sX0_findSet_59 F k_9 h x0 x1 x2 x3 = some o) : DyK n g o.2 := by
  unfold sX0_findSet_59 at e
  exact R_9 k e
theorem dk_X0_findSet_9 {n : Nat} {g : Hp} {F : Nat} {o : Int32 × Hp} : ∀ (f : Nat) {h : Hp} {x0 : Nat} {x1 : Int32} {x2 : Int32} {x3 : Int32}, DyK n g h → sX0_findSet_9 F f h x0 x1 x2 x3 = some o → DyK n g o.2 := by
  intro f
  induction f with
  | zero => intro h x0 x1 x2 x3 _ e; exact absurd e (by rw [sX0_findSet_9]; exact fun z => nomatch z)
  | succ f ih =>
    intro h x0 x1 x2 x3 k e
    rw [sX0_findSet_9] at e
    replace e := br_s e
    rcases e with ⟨_, e⟩ | ⟨_, e⟩
    · rw [← Option.some.inj e]; exact k
    · replace e := nm_s e
      obtain ⟨v_2, wv_2, e⟩ := e
      replace e := cl_s e
      obtain ⟨r_3, _, e⟩ := e
      replace e := (gd_s e).2
      replace e := br_s e
      rcases e with ⟨_, e⟩ | ⟨_, e⟩
      · rw [← Option.some.inj e]; exact k
      · replace e := cl_s e
        obtain ⟨r_6, _, e⟩ := e
        replace e := (gd_s e).2
        replace e := br_s e
        rcases e with ⟨_, e⟩ | ⟨_, e⟩
        · replace e := nm_s e
          obtain ⟨v_9, wv_9, e⟩ := e
          exact dk_X0_findSet_59 (fun k e => ih k e) k e
        · replace e := nm_s e
          obtain ⟨v_10, wv_10, e⟩ := e
          exact dk_X0_findSet_59 (fun k e => ih k e) k e
theorem dk_X0_findSet {n : Nat} {g : Hp} {F : Nat} {o : Int32 × Hp} {x0 : Nat} {x1 : Int32} {h : Hp} (k : DyK n g h) (e : sX0_findSet F h x0 x1 = some o) : DyK n g o.2 := by
  unfold sX0_findSet at e
  replace e := nm_s e
  obtain ⟨v_1, wv_1, e⟩ := e
  exact dk_X0_findSet_9 F k e
theorem dk_X0_numberOf_115 {n : Nat} {g : Hp} {F : Nat} {o : Int32 × Hp} {t0 : Int32} {h : Hp} (k : DyK n g h) (e : sX0_numberOf_115 F h t0 = some o) : DyK n g o.2 := by
  unfold sX0_numberOf_115 at e
  rw [← Option.some.inj e]; exact k
theorem dk_X0_numberOf_64 {n : Nat} {g : Hp} {F : Nat} {o : Int32 × Hp} {x0 : Nat} {x1 : Int32} {x2 : Int32} {x3 : Int32} {x4 : Int32} {x5 : Int32} {k_19 : Hp → Nat → Int32 → Int32 → Int32 → Int32 → Int32 → Option (Int32 × Hp)} (R_19 : ∀ {h : Hp} {y1 : Nat} {y2 : Int32} {y3 : Int32} {y4 : Int32} {y5 : Int32} {y6 : Int32}, DyK n g h → k_19 h y1 y2 y3 y4 y5 y6 = some o → DyK n g o.2) {h : Hp} (k : DyK n g h) (e : sX0_numberOf_64 F k_19 h x0 x1 x2 x3 x4 x5 = some o) : DyK n g o.2 := by
  unfold sX0_numberOf_64 at e
  replace e := cl_s e
  obtain ⟨r_1, _, e⟩ := e
  replace e := (gd_s e).2
  replace e := cl_s e
  obtain ⟨r_3, _, e⟩ := e
  replace e := (gd_s e).2
  replace e := nm_s e
  obtain ⟨v_5, wv_5, e⟩ := e
  replace e := nm_s e
  obtain ⟨v_6, wv_6, e⟩ := e
  replace e := nm_s e
  obtain ⟨v_7, wv_7, e⟩ := e
  exact R_19 k e
theorem dk_X0_numberOf_19 {n : Nat} {g : Hp} {F : Nat} {o : Int32 × Hp} : ∀ (f : Nat) {h : Hp} {x0 : Nat} {x1 : Int32} {x2 : Int32} {x3 : Int32} {x4 : Int32} {x5 : Int32}, DyK n g h → sX0_numberOf_19 F f h x0 x1 x2 x3 x4 x5 = some o → DyK n g o.2 := by
  intro f
  induction f with
  | zero => intro h x0 x1 x2 x3 x4 x5 _ e; exact absurd e (by rw [sX0_numberOf_19]; exact fun z => nomatch z)
  | succ f ih =>
    intro h x0 x1 x2 x3 x4 x5 k e
    rw [sX0_numberOf_19] at e
    replace e := br_s e
    rcases e with ⟨_, e⟩ | ⟨_, e⟩
    · replace e := br_s e
      rcases e with ⟨_, e⟩ | ⟨_, e⟩
      · replace e := cl_s e
        obtain ⟨r_3, _, e⟩ := e
        replace e := (gd_s e).2
        exact dk_X0_numberOf_115 k e
      · exact dk_X0_numberOf_115 k e
    · replace e := br_s e
      rcases e with ⟨_, e⟩ | ⟨_, e⟩
      · replace e := cl_s e
        obtain ⟨r_6, _, e⟩ := e
        replace e := (gd_s e).2
        replace e := br_s e
        rcases e with ⟨_, e⟩ | ⟨_, e⟩
        · exact dk_X0_numberOf_64 (fun k e => ih k e) k e
        · replace e := cl_s e
          obtain ⟨r_9, _, e⟩ := e
          replace e := (gd_s e).2
          replace e := nm_s e
          obtain ⟨v_11, wv_11, e⟩ := e
          replace e := nm_s e
          obtain ⟨v_12, wv_12, e⟩ := e
          exact dk_X0_numberOf_64 (fun k e => ih k e) k e
      · exact dk_X0_numberOf_64 (fun k e => ih k e) k e
theorem dk_X0_numberOf_14 {n : Nat} {g : Hp} {F : Nat} {o : Int32 × Hp} {x0 : Nat} {x1 : Int32} {x2 : Int32} {x3 : Int32} {t0 : Int32} {h : Hp} (k : DyK n g h) (e : sX0_numberOf_14 F h x0 x1 x2 x3 t0 = some o) : DyK n g o.2 := by
  unfold sX0_numberOf_14 at e
  exact dk_X0_numberOf_19 F k e
theorem dk_X0_numberOf {n : Nat} {g : Hp} {F : Nat} {o : Int32 × Hp} {x0 : Nat} {x1 : Int32} {h : Hp} (k : DyK n g h) (e : sX0_numberOf F h x0 x1 = some o) : DyK n g o.2 := by
  unfold sX0_numberOf at e
  replace e := br_s e
  rcases e with ⟨_, e⟩ | ⟨_, e⟩
  · exact dk_X0_numberOf_14 k e
  · exact dk_X0_numberOf_14 k e
theorem dk_X0_weightOf_46 {n : Nat} {g : Hp} {F : Nat} {o : Int32 × Hp} {x0 : Nat} {x1 : Int32} {x3 : Int32} {t0 : Int32} {t1 : Int32} {k_4 : Hp → Nat → Int32 → Int32 → Int32 → Option (Int32 × Hp)} (R_4 : ∀ {h : Hp} {y1 : Nat} {y2 : Int32} {y3 : Int32} {y4 : Int32}, DyK n g h → k_4 h y1 y2 y3 y4 = some o → DyK n g o.2) {h : Hp} (k : DyK n g h) (e : sX0_weightOf_46 F k_4 h x0 x1 x3 t0 t1 = some o) : DyK n g o.2 := by
  unfold sX0_weightOf_46 at e
  replace e := nm_s e
  obtain ⟨v_1, wv_1, e⟩ := e
  replace e := nm_s e
  obtain ⟨v_2, wv_2, e⟩ := e
  exact R_4 k e
theorem dk_X0_weightOf_4 {n : Nat} {g : Hp} {F : Nat} {o : Int32 × Hp} : ∀ (f : Nat) {h : Hp} {x0 : Nat} {x1 : Int32} {x2 : Int32} {x3 : Int32}, DyK n g h → sX0_weightOf_4 F f h x0 x1 x2 x3 = some o → DyK n g o.2 := by
  intro f
  induction f with
  | zero => intro h x0 x1 x2 x3 _ e; exact absurd e (by rw [sX0_weightOf_4]; exact fun z => nomatch z)
  | succ f ih =>
    intro h x0 x1 x2 x3 k e
    rw [sX0_weightOf_4] at e
    replace e := br_s e
    rcases e with ⟨_, e⟩ | ⟨_, e⟩
    · replace e := cl_s e
      obtain ⟨r_2, _, e⟩ := e
      replace e := (gd_s e).2
      rw [← Option.some.inj e]; exact k
    · replace e := cl_s e
      obtain ⟨r_4, _, e⟩ := e
      replace e := (gd_s e).2
      replace e := br_s e
      rcases e with ⟨_, e⟩ | ⟨_, e⟩
      · rw [← Option.some.inj e]; exact k
      · replace e := cl_s e
        obtain ⟨r_7, _, e⟩ := e
        replace e := (gd_s e).2
        replace e := br_s e
        rcases e with ⟨_, e⟩ | ⟨_, e⟩
        · exact dk_X0_weightOf_46 (fun k e => ih k e) k e
        · exact dk_X0_weightOf_46 (fun k e => ih k e) k e
theorem dk_X0_weightOf {n : Nat} {g : Hp} {F : Nat} {o : Int32 × Hp} {x0 : Nat} {x1 : Int32} {h : Hp} (k : DyK n g h) (e : sX0_weightOf F h x0 x1 = some o) : DyK n g o.2 := by
  unfold sX0_weightOf at e
  exact dk_X0_weightOf_4 F k e
theorem dk_X0_takeBackTaking_178 {n : Nat} {g : Hp} {F : Nat} {o : Hp} {h : Hp} (k : DyK n g h) (e : sX0_takeBackTaking_178 F h = some o) : DyK n g o := by
  unfold sX0_takeBackTaking_178 at e
  rw [← Option.some.inj e]; exact k
theorem dk_X0_touch_39 {n : Nat} {g : Hp} {o : Hp} {t0 : Int32} {t1 : Int32} {t2 : Int32} {t3 : Nat} {h : Hp} (k : DyK n g h) (e : sX0_touch_39 h t0 t1 t2 t3 = some o) : DyK n g o := by
  unfold sX0_touch_39 at e
  replace e := (gd_s e).2
  replace e := nm_s e
  obtain ⟨h_2, wh_2, e⟩ := e
  have kh_2 : DyK n g h_2 := by rw [wh_2]; exact dk_wI k
  rw [← Option.some.inj e]; exact kh_2
theorem dk_X0_push_32 {n : Nat} {g : Hp} {o : Hp} {h : Hp} (k : DyK n g h) (e : sX0_push_32 h = some o) : DyK n g o := by
  unfold sX0_push_32 at e
  rw [← Option.some.inj e]; exact k
theorem dk_X0_push {n : Nat} {g : Hp} {o : Hp} {x0 : Nat} {x1 : Int32} {h : Hp} (k : DyK n g h) (e : sX0_push h x0 x1 = some o) : DyK n g o := by
  unfold sX0_push at e
  replace e := cl_s e
  obtain ⟨r_1, _, e⟩ := e
  replace e := br_s e
  rcases e with ⟨_, e⟩ | ⟨_, e⟩
  · exact dk_X0_push_32 k e
  · replace e := cl_s e
    obtain ⟨r_3, _, e⟩ := e
    replace e := (gd_s e).2
    replace e := nm_s e
    obtain ⟨h_5, wh_5, e⟩ := e
    have kh_5 : DyK n g h_5 := by rw [wh_5]; exact dk_wI k
    replace e := nm_s e
    obtain ⟨h_6, wh_6, e⟩ := e
    have kh_6 : DyK n g h_6 := by rw [wh_6]; exact dk_wI kh_5
    exact dk_X0_push_32 kh_6 e
theorem dk_X0_touch_125 {n : Nat} {g : Hp} {o : Hp} {h : Hp} (k : DyK n g h) (e : sX0_touch_125 h = some o) : DyK n g o := by
  unfold sX0_touch_125 at e
  rw [← Option.some.inj e]; exact k
theorem dk_X0_touch_59 {n : Nat} {g : Hp} {o : Hp} {x0 : Nat} {x1 : Int32} {h : Hp} (k : DyK n g h) (e : sX0_touch_59 h x0 x1 = some o) : DyK n g o := by
  unfold sX0_touch_59 at e
  replace e := br_s e
  rcases e with ⟨_, e⟩ | ⟨_, e⟩
  · replace e := cl_s e
    obtain ⟨r_2, _, e⟩ := e
    replace e := (gd_s e).2
    replace e := (gd_s e).2
    replace e := nm_s e
    obtain ⟨h_5, wh_5, e⟩ := e
    have kh_5 : DyK n g h_5 := by rw [wh_5]; exact dk_wI k
    replace e := cl_s e
    obtain ⟨r_6, _, e⟩ := e
    replace e := (gd_s e).2
    replace e := br_s e
    rcases e with ⟨_, e⟩ | ⟨_, e⟩
    · replace e := cl_s e
      obtain ⟨r_9, _, e⟩ := e
      replace e := (gd_s e).2
      replace e := nm_s e
      obtain ⟨h_11, wh_11, e⟩ := e
      have kh_11 : DyK n g h_11 := by rw [wh_11]; exact dk_wI kh_5
      replace e := cl_s e
      obtain ⟨o_12, eo_12, e⟩ := e
      have ko_12 : DyK n g o_12 := dk_X0_push kh_11 eo_12
      exact dk_X0_touch_125 ko_12 e
    · exact dk_X0_touch_125 kh_5 e
  · replace e := cl_s e
    obtain ⟨r_13, _, e⟩ := e
    replace e := (gd_s e).2
    replace e := nm_s e
    obtain ⟨h_15, wh_15, e⟩ := e
    have kh_15 : DyK n g h_15 := by rw [wh_15]; exact dk_wI k
    replace e := cl_s e
    obtain ⟨o_16, eo_16, e⟩ := e
    have ko_16 : DyK n g o_16 := dk_X0_push kh_15 eo_16
    rw [← Option.some.inj e]; exact ko_16
theorem dk_X0_touch {n : Nat} {g : Hp} {o : Hp} {x0 : Nat} {x1 : Int32} {x2 : Int32} {h : Hp} (k : DyK n g h) (e : sX0_touch h x0 x1 x2 = some o) : DyK n g o := by
  unfold sX0_touch at e
  replace e := cl_s e
  obtain ⟨r_1, _, e⟩ := e
  replace e := (gd_s e).2
  replace e := br_s e
  rcases e with ⟨_, e⟩ | ⟨_, e⟩
  · replace e := br_s e
    rcases e with ⟨_, e⟩ | ⟨_, e⟩
    · replace e := cl_s e
      obtain ⟨r_9, _, e⟩ := e
      replace e := (gd_s e).2
      replace e := br_s e
      rcases e with ⟨_, e⟩ | ⟨_, e⟩
      · exact dk_X0_touch_39 k e
      · exact dk_X0_touch_39 k e
    · replace e := br_s e
      rcases e with ⟨_, e⟩ | ⟨_, e⟩
      · replace e := cl_s e
        obtain ⟨r_6, _, e⟩ := e
        replace e := (gd_s e).2
        replace e := br_s e
        rcases e with ⟨_, e⟩ | ⟨_, e⟩
        · exact dk_X0_touch_59 k e
        · rw [← Option.some.inj e]; exact k
      · exact dk_X0_touch_59 k e
  · rw [← Option.some.inj e]; exact k
theorem dk_X0_takeBackTaking_169 {n : Nat} {g : Hp} {F : Nat} {o : Hp} {x0 : Nat} {x2 : Int32} {x3 : Int32} {x5 : Int32} {x6 : Int32} {x7 : Int32} {x8 : Int64} {x10 : Int32} {t0 : Int32} {t1 : Int32} {t2 : Nat} {k_92 : Hp → Nat → Int32 → Int32 → Int32 → Int32 → Int32 → Int64 → Int32 → Option (Hp)} (R_92 : ∀ {h : Hp} {y1 : Nat} {y2 : Int32} {y3 : Int32} {y4 : Int32} {y5 : Int32} {y6 : Int32} {y7 : Int64} {y8 : Int32}, DyK n g h → k_92 h y1 y2 y3 y4 y5 y6 y7 y8 = some o → DyK n g o) {h : Hp} (k : DyK n g h) (e : sX0_takeBackTaking_169 F k_92 h x0 x2 x3 x5 x6 x7 x8 x10 t0 t1 t2 = some o) : DyK n g o := by
  unfold sX0_takeBackTaking_169 at e
  replace e := cl_s e
  obtain ⟨o_1, eo_1, e⟩ := e
  have ko_1 : DyK n g o_1 := dk_X0_touch k eo_1
  replace e := nm_s e
  obtain ⟨v_2, wv_2, e⟩ := e
  exact R_92 ko_1 e
theorem dk_X0_takeBackTaking_149 {n : Nat} {g : Hp} {F : Nat} {o : Hp} {x0 : Nat} {x2 : Int32} {x3 : Int32} {x5 : Int32} {x6 : Int32} {x7 : Int32} {x8 : Int64} {x10 : Int32} {t0 : Int32} {k_92 : Hp → Nat → Int32 → Int32 → Int32 → Int32 → Int32 → Int64 → Int32 → Option (Hp)} (R_92 : ∀ {h : Hp} {y1 : Nat} {y2 : Int32} {y3 : Int32} {y4 : Int32} {y5 : Int32} {y6 : Int32} {y7 : Int64} {y8 : Int32}, DyK n g h → k_92 h y1 y2 y3 y4 y5 y6 y7 y8 = some o → DyK n g o) {h : Hp} (k : DyK n g h) (e : sX0_takeBackTaking_149 F k_92 h x0 x2 x3 x5 x6 x7 x8 x10 t0 = some o) : DyK n g o := by
  unfold sX0_takeBackTaking_149 at e
  replace e := br_s e
  rcases e with ⟨_, e⟩ | ⟨_, e⟩
  · exact dk_X0_takeBackTaking_169 R_92 k e
  · exact dk_X0_takeBackTaking_169 R_92 k e
theorem dk_X0_takeBackTaking_92 {n : Nat} {g : Hp} {F : Nat} {o : Hp} : ∀ (f : Nat) {h : Hp} {x0 : Nat} {x2 : Int32} {x3 : Int32} {x5 : Int32} {x6 : Int32} {x7 : Int32} {x8 : Int64} {x10 : Int32}, DyK n g h → sX0_takeBackTaking_92 F f h x0 x2 x3 x5 x6 x7 x8 x10 = some o → DyK n g o := by
  intro f
  induction f with
  | zero => intro h x0 x2 x3 x5 x6 x7 x8 x10 _ e; exact absurd e (by rw [sX0_takeBackTaking_92]; exact fun z => nomatch z)
  | succ f ih =>
    intro h x0 x2 x3 x5 x6 x7 x8 x10 k e
    rw [sX0_takeBackTaking_92] at e
    replace e := br_s e
    rcases e with ⟨_, e⟩ | ⟨_, e⟩
    · exact dk_X0_takeBackTaking_178 k e
    · replace e := br_s e
      rcases e with ⟨_, e⟩ | ⟨_, e⟩
      · exact dk_X0_takeBackTaking_178 k e
      · replace e := cl_s e
        obtain ⟨o_3, eo_3, e⟩ := e
        have ko_3 : DyK n g o_3.2 := dk_X11_lowest k eo_3
        replace e := nm_s e
        obtain ⟨v_4, wv_4, e⟩ := e
        replace e := br_s e
        rcases e with ⟨_, e⟩ | ⟨_, e⟩
        · replace e := cl_s e
          obtain ⟨o_6, eo_6, e⟩ := e
          have ko_6 : DyK n g o_6.2 := dk_X0_numberOf ko_3 eo_6
          exact dk_X0_takeBackTaking_149 (fun k e => ih k e) ko_6 e
        · exact dk_X0_takeBackTaking_149 (fun k e => ih k e) ko_3 e
theorem dk_X0_takeBackTaking_77 {n : Nat} {g : Hp} {F : Nat} {o : Hp} {x0 : Nat} {x2 : Int32} {x3 : Int32} {x5 : Int32} {x6 : Int32} {x7 : Int32} {t0 : Int32} {t1 : Int32} {t2 : Int32} {t3 : Nat} {h : Hp} (k : DyK n g h) (e : sX0_takeBackTaking_77 F h x0 x2 x3 x5 x6 x7 t0 t1 t2 t3 = some o) : DyK n g o := by
  unfold sX0_takeBackTaking_77 at e
  replace e := cl_s e
  obtain ⟨r_1, _, e⟩ := e
  replace e := cl_s e
  obtain ⟨o_2, eo_2, e⟩ := e
  have ko_2 : DyK n g o_2.2 := dk_X3_occupied k eo_2
  replace e := cl_s e
  obtain ⟨o_3, eo_3, e⟩ := e
  have ko_3 : DyK n g o_3.2 := dk_X10_origins ko_2 eo_3
  exact dk_X0_takeBackTaking_92 F ko_3 e
theorem dk_X0_takeBackTaking {n : Nat} {g : Hp} {F : Nat} {o : Hp} {x0 : Nat} {x1 : Int32} {x2 : Int32} {x3 : Int32} {h : Hp} (k : DyK n g h) (e : sX0_takeBackTaking F h x0 x1 x2 x3 = some o) : DyK n g o := by
  unfold sX0_takeBackTaking at e
  replace e := cl_s e
  obtain ⟨r_1, _, e⟩ := e
  replace e := cl_s e
  obtain ⟨o_2, eo_2, e⟩ := e
  have ko_2 : DyK n g o_2 := dk_X0_gatherRow k eo_2
  replace e := cl_s e
  obtain ⟨o_3, eo_3, e⟩ := e
  have ko_3 : DyK n g o_3.2 := dk_X0_keyOfRow ko_2 eo_3
  replace e := cl_s e
  obtain ⟨o_4, eo_4, e⟩ := e
  have ko_4 : DyK n g o_4.2 := dk_X0_with ko_3 eo_4
  replace e := cl_s e
  obtain ⟨o_5, eo_5, e⟩ := e
  have ko_5 : DyK n g o_5.2 := dk_X0_findSet ko_4 eo_5
  replace e := br_s e
  rcases e with ⟨_, e⟩ | ⟨_, e⟩
  · rw [← Option.some.inj e]; exact ko_5
  · replace e := cl_s e
    obtain ⟨r_7, _, e⟩ := e
    replace e := (gd_s e).2
    replace e := nm_s e
    obtain ⟨v_9, wv_9, e⟩ := e
    replace e := cl_s e
    obtain ⟨o_10, eo_10, e⟩ := e
    have ko_10 : DyK n g o_10.2 := dk_X0_numberOf ko_5 eo_10
    replace e := cl_s e
    obtain ⟨o_11, eo_11, e⟩ := e
    have ko_11 : DyK n g o_11.2 := dk_X0_weightOf ko_10 eo_11
    replace e := cl_s e
    obtain ⟨r_12, _, e⟩ := e
    replace e := br_s e
    rcases e with ⟨_, e⟩ | ⟨_, e⟩
    · exact dk_X0_takeBackTaking_77 ko_11 e
    · exact dk_X0_takeBackTaking_77 ko_11 e
theorem dk_X0_takeBack_67 {n : Nat} {g : Hp} {F : Nat} {o : Hp} {x0 : Nat} {x1 : Int32} {x2 : Int32} {x3 : Int32} {k_30 : Hp → Nat → Int32 → Int32 → Int32 → Option (Hp)} (R_30 : ∀ {h : Hp} {y1 : Nat} {y2 : Int32} {y3 : Int32} {y4 : Int32}, DyK n g h → k_30 h y1 y2 y3 y4 = some o → DyK n g o) {h : Hp} (k : DyK n g h) (e : sX0_takeBack_67 F k_30 h x0 x1 x2 x3 = some o) : DyK n g o := by
  unfold sX0_takeBack_67 at e
  replace e := nm_s e
  obtain ⟨v_1, wv_1, e⟩ := e
  exact R_30 k e
theorem dk_X0_takeBack_30 {n : Nat} {g : Hp} {F : Nat} {o : Hp} : ∀ (f : Nat) {h : Hp} {x0 : Nat} {x1 : Int32} {x2 : Int32} {x3 : Int32}, DyK n g h → sX0_takeBack_30 F f h x0 x1 x2 x3 = some o → DyK n g o := by
  intro f
  induction f with
  | zero => intro h x0 x1 x2 x3 _ e; exact absurd e (by rw [sX0_takeBack_30]; exact fun z => nomatch z)
  | succ f ih =>
    intro h x0 x1 x2 x3 k e
    rw [sX0_takeBack_30] at e
    replace e := cl_s e
    obtain ⟨r_1, _, e⟩ := e
    replace e := br_s e
    rcases e with ⟨_, e⟩ | ⟨_, e⟩
    · rw [← Option.some.inj e]; exact k
    · replace e := cl_s e
      obtain ⟨r_3, _, e⟩ := e
      replace e := br_s e
      rcases e with ⟨_, e⟩ | ⟨_, e⟩
      · exact dk_X0_takeBack_67 (fun k e => ih k e) k e
      · replace e := cl_s e
        obtain ⟨o_5, eo_5, e⟩ := e
        have ko_5 : DyK n g o_5 := dk_X0_takeBackTaking k eo_5
        exact dk_X0_takeBack_67 (fun k e => ih k e) ko_5 e
theorem dk_X0_takeBack {n : Nat} {g : Hp} {F : Nat} {o : Hp} {x0 : Nat} {x1 : Int32} {x2 : Int32} {h : Hp} (k : DyK n g h) (e : sX0_takeBack F h x0 x1 x2 = some o) : DyK n g o := by
  unfold sX0_takeBack at e
  replace e := cl_s e
  obtain ⟨o_1, eo_1, e⟩ := e
  have ko_1 : DyK n g o_1 := dk_X0_takeBackTaking k eo_1
  replace e := cl_s e
  obtain ⟨r_2, _, e⟩ := e
  replace e := cl_s e
  obtain ⟨o_3, eo_3, e⟩ := e
  have ko_3 : DyK n g o_3.2 := dk_X3_occupied ko_1 eo_3
  replace e := cl_s e
  obtain ⟨o_4, eo_4, e⟩ := e
  have ko_4 : DyK n g o_4.2 := dk_J13_bitCount_95d88 ko_3 eo_4
  replace e := cl_s e
  obtain ⟨o_5, eo_5, e⟩ := e
  have ko_5 : DyK n g o_5.2 := dk_X0_sizeOf ko_4 eo_5
  replace e := br_s e
  rcases e with ⟨_, e⟩ | ⟨_, e⟩
  · exact dk_X0_takeBack_30 F ko_5 e
  · rw [← Option.some.inj e]; exact ko_5
theorem dk_X0_goBack_151 {n : Nat} {g : Hp} {F : Nat} {o : Hp} {x0 : Nat} {x2 : Int32} {x3 : Int64} {x5 : Int32} {k_44 : Hp → Nat → Int32 → Int64 → Int32 → Option (Hp)} (R_44 : ∀ {h : Hp} {y1 : Nat} {y2 : Int32} {y3 : Int64} {y4 : Int32}, DyK n g h → k_44 h y1 y2 y3 y4 = some o → DyK n g o) {h : Hp} (k : DyK n g h) (e : sX0_goBack_151 F k_44 h x0 x2 x3 x5 = some o) : DyK n g o := by
  unfold sX0_goBack_151 at e
  replace e := nm_s e
  obtain ⟨v_1, wv_1, e⟩ := e
  exact R_44 k e
theorem dk_X0_goBack_145 {n : Nat} {g : Hp} {F : Nat} {o : Hp} {x0 : Nat} {x2 : Int32} {x3 : Int64} {x5 : Int32} {x6 : Int32} {x7 : Int32} {x8 : Int32} {k_44 : Hp → Nat → Int32 → Int64 → Int32 → Option (Hp)} (R_44 : ∀ {h : Hp} {y1 : Nat} {y2 : Int32} {y3 : Int64} {y4 : Int32}, DyK n g h → k_44 h y1 y2 y3 y4 = some o → DyK n g o) {k_92 : Hp → Nat → Int32 → Int64 → Int32 → Int32 → Int32 → Int32 → Option (Hp)} (R_92 : ∀ {h : Hp} {y1 : Nat} {y2 : Int32} {y3 : Int64} {y4 : Int32} {y5 : Int32} {y6 : Int32} {y7 : Int32}, DyK n g h → k_92 h y1 y2 y3 y4 y5 y6 y7 = some o → DyK n g o) {h : Hp} (k : DyK n g h) (e : sX0_goBack_145 F k_44 k_92 h x0 x2 x3 x5 x6 x7 x8 = some o) : DyK n g o := by
  unfold sX0_goBack_145 at e
  replace e := nm_s e
  obtain ⟨v_1, wv_1, e⟩ := e
  exact R_92 k e
theorem dk_X0_goBack_92 {n : Nat} {g : Hp} {F : Nat} {o : Hp} {k_44 : Hp → Nat → Int32 → Int64 → Int32 → Option (Hp)} (R_44 : ∀ {h : Hp} {y1 : Nat} {y2 : Int32} {y3 : Int64} {y4 : Int32}, DyK n g h → k_44 h y1 y2 y3 y4 = some o → DyK n g o) : ∀ (f : Nat) {h : Hp} {x0 : Nat} {x2 : Int32} {x3 : Int64} {x5 : Int32} {x6 : Int32} {x7 : Int32} {x8 : Int32}, DyK n g h → sX0_goBack_92 F k_44 f h x0 x2 x3 x5 x6 x7 x8 = some o → DyK n g o := by
  intro f
  induction f with
  | zero => intro h x0 x2 x3 x5 x6 x7 x8 _ e; exact absurd e (by rw [sX0_goBack_92]; exact fun z => nomatch z)
  | succ f ih =>
    intro h x0 x2 x3 x5 x6 x7 x8 k e
    rw [sX0_goBack_92] at e
    replace e := cl_s e
    obtain ⟨r_1, _, e⟩ := e
    replace e := br_s e
    rcases e with ⟨_, e⟩ | ⟨_, e⟩
    · exact dk_X0_goBack_151 R_44 k e
    · replace e := cl_s e
      obtain ⟨r_3, _, e⟩ := e
      replace e := cl_s e
      obtain ⟨o_4, eo_4, e⟩ := e
      have ko_4 : DyK n g o_4.2 := dk_X1_isLast k eo_4
      replace e := br_s e
      rcases e with ⟨_, e⟩ | ⟨_, e⟩
      · exact dk_X0_goBack_151 R_44 ko_4 e
      · replace e := cl_s e
        obtain ⟨r_6, _, e⟩ := e
        replace e := cl_s e
        obtain ⟨o_7, eo_7, e⟩ := e
        have ko_7 : DyK n g o_7.2 := dk_X1_becomesThis ko_4 eo_7
        replace e := br_s e
        rcases e with ⟨_, e⟩ | ⟨_, e⟩
        · exact dk_X0_goBack_145 R_44 (fun k e => ih k e) ko_7 e
        · replace e := cl_s e
          obtain ⟨o_9, eo_9, e⟩ := e
          have ko_9 : DyK n g o_9 := dk_X0_takeBack ko_7 eo_9
          exact dk_X0_goBack_145 R_44 (fun k e => ih k e) ko_9 e
theorem dk_X0_goBack_44 {n : Nat} {g : Hp} {F : Nat} {o : Hp} : ∀ (f : Nat) {h : Hp} {x0 : Nat} {x2 : Int32} {x3 : Int64} {x5 : Int32}, DyK n g h → sX0_goBack_44 F f h x0 x2 x3 x5 = some o → DyK n g o := by
  intro f
  induction f with
  | zero => intro h x0 x2 x3 x5 _ e; exact absurd e (by rw [sX0_goBack_44]; exact fun z => nomatch z)
  | succ f ih =>
    intro h x0 x2 x3 x5 k e
    rw [sX0_goBack_44] at e
    replace e := br_s e
    rcases e with ⟨_, e⟩ | ⟨_, e⟩
    · exact dk_X0_goBack_157 k e
    · replace e := br_s e
      rcases e with ⟨_, e⟩ | ⟨_, e⟩
      · exact dk_X0_goBack_157 k e
      · replace e := cl_s e
        obtain ⟨o_3, eo_3, e⟩ := e
        have ko_3 : DyK n g o_3.2 := dk_X11_lowest k eo_3
        replace e := nm_s e
        obtain ⟨v_4, wv_4, e⟩ := e
        replace e := cl_s e
        obtain ⟨r_5, _, e⟩ := e
        replace e := cl_s e
        obtain ⟨r_6, _, e⟩ := e
        replace e := (gd_s e).2
        replace e := nm_s e
        obtain ⟨v_8, wv_8, e⟩ := e
        replace e := cl_s e
        obtain ⟨o_9, eo_9, e⟩ := e
        have ko_9 : DyK n g o_9 := dk_X0_takeBack ko_3 eo_9
        exact dk_X0_goBack_92 (fun k e => ih k e) F ko_9 e
theorem dk_X0_goBack_31 {n : Nat} {g : Hp} {F : Nat} {o : Hp} {x0 : Nat} {x2 : Int32} {h : Hp} (k : DyK n g h) (e : sX0_goBack_31 F h x0 x2 = some o) : DyK n g o := by
  unfold sX0_goBack_31 at e
  replace e := cl_s e
  obtain ⟨r_1, _, e⟩ := e
  replace e := cl_s e
  obtain ⟨r_2, _, e⟩ := e
  replace e := (gd_s e).2
  replace e := nm_s e
  obtain ⟨v_4, wv_4, e⟩ := e
  exact dk_X0_goBack_44 F k e
theorem dk_X0_goBack {n : Nat} {g : Hp} {F : Nat} {o : Hp} {x0 : Nat} {x1 : Int32} {h : Hp} (k : DyK n g h) (e : sX0_goBack F h x0 x1 = some o) : DyK n g o := by
  unfold sX0_goBack at e
  replace e := nm_s e
  obtain ⟨v_1, wv_1, e⟩ := e
  replace e := cl_s e
  obtain ⟨r_2, _, e⟩ := e
  replace e := cl_s e
  obtain ⟨o_3, eo_3, e⟩ := e
  have ko_3 : DyK n g o_3.2 := dk_X1_has k eo_3
  replace e := br_s e
  rcases e with ⟨_, e⟩ | ⟨_, e⟩
  · exact dk_X0_goBack_31 ko_3 e
  · replace e := cl_s e
    obtain ⟨r_5, _, e⟩ := e
    replace e := cl_s e
    obtain ⟨r_6, _, e⟩ := e
    replace e := cl_s e
    obtain ⟨o_7, eo_7, e⟩ := e
    have ko_7 : DyK n g o_7.2 := dk_X5_isRoyalHit ko_3 eo_7
    replace e := br_s e
    rcases e with ⟨_, e⟩ | ⟨_, e⟩
    · exact dk_X0_goBack_31 ko_7 e
    · rw [← Option.some.inj e]; exact ko_7
theorem dk_X0_countAll_105 {n : Nat} {g : Hp} {F : Nat} {o : Hp} {k_2 : Hp → Nat → Int32 → Option (Hp)} (R_2 : ∀ {h : Hp} {y1 : Nat} {y2 : Int32}, DyK n g h → k_2 h y1 y2 = some o → DyK n g o) {k_30 : Hp → Nat → Int32 → Int32 → Int32 → Option (Hp)} (R_30 : ∀ {h : Hp} {y1 : Nat} {y2 : Int32} {y3 : Int32} {y4 : Int32}, DyK n g h → k_30 h y1 y2 y3 y4 = some o → DyK n g o) : ∀ (f : Nat) {h : Hp} {x0 : Nat} {x1 : Int32} {x2 : Int32} {x3 : Int32} {x4 : Int32} {x6 : Int32}, DyK n g h → sX0_countAll_105 F k_2 k_30 f h x0 x1 x2 x3 x4 x6 = some o → DyK n g o := by
  intro f
  induction f with
  | zero => intro h x0 x1 x2 x3 x4 x6 _ e; exact absurd e (by rw [sX0_countAll_105]; exact fun z => nomatch z)
  | succ f ih =>
    intro h x0 x1 x2 x3 x4 x6 k e
    rw [sX0_countAll_105] at e
    replace e := br_s e
    rcases e with ⟨_, e⟩ | ⟨_, e⟩
    · exact dk_X0_countAll_138 R_2 R_30 k e
    · replace e := cl_s e
      obtain ⟨r_2, _, e⟩ := e
      replace e := (gd_s e).2
      replace e := br_s e
      rcases e with ⟨_, e⟩ | ⟨_, e⟩
      · exact dk_X0_countAll_132 R_2 R_30 (fun k e => ih k e) k e
      · replace e := cl_s e
        obtain ⟨o_5, eo_5, e⟩ := e
        have ko_5 : DyK n g o_5 := dk_X0_goBack k eo_5
        exact dk_X0_countAll_132 R_2 R_30 (fun k e => ih k e) ko_5 e
theorem dk_X0_countAll_78 {n : Nat} {g : Hp} {F : Nat} {o : Hp} {x0 : Nat} {x1 : Int32} {x2 : Int32} {x3 : Int32} {x4 : Int32} {t0 : Int32} {k_2 : Hp → Nat → Int32 → Option (Hp)} (R_2 : ∀ {h : Hp} {y1 : Nat} {y2 : Int32}, DyK n g h → k_2 h y1 y2 = some o → DyK n g o) {k_30 : Hp → Nat → Int32 → Int32 → Int32 → Option (Hp)} (R_30 : ∀ {h : Hp} {y1 : Nat} {y2 : Int32} {y3 : Int32} {y4 : Int32}, DyK n g h → k_30 h y1 y2 y3 y4 = some o → DyK n g o) {h : Hp} (k : DyK n g h) (e : sX0_countAll_78 F k_2 k_30 h x0 x1 x2 x3 x4 t0 = some o) : DyK n g o := by
  unfold sX0_countAll_78 at e
  replace e := br_s e
  rcases e with ⟨_, e⟩ | ⟨_, e⟩
  · exact dk_X0_countAll_138 R_2 R_30 k e
  · replace e := cl_s e
    obtain ⟨r_2, _, e⟩ := e
    replace e := (gd_s e).2
    replace e := cl_s e
    obtain ⟨o_4, eo_4, e⟩ := e
    have ko_4 : DyK n g o_4.2 := dk_X0_layOut k eo_4
    replace e := br_s e
    rcases e with ⟨_, e⟩ | ⟨_, e⟩
    · exact dk_X0_countAll_138 R_2 R_30 ko_4 e
    · exact dk_X0_countAll_105 R_2 R_30 F ko_4 e
theorem dk_X0_countAll_73 {n : Nat} {g : Hp} {F : Nat} {o : Hp} {x0 : Nat} {x1 : Int32} {x2 : Int32} {x3 : Int32} {x4 : Int32} {k_2 : Hp → Nat → Int32 → Option (Hp)} (R_2 : ∀ {h : Hp} {y1 : Nat} {y2 : Int32}, DyK n g h → k_2 h y1 y2 = some o → DyK n g o) {k_30 : Hp → Nat → Int32 → Int32 → Int32 → Option (Hp)} (R_30 : ∀ {h : Hp} {y1 : Nat} {y2 : Int32} {y3 : Int32} {y4 : Int32}, DyK n g h → k_30 h y1 y2 y3 y4 = some o → DyK n g o) {h : Hp} (k : DyK n g h) (e : sX0_countAll_73 F k_2 k_30 h x0 x1 x2 x3 x4 = some o) : DyK n g o := by
  unfold sX0_countAll_73 at e
  exact dk_X0_countAll_78 R_2 R_30 k e
theorem dk_X0_countAll_30 {n : Nat} {g : Hp} {F : Nat} {o : Hp} {k_2 : Hp → Nat → Int32 → Option (Hp)} (R_2 : ∀ {h : Hp} {y1 : Nat} {y2 : Int32}, DyK n g h → k_2 h y1 y2 = some o → DyK n g o) : ∀ (f : Nat) {h : Hp} {x0 : Nat} {x1 : Int32} {x2 : Int32} {x3 : Int32}, DyK n g h → sX0_countAll_30 F k_2 f h x0 x1 x2 x3 = some o → DyK n g o := by
  intro f
  induction f with
  | zero => intro h x0 x1 x2 x3 _ e; exact absurd e (by rw [sX0_countAll_30]; exact fun z => nomatch z)
  | succ f ih =>
    intro h x0 x1 x2 x3 k e
    rw [sX0_countAll_30] at e
    replace e := br_s e
    rcases e with ⟨_, e⟩ | ⟨_, e⟩
    · replace e := nm_s e
      obtain ⟨v_2, wv_2, e⟩ := e
      exact R_2 k e
    · replace e := cl_s e
      obtain ⟨r_3, _, e⟩ := e
      replace e := (gd_s e).2
      replace e := nm_s e
      obtain ⟨v_5, wv_5, e⟩ := e
      replace e := cl_s e
      obtain ⟨r_6, _, e⟩ := e
      replace e := (gd_s e).2
      replace e := br_s e
      rcases e with ⟨_, e⟩ | ⟨_, e⟩
      · replace e := cl_s e
        obtain ⟨r_9, _, e⟩ := e
        replace e := (gd_s e).2
        replace e := br_s e
        rcases e with ⟨_, e⟩ | ⟨_, e⟩
        · exact dk_X0_countAll_78 R_2 (fun k e => ih k e) k e
        · exact dk_X0_countAll_73 R_2 (fun k e => ih k e) k e
      · exact dk_X0_countAll_73 R_2 (fun k e => ih k e) k e
theorem dk_X0_countAll_2 {n : Nat} {g : Hp} {F : Nat} {o : Hp} : ∀ (f : Nat) {h : Hp} {x0 : Nat} {x1 : Int32}, DyK n g h → sX0_countAll_2 F f h x0 x1 = some o → DyK n g o := by
  intro f
  induction f with
  | zero => intro h x0 x1 _ e; exact absurd e (by rw [sX0_countAll_2]; exact fun z => nomatch z)
  | succ f ih =>
    intro h x0 x1 k e
    rw [sX0_countAll_2] at e
    replace e := br_s e
    rcases e with ⟨_, e⟩ | ⟨_, e⟩
    · rw [← Option.some.inj e]; exact k
    · replace e := cl_s e
      obtain ⟨r_2, _, e⟩ := e
      replace e := (gd_s e).2
      replace e := cl_s e
      obtain ⟨r_4, _, e⟩ := e
      replace e := (gd_s e).2
      replace e := nm_s e
      obtain ⟨v_6, wv_6, e⟩ := e
      exact dk_X0_countAll_30 (fun k e => ih k e) F k e
theorem dk_X0_countAll {n : Nat} {g : Hp} {F : Nat} {o : Hp} {x0 : Nat} {h : Hp} (k : DyK n g h) (e : sX0_countAll F h x0 = some o) : DyK n g o := by
  unfold sX0_countAll at e
  exact dk_X0_countAll_2 F k e
theorem dk_X0_settleCount_52 {n : Nat} {g : Hp} {o : Hp} {t0 : Int32} {t1 : Int32} {t2 : Nat} {h : Hp} (k : DyK n g h) (e : sX0_settleCount_52 h t0 t1 t2 = some o) : DyK n g o := by
  unfold sX0_settleCount_52 at e
  replace e := (gd_s e).2
  replace e := nm_s e
  obtain ⟨h_2, wh_2, e⟩ := e
  have kh_2 : DyK n g h_2 := by rw [wh_2]; exact dk_wI k
  rw [← Option.some.inj e]; exact kh_2
theorem dk_X0_settleCount_49 {n : Nat} {g : Hp} {o : Hp} {x2 : Int32} {x3 : Int32} {t0 : Int32} {t1 : Nat} {h : Hp} (k : DyK n g h) (e : sX0_settleCount_49 h x2 x3 t0 t1 = some o) : DyK n g o := by
  unfold sX0_settleCount_49 at e
  exact dk_X0_settleCount_52 k e
theorem dk_X0_settleCount {n : Nat} {g : Hp} {o : Hp} {x0 : Nat} {x1 : Int32} {h : Hp} (k : DyK n g h) (e : sX0_settleCount h x0 x1 = some o) : DyK n g o := by
  unfold sX0_settleCount at e
  replace e := cl_s e
  obtain ⟨r_1, _, e⟩ := e
  replace e := (gd_s e).2
  replace e := nm_s e
  obtain ⟨v_3, wv_3, e⟩ := e
  replace e := cl_s e
  obtain ⟨r_4, _, e⟩ := e
  replace e := (gd_s e).2
  replace e := nm_s e
  obtain ⟨v_6, wv_6, e⟩ := e
  replace e := cl_s e
  obtain ⟨r_7, _, e⟩ := e
  replace e := cl_s e
  obtain ⟨r_8, _, e⟩ := e
  replace e := cl_s e
  obtain ⟨o_9, eo_9, e⟩ := e
  have ko_9 : DyK n g o_9.2 := dk_X1_has k eo_9
  replace e := br_s e
  rcases e with ⟨_, e⟩ | ⟨_, e⟩
  · exact dk_X0_settleCount_49 ko_9 e
  · replace e := br_s e
    rcases e with ⟨_, e⟩ | ⟨_, e⟩
    · exact dk_X0_settleCount_49 ko_9 e
    · exact dk_X0_settleCount_52 ko_9 e
theorem dk_X0_queueEnds_183 {n : Nat} {g : Hp} {F : Nat} {o : Hp} {x0 : Nat} {x1 : Int32} {x2 : Int32} {k_2 : Hp → Nat → Int32 → Option (Hp)} (R_2 : ∀ {h : Hp} {y1 : Nat} {y2 : Int32}, DyK n g h → k_2 h y1 y2 = some o → DyK n g o) {k_17 : Hp → Nat → Int32 → Int32 → Option (Hp)} (R_17 : ∀ {h : Hp} {y1 : Nat} {y2 : Int32} {y3 : Int32}, DyK n g h → k_17 h y1 y2 y3 = some o → DyK n g o) {h : Hp} (k : DyK n g h) (e : sX0_queueEnds_183 F k_2 k_17 h x0 x1 x2 = some o) : DyK n g o := by
  unfold sX0_queueEnds_183 at e
  replace e := nm_s e
  obtain ⟨v_1, wv_1, e⟩ := e
  exact R_17 k e
theorem dk_X0_queueEnds_178 {n : Nat} {g : Hp} {F : Nat} {o : Hp} {x0 : Nat} {x1 : Int32} {x2 : Int32} {k_2 : Hp → Nat → Int32 → Option (Hp)} (R_2 : ∀ {h : Hp} {y1 : Nat} {y2 : Int32}, DyK n g h → k_2 h y1 y2 = some o → DyK n g o) {k_17 : Hp → Nat → Int32 → Int32 → Option (Hp)} (R_17 : ∀ {h : Hp} {y1 : Nat} {y2 : Int32} {y3 : Int32}, DyK n g h → k_17 h y1 y2 y3 = some o → DyK n g o) {h : Hp} (k : DyK n g h) (e : sX0_queueEnds_178 F k_2 k_17 h x0 x1 x2 = some o) : DyK n g o := by
  unfold sX0_queueEnds_178 at e
  replace e := cl_s e
  obtain ⟨o_1, eo_1, e⟩ := e
  have ko_1 : DyK n g o_1 := dk_X0_push k eo_1
  exact dk_X0_queueEnds_183 R_2 R_17 ko_1 e
theorem dk_X0_queueEnds_156 {n : Nat} {g : Hp} {F : Nat} {o : Hp} {x0 : Nat} {x1 : Int32} {x2 : Int32} {k_2 : Hp → Nat → Int32 → Option (Hp)} (R_2 : ∀ {h : Hp} {y1 : Nat} {y2 : Int32}, DyK n g h → k_2 h y1 y2 = some o → DyK n g o) {k_17 : Hp → Nat → Int32 → Int32 → Option (Hp)} (R_17 : ∀ {h : Hp} {y1 : Nat} {y2 : Int32} {y3 : Int32}, DyK n g h → k_17 h y1 y2 y3 = some o → DyK n g o) {h : Hp} (k : DyK n g h) (e : sX0_queueEnds_156 F k_2 k_17 h x0 x1 x2 = some o) : DyK n g o := by
  unfold sX0_queueEnds_156 at e
  replace e := cl_s e
  obtain ⟨r_1, _, e⟩ := e
  replace e := (gd_s e).2
  replace e := br_s e
  rcases e with ⟨_, e⟩ | ⟨_, e⟩
  · exact dk_X0_queueEnds_178 R_2 R_17 k e
  · replace e := cl_s e
    obtain ⟨r_4, _, e⟩ := e
    replace e := (gd_s e).2
    replace e := br_s e
    rcases e with ⟨_, e⟩ | ⟨_, e⟩
    · exact dk_X0_queueEnds_178 R_2 R_17 k e
    · exact dk_X0_queueEnds_183 R_2 R_17 k e
theorem dk_X0_queueEnds_152 {n : Nat} {g : Hp} {F : Nat} {o : Hp} {x0 : Nat} {x1 : Int32} {x2 : Int32} {t0 : Int32} {t1 : Nat} {t2 : Int32} {t3 : Nat} {k_2 : Hp → Nat → Int32 → Option (Hp)} (R_2 : ∀ {h : Hp} {y1 : Nat} {y2 : Int32}, DyK n g h → k_2 h y1 y2 = some o → DyK n g o) {k_17 : Hp → Nat → Int32 → Int32 → Option (Hp)} (R_17 : ∀ {h : Hp} {y1 : Nat} {y2 : Int32} {y3 : Int32}, DyK n g h → k_17 h y1 y2 y3 = some o → DyK n g o) {h : Hp} (k : DyK n g h) (e : sX0_queueEnds_152 F k_2 k_17 h x0 x1 x2 t0 t1 t2 t3 = some o) : DyK n g o := by
  unfold sX0_queueEnds_152 at e
  replace e := cl_s e
  obtain ⟨o_1, eo_1, e⟩ := e
  have ko_1 : DyK n g o_1.2 := dk_X0_endWorth k eo_1
  replace e := (gd_s e).2
  replace e := nm_s e
  obtain ⟨h_3, wh_3, e⟩ := e
  have kh_3 : DyK n g h_3 := by rw [wh_3]; exact dk_wI ko_1
  exact dk_X0_queueEnds_156 R_2 R_17 kh_3 e
theorem dk_X0_queueEnds_74 {n : Nat} {g : Hp} {F : Nat} {o : Hp} {x0 : Nat} {x1 : Int32} {x2 : Int32} {t0 : Int32} {k_2 : Hp → Nat → Int32 → Option (Hp)} (R_2 : ∀ {h : Hp} {y1 : Nat} {y2 : Int32}, DyK n g h → k_2 h y1 y2 = some o → DyK n g o) {k_17 : Hp → Nat → Int32 → Int32 → Option (Hp)} (R_17 : ∀ {h : Hp} {y1 : Nat} {y2 : Int32} {y3 : Int32}, DyK n g h → k_17 h y1 y2 y3 = some o → DyK n g o) {h : Hp} (k : DyK n g h) (e : sX0_queueEnds_74 F k_2 k_17 h x0 x1 x2 t0 = some o) : DyK n g o := by
  unfold sX0_queueEnds_74 at e
  replace e := br_s e
  rcases e with ⟨_, e⟩ | ⟨_, e⟩
  · exact dk_X0_queueEnds_156 R_2 R_17 k e
  · replace e := cl_s e
    obtain ⟨r_2, _, e⟩ := e
    replace e := (gd_s e).2
    replace e := cl_s e
    obtain ⟨r_4, _, e⟩ := e
    replace e := (gd_s e).2
    replace e := cl_s e
    obtain ⟨o_6, eo_6, e⟩ := e
    have ko_6 : DyK n g o_6.2 := dk_X0_layOut k eo_6
    replace e := br_s e
    rcases e with ⟨_, e⟩ | ⟨_, e⟩
    · exact dk_X0_queueEnds_156 R_2 R_17 ko_6 e
    · replace e := cl_s e
      obtain ⟨r_8, _, e⟩ := e
      replace e := cl_s e
      obtain ⟨r_9, _, e⟩ := e
      replace e := (gd_s e).2
      replace e := nm_s e
      obtain ⟨h_11, wh_11, e⟩ := e
      have kh_11 : DyK n g h_11 := by rw [wh_11]; exact dk_wI ko_6
      replace e := cl_s e
      obtain ⟨r_12, _, e⟩ := e
      replace e := cl_s e
      obtain ⟨r_13, _, e⟩ := e
      replace e := cl_s e
      obtain ⟨r_14, _, e⟩ := e
      replace e := cl_s e
      obtain ⟨r_15, _, e⟩ := e
      replace e := cl_s e
      obtain ⟨o_16, eo_16, e⟩ := e
      have ko_16 : DyK n g o_16.2 := dk_X5_isRoyalHit kh_11 eo_16
      replace e := br_s e
      rcases e with ⟨_, e⟩ | ⟨_, e⟩
      · exact dk_X0_queueEnds_152 R_2 R_17 ko_16 e
      · exact dk_X0_queueEnds_152 R_2 R_17 ko_16 e
theorem dk_X0_queueEnds_73 {n : Nat} {g : Hp} {F : Nat} {o : Hp} {x0 : Nat} {x1 : Int32} {x2 : Int32} {k_2 : Hp → Nat → Int32 → Option (Hp)} (R_2 : ∀ {h : Hp} {y1 : Nat} {y2 : Int32}, DyK n g h → k_2 h y1 y2 = some o → DyK n g o) {k_17 : Hp → Nat → Int32 → Int32 → Option (Hp)} (R_17 : ∀ {h : Hp} {y1 : Nat} {y2 : Int32} {y3 : Int32}, DyK n g h → k_17 h y1 y2 y3 = some o → DyK n g o) {h : Hp} (k : DyK n g h) (e : sX0_queueEnds_73 F k_2 k_17 h x0 x1 x2 = some o) : DyK n g o := by
  unfold sX0_queueEnds_73 at e
  exact dk_X0_queueEnds_74 R_2 R_17 k e
