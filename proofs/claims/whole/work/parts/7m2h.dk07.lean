/-! what stands where stays so: printed -/
theorem dk_X5_survey_218 {n : Nat} {g : Hp} {F : Nat} {o : Hp} {x0 : Nat} {x1 : Int32} {x2 : Int64} {x4 : Int64} {x6 : Int32} {x11 : Int32} {x12 : Int32} {k_30 : Hp → Nat → Int32 → Int64 → Int64 → Int32 → Option (Hp)} (R_30 : ∀ {h : Hp} {y1 : Nat} {y2 : Int32} {y3 : Int64} {y4 : Int64} {y5 : Int32}, DyK n g h → k_30 h y1 y2 y3 y4 y5 = some o → DyK n g o) {k_135 : Hp → Nat → Int32 → Int64 → Int64 → Int32 → Int32 → Int32 → Option (Hp)} (R_135 : ∀ {h : Hp} {y1 : Nat} {y2 : Int32} {y3 : Int64} {y4 : Int64} {y5 : Int32} {y6 : Int32} {y7 : Int32}, DyK n g h → k_135 h y1 y2 y3 y4 y5 y6 y7 = some o → DyK n g o) {h : Hp} (k : DyK n g h) (e : sX5_survey_218 F k_30 k_135 h x0 x1 x2 x4 x6 x11 x12 = some o) : DyK n g o := by
  unfold sX5_survey_218 at e
  replace e := nm_s e
  obtain ⟨v_1, wv_1, e⟩ := e
  exact R_135 k e
theorem dk_X5_survey_215 {n : Nat} {g : Hp} {F : Nat} {o : Hp} {x0 : Nat} {x1 : Int32} {x2 : Int64} {x4 : Int64} {x6 : Int32} {x11 : Int32} {x12 : Int32} {t0 : Int32} {t1 : Nat} {k_30 : Hp → Nat → Int32 → Int64 → Int64 → Int32 → Option (Hp)} (R_30 : ∀ {h : Hp} {y1 : Nat} {y2 : Int32} {y3 : Int64} {y4 : Int64} {y5 : Int32}, DyK n g h → k_30 h y1 y2 y3 y4 y5 = some o → DyK n g o) {k_135 : Hp → Nat → Int32 → Int64 → Int64 → Int32 → Int32 → Int32 → Option (Hp)} (R_135 : ∀ {h : Hp} {y1 : Nat} {y2 : Int32} {y3 : Int64} {y4 : Int64} {y5 : Int32} {y6 : Int32} {y7 : Int32}, DyK n g h → k_135 h y1 y2 y3 y4 y5 y6 y7 = some o → DyK n g o) {h : Hp} (k : DyK n g h) (e : sX5_survey_215 F k_30 k_135 h x0 x1 x2 x4 x6 x11 x12 t0 t1 = some o) : DyK n g o := by
  unfold sX5_survey_215 at e
  replace e := (gd_s e).2
  replace e := nm_s e
  obtain ⟨h_2, wh_2, e⟩ := e
  have kh_2 : DyK n g h_2 := by rw [wh_2]; exact dk_wI k
  exact dk_X5_survey_218 R_30 R_135 kh_2 e
theorem dk_X5_survey_214 {n : Nat} {g : Hp} {F : Nat} {o : Hp} {x0 : Nat} {x1 : Int32} {x2 : Int64} {x4 : Int64} {x6 : Int32} {x11 : Int32} {x12 : Int32} {t0 : Nat} {k_30 : Hp → Nat → Int32 → Int64 → Int64 → Int32 → Option (Hp)} (R_30 : ∀ {h : Hp} {y1 : Nat} {y2 : Int32} {y3 : Int64} {y4 : Int64} {y5 : Int32}, DyK n g h → k_30 h y1 y2 y3 y4 y5 = some o → DyK n g o) {k_135 : Hp → Nat → Int32 → Int64 → Int64 → Int32 → Int32 → Int32 → Option (Hp)} (R_135 : ∀ {h : Hp} {y1 : Nat} {y2 : Int32} {y3 : Int64} {y4 : Int64} {y5 : Int32} {y6 : Int32} {y7 : Int32}, DyK n g h → k_135 h y1 y2 y3 y4 y5 y6 y7 = some o → DyK n g o) {h : Hp} (k : DyK n g h) (e : sX5_survey_214 F k_30 k_135 h x0 x1 x2 x4 x6 x11 x12 t0 = some o) : DyK n g o := by
  unfold sX5_survey_214 at e
  exact dk_X5_survey_215 R_30 R_135 k e
theorem dk_X10_isOpen_37 {n : Nat} {g : Hp} {o : Int32 × Hp} {t0 : Int32} {h : Hp} (k : DyK n g h) (e : sX10_isOpen_37 h t0 = some o) : DyK n g o.2 := by
  unfold sX10_isOpen_37 at e
  replace e := (gd_s e).2
  rw [← Option.some.inj e]; exact k
theorem dk_X10_isOpen_62 {n : Nat} {g : Hp} {o : Int32 × Hp} {t0 : Int32} {h : Hp} (k : DyK n g h) (e : sX10_isOpen_62 h t0 = some o) : DyK n g o.2 := by
  unfold sX10_isOpen_62 at e
  replace e := (gd_s e).2
  rw [← Option.some.inj e]; exact k
theorem dk_X10_isOpen_61 {n : Nat} {g : Hp} {o : Int32 × Hp} {h : Hp} (k : DyK n g h) (e : sX10_isOpen_61 h = some o) : DyK n g o.2 := by
  unfold sX10_isOpen_61 at e
  exact dk_X10_isOpen_62 k e
theorem dk_X10_isOpen {n : Nat} {g : Hp} {o : Int32 × Hp} {x0 : Nat} {x1 : Int32} {x2 : Int64} {h : Hp} (k : DyK n g h) (e : sX10_isOpen h x0 x1 x2 = some o) : DyK n g o.2 := by
  unfold sX10_isOpen at e
  replace e := cl_s e
  obtain ⟨r_1, _, e⟩ := e
  replace e := (gd_s e).2
  replace e := nm_s e
  obtain ⟨v_3, wv_3, e⟩ := e
  replace e := cl_s e
  obtain ⟨r_4, _, e⟩ := e
  replace e := (gd_s e).2
  replace e := br_s e
  rcases e with ⟨_, e⟩ | ⟨_, e⟩
  · replace e := br_s e
    rcases e with ⟨_, e⟩ | ⟨_, e⟩
    · exact dk_X10_isOpen_37 k e
    · exact dk_X10_isOpen_37 k e
  · replace e := br_s e
    rcases e with ⟨_, e⟩ | ⟨_, e⟩
    · exact dk_X10_isOpen_61 k e
    · replace e := br_s e
      rcases e with ⟨_, e⟩ | ⟨_, e⟩
      · exact dk_X10_isOpen_62 k e
      · exact dk_X10_isOpen_61 k e
theorem dk_X5_survey_135 {n : Nat} {g : Hp} {F : Nat} {o : Hp} {k_30 : Hp → Nat → Int32 → Int64 → Int64 → Int32 → Option (Hp)} (R_30 : ∀ {h : Hp} {y1 : Nat} {y2 : Int32} {y3 : Int64} {y4 : Int64} {y5 : Int32}, DyK n g h → k_30 h y1 y2 y3 y4 y5 = some o → DyK n g o) : ∀ (f : Nat) {h : Hp} {x0 : Nat} {x1 : Int32} {x2 : Int64} {x4 : Int64} {x6 : Int32} {x11 : Int32} {x12 : Int32}, DyK n g h → sX5_survey_135 F k_30 f h x0 x1 x2 x4 x6 x11 x12 = some o → DyK n g o := by
  intro f
  induction f with
  | zero => intro h x0 x1 x2 x4 x6 x11 x12 _ e; exact absurd e (by rw [sX5_survey_135]; exact fun z => nomatch z)
  | succ f ih =>
    intro h x0 x1 x2 x4 x6 x11 x12 k e
    rw [sX5_survey_135] at e
    replace e := cl_s e
    obtain ⟨r_1, _, e⟩ := e
    replace e := cl_s e
    obtain ⟨r_2, _, e⟩ := e
    replace e := (gd_s e).2
    replace e := br_s e
    rcases e with ⟨_, e⟩ | ⟨_, e⟩
    · exact dk_X5_survey_224 R_30 k e
    · replace e := cl_s e
      obtain ⟨r_5, _, e⟩ := e
      replace e := cl_s e
      obtain ⟨r_6, _, e⟩ := e
      replace e := (gd_s e).2
      replace e := br_s e
      rcases e with ⟨_, e⟩ | ⟨_, e⟩
      · replace e := cl_s e
        obtain ⟨r_9, _, e⟩ := e
        replace e := cl_s e
        obtain ⟨r_10, _, e⟩ := e
        replace e := (gd_s e).2
        replace e := nm_s e
        obtain ⟨h_12, wh_12, e⟩ := e
        have kh_12 : DyK n g h_12 := by rw [wh_12]; exact dk_wJ k
        replace e := br_s e
        rcases e with ⟨_, e⟩ | ⟨_, e⟩
        · exact dk_X5_survey_214 R_30 (fun k e => ih k e) kh_12 e
        · replace e := cl_s e
          obtain ⟨r_14, _, e⟩ := e
          replace e := cl_s e
          obtain ⟨o_15, eo_15, e⟩ := e
          have ko_15 : DyK n g o_15.2 := dk_X10_isOpen kh_12 eo_15
          replace e := br_s e
          rcases e with ⟨_, e⟩ | ⟨_, e⟩
          · exact dk_X5_survey_215 R_30 (fun k e => ih k e) ko_15 e
          · exact dk_X5_survey_214 R_30 (fun k e => ih k e) ko_15 e
      · exact dk_X5_survey_218 R_30 (fun k e => ih k e) k e
theorem dk_X5_survey_30 {n : Nat} {g : Hp} {F : Nat} {o : Hp} : ∀ (f : Nat) {h : Hp} {x0 : Nat} {x1 : Int32} {x2 : Int64} {x4 : Int64} {x6 : Int32}, DyK n g h → sX5_survey_30 F f h x0 x1 x2 x4 x6 = some o → DyK n g o := by
  intro f
  induction f with
  | zero => intro h x0 x1 x2 x4 x6 _ e; exact absurd e (by rw [sX5_survey_30]; exact fun z => nomatch z)
  | succ f ih =>
    intro h x0 x1 x2 x4 x6 k e
    rw [sX5_survey_30] at e
    replace e := br_s e
    rcases e with ⟨_, e⟩ | ⟨_, e⟩
    · exact dk_X5_survey_230 k e
    · replace e := br_s e
      rcases e with ⟨_, e⟩ | ⟨_, e⟩
      · exact dk_X5_survey_230 k e
      · replace e := nm_s e
        obtain ⟨v_3, wv_3, e⟩ := e
        replace e := nm_s e
        obtain ⟨v_4, wv_4, e⟩ := e
        replace e := (gd_s e).2
        replace e := nm_s e
        obtain ⟨v_6, wv_6, e⟩ := e
        replace e := cl_s e
        obtain ⟨r_7, _, e⟩ := e
        replace e := cl_s e
        obtain ⟨r_8, _, e⟩ := e
        replace e := (gd_s e).2
        replace e := nm_s e
        obtain ⟨v_10, wv_10, e⟩ := e
        replace e := cl_s e
        obtain ⟨r_11, _, e⟩ := e
        replace e := cl_s e
        obtain ⟨r_12, _, e⟩ := e
        replace e := (gd_s e).2
        replace e := br_s e
        rcases e with ⟨_, e⟩ | ⟨_, e⟩
        · exact dk_X5_survey_224 (fun k e => ih k e) k e
        · replace e := cl_s e
          obtain ⟨o_15, eo_15, e⟩ := e
          have ko_15 : DyK n g o_15.2 := dk_X10_cell k eo_15
          replace e := cl_s e
          obtain ⟨r_16, _, e⟩ := e
          replace e := cl_s e
          obtain ⟨r_17, _, e⟩ := e
          replace e := (gd_s e).2
          replace e := nm_s e
          obtain ⟨v_19, wv_19, e⟩ := e
          exact dk_X5_survey_135 (fun k e => ih k e) F ko_15 e
theorem dk_X5_survey {n : Nat} {g : Hp} {F : Nat} {o : Hp} {x0 : Nat} {x1 : Int32} {h : Hp} (k : DyK n g h) (e : sX5_survey F h x0 x1 = some o) : DyK n g o := by
  unfold sX5_survey at e
  replace e := cl_s e
  obtain ⟨r_1, _, e⟩ := e
  replace e := cl_s e
  obtain ⟨o_2, eo_2, e⟩ := e
  have ko_2 : DyK n g o_2.2 := dk_X3_occupied k eo_2
  replace e := cl_s e
  obtain ⟨r_3, _, e⟩ := e
  replace e := cl_s e
  obtain ⟨r_4, _, e⟩ := e
  replace e := cl_s e
  obtain ⟨r_5, _, e⟩ := e
  replace e := (gd_s e).2
  replace e := nm_s e
  obtain ⟨v_7, wv_7, e⟩ := e
  exact dk_X5_survey_30 F ko_2 e
theorem dk_X5_begin_54 {n : Nat} {g : Hp} {F : Nat} {o : Hp} {t0 : Int32} {t1 : Nat} {h : Hp} (k : DyK n g h) (e : sX5_begin_54 F h (n + 30) t0 t1 = some o) : DyK n g o := by
  unfold sX5_begin_54 at e
  replace e := (gd_s e).2
  replace e := nm_s e
  obtain ⟨h_2, wh_2, e⟩ := e
  have kh_2 : DyK n g h_2 := by rw [wh_2]; exact dk_wI k
  replace e := br_s e
  rcases e with ⟨_, e⟩ | ⟨_, e⟩
  · exact dk_X5_begin_102 kh_2 e
  · replace e := cl_s e
    obtain ⟨r_4, _, e⟩ := e
    replace e := cl_s e
    obtain ⟨r_5, _, e⟩ := e
    replace e := cl_s e
    obtain ⟨r_6, _, e⟩ := e
    replace e := (gd_s e).2
    replace e := br_s e
    rcases e with ⟨_, e⟩ | ⟨_, e⟩
    · exact dk_X5_begin_102 kh_2 e
    · replace e := cl_s e
      obtain ⟨r_9, _, e⟩ := e
      replace e := cl_s e
      obtain ⟨r_10, _, e⟩ := e
      replace e := cl_s e
      obtain ⟨r_11, _, e⟩ := e
      replace e := (gd_s e).2
      replace e := cl_s e
      obtain ⟨o_13, eo_13, e⟩ := e
      have ko_13 : DyK n g o_13 := dk_X5_survey kh_2 eo_13
      exact dk_X5_begin_102 ko_13 e
theorem dk_X5_begin_49 {n : Nat} {g : Hp} {F : Nat} {o : Hp} {t0 : Nat} {h : Hp} (k : DyK n g h) (e : sX5_begin_49 F h (n + 30) t0 = some o) : DyK n g o := by
  unfold sX5_begin_49 at e
  exact dk_X5_begin_54 k e
theorem dk_X5_begin {n : Nat} {g : Hp} {F : Nat} {o : Hp} {x1 : Nat} {x2 : Nat} {h : Hp} (k : DyK n g h) (e : sX5_begin F h (n + 30) x1 x2 = some o) : DyK n g o := by
  unfold sX5_begin at e
  replace e := nm_s e
  obtain ⟨h_1, wh_1, e⟩ := e
  have kh_1 : DyK n g h_1 := by rw [wh_1]; exact dk_wR k (by decide)
  replace e := nm_s e
  obtain ⟨h_2, wh_2, e⟩ := e
  have kh_2 : DyK n g h_2 := by rw [wh_2]; exact dk_wR kh_1 (by decide)
  replace e := nm_s e
  obtain ⟨h_3, wh_3, e⟩ := e
  have kh_3 : DyK n g h_3 := by rw [wh_3]; exact dk_wI kh_2
  replace e := nm_s e
  obtain ⟨h_4, wh_4, e⟩ := e
  have kh_4 : DyK n g h_4 := by rw [wh_4]; exact dk_wI kh_3
  replace e := nm_s e
  obtain ⟨h_5, wh_5, e⟩ := e
  have kh_5 : DyK n g h_5 := by rw [wh_5]; exact dk_wJ kh_4
  replace e := cl_s e
  obtain ⟨r_6, _, e⟩ := e
  replace e := br_s e
  rcases e with ⟨_, e⟩ | ⟨_, e⟩
  · exact dk_X5_begin_49 kh_5 e
  · replace e := cl_s e
    obtain ⟨r_8, _, e⟩ := e
    replace e := cl_s e
    obtain ⟨o_9, eo_9, e⟩ := e
    have ko_9 : DyK n g o_9.2 := dk_X1_has kh_5 eo_9
    replace e := br_s e
    rcases e with ⟨_, e⟩ | ⟨_, e⟩
    · exact dk_X5_begin_49 ko_9 e
    · exact dk_X5_begin_54 ko_9 e
theorem dk_X5_isOnHill_36 {n : Nat} {g : Hp} {o : Int32 × Hp} {t0 : Int32} {h : Hp} (k : DyK n g h) (e : sX5_isOnHill_36 h t0 = some o) : DyK n g o.2 := by
  unfold sX5_isOnHill_36 at e
  replace e := (gd_s e).2
  rw [← Option.some.inj e]; exact k
theorem dk_X5_isOnHill_35 {n : Nat} {g : Hp} {o : Int32 × Hp} {h : Hp} (k : DyK n g h) (e : sX5_isOnHill_35 h = some o) : DyK n g o.2 := by
  unfold sX5_isOnHill_35 at e
  exact dk_X5_isOnHill_36 k e
theorem dk_X5_isOnHill {n : Nat} {g : Hp} {o : Int32 × Hp} {x0 : Nat} {x1 : Nat} {x2 : Int32} {h : Hp} (k : DyK n g h) (e : sX5_isOnHill h x0 x1 x2 = some o) : DyK n g o.2 := by
  unfold sX5_isOnHill at e
  replace e := cl_s e
  obtain ⟨r_1, _, e⟩ := e
  replace e := (gd_s e).2
  replace e := br_s e
  rcases e with ⟨_, e⟩ | ⟨_, e⟩
  · exact dk_X5_isOnHill_35 k e
  · replace e := cl_s e
    obtain ⟨r_4, _, e⟩ := e
    replace e := cl_s e
    obtain ⟨r_5, _, e⟩ := e
    replace e := (gd_s e).2
    replace e := br_s e
    rcases e with ⟨_, e⟩ | ⟨_, e⟩
    · exact dk_X5_isOnHill_35 k e
    · exact dk_X5_isOnHill_36 k e
theorem dk_X5_isBare_27 {n : Nat} {g : Hp} {o : Int32 × Hp} {t0 : Int32} {h : Hp} (k : DyK n g h) (e : sX5_isBare_27 h t0 = some o) : DyK n g o.2 := by
  unfold sX5_isBare_27 at e
  replace e := (gd_s e).2
  rw [← Option.some.inj e]; exact k
theorem dk_X5_isBare_26 {n : Nat} {g : Hp} {o : Int32 × Hp} {h : Hp} (k : DyK n g h) (e : sX5_isBare_26 h = some o) : DyK n g o.2 := by
  unfold sX5_isBare_26 at e
  exact dk_X5_isBare_27 k e
theorem dk_X5_isBare {n : Nat} {g : Hp} {o : Int32 × Hp} {x0 : Nat} {x1 : Nat} {x2 : Int32} {h : Hp} (k : DyK n g h) (e : sX5_isBare h x0 x1 x2 = some o) : DyK n g o.2 := by
  unfold sX5_isBare at e
  replace e := cl_s e
  obtain ⟨r_1, _, e⟩ := e
  replace e := (gd_s e).2
  replace e := br_s e
  rcases e with ⟨_, e⟩ | ⟨_, e⟩
  · replace e := cl_s e
    obtain ⟨r_4, _, e⟩ := e
    replace e := (gd_s e).2
    replace e := br_s e
    rcases e with ⟨_, e⟩ | ⟨_, e⟩
    · exact dk_X5_isBare_27 k e
    · exact dk_X5_isBare_26 k e
  · exact dk_X5_isBare_26 k e
theorem dk_X5_earlyEnd_132 {n : Nat} {g : Hp} {o : Int32 × Hp} {t0 : Int32} {h : Hp} (k : DyK n g h) (e : sX5_earlyEnd_132 h t0 = some o) : DyK n g o.2 := by
  unfold sX5_earlyEnd_132 at e
  rw [← Option.some.inj e]; exact k
theorem dk_X5_earlyEnd_127 {n : Nat} {g : Hp} {o : Int32 × Hp} {h : Hp} (k : DyK n g h) (e : sX5_earlyEnd_127 h = some o) : DyK n g o.2 := by
  unfold sX5_earlyEnd_127 at e
  exact dk_X5_earlyEnd_132 k e
theorem dk_X5_earlyEnd_109 {n : Nat} {g : Hp} {o : Int32 × Hp} {x0 : Nat} {x1 : Nat} {h : Hp} (k : DyK n g h) (e : sX5_earlyEnd_109 h x0 x1 = some o) : DyK n g o.2 := by
  unfold sX5_earlyEnd_109 at e
  replace e := cl_s e
  obtain ⟨o_1, eo_1, e⟩ := e
  have ko_1 : DyK n g o_1.2 := dk_X5_isBare k eo_1
  replace e := br_s e
  rcases e with ⟨_, e⟩ | ⟨_, e⟩
  · replace e := cl_s e
    obtain ⟨o_3, eo_3, e⟩ := e
    have ko_3 : DyK n g o_3.2 := dk_X5_isBare ko_1 eo_3
    replace e := br_s e
    rcases e with ⟨_, e⟩ | ⟨_, e⟩
    · exact dk_X5_earlyEnd_132 ko_3 e
    · exact dk_X5_earlyEnd_127 ko_3 e
  · exact dk_X5_earlyEnd_127 ko_1 e
theorem dk_X5_earlyEnd_107 {n : Nat} {g : Hp} {o : Int32 × Hp} {h : Hp} (k : DyK n g h) (e : sX5_earlyEnd_107 h = some o) : DyK n g o.2 := by
  unfold sX5_earlyEnd_107 at e
  rw [← Option.some.inj e]; exact k
theorem dk_X5_earlyEnd_63 {n : Nat} {g : Hp} {o : Int32 × Hp} {h : Hp} (k : DyK n g h) (e : sX5_earlyEnd_63 h = some o) : DyK n g o.2 := by
  unfold sX5_earlyEnd_63 at e
  rw [← Option.some.inj e]; exact k
theorem dk_X5_earlyEnd_45 {n : Nat} {g : Hp} {o : Int32 × Hp} {x0 : Nat} {x1 : Nat} {h : Hp} (k : DyK n g h) (e : sX5_earlyEnd_45 h x0 x1 = some o) : DyK n g o.2 := by
  unfold sX5_earlyEnd_45 at e
  replace e := cl_s e
  obtain ⟨o_1, eo_1, e⟩ := e
  have ko_1 : DyK n g o_1.2 := dk_X5_isOnHill k eo_1
  replace e := br_s e
  rcases e with ⟨_, e⟩ | ⟨_, e⟩
  · replace e := cl_s e
    obtain ⟨o_3, eo_3, e⟩ := e
    have ko_3 : DyK n g o_3.2 := dk_X5_isOnHill ko_1 eo_3
    replace e := br_s e
    rcases e with ⟨_, e⟩ | ⟨_, e⟩
    · replace e := cl_s e
      obtain ⟨r_5, _, e⟩ := e
      replace e := br_s e
      rcases e with ⟨_, e⟩ | ⟨_, e⟩
      · exact dk_X5_earlyEnd_109 ko_3 e
      · replace e := cl_s e
        obtain ⟨r_7, _, e⟩ := e
        replace e := (gd_s e).2
        replace e := cl_s e
        obtain ⟨r_9, _, e⟩ := e
        replace e := br_s e
        rcases e with ⟨_, e⟩ | ⟨_, e⟩
        · exact dk_X5_earlyEnd_107 ko_3 e
        · replace e := cl_s e
          obtain ⟨r_11, _, e⟩ := e
          replace e := (gd_s e).2
          replace e := cl_s e
          obtain ⟨r_13, _, e⟩ := e
          replace e := br_s e
          rcases e with ⟨_, e⟩ | ⟨_, e⟩
          · exact dk_X5_earlyEnd_109 ko_3 e
          · exact dk_X5_earlyEnd_107 ko_3 e
    · exact dk_X5_earlyEnd_63 ko_3 e
  · exact dk_X5_earlyEnd_63 ko_1 e
theorem dk_X5_earlyEnd_43 {n : Nat} {g : Hp} {o : Int32 × Hp} {h : Hp} (k : DyK n g h) (e : sX5_earlyEnd_43 h = some o) : DyK n g o.2 := by
  unfold sX5_earlyEnd_43 at e
  rw [← Option.some.inj e]; exact k
theorem dk_X5_earlyEnd {n : Nat} {g : Hp} {o : Int32 × Hp} {x0 : Nat} {x1 : Nat} {h : Hp} (k : DyK n g h) (e : sX5_earlyEnd h x0 x1 = some o) : DyK n g o.2 := by
  unfold sX5_earlyEnd at e
  replace e := cl_s e
  obtain ⟨r_1, _, e⟩ := e
  replace e := cl_s e
  obtain ⟨o_2, eo_2, e⟩ := e
  have ko_2 : DyK n g o_2.2 := dk_X1_has k eo_2
  replace e := br_s e
  rcases e with ⟨_, e⟩ | ⟨_, e⟩
  · exact dk_X5_earlyEnd_45 ko_2 e
  · replace e := cl_s e
    obtain ⟨r_4, _, e⟩ := e
    replace e := br_s e
    rcases e with ⟨_, e⟩ | ⟨_, e⟩
    · exact dk_X5_earlyEnd_45 ko_2 e
    · replace e := cl_s e
      obtain ⟨r_6, _, e⟩ := e
      replace e := (gd_s e).2
      replace e := br_s e
      rcases e with ⟨_, e⟩ | ⟨_, e⟩
      · exact dk_X5_earlyEnd_43 ko_2 e
      · replace e := cl_s e
        obtain ⟨r_9, _, e⟩ := e
        replace e := (gd_s e).2
        replace e := br_s e
        rcases e with ⟨_, e⟩ | ⟨_, e⟩
        · exact dk_X5_earlyEnd_43 ko_2 e
        · exact dk_X5_earlyEnd_45 ko_2 e
theorem dk_X5_collect_239 {n : Nat} {g : Hp} {F : Nat} {o : Int32 × Hp} {h : Hp} (k : DyK n g h) (e : sX5_collect_239 F h (n + 30) = some o) : DyK n g o.2 := by
  unfold sX5_collect_239 at e
  rw [← Option.some.inj e]; exact k
theorem dk_X5_takenBy_19 {n : Nat} {g : Hp} {o : Int32 × Hp} {t0 : Int32} {h : Hp} (k : DyK n g h) (e : sX5_takenBy_19 h t0 = some o) : DyK n g o.2 := by
  unfold sX5_takenBy_19 at e
  rw [← Option.some.inj e]; exact k
theorem dk_X5_takenBy {n : Nat} {g : Hp} {o : Int32 × Hp} {x0 : Int32} {h : Hp} (k : DyK n g h) (e : sX5_takenBy h x0 = some o) : DyK n g o.2 := by
  unfold sX5_takenBy at e
  replace e := nm_s e
  obtain ⟨v_1, wv_1, e⟩ := e
  replace e := br_s e
  rcases e with ⟨_, e⟩ | ⟨_, e⟩
  · exact dk_X5_takenBy_19 k e
  · exact dk_X5_takenBy_19 k e
theorem dk_X5_keepTakes_40 {n : Nat} {g : Hp} {F : Nat} {o : Hp} {x0 : Nat} {x1 : Int32} {x2 : Int32} {k_4 : Hp → Nat → Int32 → Int32 → Option (Hp)} (R_4 : ∀ {h : Hp} {y1 : Nat} {y2 : Int32} {y3 : Int32}, DyK n g h → k_4 h y1 y2 y3 = some o → DyK n g o) {h : Hp} (k : DyK n g h) (e : sX5_keepTakes_40 F k_4 h x0 x1 x2 = some o) : DyK n g o := by
  unfold sX5_keepTakes_40 at e
  replace e := nm_s e
  obtain ⟨v_1, wv_1, e⟩ := e
  exact R_4 k e
theorem dk_X5_keepTakes_4 {n : Nat} {g : Hp} {F : Nat} {o : Hp} : ∀ (f : Nat) {h : Hp} {x0 : Nat} {x1 : Int32} {x2 : Int32}, DyK n g h → sX5_keepTakes_4 F f h x0 x1 x2 = some o → DyK n g o := by
  intro f
  induction f with
  | zero => intro h x0 x1 x2 _ e; exact absurd e (by rw [sX5_keepTakes_4]; exact fun z => nomatch z)
  | succ f ih =>
    intro h x0 x1 x2 k e
    rw [sX5_keepTakes_4] at e
    replace e := br_s e
    rcases e with ⟨_, e⟩ | ⟨_, e⟩
    · replace e := nm_s e
      obtain ⟨h_2, wh_2, e⟩ := e
      have kh_2 : DyK n g h_2 := by rw [wh_2]; exact dk_wI k
      rw [← Option.some.inj e]; exact kh_2
    · replace e := cl_s e
      obtain ⟨r_3, _, e⟩ := e
      replace e := (gd_s e).2
      replace e := cl_s e
      obtain ⟨o_5, eo_5, e⟩ := e
      have ko_5 : DyK n g o_5.2 := dk_X5_takenBy k eo_5
      replace e := br_s e
      rcases e with ⟨_, e⟩ | ⟨_, e⟩
      · exact dk_X5_keepTakes_40 (fun k e => ih k e) ko_5 e
      · replace e := cl_s e
        obtain ⟨r_7, _, e⟩ := e
        replace e := cl_s e
        obtain ⟨r_8, _, e⟩ := e
        replace e := (gd_s e).2
        replace e := (gd_s e).2
        replace e := nm_s e
        obtain ⟨h_11, wh_11, e⟩ := e
        have kh_11 : DyK n g h_11 := by rw [wh_11]; exact dk_wI ko_5
        replace e := nm_s e
        obtain ⟨v_12, wv_12, e⟩ := e
        exact dk_X5_keepTakes_40 (fun k e => ih k e) kh_11 e
theorem dk_X5_keepTakes {n : Nat} {g : Hp} {F : Nat} {o : Hp} {x0 : Nat} {h : Hp} (k : DyK n g h) (e : sX5_keepTakes F h x0 = some o) : DyK n g o := by
  unfold sX5_keepTakes at e
  exact dk_X5_keepTakes_4 F k e
theorem dk_X5_collect_217 {n : Nat} {g : Hp} {F : Nat} {o : Int32 × Hp} {h : Hp} (k : DyK n g h) (e : sX5_collect_217 F h (n + 30) = some o) : DyK n g o.2 := by
  unfold sX5_collect_217 at e
  replace e := cl_s e
  obtain ⟨r_1, _, e⟩ := e
  replace e := cl_s e
  obtain ⟨o_2, eo_2, e⟩ := e
  have ko_2 : DyK n g o_2.2 := dk_X1_has k eo_2
  replace e := br_s e
  rcases e with ⟨_, e⟩ | ⟨_, e⟩
  · exact dk_X5_collect_239 ko_2 e
  · replace e := br_s e
    rcases e with ⟨_, e⟩ | ⟨_, e⟩
    · exact dk_X5_collect_239 ko_2 e
    · replace e := cl_s e
      obtain ⟨o_5, eo_5, e⟩ := e
      have ko_5 : DyK n g o_5 := dk_X5_keepTakes ko_2 eo_5
      exact dk_X5_collect_239 ko_5 e
theorem dk_X5_addDrops_101 {n : Nat} {g : Hp} {F : Nat} {o : Hp} {x0 : Nat} {x1 : Int32} {x2 : Int32} {x3 : Int32} {k_46 : Hp → Nat → Int32 → Int32 → Int32 → Option (Hp)} (R_46 : ∀ {h : Hp} {y1 : Nat} {y2 : Int32} {y3 : Int32} {y4 : Int32}, DyK n g h → k_46 h y1 y2 y3 y4 = some o → DyK n g o) {h : Hp} (k : DyK n g h) (e : sX5_addDrops_101 F k_46 h x0 x1 x2 x3 = some o) : DyK n g o := by
  unfold sX5_addDrops_101 at e
  replace e := nm_s e
  obtain ⟨v_1, wv_1, e⟩ := e
  exact R_46 k e
theorem dk_X5_plainMove {n : Nat} {g : Hp} {o : Int32 × Hp} {x0 : Int32} {x1 : Int32} {x2 : Int32} {x3 : Int32} {h : Hp} (k : DyK n g h) (e : sX5_plainMove h x0 x1 x2 x3 = some o) : DyK n g o.2 := by
  unfold sX5_plainMove at e
  rw [← Option.some.inj e]; exact k
theorem dk_X5_addMove_32 {n : Nat} {g : Hp} {o : Hp} {h : Hp} (k : DyK n g h) (e : sX5_addMove_32 h = some o) : DyK n g o := by
  unfold sX5_addMove_32 at e
  rw [← Option.some.inj e]; exact k
theorem dk_X5_addMove {n : Nat} {g : Hp} {o : Hp} {x0 : Nat} {x1 : Int32} {h : Hp} (k : DyK n g h) (e : sX5_addMove h x0 x1 = some o) : DyK n g o := by
  unfold sX5_addMove at e
  replace e := cl_s e
  obtain ⟨r_1, _, e⟩ := e
  replace e := br_s e
  rcases e with ⟨_, e⟩ | ⟨_, e⟩
  · exact dk_X5_addMove_32 k e
  · replace e := cl_s e
    obtain ⟨r_3, _, e⟩ := e
    replace e := (gd_s e).2
    replace e := nm_s e
    obtain ⟨h_5, wh_5, e⟩ := e
    have kh_5 : DyK n g h_5 := by rw [wh_5]; exact dk_wI k
    replace e := nm_s e
    obtain ⟨h_6, wh_6, e⟩ := e
    have kh_6 : DyK n g h_6 := by rw [wh_6]; exact dk_wI kh_5
    exact dk_X5_addMove_32 kh_6 e
theorem dk_X5_addDrops_90 {n : Nat} {g : Hp} {F : Nat} {o : Hp} {x0 : Nat} {x1 : Int32} {x2 : Int32} {x3 : Int32} {k_46 : Hp → Nat → Int32 → Int32 → Int32 → Option (Hp)} (R_46 : ∀ {h : Hp} {y1 : Nat} {y2 : Int32} {y3 : Int32} {y4 : Int32}, DyK n g h → k_46 h y1 y2 y3 y4 = some o → DyK n g o) {h : Hp} (k : DyK n g h) (e : sX5_addDrops_90 F k_46 h x0 x1 x2 x3 = some o) : DyK n g o := by
  unfold sX5_addDrops_90 at e
  replace e := cl_s e
  obtain ⟨o_1, eo_1, e⟩ := e
  have ko_1 : DyK n g o_1.2 := dk_X5_plainMove k eo_1
  replace e := cl_s e
  obtain ⟨o_2, eo_2, e⟩ := e
  have ko_2 : DyK n g o_2 := dk_X5_addMove ko_1 eo_2
  exact dk_X5_addDrops_101 R_46 ko_2 e
theorem dk_X5_addDrops_46 {n : Nat} {g : Hp} {F : Nat} {o : Hp} : ∀ (f : Nat) {h : Hp} {x0 : Nat} {x1 : Int32} {x2 : Int32} {x3 : Int32}, DyK n g h → sX5_addDrops_46 F f h x0 x1 x2 x3 = some o → DyK n g o := by
  intro f
  induction f with
  | zero => intro h x0 x1 x2 x3 _ e; exact absurd e (by rw [sX5_addDrops_46]; exact fun z => nomatch z)
  | succ f ih =>
    intro h x0 x1 x2 x3 k e
    rw [sX5_addDrops_46] at e
    replace e := cl_s e
    obtain ⟨r_1, _, e⟩ := e
    replace e := br_s e
    rcases e with ⟨_, e⟩ | ⟨_, e⟩
    · rw [← Option.some.inj e]; exact k
    · replace e := cl_s e
      obtain ⟨r_3, _, e⟩ := e
      replace e := cl_s e
      obtain ⟨r_4, _, e⟩ := e
      replace e := cl_s e
      obtain ⟨o_5, eo_5, e⟩ := e
      have ko_5 : DyK n g o_5.2 := dk_X3_inHand k eo_5
      replace e := br_s e
      rcases e with ⟨_, e⟩ | ⟨_, e⟩
      · exact dk_X5_addDrops_101 (fun k e => ih k e) ko_5 e
      · replace e := br_s e
        rcases e with ⟨_, e⟩ | ⟨_, e⟩
        · exact dk_X5_addDrops_90 (fun k e => ih k e) ko_5 e
        · replace e := cl_s e
          obtain ⟨r_8, _, e⟩ := e
          replace e := cl_s e
          obtain ⟨o_9, eo_9, e⟩ := e
          have ko_9 : DyK n g o_9.2 := dk_X1_becomesOthers ko_5 eo_9
          replace e := br_s e
          rcases e with ⟨_, e⟩ | ⟨_, e⟩
          · exact dk_X5_addDrops_90 (fun k e => ih k e) ko_9 e
          · exact dk_X5_addDrops_101 (fun k e => ih k e) ko_9 e
theorem dk_X5_addDrops_43 {n : Nat} {g : Hp} {F : Nat} {o : Hp} {x0 : Nat} {x1 : Int32} {t0 : Int32} {h : Hp} (k : DyK n g h) (e : sX5_addDrops_43 F h x0 x1 t0 = some o) : DyK n g o := by
  unfold sX5_addDrops_43 at e
  exact dk_X5_addDrops_46 F k e
theorem dk_X5_addDrops_38 {n : Nat} {g : Hp} {F : Nat} {o : Hp} {x0 : Nat} {x1 : Int32} {h : Hp} (k : DyK n g h) (e : sX5_addDrops_38 F h x0 x1 = some o) : DyK n g o := by
  unfold sX5_addDrops_38 at e
  exact dk_X5_addDrops_43 k e
theorem dk_X5_addDrops {n : Nat} {g : Hp} {F : Nat} {o : Hp} {x0 : Nat} {x1 : Int32} {h : Hp} (k : DyK n g h) (e : sX5_addDrops F h x0 x1 = some o) : DyK n g o := by
  unfold sX5_addDrops at e
  replace e := cl_s e
  obtain ⟨r_1, _, e⟩ := e
  replace e := cl_s e
  obtain ⟨r_2, _, e⟩ := e
  replace e := (gd_s e).2
  replace e := br_s e
  rcases e with ⟨_, e⟩ | ⟨_, e⟩
  · replace e := cl_s e
    obtain ⟨r_5, _, e⟩ := e
    replace e := cl_s e
    obtain ⟨o_6, eo_6, e⟩ := e
    have ko_6 : DyK n g o_6.2 := dk_X1_isLast k eo_6
    replace e := br_s e
    rcases e with ⟨_, e⟩ | ⟨_, e⟩
    · replace e := cl_s e
      obtain ⟨r_8, _, e⟩ := e
      replace e := cl_s e
      obtain ⟨o_9, eo_9, e⟩ := e
      have ko_9 : DyK n g o_9.2 := dk_X1_isLast ko_6 eo_9
      replace e := br_s e
      rcases e with ⟨_, e⟩ | ⟨_, e⟩
      · exact dk_X5_addDrops_43 ko_9 e
      · exact dk_X5_addDrops_38 ko_9 e
    · exact dk_X5_addDrops_38 ko_6 e
  · rw [← Option.some.inj e]; exact k
theorem dk_X5_isSafe_31 {n : Nat} {g : Hp} {o : Int32 × Hp} {h : Hp} (k : DyK n g h) (e : sX5_isSafe_31 h = some o) : DyK n g o.2 := by
  unfold sX5_isSafe_31 at e
  rw [← Option.some.inj e]; exact k
theorem dk_X5_manOf {n : Nat} {g : Hp} {o : Int32 × Hp} {x0 : Int32} {h : Hp} (k : DyK n g h) (e : sX5_manOf h x0 = some o) : DyK n g o.2 := by
  unfold sX5_manOf at e
  rw [← Option.some.inj e]; exact k
theorem dk_X5_comeTo {n : Nat} {g : Hp} {o : Int32 × Hp} {x0 : Int32} {h : Hp} (k : DyK n g h) (e : sX5_comeTo h x0 = some o) : DyK n g o.2 := by
  unfold sX5_comeTo at e
  rw [← Option.some.inj e]; exact k
theorem dk_X5_isSafe_88 {n : Nat} {g : Hp} {o : Int32 × Hp} {t0 : Int32} {h : Hp} (k : DyK n g h) (e : sX5_isSafe_88 h t0 = some o) : DyK n g o.2 := by
  unfold sX5_isSafe_88 at e
  replace e := (gd_s e).2
  rw [← Option.some.inj e]; exact k
theorem dk_X5_isSafe_72 {n : Nat} {g : Hp} {o : Int32 × Hp} {x0 : Nat} {x3 : Int64} {h : Hp} (k : DyK n g h) (e : sX5_isSafe_72 h x0 x3 = some o) : DyK n g o.2 := by
  unfold sX5_isSafe_72 at e
  replace e := br_s e
  rcases e with ⟨_, e⟩ | ⟨_, e⟩
  · exact dk_X5_isSafe_88 k e
  · exact dk_X5_isSafe_88 k e
theorem dk_X5_isSafe_54 {n : Nat} {g : Hp} {o : Int32 × Hp} {x0 : Nat} {x2 : Int32} {x3 : Int64} {h : Hp} (k : DyK n g h) (e : sX5_isSafe_54 h x0 x2 x3 = some o) : DyK n g o.2 := by
  unfold sX5_isSafe_54 at e
  replace e := br_s e
  rcases e with ⟨_, e⟩ | ⟨_, e⟩
  · replace e := cl_s e
    obtain ⟨r_2, _, e⟩ := e
    replace e := cl_s e
    obtain ⟨o_3, eo_3, e⟩ := e
    have ko_3 : DyK n g o_3.2 := dk_X3_passSquare k eo_3
    replace e := nm_s e
    obtain ⟨v_4, wv_4, e⟩ := e
    exact dk_X5_isSafe_72 ko_3 e
  · exact dk_X5_isSafe_72 k e
theorem dk_X5_leftBy {n : Nat} {g : Hp} {o : Int32 × Hp} {x0 : Int32} {h : Hp} (k : DyK n g h) (e : sX5_leftBy h x0 = some o) : DyK n g o.2 := by
  unfold sX5_leftBy at e
  rw [← Option.some.inj e]; exact k
theorem dk_X5_isSafe {n : Nat} {g : Hp} {o : Int32 × Hp} {x0 : Nat} {x1 : Int32} {h : Hp} (k : DyK n g h) (e : sX5_isSafe h x0 x1 = some o) : DyK n g o.2 := by
  unfold sX5_isSafe at e
  replace e := cl_s e
  obtain ⟨o_1, eo_1, e⟩ := e
  have ko_1 : DyK n g o_1.2 := dk_X5_kindOf k eo_1
  replace e := br_s e
  rcases e with ⟨_, e⟩ | ⟨_, e⟩
  · exact dk_X5_isSafe_31 ko_1 e
  · replace e := br_s e
    rcases e with ⟨_, e⟩ | ⟨_, e⟩
    · exact dk_X5_isSafe_31 ko_1 e
    · replace e := cl_s e
      obtain ⟨o_4, eo_4, e⟩ := e
      have ko_4 : DyK n g o_4.2 := dk_X5_manOf ko_1 eo_4
      replace e := cl_s e
      obtain ⟨r_5, _, e⟩ := e
      replace e := br_s e
      rcases e with ⟨_, e⟩ | ⟨_, e⟩
      · exact dk_X5_isSafe_31 ko_4 e
      · replace e := cl_s e
        obtain ⟨o_7, eo_7, e⟩ := e
        have ko_7 : DyK n g o_7.2 := dk_X5_comeTo ko_4 eo_7
        replace e := nm_s e
        obtain ⟨v_8, wv_8, e⟩ := e
        replace e := br_s e
        rcases e with ⟨_, e⟩ | ⟨_, e⟩
        · exact dk_X5_isSafe_54 ko_7 e
        · replace e := cl_s e
          obtain ⟨o_10, eo_10, e⟩ := e
          have ko_10 : DyK n g o_10.2 := dk_X5_leftBy ko_7 eo_10
          replace e := nm_s e
          obtain ⟨v_11, wv_11, e⟩ := e
          exact dk_X5_isSafe_54 ko_10 e
theorem dk_X3_copyFrom_17 {n : Nat} {g : Hp} {F : Nat} {o : Hp} : ∀ (f : Nat) {h : Hp} {x0 : Nat} {x1 : Nat} {x2 : Int32}, DyK n g h → sX3_copyFrom_17 F f h x0 x1 x2 = some o → DyK n g o := by
  intro f
  induction f with
  | zero => intro h x0 x1 x2 _ e; exact absurd e (by rw [sX3_copyFrom_17]; exact fun z => nomatch z)
  | succ f ih =>
    intro h x0 x1 x2 k e
    rw [sX3_copyFrom_17] at e
    replace e := br_s e
    rcases e with ⟨_, e⟩ | ⟨_, e⟩
    · replace e := nm_s e
      obtain ⟨h_2, wh_2, e⟩ := e
      have kh_2 : DyK n g h_2 := by rw [wh_2]; exact dk_wI k
      replace e := nm_s e
      obtain ⟨h_3, wh_3, e⟩ := e
      have kh_3 : DyK n g h_3 := by rw [wh_3]; exact dk_wI kh_2
      replace e := nm_s e
      obtain ⟨h_4, wh_4, e⟩ := e
      have kh_4 : DyK n g h_4 := by rw [wh_4]; exact dk_wJ kh_3
      replace e := nm_s e
      obtain ⟨h_5, wh_5, e⟩ := e
      have kh_5 : DyK n g h_5 := by rw [wh_5]; exact dk_wJ kh_4
      replace e := nm_s e
      obtain ⟨h_6, wh_6, e⟩ := e
      have kh_6 : DyK n g h_6 := by rw [wh_6]; exact dk_wJ kh_5
      rw [← Option.some.inj e]; exact kh_6
    · replace e := cl_s e
      obtain ⟨r_7, _, e⟩ := e
      replace e := cl_s e
      obtain ⟨r_8, _, e⟩ := e
      replace e := (gd_s e).2
      replace e := (gd_s e).2
      replace e := nm_s e
      obtain ⟨h_11, wh_11, e⟩ := e
      have kh_11 : DyK n g h_11 := by rw [wh_11]; exact dk_wJ k
      replace e := cl_s e
      obtain ⟨r_12, _, e⟩ := e
      replace e := cl_s e
      obtain ⟨r_13, _, e⟩ := e
      replace e := (gd_s e).2
      replace e := (gd_s e).2
      replace e := nm_s e
      obtain ⟨h_16, wh_16, e⟩ := e
      have kh_16 : DyK n g h_16 := by rw [wh_16]; exact dk_wI kh_11
      replace e := cl_s e
      obtain ⟨r_17, _, e⟩ := e
      replace e := cl_s e
      obtain ⟨r_18, _, e⟩ := e
      replace e := (gd_s e).2
      replace e := (gd_s e).2
      replace e := nm_s e
      obtain ⟨h_21, wh_21, e⟩ := e
      have kh_21 : DyK n g h_21 := by rw [wh_21]; exact dk_wJ kh_16
      replace e := cl_s e
      obtain ⟨r_22, _, e⟩ := e
      replace e := cl_s e
      obtain ⟨r_23, _, e⟩ := e
      replace e := (gd_s e).2
      replace e := (gd_s e).2
      replace e := nm_s e
      obtain ⟨h_26, wh_26, e⟩ := e
      have kh_26 : DyK n g h_26 := by rw [wh_26]; exact dk_wI kh_21
      replace e := nm_s e
      obtain ⟨v_27, wv_27, e⟩ := e
      exact ih kh_26 e
theorem dk_X3_copyFrom {n : Nat} {g : Hp} {F : Nat} {o : Hp} {x0 : Nat} {x1 : Nat} {h : Hp} (k : DyK n g h) (e : sX3_copyFrom F h x0 x1 = some o) : DyK n g o := by
  unfold sX3_copyFrom at e
  replace e := cl_s e
  obtain ⟨r_1, _, e⟩ := e
  replace e := cl_s e
  obtain ⟨r_2, _, e⟩ := e
  replace e := (gd_s e).2
  replace e := (gd_s e).2
  replace e := (gd_s e).2
  replace e := (gd_s e).2
  replace e := (gd_s e).2
  replace e := (gd_s e).2
  replace e := nm_s e
  obtain ⟨h_9, wh_9, e⟩ := e
  have kh_9 : DyK n g h_9 := by rw [wh_9]; exact dk_cpI k
  exact dk_X3_copyFrom_17 F kh_9 e
theorem dk_X5_nearest_62 {n : Nat} {g : Hp} {F : Nat} {o : Int32 × Hp} {h : Hp} (k : DyK n g h) (e : sX5_nearest_62 F h = some o) : DyK n g o.2 := by
  unfold sX5_nearest_62 at e
  rw [← Option.some.inj e]; exact k
theorem dk_X5_nearest_16 {n : Nat} {g : Hp} {F : Nat} {o : Int32 × Hp} : ∀ (f : Nat) {h : Hp} {x0 : Nat} {x1 : Nat} {x3 : Int32} {x4 : Int32} {x5 : Int32}, DyK n g h → sX5_nearest_16 F f h x0 x1 x3 x4 x5 = some o → DyK n g o.2 := by
  intro f
  induction f with
  | zero => intro h x0 x1 x3 x4 x5 _ e; exact absurd e (by rw [sX5_nearest_16]; exact fun z => nomatch z)
  | succ f ih =>
    intro h x0 x1 x3 x4 x5 k e
    rw [sX5_nearest_16] at e
    replace e := br_s e
    rcases e with ⟨_, e⟩ | ⟨_, e⟩
    · exact dk_X5_nearest_62 k e
    · replace e := cl_s e
      obtain ⟨r_2, _, e⟩ := e
      replace e := br_s e
      rcases e with ⟨_, e⟩ | ⟨_, e⟩
      · exact dk_X5_nearest_62 k e
      · replace e := nm_s e
        obtain ⟨v_4, wv_4, e⟩ := e
        replace e := cl_s e
        obtain ⟨r_5, _, e⟩ := e
        replace e := (gd_s e).2
        replace e := br_s e
        rcases e with ⟨_, e⟩ | ⟨_, e⟩
        · replace e := nm_s e
          obtain ⟨v_8, wv_8, e⟩ := e
          exact ih k e
        · rw [← Option.some.inj e]; exact k
theorem dk_X5_nearest {n : Nat} {g : Hp} {F : Nat} {o : Int32 × Hp} {x0 : Nat} {x1 : Nat} {x2 : Int32} {x3 : Int32} {h : Hp} (k : DyK n g h) (e : sX5_nearest F h x0 x1 x2 x3 = some o) : DyK n g o.2 := by
  unfold sX5_nearest at e
  replace e := cl_s e
  obtain ⟨r_1, _, e⟩ := e
  replace e := cl_s e
  obtain ⟨r_2, _, e⟩ := e
  replace e := (gd_s e).2
  replace e := nm_s e
  obtain ⟨v_4, wv_4, e⟩ := e
  exact dk_X5_nearest_16 F k e
theorem dk_X5_becomes_19 {n : Nat} {g : Hp} {o : Int32 × Hp} {t0 : Int32} {h : Hp} (k : DyK n g h) (e : sX5_becomes_19 h t0 = some o) : DyK n g o.2 := by
  unfold sX5_becomes_19 at e
  rw [← Option.some.inj e]; exact k
theorem dk_X5_becomes {n : Nat} {g : Hp} {o : Int32 × Hp} {x0 : Int32} {h : Hp} (k : DyK n g h) (e : sX5_becomes h x0 = some o) : DyK n g o.2 := by
  unfold sX5_becomes at e
  replace e := nm_s e
  obtain ⟨v_1, wv_1, e⟩ := e
  replace e := br_s e
  rcases e with ⟨_, e⟩ | ⟨_, e⟩
  · exact dk_X5_becomes_19 k e
  · exact dk_X5_becomes_19 k e
theorem dk_X5_shift_185 {n : Nat} {g : Hp} {F : Nat} {o : Hp} {x0 : Nat} {t0 : Int32} {t1 : Int32} {t2 : Nat} {h : Hp} (k : DyK n g h) (e : sX5_shift_185 F h x0 t0 t1 t2 = some o) : DyK n g o := by
  unfold sX5_shift_185 at e
  replace e := cl_s e
  obtain ⟨r_1, _, e⟩ := e
  replace e := cl_s e
  obtain ⟨o_2, eo_2, e⟩ := e
  have ko_2 : DyK n g o_2 := dk_X3_put k eo_2
  rw [← Option.some.inj e]; exact ko_2
theorem dk_X5_shift_145 {n : Nat} {g : Hp} {F : Nat} {o : Hp} {x0 : Nat} {x1 : Nat} {x2 : Int32} {x3 : Int32} {x4 : Int32} {x6 : Int32} {h : Hp} (k : DyK n g h) (e : sX5_shift_145 F h x0 x1 x2 x3 x4 x6 = some o) : DyK n g o := by
  unfold sX5_shift_145 at e
  replace e := cl_s e
  obtain ⟨r_1, _, e⟩ := e
  replace e := cl_s e
  obtain ⟨o_2, eo_2, e⟩ := e
  have ko_2 : DyK n g o_2 := dk_X3_put k eo_2
  replace e := cl_s e
  obtain ⟨o_3, eo_3, e⟩ := e
  have ko_3 : DyK n g o_3.2 := dk_X5_becomes ko_2 eo_3
  replace e := br_s e
  rcases e with ⟨_, e⟩ | ⟨_, e⟩
  · exact dk_X5_shift_185 ko_3 e
  · replace e := cl_s e
    obtain ⟨o_5, eo_5, e⟩ := e
    have ko_5 : DyK n g o_5.2 := dk_X5_becomes ko_3 eo_5
    exact dk_X5_shift_185 ko_5 e
theorem dk_X5_shift_122 {n : Nat} {g : Hp} {F : Nat} {o : Hp} {x0 : Nat} {x1 : Nat} {x2 : Int32} {x3 : Int32} {x4 : Int32} {x5 : Int32} {x6 : Int32} {h : Hp} (k : DyK n g h) (e : sX5_shift_122 F h x0 x1 x2 x3 x4 x5 x6 = some o) : DyK n g o := by
  unfold sX5_shift_122 at e
  replace e := br_s e
  rcases e with ⟨_, e⟩ | ⟨_, e⟩
  · replace e := cl_s e
    obtain ⟨o_2, eo_2, e⟩ := e
    have ko_2 : DyK n g o_2.2 := dk_X3_passSquare k eo_2
    replace e := cl_s e
    obtain ⟨r_3, _, e⟩ := e
    replace e := cl_s e
    obtain ⟨o_4, eo_4, e⟩ := e
    have ko_4 : DyK n g o_4 := dk_X3_put ko_2 eo_4
    exact dk_X5_shift_145 ko_4 e
  · exact dk_X5_shift_145 k e
theorem dk_X5_shift_72 {n : Nat} {g : Hp} {F : Nat} {o : Hp} {x0 : Nat} {x1 : Nat} {x2 : Int32} {x3 : Int32} {x4 : Int32} {x5 : Int32} {x6 : Int32} {t0 : Int32} {t1 : Int32} {t2 : Nat} {t3 : Nat} {h : Hp} (k : DyK n g h) (e : sX5_shift_72 F h x0 x1 x2 x3 x4 x5 x6 t0 t1 t2 t3 = some o) : DyK n g o := by
  unfold sX5_shift_72 at e
  replace e := cl_s e
  obtain ⟨o_1, eo_1, e⟩ := e
  have ko_1 : DyK n g o_1.2 := dk_X5_nearest k eo_1
  replace e := cl_s e
  obtain ⟨r_2, _, e⟩ := e
  replace e := cl_s e
  obtain ⟨o_3, eo_3, e⟩ := e
  have ko_3 : DyK n g o_3 := dk_X3_put ko_1 eo_3
  replace e := cl_s e
  obtain ⟨r_4, _, e⟩ := e
  replace e := cl_s e
  obtain ⟨r_5, _, e⟩ := e
  replace e := cl_s e
  obtain ⟨o_6, eo_6, e⟩ := e
  have ko_6 : DyK n g o_6 := dk_X3_put ko_3 eo_6
  exact dk_X5_shift_122 ko_6 e
theorem dk_X5_shift {n : Nat} {g : Hp} {F : Nat} {o : Hp} {x0 : Nat} {x1 : Nat} {x2 : Int32} {h : Hp} (k : DyK n g h) (e : sX5_shift F h x0 x1 x2 = some o) : DyK n g o := by
  unfold sX5_shift at e
  replace e := cl_s e
  obtain ⟨o_1, eo_1, e⟩ := e
  have ko_1 : DyK n g o_1.2 := dk_X5_leftBy k eo_1
  replace e := cl_s e
  obtain ⟨o_2, eo_2, e⟩ := e
  have ko_2 : DyK n g o_2.2 := dk_X5_comeTo ko_1 eo_2
  replace e := cl_s e
  obtain ⟨o_3, eo_3, e⟩ := e
  have ko_3 : DyK n g o_3.2 := dk_X5_kindOf ko_2 eo_3
  replace e := cl_s e
  obtain ⟨o_4, eo_4, e⟩ := e
  have ko_4 : DyK n g o_4.2 := dk_X5_manOf ko_3 eo_4
  replace e := nm_s e
  obtain ⟨v_5, wv_5, e⟩ := e
  replace e := br_s e
  rcases e with ⟨_, e⟩ | ⟨_, e⟩
  · replace e := cl_s e
    obtain ⟨r_9, _, e⟩ := e
    replace e := cl_s e
    obtain ⟨o_10, eo_10, e⟩ := e
    have ko_10 : DyK n g o_10 := dk_X3_put ko_4 eo_10
    rw [← Option.some.inj e]; exact ko_10
  · replace e := br_s e
    rcases e with ⟨_, e⟩ | ⟨_, e⟩
    · replace e := br_s e
      rcases e with ⟨_, e⟩ | ⟨_, e⟩
      · exact dk_X5_shift_72 ko_4 e
      · exact dk_X5_shift_72 ko_4 e
    · exact dk_X5_shift_122 ko_4 e
theorem dk_X5_blast_20 {n : Nat} {g : Hp} {F : Nat} {o : Hp} {h : Hp} (k : DyK n g h) (e : sX5_blast_20 F h = some o) : DyK n g o := by
  unfold sX5_blast_20 at e
  rw [← Option.some.inj e]; exact k
theorem dk_X5_blast_130 {n : Nat} {g : Hp} {F : Nat} {o : Hp} {h : Hp} (k : DyK n g h) (e : sX5_blast_130 F h = some o) : DyK n g o := by
  unfold sX5_blast_130 at e
  rw [← Option.some.inj e]; exact k
theorem dk_X5_blast_124 {n : Nat} {g : Hp} {F : Nat} {o : Hp} {x0 : Nat} {x1 : Nat} {x4 : Int64} {x6 : Int32} {k_58 : Hp → Nat → Nat → Int64 → Int32 → Option (Hp)} (R_58 : ∀ {h : Hp} {y1 : Nat} {y2 : Nat} {y3 : Int64} {y4 : Int32}, DyK n g h → k_58 h y1 y2 y3 y4 = some o → DyK n g o) {h : Hp} (k : DyK n g h) (e : sX5_blast_124 F k_58 h x0 x1 x4 x6 = some o) : DyK n g o := by
  unfold sX5_blast_124 at e
  replace e := nm_s e
  obtain ⟨v_1, wv_1, e⟩ := e
  exact R_58 k e
theorem dk_X5_blast_58 {n : Nat} {g : Hp} {F : Nat} {o : Hp} : ∀ (f : Nat) {h : Hp} {x0 : Nat} {x1 : Nat} {x4 : Int64} {x6 : Int32}, DyK n g h → sX5_blast_58 F f h x0 x1 x4 x6 = some o → DyK n g o := by
  intro f
  induction f with
  | zero => intro h x0 x1 x4 x6 _ e; exact absurd e (by rw [sX5_blast_58]; exact fun z => nomatch z)
  | succ f ih =>
    intro h x0 x1 x4 x6 k e
    rw [sX5_blast_58] at e
    replace e := br_s e
    rcases e with ⟨_, e⟩ | ⟨_, e⟩
    · exact dk_X5_blast_130 k e
    · replace e := br_s e
      rcases e with ⟨_, e⟩ | ⟨_, e⟩
      · exact dk_X5_blast_130 k e
      · replace e := cl_s e
        obtain ⟨o_3, eo_3, e⟩ := e
        have ko_3 : DyK n g o_3.2 := dk_X11_lowest k eo_3
        replace e := nm_s e
        obtain ⟨v_4, wv_4, e⟩ := e
        replace e := cl_s e
        obtain ⟨r_5, _, e⟩ := e
        replace e := cl_s e
        obtain ⟨r_6, _, e⟩ := e
        replace e := (gd_s e).2
        replace e := br_s e
        rcases e with ⟨_, e⟩ | ⟨_, e⟩
        · replace e := cl_s e
          obtain ⟨r_9, _, e⟩ := e
          replace e := cl_s e
          obtain ⟨o_10, eo_10, e⟩ := e
          have ko_10 : DyK n g o_10 := dk_X3_put ko_3 eo_10
          exact dk_X5_blast_124 (fun k e => ih k e) ko_10 e
        · exact dk_X5_blast_124 (fun k e => ih k e) ko_3 e
theorem dk_X5_blast {n : Nat} {g : Hp} {F : Nat} {o : Hp} {x0 : Nat} {x1 : Nat} {x2 : Int32} {h : Hp} (k : DyK n g h) (e : sX5_blast F h x0 x1 x2 = some o) : DyK n g o := by
  unfold sX5_blast at e
  replace e := cl_s e
  obtain ⟨r_1, _, e⟩ := e
  replace e := cl_s e
  obtain ⟨o_2, eo_2, e⟩ := e
  have ko_2 : DyK n g o_2.2 := dk_X1_has k eo_2
  replace e := br_s e
  rcases e with ⟨_, e⟩ | ⟨_, e⟩
  · exact dk_X5_blast_20 ko_2 e
  · replace e := cl_s e
    obtain ⟨o_4, eo_4, e⟩ := e
    have ko_4 : DyK n g o_4.2 := dk_X5_takenBy ko_2 eo_4
    replace e := br_s e
    rcases e with ⟨_, e⟩ | ⟨_, e⟩
    · exact dk_X5_blast_20 ko_4 e
    · replace e := cl_s e
      obtain ⟨o_6, eo_6, e⟩ := e
      have ko_6 : DyK n g o_6.2 := dk_X5_comeTo ko_4 eo_6
      replace e := cl_s e
      obtain ⟨r_7, _, e⟩ := e
      replace e := cl_s e
      obtain ⟨o_8, eo_8, e⟩ := e
      have ko_8 : DyK n g o_8 := dk_X3_put ko_6 eo_8
      replace e := cl_s e
      obtain ⟨r_9, _, e⟩ := e
      replace e := cl_s e
      obtain ⟨r_10, _, e⟩ := e
      replace e := (gd_s e).2
      replace e := cl_s e
      obtain ⟨o_12, eo_12, e⟩ := e
      have ko_12 : DyK n g o_12.2 := dk_X3_occupied ko_8 eo_12
      replace e := nm_s e
      obtain ⟨v_13, wv_13, e⟩ := e
      exact dk_X5_blast_58 F ko_12 e
theorem dk_X5_mayStand_133 {n : Nat} {g : Hp} {F : Nat} {o : Int32 × Hp} {t0 : Int32} {h : Hp} (k : DyK n g h) (e : sX5_mayStand_133 F h t0 = some o) : DyK n g o.2 := by
  unfold sX5_mayStand_133 at e
  replace e := (gd_s e).2
  rw [← Option.some.inj e]; exact k
theorem dk_X5_mayStand_128 {n : Nat} {g : Hp} {F : Nat} {o : Int32 × Hp} {h : Hp} (k : DyK n g h) (e : sX5_mayStand_128 F h = some o) : DyK n g o.2 := by
  unfold sX5_mayStand_128 at e
  exact dk_X5_mayStand_133 k e
theorem dk_X5_mayStand_97 {n : Nat} {g : Hp} {F : Nat} {o : Int32 × Hp} {x0 : Nat} {x1 : Int32} {x4 : Int32} {h : Hp} (k : DyK n g h) (e : sX5_mayStand_97 F h x0 x1 x4 = some o) : DyK n g o.2 := by
  unfold sX5_mayStand_97 at e
  replace e := cl_s e
  obtain ⟨r_1, _, e⟩ := e
  replace e := cl_s e
  obtain ⟨o_2, eo_2, e⟩ := e
  have ko_2 : DyK n g o_2.2 := dk_X1_has k eo_2
  replace e := br_s e
  rcases e with ⟨_, e⟩ | ⟨_, e⟩
  · exact dk_X5_mayStand_128 ko_2 e
  · replace e := br_s e
    rcases e with ⟨_, e⟩ | ⟨_, e⟩
    · exact dk_X5_mayStand_128 ko_2 e
    · replace e := cl_s e
      obtain ⟨r_5, _, e⟩ := e
      replace e := cl_s e
      obtain ⟨o_6, eo_6, e⟩ := e
      have ko_6 : DyK n g o_6.2 := dk_X5_isHit ko_2 eo_6
      replace e := br_s e
      rcases e with ⟨_, e⟩ | ⟨_, e⟩
      · exact dk_X5_mayStand_128 ko_6 e
      · exact dk_X5_mayStand_133 ko_6 e
theorem dk_X5_mayStand_95 {n : Nat} {g : Hp} {F : Nat} {o : Int32 × Hp} {h : Hp} (k : DyK n g h) (e : sX5_mayStand_95 F h = some o) : DyK n g o.2 := by
  unfold sX5_mayStand_95 at e
  rw [← Option.some.inj e]; exact k
theorem dk_X5_mayStand_70 {n : Nat} {g : Hp} {F : Nat} {o : Int32 × Hp} {x0 : Nat} {x1 : Int32} {x2 : Int32} {x3 : Int32} {x4 : Int32} {t0 : Int32} {h : Hp} (k : DyK n g h) (e : sX5_mayStand_70 F h x0 x1 x2 x3 x4 t0 = some o) : DyK n g o.2 := by
  unfold sX5_mayStand_70 at e
  replace e := br_s e
  rcases e with ⟨_, e⟩ | ⟨_, e⟩
  · exact dk_X5_mayStand_95 k e
  · replace e := br_s e
    rcases e with ⟨_, e⟩ | ⟨_, e⟩
    · replace e := cl_s e
      obtain ⟨r_3, _, e⟩ := e
      replace e := cl_s e
      obtain ⟨o_4, eo_4, e⟩ := e
      have ko_4 : DyK n g o_4.2 := dk_X5_isHit k eo_4
      replace e := br_s e
      rcases e with ⟨_, e⟩ | ⟨_, e⟩
      · exact dk_X5_mayStand_97 ko_4 e
      · exact dk_X5_mayStand_95 ko_4 e
    · exact dk_X5_mayStand_97 k e
theorem dk_X5_mayStand_69 {n : Nat} {g : Hp} {F : Nat} {o : Int32 × Hp} {x0 : Nat} {x1 : Int32} {x2 : Int32} {x3 : Int32} {x4 : Int32} {h : Hp} (k : DyK n g h) (e : sX5_mayStand_69 F h x0 x1 x2 x3 x4 = some o) : DyK n g o.2 := by
  unfold sX5_mayStand_69 at e
  exact dk_X5_mayStand_70 k e
theorem dk_X5_mayStand {n : Nat} {g : Hp} {F : Nat} {o : Int32 × Hp} {x0 : Nat} {h : Hp} (k : DyK n g h) (e : sX5_mayStand F h x0 = some o) : DyK n g o.2 := by
  unfold sX5_mayStand at e
  replace e := cl_s e
  obtain ⟨r_1, _, e⟩ := e
  replace e := nm_s e
  obtain ⟨v_2, wv_2, e⟩ := e
  replace e := nm_s e
  obtain ⟨v_3, wv_3, e⟩ := e
  replace e := cl_s e
  obtain ⟨r_4, _, e⟩ := e
  replace e := cl_s e
  obtain ⟨r_5, _, e⟩ := e
  replace e := (gd_s e).2
  replace e := nm_s e
  obtain ⟨v_7, wv_7, e⟩ := e
  replace e := cl_s e
  obtain ⟨r_8, _, e⟩ := e
  replace e := cl_s e
  obtain ⟨r_9, _, e⟩ := e
  replace e := (gd_s e).2
  replace e := nm_s e
  obtain ⟨v_11, wv_11, e⟩ := e
  replace e := cl_s e
  obtain ⟨r_12, _, e⟩ := e
  replace e := cl_s e
  obtain ⟨r_13, _, e⟩ := e
  replace e := (gd_s e).2
  replace e := br_s e
  rcases e with ⟨_, e⟩ | ⟨_, e⟩
  · exact dk_X5_mayStand_97 k e
  · replace e := cl_s e
    obtain ⟨r_16, _, e⟩ := e
    replace e := cl_s e
    obtain ⟨r_17, _, e⟩ := e
    replace e := (gd_s e).2
    replace e := br_s e
    rcases e with ⟨_, e⟩ | ⟨_, e⟩
    · exact dk_X5_mayStand_69 k e
    · replace e := br_s e
      rcases e with ⟨_, e⟩ | ⟨_, e⟩
      · exact dk_X5_mayStand_70 k e
      · exact dk_X5_mayStand_69 k e
theorem dk_X5_keepLawful_111 {n : Nat} {g : Hp} {F : Nat} {o : Hp} {x0 : Nat} {x2 : Int32} {x3 : Int32} {k_4 : Hp → Nat → Int32 → Int32 → Option (Hp)} (R_4 : ∀ {h : Hp} {y1 : Nat} {y2 : Int32} {y3 : Int32}, DyK n g h → k_4 h y1 y2 y3 = some o → DyK n g o) {h : Hp} (k : DyK n g h) (e : sX5_keepLawful_111 F k_4 h x0 x2 x3 = some o) : DyK n g o := by
  unfold sX5_keepLawful_111 at e
  replace e := nm_s e
  obtain ⟨v_1, wv_1, e⟩ := e
  exact R_4 k e
theorem dk_X5_keepLawful_108 {n : Nat} {g : Hp} {F : Nat} {o : Hp} {x0 : Nat} {x2 : Int32} {x3 : Int32} {t0 : Int32} {t1 : Nat} {k_4 : Hp → Nat → Int32 → Int32 → Option (Hp)} (R_4 : ∀ {h : Hp} {y1 : Nat} {y2 : Int32} {y3 : Int32}, DyK n g h → k_4 h y1 y2 y3 = some o → DyK n g o) {h : Hp} (k : DyK n g h) (e : sX5_keepLawful_108 F k_4 h x0 x2 x3 t0 t1 = some o) : DyK n g o := by
  unfold sX5_keepLawful_108 at e
  replace e := (gd_s e).2
  replace e := nm_s e
  obtain ⟨h_2, wh_2, e⟩ := e
  have kh_2 : DyK n g h_2 := by rw [wh_2]; exact dk_wI k
  exact dk_X5_keepLawful_111 R_4 kh_2 e
theorem dk_X5_keepLawful_103 {n : Nat} {g : Hp} {F : Nat} {o : Hp} {x0 : Nat} {x2 : Int32} {x3 : Int32} {t0 : Nat} {k_4 : Hp → Nat → Int32 → Int32 → Option (Hp)} (R_4 : ∀ {h : Hp} {y1 : Nat} {y2 : Int32} {y3 : Int32}, DyK n g h → k_4 h y1 y2 y3 = some o → DyK n g o) {h : Hp} (k : DyK n g h) (e : sX5_keepLawful_103 F k_4 h x0 x2 x3 t0 = some o) : DyK n g o := by
  unfold sX5_keepLawful_103 at e
  exact dk_X5_keepLawful_108 R_4 k e
theorem dk_X5_keepLawful_70 {n : Nat} {g : Hp} {F : Nat} {o : Hp} {x0 : Nat} {x2 : Int32} {x3 : Int32} {x4 : Int32} {x5 : Int32} {k_4 : Hp → Nat → Int32 → Int32 → Option (Hp)} (R_4 : ∀ {h : Hp} {y1 : Nat} {y2 : Int32} {y3 : Int32}, DyK n g h → k_4 h y1 y2 y3 = some o → DyK n g o) {h : Hp} (k : DyK n g h) (e : sX5_keepLawful_70 F k_4 h x0 x2 x3 x4 x5 = some o) : DyK n g o := by
  unfold sX5_keepLawful_70 at e
  replace e := br_s e
  rcases e with ⟨_, e⟩ | ⟨_, e⟩
  · exact dk_X5_keepLawful_111 R_4 k e
  · replace e := cl_s e
    obtain ⟨r_2, _, e⟩ := e
    replace e := (gd_s e).2
    replace e := nm_s e
    obtain ⟨h_4, wh_4, e⟩ := e
    have kh_4 : DyK n g h_4 := by rw [wh_4]; exact dk_wI k
    replace e := nm_s e
    obtain ⟨v_5, wv_5, e⟩ := e
    replace e := br_s e
    rcases e with ⟨_, e⟩ | ⟨_, e⟩
    · replace e := cl_s e
      obtain ⟨o_7, eo_7, e⟩ := e
      have ko_7 : DyK n g o_7.2 := dk_X5_takenBy kh_4 eo_7
      replace e := br_s e
      rcases e with ⟨_, e⟩ | ⟨_, e⟩
      · exact dk_X5_keepLawful_108 R_4 ko_7 e
      · exact dk_X5_keepLawful_103 R_4 ko_7 e
    · exact dk_X5_keepLawful_103 R_4 kh_4 e
theorem dk_X5_keepLawful_4 {n : Nat} {g : Hp} {F : Nat} {o : Hp} : ∀ (f : Nat) {h : Hp} {x0 : Nat} {x2 : Int32} {x3 : Int32}, DyK n g h → sX5_keepLawful_4 F f h x0 x2 x3 = some o → DyK n g o := by
  intro f
  induction f with
  | zero => intro h x0 x2 x3 _ e; exact absurd e (by rw [sX5_keepLawful_4]; exact fun z => nomatch z)
  | succ f ih =>
    intro h x0 x2 x3 k e
    rw [sX5_keepLawful_4] at e
    replace e := br_s e
    rcases e with ⟨_, e⟩ | ⟨_, e⟩
    · replace e := nm_s e
      obtain ⟨h_2, wh_2, e⟩ := e
      have kh_2 : DyK n g h_2 := by rw [wh_2]; exact dk_wI k
      rw [← Option.some.inj e]; exact kh_2
    · replace e := cl_s e
      obtain ⟨r_3, _, e⟩ := e
      replace e := (gd_s e).2
      replace e := nm_s e
      obtain ⟨v_5, wv_5, e⟩ := e
      replace e := cl_s e
      obtain ⟨o_6, eo_6, e⟩ := e
      have ko_6 : DyK n g o_6.2 := dk_X5_isSafe k eo_6
      replace e := br_s e
      rcases e with ⟨_, e⟩ | ⟨_, e⟩
      · replace e := cl_s e
        obtain ⟨r_8, _, e⟩ := e
        replace e := cl_s e
        obtain ⟨r_9, _, e⟩ := e
        replace e := cl_s e
        obtain ⟨o_10, eo_10, e⟩ := e
        have ko_10 : DyK n g o_10 := dk_X3_copyFrom ko_6 eo_10
        replace e := cl_s e
        obtain ⟨r_11, _, e⟩ := e
        replace e := cl_s e
        obtain ⟨o_12, eo_12, e⟩ := e
        have ko_12 : DyK n g o_12 := dk_X5_shift ko_10 eo_12
        replace e := cl_s e
        obtain ⟨r_13, _, e⟩ := e
        replace e := cl_s e
        obtain ⟨o_14, eo_14, e⟩ := e
        have ko_14 : DyK n g o_14 := dk_X5_blast ko_12 eo_14
        replace e := cl_s e
        obtain ⟨o_15, eo_15, e⟩ := e
        have ko_15 : DyK n g o_15.2 := dk_X5_mayStand ko_14 eo_15
        exact dk_X5_keepLawful_70 (fun k e => ih k e) ko_15 e
      · exact dk_X5_keepLawful_70 (fun k e => ih k e) ko_6 e
theorem dk_X5_keepLawful {n : Nat} {g : Hp} {F : Nat} {o : Hp} {x0 : Nat} {x1 : Int32} {h : Hp} (k : DyK n g h) (e : sX5_keepLawful F h x0 x1 = some o) : DyK n g o := by
  unfold sX5_keepLawful at e
  exact dk_X5_keepLawful_4 F k e
theorem dk_X5_collect_178 {n : Nat} {g : Hp} {F : Nat} {o : Int32 × Hp} : ∀ (f : Nat) {h : Hp} {x3 : Int32} {x6 : Int32} {x7 : Int32}, DyK n g h → sX5_collect_178 F f h (n + 30) x3 x6 x7 = some o → DyK n g o.2 := by
  intro f
  induction f with
  | zero => intro h x3 x6 x7 _ e; exact absurd e (by rw [sX5_collect_178]; exact fun z => nomatch z)
  | succ f ih =>
    intro h x3 x6 x7 k e
    rw [sX5_collect_178] at e
    replace e := br_s e
    rcases e with ⟨_, e⟩ | ⟨_, e⟩
    · exact dk_X5_collect_217 k e
    · replace e := br_s e
      rcases e with ⟨_, e⟩ | ⟨_, e⟩
      · exact dk_X5_collect_217 k e
      · replace e := nm_s e
        obtain ⟨v_3, wv_3, e⟩ := e
        replace e := cl_s e
        obtain ⟨o_4, eo_4, e⟩ := e
        have ko_4 : DyK n g o_4 := dk_X5_addDrops k eo_4
        replace e := cl_s e
        obtain ⟨o_5, eo_5, e⟩ := e
        have ko_5 : DyK n g o_5 := dk_X5_keepLawful ko_4 eo_5
        replace e := nm_s e
        obtain ⟨v_6, wv_6, e⟩ := e
        exact ih ko_5 e
theorem dk_X5_collect_173 {n : Nat} {g : Hp} {F : Nat} {o : Int32 × Hp} {x3 : Int32} {t0 : Int32} {h : Hp} (k : DyK n g h) (e : sX5_collect_173 F h (n + 30) x3 t0 = some o) : DyK n g o.2 := by
  unfold sX5_collect_173 at e
  exact dk_X5_collect_178 F k e
theorem dk_X5_collect_151 {n : Nat} {g : Hp} {F : Nat} {o : Int32 × Hp} {x3 : Int32} {h : Hp} (k : DyK n g h) (e : sX5_collect_151 F h (n + 30) x3 = some o) : DyK n g o.2 := by
  unfold sX5_collect_151 at e
  replace e := cl_s e
  obtain ⟨r_1, _, e⟩ := e
  replace e := cl_s e
  obtain ⟨o_2, eo_2, e⟩ := e
  have ko_2 : DyK n g o_2.2 := dk_X1_has k eo_2
  replace e := br_s e
  rcases e with ⟨_, e⟩ | ⟨_, e⟩
  · exact dk_X5_collect_173 ko_2 e
  · replace e := cl_s e
    obtain ⟨r_4, _, e⟩ := e
    exact dk_X5_collect_173 ko_2 e
theorem dk_X5_addSteps_170 {n : Nat} {g : Hp} {F : Nat} {o : Hp} {x0 : Nat} {x1 : Int32} {x2 : Int32} {x3 : Int32} {x4 : Int32} {x5 : Int32} {k_45 : Hp → Nat → Int32 → Int32 → Int32 → Int32 → Int32 → Option (Hp)} (R_45 : ∀ {h : Hp} {y1 : Nat} {y2 : Int32} {y3 : Int32} {y4 : Int32} {y5 : Int32} {y6 : Int32}, DyK n g h → k_45 h y1 y2 y3 y4 y5 y6 = some o → DyK n g o) {h : Hp} (k : DyK n g h) (e : sX5_addSteps_170 F k_45 h x0 x1 x2 x3 x4 x5 = some o) : DyK n g o := by
  unfold sX5_addSteps_170 at e
  replace e := nm_s e
  obtain ⟨v_1, wv_1, e⟩ := e
  exact R_45 k e
theorem dk_X5_leads_62 {n : Nat} {g : Hp} {o : Int32 × Hp} {h : Hp} (k : DyK n g h) (e : sX5_leads_62 h = some o) : DyK n g o.2 := by
  unfold sX5_leads_62 at e
  rw [← Option.some.inj e]; exact k
theorem dk_X5_leads_138 {n : Nat} {g : Hp} {o : Int32 × Hp} {t0 : Int32} {h : Hp} (k : DyK n g h) (e : sX5_leads_138 h t0 = some o) : DyK n g o.2 := by
  unfold sX5_leads_138 at e
  replace e := (gd_s e).2
  rw [← Option.some.inj e]; exact k
theorem dk_X5_leads_129 {n : Nat} {g : Hp} {o : Int32 × Hp} {t0 : Int32} {t1 : Int32} {h : Hp} (k : DyK n g h) (e : sX5_leads_129 h t0 t1 = some o) : DyK n g o.2 := by
  unfold sX5_leads_129 at e
  replace e := br_s e
  rcases e with ⟨_, e⟩ | ⟨_, e⟩
  · exact dk_X5_leads_138 k e
  · exact dk_X5_leads_138 k e
theorem dk_X5_leads_115 {n : Nat} {g : Hp} {o : Int32 × Hp} {x4 : Int32} {t0 : Int32} {h : Hp} (k : DyK n g h) (e : sX5_leads_115 h x4 t0 = some o) : DyK n g o.2 := by
  unfold sX5_leads_115 at e
  replace e := br_s e
  rcases e with ⟨_, e⟩ | ⟨_, e⟩
  · exact dk_X5_leads_129 k e
  · exact dk_X5_leads_129 k e
theorem dk_X5_leads_94 {n : Nat} {g : Hp} {o : Int32 × Hp} {x1 : Nat} {x3 : Int32} {x4 : Int32} {x5 : Int64} {h : Hp} (k : DyK n g h) (e : sX5_leads_94 h x1 x3 x4 x5 = some o) : DyK n g o.2 := by
  unfold sX5_leads_94 at e
  replace e := cl_s e
  obtain ⟨r_1, _, e⟩ := e
  replace e := (gd_s e).2
  replace e := br_s e
  rcases e with ⟨_, e⟩ | ⟨_, e⟩
  · exact dk_X5_leads_115 k e
  · exact dk_X5_leads_115 k e
theorem dk_X5_leads {n : Nat} {g : Hp} {o : Int32 × Hp} {x0 : Nat} {x1 : Nat} {x2 : Int32} {x3 : Int32} {h : Hp} (k : DyK n g h) (e : sX5_leads h x0 x1 x2 x3 = some o) : DyK n g o.2 := by
  unfold sX5_leads at e
  replace e := cl_s e
  obtain ⟨r_1, _, e⟩ := e
  replace e := cl_s e
  obtain ⟨r_2, _, e⟩ := e
  replace e := (gd_s e).2
  replace e := nm_s e
  obtain ⟨v_4, wv_4, e⟩ := e
  replace e := cl_s e
  obtain ⟨r_5, _, e⟩ := e
  replace e := cl_s e
  obtain ⟨r_6, _, e⟩ := e
  replace e := (gd_s e).2
  replace e := nm_s e
  obtain ⟨v_8, wv_8, e⟩ := e
  replace e := cl_s e
  obtain ⟨r_9, _, e⟩ := e
  replace e := (gd_s e).2
  replace e := br_s e
  rcases e with ⟨_, e⟩ | ⟨_, e⟩
  · replace e := cl_s e
    obtain ⟨r_12, _, e⟩ := e
    replace e := cl_s e
    obtain ⟨o_13, eo_13, e⟩ := e
    have ko_13 : DyK n g o_13.2 := dk_X3_occupied k eo_13
    replace e := cl_s e
    obtain ⟨o_14, eo_14, e⟩ := e
    have ko_14 : DyK n g o_14.2 := dk_X10_isOpen ko_13 eo_14
    replace e := br_s e
    rcases e with ⟨_, e⟩ | ⟨_, e⟩
    · exact dk_X5_leads_62 ko_14 e
    · replace e := br_s e
      rcases e with ⟨_, e⟩ | ⟨_, e⟩
      · exact dk_X5_leads_94 ko_14 e
      · replace e := br_s e
        rcases e with ⟨_, e⟩ | ⟨_, e⟩
        · replace e := br_s e
          rcases e with ⟨_, e⟩ | ⟨_, e⟩
          · exact dk_X5_leads_94 ko_14 e
          · rw [← Option.some.inj e]; exact ko_14
        · exact dk_X5_leads_94 ko_14 e
  · exact dk_X5_leads_62 k e
theorem dk_X5_moveAlong_181 {n : Nat} {g : Hp} {o : Int32 × Hp} {t0 : Int32} {h : Hp} (k : DyK n g h) (e : sX5_moveAlong_181 h t0 = some o) : DyK n g o.2 := by
  unfold sX5_moveAlong_181 at e
  rw [← Option.some.inj e]; exact k
theorem dk_X5_moveAlong_179 {n : Nat} {g : Hp} {o : Int32 × Hp} {x9 : Int32} {h : Hp} (k : DyK n g h) (e : sX5_moveAlong_179 h x9 = some o) : DyK n g o.2 := by
  unfold sX5_moveAlong_179 at e
  exact dk_X5_moveAlong_181 k e
theorem dk_X5_moveAlong_154 {n : Nat} {g : Hp} {o : Int32 × Hp} {x5 : Int32} {x6 : Int32} {x9 : Int32} {h : Hp} (k : DyK n g h) (e : sX5_moveAlong_154 h x5 x6 x9 = some o) : DyK n g o.2 := by
  unfold sX5_moveAlong_154 at e
  replace e := br_s e
  rcases e with ⟨_, e⟩ | ⟨_, e⟩
  · exact dk_X5_moveAlong_179 k e
  · replace e := br_s e
    rcases e with ⟨_, e⟩ | ⟨_, e⟩
    · exact dk_X5_moveAlong_179 k e
    · exact dk_X5_moveAlong_181 k e
theorem dk_X5_moveAlong_129 {n : Nat} {g : Hp} {o : Int32 × Hp} {x5 : Int32} {x6 : Int32} {x8 : Int32} {t0 : Int32} {t1 : Int32} {t2 : Int32} {t3 : Int32} {h : Hp} (k : DyK n g h) (e : sX5_moveAlong_129 h x5 x6 x8 t0 t1 t2 t3 = some o) : DyK n g o.2 := by
  unfold sX5_moveAlong_129 at e
  replace e := cl_s e
  obtain ⟨o_1, eo_1, e⟩ := e
  have ko_1 : DyK n g o_1.2 := dk_X5_plainMove k eo_1
  replace e := br_s e
  rcases e with ⟨_, e⟩ | ⟨_, e⟩
  · exact dk_X5_moveAlong_154 ko_1 e
  · replace e := nm_s e
    obtain ⟨v_3, wv_3, e⟩ := e
    exact dk_X5_moveAlong_154 ko_1 e
theorem dk_X5_moveAlong_111 {n : Nat} {g : Hp} {o : Int32 × Hp} {x2 : Int32} {x3 : Int32} {x4 : Int32} {x5 : Int32} {x6 : Int32} {x7 : Int32} {t0 : Int32} {h : Hp} (k : DyK n g h) (e : sX5_moveAlong_111 h x2 x3 x4 x5 x6 x7 t0 = some o) : DyK n g o.2 := by
  unfold sX5_moveAlong_111 at e
  replace e := br_s e
  rcases e with ⟨_, e⟩ | ⟨_, e⟩
  · exact dk_X5_moveAlong_129 k e
  · exact dk_X5_moveAlong_129 k e
theorem dk_X5_moveAlong_75 {n : Nat} {g : Hp} {o : Int32 × Hp} {x0 : Nat} {x2 : Int32} {x3 : Int32} {x4 : Int32} {x5 : Int32} {x6 : Int32} {t0 : Int32} {h : Hp} (k : DyK n g h) (e : sX5_moveAlong_75 h x0 x2 x3 x4 x5 x6 t0 = some o) : DyK n g o.2 := by
  unfold sX5_moveAlong_75 at e
  replace e := br_s e
  rcases e with ⟨_, e⟩ | ⟨_, e⟩
  · replace e := cl_s e
    obtain ⟨r_2, _, e⟩ := e
    replace e := cl_s e
    obtain ⟨r_3, _, e⟩ := e
    replace e := (gd_s e).2
    exact dk_X5_moveAlong_111 k e
  · replace e := cl_s e
    obtain ⟨r_5, _, e⟩ := e
    replace e := cl_s e
    obtain ⟨r_6, _, e⟩ := e
    replace e := cl_s e
    obtain ⟨r_7, _, e⟩ := e
    replace e := cl_s e
    obtain ⟨o_8, eo_8, e⟩ := e
    have ko_8 : DyK n g o_8.2 := dk_X3_passSquare k eo_8
    replace e := (gd_s e).2
    exact dk_X5_moveAlong_111 ko_8 e
theorem dk_X5_moveAlong_74 {n : Nat} {g : Hp} {o : Int32 × Hp} {x0 : Nat} {x2 : Int32} {x3 : Int32} {x4 : Int32} {x5 : Int32} {x6 : Int32} {h : Hp} (k : DyK n g h) (e : sX5_moveAlong_74 h x0 x2 x3 x4 x5 x6 = some o) : DyK n g o.2 := by
  unfold sX5_moveAlong_74 at e
  exact dk_X5_moveAlong_75 k e
theorem dk_X5_moveAlong {n : Nat} {g : Hp} {o : Int32 × Hp} {x0 : Nat} {x1 : Int32} {x2 : Int32} {x3 : Int32} {h : Hp} (k : DyK n g h) (e : sX5_moveAlong h x0 x1 x2 x3 = some o) : DyK n g o.2 := by
  unfold sX5_moveAlong at e
  replace e := cl_s e
  obtain ⟨r_1, _, e⟩ := e
  replace e := cl_s e
  obtain ⟨r_2, _, e⟩ := e
  replace e := (gd_s e).2
  replace e := nm_s e
  obtain ⟨v_4, wv_4, e⟩ := e
  replace e := cl_s e
  obtain ⟨r_5, _, e⟩ := e
  replace e := cl_s e
  obtain ⟨r_6, _, e⟩ := e
  replace e := (gd_s e).2
  replace e := nm_s e
  obtain ⟨v_8, wv_8, e⟩ := e
  replace e := cl_s e
  obtain ⟨r_9, _, e⟩ := e
  replace e := cl_s e
  obtain ⟨r_10, _, e⟩ := e
  replace e := (gd_s e).2
  replace e := nm_s e
  obtain ⟨v_12, wv_12, e⟩ := e
  replace e := br_s e
  rcases e with ⟨_, e⟩ | ⟨_, e⟩
  · exact dk_X5_moveAlong_74 k e
  · replace e := cl_s e
    obtain ⟨r_14, _, e⟩ := e
    replace e := br_s e
    rcases e with ⟨_, e⟩ | ⟨_, e⟩
    · exact dk_X5_moveAlong_74 k e
    · exact dk_X5_moveAlong_75 k e
theorem dk_X5_choices_67 {n : Nat} {g : Hp} {o : Int32 × Hp} {t0 : Int32} {h : Hp} (k : DyK n g h) (e : sX5_choices_67 h t0 = some o) : DyK n g o.2 := by
  unfold sX5_choices_67 at e
  rw [← Option.some.inj e]; exact k
theorem dk_X5_choices_66 {n : Nat} {g : Hp} {o : Int32 × Hp} {h : Hp} (k : DyK n g h) (e : sX5_choices_66 h = some o) : DyK n g o.2 := by
  unfold sX5_choices_66 at e
  exact dk_X5_choices_67 k e
theorem dk_X5_choices_25 {n : Nat} {g : Hp} {o : Int32 × Hp} {x0 : Nat} {x1 : Int32} {t0 : Int32} {h : Hp} (k : DyK n g h) (e : sX5_choices_25 h x0 x1 t0 = some o) : DyK n g o.2 := by
  unfold sX5_choices_25 at e
  replace e := br_s e
  rcases e with ⟨_, e⟩ | ⟨_, e⟩
  · replace e := cl_s e
    obtain ⟨r_2, _, e⟩ := e
    replace e := cl_s e
    obtain ⟨o_3, eo_3, e⟩ := e
    have ko_3 : DyK n g o_3.2 := dk_X5_comeTo k eo_3
    replace e := cl_s e
    obtain ⟨r_4, _, e⟩ := e
    replace e := cl_s e
    obtain ⟨o_5, eo_5, e⟩ := e
    have ko_5 : DyK n g o_5.2 := dk_X1_isLast ko_3 eo_5
    replace e := br_s e
    rcases e with ⟨_, e⟩ | ⟨_, e⟩
    · exact dk_X5_choices_66 ko_5 e
    · replace e := cl_s e
      obtain ⟨r_7, _, e⟩ := e
      replace e := cl_s e
      obtain ⟨r_8, _, e⟩ := e
      replace e := cl_s e
      obtain ⟨o_9, eo_9, e⟩ := e
      have ko_9 : DyK n g o_9.2 := dk_X5_manOf ko_5 eo_9
      replace e := (gd_s e).2
      exact dk_X5_choices_67 ko_9 e
  · exact dk_X5_choices_66 k e
theorem dk_X5_choices_24 {n : Nat} {g : Hp} {o : Int32 × Hp} {x0 : Nat} {x1 : Int32} {h : Hp} (k : DyK n g h) (e : sX5_choices_24 h x0 x1 = some o) : DyK n g o.2 := by
  unfold sX5_choices_24 at e
  exact dk_X5_choices_25 k e
theorem dk_X5_choices {n : Nat} {g : Hp} {o : Int32 × Hp} {x0 : Nat} {x1 : Int32} {h : Hp} (k : DyK n g h) (e : sX5_choices h x0 x1 = some o) : DyK n g o.2 := by
  unfold sX5_choices at e
  replace e := cl_s e
  obtain ⟨r_1, _, e⟩ := e
  replace e := cl_s e
  obtain ⟨o_2, eo_2, e⟩ := e
  have ko_2 : DyK n g o_2.2 := dk_X1_has k eo_2
  replace e := br_s e
  rcases e with ⟨_, e⟩ | ⟨_, e⟩
  · exact dk_X5_choices_24 ko_2 e
  · replace e := cl_s e
    obtain ⟨o_4, eo_4, e⟩ := e
    have ko_4 : DyK n g o_4.2 := dk_X5_takenBy ko_2 eo_4
    replace e := br_s e
    rcases e with ⟨_, e⟩ | ⟨_, e⟩
    · exact dk_X5_choices_24 ko_4 e
    · exact dk_X5_choices_25 ko_4 e
theorem dk_X5_becoming {n : Nat} {g : Hp} {o : Int32 × Hp} {x0 : Int32} {x1 : Int32} {h : Hp} (k : DyK n g h) (e : sX5_becoming h x0 x1 = some o) : DyK n g o.2 := by
  unfold sX5_becoming at e
  rw [← Option.some.inj e]; exact k
theorem dk_X5_addSteps_120 {n : Nat} {g : Hp} {F : Nat} {o : Hp} {k_45 : Hp → Nat → Int32 → Int32 → Int32 → Int32 → Int32 → Option (Hp)} (R_45 : ∀ {h : Hp} {y1 : Nat} {y2 : Int32} {y3 : Int32} {y4 : Int32} {y5 : Int32} {y6 : Int32}, DyK n g h → k_45 h y1 y2 y3 y4 y5 y6 = some o → DyK n g o) : ∀ (f : Nat) {h : Hp} {x0 : Nat} {x1 : Int32} {x2 : Int32} {x3 : Int32} {x4 : Int32} {x5 : Int32} {x7 : Int32} {x8 : Int32} {x9 : Int32}, DyK n g h → sX5_addSteps_120 F k_45 f h x0 x1 x2 x3 x4 x5 x7 x8 x9 = some o → DyK n g o := by
  intro f
  induction f with
  | zero => intro h x0 x1 x2 x3 x4 x5 x7 x8 x9 _ e; exact absurd e (by rw [sX5_addSteps_120]; exact fun z => nomatch z)
  | succ f ih =>
    intro h x0 x1 x2 x3 x4 x5 x7 x8 x9 k e
    rw [sX5_addSteps_120] at e
    replace e := br_s e
    rcases e with ⟨_, e⟩ | ⟨_, e⟩
    · replace e := br_s e
      rcases e with ⟨_, e⟩ | ⟨_, e⟩
      · replace e := cl_s e
        obtain ⟨o_3, eo_3, e⟩ := e
        have ko_3 : DyK n g o_3 := dk_X5_addMove k eo_3
        exact dk_X5_addSteps_170 R_45 ko_3 e
      · exact dk_X5_addSteps_170 R_45 k e
    · replace e := cl_s e
      obtain ⟨r_4, _, e⟩ := e
      replace e := cl_s e
      obtain ⟨r_5, _, e⟩ := e
      replace e := (gd_s e).2
      replace e := cl_s e
      obtain ⟨o_7, eo_7, e⟩ := e
      have ko_7 : DyK n g o_7.2 := dk_X5_becoming k eo_7
      replace e := cl_s e
      obtain ⟨o_8, eo_8, e⟩ := e
      have ko_8 : DyK n g o_8 := dk_X5_addMove ko_7 eo_8
      replace e := nm_s e
      obtain ⟨v_9, wv_9, e⟩ := e
      exact ih ko_8 e
theorem dk_X5_addSteps_45 {n : Nat} {g : Hp} {F : Nat} {o : Hp} : ∀ (f : Nat) {h : Hp} {x0 : Nat} {x1 : Int32} {x2 : Int32} {x3 : Int32} {x4 : Int32} {x5 : Int32}, DyK n g h → sX5_addSteps_45 F f h x0 x1 x2 x3 x4 x5 = some o → DyK n g o := by
  intro f
  induction f with
  | zero => intro h x0 x1 x2 x3 x4 x5 _ e; exact absurd e (by rw [sX5_addSteps_45]; exact fun z => nomatch z)
  | succ f ih =>
    intro h x0 x1 x2 x3 x4 x5 k e
    rw [sX5_addSteps_45] at e
    replace e := br_s e
    rcases e with ⟨_, e⟩ | ⟨_, e⟩
    · rw [← Option.some.inj e]; exact k
    · replace e := cl_s e
      obtain ⟨r_2, _, e⟩ := e
      replace e := cl_s e
      obtain ⟨r_3, _, e⟩ := e
      replace e := (gd_s e).2
      replace e := nm_s e
      obtain ⟨v_5, wv_5, e⟩ := e
      replace e := br_s e
      rcases e with ⟨_, e⟩ | ⟨_, e⟩
      · exact dk_X5_addSteps_170 (fun k e => ih k e) k e
      · replace e := cl_s e
        obtain ⟨r_7, _, e⟩ := e
        replace e := cl_s e
        obtain ⟨r_8, _, e⟩ := e
        replace e := cl_s e
        obtain ⟨o_9, eo_9, e⟩ := e
        have ko_9 : DyK n g o_9.2 := dk_X5_leads k eo_9
        replace e := br_s e
        rcases e with ⟨_, e⟩ | ⟨_, e⟩
        · exact dk_X5_addSteps_170 (fun k e => ih k e) ko_9 e
        · replace e := cl_s e
          obtain ⟨o_11, eo_11, e⟩ := e
          have ko_11 : DyK n g o_11.2 := dk_X5_moveAlong ko_9 eo_11
          replace e := cl_s e
          obtain ⟨o_12, eo_12, e⟩ := e
          have ko_12 : DyK n g o_12.2 := dk_X5_choices ko_11 eo_12
          exact dk_X5_addSteps_120 (fun k e => ih k e) F ko_12 e
theorem dk_X5_addSteps {n : Nat} {g : Hp} {F : Nat} {o : Hp} {x0 : Nat} {x1 : Int32} {h : Hp} (k : DyK n g h) (e : sX5_addSteps F h x0 x1 = some o) : DyK n g o := by
  unfold sX5_addSteps at e
  replace e := cl_s e
  obtain ⟨r_1, _, e⟩ := e
  replace e := cl_s e
  obtain ⟨r_2, _, e⟩ := e
  replace e := (gd_s e).2
  replace e := nm_s e
  obtain ⟨v_4, wv_4, e⟩ := e
  replace e := cl_s e
  obtain ⟨r_5, _, e⟩ := e
  replace e := cl_s e
  obtain ⟨r_6, _, e⟩ := e
  replace e := cl_s e
  obtain ⟨o_7, eo_7, e⟩ := e
  have ko_7 : DyK n g o_7.2 := dk_X10_cell k eo_7
  replace e := (gd_s e).2
  replace e := nm_s e
  obtain ⟨v_9, wv_9, e⟩ := e
  replace e := cl_s e
  obtain ⟨r_10, _, e⟩ := e
  replace e := cl_s e
  obtain ⟨r_11, _, e⟩ := e
  replace e := cl_s e
  obtain ⟨o_12, eo_12, e⟩ := e
  have ko_12 : DyK n g o_12.2 := dk_X10_cell ko_7 eo_12
  replace e := (gd_s e).2
  replace e := nm_s e
  obtain ⟨v_14, wv_14, e⟩ := e
  exact dk_X5_addSteps_45 F ko_12 e
theorem dk_X5_collect_139 {n : Nat} {g : Hp} {F : Nat} {o : Int32 × Hp} {x3 : Int32} {x4 : Int64} {x6 : Int32} {x8 : Int32} {k_39 : Hp → Nat → Int32 → Int64 → Int32 → Option (Int32 × Hp)} (R_39 : ∀ {h : Hp} {y2 : Int32} {y3 : Int64} {y4 : Int32}, DyK n g h → k_39 h (n + 30) y2 y3 y4 = some o → DyK n g o.2) {h : Hp} (k : DyK n g h) (e : sX5_collect_139 F k_39 h (n + 30) x3 x4 x6 x8 = some o) : DyK n g o.2 := by
  unfold sX5_collect_139 at e
  replace e := cl_s e
  obtain ⟨o_1, eo_1, e⟩ := e
  have ko_1 : DyK n g o_1 := dk_X5_keepLawful k eo_1
  replace e := nm_s e
  obtain ⟨v_2, wv_2, e⟩ := e
  exact R_39 ko_1 e
theorem dk_X5_addCastling_73 {n : Nat} {g : Hp} {F : Nat} {o : Hp} {h : Hp} (k : DyK n g h) (e : sX5_addCastling_73 F h = some o) : DyK n g o := by
  unfold sX5_addCastling_73 at e
  rw [← Option.some.inj e]; exact k
theorem dk_X5_addCastling_225 {n : Nat} {g : Hp} {F : Nat} {o : Hp} {h : Hp} (k : DyK n g h) (e : sX5_addCastling_225 F h = some o) : DyK n g o := by
  unfold sX5_addCastling_225 at e
  rw [← Option.some.inj e]; exact k
theorem dk_X5_addCastling_152 {n : Nat} {g : Hp} {F : Nat} {o : Hp} : ∀ (f : Nat) {h : Hp} {x0 : Nat} {x3 : Int32} {x6 : Int32}, DyK n g h → sX5_addCastling_152 F f h x0 x3 x6 = some o → DyK n g o := by
  intro f
  induction f with
  | zero => intro h x0 x3 x6 _ e; exact absurd e (by rw [sX5_addCastling_152]; exact fun z => nomatch z)
  | succ f ih =>
    intro h x0 x3 x6 k e
    rw [sX5_addCastling_152] at e
    replace e := br_s e
    rcases e with ⟨_, e⟩ | ⟨_, e⟩
    · exact dk_X5_addCastling_225 k e
    · replace e := cl_s e
      obtain ⟨r_2, _, e⟩ := e
      replace e := (gd_s e).2
      replace e := cl_s e
      obtain ⟨o_4, eo_4, e⟩ := e
      have ko_4 : DyK n g o_4.2 := dk_X5_comeTo k eo_4
      replace e := cl_s e
      obtain ⟨r_5, _, e⟩ := e
      replace e := (gd_s e).2
      replace e := cl_s e
      obtain ⟨o_7, eo_7, e⟩ := e
      have ko_7 : DyK n g o_7.2 := dk_X5_comeTo ko_4 eo_7
      replace e := br_s e
      rcases e with ⟨_, e⟩ | ⟨_, e⟩
      · exact dk_X5_addCastling_225 ko_7 e
      · replace e := cl_s e
        obtain ⟨r_9, _, e⟩ := e
        replace e := (gd_s e).2
        replace e := nm_s e
        obtain ⟨v_11, wv_11, e⟩ := e
        replace e := cl_s e
        obtain ⟨r_12, _, e⟩ := e
        replace e := cl_s e
        obtain ⟨r_13, _, e⟩ := e
        replace e := (gd_s e).2
        replace e := (gd_s e).2
        replace e := nm_s e
        obtain ⟨h_16, wh_16, e⟩ := e
        have kh_16 : DyK n g h_16 := by rw [wh_16]; exact dk_wI ko_7
        replace e := cl_s e
        obtain ⟨r_17, _, e⟩ := e
        replace e := (gd_s e).2
        replace e := nm_s e
        obtain ⟨h_19, wh_19, e⟩ := e
        have kh_19 : DyK n g h_19 := by rw [wh_19]; exact dk_wI kh_16
        replace e := nm_s e
        obtain ⟨v_20, wv_20, e⟩ := e
        exact ih kh_19 e
theorem dk_X5_addCastling_122 {n : Nat} {g : Hp} {F : Nat} {o : Hp} {h : Hp} (k : DyK n g h) (e : sX5_addCastling_122 F h = some o) : DyK n g o := by
  unfold sX5_addCastling_122 at e
  rw [← Option.some.inj e]; exact k
theorem dk_X5_addCastling {n : Nat} {g : Hp} {F : Nat} {o : Hp} {x0 : Nat} {x1 : Int32} {x2 : Int32} {x3 : Int32} {h : Hp} (k : DyK n g h) (e : sX5_addCastling F h x0 x1 x2 x3 = some o) : DyK n g o := by
  unfold sX5_addCastling at e
  replace e := cl_s e
  obtain ⟨r_1, _, e⟩ := e
  replace e := nm_s e
  obtain ⟨v_2, wv_2, e⟩ := e
  replace e := cl_s e
  obtain ⟨r_3, _, e⟩ := e
  replace e := cl_s e
  obtain ⟨o_4, eo_4, e⟩ := e
  have ko_4 : DyK n g o_4.2 := dk_X5_nearest k eo_4
  replace e := br_s e
  rcases e with ⟨_, e⟩ | ⟨_, e⟩
  · exact dk_X5_addCastling_73 ko_4 e
  · replace e := br_s e
    rcases e with ⟨_, e⟩ | ⟨_, e⟩
    · exact dk_X5_addCastling_73 ko_4 e
    · replace e := cl_s e
      obtain ⟨r_7, _, e⟩ := e
      replace e := cl_s e
      obtain ⟨r_8, _, e⟩ := e
      replace e := cl_s e
      obtain ⟨r_9, _, e⟩ := e
      replace e := cl_s e
      obtain ⟨r_10, _, e⟩ := e
      replace e := (gd_s e).2
      replace e := br_s e
      rcases e with ⟨_, e⟩ | ⟨_, e⟩
      · exact dk_X5_addCastling_73 ko_4 e
      · replace e := cl_s e
        obtain ⟨r_13, _, e⟩ := e
        replace e := cl_s e
        obtain ⟨o_14, eo_14, e⟩ := e
        have ko_14 : DyK n g o_14.2 := dk_X5_isHit ko_4 eo_14
        replace e := br_s e
        rcases e with ⟨_, e⟩ | ⟨_, e⟩
        · replace e := cl_s e
          obtain ⟨r_16, _, e⟩ := e
          replace e := cl_s e
          obtain ⟨o_17, eo_17, e⟩ := e
          have ko_17 : DyK n g o_17.2 := dk_X5_isHit ko_14 eo_17
          replace e := br_s e
          rcases e with ⟨_, e⟩ | ⟨_, e⟩
          · replace e := cl_s e
            obtain ⟨r_19, _, e⟩ := e
            replace e := cl_s e
            obtain ⟨o_20, eo_20, e⟩ := e
            have ko_20 : DyK n g o_20.2 := dk_X5_isHit ko_17 eo_20
            replace e := br_s e
            rcases e with ⟨_, e⟩ | ⟨_, e⟩
            · replace e := cl_s e
              obtain ⟨r_22, _, e⟩ := e
              replace e := cl_s e
              obtain ⟨o_23, eo_23, e⟩ := e
              have ko_23 : DyK n g o_23.2 := dk_X5_plainMove ko_20 eo_23
              replace e := cl_s e
              obtain ⟨o_24, eo_24, e⟩ := e
              have ko_24 : DyK n g o_24 := dk_X5_addMove ko_23 eo_24
              replace e := nm_s e
              obtain ⟨v_25, wv_25, e⟩ := e
              exact dk_X5_addCastling_152 F ko_24 e
            · exact dk_X5_addCastling_122 ko_20 e
          · exact dk_X5_addCastling_122 ko_17 e
        · exact dk_X5_addCastling_122 ko_14 e
theorem dk_X5_collect_39 {n : Nat} {g : Hp} {F : Nat} {o : Int32 × Hp} : ∀ (f : Nat) {h : Hp} {x3 : Int32} {x4 : Int64} {x6 : Int32}, DyK n g h → sX5_collect_39 F f h (n + 30) x3 x4 x6 = some o → DyK n g o.2 := by
  intro f
  induction f with
  | zero => intro h x3 x4 x6 _ e; exact absurd e (by rw [sX5_collect_39]; exact fun z => nomatch z)
  | succ f ih =>
    intro h x3 x4 x6 k e
    rw [sX5_collect_39] at e
    replace e := br_s e
    rcases e with ⟨_, e⟩ | ⟨_, e⟩
    · exact dk_X5_collect_151 k e
    · replace e := br_s e
      rcases e with ⟨_, e⟩ | ⟨_, e⟩
      · exact dk_X5_collect_151 k e
      · replace e := br_s e
        rcases e with ⟨_, e⟩ | ⟨_, e⟩
        · exact dk_X5_collect_151 k e
        · replace e := cl_s e
          obtain ⟨o_4, eo_4, e⟩ := e
          have ko_4 : DyK n g o_4.2 := dk_X11_lowest k eo_4
          replace e := nm_s e
          obtain ⟨v_5, wv_5, e⟩ := e
          replace e := nm_s e
          obtain ⟨v_6, wv_6, e⟩ := e
          replace e := cl_s e
          obtain ⟨o_7, eo_7, e⟩ := e
          have ko_7 : DyK n g o_7 := dk_X5_addSteps ko_4 eo_7
          replace e := cl_s e
          obtain ⟨r_8, _, e⟩ := e
          replace e := cl_s e
          obtain ⟨r_9, _, e⟩ := e
          replace e := cl_s e
          obtain ⟨r_10, _, e⟩ := e
          replace e := (gd_s e).2
          replace e := br_s e
          rcases e with ⟨_, e⟩ | ⟨_, e⟩
          · replace e := cl_s e
            obtain ⟨r_13, _, e⟩ := e
            replace e := br_s e
            rcases e with ⟨_, e⟩ | ⟨_, e⟩
            · exact dk_X5_collect_139 (fun k e => ih k e) ko_7 e
            · replace e := cl_s e
              obtain ⟨o_15, eo_15, e⟩ := e
              have ko_15 : DyK n g o_15 := dk_X5_addCastling ko_7 eo_15
              replace e := cl_s e
              obtain ⟨o_16, eo_16, e⟩ := e
              have ko_16 : DyK n g o_16 := dk_X5_addCastling ko_15 eo_16
              exact dk_X5_collect_139 (fun k e => ih k e) ko_16 e
          · exact dk_X5_collect_139 (fun k e => ih k e) ko_7 e
theorem dk_X5_collect {n : Nat} {g : Hp} {F : Nat} {o : Int32 × Hp} {x1 : Nat} {x2 : Nat} {x3 : Int32} {h : Hp} (k : DyK n g h) (e : sX5_collect F h (n + 30) x1 x2 x3 = some o) : DyK n g o.2 := by
  unfold sX5_collect at e
  replace e := cl_s e
  obtain ⟨o_1, eo_1, e⟩ := e
  have ko_1 : DyK n g o_1 := dk_X5_begin k eo_1
  replace e := cl_s e
  obtain ⟨r_2, _, e⟩ := e
  replace e := cl_s e
  obtain ⟨o_3, eo_3, e⟩ := e
  have ko_3 : DyK n g o_3.2 := dk_X5_earlyEnd ko_1 eo_3
  replace e := br_s e
  rcases e with ⟨_, e⟩ | ⟨_, e⟩
  · replace e := cl_s e
    obtain ⟨r_5, _, e⟩ := e
    replace e := cl_s e
    obtain ⟨r_6, _, e⟩ := e
    replace e := cl_s e
    obtain ⟨r_7, _, e⟩ := e
    replace e := (gd_s e).2
    replace e := nm_s e
    obtain ⟨v_9, wv_9, e⟩ := e
    exact dk_X5_collect_39 F ko_3 e
  · rw [← Option.some.inj e]; exact ko_3
theorem dk_X5_mayCatch {n : Nat} {g : Hp} {F : Nat} {o : Int32 × Hp} {x1 : Nat} {h : Hp} (k : DyK n g h) (e : sX5_mayCatch F h (n + 30) x1 = some o) : DyK n g o.2 := by
  unfold sX5_mayCatch at e
  replace e := br_s e
  rcases e with ⟨_, e⟩ | ⟨_, e⟩
  · exact dk_X5_mayCatch_25 k e
  · replace e := cl_s e
    obtain ⟨r_2, _, e⟩ := e
    replace e := cl_s e
    obtain ⟨o_3, eo_3, e⟩ := e
    have ko_3 : DyK n g o_3.2 := dk_X5_collect k eo_3
    exact dk_X5_mayCatch_25 ko_3 e
theorem dk_X5_areAlike_155 {n : Nat} {g : Hp} {F : Nat} {o : Int32 × Hp} {h : Hp} (k : DyK n g h) (e : sX5_areAlike_155 F h = some o) : DyK n g o.2 := by
  unfold sX5_areAlike_155 at e
  exact dk_X5_areAlike_156 k e
theorem dk_X5_areAlike_89 {n : Nat} {g : Hp} {F : Nat} {o : Int32 × Hp} : ∀ (f : Nat) {h : Hp} {x1 : Nat} {x2 : Nat} {x3 : Int32}, DyK n g h → sX5_areAlike_89 F f h (n + 30) x1 x2 x3 = some o → DyK n g o.2 := by
  intro f
  induction f with
  | zero => intro h x1 x2 x3 _ e; exact absurd e (by rw [sX5_areAlike_89]; exact fun z => nomatch z)
  | succ f ih =>
    intro h x1 x2 x3 k e
    rw [sX5_areAlike_89] at e
    replace e := cl_s e
    obtain ⟨r_1, _, e⟩ := e
    replace e := br_s e
    rcases e with ⟨_, e⟩ | ⟨_, e⟩
    · replace e := br_s e
      rcases e with ⟨_, e⟩ | ⟨_, e⟩
      · exact dk_X5_areAlike_151 k e
      · replace e := cl_s e
        obtain ⟨o_4, eo_4, e⟩ := e
        have ko_4 : DyK n g o_4.2 := dk_X5_mayCatch k eo_4
        replace e := br_s e
        rcases e with ⟨_, e⟩ | ⟨_, e⟩
        · replace e := cl_s e
          obtain ⟨o_6, eo_6, e⟩ := e
          have ko_6 : DyK n g o_6.2 := dk_X5_mayCatch ko_4 eo_6
          replace e := br_s e
          rcases e with ⟨_, e⟩ | ⟨_, e⟩
          · exact dk_X5_areAlike_151 ko_6 e
          · exact dk_X5_areAlike_155 ko_6 e
        · exact dk_X5_areAlike_155 ko_4 e
    · replace e := cl_s e
      obtain ⟨r_8, _, e⟩ := e
      replace e := (gd_s e).2
      replace e := cl_s e
      obtain ⟨r_10, _, e⟩ := e
      replace e := (gd_s e).2
      replace e := br_s e
      rcases e with ⟨_, e⟩ | ⟨_, e⟩
      · replace e := nm_s e
        obtain ⟨v_13, wv_13, e⟩ := e
        exact ih k e
      · rw [← Option.some.inj e]; exact k
theorem dk_X5_areAlike_79 {n : Nat} {g : Hp} {F : Nat} {o : Int32 × Hp} {h : Hp} (k : DyK n g h) (e : sX5_areAlike_79 F h = some o) : DyK n g o.2 := by
  unfold sX5_areAlike_79 at e
  rw [← Option.some.inj e]; exact k
theorem dk_X5_areAlike_27 {n : Nat} {g : Hp} {F : Nat} {o : Int32 × Hp} : ∀ (f : Nat) {h : Hp} {x1 : Nat} {x2 : Nat} {x3 : Int32}, DyK n g h → sX5_areAlike_27 F f h (n + 30) x1 x2 x3 = some o → DyK n g o.2 := by
  intro f
  induction f with
  | zero => intro h x1 x2 x3 _ e; exact absurd e (by rw [sX5_areAlike_27]; exact fun z => nomatch z)
  | succ f ih =>
    intro h x1 x2 x3 k e
    rw [sX5_areAlike_27] at e
    replace e := br_s e
    rcases e with ⟨_, e⟩ | ⟨_, e⟩
    · exact dk_X5_areAlike_89 F k e
    · replace e := cl_s e
      obtain ⟨r_2, _, e⟩ := e
      replace e := (gd_s e).2
      replace e := cl_s e
      obtain ⟨r_4, _, e⟩ := e
      replace e := (gd_s e).2
      replace e := br_s e
      rcases e with ⟨_, e⟩ | ⟨_, e⟩
      · replace e := cl_s e
        obtain ⟨r_7, _, e⟩ := e
        replace e := (gd_s e).2
        replace e := cl_s e
        obtain ⟨r_9, _, e⟩ := e
        replace e := (gd_s e).2
        replace e := br_s e
        rcases e with ⟨_, e⟩ | ⟨_, e⟩
        · replace e := cl_s e
          obtain ⟨r_12, _, e⟩ := e
          replace e := (gd_s e).2
          replace e := cl_s e
          obtain ⟨r_14, _, e⟩ := e
          replace e := (gd_s e).2
          replace e := br_s e
          rcases e with ⟨_, e⟩ | ⟨_, e⟩
          · replace e := nm_s e
            obtain ⟨v_17, wv_17, e⟩ := e
            exact ih k e
          · exact dk_X5_areAlike_79 k e
        · exact dk_X5_areAlike_79 k e
      · exact dk_X5_areAlike_79 k e
theorem dk_X5_areAlike_23 {n : Nat} {g : Hp} {F : Nat} {o : Int32 × Hp} {h : Hp} (k : DyK n g h) (e : sX5_areAlike_23 F h = some o) : DyK n g o.2 := by
  unfold sX5_areAlike_23 at e
  rw [← Option.some.inj e]; exact k
theorem dk_X5_areAlike {n : Nat} {g : Hp} {F : Nat} {o : Int32 × Hp} {x1 : Nat} {x2 : Nat} {h : Hp} (k : DyK n g h) (e : sX5_areAlike F h (n + 30) x1 x2 = some o) : DyK n g o.2 := by
  unfold sX5_areAlike at e
  replace e := br_s e
  rcases e with ⟨_, e⟩ | ⟨_, e⟩
  · replace e := br_s e
    rcases e with ⟨_, e⟩ | ⟨_, e⟩
    · exact dk_X5_areAlike_27 F k e
    · exact dk_X5_areAlike_23 k e
  · exact dk_X5_areAlike_23 k e
theorem dk_X11_same {n : Nat} {g : Hp} {F : Nat} {o : Int32 × Hp} {x1 : Int32} {x2 : Int32} {h : Hp} (k : DyK n g h) (e : sX11_same F h n x1 x2 = some o) : DyK n g o.2 := by
  unfold sX11_same at e
  replace e := cl_s e
  obtain ⟨o_1, eo_1, e⟩ := e
  have ko_1 : DyK n g o_1.2 := dk_X11_isPlace k eo_1
  replace e := br_s e
  rcases e with ⟨_, e⟩ | ⟨_, e⟩
  · exact dk_X11_same_42 ko_1 e
  · replace e := cl_s e
    obtain ⟨o_3, eo_3, e⟩ := e
    have ko_3 : DyK n g o_3.2 := dk_X11_isPlace ko_1 eo_3
    replace e := br_s e
    rcases e with ⟨_, e⟩ | ⟨_, e⟩
    · exact dk_X11_same_42 ko_3 e
    · replace e := cl_s e
      obtain ⟨r_5, er_5, e⟩ := e
      have yr_5 := dk_ed (a := 0) (b := 30) ko_3 (by decide +kernel) er_5
      subst yr_5
      replace e := cl_s e
      obtain ⟨r_6, _, e⟩ := e
      replace e := (gd_s e).2
      replace e := cl_s e
      obtain ⟨r_8, _, e⟩ := e
      replace e := cl_s e
      obtain ⟨r_9, _, e⟩ := e
      replace e := (gd_s e).2
      replace e := cl_s e
      obtain ⟨r_11, _, e⟩ := e
      replace e := cl_s e
      obtain ⟨o_12, eo_12, e⟩ := e
      have ko_12 : DyK n g o_12.2 := dk_X5_areAlike ko_3 eo_12
      replace e := br_s e
      rcases e with ⟨_, e⟩ | ⟨_, e⟩
      · exact dk_X11_same_42 ko_12 e
      · exact dk_X11_same_43 ko_12 e
theorem dk_X11_isSquare_20 {n : Nat} {g : Hp} {o : Int32 × Hp} {t0 : Int32} {h : Hp} (k : DyK n g h) (e : sX11_isSquare_20 h t0 = some o) : DyK n g o.2 := by
  unfold sX11_isSquare_20 at e
  replace e := (gd_s e).2
  rw [← Option.some.inj e]; exact k
theorem dk_X11_isSquare_19 {n : Nat} {g : Hp} {o : Int32 × Hp} {h : Hp} (k : DyK n g h) (e : sX11_isSquare_19 h = some o) : DyK n g o.2 := by
  unfold sX11_isSquare_19 at e
  exact dk_X11_isSquare_20 k e
theorem dk_X11_isSquare {n : Nat} {g : Hp} {o : Int32 × Hp} {x0 : Nat} {x1 : Int32} {h : Hp} (k : DyK n g h) (e : sX11_isSquare h x0 x1 = some o) : DyK n g o.2 := by
  unfold sX11_isSquare at e
  replace e := br_s e
  rcases e with ⟨_, e⟩ | ⟨_, e⟩
  · exact dk_X11_isSquare_19 k e
  · replace e := cl_s e
    obtain ⟨r_2, _, e⟩ := e
    replace e := br_s e
    rcases e with ⟨_, e⟩ | ⟨_, e⟩
    · exact dk_X11_isSquare_19 k e
    · exact dk_X11_isSquare_20 k e
theorem dk_X11_at_35 {n : Nat} {g : Hp} {o : Int32 × Hp} {t0 : Int32} {h : Hp} (k : DyK n g h) (e : sX11_at_35 h t0 = some o) : DyK n g o.2 := by
  unfold sX11_at_35 at e
  rw [← Option.some.inj e]; exact k
theorem dk_X11_at {n : Nat} {g : Hp} {o : Int32 × Hp} {x0 : Nat} {x1 : Int32} {x2 : Int32} {h : Hp} (k : DyK n g h) (e : sX11_at h x0 x1 x2 = some o) : DyK n g o.2 := by
  unfold sX11_at at e
  replace e := cl_s e
  obtain ⟨o_1, eo_1, e⟩ := e
  have ko_1 : DyK n g o_1.2 := dk_X11_isSquare k eo_1
  replace e := br_s e
  rcases e with ⟨_, e⟩ | ⟨_, e⟩
  · rw [← Option.some.inj e]; exact ko_1
  · replace e := cl_s e
    obtain ⟨o_3, eo_3, e⟩ := e
    have ko_3 : DyK n g o_3.2 := dk_X11_isPlace ko_1 eo_3
    replace e := br_s e
    rcases e with ⟨_, e⟩ | ⟨_, e⟩
    · exact dk_X11_at_35 ko_3 e
    · replace e := cl_s e
      obtain ⟨r_5, _, e⟩ := e
      replace e := (gd_s e).2
      replace e := cl_s e
      obtain ⟨r_7, _, e⟩ := e
      replace e := cl_s e
      obtain ⟨r_8, _, e⟩ := e
      replace e := (gd_s e).2
      exact dk_X11_at_35 ko_3 e
theorem dk_X11_figure_10 {n : Nat} {g : Hp} {F : Nat} {o : Int32 × Hp} {h : Hp} (k : DyK n g h) (e : sX11_figure_10 F h = some o) : DyK n g o.2 := by
  unfold sX11_figure_10 at e
  rw [← Option.some.inj e]; exact k
theorem dk_X11_figure_130 {n : Nat} {g : Hp} {F : Nat} {o : Int32 × Hp} {t0 : Int32} {h : Hp} (k : DyK n g h) (e : sX11_figure_130 F h t0 = some o) : DyK n g o.2 := by
  unfold sX11_figure_130 at e
  rw [← Option.some.inj e]; exact k
theorem dk_X3_handSize_4 {n : Nat} {g : Hp} {F : Nat} {o : Int32 × Hp} : ∀ (f : Nat) {h : Hp} {x0 : Nat} {x1 : Int32} {x2 : Int32} {x3 : Int32}, DyK n g h → sX3_handSize_4 F f h x0 x1 x2 x3 = some o → DyK n g o.2 := by
  intro f
  induction f with
  | zero => intro h x0 x1 x2 x3 _ e; exact absurd e (by rw [sX3_handSize_4]; exact fun z => nomatch z)
  | succ f ih =>
    intro h x0 x1 x2 x3 k e
    rw [sX3_handSize_4] at e
    replace e := br_s e
    rcases e with ⟨_, e⟩ | ⟨_, e⟩
    · rw [← Option.some.inj e]; exact k
    · replace e := cl_s e
      obtain ⟨o_2, eo_2, e⟩ := e
      have ko_2 : DyK n g o_2.2 := dk_X3_inHand k eo_2
      replace e := nm_s e
      obtain ⟨v_3, wv_3, e⟩ := e
      replace e := nm_s e
      obtain ⟨v_4, wv_4, e⟩ := e
      exact ih ko_2 e
theorem dk_X3_handSize {n : Nat} {g : Hp} {F : Nat} {o : Int32 × Hp} {x0 : Nat} {x1 : Int32} {h : Hp} (k : DyK n g h) (e : sX3_handSize F h x0 x1 = some o) : DyK n g o.2 := by
  unfold sX3_handSize at e
  exact dk_X3_handSize_4 F k e
theorem dk_X11_figure {n : Nat} {g : Hp} {F : Nat} {o : Int32 × Hp} {x0 : Nat} {x1 : Int32} {x2 : Int32} {h : Hp} (k : DyK n g h) (e : sX11_figure F h x0 x1 x2 = some o) : DyK n g o.2 := by
  unfold sX11_figure at e
  replace e := br_s e
  rcases e with ⟨_, e⟩ | ⟨_, e⟩
  · exact dk_X11_figure_10 k e
  · replace e := br_s e
    rcases e with ⟨_, e⟩ | ⟨_, e⟩
    · replace e := cl_s e
      obtain ⟨o_3, eo_3, e⟩ := e
      have ko_3 : DyK n g o_3.2 := dk_X11_isPlace k eo_3
      replace e := br_s e
      rcases e with ⟨_, e⟩ | ⟨_, e⟩
      · rw [← Option.some.inj e]; exact ko_3
      · replace e := cl_s e
        obtain ⟨r_5, _, e⟩ := e
        replace e := (gd_s e).2
        replace e := cl_s e
        obtain ⟨r_7, _, e⟩ := e
        replace e := br_s e
        rcases e with ⟨_, e⟩ | ⟨_, e⟩
        · rw [← Option.some.inj e]; exact ko_3
        · replace e := br_s e
          rcases e with ⟨_, e⟩ | ⟨_, e⟩
          · rw [← Option.some.inj e]; exact ko_3
          · replace e := br_s e
            rcases e with ⟨_, e⟩ | ⟨_, e⟩
            · replace e := cl_s e
              obtain ⟨r_10, _, e⟩ := e
              replace e := (gd_s e).2
              rw [← Option.some.inj e]; exact ko_3
            · replace e := br_s e
              rcases e with ⟨_, e⟩ | ⟨_, e⟩
              · replace e := cl_s e
                obtain ⟨r_13, _, e⟩ := e
                replace e := (gd_s e).2
                rw [← Option.some.inj e]; exact ko_3
              · replace e := br_s e
                rcases e with ⟨_, e⟩ | ⟨_, e⟩
                · replace e := cl_s e
                  obtain ⟨o_16, eo_16, e⟩ := e
                  have ko_16 : DyK n g o_16.2 := dk_J13_bitCount_95d88 ko_3 eo_16
                  rw [← Option.some.inj e]; exact ko_16
                · replace e := br_s e
                  rcases e with ⟨_, e⟩ | ⟨_, e⟩
                  · replace e := br_s e
                    rcases e with ⟨_, e⟩ | ⟨_, e⟩
                    · exact dk_X11_figure_130 ko_3 e
                    · replace e := cl_s e
                      obtain ⟨o_19, eo_19, e⟩ := e
                      have ko_19 : DyK n g o_19.2 := dk_X3_passSquare ko_3 eo_19
                      exact dk_X11_figure_130 ko_19 e
                  · replace e := br_s e
                    rcases e with ⟨_, e⟩ | ⟨_, e⟩
                    · replace e := cl_s e
                      obtain ⟨o_21, eo_21, e⟩ := e
                      have ko_21 : DyK n g o_21.2 := dk_X3_handSize ko_3 eo_21
                      rw [← Option.some.inj e]; exact ko_21
                    · replace e := br_s e
                      rcases e with ⟨_, e⟩ | ⟨_, e⟩
                      · replace e := cl_s e
                        obtain ⟨o_23, eo_23, e⟩ := e
                        have ko_23 : DyK n g o_23.2 := dk_X3_handSize ko_3 eo_23
                        rw [← Option.some.inj e]; exact ko_23
                      · replace e := cl_s e
                        obtain ⟨o_25, eo_25, e⟩ := e
                        have ko_25 : DyK n g o_25.2 := dk_X3_occupied ko_3 eo_25
                        replace e := cl_s e
                        obtain ⟨o_26, eo_26, e⟩ := e
                        have ko_26 : DyK n g o_26.2 := dk_J13_bitCount_95d88 ko_25 eo_26
                        rw [← Option.some.inj e]; exact ko_26
    · exact dk_X11_figure_10 k e
theorem dk_X11_attacked_15 {n : Nat} {g : Hp} {F : Nat} {o : Int32 × Hp} {h : Hp} (k : DyK n g h) (e : sX11_attacked_15 F h = some o) : DyK n g o.2 := by
  unfold sX11_attacked_15 at e
  rw [← Option.some.inj e]; exact k
theorem dk_X11_isSide_14 {n : Nat} {g : Hp} {o : Int32 × Hp} {t0 : Int32} {h : Hp} (k : DyK n g h) (e : sX11_isSide_14 h t0 = some o) : DyK n g o.2 := by
  unfold sX11_isSide_14 at e
  replace e := (gd_s e).2
  rw [← Option.some.inj e]; exact k
theorem dk_X11_isSide_9 {n : Nat} {g : Hp} {o : Int32 × Hp} {h : Hp} (k : DyK n g h) (e : sX11_isSide_9 h = some o) : DyK n g o.2 := by
  unfold sX11_isSide_9 at e
  exact dk_X11_isSide_14 k e
theorem dk_X11_isSide {n : Nat} {g : Hp} {o : Int32 × Hp} {x0 : Int32} {h : Hp} (k : DyK n g h) (e : sX11_isSide h x0 = some o) : DyK n g o.2 := by
  unfold sX11_isSide at e
  replace e := br_s e
  rcases e with ⟨_, e⟩ | ⟨_, e⟩
  · exact dk_X11_isSide_9 k e
  · replace e := br_s e
    rcases e with ⟨_, e⟩ | ⟨_, e⟩
    · exact dk_X11_isSide_9 k e
    · exact dk_X11_isSide_14 k e
theorem dk_X11_attacked_52 {n : Nat} {g : Hp} {F : Nat} {o : Int32 × Hp} {t0 : Int32} {h : Hp} (k : DyK n g h) (e : sX11_attacked_52 F h t0 = some o) : DyK n g o.2 := by
  unfold sX11_attacked_52 at e
  rw [← Option.some.inj e]; exact k
theorem dk_X11_attacked {n : Nat} {g : Hp} {F : Nat} {o : Int32 × Hp} {x0 : Nat} {x1 : Int32} {x2 : Int32} {x3 : Int32} {h : Hp} (k : DyK n g h) (e : sX11_attacked F h x0 x1 x2 x3 = some o) : DyK n g o.2 := by
  unfold sX11_attacked at e
  replace e := cl_s e
  obtain ⟨o_1, eo_1, e⟩ := e
  have ko_1 : DyK n g o_1.2 := dk_X11_isSquare k eo_1
  replace e := br_s e
  rcases e with ⟨_, e⟩ | ⟨_, e⟩
  · exact dk_X11_attacked_15 ko_1 e
  · replace e := cl_s e
    obtain ⟨o_3, eo_3, e⟩ := e
    have ko_3 : DyK n g o_3.2 := dk_X11_isSide ko_1 eo_3
    replace e := br_s e
    rcases e with ⟨_, e⟩ | ⟨_, e⟩
    · exact dk_X11_attacked_15 ko_3 e
    · replace e := cl_s e
      obtain ⟨o_5, eo_5, e⟩ := e
      have ko_5 : DyK n g o_5.2 := dk_X11_isPlace ko_3 eo_5
      replace e := br_s e
      rcases e with ⟨_, e⟩ | ⟨_, e⟩
      · rw [← Option.some.inj e]; exact ko_5
      · replace e := cl_s e
        obtain ⟨r_7, _, e⟩ := e
        replace e := cl_s e
        obtain ⟨r_8, _, e⟩ := e
        replace e := (gd_s e).2
        replace e := cl_s e
        obtain ⟨r_10, _, e⟩ := e
        replace e := cl_s e
        obtain ⟨o_11, eo_11, e⟩ := e
        have ko_11 : DyK n g o_11.2 := dk_X5_isHit ko_5 eo_11
        replace e := br_s e
        rcases e with ⟨_, e⟩ | ⟨_, e⟩
        · exact dk_X11_attacked_52 ko_11 e
        · exact dk_X11_attacked_52 ko_11 e
theorem dk_X11_moves_18 {n : Nat} {g : Hp} {F : Nat} {o : Int32 × Hp} {t0 : Int32} {h : Hp} (k : DyK n g h) (e : sX11_moves_18 F h t0 = some o) : DyK n g o.2 := by
  unfold sX11_moves_18 at e
  rw [← Option.some.inj e]; exact k
theorem dk_X11_listMoves_32 {n : Nat} {g : Hp} {F : Nat} {o : Int32 × Hp} {t0 : Int32} {h : Hp} (k : DyK n g h) (e : sX11_listMoves_32 F h t0 = some o) : DyK n g o.2 := by
  unfold sX11_listMoves_32 at e
  rw [← Option.some.inj e]; exact k
