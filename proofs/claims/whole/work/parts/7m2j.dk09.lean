/-! what stands where stays so: printed -/
theorem dk_X8_writeLeft_231 {n : Nat} {g : Hp} {F : Nat} {o : Hp} {x0 : Nat} {x4 : Nat} {x5 : Int32} {x11 : Int32} {h : Hp} (k : DyK n g h) (e : sX8_writeLeft_231 F h x0 x4 x5 x11 = some o) : DyK n g o := by
  unfold sX8_writeLeft_231 at e
  replace e := br_s e
  rcases e with ⟨_, e⟩ | ⟨_, e⟩
  · exact dk_X8_writeLeft_254 k e
  · replace e := cl_s e
    obtain ⟨r_2, _, e⟩ := e
    replace e := cl_s e
    obtain ⟨r_3, _, e⟩ := e
    replace e := (gd_s e).2
    replace e := cl_s e
    obtain ⟨o_5, eo_5, e⟩ := e
    have ko_5 : DyK n g o_5 := dk_X9_append k eo_5
    exact dk_X8_writeLeft_254 ko_5 e
theorem dk_X8_writeLeft_206 {n : Nat} {g : Hp} {F : Nat} {o : Hp} {x0 : Nat} {x4 : Nat} {x5 : Int32} {x10 : Int32} {t0 : Int32} {h : Hp} (k : DyK n g h) (e : sX8_writeLeft_206 F h x0 x4 x5 x10 t0 = some o) : DyK n g o := by
  unfold sX8_writeLeft_206 at e
  replace e := br_s e
  rcases e with ⟨_, e⟩ | ⟨_, e⟩
  · exact dk_X8_writeLeft_231 k e
  · replace e := cl_s e
    obtain ⟨r_2, _, e⟩ := e
    replace e := cl_s e
    obtain ⟨r_3, _, e⟩ := e
    replace e := (gd_s e).2
    replace e := cl_s e
    obtain ⟨o_5, eo_5, e⟩ := e
    have ko_5 : DyK n g o_5 := dk_X9_append k eo_5
    exact dk_X8_writeLeft_231 ko_5 e
theorem dk_X8_writeLeft_205 {n : Nat} {g : Hp} {F : Nat} {o : Hp} {x0 : Nat} {x4 : Nat} {x5 : Int32} {x10 : Int32} {h : Hp} (k : DyK n g h) (e : sX8_writeLeft_205 F h x0 x4 x5 x10 = some o) : DyK n g o := by
  unfold sX8_writeLeft_205 at e
  exact dk_X8_writeLeft_206 k e
theorem dk_X8_writeLeft_201 {n : Nat} {g : Hp} {F : Nat} {o : Hp} {x0 : Nat} {x4 : Nat} {x5 : Int32} {x10 : Int32} {h : Hp} (k : DyK n g h) (e : sX8_writeLeft_201 F h x0 x4 x5 x10 = some o) : DyK n g o := by
  unfold sX8_writeLeft_201 at e
  exact dk_X8_writeLeft_206 k e
theorem dk_X8_writeLeft_184 {n : Nat} {g : Hp} {F : Nat} {o : Hp} {x0 : Nat} {x4 : Nat} {x5 : Int32} {x6 : Int32} {x7 : Int32} {x9 : Int32} {t0 : Int32} {h : Hp} (k : DyK n g h) (e : sX8_writeLeft_184 F h x0 x4 x5 x6 x7 x9 t0 = some o) : DyK n g o := by
  unfold sX8_writeLeft_184 at e
  replace e := br_s e
  rcases e with ⟨_, e⟩ | ⟨_, e⟩
  · exact dk_X8_writeLeft_205 k e
  · replace e := br_s e
    rcases e with ⟨_, e⟩ | ⟨_, e⟩
    · replace e := br_s e
      rcases e with ⟨_, e⟩ | ⟨_, e⟩
      · exact dk_X8_writeLeft_205 k e
      · exact dk_X8_writeLeft_201 k e
    · exact dk_X8_writeLeft_201 k e
theorem dk_X8_writeLeft_183 {n : Nat} {g : Hp} {F : Nat} {o : Hp} {x0 : Nat} {x4 : Nat} {x5 : Int32} {x6 : Int32} {x7 : Int32} {x9 : Int32} {h : Hp} (k : DyK n g h) (e : sX8_writeLeft_183 F h x0 x4 x5 x6 x7 x9 = some o) : DyK n g o := by
  unfold sX8_writeLeft_183 at e
  exact dk_X8_writeLeft_184 k e
theorem dk_X8_writeLeft_179 {n : Nat} {g : Hp} {F : Nat} {o : Hp} {x0 : Nat} {x4 : Nat} {x5 : Int32} {x6 : Int32} {x7 : Int32} {x9 : Int32} {h : Hp} (k : DyK n g h) (e : sX8_writeLeft_179 F h x0 x4 x5 x6 x7 x9 = some o) : DyK n g o := by
  unfold sX8_writeLeft_179 at e
  exact dk_X8_writeLeft_184 k e
theorem dk_X8_writeLeft_157 {n : Nat} {g : Hp} {F : Nat} {o : Hp} {x0 : Nat} {x4 : Nat} {x5 : Int32} {x6 : Int32} {x7 : Int32} {x8 : Int32} {t0 : Int32} {h : Hp} (k : DyK n g h) (e : sX8_writeLeft_157 F h x0 x4 x5 x6 x7 x8 t0 = some o) : DyK n g o := by
  unfold sX8_writeLeft_157 at e
  replace e := br_s e
  rcases e with ⟨_, e⟩ | ⟨_, e⟩
  · replace e := br_s e
    rcases e with ⟨_, e⟩ | ⟨_, e⟩
    · exact dk_X8_writeLeft_183 k e
    · replace e := br_s e
      rcases e with ⟨_, e⟩ | ⟨_, e⟩
      · exact dk_X8_writeLeft_179 k e
      · replace e := br_s e
        rcases e with ⟨_, e⟩ | ⟨_, e⟩
        · exact dk_X8_writeLeft_183 k e
        · exact dk_X8_writeLeft_179 k e
  · exact dk_X8_writeLeft_179 k e
theorem dk_X8_writeLeft_156 {n : Nat} {g : Hp} {F : Nat} {o : Hp} {x0 : Nat} {x4 : Nat} {x5 : Int32} {x6 : Int32} {x7 : Int32} {x8 : Int32} {h : Hp} (k : DyK n g h) (e : sX8_writeLeft_156 F h x0 x4 x5 x6 x7 x8 = some o) : DyK n g o := by
  unfold sX8_writeLeft_156 at e
  exact dk_X8_writeLeft_157 k e
theorem dk_X8_writeLeft_124 {n : Nat} {g : Hp} {F : Nat} {o : Hp} {x0 : Nat} {x1 : Nat} {x2 : Int32} {x3 : Int32} {x4 : Nat} {x5 : Int32} {x6 : Int32} {x7 : Int32} {x8 : Int32} {x9 : Int32} {k_18 : Hp → Nat → Nat → Int32 → Int32 → Nat → Int32 → Int32 → Int32 → Int32 → Int32 → Option (Hp)} (R_18 : ∀ {h : Hp} {y1 : Nat} {y2 : Nat} {y3 : Int32} {y4 : Int32} {y5 : Nat} {y6 : Int32} {y7 : Int32} {y8 : Int32} {y9 : Int32} {y10 : Int32}, DyK n g h → k_18 h y1 y2 y3 y4 y5 y6 y7 y8 y9 y10 = some o → DyK n g o) {h : Hp} (k : DyK n g h) (e : sX8_writeLeft_124 F k_18 h x0 x1 x2 x3 x4 x5 x6 x7 x8 x9 = some o) : DyK n g o := by
  unfold sX8_writeLeft_124 at e
  replace e := nm_s e
  obtain ⟨v_1, wv_1, e⟩ := e
  exact R_18 k e
theorem dk_X8_isRival_35 {n : Nat} {g : Hp} {o : Int32 × Hp} {t0 : Int32} {h : Hp} (k : DyK n g h) (e : sX8_isRival_35 h t0 = some o) : DyK n g o.2 := by
  unfold sX8_isRival_35 at e
  replace e := (gd_s e).2
  rw [← Option.some.inj e]; exact k
theorem dk_X8_isRival_34 {n : Nat} {g : Hp} {o : Int32 × Hp} {h : Hp} (k : DyK n g h) (e : sX8_isRival_34 h = some o) : DyK n g o.2 := by
  unfold sX8_isRival_34 at e
  exact dk_X8_isRival_35 k e
theorem dk_X8_isRival {n : Nat} {g : Hp} {o : Int32 × Hp} {x0 : Int32} {x1 : Int32} {h : Hp} (k : DyK n g h) (e : sX8_isRival h x0 x1 = some o) : DyK n g o.2 := by
  unfold sX8_isRival at e
  replace e := cl_s e
  obtain ⟨o_1, eo_1, e⟩ := e
  have ko_1 : DyK n g o_1.2 := dk_X5_manOf k eo_1
  replace e := cl_s e
  obtain ⟨o_2, eo_2, e⟩ := e
  have ko_2 : DyK n g o_2.2 := dk_X5_manOf ko_1 eo_2
  replace e := br_s e
  rcases e with ⟨_, e⟩ | ⟨_, e⟩
  · replace e := cl_s e
    obtain ⟨o_4, eo_4, e⟩ := e
    have ko_4 : DyK n g o_4.2 := dk_X5_comeTo ko_2 eo_4
    replace e := cl_s e
    obtain ⟨o_5, eo_5, e⟩ := e
    have ko_5 : DyK n g o_5.2 := dk_X5_comeTo ko_4 eo_5
    replace e := br_s e
    rcases e with ⟨_, e⟩ | ⟨_, e⟩
    · replace e := cl_s e
      obtain ⟨o_7, eo_7, e⟩ := e
      have ko_7 : DyK n g o_7.2 := dk_X5_kindOf ko_5 eo_7
      replace e := br_s e
      rcases e with ⟨_, e⟩ | ⟨_, e⟩
      · exact dk_X8_isRival_34 ko_7 e
      · exact dk_X8_isRival_35 ko_7 e
    · exact dk_X8_isRival_34 ko_5 e
  · exact dk_X8_isRival_34 ko_2 e
theorem dk_X8_writeLeft_122 {n : Nat} {g : Hp} {F : Nat} {o : Hp} {x0 : Nat} {x1 : Nat} {x2 : Int32} {x3 : Int32} {x4 : Nat} {x5 : Int32} {x6 : Int32} {x7 : Int32} {x9 : Int32} {t0 : Int32} {k_18 : Hp → Nat → Nat → Int32 → Int32 → Nat → Int32 → Int32 → Int32 → Int32 → Int32 → Option (Hp)} (R_18 : ∀ {h : Hp} {y1 : Nat} {y2 : Nat} {y3 : Int32} {y4 : Int32} {y5 : Nat} {y6 : Int32} {y7 : Int32} {y8 : Int32} {y9 : Int32} {y10 : Int32}, DyK n g h → k_18 h y1 y2 y3 y4 y5 y6 y7 y8 y9 y10 = some o → DyK n g o) {h : Hp} (k : DyK n g h) (e : sX8_writeLeft_122 F k_18 h x0 x1 x2 x3 x4 x5 x6 x7 x9 t0 = some o) : DyK n g o := by
  unfold sX8_writeLeft_122 at e
  exact dk_X8_writeLeft_124 R_18 k e
theorem dk_X8_writeLeft_117 {n : Nat} {g : Hp} {F : Nat} {o : Hp} {x0 : Nat} {x1 : Nat} {x2 : Int32} {x3 : Int32} {x4 : Nat} {x5 : Int32} {x6 : Int32} {x7 : Int32} {x9 : Int32} {k_18 : Hp → Nat → Nat → Int32 → Int32 → Nat → Int32 → Int32 → Int32 → Int32 → Int32 → Option (Hp)} (R_18 : ∀ {h : Hp} {y1 : Nat} {y2 : Nat} {y3 : Int32} {y4 : Int32} {y5 : Nat} {y6 : Int32} {y7 : Int32} {y8 : Int32} {y9 : Int32} {y10 : Int32}, DyK n g h → k_18 h y1 y2 y3 y4 y5 y6 y7 y8 y9 y10 = some o → DyK n g o) {h : Hp} (k : DyK n g h) (e : sX8_writeLeft_117 F k_18 h x0 x1 x2 x3 x4 x5 x6 x7 x9 = some o) : DyK n g o := by
  unfold sX8_writeLeft_117 at e
  exact dk_X8_writeLeft_122 R_18 k e
theorem dk_X8_writeLeft_87 {n : Nat} {g : Hp} {F : Nat} {o : Hp} {x0 : Nat} {x1 : Nat} {x2 : Int32} {x3 : Int32} {x4 : Nat} {x5 : Int32} {x6 : Int32} {x8 : Int32} {x9 : Int32} {x10 : Int32} {t0 : Int32} {k_18 : Hp → Nat → Nat → Int32 → Int32 → Nat → Int32 → Int32 → Int32 → Int32 → Int32 → Option (Hp)} (R_18 : ∀ {h : Hp} {y1 : Nat} {y2 : Nat} {y3 : Int32} {y4 : Int32} {y5 : Nat} {y6 : Int32} {y7 : Int32} {y8 : Int32} {y9 : Int32} {y10 : Int32}, DyK n g h → k_18 h y1 y2 y3 y4 y5 y6 y7 y8 y9 y10 = some o → DyK n g o) {h : Hp} (k : DyK n g h) (e : sX8_writeLeft_87 F k_18 h x0 x1 x2 x3 x4 x5 x6 x8 x9 x10 t0 = some o) : DyK n g o := by
  unfold sX8_writeLeft_87 at e
  replace e := br_s e
  rcases e with ⟨_, e⟩ | ⟨_, e⟩
  · replace e := cl_s e
    obtain ⟨r_2, _, e⟩ := e
    replace e := cl_s e
    obtain ⟨r_3, _, e⟩ := e
    replace e := (gd_s e).2
    replace e := cl_s e
    obtain ⟨r_5, _, e⟩ := e
    replace e := cl_s e
    obtain ⟨r_6, _, e⟩ := e
    replace e := (gd_s e).2
    replace e := br_s e
    rcases e with ⟨_, e⟩ | ⟨_, e⟩
    · exact dk_X8_writeLeft_117 R_18 k e
    · exact dk_X8_writeLeft_122 R_18 k e
  · exact dk_X8_writeLeft_117 R_18 k e
theorem dk_X8_writeLeft_82 {n : Nat} {g : Hp} {F : Nat} {o : Hp} {x0 : Nat} {x1 : Nat} {x2 : Int32} {x3 : Int32} {x4 : Nat} {x5 : Int32} {x6 : Int32} {x8 : Int32} {x9 : Int32} {x10 : Int32} {k_18 : Hp → Nat → Nat → Int32 → Int32 → Nat → Int32 → Int32 → Int32 → Int32 → Int32 → Option (Hp)} (R_18 : ∀ {h : Hp} {y1 : Nat} {y2 : Nat} {y3 : Int32} {y4 : Int32} {y5 : Nat} {y6 : Int32} {y7 : Int32} {y8 : Int32} {y9 : Int32} {y10 : Int32}, DyK n g h → k_18 h y1 y2 y3 y4 y5 y6 y7 y8 y9 y10 = some o → DyK n g o) {h : Hp} (k : DyK n g h) (e : sX8_writeLeft_82 F k_18 h x0 x1 x2 x3 x4 x5 x6 x8 x9 x10 = some o) : DyK n g o := by
  unfold sX8_writeLeft_82 at e
  exact dk_X8_writeLeft_87 R_18 k e
theorem dk_X8_writeLeft_18 {n : Nat} {g : Hp} {F : Nat} {o : Hp} : ∀ (f : Nat) {h : Hp} {x0 : Nat} {x1 : Nat} {x2 : Int32} {x3 : Int32} {x4 : Nat} {x5 : Int32} {x6 : Int32} {x7 : Int32} {x8 : Int32} {x9 : Int32}, DyK n g h → sX8_writeLeft_18 F f h x0 x1 x2 x3 x4 x5 x6 x7 x8 x9 = some o → DyK n g o := by
  intro f
  induction f with
  | zero => intro h x0 x1 x2 x3 x4 x5 x6 x7 x8 x9 _ e; exact absurd e (by rw [sX8_writeLeft_18]; exact fun z => nomatch z)
  | succ f ih =>
    intro h x0 x1 x2 x3 x4 x5 x6 x7 x8 x9 k e
    rw [sX8_writeLeft_18] at e
    replace e := br_s e
    rcases e with ⟨_, e⟩ | ⟨_, e⟩
    · replace e := cl_s e
      obtain ⟨o_2, eo_2, e⟩ := e
      have ko_2 : DyK n g o_2.2 := dk_X5_manOf k eo_2
      replace e := cl_s e
      obtain ⟨r_3, _, e⟩ := e
      replace e := br_s e
      rcases e with ⟨_, e⟩ | ⟨_, e⟩
      · replace e := cl_s e
        obtain ⟨o_5, eo_5, e⟩ := e
        have ko_5 : DyK n g o_5.2 := dk_X5_takenBy ko_2 eo_5
        replace e := br_s e
        rcases e with ⟨_, e⟩ | ⟨_, e⟩
        · exact dk_X8_writeLeft_156 ko_5 e
        · exact dk_X8_writeLeft_157 ko_5 e
      · exact dk_X8_writeLeft_156 ko_2 e
    · replace e := (gd_s e).2
      replace e := cl_s e
      obtain ⟨o_8, eo_8, e⟩ := e
      have ko_8 : DyK n g o_8.2 := dk_X5_leftBy k eo_8
      replace e := br_s e
      rcases e with ⟨_, e⟩ | ⟨_, e⟩
      · exact dk_X8_writeLeft_124 (fun k e => ih k e) ko_8 e
      · replace e := (gd_s e).2
        replace e := cl_s e
        obtain ⟨o_11, eo_11, e⟩ := e
        have ko_11 : DyK n g o_11.2 := dk_X8_isRival ko_8 eo_11
        replace e := br_s e
        rcases e with ⟨_, e⟩ | ⟨_, e⟩
        · exact dk_X8_writeLeft_124 (fun k e => ih k e) ko_11 e
        · replace e := br_s e
          rcases e with ⟨_, e⟩ | ⟨_, e⟩
          · replace e := cl_s e
            obtain ⟨r_14, _, e⟩ := e
            replace e := cl_s e
            obtain ⟨r_15, _, e⟩ := e
            replace e := (gd_s e).2
            replace e := cl_s e
            obtain ⟨r_17, _, e⟩ := e
            replace e := cl_s e
            obtain ⟨r_18, _, e⟩ := e
            replace e := (gd_s e).2
            replace e := br_s e
            rcases e with ⟨_, e⟩ | ⟨_, e⟩
            · exact dk_X8_writeLeft_82 (fun k e => ih k e) ko_11 e
            · exact dk_X8_writeLeft_87 (fun k e => ih k e) ko_11 e
          · exact dk_X8_writeLeft_82 (fun k e => ih k e) ko_11 e
theorem dk_X8_writeLeft {n : Nat} {g : Hp} {F : Nat} {o : Hp} {x0 : Nat} {x1 : Nat} {x2 : Int32} {x3 : Int32} {x4 : Nat} {h : Hp} (k : DyK n g h) (e : sX8_writeLeft F h x0 x1 x2 x3 x4 = some o) : DyK n g o := by
  unfold sX8_writeLeft at e
  replace e := cl_s e
  obtain ⟨o_1, eo_1, e⟩ := e
  have ko_1 : DyK n g o_1.2 := dk_X5_leftBy k eo_1
  exact dk_X8_writeLeft_18 F ko_1 e
theorem dk_X8_writeMove_115 {n : Nat} {g : Hp} {F : Nat} {o : Hp} {x0 : Nat} {x1 : Nat} {x2 : Int32} {x4 : Nat} {x5 : Int32} {x6 : Int32} {h : Hp} (k : DyK n g h) (e : sX8_writeMove_115 F h x0 x1 x2 x4 x5 x6 = some o) : DyK n g o := by
  unfold sX8_writeMove_115 at e
  replace e := cl_s e
  obtain ⟨o_1, eo_1, e⟩ := e
  have ko_1 : DyK n g o_1 := dk_X8_writeLeft k eo_1
  exact dk_X8_writeMove_125 ko_1 e
theorem dk_X8_writeMove {n : Nat} {g : Hp} {F : Nat} {o : Hp} {x0 : Nat} {x1 : Nat} {x2 : Int32} {x3 : Int32} {x4 : Nat} {h : Hp} (k : DyK n g h) (e : sX8_writeMove F h x0 x1 x2 x3 x4 = some o) : DyK n g o := by
  unfold sX8_writeMove at e
  replace e := (gd_s e).2
  replace e := nm_s e
  obtain ⟨v_2, wv_2, e⟩ := e
  replace e := cl_s e
  obtain ⟨o_3, eo_3, e⟩ := e
  have ko_3 : DyK n g o_3.2 := dk_X5_comeTo k eo_3
  replace e := cl_s e
  obtain ⟨o_4, eo_4, e⟩ := e
  have ko_4 : DyK n g o_4.2 := dk_X5_kindOf ko_3 eo_4
  replace e := br_s e
  rcases e with ⟨_, e⟩ | ⟨_, e⟩
  · replace e := cl_s e
    obtain ⟨o_17, eo_17, e⟩ := e
    have ko_17 : DyK n g o_17.2 := dk_X5_leftBy ko_4 eo_17
    replace e := br_s e
    rcases e with ⟨_, e⟩ | ⟨_, e⟩
    · exact dk_X8_writeMove_44 ko_17 e
    · exact dk_X8_writeMove_44 ko_17 e
  · replace e := cl_s e
    obtain ⟨o_6, eo_6, e⟩ := e
    have ko_6 : DyK n g o_6.2 := dk_X5_manOf ko_4 eo_6
    replace e := br_s e
    rcases e with ⟨_, e⟩ | ⟨_, e⟩
    · replace e := cl_s e
      obtain ⟨r_13, _, e⟩ := e
      replace e := cl_s e
      obtain ⟨o_14, eo_14, e⟩ := e
      have ko_14 : DyK n g o_14.2 := dk_X1_letterOf ko_6 eo_14
      replace e := cl_s e
      obtain ⟨o_15, eo_15, e⟩ := e
      have ko_15 : DyK n g o_15 := dk_X9_append ko_14 eo_15
      replace e := cl_s e
      obtain ⟨o_16, eo_16, e⟩ := e
      have ko_16 : DyK n g o_16 := dk_X9_append ko_15 eo_16
      exact dk_X8_writeMove_125 ko_16 e
    · replace e := cl_s e
      obtain ⟨r_8, _, e⟩ := e
      replace e := br_s e
      rcases e with ⟨_, e⟩ | ⟨_, e⟩
      · exact dk_X8_writeMove_115 ko_6 e
      · replace e := cl_s e
        obtain ⟨r_10, _, e⟩ := e
        replace e := cl_s e
        obtain ⟨o_11, eo_11, e⟩ := e
        have ko_11 : DyK n g o_11.2 := dk_X1_letterOf ko_6 eo_11
        replace e := cl_s e
        obtain ⟨o_12, eo_12, e⟩ := e
        have ko_12 : DyK n g o_12 := dk_X9_append ko_11 eo_12
        exact dk_X8_writeMove_115 ko_12 e
theorem dk_X8_markOf_81 {n : Nat} {g : Hp} {F : Nat} {o : Int32 × Hp} {t0 : Int32} {h : Hp} (k : DyK n g h) (e : sX8_markOf_81 F h t0 = some o) : DyK n g o.2 := by
  unfold sX8_markOf_81 at e
  rw [← Option.some.inj e]; exact k
theorem dk_X8_markOf {n : Nat} {g : Hp} {F : Nat} {o : Int32 × Hp} {x1 : Nat} {x2 : Int32} {h : Hp} (k : DyK n g h) (e : sX8_markOf F h (n + 39) x1 x2 = some o) : DyK n g o.2 := by
  unfold sX8_markOf at e
  replace e := cl_s e
  obtain ⟨r_1, _, e⟩ := e
  replace e := cl_s e
  obtain ⟨o_2, eo_2, e⟩ := e
  have ko_2 : DyK n g o_2 := dk_X3_copyFrom k eo_2
  replace e := cl_s e
  obtain ⟨r_3, _, e⟩ := e
  replace e := cl_s e
  obtain ⟨r_4, _, e⟩ := e
  replace e := cl_s e
  obtain ⟨o_5, eo_5, e⟩ := e
  have ko_5 : DyK n g o_5 := dk_X5_make ko_2 eo_5
  replace e := cl_s e
  obtain ⟨r_6, er_6, e⟩ := e
  have yr_6 := dk_ed (a := 39) (b := 30) ko_5 (by decide +kernel) er_6
  subst yr_6
  replace e := cl_s e
  obtain ⟨r_7, _, e⟩ := e
  replace e := cl_s e
  obtain ⟨o_8, eo_8, e⟩ := e
  have ko_8 : DyK n g o_8.2 := dk_X5_endOf ko_5 eo_8
  replace e := cl_s e
  obtain ⟨r_9, _, e⟩ := e
  replace e := cl_s e
  obtain ⟨r_10, _, e⟩ := e
  replace e := cl_s e
  obtain ⟨o_11, eo_11, e⟩ := e
  have ko_11 : DyK n g o_11.2 := dk_X5_winnerOf ko_8 eo_11
  replace e := br_s e
  rcases e with ⟨_, e⟩ | ⟨_, e⟩
  · rw [← Option.some.inj e]; exact ko_11
  · replace e := cl_s e
    obtain ⟨r_13, _, e⟩ := e
    replace e := cl_s e
    obtain ⟨r_14, _, e⟩ := e
    replace e := cl_s e
    obtain ⟨r_15, _, e⟩ := e
    replace e := cl_s e
    obtain ⟨o_16, eo_16, e⟩ := e
    have ko_16 : DyK n g o_16.2 := dk_X5_isRoyalHit ko_11 eo_16
    replace e := br_s e
    rcases e with ⟨_, e⟩ | ⟨_, e⟩
    · exact dk_X8_markOf_81 ko_16 e
    · exact dk_X8_markOf_81 ko_16 e
theorem dk_X11_say_78 {n : Nat} {g : Hp} {F : Nat} {o : Int32 × Hp} {h : Hp} (k : DyK n g h) (e : sX11_say_78 F h n = some o) : DyK n g o.2 := by
  unfold sX11_say_78 at e
  replace e := cl_s e
  obtain ⟨r_1, _, e⟩ := e
  rw [← Option.some.inj e]; exact k
theorem dk_X11_say {n : Nat} {g : Hp} {F : Nat} {o : Int32 × Hp} {x1 : Int32} {x2 : Int32} {h : Hp} (k : DyK n g h) (e : sX11_say F h n x1 x2 = some o) : DyK n g o.2 := by
  unfold sX11_say at e
  replace e := cl_s e
  obtain ⟨o_1, eo_1, e⟩ := e
  have ko_1 : DyK n g o_1.2 := dk_X11_listMoves k eo_1
  replace e := br_s e
  rcases e with ⟨_, e⟩ | ⟨_, e⟩
  · exact dk_X11_say_15 ko_1 e
  · replace e := br_s e
    rcases e with ⟨_, e⟩ | ⟨_, e⟩
    · replace e := cl_s e
      obtain ⟨r_4, _, e⟩ := e
      replace e := cl_s e
      obtain ⟨o_5, eo_5, e⟩ := e
      have ko_5 : DyK n g o_5 := dk_X9_clear ko_1 eo_5
      replace e := cl_s e
      obtain ⟨r_6, _, e⟩ := e
      replace e := cl_s e
      obtain ⟨r_7, _, e⟩ := e
      replace e := cl_s e
      obtain ⟨r_8, _, e⟩ := e
      replace e := cl_s e
      obtain ⟨o_9, eo_9, e⟩ := e
      have ko_9 : DyK n g o_9 := dk_X8_writeMove ko_5 eo_9
      replace e := cl_s e
      obtain ⟨r_10, er_10, e⟩ := e
      have yr_10 := dk_ed (a := 0) (b := 39) ko_9 (by decide +kernel) er_10
      subst yr_10
      replace e := cl_s e
      obtain ⟨r_11, _, e⟩ := e
      replace e := (gd_s e).2
      replace e := cl_s e
      obtain ⟨r_13, _, e⟩ := e
      replace e := cl_s e
      obtain ⟨r_14, _, e⟩ := e
      replace e := (gd_s e).2
      replace e := cl_s e
      obtain ⟨o_16, eo_16, e⟩ := e
      have ko_16 : DyK n g o_16.2 := dk_X8_markOf ko_9 eo_16
      replace e := br_s e
      rcases e with ⟨_, e⟩ | ⟨_, e⟩
      · exact dk_X11_say_78 ko_16 e
      · replace e := cl_s e
        obtain ⟨r_18, _, e⟩ := e
        replace e := cl_s e
        obtain ⟨o_19, eo_19, e⟩ := e
        have ko_19 : DyK n g o_19 := dk_X9_append ko_16 eo_19
        exact dk_X11_say_78 ko_19 e
    · exact dk_X11_say_15 ko_1 e
theorem dk_X11_hear_105 {n : Nat} {g : Hp} {F : Nat} {o : Int32 × Hp} {x2 : Int32} {h : Hp} (k : DyK n g h) (e : sX11_hear_105 F h n x2 = some o) : DyK n g o.2 := by
  unfold sX11_hear_105 at e
  replace e := cl_s e
  obtain ⟨r_1, _, e⟩ := e
  replace e := cl_s e
  obtain ⟨o_2, eo_2, e⟩ := e
  have ko_2 : DyK n g o_2 := dk_X9_clear k eo_2
  rw [← Option.some.inj e]; exact ko_2
theorem dk_X8_begins_2 {n : Nat} {g : Hp} {F : Nat} {o : Int32 × Hp} : ∀ (f : Nat) {h : Hp} {x0 : Nat} {x1 : Nat} {x2 : Int32}, DyK n g h → sX8_begins_2 F f h x0 x1 x2 = some o → DyK n g o.2 := by
  intro f
  induction f with
  | zero => intro h x0 x1 x2 _ e; exact absurd e (by rw [sX8_begins_2]; exact fun z => nomatch z)
  | succ f ih =>
    intro h x0 x1 x2 k e
    rw [sX8_begins_2] at e
    replace e := cl_s e
    obtain ⟨r_1, _, e⟩ := e
    replace e := br_s e
    rcases e with ⟨_, e⟩ | ⟨_, e⟩
    · rw [← Option.some.inj e]; exact k
    · replace e := cl_s e
      obtain ⟨r_3, _, e⟩ := e
      replace e := cl_s e
      obtain ⟨o_4, eo_4, e⟩ := e
      have ko_4 : DyK n g o_4.2 := dk_X9_byteAt k eo_4
      replace e := cl_s e
      obtain ⟨o_5, eo_5, e⟩ := e
      have ko_5 : DyK n g o_5.2 := dk_X9_byteAt ko_4 eo_5
      replace e := br_s e
      rcases e with ⟨_, e⟩ | ⟨_, e⟩
      · replace e := nm_s e
        obtain ⟨v_7, wv_7, e⟩ := e
        exact ih ko_5 e
      · rw [← Option.some.inj e]; exact ko_5
theorem dk_X8_begins {n : Nat} {g : Hp} {F : Nat} {o : Int32 × Hp} {x0 : Nat} {x1 : Nat} {h : Hp} (k : DyK n g h) (e : sX8_begins F h x0 x1 = some o) : DyK n g o.2 := by
  unfold sX8_begins at e
  exact dk_X8_begins_2 F k e
theorem dk_X8_find_64 {n : Nat} {g : Hp} {F : Nat} {o : Int32 × Hp} {x0 : Nat} {x1 : Nat} {x2 : Int32} {x3 : Nat} {x4 : Int32} {k_3 : Hp → Nat → Nat → Int32 → Nat → Int32 → Option (Int32 × Hp)} (R_3 : ∀ {h : Hp} {y1 : Nat} {y2 : Nat} {y3 : Int32} {y4 : Nat} {y5 : Int32}, DyK n g h → k_3 h y1 y2 y3 y4 y5 = some o → DyK n g o.2) {h : Hp} (k : DyK n g h) (e : sX8_find_64 F k_3 h x0 x1 x2 x3 x4 = some o) : DyK n g o.2 := by
  unfold sX8_find_64 at e
  replace e := nm_s e
  obtain ⟨v_1, wv_1, e⟩ := e
  exact R_3 k e
theorem dk_X8_find_53 {n : Nat} {g : Hp} {F : Nat} {o : Int32 × Hp} {x0 : Nat} {x1 : Nat} {x2 : Int32} {x3 : Nat} {x4 : Int32} {k_3 : Hp → Nat → Nat → Int32 → Nat → Int32 → Option (Int32 × Hp)} (R_3 : ∀ {h : Hp} {y1 : Nat} {y2 : Nat} {y3 : Int32} {y4 : Nat} {y5 : Int32}, DyK n g h → k_3 h y1 y2 y3 y4 y5 = some o → DyK n g o.2) {h : Hp} (k : DyK n g h) (e : sX8_find_53 F k_3 h x0 x1 x2 x3 x4 = some o) : DyK n g o.2 := by
  unfold sX8_find_53 at e
  replace e := cl_s e
  obtain ⟨o_1, eo_1, e⟩ := e
  have ko_1 : DyK n g o_1.2 := dk_X8_begins k eo_1
  replace e := br_s e
  rcases e with ⟨_, e⟩ | ⟨_, e⟩
  · exact dk_X8_find_64 R_3 ko_1 e
  · rw [← Option.some.inj e]; exact ko_1
theorem dk_X8_find_3 {n : Nat} {g : Hp} {F : Nat} {o : Int32 × Hp} : ∀ (f : Nat) {h : Hp} {x0 : Nat} {x1 : Nat} {x2 : Int32} {x3 : Nat} {x4 : Int32}, DyK n g h → sX8_find_3 F f h x0 x1 x2 x3 x4 = some o → DyK n g o.2 := by
  intro f
  induction f with
  | zero => intro h x0 x1 x2 x3 x4 _ e; exact absurd e (by rw [sX8_find_3]; exact fun z => nomatch z)
  | succ f ih =>
    intro h x0 x1 x2 x3 x4 k e
    rw [sX8_find_3] at e
    replace e := br_s e
    rcases e with ⟨_, e⟩ | ⟨_, e⟩
    · rw [← Option.some.inj e]; exact k
    · replace e := cl_s e
      obtain ⟨r_2, _, e⟩ := e
      replace e := cl_s e
      obtain ⟨o_3, eo_3, e⟩ := e
      have ko_3 : DyK n g o_3 := dk_X9_clear k eo_3
      replace e := cl_s e
      obtain ⟨r_4, _, e⟩ := e
      replace e := cl_s e
      obtain ⟨o_5, eo_5, e⟩ := e
      have ko_5 : DyK n g o_5 := dk_X8_writeMove ko_3 eo_5
      replace e := cl_s e
      obtain ⟨r_6, _, e⟩ := e
      replace e := nm_s e
      obtain ⟨v_7, wv_7, e⟩ := e
      replace e := br_s e
      rcases e with ⟨_, e⟩ | ⟨_, e⟩
      · exact dk_X8_find_53 (fun k e => ih k e) ko_5 e
      · replace e := br_s e
        rcases e with ⟨_, e⟩ | ⟨_, e⟩
        · exact dk_X8_find_53 (fun k e => ih k e) ko_5 e
        · exact dk_X8_find_64 (fun k e => ih k e) ko_5 e
theorem dk_X8_find {n : Nat} {g : Hp} {F : Nat} {o : Int32 × Hp} {x0 : Nat} {x1 : Nat} {x2 : Int32} {x3 : Nat} {h : Hp} (k : DyK n g h) (e : sX8_find F h x0 x1 x2 x3 = some o) : DyK n g o.2 := by
  unfold sX8_find at e
  exact dk_X8_find_3 F k e
theorem dk_X8_isWhole_19 {n : Nat} {g : Hp} {o : Int32 × Hp} {t0 : Int32} {h : Hp} (k : DyK n g h) (e : sX8_isWhole_19 h t0 = some o) : DyK n g o.2 := by
  unfold sX8_isWhole_19 at e
  replace e := (gd_s e).2
  rw [← Option.some.inj e]; exact k
theorem dk_X8_isWhole {n : Nat} {g : Hp} {o : Int32 × Hp} {x0 : Nat} {x1 : Nat} {h : Hp} (k : DyK n g h) (e : sX8_isWhole h x0 x1 = some o) : DyK n g o.2 := by
  unfold sX8_isWhole at e
  replace e := cl_s e
  obtain ⟨r_1, _, e⟩ := e
  replace e := br_s e
  rcases e with ⟨_, e⟩ | ⟨_, e⟩
  · exact dk_X8_isWhole_19 k e
  · exact dk_X8_isWhole_19 k e
theorem dk_X11_hear_104 {n : Nat} {g : Hp} {F : Nat} {o : Int32 × Hp} {t0 : Int32} {h : Hp} (k : DyK n g h) (e : sX11_hear_104 F h n t0 = some o) : DyK n g o.2 := by
  unfold sX11_hear_104 at e
  exact dk_X11_hear_105 k e
theorem dk_X11_hear_94 {n : Nat} {g : Hp} {F : Nat} {o : Int32 × Hp} {x2 : Int32} {t0 : Int32} {h : Hp} (k : DyK n g h) (e : sX11_hear_94 F h n x2 t0 = some o) : DyK n g o.2 := by
  unfold sX11_hear_94 at e
  replace e := br_s e
  rcases e with ⟨_, e⟩ | ⟨_, e⟩
  · exact dk_X11_hear_104 k e
  · exact dk_X11_hear_104 k e
theorem dk_X11_hear {n : Nat} {g : Hp} {F : Nat} {o : Int32 × Hp} {x1 : Int32} {h : Hp} (k : DyK n g h) (e : sX11_hear F h n x1 = some o) : DyK n g o.2 := by
  unfold sX11_hear at e
  replace e := cl_s e
  obtain ⟨o_1, eo_1, e⟩ := e
  have ko_1 : DyK n g o_1.2 := dk_X11_isPlace k eo_1
  replace e := br_s e
  rcases e with ⟨_, e⟩ | ⟨_, e⟩
  · exact dk_X11_hear_105 ko_1 e
  · replace e := cl_s e
    obtain ⟨r_3, _, e⟩ := e
    replace e := cl_s e
    obtain ⟨r_4, _, e⟩ := e
    replace e := cl_s e
    obtain ⟨o_5, eo_5, e⟩ := e
    have ko_5 : DyK n g o_5.2 := dk_X11_listMoves ko_1 eo_5
    replace e := cl_s e
    obtain ⟨r_6, _, e⟩ := e
    replace e := cl_s e
    obtain ⟨o_7, eo_7, e⟩ := e
    have ko_7 : DyK n g o_7.2 := dk_X8_find ko_5 eo_7
    replace e := br_s e
    rcases e with ⟨_, e⟩ | ⟨_, e⟩
    · exact dk_X11_hear_105 ko_7 e
    · replace e := cl_s e
      obtain ⟨r_9, _, e⟩ := e
      replace e := cl_s e
      obtain ⟨r_10, _, e⟩ := e
      replace e := cl_s e
      obtain ⟨o_11, eo_11, e⟩ := e
      have ko_11 : DyK n g o_11.2 := dk_X8_isWhole ko_7 eo_11
      replace e := br_s e
      rcases e with ⟨_, e⟩ | ⟨_, e⟩
      · replace e := cl_s e
        obtain ⟨r_13, _, e⟩ := e
        replace e := cl_s e
        obtain ⟨r_14, _, e⟩ := e
        replace e := cl_s e
        obtain ⟨o_15, eo_15, e⟩ := e
        have ko_15 : DyK n g o_15.2 := dk_X9_byteAt ko_11 eo_15
        replace e := cl_s e
        obtain ⟨r_16, er_16, e⟩ := e
        have yr_16 := dk_ed (a := 0) (b := 39) ko_15 (by decide +kernel) er_16
        subst yr_16
        replace e := cl_s e
        obtain ⟨r_17, _, e⟩ := e
        replace e := (gd_s e).2
        replace e := cl_s e
        obtain ⟨r_19, _, e⟩ := e
        replace e := cl_s e
        obtain ⟨r_20, _, e⟩ := e
        replace e := (gd_s e).2
        replace e := cl_s e
        obtain ⟨o_22, eo_22, e⟩ := e
        have ko_22 : DyK n g o_22.2 := dk_X8_markOf ko_15 eo_22
        replace e := br_s e
        rcases e with ⟨_, e⟩ | ⟨_, e⟩
        · exact dk_X11_hear_94 ko_22 e
        · exact dk_X11_hear_94 ko_22 e
      · exact dk_X11_hear_105 ko_11 e
theorem dk_X11_isGame_15 {n : Nat} {g : Hp} {o : Int32 × Hp} {t0 : Int32} {h : Hp} (k : DyK n g h) (e : sX11_isGame_15 h t0 = some o) : DyK n g o.2 := by
  unfold sX11_isGame_15 at e
  replace e := (gd_s e).2
  rw [← Option.some.inj e]; exact k
theorem dk_X11_isGame_14 {n : Nat} {g : Hp} {o : Int32 × Hp} {h : Hp} (k : DyK n g h) (e : sX11_isGame_14 h = some o) : DyK n g o.2 := by
  unfold sX11_isGame_14 at e
  exact dk_X11_isGame_15 k e
theorem dk_X11_isGame {n : Nat} {g : Hp} {o : Int32 × Hp} {x0 : Int32} {h : Hp} (k : DyK n g h) (e : sX11_isGame h x0 = some o) : DyK n g o.2 := by
  unfold sX11_isGame at e
  replace e := br_s e
  rcases e with ⟨_, e⟩ | ⟨_, e⟩
  · exact dk_X11_isGame_14 k e
  · replace e := br_s e
    rcases e with ⟨_, e⟩ | ⟨_, e⟩
    · exact dk_X11_isGame_14 k e
    · exact dk_X11_isGame_15 k e

theorem dk_X11_start_36 {n : Nat} {g : Hp} {F : Nat} {o : Int32 × Hp} {x1 : Int32} {h : Hp} (k : DyK n g h) (e : sX11_start_36 F h n x1 = some o) : DyK n g o.2 := by
  unfold sX11_start_36 at e
  replace e := cl_s e
  obtain ⟨r_1, _, e⟩ := e
  replace e := (gd_s e).2
  replace e := nm_s e
  obtain ⟨h_3, wh_3, e⟩ := e
  have kh_3 : DyK n g h_3 := by rw [wh_3]; exact dk_wI k
  rw [← Option.some.inj e]; exact kh_3
theorem dk_X11_start_27 {n : Nat} {g : Hp} {F : Nat} {o : Int32 × Hp} {x1 : Int32} {x2 : Int32} {t0 : Nat} {h : Hp} (k : DyK n g h) (e : sX11_start_27 F h n x1 x2 t0 = some o) : DyK n g o.2 := by
  unfold sX11_start_27 at e
  replace e := cl_s e
  obtain ⟨r_1, _, e⟩ := e
  replace e := (gd_s e).2
  replace e := cl_s e
  obtain ⟨r_3, _, e⟩ := e
  replace e := cl_s e
  obtain ⟨o_4, eo_4, e⟩ := e
  have ko_4 : DyK n g o_4 := dk_X3_copyFrom k eo_4
  exact dk_X11_start_36 ko_4 e
theorem dk_X11_start_15 {n : Nat} {g : Hp} {F : Nat} {o : Int32 × Hp} {x1 : Int32} {x2 : Int32} {t0 : Int32} {h : Hp} (k : DyK n g h) (e : sX11_start_15 F h n x1 x2 t0 = some o) : DyK n g o.2 := by
  unfold sX11_start_15 at e
  replace e := br_s e
  rcases e with ⟨_, e⟩ | ⟨_, e⟩
  · rw [← Option.some.inj e]; exact k
  · replace e := cl_s e
    obtain ⟨o_2, eo_2, e⟩ := e
    have ko_2 : DyK n g o_2.2 := dk_X11_page k eo_2
    exact dk_X11_start_27 ko_2 e
theorem dk_X11_start_4 {n : Nat} {g : Hp} {F : Nat} {o : Int32 × Hp} {x1 : Int32} {x2 : Int32} {t0 : Int32} {h : Hp} (k : DyK n g h) (e : sX11_start_4 F h n x1 x2 t0 = some o) : DyK n g o.2 := by
  unfold sX11_start_4 at e
  replace e := br_s e
  rcases e with ⟨_, e⟩ | ⟨_, e⟩
  · rw [← Option.some.inj e]; exact k
  · replace e := cl_s e
    obtain ⟨o_2, eo_2, e⟩ := e
    have ko_2 : DyK n g o_2.2 := dk_X11_isPlace k eo_2
    exact dk_X11_start_15 ko_2 e
theorem dk_X11_start {n : Nat} {g : Hp} {F : Nat} {o : Int32 × Hp} {x1 : Int32} {x2 : Int32} {h : Hp} (k : DyK n g h) (e : sX11_start F h n x1 x2 = some o) : DyK n g o.2 := by
  unfold sX11_start at e
  replace e := cl_s e
  obtain ⟨o_1, eo_1, e⟩ := e
  have ko_1 : DyK n g o_1.2 := dk_X11_isGame k eo_1
  exact dk_X11_start_4 ko_1 e
theorem dk_X11_add_61 {n : Nat} {g : Hp} {F : Nat} {o : Int32 × Hp} {h : Hp} (k : DyK n g h) (e : sX11_add_61 F h = some o) : DyK n g o.2 := by
  unfold sX11_add_61 at e
  rw [← Option.some.inj e]; exact k
theorem dk_X11_add_106 {n : Nat} {g : Hp} {F : Nat} {o : Int32 × Hp} {x1 : Int32} {x2 : Int32} {x3 : Int32} {h : Hp} (k : DyK n g h) (e : sX11_add_106 F h n x1 x2 x3 = some o) : DyK n g o.2 := by
  unfold sX11_add_106 at e
  replace e := cl_s e
  obtain ⟨r_1, _, e⟩ := e
  replace e := (gd_s e).2
  replace e := nm_s e
  obtain ⟨h_3, wh_3, e⟩ := e
  have kh_3 : DyK n g h_3 := by rw [wh_3]; exact dk_wI k
  replace e := cl_s e
  obtain ⟨r_4, _, e⟩ := e
  replace e := (gd_s e).2
  replace e := nm_s e
  obtain ⟨h_6, wh_6, e⟩ := e
  have kh_6 : DyK n g h_6 := by rw [wh_6]; exact dk_wI kh_3
  rw [← Option.some.inj e]; exact kh_6
theorem dk_X11_add_91 {n : Nat} {g : Hp} {F : Nat} {o : Int32 × Hp} {x1 : Int32} {x2 : Int32} {x3 : Int32} {x6 : Nat} {h : Hp} (k : DyK n g h) (e : sX11_add_91 F h n x1 x2 x3 x6 = some o) : DyK n g o.2 := by
  unfold sX11_add_91 at e
  replace e := cl_s e
  obtain ⟨r_1, _, e⟩ := e
  replace e := cl_s e
  obtain ⟨r_2, _, e⟩ := e
  replace e := (gd_s e).2
  replace e := cl_s e
  obtain ⟨o_4, eo_4, e⟩ := e
  have ko_4 : DyK n g o_4 := dk_X5_make k eo_4
  exact dk_X11_add_106 ko_4 e
theorem dk_X11_add_82 {n : Nat} {g : Hp} {F : Nat} {o : Int32 × Hp} {x1 : Int32} {x2 : Int32} {x3 : Int32} {x4 : Nat} {t0 : Nat} {h : Hp} (k : DyK n g h) (e : sX11_add_82 F h n x1 x2 x3 x4 t0 = some o) : DyK n g o.2 := by
  unfold sX11_add_82 at e
  replace e := cl_s e
  obtain ⟨o_1, eo_1, e⟩ := e
  have ko_1 : DyK n g o_1 := dk_X3_copyFrom k eo_1
  exact dk_X11_add_91 ko_1 e
theorem dk_X11_add_49 {n : Nat} {g : Hp} {F : Nat} {o : Int32 × Hp} {x1 : Int32} {x2 : Int32} {x3 : Int32} {x4 : Nat} {t0 : Int32} {h : Hp} (k : DyK n g h) (e : sX11_add_49 F h n x1 x2 x3 x4 t0 = some o) : DyK n g o.2 := by
  unfold sX11_add_49 at e
  replace e := br_s e
  rcases e with ⟨_, e⟩ | ⟨_, e⟩
  · exact dk_X11_add_61 k e
  · replace e := br_s e
    rcases e with ⟨_, e⟩ | ⟨_, e⟩
    · replace e := br_s e
      rcases e with ⟨_, e⟩ | ⟨_, e⟩
      · replace e := cl_s e
        obtain ⟨o_4, eo_4, e⟩ := e
        have ko_4 : DyK n g o_4.2 := dk_X11_page k eo_4
        exact dk_X11_add_82 ko_4 e
      · rw [← Option.some.inj e]; exact k
    · exact dk_X11_add_61 k e
theorem dk_X11_add_31 {n : Nat} {g : Hp} {F : Nat} {o : Int32 × Hp} {x1 : Int32} {x2 : Int32} {x3 : Int32} {t0 : Nat} {h : Hp} (k : DyK n g h) (e : sX11_add_31 F h n x1 x2 x3 t0 = some o) : DyK n g o.2 := by
  unfold sX11_add_31 at e
  replace e := cl_s e
  obtain ⟨r_1, er_1, e⟩ := e
  have yr_1 := dk_ed (a := 0) (b := 30) k (by decide +kernel) er_1
  subst yr_1
  replace e := cl_s e
  obtain ⟨r_2, _, e⟩ := e
  replace e := cl_s e
  obtain ⟨o_3, eo_3, e⟩ := e
  have ko_3 : DyK n g o_3.2 := dk_X5_collect k eo_3
  exact dk_X11_add_49 ko_3 e
theorem dk_X11_add_4 {n : Nat} {g : Hp} {F : Nat} {o : Int32 × Hp} {x1 : Int32} {x2 : Int32} {t0 : Int32} {h : Hp} (k : DyK n g h) (e : sX11_add_4 F h n x1 x2 t0 = some o) : DyK n g o.2 := by
  unfold sX11_add_4 at e
  replace e := br_s e
  rcases e with ⟨_, e⟩ | ⟨_, e⟩
  · rw [← Option.some.inj e]; exact k
  · replace e := cl_s e
    obtain ⟨r_2, _, e⟩ := e
    replace e := (gd_s e).2
    replace e := nm_s e
    obtain ⟨v_4, wv_4, e⟩ := e
    replace e := br_s e
    rcases e with ⟨_, e⟩ | ⟨_, e⟩
    · rw [← Option.some.inj e]; exact k
    · replace e := cl_s e
      obtain ⟨o_6, eo_6, e⟩ := e
      have ko_6 : DyK n g o_6.2 := dk_X11_page k eo_6
      exact dk_X11_add_31 ko_6 e
theorem dk_X11_add {n : Nat} {g : Hp} {F : Nat} {o : Int32 × Hp} {x1 : Int32} {x2 : Int32} {h : Hp} (k : DyK n g h) (e : sX11_add F h n x1 x2 = some o) : DyK n g o.2 := by
  unfold sX11_add at e
  replace e := cl_s e
  obtain ⟨o_1, eo_1, e⟩ := e
  have ko_1 : DyK n g o_1.2 := dk_X11_isGame k eo_1
  exact dk_X11_add_4 ko_1 e
theorem dk_X11_back {n : Nat} {g : Hp} {o : Int32 × Hp} {x0 : Nat} {x1 : Int32} {h : Hp} (k : DyK n g h) (e : sX11_back h x0 x1 = some o) : DyK n g o.2 := by
  unfold sX11_back at e
  replace e := cl_s e
  obtain ⟨o_1, eo_1, e⟩ := e
  have ko_1 : DyK n g o_1.2 := dk_X11_isGame k eo_1
  replace e := br_s e
  rcases e with ⟨_, e⟩ | ⟨_, e⟩
  · rw [← Option.some.inj e]; exact ko_1
  · replace e := cl_s e
    obtain ⟨r_3, _, e⟩ := e
    replace e := (gd_s e).2
    replace e := br_s e
    rcases e with ⟨_, e⟩ | ⟨_, e⟩
    · rw [← Option.some.inj e]; exact ko_1
    · replace e := cl_s e
      obtain ⟨r_6, _, e⟩ := e
      replace e := (gd_s e).2
      replace e := br_s e
      rcases e with ⟨_, e⟩ | ⟨_, e⟩
      · rw [← Option.some.inj e]; exact ko_1
      · replace e := cl_s e
        obtain ⟨r_9, _, e⟩ := e
        replace e := (gd_s e).2
        replace e := (gd_s e).2
        replace e := nm_s e
        obtain ⟨h_12, wh_12, e⟩ := e
        have kh_12 : DyK n g h_12 := by rw [wh_12]; exact dk_wI ko_1
        replace e := cl_s e
        obtain ⟨r_13, _, e⟩ := e
        replace e := (gd_s e).2
        rw [← Option.some.inj e]; exact kh_12
theorem dk_X11_game_16 {n : Nat} {g : Hp} {F : Nat} {o : Int32 × Hp} {h : Hp} (k : DyK n g h) (e : sX11_game_16 F h = some o) : DyK n g o.2 := by
  unfold sX11_game_16 at e
  rw [← Option.some.inj e]; exact k
theorem dk_X11_countAlike_83 {n : Nat} {g : Hp} {F : Nat} {o : Int32 × Hp} {x1 : Int32} {x2 : Nat} {x3 : Int32} {x4 : Int32} {x5 : Int32} {k_6 : Hp → Nat → Int32 → Nat → Int32 → Int32 → Int32 → Option (Int32 × Hp)} (R_6 : ∀ {h : Hp} {y2 : Int32} {y3 : Nat} {y4 : Int32} {y5 : Int32} {y6 : Int32}, DyK n g h → k_6 h n y2 y3 y4 y5 y6 = some o → DyK n g o.2) {h : Hp} (k : DyK n g h) (e : sX11_countAlike_83 F k_6 h n x1 x2 x3 x4 x5 = some o) : DyK n g o.2 := by
  unfold sX11_countAlike_83 at e
  replace e := nm_s e
  obtain ⟨v_1, wv_1, e⟩ := e
  exact R_6 k e
theorem dk_X11_countAlike_77 {n : Nat} {g : Hp} {F : Nat} {o : Int32 × Hp} {x1 : Int32} {x2 : Nat} {x3 : Int32} {x4 : Int32} {x5 : Int32} {t0 : Int32} {k_6 : Hp → Nat → Int32 → Nat → Int32 → Int32 → Int32 → Option (Int32 × Hp)} (R_6 : ∀ {h : Hp} {y2 : Int32} {y3 : Nat} {y4 : Int32} {y5 : Int32} {y6 : Int32}, DyK n g h → k_6 h n y2 y3 y4 y5 y6 = some o → DyK n g o.2) {h : Hp} (k : DyK n g h) (e : sX11_countAlike_77 F k_6 h n x1 x2 x3 x4 x5 t0 = some o) : DyK n g o.2 := by
  unfold sX11_countAlike_77 at e
  replace e := br_s e
  rcases e with ⟨_, e⟩ | ⟨_, e⟩
  · exact dk_X11_countAlike_83 R_6 k e
  · replace e := nm_s e
    obtain ⟨v_2, wv_2, e⟩ := e
    exact dk_X11_countAlike_83 R_6 k e
theorem dk_X11_countAlike_74 {n : Nat} {g : Hp} {F : Nat} {o : Int32 × Hp} {x1 : Int32} {x2 : Nat} {x3 : Int32} {x4 : Int32} {x5 : Int32} {t0 : Nat} {t1 : Nat} {k_6 : Hp → Nat → Int32 → Nat → Int32 → Int32 → Int32 → Option (Int32 × Hp)} (R_6 : ∀ {h : Hp} {y2 : Int32} {y3 : Nat} {y4 : Int32} {y5 : Int32} {y6 : Int32}, DyK n g h → k_6 h n y2 y3 y4 y5 y6 = some o → DyK n g o.2) {h : Hp} (k : DyK n g h) (e : sX11_countAlike_74 F k_6 h n x1 x2 x3 x4 x5 t0 t1 (n + 30) = some o) : DyK n g o.2 := by
  unfold sX11_countAlike_74 at e
  replace e := cl_s e
  obtain ⟨o_1, eo_1, e⟩ := e
  have ko_1 : DyK n g o_1.2 := dk_X5_areAlike k eo_1
  exact dk_X11_countAlike_77 R_6 ko_1 e
theorem dk_X11_countAlike_55 {n : Nat} {g : Hp} {F : Nat} {o : Int32 × Hp} {x1 : Int32} {x2 : Nat} {x3 : Int32} {x4 : Int32} {x5 : Int32} {t0 : Int32} {k_6 : Hp → Nat → Int32 → Nat → Int32 → Int32 → Int32 → Option (Int32 × Hp)} (R_6 : ∀ {h : Hp} {y2 : Int32} {y3 : Nat} {y4 : Int32} {y5 : Int32} {y6 : Int32}, DyK n g h → k_6 h n y2 y3 y4 y5 y6 = some o → DyK n g o.2) {h : Hp} (k : DyK n g h) (e : sX11_countAlike_55 F k_6 h n x1 x2 x3 x4 x5 t0 = some o) : DyK n g o.2 := by
  unfold sX11_countAlike_55 at e
  replace e := br_s e
  rcases e with ⟨_, e⟩ | ⟨_, e⟩
  · exact dk_X11_countAlike_83 R_6 k e
  · replace e := cl_s e
    obtain ⟨r_2, er_2, e⟩ := e
    have yr_2 := dk_ed (a := 0) (b := 30) k (by decide +kernel) er_2
    subst yr_2
    replace e := cl_s e
    obtain ⟨o_3, eo_3, e⟩ := e
    have ko_3 : DyK n g o_3.2 := dk_X11_page k eo_3
    exact dk_X11_countAlike_74 R_6 ko_3 e
theorem dk_X11_countAlike_50 {n : Nat} {g : Hp} {F : Nat} {o : Int32 × Hp} {x1 : Int32} {x2 : Nat} {x3 : Int32} {x4 : Int32} {x5 : Int32} {k_6 : Hp → Nat → Int32 → Nat → Int32 → Int32 → Int32 → Option (Int32 × Hp)} (R_6 : ∀ {h : Hp} {y2 : Int32} {y3 : Nat} {y4 : Int32} {y5 : Int32} {y6 : Int32}, DyK n g h → k_6 h n y2 y3 y4 y5 y6 = some o → DyK n g o.2) {h : Hp} (k : DyK n g h) (e : sX11_countAlike_50 F k_6 h n x1 x2 x3 x4 x5 = some o) : DyK n g o.2 := by
  unfold sX11_countAlike_50 at e
  exact dk_X11_countAlike_55 R_6 k e
theorem dk_X11_countAlike_54 {n : Nat} {g : Hp} {F : Nat} {o : Int32 × Hp} {x1 : Int32} {x2 : Nat} {x3 : Int32} {x4 : Int32} {x5 : Int32} {k_6 : Hp → Nat → Int32 → Nat → Int32 → Int32 → Int32 → Option (Int32 × Hp)} (R_6 : ∀ {h : Hp} {y2 : Int32} {y3 : Nat} {y4 : Int32} {y5 : Int32} {y6 : Int32}, DyK n g h → k_6 h n y2 y3 y4 y5 y6 = some o → DyK n g o.2) {h : Hp} (k : DyK n g h) (e : sX11_countAlike_54 F k_6 h n x1 x2 x3 x4 x5 = some o) : DyK n g o.2 := by
  unfold sX11_countAlike_54 at e
  exact dk_X11_countAlike_55 R_6 k e
theorem dk_X11_countAlike_6 {n : Nat} {g : Hp} {F : Nat} {o : Int32 × Hp} : ∀ (f : Nat) {h : Hp} {x1 : Int32} {x2 : Nat} {x3 : Int32} {x4 : Int32} {x5 : Int32}, DyK n g h → sX11_countAlike_6 F f h n x1 x2 x3 x4 x5 = some o → DyK n g o.2 := by
  intro f
  induction f with
  | zero => intro h x1 x2 x3 x4 x5 _ e; exact absurd e (by rw [sX11_countAlike_6]; exact fun z => nomatch z)
  | succ f ih =>
    intro h x1 x2 x3 x4 x5 k e
    rw [sX11_countAlike_6] at e
    replace e := cl_s e
    obtain ⟨r_1, _, e⟩ := e
    replace e := (gd_s e).2
    replace e := br_s e
    rcases e with ⟨_, e⟩ | ⟨_, e⟩
    · rw [← Option.some.inj e]; exact k
    · replace e := br_s e
      rcases e with ⟨_, e⟩ | ⟨_, e⟩
      · exact dk_X11_countAlike_50 (fun k e => ih k e) k e
      · replace e := cl_s e
        obtain ⟨r_5, _, e⟩ := e
        replace e := (gd_s e).2
        replace e := br_s e
        rcases e with ⟨_, e⟩ | ⟨_, e⟩
        · exact dk_X11_countAlike_54 (fun k e => ih k e) k e
        · replace e := cl_s e
          obtain ⟨r_8, _, e⟩ := e
          replace e := (gd_s e).2
          replace e := br_s e
          rcases e with ⟨_, e⟩ | ⟨_, e⟩
          · exact dk_X11_countAlike_50 (fun k e => ih k e) k e
          · exact dk_X11_countAlike_54 (fun k e => ih k e) k e
theorem dk_X11_countAlike {n : Nat} {g : Hp} {F : Nat} {o : Int32 × Hp} {x1 : Int32} {x2 : Nat} {x3 : Int32} {h : Hp} (k : DyK n g h) (e : sX11_countAlike F h n x1 x2 x3 = some o) : DyK n g o.2 := by
  unfold sX11_countAlike at e
  exact dk_X11_countAlike_6 F k e
theorem dk_X11_game_78 {n : Nat} {g : Hp} {F : Nat} {o : Int32 × Hp} {t0 : Int32} {h : Hp} (k : DyK n g h) (e : sX11_game_78 F h t0 = some o) : DyK n g o.2 := by
  unfold sX11_game_78 at e
  rw [← Option.some.inj e]; exact k
theorem dk_X11_game_106 {n : Nat} {g : Hp} {F : Nat} {o : Int32 × Hp} {t0 : Int32} {h : Hp} (k : DyK n g h) (e : sX11_game_106 F h t0 = some o) : DyK n g o.2 := by
  unfold sX11_game_106 at e
  rw [← Option.some.inj e]; exact k
theorem dk_X11_game_101 {n : Nat} {g : Hp} {F : Nat} {o : Int32 × Hp} {h : Hp} (k : DyK n g h) (e : sX11_game_101 F h = some o) : DyK n g o.2 := by
  unfold sX11_game_101 at e
  exact dk_X11_game_106 k e
theorem dk_X11_game_97 {n : Nat} {g : Hp} {F : Nat} {o : Int32 × Hp} {t0 : Int32} {h : Hp} (k : DyK n g h) (e : sX11_game_97 F h t0 = some o) : DyK n g o.2 := by
  unfold sX11_game_97 at e
  replace e := br_s e
  rcases e with ⟨_, e⟩ | ⟨_, e⟩
  · exact dk_X11_game_106 k e
  · exact dk_X11_game_101 k e
theorem dk_X11_game_116 {n : Nat} {g : Hp} {F : Nat} {o : Int32 × Hp} {t0 : Int32} {h : Hp} (k : DyK n g h) (e : sX11_game_116 F h t0 = some o) : DyK n g o.2 := by
  unfold sX11_game_116 at e
  rw [← Option.some.inj e]; exact k
theorem dk_X11_game_40 {n : Nat} {g : Hp} {F : Nat} {o : Int32 × Hp} {x1 : Int32} {x2 : Int32} {x3 : Int32} {t0 : Nat} {h : Hp} (k : DyK n g h) (e : sX11_game_40 F h n x1 x2 x3 t0 = some o) : DyK n g o.2 := by
  unfold sX11_game_40 at e
  replace e := br_s e
  rcases e with ⟨_, e⟩ | ⟨_, e⟩
  · rw [← Option.some.inj e]; exact k
  · replace e := br_s e
    rcases e with ⟨_, e⟩ | ⟨_, e⟩
    · replace e := cl_s e
      obtain ⟨o_2, eo_2, e⟩ := e
      have ko_2 : DyK n g o_2.2 := dk_X11_countAlike k eo_2
      exact dk_X11_game_78 ko_2 e
    · replace e := br_s e
      rcases e with ⟨_, e⟩ | ⟨_, e⟩
      · replace e := br_s e
        rcases e with ⟨_, e⟩ | ⟨_, e⟩
        · exact dk_X11_game_101 k e
        · replace e := cl_s e
          obtain ⟨o_5, eo_5, e⟩ := e
          have ko_5 : DyK n g o_5.2 := dk_X11_countAlike k eo_5
          exact dk_X11_game_97 ko_5 e
      · replace e := cl_s e
        obtain ⟨r_7, er_7, e⟩ := e
        have yr_7 := dk_ed (a := 0) (b := 30) k (by decide +kernel) er_7
        subst yr_7
        replace e := cl_s e
        obtain ⟨o_8, eo_8, e⟩ := e
        have ko_8 : DyK n g o_8.2 := dk_X5_endOf k eo_8
        exact dk_X11_game_116 ko_8 e
theorem dk_X11_game_4 {n : Nat} {g : Hp} {F : Nat} {o : Int32 × Hp} {x1 : Int32} {x2 : Int32} {t0 : Int32} {h : Hp} (k : DyK n g h) (e : sX11_game_4 F h n x1 x2 t0 = some o) : DyK n g o.2 := by
  unfold sX11_game_4 at e
  replace e := br_s e
  rcases e with ⟨_, e⟩ | ⟨_, e⟩
  · exact dk_X11_game_16 k e
  · replace e := br_s e
    rcases e with ⟨_, e⟩ | ⟨_, e⟩
    · exact dk_X11_game_16 k e
    · replace e := br_s e
      rcases e with ⟨_, e⟩ | ⟨_, e⟩
      · replace e := cl_s e
        obtain ⟨r_4, _, e⟩ := e
        replace e := (gd_s e).2
        replace e := nm_s e
        obtain ⟨v_6, wv_6, e⟩ := e
        replace e := br_s e
        rcases e with ⟨_, e⟩ | ⟨_, e⟩
        · rw [← Option.some.inj e]; exact k
        · replace e := cl_s e
          obtain ⟨o_8, eo_8, e⟩ := e
          have ko_8 : DyK n g o_8.2 := dk_X11_page k eo_8
          exact dk_X11_game_40 ko_8 e
      · exact dk_X11_game_16 k e
theorem dk_X11_game {n : Nat} {g : Hp} {F : Nat} {o : Int32 × Hp} {x1 : Int32} {x2 : Int32} {h : Hp} (k : DyK n g h) (e : sX11_game F h n x1 x2 = some o) : DyK n g o.2 := by
  unfold sX11_game at e
  replace e := cl_s e
  obtain ⟨o_1, eo_1, e⟩ := e
  have ko_1 : DyK n g o_1.2 := dk_X11_isGame k eo_1
  exact dk_X11_game_4 ko_1 e
theorem dk_X11_played_41 {n : Nat} {g : Hp} {o : Int32 × Hp} {t0 : Int32} {h : Hp} (k : DyK n g h) (e : sX11_played_41 h t0 = some o) : DyK n g o.2 := by
  unfold sX11_played_41 at e
  rw [← Option.some.inj e]; exact k
theorem dk_X11_played_39 {n : Nat} {g : Hp} {o : Int32 × Hp} {h : Hp} (k : DyK n g h) (e : sX11_played_39 h = some o) : DyK n g o.2 := by
  unfold sX11_played_39 at e
  exact dk_X11_played_41 k e
theorem dk_X11_played {n : Nat} {g : Hp} {o : Int32 × Hp} {x0 : Nat} {x1 : Int32} {x2 : Int32} {h : Hp} (k : DyK n g h) (e : sX11_played h x0 x1 x2 = some o) : DyK n g o.2 := by
  unfold sX11_played at e
  replace e := cl_s e
  obtain ⟨o_1, eo_1, e⟩ := e
  have ko_1 : DyK n g o_1.2 := dk_X11_isGame k eo_1
  replace e := br_s e
  rcases e with ⟨_, e⟩ | ⟨_, e⟩
  · rw [← Option.some.inj e]; exact ko_1
  · replace e := br_s e
    rcases e with ⟨_, e⟩ | ⟨_, e⟩
    · exact dk_X11_played_39 ko_1 e
    · replace e := cl_s e
      obtain ⟨r_4, _, e⟩ := e
      replace e := (gd_s e).2
      replace e := br_s e
      rcases e with ⟨_, e⟩ | ⟨_, e⟩
      · exact dk_X11_played_39 ko_1 e
      · replace e := cl_s e
        obtain ⟨r_7, _, e⟩ := e
        replace e := (gd_s e).2
        exact dk_X11_played_41 ko_1 e
theorem dk_X11_now_52 {n : Nat} {g : Hp} {F : Nat} {o : Int32 × Hp} {x2 : Int32} {h : Hp} (k : DyK n g h) (e : sX11_now_52 F h x2 = some o) : DyK n g o.2 := by
  unfold sX11_now_52 at e
  rw [← Option.some.inj e]; exact k
theorem dk_X11_now_49 {n : Nat} {g : Hp} {F : Nat} {o : Int32 × Hp} {x2 : Int32} {t0 : Nat} {t1 : Int32} {t2 : Nat} {h : Hp} (k : DyK n g h) (e : sX11_now_49 F h x2 t0 t1 t2 = some o) : DyK n g o.2 := by
  unfold sX11_now_49 at e
  replace e := cl_s e
  obtain ⟨o_1, eo_1, e⟩ := e
  have ko_1 : DyK n g o_1 := dk_X11_settle k eo_1
  exact dk_X11_now_52 ko_1 e
theorem dk_X11_now_27 {n : Nat} {g : Hp} {F : Nat} {o : Int32 × Hp} {x1 : Int32} {t0 : Int32} {h : Hp} (k : DyK n g h) (e : sX11_now_27 F h n x1 t0 = some o) : DyK n g o.2 := by
  unfold sX11_now_27 at e
  replace e := br_s e
  rcases e with ⟨_, e⟩ | ⟨_, e⟩
  · rw [← Option.some.inj e]; exact k
  · replace e := cl_s e
    obtain ⟨r_2, _, e⟩ := e
    replace e := (gd_s e).2
    replace e := cl_s e
    obtain ⟨o_4, eo_4, e⟩ := e
    have ko_4 : DyK n g o_4.2 := dk_X11_page k eo_4
    exact dk_X11_now_49 ko_4 e
theorem dk_X11_now_4 {n : Nat} {g : Hp} {F : Nat} {o : Int32 × Hp} {x1 : Int32} {t0 : Int32} {h : Hp} (k : DyK n g h) (e : sX11_now_4 F h n x1 t0 = some o) : DyK n g o.2 := by
  unfold sX11_now_4 at e
  replace e := br_s e
  rcases e with ⟨_, e⟩ | ⟨_, e⟩
  · rw [← Option.some.inj e]; exact k
  · replace e := cl_s e
    obtain ⟨r_2, _, e⟩ := e
    replace e := (gd_s e).2
    replace e := br_s e
    rcases e with ⟨_, e⟩ | ⟨_, e⟩
    · rw [← Option.some.inj e]; exact k
    · replace e := cl_s e
      obtain ⟨o_5, eo_5, e⟩ := e
      have ko_5 : DyK n g o_5.2 := dk_X11_freePlace k eo_5
      exact dk_X11_now_27 ko_5 e
theorem dk_X11_now {n : Nat} {g : Hp} {F : Nat} {o : Int32 × Hp} {x1 : Int32} {h : Hp} (k : DyK n g h) (e : sX11_now F h n x1 = some o) : DyK n g o.2 := by
  unfold sX11_now at e
  replace e := cl_s e
  obtain ⟨o_1, eo_1, e⟩ := e
  have ko_1 : DyK n g o_1.2 := dk_X11_isGame k eo_1
  exact dk_X11_now_4 ko_1 e
theorem dk_X11_book_26 {n : Nat} {g : Hp} {F : Nat} {o : Int32 × Hp} {h : Hp} (k : DyK n g h) (e : sX11_book_26 F h = some o) : DyK n g o.2 := by
  unfold sX11_book_26 at e
  rw [← Option.some.inj e]; exact k
theorem dk_X11_book_55 {n : Nat} {g : Hp} {F : Nat} {o : Int32 × Hp} {x1 : Int32} {x2 : Int32} {x4 : Int32} {t0 : Int32} {t1 : Int32} {k_34 : Hp → Nat → Int32 → Int32 → Int32 → Int32 → Option (Int32 × Hp)} (R_34 : ∀ {h : Hp} {y2 : Int32} {y3 : Int32} {y4 : Int32} {y5 : Int32}, DyK n g h → k_34 h n y2 y3 y4 y5 = some o → DyK n g o.2) {h : Hp} (k : DyK n g h) (e : sX11_book_55 F k_34 h n x1 x2 x4 t0 t1 = some o) : DyK n g o.2 := by
  unfold sX11_book_55 at e
  replace e := nm_s e
  obtain ⟨v_1, wv_1, e⟩ := e
  replace e := nm_s e
  obtain ⟨v_2, wv_2, e⟩ := e
  exact R_34 k e
theorem dk_X11_book_34 {n : Nat} {g : Hp} {F : Nat} {o : Int32 × Hp} : ∀ (f : Nat) {h : Hp} {x1 : Int32} {x2 : Int32} {x3 : Int32} {x4 : Int32}, DyK n g h → sX11_book_34 F f h n x1 x2 x3 x4 = some o → DyK n g o.2 := by
  intro f
  induction f with
  | zero => intro h x1 x2 x3 x4 _ e; exact absurd e (by rw [sX11_book_34]; exact fun z => nomatch z)
  | succ f ih =>
    intro h x1 x2 x3 x4 k e
    rw [sX11_book_34] at e
    replace e := br_s e
    rcases e with ⟨_, e⟩ | ⟨_, e⟩
    · rw [← Option.some.inj e]; exact k
    · replace e := cl_s e
      obtain ⟨r_2, _, e⟩ := e
      replace e := (gd_s e).2
      replace e := cl_s e
      obtain ⟨r_4, _, e⟩ := e
      replace e := cl_s e
      obtain ⟨o_5, eo_5, e⟩ := e
      have ko_5 : DyK n g o_5.2 := dk_X11_countAlike k eo_5
      exact dk_X11_book_55 (fun k e => ih k e) ko_5 e
theorem dk_X11_book_29 {n : Nat} {g : Hp} {F : Nat} {o : Int32 × Hp} {x1 : Int32} {x2 : Int32} {h : Hp} (k : DyK n g h) (e : sX11_book_29 F h n x1 x2 = some o) : DyK n g o.2 := by
  unfold sX11_book_29 at e
  exact dk_X11_book_34 F k e
theorem dk_X11_book_23 {n : Nat} {g : Hp} {F : Nat} {o : Int32 × Hp} {x1 : Int32} {x2 : Int32} {t0 : Int32} {t1 : Int32} {h : Hp} (k : DyK n g h) (e : sX11_book_23 F h n x1 x2 t0 t1 = some o) : DyK n g o.2 := by
  unfold sX11_book_23 at e
  replace e := br_s e
  rcases e with ⟨_, e⟩ | ⟨_, e⟩
  · exact dk_X11_book_29 k e
  · exact dk_X11_book_26 k e
theorem dk_X11_book_5 {n : Nat} {g : Hp} {F : Nat} {o : Int32 × Hp} {x1 : Int32} {x2 : Int32} {t0 : Int32} {h : Hp} (k : DyK n g h) (e : sX11_book_5 F h n x1 x2 t0 = some o) : DyK n g o.2 := by
  unfold sX11_book_5 at e
  replace e := br_s e
  rcases e with ⟨_, e⟩ | ⟨_, e⟩
  · exact dk_X11_book_26 k e
  · replace e := br_s e
    rcases e with ⟨_, e⟩ | ⟨_, e⟩
    · exact dk_X11_book_29 k e
    · replace e := br_s e
      rcases e with ⟨_, e⟩ | ⟨_, e⟩
      · exact dk_X11_book_26 k e
      · replace e := cl_s e
        obtain ⟨o_4, eo_4, e⟩ := e
        have ko_4 : DyK n g o_4.2 := dk_X11_listMoves k eo_4
        exact dk_X11_book_23 ko_4 e
theorem dk_X11_book {n : Nat} {g : Hp} {F : Nat} {o : Int32 × Hp} {x1 : Int32} {x2 : Int32} {h : Hp} (k : DyK n g h) (e : sX11_book F h n x1 x2 = some o) : DyK n g o.2 := by
  unfold sX11_book at e
  replace e := cl_s e
  obtain ⟨o_1, eo_1, e⟩ := e
  have ko_1 : DyK n g o_1.2 := dk_X11_isPlace k eo_1
  exact dk_X11_book_5 ko_1 e
theorem dk_X11_sees_15 {n : Nat} {g : Hp} {F : Nat} {o : Int32 × Hp} {h : Hp} (k : DyK n g h) (e : sX11_sees_15 F h = some o) : DyK n g o.2 := by
  unfold sX11_sees_15 at e
  rw [← Option.some.inj e]; exact k
theorem dk_X5_seenBy_138 {n : Nat} {g : Hp} {F : Nat} {o : Int64 × Hp} {x3 : Int64} {h : Hp} (k : DyK n g h) (e : sX5_seenBy_138 F h x3 = some o) : DyK n g o.2 := by
  unfold sX5_seenBy_138 at e
  rw [← Option.some.inj e]; exact k
theorem dk_X5_seenBy_126 {n : Nat} {g : Hp} {F : Nat} {o : Int64 × Hp} {x0 : Nat} {x1 : Nat} {x2 : Int32} {x3 : Int64} {x5 : Int64} {x7 : Int32} {x9 : Int32} {x10 : Int32} {k_13 : Hp → Nat → Nat → Int32 → Int64 → Int64 → Int32 → Option (Int64 × Hp)} (R_13 : ∀ {h : Hp} {y1 : Nat} {y2 : Nat} {y3 : Int32} {y4 : Int64} {y5 : Int64} {y6 : Int32}, DyK n g h → k_13 h y1 y2 y3 y4 y5 y6 = some o → DyK n g o.2) {k_90 : Hp → Nat → Nat → Int32 → Int64 → Int64 → Int32 → Int32 → Int32 → Option (Int64 × Hp)} (R_90 : ∀ {h : Hp} {y1 : Nat} {y2 : Nat} {y3 : Int32} {y4 : Int64} {y5 : Int64} {y6 : Int32} {y7 : Int32} {y8 : Int32}, DyK n g h → k_90 h y1 y2 y3 y4 y5 y6 y7 y8 = some o → DyK n g o.2) {h : Hp} (k : DyK n g h) (e : sX5_seenBy_126 F k_13 k_90 h x0 x1 x2 x3 x5 x7 x9 x10 = some o) : DyK n g o.2 := by
  unfold sX5_seenBy_126 at e
  replace e := nm_s e
  obtain ⟨v_1, wv_1, e⟩ := e
  exact R_90 k e
theorem dk_X5_seenBy_90 {n : Nat} {g : Hp} {F : Nat} {o : Int64 × Hp} {k_13 : Hp → Nat → Nat → Int32 → Int64 → Int64 → Int32 → Option (Int64 × Hp)} (R_13 : ∀ {h : Hp} {y1 : Nat} {y2 : Nat} {y3 : Int32} {y4 : Int64} {y5 : Int64} {y6 : Int32}, DyK n g h → k_13 h y1 y2 y3 y4 y5 y6 = some o → DyK n g o.2) : ∀ (f : Nat) {h : Hp} {x0 : Nat} {x1 : Nat} {x2 : Int32} {x3 : Int64} {x5 : Int64} {x7 : Int32} {x9 : Int32} {x10 : Int32}, DyK n g h → sX5_seenBy_90 F k_13 f h x0 x1 x2 x3 x5 x7 x9 x10 = some o → DyK n g o.2 := by
  intro f
  induction f with
  | zero => intro h x0 x1 x2 x3 x5 x7 x9 x10 _ e; exact absurd e (by rw [sX5_seenBy_90]; exact fun z => nomatch z)
  | succ f ih =>
    intro h x0 x1 x2 x3 x5 x7 x9 x10 k e
    rw [sX5_seenBy_90] at e
    replace e := br_s e
    rcases e with ⟨_, e⟩ | ⟨_, e⟩
    · replace e := nm_s e
      obtain ⟨v_2, wv_2, e⟩ := e
      exact R_13 k e
    · replace e := cl_s e
      obtain ⟨o_3, eo_3, e⟩ := e
      have ko_3 : DyK n g o_3.2 := dk_X5_leads k eo_3
      replace e := br_s e
      rcases e with ⟨_, e⟩ | ⟨_, e⟩
      · exact dk_X5_seenBy_126 R_13 (fun k e => ih k e) ko_3 e
      · replace e := cl_s e
        obtain ⟨r_5, _, e⟩ := e
        replace e := cl_s e
        obtain ⟨r_6, _, e⟩ := e
        replace e := (gd_s e).2
        replace e := nm_s e
        obtain ⟨v_8, wv_8, e⟩ := e
        exact dk_X5_seenBy_126 R_13 (fun k e => ih k e) ko_3 e
theorem dk_X5_seenBy_13 {n : Nat} {g : Hp} {F : Nat} {o : Int64 × Hp} : ∀ (f : Nat) {h : Hp} {x0 : Nat} {x1 : Nat} {x2 : Int32} {x3 : Int64} {x5 : Int64} {x7 : Int32}, DyK n g h → sX5_seenBy_13 F f h x0 x1 x2 x3 x5 x7 = some o → DyK n g o.2 := by
  intro f
  induction f with
  | zero => intro h x0 x1 x2 x3 x5 x7 _ e; exact absurd e (by rw [sX5_seenBy_13]; exact fun z => nomatch z)
  | succ f ih =>
    intro h x0 x1 x2 x3 x5 x7 k e
    rw [sX5_seenBy_13] at e
    replace e := br_s e
    rcases e with ⟨_, e⟩ | ⟨_, e⟩
    · exact dk_X5_seenBy_138 k e
    · replace e := br_s e
      rcases e with ⟨_, e⟩ | ⟨_, e⟩
      · exact dk_X5_seenBy_138 k e
      · replace e := cl_s e
        obtain ⟨o_3, eo_3, e⟩ := e
        have ko_3 : DyK n g o_3.2 := dk_X11_lowest k eo_3
        replace e := nm_s e
        obtain ⟨v_4, wv_4, e⟩ := e
        replace e := cl_s e
        obtain ⟨r_5, _, e⟩ := e
        replace e := cl_s e
        obtain ⟨r_6, _, e⟩ := e
        replace e := cl_s e
        obtain ⟨r_7, _, e⟩ := e
        replace e := (gd_s e).2
        replace e := cl_s e
        obtain ⟨o_9, eo_9, e⟩ := e
        have ko_9 : DyK n g o_9.2 := dk_X10_cell ko_3 eo_9
        replace e := (gd_s e).2
        replace e := nm_s e
        obtain ⟨v_11, wv_11, e⟩ := e
        replace e := cl_s e
        obtain ⟨r_12, _, e⟩ := e
        replace e := cl_s e
        obtain ⟨r_13, _, e⟩ := e
        replace e := cl_s e
        obtain ⟨r_14, _, e⟩ := e
        replace e := (gd_s e).2
        replace e := cl_s e
        obtain ⟨o_16, eo_16, e⟩ := e
        have ko_16 : DyK n g o_16.2 := dk_X10_cell ko_9 eo_16
        replace e := (gd_s e).2
        replace e := nm_s e
        obtain ⟨v_18, wv_18, e⟩ := e
        exact dk_X5_seenBy_90 (fun k e => ih k e) F ko_16 e
theorem dk_X5_seenBy {n : Nat} {g : Hp} {F : Nat} {o : Int64 × Hp} {x0 : Nat} {x1 : Nat} {x2 : Int32} {h : Hp} (k : DyK n g h) (e : sX5_seenBy F h x0 x1 x2 = some o) : DyK n g o.2 := by
  unfold sX5_seenBy at e
  replace e := cl_s e
  obtain ⟨r_1, _, e⟩ := e
  replace e := (gd_s e).2
  replace e := nm_s e
  obtain ⟨v_3, wv_3, e⟩ := e
  exact dk_X5_seenBy_13 F k e
theorem dk_X11_sees_57 {n : Nat} {g : Hp} {F : Nat} {o : Int32 × Hp} {t0 : Int32} {h : Hp} (k : DyK n g h) (e : sX11_sees_57 F h t0 = some o) : DyK n g o.2 := by
  unfold sX11_sees_57 at e
  rw [← Option.some.inj e]; exact k
theorem dk_X11_sees {n : Nat} {g : Hp} {F : Nat} {o : Int32 × Hp} {x0 : Nat} {x1 : Int32} {x2 : Int32} {x3 : Int32} {h : Hp} (k : DyK n g h) (e : sX11_sees F h x0 x1 x2 x3 = some o) : DyK n g o.2 := by
  unfold sX11_sees at e
  replace e := cl_s e
  obtain ⟨o_1, eo_1, e⟩ := e
  have ko_1 : DyK n g o_1.2 := dk_X11_isSquare k eo_1
  replace e := br_s e
  rcases e with ⟨_, e⟩ | ⟨_, e⟩
  · exact dk_X11_sees_15 ko_1 e
  · replace e := cl_s e
    obtain ⟨o_3, eo_3, e⟩ := e
    have ko_3 : DyK n g o_3.2 := dk_X11_isSide ko_1 eo_3
    replace e := br_s e
    rcases e with ⟨_, e⟩ | ⟨_, e⟩
    · exact dk_X11_sees_15 ko_3 e
    · replace e := cl_s e
      obtain ⟨o_5, eo_5, e⟩ := e
      have ko_5 : DyK n g o_5.2 := dk_X11_isPlace ko_3 eo_5
      replace e := br_s e
      rcases e with ⟨_, e⟩ | ⟨_, e⟩
      · rw [← Option.some.inj e]; exact ko_5
      · replace e := cl_s e
        obtain ⟨r_7, _, e⟩ := e
        replace e := cl_s e
        obtain ⟨r_8, _, e⟩ := e
        replace e := (gd_s e).2
        replace e := cl_s e
        obtain ⟨r_10, _, e⟩ := e
        replace e := cl_s e
        obtain ⟨o_11, eo_11, e⟩ := e
        have ko_11 : DyK n g o_11.2 := dk_X5_seenBy ko_5 eo_11
        replace e := br_s e
        rcases e with ⟨_, e⟩ | ⟨_, e⟩
        · exact dk_X11_sees_57 ko_11 e
        · exact dk_X11_sees_57 ko_11 e
theorem dk_X11_view {n : Nat} {g : Hp} {F : Nat} {o : Int32 × Hp} {x0 : Nat} {x1 : Int32} {x2 : Int32} {h : Hp} (k : DyK n g h) (e : sX11_view F h x0 x1 x2 = some o) : DyK n g o.2 := by
  unfold sX11_view at e
  replace e := cl_s e
  obtain ⟨o_1, eo_1, e⟩ := e
  have ko_1 : DyK n g o_1.2 := dk_X11_isSide k eo_1
  replace e := br_s e
  rcases e with ⟨_, e⟩ | ⟨_, e⟩
  · rw [← Option.some.inj e]; exact ko_1
  · replace e := cl_s e
    obtain ⟨o_3, eo_3, e⟩ := e
    have ko_3 : DyK n g o_3.2 := dk_X11_isPlace ko_1 eo_3
    replace e := br_s e
    rcases e with ⟨_, e⟩ | ⟨_, e⟩
    · rw [← Option.some.inj e]; exact ko_3
    · replace e := cl_s e
      obtain ⟨r_5, _, e⟩ := e
      replace e := cl_s e
      obtain ⟨o_6, eo_6, e⟩ := e
      have ko_6 : DyK n g o_6 := dk_X9_clear ko_3 eo_6
      replace e := cl_s e
      obtain ⟨r_7, _, e⟩ := e
      replace e := cl_s e
      obtain ⟨r_8, _, e⟩ := e
      replace e := (gd_s e).2
      replace e := cl_s e
      obtain ⟨r_10, _, e⟩ := e
      replace e := cl_s e
      obtain ⟨r_11, _, e⟩ := e
      replace e := cl_s e
      obtain ⟨r_12, _, e⟩ := e
      replace e := (gd_s e).2
      replace e := cl_s e
      obtain ⟨r_14, _, e⟩ := e
      replace e := cl_s e
      obtain ⟨o_15, eo_15, e⟩ := e
      have ko_15 : DyK n g o_15.2 := dk_X5_seenBy ko_6 eo_15
      replace e := cl_s e
      obtain ⟨r_16, _, e⟩ := e
      replace e := cl_s e
      obtain ⟨o_17, eo_17, e⟩ := e
      have ko_17 : DyK n g o_17 := dk_X7_writeRanks ko_15 eo_17
      replace e := cl_s e
      obtain ⟨r_18, _, e⟩ := e
      rw [← Option.some.inj e]; exact ko_17
theorem dk_X1_isPlain_21 {n : Nat} {g : Hp} {o : Int32 × Hp} {t0 : Int32} {h : Hp} (k : DyK n g h) (e : sX1_isPlain_21 h t0 = some o) : DyK n g o.2 := by
  unfold sX1_isPlain_21 at e
  replace e := (gd_s e).2
  rw [← Option.some.inj e]; exact k
theorem dk_X1_isPlain_20 {n : Nat} {g : Hp} {o : Int32 × Hp} {h : Hp} (k : DyK n g h) (e : sX1_isPlain_20 h = some o) : DyK n g o.2 := by
  unfold sX1_isPlain_20 at e
  exact dk_X1_isPlain_21 k e
theorem dk_X1_isPlain {n : Nat} {g : Hp} {o : Int32 × Hp} {x0 : Nat} {h : Hp} (k : DyK n g h) (e : sX1_isPlain h x0 = some o) : DyK n g o.2 := by
  unfold sX1_isPlain at e
  replace e := cl_s e
  obtain ⟨o_1, eo_1, e⟩ := e
  have ko_1 : DyK n g o_1.2 := dk_X1_has k eo_1
  replace e := br_s e
  rcases e with ⟨_, e⟩ | ⟨_, e⟩
  · replace e := br_s e
    rcases e with ⟨_, e⟩ | ⟨_, e⟩
    · exact dk_X1_isPlain_21 ko_1 e
    · exact dk_X1_isPlain_20 ko_1 e
  · exact dk_X1_isPlain_20 ko_1 e
theorem dk_X6_find_255 {n : Nat} {g : Hp} {F : Nat} {o : Int32 × Hp} {t0 : Int32} {h : Hp} (k : DyK n g h) (e : sX6_find_255 F h t0 = some o) : DyK n g o.2 := by
  unfold sX6_find_255 at e
  replace e := (gd_s e).2
  rw [← Option.some.inj e]; exact k
theorem dk_X6_find_243 {n : Nat} {g : Hp} {F : Nat} {o : Int32 × Hp} {h : Hp} (k : DyK n g h) (e : sX6_find_243 F h (n + 48) = some o) : DyK n g o.2 := by
  unfold sX6_find_243 at e
  replace e := br_s e
  rcases e with ⟨_, e⟩ | ⟨_, e⟩
  · exact dk_X6_find_255 k e
  · exact dk_X6_find_255 k e
theorem dk_X6_find_231 {n : Nat} {g : Hp} {F : Nat} {o : Int32 × Hp} {h : Hp} (k : DyK n g h) (e : sX6_find_231 F h (n + 48) = some o) : DyK n g o.2 := by
  unfold sX6_find_231 at e
  replace e := br_s e
  rcases e with ⟨_, e⟩ | ⟨_, e⟩
  · exact dk_X6_find_243 k e
  · replace e := nm_s e
    obtain ⟨h_2, wh_2, e⟩ := e
    have kh_2 : DyK n g h_2 := by rw [wh_2]; exact dk_wI k
    exact dk_X6_find_243 kh_2 e
theorem dk_X10_origins_169 {n : Nat} {g : Hp} {F : Nat} {o : Int64 × Hp} {x6 : Int64} {h : Hp} (k : DyK n g h) (e : sX10_origins_169 F h x6 = some o) : DyK n g o.2 := by
  unfold sX10_origins_169 at e
  rw [← Option.some.inj e]; exact k
theorem dk_X10_origins_157 {n : Nat} {g : Hp} {F : Nat} {o : Int64 × Hp} {x0 : Nat} {x4 : Int64} {x6 : Int64} {x8 : Int32} {x9 : Int64} {x11 : Int32} {x12 : Int32} {x13 : Int64} {x16 : Int32} {x17 : Int32} {k_45 : Hp → Nat → Int64 → Int64 → Int32 → Int64 → Int32 → Int32 → Option (Int64 × Hp)} (R_45 : ∀ {h : Hp} {y1 : Nat} {y2 : Int64} {y3 : Int64} {y4 : Int32} {y5 : Int64} {y6 : Int32} {y7 : Int32}, DyK n g h → k_45 h y1 y2 y3 y4 y5 y6 y7 = some o → DyK n g o.2) {k_116 : Hp → Nat → Int64 → Int64 → Int32 → Int64 → Int32 → Int32 → Int64 → Int32 → Int32 → Option (Int64 × Hp)} (R_116 : ∀ {h : Hp} {y1 : Nat} {y2 : Int64} {y3 : Int64} {y4 : Int32} {y5 : Int64} {y6 : Int32} {y7 : Int32} {y8 : Int64} {y9 : Int32} {y10 : Int32}, DyK n g h → k_116 h y1 y2 y3 y4 y5 y6 y7 y8 y9 y10 = some o → DyK n g o.2) {h : Hp} (k : DyK n g h) (e : sX10_origins_157 F k_45 k_116 h x0 x4 x6 x8 x9 x11 x12 x13 x16 x17 = some o) : DyK n g o.2 := by
  unfold sX10_origins_157 at e
  replace e := nm_s e
  obtain ⟨v_1, wv_1, e⟩ := e
  exact R_116 k e
theorem dk_X10_origins_116 {n : Nat} {g : Hp} {F : Nat} {o : Int64 × Hp} {k_45 : Hp → Nat → Int64 → Int64 → Int32 → Int64 → Int32 → Int32 → Option (Int64 × Hp)} (R_45 : ∀ {h : Hp} {y1 : Nat} {y2 : Int64} {y3 : Int64} {y4 : Int32} {y5 : Int64} {y6 : Int32} {y7 : Int32}, DyK n g h → k_45 h y1 y2 y3 y4 y5 y6 y7 = some o → DyK n g o.2) : ∀ (f : Nat) {h : Hp} {x0 : Nat} {x4 : Int64} {x6 : Int64} {x8 : Int32} {x9 : Int64} {x11 : Int32} {x12 : Int32} {x13 : Int64} {x16 : Int32} {x17 : Int32}, DyK n g h → sX10_origins_116 F k_45 f h x0 x4 x6 x8 x9 x11 x12 x13 x16 x17 = some o → DyK n g o.2 := by
  intro f
  induction f with
  | zero => intro h x0 x4 x6 x8 x9 x11 x12 x13 x16 x17 _ e; exact absurd e (by rw [sX10_origins_116]; exact fun z => nomatch z)
  | succ f ih =>
    intro h x0 x4 x6 x8 x9 x11 x12 x13 x16 x17 k e
    rw [sX10_origins_116] at e
    replace e := br_s e
    rcases e with ⟨_, e⟩ | ⟨_, e⟩
    · replace e := nm_s e
      obtain ⟨v_2, wv_2, e⟩ := e
      exact R_45 k e
    · replace e := cl_s e
      obtain ⟨r_3, _, e⟩ := e
      replace e := (gd_s e).2
      replace e := br_s e
      rcases e with ⟨_, e⟩ | ⟨_, e⟩
      · replace e := cl_s e
        obtain ⟨o_6, eo_6, e⟩ := e
        have ko_6 : DyK n g o_6.2 := dk_X10_isOpen k eo_6
        replace e := br_s e
        rcases e with ⟨_, e⟩ | ⟨_, e⟩
        · exact dk_X10_origins_157 R_45 (fun k e => ih k e) ko_6 e
        · replace e := nm_s e
          obtain ⟨v_8, wv_8, e⟩ := e
          exact dk_X10_origins_157 R_45 (fun k e => ih k e) ko_6 e
      · exact dk_X10_origins_157 R_45 (fun k e => ih k e) k e
theorem dk_X10_origins_45 {n : Nat} {g : Hp} {F : Nat} {o : Int64 × Hp} : ∀ (f : Nat) {h : Hp} {x0 : Nat} {x4 : Int64} {x6 : Int64} {x8 : Int32} {x9 : Int64} {x11 : Int32} {x12 : Int32}, DyK n g h → sX10_origins_45 F f h x0 x4 x6 x8 x9 x11 x12 = some o → DyK n g o.2 := by
  intro f
  induction f with
  | zero => intro h x0 x4 x6 x8 x9 x11 x12 _ e; exact absurd e (by rw [sX10_origins_45]; exact fun z => nomatch z)
  | succ f ih =>
    intro h x0 x4 x6 x8 x9 x11 x12 k e
    rw [sX10_origins_45] at e
    replace e := br_s e
    rcases e with ⟨_, e⟩ | ⟨_, e⟩
    · exact dk_X10_origins_169 k e
    · replace e := br_s e
      rcases e with ⟨_, e⟩ | ⟨_, e⟩
      · exact dk_X10_origins_169 k e
      · replace e := nm_s e
        obtain ⟨v_3, wv_3, e⟩ := e
        replace e := nm_s e
        obtain ⟨v_4, wv_4, e⟩ := e
        replace e := (gd_s e).2
        replace e := nm_s e
        obtain ⟨v_6, wv_6, e⟩ := e
        replace e := cl_s e
        obtain ⟨r_7, _, e⟩ := e
        replace e := (gd_s e).2
        replace e := nm_s e
        obtain ⟨v_9, wv_9, e⟩ := e
        replace e := cl_s e
        obtain ⟨r_10, _, e⟩ := e
        replace e := (gd_s e).2
        replace e := nm_s e
        obtain ⟨v_12, wv_12, e⟩ := e
        exact dk_X10_origins_116 (fun k e => ih k e) F k e
theorem dk_X10_origins_12 {n : Nat} {g : Hp} {F : Nat} {o : Int64 × Hp} {x0 : Nat} {x1 : Int32} {x2 : Int32} {x4 : Int64} {x6 : Int64} {t0 : Int32} {h : Hp} (k : DyK n g h) (e : sX10_origins_12 F h x0 x1 x2 x4 x6 t0 = some o) : DyK n g o.2 := by
  unfold sX10_origins_12 at e
  replace e := cl_s e
  obtain ⟨r_1, _, e⟩ := e
  replace e := (gd_s e).2
  replace e := nm_s e
  obtain ⟨v_3, wv_3, e⟩ := e
  replace e := cl_s e
  obtain ⟨o_4, eo_4, e⟩ := e
  have ko_4 : DyK n g o_4.2 := dk_X10_cell k eo_4
  exact dk_X10_origins_45 F ko_4 e
theorem dk_X10_origins {n : Nat} {g : Hp} {F : Nat} {o : Int64 × Hp} {x0 : Nat} {x1 : Int32} {x2 : Int32} {x3 : Int32} {x4 : Int64} {h : Hp} (k : DyK n g h) (e : sX10_origins F h x0 x1 x2 x3 x4 = some o) : DyK n g o.2 := by
  unfold sX10_origins at e
  replace e := br_s e
  rcases e with ⟨_, e⟩ | ⟨_, e⟩
  · exact dk_X10_origins_12 k e
  · exact dk_X10_origins_12 k e
theorem dk_X6_takeBack_179 {n : Nat} {g : Hp} {F : Nat} {o : Hp} {x1 : Int32} {x2 : Int32} {x3 : Int32} {x4 : Int32} {k_15 : Hp → Nat → Int32 → Int32 → Int32 → Int32 → Option (Hp)} (R_15 : ∀ {h : Hp} {y2 : Int32} {y3 : Int32} {y4 : Int32} {y5 : Int32}, DyK n g h → k_15 h (n + 48) y2 y3 y4 y5 = some o → DyK n g o) {h : Hp} (k : DyK n g h) (e : sX6_takeBack_179 F k_15 h (n + 48) x1 x2 x3 x4 = some o) : DyK n g o := by
  unfold sX6_takeBack_179 at e
  replace e := nm_s e
  obtain ⟨v_1, wv_1, e⟩ := e
  exact R_15 k e
theorem dk_X6_takenIn_31 {n : Nat} {g : Hp} {o : Int32 × Hp} {t0 : Int32} {h : Hp} (k : DyK n g h) (e : sX6_takenIn_31 h t0 = some o) : DyK n g o.2 := by
  unfold sX6_takenIn_31 at e
  rw [← Option.some.inj e]; exact k
theorem dk_X6_takenIn {n : Nat} {g : Hp} {o : Int32 × Hp} {x0 : Nat} {x1 : Int32} {h : Hp} (k : DyK n g h) (e : sX6_takenIn h x0 x1 = some o) : DyK n g o.2 := by
  unfold sX6_takenIn at e
  replace e := nm_s e
  obtain ⟨v_1, wv_1, e⟩ := e
  replace e := br_s e
  rcases e with ⟨_, e⟩ | ⟨_, e⟩
  · exact dk_X6_takenIn_31 k e
  · replace e := cl_s e
    obtain ⟨r_3, _, e⟩ := e
    exact dk_X6_takenIn_31 k e
theorem dk_X6_lay {n : Nat} {g : Hp} {F : Nat} {o : Hp} {x0 : Nat} {x1 : Nat} {x2 : Int32} {h : Hp} (k : DyK n g h) (e : sX6_lay F h x0 x1 x2 = some o) : DyK n g o := by
  unfold sX6_lay at e
  replace e := cl_s e
  obtain ⟨r_1, _, e⟩ := e
  replace e := cl_s e
  obtain ⟨o_2, eo_2, e⟩ := e
  have ko_2 : DyK n g o_2 := dk_X3_copyFrom k eo_2
  replace e := cl_s e
  obtain ⟨o_3, eo_3, e⟩ := e
  have ko_3 : DyK n g o_3.2 := dk_X6_takenIn ko_2 eo_3
  replace e := cl_s e
  obtain ⟨r_4, _, e⟩ := e
  replace e := cl_s e
  obtain ⟨o_5, eo_5, e⟩ := e
  have ko_5 : DyK n g o_5 := dk_X3_put ko_3 eo_5
  replace e := cl_s e
  obtain ⟨r_6, _, e⟩ := e
  replace e := cl_s e
  obtain ⟨r_7, _, e⟩ := e
  replace e := cl_s e
  obtain ⟨o_8, eo_8, e⟩ := e
  have ko_8 : DyK n g o_8 := dk_X3_put ko_5 eo_8
  rw [← Option.some.inj e]; exact ko_8
theorem dk_X6_isBefore_46 {n : Nat} {g : Hp} {F : Nat} {o : Int32 × Hp} {h : Hp} (k : DyK n g h) (e : sX6_isBefore_46 F h = some o) : DyK n g o.2 := by
  unfold sX6_isBefore_46 at e
  rw [← Option.some.inj e]; exact k
theorem dk_X6_isBefore_95 {n : Nat} {g : Hp} {F : Nat} {o : Int32 × Hp} {t0 : Int32} {h : Hp} (k : DyK n g h) (e : sX6_isBefore_95 F h t0 = some o) : DyK n g o.2 := by
  unfold sX6_isBefore_95 at e
  replace e := (gd_s e).2
  rw [← Option.some.inj e]; exact k
theorem dk_X6_isBefore_94 {n : Nat} {g : Hp} {F : Nat} {o : Int32 × Hp} {h : Hp} (k : DyK n g h) (e : sX6_isBefore_94 F h = some o) : DyK n g o.2 := by
  unfold sX6_isBefore_94 at e
  exact dk_X6_isBefore_95 k e
theorem dk_X6_isBefore_28 {n : Nat} {g : Hp} {F : Nat} {o : Int32 × Hp} {h : Hp} (k : DyK n g h) (e : sX6_isBefore_28 F h = some o) : DyK n g o.2 := by
  unfold sX6_isBefore_28 at e
  rw [← Option.some.inj e]; exact k
theorem dk_X6_isBefore {n : Nat} {g : Hp} {F : Nat} {o : Int32 × Hp} {x1 : Int32} {h : Hp} (k : DyK n g h) (e : sX6_isBefore F h (n + 48) x1 = some o) : DyK n g o.2 := by
  unfold sX6_isBefore at e
  replace e := cl_s e
  obtain ⟨r_1, _, e⟩ := e
  replace e := cl_s e
  obtain ⟨r_2, _, e⟩ := e
  replace e := cl_s e
  obtain ⟨o_3, eo_3, e⟩ := e
  have ko_3 : DyK n g o_3.2 := dk_X5_faultOf k eo_3
  replace e := br_s e
  rcases e with ⟨_, e⟩ | ⟨_, e⟩
  · replace e := cl_s e
    obtain ⟨r_5, _, e⟩ := e
    replace e := cl_s e
    obtain ⟨r_6, _, e⟩ := e
    replace e := cl_s e
    obtain ⟨o_7, eo_7, e⟩ := e
    have ko_7 : DyK n g o_7.2 := dk_X5_earlyEnd ko_3 eo_7
    replace e := br_s e
    rcases e with ⟨_, e⟩ | ⟨_, e⟩
    · replace e := br_s e
      rcases e with ⟨_, e⟩ | ⟨_, e⟩
      · replace e := cl_s e
        obtain ⟨r_10, _, e⟩ := e
        replace e := cl_s e
        obtain ⟨o_11, eo_11, e⟩ := e
        have ko_11 : DyK n g o_11.2 := dk_X1_has ko_7 eo_11
        replace e := br_s e
        rcases e with ⟨_, e⟩ | ⟨_, e⟩
        · exact dk_X6_isBefore_46 ko_11 e
        · replace e := cl_s e
          obtain ⟨r_13, er_13, e⟩ := e
          have yr_13 := dk_ed (a := 48) (b := 30) ko_11 (by decide +kernel) er_13
          subst yr_13
          replace e := cl_s e
          obtain ⟨r_14, _, e⟩ := e
          replace e := cl_s e
          obtain ⟨r_15, _, e⟩ := e
          replace e := cl_s e
          obtain ⟨r_16, _, e⟩ := e
          replace e := cl_s e
          obtain ⟨o_17, eo_17, e⟩ := e
          have ko_17 : DyK n g o_17.2 := dk_X5_collect ko_11 eo_17
          replace e := br_s e
          rcases e with ⟨_, e⟩ | ⟨_, e⟩
          · exact dk_X6_isBefore_94 ko_17 e
          · replace e := cl_s e
            obtain ⟨r_19, _, e⟩ := e
            replace e := cl_s e
            obtain ⟨r_20, _, e⟩ := e
            replace e := (gd_s e).2
            replace e := cl_s e
            obtain ⟨o_22, eo_22, e⟩ := e
            have ko_22 : DyK n g o_22.2 := dk_X5_takenBy ko_17 eo_22
            replace e := br_s e
            rcases e with ⟨_, e⟩ | ⟨_, e⟩
            · exact dk_X6_isBefore_95 ko_22 e
            · exact dk_X6_isBefore_94 ko_22 e
      · exact dk_X6_isBefore_46 ko_7 e
    · exact dk_X6_isBefore_28 ko_7 e
  · exact dk_X6_isBefore_28 ko_3 e
theorem dk_X6_takeBack_173 {n : Nat} {g : Hp} {F : Nat} {o : Hp} {x1 : Int32} {x2 : Int32} {x3 : Int32} {x4 : Int32} {x5 : Int64} {x7 : Int32} {k_15 : Hp → Nat → Int32 → Int32 → Int32 → Int32 → Option (Hp)} (R_15 : ∀ {h : Hp} {y2 : Int32} {y3 : Int32} {y4 : Int32} {y5 : Int32}, DyK n g h → k_15 h (n + 48) y2 y3 y4 y5 = some o → DyK n g o) {k_80 : Hp → Nat → Int32 → Int32 → Int32 → Int32 → Int64 → Int32 → Option (Hp)} (R_80 : ∀ {h : Hp} {y2 : Int32} {y3 : Int32} {y4 : Int32} {y5 : Int32} {y6 : Int64} {y7 : Int32}, DyK n g h → k_80 h (n + 48) y2 y3 y4 y5 y6 y7 = some o → DyK n g o) {h : Hp} (k : DyK n g h) (e : sX6_takeBack_173 F k_15 k_80 h (n + 48) x1 x2 x3 x4 x5 x7 = some o) : DyK n g o := by
  unfold sX6_takeBack_173 at e
  replace e := nm_s e
  obtain ⟨v_1, wv_1, e⟩ := e
  exact R_80 k e
theorem dk_X6_standsOn_54 {n : Nat} {g : Hp} {o : Int32 × Hp} {t0 : Int32} {h : Hp} (k : DyK n g h) (e : sX6_standsOn_54 h t0 = some o) : DyK n g o.2 := by
  unfold sX6_standsOn_54 at e
  rw [← Option.some.inj e]; exact k
theorem dk_X6_standsOn {n : Nat} {g : Hp} {o : Int32 × Hp} {x0 : Nat} {x1 : Int32} {x2 : Int32} {h : Hp} (k : DyK n g h) (e : sX6_standsOn h x0 x1 x2 = some o) : DyK n g o.2 := by
  unfold sX6_standsOn at e
  replace e := br_s e
  rcases e with ⟨_, e⟩ | ⟨_, e⟩
  · replace e := cl_s e
    obtain ⟨r_7, _, e⟩ := e
    rw [← Option.some.inj e]; exact k
  · replace e := br_s e
    rcases e with ⟨_, e⟩ | ⟨_, e⟩
    · replace e := cl_s e
      obtain ⟨o_6, eo_6, e⟩ := e
      have ko_6 : DyK n g o_6.2 := dk_X6_takenIn k eo_6
      exact dk_X6_standsOn_54 ko_6 e
    · replace e := cl_s e
      obtain ⟨r_3, _, e⟩ := e
      replace e := cl_s e
      obtain ⟨r_4, _, e⟩ := e
      replace e := (gd_s e).2
      exact dk_X6_standsOn_54 k e
theorem dk_X6_comesFirst_202 {n : Nat} {g : Hp} {F : Nat} {o : Int32 × Hp} {t0 : Int32} {h : Hp} (k : DyK n g h) (e : sX6_comesFirst_202 F h t0 = some o) : DyK n g o.2 := by
  unfold sX6_comesFirst_202 at e
  replace e := (gd_s e).2
  rw [← Option.some.inj e]; exact k
theorem dk_X6_comesFirst_192 {n : Nat} {g : Hp} {F : Nat} {o : Int32 × Hp} {x6 : Int32} {t0 : Int32} {h : Hp} (k : DyK n g h) (e : sX6_comesFirst_192 F h x6 t0 = some o) : DyK n g o.2 := by
  unfold sX6_comesFirst_192 at e
  replace e := br_s e
  rcases e with ⟨_, e⟩ | ⟨_, e⟩
  · exact dk_X6_comesFirst_202 k e
  · exact dk_X6_comesFirst_202 k e
theorem dk_X6_comesFirst_179 {n : Nat} {g : Hp} {F : Nat} {o : Int32 × Hp} {x4 : Int32} {t0 : Int32} {h : Hp} (k : DyK n g h) (e : sX6_comesFirst_179 F h x4 t0 = some o) : DyK n g o.2 := by
  unfold sX6_comesFirst_179 at e
  replace e := br_s e
  rcases e with ⟨_, e⟩ | ⟨_, e⟩
  · exact dk_X6_comesFirst_192 k e
  · exact dk_X6_comesFirst_192 k e
theorem dk_X6_comesFirst_178 {n : Nat} {g : Hp} {F : Nat} {o : Int32 × Hp} {x4 : Int32} {h : Hp} (k : DyK n g h) (e : sX6_comesFirst_178 F h x4 = some o) : DyK n g o.2 := by
  unfold sX6_comesFirst_178 at e
  exact dk_X6_comesFirst_179 k e
theorem dk_X6_comesFirst_150 {n : Nat} {g : Hp} {F : Nat} {o : Int32 × Hp} {x0 : Nat} {x1 : Int32} {x3 : Int32} {x4 : Int32} {h : Hp} (k : DyK n g h) (e : sX6_comesFirst_150 F h x0 x1 x3 x4 = some o) : DyK n g o.2 := by
  unfold sX6_comesFirst_150 at e
  replace e := cl_s e
  obtain ⟨r_1, _, e⟩ := e
  replace e := cl_s e
  obtain ⟨r_2, _, e⟩ := e
  replace e := (gd_s e).2
  replace e := br_s e
  rcases e with ⟨_, e⟩ | ⟨_, e⟩
  · exact dk_X6_comesFirst_178 k e
  · replace e := cl_s e
    obtain ⟨o_5, eo_5, e⟩ := e
    have ko_5 : DyK n g o_5.2 := dk_X6_standsOn k eo_5
    replace e := br_s e
    rcases e with ⟨_, e⟩ | ⟨_, e⟩
    · exact dk_X6_comesFirst_179 ko_5 e
    · exact dk_X6_comesFirst_178 ko_5 e
theorem dk_X6_comesFirst_149 {n : Nat} {g : Hp} {F : Nat} {o : Int32 × Hp} {t0 : Int32} {h : Hp} (k : DyK n g h) (e : sX6_comesFirst_149 F h t0 = some o) : DyK n g o.2 := by
  unfold sX6_comesFirst_149 at e
  replace e := (gd_s e).2
  rw [← Option.some.inj e]; exact k
theorem dk_X6_comesFirst_82 {n : Nat} {g : Hp} {F : Nat} {o : Int32 × Hp} {x0 : Nat} {x1 : Int32} {x2 : Int32} {x3 : Int32} {x4 : Int32} {k_5 : Hp → Nat → Int32 → Int32 → Int32 → Int32 → Option (Int32 × Hp)} (R_5 : ∀ {h : Hp} {y1 : Nat} {y2 : Int32} {y3 : Int32} {y4 : Int32} {y5 : Int32}, DyK n g h → k_5 h y1 y2 y3 y4 y5 = some o → DyK n g o.2) {h : Hp} (k : DyK n g h) (e : sX6_comesFirst_82 F k_5 h x0 x1 x2 x3 x4 = some o) : DyK n g o.2 := by
  unfold sX6_comesFirst_82 at e
  replace e := nm_s e
  obtain ⟨v_1, wv_1, e⟩ := e
  exact R_5 k e
theorem dk_X6_comesFirst_79 {n : Nat} {g : Hp} {F : Nat} {o : Int32 × Hp} {x0 : Nat} {x1 : Int32} {x2 : Int32} {x4 : Int32} {x5 : Int32} {k_5 : Hp → Nat → Int32 → Int32 → Int32 → Int32 → Option (Int32 × Hp)} (R_5 : ∀ {h : Hp} {y1 : Nat} {y2 : Int32} {y3 : Int32} {y4 : Int32} {y5 : Int32}, DyK n g h → k_5 h y1 y2 y3 y4 y5 = some o → DyK n g o.2) {h : Hp} (k : DyK n g h) (e : sX6_comesFirst_79 F k_5 h x0 x1 x2 x4 x5 = some o) : DyK n g o.2 := by
  unfold sX6_comesFirst_79 at e
  exact dk_X6_comesFirst_82 R_5 k e
theorem dk_X6_isWrittenFirst_52 {n : Nat} {g : Hp} {o : Int32 × Hp} {t0 : Int32} {h : Hp} (k : DyK n g h) (e : sX6_isWrittenFirst_52 h t0 = some o) : DyK n g o.2 := by
  unfold sX6_isWrittenFirst_52 at e
  replace e := (gd_s e).2
  rw [← Option.some.inj e]; exact k
theorem dk_X6_isWrittenFirst_47 {n : Nat} {g : Hp} {o : Int32 × Hp} {h : Hp} (k : DyK n g h) (e : sX6_isWrittenFirst_47 h = some o) : DyK n g o.2 := by
  unfold sX6_isWrittenFirst_47 at e
  exact dk_X6_isWrittenFirst_52 k e
theorem dk_X6_isWrittenFirst_51 {n : Nat} {g : Hp} {o : Int32 × Hp} {h : Hp} (k : DyK n g h) (e : sX6_isWrittenFirst_51 h = some o) : DyK n g o.2 := by
  unfold sX6_isWrittenFirst_51 at e
  exact dk_X6_isWrittenFirst_52 k e
theorem dk_X6_isWrittenFirst {n : Nat} {g : Hp} {o : Int32 × Hp} {x0 : Nat} {x1 : Int32} {x2 : Int32} {h : Hp} (k : DyK n g h) (e : sX6_isWrittenFirst h x0 x1 x2 = some o) : DyK n g o.2 := by
  unfold sX6_isWrittenFirst at e
  replace e := cl_s e
  obtain ⟨r_1, _, e⟩ := e
  replace e := cl_s e
  obtain ⟨r_2, _, e⟩ := e
  replace e := (gd_s e).2
  replace e := cl_s e
  obtain ⟨r_4, _, e⟩ := e
  replace e := cl_s e
  obtain ⟨r_5, _, e⟩ := e
  replace e := (gd_s e).2
  replace e := br_s e
  rcases e with ⟨_, e⟩ | ⟨_, e⟩
  · exact dk_X6_isWrittenFirst_47 k e
  · replace e := cl_s e
    obtain ⟨r_8, _, e⟩ := e
    replace e := cl_s e
    obtain ⟨r_9, _, e⟩ := e
    replace e := (gd_s e).2
    replace e := cl_s e
    obtain ⟨r_11, _, e⟩ := e
    replace e := cl_s e
    obtain ⟨r_12, _, e⟩ := e
    replace e := (gd_s e).2
    replace e := br_s e
    rcases e with ⟨_, e⟩ | ⟨_, e⟩
    · replace e := br_s e
      rcases e with ⟨_, e⟩ | ⟨_, e⟩
      · exact dk_X6_isWrittenFirst_51 k e
      · exact dk_X6_isWrittenFirst_47 k e
    · exact dk_X6_isWrittenFirst_51 k e
theorem dk_X6_comesFirst_57 {n : Nat} {g : Hp} {F : Nat} {o : Int32 × Hp} {x0 : Nat} {x1 : Int32} {x2 : Int32} {x3 : Int32} {x4 : Int32} {x5 : Int32} {t0 : Int32} {k_5 : Hp → Nat → Int32 → Int32 → Int32 → Int32 → Option (Int32 × Hp)} (R_5 : ∀ {h : Hp} {y1 : Nat} {y2 : Int32} {y3 : Int32} {y4 : Int32} {y5 : Int32}, DyK n g h → k_5 h y1 y2 y3 y4 y5 = some o → DyK n g o.2) {h : Hp} (k : DyK n g h) (e : sX6_comesFirst_57 F k_5 h x0 x1 x2 x3 x4 x5 t0 = some o) : DyK n g o.2 := by
  unfold sX6_comesFirst_57 at e
  replace e := br_s e
  rcases e with ⟨_, e⟩ | ⟨_, e⟩
  · exact dk_X6_comesFirst_82 R_5 k e
  · replace e := br_s e
    rcases e with ⟨_, e⟩ | ⟨_, e⟩
    · exact dk_X6_comesFirst_79 R_5 k e
    · replace e := cl_s e
      obtain ⟨o_3, eo_3, e⟩ := e
      have ko_3 : DyK n g o_3.2 := dk_X6_isWrittenFirst k eo_3
      replace e := br_s e
      rcases e with ⟨_, e⟩ | ⟨_, e⟩
      · exact dk_X6_comesFirst_82 R_5 ko_3 e
      · exact dk_X6_comesFirst_79 R_5 ko_3 e
theorem dk_X6_comesFirst_22 {n : Nat} {g : Hp} {F : Nat} {o : Int32 × Hp} {x0 : Nat} {x1 : Int32} {x2 : Int32} {x3 : Int32} {x4 : Int32} {t0 : Int32} {k_5 : Hp → Nat → Int32 → Int32 → Int32 → Int32 → Option (Int32 × Hp)} (R_5 : ∀ {h : Hp} {y1 : Nat} {y2 : Int32} {y3 : Int32} {y4 : Int32} {y5 : Int32}, DyK n g h → k_5 h y1 y2 y3 y4 y5 = some o → DyK n g o.2) {h : Hp} (k : DyK n g h) (e : sX6_comesFirst_22 F k_5 h x0 x1 x2 x3 x4 t0 = some o) : DyK n g o.2 := by
  unfold sX6_comesFirst_22 at e
  replace e := nm_s e
  obtain ⟨v_1, wv_1, e⟩ := e
  replace e := cl_s e
  obtain ⟨o_2, eo_2, e⟩ := e
  have ko_2 : DyK n g o_2.2 := dk_X6_standsOn k eo_2
  replace e := cl_s e
  obtain ⟨o_3, eo_3, e⟩ := e
  have ko_3 : DyK n g o_3.2 := dk_X6_standsOn ko_2 eo_3
  replace e := br_s e
  rcases e with ⟨_, e⟩ | ⟨_, e⟩
  · exact dk_X6_comesFirst_57 R_5 ko_3 e
  · exact dk_X6_comesFirst_57 R_5 ko_3 e
theorem dk_X6_comesFirst_5 {n : Nat} {g : Hp} {F : Nat} {o : Int32 × Hp} : ∀ (f : Nat) {h : Hp} {x0 : Nat} {x1 : Int32} {x2 : Int32} {x3 : Int32} {x4 : Int32}, DyK n g h → sX6_comesFirst_5 F f h x0 x1 x2 x3 x4 = some o → DyK n g o.2 := by
  intro f
  induction f with
  | zero => intro h x0 x1 x2 x3 x4 _ e; exact absurd e (by rw [sX6_comesFirst_5]; exact fun z => nomatch z)
  | succ f ih =>
    intro h x0 x1 x2 x3 x4 k e
    rw [sX6_comesFirst_5] at e
    replace e := br_s e
    rcases e with ⟨_, e⟩ | ⟨_, e⟩
    · replace e := br_s e
      rcases e with ⟨_, e⟩ | ⟨_, e⟩
      · rw [← Option.some.inj e]; exact k
      · replace e := cl_s e
        obtain ⟨o_3, eo_3, e⟩ := e
        have ko_3 : DyK n g o_3.2 := dk_X6_standsOn k eo_3
        replace e := cl_s e
        obtain ⟨o_4, eo_4, e⟩ := e
        have ko_4 : DyK n g o_4.2 := dk_X6_standsOn ko_3 eo_4
        replace e := br_s e
        rcases e with ⟨_, e⟩ | ⟨_, e⟩
        · exact dk_X6_comesFirst_150 ko_4 e
        · replace e := br_s e
          rcases e with ⟨_, e⟩ | ⟨_, e⟩
          · exact dk_X6_comesFirst_150 ko_4 e
          · replace e := cl_s e
            obtain ⟨r_7, _, e⟩ := e
            replace e := cl_s e
            obtain ⟨o_8, eo_8, e⟩ := e
            have ko_8 : DyK n g o_8.2 := dk_X1_letterOf ko_4 eo_8
            replace e := cl_s e
            obtain ⟨r_9, _, e⟩ := e
            replace e := cl_s e
            obtain ⟨o_10, eo_10, e⟩ := e
            have ko_10 : DyK n g o_10.2 := dk_X1_letterOf ko_8 eo_10
            replace e := br_s e
            rcases e with ⟨_, e⟩ | ⟨_, e⟩
            · exact dk_X6_comesFirst_149 ko_10 e
            · exact dk_X6_comesFirst_149 ko_10 e
    · replace e := br_s e
      rcases e with ⟨_, e⟩ | ⟨_, e⟩
      · exact dk_X6_comesFirst_22 (fun k e => ih k e) k e
      · exact dk_X6_comesFirst_22 (fun k e => ih k e) k e
theorem dk_X6_comesFirst {n : Nat} {g : Hp} {F : Nat} {o : Int32 × Hp} {x0 : Nat} {x1 : Int32} {x2 : Int32} {h : Hp} (k : DyK n g h) (e : sX6_comesFirst F h x0 x1 x2 = some o) : DyK n g o.2 := by
  unfold sX6_comesFirst at e
  exact dk_X6_comesFirst_5 F k e
theorem dk_X6_keep_61 {n : Nat} {g : Hp} {F : Nat} {o : Hp} {x0 : Nat} {x1 : Int32} {x2 : Int32} {x3 : Int32} {k_23 : Hp → Nat → Int32 → Int32 → Int32 → Option (Hp)} (R_23 : ∀ {h : Hp} {y1 : Nat} {y2 : Int32} {y3 : Int32} {y4 : Int32}, DyK n g h → k_23 h y1 y2 y3 y4 = some o → DyK n g o) {h : Hp} (k : DyK n g h) (e : sX6_keep_61 F k_23 h x0 x1 x2 x3 = some o) : DyK n g o := by
  unfold sX6_keep_61 at e
  exact R_23 k e
theorem dk_X6_keep_23 {n : Nat} {g : Hp} {F : Nat} {o : Hp} : ∀ (f : Nat) {h : Hp} {x0 : Nat} {x1 : Int32} {x2 : Int32} {x3 : Int32}, DyK n g h → sX6_keep_23 F f h x0 x1 x2 x3 = some o → DyK n g o := by
  intro f
  induction f with
  | zero => intro h x0 x1 x2 x3 _ e; exact absurd e (by rw [sX6_keep_23]; exact fun z => nomatch z)
  | succ f ih =>
    intro h x0 x1 x2 x3 k e
    rw [sX6_keep_23] at e
    replace e := br_s e
    rcases e with ⟨_, e⟩ | ⟨_, e⟩
    · replace e := cl_s e
      obtain ⟨r_2, _, e⟩ := e
      replace e := cl_s e
      obtain ⟨r_3, _, e⟩ := e
      replace e := (gd_s e).2
      replace e := (gd_s e).2
      replace e := (gd_s e).2
      replace e := (gd_s e).2
      replace e := (gd_s e).2
      replace e := nm_s e
      obtain ⟨h_9, wh_9, e⟩ := e
      have kh_9 : DyK n g h_9 := by rw [wh_9]; exact dk_cpI k
      replace e := cl_s e
      obtain ⟨r_10, _, e⟩ := e
      replace e := (gd_s e).2
      replace e := nm_s e
      obtain ⟨h_12, wh_12, e⟩ := e
      have kh_12 : DyK n g h_12 := by rw [wh_12]; exact dk_wI kh_9
      replace e := nm_s e
      obtain ⟨h_13, wh_13, e⟩ := e
      have kh_13 : DyK n g h_13 := by rw [wh_13]; exact dk_wI kh_12
      rw [← Option.some.inj e]; exact kh_13
    · replace e := nm_s e
      obtain ⟨v_14, wv_14, e⟩ := e
      replace e := cl_s e
      obtain ⟨r_15, _, e⟩ := e
      replace e := (gd_s e).2
      replace e := cl_s e
      obtain ⟨o_17, eo_17, e⟩ := e
      have ko_17 : DyK n g o_17.2 := dk_X6_comesFirst k eo_17
      replace e := br_s e
      rcases e with ⟨_, e⟩ | ⟨_, e⟩
      · exact dk_X6_keep_61 (fun k e => ih k e) ko_17 e
      · replace e := nm_s e
        obtain ⟨v_19, wv_19, e⟩ := e
        exact dk_X6_keep_61 (fun k e => ih k e) ko_17 e
theorem dk_X6_keep {n : Nat} {g : Hp} {F : Nat} {o : Hp} {x0 : Nat} {x1 : Int32} {h : Hp} (k : DyK n g h) (e : sX6_keep F h x0 x1 = some o) : DyK n g o := by
  unfold sX6_keep at e
  replace e := br_s e
  rcases e with ⟨_, e⟩ | ⟨_, e⟩
  · replace e := nm_s e
    obtain ⟨v_2, wv_2, e⟩ := e
    exact dk_X6_keep_23 F k e
  · replace e := nm_s e
    obtain ⟨h_3, wh_3, e⟩ := e
    have kh_3 : DyK n g h_3 := by rw [wh_3]; exact dk_wI k
    rw [← Option.some.inj e]; exact kh_3
theorem dk_X6_takeBack_142 {n : Nat} {g : Hp} {F : Nat} {o : Hp} {x1 : Int32} {x2 : Int32} {x3 : Int32} {x4 : Int32} {x5 : Int64} {x7 : Int32} {t0 : Int32} {t1 : Int32} {k_15 : Hp → Nat → Int32 → Int32 → Int32 → Int32 → Option (Hp)} (R_15 : ∀ {h : Hp} {y2 : Int32} {y3 : Int32} {y4 : Int32} {y5 : Int32}, DyK n g h → k_15 h (n + 48) y2 y3 y4 y5 = some o → DyK n g o) {k_80 : Hp → Nat → Int32 → Int32 → Int32 → Int32 → Int64 → Int32 → Option (Hp)} (R_80 : ∀ {h : Hp} {y2 : Int32} {y3 : Int32} {y4 : Int32} {y5 : Int32} {y6 : Int64} {y7 : Int32}, DyK n g h → k_80 h (n + 48) y2 y3 y4 y5 y6 y7 = some o → DyK n g o) {h : Hp} (k : DyK n g h) (e : sX6_takeBack_142 F k_15 k_80 h (n + 48) x1 x2 x3 x4 x5 x7 t0 t1 = some o) : DyK n g o := by
  unfold sX6_takeBack_142 at e
  replace e := nm_s e
  obtain ⟨v_1, wv_1, e⟩ := e
  replace e := cl_s e
  obtain ⟨r_2, _, e⟩ := e
  replace e := cl_s e
  obtain ⟨o_3, eo_3, e⟩ := e
  have ko_3 : DyK n g o_3 := dk_X6_lay k eo_3
  replace e := cl_s e
  obtain ⟨o_4, eo_4, e⟩ := e
  have ko_4 : DyK n g o_4.2 := dk_X6_isBefore ko_3 eo_4
  replace e := br_s e
  rcases e with ⟨_, e⟩ | ⟨_, e⟩
  · exact dk_X6_takeBack_173 R_15 R_80 ko_4 e
  · replace e := cl_s e
    obtain ⟨o_6, eo_6, e⟩ := e
    have ko_6 : DyK n g o_6 := dk_X6_keep ko_4 eo_6
    exact dk_X6_takeBack_173 R_15 R_80 ko_6 e
theorem dk_X6_takeBack_80 {n : Nat} {g : Hp} {F : Nat} {o : Hp} {k_15 : Hp → Nat → Int32 → Int32 → Int32 → Int32 → Option (Hp)} (R_15 : ∀ {h : Hp} {y2 : Int32} {y3 : Int32} {y4 : Int32} {y5 : Int32}, DyK n g h → k_15 h (n + 48) y2 y3 y4 y5 = some o → DyK n g o) : ∀ (f : Nat) {h : Hp} {x1 : Int32} {x2 : Int32} {x3 : Int32} {x4 : Int32} {x5 : Int64} {x7 : Int32}, DyK n g h → sX6_takeBack_80 F k_15 f h (n + 48) x1 x2 x3 x4 x5 x7 = some o → DyK n g o := by
  intro f
  induction f with
  | zero => intro h x1 x2 x3 x4 x5 x7 _ e; exact absurd e (by rw [sX6_takeBack_80]; exact fun z => nomatch z)
  | succ f ih =>
    intro h x1 x2 x3 x4 x5 x7 k e
    rw [sX6_takeBack_80] at e
    replace e := br_s e
    rcases e with ⟨_, e⟩ | ⟨_, e⟩
    · exact dk_X6_takeBack_179 R_15 k e
    · replace e := br_s e
      rcases e with ⟨_, e⟩ | ⟨_, e⟩
      · exact dk_X6_takeBack_179 R_15 k e
      · replace e := br_s e
        rcases e with ⟨_, e⟩ | ⟨_, e⟩
        · replace e := cl_s e
          obtain ⟨o_4, eo_4, e⟩ := e
          have ko_4 : DyK n g o_4.2 := dk_X11_lowest k eo_4
          replace e := nm_s e
          obtain ⟨v_5, wv_5, e⟩ := e
          replace e := br_s e
          rcases e with ⟨_, e⟩ | ⟨_, e⟩
          · exact dk_X6_takeBack_142 R_15 (fun k e => ih k e) ko_4 e
          · exact dk_X6_takeBack_142 R_15 (fun k e => ih k e) ko_4 e
        · exact dk_X6_takeBack_179 R_15 k e
theorem dk_X6_takeBack_65 {n : Nat} {g : Hp} {F : Nat} {o : Hp} {x1 : Int32} {x2 : Int32} {x3 : Int32} {x4 : Int32} {t0 : Int32} {t1 : Int32} {t2 : Int32} {t3 : Nat} {k_15 : Hp → Nat → Int32 → Int32 → Int32 → Int32 → Option (Hp)} (R_15 : ∀ {h : Hp} {y2 : Int32} {y3 : Int32} {y4 : Int32} {y5 : Int32}, DyK n g h → k_15 h (n + 48) y2 y3 y4 y5 = some o → DyK n g o) {h : Hp} (k : DyK n g h) (e : sX6_takeBack_65 F k_15 h (n + 48) x1 x2 x3 x4 t0 t1 t2 t3 = some o) : DyK n g o := by
  unfold sX6_takeBack_65 at e
  replace e := cl_s e
  obtain ⟨r_1, _, e⟩ := e
  replace e := cl_s e
  obtain ⟨o_2, eo_2, e⟩ := e
  have ko_2 : DyK n g o_2.2 := dk_X3_occupied k eo_2
  replace e := cl_s e
  obtain ⟨o_3, eo_3, e⟩ := e
  have ko_3 : DyK n g o_3.2 := dk_X10_origins ko_2 eo_3
  exact dk_X6_takeBack_80 R_15 F ko_3 e
theorem dk_X6_takeBack_48 {n : Nat} {g : Hp} {F : Nat} {o : Hp} {x1 : Int32} {x2 : Int32} {x3 : Int32} {x4 : Int32} {k_15 : Hp → Nat → Int32 → Int32 → Int32 → Int32 → Option (Hp)} (R_15 : ∀ {h : Hp} {y2 : Int32} {y3 : Int32} {y4 : Int32} {y5 : Int32}, DyK n g h → k_15 h (n + 48) y2 y3 y4 y5 = some o → DyK n g o) {h : Hp} (k : DyK n g h) (e : sX6_takeBack_48 F k_15 h (n + 48) x1 x2 x3 x4 = some o) : DyK n g o := by
  unfold sX6_takeBack_48 at e
  replace e := cl_s e
  obtain ⟨r_1, _, e⟩ := e
  replace e := br_s e
  rcases e with ⟨_, e⟩ | ⟨_, e⟩
  · exact dk_X6_takeBack_65 R_15 k e
  · exact dk_X6_takeBack_65 R_15 k e
theorem dk_X6_takeBack_15 {n : Nat} {g : Hp} {F : Nat} {o : Hp} : ∀ (f : Nat) {h : Hp} {x1 : Int32} {x2 : Int32} {x3 : Int32} {x4 : Int32}, DyK n g h → sX6_takeBack_15 F f h (n + 48) x1 x2 x3 x4 = some o → DyK n g o := by
  intro f
  induction f with
  | zero => intro h x1 x2 x3 x4 _ e; exact absurd e (by rw [sX6_takeBack_15]; exact fun z => nomatch z)
  | succ f ih =>
    intro h x1 x2 x3 x4 k e
    rw [sX6_takeBack_15] at e
    replace e := cl_s e
    obtain ⟨r_1, _, e⟩ := e
    replace e := br_s e
    rcases e with ⟨_, e⟩ | ⟨_, e⟩
    · rw [← Option.some.inj e]; exact k
    · replace e := br_s e
      rcases e with ⟨_, e⟩ | ⟨_, e⟩
      · exact dk_X6_takeBack_48 (fun k e => ih k e) k e
      · replace e := cl_s e
        obtain ⟨r_4, _, e⟩ := e
        replace e := br_s e
        rcases e with ⟨_, e⟩ | ⟨_, e⟩
        · exact dk_X6_takeBack_179 (fun k e => ih k e) k e
        · exact dk_X6_takeBack_48 (fun k e => ih k e) k e
theorem dk_X6_takeBack {n : Nat} {g : Hp} {F : Nat} {o : Hp} {x1 : Int32} {x2 : Int32} {h : Hp} (k : DyK n g h) (e : sX6_takeBack F h (n + 48) x1 x2 = some o) : DyK n g o := by
  unfold sX6_takeBack at e
  replace e := cl_s e
  obtain ⟨r_1, _, e⟩ := e
  replace e := nm_s e
  obtain ⟨v_2, wv_2, e⟩ := e
  exact dk_X6_takeBack_15 F k e
theorem dk_X6_find_225 {n : Nat} {g : Hp} {F : Nat} {o : Int32 × Hp} {x2 : Int64} {x4 : Int32} {k_109 : Hp → Nat → Int64 → Int32 → Option (Int32 × Hp)} (R_109 : ∀ {h : Hp} {y2 : Int64} {y3 : Int32}, DyK n g h → k_109 h (n + 48) y2 y3 = some o → DyK n g o.2) {h : Hp} (k : DyK n g h) (e : sX6_find_225 F k_109 h (n + 48) x2 x4 = some o) : DyK n g o.2 := by
  unfold sX6_find_225 at e
  replace e := nm_s e
  obtain ⟨v_1, wv_1, e⟩ := e
  exact R_109 k e
