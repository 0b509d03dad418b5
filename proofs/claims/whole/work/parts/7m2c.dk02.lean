/-! what stands where stays so: printed -/
theorem dk_X15_blast_105 {n : Nat} {g : Hp} {F : Nat} {o : Hp} {x0 : Nat} {x1 : Nat} {x2 : Int32} {x3 : Int32} {k_8 : Hp → Nat → Nat → Int32 → Int32 → Option (Hp)} (R_8 : ∀ {h : Hp} {y1 : Nat} {y2 : Nat} {y3 : Int32} {y4 : Int32}, DyK n g h → k_8 h y1 y2 y3 y4 = some o → DyK n g o) {h : Hp} (k : DyK n g h) (e : sX15_blast_105 F k_8 h x0 x1 x2 x3 = some o) : DyK n g o := by
  unfold sX15_blast_105 at e
  replace e := nm_s e
  obtain ⟨v_1, wv_1, e⟩ := e
  exact R_8 k e
theorem dk_X15_blast_61 {n : Nat} {g : Hp} {F : Nat} {o : Hp} {x0 : Nat} {x1 : Nat} {x2 : Int32} {x3 : Int32} {t0 : Int32} {k_8 : Hp → Nat → Nat → Int32 → Int32 → Option (Hp)} (R_8 : ∀ {h : Hp} {y1 : Nat} {y2 : Nat} {y3 : Int32} {y4 : Int32}, DyK n g h → k_8 h y1 y2 y3 y4 = some o → DyK n g o) {h : Hp} (k : DyK n g h) (e : sX15_blast_61 F k_8 h x0 x1 x2 x3 t0 = some o) : DyK n g o := by
  unfold sX15_blast_61 at e
  replace e := br_s e
  rcases e with ⟨_, e⟩ | ⟨_, e⟩
  · exact dk_X15_blast_105 R_8 k e
  · replace e := cl_s e
    obtain ⟨r_2, _, e⟩ := e
    replace e := (gd_s e).2
    replace e := br_s e
    rcases e with ⟨_, e⟩ | ⟨_, e⟩
    · exact dk_X15_blast_105 R_8 k e
    · replace e := cl_s e
      obtain ⟨r_5, _, e⟩ := e
      replace e := cl_s e
      obtain ⟨r_6, _, e⟩ := e
      replace e := (gd_s e).2
      replace e := cl_s e
      obtain ⟨o_8, eo_8, e⟩ := e
      have ko_8 : DyK n g o_8.2 := dk_X15_manOf k eo_8
      replace e := br_s e
      rcases e with ⟨_, e⟩ | ⟨_, e⟩
      · replace e := cl_s e
        obtain ⟨o_10, eo_10, e⟩ := e
        have ko_10 : DyK n g o_10 := dk_X15_leave ko_8 eo_10
        exact dk_X15_blast_105 R_8 ko_10 e
      · exact dk_X15_blast_105 R_8 ko_8 e
theorem dk_X15_blast_60 {n : Nat} {g : Hp} {F : Nat} {o : Hp} {x0 : Nat} {x1 : Nat} {x2 : Int32} {x3 : Int32} {k_8 : Hp → Nat → Nat → Int32 → Int32 → Option (Hp)} (R_8 : ∀ {h : Hp} {y1 : Nat} {y2 : Nat} {y3 : Int32} {y4 : Int32}, DyK n g h → k_8 h y1 y2 y3 y4 = some o → DyK n g o) {h : Hp} (k : DyK n g h) (e : sX15_blast_60 F k_8 h x0 x1 x2 x3 = some o) : DyK n g o := by
  unfold sX15_blast_60 at e
  exact dk_X15_blast_61 R_8 k e
theorem dk_X15_blast_8 {n : Nat} {g : Hp} {F : Nat} {o : Hp} : ∀ (f : Nat) {h : Hp} {x0 : Nat} {x1 : Nat} {x2 : Int32} {x3 : Int32}, DyK n g h → sX15_blast_8 F f h x0 x1 x2 x3 = some o → DyK n g o := by
  intro f
  induction f with
  | zero => intro h x0 x1 x2 x3 _ e; exact absurd e (by rw [sX15_blast_8]; exact fun z => nomatch z)
  | succ f ih =>
    intro h x0 x1 x2 x3 k e
    rw [sX15_blast_8] at e
    replace e := br_s e
    rcases e with ⟨_, e⟩ | ⟨_, e⟩
    · rw [← Option.some.inj e]; exact k
    · replace e := (gd_s e).2
      replace e := (gd_s e).2
      replace e := br_s e
      rcases e with ⟨_, e⟩ | ⟨_, e⟩
      · exact dk_X15_blast_60 (fun k e => ih k e) k e
      · replace e := (gd_s e).2
        replace e := (gd_s e).2
        replace e := br_s e
        rcases e with ⟨_, e⟩ | ⟨_, e⟩
        · exact dk_X15_blast_60 (fun k e => ih k e) k e
        · exact dk_X15_blast_61 (fun k e => ih k e) k e
theorem dk_X15_blast {n : Nat} {g : Hp} {F : Nat} {o : Hp} {x0 : Nat} {x1 : Nat} {x2 : Int32} {h : Hp} (k : DyK n g h) (e : sX15_blast F h x0 x1 x2 = some o) : DyK n g o := by
  unfold sX15_blast at e
  replace e := cl_s e
  obtain ⟨o_1, eo_1, e⟩ := e
  have ko_1 : DyK n g o_1 := dk_X15_leave k eo_1
  exact dk_X15_blast_8 F ko_1 e
theorem dk_X15_make_339 {n : Nat} {g : Hp} {F : Nat} {o : Hp} {x0 : Nat} {x1 : Nat} {x2 : Nat} {x3 : Int32} {x4 : Nat} {x5 : Int32} {x6 : Int32} {x7 : Int32} {x8 : Int32} {x9 : Int32} {x10 : Int32} {h : Hp} (k : DyK n g h) (e : sX15_make_339 F h x0 x1 x2 x3 x4 x5 x6 x7 x8 x9 x10 = some o) : DyK n g o := by
  unfold sX15_make_339 at e
  replace e := br_s e
  rcases e with ⟨_, e⟩ | ⟨_, e⟩
  · exact dk_X15_make_365 k e
  · replace e := cl_s e
    obtain ⟨r_2, _, e⟩ := e
    replace e := br_s e
    rcases e with ⟨_, e⟩ | ⟨_, e⟩
    · exact dk_X15_make_365 k e
    · replace e := cl_s e
      obtain ⟨o_4, eo_4, e⟩ := e
      have ko_4 : DyK n g o_4 := dk_X15_blast k eo_4
      exact dk_X15_make_508 ko_4 e
theorem dk_X15_make_333 {n : Nat} {g : Hp} {F : Nat} {o : Hp} {x0 : Nat} {x1 : Nat} {x2 : Nat} {x3 : Int32} {x4 : Nat} {x5 : Int32} {x6 : Int32} {x7 : Int32} {x8 : Int32} {x9 : Int32} {x10 : Int32} {x11 : Int32} {k_294 : Hp → Nat → Nat → Nat → Int32 → Nat → Int32 → Int32 → Int32 → Int32 → Int32 → Int32 → Int32 → Option (Hp)} (R_294 : ∀ {h : Hp} {y1 : Nat} {y2 : Nat} {y3 : Nat} {y4 : Int32} {y5 : Nat} {y6 : Int32} {y7 : Int32} {y8 : Int32} {y9 : Int32} {y10 : Int32} {y11 : Int32} {y12 : Int32}, DyK n g h → k_294 h y1 y2 y3 y4 y5 y6 y7 y8 y9 y10 y11 y12 = some o → DyK n g o) {h : Hp} (k : DyK n g h) (e : sX15_make_333 F k_294 h x0 x1 x2 x3 x4 x5 x6 x7 x8 x9 x10 x11 = some o) : DyK n g o := by
  unfold sX15_make_333 at e
  replace e := nm_s e
  obtain ⟨v_1, wv_1, e⟩ := e
  exact R_294 k e
theorem dk_X15_make_294 {n : Nat} {g : Hp} {F : Nat} {o : Hp} : ∀ (f : Nat) {h : Hp} {x0 : Nat} {x1 : Nat} {x2 : Nat} {x3 : Int32} {x4 : Nat} {x5 : Int32} {x6 : Int32} {x7 : Int32} {x8 : Int32} {x9 : Int32} {x10 : Int32} {x11 : Int32}, DyK n g h → sX15_make_294 F f h x0 x1 x2 x3 x4 x5 x6 x7 x8 x9 x10 x11 = some o → DyK n g o := by
  intro f
  induction f with
  | zero => intro h x0 x1 x2 x3 x4 x5 x6 x7 x8 x9 x10 x11 _ e; exact absurd e (by rw [sX15_make_294]; exact fun z => nomatch z)
  | succ f ih =>
    intro h x0 x1 x2 x3 x4 x5 x6 x7 x8 x9 x10 x11 k e
    rw [sX15_make_294] at e
    replace e := br_s e
    rcases e with ⟨_, e⟩ | ⟨_, e⟩
    · exact dk_X15_make_339 k e
    · replace e := cl_s e
      obtain ⟨o_2, eo_2, e⟩ := e
      have ko_2 : DyK n g o_2.2 := dk_X15_rankFor k eo_2
      replace e := br_s e
      rcases e with ⟨_, e⟩ | ⟨_, e⟩
      · replace e := nm_s e
        obtain ⟨h_4, wh_4, e⟩ := e
        have kh_4 : DyK n g h_4 := by rw [wh_4]; exact dk_wJ ko_2
        exact dk_X15_make_333 (fun k e => ih k e) kh_4 e
      · exact dk_X15_make_333 (fun k e => ih k e) ko_2 e
theorem dk_X15_make_273 {n : Nat} {g : Hp} {F : Nat} {o : Hp} {x0 : Nat} {x1 : Nat} {x2 : Nat} {x3 : Int32} {x4 : Nat} {x5 : Int32} {x6 : Int32} {x7 : Int32} {x8 : Int32} {x9 : Int32} {x10 : Int32} {h : Hp} (k : DyK n g h) (e : sX15_make_273 F h x0 x1 x2 x3 x4 x5 x6 x7 x8 x9 x10 = some o) : DyK n g o := by
  unfold sX15_make_273 at e
  replace e := br_s e
  rcases e with ⟨_, e⟩ | ⟨_, e⟩
  · exact dk_X15_make_339 k e
  · replace e := cl_s e
    obtain ⟨r_2, _, e⟩ := e
    replace e := br_s e
    rcases e with ⟨_, e⟩ | ⟨_, e⟩
    · exact dk_X15_make_294 F k e
    · exact dk_X15_make_339 k e
theorem dk_X15_make_219 {n : Nat} {g : Hp} {F : Nat} {o : Hp} {x0 : Nat} {x1 : Nat} {x2 : Nat} {x3 : Int32} {x4 : Nat} {x5 : Int32} {x6 : Int32} {x7 : Int32} {x8 : Int32} {x9 : Int32} {x10 : Int32} {t0 : Int32} {t1 : Int32} {t2 : Nat} {t3 : Nat} {h : Hp} (k : DyK n g h) (e : sX15_make_219 F h x0 x1 x2 x3 x4 x5 x6 x7 x8 x9 x10 t0 t1 t2 t3 = some o) : DyK n g o := by
  unfold sX15_make_219 at e
  replace e := cl_s e
  obtain ⟨o_1, eo_1, e⟩ := e
  have ko_1 : DyK n g o_1.2 := dk_X15_valueOf k eo_1
  replace e := cl_s e
  obtain ⟨o_2, eo_2, e⟩ := e
  have ko_2 : DyK n g o_2 := dk_X15_come ko_1 eo_2
  replace e := br_s e
  rcases e with ⟨_, e⟩ | ⟨_, e⟩
  · replace e := cl_s e
    obtain ⟨r_4, _, e⟩ := e
    replace e := cl_s e
    obtain ⟨r_5, _, e⟩ := e
    replace e := (gd_s e).2
    replace e := (gd_s e).2
    replace e := nm_s e
    obtain ⟨v_8, wv_8, e⟩ := e
    replace e := cl_s e
    obtain ⟨r_9, _, e⟩ := e
    replace e := (gd_s e).2
    replace e := cl_s e
    obtain ⟨o_11, eo_11, e⟩ := e
    have ko_11 : DyK n g o_11 := dk_X15_leave ko_2 eo_11
    replace e := cl_s e
    obtain ⟨o_12, eo_12, e⟩ := e
    have ko_12 : DyK n g o_12 := dk_X15_come ko_11 eo_12
    exact dk_X15_make_273 ko_12 e
  · exact dk_X15_make_273 ko_2 e
theorem dk_X15_make_193 {n : Nat} {g : Hp} {F : Nat} {o : Hp} {x0 : Nat} {x1 : Nat} {x2 : Nat} {x3 : Int32} {x4 : Nat} {x5 : Int32} {x6 : Int32} {x7 : Int32} {x8 : Int32} {x9 : Int32} {x10 : Int32} {h : Hp} (k : DyK n g h) (e : sX15_make_193 F h x0 x1 x2 x3 x4 x5 x6 x7 x8 x9 x10 = some o) : DyK n g o := by
  unfold sX15_make_193 at e
  replace e := cl_s e
  obtain ⟨r_1, _, e⟩ := e
  replace e := (gd_s e).2
  replace e := br_s e
  rcases e with ⟨_, e⟩ | ⟨_, e⟩
  · exact dk_X15_make_219 k e
  · replace e := cl_s e
    obtain ⟨r_4, _, e⟩ := e
    replace e := (gd_s e).2
    exact dk_X15_make_219 k e
theorem dk_X15_make_159 {n : Nat} {g : Hp} {F : Nat} {o : Hp} {x0 : Nat} {x1 : Nat} {x2 : Nat} {x3 : Int32} {x4 : Nat} {x5 : Int32} {x6 : Int32} {x7 : Int32} {x8 : Int32} {x9 : Int32} {x10 : Int32} {h : Hp} (k : DyK n g h) (e : sX15_make_159 F h x0 x1 x2 x3 x4 x5 x6 x7 x8 x9 x10 = some o) : DyK n g o := by
  unfold sX15_make_159 at e
  replace e := br_s e
  rcases e with ⟨_, e⟩ | ⟨_, e⟩
  · replace e := cl_s e
    obtain ⟨r_3, _, e⟩ := e
    replace e := (gd_s e).2
    replace e := (gd_s e).2
    replace e := nm_s e
    obtain ⟨h_6, wh_6, e⟩ := e
    have kh_6 : DyK n g h_6 := by rw [wh_6]; exact dk_wI k
    exact dk_X15_make_193 kh_6 e
  · replace e := cl_s e
    obtain ⟨o_2, eo_2, e⟩ := e
    have ko_2 : DyK n g o_2 := dk_X15_leave k eo_2
    exact dk_X15_make_193 ko_2 e
theorem dk_X15_make_92 {n : Nat} {g : Hp} {F : Nat} {o : Hp} {x0 : Nat} {x1 : Nat} {x2 : Nat} {x3 : Int32} {x4 : Nat} {x5 : Int32} {x6 : Int32} {x7 : Int32} {x8 : Int32} {x9 : Int32} {x10 : Int32} {t0 : Int32} {t1 : Nat} {t2 : Nat} {h : Hp} (k : DyK n g h) (e : sX15_make_92 F h x0 x1 x2 x3 x4 x5 x6 x7 x8 x9 x10 t0 t1 t2 = some o) : DyK n g o := by
  unfold sX15_make_92 at e
  replace e := cl_s e
  obtain ⟨o_1, eo_1, e⟩ := e
  have ko_1 : DyK n g o_1 := dk_X15_leave k eo_1
  replace e := cl_s e
  obtain ⟨r_2, _, e⟩ := e
  replace e := (gd_s e).2
  replace e := nm_s e
  obtain ⟨v_4, wv_4, e⟩ := e
  replace e := cl_s e
  obtain ⟨r_5, _, e⟩ := e
  replace e := br_s e
  rcases e with ⟨_, e⟩ | ⟨_, e⟩
  · exact dk_X15_make_159 ko_1 e
  · replace e := cl_s e
    obtain ⟨r_7, _, e⟩ := e
    replace e := (gd_s e).2
    replace e := cl_s e
    obtain ⟨r_9, _, e⟩ := e
    replace e := br_s e
    rcases e with ⟨_, e⟩ | ⟨_, e⟩
    · exact dk_X15_make_159 ko_1 e
    · replace e := cl_s e
      obtain ⟨r_11, _, e⟩ := e
      replace e := (gd_s e).2
      replace e := br_s e
      rcases e with ⟨_, e⟩ | ⟨_, e⟩
      · exact dk_X15_make_159 ko_1 e
      · replace e := cl_s e
        obtain ⟨r_14, _, e⟩ := e
        replace e := (gd_s e).2
        replace e := (gd_s e).2
        replace e := nm_s e
        obtain ⟨h_17, wh_17, e⟩ := e
        have kh_17 : DyK n g h_17 := by rw [wh_17]; exact dk_wI ko_1
        exact dk_X15_make_159 kh_17 e
theorem dk_X15_make_65 {n : Nat} {g : Hp} {F : Nat} {o : Hp} {x0 : Nat} {x1 : Nat} {x2 : Nat} {x3 : Int32} {x4 : Nat} {x5 : Int32} {x6 : Int32} {x7 : Int32} {x8 : Int32} {x9 : Int32} {t0 : Int32} {h : Hp} (k : DyK n g h) (e : sX15_make_65 F h x0 x1 x2 x3 x4 x5 x6 x7 x8 x9 t0 = some o) : DyK n g o := by
  unfold sX15_make_65 at e
  replace e := br_s e
  rcases e with ⟨_, e⟩ | ⟨_, e⟩
  · exact dk_X15_make_159 k e
  · replace e := br_s e
    rcases e with ⟨_, e⟩ | ⟨_, e⟩
    · replace e := cl_s e
      obtain ⟨r_3, _, e⟩ := e
      replace e := (gd_s e).2
      exact dk_X15_make_92 k e
    · exact dk_X15_make_92 k e
theorem dk_X15_make {n : Nat} {g : Hp} {F : Nat} {o : Hp} {x0 : Nat} {x1 : Nat} {x2 : Nat} {x3 : Int32} {x4 : Nat} {h : Hp} (k : DyK n g h) (e : sX15_make F h x0 x1 x2 x3 x4 = some o) : DyK n g o := by
  unfold sX15_make at e
  replace e := cl_s e
  obtain ⟨o_1, eo_1, e⟩ := e
  have ko_1 : DyK n g o_1 := dk_X12_copy k eo_1
  replace e := nm_s e
  obtain ⟨v_2, wv_2, e⟩ := e
  replace e := cl_s e
  obtain ⟨r_3, _, e⟩ := e
  replace e := (gd_s e).2
  replace e := nm_s e
  obtain ⟨v_5, wv_5, e⟩ := e
  replace e := cl_s e
  obtain ⟨r_6, _, e⟩ := e
  replace e := (gd_s e).2
  replace e := nm_s e
  obtain ⟨v_8, wv_8, e⟩ := e
  replace e := cl_s e
  obtain ⟨r_9, _, e⟩ := e
  replace e := (gd_s e).2
  replace e := nm_s e
  obtain ⟨v_11, wv_11, e⟩ := e
  replace e := cl_s e
  obtain ⟨r_12, _, e⟩ := e
  replace e := (gd_s e).2
  replace e := nm_s e
  obtain ⟨v_14, wv_14, e⟩ := e
  replace e := nm_s e
  obtain ⟨h_15, wh_15, e⟩ := e
  have kh_15 : DyK n g h_15 := by rw [wh_15]; exact dk_wI ko_1
  replace e := cl_s e
  obtain ⟨r_16, _, e⟩ := e
  replace e := (gd_s e).2
  replace e := br_s e
  rcases e with ⟨_, e⟩ | ⟨_, e⟩
  · exact dk_X15_make_65 kh_15 e
  · exact dk_X15_make_65 kh_15 e
theorem dk_X15_isSafe_152 {n : Nat} {g : Hp} {F : Nat} {o : Int32 × Hp} {t0 : Int32} {h : Hp} (k : DyK n g h) (e : sX15_isSafe_152 F h t0 = some o) : DyK n g o.2 := by
  unfold sX15_isSafe_152 at e
  replace e := (gd_s e).2
  rw [← Option.some.inj e]; exact k
theorem dk_X15_isSafe_147 {n : Nat} {g : Hp} {F : Nat} {o : Int32 × Hp} {h : Hp} (k : DyK n g h) (e : sX15_isSafe_147 F h = some o) : DyK n g o.2 := by
  unfold sX15_isSafe_147 at e
  exact dk_X15_isSafe_152 k e
theorem dk_X15_isSafe_114 {n : Nat} {g : Hp} {F : Nat} {o : Int32 × Hp} {x0 : Nat} {x1 : Nat} {x4 : Int32} {h : Hp} (k : DyK n g h) (e : sX15_isSafe_114 F h x0 x1 x4 = some o) : DyK n g o.2 := by
  unfold sX15_isSafe_114 at e
  replace e := cl_s e
  obtain ⟨r_1, _, e⟩ := e
  replace e := br_s e
  rcases e with ⟨_, e⟩ | ⟨_, e⟩
  · exact dk_X15_isSafe_147 k e
  · replace e := br_s e
    rcases e with ⟨_, e⟩ | ⟨_, e⟩
    · exact dk_X15_isSafe_147 k e
    · replace e := cl_s e
      obtain ⟨r_4, _, e⟩ := e
      replace e := cl_s e
      obtain ⟨o_5, eo_5, e⟩ := e
      have ko_5 : DyK n g o_5.2 := dk_X15_isAttacked k eo_5
      replace e := br_s e
      rcases e with ⟨_, e⟩ | ⟨_, e⟩
      · exact dk_X15_isSafe_147 ko_5 e
      · exact dk_X15_isSafe_152 ko_5 e
theorem dk_X15_isSafe_112 {n : Nat} {g : Hp} {F : Nat} {o : Int32 × Hp} {h : Hp} (k : DyK n g h) (e : sX15_isSafe_112 F h = some o) : DyK n g o.2 := by
  unfold sX15_isSafe_112 at e
  rw [← Option.some.inj e]; exact k
theorem dk_X15_isSafe_80 {n : Nat} {g : Hp} {F : Nat} {o : Int32 × Hp} {x0 : Nat} {x1 : Nat} {x4 : Int32} {x5 : Int32} {t0 : Int32} {h : Hp} (k : DyK n g h) (e : sX15_isSafe_80 F h x0 x1 x4 x5 t0 = some o) : DyK n g o.2 := by
  unfold sX15_isSafe_80 at e
  replace e := br_s e
  rcases e with ⟨_, e⟩ | ⟨_, e⟩
  · exact dk_X15_isSafe_112 k e
  · replace e := br_s e
    rcases e with ⟨_, e⟩ | ⟨_, e⟩
    · replace e := cl_s e
      obtain ⟨r_3, _, e⟩ := e
      replace e := cl_s e
      obtain ⟨o_4, eo_4, e⟩ := e
      have ko_4 : DyK n g o_4.2 := dk_X15_isAttacked k eo_4
      replace e := br_s e
      rcases e with ⟨_, e⟩ | ⟨_, e⟩
      · exact dk_X15_isSafe_114 ko_4 e
      · exact dk_X15_isSafe_112 ko_4 e
    · exact dk_X15_isSafe_114 k e
theorem dk_X15_isSafe_79 {n : Nat} {g : Hp} {F : Nat} {o : Int32 × Hp} {x0 : Nat} {x1 : Nat} {x4 : Int32} {x5 : Int32} {h : Hp} (k : DyK n g h) (e : sX15_isSafe_79 F h x0 x1 x4 x5 = some o) : DyK n g o.2 := by
  unfold sX15_isSafe_79 at e
  exact dk_X15_isSafe_80 k e
theorem dk_X15_isSafe {n : Nat} {g : Hp} {F : Nat} {o : Int32 × Hp} {x0 : Nat} {x1 : Nat} {x2 : Nat} {x3 : Int32} {h : Hp} (k : DyK n g h) (e : sX15_isSafe F h x0 x1 x2 x3 = some o) : DyK n g o.2 := by
  unfold sX15_isSafe at e
  replace e := cl_s e
  obtain ⟨r_1, _, e⟩ := e
  replace e := cl_s e
  obtain ⟨o_2, eo_2, e⟩ := e
  have ko_2 : DyK n g o_2 := dk_X15_make k eo_2
  replace e := cl_s e
  obtain ⟨r_3, _, e⟩ := e
  replace e := cl_s e
  obtain ⟨o_4, eo_4, e⟩ := e
  have ko_4 : DyK n g o_4.2 := dk_X15_royalOf ko_2 eo_4
  replace e := cl_s e
  obtain ⟨o_5, eo_5, e⟩ := e
  have ko_5 : DyK n g o_5.2 := dk_X15_royalOf ko_4 eo_5
  replace e := br_s e
  rcases e with ⟨_, e⟩ | ⟨_, e⟩
  · exact dk_X15_isSafe_114 ko_5 e
  · replace e := cl_s e
    obtain ⟨r_7, _, e⟩ := e
    replace e := cl_s e
    obtain ⟨o_8, eo_8, e⟩ := e
    have ko_8 : DyK n g o_8.2 := dk_X15_royalOf ko_5 eo_8
    replace e := cl_s e
    obtain ⟨o_9, eo_9, e⟩ := e
    have ko_9 : DyK n g o_9.2 := dk_X15_royalOf ko_8 eo_9
    replace e := br_s e
    rcases e with ⟨_, e⟩ | ⟨_, e⟩
    · exact dk_X15_isSafe_79 ko_9 e
    · replace e := br_s e
      rcases e with ⟨_, e⟩ | ⟨_, e⟩
      · exact dk_X15_isSafe_80 ko_9 e
      · exact dk_X15_isSafe_79 ko_9 e
theorem dk_X15_legal_79 {n : Nat} {g : Hp} {F : Nat} {o : Hp} {x0 : Nat} {x1 : Nat} {x2 : Nat} {x3 : Int32} {x4 : Int32} {x5 : Int32} {k_28 : Hp → Nat → Nat → Nat → Int32 → Int32 → Int32 → Option (Hp)} (R_28 : ∀ {h : Hp} {y1 : Nat} {y2 : Nat} {y3 : Nat} {y4 : Int32} {y5 : Int32} {y6 : Int32}, DyK n g h → k_28 h y1 y2 y3 y4 y5 y6 = some o → DyK n g o) {h : Hp} (k : DyK n g h) (e : sX15_legal_79 F k_28 h x0 x1 x2 x3 x4 x5 = some o) : DyK n g o := by
  unfold sX15_legal_79 at e
  replace e := nm_s e
  obtain ⟨v_1, wv_1, e⟩ := e
  exact R_28 k e
theorem dk_X15_legal_73 {n : Nat} {g : Hp} {F : Nat} {o : Hp} {x0 : Nat} {x1 : Nat} {x2 : Nat} {x3 : Int32} {x5 : Int32} {t0 : Int32} {t1 : Int32} {k_28 : Hp → Nat → Nat → Nat → Int32 → Int32 → Int32 → Option (Hp)} (R_28 : ∀ {h : Hp} {y1 : Nat} {y2 : Nat} {y3 : Nat} {y4 : Int32} {y5 : Int32} {y6 : Int32}, DyK n g h → k_28 h y1 y2 y3 y4 y5 y6 = some o → DyK n g o) {h : Hp} (k : DyK n g h) (e : sX15_legal_73 F k_28 h x0 x1 x2 x3 x5 t0 t1 = some o) : DyK n g o := by
  unfold sX15_legal_73 at e
  replace e := nm_s e
  obtain ⟨v_1, wv_1, e⟩ := e
  replace e := nm_s e
  obtain ⟨v_2, wv_2, e⟩ := e
  exact dk_X15_legal_79 R_28 k e
theorem dk_X15_legal_28 {n : Nat} {g : Hp} {F : Nat} {o : Hp} : ∀ (f : Nat) {h : Hp} {x0 : Nat} {x1 : Nat} {x2 : Nat} {x3 : Int32} {x4 : Int32} {x5 : Int32}, DyK n g h → sX15_legal_28 F f h x0 x1 x2 x3 x4 x5 = some o → DyK n g o := by
  intro f
  induction f with
  | zero => intro h x0 x1 x2 x3 x4 x5 _ e; exact absurd e (by rw [sX15_legal_28]; exact fun z => nomatch z)
  | succ f ih =>
    intro h x0 x1 x2 x3 x4 x5 k e
    rw [sX15_legal_28] at e
    replace e := br_s e
    rcases e with ⟨_, e⟩ | ⟨_, e⟩
    · replace e := nm_s e
      obtain ⟨h_2, wh_2, e⟩ := e
      have kh_2 : DyK n g h_2 := by rw [wh_2]; exact dk_wI k
      replace e := cl_s e
      obtain ⟨r_3, _, e⟩ := e
      replace e := br_s e
      rcases e with ⟨_, e⟩ | ⟨_, e⟩
      · exact dk_X15_legal_152 kh_2 e
      · replace e := br_s e
        rcases e with ⟨_, e⟩ | ⟨_, e⟩
        · exact dk_X15_legal_152 kh_2 e
        · exact dk_X15_legal_110 F kh_2 e
    · replace e := cl_s e
      obtain ⟨o_6, eo_6, e⟩ := e
      have ko_6 : DyK n g o_6.2 := dk_X15_isSafe k eo_6
      replace e := br_s e
      rcases e with ⟨_, e⟩ | ⟨_, e⟩
      · exact dk_X15_legal_79 (fun k e => ih k e) ko_6 e
      · replace e := cl_s e
        obtain ⟨o_8, eo_8, e⟩ := e
        have ko_8 : DyK n g o_8 := dk_X13_set ko_6 eo_8
        replace e := cl_s e
        obtain ⟨r_9, _, e⟩ := e
        replace e := (gd_s e).2
        replace e := br_s e
        rcases e with ⟨_, e⟩ | ⟨_, e⟩
        · exact dk_X15_legal_73 (fun k e => ih k e) ko_8 e
        · exact dk_X15_legal_73 (fun k e => ih k e) ko_8 e
theorem dk_X15_legal {n : Nat} {g : Hp} {F : Nat} {o : Hp} {x0 : Nat} {x1 : Nat} {x2 : Nat} {h : Hp} (k : DyK n g h) (e : sX15_legal F h x0 x1 x2 = some o) : DyK n g o := by
  unfold sX15_legal at e
  replace e := nm_s e
  obtain ⟨h_1, wh_1, e⟩ := e
  have kh_1 : DyK n g h_1 := by rw [wh_1]; exact dk_wI k
  replace e := cl_s e
  obtain ⟨o_2, eo_2, e⟩ := e
  have ko_2 : DyK n g o_2.2 := dk_X15_early kh_1 eo_2
  replace e := br_s e
  rcases e with ⟨_, e⟩ | ⟨_, e⟩
  · replace e := cl_s e
    obtain ⟨o_4, eo_4, e⟩ := e
    have ko_4 : DyK n g o_4 := dk_X15_tryAll ko_2 eo_4
    exact dk_X15_legal_28 F ko_4 e
  · rw [← Option.some.inj e]; exact ko_2
theorem dk_X15_hasCatch_11 {n : Nat} {g : Hp} {F : Nat} {o : Int32 × Hp} : ∀ (f : Nat) {h : Hp} {x0 : Nat} {x2 : Int32}, DyK n g h → sX15_hasCatch_11 F f h x0 x2 = some o → DyK n g o.2 := by
  intro f
  induction f with
  | zero => intro h x0 x2 _ e; exact absurd e (by rw [sX15_hasCatch_11]; exact fun z => nomatch z)
  | succ f ih =>
    intro h x0 x2 k e
    rw [sX15_hasCatch_11] at e
    replace e := cl_s e
    obtain ⟨r_1, _, e⟩ := e
    replace e := br_s e
    rcases e with ⟨_, e⟩ | ⟨_, e⟩
    · rw [← Option.some.inj e]; exact k
    · replace e := cl_s e
      obtain ⟨r_3, _, e⟩ := e
      replace e := cl_s e
      obtain ⟨r_4, _, e⟩ := e
      replace e := (gd_s e).2
      replace e := br_s e
      rcases e with ⟨_, e⟩ | ⟨_, e⟩
      · rw [← Option.some.inj e]; exact k
      · replace e := nm_s e
        obtain ⟨v_7, wv_7, e⟩ := e
        exact ih k e
theorem dk_X15_hasCatch {n : Nat} {g : Hp} {F : Nat} {o : Int32 × Hp} {x0 : Nat} {x1 : Nat} {h : Hp} (k : DyK n g h) (e : sX15_hasCatch F h x0 x1 = some o) : DyK n g o.2 := by
  unfold sX15_hasCatch at e
  replace e := cl_s e
  obtain ⟨r_1, _, e⟩ := e
  replace e := cl_s e
  obtain ⟨o_2, eo_2, e⟩ := e
  have ko_2 : DyK n g o_2 := dk_X15_legal k eo_2
  exact dk_X15_hasCatch_11 F ko_2 e
theorem dk_X15_isSame_237 {n : Nat} {g : Hp} {F : Nat} {o : Int32 × Hp} {h : Hp} (k : DyK n g h) (e : sX15_isSame_237 F h = some o) : DyK n g o.2 := by
  unfold sX15_isSame_237 at e
  exact dk_X15_isSame_242 k e
theorem dk_X15_isSame_212 {n : Nat} {g : Hp} {F : Nat} {o : Int32 × Hp} {x0 : Nat} {x1 : Nat} {x2 : Nat} {x3 : Int32} {x4 : Int32} {h : Hp} (k : DyK n g h) (e : sX15_isSame_212 F h x0 x1 x2 x3 x4 = some o) : DyK n g o.2 := by
  unfold sX15_isSame_212 at e
  replace e := br_s e
  rcases e with ⟨_, e⟩ | ⟨_, e⟩
  · exact dk_X15_isSame_241 k e
  · replace e := br_s e
    rcases e with ⟨_, e⟩ | ⟨_, e⟩
    · replace e := cl_s e
      obtain ⟨o_3, eo_3, e⟩ := e
      have ko_3 : DyK n g o_3.2 := dk_X15_hasCatch k eo_3
      replace e := br_s e
      rcases e with ⟨_, e⟩ | ⟨_, e⟩
      · replace e := cl_s e
        obtain ⟨o_5, eo_5, e⟩ := e
        have ko_5 : DyK n g o_5.2 := dk_X15_hasCatch ko_3 eo_5
        replace e := br_s e
        rcases e with ⟨_, e⟩ | ⟨_, e⟩
        · exact dk_X15_isSame_237 ko_5 e
        · exact dk_X15_isSame_241 ko_5 e
      · exact dk_X15_isSame_241 ko_3 e
    · exact dk_X15_isSame_237 k e
theorem dk_X15_isSame_204 {n : Nat} {g : Hp} {F : Nat} {o : Int32 × Hp} {x0 : Nat} {x1 : Nat} {x2 : Nat} {x3 : Int32} {x5 : Int32} {t0 : Int32} {k_168 : Hp → Nat → Nat → Nat → Int32 → Int32 → Int32 → Option (Int32 × Hp)} (R_168 : ∀ {h : Hp} {y1 : Nat} {y2 : Nat} {y3 : Nat} {y4 : Int32} {y5 : Int32} {y6 : Int32}, DyK n g h → k_168 h y1 y2 y3 y4 y5 y6 = some o → DyK n g o.2) {h : Hp} (k : DyK n g h) (e : sX15_isSame_204 F k_168 h x0 x1 x2 x3 x5 t0 = some o) : DyK n g o.2 := by
  unfold sX15_isSame_204 at e
  replace e := nm_s e
  obtain ⟨v_1, wv_1, e⟩ := e
  exact R_168 k e
theorem dk_X15_isSame_168 {n : Nat} {g : Hp} {F : Nat} {o : Int32 × Hp} : ∀ (f : Nat) {h : Hp} {x0 : Nat} {x1 : Nat} {x2 : Nat} {x3 : Int32} {x4 : Int32} {x5 : Int32}, DyK n g h → sX15_isSame_168 F f h x0 x1 x2 x3 x4 x5 = some o → DyK n g o.2 := by
  intro f
  induction f with
  | zero => intro h x0 x1 x2 x3 x4 x5 _ e; exact absurd e (by rw [sX15_isSame_168]; exact fun z => nomatch z)
  | succ f ih =>
    intro h x0 x1 x2 x3 x4 x5 k e
    rw [sX15_isSame_168] at e
    replace e := br_s e
    rcases e with ⟨_, e⟩ | ⟨_, e⟩
    · exact dk_X15_isSame_212 k e
    · replace e := br_s e
      rcases e with ⟨_, e⟩ | ⟨_, e⟩
      · exact dk_X15_isSame_212 k e
      · replace e := cl_s e
        obtain ⟨r_3, _, e⟩ := e
        replace e := (gd_s e).2
        replace e := cl_s e
        obtain ⟨r_5, _, e⟩ := e
        replace e := (gd_s e).2
        replace e := br_s e
        rcases e with ⟨_, e⟩ | ⟨_, e⟩
        · exact dk_X15_isSame_204 (fun k e => ih k e) k e
        · exact dk_X15_isSame_204 (fun k e => ih k e) k e
theorem dk_X15_isSame_163 {n : Nat} {g : Hp} {F : Nat} {o : Int32 × Hp} {x0 : Nat} {x1 : Nat} {x2 : Nat} {x3 : Int32} {t0 : Int32} {h : Hp} (k : DyK n g h) (e : sX15_isSame_163 F h x0 x1 x2 x3 t0 = some o) : DyK n g o.2 := by
  unfold sX15_isSame_163 at e
  exact dk_X15_isSame_168 F k e
theorem dk_X15_isSame_147 {n : Nat} {g : Hp} {F : Nat} {o : Int32 × Hp} {x0 : Nat} {x1 : Nat} {x2 : Nat} {x3 : Int32} {h : Hp} (k : DyK n g h) (e : sX15_isSame_147 F h x0 x1 x2 x3 = some o) : DyK n g o.2 := by
  unfold sX15_isSame_147 at e
  replace e := br_s e
  rcases e with ⟨_, e⟩ | ⟨_, e⟩
  · exact dk_X15_isSame_163 k e
  · exact dk_X15_isSame_163 k e
theorem dk_X15_isSame_140 {n : Nat} {g : Hp} {F : Nat} {o : Int32 × Hp} {x0 : Nat} {x1 : Nat} {x2 : Nat} {x4 : Int32} {t0 : Int32} {k_107 : Hp → Nat → Nat → Nat → Int32 → Int32 → Option (Int32 × Hp)} (R_107 : ∀ {h : Hp} {y1 : Nat} {y2 : Nat} {y3 : Nat} {y4 : Int32} {y5 : Int32}, DyK n g h → k_107 h y1 y2 y3 y4 y5 = some o → DyK n g o.2) {h : Hp} (k : DyK n g h) (e : sX15_isSame_140 F k_107 h x0 x1 x2 x4 t0 = some o) : DyK n g o.2 := by
  unfold sX15_isSame_140 at e
  replace e := nm_s e
  obtain ⟨v_1, wv_1, e⟩ := e
  exact R_107 k e
theorem dk_X15_isSame_107 {n : Nat} {g : Hp} {F : Nat} {o : Int32 × Hp} : ∀ (f : Nat) {h : Hp} {x0 : Nat} {x1 : Nat} {x2 : Nat} {x3 : Int32} {x4 : Int32}, DyK n g h → sX15_isSame_107 F f h x0 x1 x2 x3 x4 = some o → DyK n g o.2 := by
  intro f
  induction f with
  | zero => intro h x0 x1 x2 x3 x4 _ e; exact absurd e (by rw [sX15_isSame_107]; exact fun z => nomatch z)
  | succ f ih =>
    intro h x0 x1 x2 x3 x4 k e
    rw [sX15_isSame_107] at e
    replace e := br_s e
    rcases e with ⟨_, e⟩ | ⟨_, e⟩
    · exact dk_X15_isSame_147 k e
    · replace e := br_s e
      rcases e with ⟨_, e⟩ | ⟨_, e⟩
      · exact dk_X15_isSame_147 k e
      · replace e := cl_s e
        obtain ⟨r_3, _, e⟩ := e
        replace e := (gd_s e).2
        replace e := cl_s e
        obtain ⟨r_5, _, e⟩ := e
        replace e := (gd_s e).2
        replace e := br_s e
        rcases e with ⟨_, e⟩ | ⟨_, e⟩
        · exact dk_X15_isSame_140 (fun k e => ih k e) k e
        · exact dk_X15_isSame_140 (fun k e => ih k e) k e
theorem dk_X15_isSame_104 {n : Nat} {g : Hp} {F : Nat} {o : Int32 × Hp} {x0 : Nat} {x1 : Nat} {x2 : Nat} {x3 : Int32} {h : Hp} (k : DyK n g h) (e : sX15_isSame_104 F h x0 x1 x2 x3 = some o) : DyK n g o.2 := by
  unfold sX15_isSame_104 at e
  exact dk_X15_isSame_107 F k e
theorem dk_X15_isSame_97 {n : Nat} {g : Hp} {F : Nat} {o : Int32 × Hp} {x0 : Nat} {x1 : Nat} {x2 : Nat} {x4 : Int32} {t0 : Int32} {k_62 : Hp → Nat → Nat → Nat → Int32 → Int32 → Option (Int32 × Hp)} (R_62 : ∀ {h : Hp} {y1 : Nat} {y2 : Nat} {y3 : Nat} {y4 : Int32} {y5 : Int32}, DyK n g h → k_62 h y1 y2 y3 y4 y5 = some o → DyK n g o.2) {h : Hp} (k : DyK n g h) (e : sX15_isSame_97 F k_62 h x0 x1 x2 x4 t0 = some o) : DyK n g o.2 := by
  unfold sX15_isSame_97 at e
  replace e := nm_s e
  obtain ⟨v_1, wv_1, e⟩ := e
  exact R_62 k e
theorem dk_X15_isSame_62 {n : Nat} {g : Hp} {F : Nat} {o : Int32 × Hp} : ∀ (f : Nat) {h : Hp} {x0 : Nat} {x1 : Nat} {x2 : Nat} {x3 : Int32} {x4 : Int32}, DyK n g h → sX15_isSame_62 F f h x0 x1 x2 x3 x4 = some o → DyK n g o.2 := by
  intro f
  induction f with
  | zero => intro h x0 x1 x2 x3 x4 _ e; exact absurd e (by rw [sX15_isSame_62]; exact fun z => nomatch z)
  | succ f ih =>
    intro h x0 x1 x2 x3 x4 k e
    rw [sX15_isSame_62] at e
    replace e := br_s e
    rcases e with ⟨_, e⟩ | ⟨_, e⟩
    · exact dk_X15_isSame_104 k e
    · replace e := br_s e
      rcases e with ⟨_, e⟩ | ⟨_, e⟩
      · exact dk_X15_isSame_104 k e
      · replace e := cl_s e
        obtain ⟨r_3, _, e⟩ := e
        replace e := (gd_s e).2
        replace e := cl_s e
        obtain ⟨r_5, _, e⟩ := e
        replace e := (gd_s e).2
        replace e := br_s e
        rcases e with ⟨_, e⟩ | ⟨_, e⟩
        · exact dk_X15_isSame_97 (fun k e => ih k e) k e
        · exact dk_X15_isSame_97 (fun k e => ih k e) k e
theorem dk_X15_isSame_58 {n : Nat} {g : Hp} {F : Nat} {o : Int32 × Hp} {x0 : Nat} {x1 : Nat} {x2 : Nat} {t0 : Int32} {h : Hp} (k : DyK n g h) (e : sX15_isSame_58 F h x0 x1 x2 t0 = some o) : DyK n g o.2 := by
  unfold sX15_isSame_58 at e
  exact dk_X15_isSame_62 F k e
theorem dk_X15_isSame_57 {n : Nat} {g : Hp} {F : Nat} {o : Int32 × Hp} {x0 : Nat} {x1 : Nat} {x2 : Nat} {h : Hp} (k : DyK n g h) (e : sX15_isSame_57 F h x0 x1 x2 = some o) : DyK n g o.2 := by
  unfold sX15_isSame_57 at e
  exact dk_X15_isSame_58 k e
theorem dk_X15_isSame {n : Nat} {g : Hp} {F : Nat} {o : Int32 × Hp} {x0 : Nat} {x1 : Nat} {x2 : Nat} {h : Hp} (k : DyK n g h) (e : sX15_isSame F h x0 x1 x2 = some o) : DyK n g o.2 := by
  unfold sX15_isSame at e
  replace e := br_s e
  rcases e with ⟨_, e⟩ | ⟨_, e⟩
  · replace e := br_s e
    rcases e with ⟨_, e⟩ | ⟨_, e⟩
    · replace e := cl_s e
      obtain ⟨r_3, _, e⟩ := e
      replace e := (gd_s e).2
      replace e := cl_s e
      obtain ⟨r_5, _, e⟩ := e
      replace e := (gd_s e).2
      replace e := br_s e
      rcases e with ⟨_, e⟩ | ⟨_, e⟩
      · replace e := cl_s e
        obtain ⟨r_8, _, e⟩ := e
        replace e := (gd_s e).2
        replace e := cl_s e
        obtain ⟨r_10, _, e⟩ := e
        replace e := (gd_s e).2
        replace e := br_s e
        rcases e with ⟨_, e⟩ | ⟨_, e⟩
        · exact dk_X15_isSame_58 k e
        · exact dk_X15_isSame_57 k e
      · exact dk_X15_isSame_57 k e
    · exact dk_X15_isSame_57 k e
  · exact dk_X15_isSame_57 k e
theorem dk_X15_same {n : Nat} {g : Hp} {F : Nat} {o : Int32 × Hp} {x0 : Nat} {x1 : Int32} {x2 : Int32} {h : Hp} (k : DyK n g h) (e : sX15_same F h x0 x1 x2 = some o) : DyK n g o.2 := by
  unfold sX15_same at e
  replace e := cl_s e
  obtain ⟨o_1, eo_1, e⟩ := e
  have ko_1 : DyK n g o_1.2 := dk_X15_has k eo_1
  replace e := br_s e
  rcases e with ⟨_, e⟩ | ⟨_, e⟩
  · exact dk_X15_same_39 ko_1 e
  · replace e := cl_s e
    obtain ⟨o_3, eo_3, e⟩ := e
    have ko_3 : DyK n g o_3.2 := dk_X15_has ko_1 eo_3
    replace e := br_s e
    rcases e with ⟨_, e⟩ | ⟨_, e⟩
    · exact dk_X15_same_39 ko_3 e
    · replace e := cl_s e
      obtain ⟨r_5, _, e⟩ := e
      replace e := (gd_s e).2
      replace e := cl_s e
      obtain ⟨r_7, _, e⟩ := e
      replace e := cl_s e
      obtain ⟨r_8, _, e⟩ := e
      replace e := (gd_s e).2
      replace e := cl_s e
      obtain ⟨r_10, _, e⟩ := e
      replace e := cl_s e
      obtain ⟨o_11, eo_11, e⟩ := e
      have ko_11 : DyK n g o_11.2 := dk_X15_isSame ko_3 eo_11
      replace e := br_s e
      rcases e with ⟨_, e⟩ | ⟨_, e⟩
      · exact dk_X15_same_39 ko_11 e
      · exact dk_X15_same_40 ko_11 e
theorem dk_X15_at_61 {n : Nat} {g : Hp} {o : Int32 × Hp} {t0 : Int32} {h : Hp} (k : DyK n g h) (e : sX15_at_61 h t0 = some o) : DyK n g o.2 := by
  unfold sX15_at_61 at e
  rw [← Option.some.inj e]; exact k
theorem dk_X15_at_12 {n : Nat} {g : Hp} {o : Int32 × Hp} {h : Hp} (k : DyK n g h) (e : sX15_at_12 h = some o) : DyK n g o.2 := by
  unfold sX15_at_12 at e
  exact dk_X15_at_61 k e
theorem dk_X15_at {n : Nat} {g : Hp} {o : Int32 × Hp} {x0 : Nat} {x1 : Int32} {x2 : Int32} {h : Hp} (k : DyK n g h) (e : sX15_at h x0 x1 x2 = some o) : DyK n g o.2 := by
  unfold sX15_at at e
  replace e := br_s e
  rcases e with ⟨_, e⟩ | ⟨_, e⟩
  · exact dk_X15_at_12 k e
  · replace e := br_s e
    rcases e with ⟨_, e⟩ | ⟨_, e⟩
    · replace e := cl_s e
      obtain ⟨o_3, eo_3, e⟩ := e
      have ko_3 : DyK n g o_3.2 := dk_X15_has k eo_3
      replace e := br_s e
      rcases e with ⟨_, e⟩ | ⟨_, e⟩
      · exact dk_X15_at_61 ko_3 e
      · replace e := cl_s e
        obtain ⟨r_5, _, e⟩ := e
        replace e := (gd_s e).2
        replace e := cl_s e
        obtain ⟨r_7, _, e⟩ := e
        replace e := cl_s e
        obtain ⟨r_8, _, e⟩ := e
        replace e := (gd_s e).2
        replace e := br_s e
        rcases e with ⟨_, e⟩ | ⟨_, e⟩
        · exact dk_X15_at_61 ko_3 e
        · replace e := cl_s e
          obtain ⟨r_11, _, e⟩ := e
          replace e := (gd_s e).2
          replace e := cl_s e
          obtain ⟨r_13, _, e⟩ := e
          replace e := cl_s e
          obtain ⟨r_14, _, e⟩ := e
          replace e := (gd_s e).2
          exact dk_X15_at_61 ko_3 e
    · exact dk_X15_at_12 k e
theorem dk_X15_figure_10 {n : Nat} {g : Hp} {F : Nat} {o : Int32 × Hp} {h : Hp} (k : DyK n g h) (e : sX15_figure_10 F h = some o) : DyK n g o.2 := by
  unfold sX15_figure_10 at e
  rw [← Option.some.inj e]; exact k
theorem dk_X15_figure_203 {n : Nat} {g : Hp} {F : Nat} {o : Int32 × Hp} {x4 : Int32} {h : Hp} (k : DyK n g h) (e : sX15_figure_203 F h x4 = some o) : DyK n g o.2 := by
  unfold sX15_figure_203 at e
  rw [← Option.some.inj e]; exact k
theorem dk_X15_figure_194 {n : Nat} {g : Hp} {F : Nat} {o : Int32 × Hp} {x0 : Nat} {x2 : Int32} {x3 : Nat} {x5 : Int32} {t0 : Int32} {t1 : Int32} {k_162 : Hp → Nat → Int32 → Nat → Int32 → Int32 → Option (Int32 × Hp)} (R_162 : ∀ {h : Hp} {y1 : Nat} {y2 : Int32} {y3 : Nat} {y4 : Int32} {y5 : Int32}, DyK n g h → k_162 h y1 y2 y3 y4 y5 = some o → DyK n g o.2) {h : Hp} (k : DyK n g h) (e : sX15_figure_194 F k_162 h x0 x2 x3 x5 t0 t1 = some o) : DyK n g o.2 := by
  unfold sX15_figure_194 at e
  replace e := nm_s e
  obtain ⟨v_1, wv_1, e⟩ := e
  replace e := nm_s e
  obtain ⟨v_2, wv_2, e⟩ := e
  exact R_162 k e
theorem dk_X15_figure_162 {n : Nat} {g : Hp} {F : Nat} {o : Int32 × Hp} : ∀ (f : Nat) {h : Hp} {x0 : Nat} {x2 : Int32} {x3 : Nat} {x4 : Int32} {x5 : Int32}, DyK n g h → sX15_figure_162 F f h x0 x2 x3 x4 x5 = some o → DyK n g o.2 := by
  intro f
  induction f with
  | zero => intro h x0 x2 x3 x4 x5 _ e; exact absurd e (by rw [sX15_figure_162]; exact fun z => nomatch z)
  | succ f ih =>
    intro h x0 x2 x3 x4 x5 k e
    rw [sX15_figure_162] at e
    replace e := br_s e
    rcases e with ⟨_, e⟩ | ⟨_, e⟩
    · exact dk_X15_figure_203 k e
    · replace e := br_s e
      rcases e with ⟨_, e⟩ | ⟨_, e⟩
      · replace e := cl_s e
        obtain ⟨r_3, _, e⟩ := e
        replace e := (gd_s e).2
        replace e := br_s e
        rcases e with ⟨_, e⟩ | ⟨_, e⟩
        · exact dk_X15_figure_194 (fun k e => ih k e) k e
        · exact dk_X15_figure_194 (fun k e => ih k e) k e
      · exact dk_X15_figure_203 k e
theorem dk_X15_figure_159 {n : Nat} {g : Hp} {F : Nat} {o : Int32 × Hp} {x0 : Nat} {x2 : Int32} {x3 : Nat} {x4 : Int32} {h : Hp} (k : DyK n g h) (e : sX15_figure_159 F h x0 x2 x3 x4 = some o) : DyK n g o.2 := by
  unfold sX15_figure_159 at e
  exact dk_X15_figure_162 F k e
theorem dk_X15_figure_116 {n : Nat} {g : Hp} {F : Nat} {o : Int32 × Hp} : ∀ (f : Nat) {h : Hp} {x0 : Nat} {x2 : Int32} {x3 : Nat} {x4 : Int32} {x5 : Int32}, DyK n g h → sX15_figure_116 F f h x0 x2 x3 x4 x5 = some o → DyK n g o.2 := by
  intro f
  induction f with
  | zero => intro h x0 x2 x3 x4 x5 _ e; exact absurd e (by rw [sX15_figure_116]; exact fun z => nomatch z)
  | succ f ih =>
    intro h x0 x2 x3 x4 x5 k e
    rw [sX15_figure_116] at e
    replace e := cl_s e
    obtain ⟨r_1, _, e⟩ := e
    replace e := br_s e
    rcases e with ⟨_, e⟩ | ⟨_, e⟩
    · exact dk_X15_figure_159 k e
    · replace e := br_s e
      rcases e with ⟨_, e⟩ | ⟨_, e⟩
      · exact dk_X15_figure_159 k e
      · replace e := cl_s e
        obtain ⟨r_4, _, e⟩ := e
        replace e := (gd_s e).2
        replace e := nm_s e
        obtain ⟨v_6, wv_6, e⟩ := e
        replace e := nm_s e
        obtain ⟨v_7, wv_7, e⟩ := e
        exact ih k e
theorem dk_J13_bitCount_95d88 {n : Nat} {g : Hp} {o : Int32 × Hp} {x0 : Int64} {h : Hp} (k : DyK n g h) (e : sJ13_bitCount_95d88 h x0 = some o) : DyK n g o.2 := by
  unfold sJ13_bitCount_95d88 at e
  replace e := nm_s e
  obtain ⟨v_1, wv_1, e⟩ := e
  replace e := nm_s e
  obtain ⟨v_2, wv_2, e⟩ := e
  replace e := nm_s e
  obtain ⟨v_3, wv_3, e⟩ := e
  replace e := nm_s e
  obtain ⟨v_4, wv_4, e⟩ := e
  replace e := nm_s e
  obtain ⟨v_5, wv_5, e⟩ := e
  replace e := nm_s e
  obtain ⟨v_6, wv_6, e⟩ := e
  rw [← Option.some.inj e]; exact k
theorem dk_X15_figure_102 {n : Nat} {g : Hp} {F : Nat} {o : Int32 × Hp} {x2 : Int32} {t0 : Int32} {t1 : Int32} {t2 : Nat} {t3 : Nat} {h : Hp} (k : DyK n g h) (e : sX15_figure_102 F h x2 t0 t1 t2 t3 = some o) : DyK n g o.2 := by
  unfold sX15_figure_102 at e
  replace e := (gd_s e).2
  replace e := nm_s e
  obtain ⟨h_2, wh_2, e⟩ := e
  have kh_2 : DyK n g h_2 := by rw [wh_2]; exact dk_wI k
  replace e := (gd_s e).2
  rw [← Option.some.inj e]; exact kh_2
theorem dk_X15_figure_82 {n : Nat} {g : Hp} {F : Nat} {o : Int32 × Hp} {x2 : Int32} {x3 : Nat} {t0 : Int32} {t1 : Int32} {t2 : Nat} {t3 : Nat} {h : Hp} (k : DyK n g h) (e : sX15_figure_82 F h x2 x3 t0 t1 t2 t3 = some o) : DyK n g o.2 := by
  unfold sX15_figure_82 at e
  replace e := (gd_s e).2
  replace e := nm_s e
  obtain ⟨h_2, wh_2, e⟩ := e
  have kh_2 : DyK n g h_2 := by rw [wh_2]; exact dk_wI k
  replace e := br_s e
  rcases e with ⟨_, e⟩ | ⟨_, e⟩
  · exact dk_X15_figure_102 kh_2 e
  · replace e := cl_s e
    obtain ⟨r_4, _, e⟩ := e
    replace e := (gd_s e).2
    exact dk_X15_figure_102 kh_2 e
theorem dk_X15_figure_41 {n : Nat} {g : Hp} {F : Nat} {o : Int32 × Hp} {x2 : Int32} {x3 : Nat} {t0 : Nat} {h : Hp} (k : DyK n g h) (e : sX15_figure_41 F h x2 x3 t0 = some o) : DyK n g o.2 := by
  unfold sX15_figure_41 at e
  replace e := (gd_s e).2
  replace e := nm_s e
  obtain ⟨h_2, wh_2, e⟩ := e
  have kh_2 : DyK n g h_2 := by rw [wh_2]; exact dk_wI k
  replace e := (gd_s e).2
  replace e := nm_s e
  obtain ⟨h_4, wh_4, e⟩ := e
  have kh_4 : DyK n g h_4 := by rw [wh_4]; exact dk_wI kh_2
  replace e := cl_s e
  obtain ⟨r_5, _, e⟩ := e
  replace e := (gd_s e).2
  replace e := (gd_s e).2
  replace e := nm_s e
  obtain ⟨h_8, wh_8, e⟩ := e
  have kh_8 : DyK n g h_8 := by rw [wh_8]; exact dk_wI kh_4
  replace e := cl_s e
  obtain ⟨r_9, _, e⟩ := e
  replace e := (gd_s e).2
  replace e := (gd_s e).2
  replace e := nm_s e
  obtain ⟨h_12, wh_12, e⟩ := e
  have kh_12 : DyK n g h_12 := by rw [wh_12]; exact dk_wI kh_8
  replace e := cl_s e
  obtain ⟨o_13, eo_13, e⟩ := e
  have ko_13 : DyK n g o_13.2 := dk_J13_bitCount_95d88 kh_12 eo_13
  exact dk_X15_figure_82 ko_13 e
theorem dk_X15_figure_18 {n : Nat} {g : Hp} {F : Nat} {o : Int32 × Hp} {x0 : Nat} {x1 : Int32} {x2 : Int32} {t0 : Int32} {h : Hp} (k : DyK n g h) (e : sX15_figure_18 F h x0 x1 x2 t0 = some o) : DyK n g o.2 := by
  unfold sX15_figure_18 at e
  replace e := br_s e
  rcases e with ⟨_, e⟩ | ⟨_, e⟩
  · rw [← Option.some.inj e]; exact k
  · replace e := cl_s e
    obtain ⟨r_2, _, e⟩ := e
    replace e := (gd_s e).2
    replace e := cl_s e
    obtain ⟨r_4, _, e⟩ := e
    replace e := br_s e
    rcases e with ⟨_, e⟩ | ⟨_, e⟩
    · exact dk_X15_figure_116 F k e
    · replace e := nm_s e
      obtain ⟨a_6, wa_6, e⟩ := e
      replace e := nm_s e
      obtain ⟨h_7, wh_7, e⟩ := e
      have kh_7 : DyK n g h_7 := by rw [wh_7]; exact dk_nC k
      exact dk_X15_figure_41 kh_7 e
theorem dk_X15_figure {n : Nat} {g : Hp} {F : Nat} {o : Int32 × Hp} {x0 : Nat} {x1 : Int32} {x2 : Int32} {h : Hp} (k : DyK n g h) (e : sX15_figure F h x0 x1 x2 = some o) : DyK n g o.2 := by
  unfold sX15_figure at e
  replace e := br_s e
  rcases e with ⟨_, e⟩ | ⟨_, e⟩
  · exact dk_X15_figure_10 k e
  · replace e := br_s e
    rcases e with ⟨_, e⟩ | ⟨_, e⟩
    · replace e := cl_s e
      obtain ⟨o_3, eo_3, e⟩ := e
      have ko_3 : DyK n g o_3.2 := dk_X15_has k eo_3
      exact dk_X15_figure_18 ko_3 e
    · exact dk_X15_figure_10 k e
theorem dk_X15_attacked_21 {n : Nat} {g : Hp} {F : Nat} {o : Int32 × Hp} {h : Hp} (k : DyK n g h) (e : sX15_attacked_21 F h = some o) : DyK n g o.2 := by
  unfold sX15_attacked_21 at e
  rw [← Option.some.inj e]; exact k
theorem dk_X15_attacked_57 {n : Nat} {g : Hp} {F : Nat} {o : Int32 × Hp} {t0 : Int32} {h : Hp} (k : DyK n g h) (e : sX15_attacked_57 F h t0 = some o) : DyK n g o.2 := by
  unfold sX15_attacked_57 at e
  rw [← Option.some.inj e]; exact k
theorem dk_X15_attacked {n : Nat} {g : Hp} {F : Nat} {o : Int32 × Hp} {x0 : Nat} {x1 : Int32} {x2 : Int32} {x3 : Int32} {h : Hp} (k : DyK n g h) (e : sX15_attacked F h x0 x1 x2 x3 = some o) : DyK n g o.2 := by
  unfold sX15_attacked at e
  replace e := br_s e
  rcases e with ⟨_, e⟩ | ⟨_, e⟩
  · exact dk_X15_attacked_21 k e
  · replace e := br_s e
    rcases e with ⟨_, e⟩ | ⟨_, e⟩
    · exact dk_X15_attacked_21 k e
    · replace e := br_s e
      rcases e with ⟨_, e⟩ | ⟨_, e⟩
      · exact dk_X15_attacked_21 k e
      · replace e := br_s e
        rcases e with ⟨_, e⟩ | ⟨_, e⟩
        · replace e := cl_s e
          obtain ⟨o_5, eo_5, e⟩ := e
          have ko_5 : DyK n g o_5.2 := dk_X15_has k eo_5
          replace e := br_s e
          rcases e with ⟨_, e⟩ | ⟨_, e⟩
          · exact dk_X15_attacked_57 ko_5 e
          · replace e := cl_s e
            obtain ⟨r_7, _, e⟩ := e
            replace e := (gd_s e).2
            replace e := cl_s e
            obtain ⟨r_9, _, e⟩ := e
            replace e := cl_s e
            obtain ⟨o_10, eo_10, e⟩ := e
            have ko_10 : DyK n g o_10.2 := dk_X15_isAttacked ko_5 eo_10
            replace e := br_s e
            rcases e with ⟨_, e⟩ | ⟨_, e⟩
            · exact dk_X15_attacked_57 ko_10 e
            · exact dk_X15_attacked_57 ko_10 e
        · exact dk_X15_attacked_21 k e
theorem dk_X15_moves {n : Nat} {g : Hp} {F : Nat} {o : Int32 × Hp} {x0 : Nat} {x1 : Int32} {h : Hp} (k : DyK n g h) (e : sX15_moves F h x0 x1 = some o) : DyK n g o.2 := by
  unfold sX15_moves at e
  replace e := cl_s e
  obtain ⟨o_1, eo_1, e⟩ := e
  have ko_1 : DyK n g o_1.2 := dk_X15_has k eo_1
  replace e := br_s e
  rcases e with ⟨_, e⟩ | ⟨_, e⟩
  · rw [← Option.some.inj e]; exact ko_1
  · replace e := cl_s e
    obtain ⟨r_3, _, e⟩ := e
    replace e := (gd_s e).2
    replace e := cl_s e
    obtain ⟨r_5, _, e⟩ := e
    replace e := cl_s e
    obtain ⟨r_6, _, e⟩ := e
    replace e := cl_s e
    obtain ⟨o_7, eo_7, e⟩ := e
    have ko_7 : DyK n g o_7 := dk_X15_legal ko_1 eo_7
    replace e := cl_s e
    obtain ⟨r_8, _, e⟩ := e
    rw [← Option.some.inj e]; exact ko_7
theorem dk_X15_move_9 {n : Nat} {g : Hp} {F : Nat} {o : Int32 × Hp} {h : Hp} (k : DyK n g h) (e : sX15_move_9 F h = some o) : DyK n g o.2 := by
  unfold sX15_move_9 at e
  rw [← Option.some.inj e]; exact k
theorem dk_X15_move_37 {n : Nat} {g : Hp} {F : Nat} {o : Int32 × Hp} {h : Hp} (k : DyK n g h) (e : sX15_move_37 F h = some o) : DyK n g o.2 := by
  unfold sX15_move_37 at e
  rw [← Option.some.inj e]; exact k
theorem dk_X15_move_133 {n : Nat} {g : Hp} {F : Nat} {o : Int32 × Hp} {t0 : Int32} {h : Hp} (k : DyK n g h) (e : sX15_move_133 F h t0 = some o) : DyK n g o.2 := by
  unfold sX15_move_133 at e
  rw [← Option.some.inj e]; exact k
theorem dk_X15_move {n : Nat} {g : Hp} {F : Nat} {o : Int32 × Hp} {x0 : Nat} {x1 : Int32} {x2 : Int32} {x3 : Int32} {h : Hp} (k : DyK n g h) (e : sX15_move F h x0 x1 x2 x3 = some o) : DyK n g o.2 := by
  unfold sX15_move at e
  replace e := br_s e
  rcases e with ⟨_, e⟩ | ⟨_, e⟩
  · exact dk_X15_move_9 k e
  · replace e := br_s e
    rcases e with ⟨_, e⟩ | ⟨_, e⟩
    · replace e := cl_s e
      obtain ⟨o_3, eo_3, e⟩ := e
      have ko_3 : DyK n g o_3.2 := dk_X15_moves k eo_3
      replace e := br_s e
      rcases e with ⟨_, e⟩ | ⟨_, e⟩
      · exact dk_X15_move_37 ko_3 e
      · replace e := br_s e
        rcases e with ⟨_, e⟩ | ⟨_, e⟩
        · exact dk_X15_move_37 ko_3 e
        · replace e := cl_s e
          obtain ⟨r_6, _, e⟩ := e
          replace e := br_s e
          rcases e with ⟨_, e⟩ | ⟨_, e⟩
          · replace e := br_s e
            rcases e with ⟨_, e⟩ | ⟨_, e⟩
            · replace e := cl_s e
              obtain ⟨r_28, _, e⟩ := e
              replace e := cl_s e
              obtain ⟨r_29, _, e⟩ := e
              replace e := (gd_s e).2
              exact dk_X15_move_133 ko_3 e
            · replace e := br_s e
              rcases e with ⟨_, e⟩ | ⟨_, e⟩
              · replace e := cl_s e
                obtain ⟨r_25, _, e⟩ := e
                replace e := cl_s e
                obtain ⟨r_26, _, e⟩ := e
                replace e := (gd_s e).2
                exact dk_X15_move_133 ko_3 e
              · replace e := br_s e
                rcases e with ⟨_, e⟩ | ⟨_, e⟩
                · replace e := cl_s e
                  obtain ⟨r_22, _, e⟩ := e
                  replace e := cl_s e
                  obtain ⟨r_23, _, e⟩ := e
                  replace e := (gd_s e).2
                  exact dk_X15_move_133 ko_3 e
                · replace e := br_s e
                  rcases e with ⟨_, e⟩ | ⟨_, e⟩
                  · replace e := cl_s e
                    obtain ⟨r_19, _, e⟩ := e
                    replace e := cl_s e
                    obtain ⟨r_20, _, e⟩ := e
                    replace e := (gd_s e).2
                    exact dk_X15_move_133 ko_3 e
                  · replace e := br_s e
                    rcases e with ⟨_, e⟩ | ⟨_, e⟩
                    · replace e := cl_s e
                      obtain ⟨r_16, _, e⟩ := e
                      replace e := cl_s e
                      obtain ⟨r_17, _, e⟩ := e
                      replace e := (gd_s e).2
                      exact dk_X15_move_133 ko_3 e
                    · replace e := cl_s e
                      obtain ⟨r_13, _, e⟩ := e
                      replace e := cl_s e
                      obtain ⟨r_14, _, e⟩ := e
                      replace e := (gd_s e).2
                      exact dk_X15_move_133 ko_3 e
          · exact dk_X15_move_37 ko_3 e
    · exact dk_X15_move_9 k e
theorem dk_X15_go_25 {n : Nat} {g : Hp} {F : Nat} {o : Int32 × Hp} {h : Hp} (k : DyK n g h) (e : sX15_go_25 F h = some o) : DyK n g o.2 := by
  unfold sX15_go_25 at e
  rw [← Option.some.inj e]; exact k
theorem dk_X15_go_66 {n : Nat} {g : Hp} {F : Nat} {o : Int32 × Hp} {t0 : Int32} {h : Hp} (k : DyK n g h) (e : sX15_go_66 F h t0 = some o) : DyK n g o.2 := by
  unfold sX15_go_66 at e
  rw [← Option.some.inj e]; exact k
theorem dk_X15_go_58 {n : Nat} {g : Hp} {F : Nat} {o : Int32 × Hp} {h : Hp} (k : DyK n g h) (e : sX15_go_58 F h (n + 513) = some o) : DyK n g o.2 := by
  unfold sX15_go_58 at e
  replace e := cl_s e
  obtain ⟨r_1, _, e⟩ := e
  replace e := cl_s e
  obtain ⟨o_2, eo_2, e⟩ := e
  have ko_2 : DyK n g o_2.2 := dk_X15_keep k eo_2
  exact dk_X15_go_66 ko_2 e
theorem dk_X15_go_32 {n : Nat} {g : Hp} {F : Nat} {o : Int32 × Hp} {x1 : Int32} {x2 : Int32} {t0 : Int32} {h : Hp} (k : DyK n g h) (e : sX15_go_32 F h (n + 513) x1 x2 t0 = some o) : DyK n g o.2 := by
  unfold sX15_go_32 at e
  replace e := br_s e
  rcases e with ⟨_, e⟩ | ⟨_, e⟩
  · rw [← Option.some.inj e]; exact k
  · replace e := cl_s e
    obtain ⟨r_2, _, e⟩ := e
    replace e := (gd_s e).2
    replace e := cl_s e
    obtain ⟨r_4, _, e⟩ := e
    replace e := cl_s e
    obtain ⟨r_5, _, e⟩ := e
    replace e := cl_s e
    obtain ⟨r_6, _, e⟩ := e
    replace e := cl_s e
    obtain ⟨o_7, eo_7, e⟩ := e
    have ko_7 : DyK n g o_7 := dk_X15_make k eo_7
    exact dk_X15_go_58 ko_7 e
theorem dk_X15_go_5 {n : Nat} {g : Hp} {F : Nat} {o : Int32 × Hp} {x1 : Int32} {x2 : Int32} {t0 : Int32} {h : Hp} (k : DyK n g h) (e : sX15_go_5 F h (n + 513) x1 x2 t0 = some o) : DyK n g o.2 := by
  unfold sX15_go_5 at e
  replace e := br_s e
  rcases e with ⟨_, e⟩ | ⟨_, e⟩
  · exact dk_X15_go_25 k e
  · replace e := br_s e
    rcases e with ⟨_, e⟩ | ⟨_, e⟩
    · exact dk_X15_go_25 k e
    · replace e := cl_s e
      obtain ⟨r_3, _, e⟩ := e
      replace e := br_s e
      rcases e with ⟨_, e⟩ | ⟨_, e⟩
      · replace e := cl_s e
        obtain ⟨o_5, eo_5, e⟩ := e
        have ko_5 : DyK n g o_5.2 := dk_X15_freePlace k eo_5
        exact dk_X15_go_32 ko_5 e
      · exact dk_X15_go_25 k e
theorem dk_X15_go {n : Nat} {g : Hp} {F : Nat} {o : Int32 × Hp} {x1 : Int32} {x2 : Int32} {h : Hp} (k : DyK n g h) (e : sX15_go F h (n + 513) x1 x2 = some o) : DyK n g o.2 := by
  unfold sX15_go at e
  replace e := cl_s e
  obtain ⟨o_1, eo_1, e⟩ := e
  have ko_1 : DyK n g o_1.2 := dk_X15_moves k eo_1
  exact dk_X15_go_5 ko_1 e
theorem dk_X15_rows_10 {n : Nat} {g : Hp} {F : Nat} {o : Int32 × Hp} {h : Hp} (k : DyK n g h) (e : sX15_rows_10 F h = some o) : DyK n g o.2 := by
  unfold sX15_rows_10 at e
  rw [← Option.some.inj e]; exact k

theorem dk_X15_countRows_117 {n : Nat} {g : Hp} {F : Nat} {o : Int32 × Hp} {x6 : Int32} {r_X15_countRows : Hp → Nat → Int32 → Int32 → Int32 → Option (Int32 × Hp)} (R_X15_countRows : ∀ {h : Hp} {y2 : Int32} {y3 : Int32} {y4 : Int32} {o : Int32 × Hp}, DyK n g h → r_X15_countRows h (n + 513) y2 y3 y4 = some o → DyK n g o.2) {h : Hp} (k : DyK n g h) (e : sX15_countRows_117 F r_X15_countRows h x6 = some o) : DyK n g o.2 := by
  unfold sX15_countRows_117 at e
  rw [← Option.some.inj e]; exact k
theorem dk_X15_countRows_111 {n : Nat} {g : Hp} {F : Nat} {o : Int32 × Hp} {x1 : Int32} {x2 : Int32} {x3 : Int32} {x4 : Nat} {x5 : Nat} {x6 : Int32} {x7 : Int32} {r_X15_countRows : Hp → Nat → Int32 → Int32 → Int32 → Option (Int32 × Hp)} (R_X15_countRows : ∀ {h : Hp} {y2 : Int32} {y3 : Int32} {y4 : Int32} {o : Int32 × Hp}, DyK n g h → r_X15_countRows h (n + 513) y2 y3 y4 = some o → DyK n g o.2) {k_46 : Hp → Nat → Int32 → Int32 → Int32 → Nat → Nat → Int32 → Int32 → Option (Int32 × Hp)} (R_46 : ∀ {h : Hp} {y2 : Int32} {y3 : Int32} {y4 : Int32} {y5 : Nat} {y6 : Nat} {y7 : Int32} {y8 : Int32}, DyK n g h → k_46 h (n + 513) y2 y3 y4 y5 y6 y7 y8 = some o → DyK n g o.2) {h : Hp} (k : DyK n g h) (e : sX15_countRows_111 F r_X15_countRows k_46 h (n + 513) x1 x2 x3 x4 x5 x6 x7 = some o) : DyK n g o.2 := by
  unfold sX15_countRows_111 at e
  replace e := nm_s e
  obtain ⟨v_1, wv_1, e⟩ := e
  exact R_46 k e
theorem dk_X15_countRows_108 {n : Nat} {g : Hp} {F : Nat} {o : Int32 × Hp} {x1 : Int32} {x2 : Int32} {x3 : Int32} {x4 : Nat} {x5 : Nat} {x7 : Int32} {t0 : Int32} {t1 : Int32} {r_X15_countRows : Hp → Nat → Int32 → Int32 → Int32 → Option (Int32 × Hp)} (R_X15_countRows : ∀ {h : Hp} {y2 : Int32} {y3 : Int32} {y4 : Int32} {o : Int32 × Hp}, DyK n g h → r_X15_countRows h (n + 513) y2 y3 y4 = some o → DyK n g o.2) {k_46 : Hp → Nat → Int32 → Int32 → Int32 → Nat → Nat → Int32 → Int32 → Option (Int32 × Hp)} (R_46 : ∀ {h : Hp} {y2 : Int32} {y3 : Int32} {y4 : Int32} {y5 : Nat} {y6 : Nat} {y7 : Int32} {y8 : Int32}, DyK n g h → k_46 h (n + 513) y2 y3 y4 y5 y6 y7 y8 = some o → DyK n g o.2) {h : Hp} (k : DyK n g h) (e : sX15_countRows_108 F r_X15_countRows k_46 h (n + 513) x1 x2 x3 x4 x5 x7 t0 t1 = some o) : DyK n g o.2 := by
  unfold sX15_countRows_108 at e
  replace e := nm_s e
  obtain ⟨v_1, wv_1, e⟩ := e
  exact dk_X15_countRows_111 R_X15_countRows R_46 k e
theorem dk_X15_countRows_95 {n : Nat} {g : Hp} {F : Nat} {o : Int32 × Hp} {x1 : Int32} {x2 : Int32} {x3 : Int32} {x4 : Nat} {x5 : Nat} {x6 : Int32} {x7 : Int32} {r_X15_countRows : Hp → Nat → Int32 → Int32 → Int32 → Option (Int32 × Hp)} (R_X15_countRows : ∀ {h : Hp} {y2 : Int32} {y3 : Int32} {y4 : Int32} {o : Int32 × Hp}, DyK n g h → r_X15_countRows h (n + 513) y2 y3 y4 = some o → DyK n g o.2) {k_46 : Hp → Nat → Int32 → Int32 → Int32 → Nat → Nat → Int32 → Int32 → Option (Int32 × Hp)} (R_46 : ∀ {h : Hp} {y2 : Int32} {y3 : Int32} {y4 : Int32} {y5 : Nat} {y6 : Nat} {y7 : Int32} {y8 : Int32}, DyK n g h → k_46 h (n + 513) y2 y3 y4 y5 y6 y7 y8 = some o → DyK n g o.2) {h : Hp} (k : DyK n g h) (e : sX15_countRows_95 F r_X15_countRows k_46 h (n + 513) x1 x2 x3 x4 x5 x6 x7 = some o) : DyK n g o.2 := by
  unfold sX15_countRows_95 at e
  replace e := cl_s e
  obtain ⟨o_1, eo_1, e⟩ := e
  have ko_1 : DyK n g o_1.2 := R_X15_countRows k eo_1
  exact dk_X15_countRows_108 R_X15_countRows R_46 ko_1 e
theorem dk_X15_endedBy_14 {n : Nat} {g : Hp} {F : Nat} {o : Int32 × Hp} {x3 : Int32} {h : Hp} (k : DyK n g h) (e : sX15_endedBy_14 F h x3 = some o) : DyK n g o.2 := by
  unfold sX15_endedBy_14 at e
  rw [← Option.some.inj e]; exact k
theorem dk_X15_endedBy_100 {n : Nat} {g : Hp} {F : Nat} {o : Int32 × Hp} {t0 : Int32} {t1 : Nat} {h : Hp} (k : DyK n g h) (e : sX15_endedBy_100 F h t0 t1 = some o) : DyK n g o.2 := by
  unfold sX15_endedBy_100 at e
  replace e := nm_s e
  obtain ⟨h_1, wh_1, e⟩ := e
  have kh_1 : DyK n g h_1 := by rw [wh_1]; exact dk_wI k
  rw [← Option.some.inj e]; exact kh_1
theorem dk_X15_endedBy_61 {n : Nat} {g : Hp} {F : Nat} {o : Int32 × Hp} {x0 : Nat} {x1 : Nat} {h : Hp} (k : DyK n g h) (e : sX15_endedBy_61 F h x0 x1 = some o) : DyK n g o.2 := by
  unfold sX15_endedBy_61 at e
  replace e := cl_s e
  obtain ⟨r_1, _, e⟩ := e
  replace e := br_s e
  rcases e with ⟨_, e⟩ | ⟨_, e⟩
  · exact dk_X15_endedBy_100 k e
  · replace e := cl_s e
    obtain ⟨r_3, _, e⟩ := e
    replace e := br_s e
    rcases e with ⟨_, e⟩ | ⟨_, e⟩
    · exact dk_X15_endedBy_100 k e
    · exact dk_X15_endedBy_100 k e
theorem dk_X15_endedBy {n : Nat} {g : Hp} {F : Nat} {o : Int32 × Hp} {x0 : Nat} {x1 : Nat} {x2 : Int32} {h : Hp} (k : DyK n g h) (e : sX15_endedBy F h x0 x1 x2 = some o) : DyK n g o.2 := by
  unfold sX15_endedBy at e
  replace e := cl_s e
  obtain ⟨o_1, eo_1, e⟩ := e
  have ko_1 : DyK n g o_1.2 := dk_X15_early k eo_1
  replace e := br_s e
  rcases e with ⟨_, e⟩ | ⟨_, e⟩
  · exact dk_X15_endedBy_14 ko_1 e
  · replace e := br_s e
    rcases e with ⟨_, e⟩ | ⟨_, e⟩
    · replace e := cl_s e
      obtain ⟨o_4, eo_4, e⟩ := e
      have ko_4 : DyK n g o_4.2 := dk_X15_royalOf ko_1 eo_4
      replace e := br_s e
      rcases e with ⟨_, e⟩ | ⟨_, e⟩
      · exact dk_X15_endedBy_61 ko_4 e
      · replace e := cl_s e
        obtain ⟨o_6, eo_6, e⟩ := e
        have ko_6 : DyK n g o_6.2 := dk_X15_isAttacked ko_4 eo_6
        replace e := br_s e
        rcases e with ⟨_, e⟩ | ⟨_, e⟩
        · exact dk_X15_endedBy_61 ko_6 e
        · replace e := nm_s e
          obtain ⟨h_8, wh_8, e⟩ := e
          have kh_8 : DyK n g h_8 := by rw [wh_8]; exact dk_wI ko_6
          rw [← Option.some.inj e]; exact kh_8
    · exact dk_X15_endedBy_14 ko_1 e
theorem dk_X15_turnsBack_64 {n : Nat} {g : Hp} {F : Nat} {o : Int32 × Hp} {h : Hp} (k : DyK n g h) (e : sX15_turnsBack_64 F h = some o) : DyK n g o.2 := by
  unfold sX15_turnsBack_64 at e
  rw [← Option.some.inj e]; exact k
theorem dk_X15_turnsBack_66 {n : Nat} {g : Hp} {F : Nat} {o : Int32 × Hp} {x2 : Nat} {h : Hp} (k : DyK n g h) (e : sX15_turnsBack_66 F h x2 = some o) : DyK n g o.2 := by
  unfold sX15_turnsBack_66 at e
  replace e := nm_s e
  obtain ⟨h_1, wh_1, e⟩ := e
  have kh_1 : DyK n g h_1 := by rw [wh_1]; exact dk_wI k
  replace e := nm_s e
  obtain ⟨h_2, wh_2, e⟩ := e
  have kh_2 : DyK n g h_2 := by rw [wh_2]; exact dk_wI kh_1
  rw [← Option.some.inj e]; exact kh_2
theorem dk_X15_turnsBack_61 {n : Nat} {g : Hp} {F : Nat} {o : Int32 × Hp} {x2 : Nat} {t0 : Int32} {h : Hp} (k : DyK n g h) (e : sX15_turnsBack_61 F h x2 t0 = some o) : DyK n g o.2 := by
  unfold sX15_turnsBack_61 at e
  replace e := br_s e
  rcases e with ⟨_, e⟩ | ⟨_, e⟩
  · exact dk_X15_turnsBack_66 k e
  · exact dk_X15_turnsBack_64 k e
theorem dk_X15_turnsBack_41 {n : Nat} {g : Hp} {F : Nat} {o : Int32 × Hp} {x2 : Nat} {x3 : Int32} {t0 : Int32} {h : Hp} (k : DyK n g h) (e : sX15_turnsBack_41 F h (n + 513) x2 x3 t0 = some o) : DyK n g o.2 := by
  unfold sX15_turnsBack_41 at e
  replace e := br_s e
  rcases e with ⟨_, e⟩ | ⟨_, e⟩
  · exact dk_X15_turnsBack_64 k e
  · replace e := br_s e
    rcases e with ⟨_, e⟩ | ⟨_, e⟩
    · exact dk_X15_turnsBack_66 k e
    · replace e := cl_s e
      obtain ⟨o_3, eo_3, e⟩ := e
      have ko_3 : DyK n g o_3.2 := dk_X15_isAttacked k eo_3
      exact dk_X15_turnsBack_61 ko_3 e
theorem dk_X15_turnsBack_26 {n : Nat} {g : Hp} {F : Nat} {o : Int32 × Hp} {x1 : Int32} {x2 : Nat} {t0 : Int32} {h : Hp} (k : DyK n g h) (e : sX15_turnsBack_26 F h (n + 513) x1 x2 t0 = some o) : DyK n g o.2 := by
  unfold sX15_turnsBack_26 at e
  replace e := cl_s e
  obtain ⟨r_1, _, e⟩ := e
  replace e := (gd_s e).2
  replace e := cl_s e
  obtain ⟨r_3, _, e⟩ := e
  replace e := cl_s e
  obtain ⟨o_4, eo_4, e⟩ := e
  have ko_4 : DyK n g o_4.2 := dk_X15_endedBy k eo_4
  exact dk_X15_turnsBack_41 ko_4 e
theorem dk_X15_turnsBack_17 {n : Nat} {g : Hp} {F : Nat} {o : Int32 × Hp} {x1 : Int32} {x2 : Nat} {h : Hp} (k : DyK n g h) (e : sX15_turnsBack_17 F h (n + 513) x1 x2 = some o) : DyK n g o.2 := by
  unfold sX15_turnsBack_17 at e
  replace e := cl_s e
  obtain ⟨o_1, eo_1, e⟩ := e
  have ko_1 : DyK n g o_1.2 := dk_X15_royalOf k eo_1
  exact dk_X15_turnsBack_26 ko_1 e
theorem dk_X15_turnsBack_5 {n : Nat} {g : Hp} {F : Nat} {o : Int32 × Hp} {x1 : Int32} {t0 : Nat} {h : Hp} (k : DyK n g h) (e : sX15_turnsBack_5 F h (n + 513) x1 t0 = some o) : DyK n g o.2 := by
  unfold sX15_turnsBack_5 at e
  replace e := cl_s e
  obtain ⟨r_1, _, e⟩ := e
  replace e := (gd_s e).2
  replace e := cl_s e
  obtain ⟨r_3, _, e⟩ := e
  replace e := cl_s e
  obtain ⟨o_4, eo_4, e⟩ := e
  have ko_4 : DyK n g o_4 := dk_X15_legal k eo_4
  exact dk_X15_turnsBack_17 ko_4 e
theorem dk_X15_turnsBack {n : Nat} {g : Hp} {F : Nat} {o : Int32 × Hp} {x1 : Int32} {h : Hp} (k : DyK n g h) (e : sX15_turnsBack F h (n + 513) x1 = some o) : DyK n g o.2 := by
  unfold sX15_turnsBack at e
  replace e := cl_s e
  obtain ⟨o_1, eo_1, e⟩ := e
  have ko_1 : DyK n g o_1.2 := dk_X15_deepBoard k eo_1
  exact dk_X15_turnsBack_5 ko_1 e
theorem dk_X15_countRows_92 {n : Nat} {g : Hp} {F : Nat} {o : Int32 × Hp} {x1 : Int32} {x2 : Int32} {x3 : Int32} {x4 : Nat} {x5 : Nat} {x6 : Int32} {x7 : Int32} {t0 : Int32} {r_X15_countRows : Hp → Nat → Int32 → Int32 → Int32 → Option (Int32 × Hp)} (R_X15_countRows : ∀ {h : Hp} {y2 : Int32} {y3 : Int32} {y4 : Int32} {o : Int32 × Hp}, DyK n g h → r_X15_countRows h (n + 513) y2 y3 y4 = some o → DyK n g o.2) {k_46 : Hp → Nat → Int32 → Int32 → Int32 → Nat → Nat → Int32 → Int32 → Option (Int32 × Hp)} (R_46 : ∀ {h : Hp} {y2 : Int32} {y3 : Int32} {y4 : Int32} {y5 : Nat} {y6 : Nat} {y7 : Int32} {y8 : Int32}, DyK n g h → k_46 h (n + 513) y2 y3 y4 y5 y6 y7 y8 = some o → DyK n g o.2) {h : Hp} (k : DyK n g h) (e : sX15_countRows_92 F r_X15_countRows k_46 h (n + 513) x1 x2 x3 x4 x5 x6 x7 t0 = some o) : DyK n g o.2 := by
  unfold sX15_countRows_92 at e
  replace e := br_s e
  rcases e with ⟨_, e⟩ | ⟨_, e⟩
  · exact dk_X15_countRows_111 R_X15_countRows R_46 k e
  · exact dk_X15_countRows_95 R_X15_countRows R_46 k e
theorem dk_X15_countRows_81 {n : Nat} {g : Hp} {F : Nat} {o : Int32 × Hp} {x1 : Int32} {x2 : Int32} {x3 : Int32} {x4 : Nat} {x5 : Nat} {x6 : Int32} {x7 : Int32} {r_X15_countRows : Hp → Nat → Int32 → Int32 → Int32 → Option (Int32 × Hp)} (R_X15_countRows : ∀ {h : Hp} {y2 : Int32} {y3 : Int32} {y4 : Int32} {o : Int32 × Hp}, DyK n g h → r_X15_countRows h (n + 513) y2 y3 y4 = some o → DyK n g o.2) {k_46 : Hp → Nat → Int32 → Int32 → Int32 → Nat → Nat → Int32 → Int32 → Option (Int32 × Hp)} (R_46 : ∀ {h : Hp} {y2 : Int32} {y3 : Int32} {y4 : Int32} {y5 : Nat} {y6 : Nat} {y7 : Int32} {y8 : Int32}, DyK n g h → k_46 h (n + 513) y2 y3 y4 y5 y6 y7 y8 = some o → DyK n g o.2) {h : Hp} (k : DyK n g h) (e : sX15_countRows_81 F r_X15_countRows k_46 h (n + 513) x1 x2 x3 x4 x5 x6 x7 = some o) : DyK n g o.2 := by
  unfold sX15_countRows_81 at e
  replace e := br_s e
  rcases e with ⟨_, e⟩ | ⟨_, e⟩
  · exact dk_X15_countRows_95 R_X15_countRows R_46 k e
  · replace e := cl_s e
    obtain ⟨o_2, eo_2, e⟩ := e
    have ko_2 : DyK n g o_2.2 := dk_X15_turnsBack k eo_2
    exact dk_X15_countRows_92 R_X15_countRows R_46 ko_2 e
theorem dk_X15_countRows_78 {n : Nat} {g : Hp} {F : Nat} {o : Int32 × Hp} {x1 : Int32} {x2 : Int32} {x3 : Int32} {x4 : Nat} {x5 : Nat} {x6 : Int32} {x7 : Int32} {t0 : Nat} {t1 : Int32} {t2 : Nat} {t3 : Nat} {t4 : Nat} {r_X15_countRows : Hp → Nat → Int32 → Int32 → Int32 → Option (Int32 × Hp)} (R_X15_countRows : ∀ {h : Hp} {y2 : Int32} {y3 : Int32} {y4 : Int32} {o : Int32 × Hp}, DyK n g h → r_X15_countRows h (n + 513) y2 y3 y4 = some o → DyK n g o.2) {k_46 : Hp → Nat → Int32 → Int32 → Int32 → Nat → Nat → Int32 → Int32 → Option (Int32 × Hp)} (R_46 : ∀ {h : Hp} {y2 : Int32} {y3 : Int32} {y4 : Int32} {y5 : Nat} {y6 : Nat} {y7 : Int32} {y8 : Int32}, DyK n g h → k_46 h (n + 513) y2 y3 y4 y5 y6 y7 y8 = some o → DyK n g o.2) {h : Hp} (k : DyK n g h) (e : sX15_countRows_78 F r_X15_countRows k_46 h (n + 513) x1 x2 x3 x4 x5 x6 x7 t0 t1 t2 t3 t4 = some o) : DyK n g o.2 := by
  unfold sX15_countRows_78 at e
  replace e := cl_s e
  obtain ⟨o_1, eo_1, e⟩ := e
  have ko_1 : DyK n g o_1 := dk_X15_make k eo_1
  exact dk_X15_countRows_81 R_X15_countRows R_46 ko_1 e
theorem dk_X15_countRows_46 {n : Nat} {g : Hp} {F : Nat} {o : Int32 × Hp} {r_X15_countRows : Hp → Nat → Int32 → Int32 → Int32 → Option (Int32 × Hp)} (R_X15_countRows : ∀ {h : Hp} {y2 : Int32} {y3 : Int32} {y4 : Int32} {o : Int32 × Hp}, DyK n g h → r_X15_countRows h (n + 513) y2 y3 y4 = some o → DyK n g o.2) : ∀ (f : Nat) {h : Hp} {x1 : Int32} {x2 : Int32} {x3 : Int32} {x4 : Nat} {x5 : Nat} {x6 : Int32} {x7 : Int32}, DyK n g h → sX15_countRows_46 F r_X15_countRows f h (n + 513) x1 x2 x3 x4 x5 x6 x7 = some o → DyK n g o.2 := by
  intro f
  induction f with
  | zero => intro h x1 x2 x3 x4 x5 x6 x7 _ e; exact absurd e (by rw [sX15_countRows_46]; exact fun z => nomatch z)
  | succ f ih =>
    intro h x1 x2 x3 x4 x5 x6 x7 k e
    rw [sX15_countRows_46] at e
    replace e := br_s e
    rcases e with ⟨_, e⟩ | ⟨_, e⟩
    · exact dk_X15_countRows_117 R_X15_countRows k e
    · replace e := br_s e
      rcases e with ⟨_, e⟩ | ⟨_, e⟩
      · exact dk_X15_countRows_117 R_X15_countRows k e
      · replace e := cl_s e
        obtain ⟨o_3, eo_3, e⟩ := e
        have ko_3 : DyK n g o_3.2 := dk_X15_deepBoard k eo_3
        exact dk_X15_countRows_78 R_X15_countRows (fun k e => ih k e) ko_3 e
theorem dk_X15_countRows_29 {n : Nat} {g : Hp} {F : Nat} {o : Int32 × Hp} {x1 : Int32} {x2 : Int32} {x3 : Int32} {x4 : Nat} {x5 : Nat} {r_X15_countRows : Hp → Nat → Int32 → Int32 → Int32 → Option (Int32 × Hp)} (R_X15_countRows : ∀ {h : Hp} {y2 : Int32} {y3 : Int32} {y4 : Int32} {o : Int32 × Hp}, DyK n g h → r_X15_countRows h (n + 513) y2 y3 y4 = some o → DyK n g o.2) {h : Hp} (k : DyK n g h) (e : sX15_countRows_29 F r_X15_countRows h (n + 513) x1 x2 x3 x4 x5 = some o) : DyK n g o.2 := by
  unfold sX15_countRows_29 at e
  replace e := br_s e
  rcases e with ⟨_, e⟩ | ⟨_, e⟩
  · rw [← Option.some.inj e]; exact k
  · exact dk_X15_countRows_46 R_X15_countRows F k e
theorem dk_X15_countRows_11 {n : Nat} {g : Hp} {F : Nat} {o : Int32 × Hp} {x1 : Int32} {x2 : Int32} {x3 : Int32} {t0 : Nat} {r_X15_countRows : Hp → Nat → Int32 → Int32 → Int32 → Option (Int32 × Hp)} (R_X15_countRows : ∀ {h : Hp} {y2 : Int32} {y3 : Int32} {y4 : Int32} {o : Int32 × Hp}, DyK n g h → r_X15_countRows h (n + 513) y2 y3 y4 = some o → DyK n g o.2) {h : Hp} (k : DyK n g h) (e : sX15_countRows_11 F r_X15_countRows h (n + 513) x1 x2 x3 t0 = some o) : DyK n g o.2 := by
  unfold sX15_countRows_11 at e
  replace e := cl_s e
  obtain ⟨r_1, _, e⟩ := e
  replace e := (gd_s e).2
  replace e := cl_s e
  obtain ⟨r_3, _, e⟩ := e
  replace e := cl_s e
  obtain ⟨o_4, eo_4, e⟩ := e
  have ko_4 : DyK n g o_4 := dk_X15_legal k eo_4
  exact dk_X15_countRows_29 R_X15_countRows ko_4 e
theorem dk_oX15_countRows {n : Nat} {g : Hp} {F : Nat} {o : Int32 × Hp} {x1 : Int32} {x2 : Int32} {x3 : Int32} {r_X15_countRows : Hp → Nat → Int32 → Int32 → Int32 → Option (Int32 × Hp)} (R_X15_countRows : ∀ {h : Hp} {y2 : Int32} {y3 : Int32} {y4 : Int32} {o : Int32 × Hp}, DyK n g h → r_X15_countRows h (n + 513) y2 y3 y4 = some o → DyK n g o.2) {h : Hp} (k : DyK n g h) (e : oX15_countRows F r_X15_countRows h (n + 513) x1 x2 x3 = some o) : DyK n g o.2 := by
  unfold oX15_countRows at e
  replace e := br_s e
  rcases e with ⟨_, e⟩ | ⟨_, e⟩
  · rw [← Option.some.inj e]; exact k
  · replace e := cl_s e
    obtain ⟨o_2, eo_2, e⟩ := e
    have ko_2 : DyK n g o_2.2 := dk_X15_deepBoard k eo_2
    exact dk_X15_countRows_11 R_X15_countRows ko_2 e
theorem dk_qX15_countRows {n : Nat} {g : Hp} {F : Nat} : ∀ d : Nat, (∀ {h : Hp} {x1 : Int32} {x2 : Int32} {x3 : Int32} {o : Int32 × Hp}, DyK n g h → (qX15_countRows F d) h (n + 513) x1 x2 x3 = some o → DyK n g o.2) := by
  intro d
  induction d with
  | zero => exact (fun _ e => nomatch e)
  | succ d ih => exact (fun k e => dk_oX15_countRows (fun k e => ih k e) k e)
theorem dk_X15_countRows {n : Nat} {g : Hp} {F : Nat} {o : Int32 × Hp} {x1 : Int32} {x2 : Int32} {x3 : Int32} {h : Hp} (k : DyK n g h) (e : sX15_countRows F h (n + 513) x1 x2 x3 = some o) : DyK n g o.2 := (dk_qX15_countRows 40) k e
theorem dk_X15_isRoom_26 {n : Nat} {g : Hp} {F : Nat} {o : Int32 × Hp} {x1 : Nat} {x2 : Int32} {x3 : Int32} {x4 : Int32} {t0 : Int32} {k_3 : Hp → Nat → Nat → Int32 → Int32 → Int32 → Option (Int32 × Hp)} (R_3 : ∀ {h : Hp} {y2 : Nat} {y3 : Int32} {y4 : Int32} {y5 : Int32}, DyK n g h → k_3 h (n + 513) y2 y3 y4 y5 = some o → DyK n g o.2) {h : Hp} (k : DyK n g h) (e : sX15_isRoom_26 F k_3 h (n + 513) x1 x2 x3 x4 t0 = some o) : DyK n g o.2 := by
  unfold sX15_isRoom_26 at e
  replace e := br_s e
  rcases e with ⟨_, e⟩ | ⟨_, e⟩
  · replace e := nm_s e
    obtain ⟨v_2, wv_2, e⟩ := e
    exact R_3 k e
  · rw [← Option.some.inj e]; exact k
theorem dk_X15_isRoom_18 {n : Nat} {g : Hp} {F : Nat} {o : Int32 × Hp} {x1 : Nat} {x2 : Int32} {x3 : Int32} {x4 : Int32} {k_3 : Hp → Nat → Nat → Int32 → Int32 → Int32 → Option (Int32 × Hp)} (R_3 : ∀ {h : Hp} {y2 : Nat} {y3 : Int32} {y4 : Int32} {y5 : Int32}, DyK n g h → k_3 h (n + 513) y2 y3 y4 y5 = some o → DyK n g o.2) {h : Hp} (k : DyK n g h) (e : sX15_isRoom_18 F k_3 h (n + 513) x1 x2 x3 x4 = some o) : DyK n g o.2 := by
  unfold sX15_isRoom_18 at e
  replace e := cl_s e
  obtain ⟨o_1, eo_1, e⟩ := e
  have ko_1 : DyK n g o_1.2 := dk_X15_countRows k eo_1
  exact dk_X15_isRoom_26 R_3 ko_1 e
theorem dk_X15_isRoom_14 {n : Nat} {g : Hp} {F : Nat} {o : Int32 × Hp} {x1 : Nat} {x2 : Int32} {x3 : Int32} {x4 : Int32} {t0 : Nat} {k_3 : Hp → Nat → Nat → Int32 → Int32 → Int32 → Option (Int32 × Hp)} (R_3 : ∀ {h : Hp} {y2 : Nat} {y3 : Int32} {y4 : Int32} {y5 : Int32}, DyK n g h → k_3 h (n + 513) y2 y3 y4 y5 = some o → DyK n g o.2) {h : Hp} (k : DyK n g h) (e : sX15_isRoom_14 F k_3 h (n + 513) x1 x2 x3 x4 t0 = some o) : DyK n g o.2 := by
  unfold sX15_isRoom_14 at e
  replace e := cl_s e
  obtain ⟨o_1, eo_1, e⟩ := e
  have ko_1 : DyK n g o_1 := dk_X12_copy k eo_1
  exact dk_X15_isRoom_18 R_3 ko_1 e
theorem dk_X15_isRoom_3 {n : Nat} {g : Hp} {F : Nat} {o : Int32 × Hp} : ∀ (f : Nat) {h : Hp} {x1 : Nat} {x2 : Int32} {x3 : Int32} {x4 : Int32}, DyK n g h → sX15_isRoom_3 F f h (n + 513) x1 x2 x3 x4 = some o → DyK n g o.2 := by
  intro f
  induction f with
  | zero => intro h x1 x2 x3 x4 _ e; exact absurd e (by rw [sX15_isRoom_3]; exact fun z => nomatch z)
  | succ f ih =>
    intro h x1 x2 x3 x4 k e
    rw [sX15_isRoom_3] at e
    replace e := br_s e
    rcases e with ⟨_, e⟩ | ⟨_, e⟩
    · rw [← Option.some.inj e]; exact k
    · replace e := cl_s e
      obtain ⟨o_2, eo_2, e⟩ := e
      have ko_2 : DyK n g o_2.2 := dk_X15_deepBoard k eo_2
      exact dk_X15_isRoom_14 (fun k e => ih k e) ko_2 e
theorem dk_X15_isRoom {n : Nat} {g : Hp} {F : Nat} {o : Int32 × Hp} {x1 : Nat} {x2 : Int32} {x3 : Int32} {h : Hp} (k : DyK n g h) (e : sX15_isRoom F h (n + 513) x1 x2 x3 = some o) : DyK n g o.2 := by
  unfold sX15_isRoom at e
  exact dk_X15_isRoom_3 F k e
theorem dk_X15_rows_63 {n : Nat} {g : Hp} {F : Nat} {o : Int32 × Hp} {t0 : Int32} {h : Hp} (k : DyK n g h) (e : sX15_rows_63 F h t0 = some o) : DyK n g o.2 := by
  unfold sX15_rows_63 at e
  rw [← Option.some.inj e]; exact k
theorem dk_X15_rows_56 {n : Nat} {g : Hp} {F : Nat} {o : Int32 × Hp} {x2 : Int32} {h : Hp} (k : DyK n g h) (e : sX15_rows_56 F h (n + 513) x2 = some o) : DyK n g o.2 := by
  unfold sX15_rows_56 at e
  replace e := cl_s e
  obtain ⟨o_1, eo_1, e⟩ := e
  have ko_1 : DyK n g o_1.2 := dk_X15_countRows k eo_1
  exact dk_X15_rows_63 ko_1 e
theorem dk_X15_rows_47 {n : Nat} {g : Hp} {F : Nat} {o : Int32 × Hp} {x1 : Int32} {x2 : Int32} {t0 : Nat} {h : Hp} (k : DyK n g h) (e : sX15_rows_47 F h (n + 513) x1 x2 t0 = some o) : DyK n g o.2 := by
  unfold sX15_rows_47 at e
  replace e := cl_s e
  obtain ⟨r_1, _, e⟩ := e
  replace e := (gd_s e).2
  replace e := cl_s e
  obtain ⟨r_3, _, e⟩ := e
  replace e := cl_s e
  obtain ⟨o_4, eo_4, e⟩ := e
  have ko_4 : DyK n g o_4 := dk_X12_copy k eo_4
  exact dk_X15_rows_56 ko_4 e
theorem dk_X15_rows_36 {n : Nat} {g : Hp} {F : Nat} {o : Int32 × Hp} {x1 : Int32} {x2 : Int32} {t0 : Int32} {h : Hp} (k : DyK n g h) (e : sX15_rows_36 F h (n + 513) x1 x2 t0 = some o) : DyK n g o.2 := by
  unfold sX15_rows_36 at e
  replace e := br_s e
  rcases e with ⟨_, e⟩ | ⟨_, e⟩
  · rw [← Option.some.inj e]; exact k
  · replace e := cl_s e
    obtain ⟨o_2, eo_2, e⟩ := e
    have ko_2 : DyK n g o_2.2 := dk_X15_deepBoard k eo_2
    exact dk_X15_rows_47 ko_2 e
theorem dk_X15_rows_18 {n : Nat} {g : Hp} {F : Nat} {o : Int32 × Hp} {x1 : Int32} {x2 : Int32} {t0 : Int32} {h : Hp} (k : DyK n g h) (e : sX15_rows_18 F h (n + 513) x1 x2 t0 = some o) : DyK n g o.2 := by
  unfold sX15_rows_18 at e
  replace e := br_s e
  rcases e with ⟨_, e⟩ | ⟨_, e⟩
  · rw [← Option.some.inj e]; exact k
  · replace e := cl_s e
    obtain ⟨r_2, _, e⟩ := e
    replace e := (gd_s e).2
    replace e := cl_s e
    obtain ⟨r_4, _, e⟩ := e
    replace e := cl_s e
    obtain ⟨o_5, eo_5, e⟩ := e
    have ko_5 : DyK n g o_5.2 := dk_X15_isRoom k eo_5
    exact dk_X15_rows_36 ko_5 e
theorem dk_X15_rows {n : Nat} {g : Hp} {F : Nat} {o : Int32 × Hp} {x1 : Int32} {x2 : Int32} {h : Hp} (k : DyK n g h) (e : sX15_rows F h (n + 513) x1 x2 = some o) : DyK n g o.2 := by
  unfold sX15_rows at e
  replace e := br_s e
  rcases e with ⟨_, e⟩ | ⟨_, e⟩
  · exact dk_X15_rows_10 k e
  · replace e := br_s e
    rcases e with ⟨_, e⟩ | ⟨_, e⟩
    · replace e := cl_s e
      obtain ⟨o_3, eo_3, e⟩ := e
      have ko_3 : DyK n g o_3.2 := dk_X15_has k eo_3
      exact dk_X15_rows_18 ko_3 e
    · exact dk_X15_rows_10 k e
theorem dk_X15_ended_32 {n : Nat} {g : Hp} {F : Nat} {o : Int32 × Hp} {t0 : Int32} {h : Hp} (k : DyK n g h) (e : sX15_ended_32 F h t0 = some o) : DyK n g o.2 := by
  unfold sX15_ended_32 at e
  rw [← Option.some.inj e]; exact k
theorem dk_X15_ended {n : Nat} {g : Hp} {F : Nat} {o : Int32 × Hp} {x0 : Nat} {x1 : Int32} {h : Hp} (k : DyK n g h) (e : sX15_ended F h x0 x1 = some o) : DyK n g o.2 := by
  unfold sX15_ended at e
  replace e := cl_s e
  obtain ⟨o_1, eo_1, e⟩ := e
  have ko_1 : DyK n g o_1.2 := dk_X15_moves k eo_1
  replace e := br_s e
  rcases e with ⟨_, e⟩ | ⟨_, e⟩
  · exact dk_X15_ended_32 ko_1 e
  · replace e := cl_s e
    obtain ⟨r_3, _, e⟩ := e
    replace e := (gd_s e).2
    replace e := cl_s e
    obtain ⟨r_5, _, e⟩ := e
    replace e := cl_s e
    obtain ⟨r_6, _, e⟩ := e
    replace e := cl_s e
    obtain ⟨o_7, eo_7, e⟩ := e
    have ko_7 : DyK n g o_7.2 := dk_X15_endedBy ko_1 eo_7
    exact dk_X15_ended_32 ko_7 e
theorem dk_X15_result_43 {n : Nat} {g : Hp} {F : Nat} {o : Int32 × Hp} {t0 : Int32} {h : Hp} (k : DyK n g h) (e : sX15_result_43 F h t0 = some o) : DyK n g o.2 := by
  unfold sX15_result_43 at e
  rw [← Option.some.inj e]; exact k
theorem dk_X15_result {n : Nat} {g : Hp} {F : Nat} {o : Int32 × Hp} {x0 : Nat} {x1 : Int32} {h : Hp} (k : DyK n g h) (e : sX15_result F h x0 x1 = some o) : DyK n g o.2 := by
  unfold sX15_result at e
  replace e := cl_s e
  obtain ⟨o_1, eo_1, e⟩ := e
  have ko_1 : DyK n g o_1.2 := dk_X15_moves k eo_1
  replace e := br_s e
  rcases e with ⟨_, e⟩ | ⟨_, e⟩
  · exact dk_X15_result_43 ko_1 e
  · replace e := cl_s e
    obtain ⟨r_3, _, e⟩ := e
    replace e := (gd_s e).2
    replace e := cl_s e
    obtain ⟨r_5, _, e⟩ := e
    replace e := cl_s e
    obtain ⟨r_6, _, e⟩ := e
    replace e := cl_s e
    obtain ⟨o_7, eo_7, e⟩ := e
    have ko_7 : DyK n g o_7.2 := dk_X15_endedBy ko_1 eo_7
    replace e := br_s e
    rcases e with ⟨_, e⟩ | ⟨_, e⟩
    · exact dk_X15_result_43 ko_7 e
    · exact dk_X15_result_43 ko_7 e
theorem dk_X15_say__25 {n : Nat} {g : Hp} {F : Nat} {o : Int32 × Hp} {h : Hp} (k : DyK n g h) (e : sX15_say__25 F h = some o) : DyK n g o.2 := by
  unfold sX15_say__25 at e
  rw [← Option.some.inj e]; exact k
theorem dk_X15_sayMove_373 {n : Nat} {g : Hp} {F : Nat} {o : Hp} {h : Hp} (k : DyK n g h) (e : sX15_sayMove_373 F h = some o) : DyK n g o := by
  unfold sX15_sayMove_373 at e
  rw [← Option.some.inj e]; exact k
theorem dk_X15_sayMove_344 {n : Nat} {g : Hp} {F : Nat} {o : Hp} {x0 : Nat} {x1 : Nat} {x5 : Int32} {h : Hp} (k : DyK n g h) (e : sX15_sayMove_344 F h x0 x1 x5 = some o) : DyK n g o := by
  unfold sX15_sayMove_344 at e
  replace e := br_s e
  rcases e with ⟨_, e⟩ | ⟨_, e⟩
  · exact dk_X15_sayMove_373 k e
  · replace e := cl_s e
    obtain ⟨r_2, _, e⟩ := e
    replace e := cl_s e
    obtain ⟨o_3, eo_3, e⟩ := e
    have ko_3 : DyK n g o_3.2 := dk_X15_isAttacked k eo_3
    replace e := br_s e
    rcases e with ⟨_, e⟩ | ⟨_, e⟩
    · exact dk_X15_sayMove_373 ko_3 e
    · replace e := cl_s e
      obtain ⟨o_5, eo_5, e⟩ := e
      have ko_5 : DyK n g o_5 := dk_X15_say ko_3 eo_5
      exact dk_X15_sayMove_373 ko_5 e
theorem dk_X15_sayMove_255 {n : Nat} {g : Hp} {F : Nat} {o : Hp} {x0 : Nat} {x1 : Nat} {x2 : Int32} {h : Hp} (k : DyK n g h) (e : sX15_sayMove_255 F h x0 x1 x2 = some o) : DyK n g o := by
  unfold sX15_sayMove_255 at e
  replace e := nm_s e
  obtain ⟨h_1, wh_1, e⟩ := e
  have kh_1 : DyK n g h_1 := by rw [wh_1]; exact dk_wI k
  replace e := cl_s e
  obtain ⟨r_2, _, e⟩ := e
  replace e := cl_s e
  obtain ⟨r_3, _, e⟩ := e
  replace e := cl_s e
  obtain ⟨o_4, eo_4, e⟩ := e
  have ko_4 : DyK n g o_4 := dk_X15_make kh_1 eo_4
  replace e := cl_s e
  obtain ⟨r_5, _, e⟩ := e
  replace e := cl_s e
  obtain ⟨r_6, _, e⟩ := e
  replace e := cl_s e
  obtain ⟨o_7, eo_7, e⟩ := e
  have ko_7 : DyK n g o_7 := dk_X15_legal ko_4 eo_7
  replace e := cl_s e
  obtain ⟨r_8, _, e⟩ := e
  replace e := cl_s e
  obtain ⟨r_9, _, e⟩ := e
  replace e := cl_s e
  obtain ⟨o_10, eo_10, e⟩ := e
  have ko_10 : DyK n g o_10.2 := dk_X15_royalOf ko_7 eo_10
  replace e := cl_s e
  obtain ⟨r_11, _, e⟩ := e
  replace e := cl_s e
  obtain ⟨r_12, _, e⟩ := e
  replace e := cl_s e
  obtain ⟨o_13, eo_13, e⟩ := e
  have ko_13 : DyK n g o_13.2 := dk_X15_endedBy ko_10 eo_13
  replace e := br_s e
  rcases e with ⟨_, e⟩ | ⟨_, e⟩
  · exact dk_X15_sayMove_344 ko_13 e
  · replace e := br_s e
    rcases e with ⟨_, e⟩ | ⟨_, e⟩
    · replace e := cl_s e
      obtain ⟨o_16, eo_16, e⟩ := e
      have ko_16 : DyK n g o_16 := dk_X15_say ko_13 eo_16
      exact dk_X15_sayMove_373 ko_16 e
    · exact dk_X15_sayMove_344 ko_13 e
theorem dk_X15_sayWhich_322 {n : Nat} {g : Hp} {F : Nat} {o : Hp} {h : Hp} (k : DyK n g h) (e : sX15_sayWhich_322 F h = some o) : DyK n g o := by
  unfold sX15_sayWhich_322 at e
  rw [← Option.some.inj e]; exact k
theorem dk_X15_sayWhich_301 {n : Nat} {g : Hp} {F : Nat} {o : Hp} {x0 : Nat} {x1 : Int32} {h : Hp} (k : DyK n g h) (e : sX15_sayWhich_301 F h x0 x1 = some o) : DyK n g o := by
  unfold sX15_sayWhich_301 at e
  replace e := cl_s e
  obtain ⟨r_1, _, e⟩ := e
  replace e := cl_s e
  obtain ⟨r_2, _, e⟩ := e
  replace e := (gd_s e).2
  replace e := (gd_s e).2
  replace e := cl_s e
  obtain ⟨o_5, eo_5, e⟩ := e
  have ko_5 : DyK n g o_5 := dk_X15_say k eo_5
  exact dk_X15_sayWhich_322 ko_5 e
theorem dk_X15_sayWhich_282 {n : Nat} {g : Hp} {F : Nat} {o : Hp} {x0 : Nat} {x1 : Int32} {x3 : Int32} {x4 : Int32} {x5 : Int32} {x6 : Int32} {h : Hp} (k : DyK n g h) (e : sX15_sayWhich_282 F h x0 x1 x3 x4 x5 x6 = some o) : DyK n g o := by
  unfold sX15_sayWhich_282 at e
  replace e := br_s e
  rcases e with ⟨_, e⟩ | ⟨_, e⟩
  · exact dk_X15_sayWhich_322 k e
  · replace e := br_s e
    rcases e with ⟨_, e⟩ | ⟨_, e⟩
    · replace e := br_s e
      rcases e with ⟨_, e⟩ | ⟨_, e⟩
      · replace e := br_s e
        rcases e with ⟨_, e⟩ | ⟨_, e⟩
        · exact dk_X15_sayWhich_301 k e
        · exact dk_X15_sayWhich_322 k e
      · exact dk_X15_sayWhich_301 k e
    · exact dk_X15_sayWhich_301 k e
theorem dk_X15_sayWhich_254 {n : Nat} {g : Hp} {F : Nat} {o : Hp} {x0 : Nat} {x1 : Int32} {x3 : Int32} {x4 : Int32} {x5 : Int32} {t0 : Int32} {h : Hp} (k : DyK n g h) (e : sX15_sayWhich_254 F h x0 x1 x3 x4 x5 t0 = some o) : DyK n g o := by
  unfold sX15_sayWhich_254 at e
  replace e := br_s e
  rcases e with ⟨_, e⟩ | ⟨_, e⟩
  · exact dk_X15_sayWhich_282 k e
  · replace e := cl_s e
    obtain ⟨r_2, _, e⟩ := e
    replace e := cl_s e
    obtain ⟨r_3, _, e⟩ := e
    replace e := (gd_s e).2
    replace e := (gd_s e).2
    replace e := cl_s e
    obtain ⟨o_6, eo_6, e⟩ := e
    have ko_6 : DyK n g o_6 := dk_X15_say k eo_6
    exact dk_X15_sayWhich_282 ko_6 e
theorem dk_X15_sayWhich_253 {n : Nat} {g : Hp} {F : Nat} {o : Hp} {x0 : Nat} {x1 : Int32} {x3 : Int32} {x4 : Int32} {x5 : Int32} {h : Hp} (k : DyK n g h) (e : sX15_sayWhich_253 F h x0 x1 x3 x4 x5 = some o) : DyK n g o := by
  unfold sX15_sayWhich_253 at e
  exact dk_X15_sayWhich_254 k e
theorem dk_X15_sayWhich_249 {n : Nat} {g : Hp} {F : Nat} {o : Hp} {x0 : Nat} {x1 : Int32} {x3 : Int32} {x4 : Int32} {x5 : Int32} {h : Hp} (k : DyK n g h) (e : sX15_sayWhich_249 F h x0 x1 x3 x4 x5 = some o) : DyK n g o := by
  unfold sX15_sayWhich_249 at e
  exact dk_X15_sayWhich_254 k e
theorem dk_X15_sayWhich_229 {n : Nat} {g : Hp} {F : Nat} {o : Hp} {x0 : Nat} {x1 : Int32} {x2 : Int32} {x3 : Int32} {x4 : Int32} {t0 : Int32} {h : Hp} (k : DyK n g h) (e : sX15_sayWhich_229 F h x0 x1 x2 x3 x4 t0 = some o) : DyK n g o := by
  unfold sX15_sayWhich_229 at e
  replace e := br_s e
  rcases e with ⟨_, e⟩ | ⟨_, e⟩
  · replace e := br_s e
    rcases e with ⟨_, e⟩ | ⟨_, e⟩
    · exact dk_X15_sayWhich_253 k e
    · replace e := br_s e
      rcases e with ⟨_, e⟩ | ⟨_, e⟩
      · exact dk_X15_sayWhich_249 k e
      · replace e := br_s e
        rcases e with ⟨_, e⟩ | ⟨_, e⟩
        · exact dk_X15_sayWhich_253 k e
        · exact dk_X15_sayWhich_249 k e
  · exact dk_X15_sayWhich_249 k e
theorem dk_X15_sayWhich_228 {n : Nat} {g : Hp} {F : Nat} {o : Hp} {x0 : Nat} {x1 : Int32} {x2 : Int32} {x3 : Int32} {x4 : Int32} {h : Hp} (k : DyK n g h) (e : sX15_sayWhich_228 F h x0 x1 x2 x3 x4 = some o) : DyK n g o := by
  unfold sX15_sayWhich_228 at e
  exact dk_X15_sayWhich_229 k e
theorem dk_X15_sayWhich_186 {n : Nat} {g : Hp} {F : Nat} {o : Hp} {x0 : Nat} {x1 : Int32} {x2 : Int32} {x3 : Int32} {x4 : Int32} {x5 : Int32} {k_10 : Hp → Nat → Int32 → Int32 → Int32 → Int32 → Int32 → Option (Hp)} (R_10 : ∀ {h : Hp} {y1 : Nat} {y2 : Int32} {y3 : Int32} {y4 : Int32} {y5 : Int32} {y6 : Int32}, DyK n g h → k_10 h y1 y2 y3 y4 y5 y6 = some o → DyK n g o) {h : Hp} (k : DyK n g h) (e : sX15_sayWhich_186 F k_10 h x0 x1 x2 x3 x4 x5 = some o) : DyK n g o := by
  unfold sX15_sayWhich_186 at e
  replace e := nm_s e
  obtain ⟨v_1, wv_1, e⟩ := e
  exact R_10 k e
theorem dk_X15_sayWhich_183 {n : Nat} {g : Hp} {F : Nat} {o : Hp} {x0 : Nat} {x1 : Int32} {x2 : Int32} {x3 : Int32} {x5 : Int32} {t0 : Int32} {t1 : Int32} {k_10 : Hp → Nat → Int32 → Int32 → Int32 → Int32 → Int32 → Option (Hp)} (R_10 : ∀ {h : Hp} {y1 : Nat} {y2 : Int32} {y3 : Int32} {y4 : Int32} {y5 : Int32} {y6 : Int32}, DyK n g h → k_10 h y1 y2 y3 y4 y5 y6 = some o → DyK n g o) {h : Hp} (k : DyK n g h) (e : sX15_sayWhich_183 F k_10 h x0 x1 x2 x3 x5 t0 t1 = some o) : DyK n g o := by
  unfold sX15_sayWhich_183 at e
  replace e := nm_s e
  obtain ⟨v_1, wv_1, e⟩ := e
  exact dk_X15_sayWhich_186 R_10 k e
theorem dk_X15_sayWhich_142 {n : Nat} {g : Hp} {F : Nat} {o : Hp} {x0 : Nat} {x1 : Int32} {x2 : Int32} {x4 : Int32} {x5 : Int32} {t0 : Int32} {t1 : Int32} {k_10 : Hp → Nat → Int32 → Int32 → Int32 → Int32 → Int32 → Option (Hp)} (R_10 : ∀ {h : Hp} {y1 : Nat} {y2 : Int32} {y3 : Int32} {y4 : Int32} {y5 : Int32} {y6 : Int32}, DyK n g h → k_10 h y1 y2 y3 y4 y5 y6 = some o → DyK n g o) {h : Hp} (k : DyK n g h) (e : sX15_sayWhich_142 F k_10 h x0 x1 x2 x4 x5 t0 t1 = some o) : DyK n g o := by
  unfold sX15_sayWhich_142 at e
  replace e := nm_s e
  obtain ⟨v_1, wv_1, e⟩ := e
  replace e := cl_s e
  obtain ⟨r_2, _, e⟩ := e
  replace e := cl_s e
  obtain ⟨r_3, _, e⟩ := e
  replace e := (gd_s e).2
  replace e := (gd_s e).2
  replace e := cl_s e
  obtain ⟨r_6, _, e⟩ := e
  replace e := cl_s e
  obtain ⟨r_7, _, e⟩ := e
  replace e := (gd_s e).2
  replace e := (gd_s e).2
  replace e := br_s e
  rcases e with ⟨_, e⟩ | ⟨_, e⟩
  · exact dk_X15_sayWhich_183 R_10 k e
  · exact dk_X15_sayWhich_183 R_10 k e
theorem dk_X15_sayWhich_10 {n : Nat} {g : Hp} {F : Nat} {o : Hp} : ∀ (f : Nat) {h : Hp} {x0 : Nat} {x1 : Int32} {x2 : Int32} {x3 : Int32} {x4 : Int32} {x5 : Int32}, DyK n g h → sX15_sayWhich_10 F f h x0 x1 x2 x3 x4 x5 = some o → DyK n g o := by
  intro f
  induction f with
  | zero => intro h x0 x1 x2 x3 x4 x5 _ e; exact absurd e (by rw [sX15_sayWhich_10]; exact fun z => nomatch z)
  | succ f ih =>
    intro h x0 x1 x2 x3 x4 x5 k e
    rw [sX15_sayWhich_10] at e
    replace e := cl_s e
    obtain ⟨r_1, _, e⟩ := e
    replace e := br_s e
    rcases e with ⟨_, e⟩ | ⟨_, e⟩
    · replace e := cl_s e
      obtain ⟨r_3, _, e⟩ := e
      replace e := cl_s e
      obtain ⟨r_4, _, e⟩ := e
      replace e := (gd_s e).2
      replace e := cl_s e
      obtain ⟨r_6, _, e⟩ := e
      replace e := br_s e
      rcases e with ⟨_, e⟩ | ⟨_, e⟩
      · replace e := cl_s e
        obtain ⟨r_8, _, e⟩ := e
        replace e := cl_s e
        obtain ⟨r_9, _, e⟩ := e
        replace e := (gd_s e).2
        replace e := br_s e
        rcases e with ⟨_, e⟩ | ⟨_, e⟩
        · exact dk_X15_sayWhich_228 k e
        · exact dk_X15_sayWhich_229 k e
      · exact dk_X15_sayWhich_228 k e
    · replace e := cl_s e
      obtain ⟨r_12, _, e⟩ := e
      replace e := cl_s e
      obtain ⟨r_13, _, e⟩ := e
      replace e := (gd_s e).2
      replace e := br_s e
      rcases e with ⟨_, e⟩ | ⟨_, e⟩
      · exact dk_X15_sayWhich_186 (fun k e => ih k e) k e
      · replace e := cl_s e
        obtain ⟨r_16, _, e⟩ := e
        replace e := cl_s e
        obtain ⟨r_17, _, e⟩ := e
        replace e := (gd_s e).2
        replace e := cl_s e
        obtain ⟨r_19, _, e⟩ := e
        replace e := cl_s e
        obtain ⟨r_20, _, e⟩ := e
        replace e := (gd_s e).2
        replace e := br_s e
        rcases e with ⟨_, e⟩ | ⟨_, e⟩
        · replace e := cl_s e
          obtain ⟨r_23, _, e⟩ := e
          replace e := cl_s e
          obtain ⟨r_24, _, e⟩ := e
          replace e := (gd_s e).2
          replace e := cl_s e
          obtain ⟨r_26, _, e⟩ := e
          replace e := cl_s e
          obtain ⟨r_27, _, e⟩ := e
          replace e := (gd_s e).2
          replace e := br_s e
          rcases e with ⟨_, e⟩ | ⟨_, e⟩
          · replace e := cl_s e
            obtain ⟨r_30, _, e⟩ := e
            replace e := cl_s e
            obtain ⟨r_31, _, e⟩ := e
            replace e := (gd_s e).2
            replace e := cl_s e
            obtain ⟨r_33, _, e⟩ := e
            replace e := cl_s e
            obtain ⟨r_34, _, e⟩ := e
            replace e := (gd_s e).2
            replace e := br_s e
            rcases e with ⟨_, e⟩ | ⟨_, e⟩
            · exact dk_X15_sayWhich_186 (fun k e => ih k e) k e
            · replace e := cl_s e
              obtain ⟨r_37, _, e⟩ := e
              replace e := cl_s e
              obtain ⟨r_38, _, e⟩ := e
              replace e := (gd_s e).2
              replace e := (gd_s e).2
              replace e := cl_s e
              obtain ⟨r_41, _, e⟩ := e
              replace e := cl_s e
              obtain ⟨r_42, _, e⟩ := e
              replace e := (gd_s e).2
              replace e := (gd_s e).2
              replace e := br_s e
              rcases e with ⟨_, e⟩ | ⟨_, e⟩
              · exact dk_X15_sayWhich_142 (fun k e => ih k e) k e
              · exact dk_X15_sayWhich_142 (fun k e => ih k e) k e
          · exact dk_X15_sayWhich_186 (fun k e => ih k e) k e
        · exact dk_X15_sayWhich_186 (fun k e => ih k e) k e
theorem dk_X15_sayWhich {n : Nat} {g : Hp} {F : Nat} {o : Hp} {x0 : Nat} {x1 : Int32} {h : Hp} (k : DyK n g h) (e : sX15_sayWhich F h x0 x1 = some o) : DyK n g o := by
  unfold sX15_sayWhich at e
  exact dk_X15_sayWhich_10 F k e
theorem dk_X15_sayMove_207 {n : Nat} {g : Hp} {F : Nat} {o : Hp} {x0 : Nat} {x1 : Nat} {x2 : Int32} {x3 : Int32} {h : Hp} (k : DyK n g h) (e : sX15_sayMove_207 F h x0 x1 x2 x3 = some o) : DyK n g o := by
  unfold sX15_sayMove_207 at e
  replace e := cl_s e
  obtain ⟨o_1, eo_1, e⟩ := e
  have ko_1 : DyK n g o_1 := dk_X15_saySquare k eo_1
  replace e := cl_s e
  obtain ⟨r_2, _, e⟩ := e
  replace e := cl_s e
  obtain ⟨r_3, _, e⟩ := e
  replace e := (gd_s e).2
  replace e := br_s e
  rcases e with ⟨_, e⟩ | ⟨_, e⟩
  · exact dk_X15_sayMove_255 ko_1 e
  · replace e := cl_s e
    obtain ⟨o_6, eo_6, e⟩ := e
    have ko_6 : DyK n g o_6 := dk_X15_say ko_1 eo_6
    replace e := cl_s e
    obtain ⟨r_7, _, e⟩ := e
    replace e := cl_s e
    obtain ⟨r_8, _, e⟩ := e
    replace e := cl_s e
    obtain ⟨r_9, _, e⟩ := e
    replace e := cl_s e
    obtain ⟨r_10, _, e⟩ := e
    replace e := (gd_s e).2
    replace e := (gd_s e).2
    replace e := cl_s e
    obtain ⟨o_13, eo_13, e⟩ := e
    have ko_13 : DyK n g o_13 := dk_X15_say ko_6 eo_13
    exact dk_X15_sayMove_255 ko_13 e
theorem dk_X15_sayMove_183 {n : Nat} {g : Hp} {F : Nat} {o : Hp} {x0 : Nat} {x1 : Nat} {x2 : Int32} {x3 : Int32} {h : Hp} (k : DyK n g h) (e : sX15_sayMove_183 F h x0 x1 x2 x3 = some o) : DyK n g o := by
  unfold sX15_sayMove_183 at e
  replace e := cl_s e
  obtain ⟨o_1, eo_1, e⟩ := e
  have ko_1 : DyK n g o_1 := dk_X15_sayWhich k eo_1
  replace e := cl_s e
  obtain ⟨r_2, _, e⟩ := e
  replace e := cl_s e
  obtain ⟨r_3, _, e⟩ := e
  replace e := (gd_s e).2
  replace e := br_s e
  rcases e with ⟨_, e⟩ | ⟨_, e⟩
  · exact dk_X15_sayMove_207 ko_1 e
  · replace e := cl_s e
    obtain ⟨o_6, eo_6, e⟩ := e
    have ko_6 : DyK n g o_6 := dk_X15_say ko_1 eo_6
    exact dk_X15_sayMove_207 ko_6 e
theorem dk_X15_sayMove {n : Nat} {g : Hp} {F : Nat} {o : Hp} {x0 : Nat} {x1 : Nat} {x2 : Int32} {h : Hp} (k : DyK n g h) (e : sX15_sayMove F h x0 x1 x2 = some o) : DyK n g o := by
  unfold sX15_sayMove at e
  replace e := nm_s e
  obtain ⟨h_1, wh_1, e⟩ := e
  have kh_1 : DyK n g h_1 := by rw [wh_1]; exact dk_wI k
  replace e := cl_s e
  obtain ⟨r_2, _, e⟩ := e
  replace e := cl_s e
  obtain ⟨r_3, _, e⟩ := e
  replace e := (gd_s e).2
  replace e := nm_s e
  obtain ⟨v_5, wv_5, e⟩ := e
  replace e := cl_s e
  obtain ⟨r_6, _, e⟩ := e
  replace e := cl_s e
  obtain ⟨r_7, _, e⟩ := e
  replace e := (gd_s e).2
  replace e := nm_s e
  obtain ⟨v_9, wv_9, e⟩ := e
  replace e := br_s e
  rcases e with ⟨_, e⟩ | ⟨_, e⟩
  · replace e := cl_s e
    obtain ⟨o_33, eo_33, e⟩ := e
    have ko_33 : DyK n g o_33 := dk_X15_say kh_1 eo_33
    replace e := cl_s e
    obtain ⟨o_34, eo_34, e⟩ := e
    have ko_34 : DyK n g o_34 := dk_X15_say ko_33 eo_34
    replace e := cl_s e
    obtain ⟨o_35, eo_35, e⟩ := e
    have ko_35 : DyK n g o_35 := dk_X15_say ko_34 eo_35
    replace e := cl_s e
    obtain ⟨r_36, _, e⟩ := e
    replace e := cl_s e
    obtain ⟨r_37, _, e⟩ := e
    replace e := (gd_s e).2
    replace e := (gd_s e).2
    replace e := cl_s e
    obtain ⟨r_40, _, e⟩ := e
    replace e := cl_s e
    obtain ⟨r_41, _, e⟩ := e
    replace e := (gd_s e).2
    replace e := (gd_s e).2
    replace e := br_s e
    rcases e with ⟨_, e⟩ | ⟨_, e⟩
    · exact dk_X15_sayMove_255 ko_35 e
    · replace e := cl_s e
      obtain ⟨o_45, eo_45, e⟩ := e
      have ko_45 : DyK n g o_45 := dk_X15_say ko_35 eo_45
      replace e := cl_s e
      obtain ⟨o_46, eo_46, e⟩ := e
      have ko_46 : DyK n g o_46 := dk_X15_say ko_45 eo_46
      exact dk_X15_sayMove_255 ko_46 e
  · replace e := br_s e
    rcases e with ⟨_, e⟩ | ⟨_, e⟩
    · replace e := cl_s e
      obtain ⟨r_24, _, e⟩ := e
      replace e := cl_s e
      obtain ⟨r_25, _, e⟩ := e
      replace e := cl_s e
      obtain ⟨r_26, _, e⟩ := e
      replace e := cl_s e
      obtain ⟨r_27, _, e⟩ := e
      replace e := (gd_s e).2
      replace e := (gd_s e).2
      replace e := cl_s e
      obtain ⟨o_30, eo_30, e⟩ := e
      have ko_30 : DyK n g o_30 := dk_X15_say kh_1 eo_30
      replace e := cl_s e
      obtain ⟨o_31, eo_31, e⟩ := e
      have ko_31 : DyK n g o_31 := dk_X15_say ko_30 eo_31
      replace e := cl_s e
      obtain ⟨o_32, eo_32, e⟩ := e
      have ko_32 : DyK n g o_32 := dk_X15_saySquare ko_31 eo_32
      exact dk_X15_sayMove_255 ko_32 e
    · replace e := cl_s e
      obtain ⟨r_12, _, e⟩ := e
      replace e := cl_s e
      obtain ⟨r_13, _, e⟩ := e
      replace e := (gd_s e).2
      replace e := cl_s e
      obtain ⟨r_15, _, e⟩ := e
      replace e := br_s e
      rcases e with ⟨_, e⟩ | ⟨_, e⟩
      · exact dk_X15_sayMove_183 kh_1 e
      · replace e := cl_s e
        obtain ⟨r_17, _, e⟩ := e
        replace e := cl_s e
        obtain ⟨r_18, _, e⟩ := e
        replace e := cl_s e
        obtain ⟨r_19, _, e⟩ := e
        replace e := cl_s e
        obtain ⟨r_20, _, e⟩ := e
        replace e := (gd_s e).2
        replace e := (gd_s e).2
        replace e := cl_s e
        obtain ⟨o_23, eo_23, e⟩ := e
        have ko_23 : DyK n g o_23 := dk_X15_say kh_1 eo_23
        exact dk_X15_sayMove_183 ko_23 e
theorem dk_X15_say_ {n : Nat} {g : Hp} {F : Nat} {o : Int32 × Hp} {x0 : Nat} {x1 : Int32} {x2 : Int32} {h : Hp} (k : DyK n g h) (e : sX15_say_ F h x0 x1 x2 = some o) : DyK n g o.2 := by
  unfold sX15_say_ at e
  replace e := cl_s e
  obtain ⟨o_1, eo_1, e⟩ := e
  have ko_1 : DyK n g o_1.2 := dk_X15_moves k eo_1
  replace e := br_s e
  rcases e with ⟨_, e⟩ | ⟨_, e⟩
  · exact dk_X15_say__25 ko_1 e
  · replace e := br_s e
    rcases e with ⟨_, e⟩ | ⟨_, e⟩
    · exact dk_X15_say__25 ko_1 e
    · replace e := cl_s e
      obtain ⟨r_4, _, e⟩ := e
      replace e := br_s e
      rcases e with ⟨_, e⟩ | ⟨_, e⟩
      · replace e := cl_s e
        obtain ⟨r_6, _, e⟩ := e
        replace e := (gd_s e).2
        replace e := cl_s e
        obtain ⟨r_8, _, e⟩ := e
        replace e := cl_s e
        obtain ⟨o_9, eo_9, e⟩ := e
        have ko_9 : DyK n g o_9 := dk_X15_sayMove ko_1 eo_9
        rw [← Option.some.inj e]; exact ko_9
      · exact dk_X15_say__25 ko_1 e
