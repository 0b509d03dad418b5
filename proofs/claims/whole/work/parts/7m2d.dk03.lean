/-! what stands where stays so: printed -/
theorem dk_X15_hear_164 {n : Nat} {g : Hp} {F : Nat} {o : Int32 × Hp} {x0 : Nat} {x3 : Int32} {x4 : Int32} {h : Hp} (k : DyK n g h) (e : sX15_hear_164 F h x0 x3 x4 = some o) : DyK n g o.2 := by
  unfold sX15_hear_164 at e
  replace e := cl_s e
  obtain ⟨r_1, _, e⟩ := e
  replace e := cl_s e
  obtain ⟨r_2, _, e⟩ := e
  replace e := (gd_s e).2
  replace e := (gd_s e).2
  replace e := (gd_s e).2
  replace e := (gd_s e).2
  replace e := (gd_s e).2
  replace e := (gd_s e).2
  replace e := nm_s e
  obtain ⟨h_9, wh_9, e⟩ := e
  have kh_9 : DyK n g h_9 := by rw [wh_9]; exact dk_cpI k
  replace e := nm_s e
  obtain ⟨h_10, wh_10, e⟩ := e
  have kh_10 : DyK n g h_10 := by rw [wh_10]; exact dk_wI kh_9
  rw [← Option.some.inj e]; exact kh_10
theorem dk_X15_hear_156 {n : Nat} {g : Hp} {F : Nat} {o : Int32 × Hp} {x0 : Nat} {x1 : Int32} {x2 : Int32} {x3 : Int32} {x5 : Int32} {t0 : Int32} {k_48 : Hp → Nat → Int32 → Int32 → Int32 → Int32 → Int32 → Option (Int32 × Hp)} (R_48 : ∀ {h : Hp} {y1 : Nat} {y2 : Int32} {y3 : Int32} {y4 : Int32} {y5 : Int32} {y6 : Int32}, DyK n g h → k_48 h y1 y2 y3 y4 y5 y6 = some o → DyK n g o.2) {h : Hp} (k : DyK n g h) (e : sX15_hear_156 F k_48 h x0 x1 x2 x3 x5 t0 = some o) : DyK n g o.2 := by
  unfold sX15_hear_156 at e
  replace e := nm_s e
  obtain ⟨v_1, wv_1, e⟩ := e
  exact R_48 k e
theorem dk_X15_hear_145 {n : Nat} {g : Hp} {F : Nat} {o : Int32 × Hp} {x0 : Nat} {x1 : Int32} {x2 : Int32} {x3 : Int32} {x5 : Int32} {x6 : Int32} {k_48 : Hp → Nat → Int32 → Int32 → Int32 → Int32 → Int32 → Option (Int32 × Hp)} (R_48 : ∀ {h : Hp} {y1 : Nat} {y2 : Int32} {y3 : Int32} {y4 : Int32} {y5 : Int32} {y6 : Int32}, DyK n g h → k_48 h y1 y2 y3 y4 y5 y6 = some o → DyK n g o.2) {h : Hp} (k : DyK n g h) (e : sX15_hear_145 F k_48 h x0 x1 x2 x3 x5 x6 = some o) : DyK n g o.2 := by
  unfold sX15_hear_145 at e
  replace e := br_s e
  rcases e with ⟨_, e⟩ | ⟨_, e⟩
  · exact dk_X15_hear_156 R_48 k e
  · exact dk_X15_hear_156 R_48 k e
theorem dk_X15_hear_137 {n : Nat} {g : Hp} {F : Nat} {o : Int32 × Hp} {x0 : Nat} {x1 : Int32} {x2 : Int32} {x3 : Int32} {x5 : Int32} {x7 : Int32} {t0 : Int32} {k_48 : Hp → Nat → Int32 → Int32 → Int32 → Int32 → Int32 → Option (Int32 × Hp)} (R_48 : ∀ {h : Hp} {y1 : Nat} {y2 : Int32} {y3 : Int32} {y4 : Int32} {y5 : Int32} {y6 : Int32}, DyK n g h → k_48 h y1 y2 y3 y4 y5 y6 = some o → DyK n g o.2) {k_104 : Hp → Nat → Int32 → Int32 → Int32 → Int32 → Int32 → Int32 → Option (Int32 × Hp)} (R_104 : ∀ {h : Hp} {y1 : Nat} {y2 : Int32} {y3 : Int32} {y4 : Int32} {y5 : Int32} {y6 : Int32} {y7 : Int32}, DyK n g h → k_104 h y1 y2 y3 y4 y5 y6 y7 = some o → DyK n g o.2) {h : Hp} (k : DyK n g h) (e : sX15_hear_137 F k_48 k_104 h x0 x1 x2 x3 x5 x7 t0 = some o) : DyK n g o.2 := by
  unfold sX15_hear_137 at e
  replace e := nm_s e
  obtain ⟨v_1, wv_1, e⟩ := e
  exact R_104 k e
theorem dk_X15_hear_104 {n : Nat} {g : Hp} {F : Nat} {o : Int32 × Hp} {k_48 : Hp → Nat → Int32 → Int32 → Int32 → Int32 → Int32 → Option (Int32 × Hp)} (R_48 : ∀ {h : Hp} {y1 : Nat} {y2 : Int32} {y3 : Int32} {y4 : Int32} {y5 : Int32} {y6 : Int32}, DyK n g h → k_48 h y1 y2 y3 y4 y5 y6 = some o → DyK n g o.2) : ∀ (f : Nat) {h : Hp} {x0 : Nat} {x1 : Int32} {x2 : Int32} {x3 : Int32} {x5 : Int32} {x6 : Int32} {x7 : Int32}, DyK n g h → sX15_hear_104 F k_48 f h x0 x1 x2 x3 x5 x6 x7 = some o → DyK n g o.2 := by
  intro f
  induction f with
  | zero => intro h x0 x1 x2 x3 x5 x6 x7 _ e; exact absurd e (by rw [sX15_hear_104]; exact fun z => nomatch z)
  | succ f ih =>
    intro h x0 x1 x2 x3 x5 x6 x7 k e
    rw [sX15_hear_104] at e
    replace e := br_s e
    rcases e with ⟨_, e⟩ | ⟨_, e⟩
    · exact dk_X15_hear_145 R_48 k e
    · replace e := br_s e
      rcases e with ⟨_, e⟩ | ⟨_, e⟩
      · exact dk_X15_hear_145 R_48 k e
      · replace e := cl_s e
        obtain ⟨r_3, _, e⟩ := e
        replace e := (gd_s e).2
        replace e := cl_s e
        obtain ⟨r_5, _, e⟩ := e
        replace e := (gd_s e).2
        replace e := br_s e
        rcases e with ⟨_, e⟩ | ⟨_, e⟩
        · exact dk_X15_hear_137 R_48 (fun k e => ih k e) k e
        · exact dk_X15_hear_137 R_48 (fun k e => ih k e) k e
theorem dk_X15_hear_99 {n : Nat} {g : Hp} {F : Nat} {o : Int32 × Hp} {x0 : Nat} {x1 : Int32} {x2 : Int32} {x3 : Int32} {x5 : Int32} {t0 : Int32} {k_48 : Hp → Nat → Int32 → Int32 → Int32 → Int32 → Int32 → Option (Int32 × Hp)} (R_48 : ∀ {h : Hp} {y1 : Nat} {y2 : Int32} {y3 : Int32} {y4 : Int32} {y5 : Int32} {y6 : Int32}, DyK n g h → k_48 h y1 y2 y3 y4 y5 y6 = some o → DyK n g o.2) {h : Hp} (k : DyK n g h) (e : sX15_hear_99 F k_48 h x0 x1 x2 x3 x5 t0 = some o) : DyK n g o.2 := by
  unfold sX15_hear_99 at e
  exact dk_X15_hear_104 R_48 F k e
theorem dk_X15_hear_94 {n : Nat} {g : Hp} {F : Nat} {o : Int32 × Hp} {x0 : Nat} {x1 : Int32} {x2 : Int32} {x3 : Int32} {x5 : Int32} {k_48 : Hp → Nat → Int32 → Int32 → Int32 → Int32 → Int32 → Option (Int32 × Hp)} (R_48 : ∀ {h : Hp} {y1 : Nat} {y2 : Int32} {y3 : Int32} {y4 : Int32} {y5 : Int32} {y6 : Int32}, DyK n g h → k_48 h y1 y2 y3 y4 y5 y6 = some o → DyK n g o.2) {h : Hp} (k : DyK n g h) (e : sX15_hear_94 F k_48 h x0 x1 x2 x3 x5 = some o) : DyK n g o.2 := by
  unfold sX15_hear_94 at e
  exact dk_X15_hear_99 R_48 k e
theorem dk_X15_hear_48 {n : Nat} {g : Hp} {F : Nat} {o : Int32 × Hp} : ∀ (f : Nat) {h : Hp} {x0 : Nat} {x1 : Int32} {x2 : Int32} {x3 : Int32} {x4 : Int32} {x5 : Int32}, DyK n g h → sX15_hear_48 F f h x0 x1 x2 x3 x4 x5 = some o → DyK n g o.2 := by
  intro f
  induction f with
  | zero => intro h x0 x1 x2 x3 x4 x5 _ e; exact absurd e (by rw [sX15_hear_48]; exact fun z => nomatch z)
  | succ f ih =>
    intro h x0 x1 x2 x3 x4 x5 k e
    rw [sX15_hear_48] at e
    replace e := cl_s e
    obtain ⟨r_1, _, e⟩ := e
    replace e := br_s e
    rcases e with ⟨_, e⟩ | ⟨_, e⟩
    · exact dk_X15_hear_164 k e
    · replace e := br_s e
      rcases e with ⟨_, e⟩ | ⟨_, e⟩
      · replace e := cl_s e
        obtain ⟨r_4, _, e⟩ := e
        replace e := (gd_s e).2
        replace e := cl_s e
        obtain ⟨r_6, _, e⟩ := e
        replace e := cl_s e
        obtain ⟨o_7, eo_7, e⟩ := e
        have ko_7 : DyK n g o_7 := dk_X15_sayMove k eo_7
        replace e := br_s e
        rcases e with ⟨_, e⟩ | ⟨_, e⟩
        · exact dk_X15_hear_94 (fun k e => ih k e) ko_7 e
        · replace e := br_s e
          rcases e with ⟨_, e⟩ | ⟨_, e⟩
          · exact dk_X15_hear_94 (fun k e => ih k e) ko_7 e
          · exact dk_X15_hear_99 (fun k e => ih k e) ko_7 e
      · exact dk_X15_hear_164 k e
theorem dk_X15_hear {n : Nat} {g : Hp} {F : Nat} {o : Int32 × Hp} {x0 : Nat} {x1 : Int32} {h : Hp} (k : DyK n g h) (e : sX15_hear F h x0 x1 = some o) : DyK n g o.2 := by
  unfold sX15_hear at e
  replace e := nm_s e
  obtain ⟨v_1, wv_1, e⟩ := e
  replace e := nm_s e
  obtain ⟨h_2, wh_2, e⟩ := e
  have kh_2 : DyK n g h_2 := by rw [wh_2]; exact dk_wI k
  replace e := cl_s e
  obtain ⟨o_3, eo_3, e⟩ := e
  have ko_3 : DyK n g o_3.2 := dk_X15_moves kh_2 eo_3
  replace e := br_s e
  rcases e with ⟨_, e⟩ | ⟨_, e⟩
  · rw [← Option.some.inj e]; exact ko_3
  · replace e := nm_s e
    obtain ⟨v_5, wv_5, e⟩ := e
    replace e := cl_s e
    obtain ⟨r_6, _, e⟩ := e
    replace e := cl_s e
    obtain ⟨r_7, _, e⟩ := e
    replace e := (gd_s e).2
    replace e := (gd_s e).2
    replace e := (gd_s e).2
    replace e := (gd_s e).2
    replace e := (gd_s e).2
    replace e := (gd_s e).2
    replace e := nm_s e
    obtain ⟨h_14, wh_14, e⟩ := e
    have kh_14 : DyK n g h_14 := by rw [wh_14]; exact dk_cpI ko_3
    exact dk_X15_hear_48 F kh_14 e
theorem dk_X15_isGame_15 {n : Nat} {g : Hp} {o : Int32 × Hp} {t0 : Int32} {h : Hp} (k : DyK n g h) (e : sX15_isGame_15 h t0 = some o) : DyK n g o.2 := by
  unfold sX15_isGame_15 at e
  replace e := (gd_s e).2
  rw [← Option.some.inj e]; exact k
theorem dk_X15_isGame_14 {n : Nat} {g : Hp} {o : Int32 × Hp} {h : Hp} (k : DyK n g h) (e : sX15_isGame_14 h = some o) : DyK n g o.2 := by
  unfold sX15_isGame_14 at e
  exact dk_X15_isGame_15 k e
theorem dk_X15_isGame {n : Nat} {g : Hp} {o : Int32 × Hp} {x0 : Int32} {h : Hp} (k : DyK n g h) (e : sX15_isGame h x0 = some o) : DyK n g o.2 := by
  unfold sX15_isGame at e
  replace e := br_s e
  rcases e with ⟨_, e⟩ | ⟨_, e⟩
  · exact dk_X15_isGame_14 k e
  · replace e := br_s e
    rcases e with ⟨_, e⟩ | ⟨_, e⟩
    · exact dk_X15_isGame_14 k e
    · exact dk_X15_isGame_15 k e

theorem dk_X15_start_36 {n : Nat} {g : Hp} {o : Int32 × Hp} {x1 : Int32} {h : Hp} (k : DyK n g h) (e : sX15_start_36 h (n + 513) x1 = some o) : DyK n g o.2 := by
  unfold sX15_start_36 at e
  replace e := cl_s e
  obtain ⟨r_1, _, e⟩ := e
  replace e := (gd_s e).2
  replace e := nm_s e
  obtain ⟨h_3, wh_3, e⟩ := e
  have kh_3 : DyK n g h_3 := by rw [wh_3]; exact dk_wI k
  rw [← Option.some.inj e]; exact kh_3
theorem dk_X15_start_27 {n : Nat} {g : Hp} {o : Int32 × Hp} {x1 : Int32} {x2 : Int32} {t0 : Nat} {h : Hp} (k : DyK n g h) (e : sX15_start_27 h (n + 513) x1 x2 t0 = some o) : DyK n g o.2 := by
  unfold sX15_start_27 at e
  replace e := cl_s e
  obtain ⟨r_1, _, e⟩ := e
  replace e := (gd_s e).2
  replace e := cl_s e
  obtain ⟨r_3, _, e⟩ := e
  replace e := cl_s e
  obtain ⟨o_4, eo_4, e⟩ := e
  have ko_4 : DyK n g o_4 := dk_X12_copy k eo_4
  exact dk_X15_start_36 ko_4 e
theorem dk_X15_start_15 {n : Nat} {g : Hp} {o : Int32 × Hp} {x1 : Int32} {x2 : Int32} {t0 : Int32} {h : Hp} (k : DyK n g h) (e : sX15_start_15 h (n + 513) x1 x2 t0 = some o) : DyK n g o.2 := by
  unfold sX15_start_15 at e
  replace e := br_s e
  rcases e with ⟨_, e⟩ | ⟨_, e⟩
  · rw [← Option.some.inj e]; exact k
  · replace e := cl_s e
    obtain ⟨o_2, eo_2, e⟩ := e
    have ko_2 : DyK n g o_2.2 := dk_X15_gameBoard k eo_2
    exact dk_X15_start_27 ko_2 e
theorem dk_X15_start_4 {n : Nat} {g : Hp} {o : Int32 × Hp} {x1 : Int32} {x2 : Int32} {t0 : Int32} {h : Hp} (k : DyK n g h) (e : sX15_start_4 h (n + 513) x1 x2 t0 = some o) : DyK n g o.2 := by
  unfold sX15_start_4 at e
  replace e := br_s e
  rcases e with ⟨_, e⟩ | ⟨_, e⟩
  · rw [← Option.some.inj e]; exact k
  · replace e := cl_s e
    obtain ⟨o_2, eo_2, e⟩ := e
    have ko_2 : DyK n g o_2.2 := dk_X15_has k eo_2
    exact dk_X15_start_15 ko_2 e
theorem dk_X15_start {n : Nat} {g : Hp} {o : Int32 × Hp} {x1 : Int32} {x2 : Int32} {h : Hp} (k : DyK n g h) (e : sX15_start h (n + 513) x1 x2 = some o) : DyK n g o.2 := by
  unfold sX15_start at e
  replace e := cl_s e
  obtain ⟨o_1, eo_1, e⟩ := e
  have ko_1 : DyK n g o_1.2 := dk_X15_isGame k eo_1
  exact dk_X15_start_4 ko_1 e
theorem dk_X15_add_59 {n : Nat} {g : Hp} {F : Nat} {o : Int32 × Hp} {h : Hp} (k : DyK n g h) (e : sX15_add_59 F h = some o) : DyK n g o.2 := by
  unfold sX15_add_59 at e
  rw [← Option.some.inj e]; exact k
theorem dk_X15_add_100 {n : Nat} {g : Hp} {F : Nat} {o : Int32 × Hp} {x1 : Int32} {x2 : Int32} {h : Hp} (k : DyK n g h) (e : sX15_add_100 F h (n + 513) x1 x2 = some o) : DyK n g o.2 := by
  unfold sX15_add_100 at e
  replace e := cl_s e
  obtain ⟨r_1, _, e⟩ := e
  replace e := cl_s e
  obtain ⟨r_2, _, e⟩ := e
  replace e := (gd_s e).2
  replace e := (gd_s e).2
  replace e := nm_s e
  obtain ⟨h_5, wh_5, e⟩ := e
  have kh_5 : DyK n g h_5 := by rw [wh_5]; exact dk_wI k
  replace e := cl_s e
  obtain ⟨r_6, _, e⟩ := e
  replace e := (gd_s e).2
  replace e := (gd_s e).2
  replace e := nm_s e
  obtain ⟨h_9, wh_9, e⟩ := e
  have kh_9 : DyK n g h_9 := by rw [wh_9]; exact dk_wI kh_5
  replace e := cl_s e
  obtain ⟨r_10, _, e⟩ := e
  replace e := (gd_s e).2
  rw [← Option.some.inj e]; exact kh_9
theorem dk_X15_add_97 {n : Nat} {g : Hp} {F : Nat} {o : Int32 × Hp} {x1 : Int32} {x2 : Int32} {t0 : Nat} {t1 : Int32} {t2 : Nat} {t3 : Nat} {t4 : Nat} {h : Hp} (k : DyK n g h) (e : sX15_add_97 F h (n + 513) x1 x2 t0 t1 t2 t3 t4 = some o) : DyK n g o.2 := by
  unfold sX15_add_97 at e
  replace e := cl_s e
  obtain ⟨o_1, eo_1, e⟩ := e
  have ko_1 : DyK n g o_1 := dk_X15_make k eo_1
  exact dk_X15_add_100 ko_1 e
theorem dk_X15_add_44 {n : Nat} {g : Hp} {F : Nat} {o : Int32 × Hp} {x1 : Int32} {x2 : Int32} {x3 : Nat} {h : Hp} (k : DyK n g h) (e : sX15_add_44 F h (n + 513) x1 x2 x3 = some o) : DyK n g o.2 := by
  unfold sX15_add_44 at e
  replace e := br_s e
  rcases e with ⟨_, e⟩ | ⟨_, e⟩
  · exact dk_X15_add_59 k e
  · replace e := cl_s e
    obtain ⟨r_2, _, e⟩ := e
    replace e := br_s e
    rcases e with ⟨_, e⟩ | ⟨_, e⟩
    · replace e := cl_s e
      obtain ⟨r_4, _, e⟩ := e
      replace e := (gd_s e).2
      replace e := br_s e
      rcases e with ⟨_, e⟩ | ⟨_, e⟩
      · rw [← Option.some.inj e]; exact k
      · replace e := cl_s e
        obtain ⟨r_7, _, e⟩ := e
        replace e := cl_s e
        obtain ⟨r_8, _, e⟩ := e
        replace e := (gd_s e).2
        replace e := cl_s e
        obtain ⟨o_10, eo_10, e⟩ := e
        have ko_10 : DyK n g o_10.2 := dk_X15_gameBoard k eo_10
        exact dk_X15_add_97 ko_10 e
    · exact dk_X15_add_59 k e
theorem dk_X15_add_34 {n : Nat} {g : Hp} {F : Nat} {o : Int32 × Hp} {x1 : Int32} {x2 : Int32} {t0 : Nat} {h : Hp} (k : DyK n g h) (e : sX15_add_34 F h (n + 513) x1 x2 t0 = some o) : DyK n g o.2 := by
  unfold sX15_add_34 at e
  replace e := cl_s e
  obtain ⟨r_1, _, e⟩ := e
  replace e := cl_s e
  obtain ⟨o_2, eo_2, e⟩ := e
  have ko_2 : DyK n g o_2 := dk_X15_legal k eo_2
  exact dk_X15_add_44 ko_2 e
theorem dk_X15_add_4 {n : Nat} {g : Hp} {F : Nat} {o : Int32 × Hp} {x1 : Int32} {x2 : Int32} {t0 : Int32} {h : Hp} (k : DyK n g h) (e : sX15_add_4 F h (n + 513) x1 x2 t0 = some o) : DyK n g o.2 := by
  unfold sX15_add_4 at e
  replace e := br_s e
  rcases e with ⟨_, e⟩ | ⟨_, e⟩
  · rw [← Option.some.inj e]; exact k
  · replace e := cl_s e
    obtain ⟨r_2, _, e⟩ := e
    replace e := (gd_s e).2
    replace e := br_s e
    rcases e with ⟨_, e⟩ | ⟨_, e⟩
    · rw [← Option.some.inj e]; exact k
    · replace e := cl_s e
      obtain ⟨r_5, _, e⟩ := e
      replace e := (gd_s e).2
      replace e := cl_s e
      obtain ⟨o_7, eo_7, e⟩ := e
      have ko_7 : DyK n g o_7.2 := dk_X15_gameBoard k eo_7
      exact dk_X15_add_34 ko_7 e
theorem dk_X15_add {n : Nat} {g : Hp} {F : Nat} {o : Int32 × Hp} {x1 : Int32} {x2 : Int32} {h : Hp} (k : DyK n g h) (e : sX15_add F h (n + 513) x1 x2 = some o) : DyK n g o.2 := by
  unfold sX15_add at e
  replace e := cl_s e
  obtain ⟨o_1, eo_1, e⟩ := e
  have ko_1 : DyK n g o_1.2 := dk_X15_isGame k eo_1
  exact dk_X15_add_4 ko_1 e
theorem dk_X15_back {n : Nat} {g : Hp} {o : Int32 × Hp} {x0 : Nat} {x1 : Int32} {h : Hp} (k : DyK n g h) (e : sX15_back h x0 x1 = some o) : DyK n g o.2 := by
  unfold sX15_back at e
  replace e := cl_s e
  obtain ⟨o_1, eo_1, e⟩ := e
  have ko_1 : DyK n g o_1.2 := dk_X15_isGame k eo_1
  replace e := br_s e
  rcases e with ⟨_, e⟩ | ⟨_, e⟩
  · rw [← Option.some.inj e]; exact ko_1
  · replace e := cl_s e
    obtain ⟨r_3, _, e⟩ := e
    replace e := (gd_s e).2
    replace e := br_s e
    rcases e with ⟨_, e⟩ | ⟨_, e⟩
    · rw [← Option.some.inj e]; exact ko_1
    · replace e := cl_s e
      obtain ⟨r_6, _, e⟩ := e
      replace e := (gd_s e).2
      replace e := br_s e
      rcases e with ⟨_, e⟩ | ⟨_, e⟩
      · rw [← Option.some.inj e]; exact ko_1
      · replace e := cl_s e
        obtain ⟨r_9, _, e⟩ := e
        replace e := (gd_s e).2
        replace e := (gd_s e).2
        replace e := nm_s e
        obtain ⟨h_12, wh_12, e⟩ := e
        have kh_12 : DyK n g h_12 := by rw [wh_12]; exact dk_wI ko_1
        replace e := cl_s e
        obtain ⟨r_13, _, e⟩ := e
        replace e := (gd_s e).2
        rw [← Option.some.inj e]; exact kh_12
theorem dk_X15_game_16 {n : Nat} {g : Hp} {F : Nat} {o : Int32 × Hp} {h : Hp} (k : DyK n g h) (e : sX15_game_16 F h = some o) : DyK n g o.2 := by
  unfold sX15_game_16 at e
  rw [← Option.some.inj e]; exact k
theorem dk_X15_game_81 {n : Nat} {g : Hp} {F : Nat} {o : Int32 × Hp} {t0 : Int32} {h : Hp} (k : DyK n g h) (e : sX15_game_81 F h t0 = some o) : DyK n g o.2 := by
  unfold sX15_game_81 at e
  rw [← Option.some.inj e]; exact k
theorem dk_X15_game_69 {n : Nat} {g : Hp} {F : Nat} {o : Int32 × Hp} {x3 : Nat} {h : Hp} (k : DyK n g h) (e : sX15_game_69 F h (n + 513) x3 = some o) : DyK n g o.2 := by
  unfold sX15_game_69 at e
  replace e := cl_s e
  obtain ⟨r_1, _, e⟩ := e
  replace e := cl_s e
  obtain ⟨o_2, eo_2, e⟩ := e
  have ko_2 : DyK n g o_2.2 := dk_X15_endedBy k eo_2
  exact dk_X15_game_81 ko_2 e
theorem dk_X15_game_160 {n : Nat} {g : Hp} {F : Nat} {o : Int32 × Hp} {t0 : Int32} {h : Hp} (k : DyK n g h) (e : sX15_game_160 F h t0 = some o) : DyK n g o.2 := by
  unfold sX15_game_160 at e
  rw [← Option.some.inj e]; exact k
theorem dk_X15_game_155 {n : Nat} {g : Hp} {F : Nat} {o : Int32 × Hp} {h : Hp} (k : DyK n g h) (e : sX15_game_155 F h = some o) : DyK n g o.2 := by
  unfold sX15_game_155 at e
  exact dk_X15_game_160 k e
theorem dk_X15_game_121 {n : Nat} {g : Hp} {F : Nat} {o : Int32 × Hp} {x1 : Int32} {x2 : Int32} {x3 : Nat} {x5 : Int32} {t0 : Int32} {t1 : Int32} {k_88 : Hp → Nat → Int32 → Int32 → Nat → Int32 → Int32 → Option (Int32 × Hp)} (R_88 : ∀ {h : Hp} {y2 : Int32} {y3 : Int32} {y4 : Nat} {y5 : Int32} {y6 : Int32}, DyK n g h → k_88 h (n + 513) y2 y3 y4 y5 y6 = some o → DyK n g o.2) {h : Hp} (k : DyK n g h) (e : sX15_game_121 F k_88 h (n + 513) x1 x2 x3 x5 t0 t1 = some o) : DyK n g o.2 := by
  unfold sX15_game_121 at e
  replace e := nm_s e
  obtain ⟨v_1, wv_1, e⟩ := e
  replace e := nm_s e
  obtain ⟨v_2, wv_2, e⟩ := e
  exact R_88 k e
theorem dk_X15_game_113 {n : Nat} {g : Hp} {F : Nat} {o : Int32 × Hp} {x1 : Int32} {x2 : Int32} {x3 : Nat} {x5 : Int32} {t0 : Int32} {t1 : Int32} {k_88 : Hp → Nat → Int32 → Int32 → Nat → Int32 → Int32 → Option (Int32 × Hp)} (R_88 : ∀ {h : Hp} {y2 : Int32} {y3 : Int32} {y4 : Nat} {y5 : Int32} {y6 : Int32}, DyK n g h → k_88 h (n + 513) y2 y3 y4 y5 y6 = some o → DyK n g o.2) {h : Hp} (k : DyK n g h) (e : sX15_game_113 F k_88 h (n + 513) x1 x2 x3 x5 t0 t1 = some o) : DyK n g o.2 := by
  unfold sX15_game_113 at e
  replace e := br_s e
  rcases e with ⟨_, e⟩ | ⟨_, e⟩
  · exact dk_X15_game_121 R_88 k e
  · exact dk_X15_game_121 R_88 k e
theorem dk_X15_game_109 {n : Nat} {g : Hp} {F : Nat} {o : Int32 × Hp} {x1 : Int32} {x2 : Int32} {x3 : Nat} {x5 : Int32} {t0 : Nat} {t1 : Nat} {t2 : Int32} {k_88 : Hp → Nat → Int32 → Int32 → Nat → Int32 → Int32 → Option (Int32 × Hp)} (R_88 : ∀ {h : Hp} {y2 : Int32} {y3 : Int32} {y4 : Nat} {y5 : Int32} {y6 : Int32}, DyK n g h → k_88 h (n + 513) y2 y3 y4 y5 y6 = some o → DyK n g o.2) {h : Hp} (k : DyK n g h) (e : sX15_game_109 F k_88 h (n + 513) x1 x2 x3 x5 t0 t1 t2 = some o) : DyK n g o.2 := by
  unfold sX15_game_109 at e
  replace e := cl_s e
  obtain ⟨o_1, eo_1, e⟩ := e
  have ko_1 : DyK n g o_1.2 := dk_X15_isSame k eo_1
  exact dk_X15_game_113 R_88 ko_1 e
theorem dk_X15_game_88 {n : Nat} {g : Hp} {F : Nat} {o : Int32 × Hp} : ∀ (f : Nat) {h : Hp} {x1 : Int32} {x2 : Int32} {x3 : Nat} {x4 : Int32} {x5 : Int32}, DyK n g h → sX15_game_88 F f h (n + 513) x1 x2 x3 x4 x5 = some o → DyK n g o.2 := by
  intro f
  induction f with
  | zero => intro h x1 x2 x3 x4 x5 _ e; exact absurd e (by rw [sX15_game_88]; exact fun z => nomatch z)
  | succ f ih =>
    intro h x1 x2 x3 x4 x5 k e
    rw [sX15_game_88] at e
    replace e := cl_s e
    obtain ⟨r_1, _, e⟩ := e
    replace e := (gd_s e).2
    replace e := br_s e
    rcases e with ⟨_, e⟩ | ⟨_, e⟩
    · replace e := br_s e
      rcases e with ⟨_, e⟩ | ⟨_, e⟩
      · exact dk_X15_game_160 k e
      · replace e := br_s e
        rcases e with ⟨_, e⟩ | ⟨_, e⟩
        · exact dk_X15_game_155 k e
        · replace e := br_s e
          rcases e with ⟨_, e⟩ | ⟨_, e⟩
          · exact dk_X15_game_160 k e
          · exact dk_X15_game_155 k e
    · replace e := cl_s e
      obtain ⟨o_7, eo_7, e⟩ := e
      have ko_7 : DyK n g o_7.2 := dk_X15_gameBoard k eo_7
      exact dk_X15_game_109 (fun k e => ih k e) ko_7 e
theorem dk_X15_game_43 {n : Nat} {g : Hp} {F : Nat} {o : Int32 × Hp} {x1 : Int32} {x2 : Int32} {t0 : Nat} {h : Hp} (k : DyK n g h) (e : sX15_game_43 F h (n + 513) x1 x2 t0 = some o) : DyK n g o.2 := by
  unfold sX15_game_43 at e
  replace e := br_s e
  rcases e with ⟨_, e⟩ | ⟨_, e⟩
  · replace e := cl_s e
    obtain ⟨r_5, _, e⟩ := e
    replace e := (gd_s e).2
    rw [← Option.some.inj e]; exact k
  · replace e := br_s e
    rcases e with ⟨_, e⟩ | ⟨_, e⟩
    · replace e := cl_s e
      obtain ⟨r_3, _, e⟩ := e
      replace e := cl_s e
      obtain ⟨o_4, eo_4, e⟩ := e
      have ko_4 : DyK n g o_4 := dk_X15_legal k eo_4
      exact dk_X15_game_69 ko_4 e
    · exact dk_X15_game_88 F k e
theorem dk_X15_game_4 {n : Nat} {g : Hp} {F : Nat} {o : Int32 × Hp} {x1 : Int32} {x2 : Int32} {t0 : Int32} {h : Hp} (k : DyK n g h) (e : sX15_game_4 F h (n + 513) x1 x2 t0 = some o) : DyK n g o.2 := by
  unfold sX15_game_4 at e
  replace e := br_s e
  rcases e with ⟨_, e⟩ | ⟨_, e⟩
  · exact dk_X15_game_16 k e
  · replace e := br_s e
    rcases e with ⟨_, e⟩ | ⟨_, e⟩
    · exact dk_X15_game_16 k e
    · replace e := br_s e
      rcases e with ⟨_, e⟩ | ⟨_, e⟩
      · replace e := cl_s e
        obtain ⟨r_4, _, e⟩ := e
        replace e := (gd_s e).2
        replace e := br_s e
        rcases e with ⟨_, e⟩ | ⟨_, e⟩
        · rw [← Option.some.inj e]; exact k
        · replace e := cl_s e
          obtain ⟨r_7, _, e⟩ := e
          replace e := (gd_s e).2
          replace e := cl_s e
          obtain ⟨o_9, eo_9, e⟩ := e
          have ko_9 : DyK n g o_9.2 := dk_X15_gameBoard k eo_9
          exact dk_X15_game_43 ko_9 e
      · exact dk_X15_game_16 k e
theorem dk_X15_game {n : Nat} {g : Hp} {F : Nat} {o : Int32 × Hp} {x1 : Int32} {x2 : Int32} {h : Hp} (k : DyK n g h) (e : sX15_game F h (n + 513) x1 x2 = some o) : DyK n g o.2 := by
  unfold sX15_game at e
  replace e := cl_s e
  obtain ⟨o_1, eo_1, e⟩ := e
  have ko_1 : DyK n g o_1.2 := dk_X15_isGame k eo_1
  exact dk_X15_game_4 ko_1 e
theorem dk_X15_played_51 {n : Nat} {g : Hp} {o : Int32 × Hp} {t0 : Int32} {h : Hp} (k : DyK n g h) (e : sX15_played_51 h t0 = some o) : DyK n g o.2 := by
  unfold sX15_played_51 at e
  rw [← Option.some.inj e]; exact k
theorem dk_X15_played_34 {n : Nat} {g : Hp} {o : Int32 × Hp} {h : Hp} (k : DyK n g h) (e : sX15_played_34 h = some o) : DyK n g o.2 := by
  unfold sX15_played_34 at e
  exact dk_X15_played_51 k e
theorem dk_X15_played {n : Nat} {g : Hp} {o : Int32 × Hp} {x0 : Nat} {x1 : Int32} {x2 : Int32} {h : Hp} (k : DyK n g h) (e : sX15_played h x0 x1 x2 = some o) : DyK n g o.2 := by
  unfold sX15_played at e
  replace e := cl_s e
  obtain ⟨o_1, eo_1, e⟩ := e
  have ko_1 : DyK n g o_1.2 := dk_X15_isGame k eo_1
  replace e := br_s e
  rcases e with ⟨_, e⟩ | ⟨_, e⟩
  · rw [← Option.some.inj e]; exact ko_1
  · replace e := cl_s e
    obtain ⟨r_3, _, e⟩ := e
    replace e := (gd_s e).2
    replace e := br_s e
    rcases e with ⟨_, e⟩ | ⟨_, e⟩
    · exact dk_X15_played_34 ko_1 e
    · replace e := br_s e
      rcases e with ⟨_, e⟩ | ⟨_, e⟩
      · exact dk_X15_played_34 ko_1 e
      · replace e := cl_s e
        obtain ⟨r_7, _, e⟩ := e
        replace e := (gd_s e).2
        replace e := br_s e
        rcases e with ⟨_, e⟩ | ⟨_, e⟩
        · replace e := cl_s e
          obtain ⟨r_10, _, e⟩ := e
          replace e := (gd_s e).2
          exact dk_X15_played_51 ko_1 e
        · exact dk_X15_played_34 ko_1 e
theorem dk_X15_now_40 {n : Nat} {g : Hp} {F : Nat} {o : Int32 × Hp} {t0 : Int32} {h : Hp} (k : DyK n g h) (e : sX15_now_40 F h t0 = some o) : DyK n g o.2 := by
  unfold sX15_now_40 at e
  rw [← Option.some.inj e]; exact k
theorem dk_X15_now_37 {n : Nat} {g : Hp} {F : Nat} {o : Int32 × Hp} {t0 : Nat} {h : Hp} (k : DyK n g h) (e : sX15_now_37 F h t0 (n + 513) = some o) : DyK n g o.2 := by
  unfold sX15_now_37 at e
  replace e := cl_s e
  obtain ⟨o_1, eo_1, e⟩ := e
  have ko_1 : DyK n g o_1.2 := dk_X15_keep k eo_1
  exact dk_X15_now_40 ko_1 e
theorem dk_X15_now_4 {n : Nat} {g : Hp} {F : Nat} {o : Int32 × Hp} {x1 : Int32} {t0 : Int32} {h : Hp} (k : DyK n g h) (e : sX15_now_4 F h (n + 513) x1 t0 = some o) : DyK n g o.2 := by
  unfold sX15_now_4 at e
  replace e := br_s e
  rcases e with ⟨_, e⟩ | ⟨_, e⟩
  · rw [← Option.some.inj e]; exact k
  · replace e := cl_s e
    obtain ⟨r_2, _, e⟩ := e
    replace e := (gd_s e).2
    replace e := br_s e
    rcases e with ⟨_, e⟩ | ⟨_, e⟩
    · exact dk_X15_now_40 k e
    · replace e := cl_s e
      obtain ⟨r_5, _, e⟩ := e
      replace e := (gd_s e).2
      replace e := cl_s e
      obtain ⟨o_7, eo_7, e⟩ := e
      have ko_7 : DyK n g o_7.2 := dk_X15_gameBoard k eo_7
      exact dk_X15_now_37 ko_7 e
theorem dk_X15_now {n : Nat} {g : Hp} {F : Nat} {o : Int32 × Hp} {x1 : Int32} {h : Hp} (k : DyK n g h) (e : sX15_now F h (n + 513) x1 = some o) : DyK n g o.2 := by
  unfold sX15_now at e
  replace e := cl_s e
  obtain ⟨o_1, eo_1, e⟩ := e
  have ko_1 : DyK n g o_1.2 := dk_X15_isGame k eo_1
  exact dk_X15_now_4 ko_1 e
theorem dk_X15_book_30 {n : Nat} {g : Hp} {F : Nat} {o : Int32 × Hp} {h : Hp} (k : DyK n g h) (e : sX15_book_30 F h = some o) : DyK n g o.2 := by
  unfold sX15_book_30 at e
  rw [← Option.some.inj e]; exact k
theorem dk_X15_book_141 {n : Nat} {g : Hp} {F : Nat} {o : Int32 × Hp} {x1 : Int32} {x2 : Int32} {x3 : Int32} {x4 : Int32} {k_38 : Hp → Nat → Int32 → Int32 → Int32 → Int32 → Option (Int32 × Hp)} (R_38 : ∀ {h : Hp} {y2 : Int32} {y3 : Int32} {y4 : Int32} {y5 : Int32}, DyK n g h → k_38 h (n + 513) y2 y3 y4 y5 = some o → DyK n g o.2) {h : Hp} (k : DyK n g h) (e : sX15_book_141 F k_38 h (n + 513) x1 x2 x3 x4 = some o) : DyK n g o.2 := by
  unfold sX15_book_141 at e
  replace e := nm_s e
  obtain ⟨v_1, wv_1, e⟩ := e
  exact R_38 k e
theorem dk_X15_book_135 {n : Nat} {g : Hp} {F : Nat} {o : Int32 × Hp} {x1 : Int32} {x2 : Int32} {x3 : Int32} {x4 : Int32} {x5 : Int32} {k_38 : Hp → Nat → Int32 → Int32 → Int32 → Int32 → Option (Int32 × Hp)} (R_38 : ∀ {h : Hp} {y2 : Int32} {y3 : Int32} {y4 : Int32} {y5 : Int32}, DyK n g h → k_38 h (n + 513) y2 y3 y4 y5 = some o → DyK n g o.2) {k_48 : Hp → Nat → Int32 → Int32 → Int32 → Int32 → Int32 → Option (Int32 × Hp)} (R_48 : ∀ {h : Hp} {y2 : Int32} {y3 : Int32} {y4 : Int32} {y5 : Int32} {y6 : Int32}, DyK n g h → k_48 h (n + 513) y2 y3 y4 y5 y6 = some o → DyK n g o.2) {h : Hp} (k : DyK n g h) (e : sX15_book_135 F k_38 k_48 h (n + 513) x1 x2 x3 x4 x5 = some o) : DyK n g o.2 := by
  unfold sX15_book_135 at e
  replace e := nm_s e
  obtain ⟨v_1, wv_1, e⟩ := e
  exact R_48 k e
theorem dk_X15_book_133 {n : Nat} {g : Hp} {F : Nat} {o : Int32 × Hp} {x1 : Int32} {x2 : Int32} {x4 : Int32} {x5 : Int32} {t0 : Int32} {t1 : Int32} {k_38 : Hp → Nat → Int32 → Int32 → Int32 → Int32 → Option (Int32 × Hp)} (R_38 : ∀ {h : Hp} {y2 : Int32} {y3 : Int32} {y4 : Int32} {y5 : Int32}, DyK n g h → k_38 h (n + 513) y2 y3 y4 y5 = some o → DyK n g o.2) {k_48 : Hp → Nat → Int32 → Int32 → Int32 → Int32 → Int32 → Option (Int32 × Hp)} (R_48 : ∀ {h : Hp} {y2 : Int32} {y3 : Int32} {y4 : Int32} {y5 : Int32} {y6 : Int32}, DyK n g h → k_48 h (n + 513) y2 y3 y4 y5 y6 = some o → DyK n g o.2) {h : Hp} (k : DyK n g h) (e : sX15_book_133 F k_38 k_48 h (n + 513) x1 x2 x4 x5 t0 t1 = some o) : DyK n g o.2 := by
  unfold sX15_book_133 at e
  replace e := nm_s e
  obtain ⟨v_1, wv_1, e⟩ := e
  exact dk_X15_book_135 R_38 R_48 k e
theorem dk_X15_book_125 {n : Nat} {g : Hp} {F : Nat} {o : Int32 × Hp} {x1 : Int32} {x2 : Int32} {x4 : Int32} {x5 : Int32} {t0 : Int32} {t1 : Int32} {k_38 : Hp → Nat → Int32 → Int32 → Int32 → Int32 → Option (Int32 × Hp)} (R_38 : ∀ {h : Hp} {y2 : Int32} {y3 : Int32} {y4 : Int32} {y5 : Int32}, DyK n g h → k_38 h (n + 513) y2 y3 y4 y5 = some o → DyK n g o.2) {k_48 : Hp → Nat → Int32 → Int32 → Int32 → Int32 → Int32 → Option (Int32 × Hp)} (R_48 : ∀ {h : Hp} {y2 : Int32} {y3 : Int32} {y4 : Int32} {y5 : Int32} {y6 : Int32}, DyK n g h → k_48 h (n + 513) y2 y3 y4 y5 y6 = some o → DyK n g o.2) {h : Hp} (k : DyK n g h) (e : sX15_book_125 F k_38 k_48 h (n + 513) x1 x2 x4 x5 t0 t1 = some o) : DyK n g o.2 := by
  unfold sX15_book_125 at e
  replace e := br_s e
  rcases e with ⟨_, e⟩ | ⟨_, e⟩
  · exact dk_X15_book_133 R_38 R_48 k e
  · exact dk_X15_book_133 R_38 R_48 k e
theorem dk_X15_book_116 {n : Nat} {g : Hp} {F : Nat} {o : Int32 × Hp} {x1 : Int32} {x2 : Int32} {x4 : Int32} {x5 : Int32} {t0 : Nat} {t1 : Nat} {t2 : Int32} {k_38 : Hp → Nat → Int32 → Int32 → Int32 → Int32 → Option (Int32 × Hp)} (R_38 : ∀ {h : Hp} {y2 : Int32} {y3 : Int32} {y4 : Int32} {y5 : Int32}, DyK n g h → k_38 h (n + 513) y2 y3 y4 y5 = some o → DyK n g o.2) {k_48 : Hp → Nat → Int32 → Int32 → Int32 → Int32 → Int32 → Option (Int32 × Hp)} (R_48 : ∀ {h : Hp} {y2 : Int32} {y3 : Int32} {y4 : Int32} {y5 : Int32} {y6 : Int32}, DyK n g h → k_48 h (n + 513) y2 y3 y4 y5 y6 = some o → DyK n g o.2) {h : Hp} (k : DyK n g h) (e : sX15_book_116 F k_38 k_48 h (n + 513) x1 x2 x4 x5 t0 t1 t2 = some o) : DyK n g o.2 := by
  unfold sX15_book_116 at e
  replace e := cl_s e
  obtain ⟨r_1, _, e⟩ := e
  replace e := (gd_s e).2
  replace e := cl_s e
  obtain ⟨r_3, _, e⟩ := e
  replace e := cl_s e
  obtain ⟨o_4, eo_4, e⟩ := e
  have ko_4 : DyK n g o_4.2 := dk_X15_isSame k eo_4
  exact dk_X15_book_125 R_38 R_48 ko_4 e
theorem dk_X15_book_106 {n : Nat} {g : Hp} {F : Nat} {o : Int32 × Hp} {x1 : Int32} {x2 : Int32} {x3 : Int32} {x4 : Int32} {x5 : Int32} {k_38 : Hp → Nat → Int32 → Int32 → Int32 → Int32 → Option (Int32 × Hp)} (R_38 : ∀ {h : Hp} {y2 : Int32} {y3 : Int32} {y4 : Int32} {y5 : Int32}, DyK n g h → k_38 h (n + 513) y2 y3 y4 y5 = some o → DyK n g o.2) {k_48 : Hp → Nat → Int32 → Int32 → Int32 → Int32 → Int32 → Option (Int32 × Hp)} (R_48 : ∀ {h : Hp} {y2 : Int32} {y3 : Int32} {y4 : Int32} {y5 : Int32} {y6 : Int32}, DyK n g h → k_48 h (n + 513) y2 y3 y4 y5 y6 = some o → DyK n g o.2) {h : Hp} (k : DyK n g h) (e : sX15_book_106 F k_38 k_48 h (n + 513) x1 x2 x3 x4 x5 = some o) : DyK n g o.2 := by
  unfold sX15_book_106 at e
  replace e := cl_s e
  obtain ⟨o_1, eo_1, e⟩ := e
  have ko_1 : DyK n g o_1.2 := dk_X15_gameBoard k eo_1
  exact dk_X15_book_116 R_38 R_48 ko_1 e
theorem dk_X15_book_48 {n : Nat} {g : Hp} {F : Nat} {o : Int32 × Hp} {k_38 : Hp → Nat → Int32 → Int32 → Int32 → Int32 → Option (Int32 × Hp)} (R_38 : ∀ {h : Hp} {y2 : Int32} {y3 : Int32} {y4 : Int32} {y5 : Int32}, DyK n g h → k_38 h (n + 513) y2 y3 y4 y5 = some o → DyK n g o.2) : ∀ (f : Nat) {h : Hp} {x1 : Int32} {x2 : Int32} {x3 : Int32} {x4 : Int32} {x5 : Int32}, DyK n g h → sX15_book_48 F k_38 f h (n + 513) x1 x2 x3 x4 x5 = some o → DyK n g o.2 := by
  intro f
  induction f with
  | zero => intro h x1 x2 x3 x4 x5 _ e; exact absurd e (by rw [sX15_book_48]; exact fun z => nomatch z)
  | succ f ih =>
    intro h x1 x2 x3 x4 x5 k e
    rw [sX15_book_48] at e
    replace e := cl_s e
    obtain ⟨r_1, _, e⟩ := e
    replace e := (gd_s e).2
    replace e := br_s e
    rcases e with ⟨_, e⟩ | ⟨_, e⟩
    · exact dk_X15_book_141 R_38 k e
    · replace e := cl_s e
      obtain ⟨r_4, _, e⟩ := e
      replace e := (gd_s e).2
      replace e := br_s e
      rcases e with ⟨_, e⟩ | ⟨_, e⟩
      · exact dk_X15_book_141 R_38 k e
      · replace e := br_s e
        rcases e with ⟨_, e⟩ | ⟨_, e⟩
        · exact dk_X15_book_106 R_38 (fun k e => ih k e) k e
        · replace e := cl_s e
          obtain ⟨r_8, _, e⟩ := e
          replace e := (gd_s e).2
          replace e := br_s e
          rcases e with ⟨_, e⟩ | ⟨_, e⟩
          · exact dk_X15_book_135 R_38 (fun k e => ih k e) k e
          · replace e := cl_s e
            obtain ⟨r_11, _, e⟩ := e
            replace e := (gd_s e).2
            replace e := br_s e
            rcases e with ⟨_, e⟩ | ⟨_, e⟩
            · exact dk_X15_book_106 R_38 (fun k e => ih k e) k e
            · exact dk_X15_book_135 R_38 (fun k e => ih k e) k e
theorem dk_X15_book_38 {n : Nat} {g : Hp} {F : Nat} {o : Int32 × Hp} : ∀ (f : Nat) {h : Hp} {x1 : Int32} {x2 : Int32} {x3 : Int32} {x4 : Int32}, DyK n g h → sX15_book_38 F f h (n + 513) x1 x2 x3 x4 = some o → DyK n g o.2 := by
  intro f
  induction f with
  | zero => intro h x1 x2 x3 x4 _ e; exact absurd e (by rw [sX15_book_38]; exact fun z => nomatch z)
  | succ f ih =>
    intro h x1 x2 x3 x4 k e
    rw [sX15_book_38] at e
    replace e := br_s e
    rcases e with ⟨_, e⟩ | ⟨_, e⟩
    · rw [← Option.some.inj e]; exact k
    · exact dk_X15_book_48 (fun k e => ih k e) F k e
theorem dk_X15_book_33 {n : Nat} {g : Hp} {F : Nat} {o : Int32 × Hp} {x1 : Int32} {x2 : Int32} {h : Hp} (k : DyK n g h) (e : sX15_book_33 F h (n + 513) x1 x2 = some o) : DyK n g o.2 := by
  unfold sX15_book_33 at e
  exact dk_X15_book_38 F k e
theorem dk_X15_book_5 {n : Nat} {g : Hp} {F : Nat} {o : Int32 × Hp} {x1 : Int32} {x2 : Int32} {t0 : Int32} {h : Hp} (k : DyK n g h) (e : sX15_book_5 F h (n + 513) x1 x2 t0 = some o) : DyK n g o.2 := by
  unfold sX15_book_5 at e
  replace e := br_s e
  rcases e with ⟨_, e⟩ | ⟨_, e⟩
  · exact dk_X15_book_30 k e
  · replace e := br_s e
    rcases e with ⟨_, e⟩ | ⟨_, e⟩
    · exact dk_X15_book_33 k e
    · replace e := br_s e
      rcases e with ⟨_, e⟩ | ⟨_, e⟩
      · exact dk_X15_book_30 k e
      · replace e := cl_s e
        obtain ⟨r_4, _, e⟩ := e
        replace e := br_s e
        rcases e with ⟨_, e⟩ | ⟨_, e⟩
        · exact dk_X15_book_33 k e
        · exact dk_X15_book_30 k e
theorem dk_X15_book {n : Nat} {g : Hp} {F : Nat} {o : Int32 × Hp} {x1 : Int32} {x2 : Int32} {h : Hp} (k : DyK n g h) (e : sX15_book F h (n + 513) x1 x2 = some o) : DyK n g o.2 := by
  unfold sX15_book at e
  replace e := cl_s e
  obtain ⟨o_1, eo_1, e⟩ := e
  have ko_1 : DyK n g o_1.2 := dk_X15_moves k eo_1
  exact dk_X15_book_5 ko_1 e
theorem dk_X15_sees_21 {n : Nat} {g : Hp} {F : Nat} {o : Int32 × Hp} {h : Hp} (k : DyK n g h) (e : sX15_sees_21 F h = some o) : DyK n g o.2 := by
  unfold sX15_sees_21 at e
  rw [← Option.some.inj e]; exact k
theorem dk_X15_sees_53 {n : Nat} {g : Hp} {F : Nat} {o : Int32 × Hp} {t0 : Int32} {h : Hp} (k : DyK n g h) (e : sX15_sees_53 F h t0 = some o) : DyK n g o.2 := by
  unfold sX15_sees_53 at e
  rw [← Option.some.inj e]; exact k
theorem dk_X15_seenBy_104 {n : Nat} {g : Hp} {F : Nat} {o : Int64 × Hp} {x0 : Nat} {x1 : Nat} {x2 : Int32} {x3 : Int64} {x5 : Int32} {k_5 : Hp → Nat → Nat → Int32 → Int64 → Int32 → Option (Int64 × Hp)} (R_5 : ∀ {h : Hp} {y1 : Nat} {y2 : Nat} {y3 : Int32} {y4 : Int64} {y5 : Int32}, DyK n g h → k_5 h y1 y2 y3 y4 y5 = some o → DyK n g o.2) {h : Hp} (k : DyK n g h) (e : sX15_seenBy_104 F k_5 h x0 x1 x2 x3 x5 = some o) : DyK n g o.2 := by
  unfold sX15_seenBy_104 at e
  replace e := nm_s e
  obtain ⟨v_1, wv_1, e⟩ := e
  exact R_5 k e
theorem dk_X15_seenBy_96 {n : Nat} {g : Hp} {F : Nat} {o : Int64 × Hp} {x0 : Nat} {x1 : Nat} {x2 : Int32} {x5 : Int32} {x7 : Int32} {t0 : Int64} {t1 : Int64} {k_5 : Hp → Nat → Nat → Int32 → Int64 → Int32 → Option (Int64 × Hp)} (R_5 : ∀ {h : Hp} {y1 : Nat} {y2 : Nat} {y3 : Int32} {y4 : Int64} {y5 : Int32}, DyK n g h → k_5 h y1 y2 y3 y4 y5 = some o → DyK n g o.2) {k_67 : Hp → Nat → Nat → Int32 → Int64 → Int32 → Int32 → Option (Int64 × Hp)} (R_67 : ∀ {h : Hp} {y1 : Nat} {y2 : Nat} {y3 : Int32} {y4 : Int64} {y5 : Int32} {y6 : Int32}, DyK n g h → k_67 h y1 y2 y3 y4 y5 y6 = some o → DyK n g o.2) {h : Hp} (k : DyK n g h) (e : sX15_seenBy_96 F k_5 k_67 h x0 x1 x2 x5 x7 t0 t1 = some o) : DyK n g o.2 := by
  unfold sX15_seenBy_96 at e
  replace e := nm_s e
  obtain ⟨v_1, wv_1, e⟩ := e
  replace e := nm_s e
  obtain ⟨v_2, wv_2, e⟩ := e
  exact R_67 k e
theorem dk_X15_seenBy_67 {n : Nat} {g : Hp} {F : Nat} {o : Int64 × Hp} {k_5 : Hp → Nat → Nat → Int32 → Int64 → Int32 → Option (Int64 × Hp)} (R_5 : ∀ {h : Hp} {y1 : Nat} {y2 : Nat} {y3 : Int32} {y4 : Int64} {y5 : Int32}, DyK n g h → k_5 h y1 y2 y3 y4 y5 = some o → DyK n g o.2) : ∀ (f : Nat) {h : Hp} {x0 : Nat} {x1 : Nat} {x2 : Int32} {x3 : Int64} {x5 : Int32} {x7 : Int32}, DyK n g h → sX15_seenBy_67 F k_5 f h x0 x1 x2 x3 x5 x7 = some o → DyK n g o.2 := by
  intro f
  induction f with
  | zero => intro h x0 x1 x2 x3 x5 x7 _ e; exact absurd e (by rw [sX15_seenBy_67]; exact fun z => nomatch z)
  | succ f ih =>
    intro h x0 x1 x2 x3 x5 x7 k e
    rw [sX15_seenBy_67] at e
    replace e := br_s e
    rcases e with ⟨_, e⟩ | ⟨_, e⟩
    · exact dk_X15_seenBy_104 R_5 k e
    · replace e := cl_s e
      obtain ⟨r_2, _, e⟩ := e
      replace e := (gd_s e).2
      replace e := br_s e
      rcases e with ⟨_, e⟩ | ⟨_, e⟩
      · exact dk_X15_seenBy_96 R_5 (fun k e => ih k e) k e
      · exact dk_X15_seenBy_96 R_5 (fun k e => ih k e) k e
theorem dk_X15_seenBy_61 {n : Nat} {g : Hp} {F : Nat} {o : Int64 × Hp} {x0 : Nat} {x1 : Nat} {x2 : Int32} {x3 : Int64} {x5 : Int32} {t0 : Int32} {t1 : Int32} {t2 : Nat} {t3 : Nat} {k_5 : Hp → Nat → Nat → Int32 → Int64 → Int32 → Option (Int64 × Hp)} (R_5 : ∀ {h : Hp} {y1 : Nat} {y2 : Nat} {y3 : Int32} {y4 : Int64} {y5 : Int32}, DyK n g h → k_5 h y1 y2 y3 y4 y5 = some o → DyK n g o.2) {h : Hp} (k : DyK n g h) (e : sX15_seenBy_61 F k_5 h x0 x1 x2 x3 x5 t0 t1 t2 t3 = some o) : DyK n g o.2 := by
  unfold sX15_seenBy_61 at e
  replace e := cl_s e
  obtain ⟨o_1, eo_1, e⟩ := e
  have ko_1 : DyK n g o_1 := dk_X15_lead k eo_1
  exact dk_X15_seenBy_67 R_5 F ko_1 e
theorem dk_X15_seenBy_5 {n : Nat} {g : Hp} {F : Nat} {o : Int64 × Hp} : ∀ (f : Nat) {h : Hp} {x0 : Nat} {x1 : Nat} {x2 : Int32} {x3 : Int64} {x5 : Int32}, DyK n g h → sX15_seenBy_5 F f h x0 x1 x2 x3 x5 = some o → DyK n g o.2 := by
  intro f
  induction f with
  | zero => intro h x0 x1 x2 x3 x5 _ e; exact absurd e (by rw [sX15_seenBy_5]; exact fun z => nomatch z)
  | succ f ih =>
    intro h x0 x1 x2 x3 x5 k e
    rw [sX15_seenBy_5] at e
    replace e := br_s e
    rcases e with ⟨_, e⟩ | ⟨_, e⟩
    · rw [← Option.some.inj e]; exact k
    · replace e := cl_s e
      obtain ⟨r_2, _, e⟩ := e
      replace e := (gd_s e).2
      replace e := nm_s e
      obtain ⟨v_4, wv_4, e⟩ := e
      replace e := br_s e
      rcases e with ⟨_, e⟩ | ⟨_, e⟩
      · exact dk_X15_seenBy_104 (fun k e => ih k e) k e
      · replace e := cl_s e
        obtain ⟨o_6, eo_6, e⟩ := e
        have ko_6 : DyK n g o_6.2 := dk_X15_sideOf k eo_6
        replace e := br_s e
        rcases e with ⟨_, e⟩ | ⟨_, e⟩
        · replace e := nm_s e
          obtain ⟨v_8, wv_8, e⟩ := e
          replace e := br_s e
          rcases e with ⟨_, e⟩ | ⟨_, e⟩
          · exact dk_X15_seenBy_61 (fun k e => ih k e) ko_6 e
          · exact dk_X15_seenBy_61 (fun k e => ih k e) ko_6 e
        · exact dk_X15_seenBy_104 (fun k e => ih k e) ko_6 e
theorem dk_X15_seenBy {n : Nat} {g : Hp} {F : Nat} {o : Int64 × Hp} {x0 : Nat} {x1 : Nat} {x2 : Int32} {h : Hp} (k : DyK n g h) (e : sX15_seenBy F h x0 x1 x2 = some o) : DyK n g o.2 := by
  unfold sX15_seenBy at e
  exact dk_X15_seenBy_5 F k e
theorem dk_X15_sees {n : Nat} {g : Hp} {F : Nat} {o : Int32 × Hp} {x0 : Nat} {x1 : Int32} {x2 : Int32} {x3 : Int32} {h : Hp} (k : DyK n g h) (e : sX15_sees F h x0 x1 x2 x3 = some o) : DyK n g o.2 := by
  unfold sX15_sees at e
  replace e := br_s e
  rcases e with ⟨_, e⟩ | ⟨_, e⟩
  · exact dk_X15_sees_21 k e
  · replace e := br_s e
    rcases e with ⟨_, e⟩ | ⟨_, e⟩
    · exact dk_X15_sees_21 k e
    · replace e := br_s e
      rcases e with ⟨_, e⟩ | ⟨_, e⟩
      · exact dk_X15_sees_21 k e
      · replace e := br_s e
        rcases e with ⟨_, e⟩ | ⟨_, e⟩
        · replace e := cl_s e
          obtain ⟨o_5, eo_5, e⟩ := e
          have ko_5 : DyK n g o_5.2 := dk_X15_has k eo_5
          replace e := br_s e
          rcases e with ⟨_, e⟩ | ⟨_, e⟩
          · exact dk_X15_sees_53 ko_5 e
          · replace e := cl_s e
            obtain ⟨r_7, _, e⟩ := e
            replace e := (gd_s e).2
            replace e := cl_s e
            obtain ⟨r_9, _, e⟩ := e
            replace e := cl_s e
            obtain ⟨o_10, eo_10, e⟩ := e
            have ko_10 : DyK n g o_10.2 := dk_X15_seenBy ko_5 eo_10
            exact dk_X15_sees_53 ko_10 e
        · exact dk_X15_sees_21 k e
theorem dk_X15_view_9 {n : Nat} {g : Hp} {F : Nat} {o : Int32 × Hp} {h : Hp} (k : DyK n g h) (e : sX15_view_9 F h = some o) : DyK n g o.2 := by
  unfold sX15_view_9 at e
  rw [← Option.some.inj e]; exact k
theorem dk_X15_view {n : Nat} {g : Hp} {F : Nat} {o : Int32 × Hp} {x0 : Nat} {x1 : Int32} {x2 : Int32} {h : Hp} (k : DyK n g h) (e : sX15_view F h x0 x1 x2 = some o) : DyK n g o.2 := by
  unfold sX15_view at e
  replace e := br_s e
  rcases e with ⟨_, e⟩ | ⟨_, e⟩
  · exact dk_X15_view_9 k e
  · replace e := br_s e
    rcases e with ⟨_, e⟩ | ⟨_, e⟩
    · replace e := cl_s e
      obtain ⟨o_3, eo_3, e⟩ := e
      have ko_3 : DyK n g o_3.2 := dk_X15_has k eo_3
      replace e := br_s e
      rcases e with ⟨_, e⟩ | ⟨_, e⟩
      · rw [← Option.some.inj e]; exact ko_3
      · replace e := cl_s e
        obtain ⟨r_5, _, e⟩ := e
        replace e := (gd_s e).2
        replace e := cl_s e
        obtain ⟨r_7, _, e⟩ := e
        replace e := cl_s e
        obtain ⟨o_8, eo_8, e⟩ := e
        have ko_8 : DyK n g o_8.2 := dk_X15_seenBy ko_3 eo_8
        replace e := nm_s e
        obtain ⟨h_9, wh_9, e⟩ := e
        have kh_9 : DyK n g h_9 := by rw [wh_9]; exact dk_wI ko_8
        replace e := cl_s e
        obtain ⟨r_10, _, e⟩ := e
        replace e := (gd_s e).2
        replace e := cl_s e
        obtain ⟨r_12, _, e⟩ := e
        replace e := cl_s e
        obtain ⟨o_13, eo_13, e⟩ := e
        have ko_13 : DyK n g o_13 := dk_X15_writeMen kh_9 eo_13
        rw [← Option.some.inj e]; exact ko_13
    · exact dk_X15_view_9 k e
theorem dk_X15_before_108 {n : Nat} {g : Hp} {F : Nat} {o : Int32 × Hp} {x2 : Nat} {x3 : Int32} {k_58 : Hp → Nat → Nat → Int32 → Option (Int32 × Hp)} (R_58 : ∀ {h : Hp} {y2 : Nat} {y3 : Int32}, DyK n g h → k_58 h (n + 513) y2 y3 = some o → DyK n g o.2) {h : Hp} (k : DyK n g h) (e : sX15_before_108 F k_58 h (n + 513) x2 x3 = some o) : DyK n g o.2 := by
  unfold sX15_before_108 at e
  replace e := nm_s e
  obtain ⟨v_1, wv_1, e⟩ := e
  exact R_58 k e
theorem dk_X15_guessesAll_163 {n : Nat} {g : Hp} {F : Nat} {o : Int32 × Hp} {x1 : Nat} {x2 : Int32} {x3 : Int32} {x4 : Int32} {x5 : Int32} {k_21 : Hp → Nat → Nat → Int32 → Int32 → Int32 → Int32 → Option (Int32 × Hp)} (R_21 : ∀ {h : Hp} {y2 : Nat} {y3 : Int32} {y4 : Int32} {y5 : Int32} {y6 : Int32}, DyK n g h → k_21 h (n + 513) y2 y3 y4 y5 y6 = some o → DyK n g o.2) {h : Hp} (k : DyK n g h) (e : sX15_guessesAll_163 F k_21 h (n + 513) x1 x2 x3 x4 x5 = some o) : DyK n g o.2 := by
  unfold sX15_guessesAll_163 at e
  replace e := nm_s e
  obtain ⟨v_1, wv_1, e⟩ := e
  exact R_21 k e
theorem dk_X15_mayCome_25 {n : Nat} {g : Hp} {F : Nat} {o : Int32 × Hp} {t0 : Int32} {h : Hp} (k : DyK n g h) (e : sX15_mayCome_25 F h t0 = some o) : DyK n g o.2 := by
  unfold sX15_mayCome_25 at e
  replace e := (gd_s e).2
  rw [← Option.some.inj e]; exact k
theorem dk_X15_mayCome {n : Nat} {g : Hp} {F : Nat} {o : Int32 × Hp} {x0 : Nat} {x1 : Int32} {x2 : Int32} {h : Hp} (k : DyK n g h) (e : sX15_mayCome F h x0 x1 x2 = some o) : DyK n g o.2 := by
  unfold sX15_mayCome at e
  replace e := cl_s e
  obtain ⟨r_1, _, e⟩ := e
  replace e := cl_s e
  obtain ⟨o_2, eo_2, e⟩ := e
  have ko_2 : DyK n g o_2 := dk_X15_lead k eo_2
  replace e := cl_s e
  obtain ⟨r_3, _, e⟩ := e
  replace e := (gd_s e).2
  replace e := br_s e
  rcases e with ⟨_, e⟩ | ⟨_, e⟩
  · exact dk_X15_mayCome_25 ko_2 e
  · exact dk_X15_mayCome_25 ko_2 e
theorem dk_X15_guesses_137 {n : Nat} {g : Hp} {F : Nat} {o : Int32 × Hp} {x1 : Nat} {x2 : Int32} {x3 : Int32} {x4 : Int32} {x5 : Int32} {k_3 : Hp → Nat → Nat → Int32 → Int32 → Int32 → Int32 → Option (Int32 × Hp)} (R_3 : ∀ {h : Hp} {y2 : Nat} {y3 : Int32} {y4 : Int32} {y5 : Int32} {y6 : Int32}, DyK n g h → k_3 h (n + 513) y2 y3 y4 y5 y6 = some o → DyK n g o.2) {h : Hp} (k : DyK n g h) (e : sX15_guesses_137 F k_3 h (n + 513) x1 x2 x3 x4 x5 = some o) : DyK n g o.2 := by
  unfold sX15_guesses_137 at e
  replace e := nm_s e
  obtain ⟨v_1, wv_1, e⟩ := e
  exact R_3 k e
theorem dk_X15_leadsTo_124 {n : Nat} {g : Hp} {F : Nat} {o : Int32 × Hp} {x0 : Nat} {x1 : Nat} {x2 : Int32} {k_27 : Hp → Nat → Nat → Int32 → Option (Int32 × Hp)} (R_27 : ∀ {h : Hp} {y1 : Nat} {y2 : Nat} {y3 : Int32}, DyK n g h → k_27 h y1 y2 y3 = some o → DyK n g o.2) {h : Hp} (k : DyK n g h) (e : sX15_leadsTo_124 F k_27 h x0 x1 x2 = some o) : DyK n g o.2 := by
  unfold sX15_leadsTo_124 at e
  replace e := nm_s e
  obtain ⟨v_1, wv_1, e⟩ := e
  exact R_27 k e
theorem dk_X15_leadsTo_118 {n : Nat} {g : Hp} {F : Nat} {o : Int32 × Hp} {x0 : Nat} {x1 : Nat} {x2 : Int32} {x3 : Int32} {k_27 : Hp → Nat → Nat → Int32 → Option (Int32 × Hp)} (R_27 : ∀ {h : Hp} {y1 : Nat} {y2 : Nat} {y3 : Int32}, DyK n g h → k_27 h y1 y2 y3 = some o → DyK n g o.2) {h : Hp} (k : DyK n g h) (e : sX15_leadsTo_118 F k_27 h x0 x1 x2 x3 = some o) : DyK n g o.2 := by
  unfold sX15_leadsTo_118 at e
  replace e := br_s e
  rcases e with ⟨_, e⟩ | ⟨_, e⟩
  · exact dk_X15_leadsTo_124 R_27 k e
  · rw [← Option.some.inj e]; exact k
theorem dk_X15_leadsTo_111 {n : Nat} {g : Hp} {F : Nat} {o : Int32 × Hp} {x0 : Nat} {x1 : Nat} {x2 : Int32} {x4 : Int32} {t0 : Int32} {k_27 : Hp → Nat → Nat → Int32 → Option (Int32 × Hp)} (R_27 : ∀ {h : Hp} {y1 : Nat} {y2 : Nat} {y3 : Int32}, DyK n g h → k_27 h y1 y2 y3 = some o → DyK n g o.2) {k_73 : Hp → Nat → Nat → Int32 → Int32 → Int32 → Option (Int32 × Hp)} (R_73 : ∀ {h : Hp} {y1 : Nat} {y2 : Nat} {y3 : Int32} {y4 : Int32} {y5 : Int32}, DyK n g h → k_73 h y1 y2 y3 y4 y5 = some o → DyK n g o.2) {h : Hp} (k : DyK n g h) (e : sX15_leadsTo_111 F k_27 k_73 h x0 x1 x2 x4 t0 = some o) : DyK n g o.2 := by
  unfold sX15_leadsTo_111 at e
  replace e := nm_s e
  obtain ⟨v_1, wv_1, e⟩ := e
  exact R_73 k e
theorem dk_X15_leadsTo_73 {n : Nat} {g : Hp} {F : Nat} {o : Int32 × Hp} {k_27 : Hp → Nat → Nat → Int32 → Option (Int32 × Hp)} (R_27 : ∀ {h : Hp} {y1 : Nat} {y2 : Nat} {y3 : Int32}, DyK n g h → k_27 h y1 y2 y3 = some o → DyK n g o.2) : ∀ (f : Nat) {h : Hp} {x0 : Nat} {x1 : Nat} {x2 : Int32} {x3 : Int32} {x4 : Int32}, DyK n g h → sX15_leadsTo_73 F k_27 f h x0 x1 x2 x3 x4 = some o → DyK n g o.2 := by
  intro f
  induction f with
  | zero => intro h x0 x1 x2 x3 x4 _ e; exact absurd e (by rw [sX15_leadsTo_73]; exact fun z => nomatch z)
  | succ f ih =>
    intro h x0 x1 x2 x3 x4 k e
    rw [sX15_leadsTo_73] at e
    replace e := br_s e
    rcases e with ⟨_, e⟩ | ⟨_, e⟩
    · exact dk_X15_leadsTo_118 R_27 k e
    · replace e := br_s e
      rcases e with ⟨_, e⟩ | ⟨_, e⟩
      · exact dk_X15_leadsTo_118 R_27 k e
      · replace e := cl_s e
        obtain ⟨r_3, _, e⟩ := e
        replace e := cl_s e
        obtain ⟨r_4, _, e⟩ := e
        replace e := (gd_s e).2
        replace e := cl_s e
        obtain ⟨r_6, _, e⟩ := e
        replace e := (gd_s e).2
        replace e := br_s e
        rcases e with ⟨_, e⟩ | ⟨_, e⟩
        · exact dk_X15_leadsTo_111 R_27 (fun k e => ih k e) k e
        · exact dk_X15_leadsTo_111 R_27 (fun k e => ih k e) k e
theorem dk_X15_leadsTo_27 {n : Nat} {g : Hp} {F : Nat} {o : Int32 × Hp} : ∀ (f : Nat) {h : Hp} {x0 : Nat} {x1 : Nat} {x2 : Int32}, DyK n g h → sX15_leadsTo_27 F f h x0 x1 x2 = some o → DyK n g o.2 := by
  intro f
  induction f with
  | zero => intro h x0 x1 x2 _ e; exact absurd e (by rw [sX15_leadsTo_27]; exact fun z => nomatch z)
  | succ f ih =>
    intro h x0 x1 x2 k e
    rw [sX15_leadsTo_27] at e
    replace e := cl_s e
    obtain ⟨r_1, _, e⟩ := e
    replace e := br_s e
    rcases e with ⟨_, e⟩ | ⟨_, e⟩
    · rw [← Option.some.inj e]; exact k
    · replace e := cl_s e
      obtain ⟨r_3, _, e⟩ := e
      replace e := cl_s e
      obtain ⟨r_4, _, e⟩ := e
      replace e := (gd_s e).2
      replace e := br_s e
      rcases e with ⟨_, e⟩ | ⟨_, e⟩
      · exact dk_X15_leadsTo_124 (fun k e => ih k e) k e
      · replace e := cl_s e
        obtain ⟨r_7, _, e⟩ := e
        replace e := cl_s e
        obtain ⟨r_8, _, e⟩ := e
        replace e := cl_s e
        obtain ⟨r_9, _, e⟩ := e
        replace e := cl_s e
        obtain ⟨o_10, eo_10, e⟩ := e
        have ko_10 : DyK n g o_10 := dk_X15_make k eo_10
        exact dk_X15_leadsTo_73 (fun k e => ih k e) F ko_10 e
theorem dk_X15_leadsTo {n : Nat} {g : Hp} {F : Nat} {o : Int32 × Hp} {x0 : Nat} {x1 : Nat} {h : Hp} (k : DyK n g h) (e : sX15_leadsTo F h x0 x1 = some o) : DyK n g o.2 := by
  unfold sX15_leadsTo at e
  replace e := cl_s e
  obtain ⟨r_1, _, e⟩ := e
  replace e := cl_s e
  obtain ⟨o_2, eo_2, e⟩ := e
  have ko_2 : DyK n g o_2.2 := dk_X15_wrongOf k eo_2
  replace e := br_s e
  rcases e with ⟨_, e⟩ | ⟨_, e⟩
  · replace e := cl_s e
    obtain ⟨r_4, _, e⟩ := e
    replace e := cl_s e
    obtain ⟨r_5, _, e⟩ := e
    replace e := cl_s e
    obtain ⟨o_6, eo_6, e⟩ := e
    have ko_6 : DyK n g o_6 := dk_X15_legal ko_2 eo_6
    exact dk_X15_leadsTo_27 F ko_6 e
  · rw [← Option.some.inj e]; exact ko_2
theorem dk_X15_findsRoom_294 {n : Nat} {g : Hp} {F : Nat} {o : Int32 × Hp} {x1 : Int32} {x5 : Int32} {h : Hp} (k : DyK n g h) (e : sX15_findsRoom_294 F h (n + 513) x1 x5 = some o) : DyK n g o.2 := by
  unfold sX15_findsRoom_294 at e
  replace e := nm_s e
  obtain ⟨h_1, wh_1, e⟩ := e
  have kh_1 : DyK n g h_1 := by rw [wh_1]; exact dk_wI k
  replace e := (gd_s e).2
  rw [← Option.some.inj e]; exact kh_1
theorem dk_X15_findsRoom_280 {n : Nat} {g : Hp} {F : Nat} {o : Int32 × Hp} {x1 : Int32} {x5 : Int32} {h : Hp} (k : DyK n g h) (e : sX15_findsRoom_280 F h (n + 513) x1 x5 = some o) : DyK n g o.2 := by
  unfold sX15_findsRoom_280 at e
  replace e := cl_s e
  obtain ⟨r_1, _, e⟩ := e
  replace e := cl_s e
  obtain ⟨r_2, _, e⟩ := e
  replace e := (gd_s e).2
  replace e := (gd_s e).2
  replace e := (gd_s e).2
  replace e := (gd_s e).2
  replace e := (gd_s e).2
  replace e := (gd_s e).2
  replace e := nm_s e
  obtain ⟨h_9, wh_9, e⟩ := e
  have kh_9 : DyK n g h_9 := by rw [wh_9]; exact dk_cpI k
  exact dk_X15_findsRoom_294 kh_9 e
theorem dk_X15_findsRoom_270 {n : Nat} {g : Hp} {F : Nat} {o : Int32 × Hp} {x1 : Int32} {x5 : Int32} {h : Hp} (k : DyK n g h) (e : sX15_findsRoom_270 F h (n + 513) x1 x5 = some o) : DyK n g o.2 := by
  unfold sX15_findsRoom_270 at e
  replace e := nm_s e
  obtain ⟨h_1, wh_1, e⟩ := e
  have kh_1 : DyK n g h_1 := by rw [wh_1]; exact dk_wI k
  exact dk_X15_findsRoom_280 kh_1 e
theorem dk_X15_findsRoom_228 {n : Nat} {g : Hp} {F : Nat} {o : Int32 × Hp} {x1 : Int32} {x5 : Int32} {h : Hp} (k : DyK n g h) (e : sX15_findsRoom_228 F h (n + 513) x1 x5 = some o) : DyK n g o.2 := by
  unfold sX15_findsRoom_228 at e
  replace e := cl_s e
  obtain ⟨r_1, _, e⟩ := e
  replace e := (gd_s e).2
  replace e := nm_s e
  obtain ⟨h_3, wh_3, e⟩ := e
  have kh_3 : DyK n g h_3 := by rw [wh_3]; exact dk_wI k
  replace e := cl_s e
  obtain ⟨r_4, _, e⟩ := e
  replace e := cl_s e
  obtain ⟨r_5, _, e⟩ := e
  replace e := (gd_s e).2
  replace e := (gd_s e).2
  replace e := (gd_s e).2
  replace e := (gd_s e).2
  replace e := (gd_s e).2
  replace e := (gd_s e).2
  replace e := nm_s e
  obtain ⟨h_12, wh_12, e⟩ := e
  have kh_12 : DyK n g h_12 := by rw [wh_12]; exact dk_cpI kh_3
  exact dk_X15_findsRoom_270 kh_12 e
theorem dk_X15_findsRoom_174 {n : Nat} {g : Hp} {F : Nat} {o : Int32 × Hp} : ∀ (f : Nat) {h : Hp} {x1 : Int32} {x2 : Int32} {x5 : Int32} {x6 : Int32}, DyK n g h → sX15_findsRoom_174 F f h (n + 513) x1 x2 x5 x6 = some o → DyK n g o.2 := by
  intro f
  induction f with
  | zero => intro h x1 x2 x5 x6 _ e; exact absurd e (by rw [sX15_findsRoom_174]; exact fun z => nomatch z)
  | succ f ih =>
    intro h x1 x2 x5 x6 k e
    rw [sX15_findsRoom_174] at e
    replace e := br_s e
    rcases e with ⟨_, e⟩ | ⟨_, e⟩
    · replace e := cl_s e
      obtain ⟨r_2, _, e⟩ := e
      replace e := (gd_s e).2
      replace e := nm_s e
      obtain ⟨h_4, wh_4, e⟩ := e
      have kh_4 : DyK n g h_4 := by rw [wh_4]; exact dk_wI k
      replace e := cl_s e
      obtain ⟨r_5, _, e⟩ := e
      replace e := (gd_s e).2
      replace e := cl_s e
      obtain ⟨r_7, _, e⟩ := e
      replace e := cl_s e
      obtain ⟨r_8, _, e⟩ := e
      replace e := cl_s e
      obtain ⟨o_9, eo_9, e⟩ := e
      have ko_9 : DyK n g o_9 := dk_X12_copy kh_4 eo_9
      exact dk_X15_findsRoom_228 ko_9 e
    · replace e := cl_s e
      obtain ⟨r_10, _, e⟩ := e
      replace e := cl_s e
      obtain ⟨r_11, _, e⟩ := e
      replace e := (gd_s e).2
      replace e := (gd_s e).2
      replace e := nm_s e
      obtain ⟨h_14, wh_14, e⟩ := e
      have kh_14 : DyK n g h_14 := by rw [wh_14]; exact dk_wI k
      replace e := nm_s e
      obtain ⟨v_15, wv_15, e⟩ := e
      exact ih kh_14 e
theorem dk_X15_findsRoom_168 {n : Nat} {g : Hp} {F : Nat} {o : Int32 × Hp} {x1 : Int32} {x2 : Int32} {x5 : Int32} {h : Hp} (k : DyK n g h) (e : sX15_findsRoom_168 F h (n + 513) x1 x2 x5 = some o) : DyK n g o.2 := by
  unfold sX15_findsRoom_168 at e
  replace e := nm_s e
  obtain ⟨v_1, wv_1, e⟩ := e
  exact dk_X15_findsRoom_174 F k e
theorem dk_X15_findsRoom_128 {n : Nat} {g : Hp} {F : Nat} {o : Int32 × Hp} {x1 x2 x4 t0 : Int32} {h : Hp} (k : DyK n g h) (e : sX15_findsRoom_128 F h (n + 513) x1 x2 x4 t0 = some o) : DyK n g o.2 := by
  rcases fd_g k.1 e with e | ⟨_, _, _, o2, r, G, e⟩
  · exact dk_X15_findsRoom_280 k e
  · exact dk_X15_findsRoom_168 (dk_got k (by decide) G) e
theorem dk_X15_findsRoom_123 {n : Nat} {g : Hp} {F : Nat} {o : Int32 × Hp} {x1 : Int32} {x2 : Int32} {x4 : Int32} {h : Hp} (k : DyK n g h) (e : sX15_findsRoom_123 F h (n + 513) x1 x2 x4 = some o) : DyK n g o.2 := by
  unfold sX15_findsRoom_123 at e
  exact dk_X15_findsRoom_128 k e
theorem dk_X15_findsRoom_108 {n : Nat} {g : Hp} {F : Nat} {o : Int32 × Hp} {x1 : Int32} {x2 : Int32} {x4 : Int32} {h : Hp} (k : DyK n g h) (e : sX15_findsRoom_108 F h (n + 513) x1 x2 x4 = some o) : DyK n g o.2 := by
  unfold sX15_findsRoom_108 at e
  replace e := br_s e
  rcases e with ⟨_, e⟩ | ⟨_, e⟩
  · replace e := br_s e
    rcases e with ⟨_, e⟩ | ⟨_, e⟩
    · exact dk_X15_findsRoom_128 k e
    · exact dk_X15_findsRoom_123 k e
  · exact dk_X15_findsRoom_123 k e
theorem dk_X15_compare_74 {n : Nat} {g : Hp} {F : Nat} {o : Int32 × Hp} {x0 : Nat} {x2 : Int32} {h : Hp} (k : DyK n g h) (e : sX15_compare_74 F h x0 x2 = some o) : DyK n g o.2 := by
  unfold sX15_compare_74 at e
  rw [← Option.some.inj e]; exact k
theorem dk_X15_compare_12 {n : Nat} {g : Hp} {F : Nat} {o : Int32 × Hp} : ∀ (f : Nat) {h : Hp} {x0 : Nat} {x1 : Int32} {x2 : Int32} {x3 : Int32}, DyK n g h → sX15_compare_12 F f h x0 x1 x2 x3 = some o → DyK n g o.2 := by
  intro f
  induction f with
  | zero => intro h x0 x1 x2 x3 _ e; exact absurd e (by rw [sX15_compare_12]; exact fun z => nomatch z)
  | succ f ih =>
    intro h x0 x1 x2 x3 k e
    rw [sX15_compare_12] at e
    replace e := br_s e
    rcases e with ⟨_, e⟩ | ⟨_, e⟩
    · exact dk_X15_compare_74 k e
    · replace e := br_s e
      rcases e with ⟨_, e⟩ | ⟨_, e⟩
      · exact dk_X15_compare_74 k e
      · replace e := cl_s e
        obtain ⟨r_3, _, e⟩ := e
        replace e := (gd_s e).2
        replace e := cl_s e
        obtain ⟨r_5, _, e⟩ := e
        replace e := (gd_s e).2
        replace e := br_s e
        rcases e with ⟨_, e⟩ | ⟨_, e⟩
        · replace e := nm_s e
          obtain ⟨v_8, wv_8, e⟩ := e
          exact ih k e
        · replace e := cl_s e
          obtain ⟨r_9, _, e⟩ := e
          replace e := (gd_s e).2
          replace e := cl_s e
          obtain ⟨r_11, _, e⟩ := e
          replace e := (gd_s e).2
          rw [← Option.some.inj e]; exact k
theorem dk_X15_compare {n : Nat} {g : Hp} {F : Nat} {o : Int32 × Hp} {x0 : Nat} {x1 : Int32} {h : Hp} (k : DyK n g h) (e : sX15_compare F h x0 x1 = some o) : DyK n g o.2 := by
  unfold sX15_compare at e
  replace e := cl_s e
  obtain ⟨r_1, _, e⟩ := e
  replace e := (gd_s e).2
  replace e := nm_s e
  obtain ⟨v_3, wv_3, e⟩ := e
  exact dk_X15_compare_12 F k e
theorem dk_X15_findsRoom_105 {n : Nat} {g : Hp} {F : Nat} {o : Int32 × Hp} {x1 : Int32} {x2 : Int32} {x3 : Int32} {x4 : Int32} {k_42 : Hp → Nat → Int32 → Int32 → Int32 → Int32 → Option (Int32 × Hp)} (R_42 : ∀ {h : Hp} {y2 : Int32} {y3 : Int32} {y4 : Int32} {y5 : Int32}, DyK n g h → k_42 h (n + 513) y2 y3 y4 y5 = some o → DyK n g o.2) {h : Hp} (k : DyK n g h) (e : sX15_findsRoom_105 F k_42 h (n + 513) x1 x2 x3 x4 = some o) : DyK n g o.2 := by
  unfold sX15_findsRoom_105 at e
  exact R_42 k e
theorem dk_X15_findsRoom_82 {n : Nat} {g : Hp} {F : Nat} {o : Int32 × Hp} {x1 : Int32} {x2 : Int32} {x3 : Int32} {x5 : Int32} {x6 : Int32} {t0 : Int32} {k_42 : Hp → Nat → Int32 → Int32 → Int32 → Int32 → Option (Int32 × Hp)} (R_42 : ∀ {h : Hp} {y2 : Int32} {y3 : Int32} {y4 : Int32} {y5 : Int32}, DyK n g h → k_42 h (n + 513) y2 y3 y4 y5 = some o → DyK n g o.2) {h : Hp} (k : DyK n g h) (e : sX15_findsRoom_82 F k_42 h (n + 513) x1 x2 x3 x5 x6 t0 = some o) : DyK n g o.2 := by
  unfold sX15_findsRoom_82 at e
  replace e := br_s e
  rcases e with ⟨_, e⟩ | ⟨_, e⟩
  · replace e := br_s e
    rcases e with ⟨_, e⟩ | ⟨_, e⟩
    · exact dk_X15_findsRoom_105 R_42 k e
    · replace e := nm_s e
      obtain ⟨v_3, wv_3, e⟩ := e
      exact dk_X15_findsRoom_105 R_42 k e
  · exact dk_X15_findsRoom_105 R_42 k e
theorem dk_X15_findsRoom_70 {n : Nat} {g : Hp} {F : Nat} {o : Int32 × Hp} {x1 : Int32} {x2 : Int32} {x3 : Int32} {x5 : Int32} {t0 : Int32} {k_42 : Hp → Nat → Int32 → Int32 → Int32 → Int32 → Option (Int32 × Hp)} (R_42 : ∀ {h : Hp} {y2 : Int32} {y3 : Int32} {y4 : Int32} {y5 : Int32}, DyK n g h → k_42 h (n + 513) y2 y3 y4 y5 = some o → DyK n g o.2) {h : Hp} (k : DyK n g h) (e : sX15_findsRoom_70 F k_42 h (n + 513) x1 x2 x3 x5 t0 = some o) : DyK n g o.2 := by
  unfold sX15_findsRoom_70 at e
  replace e := br_s e
  rcases e with ⟨_, e⟩ | ⟨_, e⟩
  · exact dk_X15_findsRoom_82 R_42 k e
  · exact dk_X15_findsRoom_82 R_42 k e
theorem dk_X15_findsRoom_42 {n : Nat} {g : Hp} {F : Nat} {o : Int32 × Hp} : ∀ (f : Nat) {h : Hp} {x1 : Int32} {x2 : Int32} {x3 : Int32} {x4 : Int32}, DyK n g h → sX15_findsRoom_42 F f h (n + 513) x1 x2 x3 x4 = some o → DyK n g o.2 := by
  intro f
  induction f with
  | zero => intro h x1 x2 x3 x4 _ e; exact absurd e (by rw [sX15_findsRoom_42]; exact fun z => nomatch z)
  | succ f ih =>
    intro h x1 x2 x3 x4 k e
    rw [sX15_findsRoom_42] at e
    replace e := br_s e
    rcases e with ⟨_, e⟩ | ⟨_, e⟩
    · exact dk_X15_findsRoom_108 k e
    · replace e := br_s e
      rcases e with ⟨_, e⟩ | ⟨_, e⟩
      · replace e := nm_s e
        obtain ⟨v_3, wv_3, e⟩ := e
        replace e := cl_s e
        obtain ⟨r_4, _, e⟩ := e
        replace e := (gd_s e).2
        replace e := cl_s e
        obtain ⟨o_6, eo_6, e⟩ := e
        have ko_6 : DyK n g o_6.2 := dk_X15_compare k eo_6
        exact dk_X15_findsRoom_70 (fun k e => ih k e) ko_6 e
      · exact dk_X15_findsRoom_108 k e
theorem dk_X15_findsRoom_32 {n : Nat} {g : Hp} {F : Nat} {o : Int32 × Hp} {x1 : Int32} {h : Hp} (k : DyK n g h) (e : sX15_findsRoom_32 F h (n + 513) x1 = some o) : DyK n g o.2 := by
  unfold sX15_findsRoom_32 at e
  replace e := nm_s e
  obtain ⟨v_1, wv_1, e⟩ := e
  exact dk_X15_findsRoom_42 F k e
theorem dk_X15_findsRoom_19 {n : Nat} {g : Hp} {F : Nat} {o : Int32 × Hp} {x1 : Int32} {h : Hp} (k : DyK n g h) (e : sX15_findsRoom_19 F h (n + 513) x1 = some o) : DyK n g o.2 := by
  unfold sX15_findsRoom_19 at e
  replace e := nm_s e
  obtain ⟨h_1, wh_1, e⟩ := e
  have kh_1 : DyK n g h_1 := by rw [wh_1]; exact dk_wI k
  replace e := cl_s e
  obtain ⟨r_2, _, e⟩ := e
  replace e := cl_s e
  obtain ⟨o_3, eo_3, e⟩ := e
  have ko_3 : DyK n g o_3 := dk_X15_writeAll kh_1 eo_3
  exact dk_X15_findsRoom_32 ko_3 e
theorem dk_X15_findsRoom {n : Nat} {g : Hp} {F : Nat} {o : Int32 × Hp} {h : Hp} (k : DyK n g h) (e : sX15_findsRoom F h (n + 513) = some o) : DyK n g o.2 := by
  unfold sX15_findsRoom at e
  replace e := nm_s e
  obtain ⟨v_1, wv_1, e⟩ := e
  replace e := cl_s e
  obtain ⟨r_2, _, e⟩ := e
  replace e := cl_s e
  obtain ⟨r_3, _, e⟩ := e
  replace e := (gd_s e).2
  replace e := (gd_s e).2
  replace e := (gd_s e).2
  replace e := (gd_s e).2
  replace e := (gd_s e).2
  replace e := (gd_s e).2
  replace e := nm_s e
  obtain ⟨h_10, wh_10, e⟩ := e
  have kh_10 : DyK n g h_10 := by rw [wh_10]; exact dk_cpI k
  exact dk_X15_findsRoom_19 kh_10 e
theorem dk_X15_guesses_132 {n : Nat} {g : Hp} {F : Nat} {o : Int32 × Hp} {x1 : Nat} {x2 : Int32} {x3 : Int32} {x4 : Int32} {x5 : Int32} {t0 : Int32} {k_3 : Hp → Nat → Nat → Int32 → Int32 → Int32 → Int32 → Option (Int32 × Hp)} (R_3 : ∀ {h : Hp} {y2 : Nat} {y3 : Int32} {y4 : Int32} {y5 : Int32} {y6 : Int32}, DyK n g h → k_3 h (n + 513) y2 y3 y4 y5 y6 = some o → DyK n g o.2) {h : Hp} (k : DyK n g h) (e : sX15_guesses_132 F k_3 h (n + 513) x1 x2 x3 x4 x5 t0 = some o) : DyK n g o.2 := by
  unfold sX15_guesses_132 at e
  replace e := br_s e
  rcases e with ⟨_, e⟩ | ⟨_, e⟩
  · rw [← Option.some.inj e]; exact k
  · exact dk_X15_guesses_137 R_3 k e
theorem dk_X15_guesses_125 {n : Nat} {g : Hp} {F : Nat} {o : Int32 × Hp} {x1 : Nat} {x2 : Int32} {x3 : Int32} {x4 : Int32} {x5 : Int32} {t0 : Int32} {k_3 : Hp → Nat → Nat → Int32 → Int32 → Int32 → Int32 → Option (Int32 × Hp)} (R_3 : ∀ {h : Hp} {y2 : Nat} {y3 : Int32} {y4 : Int32} {y5 : Int32} {y6 : Int32}, DyK n g h → k_3 h (n + 513) y2 y3 y4 y5 y6 = some o → DyK n g o.2) {h : Hp} (k : DyK n g h) (e : sX15_guesses_125 F k_3 h (n + 513) x1 x2 x3 x4 x5 t0 = some o) : DyK n g o.2 := by
  unfold sX15_guesses_125 at e
  replace e := br_s e
  rcases e with ⟨_, e⟩ | ⟨_, e⟩
  · exact dk_X15_guesses_137 R_3 k e
  · replace e := cl_s e
    obtain ⟨o_2, eo_2, e⟩ := e
    have ko_2 : DyK n g o_2.2 := dk_X15_findsRoom k eo_2
    exact dk_X15_guesses_132 R_3 ko_2 e
theorem dk_X15_guesses_117 {n : Nat} {g : Hp} {F : Nat} {o : Int32 × Hp} {x1 : Nat} {x2 : Int32} {x3 : Int32} {x4 : Int32} {x5 : Int32} {t0 : Int32} {k_3 : Hp → Nat → Nat → Int32 → Int32 → Int32 → Int32 → Option (Int32 × Hp)} (R_3 : ∀ {h : Hp} {y2 : Nat} {y3 : Int32} {y4 : Int32} {y5 : Int32} {y6 : Int32}, DyK n g h → k_3 h (n + 513) y2 y3 y4 y5 y6 = some o → DyK n g o.2) {h : Hp} (k : DyK n g h) (e : sX15_guesses_117 F k_3 h (n + 513) x1 x2 x3 x4 x5 t0 = some o) : DyK n g o.2 := by
  unfold sX15_guesses_117 at e
  replace e := br_s e
  rcases e with ⟨_, e⟩ | ⟨_, e⟩
  · exact dk_X15_guesses_137 R_3 k e
  · replace e := cl_s e
    obtain ⟨o_2, eo_2, e⟩ := e
    have ko_2 : DyK n g o_2.2 := dk_X15_leadsTo k eo_2
    exact dk_X15_guesses_125 R_3 ko_2 e
theorem dk_X15_guesses_110 {n : Nat} {g : Hp} {F : Nat} {o : Int32 × Hp} {x1 : Nat} {x2 : Int32} {x3 : Int32} {x4 : Int32} {x5 : Int32} {t0 : Int32} {t1 : Int32} {t2 : Nat} {k_3 : Hp → Nat → Nat → Int32 → Int32 → Int32 → Int32 → Option (Int32 × Hp)} (R_3 : ∀ {h : Hp} {y2 : Nat} {y3 : Int32} {y4 : Int32} {y5 : Int32} {y6 : Int32}, DyK n g h → k_3 h (n + 513) y2 y3 y4 y5 y6 = some o → DyK n g o.2) {h : Hp} (k : DyK n g h) (e : sX15_guesses_110 F k_3 h (n + 513) x1 x2 x3 x4 x5 t0 t1 t2 = some o) : DyK n g o.2 := by
  unfold sX15_guesses_110 at e
  replace e := (gd_s e).2
  replace e := nm_s e
  obtain ⟨h_2, wh_2, e⟩ := e
  have kh_2 : DyK n g h_2 := by rw [wh_2]; exact dk_wI k
  replace e := cl_s e
  obtain ⟨o_3, eo_3, e⟩ := e
  have ko_3 : DyK n g o_3.2 := dk_X15_mayCome kh_2 eo_3
  exact dk_X15_guesses_117 R_3 ko_3 e
theorem dk_X15_guesses_90 {n : Nat} {g : Hp} {F : Nat} {o : Int32 × Hp} {x1 : Nat} {x2 : Int32} {x3 : Int32} {x4 : Int32} {x5 : Int32} {t0 : Int32} {t1 : Int32} {t2 : Nat} {k_3 : Hp → Nat → Nat → Int32 → Int32 → Int32 → Int32 → Option (Int32 × Hp)} (R_3 : ∀ {h : Hp} {y2 : Nat} {y3 : Int32} {y4 : Int32} {y5 : Int32} {y6 : Int32}, DyK n g h → k_3 h (n + 513) y2 y3 y4 y5 y6 = some o → DyK n g o.2) {h : Hp} (k : DyK n g h) (e : sX15_guesses_90 F k_3 h (n + 513) x1 x2 x3 x4 x5 t0 t1 t2 = some o) : DyK n g o.2 := by
  unfold sX15_guesses_90 at e
  replace e := (gd_s e).2
  replace e := nm_s e
  obtain ⟨h_2, wh_2, e⟩ := e
  have kh_2 : DyK n g h_2 := by rw [wh_2]; exact dk_wI k
  replace e := cl_s e
  obtain ⟨r_3, _, e⟩ := e
  replace e := cl_s e
  obtain ⟨r_4, _, e⟩ := e
  replace e := cl_s e
  obtain ⟨o_5, eo_5, e⟩ := e
  have ko_5 : DyK n g o_5.2 := dk_X15_valueOf kh_2 eo_5
  exact dk_X15_guesses_110 R_3 ko_5 e
theorem dk_X15_guesses_25 {n : Nat} {g : Hp} {F : Nat} {o : Int32 × Hp} {x1 : Nat} {x2 : Int32} {x3 : Int32} {x4 : Int32} {x5 : Int32} {k_3 : Hp → Nat → Nat → Int32 → Int32 → Int32 → Int32 → Option (Int32 × Hp)} (R_3 : ∀ {h : Hp} {y2 : Nat} {y3 : Int32} {y4 : Int32} {y5 : Int32} {y6 : Int32}, DyK n g h → k_3 h (n + 513) y2 y3 y4 y5 y6 = some o → DyK n g o.2) {h : Hp} (k : DyK n g h) (e : sX15_guesses_25 F k_3 h (n + 513) x1 x2 x3 x4 x5 = some o) : DyK n g o.2 := by
  unfold sX15_guesses_25 at e
  replace e := cl_s e
  obtain ⟨r_1, _, e⟩ := e
  replace e := nm_s e
  obtain ⟨h_2, wh_2, e⟩ := e
  have kh_2 : DyK n g h_2 := by rw [wh_2]; exact dk_wJ k
  replace e := cl_s e
  obtain ⟨r_3, _, e⟩ := e
  replace e := nm_s e
  obtain ⟨h_4, wh_4, e⟩ := e
  have kh_4 : DyK n g h_4 := by rw [wh_4]; exact dk_wI kh_2
  replace e := cl_s e
  obtain ⟨r_5, _, e⟩ := e
  replace e := nm_s e
  obtain ⟨h_6, wh_6, e⟩ := e
  have kh_6 : DyK n g h_6 := by rw [wh_6]; exact dk_wI kh_4
  replace e := cl_s e
  obtain ⟨r_7, _, e⟩ := e
  replace e := nm_s e
  obtain ⟨h_8, wh_8, e⟩ := e
  have kh_8 : DyK n g h_8 := by rw [wh_8]; exact dk_wI kh_6
  replace e := cl_s e
  obtain ⟨r_9, _, e⟩ := e
  replace e := cl_s e
  obtain ⟨r_10, _, e⟩ := e
  replace e := br_s e
  rcases e with ⟨_, e⟩ | ⟨_, e⟩
  · exact dk_X15_guesses_90 R_3 kh_8 e
  · replace e := cl_s e
    obtain ⟨o_12, eo_12, e⟩ := e
    have ko_12 : DyK n g o_12.2 := dk_X15_valueOf kh_8 eo_12
    exact dk_X15_guesses_90 R_3 ko_12 e
theorem dk_X15_guesses_3 {n : Nat} {g : Hp} {F : Nat} {o : Int32 × Hp} : ∀ (f : Nat) {h : Hp} {x1 : Nat} {x2 : Int32} {x3 : Int32} {x4 : Int32} {x5 : Int32}, DyK n g h → sX15_guesses_3 F f h (n + 513) x1 x2 x3 x4 x5 = some o → DyK n g o.2 := by
  intro f
  induction f with
  | zero => intro h x1 x2 x3 x4 x5 _ e; exact absurd e (by rw [sX15_guesses_3]; exact fun z => nomatch z)
  | succ f ih =>
    intro h x1 x2 x3 x4 x5 k e
    rw [sX15_guesses_3] at e
    replace e := cl_s e
    obtain ⟨r_1, _, e⟩ := e
    replace e := br_s e
    rcases e with ⟨_, e⟩ | ⟨_, e⟩
    · rw [← Option.some.inj e]; exact k
    · replace e := cl_s e
      obtain ⟨r_3, _, e⟩ := e
      replace e := cl_s e
      obtain ⟨o_4, eo_4, e⟩ := e
      have ko_4 : DyK n g o_4 := dk_X12_copy k eo_4
      exact dk_X15_guesses_25 (fun k e => ih k e) ko_4 e
theorem dk_X15_guesses {n : Nat} {g : Hp} {F : Nat} {o : Int32 × Hp} {x1 : Nat} {x2 : Int32} {x3 : Int32} {x4 : Int32} {h : Hp} (k : DyK n g h) (e : sX15_guesses F h (n + 513) x1 x2 x3 x4 = some o) : DyK n g o.2 := by
  unfold sX15_guesses at e
  exact dk_X15_guesses_3 F k e
theorem dk_X15_guessesAll_157 {n : Nat} {g : Hp} {F : Nat} {o : Int32 × Hp} {x1 : Nat} {x2 : Int32} {x3 : Int32} {x4 : Int32} {x5 : Int32} {x6 : Int32} {x7 : Int32} {k_21 : Hp → Nat → Nat → Int32 → Int32 → Int32 → Int32 → Option (Int32 × Hp)} (R_21 : ∀ {h : Hp} {y2 : Nat} {y3 : Int32} {y4 : Int32} {y5 : Int32} {y6 : Int32}, DyK n g h → k_21 h (n + 513) y2 y3 y4 y5 y6 = some o → DyK n g o.2) {k_118 : Hp → Nat → Nat → Int32 → Int32 → Int32 → Int32 → Int32 → Int32 → Option (Int32 × Hp)} (R_118 : ∀ {h : Hp} {y2 : Nat} {y3 : Int32} {y4 : Int32} {y5 : Int32} {y6 : Int32} {y7 : Int32} {y8 : Int32}, DyK n g h → k_118 h (n + 513) y2 y3 y4 y5 y6 y7 y8 = some o → DyK n g o.2) {h : Hp} (k : DyK n g h) (e : sX15_guessesAll_157 F k_21 k_118 h (n + 513) x1 x2 x3 x4 x5 x6 x7 = some o) : DyK n g o.2 := by
  unfold sX15_guessesAll_157 at e
  replace e := nm_s e
  obtain ⟨v_1, wv_1, e⟩ := e
  exact R_118 k e
theorem dk_X15_guessesAll_152 {n : Nat} {g : Hp} {F : Nat} {o : Int32 × Hp} {x1 : Nat} {x2 : Int32} {x3 : Int32} {x4 : Int32} {x5 : Int32} {x6 : Int32} {x7 : Int32} {t0 : Int32} {k_21 : Hp → Nat → Nat → Int32 → Int32 → Int32 → Int32 → Option (Int32 × Hp)} (R_21 : ∀ {h : Hp} {y2 : Nat} {y3 : Int32} {y4 : Int32} {y5 : Int32} {y6 : Int32}, DyK n g h → k_21 h (n + 513) y2 y3 y4 y5 y6 = some o → DyK n g o.2) {k_118 : Hp → Nat → Nat → Int32 → Int32 → Int32 → Int32 → Int32 → Int32 → Option (Int32 × Hp)} (R_118 : ∀ {h : Hp} {y2 : Nat} {y3 : Int32} {y4 : Int32} {y5 : Int32} {y6 : Int32} {y7 : Int32} {y8 : Int32}, DyK n g h → k_118 h (n + 513) y2 y3 y4 y5 y6 y7 y8 = some o → DyK n g o.2) {h : Hp} (k : DyK n g h) (e : sX15_guessesAll_152 F k_21 k_118 h (n + 513) x1 x2 x3 x4 x5 x6 x7 t0 = some o) : DyK n g o.2 := by
  unfold sX15_guessesAll_152 at e
  replace e := br_s e
  rcases e with ⟨_, e⟩ | ⟨_, e⟩
  · rw [← Option.some.inj e]; exact k
  · exact dk_X15_guessesAll_157 R_21 R_118 k e
theorem dk_X15_guessesAll_118 {n : Nat} {g : Hp} {F : Nat} {o : Int32 × Hp} {k_21 : Hp → Nat → Nat → Int32 → Int32 → Int32 → Int32 → Option (Int32 × Hp)} (R_21 : ∀ {h : Hp} {y2 : Nat} {y3 : Int32} {y4 : Int32} {y5 : Int32} {y6 : Int32}, DyK n g h → k_21 h (n + 513) y2 y3 y4 y5 y6 = some o → DyK n g o.2) : ∀ (f : Nat) {h : Hp} {x1 : Nat} {x2 : Int32} {x3 : Int32} {x4 : Int32} {x5 : Int32} {x6 : Int32} {x7 : Int32}, DyK n g h → sX15_guessesAll_118 F k_21 f h (n + 513) x1 x2 x3 x4 x5 x6 x7 = some o → DyK n g o.2 := by
  intro f
  induction f with
  | zero => intro h x1 x2 x3 x4 x5 x6 x7 _ e; exact absurd e (by rw [sX15_guessesAll_118]; exact fun z => nomatch z)
  | succ f ih =>
    intro h x1 x2 x3 x4 x5 x6 x7 k e
    rw [sX15_guessesAll_118] at e
    replace e := br_s e
    rcases e with ⟨_, e⟩ | ⟨_, e⟩
    · exact dk_X15_guessesAll_163 R_21 k e
    · replace e := br_s e
      rcases e with ⟨_, e⟩ | ⟨_, e⟩
      · exact dk_X15_guessesAll_163 R_21 k e
      · replace e := cl_s e
        obtain ⟨r_3, _, e⟩ := e
        replace e := (gd_s e).2
        replace e := br_s e
        rcases e with ⟨_, e⟩ | ⟨_, e⟩
        · replace e := cl_s e
          obtain ⟨o_6, eo_6, e⟩ := e
          have ko_6 : DyK n g o_6.2 := dk_X15_guesses k eo_6
          exact dk_X15_guessesAll_152 R_21 (fun k e => ih k e) ko_6 e
        · exact dk_X15_guessesAll_157 R_21 (fun k e => ih k e) k e
theorem dk_X15_guessesAll_106 {n : Nat} {g : Hp} {F : Nat} {o : Int32 × Hp} {x1 : Nat} {x2 : Int32} {x3 : Int32} {x4 : Int32} {x5 : Int32} {x7 : Int32} {t0 : Int32} {t1 : Int32} {k_21 : Hp → Nat → Nat → Int32 → Int32 → Int32 → Int32 → Option (Int32 × Hp)} (R_21 : ∀ {h : Hp} {y2 : Nat} {y3 : Int32} {y4 : Int32} {y5 : Int32} {y6 : Int32}, DyK n g h → k_21 h (n + 513) y2 y3 y4 y5 y6 = some o → DyK n g o.2) {k_50 : Hp → Nat → Nat → Int32 → Int32 → Int32 → Int32 → Int32 → Int32 → Option (Int32 × Hp)} (R_50 : ∀ {h : Hp} {y2 : Nat} {y3 : Int32} {y4 : Int32} {y5 : Int32} {y6 : Int32} {y7 : Int32} {y8 : Int32}, DyK n g h → k_50 h (n + 513) y2 y3 y4 y5 y6 y7 y8 = some o → DyK n g o.2) {h : Hp} (k : DyK n g h) (e : sX15_guessesAll_106 F k_21 k_50 h (n + 513) x1 x2 x3 x4 x5 x7 t0 t1 = some o) : DyK n g o.2 := by
  unfold sX15_guessesAll_106 at e
  replace e := nm_s e
  obtain ⟨v_1, wv_1, e⟩ := e
  replace e := nm_s e
  obtain ⟨v_2, wv_2, e⟩ := e
  exact R_50 k e
theorem dk_X15_guessesAll_105 {n : Nat} {g : Hp} {F : Nat} {o : Int32 × Hp} {x1 : Nat} {x2 : Int32} {x3 : Int32} {x4 : Int32} {x5 : Int32} {x7 : Int32} {t0 : Int32} {k_21 : Hp → Nat → Nat → Int32 → Int32 → Int32 → Int32 → Option (Int32 × Hp)} (R_21 : ∀ {h : Hp} {y2 : Nat} {y3 : Int32} {y4 : Int32} {y5 : Int32} {y6 : Int32}, DyK n g h → k_21 h (n + 513) y2 y3 y4 y5 y6 = some o → DyK n g o.2) {k_50 : Hp → Nat → Nat → Int32 → Int32 → Int32 → Int32 → Int32 → Int32 → Option (Int32 × Hp)} (R_50 : ∀ {h : Hp} {y2 : Nat} {y3 : Int32} {y4 : Int32} {y5 : Int32} {y6 : Int32} {y7 : Int32} {y8 : Int32}, DyK n g h → k_50 h (n + 513) y2 y3 y4 y5 y6 y7 y8 = some o → DyK n g o.2) {h : Hp} (k : DyK n g h) (e : sX15_guessesAll_105 F k_21 k_50 h (n + 513) x1 x2 x3 x4 x5 x7 t0 = some o) : DyK n g o.2 := by
  unfold sX15_guessesAll_105 at e
  exact dk_X15_guessesAll_106 R_21 R_50 k e
theorem dk_X15_guessesAll_94 {n : Nat} {g : Hp} {F : Nat} {o : Int32 × Hp} {x1 : Nat} {x2 : Int32} {x3 : Int32} {x4 : Int32} {x5 : Int32} {x7 : Int32} {t0 : Int32} {t1 : Int32} {k_21 : Hp → Nat → Nat → Int32 → Int32 → Int32 → Int32 → Option (Int32 × Hp)} (R_21 : ∀ {h : Hp} {y2 : Nat} {y3 : Int32} {y4 : Int32} {y5 : Int32} {y6 : Int32}, DyK n g h → k_21 h (n + 513) y2 y3 y4 y5 y6 = some o → DyK n g o.2) {k_50 : Hp → Nat → Nat → Int32 → Int32 → Int32 → Int32 → Int32 → Int32 → Option (Int32 × Hp)} (R_50 : ∀ {h : Hp} {y2 : Nat} {y3 : Int32} {y4 : Int32} {y5 : Int32} {y6 : Int32} {y7 : Int32} {y8 : Int32}, DyK n g h → k_50 h (n + 513) y2 y3 y4 y5 y6 y7 y8 = some o → DyK n g o.2) {h : Hp} (k : DyK n g h) (e : sX15_guessesAll_94 F k_21 k_50 h (n + 513) x1 x2 x3 x4 x5 x7 t0 t1 = some o) : DyK n g o.2 := by
  unfold sX15_guessesAll_94 at e
  replace e := br_s e
  rcases e with ⟨_, e⟩ | ⟨_, e⟩
  · exact dk_X15_guessesAll_106 R_21 R_50 k e
  · exact dk_X15_guessesAll_105 R_21 R_50 k e
theorem dk_X15_guessesAll_50 {n : Nat} {g : Hp} {F : Nat} {o : Int32 × Hp} {k_21 : Hp → Nat → Nat → Int32 → Int32 → Int32 → Int32 → Option (Int32 × Hp)} (R_21 : ∀ {h : Hp} {y2 : Nat} {y3 : Int32} {y4 : Int32} {y5 : Int32} {y6 : Int32}, DyK n g h → k_21 h (n + 513) y2 y3 y4 y5 y6 = some o → DyK n g o.2) : ∀ (f : Nat) {h : Hp} {x1 : Nat} {x2 : Int32} {x3 : Int32} {x4 : Int32} {x5 : Int32} {x6 : Int32} {x7 : Int32}, DyK n g h → sX15_guessesAll_50 F k_21 f h (n + 513) x1 x2 x3 x4 x5 x6 x7 = some o → DyK n g o.2 := by
  intro f
  induction f with
  | zero => intro h x1 x2 x3 x4 x5 x6 x7 _ e; exact absurd e (by rw [sX15_guessesAll_50]; exact fun z => nomatch z)
  | succ f ih =>
    intro h x1 x2 x3 x4 x5 x6 x7 k e
    rw [sX15_guessesAll_50] at e
    replace e := cl_s e
    obtain ⟨r_1, _, e⟩ := e
    replace e := cl_s e
    obtain ⟨r_2, _, e⟩ := e
    replace e := (gd_s e).2
    replace e := br_s e
    rcases e with ⟨_, e⟩ | ⟨_, e⟩
    · exact dk_X15_guessesAll_118 R_21 F k e
    · replace e := cl_s e
      obtain ⟨r_5, _, e⟩ := e
      replace e := cl_s e
      obtain ⟨r_6, _, e⟩ := e
      replace e := (gd_s e).2
      replace e := br_s e
      rcases e with ⟨_, e⟩ | ⟨_, e⟩
      · replace e := cl_s e
        obtain ⟨o_9, eo_9, e⟩ := e
        have ko_9 : DyK n g o_9.2 := dk_X15_rankFor k eo_9
        exact dk_X15_guessesAll_94 R_21 (fun k e => ih k e) ko_9 e
      · exact dk_X15_guessesAll_105 R_21 (fun k e => ih k e) k e
theorem dk_X15_guessesAll_45 {n : Nat} {g : Hp} {F : Nat} {o : Int32 × Hp} {x1 : Nat} {x2 : Int32} {x3 : Int32} {x4 : Int32} {x5 : Int32} {t0 : Int32} {k_21 : Hp → Nat → Nat → Int32 → Int32 → Int32 → Int32 → Option (Int32 × Hp)} (R_21 : ∀ {h : Hp} {y2 : Nat} {y3 : Int32} {y4 : Int32} {y5 : Int32} {y6 : Int32}, DyK n g h → k_21 h (n + 513) y2 y3 y4 y5 y6 = some o → DyK n g o.2) {h : Hp} (k : DyK n g h) (e : sX15_guessesAll_45 F k_21 h (n + 513) x1 x2 x3 x4 x5 t0 = some o) : DyK n g o.2 := by
  unfold sX15_guessesAll_45 at e
  exact dk_X15_guessesAll_50 R_21 F k e
theorem dk_X15_guessesAll_21 {n : Nat} {g : Hp} {F : Nat} {o : Int32 × Hp} : ∀ (f : Nat) {h : Hp} {x1 : Nat} {x2 : Int32} {x3 : Int32} {x4 : Int32} {x5 : Int32}, DyK n g h → sX15_guessesAll_21 F f h (n + 513) x1 x2 x3 x4 x5 = some o → DyK n g o.2 := by
  intro f
  induction f with
  | zero => intro h x1 x2 x3 x4 x5 _ e; exact absurd e (by rw [sX15_guessesAll_21]; exact fun z => nomatch z)
  | succ f ih =>
    intro h x1 x2 x3 x4 x5 k e
    rw [sX15_guessesAll_21] at e
    replace e := cl_s e
    obtain ⟨r_1, _, e⟩ := e
    replace e := br_s e
    rcases e with ⟨_, e⟩ | ⟨_, e⟩
    · rw [← Option.some.inj e]; exact k
    · replace e := br_s e
      rcases e with ⟨_, e⟩ | ⟨_, e⟩
      · exact dk_X15_guessesAll_45 (fun k e => ih k e) k e
      · exact dk_X15_guessesAll_45 (fun k e => ih k e) k e
theorem dk_X15_guessesAll_16 {n : Nat} {g : Hp} {F : Nat} {o : Int32 × Hp} {x1 : Nat} {x2 : Int32} {x3 : Int32} {t0 : Int32} {h : Hp} (k : DyK n g h) (e : sX15_guessesAll_16 F h (n + 513) x1 x2 x3 t0 = some o) : DyK n g o.2 := by
  unfold sX15_guessesAll_16 at e
  exact dk_X15_guessesAll_21 F k e
theorem dk_X15_guessesAll {n : Nat} {g : Hp} {F : Nat} {o : Int32 × Hp} {x1 : Nat} {x2 : Int32} {h : Hp} (k : DyK n g h) (e : sX15_guessesAll F h (n + 513) x1 x2 = some o) : DyK n g o.2 := by
  unfold sX15_guessesAll at e
  replace e := nm_s e
  obtain ⟨v_1, wv_1, e⟩ := e
  replace e := cl_s e
  obtain ⟨r_2, _, e⟩ := e
  replace e := (gd_s e).2
  replace e := cl_s e
  obtain ⟨o_4, eo_4, e⟩ := e
  have ko_4 : DyK n g o_4.2 := dk_X15_manOf k eo_4
  exact dk_X15_guessesAll_16 ko_4 e
theorem dk_X15_before_97 {n : Nat} {g : Hp} {F : Nat} {o : Int32 × Hp} {x2 : Nat} {x3 : Int32} {t0 : Int32} {k_58 : Hp → Nat → Nat → Int32 → Option (Int32 × Hp)} (R_58 : ∀ {h : Hp} {y2 : Nat} {y3 : Int32}, DyK n g h → k_58 h (n + 513) y2 y3 = some o → DyK n g o.2) {h : Hp} (k : DyK n g h) (e : sX15_before_97 F k_58 h (n + 513) x2 x3 t0 = some o) : DyK n g o.2 := by
  unfold sX15_before_97 at e
  replace e := br_s e
  rcases e with ⟨_, e⟩ | ⟨_, e⟩
  · replace e := nm_s e
    obtain ⟨h_2, wh_2, e⟩ := e
    have kh_2 : DyK n g h_2 := by rw [wh_2]; exact dk_wI k
    rw [← Option.some.inj e]; exact kh_2
  · exact dk_X15_before_108 R_58 k e
theorem dk_X15_before_84 {n : Nat} {g : Hp} {F : Nat} {o : Int32 × Hp} {x2 : Nat} {x3 : Int32} {t0 : Int32} {k_58 : Hp → Nat → Nat → Int32 → Option (Int32 × Hp)} (R_58 : ∀ {h : Hp} {y2 : Nat} {y3 : Int32}, DyK n g h → k_58 h (n + 513) y2 y3 = some o → DyK n g o.2) {h : Hp} (k : DyK n g h) (e : sX15_before_84 F k_58 h (n + 513) x2 x3 t0 = some o) : DyK n g o.2 := by
  unfold sX15_before_84 at e
  replace e := br_s e
  rcases e with ⟨_, e⟩ | ⟨_, e⟩
  · exact dk_X15_before_108 R_58 k e
  · replace e := cl_s e
    obtain ⟨o_2, eo_2, e⟩ := e
    have ko_2 : DyK n g o_2.2 := dk_X15_guessesAll k eo_2
    exact dk_X15_before_97 R_58 ko_2 e
theorem dk_X15_before_58 {n : Nat} {g : Hp} {F : Nat} {o : Int32 × Hp} : ∀ (f : Nat) {h : Hp} {x2 : Nat} {x3 : Int32}, DyK n g h → sX15_before_58 F f h (n + 513) x2 x3 = some o → DyK n g o.2 := by
  intro f
  induction f with
  | zero => intro h x2 x3 _ e; exact absurd e (by rw [sX15_before_58]; exact fun z => nomatch z)
  | succ f ih =>
    intro h x2 x3 k e
    rw [sX15_before_58] at e
    replace e := br_s e
    rcases e with ⟨_, e⟩ | ⟨_, e⟩
    · rw [← Option.some.inj e]; exact k
    · replace e := cl_s e
      obtain ⟨r_2, _, e⟩ := e
      replace e := (gd_s e).2
      replace e := br_s e
      rcases e with ⟨_, e⟩ | ⟨_, e⟩
      · exact dk_X15_before_108 (fun k e => ih k e) k e
      · replace e := cl_s e
        obtain ⟨r_5, _, e⟩ := e
        replace e := (gd_s e).2
        replace e := cl_s e
        obtain ⟨o_7, eo_7, e⟩ := e
        have ko_7 : DyK n g o_7.2 := dk_X15_sideOf k eo_7
        exact dk_X15_before_84 (fun k e => ih k e) ko_7 e
theorem dk_X15_before_41 {n : Nat} {g : Hp} {F : Nat} {o : Int32 × Hp} {h : Hp} (k : DyK n g h) (e : sX15_before_41 F h = some o) : DyK n g o.2 := by
  unfold sX15_before_41 at e
  rw [← Option.some.inj e]; exact k
theorem dk_X15_before_5 {n : Nat} {g : Hp} {F : Nat} {o : Int32 × Hp} {x1 : Int32} {t0 : Int32} {h : Hp} (k : DyK n g h) (e : sX15_before_5 F h (n + 513) x1 t0 = some o) : DyK n g o.2 := by
  unfold sX15_before_5 at e
  replace e := br_s e
  rcases e with ⟨_, e⟩ | ⟨_, e⟩
  · rw [← Option.some.inj e]; exact k
  · replace e := cl_s e
    obtain ⟨r_2, _, e⟩ := e
    replace e := br_s e
    rcases e with ⟨_, e⟩ | ⟨_, e⟩
    · replace e := cl_s e
      obtain ⟨r_4, _, e⟩ := e
      replace e := br_s e
      rcases e with ⟨_, e⟩ | ⟨_, e⟩
      · replace e := cl_s e
        obtain ⟨r_6, _, e⟩ := e
        replace e := br_s e
        rcases e with ⟨_, e⟩ | ⟨_, e⟩
        · replace e := nm_s e
          obtain ⟨h_8, wh_8, e⟩ := e
          have kh_8 : DyK n g h_8 := by rw [wh_8]; exact dk_wI k
          replace e := cl_s e
          obtain ⟨r_9, _, e⟩ := e
          replace e := (gd_s e).2
          replace e := cl_s e
          obtain ⟨r_11, _, e⟩ := e
          exact dk_X15_before_58 F kh_8 e
        · exact dk_X15_before_41 k e
      · exact dk_X15_before_41 k e
    · exact dk_X15_before_41 k e
theorem dk_X15_before {n : Nat} {g : Hp} {F : Nat} {o : Int32 × Hp} {x1 : Int32} {h : Hp} (k : DyK n g h) (e : sX15_before F h (n + 513) x1 = some o) : DyK n g o.2 := by
  unfold sX15_before at e
  replace e := cl_s e
  obtain ⟨o_1, eo_1, e⟩ := e
  have ko_1 : DyK n g o_1.2 := dk_X15_has k eo_1
  exact dk_X15_before_5 ko_1 e
theorem dk_X15_beforeAt_32 {n : Nat} {g : Hp} {F : Nat} {o : Int32 × Hp} {t0 : Int32} {h : Hp} (k : DyK n g h) (e : sX15_beforeAt_32 F h t0 = some o) : DyK n g o.2 := by
  unfold sX15_beforeAt_32 at e
  rw [← Option.some.inj e]; exact k
theorem dk_X15_beforeAt_12 {n : Nat} {g : Hp} {F : Nat} {o : Int32 × Hp} {h : Hp} (k : DyK n g h) (e : sX15_beforeAt_12 F h = some o) : DyK n g o.2 := by
  unfold sX15_beforeAt_12 at e
  exact dk_X15_beforeAt_32 k e
theorem dk_X15_beforeAt {n : Nat} {g : Hp} {F : Nat} {o : Int32 × Hp} {x1 : Int32} {h : Hp} (k : DyK n g h) (e : sX15_beforeAt F h (n + 513) x1 = some o) : DyK n g o.2 := by
  unfold sX15_beforeAt at e
  replace e := br_s e
  rcases e with ⟨_, e⟩ | ⟨_, e⟩
  · exact dk_X15_beforeAt_12 k e
  · replace e := br_s e
    rcases e with ⟨_, e⟩ | ⟨_, e⟩
    · replace e := cl_s e
      obtain ⟨r_3, _, e⟩ := e
      replace e := cl_s e
      obtain ⟨r_4, _, e⟩ := e
      replace e := (gd_s e).2
      replace e := (gd_s e).2
      replace e := cl_s e
      obtain ⟨r_7, _, e⟩ := e
      replace e := cl_s e
      obtain ⟨o_8, eo_8, e⟩ := e
      have ko_8 : DyK n g o_8.2 := dk_X15_keep k eo_8
      exact dk_X15_beforeAt_32 ko_8 e
    · exact dk_X15_beforeAt_12 k e
theorem dk_X15_solve_47 {n : Nat} {g : Hp} {F : Nat} {o : Int32 × Hp} {h : Hp} (k : DyK n g h) (e : sX15_solve_47 F h = some o) : DyK n g o.2 := by
  unfold sX15_solve_47 at e
  rw [← Option.some.inj e]; exact k
theorem dk_X15_hasCatches_15 {n : Nat} {g : Hp} {F : Nat} {o : Int32 × Hp} {k_2 : Hp → Nat → Int32 → Option (Int32 × Hp)} (R_2 : ∀ {h : Hp} {y1 : Nat} {y2 : Int32}, DyK n g h → k_2 h y1 y2 = some o → DyK n g o.2) : ∀ (f : Nat) {h : Hp} {x0 : Nat} {x1 : Int32} {x2 : Int32}, DyK n g h → sX15_hasCatches_15 F k_2 f h x0 x1 x2 = some o → DyK n g o.2 := by
  intro f
  induction f with
  | zero => intro h x0 x1 x2 _ e; exact absurd e (by rw [sX15_hasCatches_15]; exact fun z => nomatch z)
  | succ f ih =>
    intro h x0 x1 x2 k e
    rw [sX15_hasCatches_15] at e
    replace e := cl_s e
    obtain ⟨r_1, _, e⟩ := e
    replace e := cl_s e
    obtain ⟨r_2, _, e⟩ := e
    replace e := (gd_s e).2
    replace e := br_s e
    rcases e with ⟨_, e⟩ | ⟨_, e⟩
    · replace e := nm_s e
      obtain ⟨v_5, wv_5, e⟩ := e
      exact R_2 k e
    · replace e := cl_s e
      obtain ⟨r_6, _, e⟩ := e
      replace e := cl_s e
      obtain ⟨r_7, _, e⟩ := e
      replace e := (gd_s e).2
      replace e := br_s e
      rcases e with ⟨_, e⟩ | ⟨_, e⟩
      · replace e := nm_s e
        obtain ⟨v_10, wv_10, e⟩ := e
        exact ih k e
      · rw [← Option.some.inj e]; exact k
theorem dk_X15_hasCatches_2 {n : Nat} {g : Hp} {F : Nat} {o : Int32 × Hp} : ∀ (f : Nat) {h : Hp} {x0 : Nat} {x1 : Int32}, DyK n g h → sX15_hasCatches_2 F f h x0 x1 = some o → DyK n g o.2 := by
  intro f
  induction f with
  | zero => intro h x0 x1 _ e; exact absurd e (by rw [sX15_hasCatches_2]; exact fun z => nomatch z)
  | succ f ih =>
    intro h x0 x1 k e
    rw [sX15_hasCatches_2] at e
    replace e := cl_s e
    obtain ⟨r_1, _, e⟩ := e
    replace e := br_s e
    rcases e with ⟨_, e⟩ | ⟨_, e⟩
    · rw [← Option.some.inj e]; exact k
    · exact dk_X15_hasCatches_15 (fun k e => ih k e) F k e
theorem dk_X15_hasCatches {n : Nat} {g : Hp} {F : Nat} {o : Int32 × Hp} {x0 : Nat} {h : Hp} (k : DyK n g h) (e : sX15_hasCatches F h x0 = some o) : DyK n g o.2 := by
  unfold sX15_hasCatches at e
  exact dk_X15_hasCatches_2 F k e
theorem dk_X15_packed_4 {n : Nat} {g : Hp} {F : Nat} {o : Int32 × Hp} : ∀ (f : Nat) {h : Hp} {x0 : Nat} {x1 : Int32} {x2 : Int32} {x3 : Int32}, DyK n g h → sX15_packed_4 F f h x0 x1 x2 x3 = some o → DyK n g o.2 := by
  intro f
  induction f with
  | zero => intro h x0 x1 x2 x3 _ e; exact absurd e (by rw [sX15_packed_4]; exact fun z => nomatch z)
  | succ f ih =>
    intro h x0 x1 x2 x3 k e
    rw [sX15_packed_4] at e
    replace e := br_s e
    rcases e with ⟨_, e⟩ | ⟨_, e⟩
    · rw [← Option.some.inj e]; exact k
    · replace e := (gd_s e).2
      replace e := nm_s e
      obtain ⟨v_3, wv_3, e⟩ := e
      replace e := nm_s e
      obtain ⟨v_4, wv_4, e⟩ := e
      exact ih k e
theorem dk_X15_packed {n : Nat} {g : Hp} {F : Nat} {o : Int32 × Hp} {x0 : Nat} {x1 : Int32} {h : Hp} (k : DyK n g h) (e : sX15_packed F h x0 x1 = some o) : DyK n g o.2 := by
  unfold sX15_packed at e
  exact dk_X15_packed_4 F k e
theorem dk_X15_slotOf_44 {n : Nat} {g : Hp} {F : Nat} {o : Int32 × Hp} {x2 : Int32} {h : Hp} (k : DyK n g h) (e : sX15_slotOf_44 F h x2 = some o) : DyK n g o.2 := by
  unfold sX15_slotOf_44 at e
  rw [← Option.some.inj e]; exact k
theorem dk_X15_slotOf_14 {n : Nat} {g : Hp} {F : Nat} {o : Int32 × Hp} : ∀ (f : Nat) {h : Hp} {x0 : Nat} {x1 : Int32} {x2 : Int32}, DyK n g h → sX15_slotOf_14 F f h x0 x1 x2 = some o → DyK n g o.2 := by
  intro f
  induction f with
  | zero => intro h x0 x1 x2 _ e; exact absurd e (by rw [sX15_slotOf_14]; exact fun z => nomatch z)
  | succ f ih =>
    intro h x0 x1 x2 k e
    rw [sX15_slotOf_14] at e
    replace e := cl_s e
    obtain ⟨r_1, _, e⟩ := e
    replace e := (gd_s e).2
    replace e := br_s e
    rcases e with ⟨_, e⟩ | ⟨_, e⟩
    · exact dk_X15_slotOf_44 k e
    · replace e := cl_s e
      obtain ⟨r_4, _, e⟩ := e
      replace e := (gd_s e).2
      replace e := br_s e
      rcases e with ⟨_, e⟩ | ⟨_, e⟩
      · exact dk_X15_slotOf_44 k e
      · replace e := nm_s e
        obtain ⟨v_7, wv_7, e⟩ := e
        exact ih k e
theorem dk_X15_slotOf {n : Nat} {g : Hp} {F : Nat} {o : Int32 × Hp} {x0 : Nat} {x1 : Int32} {h : Hp} (k : DyK n g h) (e : sX15_slotOf F h x0 x1 = some o) : DyK n g o.2 := by
  unfold sX15_slotOf at e
  replace e := nm_s e
  obtain ⟨v_1, wv_1, e⟩ := e
  exact dk_X15_slotOf_14 F k e
theorem dk_X15_findSet {n : Nat} {g : Hp} {F : Nat} {o : Int32 × Hp} {x0 : Nat} {x1 : Nat} {x2 : Int32} {h : Hp} (k : DyK n g h) (e : sX15_findSet F h x0 x1 x2 = some o) : DyK n g o.2 := by
  unfold sX15_findSet at e
  replace e := cl_s e
  obtain ⟨r_1, _, e⟩ := e
  replace e := cl_s e
  obtain ⟨o_2, eo_2, e⟩ := e
  have ko_2 : DyK n g o_2.2 := dk_X15_packed k eo_2
  replace e := cl_s e
  obtain ⟨o_3, eo_3, e⟩ := e
  have ko_3 : DyK n g o_3.2 := dk_X15_slotOf ko_2 eo_3
  replace e := (gd_s e).2
  rw [← Option.some.inj e]; exact ko_3
theorem dk_X15_addSet_136 {n : Nat} {g : Hp} {F : Nat} {o : Int32 × Hp} {h : Hp} (k : DyK n g h) (e : sX15_addSet_136 F h = some o) : DyK n g o.2 := by
  unfold sX15_addSet_136 at e
  rw [← Option.some.inj e]; exact k
theorem dk_X15_addSet_165 {n : Nat} {g : Hp} {F : Nat} {o : Int32 × Hp} : ∀ (f : Nat) {h : Hp} {x0 : Nat} {x1 : Int32} {x2 : Int64} {x4 : Int32}, DyK n g h → sX15_addSet_165 F f h x0 x1 x2 x4 = some o → DyK n g o.2 := by
  intro f
  induction f with
  | zero => intro h x0 x1 x2 x4 _ e; exact absurd e (by rw [sX15_addSet_165]; exact fun z => nomatch z)
  | succ f ih =>
    intro h x0 x1 x2 x4 k e
    rw [sX15_addSet_165] at e
    replace e := br_s e
    rcases e with ⟨_, e⟩ | ⟨_, e⟩
    · replace e := nm_s e
      obtain ⟨h_2, wh_2, e⟩ := e
      have kh_2 : DyK n g h_2 := by rw [wh_2]; exact dk_wJ k
      replace e := nm_s e
      obtain ⟨h_3, wh_3, e⟩ := e
      have kh_3 : DyK n g h_3 := by rw [wh_3]; exact dk_wI kh_2
      replace e := cl_s e
      obtain ⟨r_4, _, e⟩ := e
      replace e := cl_s e
      obtain ⟨o_5, eo_5, e⟩ := e
      have ko_5 : DyK n g o_5.2 := dk_X15_packed kh_3 eo_5
      replace e := cl_s e
      obtain ⟨o_6, eo_6, e⟩ := e
      have ko_6 : DyK n g o_6.2 := dk_X15_slotOf ko_5 eo_6
      replace e := cl_s e
      obtain ⟨r_7, _, e⟩ := e
      replace e := cl_s e
      obtain ⟨r_8, _, e⟩ := e
      replace e := cl_s e
      obtain ⟨o_9, eo_9, e⟩ := e
      have ko_9 : DyK n g o_9.2 := dk_X15_packed ko_6 eo_9
      replace e := (gd_s e).2
      replace e := nm_s e
      obtain ⟨h_11, wh_11, e⟩ := e
      have kh_11 : DyK n g h_11 := by rw [wh_11]; exact dk_wI ko_9
      replace e := cl_s e
      obtain ⟨r_12, _, e⟩ := e
      replace e := (gd_s e).2
      replace e := nm_s e
      obtain ⟨h_14, wh_14, e⟩ := e
      have kh_14 : DyK n g h_14 := by rw [wh_14]; exact dk_wI kh_11
      rw [← Option.some.inj e]; exact kh_14
    · replace e := cl_s e
      obtain ⟨r_15, _, e⟩ := e
      replace e := cl_s e
      obtain ⟨r_16, _, e⟩ := e
      replace e := (gd_s e).2
      replace e := (gd_s e).2
      replace e := nm_s e
      obtain ⟨h_19, wh_19, e⟩ := e
      have kh_19 : DyK n g h_19 := by rw [wh_19]; exact dk_wI k
      replace e := nm_s e
      obtain ⟨v_20, wv_20, e⟩ := e
      exact ih kh_19 e
theorem dk_X15_addSet_93 {n : Nat} {g : Hp} {F : Nat} {o : Int32 × Hp} : ∀ (f : Nat) {h : Hp} {x0 : Nat} {x1 : Int32} {x2 : Int64} {x4 : Int32}, DyK n g h → sX15_addSet_93 F f h x0 x1 x2 x4 = some o → DyK n g o.2 := by
  intro f
  induction f with
  | zero => intro h x0 x1 x2 x4 _ e; exact absurd e (by rw [sX15_addSet_93]; exact fun z => nomatch z)
  | succ f ih =>
    intro h x0 x1 x2 x4 k e
    rw [sX15_addSet_93] at e
    replace e := br_s e
    rcases e with ⟨_, e⟩ | ⟨_, e⟩
    · replace e := br_s e
      rcases e with ⟨_, e⟩ | ⟨_, e⟩
      · exact dk_X15_addSet_136 k e
      · replace e := br_s e
        rcases e with ⟨_, e⟩ | ⟨_, e⟩
        · exact dk_X15_addSet_136 k e
        · replace e := cl_s e
          obtain ⟨r_4, _, e⟩ := e
          replace e := (gd_s e).2
          replace e := nm_s e
          obtain ⟨h_6, wh_6, e⟩ := e
          have kh_6 : DyK n g h_6 := by rw [wh_6]; exact dk_wI k
          replace e := cl_s e
          obtain ⟨r_7, _, e⟩ := e
          replace e := (gd_s e).2
          replace e := nm_s e
          obtain ⟨h_9, wh_9, e⟩ := e
          have kh_9 : DyK n g h_9 := by rw [wh_9]; exact dk_wI kh_6
          exact dk_X15_addSet_165 F kh_9 e
    · replace e := nm_s e
      obtain ⟨v_10, wv_10, e⟩ := e
      replace e := nm_s e
      obtain ⟨v_11, wv_11, e⟩ := e
      exact ih k e
