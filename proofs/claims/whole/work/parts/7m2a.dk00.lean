/-! what stands where stays so: printed -/
theorem dk_X15_feed_72 {n : Nat} {g : Hp} {F : Nat} {o : Int32 × Hp} {x0 : Nat} {x1 : Int32} {x2 : Int32} {x3 : Int32} {x4 : Int32} {x5 : Int32} {x6 : Int32} {t0 : Int32} {k_19 : Hp → Nat → Int32 → Int32 → Int32 → Int32 → Int32 → Int32 → Option (Int32 × Hp)} (R_19 : ∀ {h : Hp} {y1 : Nat} {y2 : Int32} {y3 : Int32} {y4 : Int32} {y5 : Int32} {y6 : Int32} {y7 : Int32}, DyK n g h → k_19 h y1 y2 y3 y4 y5 y6 y7 = some o → DyK n g o.2) {h : Hp} (k : DyK n g h) (e : sX15_feed_72 F k_19 h x0 x1 x2 x3 x4 x5 x6 t0 = some o) : DyK n g o.2 := by
  unfold sX15_feed_72 at e
  replace e := cl_s e
  obtain ⟨r_1, _, e⟩ := e
  replace e := (gd_s e).2
  replace e := nm_s e
  obtain ⟨h_3, wh_3, e⟩ := e
  have kh_3 : DyK n g h_3 := by rw [wh_3]; exact dk_wI k
  replace e := nm_s e
  obtain ⟨h_4, wh_4, e⟩ := e
  have kh_4 : DyK n g h_4 := by rw [wh_4]; exact dk_wI kh_3
  replace e := nm_s e
  obtain ⟨v_5, wv_5, e⟩ := e
  exact R_19 kh_4 e
theorem dk_X15_feed_19 {n : Nat} {g : Hp} {F : Nat} {o : Int32 × Hp} : ∀ (f : Nat) {h : Hp} {x0 : Nat} {x1 : Int32} {x2 : Int32} {x3 : Int32} {x4 : Int32} {x5 : Int32} {x6 : Int32}, DyK n g h → sX15_feed_19 F f h x0 x1 x2 x3 x4 x5 x6 = some o → DyK n g o.2 := by
  intro f
  induction f with
  | zero => intro h x0 x1 x2 x3 x4 x5 x6 _ e; exact absurd e (by rw [sX15_feed_19]; exact fun z => nomatch z)
  | succ f ih =>
    intro h x0 x1 x2 x3 x4 x5 x6 k e
    rw [sX15_feed_19] at e
    replace e := br_s e
    rcases e with ⟨_, e⟩ | ⟨_, e⟩
    · rw [← Option.some.inj e]; exact k
    · replace e := br_s e
      rcases e with ⟨_, e⟩ | ⟨_, e⟩
      · replace e := br_s e
        rcases e with ⟨_, e⟩ | ⟨_, e⟩
        · replace e := br_s e
          rcases e with ⟨_, e⟩ | ⟨_, e⟩
          · replace e := br_s e
            rcases e with ⟨_, e⟩ | ⟨_, e⟩
            · exact dk_X15_feed_72 (fun k e => ih k e) k e
            · exact dk_X15_feed_72 (fun k e => ih k e) k e
          · exact dk_X15_feed_72 (fun k e => ih k e) k e
        · exact dk_X15_feed_72 (fun k e => ih k e) k e
      · exact dk_X15_feed_72 (fun k e => ih k e) k e
theorem dk_X15_feed {n : Nat} {g : Hp} {F : Nat} {o : Int32 × Hp} {x0 : Nat} {x1 : Int32} {x2 : Int32} {x3 : Int32} {x4 : Int32} {x5 : Int32} {h : Hp} (k : DyK n g h) (e : sX15_feed F h x0 x1 x2 x3 x4 x5 = some o) : DyK n g o.2 := by
  unfold sX15_feed at e
  replace e := br_s e
  rcases e with ⟨_, e⟩ | ⟨_, e⟩
  · exact dk_X15_feed_19 F k e
  · rw [← Option.some.inj e]; exact k
theorem dk_X15_end_12 {n : Nat} {g : Hp} {o : Int32 × Hp} {h : Hp} (k : DyK n g h) (e : sX15_end_12 h = some o) : DyK n g o.2 := by
  unfold sX15_end_12 at e
  rw [← Option.some.inj e]; exact k
theorem dk_X15_end {n : Nat} {g : Hp} {o : Int32 × Hp} {x0 : Nat} {x1 : Int32} {h : Hp} (k : DyK n g h) (e : sX15_end h x0 x1 = some o) : DyK n g o.2 := by
  unfold sX15_end at e
  replace e := br_s e
  rcases e with ⟨_, e⟩ | ⟨_, e⟩
  · exact dk_X15_end_12 k e
  · replace e := br_s e
    rcases e with ⟨_, e⟩ | ⟨_, e⟩
    · replace e := nm_s e
      obtain ⟨h_3, wh_3, e⟩ := e
      have kh_3 : DyK n g h_3 := by rw [wh_3]; exact dk_wI k
      rw [← Option.some.inj e]; exact kh_3
    · exact dk_X15_end_12 k e
theorem dk_X15_out_22 {n : Nat} {g : Hp} {o : Int32 × Hp} {t0 : Int32} {h : Hp} (k : DyK n g h) (e : sX15_out_22 h t0 = some o) : DyK n g o.2 := by
  unfold sX15_out_22 at e
  rw [← Option.some.inj e]; exact k
theorem dk_X15_out_12 {n : Nat} {g : Hp} {o : Int32 × Hp} {h : Hp} (k : DyK n g h) (e : sX15_out_12 h = some o) : DyK n g o.2 := by
  unfold sX15_out_12 at e
  exact dk_X15_out_22 k e
theorem dk_X15_out {n : Nat} {g : Hp} {o : Int32 × Hp} {x0 : Nat} {x1 : Int32} {h : Hp} (k : DyK n g h) (e : sX15_out h x0 x1 = some o) : DyK n g o.2 := by
  unfold sX15_out at e
  replace e := br_s e
  rcases e with ⟨_, e⟩ | ⟨_, e⟩
  · exact dk_X15_out_12 k e
  · replace e := br_s e
    rcases e with ⟨_, e⟩ | ⟨_, e⟩
    · replace e := cl_s e
      obtain ⟨r_3, _, e⟩ := e
      replace e := (gd_s e).2
      exact dk_X15_out_22 k e
    · exact dk_X15_out_12 k e
theorem dk_X15_told_120 {n : Nat} {g : Hp} {F : Nat} {o : Int32 × Hp} {t0 : Int32} {h : Hp} (k : DyK n g h) (e : sX15_told_120 F h t0 = some o) : DyK n g o.2 := by
  unfold sX15_told_120 at e
  rw [← Option.some.inj e]; exact k
theorem dk_X15_told_112 {n : Nat} {g : Hp} {F : Nat} {o : Int32 × Hp} {h : Hp} (k : DyK n g h) (e : sX15_told_112 F h = some o) : DyK n g o.2 := by
  unfold sX15_told_112 at e
  exact dk_X15_told_120 k e
theorem dk_X15_told_37 {n : Nat} {g : Hp} {F : Nat} {o : Int32 × Hp} {x0 : Nat} {x1 : Int32} {x2 : Int32} {t0 : Nat} {h : Hp} (k : DyK n g h) (e : sX15_told_37 F h x0 x1 x2 t0 = some o) : DyK n g o.2 := by
  unfold sX15_told_37 at e
  replace e := (gd_s e).2
  replace e := nm_s e
  obtain ⟨h_2, wh_2, e⟩ := e
  have kh_2 : DyK n g h_2 := by rw [wh_2]; exact dk_wI k
  replace e := (gd_s e).2
  replace e := nm_s e
  obtain ⟨h_4, wh_4, e⟩ := e
  have kh_4 : DyK n g h_4 := by rw [wh_4]; exact dk_wI kh_2
  replace e := cl_s e
  obtain ⟨r_5, _, e⟩ := e
  replace e := (gd_s e).2
  replace e := nm_s e
  obtain ⟨h_7, wh_7, e⟩ := e
  have kh_7 : DyK n g h_7 := by rw [wh_7]; exact dk_wI kh_4
  replace e := cl_s e
  obtain ⟨r_8, _, e⟩ := e
  replace e := (gd_s e).2
  replace e := nm_s e
  obtain ⟨h_10, wh_10, e⟩ := e
  have kh_10 : DyK n g h_10 := by rw [wh_10]; exact dk_wI kh_7
  replace e := cl_s e
  obtain ⟨r_11, _, e⟩ := e
  replace e := (gd_s e).2
  replace e := nm_s e
  obtain ⟨h_13, wh_13, e⟩ := e
  have kh_13 : DyK n g h_13 := by rw [wh_13]; exact dk_wI kh_10
  replace e := (gd_s e).2
  replace e := nm_s e
  obtain ⟨h_15, wh_15, e⟩ := e
  have kh_15 : DyK n g h_15 := by rw [wh_15]; exact dk_wI kh_13
  replace e := (gd_s e).2
  replace e := nm_s e
  obtain ⟨h_17, wh_17, e⟩ := e
  have kh_17 : DyK n g h_17 := by rw [wh_17]; exact dk_wI kh_15
  replace e := (gd_s e).2
  replace e := nm_s e
  obtain ⟨h_19, wh_19, e⟩ := e
  have kh_19 : DyK n g h_19 := by rw [wh_19]; exact dk_wI kh_17
  replace e := br_s e
  rcases e with ⟨_, e⟩ | ⟨_, e⟩
  · exact dk_X15_told_112 kh_19 e
  · replace e := br_s e
    rcases e with ⟨_, e⟩ | ⟨_, e⟩
    · replace e := (gd_s e).2
      exact dk_X15_told_120 kh_19 e
    · exact dk_X15_told_112 kh_19 e
theorem dk_X15_told_25 {n : Nat} {g : Hp} {F : Nat} {o : Int32 × Hp} {x0 : Nat} {x1 : Int32} {x3 : Int32} {t0 : Int32} {t1 : Int32} {k_4 : Hp → Nat → Int32 → Int32 → Int32 → Option (Int32 × Hp)} (R_4 : ∀ {h : Hp} {y1 : Nat} {y2 : Int32} {y3 : Int32} {y4 : Int32}, DyK n g h → k_4 h y1 y2 y3 y4 = some o → DyK n g o.2) {h : Hp} (k : DyK n g h) (e : sX15_told_25 F k_4 h x0 x1 x3 t0 t1 = some o) : DyK n g o.2 := by
  unfold sX15_told_25 at e
  replace e := nm_s e
  obtain ⟨v_1, wv_1, e⟩ := e
  replace e := nm_s e
  obtain ⟨v_2, wv_2, e⟩ := e
  exact R_4 k e
theorem dk_X15_told_4 {n : Nat} {g : Hp} {F : Nat} {o : Int32 × Hp} : ∀ (f : Nat) {h : Hp} {x0 : Nat} {x1 : Int32} {x2 : Int32} {x3 : Int32}, DyK n g h → sX15_told_4 F f h x0 x1 x2 x3 = some o → DyK n g o.2 := by
  intro f
  induction f with
  | zero => intro h x0 x1 x2 x3 _ e; exact absurd e (by rw [sX15_told_4]; exact fun z => nomatch z)
  | succ f ih =>
    intro h x0 x1 x2 x3 k e
    rw [sX15_told_4] at e
    replace e := br_s e
    rcases e with ⟨_, e⟩ | ⟨_, e⟩
    · replace e := nm_s e
      obtain ⟨a_2, wa_2, e⟩ := e
      replace e := nm_s e
      obtain ⟨h_3, wh_3, e⟩ := e
      have kh_3 : DyK n g h_3 := by rw [wh_3]; exact dk_nC k
      exact dk_X15_told_37 kh_3 e
    · replace e := cl_s e
      obtain ⟨r_4, _, e⟩ := e
      replace e := (gd_s e).2
      replace e := br_s e
      rcases e with ⟨_, e⟩ | ⟨_, e⟩
      · exact dk_X15_told_25 (fun k e => ih k e) k e
      · exact dk_X15_told_25 (fun k e => ih k e) k e
theorem dk_X15_told {n : Nat} {g : Hp} {F : Nat} {o : Int32 × Hp} {x0 : Nat} {x1 : Int32} {h : Hp} (k : DyK n g h) (e : sX15_told F h x0 x1 = some o) : DyK n g o.2 := by
  unfold sX15_told at e
  exact dk_X15_told_4 F k e
theorem dk_X15_freePlace_2 {n : Nat} {g : Hp} {F : Nat} {o : Int32 × Hp} : ∀ (f : Nat) {h : Hp} {x0 : Nat} {x1 : Int32}, DyK n g h → sX15_freePlace_2 F f h x0 x1 = some o → DyK n g o.2 := by
  intro f
  induction f with
  | zero => intro h x0 x1 _ e; exact absurd e (by rw [sX15_freePlace_2]; exact fun z => nomatch z)
  | succ f ih =>
    intro h x0 x1 k e
    rw [sX15_freePlace_2] at e
    replace e := br_s e
    rcases e with ⟨_, e⟩ | ⟨_, e⟩
    · rw [← Option.some.inj e]; exact k
    · replace e := cl_s e
      obtain ⟨r_2, _, e⟩ := e
      replace e := (gd_s e).2
      replace e := br_s e
      rcases e with ⟨_, e⟩ | ⟨_, e⟩
      · rw [← Option.some.inj e]; exact k
      · replace e := nm_s e
        obtain ⟨v_5, wv_5, e⟩ := e
        exact ih k e
theorem dk_X15_freePlace {n : Nat} {g : Hp} {F : Nat} {o : Int32 × Hp} {x0 : Nat} {h : Hp} (k : DyK n g h) (e : sX15_freePlace F h x0 = some o) : DyK n g o.2 := by
  unfold sX15_freePlace at e
  exact dk_X15_freePlace_2 F k e
theorem dk_X12_clear_38 {n : Nat} {g : Hp} {F : Nat} {o : Hp} : ∀ (f : Nat) {h : Hp} {x0 : Nat} {x1 : Int32}, DyK n g h → sX12_clear_38 F f h x0 x1 = some o → DyK n g o := by
  intro f
  induction f with
  | zero => intro h x0 x1 _ e; exact absurd e (by rw [sX12_clear_38]; exact fun z => nomatch z)
  | succ f ih =>
    intro h x0 x1 k e
    rw [sX12_clear_38] at e
    replace e := br_s e
    rcases e with ⟨_, e⟩ | ⟨_, e⟩
    · replace e := cl_s e
      obtain ⟨r_2, _, e⟩ := e
      replace e := (gd_s e).2
      replace e := nm_s e
      obtain ⟨h_4, wh_4, e⟩ := e
      have kh_4 : DyK n g h_4 := by rw [wh_4]; exact dk_wI k
      replace e := cl_s e
      obtain ⟨r_5, _, e⟩ := e
      replace e := (gd_s e).2
      replace e := nm_s e
      obtain ⟨h_7, wh_7, e⟩ := e
      have kh_7 : DyK n g h_7 := by rw [wh_7]; exact dk_wI kh_4
      replace e := nm_s e
      obtain ⟨h_8, wh_8, e⟩ := e
      have kh_8 : DyK n g h_8 := by rw [wh_8]; exact dk_wI kh_7
      rw [← Option.some.inj e]; exact kh_8
    · replace e := cl_s e
      obtain ⟨r_9, _, e⟩ := e
      replace e := (gd_s e).2
      replace e := nm_s e
      obtain ⟨h_11, wh_11, e⟩ := e
      have kh_11 : DyK n g h_11 := by rw [wh_11]; exact dk_wI k
      replace e := nm_s e
      obtain ⟨v_12, wv_12, e⟩ := e
      exact ih kh_11 e
theorem dk_X12_clear_2 {n : Nat} {g : Hp} {F : Nat} {o : Hp} : ∀ (f : Nat) {h : Hp} {x0 : Nat} {x1 : Int32}, DyK n g h → sX12_clear_2 F f h x0 x1 = some o → DyK n g o := by
  intro f
  induction f with
  | zero => intro h x0 x1 _ e; exact absurd e (by rw [sX12_clear_2]; exact fun z => nomatch z)
  | succ f ih =>
    intro h x0 x1 k e
    rw [sX12_clear_2] at e
    replace e := br_s e
    rcases e with ⟨_, e⟩ | ⟨_, e⟩
    · replace e := nm_s e
      obtain ⟨h_2, wh_2, e⟩ := e
      have kh_2 : DyK n g h_2 := by rw [wh_2]; exact dk_wI k
      replace e := nm_s e
      obtain ⟨h_3, wh_3, e⟩ := e
      have kh_3 : DyK n g h_3 := by rw [wh_3]; exact dk_wJ kh_2
      replace e := nm_s e
      obtain ⟨h_4, wh_4, e⟩ := e
      have kh_4 : DyK n g h_4 := by rw [wh_4]; exact dk_wI kh_3
      exact dk_X12_clear_38 F kh_4 e
    · replace e := cl_s e
      obtain ⟨r_5, _, e⟩ := e
      replace e := (gd_s e).2
      replace e := nm_s e
      obtain ⟨h_7, wh_7, e⟩ := e
      have kh_7 : DyK n g h_7 := by rw [wh_7]; exact dk_wI k
      replace e := nm_s e
      obtain ⟨v_8, wv_8, e⟩ := e
      exact ih kh_7 e
theorem dk_X12_clear {n : Nat} {g : Hp} {F : Nat} {o : Hp} {x0 : Nat} {h : Hp} (k : DyK n g h) (e : sX12_clear F h x0 = some o) : DyK n g o := by
  unfold sX12_clear at e
  exact dk_X12_clear_2 F k e
theorem dk_X15_look_24 {n : Nat} {g : Hp} {o : Int32 × Hp} {t0 : Int32} {h : Hp} (k : DyK n g h) (e : sX15_look_24 h t0 = some o) : DyK n g o.2 := by
  unfold sX15_look_24 at e
  rw [← Option.some.inj e]; exact k
theorem dk_X15_look {n : Nat} {g : Hp} {o : Int32 × Hp} {x0 : Nat} {h : Hp} (k : DyK n g h) (e : sX15_look h x0 = some o) : DyK n g o.2 := by
  unfold sX15_look at e
  replace e := br_s e
  rcases e with ⟨_, e⟩ | ⟨_, e⟩
  · exact dk_X15_look_24 k e
  · replace e := cl_s e
    obtain ⟨r_2, _, e⟩ := e
    replace e := (gd_s e).2
    exact dk_X15_look_24 k e
theorem dk_X15_reads {n : Nat} {g : Hp} {o : Int32 × Hp} {x0 : Nat} {x1 : Int32} {h : Hp} (k : DyK n g h) (e : sX15_reads h x0 x1 = some o) : DyK n g o.2 := by
  unfold sX15_reads at e
  replace e := cl_s e
  obtain ⟨o_1, eo_1, e⟩ := e
  have ko_1 : DyK n g o_1.2 := dk_X15_look k eo_1
  replace e := br_s e
  rcases e with ⟨_, e⟩ | ⟨_, e⟩
  · replace e := nm_s e
    obtain ⟨h_3, wh_3, e⟩ := e
    have kh_3 : DyK n g h_3 := by rw [wh_3]; exact dk_wI ko_1
    rw [← Option.some.inj e]; exact kh_3
  · rw [← Option.some.inj e]; exact ko_1
theorem dk_X15_readMen_130 {n : Nat} {g : Hp} {F : Nat} {o : Int32 × Hp} {x0 : Nat} {x1 : Nat} {x2 : Int32} {k_7 : Hp → Nat → Nat → Int32 → Option (Int32 × Hp)} (R_7 : ∀ {h : Hp} {y1 : Nat} {y2 : Nat} {y3 : Int32}, DyK n g h → k_7 h y1 y2 y3 = some o → DyK n g o.2) {h : Hp} (k : DyK n g h) (e : sX15_readMen_130 F k_7 h x0 x1 x2 = some o) : DyK n g o.2 := by
  unfold sX15_readMen_130 at e
  replace e := nm_s e
  obtain ⟨v_1, wv_1, e⟩ := e
  exact R_7 k e
theorem dk_X15_valueOf {n : Nat} {g : Hp} {o : Int32 × Hp} {x0 : Int32} {x1 : Int32} {h : Hp} (k : DyK n g h) (e : sX15_valueOf h x0 x1 = some o) : DyK n g o.2 := by
  unfold sX15_valueOf at e
  rw [← Option.some.inj e]; exact k
theorem dk_X15_manLetter_2 {n : Nat} {g : Hp} {F : Nat} {o : Int32 × Hp} : ∀ (f : Nat) {h : Hp} {x0 : Nat} {x1 : Int32} {x2 : Int32}, DyK n g h → sX15_manLetter_2 F f h x0 x1 x2 = some o → DyK n g o.2 := by
  intro f
  induction f with
  | zero => intro h x0 x1 x2 _ e; exact absurd e (by rw [sX15_manLetter_2]; exact fun z => nomatch z)
  | succ f ih =>
    intro h x0 x1 x2 k e
    rw [sX15_manLetter_2] at e
    replace e := cl_s e
    obtain ⟨r_1, _, e⟩ := e
    replace e := br_s e
    rcases e with ⟨_, e⟩ | ⟨_, e⟩
    · rw [← Option.some.inj e]; exact k
    · replace e := cl_s e
      obtain ⟨r_3, _, e⟩ := e
      replace e := cl_s e
      obtain ⟨r_4, _, e⟩ := e
      replace e := (gd_s e).2
      replace e := br_s e
      rcases e with ⟨_, e⟩ | ⟨_, e⟩
      · replace e := cl_s e
        obtain ⟨o_13, eo_13, e⟩ := e
        have ko_13 : DyK n g o_13.2 := dk_X15_valueOf k eo_13
        rw [← Option.some.inj e]; exact ko_13
      · replace e := cl_s e
        obtain ⟨r_7, _, e⟩ := e
        replace e := cl_s e
        obtain ⟨r_8, _, e⟩ := e
        replace e := (gd_s e).2
        replace e := br_s e
        rcases e with ⟨_, e⟩ | ⟨_, e⟩
        · replace e := cl_s e
          obtain ⟨o_12, eo_12, e⟩ := e
          have ko_12 : DyK n g o_12.2 := dk_X15_valueOf k eo_12
          rw [← Option.some.inj e]; exact ko_12
        · replace e := nm_s e
          obtain ⟨v_11, wv_11, e⟩ := e
          exact ih k e
theorem dk_X15_manLetter {n : Nat} {g : Hp} {F : Nat} {o : Int32 × Hp} {x0 : Nat} {x1 : Int32} {h : Hp} (k : DyK n g h) (e : sX15_manLetter F h x0 x1 = some o) : DyK n g o.2 := by
  unfold sX15_manLetter at e
  exact dk_X15_manLetter_2 F k e
theorem dk_X15_readMen_100 {n : Nat} {g : Hp} {F : Nat} {o : Int32 × Hp} {h : Hp} (k : DyK n g h) (e : sX15_readMen_100 F h = some o) : DyK n g o.2 := by
  unfold sX15_readMen_100 at e
  rw [← Option.some.inj e]; exact k
theorem dk_X15_readMen_102 {n : Nat} {g : Hp} {F : Nat} {o : Int32 × Hp} {x0 : Nat} {x1 : Nat} {x2 : Int32} {x3 : Int32} {k_7 : Hp → Nat → Nat → Int32 → Option (Int32 × Hp)} (R_7 : ∀ {h : Hp} {y1 : Nat} {y2 : Nat} {y3 : Int32}, DyK n g h → k_7 h y1 y2 y3 = some o → DyK n g o.2) {k_13 : Hp → Nat → Nat → Int32 → Int32 → Option (Int32 × Hp)} (R_13 : ∀ {h : Hp} {y1 : Nat} {y2 : Nat} {y3 : Int32} {y4 : Int32}, DyK n g h → k_13 h y1 y2 y3 y4 = some o → DyK n g o.2) {h : Hp} (k : DyK n g h) (e : sX15_readMen_102 F k_7 k_13 h x0 x1 x2 x3 = some o) : DyK n g o.2 := by
  unfold sX15_readMen_102 at e
  replace e := nm_s e
  obtain ⟨h_1, wh_1, e⟩ := e
  have kh_1 : DyK n g h_1 := by rw [wh_1]; exact dk_wI k
  exact R_13 kh_1 e
theorem dk_X15_readMen_13 {n : Nat} {g : Hp} {F : Nat} {o : Int32 × Hp} {k_7 : Hp → Nat → Nat → Int32 → Option (Int32 × Hp)} (R_7 : ∀ {h : Hp} {y1 : Nat} {y2 : Nat} {y3 : Int32}, DyK n g h → k_7 h y1 y2 y3 = some o → DyK n g o.2) : ∀ (f : Nat) {h : Hp} {x0 : Nat} {x1 : Nat} {x2 : Int32} {x3 : Int32}, DyK n g h → sX15_readMen_13 F k_7 f h x0 x1 x2 x3 = some o → DyK n g o.2 := by
  intro f
  induction f with
  | zero => intro h x0 x1 x2 x3 _ e; exact absurd e (by rw [sX15_readMen_13]; exact fun z => nomatch z)
  | succ f ih =>
    intro h x0 x1 x2 x3 k e
    rw [sX15_readMen_13] at e
    replace e := br_s e
    rcases e with ⟨_, e⟩ | ⟨_, e⟩
    · replace e := br_s e
      rcases e with ⟨_, e⟩ | ⟨_, e⟩
      · exact dk_X15_readMen_130 R_7 k e
      · replace e := cl_s e
        obtain ⟨o_3, eo_3, e⟩ := e
        have ko_3 : DyK n g o_3.2 := dk_X15_reads k eo_3
        replace e := br_s e
        rcases e with ⟨_, e⟩ | ⟨_, e⟩
        · rw [← Option.some.inj e]; exact ko_3
        · exact dk_X15_readMen_130 R_7 ko_3 e
    · replace e := cl_s e
      obtain ⟨o_5, eo_5, e⟩ := e
      have ko_5 : DyK n g o_5.2 := dk_X15_look k eo_5
      replace e := cl_s e
      obtain ⟨o_6, eo_6, e⟩ := e
      have ko_6 : DyK n g o_6.2 := dk_X15_manLetter ko_5 eo_6
      replace e := br_s e
      rcases e with ⟨_, e⟩ | ⟨_, e⟩
      · replace e := br_s e
        rcases e with ⟨_, e⟩ | ⟨_, e⟩
        · exact dk_X15_readMen_100 ko_6 e
        · replace e := br_s e
          rcases e with ⟨_, e⟩ | ⟨_, e⟩
          · exact dk_X15_readMen_100 ko_6 e
          · replace e := br_s e
            rcases e with ⟨_, e⟩ | ⟨_, e⟩
            · exact dk_X15_readMen_100 ko_6 e
            · replace e := nm_s e
              obtain ⟨v_11, wv_11, e⟩ := e
              exact dk_X15_readMen_102 R_7 (fun k e => ih k e) ko_6 e
      · replace e := cl_s e
        obtain ⟨r_12, _, e⟩ := e
        replace e := (gd_s e).2
        replace e := nm_s e
        obtain ⟨h_14, wh_14, e⟩ := e
        have kh_14 : DyK n g h_14 := by rw [wh_14]; exact dk_wI ko_6
        replace e := nm_s e
        obtain ⟨v_15, wv_15, e⟩ := e
        exact dk_X15_readMen_102 R_7 (fun k e => ih k e) kh_14 e
theorem dk_X15_readMen_7 {n : Nat} {g : Hp} {F : Nat} {o : Int32 × Hp} : ∀ (f : Nat) {h : Hp} {x0 : Nat} {x1 : Nat} {x2 : Int32}, DyK n g h → sX15_readMen_7 F f h x0 x1 x2 = some o → DyK n g o.2 := by
  intro f
  induction f with
  | zero => intro h x0 x1 x2 _ e; exact absurd e (by rw [sX15_readMen_7]; exact fun z => nomatch z)
  | succ f ih =>
    intro h x0 x1 x2 k e
    rw [sX15_readMen_7] at e
    replace e := br_s e
    rcases e with ⟨_, e⟩ | ⟨_, e⟩
    · replace e := cl_s e
      obtain ⟨o_2, eo_2, e⟩ := e
      have ko_2 : DyK n g o_2.2 := dk_X15_reads k eo_2
      replace e := (gd_s e).2
      rw [← Option.some.inj e]; exact ko_2
    · exact dk_X15_readMen_13 (fun k e => ih k e) F k e
theorem dk_X15_readMen {n : Nat} {g : Hp} {F : Nat} {o : Int32 × Hp} {x0 : Nat} {x1 : Nat} {h : Hp} (k : DyK n g h) (e : sX15_readMen F h x0 x1 = some o) : DyK n g o.2 := by
  unfold sX15_readMen at e
  replace e := nm_s e
  obtain ⟨v_1, wv_1, e⟩ := e
  exact dk_X15_readMen_7 F k e
theorem dk_X15_isPosition_72 {n : Nat} {g : Hp} {F : Nat} {o : Int32 × Hp} {t0 : Int32} {h : Hp} (k : DyK n g h) (e : sX15_isPosition_72 F h t0 = some o) : DyK n g o.2 := by
  unfold sX15_isPosition_72 at e
  replace e := (gd_s e).2
  rw [← Option.some.inj e]; exact k
theorem dk_X15_isPosition_71 {n : Nat} {g : Hp} {F : Nat} {o : Int32 × Hp} {h : Hp} (k : DyK n g h) (e : sX15_isPosition_71 F h = some o) : DyK n g o.2 := by
  unfold sX15_isPosition_71 at e
  exact dk_X15_isPosition_72 k e
theorem dk_X15_readSide_35 {n : Nat} {g : Hp} {o : Int32 × Hp} {x0 : Nat} {t0 : Int32} {t1 : Nat} {h : Hp} (k : DyK n g h) (e : sX15_readSide_35 h x0 t0 t1 = some o) : DyK n g o.2 := by
  unfold sX15_readSide_35 at e
  replace e := nm_s e
  obtain ⟨h_1, wh_1, e⟩ := e
  have kh_1 : DyK n g h_1 := by rw [wh_1]; exact dk_wI k
  replace e := nm_s e
  obtain ⟨h_2, wh_2, e⟩ := e
  have kh_2 : DyK n g h_2 := by rw [wh_2]; exact dk_wI kh_1
  replace e := cl_s e
  obtain ⟨o_3, eo_3, e⟩ := e
  have ko_3 : DyK n g o_3.2 := dk_X15_reads kh_2 eo_3
  replace e := (gd_s e).2
  rw [← Option.some.inj e]; exact ko_3
theorem dk_X15_readSide_20 {n : Nat} {g : Hp} {o : Int32 × Hp} {x0 : Nat} {x1 : Nat} {h : Hp} (k : DyK n g h) (e : sX15_readSide_20 h x0 x1 = some o) : DyK n g o.2 := by
  unfold sX15_readSide_20 at e
  replace e := cl_s e
  obtain ⟨o_1, eo_1, e⟩ := e
  have ko_1 : DyK n g o_1.2 := dk_X15_look k eo_1
  replace e := br_s e
  rcases e with ⟨_, e⟩ | ⟨_, e⟩
  · exact dk_X15_readSide_35 ko_1 e
  · exact dk_X15_readSide_35 ko_1 e
theorem dk_X15_readSide {n : Nat} {g : Hp} {o : Int32 × Hp} {x0 : Nat} {x1 : Nat} {h : Hp} (k : DyK n g h) (e : sX15_readSide h x0 x1 = some o) : DyK n g o.2 := by
  unfold sX15_readSide at e
  replace e := cl_s e
  obtain ⟨o_1, eo_1, e⟩ := e
  have ko_1 : DyK n g o_1.2 := dk_X15_look k eo_1
  replace e := br_s e
  rcases e with ⟨_, e⟩ | ⟨_, e⟩
  · exact dk_X15_readSide_20 ko_1 e
  · replace e := cl_s e
    obtain ⟨o_3, eo_3, e⟩ := e
    have ko_3 : DyK n g o_3.2 := dk_X15_look ko_1 eo_3
    replace e := br_s e
    rcases e with ⟨_, e⟩ | ⟨_, e⟩
    · exact dk_X15_readSide_20 ko_3 e
    · rw [← Option.some.inj e]; exact ko_3
theorem dk_X15_readSquare_28 {n : Nat} {g : Hp} {o : Int32 × Hp} {h : Hp} (k : DyK n g h) (e : sX15_readSquare_28 h = some o) : DyK n g o.2 := by
  unfold sX15_readSquare_28 at e
  rw [← Option.some.inj e]; exact k
theorem dk_X15_readSquare_68 {n : Nat} {g : Hp} {o : Int32 × Hp} {h : Hp} (k : DyK n g h) (e : sX15_readSquare_68 h = some o) : DyK n g o.2 := by
  unfold sX15_readSquare_68 at e
  rw [← Option.some.inj e]; exact k
theorem dk_X15_readSquare {n : Nat} {g : Hp} {o : Int32 × Hp} {x0 : Nat} {x1 : Int32} {h : Hp} (k : DyK n g h) (e : sX15_readSquare h x0 x1 = some o) : DyK n g o.2 := by
  unfold sX15_readSquare at e
  replace e := cl_s e
  obtain ⟨o_1, eo_1, e⟩ := e
  have ko_1 : DyK n g o_1.2 := dk_X15_look k eo_1
  replace e := nm_s e
  obtain ⟨v_2, wv_2, e⟩ := e
  replace e := cl_s e
  obtain ⟨o_3, eo_3, e⟩ := e
  have ko_3 : DyK n g o_3.2 := dk_X15_look ko_1 eo_3
  replace e := br_s e
  rcases e with ⟨_, e⟩ | ⟨_, e⟩
  · exact dk_X15_readSquare_28 ko_3 e
  · replace e := br_s e
    rcases e with ⟨_, e⟩ | ⟨_, e⟩
    · exact dk_X15_readSquare_28 ko_3 e
    · replace e := br_s e
      rcases e with ⟨_, e⟩ | ⟨_, e⟩
      · replace e := nm_s e
        obtain ⟨h_7, wh_7, e⟩ := e
        have kh_7 : DyK n g h_7 := by rw [wh_7]; exact dk_wI ko_3
        replace e := cl_s e
        obtain ⟨o_8, eo_8, e⟩ := e
        have ko_8 : DyK n g o_8.2 := dk_X15_look kh_7 eo_8
        replace e := nm_s e
        obtain ⟨v_9, wv_9, e⟩ := e
        replace e := cl_s e
        obtain ⟨o_10, eo_10, e⟩ := e
        have ko_10 : DyK n g o_10.2 := dk_X15_look ko_8 eo_10
        replace e := br_s e
        rcases e with ⟨_, e⟩ | ⟨_, e⟩
        · exact dk_X15_readSquare_68 ko_10 e
        · replace e := br_s e
          rcases e with ⟨_, e⟩ | ⟨_, e⟩
          · exact dk_X15_readSquare_68 ko_10 e
          · replace e := br_s e
            rcases e with ⟨_, e⟩ | ⟨_, e⟩
            · replace e := nm_s e
              obtain ⟨h_14, wh_14, e⟩ := e
              have kh_14 : DyK n g h_14 := by rw [wh_14]; exact dk_wI ko_10
              replace e := br_s e
              rcases e with ⟨_, e⟩ | ⟨_, e⟩
              · replace e := nm_s e
                obtain ⟨h_16, wh_16, e⟩ := e
                have kh_16 : DyK n g h_16 := by rw [wh_16]; exact dk_wI kh_14
                rw [← Option.some.inj e]; exact kh_16
              · replace e := nm_s e
                obtain ⟨h_17, wh_17, e⟩ := e
                have kh_17 : DyK n g h_17 := by rw [wh_17]; exact dk_wI kh_14
                rw [← Option.some.inj e]; exact kh_17
            · exact dk_X15_readSquare_68 ko_10 e
      · exact dk_X15_readSquare_28 ko_3 e
theorem dk_X15_readRights_32 {n : Nat} {g : Hp} {F : Nat} {o : Int32 × Hp} {x0 : Nat} {x1 : Nat} {x2 : Int32} {k_18 : Hp → Nat → Nat → Int32 → Option (Int32 × Hp)} (R_18 : ∀ {h : Hp} {y1 : Nat} {y2 : Nat} {y3 : Int32}, DyK n g h → k_18 h y1 y2 y3 = some o → DyK n g o.2) {h : Hp} (k : DyK n g h) (e : sX15_readRights_32 F k_18 h x0 x1 x2 = some o) : DyK n g o.2 := by
  unfold sX15_readRights_32 at e
  replace e := cl_s e
  obtain ⟨o_1, eo_1, e⟩ := e
  have ko_1 : DyK n g o_1.2 := dk_X15_readSquare k eo_1
  replace e := br_s e
  rcases e with ⟨_, e⟩ | ⟨_, e⟩
  · rw [← Option.some.inj e]; exact ko_1
  · replace e := nm_s e
    obtain ⟨v_3, wv_3, e⟩ := e
    replace e := nm_s e
    obtain ⟨h_4, wh_4, e⟩ := e
    have kh_4 : DyK n g h_4 := by rw [wh_4]; exact dk_wJ ko_1
    exact R_18 kh_4 e
theorem dk_X15_readRights_18 {n : Nat} {g : Hp} {F : Nat} {o : Int32 × Hp} : ∀ (f : Nat) {h : Hp} {x0 : Nat} {x1 : Nat} {x2 : Int32}, DyK n g h → sX15_readRights_18 F f h x0 x1 x2 = some o → DyK n g o.2 := by
  intro f
  induction f with
  | zero => intro h x0 x1 x2 _ e; exact absurd e (by rw [sX15_readRights_18]; exact fun z => nomatch z)
  | succ f ih =>
    intro h x0 x1 x2 k e
    rw [sX15_readRights_18] at e
    replace e := br_s e
    rcases e with ⟨_, e⟩ | ⟨_, e⟩
    · exact dk_X15_readRights_32 (fun k e => ih k e) k e
    · replace e := cl_s e
      obtain ⟨o_2, eo_2, e⟩ := e
      have ko_2 : DyK n g o_2.2 := dk_X15_look k eo_2
      replace e := br_s e
      rcases e with ⟨_, e⟩ | ⟨_, e⟩
      · replace e := cl_s e
        obtain ⟨o_4, eo_4, e⟩ := e
        have ko_4 : DyK n g o_4.2 := dk_X15_reads ko_2 eo_4
        replace e := (gd_s e).2
        rw [← Option.some.inj e]; exact ko_4
      · exact dk_X15_readRights_32 (fun k e => ih k e) ko_2 e
theorem dk_X15_readRights {n : Nat} {g : Hp} {F : Nat} {o : Int32 × Hp} {x0 : Nat} {x1 : Nat} {h : Hp} (k : DyK n g h) (e : sX15_readRights F h x0 x1 = some o) : DyK n g o.2 := by
  unfold sX15_readRights at e
  replace e := cl_s e
  obtain ⟨o_1, eo_1, e⟩ := e
  have ko_1 : DyK n g o_1.2 := dk_X15_reads k eo_1
  replace e := br_s e
  rcases e with ⟨_, e⟩ | ⟨_, e⟩
  · exact dk_X15_readRights_18 F ko_1 e
  · replace e := cl_s e
    obtain ⟨o_3, eo_3, e⟩ := e
    have ko_3 : DyK n g o_3.2 := dk_X15_reads ko_1 eo_3
    replace e := (gd_s e).2
    rw [← Option.some.inj e]; exact ko_3
theorem dk_X15_readPass_58 {n : Nat} {g : Hp} {F : Nat} {o : Int32 × Hp} {x0 : Nat} {x1 : Nat} {x2 : Int32} {k_18 : Hp → Nat → Nat → Int32 → Option (Int32 × Hp)} (R_18 : ∀ {h : Hp} {y1 : Nat} {y2 : Nat} {y3 : Int32}, DyK n g h → k_18 h y1 y2 y3 = some o → DyK n g o.2) {h : Hp} (k : DyK n g h) (e : sX15_readPass_58 F k_18 h x0 x1 x2 = some o) : DyK n g o.2 := by
  unfold sX15_readPass_58 at e
  replace e := nm_s e
  obtain ⟨v_1, wv_1, e⟩ := e
  exact R_18 k e
theorem dk_X15_readPass_32 {n : Nat} {g : Hp} {F : Nat} {o : Int32 × Hp} {x0 : Nat} {x1 : Nat} {x2 : Int32} {k_18 : Hp → Nat → Nat → Int32 → Option (Int32 × Hp)} (R_18 : ∀ {h : Hp} {y1 : Nat} {y2 : Nat} {y3 : Int32}, DyK n g h → k_18 h y1 y2 y3 = some o → DyK n g o.2) {h : Hp} (k : DyK n g h) (e : sX15_readPass_32 F k_18 h x0 x1 x2 = some o) : DyK n g o.2 := by
  unfold sX15_readPass_32 at e
  replace e := cl_s e
  obtain ⟨o_1, eo_1, e⟩ := e
  have ko_1 : DyK n g o_1.2 := dk_X15_readSquare k eo_1
  replace e := br_s e
  rcases e with ⟨_, e⟩ | ⟨_, e⟩
  · rw [← Option.some.inj e]; exact ko_1
  · replace e := br_s e
    rcases e with ⟨_, e⟩ | ⟨_, e⟩
    · exact dk_X15_readPass_58 R_18 ko_1 e
    · replace e := cl_s e
      obtain ⟨r_4, _, e⟩ := e
      replace e := (gd_s e).2
      replace e := nm_s e
      obtain ⟨h_6, wh_6, e⟩ := e
      have kh_6 : DyK n g h_6 := by rw [wh_6]; exact dk_wI ko_1
      exact dk_X15_readPass_58 R_18 kh_6 e
theorem dk_X15_readPass_77 {n : Nat} {g : Hp} {F : Nat} {o : Int32 × Hp} {x0 : Nat} {t0 : Int32} {t1 : Nat} {h : Hp} (k : DyK n g h) (e : sX15_readPass_77 F h x0 t0 t1 = some o) : DyK n g o.2 := by
  unfold sX15_readPass_77 at e
  replace e := nm_s e
  obtain ⟨h_1, wh_1, e⟩ := e
  have kh_1 : DyK n g h_1 := by rw [wh_1]; exact dk_wI k
  replace e := cl_s e
  obtain ⟨o_2, eo_2, e⟩ := e
  have ko_2 : DyK n g o_2.2 := dk_X15_reads kh_1 eo_2
  replace e := (gd_s e).2
  rw [← Option.some.inj e]; exact ko_2
theorem dk_X15_readPass_18 {n : Nat} {g : Hp} {F : Nat} {o : Int32 × Hp} : ∀ (f : Nat) {h : Hp} {x0 : Nat} {x1 : Nat} {x2 : Int32}, DyK n g h → sX15_readPass_18 F f h x0 x1 x2 = some o → DyK n g o.2 := by
  intro f
  induction f with
  | zero => intro h x0 x1 x2 _ e; exact absurd e (by rw [sX15_readPass_18]; exact fun z => nomatch z)
  | succ f ih =>
    intro h x0 x1 x2 k e
    rw [sX15_readPass_18] at e
    replace e := br_s e
    rcases e with ⟨_, e⟩ | ⟨_, e⟩
    · exact dk_X15_readPass_32 (fun k e => ih k e) k e
    · replace e := cl_s e
      obtain ⟨o_2, eo_2, e⟩ := e
      have ko_2 : DyK n g o_2.2 := dk_X15_look k eo_2
      replace e := br_s e
      rcases e with ⟨_, e⟩ | ⟨_, e⟩
      · replace e := br_s e
        rcases e with ⟨_, e⟩ | ⟨_, e⟩
        · exact dk_X15_readPass_77 ko_2 e
        · exact dk_X15_readPass_77 ko_2 e
      · exact dk_X15_readPass_32 (fun k e => ih k e) ko_2 e
theorem dk_X15_readPass {n : Nat} {g : Hp} {F : Nat} {o : Int32 × Hp} {x0 : Nat} {x1 : Nat} {h : Hp} (k : DyK n g h) (e : sX15_readPass F h x0 x1 = some o) : DyK n g o.2 := by
  unfold sX15_readPass at e
  replace e := cl_s e
  obtain ⟨o_1, eo_1, e⟩ := e
  have ko_1 : DyK n g o_1.2 := dk_X15_reads k eo_1
  replace e := br_s e
  rcases e with ⟨_, e⟩ | ⟨_, e⟩
  · exact dk_X15_readPass_18 F ko_1 e
  · replace e := cl_s e
    obtain ⟨o_3, eo_3, e⟩ := e
    have ko_3 : DyK n g o_3.2 := dk_X15_reads ko_1 eo_3
    replace e := (gd_s e).2
    rw [← Option.some.inj e]; exact ko_3
theorem dk_X15_readHands_63 {n : Nat} {g : Hp} {F : Nat} {o : Int32 × Hp} {h : Hp} (k : DyK n g h) (e : sX15_readHands_63 F h = some o) : DyK n g o.2 := by
  unfold sX15_readHands_63 at e
  rw [← Option.some.inj e]; exact k
theorem dk_X15_readHands_31 {n : Nat} {g : Hp} {F : Nat} {o : Int32 × Hp} {x0 : Nat} {x1 : Nat} {x2 : Int32} {k_18 : Hp → Nat → Nat → Int32 → Option (Int32 × Hp)} (R_18 : ∀ {h : Hp} {y1 : Nat} {y2 : Nat} {y3 : Int32}, DyK n g h → k_18 h y1 y2 y3 = some o → DyK n g o.2) {h : Hp} (k : DyK n g h) (e : sX15_readHands_31 F k_18 h x0 x1 x2 = some o) : DyK n g o.2 := by
  unfold sX15_readHands_31 at e
  replace e := cl_s e
  obtain ⟨o_1, eo_1, e⟩ := e
  have ko_1 : DyK n g o_1.2 := dk_X15_look k eo_1
  replace e := cl_s e
  obtain ⟨o_2, eo_2, e⟩ := e
  have ko_2 : DyK n g o_2.2 := dk_X15_manLetter ko_1 eo_2
  replace e := br_s e
  rcases e with ⟨_, e⟩ | ⟨_, e⟩
  · exact dk_X15_readHands_63 ko_2 e
  · replace e := br_s e
    rcases e with ⟨_, e⟩ | ⟨_, e⟩
    · exact dk_X15_readHands_63 ko_2 e
    · replace e := cl_s e
      obtain ⟨r_5, _, e⟩ := e
      replace e := (gd_s e).2
      replace e := br_s e
      rcases e with ⟨_, e⟩ | ⟨_, e⟩
      · exact dk_X15_readHands_63 ko_2 e
      · replace e := cl_s e
        obtain ⟨r_8, _, e⟩ := e
        replace e := (gd_s e).2
        replace e := (gd_s e).2
        replace e := nm_s e
        obtain ⟨h_11, wh_11, e⟩ := e
        have kh_11 : DyK n g h_11 := by rw [wh_11]; exact dk_wI ko_2
        replace e := nm_s e
        obtain ⟨v_12, wv_12, e⟩ := e
        replace e := nm_s e
        obtain ⟨h_13, wh_13, e⟩ := e
        have kh_13 : DyK n g h_13 := by rw [wh_13]; exact dk_wI kh_11
        exact R_18 kh_13 e
theorem dk_X15_readHands_18 {n : Nat} {g : Hp} {F : Nat} {o : Int32 × Hp} : ∀ (f : Nat) {h : Hp} {x0 : Nat} {x1 : Nat} {x2 : Int32}, DyK n g h → sX15_readHands_18 F f h x0 x1 x2 = some o → DyK n g o.2 := by
  intro f
  induction f with
  | zero => intro h x0 x1 x2 _ e; exact absurd e (by rw [sX15_readHands_18]; exact fun z => nomatch z)
  | succ f ih =>
    intro h x0 x1 x2 k e
    rw [sX15_readHands_18] at e
    replace e := br_s e
    rcases e with ⟨_, e⟩ | ⟨_, e⟩
    · exact dk_X15_readHands_31 (fun k e => ih k e) k e
    · replace e := cl_s e
      obtain ⟨o_2, eo_2, e⟩ := e
      have ko_2 : DyK n g o_2.2 := dk_X15_look k eo_2
      replace e := br_s e
      rcases e with ⟨_, e⟩ | ⟨_, e⟩
      · replace e := cl_s e
        obtain ⟨o_4, eo_4, e⟩ := e
        have ko_4 : DyK n g o_4.2 := dk_X15_reads ko_2 eo_4
        replace e := (gd_s e).2
        rw [← Option.some.inj e]; exact ko_4
      · exact dk_X15_readHands_31 (fun k e => ih k e) ko_2 e
theorem dk_X15_readHands {n : Nat} {g : Hp} {F : Nat} {o : Int32 × Hp} {x0 : Nat} {x1 : Nat} {h : Hp} (k : DyK n g h) (e : sX15_readHands F h x0 x1 = some o) : DyK n g o.2 := by
  unfold sX15_readHands at e
  replace e := cl_s e
  obtain ⟨o_1, eo_1, e⟩ := e
  have ko_1 : DyK n g o_1.2 := dk_X15_reads k eo_1
  replace e := br_s e
  rcases e with ⟨_, e⟩ | ⟨_, e⟩
  · exact dk_X15_readHands_18 F ko_1 e
  · replace e := cl_s e
    obtain ⟨o_3, eo_3, e⟩ := e
    have ko_3 : DyK n g o_3.2 := dk_X15_reads ko_1 eo_3
    replace e := (gd_s e).2
    rw [← Option.some.inj e]; exact ko_3
theorem dk_X15_readRest_67 {n : Nat} {g : Hp} {F : Nat} {o : Int32 × Hp} {h : Hp} (k : DyK n g h) (e : sX15_readRest_67 F h = some o) : DyK n g o.2 := by
  unfold sX15_readRest_67 at e
  rw [← Option.some.inj e]; exact k
theorem dk_X15_isDigit_17 {n : Nat} {g : Hp} {o : Int32 × Hp} {t0 : Int32} {h : Hp} (k : DyK n g h) (e : sX15_isDigit_17 h t0 = some o) : DyK n g o.2 := by
  unfold sX15_isDigit_17 at e
  replace e := (gd_s e).2
  rw [← Option.some.inj e]; exact k
theorem dk_X15_isDigit_16 {n : Nat} {g : Hp} {o : Int32 × Hp} {h : Hp} (k : DyK n g h) (e : sX15_isDigit_16 h = some o) : DyK n g o.2 := by
  unfold sX15_isDigit_16 at e
  exact dk_X15_isDigit_17 k e
theorem dk_X15_isDigit {n : Nat} {g : Hp} {o : Int32 × Hp} {x0 : Int32} {h : Hp} (k : DyK n g h) (e : sX15_isDigit h x0 = some o) : DyK n g o.2 := by
  unfold sX15_isDigit at e
  replace e := br_s e
  rcases e with ⟨_, e⟩ | ⟨_, e⟩
  · exact dk_X15_isDigit_16 k e
  · replace e := br_s e
    rcases e with ⟨_, e⟩ | ⟨_, e⟩
    · exact dk_X15_isDigit_16 k e
    · exact dk_X15_isDigit_17 k e
theorem dk_X15_readRest_159 {n : Nat} {g : Hp} {F : Nat} {o : Int32 × Hp} {t0 : Int32} {h : Hp} (k : DyK n g h) (e : sX15_readRest_159 F h t0 = some o) : DyK n g o.2 := by
  unfold sX15_readRest_159 at e
  replace e := (gd_s e).2
  rw [← Option.some.inj e]; exact k
theorem dk_X15_readRest_124 {n : Nat} {g : Hp} {F : Nat} {o : Int32 × Hp} {x0 : Nat} {x1 : Nat} {x2 : Int32} {x3 : Int32} {h : Hp} (k : DyK n g h) (e : sX15_readRest_124 F h x0 x1 x2 x3 = some o) : DyK n g o.2 := by
  unfold sX15_readRest_124 at e
  replace e := nm_s e
  obtain ⟨h_1, wh_1, e⟩ := e
  have kh_1 : DyK n g h_1 := by rw [wh_1]; exact dk_wI k
  replace e := br_s e
  rcases e with ⟨_, e⟩ | ⟨_, e⟩
  · replace e := br_s e
    rcases e with ⟨_, e⟩ | ⟨_, e⟩
    · exact dk_X15_readRest_159 kh_1 e
    · exact dk_X15_readRest_159 kh_1 e
  · replace e := nm_s e
    obtain ⟨h_4, wh_4, e⟩ := e
    have kh_4 : DyK n g h_4 := by rw [wh_4]; exact dk_wI kh_1
    rw [← Option.some.inj e]; exact kh_4
theorem dk_X15_readRest_79 {n : Nat} {g : Hp} {F : Nat} {o : Int32 × Hp} : ∀ (f : Nat) {h : Hp} {x0 : Nat} {x1 : Nat} {x2 : Int32} {x3 : Int32} {x4 : Int32}, DyK n g h → sX15_readRest_79 F f h x0 x1 x2 x3 x4 = some o → DyK n g o.2 := by
  intro f
  induction f with
  | zero => intro h x0 x1 x2 x3 x4 _ e; exact absurd e (by rw [sX15_readRest_79]; exact fun z => nomatch z)
  | succ f ih =>
    intro h x0 x1 x2 x3 x4 k e
    rw [sX15_readRest_79] at e
    replace e := br_s e
    rcases e with ⟨_, e⟩ | ⟨_, e⟩
    · exact dk_X15_readRest_124 k e
    · replace e := cl_s e
      obtain ⟨o_2, eo_2, e⟩ := e
      have ko_2 : DyK n g o_2.2 := dk_X15_look k eo_2
      replace e := cl_s e
      obtain ⟨o_3, eo_3, e⟩ := e
      have ko_3 : DyK n g o_3.2 := dk_X15_isDigit ko_2 eo_3
      replace e := br_s e
      rcases e with ⟨_, e⟩ | ⟨_, e⟩
      · exact dk_X15_readRest_124 ko_3 e
      · replace e := cl_s e
        obtain ⟨o_5, eo_5, e⟩ := e
        have ko_5 : DyK n g o_5.2 := dk_X15_look ko_3 eo_5
        replace e := nm_s e
        obtain ⟨v_6, wv_6, e⟩ := e
        replace e := nm_s e
        obtain ⟨h_7, wh_7, e⟩ := e
        have kh_7 : DyK n g h_7 := by rw [wh_7]; exact dk_wI ko_5
        replace e := nm_s e
        obtain ⟨v_8, wv_8, e⟩ := e
        exact ih kh_7 e
theorem dk_X15_readRest_2 {n : Nat} {g : Hp} {F : Nat} {o : Int32 × Hp} : ∀ (f : Nat) {h : Hp} {x0 : Nat} {x1 : Nat} {x2 : Int32}, DyK n g h → sX15_readRest_2 F f h x0 x1 x2 = some o → DyK n g o.2 := by
  intro f
  induction f with
  | zero => intro h x0 x1 x2 _ e; exact absurd e (by rw [sX15_readRest_2]; exact fun z => nomatch z)
  | succ f ih =>
    intro h x0 x1 x2 k e
    rw [sX15_readRest_2] at e
    replace e := br_s e
    rcases e with ⟨_, e⟩ | ⟨_, e⟩
    · replace e := cl_s e
      obtain ⟨o_2, eo_2, e⟩ := e
      have ko_2 : DyK n g o_2.2 := dk_X15_reads k eo_2
      replace e := br_s e
      rcases e with ⟨_, e⟩ | ⟨_, e⟩
      · exact dk_X15_readRest_67 ko_2 e
      · replace e := cl_s e
        obtain ⟨o_4, eo_4, e⟩ := e
        have ko_4 : DyK n g o_4.2 := dk_X15_look ko_2 eo_4
        replace e := cl_s e
        obtain ⟨o_5, eo_5, e⟩ := e
        have ko_5 : DyK n g o_5.2 := dk_X15_isDigit ko_4 eo_5
        replace e := br_s e
        rcases e with ⟨_, e⟩ | ⟨_, e⟩
        · exact dk_X15_readRest_67 ko_5 e
        · replace e := nm_s e
          obtain ⟨v_7, wv_7, e⟩ := e
          exact dk_X15_readRest_79 F ko_5 e
    · replace e := cl_s e
      obtain ⟨o_8, eo_8, e⟩ := e
      have ko_8 : DyK n g o_8.2 := dk_X15_look k eo_8
      replace e := cl_s e
      obtain ⟨o_9, eo_9, e⟩ := e
      have ko_9 : DyK n g o_9.2 := dk_X15_isDigit ko_8 eo_9
      replace e := br_s e
      rcases e with ⟨_, e⟩ | ⟨_, e⟩
      · rw [← Option.some.inj e]; exact ko_9
      · replace e := cl_s e
        obtain ⟨r_11, _, e⟩ := e
        replace e := cl_s e
        obtain ⟨o_12, eo_12, e⟩ := e
        have ko_12 : DyK n g o_12.2 := dk_X15_look ko_9 eo_12
        replace e := (gd_s e).2
        replace e := nm_s e
        obtain ⟨h_14, wh_14, e⟩ := e
        have kh_14 : DyK n g h_14 := by rw [wh_14]; exact dk_wI ko_12
        replace e := nm_s e
        obtain ⟨h_15, wh_15, e⟩ := e
        have kh_15 : DyK n g h_15 := by rw [wh_15]; exact dk_wI kh_14
        replace e := nm_s e
        obtain ⟨v_16, wv_16, e⟩ := e
        exact ih kh_15 e
theorem dk_X15_readRest {n : Nat} {g : Hp} {F : Nat} {o : Int32 × Hp} {x0 : Nat} {x1 : Nat} {h : Hp} (k : DyK n g h) (e : sX15_readRest F h x0 x1 = some o) : DyK n g o.2 := by
  unfold sX15_readRest at e
  exact dk_X15_readRest_2 F k e
theorem dk_X15_isPosition {n : Nat} {g : Hp} {F : Nat} {o : Int32 × Hp} {x1 : Nat} {x2 : Int32} {x3 : Nat} {h : Hp} (k : DyK n g h) (e : sX15_isPosition F h (n + 513) x1 x2 x3 = some o) : DyK n g o.2 := by
  unfold sX15_isPosition at e
  replace e := nm_s e
  obtain ⟨h_1, wh_1, e⟩ := e
  have kh_1 : DyK n g h_1 := by rw [wh_1]; exact dk_wR k (by decide)
  replace e := nm_s e
  obtain ⟨h_2, wh_2, e⟩ := e
  have kh_2 : DyK n g h_2 := by rw [wh_2]; exact dk_wI kh_1
  replace e := nm_s e
  obtain ⟨h_3, wh_3, e⟩ := e
  have kh_3 : DyK n g h_3 := by rw [wh_3]; exact dk_wI kh_2
  replace e := cl_s e
  obtain ⟨o_4, eo_4, e⟩ := e
  have ko_4 : DyK n g o_4 := dk_X12_clear kh_3 eo_4
  replace e := cl_s e
  obtain ⟨o_5, eo_5, e⟩ := e
  have ko_5 : DyK n g o_5.2 := dk_X15_readMen ko_4 eo_5
  replace e := br_s e
  rcases e with ⟨_, e⟩ | ⟨_, e⟩
  · exact dk_X15_isPosition_71 ko_5 e
  · replace e := cl_s e
    obtain ⟨o_7, eo_7, e⟩ := e
    have ko_7 : DyK n g o_7.2 := dk_X15_readSide ko_5 eo_7
    replace e := br_s e
    rcases e with ⟨_, e⟩ | ⟨_, e⟩
    · exact dk_X15_isPosition_71 ko_7 e
    · replace e := cl_s e
      obtain ⟨o_9, eo_9, e⟩ := e
      have ko_9 : DyK n g o_9.2 := dk_X15_readRights ko_7 eo_9
      replace e := br_s e
      rcases e with ⟨_, e⟩ | ⟨_, e⟩
      · exact dk_X15_isPosition_71 ko_9 e
      · replace e := cl_s e
        obtain ⟨o_11, eo_11, e⟩ := e
        have ko_11 : DyK n g o_11.2 := dk_X15_readPass ko_9 eo_11
        replace e := br_s e
        rcases e with ⟨_, e⟩ | ⟨_, e⟩
        · exact dk_X15_isPosition_71 ko_11 e
        · replace e := cl_s e
          obtain ⟨o_13, eo_13, e⟩ := e
          have ko_13 : DyK n g o_13.2 := dk_X15_readHands ko_11 eo_13
          replace e := br_s e
          rcases e with ⟨_, e⟩ | ⟨_, e⟩
          · exact dk_X15_isPosition_71 ko_13 e
          · replace e := cl_s e
            obtain ⟨o_15, eo_15, e⟩ := e
            have ko_15 : DyK n g o_15.2 := dk_X15_readRest ko_13 eo_15
            replace e := br_s e
            rcases e with ⟨_, e⟩ | ⟨_, e⟩
            · exact dk_X15_isPosition_71 ko_15 e
            · exact dk_X15_isPosition_72 ko_15 e
theorem dk_X15_wrongOf_231 {n : Nat} {g : Hp} {F : Nat} {o : Int32 × Hp} {h : Hp} (k : DyK n g h) (e : sX15_wrongOf_231 F h = some o) : DyK n g o.2 := by
  unfold sX15_wrongOf_231 at e
  rw [← Option.some.inj e]; exact k
theorem dk_X15_royalOf_49 {n : Nat} {g : Hp} {F : Nat} {o : Int32 × Hp} {h : Hp} (k : DyK n g h) (e : sX15_royalOf_49 F h = some o) : DyK n g o.2 := by
  unfold sX15_royalOf_49 at e
  rw [← Option.some.inj e]; exact k
theorem dk_X15_royalOf_2 {n : Nat} {g : Hp} {F : Nat} {o : Int32 × Hp} : ∀ (f : Nat) {h : Hp} {x0 : Nat} {x1 : Nat} {x2 : Int32} {x3 : Int32}, DyK n g h → sX15_royalOf_2 F f h x0 x1 x2 x3 = some o → DyK n g o.2 := by
  intro f
  induction f with
  | zero => intro h x0 x1 x2 x3 _ e; exact absurd e (by rw [sX15_royalOf_2]; exact fun z => nomatch z)
  | succ f ih =>
    intro h x0 x1 x2 x3 k e
    rw [sX15_royalOf_2] at e
    replace e := br_s e
    rcases e with ⟨_, e⟩ | ⟨_, e⟩
    · exact dk_X15_royalOf_49 k e
    · replace e := cl_s e
      obtain ⟨r_2, _, e⟩ := e
      replace e := br_s e
      rcases e with ⟨_, e⟩ | ⟨_, e⟩
      · exact dk_X15_royalOf_49 k e
      · replace e := cl_s e
        obtain ⟨r_4, _, e⟩ := e
        replace e := (gd_s e).2
        replace e := cl_s e
        obtain ⟨r_6, _, e⟩ := e
        replace e := cl_s e
        obtain ⟨o_7, eo_7, e⟩ := e
        have ko_7 : DyK n g o_7.2 := dk_X15_valueOf k eo_7
        replace e := br_s e
        rcases e with ⟨_, e⟩ | ⟨_, e⟩
        · rw [← Option.some.inj e]; exact ko_7
        · replace e := nm_s e
          obtain ⟨v_9, wv_9, e⟩ := e
          exact ih ko_7 e
theorem dk_X15_royalOf {n : Nat} {g : Hp} {F : Nat} {o : Int32 × Hp} {x0 : Nat} {x1 : Nat} {x2 : Int32} {h : Hp} (k : DyK n g h) (e : sX15_royalOf F h x0 x1 x2 = some o) : DyK n g o.2 := by
  unfold sX15_royalOf at e
  exact dk_X15_royalOf_2 F k e
theorem dk_X15_wrongOf_404 {n : Nat} {g : Hp} {F : Nat} {o : Int32 × Hp} {h : Hp} (k : DyK n g h) (e : sX15_wrongOf_404 F h = some o) : DyK n g o.2 := by
  unfold sX15_wrongOf_404 at e
  rw [← Option.some.inj e]; exact k
theorem dk_X15_wrongOf_368 {n : Nat} {g : Hp} {F : Nat} {o : Int32 × Hp} : ∀ (f : Nat) {h : Hp} {x0 : Nat} {x1 : Nat} {x5 : Int32}, DyK n g h → sX15_wrongOf_368 F f h x0 x1 x5 = some o → DyK n g o.2 := by
  intro f
  induction f with
  | zero => intro h x0 x1 x5 _ e; exact absurd e (by rw [sX15_wrongOf_368]; exact fun z => nomatch z)
  | succ f ih =>
    intro h x0 x1 x5 k e
    rw [sX15_wrongOf_368] at e
    replace e := br_s e
    rcases e with ⟨_, e⟩ | ⟨_, e⟩
    · exact dk_X15_wrongOf_404 k e
    · replace e := cl_s e
      obtain ⟨r_2, _, e⟩ := e
      replace e := br_s e
      rcases e with ⟨_, e⟩ | ⟨_, e⟩
      · replace e := cl_s e
        obtain ⟨r_4, _, e⟩ := e
        replace e := (gd_s e).2
        replace e := br_s e
        rcases e with ⟨_, e⟩ | ⟨_, e⟩
        · replace e := nm_s e
          obtain ⟨v_7, wv_7, e⟩ := e
          exact ih k e
        · rw [← Option.some.inj e]; exact k
      · exact dk_X15_wrongOf_404 k e
theorem dk_X15_wrongOf_365 {n : Nat} {g : Hp} {F : Nat} {o : Int32 × Hp} {x0 : Nat} {x1 : Nat} {h : Hp} (k : DyK n g h) (e : sX15_wrongOf_365 F h x0 x1 = some o) : DyK n g o.2 := by
  unfold sX15_wrongOf_365 at e
  exact dk_X15_wrongOf_368 F k e
theorem dk_X15_wrongOf_336 {n : Nat} {g : Hp} {F : Nat} {o : Int32 × Hp} {x0 : Nat} {x1 : Nat} {h : Hp} (k : DyK n g h) (e : sX15_wrongOf_336 F h x0 x1 = some o) : DyK n g o.2 := by
  unfold sX15_wrongOf_336 at e
  replace e := cl_s e
  obtain ⟨r_1, _, e⟩ := e
  replace e := br_s e
  rcases e with ⟨_, e⟩ | ⟨_, e⟩
  · replace e := cl_s e
    obtain ⟨r_3, _, e⟩ := e
    replace e := (gd_s e).2
    replace e := cl_s e
    obtain ⟨r_5, _, e⟩ := e
    replace e := (gd_s e).2
    replace e := br_s e
    rcases e with ⟨_, e⟩ | ⟨_, e⟩
    · exact dk_X15_wrongOf_365 k e
    · rw [← Option.some.inj e]; exact k
  · exact dk_X15_wrongOf_365 k e
theorem dk_X15_isAttacked_56 {n : Nat} {g : Hp} {F : Nat} {o : Int32 × Hp} {x0 : Nat} {x1 : Nat} {x2 : Int32} {x3 : Int32} {x4 : Int32} {k_3 : Hp → Nat → Nat → Int32 → Int32 → Int32 → Option (Int32 × Hp)} (R_3 : ∀ {h : Hp} {y1 : Nat} {y2 : Nat} {y3 : Int32} {y4 : Int32} {y5 : Int32}, DyK n g h → k_3 h y1 y2 y3 y4 y5 = some o → DyK n g o.2) {h : Hp} (k : DyK n g h) (e : sX15_isAttacked_56 F k_3 h x0 x1 x2 x3 x4 = some o) : DyK n g o.2 := by
  unfold sX15_isAttacked_56 at e
  replace e := nm_s e
  obtain ⟨v_1, wv_1, e⟩ := e
  exact R_3 k e
theorem dk_X15_sideOf {n : Nat} {g : Hp} {o : Int32 × Hp} {x0 : Int32} {h : Hp} (k : DyK n g h) (e : sX15_sideOf h x0 = some o) : DyK n g o.2 := by
  unfold sX15_sideOf at e
  rw [← Option.some.inj e]; exact k
theorem dk_X15_manOf {n : Nat} {g : Hp} {o : Int32 × Hp} {x0 : Int32} {h : Hp} (k : DyK n g h) (e : sX15_manOf h x0 = some o) : DyK n g o.2 := by
  unfold sX15_manOf at e
  rw [← Option.some.inj e]; exact k
theorem dk_X15_isFrom_35 {n : Nat} {g : Hp} {o : Int32 × Hp} {t0 : Int32} {h : Hp} (k : DyK n g h) (e : sX15_isFrom_35 h t0 = some o) : DyK n g o.2 := by
  unfold sX15_isFrom_35 at e
  replace e := (gd_s e).2
  rw [← Option.some.inj e]; exact k
theorem dk_X15_isFrom_30 {n : Nat} {g : Hp} {o : Int32 × Hp} {h : Hp} (k : DyK n g h) (e : sX15_isFrom_30 h = some o) : DyK n g o.2 := by
  unfold sX15_isFrom_30 at e
  exact dk_X15_isFrom_35 k e
theorem dk_X15_rankFor_26 {n : Nat} {g : Hp} {o : Int32 × Hp} {t0 : Int32} {h : Hp} (k : DyK n g h) (e : sX15_rankFor_26 h t0 = some o) : DyK n g o.2 := by
  unfold sX15_rankFor_26 at e
  rw [← Option.some.inj e]; exact k
theorem dk_X15_rankFor {n : Nat} {g : Hp} {o : Int32 × Hp} {x0 : Nat} {x1 : Int32} {x2 : Int32} {h : Hp} (k : DyK n g h) (e : sX15_rankFor h x0 x1 x2 = some o) : DyK n g o.2 := by
  unfold sX15_rankFor at e
  replace e := br_s e
  rcases e with ⟨_, e⟩ | ⟨_, e⟩
  · replace e := (gd_s e).2
    exact dk_X15_rankFor_26 k e
  · replace e := (gd_s e).2
    exact dk_X15_rankFor_26 k e
theorem dk_X15_isFrom {n : Nat} {g : Hp} {o : Int32 × Hp} {x0 : Nat} {x1 : Int32} {x2 : Int32} {x3 : Int32} {h : Hp} (k : DyK n g h) (e : sX15_isFrom h x0 x1 x2 x3 = some o) : DyK n g o.2 := by
  unfold sX15_isFrom at e
  replace e := cl_s e
  obtain ⟨r_1, _, e⟩ := e
  replace e := cl_s e
  obtain ⟨r_2, _, e⟩ := e
  replace e := (gd_s e).2
  replace e := br_s e
  rcases e with ⟨_, e⟩ | ⟨_, e⟩
  · exact dk_X15_isFrom_30 k e
  · replace e := cl_s e
    obtain ⟨r_5, _, e⟩ := e
    replace e := cl_s e
    obtain ⟨r_6, _, e⟩ := e
    replace e := (gd_s e).2
    replace e := cl_s e
    obtain ⟨o_8, eo_8, e⟩ := e
    have ko_8 : DyK n g o_8.2 := dk_X15_rankFor k eo_8
    replace e := br_s e
    rcases e with ⟨_, e⟩ | ⟨_, e⟩
    · exact dk_X15_isFrom_30 ko_8 e
    · exact dk_X15_isFrom_35 ko_8 e
theorem dk_X15_attacks_113 {n : Nat} {g : Hp} {F : Nat} {o : Int32 × Hp} {x0 : Nat} {x1 : Nat} {x2 : Int32} {x3 : Int32} {x4 : Int32} {x5 : Int32} {x6 : Int32} {k_9 : Hp → Nat → Nat → Int32 → Int32 → Int32 → Int32 → Int32 → Option (Int32 × Hp)} (R_9 : ∀ {h : Hp} {y1 : Nat} {y2 : Nat} {y3 : Int32} {y4 : Int32} {y5 : Int32} {y6 : Int32} {y7 : Int32}, DyK n g h → k_9 h y1 y2 y3 y4 y5 y6 y7 = some o → DyK n g o.2) {h : Hp} (k : DyK n g h) (e : sX15_attacks_113 F k_9 h x0 x1 x2 x3 x4 x5 x6 = some o) : DyK n g o.2 := by
  unfold sX15_attacks_113 at e
  replace e := nm_s e
  obtain ⟨v_1, wv_1, e⟩ := e
  exact R_9 k e
theorem dk_X15_hasVector_193 {n : Nat} {g : Hp} {o : Int32 × Hp} {t0 : Int32} {h : Hp} (k : DyK n g h) (e : sX15_hasVector_193 h t0 = some o) : DyK n g o.2 := by
  unfold sX15_hasVector_193 at e
  replace e := (gd_s e).2
  rw [← Option.some.inj e]; exact k
theorem dk_X15_hasVector_188 {n : Nat} {g : Hp} {o : Int32 × Hp} {h : Hp} (k : DyK n g h) (e : sX15_hasVector_188 h = some o) : DyK n g o.2 := by
  unfold sX15_hasVector_188 at e
  exact dk_X15_hasVector_193 k e
theorem dk_X15_hasVector_192 {n : Nat} {g : Hp} {o : Int32 × Hp} {h : Hp} (k : DyK n g h) (e : sX15_hasVector_192 h = some o) : DyK n g o.2 := by
  unfold sX15_hasVector_192 at e
  exact dk_X15_hasVector_193 k e
theorem dk_X15_hasVector_170 {n : Nat} {g : Hp} {o : Int32 × Hp} {x4 : Int32} {x5 : Int32} {x6 : Int32} {h : Hp} (k : DyK n g h) (e : sX15_hasVector_170 h x4 x5 x6 = some o) : DyK n g o.2 := by
  unfold sX15_hasVector_170 at e
  replace e := br_s e
  rcases e with ⟨_, e⟩ | ⟨_, e⟩
  · exact dk_X15_hasVector_188 k e
  · replace e := br_s e
    rcases e with ⟨_, e⟩ | ⟨_, e⟩
    · exact dk_X15_hasVector_192 k e
    · exact dk_X15_hasVector_188 k e
theorem dk_X15_hasVector_159 {n : Nat} {g : Hp} {o : Int32 × Hp} {x2 : Int32} {x4 : Int32} {x5 : Int32} {x6 : Int32} {x8 : Int32} {h : Hp} (k : DyK n g h) (e : sX15_hasVector_159 h x2 x4 x5 x6 x8 = some o) : DyK n g o.2 := by
  unfold sX15_hasVector_159 at e
  replace e := br_s e
  rcases e with ⟨_, e⟩ | ⟨_, e⟩
  · exact dk_X15_hasVector_170 k e
  · replace e := br_s e
    rcases e with ⟨_, e⟩ | ⟨_, e⟩
    · exact dk_X15_hasVector_192 k e
    · exact dk_X15_hasVector_170 k e
theorem dk_X15_hasVector_145 {n : Nat} {g : Hp} {o : Int32 × Hp} {x2 : Int32} {x4 : Int32} {x5 : Int32} {x6 : Int32} {x7 : Int32} {x8 : Int32} {t0 : Int32} {t1 : Nat} {h : Hp} (k : DyK n g h) (e : sX15_hasVector_145 h x2 x4 x5 x6 x7 x8 t0 t1 = some o) : DyK n g o.2 := by
  unfold sX15_hasVector_145 at e
  replace e := nm_s e
  obtain ⟨h_1, wh_1, e⟩ := e
  have kh_1 : DyK n g h_1 := by rw [wh_1]; exact dk_wI k
  replace e := br_s e
  rcases e with ⟨_, e⟩ | ⟨_, e⟩
  · exact dk_X15_hasVector_159 kh_1 e
  · replace e := br_s e
    rcases e with ⟨_, e⟩ | ⟨_, e⟩
    · exact dk_X15_hasVector_192 kh_1 e
    · exact dk_X15_hasVector_159 kh_1 e
theorem dk_X15_hasVector_126 {n : Nat} {g : Hp} {o : Int32 × Hp} {x0 : Nat} {x2 : Int32} {x4 : Int32} {x5 : Int32} {x6 : Int32} {x7 : Int32} {x8 : Int32} {t0 : Int32} {t1 : Nat} {h : Hp} (k : DyK n g h) (e : sX15_hasVector_126 h x0 x2 x4 x5 x6 x7 x8 t0 t1 = some o) : DyK n g o.2 := by
  unfold sX15_hasVector_126 at e
  replace e := nm_s e
  obtain ⟨h_1, wh_1, e⟩ := e
  have kh_1 : DyK n g h_1 := by rw [wh_1]; exact dk_wI k
  replace e := br_s e
  rcases e with ⟨_, e⟩ | ⟨_, e⟩
  · exact dk_X15_hasVector_145 kh_1 e
  · exact dk_X15_hasVector_145 kh_1 e
theorem dk_X15_hasVector_108 {n : Nat} {g : Hp} {o : Int32 × Hp} {x0 : Nat} {x2 : Int32} {x4 : Int32} {x5 : Int32} {x6 : Int32} {x7 : Int32} {t0 : Int32} {h : Hp} (k : DyK n g h) (e : sX15_hasVector_108 h x0 x2 x4 x5 x6 x7 t0 = some o) : DyK n g o.2 := by
  unfold sX15_hasVector_108 at e
  replace e := br_s e
  rcases e with ⟨_, e⟩ | ⟨_, e⟩
  · exact dk_X15_hasVector_126 k e
  · exact dk_X15_hasVector_126 k e
theorem dk_X15_hasVector_94 {n : Nat} {g : Hp} {o : Int32 × Hp} {x0 : Nat} {x2 : Int32} {x4 : Int32} {x5 : Int32} {x6 : Int32} {t0 : Int32} {h : Hp} (k : DyK n g h) (e : sX15_hasVector_94 h x0 x2 x4 x5 x6 t0 = some o) : DyK n g o.2 := by
  unfold sX15_hasVector_94 at e
  replace e := br_s e
  rcases e with ⟨_, e⟩ | ⟨_, e⟩
  · exact dk_X15_hasVector_108 k e
  · exact dk_X15_hasVector_108 k e
theorem dk_X15_hasVector_80 {n : Nat} {g : Hp} {o : Int32 × Hp} {x0 : Nat} {x2 : Int32} {x4 : Int32} {x5 : Int32} {t0 : Int32} {h : Hp} (k : DyK n g h) (e : sX15_hasVector_80 h x0 x2 x4 x5 t0 = some o) : DyK n g o.2 := by
  unfold sX15_hasVector_80 at e
  replace e := br_s e
  rcases e with ⟨_, e⟩ | ⟨_, e⟩
  · exact dk_X15_hasVector_94 k e
  · exact dk_X15_hasVector_94 k e
theorem dk_X15_hasVector_68 {n : Nat} {g : Hp} {o : Int32 × Hp} {t0 : Int32} {h : Hp} (k : DyK n g h) (e : sX15_hasVector_68 h t0 = some o) : DyK n g o.2 := by
  unfold sX15_hasVector_68 at e
  replace e := (gd_s e).2
  rw [← Option.some.inj e]; exact k
theorem dk_X15_hasVector_56 {n : Nat} {g : Hp} {o : Int32 × Hp} {x2 : Int32} {t0 : Int32} {t1 : Nat} {h : Hp} (k : DyK n g h) (e : sX15_hasVector_56 h x2 t0 t1 = some o) : DyK n g o.2 := by
  unfold sX15_hasVector_56 at e
  replace e := nm_s e
  obtain ⟨h_1, wh_1, e⟩ := e
  have kh_1 : DyK n g h_1 := by rw [wh_1]; exact dk_wI k
  replace e := br_s e
  rcases e with ⟨_, e⟩ | ⟨_, e⟩
  · exact dk_X15_hasVector_68 kh_1 e
  · exact dk_X15_hasVector_68 kh_1 e
theorem dk_X15_hasVector {n : Nat} {g : Hp} {o : Int32 × Hp} {x0 : Nat} {x1 : Int32} {x2 : Int32} {x3 : Int32} {h : Hp} (k : DyK n g h) (e : sX15_hasVector h x0 x1 x2 x3 = some o) : DyK n g o.2 := by
  unfold sX15_hasVector at e
  replace e := cl_s e
  obtain ⟨r_1, _, e⟩ := e
  replace e := cl_s e
  obtain ⟨r_2, _, e⟩ := e
  replace e := (gd_s e).2
  replace e := nm_s e
  obtain ⟨v_4, wv_4, e⟩ := e
  replace e := cl_s e
  obtain ⟨r_5, _, e⟩ := e
  replace e := cl_s e
  obtain ⟨r_6, _, e⟩ := e
  replace e := (gd_s e).2
  replace e := nm_s e
  obtain ⟨v_8, wv_8, e⟩ := e
  replace e := cl_s e
  obtain ⟨r_9, _, e⟩ := e
  replace e := cl_s e
  obtain ⟨r_10, _, e⟩ := e
  replace e := (gd_s e).2
  replace e := br_s e
  rcases e with ⟨_, e⟩ | ⟨_, e⟩
  · replace e := br_s e
    rcases e with ⟨_, e⟩ | ⟨_, e⟩
    · exact dk_X15_hasVector_80 k e
    · exact dk_X15_hasVector_80 k e
  · replace e := nm_s e
    obtain ⟨h_14, wh_14, e⟩ := e
    have kh_14 : DyK n g h_14 := by rw [wh_14]; exact dk_wI k
    replace e := br_s e
    rcases e with ⟨_, e⟩ | ⟨_, e⟩
    · exact dk_X15_hasVector_56 kh_14 e
    · exact dk_X15_hasVector_56 kh_14 e
theorem dk_X15_attacks_107 {n : Nat} {g : Hp} {F : Nat} {o : Int32 × Hp} {x0 : Nat} {x1 : Nat} {x2 : Int32} {x3 : Int32} {x4 : Int32} {x5 : Int32} {x6 : Int32} {x7 : Int32} {x9 : Int32} {k_9 : Hp → Nat → Nat → Int32 → Int32 → Int32 → Int32 → Int32 → Option (Int32 × Hp)} (R_9 : ∀ {h : Hp} {y1 : Nat} {y2 : Nat} {y3 : Int32} {y4 : Int32} {y5 : Int32} {y6 : Int32} {y7 : Int32}, DyK n g h → k_9 h y1 y2 y3 y4 y5 y6 y7 = some o → DyK n g o.2) {k_70 : Hp → Nat → Nat → Int32 → Int32 → Int32 → Int32 → Int32 → Int32 → Int32 → Option (Int32 × Hp)} (R_70 : ∀ {h : Hp} {y1 : Nat} {y2 : Nat} {y3 : Int32} {y4 : Int32} {y5 : Int32} {y6 : Int32} {y7 : Int32} {y8 : Int32} {y9 : Int32}, DyK n g h → k_70 h y1 y2 y3 y4 y5 y6 y7 y8 y9 = some o → DyK n g o.2) {h : Hp} (k : DyK n g h) (e : sX15_attacks_107 F k_9 k_70 h x0 x1 x2 x3 x4 x5 x6 x7 x9 = some o) : DyK n g o.2 := by
  unfold sX15_attacks_107 at e
  replace e := nm_s e
  obtain ⟨v_1, wv_1, e⟩ := e
  exact R_70 k e
theorem dk_X15_onward_68 {n : Nat} {g : Hp} {o : Int32 × Hp} {t0 : Int32} {h : Hp} (k : DyK n g h) (e : sX15_onward_68 h t0 = some o) : DyK n g o.2 := by
  unfold sX15_onward_68 at e
  rw [← Option.some.inj e]; exact k
theorem dk_X15_onward_55 {n : Nat} {g : Hp} {o : Int32 × Hp} {h : Hp} (k : DyK n g h) (e : sX15_onward_55 h = some o) : DyK n g o.2 := by
  unfold sX15_onward_55 at e
  exact dk_X15_onward_68 k e
theorem dk_X15_onward {n : Nat} {g : Hp} {o : Int32 × Hp} {x0 : Nat} {x1 : Int32} {x2 : Int32} {h : Hp} (k : DyK n g h) (e : sX15_onward h x0 x1 x2 = some o) : DyK n g o.2 := by
  unfold sX15_onward at e
  replace e := (gd_s e).2
  replace e := nm_s e
  obtain ⟨v_2, wv_2, e⟩ := e
  replace e := (gd_s e).2
  replace e := nm_s e
  obtain ⟨v_4, wv_4, e⟩ := e
  replace e := br_s e
  rcases e with ⟨_, e⟩ | ⟨_, e⟩
  · exact dk_X15_onward_55 k e
  · replace e := br_s e
    rcases e with ⟨_, e⟩ | ⟨_, e⟩
    · exact dk_X15_onward_55 k e
    · replace e := br_s e
      rcases e with ⟨_, e⟩ | ⟨_, e⟩
      · exact dk_X15_onward_55 k e
      · replace e := br_s e
        rcases e with ⟨_, e⟩ | ⟨_, e⟩
        · exact dk_X15_onward_68 k e
        · exact dk_X15_onward_55 k e
theorem dk_X15_reaches_42 {n : Nat} {g : Hp} {F : Nat} {o : Int32 × Hp} {h : Hp} (k : DyK n g h) (e : sX15_reaches_42 F h = some o) : DyK n g o.2 := by
  unfold sX15_reaches_42 at e
  rw [← Option.some.inj e]; exact k
theorem dk_X15_isFree_29 {n : Nat} {g : Hp} {o : Int32 × Hp} {t0 : Int32} {h : Hp} (k : DyK n g h) (e : sX15_isFree_29 h t0 = some o) : DyK n g o.2 := by
  unfold sX15_isFree_29 at e
  replace e := (gd_s e).2
  rw [← Option.some.inj e]; exact k
theorem dk_X15_isFree {n : Nat} {g : Hp} {o : Int32 × Hp} {x0 : Int32} {x1 : Int32} {h : Hp} (k : DyK n g h) (e : sX15_isFree h x0 x1 = some o) : DyK n g o.2 := by
  unfold sX15_isFree at e
  replace e := br_s e
  rcases e with ⟨_, e⟩ | ⟨_, e⟩
  · replace e := br_s e
    rcases e with ⟨_, e⟩ | ⟨_, e⟩
    · exact dk_X15_isFree_29 k e
    · exact dk_X15_isFree_29 k e
  · replace e := br_s e
    rcases e with ⟨_, e⟩ | ⟨_, e⟩
    · exact dk_X15_isFree_29 k e
    · exact dk_X15_isFree_29 k e
theorem dk_X15_reaches_83 {n : Nat} {g : Hp} {F : Nat} {o : Int32 × Hp} {x0 : Nat} {x1 : Nat} {x2 : Int32} {x3 : Int32} {x4 : Int32} {x6 : Int32} {t0 : Int32} {t1 : Int32} {k_6 : Hp → Nat → Nat → Int32 → Int32 → Int32 → Int32 → Int32 → Option (Int32 × Hp)} (R_6 : ∀ {h : Hp} {y1 : Nat} {y2 : Nat} {y3 : Int32} {y4 : Int32} {y5 : Int32} {y6 : Int32} {y7 : Int32}, DyK n g h → k_6 h y1 y2 y3 y4 y5 y6 y7 = some o → DyK n g o.2) {h : Hp} (k : DyK n g h) (e : sX15_reaches_83 F k_6 h x0 x1 x2 x3 x4 x6 t0 t1 = some o) : DyK n g o.2 := by
  unfold sX15_reaches_83 at e
  replace e := nm_s e
  obtain ⟨v_1, wv_1, e⟩ := e
  replace e := nm_s e
  obtain ⟨v_2, wv_2, e⟩ := e
  exact R_6 k e
theorem dk_X15_reaches_6 {n : Nat} {g : Hp} {F : Nat} {o : Int32 × Hp} : ∀ (f : Nat) {h : Hp} {x0 : Nat} {x1 : Nat} {x2 : Int32} {x3 : Int32} {x4 : Int32} {x5 : Int32} {x6 : Int32}, DyK n g h → sX15_reaches_6 F f h x0 x1 x2 x3 x4 x5 x6 = some o → DyK n g o.2 := by
  intro f
  induction f with
  | zero => intro h x0 x1 x2 x3 x4 x5 x6 _ e; exact absurd e (by rw [sX15_reaches_6]; exact fun z => nomatch z)
  | succ f ih =>
    intro h x0 x1 x2 x3 x4 x5 x6 k e
    rw [sX15_reaches_6] at e
    replace e := cl_s e
    obtain ⟨r_1, _, e⟩ := e
    replace e := cl_s e
    obtain ⟨r_2, _, e⟩ := e
    replace e := (gd_s e).2
    replace e := br_s e
    rcases e with ⟨_, e⟩ | ⟨_, e⟩
    · rw [← Option.some.inj e]; exact k
    · replace e := cl_s e
      obtain ⟨o_5, eo_5, e⟩ := e
      have ko_5 : DyK n g o_5.2 := dk_X15_onward k eo_5
      replace e := br_s e
      rcases e with ⟨_, e⟩ | ⟨_, e⟩
      · exact dk_X15_reaches_42 ko_5 e
      · replace e := br_s e
        rcases e with ⟨_, e⟩ | ⟨_, e⟩
        · replace e := br_s e
          rcases e with ⟨_, e⟩ | ⟨_, e⟩
          · replace e := cl_s e
            obtain ⟨r_12, _, e⟩ := e
            replace e := cl_s e
            obtain ⟨r_13, _, e⟩ := e
            replace e := (gd_s e).2
            replace e := cl_s e
            obtain ⟨o_15, eo_15, e⟩ := e
            have ko_15 : DyK n g o_15.2 := dk_X15_isFree ko_5 eo_15
            replace e := (gd_s e).2
            rw [← Option.some.inj e]; exact ko_15
          · replace e := cl_s e
            obtain ⟨r_9, _, e⟩ := e
            replace e := (gd_s e).2
            replace e := br_s e
            rcases e with ⟨_, e⟩ | ⟨_, e⟩
            · exact dk_X15_reaches_83 (fun k e => ih k e) ko_5 e
            · exact dk_X15_reaches_83 (fun k e => ih k e) ko_5 e
        · exact dk_X15_reaches_42 ko_5 e
theorem dk_X15_reaches {n : Nat} {g : Hp} {F : Nat} {o : Int32 × Hp} {x0 : Nat} {x1 : Nat} {x2 : Int32} {x3 : Int32} {x4 : Int32} {h : Hp} (k : DyK n g h) (e : sX15_reaches F h x0 x1 x2 x3 x4 = some o) : DyK n g o.2 := by
  unfold sX15_reaches at e
  exact dk_X15_reaches_6 F k e
theorem dk_X15_attacks_70 {n : Nat} {g : Hp} {F : Nat} {o : Int32 × Hp} {k_9 : Hp → Nat → Nat → Int32 → Int32 → Int32 → Int32 → Int32 → Option (Int32 × Hp)} (R_9 : ∀ {h : Hp} {y1 : Nat} {y2 : Nat} {y3 : Int32} {y4 : Int32} {y5 : Int32} {y6 : Int32} {y7 : Int32}, DyK n g h → k_9 h y1 y2 y3 y4 y5 y6 y7 = some o → DyK n g o.2) : ∀ (f : Nat) {h : Hp} {x0 : Nat} {x1 : Nat} {x2 : Int32} {x3 : Int32} {x4 : Int32} {x5 : Int32} {x6 : Int32} {x7 : Int32} {x9 : Int32}, DyK n g h → sX15_attacks_70 F k_9 f h x0 x1 x2 x3 x4 x5 x6 x7 x9 = some o → DyK n g o.2 := by
  intro f
  induction f with
  | zero => intro h x0 x1 x2 x3 x4 x5 x6 x7 x9 _ e; exact absurd e (by rw [sX15_attacks_70]; exact fun z => nomatch z)
  | succ f ih =>
    intro h x0 x1 x2 x3 x4 x5 x6 x7 x9 k e
    rw [sX15_attacks_70] at e
    replace e := br_s e
    rcases e with ⟨_, e⟩ | ⟨_, e⟩
    · exact dk_X15_attacks_113 R_9 k e
    · replace e := cl_s e
      obtain ⟨o_2, eo_2, e⟩ := e
      have ko_2 : DyK n g o_2.2 := dk_X15_sideOf k eo_2
      replace e := cl_s e
      obtain ⟨o_3, eo_3, e⟩ := e
      have ko_3 : DyK n g o_3.2 := dk_X15_hasVector ko_2 eo_3
      replace e := br_s e
      rcases e with ⟨_, e⟩ | ⟨_, e⟩
      · exact dk_X15_attacks_107 R_9 (fun k e => ih k e) ko_3 e
      · replace e := cl_s e
        obtain ⟨o_5, eo_5, e⟩ := e
        have ko_5 : DyK n g o_5.2 := dk_X15_reaches ko_3 eo_5
        replace e := br_s e
        rcases e with ⟨_, e⟩ | ⟨_, e⟩
        · exact dk_X15_attacks_107 R_9 (fun k e => ih k e) ko_5 e
        · rw [← Option.some.inj e]; exact ko_5
theorem dk_X15_attacks_9 {n : Nat} {g : Hp} {F : Nat} {o : Int32 × Hp} : ∀ (f : Nat) {h : Hp} {x0 : Nat} {x1 : Nat} {x2 : Int32} {x3 : Int32} {x4 : Int32} {x5 : Int32} {x6 : Int32}, DyK n g h → sX15_attacks_9 F f h x0 x1 x2 x3 x4 x5 x6 = some o → DyK n g o.2 := by
  intro f
  induction f with
  | zero => intro h x0 x1 x2 x3 x4 x5 x6 _ e; exact absurd e (by rw [sX15_attacks_9]; exact fun z => nomatch z)
  | succ f ih =>
    intro h x0 x1 x2 x3 x4 x5 x6 k e
    rw [sX15_attacks_9] at e
    replace e := cl_s e
    obtain ⟨r_1, _, e⟩ := e
    replace e := cl_s e
    obtain ⟨r_2, _, e⟩ := e
    replace e := (gd_s e).2
    replace e := br_s e
    rcases e with ⟨_, e⟩ | ⟨_, e⟩
    · rw [← Option.some.inj e]; exact k
    · replace e := nm_s e
      obtain ⟨v_5, wv_5, e⟩ := e
      replace e := cl_s e
      obtain ⟨r_6, _, e⟩ := e
      replace e := cl_s e
      obtain ⟨r_7, _, e⟩ := e
      replace e := (gd_s e).2
      replace e := nm_s e
      obtain ⟨v_9, wv_9, e⟩ := e
      replace e := br_s e
      rcases e with ⟨_, e⟩ | ⟨_, e⟩
      · replace e := cl_s e
        obtain ⟨o_11, eo_11, e⟩ := e
        have ko_11 : DyK n g o_11.2 := dk_X15_sideOf k eo_11
        replace e := cl_s e
        obtain ⟨o_12, eo_12, e⟩ := e
        have ko_12 : DyK n g o_12.2 := dk_X15_isFrom ko_11 eo_12
        replace e := br_s e
        rcases e with ⟨_, e⟩ | ⟨_, e⟩
        · exact dk_X15_attacks_113 (fun k e => ih k e) ko_12 e
        · exact dk_X15_attacks_70 (fun k e => ih k e) F ko_12 e
      · exact dk_X15_attacks_113 (fun k e => ih k e) k e
theorem dk_X15_attacks {n : Nat} {g : Hp} {F : Nat} {o : Int32 × Hp} {x0 : Nat} {x1 : Nat} {x2 : Int32} {x3 : Int32} {x4 : Int32} {h : Hp} (k : DyK n g h) (e : sX15_attacks F h x0 x1 x2 x3 x4 = some o) : DyK n g o.2 := by
  unfold sX15_attacks at e
  replace e := cl_s e
  obtain ⟨o_1, eo_1, e⟩ := e
  have ko_1 : DyK n g o_1.2 := dk_X15_manOf k eo_1
  exact dk_X15_attacks_9 F ko_1 e
theorem dk_X15_isAttacked_3 {n : Nat} {g : Hp} {F : Nat} {o : Int32 × Hp} : ∀ (f : Nat) {h : Hp} {x0 : Nat} {x1 : Nat} {x2 : Int32} {x3 : Int32} {x4 : Int32}, DyK n g h → sX15_isAttacked_3 F f h x0 x1 x2 x3 x4 = some o → DyK n g o.2 := by
  intro f
  induction f with
  | zero => intro h x0 x1 x2 x3 x4 _ e; exact absurd e (by rw [sX15_isAttacked_3]; exact fun z => nomatch z)
  | succ f ih =>
    intro h x0 x1 x2 x3 x4 k e
    rw [sX15_isAttacked_3] at e
    replace e := br_s e
    rcases e with ⟨_, e⟩ | ⟨_, e⟩
    · rw [← Option.some.inj e]; exact k
    · replace e := cl_s e
      obtain ⟨r_2, _, e⟩ := e
      replace e := (gd_s e).2
      replace e := nm_s e
      obtain ⟨v_4, wv_4, e⟩ := e
      replace e := br_s e
      rcases e with ⟨_, e⟩ | ⟨_, e⟩
      · exact dk_X15_isAttacked_56 (fun k e => ih k e) k e
      · replace e := cl_s e
        obtain ⟨o_6, eo_6, e⟩ := e
        have ko_6 : DyK n g o_6.2 := dk_X15_sideOf k eo_6
        replace e := br_s e
        rcases e with ⟨_, e⟩ | ⟨_, e⟩
        · replace e := br_s e
          rcases e with ⟨_, e⟩ | ⟨_, e⟩
          · exact dk_X15_isAttacked_56 (fun k e => ih k e) ko_6 e
          · replace e := cl_s e
            obtain ⟨o_9, eo_9, e⟩ := e
            have ko_9 : DyK n g o_9.2 := dk_X15_attacks ko_6 eo_9
            replace e := br_s e
            rcases e with ⟨_, e⟩ | ⟨_, e⟩
            · exact dk_X15_isAttacked_56 (fun k e => ih k e) ko_9 e
            · rw [← Option.some.inj e]; exact ko_9
        · exact dk_X15_isAttacked_56 (fun k e => ih k e) ko_6 e
theorem dk_X15_isAttacked {n : Nat} {g : Hp} {F : Nat} {o : Int32 × Hp} {x0 : Nat} {x1 : Nat} {x2 : Int32} {x3 : Int32} {h : Hp} (k : DyK n g h) (e : sX15_isAttacked F h x0 x1 x2 x3 = some o) : DyK n g o.2 := by
  unfold sX15_isAttacked at e
  exact dk_X15_isAttacked_3 F k e
theorem dk_X15_wrongOf_300 {n : Nat} {g : Hp} {F : Nat} {o : Int32 × Hp} {x0 : Nat} {x1 : Nat} {h : Hp} (k : DyK n g h) (e : sX15_wrongOf_300 F h x0 x1 = some o) : DyK n g o.2 := by
  unfold sX15_wrongOf_300 at e
  replace e := cl_s e
  obtain ⟨o_1, eo_1, e⟩ := e
  have ko_1 : DyK n g o_1.2 := dk_X15_royalOf k eo_1
  replace e := br_s e
  rcases e with ⟨_, e⟩ | ⟨_, e⟩
  · exact dk_X15_wrongOf_336 ko_1 e
  · replace e := cl_s e
    obtain ⟨o_3, eo_3, e⟩ := e
    have ko_3 : DyK n g o_3.2 := dk_X15_isAttacked ko_1 eo_3
    replace e := br_s e
    rcases e with ⟨_, e⟩ | ⟨_, e⟩
    · exact dk_X15_wrongOf_336 ko_3 e
    · rw [← Option.some.inj e]; exact ko_3
theorem dk_X15_isPass_29 {n : Nat} {g : Hp} {F : Nat} {o : Int32 × Hp} {h : Hp} (k : DyK n g h) (e : sX15_isPass_29 F h = some o) : DyK n g o.2 := by
  unfold sX15_isPass_29 at e
  rw [← Option.some.inj e]; exact k
theorem dk_X15_isPass_164 {n : Nat} {g : Hp} {F : Nat} {o : Int32 × Hp} {x0 : Nat} {x1 : Nat} {x2 : Int32} {x3 : Int32} {x4 : Int32} {x5 : Int32} {k_75 : Hp → Nat → Nat → Int32 → Int32 → Int32 → Int32 → Option (Int32 × Hp)} (R_75 : ∀ {h : Hp} {y1 : Nat} {y2 : Nat} {y3 : Int32} {y4 : Int32} {y5 : Int32} {y6 : Int32}, DyK n g h → k_75 h y1 y2 y3 y4 y5 y6 = some o → DyK n g o.2) {h : Hp} (k : DyK n g h) (e : sX15_isPass_164 F k_75 h x0 x1 x2 x3 x4 x5 = some o) : DyK n g o.2 := by
  unfold sX15_isPass_164 at e
  replace e := nm_s e
  obtain ⟨v_1, wv_1, e⟩ := e
  exact R_75 k e
theorem dk_X15_isPass_158 {n : Nat} {g : Hp} {F : Nat} {o : Int32 × Hp} {x0 : Nat} {x1 : Nat} {x2 : Int32} {x3 : Int32} {x4 : Int32} {x5 : Int32} {x6 : Int32} {x7 : Int32} {k_75 : Hp → Nat → Nat → Int32 → Int32 → Int32 → Int32 → Option (Int32 × Hp)} (R_75 : ∀ {h : Hp} {y1 : Nat} {y2 : Nat} {y3 : Int32} {y4 : Int32} {y5 : Int32} {y6 : Int32}, DyK n g h → k_75 h y1 y2 y3 y4 y5 y6 = some o → DyK n g o.2) {k_107 : Hp → Nat → Nat → Int32 → Int32 → Int32 → Int32 → Int32 → Int32 → Option (Int32 × Hp)} (R_107 : ∀ {h : Hp} {y1 : Nat} {y2 : Nat} {y3 : Int32} {y4 : Int32} {y5 : Int32} {y6 : Int32} {y7 : Int32} {y8 : Int32}, DyK n g h → k_107 h y1 y2 y3 y4 y5 y6 y7 y8 = some o → DyK n g o.2) {h : Hp} (k : DyK n g h) (e : sX15_isPass_158 F k_75 k_107 h x0 x1 x2 x3 x4 x5 x6 x7 = some o) : DyK n g o.2 := by
  unfold sX15_isPass_158 at e
  replace e := nm_s e
  obtain ⟨v_1, wv_1, e⟩ := e
  exact R_107 k e
theorem dk_X15_isPassBy_81 {n : Nat} {g : Hp} {F : Nat} {o : Int32 × Hp} {h : Hp} (k : DyK n g h) (e : sX15_isPassBy_81 F h = some o) : DyK n g o.2 := by
  unfold sX15_isPassBy_81 at e
  rw [← Option.some.inj e]; exact k
theorem dk_X15_isPassBy_86 {n : Nat} {g : Hp} {F : Nat} {o : Int32 × Hp} : ∀ (f : Nat) {h : Hp} {x0 : Nat} {x1 : Nat} {x5 : Int32} {x6 : Int32} {x7 : Int32}, DyK n g h → sX15_isPassBy_86 F f h x0 x1 x5 x6 x7 = some o → DyK n g o.2 := by
  intro f
  induction f with
  | zero => intro h x0 x1 x5 x6 x7 _ e; exact absurd e (by rw [sX15_isPassBy_86]; exact fun z => nomatch z)
  | succ f ih =>
    intro h x0 x1 x5 x6 x7 k e
    rw [sX15_isPassBy_86] at e
    replace e := br_s e
    rcases e with ⟨_, e⟩ | ⟨_, e⟩
    · rw [← Option.some.inj e]; exact k
    · replace e := cl_s e
      obtain ⟨o_2, eo_2, e⟩ := e
      have ko_2 : DyK n g o_2.2 := dk_X15_onward k eo_2
      replace e := cl_s e
      obtain ⟨r_3, _, e⟩ := e
      replace e := (gd_s e).2
      replace e := br_s e
      rcases e with ⟨_, e⟩ | ⟨_, e⟩
      · replace e := nm_s e
        obtain ⟨v_6, wv_6, e⟩ := e
        exact ih ko_2 e
      · rw [← Option.some.inj e]; exact ko_2
theorem dk_X15_isPassBy_83 {n : Nat} {g : Hp} {F : Nat} {o : Int32 × Hp} {x0 : Nat} {x1 : Nat} {x5 : Int32} {x6 : Int32} {h : Hp} (k : DyK n g h) (e : sX15_isPassBy_83 F h x0 x1 x5 x6 = some o) : DyK n g o.2 := by
  unfold sX15_isPassBy_83 at e
  exact dk_X15_isPassBy_86 F k e
theorem dk_X15_isPassBy {n : Nat} {g : Hp} {F : Nat} {o : Int32 × Hp} {x0 : Nat} {x1 : Nat} {x2 : Int32} {x3 : Int32} {x4 : Int32} {h : Hp} (k : DyK n g h) (e : sX15_isPassBy F h x0 x1 x2 x3 x4 = some o) : DyK n g o.2 := by
  unfold sX15_isPassBy at e
  replace e := nm_s e
  obtain ⟨v_1, wv_1, e⟩ := e
  replace e := cl_s e
  obtain ⟨r_2, _, e⟩ := e
  replace e := cl_s e
  obtain ⟨r_3, _, e⟩ := e
  replace e := (gd_s e).2
  replace e := br_s e
  rcases e with ⟨_, e⟩ | ⟨_, e⟩
  · replace e := cl_s e
    obtain ⟨o_6, eo_6, e⟩ := e
    have ko_6 : DyK n g o_6.2 := dk_X15_onward k eo_6
    replace e := br_s e
    rcases e with ⟨_, e⟩ | ⟨_, e⟩
    · exact dk_X15_isPassBy_81 ko_6 e
    · replace e := cl_s e
      obtain ⟨r_8, _, e⟩ := e
      replace e := (gd_s e).2
      replace e := br_s e
      rcases e with ⟨_, e⟩ | ⟨_, e⟩
      · exact dk_X15_isPassBy_81 ko_6 e
      · replace e := cl_s e
        obtain ⟨r_11, _, e⟩ := e
        replace e := cl_s e
        obtain ⟨r_12, _, e⟩ := e
        replace e := (gd_s e).2
        replace e := br_s e
        rcases e with ⟨_, e⟩ | ⟨_, e⟩
        · exact dk_X15_isPassBy_83 ko_6 e
        · replace e := cl_s e
          obtain ⟨o_15, eo_15, e⟩ := e
          have ko_15 : DyK n g o_15.2 := dk_X15_rankFor ko_6 eo_15
          replace e := cl_s e
          obtain ⟨r_16, _, e⟩ := e
          replace e := cl_s e
          obtain ⟨r_17, _, e⟩ := e
          replace e := (gd_s e).2
          replace e := br_s e
          rcases e with ⟨_, e⟩ | ⟨_, e⟩
          · exact dk_X15_isPassBy_83 ko_15 e
          · exact dk_X15_isPassBy_81 ko_15 e
  · rw [← Option.some.inj e]; exact k
theorem dk_X15_isPass_107 {n : Nat} {g : Hp} {F : Nat} {o : Int32 × Hp} {k_75 : Hp → Nat → Nat → Int32 → Int32 → Int32 → Int32 → Option (Int32 × Hp)} (R_75 : ∀ {h : Hp} {y1 : Nat} {y2 : Nat} {y3 : Int32} {y4 : Int32} {y5 : Int32} {y6 : Int32}, DyK n g h → k_75 h y1 y2 y3 y4 y5 y6 = some o → DyK n g o.2) : ∀ (f : Nat) {h : Hp} {x0 : Nat} {x1 : Nat} {x2 : Int32} {x3 : Int32} {x4 : Int32} {x5 : Int32} {x6 : Int32} {x7 : Int32}, DyK n g h → sX15_isPass_107 F k_75 f h x0 x1 x2 x3 x4 x5 x6 x7 = some o → DyK n g o.2 := by
  intro f
  induction f with
  | zero => intro h x0 x1 x2 x3 x4 x5 x6 x7 _ e; exact absurd e (by rw [sX15_isPass_107]; exact fun z => nomatch z)
  | succ f ih =>
    intro h x0 x1 x2 x3 x4 x5 x6 x7 k e
    rw [sX15_isPass_107] at e
    replace e := br_s e
    rcases e with ⟨_, e⟩ | ⟨_, e⟩
    · exact dk_X15_isPass_164 R_75 k e
    · replace e := cl_s e
      obtain ⟨r_2, _, e⟩ := e
      replace e := cl_s e
      obtain ⟨r_3, _, e⟩ := e
      replace e := (gd_s e).2
      replace e := br_s e
      rcases e with ⟨_, e⟩ | ⟨_, e⟩
      · exact dk_X15_isPass_164 R_75 k e
      · replace e := cl_s e
        obtain ⟨o_6, eo_6, e⟩ := e
        have ko_6 : DyK n g o_6.2 := dk_X15_hasVector k eo_6
        replace e := br_s e
        rcases e with ⟨_, e⟩ | ⟨_, e⟩
        · exact dk_X15_isPass_158 R_75 (fun k e => ih k e) ko_6 e
        · replace e := cl_s e
          obtain ⟨o_8, eo_8, e⟩ := e
          have ko_8 : DyK n g o_8.2 := dk_X15_isPassBy ko_6 eo_8
          replace e := br_s e
          rcases e with ⟨_, e⟩ | ⟨_, e⟩
          · exact dk_X15_isPass_158 R_75 (fun k e => ih k e) ko_8 e
          · rw [← Option.some.inj e]; exact ko_8
theorem dk_X15_isPass_75 {n : Nat} {g : Hp} {F : Nat} {o : Int32 × Hp} : ∀ (f : Nat) {h : Hp} {x0 : Nat} {x1 : Nat} {x2 : Int32} {x3 : Int32} {x4 : Int32} {x5 : Int32}, DyK n g h → sX15_isPass_75 F f h x0 x1 x2 x3 x4 x5 = some o → DyK n g o.2 := by
  intro f
  induction f with
  | zero => intro h x0 x1 x2 x3 x4 x5 _ e; exact absurd e (by rw [sX15_isPass_75]; exact fun z => nomatch z)
  | succ f ih =>
    intro h x0 x1 x2 x3 x4 x5 k e
    rw [sX15_isPass_75] at e
    replace e := cl_s e
    obtain ⟨r_1, _, e⟩ := e
    replace e := cl_s e
    obtain ⟨r_2, _, e⟩ := e
    replace e := cl_s e
    obtain ⟨o_3, eo_3, e⟩ := e
    have ko_3 : DyK n g o_3.2 := dk_X15_manOf k eo_3
    replace e := (gd_s e).2
    replace e := br_s e
    rcases e with ⟨_, e⟩ | ⟨_, e⟩
    · rw [← Option.some.inj e]; exact ko_3
    · replace e := cl_s e
      obtain ⟨o_6, eo_6, e⟩ := e
      have ko_6 : DyK n g o_6.2 := dk_X15_manOf ko_3 eo_6
      replace e := nm_s e
      obtain ⟨v_7, wv_7, e⟩ := e
      exact dk_X15_isPass_107 (fun k e => ih k e) F ko_6 e
theorem dk_X15_isPass_34 {n : Nat} {g : Hp} {F : Nat} {o : Int32 × Hp} : ∀ (f : Nat) {h : Hp} {x0 : Nat} {x1 : Nat} {x2 : Int32} {x3 : Int32} {x4 : Int32}, DyK n g h → sX15_isPass_34 F f h x0 x1 x2 x3 x4 = some o → DyK n g o.2 := by
  intro f
  induction f with
  | zero => intro h x0 x1 x2 x3 x4 _ e; exact absurd e (by rw [sX15_isPass_34]; exact fun z => nomatch z)
  | succ f ih =>
    intro h x0 x1 x2 x3 x4 k e
    rw [sX15_isPass_34] at e
    replace e := br_s e
    rcases e with ⟨_, e⟩ | ⟨_, e⟩
    · replace e := cl_s e
      obtain ⟨o_2, eo_2, e⟩ := e
      have ko_2 : DyK n g o_2.2 := dk_X15_sideOf k eo_2
      exact dk_X15_isPass_75 F ko_2 e
    · replace e := cl_s e
      obtain ⟨r_3, _, e⟩ := e
      replace e := cl_s e
      obtain ⟨r_4, _, e⟩ := e
      replace e := (gd_s e).2
      replace e := (gd_s e).2
      replace e := br_s e
      rcases e with ⟨_, e⟩ | ⟨_, e⟩
      · replace e := nm_s e
        obtain ⟨v_8, wv_8, e⟩ := e
        exact ih k e
      · rw [← Option.some.inj e]; exact k
theorem dk_X15_isPass {n : Nat} {g : Hp} {F : Nat} {o : Int32 × Hp} {x0 : Nat} {x1 : Nat} {h : Hp} (k : DyK n g h) (e : sX15_isPass F h x0 x1 = some o) : DyK n g o.2 := by
  unfold sX15_isPass at e
  replace e := cl_s e
  obtain ⟨r_1, _, e⟩ := e
  replace e := (gd_s e).2
  replace e := nm_s e
  obtain ⟨v_3, wv_3, e⟩ := e
  replace e := cl_s e
  obtain ⟨r_4, _, e⟩ := e
  replace e := (gd_s e).2
  replace e := nm_s e
  obtain ⟨v_6, wv_6, e⟩ := e
  replace e := br_s e
  rcases e with ⟨_, e⟩ | ⟨_, e⟩
  · exact dk_X15_isPass_29 k e
  · replace e := cl_s e
    obtain ⟨o_8, eo_8, e⟩ := e
    have ko_8 : DyK n g o_8.2 := dk_X15_sideOf k eo_8
    replace e := br_s e
    rcases e with ⟨_, e⟩ | ⟨_, e⟩
    · exact dk_X15_isPass_29 ko_8 e
    · exact dk_X15_isPass_34 F ko_8 e
theorem dk_X15_isRight_49 {n : Nat} {g : Hp} {F : Nat} {o : Int32 × Hp} {h : Hp} (k : DyK n g h) (e : sX15_isRight_49 F h = some o) : DyK n g o.2 := by
  unfold sX15_isRight_49 at e
  rw [← Option.some.inj e]; exact k
theorem dk_X15_isRight_87 {n : Nat} {g : Hp} {F : Nat} {o : Int32 × Hp} {t0 : Int32} {h : Hp} (k : DyK n g h) (e : sX15_isRight_87 F h t0 = some o) : DyK n g o.2 := by
  unfold sX15_isRight_87 at e
  replace e := (gd_s e).2
  rw [← Option.some.inj e]; exact k
theorem dk_X15_isRight_86 {n : Nat} {g : Hp} {F : Nat} {o : Int32 × Hp} {h : Hp} (k : DyK n g h) (e : sX15_isRight_86 F h = some o) : DyK n g o.2 := by
  unfold sX15_isRight_86 at e
  exact dk_X15_isRight_87 k e
theorem dk_X15_isRight {n : Nat} {g : Hp} {F : Nat} {o : Int32 × Hp} {x0 : Nat} {x1 : Nat} {x2 : Int32} {h : Hp} (k : DyK n g h) (e : sX15_isRight F h x0 x1 x2 = some o) : DyK n g o.2 := by
  unfold sX15_isRight at e
  replace e := cl_s e
  obtain ⟨r_1, _, e⟩ := e
  replace e := (gd_s e).2
  replace e := nm_s e
  obtain ⟨v_3, wv_3, e⟩ := e
  replace e := br_s e
  rcases e with ⟨_, e⟩ | ⟨_, e⟩
  · exact dk_X15_isRight_49 k e
  · replace e := cl_s e
    obtain ⟨r_5, _, e⟩ := e
    replace e := br_s e
    rcases e with ⟨_, e⟩ | ⟨_, e⟩
    · exact dk_X15_isRight_49 k e
    · replace e := cl_s e
      obtain ⟨o_7, eo_7, e⟩ := e
      have ko_7 : DyK n g o_7.2 := dk_X15_manOf k eo_7
      replace e := cl_s e
      obtain ⟨r_8, _, e⟩ := e
      replace e := br_s e
      rcases e with ⟨_, e⟩ | ⟨_, e⟩
      · replace e := cl_s e
        obtain ⟨o_10, eo_10, e⟩ := e
        have ko_10 : DyK n g o_10.2 := dk_X15_sideOf ko_7 eo_10
        replace e := cl_s e
        obtain ⟨o_11, eo_11, e⟩ := e
        have ko_11 : DyK n g o_11.2 := dk_X15_rankFor ko_10 eo_11
        replace e := br_s e
        rcases e with ⟨_, e⟩ | ⟨_, e⟩
        · replace e := cl_s e
          obtain ⟨o_13, eo_13, e⟩ := e
          have ko_13 : DyK n g o_13.2 := dk_X15_sideOf ko_11 eo_13
          replace e := cl_s e
          obtain ⟨o_14, eo_14, e⟩ := e
          have ko_14 : DyK n g o_14.2 := dk_X15_royalOf ko_13 eo_14
          replace e := br_s e
          rcases e with ⟨_, e⟩ | ⟨_, e⟩
          · exact dk_X15_isRight_86 ko_14 e
          · replace e := cl_s e
            obtain ⟨o_16, eo_16, e⟩ := e
            have ko_16 : DyK n g o_16.2 := dk_X15_sideOf ko_14 eo_16
            replace e := cl_s e
            obtain ⟨o_17, eo_17, e⟩ := e
            have ko_17 : DyK n g o_17.2 := dk_X15_rankFor ko_16 eo_17
            replace e := br_s e
            rcases e with ⟨_, e⟩ | ⟨_, e⟩
            · exact dk_X15_isRight_87 ko_17 e
            · exact dk_X15_isRight_86 ko_17 e
        · exact dk_X15_isRight_49 ko_11 e
      · exact dk_X15_isRight_49 ko_7 e
theorem dk_X15_wrongOf_277 {n : Nat} {g : Hp} {F : Nat} {o : Int32 × Hp} {x0 : Nat} {x1 : Nat} {x4 : Int32} {k_242 : Hp → Nat → Nat → Int32 → Option (Int32 × Hp)} (R_242 : ∀ {h : Hp} {y1 : Nat} {y2 : Nat} {y3 : Int32}, DyK n g h → k_242 h y1 y2 y3 = some o → DyK n g o.2) {h : Hp} (k : DyK n g h) (e : sX15_wrongOf_277 F k_242 h x0 x1 x4 = some o) : DyK n g o.2 := by
  unfold sX15_wrongOf_277 at e
  replace e := nm_s e
  obtain ⟨v_1, wv_1, e⟩ := e
  exact R_242 k e
theorem dk_X15_wrongOf_242 {n : Nat} {g : Hp} {F : Nat} {o : Int32 × Hp} : ∀ (f : Nat) {h : Hp} {x0 : Nat} {x1 : Nat} {x4 : Int32}, DyK n g h → sX15_wrongOf_242 F f h x0 x1 x4 = some o → DyK n g o.2 := by
  intro f
  induction f with
  | zero => intro h x0 x1 x4 _ e; exact absurd e (by rw [sX15_wrongOf_242]; exact fun z => nomatch z)
  | succ f ih =>
    intro h x0 x1 x4 k e
    rw [sX15_wrongOf_242] at e
    replace e := br_s e
    rcases e with ⟨_, e⟩ | ⟨_, e⟩
    · replace e := br_s e
      rcases e with ⟨_, e⟩ | ⟨_, e⟩
      · exact dk_X15_wrongOf_300 k e
      · replace e := cl_s e
        obtain ⟨o_3, eo_3, e⟩ := e
        have ko_3 : DyK n g o_3.2 := dk_X15_isPass k eo_3
        replace e := br_s e
        rcases e with ⟨_, e⟩ | ⟨_, e⟩
        · rw [← Option.some.inj e]; exact ko_3
        · exact dk_X15_wrongOf_300 ko_3 e
    · replace e := br_s e
      rcases e with ⟨_, e⟩ | ⟨_, e⟩
      · replace e := cl_s e
        obtain ⟨o_6, eo_6, e⟩ := e
        have ko_6 : DyK n g o_6.2 := dk_X15_isRight k eo_6
        replace e := br_s e
        rcases e with ⟨_, e⟩ | ⟨_, e⟩
        · rw [← Option.some.inj e]; exact ko_6
        · exact dk_X15_wrongOf_277 (fun k e => ih k e) ko_6 e
      · exact dk_X15_wrongOf_277 (fun k e => ih k e) k e
theorem dk_X15_wrongOf_233 {n : Nat} {g : Hp} {F : Nat} {o : Int32 × Hp} {x0 : Nat} {x1 : Nat} {x2 : Int32} {h : Hp} (k : DyK n g h) (e : sX15_wrongOf_233 F h x0 x1 x2 = some o) : DyK n g o.2 := by
  unfold sX15_wrongOf_233 at e
  replace e := br_s e
  rcases e with ⟨_, e⟩ | ⟨_, e⟩
  · exact dk_X15_wrongOf_242 F k e
  · rw [← Option.some.inj e]; exact k
theorem dk_X15_wrongOf_165 {n : Nat} {g : Hp} {F : Nat} {o : Int32 × Hp} {x0 : Nat} {x1 : Nat} {x2 : Int32} {t0 : Int32} {h : Hp} (k : DyK n g h) (e : sX15_wrongOf_165 F h x0 x1 x2 t0 = some o) : DyK n g o.2 := by
  unfold sX15_wrongOf_165 at e
  replace e := cl_s e
  obtain ⟨r_1, _, e⟩ := e
  replace e := (gd_s e).2
  replace e := br_s e
  rcases e with ⟨_, e⟩ | ⟨_, e⟩
  · exact dk_X15_wrongOf_231 k e
  · replace e := cl_s e
    obtain ⟨r_4, _, e⟩ := e
    replace e := (gd_s e).2
    replace e := br_s e
    rcases e with ⟨_, e⟩ | ⟨_, e⟩
    · exact dk_X15_wrongOf_231 k e
    · replace e := br_s e
      rcases e with ⟨_, e⟩ | ⟨_, e⟩
      · replace e := cl_s e
        obtain ⟨r_8, _, e⟩ := e
        replace e := br_s e
        rcases e with ⟨_, e⟩ | ⟨_, e⟩
        · exact dk_X15_wrongOf_233 k e
        · replace e := cl_s e
          obtain ⟨r_10, _, e⟩ := e
          replace e := br_s e
          rcases e with ⟨_, e⟩ | ⟨_, e⟩
          · exact dk_X15_wrongOf_233 k e
          · replace e := cl_s e
            obtain ⟨r_12, _, e⟩ := e
            replace e := (gd_s e).2
            replace e := br_s e
            rcases e with ⟨_, e⟩ | ⟨_, e⟩
            · replace e := cl_s e
              obtain ⟨r_15, _, e⟩ := e
              replace e := (gd_s e).2
              replace e := br_s e
              rcases e with ⟨_, e⟩ | ⟨_, e⟩
              · exact dk_X15_wrongOf_233 k e
              · exact dk_X15_wrongOf_231 k e
            · exact dk_X15_wrongOf_231 k e
      · exact dk_X15_wrongOf_231 k e
theorem dk_X15_wrongOf_164 {n : Nat} {g : Hp} {F : Nat} {o : Int32 × Hp} {x0 : Nat} {x1 : Nat} {x2 : Int32} {h : Hp} (k : DyK n g h) (e : sX15_wrongOf_164 F h x0 x1 x2 = some o) : DyK n g o.2 := by
  unfold sX15_wrongOf_164 at e
  exact dk_X15_wrongOf_165 k e
theorem dk_X15_wrongOf_109 {n : Nat} {g : Hp} {F : Nat} {o : Int32 × Hp} {x0 : Nat} {x1 : Nat} {x2 : Int32} {x3 : Int32} {k_18 : Hp → Nat → Nat → Int32 → Int32 → Option (Int32 × Hp)} (R_18 : ∀ {h : Hp} {y1 : Nat} {y2 : Nat} {y3 : Int32} {y4 : Int32}, DyK n g h → k_18 h y1 y2 y3 y4 = some o → DyK n g o.2) {h : Hp} (k : DyK n g h) (e : sX15_wrongOf_109 F k_18 h x0 x1 x2 x3 = some o) : DyK n g o.2 := by
  unfold sX15_wrongOf_109 at e
  replace e := nm_s e
  obtain ⟨v_1, wv_1, e⟩ := e
  exact R_18 k e
theorem dk_X15_becomesOthers_17 {n : Nat} {g : Hp} {o : Int32 × Hp} {t0 : Int32} {h : Hp} (k : DyK n g h) (e : sX15_becomesOthers_17 h t0 = some o) : DyK n g o.2 := by
  unfold sX15_becomesOthers_17 at e
  replace e := (gd_s e).2
  rw [← Option.some.inj e]; exact k
theorem dk_X15_becomesOthers {n : Nat} {g : Hp} {o : Int32 × Hp} {x0 : Nat} {x1 : Int32} {h : Hp} (k : DyK n g h) (e : sX15_becomesOthers h x0 x1 = some o) : DyK n g o.2 := by
  unfold sX15_becomesOthers at e
  replace e := cl_s e
  obtain ⟨r_1, _, e⟩ := e
  replace e := cl_s e
  obtain ⟨r_2, _, e⟩ := e
  replace e := (gd_s e).2
  replace e := br_s e
  rcases e with ⟨_, e⟩ | ⟨_, e⟩
  · exact dk_X15_becomesOthers_17 k e
  · exact dk_X15_becomesOthers_17 k e
theorem dk_X15_wrongOf_107 {n : Nat} {g : Hp} {F : Nat} {o : Int32 × Hp} {x0 : Nat} {x1 : Nat} {x3 : Int32} {t0 : Int32} {t1 : Int32} {k_18 : Hp → Nat → Nat → Int32 → Int32 → Option (Int32 × Hp)} (R_18 : ∀ {h : Hp} {y1 : Nat} {y2 : Nat} {y3 : Int32} {y4 : Int32}, DyK n g h → k_18 h y1 y2 y3 y4 = some o → DyK n g o.2) {h : Hp} (k : DyK n g h) (e : sX15_wrongOf_107 F k_18 h x0 x1 x3 t0 t1 = some o) : DyK n g o.2 := by
  unfold sX15_wrongOf_107 at e
  replace e := nm_s e
  obtain ⟨v_1, wv_1, e⟩ := e
  exact dk_X15_wrongOf_109 R_18 k e
theorem dk_X15_wrongOf_106 {n : Nat} {g : Hp} {F : Nat} {o : Int32 × Hp} {x0 : Nat} {x1 : Nat} {x3 : Int32} {t0 : Int32} {k_18 : Hp → Nat → Nat → Int32 → Int32 → Option (Int32 × Hp)} (R_18 : ∀ {h : Hp} {y1 : Nat} {y2 : Nat} {y3 : Int32} {y4 : Int32}, DyK n g h → k_18 h y1 y2 y3 y4 = some o → DyK n g o.2) {h : Hp} (k : DyK n g h) (e : sX15_wrongOf_106 F k_18 h x0 x1 x3 t0 = some o) : DyK n g o.2 := by
  unfold sX15_wrongOf_106 at e
  exact dk_X15_wrongOf_107 R_18 k e
theorem dk_X15_wrongOf_70 {n : Nat} {g : Hp} {F : Nat} {o : Int32 × Hp} {x0 : Nat} {x1 : Nat} {x2 : Int32} {x3 : Int32} {x4 : Int32} {t0 : Int32} {t1 : Int32} {t2 : Int32} {t3 : Nat} {k_18 : Hp → Nat → Nat → Int32 → Int32 → Option (Int32 × Hp)} (R_18 : ∀ {h : Hp} {y1 : Nat} {y2 : Nat} {y3 : Int32} {y4 : Int32}, DyK n g h → k_18 h y1 y2 y3 y4 = some o → DyK n g o.2) {h : Hp} (k : DyK n g h) (e : sX15_wrongOf_70 F k_18 h x0 x1 x2 x3 x4 t0 t1 t2 t3 = some o) : DyK n g o.2 := by
  unfold sX15_wrongOf_70 at e
  replace e := (gd_s e).2
  replace e := nm_s e
  obtain ⟨h_2, wh_2, e⟩ := e
  have kh_2 : DyK n g h_2 := by rw [wh_2]; exact dk_wI k
  replace e := cl_s e
  obtain ⟨o_3, eo_3, e⟩ := e
  have ko_3 : DyK n g o_3.2 := dk_X15_manOf kh_2 eo_3
  replace e := cl_s e
  obtain ⟨o_4, eo_4, e⟩ := e
  have ko_4 : DyK n g o_4.2 := dk_X15_becomesOthers ko_3 eo_4
  replace e := br_s e
  rcases e with ⟨_, e⟩ | ⟨_, e⟩
  · exact dk_X15_wrongOf_106 R_18 ko_4 e
  · replace e := cl_s e
    obtain ⟨o_6, eo_6, e⟩ := e
    have ko_6 : DyK n g o_6.2 := dk_X15_sideOf ko_4 eo_6
    replace e := cl_s e
    obtain ⟨o_7, eo_7, e⟩ := e
    have ko_7 : DyK n g o_7.2 := dk_X15_rankFor ko_6 eo_7
    replace e := br_s e
    rcases e with ⟨_, e⟩ | ⟨_, e⟩
    · exact dk_X15_wrongOf_107 R_18 ko_7 e
    · exact dk_X15_wrongOf_106 R_18 ko_7 e
theorem dk_X15_wrongOf_18 {n : Nat} {g : Hp} {F : Nat} {o : Int32 × Hp} : ∀ (f : Nat) {h : Hp} {x0 : Nat} {x1 : Nat} {x2 : Int32} {x3 : Int32}, DyK n g h → sX15_wrongOf_18 F f h x0 x1 x2 x3 = some o → DyK n g o.2 := by
  intro f
  induction f with
  | zero => intro h x0 x1 x2 x3 _ e; exact absurd e (by rw [sX15_wrongOf_18]; exact fun z => nomatch z)
  | succ f ih =>
    intro h x0 x1 x2 x3 k e
    rw [sX15_wrongOf_18] at e
    replace e := br_s e
    rcases e with ⟨_, e⟩ | ⟨_, e⟩
    · replace e := cl_s e
      obtain ⟨r_2, _, e⟩ := e
      replace e := br_s e
      rcases e with ⟨_, e⟩ | ⟨_, e⟩
      · exact dk_X15_wrongOf_164 k e
      · replace e := cl_s e
        obtain ⟨r_4, _, e⟩ := e
        replace e := cl_s e
        obtain ⟨r_5, _, e⟩ := e
        replace e := (gd_s e).2
        replace e := cl_s e
        obtain ⟨r_7, _, e⟩ := e
        replace e := cl_s e
        obtain ⟨r_8, _, e⟩ := e
        replace e := (gd_s e).2
        replace e := br_s e
        rcases e with ⟨_, e⟩ | ⟨_, e⟩
        · exact dk_X15_wrongOf_164 k e
        · exact dk_X15_wrongOf_165 k e
    · replace e := cl_s e
      obtain ⟨r_11, _, e⟩ := e
      replace e := (gd_s e).2
      replace e := nm_s e
      obtain ⟨v_13, wv_13, e⟩ := e
      replace e := br_s e
      rcases e with ⟨_, e⟩ | ⟨_, e⟩
      · exact dk_X15_wrongOf_109 (fun k e => ih k e) k e
      · replace e := cl_s e
        obtain ⟨r_15, _, e⟩ := e
        replace e := cl_s e
        obtain ⟨o_16, eo_16, e⟩ := e
        have ko_16 : DyK n g o_16.2 := dk_X15_sideOf k eo_16
        replace e := (gd_s e).2
        replace e := cl_s e
        obtain ⟨o_18, eo_18, e⟩ := e
        have ko_18 : DyK n g o_18.2 := dk_X15_manOf ko_16 eo_18
        replace e := cl_s e
        obtain ⟨r_19, _, e⟩ := e
        replace e := br_s e
        rcases e with ⟨_, e⟩ | ⟨_, e⟩
        · exact dk_X15_wrongOf_70 (fun k e => ih k e) ko_18 e
        · exact dk_X15_wrongOf_70 (fun k e => ih k e) ko_18 e
theorem dk_X15_wrongOf {n : Nat} {g : Hp} {F : Nat} {o : Int32 × Hp} {x0 : Nat} {x1 : Nat} {h : Hp} (k : DyK n g h) (e : sX15_wrongOf F h x0 x1 = some o) : DyK n g o.2 := by
  unfold sX15_wrongOf at e
  replace e := cl_s e
  obtain ⟨r_1, _, e⟩ := e
  replace e := (gd_s e).2
  replace e := nm_s e
  obtain ⟨h_3, wh_3, e⟩ := e
  have kh_3 : DyK n g h_3 := by rw [wh_3]; exact dk_wI k
  replace e := cl_s e
  obtain ⟨r_4, _, e⟩ := e
  replace e := (gd_s e).2
  replace e := nm_s e
  obtain ⟨h_6, wh_6, e⟩ := e
  have kh_6 : DyK n g h_6 := by rw [wh_6]; exact dk_wI kh_3
  exact dk_X15_wrongOf_18 F kh_6 e
theorem dk_X12_copy {n : Nat} {g : Hp} {o : Hp} {x0 : Nat} {x1 : Nat} {h : Hp} (k : DyK n g h) (e : sX12_copy h x0 x1 = some o) : DyK n g o := by
  unfold sX12_copy at e
  replace e := cl_s e
  obtain ⟨r_1, _, e⟩ := e
  replace e := cl_s e
  obtain ⟨r_2, _, e⟩ := e
  replace e := (gd_s e).2
  replace e := (gd_s e).2
  replace e := (gd_s e).2
  replace e := (gd_s e).2
  replace e := (gd_s e).2
  replace e := nm_s e
  obtain ⟨h_8, wh_8, e⟩ := e
  have kh_8 : DyK n g h_8 := by rw [wh_8]; exact dk_cpI k
  replace e := nm_s e
  obtain ⟨h_9, wh_9, e⟩ := e
  have kh_9 : DyK n g h_9 := by rw [wh_9]; exact dk_wI kh_8
  replace e := nm_s e
  obtain ⟨h_10, wh_10, e⟩ := e
  have kh_10 : DyK n g h_10 := by rw [wh_10]; exact dk_wJ kh_9
  replace e := nm_s e
  obtain ⟨h_11, wh_11, e⟩ := e
  have kh_11 : DyK n g h_11 := by rw [wh_11]; exact dk_wI kh_10
  replace e := cl_s e
  obtain ⟨r_12, _, e⟩ := e
  replace e := cl_s e
  obtain ⟨r_13, _, e⟩ := e
  replace e := (gd_s e).2
  replace e := (gd_s e).2
  replace e := (gd_s e).2
  replace e := (gd_s e).2
  replace e := (gd_s e).2
  replace e := nm_s e
  obtain ⟨h_19, wh_19, e⟩ := e
  have kh_19 : DyK n g h_19 := by rw [wh_19]; exact dk_cpI kh_11
  replace e := cl_s e
  obtain ⟨r_20, _, e⟩ := e
  replace e := cl_s e
  obtain ⟨r_21, _, e⟩ := e
  replace e := (gd_s e).2
  replace e := (gd_s e).2
  replace e := (gd_s e).2
  replace e := (gd_s e).2
  replace e := (gd_s e).2
  replace e := nm_s e
  obtain ⟨h_27, wh_27, e⟩ := e
  have kh_27 : DyK n g h_27 := by rw [wh_27]; exact dk_cpI kh_19
  replace e := cl_s e
  obtain ⟨r_28, _, e⟩ := e
  replace e := cl_s e
  obtain ⟨r_29, _, e⟩ := e
  replace e := (gd_s e).2
  replace e := (gd_s e).2
  replace e := nm_s e
  obtain ⟨h_32, wh_32, e⟩ := e
  have kh_32 : DyK n g h_32 := by rw [wh_32]; exact dk_wI kh_27
  replace e := cl_s e
  obtain ⟨r_33, _, e⟩ := e
  replace e := cl_s e
  obtain ⟨r_34, _, e⟩ := e
  replace e := (gd_s e).2
  replace e := (gd_s e).2
  replace e := nm_s e
  obtain ⟨h_37, wh_37, e⟩ := e
  have kh_37 : DyK n g h_37 := by rw [wh_37]; exact dk_wI kh_32
  replace e := nm_s e
  obtain ⟨h_38, wh_38, e⟩ := e
  have kh_38 : DyK n g h_38 := by rw [wh_38]; exact dk_wI kh_37
  rw [← Option.some.inj e]; exact kh_38
