/-! what stands where stays so: printed -/
theorem dk_X15_addSet_57 {n : Nat} {g : Hp} {F : Nat} {o : Int32 × Hp} {x0 : Nat} {x1 : Int32} {x2 : Int32} {x3 : Int32} {x4 : Int32} {k_2 : Hp → Nat → Int32 → Int32 → Option (Int32 × Hp)} (R_2 : ∀ {h : Hp} {y1 : Nat} {y2 : Int32} {y3 : Int32}, DyK n g h → k_2 h y1 y2 y3 = some o → DyK n g o.2) {h : Hp} (k : DyK n g h) (e : sX15_addSet_57 F k_2 h x0 x1 x2 x3 x4 = some o) : DyK n g o.2 := by
  unfold sX15_addSet_57 at e
  replace e := cl_s e
  obtain ⟨r_1, _, e⟩ := e
  replace e := (gd_s e).2
  replace e := nm_s e
  obtain ⟨h_3, wh_3, e⟩ := e
  have kh_3 : DyK n g h_3 := by rw [wh_3]; exact dk_wI k
  replace e := nm_s e
  obtain ⟨v_4, wv_4, e⟩ := e
  exact R_2 kh_3 e
theorem dk_X15_addSet_17 {n : Nat} {g : Hp} {F : Nat} {o : Int32 × Hp} {k_2 : Hp → Nat → Int32 → Int32 → Option (Int32 × Hp)} (R_2 : ∀ {h : Hp} {y1 : Nat} {y2 : Int32} {y3 : Int32}, DyK n g h → k_2 h y1 y2 y3 = some o → DyK n g o.2) : ∀ (f : Nat) {h : Hp} {x0 : Nat} {x1 : Int32} {x2 : Int32} {x3 : Int32} {x4 : Int32}, DyK n g h → sX15_addSet_17 F k_2 f h x0 x1 x2 x3 x4 = some o → DyK n g o.2 := by
  intro f
  induction f with
  | zero => intro h x0 x1 x2 x3 x4 _ e; exact absurd e (by rw [sX15_addSet_17]; exact fun z => nomatch z)
  | succ f ih =>
    intro h x0 x1 x2 x3 x4 k e
    rw [sX15_addSet_17] at e
    replace e := br_s e
    rcases e with ⟨_, e⟩ | ⟨_, e⟩
    · exact dk_X15_addSet_57 R_2 k e
    · replace e := cl_s e
      obtain ⟨r_2, _, e⟩ := e
      replace e := (gd_s e).2
      replace e := br_s e
      rcases e with ⟨_, e⟩ | ⟨_, e⟩
      · exact dk_X15_addSet_57 R_2 k e
      · replace e := cl_s e
        obtain ⟨r_5, _, e⟩ := e
        replace e := cl_s e
        obtain ⟨r_6, _, e⟩ := e
        replace e := (gd_s e).2
        replace e := (gd_s e).2
        replace e := nm_s e
        obtain ⟨h_9, wh_9, e⟩ := e
        have kh_9 : DyK n g h_9 := by rw [wh_9]; exact dk_wI k
        replace e := nm_s e
        obtain ⟨v_10, wv_10, e⟩ := e
        exact ih kh_9 e
theorem dk_X15_addSet_2 {n : Nat} {g : Hp} {F : Nat} {o : Int32 × Hp} : ∀ (f : Nat) {h : Hp} {x0 : Nat} {x1 : Int32} {x2 : Int32}, DyK n g h → sX15_addSet_2 F f h x0 x1 x2 = some o → DyK n g o.2 := by
  intro f
  induction f with
  | zero => intro h x0 x1 x2 _ e; exact absurd e (by rw [sX15_addSet_2]; exact fun z => nomatch z)
  | succ f ih =>
    intro h x0 x1 x2 k e
    rw [sX15_addSet_2] at e
    replace e := br_s e
    rcases e with ⟨_, e⟩ | ⟨_, e⟩
    · replace e := cl_s e
      obtain ⟨r_2, _, e⟩ := e
      replace e := cl_s e
      obtain ⟨o_3, eo_3, e⟩ := e
      have ko_3 : DyK n g o_3.2 := dk_X15_findSet k eo_3
      replace e := br_s e
      rcases e with ⟨_, e⟩ | ⟨_, e⟩
      · exact dk_X15_addSet_93 F ko_3 e
      · rw [← Option.some.inj e]; exact ko_3
    · replace e := cl_s e
      obtain ⟨r_5, _, e⟩ := e
      replace e := (gd_s e).2
      replace e := nm_s e
      obtain ⟨v_7, wv_7, e⟩ := e
      exact dk_X15_addSet_17 (fun k e => ih k e) F k e
theorem dk_X15_addSet {n : Nat} {g : Hp} {F : Nat} {o : Int32 × Hp} {x0 : Nat} {x1 : Int32} {h : Hp} (k : DyK n g h) (e : sX15_addSet F h x0 x1 = some o) : DyK n g o.2 := by
  unfold sX15_addSet at e
  exact dk_X15_addSet_2 F k e
theorem dk_X15_solve_238 {n : Nat} {g : Hp} {F : Nat} {o : Int32 × Hp} {h : Hp} (k : DyK n g h) (e : sX15_solve_238 F h = some o) : DyK n g o.2 := by
  unfold sX15_solve_238 at e
  rw [← Option.some.inj e]; exact k
theorem dk_X15_addAll_81 {n : Nat} {g : Hp} {F : Nat} {o : Int32 × Hp} {k_2 : Hp → Nat → Int32 → Option (Int32 × Hp)} (R_2 : ∀ {h : Hp} {y1 : Nat} {y2 : Int32}, DyK n g h → k_2 h y1 y2 = some o → DyK n g o.2) {k_12 : Hp → Nat → Int32 → Int32 → Option (Int32 × Hp)} (R_12 : ∀ {h : Hp} {y1 : Nat} {y2 : Int32} {y3 : Int32}, DyK n g h → k_12 h y1 y2 y3 = some o → DyK n g o.2) {k_61 : Hp → Nat → Int32 → Int32 → Int32 → Int32 → Option (Int32 × Hp)} (R_61 : ∀ {h : Hp} {y1 : Nat} {y2 : Int32} {y3 : Int32} {y4 : Int32} {y5 : Int32}, DyK n g h → k_61 h y1 y2 y3 y4 y5 = some o → DyK n g o.2) : ∀ (f : Nat) {h : Hp} {x0 : Nat} {x1 : Int32} {x2 : Int32} {x3 : Int32} {x4 : Int32} {x5 : Int32}, DyK n g h → sX15_addAll_81 F k_2 k_12 k_61 f h x0 x1 x2 x3 x4 x5 = some o → DyK n g o.2 := by
  intro f
  induction f with
  | zero => intro h x0 x1 x2 x3 x4 x5 _ e; exact absurd e (by rw [sX15_addAll_81]; exact fun z => nomatch z)
  | succ f ih =>
    intro h x0 x1 x2 x3 x4 x5 k e
    rw [sX15_addAll_81] at e
    replace e := cl_s e
    obtain ⟨r_1, _, e⟩ := e
    replace e := (gd_s e).2
    replace e := br_s e
    rcases e with ⟨_, e⟩ | ⟨_, e⟩
    · replace e := cl_s e
      obtain ⟨r_4, _, e⟩ := e
      replace e := cl_s e
      obtain ⟨r_5, _, e⟩ := e
      replace e := cl_s e
      obtain ⟨r_6, _, e⟩ := e
      replace e := cl_s e
      obtain ⟨o_7, eo_7, e⟩ := e
      have ko_7 : DyK n g o_7.2 := dk_X15_manOf k eo_7
      replace e := (gd_s e).2
      replace e := cl_s e
      obtain ⟨o_9, eo_9, e⟩ := e
      have ko_9 : DyK n g o_9.2 := dk_X15_sideOf ko_7 eo_9
      replace e := cl_s e
      obtain ⟨o_10, eo_10, e⟩ := e
      have ko_10 : DyK n g o_10.2 := dk_X15_valueOf ko_9 eo_10
      replace e := (gd_s e).2
      replace e := nm_s e
      obtain ⟨h_12, wh_12, e⟩ := e
      have kh_12 : DyK n g h_12 := by rw [wh_12]; exact dk_wI ko_10
      replace e := cl_s e
      obtain ⟨r_13, _, e⟩ := e
      replace e := (gd_s e).2
      replace e := cl_s e
      obtain ⟨o_15, eo_15, e⟩ := e
      have ko_15 : DyK n g o_15.2 := dk_X15_addSet kh_12 eo_15
      replace e := br_s e
      rcases e with ⟨_, e⟩ | ⟨_, e⟩
      · rw [← Option.some.inj e]; exact ko_15
      · replace e := nm_s e
        obtain ⟨v_17, wv_17, e⟩ := e
        exact R_61 ko_15 e
    · replace e := cl_s e
      obtain ⟨r_18, _, e⟩ := e
      replace e := cl_s e
      obtain ⟨r_19, _, e⟩ := e
      replace e := (gd_s e).2
      replace e := (gd_s e).2
      replace e := nm_s e
      obtain ⟨h_22, wh_22, e⟩ := e
      have kh_22 : DyK n g h_22 := by rw [wh_22]; exact dk_wI k
      replace e := nm_s e
      obtain ⟨v_23, wv_23, e⟩ := e
      exact ih kh_22 e
theorem dk_X15_addAll_61 {n : Nat} {g : Hp} {F : Nat} {o : Int32 × Hp} {k_2 : Hp → Nat → Int32 → Option (Int32 × Hp)} (R_2 : ∀ {h : Hp} {y1 : Nat} {y2 : Int32}, DyK n g h → k_2 h y1 y2 = some o → DyK n g o.2) {k_12 : Hp → Nat → Int32 → Int32 → Option (Int32 × Hp)} (R_12 : ∀ {h : Hp} {y1 : Nat} {y2 : Int32} {y3 : Int32}, DyK n g h → k_12 h y1 y2 y3 = some o → DyK n g o.2) : ∀ (f : Nat) {h : Hp} {x0 : Nat} {x1 : Int32} {x2 : Int32} {x3 : Int32} {x4 : Int32}, DyK n g h → sX15_addAll_61 F k_2 k_12 f h x0 x1 x2 x3 x4 = some o → DyK n g o.2 := by
  intro f
  induction f with
  | zero => intro h x0 x1 x2 x3 x4 _ e; exact absurd e (by rw [sX15_addAll_61]; exact fun z => nomatch z)
  | succ f ih =>
    intro h x0 x1 x2 x3 x4 k e
    rw [sX15_addAll_61] at e
    replace e := cl_s e
    obtain ⟨r_1, _, e⟩ := e
    replace e := cl_s e
    obtain ⟨r_2, _, e⟩ := e
    replace e := cl_s e
    obtain ⟨o_3, eo_3, e⟩ := e
    have ko_3 : DyK n g o_3.2 := dk_X15_manOf k eo_3
    replace e := (gd_s e).2
    replace e := br_s e
    rcases e with ⟨_, e⟩ | ⟨_, e⟩
    · replace e := nm_s e
      obtain ⟨v_6, wv_6, e⟩ := e
      exact R_12 ko_3 e
    · exact dk_X15_addAll_81 R_2 R_12 (fun k e => ih k e) F ko_3 e
theorem dk_X15_addAll_58 {n : Nat} {g : Hp} {F : Nat} {o : Int32 × Hp} {x0 : Nat} {x1 : Int32} {x2 : Int32} {x3 : Int32} {k_2 : Hp → Nat → Int32 → Option (Int32 × Hp)} (R_2 : ∀ {h : Hp} {y1 : Nat} {y2 : Int32}, DyK n g h → k_2 h y1 y2 = some o → DyK n g o.2) {k_12 : Hp → Nat → Int32 → Int32 → Option (Int32 × Hp)} (R_12 : ∀ {h : Hp} {y1 : Nat} {y2 : Int32} {y3 : Int32}, DyK n g h → k_12 h y1 y2 y3 = some o → DyK n g o.2) {h : Hp} (k : DyK n g h) (e : sX15_addAll_58 F k_2 k_12 h x0 x1 x2 x3 = some o) : DyK n g o.2 := by
  unfold sX15_addAll_58 at e
  exact dk_X15_addAll_61 R_2 R_12 F k e
theorem dk_X15_copyWithout_42 {n : Nat} {g : Hp} {F : Nat} {o : Int32 × Hp} {x0 : Nat} {x1 : Int32} {x2 : Int32} {x3 : Int32} {x4 : Int32} {k_5 : Hp → Nat → Int32 → Int32 → Int32 → Int32 → Option (Int32 × Hp)} (R_5 : ∀ {h : Hp} {y1 : Nat} {y2 : Int32} {y3 : Int32} {y4 : Int32} {y5 : Int32}, DyK n g h → k_5 h y1 y2 y3 y4 y5 = some o → DyK n g o.2) {h : Hp} (k : DyK n g h) (e : sX15_copyWithout_42 F k_5 h x0 x1 x2 x3 x4 = some o) : DyK n g o.2 := by
  unfold sX15_copyWithout_42 at e
  replace e := nm_s e
  obtain ⟨v_1, wv_1, e⟩ := e
  exact R_5 k e
theorem dk_X15_copyWithout_5 {n : Nat} {g : Hp} {F : Nat} {o : Int32 × Hp} : ∀ (f : Nat) {h : Hp} {x0 : Nat} {x1 : Int32} {x2 : Int32} {x3 : Int32} {x4 : Int32}, DyK n g h → sX15_copyWithout_5 F f h x0 x1 x2 x3 x4 = some o → DyK n g o.2 := by
  intro f
  induction f with
  | zero => intro h x0 x1 x2 x3 x4 _ e; exact absurd e (by rw [sX15_copyWithout_5]; exact fun z => nomatch z)
  | succ f ih =>
    intro h x0 x1 x2 x3 x4 k e
    rw [sX15_copyWithout_5] at e
    replace e := cl_s e
    obtain ⟨r_1, _, e⟩ := e
    replace e := (gd_s e).2
    replace e := br_s e
    rcases e with ⟨_, e⟩ | ⟨_, e⟩
    · replace e := cl_s e
      obtain ⟨o_4, eo_4, e⟩ := e
      have ko_4 : DyK n g o_4.2 := dk_X15_addSet k eo_4
      replace e := (gd_s e).2
      rw [← Option.some.inj e]; exact ko_4
    · replace e := br_s e
      rcases e with ⟨_, e⟩ | ⟨_, e⟩
      · exact dk_X15_copyWithout_42 (fun k e => ih k e) k e
      · replace e := cl_s e
        obtain ⟨r_7, _, e⟩ := e
        replace e := cl_s e
        obtain ⟨r_8, _, e⟩ := e
        replace e := (gd_s e).2
        replace e := (gd_s e).2
        replace e := nm_s e
        obtain ⟨h_11, wh_11, e⟩ := e
        have kh_11 : DyK n g h_11 := by rw [wh_11]; exact dk_wI k
        replace e := nm_s e
        obtain ⟨v_12, wv_12, e⟩ := e
        exact dk_X15_copyWithout_42 (fun k e => ih k e) kh_11 e
theorem dk_X15_copyWithout {n : Nat} {g : Hp} {F : Nat} {o : Int32 × Hp} {x0 : Nat} {x1 : Int32} {x2 : Int32} {h : Hp} (k : DyK n g h) (e : sX15_copyWithout F h x0 x1 x2 = some o) : DyK n g o.2 := by
  unfold sX15_copyWithout at e
  exact dk_X15_copyWithout_5 F k e
theorem dk_X15_addAll_12 {n : Nat} {g : Hp} {F : Nat} {o : Int32 × Hp} {k_2 : Hp → Nat → Int32 → Option (Int32 × Hp)} (R_2 : ∀ {h : Hp} {y1 : Nat} {y2 : Int32}, DyK n g h → k_2 h y1 y2 = some o → DyK n g o.2) : ∀ (f : Nat) {h : Hp} {x0 : Nat} {x1 : Int32} {x2 : Int32}, DyK n g h → sX15_addAll_12 F k_2 f h x0 x1 x2 = some o → DyK n g o.2 := by
  intro f
  induction f with
  | zero => intro h x0 x1 x2 _ e; exact absurd e (by rw [sX15_addAll_12]; exact fun z => nomatch z)
  | succ f ih =>
    intro h x0 x1 x2 k e
    rw [sX15_addAll_12] at e
    replace e := cl_s e
    obtain ⟨r_1, _, e⟩ := e
    replace e := (gd_s e).2
    replace e := br_s e
    rcases e with ⟨_, e⟩ | ⟨_, e⟩
    · replace e := nm_s e
      obtain ⟨v_4, wv_4, e⟩ := e
      exact R_2 k e
    · replace e := cl_s e
      obtain ⟨r_5, _, e⟩ := e
      replace e := (gd_s e).2
      replace e := nm_s e
      obtain ⟨v_7, wv_7, e⟩ := e
      replace e := cl_s e
      obtain ⟨o_8, eo_8, e⟩ := e
      have ko_8 : DyK n g o_8.2 := dk_X15_manOf k eo_8
      replace e := cl_s e
      obtain ⟨r_9, _, e⟩ := e
      replace e := br_s e
      rcases e with ⟨_, e⟩ | ⟨_, e⟩
      · exact dk_X15_addAll_58 R_2 (fun k e => ih k e) ko_8 e
      · replace e := cl_s e
        obtain ⟨o_11, eo_11, e⟩ := e
        have ko_11 : DyK n g o_11.2 := dk_X15_copyWithout ko_8 eo_11
        replace e := br_s e
        rcases e with ⟨_, e⟩ | ⟨_, e⟩
        · rw [← Option.some.inj e]; exact ko_11
        · exact dk_X15_addAll_58 R_2 (fun k e => ih k e) ko_11 e
theorem dk_X15_addAll_2 {n : Nat} {g : Hp} {F : Nat} {o : Int32 × Hp} : ∀ (f : Nat) {h : Hp} {x0 : Nat} {x1 : Int32}, DyK n g h → sX15_addAll_2 F f h x0 x1 = some o → DyK n g o.2 := by
  intro f
  induction f with
  | zero => intro h x0 x1 _ e; exact absurd e (by rw [sX15_addAll_2]; exact fun z => nomatch z)
  | succ f ih =>
    intro h x0 x1 k e
    rw [sX15_addAll_2] at e
    replace e := br_s e
    rcases e with ⟨_, e⟩ | ⟨_, e⟩
    · rw [← Option.some.inj e]; exact k
    · exact dk_X15_addAll_12 (fun k e => ih k e) F k e
theorem dk_X15_addAll {n : Nat} {g : Hp} {F : Nat} {o : Int32 × Hp} {x0 : Nat} {h : Hp} (k : DyK n g h) (e : sX15_addAll F h x0 = some o) : DyK n g o.2 := by
  unfold sX15_addAll at e
  exact dk_X15_addAll_2 F k e
theorem dk_X15_workOut_148 {n : Nat} {g : Hp} {F : Nat} {o : Hp} {x0 : Nat} {x3 : Int32} {t0 : Int32} {t1 : Int32} {t2 : Nat} {k_111 : Hp → Nat → Int32 → Option (Hp)} (R_111 : ∀ {h : Hp} {y1 : Nat} {y2 : Int32}, DyK n g h → k_111 h y1 y2 = some o → DyK n g o) {h : Hp} (k : DyK n g h) (e : sX15_workOut_148 F k_111 h x0 x3 t0 t1 t2 = some o) : DyK n g o := by
  unfold sX15_workOut_148 at e
  replace e := (gd_s e).2
  replace e := nm_s e
  obtain ⟨h_2, wh_2, e⟩ := e
  have kh_2 : DyK n g h_2 := by rw [wh_2]; exact dk_wI k
  replace e := nm_s e
  obtain ⟨v_3, wv_3, e⟩ := e
  exact R_111 kh_2 e
theorem dk_X15_workOut_111 {n : Nat} {g : Hp} {F : Nat} {o : Hp} : ∀ (f : Nat) {h : Hp} {x0 : Nat} {x3 : Int32}, DyK n g h → sX15_workOut_111 F f h x0 x3 = some o → DyK n g o := by
  intro f
  induction f with
  | zero => intro h x0 x3 _ e; exact absurd e (by rw [sX15_workOut_111]; exact fun z => nomatch z)
  | succ f ih =>
    intro h x0 x3 k e
    rw [sX15_workOut_111] at e
    replace e := br_s e
    rcases e with ⟨_, e⟩ | ⟨_, e⟩
    · rw [← Option.some.inj e]; exact k
    · replace e := cl_s e
      obtain ⟨r_2, _, e⟩ := e
      replace e := cl_s e
      obtain ⟨r_3, _, e⟩ := e
      replace e := (gd_s e).2
      replace e := br_s e
      rcases e with ⟨_, e⟩ | ⟨_, e⟩
      · exact dk_X15_workOut_148 (fun k e => ih k e) k e
      · replace e := cl_s e
        obtain ⟨r_6, _, e⟩ := e
        replace e := (gd_s e).2
        exact dk_X15_workOut_148 (fun k e => ih k e) k e
theorem dk_X15_sizeOf_4 {n : Nat} {g : Hp} {F : Nat} {o : Int32 × Hp} : ∀ (f : Nat) {h : Hp} {x0 : Nat} {x1 : Int32} {x2 : Int32} {x3 : Int32}, DyK n g h → sX15_sizeOf_4 F f h x0 x1 x2 x3 = some o → DyK n g o.2 := by
  intro f
  induction f with
  | zero => intro h x0 x1 x2 x3 _ e; exact absurd e (by rw [sX15_sizeOf_4]; exact fun z => nomatch z)
  | succ f ih =>
    intro h x0 x1 x2 x3 k e
    rw [sX15_sizeOf_4] at e
    replace e := cl_s e
    obtain ⟨r_1, _, e⟩ := e
    replace e := (gd_s e).2
    replace e := br_s e
    rcases e with ⟨_, e⟩ | ⟨_, e⟩
    · rw [← Option.some.inj e]; exact k
    · replace e := nm_s e
      obtain ⟨v_4, wv_4, e⟩ := e
      replace e := nm_s e
      obtain ⟨v_5, wv_5, e⟩ := e
      exact ih k e
theorem dk_X15_sizeOf {n : Nat} {g : Hp} {F : Nat} {o : Int32 × Hp} {x0 : Nat} {x1 : Int32} {h : Hp} (k : DyK n g h) (e : sX15_sizeOf F h x0 x1 = some o) : DyK n g o.2 := by
  unfold sX15_sizeOf at e
  exact dk_X15_sizeOf_4 F k e
theorem dk_X15_worthNow_217 {n : Nat} {g : Hp} {F : Nat} {o : Int32 × Hp} {t0 : Int32} {h : Hp} (k : DyK n g h) (e : sX15_worthNow_217 F h t0 = some o) : DyK n g o.2 := by
  unfold sX15_worthNow_217 at e
  rw [← Option.some.inj e]; exact k
theorem dk_X15_worthNow_186 {n : Nat} {g : Hp} {F : Nat} {o : Int32 × Hp} {x0 : Nat} {x3 : Int32} {h : Hp} (k : DyK n g h) (e : sX15_worthNow_186 F h x0 x3 = some o) : DyK n g o.2 := by
  unfold sX15_worthNow_186 at e
  replace e := br_s e
  rcases e with ⟨_, e⟩ | ⟨_, e⟩
  · replace e := br_s e
    rcases e with ⟨_, e⟩ | ⟨_, e⟩
    · exact dk_X15_worthNow_217 k e
    · exact dk_X15_worthNow_217 k e
  · exact dk_X15_worthNow_217 k e
theorem dk_X15_maskOf_65 {n : Nat} {g : Hp} {F : Nat} {o : Int32 × Hp} {x0 : Nat} {x1 : Int32} {x2 : Int32} {x3 : Int32} {x4 : Int32} {x6 : Int32} {t0 : Int32} {t1 : Int32} {k_11 : Hp → Nat → Int32 → Int32 → Int32 → Int32 → Int32 → Int32 → Option (Int32 × Hp)} (R_11 : ∀ {h : Hp} {y1 : Nat} {y2 : Int32} {y3 : Int32} {y4 : Int32} {y5 : Int32} {y6 : Int32} {y7 : Int32}, DyK n g h → k_11 h y1 y2 y3 y4 y5 y6 y7 = some o → DyK n g o.2) {h : Hp} (k : DyK n g h) (e : sX15_maskOf_65 F k_11 h x0 x1 x2 x3 x4 x6 t0 t1 = some o) : DyK n g o.2 := by
  unfold sX15_maskOf_65 at e
  replace e := nm_s e
  obtain ⟨v_1, wv_1, e⟩ := e
  replace e := nm_s e
  obtain ⟨v_2, wv_2, e⟩ := e
  exact R_11 k e
theorem dk_X15_maskOf_60 {n : Nat} {g : Hp} {F : Nat} {o : Int32 × Hp} {x0 : Nat} {x1 : Int32} {x2 : Int32} {x3 : Int32} {x4 : Int32} {x6 : Int32} {t0 : Int32} {k_11 : Hp → Nat → Int32 → Int32 → Int32 → Int32 → Int32 → Int32 → Option (Int32 × Hp)} (R_11 : ∀ {h : Hp} {y1 : Nat} {y2 : Int32} {y3 : Int32} {y4 : Int32} {y5 : Int32} {y6 : Int32} {y7 : Int32}, DyK n g h → k_11 h y1 y2 y3 y4 y5 y6 y7 = some o → DyK n g o.2) {h : Hp} (k : DyK n g h) (e : sX15_maskOf_60 F k_11 h x0 x1 x2 x3 x4 x6 t0 = some o) : DyK n g o.2 := by
  unfold sX15_maskOf_60 at e
  exact dk_X15_maskOf_65 R_11 k e
theorem dk_X15_maskOf_64 {n : Nat} {g : Hp} {F : Nat} {o : Int32 × Hp} {x0 : Nat} {x1 : Int32} {x2 : Int32} {x3 : Int32} {x4 : Int32} {x6 : Int32} {t0 : Int32} {k_11 : Hp → Nat → Int32 → Int32 → Int32 → Int32 → Int32 → Int32 → Option (Int32 × Hp)} (R_11 : ∀ {h : Hp} {y1 : Nat} {y2 : Int32} {y3 : Int32} {y4 : Int32} {y5 : Int32} {y6 : Int32} {y7 : Int32}, DyK n g h → k_11 h y1 y2 y3 y4 y5 y6 y7 = some o → DyK n g o.2) {h : Hp} (k : DyK n g h) (e : sX15_maskOf_64 F k_11 h x0 x1 x2 x3 x4 x6 t0 = some o) : DyK n g o.2 := by
  unfold sX15_maskOf_64 at e
  exact dk_X15_maskOf_65 R_11 k e
theorem dk_X15_maskOf_11 {n : Nat} {g : Hp} {F : Nat} {o : Int32 × Hp} : ∀ (f : Nat) {h : Hp} {x0 : Nat} {x1 : Int32} {x2 : Int32} {x3 : Int32} {x4 : Int32} {x5 : Int32} {x6 : Int32}, DyK n g h → sX15_maskOf_11 F f h x0 x1 x2 x3 x4 x5 x6 = some o → DyK n g o.2 := by
  intro f
  induction f with
  | zero => intro h x0 x1 x2 x3 x4 x5 x6 _ e; exact absurd e (by rw [sX15_maskOf_11]; exact fun z => nomatch z)
  | succ f ih =>
    intro h x0 x1 x2 x3 x4 x5 x6 k e
    rw [sX15_maskOf_11] at e
    replace e := cl_s e
    obtain ⟨r_1, _, e⟩ := e
    replace e := (gd_s e).2
    replace e := br_s e
    rcases e with ⟨_, e⟩ | ⟨_, e⟩
    · replace e := cl_s e
      obtain ⟨r_4, _, e⟩ := e
      replace e := (gd_s e).2
      replace e := cl_s e
      obtain ⟨r_6, _, e⟩ := e
      replace e := (gd_s e).2
      rw [← Option.some.inj e]; exact k
    · replace e := cl_s e
      obtain ⟨r_8, _, e⟩ := e
      replace e := (gd_s e).2
      replace e := cl_s e
      obtain ⟨o_10, eo_10, e⟩ := e
      have ko_10 : DyK n g o_10.2 := dk_X15_sideOf k eo_10
      replace e := br_s e
      rcases e with ⟨_, e⟩ | ⟨_, e⟩
      · exact dk_X15_maskOf_60 (fun k e => ih k e) ko_10 e
      · replace e := br_s e
        rcases e with ⟨_, e⟩ | ⟨_, e⟩
        · replace e := br_s e
          rcases e with ⟨_, e⟩ | ⟨_, e⟩
          · exact dk_X15_maskOf_64 (fun k e => ih k e) ko_10 e
          · exact dk_X15_maskOf_60 (fun k e => ih k e) ko_10 e
        · exact dk_X15_maskOf_64 (fun k e => ih k e) ko_10 e
theorem dk_X15_maskOf {n : Nat} {g : Hp} {F : Nat} {o : Int32 × Hp} {x0 : Nat} {x1 : Int32} {x2 : Int32} {x3 : Int32} {h : Hp} (k : DyK n g h) (e : sX15_maskOf F h x0 x1 x2 x3 = some o) : DyK n g o.2 := by
  unfold sX15_maskOf at e
  replace e := nm_s e
  obtain ⟨v_1, wv_1, e⟩ := e
  exact dk_X15_maskOf_11 F k e
theorem dk_X15_worthNow_171 {n : Nat} {g : Hp} {F : Nat} {o : Int32 × Hp} {x0 : Nat} {x1 : Int32} {x2 : Int32} {x3 : Int32} {x4 : Int32} {x5 : Int32} {x7 : Int32} {x8 : Int32} {k_73 : Hp → Nat → Int32 → Int32 → Int32 → Int32 → Int32 → Int32 → Int32 → Option (Int32 × Hp)} (R_73 : ∀ {h : Hp} {y1 : Nat} {y2 : Int32} {y3 : Int32} {y4 : Int32} {y5 : Int32} {y6 : Int32} {y7 : Int32} {y8 : Int32}, DyK n g h → k_73 h y1 y2 y3 y4 y5 y6 y7 y8 = some o → DyK n g o.2) {h : Hp} (k : DyK n g h) (e : sX15_worthNow_171 F k_73 h x0 x1 x2 x3 x4 x5 x7 x8 = some o) : DyK n g o.2 := by
  unfold sX15_worthNow_171 at e
  replace e := nm_s e
  obtain ⟨v_1, wv_1, e⟩ := e
  replace e := nm_s e
  obtain ⟨v_2, wv_2, e⟩ := e
  exact R_73 k e
theorem dk_J6_numberOfTrailingZeros_0f7a4_74 {n : Nat} {g : Hp} {o : Int32 × Hp} {x0 : Int32} {x1 : Int32} {h : Hp} (k : DyK n g h) (e : sJ6_numberOfTrailingZeros_0f7a4_74 h x0 x1 = some o) : DyK n g o.2 := by
  unfold sJ6_numberOfTrailingZeros_0f7a4_74 at e
  rw [← Option.some.inj e]; exact k
theorem dk_J6_numberOfTrailingZeros_0f7a4_62 {n : Nat} {g : Hp} {o : Int32 × Hp} {x0 : Int32} {x1 : Int32} {h : Hp} (k : DyK n g h) (e : sJ6_numberOfTrailingZeros_0f7a4_62 h x0 x1 = some o) : DyK n g o.2 := by
  unfold sJ6_numberOfTrailingZeros_0f7a4_62 at e
  replace e := br_s e
  rcases e with ⟨_, e⟩ | ⟨_, e⟩
  · exact dk_J6_numberOfTrailingZeros_0f7a4_74 k e
  · replace e := nm_s e
    obtain ⟨v_2, wv_2, e⟩ := e
    replace e := nm_s e
    obtain ⟨v_3, wv_3, e⟩ := e
    exact dk_J6_numberOfTrailingZeros_0f7a4_74 k e
theorem dk_J6_numberOfTrailingZeros_0f7a4_49 {n : Nat} {g : Hp} {o : Int32 × Hp} {x0 : Int32} {x1 : Int32} {h : Hp} (k : DyK n g h) (e : sJ6_numberOfTrailingZeros_0f7a4_49 h x0 x1 = some o) : DyK n g o.2 := by
  unfold sJ6_numberOfTrailingZeros_0f7a4_49 at e
  replace e := br_s e
  rcases e with ⟨_, e⟩ | ⟨_, e⟩
  · exact dk_J6_numberOfTrailingZeros_0f7a4_62 k e
  · replace e := nm_s e
    obtain ⟨v_2, wv_2, e⟩ := e
    replace e := nm_s e
    obtain ⟨v_3, wv_3, e⟩ := e
    exact dk_J6_numberOfTrailingZeros_0f7a4_62 k e
theorem dk_J6_numberOfTrailingZeros_0f7a4_34 {n : Nat} {g : Hp} {o : Int32 × Hp} {x0 : Int32} {x1 : Int32} {h : Hp} (k : DyK n g h) (e : sJ6_numberOfTrailingZeros_0f7a4_34 h x0 x1 = some o) : DyK n g o.2 := by
  unfold sJ6_numberOfTrailingZeros_0f7a4_34 at e
  replace e := br_s e
  rcases e with ⟨_, e⟩ | ⟨_, e⟩
  · exact dk_J6_numberOfTrailingZeros_0f7a4_49 k e
  · replace e := nm_s e
    obtain ⟨v_2, wv_2, e⟩ := e
    replace e := nm_s e
    obtain ⟨v_3, wv_3, e⟩ := e
    exact dk_J6_numberOfTrailingZeros_0f7a4_49 k e
theorem dk_J6_numberOfTrailingZeros_0f7a4 {n : Nat} {g : Hp} {o : Int32 × Hp} {x0 : Int32} {h : Hp} (k : DyK n g h) (e : sJ6_numberOfTrailingZeros_0f7a4 h x0 = some o) : DyK n g o.2 := by
  unfold sJ6_numberOfTrailingZeros_0f7a4 at e
  replace e := nm_s e
  obtain ⟨v_1, wv_1, e⟩ := e
  replace e := br_s e
  rcases e with ⟨_, e⟩ | ⟨_, e⟩
  · replace e := br_s e
    rcases e with ⟨_, e⟩ | ⟨_, e⟩
    · exact dk_J6_numberOfTrailingZeros_0f7a4_34 k e
    · replace e := nm_s e
      obtain ⟨v_4, wv_4, e⟩ := e
      replace e := nm_s e
      obtain ⟨v_5, wv_5, e⟩ := e
      exact dk_J6_numberOfTrailingZeros_0f7a4_34 k e
  · rw [← Option.some.inj e]; exact k
theorem dk_J13_numberOfTrailingZeros_95d88_25 {n : Nat} {g : Hp} {o : Int32 × Hp} {t0 : Int32} {h : Hp} (k : DyK n g h) (e : sJ13_numberOfTrailingZeros_95d88_25 h t0 = some o) : DyK n g o.2 := by
  unfold sJ13_numberOfTrailingZeros_95d88_25 at e
  rw [← Option.some.inj e]; exact k
theorem dk_J13_numberOfTrailingZeros_95d88 {n : Nat} {g : Hp} {o : Int32 × Hp} {x0 : Int64} {h : Hp} (k : DyK n g h) (e : sJ13_numberOfTrailingZeros_95d88 h x0 = some o) : DyK n g o.2 := by
  unfold sJ13_numberOfTrailingZeros_95d88 at e
  replace e := br_s e
  rcases e with ⟨_, e⟩ | ⟨_, e⟩
  · replace e := cl_s e
    obtain ⟨o_3, eo_3, e⟩ := e
    have ko_3 : DyK n g o_3.2 := dk_J6_numberOfTrailingZeros_0f7a4 k eo_3
    exact dk_J13_numberOfTrailingZeros_95d88_25 ko_3 e
  · replace e := cl_s e
    obtain ⟨o_2, eo_2, e⟩ := e
    have ko_2 : DyK n g o_2.2 := dk_J6_numberOfTrailingZeros_0f7a4 k eo_2
    exact dk_J13_numberOfTrailingZeros_95d88_25 ko_2 e
theorem dk_X15_isLike_64 {n : Nat} {g : Hp} {o : Int32 × Hp} {t0 : Int32} {h : Hp} (k : DyK n g h) (e : sX15_isLike_64 h t0 = some o) : DyK n g o.2 := by
  unfold sX15_isLike_64 at e
  replace e := (gd_s e).2
  rw [← Option.some.inj e]; exact k
theorem dk_X15_isLike_63 {n : Nat} {g : Hp} {o : Int32 × Hp} {h : Hp} (k : DyK n g h) (e : sX15_isLike_63 h = some o) : DyK n g o.2 := by
  unfold sX15_isLike_63 at e
  exact dk_X15_isLike_64 k e
theorem dk_X15_isLike_59 {n : Nat} {g : Hp} {o : Int32 × Hp} {h : Hp} (k : DyK n g h) (e : sX15_isLike_59 h = some o) : DyK n g o.2 := by
  unfold sX15_isLike_59 at e
  exact dk_X15_isLike_64 k e
theorem dk_X15_isLike_31 {n : Nat} {g : Hp} {o : Int32 × Hp} {x0 : Nat} {x1 : Int32} {x2 : Int32} {x3 : Int32} {h : Hp} (k : DyK n g h) (e : sX15_isLike_31 h x0 x1 x2 x3 = some o) : DyK n g o.2 := by
  unfold sX15_isLike_31 at e
  replace e := cl_s e
  obtain ⟨r_1, _, e⟩ := e
  replace e := (gd_s e).2
  replace e := br_s e
  rcases e with ⟨_, e⟩ | ⟨_, e⟩
  · exact dk_X15_isLike_63 k e
  · replace e := cl_s e
    obtain ⟨r_4, _, e⟩ := e
    replace e := (gd_s e).2
    replace e := br_s e
    rcases e with ⟨_, e⟩ | ⟨_, e⟩
    · exact dk_X15_isLike_59 k e
    · exact dk_X15_isLike_63 k e
theorem dk_X15_isLike {n : Nat} {g : Hp} {o : Int32 × Hp} {x0 : Nat} {x1 : Int32} {x2 : Int32} {h : Hp} (k : DyK n g h) (e : sX15_isLike h x0 x1 x2 = some o) : DyK n g o.2 := by
  unfold sX15_isLike at e
  replace e := cl_s e
  obtain ⟨r_1, _, e⟩ := e
  replace e := (gd_s e).2
  replace e := nm_s e
  obtain ⟨v_3, wv_3, e⟩ := e
  replace e := br_s e
  rcases e with ⟨_, e⟩ | ⟨_, e⟩
  · exact dk_X15_isLike_31 k e
  · replace e := cl_s e
    obtain ⟨r_5, _, e⟩ := e
    replace e := (gd_s e).2
    replace e := br_s e
    rcases e with ⟨_, e⟩ | ⟨_, e⟩
    · exact dk_X15_isLike_59 k e
    · exact dk_X15_isLike_31 k e
theorem dk_X15_stateOf_160 {n : Nat} {g : Hp} {F : Nat} {o : Int32 × Hp} : ∀ (f : Nat) {h : Hp} {x0 : Nat} {x2 : Int32} {x3 : Int32} {x4 : Int32} {x5 : Int32}, DyK n g h → sX15_stateOf_160 F f h x0 x2 x3 x4 x5 = some o → DyK n g o.2 := by
  intro f
  induction f with
  | zero => intro h x0 x2 x3 x4 x5 _ e; exact absurd e (by rw [sX15_stateOf_160]; exact fun z => nomatch z)
  | succ f ih =>
    intro h x0 x2 x3 x4 x5 k e
    rw [sX15_stateOf_160] at e
    replace e := br_s e
    rcases e with ⟨_, e⟩ | ⟨_, e⟩
    · replace e := cl_s e
      obtain ⟨r_2, _, e⟩ := e
      replace e := (gd_s e).2
      rw [← Option.some.inj e]; exact k
    · replace e := cl_s e
      obtain ⟨r_4, _, e⟩ := e
      replace e := (gd_s e).2
      replace e := nm_s e
      obtain ⟨v_6, wv_6, e⟩ := e
      replace e := nm_s e
      obtain ⟨v_7, wv_7, e⟩ := e
      exact ih k e
theorem dk_X15_stateOf_111 {n : Nat} {g : Hp} {F : Nat} {o : Int32 × Hp} {x0 : Nat} {x1 : Int32} {x2 : Int32} {x3 : Int32} {x4 : Int32} {x5 : Int32} {x6 : Int32} {k_2 : Hp → Nat → Int32 → Int32 → Int32 → Option (Int32 × Hp)} (R_2 : ∀ {h : Hp} {y1 : Nat} {y2 : Int32} {y3 : Int32} {y4 : Int32}, DyK n g h → k_2 h y1 y2 y3 y4 = some o → DyK n g o.2) {h : Hp} (k : DyK n g h) (e : sX15_stateOf_111 F k_2 h x0 x1 x2 x3 x4 x5 x6 = some o) : DyK n g o.2 := by
  unfold sX15_stateOf_111 at e
  replace e := cl_s e
  obtain ⟨r_1, _, e⟩ := e
  replace e := (gd_s e).2
  replace e := nm_s e
  obtain ⟨h_3, wh_3, e⟩ := e
  have kh_3 : DyK n g h_3 := by rw [wh_3]; exact dk_wI k
  replace e := cl_s e
  obtain ⟨r_4, _, e⟩ := e
  replace e := (gd_s e).2
  replace e := nm_s e
  obtain ⟨h_6, wh_6, e⟩ := e
  have kh_6 : DyK n g h_6 := by rw [wh_6]; exact dk_wI kh_3
  replace e := nm_s e
  obtain ⟨v_7, wv_7, e⟩ := e
  exact R_2 kh_6 e
theorem dk_X15_stateOf_73 {n : Nat} {g : Hp} {F : Nat} {o : Int32 × Hp} {x0 : Nat} {x1 : Int32} {x2 : Int32} {x3 : Int32} {x4 : Int32} {x5 : Int32} {x6 : Int32} {k_2 : Hp → Nat → Int32 → Int32 → Int32 → Option (Int32 × Hp)} (R_2 : ∀ {h : Hp} {y1 : Nat} {y2 : Int32} {y3 : Int32} {y4 : Int32}, DyK n g h → k_2 h y1 y2 y3 y4 = some o → DyK n g o.2) {k_26 : Hp → Nat → Int32 → Int32 → Int32 → Int32 → Int32 → Int32 → Option (Int32 × Hp)} (R_26 : ∀ {h : Hp} {y1 : Nat} {y2 : Int32} {y3 : Int32} {y4 : Int32} {y5 : Int32} {y6 : Int32} {y7 : Int32}, DyK n g h → k_26 h y1 y2 y3 y4 y5 y6 y7 = some o → DyK n g o.2) {h : Hp} (k : DyK n g h) (e : sX15_stateOf_73 F k_2 k_26 h x0 x1 x2 x3 x4 x5 x6 = some o) : DyK n g o.2 := by
  unfold sX15_stateOf_73 at e
  replace e := cl_s e
  obtain ⟨r_1, _, e⟩ := e
  replace e := cl_s e
  obtain ⟨r_2, _, e⟩ := e
  replace e := (gd_s e).2
  replace e := (gd_s e).2
  replace e := nm_s e
  obtain ⟨h_5, wh_5, e⟩ := e
  have kh_5 : DyK n g h_5 := by rw [wh_5]; exact dk_wI k
  replace e := cl_s e
  obtain ⟨r_6, _, e⟩ := e
  replace e := cl_s e
  obtain ⟨r_7, _, e⟩ := e
  replace e := (gd_s e).2
  replace e := (gd_s e).2
  replace e := nm_s e
  obtain ⟨h_10, wh_10, e⟩ := e
  have kh_10 : DyK n g h_10 := by rw [wh_10]; exact dk_wI kh_5
  replace e := nm_s e
  obtain ⟨v_11, wv_11, e⟩ := e
  exact R_26 kh_10 e
theorem dk_X15_stateOf_26 {n : Nat} {g : Hp} {F : Nat} {o : Int32 × Hp} {k_2 : Hp → Nat → Int32 → Int32 → Int32 → Option (Int32 × Hp)} (R_2 : ∀ {h : Hp} {y1 : Nat} {y2 : Int32} {y3 : Int32} {y4 : Int32}, DyK n g h → k_2 h y1 y2 y3 y4 = some o → DyK n g o.2) : ∀ (f : Nat) {h : Hp} {x0 : Nat} {x1 : Int32} {x2 : Int32} {x3 : Int32} {x4 : Int32} {x5 : Int32} {x6 : Int32}, DyK n g h → sX15_stateOf_26 F k_2 f h x0 x1 x2 x3 x4 x5 x6 = some o → DyK n g o.2 := by
  intro f
  induction f with
  | zero => intro h x0 x1 x2 x3 x4 x5 x6 _ e; exact absurd e (by rw [sX15_stateOf_26]; exact fun z => nomatch z)
  | succ f ih =>
    intro h x0 x1 x2 x3 x4 x5 x6 k e
    rw [sX15_stateOf_26] at e
    replace e := br_s e
    rcases e with ⟨_, e⟩ | ⟨_, e⟩
    · exact dk_X15_stateOf_111 R_2 k e
    · replace e := cl_s e
      obtain ⟨r_2, _, e⟩ := e
      replace e := (gd_s e).2
      replace e := br_s e
      rcases e with ⟨_, e⟩ | ⟨_, e⟩
      · exact dk_X15_stateOf_73 R_2 (fun k e => ih k e) k e
      · replace e := cl_s e
        obtain ⟨r_5, _, e⟩ := e
        replace e := (gd_s e).2
        replace e := br_s e
        rcases e with ⟨_, e⟩ | ⟨_, e⟩
        · replace e := cl_s e
          obtain ⟨r_8, _, e⟩ := e
          replace e := (gd_s e).2
          replace e := br_s e
          rcases e with ⟨_, e⟩ | ⟨_, e⟩
          · exact dk_X15_stateOf_111 R_2 k e
          · exact dk_X15_stateOf_73 R_2 (fun k e => ih k e) k e
        · exact dk_X15_stateOf_111 R_2 k e
theorem dk_X15_stateOf_2 {n : Nat} {g : Hp} {F : Nat} {o : Int32 × Hp} : ∀ (f : Nat) {h : Hp} {x0 : Nat} {x1 : Int32} {x2 : Int32} {x3 : Int32}, DyK n g h → sX15_stateOf_2 F f h x0 x1 x2 x3 = some o → DyK n g o.2 := by
  intro f
  induction f with
  | zero => intro h x0 x1 x2 x3 _ e; exact absurd e (by rw [sX15_stateOf_2]; exact fun z => nomatch z)
  | succ f ih =>
    intro h x0 x1 x2 x3 k e
    rw [sX15_stateOf_2] at e
    replace e := br_s e
    rcases e with ⟨_, e⟩ | ⟨_, e⟩
    · replace e := cl_s e
      obtain ⟨r_2, _, e⟩ := e
      replace e := cl_s e
      obtain ⟨o_3, eo_3, e⟩ := e
      have ko_3 : DyK n g o_3.2 := dk_X15_findSet k eo_3
      replace e := br_s e
      rcases e with ⟨_, e⟩ | ⟨_, e⟩
      · rw [← Option.some.inj e]; exact ko_3
      · replace e := nm_s e
        obtain ⟨v_5, wv_5, e⟩ := e
        exact dk_X15_stateOf_160 F ko_3 e
    · replace e := cl_s e
      obtain ⟨r_6, _, e⟩ := e
      replace e := (gd_s e).2
      replace e := nm_s e
      obtain ⟨v_8, wv_8, e⟩ := e
      replace e := cl_s e
      obtain ⟨r_9, _, e⟩ := e
      replace e := (gd_s e).2
      replace e := nm_s e
      obtain ⟨v_11, wv_11, e⟩ := e
      exact dk_X15_stateOf_26 (fun k e => ih k e) F k e
theorem dk_X15_stateOf {n : Nat} {g : Hp} {F : Nat} {o : Int32 × Hp} {x0 : Nat} {x1 : Int32} {x2 : Int32} {h : Hp} (k : DyK n g h) (e : sX15_stateOf F h x0 x1 x2 = some o) : DyK n g o.2 := by
  unfold sX15_stateOf at e
  exact dk_X15_stateOf_2 F k e
theorem dk_X15_stateBehind_90 {n : Nat} {g : Hp} {F : Nat} {o : Int32 × Hp} {x0 : Nat} {x1 : Int32} {x2 : Int32} {x3 : Int32} {x4 : Int32} {x5 : Int32} {x6 : Int32} {x7 : Int32} {k_6 : Hp → Nat → Int32 → Int32 → Int32 → Int32 → Int32 → Int32 → Int32 → Option (Int32 × Hp)} (R_6 : ∀ {h : Hp} {y1 : Nat} {y2 : Int32} {y3 : Int32} {y4 : Int32} {y5 : Int32} {y6 : Int32} {y7 : Int32} {y8 : Int32}, DyK n g h → k_6 h y1 y2 y3 y4 y5 y6 y7 y8 = some o → DyK n g o.2) {h : Hp} (k : DyK n g h) (e : sX15_stateBehind_90 F k_6 h x0 x1 x2 x3 x4 x5 x6 x7 = some o) : DyK n g o.2 := by
  unfold sX15_stateBehind_90 at e
  replace e := nm_s e
  obtain ⟨v_1, wv_1, e⟩ := e
  exact R_6 k e
theorem dk_X15_stateBehind_86 {n : Nat} {g : Hp} {F : Nat} {o : Int32 × Hp} {x0 : Nat} {x1 : Int32} {x2 : Int32} {x3 : Int32} {x4 : Int32} {x5 : Int32} {x6 : Int32} {x7 : Int32} {t0 : Int32} {t1 : Int32} {t2 : Nat} {k_6 : Hp → Nat → Int32 → Int32 → Int32 → Int32 → Int32 → Int32 → Int32 → Option (Int32 × Hp)} (R_6 : ∀ {h : Hp} {y1 : Nat} {y2 : Int32} {y3 : Int32} {y4 : Int32} {y5 : Int32} {y6 : Int32} {y7 : Int32} {y8 : Int32}, DyK n g h → k_6 h y1 y2 y3 y4 y5 y6 y7 y8 = some o → DyK n g o.2) {h : Hp} (k : DyK n g h) (e : sX15_stateBehind_86 F k_6 h x0 x1 x2 x3 x4 x5 x6 x7 t0 t1 t2 = some o) : DyK n g o.2 := by
  unfold sX15_stateBehind_86 at e
  replace e := (gd_s e).2
  replace e := nm_s e
  obtain ⟨h_2, wh_2, e⟩ := e
  have kh_2 : DyK n g h_2 := by rw [wh_2]; exact dk_wI k
  replace e := nm_s e
  obtain ⟨v_3, wv_3, e⟩ := e
  exact dk_X15_stateBehind_90 R_6 kh_2 e
theorem dk_X15_stateBehind_62 {n : Nat} {g : Hp} {F : Nat} {o : Int32 × Hp} {x0 : Nat} {x1 : Int32} {x2 : Int32} {x3 : Int32} {x4 : Int32} {x5 : Int32} {x6 : Int32} {x7 : Int32} {t0 : Int32} {t1 : Int32} {t2 : Nat} {k_6 : Hp → Nat → Int32 → Int32 → Int32 → Int32 → Int32 → Int32 → Int32 → Option (Int32 × Hp)} (R_6 : ∀ {h : Hp} {y1 : Nat} {y2 : Int32} {y3 : Int32} {y4 : Int32} {y5 : Int32} {y6 : Int32} {y7 : Int32} {y8 : Int32}, DyK n g h → k_6 h y1 y2 y3 y4 y5 y6 y7 y8 = some o → DyK n g o.2) {h : Hp} (k : DyK n g h) (e : sX15_stateBehind_62 F k_6 h x0 x1 x2 x3 x4 x5 x6 x7 t0 t1 t2 = some o) : DyK n g o.2 := by
  unfold sX15_stateBehind_62 at e
  replace e := (gd_s e).2
  replace e := nm_s e
  obtain ⟨h_2, wh_2, e⟩ := e
  have kh_2 : DyK n g h_2 := by rw [wh_2]; exact dk_wI k
  replace e := cl_s e
  obtain ⟨r_3, _, e⟩ := e
  replace e := br_s e
  rcases e with ⟨_, e⟩ | ⟨_, e⟩
  · exact dk_X15_stateBehind_86 R_6 kh_2 e
  · replace e := cl_s e
    obtain ⟨r_5, _, e⟩ := e
    replace e := (gd_s e).2
    exact dk_X15_stateBehind_86 R_6 kh_2 e
theorem dk_X15_stateBehind_34 {n : Nat} {g : Hp} {F : Nat} {o : Int32 × Hp} {x0 : Nat} {x1 : Int32} {x2 : Int32} {x3 : Int32} {x4 : Int32} {x5 : Int32} {x6 : Int32} {x7 : Int32} {k_6 : Hp → Nat → Int32 → Int32 → Int32 → Int32 → Int32 → Int32 → Int32 → Option (Int32 × Hp)} (R_6 : ∀ {h : Hp} {y1 : Nat} {y2 : Int32} {y3 : Int32} {y4 : Int32} {y5 : Int32} {y6 : Int32} {y7 : Int32} {y8 : Int32}, DyK n g h → k_6 h y1 y2 y3 y4 y5 y6 y7 y8 = some o → DyK n g o.2) {h : Hp} (k : DyK n g h) (e : sX15_stateBehind_34 F k_6 h x0 x1 x2 x3 x4 x5 x6 x7 = some o) : DyK n g o.2 := by
  unfold sX15_stateBehind_34 at e
  replace e := cl_s e
  obtain ⟨r_1, _, e⟩ := e
  replace e := br_s e
  rcases e with ⟨_, e⟩ | ⟨_, e⟩
  · exact dk_X15_stateBehind_62 R_6 k e
  · replace e := cl_s e
    obtain ⟨r_3, _, e⟩ := e
    replace e := (gd_s e).2
    exact dk_X15_stateBehind_62 R_6 k e
theorem dk_X15_stateBehind_6 {n : Nat} {g : Hp} {F : Nat} {o : Int32 × Hp} : ∀ (f : Nat) {h : Hp} {x0 : Nat} {x1 : Int32} {x2 : Int32} {x3 : Int32} {x4 : Int32} {x5 : Int32} {x6 : Int32} {x7 : Int32}, DyK n g h → sX15_stateBehind_6 F f h x0 x1 x2 x3 x4 x5 x6 x7 = some o → DyK n g o.2 := by
  intro f
  induction f with
  | zero => intro h x0 x1 x2 x3 x4 x5 x6 x7 _ e; exact absurd e (by rw [sX15_stateBehind_6]; exact fun z => nomatch z)
  | succ f ih =>
    intro h x0 x1 x2 x3 x4 x5 x6 x7 k e
    rw [sX15_stateBehind_6] at e
    replace e := cl_s e
    obtain ⟨r_1, _, e⟩ := e
    replace e := (gd_s e).2
    replace e := br_s e
    rcases e with ⟨_, e⟩ | ⟨_, e⟩
    · replace e := cl_s e
      obtain ⟨o_4, eo_4, e⟩ := e
      have ko_4 : DyK n g o_4.2 := dk_X15_stateOf k eo_4
      rw [← Option.some.inj e]; exact ko_4
    · replace e := br_s e
      rcases e with ⟨_, e⟩ | ⟨_, e⟩
      · exact dk_X15_stateBehind_34 (fun k e => ih k e) k e
      · replace e := cl_s e
        obtain ⟨r_6, _, e⟩ := e
        replace e := (gd_s e).2
        replace e := br_s e
        rcases e with ⟨_, e⟩ | ⟨_, e⟩
        · exact dk_X15_stateBehind_90 (fun k e => ih k e) k e
        · exact dk_X15_stateBehind_34 (fun k e => ih k e) k e
theorem dk_X15_stateBehind {n : Nat} {g : Hp} {F : Nat} {o : Int32 × Hp} {x0 : Nat} {x1 : Int32} {x2 : Int32} {x3 : Int32} {x4 : Int32} {x5 : Int32} {h : Hp} (k : DyK n g h) (e : sX15_stateBehind F h x0 x1 x2 x3 x4 x5 = some o) : DyK n g o.2 := by
  unfold sX15_stateBehind at e
  exact dk_X15_stateBehind_6 F k e
theorem dk_X15_meet_51 {n : Nat} {g : Hp} {o : Hp} {t0 : Int32} {t1 : Int32} {t2 : Nat} {h : Hp} (k : DyK n g h) (e : sX15_meet_51 h t0 t1 t2 = some o) : DyK n g o := by
  unfold sX15_meet_51 at e
  replace e := (gd_s e).2
  replace e := nm_s e
  obtain ⟨h_2, wh_2, e⟩ := e
  have kh_2 : DyK n g h_2 := by rw [wh_2]; exact dk_wI k
  rw [← Option.some.inj e]; exact kh_2
theorem dk_X15_meet_50 {n : Nat} {g : Hp} {o : Hp} {t0 : Int32} {t1 : Nat} {h : Hp} (k : DyK n g h) (e : sX15_meet_50 h t0 t1 = some o) : DyK n g o := by
  unfold sX15_meet_50 at e
  exact dk_X15_meet_51 k e
theorem dk_X15_meet_21 {n : Nat} {g : Hp} {o : Hp} {x0 : Nat} {x1 : Int32} {x2 : Int32} {t0 : Int32} {t1 : Int32} {t2 : Nat} {h : Hp} (k : DyK n g h) (e : sX15_meet_21 h x0 x1 x2 t0 t1 t2 = some o) : DyK n g o := by
  unfold sX15_meet_21 at e
  replace e := (gd_s e).2
  replace e := nm_s e
  obtain ⟨h_2, wh_2, e⟩ := e
  have kh_2 : DyK n g h_2 := by rw [wh_2]; exact dk_wI k
  replace e := br_s e
  rcases e with ⟨_, e⟩ | ⟨_, e⟩
  · exact dk_X15_meet_50 kh_2 e
  · replace e := br_s e
    rcases e with ⟨_, e⟩ | ⟨_, e⟩
    · exact dk_X15_meet_50 kh_2 e
    · exact dk_X15_meet_51 kh_2 e
theorem dk_X15_meet {n : Nat} {g : Hp} {o : Hp} {x0 : Nat} {x1 : Int32} {x2 : Int32} {h : Hp} (k : DyK n g h) (e : sX15_meet h x0 x1 x2 = some o) : DyK n g o := by
  unfold sX15_meet at e
  replace e := br_s e
  rcases e with ⟨_, e⟩ | ⟨_, e⟩
  · exact dk_X15_meet_21 k e
  · exact dk_X15_meet_21 k e
theorem dk_X15_meetAll_260 {n : Nat} {g : Hp} {F : Nat} {o : Hp} {x6 : Int32} {t0 : Int32} {t1 : Nat} {t2 : Nat} {h : Hp} (k : DyK n g h) (e : sX15_meetAll_260 F h x6 t0 t1 t2 = some o) : DyK n g o := by
  unfold sX15_meetAll_260 at e
  replace e := (gd_s e).2
  replace e := cl_s e
  obtain ⟨o_2, eo_2, e⟩ := e
  have ko_2 : DyK n g o_2 := dk_X15_meet k eo_2
  rw [← Option.some.inj e]; exact ko_2
theorem dk_X15_meetAll_198 {n : Nat} {g : Hp} {F : Nat} {o : Hp} {x0 : Nat} {x1 : Int32} {x2 : Int32} {x3 : Int32} {x4 : Int32} {x5 : Int32} {x6 : Int32} {x7 : Int32} {x8 : Int32} {x11 : Int32} {t0 : Int32} {t1 : Int32} {k_168 : Hp → Nat → Int32 → Int32 → Int32 → Int32 → Int32 → Int32 → Int32 → Int32 → Int32 → Int32 → Option (Hp)} (R_168 : ∀ {h : Hp} {y1 : Nat} {y2 : Int32} {y3 : Int32} {y4 : Int32} {y5 : Int32} {y6 : Int32} {y7 : Int32} {y8 : Int32} {y9 : Int32} {y10 : Int32} {y11 : Int32}, DyK n g h → k_168 h y1 y2 y3 y4 y5 y6 y7 y8 y9 y10 y11 = some o → DyK n g o) {h : Hp} (k : DyK n g h) (e : sX15_meetAll_198 F k_168 h x0 x1 x2 x3 x4 x5 x6 x7 x8 x11 t0 t1 = some o) : DyK n g o := by
  unfold sX15_meetAll_198 at e
  replace e := nm_s e
  obtain ⟨v_1, wv_1, e⟩ := e
  replace e := nm_s e
  obtain ⟨v_2, wv_2, e⟩ := e
  exact R_168 k e
theorem dk_X15_meetAll_168 {n : Nat} {g : Hp} {F : Nat} {o : Hp} : ∀ (f : Nat) {h : Hp} {x0 : Nat} {x1 : Int32} {x2 : Int32} {x3 : Int32} {x4 : Int32} {x5 : Int32} {x6 : Int32} {x7 : Int32} {x8 : Int32} {x10 : Int32} {x11 : Int32}, DyK n g h → sX15_meetAll_168 F f h x0 x1 x2 x3 x4 x5 x6 x7 x8 x10 x11 = some o → DyK n g o := by
  intro f
  induction f with
  | zero => intro h x0 x1 x2 x3 x4 x5 x6 x7 x8 x10 x11 _ e; exact absurd e (by rw [sX15_meetAll_168]; exact fun z => nomatch z)
  | succ f ih =>
    intro h x0 x1 x2 x3 x4 x5 x6 x7 x8 x10 x11 k e
    rw [sX15_meetAll_168] at e
    replace e := cl_s e
    obtain ⟨r_1, _, e⟩ := e
    replace e := (gd_s e).2
    replace e := br_s e
    rcases e with ⟨_, e⟩ | ⟨_, e⟩
    · replace e := cl_s e
      obtain ⟨r_4, _, e⟩ := e
      replace e := br_s e
      rcases e with ⟨_, e⟩ | ⟨_, e⟩
      · replace e := cl_s e
        obtain ⟨o_6, eo_6, e⟩ := e
        have ko_6 : DyK n g o_6.2 := dk_X15_stateBehind k eo_6
        exact dk_X15_meetAll_260 ko_6 e
      · replace e := cl_s e
        obtain ⟨r_7, _, e⟩ := e
        replace e := (gd_s e).2
        replace e := cl_s e
        obtain ⟨r_9, _, e⟩ := e
        replace e := (gd_s e).2
        exact dk_X15_meetAll_260 k e
    · replace e := cl_s e
      obtain ⟨r_11, _, e⟩ := e
      replace e := (gd_s e).2
      replace e := br_s e
      rcases e with ⟨_, e⟩ | ⟨_, e⟩
      · exact dk_X15_meetAll_198 (fun k e => ih k e) k e
      · exact dk_X15_meetAll_198 (fun k e => ih k e) k e
theorem dk_X15_meetAll_163 {n : Nat} {g : Hp} {F : Nat} {o : Hp} {x0 : Nat} {x1 : Int32} {x2 : Int32} {x3 : Int32} {x4 : Int32} {x5 : Int32} {x6 : Int32} {x7 : Int32} {x8 : Int32} {t0 : Int32} {h : Hp} (k : DyK n g h) (e : sX15_meetAll_163 F h x0 x1 x2 x3 x4 x5 x6 x7 x8 t0 = some o) : DyK n g o := by
  unfold sX15_meetAll_163 at e
  exact dk_X15_meetAll_168 F k e
theorem dk_X15_meetAll_149 {n : Nat} {g : Hp} {F : Nat} {o : Hp} {x0 : Nat} {x1 : Int32} {x2 : Int32} {x3 : Int32} {x4 : Int32} {x5 : Int32} {x6 : Int32} {x7 : Int32} {x8 : Int32} {h : Hp} (k : DyK n g h) (e : sX15_meetAll_149 F h x0 x1 x2 x3 x4 x5 x6 x7 x8 = some o) : DyK n g o := by
  unfold sX15_meetAll_149 at e
  replace e := cl_s e
  obtain ⟨o_1, eo_1, e⟩ := e
  have ko_1 : DyK n g o_1.2 := dk_X15_isLike k eo_1
  replace e := br_s e
  rcases e with ⟨_, e⟩ | ⟨_, e⟩
  · exact dk_X15_meetAll_163 ko_1 e
  · exact dk_X15_meetAll_163 ko_1 e
theorem dk_X15_meetAll_142 {n : Nat} {g : Hp} {F : Nat} {o : Hp} {x0 : Nat} {x1 : Int32} {x3 : Int32} {x4 : Int32} {x6 : Int32} {x8 : Int32} {x9 : Int32} {x10 : Int32} {k_51 : Hp → Nat → Int32 → Int32 → Int32 → Int32 → Int32 → Int32 → Int32 → Option (Hp)} (R_51 : ∀ {h : Hp} {y1 : Nat} {y2 : Int32} {y3 : Int32} {y4 : Int32} {y5 : Int32} {y6 : Int32} {y7 : Int32} {y8 : Int32}, DyK n g h → k_51 h y1 y2 y3 y4 y5 y6 y7 y8 = some o → DyK n g o) {h : Hp} (k : DyK n g h) (e : sX15_meetAll_142 F k_51 h x0 x1 x3 x4 x6 x8 x9 x10 = some o) : DyK n g o := by
  unfold sX15_meetAll_142 at e
  replace e := nm_s e
  obtain ⟨v_1, wv_1, e⟩ := e
  exact R_51 k e
theorem dk_X15_meetAll_129 {n : Nat} {g : Hp} {F : Nat} {o : Hp} {x0 : Nat} {x1 : Int32} {x3 : Int32} {x4 : Int32} {x6 : Int32} {x8 : Int32} {x9 : Int32} {x10 : Int32} {x11 : Int32} {k_51 : Hp → Nat → Int32 → Int32 → Int32 → Int32 → Int32 → Int32 → Int32 → Option (Hp)} (R_51 : ∀ {h : Hp} {y1 : Nat} {y2 : Int32} {y3 : Int32} {y4 : Int32} {y5 : Int32} {y6 : Int32} {y7 : Int32} {y8 : Int32}, DyK n g h → k_51 h y1 y2 y3 y4 y5 y6 y7 y8 = some o → DyK n g o) {h : Hp} (k : DyK n g h) (e : sX15_meetAll_129 F k_51 h x0 x1 x3 x4 x6 x8 x9 x10 x11 = some o) : DyK n g o := by
  unfold sX15_meetAll_129 at e
  replace e := cl_s e
  obtain ⟨r_1, _, e⟩ := e
  replace e := (gd_s e).2
  replace e := cl_s e
  obtain ⟨o_3, eo_3, e⟩ := e
  have ko_3 : DyK n g o_3 := dk_X15_meet k eo_3
  exact dk_X15_meetAll_142 R_51 ko_3 e
theorem dk_X15_meetAll_51 {n : Nat} {g : Hp} {F : Nat} {o : Hp} : ∀ (f : Nat) {h : Hp} {x0 : Nat} {x1 : Int32} {x3 : Int32} {x4 : Int32} {x6 : Int32} {x8 : Int32} {x9 : Int32} {x10 : Int32}, DyK n g h → sX15_meetAll_51 F f h x0 x1 x3 x4 x6 x8 x9 x10 = some o → DyK n g o := by
  intro f
  induction f with
  | zero => intro h x0 x1 x3 x4 x6 x8 x9 x10 _ e; exact absurd e (by rw [sX15_meetAll_51]; exact fun z => nomatch z)
  | succ f ih =>
    intro h x0 x1 x3 x4 x6 x8 x9 x10 k e
    rw [sX15_meetAll_51] at e
    replace e := cl_s e
    obtain ⟨r_1, _, e⟩ := e
    replace e := cl_s e
    obtain ⟨r_2, _, e⟩ := e
    replace e := (gd_s e).2
    replace e := br_s e
    rcases e with ⟨_, e⟩ | ⟨_, e⟩
    · rw [← Option.some.inj e]; exact k
    · replace e := cl_s e
      obtain ⟨r_5, _, e⟩ := e
      replace e := cl_s e
      obtain ⟨r_6, _, e⟩ := e
      replace e := (gd_s e).2
      replace e := cl_s e
      obtain ⟨o_8, eo_8, e⟩ := e
      have ko_8 : DyK n g o_8.2 := dk_X15_valueOf k eo_8
      replace e := cl_s e
      obtain ⟨o_9, eo_9, e⟩ := e
      have ko_9 : DyK n g o_9.2 := dk_X15_stateBehind ko_8 eo_9
      replace e := cl_s e
      obtain ⟨r_10, _, e⟩ := e
      replace e := br_s e
      rcases e with ⟨_, e⟩ | ⟨_, e⟩
      · exact dk_X15_meetAll_129 (fun k e => ih k e) ko_9 e
      · replace e := cl_s e
        obtain ⟨r_12, _, e⟩ := e
        replace e := (gd_s e).2
        replace e := br_s e
        rcases e with ⟨_, e⟩ | ⟨_, e⟩
        · exact dk_X15_meetAll_129 (fun k e => ih k e) ko_9 e
        · exact dk_X15_meetAll_142 (fun k e => ih k e) ko_9 e
theorem dk_X15_meetAll {n : Nat} {g : Hp} {F : Nat} {o : Hp} {x0 : Nat} {x1 : Int32} {x2 : Int32} {x3 : Int32} {x4 : Int32} {x5 : Int32} {x6 : Int32} {h : Hp} (k : DyK n g h) (e : sX15_meetAll F h x0 x1 x2 x3 x4 x5 x6 = some o) : DyK n g o := by
  unfold sX15_meetAll at e
  replace e := cl_s e
  obtain ⟨r_1, _, e⟩ := e
  replace e := (gd_s e).2
  replace e := nm_s e
  obtain ⟨v_3, wv_3, e⟩ := e
  replace e := nm_s e
  obtain ⟨v_4, wv_4, e⟩ := e
  replace e := cl_s e
  obtain ⟨o_5, eo_5, e⟩ := e
  have ko_5 : DyK n g o_5.2 := dk_X15_manOf k eo_5
  replace e := cl_s e
  obtain ⟨o_6, eo_6, e⟩ := e
  have ko_6 : DyK n g o_6.2 := dk_X15_becomesOthers ko_5 eo_6
  replace e := br_s e
  rcases e with ⟨_, e⟩ | ⟨_, e⟩
  · exact dk_X15_meetAll_149 ko_6 e
  · replace e := cl_s e
    obtain ⟨o_8, eo_8, e⟩ := e
    have ko_8 : DyK n g o_8.2 := dk_X15_rankFor ko_6 eo_8
    replace e := br_s e
    rcases e with ⟨_, e⟩ | ⟨_, e⟩
    · exact dk_X15_meetAll_51 F ko_8 e
    · exact dk_X15_meetAll_149 ko_8 e
theorem dk_X15_worthNow_125 {n : Nat} {g : Hp} {F : Nat} {o : Int32 × Hp} {k_73 : Hp → Nat → Int32 → Int32 → Int32 → Int32 → Int32 → Int32 → Int32 → Option (Int32 × Hp)} (R_73 : ∀ {h : Hp} {y1 : Nat} {y2 : Int32} {y3 : Int32} {y4 : Int32} {y5 : Int32} {y6 : Int32} {y7 : Int32} {y8 : Int32}, DyK n g h → k_73 h y1 y2 y3 y4 y5 y6 y7 y8 = some o → DyK n g o.2) : ∀ (f : Nat) {h : Hp} {x0 : Nat} {x1 : Int32} {x2 : Int32} {x3 : Int32} {x4 : Int32} {x5 : Int32} {x7 : Int32} {x8 : Int32} {x9 : Int64}, DyK n g h → sX15_worthNow_125 F k_73 f h x0 x1 x2 x3 x4 x5 x7 x8 x9 = some o → DyK n g o.2 := by
  intro f
  induction f with
  | zero => intro h x0 x1 x2 x3 x4 x5 x7 x8 x9 _ e; exact absurd e (by rw [sX15_worthNow_125]; exact fun z => nomatch z)
  | succ f ih =>
    intro h x0 x1 x2 x3 x4 x5 x7 x8 x9 k e
    rw [sX15_worthNow_125] at e
    replace e := br_s e
    rcases e with ⟨_, e⟩ | ⟨_, e⟩
    · exact dk_X15_worthNow_171 R_73 k e
    · replace e := br_s e
      rcases e with ⟨_, e⟩ | ⟨_, e⟩
      · replace e := cl_s e
        obtain ⟨o_3, eo_3, e⟩ := e
        have ko_3 : DyK n g o_3.2 := dk_J13_numberOfTrailingZeros_95d88 k eo_3
        replace e := nm_s e
        obtain ⟨v_4, wv_4, e⟩ := e
        replace e := cl_s e
        obtain ⟨o_5, eo_5, e⟩ := e
        have ko_5 : DyK n g o_5 := dk_X15_meetAll ko_3 eo_5
        exact ih ko_5 e
      · exact dk_X15_worthNow_171 R_73 k e
theorem dk_X15_worthNow_123 {n : Nat} {g : Hp} {F : Nat} {o : Int32 × Hp} {x0 : Nat} {x1 : Int32} {x2 : Int32} {x3 : Int32} {x4 : Int32} {x5 : Int32} {x7 : Int32} {x8 : Int32} {t0 : Int64} {k_73 : Hp → Nat → Int32 → Int32 → Int32 → Int32 → Int32 → Int32 → Int32 → Option (Int32 × Hp)} (R_73 : ∀ {h : Hp} {y1 : Nat} {y2 : Int32} {y3 : Int32} {y4 : Int32} {y5 : Int32} {y6 : Int32} {y7 : Int32} {y8 : Int32}, DyK n g h → k_73 h y1 y2 y3 y4 y5 y6 y7 y8 = some o → DyK n g o.2) {h : Hp} (k : DyK n g h) (e : sX15_worthNow_123 F k_73 h x0 x1 x2 x3 x4 x5 x7 x8 t0 = some o) : DyK n g o.2 := by
  unfold sX15_worthNow_123 at e
  exact dk_X15_worthNow_125 R_73 F k e
theorem dk_X15_worthNow_73 {n : Nat} {g : Hp} {F : Nat} {o : Int32 × Hp} : ∀ (f : Nat) {h : Hp} {x0 : Nat} {x1 : Int32} {x2 : Int32} {x3 : Int32} {x4 : Int32} {x5 : Int32} {x7 : Int32} {x8 : Int32}, DyK n g h → sX15_worthNow_73 F f h x0 x1 x2 x3 x4 x5 x7 x8 = some o → DyK n g o.2 := by
  intro f
  induction f with
  | zero => intro h x0 x1 x2 x3 x4 x5 x7 x8 _ e; exact absurd e (by rw [sX15_worthNow_73]; exact fun z => nomatch z)
  | succ f ih =>
    intro h x0 x1 x2 x3 x4 x5 x7 x8 k e
    rw [sX15_worthNow_73] at e
    replace e := br_s e
    rcases e with ⟨_, e⟩ | ⟨_, e⟩
    · exact dk_X15_worthNow_186 k e
    · replace e := br_s e
      rcases e with ⟨_, e⟩ | ⟨_, e⟩
      · replace e := cl_s e
        obtain ⟨r_3, _, e⟩ := e
        replace e := (gd_s e).2
        replace e := cl_s e
        obtain ⟨o_5, eo_5, e⟩ := e
        have ko_5 : DyK n g o_5.2 := dk_X15_sideOf k eo_5
        replace e := br_s e
        rcases e with ⟨_, e⟩ | ⟨_, e⟩
        · replace e := cl_s e
          obtain ⟨r_7, _, e⟩ := e
          replace e := cl_s e
          obtain ⟨o_8, eo_8, e⟩ := e
          have ko_8 : DyK n g o_8.2 := dk_X15_maskOf ko_5 eo_8
          replace e := (gd_s e).2
          exact dk_X15_worthNow_123 (fun k e => ih k e) ko_8 e
        · exact dk_X15_worthNow_123 (fun k e => ih k e) ko_5 e
      · exact dk_X15_worthNow_186 k e
theorem dk_X15_worthNow_21 {n : Nat} {g : Hp} {F : Nat} {o : Int32 × Hp} : ∀ (f : Nat) {h : Hp} {x0 : Nat} {x1 : Int32} {x2 : Int32} {x3 : Int32} {x4 : Int32} {x5 : Int32} {x6 : Int32} {x7 : Int32}, DyK n g h → sX15_worthNow_21 F f h x0 x1 x2 x3 x4 x5 x6 x7 = some o → DyK n g o.2 := by
  intro f
  induction f with
  | zero => intro h x0 x1 x2 x3 x4 x5 x6 x7 _ e; exact absurd e (by rw [sX15_worthNow_21]; exact fun z => nomatch z)
  | succ f ih =>
    intro h x0 x1 x2 x3 x4 x5 x6 x7 k e
    rw [sX15_worthNow_21] at e
    replace e := br_s e
    rcases e with ⟨_, e⟩ | ⟨_, e⟩
    · replace e := nm_s e
      obtain ⟨h_2, wh_2, e⟩ := e
      have kh_2 : DyK n g h_2 := by rw [wh_2]; exact dk_wI k
      replace e := nm_s e
      obtain ⟨h_3, wh_3, e⟩ := e
      have kh_3 : DyK n g h_3 := by rw [wh_3]; exact dk_wI kh_2
      exact dk_X15_worthNow_73 F kh_3 e
    · replace e := cl_s e
      obtain ⟨r_4, _, e⟩ := e
      replace e := (gd_s e).2
      replace e := (gd_s e).2
      replace e := nm_s e
      obtain ⟨h_7, wh_7, e⟩ := e
      have kh_7 : DyK n g h_7 := by rw [wh_7]; exact dk_wI k
      replace e := (gd_s e).2
      replace e := nm_s e
      obtain ⟨v_9, wv_9, e⟩ := e
      replace e := nm_s e
      obtain ⟨v_10, wv_10, e⟩ := e
      exact ih kh_7 e
theorem dk_X15_worthNow {n : Nat} {g : Hp} {F : Nat} {o : Int32 × Hp} {x0 : Nat} {x1 : Int32} {x2 : Int32} {x3 : Int32} {h : Hp} (k : DyK n g h) (e : sX15_worthNow F h x0 x1 x2 x3 = some o) : DyK n g o.2 := by
  unfold sX15_worthNow at e
  replace e := cl_s e
  obtain ⟨r_1, _, e⟩ := e
  replace e := (gd_s e).2
  replace e := nm_s e
  obtain ⟨v_3, wv_3, e⟩ := e
  replace e := nm_s e
  obtain ⟨v_4, wv_4, e⟩ := e
  replace e := nm_s e
  obtain ⟨v_5, wv_5, e⟩ := e
  exact dk_X15_worthNow_21 F k e
theorem dk_X15_workOut_91 {n : Nat} {g : Hp} {F : Nat} {o : Hp} {x0 : Nat} {x1 : Int32} {x2 : Int32} {x3 : Int32} {x4 : Int32} {x5 : Int32} {k_4 : Hp → Nat → Int32 → Int32 → Option (Hp)} (R_4 : ∀ {h : Hp} {y1 : Nat} {y2 : Int32} {y3 : Int32}, DyK n g h → k_4 h y1 y2 y3 = some o → DyK n g o) {k_12 : Hp → Nat → Int32 → Int32 → Int32 → Option (Hp)} (R_12 : ∀ {h : Hp} {y1 : Nat} {y2 : Int32} {y3 : Int32} {y4 : Int32}, DyK n g h → k_12 h y1 y2 y3 y4 = some o → DyK n g o) {k_30 : Hp → Nat → Int32 → Int32 → Int32 → Int32 → Int32 → Option (Hp)} (R_30 : ∀ {h : Hp} {y1 : Nat} {y2 : Int32} {y3 : Int32} {y4 : Int32} {y5 : Int32} {y6 : Int32}, DyK n g h → k_30 h y1 y2 y3 y4 y5 y6 = some o → DyK n g o) {h : Hp} (k : DyK n g h) (e : sX15_workOut_91 F k_4 k_12 k_30 h x0 x1 x2 x3 x4 x5 = some o) : DyK n g o := by
  unfold sX15_workOut_91 at e
  replace e := nm_s e
  obtain ⟨v_1, wv_1, e⟩ := e
  exact R_30 k e
theorem dk_X15_workOut_73 {n : Nat} {g : Hp} {F : Nat} {o : Hp} {x0 : Nat} {x1 : Int32} {x2 : Int32} {x3 : Int32} {x4 : Int32} {x5 : Int32} {x6 : Int32} {t0 : Int32} {k_4 : Hp → Nat → Int32 → Int32 → Option (Hp)} (R_4 : ∀ {h : Hp} {y1 : Nat} {y2 : Int32} {y3 : Int32}, DyK n g h → k_4 h y1 y2 y3 = some o → DyK n g o) {k_12 : Hp → Nat → Int32 → Int32 → Int32 → Option (Hp)} (R_12 : ∀ {h : Hp} {y1 : Nat} {y2 : Int32} {y3 : Int32} {y4 : Int32}, DyK n g h → k_12 h y1 y2 y3 y4 = some o → DyK n g o) {k_30 : Hp → Nat → Int32 → Int32 → Int32 → Int32 → Int32 → Option (Hp)} (R_30 : ∀ {h : Hp} {y1 : Nat} {y2 : Int32} {y3 : Int32} {y4 : Int32} {y5 : Int32} {y6 : Int32}, DyK n g h → k_30 h y1 y2 y3 y4 y5 y6 = some o → DyK n g o) {h : Hp} (k : DyK n g h) (e : sX15_workOut_73 F k_4 k_12 k_30 h x0 x1 x2 x3 x4 x5 x6 t0 = some o) : DyK n g o := by
  unfold sX15_workOut_73 at e
  replace e := br_s e
  rcases e with ⟨_, e⟩ | ⟨_, e⟩
  · exact dk_X15_workOut_91 R_4 R_12 R_30 k e
  · replace e := cl_s e
    obtain ⟨r_2, _, e⟩ := e
    replace e := (gd_s e).2
    replace e := nm_s e
    obtain ⟨h_4, wh_4, e⟩ := e
    have kh_4 : DyK n g h_4 := by rw [wh_4]; exact dk_wI k
    exact dk_X15_workOut_91 R_4 R_12 R_30 kh_4 e
theorem dk_X15_workOut_30 {n : Nat} {g : Hp} {F : Nat} {o : Hp} {k_4 : Hp → Nat → Int32 → Int32 → Option (Hp)} (R_4 : ∀ {h : Hp} {y1 : Nat} {y2 : Int32} {y3 : Int32}, DyK n g h → k_4 h y1 y2 y3 = some o → DyK n g o) {k_12 : Hp → Nat → Int32 → Int32 → Int32 → Option (Hp)} (R_12 : ∀ {h : Hp} {y1 : Nat} {y2 : Int32} {y3 : Int32} {y4 : Int32}, DyK n g h → k_12 h y1 y2 y3 y4 = some o → DyK n g o) : ∀ (f : Nat) {h : Hp} {x0 : Nat} {x1 : Int32} {x2 : Int32} {x3 : Int32} {x4 : Int32} {x5 : Int32}, DyK n g h → sX15_workOut_30 F k_4 k_12 f h x0 x1 x2 x3 x4 x5 = some o → DyK n g o := by
  intro f
  induction f with
  | zero => intro h x0 x1 x2 x3 x4 x5 _ e; exact absurd e (by rw [sX15_workOut_30]; exact fun z => nomatch z)
  | succ f ih =>
    intro h x0 x1 x2 x3 x4 x5 k e
    rw [sX15_workOut_30] at e
    replace e := br_s e
    rcases e with ⟨_, e⟩ | ⟨_, e⟩
    · replace e := nm_s e
      obtain ⟨v_2, wv_2, e⟩ := e
      exact R_12 k e
    · replace e := cl_s e
      obtain ⟨r_3, _, e⟩ := e
      replace e := (gd_s e).2
      replace e := nm_s e
      obtain ⟨v_5, wv_5, e⟩ := e
      replace e := cl_s e
      obtain ⟨r_6, _, e⟩ := e
      replace e := (gd_s e).2
      replace e := br_s e
      rcases e with ⟨_, e⟩ | ⟨_, e⟩
      · replace e := cl_s e
        obtain ⟨o_9, eo_9, e⟩ := e
        have ko_9 : DyK n g o_9.2 := dk_X15_worthNow k eo_9
        exact dk_X15_workOut_73 R_4 R_12 (fun k e => ih k e) ko_9 e
      · exact dk_X15_workOut_73 R_4 R_12 (fun k e => ih k e) k e
theorem dk_X15_workOut_12 {n : Nat} {g : Hp} {F : Nat} {o : Hp} {k_4 : Hp → Nat → Int32 → Int32 → Option (Hp)} (R_4 : ∀ {h : Hp} {y1 : Nat} {y2 : Int32} {y3 : Int32}, DyK n g h → k_4 h y1 y2 y3 = some o → DyK n g o) : ∀ (f : Nat) {h : Hp} {x0 : Nat} {x1 : Int32} {x2 : Int32} {x3 : Int32}, DyK n g h → sX15_workOut_12 F k_4 f h x0 x1 x2 x3 = some o → DyK n g o := by
  intro f
  induction f with
  | zero => intro h x0 x1 x2 x3 _ e; exact absurd e (by rw [sX15_workOut_12]; exact fun z => nomatch z)
  | succ f ih =>
    intro h x0 x1 x2 x3 k e
    rw [sX15_workOut_12] at e
    replace e := br_s e
    rcases e with ⟨_, e⟩ | ⟨_, e⟩
    · replace e := nm_s e
      obtain ⟨v_2, wv_2, e⟩ := e
      exact R_4 k e
    · replace e := cl_s e
      obtain ⟨o_3, eo_3, e⟩ := e
      have ko_3 : DyK n g o_3.2 := dk_X15_sizeOf k eo_3
      exact dk_X15_workOut_30 R_4 (fun k e => ih k e) F ko_3 e
theorem dk_X15_workOut_4 {n : Nat} {g : Hp} {F : Nat} {o : Hp} : ∀ (f : Nat) {h : Hp} {x0 : Nat} {x1 : Int32} {x2 : Int32}, DyK n g h → sX15_workOut_4 F f h x0 x1 x2 = some o → DyK n g o := by
  intro f
  induction f with
  | zero => intro h x0 x1 x2 _ e; exact absurd e (by rw [sX15_workOut_4]; exact fun z => nomatch z)
  | succ f ih =>
    intro h x0 x1 x2 k e
    rw [sX15_workOut_4] at e
    replace e := br_s e
    rcases e with ⟨_, e⟩ | ⟨_, e⟩
    · exact dk_X15_workOut_111 F k e
    · exact dk_X15_workOut_12 (fun k e => ih k e) F k e
theorem dk_X15_workOut {n : Nat} {g : Hp} {F : Nat} {o : Hp} {x0 : Nat} {h : Hp} (k : DyK n g h) (e : sX15_workOut F h x0 = some o) : DyK n g o := by
  unfold sX15_workOut at e
  exact dk_X15_workOut_4 F k e
theorem dk_X15_solve_408 {n : Nat} {g : Hp} {F : Nat} {o : Int32 × Hp} {h : Hp} (k : DyK n g h) (e : sX15_solve_408 F h (n + 513) = some o) : DyK n g o.2 := by
  unfold sX15_solve_408 at e
  replace e := nm_s e
  obtain ⟨h_1, wh_1, e⟩ := e
  have kh_1 : DyK n g h_1 := by rw [wh_1]; exact dk_wI k
  rw [← Option.some.inj e]; exact kh_1
theorem dk_X15_layState_109 {n : Nat} {g : Hp} {F : Nat} {o : Int32 × Hp} {h : Hp} (k : DyK n g h) (e : sX15_layState_109 F h = some o) : DyK n g o.2 := by
  unfold sX15_layState_109 at e
  rw [← Option.some.inj e]; exact k
theorem dk_X15_layState_111 {n : Nat} {g : Hp} {F : Nat} {o : Int32 × Hp} {x0 : Nat} {x1 : Int32} {x3 : Int32} {x5 : Int32} {x6 : Int32} {x7 : Int32} {k_27 : Hp → Nat → Int32 → Int32 → Int32 → Int32 → Option (Int32 × Hp)} (R_27 : ∀ {h : Hp} {y1 : Nat} {y2 : Int32} {y3 : Int32} {y4 : Int32} {y5 : Int32}, DyK n g h → k_27 h y1 y2 y3 y4 y5 = some o → DyK n g o.2) {h : Hp} (k : DyK n g h) (e : sX15_layState_111 F k_27 h x0 x1 x3 x5 x6 x7 = some o) : DyK n g o.2 := by
  unfold sX15_layState_111 at e
  replace e := cl_s e
  obtain ⟨r_1, _, e⟩ := e
  replace e := cl_s e
  obtain ⟨r_2, _, e⟩ := e
  replace e := (gd_s e).2
  replace e := nm_s e
  obtain ⟨h_4, wh_4, e⟩ := e
  have kh_4 : DyK n g h_4 := by rw [wh_4]; exact dk_wI k
  replace e := nm_s e
  obtain ⟨v_5, wv_5, e⟩ := e
  exact R_27 kh_4 e
theorem dk_X15_layState_27 {n : Nat} {g : Hp} {F : Nat} {o : Int32 × Hp} : ∀ (f : Nat) {h : Hp} {x0 : Nat} {x1 : Int32} {x3 : Int32} {x4 : Int32} {x5 : Int32}, DyK n g h → sX15_layState_27 F f h x0 x1 x3 x4 x5 = some o → DyK n g o.2 := by
  intro f
  induction f with
  | zero => intro h x0 x1 x3 x4 x5 _ e; exact absurd e (by rw [sX15_layState_27]; exact fun z => nomatch z)
  | succ f ih =>
    intro h x0 x1 x3 x4 x5 k e
    rw [sX15_layState_27] at e
    replace e := cl_s e
    obtain ⟨r_1, _, e⟩ := e
    replace e := (gd_s e).2
    replace e := br_s e
    rcases e with ⟨_, e⟩ | ⟨_, e⟩
    · rw [← Option.some.inj e]; exact k
    · replace e := (gd_s e).2
      replace e := nm_s e
      obtain ⟨v_5, wv_5, e⟩ := e
      replace e := (gd_s e).2
      replace e := nm_s e
      obtain ⟨v_7, wv_7, e⟩ := e
      replace e := cl_s e
      obtain ⟨r_8, _, e⟩ := e
      replace e := (gd_s e).2
      replace e := nm_s e
      obtain ⟨v_10, wv_10, e⟩ := e
      replace e := cl_s e
      obtain ⟨r_11, _, e⟩ := e
      replace e := cl_s e
      obtain ⟨r_12, _, e⟩ := e
      replace e := (gd_s e).2
      replace e := br_s e
      rcases e with ⟨_, e⟩ | ⟨_, e⟩
      · exact dk_X15_layState_109 k e
      · replace e := br_s e
        rcases e with ⟨_, e⟩ | ⟨_, e⟩
        · exact dk_X15_layState_111 (fun k e => ih k e) k e
        · replace e := cl_s e
          obtain ⟨r_16, _, e⟩ := e
          replace e := (gd_s e).2
          replace e := br_s e
          rcases e with ⟨_, e⟩ | ⟨_, e⟩
          · replace e := br_s e
            rcases e with ⟨_, e⟩ | ⟨_, e⟩
            · exact dk_X15_layState_111 (fun k e => ih k e) k e
            · exact dk_X15_layState_109 k e
          · exact dk_X15_layState_111 (fun k e => ih k e) k e
theorem dk_X15_layState {n : Nat} {g : Hp} {F : Nat} {o : Int32 × Hp} {x0 : Nat} {x1 : Int32} {x2 : Int32} {h : Hp} (k : DyK n g h) (e : sX15_layState F h x0 x1 x2 = some o) : DyK n g o.2 := by
  unfold sX15_layState at e
  replace e := cl_s e
  obtain ⟨r_1, _, e⟩ := e
  replace e := cl_s e
  obtain ⟨o_2, eo_2, e⟩ := e
  have ko_2 : DyK n g o_2 := dk_X12_clear k eo_2
  replace e := cl_s e
  obtain ⟨r_3, _, e⟩ := e
  replace e := nm_s e
  obtain ⟨h_4, wh_4, e⟩ := e
  have kh_4 : DyK n g h_4 := by rw [wh_4]; exact dk_wI ko_2
  replace e := nm_s e
  obtain ⟨v_5, wv_5, e⟩ := e
  exact dk_X15_layState_27 F kh_4 e
theorem dk_X15_begin_38 {n : Nat} {g : Hp} {F : Nat} {o : Hp} {h : Hp} (k : DyK n g h) (e : sX15_begin_38 F h = some o) : DyK n g o := by
  unfold sX15_begin_38 at e
  rw [← Option.some.inj e]; exact k
theorem dk_X15_begin_207 {n : Nat} {g : Hp} {F : Nat} {o : Hp} {k_187 : Hp → Nat → Int32 → Int32 → Int32 → Option (Hp)} (R_187 : ∀ {h : Hp} {y1 : Nat} {y2 : Int32} {y3 : Int32} {y4 : Int32}, DyK n g h → k_187 h y1 y2 y3 y4 = some o → DyK n g o) : ∀ (f : Nat) {h : Hp} {x0 : Nat} {x1 : Int32} {x2 : Int32} {x6 : Int32} {x7 : Int32} {x8 : Int32}, DyK n g h → sX15_begin_207 F k_187 f h x0 x1 x2 x6 x7 x8 = some o → DyK n g o := by
  intro f
  induction f with
  | zero => intro h x0 x1 x2 x6 x7 x8 _ e; exact absurd e (by rw [sX15_begin_207]; exact fun z => nomatch z)
  | succ f ih =>
    intro h x0 x1 x2 x6 x7 x8 k e
    rw [sX15_begin_207] at e
    replace e := (gd_s e).2
    replace e := cl_s e
    obtain ⟨r_2, _, e⟩ := e
    replace e := cl_s e
    obtain ⟨r_3, _, e⟩ := e
    replace e := (gd_s e).2
    replace e := br_s e
    rcases e with ⟨_, e⟩ | ⟨_, e⟩
    · replace e := cl_s e
      obtain ⟨r_6, _, e⟩ := e
      replace e := cl_s e
      obtain ⟨o_7, eo_7, e⟩ := e
      have ko_7 : DyK n g o_7.2 := dk_X15_maskOf k eo_7
      replace e := (gd_s e).2
      replace e := cl_s e
      obtain ⟨r_9, _, e⟩ := e
      replace e := cl_s e
      obtain ⟨r_10, _, e⟩ := e
      replace e := (gd_s e).2
      replace e := (gd_s e).2
      replace e := nm_s e
      obtain ⟨h_13, wh_13, e⟩ := e
      have kh_13 : DyK n g h_13 := by rw [wh_13]; exact dk_wJ ko_7
      replace e := nm_s e
      obtain ⟨v_14, wv_14, e⟩ := e
      exact R_187 kh_13 e
    · replace e := (gd_s e).2
      replace e := nm_s e
      obtain ⟨v_16, wv_16, e⟩ := e
      replace e := nm_s e
      obtain ⟨v_17, wv_17, e⟩ := e
      exact ih k e
theorem dk_X15_begin_187 {n : Nat} {g : Hp} {F : Nat} {o : Hp} : ∀ (f : Nat) {h : Hp} {x0 : Nat} {x1 : Int32} {x2 : Int32} {x6 : Int32}, DyK n g h → sX15_begin_187 F f h x0 x1 x2 x6 = some o → DyK n g o := by
  intro f
  induction f with
  | zero => intro h x0 x1 x2 x6 _ e; exact absurd e (by rw [sX15_begin_187]; exact fun z => nomatch z)
  | succ f ih =>
    intro h x0 x1 x2 x6 k e
    rw [sX15_begin_187] at e
    replace e := cl_s e
    obtain ⟨r_1, _, e⟩ := e
    replace e := br_s e
    rcases e with ⟨_, e⟩ | ⟨_, e⟩
    · rw [← Option.some.inj e]; exact k
    · replace e := nm_s e
      obtain ⟨v_3, wv_3, e⟩ := e
      exact dk_X15_begin_207 (fun k e => ih k e) F k e
theorem dk_X15_begin_173 {n : Nat} {g : Hp} {F : Nat} {o : Hp} {t0 : Int32} {t1 : Int32} {t2 : Nat} {h : Hp} (k : DyK n g h) (e : sX15_begin_173 F h t0 t1 t2 = some o) : DyK n g o := by
  unfold sX15_begin_173 at e
  replace e := (gd_s e).2
  replace e := nm_s e
  obtain ⟨h_2, wh_2, e⟩ := e
  have kh_2 : DyK n g h_2 := by rw [wh_2]; exact dk_wI k
  rw [← Option.some.inj e]; exact kh_2
theorem dk_X15_begin_99 {n : Nat} {g : Hp} {F : Nat} {o : Hp} {x0 : Nat} {x1 : Int32} {x2 : Int32} {x3 : Int32} {h : Hp} (k : DyK n g h) (e : sX15_begin_99 F h x0 x1 x2 x3 = some o) : DyK n g o := by
  unfold sX15_begin_99 at e
  replace e := cl_s e
  obtain ⟨r_1, _, e⟩ := e
  replace e := cl_s e
  obtain ⟨r_2, _, e⟩ := e
  replace e := cl_s e
  obtain ⟨o_3, eo_3, e⟩ := e
  have ko_3 : DyK n g o_3 := dk_X15_legal k eo_3
  replace e := cl_s e
  obtain ⟨r_4, _, e⟩ := e
  replace e := cl_s e
  obtain ⟨r_5, _, e⟩ := e
  replace e := cl_s e
  obtain ⟨o_6, eo_6, e⟩ := e
  have ko_6 : DyK n g o_6.2 := dk_X15_endedBy ko_3 eo_6
  replace e := br_s e
  rcases e with ⟨_, e⟩ | ⟨_, e⟩
  · replace e := cl_s e
    obtain ⟨r_8, _, e⟩ := e
    replace e := (gd_s e).2
    replace e := nm_s e
    obtain ⟨h_10, wh_10, e⟩ := e
    have kh_10 : DyK n g h_10 := by rw [wh_10]; exact dk_wI ko_6
    exact dk_X15_begin_187 F kh_10 e
  · replace e := cl_s e
    obtain ⟨r_11, _, e⟩ := e
    replace e := br_s e
    rcases e with ⟨_, e⟩ | ⟨_, e⟩
    · exact dk_X15_begin_173 ko_6 e
    · replace e := cl_s e
      obtain ⟨r_13, _, e⟩ := e
      replace e := br_s e
      rcases e with ⟨_, e⟩ | ⟨_, e⟩
      · exact dk_X15_begin_173 ko_6 e
      · exact dk_X15_begin_173 ko_6 e
theorem dk_X15_begin {n : Nat} {g : Hp} {F : Nat} {o : Hp} {x0 : Nat} {x1 : Int32} {x2 : Int32} {h : Hp} (k : DyK n g h) (e : sX15_begin F h x0 x1 x2 = some o) : DyK n g o := by
  unfold sX15_begin at e
  replace e := cl_s e
  obtain ⟨r_1, _, e⟩ := e
  replace e := (gd_s e).2
  replace e := nm_s e
  obtain ⟨v_3, wv_3, e⟩ := e
  replace e := cl_s e
  obtain ⟨r_4, _, e⟩ := e
  replace e := (gd_s e).2
  replace e := nm_s e
  obtain ⟨h_6, wh_6, e⟩ := e
  have kh_6 : DyK n g h_6 := by rw [wh_6]; exact dk_wI k
  replace e := cl_s e
  obtain ⟨o_7, eo_7, e⟩ := e
  have ko_7 : DyK n g o_7.2 := dk_X15_layState kh_6 eo_7
  replace e := br_s e
  rcases e with ⟨_, e⟩ | ⟨_, e⟩
  · exact dk_X15_begin_38 ko_7 e
  · replace e := cl_s e
    obtain ⟨r_9, _, e⟩ := e
    replace e := cl_s e
    obtain ⟨o_10, eo_10, e⟩ := e
    have ko_10 : DyK n g o_10.2 := dk_X15_wrongOf ko_7 eo_10
    replace e := br_s e
    rcases e with ⟨_, e⟩ | ⟨_, e⟩
    · replace e := cl_s e
      obtain ⟨r_12, _, e⟩ := e
      replace e := cl_s e
      obtain ⟨r_13, _, e⟩ := e
      replace e := cl_s e
      obtain ⟨o_14, eo_14, e⟩ := e
      have ko_14 : DyK n g o_14.2 := dk_X15_royalOf ko_10 eo_14
      replace e := br_s e
      rcases e with ⟨_, e⟩ | ⟨_, e⟩
      · exact dk_X15_begin_99 ko_14 e
      · replace e := cl_s e
        obtain ⟨r_16, _, e⟩ := e
        replace e := cl_s e
        obtain ⟨r_17, _, e⟩ := e
        replace e := cl_s e
        obtain ⟨o_18, eo_18, e⟩ := e
        have ko_18 : DyK n g o_18.2 := dk_X15_isAttacked ko_14 eo_18
        replace e := br_s e
        rcases e with ⟨_, e⟩ | ⟨_, e⟩
        · exact dk_X15_begin_99 ko_18 e
        · replace e := cl_s e
          obtain ⟨r_20, _, e⟩ := e
          replace e := (gd_s e).2
          replace e := (gd_s e).2
          replace e := nm_s e
          obtain ⟨h_23, wh_23, e⟩ := e
          have kh_23 : DyK n g h_23 := by rw [wh_23]; exact dk_wJ ko_18
          exact dk_X15_begin_99 kh_23 e
    · exact dk_X15_begin_38 ko_10 e
theorem dk_X15_solve_392 {n : Nat} {g : Hp} {F : Nat} {o : Int32 × Hp} {x4 : Int32} {x5 : Int32} {x6 : Int32} {k_357 : Hp → Nat → Int32 → Option (Int32 × Hp)} (R_357 : ∀ {h : Hp} {y2 : Int32}, DyK n g h → k_357 h (n + 513) y2 = some o → DyK n g o.2) {k_377 : Hp → Nat → Int32 → Int32 → Int32 → Option (Int32 × Hp)} (R_377 : ∀ {h : Hp} {y2 : Int32} {y3 : Int32} {y4 : Int32}, DyK n g h → k_377 h (n + 513) y2 y3 y4 = some o → DyK n g o.2) {h : Hp} (k : DyK n g h) (e : sX15_solve_392 F k_357 k_377 h (n + 513) x4 x5 x6 = some o) : DyK n g o.2 := by
  unfold sX15_solve_392 at e
  replace e := nm_s e
  obtain ⟨v_1, wv_1, e⟩ := e
  exact R_377 k e
theorem dk_X15_solve_377 {n : Nat} {g : Hp} {F : Nat} {o : Int32 × Hp} {k_357 : Hp → Nat → Int32 → Option (Int32 × Hp)} (R_357 : ∀ {h : Hp} {y2 : Int32}, DyK n g h → k_357 h (n + 513) y2 = some o → DyK n g o.2) : ∀ (f : Nat) {h : Hp} {x4 : Int32} {x5 : Int32} {x6 : Int32}, DyK n g h → sX15_solve_377 F k_357 f h (n + 513) x4 x5 x6 = some o → DyK n g o.2 := by
  intro f
  induction f with
  | zero => intro h x4 x5 x6 _ e; exact absurd e (by rw [sX15_solve_377]; exact fun z => nomatch z)
  | succ f ih =>
    intro h x4 x5 x6 k e
    rw [sX15_solve_377] at e
    replace e := br_s e
    rcases e with ⟨_, e⟩ | ⟨_, e⟩
    · replace e := nm_s e
      obtain ⟨v_2, wv_2, e⟩ := e
      exact R_357 k e
    · replace e := cl_s e
      obtain ⟨o_3, eo_3, e⟩ := e
      have ko_3 : DyK n g o_3 := dk_X15_begin k eo_3
      exact dk_X15_solve_392 R_357 (fun k e => ih k e) ko_3 e
theorem dk_X15_solve_372 {n : Nat} {g : Hp} {F : Nat} {o : Int32 × Hp} {x4 : Int32} {t0 : Int32} {k_357 : Hp → Nat → Int32 → Option (Int32 × Hp)} (R_357 : ∀ {h : Hp} {y2 : Int32}, DyK n g h → k_357 h (n + 513) y2 = some o → DyK n g o.2) {h : Hp} (k : DyK n g h) (e : sX15_solve_372 F k_357 h (n + 513) x4 t0 = some o) : DyK n g o.2 := by
  unfold sX15_solve_372 at e
  exact dk_X15_solve_377 R_357 F k e
theorem dk_X15_solve_357 {n : Nat} {g : Hp} {F : Nat} {o : Int32 × Hp} : ∀ (f : Nat) {h : Hp} {x4 : Int32}, DyK n g h → sX15_solve_357 F f h (n + 513) x4 = some o → DyK n g o.2 := by
  intro f
  induction f with
  | zero => intro h x4 _ e; exact absurd e (by rw [sX15_solve_357]; exact fun z => nomatch z)
  | succ f ih =>
    intro h x4 k e
    rw [sX15_solve_357] at e
    replace e := br_s e
    rcases e with ⟨_, e⟩ | ⟨_, e⟩
    · replace e := cl_s e
      obtain ⟨o_2, eo_2, e⟩ := e
      have ko_2 : DyK n g o_2 := dk_X15_workOut k eo_2
      exact dk_X15_solve_408 ko_2 e
    · replace e := cl_s e
      obtain ⟨o_3, eo_3, e⟩ := e
      have ko_3 : DyK n g o_3.2 := dk_X15_sizeOf k eo_3
      exact dk_X15_solve_372 (fun k e => ih k e) ko_3 e
theorem dk_X15_solve_330 {n : Nat} {g : Hp} {F : Nat} {o : Int32 × Hp} : ∀ (f : Nat) {h : Hp} {x4 : Int32}, DyK n g h → sX15_solve_330 F f h (n + 513) x4 = some o → DyK n g o.2 := by
  intro f
  induction f with
  | zero => intro h x4 _ e; exact absurd e (by rw [sX15_solve_330]; exact fun z => nomatch z)
  | succ f ih =>
    intro h x4 k e
    rw [sX15_solve_330] at e
    replace e := cl_s e
    obtain ⟨r_1, _, e⟩ := e
    replace e := br_s e
    rcases e with ⟨_, e⟩ | ⟨_, e⟩
    · exact dk_X15_solve_357 F k e
    · replace e := cl_s e
      obtain ⟨r_3, _, e⟩ := e
      replace e := (gd_s e).2
      replace e := nm_s e
      obtain ⟨h_5, wh_5, e⟩ := e
      have kh_5 : DyK n g h_5 := by rw [wh_5]; exact dk_wJ k
      replace e := nm_s e
      obtain ⟨v_6, wv_6, e⟩ := e
      exact ih kh_5 e
theorem dk_X15_solve_307 {n : Nat} {g : Hp} {F : Nat} {o : Int32 × Hp} : ∀ (f : Nat) {h : Hp} {x3 : Int32} {x4 : Int32}, DyK n g h → sX15_solve_307 F f h (n + 513) x3 x4 = some o → DyK n g o.2 := by
  intro f
  induction f with
  | zero => intro h x3 x4 _ e; exact absurd e (by rw [sX15_solve_307]; exact fun z => nomatch z)
  | succ f ih =>
    intro h x3 x4 k e
    rw [sX15_solve_307] at e
    replace e := br_s e
    rcases e with ⟨_, e⟩ | ⟨_, e⟩
    · exact dk_X15_solve_330 F k e
    · replace e := cl_s e
      obtain ⟨r_2, _, e⟩ := e
      replace e := (gd_s e).2
      replace e := nm_s e
      obtain ⟨h_4, wh_4, e⟩ := e
      have kh_4 : DyK n g h_4 := by rw [wh_4]; exact dk_wJ k
      replace e := nm_s e
      obtain ⟨v_5, wv_5, e⟩ := e
      exact ih kh_4 e
theorem dk_X15_solve_304 {n : Nat} {g : Hp} {F : Nat} {o : Int32 × Hp} {x3 : Int32} {h : Hp} (k : DyK n g h) (e : sX15_solve_304 F h (n + 513) x3 = some o) : DyK n g o.2 := by
  unfold sX15_solve_304 at e
  exact dk_X15_solve_307 F k e
theorem dk_X15_solve_301 {n : Nat} {g : Hp} {F : Nat} {o : Int32 × Hp} {x3 : Int32} {t0 : Nat} {h : Hp} (z : hS g = 0) (k : DyK n g h) (e : sX15_solve_301 F h (n + 513) x3 t0 (n + 513) = some o) : DyK n g o.2 := by
  unfold sX15_solve_301 at e
  replace e := nx_e e
  exact dk_X15_solve_304 (dk_wZ k (by decide) (Or.inr z)) e
theorem dk_X15_solve_270 {n : Nat} {g : Hp} {F : Nat} {o : Int32 × Hp} {x4 : Int32} {t0 : Int32} {t1 : Int32} {k_246 : Hp → Nat → Int32 → Int32 → Option (Int32 × Hp)} (R_246 : ∀ {h : Hp} {y2 : Int32} {y3 : Int32}, DyK n g h → k_246 h (n + 513) y2 y3 = some o → DyK n g o.2) {h : Hp} (k : DyK n g h) (e : sX15_solve_270 F k_246 h (n + 513) x4 t0 t1 = some o) : DyK n g o.2 := by
  unfold sX15_solve_270 at e
  replace e := cl_s e
  obtain ⟨r_1, _, e⟩ := e
  replace e := (gd_s e).2
  replace e := nm_s e
  obtain ⟨v_3, wv_3, e⟩ := e
  replace e := nm_s e
  obtain ⟨v_4, wv_4, e⟩ := e
  exact R_246 k e
theorem dk_X15_solve_246 {n : Nat} {g : Hp} {F : Nat} {o : Int32 × Hp} (z : hS g = 0) : ∀ (f : Nat) {h : Hp} {x3 : Int32} {x4 : Int32}, DyK n g h → sX15_solve_246 F f h (n + 513) x3 x4 = some o → DyK n g o.2 := by
  intro f
  induction f with
  | zero => intro h x3 x4 _ e; exact absurd e (by rw [sX15_solve_246]; exact fun z => nomatch z)
  | succ f ih =>
    intro h x3 x4 k e
    rw [sX15_solve_246] at e
    replace e := br_s e
    rcases e with ⟨_, e⟩ | ⟨_, e⟩
    · rcases onr_e e with e | ⟨r_2, e⟩
      · replace e := nm_s e
        obtain ⟨a_4, wa_4, e⟩ := e
        replace e := nm_s e
        obtain ⟨h_5, wh_5, e⟩ := e
        have kh_5 : DyK n g h_5 := by rw [wh_5]; exact dk_nC k
        exact dk_X15_solve_301 z kh_5 e
      · exact dk_X15_solve_304 k e
    · replace e := cl_s e
      obtain ⟨r_6, _, e⟩ := e
      replace e := (gd_s e).2
      replace e := nm_s e
      obtain ⟨h_8, wh_8, e⟩ := e
      have kh_8 : DyK n g h_8 := by rw [wh_8]; exact dk_wI k
      replace e := cl_s e
      obtain ⟨o_9, eo_9, e⟩ := e
      have ko_9 : DyK n g o_9.2 := dk_X15_sizeOf kh_8 eo_9
      exact dk_X15_solve_270 (fun k e => ih k e) ko_9 e
theorem dk_X15_solve_235 {n : Nat} {g : Hp} {F : Nat} {o : Int32 × Hp} {t0 : Int32} (z : hS g = 0) {h : Hp} (k : DyK n g h) (e : sX15_solve_235 F h (n + 513) t0 = some o) : DyK n g o.2 := by
  unfold sX15_solve_235 at e
  replace e := br_s e
  rcases e with ⟨_, e⟩ | ⟨_, e⟩
  · exact dk_X15_solve_238 k e
  · exact dk_X15_solve_246 z F k e
theorem dk_X15_solve_228 {n : Nat} {g : Hp} {F : Nat} {o : Int32 × Hp} {t0 : Int32} (z : hS g = 0) {h : Hp} (k : DyK n g h) (e : sX15_solve_228 F h (n + 513) t0 = some o) : DyK n g o.2 := by
  unfold sX15_solve_228 at e
  replace e := br_s e
  rcases e with ⟨_, e⟩ | ⟨_, e⟩
  · exact dk_X15_solve_238 k e
  · replace e := cl_s e
    obtain ⟨o_2, eo_2, e⟩ := e
    have ko_2 : DyK n g o_2.2 := dk_X15_addAll k eo_2
    exact dk_X15_solve_235 z ko_2 e
theorem dk_X15_solve_203 {n : Nat} {g : Hp} {F : Nat} {o : Int32 × Hp} (z : hS g = 0) : ∀ (f : Nat) {h : Hp} {x1 : Int32} {x3 : Int32}, DyK n g h → sX15_solve_203 F f h (n + 513) x1 x3 = some o → DyK n g o.2 := by
  intro f
  induction f with
  | zero => intro h x1 x3 _ e; exact absurd e (by rw [sX15_solve_203]; exact fun z => nomatch z)
  | succ f ih =>
    intro h x1 x3 k e
    rw [sX15_solve_203] at e
    replace e := br_s e
    rcases e with ⟨_, e⟩ | ⟨_, e⟩
    · replace e := cl_s e
      obtain ⟨o_2, eo_2, e⟩ := e
      have ko_2 : DyK n g o_2.2 := dk_X15_addSet k eo_2
      exact dk_X15_solve_228 z ko_2 e
    · replace e := cl_s e
      obtain ⟨r_3, _, e⟩ := e
      replace e := (gd_s e).2
      replace e := nm_s e
      obtain ⟨h_5, wh_5, e⟩ := e
      have kh_5 : DyK n g h_5 := by rw [wh_5]; exact dk_wI k
      replace e := nm_s e
      obtain ⟨v_6, wv_6, e⟩ := e
      exact ih kh_5 e
theorem dk_X15_solve_126 {n : Nat} {g : Hp} {F : Nat} {o : Int32 × Hp} {x3 : Int32} {h : Hp} (k : DyK n g h) (e : sX15_solve_126 F h x3 = some o) : DyK n g o.2 := by
  unfold sX15_solve_126 at e
  rw [← Option.some.inj e]; exact k
theorem dk_X15_solve_159 {n : Nat} {g : Hp} {F : Nat} {o : Int32 × Hp} {x1 : Int32} {x3 : Int32} {x4 : Int32} {t0 : Int32} {t1 : Int32} {k_54 : Hp → Nat → Int32 → Int32 → Int32 → Option (Int32 × Hp)} (R_54 : ∀ {h : Hp} {y2 : Int32} {y3 : Int32} {y4 : Int32}, DyK n g h → k_54 h (n + 513) y2 y3 y4 = some o → DyK n g o.2) {h : Hp} (k : DyK n g h) (e : sX15_solve_159 F k_54 h (n + 513) x1 x3 x4 t0 t1 = some o) : DyK n g o.2 := by
  unfold sX15_solve_159 at e
  replace e := nm_s e
  obtain ⟨v_1, wv_1, e⟩ := e
  replace e := cl_s e
  obtain ⟨r_2, _, e⟩ := e
  replace e := (gd_s e).2
  replace e := nm_s e
  obtain ⟨h_4, wh_4, e⟩ := e
  have kh_4 : DyK n g h_4 := by rw [wh_4]; exact dk_wI k
  replace e := nm_s e
  obtain ⟨v_5, wv_5, e⟩ := e
  exact R_54 kh_4 e
theorem dk_X15_solve_154 {n : Nat} {g : Hp} {F : Nat} {o : Int32 × Hp} {x1 : Int32} {x3 : Int32} {x4 : Int32} {t0 : Int32} {t1 : Int32} {t2 : Int32} {k_54 : Hp → Nat → Int32 → Int32 → Int32 → Option (Int32 × Hp)} (R_54 : ∀ {h : Hp} {y2 : Int32} {y3 : Int32} {y4 : Int32}, DyK n g h → k_54 h (n + 513) y2 y3 y4 = some o → DyK n g o.2) {h : Hp} (k : DyK n g h) (e : sX15_solve_154 F k_54 h (n + 513) x1 x3 x4 t0 t1 t2 = some o) : DyK n g o.2 := by
  unfold sX15_solve_154 at e
  exact dk_X15_solve_159 R_54 k e
theorem dk_X15_solve_138 {n : Nat} {g : Hp} {F : Nat} {o : Int32 × Hp} {x1 : Int32} {x3 : Int32} {x4 : Int32} {t0 : Int32} {t1 : Int32} {k_54 : Hp → Nat → Int32 → Int32 → Int32 → Option (Int32 × Hp)} (R_54 : ∀ {h : Hp} {y2 : Int32} {y3 : Int32} {y4 : Int32}, DyK n g h → k_54 h (n + 513) y2 y3 y4 = some o → DyK n g o.2) {h : Hp} (k : DyK n g h) (e : sX15_solve_138 F k_54 h (n + 513) x1 x3 x4 t0 t1 = some o) : DyK n g o.2 := by
  unfold sX15_solve_138 at e
  replace e := cl_s e
  obtain ⟨r_1, _, e⟩ := e
  replace e := br_s e
  rcases e with ⟨_, e⟩ | ⟨_, e⟩
  · replace e := cl_s e
    obtain ⟨o_3, eo_3, e⟩ := e
    have ko_3 : DyK n g o_3.2 := dk_X15_sideOf k eo_3
    exact dk_X15_solve_154 R_54 ko_3 e
  · exact dk_X15_solve_159 R_54 k e
theorem dk_X15_solve_109 {n : Nat} {g : Hp} {F : Nat} {o : Int32 × Hp} {x1 : Int32} {x2 : Int32} {x3 : Int32} {x4 : Int32} {t0 : Int32} {k_54 : Hp → Nat → Int32 → Int32 → Int32 → Option (Int32 × Hp)} (R_54 : ∀ {h : Hp} {y2 : Int32} {y3 : Int32} {y4 : Int32}, DyK n g h → k_54 h (n + 513) y2 y3 y4 = some o → DyK n g o.2) {h : Hp} (k : DyK n g h) (e : sX15_solve_109 F k_54 h (n + 513) x1 x2 x3 x4 t0 = some o) : DyK n g o.2 := by
  unfold sX15_solve_109 at e
  replace e := br_s e
  rcases e with ⟨_, e⟩ | ⟨_, e⟩
  · exact dk_X15_solve_126 k e
  · replace e := br_s e
    rcases e with ⟨_, e⟩ | ⟨_, e⟩
    · replace e := br_s e
      rcases e with ⟨_, e⟩ | ⟨_, e⟩
      · exact dk_X15_solve_126 k e
      · replace e := cl_s e
        obtain ⟨o_4, eo_4, e⟩ := e
        have ko_4 : DyK n g o_4.2 := dk_X15_manOf k eo_4
        exact dk_X15_solve_138 R_54 ko_4 e
    · exact dk_X15_solve_126 k e
theorem dk_X15_solve_108 {n : Nat} {g : Hp} {F : Nat} {o : Int32 × Hp} {x1 : Int32} {x2 : Int32} {x3 : Int32} {x4 : Int32} {k_54 : Hp → Nat → Int32 → Int32 → Int32 → Option (Int32 × Hp)} (R_54 : ∀ {h : Hp} {y2 : Int32} {y3 : Int32} {y4 : Int32}, DyK n g h → k_54 h (n + 513) y2 y3 y4 = some o → DyK n g o.2) {h : Hp} (k : DyK n g h) (e : sX15_solve_108 F k_54 h (n + 513) x1 x2 x3 x4 = some o) : DyK n g o.2 := by
  unfold sX15_solve_108 at e
  exact dk_X15_solve_109 R_54 k e
theorem dk_X15_solve_97 {n : Nat} {g : Hp} {F : Nat} {o : Int32 × Hp} {x1 : Int32} {x2 : Int32} {x3 : Int32} {x4 : Int32} {t0 : Int32} {t1 : Int32} {k_54 : Hp → Nat → Int32 → Int32 → Int32 → Option (Int32 × Hp)} (R_54 : ∀ {h : Hp} {y2 : Int32} {y3 : Int32} {y4 : Int32}, DyK n g h → k_54 h (n + 513) y2 y3 y4 = some o → DyK n g o.2) {h : Hp} (k : DyK n g h) (e : sX15_solve_97 F k_54 h (n + 513) x1 x2 x3 x4 t0 t1 = some o) : DyK n g o.2 := by
  unfold sX15_solve_97 at e
  replace e := br_s e
  rcases e with ⟨_, e⟩ | ⟨_, e⟩
  · exact dk_X15_solve_109 R_54 k e
  · exact dk_X15_solve_108 R_54 k e
theorem dk_X15_solve_81 {n : Nat} {g : Hp} {F : Nat} {o : Int32 × Hp} {x1 : Int32} {x2 : Int32} {x3 : Int32} {x4 : Int32} {t0 : Int32} {k_54 : Hp → Nat → Int32 → Int32 → Int32 → Option (Int32 × Hp)} (R_54 : ∀ {h : Hp} {y2 : Int32} {y3 : Int32} {y4 : Int32}, DyK n g h → k_54 h (n + 513) y2 y3 y4 = some o → DyK n g o.2) {h : Hp} (k : DyK n g h) (e : sX15_solve_81 F k_54 h (n + 513) x1 x2 x3 x4 t0 = some o) : DyK n g o.2 := by
  unfold sX15_solve_81 at e
  replace e := cl_s e
  obtain ⟨r_1, _, e⟩ := e
  replace e := br_s e
  rcases e with ⟨_, e⟩ | ⟨_, e⟩
  · replace e := cl_s e
    obtain ⟨o_3, eo_3, e⟩ := e
    have ko_3 : DyK n g o_3.2 := dk_X15_sideOf k eo_3
    exact dk_X15_solve_97 R_54 ko_3 e
  · exact dk_X15_solve_108 R_54 k e
theorem dk_X15_solve_69 {n : Nat} {g : Hp} {F : Nat} {o : Int32 × Hp} {x1 : Int32} {x2 : Int32} {x3 : Int32} {t0 : Int32} {k_54 : Hp → Nat → Int32 → Int32 → Int32 → Option (Int32 × Hp)} (R_54 : ∀ {h : Hp} {y2 : Int32} {y3 : Int32} {y4 : Int32}, DyK n g h → k_54 h (n + 513) y2 y3 y4 = some o → DyK n g o.2) {h : Hp} (k : DyK n g h) (e : sX15_solve_69 F k_54 h (n + 513) x1 x2 x3 t0 = some o) : DyK n g o.2 := by
  unfold sX15_solve_69 at e
  replace e := br_s e
  rcases e with ⟨_, e⟩ | ⟨_, e⟩
  · exact dk_X15_solve_108 R_54 k e
  · replace e := cl_s e
    obtain ⟨o_2, eo_2, e⟩ := e
    have ko_2 : DyK n g o_2.2 := dk_X15_manOf k eo_2
    exact dk_X15_solve_81 R_54 ko_2 e
theorem dk_X15_solve_54 {n : Nat} {g : Hp} {F : Nat} {o : Int32 × Hp} (z : hS g = 0) : ∀ (f : Nat) {h : Hp} {x1 : Int32} {x2 : Int32} {x3 : Int32}, DyK n g h → sX15_solve_54 F f h (n + 513) x1 x2 x3 = some o → DyK n g o.2 := by
  intro f
  induction f with
  | zero => intro h x1 x2 x3 _ e; exact absurd e (by rw [sX15_solve_54]; exact fun z => nomatch z)
  | succ f ih =>
    intro h x1 x2 x3 k e
    rw [sX15_solve_54] at e
    replace e := br_s e
    rcases e with ⟨_, e⟩ | ⟨_, e⟩
    · replace e := br_s e
      rcases e with ⟨_, e⟩ | ⟨_, e⟩
      · replace e := nm_s e
        obtain ⟨h_3, wh_3, e⟩ := e
        have kh_3 : DyK n g h_3 := by rw [wh_3]; exact dk_wI k
        replace e := nm_s e
        obtain ⟨h_4, wh_4, e⟩ := e
        have kh_4 : DyK n g h_4 := by rw [wh_4]; exact dk_wJ kh_3
        replace e := nm_s e
        obtain ⟨h_5, wh_5, e⟩ := e
        have kh_5 : DyK n g h_5 := by rw [wh_5]; exact dk_wI kh_4
        exact dk_X15_solve_203 z F kh_5 e
      · rw [← Option.some.inj e]; exact k
    · replace e := cl_s e
      obtain ⟨r_6, _, e⟩ := e
      replace e := (gd_s e).2
      replace e := cl_s e
      obtain ⟨o_8, eo_8, e⟩ := e
      have ko_8 : DyK n g o_8.2 := dk_X15_manLetter k eo_8
      exact dk_X15_solve_69 (fun k e => ih k e) ko_8 e
theorem dk_X15_solve_44 {n : Nat} {g : Hp} {F : Nat} {o : Int32 × Hp} {x1 : Int32} {t0 : Int32} (z : hS g = 0) {h : Hp} (k : DyK n g h) (e : sX15_solve_44 F h (n + 513) x1 t0 = some o) : DyK n g o.2 := by
  unfold sX15_solve_44 at e
  replace e := br_s e
  rcases e with ⟨_, e⟩ | ⟨_, e⟩
  · exact dk_X15_solve_54 z F k e
  · exact dk_X15_solve_47 k e
theorem dk_X15_solve {n : Nat} {g : Hp} {F : Nat} {o : Int32 × Hp} (z : hS g = 0) {h : Hp} (k : DyK n g h) (e : sX15_solve F h (n + 513) = some o) : DyK n g o.2 := by
  unfold sX15_solve at e
  replace e := nm_s e
  obtain ⟨v_1, wv_1, e⟩ := e
  replace e := nm_s e
  obtain ⟨h_2, wh_2, e⟩ := e
  have kh_2 : DyK n g h_2 := by rw [wh_2]; exact dk_wI k
  replace e := cl_s e
  obtain ⟨r_3, _, e⟩ := e
  replace e := br_s e
  rcases e with ⟨_, e⟩ | ⟨_, e⟩
  · replace e := cl_s e
    obtain ⟨r_5, _, e⟩ := e
    replace e := br_s e
    rcases e with ⟨_, e⟩ | ⟨_, e⟩
    · replace e := cl_s e
      obtain ⟨r_7, _, e⟩ := e
      replace e := br_s e
      rcases e with ⟨_, e⟩ | ⟨_, e⟩
      · exact dk_X15_solve_47 kh_2 e
      · replace e := cl_s e
        obtain ⟨o_9, eo_9, e⟩ := e
        have ko_9 : DyK n g o_9.2 := dk_X15_hasCatches kh_2 eo_9
        exact dk_X15_solve_44 z ko_9 e
    · exact dk_X15_solve_47 kh_2 e
  · exact dk_X15_solve_47 kh_2 e
theorem dk_X15_worth_53 {n : Nat} {g : Hp} {F : Nat} {o : Int32 × Hp} {t0 : Int32} {h : Hp} (k : DyK n g h) (e : sX15_worth_53 F h t0 = some o) : DyK n g o.2 := by
  unfold sX15_worth_53 at e
  rw [← Option.some.inj e]; exact k
theorem dk_X15_worth_32 {n : Nat} {g : Hp} {F : Nat} {o : Int32 × Hp} {x0 : Nat} {t0 : Int32} {h : Hp} (k : DyK n g h) (e : sX15_worth_32 F h x0 t0 = some o) : DyK n g o.2 := by
  unfold sX15_worth_32 at e
  replace e := br_s e
  rcases e with ⟨_, e⟩ | ⟨_, e⟩
  · exact dk_X15_worth_53 k e
  · replace e := cl_s e
    obtain ⟨r_2, _, e⟩ := e
    replace e := (gd_s e).2
    exact dk_X15_worth_53 k e
theorem dk_X15_stateOfBoard_50 {n : Nat} {g : Hp} {F : Nat} {o : Int32 × Hp} {x0 : Nat} {x1 : Nat} {x2 : Int32} {x3 : Int32} {k_4 : Hp → Nat → Nat → Int32 → Int32 → Option (Int32 × Hp)} (R_4 : ∀ {h : Hp} {y1 : Nat} {y2 : Nat} {y3 : Int32} {y4 : Int32}, DyK n g h → k_4 h y1 y2 y3 y4 = some o → DyK n g o.2) {h : Hp} (k : DyK n g h) (e : sX15_stateOfBoard_50 F k_4 h x0 x1 x2 x3 = some o) : DyK n g o.2 := by
  unfold sX15_stateOfBoard_50 at e
  replace e := nm_s e
  obtain ⟨v_1, wv_1, e⟩ := e
  exact R_4 k e
theorem dk_X15_stateOfBoard_4 {n : Nat} {g : Hp} {F : Nat} {o : Int32 × Hp} : ∀ (f : Nat) {h : Hp} {x0 : Nat} {x1 : Nat} {x2 : Int32} {x3 : Int32}, DyK n g h → sX15_stateOfBoard_4 F f h x0 x1 x2 x3 = some o → DyK n g o.2 := by
  intro f
  induction f with
  | zero => intro h x0 x1 x2 x3 _ e; exact absurd e (by rw [sX15_stateOfBoard_4]; exact fun z => nomatch z)
  | succ f ih =>
    intro h x0 x1 x2 x3 k e
    rw [sX15_stateOfBoard_4] at e
    replace e := br_s e
    rcases e with ⟨_, e⟩ | ⟨_, e⟩
    · replace e := cl_s e
      obtain ⟨o_2, eo_2, e⟩ := e
      have ko_2 : DyK n g o_2.2 := dk_X15_stateOf k eo_2
      rw [← Option.some.inj e]; exact ko_2
    · replace e := cl_s e
      obtain ⟨r_3, _, e⟩ := e
      replace e := (gd_s e).2
      replace e := br_s e
      rcases e with ⟨_, e⟩ | ⟨_, e⟩
      · exact dk_X15_stateOfBoard_50 (fun k e => ih k e) k e
      · replace e := br_s e
        rcases e with ⟨_, e⟩ | ⟨_, e⟩
        · rw [← Option.some.inj e]; exact k
        · replace e := cl_s e
          obtain ⟨r_7, _, e⟩ := e
          replace e := cl_s e
          obtain ⟨r_8, _, e⟩ := e
          replace e := (gd_s e).2
          replace e := (gd_s e).2
          replace e := nm_s e
          obtain ⟨h_11, wh_11, e⟩ := e
          have kh_11 : DyK n g h_11 := by rw [wh_11]; exact dk_wI k
          replace e := cl_s e
          obtain ⟨r_12, _, e⟩ := e
          replace e := (gd_s e).2
          replace e := nm_s e
          obtain ⟨h_14, wh_14, e⟩ := e
          have kh_14 : DyK n g h_14 := by rw [wh_14]; exact dk_wI kh_11
          replace e := nm_s e
          obtain ⟨v_15, wv_15, e⟩ := e
          exact dk_X15_stateOfBoard_50 (fun k e => ih k e) kh_14 e
theorem dk_X15_stateOfBoard {n : Nat} {g : Hp} {F : Nat} {o : Int32 × Hp} {x0 : Nat} {x1 : Nat} {h : Hp} (k : DyK n g h) (e : sX15_stateOfBoard F h x0 x1 = some o) : DyK n g o.2 := by
  unfold sX15_stateOfBoard at e
  exact dk_X15_stateOfBoard_4 F k e
theorem dk_X15_worth {n : Nat} {g : Hp} {F : Nat} {o : Int32 × Hp} {x0 : Nat} {x1 : Int32} {h : Hp} (k : DyK n g h) (e : sX15_worth F h x0 x1 = some o) : DyK n g o.2 := by
  unfold sX15_worth at e
  replace e := cl_s e
  obtain ⟨o_1, eo_1, e⟩ := e
  have ko_1 : DyK n g o_1.2 := dk_X15_has k eo_1
  replace e := br_s e
  rcases e with ⟨_, e⟩ | ⟨_, e⟩
  · rw [← Option.some.inj e]; exact ko_1
  · replace e := br_s e
    rcases e with ⟨_, e⟩ | ⟨_, e⟩
    · exact dk_X15_worth_32 ko_1 e
    · replace e := cl_s e
      obtain ⟨r_4, _, e⟩ := e
      replace e := (gd_s e).2
      replace e := cl_s e
      obtain ⟨r_6, _, e⟩ := e
      replace e := cl_s e
      obtain ⟨o_7, eo_7, e⟩ := e
      have ko_7 : DyK n g o_7.2 := dk_X15_stateOfBoard ko_1 eo_7
      exact dk_X15_worth_32 ko_7 e
theorem dk_X15_tally_23 {n : Nat} {g : Hp} {F : Nat} {o : Int32 × Hp} {h : Hp} (k : DyK n g h) (e : sX15_tally_23 F h = some o) : DyK n g o.2 := by
  unfold sX15_tally_23 at e
  rw [← Option.some.inj e]; exact k
theorem dk_X15_tally_79 {n : Nat} {g : Hp} {F : Nat} {o : Int32 × Hp} {x0 : Nat} {x2 : Int32} {x4 : Int32} {x5 : Int32} {t0 : Int32} {t1 : Int32} {k_48 : Hp → Nat → Int32 → Int32 → Int32 → Int32 → Option (Int32 × Hp)} (R_48 : ∀ {h : Hp} {y1 : Nat} {y2 : Int32} {y3 : Int32} {y4 : Int32} {y5 : Int32}, DyK n g h → k_48 h y1 y2 y3 y4 y5 = some o → DyK n g o.2) {h : Hp} (k : DyK n g h) (e : sX15_tally_79 F k_48 h x0 x2 x4 x5 t0 t1 = some o) : DyK n g o.2 := by
  unfold sX15_tally_79 at e
  replace e := nm_s e
  obtain ⟨v_1, wv_1, e⟩ := e
  replace e := nm_s e
  obtain ⟨v_2, wv_2, e⟩ := e
  exact R_48 k e
theorem dk_X15_tally_48 {n : Nat} {g : Hp} {F : Nat} {o : Int32 × Hp} : ∀ (f : Nat) {h : Hp} {x0 : Nat} {x2 : Int32} {x3 : Int32} {x4 : Int32} {x5 : Int32}, DyK n g h → sX15_tally_48 F f h x0 x2 x3 x4 x5 = some o → DyK n g o.2 := by
  intro f
  induction f with
  | zero => intro h x0 x2 x3 x4 x5 _ e; exact absurd e (by rw [sX15_tally_48]; exact fun z => nomatch z)
  | succ f ih =>
    intro h x0 x2 x3 x4 x5 k e
    rw [sX15_tally_48] at e
    replace e := br_s e
    rcases e with ⟨_, e⟩ | ⟨_, e⟩
    · rw [← Option.some.inj e]; exact k
    · replace e := cl_s e
      obtain ⟨r_2, _, e⟩ := e
      replace e := cl_s e
      obtain ⟨r_3, _, e⟩ := e
      replace e := (gd_s e).2
      replace e := (gd_s e).2
      replace e := br_s e
      rcases e with ⟨_, e⟩ | ⟨_, e⟩
      · exact dk_X15_tally_79 (fun k e => ih k e) k e
      · exact dk_X15_tally_79 (fun k e => ih k e) k e
theorem dk_X15_tally {n : Nat} {g : Hp} {F : Nat} {o : Int32 × Hp} {x0 : Nat} {x1 : Int32} {x2 : Int32} {h : Hp} (k : DyK n g h) (e : sX15_tally F h x0 x1 x2 = some o) : DyK n g o.2 := by
  unfold sX15_tally at e
  replace e := br_s e
  rcases e with ⟨_, e⟩ | ⟨_, e⟩
  · exact dk_X15_tally_23 k e
  · replace e := br_s e
    rcases e with ⟨_, e⟩ | ⟨_, e⟩
    · exact dk_X15_tally_23 k e
    · replace e := br_s e
      rcases e with ⟨_, e⟩ | ⟨_, e⟩
      · exact dk_X15_tally_23 k e
      · replace e := br_s e
        rcases e with ⟨_, e⟩ | ⟨_, e⟩
        · replace e := br_s e
          rcases e with ⟨_, e⟩ | ⟨_, e⟩
          · rw [← Option.some.inj e]; exact k
          · replace e := cl_s e
            obtain ⟨o_6, eo_6, e⟩ := e
            have ko_6 : DyK n g o_6.2 := dk_X15_sizeOf k eo_6
            exact dk_X15_tally_48 F ko_6 e
        · exact dk_X15_tally_23 k e
theorem dk_X15_problem_30 {n : Nat} {g : Hp} {F : Nat} {o : Int32 × Hp} {h : Hp} (k : DyK n g h) (e : sX15_problem_30 F h = some o) : DyK n g o.2 := by
  unfold sX15_problem_30 at e
  rw [← Option.some.inj e]; exact k
theorem dk_X15_step_42 {n : Nat} {g : Hp} {F : Nat} {o : Hp} {h : Hp} (k : DyK n g h) (e : sX15_step_42 F h = some o) : DyK n g o := by
  unfold sX15_step_42 at e
  rw [← Option.some.inj e]; exact k
theorem dk_X15_step_31 {n : Nat} {g : Hp} {F : Nat} {o : Hp} {x1 : Int32} {t0 : Nat} {t1 : Nat} {h : Hp} (k : DyK n g h) (e : sX15_step_31 F h (n + 513) x1 t0 t1 = some o) : DyK n g o := by
  unfold sX15_step_31 at e
  replace e := cl_s e
  obtain ⟨r_1, _, e⟩ := e
  replace e := (gd_s e).2
  replace e := cl_s e
  obtain ⟨r_3, _, e⟩ := e
  replace e := cl_s e
  obtain ⟨o_4, eo_4, e⟩ := e
  have ko_4 : DyK n g o_4 := dk_X15_legal k eo_4
  exact dk_X15_step_42 ko_4 e
theorem dk_X15_step_23 {n : Nat} {g : Hp} {F : Nat} {o : Hp} {x1 : Int32} {h : Hp} (k : DyK n g h) (e : sX15_step_23 F h (n + 513) x1 = some o) : DyK n g o := by
  unfold sX15_step_23 at e
  replace e := cl_s e
  obtain ⟨o_1, eo_1, e⟩ := e
  have ko_1 : DyK n g o_1.2 := dk_X15_deepBoard k eo_1
  exact dk_X15_step_31 ko_1 e
