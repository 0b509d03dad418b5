section
/-! what stands where stays so: printed -/
theorem dk_X0_queueEnds_45 {n : Nat} {g : Hp} {F : Nat} {o : Hp} {x0 : Nat} {x1 : Int32} {x2 : Int32} {k_2 : Hp → Nat → Int32 → Option (Hp)} (R_2 : ∀ {h : Hp} {y1 : Nat} {y2 : Int32}, DyK n g h → k_2 h y1 y2 = some o → DyK n g o) {k_17 : Hp → Nat → Int32 → Int32 → Option (Hp)} (R_17 : ∀ {h : Hp} {y1 : Nat} {y2 : Int32} {y3 : Int32}, DyK n g h → k_17 h y1 y2 y3 = some o → DyK n g o) {h : Hp} (k : DyK n g h) (e : sX0_queueEnds_45 F k_2 k_17 h x0 x1 x2 = some o) : DyK n g o := by
  unfold sX0_queueEnds_45 at e
  replace e := cl_s e
  obtain ⟨r_1, _, e⟩ := e
  replace e := (gd_s e).2
  replace e := br_s e
  rcases e with ⟨_, e⟩ | ⟨_, e⟩
  · replace e := cl_s e
    obtain ⟨r_4, _, e⟩ := e
    replace e := (gd_s e).2
    replace e := br_s e
    rcases e with ⟨_, e⟩ | ⟨_, e⟩
    · exact dk_X0_queueEnds_74 R_2 R_17 k e
    · exact dk_X0_queueEnds_73 R_2 R_17 k e
  · exact dk_X0_queueEnds_73 R_2 R_17 k e
theorem dk_X0_queueEnds_17 {n : Nat} {g : Hp} {F : Nat} {o : Hp} {k_2 : Hp → Nat → Int32 → Option (Hp)} (R_2 : ∀ {h : Hp} {y1 : Nat} {y2 : Int32}, DyK n g h → k_2 h y1 y2 = some o → DyK n g o) : ∀ (f : Nat) {h : Hp} {x0 : Nat} {x1 : Int32} {x2 : Int32}, DyK n g h → sX0_queueEnds_17 F k_2 f h x0 x1 x2 = some o → DyK n g o := by
  intro f
  induction f with
  | zero => intro h x0 x1 x2 _ e; exact absurd e (by rw [sX0_queueEnds_17]; exact fun z => nomatch z)
  | succ f ih =>
    intro h x0 x1 x2 k e
    rw [sX0_queueEnds_17] at e
    replace e := cl_s e
    obtain ⟨r_1, _, e⟩ := e
    replace e := (gd_s e).2
    replace e := br_s e
    rcases e with ⟨_, e⟩ | ⟨_, e⟩
    · replace e := nm_s e
      obtain ⟨v_4, wv_4, e⟩ := e
      exact R_2 k e
    · replace e := cl_s e
      obtain ⟨r_5, _, e⟩ := e
      replace e := (gd_s e).2
      replace e := br_s e
      rcases e with ⟨_, e⟩ | ⟨_, e⟩
      · replace e := cl_s e
        obtain ⟨o_8, eo_8, e⟩ := e
        have ko_8 : DyK n g o_8 := dk_X0_settleCount k eo_8
        exact dk_X0_queueEnds_45 R_2 (fun k e => ih k e) ko_8 e
      · exact dk_X0_queueEnds_45 R_2 (fun k e => ih k e) k e
theorem dk_X0_queueEnds_2 {n : Nat} {g : Hp} {F : Nat} {o : Hp} : ∀ (f : Nat) {h : Hp} {x0 : Nat} {x1 : Int32}, DyK n g h → sX0_queueEnds_2 F f h x0 x1 = some o → DyK n g o := by
  intro f
  induction f with
  | zero => intro h x0 x1 _ e; exact absurd e (by rw [sX0_queueEnds_2]; exact fun z => nomatch z)
  | succ f ih =>
    intro h x0 x1 k e
    rw [sX0_queueEnds_2] at e
    replace e := br_s e
    rcases e with ⟨_, e⟩ | ⟨_, e⟩
    · rw [← Option.some.inj e]; exact k
    · replace e := cl_s e
      obtain ⟨r_2, _, e⟩ := e
      replace e := (gd_s e).2
      replace e := nm_s e
      obtain ⟨v_4, wv_4, e⟩ := e
      exact dk_X0_queueEnds_17 (fun k e => ih k e) F k e
theorem dk_X0_queueEnds {n : Nat} {g : Hp} {F : Nat} {o : Hp} {x0 : Nat} {h : Hp} (k : DyK n g h) (e : sX0_queueEnds F h x0 = some o) : DyK n g o := by
  unfold sX0_queueEnds at e
  exact dk_X0_queueEnds_2 F k e
theorem dk_X0_run_168 {n : Nat} {g : Hp} {F : Nat} {o : Int32 × Hp} {x1 : Int32} {t0 : Int32} {t1 : Int32} {t2 : Nat} {k_133 : Hp → Nat → Int32 → Option (Int32 × Hp)} (R_133 : ∀ {h : Hp} {y2 : Int32}, DyK n g h → k_133 h (n + 62) y2 = some o → DyK n g o.2) {h : Hp} (k : DyK n g h) (e : sX0_run_168 F k_133 h (n + 62) x1 t0 t1 t2 = some o) : DyK n g o.2 := by
  unfold sX0_run_168 at e
  replace e := (gd_s e).2
  replace e := nm_s e
  obtain ⟨h_2, wh_2, e⟩ := e
  have kh_2 : DyK n g h_2 := by rw [wh_2]; exact dk_wI k
  replace e := nm_s e
  obtain ⟨v_3, wv_3, e⟩ := e
  exact R_133 kh_2 e
theorem dk_X0_run_133 {n : Nat} {g : Hp} {F : Nat} {o : Int32 × Hp} : ∀ (f : Nat) {h : Hp} {x1 : Int32}, DyK n g h → sX0_run_133 F f h (n + 62) x1 = some o → DyK n g o.2 := by
  intro f
  induction f with
  | zero => intro h x1 _ e; exact absurd e (by rw [sX0_run_133]; exact fun z => nomatch z)
  | succ f ih =>
    intro h x1 k e
    rw [sX0_run_133] at e
    replace e := br_s e
    rcases e with ⟨_, e⟩ | ⟨_, e⟩
    · replace e := nm_s e
      obtain ⟨h_2, wh_2, e⟩ := e
      have kh_2 : DyK n g h_2 := by rw [wh_2]; exact dk_wI k
      rw [← Option.some.inj e]; exact kh_2
    · replace e := cl_s e
      obtain ⟨r_3, _, e⟩ := e
      replace e := cl_s e
      obtain ⟨r_4, _, e⟩ := e
      replace e := (gd_s e).2
      replace e := br_s e
      rcases e with ⟨_, e⟩ | ⟨_, e⟩
      · exact dk_X0_run_168 (fun k e => ih k e) k e
      · replace e := cl_s e
        obtain ⟨r_7, _, e⟩ := e
        replace e := (gd_s e).2
        exact dk_X0_run_168 (fun k e => ih k e) k e
theorem dk_X0_run_131 {n : Nat} {g : Hp} {F : Nat} {o : Int32 × Hp} {h : Hp} (k : DyK n g h) (e : sX0_run_131 F h (n + 62) = some o) : DyK n g o.2 := by
  unfold sX0_run_131 at e
  exact dk_X0_run_133 F k e
theorem dk_X0_setOf_45 {n : Nat} {g : Hp} {F : Nat} {o : Int32 × Hp} {x0 : Nat} {x1 : Int32} {x2 : Int32} {x3 : Int32} {k_9 : Hp → Nat → Int32 → Int32 → Int32 → Option (Int32 × Hp)} (R_9 : ∀ {h : Hp} {y1 : Nat} {y2 : Int32} {y3 : Int32} {y4 : Int32}, DyK n g h → k_9 h y1 y2 y3 y4 = some o → DyK n g o.2) {h : Hp} (k : DyK n g h) (e : sX0_setOf_45 F k_9 h x0 x1 x2 x3 = some o) : DyK n g o.2 := by
  unfold sX0_setOf_45 at e
  exact R_9 k e
theorem dk_X0_setOf_9 {n : Nat} {g : Hp} {F : Nat} {o : Int32 × Hp} : ∀ (f : Nat) {h : Hp} {x0 : Nat} {x1 : Int32} {x2 : Int32} {x3 : Int32}, DyK n g h → sX0_setOf_9 F f h x0 x1 x2 x3 = some o → DyK n g o.2 := by
  intro f
  induction f with
  | zero => intro h x0 x1 x2 x3 _ e; exact absurd e (by rw [sX0_setOf_9]; exact fun z => nomatch z)
  | succ f ih =>
    intro h x0 x1 x2 x3 k e
    rw [sX0_setOf_9] at e
    replace e := br_s e
    rcases e with ⟨_, e⟩ | ⟨_, e⟩
    · rw [← Option.some.inj e]; exact k
    · replace e := nm_s e
      obtain ⟨v_2, wv_2, e⟩ := e
      replace e := cl_s e
      obtain ⟨r_3, _, e⟩ := e
      replace e := (gd_s e).2
      replace e := br_s e
      rcases e with ⟨_, e⟩ | ⟨_, e⟩
      · replace e := nm_s e
        obtain ⟨v_6, wv_6, e⟩ := e
        exact dk_X0_setOf_45 (fun k e => ih k e) k e
      · exact dk_X0_setOf_45 (fun k e => ih k e) k e
theorem dk_X0_setOf {n : Nat} {g : Hp} {F : Nat} {o : Int32 × Hp} {x0 : Nat} {x1 : Int32} {h : Hp} (k : DyK n g h) (e : sX0_setOf F h x0 x1 = some o) : DyK n g o.2 := by
  unfold sX0_setOf at e
  replace e := nm_s e
  obtain ⟨v_1, wv_1, e⟩ := e
  exact dk_X0_setOf_9 F k e
theorem dk_X0_run_125 {n : Nat} {g : Hp} {F : Nat} {o : Int32 × Hp} {x1 : Int32} {k_51 : Hp → Nat → Int32 → Option (Int32 × Hp)} (R_51 : ∀ {h : Hp} {y2 : Int32}, DyK n g h → k_51 h (n + 62) y2 = some o → DyK n g o.2) {h : Hp} (k : DyK n g h) (e : sX0_run_125 F k_51 h (n + 62) x1 = some o) : DyK n g o.2 := by
  unfold sX0_run_125 at e
  replace e := nm_s e
  obtain ⟨v_1, wv_1, e⟩ := e
  exact R_51 k e
theorem dk_X0_run_108 {n : Nat} {g : Hp} {F : Nat} {o : Int32 × Hp} {x1 : Int32} {x2 : Int32} {x3 : Int32} {t0 : Int32} {k_51 : Hp → Nat → Int32 → Option (Int32 × Hp)} (R_51 : ∀ {h : Hp} {y2 : Int32}, DyK n g h → k_51 h (n + 62) y2 = some o → DyK n g o.2) {h : Hp} (k : DyK n g h) (e : sX0_run_108 F k_51 h (n + 62) x1 x2 x3 t0 = some o) : DyK n g o.2 := by
  unfold sX0_run_108 at e
  replace e := br_s e
  rcases e with ⟨_, e⟩ | ⟨_, e⟩
  · exact dk_X0_run_125 R_51 k e
  · replace e := cl_s e
    obtain ⟨r_2, _, e⟩ := e
    replace e := (gd_s e).2
    replace e := cl_s e
    obtain ⟨o_4, eo_4, e⟩ := e
    have ko_4 : DyK n g o_4 := dk_X0_goBack k eo_4
    exact dk_X0_run_125 R_51 ko_4 e
theorem dk_X0_run_77 {n : Nat} {g : Hp} {F : Nat} {o : Int32 × Hp} {x1 : Int32} {x2 : Int32} {t0 : Int32} {k_51 : Hp → Nat → Int32 → Option (Int32 × Hp)} (R_51 : ∀ {h : Hp} {y2 : Int32}, DyK n g h → k_51 h (n + 62) y2 = some o → DyK n g o.2) {h : Hp} (k : DyK n g h) (e : sX0_run_77 F k_51 h (n + 62) x1 x2 t0 = some o) : DyK n g o.2 := by
  unfold sX0_run_77 at e
  replace e := cl_s e
  obtain ⟨r_1, _, e⟩ := e
  replace e := (gd_s e).2
  replace e := nm_s e
  obtain ⟨h_3, wh_3, e⟩ := e
  have kh_3 : DyK n g h_3 := by rw [wh_3]; exact dk_wI k
  replace e := cl_s e
  obtain ⟨r_4, _, e⟩ := e
  replace e := (gd_s e).2
  replace e := cl_s e
  obtain ⟨r_6, _, e⟩ := e
  replace e := (gd_s e).2
  replace e := cl_s e
  obtain ⟨o_8, eo_8, e⟩ := e
  have ko_8 : DyK n g o_8.2 := dk_X0_layOut kh_3 eo_8
  exact dk_X0_run_108 R_51 ko_8 e
theorem dk_X0_run_51 {n : Nat} {g : Hp} {F : Nat} {o : Int32 × Hp} : ∀ (f : Nat) {h : Hp} {x1 : Int32}, DyK n g h → sX0_run_51 F f h (n + 62) x1 = some o → DyK n g o.2 := by
  intro f
  induction f with
  | zero => intro h x1 _ e; exact absurd e (by rw [sX0_run_51]; exact fun z => nomatch z)
  | succ f ih =>
    intro h x1 k e
    rw [sX0_run_51] at e
    replace e := br_s e
    rcases e with ⟨_, e⟩ | ⟨_, e⟩
    · exact dk_X0_run_131 k e
    · replace e := br_s e
      rcases e with ⟨_, e⟩ | ⟨_, e⟩
      · exact dk_X0_run_131 k e
      · replace e := cl_s e
        obtain ⟨r_3, _, e⟩ := e
        replace e := (gd_s e).2
        replace e := nm_s e
        obtain ⟨v_5, wv_5, e⟩ := e
        replace e := cl_s e
        obtain ⟨o_6, eo_6, e⟩ := e
        have ko_6 : DyK n g o_6.2 := dk_X0_setOf k eo_6
        exact dk_X0_run_77 (fun k e => ih k e) ko_6 e
theorem dk_X0_run_49 {n : Nat} {g : Hp} {F : Nat} {o : Int32 × Hp} {h : Hp} (k : DyK n g h) (e : sX0_run_49 F h (n + 62) = some o) : DyK n g o.2 := by
  unfold sX0_run_49 at e
  exact dk_X0_run_51 F k e
theorem dk_X0_run_45 {n : Nat} {g : Hp} {F : Nat} {o : Int32 × Hp} {h : Hp} (k : DyK n g h) (e : sX0_run_45 F h (n + 62) = some o) : DyK n g o.2 := by
  unfold sX0_run_45 at e
  replace e := cl_s e
  obtain ⟨o_1, eo_1, e⟩ := e
  have ko_1 : DyK n g o_1 := dk_X0_queueEnds k eo_1
  exact dk_X0_run_49 ko_1 e
theorem dk_X0_run_35 {n : Nat} {g : Hp} {F : Nat} {o : Int32 × Hp} {h : Hp} (k : DyK n g h) (e : sX0_run_35 F h (n + 62) = some o) : DyK n g o.2 := by
  unfold sX0_run_35 at e
  replace e := nm_s e
  obtain ⟨h_1, wh_1, e⟩ := e
  have kh_1 : DyK n g h_1 := by rw [wh_1]; exact dk_wI k
  replace e := cl_s e
  obtain ⟨o_2, eo_2, e⟩ := e
  have ko_2 : DyK n g o_2 := dk_X0_countAll kh_1 eo_2
  exact dk_X0_run_45 ko_2 e
theorem dk_X0_run_18 {n : Nat} {g : Hp} {F : Nat} {o : Int32 × Hp} {h : Hp} (k : DyK n g h) (e : sX0_run_18 F h (n + 62) = some o) : DyK n g o.2 := by
  unfold sX0_run_18 at e
  replace e := nm_s e
  obtain ⟨h_1, wh_1, e⟩ := e
  have kh_1 : DyK n g h_1 := by rw [wh_1]; exact dk_wI k
  replace e := nm_s e
  obtain ⟨h_2, wh_2, e⟩ := e
  have kh_2 : DyK n g h_2 := by rw [wh_2]; exact dk_wI kh_1
  replace e := cl_s e
  obtain ⟨o_3, eo_3, e⟩ := e
  have ko_3 : DyK n g o_3 := dk_X0_markAll kh_2 eo_3
  exact dk_X0_run_35 ko_3 e
theorem dk_X0_run_9 {n : Nat} {g : Hp} {F : Nat} {o : Int32 × Hp} {t0 : Int32} (z : hS g = 0) {h : Hp} (k : DyK n g h) (e : sX0_run_9 F h (n + 62) t0 = some o) : DyK n g o.2 := by
  unfold sX0_run_9 at e
  replace e := br_s e
  rcases e with ⟨_, e⟩ | ⟨_, e⟩
  · rw [← Option.some.inj e]; exact k
  · replace e := cl_s e
    obtain ⟨o_2, eo_2, e⟩ := e
    have ko_2 : DyK n g o_2 := dk_X0_makeRoom z k eo_2
    exact dk_X0_run_18 ko_2 e
theorem dk_X0_run {n : Nat} {g : Hp} {F : Nat} {o : Int32 × Hp} (z : hS g = 0) {h : Hp} (k : DyK n g h) (e : sX0_run F h (n + 62) = some o) : DyK n g o.2 := by
  unfold sX0_run at e
  replace e := nm_s e
  obtain ⟨h_1, wh_1, e⟩ := e
  have kh_1 : DyK n g h_1 := by rw [wh_1]; exact dk_wI k
  replace e := cl_s e
  obtain ⟨o_2, eo_2, e⟩ := e
  have ko_2 : DyK n g o_2.2 := dk_X0_gatherSets kh_1 eo_2
  exact dk_X0_run_9 z ko_2 e
theorem dk_X11_solve_70 {n : Nat} {g : Hp} {F : Nat} {o : Int32 × Hp} {t0 : Int32} {h : Hp} (k : DyK n g h) (e : sX11_solve_70 F h n t0 = some o) : DyK n g o.2 := by
  unfold sX11_solve_70 at e
  exact dk_X11_solve_71 k e
theorem dk_X11_solve_55 {n : Nat} {g : Hp} {F : Nat} {o : Int32 × Hp} {t0 : Int32} {h : Hp} (k : DyK n g h) (e : sX11_solve_55 F h n t0 = some o) : DyK n g o.2 := by
  unfold sX11_solve_55 at e
  replace e := br_s e
  rcases e with ⟨_, e⟩ | ⟨_, e⟩
  · exact dk_X11_solve_70 k e
  · replace e := cl_s e
    obtain ⟨r_2, _, e⟩ := e
    exact dk_X11_solve_70 k e
theorem dk_X11_solve_34 {n : Nat} {g : Hp} {F : Nat} {o : Int32 × Hp} {t0 : Int32} (z : hS g = 0) {h : Hp} (k : DyK n g h) (e : sX11_solve_34 F h n t0 = some o) : DyK n g o.2 := by
  unfold sX11_solve_34 at e
  replace e := br_s e
  rcases e with ⟨_, e⟩ | ⟨_, e⟩
  · replace e := cl_s e
    obtain ⟨r_2, er_2, e⟩ := e
    have yr_2 := dk_ed (a := 0) (b := 62) k (by decide +kernel) er_2
    subst yr_2
    replace e := cl_s e
    obtain ⟨o_3, eo_3, e⟩ := e
    have ko_3 : DyK n g o_3.2 := dk_X0_run z k eo_3
    exact dk_X11_solve_55 ko_3 e
  · exact dk_X11_solve_70 k e
theorem dk_X11_solve_20 {n : Nat} {g : Hp} {F : Nat} {o : Int32 × Hp} {x1 : Int32} {t0 : Int32} (z : hS g = 0) {h : Hp} (k : DyK n g h) (e : sX11_solve_20 F h n x1 t0 = some o) : DyK n g o.2 := by
  unfold sX11_solve_20 at e
  replace e := br_s e
  rcases e with ⟨_, e⟩ | ⟨_, e⟩
  · replace e := cl_s e
    obtain ⟨r_2, _, e⟩ := e
    replace e := cl_s e
    obtain ⟨r_3, _, e⟩ := e
    replace e := cl_s e
    obtain ⟨o_4, eo_4, e⟩ := e
    have ko_4 : DyK n g o_4.2 := dk_X0_read k eo_4
    exact dk_X11_solve_34 z ko_4 e
  · exact dk_X11_solve_71 k e
theorem dk_X11_solve_10 {n : Nat} {g : Hp} {F : Nat} {o : Int32 × Hp} {x1 : Int32} {t0 : Int32} (z : hS g = 0) {h : Hp} (k : DyK n g h) (e : sX11_solve_10 F h n x1 t0 = some o) : DyK n g o.2 := by
  unfold sX11_solve_10 at e
  replace e := br_s e
  rcases e with ⟨_, e⟩ | ⟨_, e⟩
  · exact dk_X11_solve_71 k e
  · replace e := cl_s e
    obtain ⟨r_2, _, e⟩ := e
    replace e := cl_s e
    obtain ⟨o_3, eo_3, e⟩ := e
    have ko_3 : DyK n g o_3.2 := dk_X1_hasCatch k eo_3
    exact dk_X11_solve_20 z ko_3 e
theorem dk_X11_solve {n : Nat} {g : Hp} {F : Nat} {o : Int32 × Hp} (z : hS g = 0) {h : Hp} (k : DyK n g h) (e : sX11_solve F h n = some o) : DyK n g o.2 := by
  unfold sX11_solve at e
  replace e := cl_s e
  obtain ⟨r_1, _, e⟩ := e
  replace e := cl_s e
  obtain ⟨o_2, eo_2, e⟩ := e
  have ko_2 : DyK n g o_2.2 := dk_X1_isPlain k eo_2
  exact dk_X11_solve_10 z ko_2 e
theorem dk_X0_nodeOfAll_18 {n : Nat} {g : Hp} {F : Nat} {o : Int32 × Hp} {h : Hp} (k : DyK n g h) (e : sX0_nodeOfAll_18 F h = some o) : DyK n g o.2 := by
  unfold sX0_nodeOfAll_18 at e
  rw [← Option.some.inj e]; exact k
theorem dk_X0_nodeOfAll_64 {n : Nat} {g : Hp} {F : Nat} {o : Int32 × Hp} {t0 : Int32} {h : Hp} (k : DyK n g h) (e : sX0_nodeOfAll_64 F h t0 = some o) : DyK n g o.2 := by
  unfold sX0_nodeOfAll_64 at e
  rw [← Option.some.inj e]; exact k
theorem dk_X0_nodeOfAll {n : Nat} {g : Hp} {F : Nat} {o : Int32 × Hp} {x0 : Nat} {x1 : Nat} {h : Hp} (k : DyK n g h) (e : sX0_nodeOfAll F h x0 x1 = some o) : DyK n g o.2 := by
  unfold sX0_nodeOfAll at e
  replace e := br_s e
  rcases e with ⟨_, e⟩ | ⟨_, e⟩
  · exact dk_X0_nodeOfAll_18 k e
  · replace e := cl_s e
    obtain ⟨o_2, eo_2, e⟩ := e
    have ko_2 : DyK n g o_2.2 := dk_X3_occupied k eo_2
    replace e := cl_s e
    obtain ⟨o_3, eo_3, e⟩ := e
    have ko_3 : DyK n g o_3.2 := dk_J13_bitCount_95d88 ko_2 eo_3
    replace e := br_s e
    rcases e with ⟨_, e⟩ | ⟨_, e⟩
    · replace e := cl_s e
      obtain ⟨o_5, eo_5, e⟩ := e
      have ko_5 : DyK n g o_5 := dk_X0_gatherRow ko_3 eo_5
      replace e := cl_s e
      obtain ⟨o_6, eo_6, e⟩ := e
      have ko_6 : DyK n g o_6.2 := dk_X0_keyOfRow ko_5 eo_6
      replace e := cl_s e
      obtain ⟨o_7, eo_7, e⟩ := e
      have ko_7 : DyK n g o_7.2 := dk_X0_findSet ko_6 eo_7
      replace e := br_s e
      rcases e with ⟨_, e⟩ | ⟨_, e⟩
      · exact dk_X0_nodeOfAll_64 ko_7 e
      · replace e := cl_s e
        obtain ⟨r_9, _, e⟩ := e
        replace e := (gd_s e).2
        replace e := cl_s e
        obtain ⟨o_11, eo_11, e⟩ := e
        have ko_11 : DyK n g o_11.2 := dk_X0_numberOf ko_7 eo_11
        exact dk_X0_nodeOfAll_64 ko_11 e
    · exact dk_X0_nodeOfAll_18 ko_3 e
theorem dk_X11_worth_48 {n : Nat} {g : Hp} {F : Nat} {o : Int32 × Hp} {t0 : Int32} {h : Hp} (k : DyK n g h) (e : sX11_worth_48 F h t0 = some o) : DyK n g o.2 := by
  unfold sX11_worth_48 at e
  rw [← Option.some.inj e]; exact k
theorem dk_X11_worth {n : Nat} {g : Hp} {F : Nat} {o : Int32 × Hp} {x0 : Nat} {x1 : Int32} {h : Hp} (k : DyK n g h) (e : sX11_worth F h x0 x1 = some o) : DyK n g o.2 := by
  unfold sX11_worth at e
  replace e := cl_s e
  obtain ⟨o_1, eo_1, e⟩ := e
  have ko_1 : DyK n g o_1.2 := dk_X11_isPlace k eo_1
  replace e := br_s e
  rcases e with ⟨_, e⟩ | ⟨_, e⟩
  · rw [← Option.some.inj e]; exact ko_1
  · replace e := cl_s e
    obtain ⟨r_3, _, e⟩ := e
    replace e := cl_s e
    obtain ⟨r_4, _, e⟩ := e
    replace e := (gd_s e).2
    replace e := cl_s e
    obtain ⟨r_6, _, e⟩ := e
    replace e := cl_s e
    obtain ⟨o_7, eo_7, e⟩ := e
    have ko_7 : DyK n g o_7.2 := dk_X0_nodeOfAll ko_1 eo_7
    replace e := br_s e
    rcases e with ⟨_, e⟩ | ⟨_, e⟩
    · exact dk_X11_worth_48 ko_7 e
    · replace e := cl_s e
      obtain ⟨r_9, _, e⟩ := e
      replace e := cl_s e
      obtain ⟨r_10, _, e⟩ := e
      replace e := (gd_s e).2
      exact dk_X11_worth_48 ko_7 e
theorem dk_X11_tally_21 {n : Nat} {g : Hp} {F : Nat} {o : Int32 × Hp} {h : Hp} (k : DyK n g h) (e : sX11_tally_21 F h = some o) : DyK n g o.2 := by
  unfold sX11_tally_21 at e
  rw [← Option.some.inj e]; exact k
theorem dk_X11_tally_48 {n : Nat} {g : Hp} {F : Nat} {o : Int32 × Hp} {t0 : Int32} {h : Hp} (k : DyK n g h) (e : sX11_tally_48 F h t0 = some o) : DyK n g o.2 := by
  unfold sX11_tally_48 at e
  rw [← Option.some.inj e]; exact k
theorem dk_X0_countWorth_76 {n : Nat} {g : Hp} {F : Nat} {o : Int32 × Hp} {x4 : Int32} {h : Hp} (k : DyK n g h) (e : sX0_countWorth_76 F h x4 = some o) : DyK n g o.2 := by
  unfold sX0_countWorth_76 at e
  rw [← Option.some.inj e]; exact k
theorem dk_X0_countWorth_67 {n : Nat} {g : Hp} {F : Nat} {o : Int32 × Hp} {x0 : Nat} {x1 : Int32} {x2 : Int32} {x3 : Int32} {x5 : Int32} {t0 : Int32} {t1 : Int32} {k_29 : Hp → Nat → Int32 → Int32 → Int32 → Int32 → Int32 → Option (Int32 × Hp)} (R_29 : ∀ {h : Hp} {y1 : Nat} {y2 : Int32} {y3 : Int32} {y4 : Int32} {y5 : Int32} {y6 : Int32}, DyK n g h → k_29 h y1 y2 y3 y4 y5 y6 = some o → DyK n g o.2) {h : Hp} (k : DyK n g h) (e : sX0_countWorth_67 F k_29 h x0 x1 x2 x3 x5 t0 t1 = some o) : DyK n g o.2 := by
  unfold sX0_countWorth_67 at e
  replace e := nm_s e
  obtain ⟨v_1, wv_1, e⟩ := e
  replace e := nm_s e
  obtain ⟨v_2, wv_2, e⟩ := e
  exact R_29 k e
theorem dk_X0_countWorth_29 {n : Nat} {g : Hp} {F : Nat} {o : Int32 × Hp} : ∀ (f : Nat) {h : Hp} {x0 : Nat} {x1 : Int32} {x2 : Int32} {x3 : Int32} {x4 : Int32} {x5 : Int32}, DyK n g h → sX0_countWorth_29 F f h x0 x1 x2 x3 x4 x5 = some o → DyK n g o.2 := by
  intro f
  induction f with
  | zero => intro h x0 x1 x2 x3 x4 x5 _ e; exact absurd e (by rw [sX0_countWorth_29]; exact fun z => nomatch z)
  | succ f ih =>
    intro h x0 x1 x2 x3 x4 x5 k e
    rw [sX0_countWorth_29] at e
    replace e := br_s e
    rcases e with ⟨_, e⟩ | ⟨_, e⟩
    · exact dk_X0_countWorth_76 k e
    · replace e := cl_s e
      obtain ⟨r_2, _, e⟩ := e
      replace e := (gd_s e).2
      replace e := br_s e
      rcases e with ⟨_, e⟩ | ⟨_, e⟩
      · exact dk_X0_countWorth_76 k e
      · replace e := cl_s e
        obtain ⟨r_5, _, e⟩ := e
        replace e := (gd_s e).2
        replace e := br_s e
        rcases e with ⟨_, e⟩ | ⟨_, e⟩
        · exact dk_X0_countWorth_67 (fun k e => ih k e) k e
        · exact dk_X0_countWorth_67 (fun k e => ih k e) k e
theorem dk_X0_countWorth_27 {n : Nat} {g : Hp} {F : Nat} {o : Int32 × Hp} {x0 : Nat} {x1 : Int32} {x2 : Int32} {x3 : Int32} {x4 : Int32} {t0 : Int32} {h : Hp} (k : DyK n g h) (e : sX0_countWorth_27 F h x0 x1 x2 x3 x4 t0 = some o) : DyK n g o.2 := by
  unfold sX0_countWorth_27 at e
  exact dk_X0_countWorth_29 F k e
theorem dk_X0_countWorth {n : Nat} {g : Hp} {F : Nat} {o : Int32 × Hp} {x0 : Nat} {x1 : Int32} {x2 : Int32} {h : Hp} (k : DyK n g h) (e : sX0_countWorth F h x0 x1 x2 = some o) : DyK n g o.2 := by
  unfold sX0_countWorth at e
  replace e := cl_s e
  obtain ⟨o_1, eo_1, e⟩ := e
  have ko_1 : DyK n g o_1.2 := dk_X0_findSet k eo_1
  replace e := br_s e
  rcases e with ⟨_, e⟩ | ⟨_, e⟩
  · exact dk_X0_countWorth_27 ko_1 e
  · replace e := cl_s e
    obtain ⟨r_3, _, e⟩ := e
    replace e := (gd_s e).2
    exact dk_X0_countWorth_27 ko_1 e
theorem dk_X11_tally {n : Nat} {g : Hp} {F : Nat} {o : Int32 × Hp} {x0 : Nat} {x1 : Int32} {x2 : Int32} {h : Hp} (k : DyK n g h) (e : sX11_tally F h x0 x1 x2 = some o) : DyK n g o.2 := by
  unfold sX11_tally at e
  replace e := cl_s e
  obtain ⟨o_1, eo_1, e⟩ := e
  have ko_1 : DyK n g o_1.2 := dk_X11_isSide k eo_1
  replace e := br_s e
  rcases e with ⟨_, e⟩ | ⟨_, e⟩
  · exact dk_X11_tally_21 ko_1 e
  · replace e := br_s e
    rcases e with ⟨_, e⟩ | ⟨_, e⟩
    · exact dk_X11_tally_21 ko_1 e
    · replace e := br_s e
      rcases e with ⟨_, e⟩ | ⟨_, e⟩
      · replace e := cl_s e
        obtain ⟨r_5, _, e⟩ := e
        replace e := br_s e
        rcases e with ⟨_, e⟩ | ⟨_, e⟩
        · exact dk_X11_tally_48 ko_1 e
        · replace e := cl_s e
          obtain ⟨r_7, _, e⟩ := e
          replace e := cl_s e
          obtain ⟨o_8, eo_8, e⟩ := e
          have ko_8 : DyK n g o_8.2 := dk_X0_countWorth ko_1 eo_8
          exact dk_X11_tally_48 ko_8 e
      · exact dk_X11_tally_21 ko_1 e
theorem dk_X11_problem_30 {n : Nat} {g : Hp} {F : Nat} {o : Int32 × Hp} {h : Hp} (k : DyK n g h) (e : sX11_problem_30 F h = some o) : DyK n g o.2 := by
  unfold sX11_problem_30 at e
  rw [← Option.some.inj e]; exact k
theorem dk_X4_keep_79 {n : Nat} {g : Hp} {F : Nat} {o : Hp} {x0 : Nat} {t0 : Int32} {t1 : Nat} {h : Hp} (k : DyK n g h) (e : sX4_keep_79 F h x0 t0 t1 = some o) : DyK n g o := by
  unfold sX4_keep_79 at e
  replace e := nm_s e
  obtain ⟨h_1, wh_1, e⟩ := e
  have kh_1 : DyK n g h_1 := by rw [wh_1]; exact dk_wI k
  replace e := cl_s e
  obtain ⟨r_2, _, e⟩ := e
  replace e := cl_s e
  obtain ⟨r_3, _, e⟩ := e
  replace e := (gd_s e).2
  replace e := (gd_s e).2
  replace e := (gd_s e).2
  replace e := (gd_s e).2
  replace e := (gd_s e).2
  replace e := nm_s e
  obtain ⟨h_9, wh_9, e⟩ := e
  have kh_9 : DyK n g h_9 := by rw [wh_9]; exact dk_cpI kh_1
  rw [← Option.some.inj e]; exact kh_9
theorem dk_X4_keep_71 {n : Nat} {g : Hp} {F : Nat} {o : Hp} {x0 : Nat} {t0 : Nat} {h : Hp} (k : DyK n g h) (e : sX4_keep_71 F h x0 t0 = some o) : DyK n g o := by
  unfold sX4_keep_71 at e
  exact dk_X4_keep_79 k e
theorem dk_X4_keep_49 {n : Nat} {g : Hp} {F : Nat} {o : Hp} {x0 : Nat} {x2 : Int32} {k_12 : Hp → Nat → Int32 → Option (Hp)} (R_12 : ∀ {h : Hp} {y1 : Nat} {y2 : Int32}, DyK n g h → k_12 h y1 y2 = some o → DyK n g o) {h : Hp} (k : DyK n g h) (e : sX4_keep_49 F k_12 h x0 x2 = some o) : DyK n g o := by
  unfold sX4_keep_49 at e
  replace e := nm_s e
  obtain ⟨v_1, wv_1, e⟩ := e
  exact R_12 k e
theorem dk_X4_keep_12 {n : Nat} {g : Hp} {F : Nat} {o : Hp} : ∀ (f : Nat) {h : Hp} {x0 : Nat} {x2 : Int32}, DyK n g h → sX4_keep_12 F f h x0 x2 = some o → DyK n g o := by
  intro f
  induction f with
  | zero => intro h x0 x2 _ e; exact absurd e (by rw [sX4_keep_12]; exact fun z => nomatch z)
  | succ f ih =>
    intro h x0 x2 k e
    rw [sX4_keep_12] at e
    replace e := br_s e
    rcases e with ⟨_, e⟩ | ⟨_, e⟩
    · replace e := br_s e
      rcases e with ⟨_, e⟩ | ⟨_, e⟩
      · exact dk_X4_keep_71 k e
      · replace e := br_s e
        rcases e with ⟨_, e⟩ | ⟨_, e⟩
        · exact dk_X4_keep_71 k e
        · exact dk_X4_keep_79 k e
    · replace e := cl_s e
      obtain ⟨r_4, _, e⟩ := e
      replace e := (gd_s e).2
      replace e := br_s e
      rcases e with ⟨_, e⟩ | ⟨_, e⟩
      · exact dk_X4_keep_49 (fun k e => ih k e) k e
      · replace e := cl_s e
        obtain ⟨r_7, _, e⟩ := e
        replace e := (gd_s e).2
        replace e := nm_s e
        obtain ⟨h_9, wh_9, e⟩ := e
        have kh_9 : DyK n g h_9 := by rw [wh_9]; exact dk_wI k
        replace e := nm_s e
        obtain ⟨h_10, wh_10, e⟩ := e
        have kh_10 : DyK n g h_10 := by rw [wh_10]; exact dk_wI kh_9
        exact dk_X4_keep_49 (fun k e => ih k e) kh_10 e
theorem dk_X4_keep {n : Nat} {g : Hp} {F : Nat} {o : Hp} {x0 : Nat} {x1 : Int32} {h : Hp} (k : DyK n g h) (e : sX4_keep F h x0 x1 = some o) : DyK n g o := by
  unfold sX4_keep at e
  replace e := nm_s e
  obtain ⟨h_1, wh_1, e⟩ := e
  have kh_1 : DyK n g h_1 := by rw [wh_1]; exact dk_wI k
  replace e := nm_s e
  obtain ⟨h_2, wh_2, e⟩ := e
  have kh_2 : DyK n g h_2 := by rw [wh_2]; exact dk_wI kh_1
  exact dk_X4_keep_12 F kh_2 e
theorem dk_X11_problem {n : Nat} {g : Hp} {F : Nat} {o : Int32 × Hp} {x1 : Int32} {x2 : Int32} {x3 : Int32} {x4 : Int32} {h : Hp} (k : DyK n g h) (e : sX11_problem F h n x1 x2 x3 x4 = some o) : DyK n g o.2 := by
  unfold sX11_problem at e
  replace e := br_s e
  rcases e with ⟨_, e⟩ | ⟨_, e⟩
  · exact dk_X11_problem_30 k e
  · replace e := br_s e
    rcases e with ⟨_, e⟩ | ⟨_, e⟩
    · exact dk_X11_problem_30 k e
    · replace e := br_s e
      rcases e with ⟨_, e⟩ | ⟨_, e⟩
      · exact dk_X11_problem_30 k e
      · replace e := br_s e
        rcases e with ⟨_, e⟩ | ⟨_, e⟩
        · exact dk_X11_problem_30 k e
        · replace e := br_s e
          rcases e with ⟨_, e⟩ | ⟨_, e⟩
          · exact dk_X11_problem_30 k e
          · replace e := br_s e
            rcases e with ⟨_, e⟩ | ⟨_, e⟩
            · replace e := cl_s e
              obtain ⟨o_7, eo_7, e⟩ := e
              have ko_7 : DyK n g o_7.2 := dk_X11_isPlace k eo_7
              replace e := br_s e
              rcases e with ⟨_, e⟩ | ⟨_, e⟩
              · rw [← Option.some.inj e]; exact ko_7
              · replace e := cl_s e
                obtain ⟨r_9, er_9, e⟩ := e
                have yr_9 := dk_ed (a := 0) (b := 30) ko_7 (by decide +kernel) er_9
                subst yr_9
                replace e := cl_s e
                obtain ⟨r_10, _, e⟩ := e
                replace e := (gd_s e).2
                replace e := cl_s e
                obtain ⟨r_12, _, e⟩ := e
                replace e := cl_s e
                obtain ⟨o_13, eo_13, e⟩ := e
                have ko_13 : DyK n g o_13.2 := dk_X5_endOf ko_7 eo_13
                replace e := br_s e
                rcases e with ⟨_, e⟩ | ⟨_, e⟩
                · replace e := cl_s e
                  obtain ⟨r_15, _, e⟩ := e
                  replace e := cl_s e
                  obtain ⟨r_16, _, e⟩ := e
                  replace e := (gd_s e).2
                  replace e := cl_s e
                  obtain ⟨r_18, _, e⟩ := e
                  replace e := cl_s e
                  obtain ⟨o_19, eo_19, e⟩ := e
                  have ko_19 : DyK n g o_19 := dk_X4_set ko_13 eo_19
                  replace e := cl_s e
                  obtain ⟨r_20, er_20, e⟩ := e
                  have yr_20 := dk_ed (a := 0) (b := 76) ko_19 (by decide +kernel) er_20
                  subst yr_20
                  replace e := cl_s e
                  obtain ⟨o_21, eo_21, e⟩ := e
                  have ko_21 : DyK n g o_21.2 := dk_X4_tree ko_19 eo_21
                  replace e := cl_s e
                  obtain ⟨r_22, _, e⟩ := e
                  replace e := br_s e
                  rcases e with ⟨_, e⟩ | ⟨_, e⟩
                  · replace e := cl_s e
                    obtain ⟨r_24, _, e⟩ := e
                    replace e := cl_s e
                    obtain ⟨o_25, eo_25, e⟩ := e
                    have ko_25 : DyK n g o_25 := dk_X4_keep ko_21 eo_25
                    rw [← Option.some.inj e]; exact ko_25
                  · rw [← Option.some.inj e]; exact ko_21
                · rw [← Option.some.inj e]; exact ko_13
            · exact dk_X11_problem_30 k e
theorem dk_X4_keyAt_22 {n : Nat} {g : Hp} {o : Int32 × Hp} {t0 : Int32} {h : Hp} (k : DyK n g h) (e : sX4_keyAt_22 h t0 = some o) : DyK n g o.2 := by
  unfold sX4_keyAt_22 at e
  rw [← Option.some.inj e]; exact k
theorem dk_X4_keyAt_21 {n : Nat} {g : Hp} {o : Int32 × Hp} {h : Hp} (k : DyK n g h) (e : sX4_keyAt_21 h = some o) : DyK n g o.2 := by
  unfold sX4_keyAt_21 at e
  exact dk_X4_keyAt_22 k e
theorem dk_X4_keyAt {n : Nat} {g : Hp} {o : Int32 × Hp} {x0 : Nat} {x1 : Int32} {h : Hp} (k : DyK n g h) (e : sX4_keyAt h x0 x1 = some o) : DyK n g o.2 := by
  unfold sX4_keyAt at e
  replace e := br_s e
  rcases e with ⟨_, e⟩ | ⟨_, e⟩
  · exact dk_X4_keyAt_21 k e
  · replace e := br_s e
    rcases e with ⟨_, e⟩ | ⟨_, e⟩
    · exact dk_X4_keyAt_21 k e
    · replace e := cl_s e
      obtain ⟨r_3, _, e⟩ := e
      replace e := (gd_s e).2
      exact dk_X4_keyAt_22 k e
theorem dk_X11_key {n : Nat} {g : Hp} {o : Int32 × Hp} {x0 : Nat} {x1 : Int32} {h : Hp} (k : DyK n g h) (e : sX11_key h x0 x1 = some o) : DyK n g o.2 := by
  unfold sX11_key at e
  replace e := cl_s e
  obtain ⟨r_1, _, e⟩ := e
  replace e := cl_s e
  obtain ⟨o_2, eo_2, e⟩ := e
  have ko_2 : DyK n g o_2.2 := dk_X4_keyAt k eo_2
  rw [← Option.some.inj e]; exact ko_2
theorem dk_X4_refutesOf_22 {n : Nat} {g : Hp} {o : Int32 × Hp} {t0 : Int32} {h : Hp} (k : DyK n g h) (e : sX4_refutesOf_22 h t0 = some o) : DyK n g o.2 := by
  unfold sX4_refutesOf_22 at e
  rw [← Option.some.inj e]; exact k
theorem dk_X4_refutesOf_21 {n : Nat} {g : Hp} {o : Int32 × Hp} {h : Hp} (k : DyK n g h) (e : sX4_refutesOf_21 h = some o) : DyK n g o.2 := by
  unfold sX4_refutesOf_21 at e
  exact dk_X4_refutesOf_22 k e
theorem dk_X4_refutesOf {n : Nat} {g : Hp} {o : Int32 × Hp} {x0 : Nat} {x1 : Int32} {h : Hp} (k : DyK n g h) (e : sX4_refutesOf h x0 x1 = some o) : DyK n g o.2 := by
  unfold sX4_refutesOf at e
  replace e := br_s e
  rcases e with ⟨_, e⟩ | ⟨_, e⟩
  · exact dk_X4_refutesOf_21 k e
  · replace e := br_s e
    rcases e with ⟨_, e⟩ | ⟨_, e⟩
    · exact dk_X4_refutesOf_21 k e
    · replace e := cl_s e
      obtain ⟨r_3, _, e⟩ := e
      replace e := (gd_s e).2
      exact dk_X4_refutesOf_22 k e
theorem dk_X11_refutes {n : Nat} {g : Hp} {o : Int32 × Hp} {x0 : Nat} {x1 : Int32} {h : Hp} (k : DyK n g h) (e : sX11_refutes h x0 x1 = some o) : DyK n g o.2 := by
  unfold sX11_refutes at e
  replace e := cl_s e
  obtain ⟨r_1, _, e⟩ := e
  replace e := cl_s e
  obtain ⟨o_2, eo_2, e⟩ := e
  have ko_2 : DyK n g o_2.2 := dk_X4_refutesOf k eo_2
  rw [← Option.some.inj e]; exact ko_2
end
section
/-! worlds of both sides by addresses -/
/-- a position of the class at b; a board of the reference at b -/
def CpA (h : Hp) (b : Nat) (ro : Int) (P : Pz) : Prop := CpP (fun k => b + kof k) h ro P
def RbA (h : Hp) (b : Nat) (P : Pz) : Prop := RbP (fun k => b + kof k) h P
section
variable {n s p q r x l v w : Nat} {h o g : Hp} {ro : Int} {P : Pz} {L : Nat → Nat → Int}
theorem cpa_k : CpP (vK n s p q r x l) h ro P ↔ CpA h p ro P := by
  unfold CpA CpP VPc
  exact Iff.rfl
theorem cpa_2 : CpP (vC (vK n s p q r x l)) h ro P ↔ CpA h q ro P := by
  unfold CpA CpP VPc
  exact Iff.rfl
theorem cpa_3 : CpP (vT (vK n s p q r x l)) h ro P ↔ CpA h r ro P := by
  unfold CpA CpP VPc
  exact Iff.rfl
theorem rba_m : RbP (vM n s p q r v w) h P ↔ RbA h p P := by
  unfold RbA RbP VPr
  exact Iff.rfl
theorem rba_2 : RbP (vR (vM n s p q r v w)) h P ↔ RbA h q P := by
  unfold RbA RbP VPr
  exact Iff.rfl
theorem rba_3 : RbP (vS (vM n s p q r v w)) h P ↔ RbA h r P := by
  unfold RbA RbP VPr
  exact Iff.rfl
/-- the class's RULES and ways -/
def ClL (n : Nat) (h : Hp) (L : Nat → Nat → Int) : Prop := MkC (vK n 0 0 0 0 0 0) h L
theorem cll_k : MkC (vK n s p q r x l) h L ↔ ClL n h L := by
  unfold ClL MkC CWy CLwC CLq CLx WCf WyT AroT CellW WyE
  exact Iff.rfl
/-- the reference's RULES at w -/
def RfL (n : Nat) (h : Hp) (w : Nat) (L : Nat → Nat → Int) : Prop := RW0 (vM n 0 0 0 0 0 w) h L
theorem rfl_m : RW0 (vM n s p q r v w) h L ↔ RfL n h w L := by
  unfold RfL RW0 WRf GRf
  have : lwR (vM n s p q r v w) h = lwR (vM n 0 0 0 0 0 w) h := by
    funext k i
    unfold lwR
    have a : vM n s p q r v w 15 = vM n 0 0 0 0 0 w 15 := rfl
    rw [a]
    by_cases c : k < 30
    · rw [if_pos c, if_pos c]
    · rw [if_neg c, if_neg c]
      by_cases c2 : 73 ≤ k ∧ k ≤ 81
      · rw [if_pos c2, if_pos c2]
        have : k = 73 ∨ k = 74 ∨ k = 75 ∨ k = 76 ∨ k = 77 ∨ k = 78 ∨ k = 79 ∨ k = 80 ∨ k = 81 := by omega
        rcases this with z | z | z | z | z | z | z | z | z <;> subst z <;> rfl
      · rw [if_neg c2, if_neg c2]
  rw [this]
  exact Iff.rfl
end
/-- a key that may be written: of what stands firm sb tells, of other things cs -/
def okK (sb : Nat → Nat → Bool) (cs : List Nat) (k f : Nat) : Bool := (Nat.beq (kcl k) 0 && sb (kof k) f) || (cs.contains (kcl k) && (Nat.blt (kof k) (wdc (kcl k)) && !(Nat.beq (kcl k) 0)))
/-- frames by addresses -/
def FrW (W : Nat → Nat → Prop) (h o : Hp) : Prop := hS h ≤ hS o ∧ ∀ a i, a < hS h → ¬ W a i → hI o a i = hI h a i ∧ hJ o a i = hJ h a i
section
variable {W : Nat → Nat → Prop} {h o g : Hp}
theorem fw_0 : FrW W h h := ⟨Nat.le_refl _, fun _ _ _ _ => ⟨rfl, rfl⟩⟩
theorem fw_t (A : FrW W h o) (B : FrW W o g) : FrW W h g := ⟨Nat.le_trans A.1 B.1, fun a i l n => by
  have b := B.2 a i (Nat.lt_of_lt_of_le l A.1) n
  have a' := A.2 a i l n
  exact ⟨b.1.trans a'.1, b.2.trans a'.2⟩⟩
theorem fw_s {W' : Nat → Nat → Prop} (A : FrW W h o) (s : ∀ a i, W a i → W' a i) : FrW W' h o := ⟨A.1, fun a i l n => A.2 a i l (fun w => n (s a i w))⟩
theorem fw_v {B : Nat → Nat} {Ls : List (Nat × Nat)} {sb : Nat → Nat → Bool} {cs : List Nat} (A : FrV (vV B) (wl Ls) h o) (sz : hS h ≤ hS o) (ck : (Ls.all fun e => okK sb cs e.1 e.2) = true) (c0 : ∀ j f i, sb j f = true → (f = i ∨ f = 999) → W (B 0 + j) i) (c1 : ∀ c, c ∈ cs → ∀ j i, j < wdc c → W (B c + j) i) : FrW W h o := ⟨sz, fun a i _ nw => A.2 a i (fun k hk e => by
  obtain ⟨j, hj, z⟩ := wl_m hk
  have y := List.all_eq_true.mp ck (k, j) hj
  have y : okK sb cs k j = true := y
  unfold okK at y
  rw [Bool.or_eq_true, Bool.and_eq_true, Bool.and_eq_true, Bool.and_eq_true] at y
  have e : a = B (kcl k) + kof k := e
  refine nw ?_
  rw [e]
  rcases y with ⟨y1, y2⟩ | ⟨y1, y2, _⟩
  · have y1 : kcl k = 0 := Nat.eq_of_beq_eq_true y1
    rw [y1]
    exact c0 _ _ _ y2 z
  · have y1 : kcl k ∈ cs := by simpa using y1
    have y2 : kof k < wdc (kcl k) := by
      have := Nat.le_of_ble_eq_true y2
      omega
    exact c1 _ y1 _ _ y2)⟩
end
/-- what the class writes while it looks: the referee, its room, shifted; scribe, speaker; lists -/
def CSc (n a _i : Nat) : Prop := (n + 30 ≤ a ∧ a ≤ n + 47) ∨ (n + 79 ≤ a ∧ a ≤ n + 86) ∨ a = n + 147
def csB (j _f : Nat) : Bool := Nat.ble 30 j && Nat.ble j 47
theorem csb_c {n j f i : Nat} (e : csB j f = true) : CSc n (n + j) i := by
  unfold csB at e
  rw [Bool.and_eq_true] at e
  have a := Nat.le_of_ble_eq_true e.1
  have b := Nat.le_of_ble_eq_true e.2
  exact Or.inl ⟨by omega, by omega⟩
/-- what the reference writes while it looks -/
def RS (n a i : Nat) : Prop := (a = n + 513 ∧ (i = 23 ∨ i = 24 ∨ i = 29 ∨ i = 36)) ∨ (n + 543 ≤ a ∧ a ≤ n + 572) ∨ (n + 575 ≤ a ∧ a ≤ n + 579)
def rsB (j f : Nat) : Bool := (Nat.beq j 513 && (Nat.beq f 23 || (Nat.beq f 24 || (Nat.beq f 29 || Nat.beq f 36)))) || ((Nat.ble 543 j && Nat.ble j 572) || (Nat.ble 575 j && Nat.ble j 579))
theorem rsb_c {n j f i : Nat} (e : rsB j f = true) (z : f = i ∨ f = 999) : RS n (n + j) i := by
  unfold rsB at e
  rw [Bool.or_eq_true, Bool.or_eq_true, Bool.and_eq_true, Bool.and_eq_true, Bool.and_eq_true, Bool.or_eq_true, Bool.or_eq_true, Bool.or_eq_true] at e
  rcases e with ⟨a, b⟩ | ⟨a, b⟩ | ⟨a, b⟩
  · have a := Nat.eq_of_beq_eq_true a
    refine Or.inl ⟨by omega, ?_⟩
    rcases b with b | b | b | b <;> have b := Nat.eq_of_beq_eq_true b <;> omega
  · have a := Nat.le_of_ble_eq_true a
    have b := Nat.le_of_ble_eq_true b
    exact Or.inr (Or.inl ⟨by omega, by omega⟩)
  · have a := Nat.le_of_ble_eq_true a
    have b := Nat.le_of_ble_eq_true b
    exact Or.inr (Or.inr ⟨by omega, by omega⟩)
section
variable {n p x l b c t : Nat} {h o g : Hp} {own : Nat → Nat}
/-- things that were made at the start -/
theorem bk_st (O : OwS n h own) {w : Nat} (l : b + w ≤ 610) (e : ∀ j, j < w → sTg (b + j) = t) : Bk own h (n + b) w t := ⟨by have := O.2; omega, fun j hj => by
  rw [show n + b + j = n + (b + j) by omega, O.1 _ (by omega)]
  exact e j hj⟩
theorem sTg_pl : ∀ p : Fin 60, ∀ j : Fin 6, sTg (153 + 6 * p.val + j.val) = 30 + p.val := by decide +kernel
theorem sTg_ls : ∀ p : Fin 8, ∀ j : Fin 1, sTg (79 + p.val + j.val) = 20 + p.val := by decide +kernel
theorem sTg_pa : ∀ p : Fin 9, ∀ j : Fin 6, sTg (93 + 6 * p.val + j.val) = 10 + p.val := by decide +kernel
theorem bk_pl (O : OwS n h own) (hp : p < 60) : BkE own h (n + (153 + 6 * p)) 1 (30 + p) := Or.inl ⟨bk_st O (by show 153 + 6 * p + 6 ≤ 610; omega) (fun j hj => sTg_pl ⟨p, hp⟩ ⟨j, hj⟩), by omega, by omega⟩
theorem bk_sh (O : OwS n h own) : BkE own h (n + 32) 2 1 := Or.inl ⟨bk_st O (by decide) (by decide), by decide, by decide⟩
theorem bk_list (O : OwS n h own) : BkE own h (n + 147) 10 9 := Or.inl ⟨bk_st O (by decide) (by decide), by decide, by decide⟩
theorem bk_room (O : OwS n h own) : BkE own h (n + 31) 10 8 := Or.inl ⟨bk_st O (by decide) (by decide), by decide, by decide⟩
theorem bk_lists (O : OwS n h own) {d : Nat} (hd : d < 8) : BkE own h (n + (79 + d)) 10 (20 + d) := Or.inl ⟨bk_st O (by show 79 + d + 1 ≤ 610; omega) (fun j hj => sTg_ls ⟨d, hd⟩ ⟨j, hj⟩), by omega, by omega⟩
theorem bk_path (O : OwS n h own) {d : Nat} (hd : d < 9) : BkE own h (n + (93 + 6 * d)) 1 (10 + d) := Or.inl ⟨bk_st O (by show 93 + 6 * d + 6 ≤ 610; omega) (fun j hj => sTg_pa ⟨d, hd⟩ ⟨j, hj⟩), by omega, by omega⟩
theorem bk_out (O : OwS n h own) : BkE own h (n + 3) 9 6 := Or.inl ⟨bk_st O (by decide) (by decide), by decide, by decide⟩
theorem bk_heard (O : OwS n h own) : BkE own h (n + 46) 9 7 := Or.inl ⟨bk_st O (by decide) (by decide), by decide, by decide⟩
theorem bk_12 (b : BkE own h p 1 t) (l : t < 20000) : BkE own h p 2 t := by
  rcases b with ⟨x, y⟩ | ⟨_, z⟩
  · exact Or.inl ⟨x, y⟩
  · omega
theorem bk_13 (b : BkE own h p 1 t) (l : t < 20000) : BkE own h p 3 t := by
  rcases b with ⟨x, y⟩ | ⟨_, z⟩
  · exact Or.inl ⟨x, y⟩
  · omega
theorem bk_45 (b : BkE own h p 4 t) (l : t < 20000) : BkE own h p 5 t := by
  rcases b with ⟨x, y⟩ | ⟨_, z⟩
  · exact Or.inl ⟨x, y⟩
  · omega
theorem bk_46 (b : BkE own h p 4 t) (l : t < 20000) : BkE own h p 6 t := by
  rcases b with ⟨x, y⟩ | ⟨_, z⟩
  · exact Or.inl ⟨x, y⟩
  · omega
/-- a thing that was made at need -/
theorem bk_dy {i a : Nat} (D : DnS n h own) {q : Nat × Nat × Nat × Nat × List (Nat × Nat)} (hq : q ∈ fam) (hi : i < q.2.1) (e : hR h (n + q.1) i = some a) : n + 610 ≤ a ∧ Bk own h a q.2.2.1 (q.2.2.2.1 + i) ∧ ∀ p, p ∈ q.2.2.2.2 → hR h a p.1 = some (a + p.2) := D.2 q hq i hi a e
end
section
variable {n p q r x l s : Nat} {h o g : Hp} {L : Nat → Nat → Int} {P : Pz} {F : Nat}
/-- what collecting needs -/
theorem ccb_k (k : DyK n g h) (C : ClL n h L) (A : CpA h p (L 10 0) P) (hl : hN h l = 4096) : CcB (vK n s p (n + 32) r x l) h L P := by
  have M : MkC (vK n s p (n + 32) r x l) h L := cll_k.mpr C
  refine ⟨M.1, M.2, cpa_k.mpr A, hl, dk_e (a := 30) (f := 3) (b := 32) k (by decide +kernel), ?_⟩
  exact ⟨dk_e (a := 32) (f := 0) (b := 33) k (by decide +kernel), dk_e (a := 32) (f := 1) (b := 34) k (by decide +kernel), dk_e (a := 32) (f := 2) (b := 35) k (by decide +kernel), dk_e (a := 32) (f := 3) (b := 36) k (by decide +kernel), dk_e (a := 32) (f := 4) (b := 37) k (by decide +kernel)⟩
/-- a list of the class's moves at l -/
def ClM (n : Nat) (h : Hp) (l : Nat) (ms : List MvT) : Prop := ∀ i, i < ms.length → ∃ v, ms[i]? = some v ∧ MvC (hI h l i) v
theorem col_k {own : Nat → Nat} {tp tl : Nat} (k : DyK n h h) (O : OwS n h own) (bp : BkE own h p 1 tp) (bl : BkE own h l 10 tl) (np : ¬ tp = 1 ∧ ¬ tp = tl ∧ tp < 20000 ∧ ¬ tl = 1 ∧ tl < 20000) (cl' : CSc n l 0) (H : LOk L) (K : LawK L) (Oz : PzOk L P) (C : ClL n h L) (A : CpA h p (L 10 0) P) (hl : hN h l = 4096) {o : Int32 × Hp} (e : sX5_collect F h (n + 30) p l (4096 : Int32) = some o) : FrW (CSc n) h o.2 ∧ DyK n h o.2 ∧ ClM n o.2 l (lgL L P) ∧ o.1.toInt = ((lgL L P).length : Int) := by
  have D : VD (vK n (hS h) p (n + 32) (hS h + 1000 * 3) (hS h + 1000 * 9) l) := vd_k O bp (bk_sh O) (bke_o (c := 3)) (bke_o (c := 9)) bl (by omega)
  have CC : CcB (vK n (hS h) p (n + 32) (hS h + 1000 * 3) (hS h + 1000 * 9) l) h L P := ccb_k k C A hl
  have kk := dk_X5_collect k e
  obtain ⟨f, _, c, y⟩ := co_all D H K Oz CC e
  refine ⟨?_, kk, c.2, y⟩
  have f' := fw_v (W := CSc n) (sb := csB) (cs := [2, 10]) f (show hS h ≤ hS o.2 from hs_g kk.1) (by decide +kernel) (fun j f i z _ => csb_c z) (fun c hc j i hj => ?_)
  · exact f'
  · simp only [List.mem_cons, List.not_mem_nil, or_false] at hc
    rcases hc with z | z <;> subst z
    · exact Or.inl ⟨by show n + 30 ≤ n + 32 + j; omega, by have hj : j < 6 := hj; show n + 32 + j ≤ n + 47; omega⟩
    · have hj : j < 1 := hj
      have : j = 0 := by omega
      rw [this]
      exact cl'
end
end
