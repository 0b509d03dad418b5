/-! what sX7_read writes: printed by wfr.py -/
theorem wf_J7_fill_031fb_5 {n q : Nat} {g : Hp} {F : Nat} {o : Hp} (hq : q < 60) : ∀ (f : Nat) {h : Hp} {x1 : Int32} {x2 : Int32} {x3 : Int32}, DyK n g h → sJ7_fill_031fb_5 F f h (n + (153 + 6 * q) + 1) x1 x2 x3 = some o → DyK n g o ∧ FrW (WRd n q) h o := by
  intro f
  induction f with
  | zero => intro h x1 x2 x3 _ e; exact absurd e (by rw [sJ7_fill_031fb_5]; exact fun z => nomatch z)
  | succ f ih =>
    intro h x1 x2 x3 k e
    rw [sJ7_fill_031fb_5] at e
    rcases br_s e with ⟨_, e⟩ | ⟨_, e⟩
    · rw [← Option.some.inj e]; exact ⟨k, fw_0⟩
    · replace e := (gd_s e).2
      obtain ⟨h_3, wh_3, e⟩ := nm_s e
      have kh_3 : DyK n g h_3 := by rw [wh_3]; exact dk_wI k
      have fh_3 : FrW (WRd n q) h h_3 := by rw [wh_3]; exact fw_wI fw_0 (by unfold WRd; omega)
      obtain ⟨v_4, wv_4, e⟩ := nm_s e
      exact ⟨(ih kh_3 e).1, fw_t fh_3 (ih kh_3 e).2⟩
theorem wf_J7_fill_031fb {n q : Nat} {g : Hp} {F : Nat} {o : Hp} {x1 : Int32} (hq : q < 60) {h : Hp} (k : DyK n g h) (e : sJ7_fill_031fb F h (n + (153 + 6 * q) + 1) x1 = some o) : DyK n g o ∧ FrW (WRd n q) h o := by
  unfold sJ7_fill_031fb at e
  obtain ⟨v_1, wv_1, e⟩ := nm_s e
  exact wf_J7_fill_031fb_5 hq F k e
theorem wf_J7_fill_d0a16_6 {n q : Nat} {g : Hp} {F : Nat} {o : Hp} (hq : q < 60) : ∀ (f : Nat) {h : Hp} {x0 : Nat} {x1 : Int64} {x3 : Int32} {x4 : Int32}, (∀ i, WRd n q x0 i) → DyK n g h → sJ7_fill_d0a16_6 F f h x0 x1 x3 x4 = some o → DyK n g o ∧ FrW (WRd n q) h o := by
  intro f
  induction f with
  | zero => intro h x0 x1 x3 x4 _ _ e; exact absurd e (by rw [sJ7_fill_d0a16_6]; exact fun z => nomatch z)
  | succ f ih =>
    intro h x0 x1 x3 x4 w_x0 k e
    rw [sJ7_fill_d0a16_6] at e
    rcases br_s e with ⟨_, e⟩ | ⟨_, e⟩
    · rw [← Option.some.inj e]; exact ⟨k, fw_0⟩
    · replace e := (gd_s e).2
      obtain ⟨h_3, wh_3, e⟩ := nm_s e
      have kh_3 : DyK n g h_3 := by rw [wh_3]; exact dk_wJ k
      have fh_3 : FrW (WRd n q) h h_3 := by rw [wh_3]; exact fw_wJ fw_0 (w_x0 _)
      obtain ⟨v_4, wv_4, e⟩ := nm_s e
      exact ⟨(ih w_x0 kh_3 e).1, fw_t fh_3 (ih w_x0 kh_3 e).2⟩
theorem wf_J7_fill_d0a16 {n q : Nat} {g : Hp} {F : Nat} {o : Hp} {x0 : Nat} {x1 : Int64} (hq : q < 60) {h : Hp} (w_x0 : ∀ i, WRd n q x0 i) (k : DyK n g h) (e : sJ7_fill_d0a16 F h x0 x1 = some o) : DyK n g o ∧ FrW (WRd n q) h o := by
  unfold sJ7_fill_d0a16 at e
  obtain ⟨v_1, wv_1, e⟩ := nm_s e
  exact wf_J7_fill_d0a16_6 hq F w_x0 k e
theorem wf_J7_fill_53178_5 {n q : Nat} {g : Hp} {F : Nat} {o : Hp} (hq : q < 60) : ∀ (f : Nat) {h : Hp} {x0 : Nat} {x1 : Int32} {x2 : Int32} {x3 : Int32}, (∀ i, WRd n q x0 i) → DyK n g h → sJ7_fill_53178_5 F f h x0 x1 x2 x3 = some o → DyK n g o ∧ FrW (WRd n q) h o := by
  intro f
  induction f with
  | zero => intro h x0 x1 x2 x3 _ _ e; exact absurd e (by rw [sJ7_fill_53178_5]; exact fun z => nomatch z)
  | succ f ih =>
    intro h x0 x1 x2 x3 w_x0 k e
    rw [sJ7_fill_53178_5] at e
    rcases br_s e with ⟨_, e⟩ | ⟨_, e⟩
    · rw [← Option.some.inj e]; exact ⟨k, fw_0⟩
    · replace e := (gd_s e).2
      obtain ⟨h_3, wh_3, e⟩ := nm_s e
      have kh_3 : DyK n g h_3 := by rw [wh_3]; exact dk_wI k
      have fh_3 : FrW (WRd n q) h h_3 := by rw [wh_3]; exact fw_wI fw_0 (w_x0 _)
      obtain ⟨v_4, wv_4, e⟩ := nm_s e
      exact ⟨(ih w_x0 kh_3 e).1, fw_t fh_3 (ih w_x0 kh_3 e).2⟩
theorem wf_J7_fill_53178 {n q : Nat} {g : Hp} {F : Nat} {o : Hp} {x0 : Nat} {x1 : Int32} (hq : q < 60) {h : Hp} (w_x0 : ∀ i, WRd n q x0 i) (k : DyK n g h) (e : sJ7_fill_53178 F h x0 x1 = some o) : DyK n g o ∧ FrW (WRd n q) h o := by
  unfold sJ7_fill_53178 at e
  obtain ⟨v_1, wv_1, e⟩ := nm_s e
  exact wf_J7_fill_53178_5 hq F w_x0 k e
theorem wf_X3_strip {n q : Nat} {g : Hp} {F : Nat} {o : Hp} (hq : q < 60) {h : Hp} (k : DyK n g h) (e : sX3_strip F h (n + (153 + 6 * q)) = some o) : DyK n g o ∧ FrW (WRd n q) h o := by
  unfold sX3_strip at e
  obtain ⟨h_1, wh_1, e⟩ := nm_s e
  have kh_1 : DyK n g h_1 := by rw [wh_1]; exact dk_wJ k
  have fh_1 : FrW (WRd n q) h h_1 := by rw [wh_1]; exact fw_wJ fw_0 (by unfold WRd; omega)
  obtain ⟨h_2, wh_2, e⟩ := nm_s e
  have kh_2 : DyK n g h_2 := by rw [wh_2]; exact dk_wJ kh_1
  have fh_2 : FrW (WRd n q) h h_2 := by rw [wh_2]; exact fw_wJ fh_1 (by unfold WRd; omega)
  obtain ⟨h_3, wh_3, e⟩ := nm_s e
  have kh_3 : DyK n g h_3 := by rw [wh_3]; exact dk_wJ kh_2
  have fh_3 : FrW (WRd n q) h h_3 := by rw [wh_3]; exact fw_wJ fh_2 (by unfold WRd; omega)
  obtain ⟨r_4, er_4, e⟩ := cl_s e
  have yr_4 := r_eq (pl_e kh_3 hq (p := (3, 4)) (by decide)) er_4
  subst yr_4
  obtain ⟨o_5, eo_5, e⟩ := cl_s e
  obtain ⟨ko_5, fo_5⟩ := wf_J7_fill_d0a16 hq (fun i => by unfold WRd; omega) kh_3 eo_5
  replace fo_5 := fw_t fh_3 fo_5
  obtain ⟨r_6, er_6, e⟩ := cl_s e
  have yr_6 := r_eq (pl_e ko_5 hq (p := (4, 5)) (by decide)) er_6
  subst yr_6
  obtain ⟨o_7, eo_7, e⟩ := cl_s e
  obtain ⟨ko_7, fo_7⟩ := wf_J7_fill_53178 hq (fun i => by unfold WRd; omega) ko_5 eo_7
  replace fo_7 := fw_t fo_5 fo_7
  obtain ⟨h_8, wh_8, e⟩ := nm_s e
  have kh_8 : DyK n g h_8 := by rw [wh_8]; exact dk_wI ko_7
  have fh_8 : FrW (WRd n q) h h_8 := by rw [wh_8]; exact fw_wI fo_7 (by unfold WRd; omega)
  rw [← Option.some.inj e]; exact ⟨kh_8, fh_8⟩
theorem wf_X3_clear {n q : Nat} {g : Hp} {F : Nat} {o : Hp} (hq : q < 60) {h : Hp} (k : DyK n g h) (e : sX3_clear F h (n + (153 + 6 * q)) = some o) : DyK n g o ∧ FrW (WRd n q) h o := by
  unfold sX3_clear at e
  obtain ⟨r_1, er_1, e⟩ := cl_s e
  have yr_1 := r_eq (pl_e k hq (p := (0, 1)) (by decide)) er_1
  subst yr_1
  obtain ⟨o_2, eo_2, e⟩ := cl_s e
  obtain ⟨ko_2, fo_2⟩ := wf_J7_fill_031fb hq k eo_2
  obtain ⟨r_3, er_3, e⟩ := cl_s e
  have yr_3 := r_eq (pl_e ko_2 hq (p := (1, 2)) (by decide)) er_3
  subst yr_3
  obtain ⟨o_4, eo_4, e⟩ := cl_s e
  obtain ⟨ko_4, fo_4⟩ := wf_J7_fill_d0a16 hq (fun i => by unfold WRd; omega) ko_2 eo_4
  replace fo_4 := fw_t fo_2 fo_4
  obtain ⟨r_5, er_5, e⟩ := cl_s e
  have yr_5 := r_eq (pl_e ko_4 hq (p := (2, 3)) (by decide)) er_5
  subst yr_5
  obtain ⟨o_6, eo_6, e⟩ := cl_s e
  obtain ⟨ko_6, fo_6⟩ := wf_J7_fill_53178 hq (fun i => by unfold WRd; omega) ko_4 eo_6
  replace fo_6 := fw_t fo_4 fo_6
  obtain ⟨h_7, wh_7, e⟩ := nm_s e
  have kh_7 : DyK n g h_7 := by rw [wh_7]; exact dk_wI ko_6
  have fh_7 : FrW (WRd n q) h h_7 := by rw [wh_7]; exact fw_wI fo_6 (by unfold WRd; omega)
  obtain ⟨o_8, eo_8, e⟩ := cl_s e
  obtain ⟨ko_8, fo_8⟩ := wf_X3_strip hq kh_7 eo_8
  replace fo_8 := fw_t fh_7 fo_8
  rw [← Option.some.inj e]; exact ⟨ko_8, fo_8⟩
theorem wf_X9_byteAt_22 {n q : Nat} {g : Hp} {o : Int32 × Hp} {t0 : Int32} (hq : q < 60) {h : Hp} (k : DyK n g h) (e : sX9_byteAt_22 h t0 = some o) : DyK n g o.2 ∧ FrW (WRd n q) h o.2 := by
  unfold sX9_byteAt_22 at e
  rw [← Option.some.inj e]; exact ⟨k, fw_0⟩
theorem wf_X9_byteAt_21 {n q : Nat} {g : Hp} {o : Int32 × Hp} (hq : q < 60) {h : Hp} (k : DyK n g h) (e : sX9_byteAt_21 h = some o) : DyK n g o.2 ∧ FrW (WRd n q) h o.2 := by
  unfold sX9_byteAt_21 at e
  exact wf_X9_byteAt_22 hq k e
theorem wf_X9_byteAt {n q : Nat} {g : Hp} {o : Int32 × Hp} {x0 : Nat} {x1 : Int32} (hq : q < 60) {h : Hp} (k : DyK n g h) (e : sX9_byteAt h x0 x1 = some o) : DyK n g o.2 ∧ FrW (WRd n q) h o.2 := by
  unfold sX9_byteAt at e
  rcases br_s e with ⟨_, e⟩ | ⟨_, e⟩
  · exact wf_X9_byteAt_21 hq k e
  · rcases br_s e with ⟨_, e⟩ | ⟨_, e⟩
    · exact wf_X9_byteAt_21 hq k e
    · obtain ⟨r_3, er_3, e⟩ := cl_s e
      replace e := (gd_s e).2
      exact wf_X9_byteAt_22 hq k e
theorem wf_X1_manOf_2 {n q : Nat} {g : Hp} {F : Nat} {o : Int32 × Hp} (hq : q < 60) : ∀ (f : Nat) {h : Hp} {x1 : Int32} {x2 : Int32}, DyK n g h → sX1_manOf_2 F f h (n + 5) x1 x2 = some o → DyK n g o.2 ∧ FrW (WRd n q) h o.2 := by
  intro f
  induction f with
  | zero => intro h x1 x2 _ e; exact absurd e (by rw [sX1_manOf_2]; exact fun z => nomatch z)
  | succ f ih =>
    intro h x1 x2 k e
    rw [sX1_manOf_2] at e
    rcases br_s e with ⟨_, e⟩ | ⟨_, e⟩
    · rw [← Option.some.inj e]; exact ⟨k, fw_0⟩
    · obtain ⟨r_2, er_2, e⟩ := cl_s e
      have yr_2 := dk_ed (a := 5) (b := 6) k (by decide +kernel) er_2
      subst yr_2
      replace e := (gd_s e).2
      rcases br_s e with ⟨_, e⟩ | ⟨_, e⟩
      · rw [← Option.some.inj e]; exact ⟨k, fw_0⟩
      · obtain ⟨v_5, wv_5, e⟩ := nm_s e
        exact ih k e
theorem wf_X1_manOf {n q : Nat} {g : Hp} {F : Nat} {o : Int32 × Hp} {x1 : Int32} (hq : q < 60) {h : Hp} (k : DyK n g h) (e : sX1_manOf F h (n + 5) x1 = some o) : DyK n g o.2 ∧ FrW (WRd n q) h o.2 := by
  unfold sX1_manOf at e
  exact wf_X1_manOf_2 hq F k e
theorem wf_X1_codeOf_57 {n q : Nat} {g : Hp} {F : Nat} {o : Int32 × Hp} {t0 : Int32} (hq : q < 60) {h : Hp} (k : DyK n g h) (e : sX1_codeOf_57 F h t0 = some o) : DyK n g o.2 ∧ FrW (WRd n q) h o.2 := by
  unfold sX1_codeOf_57 at e
  rw [← Option.some.inj e]; exact ⟨k, fw_0⟩
theorem wf_X1_codeOf_56 {n q : Nat} {g : Hp} {F : Nat} {o : Int32 × Hp} {t0 : Int32} {t1 : Int32} (hq : q < 60) {h : Hp} (k : DyK n g h) (e : sX1_codeOf_56 F h t0 t1 = some o) : DyK n g o.2 ∧ FrW (WRd n q) h o.2 := by
  unfold sX1_codeOf_56 at e
  exact wf_X1_codeOf_57 hq k e
theorem wf_X1_codeOf_31 {n q : Nat} {g : Hp} {F : Nat} {o : Int32 × Hp} {x2 : Int32} {t0 : Int32} (hq : q < 60) {h : Hp} (k : DyK n g h) (e : sX1_codeOf_31 F h x2 t0 (n + 5) = some o) : DyK n g o.2 ∧ FrW (WRd n q) h o.2 := by
  unfold sX1_codeOf_31 at e
  obtain ⟨o_1, eo_1, e⟩ := cl_s e
  obtain ⟨ko_1, fo_1⟩ := wf_X1_manOf hq k eo_1
  rcases br_s e with ⟨_, e⟩ | ⟨_, e⟩
  · exact ⟨(wf_X1_codeOf_57 hq ko_1 e).1, fw_t fo_1 (wf_X1_codeOf_57 hq ko_1 e).2⟩
  · rcases br_s e with ⟨_, e⟩ | ⟨_, e⟩
    · exact ⟨(wf_X1_codeOf_56 hq ko_1 e).1, fw_t fo_1 (wf_X1_codeOf_56 hq ko_1 e).2⟩
    · exact ⟨(wf_X1_codeOf_56 hq ko_1 e).1, fw_t fo_1 (wf_X1_codeOf_56 hq ko_1 e).2⟩
theorem wf_X1_codeOf_17 {n q : Nat} {g : Hp} {F : Nat} {o : Int32 × Hp} {x1 : Int32} {t0 : Int32} (hq : q < 60) {h : Hp} (k : DyK n g h) (e : sX1_codeOf_17 F h (n + 5) x1 t0 = some o) : DyK n g o.2 ∧ FrW (WRd n q) h o.2 := by
  unfold sX1_codeOf_17 at e
  rcases br_s e with ⟨_, e⟩ | ⟨_, e⟩
  · exact wf_X1_codeOf_31 hq k e
  · exact wf_X1_codeOf_31 hq k e
theorem wf_X1_codeOf_16 {n q : Nat} {g : Hp} {F : Nat} {o : Int32 × Hp} {x1 : Int32} (hq : q < 60) {h : Hp} (k : DyK n g h) (e : sX1_codeOf_16 F h (n + 5) x1 = some o) : DyK n g o.2 ∧ FrW (WRd n q) h o.2 := by
  unfold sX1_codeOf_16 at e
  exact wf_X1_codeOf_17 hq k e
theorem wf_X1_codeOf {n q : Nat} {g : Hp} {F : Nat} {o : Int32 × Hp} {x1 : Int32} (hq : q < 60) {h : Hp} (k : DyK n g h) (e : sX1_codeOf F h (n + 5) x1 = some o) : DyK n g o.2 ∧ FrW (WRd n q) h o.2 := by
  unfold sX1_codeOf at e
  rcases br_s e with ⟨_, e⟩ | ⟨_, e⟩
  · exact wf_X1_codeOf_16 hq k e
  · rcases br_s e with ⟨_, e⟩ | ⟨_, e⟩
    · exact wf_X1_codeOf_16 hq k e
    · exact wf_X1_codeOf_17 hq k e
theorem wf_X7_readRanks_125 {n q : Nat} {g : Hp} {F : Nat} {o : Int32 × Hp} (hq : q < 60) {h : Hp} (k : DyK n g h) (e : sX7_readRanks_125 F h = some o) : DyK n g o.2 ∧ FrW (WRd n q) h o.2 := by
  unfold sX7_readRanks_125 at e
  rw [← Option.some.inj e]; exact ⟨k, fw_0⟩
theorem wf_X7_readRanks_170 {n q : Nat} {g : Hp} {F : Nat} {o : Int32 × Hp} {x2 : Int32} {t0 : Int32} {t1 : Int32} (hq : q < 60) {k_10 : Hp → Nat → Nat → Int32 → Option (Int32 × Hp)} (D_10 : ∀ {h : Hp} {y3 : Int32}, DyK n g h → k_10 h (n + 38) (n + (153 + 6 * q)) y3 = some o → DyK n g o.2 ∧ FrW (WRd n q) h o.2) {k_40 : Hp → Nat → Nat → Int32 → Int32 → Option (Int32 × Hp)} (D_40 : ∀ {h : Hp} {y3 : Int32} {y4 : Int32}, DyK n g h → k_40 h (n + 38) (n + (153 + 6 * q)) y3 y4 = some o → DyK n g o.2 ∧ FrW (WRd n q) h o.2) {h : Hp} (k : DyK n g h) (e : sX7_readRanks_170 F k_10 k_40 h (n + 38) (n + (153 + 6 * q)) x2 t0 t1 = some o) : DyK n g o.2 ∧ FrW (WRd n q) h o.2 := by
  unfold sX7_readRanks_170 at e
  obtain ⟨v_1, wv_1, e⟩ := nm_s e
  obtain ⟨h_2, wh_2, e⟩ := nm_s e
  have kh_2 : DyK n g h_2 := by rw [wh_2]; exact dk_wI k
  have fh_2 : FrW (WRd n q) h h_2 := by rw [wh_2]; exact fw_wI fw_0 (by unfold WRd; omega)
  exact ⟨(D_40 kh_2 e).1, fw_t fh_2 (D_40 kh_2 e).2⟩
theorem wf_X7_readRanks_157 {n q : Nat} {g : Hp} {F : Nat} {o : Int32 × Hp} {x2 : Int32} {x3 : Int32} {x5 : Int32} {x6 : Int32} (hq : q < 60) {k_10 : Hp → Nat → Nat → Int32 → Option (Int32 × Hp)} (D_10 : ∀ {h : Hp} {y3 : Int32}, DyK n g h → k_10 h (n + 38) (n + (153 + 6 * q)) y3 = some o → DyK n g o.2 ∧ FrW (WRd n q) h o.2) {k_40 : Hp → Nat → Nat → Int32 → Int32 → Option (Int32 × Hp)} (D_40 : ∀ {h : Hp} {y3 : Int32} {y4 : Int32}, DyK n g h → k_40 h (n + 38) (n + (153 + 6 * q)) y3 y4 = some o → DyK n g o.2 ∧ FrW (WRd n q) h o.2) {h : Hp} (k : DyK n g h) (e : sX7_readRanks_157 F k_10 k_40 h (n + 38) (n + (153 + 6 * q)) x2 x3 x5 x6 = some o) : DyK n g o.2 ∧ FrW (WRd n q) h o.2 := by
  unfold sX7_readRanks_157 at e
  rcases br_s e with ⟨_, e⟩ | ⟨_, e⟩
  · exact wf_X7_readRanks_170 hq D_10 D_40 k e
  · exact wf_X7_readRanks_170 hq D_10 D_40 k e
theorem wf_X3_put_10 {n q : Nat} {g : Hp} {o : Hp} (hq : q < 60) {h : Hp} (k : DyK n g h) (e : sX3_put_10 h = some o) : DyK n g o ∧ FrW (WRd n q) h o := by
  unfold sX3_put_10 at e
  rw [← Option.some.inj e]; exact ⟨k, fw_0⟩
theorem wf_X3_put_111 {n q : Nat} {g : Hp} {o : Hp} {x4 : Int64} (hq : q < 60) {h : Hp} (k : DyK n g h) (e : sX3_put_111 h (n + (153 + 6 * q)) x4 = some o) : DyK n g o ∧ FrW (WRd n q) h o := by
  unfold sX3_put_111 at e
  obtain ⟨h_1, wh_1, e⟩ := nm_s e
  have kh_1 : DyK n g h_1 := by rw [wh_1]; exact dk_wJ k
  have fh_1 : FrW (WRd n q) h h_1 := by rw [wh_1]; exact fw_wJ fw_0 (by unfold WRd; omega)
  rw [← Option.some.inj e]; exact ⟨kh_1, fh_1⟩
theorem wf_X3_put_70 {n q : Nat} {g : Hp} {o : Hp} {x1 : Int32} {x2 : Int32} {x3 : Int32} {x4 : Int64} (hq : q < 60) {h : Hp} (k : DyK n g h) (e : sX3_put_70 h (n + (153 + 6 * q)) x1 x2 x3 x4 = some o) : DyK n g o ∧ FrW (WRd n q) h o := by
  unfold sX3_put_70 at e
  obtain ⟨r_1, er_1, e⟩ := cl_s e
  have yr_1 := r_eq (pl_e k hq (p := (0, 1)) (by decide)) er_1
  subst yr_1
  replace e := (gd_s e).2
  obtain ⟨h_3, wh_3, e⟩ := nm_s e
  have kh_3 : DyK n g h_3 := by rw [wh_3]; exact dk_wI k
  have fh_3 : FrW (WRd n q) h h_3 := by rw [wh_3]; exact fw_wI fw_0 (by unfold WRd; omega)
  rcases br_s e with ⟨_, e⟩ | ⟨_, e⟩
  · exact ⟨(wf_X3_put_111 hq kh_3 e).1, fw_t fh_3 (wf_X3_put_111 hq kh_3 e).2⟩
  · obtain ⟨r_5, er_5, e⟩ := cl_s e
    have yr_5 := r_eq (pl_e kh_3 hq (p := (1, 2)) (by decide)) er_5
    subst yr_5
    replace e := (gd_s e).2
    replace e := (gd_s e).2
    obtain ⟨h_8, wh_8, e⟩ := nm_s e
    have kh_8 : DyK n g h_8 := by rw [wh_8]; exact dk_wJ kh_3
    have fh_8 : FrW (WRd n q) h h_8 := by rw [wh_8]; exact fw_wJ fh_3 (by unfold WRd; omega)
    rcases br_s e with ⟨_, e⟩ | ⟨_, e⟩
    · obtain ⟨r_10, er_10, e⟩ := cl_s e
      have yr_10 := r_eq (pl_e kh_8 hq (p := (2, 3)) (by decide)) er_10
      subst yr_10
      replace e := (gd_s e).2
      obtain ⟨h_12, wh_12, e⟩ := nm_s e
      have kh_12 : DyK n g h_12 := by rw [wh_12]; exact dk_wI kh_8
      have fh_12 : FrW (WRd n q) h h_12 := by rw [wh_12]; exact fw_wI fh_8 (by unfold WRd; omega)
      exact ⟨(wf_X3_put_111 hq kh_12 e).1, fw_t fh_12 (wf_X3_put_111 hq kh_12 e).2⟩
    · exact ⟨(wf_X3_put_111 hq kh_8 e).1, fw_t fh_8 (wf_X3_put_111 hq kh_8 e).2⟩
theorem wf_X3_put {n q : Nat} {g : Hp} {o : Hp} {x1 : Int32} {x2 : Int32} {x3 : Int32} (hq : q < 60) {h : Hp} (k : DyK n g h) (e : sX3_put h (n + (153 + 6 * q)) x1 x2 x3 = some o) : DyK n g o ∧ FrW (WRd n q) h o := by
  unfold sX3_put at e
  rcases br_s e with ⟨_, e⟩ | ⟨_, e⟩
  · exact wf_X3_put_10 hq k e
  · rcases br_s e with ⟨_, e⟩ | ⟨_, e⟩
    · obtain ⟨v_3, wv_3, e⟩ := nm_s e
      obtain ⟨r_4, er_4, e⟩ := cl_s e
      have yr_4 := r_eq (pl_e k hq (p := (0, 1)) (by decide)) er_4
      subst yr_4
      replace e := (gd_s e).2
      obtain ⟨v_6, wv_6, e⟩ := nm_s e
      rcases br_s e with ⟨_, e⟩ | ⟨_, e⟩
      · exact wf_X3_put_70 hq k e
      · obtain ⟨r_8, er_8, e⟩ := cl_s e
        have yr_8 := r_eq (pl_e k hq (p := (1, 2)) (by decide)) er_8
        subst yr_8
        replace e := (gd_s e).2
        replace e := (gd_s e).2
        obtain ⟨h_11, wh_11, e⟩ := nm_s e
        have kh_11 : DyK n g h_11 := by rw [wh_11]; exact dk_wJ k
        have fh_11 : FrW (WRd n q) h h_11 := by rw [wh_11]; exact fw_wJ fw_0 (by unfold WRd; omega)
        obtain ⟨r_12, er_12, e⟩ := cl_s e
        have yr_12 := r_eq (pl_e kh_11 hq (p := (2, 3)) (by decide)) er_12
        subst yr_12
        replace e := (gd_s e).2
        rcases br_s e with ⟨_, e⟩ | ⟨_, e⟩
        · obtain ⟨r_15, er_15, e⟩ := cl_s e
          have yr_15 := r_eq (pl_e kh_11 hq (p := (2, 3)) (by decide)) er_15
          subst yr_15
          replace e := (gd_s e).2
          obtain ⟨h_17, wh_17, e⟩ := nm_s e
          have kh_17 : DyK n g h_17 := by rw [wh_17]; exact dk_wI kh_11
          have fh_17 : FrW (WRd n q) h h_17 := by rw [wh_17]; exact fw_wI fh_11 (by unfold WRd; omega)
          exact ⟨(wf_X3_put_70 hq kh_17 e).1, fw_t fh_17 (wf_X3_put_70 hq kh_17 e).2⟩
        · exact ⟨(wf_X3_put_70 hq kh_11 e).1, fw_t fh_11 (wf_X3_put_70 hq kh_11 e).2⟩
    · exact wf_X3_put_10 hq k e
theorem wf_X7_readRanks_127 {n q : Nat} {g : Hp} {F : Nat} {o : Int32 × Hp} {x2 : Int32} {x3 : Int32} {x5 : Int32} {x6 : Int32} (hq : q < 60) {k_10 : Hp → Nat → Nat → Int32 → Option (Int32 × Hp)} (D_10 : ∀ {h : Hp} {y3 : Int32}, DyK n g h → k_10 h (n + 38) (n + (153 + 6 * q)) y3 = some o → DyK n g o.2 ∧ FrW (WRd n q) h o.2) {k_40 : Hp → Nat → Nat → Int32 → Int32 → Option (Int32 × Hp)} (D_40 : ∀ {h : Hp} {y3 : Int32} {y4 : Int32}, DyK n g h → k_40 h (n + 38) (n + (153 + 6 * q)) y3 y4 = some o → DyK n g o.2 ∧ FrW (WRd n q) h o.2) {h : Hp} (k : DyK n g h) (e : sX7_readRanks_127 F k_10 k_40 h (n + 38) (n + (153 + 6 * q)) x2 x3 x5 x6 = some o) : DyK n g o.2 ∧ FrW (WRd n q) h o.2 := by
  unfold sX7_readRanks_127 at e
  rcases br_s e with ⟨_, e⟩ | ⟨_, e⟩
  · exact wf_X7_readRanks_157 hq D_10 D_40 k e
  · obtain ⟨r_2, er_2, e⟩ := cl_s e
    have yr_2 := dk_ed (a := 38) (b := 5) k (by decide +kernel) er_2
    subst yr_2
    obtain ⟨r_3, er_3, e⟩ := cl_s e
    have yr_3 := dk_ed (a := 38) (b := 5) k (by decide +kernel) er_3
    subst yr_3
    obtain ⟨o_4, eo_4, e⟩ := cl_s e
    obtain ⟨ko_4, fo_4⟩ := wf_X3_put hq k eo_4
    exact ⟨(wf_X7_readRanks_157 hq D_10 D_40 ko_4 e).1, fw_t fo_4 (wf_X7_readRanks_157 hq D_10 D_40 ko_4 e).2⟩
theorem wf_X7_readRanks_98 {n q : Nat} {g : Hp} {F : Nat} {o : Int32 × Hp} {x2 : Int32} {x3 : Int32} {x5 : Int32} {t0 : Int32} (hq : q < 60) {k_10 : Hp → Nat → Nat → Int32 → Option (Int32 × Hp)} (D_10 : ∀ {h : Hp} {y3 : Int32}, DyK n g h → k_10 h (n + 38) (n + (153 + 6 * q)) y3 = some o → DyK n g o.2 ∧ FrW (WRd n q) h o.2) {k_40 : Hp → Nat → Nat → Int32 → Int32 → Option (Int32 × Hp)} (D_40 : ∀ {h : Hp} {y3 : Int32} {y4 : Int32}, DyK n g h → k_40 h (n + 38) (n + (153 + 6 * q)) y3 y4 = some o → DyK n g o.2 ∧ FrW (WRd n q) h o.2) {h : Hp} (k : DyK n g h) (e : sX7_readRanks_98 F k_10 k_40 h (n + 38) (n + (153 + 6 * q)) x2 x3 x5 t0 = some o) : DyK n g o.2 ∧ FrW (WRd n q) h o.2 := by
  unfold sX7_readRanks_98 at e
  rcases br_s e with ⟨_, e⟩ | ⟨_, e⟩
  · rcases br_s e with ⟨_, e⟩ | ⟨_, e⟩
    · exact wf_X7_readRanks_125 hq k e
    · obtain ⟨r_3, er_3, e⟩ := cl_s e
      have yr_3 := dk_ed (a := 38) (b := 5) k (by decide +kernel) er_3
      subst yr_3
      rcases br_s e with ⟨_, e⟩ | ⟨_, e⟩
      · exact wf_X7_readRanks_127 hq D_10 D_40 k e
      · exact wf_X7_readRanks_125 hq k e
  · exact wf_X7_readRanks_127 hq D_10 D_40 k e
theorem wf_X7_readRanks_97 {n q : Nat} {g : Hp} {F : Nat} {o : Int32 × Hp} {x2 : Int32} {x3 : Int32} {x5 : Int32} (hq : q < 60) {k_10 : Hp → Nat → Nat → Int32 → Option (Int32 × Hp)} (D_10 : ∀ {h : Hp} {y3 : Int32}, DyK n g h → k_10 h (n + 38) (n + (153 + 6 * q)) y3 = some o → DyK n g o.2 ∧ FrW (WRd n q) h o.2) {k_40 : Hp → Nat → Nat → Int32 → Int32 → Option (Int32 × Hp)} (D_40 : ∀ {h : Hp} {y3 : Int32} {y4 : Int32}, DyK n g h → k_40 h (n + 38) (n + (153 + 6 * q)) y3 y4 = some o → DyK n g o.2 ∧ FrW (WRd n q) h o.2) {h : Hp} (k : DyK n g h) (e : sX7_readRanks_97 F k_10 k_40 h (n + 38) (n + (153 + 6 * q)) x2 x3 x5 = some o) : DyK n g o.2 ∧ FrW (WRd n q) h o.2 := by
  unfold sX7_readRanks_97 at e
  exact wf_X7_readRanks_98 hq D_10 D_40 k e
theorem wf_X7_readRanks_40 {n q : Nat} {g : Hp} {F : Nat} {o : Int32 × Hp} (hq : q < 60) {k_10 : Hp → Nat → Nat → Int32 → Option (Int32 × Hp)} (D_10 : ∀ {h : Hp} {y3 : Int32}, DyK n g h → k_10 h (n + 38) (n + (153 + 6 * q)) y3 = some o → DyK n g o.2 ∧ FrW (WRd n q) h o.2) : ∀ (f : Nat) {h : Hp} {x2 : Int32} {x3 : Int32}, DyK n g h → sX7_readRanks_40 F k_10 f h (n + 38) (n + (153 + 6 * q)) x2 x3 = some o → DyK n g o.2 ∧ FrW (WRd n q) h o.2 := by
  intro f
  induction f with
  | zero => intro h x2 x3 _ e; exact absurd e (by rw [sX7_readRanks_40]; exact fun z => nomatch z)
  | succ f ih =>
    intro h x2 x3 k e
    rw [sX7_readRanks_40] at e
    obtain ⟨r_1, er_1, e⟩ := cl_s e
    have yr_1 := dk_ed (a := 38) (b := 5) k (by decide +kernel) er_1
    subst yr_1
    rcases br_s e with ⟨_, e⟩ | ⟨_, e⟩
    · obtain ⟨v_3, wv_3, e⟩ := nm_s e
      exact D_10 k e
    · obtain ⟨r_4, er_4, e⟩ := cl_s e
      obtain ⟨o_5, eo_5, e⟩ := cl_s e
      obtain ⟨ko_5, fo_5⟩ := wf_X9_byteAt hq k eo_5
      obtain ⟨r_6, er_6, e⟩ := cl_s e
      have yr_6 := dk_ed (a := 38) (b := 5) ko_5 (by decide +kernel) er_6
      subst yr_6
      obtain ⟨o_7, eo_7, e⟩ := cl_s e
      obtain ⟨ko_7, fo_7⟩ := wf_X1_codeOf hq ko_5 eo_7
      replace fo_7 := fw_t fo_5 fo_7
      rcases br_s e with ⟨_, e⟩ | ⟨_, e⟩
      · exact ⟨(wf_X7_readRanks_97 hq D_10 (fun k e => ih k e) ko_7 e).1, fw_t fo_7 (wf_X7_readRanks_97 hq D_10 (fun k e => ih k e) ko_7 e).2⟩
      · rcases br_s e with ⟨_, e⟩ | ⟨_, e⟩
        · exact ⟨(wf_X7_readRanks_97 hq D_10 (fun k e => ih k e) ko_7 e).1, fw_t fo_7 (wf_X7_readRanks_97 hq D_10 (fun k e => ih k e) ko_7 e).2⟩
        · exact ⟨(wf_X7_readRanks_98 hq D_10 (fun k e => ih k e) ko_7 e).1, fw_t fo_7 (wf_X7_readRanks_98 hq D_10 (fun k e => ih k e) ko_7 e).2⟩
theorem wf_X7_readRanks_38 {n q : Nat} {g : Hp} {F : Nat} {o : Int32 × Hp} {x2 : Int32} (hq : q < 60) {k_10 : Hp → Nat → Nat → Int32 → Option (Int32 × Hp)} (D_10 : ∀ {h : Hp} {y3 : Int32}, DyK n g h → k_10 h (n + 38) (n + (153 + 6 * q)) y3 = some o → DyK n g o.2 ∧ FrW (WRd n q) h o.2) {h : Hp} (k : DyK n g h) (e : sX7_readRanks_38 F k_10 h (n + 38) (n + (153 + 6 * q)) x2 = some o) : DyK n g o.2 ∧ FrW (WRd n q) h o.2 := by
  unfold sX7_readRanks_38 at e
  exact wf_X7_readRanks_40 hq D_10 F k e
theorem wf_X7_takeByte {n q : Nat} {g : Hp} {o : Int32 × Hp} {x1 : Int32} (hq : q < 60) {h : Hp} (k : DyK n g h) (e : sX7_takeByte h (n + 38) x1 = some o) : DyK n g o.2 ∧ FrW (WRd n q) h o.2 := by
  unfold sX7_takeByte at e
  obtain ⟨r_1, er_1, e⟩ := cl_s e
  obtain ⟨o_2, eo_2, e⟩ := cl_s e
  obtain ⟨ko_2, fo_2⟩ := wf_X9_byteAt hq k eo_2
  rcases br_s e with ⟨_, e⟩ | ⟨_, e⟩
  · obtain ⟨h_4, wh_4, e⟩ := nm_s e
    have kh_4 : DyK n g h_4 := by rw [wh_4]; exact dk_wI ko_2
    have fh_4 : FrW (WRd n q) h h_4 := by rw [wh_4]; exact fw_wI fo_2 (by unfold WRd; omega)
    rw [← Option.some.inj e]; exact ⟨kh_4, fh_4⟩
  · rw [← Option.some.inj e]; exact ⟨ko_2, fo_2⟩
theorem wf_X7_readRanks_10 {n q : Nat} {g : Hp} {F : Nat} {o : Int32 × Hp} (hq : q < 60) : ∀ (f : Nat) {h : Hp} {x2 : Int32}, DyK n g h → sX7_readRanks_10 F f h (n + 38) (n + (153 + 6 * q)) x2 = some o → DyK n g o.2 ∧ FrW (WRd n q) h o.2 := by
  intro f
  induction f with
  | zero => intro h x2 _ e; exact absurd e (by rw [sX7_readRanks_10]; exact fun z => nomatch z)
  | succ f ih =>
    intro h x2 k e
    rw [sX7_readRanks_10] at e
    rcases br_s e with ⟨_, e⟩ | ⟨_, e⟩
    · rw [← Option.some.inj e]; exact ⟨k, fw_0⟩
    · obtain ⟨r_2, er_2, e⟩ := cl_s e
      have yr_2 := dk_ed (a := 38) (b := 5) k (by decide +kernel) er_2
      subst yr_2
      rcases br_s e with ⟨_, e⟩ | ⟨_, e⟩
      · exact wf_X7_readRanks_38 hq (fun k e => ih k e) k e
      · obtain ⟨o_4, eo_4, e⟩ := cl_s e
        obtain ⟨ko_4, fo_4⟩ := wf_X7_takeByte hq k eo_4
        rcases br_s e with ⟨_, e⟩ | ⟨_, e⟩
        · rw [← Option.some.inj e]; exact ⟨ko_4, fo_4⟩
        · exact ⟨(wf_X7_readRanks_38 hq (fun k e => ih k e) ko_4 e).1, fw_t fo_4 (wf_X7_readRanks_38 hq (fun k e => ih k e) ko_4 e).2⟩
theorem wf_X7_readRanks {n q : Nat} {g : Hp} {F : Nat} {o : Int32 × Hp} (hq : q < 60) {h : Hp} (k : DyK n g h) (e : sX7_readRanks F h (n + 38) (n + (153 + 6 * q)) = some o) : DyK n g o.2 ∧ FrW (WRd n q) h o.2 := by
  unfold sX7_readRanks at e
  obtain ⟨r_1, er_1, e⟩ := cl_s e
  have yr_1 := dk_ed (a := 38) (b := 5) k (by decide +kernel) er_1
  subst yr_1
  obtain ⟨v_2, wv_2, e⟩ := nm_s e
  exact wf_X7_readRanks_10 hq F k e
theorem wf_X7_read_157 {n q : Nat} {g : Hp} {F : Nat} {o : Int32 × Hp} {t0 : Int32} (hq : q < 60) {h : Hp} (k : DyK n g h) (e : sX7_read_157 F h t0 = some o) : DyK n g o.2 ∧ FrW (WRd n q) h o.2 := by
  unfold sX7_read_157 at e
  rw [← Option.some.inj e]; exact ⟨k, fw_0⟩
theorem wf_X7_read_144 {n q : Nat} {g : Hp} {F : Nat} {o : Int32 × Hp} {t0 : Int32} (hq : q < 60) {h : Hp} (k : DyK n g h) (e : sX7_read_144 F h (n + 38) t0 = some o) : DyK n g o.2 ∧ FrW (WRd n q) h o.2 := by
  unfold sX7_read_144 at e
  rcases br_s e with ⟨_, e⟩ | ⟨_, e⟩
  · exact wf_X7_read_157 hq k e
  · exact wf_X7_read_157 hq k e
theorem wf_X7_read_143 {n q : Nat} {g : Hp} {F : Nat} {o : Int32 × Hp} (hq : q < 60) {h : Hp} (k : DyK n g h) (e : sX7_read_143 F h (n + 38) = some o) : DyK n g o.2 ∧ FrW (WRd n q) h o.2 := by
  unfold sX7_read_143 at e
  exact wf_X7_read_144 hq k e
theorem wf_X7_readSide_38 {n q : Nat} {g : Hp} {o : Int32 × Hp} {t0 : Int32} (hq : q < 60) {h : Hp} (k : DyK n g h) (e : sX7_readSide_38 h (n + 38) t0 (n + (153 + 6 * q)) = some o) : DyK n g o.2 ∧ FrW (WRd n q) h o.2 := by
  unfold sX7_readSide_38 at e
  obtain ⟨h_1, wh_1, e⟩ := nm_s e
  have kh_1 : DyK n g h_1 := by rw [wh_1]; exact dk_wI k
  have fh_1 : FrW (WRd n q) h h_1 := by rw [wh_1]; exact fw_wI fw_0 (by unfold WRd; omega)
  obtain ⟨h_2, wh_2, e⟩ := nm_s e
  have kh_2 : DyK n g h_2 := by rw [wh_2]; exact dk_wI kh_1
  have fh_2 : FrW (WRd n q) h h_2 := by rw [wh_2]; exact fw_wI fh_1 (by unfold WRd; omega)
  rw [← Option.some.inj e]; exact ⟨kh_2, fh_2⟩
theorem wf_X7_readSide_26 {n q : Nat} {g : Hp} {o : Int32 × Hp} {x2 : Int32} (hq : q < 60) {h : Hp} (k : DyK n g h) (e : sX7_readSide_26 h (n + 38) (n + (153 + 6 * q)) x2 = some o) : DyK n g o.2 ∧ FrW (WRd n q) h o.2 := by
  unfold sX7_readSide_26 at e
  rcases br_s e with ⟨_, e⟩ | ⟨_, e⟩
  · exact wf_X7_readSide_38 hq k e
  · exact wf_X7_readSide_38 hq k e
theorem wf_X7_readSide {n q : Nat} {g : Hp} {o : Int32 × Hp} (hq : q < 60) {h : Hp} (k : DyK n g h) (e : sX7_readSide h (n + 38) (n + (153 + 6 * q)) = some o) : DyK n g o.2 ∧ FrW (WRd n q) h o.2 := by
  unfold sX7_readSide at e
  obtain ⟨r_1, er_1, e⟩ := cl_s e
  obtain ⟨o_2, eo_2, e⟩ := cl_s e
  obtain ⟨ko_2, fo_2⟩ := wf_X9_byteAt hq k eo_2
  rcases br_s e with ⟨_, e⟩ | ⟨_, e⟩
  · exact ⟨(wf_X7_readSide_26 hq ko_2 e).1, fw_t fo_2 (wf_X7_readSide_26 hq ko_2 e).2⟩
  · rcases br_s e with ⟨_, e⟩ | ⟨_, e⟩
    · exact ⟨(wf_X7_readSide_26 hq ko_2 e).1, fw_t fo_2 (wf_X7_readSide_26 hq ko_2 e).2⟩
    · rw [← Option.some.inj e]; exact ⟨ko_2, fo_2⟩
theorem wf_X7_readRights_97 {n q : Nat} {g : Hp} {F : Nat} {o : Int32 × Hp} (hq : q < 60) {h : Hp} (k : DyK n g h) (e : sX7_readRights_97 F h = some o) : DyK n g o.2 ∧ FrW (WRd n q) h o.2 := by
  unfold sX7_readRights_97 at e
  rw [← Option.some.inj e]; exact ⟨k, fw_0⟩
theorem wf_X7_readSquare_30 {n q : Nat} {g : Hp} {o : Int32 × Hp} (hq : q < 60) {h : Hp} (k : DyK n g h) (e : sX7_readSquare_30 h = some o) : DyK n g o.2 ∧ FrW (WRd n q) h o.2 := by
  unfold sX7_readSquare_30 at e
  rw [← Option.some.inj e]; exact ⟨k, fw_0⟩
theorem wf_X7_readSquare_72 {n q : Nat} {g : Hp} {o : Int32 × Hp} (hq : q < 60) {h : Hp} (k : DyK n g h) (e : sX7_readSquare_72 h = some o) : DyK n g o.2 ∧ FrW (WRd n q) h o.2 := by
  unfold sX7_readSquare_72 at e
  rw [← Option.some.inj e]; exact ⟨k, fw_0⟩
theorem wf_X7_readSquare {n q : Nat} {g : Hp} {o : Int32 × Hp} (hq : q < 60) {h : Hp} (k : DyK n g h) (e : sX7_readSquare h (n + 38) = some o) : DyK n g o.2 ∧ FrW (WRd n q) h o.2 := by
  unfold sX7_readSquare at e
  obtain ⟨r_1, er_1, e⟩ := cl_s e
  obtain ⟨o_2, eo_2, e⟩ := cl_s e
  obtain ⟨ko_2, fo_2⟩ := wf_X9_byteAt hq k eo_2
  obtain ⟨v_3, wv_3, e⟩ := nm_s e
  rcases br_s e with ⟨_, e⟩ | ⟨_, e⟩
  · exact ⟨(wf_X7_readSquare_30 hq ko_2 e).1, fw_t fo_2 (wf_X7_readSquare_30 hq ko_2 e).2⟩
  · obtain ⟨r_5, er_5, e⟩ := cl_s e
    have yr_5 := dk_ed (a := 38) (b := 5) ko_2 (by decide +kernel) er_5
    subst yr_5
    rcases br_s e with ⟨_, e⟩ | ⟨_, e⟩
    · obtain ⟨h_7, wh_7, e⟩ := nm_s e
      have kh_7 : DyK n g h_7 := by rw [wh_7]; exact dk_wI ko_2
      have fh_7 : FrW (WRd n q) h h_7 := by rw [wh_7]; exact fw_wI fo_2 (by unfold WRd; omega)
      obtain ⟨r_8, er_8, e⟩ := cl_s e
      obtain ⟨o_9, eo_9, e⟩ := cl_s e
      obtain ⟨ko_9, fo_9⟩ := wf_X9_byteAt hq kh_7 eo_9
      replace fo_9 := fw_t fh_7 fo_9
      obtain ⟨v_10, wv_10, e⟩ := nm_s e
      rcases br_s e with ⟨_, e⟩ | ⟨_, e⟩
      · exact ⟨(wf_X7_readSquare_72 hq ko_9 e).1, fw_t fo_9 (wf_X7_readSquare_72 hq ko_9 e).2⟩
      · obtain ⟨r_12, er_12, e⟩ := cl_s e
        have yr_12 := dk_ed (a := 38) (b := 5) ko_9 (by decide +kernel) er_12
        subst yr_12
        rcases br_s e with ⟨_, e⟩ | ⟨_, e⟩
        · obtain ⟨h_14, wh_14, e⟩ := nm_s e
          have kh_14 : DyK n g h_14 := by rw [wh_14]; exact dk_wI ko_9
          have fh_14 : FrW (WRd n q) h h_14 := by rw [wh_14]; exact fw_wI fo_9 (by unfold WRd; omega)
          obtain ⟨r_15, er_15, e⟩ := cl_s e
          have yr_15 := dk_ed (a := 38) (b := 5) kh_14 (by decide +kernel) er_15
          subst yr_15
          rw [← Option.some.inj e]; exact ⟨kh_14, fh_14⟩
        · exact ⟨(wf_X7_readSquare_72 hq ko_9 e).1, fw_t fo_9 (wf_X7_readSquare_72 hq ko_9 e).2⟩
    · exact ⟨(wf_X7_readSquare_30 hq ko_2 e).1, fw_t fo_2 (wf_X7_readSquare_30 hq ko_2 e).2⟩
theorem wf_X7_readRights_41 {n q : Nat} {g : Hp} {F : Nat} {o : Int32 × Hp} {x2 : Int32} {x3 : Int32} (hq : q < 60) {k_15 : Hp → Nat → Nat → Int32 → Int32 → Option (Int32 × Hp)} (D_15 : ∀ {h : Hp} {y3 : Int32} {y4 : Int32}, DyK n g h → k_15 h (n + 38) (n + (153 + 6 * q)) y3 y4 = some o → DyK n g o.2 ∧ FrW (WRd n q) h o.2) {h : Hp} (k : DyK n g h) (e : sX7_readRights_41 F k_15 h (n + 38) (n + (153 + 6 * q)) x2 x3 = some o) : DyK n g o.2 ∧ FrW (WRd n q) h o.2 := by
  unfold sX7_readRights_41 at e
  obtain ⟨v_1, wv_1, e⟩ := nm_s e
  obtain ⟨o_2, eo_2, e⟩ := cl_s e
  obtain ⟨ko_2, fo_2⟩ := wf_X7_readSquare hq k eo_2
  rcases br_s e with ⟨_, e⟩ | ⟨_, e⟩
  · rw [← Option.some.inj e]; exact ⟨ko_2, fo_2⟩
  · rcases br_s e with ⟨_, e⟩ | ⟨_, e⟩
    · obtain ⟨h_5, wh_5, e⟩ := nm_s e
      have kh_5 : DyK n g h_5 := by rw [wh_5]; exact dk_wJ ko_2
      have fh_5 : FrW (WRd n q) h h_5 := by rw [wh_5]; exact fw_wJ fo_2 (by unfold WRd; omega)
      obtain ⟨v_6, wv_6, e⟩ := nm_s e
      exact ⟨(D_15 kh_5 e).1, fw_t fh_5 (D_15 kh_5 e).2⟩
    · obtain ⟨h_7, wh_7, e⟩ := nm_s e
      have kh_7 : DyK n g h_7 := by rw [wh_7]; exact dk_wI ko_2
      have fh_7 : FrW (WRd n q) h h_7 := by rw [wh_7]; exact fw_wI fo_2 (by unfold WRd; omega)
      rw [← Option.some.inj e]; exact ⟨kh_7, fh_7⟩
theorem wf_X7_readRights_15 {n q : Nat} {g : Hp} {F : Nat} {o : Int32 × Hp} (hq : q < 60) : ∀ (f : Nat) {h : Hp} {x2 : Int32} {x3 : Int32}, DyK n g h → sX7_readRights_15 F f h (n + 38) (n + (153 + 6 * q)) x2 x3 = some o → DyK n g o.2 ∧ FrW (WRd n q) h o.2 := by
  intro f
  induction f with
  | zero => intro h x2 x3 _ e; exact absurd e (by rw [sX7_readRights_15]; exact fun z => nomatch z)
  | succ f ih =>
    intro h x2 x3 k e
    rw [sX7_readRights_15] at e
    rcases br_s e with ⟨_, e⟩ | ⟨_, e⟩
    · exact wf_X7_readRights_97 hq k e
    · rcases br_s e with ⟨_, e⟩ | ⟨_, e⟩
      · exact wf_X7_readRights_41 hq (fun k e => ih k e) k e
      · obtain ⟨r_3, er_3, e⟩ := cl_s e
        obtain ⟨o_4, eo_4, e⟩ := cl_s e
        obtain ⟨ko_4, fo_4⟩ := wf_X9_byteAt hq k eo_4
        rcases br_s e with ⟨_, e⟩ | ⟨_, e⟩
        · exact ⟨(wf_X7_readRights_97 hq ko_4 e).1, fw_t fo_4 (wf_X7_readRights_97 hq ko_4 e).2⟩
        · exact ⟨(wf_X7_readRights_41 hq (fun k e => ih k e) ko_4 e).1, fw_t fo_4 (wf_X7_readRights_41 hq (fun k e => ih k e) ko_4 e).2⟩
theorem wf_X7_readRights {n q : Nat} {g : Hp} {F : Nat} {o : Int32 × Hp} (hq : q < 60) {h : Hp} (k : DyK n g h) (e : sX7_readRights F h (n + 38) (n + (153 + 6 * q)) = some o) : DyK n g o.2 ∧ FrW (WRd n q) h o.2 := by
  unfold sX7_readRights at e
  obtain ⟨o_1, eo_1, e⟩ := cl_s e
  obtain ⟨ko_1, fo_1⟩ := wf_X7_takeByte hq k eo_1
  rcases br_s e with ⟨_, e⟩ | ⟨_, e⟩
  · exact ⟨(wf_X7_readRights_15 hq F ko_1 e).1, fw_t fo_1 (wf_X7_readRights_15 hq F ko_1 e).2⟩
  · rw [← Option.some.inj e]; exact ⟨ko_1, fo_1⟩
theorem wf_X7_readPass_64 {n q : Nat} {g : Hp} {F : Nat} {o : Int32 × Hp} (hq : q < 60) {h : Hp} (k : DyK n g h) (e : sX7_readPass_64 F h = some o) : DyK n g o.2 ∧ FrW (WRd n q) h o.2 := by
  unfold sX7_readPass_64 at e
  rw [← Option.some.inj e]; exact ⟨k, fw_0⟩
theorem wf_X3_passSize {n q : Nat} {g : Hp} {o : Int32 × Hp} (hq : q < 60) {h : Hp} (k : DyK n g h) (e : sX3_passSize h (n + (153 + 6 * q)) = some o) : DyK n g o.2 ∧ FrW (WRd n q) h o.2 := by
  unfold sX3_passSize at e
  rw [← Option.some.inj e]; exact ⟨k, fw_0⟩
theorem wf_X3_addPass_22 {n q : Nat} {g : Hp} {o : Hp} (hq : q < 60) {h : Hp} (k : DyK n g h) (e : sX3_addPass_22 h (n + (153 + 6 * q)) = some o) : DyK n g o ∧ FrW (WRd n q) h o := by
  unfold sX3_addPass_22 at e
  obtain ⟨h_1, wh_1, e⟩ := nm_s e
  have kh_1 : DyK n g h_1 := by rw [wh_1]; exact dk_wJ k
  have fh_1 : FrW (WRd n q) h h_1 := by rw [wh_1]; exact fw_wJ fw_0 (by unfold WRd; omega)
  rw [← Option.some.inj e]; exact ⟨kh_1, fh_1⟩
theorem wf_X3_addPass_66 {n q : Nat} {g : Hp} {o : Hp} {t0 : Int64} {t1 : Int64} (hq : q < 60) {h : Hp} (k : DyK n g h) (e : sX3_addPass_66 h t0 t1 (n + (153 + 6 * q)) = some o) : DyK n g o ∧ FrW (WRd n q) h o := by
  unfold sX3_addPass_66 at e
  obtain ⟨h_1, wh_1, e⟩ := nm_s e
  have kh_1 : DyK n g h_1 := by rw [wh_1]; exact dk_wJ k
  have fh_1 : FrW (WRd n q) h h_1 := by rw [wh_1]; exact fw_wJ fw_0 (by unfold WRd; omega)
  rw [← Option.some.inj e]; exact ⟨kh_1, fh_1⟩
theorem wf_X3_addPass {n q : Nat} {g : Hp} {o : Hp} {x1 : Int32} (hq : q < 60) {h : Hp} (k : DyK n g h) (e : sX3_addPass h (n + (153 + 6 * q)) x1 = some o) : DyK n g o ∧ FrW (WRd n q) h o := by
  unfold sX3_addPass at e
  obtain ⟨o_1, eo_1, e⟩ := cl_s e
  obtain ⟨ko_1, fo_1⟩ := wf_X3_passSize hq k eo_1
  rcases br_s e with ⟨_, e⟩ | ⟨_, e⟩
  · exact ⟨(wf_X3_addPass_22 hq ko_1 e).1, fw_t fo_1 (wf_X3_addPass_22 hq ko_1 e).2⟩
  · rcases br_s e with ⟨_, e⟩ | ⟨_, e⟩
    · obtain ⟨h_4, wh_4, e⟩ := nm_s e
      have kh_4 : DyK n g h_4 := by rw [wh_4]; exact dk_wJ ko_1
      have fh_4 : FrW (WRd n q) h h_4 := by rw [wh_4]; exact fw_wJ fo_1 (by unfold WRd; omega)
      rcases br_s e with ⟨_, e⟩ | ⟨_, e⟩
      · exact ⟨(wf_X3_addPass_66 hq kh_4 e).1, fw_t fh_4 (wf_X3_addPass_66 hq kh_4 e).2⟩
      · exact ⟨(wf_X3_addPass_66 hq kh_4 e).1, fw_t fh_4 (wf_X3_addPass_66 hq kh_4 e).2⟩
    · exact ⟨(wf_X3_addPass_22 hq ko_1 e).1, fw_t fo_1 (wf_X3_addPass_22 hq ko_1 e).2⟩
theorem wf_X7_readPass_41 {n q : Nat} {g : Hp} {F : Nat} {o : Int32 × Hp} {x2 : Int32} (hq : q < 60) {k_13 : Hp → Nat → Nat → Int32 → Option (Int32 × Hp)} (D_13 : ∀ {h : Hp} {y3 : Int32}, DyK n g h → k_13 h (n + 38) (n + (153 + 6 * q)) y3 = some o → DyK n g o.2 ∧ FrW (WRd n q) h o.2) {h : Hp} (k : DyK n g h) (e : sX7_readPass_41 F k_13 h (n + 38) (n + (153 + 6 * q)) x2 = some o) : DyK n g o.2 ∧ FrW (WRd n q) h o.2 := by
  unfold sX7_readPass_41 at e
  obtain ⟨o_1, eo_1, e⟩ := cl_s e
  obtain ⟨ko_1, fo_1⟩ := wf_X7_readSquare hq k eo_1
  rcases br_s e with ⟨_, e⟩ | ⟨_, e⟩
  · rw [← Option.some.inj e]; exact ⟨ko_1, fo_1⟩
  · obtain ⟨o_3, eo_3, e⟩ := cl_s e
    obtain ⟨ko_3, fo_3⟩ := wf_X3_addPass hq ko_1 eo_3
    replace fo_3 := fw_t fo_1 fo_3
    obtain ⟨v_4, wv_4, e⟩ := nm_s e
    exact ⟨(D_13 ko_3 e).1, fw_t fo_3 (D_13 ko_3 e).2⟩
theorem wf_X7_readPass_13 {n q : Nat} {g : Hp} {F : Nat} {o : Int32 × Hp} (hq : q < 60) : ∀ (f : Nat) {h : Hp} {x2 : Int32}, DyK n g h → sX7_readPass_13 F f h (n + 38) (n + (153 + 6 * q)) x2 = some o → DyK n g o.2 ∧ FrW (WRd n q) h o.2 := by
  intro f
  induction f with
  | zero => intro h x2 _ e; exact absurd e (by rw [sX7_readPass_13]; exact fun z => nomatch z)
  | succ f ih =>
    intro h x2 k e
    rw [sX7_readPass_13] at e
    rcases br_s e with ⟨_, e⟩ | ⟨_, e⟩
    · exact wf_X7_readPass_64 hq k e
    · rcases br_s e with ⟨_, e⟩ | ⟨_, e⟩
      · exact wf_X7_readPass_41 hq (fun k e => ih k e) k e
      · obtain ⟨r_3, er_3, e⟩ := cl_s e
        obtain ⟨o_4, eo_4, e⟩ := cl_s e
        obtain ⟨ko_4, fo_4⟩ := wf_X9_byteAt hq k eo_4
        rcases br_s e with ⟨_, e⟩ | ⟨_, e⟩
        · exact ⟨(wf_X7_readPass_64 hq ko_4 e).1, fw_t fo_4 (wf_X7_readPass_64 hq ko_4 e).2⟩
        · exact ⟨(wf_X7_readPass_41 hq (fun k e => ih k e) ko_4 e).1, fw_t fo_4 (wf_X7_readPass_41 hq (fun k e => ih k e) ko_4 e).2⟩
theorem wf_X7_readPass {n q : Nat} {g : Hp} {F : Nat} {o : Int32 × Hp} (hq : q < 60) {h : Hp} (k : DyK n g h) (e : sX7_readPass F h (n + 38) (n + (153 + 6 * q)) = some o) : DyK n g o.2 ∧ FrW (WRd n q) h o.2 := by
  unfold sX7_readPass at e
  obtain ⟨o_1, eo_1, e⟩ := cl_s e
  obtain ⟨ko_1, fo_1⟩ := wf_X7_takeByte hq k eo_1
  rcases br_s e with ⟨_, e⟩ | ⟨_, e⟩
  · exact ⟨(wf_X7_readPass_13 hq F ko_1 e).1, fw_t fo_1 (wf_X7_readPass_13 hq F ko_1 e).2⟩
  · rw [← Option.some.inj e]; exact ⟨ko_1, fo_1⟩
theorem wf_X7_readHands_107 {n q : Nat} {g : Hp} {F : Nat} {o : Int32 × Hp} (hq : q < 60) {h : Hp} (k : DyK n g h) (e : sX7_readHands_107 F h = some o) : DyK n g o.2 ∧ FrW (WRd n q) h o.2 := by
  unfold sX7_readHands_107 at e
  rw [← Option.some.inj e]; exact ⟨k, fw_0⟩
theorem wf_X7_readHands_78 {n q : Nat} {g : Hp} {F : Nat} {o : Int32 × Hp} (hq : q < 60) {h : Hp} (k : DyK n g h) (e : sX7_readHands_78 F h = some o) : DyK n g o.2 ∧ FrW (WRd n q) h o.2 := by
  unfold sX7_readHands_78 at e
  rw [← Option.some.inj e]; exact ⟨k, fw_0⟩
theorem wf_X3_inHand {n q : Nat} {g : Hp} {o : Int32 × Hp} {x1 : Int32} {x2 : Int32} (hq : q < 60) {h : Hp} (k : DyK n g h) (e : sX3_inHand h (n + (153 + 6 * q)) x1 x2 = some o) : DyK n g o.2 ∧ FrW (WRd n q) h o.2 := by
  unfold sX3_inHand at e
  obtain ⟨r_1, er_1, e⟩ := cl_s e
  have yr_1 := r_eq (pl_e k hq (p := (3, 4)) (by decide)) er_1
  subst yr_1
  replace e := (gd_s e).2
  rw [← Option.some.inj e]; exact ⟨k, fw_0⟩
theorem wf_X3_addToHand {n q : Nat} {g : Hp} {o : Hp} {x1 : Int32} {x2 : Int32} {x3 : Int32} (hq : q < 60) {h : Hp} (k : DyK n g h) (e : sX3_addToHand h (n + (153 + 6 * q)) x1 x2 x3 = some o) : DyK n g o ∧ FrW (WRd n q) h o := by
  unfold sX3_addToHand at e
  obtain ⟨r_1, er_1, e⟩ := cl_s e
  have yr_1 := r_eq (pl_e k hq (p := (3, 4)) (by decide)) er_1
  subst yr_1
  replace e := (gd_s e).2
  replace e := (gd_s e).2
  obtain ⟨h_4, wh_4, e⟩ := nm_s e
  have kh_4 : DyK n g h_4 := by rw [wh_4]; exact dk_wJ k
  have fh_4 : FrW (WRd n q) h h_4 := by rw [wh_4]; exact fw_wJ fw_0 (by unfold WRd; omega)
  rw [← Option.some.inj e]; exact ⟨kh_4, fh_4⟩
theorem wf_X7_readHands_39 {n q : Nat} {g : Hp} {F : Nat} {o : Int32 × Hp} {x2 : Int32} (hq : q < 60) {k_13 : Hp → Nat → Nat → Int32 → Option (Int32 × Hp)} (D_13 : ∀ {h : Hp} {y3 : Int32}, DyK n g h → k_13 h (n + 38) (n + (153 + 6 * q)) y3 = some o → DyK n g o.2 ∧ FrW (WRd n q) h o.2) {h : Hp} (k : DyK n g h) (e : sX7_readHands_39 F k_13 h (n + 38) (n + (153 + 6 * q)) x2 = some o) : DyK n g o.2 ∧ FrW (WRd n q) h o.2 := by
  unfold sX7_readHands_39 at e
  obtain ⟨r_1, er_1, e⟩ := cl_s e
  have yr_1 := dk_ed (a := 38) (b := 5) k (by decide +kernel) er_1
  subst yr_1
  obtain ⟨r_2, er_2, e⟩ := cl_s e
  obtain ⟨o_3, eo_3, e⟩ := cl_s e
  obtain ⟨ko_3, fo_3⟩ := wf_X9_byteAt hq k eo_3
  obtain ⟨o_4, eo_4, e⟩ := cl_s e
  obtain ⟨ko_4, fo_4⟩ := wf_X1_codeOf hq ko_3 eo_4
  replace fo_4 := fw_t fo_3 fo_4
  rcases br_s e with ⟨_, e⟩ | ⟨_, e⟩
  · exact ⟨(wf_X7_readHands_78 hq ko_4 e).1, fw_t fo_4 (wf_X7_readHands_78 hq ko_4 e).2⟩
  · obtain ⟨o_6, eo_6, e⟩ := cl_s e
    obtain ⟨ko_6, fo_6⟩ := wf_X3_inHand hq ko_4 eo_6
    replace fo_6 := fw_t fo_4 fo_6
    rcases br_s e with ⟨_, e⟩ | ⟨_, e⟩
    · obtain ⟨o_8, eo_8, e⟩ := cl_s e
      obtain ⟨ko_8, fo_8⟩ := wf_X3_addToHand hq ko_6 eo_8
      replace fo_8 := fw_t fo_6 fo_8
      obtain ⟨h_9, wh_9, e⟩ := nm_s e
      have kh_9 : DyK n g h_9 := by rw [wh_9]; exact dk_wI ko_8
      have fh_9 : FrW (WRd n q) h h_9 := by rw [wh_9]; exact fw_wI fo_8 (by unfold WRd; omega)
      obtain ⟨v_10, wv_10, e⟩ := nm_s e
      exact ⟨(D_13 kh_9 e).1, fw_t fh_9 (D_13 kh_9 e).2⟩
    · exact ⟨(wf_X7_readHands_78 hq ko_6 e).1, fw_t fo_6 (wf_X7_readHands_78 hq ko_6 e).2⟩
theorem wf_X7_readHands_13 {n q : Nat} {g : Hp} {F : Nat} {o : Int32 × Hp} (hq : q < 60) : ∀ (f : Nat) {h : Hp} {x2 : Int32}, DyK n g h → sX7_readHands_13 F f h (n + 38) (n + (153 + 6 * q)) x2 = some o → DyK n g o.2 ∧ FrW (WRd n q) h o.2 := by
  intro f
  induction f with
  | zero => intro h x2 _ e; exact absurd e (by rw [sX7_readHands_13]; exact fun z => nomatch z)
  | succ f ih =>
    intro h x2 k e
    rw [sX7_readHands_13] at e
    rcases br_s e with ⟨_, e⟩ | ⟨_, e⟩
    · exact wf_X7_readHands_107 hq k e
    · rcases br_s e with ⟨_, e⟩ | ⟨_, e⟩
      · exact wf_X7_readHands_39 hq (fun k e => ih k e) k e
      · obtain ⟨r_3, er_3, e⟩ := cl_s e
        obtain ⟨o_4, eo_4, e⟩ := cl_s e
        obtain ⟨ko_4, fo_4⟩ := wf_X9_byteAt hq k eo_4
        rcases br_s e with ⟨_, e⟩ | ⟨_, e⟩
        · exact ⟨(wf_X7_readHands_107 hq ko_4 e).1, fw_t fo_4 (wf_X7_readHands_107 hq ko_4 e).2⟩
        · exact ⟨(wf_X7_readHands_39 hq (fun k e => ih k e) ko_4 e).1, fw_t fo_4 (wf_X7_readHands_39 hq (fun k e => ih k e) ko_4 e).2⟩
theorem wf_X7_readHands {n q : Nat} {g : Hp} {F : Nat} {o : Int32 × Hp} (hq : q < 60) {h : Hp} (k : DyK n g h) (e : sX7_readHands F h (n + 38) (n + (153 + 6 * q)) = some o) : DyK n g o.2 ∧ FrW (WRd n q) h o.2 := by
  unfold sX7_readHands at e
  obtain ⟨o_1, eo_1, e⟩ := cl_s e
  obtain ⟨ko_1, fo_1⟩ := wf_X7_takeByte hq k eo_1
  rcases br_s e with ⟨_, e⟩ | ⟨_, e⟩
  · exact ⟨(wf_X7_readHands_13 hq F ko_1 e).1, fw_t fo_1 (wf_X7_readHands_13 hq F ko_1 e).2⟩
  · rw [← Option.some.inj e]; exact ⟨ko_1, fo_1⟩
theorem wf_X2_isDigit_17 {n q : Nat} {g : Hp} {o : Int32 × Hp} {t0 : Int32} (hq : q < 60) {h : Hp} (k : DyK n g h) (e : sX2_isDigit_17 h t0 = some o) : DyK n g o.2 ∧ FrW (WRd n q) h o.2 := by
  unfold sX2_isDigit_17 at e
  replace e := (gd_s e).2
  rw [← Option.some.inj e]; exact ⟨k, fw_0⟩
theorem wf_X2_isDigit_16 {n q : Nat} {g : Hp} {o : Int32 × Hp} (hq : q < 60) {h : Hp} (k : DyK n g h) (e : sX2_isDigit_16 h = some o) : DyK n g o.2 ∧ FrW (WRd n q) h o.2 := by
  unfold sX2_isDigit_16 at e
  exact wf_X2_isDigit_17 hq k e
theorem wf_X2_isDigit {n q : Nat} {g : Hp} {o : Int32 × Hp} {x0 : Int32} (hq : q < 60) {h : Hp} (k : DyK n g h) (e : sX2_isDigit h x0 = some o) : DyK n g o.2 ∧ FrW (WRd n q) h o.2 := by
  unfold sX2_isDigit at e
  rcases br_s e with ⟨_, e⟩ | ⟨_, e⟩
  · exact wf_X2_isDigit_16 hq k e
  · rcases br_s e with ⟨_, e⟩ | ⟨_, e⟩
    · exact wf_X2_isDigit_16 hq k e
    · exact wf_X2_isDigit_17 hq k e
theorem wf_X7_readChecks_2 {n q : Nat} {g : Hp} {F : Nat} {o : Int32 × Hp} (hq : q < 60) : ∀ (f : Nat) {h : Hp} {x2 : Int32}, DyK n g h → sX7_readChecks_2 F f h (n + 38) (n + (153 + 6 * q)) x2 = some o → DyK n g o.2 ∧ FrW (WRd n q) h o.2 := by
  intro f
  induction f with
  | zero => intro h x2 _ e; exact absurd e (by rw [sX7_readChecks_2]; exact fun z => nomatch z)
  | succ f ih =>
    intro h x2 k e
    rw [sX7_readChecks_2] at e
    rcases br_s e with ⟨_, e⟩ | ⟨_, e⟩
    · rw [← Option.some.inj e]; exact ⟨k, fw_0⟩
    · obtain ⟨r_2, er_2, e⟩ := cl_s e
      obtain ⟨o_3, eo_3, e⟩ := cl_s e
      obtain ⟨ko_3, fo_3⟩ := wf_X9_byteAt hq k eo_3
      obtain ⟨o_4, eo_4, e⟩ := cl_s e
      obtain ⟨ko_4, fo_4⟩ := wf_X2_isDigit hq ko_3 eo_4
      replace fo_4 := fw_t fo_3 fo_4
      rcases br_s e with ⟨_, e⟩ | ⟨_, e⟩
      · rw [← Option.some.inj e]; exact ⟨ko_4, fo_4⟩
      · obtain ⟨r_6, er_6, e⟩ := cl_s e
        have yr_6 := r_eq (pl_e ko_4 hq (p := (4, 5)) (by decide)) er_6
        subst yr_6
        obtain ⟨r_7, er_7, e⟩ := cl_s e
        obtain ⟨o_8, eo_8, e⟩ := cl_s e
        obtain ⟨ko_8, fo_8⟩ := wf_X9_byteAt hq ko_4 eo_8
        replace fo_8 := fw_t fo_4 fo_8
        replace e := (gd_s e).2
        obtain ⟨h_10, wh_10, e⟩ := nm_s e
        have kh_10 : DyK n g h_10 := by rw [wh_10]; exact dk_wI ko_8
        have fh_10 : FrW (WRd n q) h h_10 := by rw [wh_10]; exact fw_wI fo_8 (by unfold WRd; omega)
        obtain ⟨h_11, wh_11, e⟩ := nm_s e
        have kh_11 : DyK n g h_11 := by rw [wh_11]; exact dk_wI kh_10
        have fh_11 : FrW (WRd n q) h h_11 := by rw [wh_11]; exact fw_wI fh_10 (by unfold WRd; omega)
        obtain ⟨v_12, wv_12, e⟩ := nm_s e
        exact ⟨(ih kh_11 e).1, fw_t fh_11 (ih kh_11 e).2⟩
theorem wf_X7_readChecks {n q : Nat} {g : Hp} {F : Nat} {o : Int32 × Hp} (hq : q < 60) {h : Hp} (k : DyK n g h) (e : sX7_readChecks F h (n + 38) (n + (153 + 6 * q)) = some o) : DyK n g o.2 ∧ FrW (WRd n q) h o.2 := by
  unfold sX7_readChecks at e
  exact wf_X7_readChecks_2 hq F k e
theorem wf_X7_readClock_99 {n q : Nat} {g : Hp} {F : Nat} {o : Int32 × Hp} {t0 : Int32} (hq : q < 60) {h : Hp} (k : DyK n g h) (e : sX7_readClock_99 F h t0 = some o) : DyK n g o.2 ∧ FrW (WRd n q) h o.2 := by
  unfold sX7_readClock_99 at e
  replace e := (gd_s e).2
  rw [← Option.some.inj e]; exact ⟨k, fw_0⟩
theorem wf_X7_readClock_86 {n q : Nat} {g : Hp} {F : Nat} {o : Int32 × Hp} {x2 : Int32} (hq : q < 60) {h : Hp} (k : DyK n g h) (e : sX7_readClock_86 F h (n + 38) x2 = some o) : DyK n g o.2 ∧ FrW (WRd n q) h o.2 := by
  unfold sX7_readClock_86 at e
  rcases br_s e with ⟨_, e⟩ | ⟨_, e⟩
  · exact wf_X7_readClock_99 hq k e
  · exact wf_X7_readClock_99 hq k e
theorem wf_X7_readClock_71 {n q : Nat} {g : Hp} {F : Nat} {o : Int32 × Hp} {x2 : Int32} (hq : q < 60) {h : Hp} (k : DyK n g h) (e : sX7_readClock_71 F h (n + 38) (n + (153 + 6 * q)) x2 = some o) : DyK n g o.2 ∧ FrW (WRd n q) h o.2 := by
  unfold sX7_readClock_71 at e
  rcases br_s e with ⟨_, e⟩ | ⟨_, e⟩
  · exact wf_X7_readClock_86 hq k e
  · obtain ⟨h_2, wh_2, e⟩ := nm_s e
    have kh_2 : DyK n g h_2 := by rw [wh_2]; exact dk_wI k
    have fh_2 : FrW (WRd n q) h h_2 := by rw [wh_2]; exact fw_wI fw_0 (by unfold WRd; omega)
    exact ⟨(wf_X7_readClock_86 hq kh_2 e).1, fw_t fh_2 (wf_X7_readClock_86 hq kh_2 e).2⟩
theorem wf_X7_readClock_7 {n q : Nat} {g : Hp} {F : Nat} {o : Int32 × Hp} (hq : q < 60) : ∀ (f : Nat) {h : Hp} {x2 : Int32} {x3 : Int32}, DyK n g h → sX7_readClock_7 F f h (n + 38) (n + (153 + 6 * q)) x2 x3 = some o → DyK n g o.2 ∧ FrW (WRd n q) h o.2 := by
  intro f
  induction f with
  | zero => intro h x2 x3 _ e; exact absurd e (by rw [sX7_readClock_7]; exact fun z => nomatch z)
  | succ f ih =>
    intro h x2 x3 k e
    rw [sX7_readClock_7] at e
    rcases br_s e with ⟨_, e⟩ | ⟨_, e⟩
    · exact wf_X7_readClock_71 hq k e
    · obtain ⟨r_2, er_2, e⟩ := cl_s e
      obtain ⟨o_3, eo_3, e⟩ := cl_s e
      obtain ⟨ko_3, fo_3⟩ := wf_X9_byteAt hq k eo_3
      obtain ⟨o_4, eo_4, e⟩ := cl_s e
      obtain ⟨ko_4, fo_4⟩ := wf_X2_isDigit hq ko_3 eo_4
      replace fo_4 := fw_t fo_3 fo_4
      rcases br_s e with ⟨_, e⟩ | ⟨_, e⟩
      · exact ⟨(wf_X7_readClock_71 hq ko_4 e).1, fw_t fo_4 (wf_X7_readClock_71 hq ko_4 e).2⟩
      · obtain ⟨r_6, er_6, e⟩ := cl_s e
        obtain ⟨o_7, eo_7, e⟩ := cl_s e
        obtain ⟨ko_7, fo_7⟩ := wf_X9_byteAt hq ko_4 eo_7
        replace fo_7 := fw_t fo_4 fo_7
        obtain ⟨h_8, wh_8, e⟩ := nm_s e
        have kh_8 : DyK n g h_8 := by rw [wh_8]; exact dk_wI ko_7
        have fh_8 : FrW (WRd n q) h h_8 := by rw [wh_8]; exact fw_wI fo_7 (by unfold WRd; omega)
        obtain ⟨h_9, wh_9, e⟩ := nm_s e
        have kh_9 : DyK n g h_9 := by rw [wh_9]; exact dk_wI kh_8
        have fh_9 : FrW (WRd n q) h h_9 := by rw [wh_9]; exact fw_wI fh_8 (by unfold WRd; omega)
        obtain ⟨v_10, wv_10, e⟩ := nm_s e
        exact ⟨(ih kh_9 e).1, fw_t fh_9 (ih kh_9 e).2⟩
theorem wf_X7_readClock {n q : Nat} {g : Hp} {F : Nat} {o : Int32 × Hp} (hq : q < 60) {h : Hp} (k : DyK n g h) (e : sX7_readClock F h (n + 38) (n + (153 + 6 * q)) = some o) : DyK n g o.2 ∧ FrW (WRd n q) h o.2 := by
  unfold sX7_readClock at e
  obtain ⟨v_1, wv_1, e⟩ := nm_s e
  exact wf_X7_readClock_7 hq F k e
theorem wf_X7_read {n q : Nat} {g : Hp} {F : Nat} {o : Int32 × Hp} (hq : q < 60) {h : Hp} (k : DyK n g h) (e : sX7_read F h (n + 38) (n + 1) (n + (153 + 6 * q)) = some o) : DyK n g o.2 ∧ FrW (WRd n q) h o.2 := by
  unfold sX7_read at e
  obtain ⟨h_1, wh_1, e⟩ := nm_s e
  have kh_1 : DyK n g h_1 := by rw [wh_1]; exact dk_wR k (by decide)
  have fh_1 : FrW (WRd n q) h h_1 := by rw [wh_1]; exact fw_wR fw_0
  obtain ⟨h_2, wh_2, e⟩ := nm_s e
  have kh_2 : DyK n g h_2 := by rw [wh_2]; exact dk_wI kh_1
  have fh_2 : FrW (WRd n q) h h_2 := by rw [wh_2]; exact fw_wI fh_1 (by unfold WRd; omega)
  obtain ⟨o_3, eo_3, e⟩ := cl_s e
  obtain ⟨ko_3, fo_3⟩ := wf_X3_clear hq kh_2 eo_3
  replace fo_3 := fw_t fh_2 fo_3
  obtain ⟨o_4, eo_4, e⟩ := cl_s e
  obtain ⟨ko_4, fo_4⟩ := wf_X7_readRanks hq ko_3 eo_4
  replace fo_4 := fw_t fo_3 fo_4
  rcases br_s e with ⟨_, e⟩ | ⟨_, e⟩
  · exact ⟨(wf_X7_read_143 hq ko_4 e).1, fw_t fo_4 (wf_X7_read_143 hq ko_4 e).2⟩
  · obtain ⟨o_6, eo_6, e⟩ := cl_s e
    obtain ⟨ko_6, fo_6⟩ := wf_X7_takeByte hq ko_4 eo_6
    replace fo_6 := fw_t fo_4 fo_6
    rcases br_s e with ⟨_, e⟩ | ⟨_, e⟩
    · exact ⟨(wf_X7_read_143 hq ko_6 e).1, fw_t fo_6 (wf_X7_read_143 hq ko_6 e).2⟩
    · obtain ⟨o_8, eo_8, e⟩ := cl_s e
      obtain ⟨ko_8, fo_8⟩ := wf_X7_readSide hq ko_6 eo_8
      replace fo_8 := fw_t fo_6 fo_8
      rcases br_s e with ⟨_, e⟩ | ⟨_, e⟩
      · exact ⟨(wf_X7_read_143 hq ko_8 e).1, fw_t fo_8 (wf_X7_read_143 hq ko_8 e).2⟩
      · obtain ⟨o_10, eo_10, e⟩ := cl_s e
        obtain ⟨ko_10, fo_10⟩ := wf_X7_takeByte hq ko_8 eo_10
        replace fo_10 := fw_t fo_8 fo_10
        rcases br_s e with ⟨_, e⟩ | ⟨_, e⟩
        · exact ⟨(wf_X7_read_143 hq ko_10 e).1, fw_t fo_10 (wf_X7_read_143 hq ko_10 e).2⟩
        · obtain ⟨o_12, eo_12, e⟩ := cl_s e
          obtain ⟨ko_12, fo_12⟩ := wf_X7_readRights hq ko_10 eo_12
          replace fo_12 := fw_t fo_10 fo_12
          rcases br_s e with ⟨_, e⟩ | ⟨_, e⟩
          · exact ⟨(wf_X7_read_143 hq ko_12 e).1, fw_t fo_12 (wf_X7_read_143 hq ko_12 e).2⟩
          · obtain ⟨o_14, eo_14, e⟩ := cl_s e
            obtain ⟨ko_14, fo_14⟩ := wf_X7_takeByte hq ko_12 eo_14
            replace fo_14 := fw_t fo_12 fo_14
            rcases br_s e with ⟨_, e⟩ | ⟨_, e⟩
            · exact ⟨(wf_X7_read_143 hq ko_14 e).1, fw_t fo_14 (wf_X7_read_143 hq ko_14 e).2⟩
            · obtain ⟨o_16, eo_16, e⟩ := cl_s e
              obtain ⟨ko_16, fo_16⟩ := wf_X7_readPass hq ko_14 eo_16
              replace fo_16 := fw_t fo_14 fo_16
              rcases br_s e with ⟨_, e⟩ | ⟨_, e⟩
              · exact ⟨(wf_X7_read_143 hq ko_16 e).1, fw_t fo_16 (wf_X7_read_143 hq ko_16 e).2⟩
              · obtain ⟨o_18, eo_18, e⟩ := cl_s e
                obtain ⟨ko_18, fo_18⟩ := wf_X7_takeByte hq ko_16 eo_18
                replace fo_18 := fw_t fo_16 fo_18
                rcases br_s e with ⟨_, e⟩ | ⟨_, e⟩
                · exact ⟨(wf_X7_read_143 hq ko_18 e).1, fw_t fo_18 (wf_X7_read_143 hq ko_18 e).2⟩
                · obtain ⟨o_20, eo_20, e⟩ := cl_s e
                  obtain ⟨ko_20, fo_20⟩ := wf_X7_readHands hq ko_18 eo_20
                  replace fo_20 := fw_t fo_18 fo_20
                  rcases br_s e with ⟨_, e⟩ | ⟨_, e⟩
                  · exact ⟨(wf_X7_read_143 hq ko_20 e).1, fw_t fo_20 (wf_X7_read_143 hq ko_20 e).2⟩
                  · obtain ⟨o_22, eo_22, e⟩ := cl_s e
                    obtain ⟨ko_22, fo_22⟩ := wf_X7_takeByte hq ko_20 eo_22
                    replace fo_22 := fw_t fo_20 fo_22
                    rcases br_s e with ⟨_, e⟩ | ⟨_, e⟩
                    · exact ⟨(wf_X7_read_143 hq ko_22 e).1, fw_t fo_22 (wf_X7_read_143 hq ko_22 e).2⟩
                    · obtain ⟨o_24, eo_24, e⟩ := cl_s e
                      obtain ⟨ko_24, fo_24⟩ := wf_X7_readChecks hq ko_22 eo_24
                      replace fo_24 := fw_t fo_22 fo_24
                      rcases br_s e with ⟨_, e⟩ | ⟨_, e⟩
                      · exact ⟨(wf_X7_read_143 hq ko_24 e).1, fw_t fo_24 (wf_X7_read_143 hq ko_24 e).2⟩
                      · obtain ⟨o_26, eo_26, e⟩ := cl_s e
                        obtain ⟨ko_26, fo_26⟩ := wf_X7_takeByte hq ko_24 eo_26
                        replace fo_26 := fw_t fo_24 fo_26
                        rcases br_s e with ⟨_, e⟩ | ⟨_, e⟩
                        · exact ⟨(wf_X7_read_143 hq ko_26 e).1, fw_t fo_26 (wf_X7_read_143 hq ko_26 e).2⟩
                        · obtain ⟨o_28, eo_28, e⟩ := cl_s e
                          obtain ⟨ko_28, fo_28⟩ := wf_X7_readClock hq ko_26 eo_28
                          replace fo_28 := fw_t fo_26 fo_28
                          rcases br_s e with ⟨_, e⟩ | ⟨_, e⟩
                          · exact ⟨(wf_X7_read_143 hq ko_28 e).1, fw_t fo_28 (wf_X7_read_143 hq ko_28 e).2⟩
                          · obtain ⟨r_30, er_30, e⟩ := cl_s e
                            obtain ⟨o_31, eo_31, e⟩ := cl_s e
                            obtain ⟨ko_31, fo_31⟩ := wf_X9_byteAt hq ko_28 eo_31
                            replace fo_31 := fw_t fo_28 fo_31
                            rcases br_s e with ⟨_, e⟩ | ⟨_, e⟩
                            · exact ⟨(wf_X7_read_144 hq ko_31 e).1, fw_t fo_31 (wf_X7_read_144 hq ko_31 e).2⟩
                            · exact ⟨(wf_X7_read_143 hq ko_31 e).1, fw_t fo_31 (wf_X7_read_143 hq ko_31 e).2⟩
