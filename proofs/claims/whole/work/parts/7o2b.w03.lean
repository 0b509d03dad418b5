section
/-! what sX1_clear;x0=S:5|sX1_setBoard;x0=S:5 writes: printed by wfx.py -/
theorem wr_J7_fill_53178_5 {n : Nat} {g : Hp} {F : Nat} {o : Hp} : ∀ (f : Nat) {h : Hp} {x0 : Nat} {x1 : Int32} {x2 : Int32} {x3 : Int32}, (∀ i, WRl n 5 x0 i) → DyX n xlL g h → sJ7_fill_53178_5 F f h x0 x1 x2 x3 = some o → DyX n xlL g o ∧ FrW (WRl n 5) h o := by
  intro f
  induction f with
  | zero => intro h x0 x1 x2 x3 _ _ e; exact absurd e (by rw [sJ7_fill_53178_5]; exact fun z => nomatch z)
  | succ f ih =>
    intro h x0 x1 x2 x3 w_x0 k e
    rw [sJ7_fill_53178_5] at e
    rcases br_s e with ⟨_, e⟩ | ⟨_, e⟩
    · rw [← Option.some.inj e]; exact ⟨k, fw_0⟩
    · replace e := (gd_s e).2
      obtain ⟨h_3, wh_3, e⟩ := nm_s e
      have kh_3 : DyX n xlL g h_3 := by rw [wh_3]; exact dx_wI k
      have fh_3 : FrW (WRl n 5) h h_3 := by rw [wh_3]; exact fw_wI fw_0 (w_x0 _)
      obtain ⟨v_4, wv_4, e⟩ := nm_s e
      exact ⟨(ih w_x0 kh_3 e).1, fw_t fh_3 (ih w_x0 kh_3 e).2⟩
theorem wr_J7_fill_53178 {n : Nat} {g : Hp} {F : Nat} {o : Hp} {x0 : Nat} {x1 : Int32} {h : Hp} (w_x0 : ∀ i, WRl n 5 x0 i) (k : DyX n xlL g h) (e : sJ7_fill_53178 F h x0 x1 = some o) : DyX n xlL g o ∧ FrW (WRl n 5) h o := by
  unfold sJ7_fill_53178 at e
  obtain ⟨v_1, wv_1, e⟩ := nm_s e
  exact wr_J7_fill_53178_5 F w_x0 k e
theorem wr_X1_clear {n : Nat} {g : Hp} {F : Nat} {o : Hp} {h : Hp} (k : DyX n xlL g h) (e : sX1_clear F h (n + 5) = some o) : DyX n xlL g o ∧ FrW (WRl n 5) h o := by
  unfold sX1_clear at e
  obtain ⟨h_1, wh_1, e⟩ := nm_s e
  have kh_1 : DyX n xlL g h_1 := by rw [wh_1]; exact dx_wI k
  have fh_1 : FrW (WRl n 5) h h_1 := by rw [wh_1]; exact fw_wI fw_0 (by unfold WRl; omega)
  obtain ⟨h_2, wh_2, e⟩ := nm_s e
  have kh_2 : DyX n xlL g h_2 := by rw [wh_2]; exact dx_wI kh_1
  have fh_2 : FrW (WRl n 5) h h_2 := by rw [wh_2]; exact fw_wI fh_1 (by unfold WRl; omega)
  obtain ⟨h_3, wh_3, e⟩ := nm_s e
  have kh_3 : DyX n xlL g h_3 := by rw [wh_3]; exact dx_wI kh_2
  have fh_3 : FrW (WRl n 5) h h_3 := by rw [wh_3]; exact fw_wI fh_2 (by unfold WRl; omega)
  obtain ⟨h_4, wh_4, e⟩ := nm_s e
  have kh_4 : DyX n xlL g h_4 := by rw [wh_4]; exact dx_wI kh_3
  have fh_4 : FrW (WRl n 5) h h_4 := by rw [wh_4]; exact fw_wI fh_3 (by unfold WRl; omega)
  obtain ⟨h_5, wh_5, e⟩ := nm_s e
  have kh_5 : DyX n xlL g h_5 := by rw [wh_5]; exact dx_wI kh_4
  have fh_5 : FrW (WRl n 5) h h_5 := by rw [wh_5]; exact fw_wI fh_4 (by unfold WRl; omega)
  obtain ⟨h_6, wh_6, e⟩ := nm_s e
  have kh_6 : DyX n xlL g h_6 := by rw [wh_6]; exact dx_wI kh_5
  have fh_6 : FrW (WRl n 5) h h_6 := by rw [wh_6]; exact fw_wI fh_5 (by unfold WRl; omega)
  obtain ⟨h_7, wh_7, e⟩ := nm_s e
  have kh_7 : DyX n xlL g h_7 := by rw [wh_7]; exact dx_wI kh_6
  have fh_7 : FrW (WRl n 5) h h_7 := by rw [wh_7]; exact fw_wI fh_6 (by unfold WRl; omega)
  obtain ⟨h_8, wh_8, e⟩ := nm_s e
  have kh_8 : DyX n xlL g h_8 := by rw [wh_8]; exact dx_wI kh_7
  have fh_8 : FrW (WRl n 5) h h_8 := by rw [wh_8]; exact fw_wI fh_7 (by unfold WRl; omega)
  obtain ⟨h_9, wh_9, e⟩ := nm_s e
  have kh_9 : DyX n xlL g h_9 := by rw [wh_9]; exact dx_wI kh_8
  have fh_9 : FrW (WRl n 5) h h_9 := by rw [wh_9]; exact fw_wI fh_8 (by unfold WRl; omega)
  obtain ⟨h_10, wh_10, e⟩ := nm_s e
  have kh_10 : DyX n xlL g h_10 := by rw [wh_10]; exact dx_wI kh_9
  have fh_10 : FrW (WRl n 5) h h_10 := by rw [wh_10]; exact fw_wI fh_9 (by unfold WRl; omega)
  obtain ⟨h_11, wh_11, e⟩ := nm_s e
  have kh_11 : DyX n xlL g h_11 := by rw [wh_11]; exact dx_wI kh_10
  have fh_11 : FrW (WRl n 5) h h_11 := by rw [wh_11]; exact fw_wI fh_10 (by unfold WRl; omega)
  obtain ⟨h_12, wh_12, e⟩ := nm_s e
  have kh_12 : DyX n xlL g h_12 := by rw [wh_12]; exact dx_wI kh_11
  have fh_12 : FrW (WRl n 5) h h_12 := by rw [wh_12]; exact fw_wI fh_11 (by unfold WRl; omega)
  obtain ⟨h_13, wh_13, e⟩ := nm_s e
  have kh_13 : DyX n xlL g h_13 := by rw [wh_13]; exact dx_wI kh_12
  have fh_13 : FrW (WRl n 5) h h_13 := by rw [wh_13]; exact fw_wI fh_12 (by unfold WRl; omega)
  obtain ⟨h_14, wh_14, e⟩ := nm_s e
  have kh_14 : DyX n xlL g h_14 := by rw [wh_14]; exact dx_wJ kh_13
  have fh_14 : FrW (WRl n 5) h h_14 := by rw [wh_14]; exact fw_wJ fh_13 (by unfold WRl; omega)
  obtain ⟨r_15, er_15, e⟩ := cl_s e
  have yr_15 := dx_ed (a := 5) (b := 8) kh_14 (by decide +kernel) er_15
  subst yr_15
  obtain ⟨o_16, eo_16, e⟩ := cl_s e
  obtain ⟨ko_16, fo_16⟩ := wr_J7_fill_53178 (fun i => by unfold WRl; omega) kh_14 eo_16
  replace fo_16 := fw_t fh_14 fo_16
  obtain ⟨r_17, er_17, e⟩ := cl_s e
  have yr_17 := dx_ed (a := 5) (b := 10) ko_16 (by decide +kernel) er_17
  subst yr_17
  obtain ⟨o_18, eo_18, e⟩ := cl_s e
  obtain ⟨ko_18, fo_18⟩ := wr_J7_fill_53178 (fun i => by unfold WRl; omega) ko_16 eo_18
  replace fo_18 := fw_t fo_16 fo_18
  rw [← Option.some.inj e]; exact ⟨ko_18, fo_18⟩
theorem wr_X1_setBoard_83 {n : Nat} {g : Hp} {F : Nat} {o : Hp} {x3 : Int32} {k_17 : Hp → Nat → Int32 → Option (Hp)} (D_17 : ∀ {h : Hp} {y2 : Int32}, DyX n xlL g h → k_17 h (n + 5) y2 = some o → DyX n xlL g o ∧ FrW (WRl n 5) h o) {h : Hp} (k : DyX n xlL g h) (e : sX1_setBoard_83 F k_17 h (n + 5) x3 = some o) : DyX n xlL g o ∧ FrW (WRl n 5) h o := by
  unfold sX1_setBoard_83 at e
  obtain ⟨v_1, wv_1, e⟩ := nm_s e
  exact D_17 k e
theorem wr_X1_setBoard_28 {n : Nat} {g : Hp} {F : Nat} {o : Hp} {k_17 : Hp → Nat → Int32 → Option (Hp)} (D_17 : ∀ {h : Hp} {y2 : Int32}, DyX n xlL g h → k_17 h (n + 5) y2 = some o → DyX n xlL g o ∧ FrW (WRl n 5) h o) : ∀ (f : Nat) {h : Hp} {x3 : Int32} {x4 : Int32}, DyX n xlL g h → sX1_setBoard_28 F k_17 f h (n + 5) x3 x4 = some o → DyX n xlL g o ∧ FrW (WRl n 5) h o := by
  intro f
  induction f with
  | zero => intro h x3 x4 _ e; exact absurd e (by rw [sX1_setBoard_28]; exact fun z => nomatch z)
  | succ f ih =>
    intro h x3 x4 k e
    rw [sX1_setBoard_28] at e
    rcases br_s e with ⟨_, e⟩ | ⟨_, e⟩
    · exact wr_X1_setBoard_83 D_17 k e
    · rcases br_s e with ⟨_, e⟩ | ⟨_, e⟩
      · exact wr_X1_setBoard_83 D_17 k e
      · obtain ⟨r_3, er_3, e⟩ := cl_s e
        have yr_3 := dx_ed (a := 5) (b := 11) k (by decide +kernel) er_3
        subst yr_3
        replace e := (gd_s e).2
        obtain ⟨h_5, wh_5, e⟩ := nm_s e
        have kh_5 : DyX n xlL g h_5 := by rw [wh_5]; exact dx_wI k
        have fh_5 : FrW (WRl n 5) h h_5 := by rw [wh_5]; exact fw_wI fw_0 (by unfold WRl; omega)
        obtain ⟨r_6, er_6, e⟩ := cl_s e
        have yr_6 := dx_ed (a := 5) (b := 12) kh_5 (by decide +kernel) er_6
        subst yr_6
        replace e := (gd_s e).2
        obtain ⟨h_8, wh_8, e⟩ := nm_s e
        have kh_8 : DyX n xlL g h_8 := by rw [wh_8]; exact dx_wI kh_5
        have fh_8 : FrW (WRl n 5) h h_8 := by rw [wh_8]; exact fw_wI fh_5 (by unfold WRl; omega)
        obtain ⟨h_9, wh_9, e⟩ := nm_s e
        have kh_9 : DyX n xlL g h_9 := by rw [wh_9]; exact dx_wI kh_8
        have fh_9 : FrW (WRl n 5) h h_9 := by rw [wh_9]; exact fw_wI fh_8 (by unfold WRl; omega)
        obtain ⟨v_10, wv_10, e⟩ := nm_s e
        exact ⟨(ih kh_9 e).1, fw_t fh_9 (ih kh_9 e).2⟩
theorem wr_X1_setBoard_17 {n : Nat} {g : Hp} {F : Nat} {o : Hp} : ∀ (f : Nat) {h : Hp} {x3 : Int32}, DyX n xlL g h → sX1_setBoard_17 F f h (n + 5) x3 = some o → DyX n xlL g o ∧ FrW (WRl n 5) h o := by
  intro f
  induction f with
  | zero => intro h x3 _ e; exact absurd e (by rw [sX1_setBoard_17]; exact fun z => nomatch z)
  | succ f ih =>
    intro h x3 k e
    rw [sX1_setBoard_17] at e
    rcases br_s e with ⟨_, e⟩ | ⟨_, e⟩
    · rw [← Option.some.inj e]; exact ⟨k, fw_0⟩
    · exact wr_X1_setBoard_28 (fun k e => ih k e) F k e
theorem wr_X1_setBoard {n : Nat} {g : Hp} {F : Nat} {o : Hp} {x1 : Int32} {x2 : Int32} {h : Hp} (k : DyX n xlL g h) (e : sX1_setBoard F h (n + 5) x1 x2 = some o) : DyX n xlL g o ∧ FrW (WRl n 5) h o := by
  unfold sX1_setBoard at e
  obtain ⟨h_1, wh_1, e⟩ := nm_s e
  have kh_1 : DyX n xlL g h_1 := by rw [wh_1]; exact dx_wI k
  have fh_1 : FrW (WRl n 5) h h_1 := by rw [wh_1]; exact fw_wI fw_0 (by unfold WRl; omega)
  obtain ⟨h_2, wh_2, e⟩ := nm_s e
  have kh_2 : DyX n xlL g h_2 := by rw [wh_2]; exact dx_wI kh_1
  have fh_2 : FrW (WRl n 5) h h_2 := by rw [wh_2]; exact fw_wI fh_1 (by unfold WRl; omega)
  obtain ⟨h_3, wh_3, e⟩ := nm_s e
  have kh_3 : DyX n xlL g h_3 := by rw [wh_3]; exact dx_wI kh_2
  have fh_3 : FrW (WRl n 5) h h_3 := by rw [wh_3]; exact fw_wI fh_2 (by unfold WRl; omega)
  exact ⟨(wr_X1_setBoard_17 F kh_3 e).1, fw_t fh_3 (wr_X1_setBoard_17 F kh_3 e).2⟩
end
section
/-! what sX10_lay_28;x0=S:22|sJ7_fill_d0a16 writes: printed by wfx.py -/
theorem wy_X10_layAround_96 {n : Nat} {g : Hp} {F : Nat} {o : Hp} {x1 : Int32} {x2 : Int64} {x4 : Int32} {k_2 : Hp → Nat → Int32 → Option (Hp)} (D_2 : ∀ {h : Hp} {y2 : Int32}, DyX n xlY g h → k_2 h (n + 22) y2 = some o → DyX n xlY g o ∧ FrW (WLy n) h o) {k_18 : Hp → Nat → Int32 → Int64 → Int32 → Option (Hp)} (D_18 : ∀ {h : Hp} {y2 : Int32} {y3 : Int64} {y4 : Int32}, DyX n xlY g h → k_18 h (n + 22) y2 y3 y4 = some o → DyX n xlY g o ∧ FrW (WLy n) h o) {h : Hp} (k : DyX n xlY g h) (e : sX10_layAround_96 F k_2 k_18 h (n + 22) x1 x2 x4 = some o) : DyX n xlY g o ∧ FrW (WLy n) h o := by
  unfold sX10_layAround_96 at e
  obtain ⟨v_1, wv_1, e⟩ := nm_s e
  exact D_18 k e
theorem wy_X10_isOn_35 {n : Nat} {g : Hp} {o : Int32 × Hp} {t0 : Int32} {h : Hp} (k : DyX n xlY g h) (e : sX10_isOn_35 h t0 = some o) : DyX n xlY g o.2 ∧ FrW (WLy n) h o.2 := by
  unfold sX10_isOn_35 at e
  replace e := (gd_s e).2
  rw [← Option.some.inj e]; exact ⟨k, fw_0⟩
theorem wy_X10_isOn_34 {n : Nat} {g : Hp} {o : Int32 × Hp} {h : Hp} (k : DyX n xlY g h) (e : sX10_isOn_34 h = some o) : DyX n xlY g o.2 ∧ FrW (WLy n) h o.2 := by
  unfold sX10_isOn_34 at e
  exact wy_X10_isOn_35 k e
theorem wy_X10_isOn {n : Nat} {g : Hp} {o : Int32 × Hp} {x1 : Int32} {x2 : Int32} {h : Hp} (k : DyX n xlY g h) (e : sX10_isOn h (n + 22) x1 x2 = some o) : DyX n xlY g o.2 ∧ FrW (WLy n) h o.2 := by
  unfold sX10_isOn at e
  rcases br_s e with ⟨_, e⟩ | ⟨_, e⟩
  · exact wy_X10_isOn_34 k e
  · obtain ⟨r_2, er_2, e⟩ := cl_s e
    have yr_2 := dx_xd (a := 22) (b := 5) k (by decide) er_2
    subst yr_2
    rcases br_s e with ⟨_, e⟩ | ⟨_, e⟩
    · exact wy_X10_isOn_34 k e
    · rcases br_s e with ⟨_, e⟩ | ⟨_, e⟩
      · exact wy_X10_isOn_34 k e
      · obtain ⟨r_5, er_5, e⟩ := cl_s e
        have yr_5 := dx_xd (a := 22) (b := 5) k (by decide) er_5
        subst yr_5
        rcases br_s e with ⟨_, e⟩ | ⟨_, e⟩
        · exact wy_X10_isOn_34 k e
        · exact wy_X10_isOn_35 k e
theorem wy_X10_layAround_18 {n : Nat} {g : Hp} {F : Nat} {o : Hp} {k_2 : Hp → Nat → Int32 → Option (Hp)} (D_2 : ∀ {h : Hp} {y2 : Int32}, DyX n xlY g h → k_2 h (n + 22) y2 = some o → DyX n xlY g o ∧ FrW (WLy n) h o) : ∀ (f : Nat) {h : Hp} {x1 : Int32} {x2 : Int64} {x4 : Int32}, DyX n xlY g h → sX10_layAround_18 F k_2 f h (n + 22) x1 x2 x4 = some o → DyX n xlY g o ∧ FrW (WLy n) h o := by
  intro f
  induction f with
  | zero => intro h x1 x2 x4 _ e; exact absurd e (by rw [sX10_layAround_18]; exact fun z => nomatch z)
  | succ f ih =>
    intro h x1 x2 x4 k e
    rw [sX10_layAround_18] at e
    rcases br_s e with ⟨_, e⟩ | ⟨_, e⟩
    · obtain ⟨r_2, er_2, e⟩ := cl_s e
      have yr_2 := dx_ed (a := 22) (b := 28) k (by decide +kernel) er_2
      subst yr_2
      replace e := (gd_s e).2
      obtain ⟨h_4, wh_4, e⟩ := nm_s e
      have kh_4 : DyX n xlY g h_4 := by rw [wh_4]; exact dx_wJ k
      have fh_4 : FrW (WLy n) h h_4 := by rw [wh_4]; exact fw_wJ fw_0 (by unfold WLy; omega)
      obtain ⟨v_5, wv_5, e⟩ := nm_s e
      exact ⟨(D_2 kh_4 e).1, fw_t fh_4 (D_2 kh_4 e).2⟩
    · obtain ⟨r_6, er_6, e⟩ := cl_s e
      have yr_6 := dx_xd (a := 22) (b := 5) k (by decide) er_6
      subst yr_6
      obtain ⟨r_7, er_7, e⟩ := cl_s e
      have yr_7 := dx_ed (a := 5) (b := 11) k (by decide +kernel) er_7
      subst yr_7
      replace e := (gd_s e).2
      obtain ⟨v_9, wv_9, e⟩ := nm_s e
      obtain ⟨r_10, er_10, e⟩ := cl_s e
      have yr_10 := dx_xd (a := 22) (b := 5) k (by decide) er_10
      subst yr_10
      obtain ⟨r_11, er_11, e⟩ := cl_s e
      have yr_11 := dx_ed (a := 5) (b := 12) k (by decide +kernel) er_11
      subst yr_11
      replace e := (gd_s e).2
      obtain ⟨v_13, wv_13, e⟩ := nm_s e
      rcases br_s e with ⟨_, e⟩ | ⟨_, e⟩
      · exact wy_X10_layAround_96 D_2 (fun k e => ih k e) k e
      · obtain ⟨o_15, eo_15, e⟩ := cl_s e
        obtain ⟨ko_15, fo_15⟩ := wy_X10_isOn k eo_15
        rcases br_s e with ⟨_, e⟩ | ⟨_, e⟩
        · exact ⟨(wy_X10_layAround_96 D_2 (fun k e => ih k e) ko_15 e).1, fw_t fo_15 (wy_X10_layAround_96 D_2 (fun k e => ih k e) ko_15 e).2⟩
        · obtain ⟨r_17, er_17, e⟩ := cl_s e
          have yr_17 := dx_xd (a := 22) (b := 5) ko_15 (by decide) er_17
          subst yr_17
          obtain ⟨v_18, wv_18, e⟩ := nm_s e
          exact ⟨(wy_X10_layAround_96 D_2 (fun k e => ih k e) ko_15 e).1, fw_t fo_15 (wy_X10_layAround_96 D_2 (fun k e => ih k e) ko_15 e).2⟩
theorem wy_X10_layAround_2 {n : Nat} {g : Hp} {F : Nat} {o : Hp} : ∀ (f : Nat) {h : Hp} {x1 : Int32}, DyX n xlY g h → sX10_layAround_2 F f h (n + 22) x1 = some o → DyX n xlY g o ∧ FrW (WLy n) h o := by
  intro f
  induction f with
  | zero => intro h x1 _ e; exact absurd e (by rw [sX10_layAround_2]; exact fun z => nomatch z)
  | succ f ih =>
    intro h x1 k e
    rw [sX10_layAround_2] at e
    obtain ⟨r_1, er_1, e⟩ := cl_s e
    have yr_1 := dx_xd (a := 22) (b := 5) k (by decide) er_1
    subst yr_1
    rcases br_s e with ⟨_, e⟩ | ⟨_, e⟩
    · rw [← Option.some.inj e]; exact ⟨k, fw_0⟩
    · exact wy_X10_layAround_18 (fun k e => ih k e) F k e
theorem wy_X10_layAround {n : Nat} {g : Hp} {F : Nat} {o : Hp} {h : Hp} (k : DyX n xlY g h) (e : sX10_layAround F h (n + 22) = some o) : DyX n xlY g o ∧ FrW (WLy n) h o := by
  unfold sX10_layAround at e
  exact wy_X10_layAround_2 F k e
theorem wy_X10_cell {n : Nat} {g : Hp} {o : Int32 × Hp} {x0 : Int32} {x1 : Int32} {x2 : Int32} {h : Hp} (k : DyX n xlY g h) (e : sX10_cell h x0 x1 x2 = some o) : DyX n xlY g o.2 ∧ FrW (WLy n) h o.2 := by
  unfold sX10_cell at e
  rw [← Option.some.inj e]; exact ⟨k, fw_0⟩
theorem wy_X10_layFrom_154 {n : Nat} {g : Hp} {F : Nat} {o : Hp} {x1 : Int32} {x2 : Int32} {x3 : Int64} {x5 : Int32} {x6 : Int32} {k_30 : Hp → Nat → Int32 → Int32 → Int64 → Int32 → Int32 → Option (Hp)} (D_30 : ∀ {h : Hp} {y2 : Int32} {y3 : Int32} {y4 : Int64} {y5 : Int32} {y6 : Int32}, DyX n xlY g h → k_30 h (n + 22) y2 y3 y4 y5 y6 = some o → DyX n xlY g o ∧ FrW (WLy n) h o) {h : Hp} (k : DyX n xlY g h) (e : sX10_layFrom_154 F k_30 h (n + 22) x1 x2 x3 x5 x6 = some o) : DyX n xlY g o ∧ FrW (WLy n) h o := by
  unfold sX10_layFrom_154 at e
  obtain ⟨v_1, wv_1, e⟩ := nm_s e
  exact D_30 k e
theorem wy_X10_layFrom_148 {n : Nat} {g : Hp} {F : Nat} {o : Hp} {x1 : Int32} {x2 : Int32} {x3 : Int64} {x5 : Int32} {x6 : Int32} {x7 : Int32} {k_30 : Hp → Nat → Int32 → Int32 → Int64 → Int32 → Int32 → Option (Hp)} (D_30 : ∀ {h : Hp} {y2 : Int32} {y3 : Int32} {y4 : Int64} {y5 : Int32} {y6 : Int32}, DyX n xlY g h → k_30 h (n + 22) y2 y3 y4 y5 y6 = some o → DyX n xlY g o ∧ FrW (WLy n) h o) {k_70 : Hp → Nat → Int32 → Int32 → Int64 → Int32 → Int32 → Int32 → Option (Hp)} (D_70 : ∀ {h : Hp} {y2 : Int32} {y3 : Int32} {y4 : Int64} {y5 : Int32} {y6 : Int32} {y7 : Int32}, DyX n xlY g h → k_70 h (n + 22) y2 y3 y4 y5 y6 y7 = some o → DyX n xlY g o ∧ FrW (WLy n) h o) {h : Hp} (k : DyX n xlY g h) (e : sX10_layFrom_148 F k_30 k_70 h (n + 22) x1 x2 x3 x5 x6 x7 = some o) : DyX n xlY g o ∧ FrW (WLy n) h o := by
  unfold sX10_layFrom_148 at e
  obtain ⟨v_1, wv_1, e⟩ := nm_s e
  exact D_70 k e
theorem wy_X10_addWay_144 {n : Nat} {g : Hp} {F : Nat} {o : Hp} {h : Hp} (k : DyX n xlY g h) (e : sX10_addWay_144 F h = some o) : DyX n xlY g o ∧ FrW (WLy n) h o := by
  unfold sX10_addWay_144 at e
  rw [← Option.some.inj e]; exact ⟨k, fw_0⟩
theorem wy_X10_addWay_33 {n : Nat} {g : Hp} {F : Nat} {o : Hp} : ∀ (f : Nat) {h : Hp} {x1 : Int32} {x2 : Int32} {x3 : Int32} {x4 : Int32} {x5 : Int32} {x6 : Int64} {x8 : Int32} {x9 : Int32}, DyX n xlY g h → sX10_addWay_33 F f h (n + 22) x1 x2 x3 x4 x5 x6 x8 x9 = some o → DyX n xlY g o ∧ FrW (WLy n) h o := by
  intro f
  induction f with
  | zero => intro h x1 x2 x3 x4 x5 x6 x8 x9 _ e; exact absurd e (by rw [sX10_addWay_33]; exact fun z => nomatch z)
  | succ f ih =>
    intro h x1 x2 x3 x4 x5 x6 x8 x9 k e
    rw [sX10_addWay_33] at e
    rcases br_s e with ⟨_, e⟩ | ⟨_, e⟩
    · obtain ⟨r_2, er_2, e⟩ := cl_s e
      have yr_2 := dx_ed (a := 22) (b := 24) k (by decide +kernel) er_2
      subst yr_2
      replace e := (gd_s e).2
      obtain ⟨h_4, wh_4, e⟩ := nm_s e
      have kh_4 : DyX n xlY g h_4 := by rw [wh_4]; exact dx_wI k
      have fh_4 : FrW (WLy n) h h_4 := by rw [wh_4]; exact fw_wI fw_0 (by unfold WLy; omega)
      obtain ⟨r_5, er_5, e⟩ := cl_s e
      have yr_5 := dx_ed (a := 22) (b := 25) kh_4 (by decide +kernel) er_5
      subst yr_5
      replace e := (gd_s e).2
      obtain ⟨h_7, wh_7, e⟩ := nm_s e
      have kh_7 : DyX n xlY g h_7 := by rw [wh_7]; exact dx_wJ kh_4
      have fh_7 : FrW (WLy n) h h_7 := by rw [wh_7]; exact fw_wJ fh_4 (by unfold WLy; omega)
      obtain ⟨h_8, wh_8, e⟩ := nm_s e
      have kh_8 : DyX n xlY g h_8 := by rw [wh_8]; exact dx_wI kh_7
      have fh_8 : FrW (WLy n) h h_8 := by rw [wh_8]; exact fw_wI fh_7 (by unfold WLy; omega)
      obtain ⟨r_9, er_9, e⟩ := cl_s e
      have yr_9 := dx_ed (a := 22) (b := 26) kh_8 (by decide +kernel) er_9
      subst yr_9
      replace e := (gd_s e).2
      replace e := (gd_s e).2
      obtain ⟨h_12, wh_12, e⟩ := nm_s e
      have kh_12 : DyX n xlY g h_12 := by rw [wh_12]; exact dx_wJ kh_8
      have fh_12 : FrW (WLy n) h h_12 := by rw [wh_12]; exact fw_wJ fh_8 (by unfold WLy; omega)
      rcases br_s e with ⟨_, e⟩ | ⟨_, e⟩
      · obtain ⟨r_14, er_14, e⟩ := cl_s e
        have yr_14 := dx_ed (a := 22) (b := 27) kh_12 (by decide +kernel) er_14
        subst yr_14
        replace e := (gd_s e).2
        replace e := (gd_s e).2
        obtain ⟨h_17, wh_17, e⟩ := nm_s e
        have kh_17 : DyX n xlY g h_17 := by rw [wh_17]; exact dx_wJ kh_12
        have fh_17 : FrW (WLy n) h h_17 := by rw [wh_17]; exact fw_wJ fh_12 (by unfold WLy; omega)
        exact ⟨(wy_X10_addWay_144 kh_17 e).1, fw_t fh_17 (wy_X10_addWay_144 kh_17 e).2⟩
      · exact ⟨(wy_X10_addWay_144 kh_12 e).1, fw_t fh_12 (wy_X10_addWay_144 kh_12 e).2⟩
    · obtain ⟨v_18, wv_18, e⟩ := nm_s e
      obtain ⟨v_19, wv_19, e⟩ := nm_s e
      exact ih k e
theorem wy_X10_addWay_28 {n : Nat} {g : Hp} {F : Nat} {o : Hp} {x1 : Int32} {x2 : Int32} {x3 : Int32} {x4 : Int32} {x5 : Int32} {x6 : Int64} {t0 : Int32} {h : Hp} (k : DyX n xlY g h) (e : sX10_addWay_28 F h (n + 22) x1 x2 x3 x4 x5 x6 t0 = some o) : DyX n xlY g o ∧ FrW (WLy n) h o := by
  unfold sX10_addWay_28 at e
  exact wy_X10_addWay_33 F k e
theorem wy_X10_addWay {n : Nat} {g : Hp} {F : Nat} {o : Hp} {x1 : Int32} {x2 : Int32} {x3 : Int32} {x4 : Int32} {x5 : Int32} {h : Hp} (k : DyX n xlY g h) (e : sX10_addWay F h (n + 22) x1 x2 x3 x4 x5 = some o) : DyX n xlY g o ∧ FrW (WLy n) h o := by
  unfold sX10_addWay at e
  rcases br_s e with ⟨_, e⟩ | ⟨_, e⟩
  · rcases br_s e with ⟨_, e⟩ | ⟨_, e⟩
    · exact wy_X10_addWay_28 k e
    · replace e := (gd_s e).2
      exact wy_X10_addWay_28 k e
  · rw [← Option.some.inj e]; exact ⟨k, fw_0⟩
theorem wy_X10_layFrom_70 {n : Nat} {g : Hp} {F : Nat} {o : Hp} {k_30 : Hp → Nat → Int32 → Int32 → Int64 → Int32 → Int32 → Option (Hp)} (D_30 : ∀ {h : Hp} {y2 : Int32} {y3 : Int32} {y4 : Int64} {y5 : Int32} {y6 : Int32}, DyX n xlY g h → k_30 h (n + 22) y2 y3 y4 y5 y6 = some o → DyX n xlY g o ∧ FrW (WLy n) h o) : ∀ (f : Nat) {h : Hp} {x1 : Int32} {x2 : Int32} {x3 : Int64} {x5 : Int32} {x6 : Int32} {x7 : Int32}, DyX n xlY g h → sX10_layFrom_70 F k_30 f h (n + 22) x1 x2 x3 x5 x6 x7 = some o → DyX n xlY g o ∧ FrW (WLy n) h o := by
  intro f
  induction f with
  | zero => intro h x1 x2 x3 x5 x6 x7 _ e; exact absurd e (by rw [sX10_layFrom_70]; exact fun z => nomatch z)
  | succ f ih =>
    intro h x1 x2 x3 x5 x6 x7 k e
    rw [sX10_layFrom_70] at e
    obtain ⟨r_1, er_1, e⟩ := cl_s e
    have yr_1 := dx_xd (a := 22) (b := 5) k (by decide) er_1
    subst yr_1
    obtain ⟨r_2, er_2, e⟩ := cl_s e
    have yr_2 := dx_ed (a := 5) (b := 8) k (by decide +kernel) er_2
    subst yr_2
    replace e := (gd_s e).2
    rcases br_s e with ⟨_, e⟩ | ⟨_, e⟩
    · exact wy_X10_layFrom_154 D_30 k e
    · obtain ⟨r_5, er_5, e⟩ := cl_s e
      have yr_5 := dx_ed (a := 22) (b := 29) k (by decide +kernel) er_5
      subst yr_5
      replace e := (gd_s e).2
      obtain ⟨v_7, wv_7, e⟩ := nm_s e
      rcases br_s e with ⟨_, e⟩ | ⟨_, e⟩
      · exact wy_X10_layFrom_148 D_30 (fun k e => ih k e) k e
      · obtain ⟨r_9, er_9, e⟩ := cl_s e
        have yr_9 := dx_xd (a := 22) (b := 5) k (by decide) er_9
        subst yr_9
        obtain ⟨r_10, er_10, e⟩ := cl_s e
        have yr_10 := dx_ed (a := 5) (b := 7) k (by decide +kernel) er_10
        subst yr_10
        replace e := (gd_s e).2
        obtain ⟨o_12, eo_12, e⟩ := cl_s e
        obtain ⟨ko_12, fo_12⟩ := wy_X10_addWay k eo_12
        obtain ⟨r_13, er_13, e⟩ := cl_s e
        have yr_13 := dx_ed (a := 22) (b := 29) ko_12 (by decide +kernel) er_13
        subst yr_13
        replace e := (gd_s e).2
        obtain ⟨h_15, wh_15, e⟩ := nm_s e
        have kh_15 : DyX n xlY g h_15 := by rw [wh_15]; exact dx_wI ko_12
        have fh_15 : FrW (WLy n) h h_15 := by rw [wh_15]; exact fw_wI fo_12 (by unfold WLy; omega)
        exact ⟨(wy_X10_layFrom_148 D_30 (fun k e => ih k e) kh_15 e).1, fw_t fh_15 (wy_X10_layFrom_148 D_30 (fun k e => ih k e) kh_15 e).2⟩
theorem wy_X10_layFrom_30 {n : Nat} {g : Hp} {F : Nat} {o : Hp} : ∀ (f : Nat) {h : Hp} {x1 : Int32} {x2 : Int32} {x3 : Int64} {x5 : Int32} {x6 : Int32}, DyX n xlY g h → sX10_layFrom_30 F f h (n + 22) x1 x2 x3 x5 x6 = some o → DyX n xlY g o ∧ FrW (WLy n) h o := by
  intro f
  induction f with
  | zero => intro h x1 x2 x3 x5 x6 _ e; exact absurd e (by rw [sX10_layFrom_30]; exact fun z => nomatch z)
  | succ f ih =>
    intro h x1 x2 x3 x5 x6 k e
    rw [sX10_layFrom_30] at e
    rcases br_s e with ⟨_, e⟩ | ⟨_, e⟩
    · rw [← Option.some.inj e]; exact ⟨k, fw_0⟩
    · obtain ⟨r_2, er_2, e⟩ := cl_s e
      have yr_2 := dx_ed (a := 22) (b := 23) k (by decide +kernel) er_2
      subst yr_2
      obtain ⟨o_3, eo_3, e⟩ := cl_s e
      obtain ⟨ko_3, fo_3⟩ := wy_X10_cell k eo_3
      replace e := (gd_s e).2
      obtain ⟨h_5, wh_5, e⟩ := nm_s e
      have kh_5 : DyX n xlY g h_5 := by rw [wh_5]; exact dx_wI ko_3
      have fh_5 : FrW (WLy n) h h_5 := by rw [wh_5]; exact fw_wI fo_3 (by unfold WLy; omega)
      rcases br_s e with ⟨_, e⟩ | ⟨_, e⟩
      · exact ⟨(wy_X10_layFrom_154 (fun k e => ih k e) kh_5 e).1, fw_t fh_5 (wy_X10_layFrom_154 (fun k e => ih k e) kh_5 e).2⟩
      · exact ⟨(wy_X10_layFrom_70 (fun k e => ih k e) F kh_5 e).1, fw_t fh_5 (wy_X10_layFrom_70 (fun k e => ih k e) F kh_5 e).2⟩
theorem wy_X10_layFrom_21 {n : Nat} {g : Hp} {F : Nat} {o : Hp} {x1 : Int32} {x2 : Int32} {t0 : Int64} {h : Hp} (k : DyX n xlY g h) (e : sX10_layFrom_21 F h (n + 22) x1 x2 t0 = some o) : DyX n xlY g o ∧ FrW (WLy n) h o := by
  unfold sX10_layFrom_21 at e
  obtain ⟨v_1, wv_1, e⟩ := nm_s e
  exact wy_X10_layFrom_30 F k e
theorem wy_X10_reach_155 {n : Nat} {g : Hp} {F : Nat} {o : Int64 × Hp} {x1 : Int32} {x2 : Int32} {x3 : Int32} {x4 : Int64} {x6 : Int32} {k_10 : Hp → Nat → Int32 → Int32 → Int32 → Int64 → Int32 → Option (Int64 × Hp)} (D_10 : ∀ {h : Hp} {y2 : Int32} {y3 : Int32} {y4 : Int32} {y5 : Int64} {y6 : Int32}, DyX n xlY g h → k_10 h (n + 22) y2 y3 y4 y5 y6 = some o → DyX n xlY g o.2 ∧ FrW (WLy n) h o.2) {h : Hp} (k : DyX n xlY g h) (e : sX10_reach_155 F k_10 h (n + 22) x1 x2 x3 x4 x6 = some o) : DyX n xlY g o.2 ∧ FrW (WLy n) h o.2 := by
  unfold sX10_reach_155 at e
  obtain ⟨v_1, wv_1, e⟩ := nm_s e
  exact D_10 k e
theorem wy_X10_ride_239 {n : Nat} {g : Hp} {F : Nat} {o : Int64 × Hp} {x11 : Int64} {h : Hp} (k : DyX n xlY g h) (e : sX10_ride_239 F h x11 = some o) : DyX n xlY g o.2 ∧ FrW (WLy n) h o.2 := by
  unfold sX10_ride_239 at e
  rw [← Option.some.inj e]; exact ⟨k, fw_0⟩
theorem wy_X10_ride_158 {n : Nat} {g : Hp} {F : Nat} {o : Int64 × Hp} : ∀ (f : Nat) {h : Hp} {x2 : Int32} {x3 : Int32} {x9 : Int32} {x10 : Int32} {x11 : Int64} {x13 : Int32} {x14 : Int32} {x15 : Int32}, DyX n xlY g h → sX10_ride_158 F f h (n + 22) x2 x3 x9 x10 x11 x13 x14 x15 = some o → DyX n xlY g o.2 ∧ FrW (WLy n) h o.2 := by
  intro f
  induction f with
  | zero => intro h x2 x3 x9 x10 x11 x13 x14 x15 _ e; exact absurd e (by rw [sX10_ride_158]; exact fun z => nomatch z)
  | succ f ih =>
    intro h x2 x3 x9 x10 x11 x13 x14 x15 k e
    rw [sX10_ride_158] at e
    rcases br_s e with ⟨_, e⟩ | ⟨_, e⟩
    · exact wy_X10_ride_239 k e
    · obtain ⟨o_2, eo_2, e⟩ := cl_s e
      obtain ⟨ko_2, fo_2⟩ := wy_X10_isOn k eo_2
      rcases br_s e with ⟨_, e⟩ | ⟨_, e⟩
      · exact ⟨(wy_X10_ride_239 ko_2 e).1, fw_t fo_2 (wy_X10_ride_239 ko_2 e).2⟩
      · obtain ⟨r_4, er_4, e⟩ := cl_s e
        have yr_4 := dx_xd (a := 22) (b := 5) ko_2 (by decide) er_4
        subst yr_4
        obtain ⟨v_5, wv_5, e⟩ := nm_s e
        obtain ⟨r_6, er_6, e⟩ := cl_s e
        have yr_6 := dx_ed (a := 22) (b := 29) ko_2 (by decide +kernel) er_6
        subst yr_6
        replace e := (gd_s e).2
        obtain ⟨h_8, wh_8, e⟩ := nm_s e
        have kh_8 : DyX n xlY g h_8 := by rw [wh_8]; exact dx_wI ko_2
        have fh_8 : FrW (WLy n) h h_8 := by rw [wh_8]; exact fw_wI fo_2 (by unfold WLy; omega)
        obtain ⟨v_9, wv_9, e⟩ := nm_s e
        obtain ⟨v_10, wv_10, e⟩ := nm_s e
        obtain ⟨v_11, wv_11, e⟩ := nm_s e
        obtain ⟨v_12, wv_12, e⟩ := nm_s e
        exact ⟨(ih kh_8 e).1, fw_t fh_8 (ih kh_8 e).2⟩
theorem wy_X10_ride_124 {n : Nat} {g : Hp} {F : Nat} {o : Int64 × Hp} {x1 : Int32} {x2 : Int32} {x3 : Int32} {x9 : Int32} {x10 : Int32} {h : Hp} (k : DyX n xlY g h) (e : sX10_ride_124 F h (n + 22) x1 x2 x3 x9 x10 = some o) : DyX n xlY g o.2 ∧ FrW (WLy n) h o.2 := by
  unfold sX10_ride_124 at e
  obtain ⟨r_1, er_1, e⟩ := cl_s e
  have yr_1 := dx_xd (a := 22) (b := 5) k (by decide) er_1
  subst yr_1
  obtain ⟨r_2, er_2, e⟩ := cl_s e
  have yr_2 := dx_ed (a := 5) (b := 11) k (by decide +kernel) er_2
  subst yr_2
  replace e := (gd_s e).2
  obtain ⟨v_4, wv_4, e⟩ := nm_s e
  obtain ⟨r_5, er_5, e⟩ := cl_s e
  have yr_5 := dx_xd (a := 22) (b := 5) k (by decide) er_5
  subst yr_5
  obtain ⟨r_6, er_6, e⟩ := cl_s e
  have yr_6 := dx_ed (a := 5) (b := 12) k (by decide +kernel) er_6
  subst yr_6
  replace e := (gd_s e).2
  obtain ⟨v_8, wv_8, e⟩ := nm_s e
  exact wy_X10_ride_158 F k e
theorem wy_X10_ride_119 {n : Nat} {g : Hp} {F : Nat} {o : Int64 × Hp} {x1 : Int32} {x2 : Int32} {x3 : Int32} {x9 : Int32} {x10 : Int32} {h : Hp} (k : DyX n xlY g h) (e : sX10_ride_119 F h (n + 22) x1 x2 x3 x9 x10 = some o) : DyX n xlY g o.2 ∧ FrW (WLy n) h o.2 := by
  unfold sX10_ride_119 at e
  obtain ⟨v_1, wv_1, e⟩ := nm_s e
  exact wy_X10_ride_124 k e
theorem wy_X10_ride_101 {n : Nat} {g : Hp} {F : Nat} {o : Int64 × Hp} {x1 : Int32} {x2 : Int32} {x3 : Int32} {x4 : Int32} {x5 : Int32} {x8 : Int32} {x9 : Int32} {x10 : Int32} {h : Hp} (k : DyX n xlY g h) (e : sX10_ride_101 F h (n + 22) x1 x2 x3 x4 x5 x8 x9 x10 = some o) : DyX n xlY g o.2 ∧ FrW (WLy n) h o.2 := by
  unfold sX10_ride_101 at e
  rcases br_s e with ⟨_, e⟩ | ⟨_, e⟩
  · rcases br_s e with ⟨_, e⟩ | ⟨_, e⟩
    · exact wy_X10_ride_124 k e
    · rcases br_s e with ⟨_, e⟩ | ⟨_, e⟩
      · exact wy_X10_ride_119 k e
      · exact wy_X10_ride_124 k e
  · exact wy_X10_ride_119 k e
theorem wy_X10_ride_87 {n : Nat} {g : Hp} {F : Nat} {o : Int64 × Hp} {x1 : Int32} {x2 : Int32} {x3 : Int32} {x4 : Int32} {x5 : Int32} {x8 : Int32} {x9 : Int32} {t0 : Int32} {h : Hp} (k : DyX n xlY g h) (e : sX10_ride_87 F h (n + 22) x1 x2 x3 x4 x5 x8 x9 t0 = some o) : DyX n xlY g o.2 ∧ FrW (WLy n) h o.2 := by
  unfold sX10_ride_87 at e
  rcases br_s e with ⟨_, e⟩ | ⟨_, e⟩
  · exact wy_X10_ride_101 k e
  · obtain ⟨v_2, wv_2, e⟩ := nm_s e
    exact wy_X10_ride_101 k e
theorem wy_X10_ride_61 {n : Nat} {g : Hp} {F : Nat} {o : Int64 × Hp} {x1 : Int32} {x2 : Int32} {x3 : Int32} {x4 : Int32} {x5 : Int32} {x6 : Int32} {x7 : Int32} {x8 : Int32} {t0 : Int32} {h : Hp} (k : DyX n xlY g h) (e : sX10_ride_61 F h (n + 22) x1 x2 x3 x4 x5 x6 x7 x8 t0 = some o) : DyX n xlY g o.2 ∧ FrW (WLy n) h o.2 := by
  unfold sX10_ride_61 at e
  rcases br_s e with ⟨_, e⟩ | ⟨_, e⟩
  · rcases br_s e with ⟨_, e⟩ | ⟨_, e⟩
    · exact wy_X10_ride_87 k e
    · exact wy_X10_ride_87 k e
  · exact wy_X10_ride_87 k e
theorem wy_X10_ride_35 {n : Nat} {g : Hp} {F : Nat} {o : Int64 × Hp} {x1 : Int32} {x2 : Int32} {x3 : Int32} {x4 : Int32} {x5 : Int32} {x6 : Int32} {x7 : Int32} {t0 : Int32} {h : Hp} (k : DyX n xlY g h) (e : sX10_ride_35 F h (n + 22) x1 x2 x3 x4 x5 x6 x7 t0 = some o) : DyX n xlY g o.2 ∧ FrW (WLy n) h o.2 := by
  unfold sX10_ride_35 at e
  rcases br_s e with ⟨_, e⟩ | ⟨_, e⟩
  · rcases br_s e with ⟨_, e⟩ | ⟨_, e⟩
    · exact wy_X10_ride_61 k e
    · exact wy_X10_ride_61 k e
  · exact wy_X10_ride_61 k e
theorem wy_X10_ride {n : Nat} {g : Hp} {F : Nat} {o : Int64 × Hp} {x1 : Int32} {x2 : Int32} {x3 : Int32} {x4 : Int32} {x5 : Int32} {h : Hp} (k : DyX n xlY g h) (e : sX10_ride F h (n + 22) x1 x2 x3 x4 x5 = some o) : DyX n xlY g o.2 ∧ FrW (WLy n) h o.2 := by
  unfold sX10_ride at e
  obtain ⟨v_1, wv_1, e⟩ := nm_s e
  obtain ⟨v_2, wv_2, e⟩ := nm_s e
  rcases br_s e with ⟨_, e⟩ | ⟨_, e⟩
  · exact wy_X10_ride_35 k e
  · exact wy_X10_ride_35 k e
theorem wy_X10_reach_123 {n : Nat} {g : Hp} {F : Nat} {o : Int64 × Hp} {k_10 : Hp → Nat → Int32 → Int32 → Int32 → Int64 → Int32 → Option (Int64 × Hp)} (D_10 : ∀ {h : Hp} {y2 : Int32} {y3 : Int32} {y4 : Int32} {y5 : Int64} {y6 : Int32}, DyX n xlY g h → k_10 h (n + 22) y2 y3 y4 y5 y6 = some o → DyX n xlY g o.2 ∧ FrW (WLy n) h o.2) : ∀ (f : Nat) {h : Hp} {x1 : Int32} {x2 : Int32} {x3 : Int32} {x4 : Int64} {x6 : Int32} {x7 : Int32} {x10 : Int32} {x11 : Int32}, DyX n xlY g h → sX10_reach_123 F k_10 f h (n + 22) x1 x2 x3 x4 x6 x7 x10 x11 = some o → DyX n xlY g o.2 ∧ FrW (WLy n) h o.2 := by
  intro f
  induction f with
  | zero => intro h x1 x2 x3 x4 x6 x7 x10 x11 _ e; exact absurd e (by rw [sX10_reach_123]; exact fun z => nomatch z)
  | succ f ih =>
    intro h x1 x2 x3 x4 x6 x7 x10 x11 k e
    rw [sX10_reach_123] at e
    rcases br_s e with ⟨_, e⟩ | ⟨_, e⟩
    · exact wy_X10_reach_155 D_10 k e
    · obtain ⟨o_2, eo_2, e⟩ := cl_s e
      obtain ⟨ko_2, fo_2⟩ := wy_X10_ride k eo_2
      obtain ⟨v_3, wv_3, e⟩ := nm_s e
      obtain ⟨v_4, wv_4, e⟩ := nm_s e
      exact ⟨(ih ko_2 e).1, fw_t fo_2 (ih ko_2 e).2⟩
theorem wy_X10_reach_118 {n : Nat} {g : Hp} {F : Nat} {o : Int64 × Hp} {x1 : Int32} {x2 : Int32} {x3 : Int32} {x4 : Int64} {x6 : Int32} {x7 : Int32} {t0 : Int32} {k_10 : Hp → Nat → Int32 → Int32 → Int32 → Int64 → Int32 → Option (Int64 × Hp)} (D_10 : ∀ {h : Hp} {y2 : Int32} {y3 : Int32} {y4 : Int32} {y5 : Int64} {y6 : Int32}, DyX n xlY g h → k_10 h (n + 22) y2 y3 y4 y5 y6 = some o → DyX n xlY g o.2 ∧ FrW (WLy n) h o.2) {h : Hp} (k : DyX n xlY g h) (e : sX10_reach_118 F k_10 h (n + 22) x1 x2 x3 x4 x6 x7 t0 = some o) : DyX n xlY g o.2 ∧ FrW (WLy n) h o.2 := by
  unfold sX10_reach_118 at e
  exact wy_X10_reach_123 D_10 F k e
theorem wy_X10_reach_105 {n : Nat} {g : Hp} {F : Nat} {o : Int64 × Hp} {x1 : Int32} {x2 : Int32} {x3 : Int32} {x4 : Int64} {x6 : Int32} {x7 : Int32} {k_10 : Hp → Nat → Int32 → Int32 → Int32 → Int64 → Int32 → Option (Int64 × Hp)} (D_10 : ∀ {h : Hp} {y2 : Int32} {y3 : Int32} {y4 : Int32} {y5 : Int64} {y6 : Int32}, DyX n xlY g h → k_10 h (n + 22) y2 y3 y4 y5 y6 = some o → DyX n xlY g o.2 ∧ FrW (WLy n) h o.2) {h : Hp} (k : DyX n xlY g h) (e : sX10_reach_105 F k_10 h (n + 22) x1 x2 x3 x4 x6 x7 = some o) : DyX n xlY g o.2 ∧ FrW (WLy n) h o.2 := by
  unfold sX10_reach_105 at e
  rcases br_s e with ⟨_, e⟩ | ⟨_, e⟩
  · exact wy_X10_reach_118 D_10 k e
  · exact wy_X10_reach_118 D_10 k e
theorem wy_X10_reach_88 {n : Nat} {g : Hp} {F : Nat} {o : Int64 × Hp} {x1 : Int32} {x2 : Int32} {x3 : Int32} {x4 : Int64} {x6 : Int32} {x7 : Int32} {x8 : Int32} {t0 : Int32} {k_10 : Hp → Nat → Int32 → Int32 → Int32 → Int64 → Int32 → Option (Int64 × Hp)} (D_10 : ∀ {h : Hp} {y2 : Int32} {y3 : Int32} {y4 : Int32} {y5 : Int64} {y6 : Int32}, DyX n xlY g h → k_10 h (n + 22) y2 y3 y4 y5 y6 = some o → DyX n xlY g o.2 ∧ FrW (WLy n) h o.2) {h : Hp} (k : DyX n xlY g h) (e : sX10_reach_88 F k_10 h (n + 22) x1 x2 x3 x4 x6 x7 x8 t0 = some o) : DyX n xlY g o.2 ∧ FrW (WLy n) h o.2 := by
  unfold sX10_reach_88 at e
  rcases br_s e with ⟨_, e⟩ | ⟨_, e⟩
  · exact wy_X10_reach_105 D_10 k e
  · rcases br_s e with ⟨_, e⟩ | ⟨_, e⟩
    · exact wy_X10_reach_105 D_10 k e
    · exact wy_X10_reach_155 D_10 k e
theorem wy_X10_reach_10 {n : Nat} {g : Hp} {F : Nat} {o : Int64 × Hp} : ∀ (f : Nat) {h : Hp} {x1 : Int32} {x2 : Int32} {x3 : Int32} {x4 : Int64} {x6 : Int32}, DyX n xlY g h → sX10_reach_10 F f h (n + 22) x1 x2 x3 x4 x6 = some o → DyX n xlY g o.2 ∧ FrW (WLy n) h o.2 := by
  intro f
  induction f with
  | zero => intro h x1 x2 x3 x4 x6 _ e; exact absurd e (by rw [sX10_reach_10]; exact fun z => nomatch z)
  | succ f ih =>
    intro h x1 x2 x3 x4 x6 k e
    rw [sX10_reach_10] at e
    obtain ⟨r_1, er_1, e⟩ := cl_s e
    have yr_1 := dx_xd (a := 22) (b := 5) k (by decide) er_1
    subst yr_1
    obtain ⟨r_2, er_2, e⟩ := cl_s e
    have yr_2 := dx_ed (a := 5) (b := 8) k (by decide +kernel) er_2
    subst yr_2
    replace e := (gd_s e).2
    rcases br_s e with ⟨_, e⟩ | ⟨_, e⟩
    · rw [← Option.some.inj e]; exact ⟨k, fw_0⟩
    · obtain ⟨r_5, er_5, e⟩ := cl_s e
      have yr_5 := dx_xd (a := 22) (b := 5) k (by decide) er_5
      subst yr_5
      obtain ⟨r_6, er_6, e⟩ := cl_s e
      have yr_6 := dx_ed (a := 5) (b := 7) k (by decide +kernel) er_6
      subst yr_6
      replace e := (gd_s e).2
      obtain ⟨v_8, wv_8, e⟩ := nm_s e
      obtain ⟨v_9, wv_9, e⟩ := nm_s e
      rcases br_s e with ⟨_, e⟩ | ⟨_, e⟩
      · obtain ⟨r_15, er_15, e⟩ := cl_s e
        have yr_15 := dx_xd (a := 22) (b := 5) k (by decide) er_15
        subst yr_15
        obtain ⟨r_16, er_16, e⟩ := cl_s e
        have yr_16 := dx_ed (a := 5) (b := 12) k (by decide +kernel) er_16
        subst yr_16
        replace e := (gd_s e).2
        exact wy_X10_reach_88 (fun k e => ih k e) k e
      · obtain ⟨r_11, er_11, e⟩ := cl_s e
        have yr_11 := dx_xd (a := 22) (b := 5) k (by decide) er_11
        subst yr_11
        obtain ⟨r_12, er_12, e⟩ := cl_s e
        have yr_12 := dx_xd (a := 22) (b := 5) k (by decide) er_12
        subst yr_12
        obtain ⟨r_13, er_13, e⟩ := cl_s e
        have yr_13 := dx_ed (a := 5) (b := 12) k (by decide +kernel) er_13
        subst yr_13
        replace e := (gd_s e).2
        exact wy_X10_reach_88 (fun k e => ih k e) k e
theorem wy_X10_reach {n : Nat} {g : Hp} {F : Nat} {o : Int64 × Hp} {x1 : Int32} {x2 : Int32} {h : Hp} (k : DyX n xlY g h) (e : sX10_reach F h (n + 22) x1 x2 = some o) : DyX n xlY g o.2 ∧ FrW (WLy n) h o.2 := by
  unfold sX10_reach at e
  obtain ⟨v_1, wv_1, e⟩ := nm_s e
  exact wy_X10_reach_10 F k e
theorem wy_X10_layFrom {n : Nat} {g : Hp} {F : Nat} {o : Hp} {x1 : Int32} {x2 : Int32} {h : Hp} (k : DyX n xlY g h) (e : sX10_layFrom F h (n + 22) x1 x2 = some o) : DyX n xlY g o ∧ FrW (WLy n) h o := by
  unfold sX10_layFrom at e
  obtain ⟨r_1, er_1, e⟩ := cl_s e
  have yr_1 := dx_xd (a := 22) (b := 5) k (by decide) er_1
  subst yr_1
  rcases br_s e with ⟨_, e⟩ | ⟨_, e⟩
  · exact wy_X10_layFrom_21 k e
  · obtain ⟨o_3, eo_3, e⟩ := cl_s e
    obtain ⟨ko_3, fo_3⟩ := wy_X10_reach k eo_3
    exact ⟨(wy_X10_layFrom_21 ko_3 e).1, fw_t fo_3 (wy_X10_layFrom_21 ko_3 e).2⟩
theorem wy_X10_lay_43 {n : Nat} {g : Hp} {F : Nat} {o : Hp} {k_28 : Hp → Nat → Int32 → Option (Hp)} (D_28 : ∀ {h : Hp} {y2 : Int32}, DyX n xlY g h → k_28 h (n + 22) y2 = some o → DyX n xlY g o ∧ FrW (WLy n) h o) : ∀ (f : Nat) {h : Hp} {x2 : Int32} {x3 : Int32}, DyX n xlY g h → sX10_lay_43 F k_28 f h (n + 22) x2 x3 = some o → DyX n xlY g o ∧ FrW (WLy n) h o := by
  intro f
  induction f with
  | zero => intro h x2 x3 _ e; exact absurd e (by rw [sX10_lay_43]; exact fun z => nomatch z)
  | succ f ih =>
    intro h x2 x3 k e
    rw [sX10_lay_43] at e
    rcases br_s e with ⟨_, e⟩ | ⟨_, e⟩
    · obtain ⟨v_2, wv_2, e⟩ := nm_s e
      exact D_28 k e
    · obtain ⟨o_3, eo_3, e⟩ := cl_s e
      obtain ⟨ko_3, fo_3⟩ := wy_X10_layFrom k eo_3
      obtain ⟨v_4, wv_4, e⟩ := nm_s e
      exact ⟨(ih ko_3 e).1, fw_t fo_3 (ih ko_3 e).2⟩
theorem wy_X10_lay_28 {n : Nat} {g : Hp} {F : Nat} {o : Hp} : ∀ (f : Nat) {h : Hp} {x2 : Int32}, DyX n xlY g h → sX10_lay_28 F f h (n + 22) x2 = some o → DyX n xlY g o ∧ FrW (WLy n) h o := by
  intro f
  induction f with
  | zero => intro h x2 _ e; exact absurd e (by rw [sX10_lay_28]; exact fun z => nomatch z)
  | succ f ih =>
    intro h x2 k e
    rw [sX10_lay_28] at e
    obtain ⟨r_1, er_1, e⟩ := cl_s e
    have yr_1 := dx_xd (a := 22) (b := 5) k (by decide) er_1
    subst yr_1
    rcases br_s e with ⟨_, e⟩ | ⟨_, e⟩
    · obtain ⟨r_3, er_3, e⟩ := cl_s e
      have yr_3 := dx_ed (a := 22) (b := 23) k (by decide +kernel) er_3
      subst yr_3
      obtain ⟨r_4, er_4, e⟩ := cl_s e
      have yr_4 := dx_xd (a := 22) (b := 5) k (by decide) er_4
      subst yr_4
      replace e := (gd_s e).2
      obtain ⟨h_6, wh_6, e⟩ := nm_s e
      have kh_6 : DyX n xlY g h_6 := by rw [wh_6]; exact dx_wI k
      have fh_6 : FrW (WLy n) h h_6 := by rw [wh_6]; exact fw_wI fw_0 (by unfold WLy; omega)
      obtain ⟨o_7, eo_7, e⟩ := cl_s e
      obtain ⟨ko_7, fo_7⟩ := wy_X10_layAround kh_6 eo_7
      replace fo_7 := fw_t fh_6 fo_7
      rw [← Option.some.inj e]; exact ⟨ko_7, fo_7⟩
    · exact wy_X10_lay_43 (fun k e => ih k e) F k e
theorem wy_J7_fill_d0a16_6 {n : Nat} {g : Hp} {F : Nat} {o : Hp} : ∀ (f : Nat) {h : Hp} {x0 : Nat} {x1 : Int64} {x3 : Int32} {x4 : Int32}, (∀ i, WLy n x0 i) → DyX n xlY g h → sJ7_fill_d0a16_6 F f h x0 x1 x3 x4 = some o → DyX n xlY g o ∧ FrW (WLy n) h o := by
  intro f
  induction f with
  | zero => intro h x0 x1 x3 x4 _ _ e; exact absurd e (by rw [sJ7_fill_d0a16_6]; exact fun z => nomatch z)
  | succ f ih =>
    intro h x0 x1 x3 x4 w_x0 k e
    rw [sJ7_fill_d0a16_6] at e
    rcases br_s e with ⟨_, e⟩ | ⟨_, e⟩
    · rw [← Option.some.inj e]; exact ⟨k, fw_0⟩
    · replace e := (gd_s e).2
      obtain ⟨h_3, wh_3, e⟩ := nm_s e
      have kh_3 : DyX n xlY g h_3 := by rw [wh_3]; exact dx_wJ k
      have fh_3 : FrW (WLy n) h h_3 := by rw [wh_3]; exact fw_wJ fw_0 (w_x0 _)
      obtain ⟨v_4, wv_4, e⟩ := nm_s e
      exact ⟨(ih w_x0 kh_3 e).1, fw_t fh_3 (ih w_x0 kh_3 e).2⟩
theorem wy_J7_fill_d0a16 {n : Nat} {g : Hp} {F : Nat} {o : Hp} {x0 : Nat} {x1 : Int64} {h : Hp} (w_x0 : ∀ i, WLy n x0 i) (k : DyX n xlY g h) (e : sJ7_fill_d0a16 F h x0 x1 = some o) : DyX n xlY g o ∧ FrW (WLy n) h o := by
  unfold sJ7_fill_d0a16 at e
  obtain ⟨v_1, wv_1, e⟩ := nm_s e
  exact wy_J7_fill_d0a16_6 F w_x0 k e
end
section
/-! what sX11_forgetAll;x0=S:0 writes: printed by wfx.py -/
theorem wt_J7_fill_53178_5 {n : Nat} {g : Hp} {F : Nat} {o : Hp} : ∀ (f : Nat) {h : Hp} {x1 : Int32} {x2 : Int32} {x3 : Int32}, DyX n xlO g h → sJ7_fill_53178_5 F f h (n + 152) x1 x2 x3 = some o → DyX n xlO g o ∧ FrW (WFg n) h o := by
  intro f
  induction f with
  | zero => intro h x1 x2 x3 _ e; exact absurd e (by rw [sJ7_fill_53178_5]; exact fun z => nomatch z)
  | succ f ih =>
    intro h x1 x2 x3 k e
    rw [sJ7_fill_53178_5] at e
    rcases br_s e with ⟨_, e⟩ | ⟨_, e⟩
    · rw [← Option.some.inj e]; exact ⟨k, fw_0⟩
    · replace e := (gd_s e).2
      obtain ⟨h_3, wh_3, e⟩ := nm_s e
      have kh_3 : DyX n xlO g h_3 := by rw [wh_3]; exact dx_wI k
      have fh_3 : FrW (WFg n) h h_3 := by rw [wh_3]; exact fw_wI fw_0 (by unfold WFg; omega)
      obtain ⟨v_4, wv_4, e⟩ := nm_s e
      exact ⟨(ih kh_3 e).1, fw_t fh_3 (ih kh_3 e).2⟩
theorem wt_J7_fill_53178 {n : Nat} {g : Hp} {F : Nat} {o : Hp} {x1 : Int32} {h : Hp} (k : DyX n xlO g h) (e : sJ7_fill_53178 F h (n + 152) x1 = some o) : DyX n xlO g o ∧ FrW (WFg n) h o := by
  unfold sJ7_fill_53178 at e
  obtain ⟨v_1, wv_1, e⟩ := nm_s e
  exact wt_J7_fill_53178_5 F k e
theorem wt_X4_forget_23 {n : Nat} {g : Hp} {o : Hp} {h : Hp} (k : DyX n xlO g h) (e : sX4_forget_23 h = some o) : DyX n xlO g o ∧ FrW (WFg n) h o := by
  unfold sX4_forget_23 at e
  rw [← Option.some.inj e]; exact ⟨k, fw_0⟩
theorem wt_X4_forget {n : Nat} {g : Hp} {o : Hp} {x1 : Int32} {h : Hp} (k : DyX n xlO g h) (e : sX4_forget h (n + 76) x1 = some o) : DyX n xlO g o ∧ FrW (WFg n) h o := by
  unfold sX4_forget at e
  rcases br_s e with ⟨_, e⟩ | ⟨_, e⟩
  · obtain ⟨h_2, wh_2, e⟩ := nm_s e
    have kh_2 : DyX n xlO g h_2 := by rw [wh_2]; exact dx_wI k
    have fh_2 : FrW (WFg n) h h_2 := by rw [wh_2]; exact fw_wI fw_0 (by unfold WFg; omega)
    obtain ⟨h_3, wh_3, e⟩ := nm_s e
    have kh_3 : DyX n xlO g h_3 := by rw [wh_3]; exact dx_wI kh_2
    have fh_3 : FrW (WFg n) h h_3 := by rw [wh_3]; exact fw_wI fh_2 (by unfold WFg; omega)
    obtain ⟨h_4, wh_4, e⟩ := nm_s e
    have kh_4 : DyX n xlO g h_4 := by rw [wh_4]; exact dx_wI kh_3
    have fh_4 : FrW (WFg n) h h_4 := by rw [wh_4]; exact fw_wI fh_3 (by unfold WFg; omega)
    exact ⟨(wt_X4_forget_23 kh_4 e).1, fw_t fh_4 (wt_X4_forget_23 kh_4 e).2⟩
  · exact wt_X4_forget_23 k e
theorem wt_X11_forgetAll_10 {n : Nat} {g : Hp} {F : Nat} {o : Hp} : ∀ (f : Nat) {h : Hp} {x1 : Int32}, DyX n xlO g h → sX11_forgetAll_10 F f h n x1 = some o → DyX n xlO g o ∧ FrW (WFg n) h o := by
  intro f
  induction f with
  | zero => intro h x1 _ e; exact absurd e (by rw [sX11_forgetAll_10]; exact fun z => nomatch z)
  | succ f ih =>
    intro h x1 k e
    rw [sX11_forgetAll_10] at e
    rcases br_s e with ⟨_, e⟩ | ⟨_, e⟩
    · obtain ⟨r_2, er_2, e⟩ := cl_s e
      have yr_2 := dx_ed (a := 0) (b := 48) k (by decide +kernel) er_2
      subst yr_2
      obtain ⟨h_3, wh_3, e⟩ := nm_s e
      have kh_3 : DyX n xlO g h_3 := by rw [wh_3]; exact dx_wI k
      have fh_3 : FrW (WFg n) h h_3 := by rw [wh_3]; exact fw_wI fw_0 (by unfold WFg; omega)
      obtain ⟨r_4, er_4, e⟩ := cl_s e
      have yr_4 := dx_ed (a := 0) (b := 62) kh_3 (by decide +kernel) er_4
      subst yr_4
      obtain ⟨h_5, wh_5, e⟩ := nm_s e
      have kh_5 : DyX n xlO g h_5 := by rw [wh_5]; exact dx_wI kh_3
      have fh_5 : FrW (WFg n) h h_5 := by rw [wh_5]; exact fw_wI fh_3 (by unfold WFg; omega)
      rw [← Option.some.inj e]; exact ⟨kh_5, fh_5⟩
    · obtain ⟨r_6, er_6, e⟩ := cl_s e
      have yr_6 := dx_ed (a := 0) (b := 149) k (by decide +kernel) er_6
      subst yr_6
      replace e := (gd_s e).2
      obtain ⟨h_8, wh_8, e⟩ := nm_s e
      have kh_8 : DyX n xlO g h_8 := by rw [wh_8]; exact dx_wI k
      have fh_8 : FrW (WFg n) h h_8 := by rw [wh_8]; exact fw_wI fw_0 (by unfold WFg; omega)
      obtain ⟨r_9, er_9, e⟩ := cl_s e
      have yr_9 := dx_ed (a := 0) (b := 76) kh_8 (by decide +kernel) er_9
      subst yr_9
      obtain ⟨o_10, eo_10, e⟩ := cl_s e
      obtain ⟨ko_10, fo_10⟩ := wt_X4_forget kh_8 eo_10
      replace fo_10 := fw_t fh_8 fo_10
      obtain ⟨v_11, wv_11, e⟩ := nm_s e
      exact ⟨(ih ko_10 e).1, fw_t fo_10 (ih ko_10 e).2⟩
theorem wt_X11_forgetAll {n : Nat} {g : Hp} {F : Nat} {o : Hp} {h : Hp} (k : DyX n xlO g h) (e : sX11_forgetAll F h n = some o) : DyX n xlO g o ∧ FrW (WFg n) h o := by
  unfold sX11_forgetAll at e
  obtain ⟨r_1, er_1, e⟩ := cl_s e
  have yr_1 := dx_ed (a := 0) (b := 152) k (by decide +kernel) er_1
  subst yr_1
  obtain ⟨o_2, eo_2, e⟩ := cl_s e
  obtain ⟨ko_2, fo_2⟩ := wt_J7_fill_53178 k eo_2
  exact ⟨(wt_X11_forgetAll_10 F ko_2 e).1, fw_t fo_2 (wt_X11_forgetAll_10 F ko_2 e).2⟩
end
