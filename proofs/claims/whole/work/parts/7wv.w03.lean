section
/-! ENDINGS, the reference: what adding SETS writes -/
def WAd (n a i : Nat) : Prop := (a = n + 513 ∧ (i = 49 ∨ i = 59)) ∨ (n + 592 ≤ a ∧ a ≤ n + 594) ∨ (n + 598 ≤ a ∧ a ≤ n + 600)
theorem wa_X15_manOf {n : Nat} {g : Hp} {o : Int32 × Hp} {x0 : Int32} {h : Hp} (k : DyK n g h) (e : sX15_manOf h x0 = some o) : DyK n g o.2 ∧ FrW (WAd n) h o.2 := by
  unfold sX15_manOf at e
  rw [← Option.some.inj e]; exact ⟨k, fw_0⟩
theorem wa_X15_sideOf {n : Nat} {g : Hp} {o : Int32 × Hp} {x0 : Int32} {h : Hp} (k : DyK n g h) (e : sX15_sideOf h x0 = some o) : DyK n g o.2 ∧ FrW (WAd n) h o.2 := by
  unfold sX15_sideOf at e
  rw [← Option.some.inj e]; exact ⟨k, fw_0⟩
theorem wa_X15_valueOf {n : Nat} {g : Hp} {o : Int32 × Hp} {x0 : Int32} {x1 : Int32} {h : Hp} (k : DyK n g h) (e : sX15_valueOf h x0 x1 = some o) : DyK n g o.2 ∧ FrW (WAd n) h o.2 := by
  unfold sX15_valueOf at e
  rw [← Option.some.inj e]; exact ⟨k, fw_0⟩
theorem wa_X15_packed_4 {n : Nat} {g : Hp} {F : Nat} {o : Int32 × Hp} : ∀ (f : Nat) {h : Hp} {x1 : Int32} {x2 : Int32} {x3 : Int32}, DyK n g h → sX15_packed_4 F f h (n + 600) x1 x2 x3 = some o → DyK n g o.2 ∧ FrW (WAd n) h o.2 := by
  intro f
  induction f with
  | zero => intro h x1 x2 x3 _ e; exact absurd e (by rw [sX15_packed_4]; exact fun z => nomatch z)
  | succ f ih =>
    intro h x1 x2 x3 k e
    rw [sX15_packed_4] at e
    rcases br_s e with ⟨_, e⟩ | ⟨_, e⟩
    · rw [← Option.some.inj e]; exact ⟨k, fw_0⟩
    · replace e := (gd_s e).2
      obtain ⟨v_3, wv_3, e⟩ := nm_s e
      obtain ⟨v_4, wv_4, e⟩ := nm_s e
      exact ih k e
theorem wa_X15_packed {n : Nat} {g : Hp} {F : Nat} {o : Int32 × Hp} {x1 : Int32} {h : Hp} (k : DyK n g h) (e : sX15_packed F h (n + 600) x1 = some o) : DyK n g o.2 ∧ FrW (WAd n) h o.2 := by
  unfold sX15_packed at e
  exact wa_X15_packed_4 F k e
theorem wa_X15_slotOf_44 {n : Nat} {g : Hp} {F : Nat} {o : Int32 × Hp} {x2 : Int32} {h : Hp} (k : DyK n g h) (e : sX15_slotOf_44 F h x2 = some o) : DyK n g o.2 ∧ FrW (WAd n) h o.2 := by
  unfold sX15_slotOf_44 at e
  rw [← Option.some.inj e]; exact ⟨k, fw_0⟩
theorem wa_X15_slotOf_14 {n : Nat} {g : Hp} {F : Nat} {o : Int32 × Hp} : ∀ (f : Nat) {h : Hp} {x1 : Int32} {x2 : Int32}, DyK n g h → sX15_slotOf_14 F f h (n + 513) x1 x2 = some o → DyK n g o.2 ∧ FrW (WAd n) h o.2 := by
  intro f
  induction f with
  | zero => intro h x1 x2 _ e; exact absurd e (by rw [sX15_slotOf_14]; exact fun z => nomatch z)
  | succ f ih =>
    intro h x1 x2 k e
    rw [sX15_slotOf_14] at e
    obtain ⟨r_1, er_1, e⟩ := cl_s e
    have yr_1 := dk_ed (a := 513) (b := 599) k (by decide +kernel) er_1
    subst yr_1
    replace e := (gd_s e).2
    rcases br_s e with ⟨_, e⟩ | ⟨_, e⟩
    · exact wa_X15_slotOf_44 k e
    · obtain ⟨r_4, er_4, e⟩ := cl_s e
      have yr_4 := dk_ed (a := 513) (b := 598) k (by decide +kernel) er_4
      subst yr_4
      replace e := (gd_s e).2
      rcases br_s e with ⟨_, e⟩ | ⟨_, e⟩
      · exact wa_X15_slotOf_44 k e
      · obtain ⟨v_7, wv_7, e⟩ := nm_s e
        exact ih k e
theorem wa_X15_slotOf {n : Nat} {g : Hp} {F : Nat} {o : Int32 × Hp} {x1 : Int32} {h : Hp} (k : DyK n g h) (e : sX15_slotOf F h (n + 513) x1 = some o) : DyK n g o.2 ∧ FrW (WAd n) h o.2 := by
  unfold sX15_slotOf at e
  obtain ⟨v_1, wv_1, e⟩ := nm_s e
  exact wa_X15_slotOf_14 F k e
theorem wa_X15_findSet {n : Nat} {g : Hp} {F : Nat} {o : Int32 × Hp} {x2 : Int32} {h : Hp} (k : DyK n g h) (e : sX15_findSet F h (n + 513) (n + 600) x2 = some o) : DyK n g o.2 ∧ FrW (WAd n) h o.2 := by
  unfold sX15_findSet at e
  obtain ⟨r_1, er_1, e⟩ := cl_s e
  have yr_1 := dk_ed (a := 513) (b := 599) k (by decide +kernel) er_1
  subst yr_1
  obtain ⟨o_2, eo_2, e⟩ := cl_s e
  obtain ⟨ko_2, fo_2⟩ := wa_X15_packed k eo_2
  obtain ⟨o_3, eo_3, e⟩ := cl_s e
  obtain ⟨ko_3, fo_3⟩ := wa_X15_slotOf ko_2 eo_3
  replace fo_3 := fw_t fo_2 fo_3
  replace e := (gd_s e).2
  rw [← Option.some.inj e]; exact ⟨ko_3, fo_3⟩
theorem wa_X15_addSet_136 {n : Nat} {g : Hp} {F : Nat} {o : Int32 × Hp} {h : Hp} (k : DyK n g h) (e : sX15_addSet_136 F h = some o) : DyK n g o.2 ∧ FrW (WAd n) h o.2 := by
  unfold sX15_addSet_136 at e
  rw [← Option.some.inj e]; exact ⟨k, fw_0⟩
theorem wa_X15_addSet_165 {n : Nat} {g : Hp} {F : Nat} {o : Int32 × Hp} : ∀ (f : Nat) {h : Hp} {x1 : Int32} {x2 : Int64} {x4 : Int32}, DyK n g h → sX15_addSet_165 F f h (n + 513) x1 x2 x4 = some o → DyK n g o.2 ∧ FrW (WAd n) h o.2 := by
  intro f
  induction f with
  | zero => intro h x1 x2 x4 _ e; exact absurd e (by rw [sX15_addSet_165]; exact fun z => nomatch z)
  | succ f ih =>
    intro h x1 x2 x4 k e
    rw [sX15_addSet_165] at e
    rcases br_s e with ⟨_, e⟩ | ⟨_, e⟩
    · obtain ⟨h_2, wh_2, e⟩ := nm_s e
      have kh_2 : DyK n g h_2 := by rw [wh_2]; exact dk_wJ k
      have fh_2 : FrW (WAd n) h h_2 := by rw [wh_2]; exact fw_wJ fw_0 (by unfold WAd; omega)
      obtain ⟨h_3, wh_3, e⟩ := nm_s e
      have kh_3 : DyK n g h_3 := by rw [wh_3]; exact dk_wI kh_2
      have fh_3 : FrW (WAd n) h h_3 := by rw [wh_3]; exact fw_wI fh_2 (by unfold WAd; omega)
      obtain ⟨r_4, er_4, e⟩ := cl_s e
      have yr_4 := dk_ed (a := 513) (b := 600) kh_3 (by decide +kernel) er_4
      subst yr_4
      obtain ⟨o_5, eo_5, e⟩ := cl_s e
      obtain ⟨ko_5, fo_5⟩ := wa_X15_packed kh_3 eo_5
      replace fo_5 := fw_t fh_3 fo_5
      obtain ⟨o_6, eo_6, e⟩ := cl_s e
      obtain ⟨ko_6, fo_6⟩ := wa_X15_slotOf ko_5 eo_6
      replace fo_6 := fw_t fo_5 fo_6
      obtain ⟨r_7, er_7, e⟩ := cl_s e
      have yr_7 := dk_ed (a := 513) (b := 598) ko_6 (by decide +kernel) er_7
      subst yr_7
      obtain ⟨r_8, er_8, e⟩ := cl_s e
      have yr_8 := dk_ed (a := 513) (b := 600) ko_6 (by decide +kernel) er_8
      subst yr_8
      obtain ⟨o_9, eo_9, e⟩ := cl_s e
      obtain ⟨ko_9, fo_9⟩ := wa_X15_packed ko_6 eo_9
      replace fo_9 := fw_t fo_6 fo_9
      replace e := (gd_s e).2
      obtain ⟨h_11, wh_11, e⟩ := nm_s e
      have kh_11 : DyK n g h_11 := by rw [wh_11]; exact dk_wI ko_9
      have fh_11 : FrW (WAd n) h h_11 := by rw [wh_11]; exact fw_wI fo_9 (by unfold WAd; omega)
      obtain ⟨r_12, er_12, e⟩ := cl_s e
      have yr_12 := dk_ed (a := 513) (b := 599) kh_11 (by decide +kernel) er_12
      subst yr_12
      replace e := (gd_s e).2
      obtain ⟨h_14, wh_14, e⟩ := nm_s e
      have kh_14 : DyK n g h_14 := by rw [wh_14]; exact dk_wI kh_11
      have fh_14 : FrW (WAd n) h h_14 := by rw [wh_14]; exact fw_wI fh_11 (by unfold WAd; omega)
      rw [← Option.some.inj e]; exact ⟨kh_14, fh_14⟩
    · obtain ⟨r_15, er_15, e⟩ := cl_s e
      have yr_15 := dk_ed (a := 513) (b := 593) k (by decide +kernel) er_15
      subst yr_15
      obtain ⟨r_16, er_16, e⟩ := cl_s e
      have yr_16 := dk_ed (a := 513) (b := 600) k (by decide +kernel) er_16
      subst yr_16
      replace e := (gd_s e).2
      replace e := (gd_s e).2
      obtain ⟨h_19, wh_19, e⟩ := nm_s e
      have kh_19 : DyK n g h_19 := by rw [wh_19]; exact dk_wI k
      have fh_19 : FrW (WAd n) h h_19 := by rw [wh_19]; exact fw_wI fw_0 (by unfold WAd; omega)
      obtain ⟨v_20, wv_20, e⟩ := nm_s e
      exact ⟨(ih kh_19 e).1, fw_t fh_19 (ih kh_19 e).2⟩
theorem wa_X15_addSet_93 {n : Nat} {g : Hp} {F : Nat} {o : Int32 × Hp} : ∀ (f : Nat) {h : Hp} {x1 : Int32} {x2 : Int64} {x4 : Int32}, DyK n g h → sX15_addSet_93 F f h (n + 513) x1 x2 x4 = some o → DyK n g o.2 ∧ FrW (WAd n) h o.2 := by
  intro f
  induction f with
  | zero => intro h x1 x2 x4 _ e; exact absurd e (by rw [sX15_addSet_93]; exact fun z => nomatch z)
  | succ f ih =>
    intro h x1 x2 x4 k e
    rw [sX15_addSet_93] at e
    rcases br_s e with ⟨_, e⟩ | ⟨_, e⟩
    · rcases br_s e with ⟨_, e⟩ | ⟨_, e⟩
      · exact wa_X15_addSet_136 k e
      · rcases br_s e with ⟨_, e⟩ | ⟨_, e⟩
        · exact wa_X15_addSet_136 k e
        · obtain ⟨r_4, er_4, e⟩ := cl_s e
          have yr_4 := dk_ed (a := 513) (b := 592) k (by decide +kernel) er_4
          subst yr_4
          replace e := (gd_s e).2
          obtain ⟨h_6, wh_6, e⟩ := nm_s e
          have kh_6 : DyK n g h_6 := by rw [wh_6]; exact dk_wI k
          have fh_6 : FrW (WAd n) h h_6 := by rw [wh_6]; exact fw_wI fw_0 (by unfold WAd; omega)
          obtain ⟨r_7, er_7, e⟩ := cl_s e
          have yr_7 := dk_ed (a := 513) (b := 594) kh_6 (by decide +kernel) er_7
          subst yr_7
          replace e := (gd_s e).2
          obtain ⟨h_9, wh_9, e⟩ := nm_s e
          have kh_9 : DyK n g h_9 := by rw [wh_9]; exact dk_wI kh_6
          have fh_9 : FrW (WAd n) h h_9 := by rw [wh_9]; exact fw_wI fh_6 (by unfold WAd; omega)
          exact ⟨(wa_X15_addSet_165 F kh_9 e).1, fw_t fh_9 (wa_X15_addSet_165 F kh_9 e).2⟩
    · obtain ⟨v_10, wv_10, e⟩ := nm_s e
      obtain ⟨v_11, wv_11, e⟩ := nm_s e
      exact ih k e
theorem wa_X15_addSet_57 {n : Nat} {g : Hp} {F : Nat} {o : Int32 × Hp} {x1 : Int32} {x2 : Int32} {x3 : Int32} {x4 : Int32} {k_2 : Hp → Nat → Int32 → Int32 → Option (Int32 × Hp)} (D_2 : ∀ {h : Hp} {y2 : Int32} {y3 : Int32}, DyK n g h → k_2 h (n + 513) y2 y3 = some o → DyK n g o.2 ∧ FrW (WAd n) h o.2) {h : Hp} (k : DyK n g h) (e : sX15_addSet_57 F k_2 h (n + 513) x1 x2 x3 x4 = some o) : DyK n g o.2 ∧ FrW (WAd n) h o.2 := by
  unfold sX15_addSet_57 at e
  obtain ⟨r_1, er_1, e⟩ := cl_s e
  have yr_1 := dk_ed (a := 513) (b := 600) k (by decide +kernel) er_1
  subst yr_1
  replace e := (gd_s e).2
  obtain ⟨h_3, wh_3, e⟩ := nm_s e
  have kh_3 : DyK n g h_3 := by rw [wh_3]; exact dk_wI k
  have fh_3 : FrW (WAd n) h h_3 := by rw [wh_3]; exact fw_wI fw_0 (by unfold WAd; omega)
  obtain ⟨v_4, wv_4, e⟩ := nm_s e
  exact ⟨(D_2 kh_3 e).1, fw_t fh_3 (D_2 kh_3 e).2⟩
theorem wa_X15_addSet_17 {n : Nat} {g : Hp} {F : Nat} {o : Int32 × Hp} {k_2 : Hp → Nat → Int32 → Int32 → Option (Int32 × Hp)} (D_2 : ∀ {h : Hp} {y2 : Int32} {y3 : Int32}, DyK n g h → k_2 h (n + 513) y2 y3 = some o → DyK n g o.2 ∧ FrW (WAd n) h o.2) : ∀ (f : Nat) {h : Hp} {x1 : Int32} {x2 : Int32} {x3 : Int32} {x4 : Int32}, DyK n g h → sX15_addSet_17 F k_2 f h (n + 513) x1 x2 x3 x4 = some o → DyK n g o.2 ∧ FrW (WAd n) h o.2 := by
  intro f
  induction f with
  | zero => intro h x1 x2 x3 x4 _ e; exact absurd e (by rw [sX15_addSet_17]; exact fun z => nomatch z)
  | succ f ih =>
    intro h x1 x2 x3 x4 k e
    rw [sX15_addSet_17] at e
    rcases br_s e with ⟨_, e⟩ | ⟨_, e⟩
    · exact wa_X15_addSet_57 D_2 k e
    · obtain ⟨r_2, er_2, e⟩ := cl_s e
      have yr_2 := dk_ed (a := 513) (b := 600) k (by decide +kernel) er_2
      subst yr_2
      replace e := (gd_s e).2
      rcases br_s e with ⟨_, e⟩ | ⟨_, e⟩
      · exact wa_X15_addSet_57 D_2 k e
      · obtain ⟨r_5, er_5, e⟩ := cl_s e
        have yr_5 := dk_ed (a := 513) (b := 600) k (by decide +kernel) er_5
        subst yr_5
        obtain ⟨r_6, er_6, e⟩ := cl_s e
        have yr_6 := dk_ed (a := 513) (b := 600) k (by decide +kernel) er_6
        subst yr_6
        replace e := (gd_s e).2
        replace e := (gd_s e).2
        obtain ⟨h_9, wh_9, e⟩ := nm_s e
        have kh_9 : DyK n g h_9 := by rw [wh_9]; exact dk_wI k
        have fh_9 : FrW (WAd n) h h_9 := by rw [wh_9]; exact fw_wI fw_0 (by unfold WAd; omega)
        obtain ⟨v_10, wv_10, e⟩ := nm_s e
        exact ⟨(ih kh_9 e).1, fw_t fh_9 (ih kh_9 e).2⟩
theorem wa_X15_addSet_2 {n : Nat} {g : Hp} {F : Nat} {o : Int32 × Hp} : ∀ (f : Nat) {h : Hp} {x1 : Int32} {x2 : Int32}, DyK n g h → sX15_addSet_2 F f h (n + 513) x1 x2 = some o → DyK n g o.2 ∧ FrW (WAd n) h o.2 := by
  intro f
  induction f with
  | zero => intro h x1 x2 _ e; exact absurd e (by rw [sX15_addSet_2]; exact fun z => nomatch z)
  | succ f ih =>
    intro h x1 x2 k e
    rw [sX15_addSet_2] at e
    rcases br_s e with ⟨_, e⟩ | ⟨_, e⟩
    · obtain ⟨r_2, er_2, e⟩ := cl_s e
      have yr_2 := dk_ed (a := 513) (b := 600) k (by decide +kernel) er_2
      subst yr_2
      obtain ⟨o_3, eo_3, e⟩ := cl_s e
      obtain ⟨ko_3, fo_3⟩ := wa_X15_findSet k eo_3
      rcases br_s e with ⟨_, e⟩ | ⟨_, e⟩
      · exact ⟨(wa_X15_addSet_93 F ko_3 e).1, fw_t fo_3 (wa_X15_addSet_93 F ko_3 e).2⟩
      · rw [← Option.some.inj e]; exact ⟨ko_3, fo_3⟩
    · obtain ⟨r_5, er_5, e⟩ := cl_s e
      have yr_5 := dk_ed (a := 513) (b := 600) k (by decide +kernel) er_5
      subst yr_5
      replace e := (gd_s e).2
      obtain ⟨v_7, wv_7, e⟩ := nm_s e
      exact wa_X15_addSet_17 (fun k e => ih k e) F k e
theorem wa_X15_addSet {n : Nat} {g : Hp} {F : Nat} {o : Int32 × Hp} {x1 : Int32} {h : Hp} (k : DyK n g h) (e : sX15_addSet F h (n + 513) x1 = some o) : DyK n g o.2 ∧ FrW (WAd n) h o.2 := by
  unfold sX15_addSet at e
  exact wa_X15_addSet_2 F k e
theorem wa_X15_addAll_81 {n : Nat} {g : Hp} {F : Nat} {o : Int32 × Hp} {k_2 : Hp → Nat → Int32 → Option (Int32 × Hp)} (D_2 : ∀ {h : Hp} {y2 : Int32}, DyK n g h → k_2 h (n + 513) y2 = some o → DyK n g o.2 ∧ FrW (WAd n) h o.2) {k_12 : Hp → Nat → Int32 → Int32 → Option (Int32 × Hp)} (D_12 : ∀ {h : Hp} {y2 : Int32} {y3 : Int32}, DyK n g h → k_12 h (n + 513) y2 y3 = some o → DyK n g o.2 ∧ FrW (WAd n) h o.2) {k_61 : Hp → Nat → Int32 → Int32 → Int32 → Int32 → Option (Int32 × Hp)} (D_61 : ∀ {h : Hp} {y2 : Int32} {y3 : Int32} {y4 : Int32} {y5 : Int32}, DyK n g h → k_61 h (n + 513) y2 y3 y4 y5 = some o → DyK n g o.2 ∧ FrW (WAd n) h o.2) : ∀ (f : Nat) {h : Hp} {x1 : Int32} {x2 : Int32} {x3 : Int32} {x4 : Int32} {x5 : Int32}, DyK n g h → sX15_addAll_81 F k_2 k_12 k_61 f h (n + 513) x1 x2 x3 x4 x5 = some o → DyK n g o.2 ∧ FrW (WAd n) h o.2 := by
  intro f
  induction f with
  | zero => intro h x1 x2 x3 x4 x5 _ e; exact absurd e (by rw [sX15_addAll_81]; exact fun z => nomatch z)
  | succ f ih =>
    intro h x1 x2 x3 x4 x5 k e
    rw [sX15_addAll_81] at e
    obtain ⟨r_1, er_1, e⟩ := cl_s e
    have yr_1 := dk_ed (a := 513) (b := 592) k (by decide +kernel) er_1
    subst yr_1
    replace e := (gd_s e).2
    rcases br_s e with ⟨_, e⟩ | ⟨_, e⟩
    · obtain ⟨r_4, er_4, e⟩ := cl_s e
      have yr_4 := dk_ed (a := 513) (b := 600) k (by decide +kernel) er_4
      subst yr_4
      obtain ⟨r_5, er_5, e⟩ := cl_s e
      obtain ⟨r_6, er_6, e⟩ := cl_s e
      obtain ⟨o_7, eo_7, e⟩ := cl_s e
      obtain ⟨ko_7, fo_7⟩ := wa_X15_manOf k eo_7
      replace e := (gd_s e).2
      obtain ⟨o_9, eo_9, e⟩ := cl_s e
      obtain ⟨ko_9, fo_9⟩ := wa_X15_sideOf ko_7 eo_9
      replace fo_9 := fw_t fo_7 fo_9
      obtain ⟨o_10, eo_10, e⟩ := cl_s e
      obtain ⟨ko_10, fo_10⟩ := wa_X15_valueOf ko_9 eo_10
      replace fo_10 := fw_t fo_9 fo_10
      replace e := (gd_s e).2
      obtain ⟨h_12, wh_12, e⟩ := nm_s e
      have kh_12 : DyK n g h_12 := by rw [wh_12]; exact dk_wI ko_10
      have fh_12 : FrW (WAd n) h h_12 := by rw [wh_12]; exact fw_wI fo_10 (by unfold WAd; omega)
      obtain ⟨r_13, er_13, e⟩ := cl_s e
      have yr_13 := dk_ed (a := 513) (b := 592) kh_12 (by decide +kernel) er_13
      subst yr_13
      replace e := (gd_s e).2
      obtain ⟨o_15, eo_15, e⟩ := cl_s e
      obtain ⟨ko_15, fo_15⟩ := wa_X15_addSet kh_12 eo_15
      replace fo_15 := fw_t fh_12 fo_15
      rcases br_s e with ⟨_, e⟩ | ⟨_, e⟩
      · rw [← Option.some.inj e]; exact ⟨ko_15, fo_15⟩
      · obtain ⟨v_17, wv_17, e⟩ := nm_s e
        exact ⟨(D_61 ko_15 e).1, fw_t fo_15 (D_61 ko_15 e).2⟩
    · obtain ⟨r_18, er_18, e⟩ := cl_s e
      have yr_18 := dk_ed (a := 513) (b := 600) k (by decide +kernel) er_18
      subst yr_18
      obtain ⟨r_19, er_19, e⟩ := cl_s e
      have yr_19 := dk_ed (a := 513) (b := 593) k (by decide +kernel) er_19
      subst yr_19
      replace e := (gd_s e).2
      replace e := (gd_s e).2
      obtain ⟨h_22, wh_22, e⟩ := nm_s e
      have kh_22 : DyK n g h_22 := by rw [wh_22]; exact dk_wI k
      have fh_22 : FrW (WAd n) h h_22 := by rw [wh_22]; exact fw_wI fw_0 (by unfold WAd; omega)
      obtain ⟨v_23, wv_23, e⟩ := nm_s e
      exact ⟨(ih kh_22 e).1, fw_t fh_22 (ih kh_22 e).2⟩
theorem wa_X15_addAll_61 {n : Nat} {g : Hp} {F : Nat} {o : Int32 × Hp} {k_2 : Hp → Nat → Int32 → Option (Int32 × Hp)} (D_2 : ∀ {h : Hp} {y2 : Int32}, DyK n g h → k_2 h (n + 513) y2 = some o → DyK n g o.2 ∧ FrW (WAd n) h o.2) {k_12 : Hp → Nat → Int32 → Int32 → Option (Int32 × Hp)} (D_12 : ∀ {h : Hp} {y2 : Int32} {y3 : Int32}, DyK n g h → k_12 h (n + 513) y2 y3 = some o → DyK n g o.2 ∧ FrW (WAd n) h o.2) : ∀ (f : Nat) {h : Hp} {x1 : Int32} {x2 : Int32} {x3 : Int32} {x4 : Int32}, DyK n g h → sX15_addAll_61 F k_2 k_12 f h (n + 513) x1 x2 x3 x4 = some o → DyK n g o.2 ∧ FrW (WAd n) h o.2 := by
  intro f
  induction f with
  | zero => intro h x1 x2 x3 x4 _ e; exact absurd e (by rw [sX15_addAll_61]; exact fun z => nomatch z)
  | succ f ih =>
    intro h x1 x2 x3 x4 k e
    rw [sX15_addAll_61] at e
    obtain ⟨r_1, er_1, e⟩ := cl_s e
    obtain ⟨r_2, er_2, e⟩ := cl_s e
    obtain ⟨o_3, eo_3, e⟩ := cl_s e
    obtain ⟨ko_3, fo_3⟩ := wa_X15_manOf k eo_3
    replace e := (gd_s e).2
    rcases br_s e with ⟨_, e⟩ | ⟨_, e⟩
    · obtain ⟨v_6, wv_6, e⟩ := nm_s e
      exact ⟨(D_12 ko_3 e).1, fw_t fo_3 (D_12 ko_3 e).2⟩
    · exact ⟨(wa_X15_addAll_81 D_2 D_12 (fun k e => ih k e) F ko_3 e).1, fw_t fo_3 (wa_X15_addAll_81 D_2 D_12 (fun k e => ih k e) F ko_3 e).2⟩
theorem wa_X15_addAll_58 {n : Nat} {g : Hp} {F : Nat} {o : Int32 × Hp} {x1 : Int32} {x2 : Int32} {x3 : Int32} {k_2 : Hp → Nat → Int32 → Option (Int32 × Hp)} (D_2 : ∀ {h : Hp} {y2 : Int32}, DyK n g h → k_2 h (n + 513) y2 = some o → DyK n g o.2 ∧ FrW (WAd n) h o.2) {k_12 : Hp → Nat → Int32 → Int32 → Option (Int32 × Hp)} (D_12 : ∀ {h : Hp} {y2 : Int32} {y3 : Int32}, DyK n g h → k_12 h (n + 513) y2 y3 = some o → DyK n g o.2 ∧ FrW (WAd n) h o.2) {h : Hp} (k : DyK n g h) (e : sX15_addAll_58 F k_2 k_12 h (n + 513) x1 x2 x3 = some o) : DyK n g o.2 ∧ FrW (WAd n) h o.2 := by
  unfold sX15_addAll_58 at e
  exact wa_X15_addAll_61 D_2 D_12 F k e
theorem wa_X15_copyWithout_42 {n : Nat} {g : Hp} {F : Nat} {o : Int32 × Hp} {x1 : Int32} {x2 : Int32} {x3 : Int32} {x4 : Int32} {k_5 : Hp → Nat → Int32 → Int32 → Int32 → Int32 → Option (Int32 × Hp)} (D_5 : ∀ {h : Hp} {y2 : Int32} {y3 : Int32} {y4 : Int32} {y5 : Int32}, DyK n g h → k_5 h (n + 513) y2 y3 y4 y5 = some o → DyK n g o.2 ∧ FrW (WAd n) h o.2) {h : Hp} (k : DyK n g h) (e : sX15_copyWithout_42 F k_5 h (n + 513) x1 x2 x3 x4 = some o) : DyK n g o.2 ∧ FrW (WAd n) h o.2 := by
  unfold sX15_copyWithout_42 at e
  obtain ⟨v_1, wv_1, e⟩ := nm_s e
  exact D_5 k e
theorem wa_X15_copyWithout_5 {n : Nat} {g : Hp} {F : Nat} {o : Int32 × Hp} : ∀ (f : Nat) {h : Hp} {x1 : Int32} {x2 : Int32} {x3 : Int32} {x4 : Int32}, DyK n g h → sX15_copyWithout_5 F f h (n + 513) x1 x2 x3 x4 = some o → DyK n g o.2 ∧ FrW (WAd n) h o.2 := by
  intro f
  induction f with
  | zero => intro h x1 x2 x3 x4 _ e; exact absurd e (by rw [sX15_copyWithout_5]; exact fun z => nomatch z)
  | succ f ih =>
    intro h x1 x2 x3 x4 k e
    rw [sX15_copyWithout_5] at e
    obtain ⟨r_1, er_1, e⟩ := cl_s e
    have yr_1 := dk_ed (a := 513) (b := 592) k (by decide +kernel) er_1
    subst yr_1
    replace e := (gd_s e).2
    rcases br_s e with ⟨_, e⟩ | ⟨_, e⟩
    · obtain ⟨o_4, eo_4, e⟩ := cl_s e
      obtain ⟨ko_4, fo_4⟩ := wa_X15_addSet k eo_4
      replace e := (gd_s e).2
      rw [← Option.some.inj e]; exact ⟨ko_4, fo_4⟩
    · rcases br_s e with ⟨_, e⟩ | ⟨_, e⟩
      · exact wa_X15_copyWithout_42 (fun k e => ih k e) k e
      · obtain ⟨r_7, er_7, e⟩ := cl_s e
        have yr_7 := dk_ed (a := 513) (b := 600) k (by decide +kernel) er_7
        subst yr_7
        obtain ⟨r_8, er_8, e⟩ := cl_s e
        have yr_8 := dk_ed (a := 513) (b := 593) k (by decide +kernel) er_8
        subst yr_8
        replace e := (gd_s e).2
        replace e := (gd_s e).2
        obtain ⟨h_11, wh_11, e⟩ := nm_s e
        have kh_11 : DyK n g h_11 := by rw [wh_11]; exact dk_wI k
        have fh_11 : FrW (WAd n) h h_11 := by rw [wh_11]; exact fw_wI fw_0 (by unfold WAd; omega)
        obtain ⟨v_12, wv_12, e⟩ := nm_s e
        exact ⟨(wa_X15_copyWithout_42 (fun k e => ih k e) kh_11 e).1, fw_t fh_11 (wa_X15_copyWithout_42 (fun k e => ih k e) kh_11 e).2⟩
theorem wa_X15_copyWithout {n : Nat} {g : Hp} {F : Nat} {o : Int32 × Hp} {x1 : Int32} {x2 : Int32} {h : Hp} (k : DyK n g h) (e : sX15_copyWithout F h (n + 513) x1 x2 = some o) : DyK n g o.2 ∧ FrW (WAd n) h o.2 := by
  unfold sX15_copyWithout at e
  exact wa_X15_copyWithout_5 F k e
theorem wa_X15_addAll_12 {n : Nat} {g : Hp} {F : Nat} {o : Int32 × Hp} {k_2 : Hp → Nat → Int32 → Option (Int32 × Hp)} (D_2 : ∀ {h : Hp} {y2 : Int32}, DyK n g h → k_2 h (n + 513) y2 = some o → DyK n g o.2 ∧ FrW (WAd n) h o.2) : ∀ (f : Nat) {h : Hp} {x1 : Int32} {x2 : Int32}, DyK n g h → sX15_addAll_12 F k_2 f h (n + 513) x1 x2 = some o → DyK n g o.2 ∧ FrW (WAd n) h o.2 := by
  intro f
  induction f with
  | zero => intro h x1 x2 _ e; exact absurd e (by rw [sX15_addAll_12]; exact fun z => nomatch z)
  | succ f ih =>
    intro h x1 x2 k e
    rw [sX15_addAll_12] at e
    obtain ⟨r_1, er_1, e⟩ := cl_s e
    have yr_1 := dk_ed (a := 513) (b := 592) k (by decide +kernel) er_1
    subst yr_1
    replace e := (gd_s e).2
    rcases br_s e with ⟨_, e⟩ | ⟨_, e⟩
    · obtain ⟨v_4, wv_4, e⟩ := nm_s e
      exact D_2 k e
    · obtain ⟨r_5, er_5, e⟩ := cl_s e
      have yr_5 := dk_ed (a := 513) (b := 593) k (by decide +kernel) er_5
      subst yr_5
      replace e := (gd_s e).2
      obtain ⟨v_7, wv_7, e⟩ := nm_s e
      obtain ⟨o_8, eo_8, e⟩ := cl_s e
      obtain ⟨ko_8, fo_8⟩ := wa_X15_manOf k eo_8
      obtain ⟨r_9, er_9, e⟩ := cl_s e
      rcases br_s e with ⟨_, e⟩ | ⟨_, e⟩
      · exact ⟨(wa_X15_addAll_58 D_2 (fun k e => ih k e) ko_8 e).1, fw_t fo_8 (wa_X15_addAll_58 D_2 (fun k e => ih k e) ko_8 e).2⟩
      · obtain ⟨o_11, eo_11, e⟩ := cl_s e
        obtain ⟨ko_11, fo_11⟩ := wa_X15_copyWithout ko_8 eo_11
        replace fo_11 := fw_t fo_8 fo_11
        rcases br_s e with ⟨_, e⟩ | ⟨_, e⟩
        · rw [← Option.some.inj e]; exact ⟨ko_11, fo_11⟩
        · exact ⟨(wa_X15_addAll_58 D_2 (fun k e => ih k e) ko_11 e).1, fw_t fo_11 (wa_X15_addAll_58 D_2 (fun k e => ih k e) ko_11 e).2⟩
theorem wa_X15_addAll_2 {n : Nat} {g : Hp} {F : Nat} {o : Int32 × Hp} : ∀ (f : Nat) {h : Hp} {x1 : Int32}, DyK n g h → sX15_addAll_2 F f h (n + 513) x1 = some o → DyK n g o.2 ∧ FrW (WAd n) h o.2 := by
  intro f
  induction f with
  | zero => intro h x1 _ e; exact absurd e (by rw [sX15_addAll_2]; exact fun z => nomatch z)
  | succ f ih =>
    intro h x1 k e
    rw [sX15_addAll_2] at e
    rcases br_s e with ⟨_, e⟩ | ⟨_, e⟩
    · rw [← Option.some.inj e]; exact ⟨k, fw_0⟩
    · exact wa_X15_addAll_12 (fun k e => ih k e) F k e
theorem wa_X15_addAll {n : Nat} {g : Hp} {F : Nat} {o : Int32 × Hp} {h : Hp} (k : DyK n g h) (e : sX15_addAll F h (n + 513) = some o) : DyK n g o.2 ∧ FrW (WAd n) h o.2 := by
  unfold sX15_addAll at e
  exact wa_X15_addAll_2 F k e
end
section
/-! ENDINGS: p33's texts once more, with what stays; the reference up to its table -/
section
variable {ρ : Nat → Nat} {c : Cm} {m rm re rb rk rs ro R Bc Bm F : Nat} {g h : Hp} {x1 : Int32} {b : Int32 × Hp}
theorem r203_j (hA : pmA c [(107, 999)]) (e56 : hR h m 56 = some rs) (qs : ρ rs = 107) : ∀ (f : Nat) {g : Hp} {x3 : Int32}, TH ρ c g → (hS g = hS h ∧ ∀ a, hN g a = hN h a) → (∀ a i, hR g a i = hR h a i) → (∀ a i, hJ g a i = hJ h a i) → (∀ a i, ¬ a = rs → hI g a i = hI h a i) → 0 ≤ x3.toInt → (∀ j : Nat, (j : Int) < x3.toInt → hI g rs j = 0) → sX15_solve_203 F f g m x1 x3 = some b → ∃ o, TH ρ c o ∧ (hS o = hS h ∧ ∀ a, hN o a = hN h a) ∧ (∀ a i, hR o a i = hR h a i) ∧ (∀ a i, hJ o a i = hJ h a i) ∧ (∀ a i, ¬ a = rs → hI o a i = hI h a i) ∧ (∀ j : Nat, j < 16384 → hI o rs j = 0) ∧ (cl (sX15_addSet F o m x1) fun o_2 => sX15_solve_228 F o_2.2 m o_2.1) = some b := by
  have z1 : (1 : Int32).toInt = 1 := rfl
  have z16 : (16384 : Int32).toInt = 16384 := rfl
  intro f
  induction f with
  | zero => intro g x3 _ _ _ _ _ _ _ e; exact absurd e (by rw [sX15_solve_203]; exact fun z => nomatch z)
  | succ f ih =>
    intro g x3 T Sn R J I a3 Z e
    rw [sX15_solve_203] at e
    replace e := br_s e
    rcases e with ⟨l, e⟩ | ⟨l, e⟩
    · have l := le_i l
      rw [z16] at l
      exact ⟨g, T, Sn, R, J, I, fun j hj => Z j (by omega), e⟩
    have l := nle_i l
    rw [z16] at l
    replace e := cl_s e; obtain ⟨r3, p, e⟩ := e
    rw [r_eq (by rw [R]; exact e56) p] at e
    replace e := (gd_s e).2
    replace e := nm_s e; obtain ⟨h5, w5, e⟩ := e
    replace e := nm_s e; obtain ⟨v6, w6, e⟩ := e
    have c3 := nc_i a3
    have tx : v6.toInt = x3.toInt + 1 := by rw [w6, ta (by rw [z1]; omega), z1]
    refine ih (g := h5) (by rw [w5]; exact th_wI T qs (k := 107) (lo := 0) (hi := 4096) rfl (rg_b rfl) (by decide) (by decide) (pm_a hA rfl)) (by rw [w5]; exact Sn) (fun a i => by rw [w5]; exact R a i) (fun a i => by rw [w5]; exact J a i) (fun a i n => by rw [w5, rI_a n]; exact I a i n) (by omega) (fun j hj => ?_) e
    rw [w5]
    by_cases z : j = x3.toNatClampNeg
    · rw [z, rI_s]
    · rw [rI_o z]; exact Z j (by omega)
theorem ref_j (hF : 2000000 ≤ F) (hA : pmA c soC) (T : TH ρ c g) (SR : SlR ρ m rm re rb rk rs ro g) (eR : hR g m 4 = some R) (eBc : hR g R 13 = some Bc) (eBm : hR g R 14 = some Bm) (i1 : Rg 2 5 x1) (e49 : (hI g m 49).toInt = 0) (e59 : (hJ g m 59).toInt = 0) (W : RW m x1.toInt g) (Z : ∀ j : Nat, j < 16384 → hI g rs j = 0) (sq : SqOk m g) (hz : hI g R 15 = 0) (e : (cl (sX15_addSet F g m x1) fun o_2 => sX15_solve_228 F o_2.2 m o_2.1) = some b) : ∃ o2, sX15_addSet F g m x1 = some o2 ∧ ((o2.1 = 0 ∧ b = ((-104 : Int32), o2.2)) ∨ (¬ o2.1 = 0 ∧ ∃ o3, sX15_addAll F o2.2 m = some o3 ∧ ((o3.1 = 0 ∧ b = ((-104 : Int32), o3.2)) ∨ (¬ o3.1 = 0 ∧ (TH ρ c o3.2 ∧ SlR ρ m rm re rb rk rs ro o3.2 ∧ SE m o3.2 ∧ AllS m rm re rs rk R Bc Bm o3.2) ∧ (hR o3.2 m 4 = some R ∧ hR o3.2 R 13 = some Bc ∧ hR o3.2 R 14 = some Bm) ∧ sX15_solve_246 F F o3.2 m (0 : Int32) (0 : Int32) = some b)))) := by
  have hF7 : 700000 ≤ F := by omega
  have z0 : (0 : Int32).toInt = 0 := rfl
  obtain ⟨⟨r0, qm, qe, qb, qk, qs, qo⟩, ⟨e46, e47, e48, e55, e56, e57⟩⟩ := id SR
  have sr : ∀ {q : Hp}, Kf ρ seL g q → SlR ρ m rm re rb rk rs ro q := fun Kg => ⟨⟨r0, qm, qe, qb, qk, qs, qo⟩, ⟨by rw [kfR 46 Kg r0]; exact e46, by rw [kfR 47 Kg r0]; exact e47, by rw [kfR 48 Kg r0]; exact e48, by rw [kfR 55 Kg r0]; exact e55, by rw [kfR 56 Kg r0]; exact e56, by rw [kfR 57 Kg r0]; exact e57⟩⟩
  have qR : ρ R = 15 := rr T (thR T r0 (i := 4) (k2 := 15) rfl (by decide)) eR
  have hA' : pmA c seL := pmA_s hA rfl
  have P := se_init (x0 := m) (h := g) e49 e59 (fun r er j hj => by rw [r_eq e56 er, Z j hj, z0]; exact Int.le_refl _)
  replace e := cl_s e; obtain ⟨o2, eq2, e⟩ := e
  obtain ⟨T2', i2, P2, _, l2⟩ := sat_e (zX15_addSet (c := cat c (fS seL []) g) hF7 fs_a (th_in _ T) r0 (rg_m i1 (by decide)) P W) eq2
  have T2 := th_out T (fs_sub hA' fs_n) T2'
  have K2 : Kf ρ seL g o2.2 := kf_of (fr_u T T2'.2.2) rfl
  refine ⟨o2, eq2, ?_⟩
  unfold sX15_solve_228 sX15_solve_235 sX15_solve_238 at e
  replace e := br_s e
  rcases e with ⟨z, e⟩ | ⟨nz, e⟩
  · exact Or.inl ⟨z, (Option.some.inj e).symm⟩
  refine Or.inr ⟨nz, ?_⟩
  replace e := cl_s e; obtain ⟨o3, eq3, e⟩ := e
  obtain ⟨T3', i3, P3, l3⟩ := sat_e (zX15_addAll (c := cat c (fS seL []) o2.2) hF7 fs_a (th_in _ T2) r0 P2 (l2 nz)) eq3
  have T3 := th_out T2 (fs_sub hA' fs_n) T3'
  have K3 : Kf ρ seL g o3.2 := kf_t K2 (kf_of (fr_u T2 T3'.2.2) rfl)
  refine ⟨o3, eq3, ?_⟩
  replace e := br_s e
  rcases e with ⟨z, e⟩ | ⟨nz3, e⟩
  · exact Or.inl ⟨z, (Option.some.inj e).symm⟩
  refine Or.inr ⟨nz3, ?_⟩
  have M2 := ((ads_t hF7 hA' SR T P (rg_m i1 (by decide)) W eq2).2 nz).1
  obtain ⟨M3, C3⟩ := all_q hF7 hA' (sr K2) T2 P2 (by rw [kfR 4 K2 r0]; exact eR) (by rw [kfR 13 K2 qR]; exact eBc) (by rw [kfR 14 K2 qR]; exact eBm) eq3 nz3
  have MM := mo_t (fun k => by
    have i := thI T2 qm (k := 99) (i := k) (lo := 0) (hi := 5) rfl
    have := clamp_i i.1
    have := i.2
    omega) M2 M3
  exact ⟨⟨T3, sr K3, P3, fun k hk => by
    obtain ⟨s1, s2⟩ := MM.2.2.2.2.2.2 k (by rw [e49]; omega) hk
    exact ⟨s1, s2, fun i hi => C3 k hk i hi⟩⟩, ⟨by rw [kfR 4 K3 r0]; exact eR, by rw [kfR 13 K3 qR]; exact eBc, by rw [kfR 14 K3 qR]; exact eBm⟩, e⟩
end
section
variable {ρ : Nat → Nat} {c : Cm} {F : Nat} {Z : Nat → Nat} {hc h0 : Hp} {L lw m x t bt tp ro : Nat} {o o' : Int32 × Hp} {x1 : Int32}
theorem read_j (hA : pmA c [(108, 999)]) (r0 : ρ m = 16) (e57 : hR h0 m 57 = some ro) (qo : ρ ro = 108) (eT : hR h0 m 0 = some tp) (qt : ρ tp = 82) (K : ∀ g, Jo ro h0 g → ZA Z L lw hc g ∧ LwQ Z hc g ∧ hR g m 4 = some lw) (ex : hR hc x 0 = some L) (ebt : hR hc t 0 = some bt) (ntx : ¬ t = x) (tl : hI hc t 1 = x1) (i1 : Rg 0 1200 x1) (bts : ∀ i, Rg 0 255 (hI hc bt i)) (tb : ∀ i : Nat, (i : Int) < x1.toInt → (hI h0 tp i).toInt = sg (hI hc bt i).toInt) : ∀ (f g : Nat) {hr : Hp} {x2 x3 i : Int32}, TH ρ c hr → Jo ro h0 hr → hS hr = hS h0 → Rg 0 5 i → i.toInt ≤ x1.toInt → RW m i.toInt hr → RowB ro x3 i.toNatClampNeg hr → sX0_read_7 F f hc x t x2 x3 i = some o → sX15_solve_54 F g hr m x1 x2 i = some o' → ((¬ o.1 = (-1 : Int32) ∧ o'.1 = (-200 : Int32) - o.1) ∧ Jo ro h0 o'.2 ∧ hS o'.2 = hS h0) ∨ (o.1 = (-1 : Int32) ∧ ∃ (key : Int32) (g : Hp), o.2 = wI hc x 14 key ∧ Rg 2 5 x1 ∧ TH ρ c g ∧ Jo ro h0 g ∧ hS g = hS h0 ∧ RW m x1.toInt g ∧ RowB ro key x1.toNatClampNeg g ∧ (nm (wI g m 49 (0 : Int32)) fun h_3 => nm (wJ h_3 m 59 (0 : Int64)) fun h_4 => nm (wI h_4 m 50 (0 : Int32)) fun h_5 => sX15_solve_203 F F h_5 m x1 (0 : Int32)) = some o') := by
  have z1 : (1 : Int32).toInt = 1 := rfl
  have z0 : (0 : Int32).toInt = 0 := rfl
  have z5 : (5 : Int32).toInt = 5 := rfl
  have zm : (-1 : Int32).toInt = -1 := by decide
  have ntp : ¬ tp = ro := fun z => by rw [z, qo] at qt; exact absurd qt (by decide)
  have nmo : ¬ m = ro := fun z => by rw [z, qo] at r0; exact absurd r0 (by decide)
  have x10 := i1.1
  intro f
  induction f with
  | zero => intro g hr x2 x3 i _ _ _ _ _ _ _ e; exact absurd e (by rw [sX0_read_7]; exact fun z => nomatch z)
  | succ f ih =>
    intro g hr x2 x3 i T J Sx ii bi W B e e'
    cases g with
    | zero => exact absurd e' (by rw [sX15_solve_54]; exact fun z => nomatch z)
    | succ g =>
      rw [sX0_read_7, tl] at e
      rw [sX15_solve_54] at e'
      obtain ⟨A, Q, em⟩ := K hr J
      have i0 := ii.1
      have i5 := ii.2
      have ni := nc_i i0
      replace e := br_s e
      replace e' := br_s e'
      rcases e with ⟨l, e⟩ | ⟨l, e⟩
      · rcases e' with ⟨_, e'⟩ | ⟨l', _⟩
        rotate_left
        · exact absurd l l'
        have l := le_i l
        have ei : i = x1 := Int32.toInt_inj.mp (by omega)
        replace e := nm_s e; obtain ⟨h2, w2, e⟩ := e
        have l2 : hI h2 t 1 = x1 := by rw [w2, rI_a ntx]; exact tl
        rw [l2] at e
        unfold sX0_read_117 at e
        replace e := br_s e
        replace e' := br_s e'
        rcases e with ⟨b, e⟩ | ⟨b, e⟩
        · rcases e' with ⟨_, e'⟩ | ⟨b', _⟩
          rotate_left
          · exact absurd b b'
          have b := le_i b
          refine Or.inr ⟨by rw [← Option.some.inj e], x3, hr, by rw [← Option.some.inj e]; exact w2, ⟨b, by omega⟩, T, J, Sx, by rw [← ei]; exact W, by rw [← ei]; exact B, e'⟩
        · rcases e' with ⟨b', _⟩ | ⟨_, e'⟩
          · exact absurd b' b
          refine Or.inl ⟨⟨fun z => ?_, by rw [← Option.some.inj e, ← Option.some.inj e']⟩, by rw [← Option.some.inj e']; exact ⟨J, Sx⟩⟩
          rw [← Option.some.inj e] at z
          have z : x1 = (-1 : Int32) := z
          rw [z, zm] at x10
          omega
      rcases e' with ⟨l', _⟩ | ⟨_, e'⟩
      · exact absurd l' l
      have l := nle_i l
      replace e := cl_s e; obtain ⟨r4, p, e⟩ := e
      rw [r_eq ex p] at e
      replace e := cl_s e; obtain ⟨o5, eo5, e⟩ := e
      have y5 : o5 = (hI hc bt i.toNatClampNeg, hc) := by
        unfold sX9_byteAt sX9_byteAt_22 sX9_byteAt_21 at eo5
        replace eo5 := br_s eo5
        rcases eo5 with ⟨q, _⟩ | ⟨_, eo5⟩
        · have q := lt_i q
          rw [z0] at q
          omega
        rw [tl] at eo5
        replace eo5 := br_s eo5
        rcases eo5 with ⟨q, _⟩ | ⟨_, eo5⟩
        · have q := le_i q
          omega
        replace eo5 := cl_s eo5; obtain ⟨r, p, eo5⟩ := eo5
        rw [r_eq ebt p] at eo5
        exact (Option.some.inj (gd_s eo5).2).symm
      rw [y5] at e
      dsimp only at e
      replace e := cl_s e; obtain ⟨o6, eo6, e⟩ := e
      replace e' := cl_s e'; obtain ⟨r6, p, e'⟩ := e'
      rw [r_eq (by rw [J.1]; exact eT) p] at e'
      replace e' := (gd_s e').2
      replace e' := cl_s e'; obtain ⟨o8, eo8, e'⟩ := e'
      obtain ⟨w6, w8, alt⟩ := code_p A Q em (bts i.toNatClampNeg) (by rw [J.2.2.2 tp _ ntp]; exact tb i.toNatClampNeg (by omega)) eo6 eo8
      rw [w6] at e
      rw [w8] at e'
      have flt : ∀ {hh : Hp}, some (i, hh) = some o → some ((-200 : Int32) - i, hr) = some o' → (¬ o.1 = (-1 : Int32) ∧ o'.1 = (-200 : Int32) - o.1) ∧ Jo ro h0 o'.2 ∧ hS o'.2 = hS h0 := fun {hh} u u' => by
        rw [← Option.some.inj u, ← Option.some.inj u']
        refine ⟨⟨fun z => ?_, rfl⟩, J, Sx⟩
        have z : i = (-1 : Int32) := z
        rw [z, zm] at i0
        omega
      rcases alt with ⟨c6, c8⟩ | ⟨v8, c6⟩
      · -- no man of that letter
        rw [c6] at e
        rw [c8] at e'
        unfold sX15_solve_69 sX15_solve_108 sX15_solve_109 sX15_solve_126 at e'
        replace e' := br_s e'
        rcases e' with ⟨_, e'⟩ | ⟨n, _⟩
        rotate_left
        · exact absurd (by decide) n
        replace e' := br_s e'
        rcases e' with ⟨_, e'⟩ | ⟨n, _⟩
        rotate_left
        · exact absurd rfl n
        unfold sX0_read_43 at e
        replace e := br_s e
        rcases e with ⟨_, e⟩ | ⟨_, e⟩
        · exact Or.inl (flt e e')
        replace e := br_s e
        rcases e with ⟨_, e⟩ | ⟨n, _⟩
        · exact Or.inl (flt e e')
        · exact absurd rfl n
      rw [c6] at e
      generalize hv : o8.1 = v at *
      have v1 := v8.1
      have v24 := v8.2
      have nv0 : ¬ v = 0 := fun z => by rw [z, z0] at v1; omega
      have nvl : ¬ v ≤ 0 := fun z => by
        have := le_i z
        rw [z0] at this
        omega
      have tv : (v - (1 : Int32)).toInt = v.toInt - 1 := by rw [ts (by rw [z1]; omega), z1]
      have royq : hI hc L 4 = hI hr lw 10 := by
        have := Q.1 (4, 10) (by decide)
        rw [A.1.1, A.2.1.1] at this
        exact this
      unfold sX15_solve_69 sX15_manOf at e'
      replace e' := br_s e'
      rcases e' with ⟨n, _⟩ | ⟨_, e'⟩
      · exact absurd n nvl
      replace e' := cl_s e'; obtain ⟨o2, eo2, e'⟩ := e'
      rw [← Option.some.inj eo2] at e'
      dsimp only at e'
      unfold sX15_solve_81 sX15_sideOf sX15_solve_97 sX15_solve_108 at e'
      replace e' := cl_s e'; obtain ⟨u1, p, e'⟩ := e'
      rw [r_eq em p, ← royq] at e'
      -- the reference, where its flag says whether he is there twice
      have f1 : sX15_solve_109 F (sX15_solve_54 F g) hr m x1 x2 i v (1 : Int32) = some o' → some ((-200 : Int32) - i, hr) = some o' := fun e' => by
        unfold sX15_solve_109 sX15_solve_126 at e'
        replace e' := br_s e'
        rcases e' with ⟨n, _⟩ | ⟨_, e'⟩
        · exact absurd n nv0
        replace e' := br_s e'
        rcases e' with ⟨n, _⟩ | ⟨_, e'⟩
        · exact absurd n (by decide)
        exact e'
      have f0 : sX15_solve_109 F (sX15_solve_54 F g) hr m x1 x2 i v (0 : Int32) = some o' → (i = (5 : Int32) ∧ some ((-200 : Int32) - i, hr) = some o') ∨ (¬ i = (5 : Int32) ∧ sX15_solve_138 F (sX15_solve_54 F g) hr m x1 i v ((v - (1 : Int32)) >>> ((1 : Int32) &&& 31)) x2 = some o') := fun e' => by
        unfold sX15_solve_109 sX15_solve_126 sX15_manOf at e'
        replace e' := br_s e'
        rcases e' with ⟨n, _⟩ | ⟨_, e'⟩
        · exact absurd n nv0
        replace e' := br_s e'
        rcases e' with ⟨_, e'⟩ | ⟨n, _⟩
        rotate_left
        · exact absurd rfl n
        replace e' := br_s e'
        rcases e' with ⟨b, e'⟩ | ⟨b, e'⟩
        · exact Or.inl ⟨b, e'⟩
        replace e' := cl_s e'; obtain ⟨o4, eo4, e'⟩ := e'
        rw [← Option.some.inj eo4] at e'
        exact Or.inr ⟨b, e'⟩
      -- one man more
      have nxt : ∀ {y2 t0 t1 : Int32}, i.toInt ≤ 4 → t1 ||| t0 = y2 → sX0_read_83 F (sX0_read_7 F f) hc x t y2 x3 i (v - (1 : Int32)) = some o → sX15_solve_159 F (sX15_solve_54 F g) hr m x1 i v t0 t1 = some o' → ((¬ o.1 = (-1 : Int32) ∧ o'.1 = (-200 : Int32) - o.1) ∧ Jo ro h0 o'.2 ∧ hS o'.2 = hS h0) ∨ (o.1 = (-1 : Int32) ∧ ∃ (key : Int32) (g : Hp), o.2 = wI hc x 14 key ∧ Rg 2 5 x1 ∧ TH ρ c g ∧ Jo ro h0 g ∧ hS g = hS h0 ∧ RW m x1.toInt g ∧ RowB ro key x1.toNatClampNeg g ∧ (nm (wI g m 49 (0 : Int32)) fun h_3 => nm (wJ h_3 m 59 (0 : Int64)) fun h_4 => nm (wI h_4 m 50 (0 : Int32)) fun h_5 => sX15_solve_203 F F h_5 m x1 (0 : Int32)) = some o') := fun {y2 t0 t1} i4 ey e e' => by
        unfold sX0_read_83 at e
        unfold sX15_solve_159 at e'
        replace e := cl_s e; obtain ⟨k1, ek, e⟩ := e
        replace e := nm_s e; obtain ⟨a2, wa2, e⟩ := e
        replace e' := nm_s e'; obtain ⟨b1, wb1, e'⟩ := e'
        replace e' := cl_s e'; obtain ⟨r2, p, e'⟩ := e'
        rw [r_eq (by rw [J.1]; exact e57) p] at e'
        replace e' := (gd_s e').2
        replace e' := nm_s e'; obtain ⟨h4, w4, e'⟩ := e'
        replace e' := nm_s e'; obtain ⟨b5, wb5, e'⟩ := e'
        have tx : (i + (1 : Int32)).toInt = i.toInt + 1 := by rw [ta (by rw [z1]; omega), z1]
        have cx : (i + (1 : Int32)).toNatClampNeg = i.toNatClampNeg + 1 := by
          have := nc_i (x := i + (1 : Int32)) (by omega)
          omega
        obtain ⟨fr, Kk, Ck⟩ := B
        obtain ⟨wk, pp, p4, hA', hB', eK⟩ := wi_k (pad_24 Kk.2.2.1) (by unfold pad; rw [if_neg (by omega)]) Kk.2.1 (x1 := v - (1 : Int32)) ⟨by omega, by omega⟩ ek
        rw [show (v - (1 : Int32)).toInt + 1 = v.toInt by omega] at hA' hB' eK
        obtain ⟨Kn, Cn⟩ := kq_ins (w := v) (by omega) Kk p4 hA' hB' v1 v24 eK
        rw [wk, wa2] at e
        rw [wb5, wb1, ey] at e'
        have T4 : TH ρ c h4 := by rw [w4]; exact th_wI T qo (k := 108) (lo := 0) (hi := 24) rfl ⟨by omega, v24⟩ (by decide) (by decide) (pm_a hA rfl)
        have J4 : Jo ro h0 h4 := ⟨fun a j => by rw [w4]; exact J.1 a j, fun a => by rw [w4]; exact J.2.1 a, fun a j => by rw [w4]; exact J.2.2.1 a j, fun a j n => by rw [w4, rI_a n]; exact J.2.2.2 a j n⟩
        refine ih g T4 J4 (by rw [w4]; exact Sx) ⟨by omega, by omega⟩ (by omega) (fun ro' er k hk => ?_) ?_ e e'
        · have y : ro' = ro := r_eq (by rw [J4.1]; exact e57) er
          rw [y, w4]
          by_cases z : k = i.toNatClampNeg
          · rw [z, rI_s]; exact v1
          · rw [rI_o z]
            exact W ro (by rw [J.1]; exact e57) k (by omega)
        · rw [cx]
          refine ⟨ins fr pp v, Kn, fun u => ?_⟩
          rw [Cn u]
          show _ = cn (fun j => hI h4 ro j) u i.toNatClampNeg + if hI h4 ro i.toNatClampNeg = u then 1 else 0
          rw [Ck u, w4, rI_s]
          rw [cn_eq (f := fun j => hI (wI hr ro i.toNatClampNeg v) ro j) (g := fun j => hI hr ro j) i.toNatClampNeg (fun j hj => rI_o (by omega))]
      unfold sX0_read_43 at e
      replace e := br_s e
      rcases e with ⟨c5, e⟩ | ⟨c5, e⟩
      · -- a sixth man
        have c5 := le_i c5
        rw [z5] at c5
        have e5 : i = (5 : Int32) := Int32.toInt_inj.mp (by rw [z5]; omega)
        refine Or.inl (flt e ?_)
        have g0 : sX15_solve_109 F (sX15_solve_54 F g) hr m x1 x2 i v (0 : Int32) = some o' → some ((-200 : Int32) - i, hr) = some o' := fun w => by
          rcases f0 w with w | w
          · exact w.2
          · exact absurd e5 w.1
        replace e' := br_s e'
        rcases e' with ⟨_, e'⟩ | ⟨_, e'⟩
        · replace e' := cl_s e'; obtain ⟨o3, eo3, e'⟩ := e'
          rw [← Option.some.inj eo3] at e'
          dsimp only at e'
          replace e' := br_s e'
          rcases e' with ⟨_, e'⟩ | ⟨_, e'⟩
          · exact f1 e'
          · exact g0 e'
        · exact g0 e'
      have c5 := nle_i c5
      rw [z5] at c5
      have n5 : ¬ i = (5 : Int32) := fun z => by rw [z, z5] at c5; omega
      have g0 : sX15_solve_109 F (sX15_solve_54 F g) hr m x1 x2 i v (0 : Int32) = some o' → sX15_solve_138 F (sX15_solve_54 F g) hr m x1 i v ((v - (1 : Int32)) >>> ((1 : Int32) &&& 31)) x2 = some o' := fun w => by
        rcases f0 w with w | w
        · exact absurd w.1 n5
        · exact w.2
      replace e := br_s e
      rcases e with ⟨n, _⟩ | ⟨_, e⟩
      · rw [← Int32.toInt_inj, tv, zm] at n
        omega
      replace e := cl_s e; obtain ⟨r9, p, e⟩ := e
      rw [r_eq ex p] at e
      replace e := br_s e
      replace e' := br_s e'
      rcases e with ⟨b, e⟩ | ⟨b, e⟩
      · -- a royal man
        rcases e' with ⟨_, e'⟩ | ⟨n, _⟩
        rotate_left
        · exact absurd b n
        replace e' := cl_s e'; obtain ⟨o3, eo3, e'⟩ := e'
        rw [← Option.some.inj eo3] at e'
        dsimp only at e'
        replace e := br_s e
        replace e' := br_s e'
        rcases e with ⟨d, e⟩ | ⟨d, e⟩
        · rcases e' with ⟨n, _⟩ | ⟨_, e'⟩
          · rw [n] at d; exact absurd d (by decide)
          replace e' := g0 e'
          unfold sX15_solve_138 sX15_sideOf sX15_solve_154 at e'
          replace e' := cl_s e'; obtain ⟨u2, p, e'⟩ := e'
          rw [r_eq em p, ← royq] at e'
          replace e' := br_s e'
          rcases e' with ⟨_, e'⟩ | ⟨n, _⟩
          rotate_left
          · exact absurd b n
          replace e' := cl_s e'; obtain ⟨o4, eo4, e'⟩ := e'
          rw [← Option.some.inj eo4] at e'
          dsimp only at e'
          replace e := nm_s e; obtain ⟨y12, w12, e⟩ := e
          exact nxt (by omega) w12.symm e e'
        · rcases e' with ⟨_, e'⟩ | ⟨n, _⟩
          · exact Or.inl (flt e (f1 e'))
          · rcases b01 (x2 >>> (((v - (1 : Int32)) &&& (1 : Int32)) &&& 31)) with z | z
            · exact absurd z d
            · exact absurd z n
      rcases e' with ⟨n, _⟩ | ⟨_, e'⟩
      · exact absurd n b
      replace e' := g0 e'
      unfold sX15_solve_138 sX15_sideOf sX15_solve_154 at e'
      replace e' := cl_s e'; obtain ⟨u2, p, e'⟩ := e'
      rw [r_eq em p, ← royq] at e'
      replace e' := br_s e'
      rcases e' with ⟨n, _⟩ | ⟨_, e'⟩
      · exact absurd n b
      exact nxt (by omega) Int32.or_zero e e'
end
end
section
/-! ENDINGS: both from the SET that is asked for to their SETS, with what stays -/
/-- slots and counters forgotten -/
def F5r (m rs : Nat) (g o : Hp) : Prop := (hS o = hS g ∧ ∀ a, hN o a = hN g a) ∧ (∀ a i, hR o a i = hR g a i) ∧ (∀ a i, ¬ (a = m ∧ i = 59) → hJ o a i = hJ g a i) ∧ (∀ a i, ¬ a = rs → ¬ (a = m ∧ (i = 49 ∨ i = 50)) → hI o a i = hI g a i) ∧ hI o m 50 = 0
section
variable {ρ : Nat → Nat} {c : Cm} {F x ks st pw L bm bc m rm re rb rk rs ro R Bc Bm : Nat} {hq g hc hr hc' hr' : Hp} {u b : Int32 × Hp} {x1 key : Int32}
theorem core_j (hF : 2000000 ≤ F) (hA : pmA c soC) (e4 : hR hq x 4 = some ks) (e5 : hR hq x 5 = some st) (e6 : hR hq x 6 = some pw) (n1 : ¬ x = ks) (n2 : ¬ x = st) (n3 : ¬ pw = x) (n4 : ¬ pw = ks) (n5 : ¬ L = pw) (n6 : ¬ L = x) (n7 : ¬ bm = pw) (n8 : ¬ bc = pw) (N : LBn ρ x ks L bm bc R Bc Bm) (sq : Rg 0 64 (hI hq L 2)) (pws : ∀ i, Rg 0 1073741824 (hI hq pw i)) (bcs : ∀ i, (hI hq bc i).toInt ≤ 6) (e14 : hI hq x 14 = key) (eu : sX0_gatherSets F hq x = some u) (T : TH ρ c g) (SR : SlR ρ m rm re rb rk rs ro g) (W : RW m x1.toInt g) (B : RowB ro key x1.toNatClampNeg g) (i1 : Rg 2 5 x1) (sqo : SqOk m g) (hz : hI g R 15 = 0) (sqs : (hI hq L 2).toInt = (hI g m 13).toInt) (K : LBk x L bm bc m R Bc Bm hq g) (eb : (nm (wI g m 49 (0 : Int32)) fun h_3 => nm (wJ h_3 m 59 (0 : Int64)) fun h_4 => nm (wI h_4 m 50 (0 : Int32)) fun h_5 => sX15_solve_203 F F h_5 m x1 (0 : Int32)) = some b) : ∃ g5, F5r m rs g g5 ∧ (((u.1 = 0 ∧ b.1 = (-104 : Int32)) ∧ ∃ o2, sX15_addSet F g5 m x1 = some o2 ∧ (b.2 = o2.2 ∨ ∃ o3, sX15_addAll F o2.2 m = some o3 ∧ b.2 = o3.2)) ∨ (u.1 = 1 ∧ ∃ o2 o3 hc2, sX15_addSet F g5 m x1 = some o2 ∧ sX15_addAll F o2.2 m = some o3 ∧ JS x ks pw m rm re rk rs hc2 o3.2 ∧ (TH ρ c o3.2 ∧ SlR ρ m rm re rb rk rs ro o3.2 ∧ SE m o3.2 ∧ AllS m rm re rs rk R Bc Bm o3.2) ∧ (1 ≤ (hI hc2 x 9).toInt ∧ hI hc2 ks 0 = key) ∧ sX0_gatherSets_104 F hc2 x = some u ∧ sX15_solve_246 F F o3.2 m (0 : Int32) (0 : Int32) = some b)) := by
  have hF7 : 700000 ≤ F := by omega
  have z0 : (0 : Int32).toInt = 0 := rfl
  have hAs : pmA c seL := pmA_s hA rfl
  obtain ⟨⟨a0, a17, a18⟩, ⟨b4, b13, b14⟩, _⟩ := id K
  obtain ⟨⟨nLk, nbk, nck, nbx, ncx⟩, qR, qBc, qBm⟩ := id N
  obtain ⟨⟨r0, qm, qe, qb, qk, qs, qo⟩, ⟨e46, e47, e48, e55, e56, e57⟩⟩ := id SR
  have ne : ∀ {a b i j : Nat}, ρ a = i → ρ b = j → ¬ i = j → ¬ a = b := fun ha hb nn z => nn (by rw [← ha, z]; exact hb)
  -- the class: powers
  obtain ⟨g0, gR, gJ, gI, gP, gQ, eu⟩ := gat_e sq.1 sq.2 a0 e6 n5 eu
  replace eu := nm_s eu; obtain ⟨h2, w2, eu⟩ := eu
  replace eu := nm_s eu; obtain ⟨h3, w3, eu⟩ := eu
  replace eu := cl_s eu; obtain ⟨oc, eoc, e62⟩ := eu
  have hR3 : ∀ a i, hR h3 a i = hR hq a i := fun a i => by rw [w3, w2]; exact gR a i
  have hI3 : ∀ a i, ¬ a = x → ¬ a = pw → hI h3 a i = hI hq a i := fun a i na np => by
    rw [w3]
    show hI h2 a i = _
    rw [w2, rI_a na]; exact gI a i np
  have hx3 : ∀ i, ¬ i = 9 → hI h3 x i = hI hq x i := fun i ni => by
    rw [w3]
    show hI h2 x i = _
    rw [w2, rI_o ni]; exact gI x i (fun z => n3 z.symm)
  have hp3 : ∀ i, hI h3 pw i = hI g0 pw i := fun i => by
    rw [w3]
    show hI h2 pw i = _
    rw [w2, rI_a n3]
  have x9 : hI h3 x 9 = 0 := by
    rw [w3]
    show hI h2 x 9 = _
    rw [w2, rI_s]
  have j18 : hJ h3 x 18 = 0 := by rw [w3, r_J, if_pos ⟨rfl, rfl⟩]
  have k14 : hI h3 x 14 = key := by rw [hx3 14 (by decide)]; exact e14
  rw [k14] at eoc
  -- the reference: slots
  replace eb := nm_s eb; obtain ⟨q3, v3, eb⟩ := eb
  replace eb := nm_s eb; obtain ⟨q4, v4, eb⟩ := eb
  replace eb := nm_s eb; obtain ⟨q5, v5, eb⟩ := eb
  have T3 : TH ρ c q3 := by rw [v3]; exact th_wI T r0 (k := 16) (i := 49) (lo := 0) (hi := 4096) rfl (rg_m (rg_b rfl : Rg 0 0 (0 : Int32)) (by decide)) (by decide) (by decide) (pm_a hA rfl)
  have T4 : TH ρ c q4 := by rw [v4]; exact th_wJ T3 (k := 16) (i := 59) r0 (by decide) (pm_a hA rfl)
  have T5 : TH ρ c q5 := by rw [v5]; exact th_wI T4 r0 (k := 16) (i := 50) (lo := 0) (hi := 4096) rfl (rg_m (rg_b rfl : Rg 0 0 (0 : Int32)) (by decide)) (by decide) (by decide) (pm_a hA rfl)
  have R5 : ∀ a i, hR q5 a i = hR g a i := fun a i => by rw [v5, v4, v3]; rfl
  obtain ⟨g5, Tg, Sg5, Rg5, Jg5, Ig5, Zg5, eb⟩ := r203_j (h := q5) (g := q5) (pmA_s hA rfl) (by rw [R5]; exact e56) qs F T5 ⟨rfl, fun _ => rfl⟩ (fun _ _ => rfl) (fun _ _ => rfl) (fun _ _ _ => rfl) (by decide) (fun j hj => by rw [z0] at hj; omega) eb
  have RR : ∀ a i, hR g5 a i = hR g a i := fun a i => (Rg5 a i).trans (R5 a i)
  have II : ∀ a i, ¬ a = m → ¬ a = rs → hI g5 a i = hI g a i := fun a i na ns => by
    rw [Ig5 a i ns, v5, rI_a na, v4]
    show hI q3 a i = _
    rw [v3, rI_a na]
  have nms : ¬ m = rs := ne r0 qs (by decide)
  have Im : ∀ i, ¬ i = 49 → ¬ i = 50 → hI g5 m i = hI g m i := fun i n49 n50 => by
    rw [Ig5 m i nms, v5, rI_o n50, v4]
    show hI q3 m i = _
    rw [v3, rI_o n49]
  have y49 : hI g5 m 49 = 0 := by
    rw [Ig5 m 49 nms, v5, rI_o (by decide), v4]
    show hI q3 m 49 = _
    rw [v3, rI_s]
  have y59 : hJ g5 m 59 = 0 := by
    rw [Jg5, v5]
    show hJ q4 m 59 = _
    rw [v4, r_J, if_pos ⟨rfl, rfl⟩]
  have SR5 : SlR ρ m rm re rb rk rs ro g5 := slr_r SR RR
  have W5 : RW m x1.toInt g5 := fun ro' er i hi => by
    rw [RR] at er
    have y : ro' = ro := r_eq e57 er
    rw [y, II ro i (ne qo r0 (by decide)) (ne qo qs (by decide))]
    exact W ro e57 i hi
  obtain ⟨o2, eq2, alt⟩ := ref_j hF hA Tg SR5 (by rw [RR]; exact b4) (by rw [RR]; exact b13) (by rw [RR]; exact b14) i1 (by rw [y49]; rfl) (by rw [y59]; rfl) W5 Zg5 (by unfold SqOk; rw [Im 13 (by decide) (by decide), Im 11 (by decide) (by decide), Im 12 (by decide) (by decide)]; exact sqo) (by rw [II R 15 (ne qR r0 (by decide)) (ne qR qs (by decide))]; exact hz) eb
  have P5 := se_init (x0 := m) (h := g5) (by rw [y49]; rfl) (by rw [y59]; rfl) (fun r er j hj => by rw [r_eq (by rw [RR]; exact e56) er, Zg5 j hj, z0]; exact Int.le_refl _)
  have S5 : hS q5 = hS g ∧ ∀ a, hN q5 a = hN g a := by rw [v5, v4, v3]; exact ⟨rfl, fun _ => rfl⟩
  have F5 : F5r m rs g g5 := by
    refine ⟨⟨Sg5.1.trans S5.1, fun a => (Sg5.2 a).trans (S5.2 a)⟩, RR, fun a i ni => ?_, fun a i ns ni => ?_, ?_⟩
    · rw [Jg5, v5]
      show hJ q4 a i = _
      rw [v4, r_J, if_neg ni, v3]
      rfl
    · rw [Ig5 a i ns, v5, r_I, if_neg (fun z => ni ⟨z.1, Or.inr z.2⟩), v4]
      show hI q3 a i = _
      rw [v3, r_I, if_neg (fun z => ni ⟨z.1, Or.inl z.2⟩)]
    · rw [Ig5 m 50 nms, v5, rI_s]
  refine ⟨g5, F5, ?_⟩
  -- both, with no SET yet
  have E3 : CE x ks pw h3 := ⟨⟨by rw [hR3]; exact e4, by rw [hR3]; exact e6⟩, n1, n3, n4⟩
  have J3 : JS x ks pw m rm re rk rs h3 g5 := by
    refine ⟨⟨by rw [x9, y49], by rw [x9]; exact ⟨by decide, by decide⟩⟩, ⟨by rw [j18, y59], by rw [j18]; decide, by rw [j18]; decide⟩, fun k hk => ?_, fun j k _ hk => ?_, fun i hi => ?_, ?_⟩
    · rw [x9, z0] at hk; omega
    · rw [x9, z0] at hk; omega
    · rw [hp3, gP i hi, sqs, Im 13 (by decide) (by decide)]
    · rw [x9, j18]; rfl
  have C3 : CM x ks pw L bc h3 := by
    refine ⟨⟨by rw [hR3]; exact e4, by rw [hR3]; exact e6, by rw [hR3]; exact a0, by rw [hR3]; exact a18⟩, ⟨n1, n3, n4, ncx, nck⟩, fun i => ?_, fun i => by rw [hI3 bc i ncx n8]; exact bcs i⟩
    rw [hp3]
    by_cases l : i ≤ 5
    · have pb := pow_sq (s := (hI hq L 2).toInt) sq.1 sq.2 i l
      exact ⟨by rw [gP i l]; exact pb.1, by rw [gP i l]; exact pb.2⟩
    · rw [gQ i (by omega)]; exact pws i
  have K3 : LBk x L bm bc m R Bc Bm h3 g5 := lbk_k K hR3 (fun a i ha => by
    rcases ha with z | z | z
    · rw [z]; exact hI3 L i n6 n5
    · rw [z]; exact hI3 bm i nbx n7
    · rw [z]; exact hI3 bc i ncx n8) RR (fun a i ha => by
    rcases ha with z | z | z
    · rw [z]; exact II R i (ne qR r0 (by decide)) (ne qR qs (by decide))
    · rw [z]; exact II Bc i (ne qBc r0 (by decide)) (ne qBc qs (by decide))
    · rw [z]; exact II Bm i (ne qBm r0 (by decide)) (ne qBm qs (by decide)))
  obtain ⟨fr, Kk, Ck⟩ := B
  obtain ⟨⟨T2, P2⟩, CF, alt2⟩ := add_p hF7 hAs SR5 Tg P5 E3 J3 (rg_m i1 (by decide)) W5 Kk (fun v => (Ck v).trans (cn_eq _ (fun i _ => (II ro i (ne qo r0 (by decide)) (ne qo qs (by decide))).symm))) eoc eq2
  rcases alt2 with ⟨zz, big⟩ | ⟨zz, RF2, J2⟩
  · rcases alt with ⟨_, eb⟩ | ⟨nz, _⟩
    · exact Or.inl ⟨⟨big_62 big F e62, by rw [eb]⟩, o2, eq2, Or.inl (by rw [eb])⟩
    · exact absurd zz nz
  rcases alt with ⟨z, _⟩ | ⟨_, o3, eq3, alt⟩
  · rw [zz] at z; exact absurd z (by decide)
  have eq3' := eq3
  unfold sX15_addAll at eq3
  have S := sets_p hF7 hAs N F F (x1 := (0 : Int32)) ⟨slr_r SR5 RF2.1, T2, P2, ce_f E3 CF, J2, lb_f N r0 CF RF2 K3⟩ (cm_f CF C3) (by decide) (by rw [z0]; exact J2.1.2.1) e62 eq3
  rcases S with ⟨s1, s2⟩ | ⟨s1, hc2, CF2, J4, e104⟩
  · rcases alt with ⟨_, eb⟩ | ⟨nz, _⟩
    · exact Or.inl ⟨⟨s2, by rw [eb]⟩, o2, eq2, Or.inr ⟨o3, eq3', by rw [eb]⟩⟩
    · exact absurd s1 nz
  rcases alt with ⟨z, _⟩ | ⟨_, tt, _, eb⟩
  · rw [s1] at z; exact absurd z (by decide)
  -- the SET that is asked for is the first
  have z0' : (hI h3 x 9).toInt = 0 := by rw [x9]; rfl
  have fst : (hI oc x 9).toInt = 1 ∧ hI oc ks 0 = key := by
    have pb := pow_sq (s := (hI hq L 2).toInt) sq.1 sq.2 x1.toNatClampNeg (by have := Kk.1; omega)
    have ip : Rg 0 1073741824 (hI h3 pw x1.toNatClampNeg) := ⟨by rw [hp3, gP _ (by have := Kk.1; omega)]; exact pb.1, by rw [hp3, gP _ (by have := Kk.1; omega)]; exact pb.2⟩
    rcases cadd_q hF7 E3.1.1 E3.1.2 n1 Kk (by rw [x9]; exact ⟨by decide, by decide⟩) (by rw [j18]; decide) (by rw [j18]; decide) ip eoc with ⟨⟨k, hk, _⟩, _⟩ | ⟨_, T', eT, cq⟩
    · rw [z0'] at hk; omega
    · rcases cq with ⟨big, eo⟩ | ⟨_, eo⟩
      · exfalso
        have l6 := J2.2.1.2.2
        rw [eo, r_J, if_pos ⟨rfl, rfl⟩, eT] at l6
        rcases big with w | w
        · omega
        · rw [z0'] at w; omega
      · have c0 : (hI h3 x 9).toNatClampNeg = 0 := by rw [x9]; rfl
        refine ⟨by rw [eo, rI_s, x9]; rfl, ?_⟩
        rw [eo, rI_a (fun z => n1 z.symm), c0, rI_s]
  have hRc : ∀ a i, hR hc2 a i = hR hq a i := fun a i => ((CF2.1 a i).trans (CF.1 a i)).trans (hR3 a i)
  obtain ⟨u1, u9⟩ := low_104 n1 n2 (by rw [hRc]; exact e4) (by rw [hRc]; exact e5) J4.2.1.2.2 e104
  exact Or.inr ⟨u1, o2, o3, hc2, eq2, eq3', J4, tt, ⟨by have := CF2.2.2.2.1; omega, by rw [CF2.2.2.1 0 (by omega)]; exact fst.2⟩, e104, eb⟩
end
end
