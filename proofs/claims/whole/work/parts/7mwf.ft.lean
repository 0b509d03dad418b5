/-! what sX5_faultOf writes: printed by wfr.py -/
theorem wh_X5_hasRightMen_132 {n q : Nat} {g : Hp} {F : Nat} {o : Int32 × Hp} (hq : q < 60) {h : Hp} (k : DyK n g h) (e : sX5_hasRightMen_132 F h = some o) : DyK n g o.2 ∧ FrW (WRd n q) h o.2 := by
  unfold sX5_hasRightMen_132 at e
  rw [← Option.some.inj e]; exact ⟨k, fw_0⟩
theorem wh_X1_has_14 {n q : Nat} {g : Hp} {o : Int32 × Hp} {t0 : Int32} (hq : q < 60) {h : Hp} (k : DyK n g h) (e : sX1_has_14 h t0 = some o) : DyK n g o.2 ∧ FrW (WRd n q) h o.2 := by
  unfold sX1_has_14 at e
  replace e := (gd_s e).2
  rw [← Option.some.inj e]; exact ⟨k, fw_0⟩
theorem wh_X1_has {n q : Nat} {g : Hp} {o : Int32 × Hp} {x1 : Int32} (hq : q < 60) {h : Hp} (k : DyK n g h) (e : sX1_has h (n + 5) x1 = some o) : DyK n g o.2 ∧ FrW (WRd n q) h o.2 := by
  unfold sX1_has at e
  rcases br_s e with ⟨_, e⟩ | ⟨_, e⟩
  · exact wh_X1_has_14 hq k e
  · exact wh_X1_has_14 hq k e
theorem wh_X3_inHand {n q : Nat} {g : Hp} {o : Int32 × Hp} {x1 : Int32} {x2 : Int32} (hq : q < 60) {h : Hp} (k : DyK n g h) (e : sX3_inHand h (n + (153 + 6 * q)) x1 x2 = some o) : DyK n g o.2 ∧ FrW (WRd n q) h o.2 := by
  unfold sX3_inHand at e
  obtain ⟨r_1, er_1, e⟩ := cl_s e
  have yr_1 := r_eq (pl_e k hq (p := (3, 4)) (by decide)) er_1
  subst yr_1
  replace e := (gd_s e).2
  rw [← Option.some.inj e]; exact ⟨k, fw_0⟩
theorem wh_X5_hasRightMen_117 {n q : Nat} {g : Hp} {F : Nat} {o : Int32 × Hp} {x2 : Int32} (hq : q < 60) {k_15 : Hp → Nat → Nat → Int32 → Option (Int32 × Hp)} (D_15 : ∀ {h : Hp} {y3 : Int32}, DyK n g h → k_15 h (n + 30) (n + (153 + 6 * q)) y3 = some o → DyK n g o.2 ∧ FrW (WRd n q) h o.2) {h : Hp} (k : DyK n g h) (e : sX5_hasRightMen_117 F k_15 h (n + 30) (n + (153 + 6 * q)) x2 = some o) : DyK n g o.2 ∧ FrW (WRd n q) h o.2 := by
  unfold sX5_hasRightMen_117 at e
  obtain ⟨r_1, er_1, e⟩ := cl_s e
  have yr_1 := dk_ed (a := 30) (b := 5) k (by decide +kernel) er_1
  subst yr_1
  obtain ⟨o_2, eo_2, e⟩ := cl_s e
  obtain ⟨ko_2, fo_2⟩ := wh_X3_inHand hq k eo_2
  rcases br_s e with ⟨_, e⟩ | ⟨_, e⟩
  · obtain ⟨v_4, wv_4, e⟩ := nm_s e
    exact ⟨(D_15 ko_2 e).1, fw_t fo_2 (D_15 ko_2 e).2⟩
  · exact ⟨(wh_X5_hasRightMen_132 hq ko_2 e).1, fw_t fo_2 (wh_X5_hasRightMen_132 hq ko_2 e).2⟩
theorem wh_X5_hasRightMen_96 {n q : Nat} {g : Hp} {F : Nat} {o : Int32 × Hp} {x2 : Int32} {x3 : Int32} (hq : q < 60) {k_15 : Hp → Nat → Nat → Int32 → Option (Int32 × Hp)} (D_15 : ∀ {h : Hp} {y3 : Int32}, DyK n g h → k_15 h (n + 30) (n + (153 + 6 * q)) y3 = some o → DyK n g o.2 ∧ FrW (WRd n q) h o.2) {h : Hp} (k : DyK n g h) (e : sX5_hasRightMen_96 F k_15 h (n + 30) (n + (153 + 6 * q)) x2 x3 = some o) : DyK n g o.2 ∧ FrW (WRd n q) h o.2 := by
  unfold sX5_hasRightMen_96 at e
  rcases br_s e with ⟨_, e⟩ | ⟨_, e⟩
  · exact wh_X5_hasRightMen_132 hq k e
  · rcases br_s e with ⟨_, e⟩ | ⟨_, e⟩
    · obtain ⟨r_3, er_3, e⟩ := cl_s e
      have yr_3 := dk_ed (a := 30) (b := 5) k (by decide +kernel) er_3
      subst yr_3
      obtain ⟨o_4, eo_4, e⟩ := cl_s e
      obtain ⟨ko_4, fo_4⟩ := wh_X1_has hq k eo_4
      rcases br_s e with ⟨_, e⟩ | ⟨_, e⟩
      · exact ⟨(wh_X5_hasRightMen_117 hq D_15 ko_4 e).1, fw_t fo_4 (wh_X5_hasRightMen_117 hq D_15 ko_4 e).2⟩
      · exact ⟨(wh_X5_hasRightMen_132 hq ko_4 e).1, fw_t fo_4 (wh_X5_hasRightMen_132 hq ko_4 e).2⟩
    · exact wh_X5_hasRightMen_117 hq D_15 k e
theorem wh_X11_lowest {n q : Nat} {g : Hp} {o : Int32 × Hp} {x0 : Int64} (hq : q < 60) {h : Hp} (k : DyK n g h) (e : sX11_lowest h x0 = some o) : DyK n g o.2 ∧ FrW (WRd n q) h o.2 := by
  unfold sX11_lowest at e
  replace e := (gd_s e).2
  rw [← Option.some.inj e]; exact ⟨k, fw_0⟩
theorem wh_X5_hasRightMen_88 {n q : Nat} {g : Hp} {F : Nat} {o : Int32 × Hp} {x2 : Int32} {x4 : Int64} {x6 : Int32} {t0 : Int32} {t1 : Int32} (hq : q < 60) {k_15 : Hp → Nat → Nat → Int32 → Option (Int32 × Hp)} (D_15 : ∀ {h : Hp} {y3 : Int32}, DyK n g h → k_15 h (n + 30) (n + (153 + 6 * q)) y3 = some o → DyK n g o.2 ∧ FrW (WRd n q) h o.2) {k_33 : Hp → Nat → Nat → Int32 → Int32 → Int64 → Int32 → Option (Int32 × Hp)} (D_33 : ∀ {h : Hp} {y3 : Int32} {y4 : Int32} {y5 : Int64} {y6 : Int32}, DyK n g h → k_33 h (n + 30) (n + (153 + 6 * q)) y3 y4 y5 y6 = some o → DyK n g o.2 ∧ FrW (WRd n q) h o.2) {h : Hp} (k : DyK n g h) (e : sX5_hasRightMen_88 F k_15 k_33 h (n + 30) (n + (153 + 6 * q)) x2 x4 x6 t0 t1 = some o) : DyK n g o.2 ∧ FrW (WRd n q) h o.2 := by
  unfold sX5_hasRightMen_88 at e
  obtain ⟨v_1, wv_1, e⟩ := nm_s e
  obtain ⟨v_2, wv_2, e⟩ := nm_s e
  exact D_33 k e
theorem wh_X5_hasRightMen_33 {n q : Nat} {g : Hp} {F : Nat} {o : Int32 × Hp} (hq : q < 60) {k_15 : Hp → Nat → Nat → Int32 → Option (Int32 × Hp)} (D_15 : ∀ {h : Hp} {y3 : Int32}, DyK n g h → k_15 h (n + 30) (n + (153 + 6 * q)) y3 = some o → DyK n g o.2 ∧ FrW (WRd n q) h o.2) : ∀ (f : Nat) {h : Hp} {x2 : Int32} {x3 : Int32} {x4 : Int64} {x6 : Int32}, DyK n g h → sX5_hasRightMen_33 F k_15 f h (n + 30) (n + (153 + 6 * q)) x2 x3 x4 x6 = some o → DyK n g o.2 ∧ FrW (WRd n q) h o.2 := by
  intro f
  induction f with
  | zero => intro h x2 x3 x4 x6 _ e; exact absurd e (by rw [sX5_hasRightMen_33]; exact fun z => nomatch z)
  | succ f ih =>
    intro h x2 x3 x4 x6 k e
    rw [sX5_hasRightMen_33] at e
    rcases br_s e with ⟨_, e⟩ | ⟨_, e⟩
    · exact wh_X5_hasRightMen_96 hq D_15 k e
    · rcases br_s e with ⟨_, e⟩ | ⟨_, e⟩
      · exact wh_X5_hasRightMen_96 hq D_15 k e
      · obtain ⟨o_3, eo_3, e⟩ := cl_s e
        obtain ⟨ko_3, fo_3⟩ := wh_X11_lowest hq k eo_3
        obtain ⟨v_4, wv_4, e⟩ := nm_s e
        obtain ⟨r_5, er_5, e⟩ := cl_s e
        have yr_5 := r_eq (pl_e ko_3 hq (p := (0, 1)) (by decide)) er_5
        subst yr_5
        replace e := (gd_s e).2
        obtain ⟨r_7, er_7, e⟩ := cl_s e
        have yr_7 := dk_ed (a := 30) (b := 5) ko_3 (by decide +kernel) er_7
        subst yr_7
        rcases br_s e with ⟨_, e⟩ | ⟨_, e⟩
        · exact ⟨(wh_X5_hasRightMen_88 hq D_15 (fun k e => ih k e) ko_3 e).1, fw_t fo_3 (wh_X5_hasRightMen_88 hq D_15 (fun k e => ih k e) ko_3 e).2⟩
        · exact ⟨(wh_X5_hasRightMen_88 hq D_15 (fun k e => ih k e) ko_3 e).1, fw_t fo_3 (wh_X5_hasRightMen_88 hq D_15 (fun k e => ih k e) ko_3 e).2⟩
theorem wh_X5_hasRightMen_15 {n q : Nat} {g : Hp} {F : Nat} {o : Int32 × Hp} (hq : q < 60) : ∀ (f : Nat) {h : Hp} {x2 : Int32}, DyK n g h → sX5_hasRightMen_15 F f h (n + 30) (n + (153 + 6 * q)) x2 = some o → DyK n g o.2 ∧ FrW (WRd n q) h o.2 := by
  intro f
  induction f with
  | zero => intro h x2 _ e; exact absurd e (by rw [sX5_hasRightMen_15]; exact fun z => nomatch z)
  | succ f ih =>
    intro h x2 k e
    rw [sX5_hasRightMen_15] at e
    rcases br_s e with ⟨_, e⟩ | ⟨_, e⟩
    · rw [← Option.some.inj e]; exact ⟨k, fw_0⟩
    · obtain ⟨r_2, er_2, e⟩ := cl_s e
      have yr_2 := r_eq (pl_e k hq (p := (1, 2)) (by decide)) er_2
      subst yr_2
      replace e := (gd_s e).2
      obtain ⟨v_4, wv_4, e⟩ := nm_s e
      exact wh_X5_hasRightMen_33 hq (fun k e => ih k e) F k e
theorem wh_X5_hasRightMen {n q : Nat} {g : Hp} {F : Nat} {o : Int32 × Hp} (hq : q < 60) {h : Hp} (k : DyK n g h) (e : sX5_hasRightMen F h (n + 30) (n + (153 + 6 * q)) = some o) : DyK n g o.2 ∧ FrW (WRd n q) h o.2 := by
  unfold sX5_hasRightMen at e
  obtain ⟨r_1, er_1, e⟩ := cl_s e
  have yr_1 := dk_ed (a := 30) (b := 5) k (by decide +kernel) er_1
  subst yr_1
  rcases br_s e with ⟨_, e⟩ | ⟨_, e⟩
  · rw [← Option.some.inj e]; exact ⟨k, fw_0⟩
  · exact wh_X5_hasRightMen_15 hq F k e
theorem wh_X5_hasLateMan_89 {n q : Nat} {g : Hp} {F : Nat} {o : Int32 × Hp} (hq : q < 60) {h : Hp} (k : DyK n g h) (e : sX5_hasLateMan_89 F h = some o) : DyK n g o.2 ∧ FrW (WRd n q) h o.2 := by
  unfold sX5_hasLateMan_89 at e
  rw [← Option.some.inj e]; exact ⟨k, fw_0⟩
theorem wh_X1_becomesOthers_24 {n q : Nat} {g : Hp} {o : Int32 × Hp} {t0 : Int32} (hq : q < 60) {h : Hp} (k : DyK n g h) (e : sX1_becomesOthers_24 h t0 = some o) : DyK n g o.2 ∧ FrW (WRd n q) h o.2 := by
  unfold sX1_becomesOthers_24 at e
  replace e := (gd_s e).2
  rw [← Option.some.inj e]; exact ⟨k, fw_0⟩
theorem wh_X1_becomesOthers_23 {n q : Nat} {g : Hp} {o : Int32 × Hp} (hq : q < 60) {h : Hp} (k : DyK n g h) (e : sX1_becomesOthers_23 h = some o) : DyK n g o.2 ∧ FrW (WRd n q) h o.2 := by
  unfold sX1_becomesOthers_23 at e
  exact wh_X1_becomesOthers_24 hq k e
theorem wh_X1_becomesOthers {n q : Nat} {g : Hp} {o : Int32 × Hp} {x1 : Int32} (hq : q < 60) {h : Hp} (k : DyK n g h) (e : sX1_becomesOthers h (n + 5) x1 = some o) : DyK n g o.2 ∧ FrW (WRd n q) h o.2 := by
  unfold sX1_becomesOthers at e
  rcases br_s e with ⟨_, e⟩ | ⟨_, e⟩
  · exact wh_X1_becomesOthers_23 hq k e
  · rcases br_s e with ⟨_, e⟩ | ⟨_, e⟩
    · exact wh_X1_becomesOthers_23 hq k e
    · obtain ⟨r_3, er_3, e⟩ := cl_s e
      have yr_3 := dk_ed (a := 5) (b := 10) k (by decide +kernel) er_3
      subst yr_3
      replace e := (gd_s e).2
      rcases br_s e with ⟨_, e⟩ | ⟨_, e⟩
      · exact wh_X1_becomesOthers_23 hq k e
      · exact wh_X1_becomesOthers_24 hq k e
theorem wh_X5_hasLateMan_83 {n q : Nat} {g : Hp} {F : Nat} {o : Int32 × Hp} {x2 : Int64} {x4 : Int32} (hq : q < 60) {k_17 : Hp → Nat → Nat → Int64 → Int32 → Option (Int32 × Hp)} (D_17 : ∀ {h : Hp} {y3 : Int64} {y4 : Int32}, DyK n g h → k_17 h (n + 30) (n + (153 + 6 * q)) y3 y4 = some o → DyK n g o.2 ∧ FrW (WRd n q) h o.2) {h : Hp} (k : DyK n g h) (e : sX5_hasLateMan_83 F k_17 h (n + 30) (n + (153 + 6 * q)) x2 x4 = some o) : DyK n g o.2 ∧ FrW (WRd n q) h o.2 := by
  unfold sX5_hasLateMan_83 at e
  obtain ⟨v_1, wv_1, e⟩ := nm_s e
  exact D_17 k e
theorem wh_X1_isLast_28 {n q : Nat} {g : Hp} {o : Int32 × Hp} {t0 : Int32} (hq : q < 60) {h : Hp} (k : DyK n g h) (e : sX1_isLast_28 h t0 = some o) : DyK n g o.2 ∧ FrW (WRd n q) h o.2 := by
  unfold sX1_isLast_28 at e
  replace e := (gd_s e).2
  rw [← Option.some.inj e]; exact ⟨k, fw_0⟩
theorem wh_X1_isLast_20 {n q : Nat} {g : Hp} {o : Int32 × Hp} {t0 : Int32} {t1 : Int32} (hq : q < 60) {h : Hp} (k : DyK n g h) (e : sX1_isLast_20 h t0 t1 = some o) : DyK n g o.2 ∧ FrW (WRd n q) h o.2 := by
  unfold sX1_isLast_20 at e
  rcases br_s e with ⟨_, e⟩ | ⟨_, e⟩
  · exact wh_X1_isLast_28 hq k e
  · exact wh_X1_isLast_28 hq k e
theorem wh_X1_isLast {n q : Nat} {g : Hp} {o : Int32 × Hp} {x1 : Int32} {x2 : Int32} (hq : q < 60) {h : Hp} (k : DyK n g h) (e : sX1_isLast h (n + 5) x1 x2 = some o) : DyK n g o.2 ∧ FrW (WRd n q) h o.2 := by
  unfold sX1_isLast at e
  obtain ⟨r_1, er_1, e⟩ := cl_s e
  have yr_1 := dk_ed (a := 5) (b := 12) k (by decide +kernel) er_1
  subst yr_1
  replace e := (gd_s e).2
  rcases br_s e with ⟨_, e⟩ | ⟨_, e⟩
  · exact wh_X1_isLast_20 hq k e
  · exact wh_X1_isLast_20 hq k e
theorem wh_X5_hasLateMan_17 {n q : Nat} {g : Hp} {F : Nat} {o : Int32 × Hp} (hq : q < 60) : ∀ (f : Nat) {h : Hp} {x2 : Int64} {x4 : Int32}, DyK n g h → sX5_hasLateMan_17 F f h (n + 30) (n + (153 + 6 * q)) x2 x4 = some o → DyK n g o.2 ∧ FrW (WRd n q) h o.2 := by
  intro f
  induction f with
  | zero => intro h x2 x4 _ e; exact absurd e (by rw [sX5_hasLateMan_17]; exact fun z => nomatch z)
  | succ f ih =>
    intro h x2 x4 k e
    rw [sX5_hasLateMan_17] at e
    rcases br_s e with ⟨_, e⟩ | ⟨_, e⟩
    · exact wh_X5_hasLateMan_89 hq k e
    · rcases br_s e with ⟨_, e⟩ | ⟨_, e⟩
      · exact wh_X5_hasLateMan_89 hq k e
      · obtain ⟨o_3, eo_3, e⟩ := cl_s e
        obtain ⟨ko_3, fo_3⟩ := wh_X11_lowest hq k eo_3
        obtain ⟨v_4, wv_4, e⟩ := nm_s e
        obtain ⟨r_5, er_5, e⟩ := cl_s e
        have yr_5 := r_eq (pl_e ko_3 hq (p := (0, 1)) (by decide)) er_5
        subst yr_5
        replace e := (gd_s e).2
        obtain ⟨v_7, wv_7, e⟩ := nm_s e
        obtain ⟨r_8, er_8, e⟩ := cl_s e
        have yr_8 := dk_ed (a := 30) (b := 5) ko_3 (by decide +kernel) er_8
        subst yr_8
        obtain ⟨o_9, eo_9, e⟩ := cl_s e
        obtain ⟨ko_9, fo_9⟩ := wh_X1_becomesOthers hq ko_3 eo_9
        replace fo_9 := fw_t fo_3 fo_9
        rcases br_s e with ⟨_, e⟩ | ⟨_, e⟩
        · exact ⟨(wh_X5_hasLateMan_83 hq (fun k e => ih k e) ko_9 e).1, fw_t fo_9 (wh_X5_hasLateMan_83 hq (fun k e => ih k e) ko_9 e).2⟩
        · obtain ⟨r_11, er_11, e⟩ := cl_s e
          have yr_11 := dk_ed (a := 30) (b := 5) ko_9 (by decide +kernel) er_11
          subst yr_11
          obtain ⟨o_12, eo_12, e⟩ := cl_s e
          obtain ⟨ko_12, fo_12⟩ := wh_X1_isLast hq ko_9 eo_12
          replace fo_12 := fw_t fo_9 fo_12
          rcases br_s e with ⟨_, e⟩ | ⟨_, e⟩
          · exact ⟨(wh_X5_hasLateMan_83 hq (fun k e => ih k e) ko_12 e).1, fw_t fo_12 (wh_X5_hasLateMan_83 hq (fun k e => ih k e) ko_12 e).2⟩
          · rw [← Option.some.inj e]; exact ⟨ko_12, fo_12⟩
theorem wh_X5_hasLateMan {n q : Nat} {g : Hp} {F : Nat} {o : Int32 × Hp} (hq : q < 60) {h : Hp} (k : DyK n g h) (e : sX5_hasLateMan F h (n + 30) (n + (153 + 6 * q)) = some o) : DyK n g o.2 ∧ FrW (WRd n q) h o.2 := by
  unfold sX5_hasLateMan at e
  obtain ⟨r_1, er_1, e⟩ := cl_s e
  have yr_1 := r_eq (pl_e k hq (p := (1, 2)) (by decide)) er_1
  subst yr_1
  replace e := (gd_s e).2
  obtain ⟨r_3, er_3, e⟩ := cl_s e
  have yr_3 := r_eq (pl_e k hq (p := (1, 2)) (by decide)) er_3
  subst yr_3
  replace e := (gd_s e).2
  obtain ⟨v_5, wv_5, e⟩ := nm_s e
  exact wh_X5_hasLateMan_17 hq F k e
theorem wh_X5_hasRightRights_129 {n q : Nat} {g : Hp} {F : Nat} {o : Int32 × Hp} (hq : q < 60) {h : Hp} (k : DyK n g h) (e : sX5_hasRightRights_129 F h = some o) : DyK n g o.2 ∧ FrW (WRd n q) h o.2 := by
  unfold sX5_hasRightRights_129 at e
  rw [← Option.some.inj e]; exact ⟨k, fw_0⟩
theorem wh_X5_hasRightRights_123 {n q : Nat} {g : Hp} {F : Nat} {o : Int32 × Hp} {x2 : Int32} (hq : q < 60) {k_2 : Hp → Nat → Nat → Int32 → Option (Int32 × Hp)} (D_2 : ∀ {h : Hp} {y3 : Int32}, DyK n g h → k_2 h (n + 30) (n + (153 + 6 * q)) y3 = some o → DyK n g o.2 ∧ FrW (WRd n q) h o.2) {h : Hp} (k : DyK n g h) (e : sX5_hasRightRights_123 F k_2 h (n + 30) (n + (153 + 6 * q)) x2 = some o) : DyK n g o.2 ∧ FrW (WRd n q) h o.2 := by
  unfold sX5_hasRightRights_123 at e
  obtain ⟨v_1, wv_1, e⟩ := nm_s e
  exact D_2 k e
theorem wh_X5_hasRightRights_88 {n q : Nat} {g : Hp} {F : Nat} {o : Int32 × Hp} (hq : q < 60) {h : Hp} (k : DyK n g h) (e : sX5_hasRightRights_88 F h = some o) : DyK n g o.2 ∧ FrW (WRd n q) h o.2 := by
  unfold sX5_hasRightRights_88 at e
  rw [← Option.some.inj e]; exact ⟨k, fw_0⟩
theorem wh_X1_isFirst {n q : Nat} {g : Hp} {o : Int32 × Hp} {x1 : Int32} {x2 : Int32} (hq : q < 60) {h : Hp} (k : DyK n g h) (e : sX1_isFirst h (n + 5) x1 x2 = some o) : DyK n g o.2 ∧ FrW (WRd n q) h o.2 := by
  unfold sX1_isFirst at e
  obtain ⟨o_1, eo_1, e⟩ := cl_s e
  obtain ⟨ko_1, fo_1⟩ := wh_X1_isLast hq k eo_1
  replace e := (gd_s e).2
  rw [← Option.some.inj e]; exact ⟨ko_1, fo_1⟩
theorem wh_X5_hasRightRights_121 {n q : Nat} {g : Hp} {F : Nat} {o : Int32 × Hp} (hq : q < 60) {h : Hp} (k : DyK n g h) (e : sX5_hasRightRights_121 F h = some o) : DyK n g o.2 ∧ FrW (WRd n q) h o.2 := by
  unfold sX5_hasRightRights_121 at e
  rw [← Option.some.inj e]; exact ⟨k, fw_0⟩
theorem wh_X5_hasRightRights_2 {n q : Nat} {g : Hp} {F : Nat} {o : Int32 × Hp} (hq : q < 60) : ∀ (f : Nat) {h : Hp} {x2 : Int32}, DyK n g h → sX5_hasRightRights_2 F f h (n + 30) (n + (153 + 6 * q)) x2 = some o → DyK n g o.2 ∧ FrW (WRd n q) h o.2 := by
  intro f
  induction f with
  | zero => intro h x2 _ e; exact absurd e (by rw [sX5_hasRightRights_2]; exact fun z => nomatch z)
  | succ f ih =>
    intro h x2 k e
    rw [sX5_hasRightRights_2] at e
    obtain ⟨r_1, er_1, e⟩ := cl_s e
    have yr_1 := dk_ed (a := 30) (b := 5) k (by decide +kernel) er_1
    subst yr_1
    rcases br_s e with ⟨_, e⟩ | ⟨_, e⟩
    · exact wh_X5_hasRightRights_129 hq k e
    · rcases br_s e with ⟨_, e⟩ | ⟨_, e⟩
      · exact wh_X5_hasRightRights_129 hq k e
      · rcases br_s e with ⟨_, e⟩ | ⟨_, e⟩
        · exact wh_X5_hasRightRights_123 hq (fun k e => ih k e) k e
        · obtain ⟨r_5, er_5, e⟩ := cl_s e
          have yr_5 := r_eq (pl_e k hq (p := (0, 1)) (by decide)) er_5
          subst yr_5
          replace e := (gd_s e).2
          obtain ⟨v_7, wv_7, e⟩ := nm_s e
          obtain ⟨r_8, er_8, e⟩ := cl_s e
          have yr_8 := dk_ed (a := 30) (b := 5) k (by decide +kernel) er_8
          subst yr_8
          rcases br_s e with ⟨_, e⟩ | ⟨_, e⟩
          · exact wh_X5_hasRightRights_88 hq k e
          · rcases br_s e with ⟨_, e⟩ | ⟨_, e⟩
            · exact wh_X5_hasRightRights_88 hq k e
            · obtain ⟨r_11, er_11, e⟩ := cl_s e
              have yr_11 := dk_ed (a := 30) (b := 5) k (by decide +kernel) er_11
              subst yr_11
              rcases br_s e with ⟨_, e⟩ | ⟨_, e⟩
              · obtain ⟨r_13, er_13, e⟩ := cl_s e
                have yr_13 := dk_ed (a := 30) (b := 5) k (by decide +kernel) er_13
                subst yr_13
                obtain ⟨o_14, eo_14, e⟩ := cl_s e
                obtain ⟨ko_14, fo_14⟩ := wh_X1_isFirst hq k eo_14
                rcases br_s e with ⟨_, e⟩ | ⟨_, e⟩
                · exact ⟨(wh_X5_hasRightRights_88 hq ko_14 e).1, fw_t fo_14 (wh_X5_hasRightRights_88 hq ko_14 e).2⟩
                · obtain ⟨r_16, er_16, e⟩ := cl_s e
                  have yr_16 := r_eq (pl_e ko_14 hq (p := (2, 3)) (by decide)) er_16
                  subst yr_16
                  replace e := (gd_s e).2
                  obtain ⟨v_18, wv_18, e⟩ := nm_s e
                  rcases br_s e with ⟨_, e⟩ | ⟨_, e⟩
                  · exact ⟨(wh_X5_hasRightRights_121 hq ko_14 e).1, fw_t fo_14 (wh_X5_hasRightRights_121 hq ko_14 e).2⟩
                  · obtain ⟨r_20, er_20, e⟩ := cl_s e
                    have yr_20 := dk_ed (a := 30) (b := 5) ko_14 (by decide +kernel) er_20
                    subst yr_20
                    obtain ⟨o_21, eo_21, e⟩ := cl_s e
                    obtain ⟨ko_21, fo_21⟩ := wh_X1_isFirst hq ko_14 eo_21
                    replace fo_21 := fw_t fo_14 fo_21
                    rcases br_s e with ⟨_, e⟩ | ⟨_, e⟩
                    · exact ⟨(wh_X5_hasRightRights_121 hq ko_21 e).1, fw_t fo_21 (wh_X5_hasRightRights_121 hq ko_21 e).2⟩
                    · exact ⟨(wh_X5_hasRightRights_123 hq (fun k e => ih k e) ko_21 e).1, fw_t fo_21 (wh_X5_hasRightRights_123 hq (fun k e => ih k e) ko_21 e).2⟩
              · exact wh_X5_hasRightRights_88 hq k e
theorem wh_X5_hasRightRights {n q : Nat} {g : Hp} {F : Nat} {o : Int32 × Hp} (hq : q < 60) {h : Hp} (k : DyK n g h) (e : sX5_hasRightRights F h (n + 30) (n + (153 + 6 * q)) = some o) : DyK n g o.2 ∧ FrW (WRd n q) h o.2 := by
  unfold sX5_hasRightRights at e
  exact wh_X5_hasRightRights_2 hq F k e
theorem wh_X5_isRoyalHit_32 {n q : Nat} {g : Hp} {F : Nat} {o : Int32 × Hp} {t0 : Int32} (hq : q < 60) {h : Hp} (k : DyK n g h) (e : sX5_isRoyalHit_32 F h t0 = some o) : DyK n g o.2 ∧ FrW (WRd n q) h o.2 := by
  unfold sX5_isRoyalHit_32 at e
  replace e := (gd_s e).2
  rw [← Option.some.inj e]; exact ⟨k, fw_0⟩
theorem wh_X5_isRoyalHit_31 {n q : Nat} {g : Hp} {F : Nat} {o : Int32 × Hp} (hq : q < 60) {h : Hp} (k : DyK n g h) (e : sX5_isRoyalHit_31 F h = some o) : DyK n g o.2 ∧ FrW (WRd n q) h o.2 := by
  unfold sX5_isRoyalHit_31 at e
  exact wh_X5_isRoyalHit_32 hq k e
theorem wh_X5_isHit_255 {n q : Nat} {g : Hp} {F : Nat} {o : Int32 × Hp} (hq : q < 60) {h : Hp} (k : DyK n g h) (e : sX5_isHit_255 F h = some o) : DyK n g o.2 ∧ FrW (WRd n q) h o.2 := by
  unfold sX5_isHit_255 at e
  rw [← Option.some.inj e]; exact ⟨k, fw_0⟩
theorem wh_X5_isHit_249 {n q : Nat} {g : Hp} {F : Nat} {o : Int32 × Hp} {x2 : Int32} {x4 : Int64} {x6 : Int64} {x8 : Int32} (hq : q < 60) {k_26 : Hp → Nat → Nat → Int32 → Int64 → Int64 → Int32 → Option (Int32 × Hp)} (D_26 : ∀ {h : Hp} {y3 : Int32} {y4 : Int64} {y5 : Int64} {y6 : Int32}, DyK n g h → k_26 h (n + 30) (n + (153 + 6 * q)) y3 y4 y5 y6 = some o → DyK n g o.2 ∧ FrW (WRd n q) h o.2) {h : Hp} (k : DyK n g h) (e : sX5_isHit_249 F k_26 h (n + 30) (n + (153 + 6 * q)) x2 x4 x6 x8 = some o) : DyK n g o.2 ∧ FrW (WRd n q) h o.2 := by
  unfold sX5_isHit_249 at e
  obtain ⟨v_1, wv_1, e⟩ := nm_s e
  exact D_26 k e
theorem wh_X5_isHit_243 {n q : Nat} {g : Hp} {F : Nat} {o : Int32 × Hp} {x2 : Int32} {x4 : Int64} {x6 : Int64} {x8 : Int32} {x13 : Int32} {x14 : Int32} (hq : q < 60) {k_26 : Hp → Nat → Nat → Int32 → Int64 → Int64 → Int32 → Option (Int32 × Hp)} (D_26 : ∀ {h : Hp} {y3 : Int32} {y4 : Int64} {y5 : Int64} {y6 : Int32}, DyK n g h → k_26 h (n + 30) (n + (153 + 6 * q)) y3 y4 y5 y6 = some o → DyK n g o.2 ∧ FrW (WRd n q) h o.2) {k_133 : Hp → Nat → Nat → Int32 → Int64 → Int64 → Int32 → Int32 → Int32 → Option (Int32 × Hp)} (D_133 : ∀ {h : Hp} {y3 : Int32} {y4 : Int64} {y5 : Int64} {y6 : Int32} {y7 : Int32} {y8 : Int32}, DyK n g h → k_133 h (n + 30) (n + (153 + 6 * q)) y3 y4 y5 y6 y7 y8 = some o → DyK n g o.2 ∧ FrW (WRd n q) h o.2) {h : Hp} (k : DyK n g h) (e : sX5_isHit_243 F k_26 k_133 h (n + 30) (n + (153 + 6 * q)) x2 x4 x6 x8 x13 x14 = some o) : DyK n g o.2 ∧ FrW (WRd n q) h o.2 := by
  unfold sX5_isHit_243 at e
  obtain ⟨v_1, wv_1, e⟩ := nm_s e
  exact D_133 k e
theorem wh_X5_isHit_227 {n q : Nat} {g : Hp} {F : Nat} {o : Int32 × Hp} {x2 : Int32} {x4 : Int64} {x6 : Int64} {x8 : Int32} {x13 : Int32} {x14 : Int32} {x15 : Int32} {t0 : Int32} (hq : q < 60) {k_26 : Hp → Nat → Nat → Int32 → Int64 → Int64 → Int32 → Option (Int32 × Hp)} (D_26 : ∀ {h : Hp} {y3 : Int32} {y4 : Int64} {y5 : Int64} {y6 : Int32}, DyK n g h → k_26 h (n + 30) (n + (153 + 6 * q)) y3 y4 y5 y6 = some o → DyK n g o.2 ∧ FrW (WRd n q) h o.2) {k_133 : Hp → Nat → Nat → Int32 → Int64 → Int64 → Int32 → Int32 → Int32 → Option (Int32 × Hp)} (D_133 : ∀ {h : Hp} {y3 : Int32} {y4 : Int64} {y5 : Int64} {y6 : Int32} {y7 : Int32} {y8 : Int32}, DyK n g h → k_133 h (n + 30) (n + (153 + 6 * q)) y3 y4 y5 y6 y7 y8 = some o → DyK n g o.2 ∧ FrW (WRd n q) h o.2) {h : Hp} (k : DyK n g h) (e : sX5_isHit_227 F k_26 k_133 h (n + 30) (n + (153 + 6 * q)) x2 x4 x6 x8 x13 x14 x15 t0 = some o) : DyK n g o.2 ∧ FrW (WRd n q) h o.2 := by
  unfold sX5_isHit_227 at e
  rcases br_s e with ⟨_, e⟩ | ⟨_, e⟩
  · exact wh_X5_isHit_243 hq D_26 D_133 k e
  · rcases br_s e with ⟨_, e⟩ | ⟨_, e⟩
    · rw [← Option.some.inj e]; exact ⟨k, fw_0⟩
    · exact wh_X5_isHit_243 hq D_26 D_133 k e
theorem wh_X5_isHit_226 {n q : Nat} {g : Hp} {F : Nat} {o : Int32 × Hp} {x2 : Int32} {x4 : Int64} {x6 : Int64} {x8 : Int32} {x13 : Int32} {x14 : Int32} {x15 : Int32} (hq : q < 60) {k_26 : Hp → Nat → Nat → Int32 → Int64 → Int64 → Int32 → Option (Int32 × Hp)} (D_26 : ∀ {h : Hp} {y3 : Int32} {y4 : Int64} {y5 : Int64} {y6 : Int32}, DyK n g h → k_26 h (n + 30) (n + (153 + 6 * q)) y3 y4 y5 y6 = some o → DyK n g o.2 ∧ FrW (WRd n q) h o.2) {k_133 : Hp → Nat → Nat → Int32 → Int64 → Int64 → Int32 → Int32 → Int32 → Option (Int32 × Hp)} (D_133 : ∀ {h : Hp} {y3 : Int32} {y4 : Int64} {y5 : Int64} {y6 : Int32} {y7 : Int32} {y8 : Int32}, DyK n g h → k_133 h (n + 30) (n + (153 + 6 * q)) y3 y4 y5 y6 y7 y8 = some o → DyK n g o.2 ∧ FrW (WRd n q) h o.2) {h : Hp} (k : DyK n g h) (e : sX5_isHit_226 F k_26 k_133 h (n + 30) (n + (153 + 6 * q)) x2 x4 x6 x8 x13 x14 x15 = some o) : DyK n g o.2 ∧ FrW (WRd n q) h o.2 := by
  unfold sX5_isHit_226 at e
  exact wh_X5_isHit_227 hq D_26 D_133 k e
theorem wh_X5_isHit_133 {n q : Nat} {g : Hp} {F : Nat} {o : Int32 × Hp} (hq : q < 60) {k_26 : Hp → Nat → Nat → Int32 → Int64 → Int64 → Int32 → Option (Int32 × Hp)} (D_26 : ∀ {h : Hp} {y3 : Int32} {y4 : Int64} {y5 : Int64} {y6 : Int32}, DyK n g h → k_26 h (n + 30) (n + (153 + 6 * q)) y3 y4 y5 y6 = some o → DyK n g o.2 ∧ FrW (WRd n q) h o.2) : ∀ (f : Nat) {h : Hp} {x2 : Int32} {x4 : Int64} {x6 : Int64} {x8 : Int32} {x13 : Int32} {x14 : Int32}, DyK n g h → sX5_isHit_133 F k_26 f h (n + 30) (n + (153 + 6 * q)) x2 x4 x6 x8 x13 x14 = some o → DyK n g o.2 ∧ FrW (WRd n q) h o.2 := by
  intro f
  induction f with
  | zero => intro h x2 x4 x6 x8 x13 x14 _ e; exact absurd e (by rw [sX5_isHit_133]; exact fun z => nomatch z)
  | succ f ih =>
    intro h x2 x4 x6 x8 x13 x14 k e
    rw [sX5_isHit_133] at e
    obtain ⟨r_1, er_1, e⟩ := cl_s e
    have yr_1 := dk_ed (a := 30) (b := 22) k (by decide +kernel) er_1
    subst yr_1
    obtain ⟨r_2, er_2, e⟩ := cl_s e
    have yr_2 := dk_ed (a := 22) (b := 23) k (by decide +kernel) er_2
    subst yr_2
    replace e := (gd_s e).2
    rcases br_s e with ⟨_, e⟩ | ⟨_, e⟩
    · exact wh_X5_isHit_249 hq D_26 k e
    · obtain ⟨r_5, er_5, e⟩ := cl_s e
      have yr_5 := dk_ed (a := 30) (b := 22) k (by decide +kernel) er_5
      subst yr_5
      obtain ⟨r_6, er_6, e⟩ := cl_s e
      have yr_6 := dk_ed (a := 22) (b := 24) k (by decide +kernel) er_6
      subst yr_6
      replace e := (gd_s e).2
      obtain ⟨v_8, wv_8, e⟩ := nm_s e
      obtain ⟨r_9, er_9, e⟩ := cl_s e
      have yr_9 := dk_ed (a := 30) (b := 22) k (by decide +kernel) er_9
      subst yr_9
      obtain ⟨r_10, er_10, e⟩ := cl_s e
      have yr_10 := dk_ed (a := 22) (b := 25) k (by decide +kernel) er_10
      subst yr_10
      replace e := (gd_s e).2
      obtain ⟨v_12, wv_12, e⟩ := nm_s e
      rcases br_s e with ⟨_, e⟩ | ⟨_, e⟩
      · rcases br_s e with ⟨_, e⟩ | ⟨_, e⟩
        · exact wh_X5_isHit_227 hq D_26 (fun k e => ih k e) k e
        · exact wh_X5_isHit_227 hq D_26 (fun k e => ih k e) k e
      · rcases br_s e with ⟨_, e⟩ | ⟨_, e⟩
        · exact wh_X5_isHit_226 hq D_26 (fun k e => ih k e) k e
        · rcases br_s e with ⟨_, e⟩ | ⟨_, e⟩
          · exact wh_X5_isHit_227 hq D_26 (fun k e => ih k e) k e
          · exact wh_X5_isHit_226 hq D_26 (fun k e => ih k e) k e
theorem wh_X5_isHit_26 {n q : Nat} {g : Hp} {F : Nat} {o : Int32 × Hp} (hq : q < 60) : ∀ (f : Nat) {h : Hp} {x2 : Int32} {x4 : Int64} {x6 : Int64} {x8 : Int32}, DyK n g h → sX5_isHit_26 F f h (n + 30) (n + (153 + 6 * q)) x2 x4 x6 x8 = some o → DyK n g o.2 ∧ FrW (WRd n q) h o.2 := by
  intro f
  induction f with
  | zero => intro h x2 x4 x6 x8 _ e; exact absurd e (by rw [sX5_isHit_26]; exact fun z => nomatch z)
  | succ f ih =>
    intro h x2 x4 x6 x8 k e
    rw [sX5_isHit_26] at e
    rcases br_s e with ⟨_, e⟩ | ⟨_, e⟩
    · exact wh_X5_isHit_255 hq k e
    · rcases br_s e with ⟨_, e⟩ | ⟨_, e⟩
      · exact wh_X5_isHit_255 hq k e
      · obtain ⟨v_3, wv_3, e⟩ := nm_s e
        obtain ⟨v_4, wv_4, e⟩ := nm_s e
        replace e := (gd_s e).2
        obtain ⟨v_6, wv_6, e⟩ := nm_s e
        obtain ⟨r_7, er_7, e⟩ := cl_s e
        have yr_7 := r_eq (pl_e k hq (p := (0, 1)) (by decide)) er_7
        subst yr_7
        replace e := (gd_s e).2
        obtain ⟨v_9, wv_9, e⟩ := nm_s e
        obtain ⟨r_10, er_10, e⟩ := cl_s e
        have yr_10 := dk_ed (a := 30) (b := 22) k (by decide +kernel) er_10
        subst yr_10
        obtain ⟨r_11, er_11, e⟩ := cl_s e
        have yr_11 := dk_ed (a := 22) (b := 27) k (by decide +kernel) er_11
        subst yr_11
        replace e := (gd_s e).2
        rcases br_s e with ⟨_, e⟩ | ⟨_, e⟩
        · exact wh_X5_isHit_249 hq (fun k e => ih k e) k e
        · obtain ⟨v_14, wv_14, e⟩ := nm_s e
          obtain ⟨r_15, er_15, e⟩ := cl_s e
          have yr_15 := dk_ed (a := 30) (b := 22) k (by decide +kernel) er_15
          subst yr_15
          obtain ⟨r_16, er_16, e⟩ := cl_s e
          have yr_16 := dk_ed (a := 22) (b := 23) k (by decide +kernel) er_16
          subst yr_16
          replace e := (gd_s e).2
          obtain ⟨v_18, wv_18, e⟩ := nm_s e
          exact wh_X5_isHit_133 hq (fun k e => ih k e) F k e
theorem wh_X5_isHit {n q : Nat} {g : Hp} {F : Nat} {o : Int32 × Hp} {x2 : Int32} {x3 : Int32} (hq : q < 60) {h : Hp} (k : DyK n g h) (e : sX5_isHit F h (n + 30) (n + (153 + 6 * q)) x2 x3 = some o) : DyK n g o.2 ∧ FrW (WRd n q) h o.2 := by
  unfold sX5_isHit at e
  obtain ⟨r_1, er_1, e⟩ := cl_s e
  have yr_1 := r_eq (pl_e k hq (p := (1, 2)) (by decide)) er_1
  subst yr_1
  replace e := (gd_s e).2
  obtain ⟨r_3, er_3, e⟩ := cl_s e
  have yr_3 := r_eq (pl_e k hq (p := (1, 2)) (by decide)) er_3
  subst yr_3
  replace e := (gd_s e).2
  obtain ⟨v_5, wv_5, e⟩ := nm_s e
  obtain ⟨r_6, er_6, e⟩ := cl_s e
  have yr_6 := r_eq (pl_e k hq (p := (1, 2)) (by decide)) er_6
  subst yr_6
  replace e := (gd_s e).2
  obtain ⟨v_8, wv_8, e⟩ := nm_s e
  exact wh_X5_isHit_26 hq F k e
theorem wh_X5_isRoyalHit {n q : Nat} {g : Hp} {F : Nat} {o : Int32 × Hp} {x2 : Int32} (hq : q < 60) {h : Hp} (k : DyK n g h) (e : sX5_isRoyalHit F h (n + 30) (n + (153 + 6 * q)) x2 = some o) : DyK n g o.2 ∧ FrW (WRd n q) h o.2 := by
  unfold sX5_isRoyalHit at e
  obtain ⟨r_1, er_1, e⟩ := cl_s e
  have yr_1 := r_eq (pl_e k hq (p := (2, 3)) (by decide)) er_1
  subst yr_1
  replace e := (gd_s e).2
  rcases br_s e with ⟨_, e⟩ | ⟨_, e⟩
  · exact wh_X5_isRoyalHit_31 hq k e
  · obtain ⟨r_4, er_4, e⟩ := cl_s e
    have yr_4 := r_eq (pl_e k hq (p := (2, 3)) (by decide)) er_4
    subst yr_4
    replace e := (gd_s e).2
    obtain ⟨o_6, eo_6, e⟩ := cl_s e
    obtain ⟨ko_6, fo_6⟩ := wh_X5_isHit hq k eo_6
    rcases br_s e with ⟨_, e⟩ | ⟨_, e⟩
    · exact ⟨(wh_X5_isRoyalHit_31 hq ko_6 e).1, fw_t fo_6 (wh_X5_isRoyalHit_31 hq ko_6 e).2⟩
    · exact ⟨(wh_X5_isRoyalHit_32 hq ko_6 e).1, fw_t fo_6 (wh_X5_isRoyalHit_32 hq ko_6 e).2⟩
theorem wh_X5_faultOf_136 {n q : Nat} {g : Hp} {F : Nat} {o : Int32 × Hp} {t0 : Int32} (hq : q < 60) {h : Hp} (k : DyK n g h) (e : sX5_faultOf_136 F h t0 = some o) : DyK n g o.2 ∧ FrW (WRd n q) h o.2 := by
  unfold sX5_faultOf_136 at e
  rw [← Option.some.inj e]; exact ⟨k, fw_0⟩
theorem wh_X5_faultOf_135 {n q : Nat} {g : Hp} {F : Nat} {o : Int32 × Hp} (hq : q < 60) {h : Hp} (k : DyK n g h) (e : sX5_faultOf_135 F h = some o) : DyK n g o.2 ∧ FrW (WRd n q) h o.2 := by
  unfold sX5_faultOf_135 at e
  exact wh_X5_faultOf_136 hq k e
theorem wh_X5_faultOf_130 {n q : Nat} {g : Hp} {F : Nat} {o : Int32 × Hp} (hq : q < 60) {h : Hp} (k : DyK n g h) (e : sX5_faultOf_130 F h = some o) : DyK n g o.2 ∧ FrW (WRd n q) h o.2 := by
  unfold sX5_faultOf_130 at e
  exact wh_X5_faultOf_136 hq k e
theorem wh_X5_faultOf_97 {n q : Nat} {g : Hp} {F : Nat} {o : Int32 × Hp} (hq : q < 60) {h : Hp} (k : DyK n g h) (e : sX5_faultOf_97 F h (n + 30) (n + (153 + 6 * q)) = some o) : DyK n g o.2 ∧ FrW (WRd n q) h o.2 := by
  unfold sX5_faultOf_97 at e
  obtain ⟨r_1, er_1, e⟩ := cl_s e
  have yr_1 := dk_ed (a := 30) (b := 5) k (by decide +kernel) er_1
  subst yr_1
  obtain ⟨o_2, eo_2, e⟩ := cl_s e
  obtain ⟨ko_2, fo_2⟩ := wh_X1_has hq k eo_2
  rcases br_s e with ⟨_, e⟩ | ⟨_, e⟩
  · obtain ⟨r_4, er_4, e⟩ := cl_s e
    have yr_4 := r_eq (pl_e ko_2 hq (p := (3, 4)) (by decide)) er_4
    subst yr_4
    replace e := (gd_s e).2
    rcases br_s e with ⟨_, e⟩ | ⟨_, e⟩
    · obtain ⟨r_7, er_7, e⟩ := cl_s e
      have yr_7 := r_eq (pl_e ko_2 hq (p := (3, 4)) (by decide)) er_7
      subst yr_7
      replace e := (gd_s e).2
      rcases br_s e with ⟨_, e⟩ | ⟨_, e⟩
      · exact ⟨(wh_X5_faultOf_135 hq ko_2 e).1, fw_t fo_2 (wh_X5_faultOf_135 hq ko_2 e).2⟩
      · exact ⟨(wh_X5_faultOf_130 hq ko_2 e).1, fw_t fo_2 (wh_X5_faultOf_130 hq ko_2 e).2⟩
    · exact ⟨(wh_X5_faultOf_130 hq ko_2 e).1, fw_t fo_2 (wh_X5_faultOf_130 hq ko_2 e).2⟩
  · exact ⟨(wh_X5_faultOf_135 hq ko_2 e).1, fw_t fo_2 (wh_X5_faultOf_135 hq ko_2 e).2⟩
theorem wh_X5_faultOf_94 {n q : Nat} {g : Hp} {F : Nat} {o : Int32 × Hp} (hq : q < 60) {h : Hp} (k : DyK n g h) (e : sX5_faultOf_94 F h = some o) : DyK n g o.2 ∧ FrW (WRd n q) h o.2 := by
  unfold sX5_faultOf_94 at e
  rw [← Option.some.inj e]; exact ⟨k, fw_0⟩
theorem wh_X5_faultOf_49 {n q : Nat} {g : Hp} {F : Nat} {o : Int32 × Hp} (hq : q < 60) {h : Hp} (k : DyK n g h) (e : sX5_faultOf_49 F h (n + 30) (n + (153 + 6 * q)) = some o) : DyK n g o.2 ∧ FrW (WRd n q) h o.2 := by
  unfold sX5_faultOf_49 at e
  obtain ⟨o_1, eo_1, e⟩ := cl_s e
  obtain ⟨ko_1, fo_1⟩ := wh_X5_isRoyalHit hq k eo_1
  rcases br_s e with ⟨_, e⟩ | ⟨_, e⟩
  · obtain ⟨r_3, er_3, e⟩ := cl_s e
    have yr_3 := dk_ed (a := 30) (b := 5) ko_1 (by decide +kernel) er_3
    subst yr_3
    rcases br_s e with ⟨_, e⟩ | ⟨_, e⟩
    · obtain ⟨r_5, er_5, e⟩ := cl_s e
      have yr_5 := r_eq (pl_e ko_1 hq (p := (4, 5)) (by decide)) er_5
      subst yr_5
      replace e := (gd_s e).2
      rcases br_s e with ⟨_, e⟩ | ⟨_, e⟩
      · obtain ⟨r_8, er_8, e⟩ := cl_s e
        have yr_8 := r_eq (pl_e ko_1 hq (p := (4, 5)) (by decide)) er_8
        subst yr_8
        replace e := (gd_s e).2
        rcases br_s e with ⟨_, e⟩ | ⟨_, e⟩
        · exact ⟨(wh_X5_faultOf_97 hq ko_1 e).1, fw_t fo_1 (wh_X5_faultOf_97 hq ko_1 e).2⟩
        · exact ⟨(wh_X5_faultOf_94 hq ko_1 e).1, fw_t fo_1 (wh_X5_faultOf_94 hq ko_1 e).2⟩
      · exact ⟨(wh_X5_faultOf_94 hq ko_1 e).1, fw_t fo_1 (wh_X5_faultOf_94 hq ko_1 e).2⟩
    · exact ⟨(wh_X5_faultOf_97 hq ko_1 e).1, fw_t fo_1 (wh_X5_faultOf_97 hq ko_1 e).2⟩
  · rw [← Option.some.inj e]; exact ⟨ko_1, fo_1⟩
theorem wh_X3_passSize {n q : Nat} {g : Hp} {o : Int32 × Hp} (hq : q < 60) {h : Hp} (k : DyK n g h) (e : sX3_passSize h (n + (153 + 6 * q)) = some o) : DyK n g o.2 ∧ FrW (WRd n q) h o.2 := by
  unfold sX3_passSize at e
  rw [← Option.some.inj e]; exact ⟨k, fw_0⟩
theorem wh_X3_passSquare {n q : Nat} {g : Hp} {o : Int32 × Hp} {x1 : Int32} (hq : q < 60) {h : Hp} (k : DyK n g h) (e : sX3_passSquare h (n + (153 + 6 * q)) x1 = some o) : DyK n g o.2 ∧ FrW (WRd n q) h o.2 := by
  unfold sX3_passSquare at e
  rw [← Option.some.inj e]; exact ⟨k, fw_0⟩
theorem wh_X5_hasRightPass_55 {n q : Nat} {g : Hp} {F : Nat} {o : Int32 × Hp} (hq : q < 60) {h : Hp} (k : DyK n g h) (e : sX5_hasRightPass_55 F h = some o) : DyK n g o.2 ∧ FrW (WRd n q) h o.2 := by
  unfold sX5_hasRightPass_55 at e
  rw [← Option.some.inj e]; exact ⟨k, fw_0⟩
theorem wh_X3_occupied {n q : Nat} {g : Hp} {o : Int64 × Hp} (hq : q < 60) {h : Hp} (k : DyK n g h) (e : sX3_occupied h (n + (153 + 6 * q)) = some o) : DyK n g o.2 ∧ FrW (WRd n q) h o.2 := by
  unfold sX3_occupied at e
  obtain ⟨r_1, er_1, e⟩ := cl_s e
  have yr_1 := r_eq (pl_e k hq (p := (1, 2)) (by decide)) er_1
  subst yr_1
  replace e := (gd_s e).2
  obtain ⟨r_3, er_3, e⟩ := cl_s e
  have yr_3 := r_eq (pl_e k hq (p := (1, 2)) (by decide)) er_3
  subst yr_3
  replace e := (gd_s e).2
  rw [← Option.some.inj e]; exact ⟨k, fw_0⟩
theorem wh_X10_cell {n q : Nat} {g : Hp} {o : Int32 × Hp} {x0 : Int32} {x1 : Int32} {x2 : Int32} (hq : q < 60) {h : Hp} (k : DyK n g h) (e : sX10_cell h x0 x1 x2 = some o) : DyK n g o.2 ∧ FrW (WRd n q) h o.2 := by
  unfold sX10_cell at e
  rw [← Option.some.inj e]; exact ⟨k, fw_0⟩
theorem wh_X5_hasRightPass_179 {n q : Nat} {g : Hp} {F : Nat} {o : Int32 × Hp} {x2 : Int32} {x3 : Int32} {x4 : Int32} {x5 : Int32} (hq : q < 60) {k_60 : Hp → Nat → Nat → Int32 → Int32 → Int32 → Int32 → Option (Int32 × Hp)} (D_60 : ∀ {h : Hp} {y3 : Int32} {y4 : Int32} {y5 : Int32} {y6 : Int32}, DyK n g h → k_60 h (n + 30) (n + (153 + 6 * q)) y3 y4 y5 y6 = some o → DyK n g o.2 ∧ FrW (WRd n q) h o.2) {h : Hp} (k : DyK n g h) (e : sX5_hasRightPass_179 F k_60 h (n + 30) (n + (153 + 6 * q)) x2 x3 x4 x5 = some o) : DyK n g o.2 ∧ FrW (WRd n q) h o.2 := by
  unfold sX5_hasRightPass_179 at e
  obtain ⟨v_1, wv_1, e⟩ := nm_s e
  exact D_60 k e
theorem wh_X5_hasRightPass_173 {n q : Nat} {g : Hp} {F : Nat} {o : Int32 × Hp} {x2 : Int32} {x3 : Int32} {x4 : Int32} {x5 : Int32} {x6 : Int32} {x7 : Int32} (hq : q < 60) {k_60 : Hp → Nat → Nat → Int32 → Int32 → Int32 → Int32 → Option (Int32 × Hp)} (D_60 : ∀ {h : Hp} {y3 : Int32} {y4 : Int32} {y5 : Int32} {y6 : Int32}, DyK n g h → k_60 h (n + 30) (n + (153 + 6 * q)) y3 y4 y5 y6 = some o → DyK n g o.2 ∧ FrW (WRd n q) h o.2) {k_108 : Hp → Nat → Nat → Int32 → Int32 → Int32 → Int32 → Int32 → Int32 → Option (Int32 × Hp)} (D_108 : ∀ {h : Hp} {y3 : Int32} {y4 : Int32} {y5 : Int32} {y6 : Int32} {y7 : Int32} {y8 : Int32}, DyK n g h → k_108 h (n + 30) (n + (153 + 6 * q)) y3 y4 y5 y6 y7 y8 = some o → DyK n g o.2 ∧ FrW (WRd n q) h o.2) {h : Hp} (k : DyK n g h) (e : sX5_hasRightPass_173 F k_60 k_108 h (n + 30) (n + (153 + 6 * q)) x2 x3 x4 x5 x6 x7 = some o) : DyK n g o.2 ∧ FrW (WRd n q) h o.2 := by
  unfold sX5_hasRightPass_173 at e
  obtain ⟨v_1, wv_1, e⟩ := nm_s e
  exact D_108 k e
theorem wh_X5_wentOver_21 {n q : Nat} {g : Hp} {F : Nat} {o : Int32 × Hp} (hq : q < 60) : ∀ (f : Nat) {h : Hp} {x1 : Int32} {x2 : Int32} {x3 : Int32} {x4 : Int32}, DyK n g h → sX5_wentOver_21 F f h (n + (153 + 6 * q)) x1 x2 x3 x4 = some o → DyK n g o.2 ∧ FrW (WRd n q) h o.2 := by
  intro f
  induction f with
  | zero => intro h x1 x2 x3 x4 _ e; exact absurd e (by rw [sX5_wentOver_21]; exact fun z => nomatch z)
  | succ f ih =>
    intro h x1 x2 x3 x4 k e
    rw [sX5_wentOver_21] at e
    rcases br_s e with ⟨_, e⟩ | ⟨_, e⟩
    · rw [← Option.some.inj e]; exact ⟨k, fw_0⟩
    · obtain ⟨o_2, eo_2, e⟩ := cl_s e
      obtain ⟨ko_2, fo_2⟩ := wh_X3_passSquare hq k eo_2
      rcases br_s e with ⟨_, e⟩ | ⟨_, e⟩
      · obtain ⟨v_4, wv_4, e⟩ := nm_s e
        exact ⟨(ih ko_2 e).1, fw_t fo_2 (ih ko_2 e).2⟩
      · rw [← Option.some.inj e]; exact ⟨ko_2, fo_2⟩
theorem wh_X5_wentOver_17 {n q : Nat} {g : Hp} {F : Nat} {o : Int32 × Hp} {x1 : Int32} {x2 : Int32} {t0 : Int32} (hq : q < 60) {h : Hp} (k : DyK n g h) (e : sX5_wentOver_17 F h (n + (153 + 6 * q)) x1 x2 t0 = some o) : DyK n g o.2 ∧ FrW (WRd n q) h o.2 := by
  unfold sX5_wentOver_17 at e
  exact wh_X5_wentOver_21 hq F k e
theorem wh_X5_wentOver {n q : Nat} {g : Hp} {F : Nat} {o : Int32 × Hp} {x1 : Int32} {x2 : Int32} (hq : q < 60) {h : Hp} (k : DyK n g h) (e : sX5_wentOver F h (n + (153 + 6 * q)) x1 x2 = some o) : DyK n g o.2 ∧ FrW (WRd n q) h o.2 := by
  unfold sX5_wentOver at e
  rcases br_s e with ⟨_, e⟩ | ⟨_, e⟩
  · exact wh_X5_wentOver_17 hq k e
  · obtain ⟨o_2, eo_2, e⟩ := cl_s e
    obtain ⟨ko_2, fo_2⟩ := wh_X3_passSquare hq k eo_2
    replace e := (gd_s e).2
    exact ⟨(wh_X5_wentOver_17 hq ko_2 e).1, fw_t fo_2 (wh_X5_wentOver_17 hq ko_2 e).2⟩
theorem wh_X5_hasRightPass_108 {n q : Nat} {g : Hp} {F : Nat} {o : Int32 × Hp} (hq : q < 60) {k_60 : Hp → Nat → Nat → Int32 → Int32 → Int32 → Int32 → Option (Int32 × Hp)} (D_60 : ∀ {h : Hp} {y3 : Int32} {y4 : Int32} {y5 : Int32} {y6 : Int32}, DyK n g h → k_60 h (n + 30) (n + (153 + 6 * q)) y3 y4 y5 y6 = some o → DyK n g o.2 ∧ FrW (WRd n q) h o.2) : ∀ (f : Nat) {h : Hp} {x2 : Int32} {x3 : Int32} {x4 : Int32} {x5 : Int32} {x6 : Int32} {x7 : Int32}, DyK n g h → sX5_hasRightPass_108 F k_60 f h (n + 30) (n + (153 + 6 * q)) x2 x3 x4 x5 x6 x7 = some o → DyK n g o.2 ∧ FrW (WRd n q) h o.2 := by
  intro f
  induction f with
  | zero => intro h x2 x3 x4 x5 x6 x7 _ e; exact absurd e (by rw [sX5_hasRightPass_108]; exact fun z => nomatch z)
  | succ f ih =>
    intro h x2 x3 x4 x5 x6 x7 k e
    rw [sX5_hasRightPass_108] at e
    obtain ⟨r_1, er_1, e⟩ := cl_s e
    have yr_1 := dk_ed (a := 30) (b := 22) k (by decide +kernel) er_1
    subst yr_1
    obtain ⟨r_2, er_2, e⟩ := cl_s e
    have yr_2 := dk_ed (a := 22) (b := 23) k (by decide +kernel) er_2
    subst yr_2
    replace e := (gd_s e).2
    rcases br_s e with ⟨_, e⟩ | ⟨_, e⟩
    · exact wh_X5_hasRightPass_179 hq D_60 k e
    · obtain ⟨r_5, er_5, e⟩ := cl_s e
      have yr_5 := dk_ed (a := 30) (b := 22) k (by decide +kernel) er_5
      subst yr_5
      obtain ⟨r_6, er_6, e⟩ := cl_s e
      have yr_6 := dk_ed (a := 22) (b := 24) k (by decide +kernel) er_6
      subst yr_6
      replace e := (gd_s e).2
      rcases br_s e with ⟨_, e⟩ | ⟨_, e⟩
      · exact wh_X5_hasRightPass_173 hq D_60 (fun k e => ih k e) k e
      · obtain ⟨r_9, er_9, e⟩ := cl_s e
        have yr_9 := dk_ed (a := 30) (b := 22) k (by decide +kernel) er_9
        subst yr_9
        obtain ⟨r_10, er_10, e⟩ := cl_s e
        have yr_10 := dk_ed (a := 22) (b := 24) k (by decide +kernel) er_10
        subst yr_10
        replace e := (gd_s e).2
        rcases br_s e with ⟨_, e⟩ | ⟨_, e⟩
        · obtain ⟨o_13, eo_13, e⟩ := cl_s e
          obtain ⟨ko_13, fo_13⟩ := wh_X5_wentOver hq k eo_13
          rcases br_s e with ⟨_, e⟩ | ⟨_, e⟩
          · exact ⟨(wh_X5_hasRightPass_173 hq D_60 (fun k e => ih k e) ko_13 e).1, fw_t fo_13 (wh_X5_hasRightPass_173 hq D_60 (fun k e => ih k e) ko_13 e).2⟩
          · rw [← Option.some.inj e]; exact ⟨ko_13, fo_13⟩
        · exact wh_X5_hasRightPass_173 hq D_60 (fun k e => ih k e) k e
theorem wh_X5_hasRightPass_60 {n q : Nat} {g : Hp} {F : Nat} {o : Int32 × Hp} (hq : q < 60) : ∀ (f : Nat) {h : Hp} {x2 : Int32} {x3 : Int32} {x4 : Int32} {x5 : Int32}, DyK n g h → sX5_hasRightPass_60 F f h (n + 30) (n + (153 + 6 * q)) x2 x3 x4 x5 = some o → DyK n g o.2 ∧ FrW (WRd n q) h o.2 := by
  intro f
  induction f with
  | zero => intro h x2 x3 x4 x5 _ e; exact absurd e (by rw [sX5_hasRightPass_60]; exact fun z => nomatch z)
  | succ f ih =>
    intro h x2 x3 x4 x5 k e
    rw [sX5_hasRightPass_60] at e
    obtain ⟨r_1, er_1, e⟩ := cl_s e
    have yr_1 := dk_ed (a := 30) (b := 5) k (by decide +kernel) er_1
    subst yr_1
    rcases br_s e with ⟨_, e⟩ | ⟨_, e⟩
    · rw [← Option.some.inj e]; exact ⟨k, fw_0⟩
    · obtain ⟨r_3, er_3, e⟩ := cl_s e
      have yr_3 := r_eq (pl_e k hq (p := (0, 1)) (by decide)) er_3
      subst yr_3
      replace e := (gd_s e).2
      rcases br_s e with ⟨_, e⟩ | ⟨_, e⟩
      · obtain ⟨o_6, eo_6, e⟩ := cl_s e
        obtain ⟨ko_6, fo_6⟩ := wh_X10_cell hq k eo_6
        obtain ⟨r_7, er_7, e⟩ := cl_s e
        have yr_7 := dk_ed (a := 30) (b := 22) ko_6 (by decide +kernel) er_7
        subst yr_7
        obtain ⟨r_8, er_8, e⟩ := cl_s e
        have yr_8 := dk_ed (a := 22) (b := 23) ko_6 (by decide +kernel) er_8
        subst yr_8
        replace e := (gd_s e).2
        obtain ⟨v_10, wv_10, e⟩ := nm_s e
        exact ⟨(wh_X5_hasRightPass_108 hq (fun k e => ih k e) F ko_6 e).1, fw_t fo_6 (wh_X5_hasRightPass_108 hq (fun k e => ih k e) F ko_6 e).2⟩
      · exact wh_X5_hasRightPass_179 hq (fun k e => ih k e) k e
theorem wh_X5_hasRightPass {n q : Nat} {g : Hp} {F : Nat} {o : Int32 × Hp} (hq : q < 60) {h : Hp} (k : DyK n g h) (e : sX5_hasRightPass F h (n + 30) (n + (153 + 6 * q)) = some o) : DyK n g o.2 ∧ FrW (WRd n q) h o.2 := by
  unfold sX5_hasRightPass at e
  obtain ⟨o_1, eo_1, e⟩ := cl_s e
  obtain ⟨ko_1, fo_1⟩ := wh_X3_passSize hq k eo_1
  obtain ⟨o_2, eo_2, e⟩ := cl_s e
  obtain ⟨ko_2, fo_2⟩ := wh_X3_passSquare hq ko_1 eo_2
  replace fo_2 := fw_t fo_1 fo_2
  obtain ⟨r_3, er_3, e⟩ := cl_s e
  have yr_3 := r_eq (pl_e ko_2 hq (p := (0, 1)) (by decide)) er_3
  subst yr_3
  replace e := (gd_s e).2
  obtain ⟨v_5, wv_5, e⟩ := nm_s e
  rcases br_s e with ⟨_, e⟩ | ⟨_, e⟩
  · exact ⟨(wh_X5_hasRightPass_55 hq ko_2 e).1, fw_t fo_2 (wh_X5_hasRightPass_55 hq ko_2 e).2⟩
  · rcases br_s e with ⟨_, e⟩ | ⟨_, e⟩
    · exact ⟨(wh_X5_hasRightPass_55 hq ko_2 e).1, fw_t fo_2 (wh_X5_hasRightPass_55 hq ko_2 e).2⟩
    · rcases br_s e with ⟨_, e⟩ | ⟨_, e⟩
      · exact ⟨(wh_X5_hasRightPass_55 hq ko_2 e).1, fw_t fo_2 (wh_X5_hasRightPass_55 hq ko_2 e).2⟩
      · obtain ⟨o_9, eo_9, e⟩ := cl_s e
        obtain ⟨ko_9, fo_9⟩ := wh_X3_occupied hq ko_2 eo_9
        replace fo_9 := fw_t fo_2 fo_9
        rcases br_s e with ⟨_, e⟩ | ⟨_, e⟩
        · exact ⟨(wh_X5_hasRightPass_60 hq F ko_9 e).1, fw_t fo_9 (wh_X5_hasRightPass_60 hq F ko_9 e).2⟩
        · exact ⟨(wh_X5_hasRightPass_55 hq ko_9 e).1, fw_t fo_9 (wh_X5_hasRightPass_55 hq ko_9 e).2⟩
theorem wh_X5_faultOf {n q : Nat} {g : Hp} {F : Nat} {o : Int32 × Hp} (hq : q < 60) {h : Hp} (k : DyK n g h) (e : sX5_faultOf F h (n + 30) (n + (153 + 6 * q)) = some o) : DyK n g o.2 ∧ FrW (WRd n q) h o.2 := by
  unfold sX5_faultOf at e
  obtain ⟨o_1, eo_1, e⟩ := cl_s e
  obtain ⟨ko_1, fo_1⟩ := wh_X5_hasRightMen hq k eo_1
  rcases br_s e with ⟨_, e⟩ | ⟨_, e⟩
  · rw [← Option.some.inj e]; exact ⟨ko_1, fo_1⟩
  · obtain ⟨o_3, eo_3, e⟩ := cl_s e
    obtain ⟨ko_3, fo_3⟩ := wh_X5_hasLateMan hq ko_1 eo_3
    replace fo_3 := fw_t fo_1 fo_3
    rcases br_s e with ⟨_, e⟩ | ⟨_, e⟩
    · obtain ⟨o_5, eo_5, e⟩ := cl_s e
      obtain ⟨ko_5, fo_5⟩ := wh_X5_hasRightRights hq ko_3 eo_5
      replace fo_5 := fw_t fo_3 fo_5
      rcases br_s e with ⟨_, e⟩ | ⟨_, e⟩
      · rw [← Option.some.inj e]; exact ⟨ko_5, fo_5⟩
      · rcases br_s e with ⟨_, e⟩ | ⟨_, e⟩
        · exact ⟨(wh_X5_faultOf_49 hq ko_5 e).1, fw_t fo_5 (wh_X5_faultOf_49 hq ko_5 e).2⟩
        · obtain ⟨o_8, eo_8, e⟩ := cl_s e
          obtain ⟨ko_8, fo_8⟩ := wh_X5_hasRightPass hq ko_5 eo_8
          replace fo_8 := fw_t fo_5 fo_8
          rcases br_s e with ⟨_, e⟩ | ⟨_, e⟩
          · rw [← Option.some.inj e]; exact ⟨ko_8, fo_8⟩
          · exact ⟨(wh_X5_faultOf_49 hq ko_8 e).1, fw_t fo_8 (wh_X5_faultOf_49 hq ko_8 e).2⟩
    · rw [← Option.some.inj e]; exact ⟨ko_3, fo_3⟩
