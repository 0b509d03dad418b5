/-! what sX15_isPosition writes: printed by wfr.py -/
theorem wg_X12_clear_38 {n : Nat} {g : Hp} {F : Nat} {o : Hp} : ∀ (f : Nat) {h : Hp} {x1 : Int32}, DyK n g h → sX12_clear_38 F f h (n + 538) x1 = some o → DyK n g o ∧ FrW (WIp n) h o := by
  intro f
  induction f with
  | zero => intro h x1 _ e; exact absurd e (by rw [sX12_clear_38]; exact fun z => nomatch z)
  | succ f ih =>
    intro h x1 k e
    rw [sX12_clear_38] at e
    rcases br_s e with ⟨_, e⟩ | ⟨_, e⟩
    · obtain ⟨r_2, er_2, e⟩ := cl_s e
      have yr_2 := dk_ed (a := 538) (b := 542) k (by decide +kernel) er_2
      subst yr_2
      replace e := (gd_s e).2
      obtain ⟨h_4, wh_4, e⟩ := nm_s e
      have kh_4 : DyK n g h_4 := by rw [wh_4]; exact dk_wI k
      have fh_4 : FrW (WIp n) h h_4 := by rw [wh_4]; exact fw_wI fw_0 (by unfold WIp; omega)
      obtain ⟨r_5, er_5, e⟩ := cl_s e
      have yr_5 := dk_ed (a := 538) (b := 542) kh_4 (by decide +kernel) er_5
      subst yr_5
      replace e := (gd_s e).2
      obtain ⟨h_7, wh_7, e⟩ := nm_s e
      have kh_7 : DyK n g h_7 := by rw [wh_7]; exact dk_wI kh_4
      have fh_7 : FrW (WIp n) h h_7 := by rw [wh_7]; exact fw_wI fh_4 (by unfold WIp; omega)
      obtain ⟨h_8, wh_8, e⟩ := nm_s e
      have kh_8 : DyK n g h_8 := by rw [wh_8]; exact dk_wI kh_7
      have fh_8 : FrW (WIp n) h h_8 := by rw [wh_8]; exact fw_wI fh_7 (by unfold WIp; omega)
      rw [← Option.some.inj e]; exact ⟨kh_8, fh_8⟩
    · obtain ⟨r_9, er_9, e⟩ := cl_s e
      have yr_9 := dk_ed (a := 538) (b := 541) k (by decide +kernel) er_9
      subst yr_9
      replace e := (gd_s e).2
      obtain ⟨h_11, wh_11, e⟩ := nm_s e
      have kh_11 : DyK n g h_11 := by rw [wh_11]; exact dk_wI k
      have fh_11 : FrW (WIp n) h h_11 := by rw [wh_11]; exact fw_wI fw_0 (by unfold WIp; omega)
      obtain ⟨v_12, wv_12, e⟩ := nm_s e
      exact ⟨(ih kh_11 e).1, fw_t fh_11 (ih kh_11 e).2⟩
theorem wg_X12_clear_2 {n : Nat} {g : Hp} {F : Nat} {o : Hp} : ∀ (f : Nat) {h : Hp} {x1 : Int32}, DyK n g h → sX12_clear_2 F f h (n + 538) x1 = some o → DyK n g o ∧ FrW (WIp n) h o := by
  intro f
  induction f with
  | zero => intro h x1 _ e; exact absurd e (by rw [sX12_clear_2]; exact fun z => nomatch z)
  | succ f ih =>
    intro h x1 k e
    rw [sX12_clear_2] at e
    rcases br_s e with ⟨_, e⟩ | ⟨_, e⟩
    · obtain ⟨h_2, wh_2, e⟩ := nm_s e
      have kh_2 : DyK n g h_2 := by rw [wh_2]; exact dk_wI k
      have fh_2 : FrW (WIp n) h h_2 := by rw [wh_2]; exact fw_wI fw_0 (by unfold WIp; omega)
      obtain ⟨h_3, wh_3, e⟩ := nm_s e
      have kh_3 : DyK n g h_3 := by rw [wh_3]; exact dk_wJ kh_2
      have fh_3 : FrW (WIp n) h h_3 := by rw [wh_3]; exact fw_wJ fh_2 (by unfold WIp; omega)
      obtain ⟨h_4, wh_4, e⟩ := nm_s e
      have kh_4 : DyK n g h_4 := by rw [wh_4]; exact dk_wI kh_3
      have fh_4 : FrW (WIp n) h h_4 := by rw [wh_4]; exact fw_wI fh_3 (by unfold WIp; omega)
      exact ⟨(wg_X12_clear_38 F kh_4 e).1, fw_t fh_4 (wg_X12_clear_38 F kh_4 e).2⟩
    · obtain ⟨r_5, er_5, e⟩ := cl_s e
      have yr_5 := dk_ed (a := 538) (b := 539) k (by decide +kernel) er_5
      subst yr_5
      replace e := (gd_s e).2
      obtain ⟨h_7, wh_7, e⟩ := nm_s e
      have kh_7 : DyK n g h_7 := by rw [wh_7]; exact dk_wI k
      have fh_7 : FrW (WIp n) h h_7 := by rw [wh_7]; exact fw_wI fw_0 (by unfold WIp; omega)
      obtain ⟨v_8, wv_8, e⟩ := nm_s e
      exact ⟨(ih kh_7 e).1, fw_t fh_7 (ih kh_7 e).2⟩
theorem wg_X12_clear {n : Nat} {g : Hp} {F : Nat} {o : Hp} {h : Hp} (k : DyK n g h) (e : sX12_clear F h (n + 538) = some o) : DyK n g o ∧ FrW (WIp n) h o := by
  unfold sX12_clear at e
  exact wg_X12_clear_2 F k e
theorem wg_X15_look_24 {n : Nat} {g : Hp} {o : Int32 × Hp} {t0 : Int32} {h : Hp} (k : DyK n g h) (e : sX15_look_24 h t0 = some o) : DyK n g o.2 ∧ FrW (WIp n) h o.2 := by
  unfold sX15_look_24 at e
  rw [← Option.some.inj e]; exact ⟨k, fw_0⟩
theorem wg_X15_look {n : Nat} {g : Hp} {o : Int32 × Hp} {h : Hp} (k : DyK n g h) (e : sX15_look h (n + 513) = some o) : DyK n g o.2 ∧ FrW (WIp n) h o.2 := by
  unfold sX15_look at e
  rcases br_s e with ⟨_, e⟩ | ⟨_, e⟩
  · exact wg_X15_look_24 k e
  · obtain ⟨r_2, er_2, e⟩ := cl_s e
    replace e := (gd_s e).2
    exact wg_X15_look_24 k e
theorem wg_X15_reads {n : Nat} {g : Hp} {o : Int32 × Hp} {x1 : Int32} {h : Hp} (k : DyK n g h) (e : sX15_reads h (n + 513) x1 = some o) : DyK n g o.2 ∧ FrW (WIp n) h o.2 := by
  unfold sX15_reads at e
  obtain ⟨o_1, eo_1, e⟩ := cl_s e
  obtain ⟨ko_1, fo_1⟩ := wg_X15_look k eo_1
  rcases br_s e with ⟨_, e⟩ | ⟨_, e⟩
  · obtain ⟨h_3, wh_3, e⟩ := nm_s e
    have kh_3 : DyK n g h_3 := by rw [wh_3]; exact dk_wI ko_1
    have fh_3 : FrW (WIp n) h h_3 := by rw [wh_3]; exact fw_wI fo_1 (by unfold WIp; omega)
    rw [← Option.some.inj e]; exact ⟨kh_3, fh_3⟩
  · rw [← Option.some.inj e]; exact ⟨ko_1, fo_1⟩
theorem wg_X15_readMen_130 {n : Nat} {g : Hp} {F : Nat} {o : Int32 × Hp} {x2 : Int32} {k_7 : Hp → Nat → Nat → Int32 → Option (Int32 × Hp)} (D_7 : ∀ {h : Hp} {y3 : Int32}, DyK n g h → k_7 h (n + 513) (n + 538) y3 = some o → DyK n g o.2 ∧ FrW (WIp n) h o.2) {h : Hp} (k : DyK n g h) (e : sX15_readMen_130 F k_7 h (n + 513) (n + 538) x2 = some o) : DyK n g o.2 ∧ FrW (WIp n) h o.2 := by
  unfold sX15_readMen_130 at e
  obtain ⟨v_1, wv_1, e⟩ := nm_s e
  exact D_7 k e
theorem wg_X15_valueOf {n : Nat} {g : Hp} {o : Int32 × Hp} {x0 : Int32} {x1 : Int32} {h : Hp} (k : DyK n g h) (e : sX15_valueOf h x0 x1 = some o) : DyK n g o.2 ∧ FrW (WIp n) h o.2 := by
  unfold sX15_valueOf at e
  rw [← Option.some.inj e]; exact ⟨k, fw_0⟩
theorem wg_X15_manLetter_2 {n : Nat} {g : Hp} {F : Nat} {o : Int32 × Hp} : ∀ (f : Nat) {h : Hp} {x1 : Int32} {x2 : Int32}, DyK n g h → sX15_manLetter_2 F f h (n + 513) x1 x2 = some o → DyK n g o.2 ∧ FrW (WIp n) h o.2 := by
  intro f
  induction f with
  | zero => intro h x1 x2 _ e; exact absurd e (by rw [sX15_manLetter_2]; exact fun z => nomatch z)
  | succ f ih =>
    intro h x1 x2 k e
    rw [sX15_manLetter_2] at e
    obtain ⟨r_1, er_1, e⟩ := cl_s e
    rcases br_s e with ⟨_, e⟩ | ⟨_, e⟩
    · rw [← Option.some.inj e]; exact ⟨k, fw_0⟩
    · obtain ⟨r_3, er_3, e⟩ := cl_s e
      obtain ⟨r_4, er_4, e⟩ := cl_s e
      replace e := (gd_s e).2
      rcases br_s e with ⟨_, e⟩ | ⟨_, e⟩
      · obtain ⟨o_13, eo_13, e⟩ := cl_s e
        obtain ⟨ko_13, fo_13⟩ := wg_X15_valueOf k eo_13
        rw [← Option.some.inj e]; exact ⟨ko_13, fo_13⟩
      · obtain ⟨r_7, er_7, e⟩ := cl_s e
        obtain ⟨r_8, er_8, e⟩ := cl_s e
        replace e := (gd_s e).2
        rcases br_s e with ⟨_, e⟩ | ⟨_, e⟩
        · obtain ⟨o_12, eo_12, e⟩ := cl_s e
          obtain ⟨ko_12, fo_12⟩ := wg_X15_valueOf k eo_12
          rw [← Option.some.inj e]; exact ⟨ko_12, fo_12⟩
        · obtain ⟨v_11, wv_11, e⟩ := nm_s e
          exact ih k e
theorem wg_X15_manLetter {n : Nat} {g : Hp} {F : Nat} {o : Int32 × Hp} {x1 : Int32} {h : Hp} (k : DyK n g h) (e : sX15_manLetter F h (n + 513) x1 = some o) : DyK n g o.2 ∧ FrW (WIp n) h o.2 := by
  unfold sX15_manLetter at e
  exact wg_X15_manLetter_2 F k e
theorem wg_X15_readMen_100 {n : Nat} {g : Hp} {F : Nat} {o : Int32 × Hp} {h : Hp} (k : DyK n g h) (e : sX15_readMen_100 F h = some o) : DyK n g o.2 ∧ FrW (WIp n) h o.2 := by
  unfold sX15_readMen_100 at e
  rw [← Option.some.inj e]; exact ⟨k, fw_0⟩
theorem wg_X15_readMen_102 {n : Nat} {g : Hp} {F : Nat} {o : Int32 × Hp} {x2 : Int32} {x3 : Int32} {k_7 : Hp → Nat → Nat → Int32 → Option (Int32 × Hp)} (D_7 : ∀ {h : Hp} {y3 : Int32}, DyK n g h → k_7 h (n + 513) (n + 538) y3 = some o → DyK n g o.2 ∧ FrW (WIp n) h o.2) {k_13 : Hp → Nat → Nat → Int32 → Int32 → Option (Int32 × Hp)} (D_13 : ∀ {h : Hp} {y3 : Int32} {y4 : Int32}, DyK n g h → k_13 h (n + 513) (n + 538) y3 y4 = some o → DyK n g o.2 ∧ FrW (WIp n) h o.2) {h : Hp} (k : DyK n g h) (e : sX15_readMen_102 F k_7 k_13 h (n + 513) (n + 538) x2 x3 = some o) : DyK n g o.2 ∧ FrW (WIp n) h o.2 := by
  unfold sX15_readMen_102 at e
  obtain ⟨h_1, wh_1, e⟩ := nm_s e
  have kh_1 : DyK n g h_1 := by rw [wh_1]; exact dk_wI k
  have fh_1 : FrW (WIp n) h h_1 := by rw [wh_1]; exact fw_wI fw_0 (by unfold WIp; omega)
  exact ⟨(D_13 kh_1 e).1, fw_t fh_1 (D_13 kh_1 e).2⟩
theorem wg_X15_readMen_13 {n : Nat} {g : Hp} {F : Nat} {o : Int32 × Hp} {k_7 : Hp → Nat → Nat → Int32 → Option (Int32 × Hp)} (D_7 : ∀ {h : Hp} {y3 : Int32}, DyK n g h → k_7 h (n + 513) (n + 538) y3 = some o → DyK n g o.2 ∧ FrW (WIp n) h o.2) : ∀ (f : Nat) {h : Hp} {x2 : Int32} {x3 : Int32}, DyK n g h → sX15_readMen_13 F k_7 f h (n + 513) (n + 538) x2 x3 = some o → DyK n g o.2 ∧ FrW (WIp n) h o.2 := by
  intro f
  induction f with
  | zero => intro h x2 x3 _ e; exact absurd e (by rw [sX15_readMen_13]; exact fun z => nomatch z)
  | succ f ih =>
    intro h x2 x3 k e
    rw [sX15_readMen_13] at e
    rcases br_s e with ⟨_, e⟩ | ⟨_, e⟩
    · rcases br_s e with ⟨_, e⟩ | ⟨_, e⟩
      · exact wg_X15_readMen_130 D_7 k e
      · obtain ⟨o_3, eo_3, e⟩ := cl_s e
        obtain ⟨ko_3, fo_3⟩ := wg_X15_reads k eo_3
        rcases br_s e with ⟨_, e⟩ | ⟨_, e⟩
        · rw [← Option.some.inj e]; exact ⟨ko_3, fo_3⟩
        · exact ⟨(wg_X15_readMen_130 D_7 ko_3 e).1, fw_t fo_3 (wg_X15_readMen_130 D_7 ko_3 e).2⟩
    · obtain ⟨o_5, eo_5, e⟩ := cl_s e
      obtain ⟨ko_5, fo_5⟩ := wg_X15_look k eo_5
      obtain ⟨o_6, eo_6, e⟩ := cl_s e
      obtain ⟨ko_6, fo_6⟩ := wg_X15_manLetter ko_5 eo_6
      replace fo_6 := fw_t fo_5 fo_6
      rcases br_s e with ⟨_, e⟩ | ⟨_, e⟩
      · rcases br_s e with ⟨_, e⟩ | ⟨_, e⟩
        · exact ⟨(wg_X15_readMen_100 ko_6 e).1, fw_t fo_6 (wg_X15_readMen_100 ko_6 e).2⟩
        · rcases br_s e with ⟨_, e⟩ | ⟨_, e⟩
          · exact ⟨(wg_X15_readMen_100 ko_6 e).1, fw_t fo_6 (wg_X15_readMen_100 ko_6 e).2⟩
          · rcases br_s e with ⟨_, e⟩ | ⟨_, e⟩
            · exact ⟨(wg_X15_readMen_100 ko_6 e).1, fw_t fo_6 (wg_X15_readMen_100 ko_6 e).2⟩
            · obtain ⟨v_11, wv_11, e⟩ := nm_s e
              exact ⟨(wg_X15_readMen_102 D_7 (fun k e => ih k e) ko_6 e).1, fw_t fo_6 (wg_X15_readMen_102 D_7 (fun k e => ih k e) ko_6 e).2⟩
      · obtain ⟨r_12, er_12, e⟩ := cl_s e
        have yr_12 := dk_ed (a := 538) (b := 539) ko_6 (by decide +kernel) er_12
        subst yr_12
        replace e := (gd_s e).2
        obtain ⟨h_14, wh_14, e⟩ := nm_s e
        have kh_14 : DyK n g h_14 := by rw [wh_14]; exact dk_wI ko_6
        have fh_14 : FrW (WIp n) h h_14 := by rw [wh_14]; exact fw_wI fo_6 (by unfold WIp; omega)
        obtain ⟨v_15, wv_15, e⟩ := nm_s e
        exact ⟨(wg_X15_readMen_102 D_7 (fun k e => ih k e) kh_14 e).1, fw_t fh_14 (wg_X15_readMen_102 D_7 (fun k e => ih k e) kh_14 e).2⟩
theorem wg_X15_readMen_7 {n : Nat} {g : Hp} {F : Nat} {o : Int32 × Hp} : ∀ (f : Nat) {h : Hp} {x2 : Int32}, DyK n g h → sX15_readMen_7 F f h (n + 513) (n + 538) x2 = some o → DyK n g o.2 ∧ FrW (WIp n) h o.2 := by
  intro f
  induction f with
  | zero => intro h x2 _ e; exact absurd e (by rw [sX15_readMen_7]; exact fun z => nomatch z)
  | succ f ih =>
    intro h x2 k e
    rw [sX15_readMen_7] at e
    rcases br_s e with ⟨_, e⟩ | ⟨_, e⟩
    · obtain ⟨o_2, eo_2, e⟩ := cl_s e
      obtain ⟨ko_2, fo_2⟩ := wg_X15_reads k eo_2
      replace e := (gd_s e).2
      rw [← Option.some.inj e]; exact ⟨ko_2, fo_2⟩
    · exact wg_X15_readMen_13 (fun k e => ih k e) F k e
theorem wg_X15_readMen {n : Nat} {g : Hp} {F : Nat} {o : Int32 × Hp} {h : Hp} (k : DyK n g h) (e : sX15_readMen F h (n + 513) (n + 538) = some o) : DyK n g o.2 ∧ FrW (WIp n) h o.2 := by
  unfold sX15_readMen at e
  obtain ⟨v_1, wv_1, e⟩ := nm_s e
  exact wg_X15_readMen_7 F k e
theorem wg_X15_isPosition_72 {n : Nat} {g : Hp} {F : Nat} {o : Int32 × Hp} {t0 : Int32} {h : Hp} (k : DyK n g h) (e : sX15_isPosition_72 F h t0 = some o) : DyK n g o.2 ∧ FrW (WIp n) h o.2 := by
  unfold sX15_isPosition_72 at e
  replace e := (gd_s e).2
  rw [← Option.some.inj e]; exact ⟨k, fw_0⟩
theorem wg_X15_isPosition_71 {n : Nat} {g : Hp} {F : Nat} {o : Int32 × Hp} {h : Hp} (k : DyK n g h) (e : sX15_isPosition_71 F h = some o) : DyK n g o.2 ∧ FrW (WIp n) h o.2 := by
  unfold sX15_isPosition_71 at e
  exact wg_X15_isPosition_72 k e
theorem wg_X15_readSide_35 {n : Nat} {g : Hp} {o : Int32 × Hp} {t0 : Int32} {h : Hp} (k : DyK n g h) (e : sX15_readSide_35 h (n + 513) t0 (n + 538) = some o) : DyK n g o.2 ∧ FrW (WIp n) h o.2 := by
  unfold sX15_readSide_35 at e
  obtain ⟨h_1, wh_1, e⟩ := nm_s e
  have kh_1 : DyK n g h_1 := by rw [wh_1]; exact dk_wI k
  have fh_1 : FrW (WIp n) h h_1 := by rw [wh_1]; exact fw_wI fw_0 (by unfold WIp; omega)
  obtain ⟨h_2, wh_2, e⟩ := nm_s e
  have kh_2 : DyK n g h_2 := by rw [wh_2]; exact dk_wI kh_1
  have fh_2 : FrW (WIp n) h h_2 := by rw [wh_2]; exact fw_wI fh_1 (by unfold WIp; omega)
  obtain ⟨o_3, eo_3, e⟩ := cl_s e
  obtain ⟨ko_3, fo_3⟩ := wg_X15_reads kh_2 eo_3
  replace fo_3 := fw_t fh_2 fo_3
  replace e := (gd_s e).2
  rw [← Option.some.inj e]; exact ⟨ko_3, fo_3⟩
theorem wg_X15_readSide_20 {n : Nat} {g : Hp} {o : Int32 × Hp} {h : Hp} (k : DyK n g h) (e : sX15_readSide_20 h (n + 513) (n + 538) = some o) : DyK n g o.2 ∧ FrW (WIp n) h o.2 := by
  unfold sX15_readSide_20 at e
  obtain ⟨o_1, eo_1, e⟩ := cl_s e
  obtain ⟨ko_1, fo_1⟩ := wg_X15_look k eo_1
  rcases br_s e with ⟨_, e⟩ | ⟨_, e⟩
  · exact ⟨(wg_X15_readSide_35 ko_1 e).1, fw_t fo_1 (wg_X15_readSide_35 ko_1 e).2⟩
  · exact ⟨(wg_X15_readSide_35 ko_1 e).1, fw_t fo_1 (wg_X15_readSide_35 ko_1 e).2⟩
theorem wg_X15_readSide {n : Nat} {g : Hp} {o : Int32 × Hp} {h : Hp} (k : DyK n g h) (e : sX15_readSide h (n + 513) (n + 538) = some o) : DyK n g o.2 ∧ FrW (WIp n) h o.2 := by
  unfold sX15_readSide at e
  obtain ⟨o_1, eo_1, e⟩ := cl_s e
  obtain ⟨ko_1, fo_1⟩ := wg_X15_look k eo_1
  rcases br_s e with ⟨_, e⟩ | ⟨_, e⟩
  · exact ⟨(wg_X15_readSide_20 ko_1 e).1, fw_t fo_1 (wg_X15_readSide_20 ko_1 e).2⟩
  · obtain ⟨o_3, eo_3, e⟩ := cl_s e
    obtain ⟨ko_3, fo_3⟩ := wg_X15_look ko_1 eo_3
    replace fo_3 := fw_t fo_1 fo_3
    rcases br_s e with ⟨_, e⟩ | ⟨_, e⟩
    · exact ⟨(wg_X15_readSide_20 ko_3 e).1, fw_t fo_3 (wg_X15_readSide_20 ko_3 e).2⟩
    · rw [← Option.some.inj e]; exact ⟨ko_3, fo_3⟩
theorem wg_X15_readSquare_28 {n : Nat} {g : Hp} {o : Int32 × Hp} {h : Hp} (k : DyK n g h) (e : sX15_readSquare_28 h = some o) : DyK n g o.2 ∧ FrW (WIp n) h o.2 := by
  unfold sX15_readSquare_28 at e
  rw [← Option.some.inj e]; exact ⟨k, fw_0⟩
theorem wg_X15_readSquare_68 {n : Nat} {g : Hp} {o : Int32 × Hp} {h : Hp} (k : DyK n g h) (e : sX15_readSquare_68 h = some o) : DyK n g o.2 ∧ FrW (WIp n) h o.2 := by
  unfold sX15_readSquare_68 at e
  rw [← Option.some.inj e]; exact ⟨k, fw_0⟩
theorem wg_X15_readSquare {n : Nat} {g : Hp} {o : Int32 × Hp} {x1 : Int32} {h : Hp} (k : DyK n g h) (e : sX15_readSquare h (n + 513) x1 = some o) : DyK n g o.2 ∧ FrW (WIp n) h o.2 := by
  unfold sX15_readSquare at e
  obtain ⟨o_1, eo_1, e⟩ := cl_s e
  obtain ⟨ko_1, fo_1⟩ := wg_X15_look k eo_1
  obtain ⟨v_2, wv_2, e⟩ := nm_s e
  obtain ⟨o_3, eo_3, e⟩ := cl_s e
  obtain ⟨ko_3, fo_3⟩ := wg_X15_look ko_1 eo_3
  replace fo_3 := fw_t fo_1 fo_3
  rcases br_s e with ⟨_, e⟩ | ⟨_, e⟩
  · exact ⟨(wg_X15_readSquare_28 ko_3 e).1, fw_t fo_3 (wg_X15_readSquare_28 ko_3 e).2⟩
  · rcases br_s e with ⟨_, e⟩ | ⟨_, e⟩
    · exact ⟨(wg_X15_readSquare_28 ko_3 e).1, fw_t fo_3 (wg_X15_readSquare_28 ko_3 e).2⟩
    · rcases br_s e with ⟨_, e⟩ | ⟨_, e⟩
      · obtain ⟨h_7, wh_7, e⟩ := nm_s e
        have kh_7 : DyK n g h_7 := by rw [wh_7]; exact dk_wI ko_3
        have fh_7 : FrW (WIp n) h h_7 := by rw [wh_7]; exact fw_wI fo_3 (by unfold WIp; omega)
        obtain ⟨o_8, eo_8, e⟩ := cl_s e
        obtain ⟨ko_8, fo_8⟩ := wg_X15_look kh_7 eo_8
        replace fo_8 := fw_t fh_7 fo_8
        obtain ⟨v_9, wv_9, e⟩ := nm_s e
        obtain ⟨o_10, eo_10, e⟩ := cl_s e
        obtain ⟨ko_10, fo_10⟩ := wg_X15_look ko_8 eo_10
        replace fo_10 := fw_t fo_8 fo_10
        rcases br_s e with ⟨_, e⟩ | ⟨_, e⟩
        · exact ⟨(wg_X15_readSquare_68 ko_10 e).1, fw_t fo_10 (wg_X15_readSquare_68 ko_10 e).2⟩
        · rcases br_s e with ⟨_, e⟩ | ⟨_, e⟩
          · exact ⟨(wg_X15_readSquare_68 ko_10 e).1, fw_t fo_10 (wg_X15_readSquare_68 ko_10 e).2⟩
          · rcases br_s e with ⟨_, e⟩ | ⟨_, e⟩
            · obtain ⟨h_14, wh_14, e⟩ := nm_s e
              have kh_14 : DyK n g h_14 := by rw [wh_14]; exact dk_wI ko_10
              have fh_14 : FrW (WIp n) h h_14 := by rw [wh_14]; exact fw_wI fo_10 (by unfold WIp; omega)
              rcases br_s e with ⟨_, e⟩ | ⟨_, e⟩
              · obtain ⟨h_16, wh_16, e⟩ := nm_s e
                have kh_16 : DyK n g h_16 := by rw [wh_16]; exact dk_wI kh_14
                have fh_16 : FrW (WIp n) h h_16 := by rw [wh_16]; exact fw_wI fh_14 (by unfold WIp; omega)
                rw [← Option.some.inj e]; exact ⟨kh_16, fh_16⟩
              · obtain ⟨h_17, wh_17, e⟩ := nm_s e
                have kh_17 : DyK n g h_17 := by rw [wh_17]; exact dk_wI kh_14
                have fh_17 : FrW (WIp n) h h_17 := by rw [wh_17]; exact fw_wI fh_14 (by unfold WIp; omega)
                rw [← Option.some.inj e]; exact ⟨kh_17, fh_17⟩
            · exact ⟨(wg_X15_readSquare_68 ko_10 e).1, fw_t fo_10 (wg_X15_readSquare_68 ko_10 e).2⟩
      · exact ⟨(wg_X15_readSquare_28 ko_3 e).1, fw_t fo_3 (wg_X15_readSquare_28 ko_3 e).2⟩
theorem wg_X15_readRights_32 {n : Nat} {g : Hp} {F : Nat} {o : Int32 × Hp} {x2 : Int32} {k_18 : Hp → Nat → Nat → Int32 → Option (Int32 × Hp)} (D_18 : ∀ {h : Hp} {y3 : Int32}, DyK n g h → k_18 h (n + 513) (n + 538) y3 = some o → DyK n g o.2 ∧ FrW (WIp n) h o.2) {h : Hp} (k : DyK n g h) (e : sX15_readRights_32 F k_18 h (n + 513) (n + 538) x2 = some o) : DyK n g o.2 ∧ FrW (WIp n) h o.2 := by
  unfold sX15_readRights_32 at e
  obtain ⟨o_1, eo_1, e⟩ := cl_s e
  obtain ⟨ko_1, fo_1⟩ := wg_X15_readSquare k eo_1
  rcases br_s e with ⟨_, e⟩ | ⟨_, e⟩
  · rw [← Option.some.inj e]; exact ⟨ko_1, fo_1⟩
  · obtain ⟨v_3, wv_3, e⟩ := nm_s e
    obtain ⟨h_4, wh_4, e⟩ := nm_s e
    have kh_4 : DyK n g h_4 := by rw [wh_4]; exact dk_wJ ko_1
    have fh_4 : FrW (WIp n) h h_4 := by rw [wh_4]; exact fw_wJ fo_1 (by unfold WIp; omega)
    exact ⟨(D_18 kh_4 e).1, fw_t fh_4 (D_18 kh_4 e).2⟩
theorem wg_X15_readRights_18 {n : Nat} {g : Hp} {F : Nat} {o : Int32 × Hp} : ∀ (f : Nat) {h : Hp} {x2 : Int32}, DyK n g h → sX15_readRights_18 F f h (n + 513) (n + 538) x2 = some o → DyK n g o.2 ∧ FrW (WIp n) h o.2 := by
  intro f
  induction f with
  | zero => intro h x2 _ e; exact absurd e (by rw [sX15_readRights_18]; exact fun z => nomatch z)
  | succ f ih =>
    intro h x2 k e
    rw [sX15_readRights_18] at e
    rcases br_s e with ⟨_, e⟩ | ⟨_, e⟩
    · exact wg_X15_readRights_32 (fun k e => ih k e) k e
    · obtain ⟨o_2, eo_2, e⟩ := cl_s e
      obtain ⟨ko_2, fo_2⟩ := wg_X15_look k eo_2
      rcases br_s e with ⟨_, e⟩ | ⟨_, e⟩
      · obtain ⟨o_4, eo_4, e⟩ := cl_s e
        obtain ⟨ko_4, fo_4⟩ := wg_X15_reads ko_2 eo_4
        replace fo_4 := fw_t fo_2 fo_4
        replace e := (gd_s e).2
        rw [← Option.some.inj e]; exact ⟨ko_4, fo_4⟩
      · exact ⟨(wg_X15_readRights_32 (fun k e => ih k e) ko_2 e).1, fw_t fo_2 (wg_X15_readRights_32 (fun k e => ih k e) ko_2 e).2⟩
theorem wg_X15_readRights {n : Nat} {g : Hp} {F : Nat} {o : Int32 × Hp} {h : Hp} (k : DyK n g h) (e : sX15_readRights F h (n + 513) (n + 538) = some o) : DyK n g o.2 ∧ FrW (WIp n) h o.2 := by
  unfold sX15_readRights at e
  obtain ⟨o_1, eo_1, e⟩ := cl_s e
  obtain ⟨ko_1, fo_1⟩ := wg_X15_reads k eo_1
  rcases br_s e with ⟨_, e⟩ | ⟨_, e⟩
  · exact ⟨(wg_X15_readRights_18 F ko_1 e).1, fw_t fo_1 (wg_X15_readRights_18 F ko_1 e).2⟩
  · obtain ⟨o_3, eo_3, e⟩ := cl_s e
    obtain ⟨ko_3, fo_3⟩ := wg_X15_reads ko_1 eo_3
    replace fo_3 := fw_t fo_1 fo_3
    replace e := (gd_s e).2
    rw [← Option.some.inj e]; exact ⟨ko_3, fo_3⟩
theorem wg_X15_readPass_58 {n : Nat} {g : Hp} {F : Nat} {o : Int32 × Hp} {x2 : Int32} {k_18 : Hp → Nat → Nat → Int32 → Option (Int32 × Hp)} (D_18 : ∀ {h : Hp} {y3 : Int32}, DyK n g h → k_18 h (n + 513) (n + 538) y3 = some o → DyK n g o.2 ∧ FrW (WIp n) h o.2) {h : Hp} (k : DyK n g h) (e : sX15_readPass_58 F k_18 h (n + 513) (n + 538) x2 = some o) : DyK n g o.2 ∧ FrW (WIp n) h o.2 := by
  unfold sX15_readPass_58 at e
  obtain ⟨v_1, wv_1, e⟩ := nm_s e
  exact D_18 k e
theorem wg_X15_readPass_32 {n : Nat} {g : Hp} {F : Nat} {o : Int32 × Hp} {x2 : Int32} {k_18 : Hp → Nat → Nat → Int32 → Option (Int32 × Hp)} (D_18 : ∀ {h : Hp} {y3 : Int32}, DyK n g h → k_18 h (n + 513) (n + 538) y3 = some o → DyK n g o.2 ∧ FrW (WIp n) h o.2) {h : Hp} (k : DyK n g h) (e : sX15_readPass_32 F k_18 h (n + 513) (n + 538) x2 = some o) : DyK n g o.2 ∧ FrW (WIp n) h o.2 := by
  unfold sX15_readPass_32 at e
  obtain ⟨o_1, eo_1, e⟩ := cl_s e
  obtain ⟨ko_1, fo_1⟩ := wg_X15_readSquare k eo_1
  rcases br_s e with ⟨_, e⟩ | ⟨_, e⟩
  · rw [← Option.some.inj e]; exact ⟨ko_1, fo_1⟩
  · rcases br_s e with ⟨_, e⟩ | ⟨_, e⟩
    · exact ⟨(wg_X15_readPass_58 D_18 ko_1 e).1, fw_t fo_1 (wg_X15_readPass_58 D_18 ko_1 e).2⟩
    · obtain ⟨r_4, er_4, e⟩ := cl_s e
      have yr_4 := dk_ed (a := 538) (b := 540) ko_1 (by decide +kernel) er_4
      subst yr_4
      replace e := (gd_s e).2
      obtain ⟨h_6, wh_6, e⟩ := nm_s e
      have kh_6 : DyK n g h_6 := by rw [wh_6]; exact dk_wI ko_1
      have fh_6 : FrW (WIp n) h h_6 := by rw [wh_6]; exact fw_wI fo_1 (by unfold WIp; omega)
      exact ⟨(wg_X15_readPass_58 D_18 kh_6 e).1, fw_t fh_6 (wg_X15_readPass_58 D_18 kh_6 e).2⟩
theorem wg_X15_readPass_77 {n : Nat} {g : Hp} {F : Nat} {o : Int32 × Hp} {t0 : Int32} {h : Hp} (k : DyK n g h) (e : sX15_readPass_77 F h (n + 513) t0 (n + 538) = some o) : DyK n g o.2 ∧ FrW (WIp n) h o.2 := by
  unfold sX15_readPass_77 at e
  obtain ⟨h_1, wh_1, e⟩ := nm_s e
  have kh_1 : DyK n g h_1 := by rw [wh_1]; exact dk_wI k
  have fh_1 : FrW (WIp n) h h_1 := by rw [wh_1]; exact fw_wI fw_0 (by unfold WIp; omega)
  obtain ⟨o_2, eo_2, e⟩ := cl_s e
  obtain ⟨ko_2, fo_2⟩ := wg_X15_reads kh_1 eo_2
  replace fo_2 := fw_t fh_1 fo_2
  replace e := (gd_s e).2
  rw [← Option.some.inj e]; exact ⟨ko_2, fo_2⟩
theorem wg_X15_readPass_18 {n : Nat} {g : Hp} {F : Nat} {o : Int32 × Hp} : ∀ (f : Nat) {h : Hp} {x2 : Int32}, DyK n g h → sX15_readPass_18 F f h (n + 513) (n + 538) x2 = some o → DyK n g o.2 ∧ FrW (WIp n) h o.2 := by
  intro f
  induction f with
  | zero => intro h x2 _ e; exact absurd e (by rw [sX15_readPass_18]; exact fun z => nomatch z)
  | succ f ih =>
    intro h x2 k e
    rw [sX15_readPass_18] at e
    rcases br_s e with ⟨_, e⟩ | ⟨_, e⟩
    · exact wg_X15_readPass_32 (fun k e => ih k e) k e
    · obtain ⟨o_2, eo_2, e⟩ := cl_s e
      obtain ⟨ko_2, fo_2⟩ := wg_X15_look k eo_2
      rcases br_s e with ⟨_, e⟩ | ⟨_, e⟩
      · rcases br_s e with ⟨_, e⟩ | ⟨_, e⟩
        · exact ⟨(wg_X15_readPass_77 ko_2 e).1, fw_t fo_2 (wg_X15_readPass_77 ko_2 e).2⟩
        · exact ⟨(wg_X15_readPass_77 ko_2 e).1, fw_t fo_2 (wg_X15_readPass_77 ko_2 e).2⟩
      · exact ⟨(wg_X15_readPass_32 (fun k e => ih k e) ko_2 e).1, fw_t fo_2 (wg_X15_readPass_32 (fun k e => ih k e) ko_2 e).2⟩
theorem wg_X15_readPass {n : Nat} {g : Hp} {F : Nat} {o : Int32 × Hp} {h : Hp} (k : DyK n g h) (e : sX15_readPass F h (n + 513) (n + 538) = some o) : DyK n g o.2 ∧ FrW (WIp n) h o.2 := by
  unfold sX15_readPass at e
  obtain ⟨o_1, eo_1, e⟩ := cl_s e
  obtain ⟨ko_1, fo_1⟩ := wg_X15_reads k eo_1
  rcases br_s e with ⟨_, e⟩ | ⟨_, e⟩
  · exact ⟨(wg_X15_readPass_18 F ko_1 e).1, fw_t fo_1 (wg_X15_readPass_18 F ko_1 e).2⟩
  · obtain ⟨o_3, eo_3, e⟩ := cl_s e
    obtain ⟨ko_3, fo_3⟩ := wg_X15_reads ko_1 eo_3
    replace fo_3 := fw_t fo_1 fo_3
    replace e := (gd_s e).2
    rw [← Option.some.inj e]; exact ⟨ko_3, fo_3⟩
theorem wg_X15_readHands_63 {n : Nat} {g : Hp} {F : Nat} {o : Int32 × Hp} {h : Hp} (k : DyK n g h) (e : sX15_readHands_63 F h = some o) : DyK n g o.2 ∧ FrW (WIp n) h o.2 := by
  unfold sX15_readHands_63 at e
  rw [← Option.some.inj e]; exact ⟨k, fw_0⟩
theorem wg_X15_readHands_31 {n : Nat} {g : Hp} {F : Nat} {o : Int32 × Hp} {x2 : Int32} {k_18 : Hp → Nat → Nat → Int32 → Option (Int32 × Hp)} (D_18 : ∀ {h : Hp} {y3 : Int32}, DyK n g h → k_18 h (n + 513) (n + 538) y3 = some o → DyK n g o.2 ∧ FrW (WIp n) h o.2) {h : Hp} (k : DyK n g h) (e : sX15_readHands_31 F k_18 h (n + 513) (n + 538) x2 = some o) : DyK n g o.2 ∧ FrW (WIp n) h o.2 := by
  unfold sX15_readHands_31 at e
  obtain ⟨o_1, eo_1, e⟩ := cl_s e
  obtain ⟨ko_1, fo_1⟩ := wg_X15_look k eo_1
  obtain ⟨o_2, eo_2, e⟩ := cl_s e
  obtain ⟨ko_2, fo_2⟩ := wg_X15_manLetter ko_1 eo_2
  replace fo_2 := fw_t fo_1 fo_2
  rcases br_s e with ⟨_, e⟩ | ⟨_, e⟩
  · exact ⟨(wg_X15_readHands_63 ko_2 e).1, fw_t fo_2 (wg_X15_readHands_63 ko_2 e).2⟩
  · rcases br_s e with ⟨_, e⟩ | ⟨_, e⟩
    · exact ⟨(wg_X15_readHands_63 ko_2 e).1, fw_t fo_2 (wg_X15_readHands_63 ko_2 e).2⟩
    · obtain ⟨r_5, er_5, e⟩ := cl_s e
      have yr_5 := dk_ed (a := 538) (b := 541) ko_2 (by decide +kernel) er_5
      subst yr_5
      replace e := (gd_s e).2
      rcases br_s e with ⟨_, e⟩ | ⟨_, e⟩
      · exact ⟨(wg_X15_readHands_63 ko_2 e).1, fw_t fo_2 (wg_X15_readHands_63 ko_2 e).2⟩
      · obtain ⟨r_8, er_8, e⟩ := cl_s e
        have yr_8 := dk_ed (a := 538) (b := 541) ko_2 (by decide +kernel) er_8
        subst yr_8
        replace e := (gd_s e).2
        replace e := (gd_s e).2
        obtain ⟨h_11, wh_11, e⟩ := nm_s e
        have kh_11 : DyK n g h_11 := by rw [wh_11]; exact dk_wI ko_2
        have fh_11 : FrW (WIp n) h h_11 := by rw [wh_11]; exact fw_wI fo_2 (by unfold WIp; omega)
        obtain ⟨v_12, wv_12, e⟩ := nm_s e
        obtain ⟨h_13, wh_13, e⟩ := nm_s e
        have kh_13 : DyK n g h_13 := by rw [wh_13]; exact dk_wI kh_11
        have fh_13 : FrW (WIp n) h h_13 := by rw [wh_13]; exact fw_wI fh_11 (by unfold WIp; omega)
        exact ⟨(D_18 kh_13 e).1, fw_t fh_13 (D_18 kh_13 e).2⟩
theorem wg_X15_readHands_18 {n : Nat} {g : Hp} {F : Nat} {o : Int32 × Hp} : ∀ (f : Nat) {h : Hp} {x2 : Int32}, DyK n g h → sX15_readHands_18 F f h (n + 513) (n + 538) x2 = some o → DyK n g o.2 ∧ FrW (WIp n) h o.2 := by
  intro f
  induction f with
  | zero => intro h x2 _ e; exact absurd e (by rw [sX15_readHands_18]; exact fun z => nomatch z)
  | succ f ih =>
    intro h x2 k e
    rw [sX15_readHands_18] at e
    rcases br_s e with ⟨_, e⟩ | ⟨_, e⟩
    · exact wg_X15_readHands_31 (fun k e => ih k e) k e
    · obtain ⟨o_2, eo_2, e⟩ := cl_s e
      obtain ⟨ko_2, fo_2⟩ := wg_X15_look k eo_2
      rcases br_s e with ⟨_, e⟩ | ⟨_, e⟩
      · obtain ⟨o_4, eo_4, e⟩ := cl_s e
        obtain ⟨ko_4, fo_4⟩ := wg_X15_reads ko_2 eo_4
        replace fo_4 := fw_t fo_2 fo_4
        replace e := (gd_s e).2
        rw [← Option.some.inj e]; exact ⟨ko_4, fo_4⟩
      · exact ⟨(wg_X15_readHands_31 (fun k e => ih k e) ko_2 e).1, fw_t fo_2 (wg_X15_readHands_31 (fun k e => ih k e) ko_2 e).2⟩
theorem wg_X15_readHands {n : Nat} {g : Hp} {F : Nat} {o : Int32 × Hp} {h : Hp} (k : DyK n g h) (e : sX15_readHands F h (n + 513) (n + 538) = some o) : DyK n g o.2 ∧ FrW (WIp n) h o.2 := by
  unfold sX15_readHands at e
  obtain ⟨o_1, eo_1, e⟩ := cl_s e
  obtain ⟨ko_1, fo_1⟩ := wg_X15_reads k eo_1
  rcases br_s e with ⟨_, e⟩ | ⟨_, e⟩
  · exact ⟨(wg_X15_readHands_18 F ko_1 e).1, fw_t fo_1 (wg_X15_readHands_18 F ko_1 e).2⟩
  · obtain ⟨o_3, eo_3, e⟩ := cl_s e
    obtain ⟨ko_3, fo_3⟩ := wg_X15_reads ko_1 eo_3
    replace fo_3 := fw_t fo_1 fo_3
    replace e := (gd_s e).2
    rw [← Option.some.inj e]; exact ⟨ko_3, fo_3⟩
theorem wg_X15_readRest_67 {n : Nat} {g : Hp} {F : Nat} {o : Int32 × Hp} {h : Hp} (k : DyK n g h) (e : sX15_readRest_67 F h = some o) : DyK n g o.2 ∧ FrW (WIp n) h o.2 := by
  unfold sX15_readRest_67 at e
  rw [← Option.some.inj e]; exact ⟨k, fw_0⟩
theorem wg_X15_isDigit_17 {n : Nat} {g : Hp} {o : Int32 × Hp} {t0 : Int32} {h : Hp} (k : DyK n g h) (e : sX15_isDigit_17 h t0 = some o) : DyK n g o.2 ∧ FrW (WIp n) h o.2 := by
  unfold sX15_isDigit_17 at e
  replace e := (gd_s e).2
  rw [← Option.some.inj e]; exact ⟨k, fw_0⟩
theorem wg_X15_isDigit_16 {n : Nat} {g : Hp} {o : Int32 × Hp} {h : Hp} (k : DyK n g h) (e : sX15_isDigit_16 h = some o) : DyK n g o.2 ∧ FrW (WIp n) h o.2 := by
  unfold sX15_isDigit_16 at e
  exact wg_X15_isDigit_17 k e
theorem wg_X15_isDigit {n : Nat} {g : Hp} {o : Int32 × Hp} {x0 : Int32} {h : Hp} (k : DyK n g h) (e : sX15_isDigit h x0 = some o) : DyK n g o.2 ∧ FrW (WIp n) h o.2 := by
  unfold sX15_isDigit at e
  rcases br_s e with ⟨_, e⟩ | ⟨_, e⟩
  · exact wg_X15_isDigit_16 k e
  · rcases br_s e with ⟨_, e⟩ | ⟨_, e⟩
    · exact wg_X15_isDigit_16 k e
    · exact wg_X15_isDigit_17 k e
theorem wg_X15_readRest_159 {n : Nat} {g : Hp} {F : Nat} {o : Int32 × Hp} {t0 : Int32} {h : Hp} (k : DyK n g h) (e : sX15_readRest_159 F h t0 = some o) : DyK n g o.2 ∧ FrW (WIp n) h o.2 := by
  unfold sX15_readRest_159 at e
  replace e := (gd_s e).2
  rw [← Option.some.inj e]; exact ⟨k, fw_0⟩
theorem wg_X15_readRest_124 {n : Nat} {g : Hp} {F : Nat} {o : Int32 × Hp} {x2 : Int32} {x3 : Int32} {h : Hp} (k : DyK n g h) (e : sX15_readRest_124 F h (n + 513) (n + 538) x2 x3 = some o) : DyK n g o.2 ∧ FrW (WIp n) h o.2 := by
  unfold sX15_readRest_124 at e
  obtain ⟨h_1, wh_1, e⟩ := nm_s e
  have kh_1 : DyK n g h_1 := by rw [wh_1]; exact dk_wI k
  have fh_1 : FrW (WIp n) h h_1 := by rw [wh_1]; exact fw_wI fw_0 (by unfold WIp; omega)
  rcases br_s e with ⟨_, e⟩ | ⟨_, e⟩
  · rcases br_s e with ⟨_, e⟩ | ⟨_, e⟩
    · exact ⟨(wg_X15_readRest_159 kh_1 e).1, fw_t fh_1 (wg_X15_readRest_159 kh_1 e).2⟩
    · exact ⟨(wg_X15_readRest_159 kh_1 e).1, fw_t fh_1 (wg_X15_readRest_159 kh_1 e).2⟩
  · obtain ⟨h_4, wh_4, e⟩ := nm_s e
    have kh_4 : DyK n g h_4 := by rw [wh_4]; exact dk_wI kh_1
    have fh_4 : FrW (WIp n) h h_4 := by rw [wh_4]; exact fw_wI fh_1 (by unfold WIp; omega)
    rw [← Option.some.inj e]; exact ⟨kh_4, fh_4⟩
theorem wg_X15_readRest_79 {n : Nat} {g : Hp} {F : Nat} {o : Int32 × Hp} : ∀ (f : Nat) {h : Hp} {x2 : Int32} {x3 : Int32} {x4 : Int32}, DyK n g h → sX15_readRest_79 F f h (n + 513) (n + 538) x2 x3 x4 = some o → DyK n g o.2 ∧ FrW (WIp n) h o.2 := by
  intro f
  induction f with
  | zero => intro h x2 x3 x4 _ e; exact absurd e (by rw [sX15_readRest_79]; exact fun z => nomatch z)
  | succ f ih =>
    intro h x2 x3 x4 k e
    rw [sX15_readRest_79] at e
    rcases br_s e with ⟨_, e⟩ | ⟨_, e⟩
    · exact wg_X15_readRest_124 k e
    · obtain ⟨o_2, eo_2, e⟩ := cl_s e
      obtain ⟨ko_2, fo_2⟩ := wg_X15_look k eo_2
      obtain ⟨o_3, eo_3, e⟩ := cl_s e
      obtain ⟨ko_3, fo_3⟩ := wg_X15_isDigit ko_2 eo_3
      replace fo_3 := fw_t fo_2 fo_3
      rcases br_s e with ⟨_, e⟩ | ⟨_, e⟩
      · exact ⟨(wg_X15_readRest_124 ko_3 e).1, fw_t fo_3 (wg_X15_readRest_124 ko_3 e).2⟩
      · obtain ⟨o_5, eo_5, e⟩ := cl_s e
        obtain ⟨ko_5, fo_5⟩ := wg_X15_look ko_3 eo_5
        replace fo_5 := fw_t fo_3 fo_5
        obtain ⟨v_6, wv_6, e⟩ := nm_s e
        obtain ⟨h_7, wh_7, e⟩ := nm_s e
        have kh_7 : DyK n g h_7 := by rw [wh_7]; exact dk_wI ko_5
        have fh_7 : FrW (WIp n) h h_7 := by rw [wh_7]; exact fw_wI fo_5 (by unfold WIp; omega)
        obtain ⟨v_8, wv_8, e⟩ := nm_s e
        exact ⟨(ih kh_7 e).1, fw_t fh_7 (ih kh_7 e).2⟩
theorem wg_X15_readRest_2 {n : Nat} {g : Hp} {F : Nat} {o : Int32 × Hp} : ∀ (f : Nat) {h : Hp} {x2 : Int32}, DyK n g h → sX15_readRest_2 F f h (n + 513) (n + 538) x2 = some o → DyK n g o.2 ∧ FrW (WIp n) h o.2 := by
  intro f
  induction f with
  | zero => intro h x2 _ e; exact absurd e (by rw [sX15_readRest_2]; exact fun z => nomatch z)
  | succ f ih =>
    intro h x2 k e
    rw [sX15_readRest_2] at e
    rcases br_s e with ⟨_, e⟩ | ⟨_, e⟩
    · obtain ⟨o_2, eo_2, e⟩ := cl_s e
      obtain ⟨ko_2, fo_2⟩ := wg_X15_reads k eo_2
      rcases br_s e with ⟨_, e⟩ | ⟨_, e⟩
      · exact ⟨(wg_X15_readRest_67 ko_2 e).1, fw_t fo_2 (wg_X15_readRest_67 ko_2 e).2⟩
      · obtain ⟨o_4, eo_4, e⟩ := cl_s e
        obtain ⟨ko_4, fo_4⟩ := wg_X15_look ko_2 eo_4
        replace fo_4 := fw_t fo_2 fo_4
        obtain ⟨o_5, eo_5, e⟩ := cl_s e
        obtain ⟨ko_5, fo_5⟩ := wg_X15_isDigit ko_4 eo_5
        replace fo_5 := fw_t fo_4 fo_5
        rcases br_s e with ⟨_, e⟩ | ⟨_, e⟩
        · exact ⟨(wg_X15_readRest_67 ko_5 e).1, fw_t fo_5 (wg_X15_readRest_67 ko_5 e).2⟩
        · obtain ⟨v_7, wv_7, e⟩ := nm_s e
          exact ⟨(wg_X15_readRest_79 F ko_5 e).1, fw_t fo_5 (wg_X15_readRest_79 F ko_5 e).2⟩
    · obtain ⟨o_8, eo_8, e⟩ := cl_s e
      obtain ⟨ko_8, fo_8⟩ := wg_X15_look k eo_8
      obtain ⟨o_9, eo_9, e⟩ := cl_s e
      obtain ⟨ko_9, fo_9⟩ := wg_X15_isDigit ko_8 eo_9
      replace fo_9 := fw_t fo_8 fo_9
      rcases br_s e with ⟨_, e⟩ | ⟨_, e⟩
      · rw [← Option.some.inj e]; exact ⟨ko_9, fo_9⟩
      · obtain ⟨r_11, er_11, e⟩ := cl_s e
        have yr_11 := dk_ed (a := 538) (b := 542) ko_9 (by decide +kernel) er_11
        subst yr_11
        obtain ⟨o_12, eo_12, e⟩ := cl_s e
        obtain ⟨ko_12, fo_12⟩ := wg_X15_look ko_9 eo_12
        replace fo_12 := fw_t fo_9 fo_12
        replace e := (gd_s e).2
        obtain ⟨h_14, wh_14, e⟩ := nm_s e
        have kh_14 : DyK n g h_14 := by rw [wh_14]; exact dk_wI ko_12
        have fh_14 : FrW (WIp n) h h_14 := by rw [wh_14]; exact fw_wI fo_12 (by unfold WIp; omega)
        obtain ⟨h_15, wh_15, e⟩ := nm_s e
        have kh_15 : DyK n g h_15 := by rw [wh_15]; exact dk_wI kh_14
        have fh_15 : FrW (WIp n) h h_15 := by rw [wh_15]; exact fw_wI fh_14 (by unfold WIp; omega)
        obtain ⟨v_16, wv_16, e⟩ := nm_s e
        exact ⟨(ih kh_15 e).1, fw_t fh_15 (ih kh_15 e).2⟩
theorem wg_X15_readRest {n : Nat} {g : Hp} {F : Nat} {o : Int32 × Hp} {h : Hp} (k : DyK n g h) (e : sX15_readRest F h (n + 513) (n + 538) = some o) : DyK n g o.2 ∧ FrW (WIp n) h o.2 := by
  unfold sX15_readRest at e
  exact wg_X15_readRest_2 F k e
theorem wg_X15_isPosition {n : Nat} {g : Hp} {F : Nat} {o : Int32 × Hp} {x2 : Int32} {h : Hp} (k : DyK n g h) (e : sX15_isPosition F h (n + 513) (n + 514) x2 (n + 538) = some o) : DyK n g o.2 ∧ FrW (WIp n) h o.2 := by
  unfold sX15_isPosition at e
  obtain ⟨h_1, wh_1, e⟩ := nm_s e
  have kh_1 : DyK n g h_1 := by rw [wh_1]; exact dk_wR k (by decide)
  have fh_1 : FrW (WIp n) h h_1 := by rw [wh_1]; exact fw_wR fw_0
  obtain ⟨h_2, wh_2, e⟩ := nm_s e
  have kh_2 : DyK n g h_2 := by rw [wh_2]; exact dk_wI kh_1
  have fh_2 : FrW (WIp n) h h_2 := by rw [wh_2]; exact fw_wI fh_1 (by unfold WIp; omega)
  obtain ⟨h_3, wh_3, e⟩ := nm_s e
  have kh_3 : DyK n g h_3 := by rw [wh_3]; exact dk_wI kh_2
  have fh_3 : FrW (WIp n) h h_3 := by rw [wh_3]; exact fw_wI fh_2 (by unfold WIp; omega)
  obtain ⟨o_4, eo_4, e⟩ := cl_s e
  obtain ⟨ko_4, fo_4⟩ := wg_X12_clear kh_3 eo_4
  replace fo_4 := fw_t fh_3 fo_4
  obtain ⟨o_5, eo_5, e⟩ := cl_s e
  obtain ⟨ko_5, fo_5⟩ := wg_X15_readMen ko_4 eo_5
  replace fo_5 := fw_t fo_4 fo_5
  rcases br_s e with ⟨_, e⟩ | ⟨_, e⟩
  · exact ⟨(wg_X15_isPosition_71 ko_5 e).1, fw_t fo_5 (wg_X15_isPosition_71 ko_5 e).2⟩
  · obtain ⟨o_7, eo_7, e⟩ := cl_s e
    obtain ⟨ko_7, fo_7⟩ := wg_X15_readSide ko_5 eo_7
    replace fo_7 := fw_t fo_5 fo_7
    rcases br_s e with ⟨_, e⟩ | ⟨_, e⟩
    · exact ⟨(wg_X15_isPosition_71 ko_7 e).1, fw_t fo_7 (wg_X15_isPosition_71 ko_7 e).2⟩
    · obtain ⟨o_9, eo_9, e⟩ := cl_s e
      obtain ⟨ko_9, fo_9⟩ := wg_X15_readRights ko_7 eo_9
      replace fo_9 := fw_t fo_7 fo_9
      rcases br_s e with ⟨_, e⟩ | ⟨_, e⟩
      · exact ⟨(wg_X15_isPosition_71 ko_9 e).1, fw_t fo_9 (wg_X15_isPosition_71 ko_9 e).2⟩
      · obtain ⟨o_11, eo_11, e⟩ := cl_s e
        obtain ⟨ko_11, fo_11⟩ := wg_X15_readPass ko_9 eo_11
        replace fo_11 := fw_t fo_9 fo_11
        rcases br_s e with ⟨_, e⟩ | ⟨_, e⟩
        · exact ⟨(wg_X15_isPosition_71 ko_11 e).1, fw_t fo_11 (wg_X15_isPosition_71 ko_11 e).2⟩
        · obtain ⟨o_13, eo_13, e⟩ := cl_s e
          obtain ⟨ko_13, fo_13⟩ := wg_X15_readHands ko_11 eo_13
          replace fo_13 := fw_t fo_11 fo_13
          rcases br_s e with ⟨_, e⟩ | ⟨_, e⟩
          · exact ⟨(wg_X15_isPosition_71 ko_13 e).1, fw_t fo_13 (wg_X15_isPosition_71 ko_13 e).2⟩
          · obtain ⟨o_15, eo_15, e⟩ := cl_s e
            obtain ⟨ko_15, fo_15⟩ := wg_X15_readRest ko_13 eo_15
            replace fo_15 := fw_t fo_13 fo_15
            rcases br_s e with ⟨_, e⟩ | ⟨_, e⟩
            · exact ⟨(wg_X15_isPosition_71 ko_15 e).1, fw_t fo_15 (wg_X15_isPosition_71 ko_15 e).2⟩
            · exact ⟨(wg_X15_isPosition_72 ko_15 e).1, fw_t fo_15 (wg_X15_isPosition_72 ko_15 e).2⟩
