/-! what stands where stays so: printed -/
theorem dk_X7_readRights_97 {n : Nat} {g : Hp} {F : Nat} {o : Int32 × Hp} {h : Hp} (k : DyK n g h) (e : sX7_readRights_97 F h = some o) : DyK n g o.2 := by
  unfold sX7_readRights_97 at e
  rw [← Option.some.inj e]; exact k
theorem dk_X7_readSquare_30 {n : Nat} {g : Hp} {o : Int32 × Hp} {h : Hp} (k : DyK n g h) (e : sX7_readSquare_30 h = some o) : DyK n g o.2 := by
  unfold sX7_readSquare_30 at e
  rw [← Option.some.inj e]; exact k
theorem dk_X7_readSquare_72 {n : Nat} {g : Hp} {o : Int32 × Hp} {h : Hp} (k : DyK n g h) (e : sX7_readSquare_72 h = some o) : DyK n g o.2 := by
  unfold sX7_readSquare_72 at e
  rw [← Option.some.inj e]; exact k
theorem dk_X7_readSquare {n : Nat} {g : Hp} {o : Int32 × Hp} {x0 : Nat} {h : Hp} (k : DyK n g h) (e : sX7_readSquare h x0 = some o) : DyK n g o.2 := by
  unfold sX7_readSquare at e
  replace e := cl_s e
  obtain ⟨r_1, _, e⟩ := e
  replace e := cl_s e
  obtain ⟨o_2, eo_2, e⟩ := e
  have ko_2 : DyK n g o_2.2 := dk_X9_byteAt k eo_2
  replace e := nm_s e
  obtain ⟨v_3, wv_3, e⟩ := e
  replace e := br_s e
  rcases e with ⟨_, e⟩ | ⟨_, e⟩
  · exact dk_X7_readSquare_30 ko_2 e
  · replace e := cl_s e
    obtain ⟨r_5, _, e⟩ := e
    replace e := br_s e
    rcases e with ⟨_, e⟩ | ⟨_, e⟩
    · replace e := nm_s e
      obtain ⟨h_7, wh_7, e⟩ := e
      have kh_7 : DyK n g h_7 := by rw [wh_7]; exact dk_wI ko_2
      replace e := cl_s e
      obtain ⟨r_8, _, e⟩ := e
      replace e := cl_s e
      obtain ⟨o_9, eo_9, e⟩ := e
      have ko_9 : DyK n g o_9.2 := dk_X9_byteAt kh_7 eo_9
      replace e := nm_s e
      obtain ⟨v_10, wv_10, e⟩ := e
      replace e := br_s e
      rcases e with ⟨_, e⟩ | ⟨_, e⟩
      · exact dk_X7_readSquare_72 ko_9 e
      · replace e := cl_s e
        obtain ⟨r_12, _, e⟩ := e
        replace e := br_s e
        rcases e with ⟨_, e⟩ | ⟨_, e⟩
        · replace e := nm_s e
          obtain ⟨h_14, wh_14, e⟩ := e
          have kh_14 : DyK n g h_14 := by rw [wh_14]; exact dk_wI ko_9
          replace e := cl_s e
          obtain ⟨r_15, _, e⟩ := e
          rw [← Option.some.inj e]; exact kh_14
        · exact dk_X7_readSquare_72 ko_9 e
    · exact dk_X7_readSquare_30 ko_2 e
theorem dk_X7_readRights_41 {n : Nat} {g : Hp} {F : Nat} {o : Int32 × Hp} {x0 : Nat} {x1 : Nat} {x2 : Int32} {x3 : Int32} {k_15 : Hp → Nat → Nat → Int32 → Int32 → Option (Int32 × Hp)} (R_15 : ∀ {h : Hp} {y1 : Nat} {y2 : Nat} {y3 : Int32} {y4 : Int32}, DyK n g h → k_15 h y1 y2 y3 y4 = some o → DyK n g o.2) {h : Hp} (k : DyK n g h) (e : sX7_readRights_41 F k_15 h x0 x1 x2 x3 = some o) : DyK n g o.2 := by
  unfold sX7_readRights_41 at e
  replace e := nm_s e
  obtain ⟨v_1, wv_1, e⟩ := e
  replace e := cl_s e
  obtain ⟨o_2, eo_2, e⟩ := e
  have ko_2 : DyK n g o_2.2 := dk_X7_readSquare k eo_2
  replace e := br_s e
  rcases e with ⟨_, e⟩ | ⟨_, e⟩
  · rw [← Option.some.inj e]; exact ko_2
  · replace e := br_s e
    rcases e with ⟨_, e⟩ | ⟨_, e⟩
    · replace e := nm_s e
      obtain ⟨h_5, wh_5, e⟩ := e
      have kh_5 : DyK n g h_5 := by rw [wh_5]; exact dk_wJ ko_2
      replace e := nm_s e
      obtain ⟨v_6, wv_6, e⟩ := e
      exact R_15 kh_5 e
    · replace e := nm_s e
      obtain ⟨h_7, wh_7, e⟩ := e
      have kh_7 : DyK n g h_7 := by rw [wh_7]; exact dk_wI ko_2
      rw [← Option.some.inj e]; exact kh_7
theorem dk_X7_readRights_15 {n : Nat} {g : Hp} {F : Nat} {o : Int32 × Hp} : ∀ (f : Nat) {h : Hp} {x0 : Nat} {x1 : Nat} {x2 : Int32} {x3 : Int32}, DyK n g h → sX7_readRights_15 F f h x0 x1 x2 x3 = some o → DyK n g o.2 := by
  intro f
  induction f with
  | zero => intro h x0 x1 x2 x3 _ e; exact absurd e (by rw [sX7_readRights_15]; exact fun z => nomatch z)
  | succ f ih =>
    intro h x0 x1 x2 x3 k e
    rw [sX7_readRights_15] at e
    replace e := br_s e
    rcases e with ⟨_, e⟩ | ⟨_, e⟩
    · exact dk_X7_readRights_97 k e
    · replace e := br_s e
      rcases e with ⟨_, e⟩ | ⟨_, e⟩
      · exact dk_X7_readRights_41 (fun k e => ih k e) k e
      · replace e := cl_s e
        obtain ⟨r_3, _, e⟩ := e
        replace e := cl_s e
        obtain ⟨o_4, eo_4, e⟩ := e
        have ko_4 : DyK n g o_4.2 := dk_X9_byteAt k eo_4
        replace e := br_s e
        rcases e with ⟨_, e⟩ | ⟨_, e⟩
        · exact dk_X7_readRights_97 ko_4 e
        · exact dk_X7_readRights_41 (fun k e => ih k e) ko_4 e
theorem dk_X7_readRights {n : Nat} {g : Hp} {F : Nat} {o : Int32 × Hp} {x0 : Nat} {x1 : Nat} {h : Hp} (k : DyK n g h) (e : sX7_readRights F h x0 x1 = some o) : DyK n g o.2 := by
  unfold sX7_readRights at e
  replace e := cl_s e
  obtain ⟨o_1, eo_1, e⟩ := e
  have ko_1 : DyK n g o_1.2 := dk_X7_takeByte k eo_1
  replace e := br_s e
  rcases e with ⟨_, e⟩ | ⟨_, e⟩
  · exact dk_X7_readRights_15 F ko_1 e
  · rw [← Option.some.inj e]; exact ko_1
theorem dk_X7_readPass_64 {n : Nat} {g : Hp} {F : Nat} {o : Int32 × Hp} {h : Hp} (k : DyK n g h) (e : sX7_readPass_64 F h = some o) : DyK n g o.2 := by
  unfold sX7_readPass_64 at e
  rw [← Option.some.inj e]; exact k
theorem dk_X3_passSize {n : Nat} {g : Hp} {o : Int32 × Hp} {x0 : Nat} {h : Hp} (k : DyK n g h) (e : sX3_passSize h x0 = some o) : DyK n g o.2 := by
  unfold sX3_passSize at e
  rw [← Option.some.inj e]; exact k
theorem dk_X3_addPass_22 {n : Nat} {g : Hp} {o : Hp} {x0 : Nat} {h : Hp} (k : DyK n g h) (e : sX3_addPass_22 h x0 = some o) : DyK n g o := by
  unfold sX3_addPass_22 at e
  replace e := nm_s e
  obtain ⟨h_1, wh_1, e⟩ := e
  have kh_1 : DyK n g h_1 := by rw [wh_1]; exact dk_wJ k
  rw [← Option.some.inj e]; exact kh_1
theorem dk_X3_addPass_66 {n : Nat} {g : Hp} {o : Hp} {t0 : Int64} {t1 : Int64} {t2 : Nat} {h : Hp} (k : DyK n g h) (e : sX3_addPass_66 h t0 t1 t2 = some o) : DyK n g o := by
  unfold sX3_addPass_66 at e
  replace e := nm_s e
  obtain ⟨h_1, wh_1, e⟩ := e
  have kh_1 : DyK n g h_1 := by rw [wh_1]; exact dk_wJ k
  rw [← Option.some.inj e]; exact kh_1
theorem dk_X3_addPass {n : Nat} {g : Hp} {o : Hp} {x0 : Nat} {x1 : Int32} {h : Hp} (k : DyK n g h) (e : sX3_addPass h x0 x1 = some o) : DyK n g o := by
  unfold sX3_addPass at e
  replace e := cl_s e
  obtain ⟨o_1, eo_1, e⟩ := e
  have ko_1 : DyK n g o_1.2 := dk_X3_passSize k eo_1
  replace e := br_s e
  rcases e with ⟨_, e⟩ | ⟨_, e⟩
  · exact dk_X3_addPass_22 ko_1 e
  · replace e := br_s e
    rcases e with ⟨_, e⟩ | ⟨_, e⟩
    · replace e := nm_s e
      obtain ⟨h_4, wh_4, e⟩ := e
      have kh_4 : DyK n g h_4 := by rw [wh_4]; exact dk_wJ ko_1
      replace e := br_s e
      rcases e with ⟨_, e⟩ | ⟨_, e⟩
      · exact dk_X3_addPass_66 kh_4 e
      · exact dk_X3_addPass_66 kh_4 e
    · exact dk_X3_addPass_22 ko_1 e
theorem dk_X7_readPass_41 {n : Nat} {g : Hp} {F : Nat} {o : Int32 × Hp} {x0 : Nat} {x1 : Nat} {x2 : Int32} {k_13 : Hp → Nat → Nat → Int32 → Option (Int32 × Hp)} (R_13 : ∀ {h : Hp} {y1 : Nat} {y2 : Nat} {y3 : Int32}, DyK n g h → k_13 h y1 y2 y3 = some o → DyK n g o.2) {h : Hp} (k : DyK n g h) (e : sX7_readPass_41 F k_13 h x0 x1 x2 = some o) : DyK n g o.2 := by
  unfold sX7_readPass_41 at e
  replace e := cl_s e
  obtain ⟨o_1, eo_1, e⟩ := e
  have ko_1 : DyK n g o_1.2 := dk_X7_readSquare k eo_1
  replace e := br_s e
  rcases e with ⟨_, e⟩ | ⟨_, e⟩
  · rw [← Option.some.inj e]; exact ko_1
  · replace e := cl_s e
    obtain ⟨o_3, eo_3, e⟩ := e
    have ko_3 : DyK n g o_3 := dk_X3_addPass ko_1 eo_3
    replace e := nm_s e
    obtain ⟨v_4, wv_4, e⟩ := e
    exact R_13 ko_3 e
theorem dk_X7_readPass_13 {n : Nat} {g : Hp} {F : Nat} {o : Int32 × Hp} : ∀ (f : Nat) {h : Hp} {x0 : Nat} {x1 : Nat} {x2 : Int32}, DyK n g h → sX7_readPass_13 F f h x0 x1 x2 = some o → DyK n g o.2 := by
  intro f
  induction f with
  | zero => intro h x0 x1 x2 _ e; exact absurd e (by rw [sX7_readPass_13]; exact fun z => nomatch z)
  | succ f ih =>
    intro h x0 x1 x2 k e
    rw [sX7_readPass_13] at e
    replace e := br_s e
    rcases e with ⟨_, e⟩ | ⟨_, e⟩
    · exact dk_X7_readPass_64 k e
    · replace e := br_s e
      rcases e with ⟨_, e⟩ | ⟨_, e⟩
      · exact dk_X7_readPass_41 (fun k e => ih k e) k e
      · replace e := cl_s e
        obtain ⟨r_3, _, e⟩ := e
        replace e := cl_s e
        obtain ⟨o_4, eo_4, e⟩ := e
        have ko_4 : DyK n g o_4.2 := dk_X9_byteAt k eo_4
        replace e := br_s e
        rcases e with ⟨_, e⟩ | ⟨_, e⟩
        · exact dk_X7_readPass_64 ko_4 e
        · exact dk_X7_readPass_41 (fun k e => ih k e) ko_4 e
theorem dk_X7_readPass {n : Nat} {g : Hp} {F : Nat} {o : Int32 × Hp} {x0 : Nat} {x1 : Nat} {h : Hp} (k : DyK n g h) (e : sX7_readPass F h x0 x1 = some o) : DyK n g o.2 := by
  unfold sX7_readPass at e
  replace e := cl_s e
  obtain ⟨o_1, eo_1, e⟩ := e
  have ko_1 : DyK n g o_1.2 := dk_X7_takeByte k eo_1
  replace e := br_s e
  rcases e with ⟨_, e⟩ | ⟨_, e⟩
  · exact dk_X7_readPass_13 F ko_1 e
  · rw [← Option.some.inj e]; exact ko_1
theorem dk_X7_readHands_107 {n : Nat} {g : Hp} {F : Nat} {o : Int32 × Hp} {h : Hp} (k : DyK n g h) (e : sX7_readHands_107 F h = some o) : DyK n g o.2 := by
  unfold sX7_readHands_107 at e
  rw [← Option.some.inj e]; exact k
theorem dk_X7_readHands_78 {n : Nat} {g : Hp} {F : Nat} {o : Int32 × Hp} {h : Hp} (k : DyK n g h) (e : sX7_readHands_78 F h = some o) : DyK n g o.2 := by
  unfold sX7_readHands_78 at e
  rw [← Option.some.inj e]; exact k
theorem dk_X3_inHand {n : Nat} {g : Hp} {o : Int32 × Hp} {x0 : Nat} {x1 : Int32} {x2 : Int32} {h : Hp} (k : DyK n g h) (e : sX3_inHand h x0 x1 x2 = some o) : DyK n g o.2 := by
  unfold sX3_inHand at e
  replace e := cl_s e
  obtain ⟨r_1, _, e⟩ := e
  replace e := (gd_s e).2
  rw [← Option.some.inj e]; exact k
theorem dk_X3_addToHand {n : Nat} {g : Hp} {o : Hp} {x0 : Nat} {x1 : Int32} {x2 : Int32} {x3 : Int32} {h : Hp} (k : DyK n g h) (e : sX3_addToHand h x0 x1 x2 x3 = some o) : DyK n g o := by
  unfold sX3_addToHand at e
  replace e := cl_s e
  obtain ⟨r_1, _, e⟩ := e
  replace e := (gd_s e).2
  replace e := (gd_s e).2
  replace e := nm_s e
  obtain ⟨h_4, wh_4, e⟩ := e
  have kh_4 : DyK n g h_4 := by rw [wh_4]; exact dk_wJ k
  rw [← Option.some.inj e]; exact kh_4
theorem dk_X7_readHands_39 {n : Nat} {g : Hp} {F : Nat} {o : Int32 × Hp} {x0 : Nat} {x1 : Nat} {x2 : Int32} {k_13 : Hp → Nat → Nat → Int32 → Option (Int32 × Hp)} (R_13 : ∀ {h : Hp} {y1 : Nat} {y2 : Nat} {y3 : Int32}, DyK n g h → k_13 h y1 y2 y3 = some o → DyK n g o.2) {h : Hp} (k : DyK n g h) (e : sX7_readHands_39 F k_13 h x0 x1 x2 = some o) : DyK n g o.2 := by
  unfold sX7_readHands_39 at e
  replace e := cl_s e
  obtain ⟨r_1, _, e⟩ := e
  replace e := cl_s e
  obtain ⟨r_2, _, e⟩ := e
  replace e := cl_s e
  obtain ⟨o_3, eo_3, e⟩ := e
  have ko_3 : DyK n g o_3.2 := dk_X9_byteAt k eo_3
  replace e := cl_s e
  obtain ⟨o_4, eo_4, e⟩ := e
  have ko_4 : DyK n g o_4.2 := dk_X1_codeOf ko_3 eo_4
  replace e := br_s e
  rcases e with ⟨_, e⟩ | ⟨_, e⟩
  · exact dk_X7_readHands_78 ko_4 e
  · replace e := cl_s e
    obtain ⟨o_6, eo_6, e⟩ := e
    have ko_6 : DyK n g o_6.2 := dk_X3_inHand ko_4 eo_6
    replace e := br_s e
    rcases e with ⟨_, e⟩ | ⟨_, e⟩
    · replace e := cl_s e
      obtain ⟨o_8, eo_8, e⟩ := e
      have ko_8 : DyK n g o_8 := dk_X3_addToHand ko_6 eo_8
      replace e := nm_s e
      obtain ⟨h_9, wh_9, e⟩ := e
      have kh_9 : DyK n g h_9 := by rw [wh_9]; exact dk_wI ko_8
      replace e := nm_s e
      obtain ⟨v_10, wv_10, e⟩ := e
      exact R_13 kh_9 e
    · exact dk_X7_readHands_78 ko_6 e
theorem dk_X7_readHands_13 {n : Nat} {g : Hp} {F : Nat} {o : Int32 × Hp} : ∀ (f : Nat) {h : Hp} {x0 : Nat} {x1 : Nat} {x2 : Int32}, DyK n g h → sX7_readHands_13 F f h x0 x1 x2 = some o → DyK n g o.2 := by
  intro f
  induction f with
  | zero => intro h x0 x1 x2 _ e; exact absurd e (by rw [sX7_readHands_13]; exact fun z => nomatch z)
  | succ f ih =>
    intro h x0 x1 x2 k e
    rw [sX7_readHands_13] at e
    replace e := br_s e
    rcases e with ⟨_, e⟩ | ⟨_, e⟩
    · exact dk_X7_readHands_107 k e
    · replace e := br_s e
      rcases e with ⟨_, e⟩ | ⟨_, e⟩
      · exact dk_X7_readHands_39 (fun k e => ih k e) k e
      · replace e := cl_s e
        obtain ⟨r_3, _, e⟩ := e
        replace e := cl_s e
        obtain ⟨o_4, eo_4, e⟩ := e
        have ko_4 : DyK n g o_4.2 := dk_X9_byteAt k eo_4
        replace e := br_s e
        rcases e with ⟨_, e⟩ | ⟨_, e⟩
        · exact dk_X7_readHands_107 ko_4 e
        · exact dk_X7_readHands_39 (fun k e => ih k e) ko_4 e
theorem dk_X7_readHands {n : Nat} {g : Hp} {F : Nat} {o : Int32 × Hp} {x0 : Nat} {x1 : Nat} {h : Hp} (k : DyK n g h) (e : sX7_readHands F h x0 x1 = some o) : DyK n g o.2 := by
  unfold sX7_readHands at e
  replace e := cl_s e
  obtain ⟨o_1, eo_1, e⟩ := e
  have ko_1 : DyK n g o_1.2 := dk_X7_takeByte k eo_1
  replace e := br_s e
  rcases e with ⟨_, e⟩ | ⟨_, e⟩
  · exact dk_X7_readHands_13 F ko_1 e
  · rw [← Option.some.inj e]; exact ko_1
theorem dk_X2_isDigit_17 {n : Nat} {g : Hp} {o : Int32 × Hp} {t0 : Int32} {h : Hp} (k : DyK n g h) (e : sX2_isDigit_17 h t0 = some o) : DyK n g o.2 := by
  unfold sX2_isDigit_17 at e
  replace e := (gd_s e).2
  rw [← Option.some.inj e]; exact k
theorem dk_X2_isDigit_16 {n : Nat} {g : Hp} {o : Int32 × Hp} {h : Hp} (k : DyK n g h) (e : sX2_isDigit_16 h = some o) : DyK n g o.2 := by
  unfold sX2_isDigit_16 at e
  exact dk_X2_isDigit_17 k e
theorem dk_X2_isDigit {n : Nat} {g : Hp} {o : Int32 × Hp} {x0 : Int32} {h : Hp} (k : DyK n g h) (e : sX2_isDigit h x0 = some o) : DyK n g o.2 := by
  unfold sX2_isDigit at e
  replace e := br_s e
  rcases e with ⟨_, e⟩ | ⟨_, e⟩
  · exact dk_X2_isDigit_16 k e
  · replace e := br_s e
    rcases e with ⟨_, e⟩ | ⟨_, e⟩
    · exact dk_X2_isDigit_16 k e
    · exact dk_X2_isDigit_17 k e
theorem dk_X7_readChecks_2 {n : Nat} {g : Hp} {F : Nat} {o : Int32 × Hp} : ∀ (f : Nat) {h : Hp} {x0 : Nat} {x1 : Nat} {x2 : Int32}, DyK n g h → sX7_readChecks_2 F f h x0 x1 x2 = some o → DyK n g o.2 := by
  intro f
  induction f with
  | zero => intro h x0 x1 x2 _ e; exact absurd e (by rw [sX7_readChecks_2]; exact fun z => nomatch z)
  | succ f ih =>
    intro h x0 x1 x2 k e
    rw [sX7_readChecks_2] at e
    replace e := br_s e
    rcases e with ⟨_, e⟩ | ⟨_, e⟩
    · rw [← Option.some.inj e]; exact k
    · replace e := cl_s e
      obtain ⟨r_2, _, e⟩ := e
      replace e := cl_s e
      obtain ⟨o_3, eo_3, e⟩ := e
      have ko_3 : DyK n g o_3.2 := dk_X9_byteAt k eo_3
      replace e := cl_s e
      obtain ⟨o_4, eo_4, e⟩ := e
      have ko_4 : DyK n g o_4.2 := dk_X2_isDigit ko_3 eo_4
      replace e := br_s e
      rcases e with ⟨_, e⟩ | ⟨_, e⟩
      · rw [← Option.some.inj e]; exact ko_4
      · replace e := cl_s e
        obtain ⟨r_6, _, e⟩ := e
        replace e := cl_s e
        obtain ⟨r_7, _, e⟩ := e
        replace e := cl_s e
        obtain ⟨o_8, eo_8, e⟩ := e
        have ko_8 : DyK n g o_8.2 := dk_X9_byteAt ko_4 eo_8
        replace e := (gd_s e).2
        replace e := nm_s e
        obtain ⟨h_10, wh_10, e⟩ := e
        have kh_10 : DyK n g h_10 := by rw [wh_10]; exact dk_wI ko_8
        replace e := nm_s e
        obtain ⟨h_11, wh_11, e⟩ := e
        have kh_11 : DyK n g h_11 := by rw [wh_11]; exact dk_wI kh_10
        replace e := nm_s e
        obtain ⟨v_12, wv_12, e⟩ := e
        exact ih kh_11 e
theorem dk_X7_readChecks {n : Nat} {g : Hp} {F : Nat} {o : Int32 × Hp} {x0 : Nat} {x1 : Nat} {h : Hp} (k : DyK n g h) (e : sX7_readChecks F h x0 x1 = some o) : DyK n g o.2 := by
  unfold sX7_readChecks at e
  exact dk_X7_readChecks_2 F k e
theorem dk_X7_readClock_99 {n : Nat} {g : Hp} {F : Nat} {o : Int32 × Hp} {t0 : Int32} {h : Hp} (k : DyK n g h) (e : sX7_readClock_99 F h t0 = some o) : DyK n g o.2 := by
  unfold sX7_readClock_99 at e
  replace e := (gd_s e).2
  rw [← Option.some.inj e]; exact k
theorem dk_X7_readClock_86 {n : Nat} {g : Hp} {F : Nat} {o : Int32 × Hp} {x0 : Nat} {x2 : Int32} {h : Hp} (k : DyK n g h) (e : sX7_readClock_86 F h x0 x2 = some o) : DyK n g o.2 := by
  unfold sX7_readClock_86 at e
  replace e := br_s e
  rcases e with ⟨_, e⟩ | ⟨_, e⟩
  · exact dk_X7_readClock_99 k e
  · exact dk_X7_readClock_99 k e
theorem dk_X7_readClock_71 {n : Nat} {g : Hp} {F : Nat} {o : Int32 × Hp} {x0 : Nat} {x1 : Nat} {x2 : Int32} {h : Hp} (k : DyK n g h) (e : sX7_readClock_71 F h x0 x1 x2 = some o) : DyK n g o.2 := by
  unfold sX7_readClock_71 at e
  replace e := br_s e
  rcases e with ⟨_, e⟩ | ⟨_, e⟩
  · exact dk_X7_readClock_86 k e
  · replace e := nm_s e
    obtain ⟨h_2, wh_2, e⟩ := e
    have kh_2 : DyK n g h_2 := by rw [wh_2]; exact dk_wI k
    exact dk_X7_readClock_86 kh_2 e
theorem dk_X7_readClock_7 {n : Nat} {g : Hp} {F : Nat} {o : Int32 × Hp} : ∀ (f : Nat) {h : Hp} {x0 : Nat} {x1 : Nat} {x2 : Int32} {x3 : Int32}, DyK n g h → sX7_readClock_7 F f h x0 x1 x2 x3 = some o → DyK n g o.2 := by
  intro f
  induction f with
  | zero => intro h x0 x1 x2 x3 _ e; exact absurd e (by rw [sX7_readClock_7]; exact fun z => nomatch z)
  | succ f ih =>
    intro h x0 x1 x2 x3 k e
    rw [sX7_readClock_7] at e
    replace e := br_s e
    rcases e with ⟨_, e⟩ | ⟨_, e⟩
    · exact dk_X7_readClock_71 k e
    · replace e := cl_s e
      obtain ⟨r_2, _, e⟩ := e
      replace e := cl_s e
      obtain ⟨o_3, eo_3, e⟩ := e
      have ko_3 : DyK n g o_3.2 := dk_X9_byteAt k eo_3
      replace e := cl_s e
      obtain ⟨o_4, eo_4, e⟩ := e
      have ko_4 : DyK n g o_4.2 := dk_X2_isDigit ko_3 eo_4
      replace e := br_s e
      rcases e with ⟨_, e⟩ | ⟨_, e⟩
      · exact dk_X7_readClock_71 ko_4 e
      · replace e := cl_s e
        obtain ⟨r_6, _, e⟩ := e
        replace e := cl_s e
        obtain ⟨o_7, eo_7, e⟩ := e
        have ko_7 : DyK n g o_7.2 := dk_X9_byteAt ko_4 eo_7
        replace e := nm_s e
        obtain ⟨h_8, wh_8, e⟩ := e
        have kh_8 : DyK n g h_8 := by rw [wh_8]; exact dk_wI ko_7
        replace e := nm_s e
        obtain ⟨h_9, wh_9, e⟩ := e
        have kh_9 : DyK n g h_9 := by rw [wh_9]; exact dk_wI kh_8
        replace e := nm_s e
        obtain ⟨v_10, wv_10, e⟩ := e
        exact ih kh_9 e
theorem dk_X7_readClock {n : Nat} {g : Hp} {F : Nat} {o : Int32 × Hp} {x0 : Nat} {x1 : Nat} {h : Hp} (k : DyK n g h) (e : sX7_readClock F h x0 x1 = some o) : DyK n g o.2 := by
  unfold sX7_readClock at e
  replace e := nm_s e
  obtain ⟨v_1, wv_1, e⟩ := e
  exact dk_X7_readClock_7 F k e
theorem dk_X7_read {n : Nat} {g : Hp} {F : Nat} {o : Int32 × Hp} {x1 : Nat} {x2 : Nat} {h : Hp} (k : DyK n g h) (e : sX7_read F h (n + 38) x1 x2 = some o) : DyK n g o.2 := by
  unfold sX7_read at e
  replace e := nm_s e
  obtain ⟨h_1, wh_1, e⟩ := e
  have kh_1 : DyK n g h_1 := by rw [wh_1]; exact dk_wR k (by decide)
  replace e := nm_s e
  obtain ⟨h_2, wh_2, e⟩ := e
  have kh_2 : DyK n g h_2 := by rw [wh_2]; exact dk_wI kh_1
  replace e := cl_s e
  obtain ⟨o_3, eo_3, e⟩ := e
  have ko_3 : DyK n g o_3 := dk_X3_clear kh_2 eo_3
  replace e := cl_s e
  obtain ⟨o_4, eo_4, e⟩ := e
  have ko_4 : DyK n g o_4.2 := dk_X7_readRanks ko_3 eo_4
  replace e := br_s e
  rcases e with ⟨_, e⟩ | ⟨_, e⟩
  · exact dk_X7_read_143 ko_4 e
  · replace e := cl_s e
    obtain ⟨o_6, eo_6, e⟩ := e
    have ko_6 : DyK n g o_6.2 := dk_X7_takeByte ko_4 eo_6
    replace e := br_s e
    rcases e with ⟨_, e⟩ | ⟨_, e⟩
    · exact dk_X7_read_143 ko_6 e
    · replace e := cl_s e
      obtain ⟨o_8, eo_8, e⟩ := e
      have ko_8 : DyK n g o_8.2 := dk_X7_readSide ko_6 eo_8
      replace e := br_s e
      rcases e with ⟨_, e⟩ | ⟨_, e⟩
      · exact dk_X7_read_143 ko_8 e
      · replace e := cl_s e
        obtain ⟨o_10, eo_10, e⟩ := e
        have ko_10 : DyK n g o_10.2 := dk_X7_takeByte ko_8 eo_10
        replace e := br_s e
        rcases e with ⟨_, e⟩ | ⟨_, e⟩
        · exact dk_X7_read_143 ko_10 e
        · replace e := cl_s e
          obtain ⟨o_12, eo_12, e⟩ := e
          have ko_12 : DyK n g o_12.2 := dk_X7_readRights ko_10 eo_12
          replace e := br_s e
          rcases e with ⟨_, e⟩ | ⟨_, e⟩
          · exact dk_X7_read_143 ko_12 e
          · replace e := cl_s e
            obtain ⟨o_14, eo_14, e⟩ := e
            have ko_14 : DyK n g o_14.2 := dk_X7_takeByte ko_12 eo_14
            replace e := br_s e
            rcases e with ⟨_, e⟩ | ⟨_, e⟩
            · exact dk_X7_read_143 ko_14 e
            · replace e := cl_s e
              obtain ⟨o_16, eo_16, e⟩ := e
              have ko_16 : DyK n g o_16.2 := dk_X7_readPass ko_14 eo_16
              replace e := br_s e
              rcases e with ⟨_, e⟩ | ⟨_, e⟩
              · exact dk_X7_read_143 ko_16 e
              · replace e := cl_s e
                obtain ⟨o_18, eo_18, e⟩ := e
                have ko_18 : DyK n g o_18.2 := dk_X7_takeByte ko_16 eo_18
                replace e := br_s e
                rcases e with ⟨_, e⟩ | ⟨_, e⟩
                · exact dk_X7_read_143 ko_18 e
                · replace e := cl_s e
                  obtain ⟨o_20, eo_20, e⟩ := e
                  have ko_20 : DyK n g o_20.2 := dk_X7_readHands ko_18 eo_20
                  replace e := br_s e
                  rcases e with ⟨_, e⟩ | ⟨_, e⟩
                  · exact dk_X7_read_143 ko_20 e
                  · replace e := cl_s e
                    obtain ⟨o_22, eo_22, e⟩ := e
                    have ko_22 : DyK n g o_22.2 := dk_X7_takeByte ko_20 eo_22
                    replace e := br_s e
                    rcases e with ⟨_, e⟩ | ⟨_, e⟩
                    · exact dk_X7_read_143 ko_22 e
                    · replace e := cl_s e
                      obtain ⟨o_24, eo_24, e⟩ := e
                      have ko_24 : DyK n g o_24.2 := dk_X7_readChecks ko_22 eo_24
                      replace e := br_s e
                      rcases e with ⟨_, e⟩ | ⟨_, e⟩
                      · exact dk_X7_read_143 ko_24 e
                      · replace e := cl_s e
                        obtain ⟨o_26, eo_26, e⟩ := e
                        have ko_26 : DyK n g o_26.2 := dk_X7_takeByte ko_24 eo_26
                        replace e := br_s e
                        rcases e with ⟨_, e⟩ | ⟨_, e⟩
                        · exact dk_X7_read_143 ko_26 e
                        · replace e := cl_s e
                          obtain ⟨o_28, eo_28, e⟩ := e
                          have ko_28 : DyK n g o_28.2 := dk_X7_readClock ko_26 eo_28
                          replace e := br_s e
                          rcases e with ⟨_, e⟩ | ⟨_, e⟩
                          · exact dk_X7_read_143 ko_28 e
                          · replace e := cl_s e
                            obtain ⟨r_30, _, e⟩ := e
                            replace e := cl_s e
                            obtain ⟨o_31, eo_31, e⟩ := e
                            have ko_31 : DyK n g o_31.2 := dk_X9_byteAt ko_28 eo_31
                            replace e := br_s e
                            rcases e with ⟨_, e⟩ | ⟨_, e⟩
                            · exact dk_X7_read_144 ko_31 e
                            · exact dk_X7_read_143 ko_31 e
theorem dk_X5_hasRightMen_132 {n : Nat} {g : Hp} {F : Nat} {o : Int32 × Hp} {h : Hp} (k : DyK n g h) (e : sX5_hasRightMen_132 F h = some o) : DyK n g o.2 := by
  unfold sX5_hasRightMen_132 at e
  rw [← Option.some.inj e]; exact k
theorem dk_X1_has_14 {n : Nat} {g : Hp} {o : Int32 × Hp} {t0 : Int32} {h : Hp} (k : DyK n g h) (e : sX1_has_14 h t0 = some o) : DyK n g o.2 := by
  unfold sX1_has_14 at e
  replace e := (gd_s e).2
  rw [← Option.some.inj e]; exact k
theorem dk_X1_has {n : Nat} {g : Hp} {o : Int32 × Hp} {x0 : Nat} {x1 : Int32} {h : Hp} (k : DyK n g h) (e : sX1_has h x0 x1 = some o) : DyK n g o.2 := by
  unfold sX1_has at e
  replace e := br_s e
  rcases e with ⟨_, e⟩ | ⟨_, e⟩
  · exact dk_X1_has_14 k e
  · exact dk_X1_has_14 k e
theorem dk_X5_hasRightMen_117 {n : Nat} {g : Hp} {F : Nat} {o : Int32 × Hp} {x0 : Nat} {x1 : Nat} {x2 : Int32} {k_15 : Hp → Nat → Nat → Int32 → Option (Int32 × Hp)} (R_15 : ∀ {h : Hp} {y1 : Nat} {y2 : Nat} {y3 : Int32}, DyK n g h → k_15 h y1 y2 y3 = some o → DyK n g o.2) {h : Hp} (k : DyK n g h) (e : sX5_hasRightMen_117 F k_15 h x0 x1 x2 = some o) : DyK n g o.2 := by
  unfold sX5_hasRightMen_117 at e
  replace e := cl_s e
  obtain ⟨r_1, _, e⟩ := e
  replace e := cl_s e
  obtain ⟨o_2, eo_2, e⟩ := e
  have ko_2 : DyK n g o_2.2 := dk_X3_inHand k eo_2
  replace e := br_s e
  rcases e with ⟨_, e⟩ | ⟨_, e⟩
  · replace e := nm_s e
    obtain ⟨v_4, wv_4, e⟩ := e
    exact R_15 ko_2 e
  · exact dk_X5_hasRightMen_132 ko_2 e
theorem dk_X5_hasRightMen_96 {n : Nat} {g : Hp} {F : Nat} {o : Int32 × Hp} {x0 : Nat} {x1 : Nat} {x2 : Int32} {x3 : Int32} {k_15 : Hp → Nat → Nat → Int32 → Option (Int32 × Hp)} (R_15 : ∀ {h : Hp} {y1 : Nat} {y2 : Nat} {y3 : Int32}, DyK n g h → k_15 h y1 y2 y3 = some o → DyK n g o.2) {h : Hp} (k : DyK n g h) (e : sX5_hasRightMen_96 F k_15 h x0 x1 x2 x3 = some o) : DyK n g o.2 := by
  unfold sX5_hasRightMen_96 at e
  replace e := br_s e
  rcases e with ⟨_, e⟩ | ⟨_, e⟩
  · exact dk_X5_hasRightMen_132 k e
  · replace e := br_s e
    rcases e with ⟨_, e⟩ | ⟨_, e⟩
    · replace e := cl_s e
      obtain ⟨r_3, _, e⟩ := e
      replace e := cl_s e
      obtain ⟨o_4, eo_4, e⟩ := e
      have ko_4 : DyK n g o_4.2 := dk_X1_has k eo_4
      replace e := br_s e
      rcases e with ⟨_, e⟩ | ⟨_, e⟩
      · exact dk_X5_hasRightMen_117 R_15 ko_4 e
      · exact dk_X5_hasRightMen_132 ko_4 e
    · exact dk_X5_hasRightMen_117 R_15 k e
theorem dk_X11_lowest {n : Nat} {g : Hp} {o : Int32 × Hp} {x0 : Int64} {h : Hp} (k : DyK n g h) (e : sX11_lowest h x0 = some o) : DyK n g o.2 := by
  unfold sX11_lowest at e
  replace e := (gd_s e).2
  rw [← Option.some.inj e]; exact k
theorem dk_X5_hasRightMen_88 {n : Nat} {g : Hp} {F : Nat} {o : Int32 × Hp} {x0 : Nat} {x1 : Nat} {x2 : Int32} {x4 : Int64} {x6 : Int32} {t0 : Int32} {t1 : Int32} {k_15 : Hp → Nat → Nat → Int32 → Option (Int32 × Hp)} (R_15 : ∀ {h : Hp} {y1 : Nat} {y2 : Nat} {y3 : Int32}, DyK n g h → k_15 h y1 y2 y3 = some o → DyK n g o.2) {k_33 : Hp → Nat → Nat → Int32 → Int32 → Int64 → Int32 → Option (Int32 × Hp)} (R_33 : ∀ {h : Hp} {y1 : Nat} {y2 : Nat} {y3 : Int32} {y4 : Int32} {y5 : Int64} {y6 : Int32}, DyK n g h → k_33 h y1 y2 y3 y4 y5 y6 = some o → DyK n g o.2) {h : Hp} (k : DyK n g h) (e : sX5_hasRightMen_88 F k_15 k_33 h x0 x1 x2 x4 x6 t0 t1 = some o) : DyK n g o.2 := by
  unfold sX5_hasRightMen_88 at e
  replace e := nm_s e
  obtain ⟨v_1, wv_1, e⟩ := e
  replace e := nm_s e
  obtain ⟨v_2, wv_2, e⟩ := e
  exact R_33 k e
theorem dk_X5_hasRightMen_33 {n : Nat} {g : Hp} {F : Nat} {o : Int32 × Hp} {k_15 : Hp → Nat → Nat → Int32 → Option (Int32 × Hp)} (R_15 : ∀ {h : Hp} {y1 : Nat} {y2 : Nat} {y3 : Int32}, DyK n g h → k_15 h y1 y2 y3 = some o → DyK n g o.2) : ∀ (f : Nat) {h : Hp} {x0 : Nat} {x1 : Nat} {x2 : Int32} {x3 : Int32} {x4 : Int64} {x6 : Int32}, DyK n g h → sX5_hasRightMen_33 F k_15 f h x0 x1 x2 x3 x4 x6 = some o → DyK n g o.2 := by
  intro f
  induction f with
  | zero => intro h x0 x1 x2 x3 x4 x6 _ e; exact absurd e (by rw [sX5_hasRightMen_33]; exact fun z => nomatch z)
  | succ f ih =>
    intro h x0 x1 x2 x3 x4 x6 k e
    rw [sX5_hasRightMen_33] at e
    replace e := br_s e
    rcases e with ⟨_, e⟩ | ⟨_, e⟩
    · exact dk_X5_hasRightMen_96 R_15 k e
    · replace e := br_s e
      rcases e with ⟨_, e⟩ | ⟨_, e⟩
      · exact dk_X5_hasRightMen_96 R_15 k e
      · replace e := cl_s e
        obtain ⟨o_3, eo_3, e⟩ := e
        have ko_3 : DyK n g o_3.2 := dk_X11_lowest k eo_3
        replace e := nm_s e
        obtain ⟨v_4, wv_4, e⟩ := e
        replace e := cl_s e
        obtain ⟨r_5, _, e⟩ := e
        replace e := (gd_s e).2
        replace e := cl_s e
        obtain ⟨r_7, _, e⟩ := e
        replace e := br_s e
        rcases e with ⟨_, e⟩ | ⟨_, e⟩
        · exact dk_X5_hasRightMen_88 R_15 (fun k e => ih k e) ko_3 e
        · exact dk_X5_hasRightMen_88 R_15 (fun k e => ih k e) ko_3 e
theorem dk_X5_hasRightMen_15 {n : Nat} {g : Hp} {F : Nat} {o : Int32 × Hp} : ∀ (f : Nat) {h : Hp} {x0 : Nat} {x1 : Nat} {x2 : Int32}, DyK n g h → sX5_hasRightMen_15 F f h x0 x1 x2 = some o → DyK n g o.2 := by
  intro f
  induction f with
  | zero => intro h x0 x1 x2 _ e; exact absurd e (by rw [sX5_hasRightMen_15]; exact fun z => nomatch z)
  | succ f ih =>
    intro h x0 x1 x2 k e
    rw [sX5_hasRightMen_15] at e
    replace e := br_s e
    rcases e with ⟨_, e⟩ | ⟨_, e⟩
    · rw [← Option.some.inj e]; exact k
    · replace e := cl_s e
      obtain ⟨r_2, _, e⟩ := e
      replace e := (gd_s e).2
      replace e := nm_s e
      obtain ⟨v_4, wv_4, e⟩ := e
      exact dk_X5_hasRightMen_33 (fun k e => ih k e) F k e
theorem dk_X5_hasRightMen {n : Nat} {g : Hp} {F : Nat} {o : Int32 × Hp} {x0 : Nat} {x1 : Nat} {h : Hp} (k : DyK n g h) (e : sX5_hasRightMen F h x0 x1 = some o) : DyK n g o.2 := by
  unfold sX5_hasRightMen at e
  replace e := cl_s e
  obtain ⟨r_1, _, e⟩ := e
  replace e := br_s e
  rcases e with ⟨_, e⟩ | ⟨_, e⟩
  · rw [← Option.some.inj e]; exact k
  · exact dk_X5_hasRightMen_15 F k e
theorem dk_X5_hasLateMan_89 {n : Nat} {g : Hp} {F : Nat} {o : Int32 × Hp} {h : Hp} (k : DyK n g h) (e : sX5_hasLateMan_89 F h = some o) : DyK n g o.2 := by
  unfold sX5_hasLateMan_89 at e
  rw [← Option.some.inj e]; exact k
theorem dk_X1_becomesOthers_24 {n : Nat} {g : Hp} {o : Int32 × Hp} {t0 : Int32} {h : Hp} (k : DyK n g h) (e : sX1_becomesOthers_24 h t0 = some o) : DyK n g o.2 := by
  unfold sX1_becomesOthers_24 at e
  replace e := (gd_s e).2
  rw [← Option.some.inj e]; exact k
theorem dk_X1_becomesOthers_23 {n : Nat} {g : Hp} {o : Int32 × Hp} {h : Hp} (k : DyK n g h) (e : sX1_becomesOthers_23 h = some o) : DyK n g o.2 := by
  unfold sX1_becomesOthers_23 at e
  exact dk_X1_becomesOthers_24 k e
theorem dk_X1_becomesOthers {n : Nat} {g : Hp} {o : Int32 × Hp} {x0 : Nat} {x1 : Int32} {h : Hp} (k : DyK n g h) (e : sX1_becomesOthers h x0 x1 = some o) : DyK n g o.2 := by
  unfold sX1_becomesOthers at e
  replace e := br_s e
  rcases e with ⟨_, e⟩ | ⟨_, e⟩
  · exact dk_X1_becomesOthers_23 k e
  · replace e := br_s e
    rcases e with ⟨_, e⟩ | ⟨_, e⟩
    · exact dk_X1_becomesOthers_23 k e
    · replace e := cl_s e
      obtain ⟨r_3, _, e⟩ := e
      replace e := (gd_s e).2
      replace e := br_s e
      rcases e with ⟨_, e⟩ | ⟨_, e⟩
      · exact dk_X1_becomesOthers_23 k e
      · exact dk_X1_becomesOthers_24 k e
theorem dk_X5_hasLateMan_83 {n : Nat} {g : Hp} {F : Nat} {o : Int32 × Hp} {x0 : Nat} {x1 : Nat} {x2 : Int64} {x4 : Int32} {k_17 : Hp → Nat → Nat → Int64 → Int32 → Option (Int32 × Hp)} (R_17 : ∀ {h : Hp} {y1 : Nat} {y2 : Nat} {y3 : Int64} {y4 : Int32}, DyK n g h → k_17 h y1 y2 y3 y4 = some o → DyK n g o.2) {h : Hp} (k : DyK n g h) (e : sX5_hasLateMan_83 F k_17 h x0 x1 x2 x4 = some o) : DyK n g o.2 := by
  unfold sX5_hasLateMan_83 at e
  replace e := nm_s e
  obtain ⟨v_1, wv_1, e⟩ := e
  exact R_17 k e
theorem dk_X1_isLast_28 {n : Nat} {g : Hp} {o : Int32 × Hp} {t0 : Int32} {h : Hp} (k : DyK n g h) (e : sX1_isLast_28 h t0 = some o) : DyK n g o.2 := by
  unfold sX1_isLast_28 at e
  replace e := (gd_s e).2
  rw [← Option.some.inj e]; exact k
theorem dk_X1_isLast_20 {n : Nat} {g : Hp} {o : Int32 × Hp} {t0 : Int32} {t1 : Int32} {h : Hp} (k : DyK n g h) (e : sX1_isLast_20 h t0 t1 = some o) : DyK n g o.2 := by
  unfold sX1_isLast_20 at e
  replace e := br_s e
  rcases e with ⟨_, e⟩ | ⟨_, e⟩
  · exact dk_X1_isLast_28 k e
  · exact dk_X1_isLast_28 k e
theorem dk_X1_isLast {n : Nat} {g : Hp} {o : Int32 × Hp} {x0 : Nat} {x1 : Int32} {x2 : Int32} {h : Hp} (k : DyK n g h) (e : sX1_isLast h x0 x1 x2 = some o) : DyK n g o.2 := by
  unfold sX1_isLast at e
  replace e := cl_s e
  obtain ⟨r_1, _, e⟩ := e
  replace e := (gd_s e).2
  replace e := br_s e
  rcases e with ⟨_, e⟩ | ⟨_, e⟩
  · exact dk_X1_isLast_20 k e
  · exact dk_X1_isLast_20 k e
theorem dk_X5_hasLateMan_17 {n : Nat} {g : Hp} {F : Nat} {o : Int32 × Hp} : ∀ (f : Nat) {h : Hp} {x0 : Nat} {x1 : Nat} {x2 : Int64} {x4 : Int32}, DyK n g h → sX5_hasLateMan_17 F f h x0 x1 x2 x4 = some o → DyK n g o.2 := by
  intro f
  induction f with
  | zero => intro h x0 x1 x2 x4 _ e; exact absurd e (by rw [sX5_hasLateMan_17]; exact fun z => nomatch z)
  | succ f ih =>
    intro h x0 x1 x2 x4 k e
    rw [sX5_hasLateMan_17] at e
    replace e := br_s e
    rcases e with ⟨_, e⟩ | ⟨_, e⟩
    · exact dk_X5_hasLateMan_89 k e
    · replace e := br_s e
      rcases e with ⟨_, e⟩ | ⟨_, e⟩
      · exact dk_X5_hasLateMan_89 k e
      · replace e := cl_s e
        obtain ⟨o_3, eo_3, e⟩ := e
        have ko_3 : DyK n g o_3.2 := dk_X11_lowest k eo_3
        replace e := nm_s e
        obtain ⟨v_4, wv_4, e⟩ := e
        replace e := cl_s e
        obtain ⟨r_5, _, e⟩ := e
        replace e := (gd_s e).2
        replace e := nm_s e
        obtain ⟨v_7, wv_7, e⟩ := e
        replace e := cl_s e
        obtain ⟨r_8, _, e⟩ := e
        replace e := cl_s e
        obtain ⟨o_9, eo_9, e⟩ := e
        have ko_9 : DyK n g o_9.2 := dk_X1_becomesOthers ko_3 eo_9
        replace e := br_s e
        rcases e with ⟨_, e⟩ | ⟨_, e⟩
        · exact dk_X5_hasLateMan_83 (fun k e => ih k e) ko_9 e
        · replace e := cl_s e
          obtain ⟨r_11, _, e⟩ := e
          replace e := cl_s e
          obtain ⟨o_12, eo_12, e⟩ := e
          have ko_12 : DyK n g o_12.2 := dk_X1_isLast ko_9 eo_12
          replace e := br_s e
          rcases e with ⟨_, e⟩ | ⟨_, e⟩
          · exact dk_X5_hasLateMan_83 (fun k e => ih k e) ko_12 e
          · rw [← Option.some.inj e]; exact ko_12
theorem dk_X5_hasLateMan {n : Nat} {g : Hp} {F : Nat} {o : Int32 × Hp} {x0 : Nat} {x1 : Nat} {h : Hp} (k : DyK n g h) (e : sX5_hasLateMan F h x0 x1 = some o) : DyK n g o.2 := by
  unfold sX5_hasLateMan at e
  replace e := cl_s e
  obtain ⟨r_1, _, e⟩ := e
  replace e := (gd_s e).2
  replace e := cl_s e
  obtain ⟨r_3, _, e⟩ := e
  replace e := (gd_s e).2
  replace e := nm_s e
  obtain ⟨v_5, wv_5, e⟩ := e
  exact dk_X5_hasLateMan_17 F k e
theorem dk_X5_hasRightRights_129 {n : Nat} {g : Hp} {F : Nat} {o : Int32 × Hp} {h : Hp} (k : DyK n g h) (e : sX5_hasRightRights_129 F h = some o) : DyK n g o.2 := by
  unfold sX5_hasRightRights_129 at e
  rw [← Option.some.inj e]; exact k
theorem dk_X5_hasRightRights_123 {n : Nat} {g : Hp} {F : Nat} {o : Int32 × Hp} {x0 : Nat} {x1 : Nat} {x2 : Int32} {k_2 : Hp → Nat → Nat → Int32 → Option (Int32 × Hp)} (R_2 : ∀ {h : Hp} {y1 : Nat} {y2 : Nat} {y3 : Int32}, DyK n g h → k_2 h y1 y2 y3 = some o → DyK n g o.2) {h : Hp} (k : DyK n g h) (e : sX5_hasRightRights_123 F k_2 h x0 x1 x2 = some o) : DyK n g o.2 := by
  unfold sX5_hasRightRights_123 at e
  replace e := nm_s e
  obtain ⟨v_1, wv_1, e⟩ := e
  exact R_2 k e
theorem dk_X5_hasRightRights_88 {n : Nat} {g : Hp} {F : Nat} {o : Int32 × Hp} {h : Hp} (k : DyK n g h) (e : sX5_hasRightRights_88 F h = some o) : DyK n g o.2 := by
  unfold sX5_hasRightRights_88 at e
  rw [← Option.some.inj e]; exact k
theorem dk_X1_isFirst {n : Nat} {g : Hp} {o : Int32 × Hp} {x0 : Nat} {x1 : Int32} {x2 : Int32} {h : Hp} (k : DyK n g h) (e : sX1_isFirst h x0 x1 x2 = some o) : DyK n g o.2 := by
  unfold sX1_isFirst at e
  replace e := cl_s e
  obtain ⟨o_1, eo_1, e⟩ := e
  have ko_1 : DyK n g o_1.2 := dk_X1_isLast k eo_1
  replace e := (gd_s e).2
  rw [← Option.some.inj e]; exact ko_1
theorem dk_X5_hasRightRights_121 {n : Nat} {g : Hp} {F : Nat} {o : Int32 × Hp} {h : Hp} (k : DyK n g h) (e : sX5_hasRightRights_121 F h = some o) : DyK n g o.2 := by
  unfold sX5_hasRightRights_121 at e
  rw [← Option.some.inj e]; exact k
theorem dk_X5_hasRightRights_2 {n : Nat} {g : Hp} {F : Nat} {o : Int32 × Hp} : ∀ (f : Nat) {h : Hp} {x0 : Nat} {x1 : Nat} {x2 : Int32}, DyK n g h → sX5_hasRightRights_2 F f h x0 x1 x2 = some o → DyK n g o.2 := by
  intro f
  induction f with
  | zero => intro h x0 x1 x2 _ e; exact absurd e (by rw [sX5_hasRightRights_2]; exact fun z => nomatch z)
  | succ f ih =>
    intro h x0 x1 x2 k e
    rw [sX5_hasRightRights_2] at e
    replace e := cl_s e
    obtain ⟨r_1, _, e⟩ := e
    replace e := br_s e
    rcases e with ⟨_, e⟩ | ⟨_, e⟩
    · exact dk_X5_hasRightRights_129 k e
    · replace e := br_s e
      rcases e with ⟨_, e⟩ | ⟨_, e⟩
      · exact dk_X5_hasRightRights_129 k e
      · replace e := br_s e
        rcases e with ⟨_, e⟩ | ⟨_, e⟩
        · exact dk_X5_hasRightRights_123 (fun k e => ih k e) k e
        · replace e := cl_s e
          obtain ⟨r_5, _, e⟩ := e
          replace e := (gd_s e).2
          replace e := nm_s e
          obtain ⟨v_7, wv_7, e⟩ := e
          replace e := cl_s e
          obtain ⟨r_8, _, e⟩ := e
          replace e := br_s e
          rcases e with ⟨_, e⟩ | ⟨_, e⟩
          · exact dk_X5_hasRightRights_88 k e
          · replace e := br_s e
            rcases e with ⟨_, e⟩ | ⟨_, e⟩
            · exact dk_X5_hasRightRights_88 k e
            · replace e := cl_s e
              obtain ⟨r_11, _, e⟩ := e
              replace e := br_s e
              rcases e with ⟨_, e⟩ | ⟨_, e⟩
              · replace e := cl_s e
                obtain ⟨r_13, _, e⟩ := e
                replace e := cl_s e
                obtain ⟨o_14, eo_14, e⟩ := e
                have ko_14 : DyK n g o_14.2 := dk_X1_isFirst k eo_14
                replace e := br_s e
                rcases e with ⟨_, e⟩ | ⟨_, e⟩
                · exact dk_X5_hasRightRights_88 ko_14 e
                · replace e := cl_s e
                  obtain ⟨r_16, _, e⟩ := e
                  replace e := (gd_s e).2
                  replace e := nm_s e
                  obtain ⟨v_18, wv_18, e⟩ := e
                  replace e := br_s e
                  rcases e with ⟨_, e⟩ | ⟨_, e⟩
                  · exact dk_X5_hasRightRights_121 ko_14 e
                  · replace e := cl_s e
                    obtain ⟨r_20, _, e⟩ := e
                    replace e := cl_s e
                    obtain ⟨o_21, eo_21, e⟩ := e
                    have ko_21 : DyK n g o_21.2 := dk_X1_isFirst ko_14 eo_21
                    replace e := br_s e
                    rcases e with ⟨_, e⟩ | ⟨_, e⟩
                    · exact dk_X5_hasRightRights_121 ko_21 e
                    · exact dk_X5_hasRightRights_123 (fun k e => ih k e) ko_21 e
              · exact dk_X5_hasRightRights_88 k e
theorem dk_X5_hasRightRights {n : Nat} {g : Hp} {F : Nat} {o : Int32 × Hp} {x0 : Nat} {x1 : Nat} {h : Hp} (k : DyK n g h) (e : sX5_hasRightRights F h x0 x1 = some o) : DyK n g o.2 := by
  unfold sX5_hasRightRights at e
  exact dk_X5_hasRightRights_2 F k e
theorem dk_X5_isRoyalHit_32 {n : Nat} {g : Hp} {F : Nat} {o : Int32 × Hp} {t0 : Int32} {h : Hp} (k : DyK n g h) (e : sX5_isRoyalHit_32 F h t0 = some o) : DyK n g o.2 := by
  unfold sX5_isRoyalHit_32 at e
  replace e := (gd_s e).2
  rw [← Option.some.inj e]; exact k
theorem dk_X5_isRoyalHit_31 {n : Nat} {g : Hp} {F : Nat} {o : Int32 × Hp} {h : Hp} (k : DyK n g h) (e : sX5_isRoyalHit_31 F h = some o) : DyK n g o.2 := by
  unfold sX5_isRoyalHit_31 at e
  exact dk_X5_isRoyalHit_32 k e
theorem dk_X5_isHit_255 {n : Nat} {g : Hp} {F : Nat} {o : Int32 × Hp} {h : Hp} (k : DyK n g h) (e : sX5_isHit_255 F h = some o) : DyK n g o.2 := by
  unfold sX5_isHit_255 at e
  rw [← Option.some.inj e]; exact k
theorem dk_X5_isHit_249 {n : Nat} {g : Hp} {F : Nat} {o : Int32 × Hp} {x0 : Nat} {x1 : Nat} {x2 : Int32} {x4 : Int64} {x6 : Int64} {x8 : Int32} {k_26 : Hp → Nat → Nat → Int32 → Int64 → Int64 → Int32 → Option (Int32 × Hp)} (R_26 : ∀ {h : Hp} {y1 : Nat} {y2 : Nat} {y3 : Int32} {y4 : Int64} {y5 : Int64} {y6 : Int32}, DyK n g h → k_26 h y1 y2 y3 y4 y5 y6 = some o → DyK n g o.2) {h : Hp} (k : DyK n g h) (e : sX5_isHit_249 F k_26 h x0 x1 x2 x4 x6 x8 = some o) : DyK n g o.2 := by
  unfold sX5_isHit_249 at e
  replace e := nm_s e
  obtain ⟨v_1, wv_1, e⟩ := e
  exact R_26 k e
theorem dk_X5_isHit_243 {n : Nat} {g : Hp} {F : Nat} {o : Int32 × Hp} {x0 : Nat} {x1 : Nat} {x2 : Int32} {x4 : Int64} {x6 : Int64} {x8 : Int32} {x13 : Int32} {x14 : Int32} {k_26 : Hp → Nat → Nat → Int32 → Int64 → Int64 → Int32 → Option (Int32 × Hp)} (R_26 : ∀ {h : Hp} {y1 : Nat} {y2 : Nat} {y3 : Int32} {y4 : Int64} {y5 : Int64} {y6 : Int32}, DyK n g h → k_26 h y1 y2 y3 y4 y5 y6 = some o → DyK n g o.2) {k_133 : Hp → Nat → Nat → Int32 → Int64 → Int64 → Int32 → Int32 → Int32 → Option (Int32 × Hp)} (R_133 : ∀ {h : Hp} {y1 : Nat} {y2 : Nat} {y3 : Int32} {y4 : Int64} {y5 : Int64} {y6 : Int32} {y7 : Int32} {y8 : Int32}, DyK n g h → k_133 h y1 y2 y3 y4 y5 y6 y7 y8 = some o → DyK n g o.2) {h : Hp} (k : DyK n g h) (e : sX5_isHit_243 F k_26 k_133 h x0 x1 x2 x4 x6 x8 x13 x14 = some o) : DyK n g o.2 := by
  unfold sX5_isHit_243 at e
  replace e := nm_s e
  obtain ⟨v_1, wv_1, e⟩ := e
  exact R_133 k e
theorem dk_X5_isHit_227 {n : Nat} {g : Hp} {F : Nat} {o : Int32 × Hp} {x0 : Nat} {x1 : Nat} {x2 : Int32} {x4 : Int64} {x6 : Int64} {x8 : Int32} {x13 : Int32} {x14 : Int32} {x15 : Int32} {t0 : Int32} {k_26 : Hp → Nat → Nat → Int32 → Int64 → Int64 → Int32 → Option (Int32 × Hp)} (R_26 : ∀ {h : Hp} {y1 : Nat} {y2 : Nat} {y3 : Int32} {y4 : Int64} {y5 : Int64} {y6 : Int32}, DyK n g h → k_26 h y1 y2 y3 y4 y5 y6 = some o → DyK n g o.2) {k_133 : Hp → Nat → Nat → Int32 → Int64 → Int64 → Int32 → Int32 → Int32 → Option (Int32 × Hp)} (R_133 : ∀ {h : Hp} {y1 : Nat} {y2 : Nat} {y3 : Int32} {y4 : Int64} {y5 : Int64} {y6 : Int32} {y7 : Int32} {y8 : Int32}, DyK n g h → k_133 h y1 y2 y3 y4 y5 y6 y7 y8 = some o → DyK n g o.2) {h : Hp} (k : DyK n g h) (e : sX5_isHit_227 F k_26 k_133 h x0 x1 x2 x4 x6 x8 x13 x14 x15 t0 = some o) : DyK n g o.2 := by
  unfold sX5_isHit_227 at e
  replace e := br_s e
  rcases e with ⟨_, e⟩ | ⟨_, e⟩
  · exact dk_X5_isHit_243 R_26 R_133 k e
  · replace e := br_s e
    rcases e with ⟨_, e⟩ | ⟨_, e⟩
    · rw [← Option.some.inj e]; exact k
    · exact dk_X5_isHit_243 R_26 R_133 k e
theorem dk_X5_isHit_226 {n : Nat} {g : Hp} {F : Nat} {o : Int32 × Hp} {x0 : Nat} {x1 : Nat} {x2 : Int32} {x4 : Int64} {x6 : Int64} {x8 : Int32} {x13 : Int32} {x14 : Int32} {x15 : Int32} {k_26 : Hp → Nat → Nat → Int32 → Int64 → Int64 → Int32 → Option (Int32 × Hp)} (R_26 : ∀ {h : Hp} {y1 : Nat} {y2 : Nat} {y3 : Int32} {y4 : Int64} {y5 : Int64} {y6 : Int32}, DyK n g h → k_26 h y1 y2 y3 y4 y5 y6 = some o → DyK n g o.2) {k_133 : Hp → Nat → Nat → Int32 → Int64 → Int64 → Int32 → Int32 → Int32 → Option (Int32 × Hp)} (R_133 : ∀ {h : Hp} {y1 : Nat} {y2 : Nat} {y3 : Int32} {y4 : Int64} {y5 : Int64} {y6 : Int32} {y7 : Int32} {y8 : Int32}, DyK n g h → k_133 h y1 y2 y3 y4 y5 y6 y7 y8 = some o → DyK n g o.2) {h : Hp} (k : DyK n g h) (e : sX5_isHit_226 F k_26 k_133 h x0 x1 x2 x4 x6 x8 x13 x14 x15 = some o) : DyK n g o.2 := by
  unfold sX5_isHit_226 at e
  exact dk_X5_isHit_227 R_26 R_133 k e
theorem dk_X5_isHit_133 {n : Nat} {g : Hp} {F : Nat} {o : Int32 × Hp} {k_26 : Hp → Nat → Nat → Int32 → Int64 → Int64 → Int32 → Option (Int32 × Hp)} (R_26 : ∀ {h : Hp} {y1 : Nat} {y2 : Nat} {y3 : Int32} {y4 : Int64} {y5 : Int64} {y6 : Int32}, DyK n g h → k_26 h y1 y2 y3 y4 y5 y6 = some o → DyK n g o.2) : ∀ (f : Nat) {h : Hp} {x0 : Nat} {x1 : Nat} {x2 : Int32} {x4 : Int64} {x6 : Int64} {x8 : Int32} {x13 : Int32} {x14 : Int32}, DyK n g h → sX5_isHit_133 F k_26 f h x0 x1 x2 x4 x6 x8 x13 x14 = some o → DyK n g o.2 := by
  intro f
  induction f with
  | zero => intro h x0 x1 x2 x4 x6 x8 x13 x14 _ e; exact absurd e (by rw [sX5_isHit_133]; exact fun z => nomatch z)
  | succ f ih =>
    intro h x0 x1 x2 x4 x6 x8 x13 x14 k e
    rw [sX5_isHit_133] at e
    replace e := cl_s e
    obtain ⟨r_1, _, e⟩ := e
    replace e := cl_s e
    obtain ⟨r_2, _, e⟩ := e
    replace e := (gd_s e).2
    replace e := br_s e
    rcases e with ⟨_, e⟩ | ⟨_, e⟩
    · exact dk_X5_isHit_249 R_26 k e
    · replace e := cl_s e
      obtain ⟨r_5, _, e⟩ := e
      replace e := cl_s e
      obtain ⟨r_6, _, e⟩ := e
      replace e := (gd_s e).2
      replace e := nm_s e
      obtain ⟨v_8, wv_8, e⟩ := e
      replace e := cl_s e
      obtain ⟨r_9, _, e⟩ := e
      replace e := cl_s e
      obtain ⟨r_10, _, e⟩ := e
      replace e := (gd_s e).2
      replace e := nm_s e
      obtain ⟨v_12, wv_12, e⟩ := e
      replace e := br_s e
      rcases e with ⟨_, e⟩ | ⟨_, e⟩
      · replace e := br_s e
        rcases e with ⟨_, e⟩ | ⟨_, e⟩
        · exact dk_X5_isHit_227 R_26 (fun k e => ih k e) k e
        · exact dk_X5_isHit_227 R_26 (fun k e => ih k e) k e
      · replace e := br_s e
        rcases e with ⟨_, e⟩ | ⟨_, e⟩
        · exact dk_X5_isHit_226 R_26 (fun k e => ih k e) k e
        · replace e := br_s e
          rcases e with ⟨_, e⟩ | ⟨_, e⟩
          · exact dk_X5_isHit_227 R_26 (fun k e => ih k e) k e
          · exact dk_X5_isHit_226 R_26 (fun k e => ih k e) k e
theorem dk_X5_isHit_26 {n : Nat} {g : Hp} {F : Nat} {o : Int32 × Hp} : ∀ (f : Nat) {h : Hp} {x0 : Nat} {x1 : Nat} {x2 : Int32} {x4 : Int64} {x6 : Int64} {x8 : Int32}, DyK n g h → sX5_isHit_26 F f h x0 x1 x2 x4 x6 x8 = some o → DyK n g o.2 := by
  intro f
  induction f with
  | zero => intro h x0 x1 x2 x4 x6 x8 _ e; exact absurd e (by rw [sX5_isHit_26]; exact fun z => nomatch z)
  | succ f ih =>
    intro h x0 x1 x2 x4 x6 x8 k e
    rw [sX5_isHit_26] at e
    replace e := br_s e
    rcases e with ⟨_, e⟩ | ⟨_, e⟩
    · exact dk_X5_isHit_255 k e
    · replace e := br_s e
      rcases e with ⟨_, e⟩ | ⟨_, e⟩
      · exact dk_X5_isHit_255 k e
      · replace e := nm_s e
        obtain ⟨v_3, wv_3, e⟩ := e
        replace e := nm_s e
        obtain ⟨v_4, wv_4, e⟩ := e
        replace e := (gd_s e).2
        replace e := nm_s e
        obtain ⟨v_6, wv_6, e⟩ := e
        replace e := cl_s e
        obtain ⟨r_7, _, e⟩ := e
        replace e := (gd_s e).2
        replace e := nm_s e
        obtain ⟨v_9, wv_9, e⟩ := e
        replace e := cl_s e
        obtain ⟨r_10, _, e⟩ := e
        replace e := cl_s e
        obtain ⟨r_11, _, e⟩ := e
        replace e := (gd_s e).2
        replace e := br_s e
        rcases e with ⟨_, e⟩ | ⟨_, e⟩
        · exact dk_X5_isHit_249 (fun k e => ih k e) k e
        · replace e := nm_s e
          obtain ⟨v_14, wv_14, e⟩ := e
          replace e := cl_s e
          obtain ⟨r_15, _, e⟩ := e
          replace e := cl_s e
          obtain ⟨r_16, _, e⟩ := e
          replace e := (gd_s e).2
          replace e := nm_s e
          obtain ⟨v_18, wv_18, e⟩ := e
          exact dk_X5_isHit_133 (fun k e => ih k e) F k e
theorem dk_X5_isHit {n : Nat} {g : Hp} {F : Nat} {o : Int32 × Hp} {x0 : Nat} {x1 : Nat} {x2 : Int32} {x3 : Int32} {h : Hp} (k : DyK n g h) (e : sX5_isHit F h x0 x1 x2 x3 = some o) : DyK n g o.2 := by
  unfold sX5_isHit at e
  replace e := cl_s e
  obtain ⟨r_1, _, e⟩ := e
  replace e := (gd_s e).2
  replace e := cl_s e
  obtain ⟨r_3, _, e⟩ := e
  replace e := (gd_s e).2
  replace e := nm_s e
  obtain ⟨v_5, wv_5, e⟩ := e
  replace e := cl_s e
  obtain ⟨r_6, _, e⟩ := e
  replace e := (gd_s e).2
  replace e := nm_s e
  obtain ⟨v_8, wv_8, e⟩ := e
  exact dk_X5_isHit_26 F k e
theorem dk_X5_isRoyalHit {n : Nat} {g : Hp} {F : Nat} {o : Int32 × Hp} {x0 : Nat} {x1 : Nat} {x2 : Int32} {h : Hp} (k : DyK n g h) (e : sX5_isRoyalHit F h x0 x1 x2 = some o) : DyK n g o.2 := by
  unfold sX5_isRoyalHit at e
  replace e := cl_s e
  obtain ⟨r_1, _, e⟩ := e
  replace e := (gd_s e).2
  replace e := br_s e
  rcases e with ⟨_, e⟩ | ⟨_, e⟩
  · exact dk_X5_isRoyalHit_31 k e
  · replace e := cl_s e
    obtain ⟨r_4, _, e⟩ := e
    replace e := (gd_s e).2
    replace e := cl_s e
    obtain ⟨o_6, eo_6, e⟩ := e
    have ko_6 : DyK n g o_6.2 := dk_X5_isHit k eo_6
    replace e := br_s e
    rcases e with ⟨_, e⟩ | ⟨_, e⟩
    · exact dk_X5_isRoyalHit_31 ko_6 e
    · exact dk_X5_isRoyalHit_32 ko_6 e
theorem dk_X5_faultOf_136 {n : Nat} {g : Hp} {F : Nat} {o : Int32 × Hp} {t0 : Int32} {h : Hp} (k : DyK n g h) (e : sX5_faultOf_136 F h t0 = some o) : DyK n g o.2 := by
  unfold sX5_faultOf_136 at e
  rw [← Option.some.inj e]; exact k
theorem dk_X5_faultOf_135 {n : Nat} {g : Hp} {F : Nat} {o : Int32 × Hp} {h : Hp} (k : DyK n g h) (e : sX5_faultOf_135 F h = some o) : DyK n g o.2 := by
  unfold sX5_faultOf_135 at e
  exact dk_X5_faultOf_136 k e
theorem dk_X5_faultOf_130 {n : Nat} {g : Hp} {F : Nat} {o : Int32 × Hp} {h : Hp} (k : DyK n g h) (e : sX5_faultOf_130 F h = some o) : DyK n g o.2 := by
  unfold sX5_faultOf_130 at e
  exact dk_X5_faultOf_136 k e
theorem dk_X5_faultOf_97 {n : Nat} {g : Hp} {F : Nat} {o : Int32 × Hp} {x0 : Nat} {x1 : Nat} {h : Hp} (k : DyK n g h) (e : sX5_faultOf_97 F h x0 x1 = some o) : DyK n g o.2 := by
  unfold sX5_faultOf_97 at e
  replace e := cl_s e
  obtain ⟨r_1, _, e⟩ := e
  replace e := cl_s e
  obtain ⟨o_2, eo_2, e⟩ := e
  have ko_2 : DyK n g o_2.2 := dk_X1_has k eo_2
  replace e := br_s e
  rcases e with ⟨_, e⟩ | ⟨_, e⟩
  · replace e := cl_s e
    obtain ⟨r_4, _, e⟩ := e
    replace e := (gd_s e).2
    replace e := br_s e
    rcases e with ⟨_, e⟩ | ⟨_, e⟩
    · replace e := cl_s e
      obtain ⟨r_7, _, e⟩ := e
      replace e := (gd_s e).2
      replace e := br_s e
      rcases e with ⟨_, e⟩ | ⟨_, e⟩
      · exact dk_X5_faultOf_135 ko_2 e
      · exact dk_X5_faultOf_130 ko_2 e
    · exact dk_X5_faultOf_130 ko_2 e
  · exact dk_X5_faultOf_135 ko_2 e
theorem dk_X5_faultOf_94 {n : Nat} {g : Hp} {F : Nat} {o : Int32 × Hp} {h : Hp} (k : DyK n g h) (e : sX5_faultOf_94 F h = some o) : DyK n g o.2 := by
  unfold sX5_faultOf_94 at e
  rw [← Option.some.inj e]; exact k
theorem dk_X5_faultOf_49 {n : Nat} {g : Hp} {F : Nat} {o : Int32 × Hp} {x0 : Nat} {x1 : Nat} {h : Hp} (k : DyK n g h) (e : sX5_faultOf_49 F h x0 x1 = some o) : DyK n g o.2 := by
  unfold sX5_faultOf_49 at e
  replace e := cl_s e
  obtain ⟨o_1, eo_1, e⟩ := e
  have ko_1 : DyK n g o_1.2 := dk_X5_isRoyalHit k eo_1
  replace e := br_s e
  rcases e with ⟨_, e⟩ | ⟨_, e⟩
  · replace e := cl_s e
    obtain ⟨r_3, _, e⟩ := e
    replace e := br_s e
    rcases e with ⟨_, e⟩ | ⟨_, e⟩
    · replace e := cl_s e
      obtain ⟨r_5, _, e⟩ := e
      replace e := (gd_s e).2
      replace e := br_s e
      rcases e with ⟨_, e⟩ | ⟨_, e⟩
      · replace e := cl_s e
        obtain ⟨r_8, _, e⟩ := e
        replace e := (gd_s e).2
        replace e := br_s e
        rcases e with ⟨_, e⟩ | ⟨_, e⟩
        · exact dk_X5_faultOf_97 ko_1 e
        · exact dk_X5_faultOf_94 ko_1 e
      · exact dk_X5_faultOf_94 ko_1 e
    · exact dk_X5_faultOf_97 ko_1 e
  · rw [← Option.some.inj e]; exact ko_1
theorem dk_X3_passSquare {n : Nat} {g : Hp} {o : Int32 × Hp} {x0 : Nat} {x1 : Int32} {h : Hp} (k : DyK n g h) (e : sX3_passSquare h x0 x1 = some o) : DyK n g o.2 := by
  unfold sX3_passSquare at e
  rw [← Option.some.inj e]; exact k
theorem dk_X5_hasRightPass_55 {n : Nat} {g : Hp} {F : Nat} {o : Int32 × Hp} {h : Hp} (k : DyK n g h) (e : sX5_hasRightPass_55 F h = some o) : DyK n g o.2 := by
  unfold sX5_hasRightPass_55 at e
  rw [← Option.some.inj e]; exact k
theorem dk_X3_occupied {n : Nat} {g : Hp} {o : Int64 × Hp} {x0 : Nat} {h : Hp} (k : DyK n g h) (e : sX3_occupied h x0 = some o) : DyK n g o.2 := by
  unfold sX3_occupied at e
  replace e := cl_s e
  obtain ⟨r_1, _, e⟩ := e
  replace e := (gd_s e).2
  replace e := cl_s e
  obtain ⟨r_3, _, e⟩ := e
  replace e := (gd_s e).2
  rw [← Option.some.inj e]; exact k
theorem dk_X10_cell {n : Nat} {g : Hp} {o : Int32 × Hp} {x0 : Int32} {x1 : Int32} {x2 : Int32} {h : Hp} (k : DyK n g h) (e : sX10_cell h x0 x1 x2 = some o) : DyK n g o.2 := by
  unfold sX10_cell at e
  rw [← Option.some.inj e]; exact k
theorem dk_X5_hasRightPass_179 {n : Nat} {g : Hp} {F : Nat} {o : Int32 × Hp} {x0 : Nat} {x1 : Nat} {x2 : Int32} {x3 : Int32} {x4 : Int32} {x5 : Int32} {k_60 : Hp → Nat → Nat → Int32 → Int32 → Int32 → Int32 → Option (Int32 × Hp)} (R_60 : ∀ {h : Hp} {y1 : Nat} {y2 : Nat} {y3 : Int32} {y4 : Int32} {y5 : Int32} {y6 : Int32}, DyK n g h → k_60 h y1 y2 y3 y4 y5 y6 = some o → DyK n g o.2) {h : Hp} (k : DyK n g h) (e : sX5_hasRightPass_179 F k_60 h x0 x1 x2 x3 x4 x5 = some o) : DyK n g o.2 := by
  unfold sX5_hasRightPass_179 at e
  replace e := nm_s e
  obtain ⟨v_1, wv_1, e⟩ := e
  exact R_60 k e
theorem dk_X5_hasRightPass_173 {n : Nat} {g : Hp} {F : Nat} {o : Int32 × Hp} {x0 : Nat} {x1 : Nat} {x2 : Int32} {x3 : Int32} {x4 : Int32} {x5 : Int32} {x6 : Int32} {x7 : Int32} {k_60 : Hp → Nat → Nat → Int32 → Int32 → Int32 → Int32 → Option (Int32 × Hp)} (R_60 : ∀ {h : Hp} {y1 : Nat} {y2 : Nat} {y3 : Int32} {y4 : Int32} {y5 : Int32} {y6 : Int32}, DyK n g h → k_60 h y1 y2 y3 y4 y5 y6 = some o → DyK n g o.2) {k_108 : Hp → Nat → Nat → Int32 → Int32 → Int32 → Int32 → Int32 → Int32 → Option (Int32 × Hp)} (R_108 : ∀ {h : Hp} {y1 : Nat} {y2 : Nat} {y3 : Int32} {y4 : Int32} {y5 : Int32} {y6 : Int32} {y7 : Int32} {y8 : Int32}, DyK n g h → k_108 h y1 y2 y3 y4 y5 y6 y7 y8 = some o → DyK n g o.2) {h : Hp} (k : DyK n g h) (e : sX5_hasRightPass_173 F k_60 k_108 h x0 x1 x2 x3 x4 x5 x6 x7 = some o) : DyK n g o.2 := by
  unfold sX5_hasRightPass_173 at e
  replace e := nm_s e
  obtain ⟨v_1, wv_1, e⟩ := e
  exact R_108 k e
theorem dk_X5_wentOver_21 {n : Nat} {g : Hp} {F : Nat} {o : Int32 × Hp} : ∀ (f : Nat) {h : Hp} {x0 : Nat} {x1 : Int32} {x2 : Int32} {x3 : Int32} {x4 : Int32}, DyK n g h → sX5_wentOver_21 F f h x0 x1 x2 x3 x4 = some o → DyK n g o.2 := by
  intro f
  induction f with
  | zero => intro h x0 x1 x2 x3 x4 _ e; exact absurd e (by rw [sX5_wentOver_21]; exact fun z => nomatch z)
  | succ f ih =>
    intro h x0 x1 x2 x3 x4 k e
    rw [sX5_wentOver_21] at e
    replace e := br_s e
    rcases e with ⟨_, e⟩ | ⟨_, e⟩
    · rw [← Option.some.inj e]; exact k
    · replace e := cl_s e
      obtain ⟨o_2, eo_2, e⟩ := e
      have ko_2 : DyK n g o_2.2 := dk_X3_passSquare k eo_2
      replace e := br_s e
      rcases e with ⟨_, e⟩ | ⟨_, e⟩
      · replace e := nm_s e
        obtain ⟨v_4, wv_4, e⟩ := e
        exact ih ko_2 e
      · rw [← Option.some.inj e]; exact ko_2
theorem dk_X5_wentOver_17 {n : Nat} {g : Hp} {F : Nat} {o : Int32 × Hp} {x0 : Nat} {x1 : Int32} {x2 : Int32} {t0 : Int32} {h : Hp} (k : DyK n g h) (e : sX5_wentOver_17 F h x0 x1 x2 t0 = some o) : DyK n g o.2 := by
  unfold sX5_wentOver_17 at e
  exact dk_X5_wentOver_21 F k e
theorem dk_X5_wentOver {n : Nat} {g : Hp} {F : Nat} {o : Int32 × Hp} {x0 : Nat} {x1 : Int32} {x2 : Int32} {h : Hp} (k : DyK n g h) (e : sX5_wentOver F h x0 x1 x2 = some o) : DyK n g o.2 := by
  unfold sX5_wentOver at e
  replace e := br_s e
  rcases e with ⟨_, e⟩ | ⟨_, e⟩
  · exact dk_X5_wentOver_17 k e
  · replace e := cl_s e
    obtain ⟨o_2, eo_2, e⟩ := e
    have ko_2 : DyK n g o_2.2 := dk_X3_passSquare k eo_2
    replace e := (gd_s e).2
    exact dk_X5_wentOver_17 ko_2 e
theorem dk_X5_hasRightPass_108 {n : Nat} {g : Hp} {F : Nat} {o : Int32 × Hp} {k_60 : Hp → Nat → Nat → Int32 → Int32 → Int32 → Int32 → Option (Int32 × Hp)} (R_60 : ∀ {h : Hp} {y1 : Nat} {y2 : Nat} {y3 : Int32} {y4 : Int32} {y5 : Int32} {y6 : Int32}, DyK n g h → k_60 h y1 y2 y3 y4 y5 y6 = some o → DyK n g o.2) : ∀ (f : Nat) {h : Hp} {x0 : Nat} {x1 : Nat} {x2 : Int32} {x3 : Int32} {x4 : Int32} {x5 : Int32} {x6 : Int32} {x7 : Int32}, DyK n g h → sX5_hasRightPass_108 F k_60 f h x0 x1 x2 x3 x4 x5 x6 x7 = some o → DyK n g o.2 := by
  intro f
  induction f with
  | zero => intro h x0 x1 x2 x3 x4 x5 x6 x7 _ e; exact absurd e (by rw [sX5_hasRightPass_108]; exact fun z => nomatch z)
  | succ f ih =>
    intro h x0 x1 x2 x3 x4 x5 x6 x7 k e
    rw [sX5_hasRightPass_108] at e
    replace e := cl_s e
    obtain ⟨r_1, _, e⟩ := e
    replace e := cl_s e
    obtain ⟨r_2, _, e⟩ := e
    replace e := (gd_s e).2
    replace e := br_s e
    rcases e with ⟨_, e⟩ | ⟨_, e⟩
    · exact dk_X5_hasRightPass_179 R_60 k e
    · replace e := cl_s e
      obtain ⟨r_5, _, e⟩ := e
      replace e := cl_s e
      obtain ⟨r_6, _, e⟩ := e
      replace e := (gd_s e).2
      replace e := br_s e
      rcases e with ⟨_, e⟩ | ⟨_, e⟩
      · exact dk_X5_hasRightPass_173 R_60 (fun k e => ih k e) k e
      · replace e := cl_s e
        obtain ⟨r_9, _, e⟩ := e
        replace e := cl_s e
        obtain ⟨r_10, _, e⟩ := e
        replace e := (gd_s e).2
        replace e := br_s e
        rcases e with ⟨_, e⟩ | ⟨_, e⟩
        · replace e := cl_s e
          obtain ⟨o_13, eo_13, e⟩ := e
          have ko_13 : DyK n g o_13.2 := dk_X5_wentOver k eo_13
          replace e := br_s e
          rcases e with ⟨_, e⟩ | ⟨_, e⟩
          · exact dk_X5_hasRightPass_173 R_60 (fun k e => ih k e) ko_13 e
          · rw [← Option.some.inj e]; exact ko_13
        · exact dk_X5_hasRightPass_173 R_60 (fun k e => ih k e) k e
theorem dk_X5_hasRightPass_60 {n : Nat} {g : Hp} {F : Nat} {o : Int32 × Hp} : ∀ (f : Nat) {h : Hp} {x0 : Nat} {x1 : Nat} {x2 : Int32} {x3 : Int32} {x4 : Int32} {x5 : Int32}, DyK n g h → sX5_hasRightPass_60 F f h x0 x1 x2 x3 x4 x5 = some o → DyK n g o.2 := by
  intro f
  induction f with
  | zero => intro h x0 x1 x2 x3 x4 x5 _ e; exact absurd e (by rw [sX5_hasRightPass_60]; exact fun z => nomatch z)
  | succ f ih =>
    intro h x0 x1 x2 x3 x4 x5 k e
    rw [sX5_hasRightPass_60] at e
    replace e := cl_s e
    obtain ⟨r_1, _, e⟩ := e
    replace e := br_s e
    rcases e with ⟨_, e⟩ | ⟨_, e⟩
    · rw [← Option.some.inj e]; exact k
    · replace e := cl_s e
      obtain ⟨r_3, _, e⟩ := e
      replace e := (gd_s e).2
      replace e := br_s e
      rcases e with ⟨_, e⟩ | ⟨_, e⟩
      · replace e := cl_s e
        obtain ⟨o_6, eo_6, e⟩ := e
        have ko_6 : DyK n g o_6.2 := dk_X10_cell k eo_6
        replace e := cl_s e
        obtain ⟨r_7, _, e⟩ := e
        replace e := cl_s e
        obtain ⟨r_8, _, e⟩ := e
        replace e := (gd_s e).2
        replace e := nm_s e
        obtain ⟨v_10, wv_10, e⟩ := e
        exact dk_X5_hasRightPass_108 (fun k e => ih k e) F ko_6 e
      · exact dk_X5_hasRightPass_179 (fun k e => ih k e) k e
theorem dk_X5_hasRightPass {n : Nat} {g : Hp} {F : Nat} {o : Int32 × Hp} {x0 : Nat} {x1 : Nat} {h : Hp} (k : DyK n g h) (e : sX5_hasRightPass F h x0 x1 = some o) : DyK n g o.2 := by
  unfold sX5_hasRightPass at e
  replace e := cl_s e
  obtain ⟨o_1, eo_1, e⟩ := e
  have ko_1 : DyK n g o_1.2 := dk_X3_passSize k eo_1
  replace e := cl_s e
  obtain ⟨o_2, eo_2, e⟩ := e
  have ko_2 : DyK n g o_2.2 := dk_X3_passSquare ko_1 eo_2
  replace e := cl_s e
  obtain ⟨r_3, _, e⟩ := e
  replace e := (gd_s e).2
  replace e := nm_s e
  obtain ⟨v_5, wv_5, e⟩ := e
  replace e := br_s e
  rcases e with ⟨_, e⟩ | ⟨_, e⟩
  · exact dk_X5_hasRightPass_55 ko_2 e
  · replace e := br_s e
    rcases e with ⟨_, e⟩ | ⟨_, e⟩
    · exact dk_X5_hasRightPass_55 ko_2 e
    · replace e := br_s e
      rcases e with ⟨_, e⟩ | ⟨_, e⟩
      · exact dk_X5_hasRightPass_55 ko_2 e
      · replace e := cl_s e
        obtain ⟨o_9, eo_9, e⟩ := e
        have ko_9 : DyK n g o_9.2 := dk_X3_occupied ko_2 eo_9
        replace e := br_s e
        rcases e with ⟨_, e⟩ | ⟨_, e⟩
        · exact dk_X5_hasRightPass_60 F ko_9 e
        · exact dk_X5_hasRightPass_55 ko_9 e
theorem dk_X5_faultOf {n : Nat} {g : Hp} {F : Nat} {o : Int32 × Hp} {x0 : Nat} {x1 : Nat} {h : Hp} (k : DyK n g h) (e : sX5_faultOf F h x0 x1 = some o) : DyK n g o.2 := by
  unfold sX5_faultOf at e
  replace e := cl_s e
  obtain ⟨o_1, eo_1, e⟩ := e
  have ko_1 : DyK n g o_1.2 := dk_X5_hasRightMen k eo_1
  replace e := br_s e
  rcases e with ⟨_, e⟩ | ⟨_, e⟩
  · rw [← Option.some.inj e]; exact ko_1
  · replace e := cl_s e
    obtain ⟨o_3, eo_3, e⟩ := e
    have ko_3 : DyK n g o_3.2 := dk_X5_hasLateMan ko_1 eo_3
    replace e := br_s e
    rcases e with ⟨_, e⟩ | ⟨_, e⟩
    · replace e := cl_s e
      obtain ⟨o_5, eo_5, e⟩ := e
      have ko_5 : DyK n g o_5.2 := dk_X5_hasRightRights ko_3 eo_5
      replace e := br_s e
      rcases e with ⟨_, e⟩ | ⟨_, e⟩
      · rw [← Option.some.inj e]; exact ko_5
      · replace e := br_s e
        rcases e with ⟨_, e⟩ | ⟨_, e⟩
        · exact dk_X5_faultOf_49 ko_5 e
        · replace e := cl_s e
          obtain ⟨o_8, eo_8, e⟩ := e
          have ko_8 : DyK n g o_8.2 := dk_X5_hasRightPass ko_5 eo_8
          replace e := br_s e
          rcases e with ⟨_, e⟩ | ⟨_, e⟩
          · rw [← Option.some.inj e]; exact ko_8
          · exact dk_X5_faultOf_49 ko_8 e
    · rw [← Option.some.inj e]; exact ko_3
theorem dk_X11_position_103 {n : Nat} {g : Hp} {F : Nat} {o : Int32 × Hp} {t0 : Int32} {h : Hp} (k : DyK n g h) (e : sX11_position_103 F h n t0 = some o) : DyK n g o.2 := by
  unfold sX11_position_103 at e
  exact dk_X11_position_104 k e
theorem dk_X11_position_75 {n : Nat} {g : Hp} {F : Nat} {o : Int32 × Hp} {x1 : Int32} {x4 : Int32} {x5 : Int32} {t0 : Int32} {t1 : Int32} {t2 : Nat} {h : Hp} (k : DyK n g h) (e : sX11_position_75 F h n x1 x4 x5 t0 t1 t2 = some o) : DyK n g o.2 := by
  unfold sX11_position_75 at e
  replace e := (gd_s e).2
  replace e := nm_s e
  obtain ⟨h_2, wh_2, e⟩ := e
  have kh_2 : DyK n g h_2 := by rw [wh_2]; exact dk_wI k
  replace e := br_s e
  rcases e with ⟨_, e⟩ | ⟨_, e⟩
  · replace e := br_s e
    rcases e with ⟨_, e⟩ | ⟨_, e⟩
    · exact dk_X11_position_103 kh_2 e
    · exact dk_X11_position_103 kh_2 e
  · exact dk_X11_position_103 kh_2 e
theorem dk_X11_position_74 {n : Nat} {g : Hp} {F : Nat} {o : Int32 × Hp} {x1 : Int32} {x4 : Int32} {x5 : Int32} {t0 : Int32} {t1 : Nat} {h : Hp} (k : DyK n g h) (e : sX11_position_74 F h n x1 x4 x5 t0 t1 = some o) : DyK n g o.2 := by
  unfold sX11_position_74 at e
  exact dk_X11_position_75 k e
theorem dk_X11_position_52 {n : Nat} {g : Hp} {F : Nat} {o : Int32 × Hp} {x1 : Int32} {x4 : Int32} {t0 : Int32} {h : Hp} (k : DyK n g h) (e : sX11_position_52 F h n x1 x4 t0 = some o) : DyK n g o.2 := by
  unfold sX11_position_52 at e
  replace e := cl_s e
  obtain ⟨r_1, _, e⟩ := e
  replace e := br_s e
  rcases e with ⟨_, e⟩ | ⟨_, e⟩
  · replace e := br_s e
    rcases e with ⟨_, e⟩ | ⟨_, e⟩
    · exact dk_X11_position_75 k e
    · exact dk_X11_position_74 k e
  · exact dk_X11_position_74 k e
theorem dk_X11_position {n : Nat} {g : Hp} {F : Nat} {o : Int32 × Hp} {h : Hp} (k : DyK n g h) (e : sX11_position F h n = some o) : DyK n g o.2 := by
  unfold sX11_position at e
  replace e := cl_s e
  obtain ⟨o_1, eo_1, e⟩ := e
  have ko_1 : DyK n g o_1.2 := dk_X11_freePlace k eo_1
  replace e := br_s e
  rcases e with ⟨_, e⟩ | ⟨_, e⟩
  · exact dk_X11_position_104 ko_1 e
  · replace e := cl_s e
    obtain ⟨r_3, _, e⟩ := e
    replace e := (gd_s e).2
    replace e := cl_s e
    obtain ⟨r_5, _, e⟩ := e
    replace e := cl_s e
    obtain ⟨r_6, er_6, e⟩ := e
    have yr_6 := dk_ed (a := 0) (b := 38) ko_1 (by decide +kernel) er_6
    subst yr_6
    replace e := cl_s e
    obtain ⟨r_7, _, e⟩ := e
    replace e := cl_s e
    obtain ⟨o_8, eo_8, e⟩ := e
    have ko_8 : DyK n g o_8.2 := dk_X7_read ko_1 eo_8
    replace e := br_s e
    rcases e with ⟨_, e⟩ | ⟨_, e⟩
    · replace e := cl_s e
      obtain ⟨r_10, _, e⟩ := e
      replace e := cl_s e
      obtain ⟨o_11, eo_11, e⟩ := e
      have ko_11 : DyK n g o_11.2 := dk_X5_faultOf ko_8 eo_11
      exact dk_X11_position_52 ko_11 e
    · exact dk_X11_position_52 ko_8 e
theorem dk_X11_isPlace_24 {n : Nat} {g : Hp} {o : Int32 × Hp} {t0 : Int32} {h : Hp} (k : DyK n g h) (e : sX11_isPlace_24 h t0 = some o) : DyK n g o.2 := by
  unfold sX11_isPlace_24 at e
  replace e := (gd_s e).2
  rw [← Option.some.inj e]; exact k
theorem dk_X11_isPlace_23 {n : Nat} {g : Hp} {o : Int32 × Hp} {h : Hp} (k : DyK n g h) (e : sX11_isPlace_23 h = some o) : DyK n g o.2 := by
  unfold sX11_isPlace_23 at e
  exact dk_X11_isPlace_24 k e
theorem dk_X11_isPlace {n : Nat} {g : Hp} {o : Int32 × Hp} {x0 : Nat} {x1 : Int32} {h : Hp} (k : DyK n g h) (e : sX11_isPlace h x0 x1 = some o) : DyK n g o.2 := by
  unfold sX11_isPlace at e
  replace e := br_s e
  rcases e with ⟨_, e⟩ | ⟨_, e⟩
  · exact dk_X11_isPlace_23 k e
  · replace e := br_s e
    rcases e with ⟨_, e⟩ | ⟨_, e⟩
    · exact dk_X11_isPlace_23 k e
    · replace e := cl_s e
      obtain ⟨r_3, _, e⟩ := e
      replace e := (gd_s e).2
      replace e := br_s e
      rcases e with ⟨_, e⟩ | ⟨_, e⟩
      · exact dk_X11_isPlace_23 k e
      · exact dk_X11_isPlace_24 k e
theorem dk_X4_forget_23 {n : Nat} {g : Hp} {o : Hp} {h : Hp} (k : DyK n g h) (e : sX4_forget_23 h = some o) : DyK n g o := by
  unfold sX4_forget_23 at e
  rw [← Option.some.inj e]; exact k
theorem dk_X4_forget {n : Nat} {g : Hp} {o : Hp} {x0 : Nat} {x1 : Int32} {h : Hp} (k : DyK n g h) (e : sX4_forget h x0 x1 = some o) : DyK n g o := by
  unfold sX4_forget at e
  replace e := br_s e
  rcases e with ⟨_, e⟩ | ⟨_, e⟩
  · replace e := nm_s e
    obtain ⟨h_2, wh_2, e⟩ := e
    have kh_2 : DyK n g h_2 := by rw [wh_2]; exact dk_wI k
    replace e := nm_s e
    obtain ⟨h_3, wh_3, e⟩ := e
    have kh_3 : DyK n g h_3 := by rw [wh_3]; exact dk_wI kh_2
    replace e := nm_s e
    obtain ⟨h_4, wh_4, e⟩ := e
    have kh_4 : DyK n g h_4 := by rw [wh_4]; exact dk_wI kh_3
    exact dk_X4_forget_23 kh_4 e
  · exact dk_X4_forget_23 k e
theorem dk_X11_drop {n : Nat} {g : Hp} {o : Int32 × Hp} {x0 : Nat} {x1 : Int32} {h : Hp} (k : DyK n g h) (e : sX11_drop h x0 x1 = some o) : DyK n g o.2 := by
  unfold sX11_drop at e
  replace e := cl_s e
  obtain ⟨o_1, eo_1, e⟩ := e
  have ko_1 : DyK n g o_1.2 := dk_X11_isPlace k eo_1
  replace e := br_s e
  rcases e with ⟨_, e⟩ | ⟨_, e⟩
  · rw [← Option.some.inj e]; exact ko_1
  · replace e := cl_s e
    obtain ⟨r_3, _, e⟩ := e
    replace e := (gd_s e).2
    replace e := nm_s e
    obtain ⟨h_5, wh_5, e⟩ := e
    have kh_5 : DyK n g h_5 := by rw [wh_5]; exact dk_wI ko_1
    replace e := cl_s e
    obtain ⟨r_6, _, e⟩ := e
    replace e := cl_s e
    obtain ⟨o_7, eo_7, e⟩ := e
    have ko_7 : DyK n g o_7 := dk_X4_forget kh_5 eo_7
    rw [← Option.some.inj e]; exact ko_7
theorem dk_X7_writeEmpty_12 {n : Nat} {g : Hp} {o : Hp} {h : Hp} (k : DyK n g h) (e : sX7_writeEmpty_12 h = some o) : DyK n g o := by
  unfold sX7_writeEmpty_12 at e
  rw [← Option.some.inj e]; exact k
theorem dk_X7_writeEmpty {n : Nat} {g : Hp} {o : Hp} {x0 : Int32} {x1 : Nat} {h : Hp} (k : DyK n g h) (e : sX7_writeEmpty h x0 x1 = some o) : DyK n g o := by
  unfold sX7_writeEmpty at e
  replace e := br_s e
  rcases e with ⟨_, e⟩ | ⟨_, e⟩
  · exact dk_X7_writeEmpty_12 k e
  · replace e := cl_s e
    obtain ⟨o_2, eo_2, e⟩ := e
    have ko_2 : DyK n g o_2 := dk_X9_append k eo_2
    exact dk_X7_writeEmpty_12 ko_2 e
theorem dk_X7_writeRanks_153 {n : Nat} {g : Hp} {F : Nat} {o : Hp} {x0 : Nat} {x1 : Nat} {x2 : Int64} {x4 : Nat} {x5 : Int32} {k_11 : Hp → Nat → Nat → Int64 → Nat → Int32 → Option (Hp)} (R_11 : ∀ {h : Hp} {y1 : Nat} {y2 : Nat} {y3 : Int64} {y4 : Nat} {y5 : Int32}, DyK n g h → k_11 h y1 y2 y3 y4 y5 = some o → DyK n g o) {h : Hp} (k : DyK n g h) (e : sX7_writeRanks_153 F k_11 h x0 x1 x2 x4 x5 = some o) : DyK n g o := by
  unfold sX7_writeRanks_153 at e
  replace e := nm_s e
  obtain ⟨v_1, wv_1, e⟩ := e
  exact R_11 k e
theorem dk_X7_writeRanks_128 {n : Nat} {g : Hp} {F : Nat} {o : Hp} {x0 : Nat} {x1 : Nat} {x2 : Int64} {x4 : Nat} {x5 : Int32} {x6 : Int32} {x7 : Int32} {k_11 : Hp → Nat → Nat → Int64 → Nat → Int32 → Option (Hp)} (R_11 : ∀ {h : Hp} {y1 : Nat} {y2 : Nat} {y3 : Int64} {y4 : Nat} {y5 : Int32}, DyK n g h → k_11 h y1 y2 y3 y4 y5 = some o → DyK n g o) {k_22 : Hp → Nat → Nat → Int64 → Nat → Int32 → Int32 → Int32 → Option (Hp)} (R_22 : ∀ {h : Hp} {y1 : Nat} {y2 : Nat} {y3 : Int64} {y4 : Nat} {y5 : Int32} {y6 : Int32} {y7 : Int32}, DyK n g h → k_22 h y1 y2 y3 y4 y5 y6 y7 = some o → DyK n g o) {h : Hp} (k : DyK n g h) (e : sX7_writeRanks_128 F k_11 k_22 h x0 x1 x2 x4 x5 x6 x7 = some o) : DyK n g o := by
  unfold sX7_writeRanks_128 at e
  replace e := nm_s e
  obtain ⟨v_1, wv_1, e⟩ := e
  exact R_22 k e
theorem dk_X1_letterOf_16 {n : Nat} {g : Hp} {o : Int32 × Hp} {h : Hp} (k : DyK n g h) (e : sX1_letterOf_16 h = some o) : DyK n g o.2 := by
  unfold sX1_letterOf_16 at e
  rw [← Option.some.inj e]; exact k
theorem dk_X1_letterOf_43 {n : Nat} {g : Hp} {o : Int32 × Hp} {t0 : Int32} {h : Hp} (k : DyK n g h) (e : sX1_letterOf_43 h t0 = some o) : DyK n g o.2 := by
  unfold sX1_letterOf_43 at e
  rw [← Option.some.inj e]; exact k
theorem dk_X1_letterOf {n : Nat} {g : Hp} {o : Int32 × Hp} {x0 : Nat} {x1 : Int32} {h : Hp} (k : DyK n g h) (e : sX1_letterOf h x0 x1 = some o) : DyK n g o.2 := by
  unfold sX1_letterOf at e
  replace e := nm_s e
  obtain ⟨v_1, wv_1, e⟩ := e
  replace e := br_s e
  rcases e with ⟨_, e⟩ | ⟨_, e⟩
  · exact dk_X1_letterOf_16 k e
  · replace e := br_s e
    rcases e with ⟨_, e⟩ | ⟨_, e⟩
    · replace e := br_s e
      rcases e with ⟨_, e⟩ | ⟨_, e⟩
      · replace e := cl_s e
        obtain ⟨r_7, _, e⟩ := e
        replace e := (gd_s e).2
        exact dk_X1_letterOf_43 k e
      · replace e := cl_s e
        obtain ⟨r_5, _, e⟩ := e
        replace e := (gd_s e).2
        exact dk_X1_letterOf_43 k e
    · exact dk_X1_letterOf_16 k e
theorem dk_X7_writeRanks_125 {n : Nat} {g : Hp} {F : Nat} {o : Hp} {x0 : Nat} {x1 : Nat} {x2 : Int64} {x4 : Nat} {x5 : Int32} {x6 : Int32} {x7 : Int32} {t0 : Int32} {t1 : Nat} {k_11 : Hp → Nat → Nat → Int64 → Nat → Int32 → Option (Hp)} (R_11 : ∀ {h : Hp} {y1 : Nat} {y2 : Nat} {y3 : Int64} {y4 : Nat} {y5 : Int32}, DyK n g h → k_11 h y1 y2 y3 y4 y5 = some o → DyK n g o) {k_22 : Hp → Nat → Nat → Int64 → Nat → Int32 → Int32 → Int32 → Option (Hp)} (R_22 : ∀ {h : Hp} {y1 : Nat} {y2 : Nat} {y3 : Int64} {y4 : Nat} {y5 : Int32} {y6 : Int32} {y7 : Int32}, DyK n g h → k_22 h y1 y2 y3 y4 y5 y6 y7 = some o → DyK n g o) {h : Hp} (k : DyK n g h) (e : sX7_writeRanks_125 F k_11 k_22 h x0 x1 x2 x4 x5 x6 x7 t0 t1 = some o) : DyK n g o := by
  unfold sX7_writeRanks_125 at e
  replace e := cl_s e
  obtain ⟨o_1, eo_1, e⟩ := e
  have ko_1 : DyK n g o_1 := dk_X9_append k eo_1
  exact dk_X7_writeRanks_128 R_11 R_22 ko_1 e
theorem dk_X7_writeRanks_89 {n : Nat} {g : Hp} {F : Nat} {o : Hp} {x0 : Nat} {x1 : Nat} {x2 : Int64} {x4 : Nat} {x5 : Int32} {x6 : Int32} {x7 : Int32} {x8 : Int32} {x9 : Int32} {k_11 : Hp → Nat → Nat → Int64 → Nat → Int32 → Option (Hp)} (R_11 : ∀ {h : Hp} {y1 : Nat} {y2 : Nat} {y3 : Int64} {y4 : Nat} {y5 : Int32}, DyK n g h → k_11 h y1 y2 y3 y4 y5 = some o → DyK n g o) {k_22 : Hp → Nat → Nat → Int64 → Nat → Int32 → Int32 → Int32 → Option (Hp)} (R_22 : ∀ {h : Hp} {y1 : Nat} {y2 : Nat} {y3 : Int64} {y4 : Nat} {y5 : Int32} {y6 : Int32} {y7 : Int32}, DyK n g h → k_22 h y1 y2 y3 y4 y5 y6 y7 = some o → DyK n g o) {h : Hp} (k : DyK n g h) (e : sX7_writeRanks_89 F k_11 k_22 h x0 x1 x2 x4 x5 x6 x7 x8 x9 = some o) : DyK n g o := by
  unfold sX7_writeRanks_89 at e
  replace e := cl_s e
  obtain ⟨o_1, eo_1, e⟩ := e
  have ko_1 : DyK n g o_1 := dk_X7_writeEmpty k eo_1
  replace e := br_s e
  rcases e with ⟨_, e⟩ | ⟨_, e⟩
  · replace e := cl_s e
    obtain ⟨r_3, _, e⟩ := e
    replace e := cl_s e
    obtain ⟨r_4, _, e⟩ := e
    replace e := (gd_s e).2
    replace e := cl_s e
    obtain ⟨o_6, eo_6, e⟩ := e
    have ko_6 : DyK n g o_6.2 := dk_X1_letterOf ko_1 eo_6
    exact dk_X7_writeRanks_125 R_11 R_22 ko_6 e
  · exact dk_X7_writeRanks_125 R_11 R_22 ko_1 e
theorem dk_X7_writeRanks_65 {n : Nat} {g : Hp} {F : Nat} {o : Hp} {x0 : Nat} {x1 : Nat} {x2 : Int64} {x4 : Nat} {x5 : Int32} {x6 : Int32} {x7 : Int32} {x8 : Int32} {t0 : Int32} {k_11 : Hp → Nat → Nat → Int64 → Nat → Int32 → Option (Hp)} (R_11 : ∀ {h : Hp} {y1 : Nat} {y2 : Nat} {y3 : Int64} {y4 : Nat} {y5 : Int32}, DyK n g h → k_11 h y1 y2 y3 y4 y5 = some o → DyK n g o) {k_22 : Hp → Nat → Nat → Int64 → Nat → Int32 → Int32 → Int32 → Option (Hp)} (R_22 : ∀ {h : Hp} {y1 : Nat} {y2 : Nat} {y3 : Int64} {y4 : Nat} {y5 : Int32} {y6 : Int32} {y7 : Int32}, DyK n g h → k_22 h y1 y2 y3 y4 y5 y6 y7 = some o → DyK n g o) {h : Hp} (k : DyK n g h) (e : sX7_writeRanks_65 F k_11 k_22 h x0 x1 x2 x4 x5 x6 x7 x8 t0 = some o) : DyK n g o := by
  unfold sX7_writeRanks_65 at e
  replace e := br_s e
  rcases e with ⟨_, e⟩ | ⟨_, e⟩
  · replace e := cl_s e
    obtain ⟨r_2, _, e⟩ := e
    replace e := (gd_s e).2
    replace e := br_s e
    rcases e with ⟨_, e⟩ | ⟨_, e⟩
    · replace e := nm_s e
      obtain ⟨v_5, wv_5, e⟩ := e
      exact dk_X7_writeRanks_128 R_11 R_22 k e
    · exact dk_X7_writeRanks_89 R_11 R_22 k e
  · exact dk_X7_writeRanks_89 R_11 R_22 k e
theorem dk_X7_writeRanks_22 {n : Nat} {g : Hp} {F : Nat} {o : Hp} {k_11 : Hp → Nat → Nat → Int64 → Nat → Int32 → Option (Hp)} (R_11 : ∀ {h : Hp} {y1 : Nat} {y2 : Nat} {y3 : Int64} {y4 : Nat} {y5 : Int32}, DyK n g h → k_11 h y1 y2 y3 y4 y5 = some o → DyK n g o) : ∀ (f : Nat) {h : Hp} {x0 : Nat} {x1 : Nat} {x2 : Int64} {x4 : Nat} {x5 : Int32} {x6 : Int32} {x7 : Int32}, DyK n g h → sX7_writeRanks_22 F k_11 f h x0 x1 x2 x4 x5 x6 x7 = some o → DyK n g o := by
  intro f
  induction f with
  | zero => intro h x0 x1 x2 x4 x5 x6 x7 _ e; exact absurd e (by rw [sX7_writeRanks_22]; exact fun z => nomatch z)
  | succ f ih =>
    intro h x0 x1 x2 x4 x5 x6 x7 k e
    rw [sX7_writeRanks_22] at e
    replace e := cl_s e
    obtain ⟨r_1, _, e⟩ := e
    replace e := br_s e
    rcases e with ⟨_, e⟩ | ⟨_, e⟩
    · replace e := cl_s e
      obtain ⟨o_3, eo_3, e⟩ := e
      have ko_3 : DyK n g o_3 := dk_X7_writeEmpty k eo_3
      replace e := br_s e
      rcases e with ⟨_, e⟩ | ⟨_, e⟩
      · exact dk_X7_writeRanks_153 R_11 ko_3 e
      · replace e := cl_s e
        obtain ⟨o_5, eo_5, e⟩ := e
        have ko_5 : DyK n g o_5 := dk_X9_append ko_3 eo_5
        exact dk_X7_writeRanks_153 R_11 ko_5 e
    · replace e := cl_s e
      obtain ⟨r_6, _, e⟩ := e
      replace e := nm_s e
      obtain ⟨v_7, wv_7, e⟩ := e
      replace e := br_s e
      rcases e with ⟨_, e⟩ | ⟨_, e⟩
      · exact dk_X7_writeRanks_65 R_11 (fun k e => ih k e) k e
      · exact dk_X7_writeRanks_65 R_11 (fun k e => ih k e) k e
theorem dk_X7_writeRanks_11 {n : Nat} {g : Hp} {F : Nat} {o : Hp} : ∀ (f : Nat) {h : Hp} {x0 : Nat} {x1 : Nat} {x2 : Int64} {x4 : Nat} {x5 : Int32}, DyK n g h → sX7_writeRanks_11 F f h x0 x1 x2 x4 x5 = some o → DyK n g o := by
  intro f
  induction f with
  | zero => intro h x0 x1 x2 x4 x5 _ e; exact absurd e (by rw [sX7_writeRanks_11]; exact fun z => nomatch z)
  | succ f ih =>
    intro h x0 x1 x2 x4 x5 k e
    rw [sX7_writeRanks_11] at e
    replace e := br_s e
    rcases e with ⟨_, e⟩ | ⟨_, e⟩
    · rw [← Option.some.inj e]; exact k
    · exact dk_X7_writeRanks_22 (fun k e => ih k e) F k e
theorem dk_X7_writeRanks {n : Nat} {g : Hp} {F : Nat} {o : Hp} {x0 : Nat} {x1 : Nat} {x2 : Int64} {x4 : Nat} {h : Hp} (k : DyK n g h) (e : sX7_writeRanks F h x0 x1 x2 x4 = some o) : DyK n g o := by
  unfold sX7_writeRanks at e
  replace e := cl_s e
  obtain ⟨r_1, _, e⟩ := e
  replace e := nm_s e
  obtain ⟨v_2, wv_2, e⟩ := e
  exact dk_X7_writeRanks_11 F k e
theorem dk_X7_writeRights_56 {n : Nat} {g : Hp} {F : Nat} {o : Hp} {h : Hp} (k : DyK n g h) (e : sX7_writeRights_56 F h = some o) : DyK n g o := by
  unfold sX7_writeRights_56 at e
  rw [← Option.some.inj e]; exact k
theorem dk_X7_writeRights_35 {n : Nat} {g : Hp} {F : Nat} {o : Hp} {x0 : Nat} {x1 : Nat} {x2 : Nat} {x3 : Int32} {k_2 : Hp → Nat → Nat → Nat → Int32 → Option (Hp)} (R_2 : ∀ {h : Hp} {y1 : Nat} {y2 : Nat} {y3 : Nat} {y4 : Int32}, DyK n g h → k_2 h y1 y2 y3 y4 = some o → DyK n g o) {h : Hp} (k : DyK n g h) (e : sX7_writeRights_35 F k_2 h x0 x1 x2 x3 = some o) : DyK n g o := by
  unfold sX7_writeRights_35 at e
  replace e := nm_s e
  obtain ⟨v_1, wv_1, e⟩ := e
  exact R_2 k e
theorem dk_X7_writeSquare {n : Nat} {g : Hp} {o : Hp} {x0 : Nat} {x1 : Int32} {x2 : Nat} {h : Hp} (k : DyK n g h) (e : sX7_writeSquare h x0 x1 x2 = some o) : DyK n g o := by
  unfold sX7_writeSquare at e
  replace e := cl_s e
  obtain ⟨r_1, _, e⟩ := e
  replace e := (gd_s e).2
  replace e := cl_s e
  obtain ⟨o_3, eo_3, e⟩ := e
  have ko_3 : DyK n g o_3 := dk_X9_append k eo_3
  replace e := cl_s e
  obtain ⟨r_4, _, e⟩ := e
  replace e := (gd_s e).2
  replace e := cl_s e
  obtain ⟨o_6, eo_6, e⟩ := e
  have ko_6 : DyK n g o_6 := dk_X9_append ko_3 eo_6
  rw [← Option.some.inj e]; exact ko_6
theorem dk_X7_writeRights_2 {n : Nat} {g : Hp} {F : Nat} {o : Hp} : ∀ (f : Nat) {h : Hp} {x0 : Nat} {x1 : Nat} {x2 : Nat} {x3 : Int32}, DyK n g h → sX7_writeRights_2 F f h x0 x1 x2 x3 = some o → DyK n g o := by
  intro f
  induction f with
  | zero => intro h x0 x1 x2 x3 _ e; exact absurd e (by rw [sX7_writeRights_2]; exact fun z => nomatch z)
  | succ f ih =>
    intro h x0 x1 x2 x3 k e
    rw [sX7_writeRights_2] at e
    replace e := cl_s e
    obtain ⟨r_1, _, e⟩ := e
    replace e := br_s e
    rcases e with ⟨_, e⟩ | ⟨_, e⟩
    · replace e := br_s e
      rcases e with ⟨_, e⟩ | ⟨_, e⟩
      · replace e := cl_s e
        obtain ⟨o_4, eo_4, e⟩ := e
        have ko_4 : DyK n g o_4 := dk_X9_append k eo_4
        exact dk_X7_writeRights_56 ko_4 e
      · exact dk_X7_writeRights_56 k e
    · replace e := br_s e
      rcases e with ⟨_, e⟩ | ⟨_, e⟩
      · exact dk_X7_writeRights_35 (fun k e => ih k e) k e
      · replace e := cl_s e
        obtain ⟨r_6, _, e⟩ := e
        replace e := cl_s e
        obtain ⟨o_7, eo_7, e⟩ := e
        have ko_7 : DyK n g o_7 := dk_X7_writeSquare k eo_7
        exact dk_X7_writeRights_35 (fun k e => ih k e) ko_7 e
theorem dk_X7_writeRights {n : Nat} {g : Hp} {F : Nat} {o : Hp} {x0 : Nat} {x1 : Nat} {x2 : Nat} {h : Hp} (k : DyK n g h) (e : sX7_writeRights F h x0 x1 x2 = some o) : DyK n g o := by
  unfold sX7_writeRights at e
  exact dk_X7_writeRights_2 F k e
theorem dk_X7_writePass_44 {n : Nat} {g : Hp} {F : Nat} {o : Hp} {h : Hp} (k : DyK n g h) (e : sX7_writePass_44 F h = some o) : DyK n g o := by
  unfold sX7_writePass_44 at e
  rw [← Option.some.inj e]; exact k
theorem dk_X7_writePass_2 {n : Nat} {g : Hp} {F : Nat} {o : Hp} : ∀ (f : Nat) {h : Hp} {x0 : Nat} {x1 : Nat} {x2 : Nat} {x3 : Int32}, DyK n g h → sX7_writePass_2 F f h x0 x1 x2 x3 = some o → DyK n g o := by
  intro f
  induction f with
  | zero => intro h x0 x1 x2 x3 _ e; exact absurd e (by rw [sX7_writePass_2]; exact fun z => nomatch z)
  | succ f ih =>
    intro h x0 x1 x2 x3 k e
    rw [sX7_writePass_2] at e
    replace e := cl_s e
    obtain ⟨o_1, eo_1, e⟩ := e
    have ko_1 : DyK n g o_1.2 := dk_X3_passSize k eo_1
    replace e := br_s e
    rcases e with ⟨_, e⟩ | ⟨_, e⟩
    · replace e := br_s e
      rcases e with ⟨_, e⟩ | ⟨_, e⟩
      · replace e := cl_s e
        obtain ⟨o_4, eo_4, e⟩ := e
        have ko_4 : DyK n g o_4 := dk_X9_append ko_1 eo_4
        exact dk_X7_writePass_44 ko_4 e
      · exact dk_X7_writePass_44 ko_1 e
    · replace e := cl_s e
      obtain ⟨r_5, _, e⟩ := e
      replace e := cl_s e
      obtain ⟨o_6, eo_6, e⟩ := e
      have ko_6 : DyK n g o_6.2 := dk_X3_passSquare ko_1 eo_6
      replace e := cl_s e
      obtain ⟨o_7, eo_7, e⟩ := e
      have ko_7 : DyK n g o_7 := dk_X7_writeSquare ko_6 eo_7
      replace e := nm_s e
      obtain ⟨v_8, wv_8, e⟩ := e
      exact ih ko_7 e
theorem dk_X7_writePass {n : Nat} {g : Hp} {F : Nat} {o : Hp} {x0 : Nat} {x1 : Nat} {x2 : Nat} {h : Hp} (k : DyK n g h) (e : sX7_writePass F h x0 x1 x2 = some o) : DyK n g o := by
  unfold sX7_writePass at e
  exact dk_X7_writePass_2 F k e
theorem dk_X7_writeHands_100 {n : Nat} {g : Hp} {F : Nat} {o : Hp} {h : Hp} (k : DyK n g h) (e : sX7_writeHands_100 F h = some o) : DyK n g o := by
  unfold sX7_writeHands_100 at e
  rw [← Option.some.inj e]; exact k
theorem dk_X7_writeHands_25 {n : Nat} {g : Hp} {F : Nat} {o : Hp} {k_2 : Hp → Nat → Nat → Nat → Int32 → Option (Hp)} (R_2 : ∀ {h : Hp} {y1 : Nat} {y2 : Nat} {y3 : Nat} {y4 : Int32}, DyK n g h → k_2 h y1 y2 y3 y4 = some o → DyK n g o) {k_10 : Hp → Nat → Nat → Nat → Int32 → Int32 → Option (Hp)} (R_10 : ∀ {h : Hp} {y1 : Nat} {y2 : Nat} {y3 : Nat} {y4 : Int32} {y5 : Int32}, DyK n g h → k_10 h y1 y2 y3 y4 y5 = some o → DyK n g o) : ∀ (f : Nat) {h : Hp} {x0 : Nat} {x1 : Nat} {x2 : Nat} {x3 : Int32} {x4 : Int32} {x5 : Int32}, DyK n g h → sX7_writeHands_25 F k_2 k_10 f h x0 x1 x2 x3 x4 x5 = some o → DyK n g o := by
  intro f
  induction f with
  | zero => intro h x0 x1 x2 x3 x4 x5 _ e; exact absurd e (by rw [sX7_writeHands_25]; exact fun z => nomatch z)
  | succ f ih =>
    intro h x0 x1 x2 x3 x4 x5 k e
    rw [sX7_writeHands_25] at e
    replace e := cl_s e
    obtain ⟨o_1, eo_1, e⟩ := e
    have ko_1 : DyK n g o_1.2 := dk_X3_inHand k eo_1
    replace e := br_s e
    rcases e with ⟨_, e⟩ | ⟨_, e⟩
    · replace e := nm_s e
      obtain ⟨v_3, wv_3, e⟩ := e
      exact R_10 ko_1 e
    · replace e := cl_s e
      obtain ⟨r_4, _, e⟩ := e
      replace e := cl_s e
      obtain ⟨o_5, eo_5, e⟩ := e
      have ko_5 : DyK n g o_5.2 := dk_X1_letterOf ko_1 eo_5
      replace e := cl_s e
      obtain ⟨o_6, eo_6, e⟩ := e
      have ko_6 : DyK n g o_6 := dk_X9_append ko_5 eo_6
      replace e := nm_s e
      obtain ⟨v_7, wv_7, e⟩ := e
      exact ih ko_6 e
theorem dk_X7_writeHands_10 {n : Nat} {g : Hp} {F : Nat} {o : Hp} {k_2 : Hp → Nat → Nat → Nat → Int32 → Option (Hp)} (R_2 : ∀ {h : Hp} {y1 : Nat} {y2 : Nat} {y3 : Nat} {y4 : Int32}, DyK n g h → k_2 h y1 y2 y3 y4 = some o → DyK n g o) : ∀ (f : Nat) {h : Hp} {x0 : Nat} {x1 : Nat} {x2 : Nat} {x3 : Int32} {x4 : Int32}, DyK n g h → sX7_writeHands_10 F k_2 f h x0 x1 x2 x3 x4 = some o → DyK n g o := by
  intro f
  induction f with
  | zero => intro h x0 x1 x2 x3 x4 _ e; exact absurd e (by rw [sX7_writeHands_10]; exact fun z => nomatch z)
  | succ f ih =>
    intro h x0 x1 x2 x3 x4 k e
    rw [sX7_writeHands_10] at e
    replace e := cl_s e
    obtain ⟨r_1, _, e⟩ := e
    replace e := br_s e
    rcases e with ⟨_, e⟩ | ⟨_, e⟩
    · replace e := nm_s e
      obtain ⟨v_3, wv_3, e⟩ := e
      exact R_2 k e
    · exact dk_X7_writeHands_25 R_2 (fun k e => ih k e) F k e
theorem dk_X7_writeHands_2 {n : Nat} {g : Hp} {F : Nat} {o : Hp} : ∀ (f : Nat) {h : Hp} {x0 : Nat} {x1 : Nat} {x2 : Nat} {x3 : Int32}, DyK n g h → sX7_writeHands_2 F f h x0 x1 x2 x3 = some o → DyK n g o := by
  intro f
  induction f with
  | zero => intro h x0 x1 x2 x3 _ e; exact absurd e (by rw [sX7_writeHands_2]; exact fun z => nomatch z)
  | succ f ih =>
    intro h x0 x1 x2 x3 k e
    rw [sX7_writeHands_2] at e
    replace e := br_s e
    rcases e with ⟨_, e⟩ | ⟨_, e⟩
    · replace e := cl_s e
      obtain ⟨r_2, _, e⟩ := e
      replace e := (gd_s e).2
      replace e := br_s e
      rcases e with ⟨_, e⟩ | ⟨_, e⟩
      · replace e := cl_s e
        obtain ⟨r_5, _, e⟩ := e
        replace e := (gd_s e).2
        replace e := br_s e
        rcases e with ⟨_, e⟩ | ⟨_, e⟩
        · replace e := cl_s e
          obtain ⟨o_8, eo_8, e⟩ := e
          have ko_8 : DyK n g o_8 := dk_X9_append k eo_8
          exact dk_X7_writeHands_100 ko_8 e
        · exact dk_X7_writeHands_100 k e
      · exact dk_X7_writeHands_100 k e
    · exact dk_X7_writeHands_10 (fun k e => ih k e) F k e
theorem dk_X7_writeHands {n : Nat} {g : Hp} {F : Nat} {o : Hp} {x0 : Nat} {x1 : Nat} {x2 : Nat} {h : Hp} (k : DyK n g h) (e : sX7_writeHands F h x0 x1 x2 = some o) : DyK n g o := by
  unfold sX7_writeHands at e
  exact dk_X7_writeHands_2 F k e
theorem dk_X7_writeClock_49 {n : Nat} {g : Hp} {o : Hp} {x0 : Nat} {x1 : Nat} {h : Hp} (k : DyK n g h) (e : sX7_writeClock_49 h x0 x1 = some o) : DyK n g o := by
  unfold sX7_writeClock_49 at e
  replace e := cl_s e
  obtain ⟨o_1, eo_1, e⟩ := e
  have ko_1 : DyK n g o_1 := dk_X9_append k eo_1
  rw [← Option.some.inj e]; exact ko_1
theorem dk_X7_writeClock_23 {n : Nat} {g : Hp} {o : Hp} {x0 : Nat} {x1 : Nat} {h : Hp} (k : DyK n g h) (e : sX7_writeClock_23 h x0 x1 = some o) : DyK n g o := by
  unfold sX7_writeClock_23 at e
  replace e := br_s e
  rcases e with ⟨_, e⟩ | ⟨_, e⟩
  · exact dk_X7_writeClock_49 k e
  · replace e := cl_s e
    obtain ⟨o_2, eo_2, e⟩ := e
    have ko_2 : DyK n g o_2 := dk_X9_append k eo_2
    exact dk_X7_writeClock_49 ko_2 e
theorem dk_X7_writeClock {n : Nat} {g : Hp} {o : Hp} {x0 : Nat} {x1 : Nat} {h : Hp} (k : DyK n g h) (e : sX7_writeClock h x0 x1 = some o) : DyK n g o := by
  unfold sX7_writeClock at e
  replace e := br_s e
  rcases e with ⟨_, e⟩ | ⟨_, e⟩
  · exact dk_X7_writeClock_23 k e
  · replace e := cl_s e
    obtain ⟨o_2, eo_2, e⟩ := e
    have ko_2 : DyK n g o_2 := dk_X9_append k eo_2
    exact dk_X7_writeClock_23 ko_2 e
theorem dk_X7_writeAll_30 {n : Nat} {g : Hp} {F : Nat} {o : Hp} {x0 : Nat} {x1 : Nat} {x2 : Nat} {t0 : Int32} {t1 : Nat} {h : Hp} (k : DyK n g h) (e : sX7_writeAll_30 F h x0 x1 x2 t0 t1 = some o) : DyK n g o := by
  unfold sX7_writeAll_30 at e
  replace e := cl_s e
  obtain ⟨o_1, eo_1, e⟩ := e
  have ko_1 : DyK n g o_1 := dk_X9_append k eo_1
  replace e := cl_s e
  obtain ⟨o_2, eo_2, e⟩ := e
  have ko_2 : DyK n g o_2 := dk_X9_append ko_1 eo_2
  replace e := cl_s e
  obtain ⟨o_3, eo_3, e⟩ := e
  have ko_3 : DyK n g o_3 := dk_X7_writeRights ko_2 eo_3
  replace e := cl_s e
  obtain ⟨o_4, eo_4, e⟩ := e
  have ko_4 : DyK n g o_4 := dk_X9_append ko_3 eo_4
  replace e := cl_s e
  obtain ⟨o_5, eo_5, e⟩ := e
  have ko_5 : DyK n g o_5 := dk_X7_writePass ko_4 eo_5
  replace e := cl_s e
  obtain ⟨o_6, eo_6, e⟩ := e
  have ko_6 : DyK n g o_6 := dk_X9_append ko_5 eo_6
  replace e := cl_s e
  obtain ⟨o_7, eo_7, e⟩ := e
  have ko_7 : DyK n g o_7 := dk_X7_writeHands ko_6 eo_7
  replace e := cl_s e
  obtain ⟨o_8, eo_8, e⟩ := e
  have ko_8 : DyK n g o_8 := dk_X9_append ko_7 eo_8
  replace e := cl_s e
  obtain ⟨r_9, _, e⟩ := e
  replace e := (gd_s e).2
  replace e := cl_s e
  obtain ⟨o_11, eo_11, e⟩ := e
  have ko_11 : DyK n g o_11 := dk_X9_append ko_8 eo_11
  replace e := cl_s e
  obtain ⟨r_12, _, e⟩ := e
  replace e := (gd_s e).2
  replace e := cl_s e
  obtain ⟨o_14, eo_14, e⟩ := e
  have ko_14 : DyK n g o_14 := dk_X9_append ko_11 eo_14
  replace e := cl_s e
  obtain ⟨o_15, eo_15, e⟩ := e
  have ko_15 : DyK n g o_15 := dk_X9_append ko_14 eo_15
  replace e := cl_s e
  obtain ⟨o_16, eo_16, e⟩ := e
  have ko_16 : DyK n g o_16 := dk_X7_writeClock ko_15 eo_16
  rw [← Option.some.inj e]; exact ko_16
theorem dk_X7_writeAll {n : Nat} {g : Hp} {F : Nat} {o : Hp} {x0 : Nat} {x1 : Nat} {x2 : Nat} {h : Hp} (k : DyK n g h) (e : sX7_writeAll F h x0 x1 x2 = some o) : DyK n g o := by
  unfold sX7_writeAll at e
  replace e := cl_s e
  obtain ⟨o_1, eo_1, e⟩ := e
  have ko_1 : DyK n g o_1 := dk_X7_writeRanks k eo_1
  replace e := cl_s e
  obtain ⟨o_2, eo_2, e⟩ := e
  have ko_2 : DyK n g o_2 := dk_X9_append ko_1 eo_2
  replace e := br_s e
  rcases e with ⟨_, e⟩ | ⟨_, e⟩
  · exact dk_X7_writeAll_30 ko_2 e
  · exact dk_X7_writeAll_30 ko_2 e
theorem dk_X11_write {n : Nat} {g : Hp} {F : Nat} {o : Int32 × Hp} {x0 : Nat} {x1 : Int32} {h : Hp} (k : DyK n g h) (e : sX11_write F h x0 x1 = some o) : DyK n g o.2 := by
  unfold sX11_write at e
  replace e := cl_s e
  obtain ⟨o_1, eo_1, e⟩ := e
  have ko_1 : DyK n g o_1.2 := dk_X11_isPlace k eo_1
  replace e := br_s e
  rcases e with ⟨_, e⟩ | ⟨_, e⟩
  · rw [← Option.some.inj e]; exact ko_1
  · replace e := cl_s e
    obtain ⟨r_3, _, e⟩ := e
    replace e := cl_s e
    obtain ⟨o_4, eo_4, e⟩ := e
    have ko_4 : DyK n g o_4 := dk_X9_clear ko_1 eo_4
    replace e := cl_s e
    obtain ⟨r_5, _, e⟩ := e
    replace e := cl_s e
    obtain ⟨r_6, _, e⟩ := e
    replace e := (gd_s e).2
    replace e := cl_s e
    obtain ⟨r_8, _, e⟩ := e
    replace e := cl_s e
    obtain ⟨r_9, _, e⟩ := e
    replace e := cl_s e
    obtain ⟨o_10, eo_10, e⟩ := e
    have ko_10 : DyK n g o_10 := dk_X7_writeAll ko_4 eo_10
    replace e := cl_s e
    obtain ⟨r_11, _, e⟩ := e
    rw [← Option.some.inj e]; exact ko_10
theorem dk_X11_same_43 {n : Nat} {g : Hp} {F : Nat} {o : Int32 × Hp} {t0 : Int32} {h : Hp} (k : DyK n g h) (e : sX11_same_43 F h t0 = some o) : DyK n g o.2 := by
  unfold sX11_same_43 at e
  replace e := (gd_s e).2
  rw [← Option.some.inj e]; exact k
theorem dk_X11_same_42 {n : Nat} {g : Hp} {F : Nat} {o : Int32 × Hp} {h : Hp} (k : DyK n g h) (e : sX11_same_42 F h = some o) : DyK n g o.2 := by
  unfold sX11_same_42 at e
  exact dk_X11_same_43 k e
theorem dk_X5_areAlike_156 {n : Nat} {g : Hp} {F : Nat} {o : Int32 × Hp} {t0 : Int32} {h : Hp} (k : DyK n g h) (e : sX5_areAlike_156 F h t0 = some o) : DyK n g o.2 := by
  unfold sX5_areAlike_156 at e
  replace e := (gd_s e).2
  rw [← Option.some.inj e]; exact k
theorem dk_X5_areAlike_151 {n : Nat} {g : Hp} {F : Nat} {o : Int32 × Hp} {h : Hp} (k : DyK n g h) (e : sX5_areAlike_151 F h = some o) : DyK n g o.2 := by
  unfold sX5_areAlike_151 at e
  exact dk_X5_areAlike_156 k e
theorem dk_X5_kindOf {n : Nat} {g : Hp} {o : Int32 × Hp} {x0 : Int32} {h : Hp} (k : DyK n g h) (e : sX5_kindOf h x0 = some o) : DyK n g o.2 := by
  unfold sX5_kindOf at e
  rw [← Option.some.inj e]; exact k
theorem dk_X5_mayCatch_28 {n : Nat} {g : Hp} {F : Nat} {o : Int32 × Hp} : ∀ (f : Nat) {h : Hp} {x2 : Int32} {x3 : Int32}, DyK n g h → sX5_mayCatch_28 F f h (n + 30) x2 x3 = some o → DyK n g o.2 := by
  intro f
  induction f with
  | zero => intro h x2 x3 _ e; exact absurd e (by rw [sX5_mayCatch_28]; exact fun z => nomatch z)
  | succ f ih =>
    intro h x2 x3 k e
    rw [sX5_mayCatch_28] at e
    replace e := br_s e
    rcases e with ⟨_, e⟩ | ⟨_, e⟩
    · rw [← Option.some.inj e]; exact k
    · replace e := cl_s e
      obtain ⟨r_2, _, e⟩ := e
      replace e := (gd_s e).2
      replace e := cl_s e
      obtain ⟨o_4, eo_4, e⟩ := e
      have ko_4 : DyK n g o_4.2 := dk_X5_kindOf k eo_4
      replace e := br_s e
      rcases e with ⟨_, e⟩ | ⟨_, e⟩
      · rw [← Option.some.inj e]; exact ko_4
      · replace e := nm_s e
        obtain ⟨v_6, wv_6, e⟩ := e
        exact ih ko_4 e
theorem dk_X5_mayCatch_25 {n : Nat} {g : Hp} {F : Nat} {o : Int32 × Hp} {t0 : Int32} {h : Hp} (k : DyK n g h) (e : sX5_mayCatch_25 F h (n + 30) t0 = some o) : DyK n g o.2 := by
  unfold sX5_mayCatch_25 at e
  exact dk_X5_mayCatch_28 F k e
theorem dk_X5_begin_102 {n : Nat} {g : Hp} {F : Nat} {o : Hp} {h : Hp} (k : DyK n g h) (e : sX5_begin_102 F h = some o) : DyK n g o := by
  unfold sX5_begin_102 at e
  rw [← Option.some.inj e]; exact k
theorem dk_X5_survey_230 {n : Nat} {g : Hp} {F : Nat} {o : Hp} {h : Hp} (k : DyK n g h) (e : sX5_survey_230 F h = some o) : DyK n g o := by
  unfold sX5_survey_230 at e
  rw [← Option.some.inj e]; exact k
theorem dk_X5_survey_224 {n : Nat} {g : Hp} {F : Nat} {o : Hp} {x0 : Nat} {x1 : Int32} {x2 : Int64} {x4 : Int64} {x6 : Int32} {k_30 : Hp → Nat → Int32 → Int64 → Int64 → Int32 → Option (Hp)} (R_30 : ∀ {h : Hp} {y1 : Nat} {y2 : Int32} {y3 : Int64} {y4 : Int64} {y5 : Int32}, DyK n g h → k_30 h y1 y2 y3 y4 y5 = some o → DyK n g o) {h : Hp} (k : DyK n g h) (e : sX5_survey_224 F k_30 h x0 x1 x2 x4 x6 = some o) : DyK n g o := by
  unfold sX5_survey_224 at e
  replace e := nm_s e
  obtain ⟨v_1, wv_1, e⟩ := e
  exact R_30 k e
