/-! what stands where stays so: printed -/
theorem dk_X15_keep_45 {n : Nat} {g : Hp} {F : Nat} {o : Int32 × Hp} {x2 : Int32} {h : Hp} (k : DyK n g h) (e : sX15_keep_45 F h (n + 513) x2 = some o) : DyK n g o.2 := by
  unfold sX15_keep_45 at e
  replace e := nm_s e
  obtain ⟨h_1, wh_1, e⟩ := e
  have kh_1 : DyK n g h_1 := by rw [wh_1]; exact dk_wI k
  replace e := cl_s e
  obtain ⟨r_2, _, e⟩ := e
  replace e := (gd_s e).2
  replace e := nm_s e
  obtain ⟨h_4, wh_4, e⟩ := e
  have kh_4 : DyK n g h_4 := by rw [wh_4]; exact dk_wI kh_1
  rw [← Option.some.inj e]; exact kh_4
theorem dk_X15_keep_35 {n : Nat} {g : Hp} {F : Nat} {o : Int32 × Hp} {x1 : Nat} {x2 : Int32} {h : Hp} (k : DyK n g h) (e : sX15_keep_35 F h (n + 513) x1 x2 = some o) : DyK n g o.2 := by
  unfold sX15_keep_35 at e
  replace e := cl_s e
  obtain ⟨r_1, _, e⟩ := e
  replace e := (gd_s e).2
  replace e := cl_s e
  obtain ⟨r_3, _, e⟩ := e
  replace e := cl_s e
  obtain ⟨o_4, eo_4, e⟩ := e
  have ko_4 : DyK n g o_4 := dk_X12_copy k eo_4
  exact dk_X15_keep_45 ko_4 e
theorem dk_X15_keep_4 {n : Nat} {g : Hp} {F : Nat} {o : Int32 × Hp} {x1 : Nat} {t0 : Int32} {h : Hp} (k : DyK n g h) (e : sX15_keep_4 F h (n + 513) x1 t0 = some o) : DyK n g o.2 := by
  by_cases c : t0 = (-1 : Int32)
  · unfold sX15_keep_4 at e
    rw [so_e (bp_e c e)]
    exact k
  · obtain ⟨_, _, o2, r, G, e⟩ := kp_g k.1 c e
    exact dk_X15_keep_35 (dk_got k (by decide) G) e
theorem dk_X15_keep {n : Nat} {g : Hp} {F : Nat} {o : Int32 × Hp} {x1 : Nat} {h : Hp} (k : DyK n g h) (e : sX15_keep F h (n + 513) x1 = some o) : DyK n g o.2 := by
  unfold sX15_keep at e
  replace e := cl_s e
  obtain ⟨o_1, eo_1, e⟩ := e
  have ko_1 : DyK n g o_1.2 := dk_X15_freePlace k eo_1
  exact dk_X15_keep_4 ko_1 e
theorem dk_X15_position_73 {n : Nat} {g : Hp} {F : Nat} {o : Int32 × Hp} {t0 : Int32} {h : Hp} (k : DyK n g h) (e : sX15_position_73 F h t0 = some o) : DyK n g o.2 := by
  unfold sX15_position_73 at e
  rw [← Option.some.inj e]; exact k
theorem dk_X15_position_54 {n : Nat} {g : Hp} {F : Nat} {o : Int32 × Hp} {t0 : Int32} {h : Hp} (k : DyK n g h) (e : sX15_position_54 F h (n + 513) t0 = some o) : DyK n g o.2 := by
  unfold sX15_position_54 at e
  replace e := br_s e
  rcases e with ⟨_, e⟩ | ⟨_, e⟩
  · replace e := cl_s e
    obtain ⟨r_2, _, e⟩ := e
    replace e := cl_s e
    obtain ⟨o_3, eo_3, e⟩ := e
    have ko_3 : DyK n g o_3.2 := dk_X15_keep k eo_3
    exact dk_X15_position_73 ko_3 e
  · exact dk_X15_position_73 k e
theorem dk_X15_position_34 {n : Nat} {g : Hp} {F : Nat} {o : Int32 × Hp} {t0 : Int32} {h : Hp} (k : DyK n g h) (e : sX15_position_34 F h (n + 513) t0 = some o) : DyK n g o.2 := by
  unfold sX15_position_34 at e
  replace e := br_s e
  rcases e with ⟨_, e⟩ | ⟨_, e⟩
  · rw [← Option.some.inj e]; exact k
  · replace e := cl_s e
    obtain ⟨r_2, _, e⟩ := e
    replace e := cl_s e
    obtain ⟨o_3, eo_3, e⟩ := e
    have ko_3 : DyK n g o_3.2 := dk_X15_wrongOf k eo_3
    exact dk_X15_position_54 ko_3 e
theorem dk_X15_position_14 {n : Nat} {g : Hp} {F : Nat} {o : Int32 × Hp} {x1 : Int32} {t0 : Int32} {h : Hp} (k : DyK n g h) (e : sX15_position_14 F h (n + 513) x1 t0 = some o) : DyK n g o.2 := by
  unfold sX15_position_14 at e
  replace e := br_s e
  rcases e with ⟨_, e⟩ | ⟨_, e⟩
  · rw [← Option.some.inj e]; exact k
  · replace e := cl_s e
    obtain ⟨r_2, _, e⟩ := e
    replace e := cl_s e
    obtain ⟨r_3, _, e⟩ := e
    replace e := cl_s e
    obtain ⟨o_4, eo_4, e⟩ := e
    have ko_4 : DyK n g o_4.2 := dk_X15_isPosition k eo_4
    exact dk_X15_position_34 ko_4 e
theorem dk_X15_position {n : Nat} {g : Hp} {F : Nat} {o : Int32 × Hp} {h : Hp} (k : DyK n g h) (e : sX15_position F h (n + 513) = some o) : DyK n g o.2 := by
  unfold sX15_position at e
  replace e := nm_s e
  obtain ⟨v_1, wv_1, e⟩ := e
  replace e := nm_s e
  obtain ⟨h_2, wh_2, e⟩ := e
  have kh_2 : DyK n g h_2 := by rw [wh_2]; exact dk_wI k
  replace e := cl_s e
  obtain ⟨o_3, eo_3, e⟩ := e
  have ko_3 : DyK n g o_3.2 := dk_X15_freePlace kh_2 eo_3
  exact dk_X15_position_14 ko_3 e
theorem dk_X15_has_24 {n : Nat} {g : Hp} {o : Int32 × Hp} {t0 : Int32} {h : Hp} (k : DyK n g h) (e : sX15_has_24 h t0 = some o) : DyK n g o.2 := by
  unfold sX15_has_24 at e
  replace e := (gd_s e).2
  rw [← Option.some.inj e]; exact k
theorem dk_X15_has_23 {n : Nat} {g : Hp} {o : Int32 × Hp} {h : Hp} (k : DyK n g h) (e : sX15_has_23 h = some o) : DyK n g o.2 := by
  unfold sX15_has_23 at e
  exact dk_X15_has_24 k e
theorem dk_X15_has {n : Nat} {g : Hp} {o : Int32 × Hp} {x0 : Nat} {x1 : Int32} {h : Hp} (k : DyK n g h) (e : sX15_has h x0 x1 = some o) : DyK n g o.2 := by
  unfold sX15_has at e
  replace e := br_s e
  rcases e with ⟨_, e⟩ | ⟨_, e⟩
  · exact dk_X15_has_23 k e
  · replace e := br_s e
    rcases e with ⟨_, e⟩ | ⟨_, e⟩
    · exact dk_X15_has_23 k e
    · replace e := cl_s e
      obtain ⟨r_3, _, e⟩ := e
      replace e := (gd_s e).2
      replace e := br_s e
      rcases e with ⟨_, e⟩ | ⟨_, e⟩
      · exact dk_X15_has_23 k e
      · exact dk_X15_has_24 k e
theorem dk_X15_drop {n : Nat} {g : Hp} {o : Int32 × Hp} {x0 : Nat} {x1 : Int32} {h : Hp} (k : DyK n g h) (e : sX15_drop h x0 x1 = some o) : DyK n g o.2 := by
  unfold sX15_drop at e
  replace e := cl_s e
  obtain ⟨o_1, eo_1, e⟩ := e
  have ko_1 : DyK n g o_1.2 := dk_X15_has k eo_1
  replace e := br_s e
  rcases e with ⟨_, e⟩ | ⟨_, e⟩
  · rw [← Option.some.inj e]; exact ko_1
  · replace e := cl_s e
    obtain ⟨r_3, _, e⟩ := e
    replace e := (gd_s e).2
    replace e := nm_s e
    obtain ⟨h_5, wh_5, e⟩ := e
    have kh_5 : DyK n g h_5 := by rw [wh_5]; exact dk_wI ko_1
    rw [← Option.some.inj e]; exact kh_5
theorem dk_X15_say {n : Nat} {g : Hp} {o : Hp} {x0 : Nat} {x1 : Int32} {h : Hp} (k : DyK n g h) (e : sX15_say h x0 x1 = some o) : DyK n g o := by
  unfold sX15_say at e
  replace e := cl_s e
  obtain ⟨r_1, _, e⟩ := e
  replace e := (gd_s e).2
  replace e := nm_s e
  obtain ⟨h_3, wh_3, e⟩ := e
  have kh_3 : DyK n g h_3 := by rw [wh_3]; exact dk_wI k
  replace e := nm_s e
  obtain ⟨h_4, wh_4, e⟩ := e
  have kh_4 : DyK n g h_4 := by rw [wh_4]; exact dk_wI kh_3
  rw [← Option.some.inj e]; exact kh_4
theorem dk_X15_writeMen_146 {n : Nat} {g : Hp} {F : Nat} {o : Hp} {x0 : Nat} {x1 : Nat} {x2 : Int64} {x4 : Int32} {k_8 : Hp → Nat → Nat → Int64 → Int32 → Option (Hp)} (R_8 : ∀ {h : Hp} {y1 : Nat} {y2 : Nat} {y3 : Int64} {y4 : Int32}, DyK n g h → k_8 h y1 y2 y3 y4 = some o → DyK n g o) {h : Hp} (k : DyK n g h) (e : sX15_writeMen_146 F k_8 h x0 x1 x2 x4 = some o) : DyK n g o := by
  unfold sX15_writeMen_146 at e
  replace e := nm_s e
  obtain ⟨v_1, wv_1, e⟩ := e
  exact R_8 k e
theorem dk_X15_writeMen_135 {n : Nat} {g : Hp} {F : Nat} {o : Hp} {x0 : Nat} {x1 : Nat} {x2 : Int64} {x4 : Int32} {k_8 : Hp → Nat → Nat → Int64 → Int32 → Option (Hp)} (R_8 : ∀ {h : Hp} {y1 : Nat} {y2 : Nat} {y3 : Int64} {y4 : Int32}, DyK n g h → k_8 h y1 y2 y3 y4 = some o → DyK n g o) {h : Hp} (k : DyK n g h) (e : sX15_writeMen_135 F k_8 h x0 x1 x2 x4 = some o) : DyK n g o := by
  unfold sX15_writeMen_135 at e
  replace e := br_s e
  rcases e with ⟨_, e⟩ | ⟨_, e⟩
  · exact dk_X15_writeMen_146 R_8 k e
  · replace e := cl_s e
    obtain ⟨o_2, eo_2, e⟩ := e
    have ko_2 : DyK n g o_2 := dk_X15_say k eo_2
    exact dk_X15_writeMen_146 R_8 ko_2 e
theorem dk_X15_sayNumber_14 {n : Nat} {g : Hp} {F : Nat} {o : Hp} {x0 : Nat} {x1 : Int32} {r_X15_sayNumber : Hp → Nat → Int32 → Option (Hp)} (R_X15_sayNumber : ∀ {h : Hp} {y1 : Nat} {y2 : Int32} {o : Hp}, DyK n g h → r_X15_sayNumber h y1 y2 = some o → DyK n g o) {h : Hp} (k : DyK n g h) (e : sX15_sayNumber_14 F r_X15_sayNumber h x0 x1 = some o) : DyK n g o := by
  unfold sX15_sayNumber_14 at e
  replace e := cl_s e
  obtain ⟨o_1, eo_1, e⟩ := e
  have ko_1 : DyK n g o_1 := dk_X15_say k eo_1
  rw [← Option.some.inj e]; exact ko_1
theorem dk_oX15_sayNumber {n : Nat} {g : Hp} {F : Nat} {o : Hp} {x0 : Nat} {x1 : Int32} {r_X15_sayNumber : Hp → Nat → Int32 → Option (Hp)} (R_X15_sayNumber : ∀ {h : Hp} {y1 : Nat} {y2 : Int32} {o : Hp}, DyK n g h → r_X15_sayNumber h y1 y2 = some o → DyK n g o) {h : Hp} (k : DyK n g h) (e : oX15_sayNumber F r_X15_sayNumber h x0 x1 = some o) : DyK n g o := by
  unfold oX15_sayNumber at e
  replace e := br_s e
  rcases e with ⟨_, e⟩ | ⟨_, e⟩
  · exact dk_X15_sayNumber_14 R_X15_sayNumber k e
  · replace e := cl_s e
    obtain ⟨o_2, eo_2, e⟩ := e
    have ko_2 : DyK n g o_2 := R_X15_sayNumber k eo_2
    exact dk_X15_sayNumber_14 R_X15_sayNumber ko_2 e
theorem dk_qX15_sayNumber {n : Nat} {g : Hp} {F : Nat} : ∀ d : Nat, (∀ {h : Hp} {x0 : Nat} {x1 : Int32} {o : Hp}, DyK n g h → (qX15_sayNumber F d) h x0 x1 = some o → DyK n g o) := by
  intro d
  induction d with
  | zero => exact (fun _ e => nomatch e)
  | succ d ih => exact (fun k e => dk_oX15_sayNumber (fun k e => ih k e) k e)
theorem dk_X15_sayNumber {n : Nat} {g : Hp} {F : Nat} {o : Hp} {x0 : Nat} {x1 : Int32} {h : Hp} (k : DyK n g h) (e : sX15_sayNumber F h x0 x1 = some o) : DyK n g o := (dk_qX15_sayNumber 12) k e
theorem dk_X15_writeMen_118 {n : Nat} {g : Hp} {F : Nat} {o : Hp} {x0 : Nat} {x1 : Nat} {x2 : Int64} {x4 : Int32} {x5 : Int32} {x6 : Int32} {k_8 : Hp → Nat → Nat → Int64 → Int32 → Option (Hp)} (R_8 : ∀ {h : Hp} {y1 : Nat} {y2 : Nat} {y3 : Int64} {y4 : Int32}, DyK n g h → k_8 h y1 y2 y3 y4 = some o → DyK n g o) {k_19 : Hp → Nat → Nat → Int64 → Int32 → Int32 → Int32 → Option (Hp)} (R_19 : ∀ {h : Hp} {y1 : Nat} {y2 : Nat} {y3 : Int64} {y4 : Int32} {y5 : Int32} {y6 : Int32}, DyK n g h → k_19 h y1 y2 y3 y4 y5 y6 = some o → DyK n g o) {h : Hp} (k : DyK n g h) (e : sX15_writeMen_118 F k_8 k_19 h x0 x1 x2 x4 x5 x6 = some o) : DyK n g o := by
  unfold sX15_writeMen_118 at e
  replace e := nm_s e
  obtain ⟨v_1, wv_1, e⟩ := e
  exact R_19 k e
theorem dk_X15_writeMen_115 {n : Nat} {g : Hp} {F : Nat} {o : Hp} {x0 : Nat} {x1 : Nat} {x2 : Int64} {x4 : Int32} {x5 : Int32} {x6 : Int32} {t0 : Int32} {t1 : Nat} {k_8 : Hp → Nat → Nat → Int64 → Int32 → Option (Hp)} (R_8 : ∀ {h : Hp} {y1 : Nat} {y2 : Nat} {y3 : Int64} {y4 : Int32}, DyK n g h → k_8 h y1 y2 y3 y4 = some o → DyK n g o) {k_19 : Hp → Nat → Nat → Int64 → Int32 → Int32 → Int32 → Option (Hp)} (R_19 : ∀ {h : Hp} {y1 : Nat} {y2 : Nat} {y3 : Int64} {y4 : Int32} {y5 : Int32} {y6 : Int32}, DyK n g h → k_19 h y1 y2 y3 y4 y5 y6 = some o → DyK n g o) {h : Hp} (k : DyK n g h) (e : sX15_writeMen_115 F k_8 k_19 h x0 x1 x2 x4 x5 x6 t0 t1 = some o) : DyK n g o := by
  unfold sX15_writeMen_115 at e
  replace e := cl_s e
  obtain ⟨o_1, eo_1, e⟩ := e
  have ko_1 : DyK n g o_1 := dk_X15_say k eo_1
  exact dk_X15_writeMen_118 R_8 R_19 ko_1 e
theorem dk_X15_letterOf_25 {n : Nat} {g : Hp} {o : Int32 × Hp} {t0 : Int32} {t1 : Int32} {h : Hp} (k : DyK n g h) (e : sX15_letterOf_25 h t0 t1 = some o) : DyK n g o.2 := by
  unfold sX15_letterOf_25 at e
  rw [← Option.some.inj e]; exact k
theorem dk_X15_letterOf {n : Nat} {g : Hp} {o : Int32 × Hp} {x0 : Nat} {x1 : Int32} {h : Hp} (k : DyK n g h) (e : sX15_letterOf h x0 x1 = some o) : DyK n g o.2 := by
  unfold sX15_letterOf at e
  replace e := cl_s e
  obtain ⟨r_1, _, e⟩ := e
  replace e := cl_s e
  obtain ⟨r_2, _, e⟩ := e
  replace e := cl_s e
  obtain ⟨o_3, eo_3, e⟩ := e
  have ko_3 : DyK n g o_3.2 := dk_X15_manOf k eo_3
  replace e := (gd_s e).2
  replace e := cl_s e
  obtain ⟨o_5, eo_5, e⟩ := e
  have ko_5 : DyK n g o_5.2 := dk_X15_sideOf ko_3 eo_5
  replace e := br_s e
  rcases e with ⟨_, e⟩ | ⟨_, e⟩
  · exact dk_X15_letterOf_25 ko_5 e
  · exact dk_X15_letterOf_25 ko_5 e
theorem dk_X15_writeMen_90 {n : Nat} {g : Hp} {F : Nat} {o : Hp} {x0 : Nat} {x1 : Nat} {x2 : Int64} {x4 : Int32} {x6 : Int32} {x7 : Int32} {x8 : Int32} {k_8 : Hp → Nat → Nat → Int64 → Int32 → Option (Hp)} (R_8 : ∀ {h : Hp} {y1 : Nat} {y2 : Nat} {y3 : Int64} {y4 : Int32}, DyK n g h → k_8 h y1 y2 y3 y4 = some o → DyK n g o) {k_19 : Hp → Nat → Nat → Int64 → Int32 → Int32 → Int32 → Option (Hp)} (R_19 : ∀ {h : Hp} {y1 : Nat} {y2 : Nat} {y3 : Int64} {y4 : Int32} {y5 : Int32} {y6 : Int32}, DyK n g h → k_19 h y1 y2 y3 y4 y5 y6 = some o → DyK n g o) {h : Hp} (k : DyK n g h) (e : sX15_writeMen_90 F k_8 k_19 h x0 x1 x2 x4 x6 x7 x8 = some o) : DyK n g o := by
  unfold sX15_writeMen_90 at e
  replace e := br_s e
  rcases e with ⟨_, e⟩ | ⟨_, e⟩
  · exact dk_X15_writeMen_115 R_8 R_19 k e
  · replace e := cl_s e
    obtain ⟨r_2, _, e⟩ := e
    replace e := (gd_s e).2
    replace e := cl_s e
    obtain ⟨o_4, eo_4, e⟩ := e
    have ko_4 : DyK n g o_4.2 := dk_X15_letterOf k eo_4
    exact dk_X15_writeMen_115 R_8 R_19 ko_4 e
theorem dk_X15_writeMen_79 {n : Nat} {g : Hp} {F : Nat} {o : Hp} {x0 : Nat} {x1 : Nat} {x2 : Int64} {x4 : Int32} {x5 : Int32} {x6 : Int32} {x7 : Int32} {x8 : Int32} {k_8 : Hp → Nat → Nat → Int64 → Int32 → Option (Hp)} (R_8 : ∀ {h : Hp} {y1 : Nat} {y2 : Nat} {y3 : Int64} {y4 : Int32}, DyK n g h → k_8 h y1 y2 y3 y4 = some o → DyK n g o) {k_19 : Hp → Nat → Nat → Int64 → Int32 → Int32 → Int32 → Option (Hp)} (R_19 : ∀ {h : Hp} {y1 : Nat} {y2 : Nat} {y3 : Int64} {y4 : Int32} {y5 : Int32} {y6 : Int32}, DyK n g h → k_19 h y1 y2 y3 y4 y5 y6 = some o → DyK n g o) {h : Hp} (k : DyK n g h) (e : sX15_writeMen_79 F k_8 k_19 h x0 x1 x2 x4 x5 x6 x7 x8 = some o) : DyK n g o := by
  unfold sX15_writeMen_79 at e
  replace e := br_s e
  rcases e with ⟨_, e⟩ | ⟨_, e⟩
  · exact dk_X15_writeMen_90 R_8 R_19 k e
  · replace e := cl_s e
    obtain ⟨o_2, eo_2, e⟩ := e
    have ko_2 : DyK n g o_2 := dk_X15_sayNumber k eo_2
    exact dk_X15_writeMen_90 R_8 R_19 ko_2 e
theorem dk_X15_writeMen_56 {n : Nat} {g : Hp} {F : Nat} {o : Hp} {x0 : Nat} {x1 : Nat} {x2 : Int64} {x4 : Int32} {x5 : Int32} {x6 : Int32} {x7 : Int32} {t0 : Int32} {k_8 : Hp → Nat → Nat → Int64 → Int32 → Option (Hp)} (R_8 : ∀ {h : Hp} {y1 : Nat} {y2 : Nat} {y3 : Int64} {y4 : Int32}, DyK n g h → k_8 h y1 y2 y3 y4 = some o → DyK n g o) {k_19 : Hp → Nat → Nat → Int64 → Int32 → Int32 → Int32 → Option (Hp)} (R_19 : ∀ {h : Hp} {y1 : Nat} {y2 : Nat} {y3 : Int64} {y4 : Int32} {y5 : Int32} {y6 : Int32}, DyK n g h → k_19 h y1 y2 y3 y4 y5 y6 = some o → DyK n g o) {h : Hp} (k : DyK n g h) (e : sX15_writeMen_56 F k_8 k_19 h x0 x1 x2 x4 x5 x6 x7 t0 = some o) : DyK n g o := by
  unfold sX15_writeMen_56 at e
  replace e := br_s e
  rcases e with ⟨_, e⟩ | ⟨_, e⟩
  · exact dk_X15_writeMen_79 R_8 R_19 k e
  · replace e := cl_s e
    obtain ⟨r_2, _, e⟩ := e
    replace e := (gd_s e).2
    replace e := br_s e
    rcases e with ⟨_, e⟩ | ⟨_, e⟩
    · replace e := nm_s e
      obtain ⟨v_5, wv_5, e⟩ := e
      exact dk_X15_writeMen_118 R_8 R_19 k e
    · exact dk_X15_writeMen_79 R_8 R_19 k e
theorem dk_X15_writeMen_19 {n : Nat} {g : Hp} {F : Nat} {o : Hp} {k_8 : Hp → Nat → Nat → Int64 → Int32 → Option (Hp)} (R_8 : ∀ {h : Hp} {y1 : Nat} {y2 : Nat} {y3 : Int64} {y4 : Int32}, DyK n g h → k_8 h y1 y2 y3 y4 = some o → DyK n g o) : ∀ (f : Nat) {h : Hp} {x0 : Nat} {x1 : Nat} {x2 : Int64} {x4 : Int32} {x5 : Int32} {x6 : Int32}, DyK n g h → sX15_writeMen_19 F k_8 f h x0 x1 x2 x4 x5 x6 = some o → DyK n g o := by
  intro f
  induction f with
  | zero => intro h x0 x1 x2 x4 x5 x6 _ e; exact absurd e (by rw [sX15_writeMen_19]; exact fun z => nomatch z)
  | succ f ih =>
    intro h x0 x1 x2 x4 x5 x6 k e
    rw [sX15_writeMen_19] at e
    replace e := br_s e
    rcases e with ⟨_, e⟩ | ⟨_, e⟩
    · replace e := br_s e
      rcases e with ⟨_, e⟩ | ⟨_, e⟩
      · exact dk_X15_writeMen_135 R_8 k e
      · replace e := cl_s e
        obtain ⟨o_3, eo_3, e⟩ := e
        have ko_3 : DyK n g o_3 := dk_X15_sayNumber k eo_3
        exact dk_X15_writeMen_135 R_8 ko_3 e
    · replace e := nm_s e
      obtain ⟨v_4, wv_4, e⟩ := e
      replace e := br_s e
      rcases e with ⟨_, e⟩ | ⟨_, e⟩
      · exact dk_X15_writeMen_56 R_8 (fun k e => ih k e) k e
      · exact dk_X15_writeMen_56 R_8 (fun k e => ih k e) k e
theorem dk_X15_writeMen_8 {n : Nat} {g : Hp} {F : Nat} {o : Hp} : ∀ (f : Nat) {h : Hp} {x0 : Nat} {x1 : Nat} {x2 : Int64} {x4 : Int32}, DyK n g h → sX15_writeMen_8 F f h x0 x1 x2 x4 = some o → DyK n g o := by
  intro f
  induction f with
  | zero => intro h x0 x1 x2 x4 _ e; exact absurd e (by rw [sX15_writeMen_8]; exact fun z => nomatch z)
  | succ f ih =>
    intro h x0 x1 x2 x4 k e
    rw [sX15_writeMen_8] at e
    replace e := br_s e
    rcases e with ⟨_, e⟩ | ⟨_, e⟩
    · rw [← Option.some.inj e]; exact k
    · exact dk_X15_writeMen_19 (fun k e => ih k e) F k e
theorem dk_X15_writeMen {n : Nat} {g : Hp} {F : Nat} {o : Hp} {x0 : Nat} {x1 : Nat} {x2 : Int64} {h : Hp} (k : DyK n g h) (e : sX15_writeMen F h x0 x1 x2 = some o) : DyK n g o := by
  unfold sX15_writeMen at e
  replace e := nm_s e
  obtain ⟨v_1, wv_1, e⟩ := e
  exact dk_X15_writeMen_8 F k e
theorem dk_X15_writeAll_230 {n : Nat} {g : Hp} {F : Nat} {o : Hp} {x0 : Nat} {x1 : Nat} {h : Hp} (k : DyK n g h) (e : sX15_writeAll_230 F h x0 x1 = some o) : DyK n g o := by
  unfold sX15_writeAll_230 at e
  replace e := cl_s e
  obtain ⟨o_1, eo_1, e⟩ := e
  have ko_1 : DyK n g o_1 := dk_X15_say k eo_1
  replace e := cl_s e
  obtain ⟨r_2, _, e⟩ := e
  replace e := (gd_s e).2
  replace e := cl_s e
  obtain ⟨o_4, eo_4, e⟩ := e
  have ko_4 : DyK n g o_4 := dk_X15_say ko_1 eo_4
  replace e := cl_s e
  obtain ⟨r_5, _, e⟩ := e
  replace e := (gd_s e).2
  replace e := cl_s e
  obtain ⟨o_7, eo_7, e⟩ := e
  have ko_7 : DyK n g o_7 := dk_X15_say ko_4 eo_7
  replace e := cl_s e
  obtain ⟨o_8, eo_8, e⟩ := e
  have ko_8 : DyK n g o_8 := dk_X15_say ko_7 eo_8
  replace e := cl_s e
  obtain ⟨o_9, eo_9, e⟩ := e
  have ko_9 : DyK n g o_9 := dk_X15_sayNumber ko_8 eo_9
  rw [← Option.some.inj e]; exact ko_9
theorem dk_X15_writeAll_168 {n : Nat} {g : Hp} {F : Nat} {o : Hp} {k_145 : Hp → Nat → Nat → Int32 → Int32 → Option (Hp)} (R_145 : ∀ {h : Hp} {y1 : Nat} {y2 : Nat} {y3 : Int32} {y4 : Int32}, DyK n g h → k_145 h y1 y2 y3 y4 = some o → DyK n g o) {k_153 : Hp → Nat → Nat → Int32 → Int32 → Int32 → Option (Hp)} (R_153 : ∀ {h : Hp} {y1 : Nat} {y2 : Nat} {y3 : Int32} {y4 : Int32} {y5 : Int32}, DyK n g h → k_153 h y1 y2 y3 y4 y5 = some o → DyK n g o) : ∀ (f : Nat) {h : Hp} {x0 : Nat} {x1 : Nat} {x2 : Int32} {x3 : Int32} {x4 : Int32} {x5 : Int32}, DyK n g h → sX15_writeAll_168 F k_145 k_153 f h x0 x1 x2 x3 x4 x5 = some o → DyK n g o := by
  intro f
  induction f with
  | zero => intro h x0 x1 x2 x3 x4 x5 _ e; exact absurd e (by rw [sX15_writeAll_168]; exact fun z => nomatch z)
  | succ f ih =>
    intro h x0 x1 x2 x3 x4 x5 k e
    rw [sX15_writeAll_168] at e
    replace e := cl_s e
    obtain ⟨r_1, _, e⟩ := e
    replace e := (gd_s e).2
    replace e := br_s e
    rcases e with ⟨_, e⟩ | ⟨_, e⟩
    · replace e := nm_s e
      obtain ⟨v_4, wv_4, e⟩ := e
      exact R_153 k e
    · replace e := cl_s e
      obtain ⟨o_5, eo_5, e⟩ := e
      have ko_5 : DyK n g o_5.2 := dk_X15_valueOf k eo_5
      replace e := cl_s e
      obtain ⟨o_6, eo_6, e⟩ := e
      have ko_6 : DyK n g o_6.2 := dk_X15_letterOf ko_5 eo_6
      replace e := cl_s e
      obtain ⟨o_7, eo_7, e⟩ := e
      have ko_7 : DyK n g o_7 := dk_X15_say ko_6 eo_7
      replace e := nm_s e
      obtain ⟨v_8, wv_8, e⟩ := e
      exact ih ko_7 e
theorem dk_X15_writeAll_153 {n : Nat} {g : Hp} {F : Nat} {o : Hp} {k_145 : Hp → Nat → Nat → Int32 → Int32 → Option (Hp)} (R_145 : ∀ {h : Hp} {y1 : Nat} {y2 : Nat} {y3 : Int32} {y4 : Int32}, DyK n g h → k_145 h y1 y2 y3 y4 = some o → DyK n g o) : ∀ (f : Nat) {h : Hp} {x0 : Nat} {x1 : Nat} {x2 : Int32} {x3 : Int32} {x4 : Int32}, DyK n g h → sX15_writeAll_153 F k_145 f h x0 x1 x2 x3 x4 = some o → DyK n g o := by
  intro f
  induction f with
  | zero => intro h x0 x1 x2 x3 x4 _ e; exact absurd e (by rw [sX15_writeAll_153]; exact fun z => nomatch z)
  | succ f ih =>
    intro h x0 x1 x2 x3 x4 k e
    rw [sX15_writeAll_153] at e
    replace e := cl_s e
    obtain ⟨r_1, _, e⟩ := e
    replace e := br_s e
    rcases e with ⟨_, e⟩ | ⟨_, e⟩
    · replace e := nm_s e
      obtain ⟨v_3, wv_3, e⟩ := e
      exact R_145 k e
    · exact dk_X15_writeAll_168 R_145 (fun k e => ih k e) F k e
theorem dk_X15_writeAll_145 {n : Nat} {g : Hp} {F : Nat} {o : Hp} : ∀ (f : Nat) {h : Hp} {x0 : Nat} {x1 : Nat} {x2 : Int32} {x3 : Int32}, DyK n g h → sX15_writeAll_145 F f h x0 x1 x2 x3 = some o → DyK n g o := by
  intro f
  induction f with
  | zero => intro h x0 x1 x2 x3 _ e; exact absurd e (by rw [sX15_writeAll_145]; exact fun z => nomatch z)
  | succ f ih =>
    intro h x0 x1 x2 x3 k e
    rw [sX15_writeAll_145] at e
    replace e := br_s e
    rcases e with ⟨_, e⟩ | ⟨_, e⟩
    · replace e := br_s e
      rcases e with ⟨_, e⟩ | ⟨_, e⟩
      · replace e := cl_s e
        obtain ⟨o_3, eo_3, e⟩ := e
        have ko_3 : DyK n g o_3 := dk_X15_say k eo_3
        exact dk_X15_writeAll_230 ko_3 e
      · exact dk_X15_writeAll_230 k e
    · exact dk_X15_writeAll_153 (fun k e => ih k e) F k e
theorem dk_X15_fileOf {n : Nat} {g : Hp} {o : Int32 × Hp} {x0 : Nat} {x1 : Int32} {h : Hp} (k : DyK n g h) (e : sX15_fileOf h x0 x1 = some o) : DyK n g o.2 := by
  unfold sX15_fileOf at e
  replace e := (gd_s e).2
  rw [← Option.some.inj e]; exact k
theorem dk_X15_saySquare {n : Nat} {g : Hp} {o : Hp} {x0 : Nat} {x1 : Int32} {h : Hp} (k : DyK n g h) (e : sX15_saySquare h x0 x1 = some o) : DyK n g o := by
  unfold sX15_saySquare at e
  replace e := cl_s e
  obtain ⟨o_1, eo_1, e⟩ := e
  have ko_1 : DyK n g o_1.2 := dk_X15_fileOf k eo_1
  replace e := cl_s e
  obtain ⟨o_2, eo_2, e⟩ := e
  have ko_2 : DyK n g o_2 := dk_X15_say ko_1 eo_2
  replace e := (gd_s e).2
  replace e := cl_s e
  obtain ⟨o_4, eo_4, e⟩ := e
  have ko_4 : DyK n g o_4 := dk_X15_say ko_2 eo_4
  rw [← Option.some.inj e]; exact ko_4
theorem dk_X15_writeAll_108 {n : Nat} {g : Hp} {F : Nat} {o : Hp} : ∀ (f : Nat) {h : Hp} {x0 : Nat} {x1 : Nat} {x2 : Int32}, DyK n g h → sX15_writeAll_108 F f h x0 x1 x2 = some o → DyK n g o := by
  intro f
  induction f with
  | zero => intro h x0 x1 x2 _ e; exact absurd e (by rw [sX15_writeAll_108]; exact fun z => nomatch z)
  | succ f ih =>
    intro h x0 x1 x2 k e
    rw [sX15_writeAll_108] at e
    replace e := br_s e
    rcases e with ⟨_, e⟩ | ⟨_, e⟩
    · replace e := cl_s e
      obtain ⟨o_2, eo_2, e⟩ := e
      have ko_2 : DyK n g o_2 := dk_X15_say k eo_2
      replace e := nm_s e
      obtain ⟨v_3, wv_3, e⟩ := e
      exact dk_X15_writeAll_145 F ko_2 e
    · replace e := cl_s e
      obtain ⟨r_4, _, e⟩ := e
      replace e := (gd_s e).2
      replace e := cl_s e
      obtain ⟨o_6, eo_6, e⟩ := e
      have ko_6 : DyK n g o_6 := dk_X15_saySquare k eo_6
      replace e := nm_s e
      obtain ⟨v_7, wv_7, e⟩ := e
      exact ih ko_6 e
theorem dk_X15_writeAll_106 {n : Nat} {g : Hp} {F : Nat} {o : Hp} {x0 : Nat} {x1 : Nat} {h : Hp} (k : DyK n g h) (e : sX15_writeAll_106 F h x0 x1 = some o) : DyK n g o := by
  unfold sX15_writeAll_106 at e
  exact dk_X15_writeAll_108 F k e
theorem dk_X15_writeAll_81 {n : Nat} {g : Hp} {F : Nat} {o : Hp} {x0 : Nat} {x1 : Nat} {x2 : Int32} {k_55 : Hp → Nat → Nat → Int32 → Option (Hp)} (R_55 : ∀ {h : Hp} {y1 : Nat} {y2 : Nat} {y3 : Int32}, DyK n g h → k_55 h y1 y2 y3 = some o → DyK n g o) {h : Hp} (k : DyK n g h) (e : sX15_writeAll_81 F k_55 h x0 x1 x2 = some o) : DyK n g o := by
  unfold sX15_writeAll_81 at e
  replace e := nm_s e
  obtain ⟨v_1, wv_1, e⟩ := e
  exact R_55 k e
theorem dk_X15_writeAll_55 {n : Nat} {g : Hp} {F : Nat} {o : Hp} : ∀ (f : Nat) {h : Hp} {x0 : Nat} {x1 : Nat} {x2 : Int32}, DyK n g h → sX15_writeAll_55 F f h x0 x1 x2 = some o → DyK n g o := by
  intro f
  induction f with
  | zero => intro h x0 x1 x2 _ e; exact absurd e (by rw [sX15_writeAll_55]; exact fun z => nomatch z)
  | succ f ih =>
    intro h x0 x1 x2 k e
    rw [sX15_writeAll_55] at e
    replace e := br_s e
    rcases e with ⟨_, e⟩ | ⟨_, e⟩
    · replace e := cl_s e
      obtain ⟨o_2, eo_2, e⟩ := e
      have ko_2 : DyK n g o_2 := dk_X15_say k eo_2
      replace e := br_s e
      rcases e with ⟨_, e⟩ | ⟨_, e⟩
      · replace e := cl_s e
        obtain ⟨o_4, eo_4, e⟩ := e
        have ko_4 : DyK n g o_4 := dk_X15_say ko_2 eo_4
        exact dk_X15_writeAll_106 ko_4 e
      · exact dk_X15_writeAll_106 ko_2 e
    · replace e := br_s e
      rcases e with ⟨_, e⟩ | ⟨_, e⟩
      · replace e := cl_s e
        obtain ⟨o_6, eo_6, e⟩ := e
        have ko_6 : DyK n g o_6 := dk_X15_saySquare k eo_6
        exact dk_X15_writeAll_81 (fun k e => ih k e) ko_6 e
      · exact dk_X15_writeAll_81 (fun k e => ih k e) k e
theorem dk_X15_writeAll_53 {n : Nat} {g : Hp} {F : Nat} {o : Hp} {x0 : Nat} {x1 : Nat} {h : Hp} (k : DyK n g h) (e : sX15_writeAll_53 F h x0 x1 = some o) : DyK n g o := by
  unfold sX15_writeAll_53 at e
  exact dk_X15_writeAll_55 F k e
theorem dk_X15_writeAll_29 {n : Nat} {g : Hp} {F : Nat} {o : Hp} {x0 : Nat} {x1 : Nat} {t0 : Int32} {t1 : Nat} {h : Hp} (k : DyK n g h) (e : sX15_writeAll_29 F h x0 x1 t0 t1 = some o) : DyK n g o := by
  unfold sX15_writeAll_29 at e
  replace e := cl_s e
  obtain ⟨o_1, eo_1, e⟩ := e
  have ko_1 : DyK n g o_1 := dk_X15_say k eo_1
  replace e := cl_s e
  obtain ⟨o_2, eo_2, e⟩ := e
  have ko_2 : DyK n g o_2 := dk_X15_say ko_1 eo_2
  replace e := br_s e
  rcases e with ⟨_, e⟩ | ⟨_, e⟩
  · replace e := cl_s e
    obtain ⟨o_4, eo_4, e⟩ := e
    have ko_4 : DyK n g o_4 := dk_X15_say ko_2 eo_4
    exact dk_X15_writeAll_53 ko_4 e
  · exact dk_X15_writeAll_53 ko_2 e
theorem dk_X15_writeAll {n : Nat} {g : Hp} {F : Nat} {o : Hp} {x0 : Nat} {x1 : Nat} {h : Hp} (k : DyK n g h) (e : sX15_writeAll F h x0 x1 = some o) : DyK n g o := by
  unfold sX15_writeAll at e
  replace e := cl_s e
  obtain ⟨o_1, eo_1, e⟩ := e
  have ko_1 : DyK n g o_1 := dk_X15_writeMen k eo_1
  replace e := cl_s e
  obtain ⟨o_2, eo_2, e⟩ := e
  have ko_2 : DyK n g o_2 := dk_X15_say ko_1 eo_2
  replace e := br_s e
  rcases e with ⟨_, e⟩ | ⟨_, e⟩
  · exact dk_X15_writeAll_29 ko_2 e
  · exact dk_X15_writeAll_29 ko_2 e
theorem dk_X15_write {n : Nat} {g : Hp} {F : Nat} {o : Int32 × Hp} {x0 : Nat} {x1 : Int32} {h : Hp} (k : DyK n g h) (e : sX15_write F h x0 x1 = some o) : DyK n g o.2 := by
  unfold sX15_write at e
  replace e := cl_s e
  obtain ⟨o_1, eo_1, e⟩ := e
  have ko_1 : DyK n g o_1.2 := dk_X15_has k eo_1
  replace e := br_s e
  rcases e with ⟨_, e⟩ | ⟨_, e⟩
  · rw [← Option.some.inj e]; exact ko_1
  · replace e := nm_s e
    obtain ⟨h_3, wh_3, e⟩ := e
    have kh_3 : DyK n g h_3 := by rw [wh_3]; exact dk_wI ko_1
    replace e := cl_s e
    obtain ⟨r_4, _, e⟩ := e
    replace e := (gd_s e).2
    replace e := cl_s e
    obtain ⟨r_6, _, e⟩ := e
    replace e := cl_s e
    obtain ⟨o_7, eo_7, e⟩ := e
    have ko_7 : DyK n g o_7 := dk_X15_writeAll kh_3 eo_7
    rw [← Option.some.inj e]; exact ko_7
theorem dk_X15_same_40 {n : Nat} {g : Hp} {F : Nat} {o : Int32 × Hp} {t0 : Int32} {h : Hp} (k : DyK n g h) (e : sX15_same_40 F h t0 = some o) : DyK n g o.2 := by
  unfold sX15_same_40 at e
  replace e := (gd_s e).2
  rw [← Option.some.inj e]; exact k
theorem dk_X15_same_39 {n : Nat} {g : Hp} {F : Nat} {o : Int32 × Hp} {h : Hp} (k : DyK n g h) (e : sX15_same_39 F h = some o) : DyK n g o.2 := by
  unfold sX15_same_39 at e
  exact dk_X15_same_40 k e
theorem dk_X15_isSame_242 {n : Nat} {g : Hp} {F : Nat} {o : Int32 × Hp} {t0 : Int32} {h : Hp} (k : DyK n g h) (e : sX15_isSame_242 F h t0 = some o) : DyK n g o.2 := by
  unfold sX15_isSame_242 at e
  replace e := (gd_s e).2
  rw [← Option.some.inj e]; exact k
theorem dk_X15_isSame_241 {n : Nat} {g : Hp} {F : Nat} {o : Int32 × Hp} {h : Hp} (k : DyK n g h) (e : sX15_isSame_241 F h = some o) : DyK n g o.2 := by
  unfold sX15_isSame_241 at e
  exact dk_X15_isSame_242 k e
theorem dk_X15_hasMen_42 {n : Nat} {g : Hp} {F : Nat} {o : Int32 × Hp} : ∀ (f : Nat) {h : Hp} {x0 : Nat} {x1 : Nat} {x2 : Int32} {x3 : Int32}, DyK n g h → sX15_hasMen_42 F f h x0 x1 x2 x3 = some o → DyK n g o.2 := by
  intro f
  induction f with
  | zero => intro h x0 x1 x2 x3 _ e; exact absurd e (by rw [sX15_hasMen_42]; exact fun z => nomatch z)
  | succ f ih =>
    intro h x0 x1 x2 x3 k e
    rw [sX15_hasMen_42] at e
    replace e := cl_s e
    obtain ⟨r_1, _, e⟩ := e
    replace e := br_s e
    rcases e with ⟨_, e⟩ | ⟨_, e⟩
    · rw [← Option.some.inj e]; exact k
    · replace e := cl_s e
      obtain ⟨r_3, _, e⟩ := e
      replace e := (gd_s e).2
      replace e := br_s e
      rcases e with ⟨_, e⟩ | ⟨_, e⟩
      · replace e := nm_s e
        obtain ⟨v_6, wv_6, e⟩ := e
        exact ih k e
      · rw [← Option.some.inj e]; exact k
theorem dk_X15_hasMen_34 {n : Nat} {g : Hp} {F : Nat} {o : Int32 × Hp} {x0 : Nat} {x1 : Nat} {x2 : Int32} {x3 : Int32} {k_2 : Hp → Nat → Nat → Int32 → Int32 → Option (Int32 × Hp)} (R_2 : ∀ {h : Hp} {y1 : Nat} {y2 : Nat} {y3 : Int32} {y4 : Int32}, DyK n g h → k_2 h y1 y2 y3 y4 = some o → DyK n g o.2) {h : Hp} (k : DyK n g h) (e : sX15_hasMen_34 F k_2 h x0 x1 x2 x3 = some o) : DyK n g o.2 := by
  unfold sX15_hasMen_34 at e
  replace e := nm_s e
  obtain ⟨v_1, wv_1, e⟩ := e
  exact R_2 k e
theorem dk_X15_hasMen_2 {n : Nat} {g : Hp} {F : Nat} {o : Int32 × Hp} : ∀ (f : Nat) {h : Hp} {x0 : Nat} {x1 : Nat} {x2 : Int32} {x3 : Int32}, DyK n g h → sX15_hasMen_2 F f h x0 x1 x2 x3 = some o → DyK n g o.2 := by
  intro f
  induction f with
  | zero => intro h x0 x1 x2 x3 _ e; exact absurd e (by rw [sX15_hasMen_2]; exact fun z => nomatch z)
  | succ f ih =>
    intro h x0 x1 x2 x3 k e
    rw [sX15_hasMen_2] at e
    replace e := br_s e
    rcases e with ⟨_, e⟩ | ⟨_, e⟩
    · exact dk_X15_hasMen_42 F k e
    · replace e := cl_s e
      obtain ⟨r_2, _, e⟩ := e
      replace e := (gd_s e).2
      replace e := br_s e
      rcases e with ⟨_, e⟩ | ⟨_, e⟩
      · exact dk_X15_hasMen_34 (fun k e => ih k e) k e
      · replace e := cl_s e
        obtain ⟨r_5, _, e⟩ := e
        replace e := (gd_s e).2
        replace e := cl_s e
        obtain ⟨o_7, eo_7, e⟩ := e
        have ko_7 : DyK n g o_7.2 := dk_X15_sideOf k eo_7
        replace e := br_s e
        rcases e with ⟨_, e⟩ | ⟨_, e⟩
        · rw [← Option.some.inj e]; exact ko_7
        · exact dk_X15_hasMen_34 (fun k e => ih k e) ko_7 e
theorem dk_X15_hasMen {n : Nat} {g : Hp} {F : Nat} {o : Int32 × Hp} {x0 : Nat} {x1 : Nat} {x2 : Int32} {h : Hp} (k : DyK n g h) (e : sX15_hasMen F h x0 x1 x2 = some o) : DyK n g o.2 := by
  unfold sX15_hasMen at e
  exact dk_X15_hasMen_2 F k e
theorem dk_X15_early_269 {n : Nat} {g : Hp} {F : Nat} {o : Int32 × Hp} {t0 : Int32} {t1 : Nat} {h : Hp} (k : DyK n g h) (e : sX15_early_269 F h t0 t1 = some o) : DyK n g o.2 := by
  unfold sX15_early_269 at e
  replace e := nm_s e
  obtain ⟨h_1, wh_1, e⟩ := e
  have kh_1 : DyK n g h_1 := by rw [wh_1]; exact dk_wI k
  rw [← Option.some.inj e]; exact kh_1
theorem dk_X15_early_240 {n : Nat} {g : Hp} {F : Nat} {o : Int32 × Hp} {x0 : Nat} {x1 : Nat} {x2 : Int32} {t0 : Int32} {k_218 : Hp → Nat → Nat → Int32 → Option (Int32 × Hp)} (R_218 : ∀ {h : Hp} {y1 : Nat} {y2 : Nat} {y3 : Int32}, DyK n g h → k_218 h y1 y2 y3 = some o → DyK n g o.2) {h : Hp} (k : DyK n g h) (e : sX15_early_240 F k_218 h x0 x1 x2 t0 = some o) : DyK n g o.2 := by
  unfold sX15_early_240 at e
  replace e := cl_s e
  obtain ⟨o_1, eo_1, e⟩ := e
  have ko_1 : DyK n g o_1.2 := dk_X15_hasMen k eo_1
  replace e := br_s e
  rcases e with ⟨_, e⟩ | ⟨_, e⟩
  · replace e := cl_s e
    obtain ⟨r_4, _, e⟩ := e
    replace e := br_s e
    rcases e with ⟨_, e⟩ | ⟨_, e⟩
    · exact dk_X15_early_269 ko_1 e
    · exact dk_X15_early_269 ko_1 e
  · replace e := nm_s e
    obtain ⟨v_3, wv_3, e⟩ := e
    exact R_218 ko_1 e
theorem dk_X15_early_218 {n : Nat} {g : Hp} {F : Nat} {o : Int32 × Hp} : ∀ (f : Nat) {h : Hp} {x0 : Nat} {x1 : Nat} {x2 : Int32}, DyK n g h → sX15_early_218 F f h x0 x1 x2 = some o → DyK n g o.2 := by
  intro f
  induction f with
  | zero => intro h x0 x1 x2 _ e; exact absurd e (by rw [sX15_early_218]; exact fun z => nomatch z)
  | succ f ih =>
    intro h x0 x1 x2 k e
    rw [sX15_early_218] at e
    replace e := br_s e
    rcases e with ⟨_, e⟩ | ⟨_, e⟩
    · rw [← Option.some.inj e]; exact k
    · replace e := br_s e
      rcases e with ⟨_, e⟩ | ⟨_, e⟩
      · exact dk_X15_early_240 (fun k e => ih k e) k e
      · exact dk_X15_early_240 (fun k e => ih k e) k e
theorem dk_X15_early_216 {n : Nat} {g : Hp} {F : Nat} {o : Int32 × Hp} {x0 : Nat} {x1 : Nat} {h : Hp} (k : DyK n g h) (e : sX15_early_216 F h x0 x1 = some o) : DyK n g o.2 := by
  unfold sX15_early_216 at e
  exact dk_X15_early_218 F k e
theorem dk_X15_early_186 {n : Nat} {g : Hp} {F : Nat} {o : Int32 × Hp} {x0 : Nat} {x1 : Nat} {x2 : Int32} {t0 : Int32} {k_154 : Hp → Nat → Nat → Int32 → Option (Int32 × Hp)} (R_154 : ∀ {h : Hp} {y1 : Nat} {y2 : Nat} {y3 : Int32}, DyK n g h → k_154 h y1 y2 y3 = some o → DyK n g o.2) {h : Hp} (k : DyK n g h) (e : sX15_early_186 F k_154 h x0 x1 x2 t0 = some o) : DyK n g o.2 := by
  unfold sX15_early_186 at e
  replace e := cl_s e
  obtain ⟨r_1, _, e⟩ := e
  replace e := (gd_s e).2
  replace e := cl_s e
  obtain ⟨r_3, _, e⟩ := e
  replace e := br_s e
  rcases e with ⟨_, e⟩ | ⟨_, e⟩
  · replace e := nm_s e
    obtain ⟨v_5, wv_5, e⟩ := e
    exact R_154 k e
  · replace e := nm_s e
    obtain ⟨h_6, wh_6, e⟩ := e
    have kh_6 : DyK n g h_6 := by rw [wh_6]; exact dk_wI k
    rw [← Option.some.inj e]; exact kh_6
theorem dk_X15_early_154 {n : Nat} {g : Hp} {F : Nat} {o : Int32 × Hp} : ∀ (f : Nat) {h : Hp} {x0 : Nat} {x1 : Nat} {x2 : Int32}, DyK n g h → sX15_early_154 F f h x0 x1 x2 = some o → DyK n g o.2 := by
  intro f
  induction f with
  | zero => intro h x0 x1 x2 _ e; exact absurd e (by rw [sX15_early_154]; exact fun z => nomatch z)
  | succ f ih =>
    intro h x0 x1 x2 k e
    rw [sX15_early_154] at e
    replace e := br_s e
    rcases e with ⟨_, e⟩ | ⟨_, e⟩
    · exact dk_X15_early_216 k e
    · replace e := cl_s e
      obtain ⟨r_2, _, e⟩ := e
      replace e := br_s e
      rcases e with ⟨_, e⟩ | ⟨_, e⟩
      · exact dk_X15_early_216 k e
      · replace e := br_s e
        rcases e with ⟨_, e⟩ | ⟨_, e⟩
        · exact dk_X15_early_186 (fun k e => ih k e) k e
        · exact dk_X15_early_186 (fun k e => ih k e) k e
theorem dk_X15_early_152 {n : Nat} {g : Hp} {F : Nat} {o : Int32 × Hp} {x0 : Nat} {x1 : Nat} {h : Hp} (k : DyK n g h) (e : sX15_early_152 F h x0 x1 = some o) : DyK n g o.2 := by
  unfold sX15_early_152 at e
  exact dk_X15_early_154 F k e
theorem dk_X15_early_146 {n : Nat} {g : Hp} {F : Nat} {o : Int32 × Hp} {x0 : Nat} {x1 : Nat} {x2 : Int32} {k_73 : Hp → Nat → Nat → Int32 → Option (Int32 × Hp)} (R_73 : ∀ {h : Hp} {y1 : Nat} {y2 : Nat} {y3 : Int32}, DyK n g h → k_73 h y1 y2 y3 = some o → DyK n g o.2) {h : Hp} (k : DyK n g h) (e : sX15_early_146 F k_73 h x0 x1 x2 = some o) : DyK n g o.2 := by
  unfold sX15_early_146 at e
  replace e := nm_s e
  obtain ⟨v_1, wv_1, e⟩ := e
  exact R_73 k e
theorem dk_X15_early_107 {n : Nat} {g : Hp} {F : Nat} {o : Int32 × Hp} {x0 : Nat} {x1 : Nat} {x2 : Int32} {t0 : Int32} {k_73 : Hp → Nat → Nat → Int32 → Option (Int32 × Hp)} (R_73 : ∀ {h : Hp} {y1 : Nat} {y2 : Nat} {y3 : Int32}, DyK n g h → k_73 h y1 y2 y3 = some o → DyK n g o.2) {h : Hp} (k : DyK n g h) (e : sX15_early_107 F k_73 h x0 x1 x2 t0 = some o) : DyK n g o.2 := by
  unfold sX15_early_107 at e
  replace e := cl_s e
  obtain ⟨o_1, eo_1, e⟩ := e
  have ko_1 : DyK n g o_1.2 := dk_X15_royalOf k eo_1
  replace e := br_s e
  rcases e with ⟨_, e⟩ | ⟨_, e⟩
  · exact dk_X15_early_146 R_73 ko_1 e
  · replace e := cl_s e
    obtain ⟨r_3, _, e⟩ := e
    replace e := br_s e
    rcases e with ⟨_, e⟩ | ⟨_, e⟩
    · replace e := nm_s e
      obtain ⟨h_5, wh_5, e⟩ := e
      have kh_5 : DyK n g h_5 := by rw [wh_5]; exact dk_wI ko_1
      rw [← Option.some.inj e]; exact kh_5
    · exact dk_X15_early_146 R_73 ko_1 e
theorem dk_X15_early_73 {n : Nat} {g : Hp} {F : Nat} {o : Int32 × Hp} : ∀ (f : Nat) {h : Hp} {x0 : Nat} {x1 : Nat} {x2 : Int32}, DyK n g h → sX15_early_73 F f h x0 x1 x2 = some o → DyK n g o.2 := by
  intro f
  induction f with
  | zero => intro h x0 x1 x2 _ e; exact absurd e (by rw [sX15_early_73]; exact fun z => nomatch z)
  | succ f ih =>
    intro h x0 x1 x2 k e
    rw [sX15_early_73] at e
    replace e := br_s e
    rcases e with ⟨_, e⟩ | ⟨_, e⟩
    · exact dk_X15_early_152 k e
    · replace e := cl_s e
      obtain ⟨r_2, _, e⟩ := e
      replace e := br_s e
      rcases e with ⟨_, e⟩ | ⟨_, e⟩
      · exact dk_X15_early_152 k e
      · replace e := br_s e
        rcases e with ⟨_, e⟩ | ⟨_, e⟩
        · exact dk_X15_early_107 (fun k e => ih k e) k e
        · exact dk_X15_early_107 (fun k e => ih k e) k e
theorem dk_X15_early_71 {n : Nat} {g : Hp} {F : Nat} {o : Int32 × Hp} {x0 : Nat} {x1 : Nat} {h : Hp} (k : DyK n g h) (e : sX15_early_71 F h x0 x1 = some o) : DyK n g o.2 := by
  unfold sX15_early_71 at e
  exact dk_X15_early_73 F k e
theorem dk_X15_early_45 {n : Nat} {g : Hp} {F : Nat} {o : Int32 × Hp} {x0 : Nat} {x1 : Nat} {x2 : Int32} {t0 : Int32} {k_2 : Hp → Nat → Nat → Int32 → Option (Int32 × Hp)} (R_2 : ∀ {h : Hp} {y1 : Nat} {y2 : Nat} {y3 : Int32}, DyK n g h → k_2 h y1 y2 y3 = some o → DyK n g o.2) {h : Hp} (k : DyK n g h) (e : sX15_early_45 F k_2 h x0 x1 x2 t0 = some o) : DyK n g o.2 := by
  unfold sX15_early_45 at e
  replace e := cl_s e
  obtain ⟨o_1, eo_1, e⟩ := e
  have ko_1 : DyK n g o_1.2 := dk_X15_royalOf k eo_1
  replace e := br_s e
  rcases e with ⟨_, e⟩ | ⟨_, e⟩
  · replace e := nm_s e
    obtain ⟨h_4, wh_4, e⟩ := e
    have kh_4 : DyK n g h_4 := by rw [wh_4]; exact dk_wI ko_1
    rw [← Option.some.inj e]; exact kh_4
  · replace e := nm_s e
    obtain ⟨v_3, wv_3, e⟩ := e
    exact R_2 ko_1 e
theorem dk_X15_early_2 {n : Nat} {g : Hp} {F : Nat} {o : Int32 × Hp} : ∀ (f : Nat) {h : Hp} {x0 : Nat} {x1 : Nat} {x2 : Int32}, DyK n g h → sX15_early_2 F f h x0 x1 x2 = some o → DyK n g o.2 := by
  intro f
  induction f with
  | zero => intro h x0 x1 x2 _ e; exact absurd e (by rw [sX15_early_2]; exact fun z => nomatch z)
  | succ f ih =>
    intro h x0 x1 x2 k e
    rw [sX15_early_2] at e
    replace e := br_s e
    rcases e with ⟨_, e⟩ | ⟨_, e⟩
    · exact dk_X15_early_71 k e
    · replace e := cl_s e
      obtain ⟨r_2, _, e⟩ := e
      replace e := br_s e
      rcases e with ⟨_, e⟩ | ⟨_, e⟩
      · exact dk_X15_early_71 k e
      · replace e := cl_s e
        obtain ⟨r_4, _, e⟩ := e
        replace e := br_s e
        rcases e with ⟨_, e⟩ | ⟨_, e⟩
        · exact dk_X15_early_71 k e
        · replace e := br_s e
          rcases e with ⟨_, e⟩ | ⟨_, e⟩
          · exact dk_X15_early_45 (fun k e => ih k e) k e
          · exact dk_X15_early_45 (fun k e => ih k e) k e
theorem dk_X15_early {n : Nat} {g : Hp} {F : Nat} {o : Int32 × Hp} {x0 : Nat} {x1 : Nat} {h : Hp} (k : DyK n g h) (e : sX15_early F h x0 x1 = some o) : DyK n g o.2 := by
  unfold sX15_early at e
  exact dk_X15_early_2 F k e
theorem dk_X15_tryAll_250 {n : Nat} {g : Hp} {F : Nat} {o : Hp} {h : Hp} (k : DyK n g h) (e : sX15_tryAll_250 F h = some o) : DyK n g o := by
  unfold sX15_tryAll_250 at e
  rw [← Option.some.inj e]; exact k
theorem dk_X15_tryAll_244 {n : Nat} {g : Hp} {F : Nat} {o : Hp} {x0 : Nat} {x1 : Nat} {x2 : Nat} {x3 : Int32} {k_122 : Hp → Nat → Nat → Nat → Int32 → Option (Hp)} (R_122 : ∀ {h : Hp} {y1 : Nat} {y2 : Nat} {y3 : Nat} {y4 : Int32}, DyK n g h → k_122 h y1 y2 y3 y4 = some o → DyK n g o) {h : Hp} (k : DyK n g h) (e : sX15_tryAll_244 F k_122 h x0 x1 x2 x3 = some o) : DyK n g o := by
  unfold sX15_tryAll_244 at e
  replace e := nm_s e
  obtain ⟨v_1, wv_1, e⟩ := e
  exact R_122 k e
theorem dk_X15_tryAll_238 {n : Nat} {g : Hp} {F : Nat} {o : Hp} {x0 : Nat} {x1 : Nat} {x2 : Nat} {x3 : Int32} {x4 : Int32} {k_122 : Hp → Nat → Nat → Nat → Int32 → Option (Hp)} (R_122 : ∀ {h : Hp} {y1 : Nat} {y2 : Nat} {y3 : Nat} {y4 : Int32}, DyK n g h → k_122 h y1 y2 y3 y4 = some o → DyK n g o) {k_143 : Hp → Nat → Nat → Nat → Int32 → Int32 → Option (Hp)} (R_143 : ∀ {h : Hp} {y1 : Nat} {y2 : Nat} {y3 : Nat} {y4 : Int32} {y5 : Int32}, DyK n g h → k_143 h y1 y2 y3 y4 y5 = some o → DyK n g o) {h : Hp} (k : DyK n g h) (e : sX15_tryAll_238 F k_122 k_143 h x0 x1 x2 x3 x4 = some o) : DyK n g o := by
  unfold sX15_tryAll_238 at e
  replace e := nm_s e
  obtain ⟨v_1, wv_1, e⟩ := e
  exact R_143 k e
theorem dk_X13_add {n : Nat} {g : Hp} {o : Hp} {x0 : Nat} {x1 : Int32} {x2 : Int32} {x3 : Int32} {x4 : Int32} {x5 : Int32} {x6 : Int32} {x7 : Int32} {h : Hp} (k : DyK n g h) (e : sX13_add h x0 x1 x2 x3 x4 x5 x6 x7 = some o) : DyK n g o := by
  unfold sX13_add at e
  replace e := cl_s e
  obtain ⟨r_1, _, e⟩ := e
  replace e := (gd_s e).2
  replace e := nm_s e
  obtain ⟨h_3, wh_3, e⟩ := e
  have kh_3 : DyK n g h_3 := by rw [wh_3]; exact dk_wI k
  replace e := cl_s e
  obtain ⟨r_4, _, e⟩ := e
  replace e := (gd_s e).2
  replace e := nm_s e
  obtain ⟨h_6, wh_6, e⟩ := e
  have kh_6 : DyK n g h_6 := by rw [wh_6]; exact dk_wI kh_3
  replace e := cl_s e
  obtain ⟨r_7, _, e⟩ := e
  replace e := (gd_s e).2
  replace e := nm_s e
  obtain ⟨h_9, wh_9, e⟩ := e
  have kh_9 : DyK n g h_9 := by rw [wh_9]; exact dk_wI kh_6
  replace e := cl_s e
  obtain ⟨r_10, _, e⟩ := e
  replace e := (gd_s e).2
  replace e := nm_s e
  obtain ⟨h_12, wh_12, e⟩ := e
  have kh_12 : DyK n g h_12 := by rw [wh_12]; exact dk_wI kh_9
  replace e := cl_s e
  obtain ⟨r_13, _, e⟩ := e
  replace e := (gd_s e).2
  replace e := nm_s e
  obtain ⟨h_15, wh_15, e⟩ := e
  have kh_15 : DyK n g h_15 := by rw [wh_15]; exact dk_wI kh_12
  replace e := cl_s e
  obtain ⟨r_16, _, e⟩ := e
  replace e := (gd_s e).2
  replace e := nm_s e
  obtain ⟨h_18, wh_18, e⟩ := e
  have kh_18 : DyK n g h_18 := by rw [wh_18]; exact dk_wI kh_15
  replace e := cl_s e
  obtain ⟨r_19, _, e⟩ := e
  replace e := (gd_s e).2
  replace e := nm_s e
  obtain ⟨h_21, wh_21, e⟩ := e
  have kh_21 : DyK n g h_21 := by rw [wh_21]; exact dk_wI kh_18
  replace e := nm_s e
  obtain ⟨h_22, wh_22, e⟩ := e
  have kh_22 : DyK n g h_22 := by rw [wh_22]; exact dk_wI kh_21
  rw [← Option.some.inj e]; exact kh_22
theorem dk_X15_tryAll_202 {n : Nat} {g : Hp} {F : Nat} {o : Hp} {x0 : Nat} {x1 : Nat} {x2 : Nat} {x3 : Int32} {x4 : Int32} {t0 : Int32} {k_122 : Hp → Nat → Nat → Nat → Int32 → Option (Hp)} (R_122 : ∀ {h : Hp} {y1 : Nat} {y2 : Nat} {y3 : Nat} {y4 : Int32}, DyK n g h → k_122 h y1 y2 y3 y4 = some o → DyK n g o) {k_143 : Hp → Nat → Nat → Nat → Int32 → Int32 → Option (Hp)} (R_143 : ∀ {h : Hp} {y1 : Nat} {y2 : Nat} {y3 : Nat} {y4 : Int32} {y5 : Int32}, DyK n g h → k_143 h y1 y2 y3 y4 y5 = some o → DyK n g o) {h : Hp} (k : DyK n g h) (e : sX15_tryAll_202 F k_122 k_143 h x0 x1 x2 x3 x4 t0 = some o) : DyK n g o := by
  unfold sX15_tryAll_202 at e
  replace e := cl_s e
  obtain ⟨r_1, _, e⟩ := e
  replace e := (gd_s e).2
  replace e := br_s e
  rcases e with ⟨_, e⟩ | ⟨_, e⟩
  · exact dk_X15_tryAll_238 R_122 R_143 k e
  · replace e := br_s e
    rcases e with ⟨_, e⟩ | ⟨_, e⟩
    · replace e := cl_s e
      obtain ⟨o_5, eo_5, e⟩ := e
      have ko_5 : DyK n g o_5 := dk_X13_add k eo_5
      exact dk_X15_tryAll_238 R_122 R_143 ko_5 e
    · exact dk_X15_tryAll_238 R_122 R_143 k e
theorem dk_X15_tryAll_201 {n : Nat} {g : Hp} {F : Nat} {o : Hp} {x0 : Nat} {x1 : Nat} {x2 : Nat} {x3 : Int32} {x4 : Int32} {k_122 : Hp → Nat → Nat → Nat → Int32 → Option (Hp)} (R_122 : ∀ {h : Hp} {y1 : Nat} {y2 : Nat} {y3 : Nat} {y4 : Int32}, DyK n g h → k_122 h y1 y2 y3 y4 = some o → DyK n g o) {k_143 : Hp → Nat → Nat → Nat → Int32 → Int32 → Option (Hp)} (R_143 : ∀ {h : Hp} {y1 : Nat} {y2 : Nat} {y3 : Nat} {y4 : Int32} {y5 : Int32}, DyK n g h → k_143 h y1 y2 y3 y4 y5 = some o → DyK n g o) {h : Hp} (k : DyK n g h) (e : sX15_tryAll_201 F k_122 k_143 h x0 x1 x2 x3 x4 = some o) : DyK n g o := by
  unfold sX15_tryAll_201 at e
  exact dk_X15_tryAll_202 R_122 R_143 k e
theorem dk_X15_tryAll_197 {n : Nat} {g : Hp} {F : Nat} {o : Hp} {x0 : Nat} {x1 : Nat} {x2 : Nat} {x3 : Int32} {x4 : Int32} {k_122 : Hp → Nat → Nat → Nat → Int32 → Option (Hp)} (R_122 : ∀ {h : Hp} {y1 : Nat} {y2 : Nat} {y3 : Nat} {y4 : Int32}, DyK n g h → k_122 h y1 y2 y3 y4 = some o → DyK n g o) {k_143 : Hp → Nat → Nat → Nat → Int32 → Int32 → Option (Hp)} (R_143 : ∀ {h : Hp} {y1 : Nat} {y2 : Nat} {y3 : Nat} {y4 : Int32} {y5 : Int32}, DyK n g h → k_143 h y1 y2 y3 y4 y5 = some o → DyK n g o) {h : Hp} (k : DyK n g h) (e : sX15_tryAll_197 F k_122 k_143 h x0 x1 x2 x3 x4 = some o) : DyK n g o := by
  unfold sX15_tryAll_197 at e
  exact dk_X15_tryAll_202 R_122 R_143 k e
theorem dk_X15_tryAll_143 {n : Nat} {g : Hp} {F : Nat} {o : Hp} {k_122 : Hp → Nat → Nat → Nat → Int32 → Option (Hp)} (R_122 : ∀ {h : Hp} {y1 : Nat} {y2 : Nat} {y3 : Nat} {y4 : Int32}, DyK n g h → k_122 h y1 y2 y3 y4 = some o → DyK n g o) : ∀ (f : Nat) {h : Hp} {x0 : Nat} {x1 : Nat} {x2 : Nat} {x3 : Int32} {x4 : Int32}, DyK n g h → sX15_tryAll_143 F k_122 f h x0 x1 x2 x3 x4 = some o → DyK n g o := by
  intro f
  induction f with
  | zero => intro h x0 x1 x2 x3 x4 _ e; exact absurd e (by rw [sX15_tryAll_143]; exact fun z => nomatch z)
  | succ f ih =>
    intro h x0 x1 x2 x3 x4 k e
    rw [sX15_tryAll_143] at e
    replace e := cl_s e
    obtain ⟨r_1, _, e⟩ := e
    replace e := br_s e
    rcases e with ⟨_, e⟩ | ⟨_, e⟩
    · exact dk_X15_tryAll_244 R_122 k e
    · replace e := cl_s e
      obtain ⟨r_3, _, e⟩ := e
      replace e := (gd_s e).2
      replace e := br_s e
      rcases e with ⟨_, e⟩ | ⟨_, e⟩
      · replace e := cl_s e
        obtain ⟨o_6, eo_6, e⟩ := e
        have ko_6 : DyK n g o_6.2 := dk_X15_becomesOthers k eo_6
        replace e := br_s e
        rcases e with ⟨_, e⟩ | ⟨_, e⟩
        · exact dk_X15_tryAll_201 R_122 (fun k e => ih k e) ko_6 e
        · replace e := (gd_s e).2
          replace e := br_s e
          rcases e with ⟨_, e⟩ | ⟨_, e⟩
          · exact dk_X15_tryAll_197 R_122 (fun k e => ih k e) ko_6 e
          · replace e := (gd_s e).2
            replace e := br_s e
            rcases e with ⟨_, e⟩ | ⟨_, e⟩
            · exact dk_X15_tryAll_197 R_122 (fun k e => ih k e) ko_6 e
            · exact dk_X15_tryAll_201 R_122 (fun k e => ih k e) ko_6 e
      · exact dk_X15_tryAll_244 R_122 k e
theorem dk_X15_tryAll_122 {n : Nat} {g : Hp} {F : Nat} {o : Hp} : ∀ (f : Nat) {h : Hp} {x0 : Nat} {x1 : Nat} {x2 : Nat} {x3 : Int32}, DyK n g h → sX15_tryAll_122 F f h x0 x1 x2 x3 = some o → DyK n g o := by
  intro f
  induction f with
  | zero => intro h x0 x1 x2 x3 _ e; exact absurd e (by rw [sX15_tryAll_122]; exact fun z => nomatch z)
  | succ f ih =>
    intro h x0 x1 x2 x3 k e
    rw [sX15_tryAll_122] at e
    replace e := br_s e
    rcases e with ⟨_, e⟩ | ⟨_, e⟩
    · exact dk_X15_tryAll_250 k e
    · replace e := cl_s e
      obtain ⟨r_2, _, e⟩ := e
      replace e := br_s e
      rcases e with ⟨_, e⟩ | ⟨_, e⟩
      · exact dk_X15_tryAll_250 k e
      · exact dk_X15_tryAll_143 (fun k e => ih k e) F k e
theorem dk_X15_tryAll_114 {n : Nat} {g : Hp} {F : Nat} {o : Hp} {x0 : Nat} {x1 : Nat} {x2 : Nat} {x3 : Int32} {k_7 : Hp → Nat → Nat → Nat → Int32 → Option (Hp)} (R_7 : ∀ {h : Hp} {y1 : Nat} {y2 : Nat} {y3 : Nat} {y4 : Int32}, DyK n g h → k_7 h y1 y2 y3 y4 = some o → DyK n g o) {h : Hp} (k : DyK n g h) (e : sX15_tryAll_114 F k_7 h x0 x1 x2 x3 = some o) : DyK n g o := by
  unfold sX15_tryAll_114 at e
  replace e := nm_s e
  obtain ⟨v_1, wv_1, e⟩ := e
  exact R_7 k e
theorem dk_X15_lead_127 {n : Nat} {g : Hp} {F : Nat} {o : Hp} {x0 : Nat} {x1 : Nat} {x2 : Int32} {x3 : Int32} {x4 : Int32} {x5 : Int32} {x6 : Int32} {k_44 : Hp → Nat → Nat → Int32 → Int32 → Int32 → Int32 → Int32 → Option (Hp)} (R_44 : ∀ {h : Hp} {y1 : Nat} {y2 : Nat} {y3 : Int32} {y4 : Int32} {y5 : Int32} {y6 : Int32} {y7 : Int32}, DyK n g h → k_44 h y1 y2 y3 y4 y5 y6 y7 = some o → DyK n g o) {h : Hp} (k : DyK n g h) (e : sX15_lead_127 F k_44 h x0 x1 x2 x3 x4 x5 x6 = some o) : DyK n g o := by
  unfold sX15_lead_127 at e
  replace e := nm_s e
  obtain ⟨v_1, wv_1, e⟩ := e
  exact R_44 k e
theorem dk_X15_lead_121 {n : Nat} {g : Hp} {F : Nat} {o : Hp} {x0 : Nat} {x1 : Nat} {x2 : Int32} {x3 : Int32} {x4 : Int32} {x5 : Int32} {x6 : Int32} {x7 : Int32} {x8 : Int32} {k_44 : Hp → Nat → Nat → Int32 → Int32 → Int32 → Int32 → Int32 → Option (Hp)} (R_44 : ∀ {h : Hp} {y1 : Nat} {y2 : Nat} {y3 : Int32} {y4 : Int32} {y5 : Int32} {y6 : Int32} {y7 : Int32}, DyK n g h → k_44 h y1 y2 y3 y4 y5 y6 y7 = some o → DyK n g o) {k_78 : Hp → Nat → Nat → Int32 → Int32 → Int32 → Int32 → Int32 → Int32 → Int32 → Option (Hp)} (R_78 : ∀ {h : Hp} {y1 : Nat} {y2 : Nat} {y3 : Int32} {y4 : Int32} {y5 : Int32} {y6 : Int32} {y7 : Int32} {y8 : Int32} {y9 : Int32}, DyK n g h → k_78 h y1 y2 y3 y4 y5 y6 y7 y8 y9 = some o → DyK n g o) {h : Hp} (k : DyK n g h) (e : sX15_lead_121 F k_44 k_78 h x0 x1 x2 x3 x4 x5 x6 x7 x8 = some o) : DyK n g o := by
  unfold sX15_lead_121 at e
  replace e := nm_s e
  obtain ⟨v_1, wv_1, e⟩ := e
  exact R_78 k e
theorem dk_X15_leadBy_216 {n : Nat} {g : Hp} {F : Nat} {o : Hp} {h : Hp} (k : DyK n g h) (e : sX15_leadBy_216 F h = some o) : DyK n g o := by
  unfold sX15_leadBy_216 at e
  rw [← Option.some.inj e]; exact k
theorem dk_X15_leadBy_207 {n : Nat} {g : Hp} {F : Nat} {o : Hp} {x0 : Nat} {x1 : Nat} {x2 : Int32} {x3 : Int32} {x4 : Int32} {x5 : Int32} {x6 : Int32} {x8 : Int32} {t0 : Int32} {t1 : Int32} {k_18 : Hp → Nat → Nat → Int32 → Int32 → Int32 → Int32 → Int32 → Int32 → Int32 → Option (Hp)} (R_18 : ∀ {h : Hp} {y1 : Nat} {y2 : Nat} {y3 : Int32} {y4 : Int32} {y5 : Int32} {y6 : Int32} {y7 : Int32} {y8 : Int32} {y9 : Int32}, DyK n g h → k_18 h y1 y2 y3 y4 y5 y6 y7 y8 y9 = some o → DyK n g o) {h : Hp} (k : DyK n g h) (e : sX15_leadBy_207 F k_18 h x0 x1 x2 x3 x4 x5 x6 x8 t0 t1 = some o) : DyK n g o := by
  unfold sX15_leadBy_207 at e
  replace e := nm_s e
  obtain ⟨v_1, wv_1, e⟩ := e
  replace e := nm_s e
  obtain ⟨v_2, wv_2, e⟩ := e
  exact R_18 k e
theorem dk_X15_leadBy_195 {n : Nat} {g : Hp} {F : Nat} {o : Hp} {x0 : Nat} {x1 : Nat} {x2 : Int32} {x3 : Int32} {x4 : Int32} {x5 : Int32} {x6 : Int32} {x7 : Int32} {x8 : Int32} {x10 : Int32} {k_18 : Hp → Nat → Nat → Int32 → Int32 → Int32 → Int32 → Int32 → Int32 → Int32 → Option (Hp)} (R_18 : ∀ {h : Hp} {y1 : Nat} {y2 : Nat} {y3 : Int32} {y4 : Int32} {y5 : Int32} {y6 : Int32} {y7 : Int32} {y8 : Int32} {y9 : Int32}, DyK n g h → k_18 h y1 y2 y3 y4 y5 y6 y7 y8 y9 = some o → DyK n g o) {h : Hp} (k : DyK n g h) (e : sX15_leadBy_195 F k_18 h x0 x1 x2 x3 x4 x5 x6 x7 x8 x10 = some o) : DyK n g o := by
  unfold sX15_leadBy_195 at e
  replace e := br_s e
  rcases e with ⟨_, e⟩ | ⟨_, e⟩
  · exact dk_X15_leadBy_207 R_18 k e
  · exact dk_X15_leadBy_207 R_18 k e
theorem dk_X15_leadBy_168 {n : Nat} {g : Hp} {F : Nat} {o : Hp} {x0 : Nat} {x1 : Nat} {x2 : Int32} {x3 : Int32} {x4 : Int32} {x5 : Int32} {x6 : Int32} {x7 : Int32} {x8 : Int32} {x9 : Int32} {x10 : Int32} {x11 : Int32} {k_18 : Hp → Nat → Nat → Int32 → Int32 → Int32 → Int32 → Int32 → Int32 → Int32 → Option (Hp)} (R_18 : ∀ {h : Hp} {y1 : Nat} {y2 : Nat} {y3 : Int32} {y4 : Int32} {y5 : Int32} {y6 : Int32} {y7 : Int32} {y8 : Int32} {y9 : Int32}, DyK n g h → k_18 h y1 y2 y3 y4 y5 y6 y7 y8 y9 = some o → DyK n g o) {h : Hp} (k : DyK n g h) (e : sX15_leadBy_168 F k_18 h x0 x1 x2 x3 x4 x5 x6 x7 x8 x9 x10 x11 = some o) : DyK n g o := by
  unfold sX15_leadBy_168 at e
  replace e := cl_s e
  obtain ⟨r_1, _, e⟩ := e
  replace e := (gd_s e).2
  replace e := nm_s e
  obtain ⟨h_3, wh_3, e⟩ := e
  have kh_3 : DyK n g h_3 := by rw [wh_3]; exact dk_wI k
  replace e := cl_s e
  obtain ⟨r_4, _, e⟩ := e
  replace e := (gd_s e).2
  replace e := nm_s e
  obtain ⟨h_6, wh_6, e⟩ := e
  have kh_6 : DyK n g h_6 := by rw [wh_6]; exact dk_wI kh_3
  replace e := cl_s e
  obtain ⟨r_7, _, e⟩ := e
  replace e := (gd_s e).2
  replace e := nm_s e
  obtain ⟨h_9, wh_9, e⟩ := e
  have kh_9 : DyK n g h_9 := by rw [wh_9]; exact dk_wI kh_6
  exact dk_X15_leadBy_195 R_18 kh_9 e
theorem dk_X15_leadBy_156 {n : Nat} {g : Hp} {F : Nat} {o : Hp} {x0 : Nat} {x1 : Nat} {x2 : Int32} {x3 : Int32} {x4 : Int32} {x5 : Int32} {x6 : Int32} {x7 : Int32} {x8 : Int32} {x9 : Int32} {x10 : Int32} {x11 : Int32} {t0 : Int32} {k_18 : Hp → Nat → Nat → Int32 → Int32 → Int32 → Int32 → Int32 → Int32 → Int32 → Option (Hp)} (R_18 : ∀ {h : Hp} {y1 : Nat} {y2 : Nat} {y3 : Int32} {y4 : Int32} {y5 : Int32} {y6 : Int32} {y7 : Int32} {y8 : Int32} {y9 : Int32}, DyK n g h → k_18 h y1 y2 y3 y4 y5 y6 y7 y8 y9 = some o → DyK n g o) {h : Hp} (k : DyK n g h) (e : sX15_leadBy_156 F k_18 h x0 x1 x2 x3 x4 x5 x6 x7 x8 x9 x10 x11 t0 = some o) : DyK n g o := by
  unfold sX15_leadBy_156 at e
  replace e := br_s e
  rcases e with ⟨_, e⟩ | ⟨_, e⟩
  · replace e := br_s e
    rcases e with ⟨_, e⟩ | ⟨_, e⟩
    · exact dk_X15_leadBy_195 R_18 k e
    · exact dk_X15_leadBy_168 R_18 k e
  · exact dk_X15_leadBy_168 R_18 k e
theorem dk_X15_leadBy_140 {n : Nat} {g : Hp} {F : Nat} {o : Hp} {x0 : Nat} {x1 : Nat} {x2 : Int32} {x3 : Int32} {x4 : Int32} {x5 : Int32} {x6 : Int32} {x7 : Int32} {x8 : Int32} {x9 : Int32} {x10 : Int32} {x11 : Int32} {k_18 : Hp → Nat → Nat → Int32 → Int32 → Int32 → Int32 → Int32 → Int32 → Int32 → Option (Hp)} (R_18 : ∀ {h : Hp} {y1 : Nat} {y2 : Nat} {y3 : Int32} {y4 : Int32} {y5 : Int32} {y6 : Int32} {y7 : Int32} {y8 : Int32} {y9 : Int32}, DyK n g h → k_18 h y1 y2 y3 y4 y5 y6 y7 y8 y9 = some o → DyK n g o) {h : Hp} (k : DyK n g h) (e : sX15_leadBy_140 F k_18 h x0 x1 x2 x3 x4 x5 x6 x7 x8 x9 x10 x11 = some o) : DyK n g o := by
  unfold sX15_leadBy_140 at e
  exact dk_X15_leadBy_156 R_18 k e
theorem dk_X15_leadBy_113 {n : Nat} {g : Hp} {F : Nat} {o : Hp} {x0 : Nat} {x1 : Nat} {x2 : Int32} {x3 : Int32} {x4 : Int32} {x5 : Int32} {x6 : Int32} {x7 : Int32} {x8 : Int32} {x9 : Int32} {x10 : Int32} {t0 : Int32} {k_18 : Hp → Nat → Nat → Int32 → Int32 → Int32 → Int32 → Int32 → Int32 → Int32 → Option (Hp)} (R_18 : ∀ {h : Hp} {y1 : Nat} {y2 : Nat} {y3 : Int32} {y4 : Int32} {y5 : Int32} {y6 : Int32} {y7 : Int32} {y8 : Int32} {y9 : Int32}, DyK n g h → k_18 h y1 y2 y3 y4 y5 y6 y7 y8 y9 = some o → DyK n g o) {h : Hp} (k : DyK n g h) (e : sX15_leadBy_113 F k_18 h x0 x1 x2 x3 x4 x5 x6 x7 x8 x9 x10 t0 = some o) : DyK n g o := by
  unfold sX15_leadBy_113 at e
  replace e := br_s e
  rcases e with ⟨_, e⟩ | ⟨_, e⟩
  · replace e := br_s e
    rcases e with ⟨_, e⟩ | ⟨_, e⟩
    · exact dk_X15_leadBy_156 R_18 k e
    · exact dk_X15_leadBy_156 R_18 k e
  · replace e := cl_s e
    obtain ⟨o_3, eo_3, e⟩ := e
    have ko_3 : DyK n g o_3.2 := dk_X15_sideOf k eo_3
    replace e := br_s e
    rcases e with ⟨_, e⟩ | ⟨_, e⟩
    · exact dk_X15_leadBy_140 R_18 ko_3 e
    · replace e := br_s e
      rcases e with ⟨_, e⟩ | ⟨_, e⟩
      · exact dk_X15_leadBy_156 R_18 ko_3 e
      · exact dk_X15_leadBy_140 R_18 ko_3 e
theorem dk_X15_leadBy_112 {n : Nat} {g : Hp} {F : Nat} {o : Hp} {x0 : Nat} {x1 : Nat} {x2 : Int32} {x3 : Int32} {x4 : Int32} {x5 : Int32} {x6 : Int32} {x7 : Int32} {x8 : Int32} {x9 : Int32} {x10 : Int32} {k_18 : Hp → Nat → Nat → Int32 → Int32 → Int32 → Int32 → Int32 → Int32 → Int32 → Option (Hp)} (R_18 : ∀ {h : Hp} {y1 : Nat} {y2 : Nat} {y3 : Int32} {y4 : Int32} {y5 : Int32} {y6 : Int32} {y7 : Int32} {y8 : Int32} {y9 : Int32}, DyK n g h → k_18 h y1 y2 y3 y4 y5 y6 y7 y8 y9 = some o → DyK n g o) {h : Hp} (k : DyK n g h) (e : sX15_leadBy_112 F k_18 h x0 x1 x2 x3 x4 x5 x6 x7 x8 x9 x10 = some o) : DyK n g o := by
  unfold sX15_leadBy_112 at e
  exact dk_X15_leadBy_113 R_18 k e
theorem dk_X15_isGoneOver_2 {n : Nat} {g : Hp} {F : Nat} {o : Int32 × Hp} : ∀ (f : Nat) {h : Hp} {x1 : Nat} {x2 : Int32} {x3 : Int32}, DyK n g h → sX15_isGoneOver_2 F f h x1 x2 x3 = some o → DyK n g o.2 := by
  intro f
  induction f with
  | zero => intro h x1 x2 x3 _ e; exact absurd e (by rw [sX15_isGoneOver_2]; exact fun z => nomatch z)
  | succ f ih =>
    intro h x1 x2 x3 k e
    rw [sX15_isGoneOver_2] at e
    replace e := br_s e
    rcases e with ⟨_, e⟩ | ⟨_, e⟩
    · rw [← Option.some.inj e]; exact k
    · replace e := cl_s e
      obtain ⟨r_2, _, e⟩ := e
      replace e := (gd_s e).2
      replace e := br_s e
      rcases e with ⟨_, e⟩ | ⟨_, e⟩
      · rw [← Option.some.inj e]; exact k
      · replace e := nm_s e
        obtain ⟨v_5, wv_5, e⟩ := e
        exact ih k e
theorem dk_X15_isGoneOver {n : Nat} {g : Hp} {F : Nat} {o : Int32 × Hp} {x0 : Nat} {x1 : Nat} {x2 : Int32} {h : Hp} (k : DyK n g h) (e : sX15_isGoneOver F h x0 x1 x2 = some o) : DyK n g o.2 := by
  unfold sX15_isGoneOver at e
  exact dk_X15_isGoneOver_2 F k e
theorem dk_X15_leadBy_18 {n : Nat} {g : Hp} {F : Nat} {o : Hp} : ∀ (f : Nat) {h : Hp} {x0 : Nat} {x1 : Nat} {x2 : Int32} {x3 : Int32} {x4 : Int32} {x5 : Int32} {x6 : Int32} {x7 : Int32} {x8 : Int32}, DyK n g h → sX15_leadBy_18 F f h x0 x1 x2 x3 x4 x5 x6 x7 x8 = some o → DyK n g o := by
  intro f
  induction f with
  | zero => intro h x0 x1 x2 x3 x4 x5 x6 x7 x8 _ e; exact absurd e (by rw [sX15_leadBy_18]; exact fun z => nomatch z)
  | succ f ih =>
    intro h x0 x1 x2 x3 x4 x5 x6 x7 x8 k e
    rw [sX15_leadBy_18] at e
    replace e := cl_s e
    obtain ⟨r_1, _, e⟩ := e
    replace e := cl_s e
    obtain ⟨r_2, _, e⟩ := e
    replace e := (gd_s e).2
    replace e := br_s e
    rcases e with ⟨_, e⟩ | ⟨_, e⟩
    · exact dk_X15_leadBy_216 k e
    · replace e := br_s e
      rcases e with ⟨_, e⟩ | ⟨_, e⟩
      · exact dk_X15_leadBy_216 k e
      · replace e := cl_s e
        obtain ⟨o_6, eo_6, e⟩ := e
        have ko_6 : DyK n g o_6.2 := dk_X15_onward k eo_6
        replace e := br_s e
        rcases e with ⟨_, e⟩ | ⟨_, e⟩
        · rw [← Option.some.inj e]; exact ko_6
        · replace e := cl_s e
          obtain ⟨r_8, _, e⟩ := e
          replace e := (gd_s e).2
          replace e := nm_s e
          obtain ⟨v_10, wv_10, e⟩ := e
          replace e := cl_s e
          obtain ⟨o_11, eo_11, e⟩ := e
          have ko_11 : DyK n g o_11.2 := dk_X15_isFree ko_6 eo_11
          replace e := br_s e
          rcases e with ⟨_, e⟩ | ⟨_, e⟩
          · exact dk_X15_leadBy_195 (fun k e => ih k e) ko_11 e
          · replace e := cl_s e
            obtain ⟨r_13, _, e⟩ := e
            replace e := (gd_s e).2
            replace e := br_s e
            rcases e with ⟨_, e⟩ | ⟨_, e⟩
            · replace e := br_s e
              rcases e with ⟨_, e⟩ | ⟨_, e⟩
              · exact dk_X15_leadBy_112 (fun k e => ih k e) ko_11 e
              · replace e := br_s e
                rcases e with ⟨_, e⟩ | ⟨_, e⟩
                · exact dk_X15_leadBy_112 (fun k e => ih k e) ko_11 e
                · replace e := cl_s e
                  obtain ⟨o_18, eo_18, e⟩ := e
                  have ko_18 : DyK n g o_18.2 := dk_X15_isGoneOver ko_11 eo_18
                  replace e := br_s e
                  rcases e with ⟨_, e⟩ | ⟨_, e⟩
                  · exact dk_X15_leadBy_112 (fun k e => ih k e) ko_18 e
                  · exact dk_X15_leadBy_113 (fun k e => ih k e) ko_18 e
            · exact dk_X15_leadBy_195 (fun k e => ih k e) ko_11 e
theorem dk_X15_leadBy {n : Nat} {g : Hp} {F : Nat} {o : Hp} {x0 : Nat} {x1 : Nat} {x2 : Int32} {x3 : Int32} {x4 : Int32} {x5 : Int32} {h : Hp} (k : DyK n g h) (e : sX15_leadBy F h x0 x1 x2 x3 x4 x5 = some o) : DyK n g o := by
  unfold sX15_leadBy at e
  replace e := cl_s e
  obtain ⟨r_1, _, e⟩ := e
  replace e := cl_s e
  obtain ⟨r_2, _, e⟩ := e
  replace e := (gd_s e).2
  replace e := nm_s e
  obtain ⟨v_4, wv_4, e⟩ := e
  exact dk_X15_leadBy_18 F k e
theorem dk_X15_lead_78 {n : Nat} {g : Hp} {F : Nat} {o : Hp} {k_44 : Hp → Nat → Nat → Int32 → Int32 → Int32 → Int32 → Int32 → Option (Hp)} (R_44 : ∀ {h : Hp} {y1 : Nat} {y2 : Nat} {y3 : Int32} {y4 : Int32} {y5 : Int32} {y6 : Int32} {y7 : Int32}, DyK n g h → k_44 h y1 y2 y3 y4 y5 y6 y7 = some o → DyK n g o) : ∀ (f : Nat) {h : Hp} {x0 : Nat} {x1 : Nat} {x2 : Int32} {x3 : Int32} {x4 : Int32} {x5 : Int32} {x6 : Int32} {x7 : Int32} {x8 : Int32}, DyK n g h → sX15_lead_78 F k_44 f h x0 x1 x2 x3 x4 x5 x6 x7 x8 = some o → DyK n g o := by
  intro f
  induction f with
  | zero => intro h x0 x1 x2 x3 x4 x5 x6 x7 x8 _ e; exact absurd e (by rw [sX15_lead_78]; exact fun z => nomatch z)
  | succ f ih =>
    intro h x0 x1 x2 x3 x4 x5 x6 x7 x8 k e
    rw [sX15_lead_78] at e
    replace e := br_s e
    rcases e with ⟨_, e⟩ | ⟨_, e⟩
    · exact dk_X15_lead_127 R_44 k e
    · replace e := cl_s e
      obtain ⟨o_2, eo_2, e⟩ := e
      have ko_2 : DyK n g o_2.2 := dk_X15_isFrom k eo_2
      replace e := br_s e
      rcases e with ⟨_, e⟩ | ⟨_, e⟩
      · exact dk_X15_lead_127 R_44 ko_2 e
      · replace e := cl_s e
        obtain ⟨o_4, eo_4, e⟩ := e
        have ko_4 : DyK n g o_4.2 := dk_X15_hasVector ko_2 eo_4
        replace e := br_s e
        rcases e with ⟨_, e⟩ | ⟨_, e⟩
        · exact dk_X15_lead_121 R_44 (fun k e => ih k e) ko_4 e
        · replace e := cl_s e
          obtain ⟨o_6, eo_6, e⟩ := e
          have ko_6 : DyK n g o_6 := dk_X15_leadBy ko_4 eo_6
          exact dk_X15_lead_121 R_44 (fun k e => ih k e) ko_6 e
theorem dk_X15_lead_44 {n : Nat} {g : Hp} {F : Nat} {o : Hp} : ∀ (f : Nat) {h : Hp} {x0 : Nat} {x1 : Nat} {x2 : Int32} {x3 : Int32} {x4 : Int32} {x5 : Int32} {x6 : Int32}, DyK n g h → sX15_lead_44 F f h x0 x1 x2 x3 x4 x5 x6 = some o → DyK n g o := by
  intro f
  induction f with
  | zero => intro h x0 x1 x2 x3 x4 x5 x6 _ e; exact absurd e (by rw [sX15_lead_44]; exact fun z => nomatch z)
  | succ f ih =>
    intro h x0 x1 x2 x3 x4 x5 x6 k e
    rw [sX15_lead_44] at e
    replace e := cl_s e
    obtain ⟨r_1, _, e⟩ := e
    replace e := cl_s e
    obtain ⟨r_2, _, e⟩ := e
    replace e := cl_s e
    obtain ⟨o_3, eo_3, e⟩ := e
    have ko_3 : DyK n g o_3.2 := dk_X15_manOf k eo_3
    replace e := (gd_s e).2
    replace e := br_s e
    rcases e with ⟨_, e⟩ | ⟨_, e⟩
    · rw [← Option.some.inj e]; exact ko_3
    · replace e := cl_s e
      obtain ⟨o_6, eo_6, e⟩ := e
      have ko_6 : DyK n g o_6.2 := dk_X15_manOf ko_3 eo_6
      replace e := nm_s e
      obtain ⟨v_7, wv_7, e⟩ := e
      exact dk_X15_lead_78 (fun k e => ih k e) F ko_6 e
theorem dk_X15_lead_18 {n : Nat} {g : Hp} {F : Nat} {o : Hp} : ∀ (f : Nat) {h : Hp} {x0 : Nat} {x1 : Nat} {x2 : Int32} {x3 : Int32} {x4 : Int32} {x5 : Int32} {x6 : Int32}, DyK n g h → sX15_lead_18 F f h x0 x1 x2 x3 x4 x5 x6 = some o → DyK n g o := by
  intro f
  induction f with
  | zero => intro h x0 x1 x2 x3 x4 x5 x6 _ e; exact absurd e (by rw [sX15_lead_18]; exact fun z => nomatch z)
  | succ f ih =>
    intro h x0 x1 x2 x3 x4 x5 x6 k e
    rw [sX15_lead_18] at e
    replace e := br_s e
    rcases e with ⟨_, e⟩ | ⟨_, e⟩
    · exact dk_X15_lead_44 F k e
    · replace e := cl_s e
      obtain ⟨r_2, _, e⟩ := e
      replace e := (gd_s e).2
      replace e := nm_s e
      obtain ⟨h_4, wh_4, e⟩ := e
      have kh_4 : DyK n g h_4 := by rw [wh_4]; exact dk_wI k
      replace e := nm_s e
      obtain ⟨v_5, wv_5, e⟩ := e
      exact ih kh_4 e
theorem dk_X15_lead {n : Nat} {g : Hp} {F : Nat} {o : Hp} {x0 : Nat} {x1 : Nat} {x2 : Int32} {x3 : Int32} {h : Hp} (k : DyK n g h) (e : sX15_lead F h x0 x1 x2 x3 = some o) : DyK n g o := by
  unfold sX15_lead at e
  replace e := cl_s e
  obtain ⟨r_1, _, e⟩ := e
  replace e := (gd_s e).2
  replace e := nm_s e
  obtain ⟨v_3, wv_3, e⟩ := e
  replace e := cl_s e
  obtain ⟨o_4, eo_4, e⟩ := e
  have ko_4 : DyK n g o_4.2 := dk_X15_sideOf k eo_4
  exact dk_X15_lead_18 F ko_4 e
theorem dk_X15_tryCastling_207 {n : Nat} {g : Hp} {F : Nat} {o : Hp} {h : Hp} (k : DyK n g h) (e : sX15_tryCastling_207 F h = some o) : DyK n g o := by
  unfold sX15_tryCastling_207 at e
  rw [← Option.some.inj e]; exact k
theorem dk_X15_tryCastling_197 {n : Nat} {g : Hp} {F : Nat} {o : Hp} {x0 : Nat} {x1 : Nat} {x2 : Int32} {x3 : Int32} {x4 : Nat} {x5 : Int32} {x6 : Int32} {k_46 : Hp → Nat → Nat → Int32 → Int32 → Nat → Int32 → Int32 → Option (Hp)} (R_46 : ∀ {h : Hp} {y1 : Nat} {y2 : Nat} {y3 : Int32} {y4 : Int32} {y5 : Nat} {y6 : Int32} {y7 : Int32}, DyK n g h → k_46 h y1 y2 y3 y4 y5 y6 y7 = some o → DyK n g o) {h : Hp} (k : DyK n g h) (e : sX15_tryCastling_197 F k_46 h x0 x1 x2 x3 x4 x5 x6 = some o) : DyK n g o := by
  unfold sX15_tryCastling_197 at e
  replace e := nm_s e
  obtain ⟨v_1, wv_1, e⟩ := e
  exact R_46 k e
theorem dk_X15_isOpen_5 {n : Nat} {g : Hp} {F : Nat} {o : Int32 × Hp} : ∀ (f : Nat) {h : Hp} {x0 : Nat} {x2 : Int32} {x3 : Int32} {x4 : Int32}, DyK n g h → sX15_isOpen_5 F f h x0 x2 x3 x4 = some o → DyK n g o.2 := by
  intro f
  induction f with
  | zero => intro h x0 x2 x3 x4 _ e; exact absurd e (by rw [sX15_isOpen_5]; exact fun z => nomatch z)
  | succ f ih =>
    intro h x0 x2 x3 x4 k e
    rw [sX15_isOpen_5] at e
    replace e := br_s e
    rcases e with ⟨_, e⟩ | ⟨_, e⟩
    · rw [← Option.some.inj e]; exact k
    · replace e := cl_s e
      obtain ⟨r_2, _, e⟩ := e
      replace e := (gd_s e).2
      replace e := br_s e
      rcases e with ⟨_, e⟩ | ⟨_, e⟩
      · replace e := nm_s e
        obtain ⟨v_5, wv_5, e⟩ := e
        exact ih k e
      · rw [← Option.some.inj e]; exact k
theorem dk_X15_isOpen {n : Nat} {g : Hp} {F : Nat} {o : Int32 × Hp} {x0 : Nat} {x1 : Int32} {x2 : Int32} {x3 : Int32} {h : Hp} (k : DyK n g h) (e : sX15_isOpen F h x0 x1 x2 x3 = some o) : DyK n g o.2 := by
  unfold sX15_isOpen at e
  replace e := nm_s e
  obtain ⟨v_1, wv_1, e⟩ := e
  exact dk_X15_isOpen_5 F k e
theorem dk_X15_tryCastling_196 {n : Nat} {g : Hp} {F : Nat} {o : Hp} {h : Hp} (k : DyK n g h) (e : sX15_tryCastling_196 F h = some o) : DyK n g o := by
  unfold sX15_tryCastling_196 at e
  rw [← Option.some.inj e]; exact k
theorem dk_X15_tryCastling_46 {n : Nat} {g : Hp} {F : Nat} {o : Hp} : ∀ (f : Nat) {h : Hp} {x0 : Nat} {x1 : Nat} {x2 : Int32} {x3 : Int32} {x4 : Nat} {x5 : Int32} {x6 : Int32}, DyK n g h → sX15_tryCastling_46 F f h x0 x1 x2 x3 x4 x5 x6 = some o → DyK n g o := by
  intro f
  induction f with
  | zero => intro h x0 x1 x2 x3 x4 x5 x6 _ e; exact absurd e (by rw [sX15_tryCastling_46]; exact fun z => nomatch z)
  | succ f ih =>
    intro h x0 x1 x2 x3 x4 x5 x6 k e
    rw [sX15_tryCastling_46] at e
    replace e := br_s e
    rcases e with ⟨_, e⟩ | ⟨_, e⟩
    · exact dk_X15_tryCastling_207 k e
    · replace e := br_s e
      rcases e with ⟨_, e⟩ | ⟨_, e⟩
      · exact dk_X15_tryCastling_207 k e
      · replace e := (gd_s e).2
        replace e := (gd_s e).2
        replace e := br_s e
        rcases e with ⟨_, e⟩ | ⟨_, e⟩
        · replace e := br_s e
          rcases e with ⟨_, e⟩ | ⟨_, e⟩
          · replace e := cl_s e
            obtain ⟨r_7, _, e⟩ := e
            replace e := (gd_s e).2
            replace e := br_s e
            rcases e with ⟨_, e⟩ | ⟨_, e⟩
            · exact dk_X15_tryCastling_197 (fun k e => ih k e) k e
            · replace e := cl_s e
              obtain ⟨r_10, _, e⟩ := e
              replace e := (gd_s e).2
              replace e := cl_s e
              obtain ⟨o_12, eo_12, e⟩ := e
              have ko_12 : DyK n g o_12.2 := dk_X15_sideOf k eo_12
              replace e := br_s e
              rcases e with ⟨_, e⟩ | ⟨_, e⟩
              · replace e := cl_s e
                obtain ⟨o_14, eo_14, e⟩ := e
                have ko_14 : DyK n g o_14.2 := dk_X15_isOpen ko_12 eo_14
                replace e := br_s e
                rcases e with ⟨_, e⟩ | ⟨_, e⟩
                · exact dk_X15_tryCastling_197 (fun k e => ih k e) ko_14 e
                · replace e := cl_s e
                  obtain ⟨o_16, eo_16, e⟩ := e
                  have ko_16 : DyK n g o_16.2 := dk_X15_isAttacked ko_14 eo_16
                  replace e := br_s e
                  rcases e with ⟨_, e⟩ | ⟨_, e⟩
                  · replace e := cl_s e
                    obtain ⟨o_18, eo_18, e⟩ := e
                    have ko_18 : DyK n g o_18.2 := dk_X15_isAttacked ko_16 eo_18
                    replace e := br_s e
                    rcases e with ⟨_, e⟩ | ⟨_, e⟩
                    · replace e := cl_s e
                      obtain ⟨o_20, eo_20, e⟩ := e
                      have ko_20 : DyK n g o_20.2 := dk_X15_isAttacked ko_18 eo_20
                      replace e := br_s e
                      rcases e with ⟨_, e⟩ | ⟨_, e⟩
                      · replace e := cl_s e
                        obtain ⟨r_22, _, e⟩ := e
                        replace e := cl_s e
                        obtain ⟨o_23, eo_23, e⟩ := e
                        have ko_23 : DyK n g o_23 := dk_X13_add ko_20 eo_23
                        exact dk_X15_tryCastling_196 ko_23 e
                      · exact dk_X15_tryCastling_196 ko_20 e
                    · exact dk_X15_tryCastling_196 ko_18 e
                  · exact dk_X15_tryCastling_196 ko_16 e
              · exact dk_X15_tryCastling_197 (fun k e => ih k e) ko_12 e
          · exact dk_X15_tryCastling_197 (fun k e => ih k e) k e
        · exact dk_X15_tryCastling_207 k e
theorem dk_X15_tryCastling_36 {n : Nat} {g : Hp} {F : Nat} {o : Hp} {x0 : Nat} {x1 : Nat} {x2 : Int32} {x3 : Int32} {x4 : Nat} {t0 : Int32} {h : Hp} (k : DyK n g h) (e : sX15_tryCastling_36 F h x0 x1 x2 x3 x4 t0 = some o) : DyK n g o := by
  unfold sX15_tryCastling_36 at e
  replace e := nm_s e
  obtain ⟨v_1, wv_1, e⟩ := e
  exact dk_X15_tryCastling_46 F k e
theorem dk_X15_tryCastling_25 {n : Nat} {g : Hp} {F : Nat} {o : Hp} {h : Hp} (k : DyK n g h) (e : sX15_tryCastling_25 F h = some o) : DyK n g o := by
  unfold sX15_tryCastling_25 at e
  rw [← Option.some.inj e]; exact k
theorem dk_X15_tryCastling {n : Nat} {g : Hp} {F : Nat} {o : Hp} {x0 : Nat} {x1 : Nat} {x2 : Int32} {x3 : Int32} {x4 : Nat} {h : Hp} (k : DyK n g h) (e : sX15_tryCastling F h x0 x1 x2 x3 x4 = some o) : DyK n g o := by
  unfold sX15_tryCastling at e
  replace e := (gd_s e).2
  replace e := (gd_s e).2
  replace e := br_s e
  rcases e with ⟨_, e⟩ | ⟨_, e⟩
  · replace e := br_s e
    rcases e with ⟨_, e⟩ | ⟨_, e⟩
    · replace e := br_s e
      rcases e with ⟨_, e⟩ | ⟨_, e⟩
      · exact dk_X15_tryCastling_36 k e
      · exact dk_X15_tryCastling_36 k e
    · exact dk_X15_tryCastling_25 k e
  · exact dk_X15_tryCastling_25 k e
theorem dk_X15_tryAll_108 {n : Nat} {g : Hp} {F : Nat} {o : Hp} {x0 : Nat} {x1 : Nat} {x2 : Nat} {x3 : Int32} {x4 : Int32} {x5 : Int32} {k_7 : Hp → Nat → Nat → Nat → Int32 → Option (Hp)} (R_7 : ∀ {h : Hp} {y1 : Nat} {y2 : Nat} {y3 : Nat} {y4 : Int32}, DyK n g h → k_7 h y1 y2 y3 y4 = some o → DyK n g o) {k_50 : Hp → Nat → Nat → Nat → Int32 → Int32 → Int32 → Option (Hp)} (R_50 : ∀ {h : Hp} {y1 : Nat} {y2 : Nat} {y3 : Nat} {y4 : Int32} {y5 : Int32} {y6 : Int32}, DyK n g h → k_50 h y1 y2 y3 y4 y5 y6 = some o → DyK n g o) {h : Hp} (k : DyK n g h) (e : sX15_tryAll_108 F k_7 k_50 h x0 x1 x2 x3 x4 x5 = some o) : DyK n g o := by
  unfold sX15_tryAll_108 at e
  replace e := nm_s e
  obtain ⟨v_1, wv_1, e⟩ := e
  exact R_50 k e
theorem dk_X15_tryAll_84 {n : Nat} {g : Hp} {F : Nat} {o : Hp} {x0 : Nat} {x1 : Nat} {x2 : Nat} {x3 : Int32} {x4 : Int32} {x5 : Int32} {k_7 : Hp → Nat → Nat → Nat → Int32 → Option (Hp)} (R_7 : ∀ {h : Hp} {y1 : Nat} {y2 : Nat} {y3 : Nat} {y4 : Int32}, DyK n g h → k_7 h y1 y2 y3 y4 = some o → DyK n g o) {k_50 : Hp → Nat → Nat → Nat → Int32 → Int32 → Int32 → Option (Hp)} (R_50 : ∀ {h : Hp} {y1 : Nat} {y2 : Nat} {y3 : Nat} {y4 : Int32} {y5 : Int32} {y6 : Int32}, DyK n g h → k_50 h y1 y2 y3 y4 y5 y6 = some o → DyK n g o) {h : Hp} (k : DyK n g h) (e : sX15_tryAll_84 F k_7 k_50 h x0 x1 x2 x3 x4 x5 = some o) : DyK n g o := by
  unfold sX15_tryAll_84 at e
  replace e := cl_s e
  obtain ⟨o_1, eo_1, e⟩ := e
  have ko_1 : DyK n g o_1.2 := dk_X15_manOf k eo_1
  replace e := cl_s e
  obtain ⟨r_2, _, e⟩ := e
  replace e := br_s e
  rcases e with ⟨_, e⟩ | ⟨_, e⟩
  · replace e := cl_s e
    obtain ⟨o_4, eo_4, e⟩ := e
    have ko_4 : DyK n g o_4 := dk_X15_tryCastling ko_1 eo_4
    exact dk_X15_tryAll_108 R_7 R_50 ko_4 e
  · exact dk_X15_tryAll_108 R_7 R_50 ko_1 e
theorem dk_X15_trySteps_223 {n : Nat} {g : Hp} {F : Nat} {o : Hp} {h : Hp} (k : DyK n g h) (e : sX15_trySteps_223 F h = some o) : DyK n g o := by
  unfold sX15_trySteps_223 at e
  rw [← Option.some.inj e]; exact k
theorem dk_X15_trySteps_207 {n : Nat} {g : Hp} {F : Nat} {o : Hp} {x2 : Int32} {x3 : Int32} {x4 : Int32} {x5 : Nat} {x6 : Int32} {x7 : Int32} {x8 : Int32} {h : Hp} (k : DyK n g h) (e : sX15_trySteps_207 F h x2 x3 x4 x5 x6 x7 x8 = some o) : DyK n g o := by
  unfold sX15_trySteps_207 at e
  replace e := cl_s e
  obtain ⟨o_1, eo_1, e⟩ := e
  have ko_1 : DyK n g o_1 := dk_X13_add k eo_1
  exact dk_X15_trySteps_223 ko_1 e
theorem dk_X15_trySteps_152 {n : Nat} {g : Hp} {F : Nat} {o : Hp} : ∀ (f : Nat) {h : Hp} {x0 : Nat} {x2 : Int32} {x3 : Int32} {x4 : Int32} {x5 : Nat} {x6 : Int32} {x7 : Int32} {x8 : Int32} {x9 : Int32}, DyK n g h → sX15_trySteps_152 F f h x0 x2 x3 x4 x5 x6 x7 x8 x9 = some o → DyK n g o := by
  intro f
  induction f with
  | zero => intro h x0 x2 x3 x4 x5 x6 x7 x8 x9 _ e; exact absurd e (by rw [sX15_trySteps_152]; exact fun z => nomatch z)
  | succ f ih =>
    intro h x0 x2 x3 x4 x5 x6 x7 x8 x9 k e
    rw [sX15_trySteps_152] at e
    replace e := cl_s e
    obtain ⟨r_1, _, e⟩ := e
    replace e := cl_s e
    obtain ⟨r_2, _, e⟩ := e
    replace e := (gd_s e).2
    replace e := br_s e
    rcases e with ⟨_, e⟩ | ⟨_, e⟩
    · exact dk_X15_trySteps_223 k e
    · replace e := cl_s e
      obtain ⟨r_5, _, e⟩ := e
      replace e := cl_s e
      obtain ⟨r_6, _, e⟩ := e
      replace e := (gd_s e).2
      replace e := cl_s e
      obtain ⟨o_8, eo_8, e⟩ := e
      have ko_8 : DyK n g o_8 := dk_X13_add k eo_8
      replace e := nm_s e
      obtain ⟨v_9, wv_9, e⟩ := e
      exact ih ko_8 e
theorem dk_X15_trySteps_149 {n : Nat} {g : Hp} {F : Nat} {o : Hp} {x0 : Nat} {x2 : Int32} {x3 : Int32} {x4 : Int32} {x5 : Nat} {x6 : Int32} {x7 : Int32} {x8 : Int32} {h : Hp} (k : DyK n g h) (e : sX15_trySteps_149 F h x0 x2 x3 x4 x5 x6 x7 x8 = some o) : DyK n g o := by
  unfold sX15_trySteps_149 at e
  exact dk_X15_trySteps_152 F k e
theorem dk_X15_trySteps_106 {n : Nat} {g : Hp} {F : Nat} {o : Hp} {x0 : Nat} {x1 : Nat} {x2 : Int32} {x3 : Int32} {x4 : Int32} {x5 : Nat} {x6 : Int32} {x7 : Int32} {t0 : Int32} {h : Hp} (k : DyK n g h) (e : sX15_trySteps_106 F h x0 x1 x2 x3 x4 x5 x6 x7 t0 = some o) : DyK n g o := by
  unfold sX15_trySteps_106 at e
  replace e := cl_s e
  obtain ⟨o_1, eo_1, e⟩ := e
  have ko_1 : DyK n g o_1.2 := dk_X15_becomesOthers k eo_1
  replace e := br_s e
  rcases e with ⟨_, e⟩ | ⟨_, e⟩
  · exact dk_X15_trySteps_207 ko_1 e
  · replace e := cl_s e
    obtain ⟨o_3, eo_3, e⟩ := e
    have ko_3 : DyK n g o_3.2 := dk_X15_rankFor ko_1 eo_3
    replace e := br_s e
    rcases e with ⟨_, e⟩ | ⟨_, e⟩
    · replace e := cl_s e
      obtain ⟨r_5, _, e⟩ := e
      replace e := br_s e
      rcases e with ⟨_, e⟩ | ⟨_, e⟩
      · exact dk_X15_trySteps_149 ko_3 e
      · replace e := br_s e
        rcases e with ⟨_, e⟩ | ⟨_, e⟩
        · exact dk_X15_trySteps_149 ko_3 e
        · exact dk_X15_trySteps_207 ko_3 e
    · exact dk_X15_trySteps_207 ko_3 e
theorem dk_X15_trySteps_90 {n : Nat} {g : Hp} {F : Nat} {o : Hp} {x0 : Nat} {x1 : Nat} {x2 : Int32} {x3 : Int32} {x4 : Int32} {x5 : Nat} {x6 : Int32} {t0 : Int32} {h : Hp} (k : DyK n g h) (e : sX15_trySteps_90 F h x0 x1 x2 x3 x4 x5 x6 t0 = some o) : DyK n g o := by
  unfold sX15_trySteps_90 at e
  replace e := cl_s e
  obtain ⟨r_1, _, e⟩ := e
  replace e := (gd_s e).2
  replace e := br_s e
  rcases e with ⟨_, e⟩ | ⟨_, e⟩
  · exact dk_X15_trySteps_106 k e
  · exact dk_X15_trySteps_106 k e
theorem dk_X15_trySteps_89 {n : Nat} {g : Hp} {F : Nat} {o : Hp} {x0 : Nat} {x1 : Nat} {x2 : Int32} {x3 : Int32} {x4 : Int32} {x5 : Nat} {x6 : Int32} {h : Hp} (k : DyK n g h) (e : sX15_trySteps_89 F h x0 x1 x2 x3 x4 x5 x6 = some o) : DyK n g o := by
  unfold sX15_trySteps_89 at e
  exact dk_X15_trySteps_90 k e
theorem dk_X15_trySteps_48 {n : Nat} {g : Hp} {F : Nat} {o : Hp} {x0 : Nat} {x1 : Nat} {x2 : Int32} {x3 : Int32} {x4 : Int32} {x5 : Nat} {t0 : Int32} {h : Hp} (k : DyK n g h) (e : sX15_trySteps_48 F h x0 x1 x2 x3 x4 x5 t0 = some o) : DyK n g o := by
  unfold sX15_trySteps_48 at e
  replace e := cl_s e
  obtain ⟨r_1, _, e⟩ := e
  replace e := cl_s e
  obtain ⟨r_2, _, e⟩ := e
  replace e := cl_s e
  obtain ⟨r_3, _, e⟩ := e
  replace e := (gd_s e).2
  replace e := (gd_s e).2
  replace e := br_s e
  rcases e with ⟨_, e⟩ | ⟨_, e⟩
  · exact dk_X15_trySteps_89 k e
  · replace e := cl_s e
    obtain ⟨r_7, _, e⟩ := e
    replace e := (gd_s e).2
    replace e := br_s e
    rcases e with ⟨_, e⟩ | ⟨_, e⟩
    · exact dk_X15_trySteps_89 k e
    · replace e := cl_s e
      obtain ⟨r_10, _, e⟩ := e
      replace e := (gd_s e).2
      exact dk_X15_trySteps_90 k e
theorem dk_X15_trySteps {n : Nat} {g : Hp} {F : Nat} {o : Hp} {x0 : Nat} {x1 : Nat} {x2 : Int32} {x3 : Int32} {x4 : Int32} {x5 : Nat} {h : Hp} (k : DyK n g h) (e : sX15_trySteps F h x0 x1 x2 x3 x4 x5 = some o) : DyK n g o := by
  unfold sX15_trySteps at e
  replace e := cl_s e
  obtain ⟨r_1, _, e⟩ := e
  replace e := (gd_s e).2
  replace e := br_s e
  rcases e with ⟨_, e⟩ | ⟨_, e⟩
  · replace e := cl_s e
    obtain ⟨r_4, _, e⟩ := e
    replace e := (gd_s e).2
    replace e := br_s e
    rcases e with ⟨_, e⟩ | ⟨_, e⟩
    · exact dk_X15_trySteps_48 k e
    · replace e := cl_s e
      obtain ⟨r_7, _, e⟩ := e
      replace e := (gd_s e).2
      replace e := cl_s e
      obtain ⟨o_9, eo_9, e⟩ := e
      have ko_9 : DyK n g o_9.2 := dk_X15_manOf k eo_9
      exact dk_X15_trySteps_48 ko_9 e
  · replace e := cl_s e
    obtain ⟨r_10, _, e⟩ := e
    replace e := cl_s e
    obtain ⟨r_11, _, e⟩ := e
    replace e := (gd_s e).2
    replace e := (gd_s e).2
    replace e := cl_s e
    obtain ⟨o_14, eo_14, e⟩ := e
    have ko_14 : DyK n g o_14.2 := dk_X15_manOf k eo_14
    exact dk_X15_trySteps_48 ko_14 e
theorem dk_X15_tryAll_50 {n : Nat} {g : Hp} {F : Nat} {o : Hp} {k_7 : Hp → Nat → Nat → Nat → Int32 → Option (Hp)} (R_7 : ∀ {h : Hp} {y1 : Nat} {y2 : Nat} {y3 : Nat} {y4 : Int32}, DyK n g h → k_7 h y1 y2 y3 y4 = some o → DyK n g o) : ∀ (f : Nat) {h : Hp} {x0 : Nat} {x1 : Nat} {x2 : Nat} {x3 : Int32} {x4 : Int32} {x5 : Int32}, DyK n g h → sX15_tryAll_50 F k_7 f h x0 x1 x2 x3 x4 x5 = some o → DyK n g o := by
  intro f
  induction f with
  | zero => intro h x0 x1 x2 x3 x4 x5 _ e; exact absurd e (by rw [sX15_tryAll_50]; exact fun z => nomatch z)
  | succ f ih =>
    intro h x0 x1 x2 x3 x4 x5 k e
    rw [sX15_tryAll_50] at e
    replace e := br_s e
    rcases e with ⟨_, e⟩ | ⟨_, e⟩
    · exact dk_X15_tryAll_114 R_7 k e
    · replace e := cl_s e
      obtain ⟨r_2, _, e⟩ := e
      replace e := (gd_s e).2
      replace e := br_s e
      rcases e with ⟨_, e⟩ | ⟨_, e⟩
      · exact dk_X15_tryAll_84 R_7 (fun k e => ih k e) k e
      · replace e := cl_s e
        obtain ⟨o_5, eo_5, e⟩ := e
        have ko_5 : DyK n g o_5.2 := dk_X15_manOf k eo_5
        replace e := cl_s e
        obtain ⟨o_6, eo_6, e⟩ := e
        have ko_6 : DyK n g o_6 := dk_X15_trySteps ko_5 eo_6
        exact dk_X15_tryAll_84 R_7 (fun k e => ih k e) ko_6 e
theorem dk_X15_tryAll_7 {n : Nat} {g : Hp} {F : Nat} {o : Hp} : ∀ (f : Nat) {h : Hp} {x0 : Nat} {x1 : Nat} {x2 : Nat} {x3 : Int32}, DyK n g h → sX15_tryAll_7 F f h x0 x1 x2 x3 = some o → DyK n g o := by
  intro f
  induction f with
  | zero => intro h x0 x1 x2 x3 _ e; exact absurd e (by rw [sX15_tryAll_7]; exact fun z => nomatch z)
  | succ f ih =>
    intro h x0 x1 x2 x3 k e
    rw [sX15_tryAll_7] at e
    replace e := br_s e
    rcases e with ⟨_, e⟩ | ⟨_, e⟩
    · exact dk_X15_tryAll_122 F k e
    · replace e := cl_s e
      obtain ⟨r_2, _, e⟩ := e
      replace e := (gd_s e).2
      replace e := nm_s e
      obtain ⟨v_4, wv_4, e⟩ := e
      replace e := br_s e
      rcases e with ⟨_, e⟩ | ⟨_, e⟩
      · exact dk_X15_tryAll_114 (fun k e => ih k e) k e
      · replace e := cl_s e
        obtain ⟨o_6, eo_6, e⟩ := e
        have ko_6 : DyK n g o_6.2 := dk_X15_sideOf k eo_6
        replace e := br_s e
        rcases e with ⟨_, e⟩ | ⟨_, e⟩
        · replace e := cl_s e
          obtain ⟨o_8, eo_8, e⟩ := e
          have ko_8 : DyK n g o_8 := dk_X15_lead ko_6 eo_8
          exact dk_X15_tryAll_50 (fun k e => ih k e) F ko_8 e
        · exact dk_X15_tryAll_114 (fun k e => ih k e) ko_6 e
theorem dk_X15_tryAll {n : Nat} {g : Hp} {F : Nat} {o : Hp} {x0 : Nat} {x1 : Nat} {x2 : Nat} {h : Hp} (k : DyK n g h) (e : sX15_tryAll F h x0 x1 x2 = some o) : DyK n g o := by
  unfold sX15_tryAll at e
  replace e := nm_s e
  obtain ⟨h_1, wh_1, e⟩ := e
  have kh_1 : DyK n g h_1 := by rw [wh_1]; exact dk_wI k
  exact dk_X15_tryAll_7 F kh_1 e
theorem dk_X15_legal_152 {n : Nat} {g : Hp} {F : Nat} {o : Hp} {h : Hp} (k : DyK n g h) (e : sX15_legal_152 F h = some o) : DyK n g o := by
  unfold sX15_legal_152 at e
  rw [← Option.some.inj e]; exact k
theorem dk_X15_legal_141 {n : Nat} {g : Hp} {F : Nat} {o : Hp} {x2 : Nat} {x3 : Int32} {x5 : Int32} {k_110 : Hp → Nat → Int32 → Int32 → Option (Hp)} (R_110 : ∀ {h : Hp} {y1 : Nat} {y2 : Int32} {y3 : Int32}, DyK n g h → k_110 h y1 y2 y3 = some o → DyK n g o) {h : Hp} (k : DyK n g h) (e : sX15_legal_141 F k_110 h x2 x3 x5 = some o) : DyK n g o := by
  unfold sX15_legal_141 at e
  replace e := nm_s e
  obtain ⟨v_1, wv_1, e⟩ := e
  exact R_110 k e
theorem dk_X13_set {n : Nat} {g : Hp} {o : Hp} {x0 : Nat} {x1 : Int32} {x2 : Nat} {x3 : Int32} {h : Hp} (k : DyK n g h) (e : sX13_set h x0 x1 x2 x3 = some o) : DyK n g o := by
  unfold sX13_set at e
  replace e := cl_s e
  obtain ⟨r_1, _, e⟩ := e
  replace e := cl_s e
  obtain ⟨r_2, _, e⟩ := e
  replace e := (gd_s e).2
  replace e := (gd_s e).2
  replace e := nm_s e
  obtain ⟨h_5, wh_5, e⟩ := e
  have kh_5 : DyK n g h_5 := by rw [wh_5]; exact dk_wI k
  replace e := cl_s e
  obtain ⟨r_6, _, e⟩ := e
  replace e := cl_s e
  obtain ⟨r_7, _, e⟩ := e
  replace e := (gd_s e).2
  replace e := (gd_s e).2
  replace e := nm_s e
  obtain ⟨h_10, wh_10, e⟩ := e
  have kh_10 : DyK n g h_10 := by rw [wh_10]; exact dk_wI kh_5
  replace e := cl_s e
  obtain ⟨r_11, _, e⟩ := e
  replace e := cl_s e
  obtain ⟨r_12, _, e⟩ := e
  replace e := (gd_s e).2
  replace e := (gd_s e).2
  replace e := nm_s e
  obtain ⟨h_15, wh_15, e⟩ := e
  have kh_15 : DyK n g h_15 := by rw [wh_15]; exact dk_wI kh_10
  replace e := cl_s e
  obtain ⟨r_16, _, e⟩ := e
  replace e := cl_s e
  obtain ⟨r_17, _, e⟩ := e
  replace e := (gd_s e).2
  replace e := (gd_s e).2
  replace e := nm_s e
  obtain ⟨h_20, wh_20, e⟩ := e
  have kh_20 : DyK n g h_20 := by rw [wh_20]; exact dk_wI kh_15
  replace e := cl_s e
  obtain ⟨r_21, _, e⟩ := e
  replace e := cl_s e
  obtain ⟨r_22, _, e⟩ := e
  replace e := (gd_s e).2
  replace e := (gd_s e).2
  replace e := nm_s e
  obtain ⟨h_25, wh_25, e⟩ := e
  have kh_25 : DyK n g h_25 := by rw [wh_25]; exact dk_wI kh_20
  replace e := cl_s e
  obtain ⟨r_26, _, e⟩ := e
  replace e := cl_s e
  obtain ⟨r_27, _, e⟩ := e
  replace e := (gd_s e).2
  replace e := (gd_s e).2
  replace e := nm_s e
  obtain ⟨h_30, wh_30, e⟩ := e
  have kh_30 : DyK n g h_30 := by rw [wh_30]; exact dk_wI kh_25
  replace e := cl_s e
  obtain ⟨r_31, _, e⟩ := e
  replace e := cl_s e
  obtain ⟨r_32, _, e⟩ := e
  replace e := (gd_s e).2
  replace e := (gd_s e).2
  replace e := nm_s e
  obtain ⟨h_35, wh_35, e⟩ := e
  have kh_35 : DyK n g h_35 := by rw [wh_35]; exact dk_wI kh_30
  rw [← Option.some.inj e]; exact kh_35
theorem dk_X15_legal_110 {n : Nat} {g : Hp} {F : Nat} {o : Hp} : ∀ (f : Nat) {h : Hp} {x2 : Nat} {x3 : Int32} {x5 : Int32}, DyK n g h → sX15_legal_110 F f h x2 x3 x5 = some o → DyK n g o := by
  intro f
  induction f with
  | zero => intro h x2 x3 x5 _ e; exact absurd e (by rw [sX15_legal_110]; exact fun z => nomatch z)
  | succ f ih =>
    intro h x2 x3 x5 k e
    rw [sX15_legal_110] at e
    replace e := br_s e
    rcases e with ⟨_, e⟩ | ⟨_, e⟩
    · replace e := nm_s e
      obtain ⟨h_2, wh_2, e⟩ := e
      have kh_2 : DyK n g h_2 := by rw [wh_2]; exact dk_wI k
      exact dk_X15_legal_152 kh_2 e
    · replace e := cl_s e
      obtain ⟨r_3, _, e⟩ := e
      replace e := (gd_s e).2
      replace e := br_s e
      rcases e with ⟨_, e⟩ | ⟨_, e⟩
      · exact dk_X15_legal_141 (fun k e => ih k e) k e
      · replace e := cl_s e
        obtain ⟨o_6, eo_6, e⟩ := e
        have ko_6 : DyK n g o_6 := dk_X13_set k eo_6
        replace e := nm_s e
        obtain ⟨v_7, wv_7, e⟩ := e
        exact dk_X15_legal_141 (fun k e => ih k e) ko_6 e
theorem dk_X15_come {n : Nat} {g : Hp} {o : Hp} {x0 : Nat} {x1 : Nat} {x2 : Int32} {x3 : Int32} {h : Hp} (k : DyK n g h) (e : sX15_come h x0 x1 x2 x3 = some o) : DyK n g o := by
  unfold sX15_come at e
  replace e := cl_s e
  obtain ⟨r_1, _, e⟩ := e
  replace e := (gd_s e).2
  replace e := nm_s e
  obtain ⟨h_3, wh_3, e⟩ := e
  have kh_3 : DyK n g h_3 := by rw [wh_3]; exact dk_wI k
  replace e := nm_s e
  obtain ⟨h_4, wh_4, e⟩ := e
  have kh_4 : DyK n g h_4 := by rw [wh_4]; exact dk_wJ kh_3
  rw [← Option.some.inj e]; exact kh_4
theorem dk_X15_leave {n : Nat} {g : Hp} {o : Hp} {x0 : Nat} {x1 : Nat} {x2 : Int32} {h : Hp} (k : DyK n g h) (e : sX15_leave h x0 x1 x2 = some o) : DyK n g o := by
  unfold sX15_leave at e
  replace e := cl_s e
  obtain ⟨r_1, _, e⟩ := e
  replace e := (gd_s e).2
  replace e := nm_s e
  obtain ⟨h_3, wh_3, e⟩ := e
  have kh_3 : DyK n g h_3 := by rw [wh_3]; exact dk_wI k
  replace e := nm_s e
  obtain ⟨h_4, wh_4, e⟩ := e
  have kh_4 : DyK n g h_4 := by rw [wh_4]; exact dk_wJ kh_3
  rw [← Option.some.inj e]; exact kh_4
theorem dk_X15_make_626 {n : Nat} {g : Hp} {F : Nat} {o : Hp} {h : Hp} (k : DyK n g h) (e : sX15_make_626 F h = some o) : DyK n g o := by
  unfold sX15_make_626 at e
  rw [← Option.some.inj e]; exact k
theorem dk_X15_make_582 {n : Nat} {g : Hp} {F : Nat} {o : Hp} {x0 : Nat} {x4 : Nat} {x5 : Int32} {t0 : Int32} {h : Hp} (k : DyK n g h) (e : sX15_make_582 F h x0 x4 x5 t0 = some o) : DyK n g o := by
  unfold sX15_make_582 at e
  replace e := br_s e
  rcases e with ⟨_, e⟩ | ⟨_, e⟩
  · exact dk_X15_make_626 k e
  · replace e := cl_s e
    obtain ⟨o_2, eo_2, e⟩ := e
    have ko_2 : DyK n g o_2.2 := dk_X15_isAttacked k eo_2
    replace e := br_s e
    rcases e with ⟨_, e⟩ | ⟨_, e⟩
    · exact dk_X15_make_626 ko_2 e
    · replace e := cl_s e
      obtain ⟨r_4, _, e⟩ := e
      replace e := cl_s e
      obtain ⟨r_5, _, e⟩ := e
      replace e := (gd_s e).2
      replace e := (gd_s e).2
      replace e := nm_s e
      obtain ⟨h_8, wh_8, e⟩ := e
      have kh_8 : DyK n g h_8 := by rw [wh_8]; exact dk_wI ko_2
      exact dk_X15_make_626 kh_8 e
theorem dk_X15_make_546 {n : Nat} {g : Hp} {F : Nat} {o : Hp} {x0 : Nat} {x4 : Nat} {x5 : Int32} {t0 : Int32} {t1 : Nat} {h : Hp} (k : DyK n g h) (e : sX15_make_546 F h x0 x4 x5 t0 t1 = some o) : DyK n g o := by
  unfold sX15_make_546 at e
  replace e := nm_s e
  obtain ⟨h_1, wh_1, e⟩ := e
  have kh_1 : DyK n g h_1 := by rw [wh_1]; exact dk_wI k
  replace e := nm_s e
  obtain ⟨h_2, wh_2, e⟩ := e
  have kh_2 : DyK n g h_2 := by rw [wh_2]; exact dk_wI kh_1
  replace e := cl_s e
  obtain ⟨r_3, _, e⟩ := e
  replace e := br_s e
  rcases e with ⟨_, e⟩ | ⟨_, e⟩
  · exact dk_X15_make_582 kh_2 e
  · replace e := cl_s e
    obtain ⟨o_5, eo_5, e⟩ := e
    have ko_5 : DyK n g o_5.2 := dk_X15_royalOf kh_2 eo_5
    exact dk_X15_make_582 ko_5 e
theorem dk_X15_make_530 {n : Nat} {g : Hp} {F : Nat} {o : Hp} {x0 : Nat} {x4 : Nat} {x5 : Int32} {t0 : Nat} {h : Hp} (k : DyK n g h) (e : sX15_make_530 F h x0 x4 x5 t0 = some o) : DyK n g o := by
  unfold sX15_make_530 at e
  exact dk_X15_make_546 k e
theorem dk_X15_make_508 {n : Nat} {g : Hp} {F : Nat} {o : Hp} {x0 : Nat} {x1 : Nat} {x4 : Nat} {x5 : Int32} {x8 : Int32} {x9 : Int32} {x10 : Int32} {h : Hp} (k : DyK n g h) (e : sX15_make_508 F h x0 x1 x4 x5 x8 x9 x10 = some o) : DyK n g o := by
  unfold sX15_make_508 at e
  replace e := br_s e
  rcases e with ⟨_, e⟩ | ⟨_, e⟩
  · replace e := br_s e
    rcases e with ⟨_, e⟩ | ⟨_, e⟩
    · exact dk_X15_make_530 k e
    · replace e := cl_s e
      obtain ⟨o_3, eo_3, e⟩ := e
      have ko_3 : DyK n g o_3.2 := dk_X15_becomesOthers k eo_3
      replace e := br_s e
      rcases e with ⟨_, e⟩ | ⟨_, e⟩
      · exact dk_X15_make_546 ko_3 e
      · exact dk_X15_make_530 ko_3 e
  · exact dk_X15_make_530 k e
theorem dk_X15_make_415 {n : Nat} {g : Hp} {F : Nat} {o : Hp} : ∀ (f : Nat) {h : Hp} {x0 : Nat} {x1 : Nat} {x4 : Nat} {x5 : Int32} {x6 : Int32} {x7 : Int32} {x8 : Int32} {x9 : Int32} {x10 : Int32} {x11 : Int32} {x12 : Int32}, DyK n g h → sX15_make_415 F f h x0 x1 x4 x5 x6 x7 x8 x9 x10 x11 x12 = some o → DyK n g o := by
  intro f
  induction f with
  | zero => intro h x0 x1 x4 x5 x6 x7 x8 x9 x10 x11 x12 _ e; exact absurd e (by rw [sX15_make_415]; exact fun z => nomatch z)
  | succ f ih =>
    intro h x0 x1 x4 x5 x6 x7 x8 x9 x10 x11 x12 k e
    rw [sX15_make_415] at e
    replace e := br_s e
    rcases e with ⟨_, e⟩ | ⟨_, e⟩
    · exact dk_X15_make_508 k e
    · replace e := (gd_s e).2
      replace e := (gd_s e).2
      replace e := (gd_s e).2
      replace e := (gd_s e).2
      replace e := nm_s e
      obtain ⟨v_6, wv_6, e⟩ := e
      replace e := (gd_s e).2
      replace e := (gd_s e).2
      replace e := (gd_s e).2
      replace e := (gd_s e).2
      replace e := nm_s e
      obtain ⟨v_11, wv_11, e⟩ := e
      replace e := cl_s e
      obtain ⟨r_12, _, e⟩ := e
      replace e := (gd_s e).2
      replace e := nm_s e
      obtain ⟨h_14, wh_14, e⟩ := e
      have kh_14 : DyK n g h_14 := by rw [wh_14]; exact dk_wI k
      replace e := nm_s e
      obtain ⟨v_15, wv_15, e⟩ := e
      exact ih kh_14 e
theorem dk_X15_make_365 {n : Nat} {g : Hp} {F : Nat} {o : Hp} {x0 : Nat} {x1 : Nat} {x2 : Nat} {x3 : Int32} {x4 : Nat} {x5 : Int32} {x6 : Int32} {x7 : Int32} {x8 : Int32} {x9 : Int32} {x10 : Int32} {h : Hp} (k : DyK n g h) (e : sX15_make_365 F h x0 x1 x2 x3 x4 x5 x6 x7 x8 x9 x10 = some o) : DyK n g o := by
  unfold sX15_make_365 at e
  replace e := cl_s e
  obtain ⟨r_1, _, e⟩ := e
  replace e := (gd_s e).2
  replace e := br_s e
  rcases e with ⟨_, e⟩ | ⟨_, e⟩
  · exact dk_X15_make_508 k e
  · replace e := cl_s e
    obtain ⟨r_4, _, e⟩ := e
    replace e := (gd_s e).2
    replace e := br_s e
    rcases e with ⟨_, e⟩ | ⟨_, e⟩
    · exact dk_X15_make_508 k e
    · replace e := cl_s e
      obtain ⟨r_7, _, e⟩ := e
      replace e := (gd_s e).2
      replace e := nm_s e
      obtain ⟨h_9, wh_9, e⟩ := e
      have kh_9 : DyK n g h_9 := by rw [wh_9]; exact dk_wI k
      replace e := cl_s e
      obtain ⟨r_10, _, e⟩ := e
      replace e := (gd_s e).2
      replace e := nm_s e
      obtain ⟨h_12, wh_12, e⟩ := e
      have kh_12 : DyK n g h_12 := by rw [wh_12]; exact dk_wI kh_9
      replace e := cl_s e
      obtain ⟨r_13, _, e⟩ := e
      replace e := (gd_s e).2
      replace e := nm_s e
      obtain ⟨v_15, wv_15, e⟩ := e
      exact dk_X15_make_415 F kh_12 e
