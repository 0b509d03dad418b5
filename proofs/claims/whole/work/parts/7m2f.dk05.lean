/-! what stands where stays so: printed -/
theorem dk_X15_step_20 {n : Nat} {g : Hp} {F : Nat} {o : Hp} {x1 : Int32} {t0 : Nat} {t1 : Int32} {t2 : Nat} {t3 : Nat} {t4 : Nat} {h : Hp} (k : DyK n g h) (e : sX15_step_20 F h (n + 513) x1 t0 t1 t2 t3 t4 = some o) : DyK n g o := by
  unfold sX15_step_20 at e
  replace e := cl_s e
  obtain ⟨o_1, eo_1, e⟩ := e
  have ko_1 : DyK n g o_1 := dk_X15_make k eo_1
  exact dk_X15_step_23 ko_1 e
theorem dk_X15_step_6 {n : Nat} {g : Hp} {F : Nat} {o : Hp} {x1 : Int32} {x2 : Int32} {t0 : Nat} {t1 : Nat} {h : Hp} (k : DyK n g h) (e : sX15_step_6 F h (n + 513) x1 x2 t0 t1 = some o) : DyK n g o := by
  unfold sX15_step_6 at e
  replace e := cl_s e
  obtain ⟨r_1, _, e⟩ := e
  replace e := (gd_s e).2
  replace e := cl_s e
  obtain ⟨r_3, _, e⟩ := e
  replace e := cl_s e
  obtain ⟨o_4, eo_4, e⟩ := e
  have ko_4 : DyK n g o_4.2 := dk_X15_deepBoard k eo_4
  exact dk_X15_step_20 ko_4 e
theorem dk_X15_step {n : Nat} {g : Hp} {F : Nat} {o : Hp} {x1 : Int32} {x2 : Int32} {h : Hp} (k : DyK n g h) (e : sX15_step F h (n + 513) x1 x2 = some o) : DyK n g o := by
  unfold sX15_step at e
  replace e := cl_s e
  obtain ⟨o_1, eo_1, e⟩ := e
  have ko_1 : DyK n g o_1.2 := dk_X15_deepBoard k eo_1
  exact dk_X15_step_6 ko_1 e
theorem dk_X15_isGoal_83 {n : Nat} {g : Hp} {F : Nat} {o : Int32 × Hp} {t0 : Int32} {h : Hp} (k : DyK n g h) (e : sX15_isGoal_83 F h t0 = some o) : DyK n g o.2 := by
  unfold sX15_isGoal_83 at e
  replace e := (gd_s e).2
  rw [← Option.some.inj e]; exact k
theorem dk_X15_isGoal_82 {n : Nat} {g : Hp} {F : Nat} {o : Int32 × Hp} {h : Hp} (k : DyK n g h) (e : sX15_isGoal_82 F h = some o) : DyK n g o.2 := by
  unfold sX15_isGoal_82 at e
  exact dk_X15_isGoal_83 k e
theorem dk_X15_isGoal_20 {n : Nat} {g : Hp} {F : Nat} {o : Int32 × Hp} {x2 : Int32} {x3 : Nat} {t0 : Int32} {h : Hp} (k : DyK n g h) (e : sX15_isGoal_20 F h (n + 513) x2 x3 t0 = some o) : DyK n g o.2 := by
  unfold sX15_isGoal_20 at e
  replace e := br_s e
  rcases e with ⟨_, e⟩ | ⟨_, e⟩
  · replace e := br_s e
    rcases e with ⟨_, e⟩ | ⟨_, e⟩
    · exact dk_X15_isGoal_83 k e
    · exact dk_X15_isGoal_83 k e
  · replace e := br_s e
    rcases e with ⟨_, e⟩ | ⟨_, e⟩
    · replace e := br_s e
      rcases e with ⟨_, e⟩ | ⟨_, e⟩
      · exact dk_X15_isGoal_83 k e
      · exact dk_X15_isGoal_83 k e
    · replace e := br_s e
      rcases e with ⟨_, e⟩ | ⟨_, e⟩
      · exact dk_X15_isGoal_82 k e
      · replace e := br_s e
        rcases e with ⟨_, e⟩ | ⟨_, e⟩
        · exact dk_X15_isGoal_83 k e
        · exact dk_X15_isGoal_82 k e
theorem dk_X15_isGoal_5 {n : Nat} {g : Hp} {F : Nat} {o : Int32 × Hp} {x1 : Int32} {x2 : Int32} {t0 : Nat} {h : Hp} (k : DyK n g h) (e : sX15_isGoal_5 F h (n + 513) x1 x2 t0 = some o) : DyK n g o.2 := by
  unfold sX15_isGoal_5 at e
  replace e := cl_s e
  obtain ⟨r_1, _, e⟩ := e
  replace e := (gd_s e).2
  replace e := cl_s e
  obtain ⟨r_3, _, e⟩ := e
  replace e := cl_s e
  obtain ⟨o_4, eo_4, e⟩ := e
  have ko_4 : DyK n g o_4.2 := dk_X15_endedBy k eo_4
  exact dk_X15_isGoal_20 ko_4 e
theorem dk_X15_isGoal {n : Nat} {g : Hp} {F : Nat} {o : Int32 × Hp} {x1 : Int32} {x2 : Int32} {h : Hp} (k : DyK n g h) (e : sX15_isGoal F h (n + 513) x1 x2 = some o) : DyK n g o.2 := by
  unfold sX15_isGoal at e
  replace e := cl_s e
  obtain ⟨o_1, eo_1, e⟩ := e
  have ko_1 : DyK n g o_1.2 := dk_X15_deepBoard k eo_1
  exact dk_X15_isGoal_5 ko_1 e
theorem dk_X15_isAnswered_41 {n : Nat} {g : Hp} {F : Nat} {o : Int32 × Hp} {r_X15_isAnswered : Hp → Nat → Int32 → Int32 → Int32 → Int32 → Int32 → Option (Int32 × Hp)} (R_X15_isAnswered : ∀ {h : Hp} {y2 : Int32} {y3 : Int32} {y4 : Int32} {y5 : Int32} {y6 : Int32} {o : Int32 × Hp}, DyK n g h → r_X15_isAnswered h (n + 513) y2 y3 y4 y5 y6 = some o → DyK n g o.2) {r_X15_isMove : Hp → Nat → Int32 → Int32 → Int32 → Int32 → Int32 → Option (Int32 × Hp)} (R_X15_isMove : ∀ {h : Hp} {y2 : Int32} {y3 : Int32} {y4 : Int32} {y5 : Int32} {y6 : Int32} {o : Int32 × Hp}, DyK n g h → r_X15_isMove h (n + 513) y2 y3 y4 y5 y6 = some o → DyK n g o.2) {h : Hp} (k : DyK n g h) (e : sX15_isAnswered_41 F r_X15_isAnswered r_X15_isMove h = some o) : DyK n g o.2 := by
  unfold sX15_isAnswered_41 at e
  rw [← Option.some.inj e]; exact k
theorem dk_X15_hasEnded_26 {n : Nat} {g : Hp} {F : Nat} {o : Int32 × Hp} {t0 : Int32} {h : Hp} (k : DyK n g h) (e : sX15_hasEnded_26 F h t0 = some o) : DyK n g o.2 := by
  unfold sX15_hasEnded_26 at e
  replace e := (gd_s e).2
  rw [← Option.some.inj e]; exact k
theorem dk_X15_hasEnded_18 {n : Nat} {g : Hp} {F : Nat} {o : Int32 × Hp} {t0 : Int32} {h : Hp} (k : DyK n g h) (e : sX15_hasEnded_18 F h t0 = some o) : DyK n g o.2 := by
  unfold sX15_hasEnded_18 at e
  replace e := br_s e
  rcases e with ⟨_, e⟩ | ⟨_, e⟩
  · exact dk_X15_hasEnded_26 k e
  · exact dk_X15_hasEnded_26 k e
theorem dk_X15_hasEnded_6 {n : Nat} {g : Hp} {F : Nat} {o : Int32 × Hp} {x1 : Int32} {t0 : Nat} {t1 : Nat} {h : Hp} (k : DyK n g h) (e : sX15_hasEnded_6 F h (n + 513) x1 t0 t1 = some o) : DyK n g o.2 := by
  unfold sX15_hasEnded_6 at e
  replace e := cl_s e
  obtain ⟨r_1, _, e⟩ := e
  replace e := (gd_s e).2
  replace e := cl_s e
  obtain ⟨r_3, _, e⟩ := e
  replace e := cl_s e
  obtain ⟨o_4, eo_4, e⟩ := e
  have ko_4 : DyK n g o_4.2 := dk_X15_endedBy k eo_4
  exact dk_X15_hasEnded_18 ko_4 e
theorem dk_X15_hasEnded {n : Nat} {g : Hp} {F : Nat} {o : Int32 × Hp} {x1 : Int32} {h : Hp} (k : DyK n g h) (e : sX15_hasEnded F h (n + 513) x1 = some o) : DyK n g o.2 := by
  unfold sX15_hasEnded at e
  replace e := cl_s e
  obtain ⟨o_1, eo_1, e⟩ := e
  have ko_1 : DyK n g o_1.2 := dk_X15_deepBoard k eo_1
  exact dk_X15_hasEnded_6 ko_1 e
theorem dk_X15_isAnswered_78 {n : Nat} {g : Hp} {F : Nat} {o : Int32 × Hp} {x1 : Int32} {x3 : Int32} {x4 : Int32} {x5 : Int32} {x6 : Int32} {t0 : Int32} {r_X15_isAnswered : Hp → Nat → Int32 → Int32 → Int32 → Int32 → Int32 → Option (Int32 × Hp)} (R_X15_isAnswered : ∀ {h : Hp} {y2 : Int32} {y3 : Int32} {y4 : Int32} {y5 : Int32} {y6 : Int32} {o : Int32 × Hp}, DyK n g h → r_X15_isAnswered h (n + 513) y2 y3 y4 y5 y6 = some o → DyK n g o.2) {r_X15_isMove : Hp → Nat → Int32 → Int32 → Int32 → Int32 → Int32 → Option (Int32 × Hp)} (R_X15_isMove : ∀ {h : Hp} {y2 : Int32} {y3 : Int32} {y4 : Int32} {y5 : Int32} {y6 : Int32} {o : Int32 × Hp}, DyK n g h → r_X15_isMove h (n + 513) y2 y3 y4 y5 y6 = some o → DyK n g o.2) {k_46 : Hp → Nat → Int32 → Int32 → Int32 → Int32 → Int32 → Option (Int32 × Hp)} (R_46 : ∀ {h : Hp} {y2 : Int32} {y3 : Int32} {y4 : Int32} {y5 : Int32} {y6 : Int32}, DyK n g h → k_46 h (n + 513) y2 y3 y4 y5 y6 = some o → DyK n g o.2) {h : Hp} (k : DyK n g h) (e : sX15_isAnswered_78 F r_X15_isAnswered r_X15_isMove k_46 h (n + 513) x1 x3 x4 x5 x6 t0 = some o) : DyK n g o.2 := by
  unfold sX15_isAnswered_78 at e
  replace e := br_s e
  rcases e with ⟨_, e⟩ | ⟨_, e⟩
  · replace e := nm_s e
    obtain ⟨v_2, wv_2, e⟩ := e
    exact R_46 k e
  · rw [← Option.some.inj e]; exact k
theorem dk_X15_isAnswered_46 {n : Nat} {g : Hp} {F : Nat} {o : Int32 × Hp} {r_X15_isAnswered : Hp → Nat → Int32 → Int32 → Int32 → Int32 → Int32 → Option (Int32 × Hp)} (R_X15_isAnswered : ∀ {h : Hp} {y2 : Int32} {y3 : Int32} {y4 : Int32} {y5 : Int32} {y6 : Int32} {o : Int32 × Hp}, DyK n g h → r_X15_isAnswered h (n + 513) y2 y3 y4 y5 y6 = some o → DyK n g o.2) {r_X15_isMove : Hp → Nat → Int32 → Int32 → Int32 → Int32 → Int32 → Option (Int32 × Hp)} (R_X15_isMove : ∀ {h : Hp} {y2 : Int32} {y3 : Int32} {y4 : Int32} {y5 : Int32} {y6 : Int32} {o : Int32 × Hp}, DyK n g h → r_X15_isMove h (n + 513) y2 y3 y4 y5 y6 = some o → DyK n g o.2) : ∀ (f : Nat) {h : Hp} {x1 : Int32} {x3 : Int32} {x4 : Int32} {x5 : Int32} {x6 : Int32}, DyK n g h → sX15_isAnswered_46 F r_X15_isAnswered r_X15_isMove f h (n + 513) x1 x3 x4 x5 x6 = some o → DyK n g o.2 := by
  intro f
  induction f with
  | zero => intro h x1 x3 x4 x5 x6 _ e; exact absurd e (by rw [sX15_isAnswered_46]; exact fun z => nomatch z)
  | succ f ih =>
    intro h x1 x3 x4 x5 x6 k e
    rw [sX15_isAnswered_46] at e
    replace e := cl_s e
    obtain ⟨r_1, _, e⟩ := e
    replace e := (gd_s e).2
    replace e := cl_s e
    obtain ⟨r_3, _, e⟩ := e
    replace e := br_s e
    rcases e with ⟨_, e⟩ | ⟨_, e⟩
    · rw [← Option.some.inj e]; exact k
    · replace e := cl_s e
      obtain ⟨o_5, eo_5, e⟩ := e
      have ko_5 : DyK n g o_5.2 := R_X15_isMove k eo_5
      exact dk_X15_isAnswered_78 R_X15_isAnswered R_X15_isMove (fun k e => ih k e) ko_5 e
theorem dk_X15_isAnswered_38 {n : Nat} {g : Hp} {F : Nat} {o : Int32 × Hp} {x1 : Int32} {x3 : Int32} {x4 : Int32} {x5 : Int32} {t0 : Int32} {r_X15_isAnswered : Hp → Nat → Int32 → Int32 → Int32 → Int32 → Int32 → Option (Int32 × Hp)} (R_X15_isAnswered : ∀ {h : Hp} {y2 : Int32} {y3 : Int32} {y4 : Int32} {y5 : Int32} {y6 : Int32} {o : Int32 × Hp}, DyK n g h → r_X15_isAnswered h (n + 513) y2 y3 y4 y5 y6 = some o → DyK n g o.2) {r_X15_isMove : Hp → Nat → Int32 → Int32 → Int32 → Int32 → Int32 → Option (Int32 × Hp)} (R_X15_isMove : ∀ {h : Hp} {y2 : Int32} {y3 : Int32} {y4 : Int32} {y5 : Int32} {y6 : Int32} {o : Int32 × Hp}, DyK n g h → r_X15_isMove h (n + 513) y2 y3 y4 y5 y6 = some o → DyK n g o.2) {h : Hp} (k : DyK n g h) (e : sX15_isAnswered_38 F r_X15_isAnswered r_X15_isMove h (n + 513) x1 x3 x4 x5 t0 = some o) : DyK n g o.2 := by
  unfold sX15_isAnswered_38 at e
  replace e := br_s e
  rcases e with ⟨_, e⟩ | ⟨_, e⟩
  · exact dk_X15_isAnswered_46 R_X15_isAnswered R_X15_isMove F k e
  · exact dk_X15_isAnswered_41 R_X15_isAnswered R_X15_isMove k e
theorem dk_X15_isAnswered_26 {n : Nat} {g : Hp} {F : Nat} {o : Int32 × Hp} {x1 : Int32} {x3 : Int32} {x4 : Int32} {x5 : Int32} {r_X15_isAnswered : Hp → Nat → Int32 → Int32 → Int32 → Int32 → Int32 → Option (Int32 × Hp)} (R_X15_isAnswered : ∀ {h : Hp} {y2 : Int32} {y3 : Int32} {y4 : Int32} {y5 : Int32} {y6 : Int32} {o : Int32 × Hp}, DyK n g h → r_X15_isAnswered h (n + 513) y2 y3 y4 y5 y6 = some o → DyK n g o.2) {r_X15_isMove : Hp → Nat → Int32 → Int32 → Int32 → Int32 → Int32 → Option (Int32 × Hp)} (R_X15_isMove : ∀ {h : Hp} {y2 : Int32} {y3 : Int32} {y4 : Int32} {y5 : Int32} {y6 : Int32} {o : Int32 × Hp}, DyK n g h → r_X15_isMove h (n + 513) y2 y3 y4 y5 y6 = some o → DyK n g o.2) {h : Hp} (k : DyK n g h) (e : sX15_isAnswered_26 F r_X15_isAnswered r_X15_isMove h (n + 513) x1 x3 x4 x5 = some o) : DyK n g o.2 := by
  unfold sX15_isAnswered_26 at e
  replace e := br_s e
  rcases e with ⟨_, e⟩ | ⟨_, e⟩
  · exact dk_X15_isAnswered_41 R_X15_isAnswered R_X15_isMove k e
  · replace e := cl_s e
    obtain ⟨o_2, eo_2, e⟩ := e
    have ko_2 : DyK n g o_2.2 := dk_X15_hasEnded k eo_2
    exact dk_X15_isAnswered_38 R_X15_isAnswered R_X15_isMove ko_2 e
theorem dk_X15_isAnswered_21 {n : Nat} {g : Hp} {F : Nat} {o : Int32 × Hp} {x1 : Int32} {x3 : Int32} {x4 : Int32} {x5 : Int32} {t0 : Int32} {r_X15_isAnswered : Hp → Nat → Int32 → Int32 → Int32 → Int32 → Int32 → Option (Int32 × Hp)} (R_X15_isAnswered : ∀ {h : Hp} {y2 : Int32} {y3 : Int32} {y4 : Int32} {y5 : Int32} {y6 : Int32} {o : Int32 × Hp}, DyK n g h → r_X15_isAnswered h (n + 513) y2 y3 y4 y5 y6 = some o → DyK n g o.2) {r_X15_isMove : Hp → Nat → Int32 → Int32 → Int32 → Int32 → Int32 → Option (Int32 × Hp)} (R_X15_isMove : ∀ {h : Hp} {y2 : Int32} {y3 : Int32} {y4 : Int32} {y5 : Int32} {y6 : Int32} {o : Int32 × Hp}, DyK n g h → r_X15_isMove h (n + 513) y2 y3 y4 y5 y6 = some o → DyK n g o.2) {h : Hp} (k : DyK n g h) (e : sX15_isAnswered_21 F r_X15_isAnswered r_X15_isMove h (n + 513) x1 x3 x4 x5 t0 = some o) : DyK n g o.2 := by
  unfold sX15_isAnswered_21 at e
  replace e := br_s e
  rcases e with ⟨_, e⟩ | ⟨_, e⟩
  · exact dk_X15_isAnswered_26 R_X15_isAnswered R_X15_isMove k e
  · rw [← Option.some.inj e]; exact k
theorem dk_X15_isAnswered_6 {n : Nat} {g : Hp} {F : Nat} {o : Int32 × Hp} {x1 : Int32} {x3 : Int32} {x4 : Int32} {x5 : Int32} {r_X15_isAnswered : Hp → Nat → Int32 → Int32 → Int32 → Int32 → Int32 → Option (Int32 × Hp)} (R_X15_isAnswered : ∀ {h : Hp} {y2 : Int32} {y3 : Int32} {y4 : Int32} {y5 : Int32} {y6 : Int32} {o : Int32 × Hp}, DyK n g h → r_X15_isAnswered h (n + 513) y2 y3 y4 y5 y6 = some o → DyK n g o.2) {r_X15_isMove : Hp → Nat → Int32 → Int32 → Int32 → Int32 → Int32 → Option (Int32 × Hp)} (R_X15_isMove : ∀ {h : Hp} {y2 : Int32} {y3 : Int32} {y4 : Int32} {y5 : Int32} {y6 : Int32} {o : Int32 × Hp}, DyK n g h → r_X15_isMove h (n + 513) y2 y3 y4 y5 y6 = some o → DyK n g o.2) {h : Hp} (k : DyK n g h) (e : sX15_isAnswered_6 F r_X15_isAnswered r_X15_isMove h (n + 513) x1 x3 x4 x5 = some o) : DyK n g o.2 := by
  unfold sX15_isAnswered_6 at e
  replace e := br_s e
  rcases e with ⟨_, e⟩ | ⟨_, e⟩
  · replace e := cl_s e
    obtain ⟨o_2, eo_2, e⟩ := e
    have ko_2 : DyK n g o_2.2 := dk_X15_isGoal k eo_2
    exact dk_X15_isAnswered_21 R_X15_isAnswered R_X15_isMove ko_2 e
  · exact dk_X15_isAnswered_26 R_X15_isAnswered R_X15_isMove k e
theorem dk_X15_isMove_45 {n : Nat} {g : Hp} {F : Nat} {o : Int32 × Hp} {r_X15_isAnswered : Hp → Nat → Int32 → Int32 → Int32 → Int32 → Int32 → Option (Int32 × Hp)} (R_X15_isAnswered : ∀ {h : Hp} {y2 : Int32} {y3 : Int32} {y4 : Int32} {y5 : Int32} {y6 : Int32} {o : Int32 × Hp}, DyK n g h → r_X15_isAnswered h (n + 513) y2 y3 y4 y5 y6 = some o → DyK n g o.2) {r_X15_isMove : Hp → Nat → Int32 → Int32 → Int32 → Int32 → Int32 → Option (Int32 × Hp)} (R_X15_isMove : ∀ {h : Hp} {y2 : Int32} {y3 : Int32} {y4 : Int32} {y5 : Int32} {y6 : Int32} {o : Int32 × Hp}, DyK n g h → r_X15_isMove h (n + 513) y2 y3 y4 y5 y6 = some o → DyK n g o.2) {h : Hp} (k : DyK n g h) (e : sX15_isMove_45 F r_X15_isAnswered r_X15_isMove h = some o) : DyK n g o.2 := by
  unfold sX15_isMove_45 at e
  rw [← Option.some.inj e]; exact k
theorem dk_X15_isMove_80 {n : Nat} {g : Hp} {F : Nat} {o : Int32 × Hp} {x1 : Int32} {x3 : Int32} {x4 : Int32} {x5 : Int32} {x6 : Int32} {t0 : Int32} {r_X15_isAnswered : Hp → Nat → Int32 → Int32 → Int32 → Int32 → Int32 → Option (Int32 × Hp)} (R_X15_isAnswered : ∀ {h : Hp} {y2 : Int32} {y3 : Int32} {y4 : Int32} {y5 : Int32} {y6 : Int32} {o : Int32 × Hp}, DyK n g h → r_X15_isAnswered h (n + 513) y2 y3 y4 y5 y6 = some o → DyK n g o.2) {r_X15_isMove : Hp → Nat → Int32 → Int32 → Int32 → Int32 → Int32 → Option (Int32 × Hp)} (R_X15_isMove : ∀ {h : Hp} {y2 : Int32} {y3 : Int32} {y4 : Int32} {y5 : Int32} {y6 : Int32} {o : Int32 × Hp}, DyK n g h → r_X15_isMove h (n + 513) y2 y3 y4 y5 y6 = some o → DyK n g o.2) {k_50 : Hp → Nat → Int32 → Int32 → Int32 → Int32 → Int32 → Option (Int32 × Hp)} (R_50 : ∀ {h : Hp} {y2 : Int32} {y3 : Int32} {y4 : Int32} {y5 : Int32} {y6 : Int32}, DyK n g h → k_50 h (n + 513) y2 y3 y4 y5 y6 = some o → DyK n g o.2) {h : Hp} (k : DyK n g h) (e : sX15_isMove_80 F r_X15_isAnswered r_X15_isMove k_50 h (n + 513) x1 x3 x4 x5 x6 t0 = some o) : DyK n g o.2 := by
  unfold sX15_isMove_80 at e
  replace e := br_s e
  rcases e with ⟨_, e⟩ | ⟨_, e⟩
  · rw [← Option.some.inj e]; exact k
  · replace e := nm_s e
    obtain ⟨v_2, wv_2, e⟩ := e
    exact R_50 k e
theorem dk_X15_isMove_50 {n : Nat} {g : Hp} {F : Nat} {o : Int32 × Hp} {r_X15_isAnswered : Hp → Nat → Int32 → Int32 → Int32 → Int32 → Int32 → Option (Int32 × Hp)} (R_X15_isAnswered : ∀ {h : Hp} {y2 : Int32} {y3 : Int32} {y4 : Int32} {y5 : Int32} {y6 : Int32} {o : Int32 × Hp}, DyK n g h → r_X15_isAnswered h (n + 513) y2 y3 y4 y5 y6 = some o → DyK n g o.2) {r_X15_isMove : Hp → Nat → Int32 → Int32 → Int32 → Int32 → Int32 → Option (Int32 × Hp)} (R_X15_isMove : ∀ {h : Hp} {y2 : Int32} {y3 : Int32} {y4 : Int32} {y5 : Int32} {y6 : Int32} {o : Int32 × Hp}, DyK n g h → r_X15_isMove h (n + 513) y2 y3 y4 y5 y6 = some o → DyK n g o.2) : ∀ (f : Nat) {h : Hp} {x1 : Int32} {x3 : Int32} {x4 : Int32} {x5 : Int32} {x6 : Int32}, DyK n g h → sX15_isMove_50 F r_X15_isAnswered r_X15_isMove f h (n + 513) x1 x3 x4 x5 x6 = some o → DyK n g o.2 := by
  intro f
  induction f with
  | zero => intro h x1 x3 x4 x5 x6 _ e; exact absurd e (by rw [sX15_isMove_50]; exact fun z => nomatch z)
  | succ f ih =>
    intro h x1 x3 x4 x5 x6 k e
    rw [sX15_isMove_50] at e
    replace e := cl_s e
    obtain ⟨r_1, _, e⟩ := e
    replace e := (gd_s e).2
    replace e := cl_s e
    obtain ⟨r_3, _, e⟩ := e
    replace e := br_s e
    rcases e with ⟨_, e⟩ | ⟨_, e⟩
    · rw [← Option.some.inj e]; exact k
    · replace e := cl_s e
      obtain ⟨o_5, eo_5, e⟩ := e
      have ko_5 : DyK n g o_5.2 := R_X15_isAnswered k eo_5
      exact dk_X15_isMove_80 R_X15_isAnswered R_X15_isMove (fun k e => ih k e) ko_5 e
theorem dk_X15_isMove_47 {n : Nat} {g : Hp} {F : Nat} {o : Int32 × Hp} {x1 : Int32} {x3 : Int32} {x4 : Int32} {x5 : Int32} {r_X15_isAnswered : Hp → Nat → Int32 → Int32 → Int32 → Int32 → Int32 → Option (Int32 × Hp)} (R_X15_isAnswered : ∀ {h : Hp} {y2 : Int32} {y3 : Int32} {y4 : Int32} {y5 : Int32} {y6 : Int32} {o : Int32 × Hp}, DyK n g h → r_X15_isAnswered h (n + 513) y2 y3 y4 y5 y6 = some o → DyK n g o.2) {r_X15_isMove : Hp → Nat → Int32 → Int32 → Int32 → Int32 → Int32 → Option (Int32 × Hp)} (R_X15_isMove : ∀ {h : Hp} {y2 : Int32} {y3 : Int32} {y4 : Int32} {y5 : Int32} {y6 : Int32} {o : Int32 × Hp}, DyK n g h → r_X15_isMove h (n + 513) y2 y3 y4 y5 y6 = some o → DyK n g o.2) {h : Hp} (k : DyK n g h) (e : sX15_isMove_47 F r_X15_isAnswered r_X15_isMove h (n + 513) x1 x3 x4 x5 = some o) : DyK n g o.2 := by
  unfold sX15_isMove_47 at e
  exact dk_X15_isMove_50 R_X15_isAnswered R_X15_isMove F k e
theorem dk_X15_isMove_32 {n : Nat} {g : Hp} {F : Nat} {o : Int32 × Hp} {x1 : Int32} {x3 : Int32} {x4 : Int32} {x5 : Int32} {t0 : Int32} {r_X15_isAnswered : Hp → Nat → Int32 → Int32 → Int32 → Int32 → Int32 → Option (Int32 × Hp)} (R_X15_isAnswered : ∀ {h : Hp} {y2 : Int32} {y3 : Int32} {y4 : Int32} {y5 : Int32} {y6 : Int32} {o : Int32 × Hp}, DyK n g h → r_X15_isAnswered h (n + 513) y2 y3 y4 y5 y6 = some o → DyK n g o.2) {r_X15_isMove : Hp → Nat → Int32 → Int32 → Int32 → Int32 → Int32 → Option (Int32 × Hp)} (R_X15_isMove : ∀ {h : Hp} {y2 : Int32} {y3 : Int32} {y4 : Int32} {y5 : Int32} {y6 : Int32} {o : Int32 × Hp}, DyK n g h → r_X15_isMove h (n + 513) y2 y3 y4 y5 y6 = some o → DyK n g o.2) {h : Hp} (k : DyK n g h) (e : sX15_isMove_32 F r_X15_isAnswered r_X15_isMove h (n + 513) x1 x3 x4 x5 t0 = some o) : DyK n g o.2 := by
  unfold sX15_isMove_32 at e
  replace e := br_s e
  rcases e with ⟨_, e⟩ | ⟨_, e⟩
  · replace e := br_s e
    rcases e with ⟨_, e⟩ | ⟨_, e⟩
    · replace e := br_s e
      rcases e with ⟨_, e⟩ | ⟨_, e⟩
      · exact dk_X15_isMove_45 R_X15_isAnswered R_X15_isMove k e
      · exact dk_X15_isMove_47 R_X15_isAnswered R_X15_isMove k e
    · exact dk_X15_isMove_47 R_X15_isAnswered R_X15_isMove k e
  · exact dk_X15_isMove_45 R_X15_isAnswered R_X15_isMove k e
theorem dk_X15_isMove_25 {n : Nat} {g : Hp} {F : Nat} {o : Int32 × Hp} {x1 : Int32} {x3 : Int32} {x4 : Int32} {x5 : Int32} {r_X15_isAnswered : Hp → Nat → Int32 → Int32 → Int32 → Int32 → Int32 → Option (Int32 × Hp)} (R_X15_isAnswered : ∀ {h : Hp} {y2 : Int32} {y3 : Int32} {y4 : Int32} {y5 : Int32} {y6 : Int32} {o : Int32 × Hp}, DyK n g h → r_X15_isAnswered h (n + 513) y2 y3 y4 y5 y6 = some o → DyK n g o.2) {r_X15_isMove : Hp → Nat → Int32 → Int32 → Int32 → Int32 → Int32 → Option (Int32 × Hp)} (R_X15_isMove : ∀ {h : Hp} {y2 : Int32} {y3 : Int32} {y4 : Int32} {y5 : Int32} {y6 : Int32} {o : Int32 × Hp}, DyK n g h → r_X15_isMove h (n + 513) y2 y3 y4 y5 y6 = some o → DyK n g o.2) {h : Hp} (k : DyK n g h) (e : sX15_isMove_25 F r_X15_isAnswered r_X15_isMove h (n + 513) x1 x3 x4 x5 = some o) : DyK n g o.2 := by
  unfold sX15_isMove_25 at e
  replace e := cl_s e
  obtain ⟨o_1, eo_1, e⟩ := e
  have ko_1 : DyK n g o_1.2 := dk_X15_hasEnded k eo_1
  exact dk_X15_isMove_32 R_X15_isAnswered R_X15_isMove ko_1 e
theorem dk_X15_isMove_20 {n : Nat} {g : Hp} {F : Nat} {o : Int32 × Hp} {x1 : Int32} {x3 : Int32} {x4 : Int32} {x5 : Int32} {t0 : Int32} {r_X15_isAnswered : Hp → Nat → Int32 → Int32 → Int32 → Int32 → Int32 → Option (Int32 × Hp)} (R_X15_isAnswered : ∀ {h : Hp} {y2 : Int32} {y3 : Int32} {y4 : Int32} {y5 : Int32} {y6 : Int32} {o : Int32 × Hp}, DyK n g h → r_X15_isAnswered h (n + 513) y2 y3 y4 y5 y6 = some o → DyK n g o.2) {r_X15_isMove : Hp → Nat → Int32 → Int32 → Int32 → Int32 → Int32 → Option (Int32 × Hp)} (R_X15_isMove : ∀ {h : Hp} {y2 : Int32} {y3 : Int32} {y4 : Int32} {y5 : Int32} {y6 : Int32} {o : Int32 × Hp}, DyK n g h → r_X15_isMove h (n + 513) y2 y3 y4 y5 y6 = some o → DyK n g o.2) {h : Hp} (k : DyK n g h) (e : sX15_isMove_20 F r_X15_isAnswered r_X15_isMove h (n + 513) x1 x3 x4 x5 t0 = some o) : DyK n g o.2 := by
  unfold sX15_isMove_20 at e
  replace e := br_s e
  rcases e with ⟨_, e⟩ | ⟨_, e⟩
  · exact dk_X15_isMove_25 R_X15_isAnswered R_X15_isMove k e
  · rw [← Option.some.inj e]; exact k
theorem dk_X15_isMove_6 {n : Nat} {g : Hp} {F : Nat} {o : Int32 × Hp} {x1 : Int32} {x3 : Int32} {x4 : Int32} {x5 : Int32} {r_X15_isAnswered : Hp → Nat → Int32 → Int32 → Int32 → Int32 → Int32 → Option (Int32 × Hp)} (R_X15_isAnswered : ∀ {h : Hp} {y2 : Int32} {y3 : Int32} {y4 : Int32} {y5 : Int32} {y6 : Int32} {o : Int32 × Hp}, DyK n g h → r_X15_isAnswered h (n + 513) y2 y3 y4 y5 y6 = some o → DyK n g o.2) {r_X15_isMove : Hp → Nat → Int32 → Int32 → Int32 → Int32 → Int32 → Option (Int32 × Hp)} (R_X15_isMove : ∀ {h : Hp} {y2 : Int32} {y3 : Int32} {y4 : Int32} {y5 : Int32} {y6 : Int32} {o : Int32 × Hp}, DyK n g h → r_X15_isMove h (n + 513) y2 y3 y4 y5 y6 = some o → DyK n g o.2) {h : Hp} (k : DyK n g h) (e : sX15_isMove_6 F r_X15_isAnswered r_X15_isMove h (n + 513) x1 x3 x4 x5 = some o) : DyK n g o.2 := by
  unfold sX15_isMove_6 at e
  replace e := br_s e
  rcases e with ⟨_, e⟩ | ⟨_, e⟩
  · replace e := cl_s e
    obtain ⟨o_2, eo_2, e⟩ := e
    have ko_2 : DyK n g o_2.2 := dk_X15_isGoal k eo_2
    exact dk_X15_isMove_20 R_X15_isAnswered R_X15_isMove ko_2 e
  · exact dk_X15_isMove_25 R_X15_isAnswered R_X15_isMove k e
theorem dk_oX15_isAnswered {n : Nat} {g : Hp} {F : Nat} {o : Int32 × Hp} {x1 : Int32} {x2 : Int32} {x3 : Int32} {x4 : Int32} {x5 : Int32} {r_X15_isAnswered : Hp → Nat → Int32 → Int32 → Int32 → Int32 → Int32 → Option (Int32 × Hp)} (R_X15_isAnswered : ∀ {h : Hp} {y2 : Int32} {y3 : Int32} {y4 : Int32} {y5 : Int32} {y6 : Int32} {o : Int32 × Hp}, DyK n g h → r_X15_isAnswered h (n + 513) y2 y3 y4 y5 y6 = some o → DyK n g o.2) {r_X15_isMove : Hp → Nat → Int32 → Int32 → Int32 → Int32 → Int32 → Option (Int32 × Hp)} (R_X15_isMove : ∀ {h : Hp} {y2 : Int32} {y3 : Int32} {y4 : Int32} {y5 : Int32} {y6 : Int32} {o : Int32 × Hp}, DyK n g h → r_X15_isMove h (n + 513) y2 y3 y4 y5 y6 = some o → DyK n g o.2) {h : Hp} (k : DyK n g h) (e : oX15_isAnswered F r_X15_isAnswered r_X15_isMove h (n + 513) x1 x2 x3 x4 x5 = some o) : DyK n g o.2 := by
  unfold oX15_isAnswered at e
  replace e := cl_s e
  obtain ⟨o_1, eo_1, e⟩ := e
  have ko_1 : DyK n g o_1 := dk_X15_step k eo_1
  exact dk_X15_isAnswered_6 R_X15_isAnswered R_X15_isMove ko_1 e
theorem dk_oX15_isMove {n : Nat} {g : Hp} {F : Nat} {o : Int32 × Hp} {x1 : Int32} {x2 : Int32} {x3 : Int32} {x4 : Int32} {x5 : Int32} {r_X15_isAnswered : Hp → Nat → Int32 → Int32 → Int32 → Int32 → Int32 → Option (Int32 × Hp)} (R_X15_isAnswered : ∀ {h : Hp} {y2 : Int32} {y3 : Int32} {y4 : Int32} {y5 : Int32} {y6 : Int32} {o : Int32 × Hp}, DyK n g h → r_X15_isAnswered h (n + 513) y2 y3 y4 y5 y6 = some o → DyK n g o.2) {r_X15_isMove : Hp → Nat → Int32 → Int32 → Int32 → Int32 → Int32 → Option (Int32 × Hp)} (R_X15_isMove : ∀ {h : Hp} {y2 : Int32} {y3 : Int32} {y4 : Int32} {y5 : Int32} {y6 : Int32} {o : Int32 × Hp}, DyK n g h → r_X15_isMove h (n + 513) y2 y3 y4 y5 y6 = some o → DyK n g o.2) {h : Hp} (k : DyK n g h) (e : oX15_isMove F r_X15_isAnswered r_X15_isMove h (n + 513) x1 x2 x3 x4 x5 = some o) : DyK n g o.2 := by
  unfold oX15_isMove at e
  replace e := cl_s e
  obtain ⟨o_1, eo_1, e⟩ := e
  have ko_1 : DyK n g o_1 := dk_X15_step k eo_1
  exact dk_X15_isMove_6 R_X15_isAnswered R_X15_isMove ko_1 e
theorem dk_qX15_isAnswered {n : Nat} {g : Hp} {F : Nat} : ∀ d : Nat, (∀ {h : Hp} {x1 : Int32} {x2 : Int32} {x3 : Int32} {x4 : Int32} {x5 : Int32} {o : Int32 × Hp}, DyK n g h → (qX15_isAnswered F d).1 h (n + 513) x1 x2 x3 x4 x5 = some o → DyK n g o.2) ∧ (∀ {h : Hp} {x1 : Int32} {x2 : Int32} {x3 : Int32} {x4 : Int32} {x5 : Int32} {o : Int32 × Hp}, DyK n g h → (qX15_isAnswered F d).2 h (n + 513) x1 x2 x3 x4 x5 = some o → DyK n g o.2) := by
  intro d
  induction d with
  | zero => exact ⟨(fun _ e => nomatch e), (fun _ e => nomatch e)⟩
  | succ d ih => exact ⟨(fun k e => dk_oX15_isAnswered (fun k e => ih.1 k e) (fun k e => ih.2 k e) k e), (fun k e => dk_oX15_isMove (fun k e => ih.1 k e) (fun k e => ih.2 k e) k e)⟩
theorem dk_X15_isAnswered {n : Nat} {g : Hp} {F : Nat} {o : Int32 × Hp} {x1 : Int32} {x2 : Int32} {x3 : Int32} {x4 : Int32} {x5 : Int32} {h : Hp} (k : DyK n g h) (e : sX15_isAnswered F h (n + 513) x1 x2 x3 x4 x5 = some o) : DyK n g o.2 := (dk_qX15_isAnswered 40).1 k e
theorem dk_X15_isMove {n : Nat} {g : Hp} {F : Nat} {o : Int32 × Hp} {x1 : Int32} {x2 : Int32} {x3 : Int32} {x4 : Int32} {x5 : Int32} {h : Hp} (k : DyK n g h) (e : sX15_isMove F h (n + 513) x1 x2 x3 x4 x5 = some o) : DyK n g o.2 := (dk_qX15_isAnswered 40).2 k e
theorem dk_X15_problem_305 {n : Nat} {g : Hp} {F : Nat} {o : Int32 × Hp} {x2 : Int32} {x3 : Int32} {x4 : Int32} {x6 : Int32} {x7 : Int32} {k_197 : Hp → Nat → Int32 → Int32 → Int32 → Int32 → Int32 → Option (Int32 × Hp)} (R_197 : ∀ {h : Hp} {y2 : Int32} {y3 : Int32} {y4 : Int32} {y5 : Int32} {y6 : Int32}, DyK n g h → k_197 h (n + 513) y2 y3 y4 y5 y6 = some o → DyK n g o.2) {h : Hp} (k : DyK n g h) (e : sX15_problem_305 F k_197 h (n + 513) x2 x3 x4 x6 x7 = some o) : DyK n g o.2 := by
  unfold sX15_problem_305 at e
  replace e := nm_s e
  obtain ⟨v_1, wv_1, e⟩ := e
  exact R_197 k e
theorem dk_X15_problem_270 {n : Nat} {g : Hp} {F : Nat} {o : Int32 × Hp} {x2 : Int32} {x3 : Int32} {x4 : Int32} {x6 : Int32} {x7 : Int32} {t0 : Int32} {k_197 : Hp → Nat → Int32 → Int32 → Int32 → Int32 → Int32 → Option (Int32 × Hp)} (R_197 : ∀ {h : Hp} {y2 : Int32} {y3 : Int32} {y4 : Int32} {y5 : Int32} {y6 : Int32}, DyK n g h → k_197 h (n + 513) y2 y3 y4 y5 y6 = some o → DyK n g o.2) {h : Hp} (k : DyK n g h) (e : sX15_problem_270 F k_197 h (n + 513) x2 x3 x4 x6 x7 t0 = some o) : DyK n g o.2 := by
  unfold sX15_problem_270 at e
  replace e := nm_s e
  obtain ⟨v_1, wv_1, e⟩ := e
  replace e := br_s e
  rcases e with ⟨_, e⟩ | ⟨_, e⟩
  · exact dk_X15_problem_305 R_197 k e
  · replace e := cl_s e
    obtain ⟨r_3, _, e⟩ := e
    replace e := (gd_s e).2
    replace e := nm_s e
    obtain ⟨h_5, wh_5, e⟩ := e
    have kh_5 : DyK n g h_5 := by rw [wh_5]; exact dk_wI k
    replace e := nm_s e
    obtain ⟨h_6, wh_6, e⟩ := e
    have kh_6 : DyK n g h_6 := by rw [wh_6]; exact dk_wI kh_5
    exact dk_X15_problem_305 R_197 kh_6 e
theorem dk_X15_problem_262 {n : Nat} {g : Hp} {F : Nat} {o : Int32 × Hp} {x2 : Int32} {x3 : Int32} {x4 : Int32} {x6 : Int32} {x7 : Int32} {t0 : Int32} {k_197 : Hp → Nat → Int32 → Int32 → Int32 → Int32 → Int32 → Option (Int32 × Hp)} (R_197 : ∀ {h : Hp} {y2 : Int32} {y3 : Int32} {y4 : Int32} {y5 : Int32} {y6 : Int32}, DyK n g h → k_197 h (n + 513) y2 y3 y4 y5 y6 = some o → DyK n g o.2) {h : Hp} (k : DyK n g h) (e : sX15_problem_262 F k_197 h (n + 513) x2 x3 x4 x6 x7 t0 = some o) : DyK n g o.2 := by
  unfold sX15_problem_262 at e
  replace e := br_s e
  rcases e with ⟨_, e⟩ | ⟨_, e⟩
  · exact dk_X15_problem_270 R_197 k e
  · exact dk_X15_problem_270 R_197 k e
theorem dk_X15_goalRows_33 {n : Nat} {g : Hp} {F : Nat} {o : Int32 × Hp} {x1 : Int32} {x2 : Int32} {x3 : Int32} {x4 : Int32} {x6 : Int32} {t0 : Int32} {t1 : Int32} {r_X15_goalRows : Hp → Nat → Int32 → Int32 → Int32 → Int32 → Option (Int32 × Hp)} (R_X15_goalRows : ∀ {h : Hp} {y2 : Int32} {y3 : Int32} {y4 : Int32} {y5 : Int32} {o : Int32 × Hp}, DyK n g h → r_X15_goalRows h (n + 513) y2 y3 y4 y5 = some o → DyK n g o.2) {r_X15_goalRowsBy : Hp → Nat → Int32 → Int32 → Int32 → Int32 → Int32 → Option (Int32 × Hp)} (R_X15_goalRowsBy : ∀ {h : Hp} {y2 : Int32} {y3 : Int32} {y4 : Int32} {y5 : Int32} {y6 : Int32} {o : Int32 × Hp}, DyK n g h → r_X15_goalRowsBy h (n + 513) y2 y3 y4 y5 y6 = some o → DyK n g o.2) {k_6 : Hp → Nat → Int32 → Int32 → Int32 → Int32 → Int32 → Int32 → Option (Int32 × Hp)} (R_6 : ∀ {h : Hp} {y2 : Int32} {y3 : Int32} {y4 : Int32} {y5 : Int32} {y6 : Int32} {y7 : Int32}, DyK n g h → k_6 h (n + 513) y2 y3 y4 y5 y6 y7 = some o → DyK n g o.2) {h : Hp} (k : DyK n g h) (e : sX15_goalRows_33 F r_X15_goalRows r_X15_goalRowsBy k_6 h (n + 513) x1 x2 x3 x4 x6 t0 t1 = some o) : DyK n g o.2 := by
  unfold sX15_goalRows_33 at e
  replace e := nm_s e
  obtain ⟨v_1, wv_1, e⟩ := e
  replace e := nm_s e
  obtain ⟨v_2, wv_2, e⟩ := e
  exact R_6 k e
theorem dk_X15_goalRows_6 {n : Nat} {g : Hp} {F : Nat} {o : Int32 × Hp} {r_X15_goalRows : Hp → Nat → Int32 → Int32 → Int32 → Int32 → Option (Int32 × Hp)} (R_X15_goalRows : ∀ {h : Hp} {y2 : Int32} {y3 : Int32} {y4 : Int32} {y5 : Int32} {o : Int32 × Hp}, DyK n g h → r_X15_goalRows h (n + 513) y2 y3 y4 y5 = some o → DyK n g o.2) {r_X15_goalRowsBy : Hp → Nat → Int32 → Int32 → Int32 → Int32 → Int32 → Option (Int32 × Hp)} (R_X15_goalRowsBy : ∀ {h : Hp} {y2 : Int32} {y3 : Int32} {y4 : Int32} {y5 : Int32} {y6 : Int32} {o : Int32 × Hp}, DyK n g h → r_X15_goalRowsBy h (n + 513) y2 y3 y4 y5 y6 = some o → DyK n g o.2) : ∀ (f : Nat) {h : Hp} {x1 : Int32} {x2 : Int32} {x3 : Int32} {x4 : Int32} {x5 : Int32} {x6 : Int32}, DyK n g h → sX15_goalRows_6 F r_X15_goalRows r_X15_goalRowsBy f h (n + 513) x1 x2 x3 x4 x5 x6 = some o → DyK n g o.2 := by
  intro f
  induction f with
  | zero => intro h x1 x2 x3 x4 x5 x6 _ e; exact absurd e (by rw [sX15_goalRows_6]; exact fun z => nomatch z)
  | succ f ih =>
    intro h x1 x2 x3 x4 x5 x6 k e
    rw [sX15_goalRows_6] at e
    replace e := cl_s e
    obtain ⟨r_1, _, e⟩ := e
    replace e := (gd_s e).2
    replace e := cl_s e
    obtain ⟨r_3, _, e⟩ := e
    replace e := br_s e
    rcases e with ⟨_, e⟩ | ⟨_, e⟩
    · rw [← Option.some.inj e]; exact k
    · replace e := cl_s e
      obtain ⟨o_5, eo_5, e⟩ := e
      have ko_5 : DyK n g o_5.2 := R_X15_goalRowsBy k eo_5
      exact dk_X15_goalRows_33 R_X15_goalRows R_X15_goalRowsBy (fun k e => ih k e) ko_5 e
theorem dk_X15_goalRowsBy_28 {n : Nat} {g : Hp} {F : Nat} {o : Int32 × Hp} {t0 : Int32} {r_X15_goalRows : Hp → Nat → Int32 → Int32 → Int32 → Int32 → Option (Int32 × Hp)} (R_X15_goalRows : ∀ {h : Hp} {y2 : Int32} {y3 : Int32} {y4 : Int32} {y5 : Int32} {o : Int32 × Hp}, DyK n g h → r_X15_goalRows h (n + 513) y2 y3 y4 y5 = some o → DyK n g o.2) {r_X15_goalRowsBy : Hp → Nat → Int32 → Int32 → Int32 → Int32 → Int32 → Option (Int32 × Hp)} (R_X15_goalRowsBy : ∀ {h : Hp} {y2 : Int32} {y3 : Int32} {y4 : Int32} {y5 : Int32} {y6 : Int32} {o : Int32 × Hp}, DyK n g h → r_X15_goalRowsBy h (n + 513) y2 y3 y4 y5 y6 = some o → DyK n g o.2) {h : Hp} (k : DyK n g h) (e : sX15_goalRowsBy_28 F r_X15_goalRows r_X15_goalRowsBy h t0 = some o) : DyK n g o.2 := by
  unfold sX15_goalRowsBy_28 at e
  rw [← Option.some.inj e]; exact k
theorem dk_X15_goalRowsBy_20 {n : Nat} {g : Hp} {F : Nat} {o : Int32 × Hp} {t0 : Int32} {r_X15_goalRows : Hp → Nat → Int32 → Int32 → Int32 → Int32 → Option (Int32 × Hp)} (R_X15_goalRows : ∀ {h : Hp} {y2 : Int32} {y3 : Int32} {y4 : Int32} {y5 : Int32} {o : Int32 × Hp}, DyK n g h → r_X15_goalRows h (n + 513) y2 y3 y4 y5 = some o → DyK n g o.2) {r_X15_goalRowsBy : Hp → Nat → Int32 → Int32 → Int32 → Int32 → Int32 → Option (Int32 × Hp)} (R_X15_goalRowsBy : ∀ {h : Hp} {y2 : Int32} {y3 : Int32} {y4 : Int32} {y5 : Int32} {y6 : Int32} {o : Int32 × Hp}, DyK n g h → r_X15_goalRowsBy h (n + 513) y2 y3 y4 y5 y6 = some o → DyK n g o.2) {h : Hp} (k : DyK n g h) (e : sX15_goalRowsBy_20 F r_X15_goalRows r_X15_goalRowsBy h t0 = some o) : DyK n g o.2 := by
  unfold sX15_goalRowsBy_20 at e
  replace e := br_s e
  rcases e with ⟨_, e⟩ | ⟨_, e⟩
  · exact dk_X15_goalRowsBy_28 R_X15_goalRows R_X15_goalRowsBy k e
  · exact dk_X15_goalRowsBy_28 R_X15_goalRows R_X15_goalRowsBy k e
theorem dk_X15_goalRowsBy_79 {n : Nat} {g : Hp} {F : Nat} {o : Int32 × Hp} {t0 : Int32} {r_X15_goalRows : Hp → Nat → Int32 → Int32 → Int32 → Int32 → Option (Int32 × Hp)} (R_X15_goalRows : ∀ {h : Hp} {y2 : Int32} {y3 : Int32} {y4 : Int32} {y5 : Int32} {o : Int32 × Hp}, DyK n g h → r_X15_goalRows h (n + 513) y2 y3 y4 y5 = some o → DyK n g o.2) {r_X15_goalRowsBy : Hp → Nat → Int32 → Int32 → Int32 → Int32 → Int32 → Option (Int32 × Hp)} (R_X15_goalRowsBy : ∀ {h : Hp} {y2 : Int32} {y3 : Int32} {y4 : Int32} {y5 : Int32} {y6 : Int32} {o : Int32 × Hp}, DyK n g h → r_X15_goalRowsBy h (n + 513) y2 y3 y4 y5 y6 = some o → DyK n g o.2) {h : Hp} (k : DyK n g h) (e : sX15_goalRowsBy_79 F r_X15_goalRows r_X15_goalRowsBy h t0 = some o) : DyK n g o.2 := by
  unfold sX15_goalRowsBy_79 at e
  rw [← Option.some.inj e]; exact k
theorem dk_X15_goalRowsBy_65 {n : Nat} {g : Hp} {F : Nat} {o : Int32 × Hp} {x1 : Int32} {x3 : Int32} {x4 : Int32} {x5 : Int32} {r_X15_goalRows : Hp → Nat → Int32 → Int32 → Int32 → Int32 → Option (Int32 × Hp)} (R_X15_goalRows : ∀ {h : Hp} {y2 : Int32} {y3 : Int32} {y4 : Int32} {y5 : Int32} {o : Int32 × Hp}, DyK n g h → r_X15_goalRows h (n + 513) y2 y3 y4 y5 = some o → DyK n g o.2) {r_X15_goalRowsBy : Hp → Nat → Int32 → Int32 → Int32 → Int32 → Int32 → Option (Int32 × Hp)} (R_X15_goalRowsBy : ∀ {h : Hp} {y2 : Int32} {y3 : Int32} {y4 : Int32} {y5 : Int32} {y6 : Int32} {o : Int32 × Hp}, DyK n g h → r_X15_goalRowsBy h (n + 513) y2 y3 y4 y5 y6 = some o → DyK n g o.2) {h : Hp} (k : DyK n g h) (e : sX15_goalRowsBy_65 F r_X15_goalRows r_X15_goalRowsBy h (n + 513) x1 x3 x4 x5 = some o) : DyK n g o.2 := by
  unfold sX15_goalRowsBy_65 at e
  replace e := cl_s e
  obtain ⟨o_1, eo_1, e⟩ := e
  have ko_1 : DyK n g o_1.2 := R_X15_goalRows k eo_1
  exact dk_X15_goalRowsBy_79 R_X15_goalRows R_X15_goalRowsBy ko_1 e
theorem dk_X15_goalRowsBy_54 {n : Nat} {g : Hp} {F : Nat} {o : Int32 × Hp} {x1 : Int32} {x3 : Int32} {x4 : Int32} {x5 : Int32} {t0 : Nat} {t1 : Nat} {r_X15_goalRows : Hp → Nat → Int32 → Int32 → Int32 → Int32 → Option (Int32 × Hp)} (R_X15_goalRows : ∀ {h : Hp} {y2 : Int32} {y3 : Int32} {y4 : Int32} {y5 : Int32} {o : Int32 × Hp}, DyK n g h → r_X15_goalRows h (n + 513) y2 y3 y4 y5 = some o → DyK n g o.2) {r_X15_goalRowsBy : Hp → Nat → Int32 → Int32 → Int32 → Int32 → Int32 → Option (Int32 × Hp)} (R_X15_goalRowsBy : ∀ {h : Hp} {y2 : Int32} {y3 : Int32} {y4 : Int32} {y5 : Int32} {y6 : Int32} {o : Int32 × Hp}, DyK n g h → r_X15_goalRowsBy h (n + 513) y2 y3 y4 y5 y6 = some o → DyK n g o.2) {h : Hp} (k : DyK n g h) (e : sX15_goalRowsBy_54 F r_X15_goalRows r_X15_goalRowsBy h (n + 513) x1 x3 x4 x5 t0 t1 = some o) : DyK n g o.2 := by
  unfold sX15_goalRowsBy_54 at e
  replace e := cl_s e
  obtain ⟨r_1, _, e⟩ := e
  replace e := (gd_s e).2
  replace e := cl_s e
  obtain ⟨r_3, _, e⟩ := e
  replace e := cl_s e
  obtain ⟨o_4, eo_4, e⟩ := e
  have ko_4 : DyK n g o_4 := dk_X15_legal k eo_4
  exact dk_X15_goalRowsBy_65 R_X15_goalRows R_X15_goalRowsBy ko_4 e
theorem dk_X15_goalRowsBy_41 {n : Nat} {g : Hp} {F : Nat} {o : Int32 × Hp} {x1 : Int32} {x3 : Int32} {x4 : Int32} {x5 : Int32} {t0 : Int32} {r_X15_goalRows : Hp → Nat → Int32 → Int32 → Int32 → Int32 → Option (Int32 × Hp)} (R_X15_goalRows : ∀ {h : Hp} {y2 : Int32} {y3 : Int32} {y4 : Int32} {y5 : Int32} {o : Int32 × Hp}, DyK n g h → r_X15_goalRows h (n + 513) y2 y3 y4 y5 = some o → DyK n g o.2) {r_X15_goalRowsBy : Hp → Nat → Int32 → Int32 → Int32 → Int32 → Int32 → Option (Int32 × Hp)} (R_X15_goalRowsBy : ∀ {h : Hp} {y2 : Int32} {y3 : Int32} {y4 : Int32} {y5 : Int32} {y6 : Int32} {o : Int32 × Hp}, DyK n g h → r_X15_goalRowsBy h (n + 513) y2 y3 y4 y5 y6 = some o → DyK n g o.2) {h : Hp} (k : DyK n g h) (e : sX15_goalRowsBy_41 F r_X15_goalRows r_X15_goalRowsBy h (n + 513) x1 x3 x4 x5 t0 = some o) : DyK n g o.2 := by
  unfold sX15_goalRowsBy_41 at e
  replace e := br_s e
  rcases e with ⟨_, e⟩ | ⟨_, e⟩
  · rw [← Option.some.inj e]; exact k
  · replace e := cl_s e
    obtain ⟨o_2, eo_2, e⟩ := e
    have ko_2 : DyK n g o_2.2 := dk_X15_deepBoard k eo_2
    exact dk_X15_goalRowsBy_54 R_X15_goalRows R_X15_goalRowsBy ko_2 e
theorem dk_X15_goalRowsBy_6 {n : Nat} {g : Hp} {F : Nat} {o : Int32 × Hp} {x1 : Int32} {x3 : Int32} {x4 : Int32} {x5 : Int32} {r_X15_goalRows : Hp → Nat → Int32 → Int32 → Int32 → Int32 → Option (Int32 × Hp)} (R_X15_goalRows : ∀ {h : Hp} {y2 : Int32} {y3 : Int32} {y4 : Int32} {y5 : Int32} {o : Int32 × Hp}, DyK n g h → r_X15_goalRows h (n + 513) y2 y3 y4 y5 = some o → DyK n g o.2) {r_X15_goalRowsBy : Hp → Nat → Int32 → Int32 → Int32 → Int32 → Int32 → Option (Int32 × Hp)} (R_X15_goalRowsBy : ∀ {h : Hp} {y2 : Int32} {y3 : Int32} {y4 : Int32} {y5 : Int32} {y6 : Int32} {o : Int32 × Hp}, DyK n g h → r_X15_goalRowsBy h (n + 513) y2 y3 y4 y5 y6 = some o → DyK n g o.2) {h : Hp} (k : DyK n g h) (e : sX15_goalRowsBy_6 F r_X15_goalRows r_X15_goalRowsBy h (n + 513) x1 x3 x4 x5 = some o) : DyK n g o.2 := by
  unfold sX15_goalRowsBy_6 at e
  replace e := br_s e
  rcases e with ⟨_, e⟩ | ⟨_, e⟩
  · replace e := cl_s e
    obtain ⟨o_4, eo_4, e⟩ := e
    have ko_4 : DyK n g o_4.2 := dk_X15_isGoal k eo_4
    exact dk_X15_goalRowsBy_20 R_X15_goalRows R_X15_goalRowsBy ko_4 e
  · replace e := br_s e
    rcases e with ⟨_, e⟩ | ⟨_, e⟩
    · exact dk_X15_goalRowsBy_65 R_X15_goalRows R_X15_goalRowsBy k e
    · replace e := cl_s e
      obtain ⟨o_3, eo_3, e⟩ := e
      have ko_3 : DyK n g o_3.2 := dk_X15_turnsBack k eo_3
      exact dk_X15_goalRowsBy_41 R_X15_goalRows R_X15_goalRowsBy ko_3 e
theorem dk_oX15_goalRows {n : Nat} {g : Hp} {F : Nat} {o : Int32 × Hp} {x1 : Int32} {x2 : Int32} {x3 : Int32} {x4 : Int32} {r_X15_goalRows : Hp → Nat → Int32 → Int32 → Int32 → Int32 → Option (Int32 × Hp)} (R_X15_goalRows : ∀ {h : Hp} {y2 : Int32} {y3 : Int32} {y4 : Int32} {y5 : Int32} {o : Int32 × Hp}, DyK n g h → r_X15_goalRows h (n + 513) y2 y3 y4 y5 = some o → DyK n g o.2) {r_X15_goalRowsBy : Hp → Nat → Int32 → Int32 → Int32 → Int32 → Int32 → Option (Int32 × Hp)} (R_X15_goalRowsBy : ∀ {h : Hp} {y2 : Int32} {y3 : Int32} {y4 : Int32} {y5 : Int32} {y6 : Int32} {o : Int32 × Hp}, DyK n g h → r_X15_goalRowsBy h (n + 513) y2 y3 y4 y5 y6 = some o → DyK n g o.2) {h : Hp} (k : DyK n g h) (e : oX15_goalRows F r_X15_goalRows r_X15_goalRowsBy h (n + 513) x1 x2 x3 x4 = some o) : DyK n g o.2 := by
  unfold oX15_goalRows at e
  exact dk_X15_goalRows_6 R_X15_goalRows R_X15_goalRowsBy F k e
theorem dk_oX15_goalRowsBy {n : Nat} {g : Hp} {F : Nat} {o : Int32 × Hp} {x1 : Int32} {x2 : Int32} {x3 : Int32} {x4 : Int32} {x5 : Int32} {r_X15_goalRows : Hp → Nat → Int32 → Int32 → Int32 → Int32 → Option (Int32 × Hp)} (R_X15_goalRows : ∀ {h : Hp} {y2 : Int32} {y3 : Int32} {y4 : Int32} {y5 : Int32} {o : Int32 × Hp}, DyK n g h → r_X15_goalRows h (n + 513) y2 y3 y4 y5 = some o → DyK n g o.2) {r_X15_goalRowsBy : Hp → Nat → Int32 → Int32 → Int32 → Int32 → Int32 → Option (Int32 × Hp)} (R_X15_goalRowsBy : ∀ {h : Hp} {y2 : Int32} {y3 : Int32} {y4 : Int32} {y5 : Int32} {y6 : Int32} {o : Int32 × Hp}, DyK n g h → r_X15_goalRowsBy h (n + 513) y2 y3 y4 y5 y6 = some o → DyK n g o.2) {h : Hp} (k : DyK n g h) (e : oX15_goalRowsBy F r_X15_goalRows r_X15_goalRowsBy h (n + 513) x1 x2 x3 x4 x5 = some o) : DyK n g o.2 := by
  unfold oX15_goalRowsBy at e
  replace e := cl_s e
  obtain ⟨o_1, eo_1, e⟩ := e
  have ko_1 : DyK n g o_1 := dk_X15_step k eo_1
  exact dk_X15_goalRowsBy_6 R_X15_goalRows R_X15_goalRowsBy ko_1 e
theorem dk_qX15_goalRows {n : Nat} {g : Hp} {F : Nat} : ∀ d : Nat, (∀ {h : Hp} {x1 : Int32} {x2 : Int32} {x3 : Int32} {x4 : Int32} {o : Int32 × Hp}, DyK n g h → (qX15_goalRows F d).1 h (n + 513) x1 x2 x3 x4 = some o → DyK n g o.2) ∧ (∀ {h : Hp} {x1 : Int32} {x2 : Int32} {x3 : Int32} {x4 : Int32} {x5 : Int32} {o : Int32 × Hp}, DyK n g h → (qX15_goalRows F d).2 h (n + 513) x1 x2 x3 x4 x5 = some o → DyK n g o.2) := by
  intro d
  induction d with
  | zero => exact ⟨(fun _ e => nomatch e), (fun _ e => nomatch e)⟩
  | succ d ih => exact ⟨(fun k e => dk_oX15_goalRows (fun k e => ih.1 k e) (fun k e => ih.2 k e) k e), (fun k e => dk_oX15_goalRowsBy (fun k e => ih.1 k e) (fun k e => ih.2 k e) k e)⟩
theorem dk_X15_goalRows {n : Nat} {g : Hp} {F : Nat} {o : Int32 × Hp} {x1 : Int32} {x2 : Int32} {x3 : Int32} {x4 : Int32} {h : Hp} (k : DyK n g h) (e : sX15_goalRows F h (n + 513) x1 x2 x3 x4 = some o) : DyK n g o.2 := (dk_qX15_goalRows 40).1 k e
theorem dk_X15_goalRowsBy {n : Nat} {g : Hp} {F : Nat} {o : Int32 × Hp} {x1 : Int32} {x2 : Int32} {x3 : Int32} {x4 : Int32} {x5 : Int32} {h : Hp} (k : DyK n g h) (e : sX15_goalRowsBy F h (n + 513) x1 x2 x3 x4 x5 = some o) : DyK n g o.2 := (dk_qX15_goalRows 40).2 k e
theorem dk_X15_problem_248 {n : Nat} {g : Hp} {F : Nat} {o : Int32 × Hp} {x2 : Int32} {x3 : Int32} {x4 : Int32} {x6 : Int32} {x7 : Int32} {t0 : Int32} {k_197 : Hp → Nat → Int32 → Int32 → Int32 → Int32 → Int32 → Option (Int32 × Hp)} (R_197 : ∀ {h : Hp} {y2 : Int32} {y3 : Int32} {y4 : Int32} {y5 : Int32} {y6 : Int32}, DyK n g h → k_197 h (n + 513) y2 y3 y4 y5 y6 = some o → DyK n g o.2) {h : Hp} (k : DyK n g h) (e : sX15_problem_248 F k_197 h (n + 513) x2 x3 x4 x6 x7 t0 = some o) : DyK n g o.2 := by
  unfold sX15_problem_248 at e
  exact dk_X15_problem_270 R_197 k e
theorem dk_X15_problem_244 {n : Nat} {g : Hp} {F : Nat} {o : Int32 × Hp} {x2 : Int32} {x3 : Int32} {x4 : Int32} {x6 : Int32} {x7 : Int32} {t0 : Int32} {t1 : Int32} {t2 : Int32} {t3 : Int32} {k_197 : Hp → Nat → Int32 → Int32 → Int32 → Int32 → Int32 → Option (Int32 × Hp)} (R_197 : ∀ {h : Hp} {y2 : Int32} {y3 : Int32} {y4 : Int32} {y5 : Int32} {y6 : Int32}, DyK n g h → k_197 h (n + 513) y2 y3 y4 y5 y6 = some o → DyK n g o.2) {h : Hp} (k : DyK n g h) (e : sX15_problem_244 F k_197 h (n + 513) x2 x3 x4 x6 x7 t0 t1 t2 t3 (n + 513) = some o) : DyK n g o.2 := by
  unfold sX15_problem_244 at e
  replace e := cl_s e
  obtain ⟨o_1, eo_1, e⟩ := e
  have ko_1 : DyK n g o_1.2 := dk_X15_goalRowsBy k eo_1
  exact dk_X15_problem_248 R_197 ko_1 e
theorem dk_X15_problem_234 {n : Nat} {g : Hp} {F : Nat} {o : Int32 × Hp} {x2 : Int32} {x3 : Int32} {x4 : Int32} {x6 : Int32} {x7 : Int32} {t0 : Int32} {t1 : Int32} {t2 : Int32} {k_197 : Hp → Nat → Int32 → Int32 → Int32 → Int32 → Int32 → Option (Int32 × Hp)} (R_197 : ∀ {h : Hp} {y2 : Int32} {y3 : Int32} {y4 : Int32} {y5 : Int32} {y6 : Int32}, DyK n g h → k_197 h (n + 513) y2 y3 y4 y5 y6 = some o → DyK n g o.2) {h : Hp} (k : DyK n g h) (e : sX15_problem_234 F k_197 h (n + 513) x2 x3 x4 x6 x7 t0 t1 t2 (n + 513) = some o) : DyK n g o.2 := by
  unfold sX15_problem_234 at e
  replace e := br_s e
  rcases e with ⟨_, e⟩ | ⟨_, e⟩
  · exact dk_X15_problem_244 R_197 k e
  · exact dk_X15_problem_244 R_197 k e
theorem dk_X15_problem_197 {n : Nat} {g : Hp} {F : Nat} {o : Int32 × Hp} : ∀ (f : Nat) {h : Hp} {x2 : Int32} {x3 : Int32} {x4 : Int32} {x6 : Int32} {x7 : Int32}, DyK n g h → sX15_problem_197 F f h (n + 513) x2 x3 x4 x6 x7 = some o → DyK n g o.2 := by
  intro f
  induction f with
  | zero => intro h x2 x3 x4 x6 x7 _ e; exact absurd e (by rw [sX15_problem_197]; exact fun z => nomatch z)
  | succ f ih =>
    intro h x2 x3 x4 x6 x7 k e
    rw [sX15_problem_197] at e
    replace e := cl_s e
    obtain ⟨r_1, _, e⟩ := e
    replace e := (gd_s e).2
    replace e := cl_s e
    obtain ⟨r_3, _, e⟩ := e
    replace e := br_s e
    rcases e with ⟨_, e⟩ | ⟨_, e⟩
    · rw [← Option.some.inj e]; exact k
    · replace e := br_s e
      rcases e with ⟨_, e⟩ | ⟨_, e⟩
      · replace e := cl_s e
        obtain ⟨o_6, eo_6, e⟩ := e
        have ko_6 : DyK n g o_6.2 := dk_X15_isMove k eo_6
        exact dk_X15_problem_262 (fun k e => ih k e) ko_6 e
      · replace e := br_s e
        rcases e with ⟨_, e⟩ | ⟨_, e⟩
        · exact dk_X15_problem_234 (fun k e => ih k e) k e
        · exact dk_X15_problem_234 (fun k e => ih k e) k e
theorem dk_X15_problem_191 {n : Nat} {g : Hp} {F : Nat} {o : Int32 × Hp} {x2 : Int32} {x3 : Int32} {x4 : Int32} {h : Hp} (k : DyK n g h) (e : sX15_problem_191 F h (n + 513) x2 x3 x4 = some o) : DyK n g o.2 := by
  unfold sX15_problem_191 at e
  exact dk_X15_problem_197 F k e
theorem dk_X15_problem_182 {n : Nat} {g : Hp} {F : Nat} {o : Int32 × Hp} {x2 : Int32} {x3 : Int32} {x4 : Int32} {t0 : Nat} {t1 : Nat} {h : Hp} (k : DyK n g h) (e : sX15_problem_182 F h (n + 513) x2 x3 x4 t0 t1 = some o) : DyK n g o.2 := by
  unfold sX15_problem_182 at e
  replace e := cl_s e
  obtain ⟨r_1, _, e⟩ := e
  replace e := (gd_s e).2
  replace e := cl_s e
  obtain ⟨r_3, _, e⟩ := e
  replace e := cl_s e
  obtain ⟨o_4, eo_4, e⟩ := e
  have ko_4 : DyK n g o_4 := dk_X15_legal k eo_4
  exact dk_X15_problem_191 ko_4 e
theorem dk_X15_problem_176 {n : Nat} {g : Hp} {F : Nat} {o : Int32 × Hp} {x2 : Int32} {x3 : Int32} {x4 : Int32} {h : Hp} (k : DyK n g h) (e : sX15_problem_176 F h (n + 513) x2 x3 x4 = some o) : DyK n g o.2 := by
  unfold sX15_problem_176 at e
  replace e := cl_s e
  obtain ⟨o_1, eo_1, e⟩ := e
  have ko_1 : DyK n g o_1.2 := dk_X15_deepBoard k eo_1
  exact dk_X15_problem_182 ko_1 e
theorem dk_X15_problem_167 {n : Nat} {g : Hp} {F : Nat} {o : Int32 × Hp} {x1 : Int32} {x2 : Int32} {x3 : Int32} {x4 : Int32} {t0 : Nat} {h : Hp} (k : DyK n g h) (e : sX15_problem_167 F h (n + 513) x1 x2 x3 x4 t0 = some o) : DyK n g o.2 := by
  unfold sX15_problem_167 at e
  replace e := cl_s e
  obtain ⟨r_1, _, e⟩ := e
  replace e := (gd_s e).2
  replace e := cl_s e
  obtain ⟨r_3, _, e⟩ := e
  replace e := cl_s e
  obtain ⟨o_4, eo_4, e⟩ := e
  have ko_4 : DyK n g o_4 := dk_X12_copy k eo_4
  exact dk_X15_problem_176 ko_4 e
theorem dk_X15_problem_120 {n : Nat} {g : Hp} {F : Nat} {o : Int32 × Hp} {x1 : Int32} {x2 : Int32} {x3 : Int32} {x4 : Int32} {t0 : Int32} {h : Hp} (k : DyK n g h) (e : sX15_problem_120 F h (n + 513) x1 x2 x3 x4 t0 = some o) : DyK n g o.2 := by
  unfold sX15_problem_120 at e
  replace e := br_s e
  rcases e with ⟨_, e⟩ | ⟨_, e⟩
  · rw [← Option.some.inj e]; exact k
  · replace e := nm_s e
    obtain ⟨h_2, wh_2, e⟩ := e
    have kh_2 : DyK n g h_2 := by rw [wh_2]; exact dk_wI k
    replace e := cl_s e
    obtain ⟨r_3, _, e⟩ := e
    replace e := (gd_s e).2
    replace e := nm_s e
    obtain ⟨h_5, wh_5, e⟩ := e
    have kh_5 : DyK n g h_5 := by rw [wh_5]; exact dk_wI kh_2
    replace e := nm_s e
    obtain ⟨h_6, wh_6, e⟩ := e
    have kh_6 : DyK n g h_6 := by rw [wh_6]; exact dk_wI kh_5
    replace e := nm_s e
    obtain ⟨h_7, wh_7, e⟩ := e
    have kh_7 : DyK n g h_7 := by rw [wh_7]; exact dk_wI kh_6
    replace e := nm_s e
    obtain ⟨h_8, wh_8, e⟩ := e
    have kh_8 : DyK n g h_8 := by rw [wh_8]; exact dk_wI kh_7
    replace e := nm_s e
    obtain ⟨h_9, wh_9, e⟩ := e
    have kh_9 : DyK n g h_9 := by rw [wh_9]; exact dk_wI kh_8
    replace e := cl_s e
    obtain ⟨o_10, eo_10, e⟩ := e
    have ko_10 : DyK n g o_10.2 := dk_X15_deepBoard kh_9 eo_10
    exact dk_X15_problem_167 ko_10 e
theorem dk_X15_problem_117 {n : Nat} {g : Hp} {F : Nat} {o : Int32 × Hp} {x1 : Int32} {x2 : Int32} {x3 : Int32} {x4 : Int32} {t0 : Int32} {t1 : Int32} {t2 : Nat} {h : Hp} (k : DyK n g h) (e : sX15_problem_117 F h (n + 513) x1 x2 x3 x4 t0 t1 t2 (n + 513) = some o) : DyK n g o.2 := by
  unfold sX15_problem_117 at e
  replace e := cl_s e
  obtain ⟨o_1, eo_1, e⟩ := e
  have ko_1 : DyK n g o_1.2 := dk_X15_isRoom k eo_1
  exact dk_X15_problem_120 ko_1 e
theorem dk_X15_problem_96 {n : Nat} {g : Hp} {F : Nat} {o : Int32 × Hp} {x1 : Int32} {x2 : Int32} {x3 : Int32} {x4 : Int32} {t0 : Int32} {h : Hp} (k : DyK n g h) (e : sX15_problem_96 F h (n + 513) x1 x2 x3 x4 t0 = some o) : DyK n g o.2 := by
  unfold sX15_problem_96 at e
  replace e := cl_s e
  obtain ⟨r_1, _, e⟩ := e
  replace e := (gd_s e).2
  replace e := cl_s e
  obtain ⟨r_3, _, e⟩ := e
  replace e := br_s e
  rcases e with ⟨_, e⟩ | ⟨_, e⟩
  · exact dk_X15_problem_117 k e
  · exact dk_X15_problem_117 k e
theorem dk_X15_problem_63 {n : Nat} {g : Hp} {F : Nat} {o : Int32 × Hp} {x1 : Int32} {x2 : Int32} {x3 : Int32} {x4 : Int32} {t0 : Int32} {h : Hp} (k : DyK n g h) (e : sX15_problem_63 F h (n + 513) x1 x2 x3 x4 t0 = some o) : DyK n g o.2 := by
  unfold sX15_problem_63 at e
  replace e := br_s e
  rcases e with ⟨_, e⟩ | ⟨_, e⟩
  · replace e := br_s e
    rcases e with ⟨_, e⟩ | ⟨_, e⟩
    · exact dk_X15_problem_96 k e
    · replace e := br_s e
      rcases e with ⟨_, e⟩ | ⟨_, e⟩
      · exact dk_X15_problem_96 k e
      · exact dk_X15_problem_96 k e
  · rw [← Option.some.inj e]; exact k
theorem dk_X15_problem_38 {n : Nat} {g : Hp} {F : Nat} {o : Int32 × Hp} {x1 : Int32} {x2 : Int32} {x3 : Int32} {x4 : Int32} {t0 : Int32} {h : Hp} (k : DyK n g h) (e : sX15_problem_38 F h (n + 513) x1 x2 x3 x4 t0 = some o) : DyK n g o.2 := by
  unfold sX15_problem_38 at e
  replace e := br_s e
  rcases e with ⟨_, e⟩ | ⟨_, e⟩
  · rw [← Option.some.inj e]; exact k
  · replace e := cl_s e
    obtain ⟨r_2, _, e⟩ := e
    replace e := (gd_s e).2
    replace e := cl_s e
    obtain ⟨r_4, _, e⟩ := e
    replace e := cl_s e
    obtain ⟨r_5, _, e⟩ := e
    replace e := cl_s e
    obtain ⟨o_6, eo_6, e⟩ := e
    have ko_6 : DyK n g o_6.2 := dk_X15_endedBy k eo_6
    exact dk_X15_problem_63 ko_6 e
theorem dk_X15_problem {n : Nat} {g : Hp} {F : Nat} {o : Int32 × Hp} {x1 : Int32} {x2 : Int32} {x3 : Int32} {x4 : Int32} {h : Hp} (k : DyK n g h) (e : sX15_problem F h (n + 513) x1 x2 x3 x4 = some o) : DyK n g o.2 := by
  unfold sX15_problem at e
  replace e := br_s e
  rcases e with ⟨_, e⟩ | ⟨_, e⟩
  · exact dk_X15_problem_30 k e
  · replace e := br_s e
    rcases e with ⟨_, e⟩ | ⟨_, e⟩
    · exact dk_X15_problem_30 k e
    · replace e := br_s e
      rcases e with ⟨_, e⟩ | ⟨_, e⟩
      · exact dk_X15_problem_30 k e
      · replace e := br_s e
        rcases e with ⟨_, e⟩ | ⟨_, e⟩
        · exact dk_X15_problem_30 k e
        · replace e := br_s e
          rcases e with ⟨_, e⟩ | ⟨_, e⟩
          · exact dk_X15_problem_30 k e
          · replace e := br_s e
            rcases e with ⟨_, e⟩ | ⟨_, e⟩
            · replace e := cl_s e
              obtain ⟨o_7, eo_7, e⟩ := e
              have ko_7 : DyK n g o_7.2 := dk_X15_moves k eo_7
              exact dk_X15_problem_38 ko_7 e
            · exact dk_X15_problem_30 k e
theorem dk_X15_isProblem_28 {n : Nat} {g : Hp} {o : Int32 × Hp} {t0 : Int32} {h : Hp} (k : DyK n g h) (e : sX15_isProblem_28 h t0 = some o) : DyK n g o.2 := by
  unfold sX15_isProblem_28 at e
  replace e := (gd_s e).2
  rw [← Option.some.inj e]; exact k
theorem dk_X15_isProblem_27 {n : Nat} {g : Hp} {o : Int32 × Hp} {h : Hp} (k : DyK n g h) (e : sX15_isProblem_27 h = some o) : DyK n g o.2 := by
  unfold sX15_isProblem_27 at e
  exact dk_X15_isProblem_28 k e
theorem dk_X15_isProblem {n : Nat} {g : Hp} {o : Int32 × Hp} {x0 : Nat} {h : Hp} (k : DyK n g h) (e : sX15_isProblem h x0 = some o) : DyK n g o.2 := by
  unfold sX15_isProblem at e
  replace e := br_s e
  rcases e with ⟨_, e⟩ | ⟨_, e⟩
  · exact dk_X15_isProblem_27 k e
  · replace e := cl_s e
    obtain ⟨r_2, _, e⟩ := e
    replace e := (gd_s e).2
    replace e := br_s e
    rcases e with ⟨_, e⟩ | ⟨_, e⟩
    · exact dk_X15_isProblem_28 k e
    · exact dk_X15_isProblem_27 k e
theorem dk_X15_key_29 {n : Nat} {g : Hp} {o : Int32 × Hp} {t0 : Int32} {h : Hp} (k : DyK n g h) (e : sX15_key_29 h t0 = some o) : DyK n g o.2 := by
  unfold sX15_key_29 at e
  rw [← Option.some.inj e]; exact k
theorem dk_X15_key_19 {n : Nat} {g : Hp} {o : Int32 × Hp} {h : Hp} (k : DyK n g h) (e : sX15_key_19 h = some o) : DyK n g o.2 := by
  unfold sX15_key_19 at e
  exact dk_X15_key_29 k e
theorem dk_X15_key {n : Nat} {g : Hp} {o : Int32 × Hp} {x0 : Nat} {x1 : Int32} {h : Hp} (k : DyK n g h) (e : sX15_key h x0 x1 = some o) : DyK n g o.2 := by
  unfold sX15_key at e
  replace e := cl_s e
  obtain ⟨o_1, eo_1, e⟩ := e
  have ko_1 : DyK n g o_1.2 := dk_X15_isProblem k eo_1
  replace e := br_s e
  rcases e with ⟨_, e⟩ | ⟨_, e⟩
  · exact dk_X15_key_19 ko_1 e
  · replace e := br_s e
    rcases e with ⟨_, e⟩ | ⟨_, e⟩
    · exact dk_X15_key_19 ko_1 e
    · replace e := br_s e
      rcases e with ⟨_, e⟩ | ⟨_, e⟩
      · replace e := cl_s e
        obtain ⟨r_5, _, e⟩ := e
        replace e := (gd_s e).2
        exact dk_X15_key_29 ko_1 e
      · exact dk_X15_key_19 ko_1 e
theorem dk_X15_refutes_15 {n : Nat} {g : Hp} {F : Nat} {o : Int32 × Hp} {h : Hp} (k : DyK n g h) (e : sX15_refutes_15 F h = some o) : DyK n g o.2 := by
  unfold sX15_refutes_15 at e
  rw [← Option.some.inj e]; exact k
theorem dk_X15_refutes_66 {n : Nat} {g : Hp} {F : Nat} {o : Int32 × Hp} {h : Hp} (k : DyK n g h) (e : sX15_refutes_66 F h = some o) : DyK n g o.2 := by
  unfold sX15_refutes_66 at e
  rw [← Option.some.inj e]; exact k
theorem dk_X15_refutes_147 {n : Nat} {g : Hp} {F : Nat} {o : Int32 × Hp} {x3 : Int32} {t0 : Int32} {t1 : Int32} {k_107 : Hp → Nat → Int32 → Int32 → Option (Int32 × Hp)} (R_107 : ∀ {h : Hp} {y2 : Int32} {y3 : Int32}, DyK n g h → k_107 h (n + 513) y2 y3 = some o → DyK n g o.2) {h : Hp} (k : DyK n g h) (e : sX15_refutes_147 F k_107 h (n + 513) x3 t0 t1 = some o) : DyK n g o.2 := by
  unfold sX15_refutes_147 at e
  replace e := nm_s e
  obtain ⟨v_1, wv_1, e⟩ := e
  replace e := nm_s e
  obtain ⟨v_2, wv_2, e⟩ := e
  exact R_107 k e
theorem dk_X15_refutes_139 {n : Nat} {g : Hp} {F : Nat} {o : Int32 × Hp} {x3 : Int32} {t0 : Int32} {t1 : Int32} {k_107 : Hp → Nat → Int32 → Int32 → Option (Int32 × Hp)} (R_107 : ∀ {h : Hp} {y2 : Int32} {y3 : Int32}, DyK n g h → k_107 h (n + 513) y2 y3 = some o → DyK n g o.2) {h : Hp} (k : DyK n g h) (e : sX15_refutes_139 F k_107 h (n + 513) x3 t0 t1 = some o) : DyK n g o.2 := by
  unfold sX15_refutes_139 at e
  replace e := br_s e
  rcases e with ⟨_, e⟩ | ⟨_, e⟩
  · exact dk_X15_refutes_147 R_107 k e
  · exact dk_X15_refutes_147 R_107 k e
theorem dk_X15_refutes_107 {n : Nat} {g : Hp} {F : Nat} {o : Int32 × Hp} : ∀ (f : Nat) {h : Hp} {x2 : Int32} {x3 : Int32}, DyK n g h → sX15_refutes_107 F f h (n + 513) x2 x3 = some o → DyK n g o.2 := by
  intro f
  induction f with
  | zero => intro h x2 x3 _ e; exact absurd e (by rw [sX15_refutes_107]; exact fun z => nomatch z)
  | succ f ih =>
    intro h x2 x3 k e
    rw [sX15_refutes_107] at e
    replace e := cl_s e
    obtain ⟨r_1, _, e⟩ := e
    replace e := (gd_s e).2
    replace e := cl_s e
    obtain ⟨r_3, _, e⟩ := e
    replace e := br_s e
    rcases e with ⟨_, e⟩ | ⟨_, e⟩
    · rw [← Option.some.inj e]; exact k
    · replace e := cl_s e
      obtain ⟨o_5, eo_5, e⟩ := e
      have ko_5 : DyK n g o_5.2 := dk_X15_isAnswered k eo_5
      exact dk_X15_refutes_139 (fun k e => ih k e) ko_5 e
theorem dk_X15_refutes_101 {n : Nat} {g : Hp} {F : Nat} {o : Int32 × Hp} {h : Hp} (k : DyK n g h) (e : sX15_refutes_101 F h = some o) : DyK n g o.2 := by
  unfold sX15_refutes_101 at e
  rw [← Option.some.inj e]; exact k
theorem dk_X15_refutes_98 {n : Nat} {g : Hp} {F : Nat} {o : Int32 × Hp} {t0 : Int32} {h : Hp} (k : DyK n g h) (e : sX15_refutes_98 F h (n + 513) t0 = some o) : DyK n g o.2 := by
  unfold sX15_refutes_98 at e
  replace e := br_s e
  rcases e with ⟨_, e⟩ | ⟨_, e⟩
  · exact dk_X15_refutes_107 F k e
  · exact dk_X15_refutes_101 k e
theorem dk_X15_refutes_93 {n : Nat} {g : Hp} {F : Nat} {o : Int32 × Hp} {h : Hp} (k : DyK n g h) (e : sX15_refutes_93 F h (n + 513) = some o) : DyK n g o.2 := by
  unfold sX15_refutes_93 at e
  replace e := cl_s e
  obtain ⟨o_1, eo_1, e⟩ := e
  have ko_1 : DyK n g o_1.2 := dk_X15_hasEnded k eo_1
  exact dk_X15_refutes_98 ko_1 e
theorem dk_X15_refutes_90 {n : Nat} {g : Hp} {F : Nat} {o : Int32 × Hp} {t0 : Int32} {h : Hp} (k : DyK n g h) (e : sX15_refutes_90 F h (n + 513) t0 = some o) : DyK n g o.2 := by
  unfold sX15_refutes_90 at e
  replace e := br_s e
  rcases e with ⟨_, e⟩ | ⟨_, e⟩
  · exact dk_X15_refutes_93 k e
  · exact dk_X15_refutes_101 k e
theorem dk_X15_refutes_74 {n : Nat} {g : Hp} {F : Nat} {o : Int32 × Hp} {h : Hp} (k : DyK n g h) (e : sX15_refutes_74 F h (n + 513) = some o) : DyK n g o.2 := by
  unfold sX15_refutes_74 at e
  replace e := br_s e
  rcases e with ⟨_, e⟩ | ⟨_, e⟩
  · replace e := cl_s e
    obtain ⟨o_2, eo_2, e⟩ := e
    have ko_2 : DyK n g o_2.2 := dk_X15_isGoal k eo_2
    exact dk_X15_refutes_90 ko_2 e
  · exact dk_X15_refutes_93 k e
theorem dk_X15_refutes_49 {n : Nat} {g : Hp} {F : Nat} {o : Int32 × Hp} {x1 : Int32} {h : Hp} (k : DyK n g h) (e : sX15_refutes_49 F h (n + 513) x1 = some o) : DyK n g o.2 := by
  unfold sX15_refutes_49 at e
  replace e := br_s e
  rcases e with ⟨_, e⟩ | ⟨_, e⟩
  · exact dk_X15_refutes_66 k e
  · replace e := cl_s e
    obtain ⟨r_2, _, e⟩ := e
    replace e := (gd_s e).2
    replace e := cl_s e
    obtain ⟨r_4, _, e⟩ := e
    replace e := br_s e
    rcases e with ⟨_, e⟩ | ⟨_, e⟩
    · replace e := cl_s e
      obtain ⟨o_6, eo_6, e⟩ := e
      have ko_6 : DyK n g o_6 := dk_X15_step k eo_6
      exact dk_X15_refutes_74 ko_6 e
    · exact dk_X15_refutes_66 k e
theorem dk_X15_refutes_40 {n : Nat} {g : Hp} {F : Nat} {o : Int32 × Hp} {x1 : Int32} {t0 : Nat} {t1 : Nat} {h : Hp} (k : DyK n g h) (e : sX15_refutes_40 F h (n + 513) x1 t0 t1 = some o) : DyK n g o.2 := by
  unfold sX15_refutes_40 at e
  replace e := cl_s e
  obtain ⟨r_1, _, e⟩ := e
  replace e := (gd_s e).2
  replace e := cl_s e
  obtain ⟨r_3, _, e⟩ := e
  replace e := cl_s e
  obtain ⟨o_4, eo_4, e⟩ := e
  have ko_4 : DyK n g o_4 := dk_X15_legal k eo_4
  exact dk_X15_refutes_49 ko_4 e
theorem dk_X15_refutes_34 {n : Nat} {g : Hp} {F : Nat} {o : Int32 × Hp} {x1 : Int32} {h : Hp} (k : DyK n g h) (e : sX15_refutes_34 F h (n + 513) x1 = some o) : DyK n g o.2 := by
  unfold sX15_refutes_34 at e
  replace e := cl_s e
  obtain ⟨o_1, eo_1, e⟩ := e
  have ko_1 : DyK n g o_1.2 := dk_X15_deepBoard k eo_1
  exact dk_X15_refutes_40 ko_1 e
theorem dk_X15_refutes_22 {n : Nat} {g : Hp} {F : Nat} {o : Int32 × Hp} {x1 : Int32} {t0 : Nat} {h : Hp} (k : DyK n g h) (e : sX15_refutes_22 F h (n + 513) x1 t0 = some o) : DyK n g o.2 := by
  unfold sX15_refutes_22 at e
  replace e := cl_s e
  obtain ⟨r_1, _, e⟩ := e
  replace e := (gd_s e).2
  replace e := cl_s e
  obtain ⟨r_3, _, e⟩ := e
  replace e := cl_s e
  obtain ⟨o_4, eo_4, e⟩ := e
  have ko_4 : DyK n g o_4 := dk_X12_copy k eo_4
  exact dk_X15_refutes_34 ko_4 e
theorem dk_X15_refutes_4 {n : Nat} {g : Hp} {F : Nat} {o : Int32 × Hp} {x1 : Int32} {t0 : Int32} {h : Hp} (k : DyK n g h) (e : sX15_refutes_4 F h (n + 513) x1 t0 = some o) : DyK n g o.2 := by
  unfold sX15_refutes_4 at e
  replace e := br_s e
  rcases e with ⟨_, e⟩ | ⟨_, e⟩
  · exact dk_X15_refutes_15 k e
  · replace e := br_s e
    rcases e with ⟨_, e⟩ | ⟨_, e⟩
    · replace e := cl_s e
      obtain ⟨o_3, eo_3, e⟩ := e
      have ko_3 : DyK n g o_3.2 := dk_X15_deepBoard k eo_3
      exact dk_X15_refutes_22 ko_3 e
    · exact dk_X15_refutes_15 k e
theorem dk_X15_refutes {n : Nat} {g : Hp} {F : Nat} {o : Int32 × Hp} {x1 : Int32} {h : Hp} (k : DyK n g h) (e : sX15_refutes F h (n + 513) x1 = some o) : DyK n g o.2 := by
  unfold sX15_refutes at e
  replace e := cl_s e
  obtain ⟨o_1, eo_1, e⟩ := e
  have ko_1 : DyK n g o_1.2 := dk_X15_isProblem k eo_1
  exact dk_X15_refutes_4 ko_1 e
theorem dk_X9_append_36 {n : Nat} {g : Hp} {o : Hp} {h : Hp} (k : DyK n g h) (e : sX9_append_36 h = some o) : DyK n g o := by
  unfold sX9_append_36 at e
  rw [← Option.some.inj e]; exact k
theorem dk_X9_append {n : Nat} {g : Hp} {o : Hp} {x0 : Nat} {x1 : Int32} {h : Hp} (k : DyK n g h) (e : sX9_append h x0 x1 = some o) : DyK n g o := by
  unfold sX9_append at e
  replace e := cl_s e
  obtain ⟨r_1, _, e⟩ := e
  replace e := br_s e
  rcases e with ⟨_, e⟩ | ⟨_, e⟩
  · exact dk_X9_append_36 k e
  · replace e := cl_s e
    obtain ⟨r_3, _, e⟩ := e
    replace e := (gd_s e).2
    replace e := nm_s e
    obtain ⟨h_5, wh_5, e⟩ := e
    have kh_5 : DyK n g h_5 := by rw [wh_5]; exact dk_wI k
    replace e := nm_s e
    obtain ⟨h_6, wh_6, e⟩ := e
    have kh_6 : DyK n g h_6 := by rw [wh_6]; exact dk_wI kh_5
    exact dk_X9_append_36 kh_6 e
theorem dk_X9_appendNumber {n : Nat} {g : Hp} {o : Hp} {x0 : Nat} {x1 : Int32} {h : Hp} (k : DyK n g h) (e : sX9_appendNumber h x0 x1 = some o) : DyK n g o := by
  unfold sX9_appendNumber at e
  replace e := cl_s e
  obtain ⟨o_1, eo_1, e⟩ := e
  have ko_1 : DyK n g o_1 := dk_X9_append k eo_1
  replace e := cl_s e
  obtain ⟨o_2, eo_2, e⟩ := e
  have ko_2 : DyK n g o_2 := dk_X9_append ko_1 eo_2
  replace e := cl_s e
  obtain ⟨o_3, eo_3, e⟩ := e
  have ko_3 : DyK n g o_3 := dk_X9_append ko_2 eo_3
  replace e := cl_s e
  obtain ⟨o_4, eo_4, e⟩ := e
  have ko_4 : DyK n g o_4 := dk_X9_append ko_3 eo_4
  rw [← Option.some.inj e]; exact ko_4
theorem dk_X11_feed {n : Nat} {g : Hp} {o : Int32 × Hp} {x0 : Nat} {x1 : Int32} {x2 : Int32} {x3 : Int32} {x4 : Int32} {x5 : Int32} {h : Hp} (k : DyK n g h) (e : sX11_feed h x0 x1 x2 x3 x4 x5 = some o) : DyK n g o.2 := by
  unfold sX11_feed at e
  replace e := cl_s e
  obtain ⟨r_1, _, e⟩ := e
  replace e := br_s e
  rcases e with ⟨_, e⟩ | ⟨_, e⟩
  · replace e := cl_s e
    obtain ⟨r_3, _, e⟩ := e
    replace e := cl_s e
    obtain ⟨o_4, eo_4, e⟩ := e
    have ko_4 : DyK n g o_4 := dk_X9_appendNumber k eo_4
    replace e := cl_s e
    obtain ⟨r_5, _, e⟩ := e
    replace e := cl_s e
    obtain ⟨o_6, eo_6, e⟩ := e
    have ko_6 : DyK n g o_6 := dk_X9_appendNumber ko_4 eo_6
    replace e := cl_s e
    obtain ⟨r_7, _, e⟩ := e
    replace e := cl_s e
    obtain ⟨o_8, eo_8, e⟩ := e
    have ko_8 : DyK n g o_8 := dk_X9_appendNumber ko_6 eo_8
    replace e := cl_s e
    obtain ⟨r_9, _, e⟩ := e
    replace e := cl_s e
    obtain ⟨o_10, eo_10, e⟩ := e
    have ko_10 : DyK n g o_10 := dk_X9_appendNumber ko_8 eo_10
    replace e := cl_s e
    obtain ⟨r_11, _, e⟩ := e
    replace e := cl_s e
    obtain ⟨o_12, eo_12, e⟩ := e
    have ko_12 : DyK n g o_12 := dk_X9_appendNumber ko_10 eo_12
    replace e := cl_s e
    obtain ⟨r_13, _, e⟩ := e
    rw [← Option.some.inj e]; exact ko_12
  · rw [← Option.some.inj e]; exact k
theorem dk_X11_end_15 {n : Nat} {g : Hp} {o : Int32 × Hp} {h : Hp} (k : DyK n g h) (e : sX11_end_15 h = some o) : DyK n g o.2 := by
  unfold sX11_end_15 at e
  rw [← Option.some.inj e]; exact k
theorem dk_X11_end {n : Nat} {g : Hp} {o : Int32 × Hp} {x0 : Nat} {x1 : Int32} {h : Hp} (k : DyK n g h) (e : sX11_end h x0 x1 = some o) : DyK n g o.2 := by
  unfold sX11_end at e
  replace e := br_s e
  rcases e with ⟨_, e⟩ | ⟨_, e⟩
  · exact dk_X11_end_15 k e
  · replace e := cl_s e
    obtain ⟨r_2, _, e⟩ := e
    replace e := br_s e
    rcases e with ⟨_, e⟩ | ⟨_, e⟩
    · replace e := cl_s e
      obtain ⟨r_4, _, e⟩ := e
      replace e := nm_s e
      obtain ⟨h_5, wh_5, e⟩ := e
      have kh_5 : DyK n g h_5 := by rw [wh_5]; exact dk_wI k
      rw [← Option.some.inj e]; exact kh_5
    · exact dk_X11_end_15 k e
theorem dk_X11_countPlaces_25 {n : Nat} {g : Hp} {F : Nat} {o : Int32 × Hp} {x0 : Nat} {x2 : Int32} {t0 : Int32} {t1 : Int32} {k_4 : Hp → Nat → Int32 → Int32 → Option (Int32 × Hp)} (R_4 : ∀ {h : Hp} {y1 : Nat} {y2 : Int32} {y3 : Int32}, DyK n g h → k_4 h y1 y2 y3 = some o → DyK n g o.2) {h : Hp} (k : DyK n g h) (e : sX11_countPlaces_25 F k_4 h x0 x2 t0 t1 = some o) : DyK n g o.2 := by
  unfold sX11_countPlaces_25 at e
  replace e := nm_s e
  obtain ⟨v_1, wv_1, e⟩ := e
  replace e := nm_s e
  obtain ⟨v_2, wv_2, e⟩ := e
  exact R_4 k e
theorem dk_X11_countPlaces_4 {n : Nat} {g : Hp} {F : Nat} {o : Int32 × Hp} : ∀ (f : Nat) {h : Hp} {x0 : Nat} {x1 : Int32} {x2 : Int32}, DyK n g h → sX11_countPlaces_4 F f h x0 x1 x2 = some o → DyK n g o.2 := by
  intro f
  induction f with
  | zero => intro h x0 x1 x2 _ e; exact absurd e (by rw [sX11_countPlaces_4]; exact fun z => nomatch z)
  | succ f ih =>
    intro h x0 x1 x2 k e
    rw [sX11_countPlaces_4] at e
    replace e := br_s e
    rcases e with ⟨_, e⟩ | ⟨_, e⟩
    · rw [← Option.some.inj e]; exact k
    · replace e := cl_s e
      obtain ⟨r_2, _, e⟩ := e
      replace e := (gd_s e).2
      replace e := br_s e
      rcases e with ⟨_, e⟩ | ⟨_, e⟩
      · exact dk_X11_countPlaces_25 (fun k e => ih k e) k e
      · exact dk_X11_countPlaces_25 (fun k e => ih k e) k e
theorem dk_X11_countPlaces {n : Nat} {g : Hp} {F : Nat} {o : Int32 × Hp} {x0 : Nat} {h : Hp} (k : DyK n g h) (e : sX11_countPlaces F h x0 = some o) : DyK n g o.2 := by
  unfold sX11_countPlaces at e
  exact dk_X11_countPlaces_4 F k e
theorem dk_X11_told {n : Nat} {g : Hp} {F : Nat} {o : Int32 × Hp} {x0 : Nat} {x1 : Int32} {h : Hp} (k : DyK n g h) (e : sX11_told F h x0 x1 = some o) : DyK n g o.2 := by
  unfold sX11_told at e
  replace e := br_s e
  rcases e with ⟨_, e⟩ | ⟨_, e⟩
  · replace e := cl_s e
    obtain ⟨r_1, _, e⟩ := e
    rw [← Option.some.inj e]; exact k
  · replace e := br_s e
    rcases e with ⟨_, e⟩ | ⟨_, e⟩
    · replace e := cl_s e
      obtain ⟨r_3, _, e⟩ := e
      rw [← Option.some.inj e]; exact k
    · replace e := br_s e
      rcases e with ⟨_, e⟩ | ⟨_, e⟩
      · replace e := cl_s e
        obtain ⟨r_5, _, e⟩ := e
        rw [← Option.some.inj e]; exact k
      · replace e := br_s e
        rcases e with ⟨_, e⟩ | ⟨_, e⟩
        · replace e := cl_s e
          obtain ⟨r_7, _, e⟩ := e
          rw [← Option.some.inj e]; exact k
        · replace e := br_s e
          rcases e with ⟨_, e⟩ | ⟨_, e⟩
          · replace e := cl_s e
            obtain ⟨r_9, _, e⟩ := e
            rw [← Option.some.inj e]; exact k
          · replace e := br_s e
            rcases e with ⟨_, e⟩ | ⟨_, e⟩
            · replace e := cl_s e
              obtain ⟨o_11, eo_11, e⟩ := e
              have ko_11 : DyK n g o_11.2 := dk_X11_countPlaces k eo_11
              rw [← Option.some.inj e]; exact ko_11
            · replace e := br_s e
              rcases e with ⟨_, e⟩ | ⟨_, e⟩
              · replace e := cl_s e
                obtain ⟨r_13, _, e⟩ := e
                rw [← Option.some.inj e]; exact k
              · replace e := br_s e
                rcases e with ⟨_, e⟩ | ⟨_, e⟩
                · replace e := cl_s e
                  obtain ⟨r_15, _, e⟩ := e
                  rw [← Option.some.inj e]; exact k
                · rw [← Option.some.inj e]; exact k
theorem dk_X9_byteAt_22 {n : Nat} {g : Hp} {o : Int32 × Hp} {t0 : Int32} {h : Hp} (k : DyK n g h) (e : sX9_byteAt_22 h t0 = some o) : DyK n g o.2 := by
  unfold sX9_byteAt_22 at e
  rw [← Option.some.inj e]; exact k
theorem dk_X9_byteAt_21 {n : Nat} {g : Hp} {o : Int32 × Hp} {h : Hp} (k : DyK n g h) (e : sX9_byteAt_21 h = some o) : DyK n g o.2 := by
  unfold sX9_byteAt_21 at e
  exact dk_X9_byteAt_22 k e
theorem dk_X9_byteAt {n : Nat} {g : Hp} {o : Int32 × Hp} {x0 : Nat} {x1 : Int32} {h : Hp} (k : DyK n g h) (e : sX9_byteAt h x0 x1 = some o) : DyK n g o.2 := by
  unfold sX9_byteAt at e
  replace e := br_s e
  rcases e with ⟨_, e⟩ | ⟨_, e⟩
  · exact dk_X9_byteAt_21 k e
  · replace e := br_s e
    rcases e with ⟨_, e⟩ | ⟨_, e⟩
    · exact dk_X9_byteAt_21 k e
    · replace e := cl_s e
      obtain ⟨r_3, _, e⟩ := e
      replace e := (gd_s e).2
      exact dk_X9_byteAt_22 k e
theorem dk_X11_out {n : Nat} {g : Hp} {o : Int32 × Hp} {x0 : Nat} {x1 : Int32} {h : Hp} (k : DyK n g h) (e : sX11_out h x0 x1 = some o) : DyK n g o.2 := by
  unfold sX11_out at e
  replace e := cl_s e
  obtain ⟨r_1, _, e⟩ := e
  replace e := cl_s e
  obtain ⟨o_2, eo_2, e⟩ := e
  have ko_2 : DyK n g o_2.2 := dk_X9_byteAt k eo_2
  rw [← Option.some.inj e]; exact ko_2
theorem dk_X11_freePlace_2 {n : Nat} {g : Hp} {F : Nat} {o : Int32 × Hp} : ∀ (f : Nat) {h : Hp} {x0 : Nat} {x1 : Int32}, DyK n g h → sX11_freePlace_2 F f h x0 x1 = some o → DyK n g o.2 := by
  intro f
  induction f with
  | zero => intro h x0 x1 _ e; exact absurd e (by rw [sX11_freePlace_2]; exact fun z => nomatch z)
  | succ f ih =>
    intro h x0 x1 k e
    rw [sX11_freePlace_2] at e
    replace e := br_s e
    rcases e with ⟨_, e⟩ | ⟨_, e⟩
    · rw [← Option.some.inj e]; exact k
    · replace e := cl_s e
      obtain ⟨r_2, _, e⟩ := e
      replace e := (gd_s e).2
      replace e := br_s e
      rcases e with ⟨_, e⟩ | ⟨_, e⟩
      · rw [← Option.some.inj e]; exact k
      · replace e := nm_s e
        obtain ⟨v_5, wv_5, e⟩ := e
        exact ih k e
theorem dk_X11_freePlace {n : Nat} {g : Hp} {F : Nat} {o : Int32 × Hp} {x0 : Nat} {h : Hp} (k : DyK n g h) (e : sX11_freePlace F h x0 = some o) : DyK n g o.2 := by
  unfold sX11_freePlace at e
  exact dk_X11_freePlace_2 F k e
theorem dk_X9_clear {n : Nat} {g : Hp} {o : Hp} {x0 : Nat} {h : Hp} (k : DyK n g h) (e : sX9_clear h x0 = some o) : DyK n g o := by
  unfold sX9_clear at e
  replace e := nm_s e
  obtain ⟨h_1, wh_1, e⟩ := e
  have kh_1 : DyK n g h_1 := by rw [wh_1]; exact dk_wI k
  rw [← Option.some.inj e]; exact kh_1
theorem dk_X11_position_104 {n : Nat} {g : Hp} {F : Nat} {o : Int32 × Hp} {x2 : Int32} {h : Hp} (k : DyK n g h) (e : sX11_position_104 F h n x2 = some o) : DyK n g o.2 := by
  unfold sX11_position_104 at e
  replace e := cl_s e
  obtain ⟨r_1, _, e⟩ := e
  replace e := cl_s e
  obtain ⟨o_2, eo_2, e⟩ := e
  have ko_2 : DyK n g o_2 := dk_X9_clear k eo_2
  rw [← Option.some.inj e]; exact ko_2
theorem dk_J7_fill_031fb_5 {n : Nat} {g : Hp} {F : Nat} {o : Hp} : ∀ (f : Nat) {h : Hp} {x0 : Nat} {x1 : Int32} {x2 : Int32} {x3 : Int32}, DyK n g h → sJ7_fill_031fb_5 F f h x0 x1 x2 x3 = some o → DyK n g o := by
  intro f
  induction f with
  | zero => intro h x0 x1 x2 x3 _ e; exact absurd e (by rw [sJ7_fill_031fb_5]; exact fun z => nomatch z)
  | succ f ih =>
    intro h x0 x1 x2 x3 k e
    rw [sJ7_fill_031fb_5] at e
    replace e := br_s e
    rcases e with ⟨_, e⟩ | ⟨_, e⟩
    · rw [← Option.some.inj e]; exact k
    · replace e := (gd_s e).2
      replace e := nm_s e
      obtain ⟨h_3, wh_3, e⟩ := e
      have kh_3 : DyK n g h_3 := by rw [wh_3]; exact dk_wI k
      replace e := nm_s e
      obtain ⟨v_4, wv_4, e⟩ := e
      exact ih kh_3 e
theorem dk_J7_fill_031fb {n : Nat} {g : Hp} {F : Nat} {o : Hp} {x0 : Nat} {x1 : Int32} {h : Hp} (k : DyK n g h) (e : sJ7_fill_031fb F h x0 x1 = some o) : DyK n g o := by
  unfold sJ7_fill_031fb at e
  replace e := nm_s e
  obtain ⟨v_1, wv_1, e⟩ := e
  exact dk_J7_fill_031fb_5 F k e
theorem dk_J7_fill_d0a16_6 {n : Nat} {g : Hp} {F : Nat} {o : Hp} : ∀ (f : Nat) {h : Hp} {x0 : Nat} {x1 : Int64} {x3 : Int32} {x4 : Int32}, DyK n g h → sJ7_fill_d0a16_6 F f h x0 x1 x3 x4 = some o → DyK n g o := by
  intro f
  induction f with
  | zero => intro h x0 x1 x3 x4 _ e; exact absurd e (by rw [sJ7_fill_d0a16_6]; exact fun z => nomatch z)
  | succ f ih =>
    intro h x0 x1 x3 x4 k e
    rw [sJ7_fill_d0a16_6] at e
    replace e := br_s e
    rcases e with ⟨_, e⟩ | ⟨_, e⟩
    · rw [← Option.some.inj e]; exact k
    · replace e := (gd_s e).2
      replace e := nm_s e
      obtain ⟨h_3, wh_3, e⟩ := e
      have kh_3 : DyK n g h_3 := by rw [wh_3]; exact dk_wJ k
      replace e := nm_s e
      obtain ⟨v_4, wv_4, e⟩ := e
      exact ih kh_3 e
theorem dk_J7_fill_d0a16 {n : Nat} {g : Hp} {F : Nat} {o : Hp} {x0 : Nat} {x1 : Int64} {h : Hp} (k : DyK n g h) (e : sJ7_fill_d0a16 F h x0 x1 = some o) : DyK n g o := by
  unfold sJ7_fill_d0a16 at e
  replace e := nm_s e
  obtain ⟨v_1, wv_1, e⟩ := e
  exact dk_J7_fill_d0a16_6 F k e
theorem dk_J7_fill_53178_5 {n : Nat} {g : Hp} {F : Nat} {o : Hp} : ∀ (f : Nat) {h : Hp} {x0 : Nat} {x1 : Int32} {x2 : Int32} {x3 : Int32}, DyK n g h → sJ7_fill_53178_5 F f h x0 x1 x2 x3 = some o → DyK n g o := by
  intro f
  induction f with
  | zero => intro h x0 x1 x2 x3 _ e; exact absurd e (by rw [sJ7_fill_53178_5]; exact fun z => nomatch z)
  | succ f ih =>
    intro h x0 x1 x2 x3 k e
    rw [sJ7_fill_53178_5] at e
    replace e := br_s e
    rcases e with ⟨_, e⟩ | ⟨_, e⟩
    · rw [← Option.some.inj e]; exact k
    · replace e := (gd_s e).2
      replace e := nm_s e
      obtain ⟨h_3, wh_3, e⟩ := e
      have kh_3 : DyK n g h_3 := by rw [wh_3]; exact dk_wI k
      replace e := nm_s e
      obtain ⟨v_4, wv_4, e⟩ := e
      exact ih kh_3 e
theorem dk_J7_fill_53178 {n : Nat} {g : Hp} {F : Nat} {o : Hp} {x0 : Nat} {x1 : Int32} {h : Hp} (k : DyK n g h) (e : sJ7_fill_53178 F h x0 x1 = some o) : DyK n g o := by
  unfold sJ7_fill_53178 at e
  replace e := nm_s e
  obtain ⟨v_1, wv_1, e⟩ := e
  exact dk_J7_fill_53178_5 F k e
theorem dk_X3_strip {n : Nat} {g : Hp} {F : Nat} {o : Hp} {x0 : Nat} {h : Hp} (k : DyK n g h) (e : sX3_strip F h x0 = some o) : DyK n g o := by
  unfold sX3_strip at e
  replace e := nm_s e
  obtain ⟨h_1, wh_1, e⟩ := e
  have kh_1 : DyK n g h_1 := by rw [wh_1]; exact dk_wJ k
  replace e := nm_s e
  obtain ⟨h_2, wh_2, e⟩ := e
  have kh_2 : DyK n g h_2 := by rw [wh_2]; exact dk_wJ kh_1
  replace e := nm_s e
  obtain ⟨h_3, wh_3, e⟩ := e
  have kh_3 : DyK n g h_3 := by rw [wh_3]; exact dk_wJ kh_2
  replace e := cl_s e
  obtain ⟨r_4, _, e⟩ := e
  replace e := cl_s e
  obtain ⟨o_5, eo_5, e⟩ := e
  have ko_5 : DyK n g o_5 := dk_J7_fill_d0a16 kh_3 eo_5
  replace e := cl_s e
  obtain ⟨r_6, _, e⟩ := e
  replace e := cl_s e
  obtain ⟨o_7, eo_7, e⟩ := e
  have ko_7 : DyK n g o_7 := dk_J7_fill_53178 ko_5 eo_7
  replace e := nm_s e
  obtain ⟨h_8, wh_8, e⟩ := e
  have kh_8 : DyK n g h_8 := by rw [wh_8]; exact dk_wI ko_7
  rw [← Option.some.inj e]; exact kh_8
theorem dk_X3_clear {n : Nat} {g : Hp} {F : Nat} {o : Hp} {x0 : Nat} {h : Hp} (k : DyK n g h) (e : sX3_clear F h x0 = some o) : DyK n g o := by
  unfold sX3_clear at e
  replace e := cl_s e
  obtain ⟨r_1, _, e⟩ := e
  replace e := cl_s e
  obtain ⟨o_2, eo_2, e⟩ := e
  have ko_2 : DyK n g o_2 := dk_J7_fill_031fb k eo_2
  replace e := cl_s e
  obtain ⟨r_3, _, e⟩ := e
  replace e := cl_s e
  obtain ⟨o_4, eo_4, e⟩ := e
  have ko_4 : DyK n g o_4 := dk_J7_fill_d0a16 ko_2 eo_4
  replace e := cl_s e
  obtain ⟨r_5, _, e⟩ := e
  replace e := cl_s e
  obtain ⟨o_6, eo_6, e⟩ := e
  have ko_6 : DyK n g o_6 := dk_J7_fill_53178 ko_4 eo_6
  replace e := nm_s e
  obtain ⟨h_7, wh_7, e⟩ := e
  have kh_7 : DyK n g h_7 := by rw [wh_7]; exact dk_wI ko_6
  replace e := cl_s e
  obtain ⟨o_8, eo_8, e⟩ := e
  have ko_8 : DyK n g o_8 := dk_X3_strip kh_7 eo_8
  rw [← Option.some.inj e]; exact ko_8
theorem dk_X1_manOf_2 {n : Nat} {g : Hp} {F : Nat} {o : Int32 × Hp} : ∀ (f : Nat) {h : Hp} {x0 : Nat} {x1 : Int32} {x2 : Int32}, DyK n g h → sX1_manOf_2 F f h x0 x1 x2 = some o → DyK n g o.2 := by
  intro f
  induction f with
  | zero => intro h x0 x1 x2 _ e; exact absurd e (by rw [sX1_manOf_2]; exact fun z => nomatch z)
  | succ f ih =>
    intro h x0 x1 x2 k e
    rw [sX1_manOf_2] at e
    replace e := br_s e
    rcases e with ⟨_, e⟩ | ⟨_, e⟩
    · rw [← Option.some.inj e]; exact k
    · replace e := cl_s e
      obtain ⟨r_2, _, e⟩ := e
      replace e := (gd_s e).2
      replace e := br_s e
      rcases e with ⟨_, e⟩ | ⟨_, e⟩
      · rw [← Option.some.inj e]; exact k
      · replace e := nm_s e
        obtain ⟨v_5, wv_5, e⟩ := e
        exact ih k e
theorem dk_X1_manOf {n : Nat} {g : Hp} {F : Nat} {o : Int32 × Hp} {x0 : Nat} {x1 : Int32} {h : Hp} (k : DyK n g h) (e : sX1_manOf F h x0 x1 = some o) : DyK n g o.2 := by
  unfold sX1_manOf at e
  exact dk_X1_manOf_2 F k e
theorem dk_X1_codeOf_57 {n : Nat} {g : Hp} {F : Nat} {o : Int32 × Hp} {t0 : Int32} {h : Hp} (k : DyK n g h) (e : sX1_codeOf_57 F h t0 = some o) : DyK n g o.2 := by
  unfold sX1_codeOf_57 at e
  rw [← Option.some.inj e]; exact k
theorem dk_X1_codeOf_56 {n : Nat} {g : Hp} {F : Nat} {o : Int32 × Hp} {t0 : Int32} {t1 : Int32} {h : Hp} (k : DyK n g h) (e : sX1_codeOf_56 F h t0 t1 = some o) : DyK n g o.2 := by
  unfold sX1_codeOf_56 at e
  exact dk_X1_codeOf_57 k e
theorem dk_X1_codeOf_31 {n : Nat} {g : Hp} {F : Nat} {o : Int32 × Hp} {x2 : Int32} {t0 : Int32} {t1 : Nat} {h : Hp} (k : DyK n g h) (e : sX1_codeOf_31 F h x2 t0 t1 = some o) : DyK n g o.2 := by
  unfold sX1_codeOf_31 at e
  replace e := cl_s e
  obtain ⟨o_1, eo_1, e⟩ := e
  have ko_1 : DyK n g o_1.2 := dk_X1_manOf k eo_1
  replace e := br_s e
  rcases e with ⟨_, e⟩ | ⟨_, e⟩
  · exact dk_X1_codeOf_57 ko_1 e
  · replace e := br_s e
    rcases e with ⟨_, e⟩ | ⟨_, e⟩
    · exact dk_X1_codeOf_56 ko_1 e
    · exact dk_X1_codeOf_56 ko_1 e
theorem dk_X1_codeOf_17 {n : Nat} {g : Hp} {F : Nat} {o : Int32 × Hp} {x0 : Nat} {x1 : Int32} {t0 : Int32} {h : Hp} (k : DyK n g h) (e : sX1_codeOf_17 F h x0 x1 t0 = some o) : DyK n g o.2 := by
  unfold sX1_codeOf_17 at e
  replace e := br_s e
  rcases e with ⟨_, e⟩ | ⟨_, e⟩
  · exact dk_X1_codeOf_31 k e
  · exact dk_X1_codeOf_31 k e
theorem dk_X1_codeOf_16 {n : Nat} {g : Hp} {F : Nat} {o : Int32 × Hp} {x0 : Nat} {x1 : Int32} {h : Hp} (k : DyK n g h) (e : sX1_codeOf_16 F h x0 x1 = some o) : DyK n g o.2 := by
  unfold sX1_codeOf_16 at e
  exact dk_X1_codeOf_17 k e
theorem dk_X1_codeOf {n : Nat} {g : Hp} {F : Nat} {o : Int32 × Hp} {x0 : Nat} {x1 : Int32} {h : Hp} (k : DyK n g h) (e : sX1_codeOf F h x0 x1 = some o) : DyK n g o.2 := by
  unfold sX1_codeOf at e
  replace e := br_s e
  rcases e with ⟨_, e⟩ | ⟨_, e⟩
  · exact dk_X1_codeOf_16 k e
  · replace e := br_s e
    rcases e with ⟨_, e⟩ | ⟨_, e⟩
    · exact dk_X1_codeOf_16 k e
    · exact dk_X1_codeOf_17 k e
theorem dk_X7_readRanks_125 {n : Nat} {g : Hp} {F : Nat} {o : Int32 × Hp} {h : Hp} (k : DyK n g h) (e : sX7_readRanks_125 F h = some o) : DyK n g o.2 := by
  unfold sX7_readRanks_125 at e
  rw [← Option.some.inj e]; exact k
theorem dk_X7_readRanks_170 {n : Nat} {g : Hp} {F : Nat} {o : Int32 × Hp} {x0 : Nat} {x1 : Nat} {x2 : Int32} {t0 : Int32} {t1 : Int32} {k_10 : Hp → Nat → Nat → Int32 → Option (Int32 × Hp)} (R_10 : ∀ {h : Hp} {y1 : Nat} {y2 : Nat} {y3 : Int32}, DyK n g h → k_10 h y1 y2 y3 = some o → DyK n g o.2) {k_40 : Hp → Nat → Nat → Int32 → Int32 → Option (Int32 × Hp)} (R_40 : ∀ {h : Hp} {y1 : Nat} {y2 : Nat} {y3 : Int32} {y4 : Int32}, DyK n g h → k_40 h y1 y2 y3 y4 = some o → DyK n g o.2) {h : Hp} (k : DyK n g h) (e : sX7_readRanks_170 F k_10 k_40 h x0 x1 x2 t0 t1 = some o) : DyK n g o.2 := by
  unfold sX7_readRanks_170 at e
  replace e := nm_s e
  obtain ⟨v_1, wv_1, e⟩ := e
  replace e := nm_s e
  obtain ⟨h_2, wh_2, e⟩ := e
  have kh_2 : DyK n g h_2 := by rw [wh_2]; exact dk_wI k
  exact R_40 kh_2 e
theorem dk_X7_readRanks_157 {n : Nat} {g : Hp} {F : Nat} {o : Int32 × Hp} {x0 : Nat} {x1 : Nat} {x2 : Int32} {x3 : Int32} {x5 : Int32} {x6 : Int32} {k_10 : Hp → Nat → Nat → Int32 → Option (Int32 × Hp)} (R_10 : ∀ {h : Hp} {y1 : Nat} {y2 : Nat} {y3 : Int32}, DyK n g h → k_10 h y1 y2 y3 = some o → DyK n g o.2) {k_40 : Hp → Nat → Nat → Int32 → Int32 → Option (Int32 × Hp)} (R_40 : ∀ {h : Hp} {y1 : Nat} {y2 : Nat} {y3 : Int32} {y4 : Int32}, DyK n g h → k_40 h y1 y2 y3 y4 = some o → DyK n g o.2) {h : Hp} (k : DyK n g h) (e : sX7_readRanks_157 F k_10 k_40 h x0 x1 x2 x3 x5 x6 = some o) : DyK n g o.2 := by
  unfold sX7_readRanks_157 at e
  replace e := br_s e
  rcases e with ⟨_, e⟩ | ⟨_, e⟩
  · exact dk_X7_readRanks_170 R_10 R_40 k e
  · exact dk_X7_readRanks_170 R_10 R_40 k e
theorem dk_X3_put_10 {n : Nat} {g : Hp} {o : Hp} {h : Hp} (k : DyK n g h) (e : sX3_put_10 h = some o) : DyK n g o := by
  unfold sX3_put_10 at e
  rw [← Option.some.inj e]; exact k
theorem dk_X3_put_111 {n : Nat} {g : Hp} {o : Hp} {x0 : Nat} {x4 : Int64} {h : Hp} (k : DyK n g h) (e : sX3_put_111 h x0 x4 = some o) : DyK n g o := by
  unfold sX3_put_111 at e
  replace e := nm_s e
  obtain ⟨h_1, wh_1, e⟩ := e
  have kh_1 : DyK n g h_1 := by rw [wh_1]; exact dk_wJ k
  rw [← Option.some.inj e]; exact kh_1
theorem dk_X3_put_70 {n : Nat} {g : Hp} {o : Hp} {x0 : Nat} {x1 : Int32} {x2 : Int32} {x3 : Int32} {x4 : Int64} {h : Hp} (k : DyK n g h) (e : sX3_put_70 h x0 x1 x2 x3 x4 = some o) : DyK n g o := by
  unfold sX3_put_70 at e
  replace e := cl_s e
  obtain ⟨r_1, _, e⟩ := e
  replace e := (gd_s e).2
  replace e := nm_s e
  obtain ⟨h_3, wh_3, e⟩ := e
  have kh_3 : DyK n g h_3 := by rw [wh_3]; exact dk_wI k
  replace e := br_s e
  rcases e with ⟨_, e⟩ | ⟨_, e⟩
  · exact dk_X3_put_111 kh_3 e
  · replace e := cl_s e
    obtain ⟨r_5, _, e⟩ := e
    replace e := (gd_s e).2
    replace e := (gd_s e).2
    replace e := nm_s e
    obtain ⟨h_8, wh_8, e⟩ := e
    have kh_8 : DyK n g h_8 := by rw [wh_8]; exact dk_wJ kh_3
    replace e := br_s e
    rcases e with ⟨_, e⟩ | ⟨_, e⟩
    · replace e := cl_s e
      obtain ⟨r_10, _, e⟩ := e
      replace e := (gd_s e).2
      replace e := nm_s e
      obtain ⟨h_12, wh_12, e⟩ := e
      have kh_12 : DyK n g h_12 := by rw [wh_12]; exact dk_wI kh_8
      exact dk_X3_put_111 kh_12 e
    · exact dk_X3_put_111 kh_8 e
theorem dk_X3_put {n : Nat} {g : Hp} {o : Hp} {x0 : Nat} {x1 : Int32} {x2 : Int32} {x3 : Int32} {h : Hp} (k : DyK n g h) (e : sX3_put h x0 x1 x2 x3 = some o) : DyK n g o := by
  unfold sX3_put at e
  replace e := br_s e
  rcases e with ⟨_, e⟩ | ⟨_, e⟩
  · exact dk_X3_put_10 k e
  · replace e := br_s e
    rcases e with ⟨_, e⟩ | ⟨_, e⟩
    · replace e := nm_s e
      obtain ⟨v_3, wv_3, e⟩ := e
      replace e := cl_s e
      obtain ⟨r_4, _, e⟩ := e
      replace e := (gd_s e).2
      replace e := nm_s e
      obtain ⟨v_6, wv_6, e⟩ := e
      replace e := br_s e
      rcases e with ⟨_, e⟩ | ⟨_, e⟩
      · exact dk_X3_put_70 k e
      · replace e := cl_s e
        obtain ⟨r_8, _, e⟩ := e
        replace e := (gd_s e).2
        replace e := (gd_s e).2
        replace e := nm_s e
        obtain ⟨h_11, wh_11, e⟩ := e
        have kh_11 : DyK n g h_11 := by rw [wh_11]; exact dk_wJ k
        replace e := cl_s e
        obtain ⟨r_12, _, e⟩ := e
        replace e := (gd_s e).2
        replace e := br_s e
        rcases e with ⟨_, e⟩ | ⟨_, e⟩
        · replace e := cl_s e
          obtain ⟨r_15, _, e⟩ := e
          replace e := (gd_s e).2
          replace e := nm_s e
          obtain ⟨h_17, wh_17, e⟩ := e
          have kh_17 : DyK n g h_17 := by rw [wh_17]; exact dk_wI kh_11
          exact dk_X3_put_70 kh_17 e
        · exact dk_X3_put_70 kh_11 e
    · exact dk_X3_put_10 k e
theorem dk_X7_readRanks_127 {n : Nat} {g : Hp} {F : Nat} {o : Int32 × Hp} {x0 : Nat} {x1 : Nat} {x2 : Int32} {x3 : Int32} {x5 : Int32} {x6 : Int32} {k_10 : Hp → Nat → Nat → Int32 → Option (Int32 × Hp)} (R_10 : ∀ {h : Hp} {y1 : Nat} {y2 : Nat} {y3 : Int32}, DyK n g h → k_10 h y1 y2 y3 = some o → DyK n g o.2) {k_40 : Hp → Nat → Nat → Int32 → Int32 → Option (Int32 × Hp)} (R_40 : ∀ {h : Hp} {y1 : Nat} {y2 : Nat} {y3 : Int32} {y4 : Int32}, DyK n g h → k_40 h y1 y2 y3 y4 = some o → DyK n g o.2) {h : Hp} (k : DyK n g h) (e : sX7_readRanks_127 F k_10 k_40 h x0 x1 x2 x3 x5 x6 = some o) : DyK n g o.2 := by
  unfold sX7_readRanks_127 at e
  replace e := br_s e
  rcases e with ⟨_, e⟩ | ⟨_, e⟩
  · exact dk_X7_readRanks_157 R_10 R_40 k e
  · replace e := cl_s e
    obtain ⟨r_2, _, e⟩ := e
    replace e := cl_s e
    obtain ⟨r_3, _, e⟩ := e
    replace e := cl_s e
    obtain ⟨o_4, eo_4, e⟩ := e
    have ko_4 : DyK n g o_4 := dk_X3_put k eo_4
    exact dk_X7_readRanks_157 R_10 R_40 ko_4 e
theorem dk_X7_readRanks_98 {n : Nat} {g : Hp} {F : Nat} {o : Int32 × Hp} {x0 : Nat} {x1 : Nat} {x2 : Int32} {x3 : Int32} {x5 : Int32} {t0 : Int32} {k_10 : Hp → Nat → Nat → Int32 → Option (Int32 × Hp)} (R_10 : ∀ {h : Hp} {y1 : Nat} {y2 : Nat} {y3 : Int32}, DyK n g h → k_10 h y1 y2 y3 = some o → DyK n g o.2) {k_40 : Hp → Nat → Nat → Int32 → Int32 → Option (Int32 × Hp)} (R_40 : ∀ {h : Hp} {y1 : Nat} {y2 : Nat} {y3 : Int32} {y4 : Int32}, DyK n g h → k_40 h y1 y2 y3 y4 = some o → DyK n g o.2) {h : Hp} (k : DyK n g h) (e : sX7_readRanks_98 F k_10 k_40 h x0 x1 x2 x3 x5 t0 = some o) : DyK n g o.2 := by
  unfold sX7_readRanks_98 at e
  replace e := br_s e
  rcases e with ⟨_, e⟩ | ⟨_, e⟩
  · replace e := br_s e
    rcases e with ⟨_, e⟩ | ⟨_, e⟩
    · exact dk_X7_readRanks_125 k e
    · replace e := cl_s e
      obtain ⟨r_3, _, e⟩ := e
      replace e := br_s e
      rcases e with ⟨_, e⟩ | ⟨_, e⟩
      · exact dk_X7_readRanks_127 R_10 R_40 k e
      · exact dk_X7_readRanks_125 k e
  · exact dk_X7_readRanks_127 R_10 R_40 k e
theorem dk_X7_readRanks_97 {n : Nat} {g : Hp} {F : Nat} {o : Int32 × Hp} {x0 : Nat} {x1 : Nat} {x2 : Int32} {x3 : Int32} {x5 : Int32} {k_10 : Hp → Nat → Nat → Int32 → Option (Int32 × Hp)} (R_10 : ∀ {h : Hp} {y1 : Nat} {y2 : Nat} {y3 : Int32}, DyK n g h → k_10 h y1 y2 y3 = some o → DyK n g o.2) {k_40 : Hp → Nat → Nat → Int32 → Int32 → Option (Int32 × Hp)} (R_40 : ∀ {h : Hp} {y1 : Nat} {y2 : Nat} {y3 : Int32} {y4 : Int32}, DyK n g h → k_40 h y1 y2 y3 y4 = some o → DyK n g o.2) {h : Hp} (k : DyK n g h) (e : sX7_readRanks_97 F k_10 k_40 h x0 x1 x2 x3 x5 = some o) : DyK n g o.2 := by
  unfold sX7_readRanks_97 at e
  exact dk_X7_readRanks_98 R_10 R_40 k e
theorem dk_X7_readRanks_40 {n : Nat} {g : Hp} {F : Nat} {o : Int32 × Hp} {k_10 : Hp → Nat → Nat → Int32 → Option (Int32 × Hp)} (R_10 : ∀ {h : Hp} {y1 : Nat} {y2 : Nat} {y3 : Int32}, DyK n g h → k_10 h y1 y2 y3 = some o → DyK n g o.2) : ∀ (f : Nat) {h : Hp} {x0 : Nat} {x1 : Nat} {x2 : Int32} {x3 : Int32}, DyK n g h → sX7_readRanks_40 F k_10 f h x0 x1 x2 x3 = some o → DyK n g o.2 := by
  intro f
  induction f with
  | zero => intro h x0 x1 x2 x3 _ e; exact absurd e (by rw [sX7_readRanks_40]; exact fun z => nomatch z)
  | succ f ih =>
    intro h x0 x1 x2 x3 k e
    rw [sX7_readRanks_40] at e
    replace e := cl_s e
    obtain ⟨r_1, _, e⟩ := e
    replace e := br_s e
    rcases e with ⟨_, e⟩ | ⟨_, e⟩
    · replace e := nm_s e
      obtain ⟨v_3, wv_3, e⟩ := e
      exact R_10 k e
    · replace e := cl_s e
      obtain ⟨r_4, _, e⟩ := e
      replace e := cl_s e
      obtain ⟨o_5, eo_5, e⟩ := e
      have ko_5 : DyK n g o_5.2 := dk_X9_byteAt k eo_5
      replace e := cl_s e
      obtain ⟨r_6, _, e⟩ := e
      replace e := cl_s e
      obtain ⟨o_7, eo_7, e⟩ := e
      have ko_7 : DyK n g o_7.2 := dk_X1_codeOf ko_5 eo_7
      replace e := br_s e
      rcases e with ⟨_, e⟩ | ⟨_, e⟩
      · exact dk_X7_readRanks_97 R_10 (fun k e => ih k e) ko_7 e
      · replace e := br_s e
        rcases e with ⟨_, e⟩ | ⟨_, e⟩
        · exact dk_X7_readRanks_97 R_10 (fun k e => ih k e) ko_7 e
        · exact dk_X7_readRanks_98 R_10 (fun k e => ih k e) ko_7 e
theorem dk_X7_readRanks_38 {n : Nat} {g : Hp} {F : Nat} {o : Int32 × Hp} {x0 : Nat} {x1 : Nat} {x2 : Int32} {k_10 : Hp → Nat → Nat → Int32 → Option (Int32 × Hp)} (R_10 : ∀ {h : Hp} {y1 : Nat} {y2 : Nat} {y3 : Int32}, DyK n g h → k_10 h y1 y2 y3 = some o → DyK n g o.2) {h : Hp} (k : DyK n g h) (e : sX7_readRanks_38 F k_10 h x0 x1 x2 = some o) : DyK n g o.2 := by
  unfold sX7_readRanks_38 at e
  exact dk_X7_readRanks_40 R_10 F k e
theorem dk_X7_takeByte {n : Nat} {g : Hp} {o : Int32 × Hp} {x0 : Nat} {x1 : Int32} {h : Hp} (k : DyK n g h) (e : sX7_takeByte h x0 x1 = some o) : DyK n g o.2 := by
  unfold sX7_takeByte at e
  replace e := cl_s e
  obtain ⟨r_1, _, e⟩ := e
  replace e := cl_s e
  obtain ⟨o_2, eo_2, e⟩ := e
  have ko_2 : DyK n g o_2.2 := dk_X9_byteAt k eo_2
  replace e := br_s e
  rcases e with ⟨_, e⟩ | ⟨_, e⟩
  · replace e := nm_s e
    obtain ⟨h_4, wh_4, e⟩ := e
    have kh_4 : DyK n g h_4 := by rw [wh_4]; exact dk_wI ko_2
    rw [← Option.some.inj e]; exact kh_4
  · rw [← Option.some.inj e]; exact ko_2
theorem dk_X7_readRanks_10 {n : Nat} {g : Hp} {F : Nat} {o : Int32 × Hp} : ∀ (f : Nat) {h : Hp} {x0 : Nat} {x1 : Nat} {x2 : Int32}, DyK n g h → sX7_readRanks_10 F f h x0 x1 x2 = some o → DyK n g o.2 := by
  intro f
  induction f with
  | zero => intro h x0 x1 x2 _ e; exact absurd e (by rw [sX7_readRanks_10]; exact fun z => nomatch z)
  | succ f ih =>
    intro h x0 x1 x2 k e
    rw [sX7_readRanks_10] at e
    replace e := br_s e
    rcases e with ⟨_, e⟩ | ⟨_, e⟩
    · rw [← Option.some.inj e]; exact k
    · replace e := cl_s e
      obtain ⟨r_2, _, e⟩ := e
      replace e := br_s e
      rcases e with ⟨_, e⟩ | ⟨_, e⟩
      · exact dk_X7_readRanks_38 (fun k e => ih k e) k e
      · replace e := cl_s e
        obtain ⟨o_4, eo_4, e⟩ := e
        have ko_4 : DyK n g o_4.2 := dk_X7_takeByte k eo_4
        replace e := br_s e
        rcases e with ⟨_, e⟩ | ⟨_, e⟩
        · rw [← Option.some.inj e]; exact ko_4
        · exact dk_X7_readRanks_38 (fun k e => ih k e) ko_4 e
theorem dk_X7_readRanks {n : Nat} {g : Hp} {F : Nat} {o : Int32 × Hp} {x0 : Nat} {x1 : Nat} {h : Hp} (k : DyK n g h) (e : sX7_readRanks F h x0 x1 = some o) : DyK n g o.2 := by
  unfold sX7_readRanks at e
  replace e := cl_s e
  obtain ⟨r_1, _, e⟩ := e
  replace e := nm_s e
  obtain ⟨v_2, wv_2, e⟩ := e
  exact dk_X7_readRanks_10 F k e
theorem dk_X7_read_157 {n : Nat} {g : Hp} {F : Nat} {o : Int32 × Hp} {t0 : Int32} {h : Hp} (k : DyK n g h) (e : sX7_read_157 F h t0 = some o) : DyK n g o.2 := by
  unfold sX7_read_157 at e
  rw [← Option.some.inj e]; exact k
theorem dk_X7_read_144 {n : Nat} {g : Hp} {F : Nat} {o : Int32 × Hp} {t0 : Int32} {h : Hp} (k : DyK n g h) (e : sX7_read_144 F h (n + 38) t0 = some o) : DyK n g o.2 := by
  unfold sX7_read_144 at e
  replace e := br_s e
  rcases e with ⟨_, e⟩ | ⟨_, e⟩
  · exact dk_X7_read_157 k e
  · exact dk_X7_read_157 k e
theorem dk_X7_read_143 {n : Nat} {g : Hp} {F : Nat} {o : Int32 × Hp} {h : Hp} (k : DyK n g h) (e : sX7_read_143 F h (n + 38) = some o) : DyK n g o.2 := by
  unfold sX7_read_143 at e
  exact dk_X7_read_144 k e
theorem dk_X7_readSide_38 {n : Nat} {g : Hp} {o : Int32 × Hp} {x0 : Nat} {t0 : Int32} {t1 : Nat} {h : Hp} (k : DyK n g h) (e : sX7_readSide_38 h x0 t0 t1 = some o) : DyK n g o.2 := by
  unfold sX7_readSide_38 at e
  replace e := nm_s e
  obtain ⟨h_1, wh_1, e⟩ := e
  have kh_1 : DyK n g h_1 := by rw [wh_1]; exact dk_wI k
  replace e := nm_s e
  obtain ⟨h_2, wh_2, e⟩ := e
  have kh_2 : DyK n g h_2 := by rw [wh_2]; exact dk_wI kh_1
  rw [← Option.some.inj e]; exact kh_2
theorem dk_X7_readSide_26 {n : Nat} {g : Hp} {o : Int32 × Hp} {x0 : Nat} {x1 : Nat} {x2 : Int32} {h : Hp} (k : DyK n g h) (e : sX7_readSide_26 h x0 x1 x2 = some o) : DyK n g o.2 := by
  unfold sX7_readSide_26 at e
  replace e := br_s e
  rcases e with ⟨_, e⟩ | ⟨_, e⟩
  · exact dk_X7_readSide_38 k e
  · exact dk_X7_readSide_38 k e
theorem dk_X7_readSide {n : Nat} {g : Hp} {o : Int32 × Hp} {x0 : Nat} {x1 : Nat} {h : Hp} (k : DyK n g h) (e : sX7_readSide h x0 x1 = some o) : DyK n g o.2 := by
  unfold sX7_readSide at e
  replace e := cl_s e
  obtain ⟨r_1, _, e⟩ := e
  replace e := cl_s e
  obtain ⟨o_2, eo_2, e⟩ := e
  have ko_2 : DyK n g o_2.2 := dk_X9_byteAt k eo_2
  replace e := br_s e
  rcases e with ⟨_, e⟩ | ⟨_, e⟩
  · exact dk_X7_readSide_26 ko_2 e
  · replace e := br_s e
    rcases e with ⟨_, e⟩ | ⟨_, e⟩
    · exact dk_X7_readSide_26 ko_2 e
    · rw [← Option.some.inj e]; exact ko_2
