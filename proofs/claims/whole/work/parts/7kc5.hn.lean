/-! lengths of rows stay -/
def HNE (g h : Hp) : Prop := ∀ a, hN h a = hN g a
theorem hne_0 {g : Hp} : HNE g g := fun _ => rfl
theorem hn_X5_leftBy {g : Hp} {o : Int32 × Hp} {x0 : Int32} {h : Hp} (k : HNE g h) (e : sX5_leftBy h x0 = some o) : HNE g o.2 := by
  unfold sX5_leftBy at e
  rw [← Option.some.inj e]; exact k
theorem hn_X5_comeTo {g : Hp} {o : Int32 × Hp} {x0 : Int32} {h : Hp} (k : HNE g h) (e : sX5_comeTo h x0 = some o) : HNE g o.2 := by
  unfold sX5_comeTo at e
  rw [← Option.some.inj e]; exact k
theorem hn_X5_kindOf {g : Hp} {o : Int32 × Hp} {x0 : Int32} {h : Hp} (k : HNE g h) (e : sX5_kindOf h x0 = some o) : HNE g o.2 := by
  unfold sX5_kindOf at e
  rw [← Option.some.inj e]; exact k
theorem hn_X5_manOf {g : Hp} {o : Int32 × Hp} {x0 : Int32} {h : Hp} (k : HNE g h) (e : sX5_manOf h x0 = some o) : HNE g o.2 := by
  unfold sX5_manOf at e
  rw [← Option.some.inj e]; exact k
theorem hn_X3_put_10 {g : Hp} {o : Hp} {h : Hp} (k : HNE g h) (e : sX3_put_10 h = some o) : HNE g o := by
  unfold sX3_put_10 at e
  rw [← Option.some.inj e]; exact k
theorem hn_X3_put_111 {g : Hp} {o : Hp} {x0 : Nat} {x4 : Int64} {h : Hp} (k : HNE g h) (e : sX3_put_111 h x0 x4 = some o) : HNE g o := by
  unfold sX3_put_111 at e
  replace e := nm_s e
  obtain ⟨h_1, wh_1, e⟩ := e
  have kh_1 : HNE g h_1 := by rw [wh_1]; exact k
  rw [← Option.some.inj e]; exact kh_1
theorem hn_X3_put_70 {g : Hp} {o : Hp} {x0 : Nat} {x1 : Int32} {x2 : Int32} {x3 : Int32} {x4 : Int64} {h : Hp} (k : HNE g h) (e : sX3_put_70 h x0 x1 x2 x3 x4 = some o) : HNE g o := by
  unfold sX3_put_70 at e
  replace e := cl_s e
  obtain ⟨r_1, _, e⟩ := e
  replace e := (gd_s e).2
  replace e := nm_s e
  obtain ⟨h_3, wh_3, e⟩ := e
  have kh_3 : HNE g h_3 := by rw [wh_3]; exact k
  replace e := br_s e
  rcases e with ⟨_, e⟩ | ⟨_, e⟩
  · exact hn_X3_put_111 kh_3 e
  · replace e := cl_s e
    obtain ⟨r_5, _, e⟩ := e
    replace e := (gd_s e).2
    replace e := (gd_s e).2
    replace e := nm_s e
    obtain ⟨h_8, wh_8, e⟩ := e
    have kh_8 : HNE g h_8 := by rw [wh_8]; exact kh_3
    replace e := br_s e
    rcases e with ⟨_, e⟩ | ⟨_, e⟩
    · replace e := cl_s e
      obtain ⟨r_10, _, e⟩ := e
      replace e := (gd_s e).2
      replace e := nm_s e
      obtain ⟨h_12, wh_12, e⟩ := e
      have kh_12 : HNE g h_12 := by rw [wh_12]; exact kh_8
      exact hn_X3_put_111 kh_12 e
    · exact hn_X3_put_111 kh_8 e
theorem hn_X3_put {g : Hp} {o : Hp} {x0 : Nat} {x1 : Int32} {x2 : Int32} {x3 : Int32} {h : Hp} (k : HNE g h) (e : sX3_put h x0 x1 x2 x3 = some o) : HNE g o := by
  unfold sX3_put at e
  replace e := br_s e
  rcases e with ⟨_, e⟩ | ⟨_, e⟩
  · exact hn_X3_put_10 k e
  · replace e := br_s e
    rcases e with ⟨_, e⟩ | ⟨_, e⟩
    · replace e := nm_s e
      obtain ⟨v_3, wv_3, e⟩ := e
      replace e := cl_s e
      obtain ⟨r_4, _, e⟩ := e
      replace e := (gd_s e).2
      replace e := nm_s e
      obtain ⟨v_6, wv_6, e⟩ := e
      replace e := br_s e
      rcases e with ⟨_, e⟩ | ⟨_, e⟩
      · exact hn_X3_put_70 k e
      · replace e := cl_s e
        obtain ⟨r_8, _, e⟩ := e
        replace e := (gd_s e).2
        replace e := (gd_s e).2
        replace e := nm_s e
        obtain ⟨h_11, wh_11, e⟩ := e
        have kh_11 : HNE g h_11 := by rw [wh_11]; exact k
        replace e := cl_s e
        obtain ⟨r_12, _, e⟩ := e
        replace e := (gd_s e).2
        replace e := br_s e
        rcases e with ⟨_, e⟩ | ⟨_, e⟩
        · replace e := cl_s e
          obtain ⟨r_15, _, e⟩ := e
          replace e := (gd_s e).2
          replace e := nm_s e
          obtain ⟨h_17, wh_17, e⟩ := e
          have kh_17 : HNE g h_17 := by rw [wh_17]; exact kh_11
          exact hn_X3_put_70 kh_17 e
        · exact hn_X3_put_70 kh_11 e
    · exact hn_X3_put_10 k e
theorem hn_X5_nearest_62 {g : Hp} {F : Nat} {o : Int32 × Hp} {h : Hp} (k : HNE g h) (e : sX5_nearest_62 F h = some o) : HNE g o.2 := by
  unfold sX5_nearest_62 at e
  rw [← Option.some.inj e]; exact k
theorem hn_X5_nearest_16 {g : Hp} {F : Nat} {o : Int32 × Hp} : ∀ (f : Nat) {h : Hp} {x0 : Nat} {x1 : Nat} {x3 : Int32} {x4 : Int32} {x5 : Int32}, HNE g h → sX5_nearest_16 F f h x0 x1 x3 x4 x5 = some o → HNE g o.2 := by
  intro f
  induction f with
  | zero => intro h x0 x1 x3 x4 x5 _ e; exact absurd e (by rw [sX5_nearest_16]; exact fun z => nomatch z)
  | succ f ih =>
    intro h x0 x1 x3 x4 x5 k e
    rw [sX5_nearest_16] at e
    replace e := br_s e
    rcases e with ⟨_, e⟩ | ⟨_, e⟩
    · exact hn_X5_nearest_62 k e
    · replace e := cl_s e
      obtain ⟨r_2, _, e⟩ := e
      replace e := br_s e
      rcases e with ⟨_, e⟩ | ⟨_, e⟩
      · exact hn_X5_nearest_62 k e
      · replace e := nm_s e
        obtain ⟨v_4, wv_4, e⟩ := e
        replace e := cl_s e
        obtain ⟨r_5, _, e⟩ := e
        replace e := (gd_s e).2
        replace e := br_s e
        rcases e with ⟨_, e⟩ | ⟨_, e⟩
        · replace e := nm_s e
          obtain ⟨v_8, wv_8, e⟩ := e
          exact ih k e
        · rw [← Option.some.inj e]; exact k
theorem hn_X5_nearest {g : Hp} {F : Nat} {o : Int32 × Hp} {x0 : Nat} {x1 : Nat} {x2 : Int32} {x3 : Int32} {h : Hp} (k : HNE g h) (e : sX5_nearest F h x0 x1 x2 x3 = some o) : HNE g o.2 := by
  unfold sX5_nearest at e
  replace e := cl_s e
  obtain ⟨r_1, _, e⟩ := e
  replace e := cl_s e
  obtain ⟨r_2, _, e⟩ := e
  replace e := (gd_s e).2
  replace e := nm_s e
  obtain ⟨v_4, wv_4, e⟩ := e
  exact hn_X5_nearest_16 F k e
theorem hn_X3_passSquare {g : Hp} {o : Int32 × Hp} {x0 : Nat} {x1 : Int32} {h : Hp} (k : HNE g h) (e : sX3_passSquare h x0 x1 = some o) : HNE g o.2 := by
  unfold sX3_passSquare at e
  rw [← Option.some.inj e]; exact k
theorem hn_X5_becomes_19 {g : Hp} {o : Int32 × Hp} {t0 : Int32} {h : Hp} (k : HNE g h) (e : sX5_becomes_19 h t0 = some o) : HNE g o.2 := by
  unfold sX5_becomes_19 at e
  rw [← Option.some.inj e]; exact k
theorem hn_X5_becomes {g : Hp} {o : Int32 × Hp} {x0 : Int32} {h : Hp} (k : HNE g h) (e : sX5_becomes h x0 = some o) : HNE g o.2 := by
  unfold sX5_becomes at e
  replace e := nm_s e
  obtain ⟨v_1, wv_1, e⟩ := e
  replace e := br_s e
  rcases e with ⟨_, e⟩ | ⟨_, e⟩
  · exact hn_X5_becomes_19 k e
  · exact hn_X5_becomes_19 k e
theorem hn_X5_shift_185 {g : Hp} {F : Nat} {o : Hp} {x0 : Nat} {t0 : Int32} {t1 : Int32} {t2 : Nat} {h : Hp} (k : HNE g h) (e : sX5_shift_185 F h x0 t0 t1 t2 = some o) : HNE g o := by
  unfold sX5_shift_185 at e
  replace e := cl_s e
  obtain ⟨r_1, _, e⟩ := e
  replace e := cl_s e
  obtain ⟨o_2, eo_2, e⟩ := e
  have ko_2 : HNE g o_2 := hn_X3_put k eo_2
  rw [← Option.some.inj e]; exact ko_2
theorem hn_X5_shift_145 {g : Hp} {F : Nat} {o : Hp} {x0 : Nat} {x1 : Nat} {x2 : Int32} {x3 : Int32} {x4 : Int32} {x6 : Int32} {h : Hp} (k : HNE g h) (e : sX5_shift_145 F h x0 x1 x2 x3 x4 x6 = some o) : HNE g o := by
  unfold sX5_shift_145 at e
  replace e := cl_s e
  obtain ⟨r_1, _, e⟩ := e
  replace e := cl_s e
  obtain ⟨o_2, eo_2, e⟩ := e
  have ko_2 : HNE g o_2 := hn_X3_put k eo_2
  replace e := cl_s e
  obtain ⟨o_3, eo_3, e⟩ := e
  have ko_3 : HNE g o_3.2 := hn_X5_becomes ko_2 eo_3
  replace e := br_s e
  rcases e with ⟨_, e⟩ | ⟨_, e⟩
  · exact hn_X5_shift_185 ko_3 e
  · replace e := cl_s e
    obtain ⟨o_5, eo_5, e⟩ := e
    have ko_5 : HNE g o_5.2 := hn_X5_becomes ko_3 eo_5
    exact hn_X5_shift_185 ko_5 e
theorem hn_X5_shift_122 {g : Hp} {F : Nat} {o : Hp} {x0 : Nat} {x1 : Nat} {x2 : Int32} {x3 : Int32} {x4 : Int32} {x5 : Int32} {x6 : Int32} {h : Hp} (k : HNE g h) (e : sX5_shift_122 F h x0 x1 x2 x3 x4 x5 x6 = some o) : HNE g o := by
  unfold sX5_shift_122 at e
  replace e := br_s e
  rcases e with ⟨_, e⟩ | ⟨_, e⟩
  · replace e := cl_s e
    obtain ⟨o_2, eo_2, e⟩ := e
    have ko_2 : HNE g o_2.2 := hn_X3_passSquare k eo_2
    replace e := cl_s e
    obtain ⟨r_3, _, e⟩ := e
    replace e := cl_s e
    obtain ⟨o_4, eo_4, e⟩ := e
    have ko_4 : HNE g o_4 := hn_X3_put ko_2 eo_4
    exact hn_X5_shift_145 ko_4 e
  · exact hn_X5_shift_145 k e
theorem hn_X5_shift_72 {g : Hp} {F : Nat} {o : Hp} {x0 : Nat} {x1 : Nat} {x2 : Int32} {x3 : Int32} {x4 : Int32} {x5 : Int32} {x6 : Int32} {t0 : Int32} {t1 : Int32} {t2 : Nat} {t3 : Nat} {h : Hp} (k : HNE g h) (e : sX5_shift_72 F h x0 x1 x2 x3 x4 x5 x6 t0 t1 t2 t3 = some o) : HNE g o := by
  unfold sX5_shift_72 at e
  replace e := cl_s e
  obtain ⟨o_1, eo_1, e⟩ := e
  have ko_1 : HNE g o_1.2 := hn_X5_nearest k eo_1
  replace e := cl_s e
  obtain ⟨r_2, _, e⟩ := e
  replace e := cl_s e
  obtain ⟨o_3, eo_3, e⟩ := e
  have ko_3 : HNE g o_3 := hn_X3_put ko_1 eo_3
  replace e := cl_s e
  obtain ⟨r_4, _, e⟩ := e
  replace e := cl_s e
  obtain ⟨r_5, _, e⟩ := e
  replace e := cl_s e
  obtain ⟨o_6, eo_6, e⟩ := e
  have ko_6 : HNE g o_6 := hn_X3_put ko_3 eo_6
  exact hn_X5_shift_122 ko_6 e
theorem hn_X5_shift {g : Hp} {F : Nat} {o : Hp} {x0 : Nat} {x1 : Nat} {x2 : Int32} {h : Hp} (k : HNE g h) (e : sX5_shift F h x0 x1 x2 = some o) : HNE g o := by
  unfold sX5_shift at e
  replace e := cl_s e
  obtain ⟨o_1, eo_1, e⟩ := e
  have ko_1 : HNE g o_1.2 := hn_X5_leftBy k eo_1
  replace e := cl_s e
  obtain ⟨o_2, eo_2, e⟩ := e
  have ko_2 : HNE g o_2.2 := hn_X5_comeTo ko_1 eo_2
  replace e := cl_s e
  obtain ⟨o_3, eo_3, e⟩ := e
  have ko_3 : HNE g o_3.2 := hn_X5_kindOf ko_2 eo_3
  replace e := cl_s e
  obtain ⟨o_4, eo_4, e⟩ := e
  have ko_4 : HNE g o_4.2 := hn_X5_manOf ko_3 eo_4
  replace e := nm_s e
  obtain ⟨v_5, wv_5, e⟩ := e
  replace e := br_s e
  rcases e with ⟨_, e⟩ | ⟨_, e⟩
  · replace e := cl_s e
    obtain ⟨r_9, _, e⟩ := e
    replace e := cl_s e
    obtain ⟨o_10, eo_10, e⟩ := e
    have ko_10 : HNE g o_10 := hn_X3_put ko_4 eo_10
    rw [← Option.some.inj e]; exact ko_10
  · replace e := br_s e
    rcases e with ⟨_, e⟩ | ⟨_, e⟩
    · replace e := br_s e
      rcases e with ⟨_, e⟩ | ⟨_, e⟩
      · exact hn_X5_shift_72 ko_4 e
      · exact hn_X5_shift_72 ko_4 e
    · exact hn_X5_shift_122 ko_4 e
theorem hn_X1_has_14 {g : Hp} {o : Int32 × Hp} {t0 : Int32} {h : Hp} (k : HNE g h) (e : sX1_has_14 h t0 = some o) : HNE g o.2 := by
  unfold sX1_has_14 at e
  replace e := (gd_s e).2
  rw [← Option.some.inj e]; exact k
theorem hn_X1_has {g : Hp} {o : Int32 × Hp} {x0 : Nat} {x1 : Int32} {h : Hp} (k : HNE g h) (e : sX1_has h x0 x1 = some o) : HNE g o.2 := by
  unfold sX1_has at e
  replace e := br_s e
  rcases e with ⟨_, e⟩ | ⟨_, e⟩
  · exact hn_X1_has_14 k e
  · exact hn_X1_has_14 k e
theorem hn_X5_blast_20 {g : Hp} {F : Nat} {o : Hp} {h : Hp} (k : HNE g h) (e : sX5_blast_20 F h = some o) : HNE g o := by
  unfold sX5_blast_20 at e
  rw [← Option.some.inj e]; exact k
theorem hn_X5_takenBy_19 {g : Hp} {o : Int32 × Hp} {t0 : Int32} {h : Hp} (k : HNE g h) (e : sX5_takenBy_19 h t0 = some o) : HNE g o.2 := by
  unfold sX5_takenBy_19 at e
  rw [← Option.some.inj e]; exact k
theorem hn_X5_takenBy {g : Hp} {o : Int32 × Hp} {x0 : Int32} {h : Hp} (k : HNE g h) (e : sX5_takenBy h x0 = some o) : HNE g o.2 := by
  unfold sX5_takenBy at e
  replace e := nm_s e
  obtain ⟨v_1, wv_1, e⟩ := e
  replace e := br_s e
  rcases e with ⟨_, e⟩ | ⟨_, e⟩
  · exact hn_X5_takenBy_19 k e
  · exact hn_X5_takenBy_19 k e
theorem hn_X3_occupied {g : Hp} {o : Int64 × Hp} {x0 : Nat} {h : Hp} (k : HNE g h) (e : sX3_occupied h x0 = some o) : HNE g o.2 := by
  unfold sX3_occupied at e
  replace e := cl_s e
  obtain ⟨r_1, _, e⟩ := e
  replace e := (gd_s e).2
  replace e := cl_s e
  obtain ⟨r_3, _, e⟩ := e
  replace e := (gd_s e).2
  rw [← Option.some.inj e]; exact k
theorem hn_X5_blast_130 {g : Hp} {F : Nat} {o : Hp} {h : Hp} (k : HNE g h) (e : sX5_blast_130 F h = some o) : HNE g o := by
  unfold sX5_blast_130 at e
  rw [← Option.some.inj e]; exact k
theorem hn_X11_lowest {g : Hp} {o : Int32 × Hp} {x0 : Int64} {h : Hp} (k : HNE g h) (e : sX11_lowest h x0 = some o) : HNE g o.2 := by
  unfold sX11_lowest at e
  replace e := (gd_s e).2
  rw [← Option.some.inj e]; exact k
theorem hn_X5_blast_124 {g : Hp} {F : Nat} {o : Hp} {x0 : Nat} {x1 : Nat} {x4 : Int64} {x6 : Int32} {k_58 : Hp → Nat → Nat → Int64 → Int32 → Option (Hp)} (R_58 : ∀ {h : Hp} {y1 : Nat} {y2 : Nat} {y3 : Int64} {y4 : Int32}, HNE g h → k_58 h y1 y2 y3 y4 = some o → HNE g o) {h : Hp} (k : HNE g h) (e : sX5_blast_124 F k_58 h x0 x1 x4 x6 = some o) : HNE g o := by
  unfold sX5_blast_124 at e
  replace e := nm_s e
  obtain ⟨v_1, wv_1, e⟩ := e
  exact R_58 k e
theorem hn_X5_blast_58 {g : Hp} {F : Nat} {o : Hp} : ∀ (f : Nat) {h : Hp} {x0 : Nat} {x1 : Nat} {x4 : Int64} {x6 : Int32}, HNE g h → sX5_blast_58 F f h x0 x1 x4 x6 = some o → HNE g o := by
  intro f
  induction f with
  | zero => intro h x0 x1 x4 x6 _ e; exact absurd e (by rw [sX5_blast_58]; exact fun z => nomatch z)
  | succ f ih =>
    intro h x0 x1 x4 x6 k e
    rw [sX5_blast_58] at e
    replace e := br_s e
    rcases e with ⟨_, e⟩ | ⟨_, e⟩
    · exact hn_X5_blast_130 k e
    · replace e := br_s e
      rcases e with ⟨_, e⟩ | ⟨_, e⟩
      · exact hn_X5_blast_130 k e
      · replace e := cl_s e
        obtain ⟨o_3, eo_3, e⟩ := e
        have ko_3 : HNE g o_3.2 := hn_X11_lowest k eo_3
        replace e := nm_s e
        obtain ⟨v_4, wv_4, e⟩ := e
        replace e := cl_s e
        obtain ⟨r_5, _, e⟩ := e
        replace e := cl_s e
        obtain ⟨r_6, _, e⟩ := e
        replace e := (gd_s e).2
        replace e := br_s e
        rcases e with ⟨_, e⟩ | ⟨_, e⟩
        · replace e := cl_s e
          obtain ⟨r_9, _, e⟩ := e
          replace e := cl_s e
          obtain ⟨o_10, eo_10, e⟩ := e
          have ko_10 : HNE g o_10 := hn_X3_put ko_3 eo_10
          exact hn_X5_blast_124 (fun k e => ih k e) ko_10 e
        · exact hn_X5_blast_124 (fun k e => ih k e) ko_3 e
theorem hn_X5_blast {g : Hp} {F : Nat} {o : Hp} {x0 : Nat} {x1 : Nat} {x2 : Int32} {h : Hp} (k : HNE g h) (e : sX5_blast F h x0 x1 x2 = some o) : HNE g o := by
  unfold sX5_blast at e
  replace e := cl_s e
  obtain ⟨r_1, _, e⟩ := e
  replace e := cl_s e
  obtain ⟨o_2, eo_2, e⟩ := e
  have ko_2 : HNE g o_2.2 := hn_X1_has k eo_2
  replace e := br_s e
  rcases e with ⟨_, e⟩ | ⟨_, e⟩
  · exact hn_X5_blast_20 ko_2 e
  · replace e := cl_s e
    obtain ⟨o_4, eo_4, e⟩ := e
    have ko_4 : HNE g o_4.2 := hn_X5_takenBy ko_2 eo_4
    replace e := br_s e
    rcases e with ⟨_, e⟩ | ⟨_, e⟩
    · exact hn_X5_blast_20 ko_4 e
    · replace e := cl_s e
      obtain ⟨o_6, eo_6, e⟩ := e
      have ko_6 : HNE g o_6.2 := hn_X5_comeTo ko_4 eo_6
      replace e := cl_s e
      obtain ⟨r_7, _, e⟩ := e
      replace e := cl_s e
      obtain ⟨o_8, eo_8, e⟩ := e
      have ko_8 : HNE g o_8 := hn_X3_put ko_6 eo_8
      replace e := cl_s e
      obtain ⟨r_9, _, e⟩ := e
      replace e := cl_s e
      obtain ⟨r_10, _, e⟩ := e
      replace e := (gd_s e).2
      replace e := cl_s e
      obtain ⟨o_12, eo_12, e⟩ := e
      have ko_12 : HNE g o_12.2 := hn_X3_occupied ko_8 eo_12
      replace e := nm_s e
      obtain ⟨v_13, wv_13, e⟩ := e
      exact hn_X5_blast_58 F ko_12 e
theorem hn_X3_addToHand {g : Hp} {o : Hp} {x0 : Nat} {x1 : Int32} {x2 : Int32} {x3 : Int32} {h : Hp} (k : HNE g h) (e : sX3_addToHand h x0 x1 x2 x3 = some o) : HNE g o := by
  unfold sX3_addToHand at e
  replace e := cl_s e
  obtain ⟨r_1, _, e⟩ := e
  replace e := (gd_s e).2
  replace e := (gd_s e).2
  replace e := nm_s e
  obtain ⟨h_4, wh_4, e⟩ := e
  have kh_4 : HNE g h_4 := by rw [wh_4]; exact k
  rw [← Option.some.inj e]; exact kh_4
theorem hn_X3_clearPass {g : Hp} {o : Hp} {x0 : Nat} {h : Hp} (k : HNE g h) (e : sX3_clearPass h x0 = some o) : HNE g o := by
  unfold sX3_clearPass at e
  replace e := nm_s e
  obtain ⟨h_1, wh_1, e⟩ := e
  have kh_1 : HNE g h_1 := by rw [wh_1]; exact k
  replace e := nm_s e
  obtain ⟨h_2, wh_2, e⟩ := e
  have kh_2 : HNE g h_2 := by rw [wh_2]; exact kh_1
  rw [← Option.some.inj e]; exact kh_2
theorem hn_X5_passedBy {g : Hp} {o : Int32 × Hp} {x0 : Int32} {h : Hp} (k : HNE g h) (e : sX5_passedBy h x0 = some o) : HNE g o.2 := by
  unfold sX5_passedBy at e
  rw [← Option.some.inj e]; exact k
theorem hn_X5_notePass_31 {g : Hp} {F : Nat} {o : Hp} {h : Hp} (k : HNE g h) (e : sX5_notePass_31 F h = some o) : HNE g o := by
  unfold sX5_notePass_31 at e
  rw [← Option.some.inj e]; exact k
theorem hn_X3_passSize {g : Hp} {o : Int32 × Hp} {x0 : Nat} {h : Hp} (k : HNE g h) (e : sX3_passSize h x0 = some o) : HNE g o.2 := by
  unfold sX3_passSize at e
  rw [← Option.some.inj e]; exact k
theorem hn_X3_addPass_22 {g : Hp} {o : Hp} {x0 : Nat} {h : Hp} (k : HNE g h) (e : sX3_addPass_22 h x0 = some o) : HNE g o := by
  unfold sX3_addPass_22 at e
  replace e := nm_s e
  obtain ⟨h_1, wh_1, e⟩ := e
  have kh_1 : HNE g h_1 := by rw [wh_1]; exact k
  rw [← Option.some.inj e]; exact kh_1
theorem hn_X3_addPass_66 {g : Hp} {o : Hp} {t0 : Int64} {t1 : Int64} {t2 : Nat} {h : Hp} (k : HNE g h) (e : sX3_addPass_66 h t0 t1 t2 = some o) : HNE g o := by
  unfold sX3_addPass_66 at e
  replace e := nm_s e
  obtain ⟨h_1, wh_1, e⟩ := e
  have kh_1 : HNE g h_1 := by rw [wh_1]; exact k
  rw [← Option.some.inj e]; exact kh_1
theorem hn_X3_addPass {g : Hp} {o : Hp} {x0 : Nat} {x1 : Int32} {h : Hp} (k : HNE g h) (e : sX3_addPass h x0 x1 = some o) : HNE g o := by
  unfold sX3_addPass at e
  replace e := cl_s e
  obtain ⟨o_1, eo_1, e⟩ := e
  have ko_1 : HNE g o_1.2 := hn_X3_passSize k eo_1
  replace e := br_s e
  rcases e with ⟨_, e⟩ | ⟨_, e⟩
  · exact hn_X3_addPass_22 ko_1 e
  · replace e := br_s e
    rcases e with ⟨_, e⟩ | ⟨_, e⟩
    · replace e := nm_s e
      obtain ⟨h_4, wh_4, e⟩ := e
      have kh_4 : HNE g h_4 := by rw [wh_4]; exact ko_1
      replace e := br_s e
      rcases e with ⟨_, e⟩ | ⟨_, e⟩
      · exact hn_X3_addPass_66 kh_4 e
      · exact hn_X3_addPass_66 kh_4 e
    · exact hn_X3_addPass_22 ko_1 e
theorem hn_X5_notePass_56 {g : Hp} {F : Nat} {o : Hp} : ∀ (f : Nat) {h : Hp} {x1 : Nat} {x3 : Int32} {x5 : Int32} {x6 : Int32} {x7 : Int32}, HNE g h → sX5_notePass_56 F f h x1 x3 x5 x6 x7 = some o → HNE g o := by
  intro f
  induction f with
  | zero => intro h x1 x3 x5 x6 x7 _ e; exact absurd e (by rw [sX5_notePass_56]; exact fun z => nomatch z)
  | succ f ih =>
    intro h x1 x3 x5 x6 x7 k e
    rw [sX5_notePass_56] at e
    replace e := br_s e
    rcases e with ⟨_, e⟩ | ⟨_, e⟩
    · rw [← Option.some.inj e]; exact k
    · replace e := cl_s e
      obtain ⟨o_2, eo_2, e⟩ := e
      have ko_2 : HNE g o_2 := hn_X3_addPass k eo_2
      replace e := nm_s e
      obtain ⟨v_3, wv_3, e⟩ := e
      exact ih ko_2 e
theorem hn_X5_notePass {g : Hp} {F : Nat} {o : Hp} {x0 : Nat} {x1 : Nat} {x2 : Int32} {h : Hp} (k : HNE g h) (e : sX5_notePass F h x0 x1 x2 = some o) : HNE g o := by
  unfold sX5_notePass at e
  replace e := cl_s e
  obtain ⟨o_1, eo_1, e⟩ := e
  have ko_1 : HNE g o_1 := hn_X3_clearPass k eo_1
  replace e := cl_s e
  obtain ⟨o_2, eo_2, e⟩ := e
  have ko_2 : HNE g o_2.2 := hn_X5_passedBy ko_1 eo_2
  replace e := cl_s e
  obtain ⟨o_3, eo_3, e⟩ := e
  have ko_3 : HNE g o_3.2 := hn_X5_comeTo ko_2 eo_3
  replace e := br_s e
  rcases e with ⟨_, e⟩ | ⟨_, e⟩
  · exact hn_X5_notePass_31 ko_3 e
  · replace e := cl_s e
    obtain ⟨r_5, _, e⟩ := e
    replace e := (gd_s e).2
    replace e := br_s e
    rcases e with ⟨_, e⟩ | ⟨_, e⟩
    · exact hn_X5_notePass_31 ko_3 e
    · replace e := cl_s e
      obtain ⟨o_8, eo_8, e⟩ := e
      have ko_8 : HNE g o_8.2 := hn_X5_leftBy ko_3 eo_8
      replace e := (gd_s e).2
      replace e := nm_s e
      obtain ⟨v_10, wv_10, e⟩ := e
      replace e := cl_s e
      obtain ⟨o_11, eo_11, e⟩ := e
      have ko_11 : HNE g o_11 := hn_X3_addPass ko_8 eo_11
      exact hn_X5_notePass_56 F ko_11 e
theorem hn_X5_make_267 {g : Hp} {F : Nat} {o : Hp} {h : Hp} (k : HNE g h) (e : sX5_make_267 F h = some o) : HNE g o := by
  unfold sX5_make_267 at e
  rw [← Option.some.inj e]; exact k
theorem hn_X5_isRoyalHit_32 {g : Hp} {F : Nat} {o : Int32 × Hp} {t0 : Int32} {h : Hp} (k : HNE g h) (e : sX5_isRoyalHit_32 F h t0 = some o) : HNE g o.2 := by
  unfold sX5_isRoyalHit_32 at e
  replace e := (gd_s e).2
  rw [← Option.some.inj e]; exact k
theorem hn_X5_isRoyalHit_31 {g : Hp} {F : Nat} {o : Int32 × Hp} {h : Hp} (k : HNE g h) (e : sX5_isRoyalHit_31 F h = some o) : HNE g o.2 := by
  unfold sX5_isRoyalHit_31 at e
  exact hn_X5_isRoyalHit_32 k e
theorem hn_X5_isHit_255 {g : Hp} {F : Nat} {o : Int32 × Hp} {h : Hp} (k : HNE g h) (e : sX5_isHit_255 F h = some o) : HNE g o.2 := by
  unfold sX5_isHit_255 at e
  rw [← Option.some.inj e]; exact k
theorem hn_X5_isHit_249 {g : Hp} {F : Nat} {o : Int32 × Hp} {x0 : Nat} {x1 : Nat} {x2 : Int32} {x4 : Int64} {x6 : Int64} {x8 : Int32} {k_26 : Hp → Nat → Nat → Int32 → Int64 → Int64 → Int32 → Option (Int32 × Hp)} (R_26 : ∀ {h : Hp} {y1 : Nat} {y2 : Nat} {y3 : Int32} {y4 : Int64} {y5 : Int64} {y6 : Int32}, HNE g h → k_26 h y1 y2 y3 y4 y5 y6 = some o → HNE g o.2) {h : Hp} (k : HNE g h) (e : sX5_isHit_249 F k_26 h x0 x1 x2 x4 x6 x8 = some o) : HNE g o.2 := by
  unfold sX5_isHit_249 at e
  replace e := nm_s e
  obtain ⟨v_1, wv_1, e⟩ := e
  exact R_26 k e
theorem hn_X5_isHit_243 {g : Hp} {F : Nat} {o : Int32 × Hp} {x0 : Nat} {x1 : Nat} {x2 : Int32} {x4 : Int64} {x6 : Int64} {x8 : Int32} {x13 : Int32} {x14 : Int32} {k_26 : Hp → Nat → Nat → Int32 → Int64 → Int64 → Int32 → Option (Int32 × Hp)} (R_26 : ∀ {h : Hp} {y1 : Nat} {y2 : Nat} {y3 : Int32} {y4 : Int64} {y5 : Int64} {y6 : Int32}, HNE g h → k_26 h y1 y2 y3 y4 y5 y6 = some o → HNE g o.2) {k_133 : Hp → Nat → Nat → Int32 → Int64 → Int64 → Int32 → Int32 → Int32 → Option (Int32 × Hp)} (R_133 : ∀ {h : Hp} {y1 : Nat} {y2 : Nat} {y3 : Int32} {y4 : Int64} {y5 : Int64} {y6 : Int32} {y7 : Int32} {y8 : Int32}, HNE g h → k_133 h y1 y2 y3 y4 y5 y6 y7 y8 = some o → HNE g o.2) {h : Hp} (k : HNE g h) (e : sX5_isHit_243 F k_26 k_133 h x0 x1 x2 x4 x6 x8 x13 x14 = some o) : HNE g o.2 := by
  unfold sX5_isHit_243 at e
  replace e := nm_s e
  obtain ⟨v_1, wv_1, e⟩ := e
  exact R_133 k e
theorem hn_X5_isHit_227 {g : Hp} {F : Nat} {o : Int32 × Hp} {x0 : Nat} {x1 : Nat} {x2 : Int32} {x4 : Int64} {x6 : Int64} {x8 : Int32} {x13 : Int32} {x14 : Int32} {x15 : Int32} {t0 : Int32} {k_26 : Hp → Nat → Nat → Int32 → Int64 → Int64 → Int32 → Option (Int32 × Hp)} (R_26 : ∀ {h : Hp} {y1 : Nat} {y2 : Nat} {y3 : Int32} {y4 : Int64} {y5 : Int64} {y6 : Int32}, HNE g h → k_26 h y1 y2 y3 y4 y5 y6 = some o → HNE g o.2) {k_133 : Hp → Nat → Nat → Int32 → Int64 → Int64 → Int32 → Int32 → Int32 → Option (Int32 × Hp)} (R_133 : ∀ {h : Hp} {y1 : Nat} {y2 : Nat} {y3 : Int32} {y4 : Int64} {y5 : Int64} {y6 : Int32} {y7 : Int32} {y8 : Int32}, HNE g h → k_133 h y1 y2 y3 y4 y5 y6 y7 y8 = some o → HNE g o.2) {h : Hp} (k : HNE g h) (e : sX5_isHit_227 F k_26 k_133 h x0 x1 x2 x4 x6 x8 x13 x14 x15 t0 = some o) : HNE g o.2 := by
  unfold sX5_isHit_227 at e
  replace e := br_s e
  rcases e with ⟨_, e⟩ | ⟨_, e⟩
  · exact hn_X5_isHit_243 R_26 R_133 k e
  · replace e := br_s e
    rcases e with ⟨_, e⟩ | ⟨_, e⟩
    · rw [← Option.some.inj e]; exact k
    · exact hn_X5_isHit_243 R_26 R_133 k e
theorem hn_X5_isHit_226 {g : Hp} {F : Nat} {o : Int32 × Hp} {x0 : Nat} {x1 : Nat} {x2 : Int32} {x4 : Int64} {x6 : Int64} {x8 : Int32} {x13 : Int32} {x14 : Int32} {x15 : Int32} {k_26 : Hp → Nat → Nat → Int32 → Int64 → Int64 → Int32 → Option (Int32 × Hp)} (R_26 : ∀ {h : Hp} {y1 : Nat} {y2 : Nat} {y3 : Int32} {y4 : Int64} {y5 : Int64} {y6 : Int32}, HNE g h → k_26 h y1 y2 y3 y4 y5 y6 = some o → HNE g o.2) {k_133 : Hp → Nat → Nat → Int32 → Int64 → Int64 → Int32 → Int32 → Int32 → Option (Int32 × Hp)} (R_133 : ∀ {h : Hp} {y1 : Nat} {y2 : Nat} {y3 : Int32} {y4 : Int64} {y5 : Int64} {y6 : Int32} {y7 : Int32} {y8 : Int32}, HNE g h → k_133 h y1 y2 y3 y4 y5 y6 y7 y8 = some o → HNE g o.2) {h : Hp} (k : HNE g h) (e : sX5_isHit_226 F k_26 k_133 h x0 x1 x2 x4 x6 x8 x13 x14 x15 = some o) : HNE g o.2 := by
  unfold sX5_isHit_226 at e
  exact hn_X5_isHit_227 R_26 R_133 k e
theorem hn_X5_isHit_133 {g : Hp} {F : Nat} {o : Int32 × Hp} {k_26 : Hp → Nat → Nat → Int32 → Int64 → Int64 → Int32 → Option (Int32 × Hp)} (R_26 : ∀ {h : Hp} {y1 : Nat} {y2 : Nat} {y3 : Int32} {y4 : Int64} {y5 : Int64} {y6 : Int32}, HNE g h → k_26 h y1 y2 y3 y4 y5 y6 = some o → HNE g o.2) : ∀ (f : Nat) {h : Hp} {x0 : Nat} {x1 : Nat} {x2 : Int32} {x4 : Int64} {x6 : Int64} {x8 : Int32} {x13 : Int32} {x14 : Int32}, HNE g h → sX5_isHit_133 F k_26 f h x0 x1 x2 x4 x6 x8 x13 x14 = some o → HNE g o.2 := by
  intro f
  induction f with
  | zero => intro h x0 x1 x2 x4 x6 x8 x13 x14 _ e; exact absurd e (by rw [sX5_isHit_133]; exact fun z => nomatch z)
  | succ f ih =>
    intro h x0 x1 x2 x4 x6 x8 x13 x14 k e
    rw [sX5_isHit_133] at e
    replace e := cl_s e
    obtain ⟨r_1, _, e⟩ := e
    replace e := cl_s e
    obtain ⟨r_2, _, e⟩ := e
    replace e := (gd_s e).2
    replace e := br_s e
    rcases e with ⟨_, e⟩ | ⟨_, e⟩
    · exact hn_X5_isHit_249 R_26 k e
    · replace e := cl_s e
      obtain ⟨r_5, _, e⟩ := e
      replace e := cl_s e
      obtain ⟨r_6, _, e⟩ := e
      replace e := (gd_s e).2
      replace e := nm_s e
      obtain ⟨v_8, wv_8, e⟩ := e
      replace e := cl_s e
      obtain ⟨r_9, _, e⟩ := e
      replace e := cl_s e
      obtain ⟨r_10, _, e⟩ := e
      replace e := (gd_s e).2
      replace e := nm_s e
      obtain ⟨v_12, wv_12, e⟩ := e
      replace e := br_s e
      rcases e with ⟨_, e⟩ | ⟨_, e⟩
      · replace e := br_s e
        rcases e with ⟨_, e⟩ | ⟨_, e⟩
        · exact hn_X5_isHit_227 R_26 (fun k e => ih k e) k e
        · exact hn_X5_isHit_227 R_26 (fun k e => ih k e) k e
      · replace e := br_s e
        rcases e with ⟨_, e⟩ | ⟨_, e⟩
        · exact hn_X5_isHit_226 R_26 (fun k e => ih k e) k e
        · replace e := br_s e
          rcases e with ⟨_, e⟩ | ⟨_, e⟩
          · exact hn_X5_isHit_227 R_26 (fun k e => ih k e) k e
          · exact hn_X5_isHit_226 R_26 (fun k e => ih k e) k e
theorem hn_X5_isHit_26 {g : Hp} {F : Nat} {o : Int32 × Hp} : ∀ (f : Nat) {h : Hp} {x0 : Nat} {x1 : Nat} {x2 : Int32} {x4 : Int64} {x6 : Int64} {x8 : Int32}, HNE g h → sX5_isHit_26 F f h x0 x1 x2 x4 x6 x8 = some o → HNE g o.2 := by
  intro f
  induction f with
  | zero => intro h x0 x1 x2 x4 x6 x8 _ e; exact absurd e (by rw [sX5_isHit_26]; exact fun z => nomatch z)
  | succ f ih =>
    intro h x0 x1 x2 x4 x6 x8 k e
    rw [sX5_isHit_26] at e
    replace e := br_s e
    rcases e with ⟨_, e⟩ | ⟨_, e⟩
    · exact hn_X5_isHit_255 k e
    · replace e := br_s e
      rcases e with ⟨_, e⟩ | ⟨_, e⟩
      · exact hn_X5_isHit_255 k e
      · replace e := nm_s e
        obtain ⟨v_3, wv_3, e⟩ := e
        replace e := nm_s e
        obtain ⟨v_4, wv_4, e⟩ := e
        replace e := (gd_s e).2
        replace e := nm_s e
        obtain ⟨v_6, wv_6, e⟩ := e
        replace e := cl_s e
        obtain ⟨r_7, _, e⟩ := e
        replace e := (gd_s e).2
        replace e := nm_s e
        obtain ⟨v_9, wv_9, e⟩ := e
        replace e := cl_s e
        obtain ⟨r_10, _, e⟩ := e
        replace e := cl_s e
        obtain ⟨r_11, _, e⟩ := e
        replace e := (gd_s e).2
        replace e := br_s e
        rcases e with ⟨_, e⟩ | ⟨_, e⟩
        · exact hn_X5_isHit_249 (fun k e => ih k e) k e
        · replace e := nm_s e
          obtain ⟨v_14, wv_14, e⟩ := e
          replace e := cl_s e
          obtain ⟨r_15, _, e⟩ := e
          replace e := cl_s e
          obtain ⟨r_16, _, e⟩ := e
          replace e := (gd_s e).2
          replace e := nm_s e
          obtain ⟨v_18, wv_18, e⟩ := e
          exact hn_X5_isHit_133 (fun k e => ih k e) F k e
theorem hn_X5_isHit {g : Hp} {F : Nat} {o : Int32 × Hp} {x0 : Nat} {x1 : Nat} {x2 : Int32} {x3 : Int32} {h : Hp} (k : HNE g h) (e : sX5_isHit F h x0 x1 x2 x3 = some o) : HNE g o.2 := by
  unfold sX5_isHit at e
  replace e := cl_s e
  obtain ⟨r_1, _, e⟩ := e
  replace e := (gd_s e).2
  replace e := cl_s e
  obtain ⟨r_3, _, e⟩ := e
  replace e := (gd_s e).2
  replace e := nm_s e
  obtain ⟨v_5, wv_5, e⟩ := e
  replace e := cl_s e
  obtain ⟨r_6, _, e⟩ := e
  replace e := (gd_s e).2
  replace e := nm_s e
  obtain ⟨v_8, wv_8, e⟩ := e
  exact hn_X5_isHit_26 F k e
theorem hn_X5_isRoyalHit {g : Hp} {F : Nat} {o : Int32 × Hp} {x0 : Nat} {x1 : Nat} {x2 : Int32} {h : Hp} (k : HNE g h) (e : sX5_isRoyalHit F h x0 x1 x2 = some o) : HNE g o.2 := by
  unfold sX5_isRoyalHit at e
  replace e := cl_s e
  obtain ⟨r_1, _, e⟩ := e
  replace e := (gd_s e).2
  replace e := br_s e
  rcases e with ⟨_, e⟩ | ⟨_, e⟩
  · exact hn_X5_isRoyalHit_31 k e
  · replace e := cl_s e
    obtain ⟨r_4, _, e⟩ := e
    replace e := (gd_s e).2
    replace e := cl_s e
    obtain ⟨o_6, eo_6, e⟩ := e
    have ko_6 : HNE g o_6.2 := hn_X5_isHit k eo_6
    replace e := br_s e
    rcases e with ⟨_, e⟩ | ⟨_, e⟩
    · exact hn_X5_isRoyalHit_31 ko_6 e
    · exact hn_X5_isRoyalHit_32 ko_6 e
theorem hn_X5_make_216 {g : Hp} {F : Nat} {o : Hp} {x0 : Nat} {x1 : Nat} {x3 : Int32} {t0 : Int32} {t1 : Nat} {h : Hp} (k : HNE g h) (e : sX5_make_216 F h x0 x1 x3 t0 t1 = some o) : HNE g o := by
  unfold sX5_make_216 at e
  replace e := nm_s e
  obtain ⟨h_1, wh_1, e⟩ := e
  have kh_1 : HNE g h_1 := by rw [wh_1]; exact k
  replace e := nm_s e
  obtain ⟨h_2, wh_2, e⟩ := e
  have kh_2 : HNE g h_2 := by rw [wh_2]; exact kh_1
  replace e := cl_s e
  obtain ⟨r_3, _, e⟩ := e
  replace e := br_s e
  rcases e with ⟨_, e⟩ | ⟨_, e⟩
  · exact hn_X5_make_267 kh_2 e
  · replace e := cl_s e
    obtain ⟨o_5, eo_5, e⟩ := e
    have ko_5 : HNE g o_5.2 := hn_X5_isRoyalHit kh_2 eo_5
    replace e := br_s e
    rcases e with ⟨_, e⟩ | ⟨_, e⟩
    · exact hn_X5_make_267 ko_5 e
    · replace e := cl_s e
      obtain ⟨r_7, _, e⟩ := e
      replace e := cl_s e
      obtain ⟨r_8, _, e⟩ := e
      replace e := (gd_s e).2
      replace e := (gd_s e).2
      replace e := nm_s e
      obtain ⟨h_11, wh_11, e⟩ := e
      have kh_11 : HNE g h_11 := by rw [wh_11]; exact ko_5
      exact hn_X5_make_267 kh_11 e
theorem hn_X5_make_192 {g : Hp} {F : Nat} {o : Hp} {x0 : Nat} {x1 : Nat} {x3 : Int32} {t0 : Int32} {h : Hp} (k : HNE g h) (e : sX5_make_192 F h x0 x1 x3 t0 = some o) : HNE g o := by
  unfold sX5_make_192 at e
  replace e := br_s e
  rcases e with ⟨_, e⟩ | ⟨_, e⟩
  · exact hn_X5_make_216 k e
  · exact hn_X5_make_216 k e
theorem hn_X5_make_187 {g : Hp} {F : Nat} {o : Hp} {x0 : Nat} {x1 : Nat} {x3 : Int32} {h : Hp} (k : HNE g h) (e : sX5_make_187 F h x0 x1 x3 = some o) : HNE g o := by
  unfold sX5_make_187 at e
  exact hn_X5_make_192 k e
theorem hn_X5_make_191 {g : Hp} {F : Nat} {o : Hp} {x0 : Nat} {x1 : Nat} {x3 : Int32} {h : Hp} (k : HNE g h) (e : sX5_make_191 F h x0 x1 x3 = some o) : HNE g o := by
  unfold sX5_make_191 at e
  exact hn_X5_make_192 k e
theorem hn_X1_becomesOthers_24 {g : Hp} {o : Int32 × Hp} {t0 : Int32} {h : Hp} (k : HNE g h) (e : sX1_becomesOthers_24 h t0 = some o) : HNE g o.2 := by
  unfold sX1_becomesOthers_24 at e
  replace e := (gd_s e).2
  rw [← Option.some.inj e]; exact k
theorem hn_X1_becomesOthers_23 {g : Hp} {o : Int32 × Hp} {h : Hp} (k : HNE g h) (e : sX1_becomesOthers_23 h = some o) : HNE g o.2 := by
  unfold sX1_becomesOthers_23 at e
  exact hn_X1_becomesOthers_24 k e
theorem hn_X1_becomesOthers {g : Hp} {o : Int32 × Hp} {x0 : Nat} {x1 : Int32} {h : Hp} (k : HNE g h) (e : sX1_becomesOthers h x0 x1 = some o) : HNE g o.2 := by
  unfold sX1_becomesOthers at e
  replace e := br_s e
  rcases e with ⟨_, e⟩ | ⟨_, e⟩
  · exact hn_X1_becomesOthers_23 k e
  · replace e := br_s e
    rcases e with ⟨_, e⟩ | ⟨_, e⟩
    · exact hn_X1_becomesOthers_23 k e
    · replace e := cl_s e
      obtain ⟨r_3, _, e⟩ := e
      replace e := (gd_s e).2
      replace e := br_s e
      rcases e with ⟨_, e⟩ | ⟨_, e⟩
      · exact hn_X1_becomesOthers_23 k e
      · exact hn_X1_becomesOthers_24 k e
theorem hn_X5_make_151 {g : Hp} {F : Nat} {o : Hp} {x0 : Nat} {x1 : Nat} {x2 : Int32} {x3 : Int32} {x4 : Int32} {x5 : Int32} {x6 : Int32} {h : Hp} (k : HNE g h) (e : sX5_make_151 F h x0 x1 x2 x3 x4 x5 x6 = some o) : HNE g o := by
  unfold sX5_make_151 at e
  replace e := cl_s e
  obtain ⟨o_1, eo_1, e⟩ := e
  have ko_1 : HNE g o_1 := hn_X5_notePass k eo_1
  replace e := br_s e
  rcases e with ⟨_, e⟩ | ⟨_, e⟩
  · replace e := br_s e
    rcases e with ⟨_, e⟩ | ⟨_, e⟩
    · exact hn_X5_make_187 ko_1 e
    · replace e := br_s e
      rcases e with ⟨_, e⟩ | ⟨_, e⟩
      · exact hn_X5_make_191 ko_1 e
      · replace e := cl_s e
        obtain ⟨r_5, _, e⟩ := e
        replace e := cl_s e
        obtain ⟨o_6, eo_6, e⟩ := e
        have ko_6 : HNE g o_6.2 := hn_X1_becomesOthers ko_1 eo_6
        replace e := br_s e
        rcases e with ⟨_, e⟩ | ⟨_, e⟩
        · exact hn_X5_make_191 ko_6 e
        · exact hn_X5_make_187 ko_6 e
  · exact hn_X5_make_187 ko_1 e
theorem hn_X3_inHand {g : Hp} {o : Int32 × Hp} {x0 : Nat} {x1 : Int32} {x2 : Int32} {h : Hp} (k : HNE g h) (e : sX3_inHand h x0 x1 x2 = some o) : HNE g o.2 := by
  unfold sX3_inHand at e
  replace e := cl_s e
  obtain ⟨r_1, _, e⟩ := e
  replace e := (gd_s e).2
  rw [← Option.some.inj e]; exact k
theorem hn_X5_make_102 {g : Hp} {F : Nat} {o : Hp} {x0 : Nat} {x1 : Nat} {x2 : Int32} {x3 : Int32} {x4 : Int32} {x5 : Int32} {x6 : Int32} {h : Hp} (k : HNE g h) (e : sX5_make_102 F h x0 x1 x2 x3 x4 x5 x6 = some o) : HNE g o := by
  unfold sX5_make_102 at e
  replace e := cl_s e
  obtain ⟨r_1, _, e⟩ := e
  replace e := cl_s e
  obtain ⟨o_2, eo_2, e⟩ := e
  have ko_2 : HNE g o_2.2 := hn_X1_has k eo_2
  replace e := br_s e
  rcases e with ⟨_, e⟩ | ⟨_, e⟩
  · exact hn_X5_make_151 ko_2 e
  · replace e := br_s e
    rcases e with ⟨_, e⟩ | ⟨_, e⟩
    · exact hn_X5_make_151 ko_2 e
    · replace e := cl_s e
      obtain ⟨r_5, _, e⟩ := e
      replace e := br_s e
      rcases e with ⟨_, e⟩ | ⟨_, e⟩
      · exact hn_X5_make_151 ko_2 e
      · replace e := cl_s e
        obtain ⟨o_7, eo_7, e⟩ := e
        have ko_7 : HNE g o_7.2 := hn_X3_inHand ko_2 eo_7
        replace e := br_s e
        rcases e with ⟨_, e⟩ | ⟨_, e⟩
        · exact hn_X5_make_151 ko_7 e
        · replace e := cl_s e
          obtain ⟨o_9, eo_9, e⟩ := e
          have ko_9 : HNE g o_9 := hn_X3_addToHand ko_7 eo_9
          exact hn_X5_make_151 ko_9 e
theorem hn_X5_make_54 {g : Hp} {F : Nat} {o : Hp} {x0 : Nat} {x1 : Nat} {x2 : Int32} {x3 : Int32} {x4 : Int32} {x5 : Int32} {x6 : Int32} {h : Hp} (k : HNE g h) (e : sX5_make_54 F h x0 x1 x2 x3 x4 x5 x6 = some o) : HNE g o := by
  unfold sX5_make_54 at e
  replace e := nm_s e
  obtain ⟨h_1, wh_1, e⟩ := e
  have kh_1 : HNE g h_1 := by rw [wh_1]; exact k
  replace e := cl_s e
  obtain ⟨o_2, eo_2, e⟩ := e
  have ko_2 : HNE g o_2 := hn_X5_shift kh_1 eo_2
  replace e := cl_s e
  obtain ⟨o_3, eo_3, e⟩ := e
  have ko_3 : HNE g o_3 := hn_X5_blast ko_2 eo_3
  replace e := nm_s e
  obtain ⟨h_4, wh_4, e⟩ := e
  have kh_4 : HNE g h_4 := by rw [wh_4]; exact ko_3
  replace e := br_s e
  rcases e with ⟨_, e⟩ | ⟨_, e⟩
  · replace e := cl_s e
    obtain ⟨o_6, eo_6, e⟩ := e
    have ko_6 : HNE g o_6 := hn_X3_addToHand kh_4 eo_6
    exact hn_X5_make_102 ko_6 e
  · exact hn_X5_make_102 kh_4 e
theorem hn_X5_make {g : Hp} {F : Nat} {o : Hp} {x0 : Nat} {x1 : Nat} {x2 : Int32} {h : Hp} (k : HNE g h) (e : sX5_make F h x0 x1 x2 = some o) : HNE g o := by
  unfold sX5_make at e
  replace e := nm_s e
  obtain ⟨v_1, wv_1, e⟩ := e
  replace e := cl_s e
  obtain ⟨o_2, eo_2, e⟩ := e
  have ko_2 : HNE g o_2.2 := hn_X5_manOf k eo_2
  replace e := cl_s e
  obtain ⟨o_3, eo_3, e⟩ := e
  have ko_3 : HNE g o_3.2 := hn_X5_kindOf ko_2 eo_3
  replace e := cl_s e
  obtain ⟨o_4, eo_4, e⟩ := e
  have ko_4 : HNE g o_4.2 := hn_X5_takenBy ko_3 eo_4
  replace e := cl_s e
  obtain ⟨r_5, _, e⟩ := e
  replace e := br_s e
  rcases e with ⟨_, e⟩ | ⟨_, e⟩
  · replace e := cl_s e
    obtain ⟨r_7, _, e⟩ := e
    replace e := (gd_s e).2
    replace e := nm_s e
    obtain ⟨h_9, wh_9, e⟩ := e
    have kh_9 : HNE g h_9 := by rw [wh_9]; exact ko_4
    exact hn_X5_make_54 kh_9 e
  · exact hn_X5_make_54 ko_4 e
theorem hn_X3_copyFrom_17 {g : Hp} {F : Nat} {o : Hp} : ∀ (f : Nat) {h : Hp} {x0 : Nat} {x1 : Nat} {x2 : Int32}, HNE g h → sX3_copyFrom_17 F f h x0 x1 x2 = some o → HNE g o := by
  intro f
  induction f with
  | zero => intro h x0 x1 x2 _ e; exact absurd e (by rw [sX3_copyFrom_17]; exact fun z => nomatch z)
  | succ f ih =>
    intro h x0 x1 x2 k e
    rw [sX3_copyFrom_17] at e
    replace e := br_s e
    rcases e with ⟨_, e⟩ | ⟨_, e⟩
    · replace e := nm_s e
      obtain ⟨h_2, wh_2, e⟩ := e
      have kh_2 : HNE g h_2 := by rw [wh_2]; exact k
      replace e := nm_s e
      obtain ⟨h_3, wh_3, e⟩ := e
      have kh_3 : HNE g h_3 := by rw [wh_3]; exact kh_2
      replace e := nm_s e
      obtain ⟨h_4, wh_4, e⟩ := e
      have kh_4 : HNE g h_4 := by rw [wh_4]; exact kh_3
      replace e := nm_s e
      obtain ⟨h_5, wh_5, e⟩ := e
      have kh_5 : HNE g h_5 := by rw [wh_5]; exact kh_4
      replace e := nm_s e
      obtain ⟨h_6, wh_6, e⟩ := e
      have kh_6 : HNE g h_6 := by rw [wh_6]; exact kh_5
      rw [← Option.some.inj e]; exact kh_6
    · replace e := cl_s e
      obtain ⟨r_7, _, e⟩ := e
      replace e := cl_s e
      obtain ⟨r_8, _, e⟩ := e
      replace e := (gd_s e).2
      replace e := (gd_s e).2
      replace e := nm_s e
      obtain ⟨h_11, wh_11, e⟩ := e
      have kh_11 : HNE g h_11 := by rw [wh_11]; exact k
      replace e := cl_s e
      obtain ⟨r_12, _, e⟩ := e
      replace e := cl_s e
      obtain ⟨r_13, _, e⟩ := e
      replace e := (gd_s e).2
      replace e := (gd_s e).2
      replace e := nm_s e
      obtain ⟨h_16, wh_16, e⟩ := e
      have kh_16 : HNE g h_16 := by rw [wh_16]; exact kh_11
      replace e := cl_s e
      obtain ⟨r_17, _, e⟩ := e
      replace e := cl_s e
      obtain ⟨r_18, _, e⟩ := e
      replace e := (gd_s e).2
      replace e := (gd_s e).2
      replace e := nm_s e
      obtain ⟨h_21, wh_21, e⟩ := e
      have kh_21 : HNE g h_21 := by rw [wh_21]; exact kh_16
      replace e := cl_s e
      obtain ⟨r_22, _, e⟩ := e
      replace e := cl_s e
      obtain ⟨r_23, _, e⟩ := e
      replace e := (gd_s e).2
      replace e := (gd_s e).2
      replace e := nm_s e
      obtain ⟨h_26, wh_26, e⟩ := e
      have kh_26 : HNE g h_26 := by rw [wh_26]; exact kh_21
      replace e := nm_s e
      obtain ⟨v_27, wv_27, e⟩ := e
      exact ih kh_26 e
theorem hn_X3_copyFrom {g : Hp} {F : Nat} {o : Hp} {x0 : Nat} {x1 : Nat} {h : Hp} (k : HNE g h) (e : sX3_copyFrom F h x0 x1 = some o) : HNE g o := by
  unfold sX3_copyFrom at e
  replace e := cl_s e
  obtain ⟨r_1, _, e⟩ := e
  replace e := cl_s e
  obtain ⟨r_2, _, e⟩ := e
  replace e := (gd_s e).2
  replace e := (gd_s e).2
  replace e := (gd_s e).2
  replace e := (gd_s e).2
  replace e := (gd_s e).2
  replace e := (gd_s e).2
  replace e := nm_s e
  obtain ⟨h_9, wh_9, e⟩ := e
  have kh_9 : HNE g h_9 := by rw [wh_9]; exact k
  exact hn_X3_copyFrom_17 F kh_9 e
theorem hn_X5_begin_102 {g : Hp} {F : Nat} {o : Hp} {h : Hp} (k : HNE g h) (e : sX5_begin_102 F h = some o) : HNE g o := by
  unfold sX5_begin_102 at e
  rw [← Option.some.inj e]; exact k
theorem hn_X5_survey_230 {g : Hp} {F : Nat} {o : Hp} {h : Hp} (k : HNE g h) (e : sX5_survey_230 F h = some o) : HNE g o := by
  unfold sX5_survey_230 at e
  rw [← Option.some.inj e]; exact k
theorem hn_X5_survey_224 {g : Hp} {F : Nat} {o : Hp} {x0 : Nat} {x1 : Int32} {x2 : Int64} {x4 : Int64} {x6 : Int32} {k_30 : Hp → Nat → Int32 → Int64 → Int64 → Int32 → Option (Hp)} (R_30 : ∀ {h : Hp} {y1 : Nat} {y2 : Int32} {y3 : Int64} {y4 : Int64} {y5 : Int32}, HNE g h → k_30 h y1 y2 y3 y4 y5 = some o → HNE g o) {h : Hp} (k : HNE g h) (e : sX5_survey_224 F k_30 h x0 x1 x2 x4 x6 = some o) : HNE g o := by
  unfold sX5_survey_224 at e
  replace e := nm_s e
  obtain ⟨v_1, wv_1, e⟩ := e
  exact R_30 k e
theorem hn_X10_cell {g : Hp} {o : Int32 × Hp} {x0 : Int32} {x1 : Int32} {x2 : Int32} {h : Hp} (k : HNE g h) (e : sX10_cell h x0 x1 x2 = some o) : HNE g o.2 := by
  unfold sX10_cell at e
  rw [← Option.some.inj e]; exact k
theorem hn_X5_survey_218 {g : Hp} {F : Nat} {o : Hp} {x0 : Nat} {x1 : Int32} {x2 : Int64} {x4 : Int64} {x6 : Int32} {x11 : Int32} {x12 : Int32} {k_30 : Hp → Nat → Int32 → Int64 → Int64 → Int32 → Option (Hp)} (R_30 : ∀ {h : Hp} {y1 : Nat} {y2 : Int32} {y3 : Int64} {y4 : Int64} {y5 : Int32}, HNE g h → k_30 h y1 y2 y3 y4 y5 = some o → HNE g o) {k_135 : Hp → Nat → Int32 → Int64 → Int64 → Int32 → Int32 → Int32 → Option (Hp)} (R_135 : ∀ {h : Hp} {y1 : Nat} {y2 : Int32} {y3 : Int64} {y4 : Int64} {y5 : Int32} {y6 : Int32} {y7 : Int32}, HNE g h → k_135 h y1 y2 y3 y4 y5 y6 y7 = some o → HNE g o) {h : Hp} (k : HNE g h) (e : sX5_survey_218 F k_30 k_135 h x0 x1 x2 x4 x6 x11 x12 = some o) : HNE g o := by
  unfold sX5_survey_218 at e
  replace e := nm_s e
  obtain ⟨v_1, wv_1, e⟩ := e
  exact R_135 k e
theorem hn_X5_survey_215 {g : Hp} {F : Nat} {o : Hp} {x0 : Nat} {x1 : Int32} {x2 : Int64} {x4 : Int64} {x6 : Int32} {x11 : Int32} {x12 : Int32} {t0 : Int32} {t1 : Nat} {k_30 : Hp → Nat → Int32 → Int64 → Int64 → Int32 → Option (Hp)} (R_30 : ∀ {h : Hp} {y1 : Nat} {y2 : Int32} {y3 : Int64} {y4 : Int64} {y5 : Int32}, HNE g h → k_30 h y1 y2 y3 y4 y5 = some o → HNE g o) {k_135 : Hp → Nat → Int32 → Int64 → Int64 → Int32 → Int32 → Int32 → Option (Hp)} (R_135 : ∀ {h : Hp} {y1 : Nat} {y2 : Int32} {y3 : Int64} {y4 : Int64} {y5 : Int32} {y6 : Int32} {y7 : Int32}, HNE g h → k_135 h y1 y2 y3 y4 y5 y6 y7 = some o → HNE g o) {h : Hp} (k : HNE g h) (e : sX5_survey_215 F k_30 k_135 h x0 x1 x2 x4 x6 x11 x12 t0 t1 = some o) : HNE g o := by
  unfold sX5_survey_215 at e
  replace e := (gd_s e).2
  replace e := nm_s e
  obtain ⟨h_2, wh_2, e⟩ := e
  have kh_2 : HNE g h_2 := by rw [wh_2]; exact k
  exact hn_X5_survey_218 R_30 R_135 kh_2 e
theorem hn_X5_survey_214 {g : Hp} {F : Nat} {o : Hp} {x0 : Nat} {x1 : Int32} {x2 : Int64} {x4 : Int64} {x6 : Int32} {x11 : Int32} {x12 : Int32} {t0 : Nat} {k_30 : Hp → Nat → Int32 → Int64 → Int64 → Int32 → Option (Hp)} (R_30 : ∀ {h : Hp} {y1 : Nat} {y2 : Int32} {y3 : Int64} {y4 : Int64} {y5 : Int32}, HNE g h → k_30 h y1 y2 y3 y4 y5 = some o → HNE g o) {k_135 : Hp → Nat → Int32 → Int64 → Int64 → Int32 → Int32 → Int32 → Option (Hp)} (R_135 : ∀ {h : Hp} {y1 : Nat} {y2 : Int32} {y3 : Int64} {y4 : Int64} {y5 : Int32} {y6 : Int32} {y7 : Int32}, HNE g h → k_135 h y1 y2 y3 y4 y5 y6 y7 = some o → HNE g o) {h : Hp} (k : HNE g h) (e : sX5_survey_214 F k_30 k_135 h x0 x1 x2 x4 x6 x11 x12 t0 = some o) : HNE g o := by
  unfold sX5_survey_214 at e
  exact hn_X5_survey_215 R_30 R_135 k e
theorem hn_X10_isOpen_37 {g : Hp} {o : Int32 × Hp} {t0 : Int32} {h : Hp} (k : HNE g h) (e : sX10_isOpen_37 h t0 = some o) : HNE g o.2 := by
  unfold sX10_isOpen_37 at e
  replace e := (gd_s e).2
  rw [← Option.some.inj e]; exact k
theorem hn_X10_isOpen_62 {g : Hp} {o : Int32 × Hp} {t0 : Int32} {h : Hp} (k : HNE g h) (e : sX10_isOpen_62 h t0 = some o) : HNE g o.2 := by
  unfold sX10_isOpen_62 at e
  replace e := (gd_s e).2
  rw [← Option.some.inj e]; exact k
theorem hn_X10_isOpen_61 {g : Hp} {o : Int32 × Hp} {h : Hp} (k : HNE g h) (e : sX10_isOpen_61 h = some o) : HNE g o.2 := by
  unfold sX10_isOpen_61 at e
  exact hn_X10_isOpen_62 k e
theorem hn_X10_isOpen {g : Hp} {o : Int32 × Hp} {x0 : Nat} {x1 : Int32} {x2 : Int64} {h : Hp} (k : HNE g h) (e : sX10_isOpen h x0 x1 x2 = some o) : HNE g o.2 := by
  unfold sX10_isOpen at e
  replace e := cl_s e
  obtain ⟨r_1, _, e⟩ := e
  replace e := (gd_s e).2
  replace e := nm_s e
  obtain ⟨v_3, wv_3, e⟩ := e
  replace e := cl_s e
  obtain ⟨r_4, _, e⟩ := e
  replace e := (gd_s e).2
  replace e := br_s e
  rcases e with ⟨_, e⟩ | ⟨_, e⟩
  · replace e := br_s e
    rcases e with ⟨_, e⟩ | ⟨_, e⟩
    · exact hn_X10_isOpen_37 k e
    · exact hn_X10_isOpen_37 k e
  · replace e := br_s e
    rcases e with ⟨_, e⟩ | ⟨_, e⟩
    · exact hn_X10_isOpen_61 k e
    · replace e := br_s e
      rcases e with ⟨_, e⟩ | ⟨_, e⟩
      · exact hn_X10_isOpen_62 k e
      · exact hn_X10_isOpen_61 k e
theorem hn_X5_survey_135 {g : Hp} {F : Nat} {o : Hp} {k_30 : Hp → Nat → Int32 → Int64 → Int64 → Int32 → Option (Hp)} (R_30 : ∀ {h : Hp} {y1 : Nat} {y2 : Int32} {y3 : Int64} {y4 : Int64} {y5 : Int32}, HNE g h → k_30 h y1 y2 y3 y4 y5 = some o → HNE g o) : ∀ (f : Nat) {h : Hp} {x0 : Nat} {x1 : Int32} {x2 : Int64} {x4 : Int64} {x6 : Int32} {x11 : Int32} {x12 : Int32}, HNE g h → sX5_survey_135 F k_30 f h x0 x1 x2 x4 x6 x11 x12 = some o → HNE g o := by
  intro f
  induction f with
  | zero => intro h x0 x1 x2 x4 x6 x11 x12 _ e; exact absurd e (by rw [sX5_survey_135]; exact fun z => nomatch z)
  | succ f ih =>
    intro h x0 x1 x2 x4 x6 x11 x12 k e
    rw [sX5_survey_135] at e
    replace e := cl_s e
    obtain ⟨r_1, _, e⟩ := e
    replace e := cl_s e
    obtain ⟨r_2, _, e⟩ := e
    replace e := (gd_s e).2
    replace e := br_s e
    rcases e with ⟨_, e⟩ | ⟨_, e⟩
    · exact hn_X5_survey_224 R_30 k e
    · replace e := cl_s e
      obtain ⟨r_5, _, e⟩ := e
      replace e := cl_s e
      obtain ⟨r_6, _, e⟩ := e
      replace e := (gd_s e).2
      replace e := br_s e
      rcases e with ⟨_, e⟩ | ⟨_, e⟩
      · replace e := cl_s e
        obtain ⟨r_9, _, e⟩ := e
        replace e := cl_s e
        obtain ⟨r_10, _, e⟩ := e
        replace e := (gd_s e).2
        replace e := nm_s e
        obtain ⟨h_12, wh_12, e⟩ := e
        have kh_12 : HNE g h_12 := by rw [wh_12]; exact k
        replace e := br_s e
        rcases e with ⟨_, e⟩ | ⟨_, e⟩
        · exact hn_X5_survey_214 R_30 (fun k e => ih k e) kh_12 e
        · replace e := cl_s e
          obtain ⟨r_14, _, e⟩ := e
          replace e := cl_s e
          obtain ⟨o_15, eo_15, e⟩ := e
          have ko_15 : HNE g o_15.2 := hn_X10_isOpen kh_12 eo_15
          replace e := br_s e
          rcases e with ⟨_, e⟩ | ⟨_, e⟩
          · exact hn_X5_survey_215 R_30 (fun k e => ih k e) ko_15 e
          · exact hn_X5_survey_214 R_30 (fun k e => ih k e) ko_15 e
      · exact hn_X5_survey_218 R_30 (fun k e => ih k e) k e
theorem hn_X5_survey_30 {g : Hp} {F : Nat} {o : Hp} : ∀ (f : Nat) {h : Hp} {x0 : Nat} {x1 : Int32} {x2 : Int64} {x4 : Int64} {x6 : Int32}, HNE g h → sX5_survey_30 F f h x0 x1 x2 x4 x6 = some o → HNE g o := by
  intro f
  induction f with
  | zero => intro h x0 x1 x2 x4 x6 _ e; exact absurd e (by rw [sX5_survey_30]; exact fun z => nomatch z)
  | succ f ih =>
    intro h x0 x1 x2 x4 x6 k e
    rw [sX5_survey_30] at e
    replace e := br_s e
    rcases e with ⟨_, e⟩ | ⟨_, e⟩
    · exact hn_X5_survey_230 k e
    · replace e := br_s e
      rcases e with ⟨_, e⟩ | ⟨_, e⟩
      · exact hn_X5_survey_230 k e
      · replace e := nm_s e
        obtain ⟨v_3, wv_3, e⟩ := e
        replace e := nm_s e
        obtain ⟨v_4, wv_4, e⟩ := e
        replace e := (gd_s e).2
        replace e := nm_s e
        obtain ⟨v_6, wv_6, e⟩ := e
        replace e := cl_s e
        obtain ⟨r_7, _, e⟩ := e
        replace e := cl_s e
        obtain ⟨r_8, _, e⟩ := e
        replace e := (gd_s e).2
        replace e := nm_s e
        obtain ⟨v_10, wv_10, e⟩ := e
        replace e := cl_s e
        obtain ⟨r_11, _, e⟩ := e
        replace e := cl_s e
        obtain ⟨r_12, _, e⟩ := e
        replace e := (gd_s e).2
        replace e := br_s e
        rcases e with ⟨_, e⟩ | ⟨_, e⟩
        · exact hn_X5_survey_224 (fun k e => ih k e) k e
        · replace e := cl_s e
          obtain ⟨o_15, eo_15, e⟩ := e
          have ko_15 : HNE g o_15.2 := hn_X10_cell k eo_15
          replace e := cl_s e
          obtain ⟨r_16, _, e⟩ := e
          replace e := cl_s e
          obtain ⟨r_17, _, e⟩ := e
          replace e := (gd_s e).2
          replace e := nm_s e
          obtain ⟨v_19, wv_19, e⟩ := e
          exact hn_X5_survey_135 (fun k e => ih k e) F ko_15 e
theorem hn_X5_survey {g : Hp} {F : Nat} {o : Hp} {x0 : Nat} {x1 : Int32} {h : Hp} (k : HNE g h) (e : sX5_survey F h x0 x1 = some o) : HNE g o := by
  unfold sX5_survey at e
  replace e := cl_s e
  obtain ⟨r_1, _, e⟩ := e
  replace e := cl_s e
  obtain ⟨o_2, eo_2, e⟩ := e
  have ko_2 : HNE g o_2.2 := hn_X3_occupied k eo_2
  replace e := cl_s e
  obtain ⟨r_3, _, e⟩ := e
  replace e := cl_s e
  obtain ⟨r_4, _, e⟩ := e
  replace e := cl_s e
  obtain ⟨r_5, _, e⟩ := e
  replace e := (gd_s e).2
  replace e := nm_s e
  obtain ⟨v_7, wv_7, e⟩ := e
  exact hn_X5_survey_30 F ko_2 e
theorem hn_X5_begin_54 {g : Hp} {F : Nat} {o : Hp} {x0 : Nat} {t0 : Int32} {t1 : Nat} {h : Hp} (k : HNE g h) (e : sX5_begin_54 F h x0 t0 t1 = some o) : HNE g o := by
  unfold sX5_begin_54 at e
  replace e := (gd_s e).2
  replace e := nm_s e
  obtain ⟨h_2, wh_2, e⟩ := e
  have kh_2 : HNE g h_2 := by rw [wh_2]; exact k
  replace e := br_s e
  rcases e with ⟨_, e⟩ | ⟨_, e⟩
  · exact hn_X5_begin_102 kh_2 e
  · replace e := cl_s e
    obtain ⟨r_4, _, e⟩ := e
    replace e := cl_s e
    obtain ⟨r_5, _, e⟩ := e
    replace e := cl_s e
    obtain ⟨r_6, _, e⟩ := e
    replace e := (gd_s e).2
    replace e := br_s e
    rcases e with ⟨_, e⟩ | ⟨_, e⟩
    · exact hn_X5_begin_102 kh_2 e
    · replace e := cl_s e
      obtain ⟨r_9, _, e⟩ := e
      replace e := cl_s e
      obtain ⟨r_10, _, e⟩ := e
      replace e := cl_s e
      obtain ⟨r_11, _, e⟩ := e
      replace e := (gd_s e).2
      replace e := cl_s e
      obtain ⟨o_13, eo_13, e⟩ := e
      have ko_13 : HNE g o_13 := hn_X5_survey kh_2 eo_13
      exact hn_X5_begin_102 ko_13 e
theorem hn_X5_begin_49 {g : Hp} {F : Nat} {o : Hp} {x0 : Nat} {t0 : Nat} {h : Hp} (k : HNE g h) (e : sX5_begin_49 F h x0 t0 = some o) : HNE g o := by
  unfold sX5_begin_49 at e
  exact hn_X5_begin_54 k e
theorem hn_X5_begin {g : Hp} {F : Nat} {o : Hp} {x0 : Nat} {x1 : Nat} {x2 : Nat} {h : Hp} (k : HNE g h) (e : sX5_begin F h x0 x1 x2 = some o) : HNE g o := by
  unfold sX5_begin at e
  replace e := nm_s e
  obtain ⟨h_1, wh_1, e⟩ := e
  have kh_1 : HNE g h_1 := by rw [wh_1]; exact k
  replace e := nm_s e
  obtain ⟨h_2, wh_2, e⟩ := e
  have kh_2 : HNE g h_2 := by rw [wh_2]; exact kh_1
  replace e := nm_s e
  obtain ⟨h_3, wh_3, e⟩ := e
  have kh_3 : HNE g h_3 := by rw [wh_3]; exact kh_2
  replace e := nm_s e
  obtain ⟨h_4, wh_4, e⟩ := e
  have kh_4 : HNE g h_4 := by rw [wh_4]; exact kh_3
  replace e := nm_s e
  obtain ⟨h_5, wh_5, e⟩ := e
  have kh_5 : HNE g h_5 := by rw [wh_5]; exact kh_4
  replace e := cl_s e
  obtain ⟨r_6, _, e⟩ := e
  replace e := br_s e
  rcases e with ⟨_, e⟩ | ⟨_, e⟩
  · exact hn_X5_begin_49 kh_5 e
  · replace e := cl_s e
    obtain ⟨r_8, _, e⟩ := e
    replace e := cl_s e
    obtain ⟨o_9, eo_9, e⟩ := e
    have ko_9 : HNE g o_9.2 := hn_X1_has kh_5 eo_9
    replace e := br_s e
    rcases e with ⟨_, e⟩ | ⟨_, e⟩
    · exact hn_X5_begin_49 ko_9 e
    · exact hn_X5_begin_54 ko_9 e
theorem hn_X5_isOnHill_36 {g : Hp} {o : Int32 × Hp} {t0 : Int32} {h : Hp} (k : HNE g h) (e : sX5_isOnHill_36 h t0 = some o) : HNE g o.2 := by
  unfold sX5_isOnHill_36 at e
  replace e := (gd_s e).2
  rw [← Option.some.inj e]; exact k
theorem hn_X5_isOnHill_35 {g : Hp} {o : Int32 × Hp} {h : Hp} (k : HNE g h) (e : sX5_isOnHill_35 h = some o) : HNE g o.2 := by
  unfold sX5_isOnHill_35 at e
  exact hn_X5_isOnHill_36 k e
theorem hn_X5_isOnHill {g : Hp} {o : Int32 × Hp} {x0 : Nat} {x1 : Nat} {x2 : Int32} {h : Hp} (k : HNE g h) (e : sX5_isOnHill h x0 x1 x2 = some o) : HNE g o.2 := by
  unfold sX5_isOnHill at e
  replace e := cl_s e
  obtain ⟨r_1, _, e⟩ := e
  replace e := (gd_s e).2
  replace e := br_s e
  rcases e with ⟨_, e⟩ | ⟨_, e⟩
  · exact hn_X5_isOnHill_35 k e
  · replace e := cl_s e
    obtain ⟨r_4, _, e⟩ := e
    replace e := cl_s e
    obtain ⟨r_5, _, e⟩ := e
    replace e := (gd_s e).2
    replace e := br_s e
    rcases e with ⟨_, e⟩ | ⟨_, e⟩
    · exact hn_X5_isOnHill_35 k e
    · exact hn_X5_isOnHill_36 k e
theorem hn_X5_isBare_27 {g : Hp} {o : Int32 × Hp} {t0 : Int32} {h : Hp} (k : HNE g h) (e : sX5_isBare_27 h t0 = some o) : HNE g o.2 := by
  unfold sX5_isBare_27 at e
  replace e := (gd_s e).2
  rw [← Option.some.inj e]; exact k
theorem hn_X5_isBare_26 {g : Hp} {o : Int32 × Hp} {h : Hp} (k : HNE g h) (e : sX5_isBare_26 h = some o) : HNE g o.2 := by
  unfold sX5_isBare_26 at e
  exact hn_X5_isBare_27 k e
theorem hn_X5_isBare {g : Hp} {o : Int32 × Hp} {x0 : Nat} {x1 : Nat} {x2 : Int32} {h : Hp} (k : HNE g h) (e : sX5_isBare h x0 x1 x2 = some o) : HNE g o.2 := by
  unfold sX5_isBare at e
  replace e := cl_s e
  obtain ⟨r_1, _, e⟩ := e
  replace e := (gd_s e).2
  replace e := br_s e
  rcases e with ⟨_, e⟩ | ⟨_, e⟩
  · replace e := cl_s e
    obtain ⟨r_4, _, e⟩ := e
    replace e := (gd_s e).2
    replace e := br_s e
    rcases e with ⟨_, e⟩ | ⟨_, e⟩
    · exact hn_X5_isBare_27 k e
    · exact hn_X5_isBare_26 k e
  · exact hn_X5_isBare_26 k e
theorem hn_X5_earlyEnd_132 {g : Hp} {o : Int32 × Hp} {t0 : Int32} {h : Hp} (k : HNE g h) (e : sX5_earlyEnd_132 h t0 = some o) : HNE g o.2 := by
  unfold sX5_earlyEnd_132 at e
  rw [← Option.some.inj e]; exact k
theorem hn_X5_earlyEnd_127 {g : Hp} {o : Int32 × Hp} {h : Hp} (k : HNE g h) (e : sX5_earlyEnd_127 h = some o) : HNE g o.2 := by
  unfold sX5_earlyEnd_127 at e
  exact hn_X5_earlyEnd_132 k e
theorem hn_X5_earlyEnd_109 {g : Hp} {o : Int32 × Hp} {x0 : Nat} {x1 : Nat} {h : Hp} (k : HNE g h) (e : sX5_earlyEnd_109 h x0 x1 = some o) : HNE g o.2 := by
  unfold sX5_earlyEnd_109 at e
  replace e := cl_s e
  obtain ⟨o_1, eo_1, e⟩ := e
  have ko_1 : HNE g o_1.2 := hn_X5_isBare k eo_1
  replace e := br_s e
  rcases e with ⟨_, e⟩ | ⟨_, e⟩
  · replace e := cl_s e
    obtain ⟨o_3, eo_3, e⟩ := e
    have ko_3 : HNE g o_3.2 := hn_X5_isBare ko_1 eo_3
    replace e := br_s e
    rcases e with ⟨_, e⟩ | ⟨_, e⟩
    · exact hn_X5_earlyEnd_132 ko_3 e
    · exact hn_X5_earlyEnd_127 ko_3 e
  · exact hn_X5_earlyEnd_127 ko_1 e
theorem hn_X5_earlyEnd_107 {g : Hp} {o : Int32 × Hp} {h : Hp} (k : HNE g h) (e : sX5_earlyEnd_107 h = some o) : HNE g o.2 := by
  unfold sX5_earlyEnd_107 at e
  rw [← Option.some.inj e]; exact k
theorem hn_X5_earlyEnd_63 {g : Hp} {o : Int32 × Hp} {h : Hp} (k : HNE g h) (e : sX5_earlyEnd_63 h = some o) : HNE g o.2 := by
  unfold sX5_earlyEnd_63 at e
  rw [← Option.some.inj e]; exact k
theorem hn_X5_earlyEnd_45 {g : Hp} {o : Int32 × Hp} {x0 : Nat} {x1 : Nat} {h : Hp} (k : HNE g h) (e : sX5_earlyEnd_45 h x0 x1 = some o) : HNE g o.2 := by
  unfold sX5_earlyEnd_45 at e
  replace e := cl_s e
  obtain ⟨o_1, eo_1, e⟩ := e
  have ko_1 : HNE g o_1.2 := hn_X5_isOnHill k eo_1
  replace e := br_s e
  rcases e with ⟨_, e⟩ | ⟨_, e⟩
  · replace e := cl_s e
    obtain ⟨o_3, eo_3, e⟩ := e
    have ko_3 : HNE g o_3.2 := hn_X5_isOnHill ko_1 eo_3
    replace e := br_s e
    rcases e with ⟨_, e⟩ | ⟨_, e⟩
    · replace e := cl_s e
      obtain ⟨r_5, _, e⟩ := e
      replace e := br_s e
      rcases e with ⟨_, e⟩ | ⟨_, e⟩
      · exact hn_X5_earlyEnd_109 ko_3 e
      · replace e := cl_s e
        obtain ⟨r_7, _, e⟩ := e
        replace e := (gd_s e).2
        replace e := cl_s e
        obtain ⟨r_9, _, e⟩ := e
        replace e := br_s e
        rcases e with ⟨_, e⟩ | ⟨_, e⟩
        · exact hn_X5_earlyEnd_107 ko_3 e
        · replace e := cl_s e
          obtain ⟨r_11, _, e⟩ := e
          replace e := (gd_s e).2
          replace e := cl_s e
          obtain ⟨r_13, _, e⟩ := e
          replace e := br_s e
          rcases e with ⟨_, e⟩ | ⟨_, e⟩
          · exact hn_X5_earlyEnd_109 ko_3 e
          · exact hn_X5_earlyEnd_107 ko_3 e
    · exact hn_X5_earlyEnd_63 ko_3 e
  · exact hn_X5_earlyEnd_63 ko_1 e
theorem hn_X5_earlyEnd_43 {g : Hp} {o : Int32 × Hp} {h : Hp} (k : HNE g h) (e : sX5_earlyEnd_43 h = some o) : HNE g o.2 := by
  unfold sX5_earlyEnd_43 at e
  rw [← Option.some.inj e]; exact k
theorem hn_X5_earlyEnd {g : Hp} {o : Int32 × Hp} {x0 : Nat} {x1 : Nat} {h : Hp} (k : HNE g h) (e : sX5_earlyEnd h x0 x1 = some o) : HNE g o.2 := by
  unfold sX5_earlyEnd at e
  replace e := cl_s e
  obtain ⟨r_1, _, e⟩ := e
  replace e := cl_s e
  obtain ⟨o_2, eo_2, e⟩ := e
  have ko_2 : HNE g o_2.2 := hn_X1_has k eo_2
  replace e := br_s e
  rcases e with ⟨_, e⟩ | ⟨_, e⟩
  · exact hn_X5_earlyEnd_45 ko_2 e
  · replace e := cl_s e
    obtain ⟨r_4, _, e⟩ := e
    replace e := br_s e
    rcases e with ⟨_, e⟩ | ⟨_, e⟩
    · exact hn_X5_earlyEnd_45 ko_2 e
    · replace e := cl_s e
      obtain ⟨r_6, _, e⟩ := e
      replace e := (gd_s e).2
      replace e := br_s e
      rcases e with ⟨_, e⟩ | ⟨_, e⟩
      · exact hn_X5_earlyEnd_43 ko_2 e
      · replace e := cl_s e
        obtain ⟨r_9, _, e⟩ := e
        replace e := (gd_s e).2
        replace e := br_s e
        rcases e with ⟨_, e⟩ | ⟨_, e⟩
        · exact hn_X5_earlyEnd_43 ko_2 e
        · exact hn_X5_earlyEnd_45 ko_2 e
theorem hn_X5_collect_239 {g : Hp} {F : Nat} {o : Int32 × Hp} {x0 : Nat} {h : Hp} (k : HNE g h) (e : sX5_collect_239 F h x0 = some o) : HNE g o.2 := by
  unfold sX5_collect_239 at e
  rw [← Option.some.inj e]; exact k
theorem hn_X5_keepTakes_40 {g : Hp} {F : Nat} {o : Hp} {x0 : Nat} {x1 : Int32} {x2 : Int32} {k_4 : Hp → Nat → Int32 → Int32 → Option (Hp)} (R_4 : ∀ {h : Hp} {y1 : Nat} {y2 : Int32} {y3 : Int32}, HNE g h → k_4 h y1 y2 y3 = some o → HNE g o) {h : Hp} (k : HNE g h) (e : sX5_keepTakes_40 F k_4 h x0 x1 x2 = some o) : HNE g o := by
  unfold sX5_keepTakes_40 at e
  replace e := nm_s e
  obtain ⟨v_1, wv_1, e⟩ := e
  exact R_4 k e
theorem hn_X5_keepTakes_4 {g : Hp} {F : Nat} {o : Hp} : ∀ (f : Nat) {h : Hp} {x0 : Nat} {x1 : Int32} {x2 : Int32}, HNE g h → sX5_keepTakes_4 F f h x0 x1 x2 = some o → HNE g o := by
  intro f
  induction f with
  | zero => intro h x0 x1 x2 _ e; exact absurd e (by rw [sX5_keepTakes_4]; exact fun z => nomatch z)
  | succ f ih =>
    intro h x0 x1 x2 k e
    rw [sX5_keepTakes_4] at e
    replace e := br_s e
    rcases e with ⟨_, e⟩ | ⟨_, e⟩
    · replace e := nm_s e
      obtain ⟨h_2, wh_2, e⟩ := e
      have kh_2 : HNE g h_2 := by rw [wh_2]; exact k
      rw [← Option.some.inj e]; exact kh_2
    · replace e := cl_s e
      obtain ⟨r_3, _, e⟩ := e
      replace e := (gd_s e).2
      replace e := cl_s e
      obtain ⟨o_5, eo_5, e⟩ := e
      have ko_5 : HNE g o_5.2 := hn_X5_takenBy k eo_5
      replace e := br_s e
      rcases e with ⟨_, e⟩ | ⟨_, e⟩
      · exact hn_X5_keepTakes_40 (fun k e => ih k e) ko_5 e
      · replace e := cl_s e
        obtain ⟨r_7, _, e⟩ := e
        replace e := cl_s e
        obtain ⟨r_8, _, e⟩ := e
        replace e := (gd_s e).2
        replace e := (gd_s e).2
        replace e := nm_s e
        obtain ⟨h_11, wh_11, e⟩ := e
        have kh_11 : HNE g h_11 := by rw [wh_11]; exact ko_5
        replace e := nm_s e
        obtain ⟨v_12, wv_12, e⟩ := e
        exact hn_X5_keepTakes_40 (fun k e => ih k e) kh_11 e
theorem hn_X5_keepTakes {g : Hp} {F : Nat} {o : Hp} {x0 : Nat} {h : Hp} (k : HNE g h) (e : sX5_keepTakes F h x0 = some o) : HNE g o := by
  unfold sX5_keepTakes at e
  exact hn_X5_keepTakes_4 F k e
theorem hn_X5_collect_217 {g : Hp} {F : Nat} {o : Int32 × Hp} {x0 : Nat} {h : Hp} (k : HNE g h) (e : sX5_collect_217 F h x0 = some o) : HNE g o.2 := by
  unfold sX5_collect_217 at e
  replace e := cl_s e
  obtain ⟨r_1, _, e⟩ := e
  replace e := cl_s e
  obtain ⟨o_2, eo_2, e⟩ := e
  have ko_2 : HNE g o_2.2 := hn_X1_has k eo_2
  replace e := br_s e
  rcases e with ⟨_, e⟩ | ⟨_, e⟩
  · exact hn_X5_collect_239 ko_2 e
  · replace e := br_s e
    rcases e with ⟨_, e⟩ | ⟨_, e⟩
    · exact hn_X5_collect_239 ko_2 e
    · replace e := cl_s e
      obtain ⟨o_5, eo_5, e⟩ := e
      have ko_5 : HNE g o_5 := hn_X5_keepTakes ko_2 eo_5
      exact hn_X5_collect_239 ko_5 e
theorem hn_X1_isLast_28 {g : Hp} {o : Int32 × Hp} {t0 : Int32} {h : Hp} (k : HNE g h) (e : sX1_isLast_28 h t0 = some o) : HNE g o.2 := by
  unfold sX1_isLast_28 at e
  replace e := (gd_s e).2
  rw [← Option.some.inj e]; exact k
theorem hn_X1_isLast_20 {g : Hp} {o : Int32 × Hp} {t0 : Int32} {t1 : Int32} {h : Hp} (k : HNE g h) (e : sX1_isLast_20 h t0 t1 = some o) : HNE g o.2 := by
  unfold sX1_isLast_20 at e
  replace e := br_s e
  rcases e with ⟨_, e⟩ | ⟨_, e⟩
  · exact hn_X1_isLast_28 k e
  · exact hn_X1_isLast_28 k e
theorem hn_X1_isLast {g : Hp} {o : Int32 × Hp} {x0 : Nat} {x1 : Int32} {x2 : Int32} {h : Hp} (k : HNE g h) (e : sX1_isLast h x0 x1 x2 = some o) : HNE g o.2 := by
  unfold sX1_isLast at e
  replace e := cl_s e
  obtain ⟨r_1, _, e⟩ := e
  replace e := (gd_s e).2
  replace e := br_s e
  rcases e with ⟨_, e⟩ | ⟨_, e⟩
  · exact hn_X1_isLast_20 k e
  · exact hn_X1_isLast_20 k e
theorem hn_X5_addDrops_101 {g : Hp} {F : Nat} {o : Hp} {x0 : Nat} {x1 : Int32} {x2 : Int32} {x3 : Int32} {k_46 : Hp → Nat → Int32 → Int32 → Int32 → Option (Hp)} (R_46 : ∀ {h : Hp} {y1 : Nat} {y2 : Int32} {y3 : Int32} {y4 : Int32}, HNE g h → k_46 h y1 y2 y3 y4 = some o → HNE g o) {h : Hp} (k : HNE g h) (e : sX5_addDrops_101 F k_46 h x0 x1 x2 x3 = some o) : HNE g o := by
  unfold sX5_addDrops_101 at e
  replace e := nm_s e
  obtain ⟨v_1, wv_1, e⟩ := e
  exact R_46 k e
theorem hn_X5_plainMove {g : Hp} {o : Int32 × Hp} {x0 : Int32} {x1 : Int32} {x2 : Int32} {x3 : Int32} {h : Hp} (k : HNE g h) (e : sX5_plainMove h x0 x1 x2 x3 = some o) : HNE g o.2 := by
  unfold sX5_plainMove at e
  rw [← Option.some.inj e]; exact k
theorem hn_X5_addMove_32 {g : Hp} {o : Hp} {h : Hp} (k : HNE g h) (e : sX5_addMove_32 h = some o) : HNE g o := by
  unfold sX5_addMove_32 at e
  rw [← Option.some.inj e]; exact k
theorem hn_X5_addMove {g : Hp} {o : Hp} {x0 : Nat} {x1 : Int32} {h : Hp} (k : HNE g h) (e : sX5_addMove h x0 x1 = some o) : HNE g o := by
  unfold sX5_addMove at e
  replace e := cl_s e
  obtain ⟨r_1, _, e⟩ := e
  replace e := br_s e
  rcases e with ⟨_, e⟩ | ⟨_, e⟩
  · exact hn_X5_addMove_32 k e
  · replace e := cl_s e
    obtain ⟨r_3, _, e⟩ := e
    replace e := (gd_s e).2
    replace e := nm_s e
    obtain ⟨h_5, wh_5, e⟩ := e
    have kh_5 : HNE g h_5 := by rw [wh_5]; exact k
    replace e := nm_s e
    obtain ⟨h_6, wh_6, e⟩ := e
    have kh_6 : HNE g h_6 := by rw [wh_6]; exact kh_5
    exact hn_X5_addMove_32 kh_6 e
theorem hn_X5_addDrops_90 {g : Hp} {F : Nat} {o : Hp} {x0 : Nat} {x1 : Int32} {x2 : Int32} {x3 : Int32} {k_46 : Hp → Nat → Int32 → Int32 → Int32 → Option (Hp)} (R_46 : ∀ {h : Hp} {y1 : Nat} {y2 : Int32} {y3 : Int32} {y4 : Int32}, HNE g h → k_46 h y1 y2 y3 y4 = some o → HNE g o) {h : Hp} (k : HNE g h) (e : sX5_addDrops_90 F k_46 h x0 x1 x2 x3 = some o) : HNE g o := by
  unfold sX5_addDrops_90 at e
  replace e := cl_s e
  obtain ⟨o_1, eo_1, e⟩ := e
  have ko_1 : HNE g o_1.2 := hn_X5_plainMove k eo_1
  replace e := cl_s e
  obtain ⟨o_2, eo_2, e⟩ := e
  have ko_2 : HNE g o_2 := hn_X5_addMove ko_1 eo_2
  exact hn_X5_addDrops_101 R_46 ko_2 e
theorem hn_X5_addDrops_46 {g : Hp} {F : Nat} {o : Hp} : ∀ (f : Nat) {h : Hp} {x0 : Nat} {x1 : Int32} {x2 : Int32} {x3 : Int32}, HNE g h → sX5_addDrops_46 F f h x0 x1 x2 x3 = some o → HNE g o := by
  intro f
  induction f with
  | zero => intro h x0 x1 x2 x3 _ e; exact absurd e (by rw [sX5_addDrops_46]; exact fun z => nomatch z)
  | succ f ih =>
    intro h x0 x1 x2 x3 k e
    rw [sX5_addDrops_46] at e
    replace e := cl_s e
    obtain ⟨r_1, _, e⟩ := e
    replace e := br_s e
    rcases e with ⟨_, e⟩ | ⟨_, e⟩
    · rw [← Option.some.inj e]; exact k
    · replace e := cl_s e
      obtain ⟨r_3, _, e⟩ := e
      replace e := cl_s e
      obtain ⟨r_4, _, e⟩ := e
      replace e := cl_s e
      obtain ⟨o_5, eo_5, e⟩ := e
      have ko_5 : HNE g o_5.2 := hn_X3_inHand k eo_5
      replace e := br_s e
      rcases e with ⟨_, e⟩ | ⟨_, e⟩
      · exact hn_X5_addDrops_101 (fun k e => ih k e) ko_5 e
      · replace e := br_s e
        rcases e with ⟨_, e⟩ | ⟨_, e⟩
        · exact hn_X5_addDrops_90 (fun k e => ih k e) ko_5 e
        · replace e := cl_s e
          obtain ⟨r_8, _, e⟩ := e
          replace e := cl_s e
          obtain ⟨o_9, eo_9, e⟩ := e
          have ko_9 : HNE g o_9.2 := hn_X1_becomesOthers ko_5 eo_9
          replace e := br_s e
          rcases e with ⟨_, e⟩ | ⟨_, e⟩
          · exact hn_X5_addDrops_90 (fun k e => ih k e) ko_9 e
          · exact hn_X5_addDrops_101 (fun k e => ih k e) ko_9 e
theorem hn_X5_addDrops_43 {g : Hp} {F : Nat} {o : Hp} {x0 : Nat} {x1 : Int32} {t0 : Int32} {h : Hp} (k : HNE g h) (e : sX5_addDrops_43 F h x0 x1 t0 = some o) : HNE g o := by
  unfold sX5_addDrops_43 at e
  exact hn_X5_addDrops_46 F k e
theorem hn_X5_addDrops_38 {g : Hp} {F : Nat} {o : Hp} {x0 : Nat} {x1 : Int32} {h : Hp} (k : HNE g h) (e : sX5_addDrops_38 F h x0 x1 = some o) : HNE g o := by
  unfold sX5_addDrops_38 at e
  exact hn_X5_addDrops_43 k e
theorem hn_X5_addDrops {g : Hp} {F : Nat} {o : Hp} {x0 : Nat} {x1 : Int32} {h : Hp} (k : HNE g h) (e : sX5_addDrops F h x0 x1 = some o) : HNE g o := by
  unfold sX5_addDrops at e
  replace e := cl_s e
  obtain ⟨r_1, _, e⟩ := e
  replace e := cl_s e
  obtain ⟨r_2, _, e⟩ := e
  replace e := (gd_s e).2
  replace e := br_s e
  rcases e with ⟨_, e⟩ | ⟨_, e⟩
  · replace e := cl_s e
    obtain ⟨r_5, _, e⟩ := e
    replace e := cl_s e
    obtain ⟨o_6, eo_6, e⟩ := e
    have ko_6 : HNE g o_6.2 := hn_X1_isLast k eo_6
    replace e := br_s e
    rcases e with ⟨_, e⟩ | ⟨_, e⟩
    · replace e := cl_s e
      obtain ⟨r_8, _, e⟩ := e
      replace e := cl_s e
      obtain ⟨o_9, eo_9, e⟩ := e
      have ko_9 : HNE g o_9.2 := hn_X1_isLast ko_6 eo_9
      replace e := br_s e
      rcases e with ⟨_, e⟩ | ⟨_, e⟩
      · exact hn_X5_addDrops_43 ko_9 e
      · exact hn_X5_addDrops_38 ko_9 e
    · exact hn_X5_addDrops_38 ko_6 e
  · rw [← Option.some.inj e]; exact k
theorem hn_X5_isSafe_31 {g : Hp} {o : Int32 × Hp} {h : Hp} (k : HNE g h) (e : sX5_isSafe_31 h = some o) : HNE g o.2 := by
  unfold sX5_isSafe_31 at e
  rw [← Option.some.inj e]; exact k
theorem hn_X5_isSafe_88 {g : Hp} {o : Int32 × Hp} {t0 : Int32} {h : Hp} (k : HNE g h) (e : sX5_isSafe_88 h t0 = some o) : HNE g o.2 := by
  unfold sX5_isSafe_88 at e
  replace e := (gd_s e).2
  rw [← Option.some.inj e]; exact k
theorem hn_X5_isSafe_72 {g : Hp} {o : Int32 × Hp} {x0 : Nat} {x3 : Int64} {h : Hp} (k : HNE g h) (e : sX5_isSafe_72 h x0 x3 = some o) : HNE g o.2 := by
  unfold sX5_isSafe_72 at e
  replace e := br_s e
  rcases e with ⟨_, e⟩ | ⟨_, e⟩
  · exact hn_X5_isSafe_88 k e
  · exact hn_X5_isSafe_88 k e
theorem hn_X5_isSafe_54 {g : Hp} {o : Int32 × Hp} {x0 : Nat} {x2 : Int32} {x3 : Int64} {h : Hp} (k : HNE g h) (e : sX5_isSafe_54 h x0 x2 x3 = some o) : HNE g o.2 := by
  unfold sX5_isSafe_54 at e
  replace e := br_s e
  rcases e with ⟨_, e⟩ | ⟨_, e⟩
  · replace e := cl_s e
    obtain ⟨r_2, _, e⟩ := e
    replace e := cl_s e
    obtain ⟨o_3, eo_3, e⟩ := e
    have ko_3 : HNE g o_3.2 := hn_X3_passSquare k eo_3
    replace e := nm_s e
    obtain ⟨v_4, wv_4, e⟩ := e
    exact hn_X5_isSafe_72 ko_3 e
  · exact hn_X5_isSafe_72 k e
theorem hn_X5_isSafe {g : Hp} {o : Int32 × Hp} {x0 : Nat} {x1 : Int32} {h : Hp} (k : HNE g h) (e : sX5_isSafe h x0 x1 = some o) : HNE g o.2 := by
  unfold sX5_isSafe at e
  replace e := cl_s e
  obtain ⟨o_1, eo_1, e⟩ := e
  have ko_1 : HNE g o_1.2 := hn_X5_kindOf k eo_1
  replace e := br_s e
  rcases e with ⟨_, e⟩ | ⟨_, e⟩
  · exact hn_X5_isSafe_31 ko_1 e
  · replace e := br_s e
    rcases e with ⟨_, e⟩ | ⟨_, e⟩
    · exact hn_X5_isSafe_31 ko_1 e
    · replace e := cl_s e
      obtain ⟨o_4, eo_4, e⟩ := e
      have ko_4 : HNE g o_4.2 := hn_X5_manOf ko_1 eo_4
      replace e := cl_s e
      obtain ⟨r_5, _, e⟩ := e
      replace e := br_s e
      rcases e with ⟨_, e⟩ | ⟨_, e⟩
      · exact hn_X5_isSafe_31 ko_4 e
      · replace e := cl_s e
        obtain ⟨o_7, eo_7, e⟩ := e
        have ko_7 : HNE g o_7.2 := hn_X5_comeTo ko_4 eo_7
        replace e := nm_s e
        obtain ⟨v_8, wv_8, e⟩ := e
        replace e := br_s e
        rcases e with ⟨_, e⟩ | ⟨_, e⟩
        · exact hn_X5_isSafe_54 ko_7 e
        · replace e := cl_s e
          obtain ⟨o_10, eo_10, e⟩ := e
          have ko_10 : HNE g o_10.2 := hn_X5_leftBy ko_7 eo_10
          replace e := nm_s e
          obtain ⟨v_11, wv_11, e⟩ := e
          exact hn_X5_isSafe_54 ko_10 e
theorem hn_X5_mayStand_133 {g : Hp} {F : Nat} {o : Int32 × Hp} {t0 : Int32} {h : Hp} (k : HNE g h) (e : sX5_mayStand_133 F h t0 = some o) : HNE g o.2 := by
  unfold sX5_mayStand_133 at e
  replace e := (gd_s e).2
  rw [← Option.some.inj e]; exact k
theorem hn_X5_mayStand_128 {g : Hp} {F : Nat} {o : Int32 × Hp} {h : Hp} (k : HNE g h) (e : sX5_mayStand_128 F h = some o) : HNE g o.2 := by
  unfold sX5_mayStand_128 at e
  exact hn_X5_mayStand_133 k e
theorem hn_X5_mayStand_97 {g : Hp} {F : Nat} {o : Int32 × Hp} {x0 : Nat} {x1 : Int32} {x4 : Int32} {h : Hp} (k : HNE g h) (e : sX5_mayStand_97 F h x0 x1 x4 = some o) : HNE g o.2 := by
  unfold sX5_mayStand_97 at e
  replace e := cl_s e
  obtain ⟨r_1, _, e⟩ := e
  replace e := cl_s e
  obtain ⟨o_2, eo_2, e⟩ := e
  have ko_2 : HNE g o_2.2 := hn_X1_has k eo_2
  replace e := br_s e
  rcases e with ⟨_, e⟩ | ⟨_, e⟩
  · exact hn_X5_mayStand_128 ko_2 e
  · replace e := br_s e
    rcases e with ⟨_, e⟩ | ⟨_, e⟩
    · exact hn_X5_mayStand_128 ko_2 e
    · replace e := cl_s e
      obtain ⟨r_5, _, e⟩ := e
      replace e := cl_s e
      obtain ⟨o_6, eo_6, e⟩ := e
      have ko_6 : HNE g o_6.2 := hn_X5_isHit ko_2 eo_6
      replace e := br_s e
      rcases e with ⟨_, e⟩ | ⟨_, e⟩
      · exact hn_X5_mayStand_128 ko_6 e
      · exact hn_X5_mayStand_133 ko_6 e
theorem hn_X5_mayStand_95 {g : Hp} {F : Nat} {o : Int32 × Hp} {h : Hp} (k : HNE g h) (e : sX5_mayStand_95 F h = some o) : HNE g o.2 := by
  unfold sX5_mayStand_95 at e
  rw [← Option.some.inj e]; exact k
theorem hn_X5_mayStand_70 {g : Hp} {F : Nat} {o : Int32 × Hp} {x0 : Nat} {x1 : Int32} {x2 : Int32} {x3 : Int32} {x4 : Int32} {t0 : Int32} {h : Hp} (k : HNE g h) (e : sX5_mayStand_70 F h x0 x1 x2 x3 x4 t0 = some o) : HNE g o.2 := by
  unfold sX5_mayStand_70 at e
  replace e := br_s e
  rcases e with ⟨_, e⟩ | ⟨_, e⟩
  · exact hn_X5_mayStand_95 k e
  · replace e := br_s e
    rcases e with ⟨_, e⟩ | ⟨_, e⟩
    · replace e := cl_s e
      obtain ⟨r_3, _, e⟩ := e
      replace e := cl_s e
      obtain ⟨o_4, eo_4, e⟩ := e
      have ko_4 : HNE g o_4.2 := hn_X5_isHit k eo_4
      replace e := br_s e
      rcases e with ⟨_, e⟩ | ⟨_, e⟩
      · exact hn_X5_mayStand_97 ko_4 e
      · exact hn_X5_mayStand_95 ko_4 e
    · exact hn_X5_mayStand_97 k e
theorem hn_X5_mayStand_69 {g : Hp} {F : Nat} {o : Int32 × Hp} {x0 : Nat} {x1 : Int32} {x2 : Int32} {x3 : Int32} {x4 : Int32} {h : Hp} (k : HNE g h) (e : sX5_mayStand_69 F h x0 x1 x2 x3 x4 = some o) : HNE g o.2 := by
  unfold sX5_mayStand_69 at e
  exact hn_X5_mayStand_70 k e
theorem hn_X5_mayStand {g : Hp} {F : Nat} {o : Int32 × Hp} {x0 : Nat} {h : Hp} (k : HNE g h) (e : sX5_mayStand F h x0 = some o) : HNE g o.2 := by
  unfold sX5_mayStand at e
  replace e := cl_s e
  obtain ⟨r_1, _, e⟩ := e
  replace e := nm_s e
  obtain ⟨v_2, wv_2, e⟩ := e
  replace e := nm_s e
  obtain ⟨v_3, wv_3, e⟩ := e
  replace e := cl_s e
  obtain ⟨r_4, _, e⟩ := e
  replace e := cl_s e
  obtain ⟨r_5, _, e⟩ := e
  replace e := (gd_s e).2
  replace e := nm_s e
  obtain ⟨v_7, wv_7, e⟩ := e
  replace e := cl_s e
  obtain ⟨r_8, _, e⟩ := e
  replace e := cl_s e
  obtain ⟨r_9, _, e⟩ := e
  replace e := (gd_s e).2
  replace e := nm_s e
  obtain ⟨v_11, wv_11, e⟩ := e
  replace e := cl_s e
  obtain ⟨r_12, _, e⟩ := e
  replace e := cl_s e
  obtain ⟨r_13, _, e⟩ := e
  replace e := (gd_s e).2
  replace e := br_s e
  rcases e with ⟨_, e⟩ | ⟨_, e⟩
  · exact hn_X5_mayStand_97 k e
  · replace e := cl_s e
    obtain ⟨r_16, _, e⟩ := e
    replace e := cl_s e
    obtain ⟨r_17, _, e⟩ := e
    replace e := (gd_s e).2
    replace e := br_s e
    rcases e with ⟨_, e⟩ | ⟨_, e⟩
    · exact hn_X5_mayStand_69 k e
    · replace e := br_s e
      rcases e with ⟨_, e⟩ | ⟨_, e⟩
      · exact hn_X5_mayStand_70 k e
      · exact hn_X5_mayStand_69 k e
theorem hn_X5_keepLawful_111 {g : Hp} {F : Nat} {o : Hp} {x0 : Nat} {x2 : Int32} {x3 : Int32} {k_4 : Hp → Nat → Int32 → Int32 → Option (Hp)} (R_4 : ∀ {h : Hp} {y1 : Nat} {y2 : Int32} {y3 : Int32}, HNE g h → k_4 h y1 y2 y3 = some o → HNE g o) {h : Hp} (k : HNE g h) (e : sX5_keepLawful_111 F k_4 h x0 x2 x3 = some o) : HNE g o := by
  unfold sX5_keepLawful_111 at e
  replace e := nm_s e
  obtain ⟨v_1, wv_1, e⟩ := e
  exact R_4 k e
theorem hn_X5_keepLawful_108 {g : Hp} {F : Nat} {o : Hp} {x0 : Nat} {x2 : Int32} {x3 : Int32} {t0 : Int32} {t1 : Nat} {k_4 : Hp → Nat → Int32 → Int32 → Option (Hp)} (R_4 : ∀ {h : Hp} {y1 : Nat} {y2 : Int32} {y3 : Int32}, HNE g h → k_4 h y1 y2 y3 = some o → HNE g o) {h : Hp} (k : HNE g h) (e : sX5_keepLawful_108 F k_4 h x0 x2 x3 t0 t1 = some o) : HNE g o := by
  unfold sX5_keepLawful_108 at e
  replace e := (gd_s e).2
  replace e := nm_s e
  obtain ⟨h_2, wh_2, e⟩ := e
  have kh_2 : HNE g h_2 := by rw [wh_2]; exact k
  exact hn_X5_keepLawful_111 R_4 kh_2 e
theorem hn_X5_keepLawful_103 {g : Hp} {F : Nat} {o : Hp} {x0 : Nat} {x2 : Int32} {x3 : Int32} {t0 : Nat} {k_4 : Hp → Nat → Int32 → Int32 → Option (Hp)} (R_4 : ∀ {h : Hp} {y1 : Nat} {y2 : Int32} {y3 : Int32}, HNE g h → k_4 h y1 y2 y3 = some o → HNE g o) {h : Hp} (k : HNE g h) (e : sX5_keepLawful_103 F k_4 h x0 x2 x3 t0 = some o) : HNE g o := by
  unfold sX5_keepLawful_103 at e
  exact hn_X5_keepLawful_108 R_4 k e
theorem hn_X5_keepLawful_70 {g : Hp} {F : Nat} {o : Hp} {x0 : Nat} {x2 : Int32} {x3 : Int32} {x4 : Int32} {x5 : Int32} {k_4 : Hp → Nat → Int32 → Int32 → Option (Hp)} (R_4 : ∀ {h : Hp} {y1 : Nat} {y2 : Int32} {y3 : Int32}, HNE g h → k_4 h y1 y2 y3 = some o → HNE g o) {h : Hp} (k : HNE g h) (e : sX5_keepLawful_70 F k_4 h x0 x2 x3 x4 x5 = some o) : HNE g o := by
  unfold sX5_keepLawful_70 at e
  replace e := br_s e
  rcases e with ⟨_, e⟩ | ⟨_, e⟩
  · exact hn_X5_keepLawful_111 R_4 k e
  · replace e := cl_s e
    obtain ⟨r_2, _, e⟩ := e
    replace e := (gd_s e).2
    replace e := nm_s e
    obtain ⟨h_4, wh_4, e⟩ := e
    have kh_4 : HNE g h_4 := by rw [wh_4]; exact k
    replace e := nm_s e
    obtain ⟨v_5, wv_5, e⟩ := e
    replace e := br_s e
    rcases e with ⟨_, e⟩ | ⟨_, e⟩
    · replace e := cl_s e
      obtain ⟨o_7, eo_7, e⟩ := e
      have ko_7 : HNE g o_7.2 := hn_X5_takenBy kh_4 eo_7
      replace e := br_s e
      rcases e with ⟨_, e⟩ | ⟨_, e⟩
      · exact hn_X5_keepLawful_108 R_4 ko_7 e
      · exact hn_X5_keepLawful_103 R_4 ko_7 e
    · exact hn_X5_keepLawful_103 R_4 kh_4 e
theorem hn_X5_keepLawful_4 {g : Hp} {F : Nat} {o : Hp} : ∀ (f : Nat) {h : Hp} {x0 : Nat} {x2 : Int32} {x3 : Int32}, HNE g h → sX5_keepLawful_4 F f h x0 x2 x3 = some o → HNE g o := by
  intro f
  induction f with
  | zero => intro h x0 x2 x3 _ e; exact absurd e (by rw [sX5_keepLawful_4]; exact fun z => nomatch z)
  | succ f ih =>
    intro h x0 x2 x3 k e
    rw [sX5_keepLawful_4] at e
    replace e := br_s e
    rcases e with ⟨_, e⟩ | ⟨_, e⟩
    · replace e := nm_s e
      obtain ⟨h_2, wh_2, e⟩ := e
      have kh_2 : HNE g h_2 := by rw [wh_2]; exact k
      rw [← Option.some.inj e]; exact kh_2
    · replace e := cl_s e
      obtain ⟨r_3, _, e⟩ := e
      replace e := (gd_s e).2
      replace e := nm_s e
      obtain ⟨v_5, wv_5, e⟩ := e
      replace e := cl_s e
      obtain ⟨o_6, eo_6, e⟩ := e
      have ko_6 : HNE g o_6.2 := hn_X5_isSafe k eo_6
      replace e := br_s e
      rcases e with ⟨_, e⟩ | ⟨_, e⟩
      · replace e := cl_s e
        obtain ⟨r_8, _, e⟩ := e
        replace e := cl_s e
        obtain ⟨r_9, _, e⟩ := e
        replace e := cl_s e
        obtain ⟨o_10, eo_10, e⟩ := e
        have ko_10 : HNE g o_10 := hn_X3_copyFrom ko_6 eo_10
        replace e := cl_s e
        obtain ⟨r_11, _, e⟩ := e
        replace e := cl_s e
        obtain ⟨o_12, eo_12, e⟩ := e
        have ko_12 : HNE g o_12 := hn_X5_shift ko_10 eo_12
        replace e := cl_s e
        obtain ⟨r_13, _, e⟩ := e
        replace e := cl_s e
        obtain ⟨o_14, eo_14, e⟩ := e
        have ko_14 : HNE g o_14 := hn_X5_blast ko_12 eo_14
        replace e := cl_s e
        obtain ⟨o_15, eo_15, e⟩ := e
        have ko_15 : HNE g o_15.2 := hn_X5_mayStand ko_14 eo_15
        exact hn_X5_keepLawful_70 (fun k e => ih k e) ko_15 e
      · exact hn_X5_keepLawful_70 (fun k e => ih k e) ko_6 e
theorem hn_X5_keepLawful {g : Hp} {F : Nat} {o : Hp} {x0 : Nat} {x1 : Int32} {h : Hp} (k : HNE g h) (e : sX5_keepLawful F h x0 x1 = some o) : HNE g o := by
  unfold sX5_keepLawful at e
  exact hn_X5_keepLawful_4 F k e
theorem hn_X5_collect_178 {g : Hp} {F : Nat} {o : Int32 × Hp} : ∀ (f : Nat) {h : Hp} {x0 : Nat} {x3 : Int32} {x6 : Int32} {x7 : Int32}, HNE g h → sX5_collect_178 F f h x0 x3 x6 x7 = some o → HNE g o.2 := by
  intro f
  induction f with
  | zero => intro h x0 x3 x6 x7 _ e; exact absurd e (by rw [sX5_collect_178]; exact fun z => nomatch z)
  | succ f ih =>
    intro h x0 x3 x6 x7 k e
    rw [sX5_collect_178] at e
    replace e := br_s e
    rcases e with ⟨_, e⟩ | ⟨_, e⟩
    · exact hn_X5_collect_217 k e
    · replace e := br_s e
      rcases e with ⟨_, e⟩ | ⟨_, e⟩
      · exact hn_X5_collect_217 k e
      · replace e := nm_s e
        obtain ⟨v_3, wv_3, e⟩ := e
        replace e := cl_s e
        obtain ⟨o_4, eo_4, e⟩ := e
        have ko_4 : HNE g o_4 := hn_X5_addDrops k eo_4
        replace e := cl_s e
        obtain ⟨o_5, eo_5, e⟩ := e
        have ko_5 : HNE g o_5 := hn_X5_keepLawful ko_4 eo_5
        replace e := nm_s e
        obtain ⟨v_6, wv_6, e⟩ := e
        exact ih ko_5 e
theorem hn_X5_collect_173 {g : Hp} {F : Nat} {o : Int32 × Hp} {x0 : Nat} {x3 : Int32} {t0 : Int32} {h : Hp} (k : HNE g h) (e : sX5_collect_173 F h x0 x3 t0 = some o) : HNE g o.2 := by
  unfold sX5_collect_173 at e
  exact hn_X5_collect_178 F k e
theorem hn_X5_collect_151 {g : Hp} {F : Nat} {o : Int32 × Hp} {x0 : Nat} {x3 : Int32} {h : Hp} (k : HNE g h) (e : sX5_collect_151 F h x0 x3 = some o) : HNE g o.2 := by
  unfold sX5_collect_151 at e
  replace e := cl_s e
  obtain ⟨r_1, _, e⟩ := e
  replace e := cl_s e
  obtain ⟨o_2, eo_2, e⟩ := e
  have ko_2 : HNE g o_2.2 := hn_X1_has k eo_2
  replace e := br_s e
  rcases e with ⟨_, e⟩ | ⟨_, e⟩
  · exact hn_X5_collect_173 ko_2 e
  · replace e := cl_s e
    obtain ⟨r_4, _, e⟩ := e
    exact hn_X5_collect_173 ko_2 e
theorem hn_X5_addSteps_170 {g : Hp} {F : Nat} {o : Hp} {x0 : Nat} {x1 : Int32} {x2 : Int32} {x3 : Int32} {x4 : Int32} {x5 : Int32} {k_45 : Hp → Nat → Int32 → Int32 → Int32 → Int32 → Int32 → Option (Hp)} (R_45 : ∀ {h : Hp} {y1 : Nat} {y2 : Int32} {y3 : Int32} {y4 : Int32} {y5 : Int32} {y6 : Int32}, HNE g h → k_45 h y1 y2 y3 y4 y5 y6 = some o → HNE g o) {h : Hp} (k : HNE g h) (e : sX5_addSteps_170 F k_45 h x0 x1 x2 x3 x4 x5 = some o) : HNE g o := by
  unfold sX5_addSteps_170 at e
  replace e := nm_s e
  obtain ⟨v_1, wv_1, e⟩ := e
  exact R_45 k e
theorem hn_X5_leads_62 {g : Hp} {o : Int32 × Hp} {h : Hp} (k : HNE g h) (e : sX5_leads_62 h = some o) : HNE g o.2 := by
  unfold sX5_leads_62 at e
  rw [← Option.some.inj e]; exact k
theorem hn_X5_leads_138 {g : Hp} {o : Int32 × Hp} {t0 : Int32} {h : Hp} (k : HNE g h) (e : sX5_leads_138 h t0 = some o) : HNE g o.2 := by
  unfold sX5_leads_138 at e
  replace e := (gd_s e).2
  rw [← Option.some.inj e]; exact k
theorem hn_X5_leads_129 {g : Hp} {o : Int32 × Hp} {t0 : Int32} {t1 : Int32} {h : Hp} (k : HNE g h) (e : sX5_leads_129 h t0 t1 = some o) : HNE g o.2 := by
  unfold sX5_leads_129 at e
  replace e := br_s e
  rcases e with ⟨_, e⟩ | ⟨_, e⟩
  · exact hn_X5_leads_138 k e
  · exact hn_X5_leads_138 k e
theorem hn_X5_leads_115 {g : Hp} {o : Int32 × Hp} {x4 : Int32} {t0 : Int32} {h : Hp} (k : HNE g h) (e : sX5_leads_115 h x4 t0 = some o) : HNE g o.2 := by
  unfold sX5_leads_115 at e
  replace e := br_s e
  rcases e with ⟨_, e⟩ | ⟨_, e⟩
  · exact hn_X5_leads_129 k e
  · exact hn_X5_leads_129 k e
theorem hn_X5_leads_94 {g : Hp} {o : Int32 × Hp} {x1 : Nat} {x3 : Int32} {x4 : Int32} {x5 : Int64} {h : Hp} (k : HNE g h) (e : sX5_leads_94 h x1 x3 x4 x5 = some o) : HNE g o.2 := by
  unfold sX5_leads_94 at e
  replace e := cl_s e
  obtain ⟨r_1, _, e⟩ := e
  replace e := (gd_s e).2
  replace e := br_s e
  rcases e with ⟨_, e⟩ | ⟨_, e⟩
  · exact hn_X5_leads_115 k e
  · exact hn_X5_leads_115 k e
theorem hn_X5_leads {g : Hp} {o : Int32 × Hp} {x0 : Nat} {x1 : Nat} {x2 : Int32} {x3 : Int32} {h : Hp} (k : HNE g h) (e : sX5_leads h x0 x1 x2 x3 = some o) : HNE g o.2 := by
  unfold sX5_leads at e
  replace e := cl_s e
  obtain ⟨r_1, _, e⟩ := e
  replace e := cl_s e
  obtain ⟨r_2, _, e⟩ := e
  replace e := (gd_s e).2
  replace e := nm_s e
  obtain ⟨v_4, wv_4, e⟩ := e
  replace e := cl_s e
  obtain ⟨r_5, _, e⟩ := e
  replace e := cl_s e
  obtain ⟨r_6, _, e⟩ := e
  replace e := (gd_s e).2
  replace e := nm_s e
  obtain ⟨v_8, wv_8, e⟩ := e
  replace e := cl_s e
  obtain ⟨r_9, _, e⟩ := e
  replace e := (gd_s e).2
  replace e := br_s e
  rcases e with ⟨_, e⟩ | ⟨_, e⟩
  · replace e := cl_s e
    obtain ⟨r_12, _, e⟩ := e
    replace e := cl_s e
    obtain ⟨o_13, eo_13, e⟩ := e
    have ko_13 : HNE g o_13.2 := hn_X3_occupied k eo_13
    replace e := cl_s e
    obtain ⟨o_14, eo_14, e⟩ := e
    have ko_14 : HNE g o_14.2 := hn_X10_isOpen ko_13 eo_14
    replace e := br_s e
    rcases e with ⟨_, e⟩ | ⟨_, e⟩
    · exact hn_X5_leads_62 ko_14 e
    · replace e := br_s e
      rcases e with ⟨_, e⟩ | ⟨_, e⟩
      · exact hn_X5_leads_94 ko_14 e
      · replace e := br_s e
        rcases e with ⟨_, e⟩ | ⟨_, e⟩
        · replace e := br_s e
          rcases e with ⟨_, e⟩ | ⟨_, e⟩
          · exact hn_X5_leads_94 ko_14 e
          · rw [← Option.some.inj e]; exact ko_14
        · exact hn_X5_leads_94 ko_14 e
  · exact hn_X5_leads_62 k e
theorem hn_X5_moveAlong_181 {g : Hp} {o : Int32 × Hp} {t0 : Int32} {h : Hp} (k : HNE g h) (e : sX5_moveAlong_181 h t0 = some o) : HNE g o.2 := by
  unfold sX5_moveAlong_181 at e
  rw [← Option.some.inj e]; exact k
theorem hn_X5_moveAlong_179 {g : Hp} {o : Int32 × Hp} {x9 : Int32} {h : Hp} (k : HNE g h) (e : sX5_moveAlong_179 h x9 = some o) : HNE g o.2 := by
  unfold sX5_moveAlong_179 at e
  exact hn_X5_moveAlong_181 k e
theorem hn_X5_moveAlong_154 {g : Hp} {o : Int32 × Hp} {x5 : Int32} {x6 : Int32} {x9 : Int32} {h : Hp} (k : HNE g h) (e : sX5_moveAlong_154 h x5 x6 x9 = some o) : HNE g o.2 := by
  unfold sX5_moveAlong_154 at e
  replace e := br_s e
  rcases e with ⟨_, e⟩ | ⟨_, e⟩
  · exact hn_X5_moveAlong_179 k e
  · replace e := br_s e
    rcases e with ⟨_, e⟩ | ⟨_, e⟩
    · exact hn_X5_moveAlong_179 k e
    · exact hn_X5_moveAlong_181 k e
theorem hn_X5_moveAlong_129 {g : Hp} {o : Int32 × Hp} {x5 : Int32} {x6 : Int32} {x8 : Int32} {t0 : Int32} {t1 : Int32} {t2 : Int32} {t3 : Int32} {h : Hp} (k : HNE g h) (e : sX5_moveAlong_129 h x5 x6 x8 t0 t1 t2 t3 = some o) : HNE g o.2 := by
  unfold sX5_moveAlong_129 at e
  replace e := cl_s e
  obtain ⟨o_1, eo_1, e⟩ := e
  have ko_1 : HNE g o_1.2 := hn_X5_plainMove k eo_1
  replace e := br_s e
  rcases e with ⟨_, e⟩ | ⟨_, e⟩
  · exact hn_X5_moveAlong_154 ko_1 e
  · replace e := nm_s e
    obtain ⟨v_3, wv_3, e⟩ := e
    exact hn_X5_moveAlong_154 ko_1 e
theorem hn_X5_moveAlong_111 {g : Hp} {o : Int32 × Hp} {x2 : Int32} {x3 : Int32} {x4 : Int32} {x5 : Int32} {x6 : Int32} {x7 : Int32} {t0 : Int32} {h : Hp} (k : HNE g h) (e : sX5_moveAlong_111 h x2 x3 x4 x5 x6 x7 t0 = some o) : HNE g o.2 := by
  unfold sX5_moveAlong_111 at e
  replace e := br_s e
  rcases e with ⟨_, e⟩ | ⟨_, e⟩
  · exact hn_X5_moveAlong_129 k e
  · exact hn_X5_moveAlong_129 k e
theorem hn_X5_moveAlong_75 {g : Hp} {o : Int32 × Hp} {x0 : Nat} {x2 : Int32} {x3 : Int32} {x4 : Int32} {x5 : Int32} {x6 : Int32} {t0 : Int32} {h : Hp} (k : HNE g h) (e : sX5_moveAlong_75 h x0 x2 x3 x4 x5 x6 t0 = some o) : HNE g o.2 := by
  unfold sX5_moveAlong_75 at e
  replace e := br_s e
  rcases e with ⟨_, e⟩ | ⟨_, e⟩
  · replace e := cl_s e
    obtain ⟨r_2, _, e⟩ := e
    replace e := cl_s e
    obtain ⟨r_3, _, e⟩ := e
    replace e := (gd_s e).2
    exact hn_X5_moveAlong_111 k e
  · replace e := cl_s e
    obtain ⟨r_5, _, e⟩ := e
    replace e := cl_s e
    obtain ⟨r_6, _, e⟩ := e
    replace e := cl_s e
    obtain ⟨r_7, _, e⟩ := e
    replace e := cl_s e
    obtain ⟨o_8, eo_8, e⟩ := e
    have ko_8 : HNE g o_8.2 := hn_X3_passSquare k eo_8
    replace e := (gd_s e).2
    exact hn_X5_moveAlong_111 ko_8 e
theorem hn_X5_moveAlong_74 {g : Hp} {o : Int32 × Hp} {x0 : Nat} {x2 : Int32} {x3 : Int32} {x4 : Int32} {x5 : Int32} {x6 : Int32} {h : Hp} (k : HNE g h) (e : sX5_moveAlong_74 h x0 x2 x3 x4 x5 x6 = some o) : HNE g o.2 := by
  unfold sX5_moveAlong_74 at e
  exact hn_X5_moveAlong_75 k e
theorem hn_X5_moveAlong {g : Hp} {o : Int32 × Hp} {x0 : Nat} {x1 : Int32} {x2 : Int32} {x3 : Int32} {h : Hp} (k : HNE g h) (e : sX5_moveAlong h x0 x1 x2 x3 = some o) : HNE g o.2 := by
  unfold sX5_moveAlong at e
  replace e := cl_s e
  obtain ⟨r_1, _, e⟩ := e
  replace e := cl_s e
  obtain ⟨r_2, _, e⟩ := e
  replace e := (gd_s e).2
  replace e := nm_s e
  obtain ⟨v_4, wv_4, e⟩ := e
  replace e := cl_s e
  obtain ⟨r_5, _, e⟩ := e
  replace e := cl_s e
  obtain ⟨r_6, _, e⟩ := e
  replace e := (gd_s e).2
  replace e := nm_s e
  obtain ⟨v_8, wv_8, e⟩ := e
  replace e := cl_s e
  obtain ⟨r_9, _, e⟩ := e
  replace e := cl_s e
  obtain ⟨r_10, _, e⟩ := e
  replace e := (gd_s e).2
  replace e := nm_s e
  obtain ⟨v_12, wv_12, e⟩ := e
  replace e := br_s e
  rcases e with ⟨_, e⟩ | ⟨_, e⟩
  · exact hn_X5_moveAlong_74 k e
  · replace e := cl_s e
    obtain ⟨r_14, _, e⟩ := e
    replace e := br_s e
    rcases e with ⟨_, e⟩ | ⟨_, e⟩
    · exact hn_X5_moveAlong_74 k e
    · exact hn_X5_moveAlong_75 k e
theorem hn_X5_choices_67 {g : Hp} {o : Int32 × Hp} {t0 : Int32} {h : Hp} (k : HNE g h) (e : sX5_choices_67 h t0 = some o) : HNE g o.2 := by
  unfold sX5_choices_67 at e
  rw [← Option.some.inj e]; exact k
theorem hn_X5_choices_66 {g : Hp} {o : Int32 × Hp} {h : Hp} (k : HNE g h) (e : sX5_choices_66 h = some o) : HNE g o.2 := by
  unfold sX5_choices_66 at e
  exact hn_X5_choices_67 k e
theorem hn_X5_choices_25 {g : Hp} {o : Int32 × Hp} {x0 : Nat} {x1 : Int32} {t0 : Int32} {h : Hp} (k : HNE g h) (e : sX5_choices_25 h x0 x1 t0 = some o) : HNE g o.2 := by
  unfold sX5_choices_25 at e
  replace e := br_s e
  rcases e with ⟨_, e⟩ | ⟨_, e⟩
  · replace e := cl_s e
    obtain ⟨r_2, _, e⟩ := e
    replace e := cl_s e
    obtain ⟨o_3, eo_3, e⟩ := e
    have ko_3 : HNE g o_3.2 := hn_X5_comeTo k eo_3
    replace e := cl_s e
    obtain ⟨r_4, _, e⟩ := e
    replace e := cl_s e
    obtain ⟨o_5, eo_5, e⟩ := e
    have ko_5 : HNE g o_5.2 := hn_X1_isLast ko_3 eo_5
    replace e := br_s e
    rcases e with ⟨_, e⟩ | ⟨_, e⟩
    · exact hn_X5_choices_66 ko_5 e
    · replace e := cl_s e
      obtain ⟨r_7, _, e⟩ := e
      replace e := cl_s e
      obtain ⟨r_8, _, e⟩ := e
      replace e := cl_s e
      obtain ⟨o_9, eo_9, e⟩ := e
      have ko_9 : HNE g o_9.2 := hn_X5_manOf ko_5 eo_9
      replace e := (gd_s e).2
      exact hn_X5_choices_67 ko_9 e
  · exact hn_X5_choices_66 k e
theorem hn_X5_choices_24 {g : Hp} {o : Int32 × Hp} {x0 : Nat} {x1 : Int32} {h : Hp} (k : HNE g h) (e : sX5_choices_24 h x0 x1 = some o) : HNE g o.2 := by
  unfold sX5_choices_24 at e
  exact hn_X5_choices_25 k e
theorem hn_X5_choices {g : Hp} {o : Int32 × Hp} {x0 : Nat} {x1 : Int32} {h : Hp} (k : HNE g h) (e : sX5_choices h x0 x1 = some o) : HNE g o.2 := by
  unfold sX5_choices at e
  replace e := cl_s e
  obtain ⟨r_1, _, e⟩ := e
  replace e := cl_s e
  obtain ⟨o_2, eo_2, e⟩ := e
  have ko_2 : HNE g o_2.2 := hn_X1_has k eo_2
  replace e := br_s e
  rcases e with ⟨_, e⟩ | ⟨_, e⟩
  · exact hn_X5_choices_24 ko_2 e
  · replace e := cl_s e
    obtain ⟨o_4, eo_4, e⟩ := e
    have ko_4 : HNE g o_4.2 := hn_X5_takenBy ko_2 eo_4
    replace e := br_s e
    rcases e with ⟨_, e⟩ | ⟨_, e⟩
    · exact hn_X5_choices_24 ko_4 e
    · exact hn_X5_choices_25 ko_4 e
theorem hn_X5_becoming {g : Hp} {o : Int32 × Hp} {x0 : Int32} {x1 : Int32} {h : Hp} (k : HNE g h) (e : sX5_becoming h x0 x1 = some o) : HNE g o.2 := by
  unfold sX5_becoming at e
  rw [← Option.some.inj e]; exact k
theorem hn_X5_addSteps_120 {g : Hp} {F : Nat} {o : Hp} {k_45 : Hp → Nat → Int32 → Int32 → Int32 → Int32 → Int32 → Option (Hp)} (R_45 : ∀ {h : Hp} {y1 : Nat} {y2 : Int32} {y3 : Int32} {y4 : Int32} {y5 : Int32} {y6 : Int32}, HNE g h → k_45 h y1 y2 y3 y4 y5 y6 = some o → HNE g o) : ∀ (f : Nat) {h : Hp} {x0 : Nat} {x1 : Int32} {x2 : Int32} {x3 : Int32} {x4 : Int32} {x5 : Int32} {x7 : Int32} {x8 : Int32} {x9 : Int32}, HNE g h → sX5_addSteps_120 F k_45 f h x0 x1 x2 x3 x4 x5 x7 x8 x9 = some o → HNE g o := by
  intro f
  induction f with
  | zero => intro h x0 x1 x2 x3 x4 x5 x7 x8 x9 _ e; exact absurd e (by rw [sX5_addSteps_120]; exact fun z => nomatch z)
  | succ f ih =>
    intro h x0 x1 x2 x3 x4 x5 x7 x8 x9 k e
    rw [sX5_addSteps_120] at e
    replace e := br_s e
    rcases e with ⟨_, e⟩ | ⟨_, e⟩
    · replace e := br_s e
      rcases e with ⟨_, e⟩ | ⟨_, e⟩
      · replace e := cl_s e
        obtain ⟨o_3, eo_3, e⟩ := e
        have ko_3 : HNE g o_3 := hn_X5_addMove k eo_3
        exact hn_X5_addSteps_170 R_45 ko_3 e
      · exact hn_X5_addSteps_170 R_45 k e
    · replace e := cl_s e
      obtain ⟨r_4, _, e⟩ := e
      replace e := cl_s e
      obtain ⟨r_5, _, e⟩ := e
      replace e := (gd_s e).2
      replace e := cl_s e
      obtain ⟨o_7, eo_7, e⟩ := e
      have ko_7 : HNE g o_7.2 := hn_X5_becoming k eo_7
      replace e := cl_s e
      obtain ⟨o_8, eo_8, e⟩ := e
      have ko_8 : HNE g o_8 := hn_X5_addMove ko_7 eo_8
      replace e := nm_s e
      obtain ⟨v_9, wv_9, e⟩ := e
      exact ih ko_8 e
theorem hn_X5_addSteps_45 {g : Hp} {F : Nat} {o : Hp} : ∀ (f : Nat) {h : Hp} {x0 : Nat} {x1 : Int32} {x2 : Int32} {x3 : Int32} {x4 : Int32} {x5 : Int32}, HNE g h → sX5_addSteps_45 F f h x0 x1 x2 x3 x4 x5 = some o → HNE g o := by
  intro f
  induction f with
  | zero => intro h x0 x1 x2 x3 x4 x5 _ e; exact absurd e (by rw [sX5_addSteps_45]; exact fun z => nomatch z)
  | succ f ih =>
    intro h x0 x1 x2 x3 x4 x5 k e
    rw [sX5_addSteps_45] at e
    replace e := br_s e
    rcases e with ⟨_, e⟩ | ⟨_, e⟩
    · rw [← Option.some.inj e]; exact k
    · replace e := cl_s e
      obtain ⟨r_2, _, e⟩ := e
      replace e := cl_s e
      obtain ⟨r_3, _, e⟩ := e
      replace e := (gd_s e).2
      replace e := nm_s e
      obtain ⟨v_5, wv_5, e⟩ := e
      replace e := br_s e
      rcases e with ⟨_, e⟩ | ⟨_, e⟩
      · exact hn_X5_addSteps_170 (fun k e => ih k e) k e
      · replace e := cl_s e
        obtain ⟨r_7, _, e⟩ := e
        replace e := cl_s e
        obtain ⟨r_8, _, e⟩ := e
        replace e := cl_s e
        obtain ⟨o_9, eo_9, e⟩ := e
        have ko_9 : HNE g o_9.2 := hn_X5_leads k eo_9
        replace e := br_s e
        rcases e with ⟨_, e⟩ | ⟨_, e⟩
        · exact hn_X5_addSteps_170 (fun k e => ih k e) ko_9 e
        · replace e := cl_s e
          obtain ⟨o_11, eo_11, e⟩ := e
          have ko_11 : HNE g o_11.2 := hn_X5_moveAlong ko_9 eo_11
          replace e := cl_s e
          obtain ⟨o_12, eo_12, e⟩ := e
          have ko_12 : HNE g o_12.2 := hn_X5_choices ko_11 eo_12
          exact hn_X5_addSteps_120 (fun k e => ih k e) F ko_12 e
theorem hn_X5_addSteps {g : Hp} {F : Nat} {o : Hp} {x0 : Nat} {x1 : Int32} {h : Hp} (k : HNE g h) (e : sX5_addSteps F h x0 x1 = some o) : HNE g o := by
  unfold sX5_addSteps at e
  replace e := cl_s e
  obtain ⟨r_1, _, e⟩ := e
  replace e := cl_s e
  obtain ⟨r_2, _, e⟩ := e
  replace e := (gd_s e).2
  replace e := nm_s e
  obtain ⟨v_4, wv_4, e⟩ := e
  replace e := cl_s e
  obtain ⟨r_5, _, e⟩ := e
  replace e := cl_s e
  obtain ⟨r_6, _, e⟩ := e
  replace e := cl_s e
  obtain ⟨o_7, eo_7, e⟩ := e
  have ko_7 : HNE g o_7.2 := hn_X10_cell k eo_7
  replace e := (gd_s e).2
  replace e := nm_s e
  obtain ⟨v_9, wv_9, e⟩ := e
  replace e := cl_s e
  obtain ⟨r_10, _, e⟩ := e
  replace e := cl_s e
  obtain ⟨r_11, _, e⟩ := e
  replace e := cl_s e
  obtain ⟨o_12, eo_12, e⟩ := e
  have ko_12 : HNE g o_12.2 := hn_X10_cell ko_7 eo_12
  replace e := (gd_s e).2
  replace e := nm_s e
  obtain ⟨v_14, wv_14, e⟩ := e
  exact hn_X5_addSteps_45 F ko_12 e
theorem hn_X5_collect_139 {g : Hp} {F : Nat} {o : Int32 × Hp} {x0 : Nat} {x3 : Int32} {x4 : Int64} {x6 : Int32} {x8 : Int32} {k_39 : Hp → Nat → Int32 → Int64 → Int32 → Option (Int32 × Hp)} (R_39 : ∀ {h : Hp} {y1 : Nat} {y2 : Int32} {y3 : Int64} {y4 : Int32}, HNE g h → k_39 h y1 y2 y3 y4 = some o → HNE g o.2) {h : Hp} (k : HNE g h) (e : sX5_collect_139 F k_39 h x0 x3 x4 x6 x8 = some o) : HNE g o.2 := by
  unfold sX5_collect_139 at e
  replace e := cl_s e
  obtain ⟨o_1, eo_1, e⟩ := e
  have ko_1 : HNE g o_1 := hn_X5_keepLawful k eo_1
  replace e := nm_s e
  obtain ⟨v_2, wv_2, e⟩ := e
  exact R_39 ko_1 e
theorem hn_X5_addCastling_73 {g : Hp} {F : Nat} {o : Hp} {h : Hp} (k : HNE g h) (e : sX5_addCastling_73 F h = some o) : HNE g o := by
  unfold sX5_addCastling_73 at e
  rw [← Option.some.inj e]; exact k
theorem hn_X5_addCastling_225 {g : Hp} {F : Nat} {o : Hp} {h : Hp} (k : HNE g h) (e : sX5_addCastling_225 F h = some o) : HNE g o := by
  unfold sX5_addCastling_225 at e
  rw [← Option.some.inj e]; exact k
theorem hn_X5_addCastling_152 {g : Hp} {F : Nat} {o : Hp} : ∀ (f : Nat) {h : Hp} {x0 : Nat} {x3 : Int32} {x6 : Int32}, HNE g h → sX5_addCastling_152 F f h x0 x3 x6 = some o → HNE g o := by
  intro f
  induction f with
  | zero => intro h x0 x3 x6 _ e; exact absurd e (by rw [sX5_addCastling_152]; exact fun z => nomatch z)
  | succ f ih =>
    intro h x0 x3 x6 k e
    rw [sX5_addCastling_152] at e
    replace e := br_s e
    rcases e with ⟨_, e⟩ | ⟨_, e⟩
    · exact hn_X5_addCastling_225 k e
    · replace e := cl_s e
      obtain ⟨r_2, _, e⟩ := e
      replace e := (gd_s e).2
      replace e := cl_s e
      obtain ⟨o_4, eo_4, e⟩ := e
      have ko_4 : HNE g o_4.2 := hn_X5_comeTo k eo_4
      replace e := cl_s e
      obtain ⟨r_5, _, e⟩ := e
      replace e := (gd_s e).2
      replace e := cl_s e
      obtain ⟨o_7, eo_7, e⟩ := e
      have ko_7 : HNE g o_7.2 := hn_X5_comeTo ko_4 eo_7
      replace e := br_s e
      rcases e with ⟨_, e⟩ | ⟨_, e⟩
      · exact hn_X5_addCastling_225 ko_7 e
      · replace e := cl_s e
        obtain ⟨r_9, _, e⟩ := e
        replace e := (gd_s e).2
        replace e := nm_s e
        obtain ⟨v_11, wv_11, e⟩ := e
        replace e := cl_s e
        obtain ⟨r_12, _, e⟩ := e
        replace e := cl_s e
        obtain ⟨r_13, _, e⟩ := e
        replace e := (gd_s e).2
        replace e := (gd_s e).2
        replace e := nm_s e
        obtain ⟨h_16, wh_16, e⟩ := e
        have kh_16 : HNE g h_16 := by rw [wh_16]; exact ko_7
        replace e := cl_s e
        obtain ⟨r_17, _, e⟩ := e
        replace e := (gd_s e).2
        replace e := nm_s e
        obtain ⟨h_19, wh_19, e⟩ := e
        have kh_19 : HNE g h_19 := by rw [wh_19]; exact kh_16
        replace e := nm_s e
        obtain ⟨v_20, wv_20, e⟩ := e
        exact ih kh_19 e
theorem hn_X5_addCastling_122 {g : Hp} {F : Nat} {o : Hp} {h : Hp} (k : HNE g h) (e : sX5_addCastling_122 F h = some o) : HNE g o := by
  unfold sX5_addCastling_122 at e
  rw [← Option.some.inj e]; exact k
theorem hn_X5_addCastling {g : Hp} {F : Nat} {o : Hp} {x0 : Nat} {x1 : Int32} {x2 : Int32} {x3 : Int32} {h : Hp} (k : HNE g h) (e : sX5_addCastling F h x0 x1 x2 x3 = some o) : HNE g o := by
  unfold sX5_addCastling at e
  replace e := cl_s e
  obtain ⟨r_1, _, e⟩ := e
  replace e := nm_s e
  obtain ⟨v_2, wv_2, e⟩ := e
  replace e := cl_s e
  obtain ⟨r_3, _, e⟩ := e
  replace e := cl_s e
  obtain ⟨o_4, eo_4, e⟩ := e
  have ko_4 : HNE g o_4.2 := hn_X5_nearest k eo_4
  replace e := br_s e
  rcases e with ⟨_, e⟩ | ⟨_, e⟩
  · exact hn_X5_addCastling_73 ko_4 e
  · replace e := br_s e
    rcases e with ⟨_, e⟩ | ⟨_, e⟩
    · exact hn_X5_addCastling_73 ko_4 e
    · replace e := cl_s e
      obtain ⟨r_7, _, e⟩ := e
      replace e := cl_s e
      obtain ⟨r_8, _, e⟩ := e
      replace e := cl_s e
      obtain ⟨r_9, _, e⟩ := e
      replace e := cl_s e
      obtain ⟨r_10, _, e⟩ := e
      replace e := (gd_s e).2
      replace e := br_s e
      rcases e with ⟨_, e⟩ | ⟨_, e⟩
      · exact hn_X5_addCastling_73 ko_4 e
      · replace e := cl_s e
        obtain ⟨r_13, _, e⟩ := e
        replace e := cl_s e
        obtain ⟨o_14, eo_14, e⟩ := e
        have ko_14 : HNE g o_14.2 := hn_X5_isHit ko_4 eo_14
        replace e := br_s e
        rcases e with ⟨_, e⟩ | ⟨_, e⟩
        · replace e := cl_s e
          obtain ⟨r_16, _, e⟩ := e
          replace e := cl_s e
          obtain ⟨o_17, eo_17, e⟩ := e
          have ko_17 : HNE g o_17.2 := hn_X5_isHit ko_14 eo_17
          replace e := br_s e
          rcases e with ⟨_, e⟩ | ⟨_, e⟩
          · replace e := cl_s e
            obtain ⟨r_19, _, e⟩ := e
            replace e := cl_s e
            obtain ⟨o_20, eo_20, e⟩ := e
            have ko_20 : HNE g o_20.2 := hn_X5_isHit ko_17 eo_20
            replace e := br_s e
            rcases e with ⟨_, e⟩ | ⟨_, e⟩
            · replace e := cl_s e
              obtain ⟨r_22, _, e⟩ := e
              replace e := cl_s e
              obtain ⟨o_23, eo_23, e⟩ := e
              have ko_23 : HNE g o_23.2 := hn_X5_plainMove ko_20 eo_23
              replace e := cl_s e
              obtain ⟨o_24, eo_24, e⟩ := e
              have ko_24 : HNE g o_24 := hn_X5_addMove ko_23 eo_24
              replace e := nm_s e
              obtain ⟨v_25, wv_25, e⟩ := e
              exact hn_X5_addCastling_152 F ko_24 e
            · exact hn_X5_addCastling_122 ko_20 e
          · exact hn_X5_addCastling_122 ko_17 e
        · exact hn_X5_addCastling_122 ko_14 e
theorem hn_X5_collect_39 {g : Hp} {F : Nat} {o : Int32 × Hp} : ∀ (f : Nat) {h : Hp} {x0 : Nat} {x3 : Int32} {x4 : Int64} {x6 : Int32}, HNE g h → sX5_collect_39 F f h x0 x3 x4 x6 = some o → HNE g o.2 := by
  intro f
  induction f with
  | zero => intro h x0 x3 x4 x6 _ e; exact absurd e (by rw [sX5_collect_39]; exact fun z => nomatch z)
  | succ f ih =>
    intro h x0 x3 x4 x6 k e
    rw [sX5_collect_39] at e
    replace e := br_s e
    rcases e with ⟨_, e⟩ | ⟨_, e⟩
    · exact hn_X5_collect_151 k e
    · replace e := br_s e
      rcases e with ⟨_, e⟩ | ⟨_, e⟩
      · exact hn_X5_collect_151 k e
      · replace e := br_s e
        rcases e with ⟨_, e⟩ | ⟨_, e⟩
        · exact hn_X5_collect_151 k e
        · replace e := cl_s e
          obtain ⟨o_4, eo_4, e⟩ := e
          have ko_4 : HNE g o_4.2 := hn_X11_lowest k eo_4
          replace e := nm_s e
          obtain ⟨v_5, wv_5, e⟩ := e
          replace e := nm_s e
          obtain ⟨v_6, wv_6, e⟩ := e
          replace e := cl_s e
          obtain ⟨o_7, eo_7, e⟩ := e
          have ko_7 : HNE g o_7 := hn_X5_addSteps ko_4 eo_7
          replace e := cl_s e
          obtain ⟨r_8, _, e⟩ := e
          replace e := cl_s e
          obtain ⟨r_9, _, e⟩ := e
          replace e := cl_s e
          obtain ⟨r_10, _, e⟩ := e
          replace e := (gd_s e).2
          replace e := br_s e
          rcases e with ⟨_, e⟩ | ⟨_, e⟩
          · replace e := cl_s e
            obtain ⟨r_13, _, e⟩ := e
            replace e := br_s e
            rcases e with ⟨_, e⟩ | ⟨_, e⟩
            · exact hn_X5_collect_139 (fun k e => ih k e) ko_7 e
            · replace e := cl_s e
              obtain ⟨o_15, eo_15, e⟩ := e
              have ko_15 : HNE g o_15 := hn_X5_addCastling ko_7 eo_15
              replace e := cl_s e
              obtain ⟨o_16, eo_16, e⟩ := e
              have ko_16 : HNE g o_16 := hn_X5_addCastling ko_15 eo_16
              exact hn_X5_collect_139 (fun k e => ih k e) ko_16 e
          · exact hn_X5_collect_139 (fun k e => ih k e) ko_7 e
theorem hn_X5_collect {g : Hp} {F : Nat} {o : Int32 × Hp} {x0 : Nat} {x1 : Nat} {x2 : Nat} {x3 : Int32} {h : Hp} (k : HNE g h) (e : sX5_collect F h x0 x1 x2 x3 = some o) : HNE g o.2 := by
  unfold sX5_collect at e
  replace e := cl_s e
  obtain ⟨o_1, eo_1, e⟩ := e
  have ko_1 : HNE g o_1 := hn_X5_begin k eo_1
  replace e := cl_s e
  obtain ⟨r_2, _, e⟩ := e
  replace e := cl_s e
  obtain ⟨o_3, eo_3, e⟩ := e
  have ko_3 : HNE g o_3.2 := hn_X5_earlyEnd ko_1 eo_3
  replace e := br_s e
  rcases e with ⟨_, e⟩ | ⟨_, e⟩
  · replace e := cl_s e
    obtain ⟨r_5, _, e⟩ := e
    replace e := cl_s e
    obtain ⟨r_6, _, e⟩ := e
    replace e := cl_s e
    obtain ⟨r_7, _, e⟩ := e
    replace e := (gd_s e).2
    replace e := nm_s e
    obtain ⟨v_9, wv_9, e⟩ := e
    exact hn_X5_collect_39 F ko_3 e
  · rw [← Option.some.inj e]; exact ko_3
theorem hn_X5_endOf_45 {g : Hp} {F : Nat} {o : Int32 × Hp} {t0 : Int32} {h : Hp} (k : HNE g h) (e : sX5_endOf_45 F h t0 = some o) : HNE g o.2 := by
  unfold sX5_endOf_45 at e
  rw [← Option.some.inj e]; exact k
theorem hn_X5_endOf {g : Hp} {F : Nat} {o : Int32 × Hp} {x0 : Nat} {x1 : Nat} {h : Hp} (k : HNE g h) (e : sX5_endOf F h x0 x1 = some o) : HNE g o.2 := by
  unfold sX5_endOf at e
  replace e := cl_s e
  obtain ⟨o_1, eo_1, e⟩ := e
  have ko_1 : HNE g o_1.2 := hn_X5_earlyEnd k eo_1
  replace e := br_s e
  rcases e with ⟨_, e⟩ | ⟨_, e⟩
  · replace e := cl_s e
    obtain ⟨r_3, _, e⟩ := e
    replace e := cl_s e
    obtain ⟨o_4, eo_4, e⟩ := e
    have ko_4 : HNE g o_4.2 := hn_X5_collect ko_1 eo_4
    replace e := br_s e
    rcases e with ⟨_, e⟩ | ⟨_, e⟩
    · replace e := cl_s e
      obtain ⟨o_6, eo_6, e⟩ := e
      have ko_6 : HNE g o_6.2 := hn_X5_isRoyalHit ko_4 eo_6
      replace e := br_s e
      rcases e with ⟨_, e⟩ | ⟨_, e⟩
      · exact hn_X5_endOf_45 ko_6 e
      · exact hn_X5_endOf_45 ko_6 e
    · rw [← Option.some.inj e]; exact ko_4
  · rw [← Option.some.inj e]; exact ko_1
