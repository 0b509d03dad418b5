/-! ENDINGS, the class: lengths and references stay -/
def HNR (g h : Hp) : Prop := (∀ a, hN h a = hN g a) ∧ ∀ a i, hR h a i = hR g a i
theorem hnr_0 {g : Hp} : HNR g g := ⟨fun _ => rfl, fun _ _ => rfl⟩
theorem hr0_X3_occupied {g : Hp} {o : Int64 × Hp} {x0 : Nat} {h : Hp} (k : HNR g h) (e : sX3_occupied h x0 = some o) : HNR g o.2 := by
  unfold sX3_occupied at e
  replace e := cl_s e
  obtain ⟨r_1, _, e⟩ := e
  replace e := (gd_s e).2
  replace e := cl_s e
  obtain ⟨r_3, _, e⟩ := e
  replace e := (gd_s e).2
  rw [← Option.some.inj e]; exact k
theorem hr0_X0_sizeOf_22 {g : Hp} {F : Nat} {o : Int32 × Hp} {x1 : Int32} {h : Hp} (k : HNR g h) (e : sX0_sizeOf_22 F h x1 = some o) : HNR g o.2 := by
  unfold sX0_sizeOf_22 at e
  rw [← Option.some.inj e]; exact k
theorem hr0_X0_codeIn {g : Hp} {o : Int32 × Hp} {x0 : Int32} {x1 : Int32} {h : Hp} (k : HNR g h) (e : sX0_codeIn h x0 x1 = some o) : HNR g o.2 := by
  unfold sX0_codeIn at e
  rw [← Option.some.inj e]; exact k
theorem hr0_X0_sizeOf_2 {g : Hp} {F : Nat} {o : Int32 × Hp} : ∀ (f : Nat) {h : Hp} {x0 : Int32} {x1 : Int32}, HNR g h → sX0_sizeOf_2 F f h x0 x1 = some o → HNR g o.2 := by
  intro f
  induction f with
  | zero => intro h x0 x1 _ e; exact absurd e (by rw [sX0_sizeOf_2]; exact fun z => nomatch z)
  | succ f ih =>
    intro h x0 x1 k e
    rw [sX0_sizeOf_2] at e
    replace e := br_s e
    rcases e with ⟨_, e⟩ | ⟨_, e⟩
    · exact hr0_X0_sizeOf_22 k e
    · replace e := cl_s e
      obtain ⟨o_2, eo_2, e⟩ := e
      have ko_2 : HNR g o_2.2 := hr0_X0_codeIn k eo_2
      replace e := br_s e
      rcases e with ⟨_, e⟩ | ⟨_, e⟩
      · exact hr0_X0_sizeOf_22 ko_2 e
      · replace e := nm_s e
        obtain ⟨v_4, wv_4, e⟩ := e
        exact ih ko_2 e
theorem hr0_X0_sizeOf {g : Hp} {F : Nat} {o : Int32 × Hp} {x0 : Int32} {h : Hp} (k : HNR g h) (e : sX0_sizeOf F h x0 = some o) : HNR g o.2 := by
  unfold sX0_sizeOf at e
  exact hr0_X0_sizeOf_2 F k e
theorem hr0_X0_layOut_240 {g : Hp} {F : Nat} {o : Int32 × Hp} {h : Hp} (k : HNR g h) (e : sX0_layOut_240 F h = some o) : HNR g o.2 := by
  unfold sX0_layOut_240 at e
  rw [← Option.some.inj e]; exact k
theorem hr0_X1_becomesOthers_24 {g : Hp} {o : Int32 × Hp} {t0 : Int32} {h : Hp} (k : HNR g h) (e : sX1_becomesOthers_24 h t0 = some o) : HNR g o.2 := by
  unfold sX1_becomesOthers_24 at e
  replace e := (gd_s e).2
  rw [← Option.some.inj e]; exact k
theorem hr0_X1_becomesOthers_23 {g : Hp} {o : Int32 × Hp} {h : Hp} (k : HNR g h) (e : sX1_becomesOthers_23 h = some o) : HNR g o.2 := by
  unfold sX1_becomesOthers_23 at e
  exact hr0_X1_becomesOthers_24 k e
theorem hr0_X1_becomesOthers {g : Hp} {o : Int32 × Hp} {x0 : Nat} {x1 : Int32} {h : Hp} (k : HNR g h) (e : sX1_becomesOthers h x0 x1 = some o) : HNR g o.2 := by
  unfold sX1_becomesOthers at e
  replace e := br_s e
  rcases e with ⟨_, e⟩ | ⟨_, e⟩
  · exact hr0_X1_becomesOthers_23 k e
  · replace e := br_s e
    rcases e with ⟨_, e⟩ | ⟨_, e⟩
    · exact hr0_X1_becomesOthers_23 k e
    · replace e := cl_s e
      obtain ⟨r_3, _, e⟩ := e
      replace e := (gd_s e).2
      replace e := br_s e
      rcases e with ⟨_, e⟩ | ⟨_, e⟩
      · exact hr0_X1_becomesOthers_23 k e
      · exact hr0_X1_becomesOthers_24 k e
theorem hr0_X3_put_10 {g : Hp} {o : Hp} {h : Hp} (k : HNR g h) (e : sX3_put_10 h = some o) : HNR g o := by
  unfold sX3_put_10 at e
  rw [← Option.some.inj e]; exact k
theorem hr0_X3_put_111 {g : Hp} {o : Hp} {x0 : Nat} {x4 : Int64} {h : Hp} (k : HNR g h) (e : sX3_put_111 h x0 x4 = some o) : HNR g o := by
  unfold sX3_put_111 at e
  replace e := nm_s e
  obtain ⟨h_1, wh_1, e⟩ := e
  have kh_1 : HNR g h_1 := by rw [wh_1]; exact k
  rw [← Option.some.inj e]; exact kh_1
theorem hr0_X3_put_70 {g : Hp} {o : Hp} {x0 : Nat} {x1 : Int32} {x2 : Int32} {x3 : Int32} {x4 : Int64} {h : Hp} (k : HNR g h) (e : sX3_put_70 h x0 x1 x2 x3 x4 = some o) : HNR g o := by
  unfold sX3_put_70 at e
  replace e := cl_s e
  obtain ⟨r_1, _, e⟩ := e
  replace e := (gd_s e).2
  replace e := nm_s e
  obtain ⟨h_3, wh_3, e⟩ := e
  have kh_3 : HNR g h_3 := by rw [wh_3]; exact k
  replace e := br_s e
  rcases e with ⟨_, e⟩ | ⟨_, e⟩
  · exact hr0_X3_put_111 kh_3 e
  · replace e := cl_s e
    obtain ⟨r_5, _, e⟩ := e
    replace e := (gd_s e).2
    replace e := (gd_s e).2
    replace e := nm_s e
    obtain ⟨h_8, wh_8, e⟩ := e
    have kh_8 : HNR g h_8 := by rw [wh_8]; exact kh_3
    replace e := br_s e
    rcases e with ⟨_, e⟩ | ⟨_, e⟩
    · replace e := cl_s e
      obtain ⟨r_10, _, e⟩ := e
      replace e := (gd_s e).2
      replace e := nm_s e
      obtain ⟨h_12, wh_12, e⟩ := e
      have kh_12 : HNR g h_12 := by rw [wh_12]; exact kh_8
      exact hr0_X3_put_111 kh_12 e
    · exact hr0_X3_put_111 kh_8 e
theorem hr0_X3_put {g : Hp} {o : Hp} {x0 : Nat} {x1 : Int32} {x2 : Int32} {x3 : Int32} {h : Hp} (k : HNR g h) (e : sX3_put h x0 x1 x2 x3 = some o) : HNR g o := by
  unfold sX3_put at e
  replace e := br_s e
  rcases e with ⟨_, e⟩ | ⟨_, e⟩
  · exact hr0_X3_put_10 k e
  · replace e := br_s e
    rcases e with ⟨_, e⟩ | ⟨_, e⟩
    · replace e := nm_s e
      obtain ⟨v_3, wv_3, e⟩ := e
      replace e := cl_s e
      obtain ⟨r_4, _, e⟩ := e
      replace e := (gd_s e).2
      replace e := nm_s e
      obtain ⟨v_6, wv_6, e⟩ := e
      replace e := br_s e
      rcases e with ⟨_, e⟩ | ⟨_, e⟩
      · exact hr0_X3_put_70 k e
      · replace e := cl_s e
        obtain ⟨r_8, _, e⟩ := e
        replace e := (gd_s e).2
        replace e := (gd_s e).2
        replace e := nm_s e
        obtain ⟨h_11, wh_11, e⟩ := e
        have kh_11 : HNR g h_11 := by rw [wh_11]; exact k
        replace e := cl_s e
        obtain ⟨r_12, _, e⟩ := e
        replace e := (gd_s e).2
        replace e := br_s e
        rcases e with ⟨_, e⟩ | ⟨_, e⟩
        · replace e := cl_s e
          obtain ⟨r_15, _, e⟩ := e
          replace e := (gd_s e).2
          replace e := nm_s e
          obtain ⟨h_17, wh_17, e⟩ := e
          have kh_17 : HNR g h_17 := by rw [wh_17]; exact kh_11
          exact hr0_X3_put_70 kh_17 e
        · exact hr0_X3_put_70 kh_11 e
    · exact hr0_X3_put_10 k e
theorem hr0_X0_layOut_204 {g : Hp} {F : Nat} {o : Int32 × Hp} {h : Hp} (k : HNR g h) (e : sX0_layOut_204 F h = some o) : HNR g o.2 := by
  unfold sX0_layOut_204 at e
  rw [← Option.some.inj e]; exact k
theorem hr0_X0_layOut_178 {g : Hp} {F : Nat} {o : Int32 × Hp} {x0 : Nat} {x1 : Int32} {x5 : Int32} {x6 : Int32} {x7 : Int32} {x9 : Int32} {x10 : Int32} {x11 : Int32} {x12 : Int32} {t0 : Int32} {k_79 : Hp → Nat → Int32 → Int32 → Int32 → Int32 → Int32 → Int32 → Option (Int32 × Hp)} (R_79 : ∀ {h : Hp} {y1 : Nat} {y2 : Int32} {y3 : Int32} {y4 : Int32} {y5 : Int32} {y6 : Int32} {y7 : Int32}, HNR g h → k_79 h y1 y2 y3 y4 y5 y6 y7 = some o → HNR g o.2) {h : Hp} (k : HNR g h) (e : sX0_layOut_178 F k_79 h x0 x1 x5 x6 x7 x9 x10 x11 x12 t0 = some o) : HNR g o.2 := by
  unfold sX0_layOut_178 at e
  replace e := br_s e
  rcases e with ⟨_, e⟩ | ⟨_, e⟩
  · replace e := br_s e
    rcases e with ⟨_, e⟩ | ⟨_, e⟩
    · replace e := cl_s e
      obtain ⟨r_3, _, e⟩ := e
      replace e := cl_s e
      obtain ⟨r_4, _, e⟩ := e
      replace e := (gd_s e).2
      replace e := br_s e
      rcases e with ⟨_, e⟩ | ⟨_, e⟩
      · replace e := nm_s e
        obtain ⟨v_7, wv_7, e⟩ := e
        replace e := cl_s e
        obtain ⟨r_8, _, e⟩ := e
        replace e := cl_s e
        obtain ⟨r_9, _, e⟩ := e
        replace e := cl_s e
        obtain ⟨o_10, eo_10, e⟩ := e
        have ko_10 : HNR g o_10 := hr0_X3_put k eo_10
        replace e := nm_s e
        obtain ⟨v_11, wv_11, e⟩ := e
        exact R_79 ko_10 e
      · exact hr0_X0_layOut_204 k e
    · exact hr0_X0_layOut_204 k e
  · exact hr0_X0_layOut_204 k e
theorem hr0_X0_layOut_177 {g : Hp} {F : Nat} {o : Int32 × Hp} {x0 : Nat} {x1 : Int32} {x5 : Int32} {x6 : Int32} {x7 : Int32} {x9 : Int32} {x10 : Int32} {x11 : Int32} {x12 : Int32} {k_79 : Hp → Nat → Int32 → Int32 → Int32 → Int32 → Int32 → Int32 → Option (Int32 × Hp)} (R_79 : ∀ {h : Hp} {y1 : Nat} {y2 : Int32} {y3 : Int32} {y4 : Int32} {y5 : Int32} {y6 : Int32} {y7 : Int32}, HNR g h → k_79 h y1 y2 y3 y4 y5 y6 y7 = some o → HNR g o.2) {h : Hp} (k : HNR g h) (e : sX0_layOut_177 F k_79 h x0 x1 x5 x6 x7 x9 x10 x11 x12 = some o) : HNR g o.2 := by
  unfold sX0_layOut_177 at e
  exact hr0_X0_layOut_178 R_79 k e
theorem hr0_X1_isLast_28 {g : Hp} {o : Int32 × Hp} {t0 : Int32} {h : Hp} (k : HNR g h) (e : sX1_isLast_28 h t0 = some o) : HNR g o.2 := by
  unfold sX1_isLast_28 at e
  replace e := (gd_s e).2
  rw [← Option.some.inj e]; exact k
theorem hr0_X1_isLast_20 {g : Hp} {o : Int32 × Hp} {t0 : Int32} {t1 : Int32} {h : Hp} (k : HNR g h) (e : sX1_isLast_20 h t0 t1 = some o) : HNR g o.2 := by
  unfold sX1_isLast_20 at e
  replace e := br_s e
  rcases e with ⟨_, e⟩ | ⟨_, e⟩
  · exact hr0_X1_isLast_28 k e
  · exact hr0_X1_isLast_28 k e
theorem hr0_X1_isLast {g : Hp} {o : Int32 × Hp} {x0 : Nat} {x1 : Int32} {x2 : Int32} {h : Hp} (k : HNR g h) (e : sX1_isLast h x0 x1 x2 = some o) : HNR g o.2 := by
  unfold sX1_isLast at e
  replace e := cl_s e
  obtain ⟨r_1, _, e⟩ := e
  replace e := (gd_s e).2
  replace e := br_s e
  rcases e with ⟨_, e⟩ | ⟨_, e⟩
  · exact hr0_X1_isLast_20 k e
  · exact hr0_X1_isLast_20 k e
theorem hr0_X0_layOut_141 {g : Hp} {F : Nat} {o : Int32 × Hp} {x0 : Nat} {x1 : Int32} {x5 : Int32} {x6 : Int32} {x7 : Int32} {x9 : Int32} {x10 : Int32} {x11 : Int32} {t0 : Int32} {k_79 : Hp → Nat → Int32 → Int32 → Int32 → Int32 → Int32 → Int32 → Option (Int32 × Hp)} (R_79 : ∀ {h : Hp} {y1 : Nat} {y2 : Int32} {y3 : Int32} {y4 : Int32} {y5 : Int32} {y6 : Int32} {y7 : Int32}, HNR g h → k_79 h y1 y2 y3 y4 y5 y6 y7 = some o → HNR g o.2) {h : Hp} (k : HNR g h) (e : sX0_layOut_141 F k_79 h x0 x1 x5 x6 x7 x9 x10 x11 t0 = some o) : HNR g o.2 := by
  unfold sX0_layOut_141 at e
  replace e := cl_s e
  obtain ⟨r_1, _, e⟩ := e
  replace e := cl_s e
  obtain ⟨o_2, eo_2, e⟩ := e
  have ko_2 : HNR g o_2.2 := hr0_X1_becomesOthers k eo_2
  replace e := br_s e
  rcases e with ⟨_, e⟩ | ⟨_, e⟩
  · exact hr0_X0_layOut_177 R_79 ko_2 e
  · replace e := cl_s e
    obtain ⟨r_4, _, e⟩ := e
    replace e := cl_s e
    obtain ⟨o_5, eo_5, e⟩ := e
    have ko_5 : HNR g o_5.2 := hr0_X1_isLast ko_2 eo_5
    replace e := br_s e
    rcases e with ⟨_, e⟩ | ⟨_, e⟩
    · exact hr0_X0_layOut_177 R_79 ko_5 e
    · exact hr0_X0_layOut_178 R_79 ko_5 e
theorem hr0_X0_layOut_140 {g : Hp} {F : Nat} {o : Int32 × Hp} {x0 : Nat} {x1 : Int32} {x5 : Int32} {x6 : Int32} {x7 : Int32} {x9 : Int32} {x10 : Int32} {x11 : Int32} {k_79 : Hp → Nat → Int32 → Int32 → Int32 → Int32 → Int32 → Int32 → Option (Int32 × Hp)} (R_79 : ∀ {h : Hp} {y1 : Nat} {y2 : Int32} {y3 : Int32} {y4 : Int32} {y5 : Int32} {y6 : Int32} {y7 : Int32}, HNR g h → k_79 h y1 y2 y3 y4 y5 y6 y7 = some o → HNR g o.2) {h : Hp} (k : HNR g h) (e : sX0_layOut_140 F k_79 h x0 x1 x5 x6 x7 x9 x10 x11 = some o) : HNR g o.2 := by
  unfold sX0_layOut_140 at e
  exact hr0_X0_layOut_141 R_79 k e
theorem hr0_X0_layOut_79 {g : Hp} {F : Nat} {o : Int32 × Hp} : ∀ (f : Nat) {h : Hp} {x0 : Nat} {x1 : Int32} {x5 : Int32} {x6 : Int32} {x7 : Int32} {x8 : Int32} {x9 : Int32}, HNR g h → sX0_layOut_79 F f h x0 x1 x5 x6 x7 x8 x9 = some o → HNR g o.2 := by
  intro f
  induction f with
  | zero => intro h x0 x1 x5 x6 x7 x8 x9 _ e; exact absurd e (by rw [sX0_layOut_79]; exact fun z => nomatch z)
  | succ f ih =>
    intro h x0 x1 x5 x6 x7 x8 x9 k e
    rw [sX0_layOut_79] at e
    replace e := br_s e
    rcases e with ⟨_, e⟩ | ⟨_, e⟩
    · exact hr0_X0_layOut_240 k e
    · replace e := br_s e
      rcases e with ⟨_, e⟩ | ⟨_, e⟩
      · exact hr0_X0_layOut_240 k e
      · replace e := (gd_s e).2
        replace e := nm_s e
        obtain ⟨v_4, wv_4, e⟩ := e
        replace e := (gd_s e).2
        replace e := nm_s e
        obtain ⟨v_6, wv_6, e⟩ := e
        replace e := cl_s e
        obtain ⟨o_7, eo_7, e⟩ := e
        have ko_7 : HNR g o_7.2 := hr0_X0_codeIn k eo_7
        replace e := br_s e
        rcases e with ⟨_, e⟩ | ⟨_, e⟩
        · replace e := br_s e
          rcases e with ⟨_, e⟩ | ⟨_, e⟩
          · exact hr0_X0_layOut_140 (fun k e => ih k e) ko_7 e
          · exact hr0_X0_layOut_141 (fun k e => ih k e) ko_7 e
        · exact hr0_X0_layOut_140 (fun k e => ih k e) ko_7 e
theorem hr0_X0_layOut_55 {g : Hp} {F : Nat} {o : Int32 × Hp} {x0 : Nat} {x1 : Int32} {x2 : Int32} {h : Hp} (k : HNR g h) (e : sX0_layOut_55 F h x0 x1 x2 = some o) : HNR g o.2 := by
  unfold sX0_layOut_55 at e
  replace e := cl_s e
  obtain ⟨o_1, eo_1, e⟩ := e
  have ko_1 : HNR g o_1.2 := hr0_X0_sizeOf k eo_1
  replace e := cl_s e
  obtain ⟨r_2, _, e⟩ := e
  replace e := nm_s e
  obtain ⟨v_3, wv_3, e⟩ := e
  exact hr0_X0_layOut_79 F ko_1 e
theorem hr0_X11_lowest {g : Hp} {o : Int32 × Hp} {x0 : Int64} {h : Hp} (k : HNR g h) (e : sX11_lowest h x0 = some o) : HNR g o.2 := by
  unfold sX11_lowest at e
  replace e := (gd_s e).2
  rw [← Option.some.inj e]; exact k
theorem hr0_X0_layOut_11 {g : Hp} {F : Nat} {o : Int32 × Hp} : ∀ (f : Nat) {h : Hp} {x0 : Nat} {x1 : Int32} {x2 : Int32} {x3 : Int64} {x5 : Int32}, HNR g h → sX0_layOut_11 F f h x0 x1 x2 x3 x5 = some o → HNR g o.2 := by
  intro f
  induction f with
  | zero => intro h x0 x1 x2 x3 x5 _ e; exact absurd e (by rw [sX0_layOut_11]; exact fun z => nomatch z)
  | succ f ih =>
    intro h x0 x1 x2 x3 x5 k e
    rw [sX0_layOut_11] at e
    replace e := br_s e
    rcases e with ⟨_, e⟩ | ⟨_, e⟩
    · exact hr0_X0_layOut_55 k e
    · replace e := br_s e
      rcases e with ⟨_, e⟩ | ⟨_, e⟩
      · exact hr0_X0_layOut_55 k e
      · replace e := cl_s e
        obtain ⟨r_3, _, e⟩ := e
        replace e := cl_s e
        obtain ⟨o_4, eo_4, e⟩ := e
        have ko_4 : HNR g o_4.2 := hr0_X11_lowest k eo_4
        replace e := cl_s e
        obtain ⟨r_5, _, e⟩ := e
        replace e := cl_s e
        obtain ⟨o_6, eo_6, e⟩ := e
        have ko_6 : HNR g o_6 := hr0_X3_put ko_4 eo_6
        replace e := nm_s e
        obtain ⟨v_7, wv_7, e⟩ := e
        replace e := nm_s e
        obtain ⟨v_8, wv_8, e⟩ := e
        exact ih ko_6 e
theorem hr0_X0_layOut {g : Hp} {F : Nat} {o : Int32 × Hp} {x0 : Nat} {x1 : Int32} {x2 : Int32} {h : Hp} (k : HNR g h) (e : sX0_layOut F h x0 x1 x2 = some o) : HNR g o.2 := by
  unfold sX0_layOut at e
  replace e := cl_s e
  obtain ⟨r_1, _, e⟩ := e
  replace e := cl_s e
  obtain ⟨o_2, eo_2, e⟩ := e
  have ko_2 : HNR g o_2.2 := hr0_X3_occupied k eo_2
  exact hr0_X0_layOut_11 F ko_2 e
theorem hr0_X0_markAll_94 {g : Hp} {F : Nat} {o : Hp} {x0 : Nat} {x1 : Int32} {x2 : Int32} {x3 : Int32} {x4 : Int32} {x5 : Int32} {x6 : Int32} {t0 : Int32} {t1 : Int32} {t2 : Nat} {k_2 : Hp → Nat → Int32 → Option (Hp)} (R_2 : ∀ {h : Hp} {y1 : Nat} {y2 : Int32}, HNR g h → k_2 h y1 y2 = some o → HNR g o) {k_30 : Hp → Nat → Int32 → Int32 → Int32 → Option (Hp)} (R_30 : ∀ {h : Hp} {y1 : Nat} {y2 : Int32} {y3 : Int32} {y4 : Int32}, HNR g h → k_30 h y1 y2 y3 y4 = some o → HNR g o) {k_63 : Hp → Nat → Int32 → Int32 → Int32 → Int32 → Int32 → Int32 → Option (Hp)} (R_63 : ∀ {h : Hp} {y1 : Nat} {y2 : Int32} {y3 : Int32} {y4 : Int32} {y5 : Int32} {y6 : Int32} {y7 : Int32}, HNR g h → k_63 h y1 y2 y3 y4 y5 y6 y7 = some o → HNR g o) {h : Hp} (k : HNR g h) (e : sX0_markAll_94 F k_2 k_30 k_63 h x0 x1 x2 x3 x4 x5 x6 t0 t1 t2 = some o) : HNR g o := by
  unfold sX0_markAll_94 at e
  replace e := (gd_s e).2
  replace e := nm_s e
  obtain ⟨h_2, wh_2, e⟩ := e
  have kh_2 : HNR g h_2 := by rw [wh_2]; exact k
  replace e := cl_s e
  obtain ⟨r_3, _, e⟩ := e
  replace e := (gd_s e).2
  replace e := nm_s e
  obtain ⟨h_5, wh_5, e⟩ := e
  have kh_5 : HNR g h_5 := by rw [wh_5]; exact kh_2
  replace e := nm_s e
  obtain ⟨v_6, wv_6, e⟩ := e
  exact R_63 kh_5 e
theorem hr0_X5_isRoyalHit_32 {g : Hp} {F : Nat} {o : Int32 × Hp} {t0 : Int32} {h : Hp} (k : HNR g h) (e : sX5_isRoyalHit_32 F h t0 = some o) : HNR g o.2 := by
  unfold sX5_isRoyalHit_32 at e
  replace e := (gd_s e).2
  rw [← Option.some.inj e]; exact k
theorem hr0_X5_isRoyalHit_31 {g : Hp} {F : Nat} {o : Int32 × Hp} {h : Hp} (k : HNR g h) (e : sX5_isRoyalHit_31 F h = some o) : HNR g o.2 := by
  unfold sX5_isRoyalHit_31 at e
  exact hr0_X5_isRoyalHit_32 k e
theorem hr0_X5_isHit_255 {g : Hp} {F : Nat} {o : Int32 × Hp} {h : Hp} (k : HNR g h) (e : sX5_isHit_255 F h = some o) : HNR g o.2 := by
  unfold sX5_isHit_255 at e
  rw [← Option.some.inj e]; exact k
theorem hr0_X5_isHit_249 {g : Hp} {F : Nat} {o : Int32 × Hp} {x0 : Nat} {x1 : Nat} {x2 : Int32} {x4 : Int64} {x6 : Int64} {x8 : Int32} {k_26 : Hp → Nat → Nat → Int32 → Int64 → Int64 → Int32 → Option (Int32 × Hp)} (R_26 : ∀ {h : Hp} {y1 : Nat} {y2 : Nat} {y3 : Int32} {y4 : Int64} {y5 : Int64} {y6 : Int32}, HNR g h → k_26 h y1 y2 y3 y4 y5 y6 = some o → HNR g o.2) {h : Hp} (k : HNR g h) (e : sX5_isHit_249 F k_26 h x0 x1 x2 x4 x6 x8 = some o) : HNR g o.2 := by
  unfold sX5_isHit_249 at e
  replace e := nm_s e
  obtain ⟨v_1, wv_1, e⟩ := e
  exact R_26 k e
theorem hr0_X5_isHit_243 {g : Hp} {F : Nat} {o : Int32 × Hp} {x0 : Nat} {x1 : Nat} {x2 : Int32} {x4 : Int64} {x6 : Int64} {x8 : Int32} {x13 : Int32} {x14 : Int32} {k_26 : Hp → Nat → Nat → Int32 → Int64 → Int64 → Int32 → Option (Int32 × Hp)} (R_26 : ∀ {h : Hp} {y1 : Nat} {y2 : Nat} {y3 : Int32} {y4 : Int64} {y5 : Int64} {y6 : Int32}, HNR g h → k_26 h y1 y2 y3 y4 y5 y6 = some o → HNR g o.2) {k_133 : Hp → Nat → Nat → Int32 → Int64 → Int64 → Int32 → Int32 → Int32 → Option (Int32 × Hp)} (R_133 : ∀ {h : Hp} {y1 : Nat} {y2 : Nat} {y3 : Int32} {y4 : Int64} {y5 : Int64} {y6 : Int32} {y7 : Int32} {y8 : Int32}, HNR g h → k_133 h y1 y2 y3 y4 y5 y6 y7 y8 = some o → HNR g o.2) {h : Hp} (k : HNR g h) (e : sX5_isHit_243 F k_26 k_133 h x0 x1 x2 x4 x6 x8 x13 x14 = some o) : HNR g o.2 := by
  unfold sX5_isHit_243 at e
  replace e := nm_s e
  obtain ⟨v_1, wv_1, e⟩ := e
  exact R_133 k e
theorem hr0_X5_isHit_227 {g : Hp} {F : Nat} {o : Int32 × Hp} {x0 : Nat} {x1 : Nat} {x2 : Int32} {x4 : Int64} {x6 : Int64} {x8 : Int32} {x13 : Int32} {x14 : Int32} {x15 : Int32} {t0 : Int32} {k_26 : Hp → Nat → Nat → Int32 → Int64 → Int64 → Int32 → Option (Int32 × Hp)} (R_26 : ∀ {h : Hp} {y1 : Nat} {y2 : Nat} {y3 : Int32} {y4 : Int64} {y5 : Int64} {y6 : Int32}, HNR g h → k_26 h y1 y2 y3 y4 y5 y6 = some o → HNR g o.2) {k_133 : Hp → Nat → Nat → Int32 → Int64 → Int64 → Int32 → Int32 → Int32 → Option (Int32 × Hp)} (R_133 : ∀ {h : Hp} {y1 : Nat} {y2 : Nat} {y3 : Int32} {y4 : Int64} {y5 : Int64} {y6 : Int32} {y7 : Int32} {y8 : Int32}, HNR g h → k_133 h y1 y2 y3 y4 y5 y6 y7 y8 = some o → HNR g o.2) {h : Hp} (k : HNR g h) (e : sX5_isHit_227 F k_26 k_133 h x0 x1 x2 x4 x6 x8 x13 x14 x15 t0 = some o) : HNR g o.2 := by
  unfold sX5_isHit_227 at e
  replace e := br_s e
  rcases e with ⟨_, e⟩ | ⟨_, e⟩
  · exact hr0_X5_isHit_243 R_26 R_133 k e
  · replace e := br_s e
    rcases e with ⟨_, e⟩ | ⟨_, e⟩
    · rw [← Option.some.inj e]; exact k
    · exact hr0_X5_isHit_243 R_26 R_133 k e
theorem hr0_X5_isHit_226 {g : Hp} {F : Nat} {o : Int32 × Hp} {x0 : Nat} {x1 : Nat} {x2 : Int32} {x4 : Int64} {x6 : Int64} {x8 : Int32} {x13 : Int32} {x14 : Int32} {x15 : Int32} {k_26 : Hp → Nat → Nat → Int32 → Int64 → Int64 → Int32 → Option (Int32 × Hp)} (R_26 : ∀ {h : Hp} {y1 : Nat} {y2 : Nat} {y3 : Int32} {y4 : Int64} {y5 : Int64} {y6 : Int32}, HNR g h → k_26 h y1 y2 y3 y4 y5 y6 = some o → HNR g o.2) {k_133 : Hp → Nat → Nat → Int32 → Int64 → Int64 → Int32 → Int32 → Int32 → Option (Int32 × Hp)} (R_133 : ∀ {h : Hp} {y1 : Nat} {y2 : Nat} {y3 : Int32} {y4 : Int64} {y5 : Int64} {y6 : Int32} {y7 : Int32} {y8 : Int32}, HNR g h → k_133 h y1 y2 y3 y4 y5 y6 y7 y8 = some o → HNR g o.2) {h : Hp} (k : HNR g h) (e : sX5_isHit_226 F k_26 k_133 h x0 x1 x2 x4 x6 x8 x13 x14 x15 = some o) : HNR g o.2 := by
  unfold sX5_isHit_226 at e
  exact hr0_X5_isHit_227 R_26 R_133 k e
theorem hr0_X5_isHit_133 {g : Hp} {F : Nat} {o : Int32 × Hp} {k_26 : Hp → Nat → Nat → Int32 → Int64 → Int64 → Int32 → Option (Int32 × Hp)} (R_26 : ∀ {h : Hp} {y1 : Nat} {y2 : Nat} {y3 : Int32} {y4 : Int64} {y5 : Int64} {y6 : Int32}, HNR g h → k_26 h y1 y2 y3 y4 y5 y6 = some o → HNR g o.2) : ∀ (f : Nat) {h : Hp} {x0 : Nat} {x1 : Nat} {x2 : Int32} {x4 : Int64} {x6 : Int64} {x8 : Int32} {x13 : Int32} {x14 : Int32}, HNR g h → sX5_isHit_133 F k_26 f h x0 x1 x2 x4 x6 x8 x13 x14 = some o → HNR g o.2 := by
  intro f
  induction f with
  | zero => intro h x0 x1 x2 x4 x6 x8 x13 x14 _ e; exact absurd e (by rw [sX5_isHit_133]; exact fun z => nomatch z)
  | succ f ih =>
    intro h x0 x1 x2 x4 x6 x8 x13 x14 k e
    rw [sX5_isHit_133] at e
    replace e := cl_s e
    obtain ⟨r_1, _, e⟩ := e
    replace e := cl_s e
    obtain ⟨r_2, _, e⟩ := e
    replace e := (gd_s e).2
    replace e := br_s e
    rcases e with ⟨_, e⟩ | ⟨_, e⟩
    · exact hr0_X5_isHit_249 R_26 k e
    · replace e := cl_s e
      obtain ⟨r_5, _, e⟩ := e
      replace e := cl_s e
      obtain ⟨r_6, _, e⟩ := e
      replace e := (gd_s e).2
      replace e := nm_s e
      obtain ⟨v_8, wv_8, e⟩ := e
      replace e := cl_s e
      obtain ⟨r_9, _, e⟩ := e
      replace e := cl_s e
      obtain ⟨r_10, _, e⟩ := e
      replace e := (gd_s e).2
      replace e := nm_s e
      obtain ⟨v_12, wv_12, e⟩ := e
      replace e := br_s e
      rcases e with ⟨_, e⟩ | ⟨_, e⟩
      · replace e := br_s e
        rcases e with ⟨_, e⟩ | ⟨_, e⟩
        · exact hr0_X5_isHit_227 R_26 (fun k e => ih k e) k e
        · exact hr0_X5_isHit_227 R_26 (fun k e => ih k e) k e
      · replace e := br_s e
        rcases e with ⟨_, e⟩ | ⟨_, e⟩
        · exact hr0_X5_isHit_226 R_26 (fun k e => ih k e) k e
        · replace e := br_s e
          rcases e with ⟨_, e⟩ | ⟨_, e⟩
          · exact hr0_X5_isHit_227 R_26 (fun k e => ih k e) k e
          · exact hr0_X5_isHit_226 R_26 (fun k e => ih k e) k e
theorem hr0_X5_isHit_26 {g : Hp} {F : Nat} {o : Int32 × Hp} : ∀ (f : Nat) {h : Hp} {x0 : Nat} {x1 : Nat} {x2 : Int32} {x4 : Int64} {x6 : Int64} {x8 : Int32}, HNR g h → sX5_isHit_26 F f h x0 x1 x2 x4 x6 x8 = some o → HNR g o.2 := by
  intro f
  induction f with
  | zero => intro h x0 x1 x2 x4 x6 x8 _ e; exact absurd e (by rw [sX5_isHit_26]; exact fun z => nomatch z)
  | succ f ih =>
    intro h x0 x1 x2 x4 x6 x8 k e
    rw [sX5_isHit_26] at e
    replace e := br_s e
    rcases e with ⟨_, e⟩ | ⟨_, e⟩
    · exact hr0_X5_isHit_255 k e
    · replace e := br_s e
      rcases e with ⟨_, e⟩ | ⟨_, e⟩
      · exact hr0_X5_isHit_255 k e
      · replace e := nm_s e
        obtain ⟨v_3, wv_3, e⟩ := e
        replace e := nm_s e
        obtain ⟨v_4, wv_4, e⟩ := e
        replace e := (gd_s e).2
        replace e := nm_s e
        obtain ⟨v_6, wv_6, e⟩ := e
        replace e := cl_s e
        obtain ⟨r_7, _, e⟩ := e
        replace e := (gd_s e).2
        replace e := nm_s e
        obtain ⟨v_9, wv_9, e⟩ := e
        replace e := cl_s e
        obtain ⟨r_10, _, e⟩ := e
        replace e := cl_s e
        obtain ⟨r_11, _, e⟩ := e
        replace e := (gd_s e).2
        replace e := br_s e
        rcases e with ⟨_, e⟩ | ⟨_, e⟩
        · exact hr0_X5_isHit_249 (fun k e => ih k e) k e
        · replace e := nm_s e
          obtain ⟨v_14, wv_14, e⟩ := e
          replace e := cl_s e
          obtain ⟨r_15, _, e⟩ := e
          replace e := cl_s e
          obtain ⟨r_16, _, e⟩ := e
          replace e := (gd_s e).2
          replace e := nm_s e
          obtain ⟨v_18, wv_18, e⟩ := e
          exact hr0_X5_isHit_133 (fun k e => ih k e) F k e
theorem hr0_X5_isHit {g : Hp} {F : Nat} {o : Int32 × Hp} {x0 : Nat} {x1 : Nat} {x2 : Int32} {x3 : Int32} {h : Hp} (k : HNR g h) (e : sX5_isHit F h x0 x1 x2 x3 = some o) : HNR g o.2 := by
  unfold sX5_isHit at e
  replace e := cl_s e
  obtain ⟨r_1, _, e⟩ := e
  replace e := (gd_s e).2
  replace e := cl_s e
  obtain ⟨r_3, _, e⟩ := e
  replace e := (gd_s e).2
  replace e := nm_s e
  obtain ⟨v_5, wv_5, e⟩ := e
  replace e := cl_s e
  obtain ⟨r_6, _, e⟩ := e
  replace e := (gd_s e).2
  replace e := nm_s e
  obtain ⟨v_8, wv_8, e⟩ := e
  exact hr0_X5_isHit_26 F k e
theorem hr0_X5_isRoyalHit {g : Hp} {F : Nat} {o : Int32 × Hp} {x0 : Nat} {x1 : Nat} {x2 : Int32} {h : Hp} (k : HNR g h) (e : sX5_isRoyalHit F h x0 x1 x2 = some o) : HNR g o.2 := by
  unfold sX5_isRoyalHit at e
  replace e := cl_s e
  obtain ⟨r_1, _, e⟩ := e
  replace e := (gd_s e).2
  replace e := br_s e
  rcases e with ⟨_, e⟩ | ⟨_, e⟩
  · exact hr0_X5_isRoyalHit_31 k e
  · replace e := cl_s e
    obtain ⟨r_4, _, e⟩ := e
    replace e := (gd_s e).2
    replace e := cl_s e
    obtain ⟨o_6, eo_6, e⟩ := e
    have ko_6 : HNR g o_6.2 := hr0_X5_isHit k eo_6
    replace e := br_s e
    rcases e with ⟨_, e⟩ | ⟨_, e⟩
    · exact hr0_X5_isRoyalHit_31 ko_6 e
    · exact hr0_X5_isRoyalHit_32 ko_6 e
theorem hr0_X1_has_14 {g : Hp} {o : Int32 × Hp} {t0 : Int32} {h : Hp} (k : HNR g h) (e : sX1_has_14 h t0 = some o) : HNR g o.2 := by
  unfold sX1_has_14 at e
  replace e := (gd_s e).2
  rw [← Option.some.inj e]; exact k
theorem hr0_X1_has {g : Hp} {o : Int32 × Hp} {x0 : Nat} {x1 : Int32} {h : Hp} (k : HNR g h) (e : sX1_has h x0 x1 = some o) : HNR g o.2 := by
  unfold sX1_has at e
  replace e := br_s e
  rcases e with ⟨_, e⟩ | ⟨_, e⟩
  · exact hr0_X1_has_14 k e
  · exact hr0_X1_has_14 k e
theorem hr0_X5_isOnHill_36 {g : Hp} {o : Int32 × Hp} {t0 : Int32} {h : Hp} (k : HNR g h) (e : sX5_isOnHill_36 h t0 = some o) : HNR g o.2 := by
  unfold sX5_isOnHill_36 at e
  replace e := (gd_s e).2
  rw [← Option.some.inj e]; exact k
theorem hr0_X5_isOnHill_35 {g : Hp} {o : Int32 × Hp} {h : Hp} (k : HNR g h) (e : sX5_isOnHill_35 h = some o) : HNR g o.2 := by
  unfold sX5_isOnHill_35 at e
  exact hr0_X5_isOnHill_36 k e
theorem hr0_X5_isOnHill {g : Hp} {o : Int32 × Hp} {x0 : Nat} {x1 : Nat} {x2 : Int32} {h : Hp} (k : HNR g h) (e : sX5_isOnHill h x0 x1 x2 = some o) : HNR g o.2 := by
  unfold sX5_isOnHill at e
  replace e := cl_s e
  obtain ⟨r_1, _, e⟩ := e
  replace e := (gd_s e).2
  replace e := br_s e
  rcases e with ⟨_, e⟩ | ⟨_, e⟩
  · exact hr0_X5_isOnHill_35 k e
  · replace e := cl_s e
    obtain ⟨r_4, _, e⟩ := e
    replace e := cl_s e
    obtain ⟨r_5, _, e⟩ := e
    replace e := (gd_s e).2
    replace e := br_s e
    rcases e with ⟨_, e⟩ | ⟨_, e⟩
    · exact hr0_X5_isOnHill_35 k e
    · exact hr0_X5_isOnHill_36 k e
theorem hr0_X5_isBare_27 {g : Hp} {o : Int32 × Hp} {t0 : Int32} {h : Hp} (k : HNR g h) (e : sX5_isBare_27 h t0 = some o) : HNR g o.2 := by
  unfold sX5_isBare_27 at e
  replace e := (gd_s e).2
  rw [← Option.some.inj e]; exact k
theorem hr0_X5_isBare_26 {g : Hp} {o : Int32 × Hp} {h : Hp} (k : HNR g h) (e : sX5_isBare_26 h = some o) : HNR g o.2 := by
  unfold sX5_isBare_26 at e
  exact hr0_X5_isBare_27 k e
theorem hr0_X5_isBare {g : Hp} {o : Int32 × Hp} {x0 : Nat} {x1 : Nat} {x2 : Int32} {h : Hp} (k : HNR g h) (e : sX5_isBare h x0 x1 x2 = some o) : HNR g o.2 := by
  unfold sX5_isBare at e
  replace e := cl_s e
  obtain ⟨r_1, _, e⟩ := e
  replace e := (gd_s e).2
  replace e := br_s e
  rcases e with ⟨_, e⟩ | ⟨_, e⟩
  · replace e := cl_s e
    obtain ⟨r_4, _, e⟩ := e
    replace e := (gd_s e).2
    replace e := br_s e
    rcases e with ⟨_, e⟩ | ⟨_, e⟩
    · exact hr0_X5_isBare_27 k e
    · exact hr0_X5_isBare_26 k e
  · exact hr0_X5_isBare_26 k e
theorem hr0_X5_earlyEnd_132 {g : Hp} {o : Int32 × Hp} {t0 : Int32} {h : Hp} (k : HNR g h) (e : sX5_earlyEnd_132 h t0 = some o) : HNR g o.2 := by
  unfold sX5_earlyEnd_132 at e
  rw [← Option.some.inj e]; exact k
theorem hr0_X5_earlyEnd_127 {g : Hp} {o : Int32 × Hp} {h : Hp} (k : HNR g h) (e : sX5_earlyEnd_127 h = some o) : HNR g o.2 := by
  unfold sX5_earlyEnd_127 at e
  exact hr0_X5_earlyEnd_132 k e
theorem hr0_X5_earlyEnd_109 {g : Hp} {o : Int32 × Hp} {x0 : Nat} {x1 : Nat} {h : Hp} (k : HNR g h) (e : sX5_earlyEnd_109 h x0 x1 = some o) : HNR g o.2 := by
  unfold sX5_earlyEnd_109 at e
  replace e := cl_s e
  obtain ⟨o_1, eo_1, e⟩ := e
  have ko_1 : HNR g o_1.2 := hr0_X5_isBare k eo_1
  replace e := br_s e
  rcases e with ⟨_, e⟩ | ⟨_, e⟩
  · replace e := cl_s e
    obtain ⟨o_3, eo_3, e⟩ := e
    have ko_3 : HNR g o_3.2 := hr0_X5_isBare ko_1 eo_3
    replace e := br_s e
    rcases e with ⟨_, e⟩ | ⟨_, e⟩
    · exact hr0_X5_earlyEnd_132 ko_3 e
    · exact hr0_X5_earlyEnd_127 ko_3 e
  · exact hr0_X5_earlyEnd_127 ko_1 e
theorem hr0_X5_earlyEnd_107 {g : Hp} {o : Int32 × Hp} {h : Hp} (k : HNR g h) (e : sX5_earlyEnd_107 h = some o) : HNR g o.2 := by
  unfold sX5_earlyEnd_107 at e
  rw [← Option.some.inj e]; exact k
theorem hr0_X5_earlyEnd_63 {g : Hp} {o : Int32 × Hp} {h : Hp} (k : HNR g h) (e : sX5_earlyEnd_63 h = some o) : HNR g o.2 := by
  unfold sX5_earlyEnd_63 at e
  rw [← Option.some.inj e]; exact k
theorem hr0_X5_earlyEnd_45 {g : Hp} {o : Int32 × Hp} {x0 : Nat} {x1 : Nat} {h : Hp} (k : HNR g h) (e : sX5_earlyEnd_45 h x0 x1 = some o) : HNR g o.2 := by
  unfold sX5_earlyEnd_45 at e
  replace e := cl_s e
  obtain ⟨o_1, eo_1, e⟩ := e
  have ko_1 : HNR g o_1.2 := hr0_X5_isOnHill k eo_1
  replace e := br_s e
  rcases e with ⟨_, e⟩ | ⟨_, e⟩
  · replace e := cl_s e
    obtain ⟨o_3, eo_3, e⟩ := e
    have ko_3 : HNR g o_3.2 := hr0_X5_isOnHill ko_1 eo_3
    replace e := br_s e
    rcases e with ⟨_, e⟩ | ⟨_, e⟩
    · replace e := cl_s e
      obtain ⟨r_5, _, e⟩ := e
      replace e := br_s e
      rcases e with ⟨_, e⟩ | ⟨_, e⟩
      · exact hr0_X5_earlyEnd_109 ko_3 e
      · replace e := cl_s e
        obtain ⟨r_7, _, e⟩ := e
        replace e := (gd_s e).2
        replace e := cl_s e
        obtain ⟨r_9, _, e⟩ := e
        replace e := br_s e
        rcases e with ⟨_, e⟩ | ⟨_, e⟩
        · exact hr0_X5_earlyEnd_107 ko_3 e
        · replace e := cl_s e
          obtain ⟨r_11, _, e⟩ := e
          replace e := (gd_s e).2
          replace e := cl_s e
          obtain ⟨r_13, _, e⟩ := e
          replace e := br_s e
          rcases e with ⟨_, e⟩ | ⟨_, e⟩
          · exact hr0_X5_earlyEnd_109 ko_3 e
          · exact hr0_X5_earlyEnd_107 ko_3 e
    · exact hr0_X5_earlyEnd_63 ko_3 e
  · exact hr0_X5_earlyEnd_63 ko_1 e
theorem hr0_X5_earlyEnd_43 {g : Hp} {o : Int32 × Hp} {h : Hp} (k : HNR g h) (e : sX5_earlyEnd_43 h = some o) : HNR g o.2 := by
  unfold sX5_earlyEnd_43 at e
  rw [← Option.some.inj e]; exact k
theorem hr0_X5_earlyEnd {g : Hp} {o : Int32 × Hp} {x0 : Nat} {x1 : Nat} {h : Hp} (k : HNR g h) (e : sX5_earlyEnd h x0 x1 = some o) : HNR g o.2 := by
  unfold sX5_earlyEnd at e
  replace e := cl_s e
  obtain ⟨r_1, _, e⟩ := e
  replace e := cl_s e
  obtain ⟨o_2, eo_2, e⟩ := e
  have ko_2 : HNR g o_2.2 := hr0_X1_has k eo_2
  replace e := br_s e
  rcases e with ⟨_, e⟩ | ⟨_, e⟩
  · exact hr0_X5_earlyEnd_45 ko_2 e
  · replace e := cl_s e
    obtain ⟨r_4, _, e⟩ := e
    replace e := br_s e
    rcases e with ⟨_, e⟩ | ⟨_, e⟩
    · exact hr0_X5_earlyEnd_45 ko_2 e
    · replace e := cl_s e
      obtain ⟨r_6, _, e⟩ := e
      replace e := (gd_s e).2
      replace e := br_s e
      rcases e with ⟨_, e⟩ | ⟨_, e⟩
      · exact hr0_X5_earlyEnd_43 ko_2 e
      · replace e := cl_s e
        obtain ⟨r_9, _, e⟩ := e
        replace e := (gd_s e).2
        replace e := br_s e
        rcases e with ⟨_, e⟩ | ⟨_, e⟩
        · exact hr0_X5_earlyEnd_43 ko_2 e
        · exact hr0_X5_earlyEnd_45 ko_2 e
theorem hr0_X0_earlyWorth_54 {g : Hp} {F : Nat} {o : Int32 × Hp} {t0 : Int32} {h : Hp} (k : HNR g h) (e : sX0_earlyWorth_54 F h t0 = some o) : HNR g o.2 := by
  unfold sX0_earlyWorth_54 at e
  rw [← Option.some.inj e]; exact k
theorem hr0_X5_winnerOf_64 {g : Hp} {o : Int32 × Hp} {t0 : Int32} {h : Hp} (k : HNR g h) (e : sX5_winnerOf_64 h t0 = some o) : HNR g o.2 := by
  unfold sX5_winnerOf_64 at e
  rw [← Option.some.inj e]; exact k
theorem hr0_X5_winnerOf_81 {g : Hp} {o : Int32 × Hp} {t0 : Int32} {h : Hp} (k : HNR g h) (e : sX5_winnerOf_81 h t0 = some o) : HNR g o.2 := by
  unfold sX5_winnerOf_81 at e
  rw [← Option.some.inj e]; exact k
theorem hr0_X5_winnerOf_105 {g : Hp} {o : Int32 × Hp} {t0 : Int32} {h : Hp} (k : HNR g h) (e : sX5_winnerOf_105 h t0 = some o) : HNR g o.2 := by
  unfold sX5_winnerOf_105 at e
  rw [← Option.some.inj e]; exact k
theorem hr0_X5_winnerOf_143 {g : Hp} {o : Int32 × Hp} {t0 : Int32} {h : Hp} (k : HNR g h) (e : sX5_winnerOf_143 h t0 = some o) : HNR g o.2 := by
  unfold sX5_winnerOf_143 at e
  rw [← Option.some.inj e]; exact k
theorem hr0_X5_winnerOf_121 {g : Hp} {o : Int32 × Hp} {x0 : Nat} {t0 : Int32} {h : Hp} (k : HNR g h) (e : sX5_winnerOf_121 h x0 t0 = some o) : HNR g o.2 := by
  unfold sX5_winnerOf_121 at e
  replace e := cl_s e
  obtain ⟨r_1, _, e⟩ := e
  replace e := br_s e
  rcases e with ⟨_, e⟩ | ⟨_, e⟩
  · exact hr0_X5_winnerOf_143 k e
  · exact hr0_X5_winnerOf_143 k e
theorem hr0_X5_winnerOf_179 {g : Hp} {o : Int32 × Hp} {t0 : Int32} {h : Hp} (k : HNR g h) (e : sX5_winnerOf_179 h t0 = some o) : HNR g o.2 := by
  unfold sX5_winnerOf_179 at e
  rw [← Option.some.inj e]; exact k
theorem hr0_X5_winnerOf {g : Hp} {o : Int32 × Hp} {x0 : Nat} {x1 : Nat} {x2 : Int32} {h : Hp} (k : HNR g h) (e : sX5_winnerOf h x0 x1 x2 = some o) : HNR g o.2 := by
  unfold sX5_winnerOf at e
  replace e := nm_s e
  obtain ⟨v_1, wv_1, e⟩ := e
  replace e := nm_s e
  obtain ⟨v_2, wv_2, e⟩ := e
  replace e := br_s e
  rcases e with ⟨_, e⟩ | ⟨_, e⟩
  · replace e := cl_s e
    obtain ⟨r_3, _, e⟩ := e
    replace e := (gd_s e).2
    replace e := br_s e
    rcases e with ⟨_, e⟩ | ⟨_, e⟩
    · exact hr0_X5_winnerOf_64 k e
    · exact hr0_X5_winnerOf_64 k e
  · replace e := br_s e
    rcases e with ⟨_, e⟩ | ⟨_, e⟩
    · replace e := cl_s e
      obtain ⟨o_7, eo_7, e⟩ := e
      have ko_7 : HNR g o_7.2 := hr0_X5_isOnHill k eo_7
      replace e := br_s e
      rcases e with ⟨_, e⟩ | ⟨_, e⟩
      · exact hr0_X5_winnerOf_81 ko_7 e
      · exact hr0_X5_winnerOf_81 ko_7 e
    · replace e := br_s e
      rcases e with ⟨_, e⟩ | ⟨_, e⟩
      · replace e := cl_s e
        obtain ⟨r_10, _, e⟩ := e
        replace e := (gd_s e).2
        replace e := cl_s e
        obtain ⟨r_12, _, e⟩ := e
        replace e := br_s e
        rcases e with ⟨_, e⟩ | ⟨_, e⟩
        · exact hr0_X5_winnerOf_105 k e
        · exact hr0_X5_winnerOf_105 k e
      · replace e := br_s e
        rcases e with ⟨_, e⟩ | ⟨_, e⟩
        · replace e := cl_s e
          obtain ⟨o_15, eo_15, e⟩ := e
          have ko_15 : HNR g o_15.2 := hr0_X5_isBare k eo_15
          replace e := br_s e
          rcases e with ⟨_, e⟩ | ⟨_, e⟩
          · exact hr0_X5_winnerOf_121 ko_15 e
          · exact hr0_X5_winnerOf_121 ko_15 e
        · replace e := br_s e
          rcases e with ⟨_, e⟩ | ⟨_, e⟩
          · rw [← Option.some.inj e]; exact k
          · replace e := br_s e
            rcases e with ⟨_, e⟩ | ⟨_, e⟩
            · replace e := cl_s e
              obtain ⟨r_19, _, e⟩ := e
              replace e := br_s e
              rcases e with ⟨_, e⟩ | ⟨_, e⟩
              · exact hr0_X5_winnerOf_179 k e
              · replace e := cl_s e
                obtain ⟨r_21, _, e⟩ := e
                replace e := br_s e
                rcases e with ⟨_, e⟩ | ⟨_, e⟩
                · exact hr0_X5_winnerOf_179 k e
                · exact hr0_X5_winnerOf_179 k e
            · rw [← Option.some.inj e]; exact k
theorem hr0_X0_endWorth_40 {g : Hp} {o : Int32 × Hp} {t0 : Int32} {h : Hp} (k : HNR g h) (e : sX0_endWorth_40 h t0 = some o) : HNR g o.2 := by
  unfold sX0_endWorth_40 at e
  rw [← Option.some.inj e]; exact k
theorem hr0_X0_endWorth {g : Hp} {o : Int32 × Hp} {x0 : Nat} {x1 : Int32} {h : Hp} (k : HNR g h) (e : sX0_endWorth h x0 x1 = some o) : HNR g o.2 := by
  unfold sX0_endWorth at e
  replace e := cl_s e
  obtain ⟨r_1, _, e⟩ := e
  replace e := cl_s e
  obtain ⟨r_2, _, e⟩ := e
  replace e := cl_s e
  obtain ⟨o_3, eo_3, e⟩ := e
  have ko_3 : HNR g o_3.2 := hr0_X5_winnerOf k eo_3
  replace e := br_s e
  rcases e with ⟨_, e⟩ | ⟨_, e⟩
  · exact hr0_X0_endWorth_40 ko_3 e
  · replace e := cl_s e
    obtain ⟨r_5, _, e⟩ := e
    replace e := br_s e
    rcases e with ⟨_, e⟩ | ⟨_, e⟩
    · exact hr0_X0_endWorth_40 ko_3 e
    · exact hr0_X0_endWorth_40 ko_3 e
theorem hr0_X0_earlyWorth {g : Hp} {F : Nat} {o : Int32 × Hp} {x0 : Nat} {x1 : Int32} {h : Hp} (k : HNR g h) (e : sX0_earlyWorth F h x0 x1 = some o) : HNR g o.2 := by
  unfold sX0_earlyWorth at e
  replace e := cl_s e
  obtain ⟨r_1, _, e⟩ := e
  replace e := nm_s e
  obtain ⟨h_2, wh_2, e⟩ := e
  have kh_2 : HNR g h_2 := by rw [wh_2]; exact k
  replace e := cl_s e
  obtain ⟨r_3, _, e⟩ := e
  replace e := cl_s e
  obtain ⟨r_4, _, e⟩ := e
  replace e := cl_s e
  obtain ⟨o_5, eo_5, e⟩ := e
  have ko_5 : HNR g o_5.2 := hr0_X5_isRoyalHit kh_2 eo_5
  replace e := br_s e
  rcases e with ⟨_, e⟩ | ⟨_, e⟩
  · replace e := cl_s e
    obtain ⟨r_7, _, e⟩ := e
    replace e := cl_s e
    obtain ⟨r_8, _, e⟩ := e
    replace e := cl_s e
    obtain ⟨o_9, eo_9, e⟩ := e
    have ko_9 : HNR g o_9.2 := hr0_X5_earlyEnd ko_5 eo_9
    replace e := br_s e
    rcases e with ⟨_, e⟩ | ⟨_, e⟩
    · exact hr0_X0_earlyWorth_54 ko_9 e
    · replace e := cl_s e
      obtain ⟨o_11, eo_11, e⟩ := e
      have ko_11 : HNR g o_11.2 := hr0_X0_endWorth ko_9 eo_11
      exact hr0_X0_earlyWorth_54 ko_11 e
  · rw [← Option.some.inj e]; exact ko_5
theorem hr0_X0_markAll_63 {g : Hp} {F : Nat} {o : Hp} {k_2 : Hp → Nat → Int32 → Option (Hp)} (R_2 : ∀ {h : Hp} {y1 : Nat} {y2 : Int32}, HNR g h → k_2 h y1 y2 = some o → HNR g o) {k_30 : Hp → Nat → Int32 → Int32 → Int32 → Option (Hp)} (R_30 : ∀ {h : Hp} {y1 : Nat} {y2 : Int32} {y3 : Int32} {y4 : Int32}, HNR g h → k_30 h y1 y2 y3 y4 = some o → HNR g o) : ∀ (f : Nat) {h : Hp} {x0 : Nat} {x1 : Int32} {x2 : Int32} {x3 : Int32} {x4 : Int32} {x5 : Int32} {x6 : Int32}, HNR g h → sX0_markAll_63 F k_2 k_30 f h x0 x1 x2 x3 x4 x5 x6 = some o → HNR g o := by
  intro f
  induction f with
  | zero => intro h x0 x1 x2 x3 x4 x5 x6 _ e; exact absurd e (by rw [sX0_markAll_63]; exact fun z => nomatch z)
  | succ f ih =>
    intro h x0 x1 x2 x3 x4 x5 x6 k e
    rw [sX0_markAll_63] at e
    replace e := br_s e
    rcases e with ⟨_, e⟩ | ⟨_, e⟩
    · replace e := nm_s e
      obtain ⟨v_2, wv_2, e⟩ := e
      exact R_30 k e
    · replace e := cl_s e
      obtain ⟨r_3, _, e⟩ := e
      replace e := br_s e
      rcases e with ⟨_, e⟩ | ⟨_, e⟩
      · exact hr0_X0_markAll_94 R_2 R_30 (fun k e => ih k e) k e
      · replace e := cl_s e
        obtain ⟨o_5, eo_5, e⟩ := e
        have ko_5 : HNR g o_5.2 := hr0_X0_earlyWorth k eo_5
        exact hr0_X0_markAll_94 R_2 R_30 (fun k e => ih k e) ko_5 e
theorem hr0_X0_markAll_30 {g : Hp} {F : Nat} {o : Hp} {k_2 : Hp → Nat → Int32 → Option (Hp)} (R_2 : ∀ {h : Hp} {y1 : Nat} {y2 : Int32}, HNR g h → k_2 h y1 y2 = some o → HNR g o) : ∀ (f : Nat) {h : Hp} {x0 : Nat} {x1 : Int32} {x2 : Int32} {x3 : Int32}, HNR g h → sX0_markAll_30 F k_2 f h x0 x1 x2 x3 = some o → HNR g o := by
  intro f
  induction f with
  | zero => intro h x0 x1 x2 x3 _ e; exact absurd e (by rw [sX0_markAll_30]; exact fun z => nomatch z)
  | succ f ih =>
    intro h x0 x1 x2 x3 k e
    rw [sX0_markAll_30] at e
    replace e := br_s e
    rcases e with ⟨_, e⟩ | ⟨_, e⟩
    · replace e := nm_s e
      obtain ⟨v_2, wv_2, e⟩ := e
      exact R_2 k e
    · replace e := cl_s e
      obtain ⟨r_3, _, e⟩ := e
      replace e := (gd_s e).2
      replace e := cl_s e
      obtain ⟨o_5, eo_5, e⟩ := e
      have ko_5 : HNR g o_5.2 := hr0_X0_layOut k eo_5
      replace e := cl_s e
      obtain ⟨r_6, _, e⟩ := e
      replace e := (gd_s e).2
      replace e := nm_s e
      obtain ⟨v_8, wv_8, e⟩ := e
      exact hr0_X0_markAll_63 R_2 (fun k e => ih k e) F ko_5 e
theorem hr0_X0_markAll_2 {g : Hp} {F : Nat} {o : Hp} : ∀ (f : Nat) {h : Hp} {x0 : Nat} {x1 : Int32}, HNR g h → sX0_markAll_2 F f h x0 x1 = some o → HNR g o := by
  intro f
  induction f with
  | zero => intro h x0 x1 _ e; exact absurd e (by rw [sX0_markAll_2]; exact fun z => nomatch z)
  | succ f ih =>
    intro h x0 x1 k e
    rw [sX0_markAll_2] at e
    replace e := br_s e
    rcases e with ⟨_, e⟩ | ⟨_, e⟩
    · rw [← Option.some.inj e]; exact k
    · replace e := cl_s e
      obtain ⟨r_2, _, e⟩ := e
      replace e := (gd_s e).2
      replace e := cl_s e
      obtain ⟨r_4, _, e⟩ := e
      replace e := (gd_s e).2
      replace e := nm_s e
      obtain ⟨v_6, wv_6, e⟩ := e
      exact hr0_X0_markAll_30 (fun k e => ih k e) F k e
theorem hr0_X0_markAll {g : Hp} {F : Nat} {o : Hp} {x0 : Nat} {h : Hp} (k : HNR g h) (e : sX0_markAll F h x0 = some o) : HNR g o := by
  unfold sX0_markAll at e
  exact hr0_X0_markAll_2 F k e
theorem hr0_X0_countAll_138 {g : Hp} {F : Nat} {o : Hp} {x0 : Nat} {x1 : Int32} {x2 : Int32} {x3 : Int32} {k_2 : Hp → Nat → Int32 → Option (Hp)} (R_2 : ∀ {h : Hp} {y1 : Nat} {y2 : Int32}, HNR g h → k_2 h y1 y2 = some o → HNR g o) {k_30 : Hp → Nat → Int32 → Int32 → Int32 → Option (Hp)} (R_30 : ∀ {h : Hp} {y1 : Nat} {y2 : Int32} {y3 : Int32} {y4 : Int32}, HNR g h → k_30 h y1 y2 y3 y4 = some o → HNR g o) {h : Hp} (k : HNR g h) (e : sX0_countAll_138 F k_2 k_30 h x0 x1 x2 x3 = some o) : HNR g o := by
  unfold sX0_countAll_138 at e
  replace e := nm_s e
  obtain ⟨v_1, wv_1, e⟩ := e
  exact R_30 k e
theorem hr0_X0_countAll_132 {g : Hp} {F : Nat} {o : Hp} {x0 : Nat} {x1 : Int32} {x2 : Int32} {x3 : Int32} {x4 : Int32} {x6 : Int32} {k_2 : Hp → Nat → Int32 → Option (Hp)} (R_2 : ∀ {h : Hp} {y1 : Nat} {y2 : Int32}, HNR g h → k_2 h y1 y2 = some o → HNR g o) {k_30 : Hp → Nat → Int32 → Int32 → Int32 → Option (Hp)} (R_30 : ∀ {h : Hp} {y1 : Nat} {y2 : Int32} {y3 : Int32} {y4 : Int32}, HNR g h → k_30 h y1 y2 y3 y4 = some o → HNR g o) {k_105 : Hp → Nat → Int32 → Int32 → Int32 → Int32 → Int32 → Option (Hp)} (R_105 : ∀ {h : Hp} {y1 : Nat} {y2 : Int32} {y3 : Int32} {y4 : Int32} {y5 : Int32} {y6 : Int32}, HNR g h → k_105 h y1 y2 y3 y4 y5 y6 = some o → HNR g o) {h : Hp} (k : HNR g h) (e : sX0_countAll_132 F k_2 k_30 k_105 h x0 x1 x2 x3 x4 x6 = some o) : HNR g o := by
  unfold sX0_countAll_132 at e
  replace e := nm_s e
  obtain ⟨v_1, wv_1, e⟩ := e
  exact R_105 k e
theorem hr0_X0_goBack_157 {g : Hp} {F : Nat} {o : Hp} {h : Hp} (k : HNR g h) (e : sX0_goBack_157 F h = some o) : HNR g o := by
  unfold sX0_goBack_157 at e
  rw [← Option.some.inj e]; exact k
theorem hr0_X0_gatherRow_95 {g : Hp} {F : Nat} {o : Hp} {h : Hp} (k : HNR g h) (e : sX0_gatherRow_95 F h = some o) : HNR g o := by
  unfold sX0_gatherRow_95 at e
  rw [← Option.some.inj e]; exact k
theorem hr0_X0_gatherRow_89 {g : Hp} {F : Nat} {o : Hp} {x0 : Nat} {x1 : Nat} {x2 : Int32} {x3 : Int32} {x4 : Int64} {x6 : Int32} {k_14 : Hp → Nat → Nat → Int32 → Int32 → Int64 → Int32 → Option (Hp)} (R_14 : ∀ {h : Hp} {y1 : Nat} {y2 : Nat} {y3 : Int32} {y4 : Int32} {y5 : Int64} {y6 : Int32}, HNR g h → k_14 h y1 y2 y3 y4 y5 y6 = some o → HNR g o) {h : Hp} (k : HNR g h) (e : sX0_gatherRow_89 F k_14 h x0 x1 x2 x3 x4 x6 = some o) : HNR g o := by
  unfold sX0_gatherRow_89 at e
  replace e := nm_s e
  obtain ⟨v_1, wv_1, e⟩ := e
  exact R_14 k e
theorem hr0_X0_addToRow_41 {g : Hp} {F : Nat} {o : Hp} {x0 : Nat} {x1 : Int32} {x2 : Int32} {h : Hp} (k : HNR g h) (e : sX0_addToRow_41 F h x0 x1 x2 = some o) : HNR g o := by
  unfold sX0_addToRow_41 at e
  replace e := cl_s e
  obtain ⟨r_1, _, e⟩ := e
  replace e := (gd_s e).2
  replace e := nm_s e
  obtain ⟨h_3, wh_3, e⟩ := e
  have kh_3 : HNR g h_3 := by rw [wh_3]; exact k
  replace e := nm_s e
  obtain ⟨h_4, wh_4, e⟩ := e
  have kh_4 : HNR g h_4 := by rw [wh_4]; exact kh_3
  rw [← Option.some.inj e]; exact kh_4
theorem hr0_X0_addToRow_5 {g : Hp} {F : Nat} {o : Hp} : ∀ (f : Nat) {h : Hp} {x0 : Nat} {x1 : Int32} {x2 : Int32}, HNR g h → sX0_addToRow_5 F f h x0 x1 x2 = some o → HNR g o := by
  intro f
  induction f with
  | zero => intro h x0 x1 x2 _ e; exact absurd e (by rw [sX0_addToRow_5]; exact fun z => nomatch z)
  | succ f ih =>
    intro h x0 x1 x2 k e
    rw [sX0_addToRow_5] at e
    replace e := br_s e
    rcases e with ⟨_, e⟩ | ⟨_, e⟩
    · exact hr0_X0_addToRow_41 k e
    · replace e := cl_s e
      obtain ⟨r_2, _, e⟩ := e
      replace e := (gd_s e).2
      replace e := br_s e
      rcases e with ⟨_, e⟩ | ⟨_, e⟩
      · exact hr0_X0_addToRow_41 k e
      · replace e := cl_s e
        obtain ⟨r_5, _, e⟩ := e
        replace e := cl_s e
        obtain ⟨r_6, _, e⟩ := e
        replace e := (gd_s e).2
        replace e := (gd_s e).2
        replace e := nm_s e
        obtain ⟨h_9, wh_9, e⟩ := e
        have kh_9 : HNR g h_9 := by rw [wh_9]; exact k
        replace e := nm_s e
        obtain ⟨v_10, wv_10, e⟩ := e
        exact ih kh_9 e
theorem hr0_X0_addToRow {g : Hp} {F : Nat} {o : Hp} {x0 : Nat} {x1 : Int32} {h : Hp} (k : HNR g h) (e : sX0_addToRow F h x0 x1 = some o) : HNR g o := by
  unfold sX0_addToRow at e
  replace e := nm_s e
  obtain ⟨v_1, wv_1, e⟩ := e
  exact hr0_X0_addToRow_5 F k e
theorem hr0_X0_gatherRow_61 {g : Hp} {F : Nat} {o : Hp} {x0 : Nat} {x1 : Nat} {x2 : Int32} {x3 : Int32} {x4 : Int64} {x6 : Int32} {x7 : Int32} {t0 : Int32} {k_14 : Hp → Nat → Nat → Int32 → Int32 → Int64 → Int32 → Option (Hp)} (R_14 : ∀ {h : Hp} {y1 : Nat} {y2 : Nat} {y3 : Int32} {y4 : Int32} {y5 : Int64} {y6 : Int32}, HNR g h → k_14 h y1 y2 y3 y4 y5 y6 = some o → HNR g o) {h : Hp} (k : HNR g h) (e : sX0_gatherRow_61 F k_14 h x0 x1 x2 x3 x4 x6 x7 t0 = some o) : HNR g o := by
  unfold sX0_gatherRow_61 at e
  replace e := br_s e
  rcases e with ⟨_, e⟩ | ⟨_, e⟩
  · exact hr0_X0_gatherRow_89 R_14 k e
  · replace e := br_s e
    rcases e with ⟨_, e⟩ | ⟨_, e⟩
    · exact hr0_X0_gatherRow_89 R_14 k e
    · replace e := cl_s e
      obtain ⟨o_3, eo_3, e⟩ := e
      have ko_3 : HNR g o_3 := hr0_X0_addToRow k eo_3
      exact hr0_X0_gatherRow_89 R_14 ko_3 e
theorem hr0_X0_gatherRow_14 {g : Hp} {F : Nat} {o : Hp} : ∀ (f : Nat) {h : Hp} {x0 : Nat} {x1 : Nat} {x2 : Int32} {x3 : Int32} {x4 : Int64} {x6 : Int32}, HNR g h → sX0_gatherRow_14 F f h x0 x1 x2 x3 x4 x6 = some o → HNR g o := by
  intro f
  induction f with
  | zero => intro h x0 x1 x2 x3 x4 x6 _ e; exact absurd e (by rw [sX0_gatherRow_14]; exact fun z => nomatch z)
  | succ f ih =>
    intro h x0 x1 x2 x3 x4 x6 k e
    rw [sX0_gatherRow_14] at e
    replace e := br_s e
    rcases e with ⟨_, e⟩ | ⟨_, e⟩
    · exact hr0_X0_gatherRow_95 k e
    · replace e := br_s e
      rcases e with ⟨_, e⟩ | ⟨_, e⟩
      · exact hr0_X0_gatherRow_95 k e
      · replace e := cl_s e
        obtain ⟨o_3, eo_3, e⟩ := e
        have ko_3 : HNR g o_3.2 := hr0_X11_lowest k eo_3
        replace e := nm_s e
        obtain ⟨v_4, wv_4, e⟩ := e
        replace e := br_s e
        rcases e with ⟨_, e⟩ | ⟨_, e⟩
        · exact hr0_X0_gatherRow_61 (fun k e => ih k e) ko_3 e
        · replace e := cl_s e
          obtain ⟨r_6, _, e⟩ := e
          replace e := (gd_s e).2
          exact hr0_X0_gatherRow_61 (fun k e => ih k e) ko_3 e
theorem hr0_X0_gatherRow {g : Hp} {F : Nat} {o : Hp} {x0 : Nat} {x1 : Nat} {x2 : Int32} {x3 : Int32} {h : Hp} (k : HNR g h) (e : sX0_gatherRow F h x0 x1 x2 x3 = some o) : HNR g o := by
  unfold sX0_gatherRow at e
  replace e := nm_s e
  obtain ⟨h_1, wh_1, e⟩ := e
  have kh_1 : HNR g h_1 := by rw [wh_1]; exact k
  replace e := cl_s e
  obtain ⟨o_2, eo_2, e⟩ := e
  have ko_2 : HNR g o_2.2 := hr0_X3_occupied kh_1 eo_2
  exact hr0_X0_gatherRow_14 F ko_2 e
theorem hr0_X0_keyOfRow_4 {g : Hp} {F : Nat} {o : Int32 × Hp} : ∀ (f : Nat) {h : Hp} {x0 : Nat} {x1 : Int32} {x2 : Int32}, HNR g h → sX0_keyOfRow_4 F f h x0 x1 x2 = some o → HNR g o.2 := by
  intro f
  induction f with
  | zero => intro h x0 x1 x2 _ e; exact absurd e (by rw [sX0_keyOfRow_4]; exact fun z => nomatch z)
  | succ f ih =>
    intro h x0 x1 x2 k e
    rw [sX0_keyOfRow_4] at e
    replace e := br_s e
    rcases e with ⟨_, e⟩ | ⟨_, e⟩
    · rw [← Option.some.inj e]; exact k
    · replace e := cl_s e
      obtain ⟨r_2, _, e⟩ := e
      replace e := (gd_s e).2
      replace e := nm_s e
      obtain ⟨v_4, wv_4, e⟩ := e
      replace e := nm_s e
      obtain ⟨v_5, wv_5, e⟩ := e
      exact ih k e
theorem hr0_X0_keyOfRow {g : Hp} {F : Nat} {o : Int32 × Hp} {x0 : Nat} {h : Hp} (k : HNR g h) (e : sX0_keyOfRow F h x0 = some o) : HNR g o.2 := by
  unfold sX0_keyOfRow at e
  exact hr0_X0_keyOfRow_4 F k e
theorem hr0_X0_with_35 {g : Hp} {F : Nat} {o : Int32 × Hp} {x0 : Int32} {x1 : Int32} {x2 : Int32} {h : Hp} (k : HNR g h) (e : sX0_with_35 F h x0 x1 x2 = some o) : HNR g o.2 := by
  unfold sX0_with_35 at e
  replace e := nm_s e
  obtain ⟨v_1, wv_1, e⟩ := e
  rw [← Option.some.inj e]; exact k
theorem hr0_X0_with_2 {g : Hp} {F : Nat} {o : Int32 × Hp} : ∀ (f : Nat) {h : Hp} {x0 : Int32} {x1 : Int32} {x2 : Int32}, HNR g h → sX0_with_2 F f h x0 x1 x2 = some o → HNR g o.2 := by
  intro f
  induction f with
  | zero => intro h x0 x1 x2 _ e; exact absurd e (by rw [sX0_with_2]; exact fun z => nomatch z)
  | succ f ih =>
    intro h x0 x1 x2 k e
    rw [sX0_with_2] at e
    replace e := br_s e
    rcases e with ⟨_, e⟩ | ⟨_, e⟩
    · exact hr0_X0_with_35 k e
    · replace e := br_s e
      rcases e with ⟨_, e⟩ | ⟨_, e⟩
      · exact hr0_X0_with_35 k e
      · replace e := br_s e
        rcases e with ⟨_, e⟩ | ⟨_, e⟩
        · exact hr0_X0_with_35 k e
        · replace e := nm_s e
          obtain ⟨v_4, wv_4, e⟩ := e
          exact ih k e
theorem hr0_X0_with {g : Hp} {F : Nat} {o : Int32 × Hp} {x0 : Int32} {x1 : Int32} {h : Hp} (k : HNR g h) (e : sX0_with F h x0 x1 = some o) : HNR g o.2 := by
  unfold sX0_with at e
  exact hr0_X0_with_2 F k e
theorem hr0_X0_findSet_59 {g : Hp} {F : Nat} {o : Int32 × Hp} {x0 : Nat} {x1 : Int32} {x2 : Int32} {x3 : Int32} {k_9 : Hp → Nat → Int32 → Int32 → Int32 → Option (Int32 × Hp)} (R_9 : ∀ {h : Hp} {y1 : Nat} {y2 : Int32} {y3 : Int32} {y4 : Int32}, HNR g h → k_9 h y1 y2 y3 y4 = some o → HNR g o.2) {h : Hp} (k : HNR g h) (e : sX0_findSet_59 F k_9 h x0 x1 x2 x3 = some o) : HNR g o.2 := by
  unfold sX0_findSet_59 at e
  exact R_9 k e
theorem hr0_X0_findSet_9 {g : Hp} {F : Nat} {o : Int32 × Hp} : ∀ (f : Nat) {h : Hp} {x0 : Nat} {x1 : Int32} {x2 : Int32} {x3 : Int32}, HNR g h → sX0_findSet_9 F f h x0 x1 x2 x3 = some o → HNR g o.2 := by
  intro f
  induction f with
  | zero => intro h x0 x1 x2 x3 _ e; exact absurd e (by rw [sX0_findSet_9]; exact fun z => nomatch z)
  | succ f ih =>
    intro h x0 x1 x2 x3 k e
    rw [sX0_findSet_9] at e
    replace e := br_s e
    rcases e with ⟨_, e⟩ | ⟨_, e⟩
    · rw [← Option.some.inj e]; exact k
    · replace e := nm_s e
      obtain ⟨v_2, wv_2, e⟩ := e
      replace e := cl_s e
      obtain ⟨r_3, _, e⟩ := e
      replace e := (gd_s e).2
      replace e := br_s e
      rcases e with ⟨_, e⟩ | ⟨_, e⟩
      · rw [← Option.some.inj e]; exact k
      · replace e := cl_s e
        obtain ⟨r_6, _, e⟩ := e
        replace e := (gd_s e).2
        replace e := br_s e
        rcases e with ⟨_, e⟩ | ⟨_, e⟩
        · replace e := nm_s e
          obtain ⟨v_9, wv_9, e⟩ := e
          exact hr0_X0_findSet_59 (fun k e => ih k e) k e
        · replace e := nm_s e
          obtain ⟨v_10, wv_10, e⟩ := e
          exact hr0_X0_findSet_59 (fun k e => ih k e) k e
theorem hr0_X0_findSet {g : Hp} {F : Nat} {o : Int32 × Hp} {x0 : Nat} {x1 : Int32} {h : Hp} (k : HNR g h) (e : sX0_findSet F h x0 x1 = some o) : HNR g o.2 := by
  unfold sX0_findSet at e
  replace e := nm_s e
  obtain ⟨v_1, wv_1, e⟩ := e
  exact hr0_X0_findSet_9 F k e
theorem hr0_X0_numberOf_115 {g : Hp} {F : Nat} {o : Int32 × Hp} {t0 : Int32} {h : Hp} (k : HNR g h) (e : sX0_numberOf_115 F h t0 = some o) : HNR g o.2 := by
  unfold sX0_numberOf_115 at e
  rw [← Option.some.inj e]; exact k
theorem hr0_X0_numberOf_64 {g : Hp} {F : Nat} {o : Int32 × Hp} {x0 : Nat} {x1 : Int32} {x2 : Int32} {x3 : Int32} {x4 : Int32} {x5 : Int32} {k_19 : Hp → Nat → Int32 → Int32 → Int32 → Int32 → Int32 → Option (Int32 × Hp)} (R_19 : ∀ {h : Hp} {y1 : Nat} {y2 : Int32} {y3 : Int32} {y4 : Int32} {y5 : Int32} {y6 : Int32}, HNR g h → k_19 h y1 y2 y3 y4 y5 y6 = some o → HNR g o.2) {h : Hp} (k : HNR g h) (e : sX0_numberOf_64 F k_19 h x0 x1 x2 x3 x4 x5 = some o) : HNR g o.2 := by
  unfold sX0_numberOf_64 at e
  replace e := cl_s e
  obtain ⟨r_1, _, e⟩ := e
  replace e := (gd_s e).2
  replace e := cl_s e
  obtain ⟨r_3, _, e⟩ := e
  replace e := (gd_s e).2
  replace e := nm_s e
  obtain ⟨v_5, wv_5, e⟩ := e
  replace e := nm_s e
  obtain ⟨v_6, wv_6, e⟩ := e
  replace e := nm_s e
  obtain ⟨v_7, wv_7, e⟩ := e
  exact R_19 k e
theorem hr0_X0_numberOf_19 {g : Hp} {F : Nat} {o : Int32 × Hp} : ∀ (f : Nat) {h : Hp} {x0 : Nat} {x1 : Int32} {x2 : Int32} {x3 : Int32} {x4 : Int32} {x5 : Int32}, HNR g h → sX0_numberOf_19 F f h x0 x1 x2 x3 x4 x5 = some o → HNR g o.2 := by
  intro f
  induction f with
  | zero => intro h x0 x1 x2 x3 x4 x5 _ e; exact absurd e (by rw [sX0_numberOf_19]; exact fun z => nomatch z)
  | succ f ih =>
    intro h x0 x1 x2 x3 x4 x5 k e
    rw [sX0_numberOf_19] at e
    replace e := br_s e
    rcases e with ⟨_, e⟩ | ⟨_, e⟩
    · replace e := br_s e
      rcases e with ⟨_, e⟩ | ⟨_, e⟩
      · replace e := cl_s e
        obtain ⟨r_3, _, e⟩ := e
        replace e := (gd_s e).2
        exact hr0_X0_numberOf_115 k e
      · exact hr0_X0_numberOf_115 k e
    · replace e := br_s e
      rcases e with ⟨_, e⟩ | ⟨_, e⟩
      · replace e := cl_s e
        obtain ⟨r_6, _, e⟩ := e
        replace e := (gd_s e).2
        replace e := br_s e
        rcases e with ⟨_, e⟩ | ⟨_, e⟩
        · exact hr0_X0_numberOf_64 (fun k e => ih k e) k e
        · replace e := cl_s e
          obtain ⟨r_9, _, e⟩ := e
          replace e := (gd_s e).2
          replace e := nm_s e
          obtain ⟨v_11, wv_11, e⟩ := e
          replace e := nm_s e
          obtain ⟨v_12, wv_12, e⟩ := e
          exact hr0_X0_numberOf_64 (fun k e => ih k e) k e
      · exact hr0_X0_numberOf_64 (fun k e => ih k e) k e
theorem hr0_X0_numberOf_14 {g : Hp} {F : Nat} {o : Int32 × Hp} {x0 : Nat} {x1 : Int32} {x2 : Int32} {x3 : Int32} {t0 : Int32} {h : Hp} (k : HNR g h) (e : sX0_numberOf_14 F h x0 x1 x2 x3 t0 = some o) : HNR g o.2 := by
  unfold sX0_numberOf_14 at e
  exact hr0_X0_numberOf_19 F k e
theorem hr0_X0_numberOf {g : Hp} {F : Nat} {o : Int32 × Hp} {x0 : Nat} {x1 : Int32} {h : Hp} (k : HNR g h) (e : sX0_numberOf F h x0 x1 = some o) : HNR g o.2 := by
  unfold sX0_numberOf at e
  replace e := br_s e
  rcases e with ⟨_, e⟩ | ⟨_, e⟩
  · exact hr0_X0_numberOf_14 k e
  · exact hr0_X0_numberOf_14 k e
theorem hr0_X0_weightOf_46 {g : Hp} {F : Nat} {o : Int32 × Hp} {x0 : Nat} {x1 : Int32} {x3 : Int32} {t0 : Int32} {t1 : Int32} {k_4 : Hp → Nat → Int32 → Int32 → Int32 → Option (Int32 × Hp)} (R_4 : ∀ {h : Hp} {y1 : Nat} {y2 : Int32} {y3 : Int32} {y4 : Int32}, HNR g h → k_4 h y1 y2 y3 y4 = some o → HNR g o.2) {h : Hp} (k : HNR g h) (e : sX0_weightOf_46 F k_4 h x0 x1 x3 t0 t1 = some o) : HNR g o.2 := by
  unfold sX0_weightOf_46 at e
  replace e := nm_s e
  obtain ⟨v_1, wv_1, e⟩ := e
  replace e := nm_s e
  obtain ⟨v_2, wv_2, e⟩ := e
  exact R_4 k e
theorem hr0_X0_weightOf_4 {g : Hp} {F : Nat} {o : Int32 × Hp} : ∀ (f : Nat) {h : Hp} {x0 : Nat} {x1 : Int32} {x2 : Int32} {x3 : Int32}, HNR g h → sX0_weightOf_4 F f h x0 x1 x2 x3 = some o → HNR g o.2 := by
  intro f
  induction f with
  | zero => intro h x0 x1 x2 x3 _ e; exact absurd e (by rw [sX0_weightOf_4]; exact fun z => nomatch z)
  | succ f ih =>
    intro h x0 x1 x2 x3 k e
    rw [sX0_weightOf_4] at e
    replace e := br_s e
    rcases e with ⟨_, e⟩ | ⟨_, e⟩
    · replace e := cl_s e
      obtain ⟨r_2, _, e⟩ := e
      replace e := (gd_s e).2
      rw [← Option.some.inj e]; exact k
    · replace e := cl_s e
      obtain ⟨r_4, _, e⟩ := e
      replace e := (gd_s e).2
      replace e := br_s e
      rcases e with ⟨_, e⟩ | ⟨_, e⟩
      · rw [← Option.some.inj e]; exact k
      · replace e := cl_s e
        obtain ⟨r_7, _, e⟩ := e
        replace e := (gd_s e).2
        replace e := br_s e
        rcases e with ⟨_, e⟩ | ⟨_, e⟩
        · exact hr0_X0_weightOf_46 (fun k e => ih k e) k e
        · exact hr0_X0_weightOf_46 (fun k e => ih k e) k e
theorem hr0_X0_weightOf {g : Hp} {F : Nat} {o : Int32 × Hp} {x0 : Nat} {x1 : Int32} {h : Hp} (k : HNR g h) (e : sX0_weightOf F h x0 x1 = some o) : HNR g o.2 := by
  unfold sX0_weightOf at e
  exact hr0_X0_weightOf_4 F k e
theorem hr0_X10_cell {g : Hp} {o : Int32 × Hp} {x0 : Int32} {x1 : Int32} {x2 : Int32} {h : Hp} (k : HNR g h) (e : sX10_cell h x0 x1 x2 = some o) : HNR g o.2 := by
  unfold sX10_cell at e
  rw [← Option.some.inj e]; exact k
theorem hr0_X10_origins_169 {g : Hp} {F : Nat} {o : Int64 × Hp} {x6 : Int64} {h : Hp} (k : HNR g h) (e : sX10_origins_169 F h x6 = some o) : HNR g o.2 := by
  unfold sX10_origins_169 at e
  rw [← Option.some.inj e]; exact k
theorem hr0_X10_isOpen_37 {g : Hp} {o : Int32 × Hp} {t0 : Int32} {h : Hp} (k : HNR g h) (e : sX10_isOpen_37 h t0 = some o) : HNR g o.2 := by
  unfold sX10_isOpen_37 at e
  replace e := (gd_s e).2
  rw [← Option.some.inj e]; exact k
theorem hr0_X10_isOpen_62 {g : Hp} {o : Int32 × Hp} {t0 : Int32} {h : Hp} (k : HNR g h) (e : sX10_isOpen_62 h t0 = some o) : HNR g o.2 := by
  unfold sX10_isOpen_62 at e
  replace e := (gd_s e).2
  rw [← Option.some.inj e]; exact k
theorem hr0_X10_isOpen_61 {g : Hp} {o : Int32 × Hp} {h : Hp} (k : HNR g h) (e : sX10_isOpen_61 h = some o) : HNR g o.2 := by
  unfold sX10_isOpen_61 at e
  exact hr0_X10_isOpen_62 k e
theorem hr0_X10_isOpen {g : Hp} {o : Int32 × Hp} {x0 : Nat} {x1 : Int32} {x2 : Int64} {h : Hp} (k : HNR g h) (e : sX10_isOpen h x0 x1 x2 = some o) : HNR g o.2 := by
  unfold sX10_isOpen at e
  replace e := cl_s e
  obtain ⟨r_1, _, e⟩ := e
  replace e := (gd_s e).2
  replace e := nm_s e
  obtain ⟨v_3, wv_3, e⟩ := e
  replace e := cl_s e
  obtain ⟨r_4, _, e⟩ := e
  replace e := (gd_s e).2
  replace e := br_s e
  rcases e with ⟨_, e⟩ | ⟨_, e⟩
  · replace e := br_s e
    rcases e with ⟨_, e⟩ | ⟨_, e⟩
    · exact hr0_X10_isOpen_37 k e
    · exact hr0_X10_isOpen_37 k e
  · replace e := br_s e
    rcases e with ⟨_, e⟩ | ⟨_, e⟩
    · exact hr0_X10_isOpen_61 k e
    · replace e := br_s e
      rcases e with ⟨_, e⟩ | ⟨_, e⟩
      · exact hr0_X10_isOpen_62 k e
      · exact hr0_X10_isOpen_61 k e
theorem hr0_X10_origins_157 {g : Hp} {F : Nat} {o : Int64 × Hp} {x0 : Nat} {x4 : Int64} {x6 : Int64} {x8 : Int32} {x9 : Int64} {x11 : Int32} {x12 : Int32} {x13 : Int64} {x16 : Int32} {x17 : Int32} {k_45 : Hp → Nat → Int64 → Int64 → Int32 → Int64 → Int32 → Int32 → Option (Int64 × Hp)} (R_45 : ∀ {h : Hp} {y1 : Nat} {y2 : Int64} {y3 : Int64} {y4 : Int32} {y5 : Int64} {y6 : Int32} {y7 : Int32}, HNR g h → k_45 h y1 y2 y3 y4 y5 y6 y7 = some o → HNR g o.2) {k_116 : Hp → Nat → Int64 → Int64 → Int32 → Int64 → Int32 → Int32 → Int64 → Int32 → Int32 → Option (Int64 × Hp)} (R_116 : ∀ {h : Hp} {y1 : Nat} {y2 : Int64} {y3 : Int64} {y4 : Int32} {y5 : Int64} {y6 : Int32} {y7 : Int32} {y8 : Int64} {y9 : Int32} {y10 : Int32}, HNR g h → k_116 h y1 y2 y3 y4 y5 y6 y7 y8 y9 y10 = some o → HNR g o.2) {h : Hp} (k : HNR g h) (e : sX10_origins_157 F k_45 k_116 h x0 x4 x6 x8 x9 x11 x12 x13 x16 x17 = some o) : HNR g o.2 := by
  unfold sX10_origins_157 at e
  replace e := nm_s e
  obtain ⟨v_1, wv_1, e⟩ := e
  exact R_116 k e
theorem hr0_X10_origins_116 {g : Hp} {F : Nat} {o : Int64 × Hp} {k_45 : Hp → Nat → Int64 → Int64 → Int32 → Int64 → Int32 → Int32 → Option (Int64 × Hp)} (R_45 : ∀ {h : Hp} {y1 : Nat} {y2 : Int64} {y3 : Int64} {y4 : Int32} {y5 : Int64} {y6 : Int32} {y7 : Int32}, HNR g h → k_45 h y1 y2 y3 y4 y5 y6 y7 = some o → HNR g o.2) : ∀ (f : Nat) {h : Hp} {x0 : Nat} {x4 : Int64} {x6 : Int64} {x8 : Int32} {x9 : Int64} {x11 : Int32} {x12 : Int32} {x13 : Int64} {x16 : Int32} {x17 : Int32}, HNR g h → sX10_origins_116 F k_45 f h x0 x4 x6 x8 x9 x11 x12 x13 x16 x17 = some o → HNR g o.2 := by
  intro f
  induction f with
  | zero => intro h x0 x4 x6 x8 x9 x11 x12 x13 x16 x17 _ e; exact absurd e (by rw [sX10_origins_116]; exact fun z => nomatch z)
  | succ f ih =>
    intro h x0 x4 x6 x8 x9 x11 x12 x13 x16 x17 k e
    rw [sX10_origins_116] at e
    replace e := br_s e
    rcases e with ⟨_, e⟩ | ⟨_, e⟩
    · replace e := nm_s e
      obtain ⟨v_2, wv_2, e⟩ := e
      exact R_45 k e
    · replace e := cl_s e
      obtain ⟨r_3, _, e⟩ := e
      replace e := (gd_s e).2
      replace e := br_s e
      rcases e with ⟨_, e⟩ | ⟨_, e⟩
      · replace e := cl_s e
        obtain ⟨o_6, eo_6, e⟩ := e
        have ko_6 : HNR g o_6.2 := hr0_X10_isOpen k eo_6
        replace e := br_s e
        rcases e with ⟨_, e⟩ | ⟨_, e⟩
        · exact hr0_X10_origins_157 R_45 (fun k e => ih k e) ko_6 e
        · replace e := nm_s e
          obtain ⟨v_8, wv_8, e⟩ := e
          exact hr0_X10_origins_157 R_45 (fun k e => ih k e) ko_6 e
      · exact hr0_X10_origins_157 R_45 (fun k e => ih k e) k e
theorem hr0_X10_origins_45 {g : Hp} {F : Nat} {o : Int64 × Hp} : ∀ (f : Nat) {h : Hp} {x0 : Nat} {x4 : Int64} {x6 : Int64} {x8 : Int32} {x9 : Int64} {x11 : Int32} {x12 : Int32}, HNR g h → sX10_origins_45 F f h x0 x4 x6 x8 x9 x11 x12 = some o → HNR g o.2 := by
  intro f
  induction f with
  | zero => intro h x0 x4 x6 x8 x9 x11 x12 _ e; exact absurd e (by rw [sX10_origins_45]; exact fun z => nomatch z)
  | succ f ih =>
    intro h x0 x4 x6 x8 x9 x11 x12 k e
    rw [sX10_origins_45] at e
    replace e := br_s e
    rcases e with ⟨_, e⟩ | ⟨_, e⟩
    · exact hr0_X10_origins_169 k e
    · replace e := br_s e
      rcases e with ⟨_, e⟩ | ⟨_, e⟩
      · exact hr0_X10_origins_169 k e
      · replace e := nm_s e
        obtain ⟨v_3, wv_3, e⟩ := e
        replace e := nm_s e
        obtain ⟨v_4, wv_4, e⟩ := e
        replace e := (gd_s e).2
        replace e := nm_s e
        obtain ⟨v_6, wv_6, e⟩ := e
        replace e := cl_s e
        obtain ⟨r_7, _, e⟩ := e
        replace e := (gd_s e).2
        replace e := nm_s e
        obtain ⟨v_9, wv_9, e⟩ := e
        replace e := cl_s e
        obtain ⟨r_10, _, e⟩ := e
        replace e := (gd_s e).2
        replace e := nm_s e
        obtain ⟨v_12, wv_12, e⟩ := e
        exact hr0_X10_origins_116 (fun k e => ih k e) F k e
theorem hr0_X10_origins_12 {g : Hp} {F : Nat} {o : Int64 × Hp} {x0 : Nat} {x1 : Int32} {x2 : Int32} {x4 : Int64} {x6 : Int64} {t0 : Int32} {h : Hp} (k : HNR g h) (e : sX10_origins_12 F h x0 x1 x2 x4 x6 t0 = some o) : HNR g o.2 := by
  unfold sX10_origins_12 at e
  replace e := cl_s e
  obtain ⟨r_1, _, e⟩ := e
  replace e := (gd_s e).2
  replace e := nm_s e
  obtain ⟨v_3, wv_3, e⟩ := e
  replace e := cl_s e
  obtain ⟨o_4, eo_4, e⟩ := e
  have ko_4 : HNR g o_4.2 := hr0_X10_cell k eo_4
  exact hr0_X10_origins_45 F ko_4 e
theorem hr0_X10_origins {g : Hp} {F : Nat} {o : Int64 × Hp} {x0 : Nat} {x1 : Int32} {x2 : Int32} {x3 : Int32} {x4 : Int64} {h : Hp} (k : HNR g h) (e : sX10_origins F h x0 x1 x2 x3 x4 = some o) : HNR g o.2 := by
  unfold sX10_origins at e
  replace e := br_s e
  rcases e with ⟨_, e⟩ | ⟨_, e⟩
  · exact hr0_X10_origins_12 k e
  · exact hr0_X10_origins_12 k e
theorem hr0_X0_takeBackTaking_178 {g : Hp} {F : Nat} {o : Hp} {h : Hp} (k : HNR g h) (e : sX0_takeBackTaking_178 F h = some o) : HNR g o := by
  unfold sX0_takeBackTaking_178 at e
  rw [← Option.some.inj e]; exact k
theorem hr0_X0_touch_39 {g : Hp} {o : Hp} {t0 : Int32} {t1 : Int32} {t2 : Int32} {t3 : Nat} {h : Hp} (k : HNR g h) (e : sX0_touch_39 h t0 t1 t2 t3 = some o) : HNR g o := by
  unfold sX0_touch_39 at e
  replace e := (gd_s e).2
  replace e := nm_s e
  obtain ⟨h_2, wh_2, e⟩ := e
  have kh_2 : HNR g h_2 := by rw [wh_2]; exact k
  rw [← Option.some.inj e]; exact kh_2
theorem hr0_X0_push_32 {g : Hp} {o : Hp} {h : Hp} (k : HNR g h) (e : sX0_push_32 h = some o) : HNR g o := by
  unfold sX0_push_32 at e
  rw [← Option.some.inj e]; exact k
theorem hr0_X0_push {g : Hp} {o : Hp} {x0 : Nat} {x1 : Int32} {h : Hp} (k : HNR g h) (e : sX0_push h x0 x1 = some o) : HNR g o := by
  unfold sX0_push at e
  replace e := cl_s e
  obtain ⟨r_1, _, e⟩ := e
  replace e := br_s e
  rcases e with ⟨_, e⟩ | ⟨_, e⟩
  · exact hr0_X0_push_32 k e
  · replace e := cl_s e
    obtain ⟨r_3, _, e⟩ := e
    replace e := (gd_s e).2
    replace e := nm_s e
    obtain ⟨h_5, wh_5, e⟩ := e
    have kh_5 : HNR g h_5 := by rw [wh_5]; exact k
    replace e := nm_s e
    obtain ⟨h_6, wh_6, e⟩ := e
    have kh_6 : HNR g h_6 := by rw [wh_6]; exact kh_5
    exact hr0_X0_push_32 kh_6 e
theorem hr0_X0_touch_125 {g : Hp} {o : Hp} {h : Hp} (k : HNR g h) (e : sX0_touch_125 h = some o) : HNR g o := by
  unfold sX0_touch_125 at e
  rw [← Option.some.inj e]; exact k
theorem hr0_X0_touch_59 {g : Hp} {o : Hp} {x0 : Nat} {x1 : Int32} {h : Hp} (k : HNR g h) (e : sX0_touch_59 h x0 x1 = some o) : HNR g o := by
  unfold sX0_touch_59 at e
  replace e := br_s e
  rcases e with ⟨_, e⟩ | ⟨_, e⟩
  · replace e := cl_s e
    obtain ⟨r_2, _, e⟩ := e
    replace e := (gd_s e).2
    replace e := (gd_s e).2
    replace e := nm_s e
    obtain ⟨h_5, wh_5, e⟩ := e
    have kh_5 : HNR g h_5 := by rw [wh_5]; exact k
    replace e := cl_s e
    obtain ⟨r_6, _, e⟩ := e
    replace e := (gd_s e).2
    replace e := br_s e
    rcases e with ⟨_, e⟩ | ⟨_, e⟩
    · replace e := cl_s e
      obtain ⟨r_9, _, e⟩ := e
      replace e := (gd_s e).2
      replace e := nm_s e
      obtain ⟨h_11, wh_11, e⟩ := e
      have kh_11 : HNR g h_11 := by rw [wh_11]; exact kh_5
      replace e := cl_s e
      obtain ⟨o_12, eo_12, e⟩ := e
      have ko_12 : HNR g o_12 := hr0_X0_push kh_11 eo_12
      exact hr0_X0_touch_125 ko_12 e
    · exact hr0_X0_touch_125 kh_5 e
  · replace e := cl_s e
    obtain ⟨r_13, _, e⟩ := e
    replace e := (gd_s e).2
    replace e := nm_s e
    obtain ⟨h_15, wh_15, e⟩ := e
    have kh_15 : HNR g h_15 := by rw [wh_15]; exact k
    replace e := cl_s e
    obtain ⟨o_16, eo_16, e⟩ := e
    have ko_16 : HNR g o_16 := hr0_X0_push kh_15 eo_16
    rw [← Option.some.inj e]; exact ko_16
theorem hr0_X0_touch {g : Hp} {o : Hp} {x0 : Nat} {x1 : Int32} {x2 : Int32} {h : Hp} (k : HNR g h) (e : sX0_touch h x0 x1 x2 = some o) : HNR g o := by
  unfold sX0_touch at e
  replace e := cl_s e
  obtain ⟨r_1, _, e⟩ := e
  replace e := (gd_s e).2
  replace e := br_s e
  rcases e with ⟨_, e⟩ | ⟨_, e⟩
  · replace e := br_s e
    rcases e with ⟨_, e⟩ | ⟨_, e⟩
    · replace e := cl_s e
      obtain ⟨r_9, _, e⟩ := e
      replace e := (gd_s e).2
      replace e := br_s e
      rcases e with ⟨_, e⟩ | ⟨_, e⟩
      · exact hr0_X0_touch_39 k e
      · exact hr0_X0_touch_39 k e
    · replace e := br_s e
      rcases e with ⟨_, e⟩ | ⟨_, e⟩
      · replace e := cl_s e
        obtain ⟨r_6, _, e⟩ := e
        replace e := (gd_s e).2
        replace e := br_s e
        rcases e with ⟨_, e⟩ | ⟨_, e⟩
        · exact hr0_X0_touch_59 k e
        · rw [← Option.some.inj e]; exact k
      · exact hr0_X0_touch_59 k e
  · rw [← Option.some.inj e]; exact k
theorem hr0_X0_takeBackTaking_169 {g : Hp} {F : Nat} {o : Hp} {x0 : Nat} {x2 : Int32} {x3 : Int32} {x5 : Int32} {x6 : Int32} {x7 : Int32} {x8 : Int64} {x10 : Int32} {t0 : Int32} {t1 : Int32} {t2 : Nat} {k_92 : Hp → Nat → Int32 → Int32 → Int32 → Int32 → Int32 → Int64 → Int32 → Option (Hp)} (R_92 : ∀ {h : Hp} {y1 : Nat} {y2 : Int32} {y3 : Int32} {y4 : Int32} {y5 : Int32} {y6 : Int32} {y7 : Int64} {y8 : Int32}, HNR g h → k_92 h y1 y2 y3 y4 y5 y6 y7 y8 = some o → HNR g o) {h : Hp} (k : HNR g h) (e : sX0_takeBackTaking_169 F k_92 h x0 x2 x3 x5 x6 x7 x8 x10 t0 t1 t2 = some o) : HNR g o := by
  unfold sX0_takeBackTaking_169 at e
  replace e := cl_s e
  obtain ⟨o_1, eo_1, e⟩ := e
  have ko_1 : HNR g o_1 := hr0_X0_touch k eo_1
  replace e := nm_s e
  obtain ⟨v_2, wv_2, e⟩ := e
  exact R_92 ko_1 e
theorem hr0_X0_takeBackTaking_149 {g : Hp} {F : Nat} {o : Hp} {x0 : Nat} {x2 : Int32} {x3 : Int32} {x5 : Int32} {x6 : Int32} {x7 : Int32} {x8 : Int64} {x10 : Int32} {t0 : Int32} {k_92 : Hp → Nat → Int32 → Int32 → Int32 → Int32 → Int32 → Int64 → Int32 → Option (Hp)} (R_92 : ∀ {h : Hp} {y1 : Nat} {y2 : Int32} {y3 : Int32} {y4 : Int32} {y5 : Int32} {y6 : Int32} {y7 : Int64} {y8 : Int32}, HNR g h → k_92 h y1 y2 y3 y4 y5 y6 y7 y8 = some o → HNR g o) {h : Hp} (k : HNR g h) (e : sX0_takeBackTaking_149 F k_92 h x0 x2 x3 x5 x6 x7 x8 x10 t0 = some o) : HNR g o := by
  unfold sX0_takeBackTaking_149 at e
  replace e := br_s e
  rcases e with ⟨_, e⟩ | ⟨_, e⟩
  · exact hr0_X0_takeBackTaking_169 R_92 k e
  · exact hr0_X0_takeBackTaking_169 R_92 k e
theorem hr0_X0_takeBackTaking_92 {g : Hp} {F : Nat} {o : Hp} : ∀ (f : Nat) {h : Hp} {x0 : Nat} {x2 : Int32} {x3 : Int32} {x5 : Int32} {x6 : Int32} {x7 : Int32} {x8 : Int64} {x10 : Int32}, HNR g h → sX0_takeBackTaking_92 F f h x0 x2 x3 x5 x6 x7 x8 x10 = some o → HNR g o := by
  intro f
  induction f with
  | zero => intro h x0 x2 x3 x5 x6 x7 x8 x10 _ e; exact absurd e (by rw [sX0_takeBackTaking_92]; exact fun z => nomatch z)
  | succ f ih =>
    intro h x0 x2 x3 x5 x6 x7 x8 x10 k e
    rw [sX0_takeBackTaking_92] at e
    replace e := br_s e
    rcases e with ⟨_, e⟩ | ⟨_, e⟩
    · exact hr0_X0_takeBackTaking_178 k e
    · replace e := br_s e
      rcases e with ⟨_, e⟩ | ⟨_, e⟩
      · exact hr0_X0_takeBackTaking_178 k e
      · replace e := cl_s e
        obtain ⟨o_3, eo_3, e⟩ := e
        have ko_3 : HNR g o_3.2 := hr0_X11_lowest k eo_3
        replace e := nm_s e
        obtain ⟨v_4, wv_4, e⟩ := e
        replace e := br_s e
        rcases e with ⟨_, e⟩ | ⟨_, e⟩
        · replace e := cl_s e
          obtain ⟨o_6, eo_6, e⟩ := e
          have ko_6 : HNR g o_6.2 := hr0_X0_numberOf ko_3 eo_6
          exact hr0_X0_takeBackTaking_149 (fun k e => ih k e) ko_6 e
        · exact hr0_X0_takeBackTaking_149 (fun k e => ih k e) ko_3 e
theorem hr0_X0_takeBackTaking_77 {g : Hp} {F : Nat} {o : Hp} {x0 : Nat} {x2 : Int32} {x3 : Int32} {x5 : Int32} {x6 : Int32} {x7 : Int32} {t0 : Int32} {t1 : Int32} {t2 : Int32} {t3 : Nat} {h : Hp} (k : HNR g h) (e : sX0_takeBackTaking_77 F h x0 x2 x3 x5 x6 x7 t0 t1 t2 t3 = some o) : HNR g o := by
  unfold sX0_takeBackTaking_77 at e
  replace e := cl_s e
  obtain ⟨r_1, _, e⟩ := e
  replace e := cl_s e
  obtain ⟨o_2, eo_2, e⟩ := e
  have ko_2 : HNR g o_2.2 := hr0_X3_occupied k eo_2
  replace e := cl_s e
  obtain ⟨o_3, eo_3, e⟩ := e
  have ko_3 : HNR g o_3.2 := hr0_X10_origins ko_2 eo_3
  exact hr0_X0_takeBackTaking_92 F ko_3 e
theorem hr0_X0_takeBackTaking {g : Hp} {F : Nat} {o : Hp} {x0 : Nat} {x1 : Int32} {x2 : Int32} {x3 : Int32} {h : Hp} (k : HNR g h) (e : sX0_takeBackTaking F h x0 x1 x2 x3 = some o) : HNR g o := by
  unfold sX0_takeBackTaking at e
  replace e := cl_s e
  obtain ⟨r_1, _, e⟩ := e
  replace e := cl_s e
  obtain ⟨o_2, eo_2, e⟩ := e
  have ko_2 : HNR g o_2 := hr0_X0_gatherRow k eo_2
  replace e := cl_s e
  obtain ⟨o_3, eo_3, e⟩ := e
  have ko_3 : HNR g o_3.2 := hr0_X0_keyOfRow ko_2 eo_3
  replace e := cl_s e
  obtain ⟨o_4, eo_4, e⟩ := e
  have ko_4 : HNR g o_4.2 := hr0_X0_with ko_3 eo_4
  replace e := cl_s e
  obtain ⟨o_5, eo_5, e⟩ := e
  have ko_5 : HNR g o_5.2 := hr0_X0_findSet ko_4 eo_5
  replace e := br_s e
  rcases e with ⟨_, e⟩ | ⟨_, e⟩
  · rw [← Option.some.inj e]; exact ko_5
  · replace e := cl_s e
    obtain ⟨r_7, _, e⟩ := e
    replace e := (gd_s e).2
    replace e := nm_s e
    obtain ⟨v_9, wv_9, e⟩ := e
    replace e := cl_s e
    obtain ⟨o_10, eo_10, e⟩ := e
    have ko_10 : HNR g o_10.2 := hr0_X0_numberOf ko_5 eo_10
    replace e := cl_s e
    obtain ⟨o_11, eo_11, e⟩ := e
    have ko_11 : HNR g o_11.2 := hr0_X0_weightOf ko_10 eo_11
    replace e := cl_s e
    obtain ⟨r_12, _, e⟩ := e
    replace e := br_s e
    rcases e with ⟨_, e⟩ | ⟨_, e⟩
    · exact hr0_X0_takeBackTaking_77 ko_11 e
    · exact hr0_X0_takeBackTaking_77 ko_11 e
theorem hr0_J13_bitCount_95d88 {g : Hp} {o : Int32 × Hp} {x0 : Int64} {h : Hp} (k : HNR g h) (e : sJ13_bitCount_95d88 h x0 = some o) : HNR g o.2 := by
  unfold sJ13_bitCount_95d88 at e
  replace e := nm_s e
  obtain ⟨v_1, wv_1, e⟩ := e
  replace e := nm_s e
  obtain ⟨v_2, wv_2, e⟩ := e
  replace e := nm_s e
  obtain ⟨v_3, wv_3, e⟩ := e
  replace e := nm_s e
  obtain ⟨v_4, wv_4, e⟩ := e
  replace e := nm_s e
  obtain ⟨v_5, wv_5, e⟩ := e
  replace e := nm_s e
  obtain ⟨v_6, wv_6, e⟩ := e
  rw [← Option.some.inj e]; exact k
theorem hr0_X0_takeBack_67 {g : Hp} {F : Nat} {o : Hp} {x0 : Nat} {x1 : Int32} {x2 : Int32} {x3 : Int32} {k_30 : Hp → Nat → Int32 → Int32 → Int32 → Option (Hp)} (R_30 : ∀ {h : Hp} {y1 : Nat} {y2 : Int32} {y3 : Int32} {y4 : Int32}, HNR g h → k_30 h y1 y2 y3 y4 = some o → HNR g o) {h : Hp} (k : HNR g h) (e : sX0_takeBack_67 F k_30 h x0 x1 x2 x3 = some o) : HNR g o := by
  unfold sX0_takeBack_67 at e
  replace e := nm_s e
  obtain ⟨v_1, wv_1, e⟩ := e
  exact R_30 k e
theorem hr0_X0_takeBack_30 {g : Hp} {F : Nat} {o : Hp} : ∀ (f : Nat) {h : Hp} {x0 : Nat} {x1 : Int32} {x2 : Int32} {x3 : Int32}, HNR g h → sX0_takeBack_30 F f h x0 x1 x2 x3 = some o → HNR g o := by
  intro f
  induction f with
  | zero => intro h x0 x1 x2 x3 _ e; exact absurd e (by rw [sX0_takeBack_30]; exact fun z => nomatch z)
  | succ f ih =>
    intro h x0 x1 x2 x3 k e
    rw [sX0_takeBack_30] at e
    replace e := cl_s e
    obtain ⟨r_1, _, e⟩ := e
    replace e := br_s e
    rcases e with ⟨_, e⟩ | ⟨_, e⟩
    · rw [← Option.some.inj e]; exact k
    · replace e := cl_s e
      obtain ⟨r_3, _, e⟩ := e
      replace e := br_s e
      rcases e with ⟨_, e⟩ | ⟨_, e⟩
      · exact hr0_X0_takeBack_67 (fun k e => ih k e) k e
      · replace e := cl_s e
        obtain ⟨o_5, eo_5, e⟩ := e
        have ko_5 : HNR g o_5 := hr0_X0_takeBackTaking k eo_5
        exact hr0_X0_takeBack_67 (fun k e => ih k e) ko_5 e
theorem hr0_X0_takeBack {g : Hp} {F : Nat} {o : Hp} {x0 : Nat} {x1 : Int32} {x2 : Int32} {h : Hp} (k : HNR g h) (e : sX0_takeBack F h x0 x1 x2 = some o) : HNR g o := by
  unfold sX0_takeBack at e
  replace e := cl_s e
  obtain ⟨o_1, eo_1, e⟩ := e
  have ko_1 : HNR g o_1 := hr0_X0_takeBackTaking k eo_1
  replace e := cl_s e
  obtain ⟨r_2, _, e⟩ := e
  replace e := cl_s e
  obtain ⟨o_3, eo_3, e⟩ := e
  have ko_3 : HNR g o_3.2 := hr0_X3_occupied ko_1 eo_3
  replace e := cl_s e
  obtain ⟨o_4, eo_4, e⟩ := e
  have ko_4 : HNR g o_4.2 := hr0_J13_bitCount_95d88 ko_3 eo_4
  replace e := cl_s e
  obtain ⟨o_5, eo_5, e⟩ := e
  have ko_5 : HNR g o_5.2 := hr0_X0_sizeOf ko_4 eo_5
  replace e := br_s e
  rcases e with ⟨_, e⟩ | ⟨_, e⟩
  · exact hr0_X0_takeBack_30 F ko_5 e
  · rw [← Option.some.inj e]; exact ko_5
theorem hr0_X0_goBack_151 {g : Hp} {F : Nat} {o : Hp} {x0 : Nat} {x2 : Int32} {x3 : Int64} {x5 : Int32} {k_44 : Hp → Nat → Int32 → Int64 → Int32 → Option (Hp)} (R_44 : ∀ {h : Hp} {y1 : Nat} {y2 : Int32} {y3 : Int64} {y4 : Int32}, HNR g h → k_44 h y1 y2 y3 y4 = some o → HNR g o) {h : Hp} (k : HNR g h) (e : sX0_goBack_151 F k_44 h x0 x2 x3 x5 = some o) : HNR g o := by
  unfold sX0_goBack_151 at e
  replace e := nm_s e
  obtain ⟨v_1, wv_1, e⟩ := e
  exact R_44 k e
theorem hr0_X1_becomesThis_2 {g : Hp} {F : Nat} {o : Int32 × Hp} : ∀ (f : Nat) {h : Hp} {x0 : Nat} {x1 : Int32} {x2 : Int32} {x3 : Int32}, HNR g h → sX1_becomesThis_2 F f h x0 x1 x2 x3 = some o → HNR g o.2 := by
  intro f
  induction f with
  | zero => intro h x0 x1 x2 x3 _ e; exact absurd e (by rw [sX1_becomesThis_2]; exact fun z => nomatch z)
  | succ f ih =>
    intro h x0 x1 x2 x3 k e
    rw [sX1_becomesThis_2] at e
    replace e := cl_s e
    obtain ⟨r_1, _, e⟩ := e
    replace e := (gd_s e).2
    replace e := br_s e
    rcases e with ⟨_, e⟩ | ⟨_, e⟩
    · rw [← Option.some.inj e]; exact k
    · replace e := cl_s e
      obtain ⟨r_4, _, e⟩ := e
      replace e := (gd_s e).2
      replace e := br_s e
      rcases e with ⟨_, e⟩ | ⟨_, e⟩
      · rw [← Option.some.inj e]; exact k
      · replace e := nm_s e
        obtain ⟨v_7, wv_7, e⟩ := e
        exact ih k e
theorem hr0_X1_becomesThis {g : Hp} {F : Nat} {o : Int32 × Hp} {x0 : Nat} {x1 : Int32} {x2 : Int32} {h : Hp} (k : HNR g h) (e : sX1_becomesThis F h x0 x1 x2 = some o) : HNR g o.2 := by
  unfold sX1_becomesThis at e
  exact hr0_X1_becomesThis_2 F k e
theorem hr0_X0_goBack_145 {g : Hp} {F : Nat} {o : Hp} {x0 : Nat} {x2 : Int32} {x3 : Int64} {x5 : Int32} {x6 : Int32} {x7 : Int32} {x8 : Int32} {k_44 : Hp → Nat → Int32 → Int64 → Int32 → Option (Hp)} (R_44 : ∀ {h : Hp} {y1 : Nat} {y2 : Int32} {y3 : Int64} {y4 : Int32}, HNR g h → k_44 h y1 y2 y3 y4 = some o → HNR g o) {k_92 : Hp → Nat → Int32 → Int64 → Int32 → Int32 → Int32 → Int32 → Option (Hp)} (R_92 : ∀ {h : Hp} {y1 : Nat} {y2 : Int32} {y3 : Int64} {y4 : Int32} {y5 : Int32} {y6 : Int32} {y7 : Int32}, HNR g h → k_92 h y1 y2 y3 y4 y5 y6 y7 = some o → HNR g o) {h : Hp} (k : HNR g h) (e : sX0_goBack_145 F k_44 k_92 h x0 x2 x3 x5 x6 x7 x8 = some o) : HNR g o := by
  unfold sX0_goBack_145 at e
  replace e := nm_s e
  obtain ⟨v_1, wv_1, e⟩ := e
  exact R_92 k e
theorem hr0_X0_goBack_92 {g : Hp} {F : Nat} {o : Hp} {k_44 : Hp → Nat → Int32 → Int64 → Int32 → Option (Hp)} (R_44 : ∀ {h : Hp} {y1 : Nat} {y2 : Int32} {y3 : Int64} {y4 : Int32}, HNR g h → k_44 h y1 y2 y3 y4 = some o → HNR g o) : ∀ (f : Nat) {h : Hp} {x0 : Nat} {x2 : Int32} {x3 : Int64} {x5 : Int32} {x6 : Int32} {x7 : Int32} {x8 : Int32}, HNR g h → sX0_goBack_92 F k_44 f h x0 x2 x3 x5 x6 x7 x8 = some o → HNR g o := by
  intro f
  induction f with
  | zero => intro h x0 x2 x3 x5 x6 x7 x8 _ e; exact absurd e (by rw [sX0_goBack_92]; exact fun z => nomatch z)
  | succ f ih =>
    intro h x0 x2 x3 x5 x6 x7 x8 k e
    rw [sX0_goBack_92] at e
    replace e := cl_s e
    obtain ⟨r_1, _, e⟩ := e
    replace e := br_s e
    rcases e with ⟨_, e⟩ | ⟨_, e⟩
    · exact hr0_X0_goBack_151 R_44 k e
    · replace e := cl_s e
      obtain ⟨r_3, _, e⟩ := e
      replace e := cl_s e
      obtain ⟨o_4, eo_4, e⟩ := e
      have ko_4 : HNR g o_4.2 := hr0_X1_isLast k eo_4
      replace e := br_s e
      rcases e with ⟨_, e⟩ | ⟨_, e⟩
      · exact hr0_X0_goBack_151 R_44 ko_4 e
      · replace e := cl_s e
        obtain ⟨r_6, _, e⟩ := e
        replace e := cl_s e
        obtain ⟨o_7, eo_7, e⟩ := e
        have ko_7 : HNR g o_7.2 := hr0_X1_becomesThis ko_4 eo_7
        replace e := br_s e
        rcases e with ⟨_, e⟩ | ⟨_, e⟩
        · exact hr0_X0_goBack_145 R_44 (fun k e => ih k e) ko_7 e
        · replace e := cl_s e
          obtain ⟨o_9, eo_9, e⟩ := e
          have ko_9 : HNR g o_9 := hr0_X0_takeBack ko_7 eo_9
          exact hr0_X0_goBack_145 R_44 (fun k e => ih k e) ko_9 e
theorem hr0_X0_goBack_44 {g : Hp} {F : Nat} {o : Hp} : ∀ (f : Nat) {h : Hp} {x0 : Nat} {x2 : Int32} {x3 : Int64} {x5 : Int32}, HNR g h → sX0_goBack_44 F f h x0 x2 x3 x5 = some o → HNR g o := by
  intro f
  induction f with
  | zero => intro h x0 x2 x3 x5 _ e; exact absurd e (by rw [sX0_goBack_44]; exact fun z => nomatch z)
  | succ f ih =>
    intro h x0 x2 x3 x5 k e
    rw [sX0_goBack_44] at e
    replace e := br_s e
    rcases e with ⟨_, e⟩ | ⟨_, e⟩
    · exact hr0_X0_goBack_157 k e
    · replace e := br_s e
      rcases e with ⟨_, e⟩ | ⟨_, e⟩
      · exact hr0_X0_goBack_157 k e
      · replace e := cl_s e
        obtain ⟨o_3, eo_3, e⟩ := e
        have ko_3 : HNR g o_3.2 := hr0_X11_lowest k eo_3
        replace e := nm_s e
        obtain ⟨v_4, wv_4, e⟩ := e
        replace e := cl_s e
        obtain ⟨r_5, _, e⟩ := e
        replace e := cl_s e
        obtain ⟨r_6, _, e⟩ := e
        replace e := (gd_s e).2
        replace e := nm_s e
        obtain ⟨v_8, wv_8, e⟩ := e
        replace e := cl_s e
        obtain ⟨o_9, eo_9, e⟩ := e
        have ko_9 : HNR g o_9 := hr0_X0_takeBack ko_3 eo_9
        exact hr0_X0_goBack_92 (fun k e => ih k e) F ko_9 e
theorem hr0_X0_goBack_31 {g : Hp} {F : Nat} {o : Hp} {x0 : Nat} {x2 : Int32} {h : Hp} (k : HNR g h) (e : sX0_goBack_31 F h x0 x2 = some o) : HNR g o := by
  unfold sX0_goBack_31 at e
  replace e := cl_s e
  obtain ⟨r_1, _, e⟩ := e
  replace e := cl_s e
  obtain ⟨r_2, _, e⟩ := e
  replace e := (gd_s e).2
  replace e := nm_s e
  obtain ⟨v_4, wv_4, e⟩ := e
  exact hr0_X0_goBack_44 F k e
theorem hr0_X0_goBack {g : Hp} {F : Nat} {o : Hp} {x0 : Nat} {x1 : Int32} {h : Hp} (k : HNR g h) (e : sX0_goBack F h x0 x1 = some o) : HNR g o := by
  unfold sX0_goBack at e
  replace e := nm_s e
  obtain ⟨v_1, wv_1, e⟩ := e
  replace e := cl_s e
  obtain ⟨r_2, _, e⟩ := e
  replace e := cl_s e
  obtain ⟨o_3, eo_3, e⟩ := e
  have ko_3 : HNR g o_3.2 := hr0_X1_has k eo_3
  replace e := br_s e
  rcases e with ⟨_, e⟩ | ⟨_, e⟩
  · exact hr0_X0_goBack_31 ko_3 e
  · replace e := cl_s e
    obtain ⟨r_5, _, e⟩ := e
    replace e := cl_s e
    obtain ⟨r_6, _, e⟩ := e
    replace e := cl_s e
    obtain ⟨o_7, eo_7, e⟩ := e
    have ko_7 : HNR g o_7.2 := hr0_X5_isRoyalHit ko_3 eo_7
    replace e := br_s e
    rcases e with ⟨_, e⟩ | ⟨_, e⟩
    · exact hr0_X0_goBack_31 ko_7 e
    · rw [← Option.some.inj e]; exact ko_7
theorem hr0_X0_countAll_105 {g : Hp} {F : Nat} {o : Hp} {k_2 : Hp → Nat → Int32 → Option (Hp)} (R_2 : ∀ {h : Hp} {y1 : Nat} {y2 : Int32}, HNR g h → k_2 h y1 y2 = some o → HNR g o) {k_30 : Hp → Nat → Int32 → Int32 → Int32 → Option (Hp)} (R_30 : ∀ {h : Hp} {y1 : Nat} {y2 : Int32} {y3 : Int32} {y4 : Int32}, HNR g h → k_30 h y1 y2 y3 y4 = some o → HNR g o) : ∀ (f : Nat) {h : Hp} {x0 : Nat} {x1 : Int32} {x2 : Int32} {x3 : Int32} {x4 : Int32} {x6 : Int32}, HNR g h → sX0_countAll_105 F k_2 k_30 f h x0 x1 x2 x3 x4 x6 = some o → HNR g o := by
  intro f
  induction f with
  | zero => intro h x0 x1 x2 x3 x4 x6 _ e; exact absurd e (by rw [sX0_countAll_105]; exact fun z => nomatch z)
  | succ f ih =>
    intro h x0 x1 x2 x3 x4 x6 k e
    rw [sX0_countAll_105] at e
    replace e := br_s e
    rcases e with ⟨_, e⟩ | ⟨_, e⟩
    · exact hr0_X0_countAll_138 R_2 R_30 k e
    · replace e := cl_s e
      obtain ⟨r_2, _, e⟩ := e
      replace e := (gd_s e).2
      replace e := br_s e
      rcases e with ⟨_, e⟩ | ⟨_, e⟩
      · exact hr0_X0_countAll_132 R_2 R_30 (fun k e => ih k e) k e
      · replace e := cl_s e
        obtain ⟨o_5, eo_5, e⟩ := e
        have ko_5 : HNR g o_5 := hr0_X0_goBack k eo_5
        exact hr0_X0_countAll_132 R_2 R_30 (fun k e => ih k e) ko_5 e
theorem hr0_X0_countAll_78 {g : Hp} {F : Nat} {o : Hp} {x0 : Nat} {x1 : Int32} {x2 : Int32} {x3 : Int32} {x4 : Int32} {t0 : Int32} {k_2 : Hp → Nat → Int32 → Option (Hp)} (R_2 : ∀ {h : Hp} {y1 : Nat} {y2 : Int32}, HNR g h → k_2 h y1 y2 = some o → HNR g o) {k_30 : Hp → Nat → Int32 → Int32 → Int32 → Option (Hp)} (R_30 : ∀ {h : Hp} {y1 : Nat} {y2 : Int32} {y3 : Int32} {y4 : Int32}, HNR g h → k_30 h y1 y2 y3 y4 = some o → HNR g o) {h : Hp} (k : HNR g h) (e : sX0_countAll_78 F k_2 k_30 h x0 x1 x2 x3 x4 t0 = some o) : HNR g o := by
  unfold sX0_countAll_78 at e
  replace e := br_s e
  rcases e with ⟨_, e⟩ | ⟨_, e⟩
  · exact hr0_X0_countAll_138 R_2 R_30 k e
  · replace e := cl_s e
    obtain ⟨r_2, _, e⟩ := e
    replace e := (gd_s e).2
    replace e := cl_s e
    obtain ⟨o_4, eo_4, e⟩ := e
    have ko_4 : HNR g o_4.2 := hr0_X0_layOut k eo_4
    replace e := br_s e
    rcases e with ⟨_, e⟩ | ⟨_, e⟩
    · exact hr0_X0_countAll_138 R_2 R_30 ko_4 e
    · exact hr0_X0_countAll_105 R_2 R_30 F ko_4 e
theorem hr0_X0_countAll_73 {g : Hp} {F : Nat} {o : Hp} {x0 : Nat} {x1 : Int32} {x2 : Int32} {x3 : Int32} {x4 : Int32} {k_2 : Hp → Nat → Int32 → Option (Hp)} (R_2 : ∀ {h : Hp} {y1 : Nat} {y2 : Int32}, HNR g h → k_2 h y1 y2 = some o → HNR g o) {k_30 : Hp → Nat → Int32 → Int32 → Int32 → Option (Hp)} (R_30 : ∀ {h : Hp} {y1 : Nat} {y2 : Int32} {y3 : Int32} {y4 : Int32}, HNR g h → k_30 h y1 y2 y3 y4 = some o → HNR g o) {h : Hp} (k : HNR g h) (e : sX0_countAll_73 F k_2 k_30 h x0 x1 x2 x3 x4 = some o) : HNR g o := by
  unfold sX0_countAll_73 at e
  exact hr0_X0_countAll_78 R_2 R_30 k e
theorem hr0_X0_countAll_30 {g : Hp} {F : Nat} {o : Hp} {k_2 : Hp → Nat → Int32 → Option (Hp)} (R_2 : ∀ {h : Hp} {y1 : Nat} {y2 : Int32}, HNR g h → k_2 h y1 y2 = some o → HNR g o) : ∀ (f : Nat) {h : Hp} {x0 : Nat} {x1 : Int32} {x2 : Int32} {x3 : Int32}, HNR g h → sX0_countAll_30 F k_2 f h x0 x1 x2 x3 = some o → HNR g o := by
  intro f
  induction f with
  | zero => intro h x0 x1 x2 x3 _ e; exact absurd e (by rw [sX0_countAll_30]; exact fun z => nomatch z)
  | succ f ih =>
    intro h x0 x1 x2 x3 k e
    rw [sX0_countAll_30] at e
    replace e := br_s e
    rcases e with ⟨_, e⟩ | ⟨_, e⟩
    · replace e := nm_s e
      obtain ⟨v_2, wv_2, e⟩ := e
      exact R_2 k e
    · replace e := cl_s e
      obtain ⟨r_3, _, e⟩ := e
      replace e := (gd_s e).2
      replace e := nm_s e
      obtain ⟨v_5, wv_5, e⟩ := e
      replace e := cl_s e
      obtain ⟨r_6, _, e⟩ := e
      replace e := (gd_s e).2
      replace e := br_s e
      rcases e with ⟨_, e⟩ | ⟨_, e⟩
      · replace e := cl_s e
        obtain ⟨r_9, _, e⟩ := e
        replace e := (gd_s e).2
        replace e := br_s e
        rcases e with ⟨_, e⟩ | ⟨_, e⟩
        · exact hr0_X0_countAll_78 R_2 (fun k e => ih k e) k e
        · exact hr0_X0_countAll_73 R_2 (fun k e => ih k e) k e
      · exact hr0_X0_countAll_73 R_2 (fun k e => ih k e) k e
theorem hr0_X0_countAll_2 {g : Hp} {F : Nat} {o : Hp} : ∀ (f : Nat) {h : Hp} {x0 : Nat} {x1 : Int32}, HNR g h → sX0_countAll_2 F f h x0 x1 = some o → HNR g o := by
  intro f
  induction f with
  | zero => intro h x0 x1 _ e; exact absurd e (by rw [sX0_countAll_2]; exact fun z => nomatch z)
  | succ f ih =>
    intro h x0 x1 k e
    rw [sX0_countAll_2] at e
    replace e := br_s e
    rcases e with ⟨_, e⟩ | ⟨_, e⟩
    · rw [← Option.some.inj e]; exact k
    · replace e := cl_s e
      obtain ⟨r_2, _, e⟩ := e
      replace e := (gd_s e).2
      replace e := cl_s e
      obtain ⟨r_4, _, e⟩ := e
      replace e := (gd_s e).2
      replace e := nm_s e
      obtain ⟨v_6, wv_6, e⟩ := e
      exact hr0_X0_countAll_30 (fun k e => ih k e) F k e
theorem hr0_X0_countAll {g : Hp} {F : Nat} {o : Hp} {x0 : Nat} {h : Hp} (k : HNR g h) (e : sX0_countAll F h x0 = some o) : HNR g o := by
  unfold sX0_countAll at e
  exact hr0_X0_countAll_2 F k e
theorem hr0_X0_settleCount_52 {g : Hp} {o : Hp} {t0 : Int32} {t1 : Int32} {t2 : Nat} {h : Hp} (k : HNR g h) (e : sX0_settleCount_52 h t0 t1 t2 = some o) : HNR g o := by
  unfold sX0_settleCount_52 at e
  replace e := (gd_s e).2
  replace e := nm_s e
  obtain ⟨h_2, wh_2, e⟩ := e
  have kh_2 : HNR g h_2 := by rw [wh_2]; exact k
  rw [← Option.some.inj e]; exact kh_2
theorem hr0_X0_settleCount_49 {g : Hp} {o : Hp} {x2 : Int32} {x3 : Int32} {t0 : Int32} {t1 : Nat} {h : Hp} (k : HNR g h) (e : sX0_settleCount_49 h x2 x3 t0 t1 = some o) : HNR g o := by
  unfold sX0_settleCount_49 at e
  exact hr0_X0_settleCount_52 k e
theorem hr0_X0_settleCount {g : Hp} {o : Hp} {x0 : Nat} {x1 : Int32} {h : Hp} (k : HNR g h) (e : sX0_settleCount h x0 x1 = some o) : HNR g o := by
  unfold sX0_settleCount at e
  replace e := cl_s e
  obtain ⟨r_1, _, e⟩ := e
  replace e := (gd_s e).2
  replace e := nm_s e
  obtain ⟨v_3, wv_3, e⟩ := e
  replace e := cl_s e
  obtain ⟨r_4, _, e⟩ := e
  replace e := (gd_s e).2
  replace e := nm_s e
  obtain ⟨v_6, wv_6, e⟩ := e
  replace e := cl_s e
  obtain ⟨r_7, _, e⟩ := e
  replace e := cl_s e
  obtain ⟨r_8, _, e⟩ := e
  replace e := cl_s e
  obtain ⟨o_9, eo_9, e⟩ := e
  have ko_9 : HNR g o_9.2 := hr0_X1_has k eo_9
  replace e := br_s e
  rcases e with ⟨_, e⟩ | ⟨_, e⟩
  · exact hr0_X0_settleCount_49 ko_9 e
  · replace e := br_s e
    rcases e with ⟨_, e⟩ | ⟨_, e⟩
    · exact hr0_X0_settleCount_49 ko_9 e
    · exact hr0_X0_settleCount_52 ko_9 e
theorem hr0_X0_queueEnds_183 {g : Hp} {F : Nat} {o : Hp} {x0 : Nat} {x1 : Int32} {x2 : Int32} {k_2 : Hp → Nat → Int32 → Option (Hp)} (R_2 : ∀ {h : Hp} {y1 : Nat} {y2 : Int32}, HNR g h → k_2 h y1 y2 = some o → HNR g o) {k_17 : Hp → Nat → Int32 → Int32 → Option (Hp)} (R_17 : ∀ {h : Hp} {y1 : Nat} {y2 : Int32} {y3 : Int32}, HNR g h → k_17 h y1 y2 y3 = some o → HNR g o) {h : Hp} (k : HNR g h) (e : sX0_queueEnds_183 F k_2 k_17 h x0 x1 x2 = some o) : HNR g o := by
  unfold sX0_queueEnds_183 at e
  replace e := nm_s e
  obtain ⟨v_1, wv_1, e⟩ := e
  exact R_17 k e
theorem hr0_X0_queueEnds_178 {g : Hp} {F : Nat} {o : Hp} {x0 : Nat} {x1 : Int32} {x2 : Int32} {k_2 : Hp → Nat → Int32 → Option (Hp)} (R_2 : ∀ {h : Hp} {y1 : Nat} {y2 : Int32}, HNR g h → k_2 h y1 y2 = some o → HNR g o) {k_17 : Hp → Nat → Int32 → Int32 → Option (Hp)} (R_17 : ∀ {h : Hp} {y1 : Nat} {y2 : Int32} {y3 : Int32}, HNR g h → k_17 h y1 y2 y3 = some o → HNR g o) {h : Hp} (k : HNR g h) (e : sX0_queueEnds_178 F k_2 k_17 h x0 x1 x2 = some o) : HNR g o := by
  unfold sX0_queueEnds_178 at e
  replace e := cl_s e
  obtain ⟨o_1, eo_1, e⟩ := e
  have ko_1 : HNR g o_1 := hr0_X0_push k eo_1
  exact hr0_X0_queueEnds_183 R_2 R_17 ko_1 e
theorem hr0_X0_queueEnds_156 {g : Hp} {F : Nat} {o : Hp} {x0 : Nat} {x1 : Int32} {x2 : Int32} {k_2 : Hp → Nat → Int32 → Option (Hp)} (R_2 : ∀ {h : Hp} {y1 : Nat} {y2 : Int32}, HNR g h → k_2 h y1 y2 = some o → HNR g o) {k_17 : Hp → Nat → Int32 → Int32 → Option (Hp)} (R_17 : ∀ {h : Hp} {y1 : Nat} {y2 : Int32} {y3 : Int32}, HNR g h → k_17 h y1 y2 y3 = some o → HNR g o) {h : Hp} (k : HNR g h) (e : sX0_queueEnds_156 F k_2 k_17 h x0 x1 x2 = some o) : HNR g o := by
  unfold sX0_queueEnds_156 at e
  replace e := cl_s e
  obtain ⟨r_1, _, e⟩ := e
  replace e := (gd_s e).2
  replace e := br_s e
  rcases e with ⟨_, e⟩ | ⟨_, e⟩
  · exact hr0_X0_queueEnds_178 R_2 R_17 k e
  · replace e := cl_s e
    obtain ⟨r_4, _, e⟩ := e
    replace e := (gd_s e).2
    replace e := br_s e
    rcases e with ⟨_, e⟩ | ⟨_, e⟩
    · exact hr0_X0_queueEnds_178 R_2 R_17 k e
    · exact hr0_X0_queueEnds_183 R_2 R_17 k e
theorem hr0_X0_queueEnds_152 {g : Hp} {F : Nat} {o : Hp} {x0 : Nat} {x1 : Int32} {x2 : Int32} {t0 : Int32} {t1 : Nat} {t2 : Int32} {t3 : Nat} {k_2 : Hp → Nat → Int32 → Option (Hp)} (R_2 : ∀ {h : Hp} {y1 : Nat} {y2 : Int32}, HNR g h → k_2 h y1 y2 = some o → HNR g o) {k_17 : Hp → Nat → Int32 → Int32 → Option (Hp)} (R_17 : ∀ {h : Hp} {y1 : Nat} {y2 : Int32} {y3 : Int32}, HNR g h → k_17 h y1 y2 y3 = some o → HNR g o) {h : Hp} (k : HNR g h) (e : sX0_queueEnds_152 F k_2 k_17 h x0 x1 x2 t0 t1 t2 t3 = some o) : HNR g o := by
  unfold sX0_queueEnds_152 at e
  replace e := cl_s e
  obtain ⟨o_1, eo_1, e⟩ := e
  have ko_1 : HNR g o_1.2 := hr0_X0_endWorth k eo_1
  replace e := (gd_s e).2
  replace e := nm_s e
  obtain ⟨h_3, wh_3, e⟩ := e
  have kh_3 : HNR g h_3 := by rw [wh_3]; exact ko_1
  exact hr0_X0_queueEnds_156 R_2 R_17 kh_3 e
theorem hr0_X0_queueEnds_74 {g : Hp} {F : Nat} {o : Hp} {x0 : Nat} {x1 : Int32} {x2 : Int32} {t0 : Int32} {k_2 : Hp → Nat → Int32 → Option (Hp)} (R_2 : ∀ {h : Hp} {y1 : Nat} {y2 : Int32}, HNR g h → k_2 h y1 y2 = some o → HNR g o) {k_17 : Hp → Nat → Int32 → Int32 → Option (Hp)} (R_17 : ∀ {h : Hp} {y1 : Nat} {y2 : Int32} {y3 : Int32}, HNR g h → k_17 h y1 y2 y3 = some o → HNR g o) {h : Hp} (k : HNR g h) (e : sX0_queueEnds_74 F k_2 k_17 h x0 x1 x2 t0 = some o) : HNR g o := by
  unfold sX0_queueEnds_74 at e
  replace e := br_s e
  rcases e with ⟨_, e⟩ | ⟨_, e⟩
  · exact hr0_X0_queueEnds_156 R_2 R_17 k e
  · replace e := cl_s e
    obtain ⟨r_2, _, e⟩ := e
    replace e := (gd_s e).2
    replace e := cl_s e
    obtain ⟨r_4, _, e⟩ := e
    replace e := (gd_s e).2
    replace e := cl_s e
    obtain ⟨o_6, eo_6, e⟩ := e
    have ko_6 : HNR g o_6.2 := hr0_X0_layOut k eo_6
    replace e := br_s e
    rcases e with ⟨_, e⟩ | ⟨_, e⟩
    · exact hr0_X0_queueEnds_156 R_2 R_17 ko_6 e
    · replace e := cl_s e
      obtain ⟨r_8, _, e⟩ := e
      replace e := cl_s e
      obtain ⟨r_9, _, e⟩ := e
      replace e := (gd_s e).2
      replace e := nm_s e
      obtain ⟨h_11, wh_11, e⟩ := e
      have kh_11 : HNR g h_11 := by rw [wh_11]; exact ko_6
      replace e := cl_s e
      obtain ⟨r_12, _, e⟩ := e
      replace e := cl_s e
      obtain ⟨r_13, _, e⟩ := e
      replace e := cl_s e
      obtain ⟨r_14, _, e⟩ := e
      replace e := cl_s e
      obtain ⟨r_15, _, e⟩ := e
      replace e := cl_s e
      obtain ⟨o_16, eo_16, e⟩ := e
      have ko_16 : HNR g o_16.2 := hr0_X5_isRoyalHit kh_11 eo_16
      replace e := br_s e
      rcases e with ⟨_, e⟩ | ⟨_, e⟩
      · exact hr0_X0_queueEnds_152 R_2 R_17 ko_16 e
      · exact hr0_X0_queueEnds_152 R_2 R_17 ko_16 e
theorem hr0_X0_queueEnds_73 {g : Hp} {F : Nat} {o : Hp} {x0 : Nat} {x1 : Int32} {x2 : Int32} {k_2 : Hp → Nat → Int32 → Option (Hp)} (R_2 : ∀ {h : Hp} {y1 : Nat} {y2 : Int32}, HNR g h → k_2 h y1 y2 = some o → HNR g o) {k_17 : Hp → Nat → Int32 → Int32 → Option (Hp)} (R_17 : ∀ {h : Hp} {y1 : Nat} {y2 : Int32} {y3 : Int32}, HNR g h → k_17 h y1 y2 y3 = some o → HNR g o) {h : Hp} (k : HNR g h) (e : sX0_queueEnds_73 F k_2 k_17 h x0 x1 x2 = some o) : HNR g o := by
  unfold sX0_queueEnds_73 at e
  exact hr0_X0_queueEnds_74 R_2 R_17 k e
theorem hr0_X0_queueEnds_45 {g : Hp} {F : Nat} {o : Hp} {x0 : Nat} {x1 : Int32} {x2 : Int32} {k_2 : Hp → Nat → Int32 → Option (Hp)} (R_2 : ∀ {h : Hp} {y1 : Nat} {y2 : Int32}, HNR g h → k_2 h y1 y2 = some o → HNR g o) {k_17 : Hp → Nat → Int32 → Int32 → Option (Hp)} (R_17 : ∀ {h : Hp} {y1 : Nat} {y2 : Int32} {y3 : Int32}, HNR g h → k_17 h y1 y2 y3 = some o → HNR g o) {h : Hp} (k : HNR g h) (e : sX0_queueEnds_45 F k_2 k_17 h x0 x1 x2 = some o) : HNR g o := by
  unfold sX0_queueEnds_45 at e
  replace e := cl_s e
  obtain ⟨r_1, _, e⟩ := e
  replace e := (gd_s e).2
  replace e := br_s e
  rcases e with ⟨_, e⟩ | ⟨_, e⟩
  · replace e := cl_s e
    obtain ⟨r_4, _, e⟩ := e
    replace e := (gd_s e).2
    replace e := br_s e
    rcases e with ⟨_, e⟩ | ⟨_, e⟩
    · exact hr0_X0_queueEnds_74 R_2 R_17 k e
    · exact hr0_X0_queueEnds_73 R_2 R_17 k e
  · exact hr0_X0_queueEnds_73 R_2 R_17 k e
theorem hr0_X0_queueEnds_17 {g : Hp} {F : Nat} {o : Hp} {k_2 : Hp → Nat → Int32 → Option (Hp)} (R_2 : ∀ {h : Hp} {y1 : Nat} {y2 : Int32}, HNR g h → k_2 h y1 y2 = some o → HNR g o) : ∀ (f : Nat) {h : Hp} {x0 : Nat} {x1 : Int32} {x2 : Int32}, HNR g h → sX0_queueEnds_17 F k_2 f h x0 x1 x2 = some o → HNR g o := by
  intro f
  induction f with
  | zero => intro h x0 x1 x2 _ e; exact absurd e (by rw [sX0_queueEnds_17]; exact fun z => nomatch z)
  | succ f ih =>
    intro h x0 x1 x2 k e
    rw [sX0_queueEnds_17] at e
    replace e := cl_s e
    obtain ⟨r_1, _, e⟩ := e
    replace e := (gd_s e).2
    replace e := br_s e
    rcases e with ⟨_, e⟩ | ⟨_, e⟩
    · replace e := nm_s e
      obtain ⟨v_4, wv_4, e⟩ := e
      exact R_2 k e
    · replace e := cl_s e
      obtain ⟨r_5, _, e⟩ := e
      replace e := (gd_s e).2
      replace e := br_s e
      rcases e with ⟨_, e⟩ | ⟨_, e⟩
      · replace e := cl_s e
        obtain ⟨o_8, eo_8, e⟩ := e
        have ko_8 : HNR g o_8 := hr0_X0_settleCount k eo_8
        exact hr0_X0_queueEnds_45 R_2 (fun k e => ih k e) ko_8 e
      · exact hr0_X0_queueEnds_45 R_2 (fun k e => ih k e) k e
theorem hr0_X0_queueEnds_2 {g : Hp} {F : Nat} {o : Hp} : ∀ (f : Nat) {h : Hp} {x0 : Nat} {x1 : Int32}, HNR g h → sX0_queueEnds_2 F f h x0 x1 = some o → HNR g o := by
  intro f
  induction f with
  | zero => intro h x0 x1 _ e; exact absurd e (by rw [sX0_queueEnds_2]; exact fun z => nomatch z)
  | succ f ih =>
    intro h x0 x1 k e
    rw [sX0_queueEnds_2] at e
    replace e := br_s e
    rcases e with ⟨_, e⟩ | ⟨_, e⟩
    · rw [← Option.some.inj e]; exact k
    · replace e := cl_s e
      obtain ⟨r_2, _, e⟩ := e
      replace e := (gd_s e).2
      replace e := nm_s e
      obtain ⟨v_4, wv_4, e⟩ := e
      exact hr0_X0_queueEnds_17 (fun k e => ih k e) F k e
theorem hr0_X0_queueEnds {g : Hp} {F : Nat} {o : Hp} {x0 : Nat} {h : Hp} (k : HNR g h) (e : sX0_queueEnds F h x0 = some o) : HNR g o := by
  unfold sX0_queueEnds at e
  exact hr0_X0_queueEnds_2 F k e
theorem hr0_X0_nodeOfAll_18 {g : Hp} {F : Nat} {o : Int32 × Hp} {h : Hp} (k : HNR g h) (e : sX0_nodeOfAll_18 F h = some o) : HNR g o.2 := by
  unfold sX0_nodeOfAll_18 at e
  rw [← Option.some.inj e]; exact k
theorem hr0_X0_nodeOfAll_64 {g : Hp} {F : Nat} {o : Int32 × Hp} {t0 : Int32} {h : Hp} (k : HNR g h) (e : sX0_nodeOfAll_64 F h t0 = some o) : HNR g o.2 := by
  unfold sX0_nodeOfAll_64 at e
  rw [← Option.some.inj e]; exact k
theorem hr0_X0_nodeOfAll {g : Hp} {F : Nat} {o : Int32 × Hp} {x0 : Nat} {x1 : Nat} {h : Hp} (k : HNR g h) (e : sX0_nodeOfAll F h x0 x1 = some o) : HNR g o.2 := by
  unfold sX0_nodeOfAll at e
  replace e := br_s e
  rcases e with ⟨_, e⟩ | ⟨_, e⟩
  · exact hr0_X0_nodeOfAll_18 k e
  · replace e := cl_s e
    obtain ⟨o_2, eo_2, e⟩ := e
    have ko_2 : HNR g o_2.2 := hr0_X3_occupied k eo_2
    replace e := cl_s e
    obtain ⟨o_3, eo_3, e⟩ := e
    have ko_3 : HNR g o_3.2 := hr0_J13_bitCount_95d88 ko_2 eo_3
    replace e := br_s e
    rcases e with ⟨_, e⟩ | ⟨_, e⟩
    · replace e := cl_s e
      obtain ⟨o_5, eo_5, e⟩ := e
      have ko_5 : HNR g o_5 := hr0_X0_gatherRow ko_3 eo_5
      replace e := cl_s e
      obtain ⟨o_6, eo_6, e⟩ := e
      have ko_6 : HNR g o_6.2 := hr0_X0_keyOfRow ko_5 eo_6
      replace e := cl_s e
      obtain ⟨o_7, eo_7, e⟩ := e
      have ko_7 : HNR g o_7.2 := hr0_X0_findSet ko_6 eo_7
      replace e := br_s e
      rcases e with ⟨_, e⟩ | ⟨_, e⟩
      · exact hr0_X0_nodeOfAll_64 ko_7 e
      · replace e := cl_s e
        obtain ⟨r_9, _, e⟩ := e
        replace e := (gd_s e).2
        replace e := cl_s e
        obtain ⟨o_11, eo_11, e⟩ := e
        have ko_11 : HNR g o_11.2 := hr0_X0_numberOf ko_7 eo_11
        exact hr0_X0_nodeOfAll_64 ko_11 e
    · exact hr0_X0_nodeOfAll_18 ko_3 e
