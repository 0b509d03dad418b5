/-! what stands where stays so: printed -/
theorem dk_X11_listMoves {n : Nat} {g : Hp} {F : Nat} {o : Int32 × Hp} {x1 : Int32} {h : Hp} (k : DyK n g h) (e : sX11_listMoves F h n x1 = some o) : DyK n g o.2 := by
  unfold sX11_listMoves at e
  replace e := cl_s e
  obtain ⟨o_1, eo_1, e⟩ := e
  have ko_1 : DyK n g o_1.2 := dk_X11_isPlace k eo_1
  replace e := br_s e
  rcases e with ⟨_, e⟩ | ⟨_, e⟩
  · exact dk_X11_listMoves_32 ko_1 e
  · replace e := cl_s e
    obtain ⟨r_3, er_3, e⟩ := e
    have yr_3 := dk_ed (a := 0) (b := 30) ko_1 (by decide +kernel) er_3
    subst yr_3
    replace e := cl_s e
    obtain ⟨r_4, _, e⟩ := e
    replace e := (gd_s e).2
    replace e := cl_s e
    obtain ⟨r_6, _, e⟩ := e
    replace e := cl_s e
    obtain ⟨r_7, _, e⟩ := e
    replace e := cl_s e
    obtain ⟨o_8, eo_8, e⟩ := e
    have ko_8 : DyK n g o_8.2 := dk_X5_collect ko_1 eo_8
    exact dk_X11_listMoves_32 ko_8 e
theorem dk_X11_moves {n : Nat} {g : Hp} {F : Nat} {o : Int32 × Hp} {x1 : Int32} {h : Hp} (k : DyK n g h) (e : sX11_moves F h n x1 = some o) : DyK n g o.2 := by
  unfold sX11_moves at e
  replace e := cl_s e
  obtain ⟨o_1, eo_1, e⟩ := e
  have ko_1 : DyK n g o_1.2 := dk_X11_isPlace k eo_1
  replace e := br_s e
  rcases e with ⟨_, e⟩ | ⟨_, e⟩
  · exact dk_X11_moves_18 ko_1 e
  · replace e := cl_s e
    obtain ⟨o_3, eo_3, e⟩ := e
    have ko_3 : DyK n g o_3.2 := dk_X11_listMoves ko_1 eo_3
    exact dk_X11_moves_18 ko_3 e
theorem dk_X11_move_9 {n : Nat} {g : Hp} {F : Nat} {o : Int32 × Hp} {h : Hp} (k : DyK n g h) (e : sX11_move_9 F h = some o) : DyK n g o.2 := by
  unfold sX11_move_9 at e
  rw [← Option.some.inj e]; exact k
theorem dk_X11_move_25 {n : Nat} {g : Hp} {F : Nat} {o : Int32 × Hp} {h : Hp} (k : DyK n g h) (e : sX11_move_25 F h = some o) : DyK n g o.2 := by
  unfold sX11_move_25 at e
  rw [← Option.some.inj e]; exact k
theorem dk_X11_move_90 {n : Nat} {g : Hp} {F : Nat} {o : Int32 × Hp} {t0 : Int32} {h : Hp} (k : DyK n g h) (e : sX11_move_90 F h t0 = some o) : DyK n g o.2 := by
  unfold sX11_move_90 at e
  rw [← Option.some.inj e]; exact k
theorem dk_X11_move {n : Nat} {g : Hp} {F : Nat} {o : Int32 × Hp} {x1 : Int32} {x2 : Int32} {x3 : Int32} {h : Hp} (k : DyK n g h) (e : sX11_move F h n x1 x2 x3 = some o) : DyK n g o.2 := by
  unfold sX11_move at e
  replace e := br_s e
  rcases e with ⟨_, e⟩ | ⟨_, e⟩
  · exact dk_X11_move_9 k e
  · replace e := br_s e
    rcases e with ⟨_, e⟩ | ⟨_, e⟩
    · replace e := br_s e
      rcases e with ⟨_, e⟩ | ⟨_, e⟩
      · exact dk_X11_move_25 k e
      · replace e := cl_s e
        obtain ⟨o_4, eo_4, e⟩ := e
        have ko_4 : DyK n g o_4.2 := dk_X11_listMoves k eo_4
        replace e := br_s e
        rcases e with ⟨_, e⟩ | ⟨_, e⟩
        · replace e := cl_s e
          obtain ⟨r_6, _, e⟩ := e
          replace e := (gd_s e).2
          replace e := nm_s e
          obtain ⟨v_8, wv_8, e⟩ := e
          replace e := br_s e
          rcases e with ⟨_, e⟩ | ⟨_, e⟩
          · replace e := cl_s e
            obtain ⟨o_9, eo_9, e⟩ := e
            have ko_9 : DyK n g o_9.2 := dk_X5_kindOf ko_4 eo_9
            replace e := br_s e
            rcases e with ⟨_, e⟩ | ⟨_, e⟩
            · exact dk_X11_move_90 ko_9 e
            · replace e := cl_s e
              obtain ⟨o_11, eo_11, e⟩ := e
              have ko_11 : DyK n g o_11.2 := dk_X5_leftBy ko_9 eo_11
              exact dk_X11_move_90 ko_11 e
          · replace e := br_s e
            rcases e with ⟨_, e⟩ | ⟨_, e⟩
            · replace e := cl_s e
              obtain ⟨o_13, eo_13, e⟩ := e
              have ko_13 : DyK n g o_13.2 := dk_X5_comeTo ko_4 eo_13
              rw [← Option.some.inj e]; exact ko_13
            · replace e := br_s e
              rcases e with ⟨_, e⟩ | ⟨_, e⟩
              · replace e := cl_s e
                obtain ⟨o_15, eo_15, e⟩ := e
                have ko_15 : DyK n g o_15.2 := dk_X5_manOf ko_4 eo_15
                rw [← Option.some.inj e]; exact ko_15
              · replace e := br_s e
                rcases e with ⟨_, e⟩ | ⟨_, e⟩
                · replace e := cl_s e
                  obtain ⟨o_17, eo_17, e⟩ := e
                  have ko_17 : DyK n g o_17.2 := dk_X5_becomes ko_4 eo_17
                  rw [← Option.some.inj e]; exact ko_17
                · replace e := br_s e
                  rcases e with ⟨_, e⟩ | ⟨_, e⟩
                  · replace e := cl_s e
                    obtain ⟨o_19, eo_19, e⟩ := e
                    have ko_19 : DyK n g o_19.2 := dk_X5_takenBy ko_4 eo_19
                    rw [← Option.some.inj e]; exact ko_19
                  · replace e := cl_s e
                    obtain ⟨o_21, eo_21, e⟩ := e
                    have ko_21 : DyK n g o_21.2 := dk_X5_kindOf ko_4 eo_21
                    rw [← Option.some.inj e]; exact ko_21
        · exact dk_X11_move_25 ko_4 e
    · exact dk_X11_move_9 k e
theorem dk_X11_go_13 {n : Nat} {g : Hp} {F : Nat} {o : Int32 × Hp} {h : Hp} (k : DyK n g h) (e : sX11_go_13 F h = some o) : DyK n g o.2 := by
  unfold sX11_go_13 at e
  rw [← Option.some.inj e]; exact k
theorem dk_X11_settle {n : Nat} {g : Hp} {F : Nat} {o : Hp} {x0 : Nat} {x1 : Int32} {x2 : Nat} {h : Hp} (k : DyK n g h) (e : sX11_settle F h x0 x1 x2 = some o) : DyK n g o := by
  unfold sX11_settle at e
  replace e := cl_s e
  obtain ⟨r_1, _, e⟩ := e
  replace e := (gd_s e).2
  replace e := nm_s e
  obtain ⟨h_3, wh_3, e⟩ := e
  have kh_3 : DyK n g h_3 := by rw [wh_3]; exact dk_wI k
  replace e := cl_s e
  obtain ⟨r_4, _, e⟩ := e
  replace e := (gd_s e).2
  replace e := cl_s e
  obtain ⟨r_6, _, e⟩ := e
  replace e := cl_s e
  obtain ⟨o_7, eo_7, e⟩ := e
  have ko_7 : DyK n g o_7 := dk_X3_copyFrom kh_3 eo_7
  rw [← Option.some.inj e]; exact ko_7
theorem dk_X3_clearPass {n : Nat} {g : Hp} {o : Hp} {x0 : Nat} {h : Hp} (k : DyK n g h) (e : sX3_clearPass h x0 = some o) : DyK n g o := by
  unfold sX3_clearPass at e
  replace e := nm_s e
  obtain ⟨h_1, wh_1, e⟩ := e
  have kh_1 : DyK n g h_1 := by rw [wh_1]; exact dk_wJ k
  replace e := nm_s e
  obtain ⟨h_2, wh_2, e⟩ := e
  have kh_2 : DyK n g h_2 := by rw [wh_2]; exact dk_wJ kh_1
  rw [← Option.some.inj e]; exact kh_2
theorem dk_X5_passedBy {n : Nat} {g : Hp} {o : Int32 × Hp} {x0 : Int32} {h : Hp} (k : DyK n g h) (e : sX5_passedBy h x0 = some o) : DyK n g o.2 := by
  unfold sX5_passedBy at e
  rw [← Option.some.inj e]; exact k
theorem dk_X5_notePass_31 {n : Nat} {g : Hp} {F : Nat} {o : Hp} {h : Hp} (k : DyK n g h) (e : sX5_notePass_31 F h = some o) : DyK n g o := by
  unfold sX5_notePass_31 at e
  rw [← Option.some.inj e]; exact k
theorem dk_X5_notePass_56 {n : Nat} {g : Hp} {F : Nat} {o : Hp} : ∀ (f : Nat) {h : Hp} {x1 : Nat} {x3 : Int32} {x5 : Int32} {x6 : Int32} {x7 : Int32}, DyK n g h → sX5_notePass_56 F f h x1 x3 x5 x6 x7 = some o → DyK n g o := by
  intro f
  induction f with
  | zero => intro h x1 x3 x5 x6 x7 _ e; exact absurd e (by rw [sX5_notePass_56]; exact fun z => nomatch z)
  | succ f ih =>
    intro h x1 x3 x5 x6 x7 k e
    rw [sX5_notePass_56] at e
    replace e := br_s e
    rcases e with ⟨_, e⟩ | ⟨_, e⟩
    · rw [← Option.some.inj e]; exact k
    · replace e := cl_s e
      obtain ⟨o_2, eo_2, e⟩ := e
      have ko_2 : DyK n g o_2 := dk_X3_addPass k eo_2
      replace e := nm_s e
      obtain ⟨v_3, wv_3, e⟩ := e
      exact ih ko_2 e
theorem dk_X5_notePass {n : Nat} {g : Hp} {F : Nat} {o : Hp} {x0 : Nat} {x1 : Nat} {x2 : Int32} {h : Hp} (k : DyK n g h) (e : sX5_notePass F h x0 x1 x2 = some o) : DyK n g o := by
  unfold sX5_notePass at e
  replace e := cl_s e
  obtain ⟨o_1, eo_1, e⟩ := e
  have ko_1 : DyK n g o_1 := dk_X3_clearPass k eo_1
  replace e := cl_s e
  obtain ⟨o_2, eo_2, e⟩ := e
  have ko_2 : DyK n g o_2.2 := dk_X5_passedBy ko_1 eo_2
  replace e := cl_s e
  obtain ⟨o_3, eo_3, e⟩ := e
  have ko_3 : DyK n g o_3.2 := dk_X5_comeTo ko_2 eo_3
  replace e := br_s e
  rcases e with ⟨_, e⟩ | ⟨_, e⟩
  · exact dk_X5_notePass_31 ko_3 e
  · replace e := cl_s e
    obtain ⟨r_5, _, e⟩ := e
    replace e := (gd_s e).2
    replace e := br_s e
    rcases e with ⟨_, e⟩ | ⟨_, e⟩
    · exact dk_X5_notePass_31 ko_3 e
    · replace e := cl_s e
      obtain ⟨o_8, eo_8, e⟩ := e
      have ko_8 : DyK n g o_8.2 := dk_X5_leftBy ko_3 eo_8
      replace e := (gd_s e).2
      replace e := nm_s e
      obtain ⟨v_10, wv_10, e⟩ := e
      replace e := cl_s e
      obtain ⟨o_11, eo_11, e⟩ := e
      have ko_11 : DyK n g o_11 := dk_X3_addPass ko_8 eo_11
      exact dk_X5_notePass_56 F ko_11 e
theorem dk_X5_make_267 {n : Nat} {g : Hp} {F : Nat} {o : Hp} {h : Hp} (k : DyK n g h) (e : sX5_make_267 F h = some o) : DyK n g o := by
  unfold sX5_make_267 at e
  rw [← Option.some.inj e]; exact k
theorem dk_X5_make_216 {n : Nat} {g : Hp} {F : Nat} {o : Hp} {x0 : Nat} {x1 : Nat} {x3 : Int32} {t0 : Int32} {t1 : Nat} {h : Hp} (k : DyK n g h) (e : sX5_make_216 F h x0 x1 x3 t0 t1 = some o) : DyK n g o := by
  unfold sX5_make_216 at e
  replace e := nm_s e
  obtain ⟨h_1, wh_1, e⟩ := e
  have kh_1 : DyK n g h_1 := by rw [wh_1]; exact dk_wI k
  replace e := nm_s e
  obtain ⟨h_2, wh_2, e⟩ := e
  have kh_2 : DyK n g h_2 := by rw [wh_2]; exact dk_wI kh_1
  replace e := cl_s e
  obtain ⟨r_3, _, e⟩ := e
  replace e := br_s e
  rcases e with ⟨_, e⟩ | ⟨_, e⟩
  · exact dk_X5_make_267 kh_2 e
  · replace e := cl_s e
    obtain ⟨o_5, eo_5, e⟩ := e
    have ko_5 : DyK n g o_5.2 := dk_X5_isRoyalHit kh_2 eo_5
    replace e := br_s e
    rcases e with ⟨_, e⟩ | ⟨_, e⟩
    · exact dk_X5_make_267 ko_5 e
    · replace e := cl_s e
      obtain ⟨r_7, _, e⟩ := e
      replace e := cl_s e
      obtain ⟨r_8, _, e⟩ := e
      replace e := (gd_s e).2
      replace e := (gd_s e).2
      replace e := nm_s e
      obtain ⟨h_11, wh_11, e⟩ := e
      have kh_11 : DyK n g h_11 := by rw [wh_11]; exact dk_wI ko_5
      exact dk_X5_make_267 kh_11 e
theorem dk_X5_make_192 {n : Nat} {g : Hp} {F : Nat} {o : Hp} {x0 : Nat} {x1 : Nat} {x3 : Int32} {t0 : Int32} {h : Hp} (k : DyK n g h) (e : sX5_make_192 F h x0 x1 x3 t0 = some o) : DyK n g o := by
  unfold sX5_make_192 at e
  replace e := br_s e
  rcases e with ⟨_, e⟩ | ⟨_, e⟩
  · exact dk_X5_make_216 k e
  · exact dk_X5_make_216 k e
theorem dk_X5_make_187 {n : Nat} {g : Hp} {F : Nat} {o : Hp} {x0 : Nat} {x1 : Nat} {x3 : Int32} {h : Hp} (k : DyK n g h) (e : sX5_make_187 F h x0 x1 x3 = some o) : DyK n g o := by
  unfold sX5_make_187 at e
  exact dk_X5_make_192 k e
theorem dk_X5_make_191 {n : Nat} {g : Hp} {F : Nat} {o : Hp} {x0 : Nat} {x1 : Nat} {x3 : Int32} {h : Hp} (k : DyK n g h) (e : sX5_make_191 F h x0 x1 x3 = some o) : DyK n g o := by
  unfold sX5_make_191 at e
  exact dk_X5_make_192 k e
theorem dk_X5_make_151 {n : Nat} {g : Hp} {F : Nat} {o : Hp} {x0 : Nat} {x1 : Nat} {x2 : Int32} {x3 : Int32} {x4 : Int32} {x5 : Int32} {x6 : Int32} {h : Hp} (k : DyK n g h) (e : sX5_make_151 F h x0 x1 x2 x3 x4 x5 x6 = some o) : DyK n g o := by
  unfold sX5_make_151 at e
  replace e := cl_s e
  obtain ⟨o_1, eo_1, e⟩ := e
  have ko_1 : DyK n g o_1 := dk_X5_notePass k eo_1
  replace e := br_s e
  rcases e with ⟨_, e⟩ | ⟨_, e⟩
  · replace e := br_s e
    rcases e with ⟨_, e⟩ | ⟨_, e⟩
    · exact dk_X5_make_187 ko_1 e
    · replace e := br_s e
      rcases e with ⟨_, e⟩ | ⟨_, e⟩
      · exact dk_X5_make_191 ko_1 e
      · replace e := cl_s e
        obtain ⟨r_5, _, e⟩ := e
        replace e := cl_s e
        obtain ⟨o_6, eo_6, e⟩ := e
        have ko_6 : DyK n g o_6.2 := dk_X1_becomesOthers ko_1 eo_6
        replace e := br_s e
        rcases e with ⟨_, e⟩ | ⟨_, e⟩
        · exact dk_X5_make_191 ko_6 e
        · exact dk_X5_make_187 ko_6 e
  · exact dk_X5_make_187 ko_1 e
theorem dk_X5_make_102 {n : Nat} {g : Hp} {F : Nat} {o : Hp} {x0 : Nat} {x1 : Nat} {x2 : Int32} {x3 : Int32} {x4 : Int32} {x5 : Int32} {x6 : Int32} {h : Hp} (k : DyK n g h) (e : sX5_make_102 F h x0 x1 x2 x3 x4 x5 x6 = some o) : DyK n g o := by
  unfold sX5_make_102 at e
  replace e := cl_s e
  obtain ⟨r_1, _, e⟩ := e
  replace e := cl_s e
  obtain ⟨o_2, eo_2, e⟩ := e
  have ko_2 : DyK n g o_2.2 := dk_X1_has k eo_2
  replace e := br_s e
  rcases e with ⟨_, e⟩ | ⟨_, e⟩
  · exact dk_X5_make_151 ko_2 e
  · replace e := br_s e
    rcases e with ⟨_, e⟩ | ⟨_, e⟩
    · exact dk_X5_make_151 ko_2 e
    · replace e := cl_s e
      obtain ⟨r_5, _, e⟩ := e
      replace e := br_s e
      rcases e with ⟨_, e⟩ | ⟨_, e⟩
      · exact dk_X5_make_151 ko_2 e
      · replace e := cl_s e
        obtain ⟨o_7, eo_7, e⟩ := e
        have ko_7 : DyK n g o_7.2 := dk_X3_inHand ko_2 eo_7
        replace e := br_s e
        rcases e with ⟨_, e⟩ | ⟨_, e⟩
        · exact dk_X5_make_151 ko_7 e
        · replace e := cl_s e
          obtain ⟨o_9, eo_9, e⟩ := e
          have ko_9 : DyK n g o_9 := dk_X3_addToHand ko_7 eo_9
          exact dk_X5_make_151 ko_9 e
theorem dk_X5_make_54 {n : Nat} {g : Hp} {F : Nat} {o : Hp} {x0 : Nat} {x1 : Nat} {x2 : Int32} {x3 : Int32} {x4 : Int32} {x5 : Int32} {x6 : Int32} {h : Hp} (k : DyK n g h) (e : sX5_make_54 F h x0 x1 x2 x3 x4 x5 x6 = some o) : DyK n g o := by
  unfold sX5_make_54 at e
  replace e := nm_s e
  obtain ⟨h_1, wh_1, e⟩ := e
  have kh_1 : DyK n g h_1 := by rw [wh_1]; exact dk_wJ k
  replace e := cl_s e
  obtain ⟨o_2, eo_2, e⟩ := e
  have ko_2 : DyK n g o_2 := dk_X5_shift kh_1 eo_2
  replace e := cl_s e
  obtain ⟨o_3, eo_3, e⟩ := e
  have ko_3 : DyK n g o_3 := dk_X5_blast ko_2 eo_3
  replace e := nm_s e
  obtain ⟨h_4, wh_4, e⟩ := e
  have kh_4 : DyK n g h_4 := by rw [wh_4]; exact dk_wJ ko_3
  replace e := br_s e
  rcases e with ⟨_, e⟩ | ⟨_, e⟩
  · replace e := cl_s e
    obtain ⟨o_6, eo_6, e⟩ := e
    have ko_6 : DyK n g o_6 := dk_X3_addToHand kh_4 eo_6
    exact dk_X5_make_102 ko_6 e
  · exact dk_X5_make_102 kh_4 e
theorem dk_X5_make {n : Nat} {g : Hp} {F : Nat} {o : Hp} {x0 : Nat} {x1 : Nat} {x2 : Int32} {h : Hp} (k : DyK n g h) (e : sX5_make F h x0 x1 x2 = some o) : DyK n g o := by
  unfold sX5_make at e
  replace e := nm_s e
  obtain ⟨v_1, wv_1, e⟩ := e
  replace e := cl_s e
  obtain ⟨o_2, eo_2, e⟩ := e
  have ko_2 : DyK n g o_2.2 := dk_X5_manOf k eo_2
  replace e := cl_s e
  obtain ⟨o_3, eo_3, e⟩ := e
  have ko_3 : DyK n g o_3.2 := dk_X5_kindOf ko_2 eo_3
  replace e := cl_s e
  obtain ⟨o_4, eo_4, e⟩ := e
  have ko_4 : DyK n g o_4.2 := dk_X5_takenBy ko_3 eo_4
  replace e := cl_s e
  obtain ⟨r_5, _, e⟩ := e
  replace e := br_s e
  rcases e with ⟨_, e⟩ | ⟨_, e⟩
  · replace e := cl_s e
    obtain ⟨r_7, _, e⟩ := e
    replace e := (gd_s e).2
    replace e := nm_s e
    obtain ⟨h_9, wh_9, e⟩ := e
    have kh_9 : DyK n g h_9 := by rw [wh_9]; exact dk_wJ ko_4
    exact dk_X5_make_54 kh_9 e
  · exact dk_X5_make_54 ko_4 e
theorem dk_X11_go {n : Nat} {g : Hp} {F : Nat} {o : Int32 × Hp} {x1 : Int32} {x2 : Int32} {h : Hp} (k : DyK n g h) (e : sX11_go F h n x1 x2 = some o) : DyK n g o.2 := by
  unfold sX11_go at e
  replace e := br_s e
  rcases e with ⟨_, e⟩ | ⟨_, e⟩
  · exact dk_X11_go_13 k e
  · replace e := cl_s e
    obtain ⟨o_2, eo_2, e⟩ := e
    have ko_2 : DyK n g o_2.2 := dk_X11_listMoves k eo_2
    replace e := br_s e
    rcases e with ⟨_, e⟩ | ⟨_, e⟩
    · replace e := cl_s e
      obtain ⟨o_4, eo_4, e⟩ := e
      have ko_4 : DyK n g o_4.2 := dk_X11_freePlace ko_2 eo_4
      replace e := br_s e
      rcases e with ⟨_, e⟩ | ⟨_, e⟩
      · rw [← Option.some.inj e]; exact ko_4
      · replace e := cl_s e
        obtain ⟨r_6, _, e⟩ := e
        replace e := (gd_s e).2
        replace e := cl_s e
        obtain ⟨r_8, _, e⟩ := e
        replace e := cl_s e
        obtain ⟨o_9, eo_9, e⟩ := e
        have ko_9 : DyK n g o_9 := dk_X11_settle ko_4 eo_9
        replace e := cl_s e
        obtain ⟨r_10, _, e⟩ := e
        replace e := cl_s e
        obtain ⟨r_11, _, e⟩ := e
        replace e := (gd_s e).2
        replace e := cl_s e
        obtain ⟨r_13, _, e⟩ := e
        replace e := cl_s e
        obtain ⟨r_14, _, e⟩ := e
        replace e := (gd_s e).2
        replace e := cl_s e
        obtain ⟨o_16, eo_16, e⟩ := e
        have ko_16 : DyK n g o_16 := dk_X5_make ko_9 eo_16
        rw [← Option.some.inj e]; exact ko_16
    · exact dk_X11_go_13 ko_2 e
theorem dk_X11_rows_10 {n : Nat} {g : Hp} {F : Nat} {o : Int32 × Hp} {h : Hp} (k : DyK n g h) (e : sX11_rows_10 F h = some o) : DyK n g o.2 := by
  unfold sX11_rows_10 at e
  rw [← Option.some.inj e]; exact k
theorem dk_X4_set_44 {n : Nat} {g : Hp} {F : Nat} {o : Hp} {x0 : Nat} {x1 : Nat} {t0 : Int32} {t1 : Nat} {h : Hp} (k : DyK n g h) (e : sX4_set_44 F h x0 x1 t0 t1 = some o) : DyK n g o := by
  unfold sX4_set_44 at e
  replace e := nm_s e
  obtain ⟨h_1, wh_1, e⟩ := e
  have kh_1 : DyK n g h_1 := by rw [wh_1]; exact dk_wI k
  replace e := nm_s e
  obtain ⟨h_2, wh_2, e⟩ := e
  have kh_2 : DyK n g h_2 := by rw [wh_2]; exact dk_wI kh_1
  replace e := cl_s e
  obtain ⟨r_3, _, e⟩ := e
  replace e := cl_s e
  obtain ⟨o_4, eo_4, e⟩ := e
  have ko_4 : DyK n g o_4 := dk_J7_fill_53178 kh_2 eo_4
  replace e := cl_s e
  obtain ⟨r_5, _, e⟩ := e
  replace e := (gd_s e).2
  replace e := cl_s e
  obtain ⟨r_7, _, e⟩ := e
  replace e := cl_s e
  obtain ⟨o_8, eo_8, e⟩ := e
  have ko_8 : DyK n g o_8 := dk_X3_copyFrom ko_4 eo_8
  rw [← Option.some.inj e]; exact ko_8
theorem dk_X4_set {n : Nat} {g : Hp} {F : Nat} {o : Hp} {x0 : Nat} {x1 : Nat} {x2 : Int32} {x3 : Int32} {x4 : Int32} {h : Hp} (k : DyK n g h) (e : sX4_set F h x0 x1 x2 x3 x4 = some o) : DyK n g o := by
  unfold sX4_set at e
  replace e := nm_s e
  obtain ⟨h_1, wh_1, e⟩ := e
  have kh_1 : DyK n g h_1 := by rw [wh_1]; exact dk_wI k
  replace e := nm_s e
  obtain ⟨h_2, wh_2, e⟩ := e
  have kh_2 : DyK n g h_2 := by rw [wh_2]; exact dk_wI kh_1
  replace e := br_s e
  rcases e with ⟨_, e⟩ | ⟨_, e⟩
  · exact dk_X4_set_44 kh_2 e
  · replace e := br_s e
    rcases e with ⟨_, e⟩ | ⟨_, e⟩
    · exact dk_X4_set_44 kh_2 e
    · exact dk_X4_set_44 kh_2 e
theorem dk_X4_setRows {n : Nat} {g : Hp} {F : Nat} {o : Hp} {x0 : Nat} {x1 : Nat} {x2 : Int32} {h : Hp} (k : DyK n g h) (e : sX4_setRows F h x0 x1 x2 = some o) : DyK n g o := by
  unfold sX4_setRows at e
  replace e := cl_s e
  obtain ⟨o_1, eo_1, e⟩ := e
  have ko_1 : DyK n g o_1 := dk_X4_set k eo_1
  replace e := nm_s e
  obtain ⟨h_2, wh_2, e⟩ := e
  have kh_2 : DyK n g h_2 := by rw [wh_2]; exact dk_wI ko_1
  rw [← Option.some.inj e]; exact kh_2
theorem dk_X4_attempt_136 {n : Nat} {g : Hp} {F : Nat} {o : Int32 × Hp} {t0 : Int32} {r_X4_attempt : Hp → Nat → Int32 → Int32 → Option (Int32 × Hp)} (R_X4_attempt : ∀ {h : Hp} {y2 : Int32} {y3 : Int32} {o : Int32 × Hp}, DyK n g h → r_X4_attempt h (n + 76) y2 y3 = some o → DyK n g o.2) {r_X4_reply : Hp → Nat → Int32 → Option (Int32 × Hp)} (R_X4_reply : ∀ {h : Hp} {y2 : Int32} {o : Int32 × Hp}, DyK n g h → r_X4_reply h (n + 76) y2 = some o → DyK n g o.2) {r_X4_goOn : Hp → Nat → Int32 → Option (Int32 × Hp)} (R_X4_goOn : ∀ {h : Hp} {y2 : Int32} {o : Int32 × Hp}, DyK n g h → r_X4_goOn h (n + 76) y2 = some o → DyK n g o.2) {r_X4_branch : Hp → Nat → Int32 → Int32 → Option (Int32 × Hp)} (R_X4_branch : ∀ {h : Hp} {y2 : Int32} {y3 : Int32} {o : Int32 × Hp}, DyK n g h → r_X4_branch h (n + 76) y2 y3 = some o → DyK n g o.2) {r_X4_tree : Hp → Nat → Int32 → Option (Int32 × Hp)} (R_X4_tree : ∀ {h : Hp} {y2 : Int32} {o : Int32 × Hp}, DyK n g h → r_X4_tree h (n + 76) y2 = some o → DyK n g o.2) {h : Hp} (k : DyK n g h) (e : sX4_attempt_136 F r_X4_attempt r_X4_reply r_X4_goOn r_X4_branch r_X4_tree h t0 = some o) : DyK n g o.2 := by
  unfold sX4_attempt_136 at e
  rw [← Option.some.inj e]; exact k
theorem dk_X4_attempt_124 {n : Nat} {g : Hp} {F : Nat} {o : Int32 × Hp} {t0 : Int32} {r_X4_attempt : Hp → Nat → Int32 → Int32 → Option (Int32 × Hp)} (R_X4_attempt : ∀ {h : Hp} {y2 : Int32} {y3 : Int32} {o : Int32 × Hp}, DyK n g h → r_X4_attempt h (n + 76) y2 y3 = some o → DyK n g o.2) {r_X4_reply : Hp → Nat → Int32 → Option (Int32 × Hp)} (R_X4_reply : ∀ {h : Hp} {y2 : Int32} {o : Int32 × Hp}, DyK n g h → r_X4_reply h (n + 76) y2 = some o → DyK n g o.2) {r_X4_goOn : Hp → Nat → Int32 → Option (Int32 × Hp)} (R_X4_goOn : ∀ {h : Hp} {y2 : Int32} {o : Int32 × Hp}, DyK n g h → r_X4_goOn h (n + 76) y2 = some o → DyK n g o.2) {r_X4_branch : Hp → Nat → Int32 → Int32 → Option (Int32 × Hp)} (R_X4_branch : ∀ {h : Hp} {y2 : Int32} {y3 : Int32} {o : Int32 × Hp}, DyK n g h → r_X4_branch h (n + 76) y2 y3 = some o → DyK n g o.2) {r_X4_tree : Hp → Nat → Int32 → Option (Int32 × Hp)} (R_X4_tree : ∀ {h : Hp} {y2 : Int32} {o : Int32 × Hp}, DyK n g h → r_X4_tree h (n + 76) y2 = some o → DyK n g o.2) {h : Hp} (k : DyK n g h) (e : sX4_attempt_124 F r_X4_attempt r_X4_reply r_X4_goOn r_X4_branch r_X4_tree h t0 = some o) : DyK n g o.2 := by
  unfold sX4_attempt_124 at e
  replace e := br_s e
  rcases e with ⟨_, e⟩ | ⟨_, e⟩
  · exact dk_X4_attempt_136 R_X4_attempt R_X4_reply R_X4_goOn R_X4_branch R_X4_tree k e
  · exact dk_X4_attempt_136 R_X4_attempt R_X4_reply R_X4_goOn R_X4_branch R_X4_tree k e
theorem dk_X4_attempt_98 {n : Nat} {g : Hp} {F : Nat} {o : Int32 × Hp} {r_X4_attempt : Hp → Nat → Int32 → Int32 → Option (Int32 × Hp)} (R_X4_attempt : ∀ {h : Hp} {y2 : Int32} {y3 : Int32} {o : Int32 × Hp}, DyK n g h → r_X4_attempt h (n + 76) y2 y3 = some o → DyK n g o.2) {r_X4_reply : Hp → Nat → Int32 → Option (Int32 × Hp)} (R_X4_reply : ∀ {h : Hp} {y2 : Int32} {o : Int32 × Hp}, DyK n g h → r_X4_reply h (n + 76) y2 = some o → DyK n g o.2) {r_X4_goOn : Hp → Nat → Int32 → Option (Int32 × Hp)} (R_X4_goOn : ∀ {h : Hp} {y2 : Int32} {o : Int32 × Hp}, DyK n g h → r_X4_goOn h (n + 76) y2 = some o → DyK n g o.2) {r_X4_branch : Hp → Nat → Int32 → Int32 → Option (Int32 × Hp)} (R_X4_branch : ∀ {h : Hp} {y2 : Int32} {y3 : Int32} {o : Int32 × Hp}, DyK n g h → r_X4_branch h (n + 76) y2 y3 = some o → DyK n g o.2) {r_X4_tree : Hp → Nat → Int32 → Option (Int32 × Hp)} (R_X4_tree : ∀ {h : Hp} {y2 : Int32} {o : Int32 × Hp}, DyK n g h → r_X4_tree h (n + 76) y2 = some o → DyK n g o.2) {h : Hp} (k : DyK n g h) (e : sX4_attempt_98 F r_X4_attempt r_X4_reply r_X4_goOn r_X4_branch r_X4_tree h = some o) : DyK n g o.2 := by
  unfold sX4_attempt_98 at e
  exact dk_X4_attempt_124 R_X4_attempt R_X4_reply R_X4_goOn R_X4_branch R_X4_tree k e
theorem dk_X4_isGoal_47 {n : Nat} {g : Hp} {o : Int32 × Hp} {t0 : Int32} {h : Hp} (k : DyK n g h) (e : sX4_isGoal_47 h t0 = some o) : DyK n g o.2 := by
  unfold sX4_isGoal_47 at e
  replace e := (gd_s e).2
  rw [← Option.some.inj e]; exact k
theorem dk_X4_isGoal_64 {n : Nat} {g : Hp} {o : Int32 × Hp} {t0 : Int32} {h : Hp} (k : DyK n g h) (e : sX4_isGoal_64 h t0 = some o) : DyK n g o.2 := by
  unfold sX4_isGoal_64 at e
  replace e := (gd_s e).2
  rw [← Option.some.inj e]; exact k
theorem dk_X5_winnerOf_64 {n : Nat} {g : Hp} {o : Int32 × Hp} {t0 : Int32} {h : Hp} (k : DyK n g h) (e : sX5_winnerOf_64 h t0 = some o) : DyK n g o.2 := by
  unfold sX5_winnerOf_64 at e
  rw [← Option.some.inj e]; exact k
theorem dk_X5_winnerOf_81 {n : Nat} {g : Hp} {o : Int32 × Hp} {t0 : Int32} {h : Hp} (k : DyK n g h) (e : sX5_winnerOf_81 h t0 = some o) : DyK n g o.2 := by
  unfold sX5_winnerOf_81 at e
  rw [← Option.some.inj e]; exact k
theorem dk_X5_winnerOf_105 {n : Nat} {g : Hp} {o : Int32 × Hp} {t0 : Int32} {h : Hp} (k : DyK n g h) (e : sX5_winnerOf_105 h t0 = some o) : DyK n g o.2 := by
  unfold sX5_winnerOf_105 at e
  rw [← Option.some.inj e]; exact k
theorem dk_X5_winnerOf_143 {n : Nat} {g : Hp} {o : Int32 × Hp} {t0 : Int32} {h : Hp} (k : DyK n g h) (e : sX5_winnerOf_143 h t0 = some o) : DyK n g o.2 := by
  unfold sX5_winnerOf_143 at e
  rw [← Option.some.inj e]; exact k
theorem dk_X5_winnerOf_121 {n : Nat} {g : Hp} {o : Int32 × Hp} {x0 : Nat} {t0 : Int32} {h : Hp} (k : DyK n g h) (e : sX5_winnerOf_121 h x0 t0 = some o) : DyK n g o.2 := by
  unfold sX5_winnerOf_121 at e
  replace e := cl_s e
  obtain ⟨r_1, _, e⟩ := e
  replace e := br_s e
  rcases e with ⟨_, e⟩ | ⟨_, e⟩
  · exact dk_X5_winnerOf_143 k e
  · exact dk_X5_winnerOf_143 k e
theorem dk_X5_winnerOf_179 {n : Nat} {g : Hp} {o : Int32 × Hp} {t0 : Int32} {h : Hp} (k : DyK n g h) (e : sX5_winnerOf_179 h t0 = some o) : DyK n g o.2 := by
  unfold sX5_winnerOf_179 at e
  rw [← Option.some.inj e]; exact k
theorem dk_X5_winnerOf {n : Nat} {g : Hp} {o : Int32 × Hp} {x0 : Nat} {x1 : Nat} {x2 : Int32} {h : Hp} (k : DyK n g h) (e : sX5_winnerOf h x0 x1 x2 = some o) : DyK n g o.2 := by
  unfold sX5_winnerOf at e
  replace e := nm_s e
  obtain ⟨v_1, wv_1, e⟩ := e
  replace e := nm_s e
  obtain ⟨v_2, wv_2, e⟩ := e
  replace e := br_s e
  rcases e with ⟨_, e⟩ | ⟨_, e⟩
  · replace e := cl_s e
    obtain ⟨r_3, _, e⟩ := e
    replace e := (gd_s e).2
    replace e := br_s e
    rcases e with ⟨_, e⟩ | ⟨_, e⟩
    · exact dk_X5_winnerOf_64 k e
    · exact dk_X5_winnerOf_64 k e
  · replace e := br_s e
    rcases e with ⟨_, e⟩ | ⟨_, e⟩
    · replace e := cl_s e
      obtain ⟨o_7, eo_7, e⟩ := e
      have ko_7 : DyK n g o_7.2 := dk_X5_isOnHill k eo_7
      replace e := br_s e
      rcases e with ⟨_, e⟩ | ⟨_, e⟩
      · exact dk_X5_winnerOf_81 ko_7 e
      · exact dk_X5_winnerOf_81 ko_7 e
    · replace e := br_s e
      rcases e with ⟨_, e⟩ | ⟨_, e⟩
      · replace e := cl_s e
        obtain ⟨r_10, _, e⟩ := e
        replace e := (gd_s e).2
        replace e := cl_s e
        obtain ⟨r_12, _, e⟩ := e
        replace e := br_s e
        rcases e with ⟨_, e⟩ | ⟨_, e⟩
        · exact dk_X5_winnerOf_105 k e
        · exact dk_X5_winnerOf_105 k e
      · replace e := br_s e
        rcases e with ⟨_, e⟩ | ⟨_, e⟩
        · replace e := cl_s e
          obtain ⟨o_15, eo_15, e⟩ := e
          have ko_15 : DyK n g o_15.2 := dk_X5_isBare k eo_15
          replace e := br_s e
          rcases e with ⟨_, e⟩ | ⟨_, e⟩
          · exact dk_X5_winnerOf_121 ko_15 e
          · exact dk_X5_winnerOf_121 ko_15 e
        · replace e := br_s e
          rcases e with ⟨_, e⟩ | ⟨_, e⟩
          · rw [← Option.some.inj e]; exact k
          · replace e := br_s e
            rcases e with ⟨_, e⟩ | ⟨_, e⟩
            · replace e := cl_s e
              obtain ⟨r_19, _, e⟩ := e
              replace e := br_s e
              rcases e with ⟨_, e⟩ | ⟨_, e⟩
              · exact dk_X5_winnerOf_179 k e
              · replace e := cl_s e
                obtain ⟨r_21, _, e⟩ := e
                replace e := br_s e
                rcases e with ⟨_, e⟩ | ⟨_, e⟩
                · exact dk_X5_winnerOf_179 k e
                · exact dk_X5_winnerOf_179 k e
            · rw [← Option.some.inj e]; exact k
theorem dk_X4_isGoal_103 {n : Nat} {g : Hp} {o : Int32 × Hp} {t0 : Int32} {h : Hp} (k : DyK n g h) (e : sX4_isGoal_103 h t0 = some o) : DyK n g o.2 := by
  unfold sX4_isGoal_103 at e
  replace e := (gd_s e).2
  rw [← Option.some.inj e]; exact k
theorem dk_X4_isGoal {n : Nat} {g : Hp} {o : Int32 × Hp} {x0 : Nat} {x1 : Int32} {h : Hp} (k : DyK n g h) (e : sX4_isGoal h x0 x1 = some o) : DyK n g o.2 := by
  unfold sX4_isGoal at e
  replace e := br_s e
  rcases e with ⟨_, e⟩ | ⟨_, e⟩
  · replace e := cl_s e
    obtain ⟨r_1, _, e⟩ := e
    replace e := (gd_s e).2
    replace e := br_s e
    rcases e with ⟨_, e⟩ | ⟨_, e⟩
    · exact dk_X4_isGoal_47 k e
    · exact dk_X4_isGoal_47 k e
  · replace e := br_s e
    rcases e with ⟨_, e⟩ | ⟨_, e⟩
    · replace e := cl_s e
      obtain ⟨r_5, _, e⟩ := e
      replace e := (gd_s e).2
      replace e := br_s e
      rcases e with ⟨_, e⟩ | ⟨_, e⟩
      · exact dk_X4_isGoal_64 k e
      · exact dk_X4_isGoal_64 k e
    · replace e := cl_s e
      obtain ⟨r_9, _, e⟩ := e
      replace e := cl_s e
      obtain ⟨r_10, _, e⟩ := e
      replace e := (gd_s e).2
      replace e := cl_s e
      obtain ⟨r_12, _, e⟩ := e
      replace e := cl_s e
      obtain ⟨r_13, _, e⟩ := e
      replace e := (gd_s e).2
      replace e := cl_s e
      obtain ⟨o_15, eo_15, e⟩ := e
      have ko_15 : DyK n g o_15.2 := dk_X5_winnerOf k eo_15
      replace e := cl_s e
      obtain ⟨r_16, _, e⟩ := e
      replace e := (gd_s e).2
      replace e := cl_s e
      obtain ⟨r_18, _, e⟩ := e
      replace e := br_s e
      rcases e with ⟨_, e⟩ | ⟨_, e⟩
      · exact dk_X4_isGoal_103 ko_15 e
      · exact dk_X4_isGoal_103 ko_15 e
theorem dk_X4_attempt_123 {n : Nat} {g : Hp} {F : Nat} {o : Int32 × Hp} {r_X4_attempt : Hp → Nat → Int32 → Int32 → Option (Int32 × Hp)} (R_X4_attempt : ∀ {h : Hp} {y2 : Int32} {y3 : Int32} {o : Int32 × Hp}, DyK n g h → r_X4_attempt h (n + 76) y2 y3 = some o → DyK n g o.2) {r_X4_reply : Hp → Nat → Int32 → Option (Int32 × Hp)} (R_X4_reply : ∀ {h : Hp} {y2 : Int32} {o : Int32 × Hp}, DyK n g h → r_X4_reply h (n + 76) y2 = some o → DyK n g o.2) {r_X4_goOn : Hp → Nat → Int32 → Option (Int32 × Hp)} (R_X4_goOn : ∀ {h : Hp} {y2 : Int32} {o : Int32 × Hp}, DyK n g h → r_X4_goOn h (n + 76) y2 = some o → DyK n g o.2) {r_X4_branch : Hp → Nat → Int32 → Int32 → Option (Int32 × Hp)} (R_X4_branch : ∀ {h : Hp} {y2 : Int32} {y3 : Int32} {o : Int32 × Hp}, DyK n g h → r_X4_branch h (n + 76) y2 y3 = some o → DyK n g o.2) {r_X4_tree : Hp → Nat → Int32 → Option (Int32 × Hp)} (R_X4_tree : ∀ {h : Hp} {y2 : Int32} {o : Int32 × Hp}, DyK n g h → r_X4_tree h (n + 76) y2 = some o → DyK n g o.2) {h : Hp} (k : DyK n g h) (e : sX4_attempt_123 F r_X4_attempt r_X4_reply r_X4_goOn r_X4_branch r_X4_tree h = some o) : DyK n g o.2 := by
  unfold sX4_attempt_123 at e
  exact dk_X4_attempt_124 R_X4_attempt R_X4_reply R_X4_goOn R_X4_branch R_X4_tree k e
theorem dk_X4_attempt_74 {n : Nat} {g : Hp} {F : Nat} {o : Int32 × Hp} {x1 : Int32} {x3 : Int32} {x4 : Int32} {r_X4_attempt : Hp → Nat → Int32 → Int32 → Option (Int32 × Hp)} (R_X4_attempt : ∀ {h : Hp} {y2 : Int32} {y3 : Int32} {o : Int32 × Hp}, DyK n g h → r_X4_attempt h (n + 76) y2 y3 = some o → DyK n g o.2) {r_X4_reply : Hp → Nat → Int32 → Option (Int32 × Hp)} (R_X4_reply : ∀ {h : Hp} {y2 : Int32} {o : Int32 × Hp}, DyK n g h → r_X4_reply h (n + 76) y2 = some o → DyK n g o.2) {r_X4_goOn : Hp → Nat → Int32 → Option (Int32 × Hp)} (R_X4_goOn : ∀ {h : Hp} {y2 : Int32} {o : Int32 × Hp}, DyK n g h → r_X4_goOn h (n + 76) y2 = some o → DyK n g o.2) {r_X4_branch : Hp → Nat → Int32 → Int32 → Option (Int32 × Hp)} (R_X4_branch : ∀ {h : Hp} {y2 : Int32} {y3 : Int32} {o : Int32 × Hp}, DyK n g h → r_X4_branch h (n + 76) y2 y3 = some o → DyK n g o.2) {r_X4_tree : Hp → Nat → Int32 → Option (Int32 × Hp)} (R_X4_tree : ∀ {h : Hp} {y2 : Int32} {o : Int32 × Hp}, DyK n g h → r_X4_tree h (n + 76) y2 = some o → DyK n g o.2) {h : Hp} (k : DyK n g h) (e : sX4_attempt_74 F r_X4_attempt r_X4_reply r_X4_goOn r_X4_branch r_X4_tree h (n + 76) x1 x3 x4 = some o) : DyK n g o.2 := by
  unfold sX4_attempt_74 at e
  replace e := cl_s e
  obtain ⟨r_1, _, e⟩ := e
  replace e := (gd_s e).2
  replace e := br_s e
  rcases e with ⟨_, e⟩ | ⟨_, e⟩
  · replace e := br_s e
    rcases e with ⟨_, e⟩ | ⟨_, e⟩
    · exact dk_X4_attempt_98 R_X4_attempt R_X4_reply R_X4_goOn R_X4_branch R_X4_tree k e
    · replace e := br_s e
      rcases e with ⟨_, e⟩ | ⟨_, e⟩
      · exact dk_X4_attempt_124 R_X4_attempt R_X4_reply R_X4_goOn R_X4_branch R_X4_tree k e
      · exact dk_X4_attempt_98 R_X4_attempt R_X4_reply R_X4_goOn R_X4_branch R_X4_tree k e
  · replace e := br_s e
    rcases e with ⟨_, e⟩ | ⟨_, e⟩
    · replace e := cl_s e
      obtain ⟨o_5, eo_5, e⟩ := e
      have ko_5 : DyK n g o_5.2 := dk_X4_isGoal k eo_5
      replace e := br_s e
      rcases e with ⟨_, e⟩ | ⟨_, e⟩
      · exact dk_X4_attempt_123 R_X4_attempt R_X4_reply R_X4_goOn R_X4_branch R_X4_tree ko_5 e
      · exact dk_X4_attempt_124 R_X4_attempt R_X4_reply R_X4_goOn R_X4_branch R_X4_tree ko_5 e
    · exact dk_X4_attempt_123 R_X4_attempt R_X4_reply R_X4_goOn R_X4_branch R_X4_tree k e
theorem dk_X4_attempt_73 {n : Nat} {g : Hp} {F : Nat} {o : Int32 × Hp} {x1 : Int32} {x3 : Int32} {x4 : Int32} {t0 : Int32} {t1 : Int32} {t2 : Nat} {r_X4_attempt : Hp → Nat → Int32 → Int32 → Option (Int32 × Hp)} (R_X4_attempt : ∀ {h : Hp} {y2 : Int32} {y3 : Int32} {o : Int32 × Hp}, DyK n g h → r_X4_attempt h (n + 76) y2 y3 = some o → DyK n g o.2) {r_X4_reply : Hp → Nat → Int32 → Option (Int32 × Hp)} (R_X4_reply : ∀ {h : Hp} {y2 : Int32} {o : Int32 × Hp}, DyK n g h → r_X4_reply h (n + 76) y2 = some o → DyK n g o.2) {r_X4_goOn : Hp → Nat → Int32 → Option (Int32 × Hp)} (R_X4_goOn : ∀ {h : Hp} {y2 : Int32} {o : Int32 × Hp}, DyK n g h → r_X4_goOn h (n + 76) y2 = some o → DyK n g o.2) {r_X4_branch : Hp → Nat → Int32 → Int32 → Option (Int32 × Hp)} (R_X4_branch : ∀ {h : Hp} {y2 : Int32} {y3 : Int32} {o : Int32 × Hp}, DyK n g h → r_X4_branch h (n + 76) y2 y3 = some o → DyK n g o.2) {r_X4_tree : Hp → Nat → Int32 → Option (Int32 × Hp)} (R_X4_tree : ∀ {h : Hp} {y2 : Int32} {o : Int32 × Hp}, DyK n g h → r_X4_tree h (n + 76) y2 = some o → DyK n g o.2) {h : Hp} (k : DyK n g h) (e : sX4_attempt_73 F r_X4_attempt r_X4_reply r_X4_goOn r_X4_branch r_X4_tree h (n + 76) x1 x3 x4 t0 t1 t2 = some o) : DyK n g o.2 := by
  unfold sX4_attempt_73 at e
  replace e := (gd_s e).2
  replace e := nm_s e
  obtain ⟨h_2, wh_2, e⟩ := e
  have kh_2 : DyK n g h_2 := by rw [wh_2]; exact dk_wI k
  exact dk_X4_attempt_74 R_X4_attempt R_X4_reply R_X4_goOn R_X4_branch R_X4_tree kh_2 e
theorem dk_X4_attempt_31 {n : Nat} {g : Hp} {F : Nat} {o : Int32 × Hp} {x1 : Int32} {x2 : Int32} {x3 : Int32} {t0 : Int32} {r_X4_attempt : Hp → Nat → Int32 → Int32 → Option (Int32 × Hp)} (R_X4_attempt : ∀ {h : Hp} {y2 : Int32} {y3 : Int32} {o : Int32 × Hp}, DyK n g h → r_X4_attempt h (n + 76) y2 y3 = some o → DyK n g o.2) {r_X4_reply : Hp → Nat → Int32 → Option (Int32 × Hp)} (R_X4_reply : ∀ {h : Hp} {y2 : Int32} {o : Int32 × Hp}, DyK n g h → r_X4_reply h (n + 76) y2 = some o → DyK n g o.2) {r_X4_goOn : Hp → Nat → Int32 → Option (Int32 × Hp)} (R_X4_goOn : ∀ {h : Hp} {y2 : Int32} {o : Int32 × Hp}, DyK n g h → r_X4_goOn h (n + 76) y2 = some o → DyK n g o.2) {r_X4_branch : Hp → Nat → Int32 → Int32 → Option (Int32 × Hp)} (R_X4_branch : ∀ {h : Hp} {y2 : Int32} {y3 : Int32} {o : Int32 × Hp}, DyK n g h → r_X4_branch h (n + 76) y2 y3 = some o → DyK n g o.2) {r_X4_tree : Hp → Nat → Int32 → Option (Int32 × Hp)} (R_X4_tree : ∀ {h : Hp} {y2 : Int32} {o : Int32 × Hp}, DyK n g h → r_X4_tree h (n + 76) y2 = some o → DyK n g o.2) {h : Hp} (k : DyK n g h) (e : sX4_attempt_31 F r_X4_attempt r_X4_reply r_X4_goOn r_X4_branch r_X4_tree h (n + 76) x1 x2 x3 t0 = some o) : DyK n g o.2 := by
  unfold sX4_attempt_31 at e
  replace e := br_s e
  rcases e with ⟨_, e⟩ | ⟨_, e⟩
  · replace e := cl_s e
    obtain ⟨r_2, _, e⟩ := e
    replace e := br_s e
    rcases e with ⟨_, e⟩ | ⟨_, e⟩
    · replace e := cl_s e
      obtain ⟨r_4, er_4, e⟩ := e
      have yr_4 := dk_ed (a := 76) (b := 30) k (by decide +kernel) er_4
      subst yr_4
      replace e := cl_s e
      obtain ⟨r_5, _, e⟩ := e
      replace e := (gd_s e).2
      replace e := cl_s e
      obtain ⟨r_7, _, e⟩ := e
      replace e := cl_s e
      obtain ⟨r_8, _, e⟩ := e
      replace e := (gd_s e).2
      replace e := cl_s e
      obtain ⟨r_10, _, e⟩ := e
      replace e := cl_s e
      obtain ⟨o_11, eo_11, e⟩ := e
      have ko_11 : DyK n g o_11.2 := dk_X5_collect k eo_11
      exact dk_X4_attempt_73 R_X4_attempt R_X4_reply R_X4_goOn R_X4_branch R_X4_tree ko_11 e
    · exact dk_X4_attempt_73 R_X4_attempt R_X4_reply R_X4_goOn R_X4_branch R_X4_tree k e
  · exact dk_X4_attempt_74 R_X4_attempt R_X4_reply R_X4_goOn R_X4_branch R_X4_tree k e
theorem dk_X4_attempt_15 {n : Nat} {g : Hp} {F : Nat} {o : Int32 × Hp} {x1 : Int32} {x2 : Int32} {t0 : Int32} {r_X4_attempt : Hp → Nat → Int32 → Int32 → Option (Int32 × Hp)} (R_X4_attempt : ∀ {h : Hp} {y2 : Int32} {y3 : Int32} {o : Int32 × Hp}, DyK n g h → r_X4_attempt h (n + 76) y2 y3 = some o → DyK n g o.2) {r_X4_reply : Hp → Nat → Int32 → Option (Int32 × Hp)} (R_X4_reply : ∀ {h : Hp} {y2 : Int32} {o : Int32 × Hp}, DyK n g h → r_X4_reply h (n + 76) y2 = some o → DyK n g o.2) {r_X4_goOn : Hp → Nat → Int32 → Option (Int32 × Hp)} (R_X4_goOn : ∀ {h : Hp} {y2 : Int32} {o : Int32 × Hp}, DyK n g h → r_X4_goOn h (n + 76) y2 = some o → DyK n g o.2) {r_X4_branch : Hp → Nat → Int32 → Int32 → Option (Int32 × Hp)} (R_X4_branch : ∀ {h : Hp} {y2 : Int32} {y3 : Int32} {o : Int32 × Hp}, DyK n g h → r_X4_branch h (n + 76) y2 y3 = some o → DyK n g o.2) {r_X4_tree : Hp → Nat → Int32 → Option (Int32 × Hp)} (R_X4_tree : ∀ {h : Hp} {y2 : Int32} {o : Int32 × Hp}, DyK n g h → r_X4_tree h (n + 76) y2 = some o → DyK n g o.2) {h : Hp} (k : DyK n g h) (e : sX4_attempt_15 F r_X4_attempt r_X4_reply r_X4_goOn r_X4_branch r_X4_tree h (n + 76) x1 x2 t0 = some o) : DyK n g o.2 := by
  unfold sX4_attempt_15 at e
  replace e := br_s e
  rcases e with ⟨_, e⟩ | ⟨_, e⟩
  · exact dk_X4_attempt_31 R_X4_attempt R_X4_reply R_X4_goOn R_X4_branch R_X4_tree k e
  · replace e := cl_s e
    obtain ⟨o_2, eo_2, e⟩ := e
    have ko_2 : DyK n g o_2.2 := R_X4_tree k eo_2
    exact dk_X4_attempt_31 R_X4_attempt R_X4_reply R_X4_goOn R_X4_branch R_X4_tree ko_2 e
theorem dk_X4_reply_53 {n : Nat} {g : Hp} {F : Nat} {o : Int32 × Hp} {t0 : Int32} {r_X4_attempt : Hp → Nat → Int32 → Int32 → Option (Int32 × Hp)} (R_X4_attempt : ∀ {h : Hp} {y2 : Int32} {y3 : Int32} {o : Int32 × Hp}, DyK n g h → r_X4_attempt h (n + 76) y2 y3 = some o → DyK n g o.2) {r_X4_reply : Hp → Nat → Int32 → Option (Int32 × Hp)} (R_X4_reply : ∀ {h : Hp} {y2 : Int32} {o : Int32 × Hp}, DyK n g h → r_X4_reply h (n + 76) y2 = some o → DyK n g o.2) {r_X4_goOn : Hp → Nat → Int32 → Option (Int32 × Hp)} (R_X4_goOn : ∀ {h : Hp} {y2 : Int32} {o : Int32 × Hp}, DyK n g h → r_X4_goOn h (n + 76) y2 = some o → DyK n g o.2) {r_X4_branch : Hp → Nat → Int32 → Int32 → Option (Int32 × Hp)} (R_X4_branch : ∀ {h : Hp} {y2 : Int32} {y3 : Int32} {o : Int32 × Hp}, DyK n g h → r_X4_branch h (n + 76) y2 y3 = some o → DyK n g o.2) {r_X4_tree : Hp → Nat → Int32 → Option (Int32 × Hp)} (R_X4_tree : ∀ {h : Hp} {y2 : Int32} {o : Int32 × Hp}, DyK n g h → r_X4_tree h (n + 76) y2 = some o → DyK n g o.2) {h : Hp} (k : DyK n g h) (e : sX4_reply_53 F r_X4_attempt r_X4_reply r_X4_goOn r_X4_branch r_X4_tree h t0 = some o) : DyK n g o.2 := by
  unfold sX4_reply_53 at e
  rw [← Option.some.inj e]; exact k
theorem dk_X4_reply_52 {n : Nat} {g : Hp} {F : Nat} {o : Int32 × Hp} {r_X4_attempt : Hp → Nat → Int32 → Int32 → Option (Int32 × Hp)} (R_X4_attempt : ∀ {h : Hp} {y2 : Int32} {y3 : Int32} {o : Int32 × Hp}, DyK n g h → r_X4_attempt h (n + 76) y2 y3 = some o → DyK n g o.2) {r_X4_reply : Hp → Nat → Int32 → Option (Int32 × Hp)} (R_X4_reply : ∀ {h : Hp} {y2 : Int32} {o : Int32 × Hp}, DyK n g h → r_X4_reply h (n + 76) y2 = some o → DyK n g o.2) {r_X4_goOn : Hp → Nat → Int32 → Option (Int32 × Hp)} (R_X4_goOn : ∀ {h : Hp} {y2 : Int32} {o : Int32 × Hp}, DyK n g h → r_X4_goOn h (n + 76) y2 = some o → DyK n g o.2) {r_X4_branch : Hp → Nat → Int32 → Int32 → Option (Int32 × Hp)} (R_X4_branch : ∀ {h : Hp} {y2 : Int32} {y3 : Int32} {o : Int32 × Hp}, DyK n g h → r_X4_branch h (n + 76) y2 y3 = some o → DyK n g o.2) {r_X4_tree : Hp → Nat → Int32 → Option (Int32 × Hp)} (R_X4_tree : ∀ {h : Hp} {y2 : Int32} {o : Int32 × Hp}, DyK n g h → r_X4_tree h (n + 76) y2 = some o → DyK n g o.2) {h : Hp} (k : DyK n g h) (e : sX4_reply_52 F r_X4_attempt r_X4_reply r_X4_goOn r_X4_branch r_X4_tree h = some o) : DyK n g o.2 := by
  unfold sX4_reply_52 at e
  exact dk_X4_reply_53 R_X4_attempt R_X4_reply R_X4_goOn R_X4_branch R_X4_tree k e
theorem dk_X4_reply_48 {n : Nat} {g : Hp} {F : Nat} {o : Int32 × Hp} {r_X4_attempt : Hp → Nat → Int32 → Int32 → Option (Int32 × Hp)} (R_X4_attempt : ∀ {h : Hp} {y2 : Int32} {y3 : Int32} {o : Int32 × Hp}, DyK n g h → r_X4_attempt h (n + 76) y2 y3 = some o → DyK n g o.2) {r_X4_reply : Hp → Nat → Int32 → Option (Int32 × Hp)} (R_X4_reply : ∀ {h : Hp} {y2 : Int32} {o : Int32 × Hp}, DyK n g h → r_X4_reply h (n + 76) y2 = some o → DyK n g o.2) {r_X4_goOn : Hp → Nat → Int32 → Option (Int32 × Hp)} (R_X4_goOn : ∀ {h : Hp} {y2 : Int32} {o : Int32 × Hp}, DyK n g h → r_X4_goOn h (n + 76) y2 = some o → DyK n g o.2) {r_X4_branch : Hp → Nat → Int32 → Int32 → Option (Int32 × Hp)} (R_X4_branch : ∀ {h : Hp} {y2 : Int32} {y3 : Int32} {o : Int32 × Hp}, DyK n g h → r_X4_branch h (n + 76) y2 y3 = some o → DyK n g o.2) {r_X4_tree : Hp → Nat → Int32 → Option (Int32 × Hp)} (R_X4_tree : ∀ {h : Hp} {y2 : Int32} {o : Int32 × Hp}, DyK n g h → r_X4_tree h (n + 76) y2 = some o → DyK n g o.2) {h : Hp} (k : DyK n g h) (e : sX4_reply_48 F r_X4_attempt r_X4_reply r_X4_goOn r_X4_branch r_X4_tree h = some o) : DyK n g o.2 := by
  unfold sX4_reply_48 at e
  exact dk_X4_reply_53 R_X4_attempt R_X4_reply R_X4_goOn R_X4_branch R_X4_tree k e
theorem dk_X4_reply_25 {n : Nat} {g : Hp} {F : Nat} {o : Int32 × Hp} {x1 : Int32} {t0 : Int32} {r_X4_attempt : Hp → Nat → Int32 → Int32 → Option (Int32 × Hp)} (R_X4_attempt : ∀ {h : Hp} {y2 : Int32} {y3 : Int32} {o : Int32 × Hp}, DyK n g h → r_X4_attempt h (n + 76) y2 y3 = some o → DyK n g o.2) {r_X4_reply : Hp → Nat → Int32 → Option (Int32 × Hp)} (R_X4_reply : ∀ {h : Hp} {y2 : Int32} {o : Int32 × Hp}, DyK n g h → r_X4_reply h (n + 76) y2 = some o → DyK n g o.2) {r_X4_goOn : Hp → Nat → Int32 → Option (Int32 × Hp)} (R_X4_goOn : ∀ {h : Hp} {y2 : Int32} {o : Int32 × Hp}, DyK n g h → r_X4_goOn h (n + 76) y2 = some o → DyK n g o.2) {r_X4_branch : Hp → Nat → Int32 → Int32 → Option (Int32 × Hp)} (R_X4_branch : ∀ {h : Hp} {y2 : Int32} {y3 : Int32} {o : Int32 × Hp}, DyK n g h → r_X4_branch h (n + 76) y2 y3 = some o → DyK n g o.2) {r_X4_tree : Hp → Nat → Int32 → Option (Int32 × Hp)} (R_X4_tree : ∀ {h : Hp} {y2 : Int32} {o : Int32 × Hp}, DyK n g h → r_X4_tree h (n + 76) y2 = some o → DyK n g o.2) {h : Hp} (k : DyK n g h) (e : sX4_reply_25 F r_X4_attempt r_X4_reply r_X4_goOn r_X4_branch r_X4_tree h (n + 76) x1 t0 = some o) : DyK n g o.2 := by
  unfold sX4_reply_25 at e
  replace e := br_s e
  rcases e with ⟨_, e⟩ | ⟨_, e⟩
  · replace e := br_s e
    rcases e with ⟨_, e⟩ | ⟨_, e⟩
    · replace e := cl_s e
      obtain ⟨o_3, eo_3, e⟩ := e
      have ko_3 : DyK n g o_3.2 := dk_X4_isGoal k eo_3
      replace e := br_s e
      rcases e with ⟨_, e⟩ | ⟨_, e⟩
      · exact dk_X4_reply_52 R_X4_attempt R_X4_reply R_X4_goOn R_X4_branch R_X4_tree ko_3 e
      · exact dk_X4_reply_48 R_X4_attempt R_X4_reply R_X4_goOn R_X4_branch R_X4_tree ko_3 e
    · exact dk_X4_reply_52 R_X4_attempt R_X4_reply R_X4_goOn R_X4_branch R_X4_tree k e
  · exact dk_X4_reply_48 R_X4_attempt R_X4_reply R_X4_goOn R_X4_branch R_X4_tree k e
theorem dk_X4_reply_24 {n : Nat} {g : Hp} {F : Nat} {o : Int32 × Hp} {x1 : Int32} {r_X4_attempt : Hp → Nat → Int32 → Int32 → Option (Int32 × Hp)} (R_X4_attempt : ∀ {h : Hp} {y2 : Int32} {y3 : Int32} {o : Int32 × Hp}, DyK n g h → r_X4_attempt h (n + 76) y2 y3 = some o → DyK n g o.2) {r_X4_reply : Hp → Nat → Int32 → Option (Int32 × Hp)} (R_X4_reply : ∀ {h : Hp} {y2 : Int32} {o : Int32 × Hp}, DyK n g h → r_X4_reply h (n + 76) y2 = some o → DyK n g o.2) {r_X4_goOn : Hp → Nat → Int32 → Option (Int32 × Hp)} (R_X4_goOn : ∀ {h : Hp} {y2 : Int32} {o : Int32 × Hp}, DyK n g h → r_X4_goOn h (n + 76) y2 = some o → DyK n g o.2) {r_X4_branch : Hp → Nat → Int32 → Int32 → Option (Int32 × Hp)} (R_X4_branch : ∀ {h : Hp} {y2 : Int32} {y3 : Int32} {o : Int32 × Hp}, DyK n g h → r_X4_branch h (n + 76) y2 y3 = some o → DyK n g o.2) {r_X4_tree : Hp → Nat → Int32 → Option (Int32 × Hp)} (R_X4_tree : ∀ {h : Hp} {y2 : Int32} {o : Int32 × Hp}, DyK n g h → r_X4_tree h (n + 76) y2 = some o → DyK n g o.2) {h : Hp} (k : DyK n g h) (e : sX4_reply_24 F r_X4_attempt r_X4_reply r_X4_goOn r_X4_branch r_X4_tree h (n + 76) x1 = some o) : DyK n g o.2 := by
  unfold sX4_reply_24 at e
  exact dk_X4_reply_25 R_X4_attempt R_X4_reply R_X4_goOn R_X4_branch R_X4_tree k e
theorem dk_X4_goOn_35 {n : Nat} {g : Hp} {F : Nat} {o : Int32 × Hp} {r_X4_attempt : Hp → Nat → Int32 → Int32 → Option (Int32 × Hp)} (R_X4_attempt : ∀ {h : Hp} {y2 : Int32} {y3 : Int32} {o : Int32 × Hp}, DyK n g h → r_X4_attempt h (n + 76) y2 y3 = some o → DyK n g o.2) {r_X4_reply : Hp → Nat → Int32 → Option (Int32 × Hp)} (R_X4_reply : ∀ {h : Hp} {y2 : Int32} {o : Int32 × Hp}, DyK n g h → r_X4_reply h (n + 76) y2 = some o → DyK n g o.2) {r_X4_goOn : Hp → Nat → Int32 → Option (Int32 × Hp)} (R_X4_goOn : ∀ {h : Hp} {y2 : Int32} {o : Int32 × Hp}, DyK n g h → r_X4_goOn h (n + 76) y2 = some o → DyK n g o.2) {r_X4_branch : Hp → Nat → Int32 → Int32 → Option (Int32 × Hp)} (R_X4_branch : ∀ {h : Hp} {y2 : Int32} {y3 : Int32} {o : Int32 × Hp}, DyK n g h → r_X4_branch h (n + 76) y2 y3 = some o → DyK n g o.2) {r_X4_tree : Hp → Nat → Int32 → Option (Int32 × Hp)} (R_X4_tree : ∀ {h : Hp} {y2 : Int32} {o : Int32 × Hp}, DyK n g h → r_X4_tree h (n + 76) y2 = some o → DyK n g o.2) {h : Hp} (k : DyK n g h) (e : sX4_goOn_35 F r_X4_attempt r_X4_reply r_X4_goOn r_X4_branch r_X4_tree h = some o) : DyK n g o.2 := by
  unfold sX4_goOn_35 at e
  rw [← Option.some.inj e]; exact k
theorem dk_X4_branch_56 {n : Nat} {g : Hp} {F : Nat} {o : Int32 × Hp} {t0 : Int32} {r_X4_attempt : Hp → Nat → Int32 → Int32 → Option (Int32 × Hp)} (R_X4_attempt : ∀ {h : Hp} {y2 : Int32} {y3 : Int32} {o : Int32 × Hp}, DyK n g h → r_X4_attempt h (n + 76) y2 y3 = some o → DyK n g o.2) {r_X4_reply : Hp → Nat → Int32 → Option (Int32 × Hp)} (R_X4_reply : ∀ {h : Hp} {y2 : Int32} {o : Int32 × Hp}, DyK n g h → r_X4_reply h (n + 76) y2 = some o → DyK n g o.2) {r_X4_goOn : Hp → Nat → Int32 → Option (Int32 × Hp)} (R_X4_goOn : ∀ {h : Hp} {y2 : Int32} {o : Int32 × Hp}, DyK n g h → r_X4_goOn h (n + 76) y2 = some o → DyK n g o.2) {r_X4_branch : Hp → Nat → Int32 → Int32 → Option (Int32 × Hp)} (R_X4_branch : ∀ {h : Hp} {y2 : Int32} {y3 : Int32} {o : Int32 × Hp}, DyK n g h → r_X4_branch h (n + 76) y2 y3 = some o → DyK n g o.2) {r_X4_tree : Hp → Nat → Int32 → Option (Int32 × Hp)} (R_X4_tree : ∀ {h : Hp} {y2 : Int32} {o : Int32 × Hp}, DyK n g h → r_X4_tree h (n + 76) y2 = some o → DyK n g o.2) {h : Hp} (k : DyK n g h) (e : sX4_branch_56 F r_X4_attempt r_X4_reply r_X4_goOn r_X4_branch r_X4_tree h t0 = some o) : DyK n g o.2 := by
  unfold sX4_branch_56 at e
  rw [← Option.some.inj e]; exact k
theorem dk_X4_branch_92 {n : Nat} {g : Hp} {F : Nat} {o : Int32 × Hp} {t0 : Int32} {r_X4_attempt : Hp → Nat → Int32 → Int32 → Option (Int32 × Hp)} (R_X4_attempt : ∀ {h : Hp} {y2 : Int32} {y3 : Int32} {o : Int32 × Hp}, DyK n g h → r_X4_attempt h (n + 76) y2 y3 = some o → DyK n g o.2) {r_X4_reply : Hp → Nat → Int32 → Option (Int32 × Hp)} (R_X4_reply : ∀ {h : Hp} {y2 : Int32} {o : Int32 × Hp}, DyK n g h → r_X4_reply h (n + 76) y2 = some o → DyK n g o.2) {r_X4_goOn : Hp → Nat → Int32 → Option (Int32 × Hp)} (R_X4_goOn : ∀ {h : Hp} {y2 : Int32} {o : Int32 × Hp}, DyK n g h → r_X4_goOn h (n + 76) y2 = some o → DyK n g o.2) {r_X4_branch : Hp → Nat → Int32 → Int32 → Option (Int32 × Hp)} (R_X4_branch : ∀ {h : Hp} {y2 : Int32} {y3 : Int32} {o : Int32 × Hp}, DyK n g h → r_X4_branch h (n + 76) y2 y3 = some o → DyK n g o.2) {r_X4_tree : Hp → Nat → Int32 → Option (Int32 × Hp)} (R_X4_tree : ∀ {h : Hp} {y2 : Int32} {o : Int32 × Hp}, DyK n g h → r_X4_tree h (n + 76) y2 = some o → DyK n g o.2) {h : Hp} (k : DyK n g h) (e : sX4_branch_92 F r_X4_attempt r_X4_reply r_X4_goOn r_X4_branch r_X4_tree h t0 = some o) : DyK n g o.2 := by
  unfold sX4_branch_92 at e
  rw [← Option.some.inj e]; exact k
theorem dk_X4_branch_126 {n : Nat} {g : Hp} {F : Nat} {o : Int32 × Hp} {t0 : Int32} {r_X4_attempt : Hp → Nat → Int32 → Int32 → Option (Int32 × Hp)} (R_X4_attempt : ∀ {h : Hp} {y2 : Int32} {y3 : Int32} {o : Int32 × Hp}, DyK n g h → r_X4_attempt h (n + 76) y2 y3 = some o → DyK n g o.2) {r_X4_reply : Hp → Nat → Int32 → Option (Int32 × Hp)} (R_X4_reply : ∀ {h : Hp} {y2 : Int32} {o : Int32 × Hp}, DyK n g h → r_X4_reply h (n + 76) y2 = some o → DyK n g o.2) {r_X4_goOn : Hp → Nat → Int32 → Option (Int32 × Hp)} (R_X4_goOn : ∀ {h : Hp} {y2 : Int32} {o : Int32 × Hp}, DyK n g h → r_X4_goOn h (n + 76) y2 = some o → DyK n g o.2) {r_X4_branch : Hp → Nat → Int32 → Int32 → Option (Int32 × Hp)} (R_X4_branch : ∀ {h : Hp} {y2 : Int32} {y3 : Int32} {o : Int32 × Hp}, DyK n g h → r_X4_branch h (n + 76) y2 y3 = some o → DyK n g o.2) {r_X4_tree : Hp → Nat → Int32 → Option (Int32 × Hp)} (R_X4_tree : ∀ {h : Hp} {y2 : Int32} {o : Int32 × Hp}, DyK n g h → r_X4_tree h (n + 76) y2 = some o → DyK n g o.2) {h : Hp} (k : DyK n g h) (e : sX4_branch_126 F r_X4_attempt r_X4_reply r_X4_goOn r_X4_branch r_X4_tree h t0 = some o) : DyK n g o.2 := by
  unfold sX4_branch_126 at e
  rw [← Option.some.inj e]; exact k
theorem dk_X4_tree_18 {n : Nat} {g : Hp} {F : Nat} {o : Int32 × Hp} {r_X4_attempt : Hp → Nat → Int32 → Int32 → Option (Int32 × Hp)} (R_X4_attempt : ∀ {h : Hp} {y2 : Int32} {y3 : Int32} {o : Int32 × Hp}, DyK n g h → r_X4_attempt h (n + 76) y2 y3 = some o → DyK n g o.2) {r_X4_reply : Hp → Nat → Int32 → Option (Int32 × Hp)} (R_X4_reply : ∀ {h : Hp} {y2 : Int32} {o : Int32 × Hp}, DyK n g h → r_X4_reply h (n + 76) y2 = some o → DyK n g o.2) {r_X4_goOn : Hp → Nat → Int32 → Option (Int32 × Hp)} (R_X4_goOn : ∀ {h : Hp} {y2 : Int32} {o : Int32 × Hp}, DyK n g h → r_X4_goOn h (n + 76) y2 = some o → DyK n g o.2) {r_X4_branch : Hp → Nat → Int32 → Int32 → Option (Int32 × Hp)} (R_X4_branch : ∀ {h : Hp} {y2 : Int32} {y3 : Int32} {o : Int32 × Hp}, DyK n g h → r_X4_branch h (n + 76) y2 y3 = some o → DyK n g o.2) {r_X4_tree : Hp → Nat → Int32 → Option (Int32 × Hp)} (R_X4_tree : ∀ {h : Hp} {y2 : Int32} {o : Int32 × Hp}, DyK n g h → r_X4_tree h (n + 76) y2 = some o → DyK n g o.2) {h : Hp} (k : DyK n g h) (e : sX4_tree_18 F r_X4_attempt r_X4_reply r_X4_goOn r_X4_branch r_X4_tree h = some o) : DyK n g o.2 := by
  unfold sX4_tree_18 at e
  rw [← Option.some.inj e]; exact k
theorem dk_X5_endOf_45 {n : Nat} {g : Hp} {F : Nat} {o : Int32 × Hp} {t0 : Int32} {h : Hp} (k : DyK n g h) (e : sX5_endOf_45 F h t0 = some o) : DyK n g o.2 := by
  unfold sX5_endOf_45 at e
  rw [← Option.some.inj e]; exact k
theorem dk_X5_endOf {n : Nat} {g : Hp} {F : Nat} {o : Int32 × Hp} {x1 : Nat} {h : Hp} (k : DyK n g h) (e : sX5_endOf F h (n + 30) x1 = some o) : DyK n g o.2 := by
  unfold sX5_endOf at e
  replace e := cl_s e
  obtain ⟨o_1, eo_1, e⟩ := e
  have ko_1 : DyK n g o_1.2 := dk_X5_earlyEnd k eo_1
  replace e := br_s e
  rcases e with ⟨_, e⟩ | ⟨_, e⟩
  · replace e := cl_s e
    obtain ⟨r_3, _, e⟩ := e
    replace e := cl_s e
    obtain ⟨o_4, eo_4, e⟩ := e
    have ko_4 : DyK n g o_4.2 := dk_X5_collect ko_1 eo_4
    replace e := br_s e
    rcases e with ⟨_, e⟩ | ⟨_, e⟩
    · replace e := cl_s e
      obtain ⟨o_6, eo_6, e⟩ := e
      have ko_6 : DyK n g o_6.2 := dk_X5_isRoyalHit ko_4 eo_6
      replace e := br_s e
      rcases e with ⟨_, e⟩ | ⟨_, e⟩
      · exact dk_X5_endOf_45 ko_6 e
      · exact dk_X5_endOf_45 ko_6 e
    · rw [← Option.some.inj e]; exact ko_4
  · rw [← Option.some.inj e]; exact ko_1
theorem dk_X4_tree_268 {n : Nat} {g : Hp} {F : Nat} {o : Int32 × Hp} {x4 : Int32} {r_X4_attempt : Hp → Nat → Int32 → Int32 → Option (Int32 × Hp)} (R_X4_attempt : ∀ {h : Hp} {y2 : Int32} {y3 : Int32} {o : Int32 × Hp}, DyK n g h → r_X4_attempt h (n + 76) y2 y3 = some o → DyK n g o.2) {r_X4_reply : Hp → Nat → Int32 → Option (Int32 × Hp)} (R_X4_reply : ∀ {h : Hp} {y2 : Int32} {o : Int32 × Hp}, DyK n g h → r_X4_reply h (n + 76) y2 = some o → DyK n g o.2) {r_X4_goOn : Hp → Nat → Int32 → Option (Int32 × Hp)} (R_X4_goOn : ∀ {h : Hp} {y2 : Int32} {o : Int32 × Hp}, DyK n g h → r_X4_goOn h (n + 76) y2 = some o → DyK n g o.2) {r_X4_branch : Hp → Nat → Int32 → Int32 → Option (Int32 × Hp)} (R_X4_branch : ∀ {h : Hp} {y2 : Int32} {y3 : Int32} {o : Int32 × Hp}, DyK n g h → r_X4_branch h (n + 76) y2 y3 = some o → DyK n g o.2) {r_X4_tree : Hp → Nat → Int32 → Option (Int32 × Hp)} (R_X4_tree : ∀ {h : Hp} {y2 : Int32} {o : Int32 × Hp}, DyK n g h → r_X4_tree h (n + 76) y2 = some o → DyK n g o.2) {h : Hp} (k : DyK n g h) (e : sX4_tree_268 F r_X4_attempt r_X4_reply r_X4_goOn r_X4_branch r_X4_tree h x4 = some o) : DyK n g o.2 := by
  unfold sX4_tree_268 at e
  rw [← Option.some.inj e]; exact k
theorem dk_X4_tree_255 {n : Nat} {g : Hp} {F : Nat} {o : Int32 × Hp} {x1 : Int32} {x2 : Nat} {x3 : Int32} {x4 : Int32} {x5 : Int32} {x7 : Int32} {r_X4_attempt : Hp → Nat → Int32 → Int32 → Option (Int32 × Hp)} (R_X4_attempt : ∀ {h : Hp} {y2 : Int32} {y3 : Int32} {o : Int32 × Hp}, DyK n g h → r_X4_attempt h (n + 76) y2 y3 = some o → DyK n g o.2) {r_X4_reply : Hp → Nat → Int32 → Option (Int32 × Hp)} (R_X4_reply : ∀ {h : Hp} {y2 : Int32} {o : Int32 × Hp}, DyK n g h → r_X4_reply h (n + 76) y2 = some o → DyK n g o.2) {r_X4_goOn : Hp → Nat → Int32 → Option (Int32 × Hp)} (R_X4_goOn : ∀ {h : Hp} {y2 : Int32} {o : Int32 × Hp}, DyK n g h → r_X4_goOn h (n + 76) y2 = some o → DyK n g o.2) {r_X4_branch : Hp → Nat → Int32 → Int32 → Option (Int32 × Hp)} (R_X4_branch : ∀ {h : Hp} {y2 : Int32} {y3 : Int32} {o : Int32 × Hp}, DyK n g h → r_X4_branch h (n + 76) y2 y3 = some o → DyK n g o.2) {r_X4_tree : Hp → Nat → Int32 → Option (Int32 × Hp)} (R_X4_tree : ∀ {h : Hp} {y2 : Int32} {o : Int32 × Hp}, DyK n g h → r_X4_tree h (n + 76) y2 = some o → DyK n g o.2) {k_151 : Hp → Nat → Int32 → Nat → Int32 → Int32 → Int32 → Option (Int32 × Hp)} (R_151 : ∀ {h : Hp} {y2 : Int32} {y3 : Nat} {y4 : Int32} {y5 : Int32} {y6 : Int32}, DyK n g h → k_151 h (n + 76) y2 y3 y4 y5 y6 = some o → DyK n g o.2) {h : Hp} (k : DyK n g h) (e : sX4_tree_255 F r_X4_attempt r_X4_reply r_X4_goOn r_X4_branch r_X4_tree k_151 h (n + 76) x1 x2 x3 x4 x5 x7 = some o) : DyK n g o.2 := by
  unfold sX4_tree_255 at e
  replace e := nm_s e
  obtain ⟨v_1, wv_1, e⟩ := e
  replace e := nm_s e
  obtain ⟨v_2, wv_2, e⟩ := e
  exact R_151 k e
theorem dk_X4_tree_233 {n : Nat} {g : Hp} {F : Nat} {o : Int32 × Hp} {x1 : Int32} {x2 : Nat} {x3 : Int32} {x4 : Int32} {x5 : Int32} {r_X4_attempt : Hp → Nat → Int32 → Int32 → Option (Int32 × Hp)} (R_X4_attempt : ∀ {h : Hp} {y2 : Int32} {y3 : Int32} {o : Int32 × Hp}, DyK n g h → r_X4_attempt h (n + 76) y2 y3 = some o → DyK n g o.2) {r_X4_reply : Hp → Nat → Int32 → Option (Int32 × Hp)} (R_X4_reply : ∀ {h : Hp} {y2 : Int32} {o : Int32 × Hp}, DyK n g h → r_X4_reply h (n + 76) y2 = some o → DyK n g o.2) {r_X4_goOn : Hp → Nat → Int32 → Option (Int32 × Hp)} (R_X4_goOn : ∀ {h : Hp} {y2 : Int32} {o : Int32 × Hp}, DyK n g h → r_X4_goOn h (n + 76) y2 = some o → DyK n g o.2) {r_X4_branch : Hp → Nat → Int32 → Int32 → Option (Int32 × Hp)} (R_X4_branch : ∀ {h : Hp} {y2 : Int32} {y3 : Int32} {o : Int32 × Hp}, DyK n g h → r_X4_branch h (n + 76) y2 y3 = some o → DyK n g o.2) {r_X4_tree : Hp → Nat → Int32 → Option (Int32 × Hp)} (R_X4_tree : ∀ {h : Hp} {y2 : Int32} {o : Int32 × Hp}, DyK n g h → r_X4_tree h (n + 76) y2 = some o → DyK n g o.2) {k_151 : Hp → Nat → Int32 → Nat → Int32 → Int32 → Int32 → Option (Int32 × Hp)} (R_151 : ∀ {h : Hp} {y2 : Int32} {y3 : Nat} {y4 : Int32} {y5 : Int32} {y6 : Int32}, DyK n g h → k_151 h (n + 76) y2 y3 y4 y5 y6 = some o → DyK n g o.2) {h : Hp} (k : DyK n g h) (e : sX4_tree_233 F r_X4_attempt r_X4_reply r_X4_goOn r_X4_branch r_X4_tree k_151 h (n + 76) x1 x2 x3 x4 x5 = some o) : DyK n g o.2 := by
  unfold sX4_tree_233 at e
  replace e := cl_s e
  obtain ⟨o_1, eo_1, e⟩ := e
  have ko_1 : DyK n g o_1.2 := R_X4_branch k eo_1
  replace e := br_s e
  rcases e with ⟨_, e⟩ | ⟨_, e⟩
  · replace e := cl_s e
    obtain ⟨r_3, _, e⟩ := e
    replace e := (gd_s e).2
    replace e := nm_s e
    obtain ⟨h_5, wh_5, e⟩ := e
    have kh_5 : DyK n g h_5 := by rw [wh_5]; exact dk_wI ko_1
    exact dk_X4_tree_255 R_X4_attempt R_X4_reply R_X4_goOn R_X4_branch R_X4_tree R_151 kh_5 e
  · exact dk_X4_tree_255 R_X4_attempt R_X4_reply R_X4_goOn R_X4_branch R_X4_tree R_151 ko_1 e
theorem dk_X4_tree_216 {n : Nat} {g : Hp} {F : Nat} {o : Int32 × Hp} {x1 : Int32} {x2 : Nat} {x3 : Int32} {x4 : Int32} {x5 : Int32} {x6 : Nat} {r_X4_attempt : Hp → Nat → Int32 → Int32 → Option (Int32 × Hp)} (R_X4_attempt : ∀ {h : Hp} {y2 : Int32} {y3 : Int32} {o : Int32 × Hp}, DyK n g h → r_X4_attempt h (n + 76) y2 y3 = some o → DyK n g o.2) {r_X4_reply : Hp → Nat → Int32 → Option (Int32 × Hp)} (R_X4_reply : ∀ {h : Hp} {y2 : Int32} {o : Int32 × Hp}, DyK n g h → r_X4_reply h (n + 76) y2 = some o → DyK n g o.2) {r_X4_goOn : Hp → Nat → Int32 → Option (Int32 × Hp)} (R_X4_goOn : ∀ {h : Hp} {y2 : Int32} {o : Int32 × Hp}, DyK n g h → r_X4_goOn h (n + 76) y2 = some o → DyK n g o.2) {r_X4_branch : Hp → Nat → Int32 → Int32 → Option (Int32 × Hp)} (R_X4_branch : ∀ {h : Hp} {y2 : Int32} {y3 : Int32} {o : Int32 × Hp}, DyK n g h → r_X4_branch h (n + 76) y2 y3 = some o → DyK n g o.2) {r_X4_tree : Hp → Nat → Int32 → Option (Int32 × Hp)} (R_X4_tree : ∀ {h : Hp} {y2 : Int32} {o : Int32 × Hp}, DyK n g h → r_X4_tree h (n + 76) y2 = some o → DyK n g o.2) {k_151 : Hp → Nat → Int32 → Nat → Int32 → Int32 → Int32 → Option (Int32 × Hp)} (R_151 : ∀ {h : Hp} {y2 : Int32} {y3 : Nat} {y4 : Int32} {y5 : Int32} {y6 : Int32}, DyK n g h → k_151 h (n + 76) y2 y3 y4 y5 y6 = some o → DyK n g o.2) {h : Hp} (k : DyK n g h) (e : sX4_tree_216 F r_X4_attempt r_X4_reply r_X4_goOn r_X4_branch r_X4_tree k_151 h (n + 76) x1 x2 x3 x4 x5 x6 = some o) : DyK n g o.2 := by
  unfold sX4_tree_216 at e
  replace e := cl_s e
  obtain ⟨r_1, _, e⟩ := e
  replace e := cl_s e
  obtain ⟨r_2, er_2, e⟩ := e
  have yr_2 := dk_ed (a := 76) (b := 30) k (by decide +kernel) er_2
  subst yr_2
  replace e := cl_s e
  obtain ⟨o_3, eo_3, e⟩ := e
  have ko_3 : DyK n g o_3.2 := dk_X5_endOf k eo_3
  replace e := (gd_s e).2
  replace e := nm_s e
  obtain ⟨h_5, wh_5, e⟩ := e
  have kh_5 : DyK n g h_5 := by rw [wh_5]; exact dk_wI ko_3
  exact dk_X4_tree_233 R_X4_attempt R_X4_reply R_X4_goOn R_X4_branch R_X4_tree R_151 kh_5 e
theorem dk_X4_tree_151 {n : Nat} {g : Hp} {F : Nat} {o : Int32 × Hp} {r_X4_attempt : Hp → Nat → Int32 → Int32 → Option (Int32 × Hp)} (R_X4_attempt : ∀ {h : Hp} {y2 : Int32} {y3 : Int32} {o : Int32 × Hp}, DyK n g h → r_X4_attempt h (n + 76) y2 y3 = some o → DyK n g o.2) {r_X4_reply : Hp → Nat → Int32 → Option (Int32 × Hp)} (R_X4_reply : ∀ {h : Hp} {y2 : Int32} {o : Int32 × Hp}, DyK n g h → r_X4_reply h (n + 76) y2 = some o → DyK n g o.2) {r_X4_goOn : Hp → Nat → Int32 → Option (Int32 × Hp)} (R_X4_goOn : ∀ {h : Hp} {y2 : Int32} {o : Int32 × Hp}, DyK n g h → r_X4_goOn h (n + 76) y2 = some o → DyK n g o.2) {r_X4_branch : Hp → Nat → Int32 → Int32 → Option (Int32 × Hp)} (R_X4_branch : ∀ {h : Hp} {y2 : Int32} {y3 : Int32} {o : Int32 × Hp}, DyK n g h → r_X4_branch h (n + 76) y2 y3 = some o → DyK n g o.2) {r_X4_tree : Hp → Nat → Int32 → Option (Int32 × Hp)} (R_X4_tree : ∀ {h : Hp} {y2 : Int32} {o : Int32 × Hp}, DyK n g h → r_X4_tree h (n + 76) y2 = some o → DyK n g o.2) : ∀ (f : Nat) {h : Hp} {x1 : Int32} {x2 : Nat} {x3 : Int32} {x4 : Int32} {x5 : Int32}, DyK n g h → sX4_tree_151 F r_X4_attempt r_X4_reply r_X4_goOn r_X4_branch r_X4_tree f h (n + 76) x1 x2 x3 x4 x5 = some o → DyK n g o.2 := by
  intro f
  induction f with
  | zero => intro h x1 x2 x3 x4 x5 _ e; exact absurd e (by rw [sX4_tree_151]; exact fun z => nomatch z)
  | succ f ih =>
    intro h x1 x2 x3 x4 x5 k e
    rw [sX4_tree_151] at e
    replace e := br_s e
    rcases e with ⟨_, e⟩ | ⟨_, e⟩
    · exact dk_X4_tree_268 R_X4_attempt R_X4_reply R_X4_goOn R_X4_branch R_X4_tree k e
    · replace e := br_s e
      rcases e with ⟨_, e⟩ | ⟨_, e⟩
      · replace e := cl_s e
        obtain ⟨r_3, _, e⟩ := e
        replace e := (gd_s e).2
        replace e := cl_s e
        obtain ⟨r_5, _, e⟩ := e
        replace e := cl_s e
        obtain ⟨r_6, _, e⟩ := e
        replace e := (gd_s e).2
        replace e := cl_s e
        obtain ⟨r_8, _, e⟩ := e
        replace e := cl_s e
        obtain ⟨o_9, eo_9, e⟩ := e
        have ko_9 : DyK n g o_9 := dk_X3_copyFrom k eo_9
        replace e := cl_s e
        obtain ⟨r_10, _, e⟩ := e
        replace e := (gd_s e).2
        replace e := cl_s e
        obtain ⟨o_12, eo_12, e⟩ := e
        have ko_12 : DyK n g o_12 := dk_X5_make ko_9 eo_12
        replace e := br_s e
        rcases e with ⟨_, e⟩ | ⟨_, e⟩
        · exact dk_X4_tree_216 R_X4_attempt R_X4_reply R_X4_goOn R_X4_branch R_X4_tree (fun k e => ih k e) ko_12 e
        · replace e := br_s e
          rcases e with ⟨_, e⟩ | ⟨_, e⟩
          · exact dk_X4_tree_216 R_X4_attempt R_X4_reply R_X4_goOn R_X4_branch R_X4_tree (fun k e => ih k e) ko_12 e
          · exact dk_X4_tree_233 R_X4_attempt R_X4_reply R_X4_goOn R_X4_branch R_X4_tree (fun k e => ih k e) ko_12 e
      · exact dk_X4_tree_268 R_X4_attempt R_X4_reply R_X4_goOn R_X4_branch R_X4_tree k e
theorem dk_X4_tree_145 {n : Nat} {g : Hp} {F : Nat} {o : Int32 × Hp} {x1 : Int32} {x2 : Nat} {x3 : Int32} {r_X4_attempt : Hp → Nat → Int32 → Int32 → Option (Int32 × Hp)} (R_X4_attempt : ∀ {h : Hp} {y2 : Int32} {y3 : Int32} {o : Int32 × Hp}, DyK n g h → r_X4_attempt h (n + 76) y2 y3 = some o → DyK n g o.2) {r_X4_reply : Hp → Nat → Int32 → Option (Int32 × Hp)} (R_X4_reply : ∀ {h : Hp} {y2 : Int32} {o : Int32 × Hp}, DyK n g h → r_X4_reply h (n + 76) y2 = some o → DyK n g o.2) {r_X4_goOn : Hp → Nat → Int32 → Option (Int32 × Hp)} (R_X4_goOn : ∀ {h : Hp} {y2 : Int32} {o : Int32 × Hp}, DyK n g h → r_X4_goOn h (n + 76) y2 = some o → DyK n g o.2) {r_X4_branch : Hp → Nat → Int32 → Int32 → Option (Int32 × Hp)} (R_X4_branch : ∀ {h : Hp} {y2 : Int32} {y3 : Int32} {o : Int32 × Hp}, DyK n g h → r_X4_branch h (n + 76) y2 y3 = some o → DyK n g o.2) {r_X4_tree : Hp → Nat → Int32 → Option (Int32 × Hp)} (R_X4_tree : ∀ {h : Hp} {y2 : Int32} {o : Int32 × Hp}, DyK n g h → r_X4_tree h (n + 76) y2 = some o → DyK n g o.2) {h : Hp} (k : DyK n g h) (e : sX4_tree_145 F r_X4_attempt r_X4_reply r_X4_goOn r_X4_branch r_X4_tree h (n + 76) x1 x2 x3 = some o) : DyK n g o.2 := by
  unfold sX4_tree_145 at e
  exact dk_X4_tree_151 R_X4_attempt R_X4_reply R_X4_goOn R_X4_branch R_X4_tree F k e
theorem dk_X4_tree_122 {n : Nat} {g : Hp} {F : Nat} {o : Int32 × Hp} {x1 : Int32} {x2 : Nat} {x3 : Int32} {t0 : Int32} {t1 : Nat} {r_X4_attempt : Hp → Nat → Int32 → Int32 → Option (Int32 × Hp)} (R_X4_attempt : ∀ {h : Hp} {y2 : Int32} {y3 : Int32} {o : Int32 × Hp}, DyK n g h → r_X4_attempt h (n + 76) y2 y3 = some o → DyK n g o.2) {r_X4_reply : Hp → Nat → Int32 → Option (Int32 × Hp)} (R_X4_reply : ∀ {h : Hp} {y2 : Int32} {o : Int32 × Hp}, DyK n g h → r_X4_reply h (n + 76) y2 = some o → DyK n g o.2) {r_X4_goOn : Hp → Nat → Int32 → Option (Int32 × Hp)} (R_X4_goOn : ∀ {h : Hp} {y2 : Int32} {o : Int32 × Hp}, DyK n g h → r_X4_goOn h (n + 76) y2 = some o → DyK n g o.2) {r_X4_branch : Hp → Nat → Int32 → Int32 → Option (Int32 × Hp)} (R_X4_branch : ∀ {h : Hp} {y2 : Int32} {y3 : Int32} {o : Int32 × Hp}, DyK n g h → r_X4_branch h (n + 76) y2 y3 = some o → DyK n g o.2) {r_X4_tree : Hp → Nat → Int32 → Option (Int32 × Hp)} (R_X4_tree : ∀ {h : Hp} {y2 : Int32} {o : Int32 × Hp}, DyK n g h → r_X4_tree h (n + 76) y2 = some o → DyK n g o.2) {h : Hp} (k : DyK n g h) (e : sX4_tree_122 F r_X4_attempt r_X4_reply r_X4_goOn r_X4_branch r_X4_tree h (n + 76) x1 x2 x3 t0 t1 = some o) : DyK n g o.2 := by
  unfold sX4_tree_122 at e
  replace e := (gd_s e).2
  replace e := nm_s e
  obtain ⟨h_2, wh_2, e⟩ := e
  have kh_2 : DyK n g h_2 := by rw [wh_2]; exact dk_wI k
  replace e := br_s e
  rcases e with ⟨_, e⟩ | ⟨_, e⟩
  · replace e := br_s e
    rcases e with ⟨_, e⟩ | ⟨_, e⟩
    · rw [← Option.some.inj e]; exact kh_2
    · exact dk_X4_tree_145 R_X4_attempt R_X4_reply R_X4_goOn R_X4_branch R_X4_tree kh_2 e
  · exact dk_X4_tree_145 R_X4_attempt R_X4_reply R_X4_goOn R_X4_branch R_X4_tree kh_2 e
theorem dk_X4_tree_117 {n : Nat} {g : Hp} {F : Nat} {o : Int32 × Hp} {x1 : Int32} {x2 : Nat} {x3 : Int32} {t0 : Nat} {r_X4_attempt : Hp → Nat → Int32 → Int32 → Option (Int32 × Hp)} (R_X4_attempt : ∀ {h : Hp} {y2 : Int32} {y3 : Int32} {o : Int32 × Hp}, DyK n g h → r_X4_attempt h (n + 76) y2 y3 = some o → DyK n g o.2) {r_X4_reply : Hp → Nat → Int32 → Option (Int32 × Hp)} (R_X4_reply : ∀ {h : Hp} {y2 : Int32} {o : Int32 × Hp}, DyK n g h → r_X4_reply h (n + 76) y2 = some o → DyK n g o.2) {r_X4_goOn : Hp → Nat → Int32 → Option (Int32 × Hp)} (R_X4_goOn : ∀ {h : Hp} {y2 : Int32} {o : Int32 × Hp}, DyK n g h → r_X4_goOn h (n + 76) y2 = some o → DyK n g o.2) {r_X4_branch : Hp → Nat → Int32 → Int32 → Option (Int32 × Hp)} (R_X4_branch : ∀ {h : Hp} {y2 : Int32} {y3 : Int32} {o : Int32 × Hp}, DyK n g h → r_X4_branch h (n + 76) y2 y3 = some o → DyK n g o.2) {r_X4_tree : Hp → Nat → Int32 → Option (Int32 × Hp)} (R_X4_tree : ∀ {h : Hp} {y2 : Int32} {o : Int32 × Hp}, DyK n g h → r_X4_tree h (n + 76) y2 = some o → DyK n g o.2) {h : Hp} (k : DyK n g h) (e : sX4_tree_117 F r_X4_attempt r_X4_reply r_X4_goOn r_X4_branch r_X4_tree h (n + 76) x1 x2 x3 t0 = some o) : DyK n g o.2 := by
  unfold sX4_tree_117 at e
  exact dk_X4_tree_122 R_X4_attempt R_X4_reply R_X4_goOn R_X4_branch R_X4_tree k e
theorem dk_X4_tree_87 {n : Nat} {g : Hp} {F : Nat} {o : Int32 × Hp} {x1 : Int32} {x2 : Nat} {x3 : Int32} {t0 : Int32} {t1 : Int32} {t2 : Nat} {r_X4_attempt : Hp → Nat → Int32 → Int32 → Option (Int32 × Hp)} (R_X4_attempt : ∀ {h : Hp} {y2 : Int32} {y3 : Int32} {o : Int32 × Hp}, DyK n g h → r_X4_attempt h (n + 76) y2 y3 = some o → DyK n g o.2) {r_X4_reply : Hp → Nat → Int32 → Option (Int32 × Hp)} (R_X4_reply : ∀ {h : Hp} {y2 : Int32} {o : Int32 × Hp}, DyK n g h → r_X4_reply h (n + 76) y2 = some o → DyK n g o.2) {r_X4_goOn : Hp → Nat → Int32 → Option (Int32 × Hp)} (R_X4_goOn : ∀ {h : Hp} {y2 : Int32} {o : Int32 × Hp}, DyK n g h → r_X4_goOn h (n + 76) y2 = some o → DyK n g o.2) {r_X4_branch : Hp → Nat → Int32 → Int32 → Option (Int32 × Hp)} (R_X4_branch : ∀ {h : Hp} {y2 : Int32} {y3 : Int32} {o : Int32 × Hp}, DyK n g h → r_X4_branch h (n + 76) y2 y3 = some o → DyK n g o.2) {r_X4_tree : Hp → Nat → Int32 → Option (Int32 × Hp)} (R_X4_tree : ∀ {h : Hp} {y2 : Int32} {o : Int32 × Hp}, DyK n g h → r_X4_tree h (n + 76) y2 = some o → DyK n g o.2) {h : Hp} (k : DyK n g h) (e : sX4_tree_87 F r_X4_attempt r_X4_reply r_X4_goOn r_X4_branch r_X4_tree h (n + 76) x1 x2 x3 t0 t1 t2 = some o) : DyK n g o.2 := by
  unfold sX4_tree_87 at e
  replace e := (gd_s e).2
  replace e := nm_s e
  obtain ⟨h_2, wh_2, e⟩ := e
  have kh_2 : DyK n g h_2 := by rw [wh_2]; exact dk_wI k
  replace e := cl_s e
  obtain ⟨r_3, _, e⟩ := e
  replace e := (gd_s e).2
  replace e := (gd_s e).2
  replace e := nm_s e
  obtain ⟨h_6, wh_6, e⟩ := e
  have kh_6 : DyK n g h_6 := by rw [wh_6]; exact dk_wI kh_2
  replace e := br_s e
  rcases e with ⟨_, e⟩ | ⟨_, e⟩
  · replace e := cl_s e
    obtain ⟨r_8, _, e⟩ := e
    replace e := (gd_s e).2
    replace e := br_s e
    rcases e with ⟨_, e⟩ | ⟨_, e⟩
    · exact dk_X4_tree_122 R_X4_attempt R_X4_reply R_X4_goOn R_X4_branch R_X4_tree kh_6 e
    · exact dk_X4_tree_117 R_X4_attempt R_X4_reply R_X4_goOn R_X4_branch R_X4_tree kh_6 e
  · exact dk_X4_tree_117 R_X4_attempt R_X4_reply R_X4_goOn R_X4_branch R_X4_tree kh_6 e
theorem dk_X4_tree_58 {n : Nat} {g : Hp} {F : Nat} {o : Int32 × Hp} {x1 : Int32} {x2 : Nat} {x3 : Int32} {t0 : Int32} {t1 : Nat} {r_X4_attempt : Hp → Nat → Int32 → Int32 → Option (Int32 × Hp)} (R_X4_attempt : ∀ {h : Hp} {y2 : Int32} {y3 : Int32} {o : Int32 × Hp}, DyK n g h → r_X4_attempt h (n + 76) y2 y3 = some o → DyK n g o.2) {r_X4_reply : Hp → Nat → Int32 → Option (Int32 × Hp)} (R_X4_reply : ∀ {h : Hp} {y2 : Int32} {o : Int32 × Hp}, DyK n g h → r_X4_reply h (n + 76) y2 = some o → DyK n g o.2) {r_X4_goOn : Hp → Nat → Int32 → Option (Int32 × Hp)} (R_X4_goOn : ∀ {h : Hp} {y2 : Int32} {o : Int32 × Hp}, DyK n g h → r_X4_goOn h (n + 76) y2 = some o → DyK n g o.2) {r_X4_branch : Hp → Nat → Int32 → Int32 → Option (Int32 × Hp)} (R_X4_branch : ∀ {h : Hp} {y2 : Int32} {y3 : Int32} {o : Int32 × Hp}, DyK n g h → r_X4_branch h (n + 76) y2 y3 = some o → DyK n g o.2) {r_X4_tree : Hp → Nat → Int32 → Option (Int32 × Hp)} (R_X4_tree : ∀ {h : Hp} {y2 : Int32} {o : Int32 × Hp}, DyK n g h → r_X4_tree h (n + 76) y2 = some o → DyK n g o.2) {h : Hp} (k : DyK n g h) (e : sX4_tree_58 F r_X4_attempt r_X4_reply r_X4_goOn r_X4_branch r_X4_tree h (n + 76) x1 x2 x3 t0 t1 = some o) : DyK n g o.2 := by
  unfold sX4_tree_58 at e
  replace e := nm_s e
  obtain ⟨h_1, wh_1, e⟩ := e
  have kh_1 : DyK n g h_1 := by rw [wh_1]; exact dk_wI k
  replace e := cl_s e
  obtain ⟨r_2, _, e⟩ := e
  replace e := br_s e
  rcases e with ⟨_, e⟩ | ⟨_, e⟩
  · replace e := cl_s e
    obtain ⟨r_4, er_4, e⟩ := e
    have yr_4 := dk_ed (a := 76) (b := 30) kh_1 (by decide +kernel) er_4
    subst yr_4
    replace e := cl_s e
    obtain ⟨r_5, _, e⟩ := e
    replace e := (gd_s e).2
    replace e := cl_s e
    obtain ⟨r_7, _, e⟩ := e
    replace e := cl_s e
    obtain ⟨o_8, eo_8, e⟩ := e
    have ko_8 : DyK n g o_8.2 := dk_X5_endOf kh_1 eo_8
    exact dk_X4_tree_87 R_X4_attempt R_X4_reply R_X4_goOn R_X4_branch R_X4_tree ko_8 e
  · exact dk_X4_tree_87 R_X4_attempt R_X4_reply R_X4_goOn R_X4_branch R_X4_tree kh_1 e
theorem dk_oX4_attempt {n : Nat} {g : Hp} {F : Nat} {o : Int32 × Hp} {x1 : Int32} {x2 : Int32} {r_X4_attempt : Hp → Nat → Int32 → Int32 → Option (Int32 × Hp)} (R_X4_attempt : ∀ {h : Hp} {y2 : Int32} {y3 : Int32} {o : Int32 × Hp}, DyK n g h → r_X4_attempt h (n + 76) y2 y3 = some o → DyK n g o.2) {r_X4_reply : Hp → Nat → Int32 → Option (Int32 × Hp)} (R_X4_reply : ∀ {h : Hp} {y2 : Int32} {o : Int32 × Hp}, DyK n g h → r_X4_reply h (n + 76) y2 = some o → DyK n g o.2) {r_X4_goOn : Hp → Nat → Int32 → Option (Int32 × Hp)} (R_X4_goOn : ∀ {h : Hp} {y2 : Int32} {o : Int32 × Hp}, DyK n g h → r_X4_goOn h (n + 76) y2 = some o → DyK n g o.2) {r_X4_branch : Hp → Nat → Int32 → Int32 → Option (Int32 × Hp)} (R_X4_branch : ∀ {h : Hp} {y2 : Int32} {y3 : Int32} {o : Int32 × Hp}, DyK n g h → r_X4_branch h (n + 76) y2 y3 = some o → DyK n g o.2) {r_X4_tree : Hp → Nat → Int32 → Option (Int32 × Hp)} (R_X4_tree : ∀ {h : Hp} {y2 : Int32} {o : Int32 × Hp}, DyK n g h → r_X4_tree h (n + 76) y2 = some o → DyK n g o.2) {h : Hp} (k : DyK n g h) (e : oX4_attempt F r_X4_attempt r_X4_reply r_X4_goOn r_X4_branch r_X4_tree h (n + 76) x1 x2 = some o) : DyK n g o.2 := by
  unfold oX4_attempt at e
  replace e := br_s e
  rcases e with ⟨_, e⟩ | ⟨_, e⟩
  · exact dk_X4_attempt_15 R_X4_attempt R_X4_reply R_X4_goOn R_X4_branch R_X4_tree k e
  · exact dk_X4_attempt_15 R_X4_attempt R_X4_reply R_X4_goOn R_X4_branch R_X4_tree k e
theorem dk_oX4_reply {n : Nat} {g : Hp} {F : Nat} {o : Int32 × Hp} {x1 : Int32} {r_X4_attempt : Hp → Nat → Int32 → Int32 → Option (Int32 × Hp)} (R_X4_attempt : ∀ {h : Hp} {y2 : Int32} {y3 : Int32} {o : Int32 × Hp}, DyK n g h → r_X4_attempt h (n + 76) y2 y3 = some o → DyK n g o.2) {r_X4_reply : Hp → Nat → Int32 → Option (Int32 × Hp)} (R_X4_reply : ∀ {h : Hp} {y2 : Int32} {o : Int32 × Hp}, DyK n g h → r_X4_reply h (n + 76) y2 = some o → DyK n g o.2) {r_X4_goOn : Hp → Nat → Int32 → Option (Int32 × Hp)} (R_X4_goOn : ∀ {h : Hp} {y2 : Int32} {o : Int32 × Hp}, DyK n g h → r_X4_goOn h (n + 76) y2 = some o → DyK n g o.2) {r_X4_branch : Hp → Nat → Int32 → Int32 → Option (Int32 × Hp)} (R_X4_branch : ∀ {h : Hp} {y2 : Int32} {y3 : Int32} {o : Int32 × Hp}, DyK n g h → r_X4_branch h (n + 76) y2 y3 = some o → DyK n g o.2) {r_X4_tree : Hp → Nat → Int32 → Option (Int32 × Hp)} (R_X4_tree : ∀ {h : Hp} {y2 : Int32} {o : Int32 × Hp}, DyK n g h → r_X4_tree h (n + 76) y2 = some o → DyK n g o.2) {h : Hp} (k : DyK n g h) (e : oX4_reply F r_X4_attempt r_X4_reply r_X4_goOn r_X4_branch r_X4_tree h (n + 76) x1 = some o) : DyK n g o.2 := by
  unfold oX4_reply at e
  replace e := br_s e
  rcases e with ⟨_, e⟩ | ⟨_, e⟩
  · exact dk_X4_reply_24 R_X4_attempt R_X4_reply R_X4_goOn R_X4_branch R_X4_tree k e
  · replace e := cl_s e
    obtain ⟨o_2, eo_2, e⟩ := e
    have ko_2 : DyK n g o_2.2 := R_X4_tree k eo_2
    replace e := br_s e
    rcases e with ⟨_, e⟩ | ⟨_, e⟩
    · exact dk_X4_reply_24 R_X4_attempt R_X4_reply R_X4_goOn R_X4_branch R_X4_tree ko_2 e
    · exact dk_X4_reply_25 R_X4_attempt R_X4_reply R_X4_goOn R_X4_branch R_X4_tree ko_2 e
theorem dk_oX4_goOn {n : Nat} {g : Hp} {F : Nat} {o : Int32 × Hp} {x1 : Int32} {r_X4_attempt : Hp → Nat → Int32 → Int32 → Option (Int32 × Hp)} (R_X4_attempt : ∀ {h : Hp} {y2 : Int32} {y3 : Int32} {o : Int32 × Hp}, DyK n g h → r_X4_attempt h (n + 76) y2 y3 = some o → DyK n g o.2) {r_X4_reply : Hp → Nat → Int32 → Option (Int32 × Hp)} (R_X4_reply : ∀ {h : Hp} {y2 : Int32} {o : Int32 × Hp}, DyK n g h → r_X4_reply h (n + 76) y2 = some o → DyK n g o.2) {r_X4_goOn : Hp → Nat → Int32 → Option (Int32 × Hp)} (R_X4_goOn : ∀ {h : Hp} {y2 : Int32} {o : Int32 × Hp}, DyK n g h → r_X4_goOn h (n + 76) y2 = some o → DyK n g o.2) {r_X4_branch : Hp → Nat → Int32 → Int32 → Option (Int32 × Hp)} (R_X4_branch : ∀ {h : Hp} {y2 : Int32} {y3 : Int32} {o : Int32 × Hp}, DyK n g h → r_X4_branch h (n + 76) y2 y3 = some o → DyK n g o.2) {r_X4_tree : Hp → Nat → Int32 → Option (Int32 × Hp)} (R_X4_tree : ∀ {h : Hp} {y2 : Int32} {o : Int32 × Hp}, DyK n g h → r_X4_tree h (n + 76) y2 = some o → DyK n g o.2) {h : Hp} (k : DyK n g h) (e : oX4_goOn F r_X4_attempt r_X4_reply r_X4_goOn r_X4_branch r_X4_tree h (n + 76) x1 = some o) : DyK n g o.2 := by
  unfold oX4_goOn at e
  replace e := cl_s e
  obtain ⟨r_1, _, e⟩ := e
  replace e := (gd_s e).2
  replace e := cl_s e
  obtain ⟨r_3, _, e⟩ := e
  replace e := cl_s e
  obtain ⟨r_4, _, e⟩ := e
  replace e := (gd_s e).2
  replace e := br_s e
  rcases e with ⟨_, e⟩ | ⟨_, e⟩
  · replace e := cl_s e
    obtain ⟨r_7, _, e⟩ := e
    replace e := cl_s e
    obtain ⟨o_8, eo_8, e⟩ := e
    have ko_8 : DyK n g o_8.2 := dk_X5_isRoyalHit k eo_8
    replace e := br_s e
    rcases e with ⟨_, e⟩ | ⟨_, e⟩
    · replace e := nm_s e
      obtain ⟨h_10, wh_10, e⟩ := e
      have kh_10 : DyK n g h_10 := by rw [wh_10]; exact dk_wI ko_8
      replace e := cl_s e
      obtain ⟨o_11, eo_11, e⟩ := e
      have ko_11 : DyK n g o_11 := dk_X3_clearPass kh_10 eo_11
      replace e := cl_s e
      obtain ⟨o_12, eo_12, e⟩ := e
      have ko_12 : DyK n g o_12.2 := R_X4_tree ko_11 eo_12
      rw [← Option.some.inj e]; exact ko_12
    · exact dk_X4_goOn_35 R_X4_attempt R_X4_reply R_X4_goOn R_X4_branch R_X4_tree ko_8 e
  · exact dk_X4_goOn_35 R_X4_attempt R_X4_reply R_X4_goOn R_X4_branch R_X4_tree k e
theorem dk_oX4_branch {n : Nat} {g : Hp} {F : Nat} {o : Int32 × Hp} {x1 : Int32} {x2 : Int32} {r_X4_attempt : Hp → Nat → Int32 → Int32 → Option (Int32 × Hp)} (R_X4_attempt : ∀ {h : Hp} {y2 : Int32} {y3 : Int32} {o : Int32 × Hp}, DyK n g h → r_X4_attempt h (n + 76) y2 y3 = some o → DyK n g o.2) {r_X4_reply : Hp → Nat → Int32 → Option (Int32 × Hp)} (R_X4_reply : ∀ {h : Hp} {y2 : Int32} {o : Int32 × Hp}, DyK n g h → r_X4_reply h (n + 76) y2 = some o → DyK n g o.2) {r_X4_goOn : Hp → Nat → Int32 → Option (Int32 × Hp)} (R_X4_goOn : ∀ {h : Hp} {y2 : Int32} {o : Int32 × Hp}, DyK n g h → r_X4_goOn h (n + 76) y2 = some o → DyK n g o.2) {r_X4_branch : Hp → Nat → Int32 → Int32 → Option (Int32 × Hp)} (R_X4_branch : ∀ {h : Hp} {y2 : Int32} {y3 : Int32} {o : Int32 × Hp}, DyK n g h → r_X4_branch h (n + 76) y2 y3 = some o → DyK n g o.2) {r_X4_tree : Hp → Nat → Int32 → Option (Int32 × Hp)} (R_X4_tree : ∀ {h : Hp} {y2 : Int32} {o : Int32 × Hp}, DyK n g h → r_X4_tree h (n + 76) y2 = some o → DyK n g o.2) {h : Hp} (k : DyK n g h) (e : oX4_branch F r_X4_attempt r_X4_reply r_X4_goOn r_X4_branch r_X4_tree h (n + 76) x1 x2 = some o) : DyK n g o.2 := by
  unfold oX4_branch at e
  replace e := br_s e
  rcases e with ⟨_, e⟩ | ⟨_, e⟩
  · replace e := br_s e
    rcases e with ⟨_, e⟩ | ⟨_, e⟩
    · replace e := cl_s e
      obtain ⟨o_3, eo_3, e⟩ := e
      have ko_3 : DyK n g o_3.2 := R_X4_attempt k eo_3
      exact dk_X4_branch_56 R_X4_attempt R_X4_reply R_X4_goOn R_X4_branch R_X4_tree ko_3 e
    · replace e := cl_s e
      obtain ⟨o_2, eo_2, e⟩ := e
      have ko_2 : DyK n g o_2.2 := R_X4_reply k eo_2
      exact dk_X4_branch_56 R_X4_attempt R_X4_reply R_X4_goOn R_X4_branch R_X4_tree ko_2 e
  · replace e := br_s e
    rcases e with ⟨_, e⟩ | ⟨_, e⟩
    · replace e := br_s e
      rcases e with ⟨_, e⟩ | ⟨_, e⟩
      · replace e := cl_s e
        obtain ⟨o_7, eo_7, e⟩ := e
        have ko_7 : DyK n g o_7.2 := R_X4_attempt k eo_7
        exact dk_X4_branch_56 R_X4_attempt R_X4_reply R_X4_goOn R_X4_branch R_X4_tree ko_7 e
      · replace e := cl_s e
        obtain ⟨o_6, eo_6, e⟩ := e
        have ko_6 : DyK n g o_6.2 := R_X4_reply k eo_6
        exact dk_X4_branch_56 R_X4_attempt R_X4_reply R_X4_goOn R_X4_branch R_X4_tree ko_6 e
    · replace e := br_s e
      rcases e with ⟨_, e⟩ | ⟨_, e⟩
      · replace e := br_s e
        rcases e with ⟨_, e⟩ | ⟨_, e⟩
        · replace e := cl_s e
          obtain ⟨o_10, eo_10, e⟩ := e
          have ko_10 : DyK n g o_10.2 := dk_X4_isGoal k eo_10
          replace e := br_s e
          rcases e with ⟨_, e⟩ | ⟨_, e⟩
          · exact dk_X4_branch_92 R_X4_attempt R_X4_reply R_X4_goOn R_X4_branch R_X4_tree ko_10 e
          · exact dk_X4_branch_92 R_X4_attempt R_X4_reply R_X4_goOn R_X4_branch R_X4_tree ko_10 e
        · replace e := cl_s e
          obtain ⟨o_12, eo_12, e⟩ := e
          have ko_12 : DyK n g o_12.2 := R_X4_tree k eo_12
          exact dk_X4_branch_92 R_X4_attempt R_X4_reply R_X4_goOn R_X4_branch R_X4_tree ko_12 e
      · replace e := br_s e
        rcases e with ⟨_, e⟩ | ⟨_, e⟩
        · replace e := br_s e
          rcases e with ⟨_, e⟩ | ⟨_, e⟩
          · replace e := cl_s e
            obtain ⟨o_15, eo_15, e⟩ := e
            have ko_15 : DyK n g o_15.2 := dk_X4_isGoal k eo_15
            replace e := br_s e
            rcases e with ⟨_, e⟩ | ⟨_, e⟩
            · exact dk_X4_branch_126 R_X4_attempt R_X4_reply R_X4_goOn R_X4_branch R_X4_tree ko_15 e
            · exact dk_X4_branch_126 R_X4_attempt R_X4_reply R_X4_goOn R_X4_branch R_X4_tree ko_15 e
          · replace e := cl_s e
            obtain ⟨o_17, eo_17, e⟩ := e
            have ko_17 : DyK n g o_17.2 := R_X4_goOn k eo_17
            exact dk_X4_branch_126 R_X4_attempt R_X4_reply R_X4_goOn R_X4_branch R_X4_tree ko_17 e
        · replace e := cl_s e
          obtain ⟨o_19, eo_19, e⟩ := e
          have ko_19 : DyK n g o_19.2 := R_X4_tree k eo_19
          rw [← Option.some.inj e]; exact ko_19
theorem dk_oX4_tree {n : Nat} {g : Hp} {F : Nat} {o : Int32 × Hp} {x1 : Int32} {r_X4_attempt : Hp → Nat → Int32 → Int32 → Option (Int32 × Hp)} (R_X4_attempt : ∀ {h : Hp} {y2 : Int32} {y3 : Int32} {o : Int32 × Hp}, DyK n g h → r_X4_attempt h (n + 76) y2 y3 = some o → DyK n g o.2) {r_X4_reply : Hp → Nat → Int32 → Option (Int32 × Hp)} (R_X4_reply : ∀ {h : Hp} {y2 : Int32} {o : Int32 × Hp}, DyK n g h → r_X4_reply h (n + 76) y2 = some o → DyK n g o.2) {r_X4_goOn : Hp → Nat → Int32 → Option (Int32 × Hp)} (R_X4_goOn : ∀ {h : Hp} {y2 : Int32} {o : Int32 × Hp}, DyK n g h → r_X4_goOn h (n + 76) y2 = some o → DyK n g o.2) {r_X4_branch : Hp → Nat → Int32 → Int32 → Option (Int32 × Hp)} (R_X4_branch : ∀ {h : Hp} {y2 : Int32} {y3 : Int32} {o : Int32 × Hp}, DyK n g h → r_X4_branch h (n + 76) y2 y3 = some o → DyK n g o.2) {r_X4_tree : Hp → Nat → Int32 → Option (Int32 × Hp)} (R_X4_tree : ∀ {h : Hp} {y2 : Int32} {o : Int32 × Hp}, DyK n g h → r_X4_tree h (n + 76) y2 = some o → DyK n g o.2) {h : Hp} (k : DyK n g h) (e : oX4_tree F r_X4_attempt r_X4_reply r_X4_goOn r_X4_branch r_X4_tree h (n + 76) x1 = some o) : DyK n g o.2 := by
  unfold oX4_tree at e
  replace e := br_s e
  rcases e with ⟨_, e⟩ | ⟨_, e⟩
  · exact dk_X4_tree_18 R_X4_attempt R_X4_reply R_X4_goOn R_X4_branch R_X4_tree k e
  · replace e := br_s e
    rcases e with ⟨_, e⟩ | ⟨_, e⟩
    · exact dk_X4_tree_18 R_X4_attempt R_X4_reply R_X4_goOn R_X4_branch R_X4_tree k e
    · replace e := br_s e
      rcases e with ⟨_, e⟩ | ⟨_, e⟩
      · replace e := cl_s e
        obtain ⟨r_4, _, e⟩ := e
        replace e := (gd_s e).2
        replace e := cl_s e
        obtain ⟨r_6, _, e⟩ := e
        replace e := cl_s e
        obtain ⟨r_7, er_7, e⟩ := e
        have yr_7 := dk_ed (a := 76) (b := 30) k (by decide +kernel) er_7
        subst yr_7
        replace e := cl_s e
        obtain ⟨r_8, _, e⟩ := e
        replace e := (gd_s e).2
        replace e := cl_s e
        obtain ⟨r_10, _, e⟩ := e
        replace e := cl_s e
        obtain ⟨o_11, eo_11, e⟩ := e
        have ko_11 : DyK n g o_11.2 := dk_X5_collect k eo_11
        replace e := br_s e
        rcases e with ⟨_, e⟩ | ⟨_, e⟩
        · exact dk_X4_tree_58 R_X4_attempt R_X4_reply R_X4_goOn R_X4_branch R_X4_tree ko_11 e
        · exact dk_X4_tree_58 R_X4_attempt R_X4_reply R_X4_goOn R_X4_branch R_X4_tree ko_11 e
      · exact dk_X4_tree_18 R_X4_attempt R_X4_reply R_X4_goOn R_X4_branch R_X4_tree k e
theorem dk_qX4_attempt {n : Nat} {g : Hp} {F : Nat} : ∀ d : Nat, (∀ {h : Hp} {x1 : Int32} {x2 : Int32} {o : Int32 × Hp}, DyK n g h → (qX4_attempt F d).1 h (n + 76) x1 x2 = some o → DyK n g o.2) ∧ (∀ {h : Hp} {x1 : Int32} {o : Int32 × Hp}, DyK n g h → (qX4_attempt F d).2.1 h (n + 76) x1 = some o → DyK n g o.2) ∧ (∀ {h : Hp} {x1 : Int32} {o : Int32 × Hp}, DyK n g h → (qX4_attempt F d).2.2.1 h (n + 76) x1 = some o → DyK n g o.2) ∧ (∀ {h : Hp} {x1 : Int32} {x2 : Int32} {o : Int32 × Hp}, DyK n g h → (qX4_attempt F d).2.2.2.1 h (n + 76) x1 x2 = some o → DyK n g o.2) ∧ (∀ {h : Hp} {x1 : Int32} {o : Int32 × Hp}, DyK n g h → (qX4_attempt F d).2.2.2.2 h (n + 76) x1 = some o → DyK n g o.2) := by
  intro d
  induction d with
  | zero => exact ⟨(fun _ e => nomatch e), (fun _ e => nomatch e), (fun _ e => nomatch e), (fun _ e => nomatch e), (fun _ e => nomatch e)⟩
  | succ d ih => exact ⟨(fun k e => dk_oX4_attempt (fun k e => ih.1 k e) (fun k e => ih.2.1 k e) (fun k e => ih.2.2.1 k e) (fun k e => ih.2.2.2.1 k e) (fun k e => ih.2.2.2.2 k e) k e), (fun k e => dk_oX4_reply (fun k e => ih.1 k e) (fun k e => ih.2.1 k e) (fun k e => ih.2.2.1 k e) (fun k e => ih.2.2.2.1 k e) (fun k e => ih.2.2.2.2 k e) k e), (fun k e => dk_oX4_goOn (fun k e => ih.1 k e) (fun k e => ih.2.1 k e) (fun k e => ih.2.2.1 k e) (fun k e => ih.2.2.2.1 k e) (fun k e => ih.2.2.2.2 k e) k e), (fun k e => dk_oX4_branch (fun k e => ih.1 k e) (fun k e => ih.2.1 k e) (fun k e => ih.2.2.1 k e) (fun k e => ih.2.2.2.1 k e) (fun k e => ih.2.2.2.2 k e) k e), (fun k e => dk_oX4_tree (fun k e => ih.1 k e) (fun k e => ih.2.1 k e) (fun k e => ih.2.2.1 k e) (fun k e => ih.2.2.2.1 k e) (fun k e => ih.2.2.2.2 k e) k e)⟩
theorem dk_X4_attempt {n : Nat} {g : Hp} {F : Nat} {o : Int32 × Hp} {x1 : Int32} {x2 : Int32} {h : Hp} (k : DyK n g h) (e : sX4_attempt F h (n + 76) x1 x2 = some o) : DyK n g o.2 := (dk_qX4_attempt 40).1 k e
theorem dk_X4_reply {n : Nat} {g : Hp} {F : Nat} {o : Int32 × Hp} {x1 : Int32} {h : Hp} (k : DyK n g h) (e : sX4_reply F h (n + 76) x1 = some o) : DyK n g o.2 := (dk_qX4_attempt 40).2.1 k e
theorem dk_X4_goOn {n : Nat} {g : Hp} {F : Nat} {o : Int32 × Hp} {x1 : Int32} {h : Hp} (k : DyK n g h) (e : sX4_goOn F h (n + 76) x1 = some o) : DyK n g o.2 := (dk_qX4_attempt 40).2.2.1 k e
theorem dk_X4_branch {n : Nat} {g : Hp} {F : Nat} {o : Int32 × Hp} {x1 : Int32} {x2 : Int32} {h : Hp} (k : DyK n g h) (e : sX4_branch F h (n + 76) x1 x2 = some o) : DyK n g o.2 := (dk_qX4_attempt 40).2.2.2.1 k e
theorem dk_X4_tree {n : Nat} {g : Hp} {F : Nat} {o : Int32 × Hp} {x1 : Int32} {h : Hp} (k : DyK n g h) (e : sX4_tree F h (n + 76) x1 = some o) : DyK n g o.2 := (dk_qX4_attempt 40).2.2.2.2 k e
theorem dk_X11_rows_69 {n : Nat} {g : Hp} {F : Nat} {o : Int32 × Hp} {t0 : Int32} {h : Hp} (k : DyK n g h) (e : sX11_rows_69 F h t0 = some o) : DyK n g o.2 := by
  unfold sX11_rows_69 at e
  rw [← Option.some.inj e]; exact k
theorem dk_X11_rows {n : Nat} {g : Hp} {F : Nat} {o : Int32 × Hp} {x1 : Int32} {x2 : Int32} {h : Hp} (k : DyK n g h) (e : sX11_rows F h n x1 x2 = some o) : DyK n g o.2 := by
  unfold sX11_rows at e
  replace e := br_s e
  rcases e with ⟨_, e⟩ | ⟨_, e⟩
  · exact dk_X11_rows_10 k e
  · replace e := br_s e
    rcases e with ⟨_, e⟩ | ⟨_, e⟩
    · replace e := cl_s e
      obtain ⟨o_3, eo_3, e⟩ := e
      have ko_3 : DyK n g o_3.2 := dk_X11_isPlace k eo_3
      replace e := br_s e
      rcases e with ⟨_, e⟩ | ⟨_, e⟩
      · rw [← Option.some.inj e]; exact ko_3
      · replace e := br_s e
        rcases e with ⟨_, e⟩ | ⟨_, e⟩
        · rw [← Option.some.inj e]; exact ko_3
        · replace e := cl_s e
          obtain ⟨r_6, _, e⟩ := e
          replace e := cl_s e
          obtain ⟨r_7, _, e⟩ := e
          replace e := (gd_s e).2
          replace e := cl_s e
          obtain ⟨r_9, _, e⟩ := e
          replace e := cl_s e
          obtain ⟨o_10, eo_10, e⟩ := e
          have ko_10 : DyK n g o_10 := dk_X4_setRows ko_3 eo_10
          replace e := cl_s e
          obtain ⟨r_11, er_11, e⟩ := e
          have yr_11 := dk_ed (a := 0) (b := 76) ko_10 (by decide +kernel) er_11
          subst yr_11
          replace e := cl_s e
          obtain ⟨o_12, eo_12, e⟩ := e
          have ko_12 : DyK n g o_12.2 := dk_X4_tree ko_10 eo_12
          replace e := cl_s e
          obtain ⟨r_13, _, e⟩ := e
          replace e := br_s e
          rcases e with ⟨_, e⟩ | ⟨_, e⟩
          · exact dk_X11_rows_69 ko_12 e
          · exact dk_X11_rows_69 ko_12 e
    · exact dk_X11_rows_10 k e
theorem dk_X11_ended_26 {n : Nat} {g : Hp} {F : Nat} {o : Int32 × Hp} {t0 : Int32} {h : Hp} (k : DyK n g h) (e : sX11_ended_26 F h t0 = some o) : DyK n g o.2 := by
  unfold sX11_ended_26 at e
  rw [← Option.some.inj e]; exact k
theorem dk_X11_ended {n : Nat} {g : Hp} {F : Nat} {o : Int32 × Hp} {x1 : Int32} {h : Hp} (k : DyK n g h) (e : sX11_ended F h n x1 = some o) : DyK n g o.2 := by
  unfold sX11_ended at e
  replace e := cl_s e
  obtain ⟨o_1, eo_1, e⟩ := e
  have ko_1 : DyK n g o_1.2 := dk_X11_isPlace k eo_1
  replace e := br_s e
  rcases e with ⟨_, e⟩ | ⟨_, e⟩
  · exact dk_X11_ended_26 ko_1 e
  · replace e := cl_s e
    obtain ⟨r_3, er_3, e⟩ := e
    have yr_3 := dk_ed (a := 0) (b := 30) ko_1 (by decide +kernel) er_3
    subst yr_3
    replace e := cl_s e
    obtain ⟨r_4, _, e⟩ := e
    replace e := (gd_s e).2
    replace e := cl_s e
    obtain ⟨r_6, _, e⟩ := e
    replace e := cl_s e
    obtain ⟨o_7, eo_7, e⟩ := e
    have ko_7 : DyK n g o_7.2 := dk_X5_endOf ko_1 eo_7
    exact dk_X11_ended_26 ko_7 e
theorem dk_X11_result {n : Nat} {g : Hp} {F : Nat} {o : Int32 × Hp} {x1 : Int32} {h : Hp} (k : DyK n g h) (e : sX11_result F h n x1 = some o) : DyK n g o.2 := by
  unfold sX11_result at e
  replace e := cl_s e
  obtain ⟨o_1, eo_1, e⟩ := e
  have ko_1 : DyK n g o_1.2 := dk_X11_isPlace k eo_1
  replace e := br_s e
  rcases e with ⟨_, e⟩ | ⟨_, e⟩
  · rw [← Option.some.inj e]; exact ko_1
  · replace e := cl_s e
    obtain ⟨r_3, _, e⟩ := e
    replace e := cl_s e
    obtain ⟨r_4, _, e⟩ := e
    replace e := (gd_s e).2
    replace e := cl_s e
    obtain ⟨r_6, _, e⟩ := e
    replace e := cl_s e
    obtain ⟨r_7, er_7, e⟩ := e
    have yr_7 := dk_ed (a := 0) (b := 30) ko_1 (by decide +kernel) er_7
    subst yr_7
    replace e := cl_s e
    obtain ⟨r_8, _, e⟩ := e
    replace e := (gd_s e).2
    replace e := cl_s e
    obtain ⟨r_10, _, e⟩ := e
    replace e := cl_s e
    obtain ⟨o_11, eo_11, e⟩ := e
    have ko_11 : DyK n g o_11.2 := dk_X5_endOf ko_1 eo_11
    replace e := cl_s e
    obtain ⟨o_12, eo_12, e⟩ := e
    have ko_12 : DyK n g o_12.2 := dk_X5_winnerOf ko_11 eo_12
    rw [← Option.some.inj e]; exact ko_12
theorem dk_X11_say_15 {n : Nat} {g : Hp} {F : Nat} {o : Int32 × Hp} {h : Hp} (k : DyK n g h) (e : sX11_say_15 F h = some o) : DyK n g o.2 := by
  unfold sX11_say_15 at e
  rw [← Option.some.inj e]; exact k
theorem dk_X9_appendAll_2 {n : Nat} {g : Hp} {F : Nat} {o : Hp} : ∀ (f : Nat) {h : Hp} {x0 : Nat} {x1 : Nat} {x2 : Int32}, DyK n g h → sX9_appendAll_2 F f h x0 x1 x2 = some o → DyK n g o := by
  intro f
  induction f with
  | zero => intro h x0 x1 x2 _ e; exact absurd e (by rw [sX9_appendAll_2]; exact fun z => nomatch z)
  | succ f ih =>
    intro h x0 x1 x2 k e
    rw [sX9_appendAll_2] at e
    replace e := br_s e
    rcases e with ⟨_, e⟩ | ⟨_, e⟩
    · rw [← Option.some.inj e]; exact k
    · replace e := (gd_s e).2
      replace e := cl_s e
      obtain ⟨o_3, eo_3, e⟩ := e
      have ko_3 : DyK n g o_3 := dk_X9_append k eo_3
      replace e := nm_s e
      obtain ⟨v_4, wv_4, e⟩ := e
      exact ih ko_3 e
theorem dk_X9_appendAll {n : Nat} {g : Hp} {F : Nat} {o : Hp} {x0 : Nat} {x1 : Nat} {h : Hp} (k : DyK n g h) (e : sX9_appendAll F h x0 x1 = some o) : DyK n g o := by
  unfold sX9_appendAll at e
  exact dk_X9_appendAll_2 F k e
theorem dk_X8_writeMove_44 {n : Nat} {g : Hp} {F : Nat} {o : Hp} {t0 : Nat} {t1 : Nat} {h : Hp} (k : DyK n g h) (e : sX8_writeMove_44 F h t0 t1 = some o) : DyK n g o := by
  unfold sX8_writeMove_44 at e
  replace e := cl_s e
  obtain ⟨o_1, eo_1, e⟩ := e
  have ko_1 : DyK n g o_1 := dk_X9_appendAll k eo_1
  rw [← Option.some.inj e]; exact ko_1
theorem dk_X8_writeMove_187 {n : Nat} {g : Hp} {F : Nat} {o : Hp} {h : Hp} (k : DyK n g h) (e : sX8_writeMove_187 F h = some o) : DyK n g o := by
  unfold sX8_writeMove_187 at e
  rw [← Option.some.inj e]; exact k
theorem dk_X8_writeMove_141 {n : Nat} {g : Hp} {F : Nat} {o : Hp} {x0 : Nat} {x4 : Nat} {x5 : Int32} {x6 : Int32} {h : Hp} (k : DyK n g h) (e : sX8_writeMove_141 F h x0 x4 x5 x6 = some o) : DyK n g o := by
  unfold sX8_writeMove_141 at e
  replace e := cl_s e
  obtain ⟨r_1, _, e⟩ := e
  replace e := cl_s e
  obtain ⟨o_2, eo_2, e⟩ := e
  have ko_2 : DyK n g o_2 := dk_X7_writeSquare k eo_2
  replace e := cl_s e
  obtain ⟨o_3, eo_3, e⟩ := e
  have ko_3 : DyK n g o_3.2 := dk_X5_becomes ko_2 eo_3
  replace e := br_s e
  rcases e with ⟨_, e⟩ | ⟨_, e⟩
  · exact dk_X8_writeMove_187 ko_3 e
  · replace e := cl_s e
    obtain ⟨o_5, eo_5, e⟩ := e
    have ko_5 : DyK n g o_5 := dk_X9_append ko_3 eo_5
    replace e := cl_s e
    obtain ⟨r_6, _, e⟩ := e
    replace e := cl_s e
    obtain ⟨o_7, eo_7, e⟩ := e
    have ko_7 : DyK n g o_7.2 := dk_X5_becomes ko_5 eo_7
    replace e := cl_s e
    obtain ⟨o_8, eo_8, e⟩ := e
    have ko_8 : DyK n g o_8.2 := dk_X1_letterOf ko_7 eo_8
    replace e := cl_s e
    obtain ⟨o_9, eo_9, e⟩ := e
    have ko_9 : DyK n g o_9 := dk_X9_append ko_8 eo_9
    exact dk_X8_writeMove_187 ko_9 e
theorem dk_X8_writeMove_125 {n : Nat} {g : Hp} {F : Nat} {o : Hp} {x0 : Nat} {x4 : Nat} {x5 : Int32} {x6 : Int32} {h : Hp} (k : DyK n g h) (e : sX8_writeMove_125 F h x0 x4 x5 x6 = some o) : DyK n g o := by
  unfold sX8_writeMove_125 at e
  replace e := cl_s e
  obtain ⟨o_1, eo_1, e⟩ := e
  have ko_1 : DyK n g o_1.2 := dk_X5_takenBy k eo_1
  replace e := br_s e
  rcases e with ⟨_, e⟩ | ⟨_, e⟩
  · exact dk_X8_writeMove_141 ko_1 e
  · replace e := cl_s e
    obtain ⟨o_3, eo_3, e⟩ := e
    have ko_3 : DyK n g o_3 := dk_X9_append ko_1 eo_3
    exact dk_X8_writeMove_141 ko_3 e
theorem dk_X8_writeLeft_254 {n : Nat} {g : Hp} {F : Nat} {o : Hp} {h : Hp} (k : DyK n g h) (e : sX8_writeLeft_254 F h = some o) : DyK n g o := by
  unfold sX8_writeLeft_254 at e
  rw [← Option.some.inj e]; exact k
