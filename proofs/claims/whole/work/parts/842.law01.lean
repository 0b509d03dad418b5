set_option maxRecDepth 20000 in
theorem moL_law_1277 {o : Int32 × Hp} {k_18 : Hp → Nat → Nat → Int32 → Option (Int32 × Hp)} {F L : Nat} {xs : Nat → Int32} (mk_18 : ∀ (h : Hp) (x1 : Nat) (x2 : Nat) (x3 : Int32), k_18 h x1 x2 x3 = some o → Le h o.2) {h : Hp} {x1 : Nat} {x2 : Nat} {x3 : Int32} (hE : sL_law_1277 F L xs k_18 h x1 x2 x3 = some o) : Le h o.2 := by
  obtain ⟨v_1, ev_1, hE⟩ := nm_e2 hE
  exact mk_18 _ _ _ _ hE
set_option maxRecDepth 20000 in
theorem moL_law_254 {o : Int32 × Hp} {k_18 : Hp → Nat → Nat → Int32 → Option (Int32 × Hp)} {F L : Nat} {xs : Nat → Int32} (mk_18 : ∀ (h : Hp) (x1 : Nat) (x2 : Nat) (x3 : Int32), k_18 h x1 x2 x3 = some o → Le h o.2) {h : Hp} {x1 : Nat} {x2 : Nat} {x3 : Int32} {t0 : Int32} {t1 : Int32} (hE : sL_law_254 F L xs k_18 h x1 x2 x3 t0 t1 = some o) : Le h o.2 := by
  rcases br_e hE with ⟨_, hE⟩ | ⟨_, hE⟩
  · exact moL_law_1277 mk_18 hE
  · exact le_some2 hE
set_option maxRecDepth 20000 in
theorem moL_law_225 {o : Int32 × Hp} {k_18 : Hp → Nat → Nat → Int32 → Option (Int32 × Hp)} {F L : Nat} {xs : Nat → Int32} (mk_18 : ∀ (h : Hp) (x1 : Nat) (x2 : Nat) (x3 : Int32), k_18 h x1 x2 x3 = some o → Le h o.2) {h : Hp} {x1 : Nat} {x2 : Nat} {x3 : Int32} {t0 : Int32} (hE : sL_law_225 F L xs k_18 h x1 x2 x3 t0 = some o) : Le h o.2 := by
  obtain ⟨g_1, hE⟩ := gd_e hE
  obtain ⟨g_2, hE⟩ := gd_e hE
  obtain ⟨g_3, hE⟩ := gd_e hE
  obtain ⟨g_4, hE⟩ := gd_e hE
  obtain ⟨g_5, hE⟩ := gd_e hE
  obtain ⟨o_6, eo_6, hE⟩ := cl_e hE
  refine (moX15_feed eo_6).tr ?_
  exact moL_law_254 mk_18 hE
set_option maxRecDepth 20000 in
theorem moL_law_277 {o : Int32 × Hp} {k_18 : Hp → Nat → Nat → Int32 → Option (Int32 × Hp)} {F L : Nat} {xs : Nat → Int32} (mk_18 : ∀ (h : Hp) (x1 : Nat) (x2 : Nat) (x3 : Int32), k_18 h x1 x2 x3 = some o → Le h o.2) {h : Hp} {x1 : Nat} {x2 : Nat} {x3 : Int32} {t0 : Int32} {t1 : Int32} (hE : sL_law_277 F L xs k_18 h x1 x2 x3 t0 t1 = some o) : Le h o.2 := by
  rcases br_e hE with ⟨_, hE⟩ | ⟨_, hE⟩
  · exact moL_law_1277 mk_18 hE
  · exact le_some2 hE
set_option maxRecDepth 20000 in
theorem moL_law_268 {o : Int32 × Hp} {k_18 : Hp → Nat → Nat → Int32 → Option (Int32 × Hp)} {F L : Nat} {xs : Nat → Int32} (mk_18 : ∀ (h : Hp) (x1 : Nat) (x2 : Nat) (x3 : Int32), k_18 h x1 x2 x3 = some o → Le h o.2) {h : Hp} {x1 : Nat} {x2 : Nat} {x3 : Int32} {t0 : Int32} (hE : sL_law_268 F L xs k_18 h x1 x2 x3 t0 = some o) : Le h o.2 := by
  obtain ⟨g_1, hE⟩ := gd_e hE
  obtain ⟨o_2, eo_2, hE⟩ := cl_e hE
  refine (moX15_end eo_2).tr ?_
  exact moL_law_277 mk_18 hE
set_option maxRecDepth 20000 in
theorem moL_law_290 {o : Int32 × Hp} {k_18 : Hp → Nat → Nat → Int32 → Option (Int32 × Hp)} {F L : Nat} {xs : Nat → Int32} (mk_18 : ∀ (h : Hp) (x1 : Nat) (x2 : Nat) (x3 : Int32), k_18 h x1 x2 x3 = some o → Le h o.2) {h : Hp} {x1 : Nat} {x2 : Nat} {x3 : Int32} {t0 : Int32} {t1 : Int32} (hE : sL_law_290 F L xs k_18 h x1 x2 x3 t0 t1 = some o) : Le h o.2 := by
  rcases br_e hE with ⟨_, hE⟩ | ⟨_, hE⟩
  · exact moL_law_1277 mk_18 hE
  · exact le_some2 hE
set_option maxRecDepth 20000 in
theorem moL_law_286 {o : Int32 × Hp} {k_18 : Hp → Nat → Nat → Int32 → Option (Int32 × Hp)} {F L : Nat} {xs : Nat → Int32} (mk_18 : ∀ (h : Hp) (x1 : Nat) (x2 : Nat) (x3 : Int32), k_18 h x1 x2 x3 = some o → Le h o.2) {h : Hp} {x1 : Nat} {x2 : Nat} {x3 : Int32} {t0 : Int32} (hE : sL_law_286 F L xs k_18 h x1 x2 x3 t0 = some o) : Le h o.2 := by
  obtain ⟨o_1, eo_1, hE⟩ := cl_e hE
  refine (moX15_rules eo_1).tr ?_
  exact moL_law_290 mk_18 hE
set_option maxRecDepth 20000 in
theorem moL_law_313 {o : Int32 × Hp} {k_18 : Hp → Nat → Nat → Int32 → Option (Int32 × Hp)} {F L : Nat} {xs : Nat → Int32} (mk_18 : ∀ (h : Hp) (x1 : Nat) (x2 : Nat) (x3 : Int32), k_18 h x1 x2 x3 = some o → Le h o.2) {h : Hp} {x1 : Nat} {x2 : Nat} {x3 : Int32} {t0 : Int32} {t1 : Int32} (hE : sL_law_313 F L xs k_18 h x1 x2 x3 t0 t1 = some o) : Le h o.2 := by
  rcases br_e hE with ⟨_, hE⟩ | ⟨_, hE⟩
  · exact moL_law_1277 mk_18 hE
  · exact le_some2 hE
set_option maxRecDepth 20000 in
theorem moL_law_304 {o : Int32 × Hp} {k_18 : Hp → Nat → Nat → Int32 → Option (Int32 × Hp)} {F L : Nat} {xs : Nat → Int32} (mk_18 : ∀ (h : Hp) (x1 : Nat) (x2 : Nat) (x3 : Int32), k_18 h x1 x2 x3 = some o → Le h o.2) {h : Hp} {x1 : Nat} {x2 : Nat} {x3 : Int32} {t0 : Int32} (hE : sL_law_304 F L xs k_18 h x1 x2 x3 t0 = some o) : Le h o.2 := by
  obtain ⟨g_1, hE⟩ := gd_e hE
  obtain ⟨o_2, eo_2, hE⟩ := cl_e hE
  refine (moX15_told eo_2).tr ?_
  exact moL_law_313 mk_18 hE
set_option maxRecDepth 20000 in
theorem moL_law_336 {o : Int32 × Hp} {k_18 : Hp → Nat → Nat → Int32 → Option (Int32 × Hp)} {F L : Nat} {xs : Nat → Int32} (mk_18 : ∀ (h : Hp) (x1 : Nat) (x2 : Nat) (x3 : Int32), k_18 h x1 x2 x3 = some o → Le h o.2) {h : Hp} {x1 : Nat} {x2 : Nat} {x3 : Int32} {t0 : Int32} {t1 : Int32} (hE : sL_law_336 F L xs k_18 h x1 x2 x3 t0 t1 = some o) : Le h o.2 := by
  rcases br_e hE with ⟨_, hE⟩ | ⟨_, hE⟩
  · exact moL_law_1277 mk_18 hE
  · exact le_some2 hE
set_option maxRecDepth 20000 in
theorem moL_law_327 {o : Int32 × Hp} {k_18 : Hp → Nat → Nat → Int32 → Option (Int32 × Hp)} {F L : Nat} {xs : Nat → Int32} (mk_18 : ∀ (h : Hp) (x1 : Nat) (x2 : Nat) (x3 : Int32), k_18 h x1 x2 x3 = some o → Le h o.2) {h : Hp} {x1 : Nat} {x2 : Nat} {x3 : Int32} {t0 : Int32} (hE : sL_law_327 F L xs k_18 h x1 x2 x3 t0 = some o) : Le h o.2 := by
  obtain ⟨g_1, hE⟩ := gd_e hE
  obtain ⟨o_2, eo_2, hE⟩ := cl_e hE
  refine (moX15_out eo_2).tr ?_
  exact moL_law_336 mk_18 hE
set_option maxRecDepth 20000 in
theorem moL_law_349 {o : Int32 × Hp} {k_18 : Hp → Nat → Nat → Int32 → Option (Int32 × Hp)} {F L : Nat} {xs : Nat → Int32} (mk_18 : ∀ (h : Hp) (x1 : Nat) (x2 : Nat) (x3 : Int32), k_18 h x1 x2 x3 = some o → Le h o.2) {h : Hp} {x1 : Nat} {x2 : Nat} {x3 : Int32} {t0 : Int32} {t1 : Int32} (hE : sL_law_349 F L xs k_18 h x1 x2 x3 t0 t1 = some o) : Le h o.2 := by
  rcases br_e hE with ⟨_, hE⟩ | ⟨_, hE⟩
  · exact moL_law_1277 mk_18 hE
  · exact le_some2 hE
set_option maxRecDepth 20000 in
theorem moL_law_345 {o : Int32 × Hp} {k_18 : Hp → Nat → Nat → Int32 → Option (Int32 × Hp)} {F L : Nat} {xs : Nat → Int32} (mk_18 : ∀ (h : Hp) (x1 : Nat) (x2 : Nat) (x3 : Int32), k_18 h x1 x2 x3 = some o → Le h o.2) {h : Hp} {x1 : Nat} {x2 : Nat} {x3 : Int32} {t0 : Int32} (hE : sL_law_345 F L xs k_18 h x1 x2 x3 t0 = some o) : Le h o.2 := by
  obtain ⟨o_1, eo_1, hE⟩ := cl_e hE
  refine (moX15_position eo_1).tr ?_
  exact moL_law_349 mk_18 hE
set_option maxRecDepth 20000 in
theorem moL_law_372 {o : Int32 × Hp} {k_18 : Hp → Nat → Nat → Int32 → Option (Int32 × Hp)} {F L : Nat} {xs : Nat → Int32} (mk_18 : ∀ (h : Hp) (x1 : Nat) (x2 : Nat) (x3 : Int32), k_18 h x1 x2 x3 = some o → Le h o.2) {h : Hp} {x1 : Nat} {x2 : Nat} {x3 : Int32} {t0 : Int32} {t1 : Int32} (hE : sL_law_372 F L xs k_18 h x1 x2 x3 t0 t1 = some o) : Le h o.2 := by
  rcases br_e hE with ⟨_, hE⟩ | ⟨_, hE⟩
  · exact moL_law_1277 mk_18 hE
  · exact le_some2 hE
set_option maxRecDepth 20000 in
theorem moL_law_363 {o : Int32 × Hp} {k_18 : Hp → Nat → Nat → Int32 → Option (Int32 × Hp)} {F L : Nat} {xs : Nat → Int32} (mk_18 : ∀ (h : Hp) (x1 : Nat) (x2 : Nat) (x3 : Int32), k_18 h x1 x2 x3 = some o → Le h o.2) {h : Hp} {x1 : Nat} {x2 : Nat} {x3 : Int32} {t0 : Int32} (hE : sL_law_363 F L xs k_18 h x1 x2 x3 t0 = some o) : Le h o.2 := by
  obtain ⟨g_1, hE⟩ := gd_e hE
  obtain ⟨o_2, eo_2, hE⟩ := cl_e hE
  refine (moX15_drop eo_2).tr ?_
  exact moL_law_372 mk_18 hE
set_option maxRecDepth 20000 in
theorem moL_law_395 {o : Int32 × Hp} {k_18 : Hp → Nat → Nat → Int32 → Option (Int32 × Hp)} {F L : Nat} {xs : Nat → Int32} (mk_18 : ∀ (h : Hp) (x1 : Nat) (x2 : Nat) (x3 : Int32), k_18 h x1 x2 x3 = some o → Le h o.2) {h : Hp} {x1 : Nat} {x2 : Nat} {x3 : Int32} {t0 : Int32} {t1 : Int32} (hE : sL_law_395 F L xs k_18 h x1 x2 x3 t0 t1 = some o) : Le h o.2 := by
  rcases br_e hE with ⟨_, hE⟩ | ⟨_, hE⟩
  · exact moL_law_1277 mk_18 hE
  · exact le_some2 hE
set_option maxRecDepth 20000 in
theorem moL_law_386 {o : Int32 × Hp} {k_18 : Hp → Nat → Nat → Int32 → Option (Int32 × Hp)} {F L : Nat} {xs : Nat → Int32} (mk_18 : ∀ (h : Hp) (x1 : Nat) (x2 : Nat) (x3 : Int32), k_18 h x1 x2 x3 = some o → Le h o.2) {h : Hp} {x1 : Nat} {x2 : Nat} {x3 : Int32} {t0 : Int32} (hE : sL_law_386 F L xs k_18 h x1 x2 x3 t0 = some o) : Le h o.2 := by
  obtain ⟨g_1, hE⟩ := gd_e hE
  obtain ⟨o_2, eo_2, hE⟩ := cl_e hE
  refine (moX15_write eo_2).tr ?_
  exact moL_law_395 mk_18 hE
set_option maxRecDepth 20000 in
theorem moL_law_428 {o : Int32 × Hp} {k_18 : Hp → Nat → Nat → Int32 → Option (Int32 × Hp)} {F L : Nat} {xs : Nat → Int32} (mk_18 : ∀ (h : Hp) (x1 : Nat) (x2 : Nat) (x3 : Int32), k_18 h x1 x2 x3 = some o → Le h o.2) {h : Hp} {x1 : Nat} {x2 : Nat} {x3 : Int32} {t0 : Int32} {t1 : Int32} (hE : sL_law_428 F L xs k_18 h x1 x2 x3 t0 t1 = some o) : Le h o.2 := by
  rcases br_e hE with ⟨_, hE⟩ | ⟨_, hE⟩
  · exact moL_law_1277 mk_18 hE
  · exact le_some2 hE
set_option maxRecDepth 20000 in
theorem moL_law_414 {o : Int32 × Hp} {k_18 : Hp → Nat → Nat → Int32 → Option (Int32 × Hp)} {F L : Nat} {xs : Nat → Int32} (mk_18 : ∀ (h : Hp) (x1 : Nat) (x2 : Nat) (x3 : Int32), k_18 h x1 x2 x3 = some o → Le h o.2) {h : Hp} {x1 : Nat} {x2 : Nat} {x3 : Int32} {t0 : Int32} (hE : sL_law_414 F L xs k_18 h x1 x2 x3 t0 = some o) : Le h o.2 := by
  obtain ⟨g_1, hE⟩ := gd_e hE
  obtain ⟨g_2, hE⟩ := gd_e hE
  obtain ⟨o_3, eo_3, hE⟩ := cl_e hE
  refine (moX15_same eo_3).tr ?_
  exact moL_law_428 mk_18 hE
set_option maxRecDepth 20000 in
theorem moL_law_461 {o : Int32 × Hp} {k_18 : Hp → Nat → Nat → Int32 → Option (Int32 × Hp)} {F L : Nat} {xs : Nat → Int32} (mk_18 : ∀ (h : Hp) (x1 : Nat) (x2 : Nat) (x3 : Int32), k_18 h x1 x2 x3 = some o → Le h o.2) {h : Hp} {x1 : Nat} {x2 : Nat} {x3 : Int32} {t0 : Int32} {t1 : Int32} (hE : sL_law_461 F L xs k_18 h x1 x2 x3 t0 t1 = some o) : Le h o.2 := by
  rcases br_e hE with ⟨_, hE⟩ | ⟨_, hE⟩
  · exact moL_law_1277 mk_18 hE
  · exact le_some2 hE
set_option maxRecDepth 20000 in
theorem moL_law_447 {o : Int32 × Hp} {k_18 : Hp → Nat → Nat → Int32 → Option (Int32 × Hp)} {F L : Nat} {xs : Nat → Int32} (mk_18 : ∀ (h : Hp) (x1 : Nat) (x2 : Nat) (x3 : Int32), k_18 h x1 x2 x3 = some o → Le h o.2) {h : Hp} {x1 : Nat} {x2 : Nat} {x3 : Int32} {t0 : Int32} (hE : sL_law_447 F L xs k_18 h x1 x2 x3 t0 = some o) : Le h o.2 := by
  obtain ⟨g_1, hE⟩ := gd_e hE
  obtain ⟨g_2, hE⟩ := gd_e hE
  obtain ⟨o_3, eo_3, hE⟩ := cl_e hE
  refine (moX15_at eo_3).tr ?_
  exact moL_law_461 mk_18 hE
set_option maxRecDepth 20000 in
theorem moL_law_494 {o : Int32 × Hp} {k_18 : Hp → Nat → Nat → Int32 → Option (Int32 × Hp)} {F L : Nat} {xs : Nat → Int32} (mk_18 : ∀ (h : Hp) (x1 : Nat) (x2 : Nat) (x3 : Int32), k_18 h x1 x2 x3 = some o → Le h o.2) {h : Hp} {x1 : Nat} {x2 : Nat} {x3 : Int32} {t0 : Int32} {t1 : Int32} (hE : sL_law_494 F L xs k_18 h x1 x2 x3 t0 t1 = some o) : Le h o.2 := by
  rcases br_e hE with ⟨_, hE⟩ | ⟨_, hE⟩
  · exact moL_law_1277 mk_18 hE
  · exact le_some2 hE
set_option maxRecDepth 20000 in
theorem moL_law_480 {o : Int32 × Hp} {k_18 : Hp → Nat → Nat → Int32 → Option (Int32 × Hp)} {F L : Nat} {xs : Nat → Int32} (mk_18 : ∀ (h : Hp) (x1 : Nat) (x2 : Nat) (x3 : Int32), k_18 h x1 x2 x3 = some o → Le h o.2) {h : Hp} {x1 : Nat} {x2 : Nat} {x3 : Int32} {t0 : Int32} (hE : sL_law_480 F L xs k_18 h x1 x2 x3 t0 = some o) : Le h o.2 := by
  obtain ⟨g_1, hE⟩ := gd_e hE
  obtain ⟨g_2, hE⟩ := gd_e hE
  obtain ⟨o_3, eo_3, hE⟩ := cl_e hE
  refine (moX15_figure eo_3).tr ?_
  exact moL_law_494 mk_18 hE
set_option maxRecDepth 20000 in
theorem moL_law_537 {o : Int32 × Hp} {k_18 : Hp → Nat → Nat → Int32 → Option (Int32 × Hp)} {F L : Nat} {xs : Nat → Int32} (mk_18 : ∀ (h : Hp) (x1 : Nat) (x2 : Nat) (x3 : Int32), k_18 h x1 x2 x3 = some o → Le h o.2) {h : Hp} {x1 : Nat} {x2 : Nat} {x3 : Int32} {t0 : Int32} {t1 : Int32} (hE : sL_law_537 F L xs k_18 h x1 x2 x3 t0 t1 = some o) : Le h o.2 := by
  rcases br_e hE with ⟨_, hE⟩ | ⟨_, hE⟩
  · exact moL_law_1277 mk_18 hE
  · exact le_some2 hE
set_option maxRecDepth 20000 in
theorem moL_law_518 {o : Int32 × Hp} {k_18 : Hp → Nat → Nat → Int32 → Option (Int32 × Hp)} {F L : Nat} {xs : Nat → Int32} (mk_18 : ∀ (h : Hp) (x1 : Nat) (x2 : Nat) (x3 : Int32), k_18 h x1 x2 x3 = some o → Le h o.2) {h : Hp} {x1 : Nat} {x2 : Nat} {x3 : Int32} {t0 : Int32} (hE : sL_law_518 F L xs k_18 h x1 x2 x3 t0 = some o) : Le h o.2 := by
  obtain ⟨g_1, hE⟩ := gd_e hE
  obtain ⟨g_2, hE⟩ := gd_e hE
  obtain ⟨g_3, hE⟩ := gd_e hE
  obtain ⟨o_4, eo_4, hE⟩ := cl_e hE
  refine (moX15_attacked eo_4).tr ?_
  exact moL_law_537 mk_18 hE
set_option maxRecDepth 20000 in
theorem moL_law_560 {o : Int32 × Hp} {k_18 : Hp → Nat → Nat → Int32 → Option (Int32 × Hp)} {F L : Nat} {xs : Nat → Int32} (mk_18 : ∀ (h : Hp) (x1 : Nat) (x2 : Nat) (x3 : Int32), k_18 h x1 x2 x3 = some o → Le h o.2) {h : Hp} {x1 : Nat} {x2 : Nat} {x3 : Int32} {t0 : Int32} {t1 : Int32} (hE : sL_law_560 F L xs k_18 h x1 x2 x3 t0 t1 = some o) : Le h o.2 := by
  rcases br_e hE with ⟨_, hE⟩ | ⟨_, hE⟩
  · exact moL_law_1277 mk_18 hE
  · exact le_some2 hE
set_option maxRecDepth 20000 in
theorem moL_law_551 {o : Int32 × Hp} {k_18 : Hp → Nat → Nat → Int32 → Option (Int32 × Hp)} {F L : Nat} {xs : Nat → Int32} (mk_18 : ∀ (h : Hp) (x1 : Nat) (x2 : Nat) (x3 : Int32), k_18 h x1 x2 x3 = some o → Le h o.2) {h : Hp} {x1 : Nat} {x2 : Nat} {x3 : Int32} {t0 : Int32} (hE : sL_law_551 F L xs k_18 h x1 x2 x3 t0 = some o) : Le h o.2 := by
  obtain ⟨g_1, hE⟩ := gd_e hE
  obtain ⟨o_2, eo_2, hE⟩ := cl_e hE
  refine (moX15_moves eo_2).tr ?_
  exact moL_law_560 mk_18 hE
set_option maxRecDepth 20000 in
theorem moL_law_603 {o : Int32 × Hp} {k_18 : Hp → Nat → Nat → Int32 → Option (Int32 × Hp)} {F L : Nat} {xs : Nat → Int32} (mk_18 : ∀ (h : Hp) (x1 : Nat) (x2 : Nat) (x3 : Int32), k_18 h x1 x2 x3 = some o → Le h o.2) {h : Hp} {x1 : Nat} {x2 : Nat} {x3 : Int32} {t0 : Int32} {t1 : Int32} (hE : sL_law_603 F L xs k_18 h x1 x2 x3 t0 t1 = some o) : Le h o.2 := by
  rcases br_e hE with ⟨_, hE⟩ | ⟨_, hE⟩
  · exact moL_law_1277 mk_18 hE
  · exact le_some2 hE
set_option maxRecDepth 20000 in
theorem moL_law_584 {o : Int32 × Hp} {k_18 : Hp → Nat → Nat → Int32 → Option (Int32 × Hp)} {F L : Nat} {xs : Nat → Int32} (mk_18 : ∀ (h : Hp) (x1 : Nat) (x2 : Nat) (x3 : Int32), k_18 h x1 x2 x3 = some o → Le h o.2) {h : Hp} {x1 : Nat} {x2 : Nat} {x3 : Int32} {t0 : Int32} (hE : sL_law_584 F L xs k_18 h x1 x2 x3 t0 = some o) : Le h o.2 := by
  obtain ⟨g_1, hE⟩ := gd_e hE
  obtain ⟨g_2, hE⟩ := gd_e hE
  obtain ⟨g_3, hE⟩ := gd_e hE
  obtain ⟨o_4, eo_4, hE⟩ := cl_e hE
  refine (moX15_move eo_4).tr ?_
  exact moL_law_603 mk_18 hE
set_option maxRecDepth 20000 in
theorem moL_law_636 {o : Int32 × Hp} {k_18 : Hp → Nat → Nat → Int32 → Option (Int32 × Hp)} {F L : Nat} {xs : Nat → Int32} (mk_18 : ∀ (h : Hp) (x1 : Nat) (x2 : Nat) (x3 : Int32), k_18 h x1 x2 x3 = some o → Le h o.2) {h : Hp} {x1 : Nat} {x2 : Nat} {x3 : Int32} {t0 : Int32} {t1 : Int32} (hE : sL_law_636 F L xs k_18 h x1 x2 x3 t0 t1 = some o) : Le h o.2 := by
  rcases br_e hE with ⟨_, hE⟩ | ⟨_, hE⟩
  · exact moL_law_1277 mk_18 hE
  · exact le_some2 hE
set_option maxRecDepth 20000 in
theorem moL_law_622 {o : Int32 × Hp} {k_18 : Hp → Nat → Nat → Int32 → Option (Int32 × Hp)} {F L : Nat} {xs : Nat → Int32} (mk_18 : ∀ (h : Hp) (x1 : Nat) (x2 : Nat) (x3 : Int32), k_18 h x1 x2 x3 = some o → Le h o.2) {h : Hp} {x1 : Nat} {x2 : Nat} {x3 : Int32} {t0 : Int32} (hE : sL_law_622 F L xs k_18 h x1 x2 x3 t0 = some o) : Le h o.2 := by
  obtain ⟨g_1, hE⟩ := gd_e hE
  obtain ⟨g_2, hE⟩ := gd_e hE
  obtain ⟨o_3, eo_3, hE⟩ := cl_e hE
  refine (moX15_go eo_3).tr ?_
  exact moL_law_636 mk_18 hE
set_option maxRecDepth 20000 in
theorem moL_law_669 {o : Int32 × Hp} {k_18 : Hp → Nat → Nat → Int32 → Option (Int32 × Hp)} {F L : Nat} {xs : Nat → Int32} (mk_18 : ∀ (h : Hp) (x1 : Nat) (x2 : Nat) (x3 : Int32), k_18 h x1 x2 x3 = some o → Le h o.2) {h : Hp} {x1 : Nat} {x2 : Nat} {x3 : Int32} {t0 : Int32} {t1 : Int32} (hE : sL_law_669 F L xs k_18 h x1 x2 x3 t0 t1 = some o) : Le h o.2 := by
  rcases br_e hE with ⟨_, hE⟩ | ⟨_, hE⟩
  · exact moL_law_1277 mk_18 hE
  · exact le_some2 hE
set_option maxRecDepth 20000 in
theorem moL_law_655 {o : Int32 × Hp} {k_18 : Hp → Nat → Nat → Int32 → Option (Int32 × Hp)} {F L : Nat} {xs : Nat → Int32} (mk_18 : ∀ (h : Hp) (x1 : Nat) (x2 : Nat) (x3 : Int32), k_18 h x1 x2 x3 = some o → Le h o.2) {h : Hp} {x1 : Nat} {x2 : Nat} {x3 : Int32} {t0 : Int32} (hE : sL_law_655 F L xs k_18 h x1 x2 x3 t0 = some o) : Le h o.2 := by
  obtain ⟨g_1, hE⟩ := gd_e hE
  obtain ⟨g_2, hE⟩ := gd_e hE
  obtain ⟨o_3, eo_3, hE⟩ := cl_e hE
  refine (moX15_rows eo_3).tr ?_
  exact moL_law_669 mk_18 hE
set_option maxRecDepth 20000 in
theorem moL_law_692 {o : Int32 × Hp} {k_18 : Hp → Nat → Nat → Int32 → Option (Int32 × Hp)} {F L : Nat} {xs : Nat → Int32} (mk_18 : ∀ (h : Hp) (x1 : Nat) (x2 : Nat) (x3 : Int32), k_18 h x1 x2 x3 = some o → Le h o.2) {h : Hp} {x1 : Nat} {x2 : Nat} {x3 : Int32} {t0 : Int32} {t1 : Int32} (hE : sL_law_692 F L xs k_18 h x1 x2 x3 t0 t1 = some o) : Le h o.2 := by
  rcases br_e hE with ⟨_, hE⟩ | ⟨_, hE⟩
  · exact moL_law_1277 mk_18 hE
  · exact le_some2 hE
set_option maxRecDepth 20000 in
theorem moL_law_683 {o : Int32 × Hp} {k_18 : Hp → Nat → Nat → Int32 → Option (Int32 × Hp)} {F L : Nat} {xs : Nat → Int32} (mk_18 : ∀ (h : Hp) (x1 : Nat) (x2 : Nat) (x3 : Int32), k_18 h x1 x2 x3 = some o → Le h o.2) {h : Hp} {x1 : Nat} {x2 : Nat} {x3 : Int32} {t0 : Int32} (hE : sL_law_683 F L xs k_18 h x1 x2 x3 t0 = some o) : Le h o.2 := by
  obtain ⟨g_1, hE⟩ := gd_e hE
  obtain ⟨o_2, eo_2, hE⟩ := cl_e hE
  refine (moX15_ended eo_2).tr ?_
  exact moL_law_692 mk_18 hE
set_option maxRecDepth 20000 in
theorem moL_law_715 {o : Int32 × Hp} {k_18 : Hp → Nat → Nat → Int32 → Option (Int32 × Hp)} {F L : Nat} {xs : Nat → Int32} (mk_18 : ∀ (h : Hp) (x1 : Nat) (x2 : Nat) (x3 : Int32), k_18 h x1 x2 x3 = some o → Le h o.2) {h : Hp} {x1 : Nat} {x2 : Nat} {x3 : Int32} {t0 : Int32} {t1 : Int32} (hE : sL_law_715 F L xs k_18 h x1 x2 x3 t0 t1 = some o) : Le h o.2 := by
  rcases br_e hE with ⟨_, hE⟩ | ⟨_, hE⟩
  · exact moL_law_1277 mk_18 hE
  · exact le_some2 hE
set_option maxRecDepth 20000 in
theorem moL_law_706 {o : Int32 × Hp} {k_18 : Hp → Nat → Nat → Int32 → Option (Int32 × Hp)} {F L : Nat} {xs : Nat → Int32} (mk_18 : ∀ (h : Hp) (x1 : Nat) (x2 : Nat) (x3 : Int32), k_18 h x1 x2 x3 = some o → Le h o.2) {h : Hp} {x1 : Nat} {x2 : Nat} {x3 : Int32} {t0 : Int32} (hE : sL_law_706 F L xs k_18 h x1 x2 x3 t0 = some o) : Le h o.2 := by
  obtain ⟨g_1, hE⟩ := gd_e hE
  obtain ⟨o_2, eo_2, hE⟩ := cl_e hE
  refine (moX15_result eo_2).tr ?_
  exact moL_law_715 mk_18 hE
set_option maxRecDepth 20000 in
theorem moL_law_748 {o : Int32 × Hp} {k_18 : Hp → Nat → Nat → Int32 → Option (Int32 × Hp)} {F L : Nat} {xs : Nat → Int32} (mk_18 : ∀ (h : Hp) (x1 : Nat) (x2 : Nat) (x3 : Int32), k_18 h x1 x2 x3 = some o → Le h o.2) {h : Hp} {x1 : Nat} {x2 : Nat} {x3 : Int32} {t0 : Int32} {t1 : Int32} (hE : sL_law_748 F L xs k_18 h x1 x2 x3 t0 t1 = some o) : Le h o.2 := by
  rcases br_e hE with ⟨_, hE⟩ | ⟨_, hE⟩
  · exact moL_law_1277 mk_18 hE
  · exact le_some2 hE
set_option maxRecDepth 20000 in
theorem moL_law_734 {o : Int32 × Hp} {k_18 : Hp → Nat → Nat → Int32 → Option (Int32 × Hp)} {F L : Nat} {xs : Nat → Int32} (mk_18 : ∀ (h : Hp) (x1 : Nat) (x2 : Nat) (x3 : Int32), k_18 h x1 x2 x3 = some o → Le h o.2) {h : Hp} {x1 : Nat} {x2 : Nat} {x3 : Int32} {t0 : Int32} (hE : sL_law_734 F L xs k_18 h x1 x2 x3 t0 = some o) : Le h o.2 := by
  obtain ⟨g_1, hE⟩ := gd_e hE
  obtain ⟨g_2, hE⟩ := gd_e hE
  obtain ⟨o_3, eo_3, hE⟩ := cl_e hE
  refine (moX15_say_ eo_3).tr ?_
  exact moL_law_748 mk_18 hE
set_option maxRecDepth 20000 in
theorem moL_law_771 {o : Int32 × Hp} {k_18 : Hp → Nat → Nat → Int32 → Option (Int32 × Hp)} {F L : Nat} {xs : Nat → Int32} (mk_18 : ∀ (h : Hp) (x1 : Nat) (x2 : Nat) (x3 : Int32), k_18 h x1 x2 x3 = some o → Le h o.2) {h : Hp} {x1 : Nat} {x2 : Nat} {x3 : Int32} {t0 : Int32} {t1 : Int32} (hE : sL_law_771 F L xs k_18 h x1 x2 x3 t0 t1 = some o) : Le h o.2 := by
  rcases br_e hE with ⟨_, hE⟩ | ⟨_, hE⟩
  · exact moL_law_1277 mk_18 hE
  · exact le_some2 hE
set_option maxRecDepth 20000 in
theorem moL_law_762 {o : Int32 × Hp} {k_18 : Hp → Nat → Nat → Int32 → Option (Int32 × Hp)} {F L : Nat} {xs : Nat → Int32} (mk_18 : ∀ (h : Hp) (x1 : Nat) (x2 : Nat) (x3 : Int32), k_18 h x1 x2 x3 = some o → Le h o.2) {h : Hp} {x1 : Nat} {x2 : Nat} {x3 : Int32} {t0 : Int32} (hE : sL_law_762 F L xs k_18 h x1 x2 x3 t0 = some o) : Le h o.2 := by
  obtain ⟨g_1, hE⟩ := gd_e hE
  obtain ⟨o_2, eo_2, hE⟩ := cl_e hE
  refine (moX15_hear eo_2).tr ?_
  exact moL_law_771 mk_18 hE
set_option maxRecDepth 20000 in
theorem moL_law_804 {o : Int32 × Hp} {k_18 : Hp → Nat → Nat → Int32 → Option (Int32 × Hp)} {F L : Nat} {xs : Nat → Int32} (mk_18 : ∀ (h : Hp) (x1 : Nat) (x2 : Nat) (x3 : Int32), k_18 h x1 x2 x3 = some o → Le h o.2) {h : Hp} {x1 : Nat} {x2 : Nat} {x3 : Int32} {t0 : Int32} {t1 : Int32} (hE : sL_law_804 F L xs k_18 h x1 x2 x3 t0 t1 = some o) : Le h o.2 := by
  rcases br_e hE with ⟨_, hE⟩ | ⟨_, hE⟩
  · exact moL_law_1277 mk_18 hE
  · exact le_some2 hE
set_option maxRecDepth 20000 in
theorem moL_law_790 {o : Int32 × Hp} {k_18 : Hp → Nat → Nat → Int32 → Option (Int32 × Hp)} {F L : Nat} {xs : Nat → Int32} (mk_18 : ∀ (h : Hp) (x1 : Nat) (x2 : Nat) (x3 : Int32), k_18 h x1 x2 x3 = some o → Le h o.2) {h : Hp} {x1 : Nat} {x2 : Nat} {x3 : Int32} {t0 : Int32} (hE : sL_law_790 F L xs k_18 h x1 x2 x3 t0 = some o) : Le h o.2 := by
  obtain ⟨g_1, hE⟩ := gd_e hE
  obtain ⟨g_2, hE⟩ := gd_e hE
  obtain ⟨o_3, eo_3, hE⟩ := cl_e hE
  refine (moX15_start eo_3).tr ?_
  exact moL_law_804 mk_18 hE
set_option maxRecDepth 20000 in
theorem moL_law_837 {o : Int32 × Hp} {k_18 : Hp → Nat → Nat → Int32 → Option (Int32 × Hp)} {F L : Nat} {xs : Nat → Int32} (mk_18 : ∀ (h : Hp) (x1 : Nat) (x2 : Nat) (x3 : Int32), k_18 h x1 x2 x3 = some o → Le h o.2) {h : Hp} {x1 : Nat} {x2 : Nat} {x3 : Int32} {t0 : Int32} {t1 : Int32} (hE : sL_law_837 F L xs k_18 h x1 x2 x3 t0 t1 = some o) : Le h o.2 := by
  rcases br_e hE with ⟨_, hE⟩ | ⟨_, hE⟩
  · exact moL_law_1277 mk_18 hE
  · exact le_some2 hE
set_option maxRecDepth 20000 in
theorem moL_law_823 {o : Int32 × Hp} {k_18 : Hp → Nat → Nat → Int32 → Option (Int32 × Hp)} {F L : Nat} {xs : Nat → Int32} (mk_18 : ∀ (h : Hp) (x1 : Nat) (x2 : Nat) (x3 : Int32), k_18 h x1 x2 x3 = some o → Le h o.2) {h : Hp} {x1 : Nat} {x2 : Nat} {x3 : Int32} {t0 : Int32} (hE : sL_law_823 F L xs k_18 h x1 x2 x3 t0 = some o) : Le h o.2 := by
  obtain ⟨g_1, hE⟩ := gd_e hE
  obtain ⟨g_2, hE⟩ := gd_e hE
  obtain ⟨o_3, eo_3, hE⟩ := cl_e hE
  refine (moX15_add eo_3).tr ?_
  exact moL_law_837 mk_18 hE
set_option maxRecDepth 20000 in
theorem moL_law_860 {o : Int32 × Hp} {k_18 : Hp → Nat → Nat → Int32 → Option (Int32 × Hp)} {F L : Nat} {xs : Nat → Int32} (mk_18 : ∀ (h : Hp) (x1 : Nat) (x2 : Nat) (x3 : Int32), k_18 h x1 x2 x3 = some o → Le h o.2) {h : Hp} {x1 : Nat} {x2 : Nat} {x3 : Int32} {t0 : Int32} {t1 : Int32} (hE : sL_law_860 F L xs k_18 h x1 x2 x3 t0 t1 = some o) : Le h o.2 := by
  rcases br_e hE with ⟨_, hE⟩ | ⟨_, hE⟩
  · exact moL_law_1277 mk_18 hE
  · exact le_some2 hE
set_option maxRecDepth 20000 in
theorem moL_law_851 {o : Int32 × Hp} {k_18 : Hp → Nat → Nat → Int32 → Option (Int32 × Hp)} {F L : Nat} {xs : Nat → Int32} (mk_18 : ∀ (h : Hp) (x1 : Nat) (x2 : Nat) (x3 : Int32), k_18 h x1 x2 x3 = some o → Le h o.2) {h : Hp} {x1 : Nat} {x2 : Nat} {x3 : Int32} {t0 : Int32} (hE : sL_law_851 F L xs k_18 h x1 x2 x3 t0 = some o) : Le h o.2 := by
  obtain ⟨g_1, hE⟩ := gd_e hE
  obtain ⟨o_2, eo_2, hE⟩ := cl_e hE
  refine (moX15_back eo_2).tr ?_
  exact moL_law_860 mk_18 hE
set_option maxRecDepth 20000 in
theorem moL_law_893 {o : Int32 × Hp} {k_18 : Hp → Nat → Nat → Int32 → Option (Int32 × Hp)} {F L : Nat} {xs : Nat → Int32} (mk_18 : ∀ (h : Hp) (x1 : Nat) (x2 : Nat) (x3 : Int32), k_18 h x1 x2 x3 = some o → Le h o.2) {h : Hp} {x1 : Nat} {x2 : Nat} {x3 : Int32} {t0 : Int32} {t1 : Int32} (hE : sL_law_893 F L xs k_18 h x1 x2 x3 t0 t1 = some o) : Le h o.2 := by
  rcases br_e hE with ⟨_, hE⟩ | ⟨_, hE⟩
  · exact moL_law_1277 mk_18 hE
  · exact le_some2 hE
set_option maxRecDepth 20000 in
theorem moL_law_879 {o : Int32 × Hp} {k_18 : Hp → Nat → Nat → Int32 → Option (Int32 × Hp)} {F L : Nat} {xs : Nat → Int32} (mk_18 : ∀ (h : Hp) (x1 : Nat) (x2 : Nat) (x3 : Int32), k_18 h x1 x2 x3 = some o → Le h o.2) {h : Hp} {x1 : Nat} {x2 : Nat} {x3 : Int32} {t0 : Int32} (hE : sL_law_879 F L xs k_18 h x1 x2 x3 t0 = some o) : Le h o.2 := by
  obtain ⟨g_1, hE⟩ := gd_e hE
  obtain ⟨g_2, hE⟩ := gd_e hE
  obtain ⟨o_3, eo_3, hE⟩ := cl_e hE
  refine (moX15_game eo_3).tr ?_
  exact moL_law_893 mk_18 hE
set_option maxRecDepth 20000 in
theorem moL_law_926 {o : Int32 × Hp} {k_18 : Hp → Nat → Nat → Int32 → Option (Int32 × Hp)} {F L : Nat} {xs : Nat → Int32} (mk_18 : ∀ (h : Hp) (x1 : Nat) (x2 : Nat) (x3 : Int32), k_18 h x1 x2 x3 = some o → Le h o.2) {h : Hp} {x1 : Nat} {x2 : Nat} {x3 : Int32} {t0 : Int32} {t1 : Int32} (hE : sL_law_926 F L xs k_18 h x1 x2 x3 t0 t1 = some o) : Le h o.2 := by
  rcases br_e hE with ⟨_, hE⟩ | ⟨_, hE⟩
  · exact moL_law_1277 mk_18 hE
  · exact le_some2 hE
set_option maxRecDepth 20000 in
theorem moL_law_912 {o : Int32 × Hp} {k_18 : Hp → Nat → Nat → Int32 → Option (Int32 × Hp)} {F L : Nat} {xs : Nat → Int32} (mk_18 : ∀ (h : Hp) (x1 : Nat) (x2 : Nat) (x3 : Int32), k_18 h x1 x2 x3 = some o → Le h o.2) {h : Hp} {x1 : Nat} {x2 : Nat} {x3 : Int32} {t0 : Int32} (hE : sL_law_912 F L xs k_18 h x1 x2 x3 t0 = some o) : Le h o.2 := by
  obtain ⟨g_1, hE⟩ := gd_e hE
  obtain ⟨g_2, hE⟩ := gd_e hE
  obtain ⟨o_3, eo_3, hE⟩ := cl_e hE
  refine (moX15_played eo_3).tr ?_
  exact moL_law_926 mk_18 hE
set_option maxRecDepth 20000 in
theorem moL_law_949 {o : Int32 × Hp} {k_18 : Hp → Nat → Nat → Int32 → Option (Int32 × Hp)} {F L : Nat} {xs : Nat → Int32} (mk_18 : ∀ (h : Hp) (x1 : Nat) (x2 : Nat) (x3 : Int32), k_18 h x1 x2 x3 = some o → Le h o.2) {h : Hp} {x1 : Nat} {x2 : Nat} {x3 : Int32} {t0 : Int32} {t1 : Int32} (hE : sL_law_949 F L xs k_18 h x1 x2 x3 t0 t1 = some o) : Le h o.2 := by
  rcases br_e hE with ⟨_, hE⟩ | ⟨_, hE⟩
  · exact moL_law_1277 mk_18 hE
  · exact le_some2 hE
set_option maxRecDepth 20000 in
theorem moL_law_940 {o : Int32 × Hp} {k_18 : Hp → Nat → Nat → Int32 → Option (Int32 × Hp)} {F L : Nat} {xs : Nat → Int32} (mk_18 : ∀ (h : Hp) (x1 : Nat) (x2 : Nat) (x3 : Int32), k_18 h x1 x2 x3 = some o → Le h o.2) {h : Hp} {x1 : Nat} {x2 : Nat} {x3 : Int32} {t0 : Int32} (hE : sL_law_940 F L xs k_18 h x1 x2 x3 t0 = some o) : Le h o.2 := by
  obtain ⟨g_1, hE⟩ := gd_e hE
  obtain ⟨o_2, eo_2, hE⟩ := cl_e hE
  refine (moX15_now eo_2).tr ?_
  exact moL_law_949 mk_18 hE
set_option maxRecDepth 20000 in
theorem moL_law_982 {o : Int32 × Hp} {k_18 : Hp → Nat → Nat → Int32 → Option (Int32 × Hp)} {F L : Nat} {xs : Nat → Int32} (mk_18 : ∀ (h : Hp) (x1 : Nat) (x2 : Nat) (x3 : Int32), k_18 h x1 x2 x3 = some o → Le h o.2) {h : Hp} {x1 : Nat} {x2 : Nat} {x3 : Int32} {t0 : Int32} {t1 : Int32} (hE : sL_law_982 F L xs k_18 h x1 x2 x3 t0 t1 = some o) : Le h o.2 := by
  rcases br_e hE with ⟨_, hE⟩ | ⟨_, hE⟩
  · exact moL_law_1277 mk_18 hE
  · exact le_some2 hE
set_option maxRecDepth 20000 in
theorem moL_law_968 {o : Int32 × Hp} {k_18 : Hp → Nat → Nat → Int32 → Option (Int32 × Hp)} {F L : Nat} {xs : Nat → Int32} (mk_18 : ∀ (h : Hp) (x1 : Nat) (x2 : Nat) (x3 : Int32), k_18 h x1 x2 x3 = some o → Le h o.2) {h : Hp} {x1 : Nat} {x2 : Nat} {x3 : Int32} {t0 : Int32} (hE : sL_law_968 F L xs k_18 h x1 x2 x3 t0 = some o) : Le h o.2 := by
  obtain ⟨g_1, hE⟩ := gd_e hE
  obtain ⟨g_2, hE⟩ := gd_e hE
  obtain ⟨o_3, eo_3, hE⟩ := cl_e hE
  refine (moX15_book eo_3).tr ?_
  exact moL_law_982 mk_18 hE
set_option maxRecDepth 20000 in
theorem moL_law_1025 {o : Int32 × Hp} {k_18 : Hp → Nat → Nat → Int32 → Option (Int32 × Hp)} {F L : Nat} {xs : Nat → Int32} (mk_18 : ∀ (h : Hp) (x1 : Nat) (x2 : Nat) (x3 : Int32), k_18 h x1 x2 x3 = some o → Le h o.2) {h : Hp} {x1 : Nat} {x2 : Nat} {x3 : Int32} {t0 : Int32} {t1 : Int32} (hE : sL_law_1025 F L xs k_18 h x1 x2 x3 t0 t1 = some o) : Le h o.2 := by
  rcases br_e hE with ⟨_, hE⟩ | ⟨_, hE⟩
  · exact moL_law_1277 mk_18 hE
  · exact le_some2 hE
set_option maxRecDepth 20000 in
theorem moL_law_1006 {o : Int32 × Hp} {k_18 : Hp → Nat → Nat → Int32 → Option (Int32 × Hp)} {F L : Nat} {xs : Nat → Int32} (mk_18 : ∀ (h : Hp) (x1 : Nat) (x2 : Nat) (x3 : Int32), k_18 h x1 x2 x3 = some o → Le h o.2) {h : Hp} {x1 : Nat} {x2 : Nat} {x3 : Int32} {t0 : Int32} (hE : sL_law_1006 F L xs k_18 h x1 x2 x3 t0 = some o) : Le h o.2 := by
  obtain ⟨g_1, hE⟩ := gd_e hE
  obtain ⟨g_2, hE⟩ := gd_e hE
  obtain ⟨g_3, hE⟩ := gd_e hE
  obtain ⟨o_4, eo_4, hE⟩ := cl_e hE
  refine (moX15_sees eo_4).tr ?_
  exact moL_law_1025 mk_18 hE
set_option maxRecDepth 20000 in
theorem moL_law_1058 {o : Int32 × Hp} {k_18 : Hp → Nat → Nat → Int32 → Option (Int32 × Hp)} {F L : Nat} {xs : Nat → Int32} (mk_18 : ∀ (h : Hp) (x1 : Nat) (x2 : Nat) (x3 : Int32), k_18 h x1 x2 x3 = some o → Le h o.2) {h : Hp} {x1 : Nat} {x2 : Nat} {x3 : Int32} {t0 : Int32} {t1 : Int32} (hE : sL_law_1058 F L xs k_18 h x1 x2 x3 t0 t1 = some o) : Le h o.2 := by
  rcases br_e hE with ⟨_, hE⟩ | ⟨_, hE⟩
  · exact moL_law_1277 mk_18 hE
  · exact le_some2 hE
set_option maxRecDepth 20000 in
theorem moL_law_1044 {o : Int32 × Hp} {k_18 : Hp → Nat → Nat → Int32 → Option (Int32 × Hp)} {F L : Nat} {xs : Nat → Int32} (mk_18 : ∀ (h : Hp) (x1 : Nat) (x2 : Nat) (x3 : Int32), k_18 h x1 x2 x3 = some o → Le h o.2) {h : Hp} {x1 : Nat} {x2 : Nat} {x3 : Int32} {t0 : Int32} (hE : sL_law_1044 F L xs k_18 h x1 x2 x3 t0 = some o) : Le h o.2 := by
  obtain ⟨g_1, hE⟩ := gd_e hE
  obtain ⟨g_2, hE⟩ := gd_e hE
  obtain ⟨o_3, eo_3, hE⟩ := cl_e hE
  refine (moX15_view eo_3).tr ?_
  exact moL_law_1058 mk_18 hE
set_option maxRecDepth 20000 in
theorem moL_law_1081 {o : Int32 × Hp} {k_18 : Hp → Nat → Nat → Int32 → Option (Int32 × Hp)} {F L : Nat} {xs : Nat → Int32} (mk_18 : ∀ (h : Hp) (x1 : Nat) (x2 : Nat) (x3 : Int32), k_18 h x1 x2 x3 = some o → Le h o.2) {h : Hp} {x1 : Nat} {x2 : Nat} {x3 : Int32} {t0 : Int32} {t1 : Int32} (hE : sL_law_1081 F L xs k_18 h x1 x2 x3 t0 t1 = some o) : Le h o.2 := by
  rcases br_e hE with ⟨_, hE⟩ | ⟨_, hE⟩
  · exact moL_law_1277 mk_18 hE
  · exact le_some2 hE
set_option maxRecDepth 20000 in
theorem moL_law_1072 {o : Int32 × Hp} {k_18 : Hp → Nat → Nat → Int32 → Option (Int32 × Hp)} {F L : Nat} {xs : Nat → Int32} (mk_18 : ∀ (h : Hp) (x1 : Nat) (x2 : Nat) (x3 : Int32), k_18 h x1 x2 x3 = some o → Le h o.2) {h : Hp} {x1 : Nat} {x2 : Nat} {x3 : Int32} {t0 : Int32} (hE : sL_law_1072 F L xs k_18 h x1 x2 x3 t0 = some o) : Le h o.2 := by
  obtain ⟨g_1, hE⟩ := gd_e hE
  obtain ⟨o_2, eo_2, hE⟩ := cl_e hE
  refine (moX15_before eo_2).tr ?_
  exact moL_law_1081 mk_18 hE
set_option maxRecDepth 20000 in
theorem moL_law_1104 {o : Int32 × Hp} {k_18 : Hp → Nat → Nat → Int32 → Option (Int32 × Hp)} {F L : Nat} {xs : Nat → Int32} (mk_18 : ∀ (h : Hp) (x1 : Nat) (x2 : Nat) (x3 : Int32), k_18 h x1 x2 x3 = some o → Le h o.2) {h : Hp} {x1 : Nat} {x2 : Nat} {x3 : Int32} {t0 : Int32} {t1 : Int32} (hE : sL_law_1104 F L xs k_18 h x1 x2 x3 t0 t1 = some o) : Le h o.2 := by
  rcases br_e hE with ⟨_, hE⟩ | ⟨_, hE⟩
  · exact moL_law_1277 mk_18 hE
  · exact le_some2 hE
set_option maxRecDepth 20000 in
theorem moL_law_1095 {o : Int32 × Hp} {k_18 : Hp → Nat → Nat → Int32 → Option (Int32 × Hp)} {F L : Nat} {xs : Nat → Int32} (mk_18 : ∀ (h : Hp) (x1 : Nat) (x2 : Nat) (x3 : Int32), k_18 h x1 x2 x3 = some o → Le h o.2) {h : Hp} {x1 : Nat} {x2 : Nat} {x3 : Int32} {t0 : Int32} (hE : sL_law_1095 F L xs k_18 h x1 x2 x3 t0 = some o) : Le h o.2 := by
  obtain ⟨g_1, hE⟩ := gd_e hE
  obtain ⟨o_2, eo_2, hE⟩ := cl_e hE
  refine (moX15_beforeAt eo_2).tr ?_
  exact moL_law_1104 mk_18 hE
set_option maxRecDepth 20000 in
theorem moL_law_1117 {o : Int32 × Hp} {k_18 : Hp → Nat → Nat → Int32 → Option (Int32 × Hp)} {F L : Nat} {xs : Nat → Int32} (mk_18 : ∀ (h : Hp) (x1 : Nat) (x2 : Nat) (x3 : Int32), k_18 h x1 x2 x3 = some o → Le h o.2) {h : Hp} {x1 : Nat} {x2 : Nat} {x3 : Int32} {t0 : Int32} {t1 : Int32} (hE : sL_law_1117 F L xs k_18 h x1 x2 x3 t0 t1 = some o) : Le h o.2 := by
  rcases br_e hE with ⟨_, hE⟩ | ⟨_, hE⟩
  · exact moL_law_1277 mk_18 hE
  · exact le_some2 hE
set_option maxRecDepth 20000 in
theorem moL_law_1113 {o : Int32 × Hp} {k_18 : Hp → Nat → Nat → Int32 → Option (Int32 × Hp)} {F L : Nat} {xs : Nat → Int32} (mk_18 : ∀ (h : Hp) (x1 : Nat) (x2 : Nat) (x3 : Int32), k_18 h x1 x2 x3 = some o → Le h o.2) {h : Hp} {x1 : Nat} {x2 : Nat} {x3 : Int32} {t0 : Int32} (hE : sL_law_1113 F L xs k_18 h x1 x2 x3 t0 = some o) : Le h o.2 := by
  obtain ⟨o_1, eo_1, hE⟩ := cl_e hE
  refine (moX15_solve eo_1).tr ?_
  exact moL_law_1117 mk_18 hE
set_option maxRecDepth 20000 in
theorem moL_law_1140 {o : Int32 × Hp} {k_18 : Hp → Nat → Nat → Int32 → Option (Int32 × Hp)} {F L : Nat} {xs : Nat → Int32} (mk_18 : ∀ (h : Hp) (x1 : Nat) (x2 : Nat) (x3 : Int32), k_18 h x1 x2 x3 = some o → Le h o.2) {h : Hp} {x1 : Nat} {x2 : Nat} {x3 : Int32} {t0 : Int32} {t1 : Int32} (hE : sL_law_1140 F L xs k_18 h x1 x2 x3 t0 t1 = some o) : Le h o.2 := by
  rcases br_e hE with ⟨_, hE⟩ | ⟨_, hE⟩
  · exact moL_law_1277 mk_18 hE
  · exact le_some2 hE
set_option maxRecDepth 20000 in
theorem moL_law_1131 {o : Int32 × Hp} {k_18 : Hp → Nat → Nat → Int32 → Option (Int32 × Hp)} {F L : Nat} {xs : Nat → Int32} (mk_18 : ∀ (h : Hp) (x1 : Nat) (x2 : Nat) (x3 : Int32), k_18 h x1 x2 x3 = some o → Le h o.2) {h : Hp} {x1 : Nat} {x2 : Nat} {x3 : Int32} {t0 : Int32} (hE : sL_law_1131 F L xs k_18 h x1 x2 x3 t0 = some o) : Le h o.2 := by
  obtain ⟨g_1, hE⟩ := gd_e hE
  obtain ⟨o_2, eo_2, hE⟩ := cl_e hE
  refine (moX15_worth eo_2).tr ?_
  exact moL_law_1140 mk_18 hE
set_option maxRecDepth 20000 in
theorem moL_law_1173 {o : Int32 × Hp} {k_18 : Hp → Nat → Nat → Int32 → Option (Int32 × Hp)} {F L : Nat} {xs : Nat → Int32} (mk_18 : ∀ (h : Hp) (x1 : Nat) (x2 : Nat) (x3 : Int32), k_18 h x1 x2 x3 = some o → Le h o.2) {h : Hp} {x1 : Nat} {x2 : Nat} {x3 : Int32} {t0 : Int32} {t1 : Int32} (hE : sL_law_1173 F L xs k_18 h x1 x2 x3 t0 t1 = some o) : Le h o.2 := by
  rcases br_e hE with ⟨_, hE⟩ | ⟨_, hE⟩
  · exact moL_law_1277 mk_18 hE
  · exact le_some2 hE
set_option maxRecDepth 20000 in
theorem moL_law_1159 {o : Int32 × Hp} {k_18 : Hp → Nat → Nat → Int32 → Option (Int32 × Hp)} {F L : Nat} {xs : Nat → Int32} (mk_18 : ∀ (h : Hp) (x1 : Nat) (x2 : Nat) (x3 : Int32), k_18 h x1 x2 x3 = some o → Le h o.2) {h : Hp} {x1 : Nat} {x2 : Nat} {x3 : Int32} {t0 : Int32} (hE : sL_law_1159 F L xs k_18 h x1 x2 x3 t0 = some o) : Le h o.2 := by
  obtain ⟨g_1, hE⟩ := gd_e hE
  obtain ⟨g_2, hE⟩ := gd_e hE
  obtain ⟨o_3, eo_3, hE⟩ := cl_e hE
  refine (moX15_tally eo_3).tr ?_
  exact moL_law_1173 mk_18 hE
set_option maxRecDepth 20000 in
theorem moL_law_1226 {o : Int32 × Hp} {k_18 : Hp → Nat → Nat → Int32 → Option (Int32 × Hp)} {F L : Nat} {xs : Nat → Int32} (mk_18 : ∀ (h : Hp) (x1 : Nat) (x2 : Nat) (x3 : Int32), k_18 h x1 x2 x3 = some o → Le h o.2) {h : Hp} {x1 : Nat} {x2 : Nat} {x3 : Int32} {t0 : Int32} {t1 : Int32} (hE : sL_law_1226 F L xs k_18 h x1 x2 x3 t0 t1 = some o) : Le h o.2 := by
  rcases br_e hE with ⟨_, hE⟩ | ⟨_, hE⟩
  · exact moL_law_1277 mk_18 hE
  · exact le_some2 hE
set_option maxRecDepth 20000 in
theorem moL_law_1202 {o : Int32 × Hp} {k_18 : Hp → Nat → Nat → Int32 → Option (Int32 × Hp)} {F L : Nat} {xs : Nat → Int32} (mk_18 : ∀ (h : Hp) (x1 : Nat) (x2 : Nat) (x3 : Int32), k_18 h x1 x2 x3 = some o → Le h o.2) {h : Hp} {x1 : Nat} {x2 : Nat} {x3 : Int32} {t0 : Int32} (hE : sL_law_1202 F L xs k_18 h x1 x2 x3 t0 = some o) : Le h o.2 := by
  obtain ⟨g_1, hE⟩ := gd_e hE
  obtain ⟨g_2, hE⟩ := gd_e hE
  obtain ⟨g_3, hE⟩ := gd_e hE
  obtain ⟨g_4, hE⟩ := gd_e hE
  obtain ⟨o_5, eo_5, hE⟩ := cl_e hE
  refine (moX15_problem eo_5).tr ?_
  exact moL_law_1226 mk_18 hE
set_option maxRecDepth 20000 in
theorem moL_law_1249 {o : Int32 × Hp} {k_18 : Hp → Nat → Nat → Int32 → Option (Int32 × Hp)} {F L : Nat} {xs : Nat → Int32} (mk_18 : ∀ (h : Hp) (x1 : Nat) (x2 : Nat) (x3 : Int32), k_18 h x1 x2 x3 = some o → Le h o.2) {h : Hp} {x1 : Nat} {x2 : Nat} {x3 : Int32} {t0 : Int32} {t1 : Int32} (hE : sL_law_1249 F L xs k_18 h x1 x2 x3 t0 t1 = some o) : Le h o.2 := by
  rcases br_e hE with ⟨_, hE⟩ | ⟨_, hE⟩
  · exact moL_law_1277 mk_18 hE
  · exact le_some2 hE
set_option maxRecDepth 20000 in
theorem moL_law_1240 {o : Int32 × Hp} {k_18 : Hp → Nat → Nat → Int32 → Option (Int32 × Hp)} {F L : Nat} {xs : Nat → Int32} (mk_18 : ∀ (h : Hp) (x1 : Nat) (x2 : Nat) (x3 : Int32), k_18 h x1 x2 x3 = some o → Le h o.2) {h : Hp} {x1 : Nat} {x2 : Nat} {x3 : Int32} {t0 : Int32} (hE : sL_law_1240 F L xs k_18 h x1 x2 x3 t0 = some o) : Le h o.2 := by
  obtain ⟨g_1, hE⟩ := gd_e hE
  obtain ⟨o_2, eo_2, hE⟩ := cl_e hE
  refine (moX15_key eo_2).tr ?_
  exact moL_law_1249 mk_18 hE
set_option maxRecDepth 20000 in
theorem moL_law_1272 {o : Int32 × Hp} {k_18 : Hp → Nat → Nat → Int32 → Option (Int32 × Hp)} {F L : Nat} {xs : Nat → Int32} (mk_18 : ∀ (h : Hp) (x1 : Nat) (x2 : Nat) (x3 : Int32), k_18 h x1 x2 x3 = some o → Le h o.2) {h : Hp} {x1 : Nat} {x2 : Nat} {x3 : Int32} {t0 : Int32} {t1 : Int32} (hE : sL_law_1272 F L xs k_18 h x1 x2 x3 t0 t1 = some o) : Le h o.2 := by
  rcases br_e hE with ⟨_, hE⟩ | ⟨_, hE⟩
  · exact moL_law_1277 mk_18 hE
  · exact le_some2 hE
set_option maxRecDepth 20000 in
theorem moL_law_1263 {o : Int32 × Hp} {k_18 : Hp → Nat → Nat → Int32 → Option (Int32 × Hp)} {F L : Nat} {xs : Nat → Int32} (mk_18 : ∀ (h : Hp) (x1 : Nat) (x2 : Nat) (x3 : Int32), k_18 h x1 x2 x3 = some o → Le h o.2) {h : Hp} {x1 : Nat} {x2 : Nat} {x3 : Int32} {t0 : Int32} (hE : sL_law_1263 F L xs k_18 h x1 x2 x3 t0 = some o) : Le h o.2 := by
  obtain ⟨g_1, hE⟩ := gd_e hE
  obtain ⟨o_2, eo_2, hE⟩ := cl_e hE
  refine (moX15_refutes eo_2).tr ?_
  exact moL_law_1272 mk_18 hE
set_option maxRecDepth 20000 in
theorem moL_law_18 {o : Int32 × Hp} {F L : Nat} {xs : Nat → Int32} : ∀ (f : Nat) {h : Hp} {x1 : Nat} {x2 : Nat} {x3 : Int32}, sL_law_18 F L xs f h x1 x2 x3 = some o → Le h o.2 := by
  intro f
  induction f with
  | zero =>
    intro h x1 x2 x3 hE
    rw [sL_law_18] at hE
    cases hE
  | succ f ih =>
    intro h x1 x2 x3 hE
    rw [sL_law_18] at hE
    have mk_18 : ∀ (h : Hp) (x1 : Nat) (x2 : Nat) (x3 : Int32), sL_law_18 F L xs f h x1 x2 x3 = some o → Le h o.2 := fun h x1 x2 x3 hE => ih hE
    rcases br_e hE with ⟨_, hE⟩ | ⟨_, hE⟩
    · exact le_some2 hE
    · obtain ⟨g_2, hE⟩ := gd_e hE
      rcases br_e hE with ⟨_, hE⟩ | ⟨_, hE⟩
      · obtain ⟨g_3, hE⟩ := gd_e hE
        obtain ⟨g_4, hE⟩ := gd_e hE
        obtain ⟨g_5, hE⟩ := gd_e hE
        obtain ⟨g_6, hE⟩ := gd_e hE
        obtain ⟨g_7, hE⟩ := gd_e hE
        obtain ⟨o_8, eo_8, hE⟩ := cl_e hE
        refine (moX11_feed eo_8).tr ?_
        exact moL_law_225 mk_18 hE
      rcases br_e hE with ⟨_, hE⟩ | ⟨_, hE⟩
      · obtain ⟨g_10, hE⟩ := gd_e hE
        obtain ⟨o_11, eo_11, hE⟩ := cl_e hE
        refine (moX11_end eo_11).tr ?_
        exact moL_law_268 mk_18 hE
      rcases br_e hE with ⟨_, hE⟩ | ⟨_, hE⟩
      · obtain ⟨o_13, eo_13, hE⟩ := cl_e hE
        refine (moX11_rules eo_13).tr ?_
        exact moL_law_286 mk_18 hE
      rcases br_e hE with ⟨_, hE⟩ | ⟨_, hE⟩
      · obtain ⟨g_15, hE⟩ := gd_e hE
        obtain ⟨o_16, eo_16, hE⟩ := cl_e hE
        refine (moX11_told eo_16).tr ?_
        exact moL_law_304 mk_18 hE
      rcases br_e hE with ⟨_, hE⟩ | ⟨_, hE⟩
      · obtain ⟨g_18, hE⟩ := gd_e hE
        obtain ⟨o_19, eo_19, hE⟩ := cl_e hE
        refine (moX11_out eo_19).tr ?_
        exact moL_law_327 mk_18 hE
      rcases br_e hE with ⟨_, hE⟩ | ⟨_, hE⟩
      · obtain ⟨o_21, eo_21, hE⟩ := cl_e hE
        refine (moX11_position eo_21).tr ?_
        exact moL_law_345 mk_18 hE
      rcases br_e hE with ⟨_, hE⟩ | ⟨_, hE⟩
      · obtain ⟨g_23, hE⟩ := gd_e hE
        obtain ⟨o_24, eo_24, hE⟩ := cl_e hE
        refine (moX11_drop eo_24).tr ?_
        exact moL_law_363 mk_18 hE
      rcases br_e hE with ⟨_, hE⟩ | ⟨_, hE⟩
      · obtain ⟨g_26, hE⟩ := gd_e hE
        obtain ⟨o_27, eo_27, hE⟩ := cl_e hE
        refine (moX11_write eo_27).tr ?_
        exact moL_law_386 mk_18 hE
      rcases br_e hE with ⟨_, hE⟩ | ⟨_, hE⟩
      · obtain ⟨g_29, hE⟩ := gd_e hE
        obtain ⟨g_30, hE⟩ := gd_e hE
        obtain ⟨o_31, eo_31, hE⟩ := cl_e hE
        refine (moX11_same eo_31).tr ?_
        exact moL_law_414 mk_18 hE
      rcases br_e hE with ⟨_, hE⟩ | ⟨_, hE⟩
      · obtain ⟨g_33, hE⟩ := gd_e hE
        obtain ⟨g_34, hE⟩ := gd_e hE
        obtain ⟨o_35, eo_35, hE⟩ := cl_e hE
        refine (moX11_at eo_35).tr ?_
        exact moL_law_447 mk_18 hE
      rcases br_e hE with ⟨_, hE⟩ | ⟨_, hE⟩
      · obtain ⟨g_37, hE⟩ := gd_e hE
        obtain ⟨g_38, hE⟩ := gd_e hE
        obtain ⟨o_39, eo_39, hE⟩ := cl_e hE
        refine (moX11_figure eo_39).tr ?_
        exact moL_law_480 mk_18 hE
      rcases br_e hE with ⟨_, hE⟩ | ⟨_, hE⟩
      · obtain ⟨g_41, hE⟩ := gd_e hE
        obtain ⟨g_42, hE⟩ := gd_e hE
        obtain ⟨g_43, hE⟩ := gd_e hE
        obtain ⟨o_44, eo_44, hE⟩ := cl_e hE
        refine (moX11_attacked eo_44).tr ?_
        exact moL_law_518 mk_18 hE
      rcases br_e hE with ⟨_, hE⟩ | ⟨_, hE⟩
      · obtain ⟨g_46, hE⟩ := gd_e hE
        obtain ⟨o_47, eo_47, hE⟩ := cl_e hE
        refine (moX11_moves eo_47).tr ?_
        exact moL_law_551 mk_18 hE
      rcases br_e hE with ⟨_, hE⟩ | ⟨_, hE⟩
      · obtain ⟨g_49, hE⟩ := gd_e hE
        obtain ⟨g_50, hE⟩ := gd_e hE
        obtain ⟨g_51, hE⟩ := gd_e hE
        obtain ⟨o_52, eo_52, hE⟩ := cl_e hE
        refine (moX11_move eo_52).tr ?_
        exact moL_law_584 mk_18 hE
      rcases br_e hE with ⟨_, hE⟩ | ⟨_, hE⟩
      · obtain ⟨g_54, hE⟩ := gd_e hE
        obtain ⟨g_55, hE⟩ := gd_e hE
        obtain ⟨o_56, eo_56, hE⟩ := cl_e hE
        refine (moX11_go eo_56).tr ?_
        exact moL_law_622 mk_18 hE
      rcases br_e hE with ⟨_, hE⟩ | ⟨_, hE⟩
      · obtain ⟨g_58, hE⟩ := gd_e hE
        obtain ⟨g_59, hE⟩ := gd_e hE
        obtain ⟨o_60, eo_60, hE⟩ := cl_e hE
        refine (moX11_rows eo_60).tr ?_
        exact moL_law_655 mk_18 hE
      rcases br_e hE with ⟨_, hE⟩ | ⟨_, hE⟩
      · obtain ⟨g_62, hE⟩ := gd_e hE
        obtain ⟨o_63, eo_63, hE⟩ := cl_e hE
        refine (moX11_ended eo_63).tr ?_
        exact moL_law_683 mk_18 hE
      rcases br_e hE with ⟨_, hE⟩ | ⟨_, hE⟩
      · obtain ⟨g_65, hE⟩ := gd_e hE
        obtain ⟨o_66, eo_66, hE⟩ := cl_e hE
        refine (moX11_result eo_66).tr ?_
        exact moL_law_706 mk_18 hE
      rcases br_e hE with ⟨_, hE⟩ | ⟨_, hE⟩
      · obtain ⟨g_68, hE⟩ := gd_e hE
        obtain ⟨g_69, hE⟩ := gd_e hE
        obtain ⟨o_70, eo_70, hE⟩ := cl_e hE
        refine (moX11_say eo_70).tr ?_
        exact moL_law_734 mk_18 hE
      rcases br_e hE with ⟨_, hE⟩ | ⟨_, hE⟩
      · obtain ⟨g_72, hE⟩ := gd_e hE
        obtain ⟨o_73, eo_73, hE⟩ := cl_e hE
        refine (moX11_hear eo_73).tr ?_
        exact moL_law_762 mk_18 hE
      rcases br_e hE with ⟨_, hE⟩ | ⟨_, hE⟩
      · obtain ⟨g_75, hE⟩ := gd_e hE
        obtain ⟨g_76, hE⟩ := gd_e hE
        obtain ⟨o_77, eo_77, hE⟩ := cl_e hE
        refine (moX11_start eo_77).tr ?_
        exact moL_law_790 mk_18 hE
      rcases br_e hE with ⟨_, hE⟩ | ⟨_, hE⟩
      · obtain ⟨g_79, hE⟩ := gd_e hE
        obtain ⟨g_80, hE⟩ := gd_e hE
        obtain ⟨o_81, eo_81, hE⟩ := cl_e hE
        refine (moX11_add eo_81).tr ?_
        exact moL_law_823 mk_18 hE
      rcases br_e hE with ⟨_, hE⟩ | ⟨_, hE⟩
      · obtain ⟨g_83, hE⟩ := gd_e hE
        obtain ⟨o_84, eo_84, hE⟩ := cl_e hE
        refine (moX11_back eo_84).tr ?_
        exact moL_law_851 mk_18 hE
      rcases br_e hE with ⟨_, hE⟩ | ⟨_, hE⟩
      · obtain ⟨g_86, hE⟩ := gd_e hE
        obtain ⟨g_87, hE⟩ := gd_e hE
        obtain ⟨o_88, eo_88, hE⟩ := cl_e hE
        refine (moX11_game eo_88).tr ?_
        exact moL_law_879 mk_18 hE
      rcases br_e hE with ⟨_, hE⟩ | ⟨_, hE⟩
      · obtain ⟨g_90, hE⟩ := gd_e hE
        obtain ⟨g_91, hE⟩ := gd_e hE
        obtain ⟨o_92, eo_92, hE⟩ := cl_e hE
        refine (moX11_played eo_92).tr ?_
        exact moL_law_912 mk_18 hE
      rcases br_e hE with ⟨_, hE⟩ | ⟨_, hE⟩
      · obtain ⟨g_94, hE⟩ := gd_e hE
        obtain ⟨o_95, eo_95, hE⟩ := cl_e hE
        refine (moX11_now eo_95).tr ?_
        exact moL_law_940 mk_18 hE
      rcases br_e hE with ⟨_, hE⟩ | ⟨_, hE⟩
      · obtain ⟨g_97, hE⟩ := gd_e hE
        obtain ⟨g_98, hE⟩ := gd_e hE
        obtain ⟨o_99, eo_99, hE⟩ := cl_e hE
        refine (moX11_book eo_99).tr ?_
        exact moL_law_968 mk_18 hE
      rcases br_e hE with ⟨_, hE⟩ | ⟨_, hE⟩
      · obtain ⟨g_101, hE⟩ := gd_e hE
        obtain ⟨g_102, hE⟩ := gd_e hE
        obtain ⟨g_103, hE⟩ := gd_e hE
        obtain ⟨o_104, eo_104, hE⟩ := cl_e hE
        refine (moX11_sees eo_104).tr ?_
        exact moL_law_1006 mk_18 hE
      rcases br_e hE with ⟨_, hE⟩ | ⟨_, hE⟩
      · obtain ⟨g_106, hE⟩ := gd_e hE
        obtain ⟨g_107, hE⟩ := gd_e hE
        obtain ⟨o_108, eo_108, hE⟩ := cl_e hE
        refine (moX11_view eo_108).tr ?_
        exact moL_law_1044 mk_18 hE
      rcases br_e hE with ⟨_, hE⟩ | ⟨_, hE⟩
      · obtain ⟨g_110, hE⟩ := gd_e hE
        obtain ⟨o_111, eo_111, hE⟩ := cl_e hE
        refine (moX11_before eo_111).tr ?_
        exact moL_law_1072 mk_18 hE
      rcases br_e hE with ⟨_, hE⟩ | ⟨_, hE⟩
      · obtain ⟨g_113, hE⟩ := gd_e hE
        obtain ⟨o_114, eo_114, hE⟩ := cl_e hE
        refine (moX11_beforeAt eo_114).tr ?_
        exact moL_law_1095 mk_18 hE
      rcases br_e hE with ⟨_, hE⟩ | ⟨_, hE⟩
      · obtain ⟨o_116, eo_116, hE⟩ := cl_e hE
        refine (moX11_solve eo_116).tr ?_
        exact moL_law_1113 mk_18 hE
      rcases br_e hE with ⟨_, hE⟩ | ⟨_, hE⟩
      · obtain ⟨g_118, hE⟩ := gd_e hE
        obtain ⟨o_119, eo_119, hE⟩ := cl_e hE
        refine (moX11_worth eo_119).tr ?_
        exact moL_law_1131 mk_18 hE
      rcases br_e hE with ⟨_, hE⟩ | ⟨_, hE⟩
      · obtain ⟨g_121, hE⟩ := gd_e hE
        obtain ⟨g_122, hE⟩ := gd_e hE
        obtain ⟨o_123, eo_123, hE⟩ := cl_e hE
        refine (moX11_tally eo_123).tr ?_
        exact moL_law_1159 mk_18 hE
      rcases br_e hE with ⟨_, hE⟩ | ⟨_, hE⟩
      · obtain ⟨g_125, hE⟩ := gd_e hE
        obtain ⟨g_126, hE⟩ := gd_e hE
        obtain ⟨g_127, hE⟩ := gd_e hE
        obtain ⟨g_128, hE⟩ := gd_e hE
        obtain ⟨o_129, eo_129, hE⟩ := cl_e hE
        refine (moX11_problem eo_129).tr ?_
        exact moL_law_1202 mk_18 hE
      rcases br_e hE with ⟨_, hE⟩ | ⟨_, hE⟩
      · obtain ⟨g_131, hE⟩ := gd_e hE
        obtain ⟨o_132, eo_132, hE⟩ := cl_e hE
        refine (moX11_key eo_132).tr ?_
        exact moL_law_1240 mk_18 hE
      rcases br_e hE with ⟨_, hE⟩ | ⟨_, hE⟩
      · obtain ⟨g_134, hE⟩ := gd_e hE
        obtain ⟨o_135, eo_135, hE⟩ := cl_e hE
        refine (moX11_refutes eo_135).tr ?_
        exact moL_law_1263 mk_18 hE
      exact moL_law_1277 mk_18 hE
set_option maxRecDepth 20000 in
theorem moL_law_15 {o : Int32 × Hp} {F L : Nat} {xs : Nat → Int32} {h : Hp} {x1 : Nat} {t0 : Nat} (hE : sL_law_15 F L xs h x1 t0 = some o) : Le h o.2 := by
  exact moL_law_18 _ hE
set_option maxRecDepth 20000 in
theorem moL_law_11 {o : Int32 × Hp} {F L : Nat} {xs : Nat → Int32} {h : Hp} {x1 : Nat} {t0 : Nat} (hE : sL_law_11 F L xs h x1 t0 = some o) : Le h o.2 := by
  obtain ⟨o_1, eo_1, hE⟩ := cl_e hE
  refine (moX15_init eo_1).tr ?_
  exact moL_law_15 hE
set_option maxRecDepth 20000 in
theorem moL_law_7 {o : Int32 × Hp} {F L : Nat} {xs : Nat → Int32} {h : Hp} {t0 : Nat} (hE : sL_law_7 F L xs h  t0 = some o) : Le h o.2 := by
  obtain ⟨a_1, ea_1, hE⟩ := nm_e2 hE
  obtain ⟨h_2, eh_2, hE⟩ := nm_e2 hE
  refine (le_C eh_2).tr ?_
  exact moL_law_11 hE
set_option maxRecDepth 20000 in
theorem moL_law_3 {o : Int32 × Hp} {F L : Nat} {xs : Nat → Int32} {h : Hp} {t0 : Nat} (hE : sL_law_3 F L xs h  t0 = some o) : Le h o.2 := by
  obtain ⟨o_1, eo_1, hE⟩ := cl_e hE
  refine (moX11_init eo_1).tr ?_
  exact moL_law_7 hE
set_option maxRecDepth 20000 in
theorem moL_law {o : Int32 × Hp} {F L : Nat} {xs : Nat → Int32} {h : Hp} (hE : sL_law F L xs h = some o) : Le h o.2 := by
  obtain ⟨a_1, ea_1, hE⟩ := nm_e2 hE
  obtain ⟨h_2, eh_2, hE⟩ := nm_e2 hE
  refine (le_C eh_2).tr ?_
  exact moL_law_3 hE
set_option maxRecDepth 20000 in
theorem bL_law_1277 {p : Program} {l : Launch} {e : Env} {s : State} {m : MethodId} {below : List Frame} {meth : Method} {c : Code} {X : Ec} {h0 : Hp} {o : Int32 × Hp} {k_18 : Hp → Nat → Nat → Int32 → Option (Int32 × Hp)} {F : Nat} {mn : String} {b L : Nat} {xs : Nat → Int32} (C : Cx X p s m #[Value.ref b] meth c RL code 4 ret mn) (hX : va_X b L xs s s.heap) (hbl : b < s.heap.size) (hbA : ¬ aA (eB X) b) (hbase : eB X = s.heap.size) (hRm : hS o.2 - hS h0 ≤ room_1.cells ∧ hL o.2 - hL h0 ≤ room_1.slots) (ho : o.1 = 1) (hk_18 : ∀ (h : Hp) (x1 : Nat) (x2 : Nat) (x3 : Int32) (H : Heap) (locs : List Loc), hK h x1 = 11 → hK h x2 = 15 → Kl h0 h → Wx X h H → va_S (aA (eB X)) s.heap H locs → ∀ (ls : Array Slot), lv_has ls 4 [(0, .ref b), (1, .ref x1), (2, .ref x2), (3, .int x3)] → k_18 h x1 x2 x3 = some o → W p l e room_1 s m #[Value.ref b] below meth c H locs (hS h - hS h0) (hL h - hL h0) (lw_Z below #[Value.ref b] s) (F0 m 18 ls [])) (mk_18 : ∀ (h : Hp) (x1 : Nat) (x2 : Nat) (x3 : Int32), k_18 h x1 x2 x3 = some o → Le h o.2) {h : Hp} {x1 : Nat} {x2 : Nat} {x3 : Int32} {H : Heap} {locs : List Loc} (k_x1 : hK h x1 = 11) (k_x2 : hK h x2 = 15) (hkl : Kl h0 h) (hW : Wx X h H) (hZ : va_S (aA (eB X)) s.heap H locs) (ls : Array Slot) (hl : lv_has ls 4 [(0, .ref b), (1, .ref x1), (2, .ref x2), (3, .int x3)]) (hE : sL_law_1277 F L xs k_18 h x1 x2 x3 = some o) : W p l e room_1 s m #[Value.ref b] below meth c H locs (hS h - hS h0) (hL h - hL h0) (lw_Z below #[Value.ref b] s) (F0 m 1277 ls []) := by
  obtain ⟨v_1, ev_1, hE⟩ := nm_e2 hE
  refine lv_iinc (v := v_1) (lv' := [(3, .int v_1), (0, .ref b), (1, .ref x1), (2, .ref x2)]) C.1 C.2.1 dL_law_1277 hl (k := 3) rfl (by rw [ev_1]; rfl) (by decide) rfl (fun ls hl => ?_)
  refine lv_goto (tgt := 18) C.1 C.2.1 dL_law_1280 (by decide) ?_
  exact hk_18 _ _ _ _ _ _ k_x1 k_x2 hkl hW hZ _ (lv_sub hl [1, 2, 3, 0] rfl) hE
set_option maxRecDepth 20000 in
theorem bL_law_254 {p : Program} {l : Launch} {e : Env} {s : State} {m : MethodId} {below : List Frame} {meth : Method} {c : Code} {X : Ec} {h0 : Hp} {o : Int32 × Hp} {k_18 : Hp → Nat → Nat → Int32 → Option (Int32 × Hp)} {F : Nat} {mn : String} {b L : Nat} {xs : Nat → Int32} (C : Cx X p s m #[Value.ref b] meth c RL code 4 ret mn) (hX : va_X b L xs s s.heap) (hbl : b < s.heap.size) (hbA : ¬ aA (eB X) b) (hbase : eB X = s.heap.size) (hRm : hS o.2 - hS h0 ≤ room_1.cells ∧ hL o.2 - hL h0 ≤ room_1.slots) (ho : o.1 = 1) (hk_18 : ∀ (h : Hp) (x1 : Nat) (x2 : Nat) (x3 : Int32) (H : Heap) (locs : List Loc), hK h x1 = 11 → hK h x2 = 15 → Kl h0 h → Wx X h H → va_S (aA (eB X)) s.heap H locs → ∀ (ls : Array Slot), lv_has ls 4 [(0, .ref b), (1, .ref x1), (2, .ref x2), (3, .int x3)] → k_18 h x1 x2 x3 = some o → W p l e room_1 s m #[Value.ref b] below meth c H locs (hS h - hS h0) (hL h - hL h0) (lw_Z below #[Value.ref b] s) (F0 m 18 ls [])) (mk_18 : ∀ (h : Hp) (x1 : Nat) (x2 : Nat) (x3 : Int32), k_18 h x1 x2 x3 = some o → Le h o.2) {h : Hp} {x1 : Nat} {x2 : Nat} {x3 : Int32} {t0 : Int32} {t1 : Int32} {H : Heap} {locs : List Loc} (k_x1 : hK h x1 = 11) (k_x2 : hK h x2 = 15) (hkl : Kl h0 h) (hW : Wx X h H) (hZ : va_S (aA (eB X)) s.heap H locs) (ls : Array Slot) (hl : lv_has ls 4 [(0, .ref b), (1, .ref x1), (2, .ref x2), (3, .int x3)]) (hE : sL_law_254 F L xs k_18 h x1 x2 x3 t0 t1 = some o) : W p l e room_1 s m #[Value.ref b] below meth c H locs (hS h - hS h0) (hL h - hL h0) (lw_Z below #[Value.ref b] s) (F0 m 254 ls [.int t0, .int t1]) := by
  refine lv_icmp_eq (tgt := 1277) C.1 C.2.1 dL_law_254 (by decide) (fun c_1 => ?_) (fun c_1 => ?_)
  · have hE := br_p hE c_1
    exact bL_law_1277 C hX hbl hbA hbase hRm ho hk_18 mk_18 k_x1 k_x2 hkl hW hZ _ (lv_sub hl [0, 1, 2, 3] rfl) hE
  · have hE := br_n hE c_1
    refine lv_iconst (v := (0 : Int32)) C.1 C.2.1 dL_law_257 (by decide) ?_
    exact x_retL C hZ hbase hRm ho hE dL_law_258
set_option maxRecDepth 20000 in
theorem bL_law_225 {p : Program} {l : Launch} {e : Env} {s : State} {m : MethodId} {below : List Frame} {meth : Method} {c : Code} {X : Ec} {h0 : Hp} {o : Int32 × Hp} {k_18 : Hp → Nat → Nat → Int32 → Option (Int32 × Hp)} {F : Nat} {mn : String} {b L : Nat} {xs : Nat → Int32} (C : Cx X p s m #[Value.ref b] meth c RL code 4 ret mn) (hX : va_X b L xs s s.heap) (hbl : b < s.heap.size) (hbA : ¬ aA (eB X) b) (hbase : eB X = s.heap.size) (hRm : hS o.2 - hS h0 ≤ room_1.cells ∧ hL o.2 - hL h0 ≤ room_1.slots) (ho : o.1 = 1) (hk_18 : ∀ (h : Hp) (x1 : Nat) (x2 : Nat) (x3 : Int32) (H : Heap) (locs : List Loc), hK h x1 = 11 → hK h x2 = 15 → Kl h0 h → Wx X h H → va_S (aA (eB X)) s.heap H locs → ∀ (ls : Array Slot), lv_has ls 4 [(0, .ref b), (1, .ref x1), (2, .ref x2), (3, .int x3)] → k_18 h x1 x2 x3 = some o → W p l e room_1 s m #[Value.ref b] below meth c H locs (hS h - hS h0) (hL h - hL h0) (lw_Z below #[Value.ref b] s) (F0 m 18 ls [])) (mk_18 : ∀ (h : Hp) (x1 : Nat) (x2 : Nat) (x3 : Int32), k_18 h x1 x2 x3 = some o → Le h o.2) {h : Hp} {x1 : Nat} {x2 : Nat} {x3 : Int32} {t0 : Int32} {H : Heap} {locs : List Loc} (k_x1 : hK h x1 = 11) (k_x2 : hK h x2 = 15) (hkl : Kl h0 h) (hW : Wx X h H) (hZ : va_S (aA (eB X)) s.heap H locs) (ls : Array Slot) (hl : lv_has ls 4 [(0, .ref b), (1, .ref x1), (2, .ref x2), (3, .int x3)]) (hE : sL_law_225 F L xs k_18 h x1 x2 x3 t0 = some o) : W p l e room_1 s m #[Value.ref b] below meth c H locs (hS h - hS h0) (hL h - hL h0) (lw_Z below #[Value.ref b] s) (F0 m 225 ls [.int t0]) := by
  refine lv_aload_n C.1 C.2.1 dL_law_225 rfl (lv_at hl 2 rfl) ?_
  refine lv_aload_n C.1 C.2.1 dL_law_226 rfl (lv_at hl 0 rfl) ?_
  refine lv_iload_n C.1 C.2.1 dL_law_227 rfl (lv_at hl 3 rfl) ?_
  refine lv_iconst (v := (1 : Int32)) C.1 C.2.1 dL_law_228 (by decide) ?_
  refine lv_iadd C.1 C.2.1 dL_law_229 ?_
  obtain ⟨g_1, hE⟩ := gd_e hE
  refine va_sld C.1 C.2.1 hX hbl hbA hZ g_1 dL_law_230 ?_
  refine lv_aload_n C.1 C.2.1 dL_law_231 rfl (lv_at hl 0 rfl) ?_
  refine lv_iload_n C.1 C.2.1 dL_law_232 rfl (lv_at hl 3 rfl) ?_
  refine lv_iconst (v := (2 : Int32)) C.1 C.2.1 dL_law_233 (by decide) ?_
  refine lv_iadd C.1 C.2.1 dL_law_234 ?_
  obtain ⟨g_2, hE⟩ := gd_e hE
  refine va_sld C.1 C.2.1 hX hbl hbA hZ g_2 dL_law_235 ?_
  refine lv_aload_n C.1 C.2.1 dL_law_236 rfl (lv_at hl 0 rfl) ?_
  refine lv_iload_n C.1 C.2.1 dL_law_237 rfl (lv_at hl 3 rfl) ?_
  refine lv_iconst (v := (3 : Int32)) C.1 C.2.1 dL_law_238 (by decide) ?_
  refine lv_iadd C.1 C.2.1 dL_law_239 ?_
  obtain ⟨g_3, hE⟩ := gd_e hE
  refine va_sld C.1 C.2.1 hX hbl hbA hZ g_3 dL_law_240 ?_
  refine lv_aload_n C.1 C.2.1 dL_law_241 rfl (lv_at hl 0 rfl) ?_
  refine lv_iload_n C.1 C.2.1 dL_law_242 rfl (lv_at hl 3 rfl) ?_
  refine lv_iconst (v := (4 : Int32)) C.1 C.2.1 dL_law_243 (by decide) ?_
  refine lv_iadd C.1 C.2.1 dL_law_244 ?_
  obtain ⟨g_4, hE⟩ := gd_e hE
  refine va_sld C.1 C.2.1 hX hbl hbA hZ g_4 dL_law_245 ?_
  refine lv_aload_n C.1 C.2.1 dL_law_246 rfl (lv_at hl 0 rfl) ?_
  refine lv_iload_n C.1 C.2.1 dL_law_247 rfl (lv_at hl 3 rfl) ?_
  refine lv_iconst (v := (5 : Int32)) C.1 C.2.1 dL_law_248 (by decide) ?_
  refine lv_iadd C.1 C.2.1 dL_law_249 ?_
  obtain ⟨g_5, hE⟩ := gd_e hE
  refine va_sld C.1 C.2.1 hX hbl hbA hZ g_5 dL_law_250 ?_
  obtain ⟨o_6, eo_6, hE⟩ := cl_e hE
  have m1 := moX15_feed eo_6
  have m2 := moL_law_254 mk_18 hE
  refine x_kI (o := o_6) (z_runV (As := [.int (xs (x3 + (1 : Int32)).toNatClampNeg), .int (xs (x3 + (2 : Int32)).toNatClampNeg), .int (xs (x3 + (3 : Int32)).toNatClampNeg), .int (xs (x3 + (4 : Int32)).toNatClampNeg), .int (xs (x3 + (5 : Int32)).toNatClampNeg)]) (rest := [.int t0]) C (ct_X15_feed l X F k_x2 eo_6) cw_L_17 hW hZ k_x2 (by decide) rfl rfl rfl hl.1 (Nat.le_of_ble_eq_true rfl) rfl dL_law_251 ⟨Nat.le_of_ble_eq_true rfl, Nat.le_of_ble_eq_true rfl⟩ ⟨Nat.le_trans (rm_ok0 hkl m1 m2).1 hRm.1, Nat.le_trans (rm_ok0 hkl m1 m2).2 hRm.2⟩) hZ (fun _ _ hW km hZ => ?_)
  replace hkl := hkl.tr km.l
  refine x_wc km ?_
  replace k_x1 := km.at k_x1 (by decide)
  replace k_x2 := km.at k_x2 (by decide)
  exact bL_law_254 C hX hbl hbA hbase hRm ho hk_18 mk_18 k_x1 k_x2 hkl hW hZ _ (lv_sub hl [0, 1, 2, 3] rfl) hE
set_option maxRecDepth 20000 in
theorem bL_law_277 {p : Program} {l : Launch} {e : Env} {s : State} {m : MethodId} {below : List Frame} {meth : Method} {c : Code} {X : Ec} {h0 : Hp} {o : Int32 × Hp} {k_18 : Hp → Nat → Nat → Int32 → Option (Int32 × Hp)} {F : Nat} {mn : String} {b L : Nat} {xs : Nat → Int32} (C : Cx X p s m #[Value.ref b] meth c RL code 4 ret mn) (hX : va_X b L xs s s.heap) (hbl : b < s.heap.size) (hbA : ¬ aA (eB X) b) (hbase : eB X = s.heap.size) (hRm : hS o.2 - hS h0 ≤ room_1.cells ∧ hL o.2 - hL h0 ≤ room_1.slots) (ho : o.1 = 1) (hk_18 : ∀ (h : Hp) (x1 : Nat) (x2 : Nat) (x3 : Int32) (H : Heap) (locs : List Loc), hK h x1 = 11 → hK h x2 = 15 → Kl h0 h → Wx X h H → va_S (aA (eB X)) s.heap H locs → ∀ (ls : Array Slot), lv_has ls 4 [(0, .ref b), (1, .ref x1), (2, .ref x2), (3, .int x3)] → k_18 h x1 x2 x3 = some o → W p l e room_1 s m #[Value.ref b] below meth c H locs (hS h - hS h0) (hL h - hL h0) (lw_Z below #[Value.ref b] s) (F0 m 18 ls [])) (mk_18 : ∀ (h : Hp) (x1 : Nat) (x2 : Nat) (x3 : Int32), k_18 h x1 x2 x3 = some o → Le h o.2) {h : Hp} {x1 : Nat} {x2 : Nat} {x3 : Int32} {t0 : Int32} {t1 : Int32} {H : Heap} {locs : List Loc} (k_x1 : hK h x1 = 11) (k_x2 : hK h x2 = 15) (hkl : Kl h0 h) (hW : Wx X h H) (hZ : va_S (aA (eB X)) s.heap H locs) (ls : Array Slot) (hl : lv_has ls 4 [(0, .ref b), (1, .ref x1), (2, .ref x2), (3, .int x3)]) (hE : sL_law_277 F L xs k_18 h x1 x2 x3 t0 t1 = some o) : W p l e room_1 s m #[Value.ref b] below meth c H locs (hS h - hS h0) (hL h - hL h0) (lw_Z below #[Value.ref b] s) (F0 m 277 ls [.int t0, .int t1]) := by
  refine lv_icmp_eq (tgt := 1277) C.1 C.2.1 dL_law_277 (by decide) (fun c_1 => ?_) (fun c_1 => ?_)
  · have hE := br_p hE c_1
    exact bL_law_1277 C hX hbl hbA hbase hRm ho hk_18 mk_18 k_x1 k_x2 hkl hW hZ _ (lv_sub hl [0, 1, 2, 3] rfl) hE
  · have hE := br_n hE c_1
    refine lv_iconst (v := (0 : Int32)) C.1 C.2.1 dL_law_280 (by decide) ?_
    exact x_retL C hZ hbase hRm ho hE dL_law_281
set_option maxRecDepth 20000 in
theorem bL_law_268 {p : Program} {l : Launch} {e : Env} {s : State} {m : MethodId} {below : List Frame} {meth : Method} {c : Code} {X : Ec} {h0 : Hp} {o : Int32 × Hp} {k_18 : Hp → Nat → Nat → Int32 → Option (Int32 × Hp)} {F : Nat} {mn : String} {b L : Nat} {xs : Nat → Int32} (C : Cx X p s m #[Value.ref b] meth c RL code 4 ret mn) (hX : va_X b L xs s s.heap) (hbl : b < s.heap.size) (hbA : ¬ aA (eB X) b) (hbase : eB X = s.heap.size) (hRm : hS o.2 - hS h0 ≤ room_1.cells ∧ hL o.2 - hL h0 ≤ room_1.slots) (ho : o.1 = 1) (hk_18 : ∀ (h : Hp) (x1 : Nat) (x2 : Nat) (x3 : Int32) (H : Heap) (locs : List Loc), hK h x1 = 11 → hK h x2 = 15 → Kl h0 h → Wx X h H → va_S (aA (eB X)) s.heap H locs → ∀ (ls : Array Slot), lv_has ls 4 [(0, .ref b), (1, .ref x1), (2, .ref x2), (3, .int x3)] → k_18 h x1 x2 x3 = some o → W p l e room_1 s m #[Value.ref b] below meth c H locs (hS h - hS h0) (hL h - hL h0) (lw_Z below #[Value.ref b] s) (F0 m 18 ls [])) (mk_18 : ∀ (h : Hp) (x1 : Nat) (x2 : Nat) (x3 : Int32), k_18 h x1 x2 x3 = some o → Le h o.2) {h : Hp} {x1 : Nat} {x2 : Nat} {x3 : Int32} {t0 : Int32} {H : Heap} {locs : List Loc} (k_x1 : hK h x1 = 11) (k_x2 : hK h x2 = 15) (hkl : Kl h0 h) (hW : Wx X h H) (hZ : va_S (aA (eB X)) s.heap H locs) (ls : Array Slot) (hl : lv_has ls 4 [(0, .ref b), (1, .ref x1), (2, .ref x2), (3, .int x3)]) (hE : sL_law_268 F L xs k_18 h x1 x2 x3 t0 = some o) : W p l e room_1 s m #[Value.ref b] below meth c H locs (hS h - hS h0) (hL h - hL h0) (lw_Z below #[Value.ref b] s) (F0 m 268 ls [.int t0]) := by
  refine lv_aload_n C.1 C.2.1 dL_law_268 rfl (lv_at hl 2 rfl) ?_
  refine lv_aload_n C.1 C.2.1 dL_law_269 rfl (lv_at hl 0 rfl) ?_
  refine lv_iload_n C.1 C.2.1 dL_law_270 rfl (lv_at hl 3 rfl) ?_
  refine lv_iconst (v := (1 : Int32)) C.1 C.2.1 dL_law_271 (by decide) ?_
  refine lv_iadd C.1 C.2.1 dL_law_272 ?_
  obtain ⟨g_1, hE⟩ := gd_e hE
  refine va_sld C.1 C.2.1 hX hbl hbA hZ g_1 dL_law_273 ?_
  obtain ⟨o_2, eo_2, hE⟩ := cl_e hE
  have m1 := moX15_end eo_2
  have m2 := moL_law_277 mk_18 hE
  refine x_kI (o := o_2) (z_runV (As := [.int (xs (x3 + (1 : Int32)).toNatClampNeg)]) (rest := [.int t0]) C (ct_X15_end l X k_x2 eo_2) cw_L_22 hW hZ k_x2 (by decide) rfl rfl rfl hl.1 (Nat.le_of_ble_eq_true rfl) rfl dL_law_274 ⟨Nat.le_of_ble_eq_true rfl, Nat.le_of_ble_eq_true rfl⟩ ⟨Nat.le_trans (rm_ok0 hkl m1 m2).1 hRm.1, Nat.le_trans (rm_ok0 hkl m1 m2).2 hRm.2⟩) hZ (fun _ _ hW km hZ => ?_)
  replace hkl := hkl.tr km.l
  refine x_wc km ?_
  replace k_x1 := km.at k_x1 (by decide)
  replace k_x2 := km.at k_x2 (by decide)
  exact bL_law_277 C hX hbl hbA hbase hRm ho hk_18 mk_18 k_x1 k_x2 hkl hW hZ _ (lv_sub hl [0, 1, 2, 3] rfl) hE
set_option maxRecDepth 20000 in
theorem bL_law_290 {p : Program} {l : Launch} {e : Env} {s : State} {m : MethodId} {below : List Frame} {meth : Method} {c : Code} {X : Ec} {h0 : Hp} {o : Int32 × Hp} {k_18 : Hp → Nat → Nat → Int32 → Option (Int32 × Hp)} {F : Nat} {mn : String} {b L : Nat} {xs : Nat → Int32} (C : Cx X p s m #[Value.ref b] meth c RL code 4 ret mn) (hX : va_X b L xs s s.heap) (hbl : b < s.heap.size) (hbA : ¬ aA (eB X) b) (hbase : eB X = s.heap.size) (hRm : hS o.2 - hS h0 ≤ room_1.cells ∧ hL o.2 - hL h0 ≤ room_1.slots) (ho : o.1 = 1) (hk_18 : ∀ (h : Hp) (x1 : Nat) (x2 : Nat) (x3 : Int32) (H : Heap) (locs : List Loc), hK h x1 = 11 → hK h x2 = 15 → Kl h0 h → Wx X h H → va_S (aA (eB X)) s.heap H locs → ∀ (ls : Array Slot), lv_has ls 4 [(0, .ref b), (1, .ref x1), (2, .ref x2), (3, .int x3)] → k_18 h x1 x2 x3 = some o → W p l e room_1 s m #[Value.ref b] below meth c H locs (hS h - hS h0) (hL h - hL h0) (lw_Z below #[Value.ref b] s) (F0 m 18 ls [])) (mk_18 : ∀ (h : Hp) (x1 : Nat) (x2 : Nat) (x3 : Int32), k_18 h x1 x2 x3 = some o → Le h o.2) {h : Hp} {x1 : Nat} {x2 : Nat} {x3 : Int32} {t0 : Int32} {t1 : Int32} {H : Heap} {locs : List Loc} (k_x1 : hK h x1 = 11) (k_x2 : hK h x2 = 15) (hkl : Kl h0 h) (hW : Wx X h H) (hZ : va_S (aA (eB X)) s.heap H locs) (ls : Array Slot) (hl : lv_has ls 4 [(0, .ref b), (1, .ref x1), (2, .ref x2), (3, .int x3)]) (hE : sL_law_290 F L xs k_18 h x1 x2 x3 t0 t1 = some o) : W p l e room_1 s m #[Value.ref b] below meth c H locs (hS h - hS h0) (hL h - hL h0) (lw_Z below #[Value.ref b] s) (F0 m 290 ls [.int t0, .int t1]) := by
  refine lv_icmp_eq (tgt := 1277) C.1 C.2.1 dL_law_290 (by decide) (fun c_1 => ?_) (fun c_1 => ?_)
  · have hE := br_p hE c_1
    exact bL_law_1277 C hX hbl hbA hbase hRm ho hk_18 mk_18 k_x1 k_x2 hkl hW hZ _ (lv_sub hl [0, 1, 2, 3] rfl) hE
  · have hE := br_n hE c_1
    refine lv_iconst (v := (0 : Int32)) C.1 C.2.1 dL_law_293 (by decide) ?_
    exact x_retL C hZ hbase hRm ho hE dL_law_294
set_option maxRecDepth 20000 in
theorem bL_law_286 {p : Program} {l : Launch} {e : Env} {s : State} {m : MethodId} {below : List Frame} {meth : Method} {c : Code} {X : Ec} {h0 : Hp} {o : Int32 × Hp} {k_18 : Hp → Nat → Nat → Int32 → Option (Int32 × Hp)} {F : Nat} {mn : String} {b L : Nat} {xs : Nat → Int32} (C : Cx X p s m #[Value.ref b] meth c RL code 4 ret mn) (hX : va_X b L xs s s.heap) (hbl : b < s.heap.size) (hbA : ¬ aA (eB X) b) (hbase : eB X = s.heap.size) (hRm : hS o.2 - hS h0 ≤ room_1.cells ∧ hL o.2 - hL h0 ≤ room_1.slots) (ho : o.1 = 1) (hk_18 : ∀ (h : Hp) (x1 : Nat) (x2 : Nat) (x3 : Int32) (H : Heap) (locs : List Loc), hK h x1 = 11 → hK h x2 = 15 → Kl h0 h → Wx X h H → va_S (aA (eB X)) s.heap H locs → ∀ (ls : Array Slot), lv_has ls 4 [(0, .ref b), (1, .ref x1), (2, .ref x2), (3, .int x3)] → k_18 h x1 x2 x3 = some o → W p l e room_1 s m #[Value.ref b] below meth c H locs (hS h - hS h0) (hL h - hL h0) (lw_Z below #[Value.ref b] s) (F0 m 18 ls [])) (mk_18 : ∀ (h : Hp) (x1 : Nat) (x2 : Nat) (x3 : Int32), k_18 h x1 x2 x3 = some o → Le h o.2) {h : Hp} {x1 : Nat} {x2 : Nat} {x3 : Int32} {t0 : Int32} {H : Heap} {locs : List Loc} (k_x1 : hK h x1 = 11) (k_x2 : hK h x2 = 15) (hkl : Kl h0 h) (hW : Wx X h H) (hZ : va_S (aA (eB X)) s.heap H locs) (ls : Array Slot) (hl : lv_has ls 4 [(0, .ref b), (1, .ref x1), (2, .ref x2), (3, .int x3)]) (hE : sL_law_286 F L xs k_18 h x1 x2 x3 t0 = some o) : W p l e room_1 s m #[Value.ref b] below meth c H locs (hS h - hS h0) (hL h - hL h0) (lw_Z below #[Value.ref b] s) (F0 m 286 ls [.int t0]) := by
  refine lv_aload_n C.1 C.2.1 dL_law_286 rfl (lv_at hl 2 rfl) ?_
  obtain ⟨o_1, eo_1, hE⟩ := cl_e hE
  have m1 := moX15_rules eo_1
  have m2 := moL_law_290 mk_18 hE
  refine x_kI (o := o_1) (z_runV (As := []) (rest := [.int t0]) C (ct_X15_rules l X F k_x2 eo_1) cw_L_27 hW hZ k_x2 (by decide) rfl rfl rfl hl.1 (Nat.le_of_ble_eq_true rfl) rfl dL_law_287 ⟨Nat.le_of_ble_eq_true rfl, Nat.le_of_ble_eq_true rfl⟩ ⟨Nat.le_trans (rm_ok0 hkl m1 m2).1 hRm.1, Nat.le_trans (rm_ok0 hkl m1 m2).2 hRm.2⟩) hZ (fun _ _ hW km hZ => ?_)
  replace hkl := hkl.tr km.l
  refine x_wc km ?_
  replace k_x1 := km.at k_x1 (by decide)
  replace k_x2 := km.at k_x2 (by decide)
  exact bL_law_290 C hX hbl hbA hbase hRm ho hk_18 mk_18 k_x1 k_x2 hkl hW hZ _ (lv_sub hl [0, 1, 2, 3] rfl) hE
set_option maxRecDepth 20000 in
theorem bL_law_313 {p : Program} {l : Launch} {e : Env} {s : State} {m : MethodId} {below : List Frame} {meth : Method} {c : Code} {X : Ec} {h0 : Hp} {o : Int32 × Hp} {k_18 : Hp → Nat → Nat → Int32 → Option (Int32 × Hp)} {F : Nat} {mn : String} {b L : Nat} {xs : Nat → Int32} (C : Cx X p s m #[Value.ref b] meth c RL code 4 ret mn) (hX : va_X b L xs s s.heap) (hbl : b < s.heap.size) (hbA : ¬ aA (eB X) b) (hbase : eB X = s.heap.size) (hRm : hS o.2 - hS h0 ≤ room_1.cells ∧ hL o.2 - hL h0 ≤ room_1.slots) (ho : o.1 = 1) (hk_18 : ∀ (h : Hp) (x1 : Nat) (x2 : Nat) (x3 : Int32) (H : Heap) (locs : List Loc), hK h x1 = 11 → hK h x2 = 15 → Kl h0 h → Wx X h H → va_S (aA (eB X)) s.heap H locs → ∀ (ls : Array Slot), lv_has ls 4 [(0, .ref b), (1, .ref x1), (2, .ref x2), (3, .int x3)] → k_18 h x1 x2 x3 = some o → W p l e room_1 s m #[Value.ref b] below meth c H locs (hS h - hS h0) (hL h - hL h0) (lw_Z below #[Value.ref b] s) (F0 m 18 ls [])) (mk_18 : ∀ (h : Hp) (x1 : Nat) (x2 : Nat) (x3 : Int32), k_18 h x1 x2 x3 = some o → Le h o.2) {h : Hp} {x1 : Nat} {x2 : Nat} {x3 : Int32} {t0 : Int32} {t1 : Int32} {H : Heap} {locs : List Loc} (k_x1 : hK h x1 = 11) (k_x2 : hK h x2 = 15) (hkl : Kl h0 h) (hW : Wx X h H) (hZ : va_S (aA (eB X)) s.heap H locs) (ls : Array Slot) (hl : lv_has ls 4 [(0, .ref b), (1, .ref x1), (2, .ref x2), (3, .int x3)]) (hE : sL_law_313 F L xs k_18 h x1 x2 x3 t0 t1 = some o) : W p l e room_1 s m #[Value.ref b] below meth c H locs (hS h - hS h0) (hL h - hL h0) (lw_Z below #[Value.ref b] s) (F0 m 313 ls [.int t0, .int t1]) := by
  refine lv_icmp_eq (tgt := 1277) C.1 C.2.1 dL_law_313 (by decide) (fun c_1 => ?_) (fun c_1 => ?_)
  · have hE := br_p hE c_1
    exact bL_law_1277 C hX hbl hbA hbase hRm ho hk_18 mk_18 k_x1 k_x2 hkl hW hZ _ (lv_sub hl [0, 1, 2, 3] rfl) hE
  · have hE := br_n hE c_1
    refine lv_iconst (v := (0 : Int32)) C.1 C.2.1 dL_law_316 (by decide) ?_
    exact x_retL C hZ hbase hRm ho hE dL_law_317
set_option maxRecDepth 20000 in
theorem bL_law_304 {p : Program} {l : Launch} {e : Env} {s : State} {m : MethodId} {below : List Frame} {meth : Method} {c : Code} {X : Ec} {h0 : Hp} {o : Int32 × Hp} {k_18 : Hp → Nat → Nat → Int32 → Option (Int32 × Hp)} {F : Nat} {mn : String} {b L : Nat} {xs : Nat → Int32} (C : Cx X p s m #[Value.ref b] meth c RL code 4 ret mn) (hX : va_X b L xs s s.heap) (hbl : b < s.heap.size) (hbA : ¬ aA (eB X) b) (hbase : eB X = s.heap.size) (hRm : hS o.2 - hS h0 ≤ room_1.cells ∧ hL o.2 - hL h0 ≤ room_1.slots) (ho : o.1 = 1) (hk_18 : ∀ (h : Hp) (x1 : Nat) (x2 : Nat) (x3 : Int32) (H : Heap) (locs : List Loc), hK h x1 = 11 → hK h x2 = 15 → Kl h0 h → Wx X h H → va_S (aA (eB X)) s.heap H locs → ∀ (ls : Array Slot), lv_has ls 4 [(0, .ref b), (1, .ref x1), (2, .ref x2), (3, .int x3)] → k_18 h x1 x2 x3 = some o → W p l e room_1 s m #[Value.ref b] below meth c H locs (hS h - hS h0) (hL h - hL h0) (lw_Z below #[Value.ref b] s) (F0 m 18 ls [])) (mk_18 : ∀ (h : Hp) (x1 : Nat) (x2 : Nat) (x3 : Int32), k_18 h x1 x2 x3 = some o → Le h o.2) {h : Hp} {x1 : Nat} {x2 : Nat} {x3 : Int32} {t0 : Int32} {H : Heap} {locs : List Loc} (k_x1 : hK h x1 = 11) (k_x2 : hK h x2 = 15) (hkl : Kl h0 h) (hW : Wx X h H) (hZ : va_S (aA (eB X)) s.heap H locs) (ls : Array Slot) (hl : lv_has ls 4 [(0, .ref b), (1, .ref x1), (2, .ref x2), (3, .int x3)]) (hE : sL_law_304 F L xs k_18 h x1 x2 x3 t0 = some o) : W p l e room_1 s m #[Value.ref b] below meth c H locs (hS h - hS h0) (hL h - hL h0) (lw_Z below #[Value.ref b] s) (F0 m 304 ls [.int t0]) := by
  refine lv_aload_n C.1 C.2.1 dL_law_304 rfl (lv_at hl 2 rfl) ?_
  refine lv_aload_n C.1 C.2.1 dL_law_305 rfl (lv_at hl 0 rfl) ?_
  refine lv_iload_n C.1 C.2.1 dL_law_306 rfl (lv_at hl 3 rfl) ?_
  refine lv_iconst (v := (1 : Int32)) C.1 C.2.1 dL_law_307 (by decide) ?_
  refine lv_iadd C.1 C.2.1 dL_law_308 ?_
  obtain ⟨g_1, hE⟩ := gd_e hE
  refine va_sld C.1 C.2.1 hX hbl hbA hZ g_1 dL_law_309 ?_
  obtain ⟨o_2, eo_2, hE⟩ := cl_e hE
  have m1 := moX15_told eo_2
  have m2 := moL_law_313 mk_18 hE
  refine x_kIA (o := o_2) hkl (z_runV (As := [.int (xs (x3 + (1 : Int32)).toNatClampNeg)]) (rest := [.int t0]) C (ct_X15_told l X F k_x2 eo_2) cw_L_31 hW hZ k_x2 (by decide) rfl rfl rfl hl.1 (Nat.le_of_ble_eq_true rfl) rfl dL_law_310 ⟨Nat.le_of_ble_eq_true rfl, Nat.le_of_ble_eq_true rfl⟩ ⟨Nat.le_trans (rm_ok hkl m1 m2).1 hRm.1, Nat.le_trans (rm_ok hkl m1 m2).2 hRm.2⟩) hZ (fun _ _ hW km hZ => ?_)
  replace hkl := hkl.tr km
  replace k_x1 := km.at k_x1 (by decide)
  replace k_x2 := km.at k_x2 (by decide)
  exact bL_law_313 C hX hbl hbA hbase hRm ho hk_18 mk_18 k_x1 k_x2 hkl hW hZ _ (lv_sub hl [0, 1, 2, 3] rfl) hE
set_option maxRecDepth 20000 in
theorem bL_law_336 {p : Program} {l : Launch} {e : Env} {s : State} {m : MethodId} {below : List Frame} {meth : Method} {c : Code} {X : Ec} {h0 : Hp} {o : Int32 × Hp} {k_18 : Hp → Nat → Nat → Int32 → Option (Int32 × Hp)} {F : Nat} {mn : String} {b L : Nat} {xs : Nat → Int32} (C : Cx X p s m #[Value.ref b] meth c RL code 4 ret mn) (hX : va_X b L xs s s.heap) (hbl : b < s.heap.size) (hbA : ¬ aA (eB X) b) (hbase : eB X = s.heap.size) (hRm : hS o.2 - hS h0 ≤ room_1.cells ∧ hL o.2 - hL h0 ≤ room_1.slots) (ho : o.1 = 1) (hk_18 : ∀ (h : Hp) (x1 : Nat) (x2 : Nat) (x3 : Int32) (H : Heap) (locs : List Loc), hK h x1 = 11 → hK h x2 = 15 → Kl h0 h → Wx X h H → va_S (aA (eB X)) s.heap H locs → ∀ (ls : Array Slot), lv_has ls 4 [(0, .ref b), (1, .ref x1), (2, .ref x2), (3, .int x3)] → k_18 h x1 x2 x3 = some o → W p l e room_1 s m #[Value.ref b] below meth c H locs (hS h - hS h0) (hL h - hL h0) (lw_Z below #[Value.ref b] s) (F0 m 18 ls [])) (mk_18 : ∀ (h : Hp) (x1 : Nat) (x2 : Nat) (x3 : Int32), k_18 h x1 x2 x3 = some o → Le h o.2) {h : Hp} {x1 : Nat} {x2 : Nat} {x3 : Int32} {t0 : Int32} {t1 : Int32} {H : Heap} {locs : List Loc} (k_x1 : hK h x1 = 11) (k_x2 : hK h x2 = 15) (hkl : Kl h0 h) (hW : Wx X h H) (hZ : va_S (aA (eB X)) s.heap H locs) (ls : Array Slot) (hl : lv_has ls 4 [(0, .ref b), (1, .ref x1), (2, .ref x2), (3, .int x3)]) (hE : sL_law_336 F L xs k_18 h x1 x2 x3 t0 t1 = some o) : W p l e room_1 s m #[Value.ref b] below meth c H locs (hS h - hS h0) (hL h - hL h0) (lw_Z below #[Value.ref b] s) (F0 m 336 ls [.int t0, .int t1]) := by
  refine lv_icmp_eq (tgt := 1277) C.1 C.2.1 dL_law_336 (by decide) (fun c_1 => ?_) (fun c_1 => ?_)
  · have hE := br_p hE c_1
    exact bL_law_1277 C hX hbl hbA hbase hRm ho hk_18 mk_18 k_x1 k_x2 hkl hW hZ _ (lv_sub hl [0, 1, 2, 3] rfl) hE
  · have hE := br_n hE c_1
    refine lv_iconst (v := (0 : Int32)) C.1 C.2.1 dL_law_339 (by decide) ?_
    exact x_retL C hZ hbase hRm ho hE dL_law_340
set_option maxRecDepth 20000 in
theorem bL_law_327 {p : Program} {l : Launch} {e : Env} {s : State} {m : MethodId} {below : List Frame} {meth : Method} {c : Code} {X : Ec} {h0 : Hp} {o : Int32 × Hp} {k_18 : Hp → Nat → Nat → Int32 → Option (Int32 × Hp)} {F : Nat} {mn : String} {b L : Nat} {xs : Nat → Int32} (C : Cx X p s m #[Value.ref b] meth c RL code 4 ret mn) (hX : va_X b L xs s s.heap) (hbl : b < s.heap.size) (hbA : ¬ aA (eB X) b) (hbase : eB X = s.heap.size) (hRm : hS o.2 - hS h0 ≤ room_1.cells ∧ hL o.2 - hL h0 ≤ room_1.slots) (ho : o.1 = 1) (hk_18 : ∀ (h : Hp) (x1 : Nat) (x2 : Nat) (x3 : Int32) (H : Heap) (locs : List Loc), hK h x1 = 11 → hK h x2 = 15 → Kl h0 h → Wx X h H → va_S (aA (eB X)) s.heap H locs → ∀ (ls : Array Slot), lv_has ls 4 [(0, .ref b), (1, .ref x1), (2, .ref x2), (3, .int x3)] → k_18 h x1 x2 x3 = some o → W p l e room_1 s m #[Value.ref b] below meth c H locs (hS h - hS h0) (hL h - hL h0) (lw_Z below #[Value.ref b] s) (F0 m 18 ls [])) (mk_18 : ∀ (h : Hp) (x1 : Nat) (x2 : Nat) (x3 : Int32), k_18 h x1 x2 x3 = some o → Le h o.2) {h : Hp} {x1 : Nat} {x2 : Nat} {x3 : Int32} {t0 : Int32} {H : Heap} {locs : List Loc} (k_x1 : hK h x1 = 11) (k_x2 : hK h x2 = 15) (hkl : Kl h0 h) (hW : Wx X h H) (hZ : va_S (aA (eB X)) s.heap H locs) (ls : Array Slot) (hl : lv_has ls 4 [(0, .ref b), (1, .ref x1), (2, .ref x2), (3, .int x3)]) (hE : sL_law_327 F L xs k_18 h x1 x2 x3 t0 = some o) : W p l e room_1 s m #[Value.ref b] below meth c H locs (hS h - hS h0) (hL h - hL h0) (lw_Z below #[Value.ref b] s) (F0 m 327 ls [.int t0]) := by
  refine lv_aload_n C.1 C.2.1 dL_law_327 rfl (lv_at hl 2 rfl) ?_
  refine lv_aload_n C.1 C.2.1 dL_law_328 rfl (lv_at hl 0 rfl) ?_
  refine lv_iload_n C.1 C.2.1 dL_law_329 rfl (lv_at hl 3 rfl) ?_
  refine lv_iconst (v := (1 : Int32)) C.1 C.2.1 dL_law_330 (by decide) ?_
  refine lv_iadd C.1 C.2.1 dL_law_331 ?_
  obtain ⟨g_1, hE⟩ := gd_e hE
  refine va_sld C.1 C.2.1 hX hbl hbA hZ g_1 dL_law_332 ?_
  obtain ⟨o_2, eo_2, hE⟩ := cl_e hE
  have m1 := moX15_out eo_2
  have m2 := moL_law_336 mk_18 hE
  refine x_kI (o := o_2) (z_runV (As := [.int (xs (x3 + (1 : Int32)).toNatClampNeg)]) (rest := [.int t0]) C (ct_X15_out l X k_x2 eo_2) cw_L_35 hW hZ k_x2 (by decide) rfl rfl rfl hl.1 (Nat.le_of_ble_eq_true rfl) rfl dL_law_333 ⟨Nat.le_of_ble_eq_true rfl, Nat.le_of_ble_eq_true rfl⟩ ⟨Nat.le_trans (rm_ok0 hkl m1 m2).1 hRm.1, Nat.le_trans (rm_ok0 hkl m1 m2).2 hRm.2⟩) hZ (fun _ _ hW km hZ => ?_)
  replace hkl := hkl.tr km.l
  refine x_wc km ?_
  replace k_x1 := km.at k_x1 (by decide)
  replace k_x2 := km.at k_x2 (by decide)
  exact bL_law_336 C hX hbl hbA hbase hRm ho hk_18 mk_18 k_x1 k_x2 hkl hW hZ _ (lv_sub hl [0, 1, 2, 3] rfl) hE
set_option maxRecDepth 20000 in
theorem bL_law_349 {p : Program} {l : Launch} {e : Env} {s : State} {m : MethodId} {below : List Frame} {meth : Method} {c : Code} {X : Ec} {h0 : Hp} {o : Int32 × Hp} {k_18 : Hp → Nat → Nat → Int32 → Option (Int32 × Hp)} {F : Nat} {mn : String} {b L : Nat} {xs : Nat → Int32} (C : Cx X p s m #[Value.ref b] meth c RL code 4 ret mn) (hX : va_X b L xs s s.heap) (hbl : b < s.heap.size) (hbA : ¬ aA (eB X) b) (hbase : eB X = s.heap.size) (hRm : hS o.2 - hS h0 ≤ room_1.cells ∧ hL o.2 - hL h0 ≤ room_1.slots) (ho : o.1 = 1) (hk_18 : ∀ (h : Hp) (x1 : Nat) (x2 : Nat) (x3 : Int32) (H : Heap) (locs : List Loc), hK h x1 = 11 → hK h x2 = 15 → Kl h0 h → Wx X h H → va_S (aA (eB X)) s.heap H locs → ∀ (ls : Array Slot), lv_has ls 4 [(0, .ref b), (1, .ref x1), (2, .ref x2), (3, .int x3)] → k_18 h x1 x2 x3 = some o → W p l e room_1 s m #[Value.ref b] below meth c H locs (hS h - hS h0) (hL h - hL h0) (lw_Z below #[Value.ref b] s) (F0 m 18 ls [])) (mk_18 : ∀ (h : Hp) (x1 : Nat) (x2 : Nat) (x3 : Int32), k_18 h x1 x2 x3 = some o → Le h o.2) {h : Hp} {x1 : Nat} {x2 : Nat} {x3 : Int32} {t0 : Int32} {t1 : Int32} {H : Heap} {locs : List Loc} (k_x1 : hK h x1 = 11) (k_x2 : hK h x2 = 15) (hkl : Kl h0 h) (hW : Wx X h H) (hZ : va_S (aA (eB X)) s.heap H locs) (ls : Array Slot) (hl : lv_has ls 4 [(0, .ref b), (1, .ref x1), (2, .ref x2), (3, .int x3)]) (hE : sL_law_349 F L xs k_18 h x1 x2 x3 t0 t1 = some o) : W p l e room_1 s m #[Value.ref b] below meth c H locs (hS h - hS h0) (hL h - hL h0) (lw_Z below #[Value.ref b] s) (F0 m 349 ls [.int t0, .int t1]) := by
  refine lv_icmp_eq (tgt := 1277) C.1 C.2.1 dL_law_349 (by decide) (fun c_1 => ?_) (fun c_1 => ?_)
  · have hE := br_p hE c_1
    exact bL_law_1277 C hX hbl hbA hbase hRm ho hk_18 mk_18 k_x1 k_x2 hkl hW hZ _ (lv_sub hl [0, 1, 2, 3] rfl) hE
  · have hE := br_n hE c_1
    refine lv_iconst (v := (0 : Int32)) C.1 C.2.1 dL_law_352 (by decide) ?_
    exact x_retL C hZ hbase hRm ho hE dL_law_353
set_option maxRecDepth 20000 in
theorem bL_law_345 {p : Program} {l : Launch} {e : Env} {s : State} {m : MethodId} {below : List Frame} {meth : Method} {c : Code} {X : Ec} {h0 : Hp} {o : Int32 × Hp} {k_18 : Hp → Nat → Nat → Int32 → Option (Int32 × Hp)} {F : Nat} {mn : String} {b L : Nat} {xs : Nat → Int32} (C : Cx X p s m #[Value.ref b] meth c RL code 4 ret mn) (hX : va_X b L xs s s.heap) (hbl : b < s.heap.size) (hbA : ¬ aA (eB X) b) (hbase : eB X = s.heap.size) (hRm : hS o.2 - hS h0 ≤ room_1.cells ∧ hL o.2 - hL h0 ≤ room_1.slots) (ho : o.1 = 1) (hk_18 : ∀ (h : Hp) (x1 : Nat) (x2 : Nat) (x3 : Int32) (H : Heap) (locs : List Loc), hK h x1 = 11 → hK h x2 = 15 → Kl h0 h → Wx X h H → va_S (aA (eB X)) s.heap H locs → ∀ (ls : Array Slot), lv_has ls 4 [(0, .ref b), (1, .ref x1), (2, .ref x2), (3, .int x3)] → k_18 h x1 x2 x3 = some o → W p l e room_1 s m #[Value.ref b] below meth c H locs (hS h - hS h0) (hL h - hL h0) (lw_Z below #[Value.ref b] s) (F0 m 18 ls [])) (mk_18 : ∀ (h : Hp) (x1 : Nat) (x2 : Nat) (x3 : Int32), k_18 h x1 x2 x3 = some o → Le h o.2) {h : Hp} {x1 : Nat} {x2 : Nat} {x3 : Int32} {t0 : Int32} {H : Heap} {locs : List Loc} (k_x1 : hK h x1 = 11) (k_x2 : hK h x2 = 15) (hkl : Kl h0 h) (hW : Wx X h H) (hZ : va_S (aA (eB X)) s.heap H locs) (ls : Array Slot) (hl : lv_has ls 4 [(0, .ref b), (1, .ref x1), (2, .ref x2), (3, .int x3)]) (hE : sL_law_345 F L xs k_18 h x1 x2 x3 t0 = some o) : W p l e room_1 s m #[Value.ref b] below meth c H locs (hS h - hS h0) (hL h - hL h0) (lw_Z below #[Value.ref b] s) (F0 m 345 ls [.int t0]) := by
  refine lv_aload_n C.1 C.2.1 dL_law_345 rfl (lv_at hl 2 rfl) ?_
  obtain ⟨o_1, eo_1, hE⟩ := cl_e hE
  have m1 := moX15_position eo_1
  have m2 := moL_law_349 mk_18 hE
  refine x_kIA (o := o_1) hkl (z_runV (As := []) (rest := [.int t0]) C (ct_X15_position l X F k_x2 eo_1) cw_L_39 hW hZ k_x2 (by decide) rfl rfl rfl hl.1 (Nat.le_of_ble_eq_true rfl) rfl dL_law_346 ⟨Nat.le_of_ble_eq_true rfl, Nat.le_of_ble_eq_true rfl⟩ ⟨Nat.le_trans (rm_ok hkl m1 m2).1 hRm.1, Nat.le_trans (rm_ok hkl m1 m2).2 hRm.2⟩) hZ (fun _ _ hW km hZ => ?_)
  replace hkl := hkl.tr km
  replace k_x1 := km.at k_x1 (by decide)
  replace k_x2 := km.at k_x2 (by decide)
  exact bL_law_349 C hX hbl hbA hbase hRm ho hk_18 mk_18 k_x1 k_x2 hkl hW hZ _ (lv_sub hl [0, 1, 2, 3] rfl) hE
set_option maxRecDepth 20000 in
theorem bL_law_372 {p : Program} {l : Launch} {e : Env} {s : State} {m : MethodId} {below : List Frame} {meth : Method} {c : Code} {X : Ec} {h0 : Hp} {o : Int32 × Hp} {k_18 : Hp → Nat → Nat → Int32 → Option (Int32 × Hp)} {F : Nat} {mn : String} {b L : Nat} {xs : Nat → Int32} (C : Cx X p s m #[Value.ref b] meth c RL code 4 ret mn) (hX : va_X b L xs s s.heap) (hbl : b < s.heap.size) (hbA : ¬ aA (eB X) b) (hbase : eB X = s.heap.size) (hRm : hS o.2 - hS h0 ≤ room_1.cells ∧ hL o.2 - hL h0 ≤ room_1.slots) (ho : o.1 = 1) (hk_18 : ∀ (h : Hp) (x1 : Nat) (x2 : Nat) (x3 : Int32) (H : Heap) (locs : List Loc), hK h x1 = 11 → hK h x2 = 15 → Kl h0 h → Wx X h H → va_S (aA (eB X)) s.heap H locs → ∀ (ls : Array Slot), lv_has ls 4 [(0, .ref b), (1, .ref x1), (2, .ref x2), (3, .int x3)] → k_18 h x1 x2 x3 = some o → W p l e room_1 s m #[Value.ref b] below meth c H locs (hS h - hS h0) (hL h - hL h0) (lw_Z below #[Value.ref b] s) (F0 m 18 ls [])) (mk_18 : ∀ (h : Hp) (x1 : Nat) (x2 : Nat) (x3 : Int32), k_18 h x1 x2 x3 = some o → Le h o.2) {h : Hp} {x1 : Nat} {x2 : Nat} {x3 : Int32} {t0 : Int32} {t1 : Int32} {H : Heap} {locs : List Loc} (k_x1 : hK h x1 = 11) (k_x2 : hK h x2 = 15) (hkl : Kl h0 h) (hW : Wx X h H) (hZ : va_S (aA (eB X)) s.heap H locs) (ls : Array Slot) (hl : lv_has ls 4 [(0, .ref b), (1, .ref x1), (2, .ref x2), (3, .int x3)]) (hE : sL_law_372 F L xs k_18 h x1 x2 x3 t0 t1 = some o) : W p l e room_1 s m #[Value.ref b] below meth c H locs (hS h - hS h0) (hL h - hL h0) (lw_Z below #[Value.ref b] s) (F0 m 372 ls [.int t0, .int t1]) := by
  refine lv_icmp_eq (tgt := 1277) C.1 C.2.1 dL_law_372 (by decide) (fun c_1 => ?_) (fun c_1 => ?_)
  · have hE := br_p hE c_1
    exact bL_law_1277 C hX hbl hbA hbase hRm ho hk_18 mk_18 k_x1 k_x2 hkl hW hZ _ (lv_sub hl [0, 1, 2, 3] rfl) hE
  · have hE := br_n hE c_1
    refine lv_iconst (v := (0 : Int32)) C.1 C.2.1 dL_law_375 (by decide) ?_
    exact x_retL C hZ hbase hRm ho hE dL_law_376
set_option maxRecDepth 20000 in
theorem bL_law_363 {p : Program} {l : Launch} {e : Env} {s : State} {m : MethodId} {below : List Frame} {meth : Method} {c : Code} {X : Ec} {h0 : Hp} {o : Int32 × Hp} {k_18 : Hp → Nat → Nat → Int32 → Option (Int32 × Hp)} {F : Nat} {mn : String} {b L : Nat} {xs : Nat → Int32} (C : Cx X p s m #[Value.ref b] meth c RL code 4 ret mn) (hX : va_X b L xs s s.heap) (hbl : b < s.heap.size) (hbA : ¬ aA (eB X) b) (hbase : eB X = s.heap.size) (hRm : hS o.2 - hS h0 ≤ room_1.cells ∧ hL o.2 - hL h0 ≤ room_1.slots) (ho : o.1 = 1) (hk_18 : ∀ (h : Hp) (x1 : Nat) (x2 : Nat) (x3 : Int32) (H : Heap) (locs : List Loc), hK h x1 = 11 → hK h x2 = 15 → Kl h0 h → Wx X h H → va_S (aA (eB X)) s.heap H locs → ∀ (ls : Array Slot), lv_has ls 4 [(0, .ref b), (1, .ref x1), (2, .ref x2), (3, .int x3)] → k_18 h x1 x2 x3 = some o → W p l e room_1 s m #[Value.ref b] below meth c H locs (hS h - hS h0) (hL h - hL h0) (lw_Z below #[Value.ref b] s) (F0 m 18 ls [])) (mk_18 : ∀ (h : Hp) (x1 : Nat) (x2 : Nat) (x3 : Int32), k_18 h x1 x2 x3 = some o → Le h o.2) {h : Hp} {x1 : Nat} {x2 : Nat} {x3 : Int32} {t0 : Int32} {H : Heap} {locs : List Loc} (k_x1 : hK h x1 = 11) (k_x2 : hK h x2 = 15) (hkl : Kl h0 h) (hW : Wx X h H) (hZ : va_S (aA (eB X)) s.heap H locs) (ls : Array Slot) (hl : lv_has ls 4 [(0, .ref b), (1, .ref x1), (2, .ref x2), (3, .int x3)]) (hE : sL_law_363 F L xs k_18 h x1 x2 x3 t0 = some o) : W p l e room_1 s m #[Value.ref b] below meth c H locs (hS h - hS h0) (hL h - hL h0) (lw_Z below #[Value.ref b] s) (F0 m 363 ls [.int t0]) := by
  refine lv_aload_n C.1 C.2.1 dL_law_363 rfl (lv_at hl 2 rfl) ?_
  refine lv_aload_n C.1 C.2.1 dL_law_364 rfl (lv_at hl 0 rfl) ?_
  refine lv_iload_n C.1 C.2.1 dL_law_365 rfl (lv_at hl 3 rfl) ?_
  refine lv_iconst (v := (1 : Int32)) C.1 C.2.1 dL_law_366 (by decide) ?_
  refine lv_iadd C.1 C.2.1 dL_law_367 ?_
  obtain ⟨g_1, hE⟩ := gd_e hE
  refine va_sld C.1 C.2.1 hX hbl hbA hZ g_1 dL_law_368 ?_
  obtain ⟨o_2, eo_2, hE⟩ := cl_e hE
  have m1 := moX15_drop eo_2
  have m2 := moL_law_372 mk_18 hE
  refine x_kI (o := o_2) (z_runV (As := [.int (xs (x3 + (1 : Int32)).toNatClampNeg)]) (rest := [.int t0]) C (ct_X15_drop l X k_x2 eo_2) cw_L_43 hW hZ k_x2 (by decide) rfl rfl rfl hl.1 (Nat.le_of_ble_eq_true rfl) rfl dL_law_369 ⟨Nat.le_of_ble_eq_true rfl, Nat.le_of_ble_eq_true rfl⟩ ⟨Nat.le_trans (rm_ok0 hkl m1 m2).1 hRm.1, Nat.le_trans (rm_ok0 hkl m1 m2).2 hRm.2⟩) hZ (fun _ _ hW km hZ => ?_)
  replace hkl := hkl.tr km.l
  refine x_wc km ?_
  replace k_x1 := km.at k_x1 (by decide)
  replace k_x2 := km.at k_x2 (by decide)
  exact bL_law_372 C hX hbl hbA hbase hRm ho hk_18 mk_18 k_x1 k_x2 hkl hW hZ _ (lv_sub hl [0, 1, 2, 3] rfl) hE
set_option maxRecDepth 20000 in
theorem bL_law_395 {p : Program} {l : Launch} {e : Env} {s : State} {m : MethodId} {below : List Frame} {meth : Method} {c : Code} {X : Ec} {h0 : Hp} {o : Int32 × Hp} {k_18 : Hp → Nat → Nat → Int32 → Option (Int32 × Hp)} {F : Nat} {mn : String} {b L : Nat} {xs : Nat → Int32} (C : Cx X p s m #[Value.ref b] meth c RL code 4 ret mn) (hX : va_X b L xs s s.heap) (hbl : b < s.heap.size) (hbA : ¬ aA (eB X) b) (hbase : eB X = s.heap.size) (hRm : hS o.2 - hS h0 ≤ room_1.cells ∧ hL o.2 - hL h0 ≤ room_1.slots) (ho : o.1 = 1) (hk_18 : ∀ (h : Hp) (x1 : Nat) (x2 : Nat) (x3 : Int32) (H : Heap) (locs : List Loc), hK h x1 = 11 → hK h x2 = 15 → Kl h0 h → Wx X h H → va_S (aA (eB X)) s.heap H locs → ∀ (ls : Array Slot), lv_has ls 4 [(0, .ref b), (1, .ref x1), (2, .ref x2), (3, .int x3)] → k_18 h x1 x2 x3 = some o → W p l e room_1 s m #[Value.ref b] below meth c H locs (hS h - hS h0) (hL h - hL h0) (lw_Z below #[Value.ref b] s) (F0 m 18 ls [])) (mk_18 : ∀ (h : Hp) (x1 : Nat) (x2 : Nat) (x3 : Int32), k_18 h x1 x2 x3 = some o → Le h o.2) {h : Hp} {x1 : Nat} {x2 : Nat} {x3 : Int32} {t0 : Int32} {t1 : Int32} {H : Heap} {locs : List Loc} (k_x1 : hK h x1 = 11) (k_x2 : hK h x2 = 15) (hkl : Kl h0 h) (hW : Wx X h H) (hZ : va_S (aA (eB X)) s.heap H locs) (ls : Array Slot) (hl : lv_has ls 4 [(0, .ref b), (1, .ref x1), (2, .ref x2), (3, .int x3)]) (hE : sL_law_395 F L xs k_18 h x1 x2 x3 t0 t1 = some o) : W p l e room_1 s m #[Value.ref b] below meth c H locs (hS h - hS h0) (hL h - hL h0) (lw_Z below #[Value.ref b] s) (F0 m 395 ls [.int t0, .int t1]) := by
  refine lv_icmp_eq (tgt := 1277) C.1 C.2.1 dL_law_395 (by decide) (fun c_1 => ?_) (fun c_1 => ?_)
  · have hE := br_p hE c_1
    exact bL_law_1277 C hX hbl hbA hbase hRm ho hk_18 mk_18 k_x1 k_x2 hkl hW hZ _ (lv_sub hl [0, 1, 2, 3] rfl) hE
  · have hE := br_n hE c_1
    refine lv_iconst (v := (0 : Int32)) C.1 C.2.1 dL_law_398 (by decide) ?_
    exact x_retL C hZ hbase hRm ho hE dL_law_399
set_option maxRecDepth 20000 in
theorem bL_law_386 {p : Program} {l : Launch} {e : Env} {s : State} {m : MethodId} {below : List Frame} {meth : Method} {c : Code} {X : Ec} {h0 : Hp} {o : Int32 × Hp} {k_18 : Hp → Nat → Nat → Int32 → Option (Int32 × Hp)} {F : Nat} {mn : String} {b L : Nat} {xs : Nat → Int32} (C : Cx X p s m #[Value.ref b] meth c RL code 4 ret mn) (hX : va_X b L xs s s.heap) (hbl : b < s.heap.size) (hbA : ¬ aA (eB X) b) (hbase : eB X = s.heap.size) (hRm : hS o.2 - hS h0 ≤ room_1.cells ∧ hL o.2 - hL h0 ≤ room_1.slots) (ho : o.1 = 1) (hk_18 : ∀ (h : Hp) (x1 : Nat) (x2 : Nat) (x3 : Int32) (H : Heap) (locs : List Loc), hK h x1 = 11 → hK h x2 = 15 → Kl h0 h → Wx X h H → va_S (aA (eB X)) s.heap H locs → ∀ (ls : Array Slot), lv_has ls 4 [(0, .ref b), (1, .ref x1), (2, .ref x2), (3, .int x3)] → k_18 h x1 x2 x3 = some o → W p l e room_1 s m #[Value.ref b] below meth c H locs (hS h - hS h0) (hL h - hL h0) (lw_Z below #[Value.ref b] s) (F0 m 18 ls [])) (mk_18 : ∀ (h : Hp) (x1 : Nat) (x2 : Nat) (x3 : Int32), k_18 h x1 x2 x3 = some o → Le h o.2) {h : Hp} {x1 : Nat} {x2 : Nat} {x3 : Int32} {t0 : Int32} {H : Heap} {locs : List Loc} (k_x1 : hK h x1 = 11) (k_x2 : hK h x2 = 15) (hkl : Kl h0 h) (hW : Wx X h H) (hZ : va_S (aA (eB X)) s.heap H locs) (ls : Array Slot) (hl : lv_has ls 4 [(0, .ref b), (1, .ref x1), (2, .ref x2), (3, .int x3)]) (hE : sL_law_386 F L xs k_18 h x1 x2 x3 t0 = some o) : W p l e room_1 s m #[Value.ref b] below meth c H locs (hS h - hS h0) (hL h - hL h0) (lw_Z below #[Value.ref b] s) (F0 m 386 ls [.int t0]) := by
  refine lv_aload_n C.1 C.2.1 dL_law_386 rfl (lv_at hl 2 rfl) ?_
  refine lv_aload_n C.1 C.2.1 dL_law_387 rfl (lv_at hl 0 rfl) ?_
  refine lv_iload_n C.1 C.2.1 dL_law_388 rfl (lv_at hl 3 rfl) ?_
  refine lv_iconst (v := (1 : Int32)) C.1 C.2.1 dL_law_389 (by decide) ?_
  refine lv_iadd C.1 C.2.1 dL_law_390 ?_
  obtain ⟨g_1, hE⟩ := gd_e hE
  refine va_sld C.1 C.2.1 hX hbl hbA hZ g_1 dL_law_391 ?_
  obtain ⟨o_2, eo_2, hE⟩ := cl_e hE
  have m1 := moX15_write eo_2
  have m2 := moL_law_395 mk_18 hE
  refine x_kI (o := o_2) (z_runV (As := [.int (xs (x3 + (1 : Int32)).toNatClampNeg)]) (rest := [.int t0]) C (ct_X15_write l X F k_x2 eo_2) cw_L_47 hW hZ k_x2 (by decide) rfl rfl rfl hl.1 (Nat.le_of_ble_eq_true rfl) rfl dL_law_392 ⟨Nat.le_of_ble_eq_true rfl, Nat.le_of_ble_eq_true rfl⟩ ⟨Nat.le_trans (rm_ok0 hkl m1 m2).1 hRm.1, Nat.le_trans (rm_ok0 hkl m1 m2).2 hRm.2⟩) hZ (fun _ _ hW km hZ => ?_)
  replace hkl := hkl.tr km.l
  refine x_wc km ?_
  replace k_x1 := km.at k_x1 (by decide)
  replace k_x2 := km.at k_x2 (by decide)
  exact bL_law_395 C hX hbl hbA hbase hRm ho hk_18 mk_18 k_x1 k_x2 hkl hW hZ _ (lv_sub hl [0, 1, 2, 3] rfl) hE
set_option maxRecDepth 20000 in
theorem bL_law_428 {p : Program} {l : Launch} {e : Env} {s : State} {m : MethodId} {below : List Frame} {meth : Method} {c : Code} {X : Ec} {h0 : Hp} {o : Int32 × Hp} {k_18 : Hp → Nat → Nat → Int32 → Option (Int32 × Hp)} {F : Nat} {mn : String} {b L : Nat} {xs : Nat → Int32} (C : Cx X p s m #[Value.ref b] meth c RL code 4 ret mn) (hX : va_X b L xs s s.heap) (hbl : b < s.heap.size) (hbA : ¬ aA (eB X) b) (hbase : eB X = s.heap.size) (hRm : hS o.2 - hS h0 ≤ room_1.cells ∧ hL o.2 - hL h0 ≤ room_1.slots) (ho : o.1 = 1) (hk_18 : ∀ (h : Hp) (x1 : Nat) (x2 : Nat) (x3 : Int32) (H : Heap) (locs : List Loc), hK h x1 = 11 → hK h x2 = 15 → Kl h0 h → Wx X h H → va_S (aA (eB X)) s.heap H locs → ∀ (ls : Array Slot), lv_has ls 4 [(0, .ref b), (1, .ref x1), (2, .ref x2), (3, .int x3)] → k_18 h x1 x2 x3 = some o → W p l e room_1 s m #[Value.ref b] below meth c H locs (hS h - hS h0) (hL h - hL h0) (lw_Z below #[Value.ref b] s) (F0 m 18 ls [])) (mk_18 : ∀ (h : Hp) (x1 : Nat) (x2 : Nat) (x3 : Int32), k_18 h x1 x2 x3 = some o → Le h o.2) {h : Hp} {x1 : Nat} {x2 : Nat} {x3 : Int32} {t0 : Int32} {t1 : Int32} {H : Heap} {locs : List Loc} (k_x1 : hK h x1 = 11) (k_x2 : hK h x2 = 15) (hkl : Kl h0 h) (hW : Wx X h H) (hZ : va_S (aA (eB X)) s.heap H locs) (ls : Array Slot) (hl : lv_has ls 4 [(0, .ref b), (1, .ref x1), (2, .ref x2), (3, .int x3)]) (hE : sL_law_428 F L xs k_18 h x1 x2 x3 t0 t1 = some o) : W p l e room_1 s m #[Value.ref b] below meth c H locs (hS h - hS h0) (hL h - hL h0) (lw_Z below #[Value.ref b] s) (F0 m 428 ls [.int t0, .int t1]) := by
  refine lv_icmp_eq (tgt := 1277) C.1 C.2.1 dL_law_428 (by decide) (fun c_1 => ?_) (fun c_1 => ?_)
  · have hE := br_p hE c_1
    exact bL_law_1277 C hX hbl hbA hbase hRm ho hk_18 mk_18 k_x1 k_x2 hkl hW hZ _ (lv_sub hl [0, 1, 2, 3] rfl) hE
  · have hE := br_n hE c_1
    refine lv_iconst (v := (0 : Int32)) C.1 C.2.1 dL_law_431 (by decide) ?_
    exact x_retL C hZ hbase hRm ho hE dL_law_432
set_option maxRecDepth 20000 in
theorem bL_law_414 {p : Program} {l : Launch} {e : Env} {s : State} {m : MethodId} {below : List Frame} {meth : Method} {c : Code} {X : Ec} {h0 : Hp} {o : Int32 × Hp} {k_18 : Hp → Nat → Nat → Int32 → Option (Int32 × Hp)} {F : Nat} {mn : String} {b L : Nat} {xs : Nat → Int32} (C : Cx X p s m #[Value.ref b] meth c RL code 4 ret mn) (hX : va_X b L xs s s.heap) (hbl : b < s.heap.size) (hbA : ¬ aA (eB X) b) (hbase : eB X = s.heap.size) (hRm : hS o.2 - hS h0 ≤ room_1.cells ∧ hL o.2 - hL h0 ≤ room_1.slots) (ho : o.1 = 1) (hk_18 : ∀ (h : Hp) (x1 : Nat) (x2 : Nat) (x3 : Int32) (H : Heap) (locs : List Loc), hK h x1 = 11 → hK h x2 = 15 → Kl h0 h → Wx X h H → va_S (aA (eB X)) s.heap H locs → ∀ (ls : Array Slot), lv_has ls 4 [(0, .ref b), (1, .ref x1), (2, .ref x2), (3, .int x3)] → k_18 h x1 x2 x3 = some o → W p l e room_1 s m #[Value.ref b] below meth c H locs (hS h - hS h0) (hL h - hL h0) (lw_Z below #[Value.ref b] s) (F0 m 18 ls [])) (mk_18 : ∀ (h : Hp) (x1 : Nat) (x2 : Nat) (x3 : Int32), k_18 h x1 x2 x3 = some o → Le h o.2) {h : Hp} {x1 : Nat} {x2 : Nat} {x3 : Int32} {t0 : Int32} {H : Heap} {locs : List Loc} (k_x1 : hK h x1 = 11) (k_x2 : hK h x2 = 15) (hkl : Kl h0 h) (hW : Wx X h H) (hZ : va_S (aA (eB X)) s.heap H locs) (ls : Array Slot) (hl : lv_has ls 4 [(0, .ref b), (1, .ref x1), (2, .ref x2), (3, .int x3)]) (hE : sL_law_414 F L xs k_18 h x1 x2 x3 t0 = some o) : W p l e room_1 s m #[Value.ref b] below meth c H locs (hS h - hS h0) (hL h - hL h0) (lw_Z below #[Value.ref b] s) (F0 m 414 ls [.int t0]) := by
  refine lv_aload_n C.1 C.2.1 dL_law_414 rfl (lv_at hl 2 rfl) ?_
  refine lv_aload_n C.1 C.2.1 dL_law_415 rfl (lv_at hl 0 rfl) ?_
  refine lv_iload_n C.1 C.2.1 dL_law_416 rfl (lv_at hl 3 rfl) ?_
  refine lv_iconst (v := (1 : Int32)) C.1 C.2.1 dL_law_417 (by decide) ?_
  refine lv_iadd C.1 C.2.1 dL_law_418 ?_
  obtain ⟨g_1, hE⟩ := gd_e hE
  refine va_sld C.1 C.2.1 hX hbl hbA hZ g_1 dL_law_419 ?_
  refine lv_aload_n C.1 C.2.1 dL_law_420 rfl (lv_at hl 0 rfl) ?_
  refine lv_iload_n C.1 C.2.1 dL_law_421 rfl (lv_at hl 3 rfl) ?_
  refine lv_iconst (v := (2 : Int32)) C.1 C.2.1 dL_law_422 (by decide) ?_
  refine lv_iadd C.1 C.2.1 dL_law_423 ?_
  obtain ⟨g_2, hE⟩ := gd_e hE
  refine va_sld C.1 C.2.1 hX hbl hbA hZ g_2 dL_law_424 ?_
  obtain ⟨o_3, eo_3, hE⟩ := cl_e hE
  have m1 := moX15_same eo_3
  have m2 := moL_law_428 mk_18 hE
  refine x_kI (o := o_3) (z_runV (As := [.int (xs (x3 + (1 : Int32)).toNatClampNeg), .int (xs (x3 + (2 : Int32)).toNatClampNeg)]) (rest := [.int t0]) C (ct_X15_same l X F k_x2 eo_3) cw_L_52 hW hZ k_x2 (by decide) rfl rfl rfl hl.1 (Nat.le_of_ble_eq_true rfl) rfl dL_law_425 ⟨Nat.le_of_ble_eq_true rfl, Nat.le_of_ble_eq_true rfl⟩ ⟨Nat.le_trans (rm_ok0 hkl m1 m2).1 hRm.1, Nat.le_trans (rm_ok0 hkl m1 m2).2 hRm.2⟩) hZ (fun _ _ hW km hZ => ?_)
  replace hkl := hkl.tr km.l
  refine x_wc km ?_
  replace k_x1 := km.at k_x1 (by decide)
  replace k_x2 := km.at k_x2 (by decide)
  exact bL_law_428 C hX hbl hbA hbase hRm ho hk_18 mk_18 k_x1 k_x2 hkl hW hZ _ (lv_sub hl [0, 1, 2, 3] rfl) hE
set_option maxRecDepth 20000 in
theorem bL_law_461 {p : Program} {l : Launch} {e : Env} {s : State} {m : MethodId} {below : List Frame} {meth : Method} {c : Code} {X : Ec} {h0 : Hp} {o : Int32 × Hp} {k_18 : Hp → Nat → Nat → Int32 → Option (Int32 × Hp)} {F : Nat} {mn : String} {b L : Nat} {xs : Nat → Int32} (C : Cx X p s m #[Value.ref b] meth c RL code 4 ret mn) (hX : va_X b L xs s s.heap) (hbl : b < s.heap.size) (hbA : ¬ aA (eB X) b) (hbase : eB X = s.heap.size) (hRm : hS o.2 - hS h0 ≤ room_1.cells ∧ hL o.2 - hL h0 ≤ room_1.slots) (ho : o.1 = 1) (hk_18 : ∀ (h : Hp) (x1 : Nat) (x2 : Nat) (x3 : Int32) (H : Heap) (locs : List Loc), hK h x1 = 11 → hK h x2 = 15 → Kl h0 h → Wx X h H → va_S (aA (eB X)) s.heap H locs → ∀ (ls : Array Slot), lv_has ls 4 [(0, .ref b), (1, .ref x1), (2, .ref x2), (3, .int x3)] → k_18 h x1 x2 x3 = some o → W p l e room_1 s m #[Value.ref b] below meth c H locs (hS h - hS h0) (hL h - hL h0) (lw_Z below #[Value.ref b] s) (F0 m 18 ls [])) (mk_18 : ∀ (h : Hp) (x1 : Nat) (x2 : Nat) (x3 : Int32), k_18 h x1 x2 x3 = some o → Le h o.2) {h : Hp} {x1 : Nat} {x2 : Nat} {x3 : Int32} {t0 : Int32} {t1 : Int32} {H : Heap} {locs : List Loc} (k_x1 : hK h x1 = 11) (k_x2 : hK h x2 = 15) (hkl : Kl h0 h) (hW : Wx X h H) (hZ : va_S (aA (eB X)) s.heap H locs) (ls : Array Slot) (hl : lv_has ls 4 [(0, .ref b), (1, .ref x1), (2, .ref x2), (3, .int x3)]) (hE : sL_law_461 F L xs k_18 h x1 x2 x3 t0 t1 = some o) : W p l e room_1 s m #[Value.ref b] below meth c H locs (hS h - hS h0) (hL h - hL h0) (lw_Z below #[Value.ref b] s) (F0 m 461 ls [.int t0, .int t1]) := by
  refine lv_icmp_eq (tgt := 1277) C.1 C.2.1 dL_law_461 (by decide) (fun c_1 => ?_) (fun c_1 => ?_)
  · have hE := br_p hE c_1
    exact bL_law_1277 C hX hbl hbA hbase hRm ho hk_18 mk_18 k_x1 k_x2 hkl hW hZ _ (lv_sub hl [0, 1, 2, 3] rfl) hE
  · have hE := br_n hE c_1
    refine lv_iconst (v := (0 : Int32)) C.1 C.2.1 dL_law_464 (by decide) ?_
    exact x_retL C hZ hbase hRm ho hE dL_law_465
set_option maxRecDepth 20000 in
theorem bL_law_447 {p : Program} {l : Launch} {e : Env} {s : State} {m : MethodId} {below : List Frame} {meth : Method} {c : Code} {X : Ec} {h0 : Hp} {o : Int32 × Hp} {k_18 : Hp → Nat → Nat → Int32 → Option (Int32 × Hp)} {F : Nat} {mn : String} {b L : Nat} {xs : Nat → Int32} (C : Cx X p s m #[Value.ref b] meth c RL code 4 ret mn) (hX : va_X b L xs s s.heap) (hbl : b < s.heap.size) (hbA : ¬ aA (eB X) b) (hbase : eB X = s.heap.size) (hRm : hS o.2 - hS h0 ≤ room_1.cells ∧ hL o.2 - hL h0 ≤ room_1.slots) (ho : o.1 = 1) (hk_18 : ∀ (h : Hp) (x1 : Nat) (x2 : Nat) (x3 : Int32) (H : Heap) (locs : List Loc), hK h x1 = 11 → hK h x2 = 15 → Kl h0 h → Wx X h H → va_S (aA (eB X)) s.heap H locs → ∀ (ls : Array Slot), lv_has ls 4 [(0, .ref b), (1, .ref x1), (2, .ref x2), (3, .int x3)] → k_18 h x1 x2 x3 = some o → W p l e room_1 s m #[Value.ref b] below meth c H locs (hS h - hS h0) (hL h - hL h0) (lw_Z below #[Value.ref b] s) (F0 m 18 ls [])) (mk_18 : ∀ (h : Hp) (x1 : Nat) (x2 : Nat) (x3 : Int32), k_18 h x1 x2 x3 = some o → Le h o.2) {h : Hp} {x1 : Nat} {x2 : Nat} {x3 : Int32} {t0 : Int32} {H : Heap} {locs : List Loc} (k_x1 : hK h x1 = 11) (k_x2 : hK h x2 = 15) (hkl : Kl h0 h) (hW : Wx X h H) (hZ : va_S (aA (eB X)) s.heap H locs) (ls : Array Slot) (hl : lv_has ls 4 [(0, .ref b), (1, .ref x1), (2, .ref x2), (3, .int x3)]) (hE : sL_law_447 F L xs k_18 h x1 x2 x3 t0 = some o) : W p l e room_1 s m #[Value.ref b] below meth c H locs (hS h - hS h0) (hL h - hL h0) (lw_Z below #[Value.ref b] s) (F0 m 447 ls [.int t0]) := by
  refine lv_aload_n C.1 C.2.1 dL_law_447 rfl (lv_at hl 2 rfl) ?_
  refine lv_aload_n C.1 C.2.1 dL_law_448 rfl (lv_at hl 0 rfl) ?_
  refine lv_iload_n C.1 C.2.1 dL_law_449 rfl (lv_at hl 3 rfl) ?_
  refine lv_iconst (v := (1 : Int32)) C.1 C.2.1 dL_law_450 (by decide) ?_
  refine lv_iadd C.1 C.2.1 dL_law_451 ?_
  obtain ⟨g_1, hE⟩ := gd_e hE
  refine va_sld C.1 C.2.1 hX hbl hbA hZ g_1 dL_law_452 ?_
  refine lv_aload_n C.1 C.2.1 dL_law_453 rfl (lv_at hl 0 rfl) ?_
  refine lv_iload_n C.1 C.2.1 dL_law_454 rfl (lv_at hl 3 rfl) ?_
  refine lv_iconst (v := (2 : Int32)) C.1 C.2.1 dL_law_455 (by decide) ?_
  refine lv_iadd C.1 C.2.1 dL_law_456 ?_
  obtain ⟨g_2, hE⟩ := gd_e hE
  refine va_sld C.1 C.2.1 hX hbl hbA hZ g_2 dL_law_457 ?_
  obtain ⟨o_3, eo_3, hE⟩ := cl_e hE
  have m1 := moX15_at eo_3
  have m2 := moL_law_461 mk_18 hE
  refine x_kI (o := o_3) (z_runV (As := [.int (xs (x3 + (1 : Int32)).toNatClampNeg), .int (xs (x3 + (2 : Int32)).toNatClampNeg)]) (rest := [.int t0]) C (ct_X15_at l X k_x2 eo_3) cw_L_57 hW hZ k_x2 (by decide) rfl rfl rfl hl.1 (Nat.le_of_ble_eq_true rfl) rfl dL_law_458 ⟨Nat.le_of_ble_eq_true rfl, Nat.le_of_ble_eq_true rfl⟩ ⟨Nat.le_trans (rm_ok0 hkl m1 m2).1 hRm.1, Nat.le_trans (rm_ok0 hkl m1 m2).2 hRm.2⟩) hZ (fun _ _ hW km hZ => ?_)
  replace hkl := hkl.tr km.l
  refine x_wc km ?_
  replace k_x1 := km.at k_x1 (by decide)
  replace k_x2 := km.at k_x2 (by decide)
  exact bL_law_461 C hX hbl hbA hbase hRm ho hk_18 mk_18 k_x1 k_x2 hkl hW hZ _ (lv_sub hl [0, 1, 2, 3] rfl) hE
set_option maxRecDepth 20000 in
theorem bL_law_494 {p : Program} {l : Launch} {e : Env} {s : State} {m : MethodId} {below : List Frame} {meth : Method} {c : Code} {X : Ec} {h0 : Hp} {o : Int32 × Hp} {k_18 : Hp → Nat → Nat → Int32 → Option (Int32 × Hp)} {F : Nat} {mn : String} {b L : Nat} {xs : Nat → Int32} (C : Cx X p s m #[Value.ref b] meth c RL code 4 ret mn) (hX : va_X b L xs s s.heap) (hbl : b < s.heap.size) (hbA : ¬ aA (eB X) b) (hbase : eB X = s.heap.size) (hRm : hS o.2 - hS h0 ≤ room_1.cells ∧ hL o.2 - hL h0 ≤ room_1.slots) (ho : o.1 = 1) (hk_18 : ∀ (h : Hp) (x1 : Nat) (x2 : Nat) (x3 : Int32) (H : Heap) (locs : List Loc), hK h x1 = 11 → hK h x2 = 15 → Kl h0 h → Wx X h H → va_S (aA (eB X)) s.heap H locs → ∀ (ls : Array Slot), lv_has ls 4 [(0, .ref b), (1, .ref x1), (2, .ref x2), (3, .int x3)] → k_18 h x1 x2 x3 = some o → W p l e room_1 s m #[Value.ref b] below meth c H locs (hS h - hS h0) (hL h - hL h0) (lw_Z below #[Value.ref b] s) (F0 m 18 ls [])) (mk_18 : ∀ (h : Hp) (x1 : Nat) (x2 : Nat) (x3 : Int32), k_18 h x1 x2 x3 = some o → Le h o.2) {h : Hp} {x1 : Nat} {x2 : Nat} {x3 : Int32} {t0 : Int32} {t1 : Int32} {H : Heap} {locs : List Loc} (k_x1 : hK h x1 = 11) (k_x2 : hK h x2 = 15) (hkl : Kl h0 h) (hW : Wx X h H) (hZ : va_S (aA (eB X)) s.heap H locs) (ls : Array Slot) (hl : lv_has ls 4 [(0, .ref b), (1, .ref x1), (2, .ref x2), (3, .int x3)]) (hE : sL_law_494 F L xs k_18 h x1 x2 x3 t0 t1 = some o) : W p l e room_1 s m #[Value.ref b] below meth c H locs (hS h - hS h0) (hL h - hL h0) (lw_Z below #[Value.ref b] s) (F0 m 494 ls [.int t0, .int t1]) := by
  refine lv_icmp_eq (tgt := 1277) C.1 C.2.1 dL_law_494 (by decide) (fun c_1 => ?_) (fun c_1 => ?_)
  · have hE := br_p hE c_1
    exact bL_law_1277 C hX hbl hbA hbase hRm ho hk_18 mk_18 k_x1 k_x2 hkl hW hZ _ (lv_sub hl [0, 1, 2, 3] rfl) hE
  · have hE := br_n hE c_1
    refine lv_iconst (v := (0 : Int32)) C.1 C.2.1 dL_law_497 (by decide) ?_
    exact x_retL C hZ hbase hRm ho hE dL_law_498
set_option maxRecDepth 20000 in
theorem bL_law_480 {p : Program} {l : Launch} {e : Env} {s : State} {m : MethodId} {below : List Frame} {meth : Method} {c : Code} {X : Ec} {h0 : Hp} {o : Int32 × Hp} {k_18 : Hp → Nat → Nat → Int32 → Option (Int32 × Hp)} {F : Nat} {mn : String} {b L : Nat} {xs : Nat → Int32} (C : Cx X p s m #[Value.ref b] meth c RL code 4 ret mn) (hX : va_X b L xs s s.heap) (hbl : b < s.heap.size) (hbA : ¬ aA (eB X) b) (hbase : eB X = s.heap.size) (hRm : hS o.2 - hS h0 ≤ room_1.cells ∧ hL o.2 - hL h0 ≤ room_1.slots) (ho : o.1 = 1) (hk_18 : ∀ (h : Hp) (x1 : Nat) (x2 : Nat) (x3 : Int32) (H : Heap) (locs : List Loc), hK h x1 = 11 → hK h x2 = 15 → Kl h0 h → Wx X h H → va_S (aA (eB X)) s.heap H locs → ∀ (ls : Array Slot), lv_has ls 4 [(0, .ref b), (1, .ref x1), (2, .ref x2), (3, .int x3)] → k_18 h x1 x2 x3 = some o → W p l e room_1 s m #[Value.ref b] below meth c H locs (hS h - hS h0) (hL h - hL h0) (lw_Z below #[Value.ref b] s) (F0 m 18 ls [])) (mk_18 : ∀ (h : Hp) (x1 : Nat) (x2 : Nat) (x3 : Int32), k_18 h x1 x2 x3 = some o → Le h o.2) {h : Hp} {x1 : Nat} {x2 : Nat} {x3 : Int32} {t0 : Int32} {H : Heap} {locs : List Loc} (k_x1 : hK h x1 = 11) (k_x2 : hK h x2 = 15) (hkl : Kl h0 h) (hW : Wx X h H) (hZ : va_S (aA (eB X)) s.heap H locs) (ls : Array Slot) (hl : lv_has ls 4 [(0, .ref b), (1, .ref x1), (2, .ref x2), (3, .int x3)]) (hE : sL_law_480 F L xs k_18 h x1 x2 x3 t0 = some o) : W p l e room_1 s m #[Value.ref b] below meth c H locs (hS h - hS h0) (hL h - hL h0) (lw_Z below #[Value.ref b] s) (F0 m 480 ls [.int t0]) := by
  refine lv_aload_n C.1 C.2.1 dL_law_480 rfl (lv_at hl 2 rfl) ?_
  refine lv_aload_n C.1 C.2.1 dL_law_481 rfl (lv_at hl 0 rfl) ?_
  refine lv_iload_n C.1 C.2.1 dL_law_482 rfl (lv_at hl 3 rfl) ?_
  refine lv_iconst (v := (1 : Int32)) C.1 C.2.1 dL_law_483 (by decide) ?_
  refine lv_iadd C.1 C.2.1 dL_law_484 ?_
  obtain ⟨g_1, hE⟩ := gd_e hE
  refine va_sld C.1 C.2.1 hX hbl hbA hZ g_1 dL_law_485 ?_
  refine lv_aload_n C.1 C.2.1 dL_law_486 rfl (lv_at hl 0 rfl) ?_
  refine lv_iload_n C.1 C.2.1 dL_law_487 rfl (lv_at hl 3 rfl) ?_
  refine lv_iconst (v := (2 : Int32)) C.1 C.2.1 dL_law_488 (by decide) ?_
  refine lv_iadd C.1 C.2.1 dL_law_489 ?_
  obtain ⟨g_2, hE⟩ := gd_e hE
  refine va_sld C.1 C.2.1 hX hbl hbA hZ g_2 dL_law_490 ?_
  obtain ⟨o_3, eo_3, hE⟩ := cl_e hE
  have m1 := moX15_figure eo_3
  have m2 := moL_law_494 mk_18 hE
  refine x_kIA (o := o_3) hkl (z_runV (As := [.int (xs (x3 + (1 : Int32)).toNatClampNeg), .int (xs (x3 + (2 : Int32)).toNatClampNeg)]) (rest := [.int t0]) C (ct_X15_figure l X F k_x2 eo_3) cw_L_61 hW hZ k_x2 (by decide) rfl rfl rfl hl.1 (Nat.le_of_ble_eq_true rfl) rfl dL_law_491 ⟨Nat.le_of_ble_eq_true rfl, Nat.le_of_ble_eq_true rfl⟩ ⟨Nat.le_trans (rm_ok hkl m1 m2).1 hRm.1, Nat.le_trans (rm_ok hkl m1 m2).2 hRm.2⟩) hZ (fun _ _ hW km hZ => ?_)
  replace hkl := hkl.tr km
  replace k_x1 := km.at k_x1 (by decide)
  replace k_x2 := km.at k_x2 (by decide)
  exact bL_law_494 C hX hbl hbA hbase hRm ho hk_18 mk_18 k_x1 k_x2 hkl hW hZ _ (lv_sub hl [0, 1, 2, 3] rfl) hE
set_option maxRecDepth 20000 in
theorem bL_law_537 {p : Program} {l : Launch} {e : Env} {s : State} {m : MethodId} {below : List Frame} {meth : Method} {c : Code} {X : Ec} {h0 : Hp} {o : Int32 × Hp} {k_18 : Hp → Nat → Nat → Int32 → Option (Int32 × Hp)} {F : Nat} {mn : String} {b L : Nat} {xs : Nat → Int32} (C : Cx X p s m #[Value.ref b] meth c RL code 4 ret mn) (hX : va_X b L xs s s.heap) (hbl : b < s.heap.size) (hbA : ¬ aA (eB X) b) (hbase : eB X = s.heap.size) (hRm : hS o.2 - hS h0 ≤ room_1.cells ∧ hL o.2 - hL h0 ≤ room_1.slots) (ho : o.1 = 1) (hk_18 : ∀ (h : Hp) (x1 : Nat) (x2 : Nat) (x3 : Int32) (H : Heap) (locs : List Loc), hK h x1 = 11 → hK h x2 = 15 → Kl h0 h → Wx X h H → va_S (aA (eB X)) s.heap H locs → ∀ (ls : Array Slot), lv_has ls 4 [(0, .ref b), (1, .ref x1), (2, .ref x2), (3, .int x3)] → k_18 h x1 x2 x3 = some o → W p l e room_1 s m #[Value.ref b] below meth c H locs (hS h - hS h0) (hL h - hL h0) (lw_Z below #[Value.ref b] s) (F0 m 18 ls [])) (mk_18 : ∀ (h : Hp) (x1 : Nat) (x2 : Nat) (x3 : Int32), k_18 h x1 x2 x3 = some o → Le h o.2) {h : Hp} {x1 : Nat} {x2 : Nat} {x3 : Int32} {t0 : Int32} {t1 : Int32} {H : Heap} {locs : List Loc} (k_x1 : hK h x1 = 11) (k_x2 : hK h x2 = 15) (hkl : Kl h0 h) (hW : Wx X h H) (hZ : va_S (aA (eB X)) s.heap H locs) (ls : Array Slot) (hl : lv_has ls 4 [(0, .ref b), (1, .ref x1), (2, .ref x2), (3, .int x3)]) (hE : sL_law_537 F L xs k_18 h x1 x2 x3 t0 t1 = some o) : W p l e room_1 s m #[Value.ref b] below meth c H locs (hS h - hS h0) (hL h - hL h0) (lw_Z below #[Value.ref b] s) (F0 m 537 ls [.int t0, .int t1]) := by
  refine lv_icmp_eq (tgt := 1277) C.1 C.2.1 dL_law_537 (by decide) (fun c_1 => ?_) (fun c_1 => ?_)
  · have hE := br_p hE c_1
    exact bL_law_1277 C hX hbl hbA hbase hRm ho hk_18 mk_18 k_x1 k_x2 hkl hW hZ _ (lv_sub hl [0, 1, 2, 3] rfl) hE
  · have hE := br_n hE c_1
    refine lv_iconst (v := (0 : Int32)) C.1 C.2.1 dL_law_540 (by decide) ?_
    exact x_retL C hZ hbase hRm ho hE dL_law_541
set_option maxRecDepth 20000 in
theorem bL_law_518 {p : Program} {l : Launch} {e : Env} {s : State} {m : MethodId} {below : List Frame} {meth : Method} {c : Code} {X : Ec} {h0 : Hp} {o : Int32 × Hp} {k_18 : Hp → Nat → Nat → Int32 → Option (Int32 × Hp)} {F : Nat} {mn : String} {b L : Nat} {xs : Nat → Int32} (C : Cx X p s m #[Value.ref b] meth c RL code 4 ret mn) (hX : va_X b L xs s s.heap) (hbl : b < s.heap.size) (hbA : ¬ aA (eB X) b) (hbase : eB X = s.heap.size) (hRm : hS o.2 - hS h0 ≤ room_1.cells ∧ hL o.2 - hL h0 ≤ room_1.slots) (ho : o.1 = 1) (hk_18 : ∀ (h : Hp) (x1 : Nat) (x2 : Nat) (x3 : Int32) (H : Heap) (locs : List Loc), hK h x1 = 11 → hK h x2 = 15 → Kl h0 h → Wx X h H → va_S (aA (eB X)) s.heap H locs → ∀ (ls : Array Slot), lv_has ls 4 [(0, .ref b), (1, .ref x1), (2, .ref x2), (3, .int x3)] → k_18 h x1 x2 x3 = some o → W p l e room_1 s m #[Value.ref b] below meth c H locs (hS h - hS h0) (hL h - hL h0) (lw_Z below #[Value.ref b] s) (F0 m 18 ls [])) (mk_18 : ∀ (h : Hp) (x1 : Nat) (x2 : Nat) (x3 : Int32), k_18 h x1 x2 x3 = some o → Le h o.2) {h : Hp} {x1 : Nat} {x2 : Nat} {x3 : Int32} {t0 : Int32} {H : Heap} {locs : List Loc} (k_x1 : hK h x1 = 11) (k_x2 : hK h x2 = 15) (hkl : Kl h0 h) (hW : Wx X h H) (hZ : va_S (aA (eB X)) s.heap H locs) (ls : Array Slot) (hl : lv_has ls 4 [(0, .ref b), (1, .ref x1), (2, .ref x2), (3, .int x3)]) (hE : sL_law_518 F L xs k_18 h x1 x2 x3 t0 = some o) : W p l e room_1 s m #[Value.ref b] below meth c H locs (hS h - hS h0) (hL h - hL h0) (lw_Z below #[Value.ref b] s) (F0 m 518 ls [.int t0]) := by
  refine lv_aload_n C.1 C.2.1 dL_law_518 rfl (lv_at hl 2 rfl) ?_
  refine lv_aload_n C.1 C.2.1 dL_law_519 rfl (lv_at hl 0 rfl) ?_
  refine lv_iload_n C.1 C.2.1 dL_law_520 rfl (lv_at hl 3 rfl) ?_
  refine lv_iconst (v := (1 : Int32)) C.1 C.2.1 dL_law_521 (by decide) ?_
  refine lv_iadd C.1 C.2.1 dL_law_522 ?_
  obtain ⟨g_1, hE⟩ := gd_e hE
  refine va_sld C.1 C.2.1 hX hbl hbA hZ g_1 dL_law_523 ?_
  refine lv_aload_n C.1 C.2.1 dL_law_524 rfl (lv_at hl 0 rfl) ?_
  refine lv_iload_n C.1 C.2.1 dL_law_525 rfl (lv_at hl 3 rfl) ?_
  refine lv_iconst (v := (2 : Int32)) C.1 C.2.1 dL_law_526 (by decide) ?_
  refine lv_iadd C.1 C.2.1 dL_law_527 ?_
  obtain ⟨g_2, hE⟩ := gd_e hE
  refine va_sld C.1 C.2.1 hX hbl hbA hZ g_2 dL_law_528 ?_
  refine lv_aload_n C.1 C.2.1 dL_law_529 rfl (lv_at hl 0 rfl) ?_
  refine lv_iload_n C.1 C.2.1 dL_law_530 rfl (lv_at hl 3 rfl) ?_
  refine lv_iconst (v := (3 : Int32)) C.1 C.2.1 dL_law_531 (by decide) ?_
  refine lv_iadd C.1 C.2.1 dL_law_532 ?_
  obtain ⟨g_3, hE⟩ := gd_e hE
  refine va_sld C.1 C.2.1 hX hbl hbA hZ g_3 dL_law_533 ?_
  obtain ⟨o_4, eo_4, hE⟩ := cl_e hE
  have m1 := moX15_attacked eo_4
  have m2 := moL_law_537 mk_18 hE
  refine x_kI (o := o_4) (z_runV (As := [.int (xs (x3 + (1 : Int32)).toNatClampNeg), .int (xs (x3 + (2 : Int32)).toNatClampNeg), .int (xs (x3 + (3 : Int32)).toNatClampNeg)]) (rest := [.int t0]) C (ct_X15_attacked l X F k_x2 eo_4) cw_L_66 hW hZ k_x2 (by decide) rfl rfl rfl hl.1 (Nat.le_of_ble_eq_true rfl) rfl dL_law_534 ⟨Nat.le_of_ble_eq_true rfl, Nat.le_of_ble_eq_true rfl⟩ ⟨Nat.le_trans (rm_ok0 hkl m1 m2).1 hRm.1, Nat.le_trans (rm_ok0 hkl m1 m2).2 hRm.2⟩) hZ (fun _ _ hW km hZ => ?_)
  replace hkl := hkl.tr km.l
  refine x_wc km ?_
  replace k_x1 := km.at k_x1 (by decide)
  replace k_x2 := km.at k_x2 (by decide)
  exact bL_law_537 C hX hbl hbA hbase hRm ho hk_18 mk_18 k_x1 k_x2 hkl hW hZ _ (lv_sub hl [0, 1, 2, 3] rfl) hE
set_option maxRecDepth 20000 in
theorem bL_law_560 {p : Program} {l : Launch} {e : Env} {s : State} {m : MethodId} {below : List Frame} {meth : Method} {c : Code} {X : Ec} {h0 : Hp} {o : Int32 × Hp} {k_18 : Hp → Nat → Nat → Int32 → Option (Int32 × Hp)} {F : Nat} {mn : String} {b L : Nat} {xs : Nat → Int32} (C : Cx X p s m #[Value.ref b] meth c RL code 4 ret mn) (hX : va_X b L xs s s.heap) (hbl : b < s.heap.size) (hbA : ¬ aA (eB X) b) (hbase : eB X = s.heap.size) (hRm : hS o.2 - hS h0 ≤ room_1.cells ∧ hL o.2 - hL h0 ≤ room_1.slots) (ho : o.1 = 1) (hk_18 : ∀ (h : Hp) (x1 : Nat) (x2 : Nat) (x3 : Int32) (H : Heap) (locs : List Loc), hK h x1 = 11 → hK h x2 = 15 → Kl h0 h → Wx X h H → va_S (aA (eB X)) s.heap H locs → ∀ (ls : Array Slot), lv_has ls 4 [(0, .ref b), (1, .ref x1), (2, .ref x2), (3, .int x3)] → k_18 h x1 x2 x3 = some o → W p l e room_1 s m #[Value.ref b] below meth c H locs (hS h - hS h0) (hL h - hL h0) (lw_Z below #[Value.ref b] s) (F0 m 18 ls [])) (mk_18 : ∀ (h : Hp) (x1 : Nat) (x2 : Nat) (x3 : Int32), k_18 h x1 x2 x3 = some o → Le h o.2) {h : Hp} {x1 : Nat} {x2 : Nat} {x3 : Int32} {t0 : Int32} {t1 : Int32} {H : Heap} {locs : List Loc} (k_x1 : hK h x1 = 11) (k_x2 : hK h x2 = 15) (hkl : Kl h0 h) (hW : Wx X h H) (hZ : va_S (aA (eB X)) s.heap H locs) (ls : Array Slot) (hl : lv_has ls 4 [(0, .ref b), (1, .ref x1), (2, .ref x2), (3, .int x3)]) (hE : sL_law_560 F L xs k_18 h x1 x2 x3 t0 t1 = some o) : W p l e room_1 s m #[Value.ref b] below meth c H locs (hS h - hS h0) (hL h - hL h0) (lw_Z below #[Value.ref b] s) (F0 m 560 ls [.int t0, .int t1]) := by
  refine lv_icmp_eq (tgt := 1277) C.1 C.2.1 dL_law_560 (by decide) (fun c_1 => ?_) (fun c_1 => ?_)
  · have hE := br_p hE c_1
    exact bL_law_1277 C hX hbl hbA hbase hRm ho hk_18 mk_18 k_x1 k_x2 hkl hW hZ _ (lv_sub hl [0, 1, 2, 3] rfl) hE
  · have hE := br_n hE c_1
    refine lv_iconst (v := (0 : Int32)) C.1 C.2.1 dL_law_563 (by decide) ?_
    exact x_retL C hZ hbase hRm ho hE dL_law_564
