section
/-! new positions, boards and lists -/
/-- k cells more; what was there has its numbers still -/
def Nw (h o : Hp) (k : Nat) : Prop := hS o = hS h + k ∧ (∀ y, y < hS h → hN o y = hN h y) ∧ ∀ y i, y < hS h → hI o y i = hI h y i ∧ hJ o y i = hJ h y i
def NwR (h o : Hp) (x0 k : Nat) (fs : List (Nat × Nat)) : Prop := Nw h o k ∧ (∀ y i, y < hS h → ¬ y = x0 → hR o y i = hR h y i) ∧ ∀ p, p ∈ fs → hR o x0 p.1 = some (hS h + p.2)
section
variable {n x0 : Nat} {g h o H : Hp}
theorem nwz : NwR h h x0 0 [] := ⟨⟨rfl, fun _ _ => rfl, fun _ _ _ => ⟨rfl, rfl⟩⟩, fun _ _ _ _ => rfl, fun _ hp => absurd hp (List.not_mem_nil)⟩
theorem nw_st {f k m z j : Nat} {fs : List (Nat × Nat)} (lx : x0 < hS h) (N : NwR h H x0 j fs) (nf : ∀ p, p ∈ fs → ¬ p.1 = f) : NwR h (wR (nC H k m z) x0 f (some (hS H))) x0 (j + 1) ((f, j) :: fs) := by
  obtain ⟨⟨a, b, c⟩, d, e⟩ := N
  have s : hS (wR (nC H k m z) x0 f (some (hS H))) = hS H + 1 := rfl
  refine ⟨⟨by rw [s, a]; omega, fun y l => ?_, fun y i l => ?_⟩, fun y i l q => ?_, fun p hp => ?_⟩
  · show hN (nC H k m z) y = _
    rw [nC_N, if_neg (by omega)]; exact b y l
  · show hI (nC H k m z) y i = _ ∧ hJ (nC H k m z) y i = _
    rw [nC_I, nC_J, if_neg (by omega), if_neg (by omega)]; exact c y i l
  · rw [r_R, if_neg (fun w => q w.1), nC_R, if_neg (by omega)]; exact d y i l q
  · rcases List.mem_cons.mp hp with z | z
    · rw [z, r_R, if_pos ⟨rfl, rfl⟩, a]
    · rw [r_R, if_neg (fun w => nf p z w.2), nC_R, if_neg (by omega)]; exact e p z
theorem nw_k {j : Nat} {fs : List (Nat × Nat)} (N : NwR h H x0 j fs) (a : hS o = hS H) (b : ∀ y i, hR o y i = hR H y i) (c : ∀ y, hN o y = hN H y) (d : ∀ y i, y < hS h → hI o y i = hI H y i ∧ hJ o y i = hJ H y i) : NwR h o x0 j fs := by
  obtain ⟨⟨a1, b1, c1⟩, d1, e1⟩ := N
  exact ⟨⟨by rw [a, a1], fun y l => by rw [c]; exact b1 y l, fun y i l => by rw [(d y i l).1, (d y i l).2]; exact c1 y i l⟩, fun y i l q => by rw [b]; exact d1 y i l q, fun p hp => by rw [b]; exact e1 p hp⟩
theorem nw_12 (lx : x0 < hS h) (e : sX12_init h x0 = some o) : NwR h o x0 4 [(6, 3), (5, 2), (4, 1), (0, 0)] := by
  unfold sX12_init at e
  iterate 2 replace e := nx_e e
  unfold sX12_init_9 at e
  iterate 3 replace e := nx_e e
  unfold sX12_init_17 at e
  iterate 3 replace e := nx_e e
  unfold sX12_init_25 at e
  iterate 3 replace e := nx_e e
  unfold sX12_init_32 at e
  replace e := nx_e e
  rw [so_e e]
  exact nw_st lx (nw_st lx (nw_st lx (nw_st lx nwz (by decide)) (by decide)) (by decide)) (by decide)
theorem nw_13 (lx : x0 < hS h) (e : sX13_init h x0 = some o) : NwR h o x0 7 [(7, 6), (6, 5), (5, 4), (4, 3), (3, 2), (2, 1), (1, 0)] := by
  unfold sX13_init at e
  iterate 2 replace e := nx_e e
  unfold sX13_init_10 at e
  iterate 3 replace e := nx_e e
  unfold sX13_init_19 at e
  iterate 3 replace e := nx_e e
  unfold sX13_init_28 at e
  iterate 3 replace e := nx_e e
  unfold sX13_init_37 at e
  iterate 3 replace e := nx_e e
  unfold sX13_init_46 at e
  iterate 3 replace e := nx_e e
  unfold sX13_init_55 at e
  iterate 3 replace e := nx_e e
  unfold sX13_init_64 at e
  replace e := nx_e e
  rw [so_e e]
  exact nw_st lx (nw_st lx (nw_st lx (nw_st lx (nw_st lx (nw_st lx (nw_st lx nwz (by decide)) (by decide)) (by decide)) (by decide)) (by decide)) (by decide)) (by decide)
/-- a row is filled -/
def Fil (h o : Hp) (r : Nat) : Prop := hS o = hS h ∧ (∀ y i, hR o y i = hR h y i) ∧ (∀ y, hN o y = hN h y) ∧ (∀ y i, ¬ y = r → hI o y i = hI h y i) ∧ ∀ y i, hJ o y i = hJ h y i
theorem fil_w {r i : Nat} {v : Int32} (A : Fil (wI h r i v) o r) : Fil h o r := ⟨A.1, A.2.1, A.2.2.1, fun y j q => by rw [A.2.2.2.1 y j q, r_I, if_neg (fun w => q w.1)], A.2.2.2.2⟩
theorem fil_b {F r : Nat} {v x3 : Int32} : ∀ (f : Nat) {h : Hp} {x2 : Int32}, sJ7_fill_031fb_5 F f h r v x2 x3 = some o → Fil h o r := by
  intro f
  induction f with
  | zero => intro h x2 e; exact absurd e (by rw [sJ7_fill_031fb_5]; exact fun z => nomatch z)
  | succ f ih =>
    intro h x2 e
    rw [sJ7_fill_031fb_5] at e
    rcases br_s e with ⟨_, e⟩ | ⟨_, e⟩
    · rw [so_e e]; exact ⟨rfl, fun _ _ => rfl, fun _ => rfl, fun _ _ _ => rfl, fun _ _ => rfl⟩
    · replace e := gg_e e
      replace e := nx_e e
      replace e := nx_e e
      exact fil_w (ih e)
theorem fil_i {F r : Nat} {v x3 : Int32} : ∀ (f : Nat) {h : Hp} {x2 : Int32}, sJ7_fill_53178_5 F f h r v x2 x3 = some o → Fil h o r := by
  intro f
  induction f with
  | zero => intro h x2 e; exact absurd e (by rw [sJ7_fill_53178_5]; exact fun z => nomatch z)
  | succ f ih =>
    intro h x2 e
    rw [sJ7_fill_53178_5] at e
    rcases br_s e with ⟨_, e⟩ | ⟨_, e⟩
    · rw [so_e e]; exact ⟨rfl, fun _ _ => rfl, fun _ => rfl, fun _ _ _ => rfl, fun _ _ => rfl⟩
    · replace e := gg_e e
      replace e := nx_e e
      replace e := nx_e e
      exact fil_w (ih e)
theorem nw_3 {F : Nat} (lx : x0 < hS h) (e : sX3_init F h x0 = some o) : NwR h o x0 5 [(4, 4), (3, 3), (2, 2), (1, 1), (0, 0)] := by
  unfold sX3_init at e
  iterate 2 replace e := nx_e e
  unfold sX3_init_9 at e
  iterate 3 replace e := nx_e e
  unfold sX3_init_16 at e
  iterate 3 replace e := nx_e e
  unfold sX3_init_23 at e
  iterate 3 replace e := nx_e e
  unfold sX3_init_30 at e
  iterate 3 replace e := nx_e e
  unfold sX3_init_37 at e
  replace e := nm_s e
  obtain ⟨H5, w5, e⟩ := e
  have N : NwR h H5 x0 5 [(4, 4), (3, 3), (2, 2), (1, 1), (0, 0)] := by
    rw [w5]
    exact nw_st lx (nw_st lx (nw_st lx (nw_st lx (nw_st lx nwz (by decide)) (by decide)) (by decide)) (by decide)) (by decide)
  clear w5
  obtain ⟨r0, e0, e⟩ := cl_s e
  have y0 : r0 = hS h + 0 := r_eq (N.2.2 (0, 0) (by decide)) e0
  obtain ⟨o3, e3, e⟩ := cl_s e
  unfold sJ7_fill_031fb at e3
  replace e3 := nx_e e3
  have A := fil_b F e3
  have N3 : NwR h o3 x0 5 [(4, 4), (3, 3), (2, 2), (1, 1), (0, 0)] := nw_k N A.1 A.2.1 A.2.2.1 (fun y i l => ⟨A.2.2.2.1 y i (by omega), A.2.2.2.2 y i⟩)
  unfold sX3_init_48 at e
  obtain ⟨r2, e2, e⟩ := cl_s e
  have y2 : r2 = hS h + 2 := r_eq (N3.2.2 (2, 2) (by decide)) e2
  obtain ⟨o5, e5, e⟩ := cl_s e
  unfold sJ7_fill_53178 at e5
  replace e5 := nx_e e5
  have A5 := fil_i F e5
  unfold sX3_init_56 at e
  rw [so_e e]
  exact nw_k N3 A5.1 A5.2.1 A5.2.2.1 (fun y i l => ⟨A5.2.2.2.1 y i (by omega), A5.2.2.2.2 y i⟩)
/-- what making a thing for a row gives -/
def NewO (n : Nat) (g h o : Hp) (arr i w : Nat) : Prop := Dy0 n g o ∧ hR o (n + arr) i = some (hS h) ∧ hS o = hS h + w ∧ (∀ y j, y < hS h → hI o y j = hI h y j ∧ hJ o y j = hJ h y j) ∧ ∀ y j, y < hS h → ¬ (y = n + arr ∧ j = i) → hR o y j = hR h y j
theorem new_o {q : Nat × Nat × Nat × Nat × List (Nat × Nat)} {a b c i : Nat} {o1 : Hp} {fs : List (Nat × Nat)} (k : Dy0 n g h) (hq : q ∈ fam) (hi : i < q.2.1) (nn : hR h (n + q.1) i = none) (N : NwR (nC h a b c) o1 (hS h) (q.2.2.1 - 1) fs) (w1 : 1 ≤ q.2.2.1) (sub : ∀ p, p ∈ q.2.2.2.2 → 1 ≤ p.2 ∧ (p.1, p.2 - 1) ∈ fs) : NewO n g h (wR o1 (n + q.1) i (some (hS h))) q.1 i q.2.2.1 := by
  obtain ⟨⟨s1, s2, s3⟩, r1, r2⟩ := N
  have s0 : hS (nC h a b c) = hS h + 1 := rfl
  have hs : hS (wR o1 (n + q.1) i (some (hS h))) = hS h + q.2.2.1 := by
    show hS o1 = _
    rw [s1, s0]; omega
  obtain ⟨f1, _⟩ := fam_lt q hq
  have o2 : n + 610 ≤ hS h := by
    obtain ⟨own, ⟨_, z⟩, _⟩ := k.1
    exact z
  have R : ∀ y j, y < hS h → ¬ (y = n + q.1 ∧ j = i) → hR (wR o1 (n + q.1) i (some (hS h))) y j = hR h y j := fun y j l z => by
    rw [r_R, if_neg z, r1 y j (by omega) (by omega), nC_R, if_neg (by omega)]
  refine ⟨d0_new k hq hi nn (Nat.le_refl _) (by omega) R (by rw [r_R, if_pos ⟨rfl, rfl⟩]) (fun y l => ?_) (fun p hp => ?_), by rw [r_R, if_pos ⟨rfl, rfl⟩], hs, fun y j l => ?_, R⟩
  · show hN o1 y = _
    rw [s2 y (by omega), nC_N, if_neg (by omega)]
  · obtain ⟨p1, p2⟩ := sub p hp
    rw [r_R, if_neg (fun z => by omega), r2 (p.1, p.2 - 1) p2, s0]
    exact congrArg some (by show hS h + 1 + (p.2 - 1) = hS h + p.2; omega)
  · show hI o1 y j = _ ∧ hJ o1 y j = _
    rw [(s3 y j (by omega)).1, (s3 y j (by omega)).2, nC_I, nC_J, if_neg (by omega), if_neg (by omega)]
    exact ⟨rfl, rfl⟩
theorem d0_r {y f r : Nat} (k : Dy0 n g h) (m : ∃ b, (y, f, b) ∈ edL ∧ r = n + b) : hR h (n + y) f = some r := by
  obtain ⟨b, hb, e⟩ := m
  rw [e]; exact d0_e k hb
theorem ln_d (k : Dy0 n g h) {a w : Nat} (m : (a, w) ∈ lnL) : hN h (n + a) = w := k.2.2.1.1 (a, w) m
theorem clampN {x : Int32} {w : Nat} (i : inB x w) : x.toNatClampNeg < w ∧ x.toInt = (x.toNatClampNeg : Int) := by
  have := inb_r i
  have := nc_i this.1
  omega
/-- a thing of a row, made now or before -/
def Got (n : Nat) (g h o : Hp) (arr i w r : Nat) : Prop := Dy0 n g o ∧ hR o (n + arr) i = some r ∧ ((hR h (n + arr) i = some r ∧ o = h) ∨ (hR h (n + arr) i = none ∧ r = hS h ∧ NewO n g h o arr i w))
/-- the page of a game -/
theorem pg_g {F : Nat} {x1 x2 : Int32} {o : Nat × Hp} (k : Dy0 n g h) (e : sX11_page F h n x1 x2 = some o) : ((x1 * (301 : Int32)) + x2).toNatClampNeg < 2408 ∧ ((x1 * (301 : Int32)) + x2).toInt = (((x1 * (301 : Int32)) + x2).toNatClampNeg : Int) ∧ Got n g h o.2 150 ((x1 * (301 : Int32)) + x2).toNatClampNeg 6 o.1 := by
  unfold sX11_page at e
  replace e := nx_e e
  generalize (x1 * (301 : Int32)) + x2 = v at e ⊢
  obtain ⟨r2, e2, e⟩ := cl_s e
  have y2 := d0_ed (a := 0) (b := 150) k (by decide +kernel) e2
  subst y2
  obtain ⟨iv, e⟩ := gd_s e
  rw [ln_d k (a := 150) (w := 2408) (by decide)] at iv
  obtain ⟨v1, v2⟩ := clampN iv
  refine ⟨v1, v2, ?_⟩
  cases q : hR h (n + 150) v.toNatClampNeg with
  | none =>
    replace e := onr_n e q
    obtain ⟨r6, e6, e⟩ := cl_s e
    have y6 := d0_ed (a := 0) (b := 150) k (by decide +kernel) e6
    subst y6
    replace e := nx_e e
    replace e := nx_e e
    unfold sX11_page_25 at e
    obtain ⟨o1, e1, e⟩ := cl_s e
    have N := nw_3 (Nat.lt_succ_self _) e1
    have W := new_o (q := (150, 2408, 6, 1000, fsP)) k (by decide) v1 q N (by decide) (by decide)
    unfold sX11_page_29 at e
    replace e := gg_e e
    replace e := nx_e e
    generalize hw : wR o1 (n + 150) v.toNatClampNeg (some (hS h)) = o2 at e W
    unfold sX11_page_30 at e
    obtain ⟨r1, d1, e⟩ := cl_s e
    have y1 := d0_ed (a := 0) (b := 150) W.1 (by decide +kernel) d1
    subst y1
    replace e := gg_e e
    obtain ⟨r3, d3, e⟩ := cl_s e
    have y3 : r3 = hS h := r_eq W.2.1 d3
    subst y3
    rw [so_e e]
    exact ⟨W.1, W.2.1, Or.inr ⟨q, rfl, W⟩⟩
  | some r =>
    replace e := onr_s e q
    unfold sX11_page_30 at e
    obtain ⟨r1, d1, e⟩ := cl_s e
    have y1 := d0_ed (a := 0) (b := 150) k (by decide +kernel) d1
    subst y1
    replace e := gg_e e
    obtain ⟨r3, d3, e⟩ := cl_s e
    have y3 : r3 = r := r_eq q d3
    subst y3
    rw [so_e e]
    exact ⟨k, q, Or.inl ⟨q, rfl⟩⟩
/-- the board of a game -/
theorem gb_g {x1 x2 : Int32} {o : Nat × Hp} (k : Dy0 n g h) (e : sX15_gameBoard h (n + 513) x1 x2 = some o) : ((x1 * (301 : Int32)) + x2).toNatClampNeg < 2408 ∧ ((x1 * (301 : Int32)) + x2).toInt = (((x1 * (301 : Int32)) + x2).toNatClampNeg : Int) ∧ Got n g h o.2 580 ((x1 * (301 : Int32)) + x2).toNatClampNeg 5 o.1 := by
  unfold sX15_gameBoard at e
  replace e := nx_e e
  generalize (x1 * (301 : Int32)) + x2 = v at e ⊢
  obtain ⟨r2, e2, e⟩ := cl_s e
  have y2 := d0_ed (a := 513) (b := 580) k (by decide +kernel) e2
  subst y2
  obtain ⟨iv, e⟩ := gd_s e
  rw [ln_d k (a := 580) (w := 2408) (by decide)] at iv
  obtain ⟨v1, v2⟩ := clampN iv
  refine ⟨v1, v2, ?_⟩
  cases q : hR h (n + 580) v.toNatClampNeg with
  | none =>
    replace e := onr_n e q
    obtain ⟨r6, e6, e⟩ := cl_s e
    have y6 := d0_ed (a := 513) (b := 580) k (by decide +kernel) e6
    subst y6
    replace e := nx_e e
    replace e := nx_e e
    unfold sX15_gameBoard_25 at e
    obtain ⟨o1, e1, e⟩ := cl_s e
    have N := nw_12 (Nat.lt_succ_self _) e1
    have W := new_o (q := (580, 2408, 5, 5000, fsB)) k (by decide) v1 q N (by decide) (by decide)
    unfold sX15_gameBoard_29 at e
    replace e := gg_e e
    replace e := nx_e e
    generalize hw : wR o1 (n + 580) v.toNatClampNeg (some (hS h)) = o2 at e W
    unfold sX15_gameBoard_30 at e
    obtain ⟨r1, d1, e⟩ := cl_s e
    have y1 := d0_ed (a := 513) (b := 580) W.1 (by decide +kernel) d1
    subst y1
    replace e := gg_e e
    obtain ⟨r3, d3, e⟩ := cl_s e
    have y3 : r3 = hS h := r_eq W.2.1 d3
    subst y3
    rw [so_e e]
    exact ⟨W.1, W.2.1, Or.inr ⟨q, rfl, W⟩⟩
  | some r =>
    replace e := onr_s e q
    unfold sX15_gameBoard_30 at e
    obtain ⟨r1, d1, e⟩ := cl_s e
    have y1 := d0_ed (a := 513) (b := 580) k (by decide +kernel) d1
    subst y1
    replace e := gg_e e
    obtain ⟨r3, d3, e⟩ := cl_s e
    have y3 : r3 = r := r_eq q d3
    subst y3
    rw [so_e e]
    exact ⟨k, q, Or.inl ⟨q, rfl⟩⟩
/-- the place of a position -/
theorem kp_g {F x1 : Nat} {x2 : Int32} {o : Int32 × Hp} (k : Dy0 n g h) (n1 : ¬ x2 = (-1 : Int32)) (e : sX15_keep_4 F h (n + 513) x1 x2 = some o) : x2.toNatClampNeg < 60 ∧ x2.toInt = (x2.toNatClampNeg : Int) ∧ ∃ o2 r, Got n g h o2 536 x2.toNatClampNeg 5 r ∧ sX15_keep_35 F o2 (n + 513) x1 x2 = some o := by
  unfold sX15_keep_4 at e
  replace e := bn_e n1 e
  obtain ⟨r2, e2, e⟩ := cl_s e
  have y2 := d0_ed (a := 513) (b := 536) k (by decide +kernel) e2
  subst y2
  obtain ⟨iv, e⟩ := gd_s e
  rw [ln_d k (a := 536) (w := 60) (by decide)] at iv
  obtain ⟨v1, v2⟩ := clampN iv
  refine ⟨v1, v2, ?_⟩
  cases q : hR h (n + 536) x2.toNatClampNeg with
  | none =>
    replace e := onr_n e q
    obtain ⟨r6, e6, e⟩ := cl_s e
    have y6 := d0_ed (a := 513) (b := 536) k (by decide +kernel) e6
    subst y6
    replace e := nx_e e
    replace e := nx_e e
    unfold sX15_keep_30 at e
    obtain ⟨o1, e1, e⟩ := cl_s e
    have N := nw_12 (Nat.lt_succ_self _) e1
    have W := new_o (q := (536, 60, 5, 4000, fsB)) k (by decide) v1 q N (by decide) (by decide)
    unfold sX15_keep_34 at e
    replace e := gg_e e
    replace e := nx_e e
    exact ⟨_, hS h, ⟨W.1, W.2.1, Or.inr ⟨q, rfl, W⟩⟩, e⟩
  | some r =>
    replace e := onr_s e q
    exact ⟨h, r, ⟨k, q, Or.inl ⟨q, rfl⟩⟩, e⟩
/-- a board among those found -/
theorem fd_g {F : Nat} {x1 x2 x4 t0 : Int32} {o : Int32 × Hp} (k : Dy0 n g h) (e : sX15_findsRoom_128 F h (n + 513) x1 x2 x4 t0 = some o) : sX15_findsRoom_280 F h (n + 513) x1 t0 = some o ∨ (x4 = 0 ∧ ¬ t0 = 0 ∧ (hI h (n + 513) 44).toNatClampNeg < 3000 ∧ ∃ o2 r, Got n g h o2 583 (hI h (n + 513) 44).toNatClampNeg 5 r ∧ sX15_findsRoom_168 F o2 (n + 513) x1 x2 t0 = some o) := by
  unfold sX15_findsRoom_128 at e
  rcases br_s e with ⟨c4, e⟩ | ⟨_, e⟩
  rotate_left
  · exact Or.inl e
  rcases br_s e with ⟨_, e⟩ | ⟨c0, e⟩
  · exact Or.inl e
  right
  obtain ⟨r2, e2, e⟩ := cl_s e
  have y2 := d0_ed (a := 513) (b := 583) k (by decide +kernel) e2
  subst y2
  obtain ⟨iv, e⟩ := gd_s e
  rw [ln_d k (a := 583) (w := 3000) (by decide)] at iv
  obtain ⟨v1, v2⟩ := clampN iv
  refine ⟨c4, c0, v1, ?_⟩
  cases q : hR h (n + 583) (hI h (n + 513) 44).toNatClampNeg with
  | none =>
    replace e := onr_n e q
    obtain ⟨r6, e6, e⟩ := cl_s e
    have y6 := d0_ed (a := 513) (b := 583) k (by decide +kernel) e6
    subst y6
    replace e := nx_e e
    replace e := nx_e e
    unfold sX15_findsRoom_163 at e
    obtain ⟨o1, e1, e⟩ := cl_s e
    have N := nw_12 (Nat.lt_succ_self _) e1
    have W := new_o (q := (583, 3000, 5, 8000, fsB)) k (by decide) v1 q N (by decide) (by decide)
    unfold sX15_findsRoom_167 at e
    replace e := gg_e e
    replace e := nx_e e
    exact ⟨_, hS h, ⟨W.1, W.2.1, Or.inr ⟨q, rfl, W⟩⟩, e⟩
  | some r =>
    replace e := onr_s e q
    exact ⟨h, r, ⟨k, q, Or.inl ⟨q, rfl⟩⟩, e⟩
/-- a board of a row of moves, and its list -/
def GotD (n : Nat) (g h o : Hp) (d r : Nat) : Prop := Dy0 n g o ∧ hR o (n + 573) d = some r ∧ ((hR h (n + 573) d = some r ∧ o = h) ∨ (hR h (n + 573) d = none ∧ r = hS h ∧ (hR h (n + 574) d = none → ∃ r', hR o (n + 574) d = some r') ∧ hS h ≤ hS o ∧ (∀ y j, y < hS h → hI o y j = hI h y j ∧ hJ o y j = hJ h y j) ∧ (∀ y j, y < hS h → ¬ y = n + 573 → ¬ y = n + 574 → hR o y j = hR h y j) ∧ ∀ y j b, y < hS h → hR o y j = some b → hR h y j = some b ∨ hS h ≤ b))
/-- both or neither -/
def DbE (n : Nat) (h : Hp) : Prop := ∀ d, d < 10 → (hR h (n + 573) d = none ↔ hR h (n + 574) d = none)
theorem db_g {x1 : Int32} {o : Nat × Hp} (k : Dy0 n g h) (E : DbE n h) (e : sX15_deepBoard h (n + 513) x1 = some o) : x1.toNatClampNeg < 10 ∧ x1.toInt = (x1.toNatClampNeg : Int) ∧ DbE n o.2 ∧ GotD n g h o.2 x1.toNatClampNeg o.1 := by
  unfold sX15_deepBoard at e
  obtain ⟨r2, e2, e⟩ := cl_s e
  have y2 := d0_ed (a := 513) (b := 573) k (by decide +kernel) e2
  subst y2
  obtain ⟨iv, e⟩ := gd_s e
  rw [ln_d k (a := 573) (w := 10) (by decide)] at iv
  obtain ⟨v1, v2⟩ := clampN iv
  refine ⟨v1, v2, ?_⟩
  have o2 : n + 610 ≤ hS h := by
    obtain ⟨own, ⟨_, z⟩, _⟩ := k.1
    exact z
  cases q : hR h (n + 573) x1.toNatClampNeg with
  | none =>
    have q' := (E _ v1).mp q
    replace e := onr_n e q
    obtain ⟨r6, e6, e⟩ := cl_s e
    have y6 := d0_ed (a := 513) (b := 573) k (by decide +kernel) e6
    subst y6
    replace e := nx_e e
    replace e := nx_e e
    unfold sX15_deepBoard_17 at e
    obtain ⟨o1, e1, e⟩ := cl_s e
    have N := nw_12 (Nat.lt_succ_self _) e1
    have W := new_o (q := (573, 10, 5, 4100, fsB)) k (by decide) v1 q N (by decide) (by decide)
    unfold sX15_deepBoard_21 at e
    replace e := gg_e e
    replace e := nx_e e
    generalize hw : wR o1 (n + 573) x1.toNatClampNeg (some (hS h)) = p at e W
    obtain ⟨W1, W2, W3, W4, W5⟩ := W
    have W3 : hS p = hS h + 5 := W3
    obtain ⟨r3, d3, e⟩ := cl_s e
    have y3 := d0_ed (a := 513) (b := 574) W1 (by decide +kernel) d3
    subst y3
    replace e := nx_e e
    replace e := nx_e e
    unfold sX15_deepBoard_30 at e
    obtain ⟨o3, e3, e⟩ := cl_s e
    have N3 := nw_13 (Nat.lt_succ_self _) e3
    have q2 : hR p (n + 574) x1.toNatClampNeg = none := by rw [W5 _ _ (by omega) (fun z => by omega)]; exact q'
    have U := new_o (q := (574, 10, 8, 4200, fsM)) W1 (by decide) v1 q2 N3 (by decide) (by decide)
    unfold sX15_deepBoard_34 at e
    replace e := gg_e e
    replace e := nx_e e
    generalize hu : wR o3 (n + 574) x1.toNatClampNeg (some (hS p)) = p2 at e U
    obtain ⟨U1, U2, U3, U4, U5⟩ := U
    have U3 : hS p2 = hS p + 8 := U3
    unfold sX15_deepBoard_35 at e
    obtain ⟨r1, d1, e⟩ := cl_s e
    have y1 := d0_ed (a := 513) (b := 573) U1 (by decide +kernel) d1
    subst y1
    replace e := gg_e e
    obtain ⟨r4, d4, e⟩ := cl_s e
    have g4 : hR p2 (n + 573) x1.toNatClampNeg = some (hS h) := by rw [U5 _ _ (by omega) (fun z => by omega)]; exact W2
    have y4 : r4 = hS h := r_eq g4 d4
    subst y4
    rw [so_e e]
    have W2 : hR p (n + 573) x1.toNatClampNeg = some (hS h) := W2
    have U2 : hR p2 (n + 574) x1.toNatClampNeg = some (hS p) := U2
    have RR : ∀ y j, y < hS h → ¬ (y = n + 573 ∧ j = x1.toNatClampNeg) → ¬ (y = n + 574 ∧ j = x1.toNatClampNeg) → hR p2 y j = hR h y j := fun y j l z z' => by
      rw [U5 y j (by omega) z', W5 y j l z]
    refine ⟨fun d hd => ?_, U1, g4, Or.inr ⟨q, rfl, fun _ => ⟨_, U2⟩, by show hS h ≤ hS p2; omega, fun y j l => ?_, fun y j l z z' => RR y j l (fun w => z w.1) (fun w => z' w.1), fun y j b l u => ?_⟩⟩
    · by_cases z : d = x1.toNatClampNeg
      · rw [z]
        constructor
        · intro w
          have w : hR p2 (n + 573) x1.toNatClampNeg = none := w
          rw [g4] at w; exact nomatch w
        · intro w
          have w : hR p2 (n + 574) x1.toNatClampNeg = none := w
          rw [U2] at w; exact nomatch w
      · show hR p2 (n + 573) d = none ↔ hR p2 (n + 574) d = none
        rw [RR _ _ (by omega) (fun w => z w.2) (fun w => z w.2), RR _ _ (by omega) (fun w => z w.2) (fun w => z w.2)]
        exact E d hd
    · show hI p2 y j = _ ∧ hJ p2 y j = _
      rw [(U4 y j (by omega)).1, (U4 y j (by omega)).2]
      exact W4 y j l
    · have u : hR p2 y j = some b := u
      by_cases z : y = n + 573 ∧ j = x1.toNatClampNeg
      · rw [z.1, z.2, g4] at u
        have := Option.some.inj u
        exact Or.inr (by omega)
      · by_cases z' : y = n + 574 ∧ j = x1.toNatClampNeg
        · rw [z'.1, z'.2, U2] at u
          have := Option.some.inj u
          exact Or.inr (by omega)
        · rw [RR y j l z z'] at u
          exact Or.inl u
  | some r =>
    replace e := onr_s e q
    unfold sX15_deepBoard_35 at e
    obtain ⟨r1, d1, e⟩ := cl_s e
    have y1 := d0_ed (a := 513) (b := 573) k (by decide +kernel) d1
    subst y1
    replace e := gg_e e
    obtain ⟨r3, d3, e⟩ := cl_s e
    have y3 : r3 = r := r_eq q d3
    subst y3
    rw [so_e e]
    exact ⟨E, k, q, Or.inl ⟨q, rfl⟩⟩
end
end
section
/-! what stands where, and boards of rows have their lists -/
/-- what is new is new; rooms of endings stay, where there was anything -/
def NwF (n : Nat) (g h : Hp) : Prop := (∀ q, q ∈ fam → ∀ i b, hR h (n + q.1) i = some b → hR g (n + q.1) i = some b ∨ hS g ≤ b) ∧ (0 < hS g → (∀ f, hR h (n + 62) f = hR g (n + 62) f) ∧ hR h (n + 513) 52 = hR g (n + 513) 52)
def DyK (n : Nat) (g h : Hp) : Prop := Dy0 n g h ∧ DbE n h ∧ NwF n g h
section
variable {n : Nat} {g h o : Hp}
theorem dk_610' (k : DyK n g h) : n + 610 ≤ hS h := by
  obtain ⟨own, ⟨_, z⟩, _⟩ := k.1.1
  exact z
theorem nwf_c (N : NwF n g h) (a : ∀ x, x < hS h → ∀ i, hR o x i = hR h x i) (l : n + 610 ≤ hS h) : NwF n g o := by
  refine ⟨fun q hq i b e => N.1 q hq i b (by rw [← a _ (by have := fam_lt q hq; omega)]; exact e), fun z => ⟨fun f => by rw [a _ (by omega)]; exact (N.2 z).1 f, by rw [a _ (by omega)]; exact (N.2 z).2⟩⟩
theorem dk_c (k : DyK n g h) (a : ∀ x i, hR o x i = hR h x i) (b : ∀ x, hN o x = hN h x) (c : hS o = hS h) : DyK n g o := ⟨d0_c k.1 a b c, fun d hd => by rw [a, a]; exact k.2.1 d hd, nwf_c k.2.2 (fun x _ i => a x i) (dk_610' k)⟩
theorem dk_wI {a i : Nat} {v : Int32} (k : DyK n g h) : DyK n g (wI h a i v) := dk_c k (fun _ _ => rfl) (fun _ => rfl) rfl
theorem dk_wJ {a i : Nat} {v : Int64} (k : DyK n g h) : DyK n g (wJ h a i v) := dk_c k (fun _ _ => rfl) (fun _ => rfl) rfl
theorem dk_cpI {a b c d e : Nat} (k : DyK n g h) : DyK n g (cpI h a b c d e) := dk_c k (fun _ _ => rfl) (fun _ => rfl) rfl
theorem dk_ed (k : DyK n g h) {a f b r : Nat} (m : (a, f, b) ∈ edL) (e : hR h (n + a) f = some r) : r = n + b := d0_ed k.1 m e
theorem dk_e (k : DyK n g h) {a f b : Nat} (m : (a, f, b) ∈ edL) : hR h (n + a) f = some (n + b) := d0_e k.1 m
theorem dk_610 (k : DyK n g h) : n + 610 ≤ hS h := by
  obtain ⟨own, ⟨_, z⟩, _⟩ := k.1.1
  exact z
theorem nwf_w (N : NwF n g h) {x j : Nat} {v : Option Nat} (m : (x, j) ∈ muL) (m2 : (¬ x = 62 ∧ ¬ (x = 513 ∧ j = 52)) ∨ hS g = 0) : NwF n g (wR h (n + x) j v) := by
  have mm := (mul_lt (x, j) m).2
  refine ⟨fun q hq i b e => N.1 q hq i b ?_, fun z => ?_⟩
  · have fl := fam_lt q hq
    have := fl.2.1 (x, j) m
    have this : ¬ x = q.1 := this
    rw [r_R, if_neg (fun z => by omega)] at e
    exact e
  · have m3 : ¬ x = 62 ∧ ¬ (x = 513 ∧ j = 52) := m2.elim id (fun w => by omega)
    exact ⟨fun f => by rw [r_R, if_neg (fun w => by omega)]; exact (N.2 z).1 f, by rw [r_R, if_neg (fun w => by omega)]; exact (N.2 z).2⟩
theorem dk_wZ (k : DyK n g h) {x j : Nat} {v : Option Nat} (m : (x, j) ∈ muL) (m2 : (¬ x = 62 ∧ ¬ (x = 513 ∧ j = 52)) ∨ hS g = 0) : DyK n g (wR h (n + x) j v) := ⟨d0_wR k.1 m, fun d hd => by
  have := mul_lt (x, j) m
  have : ¬ x = 573 ∧ ¬ x = 574 := by
    have y : (x = 30 ∨ x = 38 ∨ x = 62 ∨ (x = 513 ∧ ¬ j = 4 ∧ ¬ j = 5)) := this.2
    omega
  rw [r_R, r_R, if_neg (fun z => by omega), if_neg (fun z => by omega)]
  exact k.2.1 d hd, nwf_w k.2.2 m m2⟩
theorem dk_wR (k : DyK n g h) {x j : Nat} {v : Option Nat} (m : (x, j) ∈ ([(30, 4), (30, 5), (38, 1), (513, 17)] : List (Nat × Nat))) : DyK n g (wR h (n + x) j v) := by
  have al : ∀ p, p ∈ ([(30, 4), (30, 5), (38, 1), (513, 17)] : List (Nat × Nat)) → p ∈ muL ∧ (¬ p.1 = 62 ∧ ¬ (p.1 = 513 ∧ p.2 = 52)) := by decide
  have := al (x, j) m
  exact dk_wZ k this.1 (Or.inl this.2)
theorem dk_nC (k : DyK n g h) {a b c : Nat} : DyK n g (nC h a b c) := ⟨d0_nC k.1, fun d hd => by
  have := dk_610 k
  rw [nC_R, nC_R, if_neg (by omega), if_neg (by omega)]
  exact k.2.1 d hd, nwf_c k.2.2 (fun x l i => by rw [nC_R, if_neg (by omega)]) (dk_610' k)⟩
theorem dk_self (k : DyK n g h) : DyK n h h := ⟨⟨k.1.1, k.1.2.1, k.1.2.2.1, Nat.le_refl _, fun _ _ _ _ e => e, fun _ _ => rfl⟩, k.2.1, fun _ _ _ _ e => Or.inl e, fun _ => ⟨fun _ => rfl, rfl⟩⟩
theorem dk_t (k : DyK n g h) (k' : DyK n h o) : DyK n g o := ⟨⟨k'.1.1, k'.1.2.1, k'.1.2.2.1, Nat.le_trans k.1.2.2.2.1 k'.1.2.2.2.1, fun q hq i a e => k'.1.2.2.2.2.1 q hq i a (k.1.2.2.2.2.1 q hq i a e), fun f hf => (k'.1.2.2.2.2.2 f hf).trans (k.1.2.2.2.2.2 f hf)⟩, k'.2.1, fun q hq i b e => by
  rcases k'.2.2.1 q hq i b e with e | e
  · exact k.2.2.1 q hq i b e
  · exact Or.inr (Nat.le_trans k.1.2.2.2.1 e), fun z => by
  have s := k.1.2.2.2.1
  have y' := k'.2.2.2 (by omega)
  have y := k.2.2.2 z
  exact ⟨fun f => (y'.1 f).trans (y.1 f), y'.2.trans y.2⟩⟩
theorem dbe_n (E : DbE n h) (l : n + 610 ≤ hS h) {arr i w : Nat} (n1 : ¬ arr = 573) (n2 : ¬ arr = 574) (W : NewO n g h o arr i w) : DbE n o := fun d hd => by
  rw [W.2.2.2.2 _ _ (by omega) (fun z => by omega), W.2.2.2.2 _ _ (by omega) (fun z => by omega)]
  exact E d hd
theorem nwf_n (N : NwF n g h) (k : Dy0 n g h) (l : n + 610 ≤ hS h) (a : ∀ y j b, y < hS h → hR o y j = some b → hR h y j = some b ∨ hS h ≤ b) (c : ∀ y j, y = n + 62 ∨ y = n + 513 → hR o y j = hR h y j) : NwF n g o := by
  have s := k.2.2.2.1
  refine ⟨fun q hq i b e => ?_, fun z => ⟨fun f => by rw [c _ _ (Or.inl rfl)]; exact (N.2 z).1 f, by rw [c _ _ (Or.inr rfl)]; exact (N.2 z).2⟩⟩
  have fl := fam_lt q hq
  rcases a _ i b (by omega) e with e | e
  · exact N.1 q hq i b e
  · exact Or.inr (by omega)
theorem dk_got {arr i w r : Nat} (k : DyK n g h) (n1 : ¬ arr = 573 ∧ ¬ arr = 574 ∧ ¬ arr = 62 ∧ ¬ arr = 513) (G : Got n g h o arr i w r) : DyK n g o := by
  have l := dk_610' k
  rcases G.2.2 with ⟨_, e⟩ | ⟨_, _, W⟩
  · rw [e]; exact k
  · refine ⟨G.1, dbe_n k.2.1 (dk_610' k) n1.1 n1.2.1 W, nwf_n k.2.2 k.1 l (fun y j b ly e => ?_) (fun y j hy => W.2.2.2.2 y j (by omega) (fun z => by omega))⟩
    by_cases z : y = n + arr ∧ j = i
    · rw [z.1, z.2, W.2.1] at e
      have := Option.some.inj e
      exact Or.inr (by omega)
    · rw [W.2.2.2.2 y j ly z] at e
      exact Or.inl e
theorem dk_X11_page {F : Nat} {x1 x2 : Int32} {o : Nat × Hp} (k : DyK n g h) (e : sX11_page F h n x1 x2 = some o) : DyK n g o.2 := dk_got k (by decide) (pg_g k.1 e).2.2
theorem dk_X15_gameBoard {x1 x2 : Int32} {o : Nat × Hp} (k : DyK n g h) (e : sX15_gameBoard h (n + 513) x1 x2 = some o) : DyK n g o.2 := dk_got k (by decide) (gb_g k.1 e).2.2
theorem dk_X15_deepBoard {x1 : Int32} {o : Nat × Hp} (k : DyK n g h) (e : sX15_deepBoard h (n + 513) x1 = some o) : DyK n g o.2 := by
  obtain ⟨_, _, E, G⟩ := db_g k.1 k.2.1 e
  have l := dk_610' k
  rcases G.2.2 with ⟨_, y⟩ | ⟨_, _, _, _, _, W, W'⟩
  · rw [y]; exact k
  · exact ⟨G.1, E, nwf_n k.2.2 k.1 l W' (fun y j hy => W y j (by omega) (by omega) (by omega))⟩
theorem dk_X0_makeRoom {o : Hp} (z : hS g = 0) (k : DyK n g h) (e : sX0_makeRoom h (n + 62) = some o) : DyK n g o := by
  unfold sX0_makeRoom at e
  obtain ⟨r1, e1, e⟩ := cl_s e
  rcases br_s e with ⟨_, e⟩ | ⟨_, e⟩
  · unfold sX0_makeRoom_34 at e
    rw [so_e e]; exact k
  · replace e := nx_e e
    replace e := nx_e e
    unfold sX0_makeRoom_15 at e
    iterate 3 replace e := nx_e e
    unfold sX0_makeRoom_23 at e
    iterate 3 replace e := nx_e e
    unfold sX0_makeRoom_31 at e
    replace e := nx_e e
    unfold sX0_makeRoom_34 at e
    rw [so_e e]
    exact dk_wZ (dk_nC (dk_wZ (dk_nC (dk_wZ (dk_nC k) (by decide) (Or.inr z))) (by decide) (Or.inr z))) (by decide) (Or.inr z)
end
end
