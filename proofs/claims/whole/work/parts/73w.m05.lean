section
/-- men that stand on squares that are told -/
def BP (ρ : Nat → Nat) (c : Cm) (b : Nat) (x : Int64) (h : Hp) : Prop := ∀ on s, hR h b 0 = some on → s < 64 → bitJ x s = true → 0 ≤ (hI h on s).toInt ∧ SqN (c.2.1 50) s
/-- ways, wherever they lie, come from squares that are told -/
def FmM (ρ : Nat → Nat) (c : Cm) (h : Hp) : Prop := ∀ W, ρ W = 11 → FmT (c.2.1 50) W h
/-- the men of what was found tell no royal man that the law has not -/
def ReP (ρ : Nat → Nat) (c : Cm) (x0 : Nat) (h : Hp) : Prop := ∀ rt b, hR h x0 9 = some rt → hR h rt 3 = some b → 0 < (hI h rt 6).toInt → RyP ρ c b h
section
variable {ρ : Nat → Nat} {c : Cm} {h o : Hp} {E : Nat → Nat → Bool} {wp : Nat → Bool} {x0 x1 b b3 W w i F : Nat} {x : Int64}
theorem bp_sz (n : niceC E) (n34 : ∀ i, E 34 i = false) (hb : wp w = false) (T : TH ρ c h) (rb : ρ b = 4) (wb : cw c b = w) (f : Fr ρ (cat c (SZ E wp) h) h o) (P : BP ρ c b x h) : BP ρ c b x o := fun on s eo hs hx => by
  rw [(f.1 b 0 (by rw [rb]; decide) (by rw [rb]; exact sz_f (n.1 _ _ (by omega)) rfl (Or.inl rfl))).2.2] at eo
  have ro : ρ on = 34 := rr T (thR T rb (i := 0) (k2 := 34) rfl (by decide)) eo
  have wo : cw c on = w := th_ih T rb rfl eo wb
  rw [fr_I f ro (by decide) wo (sz_f (n34 _) rfl (Or.inr hb))]
  exact P on s eo hs hx
theorem find_in {K : Hp → Nat → Int64 → Int32 → Option (Int32 × Hp)} {x2 : Int64} {x4 x5 x6 : Int32} (hF : 700000 ≤ F) (hp : ∀ k w i, SZ rE rW k w i = true → cPm c k w i = true) (r0 : ρ x0 = 7) (i5 : Rg 0 63 x5) (q5 : SqB (c.2.1 50) x5) (i6 : Rg 0 11 x6) (i4 : Rg 0 63 x4) (Bx : Hp → Prop) (kB : ∀ {g g' : Hp}, TH ρ c g → RI ρ c x0 W b3 g → Fr ρ (cat c (SZ rE rW) g) g g' → Bx g → Bx g') (R : ∀ {h : Hp} {v : Int32}, TH ρ c h → RI ρ c x0 W b3 h → Bx h → v.toInt = x4.toInt + 1 → Sat (K h x0 x2 v) (fun o => TH ρ c o.2 ∧ RI ρ c x0 W b3 o.2)) : ∀ (f : Nat) {h : Hp} {x7 : Int32}, TH ρ c h → RI ρ c x0 W b3 h → Bx h → 0 ≤ x7.toInt → (12 - x7.toInt).toNat < f → Sat (sX6_find_166 F K f h x0 x2 x4 x5 x6 x7) (fun o => TH ρ c o.2 ∧ RI ρ c x0 W b3 o.2) := by
  intro f
  induction f with
  | zero => intros; omega
  | succ f ih =>
    intro h x7 T I B a7 hf
    rw [sX6_find_166]
    unfold sX6_find_225 sX6_find_219
    have up : Sat (nm (x4 + (1 : Int32)) fun v_1 => K h x0 x2 v_1) (fun o => TH ρ c o.2 ∧ RI ρ c x0 W b3 o.2) := s_q (fun v ev => R T I B (by rw [ev]; exact (nc_s i4 (by decide)).2))
    obtain ⟨L, eL, rL⟩ := thR T r0 (i := 0) (k2 := 2) rfl (by decide)
    have mL := thI T rL (k := 2) (i := 3) (lo := 0) (hi := 12) rfl
    refine s_ref eL ?_
    refine s_br (fun _ => up) (fun n1 => ?_)
    have l7 := nle_i n1
    have i7 : Rg 0 11 x7 := ⟨a7, by have := mL.2; omega⟩
    refine s_ref eL ?_
    refine s_ref I.1 ?_
    have rb : ρ b3 = 4 := rr T (thR T r0 (i := 3) (k2 := 4) rfl (by decide)) I.1
    refine s_cI0 (zX1_isLast hF T rL i5 (thI T rb (k := 4) (i := 5) (lo := 0) (hi := 1) rfl)) (fun o5 q5' _ => ?_)
    rw [q5']
    refine s_br (fun _ => up) (fun _ => ?_)
    refine s_ref eL ?_
    refine s_cI0 (zX1_becomesThis hF T rL i7 (rg_m i6 (by decide))) (fun o8 q8 _ => ?_)
    rw [q8]
    have ev : ∀ v : Int32, v = x7 + (1 : Int32) → v.toInt = x7.toInt + 1 := fun v e => by rw [e]; exact (nc_s i7 (by decide)).2
    refine s_br (fun _ => s_q (fun v e => ih T I B (by rw [ev v e]; omega) (by rw [ev v e]; have := i7.2; omega))) (fun _ => ?_)
    obtain ⟨o10, e10, T10', I10⟩ := zX6_takeBack (c := cat c (SZ rE rW) h) hF (sx_c _) (th_in _ T) r0 i5 q5 i7 I
    refine s_val e10 ?_
    have T10 := th_out T hp T10'
    have B10 := kB T I (fr_u T T10'.2.2) B
    exact s_q (fun v e => ih T10 I10 B10 (by rw [ev v e]; omega) (by rw [ev v e]; have := i7.2; omega))
theorem find_out (hF : 700000 ≤ F) (hp : ∀ k w i, SZ rE rW k w i = true → cPm c k w i = true) (r0 : ρ x0 = 7) : ∀ (f : Nat) {h : Hp} {x2 : Int64} {x4 : Int32}, TH ρ c h → RI ρ c x0 W b3 h → BP ρ c b3 x2 h → 0 ≤ x4.toInt → (64 - x4.toInt).toNat < f → Sat (sX6_find_109 F f h x0 x2 x4) (fun o => TH ρ c o.2 ∧ RI ρ c x0 W b3 o.2) := by
  intro f
  induction f with
  | zero => intros; omega
  | succ f ih =>
    intro h x2 x4 T I B a4 hf
    rw [sX6_find_109]
    have fin : Sat (sX6_find_231 F h x0) (fun o => TH ρ c o.2 ∧ RI ρ c x0 W b3 o.2) := by
      unfold sX6_find_231 sX6_find_243 sX6_find_255
      have e2 : ∀ {g : Hp}, TH ρ c g → RI ρ c x0 W b3 g → Sat (br ((hI g x0 7) = 0) (gd ((1 : Int32) &&& 1 = 1) (some ((1 : Int32), g))) (gd ((0 : Int32) &&& 1 = 0) (some ((0 : Int32), g)))) (fun o => TH ρ c o.2 ∧ RI ρ c x0 W b3 o.2) := fun Tg Ig => s_br (fun _ => s_gd (by decide) (s_some ⟨Tg, Ig⟩)) (fun _ => s_gd (by decide) (s_some ⟨Tg, Ig⟩))
      refine s_br (fun _ => e2 T I) (fun _ => ?_)
      refine s_hq (th_wI T r0 (k := 7) (i := 6) (lo := 0) (hi := 3000) rfl (rg_b rfl) (by decide) (by decide) (szE hp rfl _)) (fun g Tg eg => ?_)
      have fg : Fr ρ (cat c (SZ rE no) h) h g := by
        rw [eg]
        exact fu_wI ⟨fun _ _ _ _ => ⟨rfl, rfl, rfl⟩, fun _ _ => rfl⟩ r0 (by show SZ rE no 7 (cw c x0) 6 = true; rfl)
      exact e2 Tg (ri_sz niceC_r rfl rfl rfl (fun _ => rfl) rfl T r0 fg I)
    refine s_br (fun _ => fin) (fun n1 => ?_)
    refine s_br (fun _ => fin) (fun n2 => ?_)
    refine s_br (fun _ => ?_) (fun _ => fin)
    have l4 : x4.toInt < 64 := nle_i n1
    have i4 : Rg 0 63 x4 := ⟨a4, by omega⟩
    refine s_dI0 (zX11_lowest hF T) (fun o4 e4 q4 j4 => ?_)
    rw [q4]
    refine s_q (fun v5 e5 => ?_)
    refine s_ref I.1 ?_
    have rb : ρ b3 = 4 := rr T (thR T r0 (i := 3) (k2 := 4) rfl (by decide)) I.1
    have wb : cw c b3 = 1603 := th_id T r0 (w := 1603) I.1 rfl (by decide)
    obtain ⟨on, eo, ro⟩ := thR T rb (i := 0) (k2 := 34) rfl (by decide)
    refine s_ref eo ?_
    refine s_gd (by rw [thN T ro (k := 34) (n := 64) rfl (by decide)]; exact rg_inB j4 (by decide)) ?_
    have l64 : o4.1.toNatClampNeg < 64 := by have := rg_clamp (n := 63) j4 (by decide); omega
    obtain ⟨p0, pt⟩ := B on _ eo l64 (low_in e4 n2)
    have qt : SqB (c.2.1 50) o4.1 := sq_n pt (by have := nc_i j4.1; omega)
    have p23 := thI T ro (k := 34) (i := o4.1.toNatClampNeg) (lo := -2) (hi := 23) rfl
    refine s_q (fun v9 e9 => ?_)
    have i9 : Rg 0 11 v9 := by
      rw [e9]
      have := ti_shr1 (x := hI h on o4.1.toNatClampNeg)
      have := p23.2
      exact ⟨by omega, by omega⟩
    obtain ⟨o10, e10, T10', I10⟩ := zX6_takeBack (c := cat c (SZ rE rW) h) hF (sx_c _) (th_in _ T) r0 j4 qt i9 I
    refine s_val e10 ?_
    have T10 := th_out T hp T10'
    have f10 := fr_u T T10'.2.2
    have sub : ∀ s, bitJ v5 s = true → bitJ x2 s = true := fun s hs => by rw [e5, bj_and, Bool.and_eq_true] at hs; exact hs.1
    have B5 : BP ρ c b3 v5 h := fun on s eo hs hx => B on s eo hs (sub s hx)
    have B10 := bp_sz niceC_r (fun _ => rfl) rfl T rb wb f10 B5
    exact find_in hF hp r0 j4 qt i9 i4 (BP ρ c b3 v5) (fun {g g'} Tg Ig fg Bg => bp_sz niceC_r (fun _ => rfl) rfl Tg (rr Tg (thR Tg r0 (i := 3) (k2 := 4) rfl (by decide)) Ig.1) (th_id Tg r0 (w := 1603) Ig.1 rfl (by decide)) fg Bg) (fun Tg Ig Bg ev => ih Tg Ig Bg (by omega) (by omega)) F T10 I10 B10 (by decide) (by show (12 - (0 : Int)).toNat < F; omega)
def fW : Nat → Bool := fun w => w == 1503 || w == 1604 || w == 1603
theorem zX6_find (hF : 700000 ≤ F) (hp : ∀ k w i, SZ rE fW k w i = true → cPm c k w i = true) (T : TH ρ c h) (r0 : ρ x0 = 7) (r1 : ρ x1 = 4) (n1 : ¬ cw c x1 = 1603) (lw : LwR ρ c h) (fm : FmM ρ c h) (P : RyP ρ c x1 h) : Sat (sX6_find F h x0 x1) (fun o => TH ρ c o.2 ∧ ∃ b, hR o.2 x0 3 = some b ∧ RyP ρ c b o.2) := by
  unfold sX6_find
  have hp0 : ∀ k w i, SZ rE rW k w i = true → cPm c k w i = true := fun k w i m => hp k w i (sz_sub (fun _ _ z => z) (fun w z => by unfold rW at z; unfold fW; rw [z]; rfl) m)
  have f7 : ∀ {g o : Hp} {j : Nat} {v : Int32}, (j = 6 ∨ j = 7) → o = wI g x0 j v → Fr ρ (cat c (SZ rE no) g) g o := fun hj e => by
    rw [e]
    exact fu_wI ⟨fun _ _ _ _ => ⟨rfl, rfl, rfl⟩, fun _ _ => rfl⟩ r0 (by rcases hj with z | z <;> (rw [z]; rfl))
  refine s_hq (th_wI T r0 (k := 7) (i := 6) (lo := 0) (hi := 3000) rfl (rg_b rfl) (by decide) (by decide) (szE hp rfl _)) (fun g1 T1 e1 => ?_)
  have f1 := f7 (Or.inl rfl) e1
  refine s_hq (th_wI T1 r0 (k := 7) (i := 7) (lo := 0) (hi := 1) rfl (rg_b rfl) (by decide) (by decide) (szE hp rfl _)) (fun g2 T2 e2 => ?_)
  have f2 := f7 (Or.inr rfl) e2
  have lw2 := lw_sz niceC_r T1 f2 (lw_sz niceC_r T f1 lw)
  have P2 := ry_sz niceC_r T1 r1 rfl rfl f2 (ry_sz niceC_r T r1 rfl rfl f1 P)
  obtain ⟨W, eW, rW'⟩ := thR T r0 (i := 1) (k2 := 11) rfl (by decide)
  have fm2 : FmT (c.2.1 50) W g2 := fm_fr T1 rW' f2 (fun _ => sz_f rfl rfl (Or.inl rfl)) (fun _ _ => sz_f rfl rfl (Or.inl rfl)) (fm_fr T rW' f1 (fun _ => sz_f rfl rfl (Or.inl rfl)) (fun _ _ => sz_f rfl rfl (Or.inl rfl)) (fm W rW'))
  obtain ⟨b3, e3, rb⟩ := thR T2 r0 (i := 3) (k2 := 4) rfl (by decide)
  have wb : cw c b3 = 1603 := th_id T2 r0 (w := 1603) e3 rfl (by decide)
  have nb : ¬ x1 = b3 := fun z => n1 (by rw [z]; exact wb)
  refine s_ref e3 ?_
  have hs : ∀ k w i, SZ noE (is 1603) k w i = true → cPm c k w i = true := fun k w i m => hp k w i (sz_sub (fun _ _ z => noE_f z) (fun w z => by rw [is_e z]; rfl) m)
  refine s_cVfq T2 hs (s_weq (zX3_copyFrom hF (by show pmO _ (cw c b3) _; rw [wb]; exact pmO_s (szP (sx_c _) is_s) rfl) (th_in _ T2) rb r1)) (fun o4 T4 f4 q4 => ?_)
  have P4 := ry_copy T2 rb r1 q4 P2
  have lw4 := lw_sz niceC_0 T2 f4 lw2
  have fm4 := fm_fr T2 rW' f4 (fun _ => sz_f rfl rfl (Or.inl rfl)) (fun _ _ => sz_f rfl rfl (Or.inl rfl)) fm2
  have e34 : hR o4 x0 3 = some b3 := by rw [(fr_RI f4 r0 (by decide) (fun _ => sz_f rfl rfl (Or.inl rfl))).2.2]; exact e3
  refine s_ref e34 ?_
  -- strip
  obtain ⟨o6, e6, T6', _⟩ := zX3_strip (c := cat c (fS [] [(1603, [(37, 999), (38, 999), (4, 6), (4, 8), (4, 9), (4, 10)])]) o4) hF (by rw [show cw (cat c (fS [] [(1603, [(37, 999), (38, 999), (4, 6), (4, 8), (4, 9), (4, 10)])]) o4) b3 = 1603 from wb]; exact fs_o (.head _)) (th_in _ T4) rb
  refine s_val e6 ?_
  have pm3 : pmO c 1603 ppL := szP hp rfl
  have T6 := th_out T4 (fs_sub pmA_n (fs_c (pmO_s pm3 rfl) fs_n)) T6'
  have f6 := fr_u T4 T6'.2.2
  have J6 := st9 T4 rb e6
  have P6 : RyP ρ c b3 o6 := ry_fr T4 rb f6 rfl (fun _ => rfl) (fun _ => rfl) P4
  have lw6 : LwR ρ c o6 := lw_fr T4 f6 (fun _ => rfl) (fun _ => rfl) (fun _ => rfl) lw4
  have fm6 := fm_fr T4 rW' f6 (fun _ => rfl) (fun _ _ => rfl) fm4
  have R6 : ∀ j, hR o6 x0 j = hR o4 x0 j := fun j => (fr_RI f6 r0 (by decide) (fun _ => rfl)).2.2
  have e36 : hR o6 x0 3 = some b3 := by rw [R6]; exact e34
  refine s_ref e36 ?_
  refine s_hq (th_wI T6 rb (k := 4) (i := 5) (lo := 0) (hi := 1) rfl (rg_sub (rg_b rfl : Rg 1 1 (1 : Int32)) (thI T6 r1 (k := 4) (i := 5) (lo := 0) (hi := 1) rfl) (by decide)) (by decide) (by decide) (by rw [wb]; exact pm3 4 5 rfl)) (fun g8 T8 e8 => ?_)
  have f8 := fr1I (c := c) (A := [(4, 5)]) (k := 4) (i := 5) rb rfl e8
  have P8 : RyP ρ c b3 g8 := ry_fr T6 rb f8 rfl (fun _ => rfl) (fun _ => rfl) P6
  have lw8 : LwR ρ c g8 := lw_fr T6 f8 (fun _ => rfl) (fun _ => rfl) (fun _ => rfl) lw6
  have fm8 := fm_fr T6 rW' f8 (fun _ => rfl) (fun _ _ => rfl) fm6
  have e38 : hR g8 x0 3 = some b3 := by rw [e8]; exact e36
  have eW8 : hR g8 x0 1 = some W := by
    rw [e8]
    show hR o6 x0 1 = some W
    rw [R6, (fr_RI f4 r0 (by decide) (fun _ => sz_f rfl rfl (Or.inl rfl))).2.2, e2]
    show hR g1 x0 1 = some W
    rw [e1]; exact eW
  have I8 : RI ρ c x0 W b3 g8 := ⟨e38, P8, by rw [e8]; exact J6, eW8, fm8, lw8⟩
  obtain ⟨rf, erf, qrf⟩ := thR T8 r0 (i := 2) (k2 := 6) rfl (by decide)
  refine s_ref erf ?_
  refine s_ref e38 ?_
  refine s_ref e38 ?_
  have done : Sat (some ((1 : Int32), g8)) (fun o => TH ρ c o.2 ∧ ∃ b, hR o.2 x0 3 = some b ∧ RyP ρ c b o.2) := s_some ⟨T8, b3, e38, P8⟩
  have go : Sat (sX6_find_90 F g8 x0) (fun o => TH ρ c o.2 ∧ ∃ b, hR o.2 x0 3 = some b ∧ RyP ρ c b o.2) := by
    unfold sX6_find_90
    refine s_ref e38 ?_
    obtain ⟨of, eof, rof⟩ := thR T8 rb (i := 1) (k2 := 35) rfl (by decide)
    refine s_ref eof ?_
    refine s_ref e38 ?_
    have is5 := thI T8 rb (k := 4) (i := 5) (lo := 0) (hi := 1) rfl
    refine s_gd (by rw [thN T8 rof (k := 35) (n := 2) rfl (by decide)]; exact rg_inB is5 (by decide)) ?_
    refine s_q (fun v ev => ?_)
    have l2 : (hI g8 b3 5).toNatClampNeg < 2 := by have := rg_clamp (n := 1) is5 (by decide); omega
    have B8 : BP ρ c b3 v g8 := fun on s eo hs hx => by
      rw [ev] at hx
      have q := T8.1.2.2.2.2.2.2.1.2 b3 on of rb eo eof s hs _ l2 hx
      exact ⟨q.1, q.2.2⟩
    exact s_imp (find_out hF hp0 r0 F T8 I8 B8 (by decide) (by show (64 - (0 : Int)).toNat < F; omega)) (fun o ho => ⟨ho.1, b3, ho.2.1, ho.2.2.1⟩)
  refine s_cI0 (zX5_isRoyalHit hF T8 qrf rb (thI T8 rb (k := 4) (i := 5) (lo := 0) (hi := 1) rfl)) (fun o12 q12 _ => ?_)
  rw [q12]
  unfold sX6_find_88
  refine s_br (fun _ => ?_) (fun _ => done)
  obtain ⟨L, eL, rL⟩ := thR T8 r0 (i := 0) (k2 := 2) rfl (by decide)
  refine s_ref eL ?_
  refine s_cI0 (zX1_has hF T8 rL (rg_b rfl)) (fun o15 q15 _ => ?_)
  rw [q15]
  refine s_br (fun _ => go) (fun _ => ?_)
  refine s_ref erf ?_
  refine s_ref e38 ?_
  refine s_cI0 (zX5_isRoyalHit hF T8 qrf rb (thI T8 r1 (k := 4) (i := 5) (lo := 0) (hi := 1) rfl)) (fun o19 q19 _ => ?_)
  rw [q19]
  exact s_br (fun _ => go) (fun _ => done)
theorem zX11_before {y1 : Int32} (hF : 700000 ≤ F) (hp : ∀ k w i, SZ rE fW k w i = true → cPm c k w i = true) (T : TH ρ c h) (r0 : ρ x0 = 12) (lw : LwR ρ c h) (pl : PlP ρ c x0 h) (fm : FmM ρ c h) (re : ReP ρ c x0 h) : Sat (sX11_before F h x0 y1) (fun o => TH ρ c o.2 ∧ ReP ρ c x0 o.2) := by
  unfold sX11_before sX11_before_52
  refine s_dP0 (zX11_isPlace hF T r0 (rg_top _)) (fun o2 eb2 e2 ii2 pp2 => ?_)
  rw [e2]
  refine s_br (fun _ => s_some ⟨T, re⟩) (fun nz2 => ?_)
  have ip := pp2 nz2
  have l60 : y1.toNatClampNeg < 60 := by have := rg_clamp (n := 59) ip (by decide); omega
  obtain ⟨b, B⟩ := pc_of T r0 (hr_of T r0 pl eb2 nz2)
  obtain ⟨L, eL, rL⟩ := thR T r0 (i := 2) (k2 := 2) rfl (by decide)
  refine s_ref eL ?_
  refine s_cI0 (zX1_isPlain hF T rL) (fun o4 e4 _ => ?_)
  rw [e4]
  refine s_br (fun _ => s_some ⟨T, re⟩) (fun _ => ?_)
  obtain ⟨rt, ert, rrt⟩ := thR T r0 (i := 9) (k2 := 7) rfl (by decide)
  refine s_ref ert ?_
  refine s_pc T r0 ip B ?_
  obtain ⟨kb, wb'⟩ := pc_r T r0 l60 B
  have PB : RyP ρ c b h := by obtain ⟨_, _, _, q⟩ := B; exact q
  obtain ⟨o10, e10, T10', b3, e3, P3⟩ := zX6_find (c := cat c (SZ rE fW) h) hF (sx_c _) (th_in _ T) rrt kb (by show ¬ cw c b = 1603; rw [wb']; decide) lw fm PB
  refine s_val e10 ?_
  have T10 := th_out T hp T10'
  have f10 := fr_u T T10'.2.2
  have ert10 : hR o10.2 x0 9 = some rt := by rw [x12 r0 f10 rfl]; exact ert
  have re10 : ReP ρ c x0 o10.2 := fun rt' b' e7 eb' _ => by
    have : rt' = rt := r_eq ert10 e7
    subst this
    rw [r_eq e3 eb']; exact P3
  refine s_br (fun _ => s_some ⟨T10, re10⟩) (fun _ => ?_)
  exact s_ref ert10 (s_some ⟨T10, re10⟩)
/-- a place of those found is filled -/
theorem zX11_beforeAtP {y1 : Int32} (hF : 700000 ≤ F) (hp : ∀ k w i, SZ e58 (is 3200) k w i = true → cPm c k w i = true) (T : TH ρ c h) (r0 : ρ x0 = 12) (pl : PlP ρ c x0 h) (re : ReP ρ c x0 h) : Sat (sX11_beforeAt F h x0 y1) (fun o => TH ρ c o.2 ∧ PlP ρ c x0 o.2) := by
  unfold sX11_beforeAt sX11_beforeAt_15
  refine s_br (fun _ => s_some ⟨T, pl⟩) (fun n1 => ?_)
  obtain ⟨rt, ert, rrt⟩ := thR T r0 (i := 9) (k2 := 7) rfl (by decide)
  refine s_ref ert ?_
  refine s_br (fun n2 => ?_) (fun _ => s_some ⟨T, pl⟩)
  have a1 : 0 ≤ y1.toInt := nlt_i n1
  have l1 := lt_i n2
  have c6 := thI T rrt (k := 7) (i := 6) (lo := 0) (hi := 3000) rfl
  refine s_cI0 (zX11_freePlace hF T r0) (fun o4 e4 j4 => ?_)
  rw [e4]
  refine s_br (fun _ => s_some ⟨T, pl⟩) (fun n4 => ?_)
  have ip : Rg 0 59 o4.1 := rg_nlo n4 j4 (rg_b rfl : Rg (-1) (-1) (-1 : Int32))
  have l60 : o4.1.toNatClampNeg < 60 := by have := rg_clamp (n := 59) ip (by decide); omega
  obtain ⟨u, eu, ru⟩ := thR T r0 (i := 14) (k2 := 58) rfl (by decide)
  refine s_ref eu ?_
  refine s_gd (by rw [thN T ru (k := 58) (n := 60) rfl (by decide)]; exact rg_inB ip (by decide)) ?_
  refine s_hq (th_wI T ru (k := 58) (lo := 0) (hi := 1) rfl (rg_narz _) (by decide) (by decide) (szE hp rfl _)) (fun h8 T8 e8 => ?_)
  have f8 : Fr ρ (cat c (SZ e58 no) h) h h8 := by
    rw [e8]
    exact fu_wI ⟨fun _ _ _ _ => ⟨rfl, rfl, rfl⟩, fun _ _ => rfl⟩ ru (by show SZ e58 no 58 (cw c u) o4.1.toNatClampNeg = true; rfl)
  have ry8 : ∀ {b : Nat}, ρ b = 4 → RyP ρ c b h → RyP ρ c b h8 := fun {b} rb P => ry_sz niceC_58 T rb rfl rfl f8 P
  have ert8 : hR h8 x0 9 = some rt := by rw [e8]; exact ert
  refine s_ref ert8 ?_
  obtain ⟨r, er, rr'⟩ := thR T8 r0 (i := 13) (k2 := 57) rfl (by decide)
  refine s_ref er ?_
  refine s_gd (by rw [thN T8 rr' (k := 57) (n := 60) rfl (by decide)]; exact rg_inB ip (by decide)) ?_
  have hk : rfK 57 o4.1.toNatClampNeg = 4 := if_pos l60
  obtain ⟨q, eq, rq⟩ := thR T8 rr' (i := o4.1.toNatClampNeg) (k2 := 4) hk (by decide)
  refine s_ref eq ?_
  have wq : cw c q = 3200 := th_id T8 rr' (w := 3200) eq rfl (by decide)
  unfold sX6_fillIn sX6_fillIn_23
  have h6 : hI h8 rt 6 = hI h rt 6 := by rw [e8, r_I, if_neg (ne_r rrt ru (by decide))]
  have fin : ∀ {g : Hp}, TH ρ c g → RyP ρ c q g → (∀ b, ρ b = 4 → ¬ b = q → RyP ρ c b h8 → RyP ρ c b g) → (∀ a i, hR g a i = hR h8 a i) → (∀ i, hI g u i = hI h8 u i) → PlP ρ c x0 g := fun {g} Tg A oth R U => fun r' u' er' eu' i hi n b eb => by
    rw [R, er] at er'
    rw [R, e8] at eu'
    replace eu' : hR h x0 14 = some u' := eu'
    rw [eu] at eu'
    have z1 := Option.some.inj er'
    have z2 := Option.some.inj eu'
    subst z1
    subst z2
    rw [R] at eb
    have hk2 : rfK 57 i = 4 := if_pos hi
    have rb : ρ b = 4 := rr T8 (thR T8 rr' (i := i) (k2 := 4) hk2 (by decide)) eb
    by_cases w : b = q
    · rw [w]; exact A
    · refine oth b rb w (ry8 rb ?_)
      by_cases v : i = o4.1.toNatClampNeg
      · rw [v, eq] at eb
        exact absurd (Option.some.inj eb).symm w
      · have n' : ¬ hI h u i = 0 := fun z => n (by
          rw [U, e8, r_I, if_neg (fun y => v y.2)]
          exact z)
        rw [e8] at er eb
        exact pl r u er eu i hi n' b eb
  refine s_cl ?_
  refine s_br (fun z => absurd z n1) (fun _ => ?_)
  refine s_br (fun z => absurd (le_i z) (by rw [h6]; omega)) (fun _ => ?_)
  obtain ⟨fo, efo, rfo⟩ := thR T8 rrt (i := 5) (k2 := 48) rfl (by decide)
  refine s_ref efo ?_
  have iy : Rg 0 2999 y1 := ⟨a1, by have := c6.2; omega⟩
  refine s_gd (by rw [thN T8 rfo (k := 48) (n := 3000) rfl (by decide)]; exact rg_inB iy (by decide)) ?_
  obtain ⟨b3, e3, rb3⟩ := thR T8 rrt (i := 3) (k2 := 4) rfl (by decide)
  have P3 : RyP ρ c b3 h8 := ry8 rb3 (re rt b3 ert (by rw [e8] at e3; exact e3) (by omega))
  obtain ⟨o5, e5, T5', P5, _, oth5, R5⟩ := zX6_layP (c := cat c (SZ noE (is 3200)) h8) (x2 := hI h8 fo y1.toNatClampNeg) (wx := 3200) hF (szP (sx_c _) is_s) (th_in _ T8) rrt rq wq (by decide) (thG8 T8 rfo) e3 P3
  refine s_val e5 ?_
  have hs5 : ∀ k w i, SZ noE (is 3200) k w i = true → cPm c k w i = true := fun k w i m => hp k w i (sz_sub (fun _ _ z => noE_f z) (fun _ z => z) m)
  have T5 := th_out T8 hs5 T5'
  have f5 := fr_u T8 T5'.2.2
  exact s_some (s_some ⟨T5, fin T5 P5 oth5 R5 (fun i => (fr_RI f5 ru (by decide) (fun _ => sz_f rfl rfl (Or.inl rfl))).1)⟩)
end
end
section
section
variable {ρ : Nat → Nat} {c : Cm} {h o : Hp} {E : Nat → Nat → Bool} {wp : Nat → Bool} {x0 F : Nat}
def psE : Nat → Nat → Bool := fun k i => k == 58 || (k == 8 && (i == 1 || i == 2))
def e8r : Nat → Nat → Bool := fun k i => k == 8 && (i == 1 || i == 2)
theorem niceC_8r : niceC e8r := by
  refine ⟨fun k i hk => ?_, rfl, rfl, rfl, rfl, rfl, rfl, fun _ => rfl⟩
  unfold e8r
  rw [bq_ne (show k ≠ 8 by omega)]; rfl
/-- a position is read into a free place -/
theorem zX11_positionP (hF : 700000 ≤ F) (hp : ∀ k w i, SZ psE (is 3200) k w i = true → cPm c k w i = true) (hO : pmO c 2100 [(10, 1)]) (T : TH ρ c h) (r0 : ρ x0 = 12) (lw : LwR ρ c h) (pl : PlP ρ c x0 h) : Sat (sX11_position F h x0) (fun o => TH ρ c o.2 ∧ PlP ρ c x0 o.2) := by
  have fin : ∀ {g : Hp} {y : Int32}, TH ρ c g → PlP ρ c x0 g → Sat (sX11_position_104 F g x0 y) (fun o => TH ρ c o.2 ∧ PlP ρ c x0 o.2) := fun {g y} Tg pg => by
    unfold sX11_position_104
    obtain ⟨t, et, rt⟩ := thR Tg r0 (i := 0) (k2 := 10) rfl (by decide)
    refine s_ref et ?_
    have wt : cw c t = 2100 := kid_w Tg r0 (i := 0) rfl (by decide) et
    refine s_cVf (S := fS [] [(2100, [(10, 1)])]) Tg (fs_sub pmA_n (fs_c hO fs_n)) (zX9_clear hF (by rw [show cw (cat c (fS [] [(2100, [(10, 1)])]) g) t = 2100 from wt]; exact fs_o (.head _)) (th_in _ Tg) rt) (fun o2 T2 f2 => ?_)
    exact s_some ⟨T2, pl_fr Tg r0 f2 (fun _ => rfl) (fun _ => rfl) (fun _ _ => rfl) (fun _ _ => rfl) rfl (fun _ => rfl) (fun _ => rfl) pg⟩
  unfold sX11_position
  refine s_cI0 (zX11_freePlace hF T r0) (fun o1 e1 j1 => ?_)
  rw [e1]
  refine s_br (fun _ => fin T pl) (fun n1 => ?_)
  have ip : Rg 0 59 o1.1 := rg_nlo n1 j1 (rg_b rfl : Rg (-1) (-1) (-1 : Int32))
  have l60 : o1.1.toNatClampNeg < 60 := by have := rg_clamp (n := 59) ip (by decide); omega
  obtain ⟨r, er, rr'⟩ := thR T r0 (i := 13) (k2 := 57) rfl (by decide)
  refine s_ref er ?_
  refine s_gd (by rw [thN T rr' (k := 57) (n := 60) rfl (by decide)]; exact rg_inB ip (by decide)) ?_
  have hk : rfK 57 o1.1.toNatClampNeg = 4 := if_pos l60
  obtain ⟨q, eq, rq⟩ := thR T rr' (i := o1.1.toNatClampNeg) (k2 := 4) hk (by decide)
  refine s_ref eq ?_
  have wq : cw c q = 3200 := th_id T rr' (w := 3200) eq rfl (by decide)
  obtain ⟨sc, esc, rsc⟩ := thR T r0 (i := 7) (k2 := 8) rfl (by decide)
  refine s_ref esc ?_
  obtain ⟨t, et, rt⟩ := thR T r0 (i := 0) (k2 := 10) rfl (by decide)
  refine s_ref et ?_
  have hs : ∀ k w i, SZ e8r (is 3200) k w i = true → cPm c k w i = true := fun k w i m => hp k w i (sz_sub (fun k i z => by unfold e8r at z; unfold psE; rw [z, Bool.or_true]) (fun _ z => z) m)
  refine s_cIfq T hs (zX7_read hF (fun w k i m => sx_c _ k w i (by
      have : ((8 == k && (1 == 999 || 1 == i)) || ((8 == k && (2 == 999 || 2 == i)) || false)) = true := m
      have q : e8r k i = true := by
        unfold e8r
        rw [Bool.or_eq_true, Bool.or_false, Bool.and_eq_true, Bool.and_eq_true, beq_iff_eq] at this
        rcases this with ⟨a, b⟩ | ⟨a, b⟩
        · rw [← a]
          have b' : (1 == i) = true := b
          rw [beq_iff_eq] at b'
          rw [← b']; rfl
        · rw [← a]
          have b' : (2 == i) = true := b
          rw [beq_iff_eq] at b'
          rw [← b']; rfl
      unfold SZ; rw [q]; rfl)) (pmO_s (szP (sx_c _) is_s) rfl) rfl wq (th_in _ T) rsc rt rq lw) (fun o8 T8 i8 f8 p8 => ?_)
  obtain ⟨rc8, nm8, ry8⟩ := p8
  have pl8 : PlP ρ c x0 o8.2 := pl_rc T r0 f8 (fun _ => sz_f rfl rfl (Or.inl rfl)) (fun _ => sz_f rfl rfl (Or.inl rfl)) (fun _ _ => sz_f rfl rfl (Or.inl rfl)) (fun _ _ => sz_f rfl rfl (Or.inl rfl)) rc8 pl
  have er8 : hR o8.2 x0 13 = some r := by rw [x12 r0 f8 rfl]; exact er
  have eq8 : hR o8.2 r o1.1.toNatClampNeg = some q := by rw [(fr_RI f8 rr' (by decide) (fun _ => sz_f rfl rfl (Or.inl rfl))).2.2]; exact eq
  obtain ⟨u, eu, ru⟩ := thR T8 r0 (i := 14) (k2 := 58) rfl (by decide)
  have b75 : ∀ {x4 x5 t0 : Int32}, Sat (sX11_position_75 F o8.2 x0 o1.1 x4 x5 t0 o1.1 u) (fun o => TH ρ c o.2 ∧ PlP ρ c x0 o.2) := fun {x4 x5 t0} => by
    unfold sX11_position_75 sX11_position_103
    refine s_gd (by rw [thN T8 ru (k := 58) (n := 60) rfl (by decide)]; exact rg_inB ip (by decide)) ?_
    refine s_hq (th_wI T8 ru (k := 58) (lo := 0) (hi := 1) rfl (rg_narz _) (by decide) (by decide) (szE hp rfl _)) (fun g Tg eg => ?_)
    have fg : Fr ρ (cat c (SZ e58 no) o8.2) o8.2 g := by
      rw [eg]
      exact fu_wI ⟨fun _ _ _ _ => ⟨rfl, rfl, rfl⟩, fun _ _ => rfl⟩ ru (by show SZ e58 no 58 (cw c u) o1.1.toNatClampNeg = true; rfl)
    have plg : PlP ρ c x0 g := fun r' u' er' eu' i hi n b eb => by
      rw [eg] at er' eu' eb
      replace er' : hR o8.2 x0 13 = some r' := er'
      replace eu' : hR o8.2 x0 14 = some u' := eu'
      replace eb : hR o8.2 r' i = some b := eb
      have z1 := r_eq er8 er'
      have z2 := r_eq eu eu'
      subst z1
      subst z2
      have hk2 : rfK 57 i = 4 := if_pos hi
      have rb : ρ b = 4 := rr T8 (thR T8 rr' (i := i) (k2 := 4) hk2 (by decide)) eb
      refine ry_sz niceC_58 T8 rb rfl rfl fg ?_
      by_cases v : i = o1.1.toNatClampNeg
      · rw [v, eq8] at eb
        rw [← Option.some.inj eb]; exact ry8
      · have n' : ¬ hI o8.2 u' i = 0 := fun z => n (by rw [eg, r_I, if_neg (fun y => v y.2)]; exact z)
        exact pl8 r' u' er' eu' i hi n' b eb
    exact s_br (fun _ => s_br (fun _ => fin Tg plg) (fun _ => fin Tg plg)) (fun _ => fin Tg plg)
  have b52 : ∀ {x4 t0 : Int32}, Sat (sX11_position_52 F o8.2 x0 o1.1 x4 t0) (fun o => TH ρ c o.2 ∧ PlP ρ c x0 o.2) := fun {x4 t0} => by
    unfold sX11_position_52 sX11_position_74
    refine s_ref eu ?_
    exact s_br (fun _ => s_br (fun _ => b75) (fun _ => b75)) (fun _ => b75)
  refine s_br (fun _ => ?_) (fun _ => b52)
  obtain ⟨rf, erf, qrf⟩ := thR T8 r0 (i := 6) (k2 := 6) rfl (by decide)
  refine s_ref erf ?_
  refine s_cI0 (zX5_faultOf hF T8 qrf rq (Or.inr nm8)) (fun o11 e11 _ => ?_)
  rw [e11]
  exact b52
end
end
section
theorem bit_shr {a : Int64} {x : Int32} (i : Rg 0 63 x) : bitJ (a >>> (x.toInt64 &&& 63)) 0 = bitJ a x.toNatClampNeg := by
  obtain ⟨j, ej, tj, hj⟩ := rg_nI i (Int.le_refl 0)
  have j64 : j < 64 := by have := i.2; omega
  have all : ∀ j : Fin 64, (((nI j.val).toInt64 &&& 63).toBitVec.smod 64).toNat = j.val := by decide +kernel
  have aj : (((nI j).toInt64 &&& 63).toBitVec.smod 64).toNat = j := all ⟨j, j64⟩
  unfold bitJ
  rw [ej, z_clamp hj, Int64.toBitVec_shiftRight, BitVec.sshiftRight_eq', aj, BitVec.getLsbD_sshiftRight]
  simp [j64]
theorem cmp_eq {a b : Int64} (h : lg_cmp a b = 0) : a = b := by
  unfold lg_cmp at h
  by_cases q : a > b
  · rw [if_pos q] at h; exact absurd h (by decide)
  · rw [if_neg q] at h
    by_cases z : a = b
    · exact z
    · rw [if_neg z] at h; exact absurd h (by decide)
theorem bit_test {a : Int64} {x : Int32} (i : Rg 0 63 x) (h : lg_cmp ((a >>> (x.toInt64 &&& 63)) &&& (1 : Int64)) (1 : Int64) = 0) : bitJ a x.toNatClampNeg = true := by
  have e := cmp_eq h
  have q : bitJ ((a >>> (x.toInt64 &&& 63)) &&& (1 : Int64)) 0 = true := by rw [e]; decide
  rw [bj_and, Bool.and_eq_true, bit_shr i] at q
  exact q.1
/-- how many rights, how many men in hand -/
def cRt (a : Int64) : Nat → Nat
  | 0 => 0
  | n + 1 => cRt a n + if bitJ a n then 1 else 0
def sH (h : Hp) (H d : Nat) : Nat → Int
  | 0 => 0
  | n + 1 => sH h H d n + (hI h H (2 * n + d)).toInt
theorem cRt_le (a : Int64) : ∀ n m, n ≤ m → cRt a n ≤ cRt a m := by
  intro n m
  induction m with
  | zero => intro h; have : n = 0 := by omega
            rw [this]; exact Nat.le_refl _
  | succ m ih =>
    intro h
    by_cases q : n = m + 1
    · rw [q]; exact Nat.le_refl _
    · have := ih (by omega)
      show cRt a n ≤ cRt a m + _
      omega
theorem sH_le {h : Hp} {H d : Nat} (p : ∀ j, 0 ≤ (hI h H j).toInt) : ∀ n m, n ≤ m → sH h H d n ≤ sH h H d m := by
  intro n m
  induction m with
  | zero => intro h; have : n = 0 := by omega
            rw [this]; exact Int.le_refl _
  | succ m ih =>
    intro h
    by_cases q : n = m + 1
    · rw [q]; exact Int.le_refl _
    · have := ih (by omega)
      have := p (2 * m + d)
      show sH _ H d n ≤ sH _ H d m + _
      omega
def wrE : Nat → Nat → Bool := fun k i => k == 83 || (k == 16 && i == 3)
/-- what writing keeps: the board and the rules -/
def WK (ρ : Nat → Nat) (x0 b : Nat) (h o : Hp) : Prop := (∀ a i, hR o a i = hR h a i) ∧ (∀ a, hJ o a = hJ h a) ∧ ∀ a i, ¬ ρ a = 83 → ¬ (a = x0 ∧ i = 3) → hI o a i = hI h a i
section
variable {ρ : Nat → Nat} {c : Cm} {h o g : Hp} {x0 b F : Nat} {x1 : Int32}
theorem wA (hp : ∀ k w i, fS [(83, 999), (16, 3)] [] k w i = true → cPm c k w i = true) : pmA c [(83, 999), (16, 3)] := fun w k i m => hp k w i (by unfold fS; rw [m, Bool.true_or])
/-- a letter is said -/
theorem s_say {β : Type} {Q : β → Prop} {k : Hp → Option β} (hF : 700000 ≤ F) (hA : pmA c [(83, 999), (16, 3)]) (T : TH ρ c h) (r0 : ρ x0 = 16) (po : (hI h x0 3).toInt ≤ 255) (H : ∀ o, TH ρ c o → Fr ρ (cat c (fS [(83, 999), (16, 3)] []) h) h o → (hI h x0 3).toInt ≤ (hI o x0 3).toInt → (hI o x0 3).toInt ≤ (hI h x0 3).toInt + 1 → Sat (k o) Q) : Sat (cl (sX15_say h x0 x1) k) Q :=
  s_cVfq T (fs_sub hA fs_n) (zX15_say hF fs_a (th_in _ T) r0 (rg_top _) po) (fun o T1 f1 p1 => H o T1 f1 p1.1 p1.2)
theorem s_saySq {β : Type} {Q : β → Prop} {k : Hp → Option β} (hF : 700000 ≤ F) (hA : pmA c [(83, 999), (16, 3)]) (T : TH ρ c h) (r0 : ρ x0 = 16) (i1 : Rg 0 63 x1) (po : (hI h x0 3).toInt ≤ 254) (H : ∀ o, TH ρ c o → Fr ρ (cat c (fS [(83, 999), (16, 3)] []) h) h o → (hI h x0 3).toInt ≤ (hI o x0 3).toInt → (hI o x0 3).toInt ≤ (hI h x0 3).toInt + 2 → Sat (k o) Q) : Sat (cl (sX15_saySquare h x0 x1) k) Q :=
  s_cVfq T (fs_sub hA fs_n) (zX15_saySquare hF fs_a (th_in _ T) r0 i1 po) (fun o T1 f1 p1 => H o T1 f1 p1.1 p1.2)
/-- the board, in numbers that stay -/
def WB (b H : Nat) (R : Int64) (np : Int) (h0 h : Hp) : Prop := hR h b 5 = some H ∧ hJ h b 2 = R ∧ (hI h b 3).toInt = np ∧ ∀ j, hI h H j = hI h0 H j
theorem wb_fr {H : Nat} {R : Int64} {np : Int} {h0 : Hp} (T : TH ρ c h) (rb : ρ b = 13) (f : Fr ρ (cat c (fS [(83, 999), (16, 3)] []) h) h o) (P : WB b H R np h0 h) : WB b H R np h0 o := by
  obtain ⟨p1, p2, p3, p4⟩ := P
  have rH : ρ H = 64 := rr T (thR T rb (i := 5) (k2 := 64) rfl (by decide)) p1
  refine ⟨?_, ?_, ?_, fun j => ?_⟩
  · rw [(fr_RI f rb (by decide) (fun _ => rfl)).2.2]; exact p1
  · rw [(fr_RI f rb (by decide) (fun _ => rfl)).2.1]; exact p2
  · rw [(fr_RI f rb (by decide) (fun _ => rfl)).1]; exact p3
  · rw [(fr_RI f rH (by decide) (fun _ => rfl)).1]; exact p4 j
end
end
section
/-! the whole text of a board -/
def WQ (ρ : Nat → Nat) (c : Cm) (x0 : Nat) (v : Int) (o : Hp) : Prop := TH ρ c o ∧ (hI o x0 3).toInt ≤ v
section
variable {ρ : Nat → Nat} {c : Cm} {h o g h0 : Hp} {x0 b F H s : Nat} {R : Int64} {np v : Int} {x1 x2 x3 x4 x5 : Int32}
abbrev wrF : Nat → Nat → Nat → Bool := fS [(83, 999), (16, 3)] []
theorem wr_230 (hF : 700000 ≤ F) (hA : pmA c [(83, 999), (16, 3)]) (T : TH ρ c h) (r0 : ρ x0 = 16) (rb : ρ b = 13) (hv : v ≤ 256) (u : (hI h x0 3).toInt + 7 ≤ v) : Sat (sX15_writeAll_230 F h x0 b) (WQ ρ c x0 v) := by
  unfold sX15_writeAll_230
  refine s_say hF hA T r0 (by omega) (fun o1 T1 f1 a1 b1 => ?_)
  obtain ⟨r, e, q⟩ := thR T1 rb (i := 6) (k2 := 65) rfl (by decide)
  refine s_ref e ?_
  refine s_gd (by rw [thN T1 q (k := 65) (n := 2) rfl (by decide)]; exact rg_inB (rg_b rfl : Rg 0 0 (0 : Int32)) (by decide)) ?_
  refine s_say hF hA T1 r0 (by omega) (fun o2 T2 f2 a2 b2 => ?_)
  obtain ⟨r', e', q'⟩ := thR T2 rb (i := 6) (k2 := 65) rfl (by decide)
  refine s_ref e' ?_
  refine s_gd (by rw [thN T2 q' (k := 65) (n := 2) rfl (by decide)]; exact rg_inB (rg_b rfl : Rg 1 1 (1 : Int32)) (by decide)) ?_
  refine s_say hF hA T2 r0 (by omega) (fun o3 T3 f3 a3 b3 => ?_)
  refine s_say hF hA T3 r0 (by omega) (fun o4 T4 f4 a4 b4 => ?_)
  refine s_cVq (zX15_sayNumber hF hA T4 r0 (thI T4 rb (k := 13) (i := 7) (lo := 0) (hi := 999) rfl) (by omega)) (fun o5 T5 p5 => ?_)
  exact s_some ⟨T5, by have := p5.2.1; omega⟩
theorem wr_168 {k145 : Hp → Nat → Nat → Int32 → Int32 → Option Hp} {k153 : Hp → Nat → Nat → Int32 → Int32 → Int32 → Option Hp} {Q : Hp → Prop} {rest : Int} (hF : 700000 ≤ F) (hA : pmA c [(83, 999), (16, 3)]) (r0 : ρ x0 = 16) (rb : ρ b = 13) (hv : v ≤ 256) (hr : 0 ≤ rest) (i3 : Rg 0 1 x3) (i4 : Rg 0 11 x4)
    (K : ∀ o y, TH ρ c o → WB b H R np h0 o → y.toInt = x4.toInt + 1 → (hI o x0 3).toInt + rest ≤ v → Sat (k153 o x0 b x2 x3 y) Q) :
    ∀ (f : Nat) {h : Hp} {x5 : Int32}, TH ρ c h → WB b H R np h0 h → 0 ≤ x5.toInt → x5.toInt ≤ (hI h0 H (2 * x4.toNatClampNeg + x3.toNatClampNeg)).toInt → (hI h x0 3).toInt + ((hI h0 H (2 * x4.toNatClampNeg + x3.toNatClampNeg)).toInt - x5.toInt) + rest ≤ v → (17 - x5.toInt).toNat < f → Sat (sX15_writeAll_168 F k145 k153 f h x0 b x2 x3 x4 x5) Q := by
  intro f
  induction f with
  | zero => intros; omega
  | succ f ih =>
    intro h x5 T W a5 b5 u hf
    rw [sX15_writeAll_168]
    have e2 : (2 : Int32).toInt = 2 := rfl
    have e4 : ((2 : Int32) * x4).toInt = 2 * x4.toInt := by rw [tm (by rw [e2]; have := i4.1; have := i4.2; omega), e2]
    have e5 : (((2 : Int32) * x4) + x3).toInt = 2 * x4.toInt + x3.toInt := by rw [ta (by rw [e4]; have := i4.1; have := i4.2; have := i3.1; have := i3.2; omega), e4]
    have i5 : Rg 0 23 (((2 : Int32) * x4) + x3) := ⟨by rw [e5]; have := i4.1; have := i3.1; omega, by rw [e5]; have := i4.2; have := i3.2; omega⟩
    have ei : (((2 : Int32) * x4) + x3).toNatClampNeg = 2 * x4.toNatClampNeg + x3.toNatClampNeg := by
      have := clamp_i i5.1
      have := clamp_i i4.1
      have := clamp_i i3.1
      omega
    have W' := W
    obtain ⟨w1, w2, w3, w4⟩ := W
    have rH : ρ H = 64 := rr T (thR T rb (i := 5) (k2 := 64) rfl (by decide)) w1
    refine s_ref w1 ?_
    refine s_gd (by rw [thN T rH (k := 64) (n := 24) rfl (by decide)]; exact rg_inB i5 (by decide)) ?_
    rw [ei, w4]
    have hh : Rg 0 16 (hI h0 H (2 * x4.toNatClampNeg + x3.toNatClampNeg)) := by rw [← w4]; exact thI T rH (k := 64) (lo := 0) (hi := 16) rfl
    refine s_br (fun l1 => ?_) (fun n1 => ?_)
    · have := le_i l1
      refine s_q (fun y ey => ?_)
      have ey2 : y.toInt = x4.toInt + 1 := by rw [ey]; exact (nc_s i4 (by decide)).2
      exact K h y T W' ey2 (by omega)
    · have l5 := nle_i n1
      unfold sX15_valueOf
      refine s_cl (s_some ?_)
      have ev : (((1 : Int32) + ((2 : Int32) * x4)) + x3).toInt = 1 + (2 * x4.toInt + x3.toInt) := by
        have e1 : (1 : Int32).toInt = 1 := rfl
        have e6 : ((1 : Int32) + ((2 : Int32) * x4)).toInt = 1 + 2 * x4.toInt := by rw [ta (by rw [e4, e1]; have := i4.1; have := i4.2; omega), e4, e1]
        rw [ta (by rw [e6]; have := i4.1; have := i4.2; have := i3.1; have := i3.2; omega), e6]
        omega
      refine s_cI0 (zX15_letterOf hF T r0 (x1 := ((1 : Int32) + ((2 : Int32) * x4)) + x3) ⟨by rw [ev]; have := i4.1; have := i3.1; omega, by rw [ev]; have := i4.2; have := i3.2; omega⟩) (fun o6 e6 j6 => ?_)
      rw [show o6.2 = h from e6]
      refine s_say (h := h) hF hA T r0 (by omega) (fun o7 T7 f7 a7 b7 => ?_)
      refine s_q (fun y ey => ?_)
      have ey2 : y.toInt = x5.toInt + 1 := by rw [ey]; exact (nc_s (⟨a5, by have := hh.2; omega⟩ : Rg 0 16 x5) (by decide)).2
      exact ih T7 (wb_fr T rb f7 W') (by omega) (by omega) (by omega) (by have := hh.2; omega)
theorem wr_153 {k145 : Hp → Nat → Nat → Int32 → Int32 → Option Hp} {Q : Hp → Prop} {rest : Int} (hF : 700000 ≤ F) (hA : pmA c [(83, 999), (16, 3)]) (r0 : ρ x0 = 16) (rb : ρ b = 13) (hv : v ≤ 256) (hr : 0 ≤ rest) (i3 : Rg 0 1 x3) (pz : ∀ j, 0 ≤ (hI h0 H j).toInt)
    (K : ∀ o y, TH ρ c o → WB b H R np h0 o → y.toInt = x3.toInt + 1 → (hI o x0 3).toInt + rest ≤ v → Sat (k145 o x0 b x2 y) Q) :
    ∀ (f : Nat) {h : Hp} {x4 : Int32}, TH ρ c h → WB b H R np h0 h → Rg 0 12 x4 → (hI h x0 3).toInt + (sH h0 H x3.toNatClampNeg 12 - sH h0 H x3.toNatClampNeg x4.toNatClampNeg) + rest ≤ v → (13 - x4.toInt).toNat < f → Sat (sX15_writeAll_153 F k145 f h x0 b x2 x3 x4) Q := by
  intro f
  induction f with
  | zero => intros; omega
  | succ f ih =>
    intro h x4 T W i4 u hf
    rw [sX15_writeAll_153]
    obtain ⟨r, e, q⟩ := thR T r0 (i := 4) (k2 := 15) rfl (by decide)
    have c12 := thI T q (k := 15) (i := 2) (lo := 0) (hi := 12) rfl
    have l12 : x4.toNatClampNeg ≤ 12 := rg_clamp i4 (by decide)
    refine s_ref e ?_
    refine s_br (fun _ => ?_) (fun n1 => ?_)
    · refine s_q (fun y ey => ?_)
      have ey2 : y.toInt = x3.toInt + 1 := by rw [ey]; exact (nc_s i3 (by decide)).2
      have := sH_le (d := x3.toNatClampNeg) pz _ _ l12
      exact K h y T W ey2 (by omega)
    · have l4 := nle_i n1
      have j4 : Rg 0 11 x4 := ⟨i4.1, by have := c12.2; omega⟩
      have ec := clamp_i i4.1
      have s1 : sH h0 H x3.toNatClampNeg (x4.toNatClampNeg + 1) = sH h0 H x3.toNatClampNeg x4.toNatClampNeg + (hI h0 H (2 * x4.toNatClampNeg + x3.toNatClampNeg)).toInt := rfl
      have s2 := sH_le (d := x3.toNatClampNeg) pz (x4.toNatClampNeg + 1) 12 (by have := j4.2; omega)
      have z0 : (0 : Int32).toInt = 0 := rfl
      refine wr_168 (rest := sH h0 H x3.toNatClampNeg 12 - sH h0 H x3.toNatClampNeg (x4.toNatClampNeg + 1) + rest) hF hA r0 rb hv (by omega) i3 j4 (fun o y To Wo ey uo => ?_) F T W (by decide) (by rw [z0]; exact pz _) (by rw [z0]; omega) (by rw [z0]; omega)
      have iy : Rg 0 12 y := ⟨by have := j4.1; omega, by have := j4.2; omega⟩
      have ec2 := clamp_i iy.1
      have en : y.toNatClampNeg = x4.toNatClampNeg + 1 := by omega
      exact ih To Wo iy (by rw [en]; omega) (by have := j4.2; omega)
theorem wr_145 (hF : 700000 ≤ F) (hA : pmA c [(83, 999), (16, 3)]) (r0 : ρ x0 = 16) (rb : ρ b = 13) (hv : v ≤ 256) (pz : ∀ j, 0 ≤ (hI h0 H j).toInt) :
    ∀ (f : Nat) {h : Hp} {x3 : Int32}, TH ρ c h → WB b H R np h0 h → Rg 0 2 x3 → (hI h x0 3).toInt + (if x3.toInt = 0 then sH h0 H 0 12 else 0) + (if x3.toInt ≤ 1 then sH h0 H 1 12 else 0) + 8 ≤ v → (3 - x3.toInt).toNat < f → Sat (sX15_writeAll_145 F f h x0 b x2 x3) (WQ ρ c x0 v) := by
  have q0 : 0 ≤ sH h0 H 0 12 := sH_le (d := 0) pz 0 12 (by decide)
  have q1 : 0 ≤ sH h0 H 1 12 := sH_le (d := 1) pz 0 12 (by decide)
  intro f
  induction f with
  | zero => intros; omega
  | succ f ih =>
    intro h x3 T W i3 u hf
    rw [sX15_writeAll_145]
    have a3 := i3.1
    have b3 := i3.2
    refine s_br (fun _ => ?_) (fun n1 => ?_)
    · have u8 : (hI h x0 3).toInt + 8 ≤ v := by
        split at u <;> split at u <;> omega
      refine s_br (fun _ => ?_) (fun _ => wr_230 hF hA T r0 rb hv (by omega))
      exact s_say hF hA T r0 (by omega) (fun o T1 f1 a1 b1 => wr_230 hF hA T1 r0 rb hv (by omega))
    · have l3 : x3.toInt < 2 := nle_i n1
      have ec := clamp_i a3
      have z0 : (0 : Int32).toInt = 0 := rfl
      have zc : (0 : Int32).toNatClampNeg = 0 := rfl
      by_cases zx : x3.toInt = 0
      · have e0 : x3.toNatClampNeg = 0 := by omega
        rw [if_pos zx, if_pos (by omega)] at u
        refine wr_153 (rest := sH h0 H 1 12 + 8) hF hA r0 rb hv (by omega) ⟨a3, by omega⟩ pz (fun o y To Wo ey uo => ?_) F T W (rg_b rfl) (by rw [e0, zc]; show _ + (sH h0 H 0 12 - 0) + _ ≤ v; omega) (by rw [z0]; omega)
        exact ih To Wo ⟨by omega, by omega⟩ (by rw [if_neg (by omega), if_pos (by omega)]; omega) (by omega)
      · have e1 : x3.toNatClampNeg = 1 := by omega
        rw [if_neg zx, if_pos (by omega)] at u
        refine wr_153 (rest := 8) hF hA r0 rb hv (by omega) ⟨a3, by omega⟩ pz (fun o y To Wo ey uo => ?_) F T W (rg_b rfl) (by rw [e1, zc]; show _ + (sH h0 H 1 12 - 0) + _ ≤ v; omega) (by rw [z0]; omega)
        exact ih To Wo ⟨by omega, by omega⟩ (by rw [if_neg (by omega), if_neg (by omega)]; omega) (by omega)
theorem wr_108 (hF : 700000 ≤ F) (hA : pmA c [(83, 999), (16, 3)]) (r0 : ρ x0 = 16) (rb : ρ b = 13) (hv : v ≤ 256) (pz : ∀ j, 0 ≤ (hI h0 H j).toInt) :
    ∀ (f : Nat) {h : Hp} {x2 : Int32}, TH ρ c h → WB b H R np h0 h → 0 ≤ x2.toInt → x2.toInt ≤ np → (hI h x0 3).toInt + 2 * (np - x2.toInt) + sH h0 H 0 12 + sH h0 H 1 12 + 9 ≤ v → (65 - x2.toInt).toNat < f → Sat (sX15_writeAll_108 F f h x0 b x2) (WQ ρ c x0 v) := by
  have q0 : 0 ≤ sH h0 H 0 12 := sH_le (d := 0) pz 0 12 (by decide)
  have q1 : 0 ≤ sH h0 H 1 12 := sH_le (d := 1) pz 0 12 (by decide)
  intro f
  induction f with
  | zero => intros; omega
  | succ f ih =>
    intro h x2 T W a2 b2 u hf
    rw [sX15_writeAll_108]
    have i3 := thI T rb (k := 13) (i := 3) (lo := 0) (hi := 64) rfl
    have e3 : (hI h b 3).toInt = np := W.2.2.1
    have z0 : (0 : Int32).toInt = 0 := rfl
    refine s_br (fun l1 => ?_) (fun n1 => ?_)
    · have := le_i l1
      refine s_say hF hA T r0 (by omega) (fun o T1 f1 a1 b1 => ?_)
      refine s_q (fun y _ => ?_)
      exact wr_145 hF hA r0 rb hv pz F T1 (wb_fr T rb f1 W) (rg_b rfl) (by rw [z0, if_pos rfl, if_pos (by decide)]; omega) (by rw [z0]; omega)
    · have l2 := nle_i n1
      have i2 : Rg 0 63 x2 := ⟨a2, by have := i3.2; omega⟩
      obtain ⟨r, e, q⟩ := thR T rb (i := 4) (k2 := 63) rfl (by decide)
      refine s_ref e ?_
      refine s_gd (by rw [thN T q (k := 63) (n := 64) rfl (by decide)]; exact rg_inB i2 (by decide)) ?_
      refine s_saySq hF hA T r0 (thI T q (k := 63) (lo := 0) (hi := 63) rfl) (by omega) (fun o T1 f1 a1 b1 => ?_)
      refine s_q (fun y ey => ?_)
      have ey2 : y.toInt = x2.toInt + 1 := by rw [ey]; exact (nc_s i2 (by decide)).2
      exact ih T1 (wb_fr T rb f1 W) (by omega) (by omega) (by omega) (by have := i3.2; omega)
theorem wr_55 (hF : 700000 ≤ F) (hA : pmA c [(83, 999), (16, 3)]) (r0 : ρ x0 = 16) (rb : ρ b = 13) (hv : v ≤ 256) (pz : ∀ j, 0 ≤ (hI h0 H j).toInt) (hn : 0 ≤ np) (hs : s ≤ 64) :
    ∀ (f : Nat) {h : Hp} {x2 : Int32}, TH ρ c h → WB b H R np h0 h → (hI h x0 13).toInt ≤ (s : Int) → 0 ≤ x2.toInt → x2.toNatClampNeg ≤ s → (hI h x0 3).toInt + 2 * ((cRt R s : Int) - cRt R x2.toNatClampNeg) + 2 * np + sH h0 H 0 12 + sH h0 H 1 12 + 11 ≤ v → (65 - x2.toInt).toNat < f → Sat (sX15_writeAll_55 F f h x0 b x2) (WQ ρ c x0 v) := by
  have q0 : 0 ≤ sH h0 H 0 12 := sH_le (d := 0) pz 0 12 (by decide)
  have q1 : 0 ≤ sH h0 H 1 12 := sH_le (d := 1) pz 0 12 (by decide)
  intro f
  induction f with
  | zero => intros; omega
  | succ f ih =>
    intro h x2 T W hq a2 b2 u hf
    rw [sX15_writeAll_55]
    have cl2 := cRt_le R _ _ b2
    have ec := clamp_i a2
    have z0 : (0 : Int32).toInt = 0 := rfl
    refine s_br (fun l1 => ?_) (fun n1 => ?_)
    · refine s_say hF hA T r0 (by omega) (fun o T1 f1 a1 b1 => ?_)
      have W1 := wb_fr T rb f1 W
      unfold sX15_writeAll_106
      refine s_br (fun _ => ?_) (fun _ => ?_)
      · refine s_say hF hA T1 r0 (by omega) (fun o2 T2 f2 a2' b2' => ?_)
        exact wr_108 hF hA r0 rb hv pz F T2 (wb_fr T1 rb f2 W1) (by decide) (by rw [z0]; exact hn) (by rw [z0]; omega) (by rw [z0]; omega)
      · exact wr_108 hF hA r0 rb hv pz F T1 W1 (by decide) (by rw [z0]; exact hn) (by rw [z0]; omega) (by rw [z0]; omega)
    · have l2 := nle_i n1
      have i2 : Rg 0 63 x2 := ⟨a2, by omega⟩
      have lt : x2.toNatClampNeg + 1 ≤ s := by omega
      have c1 := cRt_le R _ _ lt
      have cs : cRt R (x2.toNatClampNeg + 1) = cRt R x2.toNatClampNeg + if bitJ R x2.toNatClampNeg then 1 else 0 := rfl
      have go : ∀ {o : Hp}, TH ρ c o → WB b H R np h0 o → (hI o x0 13).toInt ≤ (s : Int) → (hI o x0 3).toInt + 2 * ((cRt R s : Int) - cRt R (x2.toNatClampNeg + 1)) + 2 * np + sH h0 H 0 12 + sH h0 H 1 12 + 11 ≤ v → Sat (sX15_writeAll_81 F (sX15_writeAll_55 F f) o x0 b x2) (WQ ρ c x0 v) := fun {o} To Wo ho uo => by
        unfold sX15_writeAll_81
        refine s_q (fun y ey => ?_)
        have ey2 : y.toInt = x2.toInt + 1 := by rw [ey]; exact (nc_s i2 (by decide)).2
        have ey3 : y.toNatClampNeg = x2.toNatClampNeg + 1 := by have := clamp_i (v := y) (by omega); omega
        exact ih To Wo ho (by omega) (by omega) (by rw [ey3]; exact uo) (by omega)
      refine s_br (fun t => ?_) (fun _ => go T W hq (by split at cs <;> omega))
      have eb : bitJ R x2.toNatClampNeg = true := by
        have := bit_test i2 t
        rw [W.2.1] at this
        exact this
      rw [eb, if_pos rfl] at cs
      refine s_saySq hF hA T r0 i2 (by omega) (fun o T1 f1 a1 b1 => ?_)
      exact go T1 (wb_fr T rb f1 W) (by rw [(fr_RI f1 r0 (by decide) (fun _ => rfl)).1]; exact hq) (by omega)
/-- a board's text is not longer than its parts -/
theorem zX15_writeAll (hF : 700000 ≤ F) (hA : pmA c [(83, 999), (16, 3)]) (T : TH ρ c h) (r0 : ρ x0 = 16) (rb : ρ b = 13) (hv : v ≤ 256) (u0 : (hI h x0 3).toInt ≤ 180) (hs : s ≤ 64) (hq : (hI h x0 13).toInt ≤ (s : Int)) (eH : hR h b 5 = some H) (u : (hI h x0 3).toInt + 2 * (cRt (hJ h b 2) s : Int) + 2 * (hI h b 3).toInt + sH h H 0 12 + sH h H 1 12 + 87 ≤ v) : Sat (sX15_writeAll F h x0 b) (WQ ρ c x0 v) := by
  have rH : ρ H = 64 := rr T (thR T rb (i := 5) (k2 := 64) rfl (by decide)) eH
  have pz : ∀ j, 0 ≤ (hI h H j).toInt := fun j => (thI T rH (k := 64) (i := j) (lo := 0) (hi := 16) rfl).1
  have q0 : 0 ≤ sH h H 0 12 := sH_le (d := 0) pz 0 12 (by decide)
  have q1 : 0 ≤ sH h H 1 12 := sH_le (d := 1) pz 0 12 (by decide)
  have hn := (thI T rb (k := 13) (i := 3) (lo := 0) (hi := 64) rfl).1
  have W : WB b H (hJ h b 2) (hI h b 3).toInt h h := ⟨eH, rfl, rfl, fun _ => rfl⟩
  have z0 : (0 : Int32).toInt = 0 := rfl
  have zc : (0 : Int32).toNatClampNeg = 0 := rfl
  unfold sX15_writeAll
  refine s_cVfq (S := wrF) T (fs_sub hA fs_n) (zX15_writeMen hF fs_a rfl (th_in _ T) r0 rb u0) (fun o1 T1 f1 p1 => ?_)
  have W1 := wb_fr T rb f1 W
  have hq1 : (hI o1 x0 13).toInt ≤ (s : Int) := by rw [(fr_RI f1 r0 (by decide) (fun _ => rfl)).1]; exact hq
  have u1 := p1.2
  refine s_say hF hA T1 r0 (by omega) (fun o2 T2 f2 a2 b2 => ?_)
  have W2 := wb_fr T1 rb f2 W1
  have hq2 : (hI o2 x0 13).toInt ≤ (s : Int) := by rw [(fr_RI f2 r0 (by decide) (fun _ => rfl)).1]; exact hq1
  have go : ∀ t : Int32, Sat (sX15_writeAll_29 F o2 x0 b t x0) (WQ ρ c x0 v) := fun t => by
    unfold sX15_writeAll_29 sX15_writeAll_53
    refine s_say hF hA T2 r0 (by omega) (fun o3 T3 f3 a3 b3 => ?_)
    have W3 := wb_fr T2 rb f3 W2
    have hq3 : (hI o3 x0 13).toInt ≤ (s : Int) := by rw [(fr_RI f3 r0 (by decide) (fun _ => rfl)).1]; exact hq2
    refine s_say hF hA T3 r0 (by omega) (fun o4 T4 f4 a4 b4 => ?_)
    have W4 := wb_fr T3 rb f4 W3
    have hq4 : (hI o4 x0 13).toInt ≤ (s : Int) := by rw [(fr_RI f4 r0 (by decide) (fun _ => rfl)).1]; exact hq3
    refine s_br (fun _ => ?_) (fun _ => ?_)
    · refine s_say hF hA T4 r0 (by omega) (fun o5 T5 f5 a5 b5 => ?_)
      have W5 := wb_fr T4 rb f5 W4
      have hq5 : (hI o5 x0 13).toInt ≤ (s : Int) := by rw [(fr_RI f5 r0 (by decide) (fun _ => rfl)).1]; exact hq4
      exact wr_55 hF hA r0 rb hv pz hn hs F T5 W5 hq5 (by decide) (by rw [zc]; exact Nat.zero_le _) (by rw [zc]; show _ + 2 * (_ - (0 : Int)) + _ + _ + _ + _ ≤ v; omega) (by rw [z0]; omega)
    · exact wr_55 hF hA r0 rb hv pz hn hs F T4 W4 hq4 (by decide) (by rw [zc]; exact Nat.zero_le _) (by rw [zc]; show _ + 2 * (_ - (0 : Int)) + _ + _ + _ + _ ≤ v; omega) (by rw [z0]; omega)
  exact s_br (fun _ => go _) (fun _ => go _)
end
end
section
/-! the search backwards of the reference: a guess has nobody in hand -/
def HZ (x0 b : Nat) (h : Hp) : Prop := ∀ r H, hR h x0 4 = some r → hI h r 15 = 0 → hR h b 5 = some H → ∀ j : Nat, j < 24 → (hI h H j).toInt ≤ 0
section
variable {h g : Hp} {x0 b F : Nat} {o : Int32 × Hp}
theorem pos_no {v : Int32} {P : Prop} (e : some (v, g) = some o) (n : ¬ v ≤ 0) (le : o.1 ≤ 0) : P := by
  have := Option.some.inj e
  rw [← this] at le
  exact absurd le n
theorem wz_368 : ∀ (f : Nat) {x5 : Int32}, 0 ≤ x5.toInt → (∀ H, hR h b 5 = some H → ∀ j : Nat, (j : Int) < x5.toInt → (hI h H j).toInt ≤ 0) → sX15_wrongOf_368 F f h x0 b x5 = some o → o.1 ≤ 0 → HZ x0 b o.2 := by
  intro f
  induction f with
  | zero => intro x5 _ _ e _; exact absurd e (by rw [sX15_wrongOf_368]; simp)
  | succ f ih =>
    intro x5 a5 Z e le
    rw [sX15_wrongOf_368] at e
    unfold sX15_wrongOf_404 at e
    rcases br_s e with ⟨c1, e1⟩ | ⟨c1, e1⟩
    · have eo := Option.some.inj e1
      rw [← eo]
      have l24 : (24 : Int) ≤ x5.toInt := le_i c1
      exact fun r H _ _ eH j hj => Z H eH j (by omega)
    · obtain ⟨r, er, e2⟩ := cl_s e1
      rcases br_s e2 with ⟨c2, e3⟩ | ⟨c2, e3⟩
      · obtain ⟨H, eH, e4⟩ := cl_s e3
        obtain ⟨_, e5⟩ := gd_s e4
        rcases br_s e5 with ⟨c3, e6⟩ | ⟨_, e6⟩
        · obtain ⟨v, ev, e7⟩ := nm_s e6
          have l24 : x5.toInt < 24 := nle_i c1
          have ev2 : v.toInt = x5.toInt + 1 := by rw [ev]; exact (nc_s (⟨a5, by omega⟩ : Rg 0 24 x5) (by decide)).2
          refine ih (by omega) (fun H' eH' j hj => ?_) e7 le
          have hz := r_eq eH eH'
          subst hz
          by_cases q : (j : Int) < x5.toInt
          · exact Z H' eH' j q
          · have ej : j = x5.toNatClampNeg := by have := clamp_i a5; omega
            rw [ej]
            exact le_i c3
        · exact pos_no e6 (by decide) le
      · have eo := Option.some.inj e3
        rw [← eo]
        exact fun r' H er' z _ _ _ => absurd (by rw [r_eq er er'] at z; exact z) c2
theorem wz_336 (e : sX15_wrongOf_336 F h x0 b = some o) (le : o.1 ≤ 0) : HZ x0 b o.2 := by
  unfold sX15_wrongOf_336 sX15_wrongOf_365 at e
  have z0 : (0 : Int32).toInt = 0 := rfl
  have go : sX15_wrongOf_368 F F h x0 b (0 : Int32) = some o → HZ x0 b o.2 := fun e => wz_368 F (by decide) (fun H _ j hj => by rw [z0] at hj; omega) e le
  obtain ⟨r, _, e2⟩ := cl_s e
  rcases br_s e2 with ⟨_, e3⟩ | ⟨_, e3⟩
  · obtain ⟨_, _, e4⟩ := cl_s e3
    obtain ⟨_, e5⟩ := gd_s e4
    obtain ⟨_, _, e6⟩ := cl_s e5
    obtain ⟨_, e7⟩ := gd_s e6
    rcases br_s e7 with ⟨_, e8⟩ | ⟨_, e8⟩
    · exact go e8
    · exact pos_no e8 (by decide) le
  · exact go e3
theorem wz_300 (e : sX15_wrongOf_300 F h x0 b = some o) (le : o.1 ≤ 0) : HZ x0 b o.2 := by
  unfold sX15_wrongOf_300 at e
  obtain ⟨_, _, e2⟩ := cl_s e
  rcases br_s e2 with ⟨_, e3⟩ | ⟨_, e3⟩
  · exact wz_336 e3 le
  · obtain ⟨_, _, e4⟩ := cl_s e3
    rcases br_s e4 with ⟨_, e5⟩ | ⟨_, e5⟩
    · exact wz_336 e5 le
    · exact pos_no e5 (by decide) le
theorem wz_242 : ∀ (f : Nat) {h : Hp} {x4 : Int32}, sX15_wrongOf_242 F f h x0 b x4 = some o → o.1 ≤ 0 → HZ x0 b o.2 := by
  intro f
  induction f with
  | zero => intro h x4 e _; exact absurd e (by rw [sX15_wrongOf_242]; simp)
  | succ f ih =>
    intro h x4 e le
    rw [sX15_wrongOf_242] at e
    unfold sX15_wrongOf_277 at e
    rcases br_s e with ⟨_, e1⟩ | ⟨_, e1⟩
    · rcases br_s e1 with ⟨_, e2⟩ | ⟨_, e2⟩
      · exact wz_300 e2 le
      · obtain ⟨_, _, e3⟩ := cl_s e2
        rcases br_s e3 with ⟨_, e4⟩ | ⟨_, e4⟩
        · exact pos_no e4 (by decide) le
        · exact wz_300 e4 le
    · rcases br_s e1 with ⟨_, e2⟩ | ⟨_, e2⟩
      · obtain ⟨_, _, e3⟩ := cl_s e2
        rcases br_s e3 with ⟨_, e4⟩ | ⟨_, e4⟩
        · exact pos_no e4 (by decide) le
        · obtain ⟨_, _, e5⟩ := nm_s e4
          exact ih e5 le
      · obtain ⟨_, _, e3⟩ := nm_s e2
        exact ih e3 le
theorem wz_165 {x2 t0 : Int32} (e : sX15_wrongOf_165 F h x0 b x2 t0 = some o) (le : o.1 ≤ 0) : HZ x0 b o.2 := by
  unfold sX15_wrongOf_165 sX15_wrongOf_231 sX15_wrongOf_233 at e
  have go : br (x2 = 0) (sX15_wrongOf_242 F F h x0 b (0 : Int32)) (some ((3 : Int32), h)) = some o → HZ x0 b o.2 := fun e => by
    rcases br_s e with ⟨_, e1⟩ | ⟨_, e1⟩
    · exact wz_242 F e1 le
    · exact pos_no e1 (by decide) le
  obtain ⟨_, _, e1⟩ := cl_s e
  obtain ⟨_, e2⟩ := gd_s e1
  rcases br_s e2 with ⟨_, e3⟩ | ⟨_, e3⟩
  · exact pos_no e3 (by decide) le
  obtain ⟨_, _, e4⟩ := cl_s e3
  obtain ⟨_, e5⟩ := gd_s e4
  rcases br_s e5 with ⟨_, e6⟩ | ⟨_, e6⟩
  · exact pos_no e6 (by decide) le
  rcases br_s e6 with ⟨_, e7⟩ | ⟨_, e7⟩
  · obtain ⟨_, _, e8⟩ := cl_s e7
    rcases br_s e8 with ⟨_, e9⟩ | ⟨_, e9⟩
    · exact go e9
    obtain ⟨_, _, e10⟩ := cl_s e9
    rcases br_s e10 with ⟨_, e11⟩ | ⟨_, e11⟩
    · exact go e11
    obtain ⟨_, _, e12⟩ := cl_s e11
    obtain ⟨_, e13⟩ := gd_s e12
    rcases br_s e13 with ⟨_, e14⟩ | ⟨_, e14⟩
    · obtain ⟨_, _, e15⟩ := cl_s e14
      obtain ⟨_, e16⟩ := gd_s e15
      rcases br_s e16 with ⟨_, e17⟩ | ⟨_, e17⟩
      · exact go e17
      · exact pos_no e17 (by decide) le
    · exact pos_no e14 (by decide) le
  · exact pos_no e7 (by decide) le
theorem wz_18 : ∀ (f : Nat) {h : Hp} {x2 x3 : Int32}, sX15_wrongOf_18 F f h x0 b x2 x3 = some o → o.1 ≤ 0 → HZ x0 b o.2 := by
  intro f
  induction f with
  | zero => intro h x2 x3 e _; exact absurd e (by rw [sX15_wrongOf_18]; simp)
  | succ f ih =>
    intro h x2 x3 e le
    rw [sX15_wrongOf_18] at e
    unfold sX15_wrongOf_164 at e
    rcases br_s e with ⟨_, e1⟩ | ⟨_, e1⟩
    · obtain ⟨_, _, e2⟩ := cl_s e1
      rcases br_s e2 with ⟨_, e3⟩ | ⟨_, e3⟩
      · exact wz_165 e3 le
      obtain ⟨_, _, e4⟩ := cl_s e3
      obtain ⟨_, _, e5⟩ := cl_s e4
      obtain ⟨_, e6⟩ := gd_s e5
      obtain ⟨_, _, e7⟩ := cl_s e6
      obtain ⟨_, _, e8⟩ := cl_s e7
      obtain ⟨_, e9⟩ := gd_s e8
      rcases br_s e9 with ⟨_, e10⟩ | ⟨_, e10⟩
      · exact wz_165 e10 le
      · exact wz_165 e10 le
    · obtain ⟨_, _, e2⟩ := cl_s e1
      obtain ⟨_, e3⟩ := gd_s e2
      obtain ⟨v, _, e4⟩ := nm_s e3
      have end9 : ∀ {g : Hp} {y : Int32}, sX15_wrongOf_109 F (sX15_wrongOf_18 F f) g x0 b y x3 = some o → HZ x0 b o.2 := fun {g y} e => by
        unfold sX15_wrongOf_109 at e
        obtain ⟨_, _, e5⟩ := nm_s e
        exact ih e5 le
      have end7 : ∀ {g : Hp} {t0 t1 : Int32}, sX15_wrongOf_107 F (sX15_wrongOf_18 F f) g x0 b x3 t0 t1 = some o → HZ x0 b o.2 := fun {g t0 t1} e => by
        unfold sX15_wrongOf_107 at e
        obtain ⟨_, _, e5⟩ := nm_s e
        exact end9 e5
      have end70 : ∀ {g : Hp} {t0 t1 t2 : Int32} {t3 : Nat}, sX15_wrongOf_70 F (sX15_wrongOf_18 F f) g x0 b x2 x3 v t0 t1 t2 t3 = some o → HZ x0 b o.2 := fun {g t0 t1 t2 t3} e => by
        unfold sX15_wrongOf_70 sX15_wrongOf_106 at e
        obtain ⟨_, e5⟩ := gd_s e
        obtain ⟨_, _, e6⟩ := nm_s e5
        obtain ⟨_, _, e7⟩ := cl_s e6
        obtain ⟨_, _, e8⟩ := cl_s e7
        rcases br_s e8 with ⟨_, e9⟩ | ⟨_, e9⟩
        · exact end7 e9
        obtain ⟨_, _, e10⟩ := cl_s e9
        obtain ⟨_, _, e11⟩ := cl_s e10
        rcases br_s e11 with ⟨_, e12⟩ | ⟨_, e12⟩
        · exact end7 e12
        · exact end7 e12
      rcases br_s e4 with ⟨_, e5⟩ | ⟨_, e5⟩
      · exact end9 e5
      obtain ⟨_, _, e6⟩ := cl_s e5
      obtain ⟨_, _, e7⟩ := cl_s e6
      obtain ⟨_, e8⟩ := gd_s e7
      obtain ⟨_, _, e9⟩ := cl_s e8
      obtain ⟨_, _, e10⟩ := cl_s e9
      rcases br_s e10 with ⟨_, e11⟩ | ⟨_, e11⟩
      · exact end70 e11
      · exact end70 e11
/-- where nothing is wrong with a board, and men are not dropped, nobody is in hand -/
theorem wrong_hz (e : sX15_wrongOf F h x0 b = some o) (le : o.1 ≤ 0) : HZ x0 b o.2 := by
  unfold sX15_wrongOf at e
  obtain ⟨_, _, e1⟩ := cl_s e
  obtain ⟨_, e2⟩ := gd_s e1
  obtain ⟨_, _, e3⟩ := nm_s e2
  obtain ⟨_, _, e4⟩ := cl_s e3
  obtain ⟨_, e5⟩ := gd_s e4
  obtain ⟨_, _, e6⟩ := nm_s e5
  exact wz_18 F e6 le
end
section
variable {ρ : Nat → Nat} {c : Cm} {h o : Hp} {S : Nat → Nat → Nat → Bool} {x0 b w F : Nat} {x1 : Int32}
theorem hz_fr (T : TH ρ c h) (r0 : ρ x0 = 16) (rb : ρ b = 13) (ew : cw c b = w) (f : Fr ρ (cat c S h) h o) (s4 : ∀ w, S 16 w 4 = false) (s15 : ∀ w, S 15 w 15 = false) (s5 : S 13 w 5 = false) (s64 : ∀ i, S 64 w i = false) : HZ x0 b h ↔ HZ x0 b o := by
  have a1 := (fr_RI f r0 (by decide) s4 : hI o x0 4 = _ ∧ _).2.2
  have a2 := fr_R f rb (by decide) ew s5
  have a3 : ∀ r, hR h x0 4 = some r → hI o r 15 = hI h r 15 := fun r er => (fr_RI f (rr T (thR T r0 (i := 4) (k2 := 15) rfl (by decide)) er) (by decide) s15).1
  have a4 : ∀ H j, hR h b 5 = some H → hI o H j = hI h H j := fun H j eH => fr_I f (rr T (thR T rb (i := 5) (k2 := 64) rfl (by decide)) eH) (by decide) (th_ih T rb (k := 13) rfl eH ew) (s64 j)
  constructor
  · intro P r H e1 e2 e3 j hj
    rw [a1] at e1
    rw [a2] at e3
    rw [a3 r e1] at e2
    rw [a4 H j e3]
    exact P r H e1 e2 e3 j hj
  · intro P r H e1 e2 e3 j hj
    rw [← a4 H j e3]
    exact P r H (by rw [a1]; exact e1) (by rw [a3 r e1]; exact e2) (by rw [a2]; exact e3) j hj
/-- a guess that leads somewhere has nobody in hand -/
theorem leads_hz {o : Int32 × Hp} (hF : 700000 ≤ F) (T : TH ρ c h) (r0 : ρ x0 = 16) (e : sX15_leadsTo F h x0 b = some o) (n : ¬ o.1 = 0) : ∀ g, hR h x0 45 = some g → HZ x0 g h := by
  intro g eg
  unfold sX15_leadsTo at e
  obtain ⟨g', eg', e1⟩ := cl_s e
  have hz := r_eq eg eg'
  subst hz
  obtain ⟨q, eq, e2⟩ := cl_s e1
  have rg : ρ g' = 13 := rr T (thR T r0 (i := 45) (k2 := 13) rfl (by decide)) eg
  have wg : cw c g' = 2545 := kid_w T r0 (i := 45) rfl (by decide) eg
  obtain ⟨q', eq', p⟩ := zX15_wrongOf (c := cat c (fS [(86, 999), (16, 23), (16, 24)] []) h) hF fs_a rfl (th_in _ T) r0 rg
  rw [eq] at eq'
  have hz := Option.some.inj eq'
  subst hz
  have f := fr_u T p.1.1.2.2
  rcases br_s e2 with ⟨le, _⟩ | ⟨_, e3⟩
  · exact (hz_fr T r0 rg wg f (fun _ => rfl) (fun _ => rfl) rfl (fun _ => rfl)).mpr (wrong_hz eq le)
  · have := Option.some.inj e3
    rw [← this] at n
    exact absurd rfl n
end
end
