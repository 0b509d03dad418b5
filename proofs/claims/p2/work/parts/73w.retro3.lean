/-- men that stand on squares that are told -/
def BP (ρ : Nat → Nat) (c : Cm) (b : Nat) (x : Int64) (h : Hp) : Prop := ∀ on s, hR h b 0 = some on → s < 64 → bitJ x s = true → 0 ≤ (hI h on s).toInt ∧ SqN (c.2.1 50) s
/-- ways, wherever they lie, come from squares that are told -/
def FmM (ρ : Nat → Nat) (c : Cm) (h : Hp) : Prop := ∀ W, ρ W = 11 → FmT (c.2.1 50) W h
/-- the men of what was found tell no royal man that the law has not -/
def ReP (ρ : Nat → Nat) (c : Cm) (x0 : Nat) (h : Hp) : Prop := ∀ rt b, hR h x0 9 = some rt → hR h rt 3 = some b → 0 < (hI h rt 6).toInt → RyP ρ c b h
section
variable {ρ : Nat → Nat} {c : Cm} {h o : Hp} {E : Nat → Nat → Bool} {wp : Nat → Bool} {x0 x1 b b3 W w i F : Nat} {x : Int64}
theorem bp_sz (n : niceC E) (n34 : ∀ i, E 34 i = false) (hb : wp w = false) (T : TH ρ c h) (rb : ρ b = 4) (wb : cw c b = w) (f : Fr ρ (cat c (SZ E wp) h) h o) (P : BP ρ c b x h) : BP ρ c b x o := fun on s eo hs hx => by
  rw [(f.1 b 0 (by rw [rb]; decide) (by rw [rb]; exact sz_f (n.1 _ _ (by omega)) rfl (Or.inl rfl))).2.2] at eo
  have ro : ρ on = 34 := rr T (thR T rb (i := 0) (k2 := 34) rfl (by decide)) eo
  have wo : cw c on = w := th_ih T rb rfl eo wb
  rw [fr_I f ro (by decide) wo (sz_f (n34 _) rfl (Or.inr hb))]
  exact P on s eo hs hx
theorem find_in {K : Hp → Nat → Int64 → Int32 → Option (Int32 × Hp)} {x2 : Int64} {x4 x5 x6 : Int32} (hF : 700000 ≤ F) (hp : ∀ k w i, SZ rE rW k w i = true → cPm c k w i = true) (r0 : ρ x0 = 7) (i5 : Rg 0 63 x5) (q5 : SqB (c.2.1 50) x5) (i6 : Rg 0 11 x6) (i4 : Rg 0 63 x4) (Bx : Hp → Prop) (kB : ∀ {g g' : Hp}, TH ρ c g → RI ρ c x0 W b3 g → Fr ρ (cat c (SZ rE rW) g) g g' → Bx g → Bx g') (R : ∀ {h : Hp} {v : Int32}, TH ρ c h → RI ρ c x0 W b3 h → Bx h → v.toInt = x4.toInt + 1 → Sat (K h x0 x2 v) (fun o => TH ρ c o.2 ∧ RI ρ c x0 W b3 o.2)) : ∀ (f : Nat) {h : Hp} {x7 : Int32}, TH ρ c h → RI ρ c x0 W b3 h → Bx h → 0 ≤ x7.toInt → (12 - x7.toInt).toNat < f → Sat (sX6_find_166 F K f h x0 x2 x4 x5 x6 x7) (fun o => TH ρ c o.2 ∧ RI ρ c x0 W b3 o.2) := by
  intro f
  induction f with
  | zero => intros; omega
  | succ f ih =>
    intro h x7 T I B a7 hf
    rw [sX6_find_166]
    unfold sX6_find_225 sX6_find_219
    have up : Sat (nm (x4 + (1 : Int32)) fun v_1 => K h x0 x2 v_1) (fun o => TH ρ c o.2 ∧ RI ρ c x0 W b3 o.2) := s_q (fun v ev => R T I B (by rw [ev]; exact (nc_s i4 (by decide)).2))
    obtain ⟨L, eL, rL⟩ := thR T r0 (i := 0) (k2 := 2) rfl (by decide)
    have mL := thI T rL (k := 2) (i := 3) (lo := 0) (hi := 12) rfl
    refine s_ref eL ?_
    refine s_br (fun _ => up) (fun n1 => ?_)
    have l7 := nle_i n1
    have i7 : Rg 0 11 x7 := ⟨a7, by have := mL.2; omega⟩
    refine s_ref eL ?_
    refine s_ref I.1 ?_
    have rb : ρ b3 = 4 := rr T (thR T r0 (i := 3) (k2 := 4) rfl (by decide)) I.1
    refine s_cI0 (zX1_isLast hF T rL i5 (thI T rb (k := 4) (i := 5) (lo := 0) (hi := 1) rfl)) (fun o5 q5' _ => ?_)
    rw [q5']
    refine s_br (fun _ => up) (fun _ => ?_)
    refine s_ref eL ?_
    refine s_cI0 (zX1_becomesThis hF T rL i7 (rg_m i6 (by decide))) (fun o8 q8 _ => ?_)
    rw [q8]
    have ev : ∀ v : Int32, v = x7 + (1 : Int32) → v.toInt = x7.toInt + 1 := fun v e => by rw [e]; exact (nc_s i7 (by decide)).2
    refine s_br (fun _ => s_q (fun v e => ih T I B (by rw [ev v e]; omega) (by rw [ev v e]; have := i7.2; omega))) (fun _ => ?_)
    obtain ⟨o10, e10, T10', I10⟩ := zX6_takeBack (c := cat c (SZ rE rW) h) hF (sx_c _) (th_in _ T) r0 i5 q5 i7 I
    refine s_val e10 ?_
    have T10 := th_out T hp T10'
    have B10 := kB T I (fr_u T T10'.2.2) B
    exact s_q (fun v e => ih T10 I10 B10 (by rw [ev v e]; omega) (by rw [ev v e]; have := i7.2; omega))
theorem find_out (hF : 700000 ≤ F) (hp : ∀ k w i, SZ rE rW k w i = true → cPm c k w i = true) (r0 : ρ x0 = 7) : ∀ (f : Nat) {h : Hp} {x2 : Int64} {x4 : Int32}, TH ρ c h → RI ρ c x0 W b3 h → BP ρ c b3 x2 h → 0 ≤ x4.toInt → (64 - x4.toInt).toNat < f → Sat (sX6_find_109 F f h x0 x2 x4) (fun o => TH ρ c o.2 ∧ RI ρ c x0 W b3 o.2) := by
  intro f
  induction f with
  | zero => intros; omega
  | succ f ih =>
    intro h x2 x4 T I B a4 hf
    rw [sX6_find_109]
    have fin : Sat (sX6_find_231 F h x0) (fun o => TH ρ c o.2 ∧ RI ρ c x0 W b3 o.2) := by
      unfold sX6_find_231 sX6_find_243 sX6_find_255
      have e2 : ∀ {g : Hp}, TH ρ c g → RI ρ c x0 W b3 g → Sat (br ((hI g x0 7) = 0) (gd ((1 : Int32) &&& 1 = 1) (some ((1 : Int32), g))) (gd ((0 : Int32) &&& 1 = 0) (some ((0 : Int32), g)))) (fun o => TH ρ c o.2 ∧ RI ρ c x0 W b3 o.2) := fun Tg Ig => s_br (fun _ => s_gd (by decide) (s_some ⟨Tg, Ig⟩)) (fun _ => s_gd (by decide) (s_some ⟨Tg, Ig⟩))
      refine s_br (fun _ => e2 T I) (fun _ => ?_)
      refine s_hq (th_wI T r0 (k := 7) (i := 6) (lo := 0) (hi := 3000) rfl (rg_b rfl) (by decide) (by decide) (szE hp rfl _)) (fun g Tg eg => ?_)
      have fg : Fr ρ (cat c (SZ rE no) h) h g := by
        rw [eg]
        exact fu_wI ⟨fun _ _ _ _ => ⟨rfl, rfl, rfl⟩, fun _ _ => rfl⟩ r0 (by show SZ rE no 7 (cw c x0) 6 = true; rfl)
      exact e2 Tg (ri_sz niceC_r rfl rfl rfl (fun _ => rfl) rfl T r0 fg I)
    refine s_br (fun _ => fin) (fun n1 => ?_)
    refine s_br (fun _ => fin) (fun n2 => ?_)
    refine s_br (fun _ => ?_) (fun _ => fin)
    have l4 : x4.toInt < 64 := nle_i n1
    have i4 : Rg 0 63 x4 := ⟨a4, by omega⟩
    refine s_dI0 (zX11_lowest hF T) (fun o4 e4 q4 j4 => ?_)
    rw [q4]
    refine s_q (fun v5 e5 => ?_)
    refine s_ref I.1 ?_
    have rb : ρ b3 = 4 := rr T (thR T r0 (i := 3) (k2 := 4) rfl (by decide)) I.1
    have wb : cw c b3 = 1603 := th_id T r0 (w := 1603) I.1 rfl (by decide)
    obtain ⟨on, eo, ro⟩ := thR T rb (i := 0) (k2 := 34) rfl (by decide)
    refine s_ref eo ?_
    refine s_gd (by rw [thN T ro (k := 34) (n := 64) rfl (by decide)]; exact rg_inB j4 (by decide)) ?_
    have l64 : o4.1.toNatClampNeg < 64 := by have := rg_clamp (n := 63) j4 (by decide); omega
    obtain ⟨p0, pt⟩ := B on _ eo l64 (low_in e4 n2)
    have qt : SqB (c.2.1 50) o4.1 := sq_n pt (by have := nc_i j4.1; omega)
    have p23 := thI T ro (k := 34) (i := o4.1.toNatClampNeg) (lo := -2) (hi := 23) rfl
    refine s_q (fun v9 e9 => ?_)
    have i9 : Rg 0 11 v9 := by
      rw [e9]
      have := ti_shr1 (x := hI h on o4.1.toNatClampNeg)
      have := p23.2
      exact ⟨by omega, by omega⟩
    obtain ⟨o10, e10, T10', I10⟩ := zX6_takeBack (c := cat c (SZ rE rW) h) hF (sx_c _) (th_in _ T) r0 j4 qt i9 I
    refine s_val e10 ?_
    have T10 := th_out T hp T10'
    have f10 := fr_u T T10'.2.2
    have sub : ∀ s, bitJ v5 s = true → bitJ x2 s = true := fun s hs => by rw [e5, bj_and, Bool.and_eq_true] at hs; exact hs.1
    have B5 : BP ρ c b3 v5 h := fun on s eo hs hx => B on s eo hs (sub s hx)
    have B10 := bp_sz niceC_r (fun _ => rfl) rfl T rb wb f10 B5
    exact find_in hF hp r0 j4 qt i9 i4 (BP ρ c b3 v5) (fun {g g'} Tg Ig fg Bg => bp_sz niceC_r (fun _ => rfl) rfl Tg (rr Tg (thR Tg r0 (i := 3) (k2 := 4) rfl (by decide)) Ig.1) (th_id Tg r0 (w := 1603) Ig.1 rfl (by decide)) fg Bg) (fun Tg Ig Bg ev => ih Tg Ig Bg (by omega) (by omega)) F T10 I10 B10 (by decide) (by show (12 - (0 : Int)).toNat < F; omega)
def fW : Nat → Bool := fun w => w == 1503 || w == 1604 || w == 1603
theorem zX6_find (hF : 700000 ≤ F) (hp : ∀ k w i, SZ rE fW k w i = true → cPm c k w i = true) (T : TH ρ c h) (r0 : ρ x0 = 7) (r1 : ρ x1 = 4) (n1 : ¬ cw c x1 = 1603) (lw : LwR ρ c h) (fm : FmM ρ c h) (P : RyP ρ c x1 h) : Sat (sX6_find F h x0 x1) (fun o => TH ρ c o.2 ∧ ∃ b, hR o.2 x0 3 = some b ∧ RyP ρ c b o.2) := by
  unfold sX6_find
  have hp0 : ∀ k w i, SZ rE rW k w i = true → cPm c k w i = true := fun k w i m => hp k w i (sz_sub (fun _ _ z => z) (fun w z => by unfold rW at z; unfold fW; rw [z]; rfl) m)
  have f7 : ∀ {g o : Hp} {j : Nat} {v : Int32}, (j = 6 ∨ j = 7) → o = wI g x0 j v → Fr ρ (cat c (SZ rE no) g) g o := fun hj e => by
    rw [e]
    exact fu_wI ⟨fun _ _ _ _ => ⟨rfl, rfl, rfl⟩, fun _ _ => rfl⟩ r0 (by rcases hj with z | z <;> (rw [z]; rfl))
  refine s_hq (th_wI T r0 (k := 7) (i := 6) (lo := 0) (hi := 3000) rfl (rg_b rfl) (by decide) (by decide) (szE hp rfl _)) (fun g1 T1 e1 => ?_)
  have f1 := f7 (Or.inl rfl) e1
  refine s_hq (th_wI T1 r0 (k := 7) (i := 7) (lo := 0) (hi := 1) rfl (rg_b rfl) (by decide) (by decide) (szE hp rfl _)) (fun g2 T2 e2 => ?_)
  have f2 := f7 (Or.inr rfl) e2
  have lw2 := lw_sz niceC_r T1 f2 (lw_sz niceC_r T f1 lw)
  have P2 := ry_sz niceC_r T1 r1 rfl rfl f2 (ry_sz niceC_r T r1 rfl rfl f1 P)
  obtain ⟨W, eW, rW'⟩ := thR T r0 (i := 1) (k2 := 11) rfl (by decide)
  have fm2 : FmT (c.2.1 50) W g2 := fm_fr T1 rW' f2 (fun _ => sz_f rfl rfl (Or.inl rfl)) (fun _ _ => sz_f rfl rfl (Or.inl rfl)) (fm_fr T rW' f1 (fun _ => sz_f rfl rfl (Or.inl rfl)) (fun _ _ => sz_f rfl rfl (Or.inl rfl)) (fm W rW'))
  obtain ⟨b3, e3, rb⟩ := thR T2 r0 (i := 3) (k2 := 4) rfl (by decide)
  have wb : cw c b3 = 1603 := th_id T2 r0 (w := 1603) e3 rfl (by decide)
  have nb : ¬ x1 = b3 := fun z => n1 (by rw [z]; exact wb)
  refine s_ref e3 ?_
  have hs : ∀ k w i, SZ noE (is 1603) k w i = true → cPm c k w i = true := fun k w i m => hp k w i (sz_sub (fun _ _ z => noE_f z) (fun w z => by rw [is_e z]; rfl) m)
  refine s_cVfq T2 hs (s_weq (zX3_copyFrom hF (by show pmO _ (cw c b3) _; rw [wb]; exact pmO_s (szP (sx_c _) is_s) rfl) (th_in _ T2) rb r1)) (fun o4 T4 f4 q4 => ?_)
  have P4 := ry_copy T2 rb r1 q4 P2
  have lw4 := lw_sz niceC_0 T2 f4 lw2
  have fm4 := fm_fr T2 rW' f4 (fun _ => sz_f rfl rfl (Or.inl rfl)) (fun _ _ => sz_f rfl rfl (Or.inl rfl)) fm2
  have e34 : hR o4 x0 3 = some b3 := by rw [(fr_RI f4 r0 (by decide) (fun _ => sz_f rfl rfl (Or.inl rfl))).2.2]; exact e3
  refine s_ref e34 ?_
  -- strip
  obtain ⟨o6, e6, T6', _⟩ := zX3_strip (c := cat c (fS [] [(1603, [(37, 999), (38, 999), (4, 6), (4, 8), (4, 9), (4, 10)])]) o4) hF (by rw [show cw (cat c (fS [] [(1603, [(37, 999), (38, 999), (4, 6), (4, 8), (4, 9), (4, 10)])]) o4) b3 = 1603 from wb]; exact fs_o (.head _)) (th_in _ T4) rb
  refine s_val e6 ?_
  have pm3 : pmO c 1603 ppL := szP hp rfl
  have T6 := th_out T4 (fs_sub pmA_n (fs_c (pmO_s pm3 rfl) fs_n)) T6'
  have f6 := fr_u T4 T6'.2.2
  have J6 := st9 T4 rb e6
  have P6 : RyP ρ c b3 o6 := ry_fr T4 rb f6 rfl (fun _ => rfl) (fun _ => rfl) P4
  have lw6 : LwR ρ c o6 := lw_fr T4 f6 (fun _ => rfl) (fun _ => rfl) (fun _ => rfl) lw4
  have fm6 := fm_fr T4 rW' f6 (fun _ => rfl) (fun _ _ => rfl) fm4
  have R6 : ∀ j, hR o6 x0 j = hR o4 x0 j := fun j => (fr_RI f6 r0 (by decide) (fun _ => rfl)).2.2
  have e36 : hR o6 x0 3 = some b3 := by rw [R6]; exact e34
  refine s_ref e36 ?_
  refine s_hq (th_wI T6 rb (k := 4) (i := 5) (lo := 0) (hi := 1) rfl (rg_sub (rg_b rfl : Rg 1 1 (1 : Int32)) (thI T6 r1 (k := 4) (i := 5) (lo := 0) (hi := 1) rfl) (by decide)) (by decide) (by decide) (by rw [wb]; exact pm3 4 5 rfl)) (fun g8 T8 e8 => ?_)
  have f8 := fr1I (c := c) (A := [(4, 5)]) (k := 4) (i := 5) rb rfl e8
  have P8 : RyP ρ c b3 g8 := ry_fr T6 rb f8 rfl (fun _ => rfl) (fun _ => rfl) P6
  have lw8 : LwR ρ c g8 := lw_fr T6 f8 (fun _ => rfl) (fun _ => rfl) (fun _ => rfl) lw6
  have fm8 := fm_fr T6 rW' f8 (fun _ => rfl) (fun _ _ => rfl) fm6
  have e38 : hR g8 x0 3 = some b3 := by rw [e8]; exact e36
  have eW8 : hR g8 x0 1 = some W := by
    rw [e8]
    show hR o6 x0 1 = some W
    rw [R6, (fr_RI f4 r0 (by decide) (fun _ => sz_f rfl rfl (Or.inl rfl))).2.2, e2]
    show hR g1 x0 1 = some W
    rw [e1]; exact eW
  have I8 : RI ρ c x0 W b3 g8 := ⟨e38, P8, by rw [e8]; exact J6, eW8, fm8, lw8⟩
  obtain ⟨rf, erf, qrf⟩ := thR T8 r0 (i := 2) (k2 := 6) rfl (by decide)
  refine s_ref erf ?_
  refine s_ref e38 ?_
  refine s_ref e38 ?_
  have done : Sat (some ((1 : Int32), g8)) (fun o => TH ρ c o.2 ∧ ∃ b, hR o.2 x0 3 = some b ∧ RyP ρ c b o.2) := s_some ⟨T8, b3, e38, P8⟩
  have go : Sat (sX6_find_90 F g8 x0) (fun o => TH ρ c o.2 ∧ ∃ b, hR o.2 x0 3 = some b ∧ RyP ρ c b o.2) := by
    unfold sX6_find_90
    refine s_ref e38 ?_
    obtain ⟨of, eof, rof⟩ := thR T8 rb (i := 1) (k2 := 35) rfl (by decide)
    refine s_ref eof ?_
    refine s_ref e38 ?_
    have is5 := thI T8 rb (k := 4) (i := 5) (lo := 0) (hi := 1) rfl
    refine s_gd (by rw [thN T8 rof (k := 35) (n := 2) rfl (by decide)]; exact rg_inB is5 (by decide)) ?_
    refine s_q (fun v ev => ?_)
    have l2 : (hI g8 b3 5).toNatClampNeg < 2 := by have := rg_clamp (n := 1) is5 (by decide); omega
    have B8 : BP ρ c b3 v g8 := fun on s eo hs hx => by
      rw [ev] at hx
      have q := T8.1.2.2.2.2.2.2.1.2 b3 on of rb eo eof s hs _ l2 hx
      exact ⟨q.1, q.2.2⟩
    exact s_imp (find_out hF hp0 r0 F T8 I8 B8 (by decide) (by show (64 - (0 : Int)).toNat < F; omega)) (fun o ho => ⟨ho.1, b3, ho.2.1, ho.2.2.1⟩)
  refine s_cI0 (zX5_isRoyalHit hF T8 qrf rb (thI T8 rb (k := 4) (i := 5) (lo := 0) (hi := 1) rfl)) (fun o12 q12 _ => ?_)
  rw [q12]
  unfold sX6_find_88
  refine s_br (fun _ => ?_) (fun _ => done)
  obtain ⟨L, eL, rL⟩ := thR T8 r0 (i := 0) (k2 := 2) rfl (by decide)
  refine s_ref eL ?_
  refine s_cI0 (zX1_has hF T8 rL (rg_b rfl)) (fun o15 q15 _ => ?_)
  rw [q15]
  refine s_br (fun _ => go) (fun _ => ?_)
  refine s_ref erf ?_
  refine s_ref e38 ?_
  refine s_cI0 (zX5_isRoyalHit hF T8 qrf rb (thI T8 r1 (k := 4) (i := 5) (lo := 0) (hi := 1) rfl)) (fun o19 q19 _ => ?_)
  rw [q19]
  exact s_br (fun _ => go) (fun _ => done)
theorem zX11_before {y1 : Int32} (hF : 700000 ≤ F) (hp : ∀ k w i, SZ rE fW k w i = true → cPm c k w i = true) (T : TH ρ c h) (r0 : ρ x0 = 12) (lw : LwR ρ c h) (pl : PlP ρ c x0 h) (fm : FmM ρ c h) (re : ReP ρ c x0 h) : Sat (sX11_before F h x0 y1) (fun o => TH ρ c o.2 ∧ ReP ρ c x0 o.2) := by
  unfold sX11_before sX11_before_52
  refine s_dP0 (zX11_isPlace hF T r0 (rg_top _)) (fun o2 eb2 e2 ii2 pp2 => ?_)
  rw [e2]
  refine s_br (fun _ => s_some ⟨T, re⟩) (fun nz2 => ?_)
  have ip := pp2 nz2
  have l60 : y1.toNatClampNeg < 60 := by have := rg_clamp (n := 59) ip (by decide); omega
  obtain ⟨b, B⟩ := pc_of T r0 (hr_of T r0 pl eb2 nz2)
  obtain ⟨L, eL, rL⟩ := thR T r0 (i := 2) (k2 := 2) rfl (by decide)
  refine s_ref eL ?_
  refine s_cI0 (zX1_isPlain hF T rL) (fun o4 e4 _ => ?_)
  rw [e4]
  refine s_br (fun _ => s_some ⟨T, re⟩) (fun _ => ?_)
  obtain ⟨rt, ert, rrt⟩ := thR T r0 (i := 9) (k2 := 7) rfl (by decide)
  refine s_ref ert ?_
  refine s_pc T r0 ip B ?_
  obtain ⟨kb, wb'⟩ := pc_r T r0 l60 B
  have PB : RyP ρ c b h := by obtain ⟨_, _, _, q⟩ := B; exact q
  obtain ⟨o10, e10, T10', b3, e3, P3⟩ := zX6_find (c := cat c (SZ rE fW) h) hF (sx_c _) (th_in _ T) rrt kb (by show ¬ cw c b = 1603; rw [wb']; decide) lw fm PB
  refine s_val e10 ?_
  have T10 := th_out T hp T10'
  have f10 := fr_u T T10'.2.2
  have ert10 : hR o10.2 x0 9 = some rt := by rw [x12 r0 f10 rfl]; exact ert
  have re10 : ReP ρ c x0 o10.2 := fun rt' b' e7 eb' _ => by
    have : rt' = rt := r_eq ert10 e7
    subst this
    rw [r_eq e3 eb']; exact P3
  refine s_br (fun _ => s_some ⟨T10, re10⟩) (fun _ => ?_)
  exact s_ref ert10 (s_some ⟨T10, re10⟩)
/-- a place of those found is filled -/
theorem zX11_beforeAtP {y1 : Int32} (hF : 700000 ≤ F) (hp : ∀ k w i, SZ e58 (is 3200) k w i = true → cPm c k w i = true) (T : TH ρ c h) (r0 : ρ x0 = 12) (pl : PlP ρ c x0 h) (re : ReP ρ c x0 h) : Sat (sX11_beforeAt F h x0 y1) (fun o => TH ρ c o.2 ∧ PlP ρ c x0 o.2) := by
  unfold sX11_beforeAt sX11_beforeAt_15
  refine s_br (fun _ => s_some ⟨T, pl⟩) (fun n1 => ?_)
  obtain ⟨rt, ert, rrt⟩ := thR T r0 (i := 9) (k2 := 7) rfl (by decide)
  refine s_ref ert ?_
  refine s_br (fun n2 => ?_) (fun _ => s_some ⟨T, pl⟩)
  have a1 : 0 ≤ y1.toInt := nlt_i n1
  have l1 := lt_i n2
  have c6 := thI T rrt (k := 7) (i := 6) (lo := 0) (hi := 3000) rfl
  refine s_cI0 (zX11_freePlace hF T r0) (fun o4 e4 j4 => ?_)
  rw [e4]
  refine s_br (fun _ => s_some ⟨T, pl⟩) (fun n4 => ?_)
  have ip : Rg 0 59 o4.1 := rg_nlo n4 j4 (rg_b rfl : Rg (-1) (-1) (-1 : Int32))
  have l60 : o4.1.toNatClampNeg < 60 := by have := rg_clamp (n := 59) ip (by decide); omega
  obtain ⟨u, eu, ru⟩ := thR T r0 (i := 14) (k2 := 58) rfl (by decide)
  refine s_ref eu ?_
  refine s_gd (by rw [thN T ru (k := 58) (n := 60) rfl (by decide)]; exact rg_inB ip (by decide)) ?_
  refine s_hq (th_wI T ru (k := 58) (lo := 0) (hi := 1) rfl (rg_narz _) (by decide) (by decide) (szE hp rfl _)) (fun h8 T8 e8 => ?_)
  have f8 : Fr ρ (cat c (SZ e58 no) h) h h8 := by
    rw [e8]
    exact fu_wI ⟨fun _ _ _ _ => ⟨rfl, rfl, rfl⟩, fun _ _ => rfl⟩ ru (by show SZ e58 no 58 (cw c u) o4.1.toNatClampNeg = true; rfl)
  have ry8 : ∀ {b : Nat}, ρ b = 4 → RyP ρ c b h → RyP ρ c b h8 := fun {b} rb P => ry_sz niceC_58 T rb rfl rfl f8 P
  have ert8 : hR h8 x0 9 = some rt := by rw [e8]; exact ert
  refine s_ref ert8 ?_
  obtain ⟨r, er, rr'⟩ := thR T8 r0 (i := 13) (k2 := 57) rfl (by decide)
  refine s_ref er ?_
  refine s_gd (by rw [thN T8 rr' (k := 57) (n := 60) rfl (by decide)]; exact rg_inB ip (by decide)) ?_
  have hk : rfK 57 o4.1.toNatClampNeg = 4 := if_pos l60
  obtain ⟨q, eq, rq⟩ := thR T8 rr' (i := o4.1.toNatClampNeg) (k2 := 4) hk (by decide)
  refine s_ref eq ?_
  have wq : cw c q = 3200 := th_id T8 rr' (w := 3200) eq rfl (by decide)
  unfold sX6_fillIn sX6_fillIn_23
  have h6 : hI h8 rt 6 = hI h rt 6 := by rw [e8, r_I, if_neg (ne_r rrt ru (by decide))]
  have fin : ∀ {g : Hp}, TH ρ c g → RyP ρ c q g → (∀ b, ρ b = 4 → ¬ b = q → RyP ρ c b h8 → RyP ρ c b g) → (∀ a i, hR g a i = hR h8 a i) → (∀ i, hI g u i = hI h8 u i) → PlP ρ c x0 g := fun {g} Tg A oth R U => fun r' u' er' eu' i hi n b eb => by
    rw [R, er] at er'
    rw [R, e8] at eu'
    replace eu' : hR h x0 14 = some u' := eu'
    rw [eu] at eu'
    have z1 := Option.some.inj er'
    have z2 := Option.some.inj eu'
    subst z1
    subst z2
    rw [R] at eb
    have hk2 : rfK 57 i = 4 := if_pos hi
    have rb : ρ b = 4 := rr T8 (thR T8 rr' (i := i) (k2 := 4) hk2 (by decide)) eb
    by_cases w : b = q
    · rw [w]; exact A
    · refine oth b rb w (ry8 rb ?_)
      by_cases v : i = o4.1.toNatClampNeg
      · rw [v, eq] at eb
        exact absurd (Option.some.inj eb).symm w
      · have n' : ¬ hI h u i = 0 := fun z => n (by
          rw [U, e8, r_I, if_neg (fun y => v y.2)]
          exact z)
        rw [e8] at er eb
        exact pl r u er eu i hi n' b eb
  refine s_cl ?_
  refine s_br (fun z => absurd z n1) (fun _ => ?_)
  refine s_br (fun z => absurd (le_i z) (by rw [h6]; omega)) (fun _ => ?_)
  obtain ⟨fo, efo, rfo⟩ := thR T8 rrt (i := 5) (k2 := 48) rfl (by decide)
  refine s_ref efo ?_
  have iy : Rg 0 2999 y1 := ⟨a1, by have := c6.2; omega⟩
  refine s_gd (by rw [thN T8 rfo (k := 48) (n := 3000) rfl (by decide)]; exact rg_inB iy (by decide)) ?_
  obtain ⟨b3, e3, rb3⟩ := thR T8 rrt (i := 3) (k2 := 4) rfl (by decide)
  have P3 : RyP ρ c b3 h8 := ry8 rb3 (re rt b3 ert (by rw [e8] at e3; exact e3) (by omega))
  obtain ⟨o5, e5, T5', P5, _, oth5, R5⟩ := zX6_layP (c := cat c (SZ noE (is 3200)) h8) (x2 := hI h8 fo y1.toNatClampNeg) (wx := 3200) hF (szP (sx_c _) is_s) (th_in _ T8) rrt rq wq (by decide) (thG8 T8 rfo) e3 P3
  refine s_val e5 ?_
  have hs5 : ∀ k w i, SZ noE (is 3200) k w i = true → cPm c k w i = true := fun k w i m => hp k w i (sz_sub (fun _ _ z => noE_f z) (fun _ z => z) m)
  have T5 := th_out T8 hs5 T5'
  have f5 := fr_u T8 T5'.2.2
  exact s_some (s_some ⟨T5, fin T5 P5 oth5 R5 (fun i => (fr_RI f5 ru (by decide) (fun _ => sz_f rfl rfl (Or.inl rfl))).1)⟩)
end
