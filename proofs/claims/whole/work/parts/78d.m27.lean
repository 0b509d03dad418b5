section
/-! game, now, book: paid for -/
section
variable {ρ ρ1 : Nat → Nat} {c c1 : Cm} {h o g : Hp} {E : Nat → Nat → Bool} {wp : Nat → Bool} {x0 b w i F L : Nat} {x1 x2 x3 : Int32} {n m : Int} {Bq : Nat × Nat}
theorem alikey_loop (hF : 700000 ≤ F) : ∀ (f : Nat) {ρ : Nat → Nat} {c : Cm} {h : Hp} {b : Nat} {x1 x3 x4 x5 : Int32}, (∀ k w i, SZ pgE pgW k w i = true → cPm c k w i = true) → TH ρ c h → ρ x0 = 12 → Rg 0 7 x1 → LwR ρ c h → PgY ρ c x0 Bq h → KpX ρ c x0 b h → 0 ≤ x5.toInt → (301 - x5.toInt).toNat < f → Sat (sX11_countAlike_6 F f h x0 x1 b x3 x4 x5) (MkI ρ c (-2147483648) 2147483647 (fun o => LwR ρ c o ∧ PgY ρ c x0 Bq o ∧ KpX ρ c x0 b o)) := by
  intro f
  induction f with
  | zero => intros; omega
  | succ f ih =>
    intro ρ c h b x1 x3 x4 x5 hp T r0 i1 lw pg K a5 hf
    rw [sX11_countAlike_6]
    refine s_len T r0 i1 (fun r er qr => ?_)
    refine s_br (fun _ => s_some ⟨ρ, c, ex_0, T, rg_top _, lw, pg, K⟩) (fun n1 => ?_)
    have l5 := nlt_i n1
    have p300 := thI T qr (k := 61) (i := x1.toNatClampNeg) (lo := -1) (hi := 300) rfl
    have i5 : Rg 0 300 x5 := ⟨a5, by have := p300.2; omega⟩
    have on : ∀ {ρ2 : Nat → Nat} {c2 : Cm} {g : Hp} {y : Int32}, Ext ρ c ρ2 c2 → TH ρ2 c2 g → LwR ρ2 c2 g → PgY ρ2 c2 x0 Bq g → KpX ρ2 c2 x0 b g → Sat (sX11_countAlike_83 F (sX11_countAlike_6 F f) g x0 x1 b x3 y x5) (MkI ρ c (-2147483648) 2147483647 (fun o => LwR ρ c o ∧ PgY ρ c x0 Bq o ∧ KpX ρ c x0 b o)) := fun {ρ2 c2 g y} Y T2 lw2 pg2 K2 => by
      unfold sX11_countAlike_83
      refine s_q (fun v ev => ?_)
      have ev2 : v.toInt = x5.toInt + 1 := by rw [ev]; exact (nc_s i5 (by decide)).2
      refine s_imp (ih (ex_hp Y hp) T2 (ex_r Y r0 (by decide)) i1 lw2 pg2 K2 (by omega) (by have := i5.2; omega)) (fun o ⟨ρ3, c3, Z, T3, i3, a1, a2, a3⟩ => ⟨ρ3, c3, ex_t Y Z, T3, i3, lw_y Y a1, pgy_y Y a2, K.1, ryx_y Y a3.2.1, ?_⟩)
      rcases K.2.2 with ⟨j, B⟩ | q
      · rcases a3.2.2 with z | z
        · exact Or.inl z
        · have := ex_w Y K.1 (by decide) (pg_r T r0 B).2
          rw [this] at z
          omega
      · exact Or.inr q
    have go : Sat (sX11_countAlike_55 F (sX11_countAlike_6 F f) h x0 x1 b x3 x4 x5 1) (MkI ρ c (-2147483648) 2147483647 (fun o => LwR ρ c o ∧ PgY ρ c x0 Bq o ∧ KpX ρ c x0 b o)) := by
      unfold sX11_countAlike_55
      refine s_br (fun z => absurd z (by decide)) (fun _ => ?_)
      obtain ⟨rf, erf, qrf⟩ := thR T r0 (i := 6) (k2 := 6) rfl (by decide)
      refine s_ref erf ?_
      refine s_pageY hF hp (fun _ => rfl) (fun j hj => pgW_t hj) T r0 i1 i5 pg (fun o1 ρ1 c1 X1 T1 f1 B1 kp1 pg1 us1 _ => ?_)
      have r1 := ex_r X1 r0 (by decide)
      have qrf1 := ex_r X1 qrf (by decide)
      have hp1 := ex_hp X1 hp
      have lw1 := lw_x T r0 X1 T1 (lw_sz niceC_59 T f1 lw)
      have P1 := ryx_x T r0 X1 T1 (us1 r er l5)
      have pg1' := pgy_x T r0 X1 T1 pg1
      have K1 := kpx_page T r0 X1 T1 f1 kp1 K
      obtain ⟨k1, w1⟩ := pg_r T1 r1 B1
      unfold sX11_countAlike_74
      have nw1 : ¬ cw c1 b = 1503 := kpx_w T1 r1 K1
      have hs : ∀ k w i, SZ noE (is 1503) k w i = true → cPm c1 k w i = true := fun k w i m => hp1 k w i (sz_sub (fun _ _ z => noE_f z) (fun w z => by rw [is_e z]; rfl) m)
      refine s_cIf T1 hs (zX5_areAlike hF (pmA_s (szA (sx_c _)) rfl) (pmO_s (szP (sx_c _) is_s) rfl) rfl w1 nw1 (by omega) (th_in _ T1) qrf1 K1.1 k1 lw1 K1.2.1.1 P1.1) (fun o2 T2 i2 f2 => ?_)
      have lw2 := lw_sz niceC_0 T1 f2 lw1
      have pg2 := pgy_sz niceC_0 (fun _ => rfl) (fun _ => rfl) T1 r1 f2 (fun j => Or.inl (no8 (by decide))) pg1'
      have K2 := kpx_sz T1 r1 f2 K1
      unfold sX11_countAlike_77
      exact s_br (fun _ => on X1 T2 lw2 pg2 K2) (fun _ => s_q (fun v ev => on X1 T2 lw2 pg2 K2))
    have no' : Sat (sX11_countAlike_55 F (sX11_countAlike_6 F f) h x0 x1 b x3 x4 x5 0) (MkI ρ c (-2147483648) 2147483647 (fun o => LwR ρ c o ∧ PgY ρ c x0 Bq o ∧ KpX ρ c x0 b o)) := by
      unfold sX11_countAlike_55
      exact s_br (fun _ => on ex_0 T lw pg K) (fun z => absurd rfl z)
    unfold sX11_countAlike_50 sX11_countAlike_54
    refine s_br (fun _ => go) (fun _ => ?_)
    refine s_len T r0 i1 (fun r' er' qr' => ?_)
    refine s_br (fun _ => no') (fun _ => ?_)
    obtain ⟨md, emd, qmd⟩ := thR T r0 (i := 16) (k2 := 60) rfl (by decide)
    refine s_ref emd ?_
    refine s_gd (by rw [thN T qmd (k := 60) (n := 2408) rfl (by decide)]; exact rg_inB (gi_r i1 i5) (by decide)) ?_
    exact s_br (fun _ => go) (fun _ => no')
theorem alike_y (hF : 700000 ≤ F) (hp : ∀ k w i, SZ pgE pgW k w i = true → cPm c k w i = true) (T : TH ρ c h) (r0 : ρ x0 = 12) (i1 : Rg 0 7 x1) (lw : LwR ρ c h) (pg : PgY ρ c x0 Bq h) (K : KpX ρ c x0 b h) : Sat (sX11_countAlike F h x0 x1 b x3) (MkI ρ c (-2147483648) 2147483647 (fun o => LwR ρ c o ∧ PgY ρ c x0 Bq o ∧ KpX ρ c x0 b o)) := by
  unfold sX11_countAlike
  exact alikey_loop hF F hp T r0 i1 lw pg K (by decide) (by show (301 - (0 : Int)).toNat < F; omega)
theorem game_y (hF : 700000 ≤ F) (hp : ∀ k w i, SZ pgE pgW k w i = true → cPm c k w i = true) (T : TH ρ c h) (r0 : ρ x0 = 12) (lw : LwR ρ c h) (pg : PgY ρ c x0 Bq h) : Sat (sX11_game F h x0 x1 x2) (MkI ρ c (-2147483648) 2147483647 (PgY ρ c x0 Bq)) := by
  unfold sX11_game
  refine s_dP0 (zX11_isGame hF T (rg_top _)) (fun oo eb e ii pp => ?_)
  rw [e]
  unfold sX11_game_4 sX11_game_16
  have ex : ∀ {y : Int32}, Sat (some (y, h)) (MkI ρ c (-2147483648) 2147483647 (PgY ρ c x0 Bq)) := s_some ⟨ρ, c, ex_0, T, rg_top _, pg⟩
  refine s_br (fun _ => ex) (fun nz => ?_)
  have i1 := pp nz
  refine s_br (fun _ => ex) (fun _ => ?_)
  refine s_br (fun _ => ?_) (fun _ => ex)
  refine s_len T r0 i1 (fun r er qr => ?_)
  refine s_q (fun p0 ep0 => ?_)
  refine s_br (fun _ => ex) (fun n1 => ?_)
  have i2 : Rg 0 300 p0 := rg_nlo n1 (by rw [ep0]; exact thI T qr (k := 61) (lo := -1) (hi := 300) rfl) (rg_b rfl : Rg (-1) (-1) (-1 : Int32))
  refine s_pageY hF hp (fun _ => rfl) (fun j hj => pgW_t hj) T r0 i1 i2 pg (fun o3 ρ1 c1 X1 T1 f1 B1 kp1 pg1 us1 _ => ?_)
  have r1 := ex_r X1 r0 (by decide)
  have hp1 := ex_hp X1 hp
  have lw1 := lw_x T r0 X1 T1 (lw_sz niceC_59 T f1 lw)
  have P1 := ryx_x T r0 X1 T1 (us1 r er (by rw [ep0]; exact Int.le_refl _))
  have pg1' := pgy_x T r0 X1 T1 pg1
  obtain ⟨k1, w1⟩ := pg_r T1 r1 B1
  have K1 : KpX ρ1 c1 x0 o3.1 o3.2 := ⟨k1, P1, Or.inl ⟨_, B1⟩⟩
  have ex1 : ∀ {y : Int32}, Sat (some (y, o3.2)) (MkI ρ c (-2147483648) 2147483647 (PgY ρ c x0 Bq)) := s_some ⟨ρ1, c1, X1, T1, rg_top _, pg1⟩
  unfold sX11_game_40 sX11_game_78 sX11_game_97 sX11_game_101 sX11_game_106 sX11_game_116
  refine s_br (fun _ => ex1) (fun _ => ?_)
  refine s_br (fun _ => ?_) (fun _ => ?_)
  · exact s_cl (s_imp (alike_y hF hp1 T1 r1 i1 lw1 pg1' K1) (fun o4 ⟨ρ4, c4, X4, T4, i4, a1, a2, a3⟩ => s_some ⟨ρ4, c4, ex_t X1 X4, T4, i4, pgy_y X1 a2⟩))
  refine s_br (fun _ => ?_) (fun _ => ?_)
  · refine s_br (fun _ => ex1) (fun _ => ?_)
    exact s_cl (s_imp (alike_y hF hp1 T1 r1 i1 lw1 pg1' K1) (fun o4 ⟨ρ4, c4, X4, T4, i4, a1, a2, a3⟩ => s_br (fun _ => s_some ⟨ρ4, c4, ex_t X1 X4, T4, rg_top _, pgy_y X1 a2⟩) (fun _ => s_some ⟨ρ4, c4, ex_t X1 X4, T4, rg_top _, pgy_y X1 a2⟩)))
  obtain ⟨rf, erf, qrf⟩ := thR T1 r1 (i := 6) (k2 := 6) rfl (by decide)
  refine s_ref erf ?_
  have hs : ∀ k w i, SZ noE (is 1503) k w i = true → cPm c1 k w i = true := fun k w i m => hp1 k w i (sz_sub (fun _ _ z => noE_f z) (fun w z => by rw [is_e z]; rfl) m)
  refine s_cIf T1 hs (zX5_endOf hF (pmA_s (szA (sx_c _)) rfl) (pmO_s (szP (sx_c _) is_s) rfl) w1 (by omega) (th_in _ T1) qrf k1 lw1 P1.1) (fun o2 T2 i2 f2 => ?_)
  exact s_some ⟨ρ1, c1, X1, T2, rg_top _, pgy_y X1 (pgy_sz niceC_0 (fun _ => rfl) (fun _ => rfl) T1 r1 f2 (fun j => Or.inl (no8 (by decide))) pg1')⟩
theorem now_y (hF : 700000 ≤ F) (hp : ∀ k w i, SZ stE stW k w i = true → cPm c k w i = true) (T : TH ρ c h) (r0 : ρ x0 = 12) (pl : PlP ρ c x0 h) (px : PlX ρ c x0 h) (pg : PgY ρ c x0 Bq h) : Sat (sX11_now F h x0 x1) (MkI ρ c (-104) 59 (fun o => PlP ρ c x0 o ∧ PlX ρ c x0 o ∧ PgY ρ c x0 Bq o)) := by
  unfold sX11_now
  refine s_dP0 (zX11_isGame hF T (rg_top _)) (fun oo eb e ii pp => ?_)
  rw [e]
  unfold sX11_now_4
  refine s_br (fun _ => s_some ⟨ρ, c, ex_0, T, rg_b rfl, pl, px, pg⟩) (fun nz => ?_)
  have i1 := pp nz
  refine s_len T r0 i1 (fun r er qr => ?_)
  refine s_br (fun _ => s_some ⟨ρ, c, ex_0, T, rg_b rfl, pl, px, pg⟩) (fun n1 => ?_)
  have i2 : Rg 0 300 (hI h r x1.toNatClampNeg) := rg_nlo n1 (thI T qr (k := 61) (lo := -1) (hi := 300) rfl) (rg_b rfl : Rg (-1) (-1) (-1 : Int32))
  refine s_cI0 (zX11_freePlace hF T r0) (fun o2 e2 j2 => ?_)
  rw [e2]
  unfold sX11_now_27
  refine s_br (fun _ => s_some ⟨ρ, c, ex_0, T, rg_b rfl, pl, px, pg⟩) (fun n2 => ?_)
  have ip : Rg 0 59 o2.1 := rg_nlo n2 j2 (rg_b rfl : Rg (-1) (-1) (-1 : Int32))
  refine s_len T r0 i1 (fun r' er' qr' => ?_)
  have : r' = r := r_eq er er'
  subst this
  refine s_pageY hF hp (fun _ => rfl) (fun j hj => stW_t hj) T r0 i1 i2 pg (fun o3 ρ1 c1 X1 T1 f1 B1 kp1 pg1 us1 _ => ?_)
  have r1 := ex_r X1 r0 (by decide)
  have hp1 := ex_hp X1 hp
  have P1 := ryx_x T r0 X1 T1 (us1 r' er (Int.le_refl _))
  have pg1' := pgy_x T r0 X1 T1 pg1
  have pl1 := pl_x T r0 X1 T1 (pl_sz niceC_59 (fun _ => rfl) (is_f (by omega)) T r0 f1 pl)
  obtain ⟨k1, w1⟩ := pg_r T1 r1 B1
  unfold sX11_now_49 sX11_now_52
  have hs : ∀ k w i, SZ e58 (is 3200) k w i = true → cPm c1 k w i = true := fun k w i m => hp1 k w i (sz_sub (fun k i z => by unfold e58 at z; unfold stE; rw [z]; rfl) (fun w z => by rw [is_e z]; rfl) m)
  refine s_cVfq T1 hs (s_weqp (zX11_settle hF (fun w k i m => sx_c _ k w i (by
      unfold SZ e58
      have : ((58 == k && (999 == 999 || 999 == i)) || false) = true := m
      rw [Bool.or_false, Bool.and_eq_true, beq_iff_eq] at this
      rw [← this.1]; rfl)) (pmO_s (szP (sx_c _) is_s) rfl) w1 (th_in _ T1) r1 ip k1 pl1 P1.1)) (fun o4 T4 f4 p4 => ?_)
  have px1 : PlX ρ1 c1 x0 o3.2 := plx_x T r0 X1 T1 (plx_fr T r0 f1 (fun _ => rfl) (fun _ => rfl) (fun _ _ => rfl) (fun _ _ => rfl) rfl (fun _ => sz_f rfl rfl (Or.inr (is_f (by omega)))) (fun _ => rfl) (fun _ => rfl) px)
  exact s_some ⟨ρ1, c1, X1, T4, rg_m ip (by decide), pl_y X1 p4.1.1, plx_y X1 (settle_x T1 r1 k1 ip px1 P1.2 p4.2), pgy_y X1 (pgy_sz niceC_58 (fun _ => rfl) (fun _ => rfl) T1 r1 f4 (fun j => Or.inl (no8 (by decide))) pg1')⟩
theorem cbooky_loop (hF : 700000 ≤ F) {b : Nat} {x1 x2 : Int32} (ip : Rg 0 59 x1) : ∀ (f : Nat) {ρ : Nat → Nat} {c : Cm} {h : Hp} {x3 x4 : Int32}, (∀ k w i, SZ pgE pgW k w i = true → cPm c k w i = true) → TH ρ c h → ρ x0 = 12 → LwR ρ c h → PgY ρ c x0 Bq h → PCX ρ c x0 x1.toNatClampNeg b h → 0 ≤ x4.toInt → (8 - x4.toInt).toNat < f → Sat (sX11_book_34 F f h x0 x1 x2 x3 x4) (MkI ρ c (-2147483648) 2147483647 (PgY ρ c x0 Bq)) := by
  intro f
  induction f with
  | zero => intros; omega
  | succ f ih =>
    intro ρ c h x3 x4 hp T r0 lw pg B a4 hf
    have l60 : x1.toNatClampNeg < 60 := by have := rg_clamp (n := 59) ip (by decide); omega
    rw [sX11_book_34]
    refine s_br (fun _ => s_some ⟨ρ, c, ex_0, T, rg_top _, pg⟩) (fun n1 => ?_)
    have l4 : x4.toInt < 8 := nle_i n1
    have i4 : Rg 0 7 x4 := ⟨a4, by omega⟩
    refine s_pcx T r0 ip B ?_
    obtain ⟨kb, wb'⟩ := pcx_r T r0 l60 B
    have PB : RyX ρ c b h := by obtain ⟨_, _, _, q⟩ := B; exact q
    refine s_mI (S := SZ pgE pgW) T hp (alike_y (c := cat c (SZ pgE pgW) h) hF (sx_c _) (th_in _ T) r0 i4 lw pg ⟨kb, PB, Or.inr wb'⟩) (fun o1 ρ1 c1 X1 T1 f1 j1 ⟨a1, a2, a3⟩ => ?_)
    have r1 := ex_r X1 r0 (by decide)
    obtain ⟨r, e1, e2, _⟩ := B
    obtain ⟨q1, f2, g1⟩ := thR T r0 (i := 13) (k2 := 57) rfl (by decide)
    have h57 : ρ r = 57 := by rw [r_eq f2 e1]; exact g1
    have B1 : PCX ρ1 c1 x0 x1.toNatClampNeg b o1.2 := ⟨r, by rw [x12 r0 f1 rfl]; exact e1, by rw [(fr_RI f1 h57 (by decide) (fun _ => sz_f rfl rfl (Or.inl rfl))).2.2]; exact e2, ryx_x T r0 X1 T1 a3.2.1⟩
    unfold sX11_book_55
    refine s_q (fun u eu => ?_)
    refine s_q (fun v ev => ?_)
    have ev2 : v.toInt = x4.toInt + 1 := by rw [ev]; exact (nc_s i4 (by decide)).2
    exact s_imp (ih (ex_hp X1 hp) T1 r1 (lw_x T r0 X1 T1 a1) (pgy_x T r0 X1 T1 a2) B1 (by omega) (by omega)) (fun o2 ⟨ρ2, c2, X2, T2, i2, p2⟩ => ⟨ρ2, c2, ex_t X1 X2, T2, i2, pgy_y X1 p2⟩)
theorem book_y (hF : 700000 ≤ F) (hp : ∀ k w i, SZ pgE pgW k w i = true → cPm c k w i = true) (T : TH ρ c h) (r0 : ρ x0 = 12) (lw : LwR ρ c h) (pl : PlP ρ c x0 h) (px : PlX ρ c x0 h) (pg : PgY ρ c x0 Bq h) : Sat (sX11_book F h x0 x1 x2) (MkI ρ c (-2147483648) 2147483647 (PgY ρ c x0 Bq)) := by
  unfold sX11_book
  refine s_dP0 (zX11_isPlace hF T r0 (rg_top _)) (fun o2 eb2 e2 ii2 pp2 => ?_)
  rw [e2]
  unfold sX11_book_5 sX11_book_26 sX11_book_29
  have ex : ∀ {y : Int32}, Sat (some (y, h)) (MkI ρ c (-2147483648) 2147483647 (PgY ρ c x0 Bq)) := s_some ⟨ρ, c, ex_0, T, rg_top _, pg⟩
  refine s_br (fun _ => ex) (fun nz2 => ?_)
  have ip := pp2 nz2
  have l60 : x1.toNatClampNeg < 60 := by have := rg_clamp (n := 59) ip (by decide); omega
  obtain ⟨b, B⟩ := pcx_of T r0 pl px eb2 nz2 l60
  refine s_br (fun _ => cbooky_loop hF ip F hp T r0 lw pg B (by decide) (by show (8 - (0 : Int)).toNat < F; omega)) (fun _ => ?_)
  refine s_br (fun _ => ex) (fun _ => ?_)
  have hs : ∀ k w i, SZ noE (is 1503) k w i = true → cPm c k w i = true := fun k w i m => hp k w i (sz_sub (fun _ _ z => noE_f z) (fun w z => by rw [is_e z]; rfl) m)
  refine s_cIfq T hs (zX11_listMoves hF (pmA_s (szA (sx_c _)) rfl) (pmO_s (szP (sx_c _) is_s) rfl) (th_in _ T) r0 (rg_top _) lw pl) (fun o3 T3 i3 f3 p3 => ?_)
  have lw3 := lw_sz niceC_0 T f3 lw
  have pg3 := pgy_sz niceC_0 (fun _ => rfl) (fun _ => rfl) T r0 f3 (fun j => Or.inl (no8 (by decide))) pg
  have B3 := pcx_sz niceC_0 l60 T r0 f3 rfl B
  unfold sX11_book_23 sX11_book_29 sX11_book_26
  exact s_br (fun _ => cbooky_loop hF ip F hp T3 r0 lw3 pg3 B3 (by decide) (by show (8 - (0 : Int)).toNat < F; omega)) (fun _ => s_some ⟨ρ, c, ex_0, T3, rg_top _, pg3⟩)
end
end
section
/-! room: the rows of endings are paid for ahead -/
section
variable {ρ : Nat → Nat} {c : Cm} {h o : Hp} {x0 e F L wy : Nat} {Bq : Nat × Nat}
def PayE (Bq : Nat × Nat) (e : Nat) (h : Hp) : Prop := ∀ a, hR h e 11 = some a → (hN h a = 600000 ∧ h.1.1 ≤ Bq.1 ∧ h.1.2 ≤ Bq.2) ∨ (h.1.1 + 3 ≤ Bq.1 ∧ h.1.2 + 1800000 ≤ Bq.2)
theorem paye_k (e1 : o.1 = h.1) (R : hR o e 11 = hR h e 11) (N : ∀ a, hR h e 11 = some a → hN o a = hN h a) (P : PayE Bq e h) : PayE Bq e o := fun a ea => by
  rw [R] at ea
  rw [e1, N a ea]
  exact P a ea
theorem mkr_room (P : PayE Bq x0 h) (e : sX0_makeRoom h x0 = some o) : o.1.1 ≤ Bq.1 ∧ o.1.2 ≤ Bq.2 := by
  have z : (600000 : Int32).toNatClampNeg = 600000 := by decide
  unfold sX0_makeRoom sX0_makeRoom_15 sX0_makeRoom_23 sX0_makeRoom_31 sX0_makeRoom_34 at e
  replace e := cl_s e
  obtain ⟨a, ea, e⟩ := e
  replace e := br_s e
  rcases e with ⟨_, e⟩ | ⟨l, e⟩
  · rw [← Option.some.inj e]
    rcases P a ea with w | w
    · exact ⟨w.2.1, w.2.2⟩
    · omega
  · rcases P a ea with w | w
    · rw [w.1] at l
      exact absurd (by decide) l
    · obtain ⟨K, hK⟩ : ∃ K, K = (600000 : Int32).toNatClampNeg := ⟨_, rfl⟩
      rw [← hK] at e z
      have q : o.1 = (h.1.1 + 1 + 1 + 1, h.1.2 + K + K + K) := by
        rw [← Option.some.inj e]; rfl
      rw [q]
      show h.1.1 + 1 + 1 + 1 ≤ Bq.1 ∧ h.1.2 + K + K + K ≤ Bq.2
      omega
theorem run_y (hF : 700000 ≤ F) (hA : pmA c RUL) (hO : pmO c 1003 BOL) (T : TH ρ c h) (r0 : ρ x0 = 1) (e0 : hR h x0 0 = some L) (e1 : hR h x0 1 = some wy) (ky : KyX (hI h x0 14)) (E : EvP x0 h) (N : LnI x0 h) (lw : LwR ρ c h) (Fm : FmX wy (hI h L 2).toInt h) (Py : PayE Bq x0 h) : Sat (sX0_run F h x0) (MkI ρ c 0 1 (fun o => EvP x0 o ∧ LnI x0 o ∧ EnQ x0 o ∧ Kf ρ RBL h o ∧ PayE Bq x0 o)) := by
  have rL : ρ L = 2 := rr T (thR T r0 (i := 0) (k2 := 2) rfl (by decide)) e0
  have qw : ρ wy = 11 := rr T (thR T r0 (i := 1) (k2 := 11) rfl (by decide)) e1
  obtain ⟨b, e3, qb⟩ := thR T r0 (i := 3) (k2 := 4) rfl (by decide)
  obtain ⟨ks, e4, qk⟩ := thR T r0 (i := 4) (k2 := 20) rfl (by decide)
  obtain ⟨st, e5, qs⟩ := thR T r0 (i := 5) (k2 := 21) rfl (by decide)
  obtain ⟨pw, e6, qp⟩ := thR T r0 (i := 6) (k2 := 22) rfl (by decide)
  obtain ⟨ro, e7, qo⟩ := thR T r0 (i := 7) (k2 := 23) rfl (by decide)
  unfold sX0_run
  refine s_hq (th_wI T r0 (k := 1) (i := 10) (lo := 0) (hi := 1) rfl (rg_m (rg_b rfl : Rg 0 0 (0 : Int32)) (by decide)) (by decide) (by decide) (pm_a hA rfl)) (fun h1 T1 w1 => ?_)
  have K1 : Kf ρ [(1, 10)] h h1 := kf_wI w1 r0
  have E1 : EvP x0 h1 := evp_k T r0 K1 (P := E)
  have hL1 : hI h1 L 2 = hI h L 2 := kfI 2 K1 rL
  have ln1 : LnI x0 h1 := fun a ea => by
    rw [kfR 11 K1 r0] at ea
    have hn : ∀ q, hN h1 q = hN h q := fun q => by rw [w1]; rfl
    rw [hn]
    refine (N a ea).imp id (fun P i q hi eq => ?_)
    rw [hn]
    refine P i q hi ?_
    rw [w1] at eq
    exact eq
  refine s_cl (s_imp (gatherC_q (c := cat c (fS GSL []) h1) (ks := ks) (st := st) (pw := pw) (L := L) hF fs_a (th_in _ T1) r0 (by rw [kfR 0 K1 r0]; exact e0) (by rw [kfR 4 K1 r0]; exact e4) (by rw [kfR 5 K1 r0]; exact e5) (by rw [kfR 6 K1 r0]; exact e6) (by rw [kfI 14 K1 r0]; exact ky) E1) (fun o2 ⟨T2', i2, S2, P2, E2, K2⟩ => ?_))
  have T2 := th_out T1 (fs_sub (pmA_s hA rfl) fs_n) T2'
  have f2 := fr_u T1 T2'.2.2
  have K12 : Kf ρ RBL h o2.2 := kf_t (kf_m K1 rfl) (kf_m K2 rfl)
  have ln2 : LnI x0 o2.2 := fun a ea => by
    rw [kfR 11 K2 r0] at ea
    have ra := rr T1 (thR T1 r0 (i := 11) (k2 := 24) rfl (by decide)) ea
    rw [f2.2 a (by rw [ra]; decide)]
    exact (ln1 a ea).imp id (fun P => len_fr T1 r0 f2 (fun _ => rfl) (fun _ => rfl) (fun _ => rfl) P)
  have py2 : PayE Bq x0 o2.2 := paye_k (T2.1.1.trans T.1.1.symm) (by rw [kfR 11 K2 r0, kfR 11 K1 r0]) (fun a ea => by
    have ra := rr T (thR T r0 (i := 11) (k2 := 24) rfl (by decide)) ea
    rw [f2.2 a (by rw [ra]; decide), w1]; rfl) Py
  unfold sX0_run_9
  refine s_br (fun _ => ?_) (fun ne => ?_)
  · refine s_some ⟨ρ, c, ex_0, T2, rg_m (rg_b rfl : Rg 0 0 (0 : Int32)) (by decide), E2, ln2, fun n => ?_, K12, py2⟩
    exact absurd (by rw [kfI 10 K2 r0, w1, r_I, if_pos ⟨rfl, rfl⟩]) n
  obtain ⟨S2, t0, t1⟩ := S2 ne
  refine s_mV (S := fS MRL []) T2 (fs_sub (pmA_s hA rfl) fs_n) (P := fun o => LenP x0 o ∧ Kf ρ MRL o2.2 o ∧ (o.1.1 ≤ Bq.1 ∧ o.1.2 ≤ Bq.2)) (sat_and (makeRoom_q (c := cat c (fS MRL []) o2.2) fs_a (th_in _ T2) r0 ln2) (fun o e ⟨ρ', c', z1, z2, z3, z4⟩ => ⟨ρ', c', z1, z2, z3, z4, mkr_room py2 e⟩)) (fun o3 ρ1 c1 X T3 f3 ⟨Ln3, K3, B3⟩ => ?_)
  have r0' := ex_r X r0 (by decide)
  have sq64 := (thI T rL (k := 2) (i := 2) (lo := 0) (hi := 64) rfl).2
  have hL2 : hI o2.2 L 2 = hI h L 2 := by rw [kfI 2 K2 rL]; exact hL1
  have rf : ∀ i r, hR h x0 i = some r → mS GSL 1 i = false → mS MRL 1 i = false → mS [(1, 10)] 1 i = false → hR o3 x0 i = some r := fun i r e y1 y2 y3 => by
    rw [kfR i K3 r0 (by decide) y2, kfR i K2 r0 (by decide) y1, kfR i K1 r0 (by decide) y3]
    exact e
  have W3 : EnW x0 b wy ks st pw ro L (hI h L 2).toInt o3 := by
    refine ⟨⟨rf 0 _ e0 rfl rfl rfl, rf 1 _ e1 rfl rfl rfl, rf 3 _ e3 rfl rfl rfl, rf 4 _ e4 rfl rfl rfl, rf 5 _ e5 rfl rfl rfl, rf 6 _ e6 rfl rfl rfl, rf 7 _ e7 rfl rfl rfl⟩, fun i hi => ?_, stp_k T2 r0 qk qp qs K3 (P := S2), fmx_k T2 qw K3 (P := fmx_k T1 qw K2 (P := fmx_k T qw K1 (P := Fm))), Ln3, by rw [kfI 2 K3 rL, hL2], sq64, evp_k T2 r0 K3 (P := E2)⟩
    rw [kfI i K3 qp, P2 i hi, hL1]
  have lw3 : LwR ρ1 c1 o3 := lw_x2 rL (kid_w T r0 (i := 0) (w := 2102) rfl (by decide) e0) X T3 (lw_k (kf_t K12 (kf_m K3 rfl)) (P := lw))
  refine s_imp (run18_q hF (ex_A X hA) (ex_O X hO) T3 r0' W3 lw3 (by rw [kfJ 18 K3 r0]; exact t0) (by rw [kfJ 18 K3 r0]; exact t1)) (fun o4 ⟨T4, i4, W4, K4⟩ => ?_)
  refine ⟨ρ1, c1, X, T4, i4, W4.2.2.2.2.2.2.2, fun a _ => Or.inr W4.2.2.2.2.1, fun _ => ⟨W4.2.2.2.2.1, ks, st, pw, L, W4.1.1, W4.1.2.2.2.1, W4.1.2.2.2.2.1, W4.1.2.2.2.2.2.1, ?_, W4.2.2.1⟩, kf_t (kf_t K12 (kf_m K3 rfl)) (kf_m (kf_ex X K4) rfl), fun a ea => Or.inl ⟨W4.2.2.2.2.1 11 a (Or.inl rfl) ea, by rw [T4.1.1.trans T3.1.1.symm]; exact B3⟩⟩
  rw [W4.2.2.2.2.2.1]
  exact W4.2.1
def PayA (x0 : Nat) (Bq : Nat × Nat) (h : Hp) : Prop := ∀ e, hR h x0 10 = some e → PayE Bq e h
def EnY (x0 : Nat) (Bq : Nat × Nat) (h : Hp) : Prop := EnA x0 h ∧ PayA x0 Bq h
theorem eny_k {E : List (Nat × Nat)} (T : TH ρ c h) (r0 : ρ x0 = 12) (K : Kf ρ E h o) (N : ∀ a, ρ a ≠ 0 → hN o a = hN h a) (y0 : mS E 12 10 = false := by rfl) (y1 : ∀ j, ¬ j = 14 → ¬ j = 8 → ¬ j = 17 → ¬ j = 16 → mS E 1 j = false) (y2 : ∀ i, mS E 20 i = false := by intro _; rfl) (y3 : ∀ i, mS E 21 i = false := by intro _; rfl) (y4 : ∀ i, mS E 22 i = false := by intro _; rfl) (y5 : mS E 2 2 = false := by rfl) (P : EnY x0 Bq h) (T' : TH ρ c o := by assumption) : EnY x0 Bq o := by
  refine ⟨ena_k T r0 K N y0 y1 y2 y3 y4 y5 P.1, fun e ee => ?_⟩
  rw [kfR 10 K r0 (by decide) y0] at ee
  have re : ρ e = 1 := rr T (thR T r0 (i := 10) (k2 := 1) rfl (by decide)) ee
  exact paye_k (T'.1.1.trans T.1.1.symm) (kfR 11 K re (by decide) (y1 11 (by decide) (by decide) (by decide) (by decide))) (fun a ea => by
    have ra := rr T (thR T re (i := 11) (k2 := 24) rfl (by decide)) ea
    exact N a (by rw [ra]; decide)) (P.2 e ee)
theorem solve_y (hF : 700000 ≤ F) (hA : pmA c SVL) (hO : pmO c 1003 BOL) (hT : pmO c 2100 [(10, 1)]) (T : TH ρ c h) (r0 : ρ x0 = 12) (lw : LwR ρ c h) (en : EnY x0 Bq h) (fm : FmY ρ c h) : Sat (sX11_solve F h x0) (MkI ρ c (-2147483648) 2147483647 (fun o => EnY x0 Bq o ∧ Kf ρ SVX h o)) := by
  obtain ⟨L, eL, rL⟩ := thR T r0 (i := 2) (k2 := 2) rfl (by decide)
  -- the tape is cleared
  have b71 : ∀ {ρ1 : Nat → Nat} {c1 : Cm} {g : Hp} {y : Int32}, Ext ρ c ρ1 c1 → TH ρ1 c1 g → EnY x0 Bq g → Kf ρ SVX h g → Sat (sX11_solve_71 F g x0 y) (MkI ρ c (-2147483648) 2147483647 (fun o => EnY x0 Bq o ∧ Kf ρ SVX h o)) := fun {ρ1 c1 g y} X Tg eg Kg => by
    unfold sX11_solve_71 sX11_solve_78
    have r1 := ex_r X r0 (by decide)
    obtain ⟨t, et, rt⟩ := thR Tg r1 (i := 0) (k2 := 10) rfl (by decide)
    refine s_ref et ?_
    have wt : cw c1 t = 2100 := kid_w Tg r1 (i := 0) rfl (by decide) et
    refine s_cVf (S := fS [] [(2100, [(10, 1)])]) Tg (fs_sub pmA_n (fs_c (ex_O X hT) fs_n)) (zX9_clear hF (by rw [show cw (cat c1 (fS [] [(2100, [(10, 1)])]) g) t = 2100 from wt]; exact fs_o (.head _)) (th_in _ Tg) rt) (fun o2 T2 f2 => ?_)
    have K2 : Kf ρ1 [(10, 1)] g o2 := kf_of f2 rfl
    exact s_some ⟨ρ1, c1, X, T2, rg_top _, eny_k Tg r1 K2 f2.2 (y1 := fun _ _ _ _ _ => rfl) (P := eg), kf_t Kg (kf_m (kf_ex X K2) rfl)⟩
  have out : ∀ {y : Int32}, Sat (sX11_solve_71 F h x0 y) (MkI ρ c (-2147483648) 2147483647 (fun o => EnY x0 Bq o ∧ Kf ρ SVX h o)) := fun {y} => b71 ex_0 T en kf_r
  unfold sX11_solve
  refine s_ref eL ?_
  refine s_cI0 (zX1_isPlain hF T rL) (fun o2 q2 _ => ?_)
  rw [q2]
  unfold sX11_solve_10
  refine s_br (fun _ => out) (fun _ => ?_)
  refine s_ref eL ?_
  refine s_cI0 (zX1_hasCatch hF T rL) (fun o3 q3 _ => ?_)
  rw [q3]
  unfold sX11_solve_20
  refine s_br (fun _ => ?_) (fun _ => out)
  obtain ⟨e, ee, re⟩ := thR T r0 (i := 10) (k2 := 1) rfl (by decide)
  obtain ⟨t, et, rt⟩ := thR T r0 (i := 0) (k2 := 10) rfl (by decide)
  refine s_ref ee (s_ref et ?_)
  refine s_cl (s_imp (readC_q (c := cat c (fS [(1, 14)] []) h) hF fs_a (th_in _ T) re rt (rg_m (thI T rt (k := 10) (i := 1) rfl) (by decide))) (fun o4 ⟨T4', ky, K4⟩ => ?_))
  have T4 := th_out T (fs_sub (pmA_s hA rfl) fs_n) T4'
  have f4 := fr_u T T4'.2.2
  have en4 : EnY x0 Bq o4.2 := eny_k T r0 K4 f4.2 (y1 := fun j h1 _ _ _ => by
    show mS [(1, 14)] 1 j = false
    unfold mS
    simp [List.any]
    exact fun z => h1 z.symm) (P := en)
  unfold sX11_solve_34 sX11_solve_70
  refine s_br (fun z => ?_) (fun _ => b71 ex_0 T4 en4 (kf_m K4 rfl))
  have ee4 : hR o4.2 x0 10 = some e := by rw [kfR 10 K4 r0]; exact ee
  refine s_ref ee4 ?_
  obtain ⟨LE, eLE, rLE⟩ := thR T4 re (i := 0) (k2 := 2) rfl (by decide)
  obtain ⟨wy, ewy, rwy⟩ := thR T4 re (i := 1) (k2 := 11) rfl (by decide)
  have wLE : cw c LE = 2102 := kid_w T4 re (i := 0) (w := 2102) rfl (by decide) eLE
  obtain ⟨p1, p2, p3⟩ := en4.1 e ee4
  have py4 := en4.2 e ee4
  have fm4 : FmY ρ c o4.2 := fmy_k T K4 (P := fm)
  refine s_mI (S := fS RUL [(1003, BOL)]) T4 (fs_sub (pmA_s hA rfl) (fs_c hO fs_n)) (run_y (Bq := Bq) hF fs_a (fs_o (.head _)) (th_in _ T4) re eLE ewy (ky z) p1 p2 (lw_k K4 (P := lw)) (fm4 wy LE rwy rLE wLE) py4) (fun o5 ρ1 c1 X T5 f5 i5 ⟨w1, w2, w3, K5, y5⟩ => ?_)
  have r1 := ex_r X r0 (by decide)
  have re1 := ex_r X re (by decide)
  have K45 : Kf ρ SVX h o5.2 := kf_t (kf_m K4 rfl) (kf_m K5 rfl)
  have en5 : EnY x0 Bq o5.2 := by
    refine ⟨fun e' ee' => ?_, fun e' ee' => ?_⟩
    · rw [kfR 10 K5 r0] at ee'
      have q : e' = e := r_eq ee4 ee'
      subst q
      exact ⟨w1, w2, w3⟩
    · rw [kfR 10 K5 r0] at ee'
      have q : e' = e := r_eq ee4 ee'
      subst q
      exact y5
  unfold sX11_solve_55 sX11_solve_70
  refine s_br (fun _ => b71 X T5 en5 K45) (fun _ => ?_)
  refine s_ref (by rw [kfR 10 K5 r0]; exact ee4) ?_
  exact b71 X T5 en5 K45
end
end
