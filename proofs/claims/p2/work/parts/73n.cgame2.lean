section
variable {ρ ρ1 : Nat → Nat} {c c1 : Cm} {h o g : Hp} {E : Nat → Nat → Bool} {wp : Nat → Bool} {x0 b w i F : Nat} {x1 x2 x3 : Int32}
/-- a position that is held against pages: a page itself, or a place's -/
def Kp (ρ : Nat → Nat) (c : Cm) (x0 b : Nat) (h : Hp) : Prop := ρ b = 4 ∧ RyP ρ c b h ∧ ((∃ j, Pg x0 j b h) ∨ cw c b = 3200)
theorem kp_w (T : TH ρ c h) (r0 : ρ x0 = 12) (K : Kp ρ c x0 b h) : ¬ cw c b = 1503 := by
  rcases K.2.2 with ⟨j, B⟩ | q
  · rw [(pg_r T r0 B).2]; omega
  · rw [q]; decide
theorem kp_page (T : TH ρ c h) (r0 : ρ x0 = 12) (X : Ext ρ c ρ1 c1) (T1 : TH ρ1 c1 o) (f : Fr ρ (cat c (SZ (g59 i) (is (8000 + i))) h) h o) (kp : ∀ j b, Pg x0 j b h → Pg x0 j b o ∧ (RyP ρ c b h → RyP ρ c b o)) (K : Kp ρ c x0 b h) : Kp ρ1 c1 x0 b o := by
  obtain ⟨k1, P, q⟩ := K
  refine ⟨ex_r X k1 (by decide), ?_, ?_⟩
  · refine ry_x T r0 X T1 ?_
    rcases q with ⟨j, B⟩ | q
    · exact (kp j b B).2 P
    · exact ry_sz niceC_59 T k1 q (is_f (by omega)) f P
  · rcases q with ⟨j, B⟩ | q
    · exact Or.inl ⟨j, (kp j b B).1⟩
    · exact Or.inr (ex_w X k1 (by decide) q)
theorem kp_sz (T : TH ρ c h) (r0 : ρ x0 = 12) (f : Fr ρ (cat c (SZ noE (is 1503)) h) h o) (K : Kp ρ c x0 b h) : Kp ρ c x0 b o := by
  obtain ⟨k1, P, q⟩ := K
  refine ⟨k1, ?_, ?_⟩
  · rcases q with ⟨j, B⟩ | q
    · exact ry_sz niceC_0 T k1 (pg_r T r0 B).2 (no8 (by decide)) f P
    · exact ry_sz niceC_0 T k1 q rfl f P
  · rcases q with ⟨j, B⟩ | q
    · exact Or.inl ⟨j, (pg_sz niceC_0 rfl T r0 f).mp B⟩
    · exact Or.inr q
theorem alike_loop (hF : 700000 ≤ F) : ∀ (f : Nat) {ρ : Nat → Nat} {c : Cm} {h : Hp} {b : Nat} {x1 x3 x4 x5 : Int32}, (∀ k w i, SZ pgE pgW k w i = true → cPm c k w i = true) → TH ρ c h → ρ x0 = 12 → Rg 0 7 x1 → LwR ρ c h → PgP ρ c x0 h → Kp ρ c x0 b h → 0 ≤ x5.toInt → (301 - x5.toInt).toNat < f → Sat (sX11_countAlike_6 F f h x0 x1 b x3 x4 x5) (MkI ρ c (-2147483648) 2147483647 (fun o => LwR ρ c o ∧ PgP ρ c x0 o ∧ Kp ρ c x0 b o)) := by
  intro f
  induction f with
  | zero => intros; omega
  | succ f ih =>
    intro ρ c h b x1 x3 x4 x5 hp T r0 i1 lw pg K a5 hf
    rw [sX11_countAlike_6]
    refine s_len T r0 i1 (fun r er qr => ?_)
    refine s_br (fun _ => s_some ⟨ρ, c, ex_0, T, rg_top _, lw, pg, K⟩) (fun n1 => ?_)
    have l5 := nlt_i n1
    have p300 := thI T qr (k := 61) (i := x1.toNatClampNeg) (lo := -1) (hi := 300) rfl
    have i5 : Rg 0 300 x5 := ⟨a5, by have := p300.2; omega⟩
    have on : ∀ {ρ2 : Nat → Nat} {c2 : Cm} {g : Hp} {y : Int32}, Ext ρ c ρ2 c2 → TH ρ2 c2 g → LwR ρ2 c2 g → PgP ρ2 c2 x0 g → Kp ρ2 c2 x0 b g → Sat (sX11_countAlike_83 F (sX11_countAlike_6 F f) g x0 x1 b x3 y x5) (MkI ρ c (-2147483648) 2147483647 (fun o => LwR ρ c o ∧ PgP ρ c x0 o ∧ Kp ρ c x0 b o)) := fun {ρ2 c2 g y} Y T2 lw2 pg2 K2 => by
      unfold sX11_countAlike_83
      refine s_q (fun v ev => ?_)
      have ev2 : v.toInt = x5.toInt + 1 := by rw [ev]; exact (nc_s i5 (by decide)).2
      refine s_imp (ih (ex_hp Y hp) T2 (ex_r Y r0 (by decide)) i1 lw2 pg2 K2 (by omega) (by have := i5.2; omega)) (fun o ⟨ρ3, c3, Z, T3, i3, a1, a2, a3⟩ => ⟨ρ3, c3, ex_t Y Z, T3, i3, lw_y Y a1, pgp_y Y a2, K.1, ry_y Y a3.2.1, ?_⟩)
      rcases K.2.2 with ⟨j, B⟩ | q
      · rcases a3.2.2 with z | z
        · exact Or.inl z
        · have := ex_w Y K.1 (by decide) (pg_r T r0 B).2
          rw [this] at z
          omega
      · exact Or.inr q
    have go : Sat (sX11_countAlike_55 F (sX11_countAlike_6 F f) h x0 x1 b x3 x4 x5 1) (MkI ρ c (-2147483648) 2147483647 (fun o => LwR ρ c o ∧ PgP ρ c x0 o ∧ Kp ρ c x0 b o)) := by
      unfold sX11_countAlike_55
      refine s_br (fun z => absurd z (by decide)) (fun _ => ?_)
      obtain ⟨rf, erf, qrf⟩ := thR T r0 (i := 6) (k2 := 6) rfl (by decide)
      refine s_ref erf ?_
      refine s_page hF hp (fun _ => rfl) (fun j hj => pgW_t hj) T r0 i1 i5 pg (fun o1 ρ1 c1 X1 T1 f1 B1 kp1 pg1 us1 => ?_)
      have r1 := ex_r X1 r0 (by decide)
      have qrf1 := ex_r X1 qrf (by decide)
      have hp1 := ex_hp X1 hp
      have lw1 := lw_x T r0 X1 T1 (lw_sz niceC_59 T f1 lw)
      have P1 := ry_x T r0 X1 T1 (us1 r er l5)
      have pg1' := pgp_x T r0 X1 T1 pg1
      have K1 := kp_page T r0 X1 T1 f1 kp1 K
      obtain ⟨k1, w1⟩ := pg_r T1 r1 B1
      unfold sX11_countAlike_74
      have nw1 : ¬ cw c1 b = 1503 := kp_w T1 r1 K1
      have hs : ∀ k w i, SZ noE (is 1503) k w i = true → cPm c1 k w i = true := fun k w i m => hp1 k w i (sz_sub (fun _ _ z => noE_f z) (fun w z => by rw [is_e z]; rfl) m)
      refine s_cIf T1 hs (zX5_areAlike hF (pmA_s (szA (sx_c _)) rfl) (pmO_s (szP (sx_c _) is_s) rfl) rfl w1 nw1 (by omega) (th_in _ T1) qrf1 K1.1 k1 lw1 K1.2.1 P1) (fun o2 T2 i2 f2 => ?_)
      have lw2 := lw_sz niceC_0 T1 f2 lw1
      have pg2 := pgp_sz niceC_0 (fun _ => rfl) (fun _ => rfl) T1 r1 f2 (fun j => Or.inl (no8 (by decide))) pg1'
      have K2 := kp_sz T1 r1 f2 K1
      unfold sX11_countAlike_77
      exact s_br (fun _ => on X1 T2 lw2 pg2 K2) (fun _ => s_q (fun v ev => on X1 T2 lw2 pg2 K2))
    have no' : Sat (sX11_countAlike_55 F (sX11_countAlike_6 F f) h x0 x1 b x3 x4 x5 0) (MkI ρ c (-2147483648) 2147483647 (fun o => LwR ρ c o ∧ PgP ρ c x0 o ∧ Kp ρ c x0 b o)) := by
      unfold sX11_countAlike_55
      exact s_br (fun _ => on ex_0 T lw pg K) (fun z => absurd rfl z)
    unfold sX11_countAlike_50 sX11_countAlike_54
    refine s_br (fun _ => go) (fun _ => ?_)
    refine s_len T r0 i1 (fun r' er' qr' => ?_)
    refine s_br (fun _ => no') (fun _ => ?_)
    obtain ⟨md, emd, qmd⟩ := thR T r0 (i := 16) (k2 := 60) rfl (by decide)
    refine s_ref emd ?_
    refine s_gd (by rw [thN T qmd (k := 60) (n := 2408) rfl (by decide)]; exact rg_inB (gi_r i1 i5) (by decide)) ?_
    exact s_br (fun _ => go) (fun _ => no')
theorem zX11_countAlike (hF : 700000 ≤ F) (hp : ∀ k w i, SZ pgE pgW k w i = true → cPm c k w i = true) (T : TH ρ c h) (r0 : ρ x0 = 12) (i1 : Rg 0 7 x1) (lw : LwR ρ c h) (pg : PgP ρ c x0 h) (K : Kp ρ c x0 b h) : Sat (sX11_countAlike F h x0 x1 b x3) (MkI ρ c (-2147483648) 2147483647 (fun o => LwR ρ c o ∧ PgP ρ c x0 o ∧ Kp ρ c x0 b o)) := by
  unfold sX11_countAlike
  exact alike_loop hF F hp T r0 i1 lw pg K (by decide) (by show (301 - (0 : Int)).toNat < F; omega)
theorem zX11_game (hF : 700000 ≤ F) (hp : ∀ k w i, SZ pgE pgW k w i = true → cPm c k w i = true) (T : TH ρ c h) (r0 : ρ x0 = 12) (lw : LwR ρ c h) (pg : PgP ρ c x0 h) : Sat (sX11_game F h x0 x1 x2) (MkI ρ c (-2147483648) 2147483647 (PgP ρ c x0)) := by
  unfold sX11_game
  refine s_dP0 (zX11_isGame hF T (rg_top _)) (fun oo eb e ii pp => ?_)
  rw [e]
  unfold sX11_game_4 sX11_game_16
  have ex : ∀ {y : Int32}, Sat (some (y, h)) (MkI ρ c (-2147483648) 2147483647 (PgP ρ c x0)) := s_some ⟨ρ, c, ex_0, T, rg_top _, pg⟩
  refine s_br (fun _ => ex) (fun nz => ?_)
  have i1 := pp nz
  refine s_br (fun _ => ex) (fun _ => ?_)
  refine s_br (fun _ => ?_) (fun _ => ex)
  refine s_len T r0 i1 (fun r er qr => ?_)
  refine s_q (fun p0 ep0 => ?_)
  refine s_br (fun _ => ex) (fun n1 => ?_)
  have i2 : Rg 0 300 p0 := rg_nlo n1 (by rw [ep0]; exact thI T qr (k := 61) (lo := -1) (hi := 300) rfl) (rg_b rfl : Rg (-1) (-1) (-1 : Int32))
  refine s_page hF hp (fun _ => rfl) (fun j hj => pgW_t hj) T r0 i1 i2 pg (fun o3 ρ1 c1 X1 T1 f1 B1 kp1 pg1 us1 => ?_)
  have r1 := ex_r X1 r0 (by decide)
  have hp1 := ex_hp X1 hp
  have lw1 := lw_x T r0 X1 T1 (lw_sz niceC_59 T f1 lw)
  have P1 := ry_x T r0 X1 T1 (us1 r er (by rw [ep0]; exact Int.le_refl _))
  have pg1' := pgp_x T r0 X1 T1 pg1
  obtain ⟨k1, w1⟩ := pg_r T1 r1 B1
  have K1 : Kp ρ1 c1 x0 o3.1 o3.2 := ⟨k1, P1, Or.inl ⟨_, B1⟩⟩
  have ex1 : ∀ {y : Int32}, Sat (some (y, o3.2)) (MkI ρ c (-2147483648) 2147483647 (PgP ρ c x0)) := s_some ⟨ρ1, c1, X1, T1, rg_top _, pg1⟩
  unfold sX11_game_40 sX11_game_78 sX11_game_97 sX11_game_101 sX11_game_106 sX11_game_116
  refine s_br (fun _ => ex1) (fun _ => ?_)
  refine s_br (fun _ => ?_) (fun _ => ?_)
  · exact s_cl (s_imp (zX11_countAlike hF hp1 T1 r1 i1 lw1 pg1' K1) (fun o4 ⟨ρ4, c4, X4, T4, i4, a1, a2, a3⟩ => s_some ⟨ρ4, c4, ex_t X1 X4, T4, i4, pgp_y X1 a2⟩))
  refine s_br (fun _ => ?_) (fun _ => ?_)
  · refine s_br (fun _ => ex1) (fun _ => ?_)
    exact s_cl (s_imp (zX11_countAlike hF hp1 T1 r1 i1 lw1 pg1' K1) (fun o4 ⟨ρ4, c4, X4, T4, i4, a1, a2, a3⟩ => s_br (fun _ => s_some ⟨ρ4, c4, ex_t X1 X4, T4, rg_top _, pgp_y X1 a2⟩) (fun _ => s_some ⟨ρ4, c4, ex_t X1 X4, T4, rg_top _, pgp_y X1 a2⟩)))
  obtain ⟨rf, erf, qrf⟩ := thR T1 r1 (i := 6) (k2 := 6) rfl (by decide)
  refine s_ref erf ?_
  have hs : ∀ k w i, SZ noE (is 1503) k w i = true → cPm c1 k w i = true := fun k w i m => hp1 k w i (sz_sub (fun _ _ z => noE_f z) (fun w z => by rw [is_e z]; rfl) m)
  refine s_cIf T1 hs (zX5_endOf hF (pmA_s (szA (sx_c _)) rfl) (pmO_s (szP (sx_c _) is_s) rfl) w1 (by omega) (th_in _ T1) qrf k1 lw1 P1) (fun o2 T2 i2 f2 => ?_)
  exact s_some ⟨ρ1, c1, X1, T2, rg_top _, pgp_y X1 (pgp_sz niceC_0 (fun _ => rfl) (fun _ => rfl) T1 r1 f2 (fun j => Or.inl (no8 (by decide))) pg1')⟩
def stE : Nat → Nat → Bool := fun k _ => k == 58 || k == 59
def stW : Nat → Bool := fun w => w == 3200 || (decide (8000 ≤ w) && decide (w ≤ 10407))
theorem stW_t {j : Nat} (h : j ≤ 2407) : stW (8000 + j) = true := by
  unfold stW
  rw [decide_eq_true (show 8000 ≤ 8000 + j by omega), decide_eq_true (show 8000 + j ≤ 10407 by omega)]
  exact Bool.or_true _
theorem pl_sz (n : niceC E) (n58 : ∀ i, E 58 i = false) (hb : wp 3200 = false) (T : TH ρ c h) (r0 : ρ x0 = 12) (f : Fr ρ (cat c (SZ E wp) h) h o) (P : PlP ρ c x0 h) : PlP ρ c x0 o :=
  pl_fr T r0 f (fun _ => sz_f n.2.1 rfl (Or.inl rfl)) (fun _ => sz_f n.2.2.1 rfl (Or.inl rfl)) (fun _ i => sz_f (n.2.2.2.2.2.2.2 i) rfl (Or.inl rfl)) (fun _ i => sz_f (n58 i) rfl (Or.inl rfl)) (sz_f (n.1 _ _ (by omega)) rfl (Or.inl rfl)) (fun i => sz_f (n.1 _ _ (by omega)) rfl (Or.inr hb)) (fun _ => sz_f (n.1 _ _ (by omega)) rfl (Or.inl rfl)) P
def e58 : Nat → Nat → Bool := fun k _ => k == 58
theorem niceC_58 : niceC e58 := by
  refine ⟨fun k i hk => ?_, rfl, rfl, rfl, rfl, rfl, rfl, fun _ => rfl⟩
  unfold e58
  rw [bq_ne (show k ≠ 58 by omega)]
theorem zX11_now (hF : 700000 ≤ F) (hp : ∀ k w i, SZ stE stW k w i = true → cPm c k w i = true) (T : TH ρ c h) (r0 : ρ x0 = 12) (pl : PlP ρ c x0 h) (pg : PgP ρ c x0 h) : Sat (sX11_now F h x0 x1) (MkI ρ c (-104) 59 (fun o => PlP ρ c x0 o ∧ PgP ρ c x0 o)) := by
  unfold sX11_now
  refine s_dP0 (zX11_isGame hF T (rg_top _)) (fun oo eb e ii pp => ?_)
  rw [e]
  unfold sX11_now_4
  refine s_br (fun _ => s_some ⟨ρ, c, ex_0, T, rg_b rfl, pl, pg⟩) (fun nz => ?_)
  have i1 := pp nz
  refine s_len T r0 i1 (fun r er qr => ?_)
  refine s_br (fun _ => s_some ⟨ρ, c, ex_0, T, rg_b rfl, pl, pg⟩) (fun n1 => ?_)
  have i2 : Rg 0 300 (hI h r x1.toNatClampNeg) := rg_nlo n1 (thI T qr (k := 61) (lo := -1) (hi := 300) rfl) (rg_b rfl : Rg (-1) (-1) (-1 : Int32))
  refine s_cI0 (zX11_freePlace hF T r0) (fun o2 e2 j2 => ?_)
  rw [e2]
  unfold sX11_now_27
  refine s_br (fun _ => s_some ⟨ρ, c, ex_0, T, rg_b rfl, pl, pg⟩) (fun n2 => ?_)
  have ip : Rg 0 59 o2.1 := rg_nlo n2 j2 (rg_b rfl : Rg (-1) (-1) (-1 : Int32))
  refine s_len T r0 i1 (fun r' er' qr' => ?_)
  have : r' = r := r_eq er er'
  subst this
  refine s_page hF hp (fun _ => rfl) (fun j hj => stW_t hj) T r0 i1 i2 pg (fun o3 ρ1 c1 X1 T1 f1 B1 kp1 pg1 us1 => ?_)
  have r1 := ex_r X1 r0 (by decide)
  have hp1 := ex_hp X1 hp
  have P1 := ry_x T r0 X1 T1 (us1 r' er (Int.le_refl _))
  have pg1' := pgp_x T r0 X1 T1 pg1
  have pl1 := pl_x T r0 X1 T1 (pl_sz niceC_59 (fun _ => rfl) (is_f (by omega)) T r0 f1 pl)
  obtain ⟨k1, w1⟩ := pg_r T1 r1 B1
  unfold sX11_now_49 sX11_now_52
  have hs : ∀ k w i, SZ e58 (is 3200) k w i = true → cPm c1 k w i = true := fun k w i m => hp1 k w i (sz_sub (fun k i z => by unfold e58 at z; unfold stE; rw [z]; rfl) (fun w z => by rw [is_e z]; rfl) m)
  refine s_cVfq T1 hs (zX11_settle hF (fun w k i m => sx_c _ k w i (by
      unfold SZ e58
      have : ((58 == k && (999 == 999 || 999 == i)) || false) = true := m
      rw [Bool.or_false, Bool.and_eq_true, beq_iff_eq] at this
      rw [← this.1]; rfl)) (pmO_s (szP (sx_c _) is_s) rfl) w1 (th_in _ T1) r1 ip k1 pl1 P1) (fun o4 T4 f4 p4 => ?_)
  exact s_some ⟨ρ1, c1, X1, T4, rg_m ip (by decide), pl_y X1 p4.1, pgp_y X1 (pgp_sz niceC_58 (fun _ => rfl) (fun _ => rfl) T1 r1 f4 (fun j => Or.inl (no8 (by decide))) pg1')⟩
theorem cbook_loop (hF : 700000 ≤ F) {b : Nat} {x1 x2 : Int32} (ip : Rg 0 59 x1) : ∀ (f : Nat) {ρ : Nat → Nat} {c : Cm} {h : Hp} {x3 x4 : Int32}, (∀ k w i, SZ pgE pgW k w i = true → cPm c k w i = true) → TH ρ c h → ρ x0 = 12 → LwR ρ c h → PgP ρ c x0 h → PC ρ c x0 x1.toNatClampNeg b h → 0 ≤ x4.toInt → (8 - x4.toInt).toNat < f → Sat (sX11_book_34 F f h x0 x1 x2 x3 x4) (MkI ρ c (-2147483648) 2147483647 (PgP ρ c x0)) := by
  intro f
  induction f with
  | zero => intros; omega
  | succ f ih =>
    intro ρ c h x3 x4 hp T r0 lw pg B a4 hf
    have l60 : x1.toNatClampNeg < 60 := by have := rg_clamp (n := 59) ip (by decide); omega
    rw [sX11_book_34]
    refine s_br (fun _ => s_some ⟨ρ, c, ex_0, T, rg_top _, pg⟩) (fun n1 => ?_)
    have l4 : x4.toInt < 8 := nle_i n1
    have i4 : Rg 0 7 x4 := ⟨a4, by omega⟩
    refine s_pc T r0 ip B ?_
    obtain ⟨kb, wb'⟩ := pc_r T r0 l60 B
    have PB : RyP ρ c b h := by obtain ⟨_, _, _, q⟩ := B; exact q
    refine s_mI (S := SZ pgE pgW) T hp (zX11_countAlike (c := cat c (SZ pgE pgW) h) hF (sx_c _) (th_in _ T) r0 i4 lw pg ⟨kb, PB, Or.inr wb'⟩) (fun o1 ρ1 c1 X1 T1 f1 j1 ⟨a1, a2, a3⟩ => ?_)
    have r1 := ex_r X1 r0 (by decide)
    obtain ⟨r, e1, e2, _⟩ := B
    obtain ⟨q1, f2, g1⟩ := thR T r0 (i := 13) (k2 := 57) rfl (by decide)
    have h57 : ρ r = 57 := by rw [r_eq f2 e1]; exact g1
    have B1 : PC ρ1 c1 x0 x1.toNatClampNeg b o1.2 := ⟨r, by rw [x12 r0 f1 rfl]; exact e1, by rw [(fr_RI f1 h57 (by decide) (fun _ => sz_f rfl rfl (Or.inl rfl))).2.2]; exact e2, ry_x T r0 X1 T1 a3.2.1⟩
    unfold sX11_book_55
    refine s_q (fun u eu => ?_)
    refine s_q (fun v ev => ?_)
    have ev2 : v.toInt = x4.toInt + 1 := by rw [ev]; exact (nc_s i4 (by decide)).2
    exact s_imp (ih (ex_hp X1 hp) T1 r1 (lw_x T r0 X1 T1 a1) (pgp_x T r0 X1 T1 a2) B1 (by omega) (by omega)) (fun o2 ⟨ρ2, c2, X2, T2, i2, p2⟩ => ⟨ρ2, c2, ex_t X1 X2, T2, i2, pgp_y X1 p2⟩)
theorem zX11_book (hF : 700000 ≤ F) (hp : ∀ k w i, SZ pgE pgW k w i = true → cPm c k w i = true) (T : TH ρ c h) (r0 : ρ x0 = 12) (lw : LwR ρ c h) (pl : PlP ρ c x0 h) (pg : PgP ρ c x0 h) : Sat (sX11_book F h x0 x1 x2) (MkI ρ c (-2147483648) 2147483647 (PgP ρ c x0)) := by
  unfold sX11_book
  refine s_dP0 (zX11_isPlace hF T r0 (rg_top _)) (fun o2 eb2 e2 ii2 pp2 => ?_)
  rw [e2]
  unfold sX11_book_5 sX11_book_26 sX11_book_29
  have ex : ∀ {y : Int32}, Sat (some (y, h)) (MkI ρ c (-2147483648) 2147483647 (PgP ρ c x0)) := s_some ⟨ρ, c, ex_0, T, rg_top _, pg⟩
  refine s_br (fun _ => ex) (fun nz2 => ?_)
  have ip := pp2 nz2
  have l60 : x1.toNatClampNeg < 60 := by have := rg_clamp (n := 59) ip (by decide); omega
  obtain ⟨b, B⟩ := pc_of T r0 (hr_of T r0 pl eb2 nz2)
  refine s_br (fun _ => cbook_loop hF ip F hp T r0 lw pg B (by decide) (by show (8 - (0 : Int)).toNat < F; omega)) (fun _ => ?_)
  refine s_br (fun _ => ex) (fun _ => ?_)
  have hs : ∀ k w i, SZ noE (is 1503) k w i = true → cPm c k w i = true := fun k w i m => hp k w i (sz_sub (fun _ _ z => noE_f z) (fun w z => by rw [is_e z]; rfl) m)
  refine s_cIfq T hs (zX11_listMoves hF (pmA_s (szA (sx_c _)) rfl) (pmO_s (szP (sx_c _) is_s) rfl) (th_in _ T) r0 (rg_top _) lw pl) (fun o3 T3 i3 f3 p3 => ?_)
  have lw3 := lw_sz niceC_0 T f3 lw
  have pg3 := pgp_sz niceC_0 (fun _ => rfl) (fun _ => rfl) T r0 f3 (fun j => Or.inl (no8 (by decide))) pg
  have B3 := pc_sz niceC_0 l60 T r0 f3 rfl B
  unfold sX11_book_23 sX11_book_29 sX11_book_26
  exact s_br (fun _ => cbook_loop hF ip F hp T3 r0 lw3 pg3 B3 (by decide) (by show (8 - (0 : Int)).toNat < F; omega)) (fun _ => s_some ⟨ρ, c, ex_0, T3, rg_top _, pg3⟩)
end
