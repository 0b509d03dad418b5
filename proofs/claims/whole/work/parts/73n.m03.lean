section
section
variable {ρ ρ1 : Nat → Nat} {c c1 : Cm} {h o g : Hp} {E : Nat → Nat → Bool} {wp : Nat → Bool} {x0 b w i F : Nat} {x1 x2 x3 : Int32}
/-- a position that is held against pages: a page itself, or a place's -/
def Kp (ρ : Nat → Nat) (c : Cm) (x0 b : Nat) (h : Hp) : Prop := ρ b = 4 ∧ RyP ρ c b h ∧ ((∃ j, Pg x0 j b h) ∨ cw c b = 3200)
theorem kp_w (T : TH ρ c h) (r0 : ρ x0 = 12) (K : Kp ρ c x0 b h) : ¬ cw c b = 1503 := by
  rcases K.2.2 with ⟨j, B⟩ | q
  · rw [(pg_r T r0 B).2]; omega
  · rw [q]; decide
theorem kp_page (T : TH ρ c h) (r0 : ρ x0 = 12) (X : Ext ρ c ρ1 c1) (T1 : TH ρ1 c1 o) (f : Fr ρ (cat c (SZ (g59 i) (is (8000 + i))) h) h o) (kp : ∀ j b, Pg x0 j b h → Pg x0 j b o ∧ (RyP ρ c b h → RyP ρ c b o)) (K : Kp ρ c x0 b h) : Kp ρ1 c1 x0 b o := by
  obtain ⟨k1, P, q⟩ := K
  refine ⟨ex_r X k1 (by decide), ?_, ?_⟩
  · refine ry_x T r0 X T1 ?_
    rcases q with ⟨j, B⟩ | q
    · exact (kp j b B).2 P
    · exact ry_sz niceC_59 T k1 q (is_f (by omega)) f P
  · rcases q with ⟨j, B⟩ | q
    · exact Or.inl ⟨j, (kp j b B).1⟩
    · exact Or.inr (ex_w X k1 (by decide) q)
theorem kp_sz (T : TH ρ c h) (r0 : ρ x0 = 12) (f : Fr ρ (cat c (SZ noE (is 1503)) h) h o) (K : Kp ρ c x0 b h) : Kp ρ c x0 b o := by
  obtain ⟨k1, P, q⟩ := K
  refine ⟨k1, ?_, ?_⟩
  · rcases q with ⟨j, B⟩ | q
    · exact ry_sz niceC_0 T k1 (pg_r T r0 B).2 (no8 (by decide)) f P
    · exact ry_sz niceC_0 T k1 q rfl f P
  · rcases q with ⟨j, B⟩ | q
    · exact Or.inl ⟨j, (pg_sz niceC_0 rfl T r0 f).mp B⟩
    · exact Or.inr q
theorem alike_loop (hF : 700000 ≤ F) : ∀ (f : Nat) {ρ : Nat → Nat} {c : Cm} {h : Hp} {b : Nat} {x1 x3 x4 x5 : Int32}, (∀ k w i, SZ pgE pgW k w i = true → cPm c k w i = true) → TH ρ c h → ρ x0 = 12 → Rg 0 7 x1 → LwR ρ c h → PgP ρ c x0 h → Kp ρ c x0 b h → 0 ≤ x5.toInt → (301 - x5.toInt).toNat < f → Sat (sX11_countAlike_6 F f h x0 x1 b x3 x4 x5) (MkI ρ c (-2147483648) 2147483647 (fun o => LwR ρ c o ∧ PgP ρ c x0 o ∧ Kp ρ c x0 b o)) := by
  intro f
  induction f with
  | zero => intros; omega
  | succ f ih =>
    intro ρ c h b x1 x3 x4 x5 hp T r0 i1 lw pg K a5 hf
    rw [sX11_countAlike_6]
    refine s_len T r0 i1 (fun r er qr => ?_)
    refine s_br (fun _ => s_some ⟨ρ, c, ex_0, T, rg_top _, lw, pg, K⟩) (fun n1 => ?_)
    have l5 := nlt_i n1
    have p300 := thI T qr (k := 61) (i := x1.toNatClampNeg) (lo := -1) (hi := 300) rfl
    have i5 : Rg 0 300 x5 := ⟨a5, by have := p300.2; omega⟩
    have on : ∀ {ρ2 : Nat → Nat} {c2 : Cm} {g : Hp} {y : Int32}, Ext ρ c ρ2 c2 → TH ρ2 c2 g → LwR ρ2 c2 g → PgP ρ2 c2 x0 g → Kp ρ2 c2 x0 b g → Sat (sX11_countAlike_83 F (sX11_countAlike_6 F f) g x0 x1 b x3 y x5) (MkI ρ c (-2147483648) 2147483647 (fun o => LwR ρ c o ∧ PgP ρ c x0 o ∧ Kp ρ c x0 b o)) := fun {ρ2 c2 g y} Y T2 lw2 pg2 K2 => by
      unfold sX11_countAlike_83
      refine s_q (fun v ev => ?_)
      have ev2 : v.toInt = x5.toInt + 1 := by rw [ev]; exact (nc_s i5 (by decide)).2
      refine s_imp (ih (ex_hp Y hp) T2 (ex_r Y r0 (by decide)) i1 lw2 pg2 K2 (by omega) (by have := i5.2; omega)) (fun o ⟨ρ3, c3, Z, T3, i3, a1, a2, a3⟩ => ⟨ρ3, c3, ex_t Y Z, T3, i3, lw_y Y a1, pgp_y Y a2, K.1, ry_y Y a3.2.1, ?_⟩)
      rcases K.2.2 with ⟨j, B⟩ | q
      · rcases a3.2.2 with z | z
        · exact Or.inl z
        · have := ex_w Y K.1 (by decide) (pg_r T r0 B).2
          rw [this] at z
          omega
      · exact Or.inr q
    have go : Sat (sX11_countAlike_55 F (sX11_countAlike_6 F f) h x0 x1 b x3 x4 x5 1) (MkI ρ c (-2147483648) 2147483647 (fun o => LwR ρ c o ∧ PgP ρ c x0 o ∧ Kp ρ c x0 b o)) := by
      unfold sX11_countAlike_55
      refine s_br (fun z => absurd z (by decide)) (fun _ => ?_)
      obtain ⟨rf, erf, qrf⟩ := thR T r0 (i := 6) (k2 := 6) rfl (by decide)
      refine s_ref erf ?_
      refine s_page hF hp (fun _ => rfl) (fun j hj => pgW_t hj) T r0 i1 i5 pg (fun o1 ρ1 c1 X1 T1 f1 B1 kp1 pg1 us1 => ?_)
      have r1 := ex_r X1 r0 (by decide)
      have qrf1 := ex_r X1 qrf (by decide)
      have hp1 := ex_hp X1 hp
      have lw1 := lw_x T r0 X1 T1 (lw_sz niceC_59 T f1 lw)
      have P1 := ry_x T r0 X1 T1 (us1 r er l5)
      have pg1' := pgp_x T r0 X1 T1 pg1
      have K1 := kp_page T r0 X1 T1 f1 kp1 K
      obtain ⟨k1, w1⟩ := pg_r T1 r1 B1
      unfold sX11_countAlike_74
      have nw1 : ¬ cw c1 b = 1503 := kp_w T1 r1 K1
      have hs : ∀ k w i, SZ noE (is 1503) k w i = true → cPm c1 k w i = true := fun k w i m => hp1 k w i (sz_sub (fun _ _ z => noE_f z) (fun w z => by rw [is_e z]; rfl) m)
      refine s_cIf T1 hs (zX5_areAlike hF (pmA_s (szA (sx_c _)) rfl) (pmO_s (szP (sx_c _) is_s) rfl) rfl w1 nw1 (by omega) (th_in _ T1) qrf1 K1.1 k1 lw1 K1.2.1 P1) (fun o2 T2 i2 f2 => ?_)
      have lw2 := lw_sz niceC_0 T1 f2 lw1
      have pg2 := pgp_sz niceC_0 (fun _ => rfl) (fun _ => rfl) T1 r1 f2 (fun j => Or.inl (no8 (by decide))) pg1'
      have K2 := kp_sz T1 r1 f2 K1
      unfold sX11_countAlike_77
      exact s_br (fun _ => on X1 T2 lw2 pg2 K2) (fun _ => s_q (fun v ev => on X1 T2 lw2 pg2 K2))
    have no' : Sat (sX11_countAlike_55 F (sX11_countAlike_6 F f) h x0 x1 b x3 x4 x5 0) (MkI ρ c (-2147483648) 2147483647 (fun o => LwR ρ c o ∧ PgP ρ c x0 o ∧ Kp ρ c x0 b o)) := by
      unfold sX11_countAlike_55
      exact s_br (fun _ => on ex_0 T lw pg K) (fun z => absurd rfl z)
    unfold sX11_countAlike_50 sX11_countAlike_54
    refine s_br (fun _ => go) (fun _ => ?_)
    refine s_len T r0 i1 (fun r' er' qr' => ?_)
    refine s_br (fun _ => no') (fun _ => ?_)
    obtain ⟨md, emd, qmd⟩ := thR T r0 (i := 16) (k2 := 60) rfl (by decide)
    refine s_ref emd ?_
    refine s_gd (by rw [thN T qmd (k := 60) (n := 2408) rfl (by decide)]; exact rg_inB (gi_r i1 i5) (by decide)) ?_
    exact s_br (fun _ => go) (fun _ => no')
theorem zX11_countAlike (hF : 700000 ≤ F) (hp : ∀ k w i, SZ pgE pgW k w i = true → cPm c k w i = true) (T : TH ρ c h) (r0 : ρ x0 = 12) (i1 : Rg 0 7 x1) (lw : LwR ρ c h) (pg : PgP ρ c x0 h) (K : Kp ρ c x0 b h) : Sat (sX11_countAlike F h x0 x1 b x3) (MkI ρ c (-2147483648) 2147483647 (fun o => LwR ρ c o ∧ PgP ρ c x0 o ∧ Kp ρ c x0 b o)) := by
  unfold sX11_countAlike
  exact alike_loop hF F hp T r0 i1 lw pg K (by decide) (by show (301 - (0 : Int)).toNat < F; omega)
theorem zX11_game (hF : 700000 ≤ F) (hp : ∀ k w i, SZ pgE pgW k w i = true → cPm c k w i = true) (T : TH ρ c h) (r0 : ρ x0 = 12) (lw : LwR ρ c h) (pg : PgP ρ c x0 h) : Sat (sX11_game F h x0 x1 x2) (MkI ρ c (-2147483648) 2147483647 (PgP ρ c x0)) := by
  unfold sX11_game
  refine s_dP0 (zX11_isGame hF T (rg_top _)) (fun oo eb e ii pp => ?_)
  rw [e]
  unfold sX11_game_4 sX11_game_16
  have ex : ∀ {y : Int32}, Sat (some (y, h)) (MkI ρ c (-2147483648) 2147483647 (PgP ρ c x0)) := s_some ⟨ρ, c, ex_0, T, rg_top _, pg⟩
  refine s_br (fun _ => ex) (fun nz => ?_)
  have i1 := pp nz
  refine s_br (fun _ => ex) (fun _ => ?_)
  refine s_br (fun _ => ?_) (fun _ => ex)
  refine s_len T r0 i1 (fun r er qr => ?_)
  refine s_q (fun p0 ep0 => ?_)
  refine s_br (fun _ => ex) (fun n1 => ?_)
  have i2 : Rg 0 300 p0 := rg_nlo n1 (by rw [ep0]; exact thI T qr (k := 61) (lo := -1) (hi := 300) rfl) (rg_b rfl : Rg (-1) (-1) (-1 : Int32))
  refine s_page hF hp (fun _ => rfl) (fun j hj => pgW_t hj) T r0 i1 i2 pg (fun o3 ρ1 c1 X1 T1 f1 B1 kp1 pg1 us1 => ?_)
  have r1 := ex_r X1 r0 (by decide)
  have hp1 := ex_hp X1 hp
  have lw1 := lw_x T r0 X1 T1 (lw_sz niceC_59 T f1 lw)
  have P1 := ry_x T r0 X1 T1 (us1 r er (by rw [ep0]; exact Int.le_refl _))
  have pg1' := pgp_x T r0 X1 T1 pg1
  obtain ⟨k1, w1⟩ := pg_r T1 r1 B1
  have K1 : Kp ρ1 c1 x0 o3.1 o3.2 := ⟨k1, P1, Or.inl ⟨_, B1⟩⟩
  have ex1 : ∀ {y : Int32}, Sat (some (y, o3.2)) (MkI ρ c (-2147483648) 2147483647 (PgP ρ c x0)) := s_some ⟨ρ1, c1, X1, T1, rg_top _, pg1⟩
  unfold sX11_game_40 sX11_game_78 sX11_game_97 sX11_game_101 sX11_game_106 sX11_game_116
  refine s_br (fun _ => ex1) (fun _ => ?_)
  refine s_br (fun _ => ?_) (fun _ => ?_)
  · exact s_cl (s_imp (zX11_countAlike hF hp1 T1 r1 i1 lw1 pg1' K1) (fun o4 ⟨ρ4, c4, X4, T4, i4, a1, a2, a3⟩ => s_some ⟨ρ4, c4, ex_t X1 X4, T4, i4, pgp_y X1 a2⟩))
  refine s_br (fun _ => ?_) (fun _ => ?_)
  · refine s_br (fun _ => ex1) (fun _ => ?_)
    exact s_cl (s_imp (zX11_countAlike hF hp1 T1 r1 i1 lw1 pg1' K1) (fun o4 ⟨ρ4, c4, X4, T4, i4, a1, a2, a3⟩ => s_br (fun _ => s_some ⟨ρ4, c4, ex_t X1 X4, T4, rg_top _, pgp_y X1 a2⟩) (fun _ => s_some ⟨ρ4, c4, ex_t X1 X4, T4, rg_top _, pgp_y X1 a2⟩)))
  obtain ⟨rf, erf, qrf⟩ := thR T1 r1 (i := 6) (k2 := 6) rfl (by decide)
  refine s_ref erf ?_
  have hs : ∀ k w i, SZ noE (is 1503) k w i = true → cPm c1 k w i = true := fun k w i m => hp1 k w i (sz_sub (fun _ _ z => noE_f z) (fun w z => by rw [is_e z]; rfl) m)
  refine s_cIf T1 hs (zX5_endOf hF (pmA_s (szA (sx_c _)) rfl) (pmO_s (szP (sx_c _) is_s) rfl) w1 (by omega) (th_in _ T1) qrf k1 lw1 P1) (fun o2 T2 i2 f2 => ?_)
  exact s_some ⟨ρ1, c1, X1, T2, rg_top _, pgp_y X1 (pgp_sz niceC_0 (fun _ => rfl) (fun _ => rfl) T1 r1 f2 (fun j => Or.inl (no8 (by decide))) pg1')⟩
def stE : Nat → Nat → Bool := fun k _ => k == 58 || k == 59
def stW : Nat → Bool := fun w => w == 3200 || (decide (8000 ≤ w) && decide (w ≤ 10407))
theorem stW_t {j : Nat} (h : j ≤ 2407) : stW (8000 + j) = true := by
  unfold stW
  rw [decide_eq_true (show 8000 ≤ 8000 + j by omega), decide_eq_true (show 8000 + j ≤ 10407 by omega)]
  exact Bool.or_true _
theorem pl_sz (n : niceC E) (n58 : ∀ i, E 58 i = false) (hb : wp 3200 = false) (T : TH ρ c h) (r0 : ρ x0 = 12) (f : Fr ρ (cat c (SZ E wp) h) h o) (P : PlP ρ c x0 h) : PlP ρ c x0 o :=
  pl_fr T r0 f (fun _ => sz_f n.2.1 rfl (Or.inl rfl)) (fun _ => sz_f n.2.2.1 rfl (Or.inl rfl)) (fun _ i => sz_f (n.2.2.2.2.2.2.2 i) rfl (Or.inl rfl)) (fun _ i => sz_f (n58 i) rfl (Or.inl rfl)) (sz_f (n.1 _ _ (by omega)) rfl (Or.inl rfl)) (fun i => sz_f (n.1 _ _ (by omega)) rfl (Or.inr hb)) (fun _ => sz_f (n.1 _ _ (by omega)) rfl (Or.inl rfl)) P
def e58 : Nat → Nat → Bool := fun k _ => k == 58
theorem niceC_58 : niceC e58 := by
  refine ⟨fun k i hk => ?_, rfl, rfl, rfl, rfl, rfl, rfl, fun _ => rfl⟩
  unfold e58
  rw [bq_ne (show k ≠ 58 by omega)]
theorem zX11_now (hF : 700000 ≤ F) (hp : ∀ k w i, SZ stE stW k w i = true → cPm c k w i = true) (T : TH ρ c h) (r0 : ρ x0 = 12) (pl : PlP ρ c x0 h) (pg : PgP ρ c x0 h) : Sat (sX11_now F h x0 x1) (MkI ρ c (-104) 59 (fun o => PlP ρ c x0 o ∧ PgP ρ c x0 o)) := by
  unfold sX11_now
  refine s_dP0 (zX11_isGame hF T (rg_top _)) (fun oo eb e ii pp => ?_)
  rw [e]
  unfold sX11_now_4
  refine s_br (fun _ => s_some ⟨ρ, c, ex_0, T, rg_b rfl, pl, pg⟩) (fun nz => ?_)
  have i1 := pp nz
  refine s_len T r0 i1 (fun r er qr => ?_)
  refine s_br (fun _ => s_some ⟨ρ, c, ex_0, T, rg_b rfl, pl, pg⟩) (fun n1 => ?_)
  have i2 : Rg 0 300 (hI h r x1.toNatClampNeg) := rg_nlo n1 (thI T qr (k := 61) (lo := -1) (hi := 300) rfl) (rg_b rfl : Rg (-1) (-1) (-1 : Int32))
  refine s_cI0 (zX11_freePlace hF T r0) (fun o2 e2 j2 => ?_)
  rw [e2]
  unfold sX11_now_27
  refine s_br (fun _ => s_some ⟨ρ, c, ex_0, T, rg_b rfl, pl, pg⟩) (fun n2 => ?_)
  have ip : Rg 0 59 o2.1 := rg_nlo n2 j2 (rg_b rfl : Rg (-1) (-1) (-1 : Int32))
  refine s_len T r0 i1 (fun r' er' qr' => ?_)
  have : r' = r := r_eq er er'
  subst this
  refine s_page hF hp (fun _ => rfl) (fun j hj => stW_t hj) T r0 i1 i2 pg (fun o3 ρ1 c1 X1 T1 f1 B1 kp1 pg1 us1 => ?_)
  have r1 := ex_r X1 r0 (by decide)
  have hp1 := ex_hp X1 hp
  have P1 := ry_x T r0 X1 T1 (us1 r' er (Int.le_refl _))
  have pg1' := pgp_x T r0 X1 T1 pg1
  have pl1 := pl_x T r0 X1 T1 (pl_sz niceC_59 (fun _ => rfl) (is_f (by omega)) T r0 f1 pl)
  obtain ⟨k1, w1⟩ := pg_r T1 r1 B1
  unfold sX11_now_49 sX11_now_52
  have hs : ∀ k w i, SZ e58 (is 3200) k w i = true → cPm c1 k w i = true := fun k w i m => hp1 k w i (sz_sub (fun k i z => by unfold e58 at z; unfold stE; rw [z]; rfl) (fun w z => by rw [is_e z]; rfl) m)
  refine s_cVfq T1 hs (zX11_settle hF (fun w k i m => sx_c _ k w i (by
      unfold SZ e58
      have : ((58 == k && (999 == 999 || 999 == i)) || false) = true := m
      rw [Bool.or_false, Bool.and_eq_true, beq_iff_eq] at this
      rw [← this.1]; rfl)) (pmO_s (szP (sx_c _) is_s) rfl) w1 (th_in _ T1) r1 ip k1 pl1 P1) (fun o4 T4 f4 p4 => ?_)
  exact s_some ⟨ρ1, c1, X1, T4, rg_m ip (by decide), pl_y X1 p4.1, pgp_y X1 (pgp_sz niceC_58 (fun _ => rfl) (fun _ => rfl) T1 r1 f4 (fun j => Or.inl (no8 (by decide))) pg1')⟩
theorem cbook_loop (hF : 700000 ≤ F) {b : Nat} {x1 x2 : Int32} (ip : Rg 0 59 x1) : ∀ (f : Nat) {ρ : Nat → Nat} {c : Cm} {h : Hp} {x3 x4 : Int32}, (∀ k w i, SZ pgE pgW k w i = true → cPm c k w i = true) → TH ρ c h → ρ x0 = 12 → LwR ρ c h → PgP ρ c x0 h → PC ρ c x0 x1.toNatClampNeg b h → 0 ≤ x4.toInt → (8 - x4.toInt).toNat < f → Sat (sX11_book_34 F f h x0 x1 x2 x3 x4) (MkI ρ c (-2147483648) 2147483647 (PgP ρ c x0)) := by
  intro f
  induction f with
  | zero => intros; omega
  | succ f ih =>
    intro ρ c h x3 x4 hp T r0 lw pg B a4 hf
    have l60 : x1.toNatClampNeg < 60 := by have := rg_clamp (n := 59) ip (by decide); omega
    rw [sX11_book_34]
    refine s_br (fun _ => s_some ⟨ρ, c, ex_0, T, rg_top _, pg⟩) (fun n1 => ?_)
    have l4 : x4.toInt < 8 := nle_i n1
    have i4 : Rg 0 7 x4 := ⟨a4, by omega⟩
    refine s_pc T r0 ip B ?_
    obtain ⟨kb, wb'⟩ := pc_r T r0 l60 B
    have PB : RyP ρ c b h := by obtain ⟨_, _, _, q⟩ := B; exact q
    refine s_mI (S := SZ pgE pgW) T hp (zX11_countAlike (c := cat c (SZ pgE pgW) h) hF (sx_c _) (th_in _ T) r0 i4 lw pg ⟨kb, PB, Or.inr wb'⟩) (fun o1 ρ1 c1 X1 T1 f1 j1 ⟨a1, a2, a3⟩ => ?_)
    have r1 := ex_r X1 r0 (by decide)
    obtain ⟨r, e1, e2, _⟩ := B
    obtain ⟨q1, f2, g1⟩ := thR T r0 (i := 13) (k2 := 57) rfl (by decide)
    have h57 : ρ r = 57 := by rw [r_eq f2 e1]; exact g1
    have B1 : PC ρ1 c1 x0 x1.toNatClampNeg b o1.2 := ⟨r, by rw [x12 r0 f1 rfl]; exact e1, by rw [(fr_RI f1 h57 (by decide) (fun _ => sz_f rfl rfl (Or.inl rfl))).2.2]; exact e2, ry_x T r0 X1 T1 a3.2.1⟩
    unfold sX11_book_55
    refine s_q (fun u eu => ?_)
    refine s_q (fun v ev => ?_)
    have ev2 : v.toInt = x4.toInt + 1 := by rw [ev]; exact (nc_s i4 (by decide)).2
    exact s_imp (ih (ex_hp X1 hp) T1 r1 (lw_x T r0 X1 T1 a1) (pgp_x T r0 X1 T1 a2) B1 (by omega) (by omega)) (fun o2 ⟨ρ2, c2, X2, T2, i2, p2⟩ => ⟨ρ2, c2, ex_t X1 X2, T2, i2, pgp_y X1 p2⟩)
theorem zX11_book (hF : 700000 ≤ F) (hp : ∀ k w i, SZ pgE pgW k w i = true → cPm c k w i = true) (T : TH ρ c h) (r0 : ρ x0 = 12) (lw : LwR ρ c h) (pl : PlP ρ c x0 h) (pg : PgP ρ c x0 h) : Sat (sX11_book F h x0 x1 x2) (MkI ρ c (-2147483648) 2147483647 (PgP ρ c x0)) := by
  unfold sX11_book
  refine s_dP0 (zX11_isPlace hF T r0 (rg_top _)) (fun o2 eb2 e2 ii2 pp2 => ?_)
  rw [e2]
  unfold sX11_book_5 sX11_book_26 sX11_book_29
  have ex : ∀ {y : Int32}, Sat (some (y, h)) (MkI ρ c (-2147483648) 2147483647 (PgP ρ c x0)) := s_some ⟨ρ, c, ex_0, T, rg_top _, pg⟩
  refine s_br (fun _ => ex) (fun nz2 => ?_)
  have ip := pp2 nz2
  have l60 : x1.toNatClampNeg < 60 := by have := rg_clamp (n := 59) ip (by decide); omega
  obtain ⟨b, B⟩ := pc_of T r0 (hr_of T r0 pl eb2 nz2)
  refine s_br (fun _ => cbook_loop hF ip F hp T r0 lw pg B (by decide) (by show (8 - (0 : Int)).toNat < F; omega)) (fun _ => ?_)
  refine s_br (fun _ => ex) (fun _ => ?_)
  have hs : ∀ k w i, SZ noE (is 1503) k w i = true → cPm c k w i = true := fun k w i m => hp k w i (sz_sub (fun _ _ z => noE_f z) (fun w z => by rw [is_e z]; rfl) m)
  refine s_cIfq T hs (zX11_listMoves hF (pmA_s (szA (sx_c _)) rfl) (pmO_s (szP (sx_c _) is_s) rfl) (th_in _ T) r0 (rg_top _) lw pl) (fun o3 T3 i3 f3 p3 => ?_)
  have lw3 := lw_sz niceC_0 T f3 lw
  have pg3 := pgp_sz niceC_0 (fun _ => rfl) (fun _ => rfl) T r0 f3 (fun j => Or.inl (no8 (by decide))) pg
  have B3 := pc_sz niceC_0 l60 T r0 f3 rfl B
  unfold sX11_book_23 sX11_book_29 sX11_book_26
  exact s_br (fun _ => cbook_loop hF ip F hp T3 r0 lw3 pg3 B3 (by decide) (by show (8 - (0 : Int)).toNat < F; omega)) (fun _ => s_some ⟨ρ, c, ex_0, T3, rg_top _, pg3⟩)
end
end
section
/-! the tree of the class's problems -/
def tE : Nat → Nat → Bool := fun k i => (k == 5 && (i == 8 || i == 9)) || (decide (41 ≤ k) && decide (k ≤ 44))
def tW (d : Nat) : Nat → Bool := fun w => w == 1503 || (decide (3100 + d < w) && decide (w ≤ 3108))
theorem tW_t {d j : Nat} (h : d < j) (l : j ≤ 8) : tW d (3100 + j) = true := by
  unfold tW
  rw [decide_eq_true (show 3100 + d < 3100 + j by omega), decide_eq_true (show 3100 + j ≤ 3108 by omega)]
  exact Bool.or_true _
theorem tW_f {d j : Nat} (h : j ≤ d) : tW d (3100 + j) = false := by
  unfold tW
  rw [decide_eq_false (show ¬ 3100 + d < 3100 + j by omega), bq_ne (show 3100 + j ≠ 1503 by omega)]
  rfl
theorem tW_s {d e : Nat} (h : d ≤ e) : ∀ w, tW e w = true → tW d w = true := fun w z => by
  unfold tW at z ⊢
  rw [Bool.or_eq_true, Bool.and_eq_true, decide_eq_true_eq, decide_eq_true_eq] at z ⊢
  exact z.imp id (fun y => ⟨by omega, y.2⟩)
theorem niceC_t : niceC tE := by
  refine ⟨fun k i hk => ?_, rfl, rfl, rfl, rfl, rfl, rfl, fun _ => rfl⟩
  unfold tE
  rw [bq_ne (show k ≠ 5 by omega)]
  by_cases q : 41 ≤ k
  · omega
  · rw [decide_eq_false q]; rfl
/-- a position of the path -/
def PQ (ρ : Nat → Nat) (c : Cm) (x0 d b : Nat) (h : Hp) : Prop := ∃ r, hR h x0 1 = some r ∧ hR h r d = some b ∧ RyP ρ c b h
/-- rows are counted to their most while none is over -/
def RcP (x0 : Nat) (h : Hp) : Prop := (hI h x0 9).toInt = 0 → ∀ r, hR h x0 4 = some r → ∀ j, j < 8 → (hI h r j).toInt ≤ 100000
section
variable {ρ : Nat → Nat} {c : Cm} {h o : Hp} {E : Nat → Nat → Bool} {wp : Nat → Bool} {x0 b d w i F : Nat} {x1 x2 x3 : Int32}
theorem x5R (r0 : ρ x0 = 5) (f : Fr ρ (cat c (SZ E wp) h) h o) (e : E 5 i = false) : hR o x0 i = hR h x0 i := (fr_RI f r0 (by decide) (fun _ => sz_f e rfl (Or.inl rfl))).2.2
theorem x5I (r0 : ρ x0 = 5) (f : Fr ρ (cat c (SZ E wp) h) h o) (e : E 5 i = false) : hI o x0 i = hI h x0 i := (fr_RI f r0 (by decide) (fun _ => sz_f e rfl (Or.inl rfl))).1
theorem path_r (T : TH ρ c h) (r0 : ρ x0 = 5) {r : Nat} (e1 : hR h x0 1 = some r) : ρ r = 39 := by
  obtain ⟨q1, f1, g1⟩ := thR T r0 (i := 1) (k2 := 39) rfl (by decide)
  rw [r_eq f1 e1]; exact g1
theorem path_b (T : TH ρ c h) (r0 : ρ x0 = 5) {r : Nat} (hd : d < 9) (e1 : hR h x0 1 = some r) (e2 : hR h r d = some b) : ρ b = 4 ∧ cw c b = 3100 + d := by
  have h1 := path_r T r0 e1
  have hk : rfK 39 d = 4 := if_pos hd
  obtain ⟨b', e3, e4⟩ := thR T h1 (i := d) (k2 := 4) hk (by decide)
  exact ⟨by rw [r_eq e3 e2]; exact e4, th_id T h1 (w := 3100 + d) e2 rfl (by omega)⟩
theorem pq_r (T : TH ρ c h) (r0 : ρ x0 = 5) (hd : d < 9) (B : PQ ρ c x0 d b h) : ρ b = 4 ∧ cw c b = 3100 + d := by
  obtain ⟨r, e1, e2, _⟩ := B
  exact path_b T r0 hd e1 e2
theorem pq_sz (n : niceC E) (n1 : E 5 1 = false) (n39 : E 39 d = false) (hd : d < 9) (T : TH ρ c h) (r0 : ρ x0 = 5) (f : Fr ρ (cat c (SZ E wp) h) h o) (hb : wp (3100 + d) = false) (B : PQ ρ c x0 d b h) : PQ ρ c x0 d b o := by
  obtain ⟨k1, k3⟩ := pq_r T r0 hd B
  obtain ⟨r, e1, e2, P⟩ := B
  have h1 := path_r T r0 e1
  refine ⟨r, ?_, ?_, ry_sz n T k1 k3 hb f P⟩
  · rw [x5R r0 f n1]; exact e1
  · rw [(fr_RI f h1 (by decide) (fun _ => sz_f n39 rfl (Or.inl rfl))).2.2]; exact e2
theorem s_path {β : Type} {Q : β → Prop} {k : Nat → Option β} (T : TH ρ c h) (r0 : ρ x0 = 5) (i1 : Rg 0 8 x1) (B : PQ ρ c x0 x1.toNatClampNeg b h) (H : Sat (k b) Q) : Sat (cl (hR h x0 1) fun r_1 => gd (inB x1 (hN h r_1)) <| cl (hR h r_1 x1.toNatClampNeg) k) Q := by
  obtain ⟨r, e1, e2, P⟩ := B
  have h1 := path_r T r0 e1
  refine s_ref e1 ?_
  refine s_gd (by rw [thN T h1 (k := 39) (n := 9) rfl (by decide)]; exact rg_inB i1 (by decide)) ?_
  exact s_ref e2 H
theorem s_path0 {β : Type} {Q : β → Prop} {k : Nat → Option β} (T : TH ρ c h) (r0 : ρ x0 = 5) (i1 : Rg 0 8 x1) (H : ∀ r b, hR h x0 1 = some r → hR h r x1.toNatClampNeg = some b → ρ b = 4 → cw c b = 3100 + x1.toNatClampNeg → Sat (k b) Q) : Sat (cl (hR h x0 1) fun r_1 => gd (inB x1 (hN h r_1)) <| cl (hR h r_1 x1.toNatClampNeg) k) Q := by
  obtain ⟨r, e1, h1⟩ := thR T r0 (i := 1) (k2 := 39) rfl (by decide)
  have l9 : x1.toNatClampNeg < 9 := by have := rg_clamp (n := 8) i1 (by decide); omega
  have hk : rfK 39 x1.toNatClampNeg = 4 := if_pos l9
  obtain ⟨b, e3, e4⟩ := thR T h1 (i := x1.toNatClampNeg) (k2 := 4) hk (by decide)
  refine s_ref e1 ?_
  refine s_gd (by rw [thN T h1 (k := 39) (n := 9) rfl (by decide)]; exact rg_inB i1 (by decide)) ?_
  exact s_ref e3 (H r b e1 e3 e4 (path_b T r0 l9 e1 e3).2)
theorem s_lst {β : Type} {Q : β → Prop} {k : Nat → Option β} (T : TH ρ c h) (r0 : ρ x0 = 5) (i1 : Rg 0 7 x1) (H : ∀ b, ρ b = 47 → Sat (k b) Q) : Sat (cl (hR h x0 2) fun r_1 => gd (inB x1 (hN h r_1)) <| cl (hR h r_1 x1.toNatClampNeg) k) Q := by
  obtain ⟨r, e1, h1⟩ := thR T r0 (i := 2) (k2 := 40) rfl (by decide)
  have hk : rfK 40 x1.toNatClampNeg = 47 := if_pos (by have := rg_clamp (n := 7) i1 (by decide); omega)
  obtain ⟨b, e3, e4⟩ := thR T h1 (i := x1.toNatClampNeg) (k2 := 47) hk (by decide)
  refine s_ref e1 ?_
  refine s_gd (by rw [thN T h1 (k := 40) (n := 8) rfl (by decide)]; exact rg_inB i1 (by decide)) ?_
  exact s_ref e3 (H b e4)
/-- what only writes ends, ways and the like keeps all of this -/
theorem rc_sz (n4 : E 5 4 = false) (n9 : E 5 9 = false) (n42 : ∀ i, E 42 i = false) (T : TH ρ c h) (r0 : ρ x0 = 5) (f : Fr ρ (cat c (SZ E wp) h) h o) (P : RcP x0 h) : RcP x0 o := fun z r er j hj => by
  rw [x5I r0 f n9] at z
  rw [x5R r0 f n4] at er
  obtain ⟨q1, f1, g1⟩ := thR T r0 (i := 4) (k2 := 42) rfl (by decide)
  rw [(fr_RI f (show ρ r = 42 by rw [r_eq f1 er]; exact g1) (by decide) (fun _ => sz_f (n42 _) rfl (Or.inl rfl))).1]
  exact P z r er j hj
def eE (k0 : Nat) : Nat → Nat → Bool := fun k _ => k == k0
theorem niceC_e {k0 : Nat} (h : 41 ≤ k0 ∧ k0 ≤ 44) : niceC (eE k0) := by
  have z : ∀ k i, k ≠ k0 → eE k0 k i = false := fun k i hk => by unfold eE; exact bq_ne hk
  exact ⟨fun k i hk => z k i (by omega), z _ _ (by omega), z _ _ (by omega), z _ _ (by omega), z _ _ (by omega), z _ _ (by omega), z _ _ (by omega), fun _ => z _ _ (by omega)⟩
/-- a write into one of the rows, as a frame of the same form -/
theorem fr_e {k0 a j : Nat} {v : Int32} (qa : ρ a = k0) (e : o = wI h a j v) : Fr ρ (cat c (SZ (eE k0) no) h) h o := by
  rw [e]
  exact fu_wI ⟨fun _ _ _ _ => ⟨rfl, rfl, rfl⟩, fun _ _ => rfl⟩ qa (by show SZ (eE k0) no k0 (cw c a) j = true; unfold SZ eE; rw [beq_self_eq_true]; rfl)
end
end
section
abbrev Zt (ρ : Nat → Nat) (c : Cm) (x0 : Nat) : Int32 × Hp → Prop := fun o => TH ρ c o.2 ∧ RcP x0 o.2
def e8 : Nat → Nat → Bool := fun k i => k == 5 && i == 8
theorem niceC_8 : niceC e8 := by
  refine ⟨fun k i hk => ?_, rfl, rfl, rfl, rfl, rfl, rfl, fun _ => rfl⟩
  unfold e8
  rw [bq_ne (show k ≠ 5 by omega)]; rfl
def e9 : Nat → Nat → Bool := fun k i => k == 5 && i == 9
theorem niceC_9 : niceC e9 := by
  refine ⟨fun k i hk => ?_, rfl, rfl, rfl, rfl, rfl, rfl, fun _ => rfl⟩
  unfold e9
  rw [bq_ne (show k ≠ 5 by omega)]; rfl
section
variable {ρ : Nat → Nat} {c : Cm} {h o : Hp} {E : Nat → Nat → Bool} {wp : Nat → Bool} {x0 b d w i F : Nat} {x1 x2 x3 : Int32}
theorem s_zt {β : Type} {Q : β → Prop} {S : Nat → Nat → Nat → Bool} {m : Option (Int32 × Hp)} {k : Int32 × Hp → Option β} (T : TH ρ c h) (hs : ∀ k w i, S k w i = true → cPm c k w i = true) (Z : Sat m (Zt ρ (cat c S h) x0)) (H : ∀ o, TH ρ c o.2 → Fr ρ (cat c S h) h o.2 → RcP x0 o.2 → Sat (k o) Q) : Sat (cl m k) Q := s_cl (s_imp Z fun o ho => H o (th_out T hs ho.1) (fr_u T ho.1.2.2) ho.2)
theorem fr_8 {v : Int32} (r0 : ρ x0 = 5) (e : o = wI h x0 8 v) : Fr ρ (cat c (SZ e8 no) h) h o := by
  rw [e]
  exact fu_wI ⟨fun _ _ _ _ => ⟨rfl, rfl, rfl⟩, fun _ _ => rfl⟩ r0 (by show SZ e8 no 5 (cw c x0) 8 = true; rfl)
theorem fr_9 {v : Int32} (r0 : ρ x0 = 5) (e : o = wI h x0 9 v) : Fr ρ (cat c (SZ e9 no) h) h o := by
  rw [e]
  exact fu_wI ⟨fun _ _ _ _ => ⟨rfl, rfl, rfl⟩, fun _ _ => rfl⟩ r0 (by show SZ e9 no 5 (cw c x0) 9 = true; rfl)
theorem hs1 (hp : ∀ k w i, SZ tE (tW d) k w i = true → cPm c k w i = true) : ∀ k w i, SZ noE (is 1503) k w i = true → cPm c k w i = true := fun k w i m => hp k w i (sz_sub (fun _ _ z => noE_f z) (fun w z => by rw [is_e z]; rfl) m)
/-- a position of the path: moves are listed -/
theorem s_coll {β : Type} {Q : β → Prop} {k : Int32 × Hp → Option β} {rf ls e j : Nat} (hF : 700000 ≤ F) (hp : ∀ k w i, SZ tE (tW e) k w i = true → cPm c k w i = true) (hd : d < 9) (T : TH ρ c h) (r0 : ρ x0 = 5) (qf : ρ rf = 6) (qs : ρ ls = 47) (lw : LwR ρ c h) (rc : RcP x0 h) (B : PQ ρ c x0 d b h) (H : ∀ o, TH ρ c o.2 → Rg 0 4096 o.1 → Fr ρ (cat c (SZ noE (is 1503)) h) h o.2 → LwR ρ c o.2 → RcP x0 o.2 → PQ ρ c x0 d b o.2 → Sat (k o) Q) : Sat (cl (sX5_collect F h rf b ls (4096 : Int32)) k) Q := by
  obtain ⟨k1, w1⟩ := pq_r T r0 hd B
  have P : RyP ρ c b h := by obtain ⟨_, _, _, q⟩ := B; exact q
  refine s_cIf T (hs1 hp) (zX5_collect hF (pmA_s (szA (sx_c _)) rfl) (pmO_s (szP (sx_c _) is_s) rfl) w1 rfl (by omega) (th_in _ T) qf k1 qs (rg_b rfl) lw P) (fun o T1 i1 f1 => ?_)
  exact H o T1 i1 f1 (lw_sz niceC_0 T f1 lw) (rc_sz rfl rfl (fun _ => rfl) T r0 f1 rc) (pq_sz niceC_0 rfl rfl hd T r0 f1 (is_f (by omega)) B)
theorem s_endP {β : Type} {Q : β → Prop} {k : Int32 × Hp → Option β} {rf e : Nat} (hF : 700000 ≤ F) (hp : ∀ k w i, SZ tE (tW e) k w i = true → cPm c k w i = true) (hd : d < 9) (T : TH ρ c h) (r0 : ρ x0 = 5) (qf : ρ rf = 6) (lw : LwR ρ c h) (rc : RcP x0 h) (B : PQ ρ c x0 d b h) (H : ∀ o, TH ρ c o.2 → Rg 0 6 o.1 → Fr ρ (cat c (SZ noE (is 1503)) h) h o.2 → LwR ρ c o.2 → RcP x0 o.2 → PQ ρ c x0 d b o.2 → Sat (k o) Q) : Sat (cl (sX5_endOf F h rf b) k) Q := by
  obtain ⟨k1, w1⟩ := pq_r T r0 hd B
  have P : RyP ρ c b h := by obtain ⟨_, _, _, q⟩ := B; exact q
  refine s_cIf T (hs1 hp) (zX5_endOf hF (pmA_s (szA (sx_c _)) rfl) (pmO_s (szP (sx_c _) is_s) rfl) w1 (by omega) (th_in _ T) qf k1 lw P) (fun o T1 i1 f1 => ?_)
  exact H o T1 i1 f1 (lw_sz niceC_0 T f1 lw) (rc_sz rfl rfl (fun _ => rfl) T r0 f1 rc) (pq_sz niceC_0 rfl rfl hd T r0 f1 (is_f (by omega)) B)
end
/-- the five of the recursion, at a depth of it -/
def Five (F x0 N : Nat) (A : Hp → Nat → Int32 → Int32 → Option (Int32 × Hp)) (R G : Hp → Nat → Int32 → Option (Int32 × Hp)) (B : Hp → Nat → Int32 → Int32 → Option (Int32 × Hp)) (Tr : Hp → Nat → Int32 → Option (Int32 × Hp)) : Prop :=
  (∀ {ρ : Nat → Nat} {c : Cm} {h : Hp} {b d : Nat} {x1 x2 : Int32}, (∀ k w i, SZ tE (tW d) k w i = true → cPm c k w i = true) → TH ρ c h → ρ x0 = 5 → x1.toNatClampNeg = d → Rg 0 7 x1 → LwR ρ c h → (hI h x0 9).toInt = 0 → RcP x0 h → PQ ρ c x0 (d + 1) b h → Rg 0 4095 x2 → 3 * (7 - d) + 2 ≤ N → Sat (A h x0 x1 x2) (Zt ρ c x0)) ∧
  (∀ {ρ : Nat → Nat} {c : Cm} {h : Hp} {b d : Nat} {x1 : Int32}, (∀ k w i, SZ tE (tW d) k w i = true → cPm c k w i = true) → TH ρ c h → ρ x0 = 5 → x1.toNatClampNeg = d → Rg 0 7 x1 → LwR ρ c h → (hI h x0 9).toInt = 0 → RcP x0 h → PQ ρ c x0 (d + 1) b h → 3 * (7 - d) + 2 ≤ N → Sat (R h x0 x1) (Zt ρ c x0)) ∧
  (∀ {ρ : Nat → Nat} {c : Cm} {h : Hp} {b d : Nat} {x1 : Int32}, (∀ k w i, SZ tE (tW d) k w i = true → cPm c k w i = true) → TH ρ c h → ρ x0 = 5 → x1.toNatClampNeg = d → Rg 0 7 x1 → LwR ρ c h → (hI h x0 9).toInt = 0 → RcP x0 h → PQ ρ c x0 (d + 1) b h → 3 * (7 - d) + 2 ≤ N → Sat (G h x0 x1) (Zt ρ c x0)) ∧
  (∀ {ρ : Nat → Nat} {c : Cm} {h : Hp} {b d : Nat} {x1 x2 : Int32}, (∀ k w i, SZ tE (tW d) k w i = true → cPm c k w i = true) → TH ρ c h → ρ x0 = 5 → x1.toNatClampNeg = d → Rg 0 7 x1 → LwR ρ c h → (hI h x0 9).toInt = 0 → RcP x0 h → PQ ρ c x0 (d + 1) b h → Rg 0 4095 x2 → 3 * (7 - d) + 3 ≤ N → Sat (B h x0 x1 x2) (Zt ρ c x0)) ∧
  (∀ {ρ : Nat → Nat} {c : Cm} {h : Hp} {b d : Nat} {x1 : Int32}, (∀ k w i, SZ tE (tW d) k w i = true → cPm c k w i = true) → TH ρ c h → ρ x0 = 5 → x1.toNatClampNeg = d → Rg 0 8 x1 → LwR ρ c h → (hI h x0 9).toInt = 0 → RcP x0 h → PQ ρ c x0 d b h → 3 * (8 - d) + 1 ≤ N → Sat (Tr h x0 x1) (Zt ρ c x0))
section
variable {x0 F N : Nat} {A : Hp → Nat → Int32 → Int32 → Option (Int32 × Hp)} {R G : Hp → Nat → Int32 → Option (Int32 × Hp)} {B : Hp → Nat → Int32 → Int32 → Option (Int32 × Hp)} {Tr : Hp → Nat → Int32 → Option (Int32 × Hp)} {ρ : Nat → Nat} {c : Cm} {h : Hp} {b d : Nat} {x1 x2 : Int32}
/-- the tree of the next depth -/
theorem s_next {β : Type} {Q : β → Prop} {k : Int32 × Hp → Option β} (I : Five F x0 N A R G B Tr) (hp : ∀ k w i, SZ tE (tW d) k w i = true → cPm c k w i = true) (T : TH ρ c h) (r0 : ρ x0 = 5) (ed : x1.toNatClampNeg = d) (i1 : Rg 0 7 x1) (lw : LwR ρ c h) (ov : (hI h x0 9).toInt = 0) (rc : RcP x0 h) (P : PQ ρ c x0 (d + 1) b h) (hN : 3 * (7 - d) + 1 ≤ N) (H : ∀ o, TH ρ c o.2 → LwR ρ c o.2 → RcP x0 o.2 → PQ ρ c x0 (d + 1) b o.2 → Sat (k o) Q) : Sat (cl (Tr h x0 (x1 + (1 : Int32))) k) Q := by
  obtain ⟨s1, s2⟩ := nc_s i1 (by decide)
  rw [ed] at s1
  have ia := i1.1
  have ib := i1.2
  have cl7 := rg_clamp (n := 7) i1 (by decide)
  refine s_zt (S := SZ tE (tW (d + 1))) T (fun k w i m => hp k w i (sz_sub (fun _ _ z => z) (tW_s (Nat.le_succ d)) m)) (I.2.2.2.2 (c := cat c (SZ tE (tW (d + 1))) h) (sx_c _) (th_in _ T) r0 s1 ⟨by omega, by omega⟩ lw ov rc P (by omega)) (fun o T1 f1 rc1 => ?_)
  exact H o T1 (lw_sz niceC_t T f1 lw) rc1 (pq_sz niceC_t rfl rfl (by omega) T r0 f1 (tW_f (Nat.le_refl _)) P)
theorem zgoal {k : Int32 × Hp → Option (Int32 × Hp)} (hF : 700000 ≤ F) (T : TH ρ c h) (r0 : ρ x0 = 5) (i1 : Rg 0 7 x1) (H : ∀ v, Sat (k (v, h)) (Zt ρ c x0)) : Sat (cl (sX4_isGoal h x0 (x1 + (1 : Int32))) k) (Zt ρ c x0) := by
  refine s_cI0 (zX4_isGoal hF T r0 (rg_add i1 (rg_b rfl : Rg 1 1 (1 : Int32)) (by decide))) (fun o e i => ?_)
  obtain ⟨v, g⟩ := o
  have : g = h := e
  subst this
  exact H v
theorem five_attempt (hF : 700000 ≤ F) (I : Five F x0 N A R G B Tr) (hp : ∀ k w i, SZ tE (tW d) k w i = true → cPm c k w i = true) (T : TH ρ c h) (r0 : ρ x0 = 5) (ed : x1.toNatClampNeg = d) (i1 : Rg 0 7 x1) (lw : LwR ρ c h) (ov : (hI h x0 9).toInt = 0) (rc : RcP x0 h) (P : PQ ρ c x0 (d + 1) b h) (i2 : Rg 0 4095 x2) (hN : 3 * (7 - d) + 2 ≤ N + 1) : Sat (oX4_attempt F A R G B Tr h x0 x1 x2) (Zt ρ c x0) := by
  have st : ∀ {g : Hp} {y : Int32}, TH ρ c g → RcP x0 g → Sat (some (y, g)) (Zt ρ c x0) := fun Tg rg => s_some ⟨Tg, rg⟩
  have at74 : ∀ {g : Hp} {y z : Int32}, TH ρ c g → RcP x0 g → Sat (sX4_attempt_74 F A R G B Tr g x0 x1 y z) (Zt ρ c x0) := fun {g y z} Tg rg => by
    unfold sX4_attempt_74 sX4_attempt_98 sX4_attempt_123 sX4_attempt_124 sX4_attempt_136
    have s0 : ∀ {g : Hp} (t : Int32), TH ρ c g → RcP x0 g → Sat (br (t = 0) (some ((0 : Int32), g)) (some ((1 : Int32), g))) (Zt ρ c x0) := fun t Tg rg => s_br (fun _ => st Tg rg) (fun _ => st Tg rg)
    obtain ⟨r, er, qr⟩ := thR Tg r0 (i := 3) (k2 := 41) rfl (by decide)
    refine s_ref er ?_
    refine s_gd (by rw [thN Tg qr (k := 41) (n := 9) rfl (by decide)]; exact rg_inB (rg_add i1 (rg_b rfl : Rg 1 1 (1 : Int32)) (by decide) : Rg 1 8 _) (by decide)) ?_
    refine s_br (fun _ => s_br (fun _ => s0 _ Tg rg) (fun _ => s_br (fun _ => s0 _ Tg rg) (fun _ => s0 _ Tg rg))) (fun _ => ?_)
    refine s_br (fun _ => ?_) (fun _ => s0 _ Tg rg)
    exact zgoal hF Tg r0 i1 (fun v => s_br (fun _ => s0 _ Tg rg) (fun _ => s0 _ Tg rg))
  have at31 : ∀ {g : Hp} {y z : Int32}, TH ρ c g → LwR ρ c g → RcP x0 g → PQ ρ c x0 (d + 1) b g → Sat (sX4_attempt_31 F A R G B Tr g x0 x1 x2 y z) (Zt ρ c x0) := fun {g y z} Tg lg rg Pg => by
    unfold sX4_attempt_31
    refine s_br (fun z0 => ?_) (fun _ => at74 Tg rg)
    have d0 : d = 0 := by rw [← ed, z0]; rfl
    rw [d0] at Pg
    obtain ⟨r, er, qr⟩ := thR Tg r0 (i := 11) (k2 := 44) rfl (by decide)
    refine s_ref er ?_
    have wr : ∀ {g2 : Hp} {v : Int32}, TH ρ c g2 → RcP x0 g2 → Sat (sX4_attempt_73 F A R G B Tr g2 x0 x1 y z v x2 r) (Zt ρ c x0) := fun {g2 v} T2 rc2 => by
      unfold sX4_attempt_73
      refine s_gd (by rw [thN T2 qr (k := 44) (n := 4096) rfl (by decide)]; exact rg_inB i2 (by decide)) ?_
      refine s_hq (th_wI T2 qr (k := 44) (lo := -2147483648) (hi := 2147483647) rfl (rg_top _) (by decide) (by decide) (szE hp rfl _)) (fun g3 T3 e3 => ?_)
      exact at74 T3 (rc_sz rfl rfl (fun _ => rfl) T2 r0 (fr_e qr e3) rc2)
    refine s_br (fun _ => ?_) (fun _ => wr Tg rg)
    obtain ⟨rf, erf, qrf⟩ := thR Tg r0 (i := 0) (k2 := 6) rfl (by decide)
    refine s_ref erf ?_
    refine s_path Tg r0 (x1 := (1 : Int32)) (rg_b rfl) Pg ?_
    refine s_lst Tg r0 (x1 := (1 : Int32)) (rg_b rfl) (fun ls qs => ?_)
    exact s_coll (j := 0) hF hp (by decide) Tg r0 qrf qs lg rg Pg (fun o T1 j1 f1 lw1 rc1 P1 => wr T1 rc1)
  unfold oX4_attempt sX4_attempt_15
  refine s_br (fun _ => ?_) (fun _ => ?_)
  · exact s_br (fun _ => at31 T lw rc P) (fun z => absurd rfl z)
  · refine s_br (fun z => absurd z (by decide)) (fun _ => ?_)
    exact s_next I hp T r0 ed i1 lw ov rc P (by omega) (fun o T1 lw1 rc1 P1 => at31 T1 lw1 rc1 P1)
theorem five_reply (hF : 700000 ≤ F) (I : Five F x0 N A R G B Tr) (hp : ∀ k w i, SZ tE (tW d) k w i = true → cPm c k w i = true) (T : TH ρ c h) (r0 : ρ x0 = 5) (ed : x1.toNatClampNeg = d) (i1 : Rg 0 7 x1) (lw : LwR ρ c h) (ov : (hI h x0 9).toInt = 0) (rc : RcP x0 h) (P : PQ ρ c x0 (d + 1) b h) (hN : 3 * (7 - d) + 2 ≤ N + 1) : Sat (oX4_reply F A R G B Tr h x0 x1) (Zt ρ c x0) := by
  have st : ∀ {g : Hp} {y : Int32}, TH ρ c g → RcP x0 g → Sat (some (y, g)) (Zt ρ c x0) := fun Tg rg => s_some ⟨Tg, rg⟩
  have r25 : ∀ {g : Hp} {t : Int32}, TH ρ c g → RcP x0 g → Sat (sX4_reply_25 F A R G B Tr g x0 x1 t) (Zt ρ c x0) := fun {g t} Tg rg => by
    unfold sX4_reply_25 sX4_reply_48 sX4_reply_52 sX4_reply_53
    refine s_br (fun _ => ?_) (fun _ => st Tg rg)
    refine s_br (fun _ => ?_) (fun _ => st Tg rg)
    exact zgoal hF Tg r0 i1 (fun v => s_br (fun _ => st Tg rg) (fun _ => st Tg rg))
  unfold oX4_reply sX4_reply_24
  refine s_br (fun _ => r25 T rc) (fun _ => ?_)
  exact s_next I hp T r0 ed i1 lw ov rc P (by omega) (fun o T1 lw1 rc1 P1 => s_br (fun _ => r25 T1 rc1) (fun _ => r25 T1 rc1))
theorem five_goOn (hF : 700000 ≤ F) (I : Five F x0 N A R G B Tr) (hp : ∀ k w i, SZ tE (tW d) k w i = true → cPm c k w i = true) (T : TH ρ c h) (r0 : ρ x0 = 5) (ed : x1.toNatClampNeg = d) (i1 : Rg 0 7 x1) (lw : LwR ρ c h) (ov : (hI h x0 9).toInt = 0) (rc : RcP x0 h) (P : PQ ρ c x0 (d + 1) b h) (hN : 3 * (7 - d) + 2 ≤ N + 1) : Sat (oX4_goOn F A R G B Tr h x0 x1) (Zt ρ c x0) := by
  obtain ⟨s1, s2⟩ := nc_s i1 (by decide)
  rw [ed] at s1
  have cl7 := rg_clamp (n := 7) i1 (by decide)
  have ies : Rg 1 8 (x1 + (1 : Int32)) := rg_add i1 (rg_b rfl : Rg 1 1 (1 : Int32)) (by decide)
  unfold oX4_goOn sX4_goOn_35
  have Pb := P
  rw [← s1] at Pb
  refine s_path T r0 (rg_m ies (by decide)) Pb ?_
  obtain ⟨r, er, qr⟩ := thR T r0 (i := 3) (k2 := 41) rfl (by decide)
  refine s_ref er ?_
  refine s_gd (by rw [thN T qr (k := 41) (n := 9) rfl (by decide)]; exact rg_inB ies (by decide)) ?_
  refine s_br (fun _ => ?_) (fun _ => s_some ⟨T, rc⟩)
  obtain ⟨rf, erf, qrf⟩ := thR T r0 (i := 0) (k2 := 6) rfl (by decide)
  refine s_ref erf ?_
  obtain ⟨k1, w1⟩ := pq_r T r0 (by omega) P
  refine s_cI0 (zX5_isRoyalHit hF T qrf k1 (thI T k1 (k := 4) (i := 5) (lo := 0) (hi := 1) rfl)) (fun o2 e2 i2 => ?_)
  rw [e2]
  refine s_br (fun _ => ?_) (fun _ => s_some ⟨T, rc⟩)
  have pm : pmO c (3100 + (d + 1)) ppL := szP hp (tW_t (Nat.lt_succ_self d) (by omega))
  refine s_hq (th_wI T k1 (k := 4) (i := 5) (lo := 0) (hi := 1) rfl (rg_sub (rg_b rfl : Rg 1 1 (1 : Int32)) (thI T k1 (k := 4) (i := 5) (lo := 0) (hi := 1) rfl) (by decide)) (by decide) (by decide) (by rw [w1]; exact pm 4 5 rfl)) (fun g3 T3 e3 => ?_)
  have f3 : Fr ρ (cat c (fS [(4, 5)] []) h) h g3 := fr1I (c := c) (A := [(4, 5)]) (k := 4) (i := 5) k1 rfl e3
  have keep : ∀ {S : Nat → Nat → Nat → Bool} {g1 g2 : Hp}, TH ρ c g1 → Fr ρ (cat c S g1) g1 g2 → (∀ w i, S 5 w i = false) → (∀ w i, S 39 w i = false) → (∀ w i, S 36 w i = false) → (∀ w, S 4 w 2 = false) → (∀ w i, S 2 w i = false) → (∀ w i, S 42 w i = false) → LwR ρ c g1 → RcP x0 g1 → PQ ρ c x0 (d + 1) b g1 → LwR ρ c g2 ∧ RcP x0 g2 ∧ PQ ρ c x0 (d + 1) b g2 ∧ hI g2 x0 9 = hI g1 x0 9 := fun {S g1 g2} T1 f s5 s39 s36 s4 s2' s42 l1 rc1 P1 => by
    refine ⟨lw_fr T1 f (fun _ => s2' _ _) (fun _ => s2' _ _) (fun _ => s2' _ _) l1, fun z r er j hj => ?_, ?_, (fr_RI f r0 (by decide) (fun _ => s5 _ _)).1⟩
    · rw [(fr_RI f r0 (by decide) (fun _ => s5 _ _)).1] at z
      rw [(fr_RI f r0 (by decide) (fun _ => s5 _ _)).2.2] at er
      obtain ⟨q1, f1, g1'⟩ := thR T1 r0 (i := 4) (k2 := 42) rfl (by decide)
      rw [(fr_RI f (show ρ r = 42 by rw [r_eq f1 er]; exact g1') (by decide) (fun _ => s42 _ _)).1]
      exact rc1 z r er j hj
    · obtain ⟨kk, _⟩ := pq_r T1 r0 (by omega) P1
      obtain ⟨r, a1, a2, a3⟩ := P1
      have h1 := path_r T1 r0 a1
      exact ⟨r, by rw [(fr_RI f r0 (by decide) (fun _ => s5 _ _)).2.2]; exact a1, by rw [(fr_RI f h1 (by decide) (fun _ => s39 _ _)).2.2]; exact a2, ry_fr T1 kk f (s4 _) (fun i => s36 _ _) (fun _ => s2' _ _) a3⟩
  obtain ⟨lw3, rc3, P3, ov3⟩ := keep T f3 (fun _ _ => rfl) (fun _ _ => rfl) (fun _ _ => rfl) (fun _ => rfl) (fun _ _ => rfl) (fun _ _ => rfl) lw rc P
  have hs4 : ∀ k w i, fS [(4, 9), (4, 10)] [] k w i = true → True := fun _ _ _ _ => trivial
  refine s_cVf (S := fS [] [(3100 + (d + 1), [(4, 9), (4, 10)])]) T3 (fs_sub pmA_n (fs_c (pmO_s pm rfl) fs_n)) (zX3_clearPass hF (fs_o (.head _)) w1 (th_in _ T3) k1) (fun g4 T4 f4 => ?_)
  obtain ⟨lw4, rc4, P4, ov4⟩ := keep T3 f4 (fun _ _ => rfl) (fun _ _ => rfl) (fun _ _ => rfl) (fun _ => rfl) (fun _ _ => rfl) (fun _ _ => rfl) lw3 rc3 P3
  exact s_next I hp T4 r0 ed i1 lw4 (by rw [ov4, ov3]; exact ov) rc4 P4 (by omega) (fun o T1 lw1 rc1 P1 => s_some ⟨T1, rc1⟩)
theorem five_branch (hF : 700000 ≤ F) (I : Five F x0 N A R G B Tr) (hp : ∀ k w i, SZ tE (tW d) k w i = true → cPm c k w i = true) (T : TH ρ c h) (r0 : ρ x0 = 5) (ed : x1.toNatClampNeg = d) (i1 : Rg 0 7 x1) (lw : LwR ρ c h) (ov : (hI h x0 9).toInt = 0) (rc : RcP x0 h) (P : PQ ρ c x0 (d + 1) b h) (i2 : Rg 0 4095 x2) (hN : 3 * (7 - d) + 3 ≤ N + 1) : Sat (oX4_branch F A R G B Tr h x0 x1 x2) (Zt ρ c x0) := by
  unfold oX4_branch sX4_branch_56 sX4_branch_92 sX4_branch_126
  have st : ∀ {g : Hp} {y : Int32}, TH ρ c g → RcP x0 g → Sat (some (y, g)) (Zt ρ c x0) := fun Tg rg => s_some ⟨Tg, rg⟩
  have ar : Sat (br ((x1 &&& (1 : Int32)) = 0) (cl (A h x0 x1 x2) fun o_3 => some (o_3.1, o_3.2)) (cl (R h x0 x1) fun o_2 => some (o_2.1, o_2.2))) (Zt ρ c x0) := s_br (fun _ => s_cl (s_imp (I.1 hp T r0 ed i1 lw ov rc P i2 (by omega)) (fun o ho => s_some ho))) (fun _ => s_cl (s_imp (I.2.1 hp T r0 ed i1 lw ov rc P (by omega)) (fun o ho => s_some ho)))
  have gl : Sat (cl (sX4_isGoal h x0 (x1 + (1 : Int32))) fun o_10 => br (o_10.1 = 0) (some ((0 : Int32), o_10.2)) (some ((1 : Int32), o_10.2))) (Zt ρ c x0) := zgoal hF T r0 i1 (fun v => s_br (fun _ => st T rc) (fun _ => st T rc))
  have tr : Sat (cl (Tr h x0 (x1 + (1 : Int32))) fun o_12 => some (o_12.1, o_12.2)) (Zt ρ c x0) := s_next I hp T r0 ed i1 lw ov rc P (by omega) (fun o T1 lw1 rc1 P1 => s_some ⟨T1, rc1⟩)
  exact s_br (fun _ => ar) (fun _ => s_br (fun _ => ar) (fun _ => s_br (fun _ => s_br (fun _ => gl) (fun _ => tr)) (fun _ => s_br (fun _ => s_br (fun _ => gl) (fun _ => s_cl (s_imp (I.2.2.1 hp T r0 ed i1 lw ov rc P (by omega)) (fun o ho => s_some ho)))) (fun _ => tr))))
end
end
section
section
variable {x0 F N : Nat} {A : Hp → Nat → Int32 → Int32 → Option (Int32 × Hp)} {R G : Hp → Nat → Int32 → Option (Int32 × Hp)} {B : Hp → Nat → Int32 → Int32 → Option (Int32 × Hp)} {Tr : Hp → Nat → Int32 → Option (Int32 × Hp)}
theorem tree_loop (hF : 700000 ≤ F) (I : Five F x0 N A R G B Tr) {ρ : Nat → Nat} {c : Cm} {b d x2 : Nat} {x1 x3 : Int32} (hp : ∀ k w i, SZ tE (tW d) k w i = true → cPm c k w i = true) (r0 : ρ x0 = 5) (ed : x1.toNatClampNeg = d) (i1 : Rg 0 7 x1) (q2 : ρ x2 = 47) (i3 : Rg 0 4096 x3) (hN : 3 * (7 - d) + 3 ≤ N) : ∀ (f : Nat) {h : Hp} {x4 x5 : Int32}, TH ρ c h → LwR ρ c h → RcP x0 h → PQ ρ c x0 d b h → 0 ≤ x5.toInt → (4096 - x5.toInt).toNat < f → Sat (sX4_tree_151 F A R G B Tr f h x0 x1 x2 x3 x4 x5) (Zt ρ c x0) := by
  obtain ⟨s1, s2⟩ := nc_s i1 (by decide)
  rw [ed] at s1
  have cl7 := rg_clamp (n := 7) i1 (by decide)
  have ies : Rg 1 8 (x1 + (1 : Int32)) := rg_add i1 (rg_b rfl : Rg 1 1 (1 : Int32)) (by decide)
  have hd8 : d < 8 := by omega
  intro f
  induction f with
  | zero => intros; omega
  | succ f ih =>
    intro h x4 x5 T lw rc P a5 hf
    rw [sX4_tree_151]
    unfold sX4_tree_268
    refine s_br (fun _ => s_some ⟨T, rc⟩) (fun n1 => ?_)
    refine s_br (fun ov => ?_) (fun _ => s_some ⟨T, rc⟩)
    have lt5 := nle_i n1
    have i5 : Rg 0 4095 x5 := ⟨a5, by have := i3.2; omega⟩
    have ov' : (hI h x0 9).toInt = 0 := eq_i ov
    refine s_path0 T r0 (rg_m ies (by decide)) (fun r b5 e1 e2 k5 w5 => ?_)
    rw [s1] at e2 w5
    have Pd := P
    rw [← ed] at Pd
    refine s_path T r0 (rg_m i1 (by decide)) Pd ?_
    obtain ⟨kb, wb'⟩ := pq_r T r0 (by omega) P
    have PB : RyP ρ c b h := by obtain ⟨_, _, _, q⟩ := P; exact q
    have hs : ∀ k w i, SZ noE (is (3100 + (d + 1))) k w i = true → cPm c k w i = true := fun k w i m => hp k w i (sz_sub (fun _ _ z => noE_f z) (fun w z => by rw [is_e z]; exact tW_t (Nat.lt_succ_self d) (by omega)) m)
    refine s_cVfq T hs (s_weq (zX3_copyFrom hF (by show pmO _ (cw c b5) _; rw [w5]; exact pmO_s (szP (sx_c _) is_s) rfl) (th_in _ T) k5 kb)) (fun o9 T9 f9 e9 => ?_)
    have P9 := ry_copy T k5 kb e9 PB
    have lw9 := lw_sz niceC_0 T f9 lw
    have rc9 := rc_sz rfl rfl (fun _ => rfl) T r0 f9 rc
    have Pd9 := pq_sz niceC_0 rfl rfl (by omega) T r0 f9 (is_f (by omega)) P
    have ov9 : hI o9 x0 9 = hI h x0 9 := x5I r0 f9 rfl
    have Q9 : PQ ρ c x0 (d + 1) b5 o9 := ⟨r, by rw [x5R r0 f9 rfl]; exact e1, by rw [(fr_RI f9 (path_r T r0 e1) (by decide) (fun _ => sz_f rfl rfl (Or.inl rfl))).2.2]; exact e2, P9⟩
    obtain ⟨rf, erf, qrf⟩ := thR T9 r0 (i := 0) (k2 := 6) rfl (by decide)
    refine s_ref erf ?_
    refine s_gd (by rw [thN T9 q2 (k := 47) (n := 4096) rfl (by decide)]; exact rg_inB i5 (by decide)) ?_
    refine s_cVfq T9 hs (zX5_make hF (pmO_s (szP (sx_c _) is_s) rfl) w5 (th_in _ T9) qrf k5 (rg_top _) (thG T9 q2)) (fun oc Tc fc rcc => ?_)
    have lwc := lw_sz niceC_0 T9 fc lw9
    have rc' := rc_sz rfl rfl (fun _ => rfl) T9 r0 fc rc9
    have Pdc := pq_sz niceC_0 rfl rfl (by omega) T9 r0 fc (is_f (by omega)) Pd9
    have ovc : (hI oc x0 9).toInt = 0 := by rw [x5I r0 fc rfl, ov9]; exact ov'
    have Qc : PQ ρ c x0 (d + 1) b5 oc := by
      obtain ⟨r', a1, a2, a3⟩ := Q9
      exact ⟨r', by rw [x5R r0 fc rfl]; exact a1, by rw [(fr_RI fc (path_r T9 r0 a1) (by decide) (fun _ => sz_f rfl rfl (Or.inl rfl))).2.2]; exact a2, rcc _ k5 a3⟩
    have nxt : ∀ {g : Hp} {y : Int32}, TH ρ c g → LwR ρ c g → RcP x0 g → PQ ρ c x0 d b g → Sat (sX4_tree_255 F A R G B Tr (sX4_tree_151 F A R G B Tr f) g x0 x1 x2 x3 x4 x5 y) (Zt ρ c x0) := fun {g y} Tg lg rg Pg => by
      unfold sX4_tree_255
      refine s_q (fun u eu => ?_)
      refine s_q (fun v ev => ?_)
      have ev2 : v.toInt = x5.toInt + 1 := by rw [ev]; exact (nc_s i5 (by decide)).2
      exact ih Tg lg rg Pg (by omega) (by have := i5.2; omega)
    have b233 : ∀ {g : Hp}, TH ρ c g → LwR ρ c g → RcP x0 g → PQ ρ c x0 d b g → PQ ρ c x0 (d + 1) b5 g → (hI g x0 9).toInt = 0 → Sat (sX4_tree_233 F A R G B Tr (sX4_tree_151 F A R G B Tr f) g x0 x1 x2 x3 x4 x5) (Zt ρ c x0) := fun {g} Tg lg rg Pg Qg og => by
      unfold sX4_tree_233
      refine s_zt (S := SZ tE (tW d)) Tg hp (I.2.2.2.1 (c := cat c (SZ tE (tW d)) g) (sx_c _) (th_in _ Tg) r0 ed i1 lg og rg Qg i5 hN) (fun o1 T1 f1 rc1 => ?_)
      have lw1 := lw_sz niceC_t Tg f1 lg
      have P1 := pq_sz niceC_t rfl rfl (by omega) Tg r0 f1 (tW_f (Nat.le_refl _)) Pg
      refine s_br (fun _ => ?_) (fun _ => nxt T1 lw1 rc1 P1)
      obtain ⟨wy, ewy, qwy⟩ := thR T1 r0 (i := 10) (k2 := 43) rfl (by decide)
      refine s_ref ewy ?_
      refine s_gd (by rw [thN T1 qwy (k := 43) (n := 4096) rfl (by decide)]; exact rg_inB i5 (by decide)) ?_
      refine s_hq (th_wI T1 qwy (k := 43) (lo := -2147483648) (hi := 2147483647) rfl (rg_top _) (by decide) (by decide) (szE hp rfl _)) (fun g3 T3 e3 => ?_)
      have f3 := fr_e (c := c) qwy e3
      exact nxt T3 (lw_sz (niceC_e (by decide)) T1 f3 lw1) (rc_sz rfl rfl (fun _ => rfl) T1 r0 f3 rc1) (pq_sz (niceC_e (by decide)) rfl rfl (by omega) T1 r0 f3 rfl P1)
    have b216 : Sat (sX4_tree_216 F A R G B Tr (sX4_tree_151 F A R G B Tr f) oc x0 x1 x2 x3 x4 x5 b5) (Zt ρ c x0) := by
      unfold sX4_tree_216
      obtain ⟨en, een, qen⟩ := thR Tc r0 (i := 3) (k2 := 41) rfl (by decide)
      refine s_ref een ?_
      obtain ⟨rf2, erf2, qrf2⟩ := thR Tc r0 (i := 0) (k2 := 6) rfl (by decide)
      refine s_ref erf2 ?_
      refine s_endP hF hp (by omega) Tc r0 qrf2 lwc rc' Qc (fun o1 T1 j1 f1 lw1 rc1 Q1 => ?_)
      have P1 := pq_sz niceC_0 rfl rfl (by omega) Tc r0 f1 (is_f (by omega)) Pdc
      refine s_gd (by rw [thN T1 qen (k := 41) (n := 9) rfl (by decide)]; exact rg_inB ies (by decide)) ?_
      refine s_hq (th_wI T1 qen (k := 41) (lo := 0) (hi := 6) rfl j1 (by decide) (by decide) (szE hp rfl _)) (fun g3 T3 e3 => ?_)
      have f3 := fr_e (c := c) qen e3
      exact b233 T3 (lw_sz (niceC_e (by decide)) T1 f3 lw1) (rc_sz rfl rfl (fun _ => rfl) T1 r0 f3 rc1) (pq_sz (niceC_e (by decide)) rfl rfl (by omega) T1 r0 f3 rfl P1) (pq_sz (niceC_e (by decide)) rfl rfl (by omega) T1 r0 f3 rfl Q1) (by rw [x5I r0 f3 rfl, x5I r0 f1 rfl]; exact ovc)
    exact s_br (fun _ => b216) (fun _ => s_br (fun _ => b216) (fun _ => b233 Tc lwc rc' Pdc Qc ovc))
theorem five_tree (hF : 700000 ≤ F) (I : Five F x0 N A R G B Tr) {ρ : Nat → Nat} {c : Cm} {h : Hp} {b d : Nat} {x1 : Int32} (hp : ∀ k w i, SZ tE (tW d) k w i = true → cPm c k w i = true) (T : TH ρ c h) (r0 : ρ x0 = 5) (ed : x1.toNatClampNeg = d) (i1 : Rg 0 8 x1) (lw : LwR ρ c h) (ov : (hI h x0 9).toInt = 0) (rc : RcP x0 h) (P : PQ ρ c x0 d b h) (hN : 3 * (8 - d) + 1 ≤ N + 1) : Sat (oX4_tree F A R G B Tr h x0 x1) (Zt ρ c x0) := by
  unfold oX4_tree sX4_tree_18
  refine s_br (fun _ => s_some ⟨T, rc⟩) (fun _ => ?_)
  refine s_br (fun _ => s_some ⟨T, rc⟩) (fun _ => ?_)
  refine s_br (fun n8 => ?_) (fun _ => s_some ⟨T, rc⟩)
  have l8 : x1.toInt < 8 := lt_i n8
  have i7 : Rg 0 7 x1 := ⟨i1.1, by omega⟩
  have cl7 := rg_clamp (n := 7) i7 (by decide)
  refine s_lst T r0 i7 (fun ls qs => ?_)
  obtain ⟨rf, erf, qrf⟩ := thR T r0 (i := 0) (k2 := 6) rfl (by decide)
  refine s_ref erf ?_
  have Pd := P
  rw [← ed] at Pd
  refine s_path T r0 i1 Pd ?_
  refine s_coll (j := 0) hF hp (by omega) T r0 qrf qs lw rc P (fun o1 T1 j1 f1 lw1 rc1 P1 => ?_)
  have ov1 : (hI o1.2 x0 9).toInt = 0 := by rw [x5I r0 f1 rfl]; exact ov
  have b145 : ∀ {g : Hp}, TH ρ c g → LwR ρ c g → RcP x0 g → PQ ρ c x0 d b g → Sat (sX4_tree_145 F A R G B Tr g x0 x1 ls o1.1) (Zt ρ c x0) := fun {g} Tg lg rg Pg => by
    unfold sX4_tree_145
    exact tree_loop hF I hp r0 ed i7 qs j1 (by omega) F Tg lg rg Pg (by decide) (by show (4096 - (0 : Int)).toNat < F; omega)
  have b122 : ∀ {g : Hp} {t : Int32}, TH ρ c g → LwR ρ c g → PQ ρ c x0 d b g → (t = 0 ∨ t = 1) → (t = 0 → ∀ r, hR g x0 4 = some r → ∀ j, j < 8 → (hI g r j).toInt ≤ 100000) → Sat (sX4_tree_122 F A R G B Tr g x0 x1 ls o1.1 t x0) (Zt ρ c x0) := fun {g t} Tg lg Pg ht hr => by
    unfold sX4_tree_122
    refine s_gd (by rcases ht with q | q <;> rw [q] <;> decide) ?_
    refine s_hq (th_wI Tg r0 (k := 5) (i := 9) (lo := 0) (hi := 1) rfl (by rcases ht with q | q <;> rw [q] <;> exact rg_b rfl) (by decide) (by decide) (szE hp rfl _)) (fun g2 T2 e2 => ?_)
    have f2 := fr_9 (c := c) r0 e2
    have lw2 := lw_sz niceC_9 Tg f2 lg
    have P2 := pq_sz niceC_9 rfl rfl (by omega) Tg r0 f2 rfl Pg
    have rc2 : RcP x0 g2 := fun z r er j hj => by
      rw [he_s e2] at z
      have t0 : t = 0 := by
        rcases ht with q | q
        · exact q
        · rw [q] at z; exact absurd z (by decide)
      have er' : hR g x0 4 = some r := by rw [e2] at er; exact er
      obtain ⟨q1, f1', g1⟩ := thR Tg r0 (i := 4) (k2 := 42) rfl (by decide)
      have qr : ρ r = 42 := by rw [r_eq f1' er']; exact g1
      rw [e2, r_I, if_neg (ne_r qr r0 (by decide))]
      exact hr t0 r er' j hj
    exact s_br (fun _ => s_br (fun _ => s_some ⟨T2, rc2⟩) (fun _ => b145 T2 lw2 rc2 P2)) (fun _ => b145 T2 lw2 rc2 P2)
  have b87 : ∀ {g : Hp} {t : Int32} {en : Nat}, TH ρ c g → LwR ρ c g → RcP x0 g → PQ ρ c x0 d b g → (hI g x0 9).toInt = 0 → Rg 0 6 t → ρ en = 41 → Sat (sX4_tree_87 F A R G B Tr g x0 x1 ls o1.1 t x1 en) (Zt ρ c x0) := fun {g t en} Tg lg rg Pg og it qen => by
    unfold sX4_tree_87
    refine s_gd (by rw [thN Tg qen (k := 41) (n := 9) rfl (by decide)]; exact rg_inB i1 (by decide)) ?_
    refine s_hq (th_wI Tg qen (k := 41) (lo := 0) (hi := 6) rfl it (by decide) (by decide) (szE hp rfl _)) (fun g2 T2 e2 => ?_)
    have f2 := fr_e (c := c) qen e2
    have lw2 := lw_sz (niceC_e (by decide)) Tg f2 lg
    have rc2 := rc_sz rfl rfl (fun _ => rfl) Tg r0 f2 rg
    have P2 := pq_sz (niceC_e (by decide)) rfl rfl (by omega) Tg r0 f2 rfl Pg
    have ov2 : (hI g2 x0 9).toInt = 0 := by rw [x5I r0 f2 rfl]; exact og
    obtain ⟨rw', erw, qrw⟩ := thR T2 r0 (i := 4) (k2 := 42) rfl (by decide)
    refine s_ref erw ?_
    refine s_gd (by rw [thN T2 qrw (k := 42) (n := 8) rfl (by decide)]; exact rg_inB i7 (by decide)) ?_
    refine s_gd (by rw [thN T2 qrw (k := 42) (n := 8) rfl (by decide)]; exact rg_inB i7 (by decide)) ?_
    have old : Rg 0 100000 (hI g2 rw' x1.toNatClampNeg) := ⟨(thI T2 qrw (k := 42) (lo := 0) (hi := 200000) rfl).1, rc2 ov2 rw' erw _ (by omega)⟩
    refine s_hq (th_wI T2 qrw (k := 42) (lo := 0) (hi := 200000) rfl (rg_add old j1 (by decide)) (by decide) (by decide) (szE hp rfl _)) (fun g6 T6 e6 => ?_)
    have f6 := fr_e (c := c) qrw e6
    have lw6 := lw_sz (niceC_e (by decide)) T2 f6 lw2
    have P6 := pq_sz (niceC_e (by decide)) rfl rfl (by omega) T2 r0 f6 rfl P2
    have one : Sat (sX4_tree_117 F A R G B Tr g6 x0 x1 ls o1.1 x0) (Zt ρ c x0) := by
      unfold sX4_tree_117
      exact b122 T6 lw6 P6 (Or.inr rfl) (fun z => absurd z (by decide))
    refine s_br (fun _ => ?_) (fun _ => one)
    obtain ⟨rw6, erw6, qrw6⟩ := thR T6 r0 (i := 4) (k2 := 42) rfl (by decide)
    refine s_ref erw6 ?_
    refine s_gd (by rw [thN T6 qrw6 (k := 42) (n := 8) rfl (by decide)]; exact rg_inB i7 (by decide)) ?_
    have erw2 : hR g2 x0 4 = some rw6 := by rw [e6] at erw6; exact erw6
    have : rw6 = rw' := r_eq erw erw2
    subst this
    refine s_br (fun le => b122 T6 lw6 P6 (Or.inl rfl) (fun _ r er j hj => ?_)) (fun _ => one)
    have : r = rw6 := r_eq erw6 er
    subst this
    by_cases z : j = x1.toNatClampNeg
    · rw [z]; exact le_i le
    · rw [e6, r_I, if_neg (fun y => z y.2)]
      exact rc2 ov2 r erw j hj
  have b58 : ∀ {t : Int32}, Rg 0 4096 t → Sat (sX4_tree_58 F A R G B Tr o1.2 x0 x1 ls o1.1 t x0) (Zt ρ c x0) := fun {t} it => by
    unfold sX4_tree_58
    refine s_hq (th_wI T1 r0 (k := 5) (i := 8) (lo := 0) (hi := 4096) rfl it (by decide) (by decide) (szE hp rfl _)) (fun g2 T2 e2 => ?_)
    have f2 := fr_8 (c := c) r0 e2
    have lw2 := lw_sz niceC_8 T1 f2 lw1
    have rc2 := rc_sz rfl rfl (fun _ => rfl) T1 r0 f2 rc1
    have P2 := pq_sz niceC_8 rfl rfl (by omega) T1 r0 f2 rfl P1
    have ov2 : (hI g2 x0 9).toInt = 0 := by rw [x5I r0 f2 rfl]; exact ov1
    obtain ⟨en, een, qen⟩ := thR T2 r0 (i := 3) (k2 := 41) rfl (by decide)
    refine s_ref een ?_
    refine s_br (fun _ => ?_) (fun _ => b87 T2 lw2 rc2 P2 ov2 (rg_b rfl) qen)
    obtain ⟨rf2, erf2, qrf2⟩ := thR T2 r0 (i := 0) (k2 := 6) rfl (by decide)
    refine s_ref erf2 ?_
    have Pd2 := P2
    rw [← ed] at Pd2
    refine s_path T2 r0 i1 Pd2 ?_
    exact s_endP hF hp (by omega) T2 r0 qrf2 lw2 rc2 P2 (fun o3 T3 j3 f3 lw3 rc3 P3 => b87 T3 lw3 rc3 P3 (by rw [x5I r0 f3 rfl]; exact ov2) j3 qen)
  exact s_br (fun _ => b58 j1) (fun _ => b58 (thI T1 r0 (k := 5) (i := 8) (lo := 0) (hi := 4096) rfl))
theorem five_all (hF : 700000 ≤ F) : ∀ N, Five F x0 N (qX4_attempt F N).1 (qX4_attempt F N).2.1 (qX4_attempt F N).2.2.1 (qX4_attempt F N).2.2.2.1 (qX4_attempt F N).2.2.2.2 := by
  intro N
  induction N with
  | zero => exact ⟨fun _ _ _ _ _ _ _ _ _ _ n => by omega, fun _ _ _ _ _ _ _ _ _ n => by omega, fun _ _ _ _ _ _ _ _ _ n => by omega, fun _ _ _ _ _ _ _ _ _ _ n => by omega, fun _ _ _ _ _ _ _ _ _ n => by omega⟩
  | succ N ih => exact ⟨fun hp T r0 ed i1 lw ov rc P i2 n => five_attempt hF ih hp T r0 ed i1 lw ov rc P i2 n, fun hp T r0 ed i1 lw ov rc P n => five_reply hF ih hp T r0 ed i1 lw ov rc P n, fun hp T r0 ed i1 lw ov rc P n => five_goOn hF ih hp T r0 ed i1 lw ov rc P n, fun hp T r0 ed i1 lw ov rc P i2 n => five_branch hF ih hp T r0 ed i1 lw ov rc P i2 n, fun hp T r0 ed i1 lw ov rc P n => five_tree hF ih hp T r0 ed i1 lw ov rc P n⟩
end
section
variable {ρ : Nat → Nat} {c : Cm} {h o : Hp} {x0 b d i F : Nat} {x1 x2 x3 x4 : Int32}
theorem zX4_tree (hF : 700000 ≤ F) (hp : ∀ k w i, SZ tE (tW 0) k w i = true → cPm c k w i = true) (T : TH ρ c h) (r0 : ρ x0 = 5) (lw : LwR ρ c h) (ov : (hI h x0 9).toInt = 0) (rc : RcP x0 h) (P : PQ ρ c x0 0 b h) : Sat (sX4_tree F h x0 (0 : Int32)) (Zt ρ c x0) := (five_all hF 40).2.2.2.2 hp T r0 rfl (rg_b rfl) lw ov rc P (by decide)
end
end
section
def stE5 : Nat → Nat → Bool := fun k i => (k == 5 && (i == 5 || i == 6 || i == 7 || i == 8 || i == 9)) || (decide (41 ≤ k) && decide (k ≤ 44))
def e5 (j : Nat) : Nat → Nat → Bool := fun k i => k == 5 && i == j
theorem niceC_5 {j : Nat} : niceC (e5 j) := by
  refine ⟨fun k i hk => ?_, rfl, rfl, rfl, rfl, rfl, rfl, fun _ => rfl⟩
  unfold e5
  rw [bq_ne (show k ≠ 5 by omega)]; rfl
section
variable {ρ : Nat → Nat} {c : Cm} {h o : Hp} {E : Nat → Nat → Bool} {wp : Nat → Bool} {x0 y0 b d i F : Nat} {x1 x2 x3 x4 : Int32}
theorem fr_5 {j : Nat} {v : Int32} (r0 : ρ x0 = 5) (e : o = wI h x0 j v) : Fr ρ (cat c (SZ (e5 j) no) h) h o := by
  rw [e]
  exact fu_wI ⟨fun _ _ _ _ => ⟨rfl, rfl, rfl⟩, fun _ _ => rfl⟩ r0 (by show SZ (e5 j) no 5 (cw c x0) j = true; unfold SZ e5; rw [beq_self_eq_true, beq_self_eq_true]; rfl)
/-- a problem is set: its path begins with the position, none is over, no row is counted -/
theorem zX4_setP {y wy : Nat} (hF : 700000 ≤ F) (hp : ∀ k w i, SZ stE5 (is 3100) k w i = true → cPm c k w i = true) (T : TH ρ c h) (r0 : ρ x0 = 5) (ry : ρ y = 4) (wy' : cw c y = wy) (ny : ¬ wy = 3100) (P : RyP ρ c y h) (i2 : Rg 0 4 x2) (i3 : Rg 0 2 x3) (i4 : Rg 0 4 x4) (k1 : x2.toInt = 0 → 1 ≤ x4.toInt) : Sat (sX4_set F h x0 y x2 x3 x4) (fun o => TH ρ c o ∧ (hI o x0 9).toInt = 0 ∧ RcP x0 o ∧ ∃ b, PQ ρ c x0 0 b o) := by
  unfold sX4_set
  refine s_hq (th_wI T r0 (k := 5) (i := 5) (lo := 0) (hi := 4) rfl i2 (by decide) (by decide) (szE hp rfl _)) (fun g1 T1 e1 => ?_)
  have f1 := fr_5 (c := c) r0 e1
  have P1 := ry_sz niceC_5 T ry wy' rfl f1 P
  refine s_hq (th_wI T1 r0 (k := 5) (i := 6) (lo := 0) (hi := 2) rfl i3 (by decide) (by decide) (szE hp rfl _)) (fun g2 T2 e2 => ?_)
  have f2 := fr_5 (c := c) r0 e2
  have P2 := ry_sz niceC_5 T1 ry wy' rfl f2 P1
  have k5 : hI g2 x0 5 = x2 := by rw [e2, r_I, if_neg (fun z => absurd z.2 (by decide)), he_s e1]
  have rest : ∀ {t : Int32}, Rg 0 8 t → Sat (sX4_set_44 F g2 x0 y t x0) (fun o => TH ρ c o ∧ (hI o x0 9).toInt = 0 ∧ RcP x0 o ∧ ∃ b, PQ ρ c x0 0 b o) := fun {t} it => by
    unfold sX4_set_44
    refine s_hq (th_wI T2 r0 (k := 5) (i := 7) (lo := 0) (hi := 8) rfl it (by decide) (by decide) (szE hp rfl _)) (fun g3 T3 e3 => ?_)
    have f3 := fr_5 (c := c) r0 e3
    have P3 := ry_sz niceC_5 T2 ry wy' rfl f3 P2
    refine s_hq (th_wI T3 r0 (k := 5) (i := 9) (lo := 0) (hi := 1) rfl (rg_b rfl) (by decide) (by decide) (szE hp rfl _)) (fun g4 T4 e4 => ?_)
    have f4 := fr_5 (c := c) r0 e4
    have P4 := ry_sz niceC_5 T3 ry wy' rfl f4 P3
    have ov4 : hI g4 x0 9 = 0 := he_s e4
    obtain ⟨rw', erw, qrw⟩ := thR T4 r0 (i := 4) (k2 := 42) rfl (by decide)
    refine s_ref erw ?_
    have hs : ∀ k w i, SZ (eE 42) no k w i = true → cPm c k w i = true := fun k w i m => hp k w i (sz_sub (fun k i z => by unfold eE at z; rw [beq_iff_eq] at z; rw [z]; rfl) (fun _ z => no_f z) m)
    refine s_cVfq T4 hs (s_weq (zJ7_fill_53178 hF (th_in _ T4) qrw (lo := 0) (hi := 200000) (n := 8) (rg_b rfl) (fun _ => rfl) rfl (by decide) (by decide) (by decide) (by decide) (fun i => szE (sx_c (SZ (eE 42) no)) rfl _))) (fun g5 T5 f5 e5' => ?_)
    have P5 := ry_sz (niceC_e (by decide)) T4 ry wy' rfl f5 P4
    have ov5 : hI g5 x0 9 = 0 := by rw [x5I r0 f5 rfl]; exact ov4
    have fill : ∀ j, j < 8 → hI g5 rw' j = 0 := fun j hj => by
      unfold sJ7_fill_53178 at e5'
      have n4 := thN T4 qrw (k := 42) (n := 8) rfl (by decide)
      have e6 : sJ7_fill_53178_5 F F g4 rw' (0 : Int32) (0 : Int32) (nI 8) = some g5 := by rw [← n4]; exact e5'
      exact (fI (by decide) F (by decide) e6).2.2.2 j (by show (0 : Int) ≤ _; omega) hj
    have er5 : hR g5 x0 4 = some rw' := by rw [x5R r0 f5 rfl]; exact erw
    have rc5 : RcP x0 g5 := fun _ r er j hj => by
      rw [r_eq er5 er, fill j hj]; decide
    have i0 : Rg 0 8 (0 : Int32) := rg_b rfl
    refine s_path0 T5 r0 i0 (fun r b a1 a2 kb wb' => ?_)
    have hs6 : ∀ k w i, SZ noE (is 3100) k w i = true → cPm c k w i = true := fun k w i m => hp k w i (sz_sub (fun _ _ z => noE_f z) (fun _ z => z) m)
    have wb0 : cw c b = 3100 := wb'
    refine s_cVfq T5 hs6 (s_weq (zX3_copyFrom hF (by show pmO _ (cw c b) _; rw [wb0]; exact pmO_s (szP (sx_c _) is_s) rfl) (th_in _ T5) kb ry)) (fun g6 T6 f6 e6 => ?_)
    have P6 := ry_copy T5 kb ry e6 P5
    refine s_some ⟨T6, by rw [x5I r0 f6 rfl, ov5]; rfl, rc_sz rfl rfl (fun _ => rfl) T5 r0 f6 rc5, b, r, by rw [x5R r0 f6 rfl]; exact a1, ?_, P6⟩
    rw [(fr_RI f6 (path_r T5 r0 a1) (by decide) (fun _ => sz_f rfl rfl (Or.inl rfl))).2.2]; exact a2
  have b4 := i4.2
  have a4 := i4.1
  have m2 : ((2 : Int32) * x4).toInt = 2 * x4.toInt := ti_mulc' i4 (rg_b rfl : Rg 2 2 (2 : Int32)) (by decide)
  rw [k5]
  refine s_br (fun z => rest ?_) (fun _ => s_br (fun _ => rest (rg_m i4 (by decide))) (fun _ => rest ⟨by omega, by omega⟩))
  have := k1 (eq_i z)
  have m3 : (((2 : Int32) * x4) - (1 : Int32)).toInt = 2 * x4.toInt - 1 := by
    rw [ti_sub (a := 0) (b := 8) (c := 1) (d := 1) ⟨by omega, by omega⟩ (rg_b rfl) (by decide), m2]; rfl
  exact ⟨by omega, by omega⟩
def rwW : Nat → Bool := fun w => w == 1503 || (decide (3100 ≤ w) && decide (w ≤ 3108))
theorem rwW_s : ∀ w, tW 0 w = true → rwW w = true := fun w z => by
  unfold tW at z
  unfold rwW
  rw [Bool.or_eq_true, Bool.and_eq_true, decide_eq_true_eq, decide_eq_true_eq] at z ⊢
  exact z.imp id (fun y => ⟨by omega, y.2⟩)
theorem tE_s : ∀ k i, tE k i = true → stE5 k i = true := fun k i z => by
  unfold tE at z
  unfold stE5
  rw [Bool.or_eq_true, Bool.and_eq_true, Bool.or_eq_true] at z
  rcases z with ⟨a, b | b⟩ | z
  · rw [a, b]; simp
  · rw [a, b]; simp
  · rw [z, Bool.or_true]
theorem niceC_s5 : niceC stE5 := by
  refine ⟨fun k i hk => ?_, rfl, rfl, rfl, rfl, rfl, rfl, fun _ => rfl⟩
  unfold stE5
  rw [bq_ne (show k ≠ 5 by omega)]
  by_cases q : 41 ≤ k
  · omega
  · rw [decide_eq_false q]; rfl
/-- set, then the tree -/
theorem s_setTree {y : Nat} (hF : 700000 ≤ F) (hp : ∀ k w i, SZ stE5 rwW k w i = true → cPm c k w i = true) (T : TH ρ c h) (r0 : ρ x0 = 5) (lw : LwR ρ c h) (rc : RcP x0 h) (ov : (hI h x0 9).toInt = 0) (Q : ∃ b, PQ ρ c x0 0 b h) : Sat (sX4_tree F h x0 (0 : Int32)) (Zt ρ c x0) := by
  obtain ⟨b, P⟩ := Q
  exact zX4_tree hF (fun k w i m => hp k w i (sz_sub tE_s rwW_s m)) T r0 lw ov rc P
theorem zX11_rows (hF : 700000 ≤ F) (hp : ∀ k w i, SZ stE5 rwW k w i = true → cPm c k w i = true) (T : TH ρ c h) (r0 : ρ x0 = 12) (lw : LwR ρ c h) (pl : PlP ρ c x0 h) : Sat (sX11_rows F h x0 x1 x2) (fun o => TH ρ c o.2) := by
  unfold sX11_rows sX11_rows_10 sX11_rows_69
  refine s_br (fun _ => s_some T) (fun n1 => ?_)
  refine s_br (fun n2 => ?_) (fun _ => s_some T)
  refine s_dP0 (zX11_isPlace hF T r0 (rg_top _)) (fun o2 eb2 e2 ii2 pp2 => ?_)
  rw [e2]
  refine s_br (fun _ => s_some T) (fun nz2 => ?_)
  have ip := pp2 nz2
  have l60 : x1.toNatClampNeg < 60 := by have := rg_clamp (n := 59) ip (by decide); omega
  obtain ⟨b, B⟩ := pc_of T r0 (hr_of T r0 pl eb2 nz2)
  refine s_br (fun _ => s_some T) (fun n3 => ?_)
  have z0 : (0 : Int32).toInt = 0 := rfl
  have a2 : 0 ≤ x2.toInt := nlt_i n1
  have b2 : x2.toInt ≤ 6 := le_i n2
  obtain ⟨pr, epr, qpr⟩ := thR T r0 (i := 11) (k2 := 5) rfl (by decide)
  refine s_ref epr ?_
  refine s_pc T r0 ip B ?_
  obtain ⟨kb, wb'⟩ := pc_r T r0 l60 B
  have PB : RyP ρ c b h := by obtain ⟨_, _, _, q⟩ := B; exact q
  have hs : ∀ k w i, SZ stE5 (is 3100) k w i = true → cPm c k w i = true := fun k w i m => hp k w i (sz_sub (fun _ _ z => z) (fun w z => by rw [is_e z]; rfl) m)
  have sr : Sat (sX4_setRows F h pr b x2) (fun o => TH ρ (cat c (SZ stE5 (is 3100)) h) o ∧ (hI o pr 9).toInt = 0 ∧ RcP pr o ∧ ∃ b, PQ ρ c pr 0 b o) := by
    unfold sX4_setRows
    refine s_cl (s_imp (zX4_setP (c := cat c (SZ stE5 (is 3100)) h) (x2 := (4 : Int32)) (x3 := (0 : Int32)) (x4 := (0 : Int32)) hF (sx_c _) (th_in _ T) qpr kb wb' (by decide) PB (rg_b rfl) (rg_b rfl) (rg_b rfl) (fun z => absurd z (by decide))) (fun o1 ⟨T1, ov1, rc1, b1, Q1⟩ => ?_))
    refine s_hq (th_wI T1 qpr (k := 5) (i := 7) (lo := 0) (hi := 8) rfl ⟨a2, by omega⟩ (by decide) (by decide) (szE (sx_c (SZ stE5 (is 3100))) rfl _)) (fun g2 T2 e2 => ?_)
    have f2 := fr_5 (c := cat c (SZ stE5 (is 3100)) h) qpr e2
    exact s_some ⟨T2, by rw [x5I qpr f2 rfl]; exact ov1, rc_sz rfl rfl (fun _ => rfl) T1 qpr f2 rc1, b1, (show PQ ρ (cat c (SZ stE5 (is 3100)) h) pr 0 b1 g2 from pq_sz niceC_5 rfl rfl (by decide) T1 qpr f2 rfl Q1)⟩
  obtain ⟨o1, eo1, T1', ov1, rc1, Q1⟩ := sr
  refine s_val eo1 ?_
  have T1 := th_out T hs T1'
  have f1 := fr_u T T1'.2.2
  have lw1 := lw_sz niceC_s5 T f1 lw
  have ep1 : hR o1 x0 11 = some pr := by rw [x12 r0 f1 rfl]; exact epr
  refine s_ref ep1 ?_
  refine s_zt (S := SZ stE5 rwW) (x0 := pr) T1 hp (s_setTree (c := cat c (SZ stE5 rwW) o1) (y := 0) hF (sx_c _) (th_in _ T1) qpr lw1 rc1 ov1 Q1) (fun o2 T2 f2 rc2 => ?_)
  have ep2 : hR o2.2 x0 11 = some pr := by rw [x12 r0 f2 rfl]; exact ep1
  refine s_ref ep2 ?_
  exact s_br (fun _ => s_some T2) (fun _ => s_some T2)
def kpE5 : Nat → Nat → Bool := fun k i => mS [(45, 999), (46, 999), (5, 14), (5, 15), (5, 16)] k i
theorem zX11_problem (hF : 700000 ≤ F) (hp : ∀ k w i, SZ (fun k i => stE5 k i || kpE5 k i) rwW k w i = true → cPm c k w i = true) (T : TH ρ c h) (r0 : ρ x0 = 12) (lw : LwR ρ c h) (pl : PlP ρ c x0 h) : Sat (sX11_problem F h x0 x1 x2 x3 x4) (fun o => TH ρ c o.2) := by
  unfold sX11_problem sX11_problem_30
  refine s_br (fun _ => s_some T) (fun n1 => ?_)
  refine s_br (fun _ => s_some T) (fun n2 => ?_)
  refine s_br (fun _ => s_some T) (fun n3 => ?_)
  refine s_br (fun _ => s_some T) (fun n4 => ?_)
  refine s_br (fun _ => s_some T) (fun n5 => ?_)
  refine s_br (fun n6 => ?_) (fun _ => s_some T)
  have j2 : Rg 0 3 x2 := ⟨nlt_i n1, nlt_i n2⟩
  have j3 : Rg 0 2 x3 := ⟨nlt_i n3, nlt_i n4⟩
  have j4 : Rg 1 4 x4 := ⟨nlt_i n5, le_i n6⟩
  refine s_dP0 (zX11_isPlace hF T r0 (rg_top _)) (fun o2 eb2 e2 ii2 pp2 => ?_)
  rw [e2]
  refine s_br (fun _ => s_some T) (fun nz2 => ?_)
  have ip := pp2 nz2
  have l60 : x1.toNatClampNeg < 60 := by have := rg_clamp (n := 59) ip (by decide); omega
  obtain ⟨b, B⟩ := pc_of T r0 (hr_of T r0 pl eb2 nz2)
  obtain ⟨kb, wb'⟩ := pc_r T r0 l60 B
  have PB : RyP ρ c b h := by obtain ⟨_, _, _, q⟩ := B; exact q
  obtain ⟨rf, erf, qrf⟩ := thR T r0 (i := 6) (k2 := 6) rfl (by decide)
  refine s_ref erf ?_
  refine s_pc T r0 ip B ?_
  have hp0 : ∀ k w i, SZ stE5 rwW k w i = true → cPm c k w i = true := fun k w i m => hp k w i (sz_sub (fun _ _ z => by rw [z]; rfl) (fun _ z => z) m)
  have hn : ∀ k w i, SZ noE (is 1503) k w i = true → cPm c k w i = true := fun k w i m => hp k w i (sz_sub (fun _ _ z => noE_f z) (fun w z => by rw [is_e z]; rfl) m)
  refine s_cIf T hn (zX5_endOf hF (pmA_s (szA (sx_c _)) rfl) (pmO_s (szP (sx_c _) is_s) rfl) wb' (by decide) (th_in _ T) qrf kb lw PB) (fun o3 T3 i3 f3 => ?_)
  have lw3 := lw_sz niceC_0 T f3 lw
  have B3 := pc_sz niceC_0 l60 T r0 f3 rfl B
  have PB3 : RyP ρ c b o3.2 := by obtain ⟨_, _, _, q⟩ := B3; exact q
  refine s_br (fun _ => ?_) (fun _ => s_some T3)
  obtain ⟨pr, epr, qpr⟩ := thR T3 r0 (i := 11) (k2 := 5) rfl (by decide)
  refine s_ref epr ?_
  refine s_pc T3 r0 ip B3 ?_
  have hs : ∀ k w i, SZ stE5 (is 3100) k w i = true → cPm c k w i = true := fun k w i m => hp0 k w i (sz_sub (fun _ _ z => z) (fun w z => by rw [is_e z]; rfl) m)
  obtain ⟨o1, eo1, T1', ov1, rc1, Q1⟩ := zX4_setP (c := cat c (SZ stE5 (is 3100)) o3.2) (x2 := x2) (x3 := x3) (x4 := x4) hF (sx_c _) (th_in _ T3) qpr kb wb' (by decide) PB3 (rg_m j2 (by decide)) j3 (rg_m j4 (by decide)) (fun _ => j4.1)
  refine s_val eo1 ?_
  have T1 := th_out T3 hs T1'
  have f1 := fr_u T3 T1'.2.2
  have lw1 := lw_sz niceC_s5 T3 f1 lw3
  have ep1 : hR o1 x0 11 = some pr := by rw [x12 r0 f1 rfl]; exact epr
  refine s_ref ep1 ?_
  refine s_zt (S := SZ stE5 rwW) (x0 := pr) T1 hp0 (s_setTree (c := cat c (SZ stE5 rwW) o1) (y := 0) hF (sx_c _) (th_in _ T1) qpr lw1 rc1 ov1 Q1) (fun o2 T2 f2 rc2 => ?_)
  have ep2 : hR o2.2 x0 11 = some pr := by rw [x12 r0 f2 rfl]; exact ep1
  refine s_ref ep2 ?_
  refine s_br (fun _ => ?_) (fun _ => s_some T2)
  refine s_ref ep2 ?_
  exact s_cV (zX4_keep hF (fun w k i m => hp k w i (by show (((stE5 k i || mS [(45, 999), (46, 999), (5, 14), (5, 15), (5, 16)] k i) || mS saC k i) || (mS ppL k i && rwW w)) = true; rw [m, Bool.or_true]; rfl)) T2 qpr ip) (fun o5 T5 => s_some T5)
end
end
