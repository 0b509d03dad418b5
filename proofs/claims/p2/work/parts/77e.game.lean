/-! game, now, book: pages keep to the law -/
section
variable {ρ ρ1 : Nat → Nat} {c c1 : Cm} {h o g : Hp} {E : Nat → Nat → Bool} {wp : Nat → Bool} {x0 b w i F L : Nat} {x1 x2 x3 : Int32} {n m : Int}
def KpX (ρ : Nat → Nat) (c : Cm) (x0 b : Nat) (h : Hp) : Prop := ρ b = 4 ∧ RyX ρ c b h ∧ ((∃ j, Pg x0 j b h) ∨ cw c b = 3200)
theorem kpx_w (T : TH ρ c h) (r0 : ρ x0 = 12) (K : KpX ρ c x0 b h) : ¬ cw c b = 1503 := by
  rcases K.2.2 with ⟨j, B⟩ | q
  · rw [(pg_r T r0 B).2]; omega
  · rw [q]; decide
theorem kpx_page (T : TH ρ c h) (r0 : ρ x0 = 12) (X : Ext ρ c ρ1 c1) (T1 : TH ρ1 c1 o) (f : Fr ρ (cat c (SZ (g59 i) (is (8000 + i))) h) h o) (kp : ∀ j b, Pg x0 j b h → Pg x0 j b o ∧ (RyX ρ c b h → RyX ρ c b o)) (K : KpX ρ c x0 b h) : KpX ρ1 c1 x0 b o := by
  obtain ⟨k1, P, q⟩ := K
  refine ⟨ex_r X k1 (by decide), ?_, ?_⟩
  · refine ryx_x T r0 X T1 ?_
    rcases q with ⟨j, B⟩ | q
    · exact (kp j b B).2 P
    · exact ryx_sz niceC_59 T k1 q (is_f (by omega)) f P
  · rcases q with ⟨j, B⟩ | q
    · exact Or.inl ⟨j, (kp j b B).1⟩
    · exact Or.inr (ex_w X k1 (by decide) q)
theorem kpx_sz (T : TH ρ c h) (r0 : ρ x0 = 12) (f : Fr ρ (cat c (SZ noE (is 1503)) h) h o) (K : KpX ρ c x0 b h) : KpX ρ c x0 b o := by
  obtain ⟨k1, P, q⟩ := K
  refine ⟨k1, ?_, ?_⟩
  · rcases q with ⟨j, B⟩ | q
    · exact ryx_sz niceC_0 T k1 (pg_r T r0 B).2 (no8 (by decide)) f P
    · exact ryx_sz niceC_0 T k1 q rfl f P
  · rcases q with ⟨j, B⟩ | q
    · exact Or.inl ⟨j, (pg_sz niceC_0 rfl T r0 f).mp B⟩
    · exact Or.inr q
theorem alikex_loop (hF : 700000 ≤ F) : ∀ (f : Nat) {ρ : Nat → Nat} {c : Cm} {h : Hp} {b : Nat} {x1 x3 x4 x5 : Int32}, (∀ k w i, SZ pgE pgW k w i = true → cPm c k w i = true) → TH ρ c h → ρ x0 = 12 → Rg 0 7 x1 → LwR ρ c h → PgX ρ c x0 h → KpX ρ c x0 b h → 0 ≤ x5.toInt → (301 - x5.toInt).toNat < f → Sat (sX11_countAlike_6 F f h x0 x1 b x3 x4 x5) (MkI ρ c (-2147483648) 2147483647 (fun o => LwR ρ c o ∧ PgX ρ c x0 o ∧ KpX ρ c x0 b o)) := by
  intro f
  induction f with
  | zero => intros; omega
  | succ f ih =>
    intro ρ c h b x1 x3 x4 x5 hp T r0 i1 lw pg K a5 hf
    rw [sX11_countAlike_6]
    refine s_len T r0 i1 (fun r er qr => ?_)
    refine s_br (fun _ => s_some ⟨ρ, c, ex_0, T, rg_top _, lw, pg, K⟩) (fun n1 => ?_)
    have l5 := nlt_i n1
    have p300 := thI T qr (k := 61) (i := x1.toNatClampNeg) (lo := -1) (hi := 300) rfl
    have i5 : Rg 0 300 x5 := ⟨a5, by have := p300.2; omega⟩
    have on : ∀ {ρ2 : Nat → Nat} {c2 : Cm} {g : Hp} {y : Int32}, Ext ρ c ρ2 c2 → TH ρ2 c2 g → LwR ρ2 c2 g → PgX ρ2 c2 x0 g → KpX ρ2 c2 x0 b g → Sat (sX11_countAlike_83 F (sX11_countAlike_6 F f) g x0 x1 b x3 y x5) (MkI ρ c (-2147483648) 2147483647 (fun o => LwR ρ c o ∧ PgX ρ c x0 o ∧ KpX ρ c x0 b o)) := fun {ρ2 c2 g y} Y T2 lw2 pg2 K2 => by
      unfold sX11_countAlike_83
      refine s_q (fun v ev => ?_)
      have ev2 : v.toInt = x5.toInt + 1 := by rw [ev]; exact (nc_s i5 (by decide)).2
      refine s_imp (ih (ex_hp Y hp) T2 (ex_r Y r0 (by decide)) i1 lw2 pg2 K2 (by omega) (by have := i5.2; omega)) (fun o ⟨ρ3, c3, Z, T3, i3, a1, a2, a3⟩ => ⟨ρ3, c3, ex_t Y Z, T3, i3, lw_y Y a1, pgx_y Y a2, K.1, ryx_y Y a3.2.1, ?_⟩)
      rcases K.2.2 with ⟨j, B⟩ | q
      · rcases a3.2.2 with z | z
        · exact Or.inl z
        · have := ex_w Y K.1 (by decide) (pg_r T r0 B).2
          rw [this] at z
          omega
      · exact Or.inr q
    have go : Sat (sX11_countAlike_55 F (sX11_countAlike_6 F f) h x0 x1 b x3 x4 x5 1) (MkI ρ c (-2147483648) 2147483647 (fun o => LwR ρ c o ∧ PgX ρ c x0 o ∧ KpX ρ c x0 b o)) := by
      unfold sX11_countAlike_55
      refine s_br (fun z => absurd z (by decide)) (fun _ => ?_)
      obtain ⟨rf, erf, qrf⟩ := thR T r0 (i := 6) (k2 := 6) rfl (by decide)
      refine s_ref erf ?_
      refine s_pageX hF hp (fun _ => rfl) (fun j hj => pgW_t hj) T r0 i1 i5 pg (fun o1 ρ1 c1 X1 T1 f1 B1 kp1 pg1 us1 _ => ?_)
      have r1 := ex_r X1 r0 (by decide)
      have qrf1 := ex_r X1 qrf (by decide)
      have hp1 := ex_hp X1 hp
      have lw1 := lw_x T r0 X1 T1 (lw_sz niceC_59 T f1 lw)
      have P1 := ryx_x T r0 X1 T1 (us1 r er l5)
      have pg1' := pgx_x T r0 X1 T1 pg1
      have K1 := kpx_page T r0 X1 T1 f1 kp1 K
      obtain ⟨k1, w1⟩ := pg_r T1 r1 B1
      unfold sX11_countAlike_74
      have nw1 : ¬ cw c1 b = 1503 := kpx_w T1 r1 K1
      have hs : ∀ k w i, SZ noE (is 1503) k w i = true → cPm c1 k w i = true := fun k w i m => hp1 k w i (sz_sub (fun _ _ z => noE_f z) (fun w z => by rw [is_e z]; rfl) m)
      refine s_cIf T1 hs (zX5_areAlike hF (pmA_s (szA (sx_c _)) rfl) (pmO_s (szP (sx_c _) is_s) rfl) rfl w1 nw1 (by omega) (th_in _ T1) qrf1 K1.1 k1 lw1 K1.2.1.1 P1.1) (fun o2 T2 i2 f2 => ?_)
      have lw2 := lw_sz niceC_0 T1 f2 lw1
      have pg2 := pgx_sz niceC_0 (fun _ => rfl) (fun _ => rfl) T1 r1 f2 (fun j => Or.inl (no8 (by decide))) pg1'
      have K2 := kpx_sz T1 r1 f2 K1
      unfold sX11_countAlike_77
      exact s_br (fun _ => on X1 T2 lw2 pg2 K2) (fun _ => s_q (fun v ev => on X1 T2 lw2 pg2 K2))
    have no' : Sat (sX11_countAlike_55 F (sX11_countAlike_6 F f) h x0 x1 b x3 x4 x5 0) (MkI ρ c (-2147483648) 2147483647 (fun o => LwR ρ c o ∧ PgX ρ c x0 o ∧ KpX ρ c x0 b o)) := by
      unfold sX11_countAlike_55
      exact s_br (fun _ => on ex_0 T lw pg K) (fun z => absurd rfl z)
    unfold sX11_countAlike_50 sX11_countAlike_54
    refine s_br (fun _ => go) (fun _ => ?_)
    refine s_len T r0 i1 (fun r' er' qr' => ?_)
    refine s_br (fun _ => no') (fun _ => ?_)
    obtain ⟨md, emd, qmd⟩ := thR T r0 (i := 16) (k2 := 60) rfl (by decide)
    refine s_ref emd ?_
    refine s_gd (by rw [thN T qmd (k := 60) (n := 2408) rfl (by decide)]; exact rg_inB (gi_r i1 i5) (by decide)) ?_
    exact s_br (fun _ => go) (fun _ => no')
theorem alike_x (hF : 700000 ≤ F) (hp : ∀ k w i, SZ pgE pgW k w i = true → cPm c k w i = true) (T : TH ρ c h) (r0 : ρ x0 = 12) (i1 : Rg 0 7 x1) (lw : LwR ρ c h) (pg : PgX ρ c x0 h) (K : KpX ρ c x0 b h) : Sat (sX11_countAlike F h x0 x1 b x3) (MkI ρ c (-2147483648) 2147483647 (fun o => LwR ρ c o ∧ PgX ρ c x0 o ∧ KpX ρ c x0 b o)) := by
  unfold sX11_countAlike
  exact alikex_loop hF F hp T r0 i1 lw pg K (by decide) (by show (301 - (0 : Int)).toNat < F; omega)
theorem game_x (hF : 700000 ≤ F) (hp : ∀ k w i, SZ pgE pgW k w i = true → cPm c k w i = true) (T : TH ρ c h) (r0 : ρ x0 = 12) (lw : LwR ρ c h) (pg : PgX ρ c x0 h) : Sat (sX11_game F h x0 x1 x2) (MkI ρ c (-2147483648) 2147483647 (PgX ρ c x0)) := by
  unfold sX11_game
  refine s_dP0 (zX11_isGame hF T (rg_top _)) (fun oo eb e ii pp => ?_)
  rw [e]
  unfold sX11_game_4 sX11_game_16
  have ex : ∀ {y : Int32}, Sat (some (y, h)) (MkI ρ c (-2147483648) 2147483647 (PgX ρ c x0)) := s_some ⟨ρ, c, ex_0, T, rg_top _, pg⟩
  refine s_br (fun _ => ex) (fun nz => ?_)
  have i1 := pp nz
  refine s_br (fun _ => ex) (fun _ => ?_)
  refine s_br (fun _ => ?_) (fun _ => ex)
  refine s_len T r0 i1 (fun r er qr => ?_)
  refine s_q (fun p0 ep0 => ?_)
  refine s_br (fun _ => ex) (fun n1 => ?_)
  have i2 : Rg 0 300 p0 := rg_nlo n1 (by rw [ep0]; exact thI T qr (k := 61) (lo := -1) (hi := 300) rfl) (rg_b rfl : Rg (-1) (-1) (-1 : Int32))
  refine s_pageX hF hp (fun _ => rfl) (fun j hj => pgW_t hj) T r0 i1 i2 pg (fun o3 ρ1 c1 X1 T1 f1 B1 kp1 pg1 us1 _ => ?_)
  have r1 := ex_r X1 r0 (by decide)
  have hp1 := ex_hp X1 hp
  have lw1 := lw_x T r0 X1 T1 (lw_sz niceC_59 T f1 lw)
  have P1 := ryx_x T r0 X1 T1 (us1 r er (by rw [ep0]; exact Int.le_refl _))
  have pg1' := pgx_x T r0 X1 T1 pg1
  obtain ⟨k1, w1⟩ := pg_r T1 r1 B1
  have K1 : KpX ρ1 c1 x0 o3.1 o3.2 := ⟨k1, P1, Or.inl ⟨_, B1⟩⟩
  have ex1 : ∀ {y : Int32}, Sat (some (y, o3.2)) (MkI ρ c (-2147483648) 2147483647 (PgX ρ c x0)) := s_some ⟨ρ1, c1, X1, T1, rg_top _, pg1⟩
  unfold sX11_game_40 sX11_game_78 sX11_game_97 sX11_game_101 sX11_game_106 sX11_game_116
  refine s_br (fun _ => ex1) (fun _ => ?_)
  refine s_br (fun _ => ?_) (fun _ => ?_)
  · exact s_cl (s_imp (alike_x hF hp1 T1 r1 i1 lw1 pg1' K1) (fun o4 ⟨ρ4, c4, X4, T4, i4, a1, a2, a3⟩ => s_some ⟨ρ4, c4, ex_t X1 X4, T4, i4, pgx_y X1 a2⟩))
  refine s_br (fun _ => ?_) (fun _ => ?_)
  · refine s_br (fun _ => ex1) (fun _ => ?_)
    exact s_cl (s_imp (alike_x hF hp1 T1 r1 i1 lw1 pg1' K1) (fun o4 ⟨ρ4, c4, X4, T4, i4, a1, a2, a3⟩ => s_br (fun _ => s_some ⟨ρ4, c4, ex_t X1 X4, T4, rg_top _, pgx_y X1 a2⟩) (fun _ => s_some ⟨ρ4, c4, ex_t X1 X4, T4, rg_top _, pgx_y X1 a2⟩)))
  obtain ⟨rf, erf, qrf⟩ := thR T1 r1 (i := 6) (k2 := 6) rfl (by decide)
  refine s_ref erf ?_
  have hs : ∀ k w i, SZ noE (is 1503) k w i = true → cPm c1 k w i = true := fun k w i m => hp1 k w i (sz_sub (fun _ _ z => noE_f z) (fun w z => by rw [is_e z]; rfl) m)
  refine s_cIf T1 hs (zX5_endOf hF (pmA_s (szA (sx_c _)) rfl) (pmO_s (szP (sx_c _) is_s) rfl) w1 (by omega) (th_in _ T1) qrf k1 lw1 P1.1) (fun o2 T2 i2 f2 => ?_)
  exact s_some ⟨ρ1, c1, X1, T2, rg_top _, pgx_y X1 (pgx_sz niceC_0 (fun _ => rfl) (fun _ => rfl) T1 r1 f2 (fun j => Or.inl (no8 (by decide))) pg1')⟩
end
