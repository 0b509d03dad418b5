/-! now, book: places and pages keep to the law -/
section
variable {ρ ρ1 : Nat → Nat} {c c1 : Cm} {h o g : Hp} {E : Nat → Nat → Bool} {wp : Nat → Bool} {x0 b w i F L : Nat} {x1 x2 x3 : Int32} {n m : Int}
theorem plx_x (T : TH ρ c h) (r0 : ρ x0 = 12) (X : Ext ρ c ρ1 c1) (T1 : TH ρ1 c1 o) (P : PlX ρ c x0 g) : PlX ρ1 c1 x0 g := fun r u e1 e2 i hi n b eb => pox_x T r0 X T1 (P r u e1 e2 i hi n b eb)
theorem plx_y (X : Ext ρ c ρ1 c1) (P : PlX ρ1 c1 x0 g) : PlX ρ c x0 g := fun r u e1 e2 i hi n b eb => pox_y X (P r u e1 e2 i hi n b eb)
theorem now_x (hF : 700000 ≤ F) (hp : ∀ k w i, SZ stE stW k w i = true → cPm c k w i = true) (T : TH ρ c h) (r0 : ρ x0 = 12) (pl : PlP ρ c x0 h) (px : PlX ρ c x0 h) (pg : PgX ρ c x0 h) : Sat (sX11_now F h x0 x1) (MkI ρ c (-104) 59 (fun o => PlP ρ c x0 o ∧ PlX ρ c x0 o ∧ PgX ρ c x0 o)) := by
  unfold sX11_now
  refine s_dP0 (zX11_isGame hF T (rg_top _)) (fun oo eb e ii pp => ?_)
  rw [e]
  unfold sX11_now_4
  refine s_br (fun _ => s_some ⟨ρ, c, ex_0, T, rg_b rfl, pl, px, pg⟩) (fun nz => ?_)
  have i1 := pp nz
  refine s_len T r0 i1 (fun r er qr => ?_)
  refine s_br (fun _ => s_some ⟨ρ, c, ex_0, T, rg_b rfl, pl, px, pg⟩) (fun n1 => ?_)
  have i2 : Rg 0 300 (hI h r x1.toNatClampNeg) := rg_nlo n1 (thI T qr (k := 61) (lo := -1) (hi := 300) rfl) (rg_b rfl : Rg (-1) (-1) (-1 : Int32))
  refine s_cI0 (zX11_freePlace hF T r0) (fun o2 e2 j2 => ?_)
  rw [e2]
  unfold sX11_now_27
  refine s_br (fun _ => s_some ⟨ρ, c, ex_0, T, rg_b rfl, pl, px, pg⟩) (fun n2 => ?_)
  have ip : Rg 0 59 o2.1 := rg_nlo n2 j2 (rg_b rfl : Rg (-1) (-1) (-1 : Int32))
  refine s_len T r0 i1 (fun r' er' qr' => ?_)
  have : r' = r := r_eq er er'
  subst this
  refine s_pageX hF hp (fun _ => rfl) (fun j hj => stW_t hj) T r0 i1 i2 pg (fun o3 ρ1 c1 X1 T1 f1 B1 kp1 pg1 us1 _ => ?_)
  have r1 := ex_r X1 r0 (by decide)
  have hp1 := ex_hp X1 hp
  have P1 := ryx_x T r0 X1 T1 (us1 r' er (Int.le_refl _))
  have pg1' := pgx_x T r0 X1 T1 pg1
  have pl1 := pl_x T r0 X1 T1 (pl_sz niceC_59 (fun _ => rfl) (is_f (by omega)) T r0 f1 pl)
  obtain ⟨k1, w1⟩ := pg_r T1 r1 B1
  unfold sX11_now_49 sX11_now_52
  have hs : ∀ k w i, SZ e58 (is 3200) k w i = true → cPm c1 k w i = true := fun k w i m => hp1 k w i (sz_sub (fun k i z => by unfold e58 at z; unfold stE; rw [z]; rfl) (fun w z => by rw [is_e z]; rfl) m)
  refine s_cVfq T1 hs (s_weqp (zX11_settle hF (fun w k i m => sx_c _ k w i (by
      unfold SZ e58
      have : ((58 == k && (999 == 999 || 999 == i)) || false) = true := m
      rw [Bool.or_false, Bool.and_eq_true, beq_iff_eq] at this
      rw [← this.1]; rfl)) (pmO_s (szP (sx_c _) is_s) rfl) w1 (th_in _ T1) r1 ip k1 pl1 P1.1)) (fun o4 T4 f4 p4 => ?_)
  have px1 : PlX ρ1 c1 x0 o3.2 := plx_x T r0 X1 T1 (plx_fr T r0 f1 (fun _ => rfl) (fun _ => rfl) (fun _ _ => rfl) (fun _ _ => rfl) rfl (fun _ => sz_f rfl rfl (Or.inr (is_f (by omega)))) (fun _ => rfl) (fun _ => rfl) px)
  exact s_some ⟨ρ1, c1, X1, T4, rg_m ip (by decide), pl_y X1 p4.1.1, plx_y X1 (settle_x T1 r1 k1 ip px1 P1.2 p4.2), pgx_y X1 (pgx_sz niceC_58 (fun _ => rfl) (fun _ => rfl) T1 r1 f4 (fun j => Or.inl (no8 (by decide))) pg1')⟩
theorem cbookx_loop (hF : 700000 ≤ F) {b : Nat} {x1 x2 : Int32} (ip : Rg 0 59 x1) : ∀ (f : Nat) {ρ : Nat → Nat} {c : Cm} {h : Hp} {x3 x4 : Int32}, (∀ k w i, SZ pgE pgW k w i = true → cPm c k w i = true) → TH ρ c h → ρ x0 = 12 → LwR ρ c h → PgX ρ c x0 h → PCX ρ c x0 x1.toNatClampNeg b h → 0 ≤ x4.toInt → (8 - x4.toInt).toNat < f → Sat (sX11_book_34 F f h x0 x1 x2 x3 x4) (MkI ρ c (-2147483648) 2147483647 (PgX ρ c x0)) := by
  intro f
  induction f with
  | zero => intros; omega
  | succ f ih =>
    intro ρ c h x3 x4 hp T r0 lw pg B a4 hf
    have l60 : x1.toNatClampNeg < 60 := by have := rg_clamp (n := 59) ip (by decide); omega
    rw [sX11_book_34]
    refine s_br (fun _ => s_some ⟨ρ, c, ex_0, T, rg_top _, pg⟩) (fun n1 => ?_)
    have l4 : x4.toInt < 8 := nle_i n1
    have i4 : Rg 0 7 x4 := ⟨a4, by omega⟩
    refine s_pcx T r0 ip B ?_
    obtain ⟨kb, wb'⟩ := pcx_r T r0 l60 B
    have PB : RyX ρ c b h := by obtain ⟨_, _, _, q⟩ := B; exact q
    refine s_mI (S := SZ pgE pgW) T hp (alike_x (c := cat c (SZ pgE pgW) h) hF (sx_c _) (th_in _ T) r0 i4 lw pg ⟨kb, PB, Or.inr wb'⟩) (fun o1 ρ1 c1 X1 T1 f1 j1 ⟨a1, a2, a3⟩ => ?_)
    have r1 := ex_r X1 r0 (by decide)
    obtain ⟨r, e1, e2, _⟩ := B
    obtain ⟨q1, f2, g1⟩ := thR T r0 (i := 13) (k2 := 57) rfl (by decide)
    have h57 : ρ r = 57 := by rw [r_eq f2 e1]; exact g1
    have B1 : PCX ρ1 c1 x0 x1.toNatClampNeg b o1.2 := ⟨r, by rw [x12 r0 f1 rfl]; exact e1, by rw [(fr_RI f1 h57 (by decide) (fun _ => sz_f rfl rfl (Or.inl rfl))).2.2]; exact e2, ryx_x T r0 X1 T1 a3.2.1⟩
    unfold sX11_book_55
    refine s_q (fun u eu => ?_)
    refine s_q (fun v ev => ?_)
    have ev2 : v.toInt = x4.toInt + 1 := by rw [ev]; exact (nc_s i4 (by decide)).2
    exact s_imp (ih (ex_hp X1 hp) T1 r1 (lw_x T r0 X1 T1 a1) (pgx_x T r0 X1 T1 a2) B1 (by omega) (by omega)) (fun o2 ⟨ρ2, c2, X2, T2, i2, p2⟩ => ⟨ρ2, c2, ex_t X1 X2, T2, i2, pgx_y X1 p2⟩)
theorem book_x (hF : 700000 ≤ F) (hp : ∀ k w i, SZ pgE pgW k w i = true → cPm c k w i = true) (T : TH ρ c h) (r0 : ρ x0 = 12) (lw : LwR ρ c h) (pl : PlP ρ c x0 h) (px : PlX ρ c x0 h) (pg : PgX ρ c x0 h) : Sat (sX11_book F h x0 x1 x2) (MkI ρ c (-2147483648) 2147483647 (PgX ρ c x0)) := by
  unfold sX11_book
  refine s_dP0 (zX11_isPlace hF T r0 (rg_top _)) (fun o2 eb2 e2 ii2 pp2 => ?_)
  rw [e2]
  unfold sX11_book_5 sX11_book_26 sX11_book_29
  have ex : ∀ {y : Int32}, Sat (some (y, h)) (MkI ρ c (-2147483648) 2147483647 (PgX ρ c x0)) := s_some ⟨ρ, c, ex_0, T, rg_top _, pg⟩
  refine s_br (fun _ => ex) (fun nz2 => ?_)
  have ip := pp2 nz2
  have l60 : x1.toNatClampNeg < 60 := by have := rg_clamp (n := 59) ip (by decide); omega
  obtain ⟨b, B⟩ := pcx_of T r0 pl px eb2 nz2 l60
  refine s_br (fun _ => cbookx_loop hF ip F hp T r0 lw pg B (by decide) (by show (8 - (0 : Int)).toNat < F; omega)) (fun _ => ?_)
  refine s_br (fun _ => ex) (fun _ => ?_)
  have hs : ∀ k w i, SZ noE (is 1503) k w i = true → cPm c k w i = true := fun k w i m => hp k w i (sz_sub (fun _ _ z => noE_f z) (fun w z => by rw [is_e z]; rfl) m)
  refine s_cIfq T hs (zX11_listMoves hF (pmA_s (szA (sx_c _)) rfl) (pmO_s (szP (sx_c _) is_s) rfl) (th_in _ T) r0 (rg_top _) lw pl) (fun o3 T3 i3 f3 p3 => ?_)
  have lw3 := lw_sz niceC_0 T f3 lw
  have pg3 := pgx_sz niceC_0 (fun _ => rfl) (fun _ => rfl) T r0 f3 (fun j => Or.inl (no8 (by decide))) pg
  have B3 := pcx_sz niceC_0 l60 T r0 f3 rfl B
  unfold sX11_book_23 sX11_book_29 sX11_book_26
  exact s_br (fun _ => cbookx_loop hF ip F hp T3 r0 lw3 pg3 B3 (by decide) (by show (8 - (0 : Int)).toNat < F; omega)) (fun _ => s_some ⟨ρ, c, ex_0, T3, rg_top _, pg3⟩)
end
