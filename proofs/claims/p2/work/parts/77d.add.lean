/-! add: pages keep to the law -/
section
variable {ρ ρ1 : Nat → Nat} {c c1 : Cm} {h o g : Hp} {E : Nat → Nat → Bool} {wp : Nat → Bool} {x0 b w i F L : Nat} {x1 x2 x3 : Int32} {n m : Int}
theorem lwx_x (T : TH ρ c h) (r0 : ρ x0 = 12) (X : Ext ρ c ρ1 c1) (T1 : TH ρ1 c1 o) (P : LwX ρ c g) : LwX ρ1 c1 g := fun L hL wL => by
  obtain ⟨a, w⟩ := law_ext T r0 X T1 hL wL
  exact P L a w
theorem lwx_y (X : Ext ρ c ρ1 c1) (P : LwX ρ1 c1 g) : LwX ρ c g := fun L hL wL => P L (ex_r X hL (by decide)) (ex_w X hL (by decide) wL)
theorem way_ext (T : TH ρ c h) (r0 : ρ x0 = 12) (X : Ext ρ c ρ1 c1) (T1 : TH ρ1 c1 o) {W : Nat} (hW : ρ1 W = 11) : ρ W = 11 := by
  obtain ⟨W0, e0, q0⟩ := thR T r0 (i := 5) (k2 := 11) rfl (by decide)
  have q1 := ex_r X q0 (by decide)
  have e : W = W0 := T1.1.2.2.2.2.2.2.2.2 W W0 (by rw [hW, q1]) (Or.inl (by rw [hW]; rfl))
  rw [e]; exact q0
theorem wya_x (T : TH ρ c h) (r0 : ρ x0 = 12) (X : Ext ρ c ρ1 c1) (T1 : TH ρ1 c1 o) (P : WyA ρ c g) : WyA ρ1 c1 g := fun W L hW hL wL => by
  obtain ⟨a, w⟩ := law_ext T r0 X T1 hL wL
  exact P W L (way_ext T r0 X T1 hW) a w
theorem wya_y (X : Ext ρ c ρ1 c1) (P : WyA ρ1 c1 g) : WyA ρ c g := fun W L hW hL wL => P W L (ex_r X hW (by decide)) (ex_r X hL (by decide)) (ex_w X hL (by decide) wL)
theorem add_x (hF : 700000 ≤ F) (hp : ∀ k w i, SZ pgE pgW k w i = true → cPm c k w i = true) (T : TH ρ c h) (r0 : ρ x0 = 12) (lw : LwR ρ c h) (lx : LwX ρ c h) (wx : WyA ρ c h) (pg : PgX ρ c x0 h) : Sat (sX11_add F h x0 x1 x2) (MkI ρ c (-104) 300 (PgX ρ c x0)) := by
  unfold sX11_add
  refine s_dP0 (zX11_isGame hF T (rg_top _)) (fun oo eb e ii pp => ?_)
  rw [e]
  unfold sX11_add_4
  refine s_br (fun _ => s_some ⟨ρ, c, ex_0, T, rg_b rfl, pg⟩) (fun nz => ?_)
  have i1 := pp nz
  refine s_len T r0 i1 (fun r er qr => ?_)
  refine s_q (fun p0 ep0 => ?_)
  refine s_br (fun _ => s_some ⟨ρ, c, ex_0, T, rg_b rfl, pg⟩) (fun n1 => ?_)
  have i2 : Rg 0 300 p0 := rg_nlo n1 (by rw [ep0]; exact thI T qr (k := 61) (lo := -1) (hi := 300) rfl) (rg_b rfl : Rg (-1) (-1) (-1 : Int32))
  refine s_pageX hF hp (fun _ => rfl) (fun j hj => pgW_t hj) T r0 i1 i2 pg (fun o3 ρ1 c1 X1 T1 f1 B1 kp1 pg1 us1 kf1 => ?_)
  have r1 := ex_r X1 r0 (by decide)
  have qr1 := ex_r X1 qr (by decide)
  have hp1 := ex_hp X1 hp
  have lw1 := lw_x T r0 X1 T1 (lw_sz niceC_59 T f1 lw)
  have lx1 := lwx_x T r0 X1 T1 (lwx_k T kf1 (P := lx))
  have wx1 := wya_x T r0 X1 T1 (wya_k T kf1 (P := wx))
  have P1 := ryx_x T r0 X1 T1 (us1 r er (by rw [ep0]; exact Int.le_refl _))
  have pg1' := pgx_x T r0 X1 T1 pg1
  obtain ⟨k1, w1⟩ := pg_r T1 r1 B1
  unfold sX11_add_31
  obtain ⟨rf, erf, qrf⟩ := thR T1 r1 (i := 6) (k2 := 6) rfl (by decide)
  refine s_ref erf ?_
  obtain ⟨ls, els, qls⟩ := thR T1 r1 (i := 12) (k2 := 47) rfl (by decide)
  refine s_ref els ?_
  have hs : ∀ k w i, SZ noE (is 1503) k w i = true → cPm c1 k w i = true := fun k w i m => hp1 k w i (sz_sub (fun _ _ z => noE_f z) (fun w z => by rw [is_e z]; rfl) m)
  refine s_cIfq T1 hs (s_weq (zX5_collect hF (pmA_s (szA (sx_c _)) rfl) (pmO_s (szP (sx_c _) is_s) rfl) w1 rfl (by omega) (th_in _ T1) qrf k1 qls (rg_b rfl) lw1 P1.1)) (fun o4 T4 i4 f4 eq4 => ?_)
  obtain ⟨L, eL, rL⟩ := thR T1 r1 (i := 2) (k2 := 2) rfl (by decide)
  have wL : cw c1 L = 2102 := kid_w T1 r1 (i := 2) (w := 2102) rfl (by decide) eL
  have LQ4 : LQ ls (hI o3.2 L 2).toInt (hI o3.2 L 3).toInt o4 := (sat_e (collect_q (c := cat c1 (SZ noE (is 1503)) o3.2) hF (pmA_s (szA (sx_c _)) rfl) (pmO_s (szP (sx_c _) is_s) rfl) w1 rfl (by omega) (th_in _ T1) qrf k1 qls (rg_b rfl) lw1 P1.1 lx1 wx1 P1.2) eq4).2 L rL wL
  have P4 := ryx_sz niceC_0 T1 k1 w1 (no8 (by decide)) f4 P1
  have pg4 := pgx_sz niceC_0 (fun _ => rfl) (fun _ => rfl) T1 r1 f4 (fun j => Or.inl (no8 (by decide))) pg1'
  have B4 := (pg_sz niceC_0 rfl T1 r1 f4).mp B1
  unfold sX11_add_49 sX11_add_61
  have ex : ∀ {y : Int32}, Rg (-104) 300 y → Sat (some (y, o4.2)) (MkI ρ c (-104) 300 (PgX ρ c x0)) := fun hy => s_some ⟨ρ1, c1, X1, T4, hy, pgx_y X1 pg4⟩
  refine s_br (fun _ => ex (rg_b rfl)) (fun n2 => ?_)
  refine s_br (fun n3 => ?_) (fun _ => ex (rg_b rfl))
  refine s_br (fun n4 => ?_) (fun _ => ex (rg_b rfl))
  have l3 : p0.toInt < 300 := lt_i n4
  have i3 : Rg 0 299 p0 := ⟨i2.1, by omega⟩
  have i5 : Rg 0 300 (p0 + (1 : Int32)) := rg_add i3 (rg_b rfl : Rg 1 1 (1 : Int32)) (by decide)
  have lx2 := lt_i n3
  have ix : Rg 0 4095 x2 := ⟨nlt_i n2, by have := i4.2; omega⟩
  refine s_pageX hF hp1 (fun _ => rfl) (fun j hj => pgW_t hj) T4 r1 i1 i5 pg4 (fun o5 ρ5 c5 X5 T5 f5 B5 kp5 pg5 _ kf5 => ?_)
  have r5 := ex_r X5 r1 (by decide)
  have hp5 := ex_hp X5 hp1
  obtain ⟨B45, Q45⟩ := kp5 _ _ B4
  have P5 := ryx_x T4 r1 X5 T5 (Q45 P4)
  have pg5' := pgx_x T4 r1 X5 T5 pg5
  obtain ⟨k5, w5⟩ := pg_r T5 r5 B45
  have lg : gi x1 (p0 + 1) ≤ 2407 := rg_clamp (gi_r i1 i5) (by decide)
  unfold sX11_add_82
  refine s_copyX (wy := 0) hF hp5 (pgW_t lg) T5 r5 B5 k5 P5 pg5' (fun o6 T6 f6 B6 P6 pg6 eq6 => ?_)
  unfold sX11_add_91
  obtain ⟨rf6, erf6, qrf6⟩ := thR T6 r5 (i := 6) (k2 := 6) rfl (by decide)
  refine s_ref erf6 ?_
  obtain ⟨ls6, els6, qls6⟩ := thR T6 r5 (i := 12) (k2 := 47) rfl (by decide)
  refine s_ref els6 ?_
  refine s_gd (by rw [thN T6 qls6 (k := 47) (n := 4096) rfl (by decide)]; exact rg_inB ix (by decide)) ?_
  obtain ⟨k6, w6⟩ := pg_r T6 r5 B6
  have hs6 : ∀ k w i, SZ noE (is (8000 + gi x1 (p0 + 1))) k w i = true → cPm c5 k w i = true := fun k w i m => hp5 k w i (sz_sub (fun _ _ z => noE_f z) (fun w z => by rw [is_e z]; exact pgW_t lg) m)
  refine s_cVfq T6 hs6 (s_weqp (zX5_make hF (pmO_s (szP (sx_c _) is_s) rfl) w6 (th_in _ T6) qrf6 k6 (rg_top _) (thG T6 qls6))) (fun o7 T7 f7 rc7 => ?_)
  have rL5 := ex_r X5 rL (by decide)
  have wL5 := ex_w X5 rL (by decide) wL
  obtain ⟨k56, I56⟩ := eq6
  have els5 : hR o5.2 x0 12 = some ls := by rw [kfR 12 kf5 r1 (by decide), x12 r1 f4 rfl]; exact els
  have y6 : ls6 = ls := by rw [k56] at els6; exact r_eq els5 els6
  subst y6
  have IL : ∀ j, j = 2 ∨ j = 3 ∨ j = 6 → hI o6 L j = hI o3.2 L j := fun j hj => by
    rw [I56 L j (by rw [rL5]; rfl), kfI j kf5 rL (by decide) (by rcases hj with z | z | z <;> rw [z] <;> rfl), (fr_RI f4 rL (by decide) (fun _ => sz_f rfl (by rcases hj with z | z | z <;> rw [z] <;> rfl) (Or.inl (by rcases hj with z | z | z <;> rw [z] <;> rfl)))).1]
  have I47 : hI o6 ls6 x2.toNatClampNeg = hI o4.2 ls6 x2.toNatClampNeg := by rw [I56 ls6 _ (by rw [qls6]; rfl), kfI _ kf5 qls (by decide)]
  have MX : MvX (hI o6 L 2).toInt (hI o6 L 3).toInt (hI o6 ls6 x2.toNatClampNeg) := by
    rw [IL 2 (by decide), IL 3 (by decide), I47]
    exact LQ4 x2.toNatClampNeg (by have := nc_i ix.1; omega)
  have SP6 : ShP ρ5 rf6 o5.1 L (hI o6 L 3).toInt o6 := by
    obtain ⟨L6, eL6, rL6⟩ := thR T6 qrf6 (i := 0) (k2 := 2) rfl (by decide)
    have wL6 : cw c5 L6 = 2102 := kid_w T6 qrf6 (i := 0) (w := 2102) rfl (by decide) eL6
    have y : L6 = L := law_1 T6 rL5 wL5 rL6 wL6
    subst y
    refine ⟨pr_th T6 k6, eL6, rL5, thI T6 k6 (k := 4) (i := 5) rfl, thI T6 rL5 (k := 2) (i := 6) rfl, ?_, (thI T6 rL5 (k := 2) (i := 3) (lo := 0) (hi := 12) rfl).2⟩
    rw [IL 6 (by decide), IL 3 (by decide)]
    exact (lx1 L6 rL wL).2.1
  have k7 := make_x SP6 MX rc7.2
  have P7 : RyX ρ5 c5 o5.1 o7 := ⟨rc7.1 _ k6 P6.1, pox_k k7 T6 k6 rL5 wL5 rfl rfl P6.2⟩
  have pg7 : PgX ρ5 c5 x0 o7 := pgx_sz niceC_0 (fun _ => rfl) (fun _ => rfl) T6 r5 f7 (fun j => Or.inr (fun b B Pb => ⟨rc7.1 b (pg_r T6 r5 B).1 Pb.1, pox_k k7 T6 (pg_r T6 r5 B).1 rL5 wL5 rfl rfl Pb.2⟩)) pg6
  have B7 := (pg_sz niceC_0 rfl T6 r5 f7).mp B6
  unfold sX11_add_106
  obtain ⟨md, emd, qmd⟩ := thR T7 r5 (i := 16) (k2 := 60) rfl (by decide)
  refine s_ref emd ?_
  refine s_gd (by rw [thN T7 qmd (k := 60) (n := 2408) rfl (by decide)]; exact rg_inB (gi_r i1 i2) (by decide)) ?_
  refine s_hq (th_wI T7 qmd (k := 60) (lo := 0) (hi := 4095) rfl ix (by decide) (by decide) (szE hp5 rfl _)) (fun g8 T8 e8 => ?_)
  have f8 := fr1I (c := c5) (A := [(60, 999)]) (k := 60) qmd rfl e8
  obtain ⟨r7, er7, qr7⟩ := thR T7 r5 (i := 17) (k2 := 61) rfl (by decide)
  have pg8 := pgx_w c60x T7 r5 (fun rl el z => by rw [r_eq er7 el] at z; rw [z, qmd] at qr7; exact absurd qr7 (by decide)) f8 pg7 e8
  have P8 := ryx_w c60x T7 (pg_r T7 r5 B7).1 f8 P7
  have B8 : Pg x0 (gi x1 (p0 + 1)) o5.1 g8 := by obtain ⟨q, s1, s2⟩ := B7; exact ⟨q, by rw [e8]; exact s1, by rw [e8]; exact s2⟩
  refine s_len T8 r5 i1 (fun r9 er9 qr9 => ?_)
  refine s_hq (th_wI T8 qr9 (k := 61) (lo := -1) (hi := 300) rfl (rg_m i5 (by decide)) (by decide) (by decide) (szE hp5 rfl _)) (fun g9 T9 e9 => ?_)
  -- the length was the one that was read
  have el9 : (hI g8 r9 x1.toNatClampNeg) = p0 := by
    have a1 : hR o3.2 x0 17 = some r := by rw [x12 r0 f1 rfl]; exact er
    have a4 : hR o4.2 x0 17 = some r := by rw [x12 r1 f4 rfl]; exact a1
    have a5 : hR o5.2 x0 17 = some r := by rw [x12 r1 f5 rfl]; exact a4
    have a6 : hR o6 x0 17 = some r := by rw [x12 r5 f6 rfl]; exact a5
    have a7 : hR o7 x0 17 = some r := by rw [x12 r5 f7 rfl]; exact a6
    have a8 : hR g8 x0 17 = some r := by rw [e8]; exact a7
    have : r9 = r := r_eq a8 er9
    subst this
    have q5 := ex_r X5 qr1 (by decide)
    rw [e8, r_I, if_neg (ne_r q5 qmd (by decide)), (fr_RI f7 q5 (by decide) (fun _ => sz_f rfl rfl (Or.inl rfl))).1, (fr_RI f6 q5 (by decide) (fun _ => sz_f rfl rfl (Or.inl rfl))).1, (fr_RI f5 qr1 (by decide) (fun _ => sz_f rfl rfl (Or.inl rfl))).1, (fr_RI f4 qr1 (by decide) (fun _ => sz_f rfl rfl (Or.inl rfl))).1, (fr_RI f1 qr (by decide) (fun _ => sz_f rfl rfl (Or.inl rfl))).1]
    exact ep0.symm
  refine s_some ⟨ρ5, c5, ex_t X1 X5, T9, rg_m i5 (by decide), pgx_y (ex_t X1 X5) (pgx_len T8 r5 er9 qr9 (fun k hk b' B' => ?_) pg8 e9)⟩
  have ep1 := (nc_s i3 (by decide)).2
  have gv := gi_v i1 i5
  have np1 := nc_i i5.1
  rw [ep1] at hk
  by_cases z : k = (p0 + (1 : Int32)).toNatClampNeg
  · rw [z, ← gv] at B'
    rw [pg_u B8 B']; exact P8
  · exact pg8 r9 er9 x1.toNatClampNeg k (by have := rg_clamp (n := 7) i1 (by decide); omega) (by rw [el9]; omega) b' B'
end
