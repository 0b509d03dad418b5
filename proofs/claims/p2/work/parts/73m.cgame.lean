section
variable {ρ ρ1 : Nat → Nat} {c c1 : Cm} {h o g : Hp} {E : Nat → Nat → Bool} {wp : Nat → Bool} {x0 b w i F : Nat} {x1 x2 x3 : Int32}
theorem pgp_x (T : TH ρ c h) (r0 : ρ x0 = 12) (X : Ext ρ c ρ1 c1) (T1 : TH ρ1 c1 o) (P : PgP ρ c x0 g) : PgP ρ1 c1 x0 g := fun rl el m k hm hk b B => ry_x T r0 X T1 (P rl el m k hm hk b B)
theorem pgp_y (X : Ext ρ c ρ1 c1) (P : PgP ρ1 c1 x0 g) : PgP ρ c x0 g := fun rl el m k hm hk b B => ry_y X (P rl el m k hm hk b B)
theorem ry_w {A : List (Nat × Nat)} (hA : ∀ k i, k = 4 ∨ k = 36 ∨ k = 2 → mS A k i = false) (T : TH ρ c h) (rb : ρ b = 4) (f : Fr ρ (cat c (fS A []) h) h o) (P : RyP ρ c b h) : RyP ρ c b o :=
  ry_fr T rb f (fs_nf (hA _ _ (by omega))) (fun i => fs_nf (hA _ _ (by omega))) (fun _ => fs_nf (hA _ _ (by omega))) P
theorem c61 : ∀ k i, k = 4 ∨ k = 36 ∨ k = 2 → mS [(61, 999)] k i = false := fun k i h1 => by
  show ((61 == k && (999 == 999 || 999 == i)) || false) = false
  rw [bq_ne (show 61 ≠ k by omega)]; rfl
theorem c60 : ∀ k i, k = 4 ∨ k = 36 ∨ k = 2 → mS [(60, 999)] k i = false := fun k i h1 => by
  show ((60 == k && (999 == 999 || 999 == i)) || false) = false
  rw [bq_ne (show 60 ≠ k by omega)]; rfl
/-- the length of a game is set -/
theorem pgp_len {rl : Nat} {n0 : Nat} {v : Int32} (T : TH ρ c h) (r0 : ρ x0 = 12) (er : hR h x0 17 = some rl) (qr : ρ rl = 61) (hv : ∀ k : Nat, (k : Int) ≤ v.toInt → ∀ b, Pg x0 (301 * n0 + k) b h → RyP ρ c b h) (P : PgP ρ c x0 h) (e : o = wI h rl n0 v) : PgP ρ c x0 o := fun rl' el m k hm hk b B => by
  have f := fr1I (c := c) (A := [(61, 999)]) (k := 61) qr rfl e
  have el' : hR h x0 17 = some rl' := by rw [e] at el; exact el
  have : rl' = rl := r_eq er el'
  subst this
  have B0 : Pg x0 (301 * m + k) b h := by obtain ⟨r, s1, s2⟩ := B; exact ⟨r, by rw [e] at s1; exact s1, by rw [e] at s2; exact s2⟩
  refine ry_w c61 T (pg_r T r0 B0).1 f ?_
  by_cases z : m = n0
  · subst z
    rw [he_s e] at hk
    exact hv k hk b B0
  · rw [e, r_I, if_neg (fun y => z y.2)] at hk
    exact P rl' el' m k hm hk b B0
theorem pgp_w {A : List (Nat × Nat)} (hA : ∀ k i, k = 4 ∨ k = 36 ∨ k = 2 → mS A k i = false) {a j : Nat} {v : Int32} (T : TH ρ c h) (r0 : ρ x0 = 12) (na : ∀ rl, hR h x0 17 = some rl → ¬ rl = a) (f : Fr ρ (cat c (fS A []) h) h o) (P : PgP ρ c x0 h) (e : o = wI h a j v) : PgP ρ c x0 o := fun rl' el m k hm hk b B => by
  have el' : hR h x0 17 = some rl' := by rw [e] at el; exact el
  have B0 : Pg x0 (301 * m + k) b h := by obtain ⟨r, s1, s2⟩ := B; exact ⟨r, by rw [e] at s1; exact s1, by rw [e] at s2; exact s2⟩
  refine ry_w hA T (pg_r T r0 B0).1 f ?_
  rw [e, r_I, if_neg (fun y => na rl' el' y.1)] at hk
  exact P rl' el' m k hm hk b B0
theorem s_len {β : Type} {Q : β → Prop} {k : Nat → Option β} (T : TH ρ c h) (r0 : ρ x0 = 12) (i1 : Rg 0 7 x1) (H : ∀ r, hR h x0 17 = some r → ρ r = 61 → Sat (k r) Q) : Sat (cl (hR h x0 17) fun r => gd (inB x1 (hN h r)) (k r)) Q := by
  obtain ⟨r, er, qr⟩ := thR T r0 (i := 17) (k2 := 61) rfl (by decide)
  refine s_ref er ?_
  exact s_gd (by rw [thN T qr (k := 61) (n := 8) rfl (by decide)]; exact rg_inB i1 (by decide)) (H r er qr)
/-- a place of the class, with its position -/
def PC (ρ : Nat → Nat) (c : Cm) (x0 i b : Nat) (h : Hp) : Prop := ∃ r, hR h x0 13 = some r ∧ hR h r i = some b ∧ RyP ρ c b h
theorem pc_r (T : TH ρ c h) (r0 : ρ x0 = 12) (hi : i < 60) {ρ' : Nat → Nat} {c' : Cm} (B : PC ρ' c' x0 i b h) : ρ b = 4 ∧ cw c b = 3200 := by
  obtain ⟨r, e1, e2, _⟩ := B
  obtain ⟨q1, f1, g1⟩ := thR T r0 (i := 13) (k2 := 57) rfl (by decide)
  have h1 : ρ r = 57 := by rw [r_eq f1 e1]; exact g1
  have hk : rfK 57 i = 4 := if_pos hi
  obtain ⟨b', e3, e4⟩ := thR T h1 (i := i) (k2 := 4) hk (by decide)
  exact ⟨by rw [r_eq e3 e2]; exact e4, th_id T h1 (w := 3200) e2 rfl (by decide)⟩
theorem pc_of (T : TH ρ c h) (r0 : ρ x0 = 12) (H : HasR ρ c x0 x1 h) : ∃ b, PC ρ c x0 x1.toNatClampNeg b h := by
  obtain ⟨q1, f1, g1⟩ := thR T r0 (i := 13) (k2 := 57) rfl (by decide)
  have hk : rfK 57 x1.toNatClampNeg = 4 := if_pos H.1
  obtain ⟨b, e3, e4⟩ := thR T g1 (i := x1.toNatClampNeg) (k2 := 4) hk (by decide)
  exact ⟨b, q1, f1, e3, H.2 q1 f1 b e3⟩
theorem pc_sz (n : niceC E) (hi : i < 60) (T : TH ρ c h) (r0 : ρ x0 = 12) (f : Fr ρ (cat c (SZ E wp) h) h o) (hb : wp 3200 = false) (B : PC ρ c x0 i b h) : PC ρ c x0 i b o := by
  obtain ⟨k1, k3⟩ := pc_r T r0 hi B
  obtain ⟨r, e1, e2, P⟩ := B
  obtain ⟨q1, f1, g1⟩ := thR T r0 (i := 13) (k2 := 57) rfl (by decide)
  have h1 : ρ r = 57 := by rw [r_eq f1 e1]; exact g1
  refine ⟨r, ?_, ?_, ry_sz n T k1 k3 hb f P⟩
  · rw [x12 r0 f n.2.1]; exact e1
  · rw [(fr_RI f h1 (by decide) (fun _ => sz_f (n.2.2.2.2.2.2.2 _) rfl (Or.inl rfl))).2.2]; exact e2
theorem pc_x (T : TH ρ c h) (r0 : ρ x0 = 12) (X : Ext ρ c ρ1 c1) (T1 : TH ρ1 c1 o) (B : PC ρ c x0 i b g) : PC ρ1 c1 x0 i b g := by
  obtain ⟨r, e1, e2, P⟩ := B
  exact ⟨r, e1, e2, ry_x T r0 X T1 P⟩
theorem s_pc {β : Type} {Q : β → Prop} {k : Nat → Option β} {ρ' : Nat → Nat} {c' : Cm} (T : TH ρ c h) (r0 : ρ x0 = 12) (i1 : Rg 0 59 x1) (B : PC ρ' c' x0 x1.toNatClampNeg b h) (H : Sat (k b) Q) : Sat (cl (hR h x0 13) fun r_1 => gd (inB x1 (hN h r_1)) <| cl (hR h r_1 x1.toNatClampNeg) k) Q := by
  obtain ⟨r, e1, e2, P⟩ := B
  obtain ⟨q1, f1, g1⟩ := thR T r0 (i := 13) (k2 := 57) rfl (by decide)
  have h1 : ρ r = 57 := by rw [r_eq f1 e1]; exact g1
  refine s_ref e1 ?_
  refine s_gd (by rw [thN T h1 (k := 57) (n := 60) rfl (by decide)]; exact rg_inB i1 (by decide)) ?_
  exact s_ref e2 H
def pgE : Nat → Nat → Bool := fun k _ => k == 59 || k == 60 || k == 61
def pgW : Nat → Bool := fun w => w == 1503 || (decide (8000 ≤ w) && decide (w ≤ 10407))
theorem pgW_t {j : Nat} (h : j ≤ 2407) : pgW (8000 + j) = true := by
  unfold pgW
  rw [decide_eq_true (show 8000 ≤ 8000 + j by omega), decide_eq_true (show 8000 + j ≤ 10407 by omega)]
  exact Bool.or_true _
theorem no8 {n j : Nat} (h : n < 8000) : is n (8000 + j) = false := is_f (by omega)
/-- a page takes a position over -/
theorem s_copyP {β : Type} {Q : β → Prop} {k : Hp → Option β} {y wy : Nat} (hF : 700000 ≤ F) (hp : ∀ k w i, SZ E wp k w i = true → cPm c k w i = true) (hi : wp (8000 + i) = true) (T : TH ρ c h) (r0 : ρ x0 = 12) (B : Pg x0 i b h) (ry : ρ y = 4) (P : RyP ρ c y h) (pg : PgP ρ c x0 h) (H : ∀ o, TH ρ c o → Fr ρ (cat c (SZ noE (is (8000 + i))) h) h o → Pg x0 i b o → RyP ρ c b o → PgP ρ c x0 o → Sat (k o) Q) : Sat (cl (sX3_copyFrom F h b y) k) Q := by
  obtain ⟨k1, k2⟩ := pg_r T r0 B
  have hs : ∀ k w i', SZ noE (is (8000 + i)) k w i' = true → cPm c k w i' = true := fun k w i' m => hp k w i' (sz_sub (fun _ _ z => noE_f z) (fun w z => by rw [is_e z]; exact hi) m)
  refine s_cVfq T hs (s_weq (zX3_copyFrom hF (by show pmO _ (cw c b) _; rw [k2]; exact pmO_s (szP (sx_c _) is_s) rfl) (th_in _ T) k1 ry)) (fun o T1 f e => ?_)
  have P1 := ry_copy T k1 ry e P
  refine H o T1 f ((pg_sz niceC_0 rfl T r0 f).mp B) P1 (pgp_sz niceC_0 (fun _ => rfl) (fun _ => rfl) T r0 f (fun j => ?_) pg)
  by_cases q : j = i
  · subst q
    exact Or.inr (fun b' B' _ => by rw [pg_u B B']; exact P1)
  · exact Or.inl (is_f (by omega))
theorem zX11_start (hF : 700000 ≤ F) (hp : ∀ k w i, SZ pgE pgW k w i = true → cPm c k w i = true) (T : TH ρ c h) (r0 : ρ x0 = 12) (pl : PlP ρ c x0 h) (pg : PgP ρ c x0 h) : Sat (sX11_start F h x0 x1 x2) (MkI ρ c (-102) 0 (PgP ρ c x0)) := by
  unfold sX11_start
  refine s_dP0 (zX11_isGame hF T (rg_top _)) (fun oo eb e ii pp => ?_)
  rw [e]
  unfold sX11_start_4
  refine s_br (fun _ => s_some ⟨ρ, c, ex_0, T, rg_b rfl, pg⟩) (fun nz => ?_)
  have i1 := pp nz
  refine s_dP0 (zX11_isPlace hF T r0 (rg_top _)) (fun o2 eb2 e2 ii2 pp2 => ?_)
  rw [e2]
  unfold sX11_start_15
  refine s_br (fun _ => s_some ⟨ρ, c, ex_0, T, rg_b rfl, pg⟩) (fun nz2 => ?_)
  have i2 := pp2 nz2
  have l60 : x2.toNatClampNeg < 60 := by have := rg_clamp (n := 59) i2 (by decide); omega
  obtain ⟨b, B⟩ := pc_of T r0 (hr_of T r0 pl eb2 nz2)
  have i0 : Rg 0 300 (0 : Int32) := rg_b rfl
  refine s_page hF hp (fun _ => rfl) (fun j hj => pgW_t hj) T r0 i1 i0 pg (fun o3 ρ1 c1 X1 T1 f1 B1 kp1 pg1 _ => ?_)
  have r1 := ex_r X1 r0 (by decide)
  have hp1 := ex_hp X1 hp
  have B2 := pc_x T r0 X1 T1 (pc_sz niceC_59 l60 T r0 f1 (is_f (by omega)) B)
  obtain ⟨kb, wb'⟩ := pc_r T1 r1 l60 B2
  have PB : RyP ρ1 c1 b o3.2 := by obtain ⟨_, _, _, q⟩ := B2; exact q
  unfold sX11_start_27
  refine s_pc T1 r1 i2 B2 ?_
  have lg : gi x1 0 ≤ 2407 := rg_clamp (gi_r i1 i0) (by decide)
  refine s_copyP (wy := 3200) hF hp1 (pgW_t lg) T1 r1 B1 kb PB (pgp_x T r0 X1 T1 pg1) (fun o4 T4 f4 B4 P4 pg4 => ?_)
  unfold sX11_start_36
  refine s_len T4 r1 i1 (fun r er qr => ?_)
  refine s_hq (th_wI T4 qr (k := 61) (lo := -1) (hi := 300) rfl (rg_b rfl) (by decide) (by decide) (szE hp1 rfl _)) (fun g5 T5 e5 => ?_)
  refine s_some ⟨ρ1, c1, X1, T5, rg_b rfl, pgp_y X1 (pgp_len T4 r1 er qr (fun k hk b' B' => ?_) pg4 e5)⟩
  have zz : (0 : Int32).toInt = 0 := rfl
  have k0 : k = 0 := by omega
  have gv := gi_v i1 i0
  have z0 : (0 : Int32).toNatClampNeg = 0 := rfl
  rw [z0] at gv
  rw [k0, ← gv] at B'
  rw [pg_u B4 B']; exact P4
theorem zX11_add (hF : 700000 ≤ F) (hp : ∀ k w i, SZ pgE pgW k w i = true → cPm c k w i = true) (T : TH ρ c h) (r0 : ρ x0 = 12) (lw : LwR ρ c h) (pg : PgP ρ c x0 h) : Sat (sX11_add F h x0 x1 x2) (MkI ρ c (-104) 300 (PgP ρ c x0)) := by
  unfold sX11_add
  refine s_dP0 (zX11_isGame hF T (rg_top _)) (fun oo eb e ii pp => ?_)
  rw [e]
  unfold sX11_add_4
  refine s_br (fun _ => s_some ⟨ρ, c, ex_0, T, rg_b rfl, pg⟩) (fun nz => ?_)
  have i1 := pp nz
  refine s_len T r0 i1 (fun r er qr => ?_)
  refine s_q (fun p0 ep0 => ?_)
  refine s_br (fun _ => s_some ⟨ρ, c, ex_0, T, rg_b rfl, pg⟩) (fun n1 => ?_)
  have i2 : Rg 0 300 p0 := rg_nlo n1 (by rw [ep0]; exact thI T qr (k := 61) (lo := -1) (hi := 300) rfl) (rg_b rfl : Rg (-1) (-1) (-1 : Int32))
  refine s_page hF hp (fun _ => rfl) (fun j hj => pgW_t hj) T r0 i1 i2 pg (fun o3 ρ1 c1 X1 T1 f1 B1 kp1 pg1 us1 => ?_)
  have r1 := ex_r X1 r0 (by decide)
  have qr1 := ex_r X1 qr (by decide)
  have hp1 := ex_hp X1 hp
  have lw1 := lw_x T r0 X1 T1 (lw_sz niceC_59 T f1 lw)
  have P1 := ry_x T r0 X1 T1 (us1 r er (by rw [ep0]; exact Int.le_refl _))
  have pg1' := pgp_x T r0 X1 T1 pg1
  obtain ⟨k1, w1⟩ := pg_r T1 r1 B1
  unfold sX11_add_31
  obtain ⟨rf, erf, qrf⟩ := thR T1 r1 (i := 6) (k2 := 6) rfl (by decide)
  refine s_ref erf ?_
  obtain ⟨ls, els, qls⟩ := thR T1 r1 (i := 12) (k2 := 47) rfl (by decide)
  refine s_ref els ?_
  have hs : ∀ k w i, SZ noE (is 1503) k w i = true → cPm c1 k w i = true := fun k w i m => hp1 k w i (sz_sub (fun _ _ z => noE_f z) (fun w z => by rw [is_e z]; rfl) m)
  refine s_cIf T1 hs (zX5_collect hF (pmA_s (szA (sx_c _)) rfl) (pmO_s (szP (sx_c _) is_s) rfl) w1 rfl (by omega) (th_in _ T1) qrf k1 qls (rg_b rfl) lw1 P1) (fun o4 T4 i4 f4 => ?_)
  have P4 := ry_sz niceC_0 T1 k1 w1 (no8 (by decide)) f4 P1
  have pg4 := pgp_sz niceC_0 (fun _ => rfl) (fun _ => rfl) T1 r1 f4 (fun j => Or.inl (no8 (by decide))) pg1'
  have B4 := (pg_sz niceC_0 rfl T1 r1 f4).mp B1
  unfold sX11_add_49 sX11_add_61
  have ex : ∀ {y : Int32}, Rg (-104) 300 y → Sat (some (y, o4.2)) (MkI ρ c (-104) 300 (PgP ρ c x0)) := fun hy => s_some ⟨ρ1, c1, X1, T4, hy, pgp_y X1 pg4⟩
  refine s_br (fun _ => ex (rg_b rfl)) (fun n2 => ?_)
  refine s_br (fun n3 => ?_) (fun _ => ex (rg_b rfl))
  refine s_br (fun n4 => ?_) (fun _ => ex (rg_b rfl))
  have l3 : p0.toInt < 300 := lt_i n4
  have i3 : Rg 0 299 p0 := ⟨i2.1, by omega⟩
  have i5 : Rg 0 300 (p0 + (1 : Int32)) := rg_add i3 (rg_b rfl : Rg 1 1 (1 : Int32)) (by decide)
  have lx2 := lt_i n3
  have ix : Rg 0 4095 x2 := ⟨nlt_i n2, by have := i4.2; omega⟩
  refine s_page hF hp1 (fun _ => rfl) (fun j hj => pgW_t hj) T4 r1 i1 i5 pg4 (fun o5 ρ5 c5 X5 T5 f5 B5 kp5 pg5 _ => ?_)
  have r5 := ex_r X5 r1 (by decide)
  have hp5 := ex_hp X5 hp1
  obtain ⟨B45, Q45⟩ := kp5 _ _ B4
  have P5 := ry_x T4 r1 X5 T5 (Q45 P4)
  have pg5' := pgp_x T4 r1 X5 T5 pg5
  obtain ⟨k5, w5⟩ := pg_r T5 r5 B45
  have lg : gi x1 (p0 + 1) ≤ 2407 := rg_clamp (gi_r i1 i5) (by decide)
  unfold sX11_add_82
  refine s_copyP (wy := 0) hF hp5 (pgW_t lg) T5 r5 B5 k5 P5 pg5' (fun o6 T6 f6 B6 P6 pg6 => ?_)
  unfold sX11_add_91
  obtain ⟨rf6, erf6, qrf6⟩ := thR T6 r5 (i := 6) (k2 := 6) rfl (by decide)
  refine s_ref erf6 ?_
  obtain ⟨ls6, els6, qls6⟩ := thR T6 r5 (i := 12) (k2 := 47) rfl (by decide)
  refine s_ref els6 ?_
  refine s_gd (by rw [thN T6 qls6 (k := 47) (n := 4096) rfl (by decide)]; exact rg_inB ix (by decide)) ?_
  obtain ⟨k6, w6⟩ := pg_r T6 r5 B6
  have hs6 : ∀ k w i, SZ noE (is (8000 + gi x1 (p0 + 1))) k w i = true → cPm c5 k w i = true := fun k w i m => hp5 k w i (sz_sub (fun _ _ z => noE_f z) (fun w z => by rw [is_e z]; exact pgW_t lg) m)
  refine s_cVfq T6 hs6 (zX5_make hF (pmO_s (szP (sx_c _) is_s) rfl) w6 (th_in _ T6) qrf6 k6 (rg_top _) (thG T6 qls6)) (fun o7 T7 f7 rc7 => ?_)
  have P7 : RyP ρ5 c5 o5.1 o7 := rc7 _ k6 P6
  have pg7 : PgP ρ5 c5 x0 o7 := pgp_sz niceC_0 (fun _ => rfl) (fun _ => rfl) T6 r5 f7 (fun j => Or.inr (fun b B Pb => rc7 b (pg_r T6 r5 B).1 Pb)) pg6
  have B7 := (pg_sz niceC_0 rfl T6 r5 f7).mp B6
  unfold sX11_add_106
  obtain ⟨md, emd, qmd⟩ := thR T7 r5 (i := 16) (k2 := 60) rfl (by decide)
  refine s_ref emd ?_
  refine s_gd (by rw [thN T7 qmd (k := 60) (n := 2408) rfl (by decide)]; exact rg_inB (gi_r i1 i2) (by decide)) ?_
  refine s_hq (th_wI T7 qmd (k := 60) (lo := 0) (hi := 4095) rfl ix (by decide) (by decide) (szE hp5 rfl _)) (fun g8 T8 e8 => ?_)
  have f8 := fr1I (c := c5) (A := [(60, 999)]) (k := 60) qmd rfl e8
  obtain ⟨r7, er7, qr7⟩ := thR T7 r5 (i := 17) (k2 := 61) rfl (by decide)
  have pg8 := pgp_w c60 T7 r5 (fun rl el z => by rw [r_eq er7 el] at z; rw [z, qmd] at qr7; exact absurd qr7 (by decide)) f8 pg7 e8
  have P8 := ry_w c60 T7 (pg_r T7 r5 B7).1 f8 P7
  have B8 : Pg x0 (gi x1 (p0 + 1)) o5.1 g8 := by obtain ⟨q, s1, s2⟩ := B7; exact ⟨q, by rw [e8]; exact s1, by rw [e8]; exact s2⟩
  refine s_len T8 r5 i1 (fun r9 er9 qr9 => ?_)
  refine s_hq (th_wI T8 qr9 (k := 61) (lo := -1) (hi := 300) rfl (rg_m i5 (by decide)) (by decide) (by decide) (szE hp5 rfl _)) (fun g9 T9 e9 => ?_)
  -- the length was the one that was read
  have el9 : (hI g8 r9 x1.toNatClampNeg) = p0 := by
    have a1 : hR o3.2 x0 17 = some r := by rw [x12 r0 f1 rfl]; exact er
    have a4 : hR o4.2 x0 17 = some r := by rw [x12 r1 f4 rfl]; exact a1
    have a5 : hR o5.2 x0 17 = some r := by rw [x12 r1 f5 rfl]; exact a4
    have a6 : hR o6 x0 17 = some r := by rw [x12 r5 f6 rfl]; exact a5
    have a7 : hR o7 x0 17 = some r := by rw [x12 r5 f7 rfl]; exact a6
    have a8 : hR g8 x0 17 = some r := by rw [e8]; exact a7
    have : r9 = r := r_eq a8 er9
    subst this
    have q5 := ex_r X5 qr1 (by decide)
    rw [e8, r_I, if_neg (ne_r q5 qmd (by decide)), (fr_RI f7 q5 (by decide) (fun _ => sz_f rfl rfl (Or.inl rfl))).1, (fr_RI f6 q5 (by decide) (fun _ => sz_f rfl rfl (Or.inl rfl))).1, (fr_RI f5 qr1 (by decide) (fun _ => sz_f rfl rfl (Or.inl rfl))).1, (fr_RI f4 qr1 (by decide) (fun _ => sz_f rfl rfl (Or.inl rfl))).1, (fr_RI f1 qr (by decide) (fun _ => sz_f rfl rfl (Or.inl rfl))).1]
    exact ep0.symm
  refine s_some ⟨ρ5, c5, ex_t X1 X5, T9, rg_m i5 (by decide), pgp_y (ex_t X1 X5) (pgp_len T8 r5 er9 qr9 (fun k hk b' B' => ?_) pg8 e9)⟩
  have ep1 := (nc_s i3 (by decide)).2
  have gv := gi_v i1 i5
  have np1 := nc_i i5.1
  rw [ep1] at hk
  by_cases z : k = (p0 + (1 : Int32)).toNatClampNeg
  · rw [z, ← gv] at B'
    rw [pg_u B8 B']; exact P8
  · exact pg8 r9 er9 x1.toNatClampNeg k (by have := rg_clamp (n := 7) i1 (by decide); omega) (by rw [el9]; omega) b' B'
end
