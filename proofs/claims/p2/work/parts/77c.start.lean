/-! start, add: pages keep to the law -/
section
variable {ρ ρ1 : Nat → Nat} {c c1 : Cm} {h o g : Hp} {E : Nat → Nat → Bool} {wp : Nat → Bool} {x0 b w i F L : Nat} {x1 x2 x3 : Int32} {n m : Int}
theorem pgx_x (T : TH ρ c h) (r0 : ρ x0 = 12) (X : Ext ρ c ρ1 c1) (T1 : TH ρ1 c1 o) (P : PgX ρ c x0 g) : PgX ρ1 c1 x0 g := fun rl el m k hm hk b B => ryx_x T r0 X T1 (P rl el m k hm hk b B)
theorem pgx_y (X : Ext ρ c ρ1 c1) (P : PgX ρ1 c1 x0 g) : PgX ρ c x0 g := fun rl el m k hm hk b B => ryx_y X (P rl el m k hm hk b B)
theorem pgx_len {rl : Nat} {n0 : Nat} {v : Int32} (T : TH ρ c h) (r0 : ρ x0 = 12) (er : hR h x0 17 = some rl) (qr : ρ rl = 61) (hv : ∀ k : Nat, (k : Int) ≤ v.toInt → ∀ b, Pg x0 (301 * n0 + k) b h → RyX ρ c b h) (P : PgX ρ c x0 h) (e : o = wI h rl n0 v) : PgX ρ c x0 o := fun rl' el m k hm hk b B => by
  have f := fr1I (c := c) (A := [(61, 999)]) (k := 61) qr rfl e
  have el' : hR h x0 17 = some rl' := by rw [e] at el; exact el
  have : rl' = rl := r_eq er el'
  subst this
  have B0 : Pg x0 (301 * m + k) b h := by obtain ⟨r, s1, s2⟩ := B; exact ⟨r, by rw [e] at s1; exact s1, by rw [e] at s2; exact s2⟩
  refine ryx_w c61x T (pg_r T r0 B0).1 f ?_
  by_cases z : m = n0
  · subst z
    rw [he_s e] at hk
    exact hv k hk b B0
  · rw [e, r_I, if_neg (fun y => z y.2)] at hk
    exact P rl' el' m k hm hk b B0
theorem pgx_w {A : List (Nat × Nat)} (hA : ∀ k i, k = 4 ∨ k = 36 ∨ k = 2 ∨ k = 34 → mS A k i = false) {a j : Nat} {v : Int32} (T : TH ρ c h) (r0 : ρ x0 = 12) (na : ∀ rl, hR h x0 17 = some rl → ¬ rl = a) (f : Fr ρ (cat c (fS A []) h) h o) (P : PgX ρ c x0 h) (e : o = wI h a j v) : PgX ρ c x0 o := fun rl' el m k hm hk b B => by
  have el' : hR h x0 17 = some rl' := by rw [e] at el; exact el
  have B0 : Pg x0 (301 * m + k) b h := by obtain ⟨r, s1, s2⟩ := B; exact ⟨r, by rw [e] at s1; exact s1, by rw [e] at s2; exact s2⟩
  refine ryx_w hA T (pg_r T r0 B0).1 f ?_
  rw [e, r_I, if_neg (fun y => na rl' el' y.1)] at hk
  exact P rl' el' m k hm hk b B0
def PCX (ρ : Nat → Nat) (c : Cm) (x0 i b : Nat) (h : Hp) : Prop := ∃ r, hR h x0 13 = some r ∧ hR h r i = some b ∧ RyX ρ c b h
theorem pcx_r (T : TH ρ c h) (r0 : ρ x0 = 12) (hi : i < 60) {ρ' : Nat → Nat} {c' : Cm} (B : PCX ρ' c' x0 i b h) : ρ b = 4 ∧ cw c b = 3200 := by
  obtain ⟨r, e1, e2, _⟩ := B
  obtain ⟨q1, f1, g1⟩ := thR T r0 (i := 13) (k2 := 57) rfl (by decide)
  have h1 : ρ r = 57 := by rw [r_eq f1 e1]; exact g1
  have hk : rfK 57 i = 4 := if_pos hi
  obtain ⟨b', e3, e4⟩ := thR T h1 (i := i) (k2 := 4) hk (by decide)
  exact ⟨by rw [r_eq e3 e2]; exact e4, th_id T h1 (w := 3200) e2 rfl (by decide)⟩
theorem pcx_of {o1 : Int32 × Hp} (T : TH ρ c h) (r0 : ρ x0 = 12) (pl : PlP ρ c x0 h) (px : PlX ρ c x0 h) (e : sX11_isPlace h x0 x1 = some o1) (n1 : ¬ o1.1 = 0) (l60 : x1.toNatClampNeg < 60) : ∃ b, PCX ρ c x0 x1.toNatClampNeg b h := by
  obtain ⟨b, r, e1, e2, P⟩ := pc_of T r0 (hr_of T r0 pl e n1)
  exact ⟨b, r, e1, e2, P, isp_x px e n1 l60 e1 e2⟩
theorem pcx_sz (n : niceC E) (hi : i < 60) (T : TH ρ c h) (r0 : ρ x0 = 12) (f : Fr ρ (cat c (SZ E wp) h) h o) (hb : wp 3200 = false) (B : PCX ρ c x0 i b h) : PCX ρ c x0 i b o := by
  obtain ⟨k1, k3⟩ := pcx_r T r0 hi B
  obtain ⟨r, e1, e2, P⟩ := B
  obtain ⟨q1, f1, g1⟩ := thR T r0 (i := 13) (k2 := 57) rfl (by decide)
  have h1 : ρ r = 57 := by rw [r_eq f1 e1]; exact g1
  refine ⟨r, ?_, ?_, ryx_sz n T k1 k3 hb f P⟩
  · rw [x12 r0 f n.2.1]; exact e1
  · rw [(fr_RI f h1 (by decide) (fun _ => sz_f (n.2.2.2.2.2.2.2 _) rfl (Or.inl rfl))).2.2]; exact e2
theorem pcx_x (T : TH ρ c h) (r0 : ρ x0 = 12) (X : Ext ρ c ρ1 c1) (T1 : TH ρ1 c1 o) (B : PCX ρ c x0 i b g) : PCX ρ1 c1 x0 i b g := by
  obtain ⟨r, e1, e2, P⟩ := B
  exact ⟨r, e1, e2, ryx_x T r0 X T1 P⟩
theorem s_pcx {β : Type} {Q : β → Prop} {k : Nat → Option β} {ρ' : Nat → Nat} {c' : Cm} (T : TH ρ c h) (r0 : ρ x0 = 12) (i1 : Rg 0 59 x1) (B : PCX ρ' c' x0 x1.toNatClampNeg b h) (H : Sat (k b) Q) : Sat (cl (hR h x0 13) fun r_1 => gd (inB x1 (hN h r_1)) <| cl (hR h r_1 x1.toNatClampNeg) k) Q := by
  obtain ⟨r, e1, e2, P⟩ := B
  obtain ⟨q1, f1, g1⟩ := thR T r0 (i := 13) (k2 := 57) rfl (by decide)
  have h1 : ρ r = 57 := by rw [r_eq f1 e1]; exact g1
  refine s_ref e1 ?_
  refine s_gd (by rw [thN T h1 (k := 57) (n := 60) rfl (by decide)]; exact rg_inB i1 (by decide)) ?_
  exact s_ref e2 H
theorem s_copyX {β : Type} {Q : β → Prop} {k : Hp → Option β} {y wy : Nat} (hF : 700000 ≤ F) (hp : ∀ k w i, SZ E wp k w i = true → cPm c k w i = true) (hi : wp (8000 + i) = true) (T : TH ρ c h) (r0 : ρ x0 = 12) (B : Pg x0 i b h) (ry : ρ y = 4) (P : RyX ρ c y h) (pg : PgX ρ c x0 h) (H : ∀ o, TH ρ c o → Fr ρ (cat c (SZ noE (is (8000 + i))) h) h o → Pg x0 i b o → RyX ρ c b o → PgX ρ c x0 o → ((∀ a i, hR o a i = hR h a i) ∧ ∀ a i, kq (ρ a) = false → hI o a i = hI h a i) → Sat (k o) Q) : Sat (cl (sX3_copyFrom F h b y) k) Q := by
  obtain ⟨k1, k2⟩ := pg_r T r0 B
  have hs : ∀ k w i', SZ noE (is (8000 + i)) k w i' = true → cPm c k w i' = true := fun k w i' m => hp k w i' (sz_sub (fun _ _ z => noE_f z) (fun w z => by rw [is_e z]; exact hi) m)
  refine s_cVfq T hs (s_weq (zX3_copyFrom hF (by show pmO _ (cw c b) _; rw [k2]; exact pmO_s (szP (sx_c _) is_s) rfl) (th_in _ T) k1 ry)) (fun o T1 f e => ?_)
  have P1 := ryx_copy T r0 k1 ry e P
  obtain ⟨L, eL, rL⟩ := thR T r0 (i := 2) (k2 := 2) rfl (by decide)
  have wL : cw c L = 2102 := kid_w T r0 (i := 2) (w := 2102) rfl (by decide) eL
  obtain ⟨on, eo, qo⟩ := thR T ry (i := 0) (k2 := 34) rfl (by decide)
  have kx := copy_x (n := (hI h L 2).toInt) (m := (hI h L 3).toInt) (pr_th T k1) eo (fun s hs z => P.2 L on s rL wL eo hs z) e
  refine H o T1 f ((pg_sz niceC_0 rfl T r0 f).mp B) P1 ?_ ⟨kx.1, kx.2.1⟩
  refine (pgx_sz niceC_0 (fun _ => rfl) (fun _ => rfl) T r0 f (fun j => ?_) pg)
  by_cases q : j = i
  · subst q
    exact Or.inr (fun b' B' _ => by rw [pg_u B B']; exact P1)
  · exact Or.inl (is_f (by omega))
theorem start_x (hF : 700000 ≤ F) (hp : ∀ k w i, SZ pgE pgW k w i = true → cPm c k w i = true) (T : TH ρ c h) (r0 : ρ x0 = 12) (pl : PlP ρ c x0 h) (px : PlX ρ c x0 h) (pg : PgX ρ c x0 h) : Sat (sX11_start F h x0 x1 x2) (MkI ρ c (-102) 0 (PgX ρ c x0)) := by
  unfold sX11_start
  refine s_dP0 (zX11_isGame hF T (rg_top _)) (fun oo eb e ii pp => ?_)
  rw [e]
  unfold sX11_start_4
  refine s_br (fun _ => s_some ⟨ρ, c, ex_0, T, rg_b rfl, pg⟩) (fun nz => ?_)
  have i1 := pp nz
  refine s_dP0 (zX11_isPlace hF T r0 (rg_top _)) (fun o2 eb2 e2 ii2 pp2 => ?_)
  rw [e2]
  unfold sX11_start_15
  refine s_br (fun _ => s_some ⟨ρ, c, ex_0, T, rg_b rfl, pg⟩) (fun nz2 => ?_)
  have i2 := pp2 nz2
  have l60 : x2.toNatClampNeg < 60 := by have := rg_clamp (n := 59) i2 (by decide); omega
  obtain ⟨b, B⟩ := pcx_of T r0 pl px eb2 nz2 l60
  have i0 : Rg 0 300 (0 : Int32) := rg_b rfl
  refine s_pageX hF hp (fun _ => rfl) (fun j hj => pgW_t hj) T r0 i1 i0 pg (fun o3 ρ1 c1 X1 T1 f1 B1 kp1 pg1 _ _ => ?_)
  have r1 := ex_r X1 r0 (by decide)
  have hp1 := ex_hp X1 hp
  have B2 := pcx_x T r0 X1 T1 (pcx_sz niceC_59 l60 T r0 f1 (is_f (by omega)) B)
  obtain ⟨kb, wb'⟩ := pcx_r T1 r1 l60 B2
  have PB : RyX ρ1 c1 b o3.2 := by obtain ⟨_, _, _, q⟩ := B2; exact q
  unfold sX11_start_27
  refine s_pcx T1 r1 i2 B2 ?_
  have lg : gi x1 0 ≤ 2407 := rg_clamp (gi_r i1 i0) (by decide)
  refine s_copyX (wy := 3200) hF hp1 (pgW_t lg) T1 r1 B1 kb PB (pgx_x T r0 X1 T1 pg1) (fun o4 T4 f4 B4 P4 pg4 _ => ?_)
  unfold sX11_start_36
  refine s_len T4 r1 i1 (fun r er qr => ?_)
  refine s_hq (th_wI T4 qr (k := 61) (lo := -1) (hi := 300) rfl (rg_b rfl) (by decide) (by decide) (szE hp1 rfl _)) (fun g5 T5 e5 => ?_)
  refine s_some ⟨ρ1, c1, X1, T5, rg_b rfl, pgx_y X1 (pgx_len T4 r1 er qr (fun k hk b' B' => ?_) pg4 e5)⟩
  have zz : (0 : Int32).toInt = 0 := rfl
  have k0 : k = 0 := by omega
  have gv := gi_v i1 i0
  have z0 : (0 : Int32).toNatClampNeg = 0 := rfl
  rw [z0] at gv
  rw [k0, ← gv] at B'
  rw [pg_u B4 B']; exact P4
end
