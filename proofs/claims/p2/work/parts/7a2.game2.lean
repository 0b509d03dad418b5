def gmE2 : Nat → Nat → Bool := fun k i => (k == 92 && decide (i ≤ 2407)) || k == 93 || k == 94
theorem gm2_t {i : Nat} (h : i ≤ 2407) : gmE2 92 i = true := by
  unfold gmE2
  rw [decide_eq_true h]; rfl
section
variable {zq : Nat} {ρ : Nat → Nat} {c : Cm} {h o : Hp} {E : Nat → Nat → Bool} {wb wl : Nat → Bool} {x0 d b l w i F : Nat} {Bq : Nat × Nat} {x1 x2 : Int32}
/-- moves of a game's board -/
theorem s_legalGw {β : Type} {Q : β → Prop} {k : Hp → Option β} (hF : 700000 ≤ F) (hp : ∀ k w i, SY E wb wl k w i = true → cPm c k w i = true) (h1 : wb 2528 = true) (h3 : wl 2530 = true) (T : TH ρ c h) (r0 : ρ x0 = 16) (sq : SqOk x0 h) (G : GaY zq Bq x0 h) (B : Gb x0 i b h) (el : hR h x0 30 = some l) (H : ∀ o, TH ρ c o → Fr ρ (cat c (SY noE (is 2528) (is 2530)) h) h o → SqOk x0 o → GaY zq Bq x0 o → Gb x0 i b o → hR o x0 30 = some l → MvB x0 b l o → MvZ b l o → Sat (k o) Q) : Sat (cl (sX15_legal F h x0 b l) k) Q := by
  obtain ⟨k1, k3⟩ := gb_r T r0 B
  obtain ⟨l', el', ql'⟩ := thR T r0 (i := 30) (k2 := 14) rfl (by decide)
  have ql : ρ l = 14 := by rw [r_eq el' el]; exact ql'
  have wl' : cw c l = 2530 := th_id T r0 (w := 2530) el rfl (by decide)
  have hs : ∀ k w i, SY noE (is 2528) (is 2530) k w i = true → cPm c k w i = true := fun k w i m => hp k w i (sy_sub (fun _ _ z => noE_f z) (fun w z => by rw [is_e z]; exact h1) (fun w z => by rw [is_e z]; exact h3) m)
  obtain ⟨M, eM, rM⟩ := thR T k1 (i := 0) (k2 := 62) rfl (by decide)
  obtain ⟨lf, e1, q1⟩ := thR T ql (i := 1) (k2 := 66) rfl (by decide)
  obtain ⟨lt, e2, q2⟩ := thR T ql (i := 2) (k2 := 67) rfl (by decide)
  obtain ⟨lx, e5, q5⟩ := thR T ql (i := 5) (k2 := 70) rfl (by decide)
  obtain ⟨lk, e6, q6⟩ := thR T ql (i := 6) (k2 := 71) rfl (by decide)
  obtain ⟨lo, e7, q7⟩ := thR T ql (i := 7) (k2 := 72) rfl (by decide)
  have Z := legal_z (c := c) (x0 := x0) (lf := lf) (lt := lt) (lx := lx) (lk := lk) (lo := lo) (wl := 2530) hF (pmA_s (syA hp) rfl) (pmO_s (syB hp h1) rfl) (pmO_s (syM hp h3) rfl) k3 (by omega) wl' T r0 k1 ql sq (G.1 i b B).1 ⟨e1, e2, e5, e6, e7⟩ eM
  refine s_cVfq T hs (s_weq2 (zX15_legal hF (pmA_s (syA (sx_c _)) rfl) (pmO_s (syB (sx_c _) is_s) rfl) (pmO_s (w := 2530) (syM (sx_c _) is_s) rfl) k3 wl' (by omega) (th_in _ T) r0 k1 ql sq (G.1 i b B).1)) (fun o T1 f mv => ?_)
  obtain ⟨mv, eo⟩ := mv
  have L : L2 l lf lt lx lk lo (hI h M) (hI h b 1) (hI h b 3).toInt o := by
    obtain ⟨o', eo', _, z⟩ := Z
    have : o' = o := by rw [eo'] at eo; exact Option.some.inj eo
    rw [← this]; exact z
  have zb : ∀ k i, (k = 13 ∨ (62 ≤ k ∧ k ≤ 65)) → SY noE (is 2528) (is 2530) k (cw c b) i = false := fun k i hk => by
    rcases hk with z | z
    · rw [z]; exact sy_f rfl rfl (Or.inr (by rw [k3]; exact is_f (by omega))) (Or.inl rfl)
    · have : k = 62 ∨ k = 63 ∨ k = 64 ∨ k = 65 := by omega
      rcases this with z | z | z | z <;> rw [z] <;> exact sy_f rfl rfl (Or.inr (by rw [k3]; exact is_f (by omega))) (Or.inl rfl)
  have fb : ∀ i, hI o b i = hI h b i ∧ hR o b i = hR h b i := fun i => by
    have := f.1 b i (by rw [k1]; decide) (by rw [k1]; exact zb 13 i (Or.inl rfl))
    exact ⟨this.1, this.2.2⟩
  have fM : ∀ i, hI o M i = hI h M i := fun i => (f.1 M i (by rw [rM]; decide) (by rw [rM]; show SY noE (is 2528) (is 2530) 62 (cw c M) i = false; rw [th_ih T k1 (by decide) eM rfl]; exact zb 62 i (Or.inr (by decide)))).1
  have fl : ∀ i, 1 ≤ i → i < 8 → hR o l i = hR h l i := fun i a1 a2 => by
    have : SY noE (is 2528) (is 2530) 14 (cw c l) i = false := by
      rcases (by omega : i = 1 ∨ i = 2 ∨ i = 3 ∨ i = 4 ∨ i = 5 ∨ i = 6 ∨ i = 7) with z | z | z | z | z | z | z <;> rw [z] <;> exact sy_f rfl rfl (Or.inl rfl) (Or.inl rfl)
    exact (f.1 l i (by rw [ql]; decide) (by rw [ql]; exact this)).2.2
  have mz : MvZ b l o := by
    intro M' lf' lt' lx' lk' lo' p0 p1 p2 p5 p6 p7
    rw [(fb 0).2] at p0
    rw [fl _ (by decide) (by decide)] at p1 p2 p5 p6 p7
    have y0 := r_eq eM p0
    have y1 := r_eq e1 p1
    have y2 := r_eq e2 p2
    have y5 := r_eq e5 p5
    have y6 := r_eq e6 p6
    have y7 := r_eq e7 p7
    subst y0; subst y1; subst y2; subst y5; subst y6; subst y7
    rw [(fb 1).1, (fb 3).1, show hI o M' = hI h M' from funext fM]
    exact L
  exact H o T1 f (sq_sy nice_0 T r0 f sq) (gaw_sy nice_0 (fun _ => rfl) T r0 f (fun j => Or.inl (no5 (by decide))) G) ((gb_sy nice_0 rfl T r0 f).mp B) (by rw [(fr_RI f r0 (by decide) (fun _ => sy_f rfl rfl (Or.inl rfl) (Or.inl rfl))).2.2]; exact el) mv mz
/-- a place that is kept can be written -/
theorem bw_of {s : Int32} {o : Int32 × Hp} {Bk : Nat × Nat} (T : TH ρ c h) (r0 : ρ x0 = 16) (P : BdY zq Bk x0 h) (e : sX15_has h x0 s = some o) (n : ¬ o.1 = 0) : ∃ b, BK x0 s.toNatClampNeg b h ∧ PZ zq b h := by
  obtain ⟨b, B⟩ := bk_of T r0 (hb_of T r0 (bdy_p P) e n)
  refine ⟨b, B, ?_⟩
  unfold sX15_has sX15_has_23 sX15_has_24 at e
  replace e := br_s e; rcases e with ⟨_, e⟩ | ⟨c1, e⟩
  · exact absurd (by rw [← Option.some.inj (gd_s e).2]) n
  replace e := br_s e; rcases e with ⟨_, e⟩ | ⟨c2, e⟩
  · exact absurd (by rw [← Option.some.inj (gd_s e).2]) n
  replace e := cl_s e; obtain ⟨q, es, e⟩ := e
  replace e := (gd_s e).2
  replace e := br_s e; rcases e with ⟨_, e⟩ | ⟨c3, e⟩
  · exact absurd (by rw [← Option.some.inj (gd_s e).2]) n
  have l1 := nlt_i c1
  have l2 := nle_i c2
  have z0 : (0 : Int32).toInt = 0 := rfl
  have z60 : (60 : Int32).toInt = 60 := rfl
  obtain ⟨r, er, eb, _⟩ := B
  obtain ⟨b', eb', pb⟩ := P.1 r q er es s.toNatClampNeg (by have := nc_i (x := s) (by omega); omega) c3
  rw [r_eq eb eb'] at pb
  exact pb
theorem gaw_w {A : List (Nat × Nat)} (hA : ∀ k i, k ≠ 93 → k ≠ 94 → mS A k i = false) (T : TH ρ c h) (r0 : ρ x0 = 16) (f : Fr ρ (cat c (fS A []) h) h o) (G : GaY zq Bq x0 h) (T' : TH ρ c o := by assumption) : GaY zq Bq x0 o := by
  have z : ∀ k i, k ≠ 93 → k ≠ 94 → ∀ w, fS A [] k w i = false := fun k i a1 a2 w => fs_nf (hA k i a1 a2)
  refine ⟨fun j b B => ?_, pay_k0 T r0 (k2 := 92) rfl (by decide) (T'.1.1.trans T.1.1.symm) (fr_RI f r0 (by decide) (z _ _ (by decide) (by decide))).2.2 (fun r i qr => (fr_RI f qr (by decide) (z _ _ (by decide) (by decide))).2.2) G.2⟩
  obtain ⟨r', s1, s2⟩ := B
  rw [(fr_RI f r0 (by decide) (z _ _ (by decide) (by decide))).2.2] at s1
  obtain ⟨q1, f1, g1⟩ := thR T r0 (i := 37) (k2 := 92) rfl (by decide)
  have h1 : ρ r' = 92 := by rw [r_eq f1 s1]; exact g1
  rw [(fr_RI f h1 (by decide) (z _ _ (by decide) (by decide))).2.2] at s2
  obtain ⟨k1, k2⟩ := gb_r T r0 (i := j) (b := b) ⟨r', s1, s2⟩
  exact pz_fr T k1 f (fun _ _ => z _ _ (by decide) (by decide) _) (fun _ => z _ _ (by decide) (by decide) _) (fun _ => z _ _ (by decide) (by decide) _) (fun _ => z _ _ (by decide) (by decide) _) (G.1 j b ⟨r', s1, s2⟩)
theorem mz_sy {w' : Nat} (n : nice E) (T : TH ρ c h) (rb : ρ b = 13) (rl : ρ l = 14) (ew : cw c b = w) (hb : wb w = false) (el : cw c l = w') (hl : wl w' = false) (f : Fr ρ (cat c (SY E wb wl) h) h o) (Z : MvZ b l h) : MvZ b l o := by
  have z : ∀ k i, (k = 13 ∨ k = 14 ∨ (62 ≤ k ∧ k ≤ 72) ∨ k = 15) → mS saL k i = false → mS mpL k i = false → SY E wb wl k (cw c b) i = false := fun k i a0 a1 a2 => sy_f (n.1 k i a0) a1 (Or.inr (by rw [ew]; exact hb)) (Or.inl a2)
  have y : ∀ k i, (k = 13 ∨ k = 14 ∨ (62 ≤ k ∧ k ≤ 72) ∨ k = 15) → mS saL k i = false → mS bpL k i = false → SY E wb wl k (cw c l) i = false := fun k i a0 a1 a2 => sy_f (n.1 k i a0) a1 (Or.inl a2) (Or.inr (by rw [el]; exact hl))
  have fb : ∀ i, hI o b i = hI h b i ∧ hR o b i = hR h b i := fun i => by
    have := f.1 b i (by rw [rb]; decide) (by rw [rb]; exact z 13 i (by omega) rfl rfl)
    exact ⟨this.1, this.2.2⟩
  have fl : ∀ i, hI o l i = hI h l i ∧ hR o l i = hR h l i := fun i => by
    have := f.1 l i (by rw [rl]; decide) (by rw [rl]; exact y 14 i (by omega) rfl rfl)
    exact ⟨this.1, this.2.2⟩
  have fa : ∀ {a k : Nat}, cw c a = cw c l → ρ a = k → 66 ≤ k → k ≤ 72 → ∀ i, hI o a i = hI h a i := fun {a k} hw ra k1 k2 i => by
    refine (f.1 a i (by rw [ra]; omega) ?_).1
    rw [ra]
    show SY E wb wl k (cw c a) i = false
    rw [hw]
    have : k = 66 ∨ k = 67 ∨ k = 68 ∨ k = 69 ∨ k = 70 ∨ k = 71 ∨ k = 72 := by omega
    rcases this with q | q | q | q | q | q | q <;> rw [q] <;> exact y _ i (by omega) rfl rfl
  intro M lf lt lx lk lo p0 p1 p2 p5 p6 p7
  rw [(fb 0).2] at p0
  rw [(fl _).2] at p1 p2 p5 p6 p7
  have rM := rr T (thR T rb (i := 0) (k2 := 62) rfl (by decide)) p0
  have q1 := rr T (thR T rl (i := 1) (k2 := 66) rfl (by decide)) p1
  have q2 := rr T (thR T rl (i := 2) (k2 := 67) rfl (by decide)) p2
  have q5 := rr T (thR T rl (i := 5) (k2 := 70) rfl (by decide)) p5
  have q6 := rr T (thR T rl (i := 6) (k2 := 71) rfl (by decide)) p6
  have q7 := rr T (thR T rl (i := 7) (k2 := 72) rfl (by decide)) p7
  have fM : ∀ i, hI o M i = hI h M i := fun i => (f.1 M i (by rw [rM]; decide) (by rw [rM]; show SY E wb wl 62 (cw c M) i = false; rw [th_ih T rb (by decide) p0 rfl]; exact z 62 i (by omega) rfl rfl)).1
  have L := Z M lf lt lx lk lo p0 p1 p2 p5 p6 p7
  rw [(fb 1).1, (fb 3).1, show hI o M = hI h M from funext fM]
  intro i hi
  rw [(fl 0).1] at hi
  rw [fa (th_ih T rl (by decide) p1 rfl) q1 (by decide) (by decide) i, fa (th_ih T rl (by decide) p2 rfl) q2 (by decide) (by decide) i, fa (th_ih T rl (by decide) p5 rfl) q5 (by decide) (by decide) i, fa (th_ih T rl (by decide) p6 rfl) q6 (by decide) (by decide) i, fa (th_ih T rl (by decide) p7 rfl) q7 (by decide) (by decide) i]
  exact L i hi
theorem start_w (hF : 700000 ≤ F) (hp : ∀ k w i, SY gmE2 (fun w => decide (5000 ≤ w) && decide (w ≤ 7407)) no k w i = true → cPm c k w i = true) (T : TH ρ c h) (r0 : ρ x0 = 16) {Bk : Nat × Nat} (bd : BdY zq Bk x0 h) (G : GaY zq Bq x0 h) : Sat (sX15_start h x0 x1 x2) (MkI ρ c (-102) 0 (GaY zq Bq x0)) := by
  unfold sX15_start
  refine s_dP0 (zX15_isGame hF T (rg_top _)) (fun oo eb e ii pp => ?_)
  rw [e]
  unfold sX15_start_4
  refine s_br (fun _ => s_some ⟨ρ, c, ex_0, T, rg_b rfl, G⟩) (fun nz => ?_)
  have i1 := pp nz
  refine s_dP0 (zX15_has hF T r0 (rg_top _)) (fun o2 eb2 e2 ii2 pp2 => ?_)
  rw [e2]
  unfold sX15_start_15
  refine s_br (fun _ => s_some ⟨ρ, c, ex_0, T, rg_b rfl, G⟩) (fun nz2 => ?_)
  have i2 := pp2 nz2
  obtain ⟨b, B, PB0⟩ := bw_of T r0 bd eb2 nz2
  have i0 : Rg 0 300 (0 : Int32) := rg_b rfl
  refine s_gamew hp (fun _ => gm2_t) T r0 i1 i0 G (fun o3 ρ1 c1 X1 T1 f1 G1 B1 _ => ?_)
  have r1 := ex_r X1 r0 (by decide)
  have hp1 := ex_hp X1 hp
  have BK1 := bk_sy nice_92 (fun _ => rfl) T r0 f1 rfl B
  obtain ⟨kb, wb'⟩ := bk_r T1 r1 BK1
  obtain ⟨kg, wg⟩ := gb_r T1 r1 B1
  have PB : PZ zq b o3.2 := pz_sy nice_92 T (bk_r T r0 B).1 (bk_r T r0 B).2 rfl f1 PB0
  unfold sX15_start_27
  refine s_bk T1 r1 i2 BK1 ?_
  have lg : gi x1 0 ≤ 2407 := rg_clamp (gi_r i1 i0) (by decide)
  have hs : ∀ k w i, SY noE (is (5000 + gi x1 0)) no k w i = true → cPm c1 k w i = true := fun k w i m => hp1 k w i (sy_sub (fun _ _ z => noE_f z) (fun w z => by rw [is_e z, decide_eq_true (show 5000 ≤ 5000 + gi x1 0 by omega), decide_eq_true (show 5000 + gi x1 0 ≤ 7407 by omega)]; rfl) (fun _ z => no_f z) m)
  refine s_cVfq T1 hs (s_weq (zX12_copy hF (pmO_s (w := 5000 + gi x1 0) (syB (sx_c _) is_s) rfl) wg wb' (th_in _ T1) kg kb)) (fun o4 T4 f4 e4 => ?_)
  have P4 : PZ zq o3.1 o4 := ⟨pe_copy T1 kg kb PB.1 e4, wr_copy T1 kg kb PB.2 e4⟩
  have G4 : GaY zq Bq x0 o4 := gaw_sy nice_0 (fun _ => rfl) T1 r1 f4 (fun j => by
    by_cases q : j = gi x1 0
    · subst q
      refine Or.inr (fun b' B' => ?_)
      obtain ⟨r, s1, s2⟩ := B1
      obtain ⟨r', s1', s2'⟩ := B'
      rw [r_eq s1 s1'] at s2'
      rw [r_eq s2 s2']; exact P4
    · exact Or.inl (is_f (by omega))) G1
  unfold sX15_start_36
  refine s_played T4 r1 i1 (fun r er qr => ?_)
  refine s_hq (th_wI T4 qr (k := 94) (lo := -1) (hi := 300) rfl (rg_b rfl) (by decide) (by decide) (syE hp1 rfl _)) (fun g5 T5 e5 => ?_)
  have f5 := fr1I (c := c1) (A := [(94, 999)]) (k := 94) qr rfl e5
  exact s_some ⟨ρ1, c1, X1, T5, rg_b rfl, gaw_w a94 T4 r1 f5 G4⟩
theorem gaw_one {j0 : Nat} (P : ∀ b', Gb x0 j0 b' h → PZ zq b' o) : ∀ j, is (5000 + j0) (5000 + j) = false ∨ ∀ b, Gb x0 j b h → PZ zq b o := fun j => by
  by_cases q : j = j0
  · subst q; exact Or.inr P
  · exact Or.inl (is_f (by omega))
theorem add_w (hF : 700000 ≤ F) (hp : ∀ k w i, SY gmE2 gmB (is 2530) k w i = true → cPm c k w i = true) (T : TH ρ c h) (r0 : ρ x0 = 16) (sq : SqOk x0 h) (G : GaY zq Bq x0 h) : Sat (sX15_add F h x0 x1 x2) (MkI ρ c (-104) 300 (GaY zq Bq x0)) := by
  unfold sX15_add
  refine s_dP0 (zX15_isGame hF T (rg_top _)) (fun oo eb e ii pp => ?_)
  rw [e]
  unfold sX15_add_4
  refine s_br (fun _ => s_some ⟨ρ, c, ex_0, T, rg_b rfl, G⟩) (fun nz => ?_)
  have i1 := pp nz
  refine s_played T r0 i1 (fun r er qr => ?_)
  refine s_br (fun _ => s_some ⟨ρ, c, ex_0, T, rg_b rfl, G⟩) (fun n1 => ?_)
  refine s_played T r0 i1 (fun r' er' qr' => ?_)
  have : r' = r := r_eq er er'
  subst this
  have i2 : Rg 0 300 (hI h r' x1.toNatClampNeg) := rg_nlo n1 (thI T qr' (k := 94) (lo := -1) (hi := 300) rfl) (rg_b rfl : Rg (-1) (-1) (-1 : Int32))
  obtain ⟨p0, ep0⟩ : ∃ p0, p0 = hI h r' x1.toNatClampNeg := ⟨_, rfl⟩
  rw [← ep0] at i2 ⊢
  refine s_gamew hp (fun _ => gm2_t) T r0 i1 i2 G (fun o3 ρ1 c1 X1 T1 f1 G1 B1 _ => ?_)
  have r1 := ex_r X1 r0 (by decide)
  have qr1 := ex_r X1 qr' (by decide)
  have hp1 := ex_hp X1 hp
  have sq1 := sq_sy nice_92 T r0 f1 sq
  have er1 : hR o3.2 x0 39 = some r' := by rw [(fr_RI f1 r0 (by decide) (fun _ => sy_f rfl rfl (Or.inl rfl) (Or.inl rfl))).2.2]; exact er
  have ep1 : hI o3.2 r' x1.toNatClampNeg = p0 := by rw [ep0]; exact (fr_RI f1 qr' (by decide) (fun _ => sy_f rfl rfl (Or.inl rfl) (Or.inl rfl))).1
  unfold sX15_add_34
  obtain ⟨ls, els, qls⟩ := thR T1 r1 (i := 30) (k2 := 14) rfl (by decide)
  refine s_ref els ?_
  refine s_legalGw hF hp1 rfl rfl T1 r1 sq1 G1 B1 els (fun o4 T4 f4 sq4 G4 B4 el4 mv4 mz4 => ?_)
  have er4 : hR o4 x0 39 = some r' := by rw [(fr_RI f4 r1 (by decide) (fun _ => sy_f rfl rfl (Or.inl rfl) (Or.inl rfl))).2.2]; exact er1
  have ep4 : hI o4 r' x1.toNatClampNeg = p0 := by rw [(fr_RI f4 qr1 (by decide) (fun _ => sy_f rfl rfl (Or.inl rfl) (Or.inl rfl))).1]; exact ep1
  unfold sX15_add_44 sX15_add_59
  refine s_br (fun _ => s_some ⟨ρ1, c1, X1, T4, rg_b rfl, G4⟩) (fun n2 => ?_)
  refine s_ref el4 ?_
  refine s_br (fun n3 => ?_) (fun _ => s_some ⟨ρ1, c1, X1, T4, rg_b rfl, G4⟩)
  refine s_played T4 r1 i1 (fun r'' er'' qr'' => ?_)
  have : r'' = r' := r_eq er4 er''
  subst this
  rw [ep4]
  refine s_br (fun _ => s_some ⟨ρ1, c1, X1, T4, rg_b rfl, G4⟩) (fun n4 => ?_)
  have i3 : Rg 0 299 p0 := rg_nhi n4 i2 (rg_b rfl : Rg 300 300 (300 : Int32))
  have i4 : Rg 0 300 (p0 + (1 : Int32)) := rg_add i3 (rg_b rfl : Rg 1 1 (1 : Int32)) (by decide)
  refine s_ref el4 ?_
  refine s_played T4 r1 i1 (fun r3 er3 qr3 => ?_)
  have : r3 = r'' := r_eq er4 er3
  subst this
  rw [ep4]
  have ne := gi_ne i1 i2 i4 (by rw [(nc_s i3 (by decide)).2]; omega)
  refine s_gamew hp1 (fun _ => gm2_t) T4 r1 i1 i4 G4 (fun o5 ρ5 c5 X5 T5 f5 G5 B5 kp5 => ?_)
  have r5 := ex_r X5 r1 (by decide)
  have qr5 := ex_r X5 qr1 (by decide)
  have hp5 := ex_hp X5 hp1
  have sq5 := sq_sy nice_92 T4 r1 f5 sq4
  obtain ⟨k4, w4⟩ := gb_r T4 r1 B4
  have ql4 : ρ1 ls = 14 := qls
  have wl4 : cw c1 ls = 2530 := th_id T4 r1 (w := 2530) el4 rfl (by decide)
  have mv5 : MvB x0 o3.1 ls o5.2 := mv_sy nice_92 T4 r1 k4 ql4 w4 rfl wl4 rfl f5 mv4
  have mz5 : MvZ o3.1 ls o5.2 := mz_sy nice_92 T4 k4 ql4 w4 rfl wl4 rfl f5 mz4
  have B45 : Gb x0 (gi x1 p0) o3.1 o5.2 := kp5 _ _ B4
  have el5 : hI o5.2 ls 0 = hI o4 ls 0 := fr_I f5 ql4 (by decide) wl4 (sy_f rfl rfl (Or.inl rfl) (Or.inr rfl))
  obtain ⟨k5, w5⟩ := gb_r T5 r5 B5
  obtain ⟨k45, w45⟩ := gb_r T5 r5 B45
  have ql5 := ex_r X5 ql4 (by decide)
  have wl5 := ex_w X5 ql4 (by decide) wl4
  have er5 : hR o5.2 x0 39 = some r3 := by rw [(fr_RI f5 r1 (by decide) (fun _ => sy_f rfl rfl (Or.inl rfl) (Or.inl rfl))).2.2]; exact er4
  have ep5 : hI o5.2 r3 x1.toNatClampNeg = p0 := by rw [(fr_RI f5 qr1 (by decide) (fun _ => sy_f rfl rfl (Or.inl rfl) (Or.inl rfl))).1]; exact ep4
  have h3000 := thI T4 ql4 (k := 14) (i := 0) (lo := 0) (hi := 3000) rfl
  have lt := lt_i n3
  have ix : Rg 0 2999 x2 := ⟨nlt_i n2, by have := h3000.2; omega⟩
  unfold sX15_add_97
  have lg : gi x1 (p0 + 1) ≤ 2407 := rg_clamp (gi_r i1 i4) (by decide)
  have hs : ∀ k w i, SY noE (is (5000 + gi x1 (p0 + 1))) no k w i = true → cPm c5 k w i = true := fun k w i m => hp5 k w i (sy_sub (fun _ _ z => noE_f z) (fun w z => by rw [is_e z]; exact gmB_t lg) (fun _ z => no_f z) m)
  refine s_cVfq T5 hs (s_weq2 (zX15_make hF (pmA_s (syA (sx_c _)) rfl) (pmO_s (w := 5000 + gi x1 (p0 + 1)) (syB (sx_c _) is_s) rfl) w45 wl5 w5 (th_in _ T5) r5 k45 ql5 ix k5 sq5 mv5 (by rw [el5]; exact lt))) (fun o6 T6 f6 P6' => ?_)
  have P6 : PZ zq o5.1 o6 := ⟨P6'.1, make_z T5 r5 k45 ql5 k5 (fun P1 P p1 p2 z => by
    have v1 : cw c5 P1 = 5000 + gi x1 p0 := (th_ih T5 k45 (by decide) p1 rfl).trans w45
    have v2 : cw c5 P = 5000 + gi x1 (p0 + 1) := (th_ih T5 k5 (by decide) p2 rfl).trans w5
    rw [z, v2] at v1
    exact ne (by omega)) (G5.1 _ _ B45).2 mv5 mz5 ⟨ix.1, by rw [el5]; exact lt⟩ P6'.2⟩
  have G6 : GaY zq Bq x0 o6 := gaw_sy nice_0 (fun _ => rfl) T5 r5 f6 (gaw_one (fun b' B' => by rw [gb_u B5 B']; exact P6)) G5
  have er6 : hR o6 x0 39 = some r3 := by rw [(fr_RI f6 r5 (by decide) (fun _ => sy_f rfl rfl (Or.inl rfl) (Or.inl rfl))).2.2]; exact er5
  have ep6 : hI o6 r3 x1.toNatClampNeg = p0 := by rw [(fr_RI f6 qr5 (by decide) (fun _ => sy_f rfl rfl (Or.inl rfl) (Or.inl rfl))).1]; exact ep5
  unfold sX15_add_100
  obtain ⟨gm, egm, qgm⟩ := thR T6 r5 (i := 38) (k2 := 93) rfl (by decide)
  refine s_ref egm ?_
  refine s_played T6 r5 i1 (fun r7 er7 qr7 => ?_)
  have : r7 = r3 := r_eq er6 er7
  subst this
  rw [ep6]
  refine s_gd (by rw [thN T6 qgm (k := 93) (n := 2408) rfl (by decide)]; exact rg_inB (gi_r i1 i2) (by decide)) ?_
  refine s_hq (th_wI T6 qgm (k := 93) (lo := 0) (hi := 2999) rfl ix (by decide) (by decide) (syE hp5 rfl _)) (fun g7 T7 e7 => ?_)
  have f7 := fr1I (c := c5) (A := [(93, 999)]) (k := 93) qgm rfl e7
  have G7 := gaw_w a93 T6 r5 f7 G6
  have ep7 : hI g7 r7 x1.toNatClampNeg = p0 := by rw [e7, r_I, if_neg (ne_r qr5 qgm (by decide))]; exact ep6
  refine s_played T7 r5 i1 (fun r8 er8 qr8 => ?_)
  have : r8 = r7 := by rw [e7] at er8; exact r_eq er6 er8
  subst this
  refine s_gd (by rw [thN T7 qr8 (k := 94) (n := 8) rfl (by decide)]; exact rg_inB i1 (by decide)) ?_
  refine s_hq (th_wI T7 qr8 (k := 94) (lo := -1) (hi := 300) rfl (rg_m (show Rg 0 300 _ by rw [ep7]; exact i4) (by decide)) (by decide) (by decide) (syE hp5 rfl _)) (fun g8 T8 e8 => ?_)
  have f8 := fr1I (c := c5) (A := [(94, 999)]) (k := 94) qr8 rfl e8
  have G8 := gaw_w a94 T7 r5 f8 G7
  refine s_played T8 r5 i1 (fun r9 er9 qr9 => ?_)
  exact s_some ⟨ρ5, c5, ex_t X1 X5, T8, rg_m (thI T8 qr9 (k := 94) (lo := -1) (hi := 300) rfl) (by decide), G8⟩
end
