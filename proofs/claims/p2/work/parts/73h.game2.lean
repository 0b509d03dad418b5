section
variable {ρ : Nat → Nat} {c : Cm} {h o : Hp} {E : Nat → Nat → Bool} {wb wl : Nat → Bool} {x0 d b l w i F : Nat} {x1 x2 : Int32}
theorem no5 {n j : Nat} (h : n < 5000) : is n (5000 + j) = false := is_f (by omega)
theorem nw {i : Nat} : g92 i 16 39 = false := rfl
/-- moves of a game's board -/
theorem s_legalG {β : Type} {Q : β → Prop} {k : Hp → Option β} (hF : 700000 ≤ F) (hp : ∀ k w i, SY E wb wl k w i = true → cPm c k w i = true) (h1 : wb 2528 = true) (h3 : wl 2530 = true) (T : TH ρ c h) (r0 : ρ x0 = 16) (sq : SqOk x0 h) (G : GaP x0 h) (B : Gb x0 i b h) (el : hR h x0 30 = some l) (H : ∀ o, TH ρ c o → Fr ρ (cat c (SY noE (is 2528) (is 2530)) h) h o → SqOk x0 o → GaP x0 o → Gb x0 i b o → hR o x0 30 = some l → MvB x0 b l o → Sat (k o) Q) : Sat (cl (sX15_legal F h x0 b l) k) Q := by
  obtain ⟨k1, k3⟩ := gb_r T r0 B
  obtain ⟨l', el', ql'⟩ := thR T r0 (i := 30) (k2 := 14) rfl (by decide)
  have ql : ρ l = 14 := by rw [r_eq el' el]; exact ql'
  have wl' : cw c l = 2530 := th_id T r0 (w := 2530) el rfl (by decide)
  have hs : ∀ k w i, SY noE (is 2528) (is 2530) k w i = true → cPm c k w i = true := fun k w i m => hp k w i (sy_sub (fun _ _ z => noE_f z) (fun w z => by rw [is_e z]; exact h1) (fun w z => by rw [is_e z]; exact h3) m)
  refine s_cVfq T hs (zX15_legal hF (pmA_s (syA (sx_c _)) rfl) (pmO_s (syB (sx_c _) is_s) rfl) (pmO_s (w := 2530) (syM (sx_c _) is_s) rfl) k3 wl' (by omega) (th_in _ T) r0 k1 ql sq (G i b B)) (fun o T1 f mv => ?_)
  exact H o T1 f (sq_sy nice_0 T r0 f sq) (ga_sy nice_0 (fun _ => rfl) T r0 f (fun j => Or.inl (no5 (by decide))) G) ((gb_sy nice_0 rfl T r0 f).mp B) (by rw [(fr_RI f r0 (by decide) (fun _ => sy_f rfl rfl (Or.inl rfl) (Or.inl rfl))).2.2]; exact el) mv
def gmE : Nat → Nat → Bool := fun k _ => k == 92 || k == 93 || k == 94
theorem zX15_start (hF : 700000 ≤ F) (hp : ∀ k w i, SY gmE (fun w => decide (5000 ≤ w) && decide (w ≤ 7407)) no k w i = true → cPm c k w i = true) (T : TH ρ c h) (r0 : ρ x0 = 16) (bd : BdP x0 h) (G : GaP x0 h) : Sat (sX15_start h x0 x1 x2) (MkI ρ c (-102) 0 (GaP x0)) := by
  unfold sX15_start
  refine s_dP0 (zX15_isGame hF T (rg_top _)) (fun oo eb e ii pp => ?_)
  rw [e]
  unfold sX15_start_4
  refine s_br (fun _ => s_some ⟨ρ, c, ex_0, T, rg_b rfl, G⟩) (fun nz => ?_)
  have i1 := pp nz
  refine s_dP0 (zX15_has hF T r0 (rg_top _)) (fun o2 eb2 e2 ii2 pp2 => ?_)
  rw [e2]
  unfold sX15_start_15
  refine s_br (fun _ => s_some ⟨ρ, c, ex_0, T, rg_b rfl, G⟩) (fun nz2 => ?_)
  have i2 := pp2 nz2
  obtain ⟨b, B⟩ := bk_of T r0 (hb_of T r0 bd eb2 nz2)
  have i0 : Rg 0 300 (0 : Int32) := rg_b rfl
  refine s_game hp (fun _ => rfl) T r0 i1 i0 G (fun o3 ρ1 c1 X1 T1 f1 G1 B1 _ => ?_)
  have r1 := ex_r X1 r0 (by decide)
  have hp1 := ex_hp X1 hp
  have BK1 := bk_sy nice_92 (fun _ => rfl) T r0 f1 rfl B
  obtain ⟨kb, wb'⟩ := bk_r T1 r1 BK1
  obtain ⟨kg, wg⟩ := gb_r T1 r1 B1
  have PB : PE b o3.2 := by obtain ⟨_, _, _, q⟩ := BK1; exact q
  unfold sX15_start_27
  refine s_bk T1 r1 i2 BK1 ?_
  have lg : gi x1 0 ≤ 2407 := rg_clamp (gi_r i1 i0) (by decide)
  have hs : ∀ k w i, SY noE (is (5000 + gi x1 0)) no k w i = true → cPm c1 k w i = true := fun k w i m => hp1 k w i (sy_sub (fun _ _ z => noE_f z) (fun w z => by rw [is_e z, decide_eq_true (show 5000 ≤ 5000 + gi x1 0 by omega), decide_eq_true (show 5000 + gi x1 0 ≤ 7407 by omega)]; rfl) (fun _ z => no_f z) m)
  refine s_cVfq T1 hs (s_weq (zX12_copy hF (pmO_s (w := 5000 + gi x1 0) (syB (sx_c _) is_s) rfl) wg wb' (th_in _ T1) kg kb)) (fun o4 T4 f4 e4 => ?_)
  have P4 := pe_copy T1 kg kb PB e4
  have G4 : GaP x0 o4 := ga_sy nice_0 (fun _ => rfl) T1 r1 f4 (fun j => by
    by_cases q : j = gi x1 0
    · subst q
      refine Or.inr (fun b' B' => ?_)
      obtain ⟨r, s1, s2⟩ := B1
      obtain ⟨r', s1', s2'⟩ := B'
      rw [r_eq s1 s1'] at s2'
      rw [r_eq s2 s2']; exact P4
    · exact Or.inl (is_f (by omega))) G1
  unfold sX15_start_36
  refine s_played T4 r1 i1 (fun r er qr => ?_)
  refine s_hq (th_wI T4 qr (k := 94) (lo := -1) (hi := 300) rfl (rg_b rfl) (by decide) (by decide) (syE hp1 rfl _)) (fun g5 T5 e5 => ?_)
  have f5 := fr1I (c := c1) (A := [(94, 999)]) (k := 94) qr rfl e5
  refine s_some ⟨ρ1, c1, X1, T5, rg_b rfl, fun j b' B' => ?_⟩
  obtain ⟨r', s1, s2⟩ := B'
  have B4 : Gb x0 j b' o4 := ⟨r', by rw [e5] at s1; exact s1, by rw [e5] at s2; exact s2⟩
  obtain ⟨k1, k2⟩ := gb_r T4 r1 B4
  exact pe_fr T4 k1 f5 rfl rfl rfl (fun _ => rfl) (fun _ => rfl) (G4 j b' B4)
theorem ga_w {A : List (Nat × Nat)} (hA : ∀ k i, k ≠ 93 → k ≠ 94 → mS A k i = false) (T : TH ρ c h) (r0 : ρ x0 = 16) (f : Fr ρ (cat c (fS A []) h) h o) (G : GaP x0 h) : GaP x0 o := fun j b B => by
  have z : ∀ k i, k ≠ 93 → k ≠ 94 → ∀ w, fS A [] k w i = false := fun k i a1 a2 w => fs_nf (hA k i a1 a2)
  obtain ⟨r', s1, s2⟩ := B
  rw [(fr_RI f r0 (by decide) (z _ _ (by decide) (by decide))).2.2] at s1
  obtain ⟨q1, f1, g1⟩ := thR T r0 (i := 37) (k2 := 92) rfl (by decide)
  have h1 : ρ r' = 92 := by rw [r_eq f1 s1]; exact g1
  rw [(fr_RI f h1 (by decide) (z _ _ (by decide) (by decide))).2.2] at s2
  obtain ⟨k1, k2⟩ := gb_r T r0 (i := j) (b := b) ⟨r', s1, s2⟩
  exact pe_fr T k1 f (z _ _ (by decide) (by decide) _) (z _ _ (by decide) (by decide) _) (z _ _ (by decide) (by decide) _) (fun _ => z _ _ (by decide) (by decide) _) (fun _ => z _ _ (by decide) (by decide) _) (G j b ⟨r', s1, s2⟩)
theorem a93 : ∀ k i, k ≠ 93 → k ≠ 94 → mS [(93, 999)] k i = false := fun k i h1 _ => by
  show ((93 == k && (999 == 999 || 999 == i)) || false) = false
  rw [bq_ne (fun z => h1 z.symm)]; rfl
theorem a94 : ∀ k i, k ≠ 93 → k ≠ 94 → mS [(94, 999)] k i = false := fun k i _ h1 => by
  show ((94 == k && (999 == 999 || 999 == i)) || false) = false
  rw [bq_ne (fun z => h1 z.symm)]; rfl
def kpE : Nat → Nat → Bool := fun k i => mS [(84, 999), (85, 999), (16, 16)] k i
theorem nice_kp : nice kpE := by
  refine ⟨fun k i hk => ?_, rfl, rfl, rfl, rfl, rfl⟩
  unfold kpE mS
  show ((84 == k && (999 == 999 || 999 == i)) || ((85 == k && (999 == 999 || 999 == i)) || ((16 == k && (16 == 999 || 16 == i)) || false))) = false
  rw [bq_ne (show 84 ≠ k by omega), bq_ne (show 85 ≠ k by omega), bq_ne (show 16 ≠ k by omega)]; rfl
theorem bp_sy (n : nice E) (n84 : ∀ i, E 84 i = false) (n85 : ∀ i, E 85 i = false) (n15 : E 16 15 = false) (hb : wb 3400 = false) (T : TH ρ c h) (r0 : ρ x0 = 16) (f : Fr ρ (cat c (SY E wb wl) h) h o) (P : BdP x0 h) : BdP x0 o := by
  have z : ∀ k i, (k = 13 ∨ k = 14 ∨ (62 ≤ k ∧ k ≤ 72) ∨ k = 15) → mS saL k i = false → mS mpL k i = false → SY E wb wl k 3400 i = false := fun k i a0 a1 a2 => sy_f (n.1 k i a0) a1 (Or.inr hb) (Or.inl a2)
  exact bp_fr T r0 f (fun _ => sy_f n.2.2.2.2.2 rfl (Or.inl rfl) (Or.inl rfl)) (fun _ => sy_f n15 rfl (Or.inl rfl) (Or.inl rfl)) (fun _ i => sy_f (n84 i) rfl (Or.inl rfl) (Or.inl rfl)) (fun _ i => sy_f (n85 i) rfl (Or.inl rfl) (Or.inl rfl)) (z _ _ (by omega) rfl rfl) (z _ _ (by omega) rfl rfl) (z _ _ (by omega) rfl rfl) (fun i => z _ _ (by omega) rfl rfl) (fun i => z _ _ (by omega) rfl rfl) P
theorem zX15_now (hF : 700000 ≤ F) (hp : ∀ k w i, SY (fun k i => kpE k i || k == 92) (is 3400) no k w i = true → cPm c k w i = true) (T : TH ρ c h) (r0 : ρ x0 = 16) (bd : BdP x0 h) (G : GaP x0 h) : Sat (sX15_now F h x0 x1) (MkI ρ c (-104) 59 (fun o => BdP x0 o ∧ GaP x0 o)) := by
  unfold sX15_now
  refine s_dP0 (zX15_isGame hF T (rg_top _)) (fun oo eb e ii pp => ?_)
  rw [e]
  unfold sX15_now_4 sX15_now_40
  refine s_br (fun _ => s_some ⟨ρ, c, ex_0, T, rg_b rfl, bd, G⟩) (fun nz => ?_)
  have i1 := pp nz
  refine s_played T r0 i1 (fun r er qr => ?_)
  refine s_br (fun _ => s_some ⟨ρ, c, ex_0, T, rg_b rfl, bd, G⟩) (fun n1 => ?_)
  refine s_played T r0 i1 (fun r' er' qr' => ?_)
  have : r' = r := r_eq er er'
  subst this
  have i2 : Rg 0 300 (hI h r' x1.toNatClampNeg) := rg_nlo n1 (thI T qr' (k := 94) (lo := -1) (hi := 300) rfl) (rg_b rfl : Rg (-1) (-1) (-1 : Int32))
  refine s_game hp (fun _ => Bool.or_true _) T r0 i1 i2 G (fun o3 ρ1 c1 X1 T1 f1 G1 B1 _ => ?_)
  have r1 := ex_r X1 r0 (by decide)
  have hp1 := ex_hp X1 hp
  have bd1 := bp_sy nice_92 (fun _ => rfl) (fun _ => rfl) rfl rfl T r0 f1 bd
  obtain ⟨kg, wg⟩ := gb_r T1 r1 B1
  unfold sX15_now_37
  have hs : ∀ k w i, SY kpE (is 3400) no k w i = true → cPm c1 k w i = true := fun k w i m => hp1 k w i (sy_sub (fun k i z => by rw [z]; rfl) (fun _ z => z) (fun _ z => z) m)
  refine s_mI (S := SY kpE (is 3400) no) T1 hs (zX15_keep hF (fun w k i m => sx_c _ k w i (by unfold SY kpE; rw [m, Bool.true_or, Bool.true_or])) (pmO_s (syB (sx_c _) is_s) rfl) wg (th_in _ T1) r1 kg bd1 (G1 _ _ B1)) (fun o4 ρ4 c4 X4 T4 f4 j4 bd4 => ?_)
  exact s_some ⟨ρ4, c4, ex_t X1 X4, T4, j4, bd4, ga_sy nice_kp (fun _ => rfl) T1 r1 f4 (fun j => Or.inl (no5 (by decide))) G1⟩
def gmB : Nat → Bool := fun w => w == 2528 || (decide (5000 ≤ w) && decide (w ≤ 7407))
theorem gmB_t {j : Nat} (h : j ≤ 2407) : gmB (5000 + j) = true := by
  unfold gmB
  rw [decide_eq_true (show 5000 ≤ 5000 + j by omega), decide_eq_true (show 5000 + j ≤ 7407 by omega)]
  exact Bool.or_true _
theorem ga_one {j0 : Nat} (P : ∀ b', Gb x0 j0 b' h → PE b' o) : ∀ j, is (5000 + j0) (5000 + j) = false ∨ ∀ b, Gb x0 j b h → PE b o := fun j => by
  by_cases q : j = j0
  · subst q; exact Or.inr P
  · exact Or.inl (is_f (by omega))
theorem gb_u {b' : Nat} (B : Gb x0 i b h) (B' : Gb x0 i b' h) : b' = b := by
  obtain ⟨r, s1, s2⟩ := B
  obtain ⟨r', s1', s2'⟩ := B'
  rw [r_eq s1 s1'] at s2'
  exact r_eq s2 s2'
theorem zX15_add (hF : 700000 ≤ F) (hp : ∀ k w i, SY gmE gmB (is 2530) k w i = true → cPm c k w i = true) (T : TH ρ c h) (r0 : ρ x0 = 16) (sq : SqOk x0 h) (G : GaP x0 h) : Sat (sX15_add F h x0 x1 x2) (MkI ρ c (-104) 300 (GaP x0)) := by
  unfold sX15_add
  refine s_dP0 (zX15_isGame hF T (rg_top _)) (fun oo eb e ii pp => ?_)
  rw [e]
  unfold sX15_add_4
  refine s_br (fun _ => s_some ⟨ρ, c, ex_0, T, rg_b rfl, G⟩) (fun nz => ?_)
  have i1 := pp nz
  refine s_played T r0 i1 (fun r er qr => ?_)
  refine s_br (fun _ => s_some ⟨ρ, c, ex_0, T, rg_b rfl, G⟩) (fun n1 => ?_)
  refine s_played T r0 i1 (fun r' er' qr' => ?_)
  have : r' = r := r_eq er er'
  subst this
  have i2 : Rg 0 300 (hI h r' x1.toNatClampNeg) := rg_nlo n1 (thI T qr' (k := 94) (lo := -1) (hi := 300) rfl) (rg_b rfl : Rg (-1) (-1) (-1 : Int32))
  obtain ⟨p0, ep0⟩ : ∃ p0, p0 = hI h r' x1.toNatClampNeg := ⟨_, rfl⟩
  rw [← ep0] at i2 ⊢
  refine s_game hp (fun _ => rfl) T r0 i1 i2 G (fun o3 ρ1 c1 X1 T1 f1 G1 B1 _ => ?_)
  have r1 := ex_r X1 r0 (by decide)
  have qr1 := ex_r X1 qr' (by decide)
  have hp1 := ex_hp X1 hp
  have sq1 := sq_sy nice_92 T r0 f1 sq
  have er1 : hR o3.2 x0 39 = some r' := by rw [(fr_RI f1 r0 (by decide) (fun _ => sy_f rfl rfl (Or.inl rfl) (Or.inl rfl))).2.2]; exact er
  have ep1 : hI o3.2 r' x1.toNatClampNeg = p0 := by rw [ep0]; exact (fr_RI f1 qr' (by decide) (fun _ => sy_f rfl rfl (Or.inl rfl) (Or.inl rfl))).1
  unfold sX15_add_34
  obtain ⟨ls, els, qls⟩ := thR T1 r1 (i := 30) (k2 := 14) rfl (by decide)
  refine s_ref els ?_
  refine s_legalG hF hp1 rfl rfl T1 r1 sq1 G1 B1 els (fun o4 T4 f4 sq4 G4 B4 el4 mv4 => ?_)
  have er4 : hR o4 x0 39 = some r' := by rw [(fr_RI f4 r1 (by decide) (fun _ => sy_f rfl rfl (Or.inl rfl) (Or.inl rfl))).2.2]; exact er1
  have ep4 : hI o4 r' x1.toNatClampNeg = p0 := by rw [(fr_RI f4 qr1 (by decide) (fun _ => sy_f rfl rfl (Or.inl rfl) (Or.inl rfl))).1]; exact ep1
  unfold sX15_add_44 sX15_add_59
  refine s_br (fun _ => s_some ⟨ρ1, c1, X1, T4, rg_b rfl, G4⟩) (fun n2 => ?_)
  refine s_ref el4 ?_
  refine s_br (fun n3 => ?_) (fun _ => s_some ⟨ρ1, c1, X1, T4, rg_b rfl, G4⟩)
  refine s_played T4 r1 i1 (fun r'' er'' qr'' => ?_)
  have : r'' = r' := r_eq er4 er''
  subst this
  rw [ep4]
  refine s_br (fun _ => s_some ⟨ρ1, c1, X1, T4, rg_b rfl, G4⟩) (fun n4 => ?_)
  have i3 : Rg 0 299 p0 := rg_nhi n4 i2 (rg_b rfl : Rg 300 300 (300 : Int32))
  have i4 : Rg 0 300 (p0 + (1 : Int32)) := rg_add i3 (rg_b rfl : Rg 1 1 (1 : Int32)) (by decide)
  refine s_ref el4 ?_
  refine s_played T4 r1 i1 (fun r3 er3 qr3 => ?_)
  have : r3 = r'' := r_eq er4 er3
  subst this
  rw [ep4]
  have ne := gi_ne i1 i2 i4 (by rw [(nc_s i3 (by decide)).2]; omega)
  refine s_game hp1 (fun _ => rfl) T4 r1 i1 i4 G4 (fun o5 ρ5 c5 X5 T5 f5 G5 B5 kp5 => ?_)
  have r5 := ex_r X5 r1 (by decide)
  have qr5 := ex_r X5 qr1 (by decide)
  have hp5 := ex_hp X5 hp1
  have sq5 := sq_sy nice_92 T4 r1 f5 sq4
  obtain ⟨k4, w4⟩ := gb_r T4 r1 B4
  have ql4 : ρ1 ls = 14 := qls
  have wl4 : cw c1 ls = 2530 := th_id T4 r1 (w := 2530) el4 rfl (by decide)
  have mv5 : MvB x0 o3.1 ls o5.2 := mv_sy nice_92 T4 r1 k4 ql4 w4 rfl wl4 rfl f5 mv4
  have B45 : Gb x0 (gi x1 p0) o3.1 o5.2 := kp5 _ _ B4
  have el5 : hI o5.2 ls 0 = hI o4 ls 0 := fr_I f5 ql4 (by decide) wl4 (sy_f rfl rfl (Or.inl rfl) (Or.inr rfl))
  obtain ⟨k5, w5⟩ := gb_r T5 r5 B5
  obtain ⟨k45, w45⟩ := gb_r T5 r5 B45
  have ql5 := ex_r X5 ql4 (by decide)
  have wl5 := ex_w X5 ql4 (by decide) wl4
  have er5 : hR o5.2 x0 39 = some r3 := by rw [(fr_RI f5 r1 (by decide) (fun _ => sy_f rfl rfl (Or.inl rfl) (Or.inl rfl))).2.2]; exact er4
  have ep5 : hI o5.2 r3 x1.toNatClampNeg = p0 := by rw [(fr_RI f5 qr1 (by decide) (fun _ => sy_f rfl rfl (Or.inl rfl) (Or.inl rfl))).1]; exact ep4
  have h3000 := thI T4 ql4 (k := 14) (i := 0) (lo := 0) (hi := 3000) rfl
  have lt := lt_i n3
  have ix : Rg 0 2999 x2 := ⟨nlt_i n2, by have := h3000.2; omega⟩
  unfold sX15_add_97
  have lg : gi x1 (p0 + 1) ≤ 2407 := rg_clamp (gi_r i1 i4) (by decide)
  have hs : ∀ k w i, SY noE (is (5000 + gi x1 (p0 + 1))) no k w i = true → cPm c5 k w i = true := fun k w i m => hp5 k w i (sy_sub (fun _ _ z => noE_f z) (fun w z => by rw [is_e z]; exact gmB_t lg) (fun _ z => no_f z) m)
  refine s_cVfq T5 hs (zX15_make hF (pmA_s (syA (sx_c _)) rfl) (pmO_s (w := 5000 + gi x1 (p0 + 1)) (syB (sx_c _) is_s) rfl) w45 wl5 w5 (th_in _ T5) r5 k45 ql5 ix k5 sq5 mv5 (by rw [el5]; exact lt)) (fun o6 T6 f6 P6 => ?_)
  have G6 : GaP x0 o6 := ga_sy nice_0 (fun _ => rfl) T5 r5 f6 (ga_one (fun b' B' => by rw [gb_u B5 B']; exact P6)) G5
  have er6 : hR o6 x0 39 = some r3 := by rw [(fr_RI f6 r5 (by decide) (fun _ => sy_f rfl rfl (Or.inl rfl) (Or.inl rfl))).2.2]; exact er5
  have ep6 : hI o6 r3 x1.toNatClampNeg = p0 := by rw [(fr_RI f6 qr5 (by decide) (fun _ => sy_f rfl rfl (Or.inl rfl) (Or.inl rfl))).1]; exact ep5
  unfold sX15_add_100
  obtain ⟨gm, egm, qgm⟩ := thR T6 r5 (i := 38) (k2 := 93) rfl (by decide)
  refine s_ref egm ?_
  refine s_played T6 r5 i1 (fun r7 er7 qr7 => ?_)
  have : r7 = r3 := r_eq er6 er7
  subst this
  rw [ep6]
  refine s_gd (by rw [thN T6 qgm (k := 93) (n := 2408) rfl (by decide)]; exact rg_inB (gi_r i1 i2) (by decide)) ?_
  refine s_hq (th_wI T6 qgm (k := 93) (lo := 0) (hi := 2999) rfl ix (by decide) (by decide) (syE hp5 rfl _)) (fun g7 T7 e7 => ?_)
  have f7 := fr1I (c := c5) (A := [(93, 999)]) (k := 93) qgm rfl e7
  have G7 := ga_w a93 T6 r5 f7 G6
  have ep7 : hI g7 r7 x1.toNatClampNeg = p0 := by rw [e7, r_I, if_neg (ne_r qr5 qgm (by decide))]; exact ep6
  refine s_played T7 r5 i1 (fun r8 er8 qr8 => ?_)
  have : r8 = r7 := by rw [e7] at er8; exact r_eq er6 er8
  subst this
  refine s_gd (by rw [thN T7 qr8 (k := 94) (n := 8) rfl (by decide)]; exact rg_inB i1 (by decide)) ?_
  refine s_hq (th_wI T7 qr8 (k := 94) (lo := -1) (hi := 300) rfl (rg_m (show Rg 0 300 _ by rw [ep7]; exact i4) (by decide)) (by decide) (by decide) (syE hp5 rfl _)) (fun g8 T8 e8 => ?_)
  have f8 := fr1I (c := c5) (A := [(94, 999)]) (k := 94) qr8 rfl e8
  have G8 := ga_w a94 T7 r5 f8 G7
  refine s_played T8 r5 i1 (fun r9 er9 qr9 => ?_)
  exact s_some ⟨ρ5, c5, ex_t X1 X5, T8, rg_m (thI T8 qr9 (k := 94) (lo := -1) (hi := 300) rfl) (by decide), G8⟩
end
