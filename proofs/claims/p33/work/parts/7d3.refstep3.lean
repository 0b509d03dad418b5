/-! calls of the reference that make places, boards at a depth, found boards -/
section
variable {zq : Nat} {ρ ρ1 : Nat → Nat} {c c1 : Cm} {h o g : Hp} {S : Nat → Nat → Nat → Bool} {E : Nat → Nat → Bool} {wb wl p : Nat → Bool} {x0 a b k w i F : Nat} {B Bq : Nat × Nat} {lo hi : Int} {x1 x2 x3 x4 x5 : Int32}
/-- a call that makes places -/
theorem rp_b {m : Option (Int32 × Hp)} {R : Hp → Prop} (hs : ∀ k w i, S k w i = true → cPm c k w i = true) (s11 : ∀ w, S 16 w 11 = false) (s12 : ∀ w, S 16 w 12 = false) (s13 : ∀ w, S 16 w 13 = false) (s52 : ∀ w, S 16 w 52 = false) (hG : cG S) (hD : cD S) (hP : cP S) (hF : cF S) (hE : cEn S) (T : TH ρ c h) (r0 : ρ x0 = 16) (P : RfI x0 h) (M : RmR x0 B h) (Z : ∀ Bq, BdY (sqN x0 h) Bq x0 h → Sat m (MkI ρ (cat c S h) lo hi (fun o => BdY (sqN x0 h) Bq x0 o ∧ R o))) {Q : Hp → Prop} (HQ : ∀ o, Fr ρ (cat c S h) h o → R o → Q o) : Sat m (RP ρ c x0 B Q) := by
  obtain ⟨na, ha⟩ := da_i T r0
  obtain ⟨nd, hd⟩ := dd_i T r0
  obtain ⟨ng, hg⟩ := dg_i T r0
  obtain ⟨nf, hf⟩ := df_i T r0
  have N := rm_i M ha hd hg hf
  obtain ⟨B2, G2⟩ := P.2.1
  have G : BdY (sqN x0 h) (B.1 - (5 * ng + 13 * nd + 5 * nf + d52 x0 h), B.2 - (162 * ng + 21170 * nd + 162 * nf + 1500000 * d52 x0 h)) x0 h := ⟨G2.1, G2.2.1, fun q eq => by
    obtain ⟨g', eg', qg⟩ := ha
    rw [r_eq eg' eq, qg]
    show _ ≤ B.1 - _ ∧ _ ≤ B.2 - _
    omega⟩
  refine rp_m hs T (Z _ G) (fun o ρ1 c1 X T1 f K => ?_)
  refine ⟨rfi_p T r0 f P s11 s12 s13 (Or.inr ⟨_, K.1⟩) (Or.inl hG) (Or.inl hD) (Or.inl hP) (Or.inl hF) (Or.inl hE) (nog_f T r0 f hG.1 (fun w i _ => hG.2.1 w i) P.2.2.2.2.2.2.2), ?_, HQ o f K.2⟩
  have hg' := dg_f T r0 f hG.1 hG.2.1 hg
  have hd' := dd_f T r0 f hD.1 hD.2.2.1 hd
  have hf' := df_f T r0 f hF.1.1 hF.1.2.1 hf
  have h5 := d52_f r0 f s52
  obtain ⟨na', ha'⟩ := da_i T1 (ex_r X r0 (by decide))
  refine rm_o ha' hd' hg' hf' ?_
  obtain ⟨g', eg', qg⟩ := ha'
  have k2 := K.1.2.2 g' eg'
  rw [qg] at k2
  have k3 : o.1.1 + 5 * na' ≤ B.1 - (5 * ng + 13 * nd + 5 * nf + d52 x0 h) ∧ o.1.2 + 162 * na' ≤ B.2 - (162 * ng + 21170 * nd + 162 * nf + 1500000 * d52 x0 h) := k2
  rw [h5]
  omega
theorem kp_f {k i : Nat} (h1 : k ≠ 84) (h2 : k ≠ 85) (h3 : k ≠ 16 ∨ i ≠ 16) : kpE k i = false := by
  unfold kpE mS
  show ((84 == k && (999 == 999 || 999 == i)) || ((85 == k && (999 == 999 || 999 == i)) || ((16 == k && (16 == 999 || 16 == i)) || false))) = false
  rw [bq_ne (fun z => h1 z.symm), bq_ne (fun z => h2 z.symm)]
  rcases h3 with z | z
  · rw [bq_ne (fun y => z y.symm)]; rfl
  · have : (16 == i) = false := bq_ne (fun y => z y.symm)
    rw [this]; simp
theorem kp_r {k i : Nat} (m : kpE k i = true) : rfR k = true ∧ ¬ (k = 16 ∧ (i = 0 ∨ i = 4 ∨ i = 5 ∨ i = 11 ∨ i = 12 ∨ i = 13)) := by
  obtain ⟨j, hj, zz⟩ := mS_ex (show mS [(84, 999), (85, 999), (16, 16)] k i = true from m)
  exact rf_p (List.all_eq_true.mp (show (([(84, 999), (85, 999), (16, 16)] : List (Nat × Nat)).all fun p => rfP p) = true from rfl) _ hj) zz
theorem cD_sy (n33 : E 16 33 = false) (n34 : E 16 34 = false) (n90 : ∀ i, E 90 i = false) (n91 : ∀ i, E 91 i = false) : cD (SY E wb wl) := ⟨fun _ => sy_f n33 rfl (Or.inl rfl) (Or.inl rfl), fun _ => sy_f n34 rfl (Or.inl rfl) (Or.inl rfl), fun _ i => sy_f (n90 i) rfl (Or.inl rfl) (Or.inl rfl), fun _ i => sy_f (n91 i) rfl (Or.inl rfl) (Or.inl rfl)⟩
theorem cP_sy (n65 : E 16 65 = false) (n68 : E 16 68 = false) : cP (SY E wb wl) := ⟨fun _ => sy_f n65 rfl (Or.inl rfl) (Or.inl rfl), fun _ => sy_f n68 rfl (Or.inl rfl) (Or.inl rfl)⟩
theorem mk_t {m : Option (Int32 × Hp)} {K : Hp → Prop} (Z : Sat m (MkI ρ c lo hi K)) : Sat m (MkI ρ c lo hi (fun o => K o ∧ True)) := s_imp Z (fun o ⟨ρ', c', X, T, r, k⟩ => ⟨ρ', c', X, T, r, k, trivial⟩)
theorem rw_go (hF : 700000 ≤ F) (hp : hpR c) (T : TH ρ c h) (r0 : ρ x0 = 16) (P : RfI x0 h) (M : RmR x0 B h) : Sat (sX15_go F h x0 x1 x2) (RP ρ c x0 B (TpR x0 h)) :=
  rp_b (S := SY kpE goB (is 2530)) (R := fun _ => True) (sy_r hp (fun k i => kp_r)) (fun _ => sy_f rfl rfl (Or.inl rfl) (Or.inl rfl)) (fun _ => sy_f rfl rfl (Or.inl rfl) (Or.inl rfl)) (fun _ => sy_f rfl rfl (Or.inl rfl) (Or.inl rfl)) (fun _ => sy_f rfl rfl (Or.inl rfl) (Or.inl rfl)) (cG_sy nice_kp (fun _ => rfl) (fun j => by unfold goB; simp; omega)) (cD_sy rfl rfl (fun _ => rfl) (fun _ => rfl)) (cP_sy rfl rfl) (cF_sy nice_kp (fun k i hk => kp_f (by omega) (by omega) (Or.inl (by omega))) (fun i hi => kp_f (by decide) (by decide) (Or.inr (by omega))) (fun j => by unfold goB; simp; omega)) (cEn_sy (fun i hi => kp_f (by decide) (by decide) (Or.inr (by omega))) (fun k i hk => kp_f (by omega) (by omega) (Or.inl (by omega)))) T r0 P M (fun Bq G => mk_t (go_w hF (sx_c _) (th_in _ T) r0 G P.1)) (fun o f _ => (fr_RI f r0 (by decide) (fun _ => sy_f rfl rfl (Or.inl rfl) (Or.inl rfl))).1)
theorem rw_beforeAt (hF : 700000 ≤ F) (hp : hpR c) (T : TH ρ c h) (r0 : ρ x0 = 16) (P : RfI x0 h) (M : RmR x0 B h) : Sat (sX15_beforeAt F h x0 x1) (RP ρ c x0 B (TpR x0 h)) := by
  obtain ⟨B6, p6⟩ := P.2.2.2.2.2.1
  have ob : ∀ w, w ≠ 3400 → ∀ k i, (k = 13 ∨ k = 62 ∨ k = 63 ∨ k = 64) → fS kpL [(3400, bpL)] k w i = false := fun w hw k i hk => fs_cf (Or.inr hw) (by rcases hk with z | z | z | z <;> subst z <;> rfl)
  refine rp_b (S := fS kpL [(3400, bpL)]) (R := fun o => ∃ B, FdPY (sqN x0 h) B x0 o) (fs_r hp rfl) (fun _ => rfl) (fun _ => rfl) (fun _ => rfl) (fun _ => rfl) ⟨fun _ => rfl, fun _ _ => rfl, fun j _ => ⟨fun i _ => ob _ (by omega) _ _ (by omega), fun i => ob _ (by omega) _ _ (by omega), fun i => ob _ (by omega) _ _ (by omega), fun i => ob _ (by omega) _ _ (by omega)⟩⟩ ⟨fun _ => rfl, fun _ => rfl, fun _ _ => rfl, fun _ _ => rfl⟩ ⟨fun _ => rfl, fun _ => rfl⟩ ⟨ks_kpY.1, ks_kpY.2.1, ks_kpY.2.2.1, ks_kpY.2.2.2.1⟩ ⟨fun _ => rfl, fun _ => rfl, fun _ => rfl, fun _ => rfl, fun _ => rfl, fun _ => rfl, fun _ => rfl, fun _ => rfl, fun _ => rfl, fun _ _ => rfl, fun _ _ => rfl, fun _ _ => rfl, fun _ _ => rfl, fun _ _ => rfl⟩ T r0 P M (fun Bq G => beforeAt_w hF fs_a (fs_o (.head _)) (th_in _ T) r0 G p6) (fun o f _ => (fr_RI f r0 (by decide) (fun _ => rfl)).1)
/-- now: places and games -/
theorem rw_now (hF : 700000 ≤ F) (hp : hpR c) (T : TH ρ c h) (r0 : ρ x0 = 16) (P : RfI x0 h) (M : RmR x0 B h) : Sat (sX15_now F h x0 x1) (RP ρ c x0 B (TpR x0 h)) := by
  obtain ⟨na, ha⟩ := da_i T r0
  obtain ⟨nd, hd⟩ := dd_i T r0
  obtain ⟨ng, hg⟩ := dg_i T r0
  obtain ⟨nf, hf⟩ := df_i T r0
  have N := rm_i M ha hd hg hf
  have K0 : BG (sqN x0 h) (B.1 - (13 * nd + 5 * nf + d52 x0 h), B.2 - (21170 * nd + 162 * nf + 1500000 * d52 x0 h)) x0 h := ⟨P.2.1, P.2.2.1, fun r q er eq => by
    obtain ⟨a', ea', qa⟩ := ha
    obtain ⟨g', eg', qg⟩ := hg
    rw [r_eq ea' er, r_eq eg' eq, qa, qg]
    show _ ≤ B.1 - _ ∧ _ ≤ B.2 - _
    omega⟩
  have nE : ∀ {k i : Nat}, kpE k i = false → k ≠ 92 → (fun k i => kpE k i || (k == 92 && decide (i ≤ 2407))) k i = false := fun {k i} z n => by show (kpE k i || (k == 92 && decide (i ≤ 2407))) = false; rw [z, bq_ne n]; rfl
  have sy : ∀ {k w i : Nat}, kpE k i = false → k ≠ 92 → mS saL k i = false → (mS bpL k i = false ∨ is 3400 w = false) → mS mpL k i = false → SY (fun k i => kpE k i || (k == 92 && decide (i ≤ 2407))) (is 3400) no k w i = false := fun z n a b c => sy_f (nE z n) a b (Or.inl c)
  have z16 : ∀ {i : Nat}, i ≠ 16 → mS saL 16 i = false → ∀ w, SY (fun k i => kpE k i || (k == 92 && decide (i ≤ 2407))) (is 3400) no 16 w i = false := fun {i} hi m w => sy (kp_f (by decide) (by decide) (Or.inr hi)) (by decide) m (Or.inl rfl) rfl
  have zk : ∀ {k : Nat}, (k ≠ 84 ∧ k ≠ 85 ∧ k ≠ 92 ∧ k ≠ 16) → (∀ i, mS saL k i = false) → (∀ i, mS bpL k i = false) → (∀ i, mS mpL k i = false) → ∀ w i, SY (fun k i => kpE k i || (k == 92 && decide (i ≤ 2407))) (is 3400) no k w i = false := fun {k} hk a1 a2 a3 w i => sy (kp_f hk.1 hk.2.1 (Or.inl hk.2.2.2)) hk.2.2.1 (a1 i) (Or.inl (a2 i)) (a3 i)
  have bo : ∀ w, w ≠ 3400 → bdO (SY (fun k i => kpE k i || (k == 92 && decide (i ≤ 2407))) (is 3400) no) w := fun w hw => ⟨fun i _ => sy (kp_f (by decide) (by decide) (Or.inl (by decide))) (by decide) rfl (Or.inr (is_f hw)) rfl, fun i => sy (kp_f (by decide) (by decide) (Or.inl (by decide))) (by decide) rfl (Or.inr (is_f hw)) rfl, fun i => sy (kp_f (by decide) (by decide) (Or.inl (by decide))) (by decide) rfl (Or.inr (is_f hw)) rfl, fun i => sy (kp_f (by decide) (by decide) (Or.inl (by decide))) (by decide) rfl (Or.inr (is_f hw)) rfl⟩
  refine rp_m (S := SY (fun k i => kpE k i || (k == 92 && decide (i ≤ 2407))) (is 3400) no) (sy_r hp (fun k i z => by
    rw [Bool.or_eq_true, Bool.and_eq_true, beq_iff_eq] at z
    rcases z with z | z
    · exact kp_r z
    · rw [z.1]; exact ⟨rfl, fun y => absurd y.1 (by decide)⟩)) T (now_w hF (sx_c _) (th_in _ T) r0 K0) (fun o ρ1 c1 X T1 f K => ?_)
  have cd : cD (SY (fun k i => kpE k i || (k == 92 && decide (i ≤ 2407))) (is 3400) no) := ⟨z16 (by decide) rfl, z16 (by decide) rfl, zk (by decide) (fun _ => rfl) (fun _ => rfl) (fun _ => rfl), zk (by decide) (fun _ => rfl) (fun _ => rfl) (fun _ => rfl)⟩
  have cf : cF (SY (fun k i => kpE k i || (k == 92 && decide (i ≤ 2407))) (is 3400) no) := ⟨⟨z16 (by decide) rfl, zk (by decide) (fun _ => rfl) (fun _ => rfl) (fun _ => rfl), fun j => by
    obtain ⟨a1, a2, a3, a4⟩ := bo (11000 + j) (by omega)
    exact ⟨fun i hi => a1 i (by omega), a2, a3, a4⟩⟩, ⟨z16 (by decide) rfl, zk (by decide) (fun _ => rfl) (fun _ => rfl) (fun _ => rfl)⟩, ⟨z16 (by decide) rfl, zk (by decide) (fun _ => rfl) (fun _ => rfl) (fun _ => rfl)⟩, z16 (by decide) rfl⟩
  have ce : cEn (SY (fun k i => kpE k i || (k == 92 && decide (i ≤ 2407))) (is 3400) no) := ⟨z16 (by decide) rfl, z16 (by decide) rfl, z16 (by decide) rfl, z16 (by decide) rfl, z16 (by decide) rfl, z16 (by decide) rfl, z16 (by decide) rfl, z16 (by decide) rfl, z16 (by decide) rfl, zk (by decide) (fun _ => rfl) (fun _ => rfl) (fun _ => rfl), zk (by decide) (fun _ => rfl) (fun _ => rfl) (fun _ => rfl), zk (by decide) (fun _ => rfl) (fun _ => rfl) (fun _ => rfl), zk (by decide) (fun _ => rfl) (fun _ => rfl) (fun _ => rfl), zk (by decide) (fun _ => rfl) (fun _ => rfl) (fun _ => rfl)⟩
  refine ⟨rfi_p T r0 f P (z16 (by decide) rfl) (z16 (by decide) rfl) (z16 (by decide) rfl) (Or.inr K.1) (Or.inr K.2.1) (Or.inl cd) (Or.inl ⟨z16 (by decide) rfl, z16 (by decide) rfl⟩) (Or.inl cf) (Or.inl ce) (nog_f T r0 f (z16 (by decide) rfl) (fun w i hi => sy_f (show (kpE 92 i || (92 == 92 && decide (i ≤ 2407))) = false by rw [decide_eq_false (show ¬ i ≤ 2407 by omega), kp_f (by decide) (by decide) (Or.inl (by decide))]; rfl) rfl (Or.inl rfl) (Or.inl rfl)) P.2.2.2.2.2.2.2), ?_, (fr_RI f r0 (by decide) (z16 (by decide) rfl)).1⟩
  have hd' := dd_f T r0 f cd.1 cd.2.2.1 hd
  have hf' := df_f T r0 f cf.1.1 cf.1.2.1 hf
  have h5 := d52_f r0 f (z16 (by decide) rfl)
  obtain ⟨na', ha'⟩ := da_i T1 (ex_r X r0 (by decide))
  obtain ⟨ng', hg'⟩ := dg_i T1 (ex_r X r0 (by decide))
  refine rm_o ha' hd' hg' hf' ?_
  obtain ⟨a', ea', qa⟩ := ha'
  obtain ⟨g', eg', qg⟩ := hg'
  have k2 := K.2.2 a' g' ea' eg'
  rw [qa, qg] at k2
  have k3 : o.1.1 + 5 * na' + 5 * ng' ≤ B.1 - (13 * nd + 5 * nf + d52 x0 h) ∧ o.1.2 + 162 * na' + 162 * ng' ≤ B.2 - (21170 * nd + 162 * nf + 1500000 * d52 x0 h) := k2
  rw [h5]
  omega
end
