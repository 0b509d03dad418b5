/-! rows, refutes, problem, before, and calls that make one thing or write the tape -/
section
variable {zq : Nat} {ρ ρ1 : Nat → Nat} {c c1 : Cm} {h o g : Hp} {S : Nat → Nat → Nat → Bool} {E : Nat → Nat → Bool} {wb wl p : Nat → Bool} {x0 a b k w i F : Nat} {B Bq : Nat × Nat} {lo hi : Int} {x1 x2 x3 x4 x5 : Int32}
/-- a call that makes boards at a depth -/
theorem rp_d {m : Option (Int32 × Hp)} {R Q : Hp → Prop} (hs : ∀ k w i, S k w i = true → cPm c k w i = true) (s11 : ∀ w, S 16 w 11 = false) (s12 : ∀ w, S 16 w 12 = false) (s13 : ∀ w, S 16 w 13 = false) (s52 : ∀ w, S 16 w 52 = false) (hB : cB S) (hG : cG S) (hF : cF S) (hE : cEn S) (T : TH ρ c h) (r0 : ρ x0 = 16) (P : RfI x0 h) (M : RmR x0 B h) (Z : ∀ Bq, DWY Bq x0 h → Sat m (MkI ρ (cat c S h) lo hi (fun o => DWY Bq x0 o ∧ R o))) (HP : ∀ o, Fr ρ (cat c S h) h o → R o → PbP x0 o) (HQ : ∀ o, Fr ρ (cat c S h) h o → R o → Q o) : Sat m (RP ρ c x0 B Q) := by
  obtain ⟨na, ha⟩ := da_i T r0
  obtain ⟨nd, hd⟩ := dd_i T r0
  obtain ⟨ng, hg⟩ := dg_i T r0
  obtain ⟨nf, hf⟩ := df_i T r0
  have N := rm_i M ha hd hg hf
  have G : DWY (B.1 - (5 * na + 5 * ng + 5 * nf + d52 x0 h), B.2 - (162 * na + 162 * ng + 162 * nf + 1500000 * d52 x0 h)) x0 h := ⟨P.1, P.2.2.2.1, fun q eq => by
    obtain ⟨g', eg', qg⟩ := hd
    rw [r_eq eg' eq, qg]
    show _ ≤ B.1 - _ ∧ _ ≤ B.2 - _
    omega⟩
  refine rp_m hs T (Z _ G) (fun o ρ1 c1 X T1 f K => ?_)
  refine ⟨rfi_p T r0 f P s11 s12 s13 (Or.inl hB) (Or.inl hG) (Or.inr K.1.2.1) (Or.inr (HP o f K.2)) (Or.inl hF) (Or.inl hE) (nog_f T r0 f hG.1 (fun w i _ => hG.2.1 w i) P.2.2.2.2.2.2.2), ?_, HQ o f K.2⟩
  have ha' := da_f T r0 f hB.1 hB.2.2.1 ha
  have hg' := dg_f T r0 f hG.1 hG.2.1 hg
  have hf' := df_f T r0 f hF.1.1 hF.1.2.1 hf
  have h5 := d52_f r0 f s52
  obtain ⟨nd', hd'⟩ := dd_i T1 (ex_r X r0 (by decide))
  refine rm_o ha' hd' hg' hf' ?_
  obtain ⟨g', eg', qg⟩ := hd'
  have k2 := K.1.2.2 g' eg'
  rw [qg] at k2
  have k3 : o.1.1 + 13 * nd' ≤ B.1 - (5 * na + 5 * ng + 5 * nf + d52 x0 h) ∧ o.1.2 + 21170 * nd' ≤ B.2 - (162 * na + 162 * ng + 162 * nf + 1500000 * d52 x0 h) := k2
  rw [h5]
  omega
theorem bdO_sx (hb : wb w = false) : bdO (SX p wb wl) w := ⟨fun i _ => sx_f (Or.inl rfl) rfl (Or.inr hb) (Or.inl rfl), fun i => sx_f (Or.inl rfl) rfl (Or.inr hb) (Or.inl rfl), fun i => sx_f (Or.inl rfl) rfl (Or.inr hb) (Or.inl rfl), fun i => sx_f (Or.inl rfl) rfl (Or.inr hb) (Or.inl rfl)⟩
theorem x16 {i : Nat} (m : mS saL 16 i = false) : ∀ w, SX p wb wl 16 w i = false := fun _ => sx_f (Or.inl rfl) m (Or.inl rfl) (Or.inl rfl)
theorem cB_sx (hb : wb 3400 = false) : cB (SX p wb wl) := ⟨x16 rfl, x16 rfl, fun _ _ => sx_f (Or.inl rfl) rfl (Or.inl rfl) (Or.inl rfl), fun _ _ => sx_f (Or.inl rfl) rfl (Or.inl rfl) (Or.inl rfl), bdO_sx hb⟩
theorem cG_sx (hb : ∀ j, wb (5000 + j) = false) : cG (SX p wb wl) := ⟨x16 rfl, fun _ _ => sx_f (Or.inl rfl) rfl (Or.inl rfl) (Or.inl rfl), fun j _ => bdO_sx (hb j)⟩
theorem cF_sx (hb : ∀ j, wb (11000 + j) = false) : cF (SX p wb wl) := ⟨⟨x16 rfl, fun _ _ => sx_f (Or.inl rfl) rfl (Or.inl rfl) (Or.inl rfl), fun j => by
  obtain ⟨a1, a2, a3, a4⟩ := bdO_sx (p := p) (wl := wl) (hb j)
  exact ⟨fun i hi => a1 i (by omega), a2, a3, a4⟩⟩, ⟨x16 rfl, fun _ _ => sx_f (Or.inl rfl) rfl (Or.inl rfl) (Or.inl rfl)⟩, ⟨x16 rfl, fun _ _ => sx_f (Or.inl rfl) rfl (Or.inl rfl) (Or.inl rfl)⟩, x16 rfl⟩
theorem cEn_sx : cEn (SX p wb wl) := ⟨x16 rfl, x16 rfl, x16 rfl, x16 rfl, x16 rfl, x16 rfl, x16 rfl, x16 rfl, x16 rfl, fun _ _ => sx_f (Or.inl rfl) rfl (Or.inl rfl) (Or.inl rfl), fun _ _ => sx_f (Or.inl rfl) rfl (Or.inl rfl) (Or.inl rfl), fun _ _ => sx_f (Or.inl rfl) rfl (Or.inl rfl) (Or.inl rfl), fun _ _ => sx_f (Or.inl rfl) rfl (Or.inl rfl) (Or.inl rfl), fun _ _ => sx_f (Or.inl rfl) rfl (Or.inl rfl) (Or.inl rfl)⟩
theorem sx_r (hp : hpR c) : ∀ k w i, SX p wb wl k w i = true → cPm c k w i = true := fun k w i m => by
  unfold SX at m
  rw [Bool.or_eq_true, Bool.or_eq_true, Bool.or_eq_true, Bool.and_eq_true, Bool.and_eq_true, Bool.and_eq_true] at m
  rcases m with (⟨a, _⟩ | a) | (⟨a, _⟩ | ⟨a, _⟩)
  · rw [Bool.or_eq_true, beq_iff_eq, beq_iff_eq] at a
    rcases a with a | a <;> rw [a] <;> exact hp _ w i rfl (fun z => absurd z.1 (by decide))
  · exact pA_r (A := saL) hp rfl w k i a
  · exact pA_r (A := bpL) hp rfl w k i a
  · exact pA_r (A := mpL) hp rfl w k i a
theorem sdb_g {w : Nat} (h1 : w ≠ 2528) (h2 : w < 3500 ∨ 3509 < w) : SDb 0 w = false := by
  unfold SDb
  rw [bq_ne h1]
  simp
  omega
theorem rw_rows (hF : 700000 ≤ F) (hp : hpR c) (T : TH ρ c h) (r0 : ρ x0 = 16) (P : RfI x0 h) (M : RmR x0 B h) : Sat (sX15_rows F h x0 x1 x2) (RP ρ c x0 B (TpR x0 h)) :=
  rp_d (S := SD 0) (R := fun _ => True) (sx_r hp) (x16 rfl) (x16 rfl) (x16 rfl) (x16 rfl) (cB_sx (sdb_g (by decide) (Or.inl (by decide)))) (cG_sx (fun j => sdb_g (by omega) (Or.inr (by omega)))) (cF_sx (fun j => sdb_g (by omega) (Or.inr (by omega)))) cEn_sx T r0 P M (fun Bq G => mk_t (zX15_rowsY hF (sx_c _) (th_in _ T) r0 (rf_b P) G)) (fun o f _ => pbp_f T r0 f ⟨x16 rfl, x16 rfl⟩ P.2.2.2.2.1) (fun o f _ => (fr_RI f r0 (by decide) (x16 rfl)).1)
theorem rw_refutes (hF : 700000 ≤ F) (hp : hpR c) (T : TH ρ c h) (r0 : ρ x0 = 16) (P : RfI x0 h) (M : RmR x0 B h) : Sat (sX15_refutes F h x0 x1) (RP ρ c x0 B (TpR x0 h)) :=
  rp_d (S := SD 0) (R := fun _ => True) (sx_r hp) (x16 rfl) (x16 rfl) (x16 rfl) (x16 rfl) (cB_sx (sdb_g (by decide) (Or.inl (by decide)))) (cG_sx (fun j => sdb_g (by omega) (Or.inr (by omega)))) (cF_sx (fun j => sdb_g (by omega) (Or.inr (by omega)))) cEn_sx T r0 P M (fun Bq G => mk_t (zX15_refutesY hF (sx_c _) (th_in _ T) r0 (rf_b P) G P.2.2.2.2.1)) (fun o f _ => pbp_f T r0 f ⟨x16 rfl, x16 rfl⟩ P.2.2.2.2.1) (fun o f _ => (fr_RI f r0 (by decide) (x16 rfl)).1)
abbrev pbL : List (Nat × Nat) := [(16, 64), (16, 65), (16, 66), (16, 67), (16, 68), (16, 70), (111, 999)]
def SPb (k w i : Nat) : Bool := SP k w i || mS pbL k i
theorem spb_f (a : SP k w i = false) (b : mS pbL k i = false) : SPb k w i = false := by unfold SPb; rw [a, b]; rfl
theorem rw_problem (hF : 700000 ≤ F) (hp : hpR c) (T : TH ρ c h) (r0 : ρ x0 = 16) (P : RfI x0 h) (M : RmR x0 B h) : Sat (sX15_problem F h x0 x1 x2 x3 x4) (RP ρ c x0 B (TpR x0 h)) := by
  have y16 : ∀ {i : Nat}, mS saL 16 i = false → mS pbL 16 i = false → ∀ w, SPb 16 w i = false := fun a b w => spb_f (x16 a w) b
  have yk : ∀ {k : Nat}, (∀ w i, SP k w i = false) → (∀ i, mS pbL k i = false) → ∀ w i, SPb k w i = false := fun a b w i => spb_f (a w i) (b i)
  have bo : ∀ {w : Nat}, SDb 0 w = false → bdO SPb w := fun {w} hw => by
    obtain ⟨a1, a2, a3, a4⟩ := bdO_sx (p := SDp 0) (wb := SDb 0) (wl := fun w => SDl 0 w || w == 2530) hw
    exact ⟨fun i hi => spb_f (a1 i hi) rfl, fun i => spb_f (a2 i) rfl, fun i => spb_f (a3 i) rfl, fun i => spb_f (a4 i) rfl⟩
  have b34 := bo (sdb_g (w := 3400) (by decide) (Or.inl (by decide)))
  have xk : ∀ {k : Nat}, (k == 90 || k == 91) = false → (∀ i, mS saL k i = false) → (∀ i, mS bpL k i = false) → (∀ i, mS mpL k i = false) → ∀ w i, SP k w i = false := fun a b c d w i => sx_f (Or.inl a) (b i) (Or.inl (c i)) (Or.inl (d i))
  have q : ∀ {k : Nat}, (k == 90 || k == 91) = false → (∀ i, mS saL k i = false) → (∀ i, mS bpL k i = false) → (∀ i, mS mpL k i = false) → (∀ i, mS pbL k i = false) → ∀ w i, SPb k w i = false := fun a b c d e => yk (xk a b c d) e
  refine rp_d (S := SPb) (R := PbP x0) (fun k w i m => ?_) (y16 rfl rfl) (y16 rfl rfl) (y16 rfl rfl) (y16 rfl rfl) ⟨y16 rfl rfl, y16 rfl rfl, q rfl (fun _ => rfl) (fun _ => rfl) (fun _ => rfl) (fun _ => rfl), q rfl (fun _ => rfl) (fun _ => rfl) (fun _ => rfl) (fun _ => rfl), b34⟩ ⟨y16 rfl rfl, q rfl (fun _ => rfl) (fun _ => rfl) (fun _ => rfl) (fun _ => rfl), fun j _ => bo (sdb_g (by omega) (Or.inr (by omega)))⟩ ⟨⟨y16 rfl rfl, q rfl (fun _ => rfl) (fun _ => rfl) (fun _ => rfl) (fun _ => rfl), fun j => ?_⟩, ⟨y16 rfl rfl, q rfl (fun _ => rfl) (fun _ => rfl) (fun _ => rfl) (fun _ => rfl)⟩, ⟨y16 rfl rfl, q rfl (fun _ => rfl) (fun _ => rfl) (fun _ => rfl) (fun _ => rfl)⟩, y16 rfl rfl⟩ ⟨y16 rfl rfl, y16 rfl rfl, y16 rfl rfl, y16 rfl rfl, y16 rfl rfl, y16 rfl rfl, y16 rfl rfl, y16 rfl rfl, y16 rfl rfl, q rfl (fun _ => rfl) (fun _ => rfl) (fun _ => rfl) (fun _ => rfl), q rfl (fun _ => rfl) (fun _ => rfl) (fun _ => rfl) (fun _ => rfl), q rfl (fun _ => rfl) (fun _ => rfl) (fun _ => rfl) (fun _ => rfl), q rfl (fun _ => rfl) (fun _ => rfl) (fun _ => rfl) (fun _ => rfl), q rfl (fun _ => rfl) (fun _ => rfl) (fun _ => rfl) (fun _ => rfl)⟩ T r0 P M (fun Bq G => zX15_problemY hF (fun k w i m => sx_c SPb k w i (by unfold SPb; rw [m]; rfl)) (fun w k i m => sx_c SPb k w i (by unfold SPb; rw [m, Bool.or_true])) (th_in _ T) r0 (rf_b P) G P.2.2.2.2.1) (fun o f k => k) (fun o f _ => (fr_RI f r0 (by decide) (y16 rfl rfl)).1)
  · unfold SPb at m
    rw [Bool.or_eq_true] at m
    rcases m with m | m
    · exact sx_r hp k w i m
    · exact pA_r (A := pbL) hp rfl w k i m
  · obtain ⟨a1, a2, a3, a4⟩ := bo (sdb_g (w := 11000 + j) (by omega) (Or.inr (by omega)))
    exact ⟨fun i hi => a1 i (by omega), a2, a3, a4⟩
theorem fs_tt {A : List (Nat × Nat)} {L : List (Nat × List (Nat × Nat))} {Bl : List (Nat × Nat)} (hm : (w, Bl) ∈ L) (m : mS Bl k i = true) : fS A L k w i = true := by
  unfold fS
  rw [Bool.or_eq_true, List.any_eq_true]
  exact Or.inr ⟨(w, Bl), hm, by rw [Bool.and_eq_true]; exact ⟨m, beq_self_eq_true _⟩⟩
/-- before: found boards -/
def gsS (k w i : Nat) : Bool := fS gsL [(2528, bpL), (2530, mpL), (2532, bpL), (2545, bpL)] k w i || (mS bpL k i && fdW w)
theorem gs_f (a : fS gsL [(2528, bpL), (2530, mpL), (2532, bpL), (2545, bpL)] k w i = false) (b : mS bpL k i = false ∨ fdW w = false) : gsS k w i = false := by
  unfold gsS
  rw [a]
  rcases b with b | b <;> rw [b] <;> simp
theorem rw_before (hF : 700000 ≤ F) (hp : hpR c) (T : TH ρ c h) (r0 : ρ x0 = 16) (P : RfI x0 h) (M : RmR x0 B h) : Sat (sX15_before F h x0 x1) (RP ρ c x0 B (TpR x0 h)) := by
  obtain ⟨na, ha⟩ := da_i T r0
  obtain ⟨nd, hd⟩ := dd_i T r0
  obtain ⟨ng, hg⟩ := dg_i T r0
  obtain ⟨nf, hf⟩ := df_i T r0
  have N := rm_i M ha hd hg hf
  obtain ⟨B6, p6⟩ := P.2.2.2.2.2.1
  have G : FdPY (sqN x0 h) (B.1 - (5 * na + 13 * nd + 5 * ng + d52 x0 h), B.2 - (162 * na + 21170 * nd + 162 * ng + 1500000 * d52 x0 h)) x0 h := ⟨p6.1, p6.2.1, ⟨p6.2.2.1.1, fun q eq => by
    obtain ⟨g', eg', qg⟩ := hf
    rw [r_eq eg' eq, qg]
    show _ ≤ B.1 - _ ∧ _ ≤ B.2 - _
    omega⟩, p6.2.2.2⟩
  have pm : GPm (cat c gsS h) := ⟨fun w k i m => sx_c gsS k w i (by unfold gsS fS; rw [m]; rfl), fun k i m => sx_c gsS k 2528 i (by unfold gsS; rw [fs_tt (.head _) m]; rfl), fun k i m => sx_c gsS k 2530 i (by unfold gsS; rw [fs_tt (.tail _ (.head _)) m]; rfl), fun k i m => sx_c gsS k 2532 i (by unfold gsS; rw [fs_tt (.tail _ (.tail _ (.head _))) m]; rfl), fun k i m => sx_c gsS k 2545 i (by unfold gsS; rw [fs_tt (.tail _ (.tail _ (.tail _ (.head _)))) m]; rfl), fun j hj k i m => sx_c gsS k (11000 + j) i (by unfold gsS; rw [m, fdW_t hj]; simp)⟩
  have z16 : ∀ {i : Nat}, (∀ w, fS gsL [(2528, bpL), (2530, mpL), (2532, bpL), (2545, bpL)] 16 w i = false) → ∀ w, gsS 16 w i = false := fun a w => gs_f (a w) (Or.inl rfl)
  have zk : ∀ {k : Nat}, (∀ w i, fS gsL [(2528, bpL), (2530, mpL), (2532, bpL), (2545, bpL)] k w i = false) → (∀ i, mS bpL k i = false) → ∀ w i, gsS k w i = false := fun a b w i => gs_f (a w i) (Or.inl (b i))
  have bo : ∀ {w : Nat}, w ≠ 2528 → w ≠ 2530 → w ≠ 2532 → w ≠ 2545 → fdW w = false → bdO gsS w := fun {w} n1 n2 n3 n4 hw => by
    have y : ∀ k i, mS gsL k i = false → fS gsL [(2528, bpL), (2530, mpL), (2532, bpL), (2545, bpL)] k w i = false := fun k i m => fs_cf (Or.inr n1) (fs_cf (Or.inr n2) (fs_cf (Or.inr n3) (fs_cf (Or.inr n4) (fs_nf m))))
    exact ⟨fun i _ => gs_f (y _ _ rfl) (Or.inr hw), fun i => gs_f (y _ _ rfl) (Or.inr hw), fun i => gs_f (y _ _ rfl) (Or.inr hw), fun i => gs_f (y _ _ rfl) (Or.inr hw)⟩
  refine rp_m (S := gsS) (fun k w i m => ?_) T (zX15_beforeY hF pm (th_in _ T) r0 (rf_b P) P.1 G) (fun o ρ1 c1 X T1 f K => ?_)
  · unfold gsS at m
    rw [Bool.or_eq_true, Bool.and_eq_true] at m
    rcases m with m | m
    · exact fs_r hp rfl k w i m
    · exact pA_r (A := bpL) hp rfl w k i m.1
  have cb : cB gsS := ⟨z16 (fun _ => rfl), z16 (fun _ => rfl), zk (fun _ _ => rfl) (fun _ => rfl), zk (fun _ _ => rfl) (fun _ => rfl), bo (by decide) (by decide) (by decide) (by decide) rfl⟩
  have cg : cG gsS := ⟨z16 (fun _ => rfl), zk (fun _ _ => rfl) (fun _ => rfl), fun j hj => bo (by omega) (by omega) (by omega) (by omega) (by unfold fdW; simp; omega)⟩
  have cd : cD gsS := ⟨z16 (fun _ => rfl), z16 (fun _ => rfl), zk (fun _ _ => rfl) (fun _ => rfl), zk (fun _ _ => rfl) (fun _ => rfl)⟩
  have ce : cEn gsS := ⟨z16 (fun _ => rfl), z16 (fun _ => rfl), z16 (fun _ => rfl), z16 (fun _ => rfl), z16 (fun _ => rfl), z16 (fun _ => rfl), z16 (fun _ => rfl), z16 (fun _ => rfl), z16 (fun _ => rfl), zk (fun _ _ => rfl) (fun _ => rfl), zk (fun _ _ => rfl) (fun _ => rfl), zk (fun _ _ => rfl) (fun _ => rfl), zk (fun _ _ => rfl) (fun _ => rfl), zk (fun _ _ => rfl) (fun _ => rfl)⟩
  refine ⟨rfi_p T r0 f P (z16 (fun _ => rfl)) (z16 (fun _ => rfl)) (z16 (fun _ => rfl)) (Or.inl cb) (Or.inl cg) (Or.inl cd) (Or.inl ⟨z16 (fun _ => rfl), z16 (fun _ => rfl)⟩) (Or.inr ⟨_, K.2⟩) (Or.inl ce) (nog_f T r0 f cg.1 (fun w i _ => cg.2.1 w i) P.2.2.2.2.2.2.2), ?_, (fr_RI f r0 (by decide) (z16 (fun _ => rfl))).1⟩
  have ha' := da_f T r0 f cb.1 cb.2.2.1 ha
  have hg' := dg_f T r0 f cg.1 cg.2.1 hg
  have hd' := dd_f T r0 f cd.1 cd.2.2.1 hd
  have h5 := d52_f r0 f (z16 (fun _ => rfl))
  obtain ⟨nf', hf'⟩ := df_i T1 (ex_r X r0 (by decide))
  refine rm_o ha' hd' hg' hf' ?_
  obtain ⟨g', eg', qg⟩ := hf'
  have k2 := K.2.2.2.1.2 g' eg'
  rw [qg] at k2
  have k3 : o.1.1 + 5 * nf' ≤ B.1 - (5 * na + 13 * nd + 5 * ng + d52 x0 h) ∧ o.1.2 + 162 * nf' ≤ B.2 - (162 * na + 21170 * nd + 162 * ng + 1500000 * d52 x0 h) := k2
  rw [h5]
  omega
end
