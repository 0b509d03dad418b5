section
/-! calls of the reference that make boards of games, places, boards at a depth -/
section
variable {zq : Nat} {ρ ρ1 : Nat → Nat} {c c1 : Cm} {h o g : Hp} {S : Nat → Nat → Nat → Bool} {E : Nat → Nat → Bool} {wb wl p : Nat → Bool} {x0 a b k w i F : Nat} {B Bq : Nat × Nat} {lo hi : Int} {A : List (Nat × Nat)} {L : List (Nat × List (Nat × Nat))} {x1 x2 x3 x4 x5 : Int32}
theorem cl_id2 {β : Type} (m : Option β) : cl m (fun o => some o) = m := by cases m <;> rfl
/-- a call that makes things -/
theorem rp_m {m : Option (Int32 × Hp)} {K Q : Hp → Prop} (hs : ∀ k w i, S k w i = true → cPm c k w i = true) (T : TH ρ c h) (Z : Sat m (MkI ρ (cat c S h) lo hi K)) (H : ∀ o ρ1 c1, Ext ρ c ρ1 c1 → TH ρ1 c1 o → Fr ρ (cat c S h) h o → K o → RfI x0 o ∧ RmR x0 B o ∧ Q o) : Sat m (RP ρ c x0 B Q) := by
  have y : Sat (cl m (fun o => some o)) (RP ρ c x0 B Q) := s_mI T hs Z (fun o ρ1 c1 X T1 f _ k => by
    obtain ⟨a1, a2, a3⟩ := H o.2 ρ1 c1 X T1 f k
    exact s_some ⟨ρ1, c1, X, T1, a1, a2, a3⟩)
  rw [cl_id2] at y
  exact y
/-- the rest of the invariant, by parts of the frame -/
theorem rfi_p (T : TH ρ c h) (r0 : ρ x0 = 16) (f : Fr ρ (cat c S h) h o) (P : RfI x0 h) (s11 : ∀ w, S 16 w 11 = false) (s12 : ∀ w, S 16 w 12 = false) (s13 : ∀ w, S 16 w 13 = false) (hB : cB S ∨ ∃ B, BdY (sqN x0 h) B x0 o) (hG : cG S ∨ ∃ B, GaY (sqN x0 h) B x0 o) (hD : cD S ∨ DpP x0 o) (hP : cP S ∨ PbP x0 o) (hF : cF S ∨ ∃ B, FdPY (sqN x0 h) B x0 o) (hE : cEn S ∨ EnR x0 o) (hN : NoG x0 o) : RfI x0 o := by
  obtain ⟨p1, ⟨B1, p2⟩, ⟨B2, p3⟩, p4, p5, ⟨B3, p6⟩, p7, p8⟩ := P
  have e : sqN x0 o = sqN x0 h := rfl
  refine ⟨sq_fr T r0 f s11 s12 s13 p1, ?_, ?_, ?_, ?_, ?_, ?_, hN⟩
  · rw [e]; rcases hB with q | q
    · exact bdy_ex T r0 f q p2
    · exact q
  · rw [e]; rcases hG with q | q
    · exact gay_ex T r0 f q p8 p3
    · exact q
  · rcases hD with q | q
    · exact dpp_f T r0 f q p4
    · exact q
  · rcases hP with q | q
    · exact pbp_f T r0 f q p5
    · exact q
  · rw [e]; rcases hF with q | q
    · exact fdy_ex T r0 f q.1 q.2.1 q.2.2.1 q.2.2.2 p6
    · exact q
  · rcases hE with q | q
    · exact enr_f T r0 f q p7
    · exact q
/-- dues, as numbers -/
def dA (x0 : Nat) (h : Hp) (n : Nat) : Prop := ∃ a, hR h x0 14 = some a ∧ nuC h a 60 = n
def dD (x0 : Nat) (h : Hp) (n : Nat) : Prop := ∃ a, hR h x0 33 = some a ∧ nuC h a 10 = n
def dG (x0 : Nat) (h : Hp) (n : Nat) : Prop := ∃ a, hR h x0 37 = some a ∧ nuC h a 2408 = n
def dF (x0 : Nat) (h : Hp) (n : Nat) : Prop := ∃ a, hR h x0 40 = some a ∧ nuC h a 3000 = n
def d52 (x0 : Nat) (h : Hp) : Nat := if (hR h x0 52).isNone then 1 else 0
theorem rm_i {na nd ng nf : Nat} (M : RmR x0 B h) (ha : dA x0 h na) (hd : dD x0 h nd) (hg : dG x0 h ng) (hf : dF x0 h nf) : h.1.1 + 5 * na + 13 * nd + 5 * ng + 5 * nf + d52 x0 h ≤ B.1 ∧ h.1.2 + 162 * na + 21170 * nd + 162 * ng + 162 * nf + 1500000 * d52 x0 h ≤ B.2 := by
  obtain ⟨a, ea, qa⟩ := ha
  obtain ⟨d, ed, qd⟩ := hd
  obtain ⟨g, eg, qg⟩ := hg
  obtain ⟨f, ef, qf⟩ := hf
  have := M a d g f ea ed eg ef
  rw [qa, qd, qg, qf] at this
  unfold d52
  split at this <;> rename_i z <;> simp only [z] <;> simp <;> omega
theorem rm_o {na nd ng nf : Nat} (ha : dA x0 h na) (hd : dD x0 h nd) (hg : dG x0 h ng) (hf : dF x0 h nf) (q : h.1.1 + 5 * na + 13 * nd + 5 * ng + 5 * nf + d52 x0 h ≤ B.1 ∧ h.1.2 + 162 * na + 21170 * nd + 162 * ng + 162 * nf + 1500000 * d52 x0 h ≤ B.2) : RmR x0 B h := fun a d g f ea ed eg ef => by
  obtain ⟨a', ea', qa⟩ := ha
  obtain ⟨d', ed', qd⟩ := hd
  obtain ⟨g', eg', qg⟩ := hg
  obtain ⟨f', ef', qf⟩ := hf
  rw [r_eq ea' ea, r_eq ed' ed, r_eq eg' eg, r_eq ef' ef, qa, qd, qg, qf]
  unfold d52 at q
  split <;> rename_i z <;> simp only [z] at q <;> simp at q <;> omega
theorem da_i (T : TH ρ c h) (r0 : ρ x0 = 16) : ∃ n, dA x0 h n := by
  obtain ⟨a, ea, qa⟩ := thR T r0 (i := 14) (k2 := 84) rfl (by decide)
  exact ⟨_, a, ea, rfl⟩
theorem dd_i (T : TH ρ c h) (r0 : ρ x0 = 16) : ∃ n, dD x0 h n := by
  obtain ⟨a, ea, qa⟩ := thR T r0 (i := 33) (k2 := 90) rfl (by decide)
  exact ⟨_, a, ea, rfl⟩
theorem dg_i (T : TH ρ c h) (r0 : ρ x0 = 16) : ∃ n, dG x0 h n := by
  obtain ⟨a, ea, qa⟩ := thR T r0 (i := 37) (k2 := 92) rfl (by decide)
  exact ⟨_, a, ea, rfl⟩
theorem df_i (T : TH ρ c h) (r0 : ρ x0 = 16) : ∃ n, dF x0 h n := by
  obtain ⟨a, ea, qa⟩ := thR T r0 (i := 40) (k2 := 95) rfl (by decide)
  exact ⟨_, a, ea, rfl⟩
theorem da_f {n : Nat} (T : TH ρ c h) (r0 : ρ x0 = 16) (f : Fr ρ (cat c S h) h o) (s : ∀ w, S 16 w 14 = false) (t : ∀ w i, S 84 w i = false) (d : dA x0 h n) : dA x0 o n := by
  obtain ⟨a, ea, qa⟩ := d
  have q := rr T (thR T r0 (i := 14) (k2 := 84) rfl (by decide)) ea
  exact ⟨a, by rw [(fr_RI f r0 (by decide) s).2.2]; exact ea, by rw [nuC_eq 60 (fun i _ => (fr_RI f q (by decide) (fun w => t w i)).2.2)]; exact qa⟩
theorem dd_f {n : Nat} (T : TH ρ c h) (r0 : ρ x0 = 16) (f : Fr ρ (cat c S h) h o) (s : ∀ w, S 16 w 33 = false) (t : ∀ w i, S 90 w i = false) (d : dD x0 h n) : dD x0 o n := by
  obtain ⟨a, ea, qa⟩ := d
  have q := rr T (thR T r0 (i := 33) (k2 := 90) rfl (by decide)) ea
  exact ⟨a, by rw [(fr_RI f r0 (by decide) s).2.2]; exact ea, by rw [nuC_eq 10 (fun i _ => (fr_RI f q (by decide) (fun w => t w i)).2.2)]; exact qa⟩
theorem dg_f {n : Nat} (T : TH ρ c h) (r0 : ρ x0 = 16) (f : Fr ρ (cat c S h) h o) (s : ∀ w, S 16 w 37 = false) (t : ∀ w i, S 92 w i = false) (d : dG x0 h n) : dG x0 o n := by
  obtain ⟨a, ea, qa⟩ := d
  have q := rr T (thR T r0 (i := 37) (k2 := 92) rfl (by decide)) ea
  exact ⟨a, by rw [(fr_RI f r0 (by decide) s).2.2]; exact ea, by rw [nuC_eq 2408 (fun i _ => (fr_RI f q (by decide) (fun w => t w i)).2.2)]; exact qa⟩
theorem df_f {n : Nat} (T : TH ρ c h) (r0 : ρ x0 = 16) (f : Fr ρ (cat c S h) h o) (s : ∀ w, S 16 w 40 = false) (t : ∀ w i, S 95 w i = false) (d : dF x0 h n) : dF x0 o n := by
  obtain ⟨a, ea, qa⟩ := d
  have q := rr T (thR T r0 (i := 40) (k2 := 95) rfl (by decide)) ea
  exact ⟨a, by rw [(fr_RI f r0 (by decide) s).2.2]; exact ea, by rw [nuC_eq 3000 (fun i _ => (fr_RI f q (by decide) (fun w => t w i)).2.2)]; exact qa⟩
theorem d52_f (r0 : ρ x0 = 16) (f : Fr ρ (cat c S h) h o) (s : ∀ w, S 16 w 52 = false) : d52 x0 o = d52 x0 h := by unfold d52; rw [(fr_RI f r0 (by decide) s).2.2]
-- frames of games
theorem cB_sy (n : nice E) (n84 : ∀ i, E 84 i = false) (n85 : ∀ i, E 85 i = false) (n15 : E 16 15 = false) (hb : wb 3400 = false) : cB (SY E wb wl) := by
  have z : ∀ k i, (k = 13 ∨ k = 14 ∨ (62 ≤ k ∧ k ≤ 72) ∨ k = 15) → mS saL k i = false → mS mpL k i = false → SY E wb wl k 3400 i = false := fun k i a0 a1 a2 => sy_f (n.1 k i a0) a1 (Or.inr hb) (Or.inl a2)
  exact ⟨fun _ => sy_f n.2.2.2.2.2 rfl (Or.inl rfl) (Or.inl rfl), fun _ => sy_f n15 rfl (Or.inl rfl) (Or.inl rfl), fun _ i => sy_f (n84 i) rfl (Or.inl rfl) (Or.inl rfl), fun _ i => sy_f (n85 i) rfl (Or.inl rfl) (Or.inl rfl), fun i _ => z _ _ (by omega) rfl rfl, fun i => z _ _ (by omega) rfl rfl, fun i => z _ _ (by omega) rfl rfl, fun i => z _ _ (by omega) rfl rfl⟩
theorem cG_sy (n : nice E) (n92 : ∀ i, E 92 i = false) (hb : ∀ j, wb (5000 + j) = false) : cG (SY E wb wl) := by
  have z : ∀ j k i, (k = 13 ∨ k = 14 ∨ (62 ≤ k ∧ k ≤ 72) ∨ k = 15) → mS saL k i = false → mS mpL k i = false → SY E wb wl k (5000 + j) i = false := fun j k i a0 a1 a2 => sy_f (n.1 k i a0) a1 (Or.inr (hb j)) (Or.inl a2)
  exact ⟨fun _ => sy_f n.2.2.2.2.1 rfl (Or.inl rfl) (Or.inl rfl), fun _ i => sy_f (n92 i) rfl (Or.inl rfl) (Or.inl rfl), fun j _ => ⟨fun i _ => z _ _ _ (by omega) rfl rfl, fun i => z _ _ _ (by omega) rfl rfl, fun i => z _ _ _ (by omega) rfl rfl, fun i => z _ _ _ (by omega) rfl rfl⟩⟩
theorem cF_sy (n : nice E) (n95 : ∀ k i, k = 95 ∨ k = 96 ∨ k = 97 → E k i = false) (nx : ∀ i, i = 40 ∨ i = 41 ∨ i = 42 ∨ i = 44 → E 16 i = false) (hb : ∀ j, wb (11000 + j) = false) : cF (SY E wb wl) := by
  have z : ∀ j k i, (k = 13 ∨ k = 14 ∨ (62 ≤ k ∧ k ≤ 72) ∨ k = 15) → mS saL k i = false → mS mpL k i = false → SY E wb wl k (11000 + j) i = false := fun j k i a0 a1 a2 => sy_f (n.1 k i a0) a1 (Or.inr (hb j)) (Or.inl a2)
  exact ⟨⟨fun _ => sy_f (nx _ (by omega)) rfl (Or.inl rfl) (Or.inl rfl), fun _ i => sy_f (n95 _ i (by omega)) rfl (Or.inl rfl) (Or.inl rfl), fun j => ⟨fun i _ => z _ _ _ (by omega) rfl rfl, fun i => z _ _ _ (by omega) rfl rfl, fun i => z _ _ _ (by omega) rfl rfl, fun i => z _ _ _ (by omega) rfl rfl⟩⟩, ⟨fun _ => sy_f (nx _ (by omega)) rfl (Or.inl rfl) (Or.inl rfl), fun _ i => sy_f (n95 _ i (by omega)) rfl (Or.inl rfl) (Or.inl rfl)⟩, ⟨fun _ => sy_f (nx _ (by omega)) rfl (Or.inl rfl) (Or.inl rfl), fun _ i => sy_f (n95 _ i (by omega)) rfl (Or.inl rfl) (Or.inl rfl)⟩, fun _ => sy_f (nx _ (by omega)) rfl (Or.inl rfl) (Or.inl rfl)⟩
theorem cEn_sy (nx : ∀ i, i = 13 ∨ i = 46 ∨ i = 47 ∨ i = 48 ∨ i = 49 ∨ i = 50 ∨ i = 55 ∨ i = 56 ∨ i = 59 → E 16 i = false) (n99 : ∀ k i, k = 99 ∨ k = 100 ∨ k = 101 ∨ k = 106 ∨ k = 107 → E k i = false) : cEn (SY E wb wl) := ⟨fun _ => sy_f (nx _ (by omega)) rfl (Or.inl rfl) (Or.inl rfl), fun _ => sy_f (nx _ (by omega)) rfl (Or.inl rfl) (Or.inl rfl), fun _ => sy_f (nx _ (by omega)) rfl (Or.inl rfl) (Or.inl rfl), fun _ => sy_f (nx _ (by omega)) rfl (Or.inl rfl) (Or.inl rfl), fun _ => sy_f (nx _ (by omega)) rfl (Or.inl rfl) (Or.inl rfl), fun _ => sy_f (nx _ (by omega)) rfl (Or.inl rfl) (Or.inl rfl), fun _ => sy_f (nx _ (by omega)) rfl (Or.inl rfl) (Or.inl rfl), fun _ => sy_f (nx _ (by omega)) rfl (Or.inl rfl) (Or.inl rfl), fun _ => sy_f (nx _ (by omega)) rfl (Or.inl rfl) (Or.inl rfl), fun _ i => sy_f (n99 _ i (by omega)) rfl (Or.inl rfl) (Or.inl rfl), fun _ i => sy_f (n99 _ i (by omega)) rfl (Or.inl rfl) (Or.inl rfl), fun _ i => sy_f (n99 _ i (by omega)) rfl (Or.inl rfl) (Or.inl rfl), fun _ i => sy_f (n99 _ i (by omega)) rfl (Or.inl rfl) (Or.inl rfl), fun _ i => sy_f (n99 _ i (by omega)) rfl (Or.inl rfl) (Or.inl rfl)⟩
theorem nice_gm : nice gmE2 := by
  refine ⟨fun k i hk => ?_, rfl, rfl, rfl, rfl, rfl⟩
  unfold gmE2
  rw [bq_ne (show k ≠ 92 by omega), bq_ne (show k ≠ 93 by omega), bq_ne (show k ≠ 94 by omega)]; rfl
theorem gm_f {k i : Nat} (hk : k ≠ 92 ∧ k ≠ 93 ∧ k ≠ 94) : gmE2 k i = false := by
  unfold gmE2
  rw [bq_ne hk.1, bq_ne hk.2.1, bq_ne hk.2.2]; rfl
theorem gm_n {i : Nat} (h : 2408 ≤ i) : gmE2 92 i = false := by
  unfold gmE2
  rw [decide_eq_false (show ¬ i ≤ 2407 by omega)]; rfl
theorem sy_r (hp : hpR c) (hE : ∀ k i, E k i = true → rfR k = true) : ∀ k w i, SY E wb wl k w i = true → cPm c k w i = true := fun k w i m => by
  unfold SY at m
  rw [Bool.or_eq_true, Bool.or_eq_true, Bool.or_eq_true, Bool.and_eq_true, Bool.and_eq_true] at m
  rcases m with (a | a) | (⟨a, _⟩ | ⟨a, _⟩)
  · exact hp k w i (hE k i a)
  · exact pA_r (A := saL) hp rfl w k i a
  · exact pA_r (A := bpL) hp rfl w k i a
  · exact pA_r (A := mpL) hp rfl w k i a
theorem gm_r {k i : Nat} (m : gmE2 k i = true) : rfR k = true := by
  unfold gmE2 at m
  rw [Bool.or_eq_true, Bool.or_eq_true, Bool.and_eq_true, beq_iff_eq, beq_iff_eq, beq_iff_eq] at m
  rcases m with (m | m) | m
  · rw [m.1]; rfl
  · rw [m]; rfl
  · rw [m]; rfl
/-- a call that makes boards of games -/
theorem rp_g {m : Option (Int32 × Hp)} (hp : hpR c) (h34 : wb 3400 = false) (h11 : ∀ j, wb (11000 + j) = false) (T : TH ρ c h) (r0 : ρ x0 = 16) (P : RfI x0 h) (M : RmR x0 B h) (Z : ∀ Bq, GaY (sqN x0 h) Bq x0 h → Sat m (MkI ρ (cat c (SY gmE2 wb wl) h) lo hi (GaY (sqN x0 h) Bq x0))) : Sat m (RP ρ c x0 B (TpR x0 h)) := by
  obtain ⟨na, ha⟩ := da_i T r0
  obtain ⟨nd, hd⟩ := dd_i T r0
  obtain ⟨ng, hg⟩ := dg_i T r0
  obtain ⟨nf, hf⟩ := df_i T r0
  have N := rm_i M ha hd hg hf
  obtain ⟨B2, G2⟩ := P.2.2.1
  have G : GaY (sqN x0 h) (B.1 - (5 * na + 13 * nd + 5 * nf + d52 x0 h), B.2 - (162 * na + 21170 * nd + 162 * nf + 1500000 * d52 x0 h)) x0 h := ⟨G2.1, fun q eq => by
    obtain ⟨g', eg', qg⟩ := hg
    rw [r_eq eg' eq, qg]
    show _ ≤ B.1 - _ ∧ _ ≤ B.2 - _
    omega⟩
  refine rp_m (sy_r hp (fun k i => gm_r)) T (Z _ G) (fun o ρ1 c1 X T1 f K => ?_)
  have z16 : ∀ {i : Nat}, mS saL 16 i = false → ∀ w, SY gmE2 wb wl 16 w i = false := fun {i} hi w => sy_f (gm_f (by decide)) hi (Or.inl rfl) (Or.inl rfl)
  have zk : ∀ {k : Nat}, (k ≠ 92 ∧ k ≠ 93 ∧ k ≠ 94) → (∀ i, mS saL k i = false) → (∀ i, mS bpL k i = false) → (∀ i, mS mpL k i = false) → ∀ w i, SY gmE2 wb wl k w i = false := fun {k} hk a1 a2 a3 w i => sy_f (gm_f hk) (a1 i) (Or.inl (a2 i)) (Or.inl (a3 i))
  refine ⟨rfi_p T r0 f P (z16 rfl) (z16 rfl) (z16 rfl) (Or.inl (cB_sy nice_gm (fun _ => rfl) (fun _ => rfl) rfl h34)) (Or.inr ⟨_, K⟩) (Or.inl ⟨z16 rfl, z16 rfl, zk (by decide) (fun _ => rfl) (fun _ => rfl) (fun _ => rfl), zk (by decide) (fun _ => rfl) (fun _ => rfl) (fun _ => rfl)⟩) (Or.inl ⟨z16 rfl, z16 rfl⟩) (Or.inl (cF_sy nice_gm (fun k i hk => gm_f (by omega)) (fun i hi => gm_f (by decide)) h11)) (Or.inl (cEn_sy (fun i hi => gm_f (by decide)) (fun k i hk => gm_f (by omega)))) (nog_f T r0 f (z16 rfl) (fun w i hi => sy_f (gm_n hi) rfl (Or.inl rfl) (Or.inl rfl)) P.2.2.2.2.2.2.2), ?_, (fr_RI f r0 (by decide) (z16 rfl)).1⟩
  have ha' := da_f T r0 f (z16 rfl) (zk (by decide) (fun _ => rfl) (fun _ => rfl) (fun _ => rfl)) ha
  have hd' := dd_f T r0 f (z16 rfl) (zk (by decide) (fun _ => rfl) (fun _ => rfl) (fun _ => rfl)) hd
  have hf' := df_f T r0 f (z16 rfl) (zk (by decide) (fun _ => rfl) (fun _ => rfl) (fun _ => rfl)) hf
  have h5 := d52_f r0 f (z16 rfl)
  obtain ⟨ng', hg'⟩ := dg_i T1 (ex_r X r0 (by decide))
  refine rm_o ha' hd' hg' hf' ?_
  obtain ⟨g', eg', qg⟩ := hg'
  have k2 := K.2 g' eg'
  rw [qg] at k2
  have k3 : o.1.1 + 5 * ng' ≤ B.1 - (5 * na + 13 * nd + 5 * nf + d52 x0 h) ∧ o.1.2 + 162 * ng' ≤ B.2 - (162 * na + 21170 * nd + 162 * nf + 1500000 * d52 x0 h) := k2
  rw [h5]
  omega
theorem rw_start (hF : 700000 ≤ F) (hp : hpR c) (T : TH ρ c h) (r0 : ρ x0 = 16) (P : RfI x0 h) (M : RmR x0 B h) : Sat (sX15_start h x0 x1 x2) (RP ρ c x0 B (TpR x0 h)) := by
  obtain ⟨B1, b1⟩ := P.2.1
  exact rp_g (wb := fun w => decide (5000 ≤ w) && decide (w ≤ 7407)) (wl := no) hp rfl (fun j => by simp; omega) T r0 P M (fun Bq G => start_w hF (sx_c _) (th_in _ T) r0 b1 G)
theorem rw_add (hF : 700000 ≤ F) (hp : hpR c) (T : TH ρ c h) (r0 : ρ x0 = 16) (P : RfI x0 h) (M : RmR x0 B h) : Sat (sX15_add F h x0 x1 x2) (RP ρ c x0 B (TpR x0 h)) :=
  rp_g (wb := gmB) (wl := is 2530) hp rfl (fun j => by unfold gmB; simp; omega) T r0 P M (fun Bq G => add_w hF (sx_c _) (th_in _ T) r0 P.1 G)
theorem rw_game (hF : 700000 ≤ F) (hp : hpR c) (T : TH ρ c h) (r0 : ρ x0 = 16) (P : RfI x0 h) (M : RmR x0 B h) : Sat (sX15_game F h x0 x1 x2) (RP ρ c x0 B (TpR x0 h)) :=
  rp_g (wb := is 2528) (wl := g2) hp rfl (fun j => is_f (by omega)) T r0 P M (fun Bq G => game_w hF (sx_c _) (th_in _ T) r0 P.1 G)
theorem rw_book (hF : 700000 ≤ F) (hp : hpR c) (T : TH ρ c h) (r0 : ρ x0 = 16) (P : RfI x0 h) (M : RmR x0 B h) : Sat (sX15_book F h x0 x1 x2) (RP ρ c x0 B (TpR x0 h)) :=
  rp_g (wb := is 2528) (wl := g2) hp rfl (fun j => is_f (by omega)) T r0 P M (fun Bq G => book_w hF (sx_c _) (th_in _ T) r0 (rf_b P) P.1 G)
end
end
section
/-! calls of the reference that make places, boards at a depth, found boards -/
section
variable {zq : Nat} {ρ ρ1 : Nat → Nat} {c c1 : Cm} {h o g : Hp} {S : Nat → Nat → Nat → Bool} {E : Nat → Nat → Bool} {wb wl p : Nat → Bool} {x0 a b k w i F : Nat} {B Bq : Nat × Nat} {lo hi : Int} {x1 x2 x3 x4 x5 : Int32}
/-- a call that makes places -/
theorem rp_b {m : Option (Int32 × Hp)} {R : Hp → Prop} (hs : ∀ k w i, S k w i = true → cPm c k w i = true) (s11 : ∀ w, S 16 w 11 = false) (s12 : ∀ w, S 16 w 12 = false) (s13 : ∀ w, S 16 w 13 = false) (s52 : ∀ w, S 16 w 52 = false) (hG : cG S) (hD : cD S) (hP : cP S) (hF : cF S) (hE : cEn S) (T : TH ρ c h) (r0 : ρ x0 = 16) (P : RfI x0 h) (M : RmR x0 B h) (Z : ∀ Bq, BdY (sqN x0 h) Bq x0 h → Sat m (MkI ρ (cat c S h) lo hi (fun o => BdY (sqN x0 h) Bq x0 o ∧ R o))) {Q : Hp → Prop} (HQ : ∀ o, Fr ρ (cat c S h) h o → R o → Q o) : Sat m (RP ρ c x0 B Q) := by
  obtain ⟨na, ha⟩ := da_i T r0
  obtain ⟨nd, hd⟩ := dd_i T r0
  obtain ⟨ng, hg⟩ := dg_i T r0
  obtain ⟨nf, hf⟩ := df_i T r0
  have N := rm_i M ha hd hg hf
  obtain ⟨B2, G2⟩ := P.2.1
  have G : BdY (sqN x0 h) (B.1 - (5 * ng + 13 * nd + 5 * nf + d52 x0 h), B.2 - (162 * ng + 21170 * nd + 162 * nf + 1500000 * d52 x0 h)) x0 h := ⟨G2.1, G2.2.1, fun q eq => by
    obtain ⟨g', eg', qg⟩ := ha
    rw [r_eq eg' eq, qg]
    show _ ≤ B.1 - _ ∧ _ ≤ B.2 - _
    omega⟩
  refine rp_m hs T (Z _ G) (fun o ρ1 c1 X T1 f K => ?_)
  refine ⟨rfi_p T r0 f P s11 s12 s13 (Or.inr ⟨_, K.1⟩) (Or.inl hG) (Or.inl hD) (Or.inl hP) (Or.inl hF) (Or.inl hE) (nog_f T r0 f hG.1 (fun w i _ => hG.2.1 w i) P.2.2.2.2.2.2.2), ?_, HQ o f K.2⟩
  have hg' := dg_f T r0 f hG.1 hG.2.1 hg
  have hd' := dd_f T r0 f hD.1 hD.2.2.1 hd
  have hf' := df_f T r0 f hF.1.1 hF.1.2.1 hf
  have h5 := d52_f r0 f s52
  obtain ⟨na', ha'⟩ := da_i T1 (ex_r X r0 (by decide))
  refine rm_o ha' hd' hg' hf' ?_
  obtain ⟨g', eg', qg⟩ := ha'
  have k2 := K.1.2.2 g' eg'
  rw [qg] at k2
  have k3 : o.1.1 + 5 * na' ≤ B.1 - (5 * ng + 13 * nd + 5 * nf + d52 x0 h) ∧ o.1.2 + 162 * na' ≤ B.2 - (162 * ng + 21170 * nd + 162 * nf + 1500000 * d52 x0 h) := k2
  rw [h5]
  omega
theorem kp_f {k i : Nat} (h1 : k ≠ 84) (h2 : k ≠ 85) (h3 : k ≠ 16 ∨ i ≠ 16) : kpE k i = false := by
  unfold kpE mS
  show ((84 == k && (999 == 999 || 999 == i)) || ((85 == k && (999 == 999 || 999 == i)) || ((16 == k && (16 == 999 || 16 == i)) || false))) = false
  rw [bq_ne (fun z => h1 z.symm), bq_ne (fun z => h2 z.symm)]
  rcases h3 with z | z
  · rw [bq_ne (fun y => z y.symm)]; rfl
  · have : (16 == i) = false := bq_ne (fun y => z y.symm)
    rw [this]; simp
theorem kp_r {k i : Nat} (m : kpE k i = true) : rfR k = true := by
  obtain ⟨j, hj, _⟩ := mS_ex (show mS [(84, 999), (85, 999), (16, 16)] k i = true from m)
  simp at hj
  rcases hj with z | z | z <;> rw [z.1] <;> rfl
theorem cD_sy (n33 : E 16 33 = false) (n34 : E 16 34 = false) (n90 : ∀ i, E 90 i = false) (n91 : ∀ i, E 91 i = false) : cD (SY E wb wl) := ⟨fun _ => sy_f n33 rfl (Or.inl rfl) (Or.inl rfl), fun _ => sy_f n34 rfl (Or.inl rfl) (Or.inl rfl), fun _ i => sy_f (n90 i) rfl (Or.inl rfl) (Or.inl rfl), fun _ i => sy_f (n91 i) rfl (Or.inl rfl) (Or.inl rfl)⟩
theorem cP_sy (n65 : E 16 65 = false) (n68 : E 16 68 = false) : cP (SY E wb wl) := ⟨fun _ => sy_f n65 rfl (Or.inl rfl) (Or.inl rfl), fun _ => sy_f n68 rfl (Or.inl rfl) (Or.inl rfl)⟩
theorem mk_t {m : Option (Int32 × Hp)} {K : Hp → Prop} (Z : Sat m (MkI ρ c lo hi K)) : Sat m (MkI ρ c lo hi (fun o => K o ∧ True)) := s_imp Z (fun o ⟨ρ', c', X, T, r, k⟩ => ⟨ρ', c', X, T, r, k, trivial⟩)
theorem rw_go (hF : 700000 ≤ F) (hp : hpR c) (T : TH ρ c h) (r0 : ρ x0 = 16) (P : RfI x0 h) (M : RmR x0 B h) : Sat (sX15_go F h x0 x1 x2) (RP ρ c x0 B (TpR x0 h)) :=
  rp_b (S := SY kpE goB (is 2530)) (R := fun _ => True) (sy_r hp (fun k i => kp_r)) (fun _ => sy_f rfl rfl (Or.inl rfl) (Or.inl rfl)) (fun _ => sy_f rfl rfl (Or.inl rfl) (Or.inl rfl)) (fun _ => sy_f rfl rfl (Or.inl rfl) (Or.inl rfl)) (fun _ => sy_f rfl rfl (Or.inl rfl) (Or.inl rfl)) (cG_sy nice_kp (fun _ => rfl) (fun j => by unfold goB; simp; omega)) (cD_sy rfl rfl (fun _ => rfl) (fun _ => rfl)) (cP_sy rfl rfl) (cF_sy nice_kp (fun k i hk => kp_f (by omega) (by omega) (Or.inl (by omega))) (fun i hi => kp_f (by decide) (by decide) (Or.inr (by omega))) (fun j => by unfold goB; simp; omega)) (cEn_sy (fun i hi => kp_f (by decide) (by decide) (Or.inr (by omega))) (fun k i hk => kp_f (by omega) (by omega) (Or.inl (by omega)))) T r0 P M (fun Bq G => mk_t (go_w hF (sx_c _) (th_in _ T) r0 G P.1)) (fun o f _ => (fr_RI f r0 (by decide) (fun _ => sy_f rfl rfl (Or.inl rfl) (Or.inl rfl))).1)
theorem rw_beforeAt (hF : 700000 ≤ F) (hp : hpR c) (T : TH ρ c h) (r0 : ρ x0 = 16) (P : RfI x0 h) (M : RmR x0 B h) : Sat (sX15_beforeAt F h x0 x1) (RP ρ c x0 B (TpR x0 h)) := by
  obtain ⟨B6, p6⟩ := P.2.2.2.2.2.1
  have ob : ∀ w, w ≠ 3400 → ∀ k i, (k = 13 ∨ k = 62 ∨ k = 63 ∨ k = 64) → fS kpL [(3400, bpL)] k w i = false := fun w hw k i hk => fs_cf (Or.inr hw) (by rcases hk with z | z | z | z <;> subst z <;> rfl)
  refine rp_b (S := fS kpL [(3400, bpL)]) (R := fun o => ∃ B, FdPY (sqN x0 h) B x0 o) (fs_r hp rfl) (fun _ => rfl) (fun _ => rfl) (fun _ => rfl) (fun _ => rfl) ⟨fun _ => rfl, fun _ _ => rfl, fun j _ => ⟨fun i _ => ob _ (by omega) _ _ (by omega), fun i => ob _ (by omega) _ _ (by omega), fun i => ob _ (by omega) _ _ (by omega), fun i => ob _ (by omega) _ _ (by omega)⟩⟩ ⟨fun _ => rfl, fun _ => rfl, fun _ _ => rfl, fun _ _ => rfl⟩ ⟨fun _ => rfl, fun _ => rfl⟩ ⟨ks_kpY.1, ks_kpY.2.1, ks_kpY.2.2.1, ks_kpY.2.2.2.1⟩ ⟨fun _ => rfl, fun _ => rfl, fun _ => rfl, fun _ => rfl, fun _ => rfl, fun _ => rfl, fun _ => rfl, fun _ => rfl, fun _ => rfl, fun _ _ => rfl, fun _ _ => rfl, fun _ _ => rfl, fun _ _ => rfl, fun _ _ => rfl⟩ T r0 P M (fun Bq G => beforeAt_w hF fs_a (fs_o (.head _)) (th_in _ T) r0 G p6) (fun o f _ => (fr_RI f r0 (by decide) (fun _ => rfl)).1)
/-- now: places and games -/
theorem rw_now (hF : 700000 ≤ F) (hp : hpR c) (T : TH ρ c h) (r0 : ρ x0 = 16) (P : RfI x0 h) (M : RmR x0 B h) : Sat (sX15_now F h x0 x1) (RP ρ c x0 B (TpR x0 h)) := by
  obtain ⟨na, ha⟩ := da_i T r0
  obtain ⟨nd, hd⟩ := dd_i T r0
  obtain ⟨ng, hg⟩ := dg_i T r0
  obtain ⟨nf, hf⟩ := df_i T r0
  have N := rm_i M ha hd hg hf
  have K0 : BG (sqN x0 h) (B.1 - (13 * nd + 5 * nf + d52 x0 h), B.2 - (21170 * nd + 162 * nf + 1500000 * d52 x0 h)) x0 h := ⟨P.2.1, P.2.2.1, fun r q er eq => by
    obtain ⟨a', ea', qa⟩ := ha
    obtain ⟨g', eg', qg⟩ := hg
    rw [r_eq ea' er, r_eq eg' eq, qa, qg]
    show _ ≤ B.1 - _ ∧ _ ≤ B.2 - _
    omega⟩
  have nE : ∀ {k i : Nat}, kpE k i = false → k ≠ 92 → (fun k i => kpE k i || (k == 92 && decide (i ≤ 2407))) k i = false := fun {k i} z n => by show (kpE k i || (k == 92 && decide (i ≤ 2407))) = false; rw [z, bq_ne n]; rfl
  have sy : ∀ {k w i : Nat}, kpE k i = false → k ≠ 92 → mS saL k i = false → (mS bpL k i = false ∨ is 3400 w = false) → mS mpL k i = false → SY (fun k i => kpE k i || (k == 92 && decide (i ≤ 2407))) (is 3400) no k w i = false := fun z n a b c => sy_f (nE z n) a b (Or.inl c)
  have z16 : ∀ {i : Nat}, i ≠ 16 → mS saL 16 i = false → ∀ w, SY (fun k i => kpE k i || (k == 92 && decide (i ≤ 2407))) (is 3400) no 16 w i = false := fun {i} hi m w => sy (kp_f (by decide) (by decide) (Or.inr hi)) (by decide) m (Or.inl rfl) rfl
  have zk : ∀ {k : Nat}, (k ≠ 84 ∧ k ≠ 85 ∧ k ≠ 92 ∧ k ≠ 16) → (∀ i, mS saL k i = false) → (∀ i, mS bpL k i = false) → (∀ i, mS mpL k i = false) → ∀ w i, SY (fun k i => kpE k i || (k == 92 && decide (i ≤ 2407))) (is 3400) no k w i = false := fun {k} hk a1 a2 a3 w i => sy (kp_f hk.1 hk.2.1 (Or.inl hk.2.2.2)) hk.2.2.1 (a1 i) (Or.inl (a2 i)) (a3 i)
  have bo : ∀ w, w ≠ 3400 → bdO (SY (fun k i => kpE k i || (k == 92 && decide (i ≤ 2407))) (is 3400) no) w := fun w hw => ⟨fun i _ => sy (kp_f (by decide) (by decide) (Or.inl (by decide))) (by decide) rfl (Or.inr (is_f hw)) rfl, fun i => sy (kp_f (by decide) (by decide) (Or.inl (by decide))) (by decide) rfl (Or.inr (is_f hw)) rfl, fun i => sy (kp_f (by decide) (by decide) (Or.inl (by decide))) (by decide) rfl (Or.inr (is_f hw)) rfl, fun i => sy (kp_f (by decide) (by decide) (Or.inl (by decide))) (by decide) rfl (Or.inr (is_f hw)) rfl⟩
  refine rp_m (S := SY (fun k i => kpE k i || (k == 92 && decide (i ≤ 2407))) (is 3400) no) (sy_r hp (fun k i z => by
    rw [Bool.or_eq_true, Bool.and_eq_true, beq_iff_eq] at z
    rcases z with z | z
    · exact kp_r z
    · rw [z.1]; rfl)) T (now_w hF (sx_c _) (th_in _ T) r0 K0) (fun o ρ1 c1 X T1 f K => ?_)
  have cd : cD (SY (fun k i => kpE k i || (k == 92 && decide (i ≤ 2407))) (is 3400) no) := ⟨z16 (by decide) rfl, z16 (by decide) rfl, zk (by decide) (fun _ => rfl) (fun _ => rfl) (fun _ => rfl), zk (by decide) (fun _ => rfl) (fun _ => rfl) (fun _ => rfl)⟩
  have cf : cF (SY (fun k i => kpE k i || (k == 92 && decide (i ≤ 2407))) (is 3400) no) := ⟨⟨z16 (by decide) rfl, zk (by decide) (fun _ => rfl) (fun _ => rfl) (fun _ => rfl), fun j => by
    obtain ⟨a1, a2, a3, a4⟩ := bo (11000 + j) (by omega)
    exact ⟨fun i hi => a1 i (by omega), a2, a3, a4⟩⟩, ⟨z16 (by decide) rfl, zk (by decide) (fun _ => rfl) (fun _ => rfl) (fun _ => rfl)⟩, ⟨z16 (by decide) rfl, zk (by decide) (fun _ => rfl) (fun _ => rfl) (fun _ => rfl)⟩, z16 (by decide) rfl⟩
  have ce : cEn (SY (fun k i => kpE k i || (k == 92 && decide (i ≤ 2407))) (is 3400) no) := ⟨z16 (by decide) rfl, z16 (by decide) rfl, z16 (by decide) rfl, z16 (by decide) rfl, z16 (by decide) rfl, z16 (by decide) rfl, z16 (by decide) rfl, z16 (by decide) rfl, z16 (by decide) rfl, zk (by decide) (fun _ => rfl) (fun _ => rfl) (fun _ => rfl), zk (by decide) (fun _ => rfl) (fun _ => rfl) (fun _ => rfl), zk (by decide) (fun _ => rfl) (fun _ => rfl) (fun _ => rfl), zk (by decide) (fun _ => rfl) (fun _ => rfl) (fun _ => rfl), zk (by decide) (fun _ => rfl) (fun _ => rfl) (fun _ => rfl)⟩
  refine ⟨rfi_p T r0 f P (z16 (by decide) rfl) (z16 (by decide) rfl) (z16 (by decide) rfl) (Or.inr K.1) (Or.inr K.2.1) (Or.inl cd) (Or.inl ⟨z16 (by decide) rfl, z16 (by decide) rfl⟩) (Or.inl cf) (Or.inl ce) (nog_f T r0 f (z16 (by decide) rfl) (fun w i hi => sy_f (show (kpE 92 i || (92 == 92 && decide (i ≤ 2407))) = false by rw [decide_eq_false (show ¬ i ≤ 2407 by omega), kp_f (by decide) (by decide) (Or.inl (by decide))]; rfl) rfl (Or.inl rfl) (Or.inl rfl)) P.2.2.2.2.2.2.2), ?_, (fr_RI f r0 (by decide) (z16 (by decide) rfl)).1⟩
  have hd' := dd_f T r0 f cd.1 cd.2.2.1 hd
  have hf' := df_f T r0 f cf.1.1 cf.1.2.1 hf
  have h5 := d52_f r0 f (z16 (by decide) rfl)
  obtain ⟨na', ha'⟩ := da_i T1 (ex_r X r0 (by decide))
  obtain ⟨ng', hg'⟩ := dg_i T1 (ex_r X r0 (by decide))
  refine rm_o ha' hd' hg' hf' ?_
  obtain ⟨a', ea', qa⟩ := ha'
  obtain ⟨g', eg', qg⟩ := hg'
  have k2 := K.2.2 a' g' ea' eg'
  rw [qa, qg] at k2
  have k3 : o.1.1 + 5 * na' + 5 * ng' ≤ B.1 - (13 * nd + 5 * nf + d52 x0 h) ∧ o.1.2 + 162 * na' + 162 * ng' ≤ B.2 - (21170 * nd + 162 * nf + 1500000 * d52 x0 h) := k2
  rw [h5]
  omega
end
end
section
/-! rows, refutes, problem, before, and calls that make one thing or write the tape -/
section
variable {zq : Nat} {ρ ρ1 : Nat → Nat} {c c1 : Cm} {h o g : Hp} {S : Nat → Nat → Nat → Bool} {E : Nat → Nat → Bool} {wb wl p : Nat → Bool} {x0 a b k w i F : Nat} {B Bq : Nat × Nat} {lo hi : Int} {x1 x2 x3 x4 x5 : Int32}
/-- a call that makes boards at a depth -/
theorem rp_d {m : Option (Int32 × Hp)} {R Q : Hp → Prop} (hs : ∀ k w i, S k w i = true → cPm c k w i = true) (s11 : ∀ w, S 16 w 11 = false) (s12 : ∀ w, S 16 w 12 = false) (s13 : ∀ w, S 16 w 13 = false) (s52 : ∀ w, S 16 w 52 = false) (hB : cB S) (hG : cG S) (hF : cF S) (hE : cEn S) (T : TH ρ c h) (r0 : ρ x0 = 16) (P : RfI x0 h) (M : RmR x0 B h) (Z : ∀ Bq, DWY Bq x0 h → Sat m (MkI ρ (cat c S h) lo hi (fun o => DWY Bq x0 o ∧ R o))) (HP : ∀ o, Fr ρ (cat c S h) h o → R o → PbP x0 o) (HQ : ∀ o, Fr ρ (cat c S h) h o → R o → Q o) : Sat m (RP ρ c x0 B Q) := by
  obtain ⟨na, ha⟩ := da_i T r0
  obtain ⟨nd, hd⟩ := dd_i T r0
  obtain ⟨ng, hg⟩ := dg_i T r0
  obtain ⟨nf, hf⟩ := df_i T r0
  have N := rm_i M ha hd hg hf
  have G : DWY (B.1 - (5 * na + 5 * ng + 5 * nf + d52 x0 h), B.2 - (162 * na + 162 * ng + 162 * nf + 1500000 * d52 x0 h)) x0 h := ⟨P.1, P.2.2.2.1, fun q eq => by
    obtain ⟨g', eg', qg⟩ := hd
    rw [r_eq eg' eq, qg]
    show _ ≤ B.1 - _ ∧ _ ≤ B.2 - _
    omega⟩
  refine rp_m hs T (Z _ G) (fun o ρ1 c1 X T1 f K => ?_)
  refine ⟨rfi_p T r0 f P s11 s12 s13 (Or.inl hB) (Or.inl hG) (Or.inr K.1.2.1) (Or.inr (HP o f K.2)) (Or.inl hF) (Or.inl hE) (nog_f T r0 f hG.1 (fun w i _ => hG.2.1 w i) P.2.2.2.2.2.2.2), ?_, HQ o f K.2⟩
  have ha' := da_f T r0 f hB.1 hB.2.2.1 ha
  have hg' := dg_f T r0 f hG.1 hG.2.1 hg
  have hf' := df_f T r0 f hF.1.1 hF.1.2.1 hf
  have h5 := d52_f r0 f s52
  obtain ⟨nd', hd'⟩ := dd_i T1 (ex_r X r0 (by decide))
  refine rm_o ha' hd' hg' hf' ?_
  obtain ⟨g', eg', qg⟩ := hd'
  have k2 := K.1.2.2 g' eg'
  rw [qg] at k2
  have k3 : o.1.1 + 13 * nd' ≤ B.1 - (5 * na + 5 * ng + 5 * nf + d52 x0 h) ∧ o.1.2 + 21170 * nd' ≤ B.2 - (162 * na + 162 * ng + 162 * nf + 1500000 * d52 x0 h) := k2
  rw [h5]
  omega
theorem bdO_sx (hb : wb w = false) : bdO (SX p wb wl) w := ⟨fun i _ => sx_f (Or.inl rfl) rfl (Or.inr hb) (Or.inl rfl), fun i => sx_f (Or.inl rfl) rfl (Or.inr hb) (Or.inl rfl), fun i => sx_f (Or.inl rfl) rfl (Or.inr hb) (Or.inl rfl), fun i => sx_f (Or.inl rfl) rfl (Or.inr hb) (Or.inl rfl)⟩
theorem x16 {i : Nat} (m : mS saL 16 i = false) : ∀ w, SX p wb wl 16 w i = false := fun _ => sx_f (Or.inl rfl) m (Or.inl rfl) (Or.inl rfl)
theorem cB_sx (hb : wb 3400 = false) : cB (SX p wb wl) := ⟨x16 rfl, x16 rfl, fun _ _ => sx_f (Or.inl rfl) rfl (Or.inl rfl) (Or.inl rfl), fun _ _ => sx_f (Or.inl rfl) rfl (Or.inl rfl) (Or.inl rfl), bdO_sx hb⟩
theorem cG_sx (hb : ∀ j, wb (5000 + j) = false) : cG (SX p wb wl) := ⟨x16 rfl, fun _ _ => sx_f (Or.inl rfl) rfl (Or.inl rfl) (Or.inl rfl), fun j _ => bdO_sx (hb j)⟩
theorem cF_sx (hb : ∀ j, wb (11000 + j) = false) : cF (SX p wb wl) := ⟨⟨x16 rfl, fun _ _ => sx_f (Or.inl rfl) rfl (Or.inl rfl) (Or.inl rfl), fun j => by
  obtain ⟨a1, a2, a3, a4⟩ := bdO_sx (p := p) (wl := wl) (hb j)
  exact ⟨fun i hi => a1 i (by omega), a2, a3, a4⟩⟩, ⟨x16 rfl, fun _ _ => sx_f (Or.inl rfl) rfl (Or.inl rfl) (Or.inl rfl)⟩, ⟨x16 rfl, fun _ _ => sx_f (Or.inl rfl) rfl (Or.inl rfl) (Or.inl rfl)⟩, x16 rfl⟩
theorem cEn_sx : cEn (SX p wb wl) := ⟨x16 rfl, x16 rfl, x16 rfl, x16 rfl, x16 rfl, x16 rfl, x16 rfl, x16 rfl, x16 rfl, fun _ _ => sx_f (Or.inl rfl) rfl (Or.inl rfl) (Or.inl rfl), fun _ _ => sx_f (Or.inl rfl) rfl (Or.inl rfl) (Or.inl rfl), fun _ _ => sx_f (Or.inl rfl) rfl (Or.inl rfl) (Or.inl rfl), fun _ _ => sx_f (Or.inl rfl) rfl (Or.inl rfl) (Or.inl rfl), fun _ _ => sx_f (Or.inl rfl) rfl (Or.inl rfl) (Or.inl rfl)⟩
theorem sx_r (hp : hpR c) : ∀ k w i, SX p wb wl k w i = true → cPm c k w i = true := fun k w i m => by
  unfold SX at m
  rw [Bool.or_eq_true, Bool.or_eq_true, Bool.or_eq_true, Bool.and_eq_true, Bool.and_eq_true, Bool.and_eq_true] at m
  rcases m with (⟨a, _⟩ | a) | (⟨a, _⟩ | ⟨a, _⟩)
  · rw [Bool.or_eq_true, beq_iff_eq, beq_iff_eq] at a
    rcases a with a | a <;> rw [a] <;> exact hp _ w i rfl
  · exact pA_r (A := saL) hp rfl w k i a
  · exact pA_r (A := bpL) hp rfl w k i a
  · exact pA_r (A := mpL) hp rfl w k i a
theorem sdb_g {w : Nat} (h1 : w ≠ 2528) (h2 : w < 3500 ∨ 3509 < w) : SDb 0 w = false := by
  unfold SDb
  rw [bq_ne h1]
  simp
  omega
theorem rw_rows (hF : 700000 ≤ F) (hp : hpR c) (T : TH ρ c h) (r0 : ρ x0 = 16) (P : RfI x0 h) (M : RmR x0 B h) : Sat (sX15_rows F h x0 x1 x2) (RP ρ c x0 B (TpR x0 h)) :=
  rp_d (S := SD 0) (R := fun _ => True) (sx_r hp) (x16 rfl) (x16 rfl) (x16 rfl) (x16 rfl) (cB_sx (sdb_g (by decide) (Or.inl (by decide)))) (cG_sx (fun j => sdb_g (by omega) (Or.inr (by omega)))) (cF_sx (fun j => sdb_g (by omega) (Or.inr (by omega)))) cEn_sx T r0 P M (fun Bq G => mk_t (zX15_rowsY hF (sx_c _) (th_in _ T) r0 (rf_b P) G)) (fun o f _ => pbp_f T r0 f ⟨x16 rfl, x16 rfl⟩ P.2.2.2.2.1) (fun o f _ => (fr_RI f r0 (by decide) (x16 rfl)).1)
theorem rw_refutes (hF : 700000 ≤ F) (hp : hpR c) (T : TH ρ c h) (r0 : ρ x0 = 16) (P : RfI x0 h) (M : RmR x0 B h) : Sat (sX15_refutes F h x0 x1) (RP ρ c x0 B (TpR x0 h)) :=
  rp_d (S := SD 0) (R := fun _ => True) (sx_r hp) (x16 rfl) (x16 rfl) (x16 rfl) (x16 rfl) (cB_sx (sdb_g (by decide) (Or.inl (by decide)))) (cG_sx (fun j => sdb_g (by omega) (Or.inr (by omega)))) (cF_sx (fun j => sdb_g (by omega) (Or.inr (by omega)))) cEn_sx T r0 P M (fun Bq G => mk_t (zX15_refutesY hF (sx_c _) (th_in _ T) r0 (rf_b P) G P.2.2.2.2.1)) (fun o f _ => pbp_f T r0 f ⟨x16 rfl, x16 rfl⟩ P.2.2.2.2.1) (fun o f _ => (fr_RI f r0 (by decide) (x16 rfl)).1)
abbrev pbL : List (Nat × Nat) := [(16, 64), (16, 65), (16, 66), (16, 67), (16, 68), (16, 70), (111, 999)]
def SPb (k w i : Nat) : Bool := SP k w i || mS pbL k i
theorem spb_f (a : SP k w i = false) (b : mS pbL k i = false) : SPb k w i = false := by unfold SPb; rw [a, b]; rfl
theorem rw_problem (hF : 700000 ≤ F) (hp : hpR c) (T : TH ρ c h) (r0 : ρ x0 = 16) (P : RfI x0 h) (M : RmR x0 B h) : Sat (sX15_problem F h x0 x1 x2 x3 x4) (RP ρ c x0 B (TpR x0 h)) := by
  have y16 : ∀ {i : Nat}, mS saL 16 i = false → mS pbL 16 i = false → ∀ w, SPb 16 w i = false := fun a b w => spb_f (x16 a w) b
  have yk : ∀ {k : Nat}, (∀ w i, SP k w i = false) → (∀ i, mS pbL k i = false) → ∀ w i, SPb k w i = false := fun a b w i => spb_f (a w i) (b i)
  have bo : ∀ {w : Nat}, SDb 0 w = false → bdO SPb w := fun {w} hw => by
    obtain ⟨a1, a2, a3, a4⟩ := bdO_sx (p := SDp 0) (wb := SDb 0) (wl := fun w => SDl 0 w || w == 2530) hw
    exact ⟨fun i hi => spb_f (a1 i hi) rfl, fun i => spb_f (a2 i) rfl, fun i => spb_f (a3 i) rfl, fun i => spb_f (a4 i) rfl⟩
  have b34 := bo (sdb_g (w := 3400) (by decide) (Or.inl (by decide)))
  have xk : ∀ {k : Nat}, (k == 90 || k == 91) = false → (∀ i, mS saL k i = false) → (∀ i, mS bpL k i = false) → (∀ i, mS mpL k i = false) → ∀ w i, SP k w i = false := fun a b c d w i => sx_f (Or.inl a) (b i) (Or.inl (c i)) (Or.inl (d i))
  have q : ∀ {k : Nat}, (k == 90 || k == 91) = false → (∀ i, mS saL k i = false) → (∀ i, mS bpL k i = false) → (∀ i, mS mpL k i = false) → (∀ i, mS pbL k i = false) → ∀ w i, SPb k w i = false := fun a b c d e => yk (xk a b c d) e
  refine rp_d (S := SPb) (R := PbP x0) (fun k w i m => ?_) (y16 rfl rfl) (y16 rfl rfl) (y16 rfl rfl) (y16 rfl rfl) ⟨y16 rfl rfl, y16 rfl rfl, q rfl (fun _ => rfl) (fun _ => rfl) (fun _ => rfl) (fun _ => rfl), q rfl (fun _ => rfl) (fun _ => rfl) (fun _ => rfl) (fun _ => rfl), b34⟩ ⟨y16 rfl rfl, q rfl (fun _ => rfl) (fun _ => rfl) (fun _ => rfl) (fun _ => rfl), fun j _ => bo (sdb_g (by omega) (Or.inr (by omega)))⟩ ⟨⟨y16 rfl rfl, q rfl (fun _ => rfl) (fun _ => rfl) (fun _ => rfl) (fun _ => rfl), fun j => ?_⟩, ⟨y16 rfl rfl, q rfl (fun _ => rfl) (fun _ => rfl) (fun _ => rfl) (fun _ => rfl)⟩, ⟨y16 rfl rfl, q rfl (fun _ => rfl) (fun _ => rfl) (fun _ => rfl) (fun _ => rfl)⟩, y16 rfl rfl⟩ ⟨y16 rfl rfl, y16 rfl rfl, y16 rfl rfl, y16 rfl rfl, y16 rfl rfl, y16 rfl rfl, y16 rfl rfl, y16 rfl rfl, y16 rfl rfl, q rfl (fun _ => rfl) (fun _ => rfl) (fun _ => rfl) (fun _ => rfl), q rfl (fun _ => rfl) (fun _ => rfl) (fun _ => rfl) (fun _ => rfl), q rfl (fun _ => rfl) (fun _ => rfl) (fun _ => rfl) (fun _ => rfl), q rfl (fun _ => rfl) (fun _ => rfl) (fun _ => rfl) (fun _ => rfl), q rfl (fun _ => rfl) (fun _ => rfl) (fun _ => rfl) (fun _ => rfl)⟩ T r0 P M (fun Bq G => zX15_problemY hF (fun k w i m => sx_c SPb k w i (by unfold SPb; rw [m]; rfl)) (fun w k i m => sx_c SPb k w i (by unfold SPb; rw [m, Bool.or_true])) (th_in _ T) r0 (rf_b P) G P.2.2.2.2.1) (fun o f k => k) (fun o f _ => (fr_RI f r0 (by decide) (y16 rfl rfl)).1)
  · unfold SPb at m
    rw [Bool.or_eq_true] at m
    rcases m with m | m
    · exact sx_r hp k w i m
    · exact pA_r (A := pbL) hp rfl w k i m
  · obtain ⟨a1, a2, a3, a4⟩ := bo (sdb_g (w := 11000 + j) (by omega) (Or.inr (by omega)))
    exact ⟨fun i hi => a1 i (by omega), a2, a3, a4⟩
theorem fs_tt {A : List (Nat × Nat)} {L : List (Nat × List (Nat × Nat))} {Bl : List (Nat × Nat)} (hm : (w, Bl) ∈ L) (m : mS Bl k i = true) : fS A L k w i = true := by
  unfold fS
  rw [Bool.or_eq_true, List.any_eq_true]
  exact Or.inr ⟨(w, Bl), hm, by rw [Bool.and_eq_true]; exact ⟨m, beq_self_eq_true _⟩⟩
/-- before: found boards -/
def gsS (k w i : Nat) : Bool := fS gsL [(2528, bpL), (2530, mpL), (2532, bpL), (2545, bpL)] k w i || (mS bpL k i && fdW w)
theorem gs_f (a : fS gsL [(2528, bpL), (2530, mpL), (2532, bpL), (2545, bpL)] k w i = false) (b : mS bpL k i = false ∨ fdW w = false) : gsS k w i = false := by
  unfold gsS
  rw [a]
  rcases b with b | b <;> rw [b] <;> simp
theorem rw_before (hF : 700000 ≤ F) (hp : hpR c) (T : TH ρ c h) (r0 : ρ x0 = 16) (P : RfI x0 h) (M : RmR x0 B h) : Sat (sX15_before F h x0 x1) (RP ρ c x0 B (TpR x0 h)) := by
  obtain ⟨na, ha⟩ := da_i T r0
  obtain ⟨nd, hd⟩ := dd_i T r0
  obtain ⟨ng, hg⟩ := dg_i T r0
  obtain ⟨nf, hf⟩ := df_i T r0
  have N := rm_i M ha hd hg hf
  obtain ⟨B6, p6⟩ := P.2.2.2.2.2.1
  have G : FdPY (sqN x0 h) (B.1 - (5 * na + 13 * nd + 5 * ng + d52 x0 h), B.2 - (162 * na + 21170 * nd + 162 * ng + 1500000 * d52 x0 h)) x0 h := ⟨p6.1, p6.2.1, ⟨p6.2.2.1.1, fun q eq => by
    obtain ⟨g', eg', qg⟩ := hf
    rw [r_eq eg' eq, qg]
    show _ ≤ B.1 - _ ∧ _ ≤ B.2 - _
    omega⟩, p6.2.2.2⟩
  have pm : GPm (cat c gsS h) := ⟨fun w k i m => sx_c gsS k w i (by unfold gsS fS; rw [m]; rfl), fun k i m => sx_c gsS k 2528 i (by unfold gsS; rw [fs_tt (.head _) m]; rfl), fun k i m => sx_c gsS k 2530 i (by unfold gsS; rw [fs_tt (.tail _ (.head _)) m]; rfl), fun k i m => sx_c gsS k 2532 i (by unfold gsS; rw [fs_tt (.tail _ (.tail _ (.head _))) m]; rfl), fun k i m => sx_c gsS k 2545 i (by unfold gsS; rw [fs_tt (.tail _ (.tail _ (.tail _ (.head _)))) m]; rfl), fun j hj k i m => sx_c gsS k (11000 + j) i (by unfold gsS; rw [m, fdW_t hj]; simp)⟩
  have z16 : ∀ {i : Nat}, (∀ w, fS gsL [(2528, bpL), (2530, mpL), (2532, bpL), (2545, bpL)] 16 w i = false) → ∀ w, gsS 16 w i = false := fun a w => gs_f (a w) (Or.inl rfl)
  have zk : ∀ {k : Nat}, (∀ w i, fS gsL [(2528, bpL), (2530, mpL), (2532, bpL), (2545, bpL)] k w i = false) → (∀ i, mS bpL k i = false) → ∀ w i, gsS k w i = false := fun a b w i => gs_f (a w i) (Or.inl (b i))
  have bo : ∀ {w : Nat}, w ≠ 2528 → w ≠ 2530 → w ≠ 2532 → w ≠ 2545 → fdW w = false → bdO gsS w := fun {w} n1 n2 n3 n4 hw => by
    have y : ∀ k i, mS gsL k i = false → fS gsL [(2528, bpL), (2530, mpL), (2532, bpL), (2545, bpL)] k w i = false := fun k i m => fs_cf (Or.inr n1) (fs_cf (Or.inr n2) (fs_cf (Or.inr n3) (fs_cf (Or.inr n4) (fs_nf m))))
    exact ⟨fun i _ => gs_f (y _ _ rfl) (Or.inr hw), fun i => gs_f (y _ _ rfl) (Or.inr hw), fun i => gs_f (y _ _ rfl) (Or.inr hw), fun i => gs_f (y _ _ rfl) (Or.inr hw)⟩
  refine rp_m (S := gsS) (fun k w i m => ?_) T (zX15_beforeY hF pm (th_in _ T) r0 (rf_b P) P.1 G) (fun o ρ1 c1 X T1 f K => ?_)
  · unfold gsS at m
    rw [Bool.or_eq_true, Bool.and_eq_true] at m
    rcases m with m | m
    · exact fs_r hp rfl k w i m
    · exact pA_r (A := bpL) hp rfl w k i m.1
  have cb : cB gsS := ⟨z16 (fun _ => rfl), z16 (fun _ => rfl), zk (fun _ _ => rfl) (fun _ => rfl), zk (fun _ _ => rfl) (fun _ => rfl), bo (by decide) (by decide) (by decide) (by decide) rfl⟩
  have cg : cG gsS := ⟨z16 (fun _ => rfl), zk (fun _ _ => rfl) (fun _ => rfl), fun j hj => bo (by omega) (by omega) (by omega) (by omega) (by unfold fdW; simp; omega)⟩
  have cd : cD gsS := ⟨z16 (fun _ => rfl), z16 (fun _ => rfl), zk (fun _ _ => rfl) (fun _ => rfl), zk (fun _ _ => rfl) (fun _ => rfl)⟩
  have ce : cEn gsS := ⟨z16 (fun _ => rfl), z16 (fun _ => rfl), z16 (fun _ => rfl), z16 (fun _ => rfl), z16 (fun _ => rfl), z16 (fun _ => rfl), z16 (fun _ => rfl), z16 (fun _ => rfl), z16 (fun _ => rfl), zk (fun _ _ => rfl) (fun _ => rfl), zk (fun _ _ => rfl) (fun _ => rfl), zk (fun _ _ => rfl) (fun _ => rfl), zk (fun _ _ => rfl) (fun _ => rfl), zk (fun _ _ => rfl) (fun _ => rfl)⟩
  refine ⟨rfi_p T r0 f P (z16 (fun _ => rfl)) (z16 (fun _ => rfl)) (z16 (fun _ => rfl)) (Or.inl cb) (Or.inl cg) (Or.inl cd) (Or.inl ⟨z16 (fun _ => rfl), z16 (fun _ => rfl)⟩) (Or.inr ⟨_, K.2⟩) (Or.inl ce) (nog_f T r0 f cg.1 (fun w i _ => cg.2.1 w i) P.2.2.2.2.2.2.2), ?_, (fr_RI f r0 (by decide) (z16 (fun _ => rfl))).1⟩
  have ha' := da_f T r0 f cb.1 cb.2.2.1 ha
  have hg' := dg_f T r0 f cg.1 cg.2.1 hg
  have hd' := dd_f T r0 f cd.1 cd.2.2.1 hd
  have h5 := d52_f r0 f (z16 (fun _ => rfl))
  obtain ⟨nf', hf'⟩ := df_i T1 (ex_r X r0 (by decide))
  refine rm_o ha' hd' hg' hf' ?_
  obtain ⟨g', eg', qg⟩ := hf'
  have k2 := K.2.2.2.1.2 g' eg'
  rw [qg] at k2
  have k3 : o.1.1 + 5 * nf' ≤ B.1 - (5 * na + 13 * nd + 5 * ng + d52 x0 h) ∧ o.1.2 + 162 * nf' ≤ B.2 - (162 * na + 21170 * nd + 162 * ng + 1500000 * d52 x0 h) := k2
  rw [h5]
  omega
end
end
section
/-! say, worth, drop, feed, end of the reference -/
section
variable {zq : Nat} {ρ ρ1 : Nat → Nat} {c c1 : Cm} {h g : Hp} {S : Nat → Nat → Nat → Bool} {x0 a b k w i F : Nat} {B Bq : Nat × Nat} {lo hi : Int} {x1 x2 x3 x4 x5 : Int32}
theorem rw_say (hF : 700000 ≤ F) (hp : hpR c) (T : TH ρ c h) (r0 : ρ x0 = 16) (P : RfI x0 h) (M : RmR x0 B h) : Sat (sX15_say_ F h x0 x1 x2) (RP ρ c x0 B (TpR x0 h)) := rp_t (A := [(83, 999), (87, 999), (88, 999), (89, 999), (16, 3), (16, 23), (16, 24), (16, 29), (16, 36)]) (L := [(2528, bpL), (2530, mpL), (2531, mpL), (2535, bpL)]) hp rfl rfl (fun _ => rfl) T r0 P M (zX15_say_ hF fs_a (fs_o (.head _)) (fs_o (.tail _ (.head _))) (fs_o (.tail _ (.tail _ (.head _)))) (fs_o (.tail _ (.tail _ (.tail _ (.head _))))) (th_in _ T) r0 (rg_top _) (rg_top _) (rf_b P) P.1)
theorem rw_worth (hF : 700000 ≤ F) (hp : hpR c) (T : TH ρ c h) (r0 : ρ x0 = 16) (P : RfI x0 h) (M : RmR x0 B h) : Sat (sX15_worth F h x0 x1) (RP ρ c x0 B (TpR x0 h)) := rp_t (A := rwpL) (L := []) hp rfl rfl (fun _ => rfl) T r0 P M (s_imp (zX15_worth hF fs_a (th_in _ T) r0 (rf_b P) P.2.2.2.2.2.2.1) (fun o z => ⟨z.1, z.2.1⟩))
theorem has15_h {o : Int32 × Hp} (e : sX15_has h x0 x1 = some o) : o.2 = h := by
  unfold sX15_has sX15_has_23 sX15_has_24 at e
  replace e := br_s e; rcases e with ⟨_, e⟩ | ⟨_, e⟩
  · rw [← Option.some.inj (gd_s e).2]
  replace e := br_s e; rcases e with ⟨_, e⟩ | ⟨_, e⟩
  · rw [← Option.some.inj (gd_s e).2]
  replace e := cl_s e; obtain ⟨_, _, e⟩ := e
  replace e := (gd_s e).2
  replace e := br_s e; rcases e with ⟨_, e⟩ | ⟨_, e⟩
  · rw [← Option.some.inj (gd_s e).2]
  · rw [← Option.some.inj (gd_s e).2]
theorem drop_e {o : Int32 × Hp} (e : sX15_drop h x0 x1 = some o) : o.2 = h ∨ ∃ s, hR h x0 15 = some s ∧ o.2 = wI h s x1.toNatClampNeg (0 : Int32) := by
  unfold sX15_drop at e
  replace e := cl_s e; obtain ⟨o1, e1, e⟩ := e
  rw [has15_h e1] at e
  replace e := br_s e; rcases e with ⟨_, e⟩ | ⟨_, e⟩
  · rw [← Option.some.inj e]; exact Or.inl rfl
  replace e := cl_s e; obtain ⟨s, es, e⟩ := e
  replace e := (gd_s e).2
  replace e := nm_s e; obtain ⟨h5, w5, e⟩ := e
  rw [← Option.some.inj e]
  exact Or.inr ⟨s, es, w5⟩
theorem rw_drop (hF : 700000 ≤ F) (hp : hpR c) (T : TH ρ c h) (r0 : ρ x0 = 16) (P : RfI x0 h) (M : RmR x0 B h) : Sat (sX15_drop h x0 x1) (RP ρ c x0 B (TpR x0 h)) := by
  obtain ⟨o, eo, z⟩ := zX15_drop (c := cat c (fS [(85, 999)] []) h) (x1 := x1) hF fs_a (th_in _ T) r0 (rg_top _)
  have T' := th_out T (fs_r hp rfl) z.1
  have f := fr_u T z.1.2.2
  refine ⟨o, eo, ρ, c, ex_0, T', ?_, rmr_f T r0 f (T'.1.1.trans T.1.1.symm) (fun _ => rfl) (fun _ => rfl) (fun _ => rfl) (fun _ => rfl) (fun _ => rfl) (fun _ _ => rfl) (fun _ _ => rfl) (fun _ _ => rfl) (fun _ _ => rfl) M, (fr_RI f r0 (by decide) (fun _ => rfl)).1⟩
  refine rfi_p T r0 f P (fun _ => rfl) (fun _ => rfl) (fun _ => rfl) (Or.inr ?_) (Or.inl ⟨fun _ => rfl, fun _ _ => rfl, fun j _ => ⟨fun _ _ => rfl, fun _ => rfl, fun _ => rfl, fun _ => rfl⟩⟩) (Or.inl ⟨fun _ => rfl, fun _ => rfl, fun _ _ => rfl, fun _ _ => rfl⟩) (Or.inl ⟨fun _ => rfl, fun _ => rfl⟩) (Or.inl ⟨⟨fun _ => rfl, fun _ _ => rfl, fun j => ⟨fun _ _ => rfl, fun _ => rfl, fun _ => rfl, fun _ => rfl⟩⟩, ⟨fun _ => rfl, fun _ _ => rfl⟩, ⟨fun _ => rfl, fun _ _ => rfl⟩, fun _ => rfl⟩) (Or.inl ⟨fun _ => rfl, fun _ => rfl, fun _ => rfl, fun _ => rfl, fun _ => rfl, fun _ => rfl, fun _ => rfl, fun _ => rfl, fun _ => rfl, fun _ _ => rfl, fun _ _ => rfl, fun _ _ => rfl, fun _ _ => rfl, fun _ _ => rfl⟩) (nog_f T r0 f (fun _ => rfl) (fun _ _ _ => rfl) P.2.2.2.2.2.2.2)
  obtain ⟨B1, b1⟩ := P.2.1
  rcases drop_e eo with q | ⟨s, es, q⟩
  · rw [q]; exact ⟨B1, b1⟩
  · have qs := rr T (thR T r0 (i := 15) (k2 := 85) rfl (by decide)) es
    refine ⟨B1, fun r s' e1 e2 i hi hs => ?_, fun r e1 i j a b ne ea eb k hk M M' m1 m2 => ?_, fun r er => ?_⟩
    · rw [q] at e1 e2
      have y : s' = s := r_eq es e2
      subst y
      by_cases z : i = x1.toNatClampNeg
      · rw [q, z, rI_s] at hs
        exact absurd (by decide : (0 : Int32) ≤ 0) hs
      · rw [q, rI_o z] at hs
        obtain ⟨b, eb, pb⟩ := b1.1 r s' e1 e2 i hi hs
        have q1 := rr T (thR T r0 (i := 14) (k2 := 84) rfl (by decide)) e1
        exact ⟨b, by rw [q]; exact eb, pz_fr T (thRn T q1 (k2 := 13) rfl (by decide) eb) f (fun _ _ => rfl) (fun _ => rfl) (fun _ => rfl) (fun _ => rfl) pb⟩
    · rw [q] at e1 ea eb m1 m2
      exact b1.2.1 r e1 i j a b ne ea eb k hk M M' m1 m2
    · rw [q] at er ⊢
      exact b1.2.2 r er
def FdR (x0 : Nat) (n : Int) (o : Int32 × Hp) : Prop := (n + 20 ≤ 1200 ∧ o.1.toInt = n + 20 ∧ (hI o.2 x0 1).toInt = n + 20) ∨ (1200 < n + 20 ∧ o.1 = -104 ∧ (hI o.2 x0 1).toInt = n)
def EdR (x0 : Nat) (x1 : Int32) (n : Int) (o : Int32 × Hp) : Prop := (0 ≤ x1.toInt ∧ x1.toInt ≤ n ∧ o.1 = x1 ∧ (hI o.2 x0 1).toInt = x1.toInt) ∨ (¬ (0 ≤ x1.toInt ∧ x1.toInt ≤ n) ∧ o.1 = -101 ∧ (hI o.2 x0 1).toInt = n)
theorem feed_19 {t : Nat} (nt : ¬ x0 = t) : ∀ (f : Nat) {h : Hp} {x6 : Int32} {o : Int32 × Hp}, hR h x0 0 = some t → 0 ≤ x6.toInt → x6.toInt ≤ 20 → 0 ≤ (hI h x0 1).toInt → (hI h x0 1).toInt + (20 - x6.toInt) ≤ 1200 → sX15_feed_19 F f h x0 x1 x2 x3 x4 x5 x6 = some o → o.1.toInt = (hI h x0 1).toInt + (20 - x6.toInt) ∧ (hI o.2 x0 1).toInt = (hI h x0 1).toInt + (20 - x6.toInt) := by
  have z1 : (1 : Int32).toInt = 1 := rfl
  have z20 : (20 : Int32).toInt = 20 := rfl
  intro f
  induction f with
  | zero => intro h x6 o _ _ _ _ _ e; exact absurd e (by simp [sX15_feed_19])
  | succ f ih =>
    intro h x6 o et a6 l6 a1 l1 e
    have go : ∀ {t0 : Int32}, x6.toInt < 20 → sX15_feed_72 F (sX15_feed_19 F f) h x0 x1 x2 x3 x4 x5 x6 t0 = some o → o.1.toInt = (hI h x0 1).toInt + (20 - x6.toInt) ∧ (hI o.2 x0 1).toInt = (hI h x0 1).toInt + (20 - x6.toInt) := fun {t0} l e => by
      unfold sX15_feed_72 at e
      replace e := cl_s e; obtain ⟨t', et', e⟩ := e
      have y : t' = t := r_eq et et'
      subst y
      replace e := (gd_s e).2
      replace e := nm_s e; obtain ⟨h3, w3, e⟩ := e
      replace e := nm_s e; obtain ⟨h4, w4, e⟩ := e
      replace e := nm_s e; obtain ⟨v5, w5, e⟩ := e
      have t5 : v5.toInt = x6.toInt + 1 := by rw [w5, ta (by rw [z1]; omega), z1]
      have e4 : (hI h4 x0 1).toInt = (hI h x0 1).toInt + 1 := by
        rw [w4, rI_s, w3, rI_a nt, ta (by rw [z1]; omega), z1]
      obtain ⟨u1, u2⟩ := ih (h := h4) (by rw [w4, w3]; exact et) (by omega) (by omega) (by omega) (by omega) e
      omega
    unfold sX15_feed_19 at e
    replace e := br_s e; rcases e with ⟨l, e⟩ | ⟨l, e⟩
    · have l := le_i l
      rw [← Option.some.inj e]
      constructor <;> (show (hI h x0 1).toInt = _; omega)
    have l := nle_i l
    replace e := br_s e; rcases e with ⟨_, e⟩ | ⟨_, e⟩
    · replace e := br_s e; rcases e with ⟨_, e⟩ | ⟨_, e⟩
      · replace e := br_s e; rcases e with ⟨_, e⟩ | ⟨_, e⟩
        · replace e := br_s e; rcases e with ⟨_, e⟩ | ⟨_, e⟩
          · exact go (by omega) e
          · exact go (by omega) e
        · exact go (by omega) e
      · exact go (by omega) e
    · exact go (by omega) e
theorem rw_feed (hF : 700000 ≤ F) (hp : hpR c) (T : TH ρ c h) (r0 : ρ x0 = 16) (P : RfI x0 h) (M : RmR x0 B h) : Sat (sX15_feed F h x0 x1 x2 x3 x4 x5) (fun o => RP ρ c x0 B (fun _ => True) o ∧ FdR x0 (hI h x0 1).toInt o) := by
  refine sat_and (rp_z (A := [(82, 999), (16, 1)]) (L := []) (R := fun _ => True) hp rfl rfl T r0 P M (s_zq (zX15_feed hF fs_a (th_in _ T) r0 (rg_top _) (rg_top _) (rg_top _) (rg_top _) (rg_top _))) (fun _ _ _ _ => trivial)) (fun o e z => ⟨z, ?_⟩)
  obtain ⟨t, et, qt⟩ := thR T r0 (i := 0) (k2 := 82) rfl (by decide)
  have i1 := thI T r0 (k := 16) (i := 1) (lo := 0) (hi := 1200) rfl
  have nt : ¬ x0 = t := fun y => by rw [← y, r0] at qt; exact absurd qt (by decide)
  have z20 : (20 : Int32).toInt = 20 := rfl
  have z0 : (0 : Int32).toInt = 0 := rfl
  have zb : (1200 : Int32).toInt = 1200 := rfl
  have a1 := i1.1
  have b1 := i1.2
  have tt : (hI h x0 1 + (20 : Int32)).toInt = (hI h x0 1).toInt + 20 := by rw [ta (by rw [z20]; omega), z20]
  unfold sX15_feed at e
  replace e := br_s e; rcases e with ⟨l, e⟩ | ⟨l, e⟩
  · have l := le_i l
    rw [tt, zb] at l
    obtain ⟨u1, u2⟩ := feed_19 nt F et (by decide) (by decide) a1 (by rw [z0]; omega) e
    rw [z0] at u1 u2
    exact Or.inl ⟨l, by omega, by omega⟩
  · have l := nle_i l
    rw [tt, zb] at l
    rw [← Option.some.inj e]
    exact Or.inr ⟨l, rfl, rfl⟩
theorem rw_end (hF : 700000 ≤ F) (hp : hpR c) (T : TH ρ c h) (r0 : ρ x0 = 16) (P : RfI x0 h) (M : RmR x0 B h) : Sat (sX15_end h x0 x1) (fun o => RP ρ c x0 B (fun _ => True) o ∧ EdR x0 x1 (hI h x0 1).toInt o) := by
  refine sat_and (rp_z (A := [(16, 1)]) (L := []) (R := fun _ => True) hp rfl rfl T r0 P M (s_zq (zX15_end hF fs_a (th_in _ T) r0 (rg_top _))) (fun _ _ _ _ => trivial)) (fun o e z => ⟨z, ?_⟩)
  have z0 : (0 : Int32).toInt = 0 := rfl
  unfold sX15_end sX15_end_12 at e
  replace e := br_s e; rcases e with ⟨l, e⟩ | ⟨l, e⟩
  · have l := lt_i l
    rw [← Option.some.inj e]
    exact Or.inr ⟨by omega, rfl, rfl⟩
  have l := nlt_i l
  replace e := br_s e; rcases e with ⟨l2, e⟩ | ⟨l2, e⟩
  · have l2 := le_i l2
    replace e := nm_s e; obtain ⟨h3, w3, e⟩ := e
    rw [← Option.some.inj e]
    refine Or.inl ⟨by omega, l2, rfl, ?_⟩
    show (hI h3 x0 1).toInt = _
    rw [w3, rI_s]
  · have l2 := nle_i l2
    rw [← Option.some.inj e]
    exact Or.inr ⟨by omega, rfl, rfl⟩
end
end
section
/-! told and figure of the reference: one thing a call -/
theorem nC_1 (h : Hp) (k n s : Nat) : (nC h k n s).1 = (h.1.1 + 1, h.1.2 + s) := rfl
section
variable {zq : Nat} {ρ ρ1 : Nat → Nat} {c c1 : Cm} {h g : Hp} {S : Nat → Nat → Nat → Bool} {x0 a b k w i F : Nat} {B Bq : Nat × Nat} {lo hi : Int} {x1 x2 x3 x4 x5 : Int32}
theorem told_1 {o : Int32 × Hp} (e : sX15_told F h x0 x1 = some o) : o.2.1 = (h.1.1 + 1, h.1.2 + 8) := by
  have b37 : ∀ {g : Hp} {x2 : Int32} {t : Nat}, sX15_told_37 F g x0 x1 x2 t = some o → o.2.1 = g.1 := fun {g x2 t} e => by
    unfold sX15_told_37 sX15_told_112 sX15_told_120 at e
    simp only [nm] at e
    replace e := (gd_s e).2
    replace e := (gd_s e).2
    replace e := cl_s e; obtain ⟨_, _, e⟩ := e
    replace e := (gd_s e).2
    replace e := cl_s e; obtain ⟨_, _, e⟩ := e
    replace e := (gd_s e).2
    replace e := cl_s e; obtain ⟨_, _, e⟩ := e
    replace e := (gd_s e).2
    replace e := (gd_s e).2
    replace e := (gd_s e).2
    replace e := (gd_s e).2
    replace e := br_s e; rcases e with ⟨_, e⟩ | ⟨_, e⟩
    · rw [← Option.some.inj e]; rfl
    replace e := br_s e; rcases e with ⟨_, e⟩ | ⟨_, e⟩
    · rw [← Option.some.inj (gd_s e).2]; rfl
    · rw [← Option.some.inj e]; rfl
  have lp : ∀ (f : Nat) {x2 x3 : Int32}, sX15_told_4 F f h x0 x1 x2 x3 = some o → o.2.1 = (h.1.1 + 1, h.1.2 + 8) := by
    intro f
    induction f with
    | zero => intro x2 x3 e; exact absurd e (by simp [sX15_told_4])
    | succ f ih =>
      intro x2 x3 e
      unfold sX15_told_4 sX15_told_25 at e
      simp only [nm] at e
      replace e := br_s e; rcases e with ⟨_, e⟩ | ⟨_, e⟩
      · rw [b37 e, nC_1]; rfl
      replace e := cl_s e; obtain ⟨_, _, e⟩ := e
      replace e := (gd_s e).2
      replace e := br_s e; rcases e with ⟨_, e⟩ | ⟨_, e⟩
      · exact ih e
      · exact ih e
  unfold sX15_told at e
  exact lp F e
theorem bitc_h {v : Int64} {o : Int32 × Hp} (e : sJ13_bitCount_95d88 h v = some o) : o.2 = h := by
  unfold sJ13_bitCount_95d88 at e
  simp only [nm] at e
  rw [← Option.some.inj e]
theorem figure_1 {o : Int32 × Hp} (e : sX15_figure F h x0 x1 x2 = some o) : o.2.1 = h.1 ∨ o.2.1 = (h.1.1 + 1, h.1.2 + 6) := by
  have b102 : ∀ {g : Hp} {y t0 t1 : Int32} {t2 t3 : Nat}, sX15_figure_102 F g y t0 t1 t2 t3 = some o → o.2.1 = g.1 := fun {g y t0 t1 t2 t3} e => by
    unfold sX15_figure_102 at e
    simp only [nm] at e
    replace e := (gd_s e).2
    replace e := (gd_s e).2
    rw [← Option.some.inj e]; rfl
  have b82 : ∀ {g : Hp} {y t0 t1 : Int32} {d t2 t3 : Nat}, sX15_figure_82 F g y d t0 t1 t2 t3 = some o → o.2.1 = g.1 := fun {g y t0 t1 d t2 t3} e => by
    unfold sX15_figure_82 at e
    replace e := (gd_s e).2
    replace e := nm_s e; obtain ⟨h2, w2, e⟩ := e
    have k2 : h2.1 = g.1 := by rw [w2]; rfl
    replace e := br_s e; rcases e with ⟨_, e⟩ | ⟨_, e⟩
    · rw [b102 e, k2]
    replace e := cl_s e; obtain ⟨_, _, e⟩ := e
    replace e := (gd_s e).2
    rw [b102 e, k2]
  have b41 : ∀ {g : Hp} {y : Int32} {d t : Nat}, sX15_figure_41 F g y d t = some o → o.2.1 = g.1 := fun {g y d t} e => by
    unfold sX15_figure_41 at e
    simp only [nm] at e
    replace e := (gd_s e).2
    replace e := (gd_s e).2
    replace e := cl_s e; obtain ⟨_, _, e⟩ := e
    replace e := (gd_s e).2
    replace e := (gd_s e).2
    replace e := cl_s e; obtain ⟨_, _, e⟩ := e
    replace e := (gd_s e).2
    replace e := (gd_s e).2
    replace e := cl_s e; obtain ⟨o13, e13, e⟩ := e
    have k13 := bitc_h e13
    rw [b82 e, k13]; rfl
  have b162 : ∀ (f : Nat) {y z5 z4 : Int32} {d : Nat}, sX15_figure_162 F f h x0 y d z4 z5 = some o → o.2.1 = h.1 := by
    intro f
    induction f with
    | zero => intro y z5 z4 d e; exact absurd e (by simp [sX15_figure_162])
    | succ f ih =>
      intro y z5 z4 d e
      unfold sX15_figure_162 sX15_figure_203 sX15_figure_194 at e
      simp only [nm] at e
      replace e := br_s e; rcases e with ⟨_, e⟩ | ⟨_, e⟩
      · rw [← Option.some.inj e]
      replace e := br_s e; rcases e with ⟨_, e⟩ | ⟨_, e⟩
      · replace e := cl_s e; obtain ⟨_, _, e⟩ := e
        replace e := (gd_s e).2
        replace e := br_s e; rcases e with ⟨_, e⟩ | ⟨_, e⟩
        · exact ih e
        · exact ih e
      · rw [← Option.some.inj e]
  have b116 : ∀ (f : Nat) {y z5 z4 : Int32} {d : Nat}, sX15_figure_116 F f h x0 y d z4 z5 = some o → o.2.1 = h.1 := by
    intro f
    induction f with
    | zero => intro y z5 z4 d e; exact absurd e (by simp [sX15_figure_116])
    | succ f ih =>
      intro y z5 z4 d e
      unfold sX15_figure_116 sX15_figure_159 at e
      simp only [nm] at e
      replace e := cl_s e; obtain ⟨_, _, e⟩ := e
      replace e := br_s e; rcases e with ⟨_, e⟩ | ⟨_, e⟩
      · exact b162 F e
      replace e := br_s e; rcases e with ⟨_, e⟩ | ⟨_, e⟩
      · exact b162 F e
      replace e := cl_s e; obtain ⟨_, _, e⟩ := e
      replace e := (gd_s e).2
      exact ih e
  unfold sX15_figure sX15_figure_10 at e
  replace e := br_s e; rcases e with ⟨_, e⟩ | ⟨_, e⟩
  · rw [← Option.some.inj e]; exact Or.inl rfl
  replace e := br_s e; rcases e with ⟨_, e⟩ | ⟨_, e⟩
  · replace e := cl_s e; obtain ⟨o3, e3, e⟩ := e
    rw [has15_h e3] at e
    unfold sX15_figure_18 at e
    replace e := br_s e; rcases e with ⟨_, e⟩ | ⟨_, e⟩
    · rw [← Option.some.inj e]; exact Or.inl rfl
    replace e := cl_s e; obtain ⟨_, _, e⟩ := e
    replace e := (gd_s e).2
    replace e := cl_s e; obtain ⟨_, _, e⟩ := e
    replace e := br_s e; rcases e with ⟨_, e⟩ | ⟨_, e⟩
    · exact Or.inl (b116 F e)
    · simp only [nm] at e
      rw [b41 e, nC_1]; exact Or.inr rfl
  · rw [← Option.some.inj e]; exact Or.inl rfl
/-- a call that makes one thing that nobody keeps -/
theorem rp_1 {m : Option (Int32 × Hp)} (T : TH ρ c h) (r0 : ρ x0 = 16) (P : RfI x0 h) (M : RmR x0 B h) (Z : Sat m (fun o => ∃ ρ' c', Ext ρ (cat c (fun _ _ _ => false) h) ρ' c' ∧ TH ρ' c' o.2 ∧ Rg lo hi o.1)) (K : ∀ o, m = some o → o.2.1.1 ≤ h.1.1 + 1 ∧ o.2.1.2 ≤ h.1.2 + 8) : Sat m (RP ρ c x0 (B.1 + 1, B.2 + 8) (TpR x0 h)) := by
  have Z2 : Sat m (MkI ρ (cat c (fun _ _ _ => false) h) lo hi (fun o => o.1.1 ≤ h.1.1 + 1 ∧ o.1.2 ≤ h.1.2 + 8)) := by
    obtain ⟨o, eo, ρ', c', X, T', r⟩ := Z
    exact ⟨o, eo, ρ', c', X, T', r, K o eo⟩
  refine rp_m (S := fun _ _ _ => false) (fun _ _ _ z => absurd z (by decide)) T Z2 (fun o ρ1 c1 X T1 f k => ?_)
  have hb : ∀ k w i, badR k w i = true → (fun (_ _ _ : Nat) => false) k w i = false := fun _ _ _ _ => rfl
  obtain ⟨na, ha⟩ := da_i T r0
  obtain ⟨nd, hd⟩ := dd_i T r0
  obtain ⟨ng, hg⟩ := dg_i T r0
  obtain ⟨nf, hf⟩ := df_i T r0
  have N := rm_i M ha hd hg hf
  refine ⟨rfi_f T r0 f hb P, rm_o (da_f T r0 f (fun _ => rfl) (fun _ _ => rfl) ha) (dd_f T r0 f (fun _ => rfl) (fun _ _ => rfl) hd) (dg_f T r0 f (fun _ => rfl) (fun _ _ => rfl) hg) (df_f T r0 f (fun _ => rfl) (fun _ _ => rfl) hf) ?_, (fr_RI f r0 (by decide) (fun _ => rfl)).1⟩
  rw [d52_f r0 f (fun _ => rfl)]
  show _ ≤ B.1 + 1 ∧ _ ≤ B.2 + 8
  omega
theorem rw_told (hF : 700000 ≤ F) (T : TH ρ c h) (r0 : ρ x0 = 16) (P : RfI x0 h) (M : RmR x0 B h) : Sat (sX15_told F h x0 x1) (RP ρ c x0 (B.1 + 1, B.2 + 8) (TpR x0 h)) := rp_1 T r0 P M (zX15_told hF (th_in _ T) r0 (rg_top _)) (fun o e => by rw [told_1 e]; exact ⟨Nat.le_refl _, Nat.le_refl _⟩)
theorem rw_figure (hF : 700000 ≤ F) (T : TH ρ c h) (r0 : ρ x0 = 16) (P : RfI x0 h) (M : RmR x0 B h) : Sat (sX15_figure F h x0 x1 x2) (RP ρ c x0 (B.1 + 1, B.2 + 8) (TpR x0 h)) := rp_1 T r0 P M (zX15_figure hF (th_in _ T) r0 (rg_top _) (rg_top _) (rf_b P)) (fun o e => by
  rcases figure_1 e with q | q <;> rw [q]
  · exact ⟨Nat.le_succ _, Nat.le_add_right _ _⟩
  · exact ⟨Nat.le_refl _, by show h.1.2 + 6 ≤ h.1.2 + 8; omega⟩)
end
end
