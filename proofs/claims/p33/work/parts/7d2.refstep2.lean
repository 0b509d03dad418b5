/-! calls of the reference that make boards of games, places, boards at a depth -/
section
variable {zq : Nat} {ρ ρ1 : Nat → Nat} {c c1 : Cm} {h o g : Hp} {S : Nat → Nat → Nat → Bool} {E : Nat → Nat → Bool} {wb wl p : Nat → Bool} {x0 a b k w i F : Nat} {B Bq : Nat × Nat} {lo hi : Int} {A : List (Nat × Nat)} {L : List (Nat × List (Nat × Nat))} {x1 x2 x3 x4 x5 : Int32}
theorem cl_id2 {β : Type} (m : Option β) : cl m (fun o => some o) = m := by cases m <;> rfl
/-- a call that makes things -/
theorem rp_m {m : Option (Int32 × Hp)} {K Q : Hp → Prop} (hs : ∀ k w i, S k w i = true → cPm c k w i = true) (T : TH ρ c h) (Z : Sat m (MkI ρ (cat c S h) lo hi K)) (H : ∀ o ρ1 c1, Ext ρ c ρ1 c1 → TH ρ1 c1 o → Fr ρ (cat c S h) h o → K o → RfI x0 o ∧ RmR x0 B o ∧ Q o) : Sat m (RP ρ c x0 B Q) := by
  have y : Sat (cl m (fun o => some o)) (RP ρ c x0 B Q) := s_mI T hs Z (fun o ρ1 c1 X T1 f _ k => by
    obtain ⟨a1, a2, a3⟩ := H o.2 ρ1 c1 X T1 f k
    exact s_some ⟨ρ1, c1, X, T1, a1, a2, a3⟩)
  rw [cl_id2] at y
  exact y
/-- the rest of the invariant, by parts of the frame -/
theorem rfi_p (T : TH ρ c h) (r0 : ρ x0 = 16) (f : Fr ρ (cat c S h) h o) (P : RfI x0 h) (s11 : ∀ w, S 16 w 11 = false) (s12 : ∀ w, S 16 w 12 = false) (s13 : ∀ w, S 16 w 13 = false) (hB : cB S ∨ ∃ B, BdY (sqN x0 h) B x0 o) (hG : cG S ∨ ∃ B, GaY (sqN x0 h) B x0 o) (hD : cD S ∨ DpP x0 o) (hP : cP S ∨ PbP x0 o) (hF : cF S ∨ ∃ B, FdPY (sqN x0 h) B x0 o) (hE : cEn S ∨ EnR x0 o) (hN : NoG x0 o) : RfI x0 o := by
  obtain ⟨p1, ⟨B1, p2⟩, ⟨B2, p3⟩, p4, p5, ⟨B3, p6⟩, p7, p8⟩ := P
  have e : sqN x0 o = sqN x0 h := rfl
  refine ⟨sq_fr T r0 f s11 s12 s13 p1, ?_, ?_, ?_, ?_, ?_, ?_, hN⟩
  · rw [e]; rcases hB with q | q
    · exact bdy_ex T r0 f q p2
    · exact q
  · rw [e]; rcases hG with q | q
    · exact gay_ex T r0 f q p8 p3
    · exact q
  · rcases hD with q | q
    · exact dpp_f T r0 f q p4
    · exact q
  · rcases hP with q | q
    · exact pbp_f T r0 f q p5
    · exact q
  · rw [e]; rcases hF with q | q
    · exact fdy_ex T r0 f q.1 q.2.1 q.2.2.1 q.2.2.2 p6
    · exact q
  · rcases hE with q | q
    · exact enr_f T r0 f q p7
    · exact q
/-- dues, as numbers -/
def dA (x0 : Nat) (h : Hp) (n : Nat) : Prop := ∃ a, hR h x0 14 = some a ∧ nuC h a 60 = n
def dD (x0 : Nat) (h : Hp) (n : Nat) : Prop := ∃ a, hR h x0 33 = some a ∧ nuC h a 10 = n
def dG (x0 : Nat) (h : Hp) (n : Nat) : Prop := ∃ a, hR h x0 37 = some a ∧ nuC h a 2408 = n
def dF (x0 : Nat) (h : Hp) (n : Nat) : Prop := ∃ a, hR h x0 40 = some a ∧ nuC h a 3000 = n
def d52 (x0 : Nat) (h : Hp) : Nat := if (hR h x0 52).isNone then 1 else 0
theorem rm_i {na nd ng nf : Nat} (M : RmR x0 B h) (ha : dA x0 h na) (hd : dD x0 h nd) (hg : dG x0 h ng) (hf : dF x0 h nf) : h.1.1 + 5 * na + 13 * nd + 5 * ng + 5 * nf + d52 x0 h ≤ B.1 ∧ h.1.2 + 162 * na + 21170 * nd + 162 * ng + 162 * nf + 1500000 * d52 x0 h ≤ B.2 := by
  obtain ⟨a, ea, qa⟩ := ha
  obtain ⟨d, ed, qd⟩ := hd
  obtain ⟨g, eg, qg⟩ := hg
  obtain ⟨f, ef, qf⟩ := hf
  have := M a d g f ea ed eg ef
  rw [qa, qd, qg, qf] at this
  unfold d52
  split at this <;> rename_i z <;> simp only [z] <;> simp <;> omega
theorem rm_o {na nd ng nf : Nat} (ha : dA x0 h na) (hd : dD x0 h nd) (hg : dG x0 h ng) (hf : dF x0 h nf) (q : h.1.1 + 5 * na + 13 * nd + 5 * ng + 5 * nf + d52 x0 h ≤ B.1 ∧ h.1.2 + 162 * na + 21170 * nd + 162 * ng + 162 * nf + 1500000 * d52 x0 h ≤ B.2) : RmR x0 B h := fun a d g f ea ed eg ef => by
  obtain ⟨a', ea', qa⟩ := ha
  obtain ⟨d', ed', qd⟩ := hd
  obtain ⟨g', eg', qg⟩ := hg
  obtain ⟨f', ef', qf⟩ := hf
  rw [r_eq ea' ea, r_eq ed' ed, r_eq eg' eg, r_eq ef' ef, qa, qd, qg, qf]
  unfold d52 at q
  split <;> rename_i z <;> simp only [z] at q <;> simp at q <;> omega
theorem da_i (T : TH ρ c h) (r0 : ρ x0 = 16) : ∃ n, dA x0 h n := by
  obtain ⟨a, ea, qa⟩ := thR T r0 (i := 14) (k2 := 84) rfl (by decide)
  exact ⟨_, a, ea, rfl⟩
theorem dd_i (T : TH ρ c h) (r0 : ρ x0 = 16) : ∃ n, dD x0 h n := by
  obtain ⟨a, ea, qa⟩ := thR T r0 (i := 33) (k2 := 90) rfl (by decide)
  exact ⟨_, a, ea, rfl⟩
theorem dg_i (T : TH ρ c h) (r0 : ρ x0 = 16) : ∃ n, dG x0 h n := by
  obtain ⟨a, ea, qa⟩ := thR T r0 (i := 37) (k2 := 92) rfl (by decide)
  exact ⟨_, a, ea, rfl⟩
theorem df_i (T : TH ρ c h) (r0 : ρ x0 = 16) : ∃ n, dF x0 h n := by
  obtain ⟨a, ea, qa⟩ := thR T r0 (i := 40) (k2 := 95) rfl (by decide)
  exact ⟨_, a, ea, rfl⟩
theorem da_f {n : Nat} (T : TH ρ c h) (r0 : ρ x0 = 16) (f : Fr ρ (cat c S h) h o) (s : ∀ w, S 16 w 14 = false) (t : ∀ w i, S 84 w i = false) (d : dA x0 h n) : dA x0 o n := by
  obtain ⟨a, ea, qa⟩ := d
  have q := rr T (thR T r0 (i := 14) (k2 := 84) rfl (by decide)) ea
  exact ⟨a, by rw [(fr_RI f r0 (by decide) s).2.2]; exact ea, by rw [nuC_eq 60 (fun i _ => (fr_RI f q (by decide) (fun w => t w i)).2.2)]; exact qa⟩
theorem dd_f {n : Nat} (T : TH ρ c h) (r0 : ρ x0 = 16) (f : Fr ρ (cat c S h) h o) (s : ∀ w, S 16 w 33 = false) (t : ∀ w i, S 90 w i = false) (d : dD x0 h n) : dD x0 o n := by
  obtain ⟨a, ea, qa⟩ := d
  have q := rr T (thR T r0 (i := 33) (k2 := 90) rfl (by decide)) ea
  exact ⟨a, by rw [(fr_RI f r0 (by decide) s).2.2]; exact ea, by rw [nuC_eq 10 (fun i _ => (fr_RI f q (by decide) (fun w => t w i)).2.2)]; exact qa⟩
theorem dg_f {n : Nat} (T : TH ρ c h) (r0 : ρ x0 = 16) (f : Fr ρ (cat c S h) h o) (s : ∀ w, S 16 w 37 = false) (t : ∀ w i, S 92 w i = false) (d : dG x0 h n) : dG x0 o n := by
  obtain ⟨a, ea, qa⟩ := d
  have q := rr T (thR T r0 (i := 37) (k2 := 92) rfl (by decide)) ea
  exact ⟨a, by rw [(fr_RI f r0 (by decide) s).2.2]; exact ea, by rw [nuC_eq 2408 (fun i _ => (fr_RI f q (by decide) (fun w => t w i)).2.2)]; exact qa⟩
theorem df_f {n : Nat} (T : TH ρ c h) (r0 : ρ x0 = 16) (f : Fr ρ (cat c S h) h o) (s : ∀ w, S 16 w 40 = false) (t : ∀ w i, S 95 w i = false) (d : dF x0 h n) : dF x0 o n := by
  obtain ⟨a, ea, qa⟩ := d
  have q := rr T (thR T r0 (i := 40) (k2 := 95) rfl (by decide)) ea
  exact ⟨a, by rw [(fr_RI f r0 (by decide) s).2.2]; exact ea, by rw [nuC_eq 3000 (fun i _ => (fr_RI f q (by decide) (fun w => t w i)).2.2)]; exact qa⟩
theorem d52_f (r0 : ρ x0 = 16) (f : Fr ρ (cat c S h) h o) (s : ∀ w, S 16 w 52 = false) : d52 x0 o = d52 x0 h := by unfold d52; rw [(fr_RI f r0 (by decide) s).2.2]
-- frames of games
theorem cB_sy (n : nice E) (n84 : ∀ i, E 84 i = false) (n85 : ∀ i, E 85 i = false) (n15 : E 16 15 = false) (hb : wb 3400 = false) : cB (SY E wb wl) := by
  have z : ∀ k i, (k = 13 ∨ k = 14 ∨ (62 ≤ k ∧ k ≤ 72) ∨ k = 15) → mS saL k i = false → mS mpL k i = false → SY E wb wl k 3400 i = false := fun k i a0 a1 a2 => sy_f (n.1 k i a0) a1 (Or.inr hb) (Or.inl a2)
  exact ⟨fun _ => sy_f n.2.2.2.2.2 rfl (Or.inl rfl) (Or.inl rfl), fun _ => sy_f n15 rfl (Or.inl rfl) (Or.inl rfl), fun _ i => sy_f (n84 i) rfl (Or.inl rfl) (Or.inl rfl), fun _ i => sy_f (n85 i) rfl (Or.inl rfl) (Or.inl rfl), fun i _ => z _ _ (by omega) rfl rfl, fun i => z _ _ (by omega) rfl rfl, fun i => z _ _ (by omega) rfl rfl, fun i => z _ _ (by omega) rfl rfl⟩
theorem cG_sy (n : nice E) (n92 : ∀ i, E 92 i = false) (hb : ∀ j, wb (5000 + j) = false) : cG (SY E wb wl) := by
  have z : ∀ j k i, (k = 13 ∨ k = 14 ∨ (62 ≤ k ∧ k ≤ 72) ∨ k = 15) → mS saL k i = false → mS mpL k i = false → SY E wb wl k (5000 + j) i = false := fun j k i a0 a1 a2 => sy_f (n.1 k i a0) a1 (Or.inr (hb j)) (Or.inl a2)
  exact ⟨fun _ => sy_f n.2.2.2.2.1 rfl (Or.inl rfl) (Or.inl rfl), fun _ i => sy_f (n92 i) rfl (Or.inl rfl) (Or.inl rfl), fun j _ => ⟨fun i _ => z _ _ _ (by omega) rfl rfl, fun i => z _ _ _ (by omega) rfl rfl, fun i => z _ _ _ (by omega) rfl rfl, fun i => z _ _ _ (by omega) rfl rfl⟩⟩
theorem cF_sy (n : nice E) (n95 : ∀ k i, k = 95 ∨ k = 96 ∨ k = 97 → E k i = false) (nx : ∀ i, i = 40 ∨ i = 41 ∨ i = 42 ∨ i = 44 → E 16 i = false) (hb : ∀ j, wb (11000 + j) = false) : cF (SY E wb wl) := by
  have z : ∀ j k i, (k = 13 ∨ k = 14 ∨ (62 ≤ k ∧ k ≤ 72) ∨ k = 15) → mS saL k i = false → mS mpL k i = false → SY E wb wl k (11000 + j) i = false := fun j k i a0 a1 a2 => sy_f (n.1 k i a0) a1 (Or.inr (hb j)) (Or.inl a2)
  exact ⟨⟨fun _ => sy_f (nx _ (by omega)) rfl (Or.inl rfl) (Or.inl rfl), fun _ i => sy_f (n95 _ i (by omega)) rfl (Or.inl rfl) (Or.inl rfl), fun j => ⟨fun i _ => z _ _ _ (by omega) rfl rfl, fun i => z _ _ _ (by omega) rfl rfl, fun i => z _ _ _ (by omega) rfl rfl, fun i => z _ _ _ (by omega) rfl rfl⟩⟩, ⟨fun _ => sy_f (nx _ (by omega)) rfl (Or.inl rfl) (Or.inl rfl), fun _ i => sy_f (n95 _ i (by omega)) rfl (Or.inl rfl) (Or.inl rfl)⟩, ⟨fun _ => sy_f (nx _ (by omega)) rfl (Or.inl rfl) (Or.inl rfl), fun _ i => sy_f (n95 _ i (by omega)) rfl (Or.inl rfl) (Or.inl rfl)⟩, fun _ => sy_f (nx _ (by omega)) rfl (Or.inl rfl) (Or.inl rfl)⟩
theorem cEn_sy (nx : ∀ i, i = 13 ∨ i = 46 ∨ i = 47 ∨ i = 48 ∨ i = 49 ∨ i = 50 ∨ i = 55 ∨ i = 56 ∨ i = 59 → E 16 i = false) (n99 : ∀ k i, k = 99 ∨ k = 100 ∨ k = 101 ∨ k = 106 ∨ k = 107 → E k i = false) : cEn (SY E wb wl) := ⟨fun _ => sy_f (nx _ (by omega)) rfl (Or.inl rfl) (Or.inl rfl), fun _ => sy_f (nx _ (by omega)) rfl (Or.inl rfl) (Or.inl rfl), fun _ => sy_f (nx _ (by omega)) rfl (Or.inl rfl) (Or.inl rfl), fun _ => sy_f (nx _ (by omega)) rfl (Or.inl rfl) (Or.inl rfl), fun _ => sy_f (nx _ (by omega)) rfl (Or.inl rfl) (Or.inl rfl), fun _ => sy_f (nx _ (by omega)) rfl (Or.inl rfl) (Or.inl rfl), fun _ => sy_f (nx _ (by omega)) rfl (Or.inl rfl) (Or.inl rfl), fun _ => sy_f (nx _ (by omega)) rfl (Or.inl rfl) (Or.inl rfl), fun _ => sy_f (nx _ (by omega)) rfl (Or.inl rfl) (Or.inl rfl), fun _ i => sy_f (n99 _ i (by omega)) rfl (Or.inl rfl) (Or.inl rfl), fun _ i => sy_f (n99 _ i (by omega)) rfl (Or.inl rfl) (Or.inl rfl), fun _ i => sy_f (n99 _ i (by omega)) rfl (Or.inl rfl) (Or.inl rfl), fun _ i => sy_f (n99 _ i (by omega)) rfl (Or.inl rfl) (Or.inl rfl), fun _ i => sy_f (n99 _ i (by omega)) rfl (Or.inl rfl) (Or.inl rfl)⟩
theorem nice_gm : nice gmE2 := by
  refine ⟨fun k i hk => ?_, rfl, rfl, rfl, rfl, rfl⟩
  unfold gmE2
  rw [bq_ne (show k ≠ 92 by omega), bq_ne (show k ≠ 93 by omega), bq_ne (show k ≠ 94 by omega)]; rfl
theorem gm_f {k i : Nat} (hk : k ≠ 92 ∧ k ≠ 93 ∧ k ≠ 94) : gmE2 k i = false := by
  unfold gmE2
  rw [bq_ne hk.1, bq_ne hk.2.1, bq_ne hk.2.2]; rfl
theorem gm_n {i : Nat} (h : 2408 ≤ i) : gmE2 92 i = false := by
  unfold gmE2
  rw [decide_eq_false (show ¬ i ≤ 2407 by omega)]; rfl
theorem sy_r (hp : hpR c) (hE : ∀ k i, E k i = true → rfR k = true ∧ ¬ (k = 16 ∧ (i = 0 ∨ i = 4 ∨ i = 5 ∨ i = 11 ∨ i = 12 ∨ i = 13))) : ∀ k w i, SY E wb wl k w i = true → cPm c k w i = true := fun k w i m => by
  unfold SY at m
  rw [Bool.or_eq_true, Bool.or_eq_true, Bool.or_eq_true, Bool.and_eq_true, Bool.and_eq_true] at m
  rcases m with (a | a) | (⟨a, _⟩ | ⟨a, _⟩)
  · exact hp k w i (hE k i a).1 (hE k i a).2
  · exact pA_r (A := saL) hp rfl w k i a
  · exact pA_r (A := bpL) hp rfl w k i a
  · exact pA_r (A := mpL) hp rfl w k i a
theorem gm_r {k i : Nat} (m : gmE2 k i = true) : rfR k = true ∧ ¬ (k = 16 ∧ (i = 0 ∨ i = 4 ∨ i = 5 ∨ i = 11 ∨ i = 12 ∨ i = 13)) := by
  unfold gmE2 at m
  rw [Bool.or_eq_true, Bool.or_eq_true, Bool.and_eq_true, beq_iff_eq, beq_iff_eq, beq_iff_eq] at m
  rcases m with (m | m) | m
  · rw [m.1]; exact ⟨rfl, fun z => absurd z.1 (by decide)⟩
  · rw [m]; exact ⟨rfl, fun z => absurd z.1 (by decide)⟩
  · rw [m]; exact ⟨rfl, fun z => absurd z.1 (by decide)⟩
/-- a call that makes boards of games -/
theorem rp_g {m : Option (Int32 × Hp)} (hp : hpR c) (h34 : wb 3400 = false) (h11 : ∀ j, wb (11000 + j) = false) (T : TH ρ c h) (r0 : ρ x0 = 16) (P : RfI x0 h) (M : RmR x0 B h) (Z : ∀ Bq, GaY (sqN x0 h) Bq x0 h → Sat m (MkI ρ (cat c (SY gmE2 wb wl) h) lo hi (GaY (sqN x0 h) Bq x0))) : Sat m (RP ρ c x0 B (TpR x0 h)) := by
  obtain ⟨na, ha⟩ := da_i T r0
  obtain ⟨nd, hd⟩ := dd_i T r0
  obtain ⟨ng, hg⟩ := dg_i T r0
  obtain ⟨nf, hf⟩ := df_i T r0
  have N := rm_i M ha hd hg hf
  obtain ⟨B2, G2⟩ := P.2.2.1
  have G : GaY (sqN x0 h) (B.1 - (5 * na + 13 * nd + 5 * nf + d52 x0 h), B.2 - (162 * na + 21170 * nd + 162 * nf + 1500000 * d52 x0 h)) x0 h := ⟨G2.1, fun q eq => by
    obtain ⟨g', eg', qg⟩ := hg
    rw [r_eq eg' eq, qg]
    show _ ≤ B.1 - _ ∧ _ ≤ B.2 - _
    omega⟩
  refine rp_m (sy_r hp (fun k i => gm_r)) T (Z _ G) (fun o ρ1 c1 X T1 f K => ?_)
  have z16 : ∀ {i : Nat}, mS saL 16 i = false → ∀ w, SY gmE2 wb wl 16 w i = false := fun {i} hi w => sy_f (gm_f (by decide)) hi (Or.inl rfl) (Or.inl rfl)
  have zk : ∀ {k : Nat}, (k ≠ 92 ∧ k ≠ 93 ∧ k ≠ 94) → (∀ i, mS saL k i = false) → (∀ i, mS bpL k i = false) → (∀ i, mS mpL k i = false) → ∀ w i, SY gmE2 wb wl k w i = false := fun {k} hk a1 a2 a3 w i => sy_f (gm_f hk) (a1 i) (Or.inl (a2 i)) (Or.inl (a3 i))
  refine ⟨rfi_p T r0 f P (z16 rfl) (z16 rfl) (z16 rfl) (Or.inl (cB_sy nice_gm (fun _ => rfl) (fun _ => rfl) rfl h34)) (Or.inr ⟨_, K⟩) (Or.inl ⟨z16 rfl, z16 rfl, zk (by decide) (fun _ => rfl) (fun _ => rfl) (fun _ => rfl), zk (by decide) (fun _ => rfl) (fun _ => rfl) (fun _ => rfl)⟩) (Or.inl ⟨z16 rfl, z16 rfl⟩) (Or.inl (cF_sy nice_gm (fun k i hk => gm_f (by omega)) (fun i hi => gm_f (by decide)) h11)) (Or.inl (cEn_sy (fun i hi => gm_f (by decide)) (fun k i hk => gm_f (by omega)))) (nog_f T r0 f (z16 rfl) (fun w i hi => sy_f (gm_n hi) rfl (Or.inl rfl) (Or.inl rfl)) P.2.2.2.2.2.2.2), ?_, (fr_RI f r0 (by decide) (z16 rfl)).1⟩
  have ha' := da_f T r0 f (z16 rfl) (zk (by decide) (fun _ => rfl) (fun _ => rfl) (fun _ => rfl)) ha
  have hd' := dd_f T r0 f (z16 rfl) (zk (by decide) (fun _ => rfl) (fun _ => rfl) (fun _ => rfl)) hd
  have hf' := df_f T r0 f (z16 rfl) (zk (by decide) (fun _ => rfl) (fun _ => rfl) (fun _ => rfl)) hf
  have h5 := d52_f r0 f (z16 rfl)
  obtain ⟨ng', hg'⟩ := dg_i T1 (ex_r X r0 (by decide))
  refine rm_o ha' hd' hg' hf' ?_
  obtain ⟨g', eg', qg⟩ := hg'
  have k2 := K.2 g' eg'
  rw [qg] at k2
  have k3 : o.1.1 + 5 * ng' ≤ B.1 - (5 * na + 13 * nd + 5 * nf + d52 x0 h) ∧ o.1.2 + 162 * ng' ≤ B.2 - (162 * na + 21170 * nd + 162 * nf + 1500000 * d52 x0 h) := k2
  rw [h5]
  omega
theorem rw_start (hF : 700000 ≤ F) (hp : hpR c) (T : TH ρ c h) (r0 : ρ x0 = 16) (P : RfI x0 h) (M : RmR x0 B h) : Sat (sX15_start h x0 x1 x2) (RP ρ c x0 B (TpR x0 h)) := by
  obtain ⟨B1, b1⟩ := P.2.1
  exact rp_g (wb := fun w => decide (5000 ≤ w) && decide (w ≤ 7407)) (wl := no) hp rfl (fun j => by simp; omega) T r0 P M (fun Bq G => start_w hF (sx_c _) (th_in _ T) r0 b1 G)
theorem rw_add (hF : 700000 ≤ F) (hp : hpR c) (T : TH ρ c h) (r0 : ρ x0 = 16) (P : RfI x0 h) (M : RmR x0 B h) : Sat (sX15_add F h x0 x1 x2) (RP ρ c x0 B (TpR x0 h)) :=
  rp_g (wb := gmB) (wl := is 2530) hp rfl (fun j => by unfold gmB; simp; omega) T r0 P M (fun Bq G => add_w hF (sx_c _) (th_in _ T) r0 P.1 G)
theorem rw_game (hF : 700000 ≤ F) (hp : hpR c) (T : TH ρ c h) (r0 : ρ x0 = 16) (P : RfI x0 h) (M : RmR x0 B h) : Sat (sX15_game F h x0 x1 x2) (RP ρ c x0 B (TpR x0 h)) :=
  rp_g (wb := is 2528) (wl := g2) hp rfl (fun j => is_f (by omega)) T r0 P M (fun Bq G => game_w hF (sx_c _) (th_in _ T) r0 P.1 G)
theorem rw_book (hF : 700000 ≤ F) (hp : hpR c) (T : TH ρ c h) (r0 : ρ x0 = 16) (P : RfI x0 h) (M : RmR x0 B h) : Sat (sX15_book F h x0 x1 x2) (RP ρ c x0 B (TpR x0 h)) :=
  rp_g (wb := is 2528) (wl := g2) hp rfl (fun j => is_f (by omega)) T r0 P M (fun Bq G => book_w hF (sx_c _) (th_in _ T) r0 (rf_b P) P.1 G)
end
