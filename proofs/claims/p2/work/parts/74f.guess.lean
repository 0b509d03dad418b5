/-! guesses of the search backwards -/
def gsL : List (Nat × Nat) := [(83, 999), (98, 999), (96, 999), (97, 999), (95, 999), (16, 3), (16, 44), (86, 999), (87, 999), (88, 999), (89, 999), (16, 23), (16, 24), (16, 29)]
/-- what a guess may write -/
def GPm (c : Cm) : Prop := pmA c gsL ∧ pmO c 2528 bpL ∧ pmO c 2530 mpL ∧ pmO c 2532 bpL ∧ pmO c 2545 bpL ∧ ∀ j, j ≤ 2999 → pmO c (11000 + j) bpL
theorem gp_x {ρ ρ1 : Nat → Nat} {c c1 : Cm} (X : Ext ρ c ρ1 c1) (P : GPm c) : GPm c1 :=
  ⟨fun w k i m => ex_p X (P.1 w k i m), fun k i m => ex_p X (P.2.1 k i m), fun k i m => ex_p X (P.2.2.1 k i m), fun k i m => ex_p X (P.2.2.2.1 k i m), fun k i m => ex_p X (P.2.2.2.2.1 k i m), fun j hj k i m => ex_p X (P.2.2.2.2.2 j hj k i m)⟩
def KS (S : Nat → Nat → Nat → Bool) : Prop := fdB S ∧ fdO S ∧ fdT S ∧ (∀ w, S 16 w 44 = false) ∧ (∀ w, S 16 w 4 = false) ∧ (∀ w, S 15 w 15 = false) ∧ (∀ w, S 16 w 11 = false) ∧ (∀ w, S 16 w 12 = false) ∧ (∀ w, S 16 w 13 = false) ∧ ∀ w, S 16 w 45 = false
theorem ks_c {A : List (Nat × Nat)} {L : List (Nat × List (Nat × Nat))} {B : List (Nat × Nat)} {t : Nat} (hB : ∀ k i, (k = 16 ∨ k = 15 ∨ k = 95 ∨ k = 96 ∨ k = 97) → mS B k i = false) (ht : t < 11000) (P : KS (fS A L)) : KS (fS A ((t, B) :: L)) := by
  obtain ⟨⟨a1, a2, a3⟩, ⟨b1, b2⟩, ⟨c1, c2⟩, d1, d2, d3, d4, d5, d6, d7⟩ := P
  refine ⟨⟨fun w => fs_cf (Or.inl (hB _ _ (by omega))) (a1 w), fun w i => fs_cf (Or.inl (hB _ _ (by omega))) (a2 w i), fun j => ?_⟩, ⟨fun w => fs_cf (Or.inl (hB _ _ (by omega))) (b1 w), fun w i => fs_cf (Or.inl (hB _ _ (by omega))) (b2 w i)⟩, ⟨fun w => fs_cf (Or.inl (hB _ _ (by omega))) (c1 w), fun w i => fs_cf (Or.inl (hB _ _ (by omega))) (c2 w i)⟩, fun w => fs_cf (Or.inl (hB _ _ (by omega))) (d1 w), fun w => fs_cf (Or.inl (hB _ _ (by omega))) (d2 w), fun w => fs_cf (Or.inl (hB _ _ (by omega))) (d3 w), fun w => fs_cf (Or.inl (hB _ _ (by omega))) (d4 w), fun w => fs_cf (Or.inl (hB _ _ (by omega))) (d5 w), fun w => fs_cf (Or.inl (hB _ _ (by omega))) (d6 w), fun w => fs_cf (Or.inl (hB _ _ (by omega))) (d7 w)⟩
  obtain ⟨e1, e2, e3, e4, e5⟩ := a3 j
  have n : ¬ 11000 + j = t := by omega
  exact ⟨fs_cf (Or.inr n) e1, fs_cf (Or.inr n) e2, fs_cf (Or.inr n) e3, fun i => fs_cf (Or.inr n) (e4 i), fun i => fs_cf (Or.inr n) (e5 i)⟩
theorem mS_no {B : List (Nat × Nat)} {k i : Nat} (h : ∀ p ∈ B, p.1 ≠ k) : mS B k i = false := by
  induction B with
  | nil => rfl
  | cons p B ih =>
    show ((p.1 == k && (p.2 == 999 || p.2 == i)) || mS B k i) = false
    rw [bq_ne (h p (.head _)), ih (fun q m => h q (.tail _ m))]; rfl
theorem bp_no : ∀ k i, (k = 16 ∨ k = 15 ∨ k = 95 ∨ k = 96 ∨ k = 97) → mS bpL k i = false := fun k i hk => mS_no (fun p hp => by
  have : p.1 < 66 := by
    have all : bpL.all (fun p => decide (p.1 < 66)) = true := rfl
    exact of_decide_eq_true (List.all_eq_true.mp all p hp)
  have : p.1 ≠ 16 ∧ p.1 ≠ 15 := by
    have all : bpL.all (fun p => decide (p.1 ≠ 16 ∧ p.1 ≠ 15)) = true := rfl
    exact of_decide_eq_true (List.all_eq_true.mp all p hp)
  omega)
theorem mp_no : ∀ k i, (k = 16 ∨ k = 15 ∨ k = 95 ∨ k = 96 ∨ k = 97) → mS mpL k i = false := fun k i hk => mS_no (fun p hp => by
  have : p.1 < 73 := by
    have all : mpL.all (fun p => decide (p.1 < 73)) = true := rfl
    exact of_decide_eq_true (List.all_eq_true.mp all p hp)
  have : p.1 ≠ 16 ∧ p.1 ≠ 15 := by
    have all : mpL.all (fun p => decide (p.1 ≠ 16 ∧ p.1 ≠ 15)) = true := rfl
    exact of_decide_eq_true (List.all_eq_true.mp all p hp)
  omega)
theorem ks_n0 : KS (fS [] []) := ⟨⟨fun _ => rfl, fun _ _ => rfl, fun _ => ⟨rfl, rfl, rfl, fun _ => rfl, fun _ => rfl⟩⟩, ⟨fun _ => rfl, fun _ _ => rfl⟩, ⟨fun _ => rfl, fun _ _ => rfl⟩, fun _ => rfl, fun _ => rfl, fun _ => rfl, fun _ => rfl, fun _ => rfl, fun _ => rfl, fun _ => rfl⟩
theorem ks_45 : KS (fS [] [(2545, bpL)]) := ks_c bp_no (by decide) ks_n0
abbrev mcL : List (Nat × Nat) := [(87, 999), (88, 999), (89, 999), (16, 23), (16, 24)]
theorem ks_mc : KS (fS mcL []) := ⟨⟨fun _ => rfl, fun _ _ => rfl, fun _ => ⟨rfl, rfl, rfl, fun _ => rfl, fun _ => rfl⟩⟩, ⟨fun _ => rfl, fun _ _ => rfl⟩, ⟨fun _ => rfl, fun _ _ => rfl⟩, fun _ => rfl, fun _ => rfl, fun _ => rfl, fun _ => rfl, fun _ => rfl, fun _ => rfl, fun _ => rfl⟩
abbrev ldL : List (Nat × Nat) := [(86, 999), (87, 999), (88, 999), (89, 999), (16, 23), (16, 24), (16, 29)]
abbrev ldS : Nat → Nat → Nat → Bool := fS ldL [(2528, bpL), (2530, mpL), (2532, bpL)]
theorem ks_ld0 : KS (fS ldL []) := ⟨⟨fun _ => rfl, fun _ _ => rfl, fun _ => ⟨rfl, rfl, rfl, fun _ => rfl, fun _ => rfl⟩⟩, ⟨fun _ => rfl, fun _ _ => rfl⟩, ⟨fun _ => rfl, fun _ _ => rfl⟩, fun _ => rfl, fun _ => rfl, fun _ => rfl, fun _ => rfl, fun _ => rfl, fun _ => rfl, fun _ => rfl⟩
theorem ks_ld : KS ldS := ks_c bp_no (by decide) (ks_c mp_no (by decide) (ks_c bp_no (by decide) ks_ld0))
abbrev frS : Nat → Nat → Nat → Bool := fun k w i => mS fdL k i || (mS bpL k i && fdW w)
theorem frs_p {c : Cm} (P : GPm c) : ∀ k w i, frS k w i = true → cPm c k w i = true := fun k w i m => by
  have m' : (mS fdL k i || (mS bpL k i && fdW w)) = true := m
  rw [Bool.or_eq_true, Bool.and_eq_true] at m'
  rcases m' with a | ⟨a, b⟩
  · exact (pmA_s P.1 rfl : pmA c fdL) w k i a
  · unfold fdW at b
    rw [Bool.and_eq_true, decide_eq_true_eq, decide_eq_true_eq] at b
    have e : w = 11000 + (w - 11000) := by omega
    rw [e]
    exact P.2.2.2.2.2 (w - 11000) (by omega) k i a
/-- what holds through the search -/
def GI (x0 : Nat) (h : Hp) : Prop := SqOk x0 h ∧ FdP x0 h ∧ ∃ r, hR h x0 4 = some r ∧ hI h r 15 = 0
def GBd (x0 g : Nat) (h : Hp) : Prop := hR h x0 45 = some g ∧ hJ h g 2 = 0 ∧ hI h g 3 = 0
section
variable {ρ : Nat → Nat} {c : Cm} {h o : Hp} {S : Nat → Nat → Nat → Bool} {x0 b g w i F : Nat} {n : Int} {x1 x2 x3 x4 x5 x6 : Int32}
theorem gi_fr (T : TH ρ c h) (r0 : ρ x0 = 16) (f : Fr ρ (cat c S h) h o) (s : KS S) (P : GI x0 h) : GI x0 o := by
  obtain ⟨s1, s2, s3, s4, s5, s6, s7, s8, s9, s10⟩ := s
  obtain ⟨p1, p2, r, p3, p4⟩ := P
  refine ⟨sq_fr T r0 f s7 s8 s9 p1, fd_fr T r0 f s1 s2 s3 s4 p2, r, ?_, ?_⟩
  · rw [(fr_RI f r0 (by decide) s5).2.2]; exact p3
  · rw [(fr_RI f (rr T (thR T r0 (i := 4) (k2 := 15) rfl (by decide)) p3) (by decide) s6).1]; exact p4
theorem g45_r (T : TH ρ c h) (r0 : ρ x0 = 16) (e : hR h x0 45 = some g) : ρ g = 13 ∧ cw c g = 2545 := ⟨rr T (thR T r0 (i := 45) (k2 := 13) rfl (by decide)) e, kid_w T r0 (i := 45) rfl (by decide) e⟩
theorem gbd_fr (T : TH ρ c h) (r0 : ρ x0 = 16) (f : Fr ρ (cat c S h) h o) (s : ∀ w, S 16 w 45 = false) (s2 : S 13 2545 2 = false) (s3 : S 13 2545 3 = false) (P : GBd x0 g h) : GBd x0 g o := by
  obtain ⟨p1, p2, p3⟩ := P
  obtain ⟨rg, wg⟩ := g45_r T r0 p1
  refine ⟨?_, ?_, ?_⟩
  · rw [(fr_RI f r0 (by decide) s).2.2]; exact p1
  · have := (f.1 g 2 (by rw [rg]; decide) (by rw [rg]; show S 13 (cw c g) 2 = false; rw [wg]; exact s2)).2.1
    rw [this]; exact p2
  · rw [fr_I f rg (by decide) wg s3]; exact p3
theorem val_r (i1 : Rg 0 11 x1) (i2 : Rg 0 1 x2) : Rg 1 24 (((1 : Int32) + ((2 : Int32) * x1)) + x2) := by
  have e2 : (2 : Int32).toInt = 2 := rfl
  have e1 : (1 : Int32).toInt = 1 := rfl
  have e4 : ((2 : Int32) * x1).toInt = 2 * x1.toInt := by rw [tm (by rw [e2]; have := i1.1; have := i1.2; omega), e2]
  have e6 : ((1 : Int32) + ((2 : Int32) * x1)).toInt = 1 + 2 * x1.toInt := by rw [ta (by rw [e4, e1]; have := i1.1; have := i1.2; omega), e4, e1]
  have e7 : (((1 : Int32) + ((2 : Int32) * x1)) + x2).toInt = 1 + 2 * x1.toInt + x2.toInt := by rw [ta (by rw [e6]; have := i1.1; have := i1.2; have := i2.1; have := i2.2; omega), e6]
  exact ⟨by rw [e7]; have := i1.1; have := i2.1; omega, by rw [e7]; have := i1.2; have := i2.2; omega⟩
/-- from the men on: may he come, does it lead there, is there room -/
theorem gs_110 {k3 : Hp → Nat → Nat → Int32 → Int32 → Int32 → Int32 → Option (Int32 × Hp)} {t0 : Int32} {M : Nat} (hF : 700000 ≤ F) (P : GPm c) (T : TH ρ c h) (r0 : ρ x0 = 16) (rb : ρ b = 13) (i2 : Rg 0 63 x2) (i3 : Rg 0 63 x3) (i5 : Rg 0 12 x5) (I : GI x0 h) (B : GBd x0 g h) (eM : hR h g 0 = some M) (it : Rg 1 24 t0)
    (K : ∀ o ρ1 c1 y, Ext ρ c ρ1 c1 → TH ρ1 c1 o → GI x0 o → y.toInt = x5.toInt + 1 → Sat (k3 o x0 b x2 x3 x4 y) (MkI ρ1 c1 0 1 (GI x0))) : Sat (sX15_guesses_110 F k3 h x0 b x2 x3 x4 x5 t0 x3 M) (MkI ρ c 0 1 (GI x0)) := by
  unfold sX15_guesses_110 sX15_guesses_117 sX15_guesses_125 sX15_guesses_132
  obtain ⟨rg, wg⟩ := g45_r T r0 B.1
  have rM : ρ M = 62 := rr T (thR T rg (i := 0) (k2 := 62) rfl (by decide)) eM
  have wM : cw c M = 2545 := th_ih T rg (k := 13) rfl eM wg
  have stop : ∀ {o : Hp} {ρ1 : Nat → Nat} {c1 : Cm}, Ext ρ c ρ1 c1 → TH ρ1 c1 o → GI x0 o → Sat (sX15_guesses_137 F k3 o x0 b x2 x3 x4 x5) (MkI ρ c 0 1 (GI x0)) := fun {o ρ1 c1} X To Io => by
    unfold sX15_guesses_137
    refine s_q (fun y ey => ?_)
    have ey2 : y.toInt = x5.toInt + 1 := by rw [ey]; exact (nc_s i5 (by decide)).2
    clear ey
    exact mI_ext X (K o ρ1 c1 y X To Io ey2)
  refine s_gd (by rw [thN T rM (k := 62) (n := 64) rfl (by decide)]; exact rg_inB i3 (by decide)) ?_
  refine s_hq (th_wI T rM (k := 62) (lo := 0) (hi := 24) rfl (rg_m it (by decide)) (by decide) (by decide) (by rw [wM]; exact P.2.2.2.2.1 _ _ rfl)) (fun h2 T2 w2 => ?_)
  have f2 := fr1Io (c := c) (B := bpL) rM wM rfl w2
  have I2 := gi_fr T r0 f2 ks_45 I
  have B2 : GBd x0 g h2 := by
    obtain ⟨p1, p2, p3⟩ := B
    refine ⟨by rw [w2]; exact p1, by rw [w2]; exact p2, ?_⟩
    rw [w2, r_I, if_neg (ne_r rg rM (by decide))]; exact p3
  have gs : GsM x0 x3 h2 := fun b' m e1 e2 => by
    have hz := r_eq B2.1 e1
    subst hz
    have e2' : hR h b' 0 = some m := by rw [w2] at e2; exact e2
    have hz := r_eq eM e2'
    subst hz
    rw [he_s w2]
    exact it.1
  refine s_cIf T2 (fs_sub (pmA_s P.1 rfl) fs_n) (zX15_mayCome (c := cat c (fS mcL []) h2) hF fs_a (th_in _ T2) r0 i3 i2 gs) (fun o3 T3 i3' f3 => ?_)
  have I3 := gi_fr T2 r0 f3 ks_mc I2
  have B3 := gbd_fr T2 r0 f3 (fun _ => rfl) rfl rfl B2
  refine s_br (fun _ => stop ex_0 T3 I3) (fun _ => ?_)
  refine s_cIfq (P := fun o => sX15_leadsTo F o3.2 x0 b = some o) T3 (S := ldS) (fs_sub (pmA_s P.1 rfl) (fs_c P.2.1 (fs_c P.2.2.1 (fs_c P.2.2.2.1 fs_n)))) (s_weq (zX15_leadsTo hF fs_a (fs_o (.head _)) (fs_o (.tail _ (.head _))) (fs_o (.tail _ (.tail _ (.head _)))) rfl (th_in _ T3) r0 rb I3.1)) (fun o4 T4 i4 f4 e4 => ?_)
  have I4 := gi_fr T3 r0 f4 ks_ld I3
  have B4 := gbd_fr T3 r0 f4 (ks_ld.2.2.2.2.2.2.2.2.2) rfl rfl B3
  refine s_br (fun _ => stop ex_0 T4 I4) (fun nz => ?_)
  have hz3 := leads_hz hF T3 r0 e4 nz g B3.1
  obtain ⟨rg3, wg3⟩ := g45_r T3 r0 B3.1
  have hz4 := (hz_fr T3 r0 rg3 wg3 f4 ks_ld.2.2.2.2.1 ks_ld.2.2.2.2.2.1 rfl (fun _ => rfl)).mp hz3
  obtain ⟨r, er, e15⟩ := I4.2.2
  have G4 : GZ x0 g o4.2 := ⟨B4.1, B4.2.1, B4.2.2, fun H eH j hj => hz4 r H er e15 eH j hj⟩
  refine s_mI (S := frS) T4 (frs_p P) (zX15_findsRoom hF (fun w k i m => by show (mS fdL k i || (mS bpL k i && fdW w)) = true; rw [m]; rfl) (fun j hj k i m => by show (mS fdL k i || (mS bpL k i && fdW (11000 + j))) = true; rw [m, fdW_t hj, Bool.and_true, Bool.or_true]) (th_in _ T4) r0 I4.2.1 G4) (fun o5 ρ5 c5 X5 T5 f5 j5 P5 => ?_)
  have I5 : GI x0 o5.2 := ⟨sq_fr T4 r0 f5 (fun _ => rfl) (fun _ => rfl) (fun _ => rfl) I4.1, P5, r, by rw [(fr_RI f5 r0 (by decide) (fun _ => rfl)).2.2]; exact er, by rw [(fr_RI f5 (rr T4 (thR T4 r0 (i := 4) (k2 := 15) rfl (by decide)) er) (by decide) (fun _ => rfl)).1]; exact e15⟩
  exact s_br (fun _ => s_some ⟨ρ5, c5, X5, T5, rg_b rfl, I5⟩) (fun _ => stop X5 T5 I5)
end
