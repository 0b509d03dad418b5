def KSY (S : Nat → Nat → Nat → Bool) : Prop := fdBY S ∧ fdO S ∧ fdT S ∧ (∀ w, S 16 w 44 = false) ∧ (∀ w, S 16 w 4 = false) ∧ (∀ w, S 15 w 15 = false) ∧ (∀ w, S 16 w 11 = false) ∧ (∀ w, S 16 w 12 = false) ∧ (∀ w, S 16 w 13 = false) ∧ ∀ w, S 16 w 45 = false
theorem ks_cY {A : List (Nat × Nat)} {L : List (Nat × List (Nat × Nat))} {B : List (Nat × Nat)} {t : Nat} (hB : ∀ k i, (k = 16 ∨ k = 15 ∨ k = 95 ∨ k = 96 ∨ k = 97) → mS B k i = false) (ht : t < 11000) (P : KSY (fS A L)) : KSY (fS A ((t, B) :: L)) := by
  obtain ⟨⟨a1, a2, a3⟩, ⟨b1, b2⟩, ⟨c1, c2⟩, d1, d2, d3, d4, d5, d6, d7⟩ := P
  refine ⟨⟨fun w => fs_cf (Or.inl (hB _ _ (by omega))) (a1 w), fun w i => fs_cf (Or.inl (hB _ _ (by omega))) (a2 w i), fun j => ?_⟩, ⟨fun w => fs_cf (Or.inl (hB _ _ (by omega))) (b1 w), fun w i => fs_cf (Or.inl (hB _ _ (by omega))) (b2 w i)⟩, ⟨fun w => fs_cf (Or.inl (hB _ _ (by omega))) (c1 w), fun w i => fs_cf (Or.inl (hB _ _ (by omega))) (c2 w i)⟩, fun w => fs_cf (Or.inl (hB _ _ (by omega))) (d1 w), fun w => fs_cf (Or.inl (hB _ _ (by omega))) (d2 w), fun w => fs_cf (Or.inl (hB _ _ (by omega))) (d3 w), fun w => fs_cf (Or.inl (hB _ _ (by omega))) (d4 w), fun w => fs_cf (Or.inl (hB _ _ (by omega))) (d5 w), fun w => fs_cf (Or.inl (hB _ _ (by omega))) (d6 w), fun w => fs_cf (Or.inl (hB _ _ (by omega))) (d7 w)⟩
  obtain ⟨e1, e2, e3, e4⟩ := a3 j
  have n : ¬ 11000 + j = t := by omega
  exact ⟨fun i hi => fs_cf (Or.inr n) (e1 i hi), fun i => fs_cf (Or.inr n) (e2 i), fun i => fs_cf (Or.inr n) (e3 i), fun i => fs_cf (Or.inr n) (e4 i)⟩
theorem ks_n0Y : KSY (fS [] []) := ⟨⟨fun _ => rfl, fun _ _ => rfl, fun _ => ⟨fun _ _ => rfl, fun _ => rfl, fun _ => rfl, fun _ => rfl⟩⟩, ⟨fun _ => rfl, fun _ _ => rfl⟩, ⟨fun _ => rfl, fun _ _ => rfl⟩, fun _ => rfl, fun _ => rfl, fun _ => rfl, fun _ => rfl, fun _ => rfl, fun _ => rfl, fun _ => rfl⟩
theorem ks_45Y : KSY (fS [] [(2545, bpL)]) := ks_cY bp_no (by decide) ks_n0Y
theorem ks_mcY : KSY (fS mcL []) := ⟨⟨fun _ => rfl, fun _ _ => rfl, fun _ => ⟨fun _ _ => rfl, fun _ => rfl, fun _ => rfl, fun _ => rfl⟩⟩, ⟨fun _ => rfl, fun _ _ => rfl⟩, ⟨fun _ => rfl, fun _ _ => rfl⟩, fun _ => rfl, fun _ => rfl, fun _ => rfl, fun _ => rfl, fun _ => rfl, fun _ => rfl, fun _ => rfl⟩
theorem ks_ld0Y : KSY (fS ldL []) := ⟨⟨fun _ => rfl, fun _ _ => rfl, fun _ => ⟨fun _ _ => rfl, fun _ => rfl, fun _ => rfl, fun _ => rfl⟩⟩, ⟨fun _ => rfl, fun _ _ => rfl⟩, ⟨fun _ => rfl, fun _ _ => rfl⟩, fun _ => rfl, fun _ => rfl, fun _ => rfl, fun _ => rfl, fun _ => rfl, fun _ => rfl, fun _ => rfl⟩
theorem ks_ldY : KSY ldS := ks_cY bp_no (by decide) (ks_cY mp_no (by decide) (ks_cY bp_no (by decide) ks_ld0Y))
def GIY (zq : Nat) (Bq : Nat × Nat) (x0 : Nat) (h : Hp) : Prop := SqOk x0 h ∧ FdPY zq Bq x0 h ∧ ∃ r, hR h x0 4 = some r ∧ hI h r 15 = 0
section
variable {zq : Nat} {Bq : Nat × Nat} {ρ : Nat → Nat} {c : Cm} {h o : Hp} {S : Nat → Nat → Nat → Bool} {x0 b g w i F : Nat} {n : Int} {x1 x2 x3 x4 x5 x6 : Int32}
theorem gi_frY (T : TH ρ c h) (r0 : ρ x0 = 16) (f : Fr ρ (cat c S h) h o) (s : KSY S) (P : GIY zq Bq x0 h) (q1 : o.1 = h.1 := by first | assumption | (apply th1e <;> assumption)) : GIY zq Bq x0 o := by
  obtain ⟨s1, s2, s3, s4, s5, s6, s7, s8, s9, s10⟩ := s
  obtain ⟨p1, p2, r, p3, p4⟩ := P
  refine ⟨sq_fr T r0 f s7 s8 s9 p1, fd_frY T r0 f s1 s2 s3 s4 p2, r, ?_, ?_⟩
  · rw [(fr_RI f r0 (by decide) s5).2.2]; exact p3
  · rw [(fr_RI f (rr T (thR T r0 (i := 4) (k2 := 15) rfl (by decide)) p3) (by decide) s6).1]; exact p4
theorem gs_110Y {k3 : Hp → Nat → Nat → Int32 → Int32 → Int32 → Int32 → Option (Int32 × Hp)} {t0 : Int32} {M : Nat} (hF : 700000 ≤ F) (P : GPm c) (T : TH ρ c h) (r0 : ρ x0 = 16) (rb : ρ b = 13) (i2 : Rg 0 63 x2) (i3 : Rg 0 63 x3) (i5 : Rg 0 12 x5) (I : GIY zq Bq x0 h) (B : GBd x0 g h) (eM : hR h g 0 = some M) (it : Rg 1 24 t0)
    (K : ∀ o ρ1 c1 y, Ext ρ c ρ1 c1 → TH ρ1 c1 o → GIY zq Bq x0 o → y.toInt = x5.toInt + 1 → Sat (k3 o x0 b x2 x3 x4 y) (MkI ρ1 c1 0 1 (GIY zq Bq x0))) : Sat (sX15_guesses_110 F k3 h x0 b x2 x3 x4 x5 t0 x3 M) (MkI ρ c 0 1 (GIY zq Bq x0)) := by
  unfold sX15_guesses_110 sX15_guesses_117 sX15_guesses_125 sX15_guesses_132
  obtain ⟨rg, wg⟩ := g45_r T r0 B.1
  have rM : ρ M = 62 := rr T (thR T rg (i := 0) (k2 := 62) rfl (by decide)) eM
  have wM : cw c M = 2545 := th_ih T rg (k := 13) rfl eM wg
  have stop : ∀ {o : Hp} {ρ1 : Nat → Nat} {c1 : Cm}, Ext ρ c ρ1 c1 → TH ρ1 c1 o → GIY zq Bq x0 o → Sat (sX15_guesses_137 F k3 o x0 b x2 x3 x4 x5) (MkI ρ c 0 1 (GIY zq Bq x0)) := fun {o ρ1 c1} X To Io => by
    unfold sX15_guesses_137
    refine s_q (fun y ey => ?_)
    have ey2 : y.toInt = x5.toInt + 1 := by rw [ey]; exact (nc_s i5 (by decide)).2
    clear ey
    exact mI_ext X (K o ρ1 c1 y X To Io ey2)
  refine s_gd (by rw [thN T rM (k := 62) (n := 64) rfl (by decide)]; exact rg_inB i3 (by decide)) ?_
  refine s_hq (th_wI T rM (k := 62) (lo := 0) (hi := 24) rfl (rg_m it (by decide)) (by decide) (by decide) (by rw [wM]; exact P.2.2.2.2.1 _ _ rfl)) (fun h2 T2 w2 => ?_)
  have f2 := fr1Io (c := c) (B := bpL) rM wM rfl w2
  have I2 := gi_frY T r0 f2 ks_45Y I
  have B2 : GBd x0 g h2 := by
    obtain ⟨p1, p2, p3⟩ := B
    refine ⟨by rw [w2]; exact p1, by rw [w2]; exact p2, ?_⟩
    rw [w2, r_I, if_neg (ne_r rg rM (by decide))]; exact p3
  have gs : GsM x0 x3 h2 := fun b' m e1 e2 => by
    have hz := r_eq B2.1 e1
    subst hz
    have e2' : hR h b' 0 = some m := by rw [w2] at e2; exact e2
    have hz := r_eq eM e2'
    subst hz
    rw [he_s w2]
    exact it.1
  refine s_cIf T2 (fs_sub (pmA_s P.1 rfl) fs_n) (zX15_mayCome (c := cat c (fS mcL []) h2) hF fs_a (th_in _ T2) r0 i3 i2 gs) (fun o3 T3 i3' f3 => ?_)
  have I3 := gi_frY T2 r0 f3 ks_mcY I2
  have B3 := gbd_fr T2 r0 f3 (fun _ => rfl) rfl rfl B2
  refine s_br (fun _ => stop ex_0 T3 I3) (fun _ => ?_)
  refine s_cIfq (P := fun o => sX15_leadsTo F o3.2 x0 b = some o) T3 (S := ldS) (fs_sub (pmA_s P.1 rfl) (fs_c P.2.1 (fs_c P.2.2.1 (fs_c P.2.2.2.1 fs_n)))) (s_weq (zX15_leadsTo hF fs_a (fs_o (.head _)) (fs_o (.tail _ (.head _))) (fs_o (.tail _ (.tail _ (.head _)))) rfl (th_in _ T3) r0 rb I3.1)) (fun o4 T4 i4 f4 e4 => ?_)
  have I4 := gi_frY T3 r0 f4 ks_ldY I3
  have B4 := gbd_fr T3 r0 f4 (ks_ldY.2.2.2.2.2.2.2.2.2) rfl rfl B3
  refine s_br (fun _ => stop ex_0 T4 I4) (fun nz => ?_)
  have hz3 := leads_hz hF T3 r0 e4 nz g B3.1
  obtain ⟨rg3, wg3⟩ := g45_r T3 r0 B3.1
  have hz4 := (hz_fr T3 r0 rg3 wg3 f4 ks_ldY.2.2.2.2.1 ks_ldY.2.2.2.2.2.1 rfl (fun _ => rfl)).mp hz3
  obtain ⟨r, er, e15⟩ := I4.2.2
  have G4 : GZ x0 g o4.2 := ⟨B4.1, B4.2.1, B4.2.2, fun H eH j hj => hz4 r H er e15 eH j hj⟩
  refine s_mI (S := frS) T4 (frs_p P) (zX15_findsRoomY hF (fun w k i m => by show (mS fdL k i || (mS bpL k i && fdW w)) = true; rw [m]; rfl) (fun j hj k i m => by show (mS fdL k i || (mS bpL k i && fdW (11000 + j))) = true; rw [m, fdW_t hj, Bool.and_true, Bool.or_true]) (th_in _ T4) r0 I4.2.1 G4) (fun o5 ρ5 c5 X5 T5 f5 j5 P5 => ?_)
  have I5 : GIY zq Bq x0 o5.2 := ⟨sq_fr T4 r0 f5 (fun _ => rfl) (fun _ => rfl) (fun _ => rfl) I4.1, P5, r, by rw [(fr_RI f5 r0 (by decide) (fun _ => rfl)).2.2]; exact er, by rw [(fr_RI f5 (rr T4 (thR T4 r0 (i := 4) (k2 := 15) rfl (by decide)) er) (by decide) (fun _ => rfl)).1]; exact e15⟩
  exact s_br (fun _ => s_some ⟨ρ5, c5, X5, T5, rg_b rfl, I5⟩) (fun _ => stop X5 T5 I5)
end
