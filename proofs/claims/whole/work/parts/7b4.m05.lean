section
def KSY (S : Nat → Nat → Nat → Bool) : Prop := fdBY S ∧ fdO S ∧ fdT S ∧ (∀ w, S 16 w 44 = false) ∧ (∀ w, S 16 w 4 = false) ∧ (∀ w, S 15 w 15 = false) ∧ (∀ w, S 16 w 11 = false) ∧ (∀ w, S 16 w 12 = false) ∧ (∀ w, S 16 w 13 = false) ∧ ∀ w, S 16 w 45 = false
theorem ks_cY {A : List (Nat × Nat)} {L : List (Nat × List (Nat × Nat))} {B : List (Nat × Nat)} {t : Nat} (hB : ∀ k i, (k = 16 ∨ k = 15 ∨ k = 95 ∨ k = 96 ∨ k = 97) → mS B k i = false) (ht : t < 11000) (P : KSY (fS A L)) : KSY (fS A ((t, B) :: L)) := by
  obtain ⟨⟨a1, a2, a3⟩, ⟨b1, b2⟩, ⟨c1, c2⟩, d1, d2, d3, d4, d5, d6, d7⟩ := P
  refine ⟨⟨fun w => fs_cf (Or.inl (hB _ _ (by omega))) (a1 w), fun w i => fs_cf (Or.inl (hB _ _ (by omega))) (a2 w i), fun j => ?_⟩, ⟨fun w => fs_cf (Or.inl (hB _ _ (by omega))) (b1 w), fun w i => fs_cf (Or.inl (hB _ _ (by omega))) (b2 w i)⟩, ⟨fun w => fs_cf (Or.inl (hB _ _ (by omega))) (c1 w), fun w i => fs_cf (Or.inl (hB _ _ (by omega))) (c2 w i)⟩, fun w => fs_cf (Or.inl (hB _ _ (by omega))) (d1 w), fun w => fs_cf (Or.inl (hB _ _ (by omega))) (d2 w), fun w => fs_cf (Or.inl (hB _ _ (by omega))) (d3 w), fun w => fs_cf (Or.inl (hB _ _ (by omega))) (d4 w), fun w => fs_cf (Or.inl (hB _ _ (by omega))) (d5 w), fun w => fs_cf (Or.inl (hB _ _ (by omega))) (d6 w), fun w => fs_cf (Or.inl (hB _ _ (by omega))) (d7 w)⟩
  obtain ⟨e1, e2, e3, e4⟩ := a3 j
  have n : ¬ 11000 + j = t := by omega
  exact ⟨fun i hi => fs_cf (Or.inr n) (e1 i hi), fun i => fs_cf (Or.inr n) (e2 i), fun i => fs_cf (Or.inr n) (e3 i), fun i => fs_cf (Or.inr n) (e4 i)⟩
theorem ks_n0Y : KSY (fS [] []) := ⟨⟨fun _ => rfl, fun _ _ => rfl, fun _ => ⟨fun _ _ => rfl, fun _ => rfl, fun _ => rfl, fun _ => rfl⟩⟩, ⟨fun _ => rfl, fun _ _ => rfl⟩, ⟨fun _ => rfl, fun _ _ => rfl⟩, fun _ => rfl, fun _ => rfl, fun _ => rfl, fun _ => rfl, fun _ => rfl, fun _ => rfl, fun _ => rfl⟩
theorem ks_45Y : KSY (fS [] [(2545, bpL)]) := ks_cY bp_no (by decide) ks_n0Y
theorem ks_mcY : KSY (fS mcL []) := ⟨⟨fun _ => rfl, fun _ _ => rfl, fun _ => ⟨fun _ _ => rfl, fun _ => rfl, fun _ => rfl, fun _ => rfl⟩⟩, ⟨fun _ => rfl, fun _ _ => rfl⟩, ⟨fun _ => rfl, fun _ _ => rfl⟩, fun _ => rfl, fun _ => rfl, fun _ => rfl, fun _ => rfl, fun _ => rfl, fun _ => rfl, fun _ => rfl⟩
theorem ks_ld0Y : KSY (fS ldL []) := ⟨⟨fun _ => rfl, fun _ _ => rfl, fun _ => ⟨fun _ _ => rfl, fun _ => rfl, fun _ => rfl, fun _ => rfl⟩⟩, ⟨fun _ => rfl, fun _ _ => rfl⟩, ⟨fun _ => rfl, fun _ _ => rfl⟩, fun _ => rfl, fun _ => rfl, fun _ => rfl, fun _ => rfl, fun _ => rfl, fun _ => rfl, fun _ => rfl⟩
theorem ks_ldY : KSY ldS := ks_cY bp_no (by decide) (ks_cY mp_no (by decide) (ks_cY bp_no (by decide) ks_ld0Y))
def GIY (zq : Nat) (Bq : Nat × Nat) (x0 : Nat) (h : Hp) : Prop := SqOk x0 h ∧ FdPY zq Bq x0 h ∧ ∃ r, hR h x0 4 = some r ∧ hI h r 15 = 0
section
variable {zq : Nat} {Bq : Nat × Nat} {ρ : Nat → Nat} {c : Cm} {h o : Hp} {S : Nat → Nat → Nat → Bool} {x0 b g w i F : Nat} {n : Int} {x1 x2 x3 x4 x5 x6 : Int32}
theorem gi_frY (T : TH ρ c h) (r0 : ρ x0 = 16) (f : Fr ρ (cat c S h) h o) (s : KSY S) (P : GIY zq Bq x0 h) (q1 : o.1 = h.1 := by first | assumption | (apply th1e <;> assumption)) : GIY zq Bq x0 o := by
  obtain ⟨s1, s2, s3, s4, s5, s6, s7, s8, s9, s10⟩ := s
  obtain ⟨p1, p2, r, p3, p4⟩ := P
  refine ⟨sq_fr T r0 f s7 s8 s9 p1, fd_frY T r0 f s1 s2 s3 s4 p2, r, ?_, ?_⟩
  · rw [(fr_RI f r0 (by decide) s5).2.2]; exact p3
  · rw [(fr_RI f (rr T (thR T r0 (i := 4) (k2 := 15) rfl (by decide)) p3) (by decide) s6).1]; exact p4
theorem gs_110Y {k3 : Hp → Nat → Nat → Int32 → Int32 → Int32 → Int32 → Option (Int32 × Hp)} {t0 : Int32} {M : Nat} (hF : 700000 ≤ F) (P : GPm c) (T : TH ρ c h) (r0 : ρ x0 = 16) (rb : ρ b = 13) (i2 : Rg 0 63 x2) (i3 : Rg 0 63 x3) (i5 : Rg 0 12 x5) (I : GIY zq Bq x0 h) (B : GBd x0 g h) (eM : hR h g 0 = some M) (it : Rg 1 24 t0)
    (K : ∀ o ρ1 c1 y, Ext ρ c ρ1 c1 → TH ρ1 c1 o → GIY zq Bq x0 o → y.toInt = x5.toInt + 1 → Sat (k3 o x0 b x2 x3 x4 y) (MkI ρ1 c1 0 1 (GIY zq Bq x0))) : Sat (sX15_guesses_110 F k3 h x0 b x2 x3 x4 x5 t0 x3 M) (MkI ρ c 0 1 (GIY zq Bq x0)) := by
  unfold sX15_guesses_110 sX15_guesses_117 sX15_guesses_125 sX15_guesses_132
  obtain ⟨rg, wg⟩ := g45_r T r0 B.1
  have rM : ρ M = 62 := rr T (thR T rg (i := 0) (k2 := 62) rfl (by decide)) eM
  have wM : cw c M = 2545 := th_ih T rg (k := 13) rfl eM wg
  have stop : ∀ {o : Hp} {ρ1 : Nat → Nat} {c1 : Cm}, Ext ρ c ρ1 c1 → TH ρ1 c1 o → GIY zq Bq x0 o → Sat (sX15_guesses_137 F k3 o x0 b x2 x3 x4 x5) (MkI ρ c 0 1 (GIY zq Bq x0)) := fun {o ρ1 c1} X To Io => by
    unfold sX15_guesses_137
    refine s_q (fun y ey => ?_)
    have ey2 : y.toInt = x5.toInt + 1 := by rw [ey]; exact (nc_s i5 (by decide)).2
    clear ey
    exact mI_ext X (K o ρ1 c1 y X To Io ey2)
  refine s_gd (by rw [thN T rM (k := 62) (n := 64) rfl (by decide)]; exact rg_inB i3 (by decide)) ?_
  refine s_hq (th_wI T rM (k := 62) (lo := 0) (hi := 24) rfl (rg_m it (by decide)) (by decide) (by decide) (by rw [wM]; exact P.2.2.2.2.1 _ _ rfl)) (fun h2 T2 w2 => ?_)
  have f2 := fr1Io (c := c) (B := bpL) rM wM rfl w2
  have I2 := gi_frY T r0 f2 ks_45Y I
  have B2 : GBd x0 g h2 := by
    obtain ⟨p1, p2, p3⟩ := B
    refine ⟨by rw [w2]; exact p1, by rw [w2]; exact p2, ?_⟩
    rw [w2, r_I, if_neg (ne_r rg rM (by decide))]; exact p3
  have gs : GsM x0 x3 h2 := fun b' m e1 e2 => by
    have hz := r_eq B2.1 e1
    subst hz
    have e2' : hR h b' 0 = some m := by rw [w2] at e2; exact e2
    have hz := r_eq eM e2'
    subst hz
    rw [he_s w2]
    exact it.1
  refine s_cIf T2 (fs_sub (pmA_s P.1 rfl) fs_n) (zX15_mayCome (c := cat c (fS mcL []) h2) hF fs_a (th_in _ T2) r0 i3 i2 gs) (fun o3 T3 i3' f3 => ?_)
  have I3 := gi_frY T2 r0 f3 ks_mcY I2
  have B3 := gbd_fr T2 r0 f3 (fun _ => rfl) rfl rfl B2
  refine s_br (fun _ => stop ex_0 T3 I3) (fun _ => ?_)
  refine s_cIfq (P := fun o => sX15_leadsTo F o3.2 x0 b = some o) T3 (S := ldS) (fs_sub (pmA_s P.1 rfl) (fs_c P.2.1 (fs_c P.2.2.1 (fs_c P.2.2.2.1 fs_n)))) (s_weq (zX15_leadsTo hF fs_a (fs_o (.head _)) (fs_o (.tail _ (.head _))) (fs_o (.tail _ (.tail _ (.head _)))) rfl (th_in _ T3) r0 rb I3.1)) (fun o4 T4 i4 f4 e4 => ?_)
  have I4 := gi_frY T3 r0 f4 ks_ldY I3
  have B4 := gbd_fr T3 r0 f4 (ks_ldY.2.2.2.2.2.2.2.2.2) rfl rfl B3
  refine s_br (fun _ => stop ex_0 T4 I4) (fun nz => ?_)
  have hz3 := leads_hz hF T3 r0 e4 nz g B3.1
  obtain ⟨rg3, wg3⟩ := g45_r T3 r0 B3.1
  have hz4 := (hz_fr T3 r0 rg3 wg3 f4 ks_ldY.2.2.2.2.1 ks_ldY.2.2.2.2.2.1 rfl (fun _ => rfl)).mp hz3
  obtain ⟨r, er, e15⟩ := I4.2.2
  have G4 : GZ x0 g o4.2 := ⟨B4.1, B4.2.1, B4.2.2, fun H eH j hj => hz4 r H er e15 eH j hj⟩
  refine s_mI (S := frS) T4 (frs_p P) (zX15_findsRoomY hF (fun w k i m => by show (mS fdL k i || (mS bpL k i && fdW w)) = true; rw [m]; rfl) (fun j hj k i m => by show (mS fdL k i || (mS bpL k i && fdW (11000 + j))) = true; rw [m, fdW_t hj, Bool.and_true, Bool.or_true]) (th_in _ T4) r0 I4.2.1 G4) (fun o5 ρ5 c5 X5 T5 f5 j5 P5 => ?_)
  have I5 : GIY zq Bq x0 o5.2 := ⟨sq_fr T4 r0 f5 (fun _ => rfl) (fun _ => rfl) (fun _ => rfl) I4.1, P5, r, by rw [(fr_RI f5 r0 (by decide) (fun _ => rfl)).2.2]; exact er, by rw [(fr_RI f5 (rr T4 (thR T4 r0 (i := 4) (k2 := 15) rfl (by decide)) er) (by decide) (fun _ => rfl)).1]; exact e15⟩
  exact s_br (fun _ => s_some ⟨ρ5, c5, X5, T5, rg_b rfl, I5⟩) (fun _ => stop X5 T5 I5)
end
end
section
section
variable {zq : Nat} {Bq : Nat × Nat} {ρ : Nat → Nat} {c : Cm} {h o : Hp} {S : Nat → Nat → Nat → Bool} {x0 b g w i F : Nat} {n : Int} {x1 x2 x3 x4 x5 x6 : Int32}
theorem gs_3Y (hF : 700000 ≤ F) : ∀ (f : Nat) {ρ : Nat → Nat} {c : Cm} {h : Hp} {x5 : Int32}, GPm c → TH ρ c h → ρ x0 = 16 → ρ b = 13 → cw c b = 3400 → Rg 0 63 x2 → Rg 0 63 x3 → Rg 0 11 x4 → GIY zq Bq x0 h → 0 ≤ x5.toInt → (14 - x5.toInt).toNat < f → Sat (sX15_guesses_3 F f h x0 b x2 x3 x4 x5) (MkI ρ c 0 1 (GIY zq Bq x0)) := by
  intro f
  induction f with
  | zero => intros; omega
  | succ f ih =>
    intro ρ c h x5 P T r0 rb wb i2 i3 i4 I a5 hf
    rw [sX15_guesses_3]
    obtain ⟨r1, e1, q1⟩ := thR T r0 (i := 4) (k2 := 15) rfl (by decide)
    refine s_ref e1 ?_
    have c12 := thI T q1 (k := 15) (i := 2) (lo := 0) (hi := 12) rfl
    refine s_br (fun _ => s_some ⟨ρ, c, ex_0, T, rg_b rfl, I⟩) (fun n1 => ?_)
    have z1 : (1 : Int32).toInt = 1 := rfl
    have l5 : x5.toInt < 1 + (hI h r1 2).toInt := by
      have := nle_i n1
      rw [ta (by rw [z1]; have := c12.1; have := c12.2; omega), z1] at this
      exact this
    have i5 : Rg 0 12 x5 := ⟨a5, by have := c12.2; omega⟩
    have b5 := i5.2
    clear n1
    obtain ⟨g, eg, _⟩ := thR T r0 (i := 45) (k2 := 13) rfl (by decide)
    obtain ⟨rg, wg⟩ := g45_r T r0 eg
    refine s_ref eg ?_
    refine s_cVf (S := fS [] [(2545, bpL)]) T (fs_sub pmA_n (fs_c P.2.2.2.2.1 fs_n)) (zX12_copy hF (pmO_s (fs_o (.head _)) rfl) wg wb (th_in _ T) rg rb) (fun o4 T4 f4 => ?_)
    have I4 := gi_frY T r0 f4 ks_45Y I
    have eg4 : hR o4 x0 45 = some g := by rw [(fr_RI f4 r0 (by decide) ks_45Y.2.2.2.2.2.2.2.2.2).2.2]; exact eg
    have pg : ∀ i, mS bpL 13 i = true → cPm c 13 (cw c g) i = true := fun i m => by rw [wg]; exact P.2.2.2.2.1 _ _ m
    unfold sX15_guesses_25
    refine s_ref eg4 ?_
    refine s_hq (th_wJ T4 rg (by decide) (pg _ rfl)) (fun h5 T5 w5 => ?_)
    have f5 := fr1Jo (c := c) (B := bpL) rg wg rfl w5
    have I5 := gi_frY T4 r0 f5 ks_45Y I4
    have eg5 : hR h5 x0 45 = some g := by rw [w5]; exact eg4
    refine s_ref eg5 ?_
    refine s_hq (th_wI T5 rg (k := 13) (lo := 0) (hi := 64) rfl (rg_b rfl) (by decide) (by decide) (pg _ rfl)) (fun h6 T6 w6 => ?_)
    have f6 := fr1Io (c := c) (B := bpL) rg wg rfl w6
    have I6 := gi_frY T5 r0 f6 ks_45Y I5
    have eg6 : hR h6 x0 45 = some g := by rw [w6]; exact eg5
    refine s_ref eg6 ?_
    refine s_hq (th_wI T6 rg (k := 13) (lo := 0) (hi := 999) rfl (rg_b rfl) (by decide) (by decide) (pg _ rfl)) (fun h7 T7 w7 => ?_)
    have f7 := fr1Io (c := c) (B := bpL) rg wg rfl w7
    have I7 := gi_frY T6 r0 f7 ks_45Y I6
    have eg7 : hR h7 x0 45 = some g := by rw [w7]; exact eg6
    refine s_ref eg7 ?_
    have sd7 := thI T7 rb (k := 13) (i := 1) (lo := 0) (hi := 1) rfl
    refine s_hq (th_wI T7 rg (k := 13) (lo := 0) (hi := 1) rfl (one_sub sd7) (by decide) (by decide) (pg _ rfl)) (fun h8 T8 w8 => ?_)
    have f8 := fr1Io (c := c) (B := bpL) rg wg rfl w8
    have I8 := gi_frY T7 r0 f8 ks_45Y I7
    have eg8 : hR h8 x0 45 = some g := by rw [w8]; exact eg7
    have B8 : GBd x0 g h8 := by
      refine ⟨eg8, ?_, ?_⟩
      · rw [w8, w7, w6, w5]
        show hJ (wJ o4 g 2 0) g 2 = 0
        rw [r_J, if_pos ⟨rfl, rfl⟩]
      · rw [w8, r_I, if_neg (fun y => absurd y.2 (by decide)), w7, r_I, if_neg (fun y => absurd y.2 (by decide)), w6, r_I, if_pos ⟨rfl, rfl⟩]
    refine s_ref eg8 ?_
    obtain ⟨M, eM, rM⟩ := thR T8 rg (i := 0) (k2 := 62) rfl (by decide)
    have wM : cw c M = 2545 := th_ih T8 rg (k := 13) rfl eM wg
    refine s_ref eM ?_
    have sd8 := thI T8 rb (k := 13) (i := 1) (lo := 0) (hi := 1) rfl
    have go : ∀ {t : Int32}, Rg 0 24 t → Sat (sX15_guesses_90 F (sX15_guesses_3 F f) h8 x0 b x2 x3 x4 x5 t x2 M) (MkI ρ c 0 1 (GIY zq Bq x0)) := fun {t} it => by
      unfold sX15_guesses_90 sX15_valueOf
      refine s_gd (by rw [thN T8 rM (k := 62) (n := 64) rfl (by decide)]; exact rg_inB i2 (by decide)) ?_
      refine s_hq (th_wI T8 rM (k := 62) (lo := 0) (hi := 24) rfl it (by decide) (by decide) (by rw [wM]; exact P.2.2.2.2.1 _ _ rfl)) (fun h9 T9 w9 => ?_)
      have f9 := fr1Io (c := c) (B := bpL) rM wM rfl w9
      have I9 := gi_frY T8 r0 f9 ks_45Y I8
      have B9 : GBd x0 g h9 := by
        obtain ⟨p1, p2, p3⟩ := B8
        refine ⟨by rw [w9]; exact p1, by rw [w9]; exact p2, ?_⟩
        rw [w9, r_I, if_neg (ne_r rg rM (by decide))]; exact p3
      have eM9 : hR h9 g 0 = some M := by rw [w9]; exact eM
      refine s_ref B9.1 ?_
      refine s_ref eM9 ?_
      refine s_cl (s_some ?_)
      have sd9 := thI T9 rb (k := 13) (i := 1) (lo := 0) (hi := 1) rfl
      exact gs_110Y hF P T9 r0 rb i2 i3 i5 I9 B9 eM9 (val_r i4 (one_sub sd9)) (fun o ρ1 c1 y X To Io ey => ih (gp_x X P) To (ex_r X r0 (by decide)) (ex_r X rb (by decide)) ((X.1 b (by rw [rb]; decide)).2.trans wb) i2 i3 i4 Io (by omega) (by omega))
    refine s_br (fun _ => go (rg_b rfl)) (fun n5 => ?_)
    unfold sX15_valueOf
    refine s_cl (s_some ?_)
    have i6 : Rg 1 12 x5 := rg_nlo n5 i5 (rg_b rfl : Rg 0 0 (0 : Int32))
    have i7 : Rg 0 11 (x5 - (1 : Int32)) := rg_sub i6 (rg_b rfl : Rg 1 1 (1 : Int32)) (by decide)
    exact go (rg_m (val_r i7 sd8) (by decide))
theorem zX15_guessesY (hF : 700000 ≤ F) (P : GPm c) (T : TH ρ c h) (r0 : ρ x0 = 16) (rb : ρ b = 13) (wb : cw c b = 3400) (i2 : Rg 0 63 x2) (i3 : Rg 0 63 x3) (i4 : Rg 0 11 x4) (I : GIY zq Bq x0 h) : Sat (sX15_guesses F h x0 b x2 x3 x4) (MkI ρ c 0 1 (GIY zq Bq x0)) := by
  unfold sX15_guesses
  have z0 : (0 : Int32).toInt = 0 := rfl
  exact gs_3Y hF F P T r0 rb wb i2 i3 i4 I (by decide) (by rw [z0]; omega)
theorem ga_118Y {k21 : Hp → Nat → Nat → Int32 → Int32 → Int32 → Int32 → Option (Int32 × Hp)} (hF : 700000 ≤ F) (i2 : Rg 0 63 x2) (i5 : Rg 0 11 x5) : ∀ (f : Nat) {ρ : Nat → Nat} {c : Cm} {h : Hp} {x7 : Int32}, GPm c → TH ρ c h → ρ x0 = 16 → ρ b = 13 → cw c b = 3400 → GIY zq Bq x0 h → 0 ≤ x7.toInt → (65 - x7.toInt).toNat < f →
    (∀ o ρ1 c1 y, Ext ρ c ρ1 c1 → TH ρ1 c1 o → GIY zq Bq x0 o → y.toInt = x5.toInt + 1 → Sat (k21 o x0 b x2 x3 x4 y) (MkI ρ1 c1 0 1 (GIY zq Bq x0))) → Sat (sX15_guessesAll_118 F k21 f h x0 b x2 x3 x4 x5 x6 x7) (MkI ρ c 0 1 (GIY zq Bq x0)) := by
  intro f
  induction f with
  | zero => intros; omega
  | succ f ih =>
    intro ρ c h x7 P T r0 rb wb I a7 hf K
    rw [sX15_guessesAll_118]
    unfold sX15_guessesAll_163 sX15_guessesAll_152 sX15_guessesAll_157
    have ex : Sat (nm (x5 + (1 : Int32)) fun v_1 => k21 h x0 b x2 x3 x4 v_1) (MkI ρ c 0 1 (GIY zq Bq x0)) := by
      refine s_q (fun y ey => ?_)
      have ey2 : y.toInt = x5.toInt + 1 := by rw [ey]; exact (nc_s i5 (by decide)).2
      clear ey
      exact K h ρ c y ex_0 T I ey2
    refine s_br (fun _ => ex) (fun n1 => s_br (fun _ => ex) (fun _ => ?_))
    have l7 := nle_i n1
    have s64 := thI T r0 (k := 16) (i := 13) (lo := 9) (hi := 64) rfl
    have i7 : Rg 0 63 x7 := ⟨a7, by have := s64.2; omega⟩
    have b7 := i7.2
    obtain ⟨r, e, q⟩ := thR T rb (i := 0) (k2 := 62) rfl (by decide)
    refine s_ref e ?_
    refine s_gd (by rw [thN T q (k := 62) (n := 64) rfl (by decide)]; exact rg_inB i7 (by decide)) ?_
    have go : ∀ {o : Hp} {ρ1 : Nat → Nat} {c1 : Cm}, Ext ρ c ρ1 c1 → TH ρ1 c1 o → GIY zq Bq x0 o → Sat (nm (x7 + (1 : Int32)) fun v_1 => sX15_guessesAll_118 F k21 f o x0 b x2 x3 x4 x5 x6 v_1) (MkI ρ c 0 1 (GIY zq Bq x0)) := fun {o ρ1 c1} X To Io => by
      refine s_q (fun y ey => ?_)
      have ey2 : y.toInt = x7.toInt + 1 := by rw [ey]; exact (nc_s i7 (by decide)).2
      clear ey
      exact mI_ext X (ih (gp_x X P) To (ex_r X r0 (by decide)) (ex_r X rb (by decide)) ((X.1 b (by rw [rb]; decide)).2.trans wb) Io (by omega) (by omega) (fun o' ρ2 c2 y' X' => K o' ρ2 c2 y' (ex_t X X')))
    refine s_br (fun _ => ?_) (fun _ => go ex_0 T I)
    refine s_cl (s_imp (zX15_guessesY hF P T r0 rb wb i2 i7 i5 I) (fun o5 ⟨ρ5, c5, X5, T5, j5, I5⟩ => ?_))
    exact s_br (fun _ => s_some ⟨ρ5, c5, X5, T5, rg_b rfl, I5⟩) (fun _ => go X5 T5 I5)
theorem ga_50Y {k21 : Hp → Nat → Nat → Int32 → Int32 → Int32 → Int32 → Option (Int32 × Hp)} (hF : 700000 ≤ F) (P : GPm c) (T : TH ρ c h) (r0 : ρ x0 = 16) (rb : ρ b = 13) (wb : cw c b = 3400) (i2 : Rg 0 63 x2) (i3 : Rg 0 1 x3) (i5 : Rg 0 11 x5) (I : GIY zq Bq x0 h)
    (K : ∀ o ρ1 c1 y, Ext ρ c ρ1 c1 → TH ρ1 c1 o → GIY zq Bq x0 o → y.toInt = x5.toInt + 1 → Sat (k21 o x0 b x2 x3 x4 y) (MkI ρ1 c1 0 1 (GIY zq Bq x0))) : ∀ (f : Nat) {x6 x7 : Int32}, 0 ≤ x7.toInt → (7 - x7.toInt).toNat < f → Sat (sX15_guessesAll_50 F k21 f h x0 b x2 x3 x4 x5 x6 x7) (MkI ρ c 0 1 (GIY zq Bq x0)) := by
  intro f
  induction f with
  | zero => intros; omega
  | succ f ih =>
    intro x6 x7 a7 hf
    rw [sX15_guessesAll_50]
    unfold sX15_guessesAll_94 sX15_guessesAll_105 sX15_guessesAll_106
    obtain ⟨r1, e1, q1⟩ := thR T r0 (i := 4) (k2 := 15) rfl (by decide)
    refine s_ref e1 ?_
    obtain ⟨r2, e2, q2⟩ := thR T q1 (i := 14) (k2 := 81) rfl (by decide)
    refine s_ref e2 ?_
    refine s_gd (by rw [thN T q2 (k := 81) (n := 12) rfl (by decide)]; exact rg_inB i5 (by decide)) ?_
    have m6 := thI T q2 (k := 81) (i := x5.toNatClampNeg) (lo := 0) (hi := 6) rfl
    have z0 : (0 : Int32).toInt = 0 := rfl
    refine s_br (fun _ => ga_118Y hF i2 i5 F P T r0 rb wb I (by decide) (by rw [z0]; omega) K) (fun n1 => ?_)
    have l7 := nle_i n1
    have i7 : Rg 0 5 x7 := ⟨a7, by have := m6.2; omega⟩
    have b7 := i7.2
    refine s_ref e1 ?_
    obtain ⟨r6, e6, q6⟩ := thR T q1 (i := 13) (k2 := 80) rfl (by decide)
    refine s_ref e6 ?_
    have im : Rg 0 66 ((6 : Int32) * x5) := by
      have e4 : (6 : Int32).toInt = 6 := rfl
      have := i5.1
      have := i5.2
      exact ⟨by rw [tm (by rw [e4]; omega), e4]; omega, by rw [tm (by rw [e4]; omega), e4]; omega⟩
    refine s_gd (by rw [thN T q6 (k := 80) (n := 72) rfl (by decide)]; exact rg_inB (rg_add im i7 (by decide) : Rg 0 71 _) (by decide)) ?_
    have go : ∀ {t0 t1 : Int32}, Sat (nm (t1 ||| t0) fun v_1 => nm (x7 + (1 : Int32)) fun v_2 => sX15_guessesAll_50 F k21 f h x0 b x2 x3 x4 x5 v_1 v_2) (MkI ρ c 0 1 (GIY zq Bq x0)) := fun {t0 t1} => by
      refine s_q (fun u _ => ?_)
      refine s_q (fun y ey => ?_)
      have ey2 : y.toInt = x7.toInt + 1 := by rw [ey]; exact (nc_s i7 (by decide)).2
      clear ey
      exact ih (by omega) (by omega)
    refine s_br (fun _ => ?_) (fun _ => go)
    refine s_cI0 (zX15_rankFor hF T r0 i2 i3) (fun o9 e9 _ => ?_)
    rw [show o9.2 = h from e9]
    exact s_br (fun _ => go) (fun _ => go)
theorem ga_21Y (hF : 700000 ≤ F) (i2 : Rg 0 63 x2) (i3 : Rg 0 1 x3) : ∀ (f : Nat) {ρ : Nat → Nat} {c : Cm} {h : Hp} {x5 : Int32}, GPm c → TH ρ c h → ρ x0 = 16 → ρ b = 13 → cw c b = 3400 → GIY zq Bq x0 h → 0 ≤ x5.toInt → (13 - x5.toInt).toNat < f → Sat (sX15_guessesAll_21 F f h x0 b x2 x3 x4 x5) (MkI ρ c 0 1 (GIY zq Bq x0)) := by
  intro f
  induction f with
  | zero => intros; omega
  | succ f ih =>
    intro ρ c h x5 P T r0 rb wb I a5 hf
    rw [sX15_guessesAll_21]
    unfold sX15_guessesAll_45
    obtain ⟨r1, e1, q1⟩ := thR T r0 (i := 4) (k2 := 15) rfl (by decide)
    refine s_ref e1 ?_
    have c12 := thI T q1 (k := 15) (i := 2) (lo := 0) (hi := 12) rfl
    refine s_br (fun _ => s_some ⟨ρ, c, ex_0, T, rg_b rfl, I⟩) (fun n1 => ?_)
    have l5 := nle_i n1
    have i5 : Rg 0 11 x5 := ⟨a5, by have := c12.2; omega⟩
    have b5 := i5.2
    have z0 : (0 : Int32).toInt = 0 := rfl
    have go : ∀ {t : Int32}, Sat (sX15_guessesAll_50 F (sX15_guessesAll_21 F f) F h x0 b x2 x3 x4 x5 t (0 : Int32)) (MkI ρ c 0 1 (GIY zq Bq x0)) := fun {t} => ga_50Y hF P T r0 rb wb i2 i3 i5 I (fun o ρ1 c1 y X To Io ey => ih (gp_x X P) To (ex_r X r0 (by decide)) (ex_r X rb (by decide)) ((X.1 b (by rw [rb]; decide)).2.trans wb) Io (by omega) (by omega)) F (by decide) (by rw [z0]; omega)
    exact s_br (fun _ => go) (fun _ => go)
theorem zX15_guessesAllY (hF : 700000 ≤ F) (P : GPm c) (T : TH ρ c h) (r0 : ρ x0 = 16) (rb : ρ b = 13) (wb : cw c b = 3400) (i2 : Rg 0 63 x2) (I : GIY zq Bq x0 h) : Sat (sX15_guessesAll F h x0 b x2) (MkI ρ c 0 1 (GIY zq Bq x0)) := by
  unfold sX15_guessesAll sX15_guessesAll_16 sX15_manOf
  refine s_q (fun v ev => ?_)
  have iv : Rg 0 1 v := by rw [ev]; exact one_sub (thI T rb (k := 13) (i := 1) (lo := 0) (hi := 1) rfl)
  clear ev
  obtain ⟨r, e, q⟩ := thR T rb (i := 0) (k2 := 62) rfl (by decide)
  refine s_ref e ?_
  refine s_gd (by rw [thN T q (k := 62) (n := 64) rfl (by decide)]; exact rg_inB i2 (by decide)) ?_
  refine s_cl (s_some ?_)
  have z0 : (0 : Int32).toInt = 0 := rfl
  exact ga_21Y hF i2 iv F P T r0 rb wb I (by decide) (by rw [z0]; omega)
end
end
section
section
variable {zq : Nat} {Bq : Nat × Nat} {ρ : Nat → Nat} {c : Cm} {h o : Hp} {S : Nat → Nat → Nat → Bool} {x0 b g w i F : Nat} {n : Int} {x1 x2 x3 x4 x5 x6 : Int32}
theorem fd_noneY (T : TH ρ c h) (r0 : ρ x0 = 16) (P : FdPY zq Bq x0 h) (e : o = wI h x0 44 0) : FdPY zq Bq x0 o := by
  have f := fr1I (c := c) (A := [(16, 44)]) r0 rfl e
  have z : (hI o x0 44).toInt = 0 := by rw [he_s e]; rfl
  exact ⟨fun r er i hi => by rw [z] at hi; omega, fun k hk => by rw [z] at hk; omega, fbp_frY T r0 f fB44Y P.2.2.1 (by rw [e]; rfl), tx_fr T r0 f ⟨fun _ => rfl, fun _ _ => rfl⟩ P.2.2.2⟩
theorem gi_noneY (T : TH ρ c h) (r0 : ρ x0 = 16) (P : GIY zq Bq x0 h) (e : o = wI h x0 44 0) : GIY zq Bq x0 o := by
  have f := fr1I (c := c) (A := [(16, 44)]) r0 rfl e
  obtain ⟨p1, p2, r, p3, p4⟩ := P
  refine ⟨sq_fr T r0 f (fun _ => rfl) (fun _ => rfl) (fun _ => rfl) p1, fd_noneY T r0 p2 e, r, by rw [e]; exact p3, ?_⟩
  rw [(fr_RI f (rr T (thR T r0 (i := 4) (k2 := 15) rfl (by decide)) p3) (by decide) (fun _ => rfl)).1]; exact p4
theorem be_58Y (hF : 700000 ≤ F) : ∀ (f : Nat) {ρ : Nat → Nat} {c : Cm} {h : Hp} {x3 : Int32}, GPm c → TH ρ c h → ρ x0 = 16 → ρ b = 13 → cw c b = 3400 → GIY zq Bq x0 h → 0 ≤ x3.toInt → (65 - x3.toInt).toNat < f → Sat (sX15_before_58 F f h x0 b x3) (MkI ρ c (-104) 3000 (GIY zq Bq x0)) := by
  intro f
  induction f with
  | zero => intros; omega
  | succ f ih =>
    intro ρ c h x3 P T r0 rb wb I a3 hf
    rw [sX15_before_58]
    unfold sX15_before_108 sX15_before_84 sX15_before_97 sX15_before_108 sX15_sideOf
    have s64 := thI T r0 (k := 16) (i := 13) (lo := 9) (hi := 64) rfl
    refine s_br (fun _ => s_some ⟨ρ, c, ex_0, T, rg_m (thI T r0 (k := 16) (i := 44) (lo := 0) (hi := 3000) rfl) (by decide), I⟩) (fun n1 => ?_)
    have l3 := nle_i n1
    have i3 : Rg 0 63 x3 := ⟨a3, by have := s64.2; omega⟩
    have b3 := i3.2
    obtain ⟨r, e, q⟩ := thR T rb (i := 0) (k2 := 62) rfl (by decide)
    have gb : inB x3 (hN h r) := by rw [thN T q (k := 62) (n := 64) rfl (by decide)]; exact rg_inB i3 (by decide)
    have go : ∀ {o : Hp} {ρ1 : Nat → Nat} {c1 : Cm}, Ext ρ c ρ1 c1 → TH ρ1 c1 o → GIY zq Bq x0 o → Sat (nm (x3 + (1 : Int32)) fun v_1 => sX15_before_58 F f o x0 b v_1) (MkI ρ c (-104) 3000 (GIY zq Bq x0)) := fun {o ρ1 c1} X To Io => by
      refine s_q (fun y ey => ?_)
      have ey2 : y.toInt = x3.toInt + 1 := by rw [ey]; exact (nc_s i3 (by decide)).2
      clear ey
      exact mI_ext X (ih (gp_x X P) To (ex_r X r0 (by decide)) (ex_r X rb (by decide)) ((X.1 b (by rw [rb]; decide)).2.trans wb) Io (by omega) (by omega))
    refine s_ref e (s_gd gb ?_)
    refine s_br (fun _ => go ex_0 T I) (fun _ => ?_)
    refine s_ref e (s_gd gb ?_)
    refine s_cl (s_some ?_)
    refine s_br (fun _ => go ex_0 T I) (fun _ => ?_)
    refine s_cl (s_imp (zX15_guessesAllY hF P T r0 rb wb i3 I) (fun o5 ⟨ρ5, c5, X5, T5, j5, I5⟩ => ?_))
    have r5 := ex_r X5 r0 (by decide)
    refine s_br (fun _ => ?_) (fun _ => go X5 T5 I5)
    refine s_hq (th_wI T5 r5 (k := 16) (lo := 0) (hi := 3000) rfl (rg_b rfl) (by decide) (by decide) (pm_a (gp_x X5 P).1 rfl)) (fun h6 T6 w6 => ?_)
    exact s_some ⟨ρ5, c5, X5, T6, rg_b rfl, gi_noneY T5 r5 I5 w6⟩
theorem zX15_beforeY (hF : 700000 ≤ F) (P : GPm c) (T : TH ρ c h) (r0 : ρ x0 = 16) (bd : BdP x0 h) (sq : SqOk x0 h) (fd : FdPY zq Bq x0 h) : Sat (sX15_before F h x0 x1) (MkI ρ c (-104) 3000 (fun o => SqOk x0 o ∧ FdPY zq Bq x0 o)) := by
  unfold sX15_before
  refine s_dP0 (zX15_has hF T r0 (rg_top _)) (fun oo eb e ii pp => ?_)
  rw [e]
  unfold sX15_before_5 sX15_before_41
  have ex : ∀ {v : Int32}, Rg (-104) 3000 v → Sat (some (v, h)) (MkI ρ c (-104) 3000 (fun o => SqOk x0 o ∧ FdPY zq Bq x0 o)) := fun {v} iv => s_some ⟨ρ, c, ex_0, T, iv, sq, fd⟩
  refine s_br (fun _ => ex (rg_b rfl)) (fun nz => ?_)
  have i1 := pp nz
  obtain ⟨b, B⟩ := bk_of T r0 (hb_of T r0 bd eb nz)
  obtain ⟨rb, wb⟩ := bk_r T r0 B
  obtain ⟨r1, e1, q1⟩ := thR T r0 (i := 4) (k2 := 15) rfl (by decide)
  refine s_ref e1 ?_
  refine s_br (fun z15 => ?_) (fun _ => ex (rg_b rfl))
  refine s_ref e1 ?_
  refine s_br (fun _ => ?_) (fun _ => ex (rg_b rfl))
  refine s_ref e1 ?_
  refine s_br (fun _ => ?_) (fun _ => ex (rg_b rfl))
  refine s_hq (th_wI T r0 (k := 16) (lo := 0) (hi := 3000) rfl (rg_b rfl) (by decide) (by decide) (pm_a P.1 rfl)) (fun h6 T6 w6 => ?_)
  have I6 := gi_noneY T r0 ⟨sq, fd, r1, e1, z15⟩ w6
  have B6 : BK x0 x1.toNatClampNeg b h6 := by
    obtain ⟨r, s1, s2, s3⟩ := B
    have f6 := fr1I (c := c) (A := [(16, 44)]) r0 rfl w6
    exact ⟨r, by rw [w6]; exact s1, by rw [w6]; exact s2, pe_fr T rb f6 rfl rfl rfl (fun _ => rfl) (fun _ => rfl) s3⟩
  refine s_bk T6 r0 i1 B6 ?_
  have z0 : (0 : Int32).toInt = 0 := rfl
  exact s_imp (be_58Y hF F P T6 r0 rb wb I6 (by decide) (by rw [z0]; omega)) (fun o ⟨ρ1, c1, X, To, j, Io⟩ => ⟨ρ1, c1, X, To, j, Io.1, Io.2.1⟩)
theorem ks_kpY : KSY (fS kpL [(3400, bpL)]) := ks_cY bp_no (by decide) ⟨⟨fun _ => rfl, fun _ _ => rfl, fun _ => ⟨fun _ _ => rfl, fun _ => rfl, fun _ => rfl, fun _ => rfl⟩⟩, ⟨fun _ => rfl, fun _ _ => rfl⟩, ⟨fun _ => rfl, fun _ _ => rfl⟩, fun _ => rfl, fun _ => rfl, fun _ => rfl, fun _ => rfl, fun _ => rfl, fun _ => rfl, fun _ => rfl⟩
end
end
section
/-! beforeAt and write of the reference -/
section
variable {zq : Nat} {Bq Bk : Nat × Nat} {ρ : Nat → Nat} {c : Cm} {h o : Hp} {S : Nat → Nat → Nat → Bool} {x0 b g w i F : Nat} {n : Int} {x1 x2 x3 : Int32}
/-- found boards over calls that make other things -/
theorem fdy_ex (T : TH ρ c h) (r0 : ρ x0 = 16) (f : Fr ρ (cat c S h) h o) (s : fdBY S) (s2 : fdO S) (s3 : fdT S) (s4 : ∀ w, S 16 w 44 = false) (P : FdPY zq Bq x0 h) : ∃ B, FdPY zq B x0 o := by
  obtain ⟨r, er, qr⟩ := thR T r0 (i := 40) (k2 := 95) rfl (by decide)
  have er' : hR o x0 40 = some r := by rw [(fr_RI f r0 (by decide) s.1).2.2]; exact er
  refine ⟨(o.1.1 + 5 * nuC o r 3000, o.1.2 + 162 * nuC o r 3000), or_fr T r0 f s2 s4 P.1, by rw [(fr_RI f r0 (by decide) s4).1]; exact fbe_fr T r0 f s.1 s.2.1 P.2.1, ⟨fun k b B => ?_, fun r' e' => ?_⟩, tx_fr T r0 f s3 P.2.2.2⟩
  · have B0 := (fbo_fr T r0 f s.1 (fun w => s.2.1 w k)).mpr B
    obtain ⟨k1, k2⟩ := fbo_r T r0 B0
    obtain ⟨a1, a2, a3, a4⟩ := s.2.2 k
    exact pz_fr T k1 f (fun i hi => by rw [k2]; exact a1 i hi) (fun i => by rw [k2]; exact a2 i) (fun i => by rw [k2]; exact a3 i) (fun i => by rw [k2]; exact a4 i) (P.2.2.1.1 k b B0)
  · have : r' = r := r_eq er' e'
    subst this
    exact ⟨Nat.le_refl _, Nat.le_refl _⟩
theorem beforeAt_w (hF : 700000 ≤ F) (hA : pmA c kpL) (h34 : pmO c 3400 bpL) (T : TH ρ c h) (r0 : ρ x0 = 16) (bd : BdY zq Bk x0 h) (fd : FdPY zq Bq x0 h) : Sat (sX15_beforeAt F h x0 x1) (MkI ρ c (-104) 59 (fun o => BdY zq Bk x0 o ∧ ∃ B, FdPY zq B x0 o)) := by
  unfold sX15_beforeAt sX15_beforeAt_12 sX15_beforeAt_32
  have ex : Sat (some ((-102 : Int32), h)) (MkI ρ c (-104) 59 (fun o => BdY zq Bk x0 o ∧ ∃ B, FdPY zq B x0 o)) := s_some ⟨ρ, c, ex_0, T, rg_b rfl, bd, Bq, fd⟩
  refine s_br (fun _ => ex) (fun n1 => ?_)
  refine s_br (fun l1 => ?_) (fun _ => ex)
  have a1 : 0 ≤ x1.toInt := nlt_i n1
  have b1 := lt_i l1
  have i44 := thI T r0 (k := 16) (i := 44) (lo := 0) (hi := 3000) rfl
  have i1 : Rg 0 2999 x1 := ⟨a1, by have := i44.2; omega⟩
  have c1' := clamp_i a1
  obtain ⟨r3, e3, q3⟩ := thR T r0 (i := 40) (k2 := 95) rfl (by decide)
  refine s_ref e3 ?_
  obtain ⟨r4, e4, q4⟩ := thR T r0 (i := 42) (k2 := 97) rfl (by decide)
  refine s_ref e4 ?_
  refine s_gd (by rw [thN T q4 (k := 97) (n := 3000) rfl (by decide)]; exact rg_inB i1 (by decide)) ?_
  have iv := thI T q4 (k := 97) (i := x1.toNatClampNeg) (lo := 0) (hi := 2999) rfl
  refine s_gd (by rw [thN T q3 (k := 95) (n := 3000) rfl (by decide)]; exact rg_inB iv (by decide)) ?_
  have lv := fd.1 r4 e4 x1.toNatClampNeg (by omega)
  have cv := clamp_i iv.1
  obtain ⟨b, B⟩ := fd.2.1 (hI h r4 x1.toNatClampNeg).toNatClampNeg (by omega)
  have PB := fd.2.2.1.1 _ b B
  obtain ⟨rb, wb⟩ := fbo_r T r0 B
  obtain ⟨r', s1, s2⟩ := B
  have hz := r_eq e3 s1
  subst hz
  refine s_ref s2 ?_
  refine s_mI (S := fS kpL [(3400, bpL)]) (lo := -104) (hi := 59) (P := BdY zq Bk x0) T (fs_sub hA (fs_c h34 fs_n)) (keep_y hF fs_a (pmO_s (fs_o (.head _)) rfl) rfl (th_in _ T) r0 rb bd PB) (fun o8 ρ8 c8 X8 T8 f8 j8 P8 => ?_)
  exact s_some ⟨ρ8, c8, X8, T8, j8, P8, fdy_ex T r0 f8 ks_kpY.1 ks_kpY.2.1 ks_kpY.2.2.1 ks_kpY.2.2.2.1 fd⟩
/-- write: at most 256 letters -/
theorem write_w (hF : 700000 ≤ F) (hA : pmA c [(83, 999), (16, 3)]) (T : TH ρ c h) (r0 : ρ x0 = 16) (bd : BdY zq Bk x0 h) (hz : zq = 64) : Sat (sX15_write F h x0 x1) (ZI ρ c (-102) 256) := by
  unfold sX15_write
  refine s_dP0 (zX15_has hF T r0 (rg_top _)) (fun o1 eb1 e1 ii1 pp1 => ?_)
  rw [e1]
  refine s_br (fun _ => s_some ⟨T, rg_b rfl⟩) (fun nz => ?_)
  have i1 := pp1 nz
  obtain ⟨b, BKb, PZb⟩ := bw_of T r0 bd eb1 nz
  obtain ⟨kb, wb'⟩ := bk_r T r0 BKb
  refine s_hq (th_wI T r0 (k := 16) (lo := (0)) (hi := (256)) rfl (rg_b rfl) (by decide) (by decide) (pm_a hA rfl)) (fun h3 T3 w3 => ?_)
  have f3 := fr1I (c := c) (A := [(16, 3)]) r0 rfl w3
  have BK3 : BK x0 x1.toNatClampNeg b h3 := by
    obtain ⟨r, s1, s2, s3⟩ := BKb
    exact ⟨r, by rw [w3]; exact s1, by rw [w3]; exact s2, pe_fr T kb f3 rfl rfl rfl (fun _ => rfl) (fun _ => rfl) s3⟩
  have W3 : WrE zq b h3 := wr_fr T kb f3 (fun _ _ => rfl) (fun _ => rfl) (fun _ => rfl) (fun _ => rfl) PZb.2
  refine s_bk T3 r0 i1 BK3 ?_
  obtain ⟨H, eH, qH⟩ := thR T3 kb (i := 5) (k2 := 64) rfl (by decide)
  obtain ⟨M, eM, qM⟩ := thR T3 kb (i := 0) (k2 := 62) rfl (by decide)
  have o0 : (hI h3 x0 3).toInt = 0 := by rw [he_s w3]; rfl
  have k13 : hI h3 x0 13 = hI h x0 13 := (fr_RI f3 r0 (by decide) (fun _ => rfl)).1
  have i13 := thI T3 r0 (k := 16) (i := 13) (lo := 9) (hi := 64) rfl
  have c13 := nc_i (x := hI h3 x0 13) (by have := i13.1; omega)
  rw [k13] at c13 i13
  obtain ⟨t1, t2, t3, _⟩ := W3
  have tt := t1 M H eM eH
  have m0 := mc_0 (hI h3 M) 64
  unfold tot at tt
  have i132 := i13.2
  refine s_cl (s_imp (zX15_writeAll (s := zq) (v := 256) hF hA T3 r0 kb (by decide) (by rw [o0]; decide) (by omega) (by rw [k13, hz]; exact i132) eH (by rw [o0]; omega)) (fun o7 w7 => ?_))
  exact s_some ⟨w7.1, by have := (thI w7.1 r0 (k := 16) (i := 3) (lo := 0) (hi := 256) rfl).1; show -102 ≤ (hI o7 x0 3).toInt; omega, w7.2⟩
end
end
section
section
variable {Bq : Nat × Nat} {ρ : Nat → Nat} {c : Cm} {h o : Hp} {p wb wl : Nat → Bool} {x0 d b l w : Nat}
def DWY (Bq : Nat × Nat) (x0 : Nat) (h : Hp) : Prop := SqOk x0 h ∧ DpP x0 h ∧ Pay 33 10 13 21170 Bq x0 h
theorem dwy_p (W : DWY Bq x0 h) : DW x0 h := ⟨W.1, W.2.1⟩
theorem dw_keep0Y (T : TH ρ c h) (r0 : ρ x0 = 16) (f : Fr ρ (cat c (SX (fun _ => false) wb wl) h) h o) (W : DWY Bq x0 h) (q1 : o.1 = h.1 := by first | assumption | (apply th1e <;> assumption)) : DWY Bq x0 o := by
  have z := dw_keep0 T r0 f (dwy_p W)
  exact ⟨z.1, z.2, pay_k0 T r0 (k2 := 90) rfl (by decide) q1 (fr_RI f r0 (by decide) (fun _ => sx_f (Or.inl rfl) rfl (Or.inl rfl) (Or.inl rfl))).2.2 (fun r i qr => (fr_RI f qr (by decide) (fun _ => sx_f (Or.inr rfl) rfl (Or.inl rfl) (Or.inl rfl))).2.2) W.2.2⟩
end
section
variable {Bq : Nat × Nat} {ρ ρ1 : Nat → Nat} {c c1 : Cm} {β : Type} {Q : β → Prop} {h : Hp} {S : Nat → Nat → Nat → Bool} {lo hi : Int} {P : Hp → Prop}
end
theorem deepBY {Bq : Nat × Nat} {ρ : Nat → Nat} {c : Cm} {h : Hp} {x0 : Nat} {x1 : Int32} (h9 : (∀ w, cPm c 90 w x1.toNatClampNeg = true) ∧ ∀ w, cPm c 91 w x1.toNatClampNeg = true) (T : TH ρ c h) (r0 : ρ x0 = 16) (i1 : Rg 0 9 x1) (W : DWY Bq x0 h) : Sat (sX15_deepBoard h x0 x1) (fun o => ∃ ρ' c', Ext ρ c ρ' c' ∧ TH ρ' c' o.2 ∧ DWY Bq x0 o.2 ∧ ∃ l, Dp x0 x1.toNatClampNeg o.1 l o.2) := by
  obtain ⟨r, er, qr⟩ := thR T r0 (i := 33) (k2 := 90) rfl (by decide)
  obtain ⟨m, em, qm⟩ := thR T r0 (i := 34) (k2 := 91) rfl (by decide)
  have t1 : h.1 = c.1 := T.1.1
  cases q : hR h r x1.toNatClampNeg with
  | none =>
    unfold sX15_deepBoard
    refine s_ref er ?_
    refine s_gd (by rw [thN T qr (k := 90) (n := 10) rfl (by decide)]; exact rg_inB i1 (by decide)) ?_
    rw [q]
    show Sat (cl (hR h x0 33) _) _
    refine s_ref er ?_
    refine s_q (fun a ea => ?_)
    refine s_q (fun h8 e8 => ?_)
    subst ea
    subst e8
    unfold sX15_deepBoard_17 sX15_deepBoard_21 sX15_deepBoard_30 sX15_deepBoard_34 sX15_deepBoard_35
    refine s_dd (newBoard T (3500 + x1.toNatClampNeg)) (fun o1 eo1 ho => ?_)
    have ob1 : o1 = boH h := by rw [boH_v] at eo1; exact (Option.some.inj eo1).symm
    obtain ⟨ρ1, c1, X1, T1, a1, w1, O1⟩ := ho
    have r01 := ex_r X1 r0 (by decide)
    have qr1 := ex_r X1 qr (by decide)
    have qm1 := ex_r X1 qm (by decide)
    have lt1 : ∀ x k, ρ x = k → k ≠ 0 → x < h.1.1 := fun x k hx hk => by rw [t1]; exact T.2.1.2.2.1 x (by rw [hx]; exact hk)
    have lt0 := lt1 x0 _ r0 (by decide)
    have er1 : hR o1 x0 33 = some r := by rw [(O1 x0 lt0).2.2.1]; exact er
    have em1 : hR o1 x0 34 = some m := by rw [(O1 x0 lt0).2.2.1]; exact em
    refine s_gd (by rw [thN T1 qr1 (k := 90) (n := 10) rfl (by decide)]; exact rg_inB i1 (by decide)) ?_
    refine s_q (fun h2 e2 => ?_)
    have T2 : TH ρ1 c1 h2 := by
      rw [e2]
      exact th_wRe T1 qr1 (k2 := 13) rfl (by decide) a1 (by decide) (by decide) rfl rfl rfl w1 (ex_p X1 (h9.1 _))
    have er2 : hR h2 x0 33 = some r := by rw [e2, r_R, if_neg (ne_r r01 qr1 (by decide))]; exact er1
    have em2 : hR h2 x0 34 = some m := by rw [e2, r_R, if_neg (ne_r r01 qr1 (by decide))]; exact em1
    have rr2 : ∀ j, hR h2 r j = if j = x1.toNatClampNeg then some (hS h) else hR h r j := fun j => by
      rw [e2, r_R]
      by_cases z : j = x1.toNatClampNeg
      · rw [if_pos ⟨rfl, z⟩, if_pos z]
      · rw [if_neg (fun y => z y.2), if_neg z, (O1 r (lt1 r _ qr (by decide))).2.2.1]
    have mm2 : ∀ j, hR h2 m j = hR h m j := fun j => by
      rw [e2, r_R, if_neg (ne_r qm1 qr1 (by decide)), (O1 m (lt1 m _ qm (by decide))).2.2.1]
    have ii2 : ∀ j, hI h2 x0 j = hI h x0 j := fun j => by rw [e2]; exact (O1 x0 lt0).1 j
    refine s_ref em2 ?_
    refine s_q (fun b eb => ?_)
    refine s_q (fun h5 e5 => ?_)
    subst eb
    subst e5
    refine s_dd (newMoves T2 (3600 + x1.toNatClampNeg)) (fun o3 eo3 ho3 => ?_)
    have ob3 : o3 = moH h2 := by rw [moH_v] at eo3; exact (Option.some.inj eo3).symm
    obtain ⟨ρ3, c3, X3, T3, a3, w3, O3⟩ := ho3
    have r03 := ex_r X3 r01 (by decide)
    have qr3 := ex_r X3 qr1 (by decide)
    have qm3 := ex_r X3 qm1 (by decide)
    have t2 : h2.1 = c1.1 := T2.1.1
    have lt2 : ∀ x k, ρ1 x = k → k ≠ 0 → x < h2.1.1 := fun x k hx hk => by rw [t2]; exact T2.2.1.2.2.1 x (by rw [hx]; exact hk)
    have er3 : hR o3 x0 33 = some r := by rw [(O3 x0 (lt2 x0 _ r01 (by decide))).2.2.1]; exact er2
    have em3 : hR o3 x0 34 = some m := by rw [(O3 x0 (lt2 x0 _ r01 (by decide))).2.2.1]; exact em2
    refine s_gd (by rw [thN T3 qm3 (k := 91) (n := 10) rfl (by decide)]; exact rg_inB i1 (by decide)) ?_
    refine s_q (fun h6 e6 => ?_)
    have T6 : TH ρ3 c3 h6 := by
      rw [e6]
      exact th_wRe T3 qm3 (k2 := 14) rfl (by decide) a3 (by decide) (by decide) rfl rfl rfl w3 (ex_p (ex_t X1 X3) (h9.2 _))
    have er6 : hR h6 x0 33 = some r := by rw [e6, r_R, if_neg (ne_r r03 qm3 (by decide))]; exact er3
    have em6 : hR h6 x0 34 = some m := by rw [e6, r_R, if_neg (ne_r r03 qm3 (by decide))]; exact em3
    have rr6 : ∀ j, hR h6 r j = if j = x1.toNatClampNeg then some (hS h) else hR h r j := fun j => by
      rw [e6, r_R, if_neg (ne_r qr3 qm3 (by decide)), (O3 r (lt2 r _ qr1 (by decide))).2.2.1]; exact rr2 j
    have mm6 : ∀ j, hR h6 m j = if j = x1.toNatClampNeg then some (hS h2) else hR h m j := fun j => by
      rw [e6, r_R]
      by_cases z : j = x1.toNatClampNeg
      · rw [if_pos ⟨rfl, z⟩, if_pos z]
      · rw [if_neg (fun y => z y.2), if_neg z, (O3 m (lt2 m _ qm1 (by decide))).2.2.1]; exact mm2 j
    have ii6 : ∀ j, hI h6 x0 j = hI h x0 j := fun j => by rw [e6]; exact ((O3 x0 (lt2 x0 _ r01 (by decide))).1 j).trans (ii2 j)
    have ee6 : hR h6 r x1.toNatClampNeg = some (hS h) := by rw [rr6, if_pos rfl]
    refine s_ref er6 ?_
    refine s_gd (by rw [thN T6 qr3 (k := 90) (n := 10) rfl (by decide)]; exact rg_inB i1 (by decide)) ?_
    refine s_ref ee6 (s_some ⟨ρ3, c3, ex_t X1 X3, T6, ⟨?_, ?_, ?_⟩, hS h2, r, m, er6, em6, ee6, by rw [mm6, if_pos rfl]⟩)
    · show (hI h6 x0 13).toInt = (hI h6 x0 11).toInt * (hI h6 x0 12).toInt
      rw [ii6, ii6, ii6]; exact W.1
    · intro rb rl g1 g2 d b g3
      have y1 : rb = r := r_eq er6 g1
      have y2 : rl = m := r_eq em6 g2
      rw [y1, rr6] at g3
      rw [y2, mm6]
      by_cases z : d = x1.toNatClampNeg
      · rw [if_pos z]; exact ⟨_, rfl⟩
      · rw [if_neg z] at g3 ⊢
        exact W.2.1 r m er em d b g3
    · intro r' e'
      have y1 : r' = r := r_eq er6 e'
      subst y1
      have l60 := clamp_i i1.1
      have i59 := i1.2
      have cc := nuC_set q ee6 (fun i hi => by rw [rr6, if_neg hi]) 10 (by omega)
      have pb := W.2.2 r' er
      have h21 : h2.1 = (h.1.1 + 5, h.1.2 + 162) := by rw [e2]; show o1.1 = _; rw [ob1]; exact boH_1 h
      have h61 : h6.1 = (h2.1.1 + 8, h2.1.2 + 21008) := by rw [e6]; show o3.1 = _; rw [ob3]; exact moH_1 h2
      rw [h61, h21]
      show h.1.1 + 5 + 8 + 13 * nuC h6 r' 10 ≤ Bq.1 ∧ h.1.2 + 162 + 21008 + 21170 * nuC h6 r' 10 ≤ Bq.2
      omega
  | some b =>
    obtain ⟨l, el⟩ := W.2.1 r m er em _ b q
    have D : Dp x0 x1.toNatClampNeg b l h := ⟨r, m, er, em, q, el⟩
    exact ⟨(b, h), deep_read T r0 i1 D, ρ, c, ex_0, T, W, l, D⟩
section
variable {Bq : Nat × Nat} {ρ : Nat → Nat} {c : Cm} {β : Type} {Q : β → Prop} {h : Hp} {x0 : Nat} {x1 : Int32} {p wb wl : Nat → Bool}
theorem s_deepY {k : Nat × Hp → Option β} (hp : ∀ k w i, SX p wb wl k w i = true → cPm c k w i = true) (hi : p x1.toNatClampNeg = true) (T : TH ρ c h) (r0 : ρ x0 = 16) (i1 : Rg 0 9 x1) (W : DWY Bq x0 h) (H : ∀ o ρ1 c1 l, Ext ρ c ρ1 c1 → TH ρ1 c1 o.2 → Fr ρ (cat c (SX (is x1.toNatClampNeg) no no) h) h o.2 → DWY Bq x0 o.2 → Dp x0 x1.toNatClampNeg o.1 l o.2 → Sat (k o) Q) : Sat (cl (sX15_deepBoard h x0 x1) k) Q :=
  s_mk (g := fun (o : Nat × Hp) => o.2) (P := fun (o : Nat × Hp) (_ : Nat → Nat) (_ : Cm) => DWY Bq x0 o.2 ∧ ∃ l, Dp x0 x1.toNatClampNeg o.1 l o.2) T (fun k w i m => hp k w i (sx_sub (fun i hi' => by rw [is_e hi']; exact hi) (fun _ z => no_f z) (fun _ z => no_f z) m))
    (deepBY (sx9 (sx_c (SX (is x1.toNatClampNeg) no no)) is_s) (th_in _ T) r0 i1 W) (fun _ _ _ _ _ p => p) (fun o ρ1 c1 X T1 f ⟨p1, l, p2⟩ => H o ρ1 c1 l X T1 f p1 p2)
end
end
section
section
variable {Bq : Nat × Nat} {ρ : Nat → Nat} {c : Cm} {h : Hp} {F x0 b l d : Nat} {x1 x2 : Int32} {p wb wl : Nat → Bool}
theorem dw_wIY {i : Nat} {v : Int32} (r0 : ρ x0 = 16) (rb : ρ b = 13) (W : DWY Bq x0 h) : DWY Bq x0 (wI h b i v) := by
  refine ⟨?_, W.2⟩
  have n : ∀ j, hI (wI h b i v) x0 j = hI h x0 j := fun j => by rw [r_I, if_neg (ne_r r0 rb (by decide))]
  show (hI (wI h b i v) x0 13).toInt = (hI (wI h b i v) x0 11).toInt * (hI (wI h b i v) x0 12).toInt
  rw [n, n, n]; exact W.1
theorem s_legalY {β : Type} {Q : β → Prop} {k : Hp → Option β} (hF : 700000 ≤ F) (hp : ∀ k w i, SX p wb wl k w i = true → cPm c k w i = true) (h1 : wb 2528 = true) (h3 : wl (3600 + d) = true) (T : TH ρ c h) (r0 : ρ x0 = 16) (W : DWY Bq x0 h) (D : Dp x0 d b l h) (P : PE b h) (H : ∀ o, TH ρ c o → Fr ρ (cat c (SX no (is 2528) (is (3600 + d))) h) h o → DWY Bq x0 o → Dp x0 d b l o → PE b o → MvB x0 b l o → Sat (k o) Q) : Sat (cl (sX15_legal F h x0 b l) k) Q := by
  obtain ⟨k1, k2, k3, k4⟩ := dp_r T r0 D
  have hs : ∀ k w i, SX no (is 2528) (is (3600 + d)) k w i = true → cPm c k w i = true := fun k w i m => hp k w i (sx_sub (fun _ z => no_f z) (fun w z => by rw [is_e z]; exact h1) (fun w z => by rw [is_e z]; exact h3) m)
  refine s_cVfq T hs (zX15_legal hF (pmA_s (sxA (sx_c _)) rfl) (pmO_s (sxB (sx_c _) is_s) rfl) (pmO_s (w := 3600 + d) (sxM (sx_c _) is_s) rfl) k3 k4 (by omega) (th_in _ T) r0 k1 k2 W.1 P) (fun o T1 f mv => ?_)
  have kp := dp_keep0 T r0 f D
  have P1 : PE b o := by
    have z : ∀ k i, mS saL k i = false → mS mpL k i = false → (k == 90 || k == 91) = false → SX no (is 2528) (is (3600 + d)) k (cw c b) i = false := fun k i a1 a2 a3 => sx_f (Or.inl a3) a1 (Or.inr (by rw [k3]; exact is_f (by omega))) (Or.inl a2)
    exact pe_fr T k1 f (z _ _ rfl rfl rfl) (z _ _ rfl rfl rfl) (z _ _ rfl rfl rfl) (fun i => z _ _ rfl rfl rfl) (fun i => z _ _ rfl rfl rfl) P
  exact H o T1 f (dw_keep0Y T r0 f W) kp P1 mv
theorem zX15_turnsBackY (hF : 700000 ≤ F) (hp : ∀ k w i, SX p wb wl k w i = true → cPm c k w i = true) (h1 : wb 2528 = true) (h2 : wb (3500 + x1.toNatClampNeg) = true) (h3 : wl (3600 + x1.toNatClampNeg) = true) (T : TH ρ c h) (r0 : ρ x0 = 16) (i1 : Rg 0 9 x1) (W : DWY Bq x0 h) (D : Dp x0 x1.toNatClampNeg b l h) (P : PE b h) : Sat (sX15_turnsBack F h x0 x1) (fun o => TH ρ c o.2 ∧ Rg 0 1 o.1 ∧ DWY Bq x0 o.2 ∧ Dp x0 x1.toNatClampNeg b l o.2 ∧ (¬ o.1 = 0 → PE b o.2)) := by
  unfold sX15_turnsBack
  refine s_deep0 T r0 i1 D ?_
  unfold sX15_turnsBack_5
  refine s_list T r0 i1 D ?_
  refine s_legalY hF hp h1 h3 T r0 W D P (fun o T1 _ W1 D1 P1 _ => ?_)
  obtain ⟨k1, k2, k3, k4⟩ := dp_r T1 r0 D1
  unfold sX15_turnsBack_17
  refine s_cI0 (zX15_royalOf hF T1 r0 k1 (thI T1 k1 (k := 13) (i := 1) (lo := 0) (hi := 1) rfl)) (fun o2 e2 i2 => ?_)
  obtain ⟨v2, g2⟩ := o2
  have : g2 = o := e2
  subst this
  unfold sX15_turnsBack_26
  refine s_list T1 r0 i1 D1 ?_
  have hs : ∀ k w i, SX no no no k w i = true → cPm c k w i = true := fun k w i m => hp k w i (sx_sub (fun _ z => no_f z) (fun _ z => no_f z) (fun _ z => no_f z) m)
  refine s_cIf T1 hs (zX15_endedBy hF (pmA_s (sxA (sx_c _)) rfl) rfl (th_in _ T1) r0 k1 (thI T1 k2 (k := 14) (i := 0) (lo := 0) (hi := 3000) rfl)) (fun o3 T3 i3 f3 => ?_)
  have W3 := dw_keep0Y T1 r0 f3 W1
  have D3 := dp_keep0 T1 r0 f3 D1
  have e0 : Sat (some ((0 : Int32), o3.2)) (fun o => TH ρ c o.2 ∧ Rg 0 1 o.1 ∧ DWY Bq x0 o.2 ∧ Dp x0 x1.toNatClampNeg b l o.2 ∧ (¬ o.1 = 0 → PE b o.2)) := s_some ⟨T3, rg_b rfl, W3, D3, fun z => absurd rfl z⟩
  have e1 : ∀ o3 : Hp, TH ρ c o3 → DWY Bq x0 o3 → Dp x0 x1.toNatClampNeg b l o3 → Sat (sX15_turnsBack_66 F o3 b) (fun o => TH ρ c o.2 ∧ Rg 0 1 o.1 ∧ DWY Bq x0 o.2 ∧ Dp x0 x1.toNatClampNeg b l o.2 ∧ (¬ o.1 = 0 → PE b o.2)) := fun o3 T3 W3 D3 => by
    unfold sX15_turnsBack_66
    refine s_hq (th_wI T3 k1 (k := 13) (i := 1) (lo := 0) (hi := 1) rfl (rg_sub (rg_b rfl : Rg 1 1 (1 : Int32)) (thI T3 k1 (k := 13) (i := 1) (lo := 0) (hi := 1) rfl) (by decide)) (by decide) (by decide) (by rw [k3]; exact sxB hp h2 13 1 rfl)) (fun g4 T4 e4 => ?_)
    refine s_hq (th_wI T4 k1 (k := 13) (i := 3) (lo := 0) (hi := 64) rfl (rg_b rfl : Rg 0 64 (0 : Int32)) (by decide) (by decide) (by rw [k3]; exact sxB hp h2 13 3 rfl)) (fun g5 T5 e5 => ?_)
    refine s_some ⟨T5, rg_b rfl, ?_, ?_, fun _ => pe_0 (by rw [he_s e5]; rfl)⟩
    · rw [e5, e4]; exact dw_wIY r0 k1 (dw_wIY r0 k1 W3)
    · rw [e5, e4]; exact D3
  unfold sX15_turnsBack_41 sX15_turnsBack_61 sX15_turnsBack_64
  refine s_br (fun _ => e0) (fun _ => ?_)
  refine s_br (fun _ => e1 _ T3 W3 D3) (fun n => ?_)
  refine s_cIf T3 hs (zX15_isAttacked hF (pmA_s (sxA (sx_c _)) rfl) rfl (th_in _ T3) r0 k1 (rg_nlo n i2 (rg_b rfl : Rg (-1) (-1) (-1 : Int32))) (rg_sub (rg_b rfl : Rg 1 1 (1 : Int32)) (thI T3 k1 (k := 13) (i := 1) (lo := 0) (hi := 1) rfl) (by decide))) (fun o4 T4 i4 f4 => ?_)
  have W4 := dw_keep0Y T3 r0 f4 W3
  have D4 := dp_keep0 T3 r0 f4 D3
  exact s_br (fun _ => e1 _ T4 W4 D4) (fun _ => s_some ⟨T4, rg_b rfl, W4, D4, fun z => absurd rfl z⟩)
theorem zX15_stepY (hF : 700000 ≤ F) (hp : ∀ k w i, SX p wb wl k w i = true → cPm c k w i = true) (ed : x1.toNatClampNeg = d) (h0 : p (d + 1) = true) (h1 : wb 2528 = true) (h2 : wb (3500 + (d + 1)) = true) (h3 : wl (3600 + (d + 1)) = true) (T : TH ρ c h) (r0 : ρ x0 = 16) (i1 : Rg 0 8 x1) (W : DWY Bq x0 h) (D : Dp x0 d b l h) (P : PE b h) (M : MvB x0 b l h) (i2 : 0 ≤ x2.toInt) (lt : x2.toInt < (hI h l 0).toInt) : Sat (sX15_step F h x0 x1 x2) (MkV ρ c (fun o => DWY Bq x0 o ∧ ∃ b' l', Dp x0 (d + 1) b' l' o ∧ PE b' o ∧ MvB x0 b' l' o)) := by
  have i1' : Rg 0 9 x1 := rg_m i1 (by decide)
  have ies : Rg 0 9 (x1 + (1 : Int32)) := rg_add i1 (rg_b rfl : Rg 1 1 (1 : Int32)) (by decide)
  have es : (x1 + (1 : Int32)).toNatClampNeg = d + 1 := by rw [(nc_s i1 (by decide)).1, ed]
  have D' : Dp x0 x1.toNatClampNeg b l h := by rw [ed]; exact D
  unfold sX15_step
  refine s_deep0 T r0 i1' D' ?_
  unfold sX15_step_6
  refine s_list T r0 i1' D' ?_
  refine s_deepY hp (by rw [es]; exact h0) T r0 ies W (fun o4 ρ1 c1 l' X1 T1 f1 W1 D1 => ?_)
  rw [es] at f1 D1
  obtain ⟨Db, el, Pb, Mb⟩ := dp_keep T r0 f1 (is_f (by omega)) rfl rfl D
  have P1 := Pb P
  have M1 := Mb M
  have r1 := ex_r X1 r0 (by decide)
  have hp1 := ex_hp X1 hp
  obtain ⟨k1, k2, k3, k4⟩ := dp_r T1 r1 Db
  obtain ⟨j1, j2, j3, j4⟩ := dp_r T1 r1 D1
  have h3000 := thI T1 k2 (k := 14) (i := 0) (lo := 0) (hi := 3000) rfl
  rw [← el] at lt
  have ix : Rg 0 2999 x2 := ⟨i2, by have := h3000.2; omega⟩
  unfold sX15_step_20
  have hs : ∀ k w i, SX no (is (3500 + (d + 1))) no k w i = true → cPm c1 k w i = true := fun k w i m => hp1 k w i (sx_sub (fun _ z => no_f z) (fun w z => by rw [is_e z]; exact h2) (fun _ z => no_f z) m)
  refine s_cVfq T1 hs (zX15_make hF (pmA_s (sxA (sx_c _)) rfl) (pmO_s (w := 3500 + (d + 1)) (sxB (sx_c _) is_s) rfl) k3 k4 j3 (th_in _ T1) r1 k1 k2 ix j1 W1.1 M1 lt) (fun o5 T5 f5 P5 => ?_)
  have W5 := dw_keep0Y T1 r1 f5 W1
  have D5 := dp_keep0 T1 r1 f5 D1
  unfold sX15_step_23
  have D5' : Dp x0 (x1 + (1 : Int32)).toNatClampNeg o4.1 l' o5 := by rw [es]; exact D5
  refine s_deep0 T5 r1 ies D5' ?_
  unfold sX15_step_31
  refine s_list T5 r1 ies D5' ?_
  refine s_legalY hF hp1 h1 h3 T5 r1 W5 D5 P5 (fun o6 T6 _ W6 D6 P6 M6 => ?_)
  unfold sX15_step_42
  exact s_some ⟨ρ1, c1, X1, T6, W6, _, _, D6, P6, M6⟩
end
end
section
section
variable {d e j : Nat}
end
section
variable {Bq : Nat × Nat} {ρ : Nat → Nat} {c : Cm} {h o : Hp} {F x0 b l d e : Nat} {x1 x2 x3 x4 x5 : Int32} {p wb wl : Nat → Bool}
theorem s_stepY {β : Type} {Q : β → Prop} {k : Hp → Option β} (hF : 700000 ≤ F) (hp : ∀ k w i, SD (d + 1) k w i = true → cPm c k w i = true) (ed : x1.toNatClampNeg = d) (hd : d ≤ 8) (T : TH ρ c h) (r0 : ρ x0 = 16) (i1 : 0 ≤ x1.toInt) (W : DWY Bq x0 h) (D : DQ x0 d b l h) (i2 : 0 ≤ x2.toInt) (lt : x2.toInt < (hI h l 0).toInt) (H : ∀ o ρ1 c1 b' l', Ext ρ c ρ1 c1 → TH ρ1 c1 o → DWY Bq x0 o → DQ x0 d b l o → hI o l 0 = hI h l 0 → DQ x0 (d + 1) b' l' o → Sat (k o) Q) : Sat (cl (sX15_step F h x0 x1 x2) k) Q := by
  have nx := nc_i i1
  refine s_mV (S := SD (d + 1)) T hp (zX15_stepY hF (sx_c _) ed (sdp_t (Nat.le_refl _)) sdb_0 (sdb_t (Nat.le_refl _) (by omega)) (sdl_t (Nat.le_refl _) (by omega)) (th_in _ T) r0 ⟨i1, by omega⟩ W D.1 D.2.1 D.2.2 i2 lt) (fun o ρ1 c1 X T1 f ⟨W1, b', l', D1⟩ => ?_)
  obtain ⟨D2, e2⟩ := dq_keep T r0 f (Nat.lt_succ_self d) D
  exact H o ρ1 c1 b' l' X T1 W1 D2 e2 D1
def CountOkY (Bq : Nat × Nat) (F x0 D : Nat) : Prop := ∀ {ρ : Nat → Nat} {c : Cm} {h : Hp} {b l d : Nat} {x1 x2 x3 : Int32}, (∀ k w i, SD d k w i = true → cPm c k w i = true) → TH ρ c h → ρ x0 = 16 → x1.toNatClampNeg = d → 0 ≤ x1.toInt → 0 ≤ x2.toInt → x1.toInt + x2.toInt ≤ 9 → x2.toNatClampNeg < D → DWY Bq x0 h → Dp x0 d b l h → PE b h → Sat (qX15_countRows F D h x0 x1 x2 x3) (MkI ρ c 0 (100000 * x2.toInt + 1) (DWY Bq x0))
theorem count_loopY {D : Nat} (hF : 700000 ≤ F) (R : CountOkY Bq F x0 D) : ∀ (f : Nat) {ρ : Nat → Nat} {c : Cm} {h : Hp} {b l d : Nat} {x1 x2 x3 x6 x7 : Int32}, (∀ k w i, SD (d + 1) k w i = true → cPm c k w i = true) → TH ρ c h → ρ x0 = 16 → x1.toNatClampNeg = d → 0 ≤ x1.toInt → 2 ≤ x2.toInt → x1.toInt + x2.toInt ≤ 9 → x2.toNatClampNeg < D + 1 → DWY Bq x0 h → DQ x0 d b l h → 0 ≤ x6.toInt → x6.toInt ≤ 100000 * x2.toInt + 1 → 0 ≤ x7.toInt → (3000 - x7.toInt).toNat < f → Sat (sX15_countRows_46 F (qX15_countRows F D) f h x0 x1 x2 x3 b l x6 x7) (MkI ρ c 0 (100000 * x2.toInt + 1) (DWY Bq x0)) := by
  intro f
  induction f with
  | zero => intros; omega
  | succ f ih =>
    intro ρ c h b l d x1 x2 x3 x6 x7 hp T r0 ed i1 i2 i12 hD W D6 a6 b6 a7 hf
    rw [sX15_countRows_46]
    unfold sX15_countRows_117 sX15_countRows_78 sX15_countRows_81 sX15_countRows_92 sX15_countRows_95 sX15_countRows_108 sX15_countRows_111
    refine s_br (fun _ => s_some ⟨ρ, c, ex_0, T, ⟨a6, b6⟩, W⟩) (fun n1 => ?_)
    refine s_br (fun _ => s_some ⟨ρ, c, ex_0, T, ⟨a6, b6⟩, W⟩) (fun n2 => ?_)
    have lt7 := nle_i n1
    have le6 : x6.toInt ≤ 100000 := nlt_i n2
    have nx := nc_i i1
    have nx2 := nc_i (x := x2) (by omega)
    have ix1 : Rg 0 7 x1 := ⟨i1, by omega⟩
    obtain ⟨s1, s2⟩ := nc_s ix1 (by decide)
    rw [ed] at s1
    have ies : Rg 0 9 (x1 + (1 : Int32)) := ⟨by omega, by omega⟩
    have one : (1 : Int32).toInt = 1 := rfl
    have e2 : (x2 - (1 : Int32)).toInt = x2.toInt - 1 := by
      rw [ti_sub (a := 0) (b := 9) (c := 1) (d := 1) ⟨by omega, by omega⟩ (rg_b rfl) (by decide)]; rfl
    have n2' := nc_i (x := x2 - (1 : Int32)) (by omega)
    refine s_deepY hp (by rw [s1]; exact sdp_t (Nat.le_refl _)) T r0 ies W (fun o4 ρ1 c1 l' X1 T1 f1 W1 D1 => ?_)
    rw [s1] at f1 D1
    obtain ⟨Db, el, Pb, Mb⟩ := dp_keep T r0 f1 (is_f (by omega)) rfl rfl D6.1
    have P1 := Pb D6.2.1
    have M1 := Mb D6.2.2
    have r1 := ex_r X1 r0 (by decide)
    have hp1 := ex_hp X1 hp
    obtain ⟨k1, k2, k3, k4⟩ := dp_r T1 r1 Db
    obtain ⟨j1, j2, j3, j4⟩ := dp_r T1 r1 D1
    have h3000 := thI T1 k2 (k := 14) (i := 0) (lo := 0) (hi := 3000) rfl
    rw [← el] at lt7
    have ix : Rg 0 2999 x7 := ⟨a7, by have := h3000.2; omega⟩
    have hs : ∀ k w i, SX no (is (3500 + (d + 1))) no k w i = true → cPm c1 k w i = true := fun k w i m => hp1 k w i (sx_sub (fun _ z => no_f z) (fun w z => by rw [is_e z]; exact sdb_t (Nat.le_refl _) (by omega)) (fun _ z => no_f z) m)
    refine s_cVfq T1 hs (zX15_make hF (pmA_s (sxA (sx_c _)) rfl) (pmO_s (w := 3500 + (d + 1)) (sxB (sx_c _) is_s) rfl) k3 k4 j3 (th_in _ T1) r1 k1 k2 ix j1 W1.1 M1 lt7) (fun o5 T5 f5 P5 => ?_)
    have W5 := dw_keep0Y T1 r1 f5 W1
    have D5 := dp_keep0 T1 r1 f5 D1
    obtain ⟨D55, el5, Pb5, Mb5⟩ := dp_keep T1 r1 f5 rfl (is_f (by omega)) rfl Db
    have Q5 : DQ x0 d b l o5 := ⟨D55, Pb5 P1, Mb5 M1⟩
    have hc5 := ex_hp X1 (S := SD (d + 1)) hp
    -- going on, with the sum that stands, or with the rows of the next depth added
    have goon : ∀ {ρ2 : Nat → Nat} {c2 : Cm} {g : Hp} {y : Int32}, Ext ρ1 c1 ρ2 c2 → TH ρ2 c2 g → DWY Bq x0 g → DQ x0 d b l g → 0 ≤ y.toInt → y.toInt ≤ 100000 * x2.toInt + 1 → Sat (nm (x7 + (1 : Int32)) fun v_1 => sX15_countRows_46 F (qX15_countRows F D) f g x0 x1 x2 x3 b l y v_1) (MkI ρ c 0 (100000 * x2.toInt + 1) (DWY Bq x0)) := fun {ρ2 c2 g y} Y T2 W2 D2 y0 y1 => by
      refine s_q (fun v ev => ?_)
      have ev2 : v.toInt = x7.toInt + 1 := by rw [ev]; exact (nc_s ix (by decide)).2
      exact mI_ext (ex_t X1 Y) (ih (ex_hp Y hc5) T2 (ex_r Y r1 (by decide)) ed i1 i2 i12 hD W2 D2 y0 y1 (by omega) (by have := ix.2; omega))
    have down : ∀ {g : Hp}, TH ρ1 c1 g → DWY Bq x0 g → DQ x0 d b l g → Dp x0 (d + 1) o4.1 l' g → PE o4.1 g → Sat (cl (qX15_countRows F D g x0 (x1 + (1 : Int32)) (x2 - (1 : Int32)) x3) fun o_1 => nm (x6 + o_1.1) fun v_1 => nm (x7 + (1 : Int32)) fun v_2 => sX15_countRows_46 F (qX15_countRows F D) f o_1.2 x0 x1 x2 x3 b l v_1 v_2) (MkI ρ c 0 (100000 * x2.toInt + 1) (DWY Bq x0)) := fun {g} T2 W2 D2 D3 P3 => by
      refine s_mI (S := SD (d + 1)) T2 hc5 (R (sx_c _) (th_in _ T2) r1 s1 (by omega) (by omega) (by omega) (by omega) W2 D3 P3) (fun o ρ2 c2 Y T4 f4 i4 W4 => ?_)
      obtain ⟨D4, e4⟩ := dq_keep T2 r1 f4 (Nat.lt_succ_self d) D2
      refine s_q (fun v ev => ?_)
      have l4 : o.1.toInt ≤ 900001 := by have := i4.2; omega
      have ev2 : v.toInt = x6.toInt + o.1.toInt := by rw [ev]; exact ti_add (a := 0) (b := 100000) (c := 0) (d := 900001) ⟨a6, le6⟩ ⟨i4.1, l4⟩ (by decide)
      exact goon Y T4 W4 D4 (by have := i4.1; omega) (by have := i4.2; omega)
    refine s_br (fun _ => down T5 W5 Q5 D5 P5) (fun _ => ?_)
    have D5' : Dp x0 (x1 + (1 : Int32)).toNatClampNeg o4.1 l' o5 := by rw [s1]; exact D5
    have hs6 : ∀ k w i, SD (d + 1) k w i = true → cPm c1 k w i = true := hc5
    obtain ⟨o6, e6, T6, i6, W6, D6', P6⟩ := zX15_turnsBackY (c := cat c1 (SD (d + 1)) o5) hF (sx_c _) sdb_0 (by rw [s1]; exact sdb_t (Nat.le_refl _) (by omega)) (by rw [s1]; exact sdl_t (Nat.le_refl _) (by omega)) (th_in _ T5) r1 ies W5 D5' P5
    have T7 := th_out T5 hs6 T6
    have f7 := fr_u T5 T6.2.2
    obtain ⟨D7, e7⟩ := dq_keep T5 r1 f7 (Nat.lt_succ_self d) Q5
    rw [s1] at D6'
    refine s_val e6 ?_
    exact s_br (fun _ => goon ex_0 T7 W6 D7 a6 b6) (fun n => down T7 W6 D7 D6' (P6 n))
theorem count_allY (hF : 700000 ≤ F) : ∀ D, CountOkY Bq F x0 D := by
  intro D
  induction D with
  | zero => intro ρ c h b l d x1 x2 x3 _ _ _ _ _ _ _ n; omega
  | succ D ih =>
    intro ρ c h b l d x1 x2 x3 hp T r0 ed i1 i2 i12 hD W Dd P
    show Sat (oX15_countRows F (qX15_countRows F D) h x0 x1 x2 x3) _
    unfold oX15_countRows
    refine s_br (fun _ => s_some ⟨ρ, c, ex_0, T, ⟨show (0 : Int) ≤ 1 by decide, show (1 : Int) ≤ _ by omega⟩, W⟩) (fun n0 => ?_)
    have n0' := ne_i n0
    have zz : (0 : Int32).toInt = 0 := rfl
    have nx := nc_i i1
    have ix1 : Rg 0 9 x1 := ⟨i1, by omega⟩
    have Dd' : Dp x0 x1.toNatClampNeg b l h := by rw [ed]; exact Dd
    refine s_deep0 T r0 ix1 Dd' ?_
    unfold sX15_countRows_11
    refine s_list T r0 ix1 Dd' ?_
    refine s_legalY hF hp sdb_0 (sdl_t (Nat.le_refl _) (by omega)) T r0 W Dd P (fun o T1 _ W1 D1 P1 M1 => ?_)
    unfold sX15_countRows_29
    obtain ⟨k1, k2, k3, k4⟩ := dp_r T1 r0 D1
    have h3000 := thI T1 k2 (k := 14) (i := 0) (lo := 0) (hi := 3000) rfl
    refine s_br (fun _ => s_some ⟨ρ, c, ex_0, T1, ⟨h3000.1, by have := h3000.2; show (hI o l 0).toInt ≤ _; omega⟩, W1⟩) (fun n1 => ?_)
    have n1' := ne_i n1
    have one : (1 : Int32).toInt = 1 := rfl
    have z0 : ((0 : Int32)).toInt = 0 := rfl
    exact count_loopY hF ih F (fun k w i m => hp k w i (sd_sub (Nat.le_succ d) m)) T1 r0 ed i1 (by omega) i12 hD W1 ⟨D1, P1, M1⟩ (by decide) (by rw [z0]; omega) (by decide) (by rw [z0]; omega)
theorem zX15_countRowsY (hF : 700000 ≤ F) (hp : ∀ k w i, SD d k w i = true → cPm c k w i = true) (T : TH ρ c h) (r0 : ρ x0 = 16) (ed : x1.toNatClampNeg = d) (i1 : 0 ≤ x1.toInt) (i2 : 0 ≤ x2.toInt) (i12 : x1.toInt + x2.toInt ≤ 9) (W : DWY Bq x0 h) (D : Dp x0 d b l h) (P : PE b h) : Sat (sX15_countRows F h x0 x1 x2 x3) (MkI ρ c 0 (100000 * x2.toInt + 1) (DWY Bq x0)) := count_allY hF 40 hp T r0 ed i1 i2 i12 (by have := nc_i i2; omega) W D P
end
end
