section
variable {ρ : Nat → Nat} {c : Cm} {h o : Hp} {S : Nat → Nat → Nat → Bool} {x0 b g w i F : Nat} {n : Int} {x1 x2 x3 x4 x5 x6 : Int32}
theorem one_sub (i : Rg 0 1 x1) : Rg 0 1 ((1 : Int32) - x1) := rg_sub (rg_b rfl : Rg 1 1 (1 : Int32)) i (by decide)
theorem gs_3 (hF : 700000 ≤ F) : ∀ (f : Nat) {ρ : Nat → Nat} {c : Cm} {h : Hp} {x5 : Int32}, GPm c → TH ρ c h → ρ x0 = 16 → ρ b = 13 → cw c b = 3400 → Rg 0 63 x2 → Rg 0 63 x3 → Rg 0 11 x4 → GI x0 h → 0 ≤ x5.toInt → (14 - x5.toInt).toNat < f → Sat (sX15_guesses_3 F f h x0 b x2 x3 x4 x5) (MkI ρ c 0 1 (GI x0)) := by
  intro f
  induction f with
  | zero => intros; omega
  | succ f ih =>
    intro ρ c h x5 P T r0 rb wb i2 i3 i4 I a5 hf
    rw [sX15_guesses_3]
    obtain ⟨r1, e1, q1⟩ := thR T r0 (i := 4) (k2 := 15) rfl (by decide)
    refine s_ref e1 ?_
    have c12 := thI T q1 (k := 15) (i := 2) (lo := 0) (hi := 12) rfl
    refine s_br (fun _ => s_some ⟨ρ, c, ex_0, T, rg_b rfl, I⟩) (fun n1 => ?_)
    have z1 : (1 : Int32).toInt = 1 := rfl
    have l5 : x5.toInt < 1 + (hI h r1 2).toInt := by
      have := nle_i n1
      rw [ta (by rw [z1]; have := c12.1; have := c12.2; omega), z1] at this
      exact this
    have i5 : Rg 0 12 x5 := ⟨a5, by have := c12.2; omega⟩
    have b5 := i5.2
    clear n1
    obtain ⟨g, eg, _⟩ := thR T r0 (i := 45) (k2 := 13) rfl (by decide)
    obtain ⟨rg, wg⟩ := g45_r T r0 eg
    refine s_ref eg ?_
    refine s_cVf (S := fS [] [(2545, bpL)]) T (fs_sub pmA_n (fs_c P.2.2.2.2.1 fs_n)) (zX12_copy hF (pmO_s (fs_o (.head _)) rfl) wg wb (th_in _ T) rg rb) (fun o4 T4 f4 => ?_)
    have I4 := gi_fr T r0 f4 ks_45 I
    have eg4 : hR o4 x0 45 = some g := by rw [(fr_RI f4 r0 (by decide) ks_45.2.2.2.2.2.2.2.2.2).2.2]; exact eg
    have pg : ∀ i, mS bpL 13 i = true → cPm c 13 (cw c g) i = true := fun i m => by rw [wg]; exact P.2.2.2.2.1 _ _ m
    unfold sX15_guesses_25
    refine s_ref eg4 ?_
    refine s_hq (th_wJ T4 rg (by decide) (pg _ rfl)) (fun h5 T5 w5 => ?_)
    have f5 := fr1Jo (c := c) (B := bpL) rg wg rfl w5
    have I5 := gi_fr T4 r0 f5 ks_45 I4
    have eg5 : hR h5 x0 45 = some g := by rw [w5]; exact eg4
    refine s_ref eg5 ?_
    refine s_hq (th_wI T5 rg (k := 13) (lo := 0) (hi := 64) rfl (rg_b rfl) (by decide) (by decide) (pg _ rfl)) (fun h6 T6 w6 => ?_)
    have f6 := fr1Io (c := c) (B := bpL) rg wg rfl w6
    have I6 := gi_fr T5 r0 f6 ks_45 I5
    have eg6 : hR h6 x0 45 = some g := by rw [w6]; exact eg5
    refine s_ref eg6 ?_
    refine s_hq (th_wI T6 rg (k := 13) (lo := 0) (hi := 999) rfl (rg_b rfl) (by decide) (by decide) (pg _ rfl)) (fun h7 T7 w7 => ?_)
    have f7 := fr1Io (c := c) (B := bpL) rg wg rfl w7
    have I7 := gi_fr T6 r0 f7 ks_45 I6
    have eg7 : hR h7 x0 45 = some g := by rw [w7]; exact eg6
    refine s_ref eg7 ?_
    have sd7 := thI T7 rb (k := 13) (i := 1) (lo := 0) (hi := 1) rfl
    refine s_hq (th_wI T7 rg (k := 13) (lo := 0) (hi := 1) rfl (one_sub sd7) (by decide) (by decide) (pg _ rfl)) (fun h8 T8 w8 => ?_)
    have f8 := fr1Io (c := c) (B := bpL) rg wg rfl w8
    have I8 := gi_fr T7 r0 f8 ks_45 I7
    have eg8 : hR h8 x0 45 = some g := by rw [w8]; exact eg7
    have B8 : GBd x0 g h8 := by
      refine ⟨eg8, ?_, ?_⟩
      · rw [w8, w7, w6, w5]
        show hJ (wJ o4 g 2 0) g 2 = 0
        rw [r_J, if_pos ⟨rfl, rfl⟩]
      · rw [w8, r_I, if_neg (fun y => absurd y.2 (by decide)), w7, r_I, if_neg (fun y => absurd y.2 (by decide)), w6, r_I, if_pos ⟨rfl, rfl⟩]
    refine s_ref eg8 ?_
    obtain ⟨M, eM, rM⟩ := thR T8 rg (i := 0) (k2 := 62) rfl (by decide)
    have wM : cw c M = 2545 := th_ih T8 rg (k := 13) rfl eM wg
    refine s_ref eM ?_
    have sd8 := thI T8 rb (k := 13) (i := 1) (lo := 0) (hi := 1) rfl
    have go : ∀ {t : Int32}, Rg 0 24 t → Sat (sX15_guesses_90 F (sX15_guesses_3 F f) h8 x0 b x2 x3 x4 x5 t x2 M) (MkI ρ c 0 1 (GI x0)) := fun {t} it => by
      unfold sX15_guesses_90 sX15_valueOf
      refine s_gd (by rw [thN T8 rM (k := 62) (n := 64) rfl (by decide)]; exact rg_inB i2 (by decide)) ?_
      refine s_hq (th_wI T8 rM (k := 62) (lo := 0) (hi := 24) rfl it (by decide) (by decide) (by rw [wM]; exact P.2.2.2.2.1 _ _ rfl)) (fun h9 T9 w9 => ?_)
      have f9 := fr1Io (c := c) (B := bpL) rM wM rfl w9
      have I9 := gi_fr T8 r0 f9 ks_45 I8
      have B9 : GBd x0 g h9 := by
        obtain ⟨p1, p2, p3⟩ := B8
        refine ⟨by rw [w9]; exact p1, by rw [w9]; exact p2, ?_⟩
        rw [w9, r_I, if_neg (ne_r rg rM (by decide))]; exact p3
      have eM9 : hR h9 g 0 = some M := by rw [w9]; exact eM
      refine s_ref B9.1 ?_
      refine s_ref eM9 ?_
      refine s_cl (s_some ?_)
      have sd9 := thI T9 rb (k := 13) (i := 1) (lo := 0) (hi := 1) rfl
      exact gs_110 hF P T9 r0 rb i2 i3 i5 I9 B9 eM9 (val_r i4 (one_sub sd9)) (fun o ρ1 c1 y X To Io ey => ih (gp_x X P) To (ex_r X r0 (by decide)) (ex_r X rb (by decide)) ((X.1 b (by rw [rb]; decide)).2.trans wb) i2 i3 i4 Io (by omega) (by omega))
    refine s_br (fun _ => go (rg_b rfl)) (fun n5 => ?_)
    unfold sX15_valueOf
    refine s_cl (s_some ?_)
    have i6 : Rg 1 12 x5 := rg_nlo n5 i5 (rg_b rfl : Rg 0 0 (0 : Int32))
    have i7 : Rg 0 11 (x5 - (1 : Int32)) := rg_sub i6 (rg_b rfl : Rg 1 1 (1 : Int32)) (by decide)
    exact go (rg_m (val_r i7 sd8) (by decide))
theorem zX15_guesses (hF : 700000 ≤ F) (P : GPm c) (T : TH ρ c h) (r0 : ρ x0 = 16) (rb : ρ b = 13) (wb : cw c b = 3400) (i2 : Rg 0 63 x2) (i3 : Rg 0 63 x3) (i4 : Rg 0 11 x4) (I : GI x0 h) : Sat (sX15_guesses F h x0 b x2 x3 x4) (MkI ρ c 0 1 (GI x0)) := by
  unfold sX15_guesses
  have z0 : (0 : Int32).toInt = 0 := rfl
  exact gs_3 hF F P T r0 rb wb i2 i3 i4 I (by decide) (by rw [z0]; omega)
theorem ga_118 {k21 : Hp → Nat → Nat → Int32 → Int32 → Int32 → Int32 → Option (Int32 × Hp)} (hF : 700000 ≤ F) (i2 : Rg 0 63 x2) (i5 : Rg 0 11 x5) : ∀ (f : Nat) {ρ : Nat → Nat} {c : Cm} {h : Hp} {x7 : Int32}, GPm c → TH ρ c h → ρ x0 = 16 → ρ b = 13 → cw c b = 3400 → GI x0 h → 0 ≤ x7.toInt → (65 - x7.toInt).toNat < f →
    (∀ o ρ1 c1 y, Ext ρ c ρ1 c1 → TH ρ1 c1 o → GI x0 o → y.toInt = x5.toInt + 1 → Sat (k21 o x0 b x2 x3 x4 y) (MkI ρ1 c1 0 1 (GI x0))) → Sat (sX15_guessesAll_118 F k21 f h x0 b x2 x3 x4 x5 x6 x7) (MkI ρ c 0 1 (GI x0)) := by
  intro f
  induction f with
  | zero => intros; omega
  | succ f ih =>
    intro ρ c h x7 P T r0 rb wb I a7 hf K
    rw [sX15_guessesAll_118]
    unfold sX15_guessesAll_163 sX15_guessesAll_152 sX15_guessesAll_157
    have ex : Sat (nm (x5 + (1 : Int32)) fun v_1 => k21 h x0 b x2 x3 x4 v_1) (MkI ρ c 0 1 (GI x0)) := by
      refine s_q (fun y ey => ?_)
      have ey2 : y.toInt = x5.toInt + 1 := by rw [ey]; exact (nc_s i5 (by decide)).2
      clear ey
      exact K h ρ c y ex_0 T I ey2
    refine s_br (fun _ => ex) (fun n1 => s_br (fun _ => ex) (fun _ => ?_))
    have l7 := nle_i n1
    have s64 := thI T r0 (k := 16) (i := 13) (lo := 9) (hi := 64) rfl
    have i7 : Rg 0 63 x7 := ⟨a7, by have := s64.2; omega⟩
    have b7 := i7.2
    obtain ⟨r, e, q⟩ := thR T rb (i := 0) (k2 := 62) rfl (by decide)
    refine s_ref e ?_
    refine s_gd (by rw [thN T q (k := 62) (n := 64) rfl (by decide)]; exact rg_inB i7 (by decide)) ?_
    have go : ∀ {o : Hp} {ρ1 : Nat → Nat} {c1 : Cm}, Ext ρ c ρ1 c1 → TH ρ1 c1 o → GI x0 o → Sat (nm (x7 + (1 : Int32)) fun v_1 => sX15_guessesAll_118 F k21 f o x0 b x2 x3 x4 x5 x6 v_1) (MkI ρ c 0 1 (GI x0)) := fun {o ρ1 c1} X To Io => by
      refine s_q (fun y ey => ?_)
      have ey2 : y.toInt = x7.toInt + 1 := by rw [ey]; exact (nc_s i7 (by decide)).2
      clear ey
      exact mI_ext X (ih (gp_x X P) To (ex_r X r0 (by decide)) (ex_r X rb (by decide)) ((X.1 b (by rw [rb]; decide)).2.trans wb) Io (by omega) (by omega) (fun o' ρ2 c2 y' X' => K o' ρ2 c2 y' (ex_t X X')))
    refine s_br (fun _ => ?_) (fun _ => go ex_0 T I)
    refine s_cl (s_imp (zX15_guesses hF P T r0 rb wb i2 i7 i5 I) (fun o5 ⟨ρ5, c5, X5, T5, j5, I5⟩ => ?_))
    exact s_br (fun _ => s_some ⟨ρ5, c5, X5, T5, rg_b rfl, I5⟩) (fun _ => go X5 T5 I5)
theorem ga_50 {k21 : Hp → Nat → Nat → Int32 → Int32 → Int32 → Int32 → Option (Int32 × Hp)} (hF : 700000 ≤ F) (P : GPm c) (T : TH ρ c h) (r0 : ρ x0 = 16) (rb : ρ b = 13) (wb : cw c b = 3400) (i2 : Rg 0 63 x2) (i3 : Rg 0 1 x3) (i5 : Rg 0 11 x5) (I : GI x0 h)
    (K : ∀ o ρ1 c1 y, Ext ρ c ρ1 c1 → TH ρ1 c1 o → GI x0 o → y.toInt = x5.toInt + 1 → Sat (k21 o x0 b x2 x3 x4 y) (MkI ρ1 c1 0 1 (GI x0))) : ∀ (f : Nat) {x6 x7 : Int32}, 0 ≤ x7.toInt → (7 - x7.toInt).toNat < f → Sat (sX15_guessesAll_50 F k21 f h x0 b x2 x3 x4 x5 x6 x7) (MkI ρ c 0 1 (GI x0)) := by
  intro f
  induction f with
  | zero => intros; omega
  | succ f ih =>
    intro x6 x7 a7 hf
    rw [sX15_guessesAll_50]
    unfold sX15_guessesAll_94 sX15_guessesAll_105 sX15_guessesAll_106
    obtain ⟨r1, e1, q1⟩ := thR T r0 (i := 4) (k2 := 15) rfl (by decide)
    refine s_ref e1 ?_
    obtain ⟨r2, e2, q2⟩ := thR T q1 (i := 14) (k2 := 81) rfl (by decide)
    refine s_ref e2 ?_
    refine s_gd (by rw [thN T q2 (k := 81) (n := 12) rfl (by decide)]; exact rg_inB i5 (by decide)) ?_
    have m6 := thI T q2 (k := 81) (i := x5.toNatClampNeg) (lo := 0) (hi := 6) rfl
    have z0 : (0 : Int32).toInt = 0 := rfl
    refine s_br (fun _ => ga_118 hF i2 i5 F P T r0 rb wb I (by decide) (by rw [z0]; omega) K) (fun n1 => ?_)
    have l7 := nle_i n1
    have i7 : Rg 0 5 x7 := ⟨a7, by have := m6.2; omega⟩
    have b7 := i7.2
    refine s_ref e1 ?_
    obtain ⟨r6, e6, q6⟩ := thR T q1 (i := 13) (k2 := 80) rfl (by decide)
    refine s_ref e6 ?_
    have im : Rg 0 66 ((6 : Int32) * x5) := by
      have e4 : (6 : Int32).toInt = 6 := rfl
      have := i5.1
      have := i5.2
      exact ⟨by rw [tm (by rw [e4]; omega), e4]; omega, by rw [tm (by rw [e4]; omega), e4]; omega⟩
    refine s_gd (by rw [thN T q6 (k := 80) (n := 72) rfl (by decide)]; exact rg_inB (rg_add im i7 (by decide) : Rg 0 71 _) (by decide)) ?_
    have go : ∀ {t0 t1 : Int32}, Sat (nm (t1 ||| t0) fun v_1 => nm (x7 + (1 : Int32)) fun v_2 => sX15_guessesAll_50 F k21 f h x0 b x2 x3 x4 x5 v_1 v_2) (MkI ρ c 0 1 (GI x0)) := fun {t0 t1} => by
      refine s_q (fun u _ => ?_)
      refine s_q (fun y ey => ?_)
      have ey2 : y.toInt = x7.toInt + 1 := by rw [ey]; exact (nc_s i7 (by decide)).2
      clear ey
      exact ih (by omega) (by omega)
    refine s_br (fun _ => ?_) (fun _ => go)
    refine s_cI0 (zX15_rankFor hF T r0 i2 i3) (fun o9 e9 _ => ?_)
    rw [show o9.2 = h from e9]
    exact s_br (fun _ => go) (fun _ => go)
theorem ga_21 (hF : 700000 ≤ F) (i2 : Rg 0 63 x2) (i3 : Rg 0 1 x3) : ∀ (f : Nat) {ρ : Nat → Nat} {c : Cm} {h : Hp} {x5 : Int32}, GPm c → TH ρ c h → ρ x0 = 16 → ρ b = 13 → cw c b = 3400 → GI x0 h → 0 ≤ x5.toInt → (13 - x5.toInt).toNat < f → Sat (sX15_guessesAll_21 F f h x0 b x2 x3 x4 x5) (MkI ρ c 0 1 (GI x0)) := by
  intro f
  induction f with
  | zero => intros; omega
  | succ f ih =>
    intro ρ c h x5 P T r0 rb wb I a5 hf
    rw [sX15_guessesAll_21]
    unfold sX15_guessesAll_45
    obtain ⟨r1, e1, q1⟩ := thR T r0 (i := 4) (k2 := 15) rfl (by decide)
    refine s_ref e1 ?_
    have c12 := thI T q1 (k := 15) (i := 2) (lo := 0) (hi := 12) rfl
    refine s_br (fun _ => s_some ⟨ρ, c, ex_0, T, rg_b rfl, I⟩) (fun n1 => ?_)
    have l5 := nle_i n1
    have i5 : Rg 0 11 x5 := ⟨a5, by have := c12.2; omega⟩
    have b5 := i5.2
    have z0 : (0 : Int32).toInt = 0 := rfl
    have go : ∀ {t : Int32}, Sat (sX15_guessesAll_50 F (sX15_guessesAll_21 F f) F h x0 b x2 x3 x4 x5 t (0 : Int32)) (MkI ρ c 0 1 (GI x0)) := fun {t} => ga_50 hF P T r0 rb wb i2 i3 i5 I (fun o ρ1 c1 y X To Io ey => ih (gp_x X P) To (ex_r X r0 (by decide)) (ex_r X rb (by decide)) ((X.1 b (by rw [rb]; decide)).2.trans wb) Io (by omega) (by omega)) F (by decide) (by rw [z0]; omega)
    exact s_br (fun _ => go) (fun _ => go)
theorem zX15_guessesAll (hF : 700000 ≤ F) (P : GPm c) (T : TH ρ c h) (r0 : ρ x0 = 16) (rb : ρ b = 13) (wb : cw c b = 3400) (i2 : Rg 0 63 x2) (I : GI x0 h) : Sat (sX15_guessesAll F h x0 b x2) (MkI ρ c 0 1 (GI x0)) := by
  unfold sX15_guessesAll sX15_guessesAll_16 sX15_manOf
  refine s_q (fun v ev => ?_)
  have iv : Rg 0 1 v := by rw [ev]; exact one_sub (thI T rb (k := 13) (i := 1) (lo := 0) (hi := 1) rfl)
  clear ev
  obtain ⟨r, e, q⟩ := thR T rb (i := 0) (k2 := 62) rfl (by decide)
  refine s_ref e ?_
  refine s_gd (by rw [thN T q (k := 62) (n := 64) rfl (by decide)]; exact rg_inB i2 (by decide)) ?_
  refine s_cl (s_some ?_)
  have z0 : (0 : Int32).toInt = 0 := rfl
  exact ga_21 hF i2 iv F P T r0 rb wb I (by decide) (by rw [z0]; omega)
end
