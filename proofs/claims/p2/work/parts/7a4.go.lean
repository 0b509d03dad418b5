/-! places over frames; now and go of the reference -/
section
variable {zq : Nat} {ρ : Nat → Nat} {c : Cm} {h o : Hp} {E : Nat → Nat → Bool} {wb wl : Nat → Bool} {x0 d b l w i F : Nat} {Bq : Nat × Nat} {x1 x2 : Int32}
theorem bdy_fr {S : Nat → Nat → Nat → Bool} (T : TH ρ c h) (rx : ρ x0 = 16) (f : Fr ρ (cat c S h) h o) (s1 : ∀ w, S 16 w 14 = false) (s2 : ∀ w, S 16 w 15 = false) (s3 : ∀ w i, S 84 w i = false) (s4 : ∀ w i, S 85 w i = false) (b0 : ∀ i, i < 7 → S 13 3400 i = false) (m : ∀ i, S 62 3400 i = false) (p : ∀ i, S 63 3400 i = false) (q : ∀ i, S 64 3400 i = false) (P : BdY zq Bq x0 h) (T' : TH ρ c o := by assumption) : BdY zq Bq x0 o := by
  refine ⟨fun r s e1 e2 i hi hs => ?_, fun r e1 i j a b ne ea eb k hk M M' m1 m2 => ?_, ?_⟩
  · rw [(fr_RI f rx (by decide) s1).2.2] at e1
    rw [(fr_RI f rx (by decide) s2).2.2] at e2
    have q1 := rr T (thR T rx (i := 14) (k2 := 84) rfl (by decide)) e1
    have q2 := rr T (thR T rx (i := 15) (k2 := 85) rfl (by decide)) e2
    rw [(fr_RI f q2 (by decide) (fun w => s4 w _)).1] at hs
    obtain ⟨b, eb, pb⟩ := P.1 r s e1 e2 i hi hs
    have wb : cw c b = 3400 := th_id T q1 eb rfl (by decide)
    exact ⟨b, by rw [(fr_RI f q1 (by decide) (fun w => s3 w _)).2.2]; exact eb, pz_fr T (thRn T q1 (k2 := 13) rfl (by decide) eb) f (fun i hi => by rw [wb]; exact b0 i (by omega)) (by rw [wb]; exact m) (by rw [wb]; exact p) (by rw [wb]; exact q) pb⟩
  · rw [(fr_RI f rx (by decide) s1).2.2] at e1
    have q1 := rr T (thR T rx (i := 14) (k2 := 84) rfl (by decide)) e1
    rw [(fr_RI f q1 (by decide) (fun w => s3 w _)).2.2] at ea eb
    have ra := thRn T q1 (k2 := 13) rfl (by decide) ea
    have wa : cw c a = 3400 := th_id T q1 ea rfl (by decide)
    have rb := thRn T q1 (k2 := 13) rfl (by decide) eb
    have wb : cw c b = 3400 := th_id T q1 eb rfl (by decide)
    have hS : S 13 3400 k = false := b0 k (by omega)
    rw [(f.1 a k (by rw [ra]; decide) (by rw [ra]; show S 13 (cw c a) k = false; rw [wa]; exact hS)).2.2] at m1
    rw [(f.1 b k (by rw [rb]; decide) (by rw [rb]; show S 13 (cw c b) k = false; rw [wb]; exact hS)).2.2] at m2
    exact P.2.1 r e1 i j a b ne ea eb k hk M M' m1 m2
  · exact pay_k0 T rx (k2 := 84) rfl (by decide) (T'.1.1.trans T.1.1.symm) (fr_RI f rx (by decide) s1).2.2 (fun r i qr => (fr_RI f qr (by decide) (fun w => s3 w i)).2.2) P.2.2
/-- over an extension (something made): all but the price -/
theorem bdy_x {S : Nat → Nat → Nat → Bool} {Bk : Nat × Nat} (T : TH ρ c h) (rx : ρ x0 = 16) (f : Fr ρ (cat c S h) h o) (s1 : ∀ w, S 16 w 14 = false) (s2 : ∀ w, S 16 w 15 = false) (s3 : ∀ w i, S 84 w i = false) (s4 : ∀ w i, S 85 w i = false) (b0 : ∀ i, i < 7 → S 13 3400 i = false) (m : ∀ i, S 62 3400 i = false) (p : ∀ i, S 63 3400 i = false) (q : ∀ i, S 64 3400 i = false) (P : BdY zq Bq x0 h) (Y : Pay 14 60 5 162 Bk x0 o) : BdY zq Bk x0 o := by
  refine ⟨fun r s e1 e2 i hi hs => ?_, fun r e1 i j a b ne ea eb k hk M M' m1 m2 => ?_, Y⟩
  · rw [(fr_RI f rx (by decide) s1).2.2] at e1
    rw [(fr_RI f rx (by decide) s2).2.2] at e2
    have q1 := rr T (thR T rx (i := 14) (k2 := 84) rfl (by decide)) e1
    have q2 := rr T (thR T rx (i := 15) (k2 := 85) rfl (by decide)) e2
    rw [(fr_RI f q2 (by decide) (fun w => s4 w _)).1] at hs
    obtain ⟨b, eb, pb⟩ := P.1 r s e1 e2 i hi hs
    have wb : cw c b = 3400 := th_id T q1 eb rfl (by decide)
    exact ⟨b, by rw [(fr_RI f q1 (by decide) (fun w => s3 w _)).2.2]; exact eb, pz_fr T (thRn T q1 (k2 := 13) rfl (by decide) eb) f (fun i hi => by rw [wb]; exact b0 i (by omega)) (by rw [wb]; exact m) (by rw [wb]; exact p) (by rw [wb]; exact q) pb⟩
  · rw [(fr_RI f rx (by decide) s1).2.2] at e1
    have q1 := rr T (thR T rx (i := 14) (k2 := 84) rfl (by decide)) e1
    rw [(fr_RI f q1 (by decide) (fun w => s3 w _)).2.2] at ea eb
    have ra := thRn T q1 (k2 := 13) rfl (by decide) ea
    have wa : cw c a = 3400 := th_id T q1 ea rfl (by decide)
    have rb := thRn T q1 (k2 := 13) rfl (by decide) eb
    have wb : cw c b = 3400 := th_id T q1 eb rfl (by decide)
    have hS : S 13 3400 k = false := b0 k (by omega)
    rw [(f.1 a k (by rw [ra]; decide) (by rw [ra]; show S 13 (cw c a) k = false; rw [wa]; exact hS)).2.2] at m1
    rw [(f.1 b k (by rw [rb]; decide) (by rw [rb]; show S 13 (cw c b) k = false; rw [wb]; exact hS)).2.2] at m2
    exact P.2.1 r e1 i j a b ne ea eb k hk M M' m1 m2
theorem bdy_sy (n : nice E) (n84 : ∀ i, E 84 i = false) (n85 : ∀ i, E 85 i = false) (n15 : E 16 15 = false) (hb : wb 3400 = false) (T : TH ρ c h) (r0 : ρ x0 = 16) (f : Fr ρ (cat c (SY E wb wl) h) h o) (P : BdY zq Bq x0 h) (T' : TH ρ c o := by assumption) : BdY zq Bq x0 o := by
  have z : ∀ k i, (k = 13 ∨ k = 14 ∨ (62 ≤ k ∧ k ≤ 72) ∨ k = 15) → mS saL k i = false → mS mpL k i = false → SY E wb wl k 3400 i = false := fun k i a0 a1 a2 => sy_f (n.1 k i a0) a1 (Or.inr hb) (Or.inl a2)
  exact bdy_fr T r0 f (fun _ => sy_f n.2.2.2.2.2 rfl (Or.inl rfl) (Or.inl rfl)) (fun _ => sy_f n15 rfl (Or.inl rfl) (Or.inl rfl)) (fun _ i => sy_f (n84 i) rfl (Or.inl rfl) (Or.inl rfl)) (fun _ i => sy_f (n85 i) rfl (Or.inl rfl) (Or.inl rfl)) (fun i _ => z _ _ (by omega) rfl rfl) (fun i => z _ _ (by omega) rfl rfl) (fun i => z _ _ (by omega) rfl rfl) (fun i => z _ _ (by omega) rfl rfl) P
/-- the prices of two rows together -/
def PayJ (Bq : Nat × Nat) (x0 : Nat) (h : Hp) : Prop := ∀ r q, hR h x0 14 = some r → hR h x0 37 = some q → h.1.1 + 5 * nuC h r 60 + 5 * nuC h q 2408 ≤ Bq.1 ∧ h.1.2 + 162 * nuC h r 60 + 162 * nuC h q 2408 ≤ Bq.2
/-- places and games -/
def BG (zq : Nat) (Bq : Nat × Nat) (x0 : Nat) (h : Hp) : Prop := (∃ B, BdY zq B x0 h) ∧ (∃ B, GaY zq B x0 h) ∧ PayJ Bq x0 h
theorem now_w (hF : 700000 ≤ F) (hp : ∀ k w i, SY (fun k i => kpE k i || (k == 92 && decide (i ≤ 2407))) (is 3400) no k w i = true → cPm c k w i = true) (T : TH ρ c h) (r0 : ρ x0 = 16) (K : BG zq Bq x0 h) : Sat (sX15_now F h x0 x1) (MkI ρ c (-104) 59 (BG zq Bq x0)) := by
  have K' := K
  obtain ⟨⟨B0, bd⟩, ⟨B1, G0⟩, J⟩ := K
  unfold sX15_now
  refine s_dP0 (zX15_isGame hF T (rg_top _)) (fun oo eb e ii pp => ?_)
  rw [e]
  unfold sX15_now_4 sX15_now_40
  refine s_br (fun _ => s_some ⟨ρ, c, ex_0, T, rg_b rfl, K'⟩) (fun nz => ?_)
  have i1 := pp nz
  refine s_played T r0 i1 (fun r er qr => ?_)
  refine s_br (fun _ => s_some ⟨ρ, c, ex_0, T, rg_b rfl, K'⟩) (fun n1 => ?_)
  refine s_played T r0 i1 (fun r' er' qr' => ?_)
  have : r' = r := r_eq er er'
  subst this
  have i2 : Rg 0 300 (hI h r' x1.toNatClampNeg) := rg_nlo n1 (thI T qr' (k := 94) (lo := -1) (hi := 300) rfl) (rg_b rfl : Rg (-1) (-1) (-1 : Int32))
  obtain ⟨ra, ea, qa⟩ := thR T r0 (i := 14) (k2 := 84) rfl (by decide)
  obtain ⟨rg, eg, qg⟩ := thR T r0 (i := 37) (k2 := 92) rfl (by decide)
  have J0 := J ra rg ea eg
  have G : GaY zq (Bq.1 - 5 * nuC h ra 60, Bq.2 - 162 * nuC h ra 60) x0 h := ⟨G0.1, fun q eq => by
    have : q = rg := r_eq eg eq
    subst this
    show _ ≤ Bq.1 - 5 * nuC h ra 60 ∧ _ ≤ Bq.2 - 162 * nuC h ra 60
    omega⟩
  refine s_gamew hp (fun i hi => by show (kpE 92 i || (92 == 92 && decide (i ≤ 2407))) = true; rw [decide_eq_true hi]; exact Bool.or_true _) T r0 i1 i2 G (fun o3 ρ1 c1 X1 T1 f1 G1 B1 _ => ?_)
  have r1 := ex_r X1 r0 (by decide)
  have hp1 := ex_hp X1 hp
  have ea1 : hR o3.2 x0 14 = some ra := by rw [(fr_RI f1 r0 (by decide) (fun _ => sy_f rfl rfl (Or.inl rfl) (Or.inl rfl))).2.2]; exact ea
  have eg1 : hR o3.2 x0 37 = some rg := by rw [(fr_RI f1 r0 (by decide) (fun _ => sy_f rfl rfl (Or.inl rfl) (Or.inl rfl))).2.2]; exact eg
  have na : nuC o3.2 ra 60 = nuC h ra 60 := nuC_eq 60 (fun i _ => (fr_RI f1 qa (by decide) (fun _ => sy_f rfl rfl (Or.inl rfl) (Or.inl rfl))).2.2)
  have J1 := G1.2 rg eg1
  have J1' : o3.2.1.1 + 5 * nuC o3.2 rg 2408 ≤ Bq.1 - 5 * nuC h ra 60 ∧ o3.2.1.2 + 162 * nuC o3.2 rg 2408 ≤ Bq.2 - 162 * nuC h ra 60 := J1
  have Y1 : Pay 14 60 5 162 (Bq.1 - 5 * nuC o3.2 rg 2408, Bq.2 - 162 * nuC o3.2 rg 2408) x0 o3.2 := fun q eq => by
    have : q = ra := r_eq ea1 eq
    subst this
    rw [na]
    show _ ≤ Bq.1 - 5 * nuC o3.2 rg 2408 ∧ _ ≤ Bq.2 - 162 * nuC o3.2 rg 2408
    omega
  have z : ∀ k i, (k = 13 ∨ k = 14 ∨ (62 ≤ k ∧ k ≤ 72) ∨ k = 15) → mS saL k i = false → mS mpL k i = false → SY (g92 (gi x1 (hI h r' x1.toNatClampNeg))) no no k 3400 i = false := fun k i a0 a1 a2 => sy_f (nice_92.1 k i a0) a1 (Or.inr rfl) (Or.inl a2)
  have bd1 := bdy_x T r0 f1 (fun _ => sy_f rfl rfl (Or.inl rfl) (Or.inl rfl)) (fun _ => sy_f rfl rfl (Or.inl rfl) (Or.inl rfl)) (fun _ i => sy_f rfl rfl (Or.inl rfl) (Or.inl rfl)) (fun _ i => sy_f rfl rfl (Or.inl rfl) (Or.inl rfl)) (fun i _ => z _ _ (by omega) rfl rfl) (fun i => z _ _ (by omega) rfl rfl) (fun i => z _ _ (by omega) rfl rfl) (fun i => z _ _ (by omega) rfl rfl) bd Y1
  obtain ⟨kg, wg⟩ := gb_r T1 r1 B1
  unfold sX15_now_37
  have hs : ∀ k w i, SY kpE (is 3400) no k w i = true → cPm c1 k w i = true := fun k w i m => hp1 k w i (sy_sub (fun k i z => by rw [z]; rfl) (fun _ z => z) (fun _ z => z) m)
  refine s_mI (S := SY kpE (is 3400) no) T1 hs (keep_y hF (fun w k i m => sx_c _ k w i (by unfold SY kpE; rw [m, Bool.true_or, Bool.true_or])) (pmO_s (syB (sx_c _) is_s) rfl) wg (th_in _ T1) r1 kg bd1 (G1.1 _ _ B1)) (fun o4 ρ4 c4 X4 T4 f4 j4 bd4 => ?_)
  have eg4 : hR o4.2 x0 37 = some rg := by rw [(fr_RI f4 r1 (by decide) (fun _ => sy_f rfl rfl (Or.inl rfl) (Or.inl rfl))).2.2]; exact eg1
  have qg1 := ex_r X1 qg (by decide)
  have ng : nuC o4.2 rg 2408 = nuC o3.2 rg 2408 := nuC_eq 2408 (fun i _ => (fr_RI f4 qg1 (by decide) (fun _ => sy_f rfl rfl (Or.inl rfl) (Or.inl rfl))).2.2)
  have GG : ∀ i b, Gb x0 i b o4.2 → PZ zq b o4.2 := fun i b B => by
    have B0 := (gb_sy nice_kp rfl T1 r1 f4).mpr B
    obtain ⟨k1, k2⟩ := gb_r T1 r1 B0
    exact pz_sy nice_kp T1 k1 k2 (is_f (by omega)) f4 (G1.1 i b B0)
  have J4 : PayJ Bq x0 o4.2 := fun q p e1 e2 => by
    have y2 : p = rg := r_eq eg4 e2
    subst y2
    have J2 : o4.2.1.1 + 5 * nuC o4.2 q 60 ≤ Bq.1 - 5 * nuC o3.2 p 2408 ∧ o4.2.1.2 + 162 * nuC o4.2 q 60 ≤ Bq.2 - 162 * nuC o3.2 p 2408 := bd4.2.2 q e1
    rw [ng]
    omega
  exact s_some ⟨ρ4, c4, ex_t X1 X4, T4, j4, ⟨_, bd4⟩, ⟨(o4.2.1.1 + 5 * nuC o4.2 rg 2408, o4.2.1.2 + 162 * nuC o4.2 rg 2408), GG, fun q eq => by
    have : q = rg := r_eq eg4 eq
    subst this
    exact ⟨Nat.le_refl _, Nat.le_refl _⟩⟩, J4⟩
/-- moves of a board: they fit it -/
theorem s_legalZ {β : Type} {Q : β → Prop} {k : Hp → Option β} (hF : 700000 ≤ F) (hp : ∀ k w i, SY E wb wl k w i = true → cPm c k w i = true) (h1 : wb 2528 = true) (h3 : wl 2530 = true) (T : TH ρ c h) (r0 : ρ x0 = 16) (sq : SqOk x0 h) (k1 : ρ b = 13) (k3 : cw c b = w) (nb : w ≠ 2528) (P : PE b h) (el : hR h x0 30 = some l) (H : ∀ o, TH ρ c o → Fr ρ (cat c (SY noE (is 2528) (is 2530)) h) h o → SqOk x0 o → hR o x0 30 = some l → MvB x0 b l o → MvZ b l o → Sat (k o) Q) : Sat (cl (sX15_legal F h x0 b l) k) Q := by
  obtain ⟨l', el', ql'⟩ := thR T r0 (i := 30) (k2 := 14) rfl (by decide)
  have ql : ρ l = 14 := by rw [r_eq el' el]; exact ql'
  have wl' : cw c l = 2530 := th_id T r0 (w := 2530) el rfl (by decide)
  have hs : ∀ k w i, SY noE (is 2528) (is 2530) k w i = true → cPm c k w i = true := fun k w i m => hp k w i (sy_sub (fun _ _ z => noE_f z) (fun w z => by rw [is_e z]; exact h1) (fun w z => by rw [is_e z]; exact h3) m)
  obtain ⟨M, eM, rM⟩ := thR T k1 (i := 0) (k2 := 62) rfl (by decide)
  obtain ⟨lf, e1, q1⟩ := thR T ql (i := 1) (k2 := 66) rfl (by decide)
  obtain ⟨lt, e2, q2⟩ := thR T ql (i := 2) (k2 := 67) rfl (by decide)
  obtain ⟨lx, e5, q5⟩ := thR T ql (i := 5) (k2 := 70) rfl (by decide)
  obtain ⟨lk, e6, q6⟩ := thR T ql (i := 6) (k2 := 71) rfl (by decide)
  obtain ⟨lo, e7, q7⟩ := thR T ql (i := 7) (k2 := 72) rfl (by decide)
  have Z := legal_z (c := c) (x0 := x0) (lf := lf) (lt := lt) (lx := lx) (lk := lk) (lo := lo) (wl := 2530) hF (pmA_s (syA hp) rfl) (pmO_s (syB hp h1) rfl) (pmO_s (syM hp h3) rfl) k3 nb wl' T r0 k1 ql sq P ⟨e1, e2, e5, e6, e7⟩ eM
  refine s_cVfq T hs (s_weq2 (zX15_legal hF (pmA_s (syA (sx_c _)) rfl) (pmO_s (syB (sx_c _) is_s) rfl) (pmO_s (w := 2530) (syM (sx_c _) is_s) rfl) k3 wl' nb (th_in _ T) r0 k1 ql sq P)) (fun o T1 f mv => ?_)
  obtain ⟨mv, eo⟩ := mv
  have L : L2 l lf lt lx lk lo (hI h M) (hI h b 1) (hI h b 3).toInt o := by
    obtain ⟨o', eo', _, z⟩ := Z
    have : o' = o := by rw [eo'] at eo; exact Option.some.inj eo
    rw [← this]; exact z
  have zb : ∀ k i, (k = 13 ∨ (62 ≤ k ∧ k ≤ 65)) → SY noE (is 2528) (is 2530) k (cw c b) i = false := fun k i hk => by
    rcases hk with z | z
    · rw [z]; exact sy_f rfl rfl (Or.inr (by rw [k3]; exact is_f nb)) (Or.inl rfl)
    · have : k = 62 ∨ k = 63 ∨ k = 64 ∨ k = 65 := by omega
      rcases this with z | z | z | z <;> rw [z] <;> exact sy_f rfl rfl (Or.inr (by rw [k3]; exact is_f nb)) (Or.inl rfl)
  have fb : ∀ i, hI o b i = hI h b i ∧ hR o b i = hR h b i := fun i => by
    have := f.1 b i (by rw [k1]; decide) (by rw [k1]; exact zb 13 i (Or.inl rfl))
    exact ⟨this.1, this.2.2⟩
  have fM : ∀ i, hI o M i = hI h M i := fun i => (f.1 M i (by rw [rM]; decide) (by rw [rM]; show SY noE (is 2528) (is 2530) 62 (cw c M) i = false; rw [th_ih T k1 (by decide) eM rfl]; exact zb 62 i (Or.inr (by decide)))).1
  have fl : ∀ i, 1 ≤ i → i < 8 → hR o l i = hR h l i := fun i a1 a2 => by
    have : SY noE (is 2528) (is 2530) 14 (cw c l) i = false := by
      rcases (by omega : i = 1 ∨ i = 2 ∨ i = 3 ∨ i = 4 ∨ i = 5 ∨ i = 6 ∨ i = 7) with z | z | z | z | z | z | z <;> rw [z] <;> exact sy_f rfl rfl (Or.inl rfl) (Or.inl rfl)
    exact (f.1 l i (by rw [ql]; decide) (by rw [ql]; exact this)).2.2
  have mz : MvZ b l o := by
    intro M' lf' lt' lx' lk' lo' p0 p1 p2 p5 p6 p7
    rw [(fb 0).2] at p0
    rw [fl _ (by decide) (by decide)] at p1 p2 p5 p6 p7
    have y0 := r_eq eM p0
    have y1 := r_eq e1 p1
    have y2 := r_eq e2 p2
    have y5 := r_eq e5 p5
    have y6 := r_eq e6 p6
    have y7 := r_eq e7 p7
    subst y0; subst y1; subst y2; subst y5; subst y6; subst y7
    rw [(fb 1).1, (fb 3).1, show hI o M' = hI h M' from funext fM]
    exact L
  exact H o T1 f (sq_sy nice_0 T r0 f sq) (by rw [(fr_RI f r0 (by decide) (fun _ => sy_f rfl rfl (Or.inl rfl) (Or.inl rfl))).2.2]; exact el) mv mz
def goB : Nat → Bool := fun w => w == 2528 || (w == 2532 || w == 3400)
theorem moves_w (hF : 700000 ≤ F) (hp : ∀ k w i, SY E wb wl k w i = true → cPm c k w i = true) (h1 : wb 2528 = true) (h3 : wl 2530 = true) (T : TH ρ c h) (r0 : ρ x0 = 16) (bd : BdY zq Bq x0 h) (sq : SqOk x0 h) : Sat (sX15_moves F h x0 x1) (fun o => TH ρ c o.2 ∧ BdY zq Bq x0 o.2 ∧ SqOk x0 o.2 ∧ (o.1 = (-102 : Int32) ∨ (Rg 0 59 x1 ∧ ∃ b l, BK x0 x1.toNatClampNeg b o.2 ∧ PZ zq b o.2 ∧ hR o.2 x0 30 = some l ∧ MvB x0 b l o.2 ∧ MvZ b l o.2))) := by
  unfold sX15_moves
  refine s_dP0 (zX15_has hF T r0 (rg_top _)) (fun o1 eb1 e1 ii1 pp1 => ?_)
  rw [e1]
  refine s_br (fun _ => s_some ⟨T, bd, sq, Or.inl rfl⟩) (fun nz => ?_)
  have i1 := pp1 nz
  obtain ⟨b, BKb, PZb⟩ := bw_of T r0 bd eb1 nz
  obtain ⟨kb, wb'⟩ := bk_r T r0 BKb
  refine s_bk T r0 i1 BKb ?_
  obtain ⟨ls, els, qls⟩ := thR T r0 (i := 30) (k2 := 14) rfl (by decide)
  refine s_ref els ?_
  refine s_legalZ hF hp h1 h3 T r0 sq kb wb' (by decide) PZb.1 els (fun o4 T4 f4 sq4 el4 mv4 mz4 => ?_)
  refine s_ref el4 ?_
  exact s_some ⟨T4, bdy_sy nice_0 (fun _ => rfl) (fun _ => rfl) rfl rfl T r0 f4 bd, sq4, Or.inr ⟨i1, b, ls, bk_sy nice_0 (fun _ => rfl) T r0 f4 rfl BKb, pz_sy nice_0 T kb wb' rfl f4 PZb, el4, mv4, mz4⟩⟩
theorem go_w (hF : 700000 ≤ F) (hp : ∀ k w i, SY kpE goB (is 2530) k w i = true → cPm c k w i = true) (T : TH ρ c h) (r0 : ρ x0 = 16) (bd : BdY zq Bq x0 h) (sq : SqOk x0 h) : Sat (sX15_go F h x0 x1 x2) (MkI ρ c (-104) 59 (BdY zq Bq x0)) := by
  unfold sX15_go
  obtain ⟨o1, e1, T1, bd1, sq1, P1⟩ := moves_w (x1 := x1) hF hp rfl is_s T r0 bd sq
  refine s_val e1 ?_
  unfold sX15_go_5 sX15_go_25
  have bad : Sat (some ((-102 : Int32), o1.2)) (MkI ρ c (-104) 59 (BdY zq Bq x0)) := s_some ⟨ρ, c, ex_0, T1, rg_b rfl, bd1⟩
  refine s_br (fun _ => bad) (fun nz => ?_)
  obtain ⟨i1, b, l, BKb, PZb, el, mv, mz⟩ := P1.resolve_left nz
  obtain ⟨kb, wb'⟩ := bk_r T1 r0 BKb
  have ql := rr T1 (thR T1 r0 (i := 30) (k2 := 14) rfl (by decide)) el
  have wl1 : cw c l = 2530 := th_id T1 r0 (w := 2530) el rfl (by decide)
  refine s_br (fun _ => bad) (fun n2 => ?_)
  refine s_ref el ?_
  refine s_br (fun n3 => ?_) (fun _ => bad)
  refine s_dI0 (zX15_freePlace hF T1 r0) (fun o5 e5 e5' i5 => ?_)
  rw [e5']
  unfold sX15_go_32
  refine s_br (fun _ => s_some ⟨ρ, c, ex_0, T1, rg_b rfl, bd1⟩) (fun _ => ?_)
  refine s_bk T1 r0 i1 BKb ?_
  refine s_ref el ?_
  obtain ⟨t, et, qt⟩ := thR T1 r0 (i := 32) (k2 := 13) rfl (by decide)
  have wt : cw c t = 2532 := th_id T1 r0 (w := 2532) et rfl (by decide)
  refine s_ref et ?_
  have h3000 := thI T1 ql (k := 14) (i := 0) (lo := 0) (hi := 3000) rfl
  have lt := lt_i n3
  have ix : Rg 0 2999 x2 := ⟨nlt_i n2, by have := h3000.2; omega⟩
  have hs : ∀ k w i, SY noE (is 2532) no k w i = true → cPm c k w i = true := fun k w i m => hp k w i (sy_sub (fun _ _ z => noE_f z) (fun w z => by rw [is_e z]; rfl) (fun _ z => no_f z) m)
  refine s_cVfq T1 hs (s_weq2 (zX15_make hF (pmA_s (syA (sx_c _)) rfl) (pmO_s (w := 2532) (syB (sx_c _) is_s) rfl) wb' wl1 wt (th_in _ T1) r0 kb ql ix qt sq1 mv lt)) (fun o6 T6 f6 P6 => ?_)
  have W6 : PZ zq t o6 := ⟨P6.1, make_z T1 r0 kb ql qt (fun P1 P p1 p2 z => by
    have v1 : cw c P1 = 3400 := th_ih T1 kb (by decide) p1 wb'
    have v2 : cw c P = 2532 := th_ih T1 qt (by decide) p2 wt
    rw [z, v2] at v1
    exact absurd v1 (by decide)) PZb.2 mv mz ⟨ix.1, lt⟩ P6.2⟩
  have bd6 := bdy_sy nice_0 (fun _ => rfl) (fun _ => rfl) rfl rfl T1 r0 f6 bd1
  unfold sX15_go_58 sX15_go_66
  have et6 : hR o6 x0 32 = some t := by rw [(fr_RI f6 r0 (by decide) (fun _ => sy_f rfl rfl (Or.inl rfl) (Or.inl rfl))).2.2]; exact et
  refine s_ref et6 ?_
  obtain ⟨o7, e7, ρ7, c7, X7, T7, j7, bd7⟩ := keep_y (F := F) hF (fun w k i m => hp k w i (by unfold SY kpE; rw [m, Bool.true_or, Bool.true_or])) (pmO_s (syB (w := 3400) hp rfl) rfl) wt T6 r0 qt bd6 W6
  exact s_val e7 (s_some ⟨ρ7, c7, X7, T7, j7, bd7⟩)
end
