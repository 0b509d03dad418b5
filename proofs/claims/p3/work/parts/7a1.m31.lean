section
/-! games of the reference: boards that can be written, paid for ahead -/
section
variable {zq : Nat} {ρ : Nat → Nat} {c : Cm} {h o : Hp} {E : Nat → Nat → Bool} {wb wl : Nat → Bool} {x0 d b l w i : Nat} {Bq : Nat × Nat}
theorem pz_fr {S : Nat → Nat → Nat → Bool} (T : TH ρ c h) (rb : ρ b = 13) (f : Fr ρ (cat c S h) h o) (s0 : ∀ i, i < 6 → S 13 (cw c b) i = false) (s4 : ∀ i, S 62 (cw c b) i = false) (s5 : ∀ i, S 63 (cw c b) i = false) (s6 : ∀ i, S 64 (cw c b) i = false) (P : PZ zq b h) : PZ zq b o := ⟨pe_fr T rb f (s0 0 (by decide)) (s0 3 (by decide)) (s0 4 (by decide)) s4 s5 P.1, wr_fr T rb f s0 s4 s5 s6 P.2⟩
theorem pz_sy (n : nice E) (T : TH ρ c h) (rb : ρ b = 13) (ew : cw c b = w) (hb : wb w = false) (f : Fr ρ (cat c (SY E wb wl) h) h o) (P : PZ zq b h) : PZ zq b o := by
  have z : ∀ k i, (k = 13 ∨ k = 14 ∨ (62 ≤ k ∧ k ≤ 72) ∨ k = 15) → mS saL k i = false → mS mpL k i = false → SY E wb wl k (cw c b) i = false := fun k i a0 a1 a2 => sy_f (n.1 k i a0) a1 (Or.inr (by rw [ew]; exact hb)) (Or.inl a2)
  exact pz_fr T rb f (fun i _ => z _ _ (by omega) rfl rfl) (fun i => z _ _ (by omega) rfl rfl) (fun i => z _ _ (by omega) rfl rfl) (fun i => z _ _ (by omega) rfl rfl) P
theorem pay_k0 {f n p q k : Nat} (T : TH ρ c h) (r0 : ρ x0 = k) {k2 : Nat} (hk : rfK k f = k2) (h2 : k2 ≠ 0) (e1 : o.1 = h.1) (R : hR o x0 f = hR h x0 f) (Q : ∀ r i, ρ r = k2 → hR o r i = hR h r i) (P : Pay f n p q Bq x0 h) : Pay f n p q Bq x0 o := fun r er => by
  rw [R] at er
  have rr' : ρ r = k2 := rr T (thR T r0 (i := f) (k2 := k2) hk h2) er
  rw [e1, nuC_eq n (fun i _ => Q r i rr')]
  exact P r er
/-- games' boards: all can be written, all are paid for -/
def GaY (zq : Nat) (Bq : Nat × Nat) (x0 : Nat) (h : Hp) : Prop := (∀ i b, Gb x0 i b h → PZ zq b h) ∧ Pay 37 2408 5 162 Bq x0 h
theorem gay_p (G : GaY zq Bq x0 h) : GaP x0 h := fun i b B => (G.1 i b B).1
theorem gaw_sy (n : nice E) (n92 : ∀ i, E 92 i = false) (T : TH ρ c h) (r0 : ρ x0 = 16) (f : Fr ρ (cat c (SY E wb wl) h) h o) (hb : ∀ j, wb (5000 + j) = false ∨ ∀ b, Gb x0 j b h → PZ zq b o) (G : GaY zq Bq x0 h) (T' : TH ρ c o := by assumption) : GaY zq Bq x0 o := ⟨fun i b B => by
  have B0 := (gb_sy n (n92 i) T r0 f).mpr B
  rcases hb i with q | q
  · obtain ⟨k1, k2⟩ := gb_r T r0 B0
    exact pz_sy n T k1 k2 q f (G.1 i b B0)
  · exact q b B0, pay_k0 T r0 (k2 := 92) rfl (by decide) (T'.1.1.trans T.1.1.symm) (fr_RI f r0 (by decide) (fun _ => sy_f n.2.2.2.2.1 rfl (Or.inl rfl) (Or.inl rfl))).2.2 (fun r i qr => (fr_RI f qr (by decide) (fun _ => sy_f (n92 i) rfl (Or.inl rfl) (Or.inl rfl))).2.2) G.2⟩
end
section
variable {zq : Nat} {ρ : Nat → Nat} {c : Cm} {h o : Hp} {E : Nat → Nat → Bool} {wb wl : Nat → Bool} {x0 d b l w i F : Nat} {Bq : Nat × Nat} {x1 x2 : Int32}
/-- the board of a game at a move: made where it is wanting -/
theorem gameBw (h9 : ∀ w, cPm c 92 w (gi x1 x2) = true) (T : TH ρ c h) (r0 : ρ x0 = 16) (i1 : Rg 0 7 x1) (i2 : Rg 0 300 x2) (G : GaY zq Bq x0 h) : Sat (sX15_gameBoard h x0 x1 x2) (fun o => ∃ ρ' c', Ext ρ c ρ' c' ∧ TH ρ' c' o.2 ∧ GaY zq Bq x0 o.2 ∧ Gb x0 (gi x1 x2) o.1 o.2 ∧ ∀ j b, Gb x0 j b h → Gb x0 j b o.2) := by
  unfold sX15_gameBoard
  refine s_q (fun v ev => ?_)
  have iv : Rg 0 2407 v := by rw [ev]; exact gi_r i1 i2
  have eg : gi x1 x2 = v.toNatClampNeg := by rw [ev]; rfl
  rw [eg] at h9 ⊢
  obtain ⟨r, er, qr⟩ := thR T r0 (i := 37) (k2 := 92) rfl (by decide)
  refine s_ref er ?_
  refine s_gd (by rw [thN T qr (k := 92) (n := 2408) rfl (by decide)]; exact rg_inB iv (by decide)) ?_
  have t1 : h.1 = c.1 := T.1.1
  cases q : hR h r v.toNatClampNeg with
  | none =>
    show Sat (cl (hR h x0 37) _) _
    refine s_ref er ?_
    refine s_q (fun a ea => ?_)
    refine s_q (fun h8 e8 => ?_)
    subst ea
    subst e8
    unfold sX15_gameBoard_25 sX15_gameBoard_29 sX15_gameBoard_30
    obtain ⟨o1, eo1, ρ1, c1, X1, T1, a1, w1, O1⟩ := newBoard T (5000 + v.toNatClampNeg)
    refine s_val eo1 ?_
    have ob : o1 = boH h := by rw [boH_v] at eo1; exact (Option.some.inj eo1).symm
    have z3 : hI o1 (hS h) 3 = 0 := by rw [ob]; exact boH_I h 0 3 (by decide)
    have r01 := ex_r X1 r0 (by decide)
    have qr1 := ex_r X1 qr (by decide)
    have lt : ∀ a, ρ a ≠ 0 → a < h.1.1 := fun a ha => by rw [t1]; exact T.2.1.2.2.1 a ha
    have lt0 : x0 < h.1.1 := lt x0 (by rw [r0]; decide)
    have ltr : r < h.1.1 := lt r (by rw [qr]; decide)
    have er1 : hR o1 x0 37 = some r := by rw [(O1 x0 lt0).2.2.1]; exact er
    refine s_gd (by rw [thN T1 qr1 (k := 92) (n := 2408) rfl (by decide)]; exact rg_inB iv (by decide)) ?_
    refine s_q (fun h2 e2 => ?_)
    have T2 : TH ρ1 c1 h2 := by
      rw [e2]
      exact th_wRe T1 qr1 (k2 := 13) rfl (by decide) a1 (by decide) (by decide) rfl rfl rfl w1 (ex_p X1 (h9 _))
    have er2 : hR h2 x0 37 = some r := by rw [e2, r_R, if_neg (ne_r r01 qr1 (by decide))]; exact er1
    refine s_ref er2 ?_
    refine s_gd (by rw [thN T2 qr1 (k := 92) (n := 2408) rfl (by decide)]; exact rg_inB iv (by decide)) ?_
    have ee : hR h2 r v.toNatClampNeg = some (hS h) := by rw [e2, r_R, if_pos ⟨rfl, rfl⟩]
    have kp : ∀ j b, Gb x0 j b h → Gb x0 j b h2 := fun j b ⟨r', g1, g2⟩ => by
      have : r' = r := r_eq er g1
      subst this
      have z : j ≠ v.toNatClampNeg := fun z => by rw [z, q] at g2; exact absurd g2 (by simp)
      exact ⟨r', er2, by rw [e2, r_R, if_neg (fun y => z y.2), (O1 r' ltr).2.2.1]; exact g2⟩
    refine s_ref ee (s_some ⟨ρ1, c1, X1, T2, ⟨fun j b B => ?_, fun r' p1 => ?_⟩, ⟨r, er2, ee⟩, kp⟩)
    rotate_left
    · have y1 : r' = r := r_eq er2 p1
      subst y1
      have l60 := clamp_i iv.1
      have i59 := iv.2
      have cc := nuC_set q ee (fun i hi => by rw [e2, r_R, if_neg (fun y => hi y.2), (O1 r' ltr).2.2.1]) 2408 (by omega)
      have pb := G.2 r' er
      have h21 : h2.1 = (h.1.1 + 5, h.1.2 + 162) := by rw [e2]; show o1.1 = _; rw [ob]; exact boH_1 h
      rw [h21]
      show h.1.1 + 5 + 5 * nuC h2 r' 2408 ≤ Bq.1 ∧ h.1.2 + 162 + 162 * nuC h2 r' 2408 ≤ Bq.2
      omega
    obtain ⟨r', g1, g2⟩ := B
    have : r' = r := r_eq er2 g1
    subst this
    by_cases z : j = v.toNatClampNeg
    · rw [z, ee] at g2
      rw [← Option.some.inj g2]
      have hS0 : hS h = h.1.1 := rfl
      have a1' : ¬ hS h = r' := fun w => by rw [w] at a1; rw [a1] at qr1; exact absurd qr1 (by decide)
      have nn : ∀ k i, k < 5 → hI h2 (h.1.1 + k) i = 0 := fun k i hk => by rw [e2]; show hI o1 (h.1.1 + k) i = 0; rw [ob]; exact boH_I h k i hk
      have nRR : ∀ i, hR h2 (hS h) i = hR (boH h) h.1.1 i := fun i => by rw [e2, r_R, if_neg (fun w => a1' w.1), ob, hS0]
      have n3 : hI h2 (hS h) 3 = 0 := by rw [e2]; exact z3
      refine ⟨pe_0 (by rw [n3]; rfl), fun M H m1 m2 => ?_, ?_, by rw [n3]; decide, fun n => by rw [n3] at n; exact absurd n (by decide)⟩
      · rw [nRR, boH_R] at m1 m2
        have y1 : h.1.1 + 1 = M := Option.some.inj m1
        have y2 : h.1.1 + 3 = H := Option.some.inj m2
        subst y1; subst y2
        exact tot_0 (fun i => nn 1 i (by decide)) (fun i => nn 3 i (by decide))
      · have : hJ h2 (hS h) 2 = 0 := by rw [e2]; show hJ o1 (hS h) 2 = 0; rw [ob]; exact boH_J h 0 2 (by decide)
        rw [this, crt_0]
        decide
    · rw [e2, r_R, if_neg (fun y => z y.2), (O1 r' ltr).2.2.1] at g2
      have P := G.1 j b ⟨r', er, g2⟩
      have rb := thRn T qr (k2 := 13) rfl (by decide) g2
      have kI : ∀ {x k : Nat}, ρ x = k → k ≠ 0 → ∀ i, hI h2 x i = hI h x i := fun {x k} hx h0 i => by
        rw [e2]
        show hI o1 x i = _
        exact (O1 x (lt x (by rw [hx]; exact h0))).1 i
      have ltb := lt b (by rw [rb]; decide)
      refine pz_eq (fun i => ?_) ?_ (kI rb (by decide) 1) (kI rb (by decide) 3) (fun M m => kI (rr T (thR T rb (i := 0) (k2 := 62) rfl (by decide)) m) (by decide)) (fun M m => kI (rr T (thR T rb (i := 4) (k2 := 63) rfl (by decide)) m) (by decide)) (fun M m => kI (rr T (thR T rb (i := 5) (k2 := 64) rfl (by decide)) m) (by decide)) P
      · rw [e2, r_R, if_neg (ne_r (ex_r X1 rb (by decide)) qr1 (by decide)), (O1 b ltb).2.2.1]
      · rw [e2]
        show hJ o1 b 2 = _
        exact (O1 b ltb).2.1 2
  | some r4 =>
    show Sat (sX15_gameBoard_30 h x0 v) _
    unfold sX15_gameBoard_30
    refine s_ref er ?_
    refine s_gd (by rw [thN T qr (k := 92) (n := 2408) rfl (by decide)]; exact rg_inB iv (by decide)) ?_
    exact s_ref q (s_some ⟨ρ, c, ex_0, T, G, ⟨r, er, q⟩, fun _ _ B => B⟩)
theorem s_gamew {β : Type} {Q : β → Prop} {k : Nat × Hp → Option β} (hp : ∀ k w i, SY E wb wl k w i = true → cPm c k w i = true) (hi : ∀ i, i ≤ 2407 → E 92 i = true) (T : TH ρ c h) (r0 : ρ x0 = 16) (i1 : Rg 0 7 x1) (i2 : Rg 0 300 x2) (G : GaY zq Bq x0 h) (H : ∀ o ρ1 c1, Ext ρ c ρ1 c1 → TH ρ1 c1 o.2 → Fr ρ (cat c (SY (g92 (gi x1 x2)) no no) h) h o.2 → GaY zq Bq x0 o.2 → Gb x0 (gi x1 x2) o.1 o.2 → (∀ j b, Gb x0 j b h → Gb x0 j b o.2) → Sat (k o) Q) : Sat (cl (sX15_gameBoard h x0 x1 x2) k) Q :=
  s_mk (g := fun (o : Nat × Hp) => o.2) (P := fun (o : Nat × Hp) (_ : Nat → Nat) (_ : Cm) => GaY zq Bq x0 o.2 ∧ Gb x0 (gi x1 x2) o.1 o.2 ∧ ∀ j b, Gb x0 j b h → Gb x0 j b o.2) T (fun k w i m => hp k w i (sy_sub (fun k i z => by
      unfold g92 at z
      rw [Bool.and_eq_true, beq_iff_eq] at z
      rw [z.1]; exact hi i (by rw [beq_iff_eq.mp z.2]; exact rg_clamp (gi_r i1 i2) (by decide))) (fun _ z => no_f z) (fun _ z => no_f z) m))
    (gameBw (syE (sx_c (SY (g92 (gi x1 x2)) no no)) (by unfold g92; rw [beq_self_eq_true, beq_self_eq_true]; rfl)) (th_in _ T) r0 i1 i2 G) (fun _ _ _ _ _ p => p) (fun o ρ1 c1 X T1 f p => H o ρ1 c1 X T1 f p.1 p.2.1 p.2.2)
end
end
section
def gmE2 : Nat → Nat → Bool := fun k i => (k == 92 && decide (i ≤ 2407)) || k == 93 || k == 94
theorem gm2_t {i : Nat} (h : i ≤ 2407) : gmE2 92 i = true := by
  unfold gmE2
  rw [decide_eq_true h]; rfl
section
variable {zq : Nat} {ρ : Nat → Nat} {c : Cm} {h o : Hp} {E : Nat → Nat → Bool} {wb wl : Nat → Bool} {x0 d b l w i F : Nat} {Bq : Nat × Nat} {x1 x2 : Int32}
/-- moves of a game's board -/
theorem s_legalGw {β : Type} {Q : β → Prop} {k : Hp → Option β} (hF : 700000 ≤ F) (hp : ∀ k w i, SY E wb wl k w i = true → cPm c k w i = true) (h1 : wb 2528 = true) (h3 : wl 2530 = true) (T : TH ρ c h) (r0 : ρ x0 = 16) (sq : SqOk x0 h) (G : GaY zq Bq x0 h) (B : Gb x0 i b h) (el : hR h x0 30 = some l) (H : ∀ o, TH ρ c o → Fr ρ (cat c (SY noE (is 2528) (is 2530)) h) h o → SqOk x0 o → GaY zq Bq x0 o → Gb x0 i b o → hR o x0 30 = some l → MvB x0 b l o → MvZ b l o → Sat (k o) Q) : Sat (cl (sX15_legal F h x0 b l) k) Q := by
  obtain ⟨k1, k3⟩ := gb_r T r0 B
  obtain ⟨l', el', ql'⟩ := thR T r0 (i := 30) (k2 := 14) rfl (by decide)
  have ql : ρ l = 14 := by rw [r_eq el' el]; exact ql'
  have wl' : cw c l = 2530 := th_id T r0 (w := 2530) el rfl (by decide)
  have hs : ∀ k w i, SY noE (is 2528) (is 2530) k w i = true → cPm c k w i = true := fun k w i m => hp k w i (sy_sub (fun _ _ z => noE_f z) (fun w z => by rw [is_e z]; exact h1) (fun w z => by rw [is_e z]; exact h3) m)
  obtain ⟨M, eM, rM⟩ := thR T k1 (i := 0) (k2 := 62) rfl (by decide)
  obtain ⟨lf, e1, q1⟩ := thR T ql (i := 1) (k2 := 66) rfl (by decide)
  obtain ⟨lt, e2, q2⟩ := thR T ql (i := 2) (k2 := 67) rfl (by decide)
  obtain ⟨lx, e5, q5⟩ := thR T ql (i := 5) (k2 := 70) rfl (by decide)
  obtain ⟨lk, e6, q6⟩ := thR T ql (i := 6) (k2 := 71) rfl (by decide)
  obtain ⟨lo, e7, q7⟩ := thR T ql (i := 7) (k2 := 72) rfl (by decide)
  have Z := legal_z (c := c) (x0 := x0) (lf := lf) (lt := lt) (lx := lx) (lk := lk) (lo := lo) (wl := 2530) hF (pmA_s (syA hp) rfl) (pmO_s (syB hp h1) rfl) (pmO_s (syM hp h3) rfl) k3 (by omega) wl' T r0 k1 ql sq (G.1 i b B).1 ⟨e1, e2, e5, e6, e7⟩ eM
  refine s_cVfq T hs (s_weq2 (zX15_legal hF (pmA_s (syA (sx_c _)) rfl) (pmO_s (syB (sx_c _) is_s) rfl) (pmO_s (w := 2530) (syM (sx_c _) is_s) rfl) k3 wl' (by omega) (th_in _ T) r0 k1 ql sq (G.1 i b B).1)) (fun o T1 f mv => ?_)
  obtain ⟨mv, eo⟩ := mv
  have L : L2 l lf lt lx lk lo (hI h M) (hI h b 1) (hI h b 3).toInt o := by
    obtain ⟨o', eo', _, z⟩ := Z
    have : o' = o := by rw [eo'] at eo; exact Option.some.inj eo
    rw [← this]; exact z
  have zb : ∀ k i, (k = 13 ∨ (62 ≤ k ∧ k ≤ 65)) → SY noE (is 2528) (is 2530) k (cw c b) i = false := fun k i hk => by
    rcases hk with z | z
    · rw [z]; exact sy_f rfl rfl (Or.inr (by rw [k3]; exact is_f (by omega))) (Or.inl rfl)
    · have : k = 62 ∨ k = 63 ∨ k = 64 ∨ k = 65 := by omega
      rcases this with z | z | z | z <;> rw [z] <;> exact sy_f rfl rfl (Or.inr (by rw [k3]; exact is_f (by omega))) (Or.inl rfl)
  have fb : ∀ i, hI o b i = hI h b i ∧ hR o b i = hR h b i := fun i => by
    have := f.1 b i (by rw [k1]; decide) (by rw [k1]; exact zb 13 i (Or.inl rfl))
    exact ⟨this.1, this.2.2⟩
  have fM : ∀ i, hI o M i = hI h M i := fun i => (f.1 M i (by rw [rM]; decide) (by rw [rM]; show SY noE (is 2528) (is 2530) 62 (cw c M) i = false; rw [th_ih T k1 (by decide) eM rfl]; exact zb 62 i (Or.inr (by decide)))).1
  have fl : ∀ i, 1 ≤ i → i < 8 → hR o l i = hR h l i := fun i a1 a2 => by
    have : SY noE (is 2528) (is 2530) 14 (cw c l) i = false := by
      rcases (by omega : i = 1 ∨ i = 2 ∨ i = 3 ∨ i = 4 ∨ i = 5 ∨ i = 6 ∨ i = 7) with z | z | z | z | z | z | z <;> rw [z] <;> exact sy_f rfl rfl (Or.inl rfl) (Or.inl rfl)
    exact (f.1 l i (by rw [ql]; decide) (by rw [ql]; exact this)).2.2
  have mz : MvZ b l o := by
    intro M' lf' lt' lx' lk' lo' p0 p1 p2 p5 p6 p7
    rw [(fb 0).2] at p0
    rw [fl _ (by decide) (by decide)] at p1 p2 p5 p6 p7
    have y0 := r_eq eM p0
    have y1 := r_eq e1 p1
    have y2 := r_eq e2 p2
    have y5 := r_eq e5 p5
    have y6 := r_eq e6 p6
    have y7 := r_eq e7 p7
    subst y0; subst y1; subst y2; subst y5; subst y6; subst y7
    rw [(fb 1).1, (fb 3).1, show hI o M' = hI h M' from funext fM]
    exact L
  exact H o T1 f (sq_sy nice_0 T r0 f sq) (gaw_sy nice_0 (fun _ => rfl) T r0 f (fun j => Or.inl (no5 (by decide))) G) ((gb_sy nice_0 rfl T r0 f).mp B) (by rw [(fr_RI f r0 (by decide) (fun _ => sy_f rfl rfl (Or.inl rfl) (Or.inl rfl))).2.2]; exact el) mv mz
/-- a place that is kept can be written -/
theorem bw_of {s : Int32} {o : Int32 × Hp} {Bk : Nat × Nat} (T : TH ρ c h) (r0 : ρ x0 = 16) (P : BdY zq Bk x0 h) (e : sX15_has h x0 s = some o) (n : ¬ o.1 = 0) : ∃ b, BK x0 s.toNatClampNeg b h ∧ PZ zq b h := by
  obtain ⟨b, B⟩ := bk_of T r0 (hb_of T r0 (bdy_p P) e n)
  refine ⟨b, B, ?_⟩
  unfold sX15_has sX15_has_23 sX15_has_24 at e
  replace e := br_s e; rcases e with ⟨_, e⟩ | ⟨c1, e⟩
  · exact absurd (by rw [← Option.some.inj (gd_s e).2]) n
  replace e := br_s e; rcases e with ⟨_, e⟩ | ⟨c2, e⟩
  · exact absurd (by rw [← Option.some.inj (gd_s e).2]) n
  replace e := cl_s e; obtain ⟨q, es, e⟩ := e
  replace e := (gd_s e).2
  replace e := br_s e; rcases e with ⟨_, e⟩ | ⟨c3, e⟩
  · exact absurd (by rw [← Option.some.inj (gd_s e).2]) n
  have l1 := nlt_i c1
  have l2 := nle_i c2
  have z0 : (0 : Int32).toInt = 0 := rfl
  have z60 : (60 : Int32).toInt = 60 := rfl
  obtain ⟨r, er, eb, _⟩ := B
  obtain ⟨b', eb', pb⟩ := P.1 r q er es s.toNatClampNeg (by have := nc_i (x := s) (by omega); omega) c3
  rw [r_eq eb eb'] at pb
  exact pb
theorem gaw_w {A : List (Nat × Nat)} (hA : ∀ k i, k ≠ 93 → k ≠ 94 → mS A k i = false) (T : TH ρ c h) (r0 : ρ x0 = 16) (f : Fr ρ (cat c (fS A []) h) h o) (G : GaY zq Bq x0 h) (T' : TH ρ c o := by assumption) : GaY zq Bq x0 o := by
  have z : ∀ k i, k ≠ 93 → k ≠ 94 → ∀ w, fS A [] k w i = false := fun k i a1 a2 w => fs_nf (hA k i a1 a2)
  refine ⟨fun j b B => ?_, pay_k0 T r0 (k2 := 92) rfl (by decide) (T'.1.1.trans T.1.1.symm) (fr_RI f r0 (by decide) (z _ _ (by decide) (by decide))).2.2 (fun r i qr => (fr_RI f qr (by decide) (z _ _ (by decide) (by decide))).2.2) G.2⟩
  obtain ⟨r', s1, s2⟩ := B
  rw [(fr_RI f r0 (by decide) (z _ _ (by decide) (by decide))).2.2] at s1
  obtain ⟨q1, f1, g1⟩ := thR T r0 (i := 37) (k2 := 92) rfl (by decide)
  have h1 : ρ r' = 92 := by rw [r_eq f1 s1]; exact g1
  rw [(fr_RI f h1 (by decide) (z _ _ (by decide) (by decide))).2.2] at s2
  obtain ⟨k1, k2⟩ := gb_r T r0 (i := j) (b := b) ⟨r', s1, s2⟩
  exact pz_fr T k1 f (fun _ _ => z _ _ (by decide) (by decide) _) (fun _ => z _ _ (by decide) (by decide) _) (fun _ => z _ _ (by decide) (by decide) _) (fun _ => z _ _ (by decide) (by decide) _) (G.1 j b ⟨r', s1, s2⟩)
theorem mz_sy {w' : Nat} (n : nice E) (T : TH ρ c h) (rb : ρ b = 13) (rl : ρ l = 14) (ew : cw c b = w) (hb : wb w = false) (el : cw c l = w') (hl : wl w' = false) (f : Fr ρ (cat c (SY E wb wl) h) h o) (Z : MvZ b l h) : MvZ b l o := by
  have z : ∀ k i, (k = 13 ∨ k = 14 ∨ (62 ≤ k ∧ k ≤ 72) ∨ k = 15) → mS saL k i = false → mS mpL k i = false → SY E wb wl k (cw c b) i = false := fun k i a0 a1 a2 => sy_f (n.1 k i a0) a1 (Or.inr (by rw [ew]; exact hb)) (Or.inl a2)
  have y : ∀ k i, (k = 13 ∨ k = 14 ∨ (62 ≤ k ∧ k ≤ 72) ∨ k = 15) → mS saL k i = false → mS bpL k i = false → SY E wb wl k (cw c l) i = false := fun k i a0 a1 a2 => sy_f (n.1 k i a0) a1 (Or.inl a2) (Or.inr (by rw [el]; exact hl))
  have fb : ∀ i, hI o b i = hI h b i ∧ hR o b i = hR h b i := fun i => by
    have := f.1 b i (by rw [rb]; decide) (by rw [rb]; exact z 13 i (by omega) rfl rfl)
    exact ⟨this.1, this.2.2⟩
  have fl : ∀ i, hI o l i = hI h l i ∧ hR o l i = hR h l i := fun i => by
    have := f.1 l i (by rw [rl]; decide) (by rw [rl]; exact y 14 i (by omega) rfl rfl)
    exact ⟨this.1, this.2.2⟩
  have fa : ∀ {a k : Nat}, cw c a = cw c l → ρ a = k → 66 ≤ k → k ≤ 72 → ∀ i, hI o a i = hI h a i := fun {a k} hw ra k1 k2 i => by
    refine (f.1 a i (by rw [ra]; omega) ?_).1
    rw [ra]
    show SY E wb wl k (cw c a) i = false
    rw [hw]
    have : k = 66 ∨ k = 67 ∨ k = 68 ∨ k = 69 ∨ k = 70 ∨ k = 71 ∨ k = 72 := by omega
    rcases this with q | q | q | q | q | q | q <;> rw [q] <;> exact y _ i (by omega) rfl rfl
  intro M lf lt lx lk lo p0 p1 p2 p5 p6 p7
  rw [(fb 0).2] at p0
  rw [(fl _).2] at p1 p2 p5 p6 p7
  have rM := rr T (thR T rb (i := 0) (k2 := 62) rfl (by decide)) p0
  have q1 := rr T (thR T rl (i := 1) (k2 := 66) rfl (by decide)) p1
  have q2 := rr T (thR T rl (i := 2) (k2 := 67) rfl (by decide)) p2
  have q5 := rr T (thR T rl (i := 5) (k2 := 70) rfl (by decide)) p5
  have q6 := rr T (thR T rl (i := 6) (k2 := 71) rfl (by decide)) p6
  have q7 := rr T (thR T rl (i := 7) (k2 := 72) rfl (by decide)) p7
  have fM : ∀ i, hI o M i = hI h M i := fun i => (f.1 M i (by rw [rM]; decide) (by rw [rM]; show SY E wb wl 62 (cw c M) i = false; rw [th_ih T rb (by decide) p0 rfl]; exact z 62 i (by omega) rfl rfl)).1
  have L := Z M lf lt lx lk lo p0 p1 p2 p5 p6 p7
  rw [(fb 1).1, (fb 3).1, show hI o M = hI h M from funext fM]
  intro i hi
  rw [(fl 0).1] at hi
  rw [fa (th_ih T rl (by decide) p1 rfl) q1 (by decide) (by decide) i, fa (th_ih T rl (by decide) p2 rfl) q2 (by decide) (by decide) i, fa (th_ih T rl (by decide) p5 rfl) q5 (by decide) (by decide) i, fa (th_ih T rl (by decide) p6 rfl) q6 (by decide) (by decide) i, fa (th_ih T rl (by decide) p7 rfl) q7 (by decide) (by decide) i]
  exact L i hi
theorem start_w (hF : 700000 ≤ F) (hp : ∀ k w i, SY gmE2 (fun w => decide (5000 ≤ w) && decide (w ≤ 7407)) no k w i = true → cPm c k w i = true) (T : TH ρ c h) (r0 : ρ x0 = 16) {Bk : Nat × Nat} (bd : BdY zq Bk x0 h) (G : GaY zq Bq x0 h) : Sat (sX15_start h x0 x1 x2) (MkI ρ c (-102) 0 (GaY zq Bq x0)) := by
  unfold sX15_start
  refine s_dP0 (zX15_isGame hF T (rg_top _)) (fun oo eb e ii pp => ?_)
  rw [e]
  unfold sX15_start_4
  refine s_br (fun _ => s_some ⟨ρ, c, ex_0, T, rg_b rfl, G⟩) (fun nz => ?_)
  have i1 := pp nz
  refine s_dP0 (zX15_has hF T r0 (rg_top _)) (fun o2 eb2 e2 ii2 pp2 => ?_)
  rw [e2]
  unfold sX15_start_15
  refine s_br (fun _ => s_some ⟨ρ, c, ex_0, T, rg_b rfl, G⟩) (fun nz2 => ?_)
  have i2 := pp2 nz2
  obtain ⟨b, B, PB0⟩ := bw_of T r0 bd eb2 nz2
  have i0 : Rg 0 300 (0 : Int32) := rg_b rfl
  refine s_gamew hp (fun _ => gm2_t) T r0 i1 i0 G (fun o3 ρ1 c1 X1 T1 f1 G1 B1 _ => ?_)
  have r1 := ex_r X1 r0 (by decide)
  have hp1 := ex_hp X1 hp
  have BK1 := bk_sy nice_92 (fun _ => rfl) T r0 f1 rfl B
  obtain ⟨kb, wb'⟩ := bk_r T1 r1 BK1
  obtain ⟨kg, wg⟩ := gb_r T1 r1 B1
  have PB : PZ zq b o3.2 := pz_sy nice_92 T (bk_r T r0 B).1 (bk_r T r0 B).2 rfl f1 PB0
  unfold sX15_start_27
  refine s_bk T1 r1 i2 BK1 ?_
  have lg : gi x1 0 ≤ 2407 := rg_clamp (gi_r i1 i0) (by decide)
  have hs : ∀ k w i, SY noE (is (5000 + gi x1 0)) no k w i = true → cPm c1 k w i = true := fun k w i m => hp1 k w i (sy_sub (fun _ _ z => noE_f z) (fun w z => by rw [is_e z, decide_eq_true (show 5000 ≤ 5000 + gi x1 0 by omega), decide_eq_true (show 5000 + gi x1 0 ≤ 7407 by omega)]; rfl) (fun _ z => no_f z) m)
  refine s_cVfq T1 hs (s_weq (zX12_copy hF (pmO_s (w := 5000 + gi x1 0) (syB (sx_c _) is_s) rfl) wg wb' (th_in _ T1) kg kb)) (fun o4 T4 f4 e4 => ?_)
  have P4 : PZ zq o3.1 o4 := ⟨pe_copy T1 kg kb PB.1 e4, wr_copy T1 kg kb PB.2 e4⟩
  have G4 : GaY zq Bq x0 o4 := gaw_sy nice_0 (fun _ => rfl) T1 r1 f4 (fun j => by
    by_cases q : j = gi x1 0
    · subst q
      refine Or.inr (fun b' B' => ?_)
      obtain ⟨r, s1, s2⟩ := B1
      obtain ⟨r', s1', s2'⟩ := B'
      rw [r_eq s1 s1'] at s2'
      rw [r_eq s2 s2']; exact P4
    · exact Or.inl (is_f (by omega))) G1
  unfold sX15_start_36
  refine s_played T4 r1 i1 (fun r er qr => ?_)
  refine s_hq (th_wI T4 qr (k := 94) (lo := -1) (hi := 300) rfl (rg_b rfl) (by decide) (by decide) (syE hp1 rfl _)) (fun g5 T5 e5 => ?_)
  have f5 := fr1I (c := c1) (A := [(94, 999)]) (k := 94) qr rfl e5
  exact s_some ⟨ρ1, c1, X1, T5, rg_b rfl, gaw_w a94 T4 r1 f5 G4⟩
theorem gaw_one {j0 : Nat} (P : ∀ b', Gb x0 j0 b' h → PZ zq b' o) : ∀ j, is (5000 + j0) (5000 + j) = false ∨ ∀ b, Gb x0 j b h → PZ zq b o := fun j => by
  by_cases q : j = j0
  · subst q; exact Or.inr P
  · exact Or.inl (is_f (by omega))
theorem add_w (hF : 700000 ≤ F) (hp : ∀ k w i, SY gmE2 gmB (is 2530) k w i = true → cPm c k w i = true) (T : TH ρ c h) (r0 : ρ x0 = 16) (sq : SqOk x0 h) (G : GaY zq Bq x0 h) : Sat (sX15_add F h x0 x1 x2) (MkI ρ c (-104) 300 (GaY zq Bq x0)) := by
  unfold sX15_add
  refine s_dP0 (zX15_isGame hF T (rg_top _)) (fun oo eb e ii pp => ?_)
  rw [e]
  unfold sX15_add_4
  refine s_br (fun _ => s_some ⟨ρ, c, ex_0, T, rg_b rfl, G⟩) (fun nz => ?_)
  have i1 := pp nz
  refine s_played T r0 i1 (fun r er qr => ?_)
  refine s_br (fun _ => s_some ⟨ρ, c, ex_0, T, rg_b rfl, G⟩) (fun n1 => ?_)
  refine s_played T r0 i1 (fun r' er' qr' => ?_)
  have : r' = r := r_eq er er'
  subst this
  have i2 : Rg 0 300 (hI h r' x1.toNatClampNeg) := rg_nlo n1 (thI T qr' (k := 94) (lo := -1) (hi := 300) rfl) (rg_b rfl : Rg (-1) (-1) (-1 : Int32))
  obtain ⟨p0, ep0⟩ : ∃ p0, p0 = hI h r' x1.toNatClampNeg := ⟨_, rfl⟩
  rw [← ep0] at i2 ⊢
  refine s_gamew hp (fun _ => gm2_t) T r0 i1 i2 G (fun o3 ρ1 c1 X1 T1 f1 G1 B1 _ => ?_)
  have r1 := ex_r X1 r0 (by decide)
  have qr1 := ex_r X1 qr' (by decide)
  have hp1 := ex_hp X1 hp
  have sq1 := sq_sy nice_92 T r0 f1 sq
  have er1 : hR o3.2 x0 39 = some r' := by rw [(fr_RI f1 r0 (by decide) (fun _ => sy_f rfl rfl (Or.inl rfl) (Or.inl rfl))).2.2]; exact er
  have ep1 : hI o3.2 r' x1.toNatClampNeg = p0 := by rw [ep0]; exact (fr_RI f1 qr' (by decide) (fun _ => sy_f rfl rfl (Or.inl rfl) (Or.inl rfl))).1
  unfold sX15_add_34
  obtain ⟨ls, els, qls⟩ := thR T1 r1 (i := 30) (k2 := 14) rfl (by decide)
  refine s_ref els ?_
  refine s_legalGw hF hp1 rfl rfl T1 r1 sq1 G1 B1 els (fun o4 T4 f4 sq4 G4 B4 el4 mv4 mz4 => ?_)
  have er4 : hR o4 x0 39 = some r' := by rw [(fr_RI f4 r1 (by decide) (fun _ => sy_f rfl rfl (Or.inl rfl) (Or.inl rfl))).2.2]; exact er1
  have ep4 : hI o4 r' x1.toNatClampNeg = p0 := by rw [(fr_RI f4 qr1 (by decide) (fun _ => sy_f rfl rfl (Or.inl rfl) (Or.inl rfl))).1]; exact ep1
  unfold sX15_add_44 sX15_add_59
  refine s_br (fun _ => s_some ⟨ρ1, c1, X1, T4, rg_b rfl, G4⟩) (fun n2 => ?_)
  refine s_ref el4 ?_
  refine s_br (fun n3 => ?_) (fun _ => s_some ⟨ρ1, c1, X1, T4, rg_b rfl, G4⟩)
  refine s_played T4 r1 i1 (fun r'' er'' qr'' => ?_)
  have : r'' = r' := r_eq er4 er''
  subst this
  rw [ep4]
  refine s_br (fun _ => s_some ⟨ρ1, c1, X1, T4, rg_b rfl, G4⟩) (fun n4 => ?_)
  have i3 : Rg 0 299 p0 := rg_nhi n4 i2 (rg_b rfl : Rg 300 300 (300 : Int32))
  have i4 : Rg 0 300 (p0 + (1 : Int32)) := rg_add i3 (rg_b rfl : Rg 1 1 (1 : Int32)) (by decide)
  refine s_ref el4 ?_
  refine s_played T4 r1 i1 (fun r3 er3 qr3 => ?_)
  have : r3 = r'' := r_eq er4 er3
  subst this
  rw [ep4]
  have ne := gi_ne i1 i2 i4 (by rw [(nc_s i3 (by decide)).2]; omega)
  refine s_gamew hp1 (fun _ => gm2_t) T4 r1 i1 i4 G4 (fun o5 ρ5 c5 X5 T5 f5 G5 B5 kp5 => ?_)
  have r5 := ex_r X5 r1 (by decide)
  have qr5 := ex_r X5 qr1 (by decide)
  have hp5 := ex_hp X5 hp1
  have sq5 := sq_sy nice_92 T4 r1 f5 sq4
  obtain ⟨k4, w4⟩ := gb_r T4 r1 B4
  have ql4 : ρ1 ls = 14 := qls
  have wl4 : cw c1 ls = 2530 := th_id T4 r1 (w := 2530) el4 rfl (by decide)
  have mv5 : MvB x0 o3.1 ls o5.2 := mv_sy nice_92 T4 r1 k4 ql4 w4 rfl wl4 rfl f5 mv4
  have mz5 : MvZ o3.1 ls o5.2 := mz_sy nice_92 T4 k4 ql4 w4 rfl wl4 rfl f5 mz4
  have B45 : Gb x0 (gi x1 p0) o3.1 o5.2 := kp5 _ _ B4
  have el5 : hI o5.2 ls 0 = hI o4 ls 0 := fr_I f5 ql4 (by decide) wl4 (sy_f rfl rfl (Or.inl rfl) (Or.inr rfl))
  obtain ⟨k5, w5⟩ := gb_r T5 r5 B5
  obtain ⟨k45, w45⟩ := gb_r T5 r5 B45
  have ql5 := ex_r X5 ql4 (by decide)
  have wl5 := ex_w X5 ql4 (by decide) wl4
  have er5 : hR o5.2 x0 39 = some r3 := by rw [(fr_RI f5 r1 (by decide) (fun _ => sy_f rfl rfl (Or.inl rfl) (Or.inl rfl))).2.2]; exact er4
  have ep5 : hI o5.2 r3 x1.toNatClampNeg = p0 := by rw [(fr_RI f5 qr1 (by decide) (fun _ => sy_f rfl rfl (Or.inl rfl) (Or.inl rfl))).1]; exact ep4
  have h3000 := thI T4 ql4 (k := 14) (i := 0) (lo := 0) (hi := 3000) rfl
  have lt := lt_i n3
  have ix : Rg 0 2999 x2 := ⟨nlt_i n2, by have := h3000.2; omega⟩
  unfold sX15_add_97
  have lg : gi x1 (p0 + 1) ≤ 2407 := rg_clamp (gi_r i1 i4) (by decide)
  have hs : ∀ k w i, SY noE (is (5000 + gi x1 (p0 + 1))) no k w i = true → cPm c5 k w i = true := fun k w i m => hp5 k w i (sy_sub (fun _ _ z => noE_f z) (fun w z => by rw [is_e z]; exact gmB_t lg) (fun _ z => no_f z) m)
  refine s_cVfq T5 hs (s_weq2 (zX15_make hF (pmA_s (syA (sx_c _)) rfl) (pmO_s (w := 5000 + gi x1 (p0 + 1)) (syB (sx_c _) is_s) rfl) w45 wl5 w5 (th_in _ T5) r5 k45 ql5 ix k5 sq5 mv5 (by rw [el5]; exact lt))) (fun o6 T6 f6 P6' => ?_)
  have P6 : PZ zq o5.1 o6 := ⟨P6'.1, make_z T5 r5 k45 ql5 k5 (fun P1 P p1 p2 z => by
    have v1 : cw c5 P1 = 5000 + gi x1 p0 := (th_ih T5 k45 (by decide) p1 rfl).trans w45
    have v2 : cw c5 P = 5000 + gi x1 (p0 + 1) := (th_ih T5 k5 (by decide) p2 rfl).trans w5
    rw [z, v2] at v1
    exact ne (by omega)) (G5.1 _ _ B45).2 mv5 mz5 ⟨ix.1, by rw [el5]; exact lt⟩ P6'.2⟩
  have G6 : GaY zq Bq x0 o6 := gaw_sy nice_0 (fun _ => rfl) T5 r5 f6 (gaw_one (fun b' B' => by rw [gb_u B5 B']; exact P6)) G5
  have er6 : hR o6 x0 39 = some r3 := by rw [(fr_RI f6 r5 (by decide) (fun _ => sy_f rfl rfl (Or.inl rfl) (Or.inl rfl))).2.2]; exact er5
  have ep6 : hI o6 r3 x1.toNatClampNeg = p0 := by rw [(fr_RI f6 qr5 (by decide) (fun _ => sy_f rfl rfl (Or.inl rfl) (Or.inl rfl))).1]; exact ep5
  unfold sX15_add_100
  obtain ⟨gm, egm, qgm⟩ := thR T6 r5 (i := 38) (k2 := 93) rfl (by decide)
  refine s_ref egm ?_
  refine s_played T6 r5 i1 (fun r7 er7 qr7 => ?_)
  have : r7 = r3 := r_eq er6 er7
  subst this
  rw [ep6]
  refine s_gd (by rw [thN T6 qgm (k := 93) (n := 2408) rfl (by decide)]; exact rg_inB (gi_r i1 i2) (by decide)) ?_
  refine s_hq (th_wI T6 qgm (k := 93) (lo := 0) (hi := 2999) rfl ix (by decide) (by decide) (syE hp5 rfl _)) (fun g7 T7 e7 => ?_)
  have f7 := fr1I (c := c5) (A := [(93, 999)]) (k := 93) qgm rfl e7
  have G7 := gaw_w a93 T6 r5 f7 G6
  have ep7 : hI g7 r7 x1.toNatClampNeg = p0 := by rw [e7, r_I, if_neg (ne_r qr5 qgm (by decide))]; exact ep6
  refine s_played T7 r5 i1 (fun r8 er8 qr8 => ?_)
  have : r8 = r7 := by rw [e7] at er8; exact r_eq er6 er8
  subst this
  refine s_gd (by rw [thN T7 qr8 (k := 94) (n := 8) rfl (by decide)]; exact rg_inB i1 (by decide)) ?_
  refine s_hq (th_wI T7 qr8 (k := 94) (lo := -1) (hi := 300) rfl (rg_m (show Rg 0 300 _ by rw [ep7]; exact i4) (by decide)) (by decide) (by decide) (syE hp5 rfl _)) (fun g8 T8 e8 => ?_)
  have f8 := fr1I (c := c5) (A := [(94, 999)]) (k := 94) qr8 rfl e8
  have G8 := gaw_w a94 T7 r5 f8 G7
  refine s_played T8 r5 i1 (fun r9 er9 qr9 => ?_)
  exact s_some ⟨ρ5, c5, ex_t X1 X5, T8, rg_m (thI T8 qr9 (k := 94) (lo := -1) (hi := 300) rfl) (by decide), G8⟩
end
end
section
section
variable {zq : Nat} {ρ : Nat → Nat} {c : Cm} {h o : Hp} {E : Nat → Nat → Bool} {wb wl : Nat → Bool} {x0 d b l w i F : Nat} {Bq : Nat × Nat} {x1 x2 : Int32}
theorem game_loopw (hF : 700000 ≤ F) : ∀ (f : Nat) {ρ : Nat → Nat} {c : Cm} {h : Hp} {b i : Nat} {x1 x2 x4 x5 : Int32}, (∀ k w i, SY gmE2 (is 2528) g2 k w i = true → cPm c k w i = true) → TH ρ c h → ρ x0 = 16 → Rg 0 7 x1 → SqOk x0 h → GaY zq Bq x0 h → Gb x0 i b h → 0 ≤ x5.toInt → (301 - x5.toInt).toNat < f → Sat (sX15_game_88 F f h x0 x1 x2 b x4 x5) (MkI ρ c (-2147483648) 2147483647 (GaY zq Bq x0)) := by
  intro f
  induction f with
  | zero => intros; omega
  | succ f ih =>
    intro ρ c h b i x1 x2 x4 x5 hp T r0 i1 sq G B a5 hf
    rw [sX15_game_88]
    unfold sX15_game_160 sX15_game_155 sX15_game_109 sX15_game_113 sX15_game_121
    have ex : ∀ {y : Int32}, Sat (some (y, h)) (MkI ρ c (-2147483648) 2147483647 (GaY zq Bq x0)) := s_some ⟨ρ, c, ex_0, T, rg_top _, G⟩
    refine s_played T r0 i1 (fun r er qr => ?_)
    refine s_br (fun _ => s_br (fun _ => ex) (fun _ => s_br (fun _ => ex) (fun _ => s_br (fun _ => ex) (fun _ => ex)))) (fun n1 => ?_)
    have l5 := nlt_i n1
    have p300 := thI T qr (k := 94) (i := x1.toNatClampNeg) (lo := -1) (hi := 300) rfl
    have i5 : Rg 0 300 x5 := ⟨a5, by have := p300.2; omega⟩
    refine s_gamew hp (fun _ => gm2_t) T r0 i1 i5 G (fun o1 ρ1 c1 X1 T1 f1 G1 B1 kp => ?_)
    have r1 := ex_r X1 r0 (by decide)
    have hp1 := ex_hp X1 hp
    have sq1 := sq_sy nice_92 T r0 f1 sq
    have B2 := kp _ _ B
    obtain ⟨kb, wb'⟩ := gb_r T1 r1 B2
    obtain ⟨kg, wg⟩ := gb_r T1 r1 B1
    refine s_same hF hp1 rfl rfl T1 r1 sq1 kg wg (by omega) (G1.1 _ _ B1).1 kb wb' (by omega) (G1.1 _ _ B2).1 (fun o2 T2 i2 f2 => ?_)
    have sq2 := sq_sy nice_0 T1 r1 f2 sq1
    have G2 := gaw_sy nice_0 (fun _ => rfl) T1 r1 f2 (fun j => Or.inl (no5 (by decide))) G1
    have B3 := (gb_sy nice_0 rfl T1 r1 f2).mp B2
    have go : ∀ t : Int32, Sat (nm (x4 + t) fun v_1 => nm (x5 + (1 : Int32)) fun v_2 => sX15_game_88 F f o2.2 x0 x1 x2 b v_1 v_2) (MkI ρ c (-2147483648) 2147483647 (GaY zq Bq x0)) := fun t => by
      refine s_q (fun u eu => ?_)
      refine s_q (fun v ev => ?_)
      have ev2 : v.toInt = x5.toInt + 1 := by rw [ev]; exact (nc_s i5 (by decide)).2
      exact mI_ext X1 (ih hp1 T2 r1 i1 sq2 G2 B3 (by omega) (by have := i5.2; omega))
    exact s_br (fun _ => go 0) (fun _ => go 1)
theorem game_w (hF : 700000 ≤ F) (hp : ∀ k w i, SY gmE2 (is 2528) g2 k w i = true → cPm c k w i = true) (T : TH ρ c h) (r0 : ρ x0 = 16) (sq : SqOk x0 h) (G : GaY zq Bq x0 h) : Sat (sX15_game F h x0 x1 x2) (MkI ρ c (-2147483648) 2147483647 (GaY zq Bq x0)) := by
  unfold sX15_game
  refine s_dP0 (zX15_isGame hF T (rg_top _)) (fun oo eb e ii pp => ?_)
  rw [e]
  unfold sX15_game_4 sX15_game_16
  have ex : ∀ {y : Int32}, Sat (some (y, h)) (MkI ρ c (-2147483648) 2147483647 (GaY zq Bq x0)) := s_some ⟨ρ, c, ex_0, T, rg_top _, G⟩
  refine s_br (fun _ => ex) (fun nz => ?_)
  have i1 := pp nz
  refine s_br (fun _ => ex) (fun _ => ?_)
  refine s_br (fun _ => ?_) (fun _ => ex)
  refine s_played T r0 i1 (fun r er qr => ?_)
  refine s_br (fun _ => ex) (fun n1 => ?_)
  refine s_played T r0 i1 (fun r' er' qr' => ?_)
  have : r' = r := r_eq er er'
  subst this
  have i2 : Rg 0 300 (hI h r' x1.toNatClampNeg) := rg_nlo n1 (thI T qr' (k := 94) (lo := -1) (hi := 300) rfl) (rg_b rfl : Rg (-1) (-1) (-1 : Int32))
  refine s_gamew hp (fun _ => gm2_t) T r0 i1 i2 G (fun o3 ρ1 c1 X1 T1 f1 G1 B1 _ => ?_)
  have r1 := ex_r X1 r0 (by decide)
  have hp1 := ex_hp X1 hp
  have sq1 := sq_sy nice_92 T r0 f1 sq
  unfold sX15_game_43
  refine s_br (fun _ => ?_) (fun _ => ?_)
  · exact s_played T1 r1 i1 (fun r9 er9 qr9 => s_some ⟨ρ1, c1, X1, T1, rg_top _, G1⟩)
  refine s_br (fun _ => ?_) (fun _ => ?_)
  · obtain ⟨ls, els, qls⟩ := thR T1 r1 (i := 30) (k2 := 14) rfl (by decide)
    refine s_ref els ?_
    refine s_legalGw hF hp1 rfl rfl T1 r1 sq1 G1 B1 els (fun o4 T4 f4 sq4 G4 B4 el4 mv4 _ => ?_)
    unfold sX15_game_69 sX15_game_81
    refine s_ref el4 ?_
    obtain ⟨kg, wg⟩ := gb_r T4 r1 B4
    have hn : ∀ k w i, SY noE no no k w i = true → cPm c1 k w i = true := fun k w i m => hp1 k w i (sy_sub (fun _ _ z => noE_f z) (fun _ z => no_f z) (fun _ z => no_f z) m)
    refine s_cIf T4 hn (zX15_endedBy hF (pmA_s (syA (sx_c _)) rfl) rfl (th_in _ T4) r1 kg (thI T4 qls (k := 14) (i := 0) (lo := 0) (hi := 3000) rfl)) (fun o5 T5 i5 f5 => ?_)
    exact s_some ⟨ρ1, c1, X1, T5, rg_top _, gaw_sy nice_0 (fun _ => rfl) T4 r1 f5 (fun j => Or.inl rfl) G4⟩
  · exact mI_ext X1 (game_loopw hF F hp1 T1 r1 i1 sq1 G1 B1 (by decide) (by show (301 - (0 : Int)).toNat < F; omega))
/-- what the book's loops keep -/
def BQw (zq : Nat) (Bq : Nat × Nat) (x0 pi pb : Nat) (h : Hp) : Prop := SqOk x0 h ∧ GaY zq Bq x0 h ∧ BK x0 pi pb h
theorem book_inw (hF : 700000 ≤ F) {K : Hp → Nat → Int32 → Int32 → Int32 → Int32 → Option (Int32 × Hp)} {pb : Nat} {x1 x2 x4 : Int32} (ip : Rg 0 59 x1) (i4 : Rg 0 7 x4)
    (R : ∀ {ρ : Nat → Nat} {c : Cm} {h : Hp} {x3 v : Int32}, (∀ k w i, SY gmE2 (is 2528) g2 k w i = true → cPm c k w i = true) → TH ρ c h → ρ x0 = 16 → BQw zq Bq x0 x1.toNatClampNeg pb h → v.toInt = x4.toInt + 1 → Sat (K h x0 x1 x2 x3 v) (MkI ρ c (-2147483648) 2147483647 (GaY zq Bq x0))) :
    ∀ (f : Nat) {ρ : Nat → Nat} {c : Cm} {h : Hp} {x3 x5 : Int32}, (∀ k w i, SY gmE2 (is 2528) g2 k w i = true → cPm c k w i = true) → TH ρ c h → ρ x0 = 16 → BQw zq Bq x0 x1.toNatClampNeg pb h → 0 ≤ x5.toInt → (301 - x5.toInt).toNat < f → Sat (sX15_book_48 F K f h x0 x1 x2 x3 x4 x5) (MkI ρ c (-2147483648) 2147483647 (GaY zq Bq x0)) := by
  intro f
  induction f with
  | zero => intros; omega
  | succ f ih =>
    intro ρ c h x3 x5 hp T r0 W a5 hf
    obtain ⟨sq, G, B⟩ := W
    rw [sX15_book_48]
    have up : ∀ {x3 : Int32}, Sat (sX15_book_141 F K h x0 x1 x2 x3 x4) (MkI ρ c (-2147483648) 2147483647 (GaY zq Bq x0)) := fun {x3} => by
      unfold sX15_book_141
      refine s_q (fun v ev => ?_)
      exact R hp T r0 ⟨sq, G, B⟩ (by rw [ev]; exact (nc_s i4 (by decide)).2)
    refine s_played T r0 i4 (fun r er qr => ?_)
    refine s_br (fun _ => up) (fun n1 => ?_)
    have l5 := nlt_i n1
    have p300 := thI T qr (k := 94) (i := x4.toNatClampNeg) (lo := -1) (hi := 300) rfl
    have i5 : Rg 0 300 x5 := ⟨a5, by have := p300.2; omega⟩
    have on : ∀ {ρ2 : Nat → Nat} {c2 : Cm} {g : Hp} {x3 : Int32}, Ext ρ c ρ2 c2 → TH ρ2 c2 g → BQw zq Bq x0 x1.toNatClampNeg pb g → Sat (sX15_book_135 F K (sX15_book_48 F K f) g x0 x1 x2 x3 x4 x5) (MkI ρ c (-2147483648) 2147483647 (GaY zq Bq x0)) := fun {ρ2 c2 g x3} Y T2 W2 => by
      unfold sX15_book_135
      refine s_q (fun v ev => ?_)
      have ev2 : v.toInt = x5.toInt + 1 := by rw [ev]; exact (nc_s i5 (by decide)).2
      exact mI_ext Y (ih (ex_hp Y hp) T2 (ex_r Y r0 (by decide)) W2 (by omega) (by have := i5.2; omega))
    have go : Sat (sX15_book_106 F K (sX15_book_48 F K f) h x0 x1 x2 x3 x4 x5) (MkI ρ c (-2147483648) 2147483647 (GaY zq Bq x0)) := by
      unfold sX15_book_106
      refine s_gamew hp (fun _ => gm2_t) T r0 i4 i5 G (fun o1 ρ1 c1 X1 T1 f1 G1 B1 _ => ?_)
      have r1 := ex_r X1 r0 (by decide)
      have hp1 := ex_hp X1 hp
      have sq1 := sq_sy nice_92 T r0 f1 sq
      have BK1 := bk_sy nice_92 (fun _ => rfl) T r0 f1 rfl B
      obtain ⟨kb, wb'⟩ := bk_r T1 r1 BK1
      obtain ⟨kg, wg⟩ := gb_r T1 r1 B1
      have PB : PE pb o1.2 := by obtain ⟨_, _, _, q⟩ := BK1; exact q
      unfold sX15_book_116
      refine s_bk T1 r1 ip BK1 ?_
      refine s_same hF hp1 rfl rfl T1 r1 sq1 kg wg (by omega) (G1.1 _ _ B1).1 kb wb' (by decide) PB (fun o2 T2 i2 f2 => ?_)
      have W2 : BQw zq Bq x0 x1.toNatClampNeg pb o2.2 := ⟨sq_sy nice_0 T1 r1 f2 sq1, gaw_sy nice_0 (fun _ => rfl) T1 r1 f2 (fun j => Or.inl (no5 (by decide))) G1, bk_sy nice_0 (fun _ => rfl) T1 r1 f2 rfl BK1⟩
      unfold sX15_book_125 sX15_book_133
      exact s_br (fun _ => s_q (fun v ev => on X1 T2 W2)) (fun _ => s_q (fun v ev => on X1 T2 W2))
    refine s_played T r0 i4 (fun r' er' qr' => ?_)
    refine s_br (fun _ => up) (fun n2 => ?_)
    refine s_br (fun _ => go) (fun n3 => ?_)
    refine s_played T r0 i4 (fun r2 er2 qr2 => ?_)
    refine s_br (fun _ => on ex_0 T ⟨sq, G, B⟩) (fun n4 => ?_)
    obtain ⟨gm, egm, qgm⟩ := thR T r0 (i := 38) (k2 := 93) rfl (by decide)
    refine s_ref egm ?_
    refine s_gd (by rw [thN T qgm (k := 93) (n := 2408) rfl (by decide)]; exact rg_inB (gi_r i4 i5) (by decide)) ?_
    exact s_br (fun _ => go) (fun _ => on ex_0 T ⟨sq, G, B⟩)
theorem book_outw (hF : 700000 ≤ F) {pb : Nat} {x1 x2 : Int32} (ip : Rg 0 59 x1) : ∀ (f : Nat) {ρ : Nat → Nat} {c : Cm} {h : Hp} {x3 x4 : Int32}, (∀ k w i, SY gmE2 (is 2528) g2 k w i = true → cPm c k w i = true) → TH ρ c h → ρ x0 = 16 → BQw zq Bq x0 x1.toNatClampNeg pb h → 0 ≤ x4.toInt → (8 - x4.toInt).toNat < f → Sat (sX15_book_38 F f h x0 x1 x2 x3 x4) (MkI ρ c (-2147483648) 2147483647 (GaY zq Bq x0)) := by
  intro f
  induction f with
  | zero => intros; omega
  | succ f ih =>
    intro ρ c h x3 x4 hp T r0 W a4 hf
    rw [sX15_book_38]
    refine s_br (fun _ => s_some ⟨ρ, c, ex_0, T, rg_top _, W.2.1⟩) (fun n1 => ?_)
    have l4 : x4.toInt < 8 := nle_i n1
    exact book_inw hF ip ⟨a4, by omega⟩ (fun {ρ2 c2 g y v} hp2 T2 r2 W2 ev => ih hp2 T2 r2 W2 (by omega) (by omega)) F hp T r0 W (by decide) (by show (301 - (0 : Int)).toNat < F; omega)
theorem book_w (hF : 700000 ≤ F) (hp : ∀ k w i, SY gmE2 (is 2528) g2 k w i = true → cPm c k w i = true) (T : TH ρ c h) (r0 : ρ x0 = 16) (bd : BdP x0 h) (sq : SqOk x0 h) (G : GaY zq Bq x0 h) : Sat (sX15_book F h x0 x1 x2) (MkI ρ c (-2147483648) 2147483647 (GaY zq Bq x0)) := by
  unfold sX15_book
  have hs : ∀ k w i, SY noE (is 2528) (is 2530) k w i = true → cPm c k w i = true := fun k w i m => hp k w i (sy_sub (fun _ _ z => noE_f z) (fun _ z => z) (fun w z => by rw [is_e z]; rfl) m)
  refine s_cIfq T hs (zX15_moves hF (pmA_s (syA (sx_c _)) rfl) (pmO_s (syB (sx_c _) is_s) rfl) (pmO_s (syM (sx_c _) is_s) rfl) (th_in _ T) r0 (rg_top _) bd sq) (fun o1 T1 i1 f1 p1 => ?_)
  have sq1 := sq_sy nice_0 T r0 f1 sq
  have G1 := gaw_sy nice_0 (fun _ => rfl) T r0 f1 (fun j => Or.inl (no5 (by decide))) G
  unfold sX15_book_5 sX15_book_30 sX15_book_33
  have ex : ∀ {y : Int32}, Sat (some (y, o1.2)) (MkI ρ c (-2147483648) 2147483647 (GaY zq Bq x0)) := s_some ⟨ρ, c, ex_0, T1, rg_top _, G1⟩
  refine s_br (fun _ => ex) (fun nz => ?_)
  have nz' : ¬ o1.1.toInt = -102 := ne_i nz
  have ip : Rg 0 59 x1 := p1.1.resolve_left nz'
  obtain ⟨b, B1⟩ := bk_of T1 r0 (mp_hb (p1.2 nz'))
  have go : Sat (sX15_book_38 F F o1.2 x0 x1 x2 0 0) (MkI ρ c (-2147483648) 2147483647 (GaY zq Bq x0)) := book_outw hF ip F hp T1 r0 ⟨sq1, G1, B1⟩ (by decide) (by show (8 - (0 : Int)).toNat < F; omega)
  refine s_br (fun _ => go) (fun _ => ?_)
  refine s_br (fun _ => ex) (fun _ => ?_)
  obtain ⟨ls, els, qls⟩ := thR T1 r0 (i := 30) (k2 := 14) rfl (by decide)
  refine s_ref els ?_
  exact s_br (fun _ => go) (fun _ => ex)
end
end
section
/-! places over frames; now and go of the reference -/
section
variable {zq : Nat} {ρ : Nat → Nat} {c : Cm} {h o : Hp} {E : Nat → Nat → Bool} {wb wl : Nat → Bool} {x0 d b l w i F : Nat} {Bq : Nat × Nat} {x1 x2 : Int32}
theorem bdy_fr {S : Nat → Nat → Nat → Bool} (T : TH ρ c h) (rx : ρ x0 = 16) (f : Fr ρ (cat c S h) h o) (s1 : ∀ w, S 16 w 14 = false) (s2 : ∀ w, S 16 w 15 = false) (s3 : ∀ w i, S 84 w i = false) (s4 : ∀ w i, S 85 w i = false) (b0 : ∀ i, i < 7 → S 13 3400 i = false) (m : ∀ i, S 62 3400 i = false) (p : ∀ i, S 63 3400 i = false) (q : ∀ i, S 64 3400 i = false) (P : BdY zq Bq x0 h) (T' : TH ρ c o := by assumption) : BdY zq Bq x0 o := by
  refine ⟨fun r s e1 e2 i hi hs => ?_, fun r e1 i j a b ne ea eb k hk M M' m1 m2 => ?_, ?_⟩
  · rw [(fr_RI f rx (by decide) s1).2.2] at e1
    rw [(fr_RI f rx (by decide) s2).2.2] at e2
    have q1 := rr T (thR T rx (i := 14) (k2 := 84) rfl (by decide)) e1
    have q2 := rr T (thR T rx (i := 15) (k2 := 85) rfl (by decide)) e2
    rw [(fr_RI f q2 (by decide) (fun w => s4 w _)).1] at hs
    obtain ⟨b, eb, pb⟩ := P.1 r s e1 e2 i hi hs
    have wb : cw c b = 3400 := th_id T q1 eb rfl (by decide)
    exact ⟨b, by rw [(fr_RI f q1 (by decide) (fun w => s3 w _)).2.2]; exact eb, pz_fr T (thRn T q1 (k2 := 13) rfl (by decide) eb) f (fun i hi => by rw [wb]; exact b0 i (by omega)) (by rw [wb]; exact m) (by rw [wb]; exact p) (by rw [wb]; exact q) pb⟩
  · rw [(fr_RI f rx (by decide) s1).2.2] at e1
    have q1 := rr T (thR T rx (i := 14) (k2 := 84) rfl (by decide)) e1
    rw [(fr_RI f q1 (by decide) (fun w => s3 w _)).2.2] at ea eb
    have ra := thRn T q1 (k2 := 13) rfl (by decide) ea
    have wa : cw c a = 3400 := th_id T q1 ea rfl (by decide)
    have rb := thRn T q1 (k2 := 13) rfl (by decide) eb
    have wb : cw c b = 3400 := th_id T q1 eb rfl (by decide)
    have hS : S 13 3400 k = false := b0 k (by omega)
    rw [(f.1 a k (by rw [ra]; decide) (by rw [ra]; show S 13 (cw c a) k = false; rw [wa]; exact hS)).2.2] at m1
    rw [(f.1 b k (by rw [rb]; decide) (by rw [rb]; show S 13 (cw c b) k = false; rw [wb]; exact hS)).2.2] at m2
    exact P.2.1 r e1 i j a b ne ea eb k hk M M' m1 m2
  · exact pay_k0 T rx (k2 := 84) rfl (by decide) (T'.1.1.trans T.1.1.symm) (fr_RI f rx (by decide) s1).2.2 (fun r i qr => (fr_RI f qr (by decide) (fun w => s3 w i)).2.2) P.2.2
/-- over an extension (something made): all but the price -/
theorem bdy_x {S : Nat → Nat → Nat → Bool} {Bk : Nat × Nat} (T : TH ρ c h) (rx : ρ x0 = 16) (f : Fr ρ (cat c S h) h o) (s1 : ∀ w, S 16 w 14 = false) (s2 : ∀ w, S 16 w 15 = false) (s3 : ∀ w i, S 84 w i = false) (s4 : ∀ w i, S 85 w i = false) (b0 : ∀ i, i < 7 → S 13 3400 i = false) (m : ∀ i, S 62 3400 i = false) (p : ∀ i, S 63 3400 i = false) (q : ∀ i, S 64 3400 i = false) (P : BdY zq Bq x0 h) (Y : Pay 14 60 5 162 Bk x0 o) : BdY zq Bk x0 o := by
  refine ⟨fun r s e1 e2 i hi hs => ?_, fun r e1 i j a b ne ea eb k hk M M' m1 m2 => ?_, Y⟩
  · rw [(fr_RI f rx (by decide) s1).2.2] at e1
    rw [(fr_RI f rx (by decide) s2).2.2] at e2
    have q1 := rr T (thR T rx (i := 14) (k2 := 84) rfl (by decide)) e1
    have q2 := rr T (thR T rx (i := 15) (k2 := 85) rfl (by decide)) e2
    rw [(fr_RI f q2 (by decide) (fun w => s4 w _)).1] at hs
    obtain ⟨b, eb, pb⟩ := P.1 r s e1 e2 i hi hs
    have wb : cw c b = 3400 := th_id T q1 eb rfl (by decide)
    exact ⟨b, by rw [(fr_RI f q1 (by decide) (fun w => s3 w _)).2.2]; exact eb, pz_fr T (thRn T q1 (k2 := 13) rfl (by decide) eb) f (fun i hi => by rw [wb]; exact b0 i (by omega)) (by rw [wb]; exact m) (by rw [wb]; exact p) (by rw [wb]; exact q) pb⟩
  · rw [(fr_RI f rx (by decide) s1).2.2] at e1
    have q1 := rr T (thR T rx (i := 14) (k2 := 84) rfl (by decide)) e1
    rw [(fr_RI f q1 (by decide) (fun w => s3 w _)).2.2] at ea eb
    have ra := thRn T q1 (k2 := 13) rfl (by decide) ea
    have wa : cw c a = 3400 := th_id T q1 ea rfl (by decide)
    have rb := thRn T q1 (k2 := 13) rfl (by decide) eb
    have wb : cw c b = 3400 := th_id T q1 eb rfl (by decide)
    have hS : S 13 3400 k = false := b0 k (by omega)
    rw [(f.1 a k (by rw [ra]; decide) (by rw [ra]; show S 13 (cw c a) k = false; rw [wa]; exact hS)).2.2] at m1
    rw [(f.1 b k (by rw [rb]; decide) (by rw [rb]; show S 13 (cw c b) k = false; rw [wb]; exact hS)).2.2] at m2
    exact P.2.1 r e1 i j a b ne ea eb k hk M M' m1 m2
theorem bdy_sy (n : nice E) (n84 : ∀ i, E 84 i = false) (n85 : ∀ i, E 85 i = false) (n15 : E 16 15 = false) (hb : wb 3400 = false) (T : TH ρ c h) (r0 : ρ x0 = 16) (f : Fr ρ (cat c (SY E wb wl) h) h o) (P : BdY zq Bq x0 h) (T' : TH ρ c o := by assumption) : BdY zq Bq x0 o := by
  have z : ∀ k i, (k = 13 ∨ k = 14 ∨ (62 ≤ k ∧ k ≤ 72) ∨ k = 15) → mS saL k i = false → mS mpL k i = false → SY E wb wl k 3400 i = false := fun k i a0 a1 a2 => sy_f (n.1 k i a0) a1 (Or.inr hb) (Or.inl a2)
  exact bdy_fr T r0 f (fun _ => sy_f n.2.2.2.2.2 rfl (Or.inl rfl) (Or.inl rfl)) (fun _ => sy_f n15 rfl (Or.inl rfl) (Or.inl rfl)) (fun _ i => sy_f (n84 i) rfl (Or.inl rfl) (Or.inl rfl)) (fun _ i => sy_f (n85 i) rfl (Or.inl rfl) (Or.inl rfl)) (fun i _ => z _ _ (by omega) rfl rfl) (fun i => z _ _ (by omega) rfl rfl) (fun i => z _ _ (by omega) rfl rfl) (fun i => z _ _ (by omega) rfl rfl) P
/-- the prices of two rows together -/
def PayJ (Bq : Nat × Nat) (x0 : Nat) (h : Hp) : Prop := ∀ r q, hR h x0 14 = some r → hR h x0 37 = some q → h.1.1 + 5 * nuC h r 60 + 5 * nuC h q 2408 ≤ Bq.1 ∧ h.1.2 + 162 * nuC h r 60 + 162 * nuC h q 2408 ≤ Bq.2
/-- places and games -/
def BG (zq : Nat) (Bq : Nat × Nat) (x0 : Nat) (h : Hp) : Prop := (∃ B, BdY zq B x0 h) ∧ (∃ B, GaY zq B x0 h) ∧ PayJ Bq x0 h
theorem now_w (hF : 700000 ≤ F) (hp : ∀ k w i, SY (fun k i => kpE k i || (k == 92 && decide (i ≤ 2407))) (is 3400) no k w i = true → cPm c k w i = true) (T : TH ρ c h) (r0 : ρ x0 = 16) (K : BG zq Bq x0 h) : Sat (sX15_now F h x0 x1) (MkI ρ c (-104) 59 (BG zq Bq x0)) := by
  have K' := K
  obtain ⟨⟨B0, bd⟩, ⟨B1, G0⟩, J⟩ := K
  unfold sX15_now
  refine s_dP0 (zX15_isGame hF T (rg_top _)) (fun oo eb e ii pp => ?_)
  rw [e]
  unfold sX15_now_4 sX15_now_40
  refine s_br (fun _ => s_some ⟨ρ, c, ex_0, T, rg_b rfl, K'⟩) (fun nz => ?_)
  have i1 := pp nz
  refine s_played T r0 i1 (fun r er qr => ?_)
  refine s_br (fun _ => s_some ⟨ρ, c, ex_0, T, rg_b rfl, K'⟩) (fun n1 => ?_)
  refine s_played T r0 i1 (fun r' er' qr' => ?_)
  have : r' = r := r_eq er er'
  subst this
  have i2 : Rg 0 300 (hI h r' x1.toNatClampNeg) := rg_nlo n1 (thI T qr' (k := 94) (lo := -1) (hi := 300) rfl) (rg_b rfl : Rg (-1) (-1) (-1 : Int32))
  obtain ⟨ra, ea, qa⟩ := thR T r0 (i := 14) (k2 := 84) rfl (by decide)
  obtain ⟨rg, eg, qg⟩ := thR T r0 (i := 37) (k2 := 92) rfl (by decide)
  have J0 := J ra rg ea eg
  have G : GaY zq (Bq.1 - 5 * nuC h ra 60, Bq.2 - 162 * nuC h ra 60) x0 h := ⟨G0.1, fun q eq => by
    have : q = rg := r_eq eg eq
    subst this
    show _ ≤ Bq.1 - 5 * nuC h ra 60 ∧ _ ≤ Bq.2 - 162 * nuC h ra 60
    omega⟩
  refine s_gamew hp (fun i hi => by show (kpE 92 i || (92 == 92 && decide (i ≤ 2407))) = true; rw [decide_eq_true hi]; exact Bool.or_true _) T r0 i1 i2 G (fun o3 ρ1 c1 X1 T1 f1 G1 B1 _ => ?_)
  have r1 := ex_r X1 r0 (by decide)
  have hp1 := ex_hp X1 hp
  have ea1 : hR o3.2 x0 14 = some ra := by rw [(fr_RI f1 r0 (by decide) (fun _ => sy_f rfl rfl (Or.inl rfl) (Or.inl rfl))).2.2]; exact ea
  have eg1 : hR o3.2 x0 37 = some rg := by rw [(fr_RI f1 r0 (by decide) (fun _ => sy_f rfl rfl (Or.inl rfl) (Or.inl rfl))).2.2]; exact eg
  have na : nuC o3.2 ra 60 = nuC h ra 60 := nuC_eq 60 (fun i _ => (fr_RI f1 qa (by decide) (fun _ => sy_f rfl rfl (Or.inl rfl) (Or.inl rfl))).2.2)
  have J1 := G1.2 rg eg1
  have J1' : o3.2.1.1 + 5 * nuC o3.2 rg 2408 ≤ Bq.1 - 5 * nuC h ra 60 ∧ o3.2.1.2 + 162 * nuC o3.2 rg 2408 ≤ Bq.2 - 162 * nuC h ra 60 := J1
  have Y1 : Pay 14 60 5 162 (Bq.1 - 5 * nuC o3.2 rg 2408, Bq.2 - 162 * nuC o3.2 rg 2408) x0 o3.2 := fun q eq => by
    have : q = ra := r_eq ea1 eq
    subst this
    rw [na]
    show _ ≤ Bq.1 - 5 * nuC o3.2 rg 2408 ∧ _ ≤ Bq.2 - 162 * nuC o3.2 rg 2408
    omega
  have z : ∀ k i, (k = 13 ∨ k = 14 ∨ (62 ≤ k ∧ k ≤ 72) ∨ k = 15) → mS saL k i = false → mS mpL k i = false → SY (g92 (gi x1 (hI h r' x1.toNatClampNeg))) no no k 3400 i = false := fun k i a0 a1 a2 => sy_f (nice_92.1 k i a0) a1 (Or.inr rfl) (Or.inl a2)
  have bd1 := bdy_x T r0 f1 (fun _ => sy_f rfl rfl (Or.inl rfl) (Or.inl rfl)) (fun _ => sy_f rfl rfl (Or.inl rfl) (Or.inl rfl)) (fun _ i => sy_f rfl rfl (Or.inl rfl) (Or.inl rfl)) (fun _ i => sy_f rfl rfl (Or.inl rfl) (Or.inl rfl)) (fun i _ => z _ _ (by omega) rfl rfl) (fun i => z _ _ (by omega) rfl rfl) (fun i => z _ _ (by omega) rfl rfl) (fun i => z _ _ (by omega) rfl rfl) bd Y1
  obtain ⟨kg, wg⟩ := gb_r T1 r1 B1
  unfold sX15_now_37
  have hs : ∀ k w i, SY kpE (is 3400) no k w i = true → cPm c1 k w i = true := fun k w i m => hp1 k w i (sy_sub (fun k i z => by rw [z]; rfl) (fun _ z => z) (fun _ z => z) m)
  refine s_mI (S := SY kpE (is 3400) no) T1 hs (keep_y hF (fun w k i m => sx_c _ k w i (by unfold SY kpE; rw [m, Bool.true_or, Bool.true_or])) (pmO_s (syB (sx_c _) is_s) rfl) wg (th_in _ T1) r1 kg bd1 (G1.1 _ _ B1)) (fun o4 ρ4 c4 X4 T4 f4 j4 bd4 => ?_)
  have eg4 : hR o4.2 x0 37 = some rg := by rw [(fr_RI f4 r1 (by decide) (fun _ => sy_f rfl rfl (Or.inl rfl) (Or.inl rfl))).2.2]; exact eg1
  have qg1 := ex_r X1 qg (by decide)
  have ng : nuC o4.2 rg 2408 = nuC o3.2 rg 2408 := nuC_eq 2408 (fun i _ => (fr_RI f4 qg1 (by decide) (fun _ => sy_f rfl rfl (Or.inl rfl) (Or.inl rfl))).2.2)
  have GG : ∀ i b, Gb x0 i b o4.2 → PZ zq b o4.2 := fun i b B => by
    have B0 := (gb_sy nice_kp rfl T1 r1 f4).mpr B
    obtain ⟨k1, k2⟩ := gb_r T1 r1 B0
    exact pz_sy nice_kp T1 k1 k2 (is_f (by omega)) f4 (G1.1 i b B0)
  have J4 : PayJ Bq x0 o4.2 := fun q p e1 e2 => by
    have y2 : p = rg := r_eq eg4 e2
    subst y2
    have J2 : o4.2.1.1 + 5 * nuC o4.2 q 60 ≤ Bq.1 - 5 * nuC o3.2 p 2408 ∧ o4.2.1.2 + 162 * nuC o4.2 q 60 ≤ Bq.2 - 162 * nuC o3.2 p 2408 := bd4.2.2 q e1
    rw [ng]
    omega
  exact s_some ⟨ρ4, c4, ex_t X1 X4, T4, j4, ⟨_, bd4⟩, ⟨(o4.2.1.1 + 5 * nuC o4.2 rg 2408, o4.2.1.2 + 162 * nuC o4.2 rg 2408), GG, fun q eq => by
    have : q = rg := r_eq eg4 eq
    subst this
    exact ⟨Nat.le_refl _, Nat.le_refl _⟩⟩, J4⟩
/-- moves of a board: they fit it -/
theorem s_legalZ {β : Type} {Q : β → Prop} {k : Hp → Option β} (hF : 700000 ≤ F) (hp : ∀ k w i, SY E wb wl k w i = true → cPm c k w i = true) (h1 : wb 2528 = true) (h3 : wl 2530 = true) (T : TH ρ c h) (r0 : ρ x0 = 16) (sq : SqOk x0 h) (k1 : ρ b = 13) (k3 : cw c b = w) (nb : w ≠ 2528) (P : PE b h) (el : hR h x0 30 = some l) (H : ∀ o, TH ρ c o → Fr ρ (cat c (SY noE (is 2528) (is 2530)) h) h o → SqOk x0 o → hR o x0 30 = some l → MvB x0 b l o → MvZ b l o → Sat (k o) Q) : Sat (cl (sX15_legal F h x0 b l) k) Q := by
  obtain ⟨l', el', ql'⟩ := thR T r0 (i := 30) (k2 := 14) rfl (by decide)
  have ql : ρ l = 14 := by rw [r_eq el' el]; exact ql'
  have wl' : cw c l = 2530 := th_id T r0 (w := 2530) el rfl (by decide)
  have hs : ∀ k w i, SY noE (is 2528) (is 2530) k w i = true → cPm c k w i = true := fun k w i m => hp k w i (sy_sub (fun _ _ z => noE_f z) (fun w z => by rw [is_e z]; exact h1) (fun w z => by rw [is_e z]; exact h3) m)
  obtain ⟨M, eM, rM⟩ := thR T k1 (i := 0) (k2 := 62) rfl (by decide)
  obtain ⟨lf, e1, q1⟩ := thR T ql (i := 1) (k2 := 66) rfl (by decide)
  obtain ⟨lt, e2, q2⟩ := thR T ql (i := 2) (k2 := 67) rfl (by decide)
  obtain ⟨lx, e5, q5⟩ := thR T ql (i := 5) (k2 := 70) rfl (by decide)
  obtain ⟨lk, e6, q6⟩ := thR T ql (i := 6) (k2 := 71) rfl (by decide)
  obtain ⟨lo, e7, q7⟩ := thR T ql (i := 7) (k2 := 72) rfl (by decide)
  have Z := legal_z (c := c) (x0 := x0) (lf := lf) (lt := lt) (lx := lx) (lk := lk) (lo := lo) (wl := 2530) hF (pmA_s (syA hp) rfl) (pmO_s (syB hp h1) rfl) (pmO_s (syM hp h3) rfl) k3 nb wl' T r0 k1 ql sq P ⟨e1, e2, e5, e6, e7⟩ eM
  refine s_cVfq T hs (s_weq2 (zX15_legal hF (pmA_s (syA (sx_c _)) rfl) (pmO_s (syB (sx_c _) is_s) rfl) (pmO_s (w := 2530) (syM (sx_c _) is_s) rfl) k3 wl' nb (th_in _ T) r0 k1 ql sq P)) (fun o T1 f mv => ?_)
  obtain ⟨mv, eo⟩ := mv
  have L : L2 l lf lt lx lk lo (hI h M) (hI h b 1) (hI h b 3).toInt o := by
    obtain ⟨o', eo', _, z⟩ := Z
    have : o' = o := by rw [eo'] at eo; exact Option.some.inj eo
    rw [← this]; exact z
  have zb : ∀ k i, (k = 13 ∨ (62 ≤ k ∧ k ≤ 65)) → SY noE (is 2528) (is 2530) k (cw c b) i = false := fun k i hk => by
    rcases hk with z | z
    · rw [z]; exact sy_f rfl rfl (Or.inr (by rw [k3]; exact is_f nb)) (Or.inl rfl)
    · have : k = 62 ∨ k = 63 ∨ k = 64 ∨ k = 65 := by omega
      rcases this with z | z | z | z <;> rw [z] <;> exact sy_f rfl rfl (Or.inr (by rw [k3]; exact is_f nb)) (Or.inl rfl)
  have fb : ∀ i, hI o b i = hI h b i ∧ hR o b i = hR h b i := fun i => by
    have := f.1 b i (by rw [k1]; decide) (by rw [k1]; exact zb 13 i (Or.inl rfl))
    exact ⟨this.1, this.2.2⟩
  have fM : ∀ i, hI o M i = hI h M i := fun i => (f.1 M i (by rw [rM]; decide) (by rw [rM]; show SY noE (is 2528) (is 2530) 62 (cw c M) i = false; rw [th_ih T k1 (by decide) eM rfl]; exact zb 62 i (Or.inr (by decide)))).1
  have fl : ∀ i, 1 ≤ i → i < 8 → hR o l i = hR h l i := fun i a1 a2 => by
    have : SY noE (is 2528) (is 2530) 14 (cw c l) i = false := by
      rcases (by omega : i = 1 ∨ i = 2 ∨ i = 3 ∨ i = 4 ∨ i = 5 ∨ i = 6 ∨ i = 7) with z | z | z | z | z | z | z <;> rw [z] <;> exact sy_f rfl rfl (Or.inl rfl) (Or.inl rfl)
    exact (f.1 l i (by rw [ql]; decide) (by rw [ql]; exact this)).2.2
  have mz : MvZ b l o := by
    intro M' lf' lt' lx' lk' lo' p0 p1 p2 p5 p6 p7
    rw [(fb 0).2] at p0
    rw [fl _ (by decide) (by decide)] at p1 p2 p5 p6 p7
    have y0 := r_eq eM p0
    have y1 := r_eq e1 p1
    have y2 := r_eq e2 p2
    have y5 := r_eq e5 p5
    have y6 := r_eq e6 p6
    have y7 := r_eq e7 p7
    subst y0; subst y1; subst y2; subst y5; subst y6; subst y7
    rw [(fb 1).1, (fb 3).1, show hI o M' = hI h M' from funext fM]
    exact L
  exact H o T1 f (sq_sy nice_0 T r0 f sq) (by rw [(fr_RI f r0 (by decide) (fun _ => sy_f rfl rfl (Or.inl rfl) (Or.inl rfl))).2.2]; exact el) mv mz
def goB : Nat → Bool := fun w => w == 2528 || (w == 2532 || w == 3400)
theorem moves_w (hF : 700000 ≤ F) (hp : ∀ k w i, SY E wb wl k w i = true → cPm c k w i = true) (h1 : wb 2528 = true) (h3 : wl 2530 = true) (T : TH ρ c h) (r0 : ρ x0 = 16) (bd : BdY zq Bq x0 h) (sq : SqOk x0 h) : Sat (sX15_moves F h x0 x1) (fun o => TH ρ c o.2 ∧ BdY zq Bq x0 o.2 ∧ SqOk x0 o.2 ∧ (o.1 = (-102 : Int32) ∨ (Rg 0 59 x1 ∧ ∃ b l, BK x0 x1.toNatClampNeg b o.2 ∧ PZ zq b o.2 ∧ hR o.2 x0 30 = some l ∧ MvB x0 b l o.2 ∧ MvZ b l o.2))) := by
  unfold sX15_moves
  refine s_dP0 (zX15_has hF T r0 (rg_top _)) (fun o1 eb1 e1 ii1 pp1 => ?_)
  rw [e1]
  refine s_br (fun _ => s_some ⟨T, bd, sq, Or.inl rfl⟩) (fun nz => ?_)
  have i1 := pp1 nz
  obtain ⟨b, BKb, PZb⟩ := bw_of T r0 bd eb1 nz
  obtain ⟨kb, wb'⟩ := bk_r T r0 BKb
  refine s_bk T r0 i1 BKb ?_
  obtain ⟨ls, els, qls⟩ := thR T r0 (i := 30) (k2 := 14) rfl (by decide)
  refine s_ref els ?_
  refine s_legalZ hF hp h1 h3 T r0 sq kb wb' (by decide) PZb.1 els (fun o4 T4 f4 sq4 el4 mv4 mz4 => ?_)
  refine s_ref el4 ?_
  exact s_some ⟨T4, bdy_sy nice_0 (fun _ => rfl) (fun _ => rfl) rfl rfl T r0 f4 bd, sq4, Or.inr ⟨i1, b, ls, bk_sy nice_0 (fun _ => rfl) T r0 f4 rfl BKb, pz_sy nice_0 T kb wb' rfl f4 PZb, el4, mv4, mz4⟩⟩
theorem go_w (hF : 700000 ≤ F) (hp : ∀ k w i, SY kpE goB (is 2530) k w i = true → cPm c k w i = true) (T : TH ρ c h) (r0 : ρ x0 = 16) (bd : BdY zq Bq x0 h) (sq : SqOk x0 h) : Sat (sX15_go F h x0 x1 x2) (MkI ρ c (-104) 59 (BdY zq Bq x0)) := by
  unfold sX15_go
  obtain ⟨o1, e1, T1, bd1, sq1, P1⟩ := moves_w (x1 := x1) hF hp rfl is_s T r0 bd sq
  refine s_val e1 ?_
  unfold sX15_go_5 sX15_go_25
  have bad : Sat (some ((-102 : Int32), o1.2)) (MkI ρ c (-104) 59 (BdY zq Bq x0)) := s_some ⟨ρ, c, ex_0, T1, rg_b rfl, bd1⟩
  refine s_br (fun _ => bad) (fun nz => ?_)
  obtain ⟨i1, b, l, BKb, PZb, el, mv, mz⟩ := P1.resolve_left nz
  obtain ⟨kb, wb'⟩ := bk_r T1 r0 BKb
  have ql := rr T1 (thR T1 r0 (i := 30) (k2 := 14) rfl (by decide)) el
  have wl1 : cw c l = 2530 := th_id T1 r0 (w := 2530) el rfl (by decide)
  refine s_br (fun _ => bad) (fun n2 => ?_)
  refine s_ref el ?_
  refine s_br (fun n3 => ?_) (fun _ => bad)
  refine s_dI0 (zX15_freePlace hF T1 r0) (fun o5 e5 e5' i5 => ?_)
  rw [e5']
  unfold sX15_go_32
  refine s_br (fun _ => s_some ⟨ρ, c, ex_0, T1, rg_b rfl, bd1⟩) (fun _ => ?_)
  refine s_bk T1 r0 i1 BKb ?_
  refine s_ref el ?_
  obtain ⟨t, et, qt⟩ := thR T1 r0 (i := 32) (k2 := 13) rfl (by decide)
  have wt : cw c t = 2532 := th_id T1 r0 (w := 2532) et rfl (by decide)
  refine s_ref et ?_
  have h3000 := thI T1 ql (k := 14) (i := 0) (lo := 0) (hi := 3000) rfl
  have lt := lt_i n3
  have ix : Rg 0 2999 x2 := ⟨nlt_i n2, by have := h3000.2; omega⟩
  have hs : ∀ k w i, SY noE (is 2532) no k w i = true → cPm c k w i = true := fun k w i m => hp k w i (sy_sub (fun _ _ z => noE_f z) (fun w z => by rw [is_e z]; rfl) (fun _ z => no_f z) m)
  refine s_cVfq T1 hs (s_weq2 (zX15_make hF (pmA_s (syA (sx_c _)) rfl) (pmO_s (w := 2532) (syB (sx_c _) is_s) rfl) wb' wl1 wt (th_in _ T1) r0 kb ql ix qt sq1 mv lt)) (fun o6 T6 f6 P6 => ?_)
  have W6 : PZ zq t o6 := ⟨P6.1, make_z T1 r0 kb ql qt (fun P1 P p1 p2 z => by
    have v1 : cw c P1 = 3400 := th_ih T1 kb (by decide) p1 wb'
    have v2 : cw c P = 2532 := th_ih T1 qt (by decide) p2 wt
    rw [z, v2] at v1
    exact absurd v1 (by decide)) PZb.2 mv mz ⟨ix.1, lt⟩ P6.2⟩
  have bd6 := bdy_sy nice_0 (fun _ => rfl) (fun _ => rfl) rfl rfl T1 r0 f6 bd1
  unfold sX15_go_58 sX15_go_66
  have et6 : hR o6 x0 32 = some t := by rw [(fr_RI f6 r0 (by decide) (fun _ => sy_f rfl rfl (Or.inl rfl) (Or.inl rfl))).2.2]; exact et
  refine s_ref et6 ?_
  obtain ⟨o7, e7, ρ7, c7, X7, T7, j7, bd7⟩ := keep_y (F := F) hF (fun w k i m => hp k w i (by unfold SY kpE; rw [m, Bool.true_or, Bool.true_or])) (pmO_s (syB (w := 3400) hp rfl) rfl) wt T6 r0 qt bd6 W6
  exact s_val e7 (s_some ⟨ρ7, c7, X7, T7, j7, bd7⟩)
end
end
