/-! games of the reference: boards that can be written, paid for ahead -/
section
variable {zq : Nat} {ρ : Nat → Nat} {c : Cm} {h o : Hp} {E : Nat → Nat → Bool} {wb wl : Nat → Bool} {x0 d b l w i : Nat} {Bq : Nat × Nat}
theorem pz_fr {S : Nat → Nat → Nat → Bool} (T : TH ρ c h) (rb : ρ b = 13) (f : Fr ρ (cat c S h) h o) (s0 : ∀ i, i < 6 → S 13 (cw c b) i = false) (s4 : ∀ i, S 62 (cw c b) i = false) (s5 : ∀ i, S 63 (cw c b) i = false) (s6 : ∀ i, S 64 (cw c b) i = false) (P : PZ zq b h) : PZ zq b o := ⟨pe_fr T rb f (s0 0 (by decide)) (s0 3 (by decide)) (s0 4 (by decide)) s4 s5 P.1, wr_fr T rb f s0 s4 s5 s6 P.2⟩
theorem pz_sy (n : nice E) (T : TH ρ c h) (rb : ρ b = 13) (ew : cw c b = w) (hb : wb w = false) (f : Fr ρ (cat c (SY E wb wl) h) h o) (P : PZ zq b h) : PZ zq b o := by
  have z : ∀ k i, (k = 13 ∨ k = 14 ∨ (62 ≤ k ∧ k ≤ 72) ∨ k = 15) → mS saL k i = false → mS mpL k i = false → SY E wb wl k (cw c b) i = false := fun k i a0 a1 a2 => sy_f (n.1 k i a0) a1 (Or.inr (by rw [ew]; exact hb)) (Or.inl a2)
  exact pz_fr T rb f (fun i _ => z _ _ (by omega) rfl rfl) (fun i => z _ _ (by omega) rfl rfl) (fun i => z _ _ (by omega) rfl rfl) (fun i => z _ _ (by omega) rfl rfl) P
theorem pay_k0 {f n p q k : Nat} (T : TH ρ c h) (r0 : ρ x0 = k) {k2 : Nat} (hk : rfK k f = k2) (h2 : k2 ≠ 0) (e1 : o.1 = h.1) (R : hR o x0 f = hR h x0 f) (Q : ∀ r i, ρ r = k2 → hR o r i = hR h r i) (P : Pay f n p q Bq x0 h) : Pay f n p q Bq x0 o := fun r er => by
  rw [R] at er
  have rr' : ρ r = k2 := rr T (thR T r0 (i := f) (k2 := k2) hk h2) er
  rw [e1, nuC_eq n (fun i _ => Q r i rr')]
  exact P r er
/-- games' boards: all can be written, all are paid for -/
def GaY (zq : Nat) (Bq : Nat × Nat) (x0 : Nat) (h : Hp) : Prop := (∀ i b, Gb x0 i b h → PZ zq b h) ∧ Pay 37 2408 5 162 Bq x0 h
theorem gay_p (G : GaY zq Bq x0 h) : GaP x0 h := fun i b B => (G.1 i b B).1
theorem gaw_sy (n : nice E) (n92 : ∀ i, E 92 i = false) (T : TH ρ c h) (r0 : ρ x0 = 16) (f : Fr ρ (cat c (SY E wb wl) h) h o) (hb : ∀ j, wb (5000 + j) = false ∨ ∀ b, Gb x0 j b h → PZ zq b o) (G : GaY zq Bq x0 h) (T' : TH ρ c o := by assumption) : GaY zq Bq x0 o := ⟨fun i b B => by
  have B0 := (gb_sy n (n92 i) T r0 f).mpr B
  rcases hb i with q | q
  · obtain ⟨k1, k2⟩ := gb_r T r0 B0
    exact pz_sy n T k1 k2 q f (G.1 i b B0)
  · exact q b B0, pay_k0 T r0 (k2 := 92) rfl (by decide) (T'.1.1.trans T.1.1.symm) (fr_RI f r0 (by decide) (fun _ => sy_f n.2.2.2.2.1 rfl (Or.inl rfl) (Or.inl rfl))).2.2 (fun r i qr => (fr_RI f qr (by decide) (fun _ => sy_f (n92 i) rfl (Or.inl rfl) (Or.inl rfl))).2.2) G.2⟩
end
section
variable {zq : Nat} {ρ : Nat → Nat} {c : Cm} {h o : Hp} {E : Nat → Nat → Bool} {wb wl : Nat → Bool} {x0 d b l w i F : Nat} {Bq : Nat × Nat} {x1 x2 : Int32}
/-- the board of a game at a move: made where it is wanting -/
theorem gameBw (h9 : ∀ w, cPm c 92 w (gi x1 x2) = true) (T : TH ρ c h) (r0 : ρ x0 = 16) (i1 : Rg 0 7 x1) (i2 : Rg 0 300 x2) (G : GaY zq Bq x0 h) : Sat (sX15_gameBoard h x0 x1 x2) (fun o => ∃ ρ' c', Ext ρ c ρ' c' ∧ TH ρ' c' o.2 ∧ GaY zq Bq x0 o.2 ∧ Gb x0 (gi x1 x2) o.1 o.2 ∧ ∀ j b, Gb x0 j b h → Gb x0 j b o.2) := by
  unfold sX15_gameBoard
  refine s_q (fun v ev => ?_)
  have iv : Rg 0 2407 v := by rw [ev]; exact gi_r i1 i2
  have eg : gi x1 x2 = v.toNatClampNeg := by rw [ev]; rfl
  rw [eg] at h9 ⊢
  obtain ⟨r, er, qr⟩ := thR T r0 (i := 37) (k2 := 92) rfl (by decide)
  refine s_ref er ?_
  refine s_gd (by rw [thN T qr (k := 92) (n := 2408) rfl (by decide)]; exact rg_inB iv (by decide)) ?_
  have t1 : h.1 = c.1 := T.1.1
  cases q : hR h r v.toNatClampNeg with
  | none =>
    show Sat (cl (hR h x0 37) _) _
    refine s_ref er ?_
    refine s_q (fun a ea => ?_)
    refine s_q (fun h8 e8 => ?_)
    subst ea
    subst e8
    unfold sX15_gameBoard_25 sX15_gameBoard_29 sX15_gameBoard_30
    obtain ⟨o1, eo1, ρ1, c1, X1, T1, a1, w1, O1⟩ := newBoard T (5000 + v.toNatClampNeg)
    refine s_val eo1 ?_
    have ob : o1 = boH h := by rw [boH_v] at eo1; exact (Option.some.inj eo1).symm
    have z3 : hI o1 (hS h) 3 = 0 := by rw [ob]; exact boH_I h 0 3 (by decide)
    have r01 := ex_r X1 r0 (by decide)
    have qr1 := ex_r X1 qr (by decide)
    have lt : ∀ a, ρ a ≠ 0 → a < h.1.1 := fun a ha => by rw [t1]; exact T.2.1.2.2.1 a ha
    have lt0 : x0 < h.1.1 := lt x0 (by rw [r0]; decide)
    have ltr : r < h.1.1 := lt r (by rw [qr]; decide)
    have er1 : hR o1 x0 37 = some r := by rw [(O1 x0 lt0).2.2.1]; exact er
    refine s_gd (by rw [thN T1 qr1 (k := 92) (n := 2408) rfl (by decide)]; exact rg_inB iv (by decide)) ?_
    refine s_q (fun h2 e2 => ?_)
    have T2 : TH ρ1 c1 h2 := by
      rw [e2]
      exact th_wRe T1 qr1 (k2 := 13) rfl (by decide) a1 (by decide) (by decide) rfl rfl rfl w1 (ex_p X1 (h9 _))
    have er2 : hR h2 x0 37 = some r := by rw [e2, r_R, if_neg (ne_r r01 qr1 (by decide))]; exact er1
    refine s_ref er2 ?_
    refine s_gd (by rw [thN T2 qr1 (k := 92) (n := 2408) rfl (by decide)]; exact rg_inB iv (by decide)) ?_
    have ee : hR h2 r v.toNatClampNeg = some (hS h) := by rw [e2, r_R, if_pos ⟨rfl, rfl⟩]
    have kp : ∀ j b, Gb x0 j b h → Gb x0 j b h2 := fun j b ⟨r', g1, g2⟩ => by
      have : r' = r := r_eq er g1
      subst this
      have z : j ≠ v.toNatClampNeg := fun z => by rw [z, q] at g2; exact absurd g2 (by simp)
      exact ⟨r', er2, by rw [e2, r_R, if_neg (fun y => z y.2), (O1 r' ltr).2.2.1]; exact g2⟩
    refine s_ref ee (s_some ⟨ρ1, c1, X1, T2, ⟨fun j b B => ?_, fun r' p1 => ?_⟩, ⟨r, er2, ee⟩, kp⟩)
    rotate_left
    · have y1 : r' = r := r_eq er2 p1
      subst y1
      have l60 := clamp_i iv.1
      have i59 := iv.2
      have cc := nuC_set q ee (fun i hi => by rw [e2, r_R, if_neg (fun y => hi y.2), (O1 r' ltr).2.2.1]) 2408 (by omega)
      have pb := G.2 r' er
      have h21 : h2.1 = (h.1.1 + 5, h.1.2 + 162) := by rw [e2]; show o1.1 = _; rw [ob]; exact boH_1 h
      rw [h21]
      show h.1.1 + 5 + 5 * nuC h2 r' 2408 ≤ Bq.1 ∧ h.1.2 + 162 + 162 * nuC h2 r' 2408 ≤ Bq.2
      omega
    obtain ⟨r', g1, g2⟩ := B
    have : r' = r := r_eq er2 g1
    subst this
    by_cases z : j = v.toNatClampNeg
    · rw [z, ee] at g2
      rw [← Option.some.inj g2]
      have hS0 : hS h = h.1.1 := rfl
      have a1' : ¬ hS h = r' := fun w => by rw [w] at a1; rw [a1] at qr1; exact absurd qr1 (by decide)
      have nn : ∀ k i, k < 5 → hI h2 (h.1.1 + k) i = 0 := fun k i hk => by rw [e2]; show hI o1 (h.1.1 + k) i = 0; rw [ob]; exact boH_I h k i hk
      have nRR : ∀ i, hR h2 (hS h) i = hR (boH h) h.1.1 i := fun i => by rw [e2, r_R, if_neg (fun w => a1' w.1), ob, hS0]
      have n3 : hI h2 (hS h) 3 = 0 := by rw [e2]; exact z3
      refine ⟨pe_0 (by rw [n3]; rfl), fun M H m1 m2 => ?_, ?_, by rw [n3]; decide, fun n => by rw [n3] at n; exact absurd n (by decide)⟩
      · rw [nRR, boH_R] at m1 m2
        have y1 : h.1.1 + 1 = M := Option.some.inj m1
        have y2 : h.1.1 + 3 = H := Option.some.inj m2
        subst y1; subst y2
        exact tot_0 (fun i => nn 1 i (by decide)) (fun i => nn 3 i (by decide))
      · have : hJ h2 (hS h) 2 = 0 := by rw [e2]; show hJ o1 (hS h) 2 = 0; rw [ob]; exact boH_J h 0 2 (by decide)
        rw [this, crt_0]
        decide
    · rw [e2, r_R, if_neg (fun y => z y.2), (O1 r' ltr).2.2.1] at g2
      have P := G.1 j b ⟨r', er, g2⟩
      have rb := thRn T qr (k2 := 13) rfl (by decide) g2
      have kI : ∀ {x k : Nat}, ρ x = k → k ≠ 0 → ∀ i, hI h2 x i = hI h x i := fun {x k} hx h0 i => by
        rw [e2]
        show hI o1 x i = _
        exact (O1 x (lt x (by rw [hx]; exact h0))).1 i
      have ltb := lt b (by rw [rb]; decide)
      refine pz_eq (fun i => ?_) ?_ (kI rb (by decide) 1) (kI rb (by decide) 3) (fun M m => kI (rr T (thR T rb (i := 0) (k2 := 62) rfl (by decide)) m) (by decide)) (fun M m => kI (rr T (thR T rb (i := 4) (k2 := 63) rfl (by decide)) m) (by decide)) (fun M m => kI (rr T (thR T rb (i := 5) (k2 := 64) rfl (by decide)) m) (by decide)) P
      · rw [e2, r_R, if_neg (ne_r (ex_r X1 rb (by decide)) qr1 (by decide)), (O1 b ltb).2.2.1]
      · rw [e2]
        show hJ o1 b 2 = _
        exact (O1 b ltb).2.1 2
  | some r4 =>
    show Sat (sX15_gameBoard_30 h x0 v) _
    unfold sX15_gameBoard_30
    refine s_ref er ?_
    refine s_gd (by rw [thN T qr (k := 92) (n := 2408) rfl (by decide)]; exact rg_inB iv (by decide)) ?_
    exact s_ref q (s_some ⟨ρ, c, ex_0, T, G, ⟨r, er, q⟩, fun _ _ B => B⟩)
theorem s_gamew {β : Type} {Q : β → Prop} {k : Nat × Hp → Option β} (hp : ∀ k w i, SY E wb wl k w i = true → cPm c k w i = true) (hi : ∀ i, i ≤ 2407 → E 92 i = true) (T : TH ρ c h) (r0 : ρ x0 = 16) (i1 : Rg 0 7 x1) (i2 : Rg 0 300 x2) (G : GaY zq Bq x0 h) (H : ∀ o ρ1 c1, Ext ρ c ρ1 c1 → TH ρ1 c1 o.2 → Fr ρ (cat c (SY (g92 (gi x1 x2)) no no) h) h o.2 → GaY zq Bq x0 o.2 → Gb x0 (gi x1 x2) o.1 o.2 → (∀ j b, Gb x0 j b h → Gb x0 j b o.2) → Sat (k o) Q) : Sat (cl (sX15_gameBoard h x0 x1 x2) k) Q :=
  s_mk (g := fun (o : Nat × Hp) => o.2) (P := fun (o : Nat × Hp) (_ : Nat → Nat) (_ : Cm) => GaY zq Bq x0 o.2 ∧ Gb x0 (gi x1 x2) o.1 o.2 ∧ ∀ j b, Gb x0 j b h → Gb x0 j b o.2) T (fun k w i m => hp k w i (sy_sub (fun k i z => by
      unfold g92 at z
      rw [Bool.and_eq_true, beq_iff_eq] at z
      rw [z.1]; exact hi i (by rw [beq_iff_eq.mp z.2]; exact rg_clamp (gi_r i1 i2) (by decide))) (fun _ z => no_f z) (fun _ z => no_f z) m))
    (gameBw (syE (sx_c (SY (g92 (gi x1 x2)) no no)) (by unfold g92; rw [beq_self_eq_true, beq_self_eq_true]; rfl)) (th_in _ T) r0 i1 i2 G) (fun _ _ _ _ _ p => p) (fun o ρ1 c1 X T1 f p => H o ρ1 c1 X T1 f p.1 p.2.1 p.2.2)
end
