/-! places of the reference: boards that can be written, paid for ahead -/
section
variable {zq : Nat} {ρ : Nat → Nat} {c : Cm} {h o g : Hp} {x0 x1 b : Nat} {Bq : Nat × Nat}
theorem wr_eq (kR : ∀ i, hR o b i = hR h b i) (kJ : hJ o b 2 = hJ h b 2) (k1 : hI o b 1 = hI h b 1) (k3 : hI o b 3 = hI h b 3) (kM : ∀ M, hR h b 0 = some M → ∀ i, hI o M i = hI h M i) (kP : ∀ M, hR h b 4 = some M → ∀ i, hI o M i = hI h M i) (kH : ∀ M, hR h b 5 = some M → ∀ i, hI o M i = hI h M i) (W : WrE zq b h) : WrE zq b o := by
  obtain ⟨p1, p2, p3, p4⟩ := W
  refine ⟨fun M H e1 e2 => ?_, by rw [kJ]; exact p2, by rw [k3]; exact p3, fun n M P e1 e2 => ?_⟩
  · rw [kR] at e1 e2
    rw [tot_k (kM M e1) (kH H e2)]
    exact p1 M H e1 e2
  · rw [kR] at e1 e2
    rw [k3] at n
    rw [kP P e2, kM M e1, k1]
    exact p4 n M P e1 e2
theorem crt_0 : ∀ n, cRt (0 : Int64) n = 0 := by
  intro n
  induction n with
  | zero => rfl
  | succ n ih => rw [cRt, ih, bj_zero]; rfl
/-- a board, as kept boards are -/
def PZ (zq : Nat) (b : Nat) (h : Hp) : Prop := PE b h ∧ WrE zq b h
/-- kept places -/
def BdY (zq : Nat) (Bq : Nat × Nat) (x0 : Nat) (h : Hp) : Prop := (∀ r s, hR h x0 14 = some r → hR h x0 15 = some s → ∀ i, i < 60 → ¬ hI h s i ≤ 0 → ∃ b, hR h r i = some b ∧ PZ zq b h) ∧ (∀ r, hR h x0 14 = some r → ∀ i j a b, ¬ i = j → hR h r i = some a → hR h r j = some b → ∀ k, (k = 0 ∨ k = 4 ∨ k = 5) → ∀ M M', hR h a k = some M → hR h b k = some M' → ¬ M = M') ∧ Pay 14 60 5 162 Bq x0 h
theorem bdy_p (P : BdY zq Bq x0 h) : BdP x0 h := ⟨fun r s e1 e2 i hi hs => by
  obtain ⟨b, eb, pb⟩ := P.1 r s e1 e2 i hi hs
  exact ⟨b, eb, pb.1⟩, fun r e1 i j a b ne ea eb k hk M M' m1 m2 => P.2.1 r e1 i j a b ne ea eb k (by rcases hk with z | z; exact Or.inl z; exact Or.inr (Or.inl z)) M M' m1 m2⟩
theorem pz_eq (kR : ∀ i, hR o b i = hR h b i) (kJ : hJ o b 2 = hJ h b 2) (k1 : hI o b 1 = hI h b 1) (k3 : hI o b 3 = hI h b 3) (kM : ∀ M, hR h b 0 = some M → ∀ i, hI o M i = hI h M i) (kP : ∀ M, hR h b 4 = some M → ∀ i, hI o M i = hI h M i) (kH : ∀ M, hR h b 5 = some M → ∀ i, hI o M i = hI h M i) (W : PZ zq b h) : PZ zq b o := by
  refine ⟨fun M P e1 e2 k k1' k2 => ?_, wr_eq kR kJ k1 k3 kM kP kH W.2⟩
  rw [kR] at e1 e2
  rw [k3] at k2
  rw [kP P e2, kM M e1]
  exact W.1 M P e1 e2 k k1' k2
theorem tot_0 {M H : Nat} (kM : ∀ i, hI h M i = 0) (kH : ∀ i, hI h H i = 0) : tot M H h ≤ 96 := by
  have a : ∀ n, mC (hI h M) n = 0 := by
    intro n
    induction n with
    | zero => rfl
    | succ n ih => rw [mC, ih, kM, if_neg (by decide)]; rfl
  have b : ∀ d n, sH h H d n = 0 := by
    intro d n
    induction n with
    | zero => rfl
    | succ n ih => rw [sH, ih, kH]; rfl
  unfold tot
  rw [a, b, b]
  decide
end
theorem kpy_35 {ρ : Nat → Nat} {c : Cm} {F zq : Nat} {Bq : Nat × Nat} {w_x1 : Nat} (hF : 700000 ≤ F) (hA : pmA c [(84, 999), (85, 999), (16, 16)]) (hi : pmO c 3400 [(62, 999), (63, 999), (64, 999), (65, 999), (13, 1), (13, 2), (13, 3), (13, 7)]) {h : Hp} {x0 x1 r b3 : Nat} {x2 : Int32} (o_x1 : cw c x1 = w_x1) (T : TH ρ c h) (r_x0 : ρ x0 = 16) (r_x1 : ρ x1 = 13) (i2 : Rg 0 59 x2) (er : hR h x0 14 = some r) (eb : hR h r x2.toNatClampNeg = some b3) (bd : BdY zq Bq x0 h) (pe : PZ zq x1 h) : Sat (sX15_keep_35 F h x0 x1 x2) (fun o => TH ρ c o.2 ∧ Rg (-104) 59 o.1 ∧ BdY zq Bq x0 o.2) := by
  have qr := rr T (thR T r_x0 (i := 14) (k2 := 84) rfl (by decide)) er
  have rb := thRn T qr (k2 := 13) rfl (by decide) eb
  have wb : cw c b3 = 3400 := th_id T qr eb rfl (by decide)
  unfold sX15_keep_35 sX15_keep_45
  refine s_ref er ?_
  refine s_gd (by rw [thN T qr (k := 84) (n := 60) rfl (by decide)]; exact rg_inB i2 (by decide)) ?_
  refine s_ref eb ?_
  refine s_dd (zX12_copy (F := F) hF hi wb o_x1 T rb r_x1) (fun o4 e4 T4 => ?_)
  refine s_q (fun h5 e5 => ?_)
  have T5 : TH ρ c h5 := by rw [e5]; exact th_wI T4 r_x0 (k := 16) (lo := -2147483648) (hi := 2147483647) rfl (rg_top _) (by decide) (by decide) (pm_a hA rfl)
  obtain ⟨s, es, qs⟩ := thR T5 r_x0 (i := 15) (k2 := 85) rfl (by decide)
  refine s_ref es ?_
  refine s_gd (by rw [thN T5 qs (k := 85) (n := 60) rfl (by decide)]; exact rg_inB i2 (by decide)) ?_
  refine s_q (fun h6 e6 => ?_)
  have T6 : TH ρ c h6 := by rw [e6]; exact th_wI T5 qs (k := 85) (lo := -2147483648) (hi := 2147483647) rfl (rg_top _) (by decide) (by decide) (pm_a hA rfl)
  refine s_some ⟨T6, rg_m i2 (by decide), ?_⟩
  obtain ⟨Mb, eMb, rMb⟩ := thR T r_x1 (i := 0) (k2 := 62) rfl (by decide)
  obtain ⟨Mt, eMt, rMt⟩ := thR T rb (i := 0) (k2 := 62) rfl (by decide)
  obtain ⟨Pb, ePb, rPb⟩ := thR T r_x1 (i := 4) (k2 := 63) rfl (by decide)
  obtain ⟨Pt, ePt, rPt⟩ := thR T rb (i := 4) (k2 := 63) rfl (by decide)
  obtain ⟨Hb, eHb, rHb⟩ := thR T r_x1 (i := 5) (k2 := 64) rfl (by decide)
  obtain ⟨Ht, eHt, rHt⟩ := thR T rb (i := 5) (k2 := 64) rfl (by decide)
  obtain ⟨C, eC, rC⟩ := thR T rb (i := 6) (k2 := 65) rfl (by decide)
  obtain ⟨f1, fM, fH, f3, f4, f5, f6, fo, fa⟩ := cpy_post rb r_x1 rMb rMt rPb rPt rHb rHt rC eMb eMt ePb ePt eHb eHt eC e4
  have pe4 : PZ zq b3 o4 := ⟨pe_copy T rb r_x1 pe.1 e4, wr_copy T rb r_x1 pe.2 e4⟩
  have jj := (cpy_j e4).2.1
  have kJ : ∀ a i, hJ h6 a i = hJ o4 a i := fun a i => by rw [e6, e5]; rfl
  have kR : ∀ a i, hR h6 a i = hR h a i := fun a i => by rw [e6, e5]; exact f1 a i
  have kI : ∀ {a k : Nat}, ρ a = k → k ≠ 16 → k ≠ 85 → ∀ i, hI h6 a i = hI o4 a i := fun ha k1 k2 i => by
    rw [e6, r_I, if_neg (fun q => k2 (by rw [← ha, q.1, qs])), e5, r_I, if_neg (fun q => k1 (by rw [← ha, q.1, r_x0]))]
  refine ⟨fun r' s' p1 p2 i hi hs => ?_, fun r' p1 i j a b ne ea eb' k hk M M' m1 m2 => ?_, fun r' p1 => ?_⟩
  · rw [kR] at p1 p2
    have y1 := r_eq er p1
    subst y1
    have es0 : hR h x0 15 = some s := by
      have : hR h5 x0 15 = some s := es
      rw [e5] at this
      have this : hR o4 x0 15 = some s := this
      rw [f1] at this
      exact this
    have y2 := r_eq es0 p2
    subst y2
    by_cases q : i = x2.toNatClampNeg
    · refine ⟨b3, by rw [kR, q]; exact eb, pz_eq (h := o4) (fun i => by rw [kR, f1]) (kJ _ _) (kI rb (by decide) (by decide) _) (kI rb (by decide) (by decide) _) (fun M m => ?_) (fun M m => ?_) (fun M m => ?_) pe4⟩
      · rw [f1] at m
        exact kI (rr T (thR T rb (i := 0) (k2 := 62) rfl (by decide)) m) (by decide) (by decide)
      · rw [f1] at m
        exact kI (rr T (thR T rb (i := 4) (k2 := 63) rfl (by decide)) m) (by decide) (by decide)
      · rw [f1] at m
        exact kI (rr T (thR T rb (i := 5) (k2 := 64) rfl (by decide)) m) (by decide) (by decide)
    · have hs0 : ¬ hI h s' i ≤ 0 := by
        have : hI h6 s' i = hI h s' i := by
          rw [e6, r_I, if_neg (fun w => q w.2), e5, r_I, if_neg (fun w => absurd (w.1 ▸ qs) (by rw [r_x0]; decide)), fo s' i (by rw [qs]; decide)]
        rw [this] at hs
        exact hs
      obtain ⟨b, e1, pb⟩ := bd.1 r' s' er es0 i hi hs0
      have rb' := thRn T qr (k2 := 13) rfl (by decide) e1
      have d : ∀ {x y k1 k2 : Nat}, ρ x = k1 → ρ y = k2 → k1 ≠ k2 → ¬ x = y := fun h1 h2 h3 w => h3 (by rw [← h1, ← h2, w])
      obtain ⟨Mo, eMo, rMo⟩ := thR T rb' (i := 0) (k2 := 62) rfl (by decide)
      have nb : ¬ b = b3 := fun w => by
        have nM : ¬ Mo = Mt := bd.2.1 r' er i _ b b3 q e1 eb 0 (Or.inl rfl) Mo Mt eMo eMt
        rw [w] at eMo
        exact nM (r_eq eMt eMo)
      have kb : ∀ i, hI h6 b i = hI h b i := fun i => by rw [kI rb' (by decide) (by decide), fa b i nb (d rb' rMt (by decide)) (d rb' rPt (by decide)) (d rb' rHt (by decide)) (d rb' rC (by decide))]
      refine ⟨b, by rw [kR]; exact e1, pz_eq (h := h) (fun i => kR _ _) (by rw [kJ, jj b 2 nb]) (kb 1) (kb 3) (fun M m i' => ?_) (fun M m i' => ?_) (fun M m i' => ?_) pb⟩
      · have rM := rr T (thR T rb' (i := 0) (k2 := 62) rfl (by decide)) m
        have nM : ¬ M = Mt := bd.2.1 r' er i _ b b3 q e1 eb 0 (Or.inl rfl) M Mt m eMt
        rw [kI rM (by decide) (by decide), fa M _ (d rM rb (by decide)) nM (d rM rPt (by decide)) (d rM rHt (by decide)) (d rM rC (by decide))]
      · have rP := rr T (thR T rb' (i := 4) (k2 := 63) rfl (by decide)) m
        have nP : ¬ M = Pt := bd.2.1 r' er i _ b b3 q e1 eb 4 (Or.inr (Or.inl rfl)) M Pt m ePt
        rw [kI rP (by decide) (by decide), fa M _ (d rP rb (by decide)) (d rP rMt (by decide)) nP (d rP rHt (by decide)) (d rP rC (by decide))]
      · have rH := rr T (thR T rb' (i := 5) (k2 := 64) rfl (by decide)) m
        have nH : ¬ M = Ht := bd.2.1 r' er i _ b b3 q e1 eb 5 (Or.inr (Or.inr rfl)) M Ht m eHt
        rw [kI rH (by decide) (by decide), fa M _ (d rH rb (by decide)) (d rH rMt (by decide)) (d rH rPt (by decide)) nH (d rH rC (by decide))]
  · rw [kR] at p1 ea eb' m1 m2
    exact bd.2.1 r' p1 i j a b ne ea eb' k hk M M' m1 m2
  · rw [kR] at p1
    rw [T6.1.1.trans T.1.1.symm, nuC_eq 60 (fun i _ => kR r' i)]
    exact bd.2.2 r' p1
theorem keep_y {ρ : Nat → Nat} {c : Cm} {F zq : Nat} {Bq : Nat × Nat} {w_x1 : Nat} (hF : 700000 ≤ F) (hA : pmA c [(84, 999), (85, 999), (16, 16)]) (hi_3400 : pmO c 3400 [(62, 999), (63, 999), (64, 999), (65, 999), (13, 1), (13, 2), (13, 3), (13, 7)]) {h : Hp} {x0 x1 : Nat} (o_x1 : cw c x1 = w_x1) (T : TH ρ c h) (r_x0 : ρ x0 = 16) (r_x1 : ρ x1 = 13) (bd : BdY zq Bq x0 h) (pe : PZ zq x1 h) : Sat (sX15_keep F h x0 x1) (fun o => ∃ ρ' c', Ext ρ c ρ' c' ∧ TH ρ' c' o.2 ∧ Rg (-104) 59 o.1 ∧ BdY zq Bq x0 o.2) := by
  unfold sX15_keep sX15_keep_4
  refine s_dI0 (zX15_freePlace hF T r_x0) (fun o e0 e1 i1 => ?_)
  obtain ⟨p, g⟩ := o
  have e1 : g = h := e1
  subst e1
  refine s_br (fun c1 => s_some ⟨ρ, c, ex_0, T, rg_b rfl, bd⟩) (fun c1 => ?_)
  have i2 : Rg 0 59 p := rg_nlo c1 i1 (rg_b rfl)
  obtain ⟨r, er, qr⟩ := thR T r_x0 (i := 14) (k2 := 84) rfl (by decide)
  refine s_ref er ?_
  refine s_gd (by rw [thN T qr (k := 84) (n := 60) rfl (by decide)]; exact rg_inB i2 (by decide)) ?_
  have t1 : g.1 = c.1 := T.1.1
  show Sat (onr (hR g r p.toNatClampNeg) _ _) _
  cases q : hR g r p.toNatClampNeg with
  | none =>
    show Sat (cl (hR g x0 14) _) _
    refine s_ref er ?_
    refine s_q (fun a ea => ?_)
    refine s_q (fun h8 e8 => ?_)
    subst ea
    subst e8
    unfold sX15_keep_30 sX15_keep_34
    refine s_dd (newBoard T 3400) (fun o1 eo1 ho => ?_)
    obtain ⟨ρ1, c1', X1, T1, a1, w1, O1⟩ := ho
    have eo : o1 = boH g := by rw [boH_v] at eo1; exact (Option.some.inj eo1).symm
    have r01 := ex_r X1 r_x0 (by decide)
    have r11 := ex_r X1 r_x1 (by decide)
    have qr1 := ex_r X1 qr (by decide)
    have lt : ∀ x, ρ x ≠ 0 → x < g.1.1 := fun x hx => by rw [t1]; exact T.2.1.2.2.1 x hx
    have rl : ∀ x i y, ρ x ≠ 0 → hR g x i = some y → y < g.1.1 := fun x i y hx hy => by rw [t1]; exact T.2.1.2.2.2 x i y hx hy
    have er1 : hR o1 x0 14 = some r := by rw [(O1 x0 (lt x0 (by rw [r_x0]; decide))).2.2.1]; exact er
    refine s_gd (by rw [thN T1 qr1 (k := 84) (n := 60) rfl (by decide)]; exact rg_inB i2 (by decide)) ?_
    refine s_q (fun h2 e2 => ?_)
    have T2 : TH ρ1 c1' h2 := by
      rw [e2]
      exact th_wRe T1 qr1 (k2 := 13) rfl (by decide) a1 (by decide) (by decide) rfl rfl rfl w1 (ex_p X1 (pm_a hA rfl))
    have er2 : hR h2 x0 14 = some r := by rw [e2, r_R, if_neg (ne_r r01 qr1 (by decide))]; exact er1
    have ee : hR h2 r p.toNatClampNeg = some (hS g) := by rw [e2, r_R, if_pos ⟨rfl, rfl⟩]
    have hS0 : hS g = g.1.1 := rfl
    -- what stood before
    have kR : ∀ {x k : Nat}, ρ x = k → k ≠ 0 → k ≠ 84 → ∀ i, hR h2 x i = hR g x i := fun {x k} hx h0 h84 i => by
      rw [e2, r_R, if_neg (fun w => h84 (by rw [← hx, w.1, qr])), (O1 x (lt x (by rw [hx]; exact h0))).2.2.1]
    have kI : ∀ {x k : Nat}, ρ x = k → k ≠ 0 → ∀ i, hI h2 x i = hI g x i := fun {x k} hx h0 i => by
      rw [e2]
      show hI o1 x i = _
      exact (O1 x (lt x (by rw [hx]; exact h0))).1 i
    have kr : ∀ i, ¬ i = p.toNatClampNeg → hR h2 r i = hR g r i := fun i hi => by
      rw [e2, r_R, if_neg (fun w => hi w.2), (O1 r (lt r (by rw [qr]; decide))).2.2.1]
    have kJ : ∀ {x k : Nat}, ρ x = k → k ≠ 0 → ∀ i, hJ h2 x i = hJ g x i := fun {x k} hx h0 i => by
      rw [e2]
      show hJ o1 x i = _
      exact (O1 x (lt x (by rw [hx]; exact h0))).2.1 i
    have pek : ∀ b, ρ b = 13 → PZ zq b g → PZ zq b h2 := fun b hb pb => pz_eq (fun i => kR hb (by decide) (by decide) i) (kJ hb (by decide) 2) (kI hb (by decide) 1) (kI hb (by decide) 3) (fun M m => kI (rr T (thR T hb (i := 0) (k2 := 62) rfl (by decide)) m) (by decide)) (fun M m => kI (rr T (thR T hb (i := 4) (k2 := 63) rfl (by decide)) m) (by decide)) (fun M m => kI (rr T (thR T hb (i := 5) (k2 := 64) rfl (by decide)) m) (by decide)) pb
    have nI : ∀ i, hI h2 (hS g) i = 0 := fun i => by rw [e2]; show hI o1 (hS g) i = 0; rw [eo]; exact boH_I g 0 i (by decide)
    have nR : ∀ i M, hR h2 (hS g) i = some M → g.1.1 ≤ M := fun i M hM => by
      rw [e2, r_R, if_neg (fun w => absurd (w.1 ▸ a1) (by rw [qr1]; decide)), eo, hS0, boH_R] at hM
      split at hM
      · have := Option.some.inj hM; omega
      · split at hM
        · have := Option.some.inj hM; omega
        · split at hM
          · have := Option.some.inj hM; omega
          · split at hM
            · have := Option.some.inj hM; omega
            · exact absurd hM (by simp)
    have bd2 : BdY zq Bq x0 h2 := by
      refine ⟨fun r' s' p1 p2 i hi hs => ?_, fun r' p1 i j a b ne ea eb k hk M M' m1 m2 => ?_, fun r' p1 => ?_⟩
      · have y1 := r_eq er2 p1
        subst y1
        rw [kR r_x0 (by decide) (by decide)] at p2
        have qs := rr T (thR T r_x0 (i := 15) (k2 := 85) rfl (by decide)) p2
        rw [kI qs (by decide)] at hs
        by_cases w : i = p.toNatClampNeg
        · refine ⟨hS g, by rw [w]; exact ee, pe_0 (by rw [nI]; rfl), fun M H m1 m2 => ?_, ?_, by rw [nI]; decide, fun n => ?_⟩
          · have nn : ∀ k i, k < 5 → hI h2 (g.1.1 + k) i = 0 := fun k i hk => by rw [e2]; show hI o1 (g.1.1 + k) i = 0; rw [eo]; exact boH_I g k i hk
            have nRR : ∀ i, hR h2 (hS g) i = hR (boH g) g.1.1 i := fun i => by rw [e2, r_R, if_neg (fun w => absurd (w.1 ▸ a1) (by rw [qr1]; decide)), eo, hS0]
            rw [nRR, boH_R] at m1 m2
            have y1 : g.1.1 + 1 = M := Option.some.inj m1
            have y2 : g.1.1 + 3 = H := Option.some.inj m2
            subst y1; subst y2
            exact tot_0 (fun i => nn 1 i (by decide)) (fun i => nn 3 i (by decide))
          · have : hJ h2 (hS g) 2 = 0 := by rw [e2]; show hJ o1 (hS g) 2 = 0; rw [eo]; exact boH_J g 0 2 (by decide)
            rw [this, crt_0]
            decide
          · rw [nI] at n
            exact absurd n (by decide)
        · obtain ⟨b, eb, pb⟩ := bd.1 r' s' er p2 i hi hs
          exact ⟨b, by rw [kr i w]; exact eb, pek b (thRn T qr (k2 := 13) rfl (by decide) eb) pb⟩
      · have y1 := r_eq er2 p1
        subst y1
        have old : ∀ i a M, ¬ i = p.toNatClampNeg → hR h2 r' i = some a → hR h2 a k = some M → hR g r' i = some a ∧ hR g a k = some M ∧ M < g.1.1 := fun i a M hi ha hM => by
          rw [kr i hi] at ha
          have ra := thRn T qr (k2 := 13) rfl (by decide) ha
          rw [kR ra (by decide) (by decide)] at hM
          exact ⟨ha, hM, rl a k M (by rw [ra]; decide) hM⟩
        by_cases wi : i = p.toNatClampNeg
        · have wj : ¬ j = p.toNatClampNeg := fun w => ne (by rw [wi, w])
          rw [wi, ee] at ea
          have ea := Option.some.inj ea
          rw [← ea] at m1
          have := nR k M m1
          have := (old j b M' wj eb m2).2.2
          omega
        · by_cases wj : j = p.toNatClampNeg
          · rw [wj, ee] at eb
            have eb := Option.some.inj eb
            rw [← eb] at m2
            have := nR k M' m2
            have := (old i a M wi ea m1).2.2
            omega
          · obtain ⟨u1, u2, _⟩ := old i a M wi ea m1
            obtain ⟨v1, v2, _⟩ := old j b M' wj eb m2
            exact bd.2.1 r' er i j a b ne u1 v1 k hk M M' u2 v2
      · have y1 := r_eq er2 p1
        subst y1
        have l60 := clamp_i i2.1
        have i59 := i2.2
        have cc := nuC_set q ee (fun i hi => kr i hi) 60 (by omega)
        have pb := bd.2.2 r' er
        have h21 : h2.1 = (g.1.1 + 5, g.1.2 + 162) := by rw [e2]; show o1.1 = _; rw [eo]; exact boH_1 g
        rw [h21]
        show g.1.1 + 5 + 5 * nuC h2 r' 60 ≤ Bq.1 ∧ g.1.2 + 162 + 162 * nuC h2 r' 60 ≤ Bq.2
        omega
    refine s_imp (kpy_35 (F := F) hF (ex_A X1 hA) (ex_O X1 hi_3400) (ex_w X1 r_x1 (by decide) o_x1) T2 r01 r11 i2 er2 ee bd2 (pek x1 r_x1 pe)) (fun o ho => ⟨ρ1, c1', X1, ho⟩)
  | some r4 =>
    show Sat (sX15_keep_35 F g x0 x1 p) _
    exact s_imp (kpy_35 (F := F) hF hA hi_3400 o_x1 T r_x0 r_x1 i2 er q bd pe) (fun o ho => ⟨ρ, c, ex_0, ho⟩)

