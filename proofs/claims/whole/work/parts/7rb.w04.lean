section
/-! BEFORE, the reference: all guesses -/
abbrev BfQ (L : Nat → Nat → Int) (B : Pz) (c : Cd) : Prop := BfR L B c.1 c.2.1 c.2.2.1 c.2.2.2
theorem bfq_k {L : Nat → Nat → Int} {B : Pz} (c : Cd) (b : BfQ L B c) : CdK L B c := ⟨b.1, b.2.1⟩
def brW (n : Nat) (h : Hp) (a i : Nat) : Prop := RS n a i ∨ (n + 587 ≤ a ∧ a ≤ n + 591) ∨ frW n h a i
/-- RULES, the board, the text out -/
def BrB (n p b : Nat) (g : Hp) (L : Nat → Nat → Int) (P : Pz) (v3 : Int32) (u : Nat → Int32) (h : Hp) : Prop := DyK n g h ∧ RLw n h L ∧ (hR h (n + 536) p = some b ∧ RbA h b P) ∧ hI h (n + 513) 3 = v3 ∧ ∀ i : Nat, (i : Int) < v3.toInt → hI h (n + 515) i = u i
def BrN (n : Nat) (L : Nat → Nat → Int) (P : Pz) (Pr : Cd → Prop) (h : Hp) : Prop := ∃ N f, N ≤ 3000 ∧ RwR n h L (bsP P) N f ∧ SqM L (bsP P) (BfQ L (bsP P)) Pr N f
/-- behind some guesses -/
def GrR (n p b : Nat) (g : Hp) (L : Nat → Nat → Int) (P : Pz) (v3 : Int32) (u : Nat → Int32) (Pr : Cd → Prop) (h : Hp) (o : Int32 × Hp) : Prop := FrW (brW n h) h o.2 ∧ BrB n p b g L P v3 u o.2 ∧ ((o.1 = 0 ∧ OvB L (bsP P) (BfQ L (bsP P))) ∨ (¬ o.1 = 0 ∧ BrN n L P Pr o.2))
/-- what RULES, the position keep to here -/
def BrG (L : Nat → Nat → Int) (P : Pz) : Prop := LwOk L ∧ LtD L ∧ PzOk L P ∧ (∀ d, d < 24 → pzH P d = 0) ∧ ∀ d, d < 2 → pzC P d = 0
section
variable {n p b F : Nat} {g h : Hp} {L : Nat → Nat → Int} {P : Pz} {v3 : Int32} {u : Nat → Int32} {Pr Pr' : Cd → Prop} {o : Int32 × Hp}
theorem brn_w (S : BrN n L P Pr h) (a : ∀ x, Pr x → Pr' x) (b : ∀ x, Pr' x → BfQ L (bsP P) x → Pr x) : BrN n L P Pr' h := by
  obtain ⟨N, f, s1, s2, s3⟩ := S
  exact ⟨N, f, s1, s2, sqm_w s3 a b⟩
theorem brw_t {h0 : Hp} {a i : Nat} (k : DyK n h0 h) (l : a < hS h0) (c : brW n h a i) : brW n h0 a i := by
  rcases c with c | c | c | c | c | ⟨q, r, hq, e, c⟩
  · exact Or.inl c
  · exact Or.inr (Or.inl c)
  · exact Or.inr (Or.inr (Or.inl c))
  · exact Or.inr (Or.inr (Or.inr (Or.inl c)))
  · exact Or.inr (Or.inr (Or.inr (Or.inr (Or.inl c))))
  · rcases k.2.2.1 (583, 3000, 5, 8000, fsB) (by decide) q r e with e | e
    · exact Or.inr (Or.inr (Or.inr (Or.inr (Or.inr ⟨q, r, hq, e, c⟩))))
    · omega
theorem frb_t {h0 : Hp} {o : Hp} (k : DyK n h0 h) (A : FrW (brW n h0) h0 h) (B : FrW (brW n h) h o) : FrW (brW n h0) h0 o := ⟨Nat.le_trans A.1 B.1, fun a i l nc => by
  have x := A.2 a i l nc
  have y := B.2 a i (Nat.lt_of_lt_of_le l A.1) (fun c => nc (brw_t k l c))
  exact ⟨y.1.trans x.1, y.2.trans x.2⟩⟩
theorem frb_s {o : Hp} (A : FrW (RS n) h o) : FrW (brW n h) h o := fw_s A (fun _ _ z => Or.inl z)
/-- what does not touch what was found leaves it -/
theorem brb_f {W : Nat → Nat → Prop} {o : Hp} (hp : p < 60) (k' : DyK n h o) (kg : DyK n g o) (Fr : FrW W h o) (w : ∀ a i, W a i → a < hS h → RS n a i ∨ (n + 587 ≤ a ∧ a ≤ n + 591)) (S : BrB n p b g L P v3 u h) (N : BrN n L P Pr h) : BrB n p b g L P v3 u o ∧ BrN n L P Pr o := by
  obtain ⟨k, Rl, ⟨eb, A⟩, o1, o2⟩ := S
  have s6 := dk_610 k
  have nw : ∀ a i, a < hS h → ¬ (RS n a i ∨ (n + 587 ≤ a ∧ a ≤ n + 591)) → ¬ W a i := fun a i l z c => z (w a i c l)
  have eb' := ks_r k' (q := (536, 60, 5, 4000, fsB)) (by decide) eb
  obtain ⟨blo, bhi⟩ := dy_lo k (q := (536, 60, 5, 4000, fsB)) (by decide) hp eb
  have bhi : b + 5 ≤ hS h := bhi
  obtain ⟨own', Dw'⟩ := k'.1.1
  have Tb := (bk_dy Dw' (q := (536, 60, 5, 4000, fsB)) (by decide) hp eb').2.2
  refine ⟨⟨kg, rlw_k k k' Fr (fun j i hj => nw _ _ (by omega) (fun z => by unfold RS at z; omega)) Rl, ⟨eb', rba_f A Tb (fun j i hj => Fr.2 _ _ (by omega) (nw _ _ (by omega) (fun z => by unfold RS at z; omega)))⟩, by rw [(Fr.2 _ _ (by omega) (nw _ _ (by omega) (fun z => by unfold RS at z; omega))).1]; exact o1, fun i hi => by rw [(Fr.2 _ _ (by omega) (nw _ _ (by omega) (fun z => by unfold RS at z; omega))).1]; exact o2 i hi⟩, ?_⟩
  obtain ⟨M, f, s1, s2, s3⟩ := N
  exact ⟨M, f, s1, rwr_f s1 k k' Fr (nw _ _ (by omega) (fun z => by unfold RS at z; omega)) (fun i => nw _ _ (by omega) (fun z => by unfold RS at z; omega)) (fun i => nw _ _ (by omega) (fun z => by unfold RS at z; omega)) (fun i a hi ea lo hi' j q hj => nw _ _ (by omega) (fun z => by unfold RS at z; omega)) s2, s3⟩
/-- the guess laid -/
theorem gs_lay {s t m a : Nat} {h1 : Hp} {y1 y2 y3 : Int32} (G : BrG L P) (k : DyK n g h) (k1 : DyK n g h1) (A : RbA h (n + 587) P) (e1 : y1.toInt = ((1 - pzS P : Nat) : Int)) (e2 : y2.toInt = (if a = 15 then 0 else cdV a (1 - (pzS (bsP P) : Int)))) (e3 : y3.toInt = cdV m (pzS (bsP P))) (t64 : t < 64) (s64 : s < 64) (w : h1 = wI (wI (wI (wI (wI (wJ h (n + 587) 2 0) (n + 587) 3 0) (n + 587) 7 0) (n + 587) 1 y1) (n + 588) t y2) (n + 588) s y3) : RbA h1 (n + 587) (gsP (bsP P) s t m a) := by
  obtain ⟨_, a2, a3, a4, a5, a6, a7, a8, a9⟩ := A
  have T := e587 k1
  have I : ∀ c i, ¬ (c = n + 587 ∧ (i = 3 ∨ i = 7 ∨ i = 1)) → ¬ (c = n + 588 ∧ (i = t ∨ i = s)) → hI h1 c i = hI h c i := fun c i z z' => by
    rw [w, r_I, if_neg (fun y => z' ⟨y.1, Or.inr y.2⟩), r_I, if_neg (fun y => z' ⟨y.1, Or.inl y.2⟩), r_I, if_neg (fun y => z ⟨y.1, Or.inr (Or.inr y.2)⟩), r_I, if_neg (fun y => z ⟨y.1, Or.inr (Or.inl y.2)⟩), r_I, if_neg (fun y => z ⟨y.1, Or.inl y.2⟩)]
    rfl
  refine ⟨⟨T (0, 1) (by decide), T (4, 2) (by decide), T (5, 3) (by decide), T (6, 4) (by decide)⟩, fun q hq => ?_, ?_, fun q hq => ?_, ?_, fun i hi => absurd hi (Nat.not_lt_zero _), fun d hd => ?_, fun d hd => ?_, ?_⟩
  · show (hI h1 (n + 588) q).toInt = (if q = s then cdV m (pzS (bsP P)) else if q = t then (if a = 15 then 0 else cdV a (1 - (pzS (bsP P) : Int))) else P.1 q)
    by_cases c : q = s
    · rw [if_pos c, w, c, rI_s]; exact e3
    · rw [if_neg c]
      by_cases c' : q = t
      · rw [if_pos c', w, rI_o c, c', rI_s]; exact e2
      · rw [if_neg c', I _ _ (fun z => by omega) (fun z => by omega)]; exact a2 q hq
  · show (hI h1 (n + 587) 1).toInt = ((1 - pzS P : Nat) : Int)
    rw [w, rI_a (by omega), rI_a (by omega), rI_s]; exact e1
  · show bitJ (hJ h1 (n + 587) 2) q = false
    have : hJ h1 (n + 587) 2 = 0 := by
      rw [w]
      show hJ (wJ h (n + 587) 2 0) (n + 587) 2 = 0
      rw [r_J, if_pos ⟨rfl, rfl⟩]
    rw [this, bj_zero]
  · show (hI h1 (n + 587) 3).toInt = 0
    rw [w, rI_a (by omega), rI_a (by omega), rI_o (by decide), rI_o (by decide), rI_s]; rfl
  · show (hI h1 (n + 587 + 3) d).toInt = 0
    rw [I _ _ (fun z => by omega) (fun z => by omega), ← G.2.2.2.1 d hd]; exact a7 d hd
  · show (hI h1 (n + 587 + 4) d).toInt = 0
    rw [I _ _ (fun z => by omega) (fun z => by omega), ← G.2.2.2.2 d hd]; exact a8 d hd
  · show (hI h1 (n + 587) 7).toInt = 0
    rw [w, rI_a (by omega), rI_a (by omega), rI_o (by decide), rI_s]; rfl
theorem rlw_2 {w : Nat} (C : RfL n h (n + w) L) : (hI h (n + w) 2).toInt = L 2 0 := congrFun (congrFun C.2.1 2) 0
def dnV (x : Int) (a : Nat) : Prop := (a = 15 ∧ 0 < x) ∨ (a < 12 ∧ (a : Int) + 1 < x)
/-- one square left, one man: whoever may have been taken -/
theorem gu_3 {s t m : Nat} {x2 x3 x4 : Int32} {h0 : Hp} (G : BrG L P) (hp : p < 60) (O : BfO L (bsP P) s t m) (e2 : x2.toInt = (t : Int)) (e3 : x3.toInt = (s : Int)) (e4 : x4.toInt = (m : Int)) (np : ∀ c, Pr c → ¬ (c.2.1 = t ∧ c.2.2.1 = m ∧ c.1 = s)) : ∀ (f : Nat) {h : Hp} {x5 : Int32}, DyK n h0 h → FrW (brW n h0) h0 h → BrB n p b g L P v3 u h → BrN n L P (fun c => Pr c ∨ (c.2.1 = t ∧ c.2.2.1 = m ∧ c.1 = s ∧ dnV x5.toInt c.2.2.2)) h → 0 ≤ x5.toInt → sX15_guesses_3 F f h (n + 513) b x2 x3 x4 x5 = some o → GrR n p b g L P v3 u (fun c => Pr c ∨ (c.2.1 = t ∧ c.2.2.1 = m ∧ c.1 = s)) h0 o := by
  have z0 : (0 : Int32).toInt = 0 := rfl
  have z1 : (1 : Int32).toInt = 1 := rfl
  have z2 : (2 : Int32).toInt = 2 := rfl
  have G' := G
  obtain ⟨LW, LD, Oz, hz, cz⟩ := G'
  have H := LW.1
  have L2 := H.2.2.1
  have S2 := Oz.2.2.1
  have Ob := bs_ok Oz
  intro f
  induction f with
  | zero => intro h x5 _ _ _ _ _ e; exact absurd e (by rw [sX15_guesses_3]; exact fun z => nomatch z)
  | succ f ih =>
    intro h x5 k0 Fr S N l5 e
    obtain ⟨k, Rl, ⟨eb, A⟩, o1, o2⟩ := id S
    have s6 := dk_610 k
    obtain ⟨w, hw, e4w, _, C⟩ := id Rl
    have m2 := rlw_2 C
    rw [sX15_guesses_3] at e
    replace e := ce_e e4w e
    have v1 : ((1 : Int32) + hI h (n + w) 2).toInt = 1 + L 2 0 := by rw [ta (by omega), z1, m2]
    rcases br_s e with ⟨c1, e⟩ | ⟨c1, e⟩
    · have c1 := le_i c1
      rw [so_e e]
      refine ⟨Fr, S, Or.inr ⟨show ¬ (1 : Int32) = 0 by decide, brn_w N (fun c y => ?_) (fun c y bq => ?_)⟩⟩
      · rcases y with y | y
        · exact Or.inl y
        · exact Or.inr ⟨y.1, y.2.1, y.2.2.1⟩
      · rcases y with y | y
        · exact Or.inl y
        · refine Or.inr ⟨y.1, y.2.1, y.2.2, ?_⟩
          rcases bq.2.1 with z | z
          · exact Or.inl ⟨z, by omega⟩
          · exact Or.inr ⟨by omega, by omega⟩
    have c1 := nle_i c1
    -- the man taken
    obtain ⟨a, ea, Aa⟩ : ∃ a : Nat, ((x5 = 0 ∧ a = 15) ∨ (¬ x5 = 0 ∧ x5.toInt = (a : Int) + 1 ∧ a < 12)) ∧ BfA L a := by
      by_cases y : x5 = 0
      · exact ⟨15, Or.inl ⟨y, rfl⟩, Or.inl rfl⟩
      · have y' := ne_i y
        rw [z0] at y'
        exact ⟨(x5.toInt - 1).toNat, Or.inr ⟨y, by omega, by omega⟩, Or.inr (by omega)⟩
    replace e := ce_e (dk_e (a := 513) (f := 45) (b := 587) k (by decide +kernel)) e
    obtain ⟨o4, e4', e⟩ := cl_s e
    obtain ⟨own, Dw⟩ := k.1.1
    obtain ⟨f4, k4, A4⟩ := cpy_m k Dw.1 (bke_p Dw hp eb) (bk587 Dw) (by omega) A (e587 k) e4'
    have k4' : DyK n h o4 := dk_X12_copy (dk_self k) e4'
    have s64 := dk_610 k4
    obtain ⟨blo, bhi⟩ := dy_lo k (q := (536, 60, 5, 4000, fsB)) (by decide) hp eb
    have bhi : b + 5 ≤ hS h := bhi
    have sb : (hI h (b + 0) 1).toInt = (pzS P : Int) := A.2.2.1
    have sb4 : hI o4 b 1 = hI h b 1 := (f4.2 b 1 (by omega) (fun z => by omega)).1
    have sb : (hI h b 1).toInt = (pzS P : Int) := sb
    unfold sX15_guesses_25 sX15_guesses_90 sX15_guesses_110 at e
    have d45 : ∀ {g h' : Hp}, DyK n g h' → hR h' (n + 513) 45 = some (n + 587) := fun k => dk_e (a := 513) (f := 45) (b := 587) k (by decide +kernel)
    replace e := ce_e (d45 k4) e
    obtain ⟨h2, w2, e⟩ := nm_s e
    have k2 : DyK n g h2 := by rw [w2]; exact dk_wJ k4
    replace e := ce_e (d45 k2) e
    obtain ⟨h4, w4, e⟩ := nm_s e
    have k4g : DyK n g h4 := by rw [w4]; exact dk_wI k2
    replace e := ce_e (d45 k4g) e
    obtain ⟨h6, w6, e⟩ := nm_s e
    have k6 : DyK n g h6 := by rw [w6]; exact dk_wI k4g
    replace e := ce_e (d45 k6) e
    have sb6 : hI h6 b 1 = hI h b 1 := by
      rw [w6, rI_a (by omega), w4, rI_a (by omega), w2]
      exact sb4
    rw [sb6] at e
    obtain ⟨h8, w8, e⟩ := nm_s e
    have k8 : DyK n g h8 := by rw [w8]; exact dk_wI k6
    have k8' : DyK n h h8 := by rw [w8, w6, w4, w2]; exact dk_wI (dk_wI (dk_wI (dk_wJ k4')))
    have sb8 : hI h8 b 1 = hI h b 1 := by rw [w8, rI_a (by omega)]; exact sb6
    have y1 : ((1 : Int32) - hI h b 1).toInt = ((1 - pzS P : Nat) : Int) := by rw [ts (by omega), z1, sb]; omega
    replace e := ce_e (d45 k8) e
    replace e := ce_e (e587 k8 (0, 1) (by decide)) e
    have nt : x2.toNatClampNeg = t := by have := nc_i (x := x2) (by omega); omega
    have ns : x3.toNatClampNeg = s := by have := nc_i (x := x3) (by omega); omega
    have v5 : (x5 + (1 : Int32)).toInt = x5.toInt + 1 := by rw [ta (by omega), z1]
    have nd : ¬ dnV x5.toInt a := fun y => by
      rcases ea with ⟨q1, q2⟩ | ⟨q1, q2, q3⟩
      · rw [q1, z0] at y
        rcases y with y | y <;> omega
      · rcases y with y | y <;> omega
    have dn : ∀ x, dnV (x5 + (1 : Int32)).toInt x ↔ (dnV x5.toInt x ∨ x = a) := fun x => by
      rw [v5]
      unfold dnV
      rcases ea with ⟨q1, q2⟩ | ⟨q1, q2, q3⟩
      · rw [q1, z0]; omega
      · omega
    -- behind it
    have go : ∀ {y2 : Int32}, y2.toInt = (if a = 15 then 0 else cdV a (1 - (pzS (bsP P) : Int))) → (gd (inB x2 (hN h8 (n + 587 + 1))) <| nm (wI h8 (n + 587 + 1) x2.toNatClampNeg y2) fun h_2 => cl (hR h_2 (n + 513) 45) fun r_3 => cl (hR h_2 r_3 0) fun r_4 => cl (sX15_valueOf h_2 x4 ((1 : Int32) - (hI h_2 b 1))) fun o_5 => gd (inB x3 (hN o_5.2 r_4)) <| nm (wI o_5.2 r_4 x3.toNatClampNeg o_5.1) fun h_2 => cl (sX15_mayCome F h_2 (n + 513) x3 x2) fun o_3 => sX15_guesses_117 F (sX15_guesses_3 F f) o_3.2 (n + 513) b x2 x3 x4 x5 o_3.1) = some o → GrR n p b g L P v3 u (fun c => Pr c ∨ (c.2.1 = t ∧ c.2.2.1 = m ∧ c.1 = s)) h0 o := fun {y2} ey2 e => by
      replace e := gg_e e
      rw [nt] at e
      obtain ⟨ha, wa, e⟩ := nm_s e
      have ka : DyK n g ha := by rw [wa]; exact dk_wI k8
      have ka' : DyK n h ha := by rw [wa]; exact dk_wI k8'
      replace e := ce_e (d45 ka) e
      replace e := ce_e (e587 ka (0, 1) (by decide)) e
      have sba : hI ha b 1 = hI h b 1 := by rw [wa, rI_a (by omega)]; exact sb8
      rw [sba] at e
      obtain ⟨o5, e5, e⟩ := cl_s e
      unfold sX15_valueOf at e5
      have q5 := so_e e5
      have m4 : ((2 : Int32) * x4).toInt = 2 * (m : Int) := by rw [tm (by rw [z2]; have := O.2.2.1; omega), z2, e4]
      have y3 : o5.1.toInt = cdV m (pzS (bsP P)) := by
        rw [q5]
        show (((1 : Int32) + ((2 : Int32) * x4)) + ((1 : Int32) - hI h b 1)).toInt = cdV m ((1 - pzS P : Nat) : Int)
        have mL := O.2.2.1
        have t1 : ((1 : Int32) + ((2 : Int32) * x4)).toInt = 1 + 2 * (m : Int) := by rw [ta (by omega), z1, m4]
        rw [ta (by omega), t1, y1]
        unfold cdV
        omega
      have h5 : o5.2 = ha := by rw [q5]
      rw [h5] at e
      replace e := gg_e e
      rw [ns] at e
      obtain ⟨hb, wb, e⟩ := nm_s e
      have kb : DyK n g hb := by rw [wb]; exact dk_wI ka
      have kb' : DyK n h hb := by rw [wb]; exact dk_wI ka'
      have Ag : RbA hb (n + 587) (gsP (bsP P) s t m a) := gs_lay G k4 kb A4 y1 ey2 y3 O.2.1.1 O.1.1 (by rw [wb, wa, w8, w6, w4, w2]; rfl)
      have Fb : FrW (fun a _ => n + 587 ≤ a ∧ a ≤ n + 591) h hb := by
        rw [wb, wa, w8, w6, w4, w2]
        exact fw_wI (fw_wI (fw_wI (fw_wI (fw_wI (fw_t (fw_s f4 (fun _ _ z => by omega)) ⟨Nat.le_refl _, fun a i _ nw => ⟨rfl, by rw [r_J, if_neg (fun z => nw (by omega))]⟩⟩) (by omega)) (by omega)) (by omega)) (by omega)) (by omega)
      obtain ⟨Sb, Nb⟩ := brb_f hp kb' kb Fb (fun a i z _ => Or.inr z) S N
      have Frb : FrW (brW n h0) h0 hb := frb_t k0 Fr (fw_s Fb (fun _ _ z => Or.inr (Or.inl z)))
      have k0b := dk_t k0 kb'
      obtain ⟨oc, ec, e⟩ := cl_s e
      obtain ⟨fc, kc, rc⟩ := mc_k H Ob.1 Ob.2.2.1 O Aa kb Sb.2.1 Ag e3 e2 ec
      have kc' : DyK n hb oc.2 := dk_X15_mayCome (dk_self kb) ec
      obtain ⟨Sc, Nc⟩ := brb_f hp kc' kc fc (fun a i z _ => Or.inl z) Sb Nb
      have Frc := frb_t k0b Frb (frb_s fc)
      have k0c := dk_t k0b kc'
      have Agc : RbA oc.2 (n + 587) (gsP (bsP P) s t m a) := rba_f Ag (e587 kc) (fun j i hj => fc.2 _ _ (by have := dk_610 kb; omega) (fun z => by unfold RS at z; omega))
      -- to the next
      have next : ∀ {h' : Hp}, DyK n h0 h' → FrW (brW n h0) h0 h' → BrB n p b g L P v3 u h' → BrN n L P (fun x => (Pr x ∨ (x.2.1 = t ∧ x.2.2.1 = m ∧ x.1 = s ∧ dnV x5.toInt x.2.2.2)) ∨ x = (s, t, m, a)) h' → sX15_guesses_3 F f h' (n + 513) b x2 x3 x4 (x5 + (1 : Int32)) = some o → GrR n p b g L P v3 u (fun c => Pr c ∨ (c.2.1 = t ∧ c.2.2.1 = m ∧ c.1 = s)) h0 o := fun {h'} a1 a2 a3 a4 e => ih a1 a2 a3 (brn_w a4 (fun x y => by
        rcases y with (y | y) | y
        · exact Or.inl y
        · exact Or.inr ⟨y.1, y.2.1, y.2.2.1, (dn _).mpr (Or.inl y.2.2.2)⟩
        · rw [y]; exact Or.inr ⟨rfl, rfl, rfl, (dn _).mpr (Or.inr rfl)⟩) (fun x y _ => by
        rcases y with y | ⟨y1, y2, y3, y4⟩
        · exact Or.inl (Or.inl y)
        · rcases (dn _).mp y4 with z | z
          · exact Or.inl (Or.inr ⟨y1, y2, y3, z⟩)
          · exact Or.inr (Prod.ext y3 (Prod.ext y1 (Prod.ext y2 z))))) (by omega) e
      have skip : ∀ {h' : Hp}, BrN n L P (fun c => Pr c ∨ (c.2.1 = t ∧ c.2.2.1 = m ∧ c.1 = s ∧ dnV x5.toInt c.2.2.2)) h' → ¬ BfQ L (bsP P) (s, t, m, a) → BrN n L P (fun x => (Pr x ∨ (x.2.1 = t ∧ x.2.2.1 = m ∧ x.1 = s ∧ dnV x5.toInt x.2.2.2)) ∨ x = (s, t, m, a)) h' := fun {h'} N nb => by
        obtain ⟨M, ff, t1, t2, t3⟩ := N
        exact ⟨M, ff, t1, t2, sqm_skip t3 nb⟩
      unfold sX15_guesses_117 sX15_guesses_125 sX15_guesses_132 sX15_guesses_137 at e
      rcases br_s e with ⟨c2, e⟩ | ⟨c2, e⟩
      · rcases rc with ⟨_, rc⟩ | ⟨rc, _⟩
        · replace e := nx_e e
          exact next k0c Frc Sc (skip Nc (fun z => rc z.2.2.1)) e
        · exact absurd c2 rc
      rcases rc with ⟨rc, _⟩ | ⟨_, rc⟩
      · exact absurd rc c2
      obtain ⟨od, ed, e⟩ := cl_s e
      obtain ⟨fd, kd, rd⟩ := lt_k (P := P) LW Ob.1 Ob.2.2.1 (show (bsP P).1 = P.1 from rfl) O Aa hp kc Sc.2.1 Sc.2.2.1.1 Sc.2.2.1.2 Agc ed
      have kd' : DyK n oc.2 od.2 := dk_X15_leadsTo (dk_self kc) ed
      obtain ⟨Sd, Nd⟩ := brb_f hp kd' kd fd (fun a i z _ => Or.inl z) Sc Nc
      have Frd := frb_t k0c Frc (frb_s fd)
      have k0d := dk_t k0c kd'
      rcases br_s e with ⟨c3, e⟩ | ⟨c3, e⟩
      · rcases rd with ⟨_, rd⟩ | ⟨rd, _⟩
        · replace e := nx_e e
          exact next k0d Frd Sd (skip Nd (fun z => rd z.2.2.2)) e
        · exact absurd c3 rd
      rcases rd with ⟨rd, _⟩ | ⟨_, rd⟩
      · exact absurd rd c3
      have bq : BfQ L (bsP P) (s, t, m, a) := ⟨O, Aa, rc, rd⟩
      have Og := wr_ok H LW.2.1 (gs_rd H Ob.1 Ob.2.2.1 O Aa) rd.1
      have Agd : RbA od.2 (n + 587) (gsP (bsP P) s t m a) := rba_f Agc (e587 kd) (fun j i hj => fd.2 _ _ (by have := dk_610 kc; omega) (fun z => by unfold RS at z; omega))
      obtain ⟨oe, ee, e⟩ := cl_s e
      obtain ⟨M, ff, t1, t2, t3⟩ := Nd
      have npc : ¬ (Pr (s, t, m, a) ∨ ((s, t, m, a).2.1 = t ∧ (s, t, m, a).2.2.1 = m ∧ (s, t, m, a).1 = s ∧ dnV x5.toInt (s, t, m, a).2.2.2)) := fun y => by
        rcases y with y | ⟨_, _, _, y⟩
        · exact np _ y ⟨rfl, rfl, rfl⟩
        · exact nd y
      obtain ⟨fe, ke, re1, re2, re⟩ := fr_k (c := (s, t, m, a)) H LW.2.1 LW.2.2.1 LD Ob.1 Ob.2.2.1 bfq_k kd Sd.2.1 Og Agd t3 npc bq t2 t1 ee
      have ke' : DyK n od.2 oe.2 := dk_X15_findsRoom (dk_self kd) ee
      have s6d := dk_610 kd
      have Fre := frb_t k0d Frd (fw_s fe (fun _ _ z => Or.inr (Or.inr z)))
      have k0e := dk_t k0d ke'
      obtain ⟨_, Rld, ⟨ebd, Ad⟩, od1, od2⟩ := Sd
      have ebe := ks_r ke' (q := (536, 60, 5, 4000, fsB)) (by decide) ebd
      obtain ⟨bdl, bdh⟩ := dy_lo kd (q := (536, 60, 5, 4000, fsB)) (by decide) hp ebd
      have bdh : b + 5 ≤ hS od.2 := bdh
      obtain ⟨ownd, Dwd⟩ := kd.1.1
      have tagb := (bk_dy Dwd (q := (536, 60, 5, 4000, fsB)) (by decide) hp ebd).2.1.2
      obtain ⟨owne, Dwe⟩ := ke.1.1
      have Tbe := (bk_dy Dwe (q := (536, 60, 5, 4000, fsB)) (by decide) hp ebe).2.2
      have Se : BrB n p b g L P v3 u oe.2 := ⟨ke, rlw_k kd ke' fe (fun j i hj z => by
        rcases z with z | z | z | ⟨q, r, hq, er, z⟩
        · omega
        · omega
        · omega
        · have := fd_tag Dwd hq er
          omega) Rld, ⟨ebe, rba_f Ad Tbe (fun j i hj => fe.2 _ _ (by omega) (fun z => by
        rcases z with z | z | z | ⟨q, r, hq, er, z⟩
        · omega
        · omega
        · omega
        · obtain ⟨_, _, tr⟩ := fd_tag Dwd hq er
          have u1 := tr (b + j - r) (by omega)
          rw [show r + (b + j - r) = b + j by omega] at u1
          have u2 : ownd (b + j) = 4000 + p := tagb j hj
          omega))⟩, by rw [re1]; exact od1, fun i hi => by rw [re2 i (by rw [od1]; exact hi)]; exact od2 i hi⟩
      rcases br_s e with ⟨c4, e⟩ | ⟨c4, e⟩
      · rcases re with ⟨_, re⟩ | ⟨re, _⟩
        · rw [so_e e]
          exact ⟨Fre, Se, Or.inl ⟨rfl, re⟩⟩
        · exact absurd c4 re
      · rcases re with ⟨re, _⟩ | ⟨_, l, f', re, rq⟩
        · exact absurd re c4
        replace e := nx_e e
        exact next k0e Fre Se ⟨M + 1, f', by omega, re, rq⟩ e
    rcases br_s e with ⟨c2, e⟩ | ⟨c2, e⟩
    · rcases ea with ⟨_, q2⟩ | ⟨q1, _⟩
      · exact go (by rw [if_pos q2]; rfl) e
      · exact absurd c2 q1
    · rcases ea with ⟨q1, _⟩ | ⟨_, q2, q3⟩
      · exact absurd q1 c2
      obtain ⟨o12, e12, e⟩ := cl_s e
      unfold sX15_valueOf at e12
      have q12 := so_e e12
      have h12 : o12.2 = h8 := by rw [q12]
      rw [h12] at e
      refine go ?_ e
      rw [q12, if_neg (by omega)]
      have t0 : (x5 - (1 : Int32)).toInt = (a : Int) := by rw [ts (by omega), q2, z1]; omega
      have t1 : ((2 : Int32) * (x5 - (1 : Int32))).toInt = 2 * (a : Int) := by rw [tm (by rw [z2, t0]; omega), z2, t0]
      have t2 : ((1 : Int32) + ((2 : Int32) * (x5 - (1 : Int32)))).toInt = 1 + 2 * (a : Int) := by rw [ta (by omega), z1, t1]
      show (((1 : Int32) + ((2 : Int32) * (x5 - (1 : Int32)))) + hI h8 b 1).toInt = cdV a (1 - ((1 - pzS P : Nat) : Int))
      rw [sb8, ta (by omega), t2, sb]
      unfold cdV
      omega
end
end
section
/-! BEFORE, the reference: the call -/
section
variable {n p b F : Nat} {g h h0 : Hp} {L : Nat → Nat → Int} {P : Pz} {v3 : Int32} {u : Nat → Int32} {Pr PrZ : Cd → Prop} {o : Int32 × Hp}
theorem grr_t {o : Int32 × Hp} (k : DyK n h0 h) (Fr : FrW (brW n h0) h0 h) (R : GrR n p b g L P v3 u Pr h o) : GrR n p b g L P v3 u Pr h0 o := ⟨frb_t k Fr R.1, R.2⟩
/-- all squares left -/
theorem gal_118 {K : Hp → Nat → Nat → Int32 → Int32 → Int32 → Int32 → Option (Int32 × Hp)} {t m : Nat} {x2 x3 x4 x5 x6 : Int32} (G : BrG L P) (hp : p < 60) (tt : t < 64 ∧ 0 < P.1 t ∧ (P.1 t - 1) % 2 = (pzS (bsP P) : Int)) (mm : (m : Int) < L 2 0) (may : (x6 = 0 ∧ ∀ s, ¬ BfO L (bsP P) s t m) ∨ (¬ x6 = 0 ∧ ∀ s : Nat, s < 64 → (s : Int) < L 0 0 * L 1 0 → P.1 s = 0 → BfO L (bsP P) s t m)) (e2 : x2.toInt = (t : Int)) (e5 : x5.toInt = (m : Int)) (np : ∀ c, Pr c → ¬ (c.2.1 = t ∧ c.2.2.1 = m)) (hK : ∀ {h' : Hp}, DyK n h0 h' → FrW (brW n h0) h0 h' → BrB n p b g L P v3 u h' → BrN n L P (fun c => Pr c ∨ (c.2.1 = t ∧ c.2.2.1 = m)) h' → K h' (n + 513) b x2 x3 x4 (x5 + (1 : Int32)) = some o → GrR n p b g L P v3 u PrZ h0 o) : ∀ (f : Nat) {h : Hp} {x7 : Int32} {i : Nat}, DyK n h0 h → FrW (brW n h0) h0 h → BrB n p b g L P v3 u h → BrN n L P (fun c => Pr c ∨ (c.2.1 = t ∧ c.2.2.1 = m ∧ c.1 < i)) h → x7.toInt = (i : Int) → sX15_guessesAll_118 F K f h (n + 513) b x2 x3 x4 x5 x6 x7 = some o → GrR n p b g L P v3 u PrZ h0 o := by
  have z1 : (1 : Int32).toInt = 1 := rfl
  have G' := G
  obtain ⟨LW, LD, Oz, hz, cz⟩ := G'
  have sq := sq_64 LW.1
  intro f
  induction f with
  | zero => intro h x7 i _ _ _ _ _ e; exact absurd e (by rw [sX15_guessesAll_118]; exact fun z => nomatch z)
  | succ f ih =>
    intro h x7 i k0 Fr S N i7 e
    obtain ⟨k, Rl, ⟨eb, A⟩, o1, o2⟩ := id S
    obtain ⟨w, hw, e4w, _, C⟩ := id Rl
    have s13 : (hI h (n + 513) 13).toInt = L 0 0 * L 1 0 := C.2.2.2.2
    rw [sX15_guessesAll_118] at e
    unfold sX15_guessesAll_163 sX15_guessesAll_157 sX15_guessesAll_152 at e
    have fin : (∀ c, c.2.1 = t → c.2.2.1 = m → BfQ L (bsP P) c → c.1 < i) → K h (n + 513) b x2 x3 x4 (x5 + (1 : Int32)) = some o → GrR n p b g L P v3 u PrZ h0 o := fun al e => hK k0 Fr S (brn_w N (fun c y => by
      rcases y with y | y
      · exact Or.inl y
      · exact Or.inr ⟨y.1, y.2.1⟩) (fun c y q => by
      rcases y with y | y
      · exact Or.inl y
      · exact Or.inr ⟨y.1, y.2, al c y.1 y.2 q⟩)) e
    rcases br_s e with ⟨c1, e⟩ | ⟨c1, e⟩
    · have c1 := le_i c1
      replace e := nx_e e
      exact fin (fun c _ _ q => by have := q.1.1.2.1; omega) e
    have c1 := nle_i c1
    rcases br_s e with ⟨c2, e⟩ | ⟨c2, e⟩
    · replace e := nx_e e
      rcases may with ⟨_, may⟩ | ⟨may, _⟩
      · refine fin (fun c ct cm q => ?_) e
        have := q.1
        rw [ct, cm] at this
        exact absurd this (may _)
      · exact absurd c2 may
    rcases may with ⟨may, _⟩ | ⟨_, mayb⟩
    · exact absurd may c2
    have may : (x6 = 0 ∧ ∀ s, ¬ BfO L (bsP P) s t m) ∨ (¬ x6 = 0 ∧ ∀ s : Nat, s < 64 → (s : Int) < L 0 0 * L 1 0 → P.1 s = 0 → BfO L (bsP P) s t m) := Or.inr ⟨c2, mayb⟩
    replace e := ce_e A.1.1 e
    replace e := gg_e e
    have n7 : x7.toNatClampNeg = i := by have := nc_i (x := x7) (by omega); omega
    have v1 : (hI h (b + 1) i).toInt = P.1 i := A.2.1 i (by omega)
    have v7 : (x7 + (1 : Int32)).toInt = ((i + 1 : Nat) : Int) := by rw [ta (by omega), z1, i7]; omega
    have nxt : ∀ {h' : Hp}, DyK n h0 h' → FrW (brW n h0) h0 h' → BrB n p b g L P v3 u h' → BrN n L P (fun c => (Pr c ∨ (c.2.1 = t ∧ c.2.2.1 = m ∧ c.1 < i)) ∨ (c.2.1 = t ∧ c.2.2.1 = m ∧ c.1 = i)) h' → sX15_guessesAll_118 F K f h' (n + 513) b x2 x3 x4 x5 x6 (x7 + (1 : Int32)) = some o → GrR n p b g L P v3 u PrZ h0 o := fun {h'} a1 a2 a3 a4 e => ih (i := i + 1) a1 a2 a3 (brn_w a4 (fun c y => by
      rcases y with (y | y) | y
      · exact Or.inl y
      · exact Or.inr ⟨y.1, y.2.1, by omega⟩
      · exact Or.inr ⟨y.1, y.2.1, by omega⟩) (fun c y _ => by
      rcases y with y | ⟨y1, y2, y3⟩
      · exact Or.inl (Or.inl y)
      · by_cases w : c.1 = i
        · exact Or.inr ⟨y1, y2, w⟩
        · exact Or.inl (Or.inr ⟨y1, y2, by omega⟩))) v7 e
    rcases br_s e with ⟨c3, e⟩ | ⟨c3, e⟩ <;> rw [n7] at c3
    · have c3 : hI h (b + 1) i = 0 := c3
      have p0 : P.1 i = 0 := by rw [← v1, c3]; rfl
      obtain ⟨o6, e6, e⟩ := cl_s e
      unfold sX15_guesses at e6
      have O := mayb i (by omega) (by omega) p0
      have R6 := gu_3 (Pr := fun c => Pr c ∨ (c.2.1 = t ∧ c.2.2.1 = m ∧ c.1 < i)) (s := i) (t := t) (m := m) (h0 := h) G hp O e2 i7 e5 (fun c y z => by
        rcases y with y | y
        · exact np c y ⟨z.1, z.2.1⟩
        · omega) F (dk_self k) (frb_t (dk_self k) fw_0 fw_0) S (brn_w N (fun c y => Or.inl y) (fun c y _ => by
        rcases y with y | ⟨_, _, _, y⟩
        · exact y
        · have z0 : (0 : Int32).toInt = 0 := rfl
          rw [z0] at y
          rcases y with y | y <;> omega)) (by decide) e6
      have k6 : DyK n h o6.2 := dk_X15_guesses_3 F (dk_self k) e6
      have Fr6 := frb_t k0 Fr R6.1
      rcases br_s e with ⟨c4, e⟩ | ⟨c4, e⟩
      · rcases R6.2.2 with ⟨_, q⟩ | ⟨q, _⟩
        · rw [so_e e]
          exact ⟨Fr6, R6.2.1, Or.inl ⟨rfl, q⟩⟩
        · exact absurd c4 q
      · rcases R6.2.2 with ⟨q, _⟩ | ⟨_, q⟩
        · exact absurd q c4
        · replace e := nx_e e
          exact nxt (dk_t k0 k6) Fr6 R6.2.1 q e
    · replace e := nx_e e
      refine nxt k0 Fr S (brn_w N (fun c y => Or.inl y) (fun c y q => ?_)) e
      rcases y with y | ⟨_, _, y⟩
      · exact y
      · have := q.1.1.2.2
        rw [y] at this
        have this : P.1 i = 0 := this
        exact absurd (Int32.toInt_inj.mp (show (hI h (b + 1) i).toInt = (0 : Int32).toInt by rw [v1, this]; rfl)) c3
/-- whether a man may have been that one -/
def MayB (L : Nat → Nat → Int) (P : Pz) (t m y q : Nat) : Prop := m = y ∨ (rkF L t (pzS (bsP P)) = L 1 0 ∧ ∃ w : Nat, w < q ∧ L 80 (6 * m + w) = (y : Int))
theorem gal_50 {K : Hp → Nat → Nat → Int32 → Int32 → Int32 → Int32 → Option (Int32 × Hp)} {t m y : Nat} {x2 x3 x4 x5 : Int32} (G : BrG L P) (tt : t < 64 ∧ 0 < P.1 t ∧ (P.1 t - 1) % 2 = (pzS (bsP P) : Int)) (mm : (m : Int) < L 2 0) (e2 : x2.toInt = (t : Int)) (e3 : x3.toInt = (pzS (bsP P) : Int)) (e4 : x4.toInt = (y : Int)) (e5 : x5.toInt = (m : Int)) (S : BrB n p b g L P v3 u h) {Q : Prop} (hK : ∀ {x6 : Int32}, ((x6 = 0 ∧ ¬ MayB L P t m y (L 81 m).toNat) ∨ (x6 = 1 ∧ MayB L P t m y (L 81 m).toNat)) → sX15_guessesAll_118 F K F h (n + 513) b x2 x3 x4 x5 x6 (0 : Int32) = some o → Q) : ∀ (f : Nat) {x6 x7 : Int32} {q : Nat}, x7.toInt = (q : Int) → (q : Int) ≤ L 81 m → ((x6 = 0 ∧ ¬ MayB L P t m y q) ∨ (x6 = 1 ∧ MayB L P t m y q)) → sX15_guessesAll_50 F K f h (n + 513) b x2 x3 x4 x5 x6 x7 = some o → Q := by
  have z1 : (1 : Int32).toInt = 1 := rfl
  have z6 : (6 : Int32).toInt = 6 := rfl
  obtain ⟨LW, LD, Oz, hz, cz⟩ := G
  obtain ⟨k, Rl, ⟨eb, A⟩, o1, o2⟩ := S
  obtain ⟨w, hw, e4w, _, C⟩ := id Rl
  have H := LW.1
  have L2 := H.2.2.1
  have m12 : m < 12 := by omega
  have n5 : x5.toNatClampNeg = m := by have := nc_i (x := x5) (by omega); omega
  have nt : x2.toNatClampNeg = t := by have := nc_i (x := x2) (by omega); omega
  have b81 := (LW.2.1.1 m m12).1
  have v81 : (hI h (n + w + 9) m).toInt = L 81 m := congrFun (congrFun C.2.1 81) m
  have v80 : ∀ i, (hI h (n + w + 8) i).toInt = L 80 i := fun i => congrFun (congrFun C.2.1 80) i
  have v12 : (hI h (n + 513) 12).toInt = L 1 0 := C.2.2.2.1
  have tL := ((Oz.1 t tt.1).2 tt.2.1).1
  have mono : ∀ {q q' : Nat}, q ≤ q' → MayB L P t m y q → MayB L P t m y q' := fun l z => by
    rcases z with z | ⟨z1, v, z2, z3⟩
    · exact Or.inl z
    · exact Or.inr ⟨z1, v, by omega, z3⟩
  have d14 := lx_e k hw (f := 14) (b := 9) (by decide)
  have d13 := lx_e k hw (f := 13) (b := 8) (by decide)
  intro f
  induction f with
  | zero => intro x6 x7 q _ _ _ e; exact absurd e (by rw [sX15_guessesAll_50]; exact fun z => nomatch z)
  | succ f ih =>
    intro x6 x7 q q7 ql I e
    rw [sX15_guessesAll_50] at e
    unfold sX15_guessesAll_94 sX15_guessesAll_105 sX15_guessesAll_106 at e
    replace e := ce_e e4w e
    replace e := ce_e d14 e
    replace e := gg_e e
    rcases br_s e with ⟨c1, e⟩ | ⟨c1, e⟩ <;> rw [n5] at c1
    · have c1 := le_i c1
      have : q = (L 81 m).toNat := by omega
      rw [this] at I
      exact hK I e
    have c1 := nle_i c1
    have m6 : ((6 : Int32) * x5).toInt = 6 * (m : Int) := by rw [tm (by rw [z6, e5]; omega), z6, e5]
    have v : (((6 : Int32) * x5) + x7).toInt = 6 * (m : Int) + q := by rw [ta (by omega), m6, q7]
    have nv : (((6 : Int32) * x5) + x7).toNatClampNeg = 6 * m + q := by have := nc_i (x := ((6 : Int32) * x5) + x7) (by omega); omega
    have v7 : (x7 + (1 : Int32)).toInt = ((q + 1 : Nat) : Int) := by rw [ta (by omega), z1, q7]; omega
    have ors : ∀ t0 : Int32, (t0 = 0 ∨ t0 = 1) → ((x6 ||| t0 = 0 ∧ x6 = 0 ∧ t0 = 0) ∨ (x6 ||| t0 = 1 ∧ (x6 = 1 ∨ t0 = 1))) := fun t0 ht => by
      rcases I with ⟨I, _⟩ | ⟨I, _⟩ <;> rcases ht with ht | ht <;> rw [I, ht] <;> decide
    replace e := ce_e e4w e
    replace e := ce_e d13 e
    replace e := gg_e e
    have step : ∀ {t0 : Int32}, ((t0 = 0 ∧ ¬ (rkF L t (pzS (bsP P)) = L 1 0 ∧ L 80 (6 * m + q) = (y : Int))) ∨ (t0 = 1 ∧ (rkF L t (pzS (bsP P)) = L 1 0 ∧ L 80 (6 * m + q) = (y : Int)))) → sX15_guessesAll_50 F K f h (n + 513) b x2 x3 x4 x5 (x6 ||| t0) (x7 + (1 : Int32)) = some o → Q := fun {t0} ht e => by
      refine ih (q := q + 1) v7 (by omega) ?_ e
      rcases ors t0 (by rcases ht with x | x; exact Or.inl x.1; exact Or.inr x.1) with ⟨x1, x2, x3⟩ | ⟨x1, x2⟩
      · refine Or.inl ⟨x1, fun z => ?_⟩
        rcases I with ⟨_, I⟩ | ⟨I, _⟩
        rotate_left
        · rw [I] at x2; exact absurd x2 (by decide)
        rcases ht with ⟨_, ht⟩ | ⟨ht, _⟩
        rotate_left
        · rw [ht] at x3; exact absurd x3 (by decide)
        rcases z with z | ⟨z1, v, z2, z3⟩
        · exact I (Or.inl z)
        · by_cases vq : v = q
          · rw [vq] at z3; exact ht ⟨z1, z3⟩
          · exact I (Or.inr ⟨z1, v, by omega, z3⟩)
      · refine Or.inr ⟨x1, ?_⟩
        rcases x2 with x2 | x2
        · rcases I with ⟨I, _⟩ | ⟨_, I⟩
          · rw [x2] at I; exact absurd I (by decide)
          · exact mono (by omega) I
        · rcases ht with ⟨ht, _⟩ | ⟨_, ht⟩
          · rw [x2] at ht; exact absurd ht (by decide)
          · exact Or.inr ⟨ht.1, q, by omega, ht.2⟩
    rcases br_s e with ⟨c2, e⟩ | ⟨c2, e⟩ <;> rw [nv] at c2
    · have y80 : L 80 (6 * m + q) = (y : Int) := by rw [← v80, c2, e4]
      obtain ⟨o9, e9, e⟩ := cl_s e
      obtain ⟨r1, r2⟩ := rkf_v (V := vM n 0 b 0 0 0 (n + w)) (M := P.1) H ⟨(rfl_m.mpr C).1, (rfl_m.mpr C).2, A.1.1, A.2.1⟩ (by omega) (by omega) e9
      rw [nt, e3] at r2
      rw [r1] at e
      rcases br_s e with ⟨c3, e⟩ | ⟨c3, e⟩
      · replace e := nx_e e
        replace e := nx_e e
        exact step (Or.inr ⟨rfl, by rw [← r2, c3]; exact v12, y80⟩) e
      · have c3 := ne_i c3
        replace e := nx_e e
        replace e := nx_e e
        exact step (Or.inl ⟨rfl, fun z => c3 (by rw [r2, z.1, v12])⟩) e
    · have c2 := ne_i c2
      replace e := nx_e e
      replace e := nx_e e
      exact step (Or.inl ⟨rfl, fun z => c2 (by rw [v80, z.2, e4])⟩) e
theorem gal_21 {t : Nat} {x2 x3 x4 : Int32} (G : BrG L P) (hp : p < 60) (tt : t < 64 ∧ 0 < P.1 t ∧ (P.1 t - 1) % 2 = (pzS (bsP P) : Int)) (e2 : x2.toInt = (t : Int)) (e3 : x3.toInt = (pzS (bsP P) : Int)) (e4 : x4.toInt = (mnO (P.1 t) : Int)) (np : ∀ c, Pr c → ¬ c.2.1 = t) : ∀ (f : Nat) {h : Hp} {x5 : Int32} {m : Nat}, DyK n h0 h → FrW (brW n h0) h0 h → BrB n p b g L P v3 u h → BrN n L P (fun c => Pr c ∨ (c.2.1 = t ∧ c.2.2.1 < m)) h → x5.toInt = (m : Int) → sX15_guessesAll_21 F f h (n + 513) b x2 x3 x4 x5 = some o → GrR n p b g L P v3 u (fun c => Pr c ∨ c.2.1 = t) h0 o := by
  have z1 : (1 : Int32).toInt = 1 := rfl
  have G' := G
  obtain ⟨LW, LD, Oz, hz, cz⟩ := G'
  have L2 := LW.1.2.2.1
  intro f
  induction f with
  | zero => intro h x5 m _ _ _ _ _ e; exact absurd e (by rw [sX15_guessesAll_21]; exact fun z => nomatch z)
  | succ f ih =>
    intro h x5 m k0 Fr S N i5 e
    obtain ⟨k, Rl, ⟨eb, A⟩, o1, o2⟩ := id S
    obtain ⟨w, hw, e4w, _, C⟩ := id Rl
    have m2 := rlw_2 C
    rw [sX15_guessesAll_21] at e
    unfold sX15_guessesAll_45 at e
    replace e := ce_e e4w e
    rcases br_s e with ⟨c1, e⟩ | ⟨c1, e⟩
    · have c1 := le_i c1
      rw [so_e e]
      refine ⟨Fr, S, Or.inr ⟨show ¬ (1 : Int32) = 0 by decide, brn_w N (fun c y => ?_) (fun c y q => ?_)⟩⟩
      · rcases y with y | y
        · exact Or.inl y
        · exact Or.inr y.1
      · rcases y with y | y
        · exact Or.inl y
        · exact Or.inr ⟨y, by have := q.1.2.2.1; omega⟩
    have c1 := nle_i c1
    have mm : (m : Int) < L 2 0 := by omega
    have go : ∀ {x6 : Int32}, ((x6 = 0 ∧ ¬ MayB L P t m (mnO (P.1 t)) 0) ∨ (x6 = 1 ∧ MayB L P t m (mnO (P.1 t)) 0)) → sX15_guessesAll_50 F (sX15_guessesAll_21 F f) F h (n + 513) b x2 x3 x4 x5 x6 (0 : Int32) = some o → GrR n p b g L P v3 u (fun c => Pr c ∨ c.2.1 = t) h0 o := fun {x6} I e => by
      refine gal_50 (y := mnO (P.1 t)) (Q := GrR n p b g L P v3 u (fun c => Pr c ∨ c.2.1 = t) h0 o) G tt mm e2 e3 e4 i5 S (fun {x6} my e => ?_) F (q := 0) rfl (by have := ((LW.2.1.1 m (by omega)).1).1; omega) I e
      have b81 := ((LW.2.1.1 m (by omega)).1).1
      refine gal_118 (Pr := fun c => Pr c ∨ (c.2.1 = t ∧ c.2.2.1 < m)) (t := t) (m := m) G hp tt mm ?_ e2 i5 (fun c y z => ?_) (fun {h'} a1 a2 a3 a4 e => ih (m := m + 1) a1 a2 a3 (brn_w a4 (fun c y => ?_) (fun c y _ => ?_)) (by rw [ta (by omega), z1, i5]; omega) e) F (i := 0) k0 Fr S (brn_w N (fun c y => Or.inl y) (fun c y _ => ?_)) rfl e
      · rcases my with ⟨x, y⟩ | ⟨x, y⟩
        · refine Or.inl ⟨x, fun s z => y ?_⟩
          rcases z.2.2.2 with v | ⟨v1, v, v2, v3⟩
          · exact Or.inl v
          · exact Or.inr ⟨v1, v, by omega, v3⟩
        · refine Or.inr ⟨by rw [x]; decide, fun s s1 s2 s3 => ⟨⟨s1, s2, s3⟩, tt, mm, ?_⟩⟩
          rcases y with v | ⟨v1, v, v2, v3⟩
          · exact Or.inl v
          · exact Or.inr ⟨v1, v, by omega, v3⟩
      · rcases y with y | y
        · exact np c y z.1
        · omega
      · rcases y with (y | y) | y
        · exact Or.inl y
        · exact Or.inr ⟨y.1, by omega⟩
        · exact Or.inr ⟨y.1, by omega⟩
      · rcases y with y | ⟨y1, y2⟩
        · exact Or.inl (Or.inl y)
        · by_cases v : c.2.2.1 = m
          · exact Or.inr ⟨y1, v⟩
          · exact Or.inl (Or.inr ⟨y1, by omega⟩)
      · rcases y with y | ⟨_, _, y⟩
        · exact y
        · exact absurd y (Nat.not_lt_zero _)
    rcases br_s e with ⟨c2, e⟩ | ⟨c2, e⟩
    · exact go (Or.inr ⟨rfl, Or.inl (by rw [c2] at i5; omega)⟩) e
    · have c2 := ne_i c2
      refine go (Or.inl ⟨rfl, fun z => ?_⟩) e
      rcases z with z | ⟨_, v, z, _⟩
      · exact c2 (by omega)
      · exact absurd z (Nat.not_lt_zero _)
/-- all squares come to -/
theorem bf_58 (G : BrG L P) (hp : p < 60) : ∀ (f : Nat) {h : Hp} {x3 : Int32} {t : Nat}, DyK n h0 h → FrW (brW n h0) h0 h → BrB n p b g L P v3 u h → BrN n L P (fun c => c.2.1 < t) h → x3.toInt = (t : Int) → sX15_before_58 F f h (n + 513) b x3 = some o → FrW (brW n h0) h0 o.2 ∧ BrB n p b g L P v3 u o.2 ∧ ((o.1 = (-104 : Int32) ∧ hI o.2 (n + 513) 44 = 0 ∧ OvB L (bsP P) (BfQ L (bsP P))) ∨ (o.1 = hI o.2 (n + 513) 44 ∧ BrN n L P (fun _ => True) o.2)) := by
  have z0 : (0 : Int32).toInt = 0 := rfl
  have z1 : (1 : Int32).toInt = 1 := rfl
  have G' := G
  obtain ⟨LW, LD, Oz, hz, cz⟩ := G'
  have H := LW.1
  have sq := sq_64 H
  have L2 := H.2.2.1
  have S2 := Oz.2.2.1
  intro f
  induction f with
  | zero => intro h x3 t _ _ _ _ _ e; exact absurd e (by rw [sX15_before_58]; exact fun z => nomatch z)
  | succ f ih =>
    intro h x3 t k0 Fr S N t3 e
    obtain ⟨k, Rl, ⟨eb, A⟩, o1, o2⟩ := id S
    obtain ⟨w, hw, e4w, _, C⟩ := id Rl
    have s13 : (hI h (n + 513) 13).toInt = L 0 0 * L 1 0 := C.2.2.2.2
    rw [sX15_before_58] at e
    unfold sX15_before_108 sX15_before_84 sX15_before_97 sX15_before_108 at e
    rcases br_s e with ⟨c1, e⟩ | ⟨c1, e⟩
    · have c1 := le_i c1
      rw [so_e e]
      refine ⟨Fr, S, Or.inr ⟨rfl, brn_w N (fun _ _ => trivial) (fun c _ q => ?_)⟩⟩
      have tq := q.1.2.1
      have := ((Oz.1 c.2.1 tq.1).2 tq.2.1).1
      omega
    have c1 := nle_i c1
    have nt : x3.toNatClampNeg = t := by have := nc_i (x := x3) (by omega); omega
    have v3' : (x3 + (1 : Int32)).toInt = ((t + 1 : Nat) : Int) := by rw [ta (by omega), z1, t3]; omega
    have vt : (hI h (b + 1) t).toInt = P.1 t := A.2.1 t (by omega)
    have mt := Oz.1 t (by omega)
    have nxt : ∀ {h' : Hp}, DyK n h0 h' → FrW (brW n h0) h0 h' → BrB n p b g L P v3 u h' → BrN n L P (fun c => c.2.1 < t ∨ c.2.1 = t) h' → sX15_before_58 F f h' (n + 513) b (x3 + (1 : Int32)) = some o → FrW (brW n h0) h0 o.2 ∧ BrB n p b g L P v3 u o.2 ∧ ((o.1 = (-104 : Int32) ∧ hI o.2 (n + 513) 44 = 0 ∧ OvB L (bsP P) (BfQ L (bsP P))) ∨ (o.1 = hI o.2 (n + 513) 44 ∧ BrN n L P (fun _ => True) o.2)) := fun {h'} a1 a2 a3 a4 e => ih (t := t + 1) a1 a2 a3 (brn_w a4 (fun c y => by omega) (fun c y _ => by omega)) v3' e
    have skip : ¬ (0 < P.1 t ∧ (P.1 t - 1) % 2 = (pzS (bsP P) : Int)) → BrN n L P (fun c => c.2.1 < t ∨ c.2.1 = t) h := fun nz => brn_w N (fun c y => Or.inl y) (fun c y q => by
      rcases y with y | y
      · exact y
      · have := q.1.2.1.2
        rw [y] at this
        exact absurd this nz)
    replace e := ce_e A.1.1 e
    replace e := gg_e e
    rcases br_s e with ⟨c2, e⟩ | ⟨c2, e⟩ <;> rw [nt] at c2
    · have c2 := le_i c2
      have c2 : (hI h (b + 1) t).toInt ≤ 0 := c2
      replace e := nx_e e
      exact nxt k0 Fr S (skip (fun z => by omega)) e
    have c2 := nle_i c2
    have c2 : 0 < (hI h (b + 1) t).toInt := c2
    have p0 : 0 < P.1 t := by omega
    have pt := (mt.2 p0).2
    replace e := ce_e A.1.1 e
    replace e := gg_e e
    obtain ⟨o7, e7, e⟩ := cl_s e
    unfold sX15_sideOf at e7
    have q7 := so_e e7
    have h7 : o7.2 = h := by rw [q7]
    rw [h7] at e
    have s7 : o7.1.toInt = (P.1 t - 1) % 2 := by
      rw [q7, nt]
      show ((hI h (b + 1) t - (1 : Int32)) &&& (1 : Int32)).toInt = _
      have d1 : (hI h (b + 1) t - (1 : Int32)).toInt = P.1 t - 1 := by rw [ts (by omega), vt, z1]
      rw [and_i (m := 1) (by omega) (by decide) rfl, d1]
      rfl
    have sb : (hI h b 1).toInt = (pzS P : Int) := A.2.2.1
    rcases br_s e with ⟨c3, e⟩ | ⟨c3, e⟩
    · replace e := nx_e e
      refine nxt k0 Fr S (skip (fun z => ?_)) e
      have z2 : (P.1 t - 1) % 2 = ((1 - pzS P : Nat) : Int) := z.2
      rw [c3, sb] at s7
      omega
    have c3 := ne_i c3
    have own : (P.1 t - 1) % 2 = (pzS (bsP P) : Int) := by
      show (P.1 t - 1) % 2 = ((1 - pzS P : Nat) : Int)
      omega
    obtain ⟨og, eg, e⟩ := cl_s e
    have kg : DyK n h og.2 := dk_X15_guessesAll (dk_self k) eg
    have Rg' : GrR n p b g L P v3 u (fun c => c.2.1 < t ∨ c.2.1 = t) h og := by
      unfold sX15_guessesAll sX15_guessesAll_16 at eg
      obtain ⟨v1, w1, eg⟩ := nm_s eg
      replace eg := ce_e A.1.1 eg
      replace eg := gg_e eg
      obtain ⟨om, em, eg⟩ := cl_s eg
      unfold sX15_manOf at em
      have qm := so_e em
      have hm : om.2 = h := by rw [qm]
      rw [hm] at eg
      have d1 : (hI h (b + 1) t - (1 : Int32)).toInt = P.1 t - 1 := by rw [ts (by omega), vt, z1]
      refine gal_21 (Pr := fun c => c.2.1 < t) G hp ⟨by omega, p0, own⟩ t3 ?_ ?_ (fun c y z => by omega) F (m := 0) (dk_self k) (frb_t (dk_self k) fw_0 fw_0) S (brn_w N (fun c y => Or.inl y) (fun c y _ => ?_)) rfl eg
      · rw [w1]
        show ((1 : Int32) - hI h b 1).toInt = ((1 - pzS P : Nat) : Int)
        rw [ts (by omega), z1, sb]; omega
      · rw [qm, nt]
        show ((hI h (b + 1) t - (1 : Int32)) >>> ((1 : Int32) &&& 31)).toInt = _
        rw [shr_i (s := 1) 1 rfl, d1, (mno_lt (L := L) p0 pt).2]
        rfl
      · rcases y with y | ⟨_, y⟩
        · exact y
        · exact absurd y (Nat.not_lt_zero _)
    have Frg := frb_t k0 Fr Rg'.1
    have k0g := dk_t k0 kg
    rcases br_s e with ⟨c4, e⟩ | ⟨c4, e⟩
    · rcases Rg'.2.2 with ⟨_, q⟩ | ⟨q, _⟩
      rotate_left
      · exact absurd c4 q
      replace e := nx_e e
      rw [so_e e]
      obtain ⟨a1, a2, ⟨a3, a4⟩, a5, a6⟩ := Rg'.2.1
      have s6 := dk_610 a1
      have ko : DyK n og.2 (wI og.2 (n + 513) 44 0) := dk_wI (dk_self a1)
      have Fo : FrW (fun a i => a = n + 513 ∧ i = 44) og.2 (wI og.2 (n + 513) 44 0) := fw_wI fw_0 ⟨rfl, rfl⟩
      obtain ⟨blo, bhi⟩ := dy_lo a1 (q := (536, 60, 5, 4000, fsB)) (by decide) hp a3
      have bhi : b + 5 ≤ hS og.2 := bhi
      have eb' := ks_r ko (q := (536, 60, 5, 4000, fsB)) (by decide) a3
      obtain ⟨own', Dw'⟩ := ko.1.1
      have Tb := (bk_dy Dw' (q := (536, 60, 5, 4000, fsB)) (by decide) hp eb').2.2
      refine ⟨frb_t k0g Frg (fw_s Fo (fun a i z => Or.inr (Or.inr (Or.inl ⟨z.1, Or.inr z.2⟩)))), ⟨dk_wI a1, rlw_k a1 ko Fo (fun j i hj z => by omega) a2, ⟨eb', rba_f a4 Tb (fun j i hj => Fo.2 _ _ (by omega) (fun z => by omega))⟩, by rw [rI_o (by decide)]; exact a5, fun i hi => by rw [rI_a (by omega)]; exact a6 i hi⟩, Or.inl ⟨rfl, rI_s, q⟩⟩
    · rcases Rg'.2.2 with ⟨q, _⟩ | ⟨_, q⟩
      · exact absurd q c4
      replace e := nx_e e
      exact nxt k0g Frg Rg'.2.1 q e
end
end
section
/-! BEFORE, joint -/
section
variable {L : Nat → Nat → Int} {P B : Pz} {N : Nat} {f : Nat → Cd} {Bf Bf' Pr : Cd → Prop}
theorem sqm_iff (eq : ∀ x, Bf x ↔ Bf' x) (S : SqM L B Bf Pr N f) : SqM L B Bf' Pr N f := ⟨S.1, fun x => by rw [S.2 x, eq x]⟩
theorem ovb_iff (eq : ∀ x, Bf x ↔ Bf' x) (O : OvB L B Bf) : OvB L B Bf' := by
  obtain ⟨g, s, m⟩ := O
  exact ⟨g, s, fun k hk => (eq _).mp (m k hk)⟩
theorem bfqd (LW : LwOk L) (Oz : PzOk L P) (F3 : ¬ F3p L P) (nb : L 18 0 = 0) : ∀ x, BfQ L (bsP P) x ↔ BfD L (bsP P) x := fun x => (bf_eq (B := bsP P) LW.1 LW.2.1 Oz.1 (by show 1 - pzS P < 2; omega) F3 nb).symm
end
section
variable {n j F : Nat} {h : Hp} {σ : Sy} {o : Int32 × Hp} {x1 : Int32}
theorem sybef_n (e : sPl σ x1 = none) : syBef σ x1 = σ := by unfold syBef; rw [e]
theorem sybef_s {P : Pz} (e : sPl σ x1 = some P) : syBef σ x1 = if prB' (PlL (syL σ)) = true then syFd σ (bfY (syL σ) (bsP P)) else σ := by unfold syBef; rw [e]
theorem ok_bef (Ok : SyOk σ) : SyOk (syBef σ x1) := by
  cases e : sPl σ x1 with
  | none => rw [sybef_n e]; exact Ok
  | some P =>
    rw [sybef_s e]
    by_cases c : prB' (PlL (syL σ)) = true
    · rw [if_pos c]
      have Oz := spl_ok Ok e
      have H := Ok.1.1
      have K := Ok.1.2.1
      have Ob := bs_ok Oz
      cases q : bfL (syL σ) (bsP P) with
      | none =>
        have eY : bfY (syL σ) (bsP P) = [] := by unfold bfY; rw [q]
        rw [eY]
        exact ⟨Ok.1, Ok.2.1, Ok.2.2.1, ⟨Nat.zero_le _, fun Q hQ => absurd hQ (List.not_mem_nil)⟩, Ok.2.2.2.2.1, Ok.2.2.2.2.2.1, Ok.2.2.2.2.2.2.1, fun Q hQ => absurd hQ (List.not_mem_nil)⟩
      | some v =>
        have eY : bfY (syL σ) (bsP P) = bfF (bsP P) v := by unfold bfY; rw [q]
        have sp : v.1 ≤ 3000 ∧ SqM (syL σ) (bsP P) (BfD (syL σ) (bsP P)) (fun _ => True) v.1 v.2 := by
          unfold bfL at q
          by_cases ex : ∃ q : Nat × (Nat → Cd), q.1 ≤ 3000 ∧ SqM (syL σ) (bsP P) (BfD (syL σ) (bsP P)) (fun _ => True) q.1 q.2
          · rw [dif_pos ex] at q
            rw [← Option.some.inj q]
            exact Classical.choose_spec ex
          · rw [dif_neg ex] at q
            exact nomatch q
        have each : ∀ Q, Q ∈ bfF (bsP P) v → PzOk (syL σ) Q ∧ PzE (syL σ) Q := fun Q hQ => by
          unfold bfF at hQ
          rw [List.mem_map] at hQ
          obtain ⟨k, hk, eQ⟩ := hQ
          rw [List.mem_range] at hk
          have bd := sqm_f sp.2 hk
          rw [← eQ]
          have o1 := wr_ok H K (gs_rd H Ob.1 Ob.2.2.1 bd.1 bd.2.1.1) bd.2.2.2.2.1
          exact ⟨o1, pze_w o1 bd.2.2.2.2.1⟩
        rw [eY]
        exact ⟨Ok.1, Ok.2.1, Ok.2.2.1, ⟨by show (bfF (bsP P) v).length ≤ 3000; rw [bff_l]; exact sp.1, fun Q hQ => (each Q hQ).1⟩, Ok.2.2.2.2.1, Ok.2.2.2.2.2.1, Ok.2.2.2.2.2.2.1, fun Q hQ => (each Q hQ).2⟩
    · rw [if_neg c]; exact Ok
theorem ra_bef (k : DyK n h h) (Ok : SyOk σ) (R : RelR n j h σ) (c20 : 0 ≤ syL σ 20 0) (e : sX15_before F h (n + 513) x1 = some o) : RaO n j h (syBef σ x1) o (anBef σ x1) := by
  have z0 : (0 : Int32).toInt = 0 := rfl
  have s6 := dk_610 k
  unfold sX15_before sX15_before_5 sX15_before_41 at e
  unfold anBef
  obtain ⟨o1, e1, e⟩ := cl_s e
  obtain ⟨t1, t2⟩ := has_r k R.2.1 e1
  rw [t1] at e
  rcases br_s e with ⟨c1, e⟩ | ⟨c1, e⟩
  · rcases t2 with ⟨_, t2⟩ | ⟨t2, _⟩
    · rw [ple_n t2, sybef_n t2, so_e e]
      exact rao_0 k R rfl rfl
    · exact absurd c1 t2
  rcases t2 with ⟨t2, _⟩ | ⟨_, P, t2⟩
  · exact absurd t2 c1
  rw [ple_s t2, sybef_s t2]
  obtain ⟨w, hw, e4, e5, C⟩ := id R.1
  have vf : ∀ i, i < 30 → (hI h (n + w) i).toInt = syL σ i 0 := fun i hi => by
    have := congrFun (congrFun C.2.1 i) 0
    unfold lwR at this
    rw [if_pos hi] at this
    exact this
  have no : ¬ PlL (syL σ) → some ((-103 : Int32), h) = some o → RaO n j h (if prB' (PlL (syL σ)) = true then syFd σ (bfY (syL σ) (bsP P)) else σ) o (if prB' (PlL (syL σ)) = true then bfN (syL σ) (bsP P) else -103) := fun np e => by
    have pf := prb_f.mpr np
    rw [so_e e, pf, if_neg (by decide), if_neg (by decide)]
    exact rao_0 k R rfl rfl
  replace e := ce_e e4 e
  rcases br_s e with ⟨c2, e⟩ | ⟨c2, e⟩
  rotate_left
  · exact no (fun z => c2 (Int32.toInt_inj.mp (by rw [vf 15 (by decide), z.1]; rfl))) e
  replace e := ce_e e4 e
  rcases br_s e with ⟨c3, e⟩ | ⟨c3, e⟩
  rotate_left
  · exact no (fun z => c3 (Int32.toInt_inj.mp (by rw [vf 18 (by decide), z.2.1]; rfl))) e
  replace e := ce_e e4 e
  rcases br_s e with ⟨c4, e⟩ | ⟨c4, e⟩
  rotate_left
  · have c4 := nle_i c4
    exact no (fun z => by have := vf 20 (by decide); rw [z.2.2] at this; omega) e
  have c4 := le_i c4
  have v20 := vf 20 (by decide)
  have pl : PlL (syL σ) := ⟨by rw [← vf 15 (by decide), c2]; rfl, by rw [← vf 18 (by decide), c3]; rfl, by omega⟩
  have pt := prb_e.mpr pl
  rw [pt, if_pos rfl, if_pos rfl]
  obtain ⟨x0, x60, p60, _⟩ := spl_b t2
  have Oz := spl_ok Ok t2
  have Pe := spl_pe Ok t2
  obtain ⟨b, eb, A⟩ := rpl_p R.2.1 t2
  obtain ⟨h8, w8, e⟩ := nm_s e
  have k8 : DyK n h h8 := by rw [w8]; exact dk_wI k
  have F8 : FrW (fun a i => a = n + 513 ∧ i = 44) h h8 := by rw [w8]; exact fw_wI fw_0 ⟨rfl, rfl⟩
  have eb8 := ks_r k8 (q := (536, 60, 5, 4000, fsB)) (by decide) eb
  replace e := ce_e (dk_e (a := 513) (f := 14) (b := 536) k8 (by decide +kernel)) e
  replace e := gg_e e
  replace e := ce_e eb8 e
  obtain ⟨blo, bhi⟩ := dy_lo k (q := (536, 60, 5, 4000, fsB)) (by decide) p60 eb
  have bhi : b + 5 ≤ hS h := bhi
  obtain ⟨own8, Dw8⟩ := k8.1.1
  have Tb := (bk_dy Dw8 (q := (536, 60, 5, 4000, fsB)) (by decide) p60 eb8).2.2
  have G : BrG (syL σ) P := ⟨Ok.1, Ok.2.2.2.2.1, Oz, Oz.2.2.2.2.2.1.2.2 pl.1, Pe.2.2 pl.2.2⟩
  have S8 : BrB n x1.toNatClampNeg b h (syL σ) P (hI h (n + 513) 3) (fun i => hI h (n + 515) i) h8 := ⟨k8, rlw_k k k8 F8 (fun j i hj z => by omega) R.1, ⟨eb8, rba_f A Tb (fun j i hj => F8.2 _ _ (by omega) (fun z => by omega))⟩, by rw [w8, rI_o (by decide)], fun i _ => by rw [w8, rI_a (by omega)]⟩
  have N8 : BrN n (syL σ) P (fun c => c.2.1 < 0) h8 := ⟨0, fun _ => (0, 0, 0, 0), Nat.zero_le _, ⟨by rw [w8, rI_s]; rfl, fun k hk => absurd hk (Nat.not_lt_zero _)⟩, fun i j _ hj => absurd hj (Nat.not_lt_zero _), fun c => ⟨fun z => by
    obtain ⟨k, hk, _⟩ := z
    exact absurd hk (Nat.not_lt_zero _), fun z => absurd z.1 (Nat.not_lt_zero _)⟩⟩
  have kk : DyK n h o.2 := dk_X15_before_58 F k8 e
  obtain ⟨Fo, ⟨_, Rl, _, ou1, ou2⟩, res⟩ := bf_58 (h0 := h) G p60 F (t := 0) k8 (frb_t (dk_self k) fw_0 (fw_s F8 (fun a i z => Or.inr (Or.inr (Or.inl ⟨z.1, Or.inr z.2⟩))))) S8 N8 rfl e
  obtain ⟨own, Dw⟩ := k.1.1
  -- the frame
  have nb : ∀ {a i : Nat}, brW n h a i → a < n + 610 → RS n a i ∨ (n + 587 ≤ a ∧ a ≤ n + 591) ∨ (a = n + 513 ∧ (i = 3 ∨ i = 44)) ∨ a = n + 515 ∨ (n + 584 ≤ a ∧ a ≤ n + 586) := fun {a i} c l => by
    rcases c with c | c | c | c | c | ⟨q, r, hq, er, c⟩
    · exact Or.inl c
    · exact Or.inr (Or.inl c)
    · exact Or.inr (Or.inr (Or.inl c))
    · exact Or.inr (Or.inr (Or.inr (Or.inl c)))
    · exact Or.inr (Or.inr (Or.inr (Or.inr c)))
    · have := fd_tag Dw hq er
      omega
  have nf : ∀ {a i : Nat}, brW n h a i → n + 610 ≤ a → ∃ q, q < 3000 ∧ own a = 8000 + q := fun {a i} c l => by
    rcases c with c | c | c | c | c | ⟨q, r, hq, er, c⟩
    · unfold RS at c; omega
    · omega
    · omega
    · omega
    · omega
    · obtain ⟨_, _, tr⟩ := fd_tag Dw hq er
      have u1 := tr (a - r) (by omega)
      rw [show r + (a - r) = a by omega] at u1
      exact ⟨q, hq, u1⟩
  have fr : FrR n h o.2 := frr_w k Fo (fun a i c la => by
    rcases c with c | c | c | c | c | ⟨q, r, hq, er, c⟩
    · exact Or.inl (rs_c c)
    · exact Or.inl (by omega)
    · exact Or.inl (by omega)
    · exact Or.inl (by omega)
    · exact Or.inl (by omega)
    · exact Or.inr ⟨(583, 3000, 5, 8000, fsB), by decide, by decide, q, r, hq, er, c⟩) (fun a i c z => by
    have := nb c (by omega)
    unfold RS at this
    omega)
  have rel : ∀ {l : List Pz}, RFd n o.2 (syFd σ l) → RelR n j o.2 (syFd σ l) := fun {l} rf => by
    refine ⟨Rl, fun p hp => rpi_f (σ := σ) k kk Fo hp (fun c => by have := nb c (by omega); unfold RS at this; omega) (fun a ea lo hi j i hj c => ?_) (R.2.1 p hp), fun g' hg => rgi_f (σ := σ) k kk Fo hg (lgle Ok g' hg) (fun c => by have := nb c (by omega); unfold RS at this; omega) (fun q hq c => by have := nb c (by omega); unfold RS at this; omega) (fun q a hq ea lo hi j i hj c => ?_) (R.2.2.1 g' hg), rf, ⟨?_, fun i hi => ?_⟩, rse_f k Fo (fun c => by have := nb c (by omega); unfold RS at this; omega) R.2.2.2.2.2⟩
    · obtain ⟨q, hq, u⟩ := nf c (by omega)
      have := (bk_dy Dw (q := (536, 60, 5, 4000, fsB)) (by decide) hp ea).2.1.2 j hj
      have this : own (a + j) = 4000 + p := this
      omega
    · obtain ⟨q', hq', u⟩ := nf c (by omega)
      have := (bk_dy Dw (q := (580, 2408, 5, 5000, fsB)) (by decide) (show 301 * g' + q < 2408 by omega) ea).2.1.2 j hj
      have this : own (a + j) = 5000 + (301 * g' + q) := this
      omega
    · rw [ou1]; exact R.2.2.2.2.1.1
    · have l3 := R.2.2.2.2.1.1
      have hi : i < (syO σ).length := hi
      rw [ou2 i (by rw [l3]; omega)]; exact R.2.2.2.2.1.2 i hi
  have eqs := bfqd Ok.1 Oz Pe.1 pl.2.1
  rcases res with ⟨r1, r2, r3⟩ | ⟨r1, N, f, N3, Rw, Sq⟩
  · have b1 := bfl_n (ovb_iff eqs r3)
    have eN : bfN (syL σ) (bsP P) = -104 := by unfold bfN; rw [b1]
    have eY : bfY (syL σ) (bsP P) = [] := by unfold bfY; rw [b1]
    rw [eN, eY]
    exact ⟨by rw [r1]; rfl, rel ⟨by rw [r2]; rfl, fun k hk => absurd hk (Nat.not_lt_zero _)⟩, kk, fr⟩
  · obtain ⟨f', b1, b2, b3⟩ := bfl_s N3 (sqm_iff eqs Sq)
    have eN : bfN (syL σ) (bsP P) = (N : Int) := by unfold bfN; rw [b1]
    have eY : bfY (syL σ) (bsP P) = bfF (bsP P) (N, f') := by unfold bfY; rw [b1]
    rw [eN, eY]
    refine ⟨by rw [r1]; exact Rw.1, rel ⟨by show (hI o.2 (n + 513) 44).toInt = ((bfF (bsP P) (N, f')).length : Int); rw [bff_l]; exact Rw.1, fun k hk => ?_⟩, kk, fr⟩
    have hk : k < (bfF (bsP P) (N, f')).length := hk
    rw [bff_l] at hk
    have hk : k < N := hk
    obtain ⟨id, a, i1, i2, i3, i4, _⟩ := Rw.2 k hk
    have nid : (hI o.2 (n + 585) k).toNatClampNeg = id := by have := nc_i (x := hI o.2 (n + 585) k) (by omega); omega
    exact ⟨_, a, bff_k hk, by omega, by rw [nid]; exact i3, by show RbA o.2 a (cdP (bsP P) (f' k)); rw [b2 k hk]; exact i4⟩
theorem bef_o {l : List Int} : syBef (syOut σ l) x1 = syOut (syBef σ x1) l := by
  cases e : sPl σ x1 with
  | none =>
    rw [sybef_n e, sybef_n (σ := syOut σ l) e]
  | some P =>
    rw [sybef_s e, sybef_s (σ := syOut σ l) e]
    show (if prB' (PlL (syL σ)) = true then syFd (syOut σ l) (bfY (syL σ) (bsP P)) else syOut σ l) = _
    by_cases c : prB' (PlL (syL σ)) = true
    · rw [if_pos c, if_pos c]; rfl
    · rw [if_neg c, if_neg c]
theorem fx_bef : FxL (fun σ => syBef σ x1) := fun σ => by
  show syL (syBef σ x1) = _ ∧ ∀ p P, _ → syP (syBef σ x1) p = some P
  cases e : sPl σ x1 with
  | none => rw [sybef_n e]; exact fx_s
  | some P =>
    rw [sybef_s e]
    by_cases c : prB' (PlL (syL σ)) = true
    · rw [if_pos c]; exact ⟨rfl, fun _ _ z => z⟩
    · rw [if_neg c]; exact fx_s
/-- what SI tells of the class for BEFORE -/
theorem si_bef {L : Nat × Nat} (k : DyK n h h) (I : SI n (n + 513) L h) : (∀ i, i < 1536 → BtS (hI h (n + 5) 2).toInt (hJ h (n + 26) i)) ∧ (hN h (n + 53) = 2 ∧ hN h (n + 54) = 2) ∧ 0 ≤ (hI h (n + 5) 7).toInt := by
  obtain ⟨ρ, c, T, r0, rm, ci, ri, _, _, _, xb⟩ := I
  have e2 : hR h n 2 = some (n + 5) := dk_e (a := 0) (f := 2) (b := 5) k (by decide +kernel)
  have e5 : hR h n 5 = some (n + 22) := dk_e (a := 0) (f := 5) (b := 22) k (by decide +kernel)
  have e9 : hR h n 9 = some (n + 48) := dk_e (a := 0) (f := 9) (b := 48) k (by decide +kernel)
  have e93 : hR h (n + 48) 3 = some (n + 49) := dk_e (a := 48) (f := 3) (b := 49) k (by decide +kernel)
  have e53 : hR h (n + 22) 3 = some (n + 26) := dk_e (a := 22) (f := 3) (b := 26) k (by decide +kernel)
  have q2 : ρ (n + 5) = 2 := rr T (thR T r0 (i := 2) (k2 := 2) rfl (by decide)) e2
  have q5 : ρ (n + 22) = 11 := rr T (thR T r0 (i := 5) (k2 := 11) rfl (by decide)) e5
  have q9 : ρ (n + 48) = 7 := rr T (thR T r0 (i := 9) (k2 := 7) rfl (by decide)) e9
  have q49 : ρ (n + 49) = 4 := rr T (thR T q9 (i := 3) (k2 := 4) rfl (by decide)) e93
  have w2 : cw c (n + 5) = 2102 := kid_w T r0 (i := 2) (w := 2102) rfl (by decide) e2
  have fm := ci.2.2.2.2.2.2.2.2.2.1 (n + 22) (n + 5) q5 q2 w2
  have w : ∀ {i k2 b : Nat}, hR h (n + 49) i = some b → rfK 4 i = k2 → k2 ≠ 0 → ρ b = k2 := fun {i k2 b} e a z => rr T (thR T q49 (i := i) (k2 := k2) a z) e
  have t := e49f k
  exact ⟨fun i hi => fm _ e53 i hi, ⟨thN T (w (t (3, 4) (by decide)) (k2 := 37) rfl (by decide)) rfl (by decide), thN T (w (t (4, 5) (by decide)) (k2 := 38) rfl (by decide)) rfl (by decide)⟩, (thI T q2 (i := 7) rfl : Rg 0 9 (hI h (n + 5) 7)).1⟩
end
section
variable {n j F : Nat} {h : Hp} {o o' : Int32 × Hp} {x1 : Int32}
theorem rlw_u {M M' : Nat → Nat → Int} (A : RLw n h M) (B : RLw n h M') : M 20 0 = M' 20 0 := by
  obtain ⟨w, hw, e4, _, C⟩ := A
  obtain ⟨w', hw', e4', _, C'⟩ := B
  rw [e4] at e4'
  have ww : n + w = n + w' := Option.some.inj e4'
  rw [← ww] at C'
  have a := congrFun (congrFun C.2.1 20) 0
  have b := congrFun (congrFun C'.2.1 20) 0
  rw [← a, ← b]
theorem jp_before {L : Nat × Nat} (J : JP n j h) (I : SI n (n + 513) L h) (e : sX11_before F h n x1 = some o) (e' : sX15_before F o.2 (n + 513) x1 = some o') : o.1 = o'.1 ∧ JP n j o'.2 := by
  have k := J.1
  obtain ⟨s1, s2, s3⟩ := si_bef k I
  refine jp_g (f := fun σ => syBef σ x1) (an := fun σ => anBef σ x1) J (fun _ Ok => ok_bef Ok) (fun _ _ => bef_o) (fun σ l => rfl) (fun σ k Ok R => ca_bef k Ok R (fun i hi s hs b => ?_) s2.1 s2.2 e) (fun σ k' Ok R => ra_bef k' Ok R ?_ e') fx_bef
  · have c2 : (hI h (n + 5) 2).toInt = syL σ 0 0 * syL σ 1 0 := R.1.2.1.2.2.1
    rw [← c2]
    exact s1 i hi s hs b
  · obtain ⟨_, _, σ0, l1, l2, _, Ok0, C0, R0, _⟩ := id J
    have c7 : (hI h (n + 5) 7).toInt = syL σ0 20 0 := C0.1.2.2.2.1.2.2.2.1
    have A := ca_bef k (syo_ok Ok0) C0 (fun i hi s hs b => by
      have c2 : (hI h (n + 5) 2).toInt = syL σ0 0 0 * syL σ0 1 0 := C0.1.2.1.2.2.1
      show (s : Int) < syL σ0 0 0 * syL σ0 1 0
      rw [← c2]
      exact s1 i hi s hs b) s2.1 s2.2 e
    have R1 := relr_c k A.2.2.1 (frc_o k A.2.2.2) (lgle (syo_ok (l := l2) Ok0)) R0
    have := rlw_u R1.1 R.1
    rw [← this]
    show 0 ≤ syL σ0 20 0
    rw [← c7]; exact s3
end
end
section
/-! POSITION, the problem too -/
section
variable {n j F : Nat} {h : Hp} {o o' : Int32 × Hp}
theorem jp_position {L : Nat × Nat} (J : JP n j h) (j1 : j < 100000) (I : SI n (n + 513) L h) (e : sX11_position F h n = some o) (e' : sX15_position F o.2 (n + 513) = some o') : o.1 = o'.1 ∧ JP n (j + 1) o'.2 := by
  obtain ⟨k, tz, σ, l1, l2, pb, Ok, C, R, Pc, Pr, Po⟩ := J
  have s6 := dk_610 k
  obtain ⟨i1, i2, i3, i4, i5, i6⟩ := si_psn k I
  obtain ⟨a, σ', Ok', C', R', k1, k2, f1, f2, sn, fx1, fx2⟩ := psn_k (σ := syOut σ l1) (l := l2) k (syo_ok Ok) C R j1 i1 i2 i3 i4 i5 i6 e e'
  have fx1 : syL σ' = syL σ := fx1
  have A0 := frz_o k f1 (fun a i c => by unfold TwC at c; omega)
  have B0 := frzr_o (dk_self k1) f2 (fun a i c => by unfold TwR at c; omega)
  have R1 := relr_c k k1 A0 (lgle (syo_ok (l := l2) Ok)) R
  have C2 := relc_r (dk_self k1) k2 B0 (lgle Ok') C'
  have Pc1 : CPb n o.2 (syL σ) pb := cpb_f k f1 (fun a i c => by
    rcases c with c | c
    · unfold CW at c
      rcases c with c | ⟨q, b, hq, er, l, _⟩
      · omega
      · obtain ⟨own, Dw⟩ := k.1.1
        obtain ⟨y, _⟩ := bk_dy Dw (q := (150, 2408, 6, 1000, fsP)) (by decide) hq er
        have y : n + 610 ≤ b := y
        omega
    · unfold TwC at c; omega) Pc
  have s3 := dk_610 k1
  have Pr2 : RPb n o'.2 (syL σ) pb := rpb_s (σ' := σ') (fun a i hh => (f2.2 a i (by omega) (fun c => by
    rcases c with c | c
    · unfold RWr at c
      rcases c with c | ⟨q, hq, _, i', b, hi, er, l, _⟩
      · omega
      · obtain ⟨own, Dw⟩ := k1.1.1
        obtain ⟨y, _⟩ := bk_dy Dw hq hi er
        omega
    · unfold TwR at c; omega)).1) sn R1.2.2.2.2.2 (rpb_o A0 Pr)
  refine ⟨Int32.toInt_inj.mp a, dk_self k2, ⟨tzn_r B0 (tzn_c k f1 (fun a i c => by unfold TwC at c; omega) tz.1), ser_b sn (ser_c A0 tz.2)⟩, σ', syO σ', l2, pb, Ok', C2, R', ?_, ?_, ?_⟩
  · rw [fx1]; exact cpb_o (dk_self k1) B0 Pc1
  · rw [fx1]; exact Pr2
  · cases pb with
    | none => trivial
    | some q =>
      obtain ⟨p, P, K, G, N⟩ := q
      exact ⟨Po.1, fx2 p P Po.2.1, Po.2.2⟩
end
end
