/-! wrongOf by its equation: rights, passes -/
section
variable {ρ : Nat → Nat} {c : Cm} {h o g h0 : Hp} {x0 b Ro M P R A B Ri F : Nat}
/-- what a position that is not wrong has -/
def VR (x0 b M P : Nat) (h : Hp) : Prop := cRt (hJ h b 2) (hI h x0 13).toNatClampNeg ≤ 16 ∧ (hI h b 3).toInt ≤ 8 ∧ (0 < (hI h b 3).toInt → 0 < (hI h M (hI h P 0).toNatClampNeg).toInt ∧ ¬ (hI h M (hI h P 0).toNatClampNeg - (1 : Int32)) &&& (1 : Int32) = hI h b 1)
theorem npos {x : Int32} {g : Hp} {o : Int32 × Hp} (e : some (x, g) = some o) (le : o.1 ≤ 0) (p : 0 < x.toInt) : False := by
  rw [← Option.some.inj e] at le
  have := le_i le
  have z0 : (0 : Int32).toInt = 0 := rfl
  have : x.toInt ≤ (0 : Int32).toInt := this
  omega
theorem w_242 {o : Int32 × Hp} (le : o.1 ≤ 0) : ∀ (f : Nat) {h : Hp} {x4 : Int32}, VP ρ x0 b Ro M P R A B Ri h → 0 ≤ x4.toInt → (∀ i : Nat, (i : Int) < x4.toInt → bitJ (hJ h b 2) i = true → i / (hI h x0 11).toNatClampNeg = 0 ∨ i / (hI h x0 11).toNatClampNeg + 1 = (hI h x0 12).toNatClampNeg) → sX15_wrongOf_242 F f h x0 b x4 = some o → VR x0 b M P h := by
  have z0 : (0 : Int32).toInt = 0 := rfl
  have z1 : (1 : Int32).toInt = 1 := rfl
  intro f
  induction f with
  | zero => intro h x4 _ _ _ e; exact absurd e (by simp [sX15_wrongOf_242])
  | succ f ih =>
    intro h x4 Q a4 C e
    unfold sX15_wrongOf_242 sX15_wrongOf_277 at e
    simp only [nm] at e
    obtain ⟨⟨f1, f1'⟩, ⟨f2, f2'⟩, ⟨f3, f3'⟩, f4⟩ := Q.2.2.2.2.1
    replace e := br_s e; rcases e with ⟨l4, e⟩ | ⟨l4, e⟩
    · have l4 := le_i l4
      have cs := nc_i (x := hI h x0 13) (by omega)
      have cf := nc_i (x := hI h x0 11) (by omega)
      have cr := nc_i (x := hI h x0 12) (by omega)
      have es : (hI h x0 13).toNatClampNeg = (hI h x0 11).toNatClampNeg * (hI h x0 12).toNatClampNeg := by
        have : (((hI h x0 11).toNatClampNeg * (hI h x0 12).toNatClampNeg : Nat) : Int) = (hI h x0 11).toInt * (hI h x0 12).toInt := by rw [Int.natCast_mul, cf, cr]
        have f4' : (hI h x0 13).toInt = (hI h x0 11).toInt * (hI h x0 12).toInt := f4
        omega
      have r16 : cRt (hJ h b 2) (hI h x0 13).toNatClampNeg ≤ 16 := by
        refine Nat.le_trans (crt_ce (F := (hI h x0 11).toNatClampNeg) (R := (hI h x0 12).toNatClampNeg) _ (fun i hi bi => C i (by omega) bi)) ?_
        rw [es]
        exact ce_16 _ (by omega) _ (by omega)
      replace e := br_s e; rcases e with ⟨p0, e⟩ | ⟨p0, e⟩
      · have p0 := le_i p0
        exact ⟨r16, by omega, fun n => by omega⟩
      · replace e := cl_s e; obtain ⟨o3, e3, e⟩ := e
        obtain ⟨k3, w3⟩ := v_pass Q e3
        replace e := br_s e; rcases e with ⟨_, e⟩ | ⟨n3, e⟩
        · exact (npos e le (by decide)).elim
        · obtain ⟨u1, u2, u3⟩ := w3.resolve_left n3
          exact ⟨r16, by omega, fun _ => ⟨u2, u3⟩⟩
    have l4 := nle_i l4
    have t4 : (x4 + (1 : Int32)).toInt = x4.toInt + 1 := ta (by rw [z1]; omega)
    have c4 := nc_i a4
    replace e := br_s e; rcases e with ⟨_, e⟩ | ⟨nb, e⟩
    · replace e := cl_s e; obtain ⟨o6, e6, e⟩ := e
      obtain ⟨h6, w6⟩ := v_right Q a4 l4 e6
      rw [h6] at e
      replace e := br_s e; rcases e with ⟨_, e⟩ | ⟨n6, e⟩
      · exact (npos e le (by decide)).elim
      · refine ih Q (by omega) (fun i hi bi => ?_) e
        by_cases z : i = x4.toNatClampNeg
        · rw [z]; exact w6.resolve_left n6
        · exact C i (by omega) bi
    · refine ih Q (by omega) (fun i hi bi => ?_) e
      by_cases z : i = x4.toNatClampNeg
      · exact absurd (bit_tst (x := x4) ⟨a4, by omega⟩ (by rw [← z]; exact bi)) nb
      · exact C i (by omega) bi
theorem vr_k (k : VF x0 Ro h g) (Q : VP ρ x0 b Ro M P R A B Ri h) (V : VR x0 b M P g) : VR x0 b M P h := by
  obtain ⟨⟨_, ⟨b1, _, _⟩, _, _⟩, _, ⟨r1, r2, r3, r4, r5, r6⟩, _⟩ := Q
  have kI : ∀ {a q : Nat} (i : Nat), ρ a = q → q ≠ 86 → q ≠ 16 → hI g a i = hI h a i := fun {a q} i ra n1 n2 => k.2.2 a i (fun z => n1 (by rw [← ra, z]; exact r1)) (fun z => n2 (by rw [← ra, z.1]; exact b1))
  have nx : ¬ x0 = Ro := fun z => by rw [z, r1] at b1; exact absurd b1 (by decide)
  have kx : hI g x0 13 = hI h x0 13 := k.2.2 x0 13 nx (fun z => by rcases z.2 with w | w <;> exact absurd w (by decide))
  unfold VR at V ⊢
  rw [k.2.1, kx, kI 3 r2 (by decide) (by decide), kI 0 r4 (by decide) (by decide), kI _ r3 (by decide) (by decide), kI 1 r2 (by decide) (by decide)] at V
  exact V
theorem w_165 {x2 t0 : Int32} {o : Int32 × Hp} (le : o.1 ≤ 0) (Q : VP ρ x0 b Ro M P R A B Ri h) (e : sX15_wrongOf_165 F h x0 b x2 t0 = some o) : VR x0 b M P h := by
  unfold sX15_wrongOf_165 sX15_wrongOf_231 sX15_wrongOf_233 at e
  have go : ∀ {x2 : Int32}, br (x2 = 0) (sX15_wrongOf_242 F F h x0 b (0 : Int32)) (some ((3 : Int32), h)) = some o → VR x0 b M P h := fun {x2} e => by
    replace e := br_s e; rcases e with ⟨_, e⟩ | ⟨_, e⟩
    · exact w_242 le F Q (by decide) (fun i hi => absurd hi (by show ¬ (i : Int) < 0; omega)) e
    · exact (npos e le (by decide)).elim
  replace e := cl_s e; obtain ⟨_, _, e⟩ := e
  replace e := (gd_s e).2
  replace e := br_s e; rcases e with ⟨_, e⟩ | ⟨_, e⟩
  · exact (npos e le (by decide)).elim
  replace e := cl_s e; obtain ⟨_, _, e⟩ := e
  replace e := (gd_s e).2
  replace e := br_s e; rcases e with ⟨_, e⟩ | ⟨_, e⟩
  · exact (npos e le (by decide)).elim
  replace e := br_s e; rcases e with ⟨_, e⟩ | ⟨_, e⟩
  · replace e := cl_s e; obtain ⟨_, _, e⟩ := e
    replace e := br_s e; rcases e with ⟨_, e⟩ | ⟨_, e⟩
    · exact go e
    replace e := cl_s e; obtain ⟨_, _, e⟩ := e
    replace e := br_s e; rcases e with ⟨_, e⟩ | ⟨_, e⟩
    · exact go e
    replace e := cl_s e; obtain ⟨_, _, e⟩ := e
    replace e := (gd_s e).2
    replace e := br_s e; rcases e with ⟨_, e⟩ | ⟨_, e⟩
    · replace e := cl_s e; obtain ⟨_, _, e⟩ := e
      replace e := (gd_s e).2
      replace e := br_s e; rcases e with ⟨_, e⟩ | ⟨_, e⟩
      · exact go e
      · exact (npos e le (by decide)).elim
    · exact (npos e le (by decide)).elim
  · exact (npos e le (by decide)).elim
theorem w_18 {o : Int32 × Hp} (le : o.1 ≤ 0) : ∀ (f : Nat) {h : Hp} {x2 x3 : Int32}, VP ρ x0 b Ro M P R A B Ri h → sX15_wrongOf_18 F f h x0 b x2 x3 = some o → VR x0 b M P h := by
  intro f
  induction f with
  | zero => intro h x2 x3 _ e; exact absurd e (by simp [sX15_wrongOf_18])
  | succ f ih =>
    intro h x2 x3 Q e
    unfold sX15_wrongOf_18 sX15_wrongOf_109 sX15_wrongOf_164 at e
    simp only [nm] at e
    have b70 : ∀ {x2 x4 t0 t1 t2 : Int32}, sX15_wrongOf_70 F (sX15_wrongOf_18 F f) h x0 b x2 x3 x4 t0 t1 t2 Ro = some o → VR x0 b M P h := fun {x2 x4 t0 t1 t2} e => by
      unfold sX15_wrongOf_70 sX15_wrongOf_106 sX15_wrongOf_107 sX15_wrongOf_109 sX15_manOf sX15_sideOf at e
      replace e := (gd_s e).2
      replace e := nm_s e; obtain ⟨h2, w2, e⟩ := e
      have k2 : VF x0 Ro h h2 := by rw [w2]; exact vf_w
      have Q2 := vp_k k2 Q
      simp only [nm] at e
      replace e := cl_s e; obtain ⟨o3, e3, e⟩ := e
      have := Option.some.inj e3; subst this
      dsimp only at e
      replace e := cl_s e; obtain ⟨o4, e4, e⟩ := e
      rw [oth_post e4] at e
      replace e := br_s e; rcases e with ⟨_, e⟩ | ⟨_, e⟩
      · exact vr_k k2 Q (ih Q2 e)
      replace e := cl_s e; obtain ⟨o6, e6, e⟩ := e
      have := Option.some.inj e6; subst this
      dsimp only at e
      replace e := cl_s e; obtain ⟨o7, e7, e⟩ := e
      rw [(rank_post e7).1] at e
      replace e := br_s e; rcases e with ⟨_, e⟩ | ⟨_, e⟩
      · exact vr_k k2 Q (ih Q2 e)
      · exact vr_k k2 Q (ih Q2 e)
    replace e := br_s e; rcases e with ⟨_, e⟩ | ⟨_, e⟩
    · replace e := cl_s e; obtain ⟨_, _, e⟩ := e
      replace e := br_s e; rcases e with ⟨_, e⟩ | ⟨_, e⟩
      · exact w_165 le Q e
      replace e := cl_s e; obtain ⟨_, _, e⟩ := e
      replace e := cl_s e; obtain ⟨_, _, e⟩ := e
      replace e := (gd_s e).2
      replace e := cl_s e; obtain ⟨_, _, e⟩ := e
      replace e := cl_s e; obtain ⟨_, _, e⟩ := e
      replace e := (gd_s e).2
      replace e := br_s e; rcases e with ⟨_, e⟩ | ⟨_, e⟩
      · exact w_165 le Q e
      · exact w_165 le Q e
    replace e := cl_s e; obtain ⟨_, _, e⟩ := e
    replace e := (gd_s e).2
    replace e := br_s e; rcases e with ⟨_, e⟩ | ⟨_, e⟩
    · exact ih Q e
    replace e := cl_s e; obtain ⟨r15, e15, e⟩ := e
    have y : r15 = Ro := r_eq Q.2.1.1 e15
    subst y
    replace e := cl_s e; obtain ⟨o16, e16, e⟩ := e
    unfold sX15_sideOf at e16
    have := Option.some.inj e16; subst this
    dsimp only at e
    replace e := (gd_s e).2
    replace e := cl_s e; obtain ⟨o18, e18, e⟩ := e
    unfold sX15_manOf at e18
    have := Option.some.inj e18; subst this
    dsimp only at e
    replace e := cl_s e; obtain ⟨_, _, e⟩ := e
    replace e := br_s e; rcases e with ⟨_, e⟩ | ⟨_, e⟩
    · exact b70 e
    · exact b70 e
/-- a position that is not wrong: few rights, few squares gone over -/
theorem wrong_w {o : Int32 × Hp} (T : TH ρ c h) (r0 : ρ x0 = 16) (rb : ρ b = 13) (sq : SqOk x0 h) (eM : hR h b 0 = some M) (eP : hR h b 4 = some P) (e : sX15_wrongOf F h x0 b = some o) (le : o.1 ≤ 0) : VR x0 b M P h := by
  obtain ⟨Ro, eRo, rRo⟩ := thR T r0 (i := 22) (k2 := 86) rfl (by decide)
  obtain ⟨R, eR, rR⟩ := thR T r0 (i := 4) (k2 := 15) rfl (by decide)
  obtain ⟨A, eA, rA⟩ := thR T rR (i := 6) (k2 := 76) rfl (by decide)
  obtain ⟨B, eB, rB⟩ := thR T rR (i := 7) (k2 := 77) rfl (by decide)
  obtain ⟨Ri, eRi, rRi⟩ := thR T rR (i := 8) (k2 := 78) rfl (by decide)
  have rM := rr T (thR T rb (i := 0) (k2 := 62) rfl (by decide)) eM
  have rP := rr T (thR T rb (i := 4) (k2 := 63) rfl (by decide)) eP
  have Q : VP ρ x0 b Ro M P R A B Ri h := ⟨⟨⟨eR, eA, eB⟩, ⟨r0, rA, rB⟩, fun i => thI T rA rfl, fun i => thI T rB rfl⟩, ⟨eRo, eM, eP, eRi⟩, ⟨rRo, rb, rM, rP, rR, rRi⟩, fun i => thI T rRi rfl, ⟨thI T r0 rfl, thI T r0 rfl, thI T r0 rfl, sq⟩, fun i => thI T rM rfl⟩
  unfold sX15_wrongOf at e
  simp only [nm] at e
  replace e := cl_s e; obtain ⟨r1, e1, e⟩ := e
  have y : r1 = Ro := r_eq eRo e1
  subst y
  replace e := (gd_s e).2
  replace e := cl_s e; obtain ⟨r4, e4, e⟩ := e
  have y : r4 = r1 := r_eq eRo e4
  subst y
  replace e := (gd_s e).2
  have k : VF x0 r4 h (wI (wI h r4 (0 : Int32).toNatClampNeg (0 : Int32)) r4 (1 : Int32).toNatClampNeg (0 : Int32)) := vf_t vf_w vf_w
  exact vr_k k Q (w_18 le F (vp_k k Q) e)
/-- hands as they are read -/
theorem rh_18 {H : Nat} : ∀ (f : Nat) {h : Hp} {x2 : Int32} {o : Int32 × Hp}, hR h b 5 = some H → hN h H = 24 → ¬ H = x0 → 0 ≤ x2.toInt → x2.toInt ≤ 32 → (∀ i, 0 ≤ (hI h H i).toInt) → (∀ i, (hI h H i).toInt ≤ 16) → sH h H 0 12 + sH h H 1 12 = x2.toInt → sX15_readHands_18 F f h x0 b x2 = some o → sH o.2 H 0 12 + sH o.2 H 1 12 ≤ 32 := by
  have z0 : (0 : Int32).toInt = 0 := rfl
  have z1 : (1 : Int32).toInt = 1 := rfl
  have look_h : ∀ {h : Hp} {o : Int32 × Hp}, sX15_look h x0 = some o → o.2 = h := fun {h o} e => by
    unfold sX15_look sX15_look_24 at e
    replace e := br_s e; rcases e with ⟨_, e⟩ | ⟨_, e⟩
    · rw [← Option.some.inj e]
    replace e := cl_s e; obtain ⟨_, _, e⟩ := e
    replace e := (gd_s e).2
    rw [← Option.some.inj e]
  have man_h : ∀ (f : Nat) {h : Hp} {x y : Int32} {o : Int32 × Hp}, sX15_manLetter_2 F f h x0 x y = some o → o.2 = h := by
    intro f
    induction f with
    | zero => intro h x y o e; exact absurd e (by simp [sX15_manLetter_2])
    | succ f ih =>
      intro h x y o e
      unfold sX15_manLetter_2 sX15_valueOf at e
      simp only [nm] at e
      replace e := cl_s e; obtain ⟨_, _, e⟩ := e
      replace e := br_s e; rcases e with ⟨_, e⟩ | ⟨_, e⟩
      · rw [← Option.some.inj e]
      replace e := cl_s e; obtain ⟨_, _, e⟩ := e
      replace e := cl_s e; obtain ⟨_, _, e⟩ := e
      replace e := (gd_s e).2
      replace e := br_s e; rcases e with ⟨_, e⟩ | ⟨_, e⟩
      · replace e := cl_s e; obtain ⟨o3, e3, e⟩ := e
        have := Option.some.inj e3; subst this
        rw [← Option.some.inj e]
      replace e := cl_s e; obtain ⟨_, _, e⟩ := e
      replace e := cl_s e; obtain ⟨_, _, e⟩ := e
      replace e := (gd_s e).2
      replace e := br_s e; rcases e with ⟨_, e⟩ | ⟨_, e⟩
      · replace e := cl_s e; obtain ⟨o3, e3, e⟩ := e
        have := Option.some.inj e3; subst this
        rw [← Option.some.inj e]
      · exact ih e
  intro f
  induction f with
  | zero => intro h x2 o _ _ _ _ _ _ _ _ e; exact absurd e (by simp [sX15_readHands_18])
  | succ f ih =>
    intro h x2 o eH nH nx a2 l2 pos l16 su e
    have b31 : sX15_readHands_31 F (sX15_readHands_18 F f) h x0 b x2 = some o → sH o.2 H 0 12 + sH o.2 H 1 12 ≤ 32 := fun e => by
      unfold sX15_readHands_31 sX15_readHands_63 sX15_manLetter at e
      simp only [nm] at e
      replace e := cl_s e; obtain ⟨o1, e1, e⟩ := e
      rw [look_h e1] at e
      replace e := cl_s e; obtain ⟨o2, e2, e⟩ := e
      rw [man_h F e2] at e
      replace e := br_s e; rcases e with ⟨_, e⟩ | ⟨_, e⟩
      · rw [← Option.some.inj e]; show sH h H 0 12 + sH h H 1 12 ≤ 32; omega
      replace e := br_s e; rcases e with ⟨_, e⟩ | ⟨n32, e⟩
      · rw [← Option.some.inj e]; show sH h H 0 12 + sH h H 1 12 ≤ 32; omega
      replace e := cl_s e; obtain ⟨H', eh, e⟩ := e
      have y : H' = H := r_eq eH eh
      subst y
      have gi := (gd_s e).1
      rw [nH] at gi
      have gb := inb_r gi
      have cq := nc_i gb.1
      replace e := (gd_s e).2
      replace e := br_s e; rcases e with ⟨_, e⟩ | ⟨n16, e⟩
      · rw [← Option.some.inj e]; show sH h H' 0 12 + sH h H' 1 12 ≤ 32; omega
      replace e := cl_s e; obtain ⟨H'', eh', e⟩ := e
      have y : H'' = H' := r_eq eH eh'
      subst y
      replace e := (gd_s e).2
      replace e := (gd_s e).2
      obtain ⟨j, hj⟩ : ∃ j, j = (o2.1 - (1 : Int32)).toNatClampNeg := ⟨_, rfl⟩
      rw [← hj] at e n16 cq
      have vj := l16 j
      have pj := pos j
      have o16 : (16 : Int32).toInt = 16 := rfl
      have v15 : ¬ (hI h H'' j).toInt = 16 := fun z => n16 (Int32.toInt_inj.mp (by rw [z, o16]))
      have tv : (hI h H'' j + (1 : Int32)).toInt = (hI h H'' j).toInt + 1 := by rw [ta (by rw [z1]; omega), z1]
      have x32 : ¬ x2.toInt = 32 := fun z => n32 (Int32.toInt_inj.mp z)
      have t2 : (x2 + (1 : Int32)).toInt = x2.toInt + 1 := by rw [ta (by rw [z1]; omega), z1]
      have kH : ∀ i, hI (wI (wI h H'' j (hI h H'' j + (1 : Int32))) x0 19 (hI (wI h H'' j (hI h H'' j + (1 : Int32))) x0 19 + (1 : Int32))) H'' i = if i = j then hI h H'' j + (1 : Int32) else hI h H'' i := fun i => by
        rw [rI_a nx, r_I]
        by_cases z : i = j
        · rw [if_pos ⟨rfl, z⟩, if_pos z]
        · rw [if_neg (fun w => z w.2), if_neg z]
      have tt := tot_H (M := x0 + H'' + 1) (h := h) (o := wI (wI h H'' j (hI h H'' j + (1 : Int32))) x0 19 (hI (wI h H'' j (hI h H'' j + (1 : Int32))) x0 19 + (1 : Int32))) (by omega) (fun i => by rw [rI_a (by omega), rI_a (by omega)]) kH
      refine ih (h := wI (wI h H'' j (hI h H'' j + (1 : Int32))) x0 19 (hI (wI h H'' j (hI h H'' j + (1 : Int32))) x0 19 + (1 : Int32))) (x2 := x2 + (1 : Int32)) eH nH nx (by omega) (by omega) (fun i => ?_) (fun i => ?_) ?_ e
      · rw [kH]
        by_cases z : i = j
        · rw [if_pos z, tv]; omega
        · rw [if_neg z]; exact pos i
      · rw [kH]
        by_cases z : i = j
        · rw [if_pos z, tv]; omega
        · rw [if_neg z]; exact l16 i
      · unfold tot at tt
        rw [mc_eq (g := hI h (x0 + H'' + 1)) 64 (fun i _ => by rw [rI_a (by omega), rI_a (by omega)]), tv] at tt
        omega
    unfold sX15_readHands_18 at e
    replace e := br_s e; rcases e with ⟨_, e⟩ | ⟨_, e⟩
    · exact b31 e
    replace e := cl_s e; obtain ⟨o2, e2, e⟩ := e
    rw [look_h e2] at e
    replace e := br_s e; rcases e with ⟨_, e⟩ | ⟨_, e⟩
    · replace e := cl_s e; obtain ⟨o4, e4, e⟩ := e
      replace e := (gd_s e).2
      have k4 : ∀ i, hI o4.2 H i = hI h H i := fun i => by
        unfold sX15_reads at e4
        replace e4 := cl_s e4; obtain ⟨o1, e1, e4⟩ := e4
        rw [look_h e1] at e4
        replace e4 := br_s e4; rcases e4 with ⟨_, e4⟩ | ⟨_, e4⟩
        · replace e4 := nm_s e4; obtain ⟨h3, w3, e4⟩ := e4
          rw [← Option.some.inj e4]
          show hI h3 H i = _
          rw [w3, rI_a nx]
        · rw [← Option.some.inj e4]
      rw [← Option.some.inj e]
      show sH o4.2 H 0 12 + sH o4.2 H 1 12 ≤ 32
      rw [sh_eq (h := h) 12 (fun i _ => k4 _), sh_eq (h := h) 12 (fun i _ => k4 _)]
      omega
    · exact b31 e
end
