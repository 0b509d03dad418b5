/-! a man that is led to a square where another stands attacks it: pure values -/
def onV (a b x y s k : Int32) : Int32 := if (s - s / a * a) + (k * x) < 0 then -1 else if a ≤ (s - s / a * a) + (k * x) then -1 else if (s / a) + (k * y) < 0 then -1 else if (s / a) + (k * y) < b then ((s / a) + (k * y)) * a + ((s - s / a * a) + (k * x)) else -1
theorem on_val {h : Hp} {x0 : Nat} {s k : Int32} {o : Int32 × Hp} (e : sX15_onward h x0 s k = some o) : o = (onV (hI h x0 11) (hI h x0 12) (hI h x0 23) (hI h x0 24) s k, h) := by
  unfold sX15_onward sX15_onward_55 sX15_onward_68 at e
  replace e := (gd_s e).2
  simp only [nm] at e
  replace e := (gd_s e).2
  unfold onV
  replace e := br_s e; rcases e with ⟨c1, e⟩ | ⟨c1, e⟩
  · rw [if_pos c1]; exact (Option.some.inj e).symm
  rw [if_neg c1]
  replace e := br_s e; rcases e with ⟨c2, e⟩ | ⟨c2, e⟩
  · rw [if_pos c2]; exact (Option.some.inj e).symm
  rw [if_neg c2]
  replace e := br_s e; rcases e with ⟨c3, e⟩ | ⟨c3, e⟩
  · rw [if_pos c3]; exact (Option.some.inj e).symm
  rw [if_neg c3]
  replace e := br_s e; rcases e with ⟨c4, e⟩ | ⟨c4, e⟩
  · rw [if_pos c4]; exact (Option.some.inj e).symm
  · rw [if_neg c4]; exact (Option.some.inj e).symm
def frV (fl full : Int32) : Int32 := if fl &&& (8 : Int32) = 0 then (if full = 0 then 1 else 0) else (if full = 1 then 1 else 0)
theorem fr_val {h : Hp} {fl full : Int32} {o : Int32 × Hp} (e : sX15_isFree h fl full = some o) : o = (frV fl full, h) := by
  unfold sX15_isFree sX15_isFree_29 at e
  unfold frV
  replace e := br_s e; rcases e with ⟨c1, e⟩ | ⟨c1, e⟩
  · rw [if_pos c1]
    replace e := br_s e; rcases e with ⟨c2, e⟩ | ⟨c2, e⟩
    · rw [if_pos c2]; exact (Option.some.inj (gd_s e).2).symm
    · rw [if_neg c2]; exact (Option.some.inj (gd_s e).2).symm
  · rw [if_neg c1]
    replace e := br_s e; rcases e with ⟨c2, e⟩ | ⟨c2, e⟩
    · rw [if_pos c2]; exact (Option.some.inj (gd_s e).2).symm
    · rw [if_neg c2]; exact (Option.some.inj (gd_s e).2).symm
/-- full, or not -/
def fuV (v : Int32) : Int32 := if v ≤ 0 then 0 else 1
/-- two times the same square: the same number of steps -/
theorem on_uni {a b x y s k1 k2 q : Int32} (is : Rg 0 63 s) (ia : Rg 3 8 a) (ib : Rg 3 8 b) (ix : Rg (-7) 7 x) (iy : Rg (-7) 7 y) (i1 : Rg 1 8 k1) (i2 : Rg 1 8 k2) (e1 : onV a b x y s k1 = q) (e2 : onV a b x y s k2 = q) (q0 : 0 ≤ q.toInt) (qs : ¬ q = s) : k1 = k2 := by
  have key : ∀ k : Int32, Rg 1 8 k → onV a b x y s k = q → q.toInt / a.toInt = s.toInt / a.toInt + k.toInt * y.toInt ∧ q.toInt % a.toInt = s.toInt % a.toInt + k.toInt * x.toInt := by
    intro k ik e
    have p1 := mb (n := 7) (m := 8) (k := k.toInt) (d := x.toInt) ⟨by have := ik.1; omega, ik.2⟩ ⟨ix.1, ix.2⟩ (by decide)
    have p2 := mb (n := 7) (m := 8) (k := k.toInt) (d := y.toInt) ⟨by have := ik.1; omega, ik.2⟩ ⟨iy.1, iy.2⟩ (by decide)
    have m1 := tm (x := k) (y := x) ⟨by omega, by omega⟩
    have m2 := tm (x := k) (y := y) ⟨by omega, by omega⟩
    have q1 := rg_rem is ia (hi := 63) ⟨by decide, by decide, by omega⟩
    have q2 := rg_divv is ia ⟨by decide, by decide⟩
    have t1 := tr is ia ⟨by decide, by decide⟩
    have t2 := td is ia ⟨by decide, by decide⟩
    have a1 := ta (x := s - s / a * a) (y := k * x) (by rw [m1]; exact ⟨by have := q1.1; omega, by have := q1.2; omega⟩)
    have a2 := ta (x := s / a) (y := k * y) (by rw [m2]; exact ⟨by have := q2.1; omega, by have := q2.2; omega⟩)
    rw [m1, t1] at a1
    rw [m2, t2] at a2
    have neg : ¬ q = (-1 : Int32) := fun w => by rw [w] at q0; exact absurd q0 (by decide)
    unfold onV at e
    by_cases c1 : (s - s / a * a) + (k * x) < 0
    · rw [if_pos c1] at e; exact absurd e.symm neg
    rw [if_neg c1] at e
    by_cases c2 : a ≤ (s - s / a * a) + (k * x)
    · rw [if_pos c2] at e; exact absurd e.symm neg
    rw [if_neg c2] at e
    by_cases c3 : (s / a) + (k * y) < 0
    · rw [if_pos c3] at e; exact absurd e.symm neg
    rw [if_neg c3] at e
    by_cases c4 : (s / a) + (k * y) < b
    · rw [if_pos c4] at e
      have d1 := nlt_i c1
      have d2 := nle_i c2
      have d3 := nlt_i c3
      have d4 := lt_i c4
      rw [a1] at d1 d2
      rw [a2] at d3 d4
      have z : (0 : Int32).toInt = 0 := rfl
      have F1 := ia.1
      have F2 := ia.2
      have R2 := ib.2
      have b1 := mb (n := 8) (m := 8) (k := s.toInt / a.toInt + k.toInt * y.toInt) (d := a.toInt) ⟨by omega, by omega⟩ ⟨by omega, by omega⟩ (by decide)
      have b2 := tm (x := s / a + k * y) (y := a) (by rw [a2]; exact ⟨by omega, by omega⟩)
      rw [a2] at b2
      have b3 := ta (x := (s / a + k * y) * a) (y := (s - s / a * a) + (k * x)) (by rw [b2, a1]; exact ⟨by omega, by omega⟩)
      rw [b2, a1, e] at b3
      have := dm (F := a.toInt) (r := s.toInt / a.toInt + k.toInt * y.toInt) (f := s.toInt % a.toInt + k.toInt * x.toInt) (by omega) (by omega) (by omega)
      rw [b3]
      exact this
    · rw [if_neg c4] at e; exact absurd e.symm neg
  obtain ⟨u1, u2⟩ := key k1 i1 e1
  obtain ⟨v1, v2⟩ := key k2 i2 e2
  apply Int32.toInt_inj.mp
  refine Classical.byContradiction fun ne => qs ?_
  apply Int32.toInt_inj.mp
  have w1 : (k1.toInt - k2.toInt) * y.toInt = 0 := by rw [Int.sub_mul]; omega
  have w2 : (k1.toInt - k2.toInt) * x.toInt = 0 := by rw [Int.sub_mul]; omega
  have y0 : y.toInt = 0 := by rcases Int.mul_eq_zero.mp w1 with w | w <;> omega
  have x00 : x.toInt = 0 := by rcases Int.mul_eq_zero.mp w2 with w | w <;> omega
  rw [y0, Int.mul_zero, Int.add_zero] at u1
  rw [x00, Int.mul_zero, Int.add_zero] at u2
  have z1 := Int.mul_ediv_add_emod q.toInt a.toInt
  have z2 := Int.mul_ediv_add_emod s.toInt a.toInt
  rw [u1, u2] at z1
  omega
section
variable {ρ : Nat → Nat} {x0 b S Fa Ct M R Fl Ri F : Nat} {h0 : Hp} {s sd st ct fl : Int32}
/-- one step of leadBy -/
theorem lb_step {f : Nat} {h o : Hp} {x7 x8 : Int32} (e25 : hR h x0 25 = some S) (e26 : hR h x0 26 = some Fa) (e27 : hR h x0 27 = some Ct) (eM : hR h b 0 = some M) (eR : hR h x0 4 = some R) (eRi : hR h R 8 = some Ri) (ps : hI h b 3 ≤ (1 : Int32)) (e : sX15_leadBy_18 F (f + 1) h x0 b s sd st ct fl x7 x8 = some o) :
    (o = h ∧ ((hI h Ri st.toNatClampNeg) < x8 ∨ (2 : Int32) ≤ x7 ∨ onV (hI h x0 11) (hI h x0 12) (hI h x0 23) (hI h x0 24) s x8 = (-1 : Int32))) ∨
    (¬ (hI h Ri st.toNatClampNeg) < x8 ∧ ¬ (2 : Int32) ≤ x7 ∧ ∃ t, onV (hI h x0 11) (hI h x0 12) (hI h x0 23) (hI h x0 24) s x8 = t ∧ ¬ t = (-1 : Int32) ∧ inB t (hN h M) ∧ ∃ h', sX15_leadBy_18 F f h' x0 b s sd st ct fl (x7 + fuV (hI h M t.toNatClampNeg)) (x8 + (1 : Int32)) = some o ∧
      (h' = h ∨ (∃ z, h' = wI (wI (wI h S t.toNatClampNeg st) Fa t.toNatClampNeg x8) Ct t.toNatClampNeg z ∧ ¬ frV fl x7 = 0 ∧ (0 < (hI h M t.toNatClampNeg).toInt → fl &&& (1 : Int32) = 0 ∧ ¬ ((hI h M t.toNatClampNeg) - (1 : Int32)) &&& (1 : Int32) = sd)))) := by
  unfold sX15_leadBy_18 at e
  replace e := cl_s e; obtain ⟨R', p1, e⟩ := e
  have := r_eq eR p1; subst this
  replace e := cl_s e; obtain ⟨Ri', p2, e⟩ := e
  have := r_eq eRi p2; subst this
  replace e := (gd_s e).2
  replace e := br_s e; rcases e with ⟨c1, e⟩ | ⟨c1, e⟩
  · exact Or.inl ⟨(Option.some.inj e).symm, Or.inl c1⟩
  replace e := br_s e; rcases e with ⟨c2, e⟩ | ⟨c2, e⟩
  · exact Or.inl ⟨(Option.some.inj e).symm, Or.inr (Or.inl c2)⟩
  replace e := cl_s e; obtain ⟨o6, e6, e⟩ := e
  have v6 := on_val e6; subst v6
  replace e := br_s e; rcases e with ⟨c3, e⟩ | ⟨c3, e⟩
  · exact Or.inl ⟨(Option.some.inj e).symm, Or.inr (Or.inr c3)⟩
  refine Or.inr ⟨c1, c2, _, rfl, c3, ?_⟩
  dsimp only at e
  generalize onV (hI h x0 11) (hI h x0 12) (hI h x0 23) (hI h x0 24) s x8 = t at e c3 ⊢
  replace e := cl_s e; obtain ⟨M', p3, e⟩ := e
  have := r_eq eM p3; subst this
  have gB := (gd_s e).1
  replace e := (gd_s e).2
  refine ⟨gB, ?_⟩
  simp only [nm] at e
  replace e := cl_s e; obtain ⟨o11, e11, e⟩ := e
  have v11 := fr_val e11; subst v11
  dsimp only at e
  have d195 : ∀ g : Hp, sX15_leadBy_195 F (sX15_leadBy_18 F f) g x0 b s sd st ct fl x7 x8 (hI h M' t.toNatClampNeg) = some o → sX15_leadBy_18 F f g x0 b s sd st ct fl (x7 + fuV (hI h M' t.toNatClampNeg)) (x8 + (1 : Int32)) = some o := by
    intro g eg
    unfold sX15_leadBy_195 sX15_leadBy_207 at eg
    simp only [nm] at eg
    unfold fuV
    replace eg := br_s eg; rcases eg with ⟨c, eg⟩ | ⟨c, eg⟩
    · rw [if_pos c]; exact eg
    · rw [if_neg c]; exact eg
  replace e := br_s e; rcases e with ⟨c4, e⟩ | ⟨c4, e⟩
  · exact ⟨h, d195 h e, Or.inl rfl⟩
  replace e := cl_s e; obtain ⟨S', p4, e⟩ := e
  have := r_eq e25 p4; subst this
  replace e := (gd_s e).2
  have d168 : ∀ z, sX15_leadBy_168 F (sX15_leadBy_18 F f) h x0 b s sd st ct fl x7 x8 t (hI h M' t.toNatClampNeg) z = some o → (0 < (hI h M' t.toNatClampNeg).toInt → fl &&& (1 : Int32) = 0 ∧ ¬ ((hI h M' t.toNatClampNeg) - (1 : Int32)) &&& (1 : Int32) = sd) → ∃ h', sX15_leadBy_18 F f h' x0 b s sd st ct fl (x7 + fuV (hI h M' t.toNatClampNeg)) (x8 + (1 : Int32)) = some o ∧
      (h' = h ∨ (∃ z, h' = wI (wI (wI h S' t.toNatClampNeg st) Fa t.toNatClampNeg x8) Ct t.toNatClampNeg z ∧ ¬ frV fl x7 = 0 ∧ (0 < (hI h M' t.toNatClampNeg).toInt → fl &&& (1 : Int32) = 0 ∧ ¬ ((hI h M' t.toNatClampNeg) - (1 : Int32)) &&& (1 : Int32) = sd))) := by
    intro z ez w
    unfold sX15_leadBy_168 at ez
    simp only [nm] at ez
    replace ez := cl_s ez; obtain ⟨S2, u1, ez⟩ := ez
    have := r_eq e25 u1; subst this
    replace ez := (gd_s ez).2
    replace ez := cl_s ez; obtain ⟨Fa2, u2, ez⟩ := ez
    replace u2 : hR h x0 26 = some Fa2 := u2
    have := r_eq e26 u2; subst this
    replace ez := (gd_s ez).2
    replace ez := cl_s ez; obtain ⟨Ct2, u3, ez⟩ := ez
    replace u3 : hR h x0 27 = some Ct2 := u3
    have := r_eq e27 u3; subst this
    replace ez := (gd_s ez).2
    exact ⟨_, d195 _ ez, Or.inr ⟨_, rfl, c4, w⟩⟩
  have d112 : sX15_leadBy_112 F (sX15_leadBy_18 F f) h x0 b s sd st ct fl x7 x8 t (hI h M' t.toNatClampNeg) = some o → ∃ h', sX15_leadBy_18 F f h' x0 b s sd st ct fl (x7 + fuV (hI h M' t.toNatClampNeg)) (x8 + (1 : Int32)) = some o ∧
      (h' = h ∨ (∃ z, h' = wI (wI (wI h S' t.toNatClampNeg st) Fa t.toNatClampNeg x8) Ct t.toNatClampNeg z ∧ ¬ frV fl x7 = 0 ∧ (0 < (hI h M' t.toNatClampNeg).toInt → fl &&& (1 : Int32) = 0 ∧ ¬ ((hI h M' t.toNatClampNeg) - (1 : Int32)) &&& (1 : Int32) = sd))) := by
    intro ew
    unfold sX15_leadBy_112 sX15_leadBy_113 at ew
    replace ew := br_s ew; rcases ew with ⟨c, ew⟩ | ⟨c, ew⟩
    · have cn := le_i c
      have z0 : (0 : Int32).toInt = 0 := rfl
      replace ew := br_s ew; rcases ew with ⟨c, ew⟩ | ⟨c, ew⟩
      · unfold sX15_leadBy_156 at ew
        replace ew := br_s ew; rcases ew with ⟨_, ew⟩ | ⟨_, ew⟩
        · replace ew := br_s ew; rcases ew with ⟨_, ew⟩ | ⟨_, ew⟩
          · exact ⟨h, d195 h ew, Or.inl rfl⟩
          · exact d168 _ ew (fun w => by omega)
        · exact d168 _ ew (fun w => by omega)
      · unfold sX15_leadBy_156 at ew
        replace ew := br_s ew; rcases ew with ⟨_, ew⟩ | ⟨_, ew⟩
        · replace ew := br_s ew; rcases ew with ⟨_, ew⟩ | ⟨_, ew⟩
          · exact ⟨h, d195 h ew, Or.inl rfl⟩
          · exact d168 _ ew (fun w => by omega)
        · exact d168 _ ew (fun w => by omega)
    · replace ew := cl_s ew; obtain ⟨o3, e3, ew⟩ := ew
      unfold sX15_sideOf at e3
      have := Option.some.inj e3; subst this
      dsimp only at ew
      have d140 : sX15_leadBy_140 F (sX15_leadBy_18 F f) h x0 b s sd st ct fl x7 x8 t (hI h M' t.toNatClampNeg) 0 = some o → sX15_leadBy_195 F (sX15_leadBy_18 F f) h x0 b s sd st ct fl x7 x8 (hI h M' t.toNatClampNeg) = some o := by
        intro ew
        unfold sX15_leadBy_140 sX15_leadBy_156 at ew
        replace ew := br_s ew; rcases ew with ⟨_, ew⟩ | ⟨c0, ew⟩
        · replace ew := br_s ew; rcases ew with ⟨_, ew⟩ | ⟨c0, ew⟩
          · exact ew
          · exact absurd rfl c0
        · exact absurd rfl c0
      replace ew := br_s ew; rcases ew with ⟨_, ew⟩ | ⟨cs, ew⟩
      · exact ⟨h, d195 h (d140 ew), Or.inl rfl⟩
      replace ew := br_s ew; rcases ew with ⟨ct, ew⟩ | ⟨_, ew⟩
      · unfold sX15_leadBy_156 at ew
        replace ew := br_s ew; rcases ew with ⟨_, ew⟩ | ⟨_, ew⟩
        · replace ew := br_s ew; rcases ew with ⟨_, ew⟩ | ⟨_, ew⟩
          · exact ⟨h, d195 h ew, Or.inl rfl⟩
          · exact d168 _ ew (fun _ => ⟨ct, cs⟩)
        · exact d168 _ ew (fun _ => ⟨ct, cs⟩)
      · exact ⟨h, d195 h (d140 ew), Or.inl rfl⟩
  replace e := br_s e; rcases e with ⟨c5, e⟩ | ⟨c5, e⟩
  · replace e := br_s e; rcases e with ⟨_, e⟩ | ⟨_, e⟩
    · exact d112 e
    replace e := br_s e; rcases e with ⟨_, e⟩ | ⟨_, e⟩
    · exact d112 e
    replace e := cl_s e; obtain ⟨o18, e18, e⟩ := e
    have v18 : o18 = ((0 : Int32), h) := by
      cases F with
      | zero => exact absurd e18 (by simp [sX15_isGoneOver, sX15_isGoneOver_2])
      | succ F' =>
        unfold sX15_isGoneOver sX15_isGoneOver_2 at e18
        replace e18 := br_s e18; rcases e18 with ⟨_, e18⟩ | ⟨c, _⟩
        · exact (Option.some.inj e18).symm
        · exact absurd ps c
    subst v18
    replace e := br_s e; rcases e with ⟨_, e⟩ | ⟨c, _⟩
    · exact d112 e
    · exact absurd rfl c
  · exact ⟨h, d195 h e, Or.inl rfl⟩
end
