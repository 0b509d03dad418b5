/-! a state is begun: what the board is, and what is as it was -/
/-- all is as it was but for a list of places -/
def Kf (ρ : Nat → Nat) (E : List (Nat × Nat)) (h0 h : Hp) : Prop := ∀ a i, ρ a ≠ 0 → mS E (ρ a) i = false → hI h a i = hI h0 a i ∧ hJ h a i = hJ h0 a i ∧ hR h a i = hR h0 a i
section
variable {ρ : Nat → Nat} {c : Cm} {E A : List (Nat × Nat)} {L : List (Nat × List (Nat × Nat))} {h0 h h1 : Hp} {a k : Nat}
theorem kf_r : Kf ρ E h h := fun _ _ _ _ => ⟨rfl, rfl, rfl⟩
theorem kf_t (p : Kf ρ E h0 h) (q : Kf ρ E h h1) : Kf ρ E h0 h1 := fun a i n x => ⟨(q a i n x).1.trans (p a i n x).1, (q a i n x).2.1.trans (p a i n x).2.1, (q a i n x).2.2.trans (p a i n x).2.2⟩
theorem kfI (i : Nat) (K : Kf ρ E h0 h) (ra : ρ a = k) (n : k ≠ 0 := by decide) (x : mS E k i = false := by rfl) : hI h a i = hI h0 a i := (K a i (by rw [ra]; exact n) (by rw [ra]; exact x)).1
theorem kfJ (i : Nat) (K : Kf ρ E h0 h) (ra : ρ a = k) (n : k ≠ 0 := by decide) (x : mS E k i = false := by rfl) : hJ h a i = hJ h0 a i := (K a i (by rw [ra]; exact n) (by rw [ra]; exact x)).2.1
theorem kfR (i : Nat) (K : Kf ρ E h0 h) (ra : ρ a = k) (n : k ≠ 0 := by decide) (x : mS E k i = false := by rfl) : hR h a i = hR h0 a i := (K a i (by rw [ra]; exact n) (by rw [ra]; exact x)).2.2
theorem kf_of (f : Fr ρ (cat c (fS A L) h) h h1) (e : (sS A E && L.all fun p => sS p.2 E) = true) : Kf ρ E h h1 := fun a i n x => by
  refine f.1 a i n ?_
  show fS A L (ρ a) (cw c a) i = false
  cases q : fS A L (ρ a) (cw c a) i with
  | false => rfl
  | true =>
    unfold fS at q
    rw [Bool.and_eq_true] at e
    rw [Bool.or_eq_true] at q
    rcases q with q | q
    · rw [mS_s e.1 q] at x; exact x
    · obtain ⟨p, hp, q⟩ := List.any_eq_true.mp q
      rw [Bool.and_eq_true] at q
      rw [mS_s (List.all_eq_true.mp e.2 p hp) q.1] at x
      exact x
theorem kf_wI {i : Nat} {v : Int32} (w : h1 = wI h a i v) (ra : ρ a = k) (x : mS E k i = true := by rfl) : Kf ρ E h h1 := fun b j _ xb => by
  rw [w]
  refine ⟨?_, rfl, rfl⟩
  rw [r_I, if_neg]
  rintro ⟨q1, q2⟩
  subst q1; subst q2
  rw [ra, x] at xb
  exact absurd xb (by decide)
theorem kf_wJ {i : Nat} {v : Int64} (w : h1 = wJ h a i v) (ra : ρ a = k) (x : mS E k i = true := by rfl) : Kf ρ E h h1 := fun b j _ xb => by
  rw [w]
  refine ⟨rfl, ?_, rfl⟩
  rw [r_J, if_neg]
  rintro ⟨q1, q2⟩
  subst q1; subst q2
  rw [ra, x] at xb
  exact absurd xb (by decide)
theorem kf_m {E2 : List (Nat × Nat)} (p : Kf ρ E h0 h) (e : sS E E2 = true) : Kf ρ E2 h0 h := fun a i n x => p a i n (by
  cases q : mS E (ρ a) i with
  | false => rfl
  | true => rw [mS_s e q] at x; exact x)
end
theorem ne_r' {ρ : Nat → Nat} {a b k m : Nat} (e1 : ρ a = k) (e2 : ρ b = m) (n : ¬ k = m) : ¬ a = b := fun w => n (by rw [← e1, w]; exact e2)
section
variable {ρ : Nat → Nat} {c : Cm} {h o : Hp} {x0 b g M F : Nat} {x1 x2 : Int32}
/-- a cleared board: no passes, no rights -/
theorem clear_b (T : TH ρ c h) (rb : ρ b = 13) (e : sX12_clear F h b = some o) : hI o b 3 = 0 ∧ hJ o b 2 = 0 := by
  obtain ⟨M, eM, rM⟩ := thR T rb (i := 0) (k2 := 62) rfl (by decide)
  obtain ⟨H, eH, rH⟩ := thR T rb (i := 5) (k2 := 64) rfl (by decide)
  obtain ⟨C, eC, rC⟩ := thR T rb (i := 6) (k2 := 65) rfl (by decide)
  have nM : ¬ b = M := ne_r' rb rM (by decide)
  have nH : ¬ b = H := ne_r' rb rH (by decide)
  have nC : ¬ b = C := ne_r' rb rC (by decide)
  have c38 : ∀ (f : Nat) {h : Hp} {x1 : Int32}, hR h b 5 = some H → hR h b 6 = some C → hI h b 3 = 0 → hJ h b 2 = 0 → sX12_clear_38 F f h b x1 = some o → hI o b 3 = 0 ∧ hJ o b 2 = 0 := by
    intro f
    induction f with
    | zero => intro h x1 _ _ _ _ e; exact absurd e (by simp [sX12_clear_38])
    | succ f ih =>
      intro h x1 eH eC i3 j2 e
      unfold sX12_clear_38 at e
      simp only [nm] at e
      replace e := br_s e; rcases e with ⟨_, e⟩ | ⟨_, e⟩
      · replace e := cl_s e; obtain ⟨r2, p2, e⟩ := e
        have := r_eq eC p2; subst this
        replace e := (gd_s e).2
        replace e := cl_s e; obtain ⟨r5, p5, e⟩ := e
        replace p5 : hR h b 6 = some r5 := p5
        have := r_eq eC p5; subst this
        replace e := (gd_s e).2
        have e := Option.some.inj e; subst e
        refine ⟨?_, j2⟩
        rw [r_I, if_neg (fun w => absurd w.2 (by decide)), r_I, if_neg (fun w => nC w.1), r_I, if_neg (fun w => nC w.1)]
        exact i3
      · replace e := cl_s e; obtain ⟨r9, p9, e⟩ := e
        have := r_eq eH p9; subst this
        replace e := (gd_s e).2
        exact ih (h := wI h r9 x1.toNatClampNeg 0) eH eC (by rw [r_I, if_neg (fun w => nH w.1)]; exact i3) j2 e
  have c2 : ∀ (f : Nat) {h : Hp} {x1 : Int32}, hR h b 0 = some M → hR h b 5 = some H → hR h b 6 = some C → sX12_clear_2 F f h b x1 = some o → hI o b 3 = 0 ∧ hJ o b 2 = 0 := by
    intro f
    induction f with
    | zero => intro h x1 _ _ _ e; exact absurd e (by simp [sX12_clear_2])
    | succ f ih =>
      intro h x1 eM eH eC e
      unfold sX12_clear_2 at e
      simp only [nm] at e
      replace e := br_s e; rcases e with ⟨_, e⟩ | ⟨_, e⟩
      · refine c38 F (h := wI (wJ (wI h b 1 0) b 2 0) b 3 0) eH eC ?_ ?_ e
        · rw [r_I, if_pos ⟨rfl, rfl⟩]
        · show hJ (wJ _ b 2 0) b 2 = 0
          rw [r_J, if_pos ⟨rfl, rfl⟩]
      · replace e := cl_s e; obtain ⟨r5, p5, e⟩ := e
        replace e := (gd_s e).2
        exact ih (h := wI h r5 x1.toNatClampNeg 0) eM eH eC e
  unfold sX12_clear at e
  exact c2 F eM eH eC e
theorem lay_b {oo : Int32 × Hp} (T : TH ρ c h) (r0 : ρ x0 = 16) (l1 : hR h x0 60 = some g) (e : sX15_layState F h x0 x1 x2 = some oo) : hI oo.2 g 3 = 0 ∧ hJ oo.2 g 2 = 0 ∧ hI oo.2 g 1 = x2 &&& (1 : Int32) := by
  have rg : ρ g = 13 := rr T (thR T r0 (i := 60) (k2 := 13) rfl (by decide)) l1
  obtain ⟨M, eM, rM⟩ := thR T rg (i := 0) (k2 := 62) rfl (by decide)
  have nM : ¬ g = M := ne_r' rg rM (by decide)
  have lp : ∀ (f : Nat) {h : Hp} {x3 x4 x5 : Int32}, hR h x0 60 = some g → hR h g 0 = some M → sX15_layState_27 F f h x0 x1 x3 x4 x5 = some oo → (∀ i, hI oo.2 g i = hI h g i) ∧ ∀ a i, hJ oo.2 a i = hJ h a i := by
    intro f
    induction f with
    | zero => intro h x3 x4 x5 _ _ e; exact absurd e (by simp [sX15_layState_27])
    | succ f ih =>
      intro h x3 x4 x5 l1 eM e
      unfold sX15_layState_27 sX15_layState_109 at e
      simp only [nm] at e
      have put : ∀ {x3 x5 x6 x7 : Int32}, sX15_layState_111 F (sX15_layState_27 F f) h x0 x1 x3 x5 x6 x7 = some oo → (∀ i, hI oo.2 g i = hI h g i) ∧ ∀ a i, hJ oo.2 a i = hJ h a i := by
        intro x3 x5 x6 x7 eC
        unfold sX15_layState_111 at eC
        simp only [nm] at eC
        replace eC := cl_s eC; obtain ⟨r1, p1, eC⟩ := eC
        have := r_eq l1 p1; subst this
        replace eC := cl_s eC; obtain ⟨r2, p2, eC⟩ := eC
        have := r_eq eM p2; subst this
        replace eC := (gd_s eC).2
        obtain ⟨u1, u2⟩ := ih (h := wI h r2 x6.toNatClampNeg x7) l1 eM eC
        exact ⟨fun i => by rw [u1 i, r_I, if_neg (fun w => nM w.1)], fun a i => u2 a i⟩
      replace e := cl_s e; obtain ⟨_, _, e⟩ := e
      replace e := (gd_s e).2
      replace e := br_s e; rcases e with ⟨_, e⟩ | ⟨_, e⟩
      · rw [← Option.some.inj e]; exact ⟨fun _ => rfl, fun _ _ => rfl⟩
      replace e := (gd_s e).2
      replace e := (gd_s e).2
      replace e := cl_s e; obtain ⟨_, _, e⟩ := e
      replace e := (gd_s e).2
      replace e := cl_s e; obtain ⟨_, _, e⟩ := e
      replace e := cl_s e; obtain ⟨_, _, e⟩ := e
      replace e := (gd_s e).2
      replace e := br_s e; rcases e with ⟨_, e⟩ | ⟨_, e⟩
      · rw [← Option.some.inj e]; exact ⟨fun _ => rfl, fun _ _ => rfl⟩
      replace e := br_s e; rcases e with ⟨_, e⟩ | ⟨_, e⟩
      · exact put e
      replace e := cl_s e; obtain ⟨_, _, e⟩ := e
      replace e := (gd_s e).2
      replace e := br_s e; rcases e with ⟨_, e⟩ | ⟨_, e⟩
      · replace e := br_s e; rcases e with ⟨_, e⟩ | ⟨_, e⟩
        · exact put e
        · rw [← Option.some.inj e]; exact ⟨fun _ => rfl, fun _ _ => rfl⟩
      · exact put e
  unfold sX15_layState at e
  simp only [nm] at e
  replace e := cl_s e; obtain ⟨ra, fa, e⟩ := e
  have := r_eq l1 fa; subst this
  replace e := cl_s e; obtain ⟨h2, f2, e⟩ := e
  obtain ⟨p1, p2⟩ := clear_b T rg f2
  obtain ⟨pR, _, _⟩ := clear_q T rg eM f2
  replace e := cl_s e; obtain ⟨rc, fc, e⟩ := e
  rw [pR] at fc
  have := r_eq l1 fc; subst this
  obtain ⟨u1, u2⟩ := lp F (h := wI h2 rc 1 (x2 &&& (1 : Int32))) (by show hR h2 x0 60 = some rc; rw [pR]; exact l1) (by show hR h2 rc 0 = some M; rw [pR]; exact eM) e
  refine ⟨?_, ?_, ?_⟩
  · rw [u1, r_I, if_neg (fun w => absurd w.2 (by decide))]; exact p1
  · rw [u2]; exact p2
  · rw [u1, r_I, if_pos ⟨rfl, rfl⟩]
end
