/-! make: no man is won, no right is won -/
theorem val_ps {k sd v : Int32} (hk : Rg 0 11 k) (hs : Rg 0 1 sd) (e : v = ((1 : Int32) + ((2 : Int32) * k)) + sd) : 0 < v.toInt ∧ (v - (1 : Int32)) &&& (1 : Int32) = sd := by
  obtain ⟨k0, k1⟩ := hk
  obtain ⟨s0, s1⟩ := hs
  have z1 : (1 : Int32).toInt = 1 := rfl
  have z2 : (2 : Int32).toInt = 2 := rfl
  have e1 : ((2 : Int32) * k).toInt = 2 * k.toInt := by rw [tm (by rw [z2]; omega), z2]
  have e2 : ((1 : Int32) + ((2 : Int32) * k)).toInt = 1 + 2 * k.toInt := by rw [ta (by rw [z1, e1]; omega), z1, e1]
  have e3 : v.toInt = 1 + 2 * k.toInt + sd.toInt := by rw [e, ta (by rw [e2]; omega), e2]
  have e4 : (v - (1 : Int32)).toInt = 2 * k.toInt + sd.toInt := by rw [ts (by rw [e3, z1]; omega), e3, z1]; omega
  refine ⟨by omega, ?_⟩
  have : ((v - (1 : Int32)) &&& (1 : Int32)).toInt = sd.toInt := by
    have w := and_i (x := v - (1 : Int32)) (y := (1 : Int32)) (m := 1) (by omega) (by decide) rfl
    rw [w, e4]
    show (2 * k.toInt + sd.toInt) % 2 = _
    omega
  exact Int32.toInt_inj.mp this
theorem oth_ne {sd : Int32} (hs : Rg 0 1 sd) : ¬ sd = (1 : Int32) - sd := fun z => by
  obtain ⟨s0, s1⟩ := hs
  have z1 : (1 : Int32).toInt = 1 := rfl
  have : ((1 : Int32) - sd).toInt = 1 - sd.toInt := by rw [ts (by rw [z1]; omega), z1]
  rw [← z] at this
  omega
section
variable {zq : Nat} {ρ : Nat → Nat} {c : Cm} {h o g h0 : Hp} {x0 x1 x2 x4 M P H C R A B P1 lb lx lk lo j F : Nat} {tk kd mo p0 x3 x5 x6 x7 x8 x10 : Int32}
theorem roy_h {y : Int32} {o : Int32 × Hp} {b : Nat} (e : sX15_royalOf F h x0 b y = some o) : o.2 = h := by
  have lp : ∀ (f : Nat) {x3 : Int32}, sX15_royalOf_2 F f h x0 b y x3 = some o → o.2 = h := by
    intro f
    induction f with
    | zero => intro x3 e; exact absurd e (by simp [sX15_royalOf_2])
    | succ f ih =>
      intro x3 e
      unfold sX15_royalOf_2 sX15_royalOf_49 at e
      simp only [nm] at e
      replace e := br_s e; rcases e with ⟨_, e⟩ | ⟨_, e⟩
      · rw [← Option.some.inj e]
      replace e := cl_s e; obtain ⟨_, _, e⟩ := e
      replace e := br_s e; rcases e with ⟨_, e⟩ | ⟨_, e⟩
      · rw [← Option.some.inj e]
      replace e := cl_s e; obtain ⟨_, _, e⟩ := e
      replace e := (gd_s e).2
      replace e := cl_s e; obtain ⟨_, _, e⟩ := e
      replace e := cl_s e; obtain ⟨o7, e7, e⟩ := e
      unfold sX15_valueOf at e7
      have := Option.some.inj e7; subst this
      dsimp only at e
      replace e := br_s e; rcases e with ⟨_, e⟩ | ⟨_, e⟩
      · rw [← Option.some.inj e]
      · exact ih e
  unfold sX15_royalOf at e
  exact lp F e
/-- what make leaves -/
def MfZ (x0 x4 M P H C : Nat) (h o : Hp) : Prop := (∀ a i, hR o a i = hR h a i) ∧ (∀ a, hN o a = hN h a) ∧ ∀ a i, ¬ a = M → ¬ a = P → ¬ a = H → ¬ a = C → ¬ a = x4 → ¬ (a = x0 ∧ (i = 23 ∨ i = 24)) → hI o a i = hI h a i
theorem mfz_0 : MfZ x0 x4 M P H C h h := ⟨fun _ _ => rfl, fun _ => rfl, fun _ _ _ _ _ _ _ _ => rfl⟩
theorem mfz_t (p : MfZ x0 x4 M P H C h g) (q : MfZ x0 x4 M P H C g o) : MfZ x0 x4 M P H C h o := ⟨fun a i => (q.1 a i).trans (p.1 a i), fun a => (q.2.1 a).trans (p.2.1 a), fun a i n1 n2 n3 n4 n5 n6 => (q.2.2 a i n1 n2 n3 n4 n5 n6).trans (p.2.2 a i n1 n2 n3 n4 n5 n6)⟩
theorem mfz_w {a i : Nat} {v : Int32} (e : a = M ∨ a = P ∨ a = H ∨ a = C ∨ a = x4) : MfZ x0 x4 M P H C h (wI h a i v) := ⟨fun _ _ => rfl, fun _ => rfl, fun b k n1 n2 n3 n4 n5 _ => by
  rw [r_I, if_neg]
  rintro ⟨q, _⟩
  subst q
  rcases e with e | e | e | e | e
  · exact n1 e
  · exact n2 e
  · exact n3 e
  · exact n4 e
  · exact n5 e⟩
theorem mfz_J {a i : Nat} {v : Int64} : MfZ x0 x4 M P H C h (wJ h a i v) := ⟨fun _ _ => rfl, fun _ => rfl, fun _ _ _ _ _ _ _ _ => rfl⟩
/-- where things lie, in make -/
def MkZ (ρ : Nat → Nat) (x0 x1 x2 x4 M P H C R A B P1 lb lx lk lo j : Nat) (tk kd mo p0 : Int32) (h : Hp) : Prop := (hR h x4 0 = some M ∧ hR h x4 4 = some P ∧ hR h x4 5 = some H ∧ hR h x4 6 = some C ∧ hR h x1 4 = some P1 ∧ hR h x2 4 = some lb ∧ hR h x2 5 = some lx ∧ hR h x2 6 = some lk ∧ hR h x2 7 = some lo) ∧ (ρ x4 = 13 ∧ ρ M = 62 ∧ ρ P = 63 ∧ ρ H = 64 ∧ ρ C = 65 ∧ ρ P1 = 63 ∧ ρ lb = 69 ∧ ρ lx = 70 ∧ ρ lk = 71 ∧ ρ lo = 72) ∧ ¬ P1 = P ∧ (hN h M = 64 ∧ hN h H = 24) ∧ (hI h lx j = tk ∧ hI h lk j = kd ∧ hI h lo j = mo ∧ hI h P1 0 = p0) ∧ Rg (-1) 11 (hI h lb j) ∧ AP ρ x0 R A B h
theorem mkz_k (k : MfZ x0 x4 M P H C h o) (Q : MkZ ρ x0 x1 x2 x4 M P H C R A B P1 lb lx lk lo j tk kd mo p0 h) : MkZ ρ x0 x1 x2 x4 M P H C R A B P1 lb lx lk lo j tk kd mo p0 o := by
  obtain ⟨⟨a1, a2, a3, a4, a5, a6, a7, a8, a9⟩, ⟨b1, b2, b3, b4, b5, b6, b7, b8, b9, b10⟩, np, ⟨n1, n2⟩, ⟨v1, v2, v3, v4⟩, vb, ⟨⟨c1, c2, c3⟩, ⟨d1, d2, d3⟩, e1, e2⟩⟩ := Q
  have kI : ∀ {a q : Nat} (i : Nat), ρ a = q → q ≠ 62 → q ≠ 63 → q ≠ 64 → q ≠ 65 → q ≠ 13 → q ≠ 16 → hI o a i = hI h a i := fun {a q} i ra y1 y2 y3 y4 y5 y6 => k.2.2 a i (fun z => y1 (by rw [← ra, z]; exact b2)) (fun z => y2 (by rw [← ra, z]; exact b3)) (fun z => y3 (by rw [← ra, z]; exact b4)) (fun z => y4 (by rw [← ra, z]; exact b5)) (fun z => y5 (by rw [← ra, z]; exact b1)) (fun z => y6 (by rw [← ra, z.1]; exact d1))
  have ne : ∀ {a d p q : Nat}, ρ a = p → ρ d = q → p ≠ q → ¬ a = d := fun ha hd hpq z => hpq (by rw [← ha, z]; exact hd)
  have kP : hI o P1 0 = hI h P1 0 := k.2.2 P1 0 (ne b6 b2 (by decide)) np (ne b6 b4 (by decide)) (ne b6 b5 (by decide)) (ne b6 b1 (by decide)) (fun z => ne b6 d1 (by decide) z.1)
  refine ⟨⟨by rw [k.1]; exact a1, by rw [k.1]; exact a2, by rw [k.1]; exact a3, by rw [k.1]; exact a4, by rw [k.1]; exact a5, by rw [k.1]; exact a6, by rw [k.1]; exact a7, by rw [k.1]; exact a8, by rw [k.1]; exact a9⟩, ⟨b1, b2, b3, b4, b5, b6, b7, b8, b9, b10⟩, np, ⟨by rw [k.2.1]; exact n1, by rw [k.2.1]; exact n2⟩, ⟨?_, ?_, ?_, by rw [kP]; exact v4⟩, ?_, ⟨⟨by rw [k.1]; exact c1, by rw [k.1]; exact c2, by rw [k.1]; exact c3⟩, ⟨d1, d2, d3⟩, fun i => ?_, fun i => ?_⟩⟩
  · rw [kI j b8 (by decide) (by decide) (by decide) (by decide) (by decide) (by decide)]; exact v1
  · rw [kI j b9 (by decide) (by decide) (by decide) (by decide) (by decide) (by decide)]; exact v2
  · rw [kI j b10 (by decide) (by decide) (by decide) (by decide) (by decide) (by decide)]; exact v3
  · rw [kI j b7 (by decide) (by decide) (by decide) (by decide) (by decide) (by decide)]; exact vb
  · rw [kI i d2 (by decide) (by decide) (by decide) (by decide) (by decide) (by decide)]; exact e1 i
  · rw [kI i d3 (by decide) (by decide) (by decide) (by decide) (by decide) (by decide)]; exact e2 i
/-- a board on which few men stand, y to move -/
def WrD (zq : Nat) (M P H x4 : Nat) (y : Int32) (h : Hp) : Prop := tot M H h ≤ 96 ∧ cRt (hJ h x4 2) zq ≤ 16 ∧ (hI h x4 3).toInt ≤ 8 ∧ (0 < (hI h x4 3).toInt → 0 < (hI h M (hI h P 0).toNatClampNeg).toInt ∧ ¬ (hI h M (hI h P 0).toNatClampNeg - (1 : Int32)) &&& (1 : Int32) = y)
theorem tot_k {H : Nat} (kM : ∀ i, hI o M i = hI h M i) (kH : ∀ i, hI o H i = hI h H i) : tot M H o = tot M H h := by
  unfold tot
  rw [mc_eq 64 (fun i _ => kM i), sh_eq 12 (fun i _ => kH _), sh_eq 12 (fun i _ => kH _)]
theorem wrd_k {y : Int32} (kM : ∀ i, hI o M i = hI h M i) (kP : ∀ i, hI o P i = hI h P i) (kH : ∀ i, hI o H i = hI h H i) (kJ : hJ o x4 2 = hJ h x4 2) (k3 : hI o x4 3 = hI h x4 3) (W : WrD zq M P H x4 y h) : WrD zq M P H x4 y o := by
  unfold WrD
  rw [tot_k kM kH, kJ, k3, kP, kM]
  exact W
theorem wrd_of (eM : hR h x4 0 = some M) (eP : hR h x4 4 = some P) (eH : hR h x4 5 = some H) (W : WrD zq M P H x4 (hI h x4 1) h) : WrE zq x4 h := by
  obtain ⟨w1, w2, w3, w4⟩ := W
  refine ⟨fun M' H' m1 m2 => ?_, w2, w3, fun n M' P' m1 m2 => ?_⟩
  · have y1 := r_eq eM m1
    have y2 := r_eq eH m2
    subst y1; subst y2; exact w1
  · have y1 := r_eq eM m1
    have y2 := r_eq eP m2
    subst y1; subst y2; exact w4 n
theorem mk_582 {t0 : Int32} (Q : MkZ ρ x0 x1 x2 x4 M P H C R A B P1 lb lx lk lo j tk kd mo p0 h) (W : WrD zq M P H x4 (hI h x4 1) h) (e : sX15_make_582 F h x0 x4 x5 t0 = some o) : WrE zq x4 o := by
  have fin : ∀ {g : Hp}, MkZ ρ x0 x1 x2 x4 M P H C R A B P1 lb lx lk lo j tk kd mo p0 g → WrD zq M P H x4 (hI g x4 1) g → WrE zq x4 g := fun Q W => wrd_of Q.1.1 Q.1.2.1 Q.1.2.2.1 W
  unfold sX15_make_582 sX15_make_626 at e
  simp only [nm] at e
  replace e := br_s e; rcases e with ⟨_, e⟩ | ⟨_, e⟩
  · rw [← Option.some.inj e]; exact fin Q W
  replace e := cl_s e; obtain ⟨o2, e2, e⟩ := e
  have k2 := ias_z (l := 0) Q.2.2.2.2.2.2 e2
  obtain ⟨b1, b2, b3, b4, b5, b6, b7, b8, b9, b10⟩ := Q.2.1
  have d1 := Q.2.2.2.2.2.2.2.1.1
  have kI : ∀ {a q : Nat} (i : Nat), ρ a = q → q ≠ 16 → hI o2.2 a i = hI h a i := fun {a q} i ra n => k2.2.2.2 a i (Or.inl rfl) (Or.inl (by decide)) (Or.inl rfl) (fun z => n (by rw [← ra, z.1]; exact d1))
  have Q2 : MkZ ρ x0 x1 x2 x4 M P H C R A B P1 lb lx lk lo j tk kd mo p0 o2.2 := mkz_k ⟨k2.1, k2.2.2.1, fun a i _ _ _ _ _ n => k2.2.2.2 a i (Or.inl rfl) (Or.inl (by decide)) (Or.inl rfl) n⟩ Q
  have W2 : WrD zq M P H x4 (hI o2.2 x4 1) o2.2 := by
    rw [kI 1 b1 (by decide)]
    exact wrd_k (fun i => kI i b2 (by decide)) (fun i => kI i b3 (by decide)) (fun i => kI i b4 (by decide)) (k2.2.1 _ _) (kI 3 b1 (by decide)) W
  replace e := br_s e; rcases e with ⟨_, e⟩ | ⟨_, e⟩
  · rw [← Option.some.inj e]; exact fin Q2 W2
  replace e := cl_s e; obtain ⟨C', ec, e⟩ := e
  have y : C' = C := r_eq Q2.1.2.2.2.1 ec
  subst y
  replace e := cl_s e; obtain ⟨_, _, e⟩ := e
  replace e := (gd_s e).2
  replace e := (gd_s e).2
  rw [← Option.some.inj e]
  have ne : ∀ {a d p q : Nat}, ρ a = p → ρ d = q → p ≠ q → ¬ a = d := fun ha hd hpq z => hpq (by rw [← ha, z]; exact hd)
  refine fin (mkz_k (mfz_w (Or.inr (Or.inr (Or.inr (Or.inl rfl))))) Q2) ?_
  rw [rI_a (ne b1 b5 (by decide))]
  exact wrd_k (fun i => rI_a (ne b2 b5 (by decide))) (fun i => rI_a (ne b3 b5 (by decide))) (fun i => rI_a (ne b4 b5 (by decide))) rfl (rI_a (ne b1 b5 (by decide))) W2
theorem mk_546 {t0 : Int32} (Q : MkZ ρ x0 x1 x2 x4 M P H C R A B P1 lb lx lk lo j tk kd mo p0 h) (W : WrD zq M P H x4 ((1 : Int32) - x5) h) (e : sX15_make_546 F h x0 x4 x5 t0 x4 = some o) : WrE zq x4 o := by
  unfold sX15_make_546 at e
  replace e := nm_s e; obtain ⟨h1, w1, e⟩ := e
  replace e := nm_s e; obtain ⟨h2, w2, e⟩ := e
  obtain ⟨b1, b2, b3, b4, b5, b6, b7, b8, b9, b10⟩ := Q.2.1
  have ne : ∀ {a d p q : Nat}, ρ a = p → ρ d = q → p ≠ q → ¬ a = d := fun ha hd hpq z => hpq (by rw [← ha, z]; exact hd)
  have k2 : MfZ x0 x4 M P H C h h2 := by
    rw [w2, w1]
    exact mfz_t (mfz_w (Or.inr (Or.inr (Or.inr (Or.inr rfl))))) (mfz_w (Or.inr (Or.inr (Or.inr (Or.inr rfl)))))
  have Q2 := mkz_k k2 Q
  have W2 : WrD zq M P H x4 (hI h2 x4 1) h2 := by
    have e1 : hI h2 x4 1 = (1 : Int32) - x5 := by rw [w2, rI_s]
    rw [e1]
    refine wrd_k (fun i => ?_) (fun i => ?_) (fun i => ?_) ?_ ?_ W
    · rw [w2, w1, rI_a (ne b2 b1 (by decide)), rI_a (ne b2 b1 (by decide))]
    · rw [w2, w1, rI_a (ne b3 b1 (by decide)), rI_a (ne b3 b1 (by decide))]
    · rw [w2, w1, rI_a (ne b4 b1 (by decide)), rI_a (ne b4 b1 (by decide))]
    · rw [w2, w1]; rfl
    · rw [w2, w1, rI_o (by decide), rI_o (by decide)]
  replace e := cl_s e; obtain ⟨_, _, e⟩ := e
  replace e := br_s e; rcases e with ⟨_, e⟩ | ⟨_, e⟩
  · exact mk_582 Q2 W2 e
  replace e := cl_s e; obtain ⟨o5, e5, e⟩ := e
  rw [roy_h e5] at e
  exact mk_582 Q2 W2 e
theorem mk_508 {x9 : Int32} (Q : MkZ ρ x0 x1 x2 x4 M P H C R A B P1 lb lx lk lo j tk kd mo p0 h) (W : WrD zq M P H x4 ((1 : Int32) - x5) h) (e : sX15_make_508 F h x0 x1 x4 x5 x8 x9 x10 = some o) : WrE zq x4 o := by
  unfold sX15_make_508 sX15_make_530 at e
  replace e := br_s e; rcases e with ⟨_, e⟩ | ⟨_, e⟩
  · replace e := br_s e; rcases e with ⟨_, e⟩ | ⟨_, e⟩
    · exact mk_546 Q W e
    replace e := cl_s e; obtain ⟨o3, e3, e⟩ := e
    rw [oth_post e3] at e
    replace e := br_s e; rcases e with ⟨_, e⟩ | ⟨_, e⟩
    · exact mk_546 Q W e
    · exact mk_546 Q W e
  · exact mk_546 Q W e
theorem mk_415 {x9 x11 : Int32} : ∀ (f : Nat) {h : Hp} {x12 : Int32}, MkZ ρ x0 x1 x2 x4 M P H C R A B P1 lb lx lk lo j tk kd mo p0 h → WrD zq M P H x4 ((1 : Int32) - x5) h → 1 ≤ x12.toInt → x12.toInt ≤ 9 → x11.toInt ≤ 8 → sX15_make_415 F f h x0 x1 x4 x5 x6 x7 x8 x9 x10 x11 x12 = some o → WrE zq x4 o := by
  intro f
  induction f with
  | zero => intro h x12 _ _ _ _ _ e; exact absurd e (by simp [sX15_make_415])
  | succ f ih =>
    intro h x12 Q W a1 a9 a8 e
    rw [sX15_make_415] at e
    replace e := br_s e; rcases e with ⟨_, e⟩ | ⟨n, e⟩
    · exact mk_508 Q W e
    have n := nle_i n
    replace e := (gd_s e).2
    replace e := (gd_s e).2
    replace e := (gd_s e).2
    replace e := (gd_s e).2
    replace e := nm_s e; obtain ⟨_, _, e⟩ := e
    replace e := (gd_s e).2
    replace e := (gd_s e).2
    replace e := (gd_s e).2
    replace e := (gd_s e).2
    replace e := nm_s e; obtain ⟨_, _, e⟩ := e
    replace e := cl_s e; obtain ⟨P', ep, e⟩ := e
    have y : P' = P := r_eq Q.1.2.1 ep
    subst y
    replace e := (gd_s e).2
    replace e := nm_s e; obtain ⟨h14, w14, e⟩ := e
    replace e := nm_s e; obtain ⟨v15, w15, e⟩ := e
    have z1 : (1 : Int32).toInt = 1 := rfl
    have t15 : v15.toInt = x12.toInt + 1 := by rw [w15, ta (by rw [z1]; omega), z1]
    obtain ⟨b1, b2, b3, b4, b5, b6, b7, b8, b9, b10⟩ := Q.2.1
    have ne : ∀ {a d p q : Nat}, ρ a = p → ρ d = q → p ≠ q → ¬ a = d := fun ha hd hpq z => hpq (by rw [← ha, z]; exact hd)
    have c12 := nc_i (x := x12) (by omega)
    refine ih (mkz_k (by rw [w14]; exact mfz_w (Or.inr (Or.inl rfl))) Q) ?_ (by omega) (by omega) a8 e
    obtain ⟨q1, q2, q3, q4⟩ := W
    have kM : ∀ i, hI h14 M i = hI h M i := fun i => by rw [w14, rI_a (ne b2 b3 (by decide))]
    have kH : ∀ i, hI h14 H i = hI h H i := fun i => by rw [w14, rI_a (ne b4 b3 (by decide))]
    have k3 : hI h14 x4 3 = hI h x4 3 := by rw [w14, rI_a (ne b1 b3 (by decide))]
    have kP : hI h14 P' 0 = hI h P' 0 := by rw [w14, rI_o (by omega)]
    refine ⟨by rw [tot_k kM kH]; exact q1, by rw [w14]; exact q2, by rw [k3]; exact q3, fun n => ?_⟩
    rw [k3] at n
    rw [kP, kM]
    exact q4 n
/-- the men have gone, the last squares are told -/
def MX (zq : Nat) (M H x4 : Nat) (kd x5 x7 : Int32) (h : Hp) : Prop := tot M H h ≤ 96 ∧ cRt (hJ h x4 2) zq ≤ 16 ∧ hI h x4 3 = 0 ∧ (¬ kd = (2 : Int32) → 0 < (hI h M x7.toNatClampNeg).toInt ∧ (hI h M x7.toNatClampNeg - (1 : Int32)) &&& (1 : Int32) = x5)
theorem mx_d {y : Int32} (X : MX zq M H x4 kd x5 x7 h) : WrD zq M P H x4 y h := by
  have z0 : (0 : Int32).toInt = 0 := rfl
  refine ⟨X.1, X.2.1, by rw [X.2.2.1]; decide, fun n => ?_⟩
  rw [X.2.2.1, z0] at n
  omega
theorem mk_365 {x9 : Int32} (hj : j = x3.toNatClampNeg) (h5 : Rg 0 1 x5) (m8 : kd = (0 : Int32) ∨ kd = (1 : Int32) → mo.toInt ≤ 8) (hk : Rg 0 3 kd) (Q : MkZ ρ x0 x1 x2 x4 M P H C R A B P1 lb lx lk lo j tk kd mo p0 h) (X : MX zq M H x4 kd x5 x7 h) (e : sX15_make_365 F h x0 x1 x2 x3 x4 x5 x6 x7 x8 x9 x10 = some o) : WrE zq x4 o := by
  subst hj
  unfold sX15_make_365 at e
  replace e := cl_s e; obtain ⟨lk', ek, e⟩ := e
  have y : lk' = lk := r_eq Q.1.2.2.2.2.2.2.2.1 ek
  subst y
  replace e := (gd_s e).2
  have vk := Q.2.2.2.2.1.2.1
  have vo := Q.2.2.2.2.1.2.2.1
  rw [vk] at e
  replace e := br_s e; rcases e with ⟨_, e⟩ | ⟨n2, e⟩
  · exact mk_508 Q (mx_d X) e
  have n2 := nle_i n2
  have z2 : (2 : Int32).toInt = 2 := rfl
  have z0 : (0 : Int32).toInt = 0 := rfl
  have z1 : (1 : Int32).toInt = 1 := rfl
  have k01 : kd = (0 : Int32) ∨ kd = (1 : Int32) := by
    have := hk.1
    by_cases w : kd.toInt = 0
    · exact Or.inl (Int32.toInt_inj.mp (by rw [w, z0]))
    · exact Or.inr (Int32.toInt_inj.mp (by rw [z1]; omega))
  have nk : ¬ kd = (2 : Int32) := fun w => by rw [w] at n2; omega
  replace e := cl_s e; obtain ⟨lo', eo, e⟩ := e
  have y : lo' = lo := r_eq Q.1.2.2.2.2.2.2.2.2 eo
  subst y
  replace e := (gd_s e).2
  rw [vo] at e
  replace e := br_s e; rcases e with ⟨_, e⟩ | ⟨n0, e⟩
  · exact mk_508 Q (mx_d X) e
  replace e := cl_s e; obtain ⟨lo'', eo', e⟩ := e
  have y : lo'' = lo' := r_eq eo eo'
  subst y
  replace e := (gd_s e).2
  replace e := nm_s e; obtain ⟨h9, w9, e⟩ := e
  rw [vo] at w9
  replace e := cl_s e; obtain ⟨P', ep, e⟩ := e
  have y : P' = P := r_eq Q.1.2.1 (by rw [w9] at ep; exact ep)
  subst y
  replace e := (gd_s e).2
  replace e := nm_s e; obtain ⟨h12, w12, e⟩ := e
  replace e := cl_s e; obtain ⟨lo3, eo3, e⟩ := e
  have y : lo3 = lo'' := r_eq eo (by rw [w12, w9] at eo3; exact eo3)
  subst y
  replace e := (gd_s e).2
  replace e := nm_s e; obtain ⟨v15, w15, e⟩ := e
  obtain ⟨b1, b2, b3, b4, b5, b6, b7, b8, b9, b10⟩ := Q.2.1
  have ne : ∀ {a d p q : Nat}, ρ a = p → ρ d = q → p ≠ q → ¬ a = d := fun ha hd hpq z => hpq (by rw [← ha, z]; exact hd)
  have k12 : MfZ x0 x4 M P' H C h h12 := by
    rw [w12, w9]
    exact mfz_t (mfz_w (Or.inr (Or.inr (Or.inr (Or.inr rfl))))) (mfz_w (Or.inr (Or.inl rfl)))
  have Q12 := mkz_k k12 Q
  rw [Q12.2.2.2.2.1.2.2.1] at w15
  have kM : ∀ i, hI h12 M i = hI h M i := fun i => by rw [w12, w9, rI_a (ne b2 b3 (by decide)), rI_a (ne b2 b1 (by decide))]
  have kH : ∀ i, hI h12 H i = hI h H i := fun i => by rw [w12, w9, rI_a (ne b4 b3 (by decide)), rI_a (ne b4 b1 (by decide))]
  refine mk_415 F Q12 ⟨by rw [tot_k kM kH]; exact X.1, by rw [w12, w9]; exact X.2.1, ?_, fun _ => ?_⟩ (by decide) (by decide) (by rw [w15]; exact m8 k01) e
  · rw [w12, rI_a (ne b1 b3 (by decide)), w9, rI_s]; exact m8 k01
  · have e0 : hI h12 P' 0 = x7 := by rw [w12]; exact rI_s
    rw [e0, kM]
    obtain ⟨u1, u2⟩ := X.2.2.2 nk
    exact ⟨u1, fun w => oth_ne h5 (u2.symm.trans w)⟩
end
