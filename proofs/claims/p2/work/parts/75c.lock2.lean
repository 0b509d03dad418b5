/-! a man that is led to a square where another stands attacks it: the loops side by side -/
/-- what may change between wrongOf and the moves tried -/
def XS (k i : Nat) : Bool := (Nat.ble 66 k && Nat.ble k 72) || Nat.beq k 86 || Nat.beq k 87 || Nat.beq k 88 || Nat.beq k 89 || Nat.beq k 105 || (Nat.beq k 16 && (Nat.beq i 23 || Nat.beq i 24 || Nat.beq i 29)) || (Nat.beq k 14 && Nat.beq i 0)
def Fq (ρ : Nat → Nat) (h0 h : Hp) : Prop := ∀ a i, ρ a ≠ 0 → XS (ρ a) i = false → hI h a i = hI h0 a i ∧ hJ h a i = hJ h0 a i ∧ hR h a i = hR h0 a i
section
variable {ρ : Nat → Nat} {h0 h h1 : Hp} {a k : Nat}
theorem fq_r : Fq ρ h h := fun _ _ _ _ => ⟨rfl, rfl, rfl⟩
theorem fq_t (p : Fq ρ h0 h) (q : Fq ρ h h1) : Fq ρ h0 h1 := fun a i n x => ⟨(q a i n x).1.trans (p a i n x).1, (q a i n x).2.1.trans (p a i n x).2.1, (q a i n x).2.2.trans (p a i n x).2.2⟩
theorem fqI (i : Nat) (fr : Fq ρ h0 h) (ra : ρ a = k) (n : k ≠ 0 := by decide) (x : XS k i = false := by rfl) : hI h a i = hI h0 a i := (fr a i (by rw [ra]; exact n) (by rw [ra]; exact x)).1
theorem fqJ (i : Nat) (fr : Fq ρ h0 h) (ra : ρ a = k) (n : k ≠ 0 := by decide) (x : XS k i = false := by rfl) : hJ h a i = hJ h0 a i := (fr a i (by rw [ra]; exact n) (by rw [ra]; exact x)).2.1
theorem fqE (i : Nat) (fr : Fq ρ h0 h) (ra : ρ a = k) (n : k ≠ 0 := by decide) (x : XS k i = false := by rfl) : hR h a i = hR h0 a i := (fr a i (by rw [ra]; exact n) (by rw [ra]; exact x)).2.2
theorem fqR {i r : Nat} (fr : Fq ρ h0 h) (ra : ρ a = k) (e : hR h0 a i = some r) (n : k ≠ 0 := by decide) (x : XS k i = false := by rfl) : hR h a i = some r := by rw [fqE i fr ra n x]; exact e
theorem fq_w {i : Nat} {v : Int32} (fr : Fq ρ h0 h) (ra : ρ a = k) (x : XS k i = true := by rfl) : Fq ρ h0 (wI h a i v) := fq_t fr fun b j _ xb => ⟨by
  rw [r_I, if_neg]
  rintro ⟨q1, q2⟩
  subst q1; subst q2
  rw [ra, x] at xb
  exact absurd xb (by decide), rfl, rfl⟩
end
theorem inb0 {x : Int32} {n : Nat} (g : inB x n) : 0 ≤ x.toInt := nlt_i (y := 0) (fun w => g (Or.inl w))
theorem le_i32_1 {x : Int32} (c : ¬ (2 : Int32) ≤ x) : x ≤ (1 : Int32) := by
  have c := nle_i c
  have z : (2 : Int32).toInt = 2 := rfl
  have z1 : (1 : Int32).toInt = 1 := rfl
  rw [Int32.le_iff_toInt_le]
  omega
section
variable {ρ : Nat → Nat} {x0 b S Fa Ct M R Fl Ri F : Nat} {h0 : Hp} {s sd st ct fl q dx dy : Int32}
/-- what the rows are -/
def LkS (ρ : Nat → Nat) (x0 b S Fa Ct M R Fl Ri : Nat) (h0 : Hp) : Prop :=
  (ρ x0 = 16 ∧ ρ b = 13 ∧ ρ S = 87 ∧ ρ Fa = 88 ∧ ρ Ct = 89 ∧ ρ M = 62 ∧ ρ R = 15 ∧ ρ Fl = 75 ∧ ρ Ri = 78) ∧
  (hR h0 x0 25 = some S ∧ hR h0 x0 26 = some Fa ∧ hR h0 x0 27 = some Ct ∧ hR h0 b 0 = some M ∧ hR h0 x0 4 = some R ∧ hR h0 R 5 = some Fl ∧ hR h0 R 8 = some Ri) ∧
  (Rg 3 8 (hI h0 x0 11) ∧ Rg 3 8 (hI h0 x0 12) ∧ (∀ i, Rg 0 7 (hI h0 Ri i)) ∧ hI h0 b 3 ≤ (1 : Int32))
theorem lk_st {f : Nat} {h o : Hp} {x7 x8 : Int32} (L : LkS ρ x0 b S Fa Ct M R Fl Ri h0) (fr : Fq ρ h0 h) (e : sX15_leadBy_18 F (f + 1) h x0 b s sd st ct fl x7 x8 = some o) :
    o = h ∨ (¬ (hI h0 Ri st.toNatClampNeg) < x8 ∧ ¬ (2 : Int32) ≤ x7 ∧ ∃ t, onV (hI h0 x0 11) (hI h0 x0 12) (hI h x0 23) (hI h x0 24) s x8 = t ∧ ¬ t = (-1 : Int32) ∧ 0 ≤ t.toInt ∧ ∃ h', sX15_leadBy_18 F f h' x0 b s sd st ct fl (x7 + fuV (hI h0 M t.toNatClampNeg)) (x8 + (1 : Int32)) = some o ∧ Fq ρ h0 h' ∧ hI h' x0 23 = hI h x0 23 ∧ hI h' x0 24 = hI h x0 24 ∧ (∀ j, ¬ j = t.toNatClampNeg → hI h' S j = hI h S j) ∧
      (h' = h ∨ (¬ frV fl x7 = 0 ∧ (0 < (hI h0 M t.toNatClampNeg).toInt → fl &&& (1 : Int32) = 0 ∧ ¬ ((hI h0 M t.toNatClampNeg) - (1 : Int32)) &&& (1 : Int32) = sd)))) := by
  obtain ⟨⟨rx, rb, rS, rFa, rCt, rM, rR, rFl, rRi⟩, ⟨e25, e26, e27, eM, eR, eFl, eRi⟩, ⟨iF, iR, iri, ps⟩⟩ := L
  have k11 : hI h x0 11 = hI h0 x0 11 := fqI 11 fr rx
  have k12 : hI h x0 12 = hI h0 x0 12 := fqI 12 fr rx
  have kM : ∀ i, hI h M i = hI h0 M i := fun i => fqI i fr rM
  have kRi : ∀ i, hI h Ri i = hI h0 Ri i := fun i => fqI i fr rRi
  have kb : hI h b 3 = hI h0 b 3 := fqI 3 fr rb
  rcases lb_step (S := S) (Fa := Fa) (Ct := Ct) (M := M) (R := R) (Ri := Ri) (fqR fr rx e25) (fqR fr rx e26) (fqR fr rx e27) (fqR fr rb eM) (fqR fr rx eR) (fqR fr rR eRi) (by rw [kb]; exact ps) e with ⟨w, _⟩ | ⟨c1, c2, t, et, nt, gB, h', e', alt⟩
  · exact Or.inl w
  rw [kM] at e' alt
  rw [kRi] at c1
  rw [k11, k12] at et
  have t0 : 0 ≤ t.toInt := inb0 gB
  have nSF : ¬ S = Fa := fun q => absurd (q ▸ rS) (by rw [rFa]; decide)
  have nSC : ¬ S = Ct := fun q => absurd (q ▸ rS) (by rw [rCt]; decide)
  have nxS : ¬ x0 = S := fun q => absurd (q ▸ rx) (by rw [rS]; decide)
  have nxF : ¬ x0 = Fa := fun q => absurd (q ▸ rx) (by rw [rFa]; decide)
  have nxC : ¬ x0 = Ct := fun q => absurd (q ▸ rx) (by rw [rCt]; decide)
  refine Or.inr ⟨c1, c2, t, et, nt, t0, h', e', ?_⟩
  rcases alt with w | ⟨z, w, a1, a2⟩
  · subst w
    exact ⟨fr, rfl, rfl, fun _ _ => rfl, Or.inl rfl⟩
  · subst w
    refine ⟨fq_w (fq_w (fq_w fr rS) rFa) rCt, ?_, ?_, fun j nj => ?_, Or.inr ⟨a1, a2⟩⟩
    · rw [r_I, if_neg (fun w => nxC w.1), r_I, if_neg (fun w => nxF w.1), r_I, if_neg (fun w => nxS w.1)]
    · rw [r_I, if_neg (fun w => nxC w.1), r_I, if_neg (fun w => nxF w.1), r_I, if_neg (fun w => nxS w.1)]
    · rw [r_I, if_neg (fun w => nSC w.1), r_I, if_neg (fun w => nSF w.1), r_I, if_neg (fun w => nj w.2)]
theorem up8 {x8 r : Int32} (i8 : Rg 1 8 x8) (ir : Rg 0 7 r) (c : ¬ r < x8) : Rg 1 8 (x8 + (1 : Int32)) ∧ (x8 + (1 : Int32)).toInt = x8.toInt + 1 := by
  have c := nlt_i c
  have := ir.2
  have := i8.1
  have e : (x8 + (1 : Int32)).toInt = x8.toInt + 1 := ta (by show _ ≤ x8.toInt + 1 ∧ x8.toInt + 1 ≤ _; omega)
  exact ⟨⟨by omega, by omega⟩, e⟩
theorem lb_keep (L : LkS ρ x0 b S Fa Ct M R Fl Ri h0) (q0 : 0 ≤ q.toInt) : ∀ (f : Nat) {h o : Hp} {x7 x8 : Int32}, Fq ρ h0 h → hI h x0 23 = dx → hI h x0 24 = dy → Rg 1 8 x8 → sX15_leadBy_18 F f h x0 b s sd st ct fl x7 x8 = some o → (Fq ρ h0 o ∧ hI o x0 23 = dx ∧ hI o x0 24 = dy) ∧ ((∀ k, Rg 1 8 k → x8.toInt ≤ k.toInt → ¬ onV (hI h0 x0 11) (hI h0 x0 12) dx dy s k = q) → hI o S q.toNatClampNeg = hI h S q.toNatClampNeg) := by
  intro f
  induction f with
  | zero => intro h o x7 x8 _ _ _ _ e; exact absurd e (by simp [sX15_leadBy_18])
  | succ f ih =>
    intro h o x7 x8 fr ex ey i8 e
    rcases lk_st L fr e with w | ⟨c1, c2, t, et, nt, t0, h', e', fr', d1, d2, ks, _⟩
    · subst w; exact ⟨⟨fr, ex, ey⟩, fun _ => rfl⟩
    obtain ⟨j8, e8⟩ := up8 i8 (L.2.2.2.2.1 _) c1
    obtain ⟨z1, z2⟩ := ih fr' (d1.trans ex) (d2.trans ey) j8 e'
    refine ⟨z1, fun w => ?_⟩
    rw [z2 (fun k ik lk => w k ik (by omega))]
    refine ks _ (fun eq => ?_)
    have : q = t := by
      apply Int32.toInt_inj.mp
      have := nc_i q0
      have := nc_i t0
      omega
    rw [ex, ey] at et
    exact w x8 i8 (Int.le_refl _) (by rw [et, this])
theorem lb_lock (L : LkS ρ x0 b S Fa Ct M R Fl Ri h0) (is : Rg 0 63 s) (ix : Rg (-7) 7 dx) (iy : Rg (-7) 7 dy) (q0 : 0 ≤ q.toInt) (hq : 0 < (hI h0 M q.toNatClampNeg).toInt) (efl : fl = hI h0 Fl st.toNatClampNeg) : ∀ (f : Nat) {h o : Hp} {x7 x8 : Int32}, Fq ρ h0 h → hI h x0 23 = dx → hI h x0 24 = dy → Rg 1 8 x8 → sX15_leadBy_18 F f h x0 b s sd st ct fl x7 x8 = some o → hI h S q.toNatClampNeg = (-1 : Int32) → ¬ hI o S q.toNatClampNeg = (-1 : Int32) → fl &&& (1 : Int32) = 0 ∧ ¬ ((hI h0 M q.toNatClampNeg) - (1 : Int32)) &&& (1 : Int32) = sd ∧ (¬ q = s → ∀ (f' : Nat) (g : Hp) (o' : Int32 × Hp), Fq ρ h0 g → hI g x0 23 = dx → hI g x0 24 = dy → sX15_reaches_6 F f' g x0 b s q st x7 x8 = some o' → ¬ o'.1 = 0) := by
  have L' := L
  obtain ⟨⟨rx, rb, rS, rFa, rCt, rM, rR, rFl, rRi⟩, ⟨e25, e26, e27, eM, eR, eFl, eRi⟩, ⟨iF, iR, iri, ps⟩⟩ := L'
  intro f
  induction f with
  | zero => intro h o x7 x8 _ _ _ _ e; exact absurd e (by simp [sX15_leadBy_18])
  | succ f ih =>
    intro h o x7 x8 fr ex ey i8 e n1 n2
    rcases lk_st L fr e with w | ⟨c1, c2, t, et, nt, t0, h', e', fr', d1, d2, ks, alt⟩
    · subst w; exact absurd n1 n2
    rw [ex, ey] at et
    obtain ⟨j8, e8⟩ := up8 i8 (L.2.2.2.2.1 _) c1
    have rch : ∀ (f' : Nat) (g : Hp) (o' : Int32 × Hp), Fq ρ h0 g → hI g x0 23 = dx → hI g x0 24 = dy → sX15_reaches_6 F (f' + 1) g x0 b s q st x7 x8 = some o' → (t = q ∧ o'.1 = frV fl x7) ∨ (¬ t = q ∧ sX15_reaches_6 F f' g x0 b s q st (x7 + fuV (hI h0 M t.toNatClampNeg)) (x8 + (1 : Int32)) = some o') := by
      intro f' g o' frg gx gy e
      have k11 : hI g x0 11 = hI h0 x0 11 := fqI 11 frg rx
      have k12 : hI g x0 12 = hI h0 x0 12 := fqI 12 frg rx
      have kM : ∀ i, hI g M i = hI h0 M i := fun i => fqI i frg rM
      have kRi : ∀ i, hI g Ri i = hI h0 Ri i := fun i => fqI i frg rRi
      have kFl : ∀ i, hI g Fl i = hI h0 Fl i := fun i => fqI i frg rFl
      unfold sX15_reaches_6 at e
      replace e := cl_s e; obtain ⟨R', p1, e⟩ := e
      rw [fqE 4 frg rx] at p1
      have := r_eq eR p1; subst this
      replace e := cl_s e; obtain ⟨Ri', p2, e⟩ := e
      rw [fqE 8 frg rR] at p2
      have := r_eq eRi p2; subst this
      replace e := (gd_s e).2
      replace e := br_s e; rcases e with ⟨c, e⟩ | ⟨_, e⟩
      · rw [kRi] at c; exact absurd c c1
      replace e := cl_s e; obtain ⟨o5, e5, e⟩ := e
      have v5 := on_val e5
      rw [k11, k12, gx, gy, et] at v5
      subst v5
      dsimp only at e
      replace e := br_s e; rcases e with ⟨c, e⟩ | ⟨_, e⟩
      · exact absurd c nt
      replace e := br_s e; rcases e with ⟨_, e⟩ | ⟨c, e⟩
      · replace e := br_s e; rcases e with ⟨cq, e⟩ | ⟨cq, e⟩
        · replace e := cl_s e; obtain ⟨R2, p3, e⟩ := e
          rw [fqE 4 frg rx] at p3
          have := r_eq eR p3; subst this
          replace e := cl_s e; obtain ⟨Fl', p4, e⟩ := e
          rw [fqE 5 frg rR] at p4
          have := r_eq eFl p4; subst this
          replace e := (gd_s e).2
          replace e := cl_s e; obtain ⟨o15, e15, e⟩ := e
          have v15 := fr_val e15
          rw [kFl, ← efl] at v15
          subst v15
          have := Option.some.inj (gd_s e).2
          exact Or.inl ⟨cq, by rw [← this]⟩
        · replace e := cl_s e; obtain ⟨M', p3, e⟩ := e
          rw [fqE 0 frg rb] at p3
          have := r_eq eM p3; subst this
          replace e := (gd_s e).2
          rw [kM] at e
          refine Or.inr ⟨cq, ?_⟩
          unfold sX15_reaches_83 at e
          simp only [nm] at e
          unfold fuV
          replace e := br_s e; rcases e with ⟨c, e⟩ | ⟨c, e⟩
          · rw [if_pos c]; exact e
          · rw [if_neg c]; exact e
      · exact absurd (le_i32_1 c2) c
    by_cases tq : t = q
    · rcases alt with w | ⟨a1, a2⟩
      · subst w
        by_cases qs : q = s
        · obtain ⟨b1, b2, _⟩ := ih fr' ex ey j8 e' n1 n2
          exact ⟨b1, b2, fun ne => absurd qs ne⟩
        have := (lb_keep (q := q) L q0 f fr' ex ey j8 e').2 (fun k ik lk w => by
          have := on_uni is iF iR ix iy i8 ik (et.trans tq) w q0 qs
          rw [← this] at lk
          omega)
        rw [n1] at this
        exact absurd this n2
      · rw [tq] at a2
        obtain ⟨b1, b2⟩ := a2 hq
        refine ⟨b1, b2, fun ns f' g o' frg gx gy e => ?_⟩
        cases f' with
        | zero => exact absurd e (by simp [sX15_reaches_6])
        | succ f' =>
          rcases rch f' g o' frg gx gy e with ⟨_, w⟩ | ⟨w, _⟩
          · rw [w]; exact a1
          · exact absurd tq w
    · have n1' : hI h' S q.toNatClampNeg = (-1 : Int32) := by
        rw [ks _ (fun eq => tq (by
          apply Int32.toInt_inj.mp
          have := nc_i q0
          have := nc_i t0
          omega))]
        exact n1
      obtain ⟨b1, b2, b3⟩ := ih fr' (d1.trans ex) (d2.trans ey) j8 e' n1' n2
      refine ⟨b1, b2, fun ns f' g o' frg gx gy e => ?_⟩
      cases f' with
      | zero => exact absurd e (by simp [sX15_reaches_6])
      | succ f' =>
        rcases rch f' g o' frg gx gy e with ⟨w, _⟩ | ⟨_, w⟩
        · exact absurd w tq
        · exact b3 ns f' g o' frg gx gy w
end
