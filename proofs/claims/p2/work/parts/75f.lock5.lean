/-! lead and isAttacked -/
section
variable {ρ : Nat → Nat} {x0 b S Fa Ct M R Fl Ri A B Fm St F : Nat} {h0 : Hp} {s sd ct q : Int32}
/-- what the writes of lead keep -/
def CI (x0 S Fa Ct : Nat) (I : Hp → Prop) : Prop := (∀ g i v, I g → I (wI g S i v)) ∧ (∀ g i v, I g → I (wI g Fa i v)) ∧ (∀ g i v, I g → I (wI g Ct i v)) ∧ (∀ g v, I g → I (wI g x0 23 v)) ∧ (∀ g v, I g → I (wI g x0 24 v))
theorem lb_inv {I : Hp → Prop} {st fl : Int32} (L : LkS ρ x0 b S Fa Ct M R Fl Ri h0) (ci : CI x0 S Fa Ct I) : ∀ (f : Nat) {h o : Hp} {x7 x8 : Int32}, Fq ρ h0 h → I h → sX15_leadBy_18 F f h x0 b s sd st ct fl x7 x8 = some o → Fq ρ h0 o ∧ I o := by
  have L' := L
  obtain ⟨⟨rx, rb, rS, rFa, rCt, rM, rR, rFl, rRi⟩, ⟨e25, e26, e27, eM, eR, eFl, eRi⟩, ⟨iF, iR, iri, ps⟩⟩ := L'
  intro f
  induction f with
  | zero => intro h o x7 x8 _ _ e; exact absurd e (by simp [sX15_leadBy_18])
  | succ f ih =>
    intro h o x7 x8 fr i0 e
    rcases lb_step (fqR fr rx e25) (fqR fr rx e26) (fqR fr rx e27) (fqR fr rb eM) (fqR fr rx eR) (fqR fr rR eRi) (by rw [fqI 3 fr rb]; exact ps) e with ⟨w, _⟩ | ⟨_, _, t, _, _, _, h', e', alt⟩
    · subst w; exact ⟨fr, i0⟩
    rcases alt with w | ⟨z, w, _⟩
    · subst w; exact ih fr i0 e'
    · subst w
      exact ih (fq_w (fq_w (fq_w fr rS) rFa) rCt) (ci.2.2.1 _ _ _ (ci.2.1 _ _ _ (ci.1 _ _ _ i0))) e'
theorem hv_inv {I : Hp → Prop} {h : Hp} {st d : Int32} {o : Int32 × Hp} (L : LkS ρ x0 b S Fa Ct M R Fl Ri h0) (Z : LkT ρ x0 R A B Fm St h0) (ci : CI x0 S Fa Ct I) (fr : Fq ρ h0 h) (i0 : I h) (e : sX15_hasVector h x0 st d sd = some o) : Fq ρ h0 o.2 ∧ I o.2 := by
  refine ⟨(lk_h L Z fr e).1, ?_⟩
  obtain ⟨⟨rx, rb, rS, rFa, rCt, rM, rR, rFl, rRi⟩, ⟨e25, e26, e27, eM, eR, eFl, eRi⟩, ⟨iF, iR, iri, ps⟩⟩ := L
  obtain ⟨⟨rA, rB, rFm, rSt⟩, ⟨eA, eB, eFm, eSt⟩, iA, iB⟩ := Z
  obtain ⟨d1, d2, w, _⟩ := hv_post (fqR fr rx eR) (fqR fr rR eA) (fqR fr rR eB) (fun i => by rw [fqI i fr rA]; exact iA i) (fun i => by rw [fqI i fr rB]; exact iB i) e
  rw [w]
  exact ci.2.2.2.2 _ _ (ci.2.2.2.1 _ _ i0)
/-- lead leaves as it was what Fq names -/
theorem ld_fr {I : Hp → Prop} (L : LkS ρ x0 b S Fa Ct M R Fl Ri h0) (Z : LkT ρ x0 R A B Fm St h0) (ci : CI x0 S Fa Ct I) {v : Int32} : ∀ (f : Nat) {g o : Hp} {i : Int32}, Fq ρ h0 g → I g → sX15_lead_44 F f g x0 b s ct v sd i = some o → Fq ρ h0 o ∧ I o := by
  intro f
  induction f with
  | zero => intro g o i _ _ e; exact absurd e (by simp [sX15_lead_44])
  | succ f ih =>
    intro g o i fr i0 e
    unfold sX15_lead_44 at e
    simp only [nm] at e
    replace e := cl_s e; obtain ⟨_, _, e⟩ := e
    replace e := cl_s e; obtain ⟨_, _, e⟩ := e
    replace e := cl_s e; obtain ⟨o3, e3, e⟩ := e
    unfold sX15_manOf at e3
    have := Option.some.inj e3; subst this
    dsimp only at e
    replace e := (gd_s e).2
    replace e := br_s e; rcases e with ⟨_, e⟩ | ⟨_, e⟩
    · rw [← Option.some.inj e]; exact ⟨fr, i0⟩
    replace e := cl_s e; obtain ⟨o6, e6, e⟩ := e
    unfold sX15_manOf at e6
    have := Option.some.inj e6; subst this
    dsimp only at e
    have inn : ∀ (ff : Nat) {g : Hp} {i st d : Int32}, Fq ρ h0 g → I g → sX15_lead_78 F (sX15_lead_44 F f) ff g x0 b s ct v sd i st d = some o → Fq ρ h0 o ∧ I o := by
      intro ff
      induction ff with
      | zero => intro g i st d _ _ e; exact absurd e (by simp [sX15_lead_78])
      | succ ff ih2 =>
        intro g i st d fr i0 e
        unfold sX15_lead_78 sX15_lead_127 sX15_lead_121 at e
        simp only [nm] at e
        replace e := br_s e; rcases e with ⟨_, e⟩ | ⟨_, e⟩
        · exact ih fr i0 e
        replace e := cl_s e; obtain ⟨o2, e2, e⟩ := e
        have := from_post e2
        rw [this] at e
        replace e := br_s e; rcases e with ⟨_, e⟩ | ⟨_, e⟩
        · exact ih fr i0 e
        replace e := cl_s e; obtain ⟨o4, e4, e⟩ := e
        obtain ⟨fr4, i4⟩ := hv_inv L Z ci fr i0 e4
        replace e := br_s e; rcases e with ⟨_, e⟩ | ⟨_, e⟩
        · exact ih2 fr4 i4 e
        replace e := cl_s e; obtain ⟨o6, e6, e⟩ := e
        unfold sX15_leadBy at e6
        simp only [nm] at e6
        replace e6 := cl_s e6; obtain ⟨_, _, e6⟩ := e6
        replace e6 := cl_s e6; obtain ⟨_, _, e6⟩ := e6
        replace e6 := (gd_s e6).2
        obtain ⟨fr6, i6⟩ := lb_inv L ci F fr4 i4 e6
        exact ih2 fr6 i6 e
    exact inn F fr i0 e
/-- where the man on s may go: no own man is there, and a man that is there is attacked -/
def LdQ (ρ : Nat → Nat) (F x0 b M : Nat) (h0 : Hp) (s q : Int32) : Prop := 0 < (hI h0 M q.toNatClampNeg).toInt → ¬ ((hI h0 M q.toNatClampNeg) - (1 : Int32)) &&& (1 : Int32) = ((hI h0 M s.toNatClampNeg) - (1 : Int32)) &&& (1 : Int32) ∧ ∀ (g : Hp) (o' : Int32 × Hp), Fq ρ h0 g → sX15_attacks F g x0 b s (hI h0 M s.toNatClampNeg) q = some o' → ¬ o'.1 = 0
theorem lead_q {I : Hp → Prop} (L : LkS ρ x0 b S Fa Ct M R Fl Ri h0) (Z : LkT ρ x0 R A B Fm St h0) (ci : CI x0 S Fa Ct I) (is : Rg 0 63 s) {h o : Hp} (fr : Fq ρ h0 h) (i0 : I h) (e : sX15_lead F h x0 b s ct = some o) : Fq ρ h0 o ∧ I o ∧ ∀ q : Int32, 0 ≤ q.toInt → q.toInt < (hI h0 x0 13).toInt → ¬ hI o S q.toNatClampNeg = (-1 : Int32) → LdQ ρ F x0 b M h0 s q := by
  have L' := L
  obtain ⟨⟨rx, rb, rS, rFa, rCt, rM, rR, rFl, rRi⟩, ⟨e25, e26, e27, eM, eR, eFl, eRi⟩, ⟨iF, iR, iri, ps⟩⟩ := L'
  unfold sX15_lead at e
  simp only [nm] at e
  replace e := cl_s e; obtain ⟨M', p, e⟩ := e
  rw [fqE 0 fr rb] at p
  have := r_eq eM p; subst this
  replace e := (gd_s e).2
  replace e := cl_s e; obtain ⟨o4, e4, e⟩ := e
  unfold sX15_sideOf at e4
  have := Option.some.inj e4; subst this
  dsimp only at e
  rw [fqI _ fr rM] at e
  have k13 : ∀ {g : Hp}, Fq ρ h0 g → hI g x0 13 = hI h0 x0 13 := fun f => fqI 13 f rx
  have lp : ∀ (f : Nat) {g : Hp} {x6 : Int32}, Fq ρ h0 g → I g → 0 ≤ x6.toInt → (∀ j : Nat, (j : Int) < x6.toInt → hI g S j = (-1 : Int32)) → sX15_lead_18 F f g x0 b s ct (hI h0 M' s.toNatClampNeg) (((hI h0 M' s.toNatClampNeg) - (1 : Int32)) &&& (1 : Int32)) x6 = some o → ∃ g2, Fq ρ h0 g2 ∧ I g2 ∧ (∀ j : Nat, (j : Int) < (hI h0 x0 13).toInt → hI g2 S j = (-1 : Int32)) ∧ sX15_lead_44 F F g2 x0 b s ct (hI h0 M' s.toNatClampNeg) (((hI h0 M' s.toNatClampNeg) - (1 : Int32)) &&& (1 : Int32)) 0 = some o := by
    intro f
    induction f with
    | zero => intro g x6 _ _ _ _ e; exact absurd e (by simp [sX15_lead_18])
    | succ f ih =>
      intro g x6 fr i0 a6 hz e
      unfold sX15_lead_18 at e
      simp only [nm] at e
      replace e := br_s e; rcases e with ⟨c, e⟩ | ⟨c, e⟩
      · have c := le_i c
        rw [k13 fr] at c
        exact ⟨g, fr, i0, fun j hj => hz j (by omega), e⟩
      replace e := cl_s e; obtain ⟨S', p, e⟩ := e
      rw [fqE 25 fr rx] at p
      have := r_eq e25 p; subst this
      have gB := (gd_s e).1
      replace e := (gd_s e).2
      have c := nle_i c
      have b13 : (hI g x0 13).toInt ≤ 2147483647 := Int32.toInt_le _
      have ex : (x6 + (1 : Int32)).toInt = x6.toInt + 1 := ta (by show _ ≤ x6.toInt + 1 ∧ x6.toInt + 1 ≤ _; omega)
      refine ih (fq_w fr rS) (ci.1 _ _ _ i0) (by omega) (fun j hj => ?_) e
      rw [r_I]
      by_cases w : j = x6.toNatClampNeg
      · rw [if_pos ⟨rfl, w⟩]
      · rw [if_neg (fun z => w z.2)]
        exact hz j (by have := nc_i a6; omega)
  obtain ⟨g2, fr2, i2, z2, e⟩ := lp F fr i0 (by decide) (fun j hj => absurd hj (by show ¬ (j : Int) < 0; omega)) e
  refine ⟨(ld_fr L Z ci F fr2 i2 e).1, (ld_fr L Z ci F fr2 i2 e).2, fun q q0 ql n2 hq => ?_⟩
  obtain ⟨w1, w2⟩ := ld_lock L Z rfl rfl is q0 hq F fr2 e (z2 _ (by rw [nc_i q0]; exact ql)) n2
  refine ⟨w1, fun g o' frg ea => ?_⟩
  unfold sX15_attacks at ea
  replace ea := cl_s ea; obtain ⟨o1, e1, ea⟩ := ea
  unfold sX15_manOf at e1
  have := Option.some.inj e1; subst this
  dsimp only at ea
  exact w2 (fun w => by rw [w] at w1; exact w1 rfl) F g o' frg ea
/-- who is attacked, is told so -/
theorem isa_q (L : LkS ρ x0 b S Fa Ct M R Fl Ri h0) (Z : LkT ρ x0 R A B Fm St h0) {by' : Int32} (s0 : 0 ≤ s.toInt) (sl : s.toInt < (hI h0 x0 13).toInt) (hs : 0 < (hI h0 M s.toNatClampNeg).toInt) (own : ((hI h0 M s.toNatClampNeg) - (1 : Int32)) &&& (1 : Int32) = by') (qs : ¬ s = q) (at' : ∀ (g : Hp) (o' : Int32 × Hp), Fq ρ h0 g → sX15_attacks F g x0 b s (hI h0 M s.toNatClampNeg) q = some o' → ¬ o'.1 = 0) : ∀ (f : Nat) {g : Hp} {x4 : Int32} {o' : Int32 × Hp}, Fq ρ h0 g → 0 ≤ x4.toInt → x4.toInt ≤ s.toInt → sX15_isAttacked_3 F f g x0 b q by' x4 = some o' → ¬ o'.1 = 0 := by
  have L' := L
  obtain ⟨⟨rx, rb, rS, rFa, rCt, rM, rR, rFl, rRi⟩, ⟨e25, e26, e27, eM, eR, eFl, eRi⟩, ⟨iF, iR, iri, ps⟩⟩ := L'
  intro f
  induction f with
  | zero => intro g x4 o' _ _ _ e; exact absurd e (by simp [sX15_isAttacked_3])
  | succ f ih =>
    intro g x4 o' fr a4 l4 e
    have b13 : (hI h0 x0 13).toInt ≤ 2147483647 := Int32.toInt_le _
    have ex : (x4 + (1 : Int32)).toInt = x4.toInt + 1 := ta (by show _ ≤ x4.toInt + 1 ∧ x4.toInt + 1 ≤ _; omega)
    unfold sX15_isAttacked_3 sX15_isAttacked_56 at e
    simp only [nm] at e
    replace e := br_s e; rcases e with ⟨c, e⟩ | ⟨c, e⟩
    · have c := le_i c
      rw [fqI 13 fr rx] at c
      omega
    replace e := cl_s e; obtain ⟨M', p, e⟩ := e
    rw [fqE 0 fr rb] at p
    have := r_eq eM p; subst this
    replace e := (gd_s e).2
    rw [fqI _ fr rM] at e
    have z0 : (0 : Int32).toInt = 0 := rfl
    by_cases w : x4 = s
    · subst w
      replace e := br_s e; rcases e with ⟨c, e⟩ | ⟨_, e⟩
      · have c := le_i c
        omega
      replace e := cl_s e; obtain ⟨o6, e6, e⟩ := e
      unfold sX15_sideOf at e6
      have := Option.some.inj e6; subst this
      dsimp only at e
      replace e := br_s e; rcases e with ⟨_, e⟩ | ⟨c, _⟩
      · replace e := br_s e; rcases e with ⟨c, _⟩ | ⟨_, e⟩
        · exact absurd c qs
        replace e := cl_s e; obtain ⟨o9, e9, e⟩ := e
        replace e := br_s e; rcases e with ⟨c, _⟩ | ⟨_, e⟩
        · exact absurd c (at' g o9 fr e9)
        · rw [← Option.some.inj e]; show ¬ (1 : Int32) = 0; decide
      · exact absurd own c
    · have lt : x4.toInt < s.toInt := by
        have : ¬ x4.toInt = s.toInt := fun z => w (Int32.toInt_inj.mp z)
        omega
      have go : ∀ {g : Hp}, Fq ρ h0 g → sX15_isAttacked_3 F f g x0 b q by' (x4 + (1 : Int32)) = some o' → ¬ o'.1 = 0 := fun fr e => ih fr (by omega) (by omega) e
      replace e := br_s e; rcases e with ⟨_, e⟩ | ⟨_, e⟩
      · exact go fr e
      replace e := cl_s e; obtain ⟨o6, e6, e⟩ := e
      unfold sX15_sideOf at e6
      have := Option.some.inj e6; subst this
      dsimp only at e
      replace e := br_s e; rcases e with ⟨_, e⟩ | ⟨_, e⟩
      · replace e := br_s e; rcases e with ⟨_, e⟩ | ⟨_, e⟩
        · exact go fr e
        replace e := cl_s e; obtain ⟨o9, e9, e⟩ := e
        have fr9 : Fq ρ h0 o9.2 := by
          unfold sX15_attacks at e9
          replace e9 := cl_s e9; obtain ⟨o1, e1, e9⟩ := e9
          unfold sX15_manOf at e1
          have := Option.some.inj e1; subst this
          exact at_fr L Z F fr e9
        replace e := br_s e; rcases e with ⟨_, e⟩ | ⟨_, e⟩
        · exact go fr9 e
        · rw [← Option.some.inj e]; show ¬ (1 : Int32) = 0; decide
      · exact go fr e
end
