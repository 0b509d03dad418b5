section
/-! lead and attacks side by side -/
section
variable {ρ : Nat → Nat} {x0 b S Fa Ct M R Fl Ri A B Fm St F : Nat} {h0 : Hp} {s sd ct q : Int32}
def LkT (ρ : Nat → Nat) (x0 R A B Fm St : Nat) (h0 : Hp) : Prop :=
  (ρ A = 76 ∧ ρ B = 77 ∧ ρ Fm = 79 ∧ ρ St = 74) ∧ (hR h0 R 6 = some A ∧ hR h0 R 7 = some B ∧ hR h0 R 9 = some Fm ∧ hR h0 R 4 = some St) ∧ ((∀ i, Rg (-7) 7 (hI h0 A i)) ∧ (∀ i, Rg (-7) 7 (hI h0 B i)))
theorem lk_h {h : Hp} {st d : Int32} {o : Int32 × Hp} (L : LkS ρ x0 b S Fa Ct M R Fl Ri h0) (Z : LkT ρ x0 R A B Fm St h0) (fr : Fq ρ h0 h) (e : sX15_hasVector h x0 st d sd = some o) : Fq ρ h0 o.2 ∧ Rg (-7) 7 (hI o.2 x0 23) ∧ Rg (-7) 7 (hI o.2 x0 24) ∧ ∀ j, hI o.2 S j = hI h S j := by
  obtain ⟨⟨rx, rb, rS, rFa, rCt, rM, rR, rFl, rRi⟩, ⟨e25, e26, e27, eM, eR, eFl, eRi⟩, ⟨iF, iR, iri, ps⟩⟩ := L
  obtain ⟨⟨rA, rB, rFm, rSt⟩, ⟨eA, eB, eFm, eSt⟩, iA, iB⟩ := Z
  have nx : ∀ {r k : Nat}, ρ r = k → ¬ k = 16 → ∀ i, ¬ (r = x0 ∧ (i = 23 ∨ i = 24)) := fun {r k} e1 e2 i w => e2 (by rw [← e1, w.1, rx])
  have kA : ∀ i, hI h A i = hI h0 A i := fun i => fqI i fr rA
  have kB : ∀ i, hI h B i = hI h0 B i := fun i => fqI i fr rB
  obtain ⟨d1, d2, w, i1, i2⟩ := hv_post (fqR fr rx eR) (fqR fr rR eA) (fqR fr rR eB) (fun i => by rw [kA]; exact iA i) (fun i => by rw [kB]; exact iB i) e
  rw [w]
  refine ⟨fq_w (fq_w fr rx) rx, ?_, ?_, fun j => ?_⟩
  · rw [r_I, if_neg (fun w => absurd w.2 (by decide)), r_I, if_pos ⟨rfl, rfl⟩]; exact i1
  · rw [r_I, if_pos ⟨rfl, rfl⟩]; exact i2
  · have n : ¬ S = x0 := fun q => absurd (q ▸ rS) (by rw [rx]; decide)
    rw [r_I, if_neg (fun w => n w.1), r_I, if_neg (fun w => n w.1)]
theorem lk_h2 {h g : Hp} {st d : Int32} {o o' : Int32 × Hp} (L : LkS ρ x0 b S Fa Ct M R Fl Ri h0) (Z : LkT ρ x0 R A B Fm St h0) (fr : Fq ρ h0 h) (frg : Fq ρ h0 g) (e : sX15_hasVector h x0 st d sd = some o) (e' : sX15_hasVector g x0 st d sd = some o') : o.1 = o'.1 ∧ hI o'.2 x0 23 = hI o.2 x0 23 ∧ hI o'.2 x0 24 = hI o.2 x0 24 := by
  obtain ⟨⟨rx, rb, rS, rFa, rCt, rM, rR, rFl, rRi⟩, ⟨e25, e26, e27, eM, eR, eFl, eRi⟩, ⟨iF, iR, iri, ps⟩⟩ := L
  obtain ⟨⟨rA, rB, rFm, rSt⟩, ⟨eA, eB, eFm, eSt⟩, iA, iB⟩ := Z
  have nx : ∀ {r k : Nat}, ρ r = k → ¬ k = 16 → ∀ i, ¬ (r = x0 ∧ (i = 23 ∨ i = 24)) := fun {r k} e1 e2 i w => e2 (by rw [← e1, w.1, rx])
  obtain ⟨w1, d1, d2, w2, w3⟩ := hv_two eR eA eB eFl (fqE 4 fr rx) (fqE 6 fr rR) (fqE 7 fr rR) (fqE 5 fr rR) (fqE 4 frg rx) (fqE 6 frg rR) (fqE 7 frg rR) (fqE 5 frg rR) (fun i => fqI i fr rA) (fun i => fqI i fr rB) (fun i => fqI i fr rFl) (fun i => fqI i frg rA) (fun i => fqI i frg rB) (fun i => fqI i frg rFl) e e'
  refine ⟨w1, ?_, ?_⟩
  · rw [w2, w3, r_I, if_neg (fun w => absurd w.2 (by decide)), r_I, if_pos ⟨rfl, rfl⟩, r_I, if_neg (fun w => absurd w.2 (by decide)), r_I, if_pos ⟨rfl, rfl⟩]
  · rw [w2, w3, r_I, if_pos ⟨rfl, rfl⟩, r_I, if_pos ⟨rfl, rfl⟩]
theorem rch_fr {st : Int32} : ∀ (f : Nat) {g : Hp} {x7 x8 : Int32} {o' : Int32 × Hp}, sX15_reaches_6 F f g x0 b s q st x7 x8 = some o' → o'.2 = g := by
  intro f
  induction f with
  | zero => intro g x7 x8 o' e; exact absurd e (by simp [sX15_reaches_6])
  | succ f ih =>
    intro g x7 x8 o' e
    unfold sX15_reaches_6 sX15_reaches_42 sX15_reaches_83 at e
    simp only [nm] at e
    replace e := cl_s e; obtain ⟨_, _, e⟩ := e
    replace e := cl_s e; obtain ⟨_, _, e⟩ := e
    replace e := (gd_s e).2
    replace e := br_s e; rcases e with ⟨_, e⟩ | ⟨_, e⟩
    · rw [← Option.some.inj e]
    replace e := cl_s e; obtain ⟨o5, e5, e⟩ := e
    have v5 := on_val e5; subst v5
    dsimp only at e
    replace e := br_s e; rcases e with ⟨_, e⟩ | ⟨_, e⟩
    · rw [← Option.some.inj e]
    replace e := br_s e; rcases e with ⟨_, e⟩ | ⟨_, e⟩
    · replace e := br_s e; rcases e with ⟨_, e⟩ | ⟨_, e⟩
      · replace e := cl_s e; obtain ⟨_, _, e⟩ := e
        replace e := cl_s e; obtain ⟨_, _, e⟩ := e
        replace e := (gd_s e).2
        replace e := cl_s e; obtain ⟨o15, e15, e⟩ := e
        have v15 := fr_val e15; subst v15
        rw [← Option.some.inj (gd_s e).2]
      · replace e := cl_s e; obtain ⟨_, _, e⟩ := e
        replace e := (gd_s e).2
        replace e := br_s e; rcases e with ⟨_, e⟩ | ⟨_, e⟩
        · exact ih e
        · exact ih e
    · rw [← Option.some.inj e]
/-- attacks leaves all but two fields as it was -/
theorem at_fr (L : LkS ρ x0 b S Fa Ct M R Fl Ri h0) (Z : LkT ρ x0 R A B Fm St h0) {v m : Int32} : ∀ (f : Nat) {g : Hp} {i : Int32} {o' : Int32 × Hp}, Fq ρ h0 g → sX15_attacks_9 F f g x0 b s v q m i = some o' → Fq ρ h0 o'.2 := by
  intro f
  induction f with
  | zero => intro g i o' _ e; exact absurd e (by simp [sX15_attacks_9])
  | succ f ih =>
    intro g i o' fr e
    unfold sX15_attacks_9 at e
    simp only [nm] at e
    replace e := cl_s e; obtain ⟨_, _, e⟩ := e
    replace e := cl_s e; obtain ⟨_, _, e⟩ := e
    replace e := (gd_s e).2
    replace e := br_s e; rcases e with ⟨_, e⟩ | ⟨_, e⟩
    · rw [← Option.some.inj e]; exact fr
    replace e := cl_s e; obtain ⟨_, _, e⟩ := e
    replace e := cl_s e; obtain ⟨_, _, e⟩ := e
    replace e := (gd_s e).2
    have inn : ∀ (ff : Nat) {g : Hp} {i st d : Int32}, Fq ρ h0 g → sX15_attacks_70 F (sX15_attacks_9 F f) ff g x0 b s v q m i st d = some o' → Fq ρ h0 o'.2 := by
      intro ff
      induction ff with
      | zero => intro g i st d _ e; exact absurd e (by simp [sX15_attacks_70])
      | succ ff ih2 =>
        intro g i st d fr e
        unfold sX15_attacks_70 sX15_attacks_113 sX15_attacks_107 at e
        simp only [nm] at e
        replace e := br_s e; rcases e with ⟨_, e⟩ | ⟨_, e⟩
        · exact ih fr e
        replace e := cl_s e; obtain ⟨o2, e2, e⟩ := e
        unfold sX15_sideOf at e2
        have := Option.some.inj e2; subst this
        dsimp only at e
        replace e := cl_s e; obtain ⟨o3, e3, e⟩ := e
        have fr3 := (lk_h L Z fr e3).1
        replace e := br_s e; rcases e with ⟨_, e⟩ | ⟨_, e⟩
        · exact ih2 fr3 e
        replace e := cl_s e; obtain ⟨o5, e5, e⟩ := e
        have v5 : o5.2 = o3.2 := by unfold sX15_reaches at e5; exact rch_fr F e5
        rw [v5] at e
        replace e := br_s e; rcases e with ⟨_, e⟩ | ⟨_, e⟩
        · exact ih2 fr3 e
        · rw [← Option.some.inj e]; exact fr3
    replace e := br_s e; rcases e with ⟨_, e⟩ | ⟨_, e⟩
    · replace e := cl_s e; obtain ⟨o11, e11, e⟩ := e
      unfold sX15_sideOf at e11
      have := Option.some.inj e11; subst this
      dsimp only at e
      replace e := cl_s e; obtain ⟨o12, e12, e⟩ := e
      have := from_post e12
      rw [this] at e
      unfold sX15_attacks_113 at e
      simp only [nm] at e
      replace e := br_s e; rcases e with ⟨_, e⟩ | ⟨_, e⟩
      · exact ih fr e
      · exact inn F fr e
    · unfold sX15_attacks_113 at e
      simp only [nm] at e
      exact ih fr e
/-- a man's steps, in both -/
theorem ld_lock (L : LkS ρ x0 b S Fa Ct M R Fl Ri h0) (Z : LkT ρ x0 R A B Fm St h0) {v m : Int32} (em : m = (v - (1 : Int32)) >>> ((1 : Int32) &&& 31)) (es : sd = (v - (1 : Int32)) &&& (1 : Int32)) (is : Rg 0 63 s) (q0 : 0 ≤ q.toInt) (hq : 0 < (hI h0 M q.toNatClampNeg).toInt) : ∀ (f : Nat) {h o : Hp} {i : Int32}, Fq ρ h0 h → sX15_lead_44 F f h x0 b s ct v sd i = some o → hI h S q.toNatClampNeg = (-1 : Int32) → ¬ hI o S q.toNatClampNeg = (-1 : Int32) → ¬ ((hI h0 M q.toNatClampNeg) - (1 : Int32)) &&& (1 : Int32) = sd ∧ (¬ q = s → ∀ (f' : Nat) (g : Hp) (o' : Int32 × Hp), Fq ρ h0 g → sX15_attacks_9 F f' g x0 b s v q m i = some o' → ¬ o'.1 = 0) := by
  have L' := L
  obtain ⟨⟨rx, rb, rS, rFa, rCt, rM, rR, rFl, rRi⟩, ⟨e25, e26, e27, eM, eR, eFl, eRi⟩, ⟨iF, iR, iri, ps⟩⟩ := L'
  have Z' := Z
  obtain ⟨⟨rA, rB, rFm, rSt⟩, ⟨eA, eB, eFm, eSt⟩, iA, iB⟩ := Z'
  have nx : ∀ {r k : Nat}, ρ r = k → ¬ k = 16 → ∀ i, ¬ (r = x0 ∧ (i = 23 ∨ i = 24)) := fun {r k} e1 e2 i w => e2 (by rw [← e1, w.1, rx])
  have k11 : ∀ {h : Hp}, Fq ρ h0 h → hI h x0 11 = hI h0 x0 11 := fun fr => fqI 11 fr rx
  have k12 : ∀ {h : Hp}, Fq ρ h0 h → hI h x0 12 = hI h0 x0 12 := fun fr => fqI 12 fr rx
  have kSt : ∀ {h : Hp}, Fq ρ h0 h → ∀ i, hI h St i = hI h0 St i := fun fr i => fqI i fr rSt
  have kFm : ∀ {h : Hp}, Fq ρ h0 h → ∀ i, hI h Fm i = hI h0 Fm i := fun fr i => fqI i fr rFm
  have kFl : ∀ {h : Hp}, Fq ρ h0 h → ∀ i, hI h Fl i = hI h0 Fl i := fun fr i => fqI i fr rFl
  intro f
  induction f with
  | zero => intro h o i _ e; exact absurd e (by simp [sX15_lead_44])
  | succ f ih =>
    intro h o i fr e n1 n2
    unfold sX15_lead_44 at e
    replace e := cl_s e; obtain ⟨R', p, e⟩ := e
    rw [fqE 4 fr rx] at p
    have := r_eq eR p; subst this
    replace e := cl_s e; obtain ⟨St', p, e⟩ := e
    rw [fqE 4 fr rR] at p
    have := r_eq eSt p; subst this
    replace e := cl_s e; obtain ⟨o3, e3, e⟩ := e
    unfold sX15_manOf at e3
    have := Option.some.inj e3; subst this
    dsimp only at e
    rw [← em] at e
    replace e := (gd_s e).2
    replace e := br_s e; rcases e with ⟨_, e⟩ | ⟨c1, e⟩
    · have := Option.some.inj e
      subst this
      exact absurd n1 n2
    rw [kSt fr] at c1
    replace e := cl_s e; obtain ⟨o6, e6, e⟩ := e
    unfold sX15_manOf at e6
    have := Option.some.inj e6; subst this
    dsimp only at e
    rw [← em] at e
    simp only [nm] at e
    -- the inner loop
    have inn : ∀ (st : Int32) (ff : Nat) {h : Hp} {d : Int32}, Fq ρ h0 h → sX15_lead_78 F (sX15_lead_44 F f) ff h x0 b s ct v sd i st d = some o → hI h S q.toNatClampNeg = (-1 : Int32) →
        ¬ ((hI h0 M q.toNatClampNeg) - (1 : Int32)) &&& (1 : Int32) = sd ∧ (¬ q = s → ¬ fmV (hI h0 Fm st.toNatClampNeg) (hI h0 x0 11) (hI h0 x0 12) s sd = 0 → (hI h0 Fl st.toNatClampNeg) &&& (1 : Int32) = 0 → ∀ (f1 f' : Nat) (g : Hp) (o' : Int32 × Hp), Fq ρ h0 g → sX15_attacks_70 F (sX15_attacks_9 F f1) f' g x0 b s v q m i st d = some o' → ¬ o'.1 = 0) ∧ (¬ q = s → fmV (hI h0 Fm st.toNatClampNeg) (hI h0 x0 11) (hI h0 x0 12) s sd = 0 ∨ ¬ (hI h0 Fl st.toNatClampNeg) &&& (1 : Int32) = 0 → ∀ (f1 : Nat) (g : Hp) (o' : Int32 × Hp), Fq ρ h0 g → sX15_attacks_9 F f1 g x0 b s v q m (i + (1 : Int32)) = some o' → ¬ o'.1 = 0) := by
      intro st ff
      induction ff with
      | zero => intro h d _ e; exact absurd e (by simp [sX15_lead_78])
      | succ ff ih2 =>
        intro h d fr e n1
        unfold sX15_lead_78 sX15_lead_127 sX15_lead_121 at e
        simp only [nm] at e
        replace e := br_s e; rcases e with ⟨c8, e⟩ | ⟨c8, e⟩
        · obtain ⟨w1, w2⟩ := ih fr e n1 n2
          refine ⟨w1, fun ns _ _ f1 f' g o' frg ea => ?_, fun ns _ f1 g o' frg ea => w2 ns f1 g o' frg ea⟩
          cases f' with
          | zero => exact absurd ea (by simp [sX15_attacks_70])
          | succ f' =>
            unfold sX15_attacks_70 sX15_attacks_113 at ea
            simp only [nm] at ea
            replace ea := br_s ea; rcases ea with ⟨_, ea⟩ | ⟨c, _⟩
            · exact w2 ns f1 g o' frg ea
            · exact absurd c8 c
        replace e := cl_s e; obtain ⟨o2, e2, e⟩ := e
        have v2 := fm_val (fqR fr rx eR) (fqR fr rR eFm) e2
        rw [kFm fr, k11 fr, k12 fr] at v2
        subst v2
        dsimp only at e
        replace e := br_s e; rcases e with ⟨cf, e⟩ | ⟨cf, e⟩
        · obtain ⟨w1, w2⟩ := ih fr e n1 n2
          exact ⟨w1, fun _ nf => absurd cf nf, fun ns _ f1 g o' frg ea => w2 ns f1 g o' frg ea⟩
        replace e := cl_s e; obtain ⟨o4, e4, e⟩ := e
        obtain ⟨fr4, i23, i24, kS4⟩ := lk_h L Z fr e4
        -- one step of attacks
        have one : ∀ (f1 f' : Nat) (g : Hp) (o' : Int32 × Hp), Fq ρ h0 g → sX15_attacks_70 F (sX15_attacks_9 F f1) (f' + 1) g x0 b s v q m i st d = some o' → ∃ g2, Fq ρ h0 g2 ∧ hI g2 x0 23 = hI o4.2 x0 23 ∧ hI g2 x0 24 = hI o4.2 x0 24 ∧ ((o4.1 = 0 ∧ sX15_attacks_70 F (sX15_attacks_9 F f1) f' g2 x0 b s v q m i st (d + (1 : Int32)) = some o') ∨ (¬ o4.1 = 0 ∧ ∃ o5, sX15_reaches F g2 x0 b s q st = some o5 ∧ ((o5.1 = 0 ∧ sX15_attacks_70 F (sX15_attacks_9 F f1) f' g2 x0 b s v q m i st (d + (1 : Int32)) = some o') ∨ ¬ o'.1 = 0))) := by
          intro f1 f' g o' frg ea
          unfold sX15_attacks_70 sX15_attacks_107 at ea
          simp only [nm] at ea
          replace ea := br_s ea; rcases ea with ⟨c, _⟩ | ⟨_, ea⟩
          · exact absurd c c8
          replace ea := cl_s ea; obtain ⟨o2, e2, ea⟩ := ea
          unfold sX15_sideOf at e2
          have := Option.some.inj e2; subst this
          dsimp only at ea
          rw [← es] at ea
          replace ea := cl_s ea; obtain ⟨o3, e3, ea⟩ := ea
          obtain ⟨z1, z2, z3⟩ := lk_h2 L Z fr frg e4 e3
          refine ⟨o3.2, (lk_h L Z frg e3).1, z2, z3, ?_⟩
          replace ea := br_s ea; rcases ea with ⟨c, ea⟩ | ⟨c, ea⟩
          · exact Or.inl ⟨by rw [z1]; exact c, ea⟩
          refine Or.inr ⟨by rw [z1]; exact c, ?_⟩
          replace ea := cl_s ea; obtain ⟨o5, e5, ea⟩ := ea
          refine ⟨o5, e5, ?_⟩
          have v5 : o5.2 = o3.2 := by unfold sX15_reaches at e5; exact rch_fr F e5
          rw [v5] at ea
          replace ea := br_s ea; rcases ea with ⟨c, ea⟩ | ⟨c, ea⟩
          · exact Or.inl ⟨c, ea⟩
          · exact Or.inr (by rw [← Option.some.inj ea]; show ¬ (1 : Int32) = 0; decide)
        replace e := br_s e; rcases e with ⟨c4, e⟩ | ⟨c4, e⟩
        · obtain ⟨w1, w2, w3⟩ := ih2 fr4 e (by rw [kS4]; exact n1)
          refine ⟨w1, fun ns a1 a2 f1 f' g o' frg ea => ?_, w3⟩
          cases f' with
          | zero => exact absurd ea (by simp [sX15_attacks_70])
          | succ f' =>
            obtain ⟨g2, frg2, _, _, alt⟩ := one f1 f' g o' frg ea
            rcases alt with ⟨_, ea⟩ | ⟨c, _⟩
            · exact w2 ns a1 a2 f1 f' g2 o' frg2 ea
            · exact absurd c4 c
        replace e := cl_s e; obtain ⟨o6, e6, e⟩ := e
        unfold sX15_leadBy at e6
        simp only [nm] at e6
        replace e6 := cl_s e6; obtain ⟨R', p, e6⟩ := e6
        rw [fqE 4 fr4 rx] at p
        have := r_eq eR p; subst this
        replace e6 := cl_s e6; obtain ⟨Fl', p, e6⟩ := e6
        rw [fqE 5 fr4 rR] at p
        have := r_eq eFl p; subst this
        replace e6 := (gd_s e6).2
        rw [kFl fr4] at e6
        obtain ⟨fr6, _, _⟩ := (lb_keep (q := q) L q0 F fr4 rfl rfl ⟨by decide, by decide⟩ e6).1
        by_cases n6 : hI o6 S q.toNatClampNeg = (-1 : Int32)
        · obtain ⟨w1, w2, w3⟩ := ih2 fr6 e n6
          refine ⟨w1, fun ns a1 a2 f1 f' g o' frg ea => ?_, w3⟩
          cases f' with
          | zero => exact absurd ea (by simp [sX15_attacks_70])
          | succ f' =>
            obtain ⟨g2, frg2, _, _, alt⟩ := one f1 f' g o' frg ea
            rcases alt with ⟨c, _⟩ | ⟨_, o5, _, alt⟩
            · exact absurd c c4
            · rcases alt with ⟨_, ea⟩ | w
              · exact w2 ns a1 a2 f1 f' g2 o' frg2 ea
              · exact w
        · obtain ⟨w1, w2, w3⟩ := lb_lock L is i23 i24 q0 hq rfl F fr4 rfl rfl ⟨by decide, by decide⟩ e6 (by rw [kS4]; exact n1) n6
          refine ⟨w2, fun ns a1 a2 f1 f' g o' frg ea => ?_, fun ns w => ?_⟩
          · cases f' with
            | zero => exact absurd ea (by simp [sX15_attacks_70])
            | succ f' =>
              obtain ⟨g2, frg2, z1, z2, alt⟩ := one f1 f' g o' frg ea
              rcases alt with ⟨c, _⟩ | ⟨_, o5, e5, alt⟩
              · exact absurd c c4
              · rcases alt with ⟨c, _⟩ | w
                · exact absurd c (w3 ns F g2 o5 frg2 z1 z2 e5)
                · exact w
          · rcases w with w | w
            · exact absurd w cf
            · exact absurd w1 w
    obtain ⟨w1, w2, w3⟩ := inn _ F fr e n1
    refine ⟨w1, fun ns f' g o' frg ea => ?_⟩
    cases f' with
    | zero => exact absurd ea (by simp [sX15_attacks_9])
    | succ f' =>
      unfold sX15_attacks_9 sX15_attacks_113 at ea
      simp only [nm] at ea
      replace ea := cl_s ea; obtain ⟨R', p, ea⟩ := ea
      rw [fqE 4 frg rx] at p
      have := r_eq eR p; subst this
      replace ea := cl_s ea; obtain ⟨St', p, ea⟩ := ea
      rw [fqE 4 frg rR] at p
      have := r_eq eSt p; subst this
      replace ea := (gd_s ea).2
      replace ea := br_s ea; rcases ea with ⟨c, _⟩ | ⟨_, ea⟩
      · rw [kSt frg] at c; exact absurd c c1
      replace ea := cl_s ea; obtain ⟨R', p, ea⟩ := ea
      rw [fqE 4 frg rx] at p
      have := r_eq eR p; subst this
      replace ea := cl_s ea; obtain ⟨Fl', p, ea⟩ := ea
      rw [fqE 5 frg rR] at p
      have := r_eq eFl p; subst this
      replace ea := (gd_s ea).2
      rw [kFl frg] at ea
      replace ea := br_s ea; rcases ea with ⟨c, ea⟩ | ⟨c, ea⟩
      · replace ea := cl_s ea; obtain ⟨o11, e11, ea⟩ := ea
        unfold sX15_sideOf at e11
        have := Option.some.inj e11; subst this
        dsimp only at ea
        rw [← es] at ea
        replace ea := cl_s ea; obtain ⟨o12, e12, ea⟩ := ea
        have v12 := fm_val (fqR frg rx eR) (fqR frg rR eFm) e12
        rw [kFm frg, k11 frg, k12 frg] at v12
        subst v12
        dsimp only at ea
        replace ea := br_s ea; rcases ea with ⟨cf, ea⟩ | ⟨cf, ea⟩
        · exact w3 ns (Or.inl cf) f' g o' frg ea
        · exact w2 ns cf c f' F g o' frg ea
      · exact w3 ns (Or.inr c) f' g o' frg ea
end
end
section
/-! lead and isAttacked -/
section
variable {ρ : Nat → Nat} {x0 b S Fa Ct M R Fl Ri A B Fm St F : Nat} {h0 : Hp} {s sd ct q : Int32}
/-- what the writes of lead keep -/
def CI (x0 S Fa Ct : Nat) (I : Hp → Prop) : Prop := (∀ g i v, I g → I (wI g S i v)) ∧ (∀ g i v, I g → I (wI g Fa i v)) ∧ (∀ g i v, I g → I (wI g Ct i v)) ∧ (∀ g v, I g → I (wI g x0 23 v)) ∧ (∀ g v, I g → I (wI g x0 24 v))
theorem lb_inv {I : Hp → Prop} {st fl : Int32} (L : LkS ρ x0 b S Fa Ct M R Fl Ri h0) (ci : CI x0 S Fa Ct I) : ∀ (f : Nat) {h o : Hp} {x7 x8 : Int32}, Fq ρ h0 h → I h → sX15_leadBy_18 F f h x0 b s sd st ct fl x7 x8 = some o → Fq ρ h0 o ∧ I o := by
  have L' := L
  obtain ⟨⟨rx, rb, rS, rFa, rCt, rM, rR, rFl, rRi⟩, ⟨e25, e26, e27, eM, eR, eFl, eRi⟩, ⟨iF, iR, iri, ps⟩⟩ := L'
  intro f
  induction f with
  | zero => intro h o x7 x8 _ _ e; exact absurd e (by simp [sX15_leadBy_18])
  | succ f ih =>
    intro h o x7 x8 fr i0 e
    rcases lb_step (fqR fr rx e25) (fqR fr rx e26) (fqR fr rx e27) (fqR fr rb eM) (fqR fr rx eR) (fqR fr rR eRi) (by rw [fqI 3 fr rb]; exact ps) e with ⟨w, _⟩ | ⟨_, _, t, _, _, _, h', e', alt⟩
    · subst w; exact ⟨fr, i0⟩
    rcases alt with w | ⟨z, w, _⟩
    · subst w; exact ih fr i0 e'
    · subst w
      exact ih (fq_w (fq_w (fq_w fr rS) rFa) rCt) (ci.2.2.1 _ _ _ (ci.2.1 _ _ _ (ci.1 _ _ _ i0))) e'
theorem hv_inv {I : Hp → Prop} {h : Hp} {st d : Int32} {o : Int32 × Hp} (L : LkS ρ x0 b S Fa Ct M R Fl Ri h0) (Z : LkT ρ x0 R A B Fm St h0) (ci : CI x0 S Fa Ct I) (fr : Fq ρ h0 h) (i0 : I h) (e : sX15_hasVector h x0 st d sd = some o) : Fq ρ h0 o.2 ∧ I o.2 := by
  refine ⟨(lk_h L Z fr e).1, ?_⟩
  obtain ⟨⟨rx, rb, rS, rFa, rCt, rM, rR, rFl, rRi⟩, ⟨e25, e26, e27, eM, eR, eFl, eRi⟩, ⟨iF, iR, iri, ps⟩⟩ := L
  obtain ⟨⟨rA, rB, rFm, rSt⟩, ⟨eA, eB, eFm, eSt⟩, iA, iB⟩ := Z
  obtain ⟨d1, d2, w, _⟩ := hv_post (fqR fr rx eR) (fqR fr rR eA) (fqR fr rR eB) (fun i => by rw [fqI i fr rA]; exact iA i) (fun i => by rw [fqI i fr rB]; exact iB i) e
  rw [w]
  exact ci.2.2.2.2 _ _ (ci.2.2.2.1 _ _ i0)
/-- lead leaves as it was what Fq names -/
theorem ld_fr {I : Hp → Prop} (L : LkS ρ x0 b S Fa Ct M R Fl Ri h0) (Z : LkT ρ x0 R A B Fm St h0) (ci : CI x0 S Fa Ct I) {v : Int32} : ∀ (f : Nat) {g o : Hp} {i : Int32}, Fq ρ h0 g → I g → sX15_lead_44 F f g x0 b s ct v sd i = some o → Fq ρ h0 o ∧ I o := by
  intro f
  induction f with
  | zero => intro g o i _ _ e; exact absurd e (by simp [sX15_lead_44])
  | succ f ih =>
    intro g o i fr i0 e
    unfold sX15_lead_44 at e
    simp only [nm] at e
    replace e := cl_s e; obtain ⟨_, _, e⟩ := e
    replace e := cl_s e; obtain ⟨_, _, e⟩ := e
    replace e := cl_s e; obtain ⟨o3, e3, e⟩ := e
    unfold sX15_manOf at e3
    have := Option.some.inj e3; subst this
    dsimp only at e
    replace e := (gd_s e).2
    replace e := br_s e; rcases e with ⟨_, e⟩ | ⟨_, e⟩
    · rw [← Option.some.inj e]; exact ⟨fr, i0⟩
    replace e := cl_s e; obtain ⟨o6, e6, e⟩ := e
    unfold sX15_manOf at e6
    have := Option.some.inj e6; subst this
    dsimp only at e
    have inn : ∀ (ff : Nat) {g : Hp} {i st d : Int32}, Fq ρ h0 g → I g → sX15_lead_78 F (sX15_lead_44 F f) ff g x0 b s ct v sd i st d = some o → Fq ρ h0 o ∧ I o := by
      intro ff
      induction ff with
      | zero => intro g i st d _ _ e; exact absurd e (by simp [sX15_lead_78])
      | succ ff ih2 =>
        intro g i st d fr i0 e
        unfold sX15_lead_78 sX15_lead_127 sX15_lead_121 at e
        simp only [nm] at e
        replace e := br_s e; rcases e with ⟨_, e⟩ | ⟨_, e⟩
        · exact ih fr i0 e
        replace e := cl_s e; obtain ⟨o2, e2, e⟩ := e
        have := from_post e2
        rw [this] at e
        replace e := br_s e; rcases e with ⟨_, e⟩ | ⟨_, e⟩
        · exact ih fr i0 e
        replace e := cl_s e; obtain ⟨o4, e4, e⟩ := e
        obtain ⟨fr4, i4⟩ := hv_inv L Z ci fr i0 e4
        replace e := br_s e; rcases e with ⟨_, e⟩ | ⟨_, e⟩
        · exact ih2 fr4 i4 e
        replace e := cl_s e; obtain ⟨o6, e6, e⟩ := e
        unfold sX15_leadBy at e6
        simp only [nm] at e6
        replace e6 := cl_s e6; obtain ⟨_, _, e6⟩ := e6
        replace e6 := cl_s e6; obtain ⟨_, _, e6⟩ := e6
        replace e6 := (gd_s e6).2
        obtain ⟨fr6, i6⟩ := lb_inv L ci F fr4 i4 e6
        exact ih2 fr6 i6 e
    exact inn F fr i0 e
/-- where the man on s may go: no own man is there, and a man that is there is attacked -/
def LdQ (ρ : Nat → Nat) (F x0 b M : Nat) (h0 : Hp) (s q : Int32) : Prop := 0 < (hI h0 M q.toNatClampNeg).toInt → ¬ ((hI h0 M q.toNatClampNeg) - (1 : Int32)) &&& (1 : Int32) = ((hI h0 M s.toNatClampNeg) - (1 : Int32)) &&& (1 : Int32) ∧ ∀ (g : Hp) (o' : Int32 × Hp), Fq ρ h0 g → sX15_attacks F g x0 b s (hI h0 M s.toNatClampNeg) q = some o' → ¬ o'.1 = 0
theorem lead_q {I : Hp → Prop} (L : LkS ρ x0 b S Fa Ct M R Fl Ri h0) (Z : LkT ρ x0 R A B Fm St h0) (ci : CI x0 S Fa Ct I) (is : Rg 0 63 s) {h o : Hp} (fr : Fq ρ h0 h) (i0 : I h) (e : sX15_lead F h x0 b s ct = some o) : Fq ρ h0 o ∧ I o ∧ ∀ q : Int32, 0 ≤ q.toInt → q.toInt < (hI h0 x0 13).toInt → ¬ hI o S q.toNatClampNeg = (-1 : Int32) → LdQ ρ F x0 b M h0 s q := by
  have L' := L
  obtain ⟨⟨rx, rb, rS, rFa, rCt, rM, rR, rFl, rRi⟩, ⟨e25, e26, e27, eM, eR, eFl, eRi⟩, ⟨iF, iR, iri, ps⟩⟩ := L'
  unfold sX15_lead at e
  simp only [nm] at e
  replace e := cl_s e; obtain ⟨M', p, e⟩ := e
  rw [fqE 0 fr rb] at p
  have := r_eq eM p; subst this
  replace e := (gd_s e).2
  replace e := cl_s e; obtain ⟨o4, e4, e⟩ := e
  unfold sX15_sideOf at e4
  have := Option.some.inj e4; subst this
  dsimp only at e
  rw [fqI _ fr rM] at e
  have k13 : ∀ {g : Hp}, Fq ρ h0 g → hI g x0 13 = hI h0 x0 13 := fun f => fqI 13 f rx
  have lp : ∀ (f : Nat) {g : Hp} {x6 : Int32}, Fq ρ h0 g → I g → 0 ≤ x6.toInt → (∀ j : Nat, (j : Int) < x6.toInt → hI g S j = (-1 : Int32)) → sX15_lead_18 F f g x0 b s ct (hI h0 M' s.toNatClampNeg) (((hI h0 M' s.toNatClampNeg) - (1 : Int32)) &&& (1 : Int32)) x6 = some o → ∃ g2, Fq ρ h0 g2 ∧ I g2 ∧ (∀ j : Nat, (j : Int) < (hI h0 x0 13).toInt → hI g2 S j = (-1 : Int32)) ∧ sX15_lead_44 F F g2 x0 b s ct (hI h0 M' s.toNatClampNeg) (((hI h0 M' s.toNatClampNeg) - (1 : Int32)) &&& (1 : Int32)) 0 = some o := by
    intro f
    induction f with
    | zero => intro g x6 _ _ _ _ e; exact absurd e (by simp [sX15_lead_18])
    | succ f ih =>
      intro g x6 fr i0 a6 hz e
      unfold sX15_lead_18 at e
      simp only [nm] at e
      replace e := br_s e; rcases e with ⟨c, e⟩ | ⟨c, e⟩
      · have c := le_i c
        rw [k13 fr] at c
        exact ⟨g, fr, i0, fun j hj => hz j (by omega), e⟩
      replace e := cl_s e; obtain ⟨S', p, e⟩ := e
      rw [fqE 25 fr rx] at p
      have := r_eq e25 p; subst this
      have gB := (gd_s e).1
      replace e := (gd_s e).2
      have c := nle_i c
      have b13 : (hI g x0 13).toInt ≤ 2147483647 := Int32.toInt_le _
      have ex : (x6 + (1 : Int32)).toInt = x6.toInt + 1 := ta (by show _ ≤ x6.toInt + 1 ∧ x6.toInt + 1 ≤ _; omega)
      refine ih (fq_w fr rS) (ci.1 _ _ _ i0) (by omega) (fun j hj => ?_) e
      rw [r_I]
      by_cases w : j = x6.toNatClampNeg
      · rw [if_pos ⟨rfl, w⟩]
      · rw [if_neg (fun z => w z.2)]
        exact hz j (by have := nc_i a6; omega)
  obtain ⟨g2, fr2, i2, z2, e⟩ := lp F fr i0 (by decide) (fun j hj => absurd hj (by show ¬ (j : Int) < 0; omega)) e
  refine ⟨(ld_fr L Z ci F fr2 i2 e).1, (ld_fr L Z ci F fr2 i2 e).2, fun q q0 ql n2 hq => ?_⟩
  obtain ⟨w1, w2⟩ := ld_lock L Z rfl rfl is q0 hq F fr2 e (z2 _ (by rw [nc_i q0]; exact ql)) n2
  refine ⟨w1, fun g o' frg ea => ?_⟩
  unfold sX15_attacks at ea
  replace ea := cl_s ea; obtain ⟨o1, e1, ea⟩ := ea
  unfold sX15_manOf at e1
  have := Option.some.inj e1; subst this
  dsimp only at ea
  exact w2 (fun w => by rw [w] at w1; exact w1 rfl) F g o' frg ea
/-- who is attacked, is told so -/
theorem isa_q (L : LkS ρ x0 b S Fa Ct M R Fl Ri h0) (Z : LkT ρ x0 R A B Fm St h0) {by' : Int32} (s0 : 0 ≤ s.toInt) (sl : s.toInt < (hI h0 x0 13).toInt) (hs : 0 < (hI h0 M s.toNatClampNeg).toInt) (own : ((hI h0 M s.toNatClampNeg) - (1 : Int32)) &&& (1 : Int32) = by') (qs : ¬ s = q) (at' : ∀ (g : Hp) (o' : Int32 × Hp), Fq ρ h0 g → sX15_attacks F g x0 b s (hI h0 M s.toNatClampNeg) q = some o' → ¬ o'.1 = 0) : ∀ (f : Nat) {g : Hp} {x4 : Int32} {o' : Int32 × Hp}, Fq ρ h0 g → 0 ≤ x4.toInt → x4.toInt ≤ s.toInt → sX15_isAttacked_3 F f g x0 b q by' x4 = some o' → ¬ o'.1 = 0 := by
  have L' := L
  obtain ⟨⟨rx, rb, rS, rFa, rCt, rM, rR, rFl, rRi⟩, ⟨e25, e26, e27, eM, eR, eFl, eRi⟩, ⟨iF, iR, iri, ps⟩⟩ := L'
  intro f
  induction f with
  | zero => intro g x4 o' _ _ _ e; exact absurd e (by simp [sX15_isAttacked_3])
  | succ f ih =>
    intro g x4 o' fr a4 l4 e
    have b13 : (hI h0 x0 13).toInt ≤ 2147483647 := Int32.toInt_le _
    have ex : (x4 + (1 : Int32)).toInt = x4.toInt + 1 := ta (by show _ ≤ x4.toInt + 1 ∧ x4.toInt + 1 ≤ _; omega)
    unfold sX15_isAttacked_3 sX15_isAttacked_56 at e
    simp only [nm] at e
    replace e := br_s e; rcases e with ⟨c, e⟩ | ⟨c, e⟩
    · have c := le_i c
      rw [fqI 13 fr rx] at c
      omega
    replace e := cl_s e; obtain ⟨M', p, e⟩ := e
    rw [fqE 0 fr rb] at p
    have := r_eq eM p; subst this
    replace e := (gd_s e).2
    rw [fqI _ fr rM] at e
    have z0 : (0 : Int32).toInt = 0 := rfl
    by_cases w : x4 = s
    · subst w
      replace e := br_s e; rcases e with ⟨c, e⟩ | ⟨_, e⟩
      · have c := le_i c
        omega
      replace e := cl_s e; obtain ⟨o6, e6, e⟩ := e
      unfold sX15_sideOf at e6
      have := Option.some.inj e6; subst this
      dsimp only at e
      replace e := br_s e; rcases e with ⟨_, e⟩ | ⟨c, _⟩
      · replace e := br_s e; rcases e with ⟨c, _⟩ | ⟨_, e⟩
        · exact absurd c qs
        replace e := cl_s e; obtain ⟨o9, e9, e⟩ := e
        replace e := br_s e; rcases e with ⟨c, _⟩ | ⟨_, e⟩
        · exact absurd c (at' g o9 fr e9)
        · rw [← Option.some.inj e]; show ¬ (1 : Int32) = 0; decide
      · exact absurd own c
    · have lt : x4.toInt < s.toInt := by
        have : ¬ x4.toInt = s.toInt := fun z => w (Int32.toInt_inj.mp z)
        omega
      have go : ∀ {g : Hp}, Fq ρ h0 g → sX15_isAttacked_3 F f g x0 b q by' (x4 + (1 : Int32)) = some o' → ¬ o'.1 = 0 := fun fr e => ih fr (by omega) (by omega) e
      replace e := br_s e; rcases e with ⟨_, e⟩ | ⟨_, e⟩
      · exact go fr e
      replace e := cl_s e; obtain ⟨o6, e6, e⟩ := e
      unfold sX15_sideOf at e6
      have := Option.some.inj e6; subst this
      dsimp only at e
      replace e := br_s e; rcases e with ⟨_, e⟩ | ⟨_, e⟩
      · replace e := br_s e; rcases e with ⟨_, e⟩ | ⟨_, e⟩
        · exact go fr e
        replace e := cl_s e; obtain ⟨o9, e9, e⟩ := e
        have fr9 : Fq ρ h0 o9.2 := by
          unfold sX15_attacks at e9
          replace e9 := cl_s e9; obtain ⟨o1, e1, e9⟩ := e9
          unfold sX15_manOf at e1
          have := Option.some.inj e1; subst this
          exact at_fr L Z F fr e9
        replace e := br_s e; rcases e with ⟨_, e⟩ | ⟨_, e⟩
        · exact go fr9 e
        · rw [← Option.some.inj e]; show ¬ (1 : Int32) = 0; decide
      · exact go fr e
end
end
section
/-! the moves that are tried, by their squares -/
theorem inc_le (x : Int32) : (x + (1 : Int32)).toInt ≤ x.toInt + 1 := by
  by_cases w : x.toInt + 1 ≤ 2147483647
  · have := (rg_top x).1
    rw [ta (by show _ ≤ x.toInt + 1 ∧ x.toInt + 1 ≤ _; omega)]
    exact Int.le_refl _
  · have := (rg_top (x + (1 : Int32))).2
    omega
theorem no_right {h : Hp} {b : Nat} (rz : hJ h b 2 = 0) (x : Int32) : ¬ (lg_cmp (((hJ h b 2) >>> (x.toInt64 &&& 63)) &&& (1 : Int64)) (1 : Int64)) = 0 := by
  intro w
  have z : (((hJ h b 2) >>> (x.toInt64 &&& 63)) &&& (1 : Int64)) = 0 := by
    rw [rz]
    have : (0 : Int64) >>> (x.toInt64 &&& 63) = 0 := by
      apply Int64.toBitVec_inj.mp
      show BitVec.sshiftRight' 0 _ = 0
      simp
    rw [this]
    rfl
  rw [z] at w
  exact absurd w (by decide)
/-- the rows of a list of moves -/
def LsR (ρ : Nat → Nat) (l lf lt lm lb lx lk lo : Nat) (h0 : Hp) : Prop := (ρ l = 14 ∧ ρ lf = 66 ∧ ρ lt = 67 ∧ ρ lm = 68 ∧ ρ lb = 69 ∧ ρ lx = 70 ∧ ρ lk = 71 ∧ ρ lo = 72) ∧ (hR h0 l 1 = some lf ∧ hR h0 l 2 = some lt ∧ hR h0 l 3 = some lm ∧ hR h0 l 4 = some lb ∧ hR h0 l 5 = some lx ∧ hR h0 l 6 = some lk ∧ hR h0 l 7 = some lo)
/-- all moves of a list go from and to squares that are so -/
def LA (A : Int32 → Int32 → Prop) (l lf lt : Nat) (h : Hp) : Prop := ∀ i : Nat, (i : Int) < (hI h l 0).toInt → A (hI h lf i) (hI h lt i)
section
variable {ρ : Nat → Nat} {A : Int32 → Int32 → Prop} {l lf lt lm lb lx lk lo F : Nat} {h0 h o : Hp} {f t m bc tk k mo : Int32}
theorem add_q (Q : LsR ρ l lf lt lm lb lx lk lo h0) (fr : Fq ρ h0 h) (P : LA A l lf lt h) (a : A f t) (e : sX13_add h l f t m bc tk k mo = some o) : Fq ρ h0 o ∧ LA A l lf lt o := by
  obtain ⟨⟨r_l, r_lf, r_lt, r_lm, r_lb, r_lx, r_lk, r_lo⟩, ⟨e_lf, e_lt, e_lm, e_lb, e_lx, e_lk, e_lo⟩⟩ := Q
  have e_lf := fqR fr r_l e_lf
  have e_lt := fqR fr r_l e_lt
  have e_lm := fqR fr r_l e_lm
  have e_lb := fqR fr r_l e_lb
  have e_lx := fqR fr r_l e_lx
  have e_lk := fqR fr r_l e_lk
  have e_lo := fqR fr r_l e_lo
  obtain ⟨_, z0, z⟩ := add_post r_l r_lf r_lt r_lm r_lb r_lx r_lk r_lo e_lf e_lt e_lm e_lb e_lx e_lk e_lo e
  unfold sX13_add at e
  simp only [nm] at e
  replace e := cl_s e; obtain ⟨q1, w, e⟩ := e
  have := r_eq e_lf w; subst this
  have gB := (gd_s e).1
  replace e := (gd_s e).2
  replace e := cl_s e; obtain ⟨q2, w, e⟩ := e
  replace w : hR h l 2 = some q2 := w
  have := r_eq e_lt w; subst this
  replace e := (gd_s e).2
  replace e := cl_s e; obtain ⟨q3, w, e⟩ := e
  replace w : hR h l 3 = some q3 := w
  have := r_eq e_lm w; subst this
  replace e := (gd_s e).2
  replace e := cl_s e; obtain ⟨q4, w, e⟩ := e
  replace w : hR h l 4 = some q4 := w
  have := r_eq e_lb w; subst this
  replace e := (gd_s e).2
  replace e := cl_s e; obtain ⟨q5, w, e⟩ := e
  replace w : hR h l 5 = some q5 := w
  have := r_eq e_lx w; subst this
  replace e := (gd_s e).2
  replace e := cl_s e; obtain ⟨q6, w, e⟩ := e
  replace w : hR h l 6 = some q6 := w
  have := r_eq e_lk w; subst this
  replace e := (gd_s e).2
  replace e := cl_s e; obtain ⟨q7, w, e⟩ := e
  replace w : hR h l 7 = some q7 := w
  have := r_eq e_lo w; subst this
  replace e := (gd_s e).2
  have e := Option.some.inj e
  constructor
  · rw [← e]
    exact fq_w (fq_w (fq_w (fq_w (fq_w (fq_w (fq_w (fq_w fr r_lf) r_lt) r_lm) r_lb) r_lx) r_lk) r_lo) r_l
  · intro i hi
    rw [z0] at hi
    have := inc_le (hI h l 0)
    obtain ⟨z1, z2, _⟩ := z i
    rw [z1, z2]
    by_cases w : i = (hI h l 0).toNatClampNeg
    · rw [if_pos w, if_pos w]; exact a
    · rw [if_neg w, if_neg w]
      refine P i ?_
      have := nc_i (inb0 gB)
      omega
theorem add_S {S j : Nat} (Q : LsR ρ l lf lt lm lb lx lk lo h0) (fr : Fq ρ h0 h) (rS : ρ S = 87) (e : sX13_add h l f t m bc tk k mo = some o) : hI o S j = hI h S j := by
  obtain ⟨⟨r_l, r_lf, r_lt, r_lm, r_lb, r_lx, r_lk, r_lo⟩, ⟨e_lf, e_lt, e_lm, e_lb, e_lx, e_lk, e_lo⟩⟩ := Q
  obtain ⟨z, _, _⟩ := add_post r_l r_lf r_lt r_lm r_lb r_lx r_lk r_lo (fqR fr r_l e_lf) (fqR fr r_l e_lt) (fqR fr r_l e_lm) (fqR fr r_l e_lb) (fqR fr r_l e_lx) (fqR fr r_l e_lk) (fqR fr r_l e_lo) e
  exact z.2.2 S j (by rw [rS]; decide) (fun w => absurd (w.1 ▸ rS) (by rw [r_l]; decide))
/-- trySteps adds moves from s to t alone -/
theorem ts_inv {I : Hp → Prop} {x0 b : Nat} {s t m : Int32} (K : ∀ g g2 bc tk k mo, I g → sX13_add g l s t m bc tk k mo = some g2 → I g2) (i0 : I h) (e : sX15_trySteps F h x0 b s t m l = some o) : I o := by
  have b207 : ∀ {g : Hp} {tk mo k : Int32}, I g → sX15_trySteps_207 F g s t m l tk mo k = some o → I o := by
    intro g tk mo k i0 e
    unfold sX15_trySteps_207 sX15_trySteps_223 at e
    replace e := cl_s e; obtain ⟨g2, e8, e⟩ := e
    rw [← Option.some.inj e]
    exact K _ _ _ _ _ _ i0 e8
  have loop : ∀ (tk mo k : Int32) (f : Nat) {g : Hp} {x9 : Int32}, I g → sX15_trySteps_152 F f g x0 s t m l tk mo k x9 = some o → I o := by
    intro tk mo k f
    induction f with
    | zero => intro g x9 _ e; exact absurd e (by simp [sX15_trySteps_152])
    | succ f ih =>
      intro g x9 i0 e
      unfold sX15_trySteps_152 sX15_trySteps_223 at e
      simp only [nm] at e
      replace e := cl_s e; obtain ⟨_, _, e⟩ := e
      replace e := cl_s e; obtain ⟨_, _, e⟩ := e
      replace e := (gd_s e).2
      replace e := br_s e; rcases e with ⟨_, e⟩ | ⟨_, e⟩
      · rw [← Option.some.inj e]; exact i0
      replace e := cl_s e; obtain ⟨_, _, e⟩ := e
      replace e := cl_s e; obtain ⟨_, _, e⟩ := e
      replace e := (gd_s e).2
      replace e := cl_s e; obtain ⟨g2, e8, e⟩ := e
      exact ih (K _ _ _ _ _ _ i0 e8) e
  have b106 : ∀ {tk mo k : Int32}, sX15_trySteps_106 F h x0 b s t m l tk mo k = some o → I o := by
    intro tk mo k e
    unfold sX15_trySteps_106 sX15_trySteps_149 at e
    replace e := cl_s e; obtain ⟨o1, e1, e⟩ := e
    rw [oth_post e1] at e
    replace e := br_s e; rcases e with ⟨_, e⟩ | ⟨_, e⟩
    · exact b207 i0 e
    replace e := cl_s e; obtain ⟨o3, e3, e⟩ := e
    rw [(rank_post e3).1] at e
    replace e := br_s e; rcases e with ⟨_, e⟩ | ⟨_, e⟩
    · replace e := cl_s e; obtain ⟨_, _, e⟩ := e
      replace e := br_s e; rcases e with ⟨_, e⟩ | ⟨_, e⟩
      · exact loop _ _ _ F i0 e
      replace e := br_s e; rcases e with ⟨_, e⟩ | ⟨_, e⟩
      · exact loop _ _ _ F i0 e
      · exact b207 i0 e
    · exact b207 i0 e
  have b90 : ∀ {tk mo : Int32}, sX15_trySteps_90 F h x0 b s t m l tk mo = some o → I o := by
    intro tk mo e
    unfold sX15_trySteps_90 at e
    replace e := cl_s e; obtain ⟨_, _, e⟩ := e
    replace e := (gd_s e).2
    replace e := br_s e; rcases e with ⟨_, e⟩ | ⟨_, e⟩
    · exact b106 e
    · exact b106 e
  have b48 : ∀ {tk : Int32}, sX15_trySteps_48 F h x0 b s t m l tk = some o → I o := by
    intro tk e
    unfold sX15_trySteps_48 sX15_trySteps_89 at e
    replace e := cl_s e; obtain ⟨_, _, e⟩ := e
    replace e := cl_s e; obtain ⟨_, _, e⟩ := e
    replace e := cl_s e; obtain ⟨_, _, e⟩ := e
    replace e := (gd_s e).2
    replace e := (gd_s e).2
    replace e := br_s e; rcases e with ⟨_, e⟩ | ⟨_, e⟩
    · exact b90 e
    replace e := cl_s e; obtain ⟨_, _, e⟩ := e
    replace e := (gd_s e).2
    replace e := br_s e; rcases e with ⟨_, e⟩ | ⟨_, e⟩
    · exact b90 e
    replace e := cl_s e; obtain ⟨_, _, e⟩ := e
    replace e := (gd_s e).2
    exact b90 e
  unfold sX15_trySteps at e
  replace e := cl_s e; obtain ⟨_, _, e⟩ := e
  replace e := (gd_s e).2
  replace e := br_s e; rcases e with ⟨_, e⟩ | ⟨_, e⟩
  · replace e := cl_s e; obtain ⟨_, _, e⟩ := e
    replace e := (gd_s e).2
    replace e := br_s e; rcases e with ⟨_, e⟩ | ⟨_, e⟩
    · exact b48 e
    replace e := cl_s e; obtain ⟨_, _, e⟩ := e
    replace e := (gd_s e).2
    replace e := cl_s e; obtain ⟨o9, e9, e⟩ := e
    unfold sX15_manOf at e9
    have := Option.some.inj e9
    subst this
    exact b48 e
  · replace e := cl_s e; obtain ⟨_, _, e⟩ := e
    replace e := cl_s e; obtain ⟨_, _, e⟩ := e
    replace e := (gd_s e).2
    replace e := (gd_s e).2
    replace e := cl_s e; obtain ⟨o9, e9, e⟩ := e
    unfold sX15_manOf at e9
    have := Option.some.inj e9
    subst this
    exact b48 e
/-- no right, no castling -/
theorem ca_none {x0 b : Nat} {s t : Int32} (rz : hJ h b 2 = 0) (e : sX15_tryCastling F h x0 b s t l = some o) : o = h := by
  have nz := fun x => no_right (h := h) (b := b) rz x
  have lp : ∀ (w6 : Int32) (f : Nat) {x6 : Int32}, sX15_tryCastling_46 F f h x0 b s t l w6 x6 = some o → o = h := by
    intro w6 f
    induction f with
    | zero => intro x6 e; exact absurd e (by simp [sX15_tryCastling_46])
    | succ f ih =>
      intro x6 e
      unfold sX15_tryCastling_46 sX15_tryCastling_207 sX15_tryCastling_197 at e
      simp only [nm] at e
      replace e := br_s e; rcases e with ⟨_, e⟩ | ⟨_, e⟩
      · exact (Option.some.inj e).symm
      replace e := br_s e; rcases e with ⟨_, e⟩ | ⟨_, e⟩
      · exact (Option.some.inj e).symm
      replace e := (gd_s e).2
      replace e := (gd_s e).2
      replace e := br_s e; rcases e with ⟨_, e⟩ | ⟨_, e⟩
      · replace e := br_s e; rcases e with ⟨c, _⟩ | ⟨_, e⟩
        · exact absurd c (nz _)
        · exact ih e
      · exact (Option.some.inj e).symm
  unfold sX15_tryCastling sX15_tryCastling_25 sX15_tryCastling_36 at e
  simp only [nm] at e
  replace e := (gd_s e).2
  replace e := (gd_s e).2
  replace e := br_s e; rcases e with ⟨_, e⟩ | ⟨_, e⟩
  · replace e := br_s e; rcases e with ⟨_, e⟩ | ⟨_, e⟩
    · replace e := br_s e; rcases e with ⟨_, e⟩ | ⟨_, e⟩
      · exact lp _ F e
      · exact lp _ F e
    · exact (Option.some.inj e).symm
  · exact (Option.some.inj e).symm
end
section
variable {ρ : Nat → Nat} {C : Int32 → Int32 → Prop} {l lf lt lm lb lx lk lo x0 b S Fa Ct M R Fl Ri A B Fm St F : Nat} {h0 : Hp}
/-- what tryAll tries -/
theorem tall_q (L : LkS ρ x0 b S Fa Ct M R Fl Ri h0) (Z : LkT ρ x0 R A B Fm St h0) (Q : LsR ρ l lf lt lm lb lx lk lo h0) (hz : hI h0 R 15 = 0) (rz : hJ h0 b 2 = 0) (s64 : (hI h0 x0 13).toInt ≤ 64)
    (K : ∀ s t : Int32, 0 ≤ s.toInt → s.toInt < (hI h0 x0 13).toInt → 0 < (hI h0 M s.toNatClampNeg).toInt → ((hI h0 M s.toNatClampNeg) - (1 : Int32)) &&& (1 : Int32) = hI h0 b 1 → 0 ≤ t.toInt → t.toInt < (hI h0 x0 13).toInt → LdQ ρ F x0 b M h0 s t → C s t)
    {h o : Hp} (fr : Fq ρ h0 h) (e : sX15_tryAll F h x0 b l = some o) : Fq ρ h0 o ∧ LA C l lf lt o := by
  have L' := L
  obtain ⟨⟨rx, rb, rS, rFa, rCt, rM, rR, rFl, rRi⟩, ⟨e25, e26, e27, eM, eR, eFl, eRi⟩, ⟨iF, iR, iri, ps⟩⟩ := L'
  have rl := Q.1.1
  have z0 : (0 : Int32).toInt = 0 := rfl
  have lw : ∀ (r i k : Nat) (v : Int32) (g : Hp), ρ r = k → ¬ k = 14 ∧ ¬ k = 66 ∧ ¬ k = 67 → LA C l lf lt g → LA C l lf lt (wI g r i v) := by
    intro r i k v g er ⟨n1, n2, n3⟩ P j hj
    have m1 : ¬ l = r := fun w => n1 (by rw [← er, ← w]; exact rl)
    have m2 : ¬ lf = r := fun w => n2 (by rw [← er, ← w]; exact Q.1.2.1)
    have m3 : ¬ lt = r := fun w => n3 (by rw [← er, ← w]; exact Q.1.2.2.1)
    rw [r_I, if_neg (fun w => m1 w.1)] at hj
    rw [r_I, if_neg (fun w => m2 w.1), r_I, if_neg (fun w => m3 w.1)]
    exact P j hj
  have ci : CI x0 S Fa Ct (LA C l lf lt) := ⟨fun g i v p => lw S i 87 v g rS (by decide) p, fun g i v p => lw Fa i 88 v g rFa (by decide) p, fun g i v p => lw Ct i 89 v g rCt (by decide) p, fun g v p => lw x0 23 16 v g rx (by decide) p, fun g v p => lw x0 24 16 v g rx (by decide) p⟩
  have outer : ∀ (f : Nat) {g : Hp} {x3 : Int32}, Fq ρ h0 g → LA C l lf lt g → 0 ≤ x3.toInt → sX15_tryAll_7 F f g x0 b l x3 = some o → Fq ρ h0 o ∧ LA C l lf lt o := by
    intro f
    induction f with
    | zero => intro g x3 _ _ _ e; exact absurd e (by simp [sX15_tryAll_7])
    | succ f ih =>
      intro g x3 fr P a3 e
      unfold sX15_tryAll_7 sX15_tryAll_114 at e
      simp only [nm] at e
      replace e := br_s e; rcases e with ⟨_, e⟩ | ⟨c, e⟩
      · cases F with
        | zero => exact absurd e (by simp [sX15_tryAll_122])
        | succ F' =>
          unfold sX15_tryAll_122 sX15_tryAll_250 at e
          replace e := br_s e; rcases e with ⟨_, e⟩ | ⟨_, e⟩
          · rw [← Option.some.inj e]; exact ⟨fr, P⟩
          replace e := cl_s e; obtain ⟨R', p, e⟩ := e
          rw [fqE 4 fr rx] at p
          have := r_eq eR p; subst this
          replace e := br_s e; rcases e with ⟨_, e⟩ | ⟨c, _⟩
          · rw [← Option.some.inj e]; exact ⟨fr, P⟩
          · rw [fqI 15 fr rR] at c; exact absurd hz c
      have c := nle_i c
      rw [fqI 13 fr rx] at c
      have ex : (x3 + (1 : Int32)).toInt = x3.toInt + 1 := ta (by show _ ≤ x3.toInt + 1 ∧ x3.toInt + 1 ≤ _; omega)
      replace e := cl_s e; obtain ⟨M', p, e⟩ := e
      rw [fqE 0 fr rb] at p
      have := r_eq eM p; subst this
      replace e := (gd_s e).2
      rw [fqI _ fr rM] at e
      replace e := br_s e; rcases e with ⟨_, e⟩ | ⟨cv, e⟩
      · exact ih fr P (by omega) e
      have cv := nle_i cv
      replace e := cl_s e; obtain ⟨o6, e6, e⟩ := e
      unfold sX15_sideOf at e6
      have := Option.some.inj e6; subst this
      dsimp only at e
      rw [fqI 1 fr rb] at e
      replace e := br_s e; rcases e with ⟨cs, e⟩ | ⟨_, e⟩
      · replace e := cl_s e; obtain ⟨o8, e8, e⟩ := e
        obtain ⟨fr8, P8, lq⟩ := lead_q (I := LA C l lf lt) L Z ci ⟨a3, by omega⟩ fr P e8
        have inner : ∀ (ff : Nat) {g : Hp} {x5 : Int32}, Fq ρ h0 g → LA C l lf lt g → (∀ j, hI g S j = hI o8 S j) → 0 ≤ x5.toInt → sX15_tryAll_50 F (sX15_tryAll_7 F f) ff g x0 b l x3 (hI h0 M' x3.toNatClampNeg) x5 = some o → Fq ρ h0 o ∧ LA C l lf lt o := by
          intro ff
          induction ff with
          | zero => intro g x5 _ _ _ _ e; exact absurd e (by simp [sX15_tryAll_50])
          | succ ff ih2 =>
            intro g x5 fr P kS a5 e
            unfold sX15_tryAll_50 sX15_tryAll_114 at e
            simp only [nm] at e
            replace e := br_s e; rcases e with ⟨_, e⟩ | ⟨c5, e⟩
            · exact ih fr P (by omega) e
            have c5 := nle_i c5
            rw [fqI 13 fr rx] at c5
            have ex5 : (x5 + (1 : Int32)).toInt = x5.toInt + 1 := ta (by show _ ≤ x5.toInt + 1 ∧ x5.toInt + 1 ≤ _; omega)
            have t84 : ∀ {g : Hp}, Fq ρ h0 g → LA C l lf lt g → (∀ j, hI g S j = hI o8 S j) → sX15_tryAll_84 F (sX15_tryAll_7 F f) (sX15_tryAll_50 F (sX15_tryAll_7 F f) ff) g x0 b l x3 (hI h0 M' x3.toNatClampNeg) x5 = some o → Fq ρ h0 o ∧ LA C l lf lt o := by
              intro g fr P kS e
              unfold sX15_tryAll_84 sX15_tryAll_108 at e
              simp only [nm] at e
              replace e := cl_s e; obtain ⟨o1, e1, e⟩ := e
              unfold sX15_manOf at e1
              have := Option.some.inj e1; subst this
              dsimp only at e
              replace e := cl_s e; obtain ⟨_, _, e⟩ := e
              replace e := br_s e; rcases e with ⟨_, e⟩ | ⟨_, e⟩
              · replace e := cl_s e; obtain ⟨o4, e4, e⟩ := e
                have := ca_none (by rw [fqJ 2 fr rb]; exact rz) e4
                subst this
                exact ih2 fr P kS (by omega) e
              · exact ih2 fr P kS (by omega) e
            replace e := cl_s e; obtain ⟨S', p, e⟩ := e
            rw [fqE 25 fr rx] at p
            have := r_eq e25 p; subst this
            replace e := (gd_s e).2
            replace e := br_s e; rcases e with ⟨_, e⟩ | ⟨cn, e⟩
            · exact t84 fr P kS e
            rw [kS] at cn
            replace e := cl_s e; obtain ⟨o5, e5, e⟩ := e
            unfold sX15_manOf at e5
            have := Option.some.inj e5; subst this
            dsimp only at e
            replace e := cl_s e; obtain ⟨o6, e6, e⟩ := e
            have cst := K x3 x5 a3 c (by omega) cs a5 c5 (lq x5 a5 c5 cn)
            have w := ts_inv (I := fun g => Fq ρ h0 g ∧ LA C l lf lt g ∧ ∀ j, hI g S' j = hI o8 S' j) (fun g g2 bc tk k mo w e => by
              obtain ⟨v1, v2⟩ := add_q Q w.1 w.2.1 cst e
              exact ⟨v1, v2, fun j => by rw [add_S Q w.1 rS e]; exact w.2.2 j⟩) ⟨fr, P, kS⟩ e6
            exact t84 w.1 w.2.1 w.2.2 e
        exact inner F fr8 P8 (fun _ => rfl) (by decide) e
      · exact ih fr P (by omega) e
  unfold sX15_tryAll at e
  simp only [nm] at e
  refine outer F (fq_w fr rl) (fun i hi => ?_) (by decide) e
  rw [r_I, if_pos ⟨rfl, rfl⟩] at hi
  exact absurd hi (by show ¬ (i : Int) < 0; omega)
end
end
section
/-! wrongOf by its equation: the royal man of the side that has moved is not attacked -/
theorem np_x (x : Int32) (g : Hp) (w : ¬ x.toInt ≤ 0) : ¬ (x, g).1.toInt ≤ (0 : Int32).toInt := w
section
variable {ρ : Nat → Nat} {x0 b S Fa Ct M R Fl Ri A B Fm St Ro F : Nat} {h0 : Hp}
/-- a royal man of a side stands there -/
def IsR (h0 : Hp) (M R : Nat) (q d : Nat) : Prop := 0 < (hI h0 M q).toInt ∧ (hI h0 M q - (1 : Int32)) >>> ((1 : Int32) &&& 31) = hI h0 R 10 ∧ ((hI h0 M q - (1 : Int32)) &&& (1 : Int32)).toInt = d
def RyI (h0 : Hp) (M R Ro : Nat) (n : Int) (h : Hp) : Prop := ∀ d : Nat, d < 2 → 0 ≤ (hI h Ro d).toInt ∧ (hI h Ro d).toInt ≤ n ∧ (∀ q : Nat, (q : Int) < n → IsR h0 M R q d → 1 ≤ (hI h Ro d).toInt) ∧ (∀ q1 q2 : Nat, q1 < q2 → (q2 : Int) < n → IsR h0 M R q1 d → IsR h0 M R q2 d → 2 ≤ (hI h Ro d).toInt)
theorem wrong_q (L : LkS ρ x0 b S Fa Ct M R Fl Ri h0) (e22 : hR h0 x0 22 = some Ro) (rRo : ρ Ro = 86) (rz : hJ h0 b 2 = 0) (pz : hI h0 b 3 ≤ 0) (isd : Rg 0 1 (hI h0 b 1)) (mr : ∀ s, Rg 0 24 (hI h0 M s)) (iry : Rg (-1) 11 (hI h0 R 10)) (s0 : 0 ≤ (hI h0 x0 13).toInt) (s64 : (hI h0 x0 13).toInt ≤ 64) {h : Hp} {o : Int32 × Hp} (fr : Fq ρ h0 h) (e : sX15_wrongOf F h x0 b = some o) (np : o.1 ≤ 0) :
    ∀ q : Nat, (q : Int) < (hI h0 x0 13).toInt → IsR h0 M R q (1 - (hI h0 b 1).toInt).toNat → ∃ g o3, Fq ρ h0 g ∧ sX15_isAttacked F g x0 b (nI q) (hI h0 b 1) = some o3 ∧ o3.1 = 0 := by
  have L' := L
  obtain ⟨⟨rx, rb, rS, rFa, rCt, rM, rR, rFl, rRi⟩, ⟨e25, e26, e27, eM, eR, eFl, eRi⟩, ⟨iF, iR, iri, ps⟩⟩ := L'
  have z0 : (0 : Int32).toInt = 0 := rfl
  have z1 : (1 : Int32).toInt = 1 := rfl
  have nRo : ∀ {r k : Nat}, ρ r = k → ¬ k = 86 → ¬ r = Ro := fun {r k} e1 e2 w => e2 (by rw [← e1, w]; exact rRo)
  have nx : ¬ x0 = Ro := nRo rx (by decide)
  -- the end
  have b300 : ∀ {g : Hp}, Fq ρ h0 g → sX15_wrongOf_300 F g x0 b = some o → (∀ d : Nat, d < 2 → ∀ q1 q2 : Nat, (q1 : Int) < (hI h0 x0 13).toInt → (q2 : Int) < (hI h0 x0 13).toInt → IsR h0 M R q1 d → IsR h0 M R q2 d → q1 = q2) → ∀ q : Nat, (q : Int) < (hI h0 x0 13).toInt → IsR h0 M R q (1 - (hI h0 b 1).toInt).toNat → ∃ g o3, Fq ρ h0 g ∧ sX15_isAttacked F g x0 b (nI q) (hI h0 b 1) = some o3 ∧ o3.1 = 0 := by
    intro g fr e uq q ql iq
    unfold sX15_wrongOf_300 at e
    replace e := cl_s e; obtain ⟨o1, e1, e⟩ := e
    rw [fqI 1 fr rb] at e1
    have sb := isd.1
    have sb2 := isd.2
    have es : ((1 : Int32) - hI h0 b 1).toInt = 1 - (hI h0 b 1).toInt := ts (by rw [z1]; omega)
    have vq := mr q
    -- its value
    have val : (((1 : Int32) + ((2 : Int32) * hI h0 R 10)) + ((1 : Int32) - hI h0 b 1)) = hI h0 M q := by
      obtain ⟨p1, p2, p3⟩ := iq
      apply Int32.toInt_inj.mp
      have cs : ∀ j : Nat, 1 ≤ j → j ≤ 24 → ((nI j - (1 : Int32)) >>> ((1 : Int32) &&& 31)).toInt * 2 + ((nI j - (1 : Int32)) &&& (1 : Int32)).toInt + 1 = (nI j).toInt := by
        intro j a1 a2
        have : j = 1 ∨ j = 2 ∨ j = 3 ∨ j = 4 ∨ j = 5 ∨ j = 6 ∨ j = 7 ∨ j = 8 ∨ j = 9 ∨ j = 10 ∨ j = 11 ∨ j = 12 ∨ j = 13 ∨ j = 14 ∨ j = 15 ∨ j = 16 ∨ j = 17 ∨ j = 18 ∨ j = 19 ∨ j = 20 ∨ j = 21 ∨ j = 22 ∨ j = 23 ∨ j = 24 := by omega
        rcases this with w | w | w | w | w | w | w | w | w | w | w | w | w | w | w | w | w | w | w | w | w | w | w | w <;> subst w <;> decide
      have key : ((hI h0 M q - (1 : Int32)) >>> ((1 : Int32) &&& 31)).toInt * 2 + ((hI h0 M q - (1 : Int32)) &&& (1 : Int32)).toInt + 1 = (hI h0 M q).toInt := by
        obtain ⟨j, ej, tj, hj⟩ := rg_nI (x := hI h0 M q) (a := 1) (b := 24) ⟨by omega, vq.2⟩ (by decide)
        have v2 := vq.2
        have := cs j (by omega) (by omega)
        rw [ej]
        exact this
      have p2' := congrArg Int32.toInt p2
      have b2 : ((2 : Int32) * hI h0 R 10).toInt = 2 * (hI h0 R 10).toInt := tm (by have := iry.1; have := iry.2; show _ ≤ 2 * (hI h0 R 10).toInt ∧ 2 * (hI h0 R 10).toInt ≤ _; omega)
      have b3 : ((1 : Int32) + (2 : Int32) * hI h0 R 10).toInt = 1 + 2 * (hI h0 R 10).toInt := by
        rw [ta (by rw [b2, z1]; have := iry.1; have := iry.2; omega), b2, z1]
      rw [ta (by rw [b3, es]; have := iry.1; have := iry.2; omega), b3, es, ← key, p2', p3]
      omega
    have ry : ∀ (f : Nat) {x3 : Int32} {o1 : Int32 × Hp}, 0 ≤ x3.toInt → (∀ j : Nat, (j : Int) < x3.toInt → ¬ j = q) → sX15_royalOf_2 F f g x0 b ((1 : Int32) - hI h0 b 1) x3 = some o1 → o1 = (nI q, g) := by
      intro f
      induction f with
      | zero => intro x3 o1 _ _ e; exact absurd e (by simp [sX15_royalOf_2])
      | succ f ih =>
        intro x3 o1 a3 nq e
        unfold sX15_royalOf_2 sX15_valueOf at e
        simp only [nm] at e
        have vr := iry.2
        replace e := br_s e; rcases e with ⟨c, e⟩ | ⟨c, e⟩
        · have c := le_i c
          rw [fqI 13 fr rx] at c
          exact absurd rfl (nq q (by omega))
        have c := nle_i c
        rw [fqI 13 fr rx] at c
        replace e := cl_s e; obtain ⟨R', p, e⟩ := e
        rw [fqE 4 fr rx] at p
        have := r_eq eR p; subst this
        replace e := br_s e; rcases e with ⟨c2, e⟩ | ⟨c2, e⟩
        · rw [fqI 10 fr rR, ← iq.2.1] at c2
          have := man_r (x1 := hI h0 M q) ⟨by have := iq.1; omega, vq.2⟩
          rw [c2] at this
          exact absurd this.1 (by decide)
        replace e := cl_s e; obtain ⟨M', p, e⟩ := e
        rw [fqE 0 fr rb] at p
        have := r_eq eM p; subst this
        replace e := (gd_s e).2
        replace e := cl_s e; obtain ⟨R', p, e⟩ := e
        rw [fqE 4 fr rx] at p
        have := r_eq eR p; subst this
        replace e := cl_s e; obtain ⟨o7, e7, e⟩ := e
        have := Option.some.inj e7; subst this
        dsimp only at e
        rw [fqI 10 fr rR, fqI _ fr rM, val] at e
        have ex : (x3 + (1 : Int32)).toInt = x3.toInt + 1 := ta (by show _ ≤ x3.toInt + 1 ∧ x3.toInt + 1 ≤ _; omega)
        replace e := br_s e; rcases e with ⟨c3, e⟩ | ⟨c3, e⟩
        · have c0 := nc_i a3
          have iq2 : IsR h0 M' R' x3.toNatClampNeg (1 - (hI h0 b 1).toInt).toNat := by
            unfold IsR
            rw [c3]
            exact iq
          have := uq _ (by omega) x3.toNatClampNeg q (by omega) ql iq2 iq
          rw [← Option.some.inj e]
          congr 1
          apply Int32.toInt_inj.mp
          rw [z_toInt (by omega)]
          omega
        · refine ih (by omega) (fun j hj w => ?_) e
          have c0 := nc_i a3
          by_cases w2 : j = x3.toNatClampNeg
          · rw [← w, w2] at c3; exact c3 rfl
          · exact nq j (by omega) w
    unfold sX15_royalOf at e1
    have v1 := ry F (by decide) (fun j hj => absurd hj (by show ¬ (j : Int) < 0; omega)) e1
    subst v1
    dsimp only at e
    replace e := br_s e; rcases e with ⟨c, _⟩ | ⟨_, e⟩
    · have := congrArg Int32.toInt c
      rw [z_toInt (by omega)] at this
      exact absurd this (by show ¬ (q : Int) = -1; omega)
    replace e := cl_s e; obtain ⟨o3, e3, e⟩ := e
    rw [fqI 1 fr rb] at e3
    replace e := br_s e; rcases e with ⟨c, _⟩ | ⟨_, e⟩
    · exact ⟨g, o3, fr, e3, c⟩
    · rw [← Option.some.inj e] at np
      exact absurd (le_i np) (np_x _ _ (by decide))
  have b242 : ∀ (f : Nat) {g : Hp} {x4 : Int32}, Fq ρ h0 g → sX15_wrongOf_242 F f g x0 b x4 = some o → sX15_wrongOf_300 F g x0 b = some o := by
    intro f
    induction f with
    | zero => intro g x4 _ e; exact absurd e (by simp [sX15_wrongOf_242])
    | succ f ih =>
      intro g x4 fr e
      unfold sX15_wrongOf_242 sX15_wrongOf_277 at e
      simp only [nm] at e
      replace e := br_s e; rcases e with ⟨_, e⟩ | ⟨_, e⟩
      · replace e := br_s e; rcases e with ⟨_, e⟩ | ⟨c, _⟩
        · exact e
        · rw [fqI 3 fr rb] at c; exact absurd pz c
      replace e := br_s e; rcases e with ⟨c, _⟩ | ⟨_, e⟩
      · exact absurd c (no_right (by rw [fqJ 2 fr rb]; exact rz) _)
      · exact ih fr e
  have b165 : ∀ {g : Hp} {x2 t0 : Int32}, Fq ρ h0 g → RyI h0 M R Ro (hI h0 x0 13).toInt g → sX15_wrongOf_165 F g x0 b x2 t0 = some o → ∀ q : Nat, (q : Int) < (hI h0 x0 13).toInt → IsR h0 M R q (1 - (hI h0 b 1).toInt).toNat → ∃ g o3, Fq ρ h0 g ∧ sX15_isAttacked F g x0 b (nI q) (hI h0 b 1) = some o3 ∧ o3.1 = 0 := by
    intro g x2 t0 fr I e
    have d231 : ∀ {P : Prop}, sX15_wrongOf_231 F g = some o → P := fun {P} e => by
      unfold sX15_wrongOf_231 at e
      rw [← Option.some.inj e] at np
      exact absurd (le_i np) (np_x _ _ (by decide))
    unfold sX15_wrongOf_165 at e
    replace e := cl_s e; obtain ⟨r1, p, e⟩ := e
    rw [fqE 22 fr rx] at p
    have := r_eq e22 p; subst this
    replace e := (gd_s e).2
    replace e := br_s e; rcases e with ⟨_, e⟩ | ⟨c1, e⟩
    · exact d231 e
    replace e := cl_s e; obtain ⟨r1', p, e⟩ := e
    rw [fqE 22 fr rx] at p
    have := r_eq e22 p; subst this
    replace e := (gd_s e).2
    replace e := br_s e; rcases e with ⟨_, e⟩ | ⟨c2, e⟩
    · exact d231 e
    have c1 := nlt_i c1
    have c2 := nlt_i c2
    have uq : ∀ d : Nat, d < 2 → ∀ q1 q2 : Nat, (q1 : Int) < (hI h0 x0 13).toInt → (q2 : Int) < (hI h0 x0 13).toInt → IsR h0 M R q1 d → IsR h0 M R q2 d → q1 = q2 := by
      intro d hd q1 q2 l1 l2 i1 i2
      obtain ⟨_, _, _, w⟩ := I d hd
      have le1 : (hI g r1' d).toInt ≤ 1 := by
        have : d = 0 ∨ d = 1 := by omega
        rcases this with w | w <;> subst w
        · exact c1
        · exact c2
      refine Classical.byContradiction fun ne => ?_
      by_cases lt : q1 < q2
      · have := w q1 q2 lt l2 i1 i2; omega
      · have := w q2 q1 (by omega) l1 i2 i1; omega
    have d233 : sX15_wrongOf_233 F g x0 b x2 = some o → ∀ q : Nat, (q : Int) < (hI h0 x0 13).toInt → IsR h0 M R q (1 - (hI h0 b 1).toInt).toNat → ∃ g o3, Fq ρ h0 g ∧ sX15_isAttacked F g x0 b (nI q) (hI h0 b 1) = some o3 ∧ o3.1 = 0 := by
      intro e
      unfold sX15_wrongOf_233 at e
      replace e := br_s e; rcases e with ⟨_, e⟩ | ⟨_, e⟩
      · exact b300 fr (b242 F fr e) uq
      · rw [← Option.some.inj e] at np
        exact absurd (le_i np) (np_x _ _ (by decide))
    replace e := br_s e; rcases e with ⟨_, e⟩ | ⟨_, e⟩
    · replace e := cl_s e; obtain ⟨_, _, e⟩ := e
      replace e := br_s e; rcases e with ⟨_, e⟩ | ⟨_, e⟩
      · exact d233 e
      replace e := cl_s e; obtain ⟨_, _, e⟩ := e
      replace e := br_s e; rcases e with ⟨_, e⟩ | ⟨_, e⟩
      · exact d233 e
      replace e := cl_s e; obtain ⟨_, _, e⟩ := e
      replace e := (gd_s e).2
      replace e := br_s e; rcases e with ⟨_, e⟩ | ⟨_, e⟩
      · replace e := cl_s e; obtain ⟨_, _, e⟩ := e
        replace e := (gd_s e).2
        replace e := br_s e; rcases e with ⟨_, e⟩ | ⟨_, e⟩
        · exact d233 e
        · exact d231 e
      · exact d231 e
    · exact d231 e
  have b18 : ∀ (f : Nat) {g : Hp} {x2 x3 : Int32}, Fq ρ h0 g → 0 ≤ x3.toInt → x3.toInt ≤ (hI h0 x0 13).toInt → RyI h0 M R Ro x3.toInt g → sX15_wrongOf_18 F f g x0 b x2 x3 = some o → ∀ q : Nat, (q : Int) < (hI h0 x0 13).toInt → IsR h0 M R q (1 - (hI h0 b 1).toInt).toNat → ∃ g o3, Fq ρ h0 g ∧ sX15_isAttacked F g x0 b (nI q) (hI h0 b 1) = some o3 ∧ o3.1 = 0 := by
    intro f
    induction f with
    | zero => intro g x2 x3 _ _ _ _ e; exact absurd e (by simp [sX15_wrongOf_18])
    | succ f ih =>
      intro g x2 x3 fr a3 b3 I e
      unfold sX15_wrongOf_18 sX15_wrongOf_164 sX15_wrongOf_109 at e
      simp only [nm] at e
      replace e := br_s e; rcases e with ⟨c, e⟩ | ⟨c, e⟩
      · have c := le_i c
        rw [fqI 13 fr rx] at c
        have I2 : RyI h0 M R Ro (hI h0 x0 13).toInt g := by
          have : x3.toInt = (hI h0 x0 13).toInt := by omega
          rw [← this]; exact I
        replace e := cl_s e; obtain ⟨_, _, e⟩ := e
        replace e := br_s e; rcases e with ⟨_, e⟩ | ⟨_, e⟩
        · exact b165 fr I2 e
        replace e := cl_s e; obtain ⟨_, _, e⟩ := e
        replace e := cl_s e; obtain ⟨_, _, e⟩ := e
        replace e := (gd_s e).2
        replace e := cl_s e; obtain ⟨_, _, e⟩ := e
        replace e := cl_s e; obtain ⟨_, _, e⟩ := e
        replace e := (gd_s e).2
        replace e := br_s e; rcases e with ⟨_, e⟩ | ⟨_, e⟩
        · exact b165 fr I2 e
        · exact b165 fr I2 e
      have c := nle_i c
      rw [fqI 13 fr rx] at c
      have ex : (x3 + (1 : Int32)).toInt = x3.toInt + 1 := ta (by show _ ≤ x3.toInt + 1 ∧ x3.toInt + 1 ≤ _; omega)
      have c0 := nc_i a3
      replace e := cl_s e; obtain ⟨M', p, e⟩ := e
      rw [fqE 0 fr rb] at p
      have := r_eq eM p; subst this
      replace e := (gd_s e).2
      rw [fqI _ fr rM] at e
      -- one square more
      have more : ∀ {g2 : Hp}, (∀ d : Nat, d < 2 → (hI g Ro d).toInt ≤ (hI g2 Ro d).toInt ∧ (hI g2 Ro d).toInt ≤ (hI g Ro d).toInt + 1 ∧ (IsR h0 M' R x3.toNatClampNeg d → (hI g2 Ro d).toInt = (hI g Ro d).toInt + 1)) → RyI h0 M' R Ro (x3 + (1 : Int32)).toInt g2 := by
        intro g2 w d hd
        obtain ⟨w1, w2, w3⟩ := w d hd
        obtain ⟨i1, i2, i3, i4⟩ := I d hd
        refine ⟨by omega, by omega, fun q hq iq => ?_, fun q1 q2 lt hq j1 j2 => ?_⟩
        · by_cases z : q = x3.toNatClampNeg
          · subst z; have := w3 iq; omega
          · have := i3 q (by omega) iq; omega
        · by_cases z : q2 = x3.toNatClampNeg
          · subst z
            have := w3 j2
            have := i3 q1 (by omega) j1
            omega
          · have := i4 q1 q2 lt (by omega) j1 j2; omega
      replace e := br_s e; rcases e with ⟨cv, e⟩ | ⟨cv, e⟩
      · have cv := le_i cv
        refine ih fr (by omega) (by omega) (more (fun d hd => ⟨Int.le_refl _, by omega, fun iq => ?_⟩)) e
        have := iq.1
        omega
      have cv := nle_i cv
      replace e := cl_s e; obtain ⟨r15, p, e⟩ := e
      rw [fqE 22 fr rx] at p
      have := r_eq e22 p; subst this
      replace e := cl_s e; obtain ⟨o16, e16, e⟩ := e
      unfold sX15_sideOf at e16
      have := Option.some.inj e16; subst this
      dsimp only at e
      have gB := (gd_s e).1
      replace e := (gd_s e).2
      replace e := cl_s e; obtain ⟨o18, e18, e⟩ := e
      unfold sX15_manOf at e18
      have := Option.some.inj e18; subst this
      dsimp only at e
      replace e := cl_s e; obtain ⟨R', p, e⟩ := e
      rw [fqE 4 fr rx] at p
      have := r_eq eR p; subst this
      rw [fqI 10 fr rR] at e
      have b70 : ∀ (w : Int32), (w = 0 ∨ w = 1) → ((hI h0 M' x3.toNatClampNeg - (1 : Int32)) >>> ((1 : Int32) &&& 31) = hI h0 R' 10 → w = 1) → sX15_wrongOf_70 F (sX15_wrongOf_18 F f) g x0 b x2 x3 (hI h0 M' x3.toNatClampNeg) w (hI g r15 ((hI h0 M' x3.toNatClampNeg - (1 : Int32)) &&& (1 : Int32)).toNatClampNeg) ((hI h0 M' x3.toNatClampNeg - (1 : Int32)) &&& (1 : Int32)) r15 = some o → ∀ q : Nat, (q : Int) < (hI h0 x0 13).toInt → IsR h0 M' R' q (1 - (hI h0 b 1).toInt).toNat → ∃ g o3, Fq ρ h0 g ∧ sX15_isAttacked F g x0 b (nI q) (hI h0 b 1) = some o3 ∧ o3.1 = 0 := by
        intro w hw hm e
        unfold sX15_wrongOf_70 at e
        simp only [nm] at e
        replace e := (gd_s e).2
        have sr := side_r (x := hI h0 M' x3.toNatClampNeg - (1 : Int32))
        have c1 := nc_i sr.1
        have s1 := sr.2
        generalize hsd : (hI h0 M' x3.toNatClampNeg - (1 : Int32)) &&& (1 : Int32) = sdv at e sr c1 s1
        have frw : Fq ρ h0 (wI g r15 sdv.toNatClampNeg (hI g r15 sdv.toNatClampNeg + w)) := fq_w fr rRo
        have ww : 0 ≤ w.toInt ∧ w.toInt ≤ 1 := by rcases hw with q | q <;> subst q <;> decide
        obtain ⟨y1, y2, _, _⟩ := I sdv.toNatClampNeg (by omega)
        have ad : (hI g r15 sdv.toNatClampNeg + w).toInt = (hI g r15 sdv.toNatClampNeg).toInt + w.toInt := ta (by omega)
        have I2 : RyI h0 M' R' r15 (x3 + (1 : Int32)).toInt (wI g r15 sdv.toNatClampNeg (hI g r15 sdv.toNatClampNeg + w)) := by
          refine more (fun d hd => ?_)
          rw [r_I]
          by_cases z : d = sdv.toNatClampNeg
          · rw [if_pos ⟨rfl, z⟩, ad]
            subst z
            refine ⟨by omega, by omega, fun iq => ?_⟩
            rw [hm iq.2.1]
            rfl
          · rw [if_neg (fun q => z q.2)]
            refine ⟨Int.le_refl _, by omega, fun iq => ?_⟩
            have := iq.2.2
            rw [hsd] at this
            omega
        replace e := cl_s e; obtain ⟨o3, e3, e⟩ := e
        unfold sX15_manOf at e3
        have := Option.some.inj e3; subst this
        dsimp only at e
        have fin : ∀ {t0 t1 : Int32}, sX15_wrongOf_107 F (sX15_wrongOf_18 F f) (wI g r15 sdv.toNatClampNeg (hI g r15 sdv.toNatClampNeg + w)) x0 b x3 t0 t1 = some o → ∀ q : Nat, (q : Int) < (hI h0 x0 13).toInt → IsR h0 M' R' q (1 - (hI h0 b 1).toInt).toNat → ∃ g o3, Fq ρ h0 g ∧ sX15_isAttacked F g x0 b (nI q) (hI h0 b 1) = some o3 ∧ o3.1 = 0 := by
          intro t0 t1 e
          unfold sX15_wrongOf_107 sX15_wrongOf_109 at e
          simp only [nm] at e
          exact ih frw (by omega) (by omega) I2 e
        replace e := cl_s e; obtain ⟨o4, e4, e⟩ := e
        rw [oth_post e4] at e
        unfold sX15_wrongOf_106 at e
        replace e := br_s e; rcases e with ⟨_, e⟩ | ⟨_, e⟩
        · exact fin e
        replace e := cl_s e; obtain ⟨o6, e6, e⟩ := e
        unfold sX15_sideOf at e6
        have := Option.some.inj e6; subst this
        dsimp only at e
        replace e := cl_s e; obtain ⟨o7, e7, e⟩ := e
        rw [(rank_post e7).1] at e
        replace e := br_s e; rcases e with ⟨_, e⟩ | ⟨_, e⟩
        · exact fin e
        · exact fin e
      replace e := br_s e; rcases e with ⟨cm, e⟩ | ⟨cm, e⟩
      · exact b70 1 (Or.inr rfl) (fun _ => rfl) e
      · exact b70 0 (Or.inl rfl) (fun w => absurd w cm) e
  unfold sX15_wrongOf at e
  simp only [nm] at e
  replace e := cl_s e; obtain ⟨r1, p, e⟩ := e
  rw [fqE 22 fr rx] at p
  have := r_eq e22 p; subst this
  replace e := (gd_s e).2
  replace e := cl_s e; obtain ⟨r4, p, e⟩ := e
  replace p : hR h x0 22 = some r4 := p
  rw [fqE 22 fr rx] at p
  have := r_eq e22 p; subst this
  replace e := (gd_s e).2
  refine b18 F (fq_w (fq_w fr rRo) rRo) (by decide) (by rw [z0]; exact s0) (fun d hd => ?_) e
  have zr : hI (wI (wI h r4 (0 : Int32).toNatClampNeg 0) r4 (1 : Int32).toNatClampNeg 0) r4 d = 0 := by
    have : d = 0 ∨ d = 1 := by omega
    rcases this with w | w <;> subst w
    · rw [r_I, if_neg (fun w => absurd w.2 (by decide)), r_I, if_pos ⟨rfl, rfl⟩]
    · rw [r_I, if_pos ⟨rfl, rfl⟩]
  rw [zr]
  exact ⟨by decide, by decide, fun q hq => absurd hq (by show ¬ (q : Int) < 0; omega), fun _ q2 _ hq => absurd hq (by show ¬ (q2 : Int) < 0; omega)⟩
end
end
