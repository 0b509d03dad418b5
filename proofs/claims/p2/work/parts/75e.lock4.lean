/-! lead and attacks side by side -/
section
variable {ρ : Nat → Nat} {x0 b S Fa Ct M R Fl Ri A B Fm St F : Nat} {h0 : Hp} {s sd ct q : Int32}
def LkT (ρ : Nat → Nat) (x0 R A B Fm St : Nat) (h0 : Hp) : Prop :=
  (ρ A = 76 ∧ ρ B = 77 ∧ ρ Fm = 79 ∧ ρ St = 74) ∧ (hR h0 R 6 = some A ∧ hR h0 R 7 = some B ∧ hR h0 R 9 = some Fm ∧ hR h0 R 4 = some St) ∧ ((∀ i, Rg (-7) 7 (hI h0 A i)) ∧ (∀ i, Rg (-7) 7 (hI h0 B i)))
theorem lk_h {h : Hp} {st d : Int32} {o : Int32 × Hp} (L : LkS ρ x0 b S Fa Ct M R Fl Ri h0) (Z : LkT ρ x0 R A B Fm St h0) (fr : Fq ρ h0 h) (e : sX15_hasVector h x0 st d sd = some o) : Fq ρ h0 o.2 ∧ Rg (-7) 7 (hI o.2 x0 23) ∧ Rg (-7) 7 (hI o.2 x0 24) ∧ ∀ j, hI o.2 S j = hI h S j := by
  obtain ⟨⟨rx, rb, rS, rFa, rCt, rM, rR, rFl, rRi⟩, ⟨e25, e26, e27, eM, eR, eFl, eRi⟩, ⟨iF, iR, iri, ps⟩⟩ := L
  obtain ⟨⟨rA, rB, rFm, rSt⟩, ⟨eA, eB, eFm, eSt⟩, iA, iB⟩ := Z
  have nx : ∀ {r k : Nat}, ρ r = k → ¬ k = 16 → ∀ i, ¬ (r = x0 ∧ (i = 23 ∨ i = 24)) := fun {r k} e1 e2 i w => e2 (by rw [← e1, w.1, rx])
  have kA : ∀ i, hI h A i = hI h0 A i := fun i => fqI i fr rA
  have kB : ∀ i, hI h B i = hI h0 B i := fun i => fqI i fr rB
  obtain ⟨d1, d2, w, i1, i2⟩ := hv_post (fqR fr rx eR) (fqR fr rR eA) (fqR fr rR eB) (fun i => by rw [kA]; exact iA i) (fun i => by rw [kB]; exact iB i) e
  rw [w]
  refine ⟨fq_w (fq_w fr rx) rx, ?_, ?_, fun j => ?_⟩
  · rw [r_I, if_neg (fun w => absurd w.2 (by decide)), r_I, if_pos ⟨rfl, rfl⟩]; exact i1
  · rw [r_I, if_pos ⟨rfl, rfl⟩]; exact i2
  · have n : ¬ S = x0 := fun q => absurd (q ▸ rS) (by rw [rx]; decide)
    rw [r_I, if_neg (fun w => n w.1), r_I, if_neg (fun w => n w.1)]
theorem lk_h2 {h g : Hp} {st d : Int32} {o o' : Int32 × Hp} (L : LkS ρ x0 b S Fa Ct M R Fl Ri h0) (Z : LkT ρ x0 R A B Fm St h0) (fr : Fq ρ h0 h) (frg : Fq ρ h0 g) (e : sX15_hasVector h x0 st d sd = some o) (e' : sX15_hasVector g x0 st d sd = some o') : o.1 = o'.1 ∧ hI o'.2 x0 23 = hI o.2 x0 23 ∧ hI o'.2 x0 24 = hI o.2 x0 24 := by
  obtain ⟨⟨rx, rb, rS, rFa, rCt, rM, rR, rFl, rRi⟩, ⟨e25, e26, e27, eM, eR, eFl, eRi⟩, ⟨iF, iR, iri, ps⟩⟩ := L
  obtain ⟨⟨rA, rB, rFm, rSt⟩, ⟨eA, eB, eFm, eSt⟩, iA, iB⟩ := Z
  have nx : ∀ {r k : Nat}, ρ r = k → ¬ k = 16 → ∀ i, ¬ (r = x0 ∧ (i = 23 ∨ i = 24)) := fun {r k} e1 e2 i w => e2 (by rw [← e1, w.1, rx])
  obtain ⟨w1, d1, d2, w2, w3⟩ := hv_two eR eA eB eFl (fqE 4 fr rx) (fqE 6 fr rR) (fqE 7 fr rR) (fqE 5 fr rR) (fqE 4 frg rx) (fqE 6 frg rR) (fqE 7 frg rR) (fqE 5 frg rR) (fun i => fqI i fr rA) (fun i => fqI i fr rB) (fun i => fqI i fr rFl) (fun i => fqI i frg rA) (fun i => fqI i frg rB) (fun i => fqI i frg rFl) e e'
  refine ⟨w1, ?_, ?_⟩
  · rw [w2, w3, r_I, if_neg (fun w => absurd w.2 (by decide)), r_I, if_pos ⟨rfl, rfl⟩, r_I, if_neg (fun w => absurd w.2 (by decide)), r_I, if_pos ⟨rfl, rfl⟩]
  · rw [w2, w3, r_I, if_pos ⟨rfl, rfl⟩, r_I, if_pos ⟨rfl, rfl⟩]
theorem rch_fr {st : Int32} : ∀ (f : Nat) {g : Hp} {x7 x8 : Int32} {o' : Int32 × Hp}, sX15_reaches_6 F f g x0 b s q st x7 x8 = some o' → o'.2 = g := by
  intro f
  induction f with
  | zero => intro g x7 x8 o' e; exact absurd e (by simp [sX15_reaches_6])
  | succ f ih =>
    intro g x7 x8 o' e
    unfold sX15_reaches_6 sX15_reaches_42 sX15_reaches_83 at e
    simp only [nm] at e
    replace e := cl_s e; obtain ⟨_, _, e⟩ := e
    replace e := cl_s e; obtain ⟨_, _, e⟩ := e
    replace e := (gd_s e).2
    replace e := br_s e; rcases e with ⟨_, e⟩ | ⟨_, e⟩
    · rw [← Option.some.inj e]
    replace e := cl_s e; obtain ⟨o5, e5, e⟩ := e
    have v5 := on_val e5; subst v5
    dsimp only at e
    replace e := br_s e; rcases e with ⟨_, e⟩ | ⟨_, e⟩
    · rw [← Option.some.inj e]
    replace e := br_s e; rcases e with ⟨_, e⟩ | ⟨_, e⟩
    · replace e := br_s e; rcases e with ⟨_, e⟩ | ⟨_, e⟩
      · replace e := cl_s e; obtain ⟨_, _, e⟩ := e
        replace e := cl_s e; obtain ⟨_, _, e⟩ := e
        replace e := (gd_s e).2
        replace e := cl_s e; obtain ⟨o15, e15, e⟩ := e
        have v15 := fr_val e15; subst v15
        rw [← Option.some.inj (gd_s e).2]
      · replace e := cl_s e; obtain ⟨_, _, e⟩ := e
        replace e := (gd_s e).2
        replace e := br_s e; rcases e with ⟨_, e⟩ | ⟨_, e⟩
        · exact ih e
        · exact ih e
    · rw [← Option.some.inj e]
/-- attacks leaves all but two fields as it was -/
theorem at_fr (L : LkS ρ x0 b S Fa Ct M R Fl Ri h0) (Z : LkT ρ x0 R A B Fm St h0) {v m : Int32} : ∀ (f : Nat) {g : Hp} {i : Int32} {o' : Int32 × Hp}, Fq ρ h0 g → sX15_attacks_9 F f g x0 b s v q m i = some o' → Fq ρ h0 o'.2 := by
  intro f
  induction f with
  | zero => intro g i o' _ e; exact absurd e (by simp [sX15_attacks_9])
  | succ f ih =>
    intro g i o' fr e
    unfold sX15_attacks_9 at e
    simp only [nm] at e
    replace e := cl_s e; obtain ⟨_, _, e⟩ := e
    replace e := cl_s e; obtain ⟨_, _, e⟩ := e
    replace e := (gd_s e).2
    replace e := br_s e; rcases e with ⟨_, e⟩ | ⟨_, e⟩
    · rw [← Option.some.inj e]; exact fr
    replace e := cl_s e; obtain ⟨_, _, e⟩ := e
    replace e := cl_s e; obtain ⟨_, _, e⟩ := e
    replace e := (gd_s e).2
    have inn : ∀ (ff : Nat) {g : Hp} {i st d : Int32}, Fq ρ h0 g → sX15_attacks_70 F (sX15_attacks_9 F f) ff g x0 b s v q m i st d = some o' → Fq ρ h0 o'.2 := by
      intro ff
      induction ff with
      | zero => intro g i st d _ e; exact absurd e (by simp [sX15_attacks_70])
      | succ ff ih2 =>
        intro g i st d fr e
        unfold sX15_attacks_70 sX15_attacks_113 sX15_attacks_107 at e
        simp only [nm] at e
        replace e := br_s e; rcases e with ⟨_, e⟩ | ⟨_, e⟩
        · exact ih fr e
        replace e := cl_s e; obtain ⟨o2, e2, e⟩ := e
        unfold sX15_sideOf at e2
        have := Option.some.inj e2; subst this
        dsimp only at e
        replace e := cl_s e; obtain ⟨o3, e3, e⟩ := e
        have fr3 := (lk_h L Z fr e3).1
        replace e := br_s e; rcases e with ⟨_, e⟩ | ⟨_, e⟩
        · exact ih2 fr3 e
        replace e := cl_s e; obtain ⟨o5, e5, e⟩ := e
        have v5 : o5.2 = o3.2 := by unfold sX15_reaches at e5; exact rch_fr F e5
        rw [v5] at e
        replace e := br_s e; rcases e with ⟨_, e⟩ | ⟨_, e⟩
        · exact ih2 fr3 e
        · rw [← Option.some.inj e]; exact fr3
    replace e := br_s e; rcases e with ⟨_, e⟩ | ⟨_, e⟩
    · replace e := cl_s e; obtain ⟨o11, e11, e⟩ := e
      unfold sX15_sideOf at e11
      have := Option.some.inj e11; subst this
      dsimp only at e
      replace e := cl_s e; obtain ⟨o12, e12, e⟩ := e
      have := from_post e12
      rw [this] at e
      unfold sX15_attacks_113 at e
      simp only [nm] at e
      replace e := br_s e; rcases e with ⟨_, e⟩ | ⟨_, e⟩
      · exact ih fr e
      · exact inn F fr e
    · unfold sX15_attacks_113 at e
      simp only [nm] at e
      exact ih fr e
/-- a man's steps, in both -/
theorem ld_lock (L : LkS ρ x0 b S Fa Ct M R Fl Ri h0) (Z : LkT ρ x0 R A B Fm St h0) {v m : Int32} (em : m = (v - (1 : Int32)) >>> ((1 : Int32) &&& 31)) (es : sd = (v - (1 : Int32)) &&& (1 : Int32)) (is : Rg 0 63 s) (q0 : 0 ≤ q.toInt) (hq : 0 < (hI h0 M q.toNatClampNeg).toInt) : ∀ (f : Nat) {h o : Hp} {i : Int32}, Fq ρ h0 h → sX15_lead_44 F f h x0 b s ct v sd i = some o → hI h S q.toNatClampNeg = (-1 : Int32) → ¬ hI o S q.toNatClampNeg = (-1 : Int32) → ¬ ((hI h0 M q.toNatClampNeg) - (1 : Int32)) &&& (1 : Int32) = sd ∧ (¬ q = s → ∀ (f' : Nat) (g : Hp) (o' : Int32 × Hp), Fq ρ h0 g → sX15_attacks_9 F f' g x0 b s v q m i = some o' → ¬ o'.1 = 0) := by
  have L' := L
  obtain ⟨⟨rx, rb, rS, rFa, rCt, rM, rR, rFl, rRi⟩, ⟨e25, e26, e27, eM, eR, eFl, eRi⟩, ⟨iF, iR, iri, ps⟩⟩ := L'
  have Z' := Z
  obtain ⟨⟨rA, rB, rFm, rSt⟩, ⟨eA, eB, eFm, eSt⟩, iA, iB⟩ := Z'
  have nx : ∀ {r k : Nat}, ρ r = k → ¬ k = 16 → ∀ i, ¬ (r = x0 ∧ (i = 23 ∨ i = 24)) := fun {r k} e1 e2 i w => e2 (by rw [← e1, w.1, rx])
  have k11 : ∀ {h : Hp}, Fq ρ h0 h → hI h x0 11 = hI h0 x0 11 := fun fr => fqI 11 fr rx
  have k12 : ∀ {h : Hp}, Fq ρ h0 h → hI h x0 12 = hI h0 x0 12 := fun fr => fqI 12 fr rx
  have kSt : ∀ {h : Hp}, Fq ρ h0 h → ∀ i, hI h St i = hI h0 St i := fun fr i => fqI i fr rSt
  have kFm : ∀ {h : Hp}, Fq ρ h0 h → ∀ i, hI h Fm i = hI h0 Fm i := fun fr i => fqI i fr rFm
  have kFl : ∀ {h : Hp}, Fq ρ h0 h → ∀ i, hI h Fl i = hI h0 Fl i := fun fr i => fqI i fr rFl
  intro f
  induction f with
  | zero => intro h o i _ e; exact absurd e (by simp [sX15_lead_44])
  | succ f ih =>
    intro h o i fr e n1 n2
    unfold sX15_lead_44 at e
    replace e := cl_s e; obtain ⟨R', p, e⟩ := e
    rw [fqE 4 fr rx] at p
    have := r_eq eR p; subst this
    replace e := cl_s e; obtain ⟨St', p, e⟩ := e
    rw [fqE 4 fr rR] at p
    have := r_eq eSt p; subst this
    replace e := cl_s e; obtain ⟨o3, e3, e⟩ := e
    unfold sX15_manOf at e3
    have := Option.some.inj e3; subst this
    dsimp only at e
    rw [← em] at e
    replace e := (gd_s e).2
    replace e := br_s e; rcases e with ⟨_, e⟩ | ⟨c1, e⟩
    · have := Option.some.inj e
      subst this
      exact absurd n1 n2
    rw [kSt fr] at c1
    replace e := cl_s e; obtain ⟨o6, e6, e⟩ := e
    unfold sX15_manOf at e6
    have := Option.some.inj e6; subst this
    dsimp only at e
    rw [← em] at e
    simp only [nm] at e
    -- the inner loop
    have inn : ∀ (st : Int32) (ff : Nat) {h : Hp} {d : Int32}, Fq ρ h0 h → sX15_lead_78 F (sX15_lead_44 F f) ff h x0 b s ct v sd i st d = some o → hI h S q.toNatClampNeg = (-1 : Int32) →
        ¬ ((hI h0 M q.toNatClampNeg) - (1 : Int32)) &&& (1 : Int32) = sd ∧ (¬ q = s → ¬ fmV (hI h0 Fm st.toNatClampNeg) (hI h0 x0 11) (hI h0 x0 12) s sd = 0 → (hI h0 Fl st.toNatClampNeg) &&& (1 : Int32) = 0 → ∀ (f1 f' : Nat) (g : Hp) (o' : Int32 × Hp), Fq ρ h0 g → sX15_attacks_70 F (sX15_attacks_9 F f1) f' g x0 b s v q m i st d = some o' → ¬ o'.1 = 0) ∧ (¬ q = s → fmV (hI h0 Fm st.toNatClampNeg) (hI h0 x0 11) (hI h0 x0 12) s sd = 0 ∨ ¬ (hI h0 Fl st.toNatClampNeg) &&& (1 : Int32) = 0 → ∀ (f1 : Nat) (g : Hp) (o' : Int32 × Hp), Fq ρ h0 g → sX15_attacks_9 F f1 g x0 b s v q m (i + (1 : Int32)) = some o' → ¬ o'.1 = 0) := by
      intro st ff
      induction ff with
      | zero => intro h d _ e; exact absurd e (by simp [sX15_lead_78])
      | succ ff ih2 =>
        intro h d fr e n1
        unfold sX15_lead_78 sX15_lead_127 sX15_lead_121 at e
        simp only [nm] at e
        replace e := br_s e; rcases e with ⟨c8, e⟩ | ⟨c8, e⟩
        · obtain ⟨w1, w2⟩ := ih fr e n1 n2
          refine ⟨w1, fun ns _ _ f1 f' g o' frg ea => ?_, fun ns _ f1 g o' frg ea => w2 ns f1 g o' frg ea⟩
          cases f' with
          | zero => exact absurd ea (by simp [sX15_attacks_70])
          | succ f' =>
            unfold sX15_attacks_70 sX15_attacks_113 at ea
            simp only [nm] at ea
            replace ea := br_s ea; rcases ea with ⟨_, ea⟩ | ⟨c, _⟩
            · exact w2 ns f1 g o' frg ea
            · exact absurd c8 c
        replace e := cl_s e; obtain ⟨o2, e2, e⟩ := e
        have v2 := fm_val (fqR fr rx eR) (fqR fr rR eFm) e2
        rw [kFm fr, k11 fr, k12 fr] at v2
        subst v2
        dsimp only at e
        replace e := br_s e; rcases e with ⟨cf, e⟩ | ⟨cf, e⟩
        · obtain ⟨w1, w2⟩ := ih fr e n1 n2
          exact ⟨w1, fun _ nf => absurd cf nf, fun ns _ f1 g o' frg ea => w2 ns f1 g o' frg ea⟩
        replace e := cl_s e; obtain ⟨o4, e4, e⟩ := e
        obtain ⟨fr4, i23, i24, kS4⟩ := lk_h L Z fr e4
        -- one step of attacks
        have one : ∀ (f1 f' : Nat) (g : Hp) (o' : Int32 × Hp), Fq ρ h0 g → sX15_attacks_70 F (sX15_attacks_9 F f1) (f' + 1) g x0 b s v q m i st d = some o' → ∃ g2, Fq ρ h0 g2 ∧ hI g2 x0 23 = hI o4.2 x0 23 ∧ hI g2 x0 24 = hI o4.2 x0 24 ∧ ((o4.1 = 0 ∧ sX15_attacks_70 F (sX15_attacks_9 F f1) f' g2 x0 b s v q m i st (d + (1 : Int32)) = some o') ∨ (¬ o4.1 = 0 ∧ ∃ o5, sX15_reaches F g2 x0 b s q st = some o5 ∧ ((o5.1 = 0 ∧ sX15_attacks_70 F (sX15_attacks_9 F f1) f' g2 x0 b s v q m i st (d + (1 : Int32)) = some o') ∨ ¬ o'.1 = 0))) := by
          intro f1 f' g o' frg ea
          unfold sX15_attacks_70 sX15_attacks_107 at ea
          simp only [nm] at ea
          replace ea := br_s ea; rcases ea with ⟨c, _⟩ | ⟨_, ea⟩
          · exact absurd c c8
          replace ea := cl_s ea; obtain ⟨o2, e2, ea⟩ := ea
          unfold sX15_sideOf at e2
          have := Option.some.inj e2; subst this
          dsimp only at ea
          rw [← es] at ea
          replace ea := cl_s ea; obtain ⟨o3, e3, ea⟩ := ea
          obtain ⟨z1, z2, z3⟩ := lk_h2 L Z fr frg e4 e3
          refine ⟨o3.2, (lk_h L Z frg e3).1, z2, z3, ?_⟩
          replace ea := br_s ea; rcases ea with ⟨c, ea⟩ | ⟨c, ea⟩
          · exact Or.inl ⟨by rw [z1]; exact c, ea⟩
          refine Or.inr ⟨by rw [z1]; exact c, ?_⟩
          replace ea := cl_s ea; obtain ⟨o5, e5, ea⟩ := ea
          refine ⟨o5, e5, ?_⟩
          have v5 : o5.2 = o3.2 := by unfold sX15_reaches at e5; exact rch_fr F e5
          rw [v5] at ea
          replace ea := br_s ea; rcases ea with ⟨c, ea⟩ | ⟨c, ea⟩
          · exact Or.inl ⟨c, ea⟩
          · exact Or.inr (by rw [← Option.some.inj ea]; show ¬ (1 : Int32) = 0; decide)
        replace e := br_s e; rcases e with ⟨c4, e⟩ | ⟨c4, e⟩
        · obtain ⟨w1, w2, w3⟩ := ih2 fr4 e (by rw [kS4]; exact n1)
          refine ⟨w1, fun ns a1 a2 f1 f' g o' frg ea => ?_, w3⟩
          cases f' with
          | zero => exact absurd ea (by simp [sX15_attacks_70])
          | succ f' =>
            obtain ⟨g2, frg2, _, _, alt⟩ := one f1 f' g o' frg ea
            rcases alt with ⟨_, ea⟩ | ⟨c, _⟩
            · exact w2 ns a1 a2 f1 f' g2 o' frg2 ea
            · exact absurd c4 c
        replace e := cl_s e; obtain ⟨o6, e6, e⟩ := e
        unfold sX15_leadBy at e6
        simp only [nm] at e6
        replace e6 := cl_s e6; obtain ⟨R', p, e6⟩ := e6
        rw [fqE 4 fr4 rx] at p
        have := r_eq eR p; subst this
        replace e6 := cl_s e6; obtain ⟨Fl', p, e6⟩ := e6
        rw [fqE 5 fr4 rR] at p
        have := r_eq eFl p; subst this
        replace e6 := (gd_s e6).2
        rw [kFl fr4] at e6
        obtain ⟨fr6, _, _⟩ := (lb_keep (q := q) L q0 F fr4 rfl rfl ⟨by decide, by decide⟩ e6).1
        by_cases n6 : hI o6 S q.toNatClampNeg = (-1 : Int32)
        · obtain ⟨w1, w2, w3⟩ := ih2 fr6 e n6
          refine ⟨w1, fun ns a1 a2 f1 f' g o' frg ea => ?_, w3⟩
          cases f' with
          | zero => exact absurd ea (by simp [sX15_attacks_70])
          | succ f' =>
            obtain ⟨g2, frg2, _, _, alt⟩ := one f1 f' g o' frg ea
            rcases alt with ⟨c, _⟩ | ⟨_, o5, _, alt⟩
            · exact absurd c c4
            · rcases alt with ⟨_, ea⟩ | w
              · exact w2 ns a1 a2 f1 f' g2 o' frg2 ea
              · exact w
        · obtain ⟨w1, w2, w3⟩ := lb_lock L is i23 i24 q0 hq rfl F fr4 rfl rfl ⟨by decide, by decide⟩ e6 (by rw [kS4]; exact n1) n6
          refine ⟨w2, fun ns a1 a2 f1 f' g o' frg ea => ?_, fun ns w => ?_⟩
          · cases f' with
            | zero => exact absurd ea (by simp [sX15_attacks_70])
            | succ f' =>
              obtain ⟨g2, frg2, z1, z2, alt⟩ := one f1 f' g o' frg ea
              rcases alt with ⟨c, _⟩ | ⟨_, o5, e5, alt⟩
              · exact absurd c c4
              · rcases alt with ⟨c, _⟩ | w
                · exact absurd c (w3 ns F g2 o5 frg2 z1 z2 e5)
                · exact w
          · rcases w with w | w
            · exact absurd w cf
            · exact absurd w1 w
    obtain ⟨w1, w2, w3⟩ := inn _ F fr e n1
    refine ⟨w1, fun ns f' g o' frg ea => ?_⟩
    cases f' with
    | zero => exact absurd ea (by simp [sX15_attacks_9])
    | succ f' =>
      unfold sX15_attacks_9 sX15_attacks_113 at ea
      simp only [nm] at ea
      replace ea := cl_s ea; obtain ⟨R', p, ea⟩ := ea
      rw [fqE 4 frg rx] at p
      have := r_eq eR p; subst this
      replace ea := cl_s ea; obtain ⟨St', p, ea⟩ := ea
      rw [fqE 4 frg rR] at p
      have := r_eq eSt p; subst this
      replace ea := (gd_s ea).2
      replace ea := br_s ea; rcases ea with ⟨c, _⟩ | ⟨_, ea⟩
      · rw [kSt frg] at c; exact absurd c c1
      replace ea := cl_s ea; obtain ⟨R', p, ea⟩ := ea
      rw [fqE 4 frg rx] at p
      have := r_eq eR p; subst this
      replace ea := cl_s ea; obtain ⟨Fl', p, ea⟩ := ea
      rw [fqE 5 frg rR] at p
      have := r_eq eFl p; subst this
      replace ea := (gd_s ea).2
      rw [kFl frg] at ea
      replace ea := br_s ea; rcases ea with ⟨c, ea⟩ | ⟨c, ea⟩
      · replace ea := cl_s ea; obtain ⟨o11, e11, ea⟩ := ea
        unfold sX15_sideOf at e11
        have := Option.some.inj e11; subst this
        dsimp only at ea
        rw [← es] at ea
        replace ea := cl_s ea; obtain ⟨o12, e12, ea⟩ := ea
        have v12 := fm_val (fqR frg rx eR) (fqR frg rR eFm) e12
        rw [kFm frg, k11 frg, k12 frg] at v12
        subst v12
        dsimp only at ea
        replace ea := br_s ea; rcases ea with ⟨cf, ea⟩ | ⟨cf, ea⟩
        · exact w3 ns (Or.inl cf) f' g o' frg ea
        · exact w2 ns cf c f' F g o' frg ea
      · exact w3 ns (Or.inr c) f' g o' frg ea
end
