section
/-! all moves that are tried fit their board -/
section
variable {ρ : Nat → Nat} {c : Cm} {h o g h0 : Hp} {x0 l b S Fa Ct M F P R A B Ri : Nat} {sd s q : Int32} {np : Int}
/-- what attacks read -/
def AP (ρ : Nat → Nat) (x0 R A B : Nat) (h : Hp) : Prop := (hR h x0 4 = some R ∧ hR h R 6 = some A ∧ hR h R 7 = some B) ∧ (ρ x0 = 16 ∧ ρ A = 76 ∧ ρ B = 77) ∧ (∀ i, Rg (-7) 7 (hI h A i)) ∧ (∀ i, Rg (-7) 7 (hI h B i))
theorem ap_k (k : TF 3 ρ x0 l h o) (Q : AP ρ x0 R A B h) : AP ρ x0 R A B o := by
  obtain ⟨⟨a1, a2, a3⟩, ⟨b1, b2, b3⟩, c1, c2⟩ := Q
  have kI : ∀ {a q : Nat} (i : Nat), ρ a = q → q ≠ 16 → hI o a i = hI h a i := fun {a q} i ra n => k.2.2.2 a i (Or.inl rfl) (Or.inl (by decide)) (Or.inl rfl) (fun z => n (by rw [← ra, z.1]; exact b1))
  exact ⟨⟨by rw [k.1]; exact a1, by rw [k.1]; exact a2, by rw [k.1]; exact a3⟩, ⟨b1, b2, b3⟩, fun i => by rw [kI i b2 (by decide)]; exact c1 i, fun i => by rw [kI i b3 (by decide)]; exact c2 i⟩
theorem ap_of (Q : TP ρ x0 b S Fa Ct M P R A B Ri np h) : AP ρ x0 R A B h := by
  obtain ⟨⟨a1, a2, a3, a4, a5, a6, a7, a8, a9⟩, ⟨b1, b2, b3, b4, b5, b6, b7, b8, b9, b10, b11⟩, c1, c2, c3, c4, c5, c6⟩ := Q
  exact ⟨⟨a6, a7, a8⟩, ⟨b1, b9, b10⟩, c1, c2⟩
theorem hv_z {st d : Int32} {o : Int32 × Hp} (Q : AP ρ x0 R A B h) (e : sX15_hasVector h x0 st d sd = some o) : TF 3 ρ x0 l h o.2 := by
  obtain ⟨⟨a6, a7, a8⟩, _, c1, c2⟩ := Q
  obtain ⟨d1, d2, w, _, _⟩ := hv_post a6 a7 a8 c1 c2 e
  rw [w]
  exact tf_t (tf_w (Or.inr (Or.inr (Or.inr ⟨rfl, Or.inl rfl⟩)))) (tf_w (Or.inr (Or.inr (Or.inr ⟨rfl, Or.inr rfl⟩))))
theorem at_z {b' : Nat} {v m : Int32} : ∀ (f : Nat) {g : Hp} {i : Int32} {o' : Int32 × Hp}, AP ρ x0 R A B g → sX15_attacks_9 F f g x0 b' s v q m i = some o' → TF 3 ρ x0 l g o'.2 := by
  intro f
  induction f with
  | zero => intro g i o' _ e; exact absurd e (by simp [sX15_attacks_9])
  | succ f ih =>
    intro g i o' Q e
    unfold sX15_attacks_9 at e
    simp only [nm] at e
    replace e := cl_s e; obtain ⟨_, _, e⟩ := e
    replace e := cl_s e; obtain ⟨_, _, e⟩ := e
    replace e := (gd_s e).2
    replace e := br_s e; rcases e with ⟨_, e⟩ | ⟨_, e⟩
    · rw [← Option.some.inj e]; exact tf_0
    replace e := cl_s e; obtain ⟨_, _, e⟩ := e
    replace e := cl_s e; obtain ⟨_, _, e⟩ := e
    replace e := (gd_s e).2
    have inn : ∀ (ff : Nat) {g : Hp} {i st d : Int32}, AP ρ x0 R A B g → sX15_attacks_70 F (sX15_attacks_9 F f) ff g x0 b' s v q m i st d = some o' → TF 3 ρ x0 l g o'.2 := by
      intro ff
      induction ff with
      | zero => intro g i st d _ e; exact absurd e (by simp [sX15_attacks_70])
      | succ ff ih2 =>
        intro g i st d Q e
        unfold sX15_attacks_70 sX15_attacks_113 sX15_attacks_107 at e
        simp only [nm] at e
        replace e := br_s e; rcases e with ⟨_, e⟩ | ⟨_, e⟩
        · exact ih Q e
        replace e := cl_s e; obtain ⟨o2, e2, e⟩ := e
        unfold sX15_sideOf at e2
        have := Option.some.inj e2; subst this
        dsimp only at e
        replace e := cl_s e; obtain ⟨o3, e3, e⟩ := e
        have k3 : TF 3 ρ x0 l g o3.2 := hv_z Q e3
        have Q3 := ap_k k3 Q
        replace e := br_s e; rcases e with ⟨_, e⟩ | ⟨_, e⟩
        · exact tf_t k3 (ih2 Q3 e)
        replace e := cl_s e; obtain ⟨o5, e5, e⟩ := e
        have v5 : o5.2 = o3.2 := by unfold sX15_reaches at e5; exact rch_fr F e5
        rw [v5] at e
        replace e := br_s e; rcases e with ⟨_, e⟩ | ⟨_, e⟩
        · exact tf_t k3 (ih2 Q3 e)
        · rw [← Option.some.inj e]; exact k3
    replace e := br_s e; rcases e with ⟨_, e⟩ | ⟨_, e⟩
    · replace e := cl_s e; obtain ⟨o11, e11, e⟩ := e
      unfold sX15_sideOf at e11
      have := Option.some.inj e11; subst this
      dsimp only at e
      replace e := cl_s e; obtain ⟨o12, e12, e⟩ := e
      have := from_post e12
      rw [this] at e
      unfold sX15_attacks_113 at e
      simp only [nm] at e
      replace e := br_s e; rcases e with ⟨_, e⟩ | ⟨_, e⟩
      · exact ih Q e
      · exact inn F Q e
    · unfold sX15_attacks_113 at e
      simp only [nm] at e
      exact ih Q e
theorem isa_z {b' : Nat} {y : Int32} : ∀ (f : Nat) {g : Hp} {x4 : Int32} {o' : Int32 × Hp}, AP ρ x0 R A B g → sX15_isAttacked_3 F f g x0 b' q y x4 = some o' → TF 3 ρ x0 l g o'.2 := by
  intro f
  induction f with
  | zero => intro g x4 o' _ e; exact absurd e (by simp [sX15_isAttacked_3])
  | succ f ih =>
    intro g x4 o' Q e
    unfold sX15_isAttacked_3 sX15_isAttacked_56 at e
    simp only [nm] at e
    replace e := br_s e; rcases e with ⟨_, e⟩ | ⟨_, e⟩
    · rw [← Option.some.inj e]; exact tf_0
    replace e := cl_s e; obtain ⟨_, _, e⟩ := e
    replace e := (gd_s e).2
    replace e := br_s e; rcases e with ⟨_, e⟩ | ⟨_, e⟩
    · exact ih Q e
    replace e := cl_s e; obtain ⟨o6, e6, e⟩ := e
    unfold sX15_sideOf at e6
    have := Option.some.inj e6; subst this
    dsimp only at e
    replace e := br_s e; rcases e with ⟨_, e⟩ | ⟨_, e⟩
    · replace e := br_s e; rcases e with ⟨_, e⟩ | ⟨_, e⟩
      · exact ih Q e
      replace e := cl_s e; obtain ⟨o9, e9, e⟩ := e
      have k9 : TF 3 ρ x0 l g o9.2 := by
        unfold sX15_attacks at e9
        replace e9 := cl_s e9; obtain ⟨o1, e1, e9⟩ := e9
        unfold sX15_manOf at e1
        have := Option.some.inj e1; subst this
        exact at_z F Q e9
      replace e := br_s e; rcases e with ⟨_, e⟩ | ⟨_, e⟩
      · exact tf_t k9 (ih (ap_k k9 Q) e)
      · rw [← Option.some.inj e]; exact k9
    · exact ih Q e
theorem ias_z {b' : Nat} {y : Int32} {o' : Int32 × Hp} (Q : AP ρ x0 R A B g) (e : sX15_isAttacked F g x0 b' q y = some o') : TF 3 ρ x0 l g o'.2 := by
  unfold sX15_isAttacked at e
  exact isa_z F Q e
theorem isop_h {x2 x3 x : Int32} {o : Int32 × Hp} (e : sX15_isOpen F h b x x2 x3 = some o) : o.2 = h := by
  have lp : ∀ (f : Nat) {x4 : Int32}, sX15_isOpen_5 F f h b x2 x3 x4 = some o → o.2 = h := by
    intro f
    induction f with
    | zero => intro x4 e; exact absurd e (by simp [sX15_isOpen_5])
    | succ f ih =>
      intro x4 e
      unfold sX15_isOpen_5 at e
      simp only [nm] at e
      replace e := br_s e; rcases e with ⟨_, e⟩ | ⟨_, e⟩
      · rw [← Option.some.inj e]
      replace e := cl_s e; obtain ⟨_, _, e⟩ := e
      replace e := (gd_s e).2
      replace e := br_s e; rcases e with ⟨_, e⟩ | ⟨_, e⟩
      · exact ih e
      · rw [← Option.some.inj e]
  unfold sX15_isOpen at e
  simp only [nm] at e
  exact lp F e
/-- what is carried while moves of one man are tried -/
def TZ (ρ : Nat → Nat) (x0 l b S Fa Ct M P R A B Ri lf lt lm lb lx lk lo : Nat) (gg : Nat → Int32) (sd : Int32) (np : Int) (h : Hp) : Prop := TP ρ x0 b S Fa Ct M P R A B Ri np h ∧ LPz ρ l lf lt lm lb lx lk lo h ∧ L2 l lf lt lx lk lo gg sd np h ∧ (∀ i, hI h M i = gg i) ∧ hI h b 1 = sd ∧ (hI h x0 13).toInt ≤ 64
variable {lf lt lm lb lx lk lo : Nat} {gg : Nat → Int32}
theorem tz_k {z : Nat} (k : TF z ρ x0 l h o) (L : L2 l lf lt lx lk lo gg sd np o) (Q : TZ ρ x0 l b S Fa Ct M P R A B Ri lf lt lm lb lx lk lo gg sd np h) : TZ ρ x0 l b S Fa Ct M P R A B Ri lf lt lm lb lx lk lo gg sd np o := by
  obtain ⟨q1, q2, _, q4, q5, q6⟩ := Q
  have rl := q2.2.1.1
  have kI : ∀ {a q : Nat} (i : Nat), ρ a = q → ¬ (66 ≤ q ∧ q ≤ 72) → ¬ (87 ≤ q ∧ q ≤ 89) → q ≠ 14 → q ≠ 16 → hI o a i = hI h a i := fun {a q} i ra n1 n2 n3 n4 => k.2.2.2 a i (Or.inr (by rw [ra]; exact n1)) (Or.inr (by rw [ra]; exact n2)) (Or.inr (fun z => n3 (by rw [← ra, z.1]; exact rl))) (fun z => n4 (by rw [← ra, z.1]; exact q1.2.1.1))
  have e13 : hI o x0 13 = hI h x0 13 := k.2.2.2 x0 13 (Or.inr (by rw [q1.2.1.1]; decide)) (Or.inr (by rw [q1.2.1.1]; decide)) (Or.inr (fun z => by rw [← z.1, q1.2.1.1] at rl; exact absurd rl (by decide))) (fun z => by rcases z.2 with w | w <;> exact absurd w (by decide))
  exact ⟨tp_k rl k q1, lp_k k.1 k.2.2.1 q2, L, fun i => by rw [kI i q1.2.1.2.2.2.2.2.1 (by decide) (by decide) (by decide) (by decide)]; exact q4 i, by rw [kI 1 q1.2.1.2.1 (by decide) (by decide) (by decide) (by decide)]; exact q5, by rw [e13]; exact q6⟩
theorem l2_k (Q : LPz ρ l lf lt lm lb lx lk lo h) (r0 : ρ x0 = 16) (k : ∀ a i, 66 ≤ ρ a ∧ ρ a ≤ 72 ∨ (a = l ∧ i = 0) → hI o a i = hI h a i) (L : L2 l lf lt lx lk lo gg sd np h) : L2 l lf lt lx lk lo gg sd np o := fun i hi => by
  obtain ⟨_, ⟨b1, b2, b3, b4, b5, b6, b7, b8⟩, _⟩ := Q
  rw [k l 0 (Or.inr ⟨rfl, rfl⟩)] at hi
  rw [k lf i (Or.inl (by rw [b2]; decide)), k lt i (Or.inl (by rw [b3]; decide)), k lx i (Or.inl (by rw [b6]; decide)), k lk i (Or.inl (by rw [b7]; decide)), k lo i (Or.inl (by rw [b8]; decide))]
  exact L i hi
theorem lds_k {sq : Int} (Q : TP ρ x0 b S Fa Ct M P R A B Ri np h) (rl : ρ l = 14) (k : TF 2 ρ x0 l h o) (L : LdS S Fa Ct M sd sq np h) : LdS S Fa Ct M sd sq np o := fun t h1 h2 => by
  obtain ⟨_, ⟨b1, b2, b3, b4, b5, b6, b7, b8, b9, b10, b11⟩, _⟩ := Q
  have kI : ∀ {a q : Nat} (i : Nat), ρ a = q → ¬ (66 ≤ q ∧ q ≤ 72) → q ≠ 14 → q ≠ 16 → hI o a i = hI h a i := fun {a q} i ra n1 n3 n4 => k.2.2.2 a i (Or.inr (by rw [ra]; exact n1)) (Or.inl (Nat.le_refl 2)) (Or.inr (fun z => n3 (by rw [← ra, z.1]; exact rl))) (fun z => n4 (by rw [← ra, z.1]; exact b1))
  rw [kI t b3 (by decide) (by decide) (by decide)] at h2
  rw [kI t b6 (by decide) (by decide) (by decide), kI t b5 (by decide) (by decide) (by decide), kI t b4 (by decide) (by decide) (by decide)]
  exact L t h1 h2
/-- attacks keep the list -/
theorem l2_3 {z : Nat} (hz : z % 3 = 0) (Q : LPz ρ l lf lt lm lb lx lk lo h) (r0 : ρ x0 = 16) (k : TF z ρ x0 l h o) (L : L2 l lf lt lx lk lo gg sd np h) : L2 l lf lt lx lk lo gg sd np o := by
  have rl := Q.2.1.1
  refine l2_k Q r0 (fun a i w => k.2.2.2 a i (Or.inl hz) (Or.inr ?_) (Or.inl hz) (fun z => ?_)) L
  · rcases w with w | w
    · omega
    · rw [w.1, rl]; decide
  · rcases w with w | w
    · rw [z.1, r0] at w; omega
    · rw [← w.1, z.1, r0] at rl; exact absurd rl (by decide)
theorem isa_l {y : Int32} {b' : Nat} {o' : Int32 × Hp} (Q : TZ ρ x0 l b S Fa Ct M P R A B Ri lf lt lm lb lx lk lo gg sd np g) (e : sX15_isAttacked F g x0 b' q y = some o') : TF 3 ρ x0 l g o'.2 ∧ TZ ρ x0 l b S Fa Ct M P R A B Ri lf lt lm lb lx lk lo gg sd np o'.2 := by
  have k := ias_z (l := l) (ap_of Q.1) e
  exact ⟨k, tz_k k (l2_3 rfl Q.2.1 Q.1.2.1.1 k Q.2.2.1) Q⟩
theorem add_t {f t m bc tk k mo : Int32} (Q : TZ ρ x0 l b S Fa Ct M P R A B Ri lf lt lm lb lx lk lo gg sd np h) (E : E2 gg sd np f t tk k mo) (e : sX13_add h l f t m bc tk k mo = some o) : TF 2 ρ x0 l h o ∧ TZ ρ x0 l b S Fa Ct M P R A B Ri lf lt lm lb lx lk lo gg sd np o := by
  obtain ⟨k, L⟩ := add_z (x0 := x0) Q.2.1 Q.2.2.1 E e
  exact ⟨k, tz_k k L Q⟩
/-- castling -/
theorem cas_z {t : Int32} (hs : Rg 0 63 s) (ms : 0 < (gg s.toNatClampNeg).toInt ∧ (gg s.toNatClampNeg - (1 : Int32)) &&& (1 : Int32) = sd) (Q : TZ ρ x0 l b S Fa Ct M P R A B Ri lf lt lm lb lx lk lo gg sd np h) (e : sX15_tryCastling F h x0 b s t l = some o) : TF 2 ρ x0 l h o ∧ TZ ρ x0 l b S Fa Ct M P R A B Ri lf lt lm lb lx lk lo gg sd np o := by
  have lp : ∀ (w6 : Int32), (w6 = (1 : Int32) ∨ w6 = (-1 : Int32)) → ∀ (f : Nat) {x6 : Int32}, (w6 = (1 : Int32) → s.toInt < x6.toInt) → (w6 = (-1 : Int32) → x6.toInt < s.toInt) → sX15_tryCastling_46 F f h x0 b s t l w6 x6 = some o → TF 2 ρ x0 l h o ∧ TZ ρ x0 l b S Fa Ct M P R A B Ri lf lt lm lb lx lk lo gg sd np o := by
    intro w6 hw f
    induction f with
    | zero => intro x6 _ _ e; exact absurd e (by simp [sX15_tryCastling_46])
    | succ f ih =>
      intro x6 u1 u2 e
      unfold sX15_tryCastling_46 sX15_tryCastling_207 sX15_tryCastling_197 sX15_tryCastling_196 at e
      simp only [nm] at e
      replace e := br_s e; rcases e with ⟨_, e⟩ | ⟨n0, e⟩
      · rw [← Option.some.inj e]; exact ⟨tf_0, Q⟩
      have n0 := nlt_i n0
      have z0 : (0 : Int32).toInt = 0 := rfl
      replace e := br_s e; rcases e with ⟨_, e⟩ | ⟨n1, e⟩
      · rw [← Option.some.inj e]; exact ⟨tf_0, Q⟩
      have n1 := nle_i n1
      have l64 := Q.2.2.2.2.2
      have nx : (w6 = (1 : Int32) → s.toInt < (x6 + w6).toInt) ∧ (w6 = (-1 : Int32) → (x6 + w6).toInt < s.toInt) := by
        have o1 : (1 : Int32).toInt = 1 := rfl
        have o2 : (-1 : Int32).toInt = -1 := rfl
        refine ⟨fun z => ?_, fun z => ?_⟩
        · have := u1 z
          rw [z, ta (by rw [o1]; omega), o1]; omega
        · have := u2 z
          rw [z, ta (by rw [o2]; omega), o2]; omega
      have go := fun e => ih (x6 := x6 + w6) nx.1 nx.2 e
      replace e := (gd_s e).2
      replace e := (gd_s e).2
      replace e := br_s e; rcases e with ⟨_, e⟩ | ⟨_, e⟩
      · replace e := br_s e; rcases e with ⟨_, e⟩ | ⟨_, e⟩
        · replace e := cl_s e; obtain ⟨M', em, e⟩ := e
          have y : M' = M := r_eq Q.1.1.2.2.2.1 em
          subst y
          replace e := (gd_s e).2
          replace e := br_s e; rcases e with ⟨_, e⟩ | ⟨nM, e⟩
          · exact go e
          have mx : 0 < (gg x6.toNatClampNeg).toInt := by
            have := nle_i nM
            rw [Q.2.2.2.1] at this
            exact this
          replace e := cl_s e; obtain ⟨_, _, e⟩ := e
          replace e := (gd_s e).2
          replace e := cl_s e; obtain ⟨o12, e12, e⟩ := e
          unfold sX15_sideOf at e12
          have := Option.some.inj e12; subst this
          dsimp only at e
          replace e := br_s e; rcases e with ⟨_, e⟩ | ⟨_, e⟩
          · replace e := cl_s e; obtain ⟨o14, e14, e⟩ := e
            rw [isop_h e14] at e
            replace e := br_s e; rcases e with ⟨_, e⟩ | ⟨_, e⟩
            · exact go e
            replace e := cl_s e; obtain ⟨o16, e16, e⟩ := e
            obtain ⟨k16, Q16⟩ := isa_l Q e16
            replace e := br_s e; rcases e with ⟨_, e⟩ | ⟨_, e⟩
            · replace e := cl_s e; obtain ⟨o18, e18, e⟩ := e
              obtain ⟨k18, Q18⟩ := isa_l Q16 e18
              replace e := br_s e; rcases e with ⟨_, e⟩ | ⟨_, e⟩
              · replace e := cl_s e; obtain ⟨o20, e20, e⟩ := e
                obtain ⟨k20, Q20⟩ := isa_l Q18 e20
                have kk := tf_t (tf_t k16 k18) k20
                replace e := br_s e; rcases e with ⟨_, e⟩ | ⟨_, e⟩
                · replace e := cl_s e; obtain ⟨_, _, e⟩ := e
                  replace e := cl_s e; obtain ⟨o23, e23, e⟩ := e
                  have E : E2 gg sd np s t (-1 : Int32) (2 : Int32) x6 := by
                    refine ⟨fun z => absurd rfl z, fun z => absurd z (by decide), fun _ => ⟨fun z => ?_, mx⟩, fun z => ?_, fun _ => ms⟩
                    · have y1 := nc_i (x := x6) (by omega)
                      have y2 := nc_i (x := s) hs.1
                      rcases hw with hw | hw
                      · have := u1 hw; omega
                      · have := u2 hw; omega
                    · rcases z with z | z <;> exact absurd z (by decide)
                  obtain ⟨k23, Q23⟩ := add_t Q20 E e23
                  rw [← Option.some.inj e]
                  exact ⟨tf_t (tf_3 kk) k23, Q23⟩
                · rw [← Option.some.inj e]; exact ⟨tf_3 kk, Q20⟩
              · rw [← Option.some.inj e]; exact ⟨tf_3 (tf_t k16 k18), Q18⟩
            · rw [← Option.some.inj e]; exact ⟨tf_3 k16, Q16⟩
          · exact go e
        · exact go e
      · rw [← Option.some.inj e]; exact ⟨tf_0, Q⟩
  have o3 : ((3 : Int32) * (1 : Int32)).toInt = 3 := rfl
  have o4 : ((3 : Int32) * (-1 : Int32)).toInt = -3 := rfl
  have hs' := hs
  obtain ⟨h1, h2⟩ := hs
  unfold sX15_tryCastling sX15_tryCastling_25 sX15_tryCastling_36 at e
  simp only [nm] at e
  replace e := (gd_s e).2
  replace e := (gd_s e).2
  replace e := br_s e; rcases e with ⟨_, e⟩ | ⟨_, e⟩
  · replace e := br_s e; rcases e with ⟨_, e⟩ | ⟨_, e⟩
    · replace e := br_s e; rcases e with ⟨_, e⟩ | ⟨_, e⟩
      · refine lp _ (Or.inr rfl) F (fun z => absurd z (by decide)) (fun _ => ?_) e
        rw [ta (by rw [o4]; omega), o4]; omega
      · refine lp _ (Or.inl rfl) F (fun _ => ?_) (fun z => absurd z (by decide)) e
        rw [ta (by rw [o3]; omega), o3]; omega
    · rw [← Option.some.inj e]; exact ⟨tf_0, Q⟩
  · rw [← Option.some.inj e]; exact ⟨tf_0, Q⟩
/-- steps -/
theorem ts_z {t m : Int32} {sq : Int} (ht : 0 ≤ t.toInt ∧ t.toInt < sq) (ms : 0 < (gg s.toNatClampNeg).toInt ∧ (gg s.toNatClampNeg - (1 : Int32)) &&& (1 : Int32) = sd) (Q : TZ ρ x0 l b S Fa Ct M P R A B Ri lf lt lm lb lx lk lo gg sd np h) (D : LdS S Fa Ct M sd sq np h) (e : sX15_trySteps F h x0 b s t m l = some o) : TF 2 ρ x0 l h o ∧ TZ ρ x0 l b S Fa Ct M P R A B Ri lf lt lm lb lx lk lo gg sd np o := by
  have nt := nc_i (x := t) ht.1
  have b207 : ∀ {g : Hp} {tk mo k : Int32}, TF 2 ρ x0 l h g ∧ TZ ρ x0 l b S Fa Ct M P R A B Ri lf lt lm lb lx lk lo gg sd np g → E2 gg sd np s t tk k mo → sX15_trySteps_207 F g s t m l tk mo k = some o → TF 2 ρ x0 l h o ∧ TZ ρ x0 l b S Fa Ct M P R A B Ri lf lt lm lb lx lk lo gg sd np o := by
    intro g tk mo k i0 E e
    unfold sX15_trySteps_207 sX15_trySteps_223 at e
    replace e := cl_s e; obtain ⟨g2, e8, e⟩ := e
    rw [← Option.some.inj e]
    obtain ⟨k2, Q2⟩ := add_t i0.2 E e8
    exact ⟨tf_t i0.1 k2, Q2⟩
  have loop : ∀ (tk mo k : Int32), E2 gg sd np s t tk k mo → ∀ (f : Nat) {g : Hp} {x9 : Int32}, TF 2 ρ x0 l h g ∧ TZ ρ x0 l b S Fa Ct M P R A B Ri lf lt lm lb lx lk lo gg sd np g → sX15_trySteps_152 F f g x0 s t m l tk mo k x9 = some o → TF 2 ρ x0 l h o ∧ TZ ρ x0 l b S Fa Ct M P R A B Ri lf lt lm lb lx lk lo gg sd np o := by
    intro tk mo k E f
    induction f with
    | zero => intro g x9 _ e; exact absurd e (by simp [sX15_trySteps_152])
    | succ f ih =>
      intro g x9 i0 e
      unfold sX15_trySteps_152 sX15_trySteps_223 at e
      simp only [nm] at e
      replace e := cl_s e; obtain ⟨_, _, e⟩ := e
      replace e := cl_s e; obtain ⟨_, _, e⟩ := e
      replace e := (gd_s e).2
      replace e := br_s e; rcases e with ⟨_, e⟩ | ⟨_, e⟩
      · rw [← Option.some.inj e]; exact i0
      replace e := cl_s e; obtain ⟨_, _, e⟩ := e
      replace e := cl_s e; obtain ⟨_, _, e⟩ := e
      replace e := (gd_s e).2
      replace e := cl_s e; obtain ⟨g2, e8, e⟩ := e
      obtain ⟨k2, Q2⟩ := add_t i0.2 E e8
      exact ih ⟨tf_t i0.1 k2, Q2⟩ e
  have b106 : ∀ {tk mo k : Int32}, E2 gg sd np s t tk k mo → sX15_trySteps_106 F h x0 b s t m l tk mo k = some o → TF 2 ρ x0 l h o ∧ TZ ρ x0 l b S Fa Ct M P R A B Ri lf lt lm lb lx lk lo gg sd np o := by
    intro tk mo k E e
    unfold sX15_trySteps_106 sX15_trySteps_149 at e
    replace e := cl_s e; obtain ⟨o1, e1, e⟩ := e
    rw [oth_post e1] at e
    replace e := br_s e; rcases e with ⟨_, e⟩ | ⟨_, e⟩
    · exact b207 ⟨tf_0, Q⟩ E e
    replace e := cl_s e; obtain ⟨o3, e3, e⟩ := e
    rw [(rank_post e3).1] at e
    replace e := br_s e; rcases e with ⟨_, e⟩ | ⟨_, e⟩
    · replace e := cl_s e; obtain ⟨_, _, e⟩ := e
      replace e := br_s e; rcases e with ⟨_, e⟩ | ⟨_, e⟩
      · exact loop _ _ _ E F ⟨tf_0, Q⟩ e
      replace e := br_s e; rcases e with ⟨_, e⟩ | ⟨_, e⟩
      · exact loop _ _ _ E F ⟨tf_0, Q⟩ e
      · exact b207 ⟨tf_0, Q⟩ E e
    · exact b207 ⟨tf_0, Q⟩ E e
  have fits : ∀ {tk mo k : Int32}, 0 ≤ (hI h S t.toNatClampNeg).toInt → mo.toInt ≤ 8 → ((k = (0 : Int32) ∧ hI h Ct t.toNatClampNeg = 0) ∨ (k = (1 : Int32) ∧ ¬ hI h Ct t.toNatClampNeg = 0)) → (hI h Ct t.toNatClampNeg = 0 → tk = (-1 : Int32) ∨ 0 < (gg t.toNatClampNeg).toInt) → E2 gg sd np s t tk k mo := by
    intro tk mo k s0 m8 kc tc
    obtain ⟨d1, d2, d3⟩ := D t.toNatClampNeg (by omega) s0
    rw [Q.2.2.2.1] at d1
    refine ⟨fun z1 z2 => ?_, fun z => ?_, fun z => ?_, fun _ => m8, fun _ => ms⟩
    · rcases kc with ⟨k0, c0⟩ | ⟨k1, _⟩
      · refine ⟨k0, (tc c0).resolve_left z1, fun z => ?_⟩
        rw [z] at d1
        rcases d1 with d1 | d1
        · have z0 : (0 : Int32).toInt = 0 := rfl
          omega
        · exact d1 ms.2
      · exact absurd k1 z2
    · rcases kc with ⟨k0, _⟩ | ⟨_, c1⟩
      · rw [k0] at z; exact absurd z (by decide)
      · exact d2 c1
    · rcases kc with ⟨k0, _⟩ | ⟨k1, _⟩
      · rw [k0] at z; exact absurd z (by decide)
      · rw [k1] at z; exact absurd z (by decide)
  have b90 : ∀ {tk mo : Int32}, 0 ≤ (hI h S t.toNatClampNeg).toInt → mo.toInt ≤ 8 → (hI h Ct t.toNatClampNeg = 0 → tk = (-1 : Int32) ∨ 0 < (gg t.toNatClampNeg).toInt) → sX15_trySteps_90 F h x0 b s t m l tk mo = some o → TF 2 ρ x0 l h o ∧ TZ ρ x0 l b S Fa Ct M P R A B Ri lf lt lm lb lx lk lo gg sd np o := by
    intro tk mo s0 m8 tc e
    unfold sX15_trySteps_90 at e
    replace e := cl_s e; obtain ⟨Ct', ec, e⟩ := e
    have y : Ct' = Ct := r_eq Q.1.1.2.2.1 ec
    subst y
    replace e := (gd_s e).2
    replace e := br_s e; rcases e with ⟨cz, e⟩ | ⟨cz, e⟩
    · exact b106 (fits s0 m8 (Or.inl ⟨rfl, cz⟩) tc) e
    · exact b106 (fits s0 m8 (Or.inr ⟨rfl, cz⟩) tc) e
  have b48 : ∀ {tk : Int32}, (hI h Ct t.toNatClampNeg = 0 → tk = (-1 : Int32) ∨ 0 < (gg t.toNatClampNeg).toInt) → sX15_trySteps_48 F h x0 b s t m l tk = some o → TF 2 ρ x0 l h o ∧ TZ ρ x0 l b S Fa Ct M P R A B Ri lf lt lm lb lx lk lo gg sd np o := by
    intro tk tc e
    unfold sX15_trySteps_48 sX15_trySteps_89 at e
    replace e := cl_s e; obtain ⟨_, _, e⟩ := e
    replace e := cl_s e; obtain ⟨_, _, e⟩ := e
    replace e := cl_s e; obtain ⟨S', es, e⟩ := e
    have y : S' = S := r_eq Q.1.1.1 es
    subst y
    replace e := (gd_s e).2
    have s0 := (inb_r (gd_s e).1).1
    have m8 : (0 : Int32).toInt ≤ 8 := by decide
    replace e := (gd_s e).2
    replace e := br_s e; rcases e with ⟨_, e⟩ | ⟨_, e⟩
    · exact b90 s0 m8 tc e
    replace e := cl_s e; obtain ⟨_, _, e⟩ := e
    replace e := (gd_s e).2
    replace e := br_s e; rcases e with ⟨_, e⟩ | ⟨_, e⟩
    · exact b90 s0 m8 tc e
    replace e := cl_s e; obtain ⟨Fa', ef, e⟩ := e
    have y : Fa' = Fa := r_eq Q.1.1.2.1 ef
    subst y
    replace e := (gd_s e).2
    exact b90 s0 (D t.toNatClampNeg (by omega) s0).2.2 tc e
  unfold sX15_trySteps at e
  replace e := cl_s e; obtain ⟨Ct', ec, e⟩ := e
  have y : Ct' = Ct := r_eq Q.1.1.2.2.1 ec
  subst y
  replace e := (gd_s e).2
  replace e := br_s e; rcases e with ⟨_, e⟩ | ⟨cz, e⟩
  · replace e := cl_s e; obtain ⟨M', em, e⟩ := e
    have y : M' = M := r_eq Q.1.1.2.2.2.1 em
    subst y
    replace e := (gd_s e).2
    replace e := br_s e; rcases e with ⟨_, e⟩ | ⟨nm', e⟩
    · exact b48 (fun _ => Or.inl rfl) e
    have mt : 0 < (gg t.toNatClampNeg).toInt := by
      have := nle_i nm'
      rw [Q.2.2.2.1] at this
      exact this
    replace e := cl_s e; obtain ⟨_, _, e⟩ := e
    replace e := (gd_s e).2
    replace e := cl_s e; obtain ⟨o9, e9, e⟩ := e
    unfold sX15_manOf at e9
    have := Option.some.inj e9
    subst this
    exact b48 (fun _ => Or.inr mt) e
  · replace e := cl_s e; obtain ⟨_, _, e⟩ := e
    replace e := cl_s e; obtain ⟨_, _, e⟩ := e
    replace e := (gd_s e).2
    replace e := (gd_s e).2
    replace e := cl_s e; obtain ⟨o9, e9, e⟩ := e
    unfold sX15_manOf at e9
    have := Option.some.inj e9
    subst this
    exact b48 (fun z => absurd z cz) e
end
end
section
/-! tryAll: the moves of its list fit the board -/
section
variable {ρ : Nat → Nat} {c : Cm} {h o g h0 : Hp} {x0 l b S Fa Ct M F P R A B Ri lf lt lm lb lx lk lo : Nat} {gg : Nat → Int32} {sd s q : Int32} {np : Int}
theorem drop_z {K : Hp → Nat → Nat → Nat → Int32 → Option Hp} {x3 : Int32} (hK : ∀ {g : Hp} {y : Int32}, TZ ρ x0 l b S Fa Ct M P R A B Ri lf lt lm lb lx lk lo gg sd np g → K g x0 b l y = some o → TF 1 ρ x0 l g o ∧ TZ ρ x0 l b S Fa Ct M P R A B Ri lf lt lm lb lx lk lo gg sd np o) : ∀ (f : Nat) {h : Hp} {x4 : Int32}, TZ ρ x0 l b S Fa Ct M P R A B Ri lf lt lm lb lx lk lo gg sd np h → sX15_tryAll_143 F K f h x0 b l x3 x4 = some o → TF 1 ρ x0 l h o ∧ TZ ρ x0 l b S Fa Ct M P R A B Ri lf lt lm lb lx lk lo gg sd np o := by
  intro f
  induction f with
  | zero => intro h x4 _ e; exact absurd e (by simp [sX15_tryAll_143])
  | succ f ih =>
    intro h x4 Q e
    unfold sX15_tryAll_143 sX15_tryAll_244 sX15_tryAll_201 sX15_tryAll_197 at e
    simp only [nm] at e
    have t202 : ∀ {t0 : Int32}, sX15_tryAll_202 F K (sX15_tryAll_143 F K f) h x0 b l x3 x4 t0 = some o → TF 1 ρ x0 l h o ∧ TZ ρ x0 l b S Fa Ct M P R A B Ri lf lt lm lb lx lk lo gg sd np o := by
      intro t0 e
      unfold sX15_tryAll_202 sX15_tryAll_238 at e
      simp only [nm] at e
      replace e := cl_s e; obtain ⟨_, _, e⟩ := e
      replace e := (gd_s e).2
      replace e := br_s e; rcases e with ⟨_, e⟩ | ⟨_, e⟩
      · exact ih Q e
      replace e := br_s e; rcases e with ⟨_, e⟩ | ⟨_, e⟩
      · replace e := cl_s e; obtain ⟨o5, e5, e⟩ := e
        have E : E2 gg sd np (-1 : Int32) x3 (-1 : Int32) (3 : Int32) (0 : Int32) := ⟨fun z => absurd rfl z, fun z => absurd z (by decide), fun z => absurd z (by decide), fun _ => by decide, fun z => absurd rfl z⟩
        obtain ⟨k5, Q5⟩ := add_t Q E e5
        obtain ⟨k6, Q6⟩ := ih Q5 e
        exact ⟨tf_t (tf_1 k5) k6, Q6⟩
      · exact ih Q e
    replace e := cl_s e; obtain ⟨_, _, e⟩ := e
    replace e := br_s e; rcases e with ⟨_, e⟩ | ⟨_, e⟩
    · exact hK Q e
    replace e := cl_s e; obtain ⟨_, _, e⟩ := e
    replace e := (gd_s e).2
    replace e := br_s e; rcases e with ⟨_, e⟩ | ⟨_, e⟩
    · replace e := cl_s e; obtain ⟨o6, e6, e⟩ := e
      rw [oth_post e6] at e
      replace e := br_s e; rcases e with ⟨_, e⟩ | ⟨_, e⟩
      · exact t202 e
      replace e := (gd_s e).2
      replace e := br_s e; rcases e with ⟨_, e⟩ | ⟨_, e⟩
      · exact t202 e
      replace e := (gd_s e).2
      replace e := br_s e; rcases e with ⟨_, e⟩ | ⟨_, e⟩
      · exact t202 e
      · exact t202 e
    · exact hK Q e
theorem drops_z : ∀ (f : Nat) {h : Hp} {x3 : Int32}, TZ ρ x0 l b S Fa Ct M P R A B Ri lf lt lm lb lx lk lo gg sd np h → sX15_tryAll_122 F f h x0 b l x3 = some o → TF 1 ρ x0 l h o ∧ TZ ρ x0 l b S Fa Ct M P R A B Ri lf lt lm lb lx lk lo gg sd np o := by
  intro f
  induction f with
  | zero => intro h x3 _ e; exact absurd e (by simp [sX15_tryAll_122])
  | succ f ih =>
    intro h x3 Q e
    unfold sX15_tryAll_122 sX15_tryAll_250 at e
    replace e := br_s e; rcases e with ⟨_, e⟩ | ⟨_, e⟩
    · rw [← Option.some.inj e]; exact ⟨tf_0, Q⟩
    replace e := cl_s e; obtain ⟨_, _, e⟩ := e
    replace e := br_s e; rcases e with ⟨_, e⟩ | ⟨_, e⟩
    · rw [← Option.some.inj e]; exact ⟨tf_0, Q⟩
    · exact drop_z (fun Q e => ih Q e) F Q e
theorem tall_z (Q : TZ ρ x0 l b S Fa Ct M P R A B Ri lf lt lm lb lx lk lo gg sd np h) (e : sX15_tryAll F h x0 b l = some o) : TF 1 ρ x0 l h o ∧ TZ ρ x0 l b S Fa Ct M P R A B Ri lf lt lm lb lx lk lo gg sd np o := by
  have z0 : (0 : Int32).toInt = 0 := rfl
  have z1 : (1 : Int32).toInt = 1 := rfl
  have outer : ∀ (f : Nat) {g : Hp} {x3 : Int32}, TZ ρ x0 l b S Fa Ct M P R A B Ri lf lt lm lb lx lk lo gg sd np g → 0 ≤ x3.toInt → sX15_tryAll_7 F f g x0 b l x3 = some o → TF 1 ρ x0 l g o ∧ TZ ρ x0 l b S Fa Ct M P R A B Ri lf lt lm lb lx lk lo gg sd np o := by
    intro f
    induction f with
    | zero => intro g x3 _ _ e; exact absurd e (by simp [sX15_tryAll_7])
    | succ f ih =>
      intro g x3 Q a3 e
      unfold sX15_tryAll_7 sX15_tryAll_114 at e
      simp only [nm] at e
      replace e := br_s e; rcases e with ⟨_, e⟩ | ⟨c3, e⟩
      · exact drops_z F Q e
      have c3 := nle_i c3
      have l64 := Q.2.2.2.2.2
      have ex : (x3 + (1 : Int32)).toInt = x3.toInt + 1 := ta (by rw [z1]; omega)
      replace e := cl_s e; obtain ⟨M', em, e⟩ := e
      have y : M' = M := r_eq Q.1.1.2.2.2.1 em
      subst y
      replace e := (gd_s e).2
      replace e := br_s e; rcases e with ⟨_, e⟩ | ⟨cv, e⟩
      · exact ih Q (by omega) e
      have cv := nle_i cv
      replace e := cl_s e; obtain ⟨o6, e6, e⟩ := e
      unfold sX15_sideOf at e6
      have := Option.some.inj e6; subst this
      dsimp only at e
      replace e := br_s e; rcases e with ⟨cs, e⟩ | ⟨_, e⟩
      · replace e := cl_s e; obtain ⟨o8, e8, e⟩ := e
        have rl := Q.2.1.2.1.1
        obtain ⟨k8, D8⟩ := lead_z (l := l) rl Q.1 l64 e8
        have L8 := l2_3 rfl Q.2.1 Q.1.2.1.1 k8 Q.2.2.1
        have Q8 := tz_k k8 L8 Q
        rw [Q.2.2.2.1] at cv cs D8 e
        rw [Q.2.2.2.2.1] at cs
        rw [cs] at D8
        obtain ⟨sq, hsq⟩ : ∃ sq, sq = (hI g x0 13).toInt := ⟨_, rfl⟩
        rw [← hsq] at D8 c3 l64
        have e13 : (hI o8 x0 13).toInt = sq := by
          rw [hsq, k8.2.2.2 x0 13 (Or.inl rfl) (Or.inr (by rw [Q.1.2.1.1]; decide)) (Or.inl rfl) (fun z => by rcases z.2 with w | w <;> exact absurd w (by decide))]
        have inner : ∀ (ff : Nat) {g : Hp} {x5 : Int32}, TZ ρ x0 l b S Fa Ct M' P R A B Ri lf lt lm lb lx lk lo gg sd np g → LdS S Fa Ct M' sd sq np g → (hI g x0 13).toInt = sq → 0 ≤ x5.toInt → sX15_tryAll_50 F (sX15_tryAll_7 F f) ff g x0 b l x3 (gg x3.toNatClampNeg) x5 = some o → TF 1 ρ x0 l g o ∧ TZ ρ x0 l b S Fa Ct M' P R A B Ri lf lt lm lb lx lk lo gg sd np o := by
          intro ff
          induction ff with
          | zero => intro g x5 _ _ _ _ e; exact absurd e (by simp [sX15_tryAll_50])
          | succ ff ih2 =>
            intro g x5 Q D hq a5 e
            unfold sX15_tryAll_50 sX15_tryAll_114 at e
            simp only [nm] at e
            replace e := br_s e; rcases e with ⟨_, e⟩ | ⟨c5, e⟩
            · exact ih Q (by omega) e
            have c5 := nle_i c5
            have ex5 : (x5 + (1 : Int32)).toInt = x5.toInt + 1 := ta (by rw [z1]; omega)
            have r0 := Q.1.2.1.1
            have rl := Q.2.1.2.1.1
            have k13 : ∀ {g o : Hp}, TF 2 ρ x0 l g o → (hI g x0 13).toInt = sq → (hI o x0 13).toInt = sq := fun {g o} k w => by
              rw [k.2.2.2 x0 13 (Or.inr (by rw [r0]; decide)) (Or.inl (Nat.le_refl 2)) (Or.inr (fun z => by rw [← z.1, r0] at rl; exact absurd rl (by decide))) (fun z => by rcases z.2 with w | w <;> exact absurd w (by decide))]; exact w
            have t84 : ∀ {g' : Hp}, TF 2 ρ x0 l g g' → TZ ρ x0 l b S Fa Ct M' P R A B Ri lf lt lm lb lx lk lo gg sd np g' → sX15_tryAll_84 F (sX15_tryAll_7 F f) (sX15_tryAll_50 F (sX15_tryAll_7 F f) ff) g' x0 b l x3 (gg x3.toNatClampNeg) x5 = some o → TF 1 ρ x0 l g o ∧ TZ ρ x0 l b S Fa Ct M' P R A B Ri lf lt lm lb lx lk lo gg sd np o := by
              intro g' k Q' e
              unfold sX15_tryAll_84 sX15_tryAll_108 at e
              simp only [nm] at e
              have D' := lds_k Q.1 rl k D
              have hq' := k13 k hq
              replace e := cl_s e; obtain ⟨o1, e1, e⟩ := e
              unfold sX15_manOf at e1
              have := Option.some.inj e1; subst this
              dsimp only at e
              replace e := cl_s e; obtain ⟨_, _, e⟩ := e
              replace e := br_s e; rcases e with ⟨_, e⟩ | ⟨_, e⟩
              · replace e := cl_s e; obtain ⟨o4, e4, e⟩ := e
                obtain ⟨k4, Q4⟩ := cas_z ⟨a3, by omega⟩ ⟨cv, cs⟩ Q' e4
                obtain ⟨k5, Q5⟩ := ih2 Q4 (lds_k Q'.1 rl k4 D') (k13 k4 hq') (by omega) e
                exact ⟨tf_t (tf_t (tf_1 k) (tf_1 k4)) k5, Q5⟩
              · obtain ⟨k5, Q5⟩ := ih2 Q' D' hq' (by omega) e
                exact ⟨tf_t (tf_1 k) k5, Q5⟩
            replace e := cl_s e; obtain ⟨_, _, e⟩ := e
            replace e := (gd_s e).2
            replace e := br_s e; rcases e with ⟨_, e⟩ | ⟨_, e⟩
            · exact t84 tf_0 Q e
            replace e := cl_s e; obtain ⟨o5, e5, e⟩ := e
            unfold sX15_manOf at e5
            have := Option.some.inj e5; subst this
            dsimp only at e
            replace e := cl_s e; obtain ⟨o6, e6, e⟩ := e
            obtain ⟨k6, Q6⟩ := ts_z (sq := sq) ⟨a5, by omega⟩ ⟨cv, cs⟩ Q D e6
            exact t84 k6 Q6 e
        obtain ⟨k9, Q9⟩ := inner F Q8 D8 e13 (by decide) e
        exact ⟨tf_t (tf_1 k8) k9, Q9⟩
      · exact ih Q (by omega) e
  unfold sX15_tryAll at e
  simp only [nm] at e
  have k1 : TF 1 ρ x0 l h (wI h l 0 (0 : Int32)) := tf_w (Or.inr (Or.inr (Or.inl ⟨by decide, rfl, rfl⟩)))
  obtain ⟨k2, Q2⟩ := outer F (tz_k k1 (fun i hi => by
    rw [r_I, if_pos ⟨rfl, rfl⟩] at hi
    exact absurd hi (by show ¬ (i : Int) < 0; omega)) Q) (by decide) e
  exact ⟨tf_t k1 k2, Q2⟩
end
end
section
/-! men on the board and in hand, counted -/
def mC (g : Nat → Int32) : Nat → Int
  | 0 => 0
  | n + 1 => mC g n + if 0 < (g n).toInt then 1 else 0
theorem mc_0 (g : Nat → Int32) : ∀ n, 0 ≤ mC g n := by
  intro n
  induction n with
  | zero => exact Int.le_refl _
  | succ n ih => rw [mC]; split <;> omega
theorem mc_le (g : Nat → Int32) : ∀ n, mC g n ≤ n := by
  intro n
  induction n with
  | zero => exact Int.le_refl _
  | succ n ih => rw [mC]; split <;> omega
theorem mc_eq {g g' : Nat → Int32} : ∀ n, (∀ i, i < n → g' i = g i) → mC g' n = mC g n := by
  intro n
  induction n with
  | zero => intro _; rfl
  | succ n ih => intro h; rw [mC, mC, ih (fun i hi => h i (by omega)), h n (by omega)]
theorem mc_up {g g' : Nat → Int32} {q : Nat} : ∀ n, q < n → (∀ i, i < n → ¬ i = q → g' i = g i) → mC g' n = mC g n - (if 0 < (g q).toInt then 1 else 0) + (if 0 < (g' q).toInt then 1 else 0) := by
  intro n
  induction n with
  | zero => intro h _; omega
  | succ n ih =>
    intro hq h
    rw [mC, mC]
    by_cases z : q = n
    · rw [mc_eq n (fun i hi => h i (by omega) (by omega)), z]; omega
    · rw [ih (by omega) (fun i hi => h i (by omega)), h n (by omega) (fun w => z w.symm)]; omega
theorem sh_eq {h o : Hp} {H d : Nat} : ∀ n, (∀ i, i < n → hI o H (2 * i + d) = hI h H (2 * i + d)) → sH o H d n = sH h H d n := by
  intro n
  induction n with
  | zero => intro _; rfl
  | succ n ih => intro k; rw [sH, sH, ih (fun i hi => k i (by omega)), k n (by omega)]
theorem sh_eq2 {h o : Hp} {H H' d : Nat} : ∀ n, (∀ i, i < n → hI o H' (2 * i + d) = hI h H (2 * i + d)) → sH o H' d n = sH h H d n := by
  intro n
  induction n with
  | zero => intro _; rfl
  | succ n ih => intro k; rw [sH, sH, ih (fun i hi => k i (by omega)), k n (by omega)]
theorem sh_up {h o : Hp} {H d q : Nat} : ∀ n, q < n → (∀ i, i < n → ¬ i = q → hI o H (2 * i + d) = hI h H (2 * i + d)) → sH o H d n = sH h H d n - (hI h H (2 * q + d)).toInt + (hI o H (2 * q + d)).toInt := by
  intro n
  induction n with
  | zero => intro h _; omega
  | succ n ih =>
    intro hq k
    rw [sH, sH]
    by_cases z : q = n
    · rw [sh_eq n (fun i hi => k i (by omega) (by omega)), z]; omega
    · rw [ih (by omega) (fun i hi => k i (by omega)), k n (by omega) (fun w => z w.symm)]; omega
/-- all men of a board -/
def tot (M H : Nat) (h : Hp) : Int := mC (hI h M) 64 + sH h H 0 12 + sH h H 1 12
theorem tot_M {h o : Hp} {M H q : Nat} {v : Int32} (hq : q < 64) (kH : ∀ i, hI o H i = hI h H i) (kM : ∀ i, hI o M i = if i = q then v else hI h M i) : tot M H o = tot M H h - (if 0 < (hI h M q).toInt then 1 else 0) + (if 0 < v.toInt then 1 else 0) := by
  unfold tot
  rw [sh_eq 12 (fun i _ => kH _), sh_eq 12 (fun i _ => kH _), mc_up (g := hI h M) (q := q) 64 hq (fun i _ n => by rw [kM, if_neg n]), kM q, if_pos rfl]
  omega
theorem tot_H {h o : Hp} {M H j : Nat} {v : Int32} (hj : j < 24) (kM : ∀ i, hI o M i = hI h M i) (kH : ∀ i, hI o H i = if i = j then v else hI h H i) : tot M H o = tot M H h - (hI h H j).toInt + v.toInt := by
  unfold tot
  rw [mc_eq 64 (fun i _ => kM i)]
  obtain ⟨q, hq⟩ : ∃ q, q = j / 2 := ⟨_, rfl⟩
  have ev : hI o H j = v := by rw [kH, if_pos rfl]
  rcases Nat.mod_two_eq_zero_or_one j with z | z
  · have ej : 2 * q + 0 = j := by omega
    rw [sh_up (d := 0) (q := q) (h := h) 12 (by omega) (fun i _ n => by rw [kH, if_neg (by omega)]), sh_eq (h := h) (d := 1) 12 (fun i _ => by rw [kH, if_neg (by omega)]), ej, ev]; omega
  · have ej : 2 * q + 1 = j := by omega
    rw [sh_up (d := 1) (q := q) (h := h) 12 (by omega) (fun i _ n => by rw [kH, if_neg (by omega)]), sh_eq (h := h) (d := 0) 12 (fun i _ => by rw [kH, if_neg (by omega)]), ej, ev]; omega
theorem crt_sub {a b : Int64} : ∀ n, (∀ i, i < n → bitJ b i = true → bitJ a i = true) → cRt b n ≤ cRt a n := by
  intro n
  induction n with
  | zero => intro _; exact Nat.le_refl _
  | succ n ih =>
    intro k
    rw [cRt, cRt]
    have := ih (fun i hi => k i (by omega))
    have kn := k n (by omega)
    cases w : bitJ b n with
    | false => simp; omega
    | true => rw [kn w]; simp; omega
theorem crt_and (a b : Int64) (n : Nat) : cRt (a &&& b) n ≤ cRt a n := crt_sub n (fun i _ w => by
  rw [bj_and] at w
  simp at w
  exact w.1)
/-- a board that can be written: few men, few rights, few squares gone over; who went over them stands on the first -/
def WrE (zq : Nat) (b : Nat) (h : Hp) : Prop := (∀ M H, hR h b 0 = some M → hR h b 5 = some H → tot M H h ≤ 96) ∧ cRt (hJ h b 2) zq ≤ 16 ∧ (hI h b 3).toInt ≤ 8 ∧ (0 < (hI h b 3).toInt → ∀ M P, hR h b 0 = some M → hR h b 4 = some P → 0 < (hI h M (hI h P 0).toNatClampNeg).toInt ∧ ¬ (hI h M (hI h P 0).toNatClampNeg - (1 : Int32)) &&& (1 : Int32) = hI h b 1)
section
variable {zq : Nat} {ρ : Nat → Nat} {c : Cm} {h o h2 : Hp} {x0 x1 b : Nat} {S : Nat → Nat → Nat → Bool}
theorem wr_fr (T : TH ρ c h) (rb : ρ b = 13) (f : Fr ρ (cat c S h) h h2) (s0 : ∀ i, i < 6 → S 13 (cw c b) i = false) (s4 : ∀ i, S 62 (cw c b) i = false) (s5 : ∀ i, S 63 (cw c b) i = false) (s6 : ∀ i, S 64 (cw c b) i = false) (P : WrE zq b h) : WrE zq b h2 := by
  have g : ∀ {a k j : Nat}, ρ a = k → k ≠ 0 → S k (cw c a) j = false → hI h2 a j = hI h a j ∧ hJ h2 a j = hJ h a j ∧ hR h2 a j = hR h a j := fun {a k j} ha hk hs => f.1 a j (by rw [ha]; exact hk) (by rw [ha]; exact hs)
  have g0 : ∀ {j : Nat}, j < 6 → hI h2 b j = hI h b j ∧ hJ h2 b j = hJ h b j ∧ hR h2 b j = hR h b j := fun hj => g rb (by decide) (s0 _ hj)
  obtain ⟨p1, p2, p3, p4⟩ := P
  have kM : ∀ {M i : Nat}, hR h b 0 = some M → hI h2 M i = hI h M i := fun {M i} e => (g (rr T (thR T rb (i := 0) (k2 := 62) rfl (by decide)) e) (by decide) (by rw [th_ih T rb (by decide) e rfl]; exact s4 _)).1
  have kP : ∀ {M i : Nat}, hR h b 4 = some M → hI h2 M i = hI h M i := fun {M i} e => (g (rr T (thR T rb (i := 4) (k2 := 63) rfl (by decide)) e) (by decide) (by rw [th_ih T rb (by decide) e rfl]; exact s5 _)).1
  have kH : ∀ {M i : Nat}, hR h b 5 = some M → hI h2 M i = hI h M i := fun {M i} e => (g (rr T (thR T rb (i := 5) (k2 := 64) rfl (by decide)) e) (by decide) (by rw [th_ih T rb (by decide) e rfl]; exact s6 _)).1
  refine ⟨fun M H e1 e2 => ?_, ?_, ?_, fun n M P e1 e2 => ?_⟩
  · rw [(g0 (by decide)).2.2] at e1 e2
    have := p1 M H e1 e2
    unfold tot at this ⊢
    rw [mc_eq 64 (fun i _ => kM e1), sh_eq 12 (fun i _ => kH e2), sh_eq 12 (fun i _ => kH e2)]
    exact this
  · rw [(g0 (by decide)).2.1]; exact p2
  · rw [(g0 (by decide)).1]; exact p3
  · rw [(g0 (by decide)).2.2] at e1 e2
    rw [(g0 (by decide)).1] at n
    rw [kP e2, kM e1, (g0 (by decide)).1]
    exact p4 n M P e1 e2
/-- what copy does to rights and lengths -/
theorem cpy_j (e : sX12_copy h x0 x1 = some o) : (∀ i, hJ o x0 2 = hJ h x1 2 ∧ (¬ i = 2 → hJ o x0 i = hJ h x0 i)) ∧ (∀ a i, ¬ a = x0 → hJ o a i = hJ h a i) ∧ (∀ a, hN o a = hN h a) := by
  unfold sX12_copy at e
  simp only [nm] at e
  replace e := cl_s e; obtain ⟨_, _, e⟩ := e
  replace e := cl_s e; obtain ⟨_, _, e⟩ := e
  iterate 5 replace e := (gd_s e).2
  replace e := cl_s e; obtain ⟨_, _, e⟩ := e
  replace e := cl_s e; obtain ⟨_, _, e⟩ := e
  iterate 5 replace e := (gd_s e).2
  replace e := cl_s e; obtain ⟨_, _, e⟩ := e
  replace e := cl_s e; obtain ⟨_, _, e⟩ := e
  iterate 5 replace e := (gd_s e).2
  replace e := cl_s e; obtain ⟨_, _, e⟩ := e
  replace e := cl_s e; obtain ⟨_, _, e⟩ := e
  iterate 2 replace e := (gd_s e).2
  replace e := cl_s e; obtain ⟨_, _, e⟩ := e
  replace e := cl_s e; obtain ⟨_, _, e⟩ := e
  iterate 2 replace e := (gd_s e).2
  have e := Option.some.inj e
  rw [← e]
  have key : ∀ (g : Hp) (v : Int64) (a i : Nat), hJ (wJ g x0 2 v) a i = if a = x0 ∧ i = 2 then v else hJ g a i := fun g v a i => r_J ..
  refine ⟨fun i => ⟨?_, fun n => ?_⟩, fun a i n => ?_, fun a => rfl⟩
  · exact (key _ _ x0 2).trans (if_pos ⟨rfl, rfl⟩)
  · exact (key _ _ x0 i).trans (if_neg (fun w => n w.2))
  · exact (key _ _ a i).trans (if_neg (fun w => n w.1))
theorem wr_copy (T : TH ρ c h) (r0 : ρ x0 = 13) (r1 : ρ x1 = 13) (P : WrE zq x1 h) (e : sX12_copy h x0 x1 = some o) : WrE zq x0 o := by
  obtain ⟨Mb, eMb, rMb⟩ := thR T r1 (i := 0) (k2 := 62) rfl (by decide)
  obtain ⟨Mt, eMt, rMt⟩ := thR T r0 (i := 0) (k2 := 62) rfl (by decide)
  obtain ⟨Pb, ePb, rPb⟩ := thR T r1 (i := 4) (k2 := 63) rfl (by decide)
  obtain ⟨Pt, ePt, rPt⟩ := thR T r0 (i := 4) (k2 := 63) rfl (by decide)
  obtain ⟨Hb, eHb, rHb⟩ := thR T r1 (i := 5) (k2 := 64) rfl (by decide)
  obtain ⟨Ht, eHt, rHt⟩ := thR T r0 (i := 5) (k2 := 64) rfl (by decide)
  obtain ⟨C, eC, rC⟩ := thR T r0 (i := 6) (k2 := 65) rfl (by decide)
  obtain ⟨f1, fM, fH, f3, f4, f5, f6, fo, _⟩ := cpy_post r0 r1 rMb rMt rPb rPt rHb rHt rC eMb eMt ePb ePt eHb eHt eC e
  have j2 := ((cpy_j e).1 0).1
  obtain ⟨p1, p2, p3, p4⟩ := P
  refine ⟨fun M H m1 m2 => ?_, by rw [j2]; exact p2, by rw [f4]; exact p3, fun n M P m1 m2 => ?_⟩
  · rw [f1] at m1 m2
    have y1 := r_eq eMt m1
    have y2 := r_eq eHt m2
    subst y1; subst y2
    have := p1 Mb Hb eMb eHb
    unfold tot at this ⊢
    have u1 : mC (hI o M) 64 = mC (hI h Mb) 64 := mc_eq 64 (fun i hi => fM i hi)
    rw [u1, sh_eq2 (h := h) (H := Hb) 12 (fun i hi => fH _ (by omega)), sh_eq2 (h := h) (H := Hb) 12 (fun i hi => fH _ (by omega))]
    exact this
  · rw [f1] at m1 m2
    have y1 := r_eq eMt m1
    have y2 := r_eq ePt m2
    subst y1; subst y2
    rw [f4] at n
    have c3 := nc_i (x := hI h x1 3) (by omega)
    have ip : Rg 0 63 (hI h Pb 0) := thI T rPb rfl
    rw [f5 0 (by omega), fM _ (by have := rg_clamp (n := 63) ip (by decide); omega), f3]
    exact p4 n Mb Pb eMb ePb
end
end
section
/-! legal moves fit their board -/
section
variable {ρ : Nat → Nat} {c : Cm} {gg : Nat → Int32} {sd : Int32} {np : Int} {x0 b l lf lt lx lk lo F wb wl : Nat} {h o : Hp} {x3 x4 x5 : Int32}
def LR (ρ : Nat → Nat) (l lf lt lx lk lo : Nat) (h : Hp) : Prop := (hR h l 1 = some lf ∧ hR h l 2 = some lt ∧ hR h l 5 = some lx ∧ hR h l 6 = some lk ∧ hR h l 7 = some lo)
theorem lr_r (T : TH ρ c h) (rl : ρ l = 14) (E : LR ρ l lf lt lx lk lo h) : ρ lf = 66 ∧ ρ lt = 67 ∧ ρ lx = 70 ∧ ρ lk = 71 ∧ ρ lo = 72 := by
  obtain ⟨e1, e2, e5, e6, e7⟩ := E
  exact ⟨rr T (thR T rl (i := 1) (k2 := 66) rfl (by decide)) e1, rr T (thR T rl (i := 2) (k2 := 67) rfl (by decide)) e2, rr T (thR T rl (i := 5) (k2 := 70) rfl (by decide)) e5, rr T (thR T rl (i := 6) (k2 := 71) rfl (by decide)) e6, rr T (thR T rl (i := 7) (k2 := 72) rfl (by decide)) e7⟩
theorem l2_fr {S : Nat → Nat → Nat → Bool} (T : TH ρ c h) (rl : ρ l = 14) (E : LR ρ l lf lt lx lk lo h) (f : Fr ρ (cat c S h) h o) (s1 : ∀ w i, i < 8 → S 14 w i = false) (s2 : ∀ k w i, 66 ≤ k → k ≤ 72 → S k w i = false) (P : L2 l lf lt lx lk lo gg sd np h) : L2 l lf lt lx lk lo gg sd np o ∧ LR ρ l lf lt lx lk lo o ∧ hI o l 0 = hI h l 0 := by
  obtain ⟨q1, q2, q5, q6, q7⟩ := lr_r T rl E
  have k0 : hI o l 0 = hI h l 0 := (fr_RI f rl (by decide) (fun w => s1 w 0 (by decide))).1
  have kR : ∀ {i : Nat}, i < 8 → hR o l i = hR h l i := fun {i} hi => (fr_RI f rl (by decide) (fun w => s1 w i hi)).2.2
  obtain ⟨e1, e2, e5, e6, e7⟩ := E
  refine ⟨fun i hi => ?_, ⟨by rw [kR (by decide)]; exact e1, by rw [kR (by decide)]; exact e2, by rw [kR (by decide)]; exact e5, by rw [kR (by decide)]; exact e6, by rw [kR (by decide)]; exact e7⟩, k0⟩
  rw [k0] at hi
  rw [(fr_RI f q1 (by decide) (fun w => s2 66 w i (by decide) (by decide))).1, (fr_RI f q2 (by decide) (fun w => s2 67 w i (by decide) (by decide))).1, (fr_RI f q5 (by decide) (fun w => s2 70 w i (by decide) (by decide))).1, (fr_RI f q6 (by decide) (fun w => s2 71 w i (by decide) (by decide))).1, (fr_RI f q7 (by decide) (fun w => s2 72 w i (by decide) (by decide))).1]
  exact P i hi
theorem set_lx {lm lb : Nat} {x y : Int32} (r_l : ρ l = 14) (r_lf : ρ lf = 66) (r_lt : ρ lt = 67) (r_lm : ρ lm = 68) (r_lb : ρ lb = 69) (r_lx : ρ lx = 70) (r_lk : ρ lk = 71) (r_lo : ρ lo = 72) (e_lf : hR h l 1 = some lf) (e_lt : hR h l 2 = some lt) (e_lm : hR h l 3 = some lm) (e_lb : hR h l 4 = some lb) (e_lx : hR h l 5 = some lx) (e_lk : hR h l 6 = some lk) (e_lo : hR h l 7 = some lo) (e : sX13_set h l x l y = some o) (i : Nat) : hI o lx i = if i = x.toNatClampNeg then hI h lx y.toNatClampNeg else hI h lx i := by
  have ne : ∀ {a d p q : Nat}, ρ a = p → ρ d = q → p ≠ q → ¬ a = d := fun ha hd hpq z => hpq (by rw [← ha, z]; exact hd)
  unfold sX13_set at e
  simp only [nm] at e
  replace e := cl_s e; obtain ⟨r1, w1, e⟩ := e
  have u1 : r1 = lf := r_eq e_lf w1
  subst u1
  replace e := cl_s e; obtain ⟨_, _, e⟩ := e
  iterate 2 replace e := (gd_s e).2
  replace e := cl_s e; obtain ⟨r2, w2, e⟩ := e
  have u2 : r2 = lt := r_eq e_lt w2
  subst u2
  replace e := cl_s e; obtain ⟨_, _, e⟩ := e
  iterate 2 replace e := (gd_s e).2
  replace e := cl_s e; obtain ⟨r3, w3, e⟩ := e
  have u3 : r3 = lm := r_eq e_lm w3
  subst u3
  replace e := cl_s e; obtain ⟨_, _, e⟩ := e
  iterate 2 replace e := (gd_s e).2
  replace e := cl_s e; obtain ⟨r4, w4, e⟩ := e
  have u4 : r4 = lb := r_eq e_lb w4
  subst u4
  replace e := cl_s e; obtain ⟨_, _, e⟩ := e
  iterate 2 replace e := (gd_s e).2
  replace e := cl_s e; obtain ⟨r5, w5, e⟩ := e
  have u5 : r5 = lx := r_eq e_lx w5
  subst u5
  replace e := cl_s e; obtain ⟨r5', w5', e⟩ := e
  have u5' : r5' = r5 := r_eq e_lx w5'
  subst u5'
  iterate 2 replace e := (gd_s e).2
  replace e := cl_s e; obtain ⟨r6, w6, e⟩ := e
  have u6 : r6 = lk := r_eq e_lk w6
  subst u6
  replace e := cl_s e; obtain ⟨_, _, e⟩ := e
  iterate 2 replace e := (gd_s e).2
  replace e := cl_s e; obtain ⟨r7, w7, e⟩ := e
  have u7 : r7 = lo := r_eq e_lo w7
  subst u7
  replace e := cl_s e; obtain ⟨_, _, e⟩ := e
  iterate 2 replace e := (gd_s e).2
  rw [← Option.some.inj e]
  rw [rI_a (ne r_lx r_lo (by decide)), rI_a (ne r_lx r_lk (by decide)), r_I]
  by_cases z : i = x.toNatClampNeg
  · rw [if_pos ⟨rfl, z⟩, if_pos z, rI_a (ne r_lx r_lb (by decide)), rI_a (ne r_lx r_lm (by decide)), rI_a (ne r_lx r_lt (by decide)), rI_a (ne r_lx r_lf (by decide))]
  · rw [if_neg (fun w => z w.2), if_neg z, rI_a (ne r_lx r_lb (by decide)), rI_a (ne r_lx r_lm (by decide)), rI_a (ne r_lx r_lt (by decide)), rI_a (ne r_lx r_lf (by decide))]
theorem l2_set {x y : Int32} (T : TH ρ c h) (rl : ρ l = 14) (E : LR ρ l lf lt lx lk lo h) (hy : 0 ≤ y.toInt ∧ y.toInt < (hI h l 0).toInt) (P : L2 l lf lt lx lk lo gg sd np h) (e : sX13_set h l x l y = some o) : L2 l lf lt lx lk lo gg sd np o ∧ hI o l 0 = hI h l 0 ∧ LR ρ l lf lt lx lk lo o := by
  obtain ⟨r1, r2, r5, r6, r7⟩ := lr_r T rl E
  obtain ⟨e1, e2, e5, e6, e7⟩ := E
  obtain ⟨lm, e3, r3⟩ := thR T rl (i := 3) (k2 := 68) rfl (by decide)
  obtain ⟨lb, e4, r4⟩ := thR T rl (i := 4) (k2 := 69) rfl (by decide)
  obtain ⟨fr, z0, z⟩ := set_post rl r1 r2 r3 r4 r5 r6 r7 e1 e2 e3 e4 e5 e6 e7 e
  have zx := set_lx rl r1 r2 r3 r4 r5 r6 r7 e1 e2 e3 e4 e5 e6 e7 e
  refine ⟨fun i hi => ?_, z0, ⟨by rw [fr.1]; exact e1, by rw [fr.1]; exact e2, by rw [fr.1]; exact e5, by rw [fr.1]; exact e6, by rw [fr.1]; exact e7⟩⟩
  rw [z0] at hi
  obtain ⟨w1, w2, _, w6, w7⟩ := z i
  rw [w1, w2, w6, w7, zx i]
  have cy := clamp_i hy.1
  by_cases w : i = x.toNatClampNeg
  · rw [if_pos w, if_pos w, if_pos w, if_pos w, if_pos w]
    exact P y.toNatClampNeg (by omega)
  · rw [if_neg w, if_neg w, if_neg w, if_neg w, if_neg w]
    exact P i hi
theorem l2_cut {v : Int32} (T : TH ρ c h) (rl : ρ l = 14) (E : LR ρ l lf lt lx lk lo h) (w : o = wI h l 0 v) (le : v.toInt ≤ (hI h l 0).toInt) (P : L2 l lf lt lx lk lo gg sd np h) : L2 l lf lt lx lk lo gg sd np o ∧ LR ρ l lf lt lx lk lo o := by
  obtain ⟨r1, r2, r5, r6, r7⟩ := lr_r T rl E
  refine ⟨fun i hi => ?_, by rw [w]; exact E⟩
  rw [w, r_I, if_pos ⟨rfl, rfl⟩] at hi
  rw [w, r_I, if_neg (ne_r r1 rl (by decide)), r_I, if_neg (ne_r r2 rl (by decide)), r_I, if_neg (ne_r r5 rl (by decide)), r_I, if_neg (ne_r r6 rl (by decide)), r_I, if_neg (ne_r r7 rl (by decide))]
  exact P i (by omega)
theorem lgz_110 (hF : 700000 ≤ F) (hO : pmO c wl [(66, 999), (67, 999), (68, 999), (69, 999), (70, 999), (71, 999), (72, 999), (14, 0)]) (ol : cw c l = wl) (rl : ρ l = 14) : ∀ (f : Nat) {h : Hp} {x3 x5 : Int32}, TH ρ c h → LR ρ l lf lt lx lk lo h → L2 l lf lt lx lk lo gg sd np h → 0 ≤ x3.toInt → x3.toInt ≤ x5.toInt → x5.toInt ≤ (hI h l 0).toInt → (3001 - x5.toInt).toNat < f → Sat (sX15_legal_110 F f h l x3 x5) (fun o => TH ρ c o ∧ L2 l lf lt lx lk lo gg sd np o) := by
  intro f
  induction f with
  | zero => intros; omega
  | succ f ih =>
    intro h x3 x5 T E P a3 a5 b5 hf
    rw [sX15_legal_110]
    unfold sX15_legal_152 sX15_legal_141
    have m := thI T rl (k := 14) (i := 0) (lo := 0) (hi := 3000) rfl
    have m3 := m.2
    refine s_br (fun _ => ?_) (fun n1 => ?_)
    · refine s_hq (th_wI T rl (k := 14) (lo := 0) (hi := 3000) rfl ⟨a3, by omega⟩ (by decide) (by decide) (pm_o hO ol rfl)) (fun h2 T2 w2 => ?_)
      exact s_some ⟨T2, (l2_cut T rl E w2 (by omega) P).1⟩
    · have l5 := nle_i n1
      have i5 : Rg 0 2999 x5 := ⟨by omega, by omega⟩
      have i3 : Rg 0 2999 x3 := ⟨a3, by omega⟩
      have n5 := nc_s i5 (by decide)
      have n3 := nc_s i3 (by decide)
      obtain ⟨_, ex, rx⟩ := thR T rl (i := 5) (k2 := 70) rfl (by decide)
      refine s_ref ex ?_
      refine s_gd (by rw [thN T rx (k := 70) (n := 3000) rfl (by decide)]; exact rg_inB i5 (by decide)) ?_
      refine s_br (fun _ => ?_) (fun _ => ?_)
      · refine s_q (fun y ey => ?_)
        have ey2 : y.toInt = x5.toInt + 1 := by rw [ey]; exact n5.2
        exact ih T E P a3 (by omega) (by omega) (by omega)
      · refine s_dd (zX13_set hF (pmO_s hO rfl) ol ol T rl i3 rl i5) (fun o6 e6 T6 => ?_)
        obtain ⟨P6, k6, E6⟩ := l2_set T rl E ⟨by omega, l5⟩ P e6
        refine s_q (fun v ev => s_q (fun y ey => ?_))
        have ey2 : y.toInt = x5.toInt + 1 := by rw [ey]; exact n5.2
        have ev2 : v.toInt = x3.toInt + 1 := by rw [ev]; exact n3.2
        exact ih T6 E6 P6 (by omega) (by omega) (by rw [k6]; omega) (by omega)
theorem lgz_28 (hF : 700000 ≤ F) (hA : pmA c [(16, 23), (16, 24)]) (hB : pmO c 2528 [(62, 999), (63, 999), (64, 999), (65, 999), (13, 1), (13, 2), (13, 3), (13, 7)]) (hO : pmO c wl [(66, 999), (67, 999), (68, 999), (69, 999), (70, 999), (71, 999), (72, 999), (14, 0)]) (ob : cw c b = wb) (nb : ¬ wb = 2528) (ol : cw c l = wl) (r0 : ρ x0 = 16) (rb : ρ b = 13) (rl : ρ l = 14) : ∀ (f : Nat) {h : Hp} {x3 x4 x5 : Int32}, TH ρ c h → SqOk x0 h → MvB x0 b l h → LR ρ l lf lt lx lk lo h → L2 l lf lt lx lk lo gg sd np h → 0 ≤ x3.toInt → x3.toInt ≤ x5.toInt → x5.toInt ≤ (hI h l 0).toInt → (3001 - x5.toInt).toNat < f → Sat (sX15_legal_28 F f h x0 b l x3 x4 x5) (fun o => TH ρ c o ∧ L2 l lf lt lx lk lo gg sd np o) := by
  intro f
  induction f with
  | zero => intros; omega
  | succ f ih =>
    intro h x3 x4 x5 T sq mv E P a3 a5 b5 hf
    rw [sX15_legal_28]
    unfold sX15_legal_152 sX15_legal_79 sX15_legal_73
    have m := thI T rl (k := 14) (i := 0) (lo := 0) (hi := 3000) rfl
    have m3 := m.2
    have z0 : (0 : Int32).toInt = 0 := rfl
    refine s_br (fun _ => ?_) (fun n1 => ?_)
    · refine s_hq (th_wI T rl (k := 14) (lo := 0) (hi := 3000) rfl ⟨a3, by omega⟩ (by decide) (by decide) (pm_o hO ol rfl)) (fun h2 T2 w2 => ?_)
      obtain ⟨P2, E2'⟩ := l2_cut T rl E w2 (by omega) P
      obtain ⟨R, eR, rR⟩ := thR T2 r0 (i := 4) (k2 := 15) rfl (by decide)
      refine s_ref eR ?_
      refine s_br (fun _ => s_some ⟨T2, P2⟩) (fun _ => ?_)
      refine s_br (fun _ => s_some ⟨T2, P2⟩) (fun _ => ?_)
      exact lgz_110 hF hO ol rl F T2 E2' P2 (by decide) (Int.le_refl _) (by rw [z0]; exact (thI T2 rl (k := 14) (i := 0) (lo := 0) (hi := 3000) rfl).1) (by rw [z0]; omega)
    · have l5 := nle_i n1
      have i5 : Rg 0 2999 x5 := ⟨by omega, by omega⟩
      have i3 : Rg 0 2999 x3 := ⟨a3, by omega⟩
      have n5 := nc_s i5 (by decide)
      have n3 := nc_s i3 (by decide)
      refine s_cIf (S := fS [(16, 23), (16, 24)] [(2528, [(62, 999), (63, 999), (64, 999), (65, 999), (13, 1), (13, 2), (13, 3), (13, 7)])]) T (fs_sub hA (fs_c hB fs_n)) (zX15_isSafe hF fs_a (fs_o (.head _)) ob ol (th_in _ T) r0 rb rl i5 sq mv l5) (fun o6 T6 i6 f6 => ?_)
      have sq6 : SqOk x0 o6.2 := sq_fr T r0 f6 (fun _ => rfl) (fun _ => rfl) (fun _ => rfl) sq
      have mv6 : MvB x0 b l o6.2 := mv_fr T r0 rb rl f6 (fun _ => rfl) (fun _ => rfl) rfl (by rw [ob]; exact fs_cf (Or.inr nb) (fs_nf rfl)) rfl (by rw [ob]; intro _; exact fs_cf (Or.inr nb) (fs_nf rfl)) (by rw [ob]; intro _; exact fs_cf (Or.inr nb) (fs_nf rfl)) rfl rfl rfl rfl rfl rfl (fun _ => rfl) (fun _ => rfl) (fun _ => rfl) (fun _ => rfl) (fun _ => rfl) mv
      obtain ⟨P6, E6, k6⟩ := l2_fr T rl E f6 (fun w i hi => by
        match i, hi with
        | 0, _ | 1, _ | 2, _ | 3, _ | 4, _ | 5, _ | 6, _ | 7, _ => rfl) (fun k w i a b => by
        have : k = 66 ∨ k = 67 ∨ k = 68 ∨ k = 69 ∨ k = 70 ∨ k = 71 ∨ k = 72 := by omega
        rcases this with z | z | z | z | z | z | z <;> subst z <;> rfl) P
      refine s_br (fun _ => ?_) (fun _ => ?_)
      · refine s_q (fun y ey => ?_)
        have ey2 : y.toInt = x5.toInt + 1 := by rw [ey]; exact n5.2
        exact ih T6 sq6 mv6 E6 P6 a3 (by omega) (by rw [k6]; omega) (by omega)
      · refine s_cVfq (S := fS [] [(wl, [(66, 999), (67, 999), (68, 999), (69, 999), (70, 999), (71, 999), (72, 999)])]) T6 (fs_sub pmA_n (fs_c (pmO_s hO rfl) fs_n)) (s_weq (zX13_set hF (fs_o (.head _)) ol ol (th_in _ T6) rl i3 rl i5)) (fun o8 T8 f8 e8 => ?_)
        obtain ⟨P8, k8, E8⟩ := l2_set T6 rl E6 ⟨by omega, by rw [k6]; exact l5⟩ P6 e8
        have mv8 := mv_set T6 r0 rb rl ⟨by omega, by rw [k6]; exact l5⟩ mv6 e8
        have sq8 : SqOk x0 o8 := sq_fr T6 r0 f8 (fun _ => rfl) (fun _ => rfl) (fun _ => rfl) sq6
        obtain ⟨_, ex, rx⟩ := thR T8 rl (i := 5) (k2 := 70) rfl (by decide)
        refine s_ref ex ?_
        refine s_gd (by rw [thN T8 rx (k := 70) (n := 3000) rfl (by decide)]; exact rg_inB i3 (by decide)) ?_
        have fin : ∀ (t0 : Int32), Sat (nm (x4 ||| t0) fun v_1 => nm (x3 + (1 : Int32)) fun v_2 => nm (x5 + (1 : Int32)) fun v_3 => sX15_legal_28 F f o8 x0 b l v_2 v_1 v_3) (fun o => TH ρ c o ∧ L2 l lf lt lx lk lo gg sd np o) := fun t0 => by
          refine s_q (fun u eu => s_q (fun v ev => s_q (fun y ey => ?_)))
          have ey2 : y.toInt = x5.toInt + 1 := by rw [ey]; exact n5.2
          have ev2 : v.toInt = x3.toInt + 1 := by rw [ev]; exact n3.2
          exact ih T8 sq8 mv8 E8 P8 (by omega) (by omega) (by rw [k8, k6]; omega) (by omega)
        exact s_br (fun _ => fin _) (fun _ => fin _)
theorem tz_of {M : Nat} (T : TH ρ c h) (r0 : ρ x0 = 16) (rb : ρ b = 13) (rl : ρ l = 14) (pe : PE b h) (E : LR ρ l lf lt lx lk lo h) (eM : hR h b 0 = some M) (P : L2 l lf lt lx lk lo (hI h M) (hI h b 1) (hI h b 3).toInt h) : ∃ S Fa Ct P' R A B Ri lm lb, TZ ρ x0 l b S Fa Ct M P' R A B Ri lf lt lm lb lx lk lo (hI h M) (hI h b 1) (hI h b 3).toInt h := by
  obtain ⟨r1, r2, r5, r6, r7⟩ := lr_r T rl E
  obtain ⟨e1, e2, e5, e6, e7⟩ := E
  obtain ⟨lm, e3, r3⟩ := thR T rl (i := 3) (k2 := 68) rfl (by decide)
  obtain ⟨lb, e4, r4⟩ := thR T rl (i := 4) (k2 := 69) rfl (by decide)
  obtain ⟨S, eS, rS⟩ := thR T r0 (i := 25) (k2 := 87) rfl (by decide)
  obtain ⟨Fa, eFa, rFa⟩ := thR T r0 (i := 26) (k2 := 88) rfl (by decide)
  obtain ⟨Ct, eCt, rCt⟩ := thR T r0 (i := 27) (k2 := 89) rfl (by decide)
  obtain ⟨R, eR, rR⟩ := thR T r0 (i := 4) (k2 := 15) rfl (by decide)
  obtain ⟨A, eA, rA⟩ := thR T rR (i := 6) (k2 := 76) rfl (by decide)
  obtain ⟨B, eB, rB⟩ := thR T rR (i := 7) (k2 := 77) rfl (by decide)
  obtain ⟨Ri, eRi, rRi⟩ := thR T rR (i := 8) (k2 := 78) rfl (by decide)
  obtain ⟨P', eP, rP⟩ := thR T rb (i := 4) (k2 := 63) rfl (by decide)
  have rM := rr T (thR T rb (i := 0) (k2 := 62) rfl (by decide)) eM
  exact ⟨S, Fa, Ct, P', R, A, B, Ri, lm, lb, ⟨⟨eS, eFa, eCt, eM, eP, eR, eA, eB, eRi⟩, ⟨r0, rb, rS, rFa, rCt, rM, rP, rR, rA, rB, rRi⟩, fun i => thI T rA rfl, fun i => thI T rB rfl, thI T rb rfl, rfl, pe, fun i => thI T rRi rfl⟩, ⟨⟨e1, e2, e3, e4, e5, e6, e7⟩, ⟨rl, r1, r2, r3, r4, r5, r6, r7⟩, thN T r1 rfl (by decide)⟩, P, fun _ => rfl, rfl, (thI T r0 (i := 13) (lo := 9) (hi := 64) rfl).2⟩
/-- legal: all its moves fit the board -/
theorem legal_z {M : Nat} (hF : 700000 ≤ F) (hA : pmA c [(87, 999), (88, 999), (89, 999), (16, 23), (16, 24), (16, 29)]) (hB : pmO c 2528 [(62, 999), (63, 999), (64, 999), (65, 999), (13, 1), (13, 2), (13, 3), (13, 7)]) (hO : pmO c wl [(66, 999), (67, 999), (68, 999), (69, 999), (70, 999), (71, 999), (72, 999), (14, 0)]) (ob : cw c b = wb) (nb : ¬ wb = 2528) (ol : cw c l = wl) (T : TH ρ c h) (r0 : ρ x0 = 16) (rb : ρ b = 13) (rl : ρ l = 14) (sq : SqOk x0 h) (pe : PE b h) (E : LR ρ l lf lt lx lk lo h) (eM : hR h b 0 = some M) : Sat (sX15_legal F h x0 b l) (fun o => TH ρ c o ∧ L2 l lf lt lx lk lo (hI h M) (hI h b 1) (hI h b 3).toInt o) := by
  have rM := rr T (thR T rb (i := 0) (k2 := 62) rfl (by decide)) eM
  unfold sX15_legal
  refine s_hq (th_wI T rl (k := 14) (lo := 0) (hi := 3000) rfl (rg_m (rg_b rfl : Rg 0 0 (0 : Int32)) (by decide)) (by decide) (by decide) (pm_o hO ol rfl)) (fun h1 T1 w1 => ?_)
  have f1 := fr1Io (c := c) (B := [(14, 0)]) rl ol rfl w1
  have E1 : LR ρ l lf lt lx lk lo h1 := by rw [w1]; exact E
  have z1 : hI h1 l 0 = 0 := by rw [w1, r_I, if_pos ⟨rfl, rfl⟩]
  have n1 : ∀ {gg : Nat → Int32} {sd : Int32} {np : Int} {g : Hp}, hI g l 0 = 0 → L2 l lf lt lx lk lo gg sd np g := fun {gg sd np g} z i hi => by
    rw [z] at hi
    exact absurd hi (by show ¬ (i : Int) < 0; omega)
  have kM1 : ∀ i, hI h1 M i = hI h M i := fun i => by rw [w1, r_I, if_neg (ne_r rM rl (by decide))]
  have kb1 : ∀ i, hI h1 b i = hI h b i := fun i => by rw [w1, r_I, if_neg (ne_r rb rl (by decide))]
  refine s_cIf (S := fS [(16, 29)] []) T1 (fs_sub (pmA_s hA rfl) fs_n) (zX15_early hF fs_a ob (th_in _ T1) r0 rb) (fun o2 T2 i2 f2 => ?_)
  have kM2 : ∀ i, hI o2.2 M i = hI h M i := fun i => by rw [(fr_RI f2 rM (by decide) (fun _ => rfl)).1]; exact kM1 i
  have kb2 : ∀ i, hI o2.2 b i = hI h b i := fun i => by rw [(fr_RI f2 rb (by decide) (fun _ => rfl)).1]; exact kb1 i
  have kl2 : hI o2.2 l 0 = 0 := by rw [(fr_RI f2 rl (by decide) (fun _ => rfl)).1]; exact z1
  have kR2 : ∀ i, hR o2.2 l i = hR h l i := fun i => by rw [(fr_RI f2 rl (by decide) (fun _ => rfl)).2.2, w1]; rfl
  have eM2 : hR o2.2 b 0 = some M := by rw [(fr_RI f2 rb (by decide) (fun _ => rfl)).2.2, w1]; exact eM
  have E2' : LR ρ l lf lt lx lk lo o2.2 := by
    obtain ⟨u1, u2, u5, u6, u7⟩ := E
    exact ⟨by rw [kR2]; exact u1, by rw [kR2]; exact u2, by rw [kR2]; exact u5, by rw [kR2]; exact u6, by rw [kR2]; exact u7⟩
  refine s_br (fun _ => ?_) (fun _ => ?_)
  · have pe2 : PE b o2.2 := pe_fr T1 rb f2 rfl rfl rfl (fun _ => rfl) (fun _ => rfl) (pe_fr T rb f1 rfl rfl rfl (fun _ => rfl) (fun _ => rfl) pe)
    refine s_cVfq (S := fS [(87, 999), (88, 999), (89, 999), (16, 23), (16, 24)] [(wl, [(66, 999), (67, 999), (68, 999), (69, 999), (70, 999), (71, 999), (72, 999), (14, 0)])]) T2 (fs_sub (pmA_s hA rfl) (fs_c hO fs_n)) (s_weq2 (zX15_tryAll hF fs_a (fs_o (.head _)) ob ol (th_in _ T2) r0 rb rl pe2)) (fun o4 T4 f4 w4 => ?_)
    obtain ⟨S, Fa, Ct, P', R, A, B, Ri, lm, lb, Z⟩ := tz_of T2 r0 rb rl pe2 E2' eM2 (n1 kl2)
    obtain ⟨k4, Z4⟩ := tall_z Z w4.2
    have P4 := Z4.2.2.1
    have em : hI o2.2 M = hI h M := funext kM2
    rw [em, kb2, kb2] at P4
    have E4 : LR ρ l lf lt lx lk lo o4 := by
      obtain ⟨u1, u2, u5, u6, u7⟩ := E2'
      exact ⟨by rw [k4.1]; exact u1, by rw [k4.1]; exact u2, by rw [k4.1]; exact u5, by rw [k4.1]; exact u6, by rw [k4.1]; exact u7⟩
    have sq4 : SqOk x0 o4 := sq_fr T2 r0 f4 (fun _ => rfl) (fun _ => rfl) (fun _ => rfl) (sq_fr T1 r0 f2 (fun _ => rfl) (fun _ => rfl) (fun _ => rfl) (sq_fr T r0 f1 (fun _ => rfl) (fun _ => rfl) (fun _ => rfl) sq))
    have z0 : (0 : Int32).toInt = 0 := rfl
    exact lgz_28 hF (pmA_s hA rfl) hB hO ob nb ol r0 rb rl F T4 sq4 w4.1 E4 P4 (by decide) (Int.le_refl _) (by rw [z0]; exact (thI T4 rl (k := 14) (i := 0) (lo := 0) (hi := 3000) rfl).1) (by rw [z0]; omega)
  · exact s_some ⟨T2, n1 kl2⟩
end
end
