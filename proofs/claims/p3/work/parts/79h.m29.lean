section
/-! all moves that are tried fit their board -/
section
variable {ρ : Nat → Nat} {c : Cm} {h o g h0 : Hp} {x0 l b S Fa Ct M F P R A B Ri : Nat} {sd s q : Int32} {np : Int}
/-- what attacks read -/
def AP (ρ : Nat → Nat) (x0 R A B : Nat) (h : Hp) : Prop := (hR h x0 4 = some R ∧ hR h R 6 = some A ∧ hR h R 7 = some B) ∧ (ρ x0 = 16 ∧ ρ A = 76 ∧ ρ B = 77) ∧ (∀ i, Rg (-7) 7 (hI h A i)) ∧ (∀ i, Rg (-7) 7 (hI h B i))
theorem ap_k (k : TF 3 ρ x0 l h o) (Q : AP ρ x0 R A B h) : AP ρ x0 R A B o := by
  obtain ⟨⟨a1, a2, a3⟩, ⟨b1, b2, b3⟩, c1, c2⟩ := Q
  have kI : ∀ {a q : Nat} (i : Nat), ρ a = q → q ≠ 16 → hI o a i = hI h a i := fun {a q} i ra n => k.2.2.2 a i (Or.inl rfl) (Or.inl (by decide)) (Or.inl rfl) (fun z => n (by rw [← ra, z.1]; exact b1))
  exact ⟨⟨by rw [k.1]; exact a1, by rw [k.1]; exact a2, by rw [k.1]; exact a3⟩, ⟨b1, b2, b3⟩, fun i => by rw [kI i b2 (by decide)]; exact c1 i, fun i => by rw [kI i b3 (by decide)]; exact c2 i⟩
theorem ap_of (Q : TP ρ x0 b S Fa Ct M P R A B Ri np h) : AP ρ x0 R A B h := by
  obtain ⟨⟨a1, a2, a3, a4, a5, a6, a7, a8, a9⟩, ⟨b1, b2, b3, b4, b5, b6, b7, b8, b9, b10, b11⟩, c1, c2, c3, c4, c5, c6⟩ := Q
  exact ⟨⟨a6, a7, a8⟩, ⟨b1, b9, b10⟩, c1, c2⟩
theorem hv_z {st d : Int32} {o : Int32 × Hp} (Q : AP ρ x0 R A B h) (e : sX15_hasVector h x0 st d sd = some o) : TF 3 ρ x0 l h o.2 := by
  obtain ⟨⟨a6, a7, a8⟩, _, c1, c2⟩ := Q
  obtain ⟨d1, d2, w, _, _⟩ := hv_post a6 a7 a8 c1 c2 e
  rw [w]
  exact tf_t (tf_w (Or.inr (Or.inr (Or.inr ⟨rfl, Or.inl rfl⟩)))) (tf_w (Or.inr (Or.inr (Or.inr ⟨rfl, Or.inr rfl⟩))))
theorem at_z {b' : Nat} {v m : Int32} : ∀ (f : Nat) {g : Hp} {i : Int32} {o' : Int32 × Hp}, AP ρ x0 R A B g → sX15_attacks_9 F f g x0 b' s v q m i = some o' → TF 3 ρ x0 l g o'.2 := by
  intro f
  induction f with
  | zero => intro g i o' _ e; exact absurd e (by simp [sX15_attacks_9])
  | succ f ih =>
    intro g i o' Q e
    unfold sX15_attacks_9 at e
    simp only [nm] at e
    replace e := cl_s e; obtain ⟨_, _, e⟩ := e
    replace e := cl_s e; obtain ⟨_, _, e⟩ := e
    replace e := (gd_s e).2
    replace e := br_s e; rcases e with ⟨_, e⟩ | ⟨_, e⟩
    · rw [← Option.some.inj e]; exact tf_0
    replace e := cl_s e; obtain ⟨_, _, e⟩ := e
    replace e := cl_s e; obtain ⟨_, _, e⟩ := e
    replace e := (gd_s e).2
    have inn : ∀ (ff : Nat) {g : Hp} {i st d : Int32}, AP ρ x0 R A B g → sX15_attacks_70 F (sX15_attacks_9 F f) ff g x0 b' s v q m i st d = some o' → TF 3 ρ x0 l g o'.2 := by
      intro ff
      induction ff with
      | zero => intro g i st d _ e; exact absurd e (by simp [sX15_attacks_70])
      | succ ff ih2 =>
        intro g i st d Q e
        unfold sX15_attacks_70 sX15_attacks_113 sX15_attacks_107 at e
        simp only [nm] at e
        replace e := br_s e; rcases e with ⟨_, e⟩ | ⟨_, e⟩
        · exact ih Q e
        replace e := cl_s e; obtain ⟨o2, e2, e⟩ := e
        unfold sX15_sideOf at e2
        have := Option.some.inj e2; subst this
        dsimp only at e
        replace e := cl_s e; obtain ⟨o3, e3, e⟩ := e
        have k3 : TF 3 ρ x0 l g o3.2 := hv_z Q e3
        have Q3 := ap_k k3 Q
        replace e := br_s e; rcases e with ⟨_, e⟩ | ⟨_, e⟩
        · exact tf_t k3 (ih2 Q3 e)
        replace e := cl_s e; obtain ⟨o5, e5, e⟩ := e
        have v5 : o5.2 = o3.2 := by unfold sX15_reaches at e5; exact rch_fr F e5
        rw [v5] at e
        replace e := br_s e; rcases e with ⟨_, e⟩ | ⟨_, e⟩
        · exact tf_t k3 (ih2 Q3 e)
        · rw [← Option.some.inj e]; exact k3
    replace e := br_s e; rcases e with ⟨_, e⟩ | ⟨_, e⟩
    · replace e := cl_s e; obtain ⟨o11, e11, e⟩ := e
      unfold sX15_sideOf at e11
      have := Option.some.inj e11; subst this
      dsimp only at e
      replace e := cl_s e; obtain ⟨o12, e12, e⟩ := e
      have := from_post e12
      rw [this] at e
      unfold sX15_attacks_113 at e
      simp only [nm] at e
      replace e := br_s e; rcases e with ⟨_, e⟩ | ⟨_, e⟩
      · exact ih Q e
      · exact inn F Q e
    · unfold sX15_attacks_113 at e
      simp only [nm] at e
      exact ih Q e
theorem isa_z {b' : Nat} {y : Int32} : ∀ (f : Nat) {g : Hp} {x4 : Int32} {o' : Int32 × Hp}, AP ρ x0 R A B g → sX15_isAttacked_3 F f g x0 b' q y x4 = some o' → TF 3 ρ x0 l g o'.2 := by
  intro f
  induction f with
  | zero => intro g x4 o' _ e; exact absurd e (by simp [sX15_isAttacked_3])
  | succ f ih =>
    intro g x4 o' Q e
    unfold sX15_isAttacked_3 sX15_isAttacked_56 at e
    simp only [nm] at e
    replace e := br_s e; rcases e with ⟨_, e⟩ | ⟨_, e⟩
    · rw [← Option.some.inj e]; exact tf_0
    replace e := cl_s e; obtain ⟨_, _, e⟩ := e
    replace e := (gd_s e).2
    replace e := br_s e; rcases e with ⟨_, e⟩ | ⟨_, e⟩
    · exact ih Q e
    replace e := cl_s e; obtain ⟨o6, e6, e⟩ := e
    unfold sX15_sideOf at e6
    have := Option.some.inj e6; subst this
    dsimp only at e
    replace e := br_s e; rcases e with ⟨_, e⟩ | ⟨_, e⟩
    · replace e := br_s e; rcases e with ⟨_, e⟩ | ⟨_, e⟩
      · exact ih Q e
      replace e := cl_s e; obtain ⟨o9, e9, e⟩ := e
      have k9 : TF 3 ρ x0 l g o9.2 := by
        unfold sX15_attacks at e9
        replace e9 := cl_s e9; obtain ⟨o1, e1, e9⟩ := e9
        unfold sX15_manOf at e1
        have := Option.some.inj e1; subst this
        exact at_z F Q e9
      replace e := br_s e; rcases e with ⟨_, e⟩ | ⟨_, e⟩
      · exact tf_t k9 (ih (ap_k k9 Q) e)
      · rw [← Option.some.inj e]; exact k9
    · exact ih Q e
theorem ias_z {b' : Nat} {y : Int32} {o' : Int32 × Hp} (Q : AP ρ x0 R A B g) (e : sX15_isAttacked F g x0 b' q y = some o') : TF 3 ρ x0 l g o'.2 := by
  unfold sX15_isAttacked at e
  exact isa_z F Q e
theorem isop_h {x2 x3 x : Int32} {o : Int32 × Hp} (e : sX15_isOpen F h b x x2 x3 = some o) : o.2 = h := by
  have lp : ∀ (f : Nat) {x4 : Int32}, sX15_isOpen_5 F f h b x2 x3 x4 = some o → o.2 = h := by
    intro f
    induction f with
    | zero => intro x4 e; exact absurd e (by simp [sX15_isOpen_5])
    | succ f ih =>
      intro x4 e
      unfold sX15_isOpen_5 at e
      simp only [nm] at e
      replace e := br_s e; rcases e with ⟨_, e⟩ | ⟨_, e⟩
      · rw [← Option.some.inj e]
      replace e := cl_s e; obtain ⟨_, _, e⟩ := e
      replace e := (gd_s e).2
      replace e := br_s e; rcases e with ⟨_, e⟩ | ⟨_, e⟩
      · exact ih e
      · rw [← Option.some.inj e]
  unfold sX15_isOpen at e
  simp only [nm] at e
  exact lp F e
/-- what is carried while moves of one man are tried -/
def TZ (ρ : Nat → Nat) (x0 l b S Fa Ct M P R A B Ri lf lt lm lb lx lk lo : Nat) (gg : Nat → Int32) (sd : Int32) (np : Int) (h : Hp) : Prop := TP ρ x0 b S Fa Ct M P R A B Ri np h ∧ LPz ρ l lf lt lm lb lx lk lo h ∧ L2 l lf lt lx lk lo gg sd np h ∧ (∀ i, hI h M i = gg i) ∧ hI h b 1 = sd ∧ (hI h x0 13).toInt ≤ 64
variable {lf lt lm lb lx lk lo : Nat} {gg : Nat → Int32}
theorem tz_k {z : Nat} (k : TF z ρ x0 l h o) (L : L2 l lf lt lx lk lo gg sd np o) (Q : TZ ρ x0 l b S Fa Ct M P R A B Ri lf lt lm lb lx lk lo gg sd np h) : TZ ρ x0 l b S Fa Ct M P R A B Ri lf lt lm lb lx lk lo gg sd np o := by
  obtain ⟨q1, q2, _, q4, q5, q6⟩ := Q
  have rl := q2.2.1.1
  have kI : ∀ {a q : Nat} (i : Nat), ρ a = q → ¬ (66 ≤ q ∧ q ≤ 72) → ¬ (87 ≤ q ∧ q ≤ 89) → q ≠ 14 → q ≠ 16 → hI o a i = hI h a i := fun {a q} i ra n1 n2 n3 n4 => k.2.2.2 a i (Or.inr (by rw [ra]; exact n1)) (Or.inr (by rw [ra]; exact n2)) (Or.inr (fun z => n3 (by rw [← ra, z.1]; exact rl))) (fun z => n4 (by rw [← ra, z.1]; exact q1.2.1.1))
  have e13 : hI o x0 13 = hI h x0 13 := k.2.2.2 x0 13 (Or.inr (by rw [q1.2.1.1]; decide)) (Or.inr (by rw [q1.2.1.1]; decide)) (Or.inr (fun z => by rw [← z.1, q1.2.1.1] at rl; exact absurd rl (by decide))) (fun z => by rcases z.2 with w | w <;> exact absurd w (by decide))
  exact ⟨tp_k rl k q1, lp_k k.1 k.2.2.1 q2, L, fun i => by rw [kI i q1.2.1.2.2.2.2.2.1 (by decide) (by decide) (by decide) (by decide)]; exact q4 i, by rw [kI 1 q1.2.1.2.1 (by decide) (by decide) (by decide) (by decide)]; exact q5, by rw [e13]; exact q6⟩
theorem l2_k (Q : LPz ρ l lf lt lm lb lx lk lo h) (r0 : ρ x0 = 16) (k : ∀ a i, 66 ≤ ρ a ∧ ρ a ≤ 72 ∨ (a = l ∧ i = 0) → hI o a i = hI h a i) (L : L2 l lf lt lx lk lo gg sd np h) : L2 l lf lt lx lk lo gg sd np o := fun i hi => by
  obtain ⟨_, ⟨b1, b2, b3, b4, b5, b6, b7, b8⟩, _⟩ := Q
  rw [k l 0 (Or.inr ⟨rfl, rfl⟩)] at hi
  rw [k lf i (Or.inl (by rw [b2]; decide)), k lt i (Or.inl (by rw [b3]; decide)), k lx i (Or.inl (by rw [b6]; decide)), k lk i (Or.inl (by rw [b7]; decide)), k lo i (Or.inl (by rw [b8]; decide))]
  exact L i hi
theorem lds_k {sq : Int} (Q : TP ρ x0 b S Fa Ct M P R A B Ri np h) (rl : ρ l = 14) (k : TF 2 ρ x0 l h o) (L : LdS S Fa Ct M sd sq np h) : LdS S Fa Ct M sd sq np o := fun t h1 h2 => by
  obtain ⟨_, ⟨b1, b2, b3, b4, b5, b6, b7, b8, b9, b10, b11⟩, _⟩ := Q
  have kI : ∀ {a q : Nat} (i : Nat), ρ a = q → ¬ (66 ≤ q ∧ q ≤ 72) → q ≠ 14 → q ≠ 16 → hI o a i = hI h a i := fun {a q} i ra n1 n3 n4 => k.2.2.2 a i (Or.inr (by rw [ra]; exact n1)) (Or.inl (Nat.le_refl 2)) (Or.inr (fun z => n3 (by rw [← ra, z.1]; exact rl))) (fun z => n4 (by rw [← ra, z.1]; exact b1))
  rw [kI t b3 (by decide) (by decide) (by decide)] at h2
  rw [kI t b6 (by decide) (by decide) (by decide), kI t b5 (by decide) (by decide) (by decide), kI t b4 (by decide) (by decide) (by decide)]
  exact L t h1 h2
/-- attacks keep the list -/
theorem l2_3 {z : Nat} (hz : z % 3 = 0) (Q : LPz ρ l lf lt lm lb lx lk lo h) (r0 : ρ x0 = 16) (k : TF z ρ x0 l h o) (L : L2 l lf lt lx lk lo gg sd np h) : L2 l lf lt lx lk lo gg sd np o := by
  have rl := Q.2.1.1
  refine l2_k Q r0 (fun a i w => k.2.2.2 a i (Or.inl hz) (Or.inr ?_) (Or.inl hz) (fun z => ?_)) L
  · rcases w with w | w
    · omega
    · rw [w.1, rl]; decide
  · rcases w with w | w
    · rw [z.1, r0] at w; omega
    · rw [← w.1, z.1, r0] at rl; exact absurd rl (by decide)
theorem isa_l {y : Int32} {b' : Nat} {o' : Int32 × Hp} (Q : TZ ρ x0 l b S Fa Ct M P R A B Ri lf lt lm lb lx lk lo gg sd np g) (e : sX15_isAttacked F g x0 b' q y = some o') : TF 3 ρ x0 l g o'.2 ∧ TZ ρ x0 l b S Fa Ct M P R A B Ri lf lt lm lb lx lk lo gg sd np o'.2 := by
  have k := ias_z (l := l) (ap_of Q.1) e
  exact ⟨k, tz_k k (l2_3 rfl Q.2.1 Q.1.2.1.1 k Q.2.2.1) Q⟩
theorem add_t {f t m bc tk k mo : Int32} (Q : TZ ρ x0 l b S Fa Ct M P R A B Ri lf lt lm lb lx lk lo gg sd np h) (E : E2 gg sd np f t tk k mo) (e : sX13_add h l f t m bc tk k mo = some o) : TF 2 ρ x0 l h o ∧ TZ ρ x0 l b S Fa Ct M P R A B Ri lf lt lm lb lx lk lo gg sd np o := by
  obtain ⟨k, L⟩ := add_z (x0 := x0) Q.2.1 Q.2.2.1 E e
  exact ⟨k, tz_k k L Q⟩
/-- castling -/
theorem cas_z {t : Int32} (hs : Rg 0 63 s) (ms : 0 < (gg s.toNatClampNeg).toInt ∧ (gg s.toNatClampNeg - (1 : Int32)) &&& (1 : Int32) = sd) (Q : TZ ρ x0 l b S Fa Ct M P R A B Ri lf lt lm lb lx lk lo gg sd np h) (e : sX15_tryCastling F h x0 b s t l = some o) : TF 2 ρ x0 l h o ∧ TZ ρ x0 l b S Fa Ct M P R A B Ri lf lt lm lb lx lk lo gg sd np o := by
  have lp : ∀ (w6 : Int32), (w6 = (1 : Int32) ∨ w6 = (-1 : Int32)) → ∀ (f : Nat) {x6 : Int32}, (w6 = (1 : Int32) → s.toInt < x6.toInt) → (w6 = (-1 : Int32) → x6.toInt < s.toInt) → sX15_tryCastling_46 F f h x0 b s t l w6 x6 = some o → TF 2 ρ x0 l h o ∧ TZ ρ x0 l b S Fa Ct M P R A B Ri lf lt lm lb lx lk lo gg sd np o := by
    intro w6 hw f
    induction f with
    | zero => intro x6 _ _ e; exact absurd e (by simp [sX15_tryCastling_46])
    | succ f ih =>
      intro x6 u1 u2 e
      unfold sX15_tryCastling_46 sX15_tryCastling_207 sX15_tryCastling_197 sX15_tryCastling_196 at e
      simp only [nm] at e
      replace e := br_s e; rcases e with ⟨_, e⟩ | ⟨n0, e⟩
      · rw [← Option.some.inj e]; exact ⟨tf_0, Q⟩
      have n0 := nlt_i n0
      have z0 : (0 : Int32).toInt = 0 := rfl
      replace e := br_s e; rcases e with ⟨_, e⟩ | ⟨n1, e⟩
      · rw [← Option.some.inj e]; exact ⟨tf_0, Q⟩
      have n1 := nle_i n1
      have l64 := Q.2.2.2.2.2
      have nx : (w6 = (1 : Int32) → s.toInt < (x6 + w6).toInt) ∧ (w6 = (-1 : Int32) → (x6 + w6).toInt < s.toInt) := by
        have o1 : (1 : Int32).toInt = 1 := rfl
        have o2 : (-1 : Int32).toInt = -1 := rfl
        refine ⟨fun z => ?_, fun z => ?_⟩
        · have := u1 z
          rw [z, ta (by rw [o1]; omega), o1]; omega
        · have := u2 z
          rw [z, ta (by rw [o2]; omega), o2]; omega
      have go := fun e => ih (x6 := x6 + w6) nx.1 nx.2 e
      replace e := (gd_s e).2
      replace e := (gd_s e).2
      replace e := br_s e; rcases e with ⟨_, e⟩ | ⟨_, e⟩
      · replace e := br_s e; rcases e with ⟨_, e⟩ | ⟨_, e⟩
        · replace e := cl_s e; obtain ⟨M', em, e⟩ := e
          have y : M' = M := r_eq Q.1.1.2.2.2.1 em
          subst y
          replace e := (gd_s e).2
          replace e := br_s e; rcases e with ⟨_, e⟩ | ⟨nM, e⟩
          · exact go e
          have mx : 0 < (gg x6.toNatClampNeg).toInt := by
            have := nle_i nM
            rw [Q.2.2.2.1] at this
            exact this
          replace e := cl_s e; obtain ⟨_, _, e⟩ := e
          replace e := (gd_s e).2
          replace e := cl_s e; obtain ⟨o12, e12, e⟩ := e
          unfold sX15_sideOf at e12
          have := Option.some.inj e12; subst this
          dsimp only at e
          replace e := br_s e; rcases e with ⟨_, e⟩ | ⟨_, e⟩
          · replace e := cl_s e; obtain ⟨o14, e14, e⟩ := e
            rw [isop_h e14] at e
            replace e := br_s e; rcases e with ⟨_, e⟩ | ⟨_, e⟩
            · exact go e
            replace e := cl_s e; obtain ⟨o16, e16, e⟩ := e
            obtain ⟨k16, Q16⟩ := isa_l Q e16
            replace e := br_s e; rcases e with ⟨_, e⟩ | ⟨_, e⟩
            · replace e := cl_s e; obtain ⟨o18, e18, e⟩ := e
              obtain ⟨k18, Q18⟩ := isa_l Q16 e18
              replace e := br_s e; rcases e with ⟨_, e⟩ | ⟨_, e⟩
              · replace e := cl_s e; obtain ⟨o20, e20, e⟩ := e
                obtain ⟨k20, Q20⟩ := isa_l Q18 e20
                have kk := tf_t (tf_t k16 k18) k20
                replace e := br_s e; rcases e with ⟨_, e⟩ | ⟨_, e⟩
                · replace e := cl_s e; obtain ⟨_, _, e⟩ := e
                  replace e := cl_s e; obtain ⟨o23, e23, e⟩ := e
                  have E : E2 gg sd np s t (-1 : Int32) (2 : Int32) x6 := by
                    refine ⟨fun z => absurd rfl z, fun z => absurd z (by decide), fun _ => ⟨fun z => ?_, mx⟩, fun z => ?_, fun _ => ms⟩
                    · have y1 := nc_i (x := x6) (by omega)
                      have y2 := nc_i (x := s) hs.1
                      rcases hw with hw | hw
                      · have := u1 hw; omega
                      · have := u2 hw; omega
                    · rcases z with z | z <;> exact absurd z (by decide)
                  obtain ⟨k23, Q23⟩ := add_t Q20 E e23
                  rw [← Option.some.inj e]
                  exact ⟨tf_t (tf_3 kk) k23, Q23⟩
                · rw [← Option.some.inj e]; exact ⟨tf_3 kk, Q20⟩
              · rw [← Option.some.inj e]; exact ⟨tf_3 (tf_t k16 k18), Q18⟩
            · rw [← Option.some.inj e]; exact ⟨tf_3 k16, Q16⟩
          · exact go e
        · exact go e
      · rw [← Option.some.inj e]; exact ⟨tf_0, Q⟩
  have o3 : ((3 : Int32) * (1 : Int32)).toInt = 3 := rfl
  have o4 : ((3 : Int32) * (-1 : Int32)).toInt = -3 := rfl
  have hs' := hs
  obtain ⟨h1, h2⟩ := hs
  unfold sX15_tryCastling sX15_tryCastling_25 sX15_tryCastling_36 at e
  simp only [nm] at e
  replace e := (gd_s e).2
  replace e := (gd_s e).2
  replace e := br_s e; rcases e with ⟨_, e⟩ | ⟨_, e⟩
  · replace e := br_s e; rcases e with ⟨_, e⟩ | ⟨_, e⟩
    · replace e := br_s e; rcases e with ⟨_, e⟩ | ⟨_, e⟩
      · refine lp _ (Or.inr rfl) F (fun z => absurd z (by decide)) (fun _ => ?_) e
        rw [ta (by rw [o4]; omega), o4]; omega
      · refine lp _ (Or.inl rfl) F (fun _ => ?_) (fun z => absurd z (by decide)) e
        rw [ta (by rw [o3]; omega), o3]; omega
    · rw [← Option.some.inj e]; exact ⟨tf_0, Q⟩
  · rw [← Option.some.inj e]; exact ⟨tf_0, Q⟩
/-- steps -/
theorem ts_z {t m : Int32} {sq : Int} (ht : 0 ≤ t.toInt ∧ t.toInt < sq) (ms : 0 < (gg s.toNatClampNeg).toInt ∧ (gg s.toNatClampNeg - (1 : Int32)) &&& (1 : Int32) = sd) (Q : TZ ρ x0 l b S Fa Ct M P R A B Ri lf lt lm lb lx lk lo gg sd np h) (D : LdS S Fa Ct M sd sq np h) (e : sX15_trySteps F h x0 b s t m l = some o) : TF 2 ρ x0 l h o ∧ TZ ρ x0 l b S Fa Ct M P R A B Ri lf lt lm lb lx lk lo gg sd np o := by
  have nt := nc_i (x := t) ht.1
  have b207 : ∀ {g : Hp} {tk mo k : Int32}, TF 2 ρ x0 l h g ∧ TZ ρ x0 l b S Fa Ct M P R A B Ri lf lt lm lb lx lk lo gg sd np g → E2 gg sd np s t tk k mo → sX15_trySteps_207 F g s t m l tk mo k = some o → TF 2 ρ x0 l h o ∧ TZ ρ x0 l b S Fa Ct M P R A B Ri lf lt lm lb lx lk lo gg sd np o := by
    intro g tk mo k i0 E e
    unfold sX15_trySteps_207 sX15_trySteps_223 at e
    replace e := cl_s e; obtain ⟨g2, e8, e⟩ := e
    rw [← Option.some.inj e]
    obtain ⟨k2, Q2⟩ := add_t i0.2 E e8
    exact ⟨tf_t i0.1 k2, Q2⟩
  have loop : ∀ (tk mo k : Int32), E2 gg sd np s t tk k mo → ∀ (f : Nat) {g : Hp} {x9 : Int32}, TF 2 ρ x0 l h g ∧ TZ ρ x0 l b S Fa Ct M P R A B Ri lf lt lm lb lx lk lo gg sd np g → sX15_trySteps_152 F f g x0 s t m l tk mo k x9 = some o → TF 2 ρ x0 l h o ∧ TZ ρ x0 l b S Fa Ct M P R A B Ri lf lt lm lb lx lk lo gg sd np o := by
    intro tk mo k E f
    induction f with
    | zero => intro g x9 _ e; exact absurd e (by simp [sX15_trySteps_152])
    | succ f ih =>
      intro g x9 i0 e
      unfold sX15_trySteps_152 sX15_trySteps_223 at e
      simp only [nm] at e
      replace e := cl_s e; obtain ⟨_, _, e⟩ := e
      replace e := cl_s e; obtain ⟨_, _, e⟩ := e
      replace e := (gd_s e).2
      replace e := br_s e; rcases e with ⟨_, e⟩ | ⟨_, e⟩
      · rw [← Option.some.inj e]; exact i0
      replace e := cl_s e; obtain ⟨_, _, e⟩ := e
      replace e := cl_s e; obtain ⟨_, _, e⟩ := e
      replace e := (gd_s e).2
      replace e := cl_s e; obtain ⟨g2, e8, e⟩ := e
      obtain ⟨k2, Q2⟩ := add_t i0.2 E e8
      exact ih ⟨tf_t i0.1 k2, Q2⟩ e
  have b106 : ∀ {tk mo k : Int32}, E2 gg sd np s t tk k mo → sX15_trySteps_106 F h x0 b s t m l tk mo k = some o → TF 2 ρ x0 l h o ∧ TZ ρ x0 l b S Fa Ct M P R A B Ri lf lt lm lb lx lk lo gg sd np o := by
    intro tk mo k E e
    unfold sX15_trySteps_106 sX15_trySteps_149 at e
    replace e := cl_s e; obtain ⟨o1, e1, e⟩ := e
    rw [oth_post e1] at e
    replace e := br_s e; rcases e with ⟨_, e⟩ | ⟨_, e⟩
    · exact b207 ⟨tf_0, Q⟩ E e
    replace e := cl_s e; obtain ⟨o3, e3, e⟩ := e
    rw [(rank_post e3).1] at e
    replace e := br_s e; rcases e with ⟨_, e⟩ | ⟨_, e⟩
    · replace e := cl_s e; obtain ⟨_, _, e⟩ := e
      replace e := br_s e; rcases e with ⟨_, e⟩ | ⟨_, e⟩
      · exact loop _ _ _ E F ⟨tf_0, Q⟩ e
      replace e := br_s e; rcases e with ⟨_, e⟩ | ⟨_, e⟩
      · exact loop _ _ _ E F ⟨tf_0, Q⟩ e
      · exact b207 ⟨tf_0, Q⟩ E e
    · exact b207 ⟨tf_0, Q⟩ E e
  have fits : ∀ {tk mo k : Int32}, 0 ≤ (hI h S t.toNatClampNeg).toInt → mo.toInt ≤ 8 → ((k = (0 : Int32) ∧ hI h Ct t.toNatClampNeg = 0) ∨ (k = (1 : Int32) ∧ ¬ hI h Ct t.toNatClampNeg = 0)) → (hI h Ct t.toNatClampNeg = 0 → tk = (-1 : Int32) ∨ 0 < (gg t.toNatClampNeg).toInt) → E2 gg sd np s t tk k mo := by
    intro tk mo k s0 m8 kc tc
    obtain ⟨d1, d2, d3⟩ := D t.toNatClampNeg (by omega) s0
    rw [Q.2.2.2.1] at d1
    refine ⟨fun z1 z2 => ?_, fun z => ?_, fun z => ?_, fun _ => m8, fun _ => ms⟩
    · rcases kc with ⟨k0, c0⟩ | ⟨k1, _⟩
      · refine ⟨k0, (tc c0).resolve_left z1, fun z => ?_⟩
        rw [z] at d1
        rcases d1 with d1 | d1
        · have z0 : (0 : Int32).toInt = 0 := rfl
          omega
        · exact d1 ms.2
      · exact absurd k1 z2
    · rcases kc with ⟨k0, _⟩ | ⟨_, c1⟩
      · rw [k0] at z; exact absurd z (by decide)
      · exact d2 c1
    · rcases kc with ⟨k0, _⟩ | ⟨k1, _⟩
      · rw [k0] at z; exact absurd z (by decide)
      · rw [k1] at z; exact absurd z (by decide)
  have b90 : ∀ {tk mo : Int32}, 0 ≤ (hI h S t.toNatClampNeg).toInt → mo.toInt ≤ 8 → (hI h Ct t.toNatClampNeg = 0 → tk = (-1 : Int32) ∨ 0 < (gg t.toNatClampNeg).toInt) → sX15_trySteps_90 F h x0 b s t m l tk mo = some o → TF 2 ρ x0 l h o ∧ TZ ρ x0 l b S Fa Ct M P R A B Ri lf lt lm lb lx lk lo gg sd np o := by
    intro tk mo s0 m8 tc e
    unfold sX15_trySteps_90 at e
    replace e := cl_s e; obtain ⟨Ct', ec, e⟩ := e
    have y : Ct' = Ct := r_eq Q.1.1.2.2.1 ec
    subst y
    replace e := (gd_s e).2
    replace e := br_s e; rcases e with ⟨cz, e⟩ | ⟨cz, e⟩
    · exact b106 (fits s0 m8 (Or.inl ⟨rfl, cz⟩) tc) e
    · exact b106 (fits s0 m8 (Or.inr ⟨rfl, cz⟩) tc) e
  have b48 : ∀ {tk : Int32}, (hI h Ct t.toNatClampNeg = 0 → tk = (-1 : Int32) ∨ 0 < (gg t.toNatClampNeg).toInt) → sX15_trySteps_48 F h x0 b s t m l tk = some o → TF 2 ρ x0 l h o ∧ TZ ρ x0 l b S Fa Ct M P R A B Ri lf lt lm lb lx lk lo gg sd np o := by
    intro tk tc e
    unfold sX15_trySteps_48 sX15_trySteps_89 at e
    replace e := cl_s e; obtain ⟨_, _, e⟩ := e
    replace e := cl_s e; obtain ⟨_, _, e⟩ := e
    replace e := cl_s e; obtain ⟨S', es, e⟩ := e
    have y : S' = S := r_eq Q.1.1.1 es
    subst y
    replace e := (gd_s e).2
    have s0 := (inb_r (gd_s e).1).1
    have m8 : (0 : Int32).toInt ≤ 8 := by decide
    replace e := (gd_s e).2
    replace e := br_s e; rcases e with ⟨_, e⟩ | ⟨_, e⟩
    · exact b90 s0 m8 tc e
    replace e := cl_s e; obtain ⟨_, _, e⟩ := e
    replace e := (gd_s e).2
    replace e := br_s e; rcases e with ⟨_, e⟩ | ⟨_, e⟩
    · exact b90 s0 m8 tc e
    replace e := cl_s e; obtain ⟨Fa', ef, e⟩ := e
    have y : Fa' = Fa := r_eq Q.1.1.2.1 ef
    subst y
    replace e := (gd_s e).2
    exact b90 s0 (D t.toNatClampNeg (by omega) s0).2.2 tc e
  unfold sX15_trySteps at e
  replace e := cl_s e; obtain ⟨Ct', ec, e⟩ := e
  have y : Ct' = Ct := r_eq Q.1.1.2.2.1 ec
  subst y
  replace e := (gd_s e).2
  replace e := br_s e; rcases e with ⟨_, e⟩ | ⟨cz, e⟩
  · replace e := cl_s e; obtain ⟨M', em, e⟩ := e
    have y : M' = M := r_eq Q.1.1.2.2.2.1 em
    subst y
    replace e := (gd_s e).2
    replace e := br_s e; rcases e with ⟨_, e⟩ | ⟨nm', e⟩
    · exact b48 (fun _ => Or.inl rfl) e
    have mt : 0 < (gg t.toNatClampNeg).toInt := by
      have := nle_i nm'
      rw [Q.2.2.2.1] at this
      exact this
    replace e := cl_s e; obtain ⟨_, _, e⟩ := e
    replace e := (gd_s e).2
    replace e := cl_s e; obtain ⟨o9, e9, e⟩ := e
    unfold sX15_manOf at e9
    have := Option.some.inj e9
    subst this
    exact b48 (fun _ => Or.inr mt) e
  · replace e := cl_s e; obtain ⟨_, _, e⟩ := e
    replace e := cl_s e; obtain ⟨_, _, e⟩ := e
    replace e := (gd_s e).2
    replace e := (gd_s e).2
    replace e := cl_s e; obtain ⟨o9, e9, e⟩ := e
    unfold sX15_manOf at e9
    have := Option.some.inj e9
    subst this
    exact b48 (fun z => absurd z cz) e
end
end
section
/-! tryAll: the moves of its list fit the board -/
section
variable {ρ : Nat → Nat} {c : Cm} {h o g h0 : Hp} {x0 l b S Fa Ct M F P R A B Ri lf lt lm lb lx lk lo : Nat} {gg : Nat → Int32} {sd s q : Int32} {np : Int}
theorem drop_z {K : Hp → Nat → Nat → Nat → Int32 → Option Hp} {x3 : Int32} (hK : ∀ {g : Hp} {y : Int32}, TZ ρ x0 l b S Fa Ct M P R A B Ri lf lt lm lb lx lk lo gg sd np g → K g x0 b l y = some o → TF 1 ρ x0 l g o ∧ TZ ρ x0 l b S Fa Ct M P R A B Ri lf lt lm lb lx lk lo gg sd np o) : ∀ (f : Nat) {h : Hp} {x4 : Int32}, TZ ρ x0 l b S Fa Ct M P R A B Ri lf lt lm lb lx lk lo gg sd np h → sX15_tryAll_143 F K f h x0 b l x3 x4 = some o → TF 1 ρ x0 l h o ∧ TZ ρ x0 l b S Fa Ct M P R A B Ri lf lt lm lb lx lk lo gg sd np o := by
  intro f
  induction f with
  | zero => intro h x4 _ e; exact absurd e (by simp [sX15_tryAll_143])
  | succ f ih =>
    intro h x4 Q e
    unfold sX15_tryAll_143 sX15_tryAll_244 sX15_tryAll_201 sX15_tryAll_197 at e
    simp only [nm] at e
    have t202 : ∀ {t0 : Int32}, sX15_tryAll_202 F K (sX15_tryAll_143 F K f) h x0 b l x3 x4 t0 = some o → TF 1 ρ x0 l h o ∧ TZ ρ x0 l b S Fa Ct M P R A B Ri lf lt lm lb lx lk lo gg sd np o := by
      intro t0 e
      unfold sX15_tryAll_202 sX15_tryAll_238 at e
      simp only [nm] at e
      replace e := cl_s e; obtain ⟨_, _, e⟩ := e
      replace e := (gd_s e).2
      replace e := br_s e; rcases e with ⟨_, e⟩ | ⟨_, e⟩
      · exact ih Q e
      replace e := br_s e; rcases e with ⟨_, e⟩ | ⟨_, e⟩
      · replace e := cl_s e; obtain ⟨o5, e5, e⟩ := e
        have E : E2 gg sd np (-1 : Int32) x3 (-1 : Int32) (3 : Int32) (0 : Int32) := ⟨fun z => absurd rfl z, fun z => absurd z (by decide), fun z => absurd z (by decide), fun _ => by decide, fun z => absurd rfl z⟩
        obtain ⟨k5, Q5⟩ := add_t Q E e5
        obtain ⟨k6, Q6⟩ := ih Q5 e
        exact ⟨tf_t (tf_1 k5) k6, Q6⟩
      · exact ih Q e
    replace e := cl_s e; obtain ⟨_, _, e⟩ := e
    replace e := br_s e; rcases e with ⟨_, e⟩ | ⟨_, e⟩
    · exact hK Q e
    replace e := cl_s e; obtain ⟨_, _, e⟩ := e
    replace e := (gd_s e).2
    replace e := br_s e; rcases e with ⟨_, e⟩ | ⟨_, e⟩
    · replace e := cl_s e; obtain ⟨o6, e6, e⟩ := e
      rw [oth_post e6] at e
      replace e := br_s e; rcases e with ⟨_, e⟩ | ⟨_, e⟩
      · exact t202 e
      replace e := (gd_s e).2
      replace e := br_s e; rcases e with ⟨_, e⟩ | ⟨_, e⟩
      · exact t202 e
      replace e := (gd_s e).2
      replace e := br_s e; rcases e with ⟨_, e⟩ | ⟨_, e⟩
      · exact t202 e
      · exact t202 e
    · exact hK Q e
theorem drops_z : ∀ (f : Nat) {h : Hp} {x3 : Int32}, TZ ρ x0 l b S Fa Ct M P R A B Ri lf lt lm lb lx lk lo gg sd np h → sX15_tryAll_122 F f h x0 b l x3 = some o → TF 1 ρ x0 l h o ∧ TZ ρ x0 l b S Fa Ct M P R A B Ri lf lt lm lb lx lk lo gg sd np o := by
  intro f
  induction f with
  | zero => intro h x3 _ e; exact absurd e (by simp [sX15_tryAll_122])
  | succ f ih =>
    intro h x3 Q e
    unfold sX15_tryAll_122 sX15_tryAll_250 at e
    replace e := br_s e; rcases e with ⟨_, e⟩ | ⟨_, e⟩
    · rw [← Option.some.inj e]; exact ⟨tf_0, Q⟩
    replace e := cl_s e; obtain ⟨_, _, e⟩ := e
    replace e := br_s e; rcases e with ⟨_, e⟩ | ⟨_, e⟩
    · rw [← Option.some.inj e]; exact ⟨tf_0, Q⟩
    · exact drop_z (fun Q e => ih Q e) F Q e
theorem tall_z (Q : TZ ρ x0 l b S Fa Ct M P R A B Ri lf lt lm lb lx lk lo gg sd np h) (e : sX15_tryAll F h x0 b l = some o) : TF 1 ρ x0 l h o ∧ TZ ρ x0 l b S Fa Ct M P R A B Ri lf lt lm lb lx lk lo gg sd np o := by
  have z0 : (0 : Int32).toInt = 0 := rfl
  have z1 : (1 : Int32).toInt = 1 := rfl
  have outer : ∀ (f : Nat) {g : Hp} {x3 : Int32}, TZ ρ x0 l b S Fa Ct M P R A B Ri lf lt lm lb lx lk lo gg sd np g → 0 ≤ x3.toInt → sX15_tryAll_7 F f g x0 b l x3 = some o → TF 1 ρ x0 l g o ∧ TZ ρ x0 l b S Fa Ct M P R A B Ri lf lt lm lb lx lk lo gg sd np o := by
    intro f
    induction f with
    | zero => intro g x3 _ _ e; exact absurd e (by simp [sX15_tryAll_7])
    | succ f ih =>
      intro g x3 Q a3 e
      unfold sX15_tryAll_7 sX15_tryAll_114 at e
      simp only [nm] at e
      replace e := br_s e; rcases e with ⟨_, e⟩ | ⟨c3, e⟩
      · exact drops_z F Q e
      have c3 := nle_i c3
      have l64 := Q.2.2.2.2.2
      have ex : (x3 + (1 : Int32)).toInt = x3.toInt + 1 := ta (by rw [z1]; omega)
      replace e := cl_s e; obtain ⟨M', em, e⟩ := e
      have y : M' = M := r_eq Q.1.1.2.2.2.1 em
      subst y
      replace e := (gd_s e).2
      replace e := br_s e; rcases e with ⟨_, e⟩ | ⟨cv, e⟩
      · exact ih Q (by omega) e
      have cv := nle_i cv
      replace e := cl_s e; obtain ⟨o6, e6, e⟩ := e
      unfold sX15_sideOf at e6
      have := Option.some.inj e6; subst this
      dsimp only at e
      replace e := br_s e; rcases e with ⟨cs, e⟩ | ⟨_, e⟩
      · replace e := cl_s e; obtain ⟨o8, e8, e⟩ := e
        have rl := Q.2.1.2.1.1
        obtain ⟨k8, D8⟩ := lead_z (l := l) rl Q.1 l64 e8
        have L8 := l2_3 rfl Q.2.1 Q.1.2.1.1 k8 Q.2.2.1
        have Q8 := tz_k k8 L8 Q
        rw [Q.2.2.2.1] at cv cs D8 e
        rw [Q.2.2.2.2.1] at cs
        rw [cs] at D8
        obtain ⟨sq, hsq⟩ : ∃ sq, sq = (hI g x0 13).toInt := ⟨_, rfl⟩
        rw [← hsq] at D8 c3 l64
        have e13 : (hI o8 x0 13).toInt = sq := by
          rw [hsq, k8.2.2.2 x0 13 (Or.inl rfl) (Or.inr (by rw [Q.1.2.1.1]; decide)) (Or.inl rfl) (fun z => by rcases z.2 with w | w <;> exact absurd w (by decide))]
        have inner : ∀ (ff : Nat) {g : Hp} {x5 : Int32}, TZ ρ x0 l b S Fa Ct M' P R A B Ri lf lt lm lb lx lk lo gg sd np g → LdS S Fa Ct M' sd sq np g → (hI g x0 13).toInt = sq → 0 ≤ x5.toInt → sX15_tryAll_50 F (sX15_tryAll_7 F f) ff g x0 b l x3 (gg x3.toNatClampNeg) x5 = some o → TF 1 ρ x0 l g o ∧ TZ ρ x0 l b S Fa Ct M' P R A B Ri lf lt lm lb lx lk lo gg sd np o := by
          intro ff
          induction ff with
          | zero => intro g x5 _ _ _ _ e; exact absurd e (by simp [sX15_tryAll_50])
          | succ ff ih2 =>
            intro g x5 Q D hq a5 e
            unfold sX15_tryAll_50 sX15_tryAll_114 at e
            simp only [nm] at e
            replace e := br_s e; rcases e with ⟨_, e⟩ | ⟨c5, e⟩
            · exact ih Q (by omega) e
            have c5 := nle_i c5
            have ex5 : (x5 + (1 : Int32)).toInt = x5.toInt + 1 := ta (by rw [z1]; omega)
            have r0 := Q.1.2.1.1
            have rl := Q.2.1.2.1.1
            have k13 : ∀ {g o : Hp}, TF 2 ρ x0 l g o → (hI g x0 13).toInt = sq → (hI o x0 13).toInt = sq := fun {g o} k w => by
              rw [k.2.2.2 x0 13 (Or.inr (by rw [r0]; decide)) (Or.inl (Nat.le_refl 2)) (Or.inr (fun z => by rw [← z.1, r0] at rl; exact absurd rl (by decide))) (fun z => by rcases z.2 with w | w <;> exact absurd w (by decide))]; exact w
            have t84 : ∀ {g' : Hp}, TF 2 ρ x0 l g g' → TZ ρ x0 l b S Fa Ct M' P R A B Ri lf lt lm lb lx lk lo gg sd np g' → sX15_tryAll_84 F (sX15_tryAll_7 F f) (sX15_tryAll_50 F (sX15_tryAll_7 F f) ff) g' x0 b l x3 (gg x3.toNatClampNeg) x5 = some o → TF 1 ρ x0 l g o ∧ TZ ρ x0 l b S Fa Ct M' P R A B Ri lf lt lm lb lx lk lo gg sd np o := by
              intro g' k Q' e
              unfold sX15_tryAll_84 sX15_tryAll_108 at e
              simp only [nm] at e
              have D' := lds_k Q.1 rl k D
              have hq' := k13 k hq
              replace e := cl_s e; obtain ⟨o1, e1, e⟩ := e
              unfold sX15_manOf at e1
              have := Option.some.inj e1; subst this
              dsimp only at e
              replace e := cl_s e; obtain ⟨_, _, e⟩ := e
              replace e := br_s e; rcases e with ⟨_, e⟩ | ⟨_, e⟩
              · replace e := cl_s e; obtain ⟨o4, e4, e⟩ := e
                obtain ⟨k4, Q4⟩ := cas_z ⟨a3, by omega⟩ ⟨cv, cs⟩ Q' e4
                obtain ⟨k5, Q5⟩ := ih2 Q4 (lds_k Q'.1 rl k4 D') (k13 k4 hq') (by omega) e
                exact ⟨tf_t (tf_t (tf_1 k) (tf_1 k4)) k5, Q5⟩
              · obtain ⟨k5, Q5⟩ := ih2 Q' D' hq' (by omega) e
                exact ⟨tf_t (tf_1 k) k5, Q5⟩
            replace e := cl_s e; obtain ⟨_, _, e⟩ := e
            replace e := (gd_s e).2
            replace e := br_s e; rcases e with ⟨_, e⟩ | ⟨_, e⟩
            · exact t84 tf_0 Q e
            replace e := cl_s e; obtain ⟨o5, e5, e⟩ := e
            unfold sX15_manOf at e5
            have := Option.some.inj e5; subst this
            dsimp only at e
            replace e := cl_s e; obtain ⟨o6, e6, e⟩ := e
            obtain ⟨k6, Q6⟩ := ts_z (sq := sq) ⟨a5, by omega⟩ ⟨cv, cs⟩ Q D e6
            exact t84 k6 Q6 e
        obtain ⟨k9, Q9⟩ := inner F Q8 D8 e13 (by decide) e
        exact ⟨tf_t (tf_1 k8) k9, Q9⟩
      · exact ih Q (by omega) e
  unfold sX15_tryAll at e
  simp only [nm] at e
  have k1 : TF 1 ρ x0 l h (wI h l 0 (0 : Int32)) := tf_w (Or.inr (Or.inr (Or.inl ⟨by decide, rfl, rfl⟩)))
  obtain ⟨k2, Q2⟩ := outer F (tz_k k1 (fun i hi => by
    rw [r_I, if_pos ⟨rfl, rfl⟩] at hi
    exact absurd hi (by show ¬ (i : Int) < 0; omega)) Q) (by decide) e
  exact ⟨tf_t k1 k2, Q2⟩
end
end
section
/-! men on the board and in hand, counted -/
def mC (g : Nat → Int32) : Nat → Int
  | 0 => 0
  | n + 1 => mC g n + if 0 < (g n).toInt then 1 else 0
theorem mc_0 (g : Nat → Int32) : ∀ n, 0 ≤ mC g n := by
  intro n
  induction n with
  | zero => exact Int.le_refl _
  | succ n ih => rw [mC]; split <;> omega
theorem mc_le (g : Nat → Int32) : ∀ n, mC g n ≤ n := by
  intro n
  induction n with
  | zero => exact Int.le_refl _
  | succ n ih => rw [mC]; split <;> omega
theorem mc_eq {g g' : Nat → Int32} : ∀ n, (∀ i, i < n → g' i = g i) → mC g' n = mC g n := by
  intro n
  induction n with
  | zero => intro _; rfl
  | succ n ih => intro h; rw [mC, mC, ih (fun i hi => h i (by omega)), h n (by omega)]
theorem mc_up {g g' : Nat → Int32} {q : Nat} : ∀ n, q < n → (∀ i, i < n → ¬ i = q → g' i = g i) → mC g' n = mC g n - (if 0 < (g q).toInt then 1 else 0) + (if 0 < (g' q).toInt then 1 else 0) := by
  intro n
  induction n with
  | zero => intro h _; omega
  | succ n ih =>
    intro hq h
    rw [mC, mC]
    by_cases z : q = n
    · rw [mc_eq n (fun i hi => h i (by omega) (by omega)), z]; omega
    · rw [ih (by omega) (fun i hi => h i (by omega)), h n (by omega) (fun w => z w.symm)]; omega
theorem sh_eq {h o : Hp} {H d : Nat} : ∀ n, (∀ i, i < n → hI o H (2 * i + d) = hI h H (2 * i + d)) → sH o H d n = sH h H d n := by
  intro n
  induction n with
  | zero => intro _; rfl
  | succ n ih => intro k; rw [sH, sH, ih (fun i hi => k i (by omega)), k n (by omega)]
theorem sh_eq2 {h o : Hp} {H H' d : Nat} : ∀ n, (∀ i, i < n → hI o H' (2 * i + d) = hI h H (2 * i + d)) → sH o H' d n = sH h H d n := by
  intro n
  induction n with
  | zero => intro _; rfl
  | succ n ih => intro k; rw [sH, sH, ih (fun i hi => k i (by omega)), k n (by omega)]
theorem sh_up {h o : Hp} {H d q : Nat} : ∀ n, q < n → (∀ i, i < n → ¬ i = q → hI o H (2 * i + d) = hI h H (2 * i + d)) → sH o H d n = sH h H d n - (hI h H (2 * q + d)).toInt + (hI o H (2 * q + d)).toInt := by
  intro n
  induction n with
  | zero => intro h _; omega
  | succ n ih =>
    intro hq k
    rw [sH, sH]
    by_cases z : q = n
    · rw [sh_eq n (fun i hi => k i (by omega) (by omega)), z]; omega
    · rw [ih (by omega) (fun i hi => k i (by omega)), k n (by omega) (fun w => z w.symm)]; omega
/-- all men of a board -/
def tot (M H : Nat) (h : Hp) : Int := mC (hI h M) 64 + sH h H 0 12 + sH h H 1 12
theorem tot_M {h o : Hp} {M H q : Nat} {v : Int32} (hq : q < 64) (kH : ∀ i, hI o H i = hI h H i) (kM : ∀ i, hI o M i = if i = q then v else hI h M i) : tot M H o = tot M H h - (if 0 < (hI h M q).toInt then 1 else 0) + (if 0 < v.toInt then 1 else 0) := by
  unfold tot
  rw [sh_eq 12 (fun i _ => kH _), sh_eq 12 (fun i _ => kH _), mc_up (g := hI h M) (q := q) 64 hq (fun i _ n => by rw [kM, if_neg n]), kM q, if_pos rfl]
  omega
theorem tot_H {h o : Hp} {M H j : Nat} {v : Int32} (hj : j < 24) (kM : ∀ i, hI o M i = hI h M i) (kH : ∀ i, hI o H i = if i = j then v else hI h H i) : tot M H o = tot M H h - (hI h H j).toInt + v.toInt := by
  unfold tot
  rw [mc_eq 64 (fun i _ => kM i)]
  obtain ⟨q, hq⟩ : ∃ q, q = j / 2 := ⟨_, rfl⟩
  have ev : hI o H j = v := by rw [kH, if_pos rfl]
  rcases Nat.mod_two_eq_zero_or_one j with z | z
  · have ej : 2 * q + 0 = j := by omega
    rw [sh_up (d := 0) (q := q) (h := h) 12 (by omega) (fun i _ n => by rw [kH, if_neg (by omega)]), sh_eq (h := h) (d := 1) 12 (fun i _ => by rw [kH, if_neg (by omega)]), ej, ev]; omega
  · have ej : 2 * q + 1 = j := by omega
    rw [sh_up (d := 1) (q := q) (h := h) 12 (by omega) (fun i _ n => by rw [kH, if_neg (by omega)]), sh_eq (h := h) (d := 0) 12 (fun i _ => by rw [kH, if_neg (by omega)]), ej, ev]; omega
theorem crt_sub {a b : Int64} : ∀ n, (∀ i, i < n → bitJ b i = true → bitJ a i = true) → cRt b n ≤ cRt a n := by
  intro n
  induction n with
  | zero => intro _; exact Nat.le_refl _
  | succ n ih =>
    intro k
    rw [cRt, cRt]
    have := ih (fun i hi => k i (by omega))
    have kn := k n (by omega)
    cases w : bitJ b n with
    | false => simp; omega
    | true => rw [kn w]; simp; omega
theorem crt_and (a b : Int64) (n : Nat) : cRt (a &&& b) n ≤ cRt a n := crt_sub n (fun i _ w => by
  rw [bj_and] at w
  simp at w
  exact w.1)
/-- a board that can be written: few men, few rights, few squares gone over; who went over them stands on the first -/
def WrE (zq : Nat) (b : Nat) (h : Hp) : Prop := (∀ M H, hR h b 0 = some M → hR h b 5 = some H → tot M H h ≤ 96) ∧ cRt (hJ h b 2) zq ≤ 16 ∧ (hI h b 3).toInt ≤ 8 ∧ (0 < (hI h b 3).toInt → ∀ M P, hR h b 0 = some M → hR h b 4 = some P → 0 < (hI h M (hI h P 0).toNatClampNeg).toInt ∧ ¬ (hI h M (hI h P 0).toNatClampNeg - (1 : Int32)) &&& (1 : Int32) = hI h b 1)
section
variable {zq : Nat} {ρ : Nat → Nat} {c : Cm} {h o h2 : Hp} {x0 x1 b : Nat} {S : Nat → Nat → Nat → Bool}
theorem wr_fr (T : TH ρ c h) (rb : ρ b = 13) (f : Fr ρ (cat c S h) h h2) (s0 : ∀ i, i < 6 → S 13 (cw c b) i = false) (s4 : ∀ i, S 62 (cw c b) i = false) (s5 : ∀ i, S 63 (cw c b) i = false) (s6 : ∀ i, S 64 (cw c b) i = false) (P : WrE zq b h) : WrE zq b h2 := by
  have g : ∀ {a k j : Nat}, ρ a = k → k ≠ 0 → S k (cw c a) j = false → hI h2 a j = hI h a j ∧ hJ h2 a j = hJ h a j ∧ hR h2 a j = hR h a j := fun {a k j} ha hk hs => f.1 a j (by rw [ha]; exact hk) (by rw [ha]; exact hs)
  have g0 : ∀ {j : Nat}, j < 6 → hI h2 b j = hI h b j ∧ hJ h2 b j = hJ h b j ∧ hR h2 b j = hR h b j := fun hj => g rb (by decide) (s0 _ hj)
  obtain ⟨p1, p2, p3, p4⟩ := P
  have kM : ∀ {M i : Nat}, hR h b 0 = some M → hI h2 M i = hI h M i := fun {M i} e => (g (rr T (thR T rb (i := 0) (k2 := 62) rfl (by decide)) e) (by decide) (by rw [th_ih T rb (by decide) e rfl]; exact s4 _)).1
  have kP : ∀ {M i : Nat}, hR h b 4 = some M → hI h2 M i = hI h M i := fun {M i} e => (g (rr T (thR T rb (i := 4) (k2 := 63) rfl (by decide)) e) (by decide) (by rw [th_ih T rb (by decide) e rfl]; exact s5 _)).1
  have kH : ∀ {M i : Nat}, hR h b 5 = some M → hI h2 M i = hI h M i := fun {M i} e => (g (rr T (thR T rb (i := 5) (k2 := 64) rfl (by decide)) e) (by decide) (by rw [th_ih T rb (by decide) e rfl]; exact s6 _)).1
  refine ⟨fun M H e1 e2 => ?_, ?_, ?_, fun n M P e1 e2 => ?_⟩
  · rw [(g0 (by decide)).2.2] at e1 e2
    have := p1 M H e1 e2
    unfold tot at this ⊢
    rw [mc_eq 64 (fun i _ => kM e1), sh_eq 12 (fun i _ => kH e2), sh_eq 12 (fun i _ => kH e2)]
    exact this
  · rw [(g0 (by decide)).2.1]; exact p2
  · rw [(g0 (by decide)).1]; exact p3
  · rw [(g0 (by decide)).2.2] at e1 e2
    rw [(g0 (by decide)).1] at n
    rw [kP e2, kM e1, (g0 (by decide)).1]
    exact p4 n M P e1 e2
/-- what copy does to rights and lengths -/
theorem cpy_j (e : sX12_copy h x0 x1 = some o) : (∀ i, hJ o x0 2 = hJ h x1 2 ∧ (¬ i = 2 → hJ o x0 i = hJ h x0 i)) ∧ (∀ a i, ¬ a = x0 → hJ o a i = hJ h a i) ∧ (∀ a, hN o a = hN h a) := by
  unfold sX12_copy at e
  simp only [nm] at e
  replace e := cl_s e; obtain ⟨_, _, e⟩ := e
  replace e := cl_s e; obtain ⟨_, _, e⟩ := e
  iterate 5 replace e := (gd_s e).2
  replace e := cl_s e; obtain ⟨_, _, e⟩ := e
  replace e := cl_s e; obtain ⟨_, _, e⟩ := e
  iterate 5 replace e := (gd_s e).2
  replace e := cl_s e; obtain ⟨_, _, e⟩ := e
  replace e := cl_s e; obtain ⟨_, _, e⟩ := e
  iterate 5 replace e := (gd_s e).2
  replace e := cl_s e; obtain ⟨_, _, e⟩ := e
  replace e := cl_s e; obtain ⟨_, _, e⟩ := e
  iterate 2 replace e := (gd_s e).2
  replace e := cl_s e; obtain ⟨_, _, e⟩ := e
  replace e := cl_s e; obtain ⟨_, _, e⟩ := e
  iterate 2 replace e := (gd_s e).2
  have e := Option.some.inj e
  rw [← e]
  have key : ∀ (g : Hp) (v : Int64) (a i : Nat), hJ (wJ g x0 2 v) a i = if a = x0 ∧ i = 2 then v else hJ g a i := fun g v a i => r_J ..
  refine ⟨fun i => ⟨?_, fun n => ?_⟩, fun a i n => ?_, fun a => rfl⟩
  · exact (key _ _ x0 2).trans (if_pos ⟨rfl, rfl⟩)
  · exact (key _ _ x0 i).trans (if_neg (fun w => n w.2))
  · exact (key _ _ a i).trans (if_neg (fun w => n w.1))
theorem wr_copy (T : TH ρ c h) (r0 : ρ x0 = 13) (r1 : ρ x1 = 13) (P : WrE zq x1 h) (e : sX12_copy h x0 x1 = some o) : WrE zq x0 o := by
  obtain ⟨Mb, eMb, rMb⟩ := thR T r1 (i := 0) (k2 := 62) rfl (by decide)
  obtain ⟨Mt, eMt, rMt⟩ := thR T r0 (i := 0) (k2 := 62) rfl (by decide)
  obtain ⟨Pb, ePb, rPb⟩ := thR T r1 (i := 4) (k2 := 63) rfl (by decide)
  obtain ⟨Pt, ePt, rPt⟩ := thR T r0 (i := 4) (k2 := 63) rfl (by decide)
  obtain ⟨Hb, eHb, rHb⟩ := thR T r1 (i := 5) (k2 := 64) rfl (by decide)
  obtain ⟨Ht, eHt, rHt⟩ := thR T r0 (i := 5) (k2 := 64) rfl (by decide)
  obtain ⟨C, eC, rC⟩ := thR T r0 (i := 6) (k2 := 65) rfl (by decide)
  obtain ⟨f1, fM, fH, f3, f4, f5, f6, fo, _⟩ := cpy_post r0 r1 rMb rMt rPb rPt rHb rHt rC eMb eMt ePb ePt eHb eHt eC e
  have j2 := ((cpy_j e).1 0).1
  obtain ⟨p1, p2, p3, p4⟩ := P
  refine ⟨fun M H m1 m2 => ?_, by rw [j2]; exact p2, by rw [f4]; exact p3, fun n M P m1 m2 => ?_⟩
  · rw [f1] at m1 m2
    have y1 := r_eq eMt m1
    have y2 := r_eq eHt m2
    subst y1; subst y2
    have := p1 Mb Hb eMb eHb
    unfold tot at this ⊢
    have u1 : mC (hI o M) 64 = mC (hI h Mb) 64 := mc_eq 64 (fun i hi => fM i hi)
    rw [u1, sh_eq2 (h := h) (H := Hb) 12 (fun i hi => fH _ (by omega)), sh_eq2 (h := h) (H := Hb) 12 (fun i hi => fH _ (by omega))]
    exact this
  · rw [f1] at m1 m2
    have y1 := r_eq eMt m1
    have y2 := r_eq ePt m2
    subst y1; subst y2
    rw [f4] at n
    have c3 := nc_i (x := hI h x1 3) (by omega)
    have ip : Rg 0 63 (hI h Pb 0) := thI T rPb rfl
    rw [f5 0 (by omega), fM _ (by have := rg_clamp (n := 63) ip (by decide); omega), f3]
    exact p4 n Mb Pb eMb ePb
end
end
section
/-! make: no man is won, no right is won -/
theorem val_ps {k sd v : Int32} (hk : Rg 0 11 k) (hs : Rg 0 1 sd) (e : v = ((1 : Int32) + ((2 : Int32) * k)) + sd) : 0 < v.toInt ∧ (v - (1 : Int32)) &&& (1 : Int32) = sd := by
  obtain ⟨k0, k1⟩ := hk
  obtain ⟨s0, s1⟩ := hs
  have z1 : (1 : Int32).toInt = 1 := rfl
  have z2 : (2 : Int32).toInt = 2 := rfl
  have e1 : ((2 : Int32) * k).toInt = 2 * k.toInt := by rw [tm (by rw [z2]; omega), z2]
  have e2 : ((1 : Int32) + ((2 : Int32) * k)).toInt = 1 + 2 * k.toInt := by rw [ta (by rw [z1, e1]; omega), z1, e1]
  have e3 : v.toInt = 1 + 2 * k.toInt + sd.toInt := by rw [e, ta (by rw [e2]; omega), e2]
  have e4 : (v - (1 : Int32)).toInt = 2 * k.toInt + sd.toInt := by rw [ts (by rw [e3, z1]; omega), e3, z1]; omega
  refine ⟨by omega, ?_⟩
  have : ((v - (1 : Int32)) &&& (1 : Int32)).toInt = sd.toInt := by
    have w := and_i (x := v - (1 : Int32)) (y := (1 : Int32)) (m := 1) (by omega) (by decide) rfl
    rw [w, e4]
    show (2 * k.toInt + sd.toInt) % 2 = _
    omega
  exact Int32.toInt_inj.mp this
theorem oth_ne {sd : Int32} (hs : Rg 0 1 sd) : ¬ sd = (1 : Int32) - sd := fun z => by
  obtain ⟨s0, s1⟩ := hs
  have z1 : (1 : Int32).toInt = 1 := rfl
  have : ((1 : Int32) - sd).toInt = 1 - sd.toInt := by rw [ts (by rw [z1]; omega), z1]
  rw [← z] at this
  omega
section
variable {zq : Nat} {ρ : Nat → Nat} {c : Cm} {h o g h0 : Hp} {x0 x1 x2 x4 M P H C R A B P1 lb lx lk lo j F : Nat} {tk kd mo p0 x3 x5 x6 x7 x8 x10 : Int32}
theorem roy_h {y : Int32} {o : Int32 × Hp} {b : Nat} (e : sX15_royalOf F h x0 b y = some o) : o.2 = h := by
  have lp : ∀ (f : Nat) {x3 : Int32}, sX15_royalOf_2 F f h x0 b y x3 = some o → o.2 = h := by
    intro f
    induction f with
    | zero => intro x3 e; exact absurd e (by simp [sX15_royalOf_2])
    | succ f ih =>
      intro x3 e
      unfold sX15_royalOf_2 sX15_royalOf_49 at e
      simp only [nm] at e
      replace e := br_s e; rcases e with ⟨_, e⟩ | ⟨_, e⟩
      · rw [← Option.some.inj e]
      replace e := cl_s e; obtain ⟨_, _, e⟩ := e
      replace e := br_s e; rcases e with ⟨_, e⟩ | ⟨_, e⟩
      · rw [← Option.some.inj e]
      replace e := cl_s e; obtain ⟨_, _, e⟩ := e
      replace e := (gd_s e).2
      replace e := cl_s e; obtain ⟨_, _, e⟩ := e
      replace e := cl_s e; obtain ⟨o7, e7, e⟩ := e
      unfold sX15_valueOf at e7
      have := Option.some.inj e7; subst this
      dsimp only at e
      replace e := br_s e; rcases e with ⟨_, e⟩ | ⟨_, e⟩
      · rw [← Option.some.inj e]
      · exact ih e
  unfold sX15_royalOf at e
  exact lp F e
/-- what make leaves -/
def MfZ (x0 x4 M P H C : Nat) (h o : Hp) : Prop := (∀ a i, hR o a i = hR h a i) ∧ (∀ a, hN o a = hN h a) ∧ ∀ a i, ¬ a = M → ¬ a = P → ¬ a = H → ¬ a = C → ¬ a = x4 → ¬ (a = x0 ∧ (i = 23 ∨ i = 24)) → hI o a i = hI h a i
theorem mfz_0 : MfZ x0 x4 M P H C h h := ⟨fun _ _ => rfl, fun _ => rfl, fun _ _ _ _ _ _ _ _ => rfl⟩
theorem mfz_t (p : MfZ x0 x4 M P H C h g) (q : MfZ x0 x4 M P H C g o) : MfZ x0 x4 M P H C h o := ⟨fun a i => (q.1 a i).trans (p.1 a i), fun a => (q.2.1 a).trans (p.2.1 a), fun a i n1 n2 n3 n4 n5 n6 => (q.2.2 a i n1 n2 n3 n4 n5 n6).trans (p.2.2 a i n1 n2 n3 n4 n5 n6)⟩
theorem mfz_w {a i : Nat} {v : Int32} (e : a = M ∨ a = P ∨ a = H ∨ a = C ∨ a = x4) : MfZ x0 x4 M P H C h (wI h a i v) := ⟨fun _ _ => rfl, fun _ => rfl, fun b k n1 n2 n3 n4 n5 _ => by
  rw [r_I, if_neg]
  rintro ⟨q, _⟩
  subst q
  rcases e with e | e | e | e | e
  · exact n1 e
  · exact n2 e
  · exact n3 e
  · exact n4 e
  · exact n5 e⟩
theorem mfz_J {a i : Nat} {v : Int64} : MfZ x0 x4 M P H C h (wJ h a i v) := ⟨fun _ _ => rfl, fun _ => rfl, fun _ _ _ _ _ _ _ _ => rfl⟩
/-- where things lie, in make -/
def MkZ (ρ : Nat → Nat) (x0 x1 x2 x4 M P H C R A B P1 lb lx lk lo j : Nat) (tk kd mo p0 : Int32) (h : Hp) : Prop := (hR h x4 0 = some M ∧ hR h x4 4 = some P ∧ hR h x4 5 = some H ∧ hR h x4 6 = some C ∧ hR h x1 4 = some P1 ∧ hR h x2 4 = some lb ∧ hR h x2 5 = some lx ∧ hR h x2 6 = some lk ∧ hR h x2 7 = some lo) ∧ (ρ x4 = 13 ∧ ρ M = 62 ∧ ρ P = 63 ∧ ρ H = 64 ∧ ρ C = 65 ∧ ρ P1 = 63 ∧ ρ lb = 69 ∧ ρ lx = 70 ∧ ρ lk = 71 ∧ ρ lo = 72) ∧ ¬ P1 = P ∧ (hN h M = 64 ∧ hN h H = 24) ∧ (hI h lx j = tk ∧ hI h lk j = kd ∧ hI h lo j = mo ∧ hI h P1 0 = p0) ∧ Rg (-1) 11 (hI h lb j) ∧ AP ρ x0 R A B h
theorem mkz_k (k : MfZ x0 x4 M P H C h o) (Q : MkZ ρ x0 x1 x2 x4 M P H C R A B P1 lb lx lk lo j tk kd mo p0 h) : MkZ ρ x0 x1 x2 x4 M P H C R A B P1 lb lx lk lo j tk kd mo p0 o := by
  obtain ⟨⟨a1, a2, a3, a4, a5, a6, a7, a8, a9⟩, ⟨b1, b2, b3, b4, b5, b6, b7, b8, b9, b10⟩, np, ⟨n1, n2⟩, ⟨v1, v2, v3, v4⟩, vb, ⟨⟨c1, c2, c3⟩, ⟨d1, d2, d3⟩, e1, e2⟩⟩ := Q
  have kI : ∀ {a q : Nat} (i : Nat), ρ a = q → q ≠ 62 → q ≠ 63 → q ≠ 64 → q ≠ 65 → q ≠ 13 → q ≠ 16 → hI o a i = hI h a i := fun {a q} i ra y1 y2 y3 y4 y5 y6 => k.2.2 a i (fun z => y1 (by rw [← ra, z]; exact b2)) (fun z => y2 (by rw [← ra, z]; exact b3)) (fun z => y3 (by rw [← ra, z]; exact b4)) (fun z => y4 (by rw [← ra, z]; exact b5)) (fun z => y5 (by rw [← ra, z]; exact b1)) (fun z => y6 (by rw [← ra, z.1]; exact d1))
  have ne : ∀ {a d p q : Nat}, ρ a = p → ρ d = q → p ≠ q → ¬ a = d := fun ha hd hpq z => hpq (by rw [← ha, z]; exact hd)
  have kP : hI o P1 0 = hI h P1 0 := k.2.2 P1 0 (ne b6 b2 (by decide)) np (ne b6 b4 (by decide)) (ne b6 b5 (by decide)) (ne b6 b1 (by decide)) (fun z => ne b6 d1 (by decide) z.1)
  refine ⟨⟨by rw [k.1]; exact a1, by rw [k.1]; exact a2, by rw [k.1]; exact a3, by rw [k.1]; exact a4, by rw [k.1]; exact a5, by rw [k.1]; exact a6, by rw [k.1]; exact a7, by rw [k.1]; exact a8, by rw [k.1]; exact a9⟩, ⟨b1, b2, b3, b4, b5, b6, b7, b8, b9, b10⟩, np, ⟨by rw [k.2.1]; exact n1, by rw [k.2.1]; exact n2⟩, ⟨?_, ?_, ?_, by rw [kP]; exact v4⟩, ?_, ⟨⟨by rw [k.1]; exact c1, by rw [k.1]; exact c2, by rw [k.1]; exact c3⟩, ⟨d1, d2, d3⟩, fun i => ?_, fun i => ?_⟩⟩
  · rw [kI j b8 (by decide) (by decide) (by decide) (by decide) (by decide) (by decide)]; exact v1
  · rw [kI j b9 (by decide) (by decide) (by decide) (by decide) (by decide) (by decide)]; exact v2
  · rw [kI j b10 (by decide) (by decide) (by decide) (by decide) (by decide) (by decide)]; exact v3
  · rw [kI j b7 (by decide) (by decide) (by decide) (by decide) (by decide) (by decide)]; exact vb
  · rw [kI i d2 (by decide) (by decide) (by decide) (by decide) (by decide) (by decide)]; exact e1 i
  · rw [kI i d3 (by decide) (by decide) (by decide) (by decide) (by decide) (by decide)]; exact e2 i
/-- a board on which few men stand, y to move -/
def WrD (zq : Nat) (M P H x4 : Nat) (y : Int32) (h : Hp) : Prop := tot M H h ≤ 96 ∧ cRt (hJ h x4 2) zq ≤ 16 ∧ (hI h x4 3).toInt ≤ 8 ∧ (0 < (hI h x4 3).toInt → 0 < (hI h M (hI h P 0).toNatClampNeg).toInt ∧ ¬ (hI h M (hI h P 0).toNatClampNeg - (1 : Int32)) &&& (1 : Int32) = y)
theorem tot_k {H : Nat} (kM : ∀ i, hI o M i = hI h M i) (kH : ∀ i, hI o H i = hI h H i) : tot M H o = tot M H h := by
  unfold tot
  rw [mc_eq 64 (fun i _ => kM i), sh_eq 12 (fun i _ => kH _), sh_eq 12 (fun i _ => kH _)]
theorem wrd_k {y : Int32} (kM : ∀ i, hI o M i = hI h M i) (kP : ∀ i, hI o P i = hI h P i) (kH : ∀ i, hI o H i = hI h H i) (kJ : hJ o x4 2 = hJ h x4 2) (k3 : hI o x4 3 = hI h x4 3) (W : WrD zq M P H x4 y h) : WrD zq M P H x4 y o := by
  unfold WrD
  rw [tot_k kM kH, kJ, k3, kP, kM]
  exact W
theorem wrd_of (eM : hR h x4 0 = some M) (eP : hR h x4 4 = some P) (eH : hR h x4 5 = some H) (W : WrD zq M P H x4 (hI h x4 1) h) : WrE zq x4 h := by
  obtain ⟨w1, w2, w3, w4⟩ := W
  refine ⟨fun M' H' m1 m2 => ?_, w2, w3, fun n M' P' m1 m2 => ?_⟩
  · have y1 := r_eq eM m1
    have y2 := r_eq eH m2
    subst y1; subst y2; exact w1
  · have y1 := r_eq eM m1
    have y2 := r_eq eP m2
    subst y1; subst y2; exact w4 n
theorem mk_582 {t0 : Int32} (Q : MkZ ρ x0 x1 x2 x4 M P H C R A B P1 lb lx lk lo j tk kd mo p0 h) (W : WrD zq M P H x4 (hI h x4 1) h) (e : sX15_make_582 F h x0 x4 x5 t0 = some o) : WrE zq x4 o := by
  have fin : ∀ {g : Hp}, MkZ ρ x0 x1 x2 x4 M P H C R A B P1 lb lx lk lo j tk kd mo p0 g → WrD zq M P H x4 (hI g x4 1) g → WrE zq x4 g := fun Q W => wrd_of Q.1.1 Q.1.2.1 Q.1.2.2.1 W
  unfold sX15_make_582 sX15_make_626 at e
  simp only [nm] at e
  replace e := br_s e; rcases e with ⟨_, e⟩ | ⟨_, e⟩
  · rw [← Option.some.inj e]; exact fin Q W
  replace e := cl_s e; obtain ⟨o2, e2, e⟩ := e
  have k2 := ias_z (l := 0) Q.2.2.2.2.2.2 e2
  obtain ⟨b1, b2, b3, b4, b5, b6, b7, b8, b9, b10⟩ := Q.2.1
  have d1 := Q.2.2.2.2.2.2.2.1.1
  have kI : ∀ {a q : Nat} (i : Nat), ρ a = q → q ≠ 16 → hI o2.2 a i = hI h a i := fun {a q} i ra n => k2.2.2.2 a i (Or.inl rfl) (Or.inl (by decide)) (Or.inl rfl) (fun z => n (by rw [← ra, z.1]; exact d1))
  have Q2 : MkZ ρ x0 x1 x2 x4 M P H C R A B P1 lb lx lk lo j tk kd mo p0 o2.2 := mkz_k ⟨k2.1, k2.2.2.1, fun a i _ _ _ _ _ n => k2.2.2.2 a i (Or.inl rfl) (Or.inl (by decide)) (Or.inl rfl) n⟩ Q
  have W2 : WrD zq M P H x4 (hI o2.2 x4 1) o2.2 := by
    rw [kI 1 b1 (by decide)]
    exact wrd_k (fun i => kI i b2 (by decide)) (fun i => kI i b3 (by decide)) (fun i => kI i b4 (by decide)) (k2.2.1 _ _) (kI 3 b1 (by decide)) W
  replace e := br_s e; rcases e with ⟨_, e⟩ | ⟨_, e⟩
  · rw [← Option.some.inj e]; exact fin Q2 W2
  replace e := cl_s e; obtain ⟨C', ec, e⟩ := e
  have y : C' = C := r_eq Q2.1.2.2.2.1 ec
  subst y
  replace e := cl_s e; obtain ⟨_, _, e⟩ := e
  replace e := (gd_s e).2
  replace e := (gd_s e).2
  rw [← Option.some.inj e]
  have ne : ∀ {a d p q : Nat}, ρ a = p → ρ d = q → p ≠ q → ¬ a = d := fun ha hd hpq z => hpq (by rw [← ha, z]; exact hd)
  refine fin (mkz_k (mfz_w (Or.inr (Or.inr (Or.inr (Or.inl rfl))))) Q2) ?_
  rw [rI_a (ne b1 b5 (by decide))]
  exact wrd_k (fun i => rI_a (ne b2 b5 (by decide))) (fun i => rI_a (ne b3 b5 (by decide))) (fun i => rI_a (ne b4 b5 (by decide))) rfl (rI_a (ne b1 b5 (by decide))) W2
theorem mk_546 {t0 : Int32} (Q : MkZ ρ x0 x1 x2 x4 M P H C R A B P1 lb lx lk lo j tk kd mo p0 h) (W : WrD zq M P H x4 ((1 : Int32) - x5) h) (e : sX15_make_546 F h x0 x4 x5 t0 x4 = some o) : WrE zq x4 o := by
  unfold sX15_make_546 at e
  replace e := nm_s e; obtain ⟨h1, w1, e⟩ := e
  replace e := nm_s e; obtain ⟨h2, w2, e⟩ := e
  obtain ⟨b1, b2, b3, b4, b5, b6, b7, b8, b9, b10⟩ := Q.2.1
  have ne : ∀ {a d p q : Nat}, ρ a = p → ρ d = q → p ≠ q → ¬ a = d := fun ha hd hpq z => hpq (by rw [← ha, z]; exact hd)
  have k2 : MfZ x0 x4 M P H C h h2 := by
    rw [w2, w1]
    exact mfz_t (mfz_w (Or.inr (Or.inr (Or.inr (Or.inr rfl))))) (mfz_w (Or.inr (Or.inr (Or.inr (Or.inr rfl)))))
  have Q2 := mkz_k k2 Q
  have W2 : WrD zq M P H x4 (hI h2 x4 1) h2 := by
    have e1 : hI h2 x4 1 = (1 : Int32) - x5 := by rw [w2, rI_s]
    rw [e1]
    refine wrd_k (fun i => ?_) (fun i => ?_) (fun i => ?_) ?_ ?_ W
    · rw [w2, w1, rI_a (ne b2 b1 (by decide)), rI_a (ne b2 b1 (by decide))]
    · rw [w2, w1, rI_a (ne b3 b1 (by decide)), rI_a (ne b3 b1 (by decide))]
    · rw [w2, w1, rI_a (ne b4 b1 (by decide)), rI_a (ne b4 b1 (by decide))]
    · rw [w2, w1]; rfl
    · rw [w2, w1, rI_o (by decide), rI_o (by decide)]
  replace e := cl_s e; obtain ⟨_, _, e⟩ := e
  replace e := br_s e; rcases e with ⟨_, e⟩ | ⟨_, e⟩
  · exact mk_582 Q2 W2 e
  replace e := cl_s e; obtain ⟨o5, e5, e⟩ := e
  rw [roy_h e5] at e
  exact mk_582 Q2 W2 e
theorem mk_508 {x9 : Int32} (Q : MkZ ρ x0 x1 x2 x4 M P H C R A B P1 lb lx lk lo j tk kd mo p0 h) (W : WrD zq M P H x4 ((1 : Int32) - x5) h) (e : sX15_make_508 F h x0 x1 x4 x5 x8 x9 x10 = some o) : WrE zq x4 o := by
  unfold sX15_make_508 sX15_make_530 at e
  replace e := br_s e; rcases e with ⟨_, e⟩ | ⟨_, e⟩
  · replace e := br_s e; rcases e with ⟨_, e⟩ | ⟨_, e⟩
    · exact mk_546 Q W e
    replace e := cl_s e; obtain ⟨o3, e3, e⟩ := e
    rw [oth_post e3] at e
    replace e := br_s e; rcases e with ⟨_, e⟩ | ⟨_, e⟩
    · exact mk_546 Q W e
    · exact mk_546 Q W e
  · exact mk_546 Q W e
theorem mk_415 {x9 x11 : Int32} : ∀ (f : Nat) {h : Hp} {x12 : Int32}, MkZ ρ x0 x1 x2 x4 M P H C R A B P1 lb lx lk lo j tk kd mo p0 h → WrD zq M P H x4 ((1 : Int32) - x5) h → 1 ≤ x12.toInt → x12.toInt ≤ 9 → x11.toInt ≤ 8 → sX15_make_415 F f h x0 x1 x4 x5 x6 x7 x8 x9 x10 x11 x12 = some o → WrE zq x4 o := by
  intro f
  induction f with
  | zero => intro h x12 _ _ _ _ _ e; exact absurd e (by simp [sX15_make_415])
  | succ f ih =>
    intro h x12 Q W a1 a9 a8 e
    rw [sX15_make_415] at e
    replace e := br_s e; rcases e with ⟨_, e⟩ | ⟨n, e⟩
    · exact mk_508 Q W e
    have n := nle_i n
    replace e := (gd_s e).2
    replace e := (gd_s e).2
    replace e := (gd_s e).2
    replace e := (gd_s e).2
    replace e := nm_s e; obtain ⟨_, _, e⟩ := e
    replace e := (gd_s e).2
    replace e := (gd_s e).2
    replace e := (gd_s e).2
    replace e := (gd_s e).2
    replace e := nm_s e; obtain ⟨_, _, e⟩ := e
    replace e := cl_s e; obtain ⟨P', ep, e⟩ := e
    have y : P' = P := r_eq Q.1.2.1 ep
    subst y
    replace e := (gd_s e).2
    replace e := nm_s e; obtain ⟨h14, w14, e⟩ := e
    replace e := nm_s e; obtain ⟨v15, w15, e⟩ := e
    have z1 : (1 : Int32).toInt = 1 := rfl
    have t15 : v15.toInt = x12.toInt + 1 := by rw [w15, ta (by rw [z1]; omega), z1]
    obtain ⟨b1, b2, b3, b4, b5, b6, b7, b8, b9, b10⟩ := Q.2.1
    have ne : ∀ {a d p q : Nat}, ρ a = p → ρ d = q → p ≠ q → ¬ a = d := fun ha hd hpq z => hpq (by rw [← ha, z]; exact hd)
    have c12 := nc_i (x := x12) (by omega)
    refine ih (mkz_k (by rw [w14]; exact mfz_w (Or.inr (Or.inl rfl))) Q) ?_ (by omega) (by omega) a8 e
    obtain ⟨q1, q2, q3, q4⟩ := W
    have kM : ∀ i, hI h14 M i = hI h M i := fun i => by rw [w14, rI_a (ne b2 b3 (by decide))]
    have kH : ∀ i, hI h14 H i = hI h H i := fun i => by rw [w14, rI_a (ne b4 b3 (by decide))]
    have k3 : hI h14 x4 3 = hI h x4 3 := by rw [w14, rI_a (ne b1 b3 (by decide))]
    have kP : hI h14 P' 0 = hI h P' 0 := by rw [w14, rI_o (by omega)]
    refine ⟨by rw [tot_k kM kH]; exact q1, by rw [w14]; exact q2, by rw [k3]; exact q3, fun n => ?_⟩
    rw [k3] at n
    rw [kP, kM]
    exact q4 n
/-- the men have gone, the last squares are told -/
def MX (zq : Nat) (M H x4 : Nat) (kd x5 x7 : Int32) (h : Hp) : Prop := tot M H h ≤ 96 ∧ cRt (hJ h x4 2) zq ≤ 16 ∧ hI h x4 3 = 0 ∧ (¬ kd = (2 : Int32) → 0 < (hI h M x7.toNatClampNeg).toInt ∧ (hI h M x7.toNatClampNeg - (1 : Int32)) &&& (1 : Int32) = x5)
theorem mx_d {y : Int32} (X : MX zq M H x4 kd x5 x7 h) : WrD zq M P H x4 y h := by
  have z0 : (0 : Int32).toInt = 0 := rfl
  refine ⟨X.1, X.2.1, by rw [X.2.2.1]; decide, fun n => ?_⟩
  rw [X.2.2.1, z0] at n
  omega
theorem mk_365 {x9 : Int32} (hj : j = x3.toNatClampNeg) (h5 : Rg 0 1 x5) (m8 : kd = (0 : Int32) ∨ kd = (1 : Int32) → mo.toInt ≤ 8) (hk : Rg 0 3 kd) (Q : MkZ ρ x0 x1 x2 x4 M P H C R A B P1 lb lx lk lo j tk kd mo p0 h) (X : MX zq M H x4 kd x5 x7 h) (e : sX15_make_365 F h x0 x1 x2 x3 x4 x5 x6 x7 x8 x9 x10 = some o) : WrE zq x4 o := by
  subst hj
  unfold sX15_make_365 at e
  replace e := cl_s e; obtain ⟨lk', ek, e⟩ := e
  have y : lk' = lk := r_eq Q.1.2.2.2.2.2.2.2.1 ek
  subst y
  replace e := (gd_s e).2
  have vk := Q.2.2.2.2.1.2.1
  have vo := Q.2.2.2.2.1.2.2.1
  rw [vk] at e
  replace e := br_s e; rcases e with ⟨_, e⟩ | ⟨n2, e⟩
  · exact mk_508 Q (mx_d X) e
  have n2 := nle_i n2
  have z2 : (2 : Int32).toInt = 2 := rfl
  have z0 : (0 : Int32).toInt = 0 := rfl
  have z1 : (1 : Int32).toInt = 1 := rfl
  have k01 : kd = (0 : Int32) ∨ kd = (1 : Int32) := by
    have := hk.1
    by_cases w : kd.toInt = 0
    · exact Or.inl (Int32.toInt_inj.mp (by rw [w, z0]))
    · exact Or.inr (Int32.toInt_inj.mp (by rw [z1]; omega))
  have nk : ¬ kd = (2 : Int32) := fun w => by rw [w] at n2; omega
  replace e := cl_s e; obtain ⟨lo', eo, e⟩ := e
  have y : lo' = lo := r_eq Q.1.2.2.2.2.2.2.2.2 eo
  subst y
  replace e := (gd_s e).2
  rw [vo] at e
  replace e := br_s e; rcases e with ⟨_, e⟩ | ⟨n0, e⟩
  · exact mk_508 Q (mx_d X) e
  replace e := cl_s e; obtain ⟨lo'', eo', e⟩ := e
  have y : lo'' = lo' := r_eq eo eo'
  subst y
  replace e := (gd_s e).2
  replace e := nm_s e; obtain ⟨h9, w9, e⟩ := e
  rw [vo] at w9
  replace e := cl_s e; obtain ⟨P', ep, e⟩ := e
  have y : P' = P := r_eq Q.1.2.1 (by rw [w9] at ep; exact ep)
  subst y
  replace e := (gd_s e).2
  replace e := nm_s e; obtain ⟨h12, w12, e⟩ := e
  replace e := cl_s e; obtain ⟨lo3, eo3, e⟩ := e
  have y : lo3 = lo'' := r_eq eo (by rw [w12, w9] at eo3; exact eo3)
  subst y
  replace e := (gd_s e).2
  replace e := nm_s e; obtain ⟨v15, w15, e⟩ := e
  obtain ⟨b1, b2, b3, b4, b5, b6, b7, b8, b9, b10⟩ := Q.2.1
  have ne : ∀ {a d p q : Nat}, ρ a = p → ρ d = q → p ≠ q → ¬ a = d := fun ha hd hpq z => hpq (by rw [← ha, z]; exact hd)
  have k12 : MfZ x0 x4 M P' H C h h12 := by
    rw [w12, w9]
    exact mfz_t (mfz_w (Or.inr (Or.inr (Or.inr (Or.inr rfl))))) (mfz_w (Or.inr (Or.inl rfl)))
  have Q12 := mkz_k k12 Q
  rw [Q12.2.2.2.2.1.2.2.1] at w15
  have kM : ∀ i, hI h12 M i = hI h M i := fun i => by rw [w12, w9, rI_a (ne b2 b3 (by decide)), rI_a (ne b2 b1 (by decide))]
  have kH : ∀ i, hI h12 H i = hI h H i := fun i => by rw [w12, w9, rI_a (ne b4 b3 (by decide)), rI_a (ne b4 b1 (by decide))]
  refine mk_415 F Q12 ⟨by rw [tot_k kM kH]; exact X.1, by rw [w12, w9]; exact X.2.1, ?_, fun _ => ?_⟩ (by decide) (by decide) (by rw [w15]; exact m8 k01) e
  · rw [w12, rI_a (ne b1 b3 (by decide)), w9, rI_s]; exact m8 k01
  · have e0 : hI h12 P' 0 = x7 := by rw [w12]; exact rI_s
    rw [e0, kM]
    obtain ⟨u1, u2⟩ := X.2.2.2 nk
    exact ⟨u1, fun w => oth_ne h5 (u2.symm.trans w)⟩
end
end
