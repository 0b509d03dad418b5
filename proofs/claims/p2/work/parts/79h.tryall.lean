/-! all moves that are tried fit their board -/
section
variable {ρ : Nat → Nat} {c : Cm} {h o g h0 : Hp} {x0 l b S Fa Ct M F P R A B Ri : Nat} {sd s q : Int32} {np : Int}
/-- what attacks read -/
def AP (ρ : Nat → Nat) (x0 R A B : Nat) (h : Hp) : Prop := (hR h x0 4 = some R ∧ hR h R 6 = some A ∧ hR h R 7 = some B) ∧ (ρ x0 = 16 ∧ ρ A = 76 ∧ ρ B = 77) ∧ (∀ i, Rg (-7) 7 (hI h A i)) ∧ (∀ i, Rg (-7) 7 (hI h B i))
theorem ap_k (k : TF 3 ρ x0 l h o) (Q : AP ρ x0 R A B h) : AP ρ x0 R A B o := by
  obtain ⟨⟨a1, a2, a3⟩, ⟨b1, b2, b3⟩, c1, c2⟩ := Q
  have kI : ∀ {a q : Nat} (i : Nat), ρ a = q → q ≠ 16 → hI o a i = hI h a i := fun {a q} i ra n => k.2.2.2 a i (Or.inl rfl) (Or.inl (by decide)) (Or.inl rfl) (fun z => n (by rw [← ra, z.1]; exact b1))
  exact ⟨⟨by rw [k.1]; exact a1, by rw [k.1]; exact a2, by rw [k.1]; exact a3⟩, ⟨b1, b2, b3⟩, fun i => by rw [kI i b2 (by decide)]; exact c1 i, fun i => by rw [kI i b3 (by decide)]; exact c2 i⟩
theorem ap_of (Q : TP ρ x0 b S Fa Ct M P R A B Ri np h) : AP ρ x0 R A B h := by
  obtain ⟨⟨a1, a2, a3, a4, a5, a6, a7, a8, a9⟩, ⟨b1, b2, b3, b4, b5, b6, b7, b8, b9, b10, b11⟩, c1, c2, c3, c4, c5, c6⟩ := Q
  exact ⟨⟨a6, a7, a8⟩, ⟨b1, b9, b10⟩, c1, c2⟩
theorem hv_z {st d : Int32} {o : Int32 × Hp} (Q : AP ρ x0 R A B h) (e : sX15_hasVector h x0 st d sd = some o) : TF 3 ρ x0 l h o.2 := by
  obtain ⟨⟨a6, a7, a8⟩, _, c1, c2⟩ := Q
  obtain ⟨d1, d2, w, _, _⟩ := hv_post a6 a7 a8 c1 c2 e
  rw [w]
  exact tf_t (tf_w (Or.inr (Or.inr (Or.inr ⟨rfl, Or.inl rfl⟩)))) (tf_w (Or.inr (Or.inr (Or.inr ⟨rfl, Or.inr rfl⟩))))
theorem at_z {b' : Nat} {v m : Int32} : ∀ (f : Nat) {g : Hp} {i : Int32} {o' : Int32 × Hp}, AP ρ x0 R A B g → sX15_attacks_9 F f g x0 b' s v q m i = some o' → TF 3 ρ x0 l g o'.2 := by
  intro f
  induction f with
  | zero => intro g i o' _ e; exact absurd e (by simp [sX15_attacks_9])
  | succ f ih =>
    intro g i o' Q e
    unfold sX15_attacks_9 at e
    simp only [nm] at e
    replace e := cl_s e; obtain ⟨_, _, e⟩ := e
    replace e := cl_s e; obtain ⟨_, _, e⟩ := e
    replace e := (gd_s e).2
    replace e := br_s e; rcases e with ⟨_, e⟩ | ⟨_, e⟩
    · rw [← Option.some.inj e]; exact tf_0
    replace e := cl_s e; obtain ⟨_, _, e⟩ := e
    replace e := cl_s e; obtain ⟨_, _, e⟩ := e
    replace e := (gd_s e).2
    have inn : ∀ (ff : Nat) {g : Hp} {i st d : Int32}, AP ρ x0 R A B g → sX15_attacks_70 F (sX15_attacks_9 F f) ff g x0 b' s v q m i st d = some o' → TF 3 ρ x0 l g o'.2 := by
      intro ff
      induction ff with
      | zero => intro g i st d _ e; exact absurd e (by simp [sX15_attacks_70])
      | succ ff ih2 =>
        intro g i st d Q e
        unfold sX15_attacks_70 sX15_attacks_113 sX15_attacks_107 at e
        simp only [nm] at e
        replace e := br_s e; rcases e with ⟨_, e⟩ | ⟨_, e⟩
        · exact ih Q e
        replace e := cl_s e; obtain ⟨o2, e2, e⟩ := e
        unfold sX15_sideOf at e2
        have := Option.some.inj e2; subst this
        dsimp only at e
        replace e := cl_s e; obtain ⟨o3, e3, e⟩ := e
        have k3 : TF 3 ρ x0 l g o3.2 := hv_z Q e3
        have Q3 := ap_k k3 Q
        replace e := br_s e; rcases e with ⟨_, e⟩ | ⟨_, e⟩
        · exact tf_t k3 (ih2 Q3 e)
        replace e := cl_s e; obtain ⟨o5, e5, e⟩ := e
        have v5 : o5.2 = o3.2 := by unfold sX15_reaches at e5; exact rch_fr F e5
        rw [v5] at e
        replace e := br_s e; rcases e with ⟨_, e⟩ | ⟨_, e⟩
        · exact tf_t k3 (ih2 Q3 e)
        · rw [← Option.some.inj e]; exact k3
    replace e := br_s e; rcases e with ⟨_, e⟩ | ⟨_, e⟩
    · replace e := cl_s e; obtain ⟨o11, e11, e⟩ := e
      unfold sX15_sideOf at e11
      have := Option.some.inj e11; subst this
      dsimp only at e
      replace e := cl_s e; obtain ⟨o12, e12, e⟩ := e
      have := from_post e12
      rw [this] at e
      unfold sX15_attacks_113 at e
      simp only [nm] at e
      replace e := br_s e; rcases e with ⟨_, e⟩ | ⟨_, e⟩
      · exact ih Q e
      · exact inn F Q e
    · unfold sX15_attacks_113 at e
      simp only [nm] at e
      exact ih Q e
theorem isa_z {b' : Nat} {y : Int32} : ∀ (f : Nat) {g : Hp} {x4 : Int32} {o' : Int32 × Hp}, AP ρ x0 R A B g → sX15_isAttacked_3 F f g x0 b' q y x4 = some o' → TF 3 ρ x0 l g o'.2 := by
  intro f
  induction f with
  | zero => intro g x4 o' _ e; exact absurd e (by simp [sX15_isAttacked_3])
  | succ f ih =>
    intro g x4 o' Q e
    unfold sX15_isAttacked_3 sX15_isAttacked_56 at e
    simp only [nm] at e
    replace e := br_s e; rcases e with ⟨_, e⟩ | ⟨_, e⟩
    · rw [← Option.some.inj e]; exact tf_0
    replace e := cl_s e; obtain ⟨_, _, e⟩ := e
    replace e := (gd_s e).2
    replace e := br_s e; rcases e with ⟨_, e⟩ | ⟨_, e⟩
    · exact ih Q e
    replace e := cl_s e; obtain ⟨o6, e6, e⟩ := e
    unfold sX15_sideOf at e6
    have := Option.some.inj e6; subst this
    dsimp only at e
    replace e := br_s e; rcases e with ⟨_, e⟩ | ⟨_, e⟩
    · replace e := br_s e; rcases e with ⟨_, e⟩ | ⟨_, e⟩
      · exact ih Q e
      replace e := cl_s e; obtain ⟨o9, e9, e⟩ := e
      have k9 : TF 3 ρ x0 l g o9.2 := by
        unfold sX15_attacks at e9
        replace e9 := cl_s e9; obtain ⟨o1, e1, e9⟩ := e9
        unfold sX15_manOf at e1
        have := Option.some.inj e1; subst this
        exact at_z F Q e9
      replace e := br_s e; rcases e with ⟨_, e⟩ | ⟨_, e⟩
      · exact tf_t k9 (ih (ap_k k9 Q) e)
      · rw [← Option.some.inj e]; exact k9
    · exact ih Q e
theorem ias_z {b' : Nat} {y : Int32} {o' : Int32 × Hp} (Q : AP ρ x0 R A B g) (e : sX15_isAttacked F g x0 b' q y = some o') : TF 3 ρ x0 l g o'.2 := by
  unfold sX15_isAttacked at e
  exact isa_z F Q e
theorem isop_h {x2 x3 x : Int32} {o : Int32 × Hp} (e : sX15_isOpen F h b x x2 x3 = some o) : o.2 = h := by
  have lp : ∀ (f : Nat) {x4 : Int32}, sX15_isOpen_5 F f h b x2 x3 x4 = some o → o.2 = h := by
    intro f
    induction f with
    | zero => intro x4 e; exact absurd e (by simp [sX15_isOpen_5])
    | succ f ih =>
      intro x4 e
      unfold sX15_isOpen_5 at e
      simp only [nm] at e
      replace e := br_s e; rcases e with ⟨_, e⟩ | ⟨_, e⟩
      · rw [← Option.some.inj e]
      replace e := cl_s e; obtain ⟨_, _, e⟩ := e
      replace e := (gd_s e).2
      replace e := br_s e; rcases e with ⟨_, e⟩ | ⟨_, e⟩
      · exact ih e
      · rw [← Option.some.inj e]
  unfold sX15_isOpen at e
  simp only [nm] at e
  exact lp F e
/-- what is carried while moves of one man are tried -/
def TZ (ρ : Nat → Nat) (x0 l b S Fa Ct M P R A B Ri lf lt lm lb lx lk lo : Nat) (gg : Nat → Int32) (sd : Int32) (np : Int) (h : Hp) : Prop := TP ρ x0 b S Fa Ct M P R A B Ri np h ∧ LPz ρ l lf lt lm lb lx lk lo h ∧ L2 l lf lt lx lk lo gg sd np h ∧ (∀ i, hI h M i = gg i) ∧ hI h b 1 = sd ∧ (hI h x0 13).toInt ≤ 64
variable {lf lt lm lb lx lk lo : Nat} {gg : Nat → Int32}
theorem tz_k {z : Nat} (k : TF z ρ x0 l h o) (L : L2 l lf lt lx lk lo gg sd np o) (Q : TZ ρ x0 l b S Fa Ct M P R A B Ri lf lt lm lb lx lk lo gg sd np h) : TZ ρ x0 l b S Fa Ct M P R A B Ri lf lt lm lb lx lk lo gg sd np o := by
  obtain ⟨q1, q2, _, q4, q5, q6⟩ := Q
  have rl := q2.2.1.1
  have kI : ∀ {a q : Nat} (i : Nat), ρ a = q → ¬ (66 ≤ q ∧ q ≤ 72) → ¬ (87 ≤ q ∧ q ≤ 89) → q ≠ 14 → q ≠ 16 → hI o a i = hI h a i := fun {a q} i ra n1 n2 n3 n4 => k.2.2.2 a i (Or.inr (by rw [ra]; exact n1)) (Or.inr (by rw [ra]; exact n2)) (Or.inr (fun z => n3 (by rw [← ra, z.1]; exact rl))) (fun z => n4 (by rw [← ra, z.1]; exact q1.2.1.1))
  have e13 : hI o x0 13 = hI h x0 13 := k.2.2.2 x0 13 (Or.inr (by rw [q1.2.1.1]; decide)) (Or.inr (by rw [q1.2.1.1]; decide)) (Or.inr (fun z => by rw [← z.1, q1.2.1.1] at rl; exact absurd rl (by decide))) (fun z => by rcases z.2 with w | w <;> exact absurd w (by decide))
  exact ⟨tp_k rl k q1, lp_k k.1 k.2.2.1 q2, L, fun i => by rw [kI i q1.2.1.2.2.2.2.2.1 (by decide) (by decide) (by decide) (by decide)]; exact q4 i, by rw [kI 1 q1.2.1.2.1 (by decide) (by decide) (by decide) (by decide)]; exact q5, by rw [e13]; exact q6⟩
theorem l2_k (Q : LPz ρ l lf lt lm lb lx lk lo h) (r0 : ρ x0 = 16) (k : ∀ a i, 66 ≤ ρ a ∧ ρ a ≤ 72 ∨ (a = l ∧ i = 0) → hI o a i = hI h a i) (L : L2 l lf lt lx lk lo gg sd np h) : L2 l lf lt lx lk lo gg sd np o := fun i hi => by
  obtain ⟨_, ⟨b1, b2, b3, b4, b5, b6, b7, b8⟩, _⟩ := Q
  rw [k l 0 (Or.inr ⟨rfl, rfl⟩)] at hi
  rw [k lf i (Or.inl (by rw [b2]; decide)), k lt i (Or.inl (by rw [b3]; decide)), k lx i (Or.inl (by rw [b6]; decide)), k lk i (Or.inl (by rw [b7]; decide)), k lo i (Or.inl (by rw [b8]; decide))]
  exact L i hi
theorem lds_k {sq : Int} (Q : TP ρ x0 b S Fa Ct M P R A B Ri np h) (rl : ρ l = 14) (k : TF 2 ρ x0 l h o) (L : LdS S Fa Ct M sd sq np h) : LdS S Fa Ct M sd sq np o := fun t h1 h2 => by
  obtain ⟨_, ⟨b1, b2, b3, b4, b5, b6, b7, b8, b9, b10, b11⟩, _⟩ := Q
  have kI : ∀ {a q : Nat} (i : Nat), ρ a = q → ¬ (66 ≤ q ∧ q ≤ 72) → q ≠ 14 → q ≠ 16 → hI o a i = hI h a i := fun {a q} i ra n1 n3 n4 => k.2.2.2 a i (Or.inr (by rw [ra]; exact n1)) (Or.inl (Nat.le_refl 2)) (Or.inr (fun z => n3 (by rw [← ra, z.1]; exact rl))) (fun z => n4 (by rw [← ra, z.1]; exact b1))
  rw [kI t b3 (by decide) (by decide) (by decide)] at h2
  rw [kI t b6 (by decide) (by decide) (by decide), kI t b5 (by decide) (by decide) (by decide), kI t b4 (by decide) (by decide) (by decide)]
  exact L t h1 h2
/-- attacks keep the list -/
theorem l2_3 {z : Nat} (hz : z % 3 = 0) (Q : LPz ρ l lf lt lm lb lx lk lo h) (r0 : ρ x0 = 16) (k : TF z ρ x0 l h o) (L : L2 l lf lt lx lk lo gg sd np h) : L2 l lf lt lx lk lo gg sd np o := by
  have rl := Q.2.1.1
  refine l2_k Q r0 (fun a i w => k.2.2.2 a i (Or.inl hz) (Or.inr ?_) (Or.inl hz) (fun z => ?_)) L
  · rcases w with w | w
    · omega
    · rw [w.1, rl]; decide
  · rcases w with w | w
    · rw [z.1, r0] at w; omega
    · rw [← w.1, z.1, r0] at rl; exact absurd rl (by decide)
theorem isa_l {y : Int32} {b' : Nat} {o' : Int32 × Hp} (Q : TZ ρ x0 l b S Fa Ct M P R A B Ri lf lt lm lb lx lk lo gg sd np g) (e : sX15_isAttacked F g x0 b' q y = some o') : TF 3 ρ x0 l g o'.2 ∧ TZ ρ x0 l b S Fa Ct M P R A B Ri lf lt lm lb lx lk lo gg sd np o'.2 := by
  have k := ias_z (l := l) (ap_of Q.1) e
  exact ⟨k, tz_k k (l2_3 rfl Q.2.1 Q.1.2.1.1 k Q.2.2.1) Q⟩
theorem add_t {f t m bc tk k mo : Int32} (Q : TZ ρ x0 l b S Fa Ct M P R A B Ri lf lt lm lb lx lk lo gg sd np h) (E : E2 gg sd np f t tk k mo) (e : sX13_add h l f t m bc tk k mo = some o) : TF 2 ρ x0 l h o ∧ TZ ρ x0 l b S Fa Ct M P R A B Ri lf lt lm lb lx lk lo gg sd np o := by
  obtain ⟨k, L⟩ := add_z (x0 := x0) Q.2.1 Q.2.2.1 E e
  exact ⟨k, tz_k k L Q⟩
/-- castling -/
theorem cas_z {t : Int32} (hs : Rg 0 63 s) (ms : 0 < (gg s.toNatClampNeg).toInt ∧ (gg s.toNatClampNeg - (1 : Int32)) &&& (1 : Int32) = sd) (Q : TZ ρ x0 l b S Fa Ct M P R A B Ri lf lt lm lb lx lk lo gg sd np h) (e : sX15_tryCastling F h x0 b s t l = some o) : TF 2 ρ x0 l h o ∧ TZ ρ x0 l b S Fa Ct M P R A B Ri lf lt lm lb lx lk lo gg sd np o := by
  have lp : ∀ (w6 : Int32), (w6 = (1 : Int32) ∨ w6 = (-1 : Int32)) → ∀ (f : Nat) {x6 : Int32}, (w6 = (1 : Int32) → s.toInt < x6.toInt) → (w6 = (-1 : Int32) → x6.toInt < s.toInt) → sX15_tryCastling_46 F f h x0 b s t l w6 x6 = some o → TF 2 ρ x0 l h o ∧ TZ ρ x0 l b S Fa Ct M P R A B Ri lf lt lm lb lx lk lo gg sd np o := by
    intro w6 hw f
    induction f with
    | zero => intro x6 _ _ e; exact absurd e (by simp [sX15_tryCastling_46])
    | succ f ih =>
      intro x6 u1 u2 e
      unfold sX15_tryCastling_46 sX15_tryCastling_207 sX15_tryCastling_197 sX15_tryCastling_196 at e
      simp only [nm] at e
      replace e := br_s e; rcases e with ⟨_, e⟩ | ⟨n0, e⟩
      · rw [← Option.some.inj e]; exact ⟨tf_0, Q⟩
      have n0 := nlt_i n0
      have z0 : (0 : Int32).toInt = 0 := rfl
      replace e := br_s e; rcases e with ⟨_, e⟩ | ⟨n1, e⟩
      · rw [← Option.some.inj e]; exact ⟨tf_0, Q⟩
      have n1 := nle_i n1
      have l64 := Q.2.2.2.2.2
      have nx : (w6 = (1 : Int32) → s.toInt < (x6 + w6).toInt) ∧ (w6 = (-1 : Int32) → (x6 + w6).toInt < s.toInt) := by
        have o1 : (1 : Int32).toInt = 1 := rfl
        have o2 : (-1 : Int32).toInt = -1 := rfl
        refine ⟨fun z => ?_, fun z => ?_⟩
        · have := u1 z
          rw [z, ta (by rw [o1]; omega), o1]; omega
        · have := u2 z
          rw [z, ta (by rw [o2]; omega), o2]; omega
      have go := fun e => ih (x6 := x6 + w6) nx.1 nx.2 e
      replace e := (gd_s e).2
      replace e := (gd_s e).2
      replace e := br_s e; rcases e with ⟨_, e⟩ | ⟨_, e⟩
      · replace e := br_s e; rcases e with ⟨_, e⟩ | ⟨_, e⟩
        · replace e := cl_s e; obtain ⟨M', em, e⟩ := e
          have y : M' = M := r_eq Q.1.1.2.2.2.1 em
          subst y
          replace e := (gd_s e).2
          replace e := br_s e; rcases e with ⟨_, e⟩ | ⟨nM, e⟩
          · exact go e
          have mx : 0 < (gg x6.toNatClampNeg).toInt := by
            have := nle_i nM
            rw [Q.2.2.2.1] at this
            exact this
          replace e := cl_s e; obtain ⟨_, _, e⟩ := e
          replace e := (gd_s e).2
          replace e := cl_s e; obtain ⟨o12, e12, e⟩ := e
          unfold sX15_sideOf at e12
          have := Option.some.inj e12; subst this
          dsimp only at e
          replace e := br_s e; rcases e with ⟨_, e⟩ | ⟨_, e⟩
          · replace e := cl_s e; obtain ⟨o14, e14, e⟩ := e
            rw [isop_h e14] at e
            replace e := br_s e; rcases e with ⟨_, e⟩ | ⟨_, e⟩
            · exact go e
            replace e := cl_s e; obtain ⟨o16, e16, e⟩ := e
            obtain ⟨k16, Q16⟩ := isa_l Q e16
            replace e := br_s e; rcases e with ⟨_, e⟩ | ⟨_, e⟩
            · replace e := cl_s e; obtain ⟨o18, e18, e⟩ := e
              obtain ⟨k18, Q18⟩ := isa_l Q16 e18
              replace e := br_s e; rcases e with ⟨_, e⟩ | ⟨_, e⟩
              · replace e := cl_s e; obtain ⟨o20, e20, e⟩ := e
                obtain ⟨k20, Q20⟩ := isa_l Q18 e20
                have kk := tf_t (tf_t k16 k18) k20
                replace e := br_s e; rcases e with ⟨_, e⟩ | ⟨_, e⟩
                · replace e := cl_s e; obtain ⟨_, _, e⟩ := e
                  replace e := cl_s e; obtain ⟨o23, e23, e⟩ := e
                  have E : E2 gg sd np s t (-1 : Int32) (2 : Int32) x6 := by
                    refine ⟨fun z => absurd rfl z, fun z => absurd z (by decide), fun _ => ⟨fun z => ?_, mx⟩, fun z => ?_, fun _ => ms⟩
                    · have y1 := nc_i (x := x6) (by omega)
                      have y2 := nc_i (x := s) hs.1
                      rcases hw with hw | hw
                      · have := u1 hw; omega
                      · have := u2 hw; omega
                    · rcases z with z | z <;> exact absurd z (by decide)
                  obtain ⟨k23, Q23⟩ := add_t Q20 E e23
                  rw [← Option.some.inj e]
                  exact ⟨tf_t (tf_3 kk) k23, Q23⟩
                · rw [← Option.some.inj e]; exact ⟨tf_3 kk, Q20⟩
              · rw [← Option.some.inj e]; exact ⟨tf_3 (tf_t k16 k18), Q18⟩
            · rw [← Option.some.inj e]; exact ⟨tf_3 k16, Q16⟩
          · exact go e
        · exact go e
      · rw [← Option.some.inj e]; exact ⟨tf_0, Q⟩
  have o3 : ((3 : Int32) * (1 : Int32)).toInt = 3 := rfl
  have o4 : ((3 : Int32) * (-1 : Int32)).toInt = -3 := rfl
  have hs' := hs
  obtain ⟨h1, h2⟩ := hs
  unfold sX15_tryCastling sX15_tryCastling_25 sX15_tryCastling_36 at e
  simp only [nm] at e
  replace e := (gd_s e).2
  replace e := (gd_s e).2
  replace e := br_s e; rcases e with ⟨_, e⟩ | ⟨_, e⟩
  · replace e := br_s e; rcases e with ⟨_, e⟩ | ⟨_, e⟩
    · replace e := br_s e; rcases e with ⟨_, e⟩ | ⟨_, e⟩
      · refine lp _ (Or.inr rfl) F (fun z => absurd z (by decide)) (fun _ => ?_) e
        rw [ta (by rw [o4]; omega), o4]; omega
      · refine lp _ (Or.inl rfl) F (fun _ => ?_) (fun z => absurd z (by decide)) e
        rw [ta (by rw [o3]; omega), o3]; omega
    · rw [← Option.some.inj e]; exact ⟨tf_0, Q⟩
  · rw [← Option.some.inj e]; exact ⟨tf_0, Q⟩
/-- steps -/
theorem ts_z {t m : Int32} {sq : Int} (ht : 0 ≤ t.toInt ∧ t.toInt < sq) (ms : 0 < (gg s.toNatClampNeg).toInt ∧ (gg s.toNatClampNeg - (1 : Int32)) &&& (1 : Int32) = sd) (Q : TZ ρ x0 l b S Fa Ct M P R A B Ri lf lt lm lb lx lk lo gg sd np h) (D : LdS S Fa Ct M sd sq np h) (e : sX15_trySteps F h x0 b s t m l = some o) : TF 2 ρ x0 l h o ∧ TZ ρ x0 l b S Fa Ct M P R A B Ri lf lt lm lb lx lk lo gg sd np o := by
  have nt := nc_i (x := t) ht.1
  have b207 : ∀ {g : Hp} {tk mo k : Int32}, TF 2 ρ x0 l h g ∧ TZ ρ x0 l b S Fa Ct M P R A B Ri lf lt lm lb lx lk lo gg sd np g → E2 gg sd np s t tk k mo → sX15_trySteps_207 F g s t m l tk mo k = some o → TF 2 ρ x0 l h o ∧ TZ ρ x0 l b S Fa Ct M P R A B Ri lf lt lm lb lx lk lo gg sd np o := by
    intro g tk mo k i0 E e
    unfold sX15_trySteps_207 sX15_trySteps_223 at e
    replace e := cl_s e; obtain ⟨g2, e8, e⟩ := e
    rw [← Option.some.inj e]
    obtain ⟨k2, Q2⟩ := add_t i0.2 E e8
    exact ⟨tf_t i0.1 k2, Q2⟩
  have loop : ∀ (tk mo k : Int32), E2 gg sd np s t tk k mo → ∀ (f : Nat) {g : Hp} {x9 : Int32}, TF 2 ρ x0 l h g ∧ TZ ρ x0 l b S Fa Ct M P R A B Ri lf lt lm lb lx lk lo gg sd np g → sX15_trySteps_152 F f g x0 s t m l tk mo k x9 = some o → TF 2 ρ x0 l h o ∧ TZ ρ x0 l b S Fa Ct M P R A B Ri lf lt lm lb lx lk lo gg sd np o := by
    intro tk mo k E f
    induction f with
    | zero => intro g x9 _ e; exact absurd e (by simp [sX15_trySteps_152])
    | succ f ih =>
      intro g x9 i0 e
      unfold sX15_trySteps_152 sX15_trySteps_223 at e
      simp only [nm] at e
      replace e := cl_s e; obtain ⟨_, _, e⟩ := e
      replace e := cl_s e; obtain ⟨_, _, e⟩ := e
      replace e := (gd_s e).2
      replace e := br_s e; rcases e with ⟨_, e⟩ | ⟨_, e⟩
      · rw [← Option.some.inj e]; exact i0
      replace e := cl_s e; obtain ⟨_, _, e⟩ := e
      replace e := cl_s e; obtain ⟨_, _, e⟩ := e
      replace e := (gd_s e).2
      replace e := cl_s e; obtain ⟨g2, e8, e⟩ := e
      obtain ⟨k2, Q2⟩ := add_t i0.2 E e8
      exact ih ⟨tf_t i0.1 k2, Q2⟩ e
  have b106 : ∀ {tk mo k : Int32}, E2 gg sd np s t tk k mo → sX15_trySteps_106 F h x0 b s t m l tk mo k = some o → TF 2 ρ x0 l h o ∧ TZ ρ x0 l b S Fa Ct M P R A B Ri lf lt lm lb lx lk lo gg sd np o := by
    intro tk mo k E e
    unfold sX15_trySteps_106 sX15_trySteps_149 at e
    replace e := cl_s e; obtain ⟨o1, e1, e⟩ := e
    rw [oth_post e1] at e
    replace e := br_s e; rcases e with ⟨_, e⟩ | ⟨_, e⟩
    · exact b207 ⟨tf_0, Q⟩ E e
    replace e := cl_s e; obtain ⟨o3, e3, e⟩ := e
    rw [(rank_post e3).1] at e
    replace e := br_s e; rcases e with ⟨_, e⟩ | ⟨_, e⟩
    · replace e := cl_s e; obtain ⟨_, _, e⟩ := e
      replace e := br_s e; rcases e with ⟨_, e⟩ | ⟨_, e⟩
      · exact loop _ _ _ E F ⟨tf_0, Q⟩ e
      replace e := br_s e; rcases e with ⟨_, e⟩ | ⟨_, e⟩
      · exact loop _ _ _ E F ⟨tf_0, Q⟩ e
      · exact b207 ⟨tf_0, Q⟩ E e
    · exact b207 ⟨tf_0, Q⟩ E e
  have fits : ∀ {tk mo k : Int32}, 0 ≤ (hI h S t.toNatClampNeg).toInt → mo.toInt ≤ 8 → ((k = (0 : Int32) ∧ hI h Ct t.toNatClampNeg = 0) ∨ (k = (1 : Int32) ∧ ¬ hI h Ct t.toNatClampNeg = 0)) → (hI h Ct t.toNatClampNeg = 0 → tk = (-1 : Int32) ∨ 0 < (gg t.toNatClampNeg).toInt) → E2 gg sd np s t tk k mo := by
    intro tk mo k s0 m8 kc tc
    obtain ⟨d1, d2, d3⟩ := D t.toNatClampNeg (by omega) s0
    rw [Q.2.2.2.1] at d1
    refine ⟨fun z1 z2 => ?_, fun z => ?_, fun z => ?_, fun _ => m8, fun _ => ms⟩
    · rcases kc with ⟨k0, c0⟩ | ⟨k1, _⟩
      · refine ⟨k0, (tc c0).resolve_left z1, fun z => ?_⟩
        rw [z] at d1
        rcases d1 with d1 | d1
        · have z0 : (0 : Int32).toInt = 0 := rfl
          omega
        · exact d1 ms.2
      · exact absurd k1 z2
    · rcases kc with ⟨k0, _⟩ | ⟨_, c1⟩
      · rw [k0] at z; exact absurd z (by decide)
      · exact d2 c1
    · rcases kc with ⟨k0, _⟩ | ⟨k1, _⟩
      · rw [k0] at z; exact absurd z (by decide)
      · rw [k1] at z; exact absurd z (by decide)
  have b90 : ∀ {tk mo : Int32}, 0 ≤ (hI h S t.toNatClampNeg).toInt → mo.toInt ≤ 8 → (hI h Ct t.toNatClampNeg = 0 → tk = (-1 : Int32) ∨ 0 < (gg t.toNatClampNeg).toInt) → sX15_trySteps_90 F h x0 b s t m l tk mo = some o → TF 2 ρ x0 l h o ∧ TZ ρ x0 l b S Fa Ct M P R A B Ri lf lt lm lb lx lk lo gg sd np o := by
    intro tk mo s0 m8 tc e
    unfold sX15_trySteps_90 at e
    replace e := cl_s e; obtain ⟨Ct', ec, e⟩ := e
    have y : Ct' = Ct := r_eq Q.1.1.2.2.1 ec
    subst y
    replace e := (gd_s e).2
    replace e := br_s e; rcases e with ⟨cz, e⟩ | ⟨cz, e⟩
    · exact b106 (fits s0 m8 (Or.inl ⟨rfl, cz⟩) tc) e
    · exact b106 (fits s0 m8 (Or.inr ⟨rfl, cz⟩) tc) e
  have b48 : ∀ {tk : Int32}, (hI h Ct t.toNatClampNeg = 0 → tk = (-1 : Int32) ∨ 0 < (gg t.toNatClampNeg).toInt) → sX15_trySteps_48 F h x0 b s t m l tk = some o → TF 2 ρ x0 l h o ∧ TZ ρ x0 l b S Fa Ct M P R A B Ri lf lt lm lb lx lk lo gg sd np o := by
    intro tk tc e
    unfold sX15_trySteps_48 sX15_trySteps_89 at e
    replace e := cl_s e; obtain ⟨_, _, e⟩ := e
    replace e := cl_s e; obtain ⟨_, _, e⟩ := e
    replace e := cl_s e; obtain ⟨S', es, e⟩ := e
    have y : S' = S := r_eq Q.1.1.1 es
    subst y
    replace e := (gd_s e).2
    have s0 := (inb_r (gd_s e).1).1
    have m8 : (0 : Int32).toInt ≤ 8 := by decide
    replace e := (gd_s e).2
    replace e := br_s e; rcases e with ⟨_, e⟩ | ⟨_, e⟩
    · exact b90 s0 m8 tc e
    replace e := cl_s e; obtain ⟨_, _, e⟩ := e
    replace e := (gd_s e).2
    replace e := br_s e; rcases e with ⟨_, e⟩ | ⟨_, e⟩
    · exact b90 s0 m8 tc e
    replace e := cl_s e; obtain ⟨Fa', ef, e⟩ := e
    have y : Fa' = Fa := r_eq Q.1.1.2.1 ef
    subst y
    replace e := (gd_s e).2
    exact b90 s0 (D t.toNatClampNeg (by omega) s0).2.2 tc e
  unfold sX15_trySteps at e
  replace e := cl_s e; obtain ⟨Ct', ec, e⟩ := e
  have y : Ct' = Ct := r_eq Q.1.1.2.2.1 ec
  subst y
  replace e := (gd_s e).2
  replace e := br_s e; rcases e with ⟨_, e⟩ | ⟨cz, e⟩
  · replace e := cl_s e; obtain ⟨M', em, e⟩ := e
    have y : M' = M := r_eq Q.1.1.2.2.2.1 em
    subst y
    replace e := (gd_s e).2
    replace e := br_s e; rcases e with ⟨_, e⟩ | ⟨nm', e⟩
    · exact b48 (fun _ => Or.inl rfl) e
    have mt : 0 < (gg t.toNatClampNeg).toInt := by
      have := nle_i nm'
      rw [Q.2.2.2.1] at this
      exact this
    replace e := cl_s e; obtain ⟨_, _, e⟩ := e
    replace e := (gd_s e).2
    replace e := cl_s e; obtain ⟨o9, e9, e⟩ := e
    unfold sX15_manOf at e9
    have := Option.some.inj e9
    subst this
    exact b48 (fun _ => Or.inr mt) e
  · replace e := cl_s e; obtain ⟨_, _, e⟩ := e
    replace e := cl_s e; obtain ⟨_, _, e⟩ := e
    replace e := (gd_s e).2
    replace e := (gd_s e).2
    replace e := cl_s e; obtain ⟨o9, e9, e⟩ := e
    unfold sX15_manOf at e9
    have := Option.some.inj e9
    subst this
    exact b48 (fun z => absurd z cz) e
end
