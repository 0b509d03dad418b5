/-! tryAll: the moves of its list fit the board -/
section
variable {ρ : Nat → Nat} {c : Cm} {h o g h0 : Hp} {x0 l b S Fa Ct M F P R A B Ri lf lt lm lb lx lk lo : Nat} {gg : Nat → Int32} {sd s q : Int32} {np : Int}
theorem drop_z {K : Hp → Nat → Nat → Nat → Int32 → Option Hp} {x3 : Int32} (hK : ∀ {g : Hp} {y : Int32}, TZ ρ x0 l b S Fa Ct M P R A B Ri lf lt lm lb lx lk lo gg sd np g → K g x0 b l y = some o → TF 1 ρ x0 l g o ∧ TZ ρ x0 l b S Fa Ct M P R A B Ri lf lt lm lb lx lk lo gg sd np o) : ∀ (f : Nat) {h : Hp} {x4 : Int32}, TZ ρ x0 l b S Fa Ct M P R A B Ri lf lt lm lb lx lk lo gg sd np h → sX15_tryAll_143 F K f h x0 b l x3 x4 = some o → TF 1 ρ x0 l h o ∧ TZ ρ x0 l b S Fa Ct M P R A B Ri lf lt lm lb lx lk lo gg sd np o := by
  intro f
  induction f with
  | zero => intro h x4 _ e; exact absurd e (by simp [sX15_tryAll_143])
  | succ f ih =>
    intro h x4 Q e
    unfold sX15_tryAll_143 sX15_tryAll_244 sX15_tryAll_201 sX15_tryAll_197 at e
    simp only [nm] at e
    have t202 : ∀ {t0 : Int32}, sX15_tryAll_202 F K (sX15_tryAll_143 F K f) h x0 b l x3 x4 t0 = some o → TF 1 ρ x0 l h o ∧ TZ ρ x0 l b S Fa Ct M P R A B Ri lf lt lm lb lx lk lo gg sd np o := by
      intro t0 e
      unfold sX15_tryAll_202 sX15_tryAll_238 at e
      simp only [nm] at e
      replace e := cl_s e; obtain ⟨_, _, e⟩ := e
      replace e := (gd_s e).2
      replace e := br_s e; rcases e with ⟨_, e⟩ | ⟨_, e⟩
      · exact ih Q e
      replace e := br_s e; rcases e with ⟨_, e⟩ | ⟨_, e⟩
      · replace e := cl_s e; obtain ⟨o5, e5, e⟩ := e
        have E : E2 gg sd np (-1 : Int32) x3 (-1 : Int32) (3 : Int32) (0 : Int32) := ⟨fun z => absurd rfl z, fun z => absurd z (by decide), fun z => absurd z (by decide), fun _ => by decide, fun z => absurd rfl z⟩
        obtain ⟨k5, Q5⟩ := add_t Q E e5
        obtain ⟨k6, Q6⟩ := ih Q5 e
        exact ⟨tf_t (tf_1 k5) k6, Q6⟩
      · exact ih Q e
    replace e := cl_s e; obtain ⟨_, _, e⟩ := e
    replace e := br_s e; rcases e with ⟨_, e⟩ | ⟨_, e⟩
    · exact hK Q e
    replace e := cl_s e; obtain ⟨_, _, e⟩ := e
    replace e := (gd_s e).2
    replace e := br_s e; rcases e with ⟨_, e⟩ | ⟨_, e⟩
    · replace e := cl_s e; obtain ⟨o6, e6, e⟩ := e
      rw [oth_post e6] at e
      replace e := br_s e; rcases e with ⟨_, e⟩ | ⟨_, e⟩
      · exact t202 e
      replace e := (gd_s e).2
      replace e := br_s e; rcases e with ⟨_, e⟩ | ⟨_, e⟩
      · exact t202 e
      replace e := (gd_s e).2
      replace e := br_s e; rcases e with ⟨_, e⟩ | ⟨_, e⟩
      · exact t202 e
      · exact t202 e
    · exact hK Q e
theorem drops_z : ∀ (f : Nat) {h : Hp} {x3 : Int32}, TZ ρ x0 l b S Fa Ct M P R A B Ri lf lt lm lb lx lk lo gg sd np h → sX15_tryAll_122 F f h x0 b l x3 = some o → TF 1 ρ x0 l h o ∧ TZ ρ x0 l b S Fa Ct M P R A B Ri lf lt lm lb lx lk lo gg sd np o := by
  intro f
  induction f with
  | zero => intro h x3 _ e; exact absurd e (by simp [sX15_tryAll_122])
  | succ f ih =>
    intro h x3 Q e
    unfold sX15_tryAll_122 sX15_tryAll_250 at e
    replace e := br_s e; rcases e with ⟨_, e⟩ | ⟨_, e⟩
    · rw [← Option.some.inj e]; exact ⟨tf_0, Q⟩
    replace e := cl_s e; obtain ⟨_, _, e⟩ := e
    replace e := br_s e; rcases e with ⟨_, e⟩ | ⟨_, e⟩
    · rw [← Option.some.inj e]; exact ⟨tf_0, Q⟩
    · exact drop_z (fun Q e => ih Q e) F Q e
theorem tall_z (Q : TZ ρ x0 l b S Fa Ct M P R A B Ri lf lt lm lb lx lk lo gg sd np h) (e : sX15_tryAll F h x0 b l = some o) : TF 1 ρ x0 l h o ∧ TZ ρ x0 l b S Fa Ct M P R A B Ri lf lt lm lb lx lk lo gg sd np o := by
  have z0 : (0 : Int32).toInt = 0 := rfl
  have z1 : (1 : Int32).toInt = 1 := rfl
  have outer : ∀ (f : Nat) {g : Hp} {x3 : Int32}, TZ ρ x0 l b S Fa Ct M P R A B Ri lf lt lm lb lx lk lo gg sd np g → 0 ≤ x3.toInt → sX15_tryAll_7 F f g x0 b l x3 = some o → TF 1 ρ x0 l g o ∧ TZ ρ x0 l b S Fa Ct M P R A B Ri lf lt lm lb lx lk lo gg sd np o := by
    intro f
    induction f with
    | zero => intro g x3 _ _ e; exact absurd e (by simp [sX15_tryAll_7])
    | succ f ih =>
      intro g x3 Q a3 e
      unfold sX15_tryAll_7 sX15_tryAll_114 at e
      simp only [nm] at e
      replace e := br_s e; rcases e with ⟨_, e⟩ | ⟨c3, e⟩
      · exact drops_z F Q e
      have c3 := nle_i c3
      have l64 := Q.2.2.2.2.2
      have ex : (x3 + (1 : Int32)).toInt = x3.toInt + 1 := ta (by rw [z1]; omega)
      replace e := cl_s e; obtain ⟨M', em, e⟩ := e
      have y : M' = M := r_eq Q.1.1.2.2.2.1 em
      subst y
      replace e := (gd_s e).2
      replace e := br_s e; rcases e with ⟨_, e⟩ | ⟨cv, e⟩
      · exact ih Q (by omega) e
      have cv := nle_i cv
      replace e := cl_s e; obtain ⟨o6, e6, e⟩ := e
      unfold sX15_sideOf at e6
      have := Option.some.inj e6; subst this
      dsimp only at e
      replace e := br_s e; rcases e with ⟨cs, e⟩ | ⟨_, e⟩
      · replace e := cl_s e; obtain ⟨o8, e8, e⟩ := e
        have rl := Q.2.1.2.1.1
        obtain ⟨k8, D8⟩ := lead_z (l := l) rl Q.1 l64 e8
        have L8 := l2_3 rfl Q.2.1 Q.1.2.1.1 k8 Q.2.2.1
        have Q8 := tz_k k8 L8 Q
        rw [Q.2.2.2.1] at cv cs D8 e
        rw [Q.2.2.2.2.1] at cs
        rw [cs] at D8
        obtain ⟨sq, hsq⟩ : ∃ sq, sq = (hI g x0 13).toInt := ⟨_, rfl⟩
        rw [← hsq] at D8 c3 l64
        have e13 : (hI o8 x0 13).toInt = sq := by
          rw [hsq, k8.2.2.2 x0 13 (Or.inl rfl) (Or.inr (by rw [Q.1.2.1.1]; decide)) (Or.inl rfl) (fun z => by rcases z.2 with w | w <;> exact absurd w (by decide))]
        have inner : ∀ (ff : Nat) {g : Hp} {x5 : Int32}, TZ ρ x0 l b S Fa Ct M' P R A B Ri lf lt lm lb lx lk lo gg sd np g → LdS S Fa Ct M' sd sq np g → (hI g x0 13).toInt = sq → 0 ≤ x5.toInt → sX15_tryAll_50 F (sX15_tryAll_7 F f) ff g x0 b l x3 (gg x3.toNatClampNeg) x5 = some o → TF 1 ρ x0 l g o ∧ TZ ρ x0 l b S Fa Ct M' P R A B Ri lf lt lm lb lx lk lo gg sd np o := by
          intro ff
          induction ff with
          | zero => intro g x5 _ _ _ _ e; exact absurd e (by simp [sX15_tryAll_50])
          | succ ff ih2 =>
            intro g x5 Q D hq a5 e
            unfold sX15_tryAll_50 sX15_tryAll_114 at e
            simp only [nm] at e
            replace e := br_s e; rcases e with ⟨_, e⟩ | ⟨c5, e⟩
            · exact ih Q (by omega) e
            have c5 := nle_i c5
            have ex5 : (x5 + (1 : Int32)).toInt = x5.toInt + 1 := ta (by rw [z1]; omega)
            have r0 := Q.1.2.1.1
            have rl := Q.2.1.2.1.1
            have k13 : ∀ {g o : Hp}, TF 2 ρ x0 l g o → (hI g x0 13).toInt = sq → (hI o x0 13).toInt = sq := fun {g o} k w => by
              rw [k.2.2.2 x0 13 (Or.inr (by rw [r0]; decide)) (Or.inl (Nat.le_refl 2)) (Or.inr (fun z => by rw [← z.1, r0] at rl; exact absurd rl (by decide))) (fun z => by rcases z.2 with w | w <;> exact absurd w (by decide))]; exact w
            have t84 : ∀ {g' : Hp}, TF 2 ρ x0 l g g' → TZ ρ x0 l b S Fa Ct M' P R A B Ri lf lt lm lb lx lk lo gg sd np g' → sX15_tryAll_84 F (sX15_tryAll_7 F f) (sX15_tryAll_50 F (sX15_tryAll_7 F f) ff) g' x0 b l x3 (gg x3.toNatClampNeg) x5 = some o → TF 1 ρ x0 l g o ∧ TZ ρ x0 l b S Fa Ct M' P R A B Ri lf lt lm lb lx lk lo gg sd np o := by
              intro g' k Q' e
              unfold sX15_tryAll_84 sX15_tryAll_108 at e
              simp only [nm] at e
              have D' := lds_k Q.1 rl k D
              have hq' := k13 k hq
              replace e := cl_s e; obtain ⟨o1, e1, e⟩ := e
              unfold sX15_manOf at e1
              have := Option.some.inj e1; subst this
              dsimp only at e
              replace e := cl_s e; obtain ⟨_, _, e⟩ := e
              replace e := br_s e; rcases e with ⟨_, e⟩ | ⟨_, e⟩
              · replace e := cl_s e; obtain ⟨o4, e4, e⟩ := e
                obtain ⟨k4, Q4⟩ := cas_z ⟨a3, by omega⟩ ⟨cv, cs⟩ Q' e4
                obtain ⟨k5, Q5⟩ := ih2 Q4 (lds_k Q'.1 rl k4 D') (k13 k4 hq') (by omega) e
                exact ⟨tf_t (tf_t (tf_1 k) (tf_1 k4)) k5, Q5⟩
              · obtain ⟨k5, Q5⟩ := ih2 Q' D' hq' (by omega) e
                exact ⟨tf_t (tf_1 k) k5, Q5⟩
            replace e := cl_s e; obtain ⟨_, _, e⟩ := e
            replace e := (gd_s e).2
            replace e := br_s e; rcases e with ⟨_, e⟩ | ⟨_, e⟩
            · exact t84 tf_0 Q e
            replace e := cl_s e; obtain ⟨o5, e5, e⟩ := e
            unfold sX15_manOf at e5
            have := Option.some.inj e5; subst this
            dsimp only at e
            replace e := cl_s e; obtain ⟨o6, e6, e⟩ := e
            obtain ⟨k6, Q6⟩ := ts_z (sq := sq) ⟨a5, by omega⟩ ⟨cv, cs⟩ Q D e6
            exact t84 k6 Q6 e
        obtain ⟨k9, Q9⟩ := inner F Q8 D8 e13 (by decide) e
        exact ⟨tf_t (tf_1 k8) k9, Q9⟩
      · exact ih Q (by omega) e
  unfold sX15_tryAll at e
  simp only [nm] at e
  have k1 : TF 1 ρ x0 l h (wI h l 0 (0 : Int32)) := tf_w (Or.inr (Or.inr (Or.inl ⟨by decide, rfl, rfl⟩)))
  obtain ⟨k2, Q2⟩ := outer F (tz_k k1 (fun i hi => by
    rw [r_I, if_pos ⟨rfl, rfl⟩] at hi
    exact absurd hi (by show ¬ (i : Int) < 0; omega)) Q) (by decide) e
  exact ⟨tf_t k1 k2, Q2⟩
end
