/-! the moves that are tried, by their squares -/
theorem inc_le (x : Int32) : (x + (1 : Int32)).toInt ≤ x.toInt + 1 := by
  by_cases w : x.toInt + 1 ≤ 2147483647
  · have := (rg_top x).1
    rw [ta (by show _ ≤ x.toInt + 1 ∧ x.toInt + 1 ≤ _; omega)]
    exact Int.le_refl _
  · have := (rg_top (x + (1 : Int32))).2
    omega
theorem no_right {h : Hp} {b : Nat} (rz : hJ h b 2 = 0) (x : Int32) : ¬ (lg_cmp (((hJ h b 2) >>> (x.toInt64 &&& 63)) &&& (1 : Int64)) (1 : Int64)) = 0 := by
  intro w
  have z : (((hJ h b 2) >>> (x.toInt64 &&& 63)) &&& (1 : Int64)) = 0 := by
    rw [rz]
    have : (0 : Int64) >>> (x.toInt64 &&& 63) = 0 := by
      apply Int64.toBitVec_inj.mp
      show BitVec.sshiftRight' 0 _ = 0
      simp
    rw [this]
    rfl
  rw [z] at w
  exact absurd w (by decide)
/-- the rows of a list of moves -/
def LsR (ρ : Nat → Nat) (l lf lt lm lb lx lk lo : Nat) (h0 : Hp) : Prop := (ρ l = 14 ∧ ρ lf = 66 ∧ ρ lt = 67 ∧ ρ lm = 68 ∧ ρ lb = 69 ∧ ρ lx = 70 ∧ ρ lk = 71 ∧ ρ lo = 72) ∧ (hR h0 l 1 = some lf ∧ hR h0 l 2 = some lt ∧ hR h0 l 3 = some lm ∧ hR h0 l 4 = some lb ∧ hR h0 l 5 = some lx ∧ hR h0 l 6 = some lk ∧ hR h0 l 7 = some lo)
/-- all moves of a list go from and to squares that are so -/
def LA (A : Int32 → Int32 → Prop) (l lf lt : Nat) (h : Hp) : Prop := ∀ i : Nat, (i : Int) < (hI h l 0).toInt → A (hI h lf i) (hI h lt i)
section
variable {ρ : Nat → Nat} {A : Int32 → Int32 → Prop} {l lf lt lm lb lx lk lo F : Nat} {h0 h o : Hp} {f t m bc tk k mo : Int32}
theorem add_q (Q : LsR ρ l lf lt lm lb lx lk lo h0) (fr : Fq ρ h0 h) (P : LA A l lf lt h) (a : A f t) (e : sX13_add h l f t m bc tk k mo = some o) : Fq ρ h0 o ∧ LA A l lf lt o := by
  obtain ⟨⟨r_l, r_lf, r_lt, r_lm, r_lb, r_lx, r_lk, r_lo⟩, ⟨e_lf, e_lt, e_lm, e_lb, e_lx, e_lk, e_lo⟩⟩ := Q
  have e_lf := fqR fr r_l e_lf
  have e_lt := fqR fr r_l e_lt
  have e_lm := fqR fr r_l e_lm
  have e_lb := fqR fr r_l e_lb
  have e_lx := fqR fr r_l e_lx
  have e_lk := fqR fr r_l e_lk
  have e_lo := fqR fr r_l e_lo
  obtain ⟨_, z0, z⟩ := add_post r_l r_lf r_lt r_lm r_lb r_lx r_lk r_lo e_lf e_lt e_lm e_lb e_lx e_lk e_lo e
  unfold sX13_add at e
  simp only [nm] at e
  replace e := cl_s e; obtain ⟨q1, w, e⟩ := e
  have := r_eq e_lf w; subst this
  have gB := (gd_s e).1
  replace e := (gd_s e).2
  replace e := cl_s e; obtain ⟨q2, w, e⟩ := e
  replace w : hR h l 2 = some q2 := w
  have := r_eq e_lt w; subst this
  replace e := (gd_s e).2
  replace e := cl_s e; obtain ⟨q3, w, e⟩ := e
  replace w : hR h l 3 = some q3 := w
  have := r_eq e_lm w; subst this
  replace e := (gd_s e).2
  replace e := cl_s e; obtain ⟨q4, w, e⟩ := e
  replace w : hR h l 4 = some q4 := w
  have := r_eq e_lb w; subst this
  replace e := (gd_s e).2
  replace e := cl_s e; obtain ⟨q5, w, e⟩ := e
  replace w : hR h l 5 = some q5 := w
  have := r_eq e_lx w; subst this
  replace e := (gd_s e).2
  replace e := cl_s e; obtain ⟨q6, w, e⟩ := e
  replace w : hR h l 6 = some q6 := w
  have := r_eq e_lk w; subst this
  replace e := (gd_s e).2
  replace e := cl_s e; obtain ⟨q7, w, e⟩ := e
  replace w : hR h l 7 = some q7 := w
  have := r_eq e_lo w; subst this
  replace e := (gd_s e).2
  have e := Option.some.inj e
  constructor
  · rw [← e]
    exact fq_w (fq_w (fq_w (fq_w (fq_w (fq_w (fq_w (fq_w fr r_lf) r_lt) r_lm) r_lb) r_lx) r_lk) r_lo) r_l
  · intro i hi
    rw [z0] at hi
    have := inc_le (hI h l 0)
    obtain ⟨z1, z2, _⟩ := z i
    rw [z1, z2]
    by_cases w : i = (hI h l 0).toNatClampNeg
    · rw [if_pos w, if_pos w]; exact a
    · rw [if_neg w, if_neg w]
      refine P i ?_
      have := nc_i (inb0 gB)
      omega
theorem add_S {S j : Nat} (Q : LsR ρ l lf lt lm lb lx lk lo h0) (fr : Fq ρ h0 h) (rS : ρ S = 87) (e : sX13_add h l f t m bc tk k mo = some o) : hI o S j = hI h S j := by
  obtain ⟨⟨r_l, r_lf, r_lt, r_lm, r_lb, r_lx, r_lk, r_lo⟩, ⟨e_lf, e_lt, e_lm, e_lb, e_lx, e_lk, e_lo⟩⟩ := Q
  obtain ⟨z, _, _⟩ := add_post r_l r_lf r_lt r_lm r_lb r_lx r_lk r_lo (fqR fr r_l e_lf) (fqR fr r_l e_lt) (fqR fr r_l e_lm) (fqR fr r_l e_lb) (fqR fr r_l e_lx) (fqR fr r_l e_lk) (fqR fr r_l e_lo) e
  exact z.2.2 S j (by rw [rS]; decide) (fun w => absurd (w.1 ▸ rS) (by rw [r_l]; decide))
/-- trySteps adds moves from s to t alone -/
theorem ts_inv {I : Hp → Prop} {x0 b : Nat} {s t m : Int32} (K : ∀ g g2 bc tk k mo, I g → sX13_add g l s t m bc tk k mo = some g2 → I g2) (i0 : I h) (e : sX15_trySteps F h x0 b s t m l = some o) : I o := by
  have b207 : ∀ {g : Hp} {tk mo k : Int32}, I g → sX15_trySteps_207 F g s t m l tk mo k = some o → I o := by
    intro g tk mo k i0 e
    unfold sX15_trySteps_207 sX15_trySteps_223 at e
    replace e := cl_s e; obtain ⟨g2, e8, e⟩ := e
    rw [← Option.some.inj e]
    exact K _ _ _ _ _ _ i0 e8
  have loop : ∀ (tk mo k : Int32) (f : Nat) {g : Hp} {x9 : Int32}, I g → sX15_trySteps_152 F f g x0 s t m l tk mo k x9 = some o → I o := by
    intro tk mo k f
    induction f with
    | zero => intro g x9 _ e; exact absurd e (by simp [sX15_trySteps_152])
    | succ f ih =>
      intro g x9 i0 e
      unfold sX15_trySteps_152 sX15_trySteps_223 at e
      simp only [nm] at e
      replace e := cl_s e; obtain ⟨_, _, e⟩ := e
      replace e := cl_s e; obtain ⟨_, _, e⟩ := e
      replace e := (gd_s e).2
      replace e := br_s e; rcases e with ⟨_, e⟩ | ⟨_, e⟩
      · rw [← Option.some.inj e]; exact i0
      replace e := cl_s e; obtain ⟨_, _, e⟩ := e
      replace e := cl_s e; obtain ⟨_, _, e⟩ := e
      replace e := (gd_s e).2
      replace e := cl_s e; obtain ⟨g2, e8, e⟩ := e
      exact ih (K _ _ _ _ _ _ i0 e8) e
  have b106 : ∀ {tk mo k : Int32}, sX15_trySteps_106 F h x0 b s t m l tk mo k = some o → I o := by
    intro tk mo k e
    unfold sX15_trySteps_106 sX15_trySteps_149 at e
    replace e := cl_s e; obtain ⟨o1, e1, e⟩ := e
    rw [oth_post e1] at e
    replace e := br_s e; rcases e with ⟨_, e⟩ | ⟨_, e⟩
    · exact b207 i0 e
    replace e := cl_s e; obtain ⟨o3, e3, e⟩ := e
    rw [(rank_post e3).1] at e
    replace e := br_s e; rcases e with ⟨_, e⟩ | ⟨_, e⟩
    · replace e := cl_s e; obtain ⟨_, _, e⟩ := e
      replace e := br_s e; rcases e with ⟨_, e⟩ | ⟨_, e⟩
      · exact loop _ _ _ F i0 e
      replace e := br_s e; rcases e with ⟨_, e⟩ | ⟨_, e⟩
      · exact loop _ _ _ F i0 e
      · exact b207 i0 e
    · exact b207 i0 e
  have b90 : ∀ {tk mo : Int32}, sX15_trySteps_90 F h x0 b s t m l tk mo = some o → I o := by
    intro tk mo e
    unfold sX15_trySteps_90 at e
    replace e := cl_s e; obtain ⟨_, _, e⟩ := e
    replace e := (gd_s e).2
    replace e := br_s e; rcases e with ⟨_, e⟩ | ⟨_, e⟩
    · exact b106 e
    · exact b106 e
  have b48 : ∀ {tk : Int32}, sX15_trySteps_48 F h x0 b s t m l tk = some o → I o := by
    intro tk e
    unfold sX15_trySteps_48 sX15_trySteps_89 at e
    replace e := cl_s e; obtain ⟨_, _, e⟩ := e
    replace e := cl_s e; obtain ⟨_, _, e⟩ := e
    replace e := cl_s e; obtain ⟨_, _, e⟩ := e
    replace e := (gd_s e).2
    replace e := (gd_s e).2
    replace e := br_s e; rcases e with ⟨_, e⟩ | ⟨_, e⟩
    · exact b90 e
    replace e := cl_s e; obtain ⟨_, _, e⟩ := e
    replace e := (gd_s e).2
    replace e := br_s e; rcases e with ⟨_, e⟩ | ⟨_, e⟩
    · exact b90 e
    replace e := cl_s e; obtain ⟨_, _, e⟩ := e
    replace e := (gd_s e).2
    exact b90 e
  unfold sX15_trySteps at e
  replace e := cl_s e; obtain ⟨_, _, e⟩ := e
  replace e := (gd_s e).2
  replace e := br_s e; rcases e with ⟨_, e⟩ | ⟨_, e⟩
  · replace e := cl_s e; obtain ⟨_, _, e⟩ := e
    replace e := (gd_s e).2
    replace e := br_s e; rcases e with ⟨_, e⟩ | ⟨_, e⟩
    · exact b48 e
    replace e := cl_s e; obtain ⟨_, _, e⟩ := e
    replace e := (gd_s e).2
    replace e := cl_s e; obtain ⟨o9, e9, e⟩ := e
    unfold sX15_manOf at e9
    have := Option.some.inj e9
    subst this
    exact b48 e
  · replace e := cl_s e; obtain ⟨_, _, e⟩ := e
    replace e := cl_s e; obtain ⟨_, _, e⟩ := e
    replace e := (gd_s e).2
    replace e := (gd_s e).2
    replace e := cl_s e; obtain ⟨o9, e9, e⟩ := e
    unfold sX15_manOf at e9
    have := Option.some.inj e9
    subst this
    exact b48 e
/-- no right, no castling -/
theorem ca_none {x0 b : Nat} {s t : Int32} (rz : hJ h b 2 = 0) (e : sX15_tryCastling F h x0 b s t l = some o) : o = h := by
  have nz := fun x => no_right (h := h) (b := b) rz x
  have lp : ∀ (w6 : Int32) (f : Nat) {x6 : Int32}, sX15_tryCastling_46 F f h x0 b s t l w6 x6 = some o → o = h := by
    intro w6 f
    induction f with
    | zero => intro x6 e; exact absurd e (by simp [sX15_tryCastling_46])
    | succ f ih =>
      intro x6 e
      unfold sX15_tryCastling_46 sX15_tryCastling_207 sX15_tryCastling_197 at e
      simp only [nm] at e
      replace e := br_s e; rcases e with ⟨_, e⟩ | ⟨_, e⟩
      · exact (Option.some.inj e).symm
      replace e := br_s e; rcases e with ⟨_, e⟩ | ⟨_, e⟩
      · exact (Option.some.inj e).symm
      replace e := (gd_s e).2
      replace e := (gd_s e).2
      replace e := br_s e; rcases e with ⟨_, e⟩ | ⟨_, e⟩
      · replace e := br_s e; rcases e with ⟨c, _⟩ | ⟨_, e⟩
        · exact absurd c (nz _)
        · exact ih e
      · exact (Option.some.inj e).symm
  unfold sX15_tryCastling sX15_tryCastling_25 sX15_tryCastling_36 at e
  simp only [nm] at e
  replace e := (gd_s e).2
  replace e := (gd_s e).2
  replace e := br_s e; rcases e with ⟨_, e⟩ | ⟨_, e⟩
  · replace e := br_s e; rcases e with ⟨_, e⟩ | ⟨_, e⟩
    · replace e := br_s e; rcases e with ⟨_, e⟩ | ⟨_, e⟩
      · exact lp _ F e
      · exact lp _ F e
    · exact (Option.some.inj e).symm
  · exact (Option.some.inj e).symm
end
section
variable {ρ : Nat → Nat} {C : Int32 → Int32 → Prop} {l lf lt lm lb lx lk lo x0 b S Fa Ct M R Fl Ri A B Fm St F : Nat} {h0 : Hp}
/-- what tryAll tries -/
theorem tall_q (L : LkS ρ x0 b S Fa Ct M R Fl Ri h0) (Z : LkT ρ x0 R A B Fm St h0) (Q : LsR ρ l lf lt lm lb lx lk lo h0) (hz : hI h0 R 15 = 0) (rz : hJ h0 b 2 = 0) (s64 : (hI h0 x0 13).toInt ≤ 64)
    (K : ∀ s t : Int32, 0 ≤ s.toInt → s.toInt < (hI h0 x0 13).toInt → 0 < (hI h0 M s.toNatClampNeg).toInt → ((hI h0 M s.toNatClampNeg) - (1 : Int32)) &&& (1 : Int32) = hI h0 b 1 → 0 ≤ t.toInt → t.toInt < (hI h0 x0 13).toInt → LdQ ρ F x0 b M h0 s t → C s t)
    {h o : Hp} (fr : Fq ρ h0 h) (e : sX15_tryAll F h x0 b l = some o) : Fq ρ h0 o ∧ LA C l lf lt o := by
  have L' := L
  obtain ⟨⟨rx, rb, rS, rFa, rCt, rM, rR, rFl, rRi⟩, ⟨e25, e26, e27, eM, eR, eFl, eRi⟩, ⟨iF, iR, iri, ps⟩⟩ := L'
  have rl := Q.1.1
  have z0 : (0 : Int32).toInt = 0 := rfl
  have lw : ∀ (r i k : Nat) (v : Int32) (g : Hp), ρ r = k → ¬ k = 14 ∧ ¬ k = 66 ∧ ¬ k = 67 → LA C l lf lt g → LA C l lf lt (wI g r i v) := by
    intro r i k v g er ⟨n1, n2, n3⟩ P j hj
    have m1 : ¬ l = r := fun w => n1 (by rw [← er, ← w]; exact rl)
    have m2 : ¬ lf = r := fun w => n2 (by rw [← er, ← w]; exact Q.1.2.1)
    have m3 : ¬ lt = r := fun w => n3 (by rw [← er, ← w]; exact Q.1.2.2.1)
    rw [r_I, if_neg (fun w => m1 w.1)] at hj
    rw [r_I, if_neg (fun w => m2 w.1), r_I, if_neg (fun w => m3 w.1)]
    exact P j hj
  have ci : CI x0 S Fa Ct (LA C l lf lt) := ⟨fun g i v p => lw S i 87 v g rS (by decide) p, fun g i v p => lw Fa i 88 v g rFa (by decide) p, fun g i v p => lw Ct i 89 v g rCt (by decide) p, fun g v p => lw x0 23 16 v g rx (by decide) p, fun g v p => lw x0 24 16 v g rx (by decide) p⟩
  have outer : ∀ (f : Nat) {g : Hp} {x3 : Int32}, Fq ρ h0 g → LA C l lf lt g → 0 ≤ x3.toInt → sX15_tryAll_7 F f g x0 b l x3 = some o → Fq ρ h0 o ∧ LA C l lf lt o := by
    intro f
    induction f with
    | zero => intro g x3 _ _ _ e; exact absurd e (by simp [sX15_tryAll_7])
    | succ f ih =>
      intro g x3 fr P a3 e
      unfold sX15_tryAll_7 sX15_tryAll_114 at e
      simp only [nm] at e
      replace e := br_s e; rcases e with ⟨_, e⟩ | ⟨c, e⟩
      · cases F with
        | zero => exact absurd e (by simp [sX15_tryAll_122])
        | succ F' =>
          unfold sX15_tryAll_122 sX15_tryAll_250 at e
          replace e := br_s e; rcases e with ⟨_, e⟩ | ⟨_, e⟩
          · rw [← Option.some.inj e]; exact ⟨fr, P⟩
          replace e := cl_s e; obtain ⟨R', p, e⟩ := e
          rw [fqE 4 fr rx] at p
          have := r_eq eR p; subst this
          replace e := br_s e; rcases e with ⟨_, e⟩ | ⟨c, _⟩
          · rw [← Option.some.inj e]; exact ⟨fr, P⟩
          · rw [fqI 15 fr rR] at c; exact absurd hz c
      have c := nle_i c
      rw [fqI 13 fr rx] at c
      have ex : (x3 + (1 : Int32)).toInt = x3.toInt + 1 := ta (by show _ ≤ x3.toInt + 1 ∧ x3.toInt + 1 ≤ _; omega)
      replace e := cl_s e; obtain ⟨M', p, e⟩ := e
      rw [fqE 0 fr rb] at p
      have := r_eq eM p; subst this
      replace e := (gd_s e).2
      rw [fqI _ fr rM] at e
      replace e := br_s e; rcases e with ⟨_, e⟩ | ⟨cv, e⟩
      · exact ih fr P (by omega) e
      have cv := nle_i cv
      replace e := cl_s e; obtain ⟨o6, e6, e⟩ := e
      unfold sX15_sideOf at e6
      have := Option.some.inj e6; subst this
      dsimp only at e
      rw [fqI 1 fr rb] at e
      replace e := br_s e; rcases e with ⟨cs, e⟩ | ⟨_, e⟩
      · replace e := cl_s e; obtain ⟨o8, e8, e⟩ := e
        obtain ⟨fr8, P8, lq⟩ := lead_q (I := LA C l lf lt) L Z ci ⟨a3, by omega⟩ fr P e8
        have inner : ∀ (ff : Nat) {g : Hp} {x5 : Int32}, Fq ρ h0 g → LA C l lf lt g → (∀ j, hI g S j = hI o8 S j) → 0 ≤ x5.toInt → sX15_tryAll_50 F (sX15_tryAll_7 F f) ff g x0 b l x3 (hI h0 M' x3.toNatClampNeg) x5 = some o → Fq ρ h0 o ∧ LA C l lf lt o := by
          intro ff
          induction ff with
          | zero => intro g x5 _ _ _ _ e; exact absurd e (by simp [sX15_tryAll_50])
          | succ ff ih2 =>
            intro g x5 fr P kS a5 e
            unfold sX15_tryAll_50 sX15_tryAll_114 at e
            simp only [nm] at e
            replace e := br_s e; rcases e with ⟨_, e⟩ | ⟨c5, e⟩
            · exact ih fr P (by omega) e
            have c5 := nle_i c5
            rw [fqI 13 fr rx] at c5
            have ex5 : (x5 + (1 : Int32)).toInt = x5.toInt + 1 := ta (by show _ ≤ x5.toInt + 1 ∧ x5.toInt + 1 ≤ _; omega)
            have t84 : ∀ {g : Hp}, Fq ρ h0 g → LA C l lf lt g → (∀ j, hI g S j = hI o8 S j) → sX15_tryAll_84 F (sX15_tryAll_7 F f) (sX15_tryAll_50 F (sX15_tryAll_7 F f) ff) g x0 b l x3 (hI h0 M' x3.toNatClampNeg) x5 = some o → Fq ρ h0 o ∧ LA C l lf lt o := by
              intro g fr P kS e
              unfold sX15_tryAll_84 sX15_tryAll_108 at e
              simp only [nm] at e
              replace e := cl_s e; obtain ⟨o1, e1, e⟩ := e
              unfold sX15_manOf at e1
              have := Option.some.inj e1; subst this
              dsimp only at e
              replace e := cl_s e; obtain ⟨_, _, e⟩ := e
              replace e := br_s e; rcases e with ⟨_, e⟩ | ⟨_, e⟩
              · replace e := cl_s e; obtain ⟨o4, e4, e⟩ := e
                have := ca_none (by rw [fqJ 2 fr rb]; exact rz) e4
                subst this
                exact ih2 fr P kS (by omega) e
              · exact ih2 fr P kS (by omega) e
            replace e := cl_s e; obtain ⟨S', p, e⟩ := e
            rw [fqE 25 fr rx] at p
            have := r_eq e25 p; subst this
            replace e := (gd_s e).2
            replace e := br_s e; rcases e with ⟨_, e⟩ | ⟨cn, e⟩
            · exact t84 fr P kS e
            rw [kS] at cn
            replace e := cl_s e; obtain ⟨o5, e5, e⟩ := e
            unfold sX15_manOf at e5
            have := Option.some.inj e5; subst this
            dsimp only at e
            replace e := cl_s e; obtain ⟨o6, e6, e⟩ := e
            have cst := K x3 x5 a3 c (by omega) cs a5 c5 (lq x5 a5 c5 cn)
            have w := ts_inv (I := fun g => Fq ρ h0 g ∧ LA C l lf lt g ∧ ∀ j, hI g S' j = hI o8 S' j) (fun g g2 bc tk k mo w e => by
              obtain ⟨v1, v2⟩ := add_q Q w.1 w.2.1 cst e
              exact ⟨v1, v2, fun j => by rw [add_S Q w.1 rS e]; exact w.2.2 j⟩) ⟨fr, P, kS⟩ e6
            exact t84 w.1 w.2.1 w.2.2 e
        exact inner F fr8 P8 (fun _ => rfl) (by decide) e
      · exact ih fr P (by omega) e
  unfold sX15_tryAll at e
  simp only [nm] at e
  refine outer F (fq_w fr rl) (fun i hi => ?_) (by decide) e
  rw [r_I, if_pos ⟨rfl, rfl⟩] at hi
  exact absurd hi (by show ¬ (i : Int) < 0; omega)
end
