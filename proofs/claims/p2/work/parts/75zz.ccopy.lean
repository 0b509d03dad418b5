/-! copies of positions of the law; methods that only read -/
section
variable {ρ : Nat → Nat} {c : Cm} {h o g : Hp} {x0 p q L F : Nat} {n m : Int} {x1 x2 x3 : Int32}
/-- squares and men of the law, at a row -/
def OnX (n m : Int) (on : Nat) (h : Hp) : Prop := ∀ s : Nat, s < 64 → 0 ≤ (hI h on s).toInt → (s : Int) < n ∧ (hI h on s).toInt < 2 * m
theorem on_k {on : Nat} (r : ρ on = 34) (k : PxC ρ n m h o) (P : OnX n m on h) : OnX n m on o := fun s hs z => by
  rcases k.2.2 on s r with w | w | w
  · rw [w] at z ⊢; exact P s hs z
  · omega
  · exact w
theorem cfx_17 : ∀ (f : Nat) {h o : Hp} {x2 : Int32}, PR ρ p h → sX3_copyFrom_17 F f h p q x2 = some o → PxC ρ n m h o := by
  intro f
  induction f with
  | zero => intro h o x2 _ e; exact absurd e (by rw [sX3_copyFrom_17]; exact fun z => nomatch z)
  | succ f ih =>
    intro h o x2 P e
    rw [sX3_copyFrom_17] at e
    have n2 : kq (ρ p) = true := by rw [P.1]; rfl
    have n34 : ¬ ρ p = 34 := by rw [P.1]; decide
    replace e := br_s e
    rcases e with ⟨_, e⟩ | ⟨_, e⟩
    · replace e := nm_s e
      obtain ⟨h2, w2, e⟩ := e
      replace e := nm_s e
      obtain ⟨h3, w3, e⟩ := e
      replace e := nm_s e
      obtain ⟨h4, w4, e⟩ := e
      replace e := nm_s e
      obtain ⟨h5, w5, e⟩ := e
      replace e := nm_s e
      obtain ⟨h6, w6, e⟩ := e
      have k2 : PxC ρ n m h h2 := by rw [w2]; exact px_I n2 n34
      have k3 : PxC ρ n m h2 h3 := by rw [w3]; exact px_I n2 n34
      have k4 : PxC ρ n m h3 h4 := by rw [w4]; exact px_J
      have k5 : PxC ρ n m h4 h5 := by rw [w5]; exact px_J
      have k6 : PxC ρ n m h5 h6 := by rw [w6]; exact px_J
      rw [← Option.some.inj e]
      exact px_t k2 (px_t k3 (px_t k4 (px_t k5 k6)))
    replace e := cl_s e
    obtain ⟨r7, _, e⟩ := e
    replace e := cl_s e
    obtain ⟨r8, _, e⟩ := e
    replace e := (gd_s (gd_s e).2).2
    replace e := nm_s e
    obtain ⟨h11, w11, e⟩ := e
    have k11 : PxC ρ n m h h11 := by rw [w11]; exact px_J
    replace e := cl_s e
    obtain ⟨r12, e12, e⟩ := e
    have q12 : ρ r12 = 36 := P.2.2.1 r12 (by rw [← k11.1]; exact e12)
    replace e := cl_s e
    obtain ⟨r13, _, e⟩ := e
    replace e := (gd_s (gd_s e).2).2
    replace e := nm_s e
    obtain ⟨h16, w16, e⟩ := e
    have k16 : PxC ρ n m h11 h16 := by rw [w16]; exact px_I (by rw [q12]; rfl) (by rw [q12]; decide)
    have kk := px_t k11 k16
    replace e := cl_s e
    obtain ⟨r17, _, e⟩ := e
    replace e := cl_s e
    obtain ⟨r18, _, e⟩ := e
    replace e := (gd_s (gd_s e).2).2
    replace e := nm_s e
    obtain ⟨h21, w21, e⟩ := e
    have k21 : PxC ρ n m h16 h21 := by rw [w21]; exact px_J
    have kk2 := px_t kk k21
    replace e := cl_s e
    obtain ⟨r22, e22, e⟩ := e
    have q22 : ρ r22 = 38 := P.2.2.2 r22 (by rw [← kk2.1]; exact e22)
    replace e := cl_s e
    obtain ⟨r23, _, e⟩ := e
    replace e := (gd_s (gd_s e).2).2
    replace e := nm_s e
    obtain ⟨h26, w26, e⟩ := e
    have k26 : PxC ρ n m h21 h26 := by rw [w26]; exact px_I (by rw [q22]; rfl) (by rw [q22]; decide)
    have kk3 := px_t kk2 k26
    replace e := nm_s e
    obtain ⟨v27, _, e⟩ := e
    exact px_t kk3 (ih (pr_k kk3.1 P) e)
/-- a copy of a position of the law is one -/
theorem copy_x {on : Nat} (P : PR ρ p h) (eq : hR h q 0 = some on) (X : OnX n m on h) (e : sX3_copyFrom F h p q = some o) : PxC ρ n m h o := by
  unfold sX3_copyFrom at e
  replace e := cl_s e
  obtain ⟨r1, e1, e⟩ := e
  have y1 : r1 = on := r_eq eq e1
  subst y1
  replace e := cl_s e
  obtain ⟨r2, e2, e⟩ := e
  have q2 := P.2.1 r2 e2
  iterate 6 replace e := (gd_s e).2
  replace e := nm_s e
  obtain ⟨h9, w9, e⟩ := e
  have k9 : PxC ρ n m h h9 := by
    rw [w9]
    refine ⟨fun _ _ => rfl, fun a i r => ?_, fun a s ra => ?_⟩
    · rw [cp_at, if_neg]
      rintro ⟨y, _⟩
      rw [y, q2] at r
      exact absurd r (by decide)
    · rw [cp_at]
      split
      · rename_i y
        by_cases z : 0 ≤ (hI h r1 ((0 : Int32).toNatClampNeg + (s - (0 : Int32).toNatClampNeg))).toInt
        · have hs : s < 64 := by
            have := y.2.2
            have u : (0 : Int32).toNatClampNeg + (64 : Int32).toNatClampNeg = 64 := rfl
            omega
          have us : (0 : Int32).toNatClampNeg + (s - (0 : Int32).toNatClampNeg) = s := by
            have u : (0 : Int32).toNatClampNeg = 0 := rfl
            omega
          rw [us] at z ⊢
          exact Or.inr (Or.inr (X s hs z))
        · exact Or.inr (Or.inl (by omega))
      · exact Or.inl rfl
  exact px_t k9 (cfx_17 F (pr_k k9.1 P) e)
theorem safe_h {o : Int32 × Hp} (e : sX5_isSafe h x0 x1 = some o) : o.2 = h := by
  unfold sX5_isSafe sX5_isSafe_31 at e
  have b54 : ∀ {y : Int32} {z : Int64}, sX5_isSafe_54 h x0 y z = some o → o.2 = h := fun {y z} e => by
    unfold sX5_isSafe_54 sX5_isSafe_72 sX5_isSafe_88 at e
    replace e := br_s e
    rcases e with ⟨_, e⟩ | ⟨_, e⟩
    · replace e := cl_s e
      obtain ⟨_, _, e⟩ := e
      replace e := cl_s e
      obtain ⟨o3, e3, e⟩ := e
      have q3 : o3.2 = h := by unfold sX3_passSquare at e3; rw [← Option.some.inj e3]
      rw [q3] at e
      replace e := nm_s e
      obtain ⟨_, _, e⟩ := e
      replace e := br_s e
      rcases e with ⟨_, e⟩ | ⟨_, e⟩
      · rw [← Option.some.inj (gd_s e).2]
      · rw [← Option.some.inj (gd_s e).2]
    · replace e := br_s e
      rcases e with ⟨_, e⟩ | ⟨_, e⟩
      · rw [← Option.some.inj (gd_s e).2]
      · rw [← Option.some.inj (gd_s e).2]
  replace e := cl_s e
  obtain ⟨o1, e1, e⟩ := e
  have q1 : o1.2 = h := by unfold sX5_kindOf at e1; rw [← Option.some.inj e1]
  rw [q1] at e
  replace e := br_s e
  rcases e with ⟨_, e⟩ | ⟨_, e⟩
  · rw [← Option.some.inj e]
  replace e := br_s e
  rcases e with ⟨_, e⟩ | ⟨_, e⟩
  · rw [← Option.some.inj e]
  replace e := cl_s e
  obtain ⟨o4, e4, e⟩ := e
  have q4 : o4.2 = h := by unfold sX5_manOf at e4; rw [← Option.some.inj e4]
  rw [q4] at e
  replace e := cl_s e
  obtain ⟨_, _, e⟩ := e
  replace e := br_s e
  rcases e with ⟨_, e⟩ | ⟨_, e⟩
  · rw [← Option.some.inj e]
  replace e := cl_s e
  obtain ⟨o7, e7, e⟩ := e
  have q7 : o7.2 = h := by unfold sX5_comeTo at e7; rw [← Option.some.inj e7]
  rw [q7] at e
  replace e := nm_s e
  obtain ⟨_, _, e⟩ := e
  replace e := br_s e
  rcases e with ⟨_, e⟩ | ⟨_, e⟩
  · exact b54 e
  replace e := cl_s e
  obtain ⟨o10, e10, e⟩ := e
  have q10 : o10.2 = h := by unfold sX5_leftBy at e10; rw [← Option.some.inj e10]
  rw [q10] at e
  replace e := nm_s e
  obtain ⟨_, _, e⟩ := e
  exact b54 e
theorem may_h {o : Int32 × Hp} (e : sX5_mayStand F h x0 = some o) : o.2 = h := by
  have b97 : ∀ {y z : Int32} {o : Int32 × Hp}, sX5_mayStand_97 F h x0 y z = some o → o.2 = h := fun {y z o} e => by
    unfold sX5_mayStand_97 sX5_mayStand_128 sX5_mayStand_133 at e
    replace e := cl_s e
    obtain ⟨_, _, e⟩ := e
    replace e := cl_s e
    obtain ⟨o2, e2, e⟩ := e
    rw [has_h e2] at e
    replace e := br_s e
    rcases e with ⟨_, e⟩ | ⟨_, e⟩
    · rw [← Option.some.inj (gd_s e).2]
    replace e := br_s e
    rcases e with ⟨_, e⟩ | ⟨_, e⟩
    · rw [← Option.some.inj (gd_s e).2]
    replace e := cl_s e
    obtain ⟨_, _, e⟩ := e
    replace e := cl_s e
    obtain ⟨o6, e6, e⟩ := e
    rw [hit_h e6] at e
    replace e := br_s e
    rcases e with ⟨_, e⟩ | ⟨_, e⟩
    · rw [← Option.some.inj (gd_s e).2]
    · rw [← Option.some.inj (gd_s e).2]
  have b70 : ∀ {a b c d t : Int32} {o : Int32 × Hp}, sX5_mayStand_70 F h x0 a b c d t = some o → o.2 = h := fun {a b c d t o} e => by
    unfold sX5_mayStand_70 sX5_mayStand_95 at e
    replace e := br_s e
    rcases e with ⟨_, e⟩ | ⟨_, e⟩
    · rw [← Option.some.inj e]
    replace e := br_s e
    rcases e with ⟨_, e⟩ | ⟨_, e⟩
    · replace e := cl_s e
      obtain ⟨_, _, e⟩ := e
      replace e := cl_s e
      obtain ⟨o4, e4, e⟩ := e
      rw [hit_h e4] at e
      replace e := br_s e
      rcases e with ⟨_, e⟩ | ⟨_, e⟩
      · exact b97 e
      · rw [← Option.some.inj e]
    · exact b97 e
  unfold sX5_mayStand sX5_mayStand_69 at e
  replace e := cl_s e
  obtain ⟨_, _, e⟩ := e
  replace e := nm_s e
  obtain ⟨_, _, e⟩ := e
  replace e := nm_s e
  obtain ⟨_, _, e⟩ := e
  replace e := cl_s e
  obtain ⟨_, _, e⟩ := e
  replace e := cl_s e
  obtain ⟨_, _, e⟩ := e
  replace e := (gd_s e).2
  replace e := nm_s e
  obtain ⟨_, _, e⟩ := e
  replace e := cl_s e
  obtain ⟨_, _, e⟩ := e
  replace e := cl_s e
  obtain ⟨_, _, e⟩ := e
  replace e := (gd_s e).2
  replace e := nm_s e
  obtain ⟨_, _, e⟩ := e
  replace e := cl_s e
  obtain ⟨_, _, e⟩ := e
  replace e := cl_s e
  obtain ⟨_, _, e⟩ := e
  replace e := (gd_s e).2
  replace e := br_s e
  rcases e with ⟨_, e⟩ | ⟨_, e⟩
  · exact b97 e
  replace e := cl_s e
  obtain ⟨_, _, e⟩ := e
  replace e := cl_s e
  obtain ⟨_, _, e⟩ := e
  replace e := (gd_s e).2
  replace e := br_s e
  rcases e with ⟨_, e⟩ | ⟨_, e⟩
  · exact b70 e
  replace e := br_s e
  rcases e with ⟨_, e⟩ | ⟨_, e⟩
  · exact b70 e
  · exact b70 e
end
