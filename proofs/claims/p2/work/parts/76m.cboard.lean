/-! a board has files times ranks squares -/
section
variable {ρ : Nat → Nat} {c : Cm} {h o g : Hp} {x0 F : Nat} {Fi Ra x3 : Int32}
def BSt (x0 : Nat) (Fi Ra : Int32) (h : Hp) : Prop := hI h x0 0 = Fi ∧ hI h x0 1 = Ra ∧ (∀ r, hR h x0 19 = some r → ¬ r = x0) ∧ ∀ r, hR h x0 20 = some r → ¬ r = x0
def BEn (x0 : Nat) (Fi Ra : Int32) (h : Hp) : Prop := hI h x0 0 = Fi ∧ hI h x0 1 = Ra ∧ (hI h x0 2).toInt = Fi.toInt * Ra.toInt
theorem sbq_28 {K : Hp → Nat → Int32 → Option Hp} (iF : Rg 0 8 Fi) (iR : Rg 0 8 Ra) (a3 : 0 ≤ x3.toInt) (l3 : x3.toInt < Ra.toInt) (R : ∀ {h o : Hp} {v : Int32}, BSt x0 Fi Ra h → (hI h x0 2).toInt = (x3.toInt + 1) * Fi.toInt → v.toInt = x3.toInt + 1 → K h x0 v = some o → BEn x0 Fi Ra o) : ∀ (f : Nat) {h o : Hp} {x4 : Int32}, BSt x0 Fi Ra h → 0 ≤ x4.toInt → x4.toInt ≤ Fi.toInt → (hI h x0 2).toInt = x3.toInt * Fi.toInt + x4.toInt → sX1_setBoard_28 F K f h x0 x3 x4 = some o → BEn x0 Fi Ra o := by
  have f0 := iF.1
  have f8 := iF.2
  have r8 := iR.2
  have m1 : (x3.toInt + 1) * Fi.toInt ≤ Ra.toInt * Fi.toInt := Int.mul_le_mul_of_nonneg_right (by omega) f0
  have m2 : Ra.toInt * Fi.toInt ≤ 8 * 8 := Int.mul_le_mul r8 f8 f0 (by decide)
  have m3 : 0 ≤ x3.toInt * Fi.toInt := Int.mul_nonneg a3 f0
  have m4 : (x3.toInt + 1) * Fi.toInt = x3.toInt * Fi.toInt + Fi.toInt := by rw [Int.add_mul, Int.one_mul]
  have z64 : (64 : Int32).toInt = 64 := rfl
  have z1 : (1 : Int32).toInt = 1 := rfl
  intro f
  induction f with
  | zero => intro h o x4 _ _ _ _ e; exact absurd e (by rw [sX1_setBoard_28]; exact fun z => nomatch z)
  | succ f ih =>
    intro h o x4 S a4 b4 e2 e
    rw [sX1_setBoard_28] at e
    unfold sX1_setBoard_83 at e
    have S' := S
    obtain ⟨s0, s1, s19, s20⟩ := S
    have t3 : (x3 + (1 : Int32)).toInt = x3.toInt + 1 := by rw [ta (by rw [z1]; omega), z1]
    replace e := br_s e
    rcases e with ⟨l, e⟩ | ⟨l, e⟩
    · have l := le_i l
      rw [s0] at l
      replace e := nm_s e
      obtain ⟨v, w, e⟩ := e
      have tv : v.toInt = x3.toInt + 1 := by rw [w]; exact t3
      clear w
      exact R S' (by omega) tv e
    have l := nle_i l
    rw [s0] at l
    replace e := br_s e
    rcases e with ⟨q, e⟩ | ⟨_, e⟩
    · have q := le_i q
      rw [z64] at q
      omega
    replace e := cl_s e
    obtain ⟨r3, g3, e⟩ := e
    have n3 := s19 r3 g3
    replace e := (gd_s e).2
    replace e := nm_s e
    obtain ⟨h5, w5, e⟩ := e
    have k5 : ∀ i, hI h5 x0 i = hI h x0 i := fun i => by rw [w5, r_I, if_neg (fun z => n3 z.1.symm)]
    replace e := cl_s e
    obtain ⟨r6, g6, e⟩ := e
    have n6 := s20 r6 (by rw [w5] at g6; exact g6)
    replace e := (gd_s e).2
    replace e := nm_s e
    obtain ⟨h8, w8, e⟩ := e
    have k8 : ∀ i, hI h8 x0 i = hI h x0 i := fun i => by rw [w8, r_I, if_neg (fun z => n6 z.1.symm)]; exact k5 i
    replace e := nm_s e
    obtain ⟨h9, w9, e⟩ := e
    have R9 : ∀ a i, hR h9 a i = hR h a i := fun a i => by rw [w9, w8, w5]; rfl
    have k9 : ∀ i, ¬ i = 2 → hI h9 x0 i = hI h x0 i := fun i ni => by rw [w9, r_I, if_neg (fun z => ni z.2)]; exact k8 i
    have e9 : (hI h9 x0 2).toInt = (hI h x0 2).toInt + 1 := by rw [w9, r_I, if_pos ⟨rfl, rfl⟩, k8, ta (by rw [z1]; omega), z1]
    replace e := nm_s e
    obtain ⟨v10, w10, e⟩ := e
    have t10 : v10.toInt = x4.toInt + 1 := by rw [w10, ta (by rw [z1]; omega), z1]
    clear w10
    exact ih ⟨by rw [k9 0 (by decide)]; exact s0, by rw [k9 1 (by decide)]; exact s1, fun r er => s19 r (by rw [← R9]; exact er), fun r er => s20 r (by rw [← R9]; exact er)⟩ (by omega) (by omega) (by omega) e
theorem sbq_17 (iF : Rg 0 8 Fi) (iR : Rg 0 8 Ra) : ∀ (f : Nat) {h o : Hp} {x3 : Int32}, BSt x0 Fi Ra h → 0 ≤ x3.toInt → x3.toInt ≤ Ra.toInt → (hI h x0 2).toInt = x3.toInt * Fi.toInt → sX1_setBoard_17 F f h x0 x3 = some o → BEn x0 Fi Ra o := by
  intro f
  induction f with
  | zero => intro h o x3 _ _ _ _ e; exact absurd e (by rw [sX1_setBoard_17]; exact fun z => nomatch z)
  | succ f ih =>
    intro h o x3 S a3 b3 e2 e
    rw [sX1_setBoard_17] at e
    replace e := br_s e
    rcases e with ⟨l, e⟩ | ⟨l, e⟩
    · have l := le_i l
      rw [S.2.1] at l
      have q : x3.toInt = Ra.toInt := by omega
      rw [← Option.some.inj e]
      refine ⟨S.1, S.2.1, ?_⟩
      rw [e2, q, Int.mul_comm]
    have l := nle_i l
    rw [S.2.1] at l
    have z0 : (0 : Int32).toInt = 0 := rfl
    exact sbq_28 iF iR a3 l (fun {h2 o2 v} S2 e22 ev ee => ih S2 (by omega) (by omega) (by rw [ev]; exact e22) ee) F S (by decide) (by rw [z0]; exact iF.1) (by rw [z0]; omega) e
/-- behind setBoard: files times ranks squares -/
theorem setB_x {x1 x2 : Int32} (T : TH ρ c h) (r0 : ρ x0 = 2) (iF : Rg 0 8 x1) (iR : Rg 0 8 x2) (e : sX1_setBoard F h x0 x1 x2 = some o) : (hI o x0 0).toInt * (hI o x0 1).toInt = (hI o x0 2).toInt := by
  unfold sX1_setBoard at e
  replace e := nm_s e
  obtain ⟨h1, w1, e⟩ := e
  replace e := nm_s e
  obtain ⟨h2, w2, e⟩ := e
  replace e := nm_s e
  obtain ⟨h3, w3, e⟩ := e
  have R3 : ∀ a i, hR h3 a i = hR h a i := fun a i => by rw [w3, w2, w1]; rfl
  have S : BSt x0 x1 x2 h3 := by
    refine ⟨?_, ?_, fun r er z => ?_, fun r er z => ?_⟩
    · rw [w3, r_I, if_neg (fun z => absurd z.2 (by decide)), w2, r_I, if_neg (fun z => absurd z.2 (by decide)), w1, r_I, if_pos ⟨rfl, rfl⟩]
    · rw [w3, r_I, if_neg (fun z => absurd z.2 (by decide)), w2, r_I, if_pos ⟨rfl, rfl⟩]
    · rw [R3] at er
      have := rr T (thR T r0 (i := 19) (k2 := 32) rfl (by decide)) er
      rw [z, r0] at this
      exact absurd this (by decide)
    · rw [R3] at er
      have := rr T (thR T r0 (i := 20) (k2 := 33) rfl (by decide)) er
      rw [z, r0] at this
      exact absurd this (by decide)
  have z0 : (0 : Int32).toInt = 0 := rfl
  obtain ⟨q0, q1, q2⟩ := sbq_17 iF iR F S (by decide) (by rw [z0]; exact iR.1) (by rw [w3, r_I, if_pos ⟨rfl, rfl⟩, z0, Int.zero_mul]) e
  rw [q0, q1, q2]
end
