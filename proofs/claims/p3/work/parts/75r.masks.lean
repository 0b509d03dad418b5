/-! masks that are good -/
/-- a digit of a number -/
def dg (q sq : Int) (i : Nat) : Int := rsD q sq i % sq
/-- where a man of a set may go -/
def Gd (h : Hp) (rm re R : Nat) (sq : Int) (set : Nat) (q : Int) (j t : Nat) : Prop := (t : Int) < sq ∧ (∀ i i', i < (hI h rm set).toNatClampNeg → i' < (hI h rm set).toNatClampNeg → ¬ i = i' → ¬ dg q sq i = dg q sq i') ∧ ∀ i, i < (hI h rm set).toNatClampNeg → ¬ i = j → dg q sq i = (t : Int) → ¬ (hI h re (5 * set + i) - (1 : Int32)) >>> ((1 : Int32) &&& 31) = hI h R 10
/-- whose man it is -/
def owS (h : Hp) (re set i : Nat) : Int := ((hI h re (5 * set + i) - (1 : Int32)) &&& (1 : Int32)).toInt
def MkG (x0 rm rb re rk R : Nat) (h : Hp) : Prop := ∀ (set : Nat) (q : Int) (j t : Nat), (set : Int) < (hI h x0 49).toInt → 0 ≤ q → q < (hI h x0 13).toInt ^ (hI h rm set).toNatClampNeg → j < (hI h rm set).toNatClampNeg → t < 64 → bitJ (hJ h rk (mkx h rm rb re set q (owS h re set j) j).toNat) t = true → Gd h rm re R (hI h x0 13).toInt set q j t
section
variable {ρ : Nat → Nat} {c : Cm} {h h0 o : Hp} {x0 rm re rb rk R l lf lt F : Nat} {x1 x2 x6 : Int32} {W : Int}
theorem mkx_b {set j : Nat} {q : Int} (im : Rg 0 5 (hI h rm set)) (q0 : 0 ≤ q) (qW : q < W) (hj : j < (hI h rm set).toNatClampNeg) : (hI h rb set).toInt ≤ mkx h rm rb re set q (owS h re set j) j ∧ mkx h rm rb re set q (owS h re set j) j < (hI h rb set).toInt + (hI h rm set).toInt * W ∧ 0 ≤ rkC (fun i => owS h re set i) (owS h re set j) j (hI h rm set).toNatClampNeg ∧ rkC (fun i => owS h re set i) (owS h re set j) j (hI h rm set).toNatClampNeg < (hI h rm set).toInt := by
  have m0 := im.1
  have cm := clamp_i m0
  have a := (rkC_b (own := fun i => owS h re set i) (sd := owS h re set j) (j := j) (hI h rm set).toNatClampNeg).1
  have b := rkC_j (own := fun i => owS h re set i) (j := j) (hI h rm set).toNatClampNeg hj
  have mu : (hI h rm set).toInt * (q + 1) ≤ (hI h rm set).toInt * W := Int.mul_le_mul_of_nonneg_left (by omega) m0
  have mq : 0 ≤ (hI h rm set).toInt * q := Int.mul_nonneg m0 q0
  rw [Int.mul_add, Int.mul_one] at mu
  have e : mkx h rm rb re set q (owS h re set j) j = (hI h rb set).toInt + (hI h rm set).toInt * q + rkC (fun i => owS h re set i) (owS h re set j) j (hI h rm set).toNatClampNeg := rfl
  rw [e]
  refine ⟨by omega, by omega, a, by omega⟩
theorem mkx_inj {n a : Int} (T : TH ρ c h) (qm : ρ rm = 99) (em : hR h x0 46 = some rm) (eb : hR h x0 53 = some rb) (D : MBd x0 n a h) {s1 s2 j1 j2 : Nat} {q1 q2 : Int} (l1 : (s1 : Int) < n) (l2 : (s2 : Int) < n) (p1 : 0 ≤ q1) (p2 : 0 ≤ q2) (w1 : q1 < (hI h x0 13).toInt ^ (hI h rm s1).toNatClampNeg) (w2 : q2 < (hI h x0 13).toInt ^ (hI h rm s2).toNatClampNeg) (h1 : j1 < (hI h rm s1).toNatClampNeg) (h2 : j2 < (hI h rm s2).toNatClampNeg) (e : mkx h rm rb re s1 q1 (owS h re s1 j1) j1 = mkx h rm rb re s2 q2 (owS h re s2 j2) j2) : s1 = s2 ∧ q1 = q2 ∧ j1 = j2 := by
  have m1 := thI T qm (k := 99) (i := s1) (lo := 0) (hi := 5) rfl
  have m2 := thI T qm (k := 99) (i := s2) (lo := 0) (hi := 5) rfl
  obtain ⟨a1, a2, a3, a4⟩ := mkx_b (rb := rb) (re := re) m1 p1 w1 h1
  obtain ⟨b1, b2, b3, b4⟩ := mkx_b (rb := rb) (re := re) m2 p2 w2 h2
  have es : s1 = s2 := by
    refine Classical.byContradiction fun ne => ?_
    by_cases lt : s1 < s2
    · have := (D rm rb em eb s1 l1).2 s2 lt l2; omega
    · have := (D rm rb em eb s2 l2).2 s1 (by omega) l1; omega
  subst es
  have c1 := clamp_i m1.1
  have f1 : mkx h rm rb re s1 q1 (owS h re s1 j1) j1 = (hI h rb s1).toInt + (hI h rm s1).toInt * q1 + rkC (fun i => owS h re s1 i) (owS h re s1 j1) j1 (hI h rm s1).toNatClampNeg := rfl
  have f2 : mkx h rm rb re s1 q2 (owS h re s1 j2) j2 = (hI h rb s1).toInt + (hI h rm s1).toInt * q2 + rkC (fun i => owS h re s1 i) (owS h re s1 j2) j2 (hI h rm s1).toNatClampNeg := rfl
  rw [f1, f2] at e
  obtain ⟨u1, u2⟩ := dm_inj (m := (hI h rm s1).toInt) (q1 := q1) (q2 := q2) (by omega) a3 a4 b3 b4 (by omega)
  exact ⟨rfl, u1, rkC_inj h1 h2 u2⟩
/-- all hearts as they were, but for a row of long numbers -/
def EQm (rk : Nat) (h0 h : Hp) : Prop := EQh h0 h ∧ ∀ a i, ¬ a = rk → hJ h a i = hJ h0 a i
theorem eqm_t {h1 h2 : Hp} (a : EQm rk h0 h1) (b : EQm rk h1 h2) : EQm rk h0 h2 := ⟨eqh_t a.1 b.1, fun x i n => (b.2 x i n).trans (a.2 x i n)⟩
theorem mkx_c {g : Hp} (E : ∀ a i, hI g a i = hI h a i) (set : Nat) (q sd : Int) (j : Nat) : mkx g rm rb re set q sd j = mkx h rm rb re set q sd j := by
  unfold mkx
  simp only [E]
theorem owS_c {g : Hp} (E : ∀ a i, hI g a i = hI h a i) (set i : Nat) : owS g re set i = owS h re set i := by
  unfold owS
  rw [E]
theorem gd_c {g : Hp} (E : ∀ a i, hI g a i = hI h a i) {sq : Int} {set : Nat} {q : Int} {j t : Nat} (P : Gd h rm re R sq set q j t) : Gd g rm re R sq set q j t := by
  unfold Gd at *
  simp only [E]
  exact P
/-- one bit more in one mask -/
theorem mkg_w {n a : Int} {j0 i0 : Nat} {t : Int32} (T : TH ρ c h) (qm : ρ rm = 99) (em : hR h x0 46 = some rm) (eb : hR h x0 53 = some rb) (D : MBd x0 n a h) (en : (hI h x0 49).toInt = n) (ln : (x1.toNatClampNeg : Int) < n) {q0 : Int} (p0 : 0 ≤ q0) (w0 : q0 < (hI h x0 13).toInt ^ (hI h rm x1.toNatClampNeg).toNatClampNeg) (hj : j0 < (hI h rm x1.toNatClampNeg).toNatClampNeg) (ix : (i0 : Int) = mkx h rm rb re x1.toNatClampNeg q0 (owS h re x1.toNatClampNeg j0) j0) (it : Rg 0 63 t) (G : Gd h rm re R (hI h x0 13).toInt x1.toNatClampNeg q0 j0 t.toNatClampNeg) (ib : ∀ k, 0 ≤ (hI h rb k).toInt) (P : MkG x0 rm rb re rk R h) (w : o = wJ h rk i0 ((hJ h rk i0) ||| ((1 : Int64) <<< (t.toInt64 &&& 63)))) : MkG x0 rm rb re rk R o := by
  have E : ∀ a i, hI o a i = hI h a i := fun a i => by rw [w]; rfl
  intro set q j t' l1 p1 w1 h1 t64 bt
  rw [E] at l1 w1 h1
  rw [E] at w1
  rw [mkx_c E, owS_c E, w, r_J] at bt
  rw [E]
  refine gd_c E ?_
  by_cases z : (mkx h rm rb re set q (owS h re set j) j).toNat = i0
  · rw [if_pos ⟨rfl, z⟩] at bt
    have b0 := (mkx_b (rb := rb) (re := re) (thI T qm (k := 99) (i := set) (lo := 0) (hi := 5) rfl) p1 w1 h1).1
    have ee : mkx h rm rb re set q (owS h re set j) j = mkx h rm rb re x1.toNatClampNeg q0 (owS h re x1.toNatClampNeg j0) j0 := by
      by_cases n0 : 0 ≤ mkx h rm rb re set q (owS h re set j) j
      · omega
      · exact absurd b0 (by have := ib set; omega)
    obtain ⟨u1, u2, u3⟩ := mkx_inj T qm em eb D (by omega) ln p1 p0 w1 w0 h1 hj ee
    subst u1; subst u2; subst u3
    rw [bj_or, bj_one it] at bt
    cases y : bitJ (hJ h rk i0) t' with
    | true =>
      refine P _ q j t' (by omega) p1 w1 h1 t64 ?_
      rw [z]
      exact y
    | false =>
      rw [y] at bt
      have : t.toNatClampNeg = t' := by simpa using bt
      rw [← this]
      exact G
  · rw [if_neg (fun y => z y.2)] at bt
    exact P set q j t' l1 p1 w1 h1 t64 bt
end
