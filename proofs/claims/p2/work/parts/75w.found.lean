/-! what comes of a step is among the sets; numbers of states -/
theorem rsD_s {q sq : Int} : ∀ j, rsD q sq (j + 1) = rsD (q / sq) sq j := by
  intro j
  induction j with
  | zero => rfl
  | succ j ih => show rsD q sq (j + 1) / sq = rsD (q / sq) sq j / sq; rw [ih]
/-- a digit anew -/
theorem dg_put {sq t : Int} (s1 : 1 ≤ sq) (t0 : 0 ≤ t) (tl : t < sq) : ∀ (j n : Nat) (q : Int), j < n → 0 ≤ q → q < sq ^ n → 0 ≤ q + (t - dg q sq j) * sq ^ j ∧ q + (t - dg q sq j) * sq ^ j < sq ^ n := by
  intro j
  induction j with
  | zero =>
    intro n q hn q0 ql
    obtain ⟨n, rfl⟩ : ∃ m, n = m + 1 := ⟨n - 1, by omega⟩
    have e0 : dg q sq 0 = q % sq := rfl
    rw [e0, Int.pow_zero, Int.mul_one]
    have d := Int.mul_ediv_add_emod q sq
    have m0 := Int.emod_nonneg q (show sq ≠ 0 by omega)
    have l1 : q / sq < sq ^ n := Int.ediv_lt_of_lt_mul (by omega) (by rw [Int.pow_succ] at ql; exact ql)
    have g0 : 0 ≤ q / sq := Int.ediv_nonneg q0 (by omega)
    have m1 : sq * (q / sq + 1) ≤ sq * sq ^ n := Int.mul_le_mul_of_nonneg_left (by omega) (by omega)
    have m2 : 0 ≤ sq * (q / sq) := Int.mul_nonneg (by omega) g0
    rw [Int.mul_add, Int.mul_one] at m1
    rw [Int.pow_succ, Int.mul_comm (sq ^ n) sq]
    omega
  | succ j ih =>
    intro n q hn q0 ql
    obtain ⟨n, rfl⟩ : ∃ m, n = m + 1 := ⟨n - 1, by omega⟩
    have e0 : dg q sq (j + 1) = dg (q / sq) sq j := by unfold dg; rw [rsD_s]
    have d := Int.mul_ediv_add_emod q sq
    have m0 := Int.emod_nonneg q (show sq ≠ 0 by omega)
    have m3 := Int.emod_lt_of_pos q (show 0 < sq by omega)
    have l1 : q / sq < sq ^ n := Int.ediv_lt_of_lt_mul (by omega) (by rw [Int.pow_succ] at ql; exact ql)
    have g0 : 0 ≤ q / sq := Int.ediv_nonneg q0 (by omega)
    obtain ⟨i1, i2⟩ := ih n (q / sq) (by omega) g0 l1
    rw [e0]
    generalize hz : q / sq + (t - dg (q / sq) sq j) * sq ^ j = z at i1 i2
    have e1 : q + (t - dg (q / sq) sq j) * sq ^ (j + 1) = sq * z + q % sq := by
      rw [← hz, Int.mul_add, Int.pow_succ, ← Int.mul_assoc, Int.mul_comm sq ((t - dg (q / sq) sq j) * sq ^ j)]
      omega
    rw [e1]
    have m1 : sq * (z + 1) ≤ sq * sq ^ n := Int.mul_le_mul_of_nonneg_left (by omega) (by omega)
    have m2 : 0 ≤ sq * z := Int.mul_nonneg (by omega) i1
    rw [Int.mul_add, Int.mul_one] at m1
    rw [Int.pow_succ, Int.mul_comm (sq ^ n) sq]
    omega
section
variable {ρ : Nat → Nat} {c : Cm} {x0 rm re rb rk rs ro R Bc Bm F : Nat} {h : Hp}
/-- all sets stand in order, are found, and what comes of them is there -/
def AllS (x0 rm re rs rk R Bc Bm : Nat) (h : Hp) : Prop := ∀ k : Nat, (k : Int) < (hI h x0 49).toInt → Sd (fun i => hI h re (5 * k + i)) (hI h rm k).toNatClampNeg ∧ Fnd rs rk (pkF (fun i => hI h re (5 * k + i)) (hI h rm k) (hI h rm k).toNatClampNeg) h ∧ ∀ i, i < (hI h rm k).toNatClampNeg → CL re rm R Bc Bm rs rk h k i 9
theorem nI_m {n : Int32} (i : Rg 0 5 n) : nI n.toNatClampNeg = n := by
  have a := i.1
  have b := i.2
  have := clamp_i a
  apply Int32.toInt_inj.mp
  rw [z_toInt (by omega)]
  omega
theorem sk9 {f : Nat → Int32} {q n : Nat} (h : n ≤ q) : ∀ p, p < n → sk f q p = f p := fun p hp => by unfold sk; rw [if_pos (by omega)]
/-- the row behind a step is there -/
theorem fd_behind (T : TH ρ c h) (Q : SlR ρ x0 rm re rb rk rs ro h) (P : SE x0 h) (S : AllS x0 rm re rs rk R Bc Bm h) {k j q : Nat} (hk : (k : Int) < (hI h x0 49).toInt) (hj : j < (hI h rm k).toNatClampNeg) (nq : ¬ q = j) (q9 : q < (hI h rm k).toNatClampNeg ∨ 9 ≤ q) (roy : q < (hI h rm k).toNatClampNeg → ¬ (hI h re (5 * k + q) - (1 : Int32)) >>> ((1 : Int32) &&& 31) = hI h R 10) {v : Int32} (iv : Rg 0 24 v)
    (hv : v = hI h re (5 * k + j) ∨ FdS rs rk h (hI h rm k).toNatClampNeg (fun w => cn (up (fun p => hI h re (5 * k + p)) j v) w (hI h rm k).toNatClampNeg)) :
    FdS rs rk h (if (q : Int) < (hI h rm k).toInt then (hI h rm k).toNatClampNeg - 1 else (hI h rm k).toNatClampNeg) (fun w => cn (sk (up (fun p => hI h re (5 * k + p)) j v) q) w (if (q : Int) < (hI h rm k).toInt then (hI h rm k).toNatClampNeg - 1 else (hI h rm k).toNatClampNeg)) := by
  have Q' := Q
  obtain ⟨⟨r0, qm, qe, qb, qk, qs, qo⟩, ⟨e46, e47, e48, e55, e56, e57⟩⟩ := Q'
  have im := thI T qm (k := 99) (i := k) (lo := 0) (hi := 5) rfl
  have cm := clamp_i im.1
  have m5 := im.2
  obtain ⟨s1, s2, s3⟩ := S k hk
  -- the row with the man anew is there
  have A : FdS rs rk h (hI h rm k).toNatClampNeg (fun w => cn (up (fun p => hI h re (5 * k + p)) j v) w (hI h rm k).toNatClampNeg) := by
    rcases hv with w | w
    · refine ⟨fun p => hI h re (5 * k + p), s1, fun u => (cn_eq _ (fun p hp => ?_)).symm, by rw [nI_m im]; exact s2⟩
      unfold up
      split
      · rename_i z; rw [w, z]
      · rfl
    · exact w
  rcases q9 with ql | q9
  · rw [if_pos (by omega)]
    obtain ⟨f, f1, f2, f3⟩ := A
    have F3 := f3
    -- it is a set
    obtain ⟨m, B1, B2, B3⟩ := f3
    have sm : sl (pkF f (nI (hI h rm k).toNatClampNeg) (hI h rm k).toNatClampNeg) m < 16384 := Nat.mod_lt _ (by decide)
    obtain ⟨u1, u2⟩ := P.2.2.2.1 rs rk rm re e56 e55 e46 e47 _ sm B2
    rw [B3] at u2
    generalize hk' : (hI h rs (sl (pkF f (nI (hI h rm k).toNatClampNeg) (hI h rm k).toNatClampNeg) m)).toInt.toNat - 1 = k' at u2
    rw [nI_m im] at u2
    have lk' : (k' : Int) < (hI h x0 49).toInt := by omega
    rw [pkN_F] at u2
    have im' := thI T qm (k := 99) (i := k') (lo := 0) (hi := 5) rfl
    -- f has the range of men where it counts
    have rf : ∀ i, i < (hI h rm k).toNatClampNeg → Rg 0 24 (f i) := fun i hi => by
      have p : 0 < cn f (f i) (hI h rm k).toNatClampNeg := cn_in _ hi
      rw [f2] at p
      obtain ⟨i2, _, e2⟩ := cn_pos _ p
      rw [← e2]
      unfold up
      split
      · exact iv
      · exact thI T qe (k := 100) (lo := 0) (hi := 24) rfl
    have e1 : pkF f (hI h rm k) (hI h rm k).toNatClampNeg = pkF (fun i => if i < (hI h rm k).toNatClampNeg then f i else 0) (hI h rm k) (hI h rm k).toNatClampNeg := pkF_eq _ (fun i hi => by show f i = if i < (hI h rm k).toNatClampNeg then f i else 0; rw [if_pos hi])
    rw [e1] at u2
    obtain ⟨v1, v2⟩ := pkF_inj (f := fun i => if i < (hI h rm k).toNatClampNeg then f i else 0) (g := fun i => hI h re (5 * k' + i)) im im' (fun i => by
      show Rg 0 31 (if i < (hI h rm k).toNatClampNeg then f i else 0)
      split
      · exact rg_m (rf i ‹_›) (by decide)
      · exact rg_m (rg_b rfl : Rg 0 0 (0 : Int32)) (by decide)) (fun i => rg_m (thI T qe (k := 100) (i := 5 * k' + i) (lo := 0) (hi := 24) rfl) (by decide)) u2
    have v2' : ∀ i, i < (hI h rm k).toNatClampNeg → f i = hI h re (5 * k' + i) := fun i hi => by
      have := v2 i hi
      rw [if_pos hi] at this
      exact this
    -- the man that is taken is in it
    have uq : up (fun p => hI h re (5 * k + p)) j v q = hI h re (5 * k + q) := by unfold up; rw [if_neg nq]
    have cp : 0 < cn f (hI h re (5 * k + q)) (hI h rm k).toNatClampNeg := by
      rw [f2, ← uq]
      exact cn_in _ ql
    obtain ⟨i', i1, i2⟩ := cn_pos _ cp
    rw [v2' i' i1] at i2
    have em : (hI h rm k').toNatClampNeg = (hI h rm k).toNatClampNeg := by rw [← v1]
    obtain ⟨_, _, t3⟩ := S k' lk'
    obtain ⟨g, g1, g2, g3⟩ := (t3 i' (by omega)).1 (by rw [i2]; exact roy ql)
    rw [em] at g1 g2 g3
    refine ⟨g, g1, fun w => ?_, g3⟩
    rw [g2 w]
    have c1 := cn_sk (f := fun p => hI h re (5 * k' + p)) (k := i') (w := w) ((hI h rm k).toNatClampNeg - 1) (by omega)
    have c2 := cn_sk (f := up (fun p => hI h re (5 * k + p)) j v) (k := q) (w := w) ((hI h rm k).toNatClampNeg - 1) (by omega)
    have en : (hI h rm k).toNatClampNeg - 1 + 1 = (hI h rm k).toNatClampNeg := by omega
    rw [en] at c1 c2
    have c3 : cn (fun p => hI h re (5 * k' + p)) w (hI h rm k).toNatClampNeg = cn f w (hI h rm k).toNatClampNeg := (cn_eq _ v2').symm
    rw [c3, f2 w] at c1
    rw [uq] at c2
    show cn (sk (fun p => hI h re (5 * k' + p)) i') w ((hI h rm k).toNatClampNeg - 1) = cn (sk (up (fun p => hI h re (5 * k + p)) j v) q) w ((hI h rm k).toNatClampNeg - 1)
    have c4 : (if (fun p => hI h re (5 * k' + p)) i' = w then 1 else 0) = (if hI h re (5 * k + q) = w then 1 else 0) := by
      show (if hI h re (5 * k' + i') = w then 1 else 0) = _
      rw [i2]
    rw [c4] at c1
    exact Nat.add_right_cancel (c1.trans c2.symm)
  · rw [if_neg (by omega)]
    obtain ⟨f, f1, f2, f3⟩ := A
    refine ⟨f, f1, fun w => ?_, f3⟩
    rw [f2 w]
    exact (cn_eq _ (sk9 (by omega))).symm
end
