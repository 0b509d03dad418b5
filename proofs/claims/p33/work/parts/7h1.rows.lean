/-! SETS as rows: keys of the class, rows of the reference -/
def pad (f : Nat → Int32) (n : Nat) : Nat → Int := fun i => if i < n then (f i).toInt else 0
def V24 (f : Nat → Int32) (n : Nat) : Prop := ∀ i, i < n → 1 ≤ (f i).toInt ∧ (f i).toInt ≤ 24
def ins (f : Nat → Int32) (p : Nat) (w : Int32) : Nat → Int32 := fun j => if j < p then f j else if j = p then w else f (j - 1)
def Kq (x : Int32) (n : Nat) (f : Nat → Int32) : Prop := n ≤ 5 ∧ x.toInt = K5 (pad f n) ∧ V24 f n ∧ Sd f n
section
variable {f g : Nat → Int32} {n k p : Nat} {x x1 w : Int32} {D E : Nat → Int}
theorem k5_eq (h : ∀ j, j < 5 → D j = E j) : K5 D = K5 E := by
  unfold K5
  rw [h 0 (by decide), h 1 (by decide), h 2 (by decide), h 3 (by decide), h 4 (by decide)]
theorem pad_24 (V : V24 f n) : D24 (pad f n) := fun i => by
  unfold pad
  split
  · next l => have := V i l; omega
  · omega
theorem v24_sk (V : V24 f (n + 1)) : V24 (sk f k) n := fun i hi => by
  unfold sk
  split
  · exact V i (by omega)
  · exact V (i + 1) (by omega)
theorem k5_sk (hk : k ≤ n) (n4 : n ≤ 4) : K5 (dgo (pad f (n + 1)) k) = K5 (pad (sk f k) n) := k5_eq (fun j hj => by
  unfold dgo pad sk
  by_cases j4 : j = 4
  · rw [if_pos j4, if_neg (by omega)]
  · rw [if_neg j4]
    by_cases jk : j < k
    · rw [if_pos jk, if_pos (by omega), if_pos (by omega), if_pos jk]
    · rw [if_neg jk]
      by_cases jn : j < n
      · rw [if_pos (show j + 1 < n + 1 by omega), if_pos jn, if_neg jk]
      · rw [if_neg (show ¬ j + 1 < n + 1 by omega), if_neg jn])
theorem kq_sk (hk : k ≤ n) (Q : Kq x (n + 1) f) (e : x1.toInt = K5 (dgo (pad f (n + 1)) k)) : Kq x1 n (sk f k) :=
  ⟨by have := Q.1; omega, by rw [e]; exact k5_sk hk (by have := Q.1; omega), v24_sk Q.2.2.1, sd_sk Q.2.2.2⟩
theorem kq_ins (n4 : n ≤ 4) (Q : Kq x n f) (p4 : p ≤ 4) (A : ∀ j, j < p → ¬ pad f n j = 0 ∧ pad f n j ≤ w.toInt) (B : pad f n p = 0 ∨ w.toInt < pad f n p) (w1 : 1 ≤ w.toInt) (w24 : w.toInt ≤ 24) (e : x1.toInt = K5 (dgi (pad f n) p w.toInt)) : Kq x1 (n + 1) (ins f p w) ∧ ∀ v, cn (ins f p w) v (n + 1) = cn f v n + if w = v then 1 else 0 := by
  obtain ⟨_, _, V, S⟩ := Q
  have pn : p ≤ n := by
    by_cases q : p ≤ n
    · exact q
    · have := (A n (by omega)).1
      unfold pad at this
      rw [if_neg (by omega)] at this
      exact absurd rfl this
  have A' : ∀ j, j < p → (f j).toInt ≤ w.toInt := fun j hj => by
    have := (A j hj).2
    unfold pad at this
    rw [if_pos (by omega)] at this
    exact this
  have B' : ∀ j, p ≤ j → j < n → w.toInt < (f j).toInt := fun j h1 h2 => by
    unfold pad at B
    rw [if_pos (show p < n by omega)] at B
    have v0 := (V p (by omega)).1
    have lt : w.toInt < (f p).toInt := by
      rcases B with B | B
      · omega
      · exact B
    by_cases q : p = j
    · rw [← q]; exact lt
    · have := S p j (by omega) h2
      omega
  refine ⟨⟨by omega, ?_, fun i hi => ?_, fun i j hij hj => ?_⟩, fun v => ?_⟩
  · rw [e]
    refine k5_eq (fun j hj => ?_)
    unfold dgi pad ins
    by_cases q1 : j < p
    · rw [if_pos q1, if_pos (show j < n by omega), if_pos (show j < n + 1 by omega), if_pos q1]
    · rw [if_neg q1]
      by_cases q2 : j = p
      · rw [if_pos q2, if_pos (show j < n + 1 by omega), if_neg q1, if_pos q2]
      · rw [if_neg q2]
        by_cases q3 : j < n + 1
        · rw [if_pos (show j - 1 < n by omega), if_pos q3, if_neg q1, if_neg q2]
        · rw [if_neg (show ¬ j - 1 < n by omega), if_neg q3]
  · unfold ins
    split
    · exact V i (by omega)
    · split
      · exact ⟨w1, w24⟩
      · exact V (i - 1) (by omega)
  · unfold ins
    by_cases q1 : i < p
    · rw [if_pos q1]
      by_cases q2 : j < p
      · rw [if_pos q2]; exact S i j hij (by omega)
      · rw [if_neg q2]
        by_cases q3 : j = p
        · rw [if_pos q3]; exact A' i q1
        · rw [if_neg q3]
          have a1 := A' i q1
          have a2 := B' (j - 1) (by omega) (by omega)
          omega
    · rw [if_neg q1, if_neg (show ¬ j < p by omega)]
      by_cases q2 : i = p
      · rw [if_pos q2, if_neg (show ¬ j = p by omega)]
        have a2 := B' (j - 1) (by omega) (by omega)
        omega
      · rw [if_neg q2, if_neg (show ¬ j = p by omega)]
        exact S (i - 1) (j - 1) (by omega) (by omega)
  · have h1 := cn_sk (f := ins f p w) (k := p) (w := v) n pn
    have h2 : cn (sk (ins f p w) p) v n = cn f v n := cn_eq n (fun i _ => by
      unfold sk ins
      by_cases q : i < p
      · rw [if_pos q, if_pos q]
      · rw [if_neg q, if_neg (show ¬ i + 1 < p by omega), if_neg (show ¬ i + 1 = p by omega)]
        rfl)
    have h3 : ins f p w p = w := by
      unfold ins
      rw [if_neg (Nat.lt_irrefl p), if_pos rfl]
    rw [h2, h3] at h1
    exact h1.symm
theorem kq_sz (Q : Kq x n f) : Rg 0 33554431 x ∧ KyX x ∧ szI x.toInt = n := by
  obtain ⟨n5, e, V, _⟩ := Q
  have : x.toInt = kS (fun i => (f i).toInt) n := by
    rw [e]
    unfold K5 pad
    have hc : n = 0 ∨ n = 1 ∨ n = 2 ∨ n = 3 ∨ n = 4 ∨ n = 5 := by omega
    rcases hc with q | q | q | q | q | q <;> subst q <;> simp [kS]
  have K := kyw_of n5 V this
  exact ⟨K.1, K.2.1, K.2.2.1⟩
/-- one key, one row -/
theorem kq_inj {m : Nat} (Q : Kq x n f) (R : Kq x m g) : n = m ∧ ∀ i, i < n → f i = g i := by
  have a := (kq_sz Q).2.2
  have b := (kq_sz R).2.2
  have nm : n = m := a.symm.trans b
  refine ⟨nm, fun i hi => ?_⟩
  have h := k5_inj (pad_24 Q.2.2.1) (pad_24 R.2.2.1) (Q.2.1.symm.trans R.2.1) i (by have := Q.1; omega)
  unfold pad at h
  rw [if_pos hi, if_pos (by omega)] at h
  exact Int32.toInt_inj.mp h
theorem kq_key (Q : Kq x n f) {y : Int32} (R : Kq y n g) (h : ∀ i, i < n → f i = g i) : x = y := by
  apply Int32.toInt_inj.mp
  rw [Q.2.1, R.2.1]
  refine k5_eq (fun j _ => ?_)
  unfold pad
  by_cases q : j < n
  · rw [if_pos q, if_pos q, h j q]
  · rw [if_neg q, if_neg q]
theorem cmp_gt {a b : Int64} (h : 0 < lg_cmp a b) : b.toInt < a.toInt := by
  unfold lg_cmp at h
  by_cases q : a > b
  · exact Int64.lt_iff_toInt_lt.mp q
  · rw [if_neg q] at h
    by_cases q2 : a = b
    · rw [if_pos q2] at h; exact absurd h (by decide)
    · rw [if_neg q2] at h; exact absurd h (by decide)
end
/-! the class's addSet, by its equation -/
section
variable {h oc : Hp} {x0 ks pw F n : Nat} {x1 : Int32} {f : Nat → Int32}
def cT (h : Hp) (x0 pw n : Nat) : Int := (hJ h x0 18).toInt + 2 * (hI h pw n).toInt
theorem cadd_q (hF : 700000 ≤ F) (e4 : hR h x0 4 = some ks) (e6 : hR h x0 6 = some pw) (nk : ¬ x0 = ks) (Q : Kq x1 n f) (s0 : Rg 0 1024 (hI h x0 9)) (t0 : 0 ≤ (hJ h x0 18).toInt) (tb : (hJ h x0 18).toInt ≤ 1000000000000) (ip : Rg 0 1073741824 (hI h pw n)) (e : sX0_addSet F h x0 x1 = some oc) : ((∃ k : Nat, (k : Int) < (hI h x0 9).toInt ∧ hI h ks k = x1) ∧ oc = h) ∨ ((∀ k : Nat, (k : Int) < (hI h x0 9).toInt → ¬ hI h ks k = x1) ∧ ∃ T : Int64, T.toInt = cT h x0 pw n ∧ (((600000 < cT h x0 pw n ∨ 1024 ≤ (hI h x0 9).toInt) ∧ oc = wJ h x0 18 T) ∨ ((cT h x0 pw n ≤ 600000 ∧ (hI h x0 9).toInt < 1024) ∧ oc = wI (wI (wJ h x0 18 T) ks (hI h x0 9).toNatClampNeg x1) x0 9 ((hI h x0 9) + (1 : Int32))))) := by
  have z1 : (1 : Int32).toInt = 1 := rfl
  have z6 : (600000 : Int64).toInt = 600000 := rfl
  obtain ⟨k1, k2, k3⟩ := kq_sz Q
  have p0 := ip.1
  have p1 := ip.2
  have lp : ∀ (ff : Nat) {x2 : Int32}, 0 ≤ x2.toInt → (∀ k : Nat, (k : Int) < x2.toInt → ¬ hI h ks k = x1) → sX0_addSet_2 F ff h x0 x1 x2 = some oc → ((∃ k : Nat, (k : Int) < (hI h x0 9).toInt ∧ hI h ks k = x1) ∧ oc = h) ∨ ((∀ k : Nat, (k : Int) < (hI h x0 9).toInt → ¬ hI h ks k = x1) ∧ ∃ T : Int64, T.toInt = cT h x0 pw n ∧ (((600000 < cT h x0 pw n ∨ 1024 ≤ (hI h x0 9).toInt) ∧ oc = wJ h x0 18 T) ∨ ((cT h x0 pw n ≤ 600000 ∧ (hI h x0 9).toInt < 1024) ∧ oc = wI (wI (wJ h x0 18 T) ks (hI h x0 9).toNatClampNeg x1) x0 9 ((hI h x0 9) + (1 : Int32))))) := by
    intro ff
    induction ff with
    | zero => intro x2 _ _ e; exact absurd e (by rw [sX0_addSet_2]; exact fun z => nomatch z)
    | succ ff ih =>
      intro x2 a2 A e
      rw [sX0_addSet_2] at e
      unfold sX0_addSet_91 at e
      replace e := br_s e
      rcases e with ⟨l, e⟩ | ⟨l, e⟩
      · have l := le_i l
        refine Or.inr ⟨fun k hk => A k (by omega), ?_⟩
        replace e := cl_s e
        obtain ⟨r2, er2, e⟩ := e
        rw [r_eq e6 er2] at e
        replace e := cl_s e
        obtain ⟨o3, e3, e⟩ := e
        obtain ⟨w3, v3⟩ := sat_e (size_q hF k1.1) e3
        have n5 := Q.1
        have csz : (nI n).toNatClampNeg = n := by
          have := clamp_i (v := nI n) (by rw [z_toInt (by omega)]; exact Int.natCast_nonneg _)
          rw [z_toInt (by omega)] at this
          omega
        rw [k3] at v3
        rw [w3, v3] at e
        replace e := (gd_s e).2
        replace e := nm_s e
        obtain ⟨h5, w5, e⟩ := e
        rw [csz] at w5
        have ep : ((2 : Int64) * ((hI h pw n).toInt64)).toInt = 2 * (hI h pw n).toInt := by
          have e : ((hI h pw n).toInt64).toInt = (hI h pw n).toInt := Int32.toInt_toInt64 _
          have z2 : (2 : Int64).toInt = 2 := rfl
          rw [tm64 (by rw [e, z2]; omega) (by rw [e, z2]; omega), e, z2]
        have et : ((hJ h x0 18) + ((2 : Int64) * ((hI h pw n).toInt64))).toInt = cT h x0 pw n := by
          unfold cT
          rw [ta64 (by rw [ep]; omega) (by rw [ep]; omega), ep]
        have j5 : hJ h5 x0 18 = (hJ h x0 18) + ((2 : Int64) * ((hI h pw n).toInt64)) := by rw [w5, r_J, if_pos ⟨rfl, rfl⟩]
        have E5 : ∀ a i, hI h5 a i = hI h a i := fun a i => by rw [w5]; rfl
        refine ⟨_, et, ?_⟩
        replace e := br_s e
        rcases e with ⟨c, e⟩ | ⟨c, e⟩
        · have c := cmp_gt c
          rw [j5, et, z6] at c
          exact Or.inl ⟨Or.inl c, by rw [← Option.some.inj e]; exact w5⟩
        have c := cmp_le c
        rw [j5, et, z6] at c
        replace e := br_s e
        rcases e with ⟨d, e⟩ | ⟨d, e⟩
        · have d := le_i d
          rw [E5] at d
          exact Or.inl ⟨Or.inr d, by rw [← Option.some.inj e]; exact w5⟩
        have d := nle_i d
        rw [E5] at d
        have z10 : (1024 : Int32).toInt = 1024 := rfl
        replace e := cl_s e
        obtain ⟨r8, er8, e⟩ := e
        have y8 : r8 = ks := r_eq (by rw [w5]; exact e4) er8
        rw [y8] at e
        replace e := (gd_s e).2
        replace e := nm_s e
        obtain ⟨h10, w10, e⟩ := e
        replace e := nm_s e
        obtain ⟨h11, w11, e⟩ := e
        rw [E5] at w10
        refine Or.inr ⟨⟨c, by omega⟩, ?_⟩
        rw [← Option.some.inj e, w11, w10, w5]
        have y9 : hI (wI (wJ h x0 18 ((hJ h x0 18) + ((2 : Int64) * ((hI h pw n).toInt64)))) ks (hI h x0 9).toNatClampNeg x1) x0 9 = hI h x0 9 := by rw [rI_a nk]; rfl
        rw [y9]
      · have l := nle_i l
        replace e := cl_s e
        obtain ⟨r12, er12, e⟩ := e
        rw [r_eq e4 er12] at e
        replace e := (gd_s e).2
        replace e := br_s e
        have nx := nc_i a2
        rcases e with ⟨c, e⟩ | ⟨c, e⟩
        · exact Or.inl ⟨⟨x2.toNatClampNeg, by omega, c⟩, (Option.some.inj e).symm⟩
        replace e := nm_s e
        obtain ⟨v, wv, e⟩ := e
        have s2 := s0.2
        have tv : v.toInt = x2.toInt + 1 := by rw [wv, ta (by rw [z1]; omega), z1]
        refine ih (by omega) (fun k hk => ?_) e
        by_cases q : k = x2.toNatClampNeg
        · rw [q]; exact c
        · exact A k (by omega)
  unfold sX0_addSet at e
  exact lp F (by decide) (fun k hk => absurd hk (by show ¬ (k : Int) < 0; omega)) e
end
