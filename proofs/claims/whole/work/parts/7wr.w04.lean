section
/-! ENDINGS, the reference: its SETS are a family -/
def nkH (n : Nat) (h : Hp) (k : Nat) : Nat := (hI h (n + 592) k).toNatClampNeg
def rkH (n : Nat) (h : Hp) (k i : Nat) : Int := (hI h (n + 593) (5 * k + i)).toInt
def bkH (n : Nat) (h : Hp) (k : Nat) : Nat := (hI h (n + 594) k).toNatClampNeg
section
variable {f : Nat → Int32} {w : Int32} {v : Int}
theorem ctr_cn : ∀ (m : Nat), ctR (fun i => (f i).toInt) w.toInt m = cn f w m := by
  intro m
  induction m with
  | zero => rfl
  | succ m ih =>
    show ctR (fun i => (f i).toInt) w.toInt m + (if (f m).toInt = w.toInt then 1 else 0) = cn f w m + (if f m = w then 1 else 0)
    rw [ih]
    by_cases c : f m = w
    · rw [if_pos c, if_pos (by rw [c])]
    · rw [if_neg c, if_neg (fun z => c (Int32.toInt_inj.mp z))]
theorem ctr_0 (no : ∀ w : Int32, ¬ w.toInt = v) : ∀ (m : Nat), ctR (fun i => (f i).toInt) v m = 0 := by
  intro m
  induction m with
  | zero => rfl
  | succ m ih =>
    show ctR (fun i => (f i).toInt) v m + (if (f m).toInt = v then 1 else 0) = 0
    rw [ih, if_neg (no _)]
end
section
variable {ρ : Nat → Nat} {c : Cm} {n N q nT x ks pw rb ro w m : Nat} {h hc : Hp} {L : Nat → Nat → Int} {b : Int32 → Nat}
/-- what is found is a SET -/
theorem fds_k (T : TH ρ c h) (Q : SlR ρ (n + 513) (n + 592) (n + 593) rb (n + 598) (n + 599) ro h) (P : SE (n + 513) h) (m5 : m ≤ 5) (bv : ∀ v, 0 < b v → Rg 0 24 v) (F : FdS (n + 599) (n + 598) h m b) : ∃ k : Nat, (k : Int) < (hI h (n + 513) 49).toInt ∧ nkH n h k = m ∧ ∀ v, cn (fun i => hI h (n + 593) (5 * k + i)) v m = b v := by
  obtain ⟨⟨q0, qm, qe, qb, qk, qs, qo⟩, e46, e47, e48, e55, e56, e57⟩ := id Q
  obtain ⟨f, S, C, M, _, B2, B3⟩ := F
  have S4' := P.2.2.2.1 _ _ _ _ e56 e55 e46 e47 (sl (pkF f (nI m) m) M) (Nat.mod_lt _ (by decide)) B2
  obtain ⟨u1, u2⟩ := S4'
  generalize hk : (hI h (n + 599) (sl (pkF f (nI m) m) M)).toInt.toNat - 1 = k at u2
  rw [B3, pkN_F] at u2
  have im : (nI m).toInt = (m : Int) := z_toInt (by omega)
  have cm : (nI m).toNatClampNeg = m := by have := nc_i (x := nI m) (by omega); omega
  have r24 : ∀ k j, Rg 0 31 (hI h (n + 593) (5 * k + j)) := fun k j => by
    have := thI T qe (k := 100) (i := 5 * k + j) (lo := 0) (hi := 24) rfl
    exact ⟨this.1, by have := this.2; omega⟩
  have mk : Rg 0 5 (hI h (n + 592) k) := thI T qm (k := 99) (i := k) (lo := 0) (hi := 5) rfl
  have u3 : pkF (fun i => if i < m then f i else 0) (nI m) (nI m).toNatClampNeg = pkF (fun i => hI h (n + 593) (5 * k + i)) (hI h (n + 592) k) (hI h (n + 592) k).toNatClampNeg := by
    rw [← u2, cm]
    exact pkF_eq _ (fun i hi => if_pos hi)
  obtain ⟨v1, v2⟩ := pkF_inj ⟨by omega, by omega⟩ mk (fun j => by
    show Rg 0 31 (if j < m then f j else 0)
    split
    · next l =>
      have p := cn_in (f := f) m l
      rw [C] at p
      have := bv _ p
      exact ⟨this.1, by have := this.2; omega⟩
    · exact ⟨by decide, by decide⟩) (r24 k) u3
  refine ⟨k, by omega, ?_, fun v => ?_⟩
  · unfold nkH
    rw [← v1]; exact cm
  · rw [← C v]
    refine cn_eq m (fun i hi => ?_)
    have := v2 i (by omega)
    rw [if_pos hi] at this
    exact this.symm
theorem rfm_k (T : TH ρ c h) (Q : SlR ρ (n + 513) (n + 592) (n + 593) (n + 594) (n + 598) (n + 599) ro h) (P : SE (n + 513) h) (A : AllS (n + 513) (n + 592) (n + 593) (n + 599) (n + 598) (n + w) (n + w + 8) (n + w + 9) h) (J : JS x ks pw (n + 513) (n + 592) (n + 593) (n + 598) (n + 599) hc h) (Rl : RfL n h (n + w) L) (Lk : LwOk L) (eN : (hI h (n + 513) 49).toInt = (N : Int)) (eq : (hI h (n + 513) 13).toInt = (q : Int)) (Gd : ∀ k, k < N → GdK L nT (hI hc ks k)) : (Fam L N (nkH n h) (rkH n h) ∧ ∀ k, k < N → nkH n h k ≤ nT) ∧ FmR n h N (nkH n h) (rkH n h) (bkH n h) q ∧ ∀ k, k < N → ((bkH n h k + 2 * q ^ nkH n h k : Nat) : Int) ≤ (hJ h (n + 513) 59).toInt := by
  obtain ⟨⟨q0, qm, qe, qb, qk, qs, qo⟩, e46, e47, e48, e55, e56, e57⟩ := id Q
  obtain ⟨⟨j1, js⟩, ⟨j2, t0, t6⟩, j3, j4, j5, j6⟩ := id J
  rw [j1] at js
  rw [j1, eN] at j3 j4
  have l12 := Lk.1.2.2.1.2
  have m5 : ∀ k, Rg 0 5 (hI h (n + 592) k) := fun k => thI T qm (k := 99) (i := k) (lo := 0) (hi := 5) rfl
  have nk : ∀ k, (hI h (n + 592) k).toInt = (nkH n h k : Int) ∧ nkH n h k ≤ 5 := fun k => by
    have a := nc_i (x := hI h (n + 592) k) (m5 k).1
    have b := (m5 k).2
    unfold nkH
    omega
  have bk : ∀ k, (hI h (n + 594) k).toInt = (bkH n h k : Int) := fun k => (nc_i (thI T qb (k := 101) (i := k) (lo := 0) (hi := 600000) rfl).1).symm
  have pq : ∀ k, ((q ^ nkH n h k : Nat) : Int) = (hI h (n + 513) 13).toInt ^ (hI h (n + 592) k).toNatClampNeg := fun k => by
    rw [eq, Int.natCast_pow]
    rfl
  have K : ∀ k, k < N → Kq (hI hc ks k) (nkH n h k) (fun i => hI h (n + 593) (5 * k + i)) := fun k hk => (j3 k (by omega)).1
  have G : ∀ k, k < N → nkH n h k ≤ nT ∧ GdR L (nkH n h k) (fun i => hI h (n + 593) (5 * k + i)) := fun k hk => by
    obtain ⟨m, row, a1, a2, a3⟩ := Gd k hk
    obtain ⟨b1, b2⟩ := kq_inj (K k hk) a1
    rw [← b1] at a2 a3
    refine ⟨a2, fun i hi => ?_, fun i j ij jm z => ?_⟩
    · show (hI h (n + 593) (5 * k + i)).toInt ≤ 2 * L 2 0
      rw [b2 i hi]; exact a3.1 i hi
    · have z : hI h (n + 593) (5 * k + i) = hI h (n + 593) (5 * k + j) := z
      show ¬ ((hI h (n + 593) (5 * k + i)).toInt - 1) / 2 = L 10 0
      rw [b2 i (by omega), b2 j jm] at z
      rw [b2 i (by omega)]
      exact a3.2 i j ij jm z
  have vv : ∀ k, k < N → ∀ i, i < nkH n h k → 1 ≤ rkH n h k i ∧ rkH n h k i ≤ 24 := fun k hk i hi => (K k hk).2.2.1 i hi
  have S3' : ∀ k, k < N → ((bkH n h k + 2 * q ^ nkH n h k : Nat) : Int) ≤ (hJ h (n + 513) 59).toInt := fun k hk => by
    have := P.2.2.1 _ _ e46 e48 k (by omega)
    rw [bk, ← pq] at this
    omega
  have chain : ∀ j k, j < k → k < N → bkH n h j + 2 * q ^ nkH n h j ≤ bkH n h k := fun j k => by
    induction k with
    | zero => intro z; omega
    | succ k ih =>
      intro jk kN
      have s := P.2.2.2.2.2 _ _ e46 e48 k (by omega)
      rw [bk, bk, ← pq] at s
      by_cases cc : j = k
      · rw [cc]; omega
      · have := ih (by omega) (by omega)
        omega
  have L10 : (hI h (n + w) 10).toInt = L 10 0 := congrFun (congrFun Rl.2.1 10) 0
  have L80 : ∀ i, (hI h (n + w + 8) i).toInt = L 80 i := fun i => congrFun (congrFun Rl.2.1 80) i
  have L81 : ∀ i, (hI h (n + w + 9) i).toInt = L 81 i := fun i => congrFun (congrFun Rl.2.1 81) i
  have z1 : (1 : Int32).toInt = 1 := rfl
  have z2 : (2 : Int32).toInt = 2 := rfl
  have z6 : (6 : Int32).toInt = 6 := rfl
  refine ⟨⟨⟨fun k hk => ?_, fun j k hj hk e1 e2 => ?_, fun k i hk hi => ?_⟩, fun k hk => (G k hk).1⟩, ⟨⟨by have := js.2; omega, fun k hk => ⟨⟨(nk k).1, fun i hi => rfl⟩, (nk k).2, vv k hk, bk k, by have := S3' k hk; omega⟩⟩, chain, fun k hk => ?_, fun j => ?_, fun j hj p => ?_⟩, S3'⟩
  · have gk := (G k hk).2
    refine ⟨(nk k).2, fun i hi => ⟨(vv k hk i hi).1, gk.1 i hi⟩, fun i hi => (K k hk).2.2.2 i (i + 1) (Nat.lt_succ_self i) hi, fun i j d ij jm d2 l0 z => ?_⟩
    have a1 : (hI h (n + 593) (5 * k + i)).toInt = 1 + 2 * L 10 0 + (d : Int) := z.1
    have a2 : (hI h (n + 593) (5 * k + j)).toInt = 1 + 2 * L 10 0 + (d : Int) := z.2
    exact gk.2 i j ij jm (Int32.toInt_inj.mp (by rw [a1, a2])) (by
      show ((hI h (n + 593) (5 * k + i)).toInt - 1) / 2 = L 10 0
      rw [a1]; omega)
  · have ky : hI hc ks j = hI hc ks k := by
      have Kk := K k hk
      rw [← e1] at Kk
      exact kq_key (K j hj) Kk (fun i hi => Int32.toInt_inj.mp (e2 i hi))
    by_cases l : j < k
    · exact absurd ky (j4 j k l (by omega))
    · by_cases l2 : k < j
      · exact absurd ky.symm (j4 k j l2 (by omega))
      · omega
  · obtain ⟨_, _, cl⟩ := A k (by omega)
    obtain ⟨c1, c2⟩ := cl i hi
    have hi' : i < (hI h (n + 592) k).toNatClampNeg := hi
    have vr := (K k hk).2.2.1 i hi
    have vr : 1 ≤ (hI h (n + 593) (5 * k + i)).toInt ∧ (hI h (n + 593) (5 * k + i)).toInt ≤ 24 := vr
    have ri : rkH n h k i = (hI h (n + 593) (5 * k + i)).toInt := rfl
    have r24 : ∀ i, i < nkH n h k → Rg 0 24 (hI h (n + 593) (5 * k + i)) := fun i hi => by
      have := vv k hk i hi
      have e : rkH n h k i = (hI h (n + 593) (5 * k + i)).toInt := rfl
      exact ⟨by omega, by omega⟩
    obtain ⟨s1, mr, sr⟩ := man_v (v := hI h (n + 593) (5 * k + i)) vr
    have sh := shr_i (x := hI h (n + 593) (5 * k + i) - (1 : Int32)) (s := (1 : Int32)) 1 rfl
    have p2 : ((2 ^ 1 : Nat) : Int) = 2 := rfl
    rw [p2, s1] at sh
    have mn : ((mnO (rkH n h k i) : Nat) : Int) = ((hI h (n + 593) (5 * k + i)).toInt - 1) / 2 := by unfold mnO; rw [ri]; omega
    have cman : ((hI h (n + 593) (5 * k + i) - (1 : Int32)) >>> ((1 : Int32) &&& 31)).toNatClampNeg = mnO (rkH n h k i) := by
      have := nc_i (x := (hI h (n + 593) (5 * k + i) - (1 : Int32)) >>> ((1 : Int32) &&& 31)) mr.1
      omega
    refine ⟨fun nr => ?_, fun u hu => ?_⟩
    · have fd := c1 (fun z => nr (by rw [mn, ← sh, z, L10]))
      obtain ⟨k', k1, k2, k3⟩ := fds_k T Q P (by have := (nk k).2; unfold nkH at this; omega) (fun v pv => by
        obtain ⟨a, al, ae⟩ := cn_pos _ pv
        rw [← ae]
        unfold sk
        split
        · exact r24 a (by unfold nkH; omega)
        · exact r24 (a + 1) (by unfold nkH; omega)) fd
      refine ⟨k', by omega, fun v => ?_⟩
      by_cases hv : ∃ w : Int32, w.toInt = v
      · obtain ⟨y, rfl⟩ := hv
        have a1 : ctR (rkH n h k') y.toInt (nkH n h k') = cn (fun i => hI h (n + 593) (5 * k' + i)) y (nkH n h k') := ctr_cn _
        have a2 : ctR (rkH n h k) y.toInt (nkH n h k) = cn (fun i => hI h (n + 593) (5 * k + i)) y (nkH n h k) := ctr_cn _
        have k3 := k3 y
        rw [← k2] at k3
        rw [a1, a2, k3, k2]
        have cs := cn_sk (f := fun p => hI h (n + 593) (5 * k + p)) (k := i) (w := y) ((hI h (n + 592) k).toNatClampNeg - 1) (by omega)
        rw [show (hI h (n + 592) k).toNatClampNeg - 1 + 1 = nkH n h k by unfold nkH; omega] at cs
        rw [← cs]
        show _ + _ = _ + _
        congr 1
        by_cases z : hI h (n + 593) (5 * k + i) = y
        · rw [if_pos z, if_pos (by rw [ri, z])]
        · rw [if_neg z, ri, if_neg (fun zz => z (Int32.toInt_inj.mp zz))]
      · have no : ∀ w : Int32, ¬ w.toInt = v := fun w z => hv ⟨w, z⟩
        have a1 : ctR (rkH n h k') v (nkH n h k') = 0 := ctr_0 no _
        have a2 : ctR (rkH n h k) v (nkH n h k) = 0 := ctr_0 no _
        rw [a1, a2, ri, if_neg (no _)]
    · have lk := (Lk.2.1.1 (mnO (rkH n h k i)) (by omega)).1.2
      obtain ⟨⟨g0, g2⟩, _⟩ := (Lk.2.1.1 (mnO (rkH n h k i)) (by omega)).2 u hu
      have iu : (nI u).toInt = (u : Int) := z_toInt (by omega)
      have fd := c2 (nI u) (by omega) (by omega) (by rw [cman, L81, iu]; exact hu)
      have m6 : ((6 : Int32) * ((hI h (n + 593) (5 * k + i) - (1 : Int32)) >>> ((1 : Int32) &&& 31))).toInt = 6 * (mnO (rkH n h k i) : Int) := by rw [tm (by rw [z6, sh]; omega), z6, sh, mn]
      have ix : (((6 : Int32) * ((hI h (n + 593) (5 * k + i) - (1 : Int32)) >>> ((1 : Int32) &&& 31))) + nI u).toInt = 6 * (mnO (rkH n h k i) : Int) + u := by rw [ta (by rw [m6, iu]; omega), m6, iu]
      have ic : (((6 : Int32) * ((hI h (n + 593) (5 * k + i) - (1 : Int32)) >>> ((1 : Int32) &&& 31))) + nI u).toNatClampNeg = 6 * mnO (rkH n h k i) + u := by
        have := nc_i (x := ((6 : Int32) * ((hI h (n + 593) (5 * k + i) - (1 : Int32)) >>> ((1 : Int32) &&& 31))) + nI u) (by omega)
        omega
      rw [ic] at fd
      have hb := L80 (6 * mnO (rkH n h k i) + u)
      generalize hI h (n + w + 8) (6 * mnO (rkH n h k i) + u) = bb at fd hb
      have sd := and1_i (x := hI h (n + 593) (5 * k + i) - (1 : Int32)) (by omega)
      have d2 : ((2 : Int32) * bb).toInt = 2 * bb.toInt := by rw [tm (by rw [z2]; omega), z2]
      have d3 : ((1 : Int32) + ((2 : Int32) * bb)).toInt = 1 + 2 * bb.toInt := by rw [ta (by rw [z1, d2]; omega), z1, d2]
      have d4 : (((1 : Int32) + ((2 : Int32) * bb)) + ((hI h (n + 593) (5 * k + i) - (1 : Int32)) &&& (1 : Int32))).toInt = cdV (L 80 (6 * mnO (rkH n h k i) + u)) ((rkH n h k i - 1) % 2) := by
        rw [ta (by rw [d3, sd, s1]; omega), d3, sd, s1, hb]
        rfl
      generalize ((1 : Int32) + ((2 : Int32) * bb)) + ((hI h (n + 593) (5 * k + i) - (1 : Int32)) &&& (1 : Int32)) = X at fd d4
      obtain ⟨k', k1, k2, k3⟩ := fds_k T Q P (by have := (nk k).2; unfold nkH at this; omega) (fun v pv => by
        obtain ⟨a, al, ae⟩ := cn_pos _ pv
        rw [← ae]
        unfold up
        split
        · unfold cdV at d4
          exact ⟨by omega, by omega⟩
        · exact r24 a (by unfold nkH; omega)) fd
      refine ⟨k', by omega, fun v => ?_⟩
      by_cases hv : ∃ w : Int32, w.toInt = v
      · obtain ⟨y, rfl⟩ := hv
        have a1 : ctR (rkH n h k') y.toInt (nkH n h k') = cn (fun i => hI h (n + 593) (5 * k' + i)) y (nkH n h k') := ctr_cn _
        have a2 : ctR (rkH n h k) y.toInt (nkH n h k) = cn (fun i => hI h (n + 593) (5 * k + i)) y (nkH n h k) := ctr_cn _
        have k3 := k3 y
        rw [← k2] at k3
        rw [a1, a2, k3, k2]
        have cs := cn_up (f := fun p => hI h (n + 593) (5 * k + p)) (k := i) (v := X) (w := y) (hI h (n + 592) k).toNatClampNeg hi'
        have e1 : (if hI h (n + 593) (5 * k + i) = y then 1 else 0) = (if rkH n h k i = y.toInt then 1 else 0 : Nat) := by
          by_cases z : hI h (n + 593) (5 * k + i) = y
          · rw [if_pos z, if_pos (by rw [ri, z])]
          · rw [if_neg z, ri, if_neg (fun zz => z (Int32.toInt_inj.mp zz))]
        have e2 : (if X = y then 1 else 0) = (if cdV (L 80 (6 * mnO (rkH n h k i) + u)) ((rkH n h k i - 1) % 2) = y.toInt then 1 else 0 : Nat) := by
          rw [← d4]
          by_cases z : X = y
          · rw [if_pos z, if_pos (by rw [z])]
          · rw [if_neg z, if_neg (fun zz => z (Int32.toInt_inj.mp zz))]
        rw [← e1, ← e2]
        exact cs
      · have no : ∀ w : Int32, ¬ w.toInt = v := fun w z => hv ⟨w, z⟩
        have a1 : ctR (rkH n h k') v (nkH n h k') = 0 := ctr_0 no _
        have a2 : ctR (rkH n h k) v (nkH n h k) = 0 := ctr_0 no _
        rw [a1, a2, ← d4, ri, if_neg (no _), if_neg (no _)]
  · exact (A k (by omega)).2.1
  · have := thI T qs (k := 107) (i := j) (lo := 0) (hi := 4096) rfl
    exact ⟨this.1, this.2⟩
  · have := P.2.2.2.1 _ _ _ _ e56 e55 e46 e47 j hj p
    rw [pkN_F] at this
    rw [eN] at this
    exact this
end
end
section
/-! ENDINGS, the class: its SETS as they stand behind gathering -/
def sbF (nk : Nat → Nat) (q : Nat) : Nat → Nat
  | 0 => 0
  | k + 1 => sbF nk q k + 2 * q ^ nk k
theorem sbf_m {nk : Nat → Nat} {q i : Nat} : ∀ {j : Nat}, i ≤ j → sbF nk q i ≤ sbF nk q j := by
  intro j
  induction j with
  | zero => intro h; rw [Nat.le_zero.mp h]; exact Nat.le_refl _
  | succ j ih =>
    intro h
    by_cases c : i = j + 1
    · rw [c]; exact Nat.le_refl _
    · have := ih (by omega)
      show sbF nk q i ≤ sbF nk q j + 2 * q ^ nk j
      omega
theorem sbf_s {nk : Nat → Nat} {q : Nat} : ∀ (N : Nat), sm (fun a => 2 * (q : Int) ^ nk a) N = (sbF nk q N : Int) := by
  intro N
  induction N with
  | zero => rfl
  | succ N ih =>
    show sm (fun a => 2 * (q : Int) ^ nk a) N + 2 * (q : Int) ^ nk N = ((sbF nk q N + 2 * q ^ nk N : Nat) : Int)
    rw [ih, Int.natCast_add, Int.natCast_mul, Int.natCast_pow]
    rfl
theorem keyr_q {x : Int32} {m : Nat} {f : Nat → Int32} (Q : Kq x m f) : KeyR x (fun i => (f i).toInt) m := ⟨Q.1, Q.2.2.1, Q.2.1⟩
/-- the same keys in two orders -/
theorem pm_ex {N : Nat} {kf e : Nat → Int32} (d : ∀ a b, a < N → b < N → kf a = kf b → a = b) (d' : ∀ a b, a < N → b < N → e a = e b → a = b) (s : ∀ v, (∃ a, a < N ∧ e a = v) ↔ ∃ a, a < N ∧ kf a = v) : ∃ p r, PmN N p r ∧ (∀ a, a < N → kf (r a) = e a) ∧ ∀ a, a < N → e (p a) = kf a := by
  have x1 : ∀ a, a < N → ∃ b, b < N ∧ kf b = e a := fun a ha => (s (e a)).mp ⟨a, ha, rfl⟩
  have x2 : ∀ a, a < N → ∃ b, b < N ∧ e b = kf a := fun a ha => (s (kf a)).mpr ⟨a, ha, rfl⟩
  obtain ⟨r, hr⟩ : ∃ r : Nat → Nat, ∀ a, (a < N → r a < N ∧ kf (r a) = e a) ∧ (¬ a < N → r a = a) := ⟨fun a => if h : a < N then Classical.choose (x1 a h) else a, fun a => ⟨fun h => by
    show (if h : a < N then Classical.choose (x1 a h) else a) < N ∧ kf (if h : a < N then Classical.choose (x1 a h) else a) = e a
    rw [dif_pos h]
    exact Classical.choose_spec (x1 a h), fun h => dif_neg h⟩⟩
  obtain ⟨p, hp⟩ : ∃ p : Nat → Nat, ∀ a, (a < N → p a < N ∧ e (p a) = kf a) ∧ (¬ a < N → p a = a) := ⟨fun a => if h : a < N then Classical.choose (x2 a h) else a, fun a => ⟨fun h => by
    show (if h : a < N then Classical.choose (x2 a h) else a) < N ∧ e (if h : a < N then Classical.choose (x2 a h) else a) = kf a
    rw [dif_pos h]
    exact Classical.choose_spec (x2 a h), fun h => dif_neg h⟩⟩
  refine ⟨p, r, ⟨fun k => ?_, fun k => ?_, fun k hk => ((hr k).1 hk).1, fun k hk => ((hp k).1 hk).1⟩, fun a ha => ((hr a).1 ha).2, fun a ha => ((hp a).1 ha).2⟩
  · by_cases c : k < N
    · obtain ⟨a1, a2⟩ := (hr k).1 c
      obtain ⟨b1, b2⟩ := (hp (r k)).1 a1
      exact d' _ _ b1 c (by rw [b2, a2])
    · rw [(hr k).2 c, (hp k).2 c]
  · by_cases c : k < N
    · obtain ⟨a1, a2⟩ := (hp k).1 c
      obtain ⟨b1, b2⟩ := (hr (p k)).1 a1
      exact d _ _ b1 c (by rw [b2, a2])
    · rw [(hp k).2 c, (hr k).2 c]
section
variable {n F N q tot : Nat} {h : Hp} {u : Int32 × Hp} {nk : Nat → Nat} {row : Nat → Nat → Int32}
theorem cst_k (hF : 700000 ≤ F) (k0 : DyK n h h) (N10 : N ≤ 1024) (e9 : (hI h (n + 62) 9).toInt = (N : Int)) (K : ∀ k, k < N → Kq (hI h (n + 69) k) (nk k) (row k)) (ds : ∀ j k, j < k → k < N → ¬ hI h (n + 69) j = hI h (n + 69) k) (sum : sm (fun k => 2 * (q : Int) ^ nk k) N = (tot : Int)) (t6 : tot ≤ 600000) (e18 : (hJ h (n + 62) 18).toInt = (tot : Int)) (Pw : PwE n h q) (e : sX0_gatherSets_104 F h (n + 62) = some u) : u.1 = 1 ∧ (DkT n h u.2 ∧ FrW (WGs n) h u.2) ∧ ∃ p r sb, PmN N p r ∧ FmC n u.2 N (fun k => nk (r k)) (fun k i => (row (r k) i).toInt) sb q ∧ SoK n u.2 N ∧ sb N = tot ∧ ∀ k, k < N → hI u.2 (n + 69) (p k) = hI h (n + 69) k := by
  have z0 : (0 : Int32).toInt = 0 := rfl
  have s6 := dk_610 k0
  have u1 := (low_104 (x := n + 62) (ks := n + 69) (st := n + 70) (by omega) (by omega) (dk_e (a := 62) (f := 4) (b := 69) k0 (by decide +kernel)) (dk_e (a := 62) (f := 5) (b := 70) k0 (by decide +kernel)) (by omega) e).1
  refine ⟨u1, ?_⟩
  unfold sX0_gatherSets_104 at e
  rcases br_s e with ⟨_, e⟩ | ⟨_, e⟩
  rotate_left
  · rw [so_e e] at u1
    exact absurd u1 (show ¬ (0 : Int32) = 1 by decide)
  obtain ⟨o2, e2, e⟩ := cl_s e
  have eu := so_e e
  unfold sX0_sortSets at e2
  have inj : ∀ a b, a < N → b < N → hI h (n + 69) a = hI h (n + 69) b → a = b := fun a b ha hb z => by
    by_cases c : a < b
    · exact absurd z (ds a b c hb)
    · by_cases c2 : b < a
      · exact absurd z.symm (ds b a c2 ha)
      · omega
  have Ep : EpE N (fun a => hI h (n + 69) a) (fun x => 2 * (q : Int) ^ szI x.toInt) (tot : Int) (fun a => hI h (n + 69) a) := by
    refine ⟨inj, fun v => Iff.rfl, ?_⟩
    rw [← sum]
    exact sm_ex N (fun i hi => by
      show 2 * (q : Int) ^ szI (hI h (n + 69) i).toInt = 2 * (q : Int) ^ nk i
      rw [(kq_sz (K i hi)).2.2])
  obtain ⟨v, dv, Fv, Ev, Sv, e2⟩ := srt_2 (kf := fun a => hI h (n + 69) a) (G := fun x => 2 * (q : Int) ^ szI x.toInt) (tot := (tot : Int)) k0 N10 e9 F (i := 1) dkt_0 fw_0 rfl Ep (fun a b ab b1 _ => by omega) e2
  obtain ⟨p, r, Pm, hr, hp⟩ := pm_ex inj Ev.1 Ev.2.1
  have Kv : ∀ j, j < N → KeyR (hI v (n + 69) j) (fun i => (row (r j) i).toInt) (nk (r j)) ∧ sbF (fun k => nk (r k)) q (j + 1) = sbF (fun k => nk (r k)) q j + 2 * q ^ nk (r j) := fun j hj => by
    have a := keyr_q (K (r j) (Pm.2.2.1 j hj))
    have b := hr j hj
    have b : hI h (n + 69) (r j) = hI v (n + 69) j := b
    rw [b] at a
    exact ⟨a, rfl⟩
  have sN : sbF (fun k => nk (r k)) q N = tot := by
    have a := Ev.2.2
    have b : sm (fun a => 2 * (q : Int) ^ szI (hI v (n + 69) a).toInt) N = sm (fun a => 2 * (q : Int) ^ nk (r a)) N := sm_ex N (fun i hi => by
      show 2 * (q : Int) ^ szI (hI v (n + 69) i).toInt = 2 * (q : Int) ^ nk (r i)
      rw [ksz_v (Kv i hi).1])
    have c := sbf_s (nk := fun k => nk (r k)) (q := q) N
    have a : sm (fun a => 2 * (q : Int) ^ szI (hI v (n + 69) a).toInt) N = (tot : Int) := a
    rw [b] at a
    have c : sm (fun a => 2 * (q : Int) ^ nk (r a)) N = _ := c
    rw [a] at c
    omega
  have kv := dk_self (dv.1 _ k0)
  have sv := dk_610 kv
  obtain ⟨d7, F7, s7⟩ := srt_77 (h0 := wI v (n + 70) 0 0) (nk := fun k => nk (r k)) (rk := fun k i => (row (r k) i).toInt) (sb := sbF (fun k => nk (r k)) q) (q := q) hF (dk_self (dk_wI kv)) N10 (by rw [rI_a (by omega), (Fv.2 (n + 62) 9 (by omega) (fun z => by omega)).1]; exact e9) (fun j hj => by rw [rI_a (by omega)]; exact Kv j hj) (fun i hi => by rw [rI_a (by omega), (Fv.2 (n + 71) i (by omega) (fun z => by omega)).1]; exact Pw i hi) (fun j hj => by have := sbf_m (nk := fun k => nk (r k)) (q := q) hj; omega) F (i := 0) dkt_0 fw_0 rfl (Nat.zero_le _) (fun j hj => by
    have : j = 0 := by omega
    rw [this, rI_s]; rfl) e2
  have D : DkT n h o2 := dkt_t (dkt_w dv) d7
  have sw : hS (wI v (n + 70) 0 0) = hS v := rfl
  have I69 : ∀ i, hI o2 (n + 69) i = hI v (n + 69) i := fun i => by rw [(F7.2 (n + 69) i (by omega) (fun z => by omega)).1, rI_a (by omega)]
  have FF : FrW (WGs n) h o2 := fw_t (fw_wI (fw_s Fv (fun a i z => Or.inl z)) (Or.inr rfl)) (fw_s F7 (fun a i z => Or.inr z))
  have eu2 : u.2 = o2 := by rw [eu]
  rw [eu2]
  refine ⟨⟨D, FF⟩, p, r, sbF (fun k => nk (r k)) q, Pm, ⟨⟨N10, by rw [(FF.2 (n + 62) 9 (by omega) (fun z => by unfold WGs at z; omega)).1]; exact e9⟩, fun j hj => by rw [I69]; exact Kv j hj, s7, rfl, by rw [sN]; exact t6⟩, fun j k jk kN => by rw [I69, I69]; exact Sv j k jk kN, sN, fun k hk => by rw [I69]; exact hp k hk⟩
end
end
section
/-! ENDINGS, the class: gathering makes nothing and links nothing anew -/
def HSN (g h : Hp) : Prop := hS h = hS g ∧ (∀ a, hN h a = hN g a) ∧ ∀ a i, hR h a i = hR g a i
theorem hsn_0 {g : Hp} : HSN g g := ⟨rfl, fun _ => rfl, fun _ _ => rfl⟩
theorem hs0_X0_sizeOf_22 {g : Hp} {F : Nat} {o : Int32 × Hp} {x1 : Int32} {h : Hp} (k : HSN g h) (e : sX0_sizeOf_22 F h x1 = some o) : HSN g o.2 := by
  unfold sX0_sizeOf_22 at e
  rw [← Option.some.inj e]; exact k
theorem hs0_X0_codeIn {g : Hp} {o : Int32 × Hp} {x0 : Int32} {x1 : Int32} {h : Hp} (k : HSN g h) (e : sX0_codeIn h x0 x1 = some o) : HSN g o.2 := by
  unfold sX0_codeIn at e
  rw [← Option.some.inj e]; exact k
theorem hs0_X0_sizeOf_2 {g : Hp} {F : Nat} {o : Int32 × Hp} : ∀ (f : Nat) {h : Hp} {x0 : Int32} {x1 : Int32}, HSN g h → sX0_sizeOf_2 F f h x0 x1 = some o → HSN g o.2 := by
  intro f
  induction f with
  | zero => intro h x0 x1 _ e; exact absurd e (by rw [sX0_sizeOf_2]; exact fun z => nomatch z)
  | succ f ih =>
    intro h x0 x1 k e
    rw [sX0_sizeOf_2] at e
    replace e := br_s e
    rcases e with ⟨_, e⟩ | ⟨_, e⟩
    · exact hs0_X0_sizeOf_22 k e
    · replace e := cl_s e
      obtain ⟨o_2, eo_2, e⟩ := e
      have ko_2 : HSN g o_2.2 := hs0_X0_codeIn k eo_2
      replace e := br_s e
      rcases e with ⟨_, e⟩ | ⟨_, e⟩
      · exact hs0_X0_sizeOf_22 ko_2 e
      · replace e := nm_s e
        obtain ⟨v_4, wv_4, e⟩ := e
        exact ih ko_2 e
theorem hs0_X0_sizeOf {g : Hp} {F : Nat} {o : Int32 × Hp} {x0 : Int32} {h : Hp} (k : HSN g h) (e : sX0_sizeOf F h x0 = some o) : HSN g o.2 := by
  unfold sX0_sizeOf at e
  exact hs0_X0_sizeOf_2 F k e
theorem hs0_X0_addSet_91 {g : Hp} {F : Nat} {o : Hp} {h : Hp} (k : HSN g h) (e : sX0_addSet_91 F h = some o) : HSN g o := by
  unfold sX0_addSet_91 at e
  rw [← Option.some.inj e]; exact k
theorem hs0_X0_addSet_2 {g : Hp} {F : Nat} {o : Hp} : ∀ (f : Nat) {h : Hp} {x0 : Nat} {x1 : Int32} {x2 : Int32}, HSN g h → sX0_addSet_2 F f h x0 x1 x2 = some o → HSN g o := by
  intro f
  induction f with
  | zero => intro h x0 x1 x2 _ e; exact absurd e (by rw [sX0_addSet_2]; exact fun z => nomatch z)
  | succ f ih =>
    intro h x0 x1 x2 k e
    rw [sX0_addSet_2] at e
    replace e := br_s e
    rcases e with ⟨_, e⟩ | ⟨_, e⟩
    · replace e := cl_s e
      obtain ⟨r_2, _, e⟩ := e
      replace e := cl_s e
      obtain ⟨o_3, eo_3, e⟩ := e
      have ko_3 : HSN g o_3.2 := hs0_X0_sizeOf k eo_3
      replace e := (gd_s e).2
      replace e := nm_s e
      obtain ⟨h_5, wh_5, e⟩ := e
      have kh_5 : HSN g h_5 := by rw [wh_5]; exact ko_3
      replace e := br_s e
      rcases e with ⟨_, e⟩ | ⟨_, e⟩
      · exact hs0_X0_addSet_91 kh_5 e
      · replace e := br_s e
        rcases e with ⟨_, e⟩ | ⟨_, e⟩
        · exact hs0_X0_addSet_91 kh_5 e
        · replace e := cl_s e
          obtain ⟨r_8, _, e⟩ := e
          replace e := (gd_s e).2
          replace e := nm_s e
          obtain ⟨h_10, wh_10, e⟩ := e
          have kh_10 : HSN g h_10 := by rw [wh_10]; exact kh_5
          replace e := nm_s e
          obtain ⟨h_11, wh_11, e⟩ := e
          have kh_11 : HSN g h_11 := by rw [wh_11]; exact kh_10
          exact hs0_X0_addSet_91 kh_11 e
    · replace e := cl_s e
      obtain ⟨r_12, _, e⟩ := e
      replace e := (gd_s e).2
      replace e := br_s e
      rcases e with ⟨_, e⟩ | ⟨_, e⟩
      · rw [← Option.some.inj e]; exact k
      · replace e := nm_s e
        obtain ⟨v_15, wv_15, e⟩ := e
        exact ih k e
theorem hs0_X0_addSet {g : Hp} {F : Nat} {o : Hp} {x0 : Nat} {x1 : Int32} {h : Hp} (k : HSN g h) (e : sX0_addSet F h x0 x1 = some o) : HSN g o := by
  unfold sX0_addSet at e
  exact hs0_X0_addSet_2 F k e
theorem hs0_X0_sortSets_77 {g : Hp} {F : Nat} {o : Hp} : ∀ (f : Nat) {h : Hp} {x0 : Nat} {x1 : Int32}, HSN g h → sX0_sortSets_77 F f h x0 x1 = some o → HSN g o := by
  intro f
  induction f with
  | zero => intro h x0 x1 _ e; exact absurd e (by rw [sX0_sortSets_77]; exact fun z => nomatch z)
  | succ f ih =>
    intro h x0 x1 k e
    rw [sX0_sortSets_77] at e
    replace e := br_s e
    rcases e with ⟨_, e⟩ | ⟨_, e⟩
    · rw [← Option.some.inj e]; exact k
    · replace e := cl_s e
      obtain ⟨r_2, _, e⟩ := e
      replace e := cl_s e
      obtain ⟨r_3, _, e⟩ := e
      replace e := (gd_s e).2
      replace e := cl_s e
      obtain ⟨r_5, _, e⟩ := e
      replace e := cl_s e
      obtain ⟨r_6, _, e⟩ := e
      replace e := (gd_s e).2
      replace e := cl_s e
      obtain ⟨o_8, eo_8, e⟩ := e
      have ko_8 : HSN g o_8.2 := hs0_X0_sizeOf k eo_8
      replace e := (gd_s e).2
      replace e := (gd_s e).2
      replace e := nm_s e
      obtain ⟨h_11, wh_11, e⟩ := e
      have kh_11 : HSN g h_11 := by rw [wh_11]; exact ko_8
      replace e := nm_s e
      obtain ⟨v_12, wv_12, e⟩ := e
      exact ih kh_11 e
theorem hs0_X0_sortSets_55 {g : Hp} {F : Nat} {o : Hp} {x0 : Nat} {x1 : Int32} {x2 : Int32} {x3 : Int32} {k_2 : Hp → Nat → Int32 → Option (Hp)} (R_2 : ∀ {h : Hp} {y1 : Nat} {y2 : Int32}, HSN g h → k_2 h y1 y2 = some o → HSN g o) {h : Hp} (k : HSN g h) (e : sX0_sortSets_55 F k_2 h x0 x1 x2 x3 = some o) : HSN g o := by
  unfold sX0_sortSets_55 at e
  replace e := cl_s e
  obtain ⟨r_1, _, e⟩ := e
  replace e := (gd_s e).2
  replace e := nm_s e
  obtain ⟨h_3, wh_3, e⟩ := e
  have kh_3 : HSN g h_3 := by rw [wh_3]; exact k
  replace e := nm_s e
  obtain ⟨v_4, wv_4, e⟩ := e
  exact R_2 kh_3 e
theorem hs0_X0_sortSets_19 {g : Hp} {F : Nat} {o : Hp} {k_2 : Hp → Nat → Int32 → Option (Hp)} (R_2 : ∀ {h : Hp} {y1 : Nat} {y2 : Int32}, HSN g h → k_2 h y1 y2 = some o → HSN g o) : ∀ (f : Nat) {h : Hp} {x0 : Nat} {x1 : Int32} {x2 : Int32} {x3 : Int32}, HSN g h → sX0_sortSets_19 F k_2 f h x0 x1 x2 x3 = some o → HSN g o := by
  intro f
  induction f with
  | zero => intro h x0 x1 x2 x3 _ e; exact absurd e (by rw [sX0_sortSets_19]; exact fun z => nomatch z)
  | succ f ih =>
    intro h x0 x1 x2 x3 k e
    rw [sX0_sortSets_19] at e
    replace e := br_s e
    rcases e with ⟨_, e⟩ | ⟨_, e⟩
    · exact hs0_X0_sortSets_55 R_2 k e
    · replace e := cl_s e
      obtain ⟨r_2, _, e⟩ := e
      replace e := (gd_s e).2
      replace e := br_s e
      rcases e with ⟨_, e⟩ | ⟨_, e⟩
      · exact hs0_X0_sortSets_55 R_2 k e
      · replace e := cl_s e
        obtain ⟨r_5, _, e⟩ := e
        replace e := cl_s e
        obtain ⟨r_6, _, e⟩ := e
        replace e := (gd_s e).2
        replace e := (gd_s e).2
        replace e := nm_s e
        obtain ⟨h_9, wh_9, e⟩ := e
        have kh_9 : HSN g h_9 := by rw [wh_9]; exact k
        replace e := nm_s e
        obtain ⟨v_10, wv_10, e⟩ := e
        exact ih kh_9 e
theorem hs0_X0_sortSets_2 {g : Hp} {F : Nat} {o : Hp} : ∀ (f : Nat) {h : Hp} {x0 : Nat} {x1 : Int32}, HSN g h → sX0_sortSets_2 F f h x0 x1 = some o → HSN g o := by
  intro f
  induction f with
  | zero => intro h x0 x1 _ e; exact absurd e (by rw [sX0_sortSets_2]; exact fun z => nomatch z)
  | succ f ih =>
    intro h x0 x1 k e
    rw [sX0_sortSets_2] at e
    replace e := br_s e
    rcases e with ⟨_, e⟩ | ⟨_, e⟩
    · replace e := cl_s e
      obtain ⟨r_2, _, e⟩ := e
      replace e := (gd_s e).2
      replace e := nm_s e
      obtain ⟨h_4, wh_4, e⟩ := e
      have kh_4 : HSN g h_4 := by rw [wh_4]; exact k
      exact hs0_X0_sortSets_77 F kh_4 e
    · replace e := cl_s e
      obtain ⟨r_5, _, e⟩ := e
      replace e := (gd_s e).2
      replace e := nm_s e
      obtain ⟨v_7, wv_7, e⟩ := e
      exact hs0_X0_sortSets_19 (fun k e => ih k e) F k e
theorem hs0_X0_sortSets {g : Hp} {F : Nat} {o : Hp} {x0 : Nat} {h : Hp} (k : HSN g h) (e : sX0_sortSets F h x0 = some o) : HSN g o := by
  unfold sX0_sortSets at e
  exact hs0_X0_sortSets_2 F k e
theorem hs0_X0_gatherSets_104 {g : Hp} {F : Nat} {o : Int32 × Hp} {x0 : Nat} {h : Hp} (k : HSN g h) (e : sX0_gatherSets_104 F h x0 = some o) : HSN g o.2 := by
  unfold sX0_gatherSets_104 at e
  replace e := br_s e
  rcases e with ⟨_, e⟩ | ⟨_, e⟩
  · replace e := cl_s e
    obtain ⟨o_2, eo_2, e⟩ := e
    have ko_2 : HSN g o_2 := hs0_X0_sortSets k eo_2
    rw [← Option.some.inj e]; exact ko_2
  · rw [← Option.some.inj e]; exact k
theorem hs0_X0_addSetsOf_104 {g : Hp} {F : Nat} {o : Hp} {x0 : Nat} {x1 : Int32} {x2 : Int32} {k_2 : Hp → Nat → Int32 → Int32 → Option (Hp)} (R_2 : ∀ {h : Hp} {y1 : Nat} {y2 : Int32} {y3 : Int32}, HSN g h → k_2 h y1 y2 y3 = some o → HSN g o) {h : Hp} (k : HSN g h) (e : sX0_addSetsOf_104 F k_2 h x0 x1 x2 = some o) : HSN g o := by
  unfold sX0_addSetsOf_104 at e
  replace e := nm_s e
  obtain ⟨v_1, wv_1, e⟩ := e
  exact R_2 k e
theorem hs0_X0_without {g : Hp} {o : Int32 × Hp} {x0 : Int32} {x1 : Int32} {h : Hp} (k : HSN g h) (e : sX0_without h x0 x1 = some o) : HSN g o.2 := by
  unfold sX0_without at e
  replace e := nm_s e
  obtain ⟨v_1, wv_1, e⟩ := e
  rw [← Option.some.inj e]; exact k
theorem hs0_X0_with_35 {g : Hp} {F : Nat} {o : Int32 × Hp} {x0 : Int32} {x1 : Int32} {x2 : Int32} {h : Hp} (k : HSN g h) (e : sX0_with_35 F h x0 x1 x2 = some o) : HSN g o.2 := by
  unfold sX0_with_35 at e
  replace e := nm_s e
  obtain ⟨v_1, wv_1, e⟩ := e
  rw [← Option.some.inj e]; exact k
theorem hs0_X0_with_2 {g : Hp} {F : Nat} {o : Int32 × Hp} : ∀ (f : Nat) {h : Hp} {x0 : Int32} {x1 : Int32} {x2 : Int32}, HSN g h → sX0_with_2 F f h x0 x1 x2 = some o → HSN g o.2 := by
  intro f
  induction f with
  | zero => intro h x0 x1 x2 _ e; exact absurd e (by rw [sX0_with_2]; exact fun z => nomatch z)
  | succ f ih =>
    intro h x0 x1 x2 k e
    rw [sX0_with_2] at e
    replace e := br_s e
    rcases e with ⟨_, e⟩ | ⟨_, e⟩
    · exact hs0_X0_with_35 k e
    · replace e := br_s e
      rcases e with ⟨_, e⟩ | ⟨_, e⟩
      · exact hs0_X0_with_35 k e
      · replace e := br_s e
        rcases e with ⟨_, e⟩ | ⟨_, e⟩
        · exact hs0_X0_with_35 k e
        · replace e := nm_s e
          obtain ⟨v_4, wv_4, e⟩ := e
          exact ih k e
theorem hs0_X0_with {g : Hp} {F : Nat} {o : Int32 × Hp} {x0 : Int32} {x1 : Int32} {h : Hp} (k : HSN g h) (e : sX0_with F h x0 x1 = some o) : HSN g o.2 := by
  unfold sX0_with at e
  exact hs0_X0_with_2 F k e
theorem hs0_X0_addSetsOf_52 {g : Hp} {F : Nat} {o : Hp} {k_2 : Hp → Nat → Int32 → Int32 → Option (Hp)} (R_2 : ∀ {h : Hp} {y1 : Nat} {y2 : Int32} {y3 : Int32}, HSN g h → k_2 h y1 y2 y3 = some o → HSN g o) : ∀ (f : Nat) {h : Hp} {x0 : Nat} {x1 : Int32} {x2 : Int32} {x3 : Int32} {x4 : Int32} {x5 : Int32} {x6 : Int32}, HSN g h → sX0_addSetsOf_52 F k_2 f h x0 x1 x2 x3 x4 x5 x6 = some o → HSN g o := by
  intro f
  induction f with
  | zero => intro h x0 x1 x2 x3 x4 x5 x6 _ e; exact absurd e (by rw [sX0_addSetsOf_52]; exact fun z => nomatch z)
  | succ f ih =>
    intro h x0 x1 x2 x3 x4 x5 x6 k e
    rw [sX0_addSetsOf_52] at e
    replace e := cl_s e
    obtain ⟨r_1, _, e⟩ := e
    replace e := cl_s e
    obtain ⟨r_2, _, e⟩ := e
    replace e := (gd_s e).2
    replace e := br_s e
    rcases e with ⟨_, e⟩ | ⟨_, e⟩
    · exact hs0_X0_addSetsOf_104 R_2 k e
    · replace e := cl_s e
      obtain ⟨r_5, _, e⟩ := e
      replace e := cl_s e
      obtain ⟨r_6, _, e⟩ := e
      replace e := (gd_s e).2
      replace e := cl_s e
      obtain ⟨o_8, eo_8, e⟩ := e
      have ko_8 : HSN g o_8.2 := hs0_X0_with k eo_8
      replace e := cl_s e
      obtain ⟨o_9, eo_9, e⟩ := e
      have ko_9 : HSN g o_9 := hs0_X0_addSet ko_8 eo_9
      replace e := nm_s e
      obtain ⟨v_10, wv_10, e⟩ := e
      exact ih ko_9 e
theorem hs0_X0_addSetsOf_2 {g : Hp} {F : Nat} {o : Hp} : ∀ (f : Nat) {h : Hp} {x0 : Nat} {x1 : Int32} {x2 : Int32}, HSN g h → sX0_addSetsOf_2 F f h x0 x1 x2 = some o → HSN g o := by
  intro f
  induction f with
  | zero => intro h x0 x1 x2 _ e; exact absurd e (by rw [sX0_addSetsOf_2]; exact fun z => nomatch z)
  | succ f ih =>
    intro h x0 x1 x2 k e
    rw [sX0_addSetsOf_2] at e
    replace e := cl_s e
    obtain ⟨o_1, eo_1, e⟩ := e
    have ko_1 : HSN g o_1.2 := hs0_X0_sizeOf k eo_1
    replace e := br_s e
    rcases e with ⟨_, e⟩ | ⟨_, e⟩
    · rw [← Option.some.inj e]; exact ko_1
    · replace e := cl_s e
      obtain ⟨o_3, eo_3, e⟩ := e
      have ko_3 : HSN g o_3.2 := hs0_X0_codeIn ko_1 eo_3
      replace e := nm_s e
      obtain ⟨v_4, wv_4, e⟩ := e
      replace e := cl_s e
      obtain ⟨r_5, _, e⟩ := e
      replace e := br_s e
      rcases e with ⟨_, e⟩ | ⟨_, e⟩
      · exact hs0_X0_addSetsOf_104 (fun k e => ih k e) ko_3 e
      · replace e := cl_s e
        obtain ⟨o_7, eo_7, e⟩ := e
        have ko_7 : HSN g o_7.2 := hs0_X0_without ko_3 eo_7
        replace e := cl_s e
        obtain ⟨o_8, eo_8, e⟩ := e
        have ko_8 : HSN g o_8 := hs0_X0_addSet ko_7 eo_8
        exact hs0_X0_addSetsOf_52 (fun k e => ih k e) F ko_8 e
theorem hs0_X0_addSetsOf {g : Hp} {F : Nat} {o : Hp} {x0 : Nat} {x1 : Int32} {h : Hp} (k : HSN g h) (e : sX0_addSetsOf F h x0 x1 = some o) : HSN g o := by
  unfold sX0_addSetsOf at e
  exact hs0_X0_addSetsOf_2 F k e
theorem hs0_X0_gatherSets_62 {g : Hp} {F : Nat} {o : Int32 × Hp} : ∀ (f : Nat) {h : Hp} {x0 : Nat} {x1 : Int32}, HSN g h → sX0_gatherSets_62 F f h x0 x1 = some o → HSN g o.2 := by
  intro f
  induction f with
  | zero => intro h x0 x1 _ e; exact absurd e (by rw [sX0_gatherSets_62]; exact fun z => nomatch z)
  | succ f ih =>
    intro h x0 x1 k e
    rw [sX0_gatherSets_62] at e
    replace e := br_s e
    rcases e with ⟨_, e⟩ | ⟨_, e⟩
    · exact hs0_X0_gatherSets_104 k e
    · replace e := br_s e
      rcases e with ⟨_, e⟩ | ⟨_, e⟩
      · exact hs0_X0_gatherSets_104 k e
      · replace e := br_s e
        rcases e with ⟨_, e⟩ | ⟨_, e⟩
        · exact hs0_X0_gatherSets_104 k e
        · replace e := cl_s e
          obtain ⟨r_4, _, e⟩ := e
          replace e := (gd_s e).2
          replace e := cl_s e
          obtain ⟨o_6, eo_6, e⟩ := e
          have ko_6 : HSN g o_6 := hs0_X0_addSetsOf k eo_6
          replace e := nm_s e
          obtain ⟨v_7, wv_7, e⟩ := e
          exact ih ko_6 e
theorem hs0_X0_gatherSets_9 {g : Hp} {F : Nat} {o : Int32 × Hp} : ∀ (f : Nat) {h : Hp} {x0 : Nat} {x1 : Int32}, HSN g h → sX0_gatherSets_9 F f h x0 x1 = some o → HSN g o.2 := by
  intro f
  induction f with
  | zero => intro h x0 x1 _ e; exact absurd e (by rw [sX0_gatherSets_9]; exact fun z => nomatch z)
  | succ f ih =>
    intro h x0 x1 k e
    rw [sX0_gatherSets_9] at e
    replace e := br_s e
    rcases e with ⟨_, e⟩ | ⟨_, e⟩
    · replace e := nm_s e
      obtain ⟨h_2, wh_2, e⟩ := e
      have kh_2 : HSN g h_2 := by rw [wh_2]; exact k
      replace e := nm_s e
      obtain ⟨h_3, wh_3, e⟩ := e
      have kh_3 : HSN g h_3 := by rw [wh_3]; exact kh_2
      replace e := cl_s e
      obtain ⟨o_4, eo_4, e⟩ := e
      have ko_4 : HSN g o_4 := hs0_X0_addSet kh_3 eo_4
      exact hs0_X0_gatherSets_62 F ko_4 e
    · replace e := cl_s e
      obtain ⟨r_5, _, e⟩ := e
      replace e := cl_s e
      obtain ⟨r_6, _, e⟩ := e
      replace e := (gd_s e).2
      replace e := cl_s e
      obtain ⟨r_8, _, e⟩ := e
      replace e := (gd_s e).2
      replace e := nm_s e
      obtain ⟨h_10, wh_10, e⟩ := e
      have kh_10 : HSN g h_10 := by rw [wh_10]; exact k
      replace e := nm_s e
      obtain ⟨v_11, wv_11, e⟩ := e
      exact ih kh_10 e
theorem hs0_X0_gatherSets {g : Hp} {F : Nat} {o : Int32 × Hp} {x0 : Nat} {h : Hp} (k : HSN g h) (e : sX0_gatherSets F h x0 = some o) : HSN g o.2 := by
  unfold sX0_gatherSets at e
  replace e := cl_s e
  obtain ⟨r_1, _, e⟩ := e
  replace e := (gd_s e).2
  replace e := nm_s e
  obtain ⟨h_3, wh_3, e⟩ := e
  have kh_3 : HSN g h_3 := by rw [wh_3]; exact k
  exact hs0_X0_gatherSets_9 F kh_3 e
end
section
/-! ENDINGS, the class: what gathering writes -/
def WGt (n a i : Nat) : Prop := (n + 69 ≤ a ∧ a ≤ n + 71) ∨ (a = n + 62 ∧ (i = 9 ∨ i = 18))
theorem wg_X0_sizeOf_22 {n : Nat} {g : Hp} {F : Nat} {o : Int32 × Hp} {x1 : Int32} {h : Hp} (k : DyK n g h) (e : sX0_sizeOf_22 F h x1 = some o) : DyK n g o.2 ∧ FrW (WGt n) h o.2 := by
  unfold sX0_sizeOf_22 at e
  rw [← Option.some.inj e]; exact ⟨k, fw_0⟩
theorem wg_X0_codeIn {n : Nat} {g : Hp} {o : Int32 × Hp} {x0 : Int32} {x1 : Int32} {h : Hp} (k : DyK n g h) (e : sX0_codeIn h x0 x1 = some o) : DyK n g o.2 ∧ FrW (WGt n) h o.2 := by
  unfold sX0_codeIn at e
  rw [← Option.some.inj e]; exact ⟨k, fw_0⟩
theorem wg_X0_sizeOf_2 {n : Nat} {g : Hp} {F : Nat} {o : Int32 × Hp} : ∀ (f : Nat) {h : Hp} {x0 : Int32} {x1 : Int32}, DyK n g h → sX0_sizeOf_2 F f h x0 x1 = some o → DyK n g o.2 ∧ FrW (WGt n) h o.2 := by
  intro f
  induction f with
  | zero => intro h x0 x1 _ e; exact absurd e (by rw [sX0_sizeOf_2]; exact fun z => nomatch z)
  | succ f ih =>
    intro h x0 x1 k e
    rw [sX0_sizeOf_2] at e
    rcases br_s e with ⟨_, e⟩ | ⟨_, e⟩
    · exact wg_X0_sizeOf_22 k e
    · obtain ⟨o_2, eo_2, e⟩ := cl_s e
      obtain ⟨ko_2, fo_2⟩ := wg_X0_codeIn k eo_2
      rcases br_s e with ⟨_, e⟩ | ⟨_, e⟩
      · exact ⟨(wg_X0_sizeOf_22 ko_2 e).1, fw_t fo_2 (wg_X0_sizeOf_22 ko_2 e).2⟩
      · obtain ⟨v_4, wv_4, e⟩ := nm_s e
        exact ⟨(ih ko_2 e).1, fw_t fo_2 (ih ko_2 e).2⟩
theorem wg_X0_sizeOf {n : Nat} {g : Hp} {F : Nat} {o : Int32 × Hp} {x0 : Int32} {h : Hp} (k : DyK n g h) (e : sX0_sizeOf F h x0 = some o) : DyK n g o.2 ∧ FrW (WGt n) h o.2 := by
  unfold sX0_sizeOf at e
  exact wg_X0_sizeOf_2 F k e
theorem wg_X0_addSet_91 {n : Nat} {g : Hp} {F : Nat} {o : Hp} {h : Hp} (k : DyK n g h) (e : sX0_addSet_91 F h = some o) : DyK n g o ∧ FrW (WGt n) h o := by
  unfold sX0_addSet_91 at e
  rw [← Option.some.inj e]; exact ⟨k, fw_0⟩
theorem wg_X0_addSet_2 {n : Nat} {g : Hp} {F : Nat} {o : Hp} : ∀ (f : Nat) {h : Hp} {x1 : Int32} {x2 : Int32}, DyK n g h → sX0_addSet_2 F f h (n + 62) x1 x2 = some o → DyK n g o ∧ FrW (WGt n) h o := by
  intro f
  induction f with
  | zero => intro h x1 x2 _ e; exact absurd e (by rw [sX0_addSet_2]; exact fun z => nomatch z)
  | succ f ih =>
    intro h x1 x2 k e
    rw [sX0_addSet_2] at e
    rcases br_s e with ⟨_, e⟩ | ⟨_, e⟩
    · obtain ⟨r_2, er_2, e⟩ := cl_s e
      have yr_2 := dk_ed (a := 62) (b := 71) k (by decide +kernel) er_2
      subst yr_2
      obtain ⟨o_3, eo_3, e⟩ := cl_s e
      obtain ⟨ko_3, fo_3⟩ := wg_X0_sizeOf k eo_3
      replace e := (gd_s e).2
      obtain ⟨h_5, wh_5, e⟩ := nm_s e
      have kh_5 : DyK n g h_5 := by rw [wh_5]; exact dk_wJ ko_3
      have fh_5 : FrW (WGt n) h h_5 := by rw [wh_5]; exact fw_wJ fo_3 (by unfold WGt; omega)
      rcases br_s e with ⟨_, e⟩ | ⟨_, e⟩
      · exact ⟨(wg_X0_addSet_91 kh_5 e).1, fw_t fh_5 (wg_X0_addSet_91 kh_5 e).2⟩
      · rcases br_s e with ⟨_, e⟩ | ⟨_, e⟩
        · exact ⟨(wg_X0_addSet_91 kh_5 e).1, fw_t fh_5 (wg_X0_addSet_91 kh_5 e).2⟩
        · obtain ⟨r_8, er_8, e⟩ := cl_s e
          have yr_8 := dk_ed (a := 62) (b := 69) kh_5 (by decide +kernel) er_8
          subst yr_8
          replace e := (gd_s e).2
          obtain ⟨h_10, wh_10, e⟩ := nm_s e
          have kh_10 : DyK n g h_10 := by rw [wh_10]; exact dk_wI kh_5
          have fh_10 : FrW (WGt n) h h_10 := by rw [wh_10]; exact fw_wI fh_5 (by unfold WGt; omega)
          obtain ⟨h_11, wh_11, e⟩ := nm_s e
          have kh_11 : DyK n g h_11 := by rw [wh_11]; exact dk_wI kh_10
          have fh_11 : FrW (WGt n) h h_11 := by rw [wh_11]; exact fw_wI fh_10 (by unfold WGt; omega)
          exact ⟨(wg_X0_addSet_91 kh_11 e).1, fw_t fh_11 (wg_X0_addSet_91 kh_11 e).2⟩
    · obtain ⟨r_12, er_12, e⟩ := cl_s e
      have yr_12 := dk_ed (a := 62) (b := 69) k (by decide +kernel) er_12
      subst yr_12
      replace e := (gd_s e).2
      rcases br_s e with ⟨_, e⟩ | ⟨_, e⟩
      · rw [← Option.some.inj e]; exact ⟨k, fw_0⟩
      · obtain ⟨v_15, wv_15, e⟩ := nm_s e
        exact ih k e
theorem wg_X0_addSet {n : Nat} {g : Hp} {F : Nat} {o : Hp} {x1 : Int32} {h : Hp} (k : DyK n g h) (e : sX0_addSet F h (n + 62) x1 = some o) : DyK n g o ∧ FrW (WGt n) h o := by
  unfold sX0_addSet at e
  exact wg_X0_addSet_2 F k e
theorem wg_X0_sortSets_77 {n : Nat} {g : Hp} {F : Nat} {o : Hp} : ∀ (f : Nat) {h : Hp} {x1 : Int32}, DyK n g h → sX0_sortSets_77 F f h (n + 62) x1 = some o → DyK n g o ∧ FrW (WGt n) h o := by
  intro f
  induction f with
  | zero => intro h x1 _ e; exact absurd e (by rw [sX0_sortSets_77]; exact fun z => nomatch z)
  | succ f ih =>
    intro h x1 k e
    rw [sX0_sortSets_77] at e
    rcases br_s e with ⟨_, e⟩ | ⟨_, e⟩
    · rw [← Option.some.inj e]; exact ⟨k, fw_0⟩
    · obtain ⟨r_2, er_2, e⟩ := cl_s e
      have yr_2 := dk_ed (a := 62) (b := 70) k (by decide +kernel) er_2
      subst yr_2
      obtain ⟨r_3, er_3, e⟩ := cl_s e
      have yr_3 := dk_ed (a := 62) (b := 70) k (by decide +kernel) er_3
      subst yr_3
      replace e := (gd_s e).2
      obtain ⟨r_5, er_5, e⟩ := cl_s e
      have yr_5 := dk_ed (a := 62) (b := 71) k (by decide +kernel) er_5
      subst yr_5
      obtain ⟨r_6, er_6, e⟩ := cl_s e
      have yr_6 := dk_ed (a := 62) (b := 69) k (by decide +kernel) er_6
      subst yr_6
      replace e := (gd_s e).2
      obtain ⟨o_8, eo_8, e⟩ := cl_s e
      obtain ⟨ko_8, fo_8⟩ := wg_X0_sizeOf k eo_8
      replace e := (gd_s e).2
      replace e := (gd_s e).2
      obtain ⟨h_11, wh_11, e⟩ := nm_s e
      have kh_11 : DyK n g h_11 := by rw [wh_11]; exact dk_wI ko_8
      have fh_11 : FrW (WGt n) h h_11 := by rw [wh_11]; exact fw_wI fo_8 (by unfold WGt; omega)
      obtain ⟨v_12, wv_12, e⟩ := nm_s e
      exact ⟨(ih kh_11 e).1, fw_t fh_11 (ih kh_11 e).2⟩
theorem wg_X0_sortSets_55 {n : Nat} {g : Hp} {F : Nat} {o : Hp} {x1 : Int32} {x2 : Int32} {x3 : Int32} {k_2 : Hp → Nat → Int32 → Option (Hp)} (D_2 : ∀ {h : Hp} {y2 : Int32}, DyK n g h → k_2 h (n + 62) y2 = some o → DyK n g o ∧ FrW (WGt n) h o) {h : Hp} (k : DyK n g h) (e : sX0_sortSets_55 F k_2 h (n + 62) x1 x2 x3 = some o) : DyK n g o ∧ FrW (WGt n) h o := by
  unfold sX0_sortSets_55 at e
  obtain ⟨r_1, er_1, e⟩ := cl_s e
  have yr_1 := dk_ed (a := 62) (b := 69) k (by decide +kernel) er_1
  subst yr_1
  replace e := (gd_s e).2
  obtain ⟨h_3, wh_3, e⟩ := nm_s e
  have kh_3 : DyK n g h_3 := by rw [wh_3]; exact dk_wI k
  have fh_3 : FrW (WGt n) h h_3 := by rw [wh_3]; exact fw_wI fw_0 (by unfold WGt; omega)
  obtain ⟨v_4, wv_4, e⟩ := nm_s e
  exact ⟨(D_2 kh_3 e).1, fw_t fh_3 (D_2 kh_3 e).2⟩
theorem wg_X0_sortSets_19 {n : Nat} {g : Hp} {F : Nat} {o : Hp} {k_2 : Hp → Nat → Int32 → Option (Hp)} (D_2 : ∀ {h : Hp} {y2 : Int32}, DyK n g h → k_2 h (n + 62) y2 = some o → DyK n g o ∧ FrW (WGt n) h o) : ∀ (f : Nat) {h : Hp} {x1 : Int32} {x2 : Int32} {x3 : Int32}, DyK n g h → sX0_sortSets_19 F k_2 f h (n + 62) x1 x2 x3 = some o → DyK n g o ∧ FrW (WGt n) h o := by
  intro f
  induction f with
  | zero => intro h x1 x2 x3 _ e; exact absurd e (by rw [sX0_sortSets_19]; exact fun z => nomatch z)
  | succ f ih =>
    intro h x1 x2 x3 k e
    rw [sX0_sortSets_19] at e
    rcases br_s e with ⟨_, e⟩ | ⟨_, e⟩
    · exact wg_X0_sortSets_55 D_2 k e
    · obtain ⟨r_2, er_2, e⟩ := cl_s e
      have yr_2 := dk_ed (a := 62) (b := 69) k (by decide +kernel) er_2
      subst yr_2
      replace e := (gd_s e).2
      rcases br_s e with ⟨_, e⟩ | ⟨_, e⟩
      · exact wg_X0_sortSets_55 D_2 k e
      · obtain ⟨r_5, er_5, e⟩ := cl_s e
        have yr_5 := dk_ed (a := 62) (b := 69) k (by decide +kernel) er_5
        subst yr_5
        obtain ⟨r_6, er_6, e⟩ := cl_s e
        have yr_6 := dk_ed (a := 62) (b := 69) k (by decide +kernel) er_6
        subst yr_6
        replace e := (gd_s e).2
        replace e := (gd_s e).2
        obtain ⟨h_9, wh_9, e⟩ := nm_s e
        have kh_9 : DyK n g h_9 := by rw [wh_9]; exact dk_wI k
        have fh_9 : FrW (WGt n) h h_9 := by rw [wh_9]; exact fw_wI fw_0 (by unfold WGt; omega)
        obtain ⟨v_10, wv_10, e⟩ := nm_s e
        exact ⟨(ih kh_9 e).1, fw_t fh_9 (ih kh_9 e).2⟩
theorem wg_X0_sortSets_2 {n : Nat} {g : Hp} {F : Nat} {o : Hp} : ∀ (f : Nat) {h : Hp} {x1 : Int32}, DyK n g h → sX0_sortSets_2 F f h (n + 62) x1 = some o → DyK n g o ∧ FrW (WGt n) h o := by
  intro f
  induction f with
  | zero => intro h x1 _ e; exact absurd e (by rw [sX0_sortSets_2]; exact fun z => nomatch z)
  | succ f ih =>
    intro h x1 k e
    rw [sX0_sortSets_2] at e
    rcases br_s e with ⟨_, e⟩ | ⟨_, e⟩
    · obtain ⟨r_2, er_2, e⟩ := cl_s e
      have yr_2 := dk_ed (a := 62) (b := 70) k (by decide +kernel) er_2
      subst yr_2
      replace e := (gd_s e).2
      obtain ⟨h_4, wh_4, e⟩ := nm_s e
      have kh_4 : DyK n g h_4 := by rw [wh_4]; exact dk_wI k
      have fh_4 : FrW (WGt n) h h_4 := by rw [wh_4]; exact fw_wI fw_0 (by unfold WGt; omega)
      exact ⟨(wg_X0_sortSets_77 F kh_4 e).1, fw_t fh_4 (wg_X0_sortSets_77 F kh_4 e).2⟩
    · obtain ⟨r_5, er_5, e⟩ := cl_s e
      have yr_5 := dk_ed (a := 62) (b := 69) k (by decide +kernel) er_5
      subst yr_5
      replace e := (gd_s e).2
      obtain ⟨v_7, wv_7, e⟩ := nm_s e
      exact wg_X0_sortSets_19 (fun k e => ih k e) F k e
theorem wg_X0_sortSets {n : Nat} {g : Hp} {F : Nat} {o : Hp} {h : Hp} (k : DyK n g h) (e : sX0_sortSets F h (n + 62) = some o) : DyK n g o ∧ FrW (WGt n) h o := by
  unfold sX0_sortSets at e
  exact wg_X0_sortSets_2 F k e
theorem wg_X0_gatherSets_104 {n : Nat} {g : Hp} {F : Nat} {o : Int32 × Hp} {h : Hp} (k : DyK n g h) (e : sX0_gatherSets_104 F h (n + 62) = some o) : DyK n g o.2 ∧ FrW (WGt n) h o.2 := by
  unfold sX0_gatherSets_104 at e
  rcases br_s e with ⟨_, e⟩ | ⟨_, e⟩
  · obtain ⟨o_2, eo_2, e⟩ := cl_s e
    obtain ⟨ko_2, fo_2⟩ := wg_X0_sortSets k eo_2
    rw [← Option.some.inj e]; exact ⟨ko_2, fo_2⟩
  · rw [← Option.some.inj e]; exact ⟨k, fw_0⟩
theorem wg_X0_addSetsOf_104 {n : Nat} {g : Hp} {F : Nat} {o : Hp} {x1 : Int32} {x2 : Int32} {k_2 : Hp → Nat → Int32 → Int32 → Option (Hp)} (D_2 : ∀ {h : Hp} {y2 : Int32} {y3 : Int32}, DyK n g h → k_2 h (n + 62) y2 y3 = some o → DyK n g o ∧ FrW (WGt n) h o) {h : Hp} (k : DyK n g h) (e : sX0_addSetsOf_104 F k_2 h (n + 62) x1 x2 = some o) : DyK n g o ∧ FrW (WGt n) h o := by
  unfold sX0_addSetsOf_104 at e
  obtain ⟨v_1, wv_1, e⟩ := nm_s e
  exact D_2 k e
theorem wg_X0_without {n : Nat} {g : Hp} {o : Int32 × Hp} {x0 : Int32} {x1 : Int32} {h : Hp} (k : DyK n g h) (e : sX0_without h x0 x1 = some o) : DyK n g o.2 ∧ FrW (WGt n) h o.2 := by
  unfold sX0_without at e
  obtain ⟨v_1, wv_1, e⟩ := nm_s e
  rw [← Option.some.inj e]; exact ⟨k, fw_0⟩
theorem wg_X0_with_35 {n : Nat} {g : Hp} {F : Nat} {o : Int32 × Hp} {x0 : Int32} {x1 : Int32} {x2 : Int32} {h : Hp} (k : DyK n g h) (e : sX0_with_35 F h x0 x1 x2 = some o) : DyK n g o.2 ∧ FrW (WGt n) h o.2 := by
  unfold sX0_with_35 at e
  obtain ⟨v_1, wv_1, e⟩ := nm_s e
  rw [← Option.some.inj e]; exact ⟨k, fw_0⟩
theorem wg_X0_with_2 {n : Nat} {g : Hp} {F : Nat} {o : Int32 × Hp} : ∀ (f : Nat) {h : Hp} {x0 : Int32} {x1 : Int32} {x2 : Int32}, DyK n g h → sX0_with_2 F f h x0 x1 x2 = some o → DyK n g o.2 ∧ FrW (WGt n) h o.2 := by
  intro f
  induction f with
  | zero => intro h x0 x1 x2 _ e; exact absurd e (by rw [sX0_with_2]; exact fun z => nomatch z)
  | succ f ih =>
    intro h x0 x1 x2 k e
    rw [sX0_with_2] at e
    rcases br_s e with ⟨_, e⟩ | ⟨_, e⟩
    · exact wg_X0_with_35 k e
    · rcases br_s e with ⟨_, e⟩ | ⟨_, e⟩
      · exact wg_X0_with_35 k e
      · rcases br_s e with ⟨_, e⟩ | ⟨_, e⟩
        · exact wg_X0_with_35 k e
        · obtain ⟨v_4, wv_4, e⟩ := nm_s e
          exact ih k e
theorem wg_X0_with {n : Nat} {g : Hp} {F : Nat} {o : Int32 × Hp} {x0 : Int32} {x1 : Int32} {h : Hp} (k : DyK n g h) (e : sX0_with F h x0 x1 = some o) : DyK n g o.2 ∧ FrW (WGt n) h o.2 := by
  unfold sX0_with at e
  exact wg_X0_with_2 F k e
theorem wg_X0_addSetsOf_52 {n : Nat} {g : Hp} {F : Nat} {o : Hp} {k_2 : Hp → Nat → Int32 → Int32 → Option (Hp)} (D_2 : ∀ {h : Hp} {y2 : Int32} {y3 : Int32}, DyK n g h → k_2 h (n + 62) y2 y3 = some o → DyK n g o ∧ FrW (WGt n) h o) : ∀ (f : Nat) {h : Hp} {x1 : Int32} {x2 : Int32} {x3 : Int32} {x4 : Int32} {x5 : Int32} {x6 : Int32}, DyK n g h → sX0_addSetsOf_52 F k_2 f h (n + 62) x1 x2 x3 x4 x5 x6 = some o → DyK n g o ∧ FrW (WGt n) h o := by
  intro f
  induction f with
  | zero => intro h x1 x2 x3 x4 x5 x6 _ e; exact absurd e (by rw [sX0_addSetsOf_52]; exact fun z => nomatch z)
  | succ f ih =>
    intro h x1 x2 x3 x4 x5 x6 k e
    rw [sX0_addSetsOf_52] at e
    obtain ⟨r_1, er_1, e⟩ := cl_s e
    have yr_1 := dk_ed (a := 62) (b := 5) k (by decide +kernel) er_1
    subst yr_1
    obtain ⟨r_2, er_2, e⟩ := cl_s e
    have yr_2 := dk_ed (a := 5) (b := 10) k (by decide +kernel) er_2
    subst yr_2
    replace e := (gd_s e).2
    rcases br_s e with ⟨_, e⟩ | ⟨_, e⟩
    · exact wg_X0_addSetsOf_104 D_2 k e
    · obtain ⟨r_5, er_5, e⟩ := cl_s e
      have yr_5 := dk_ed (a := 62) (b := 5) k (by decide +kernel) er_5
      subst yr_5
      obtain ⟨r_6, er_6, e⟩ := cl_s e
      have yr_6 := dk_ed (a := 5) (b := 9) k (by decide +kernel) er_6
      subst yr_6
      replace e := (gd_s e).2
      obtain ⟨o_8, eo_8, e⟩ := cl_s e
      obtain ⟨ko_8, fo_8⟩ := wg_X0_with k eo_8
      obtain ⟨o_9, eo_9, e⟩ := cl_s e
      obtain ⟨ko_9, fo_9⟩ := wg_X0_addSet ko_8 eo_9
      replace fo_9 := fw_t fo_8 fo_9
      obtain ⟨v_10, wv_10, e⟩ := nm_s e
      exact ⟨(ih ko_9 e).1, fw_t fo_9 (ih ko_9 e).2⟩
theorem wg_X0_addSetsOf_2 {n : Nat} {g : Hp} {F : Nat} {o : Hp} : ∀ (f : Nat) {h : Hp} {x1 : Int32} {x2 : Int32}, DyK n g h → sX0_addSetsOf_2 F f h (n + 62) x1 x2 = some o → DyK n g o ∧ FrW (WGt n) h o := by
  intro f
  induction f with
  | zero => intro h x1 x2 _ e; exact absurd e (by rw [sX0_addSetsOf_2]; exact fun z => nomatch z)
  | succ f ih =>
    intro h x1 x2 k e
    rw [sX0_addSetsOf_2] at e
    obtain ⟨o_1, eo_1, e⟩ := cl_s e
    obtain ⟨ko_1, fo_1⟩ := wg_X0_sizeOf k eo_1
    rcases br_s e with ⟨_, e⟩ | ⟨_, e⟩
    · rw [← Option.some.inj e]; exact ⟨ko_1, fo_1⟩
    · obtain ⟨o_3, eo_3, e⟩ := cl_s e
      obtain ⟨ko_3, fo_3⟩ := wg_X0_codeIn ko_1 eo_3
      replace fo_3 := fw_t fo_1 fo_3
      obtain ⟨v_4, wv_4, e⟩ := nm_s e
      obtain ⟨r_5, er_5, e⟩ := cl_s e
      have yr_5 := dk_ed (a := 62) (b := 5) ko_3 (by decide +kernel) er_5
      subst yr_5
      rcases br_s e with ⟨_, e⟩ | ⟨_, e⟩
      · exact ⟨(wg_X0_addSetsOf_104 (fun k e => ih k e) ko_3 e).1, fw_t fo_3 (wg_X0_addSetsOf_104 (fun k e => ih k e) ko_3 e).2⟩
      · obtain ⟨o_7, eo_7, e⟩ := cl_s e
        obtain ⟨ko_7, fo_7⟩ := wg_X0_without ko_3 eo_7
        replace fo_7 := fw_t fo_3 fo_7
        obtain ⟨o_8, eo_8, e⟩ := cl_s e
        obtain ⟨ko_8, fo_8⟩ := wg_X0_addSet ko_7 eo_8
        replace fo_8 := fw_t fo_7 fo_8
        exact ⟨(wg_X0_addSetsOf_52 (fun k e => ih k e) F ko_8 e).1, fw_t fo_8 (wg_X0_addSetsOf_52 (fun k e => ih k e) F ko_8 e).2⟩
theorem wg_X0_addSetsOf {n : Nat} {g : Hp} {F : Nat} {o : Hp} {x1 : Int32} {h : Hp} (k : DyK n g h) (e : sX0_addSetsOf F h (n + 62) x1 = some o) : DyK n g o ∧ FrW (WGt n) h o := by
  unfold sX0_addSetsOf at e
  exact wg_X0_addSetsOf_2 F k e
theorem wg_X0_gatherSets_62 {n : Nat} {g : Hp} {F : Nat} {o : Int32 × Hp} : ∀ (f : Nat) {h : Hp} {x1 : Int32}, DyK n g h → sX0_gatherSets_62 F f h (n + 62) x1 = some o → DyK n g o.2 ∧ FrW (WGt n) h o.2 := by
  intro f
  induction f with
  | zero => intro h x1 _ e; exact absurd e (by rw [sX0_gatherSets_62]; exact fun z => nomatch z)
  | succ f ih =>
    intro h x1 k e
    rw [sX0_gatherSets_62] at e
    rcases br_s e with ⟨_, e⟩ | ⟨_, e⟩
    · exact wg_X0_gatherSets_104 k e
    · rcases br_s e with ⟨_, e⟩ | ⟨_, e⟩
      · exact wg_X0_gatherSets_104 k e
      · rcases br_s e with ⟨_, e⟩ | ⟨_, e⟩
        · exact wg_X0_gatherSets_104 k e
        · obtain ⟨r_4, er_4, e⟩ := cl_s e
          have yr_4 := dk_ed (a := 62) (b := 69) k (by decide +kernel) er_4
          subst yr_4
          replace e := (gd_s e).2
          obtain ⟨o_6, eo_6, e⟩ := cl_s e
          obtain ⟨ko_6, fo_6⟩ := wg_X0_addSetsOf k eo_6
          obtain ⟨v_7, wv_7, e⟩ := nm_s e
          exact ⟨(ih ko_6 e).1, fw_t fo_6 (ih ko_6 e).2⟩
theorem wg_X0_gatherSets_9 {n : Nat} {g : Hp} {F : Nat} {o : Int32 × Hp} : ∀ (f : Nat) {h : Hp} {x1 : Int32}, DyK n g h → sX0_gatherSets_9 F f h (n + 62) x1 = some o → DyK n g o.2 ∧ FrW (WGt n) h o.2 := by
  intro f
  induction f with
  | zero => intro h x1 _ e; exact absurd e (by rw [sX0_gatherSets_9]; exact fun z => nomatch z)
  | succ f ih =>
    intro h x1 k e
    rw [sX0_gatherSets_9] at e
    rcases br_s e with ⟨_, e⟩ | ⟨_, e⟩
    · obtain ⟨h_2, wh_2, e⟩ := nm_s e
      have kh_2 : DyK n g h_2 := by rw [wh_2]; exact dk_wI k
      have fh_2 : FrW (WGt n) h h_2 := by rw [wh_2]; exact fw_wI fw_0 (by unfold WGt; omega)
      obtain ⟨h_3, wh_3, e⟩ := nm_s e
      have kh_3 : DyK n g h_3 := by rw [wh_3]; exact dk_wJ kh_2
      have fh_3 : FrW (WGt n) h h_3 := by rw [wh_3]; exact fw_wJ fh_2 (by unfold WGt; omega)
      obtain ⟨o_4, eo_4, e⟩ := cl_s e
      obtain ⟨ko_4, fo_4⟩ := wg_X0_addSet kh_3 eo_4
      replace fo_4 := fw_t fh_3 fo_4
      exact ⟨(wg_X0_gatherSets_62 F ko_4 e).1, fw_t fo_4 (wg_X0_gatherSets_62 F ko_4 e).2⟩
    · obtain ⟨r_5, er_5, e⟩ := cl_s e
      have yr_5 := dk_ed (a := 62) (b := 71) k (by decide +kernel) er_5
      subst yr_5
      obtain ⟨r_6, er_6, e⟩ := cl_s e
      have yr_6 := dk_ed (a := 62) (b := 71) k (by decide +kernel) er_6
      subst yr_6
      replace e := (gd_s e).2
      obtain ⟨r_8, er_8, e⟩ := cl_s e
      have yr_8 := dk_ed (a := 62) (b := 5) k (by decide +kernel) er_8
      subst yr_8
      replace e := (gd_s e).2
      obtain ⟨h_10, wh_10, e⟩ := nm_s e
      have kh_10 : DyK n g h_10 := by rw [wh_10]; exact dk_wI k
      have fh_10 : FrW (WGt n) h h_10 := by rw [wh_10]; exact fw_wI fw_0 (by unfold WGt; omega)
      obtain ⟨v_11, wv_11, e⟩ := nm_s e
      exact ⟨(ih kh_10 e).1, fw_t fh_10 (ih kh_10 e).2⟩
theorem wg_X0_gatherSets {n : Nat} {g : Hp} {F : Nat} {o : Int32 × Hp} {h : Hp} (k : DyK n g h) (e : sX0_gatherSets F h (n + 62) = some o) : DyK n g o.2 ∧ FrW (WGt n) h o.2 := by
  unfold sX0_gatherSets at e
  obtain ⟨r_1, er_1, e⟩ := cl_s e
  have yr_1 := dk_ed (a := 62) (b := 71) k (by decide +kernel) er_1
  subst yr_1
  replace e := (gd_s e).2
  obtain ⟨h_3, wh_3, e⟩ := nm_s e
  have kh_3 : DyK n g h_3 := by rw [wh_3]; exact dk_wI k
  have fh_3 : FrW (WGt n) h h_3 := by rw [wh_3]; exact fw_wI fw_0 (by unfold WGt; omega)
  exact ⟨(wg_X0_gatherSets_9 F kh_3 e).1, fw_t fh_3 (wg_X0_gatherSets_9 F kh_3 e).2⟩
end
