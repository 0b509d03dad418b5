section
/-! the key of a set tells how many it has -/
section
variable {ρ : Nat → Nat} {c : Cm} {h o : Hp} {x0 a b p q F : Nat} {x1 x2 x3 x4 : Int32}
theorem shl5 {x : Int32} (i : Rg 0 67108863 x) : (x <<< ((5 : Int32) &&& 31)).toInt = 32 * x.toInt := by
  have hk := Jvm.RoadKit.c_ishl x (5 : Int32) 5 rfl
  have r := rg_shl (s := (5 : Int32)) (n := 5) (hi := 2147483647) i (rg_b rfl : Rg 0 5 (5 : Int32)) (by decide)
  have e : ((2 ^ 5 : Nat) : Int) = 32 := rfl
  rw [e] at hk
  have := i.1
  have := i.2
  have := r.1
  have := r.2
  omega
theorem or5 {x m : Int32} (i : Rg 0 67108863 x) (im : Rg 0 31 m) : ((x <<< ((5 : Int32) &&& 31)) ||| m).toInt = 32 * x.toInt + m.toInt := by
  have e := shl5 i
  have a0 := i.1
  have a1 := i.2
  have b0 := im.1
  have b1 := im.2
  obtain ⟨j, ej, tj, hj⟩ := rg_nI (⟨by omega, by omega⟩ : Rg 0 2147483647 (x <<< ((5 : Int32) &&& 31))) (Int.le_refl 0)
  obtain ⟨k, ek, tk, hk⟩ := rg_nI im (Int.le_refl 0)
  obtain ⟨y, ey, ty, hy⟩ := rg_nI i (Int.le_refl 0)
  have ej2 : j = 32 * y := by omega
  have k32 : k < 2 ^ 5 := by omega
  have en : j ||| k = j + k := by
    rw [ej2]
    exact (Nat.two_pow_add_eq_or_of_lt k32 y).symm
  have hz : ∀ i, i < 2 ^ 31 → (nI i).toBitVec.toNat = i := fun i hi => by
    show (BitVec.ofNat 32 i).toNat = i
    rw [BitVec.toNat_ofNat]
    exact Nat.mod_eq_of_lt (by omega)
  have eo : (x <<< ((5 : Int32) &&& 31)) ||| m = nI (j + k) := by
    rw [ej, ek]
    apply Int32.toBitVec_inj.mp
    apply BitVec.eq_of_toNat_eq
    show ((nI j).toBitVec ||| (nI k).toBitVec).toNat = (nI (j + k)).toBitVec.toNat
    rw [BitVec.toNat_or, hz j hj, hz k hk, hz _ (by omega), en]
  rw [eo, z_toInt (by omega)]
  omega
theorem pk_rg (i1 : Rg 0 5 x1) (g : ∀ j, Rg 0 31 (hI h a j)) : ∀ n, n ≤ 5 → x1.toInt * 32 ^ n ≤ (pkN h a p x1 n).toInt ∧ (pkN h a p x1 n).toInt + 1 ≤ (x1.toInt + 1) * 32 ^ n := by
  have a1 := i1.1
  have b1 := i1.2
  have st : ∀ (n : Nat) (lo hi : Int), 0 ≤ lo → hi ≤ 67108864 → lo ≤ (pkN h a p x1 n).toInt ∧ (pkN h a p x1 n).toInt + 1 ≤ hi → lo * 32 ≤ (pkN h a p x1 (n + 1)).toInt ∧ (pkN h a p x1 (n + 1)).toInt + 1 ≤ hi * 32 := fun n lo hi l0 l1 ⟨q1, q2⟩ => by
    have e : (pkN h a p x1 (n + 1)).toInt = 32 * (pkN h a p x1 n).toInt + (hI h a (p + n)).toInt := or5 ⟨by omega, by omega⟩ (g _)
    have := (g (p + n)).1
    have := (g (p + n)).2
    omega
  have p0 : x1.toInt ≤ (pkN h a p x1 0).toInt ∧ (pkN h a p x1 0).toInt + 1 ≤ x1.toInt + 1 := ⟨Int.le_refl _, Int.le_refl _⟩
  have p1 : x1.toInt * 32 ≤ (pkN h a p x1 1).toInt ∧ (pkN h a p x1 1).toInt + 1 ≤ (x1.toInt + 1) * 32 := st 0 _ _ (by omega) (by omega) p0
  have p2 : x1.toInt * 32 * 32 ≤ (pkN h a p x1 2).toInt ∧ (pkN h a p x1 2).toInt + 1 ≤ (x1.toInt + 1) * 32 * 32 := st 1 _ _ (by omega) (by omega) p1
  have p3 : x1.toInt * 32 * 32 * 32 ≤ (pkN h a p x1 3).toInt ∧ (pkN h a p x1 3).toInt + 1 ≤ (x1.toInt + 1) * 32 * 32 * 32 := st 2 _ _ (by omega) (by omega) p2
  have p4 : x1.toInt * 32 * 32 * 32 * 32 ≤ (pkN h a p x1 4).toInt ∧ (pkN h a p x1 4).toInt + 1 ≤ (x1.toInt + 1) * 32 * 32 * 32 * 32 := st 3 _ _ (by omega) (by omega) p3
  have p5 : x1.toInt * 32 * 32 * 32 * 32 * 32 ≤ (pkN h a p x1 5).toInt ∧ (pkN h a p x1 5).toInt + 1 ≤ (x1.toInt + 1) * 32 * 32 * 32 * 32 * 32 := st 4 _ _ (by omega) (by omega) p4
  intro n hn
  rcases (by omega : n = 0 ∨ n = 1 ∨ n = 2 ∨ n = 3 ∨ n = 4 ∨ n = 5) with rfl | rfl | rfl | rfl | rfl | rfl
  · exact ⟨by show x1.toInt * 1 ≤ _; have := p0.1; omega, by show _ ≤ (x1.toInt + 1) * 1; have := p0.2; omega⟩
  · exact ⟨by show x1.toInt * 32 ≤ _; have := p1.1; omega, by show _ ≤ (x1.toInt + 1) * 32; have := p1.2; omega⟩
  · exact ⟨by show x1.toInt * 1024 ≤ _; have := p2.1; omega, by show _ ≤ (x1.toInt + 1) * 1024; have := p2.2; omega⟩
  · exact ⟨by show x1.toInt * 32768 ≤ _; have := p3.1; omega, by show _ ≤ (x1.toInt + 1) * 32768; have := p3.2; omega⟩
  · exact ⟨by show x1.toInt * 1048576 ≤ _; have := p4.1; omega, by show _ ≤ (x1.toInt + 1) * 1048576; have := p4.2; omega⟩
  · exact ⟨by show x1.toInt * 33554432 ≤ _; have := p5.1; omega, by show _ ≤ (x1.toInt + 1) * 33554432; have := p5.2; omega⟩
theorem pk_k (i1 : Rg 0 5 x1) (g : ∀ j, Rg 0 31 (hI h a j)) : (x1.toInt = 0 ∧ (pkN h a p x1 x1.toNatClampNeg).toInt = 0) ∨ (x1.toInt = 1 ∧ 32 ≤ (pkN h a p x1 x1.toNatClampNeg).toInt ∧ (pkN h a p x1 x1.toNatClampNeg).toInt < 64) ∨ (x1.toInt = 2 ∧ 2048 ≤ (pkN h a p x1 x1.toNatClampNeg).toInt ∧ (pkN h a p x1 x1.toNatClampNeg).toInt < 3072) ∨ (x1.toInt = 3 ∧ 98304 ≤ (pkN h a p x1 x1.toNatClampNeg).toInt ∧ (pkN h a p x1 x1.toNatClampNeg).toInt < 131072) ∨ (x1.toInt = 4 ∧ 4194304 ≤ (pkN h a p x1 x1.toNatClampNeg).toInt ∧ (pkN h a p x1 x1.toNatClampNeg).toInt < 5242880) ∨ (x1.toInt = 5 ∧ 167772160 ≤ (pkN h a p x1 x1.toNatClampNeg).toInt) := by
  have a1 := i1.1
  have b1 := i1.2
  have c1 := clamp_i a1
  have P := pk_rg (p := p) i1 g x1.toNatClampNeg (by omega)
  generalize (pkN h a p x1 x1.toNatClampNeg).toInt = K at *
  rcases (by omega : x1.toNatClampNeg = 0 ∨ x1.toNatClampNeg = 1 ∨ x1.toNatClampNeg = 2 ∨ x1.toNatClampNeg = 3 ∨ x1.toNatClampNeg = 4 ∨ x1.toNatClampNeg = 5) with z | z | z | z | z | z
  · rw [z] at P c1
    have e : x1.toInt = 0 := c1.symm
    rw [e] at P ⊢
    have q1 : (0 : Int) * 1 ≤ K := P.1
    have q2 : K + 1 ≤ (0 + 1) * 1 := P.2
    omega
  · rw [z] at P c1
    have e : x1.toInt = 1 := c1.symm
    rw [e] at P ⊢
    have q1 : (1 : Int) * 32 ≤ K := P.1
    have q2 : K + 1 ≤ (1 + 1) * 32 := P.2
    omega
  · rw [z] at P c1
    have e : x1.toInt = 2 := c1.symm
    rw [e] at P ⊢
    have q1 : (2 : Int) * 1024 ≤ K := P.1
    have q2 : K + 1 ≤ (2 + 1) * 1024 := P.2
    omega
  · rw [z] at P c1
    have e : x1.toInt = 3 := c1.symm
    rw [e] at P ⊢
    have q1 : (3 : Int) * 32768 ≤ K := P.1
    have q2 : K + 1 ≤ (3 + 1) * 32768 := P.2
    omega
  · rw [z] at P c1
    have e : x1.toInt = 4 := c1.symm
    rw [e] at P ⊢
    have q1 : (4 : Int) * 1048576 ≤ K := P.1
    have q2 : K + 1 ≤ (4 + 1) * 1048576 := P.2
    omega
  · rw [z] at P c1
    have e : x1.toInt = 5 := c1.symm
    rw [e] at P ⊢
    have q1 : (5 : Int) * 33554432 ≤ K := P.1
    omega
/-- equal keys: equally many -/
theorem pk_same {g : Hp} (i1 : Rg 0 5 x1) (i2 : Rg 0 5 x2) (g1 : ∀ j, Rg 0 31 (hI h a j)) (g2 : ∀ j, Rg 0 31 (hI g b j)) (e : pkN h a p x1 x1.toNatClampNeg = pkN g b q x2 x2.toNatClampNeg) : x1.toInt = x2.toInt := by
  have A := pk_k (p := p) i1 g1
  have B := pk_k (p := q) i2 g2
  rw [e] at A
  omega
end
end
section
/-! the state of a row of men on its places -/
def PL (x0 : Nat) (n : Int) (h : Hp) : Prop := ∀ rp, hR h x0 58 = some rp → ∀ i : Nat, (i : Int) < n → (hI h rp i).toInt < (hI h x0 13).toInt
section
variable {ρ : Nat → Nat} {c : Cm} {h o : Hp} {x0 a F r4 r : Nat} {n n0 m sq : Int} {x1 x2 x3 x4 x5 x6 : Int32}
abbrev rwpL : List (Nat × Nat) := [(108, 999), (109, 999)]
theorem se_rp (T : TH ρ c h) (r0 : ρ x0 = 16) (f : Fr ρ (cat c (fS rwpL []) h) h o) (P : SE x0 h) : SE x0 o := by
  have g : ∀ {i k2 r k : Nat}, rfK 16 i = k2 → k2 ≠ 0 → mS rwpL k2 k = false → hR h x0 i = some r → hI o r k = hI h r k := fun {i k2 r k} e1 e2 e3 er => (fr_RI f (rr T (thR T r0 (i := i) (k2 := k2) e1 e2) er) e2 (fun _ => fs_nf e3)).1
  exact se_of (fun i => (fr_RI f r0 (by decide) (fun _ => rfl)).2.2) (fr_RI f r0 (by decide) (fun _ => rfl)).1 (fr_RI f r0 (by decide) (fun _ => rfl)).1 (fr_RI f r0 (by decide) (fun _ => rfl)).2.1 (fun r er k _ => g (i := 46) (k2 := 99) rfl (by decide) rfl er) (fun r er k _ => g (i := 48) (k2 := 101) rfl (by decide) rfl er) (fun r er k _ => g (i := 47) (k2 := 100) rfl (by decide) rfl er) (fun r er k => g (i := 55) (k2 := 106) rfl (by decide) rfl er) (fun r er k => g (i := 56) (k2 := 107) rfl (by decide) rfl er) (m5_of T r0) P
/-- a man and his place are written -/
theorem man_w {ro j : Nat} {v : Int32} (T : TH ρ c h) (r0 : ρ x0 = 16) (qo : ρ ro = 108) (w : o = wI h ro j v) (P : SE x0 h) (L : PL x0 n h) : SE x0 o ∧ PL x0 n o := by
  have f := fr1I (c := c) (A := rwpL) qo rfl w
  refine ⟨se_rp T r0 f P, fun rp ep i hi => ?_⟩
  rw [w] at ep
  have ep' : hR h x0 58 = some rp := ep
  have qp : ρ rp = 109 := rr T (thR T r0 (i := 58) (k2 := 109) rfl (by decide)) ep'
  rw [w, r_I, if_neg (ne_r qp qo (by decide)), r_I, if_neg (ne_r r0 qo (by decide))]
  exact L rp ep' i hi
theorem pla_w {rp j : Nat} {v : Int32} (T : TH ρ c h) (r0 : ρ x0 = 16) (ep : hR h x0 58 = some rp) (qp : ρ rp = 109) (w : o = wI h rp j v) (iv : v.toInt < (hI h x0 13).toInt) (P : SE x0 h) (L : PL x0 n h) : SE x0 o ∧ PL x0 n o ∧ PL x0 (if (j : Int) = n then n + 1 else n) o := by
  have f := fr1I (c := c) (A := rwpL) qp rfl w
  have e13 : hI o x0 13 = hI h x0 13 := (fr_RI f r0 (by decide) (fun _ => rfl)).1
  have g : ∀ rp', hR o x0 58 = some rp' → ∀ i : Nat, (i : Int) < n ∨ i = j → (hI o rp' i).toInt < (hI o x0 13).toInt := fun rp' ep' i hi => by
    rw [w] at ep'
    have hz := r_eq ep (show hR h x0 58 = some rp' from ep')
    subst hz
    rw [e13, w, r_I]
    by_cases z : i = j
    · rw [if_pos ⟨rfl, z⟩]; exact iv
    · rw [if_neg (fun y => z y.2)]
      exact L rp' ep i (by omega)
  refine ⟨se_rp T r0 f P, fun rp' ep' i hi => g rp' ep' i (Or.inl hi), fun rp' ep' i hi => g rp' ep' i ?_⟩
  split at hi <;> omega
abbrev SQ2 (ρ : Nat → Nat) (c : Cm) (x0 : Nat) : Int32 × Hp → Prop := fun o => TH ρ c o.2 ∧ Rg (-1) 599999 o.1 ∧ SE x0 o.2
/-- where no state is told, no set was found -/
abbrev SQ4 (ρ : Nat → Nat) (c : Cm) (x0 F : Nat) (x1 : Int32) : Int32 × Hp → Prop := fun o => SQ2 ρ c x0 o ∧ (o.1 = (-1 : Int32) → ∃ o3 ro, hR o.2 x0 57 = some ro ∧ sX15_findSet F o.2 x0 ro x1 = some o3 ∧ o3.1 = (-1 : Int32))
theorem st_160 (T : TH ρ c h) (r0 : ρ x0 = 16) (i1 : Rg 0 5 x1) (i2 : Rg 0 1 x2) (i3 : Rg 0 4095 x3) (P : SE x0 h) (L : PL x0 x1.toInt h) (hb : ∀ rb, hR h x0 48 = some rb → (hI h rb x3.toNatClampNeg).toInt + 2 * (hI h x0 13).toInt ^ x1.toNatClampNeg ≤ 600000) : ∀ (f : Nat) {x4 x5 : Int32}, Rg (-1) 4 x5 → x5.toInt < x1.toInt → 0 ≤ x4.toInt → x4.toInt + 1 ≤ (hI h x0 13).toInt ^ (x1.toInt - 1 - x5.toInt).toNat → (x5.toInt + 1).toNat < f → Sat (sX15_stateOf_160 F f h x0 x2 x3 x4 x5) (fun o => SQ2 ρ c x0 o ∧ 0 ≤ o.1.toInt) := by
  have s64 := thI T r0 (k := 16) (i := 13) (lo := 9) (hi := 64) rfl
  have c1 := clamp_i i1.1
  have b1 := i1.2
  intro f
  induction f with
  | zero => intros; omega
  | succ f ih =>
    intro x4 x5 i5 l5 a4 b4 hf
    rw [sX15_stateOf_160]
    have a5 := i5.1
    have b5 := i5.2
    refine s_br (fun l => ?_) (fun n1 => ?_)
    · have l' : x5.toInt < 0 := lt_i l
      have en : (x1.toInt - 1 - x5.toInt).toNat = x1.toNatClampNeg := by omega
      rw [en] at b4
      obtain ⟨rb, eb, qb⟩ := thR T r0 (i := 48) (k2 := 101) rfl (by decide)
      refine s_ref eb ?_
      refine s_gd (by rw [thN T qb (k := 101) (n := 4096) rfl (by decide)]; exact rg_inB i3 (by decide)) ?_
      have B := hb rb eb
      have ib := thI T qb (k := 101) (i := x3.toNatClampNeg) (lo := 0) (hi := 600000) rfl
      have ib0 := ib.1
      generalize (hI h x0 13).toInt ^ x1.toNatClampNeg = W at b4 B
      have z2 : (2 : Int32).toInt = 2 := rfl
      have i20 := i2.1
      have i21 := i2.2
      have e4 : ((2 : Int32) * x4).toInt = 2 * x4.toInt := by rw [tm (by rw [z2]; omega), z2]
      have e5 : ((hI h rb x3.toNatClampNeg) + ((2 : Int32) * x4)).toInt = (hI h rb x3.toNatClampNeg).toInt + 2 * x4.toInt := by rw [ta (by rw [e4]; omega), e4]
      have e6 : (((hI h rb x3.toNatClampNeg) + ((2 : Int32) * x4)) + x2).toInt = (hI h rb x3.toNatClampNeg).toInt + 2 * x4.toInt + x2.toInt := by rw [ta (by rw [e5]; omega), e5]
      exact s_some ⟨⟨T, ⟨by show -1 ≤ (((hI h rb x3.toNatClampNeg) + ((2 : Int32) * x4)) + x2).toInt; omega, by show (((hI h rb x3.toNatClampNeg) + ((2 : Int32) * x4)) + x2).toInt ≤ 599999; omega⟩, P⟩, by show 0 ≤ (((hI h rb x3.toNatClampNeg) + ((2 : Int32) * x4)) + x2).toInt; omega⟩
    · have a5' : 0 ≤ x5.toInt := nlt_i n1
      have j5 : Rg 0 4 x5 := ⟨a5', b5⟩
      have c5 := clamp_i a5'
      obtain ⟨rp, ep, qp⟩ := thR T r0 (i := 58) (k2 := 109) rfl (by decide)
      refine s_ref ep ?_
      refine s_gd (by rw [thN T qp (k := 109) (n := 6) rfl (by decide)]; exact rg_inB (rg_m j5 (by decide) : Rg 0 5 x5) (by decide)) ?_
      refine s_q (fun v ev => ?_)
      refine s_q (fun y ey => ?_)
      have ey2 : y.toInt = x5.toInt - 1 := by rw [ey]; exact rg_dec j5 (by decide)
      clear ey
      have lp := L rp ep x5.toNatClampNeg (by omega)
      have ip := (thI T qp (k := 109) (i := x5.toNatClampNeg) (lo := 0) (hi := 63) rfl).1
      have en : (x1.toInt - 1 - y.toInt).toNat = (x1.toInt - 1 - x5.toInt).toNat + 1 := by omega
      have e5 : (x1.toInt - 1 - x5.toInt).toNat + 1 ≤ 5 := by omega
      have pw := pow_sq (s := (hI h x0 13).toInt) (by have := s64.1; omega) s64.2 _ e5
      have s0 : 0 ≤ (hI h x0 13).toInt := by have := s64.1; omega
      have m1 : (x4.toInt + 1) * (hI h x0 13).toInt ≤ (hI h x0 13).toInt ^ ((x1.toInt - 1 - x5.toInt).toNat + 1) := by
        rw [Int.pow_succ]
        exact Int.mul_le_mul_of_nonneg_right b4 s0
      rw [Int.add_mul, Int.one_mul] at m1
      have m0 : 0 ≤ x4.toInt * (hI h x0 13).toInt := Int.mul_nonneg a4 s0
      have em : (x4 * (hI h x0 13)).toInt = x4.toInt * (hI h x0 13).toInt := tm ⟨by omega, by omega⟩
      have ev2 : v.toInt = x4.toInt * (hI h x0 13).toInt + (hI h rp x5.toNatClampNeg).toInt := by rw [ev, ta (by rw [em]; omega), em]
      clear ev
      refine ih ⟨by omega, by omega⟩ (by omega) (by omega) ?_ (by omega)
      rw [en]
      omega
/-- the set is looked up, and the state told -/
theorem st_find (hF : 700000 ≤ F) (T : TH ρ c h) (r0 : ρ x0 = 16) (i1 : Rg 0 5 x1) (i2 : Rg 0 1 x2) (P : SE x0 h) (L : PL x0 x1.toInt h) : Sat (cl (hR h x0 57) fun r_2 => cl (sX15_findSet F h x0 r_2 x1) fun o_3 => br (o_3.1 = (-1 : Int32)) (some ((-1 : Int32), o_3.2)) (nm (x1 - (1 : Int32)) fun v_5 => sX15_stateOf_160 F F o_3.2 x0 x2 o_3.1 (0 : Int32) v_5)) (SQ4 ρ c x0 F x1) := by
  obtain ⟨ro, eo, qo⟩ := thR T r0 (i := 57) (k2 := 108) rfl (by decide)
  refine s_ref eo ?_
  obtain ⟨rs, es, qs⟩ := thR T r0 (i := 56) (k2 := 107) rfl (by decide)
  obtain ⟨rk, ek, qk⟩ := thR T r0 (i := 55) (k2 := 106) rfl (by decide)
  obtain ⟨rm, em, qm⟩ := thR T r0 (i := 46) (k2 := 99) rfl (by decide)
  obtain ⟨re, ee, qe⟩ := thR T r0 (i := 47) (k2 := 100) rfl (by decide)
  have in0 := thI T r0 (k := 16) (i := 49) (lo := 0) (hi := 4096) rfl
  have u : uC h rs 16384 < 16384 := by have := P.1 rs es; have := in0.2; omega
  refine s_dd (zX15_findSet (r4 := rk) hF T r0 qo (rg_m i1 (by decide)) es ek u) (fun o3 eq3 ⟨e3, i3, p3⟩ => ?_)
  rw [e3]
  refine s_br (fun z3 => s_some ⟨⟨T, rg_b rfl, P⟩, fun _ => ⟨o3, ro, eo, eq3, z3⟩⟩) (fun nz => ?_)
  have i3' : Rg 0 4095 o3.1 := rg_nlo nz i3 (rg_b rfl : Rg (-1) (-1) (-1 : Int32))
  have c3 := clamp_i i3'.1
  obtain ⟨j, hj, j1, j2, j3⟩ := p3 nz
  obtain ⟨q1, q2⟩ := P.2.2.2.1 rs rk rm re es ek em ee j hj j2
  have ej : (hI h rs j).toInt.toNat - 1 = o3.1.toNatClampNeg := by omega
  rw [ej] at q2
  have im := thI T qm (k := 99) (i := o3.1.toNatClampNeg) (lo := 0) (hi := 5) rfl
  have same : x1.toInt = (hI h rm o3.1.toNatClampNeg).toInt := pk_same i1 im (fun j => rg_m (thI T qo (k := 108) (i := j) (lo := 0) (hi := 24) rfl) (by decide)) (fun j => rg_m (thI T qe (k := 100) (i := j) (lo := 0) (hi := 24) rfl) (by decide)) (j3.symm.trans q2)
  have c1 := clamp_i i1.1
  have cm := clamp_i im.1
  have en : (hI h rm o3.1.toNatClampNeg).toNatClampNeg = x1.toNatClampNeg := by omega
  have s2 := P.2.1.2
  refine s_q (fun y ey => ?_)
  have ey2 : y.toInt = x1.toInt - 1 := by rw [ey]; exact rg_decs i1 (by decide)
  clear ey
  have z0 : (0 : Int32).toInt = 0 := rfl
  have b1 := i1.2
  have a1 := i1.1
  refine s_imp (st_160 T r0 i1 i2 i3' P L (fun rb eb => ?_) F ⟨by omega, by omega⟩ (by omega) (by decide) ?_ (by omega)) (fun o w => ⟨w.1, fun z => absurd w.2 (by rw [z]; decide)⟩)
  · have := P.2.2.1 rm rb em eb o3.1.toNatClampNeg (by omega)
    rw [en] at this
    omega
  · have : (x1.toInt - 1 - y.toInt).toNat = 0 := by omega
    rw [this, z0, Int.pow_zero]
    decide
theorem st_111 {k2 : Hp → Nat → Int32 → Int32 → Int32 → Option (Int32 × Hp)} {Q : Int32 × Hp → Prop} (hA : pmA c rwpL) (T : TH ρ c h) (r0 : ρ x0 = 16) (i3 : Rg 1 4 x3) (i4 : Rg 0 24 x4) (i5 : Rg 0 63 x5) (l5 : x5.toInt < (hI h x0 13).toInt) (i6 : Rg 0 5 x6) (P : SE x0 h) (L : PL x0 x1.toInt h)
    (K : ∀ o y, TH ρ c o → SE x0 o → PL x0 x1.toInt o → y.toInt = x3.toInt + 1 → Sat (k2 o x0 x1 x2 y) Q) : Sat (sX15_stateOf_111 F k2 h x0 x1 x2 x3 x4 x5 x6) Q := by
  unfold sX15_stateOf_111
  obtain ⟨ro, eo, qo⟩ := thR T r0 (i := 57) (k2 := 108) rfl (by decide)
  refine s_ref eo ?_
  refine s_gd (by rw [thN T qo (k := 108) (n := 6) rfl (by decide)]; exact rg_inB i6 (by decide)) ?_
  refine s_hq (th_wI T qo (k := 108) (lo := 0) (hi := 24) rfl i4 (by decide) (by decide) (pm_a hA rfl)) (fun h3 T3 w3 => ?_)
  obtain ⟨P3, L3⟩ := man_w T r0 qo w3 P L
  obtain ⟨rp, ep, qp⟩ := thR T3 r0 (i := 58) (k2 := 109) rfl (by decide)
  refine s_ref ep ?_
  refine s_gd (by rw [thN T3 qp (k := 109) (n := 6) rfl (by decide)]; exact rg_inB i6 (by decide)) ?_
  have e13 : hI h3 x0 13 = hI h x0 13 := by rw [w3, r_I, if_neg (ne_r r0 qo (by decide))]
  refine s_hq (th_wI T3 qp (k := 109) (lo := 0) (hi := 63) rfl i5 (by decide) (by decide) (pm_a hA rfl)) (fun h6 T6 w6 => ?_)
  obtain ⟨P6, L6, _⟩ := pla_w T3 r0 ep qp w6 (by rw [e13]; exact l5) P3 L3
  refine s_q (fun y ey => ?_)
  have ey2 : y.toInt = x3.toInt + 1 := by rw [ey]; exact (nc_s (rg_m i3 (by decide) : Rg 0 4 x3) (by decide)).2
  exact K h6 y T6 P6 L6 ey2
theorem st_26 {k2 : Hp → Nat → Int32 → Int32 → Int32 → Option (Int32 × Hp)} {Q : Int32 × Hp → Prop} (hA : pmA c rwpL) (r0 : ρ x0 = 16) (i3 : Rg 1 4 x3) (l3 : x3.toInt < x1.toInt) (i4 : Rg 0 24 x4) (i5 : Rg 0 63 x5)
    (K : ∀ o y, TH ρ c o → SE x0 o → PL x0 x1.toInt o → y.toInt = x3.toInt + 1 → Sat (k2 o x0 x1 x2 y) Q) : ∀ (f : Nat) {h : Hp} {x6 : Int32}, TH ρ c h → Rg 0 5 x6 → x6.toInt ≤ x3.toInt → x5.toInt < (hI h x0 13).toInt → SE x0 h → PL x0 x1.toInt h → x6.toInt.toNat < f → Sat (sX15_stateOf_26 F k2 f h x0 x1 x2 x3 x4 x5 x6) Q := by
  intro f
  induction f with
  | zero => intros; omega
  | succ f ih =>
    intro h x6 T i6 l6 l5 P L hf
    rw [sX15_stateOf_26]
    have ex : Sat (sX15_stateOf_111 F k2 h x0 x1 x2 x3 x4 x5 x6) Q := st_111 hA T r0 i3 i4 i5 l5 i6 P L K
    refine s_br (fun _ => ex) (fun n6 => ?_)
    have p6 : 0 < x6.toInt := nle_i n6
    have b6 := i6.2
    have ed := rg_decs i6 (by decide)
    have id : Rg 0 4 (x6 - (1 : Int32)) := ⟨by omega, by omega⟩
    have cd := clamp_i id.1
    have c6 := clamp_i i6.1
    obtain ⟨ro, eo, qo⟩ := thR T r0 (i := 57) (k2 := 108) rfl (by decide)
    obtain ⟨rp, ep, qp⟩ := thR T r0 (i := 58) (k2 := 109) rfl (by decide)
    have go : Sat (sX15_stateOf_73 F k2 (sX15_stateOf_26 F k2 f) h x0 x1 x2 x3 x4 x5 x6) Q := by
      unfold sX15_stateOf_73
      refine s_ref eo (s_ref eo ?_)
      refine s_gd (by rw [thN T qo (k := 108) (n := 6) rfl (by decide)]; exact rg_inB id (by decide)) ?_
      refine s_gd (by rw [thN T qo (k := 108) (n := 6) rfl (by decide)]; exact rg_inB i6 (by decide)) ?_
      refine s_hq (th_wI T qo (k := 108) (lo := 0) (hi := 24) rfl (thI T qo (k := 108) (lo := 0) (hi := 24) rfl) (by decide) (by decide) (pm_a hA rfl)) (fun h3 T3 w3 => ?_)
      obtain ⟨P3, L3⟩ := man_w T r0 qo w3 P L
      have ep3 : hR h3 x0 58 = some rp := by rw [w3]; exact ep
      have e13 : hI h3 x0 13 = hI h x0 13 := by rw [w3, r_I, if_neg (ne_r r0 qo (by decide))]
      refine s_ref ep3 (s_ref ep3 ?_)
      refine s_gd (by rw [thN T3 qp (k := 109) (n := 6) rfl (by decide)]; exact rg_inB id (by decide)) ?_
      refine s_gd (by rw [thN T3 qp (k := 109) (n := 6) rfl (by decide)]; exact rg_inB i6 (by decide)) ?_
      refine s_hq (th_wI T3 qp (k := 109) (lo := 0) (hi := 63) rfl (thI T3 qp (k := 109) (lo := 0) (hi := 63) rfl) (by decide) (by decide) (pm_a hA rfl)) (fun h5 T5 w5 => ?_)
      obtain ⟨P5, L5, _⟩ := pla_w T3 r0 ep3 qp w5 (L3 rp ep3 _ (by omega)) P3 L3
      refine s_q (fun y ey => ?_)
      have ey2 : y.toInt = x6.toInt - 1 := by rw [ey]; exact rg_dec i6 (by decide)
      clear ey
      exact ih T5 ⟨by omega, by omega⟩ (by omega) (by rw [w5, r_I, if_neg (ne_r r0 qp (by decide)), e13]; exact l5) P5 L5 (by omega)
    refine s_ref eo ?_
    refine s_gd (by rw [thN T qo (k := 108) (n := 6) rfl (by decide)]; exact rg_inB id (by decide)) ?_
    refine s_br (fun _ => go) (fun _ => ?_)
    refine s_ref eo ?_
    refine s_gd (by rw [thN T qo (k := 108) (n := 6) rfl (by decide)]; exact rg_inB id (by decide)) ?_
    refine s_br (fun _ => ?_) (fun _ => ex)
    refine s_ref ep ?_
    refine s_gd (by rw [thN T qp (k := 109) (n := 6) rfl (by decide)]; exact rg_inB id (by decide)) ?_
    exact s_br (fun _ => ex) (fun _ => go)
theorem st_2 (hF : 700000 ≤ F) (hA : pmA c rwpL) (r0 : ρ x0 = 16) (i1 : Rg 0 5 x1) (i2 : Rg 0 1 x2) : ∀ (f : Nat) {h : Hp} {x3 : Int32}, TH ρ c h → 1 ≤ x3.toInt → SE x0 h → PL x0 x1.toInt h → (6 - x3.toInt).toNat < f → Sat (sX15_stateOf_2 F f h x0 x1 x2 x3) (SQ4 ρ c x0 F x1) := by
  intro f
  induction f with
  | zero => intros; omega
  | succ f ih =>
    intro h x3 T a3 P L hf
    rw [sX15_stateOf_2]
    have b1 := i1.2
    refine s_br (fun _ => st_find hF T r0 i1 i2 P L) (fun n3 => ?_)
    have l3 := nle_i n3
    have i3 : Rg 1 4 x3 := ⟨a3, by omega⟩
    have c3 := clamp_i (v := x3) (by omega)
    have b3 := i3.2
    obtain ⟨ro, eo, qo⟩ := thR T r0 (i := 57) (k2 := 108) rfl (by decide)
    obtain ⟨rp, ep, qp⟩ := thR T r0 (i := 58) (k2 := 109) rfl (by decide)
    refine s_ref eo ?_
    refine s_gd (by rw [thN T qo (k := 108) (n := 6) rfl (by decide)]; exact rg_inB (rg_m i3 (by decide) : Rg 0 5 x3) (by decide)) ?_
    refine s_q (fun v ev => ?_)
    have iv : Rg 0 24 v := by rw [ev]; exact thI T qo (k := 108) (lo := 0) (hi := 24) rfl
    clear ev
    refine s_ref ep ?_
    refine s_gd (by rw [thN T qp (k := 109) (n := 6) rfl (by decide)]; exact rg_inB (rg_m i3 (by decide) : Rg 0 5 x3) (by decide)) ?_
    refine s_q (fun s es => ?_)
    have is : Rg 0 63 s := by rw [es]; exact thI T qp (k := 109) (lo := 0) (hi := 63) rfl
    have ls : s.toInt < (hI h x0 13).toInt := by rw [es]; exact L rp ep _ (by omega)
    clear es
    exact st_26 hA r0 i3 l3 iv is (fun o y To Po Lo ey => ih To (by omega) Po Lo (by omega)) F T (rg_m i3 (by decide)) (Int.le_refl _) ls P L (by omega)
theorem zX15_stateOf4 (hF : 700000 ≤ F) (hA : pmA c rwpL) (T : TH ρ c h) (r0 : ρ x0 = 16) (i1 : Rg 0 5 x1) (i2 : Rg 0 1 x2) (P : SE x0 h) (L : PL x0 x1.toInt h) : Sat (sX15_stateOf F h x0 x1 x2) (SQ4 ρ c x0 F x1) := by
  unfold sX15_stateOf
  have z1 : (1 : Int32).toInt = 1 := rfl
  exact st_2 hF hA r0 i1 i2 F T (by decide) P L (by rw [z1]; omega)
theorem zX15_stateOf (hF : 700000 ≤ F) (hA : pmA c rwpL) (T : TH ρ c h) (r0 : ρ x0 = 16) (i1 : Rg 0 5 x1) (i2 : Rg 0 1 x2) (P : SE x0 h) (L : PL x0 x1.toInt h) : Sat (sX15_stateOf F h x0 x1 x2) (SQ2 ρ c x0) := s_imp (zX15_stateOf4 hF hA T r0 i1 i2 P L) (fun _ w => w.1)
end
end
section
/-- what is solved stands -/
def EnR (x0 : Nat) (h : Hp) : Prop := ¬ hI h x0 50 = 0 → SE x0 h ∧ 1 ≤ (hI h x0 49).toInt
section
variable {ρ : Nat → Nat} {c : Cm} {h o : Hp} {x0 a b F r4 r : Nat} {n n0 m sq : Int} {x1 x2 x3 x4 x5 x6 x7 : Int32}
/-- a man and his place are put at the row's end -/
theorem row_put {Q : Int32 × Hp → Prop} {v s : Int32} {k : Hp → Option (Int32 × Hp)} (hA : pmA c rwpL) (T : TH ρ c h) (r0 : ρ x0 = 16) (i2 : Rg 0 4 x2) (iv : Rg 0 24 v) (is : Rg 0 63 s) (ls : s.toInt < (hI h x0 13).toInt) (P : SE x0 h) (L : PL x0 x2.toInt h) {ro : Nat} (eo : hR h x0 57 = some ro)
    (K : ∀ o, TH ρ c o → Fr ρ (cat c (fS rwpL []) h) h o → SE x0 o → PL x0 (x2.toInt + 1) o → Sat (k o) Q) : Sat (gd (inB x2 (hN h ro)) <| nm (wI h ro x2.toNatClampNeg v) fun h_2 => cl (hR h_2 x0 58) fun r_3 => gd (inB x2 (hN h_2 r_3)) <| nm (wI h_2 r_3 x2.toNatClampNeg s) k) Q := by
  have qo : ρ ro = 108 := rr T (thR T r0 (i := 57) (k2 := 108) rfl (by decide)) eo
  have c2 := clamp_i i2.1
  refine s_gd (by rw [thN T qo (k := 108) (n := 6) rfl (by decide)]; exact rg_inB (rg_m i2 (by decide) : Rg 0 5 x2) (by decide)) ?_
  refine s_hq (th_wI T qo (k := 108) (lo := 0) (hi := 24) rfl iv (by decide) (by decide) (pm_a hA rfl)) (fun h3 T3 w3 => ?_)
  obtain ⟨P3, L3⟩ := man_w T r0 qo w3 P L
  obtain ⟨rp, ep, qp⟩ := thR T3 r0 (i := 58) (k2 := 109) rfl (by decide)
  refine s_ref ep ?_
  refine s_gd (by rw [thN T3 qp (k := 109) (n := 6) rfl (by decide)]; exact rg_inB (rg_m i2 (by decide) : Rg 0 5 x2) (by decide)) ?_
  have e13 : hI h3 x0 13 = hI h x0 13 := by rw [w3, r_I, if_neg (ne_r r0 qo (by decide))]
  refine s_hq (th_wI T3 qp (k := 109) (lo := 0) (hi := 63) rfl is (by decide) (by decide) (pm_a hA rfl)) (fun h6 T6 w6 => ?_)
  obtain ⟨P6, _, L6⟩ := pla_w T3 r0 ep qp w6 (by rw [e13]; exact ls) P3 L3
  rw [if_pos c2] at L6
  refine K h6 T6 ?_ P6 L6
  have f : FrG ρ (cat c (fS rwpL []) h) h h6 := by
    rw [w6, w3]
    exact fr_wI (fr_wI (th_in _ T).2.2 qo (fs_a _ _ _ rfl)) qp (fs_a _ _ _ rfl)
  exact fr_u T f
theorem sb_4 (hF : 700000 ≤ F) (hA : pmA c rwpL) (r0 : ρ x0 = 16) (rb : ρ b = 13) : ∀ (f : Nat) {h : Hp} {x2 x3 : Int32}, TH ρ c h → Rg 0 5 x2 → 0 ≤ x3.toInt → SE x0 h → PL x0 x2.toInt h → (65 - x3.toInt).toNat < f → Sat (sX15_stateOfBoard_4 F f h x0 b x2 x3) (SQ2 ρ c x0) := by
  intro f
  induction f with
  | zero => intros; omega
  | succ f ih =>
    intro h x2 x3 T i2 a3 P L hf
    rw [sX15_stateOfBoard_4]
    unfold sX15_stateOfBoard_50
    have s64 := thI T r0 (k := 16) (i := 13) (lo := 9) (hi := 64) rfl
    refine s_br (fun _ => ?_) (fun n1 => ?_)
    · refine s_cl (s_imp (zX15_stateOf hF hA T r0 i2 (thI T rb (k := 13) (i := 1) (lo := 0) (hi := 1) rfl) P L) (fun o ⟨q1, q2, q3⟩ => ?_))
      exact s_some ⟨q1, q2, q3⟩
    · have l3 := nle_i n1
      have i3 : Rg 0 63 x3 := ⟨a3, by have := s64.2; omega⟩
      have b3 := i3.2
      obtain ⟨rm, em, qm⟩ := thR T rb (i := 0) (k2 := 62) rfl (by decide)
      have gm : inB x3 (hN h rm) := by rw [thN T qm (k := 62) (n := 64) rfl (by decide)]; exact rg_inB i3 (by decide)
      have go : ∀ {o : Hp} {y2 : Int32}, TH ρ c o → Rg 0 5 y2 → SE x0 o → PL x0 y2.toInt o → Sat (nm (x3 + (1 : Int32)) fun v_1 => sX15_stateOfBoard_4 F f o x0 b y2 v_1) (SQ2 ρ c x0) := fun {o y2} To iy Po Lo => by
        refine s_q (fun y ey => ?_)
        have ey2 : y.toInt = x3.toInt + 1 := by rw [ey]; exact (nc_s i3 (by decide)).2
        clear ey
        exact ih To iy (by omega) Po Lo (by omega)
      refine s_ref em (s_gd gm ?_)
      refine s_br (fun _ => go T i2 P L) (fun _ => ?_)
      refine s_br (fun _ => s_some ⟨T, rg_b rfl, P⟩) (fun n5 => ?_)
      have i2' : Rg 0 4 x2 := by
        refine ⟨i2.1, ?_⟩
        have := i2.2
        rcases Int.lt_or_le x2.toInt 5 with q | q
        · omega
        · exact absurd (Int32.toInt_inj.mp (by show x2.toInt = 5; omega)) n5
      obtain ⟨ro, eo, qo⟩ := thR T r0 (i := 57) (k2 := 108) rfl (by decide)
      refine s_ref eo (s_ref em (s_gd gm ?_))
      refine row_put (x2 := x2) (s := x3) hA T r0 i2' (thI T qm (k := 62) (lo := 0) (hi := 24) rfl) i3 l3 P L eo (fun o To fo Po Lo => ?_)
      refine s_q (fun y ey => ?_)
      have ey2 : y.toInt = x2.toInt + 1 := by rw [ey]; exact (nc_s i2' (by decide)).2
      clear ey
      have := i2'.1
      have := i2'.2
      exact go To ⟨by omega, by omega⟩ Po (by rw [ey2]; exact Lo)
theorem zX15_stateOfBoard (hF : 700000 ≤ F) (hA : pmA c rwpL) (T : TH ρ c h) (r0 : ρ x0 = 16) (rb : ρ b = 13) (P : SE x0 h) : Sat (sX15_stateOfBoard F h x0 b) (SQ2 ρ c x0) := by
  unfold sX15_stateOfBoard
  have z0 : (0 : Int32).toInt = 0 := rfl
  exact sb_4 hF hA r0 rb F T (rg_b rfl) (by decide) P (fun _ _ i hi => by rw [z0] at hi; omega) (by rw [z0]; omega)
theorem zX15_worth (hF : 700000 ≤ F) (hA : pmA c rwpL) (T : TH ρ c h) (r0 : ρ x0 = 16) (bd : BdP x0 h) (E : EnR x0 h) : Sat (sX15_worth F h x0 x1) (fun o => TH ρ c o.2 ∧ Rg (-103) 5000000 o.1 ∧ EnR x0 o.2) := by
  unfold sX15_worth sX15_worth_32 sX15_worth_53
  refine s_dP0 (zX15_has hF T r0 (rg_top _)) (fun oo eb e ii pp => ?_)
  rw [e]
  refine s_br (fun _ => s_some ⟨T, rg_b rfl, E⟩) (fun nz => ?_)
  have i1 := pp nz
  refine s_br (fun _ => ?_) (fun n50 => ?_)
  · exact s_br (fun _ => s_some ⟨T, rg_b rfl, E⟩) (fun q => absurd rfl q)
  obtain ⟨b, B⟩ := bk_of T r0 (hb_of T r0 bd eb nz)
  obtain ⟨rb, wb⟩ := bk_r T r0 B
  refine s_bk T r0 i1 B ?_
  obtain ⟨P, l1⟩ := E n50
  refine s_cl (s_imp (zX15_stateOfBoard (c := cat c (fS rwpL []) h) hF fs_a (th_in _ T) r0 rb P) (fun o7 ⟨T7', i7, P7⟩ => ?_))
  have T7 := th_out T (fs_sub hA fs_n) T7'
  have f7 := fr_u T T7'.2.2
  have E7 : EnR x0 o7.2 := fun _ => ⟨P7, by rw [(fr_RI f7 r0 (by decide) (fun _ => rfl)).1]; exact l1⟩
  refine s_br (fun _ => s_some ⟨T7, rg_b rfl, E7⟩) (fun nm1 => ?_)
  have i8 : Rg 0 599999 o7.1 := rg_nlo nm1 i7 (rg_b rfl : Rg (-1) (-1) (-1 : Int32))
  obtain ⟨r2, e2, q2⟩ := thR T7 r0 (i := 51) (k2 := 102) rfl (by decide)
  refine s_ref e2 ?_
  refine s_gd (by rw [thN T7 q2 (k := 102) (n := 600000) rfl (by decide)]; exact rg_inB i8 (by decide)) ?_
  exact s_some ⟨T7, rg_m (rg_add (rg_b rfl : Rg 2000000 2000000 (2000000 : Int32)) (thI T7 q2 (k := 102) (lo := -1000000) (hi := 3000000) rfl) (by decide) : Rg 1000000 5000000 _) (by decide), E7⟩
end
end
section
section
variable {ρ : Nat → Nat} {c : Cm} {h o : Hp} {x0 a b F r4 r : Nat} {n n0 m sq : Int} {x1 x2 x3 x4 x5 x6 x7 : Int32}
theorem powm {s : Int} (a : 1 ≤ s) (n : Nat) : ∀ d, s ^ n ≤ s ^ (n + d) ∧ 0 ≤ s ^ (n + d) := by
  have p0 : 0 ≤ s ^ n := Int.pow_nonneg (by omega)
  intro d
  induction d with
  | zero => exact ⟨Int.le_refl _, p0⟩
  | succ d ih =>
    have e : s ^ (n + (d + 1)) = s ^ (n + d) * s := Int.pow_succ s (n + d)
    rw [e]
    have : s ^ (n + d) * 1 ≤ s ^ (n + d) * s := Int.mul_le_mul_of_nonneg_left a ih.2
    rw [Int.mul_one] at this
    exact ⟨by omega, by omega⟩
/-- the states of a set that is there -/
theorem many_6 {rm rb k : Nat} (em : hR h x0 46 = some rm) (eb : hR h x0 48 = some rb) (P : SE x0 h) (hk : (k : Int) < (hI h x0 49).toInt) : (hI h rb k).toInt + 2 * (hI h x0 13).toInt ^ (hI h rm k).toNatClampNeg ≤ 600000 := by
  have a := P.2.2.1 rm rb em eb k hk
  have b := P.2.1.2
  omega
theorem sz_4 (T : TH ρ c h) (r0 : ρ x0 = 16) (i1 : Rg 0 4095 x1) {rm : Nat} (em : hR h x0 46 = some rm) (hb : 2 * (hI h x0 13).toInt ^ (hI h rm x1.toNatClampNeg).toNatClampNeg ≤ 600000) : ∀ (f : Nat) {x2 x3 : Int32}, 0 ≤ x3.toInt → x3.toInt ≤ (hI h rm x1.toNatClampNeg).toInt → x2.toInt = 2 * (hI h x0 13).toInt ^ x3.toNatClampNeg → (6 - x3.toInt).toNat < f → Sat (sX15_sizeOf_4 F f h x0 x1 x2 x3) (fun o => o.2 = h ∧ o.1.toInt = 2 * (hI h x0 13).toInt ^ (hI h rm x1.toNatClampNeg).toNatClampNeg) := by
  have qm : ρ rm = 99 := rr T (thR T r0 (i := 46) (k2 := 99) rfl (by decide)) em
  have m5 := thI T qm (k := 99) (i := x1.toNatClampNeg) (lo := 0) (hi := 5) rfl
  have cm := clamp_i m5.1
  have bm := m5.2
  have s64 := thI T r0 (k := 16) (i := 13) (lo := 9) (hi := 64) rfl
  have s0 := s64.1
  intro f
  induction f with
  | zero => intros; omega
  | succ f ih =>
    intro x2 x3 a3 b3 e2 hf
    rw [sX15_sizeOf_4]
    have c3 := clamp_i a3
    refine s_ref em ?_
    refine s_gd (by rw [thN T qm (k := 99) (n := 4096) rfl (by decide)]; exact rg_inB i1 (by decide)) ?_
    refine s_br (fun l => ?_) (fun n1 => ?_)
    · have l' := le_i l
      have en : (hI h rm x1.toNatClampNeg).toNatClampNeg = x3.toNatClampNeg := by omega
      exact s_some ⟨rfl, by rw [en]; exact e2⟩
    · have l' := nle_i n1
      have i3 : Rg 0 4 x3 := ⟨a3, by omega⟩
      refine s_q (fun v ev => ?_)
      refine s_q (fun y ey => ?_)
      have ny := nc_s i3 (by decide)
      have ey2 : y.toInt = x3.toInt + 1 := by rw [ey]; exact ny.2
      have ey3 : y.toNatClampNeg = x3.toNatClampNeg + 1 := by rw [ey]; exact ny.1
      clear ey
      have em2 : x2.toInt * (hI h x0 13).toInt = 2 * (hI h x0 13).toInt ^ (x3.toNatClampNeg + 1) := by rw [e2, Int.pow_succ, Int.mul_assoc]
      have up := powm (s := (hI h x0 13).toInt) (by omega) (x3.toNatClampNeg + 1) ((hI h rm x1.toNatClampNeg).toNatClampNeg - (x3.toNatClampNeg + 1))
      have ed : x3.toNatClampNeg + 1 + ((hI h rm x1.toNatClampNeg).toNatClampNeg - (x3.toNatClampNeg + 1)) = (hI h rm x1.toNatClampNeg).toNatClampNeg := by omega
      rw [ed] at up
      have p0 : 0 ≤ (hI h x0 13).toInt ^ (x3.toNatClampNeg + 1) := Int.pow_nonneg (by omega)
      have ev2 : v.toInt = 2 * (hI h x0 13).toInt ^ (x3.toNatClampNeg + 1) := by
        rw [ev, tm ⟨by rw [em2]; omega, by rw [em2]; omega⟩, em2]
      clear ev
      exact ih (by omega) (by omega) (by rw [ey3]; exact ev2) (by omega)
theorem sizeOf_q (hF : 700000 ≤ F) (T : TH ρ c h) (r0 : ρ x0 = 16) (i1 : Rg 0 4095 x1) {rm : Nat} (em : hR h x0 46 = some rm) (hb : 2 * (hI h x0 13).toInt ^ (hI h rm x1.toNatClampNeg).toNatClampNeg ≤ 600000) : Sat (sX15_sizeOf F h x0 x1) (fun o => o.2 = h ∧ o.1.toInt = 2 * (hI h x0 13).toInt ^ (hI h rm x1.toNatClampNeg).toNatClampNeg) := by
  unfold sX15_sizeOf
  have z0 : (0 : Int32).toInt = 0 := rfl
  have qm : ρ rm = 99 := rr T (thR T r0 (i := 46) (k2 := 99) rfl (by decide)) em
  exact sz_4 T r0 i1 em hb F (by decide) (by rw [z0]; exact (thI T qm (k := 99) (i := x1.toNatClampNeg) (lo := 0) (hi := 5) rfl).1) (by show (2 : Int) = 2 * (hI h x0 13).toInt ^ 0; rw [Int.pow_zero]; rfl) (by rw [z0]; omega)
theorem ty_48 (T : TH ρ c h) (r0 : ρ x0 = 16) {rb : Nat} (eb : hR h x0 48 = some rb) (i4 : Rg 0 600000 x4) (hb : (hI h rb 0).toInt + x4.toInt ≤ 600000) : ∀ (f : Nat) {x3 x5 : Int32}, 0 ≤ x3.toInt → x3.toInt ≤ x5.toInt → 0 ≤ x5.toInt → x5.toInt ≤ 600001 → (600001 - x5.toInt).toNat < f → Sat (sX15_tally_48 F f h x0 x2 x3 x4 x5) (fun o => o.2 = h ∧ Rg 0 600001 o.1) := by
  have qb : ρ rb = 101 := rr T (thR T r0 (i := 48) (k2 := 101) rfl (by decide)) eb
  have ib := thI T qb (k := 101) (i := 0) (lo := 0) (hi := 600000) rfl
  have ib0 := ib.1
  have b4 := i4.2
  intro f
  induction f with
  | zero => intros; omega
  | succ f ih =>
    intro x3 x5 a3 b3 a5 b5 hf
    rw [sX15_tally_48]
    unfold sX15_tally_79
    refine s_br (fun _ => s_some ⟨rfl, a3, show x3.toInt ≤ 600001 by omega⟩) (fun n1 => ?_)
    have l5 := nle_i n1
    obtain ⟨r2, e2, q2⟩ := thR T r0 (i := 51) (k2 := 102) rfl (by decide)
    refine s_ref e2 (s_ref eb ?_)
    refine s_gd (by rw [thN T qb (k := 101) (n := 4096) rfl (by decide)]; exact rg_inB (rg_b rfl : Rg 0 0 (0 : Int32)) (by decide)) ?_
    have zc : (0 : Int32).toNatClampNeg = 0 := rfl
    rw [zc]
    have es : ((hI h rb 0) + x5).toInt = (hI h rb 0).toInt + x5.toInt := ta ⟨by omega, by omega⟩
    refine s_gd (by rw [thN T q2 (k := 102) (n := 600000) rfl (by decide)]; exact rg_inB (⟨by omega, by omega⟩ : Rg 0 599999 ((hI h rb 0) + x5)) (by decide)) ?_
    have z2 : (2 : Int32).toInt = 2 := rfl
    have go : ∀ {t : Int32}, Rg 0 1 t → Sat (nm (x3 + t) fun v_1 => nm (x5 + (2 : Int32)) fun v_2 => sX15_tally_48 F f h x0 x2 v_1 x4 v_2) (fun o => o.2 = h ∧ Rg 0 600001 o.1) := fun {t} it => by
      have t0 := it.1
      have t1 := it.2
      refine s_q (fun u eu => ?_)
      refine s_q (fun y ey => ?_)
      have eu2 : u.toInt = x3.toInt + t.toInt := by rw [eu]; exact ta ⟨by omega, by omega⟩
      have ey2 : y.toInt = x5.toInt + 2 := by rw [ey, ta (by rw [z2]; omega), z2]
      clear eu ey
      exact ih (by omega) (by omega) (by omega) (by omega) (by omega)
    exact s_br (fun _ => go (rg_b rfl)) (fun _ => go (rg_b rfl))
theorem zX15_tally (hF : 700000 ≤ F) (T : TH ρ c h) (r0 : ρ x0 = 16) (E : EnR x0 h) : Sat (sX15_tally F h x0 x1 x2) (fun o => o.2 = h ∧ Rg (-103) 600001 o.1) := by
  unfold sX15_tally sX15_tally_23
  have ex : Sat (some ((-101 : Int32), h)) (fun o : Int32 × Hp => o.2 = h ∧ Rg (-103) 600001 o.1) := s_some ⟨rfl, rg_b rfl⟩
  refine s_br (fun _ => ex) (fun n1 => s_br (fun _ => ex) (fun n2 => s_br (fun _ => ex) (fun _ => s_br (fun _ => s_br (fun _ => s_some ⟨rfl, rg_b rfl⟩) (fun n50 => ?_)) (fun _ => ex))))
  have a1 : 0 ≤ x1.toInt := nlt_i n1
  have b1 : x1.toInt ≤ 1 := nlt_i n2
  obtain ⟨P, l1⟩ := E n50
  obtain ⟨rm, em, qm⟩ := thR T r0 (i := 46) (k2 := 99) rfl (by decide)
  obtain ⟨rb, eb, qb⟩ := thR T r0 (i := 48) (k2 := 101) rfl (by decide)
  have B := many_6 (k := 0) em eb P (by omega)
  have ib0 := (thI T qb (k := 101) (i := 0) (lo := 0) (hi := 600000) rfl).1
  refine s_cl (s_imp (sizeOf_q (x1 := (0 : Int32)) hF T r0 (rg_b rfl) em (by show 2 * (hI h x0 13).toInt ^ (hI h rm 0).toNatClampNeg ≤ 600000; omega)) (fun o6 ⟨e6, v6⟩ => ?_))
  rw [e6]
  replace v6 : o6.1.toInt = 2 * (hI h x0 13).toInt ^ (hI h rm 0).toNatClampNeg := v6
  have s0 := (thI T r0 (k := 16) (i := 13) (lo := 9) (hi := 64) rfl).1
  have p0 : 0 ≤ (hI h x0 13).toInt ^ (hI h rm 0).toNatClampNeg := Int.pow_nonneg (by omega)
  have z0 : (0 : Int32).toInt = 0 := rfl
  exact s_imp (ty_48 T r0 eb ⟨by omega, by omega⟩ (by omega) F (by decide) (by rw [z0]; exact a1) a1 (by omega) (by omega)) (fun o q => ⟨q.1, rg_m q.2 (by decide)⟩)
/-- the row behind a step -/
theorem be_6 (hF : 700000 ≤ F) (hA : pmA c rwpL) (r0 : ρ x0 = 16) (i1 : Rg 0 4095 x1) (i3 : Rg 0 63 x3) (i4 : Rg 0 24 x4) (i5 : Rg 0 1 x5) : ∀ (f : Nat) {h : Hp} {x6 x7 : Int32}, TH ρ c h → 0 ≤ x6.toInt → x6.toInt ≤ x7.toInt → x7.toInt ≤ 5 → x3.toInt < (hI h x0 13).toInt → (∀ rt, hR h x0 61 = some rt → ∀ i, i < 5 → (hI h rt i).toInt < (hI h x0 13).toInt) → SE x0 h → PL x0 x6.toInt h → (6 - x7.toInt).toNat < f → Sat (sX15_stateBehind_6 F f h x0 x1 x2 x3 x4 x5 x6 x7) (SQ2 ρ c x0) := by
  intro f
  induction f with
  | zero => intros; omega
  | succ f ih =>
    intro h x6 x7 T a6 b6 b7 l3 st P L hf
    rw [sX15_stateBehind_6]
    unfold sX15_stateBehind_34
    obtain ⟨rm, em, qm⟩ := thR T r0 (i := 46) (k2 := 99) rfl (by decide)
    have m5 := thI T qm (k := 99) (i := x1.toNatClampNeg) (lo := 0) (hi := 5) rfl
    have bm := m5.2
    refine s_ref em ?_
    refine s_gd (by rw [thN T qm (k := 99) (n := 4096) rfl (by decide)]; exact rg_inB i1 (by decide)) ?_
    refine s_br (fun _ => ?_) (fun n1 => ?_)
    · refine s_cl (s_imp (zX15_stateOf hF hA T r0 ⟨a6, by omega⟩ (one_sub i5) P L) (fun o ⟨q1, q2, q3⟩ => ?_))
      exact s_some ⟨q1, q2, q3⟩
    · have l7 := nle_i n1
      have i7 : Rg 0 4 x7 := ⟨by omega, by omega⟩
      have c7 := clamp_i i7.1
      have i6 : Rg 0 4 x6 := ⟨a6, by omega⟩
      have go : ∀ {o : Hp} {y6 : Int32}, TH ρ c o → 0 ≤ y6.toInt → y6.toInt ≤ x7.toInt + 1 → x3.toInt < (hI o x0 13).toInt → (∀ rt, hR o x0 61 = some rt → ∀ i, i < 5 → (hI o rt i).toInt < (hI o x0 13).toInt) → SE x0 o → PL x0 y6.toInt o → Sat (sX15_stateBehind_90 F (sX15_stateBehind_6 F f) o x0 x1 x2 x3 x4 x5 y6 x7) (SQ2 ρ c x0) := fun {o y6} To a b l so Po Lo => by
        unfold sX15_stateBehind_90
        refine s_q (fun y ey => ?_)
        have ey2 : y.toInt = x7.toInt + 1 := by rw [ey]; exact (nc_s i7 (by decide)).2
        clear ey
        exact ih To a (by omega) (by omega) l so Po Lo (by omega)
      obtain ⟨rt, et, qt⟩ := thR T r0 (i := 61) (k2 := 110) rfl (by decide)
      have gt : ∀ {g : Hp}, TH ρ c g → inB x7 (hN g rt) := fun Tg => by rw [thN Tg qt (k := 110) (n := 5) rfl (by decide)]; exact rg_inB i7 (by decide)
      have put : ∀ {v : Int32} {ro : Nat}, hR h x0 57 = some ro → Rg 0 24 v → Sat (sX15_stateBehind_62 F (sX15_stateBehind_6 F f) h x0 x1 x2 x3 x4 x5 x6 x7 v x6 ro) (SQ2 ρ c x0) := fun {v ro} eo iv => by
        unfold sX15_stateBehind_62 sX15_stateBehind_86
        have qo : ρ ro = 108 := rr T (thR T r0 (i := 57) (k2 := 108) rfl (by decide)) eo
        have c6 := clamp_i i6.1
        refine s_gd (by rw [thN T qo (k := 108) (n := 6) rfl (by decide)]; exact rg_inB (rg_m i6 (by decide) : Rg 0 5 x6) (by decide)) ?_
        refine s_hq (th_wI T qo (k := 108) (lo := 0) (hi := 24) rfl iv (by decide) (by decide) (pm_a hA rfl)) (fun h3 T3 w3 => ?_)
        obtain ⟨P3, L3⟩ := man_w T r0 qo w3 P L
        obtain ⟨rp, ep, qp⟩ := thR T3 r0 (i := 58) (k2 := 109) rfl (by decide)
        refine s_ref ep ?_
        have e13 : hI h3 x0 13 = hI h x0 13 := by rw [w3, r_I, if_neg (ne_r r0 qo (by decide))]
        have et3 : hR h3 x0 61 = some rt := by rw [w3]; exact et
        have est : ∀ i, hI h3 rt i = hI h rt i := fun i => by rw [w3, r_I, if_neg (ne_r qt qo (by decide))]
        have fin : ∀ {s : Int32}, Rg 0 63 s → s.toInt < (hI h x0 13).toInt → Sat (gd (inB x6 (hN h3 rp)) <| nm (wI h3 rp x6.toNatClampNeg s) fun h_2 => nm (x6 + (1 : Int32)) fun v_3 => sX15_stateBehind_90 F (sX15_stateBehind_6 F f) h_2 x0 x1 x2 x3 x4 x5 v_3 x7) (SQ2 ρ c x0) := fun {s} is ls => by
          refine s_gd (by rw [thN T3 qp (k := 109) (n := 6) rfl (by decide)]; exact rg_inB (rg_m i6 (by decide) : Rg 0 5 x6) (by decide)) ?_
          refine s_hq (th_wI T3 qp (k := 109) (lo := 0) (hi := 63) rfl is (by decide) (by decide) (pm_a hA rfl)) (fun h5 T5 w5 => ?_)
          obtain ⟨P5, _, L5⟩ := pla_w T3 r0 ep qp w5 (by rw [e13]; exact ls) P3 L3
          rw [if_pos c6] at L5
          refine s_q (fun y ey => ?_)
          have ey2 : y.toInt = x6.toInt + 1 := by rw [ey]; exact (nc_s i6 (by decide)).2
          clear ey
          have e13' : hI h5 x0 13 = hI h x0 13 := by rw [w5, r_I, if_neg (ne_r r0 qp (by decide))]; exact e13
          refine go T5 (by omega) (by omega) (by rw [e13']; exact l3) (fun rt' et' i hi => ?_) P5 (by rw [ey2]; exact L5)
          rw [w5] at et'
          have hz := r_eq et3 (show hR h3 x0 61 = some rt' from et')
          subst hz
          rw [e13', w5, r_I, if_neg (ne_r qt qp (by decide)), est]
          exact st rt' et i hi
        refine s_br (fun _ => fin i3 l3) (fun _ => ?_)
        refine s_ref et3 (s_gd (gt T3) ?_)
        refine fin (thI T3 qt (k := 110) (lo := 0) (hi := 63) rfl) ?_
        rw [est]
        exact st rt et _ (by have := i7.2; omega)
      obtain ⟨ro, eo, qo⟩ := thR T r0 (i := 57) (k2 := 108) rfl (by decide)
      obtain ⟨re, ee, qe⟩ := thR T r0 (i := 47) (k2 := 100) rfl (by decide)
      obtain ⟨ix, _⟩ := ix5 i1 i7
      have all : Sat (cl (hR h x0 57) fun r_1 => br (x7 = x2) (sX15_stateBehind_62 F (sX15_stateBehind_6 F f) h x0 x1 x2 x3 x4 x5 x6 x7 x4 x6 r_1) (cl (hR h x0 47) fun r_3 => gd (inB (((5 : Int32) * x1) + x7) (hN h r_3)) <| sX15_stateBehind_62 F (sX15_stateBehind_6 F f) h x0 x1 x2 x3 x4 x5 x6 x7 (hI h r_3 (((5 : Int32) * x1) + x7).toNatClampNeg) x6 r_1)) (SQ2 ρ c x0) := by
        refine s_ref eo ?_
        refine s_br (fun _ => put eo i4) (fun _ => ?_)
        refine s_ref ee ?_
        refine s_gd (by rw [thN T qe (k := 100) (n := 20480) rfl (by decide)]; exact rg_inB ix (by decide)) ?_
        exact put eo (thI T qe (k := 100) (lo := 0) (hi := 24) rfl)
      refine s_br (fun _ => all) (fun _ => ?_)
      refine s_ref et (s_gd (gt T) ?_)
      exact s_br (fun _ => go T a6 (by omega) l3 st P L) (fun _ => all)
theorem zX15_stateBehind (hF : 700000 ≤ F) (hA : pmA c rwpL) (T : TH ρ c h) (r0 : ρ x0 = 16) (i1 : Rg 0 4095 x1) (i3 : Rg 0 63 x3) (l3 : x3.toInt < (hI h x0 13).toInt) (i4 : Rg 0 24 x4) (i5 : Rg 0 1 x5) (st : ∀ rt, hR h x0 61 = some rt → ∀ i, i < 5 → (hI h rt i).toInt < (hI h x0 13).toInt) (P : SE x0 h) : Sat (sX15_stateBehind F h x0 x1 x2 x3 x4 x5) (SQ2 ρ c x0) := by
  unfold sX15_stateBehind
  have z0 : (0 : Int32).toInt = 0 := rfl
  exact be_6 hF hA r0 i1 i3 i4 i5 F T (by decide) (by decide) (by decide) l3 st P (fun _ _ i hi => by rw [z0] at hi; omega) (by rw [z0]; omega)
end
end
section
/-! where a man's mask lies -/
section
variable {ρ : Nat → Nat} {c : Cm} {h o : Hp} {x0 a b F r4 r : Nat} {W : Int} {x1 x2 x3 x4 x5 x6 x7 : Int32}
theorem mk_11 (T : TH ρ c h) (r0 : ρ x0 = 16) (i1 : Rg 0 4095 x1) {rm rb re : Nat} (em : hR h x0 46 = some rm) (eb : hR h x0 53 = some rb) (ee : hR h x0 47 = some re) (a2 : 0 ≤ x2.toInt) (l2 : x2.toInt / 2 + 1 ≤ W) (hb : (hI h rb x1.toNatClampNeg).toInt + (hI h rm x1.toNatClampNeg).toInt * W ≤ 1500000) (a3 : 0 ≤ x3.toInt) (l3 : x3.toInt < (hI h rm x1.toNatClampNeg).toInt) (own : ¬ ((hI h re (5 * x1.toNatClampNeg + x3.toNatClampNeg)) - (1 : Int32)) &&& (1 : Int32) < x4) : ∀ (f : Nat) {x5 x6 : Int32}, 0 ≤ x5.toInt → 0 ≤ x6.toInt → x6.toInt ≤ (hI h rm x1.toNatClampNeg).toInt → x5.toInt ≤ x6.toInt → (x3.toInt < x6.toInt → x5.toInt + 1 ≤ x6.toInt) → (6 - x6.toInt).toNat < f → Sat (sX15_maskOf_11 F f h x0 x1 x2 x3 x4 x5 x6) (fun o => o.2 = h ∧ Rg 0 1499999 o.1) := by
  have qm : ρ rm = 99 := rr T (thR T r0 (i := 46) (k2 := 99) rfl (by decide)) em
  have qb : ρ rb = 104 := rr T (thR T r0 (i := 53) (k2 := 104) rfl (by decide)) eb
  have qe : ρ re = 100 := rr T (thR T r0 (i := 47) (k2 := 100) rfl (by decide)) ee
  have m5 := thI T qm (k := 99) (i := x1.toNatClampNeg) (lo := 0) (hi := 5) rfl
  have ib := thI T qb (k := 104) (i := x1.toNatClampNeg) (lo := 0) (hi := 1500000) rfl
  have bm := m5.2
  have am := m5.1
  have ib0 := ib.1
  intro f
  induction f with
  | zero => intros; omega
  | succ f ih =>
    intro x5 x6 a5 a6 b6 b5 q5 hf
    rw [sX15_maskOf_11]
    unfold sX15_maskOf_60 sX15_maskOf_64 sX15_maskOf_65
    have gm : inB x1 (hN h rm) := by rw [thN T qm (k := 99) (n := 4096) rfl (by decide)]; exact rg_inB i1 (by decide)
    refine s_ref em (s_gd gm ?_)
    refine s_br (fun l => ?_) (fun n1 => ?_)
    · have l' := le_i l
      refine s_ref eb ?_
      refine s_gd (by rw [thN T qb (k := 104) (n := 4096) rfl (by decide)]; exact rg_inB i1 (by decide)) ?_
      refine s_ref em (s_gd gm ?_)
      have eq2 : (x2 >>> ((1 : Int32) &&& 31)).toInt = x2.toInt / 2 := ti_shr1
      have q0 : 0 ≤ x2.toInt / 2 := by omega
      have mu : (hI h rm x1.toNatClampNeg).toInt * (x2.toInt / 2) ≤ (hI h rm x1.toNatClampNeg).toInt * (W - 1) := Int.mul_le_mul_of_nonneg_left (by omega) am
      rw [Int.mul_sub, Int.mul_one] at mu
      have m0 : 0 ≤ (hI h rm x1.toNatClampNeg).toInt * (x2.toInt / 2) := Int.mul_nonneg am q0
      have x5l := q5 (by omega)
      have e1 : ((hI h rm x1.toNatClampNeg) * (x2 >>> ((1 : Int32) &&& 31))).toInt = (hI h rm x1.toNatClampNeg).toInt * (x2.toInt / 2) := by rw [tm ⟨by rw [eq2]; omega, by rw [eq2]; omega⟩, eq2]
      have e2 : ((hI h rb x1.toNatClampNeg) + ((hI h rm x1.toNatClampNeg) * (x2 >>> ((1 : Int32) &&& 31)))).toInt = (hI h rb x1.toNatClampNeg).toInt + (hI h rm x1.toNatClampNeg).toInt * (x2.toInt / 2) := by rw [ta ⟨by rw [e1]; omega, by rw [e1]; omega⟩, e1]
      have e3 : (((hI h rb x1.toNatClampNeg) + ((hI h rm x1.toNatClampNeg) * (x2 >>> ((1 : Int32) &&& 31)))) + x5).toInt = (hI h rb x1.toNatClampNeg).toInt + (hI h rm x1.toNatClampNeg).toInt * (x2.toInt / 2) + x5.toInt := by rw [ta ⟨by rw [e2]; omega, by rw [e2]; omega⟩, e2]
      exact s_some ⟨rfl, ⟨by show 0 ≤ (((hI h rb x1.toNatClampNeg) + ((hI h rm x1.toNatClampNeg) * (x2 >>> ((1 : Int32) &&& 31)))) + x5).toInt; omega, by show (((hI h rb x1.toNatClampNeg) + ((hI h rm x1.toNatClampNeg) * (x2 >>> ((1 : Int32) &&& 31)))) + x5).toInt ≤ 1499999; omega⟩⟩
    · have l6 := nle_i n1
      have i6 : Rg 0 4 x6 := ⟨a6, by omega⟩
      have i5 : Rg 0 4 x5 := ⟨a5, by omega⟩
      obtain ⟨ix, ex⟩ := ix5 i1 i6
      refine s_ref ee ?_
      refine s_gd (by rw [thN T qe (k := 100) (n := 20480) rfl (by decide)]; exact rg_inB ix (by decide)) ?_
      unfold sX15_sideOf
      refine s_cl (s_some ?_)
      dsimp only
      have c3 := clamp_i a3
      have c6 := clamp_i a6
      have one : (x3.toInt ≤ x6.toInt → x3.toInt ≠ x6.toInt) → Sat (nm (x5 + (1 : Int32)) fun v_1 => nm (x6 + (1 : Int32)) fun v_2 => sX15_maskOf_11 F f h x0 x1 x2 x3 x4 v_1 v_2) (fun o => o.2 = h ∧ Rg 0 1499999 o.1) := fun hne => by
        refine s_q (fun u eu => s_q (fun y ey => ?_))
        have eu2 : u.toInt = x5.toInt + 1 := by rw [eu]; exact (nc_s i5 (by decide)).2
        have ey2 : y.toInt = x6.toInt + 1 := by rw [ey]; exact (nc_s i6 (by decide)).2
        clear eu ey
        exact ih (by omega) (by omega) (by omega) (by omega) (fun q => by
          have : x3.toInt ≠ x6.toInt := hne (by omega)
          have := q5 (by omega)
          omega) (by omega)
      have zero : Sat (nm (x5 + (0 : Int32)) fun v_1 => nm (x6 + (1 : Int32)) fun v_2 => sX15_maskOf_11 F f h x0 x1 x2 x3 x4 v_1 v_2) (fun o => o.2 = h ∧ Rg 0 1499999 o.1) := by
        refine s_q (fun u eu => s_q (fun y ey => ?_))
        have z0 : (0 : Int32).toInt = 0 := rfl
        have eu2 : u.toInt = x5.toInt := by rw [eu, ta (by rw [z0]; omega), z0]; omega
        have ey2 : y.toInt = x6.toInt + 1 := by rw [ey]; exact (nc_s i6 (by decide)).2
        clear eu ey
        exact ih (by omega) (by omega) (by omega) (by omega) (fun q => by omega) (by omega)
      refine s_br (fun t => one (fun _ z => ?_)) (fun _ => s_br (fun _ => s_br (fun _ => zero) (fun n2 => one (fun q => ?_))) (fun _ => zero))
      · refine absurd t ?_
        have : x6.toNatClampNeg = x3.toNatClampNeg := by omega
        rw [ex, this]
        exact own
      · have := nle_i n2
        omega
/-- the mask of a man of the side that moves -/
theorem maskOf_q (hF : 700000 ≤ F) (T : TH ρ c h) (r0 : ρ x0 = 16) (i1 : Rg 0 4095 x1) {rm rb re : Nat} (em : hR h x0 46 = some rm) (eb : hR h x0 53 = some rb) (ee : hR h x0 47 = some re) (a2 : 0 ≤ x2.toInt) (l2 : x2.toInt / 2 + 1 ≤ W) (hb : (hI h rb x1.toNatClampNeg).toInt + (hI h rm x1.toNatClampNeg).toInt * W ≤ 1500000) (a3 : 0 ≤ x3.toInt) (l3 : x3.toInt < (hI h rm x1.toNatClampNeg).toInt) (own : ¬ ((hI h re (5 * x1.toNatClampNeg + x3.toNatClampNeg)) - (1 : Int32)) &&& (1 : Int32) < x2 &&& (1 : Int32)) : Sat (sX15_maskOf F h x0 x1 x2 x3) (fun o => o.2 = h ∧ Rg 0 1499999 o.1) := by
  unfold sX15_maskOf
  refine s_q (fun v ev => ?_)
  rw [← ev] at own
  have z0 : (0 : Int32).toInt = 0 := rfl
  exact mk_11 T r0 i1 em eb ee a2 l2 hb a3 l3 own F (by decide) (by decide) (by rw [z0]; omega) (by decide) (fun q => by rw [z0] at q; omega) (by rw [z0]; omega)
end
end
section
/-! the men of a state stand where its number says -/
def rsD (q sq : Int) : Nat → Int
  | 0 => q
  | i + 1 => rsD q sq i / sq
section
variable {ρ : Nat → Nat} {h o : Hp} {x0 b M H C F : Nat} {x1 x2 x3 x4 x5 : Int32}
/-- what clearing a board leaves -/
def OB (ρ : Nat → Nat) (a : Nat) : Prop := ρ a ≠ 13 ∧ ρ a ≠ 62 ∧ ρ a ≠ 64 ∧ ρ a ≠ 65
theorem cb_38 (rb : ρ b = 13) (rH : ρ H = 64) (rC : ρ C = 65) : ∀ (f : Nat) {h : Hp} {x1 : Int32}, hR h b 5 = some H → hR h b 6 = some C → sX12_clear_38 F f h b x1 = some o → (∀ a i, hR o a i = hR h a i) ∧ (∀ a i, OB ρ a ∨ ρ a = 62 → hI o a i = hI h a i) := by
  intro f
  induction f with
  | zero => intro h x1 _ _ e; exact absurd e (by rw [sX12_clear_38]; simp)
  | succ f ih =>
    intro h x1 eH eC e
    rw [sX12_clear_38] at e
    have nb : ∀ {a : Nat}, OB ρ a ∨ ρ a = 62 → a ≠ b ∧ a ≠ H ∧ a ≠ C := fun {a} q => by
      refine ⟨fun z => ?_, fun z => ?_, fun z => ?_⟩
      · rw [z] at q; unfold OB at q; rw [rb] at q; omega
      · rw [z] at q; unfold OB at q; rw [rH] at q; omega
      · rw [z] at q; unfold OB at q; rw [rC] at q; omega
    rcases br_s e with ⟨_, e1⟩ | ⟨_, e1⟩
    · obtain ⟨r2, f2, e2⟩ := cl_s e1
      have hz := r_eq eC f2
      subst hz
      obtain ⟨_, e3⟩ := gd_s e2
      obtain ⟨h4, w4, e4⟩ := nm_s e3
      obtain ⟨r5, f5, e5⟩ := cl_s e4
      have f5' : hR h b 6 = some r5 := by rw [w4] at f5; exact f5
      have hz := r_eq f2 f5'
      subst hz
      obtain ⟨_, e6⟩ := gd_s e5
      obtain ⟨h7, w7, e7⟩ := nm_s e6
      obtain ⟨h8, w8, e8⟩ := nm_s e7
      have eo := Option.some.inj e8
      refine ⟨fun a i => by rw [← eo, w8, w7, w4]; rfl, fun a i q => ?_⟩
      obtain ⟨n1, n2, n3⟩ := nb q
      rw [← eo, w8, r_I, if_neg (fun y => n1 y.1), w7, r_I, if_neg (fun y => n3 y.1), w4, r_I, if_neg (fun y => n3 y.1)]
    · obtain ⟨r9, f9, e2⟩ := cl_s e1
      have hz := r_eq eH f9
      subst hz
      obtain ⟨_, e3⟩ := gd_s e2
      obtain ⟨h4, w4, e4⟩ := nm_s e3
      obtain ⟨v, _, e5⟩ := nm_s e4
      obtain ⟨p1, p2⟩ := ih (h := h4) (by rw [w4]; exact f9) (by rw [w4]; exact eC) e5
      refine ⟨fun a i => by rw [p1, w4]; rfl, fun a i q => ?_⟩
      obtain ⟨n1, n2, n3⟩ := nb q
      rw [p2 a i q, w4, r_I, if_neg (fun y => n2 y.1)]
theorem cb_2 (rb : ρ b = 13) (rM : ρ M = 62) (rH : ρ H = 64) (rC : ρ C = 65) : ∀ (f : Nat) {h : Hp} {x1 : Int32}, hR h b 0 = some M → hR h b 5 = some H → hR h b 6 = some C → 0 ≤ x1.toInt → x1.toInt ≤ 64 → (∀ s : Nat, (s : Int) < x1.toInt → hI h M s = 0) → sX12_clear_2 F f h b x1 = some o → (∀ a i, hR o a i = hR h a i) ∧ (∀ a i, OB ρ a → hI o a i = hI h a i) ∧ ∀ s : Nat, s < 64 → hI o M s = 0 := by
  intro f
  induction f with
  | zero => intro h x1 _ _ _ _ _ _ e; exact absurd e (by rw [sX12_clear_2]; simp)
  | succ f ih =>
    intro h x1 eM eH eC a1 b1 Z e
    rw [sX12_clear_2] at e
    rcases br_s e with ⟨l, e1⟩ | ⟨l, e1⟩
    · have l' : (64 : Int) ≤ x1.toInt := le_i l
      obtain ⟨h2, w2, e2⟩ := nm_s e1
      obtain ⟨h3, w3, e3⟩ := nm_s e2
      obtain ⟨h4, w4, e4⟩ := nm_s e3
      have R4 : ∀ a i, hR h4 a i = hR h a i := fun a i => by rw [w4, w3, w2]; rfl
      have I4 : ∀ a i, a ≠ b → hI h4 a i = hI h a i := fun a i n => by
        rw [w4, r_I, if_neg (fun y => n y.1), w3]
        show hI h2 a i = _
        rw [w2, r_I, if_neg (fun y => n y.1)]
      obtain ⟨p1, p2⟩ := cb_38 rb rH rC F (by rw [R4]; exact eH) (by rw [R4]; exact eC) e4
      refine ⟨fun a i => by rw [p1, R4], fun a i q => ?_, fun s hs => ?_⟩
      · rw [p2 a i (Or.inl q), I4 a i (fun z => q.1 (by rw [z]; exact rb))]
      · rw [p2 M s (Or.inr rM), I4 M s (fun z => by rw [z, rb] at rM; exact absurd rM (by decide))]
        exact Z s (by omega)
    · have l' : x1.toInt < 64 := nle_i l
      obtain ⟨r5, f5, e2⟩ := cl_s e1
      have hz := r_eq eM f5
      subst hz
      obtain ⟨_, e3⟩ := gd_s e2
      obtain ⟨h7, w7, e4⟩ := nm_s e3
      obtain ⟨v, ev, e5⟩ := nm_s e4
      have i1 : Rg 0 63 x1 := ⟨a1, by omega⟩
      have ev2 : v.toInt = x1.toInt + 1 := by rw [ev]; exact (nc_s i1 (by decide)).2
      have c1 := clamp_i a1
      obtain ⟨p1, p2, p3⟩ := ih (h := h7) (by rw [w7]; exact f5) (by rw [w7]; exact eH) (by rw [w7]; exact eC) (by omega) (by omega) (fun s hs => by
        rw [w7, r_I]
        by_cases z : s = x1.toNatClampNeg
        · rw [if_pos ⟨rfl, z⟩]
        · rw [if_neg (fun y => z y.2)]
          exact Z s (by omega)) e5
      refine ⟨fun a i => by rw [p1, w7]; rfl, fun a i q => ?_, p3⟩
      rw [p2 a i q, w7, r_I, if_neg (fun y => q.2.1 (by rw [y.1]; exact rM))]
/-- a board that is cleared has no men -/
theorem clear_q {c : Cm} (T : TH ρ c h) (rb : ρ b = 13) (eM : hR h b 0 = some M) (e : sX12_clear F h b = some o) : (∀ a i, hR o a i = hR h a i) ∧ (∀ a i, OB ρ a → hI o a i = hI h a i) ∧ ∀ s : Nat, s < 64 → hI o M s = 0 := by
  obtain ⟨H, eH, rH⟩ := thR T rb (i := 5) (k2 := 64) rfl (by decide)
  obtain ⟨C, eC, rC⟩ := thR T rb (i := 6) (k2 := 65) rfl (by decide)
  have rM : ρ M = 62 := rr T (thR T rb (i := 0) (k2 := 62) rfl (by decide)) eM
  have z0 : (0 : Int32).toInt = 0 := rfl
  unfold sX12_clear at e
  exact cb_2 rb rM rH rC F eM eH eC (by decide) (by decide) (fun s hs => by rw [z0] at hs; omega) e
end
end
section
section
variable {ρ : Nat → Nat} {c : Cm} {h o : Hp} {x0 b g M rm re F : Nat} {x1 x2 x3 x4 x5 : Int32} {q sq : Int}
/-- the men that are laid so far -/
def LSD (M re base : Nat) (q sq : Int) (n : Nat) (h : Hp) : Prop := ∀ s : Nat, s < 64 → 0 < (hI h M s).toInt → ∃ j, j < n ∧ (s : Int) = rsD q sq j % sq ∧ hI h M s = hI h re (base + j)
/-- each man of the set is laid -/
def LSC (M re base : Nat) (q sq : Int) (n : Nat) (h : Hp) : Prop := ∀ i, i < n → hI h M (rsD q sq i % sq).toNat = hI h re (base + i)
/-- what laying a state reads stays -/
def LSR (x0 g M rm re : Nat) (many : Int32) (x1 : Int32) (sq : Int) (h0 h : Hp) : Prop := hR h x0 60 = some g ∧ hR h g 0 = some M ∧ hR h x0 46 = some rm ∧ hR h x0 47 = some re ∧ (hI h x0 13).toInt = sq ∧ hI h rm x1.toNatClampNeg = many ∧ ∀ i, hI h re i = hI h0 re i
/-- no two men on one square -/
def LSX (q sq : Int) (n : Nat) : Prop := ∀ i i', i < n → i' < i → ¬ rsD q sq i' % sq = rsD q sq i % sq
theorem lay_27 {many : Int32} {h0 : Hp} {oo : Int32 × Hp} (r0 : ρ x0 = 16) (rM : ρ M = 62) (qm : ρ rm = 99) (qe : ρ re = 100) (i1 : Rg 0 4095 x1) (im : Rg 0 5 many) (s9 : 9 ≤ sq) (s64 : sq ≤ 64) (q0 : 0 ≤ q) (pos : ∀ i, i < many.toNatClampNeg → 1 ≤ (hI h0 re (5 * x1.toNatClampNeg + i)).toInt) : ∀ (f : Nat) {h : Hp} {x3 x4 x5 : Int32}, LSR x0 g M rm re many x1 sq h0 h → 0 ≤ x5.toInt → x5.toInt ≤ many.toInt → x3.toInt = rsD q sq x5.toNatClampNeg → 0 ≤ x3.toInt → LSD M re (5 * x1.toNatClampNeg) q sq x5.toNatClampNeg h → LSC M re (5 * x1.toNatClampNeg) q sq x5.toNatClampNeg h → LSX q sq x5.toNatClampNeg → sX15_layState_27 F f h x0 x1 x3 x4 x5 = some oo → ¬ oo.1 = 0 → LSR x0 g M rm re many x1 sq h0 oo.2 ∧ LSD M re (5 * x1.toNatClampNeg) q sq many.toNatClampNeg oo.2 ∧ LSC M re (5 * x1.toNatClampNeg) q sq many.toNatClampNeg oo.2 ∧ LSX q sq many.toNatClampNeg := by
  intro f
  induction f with
  | zero => intro h x3 x4 x5 _ _ _ _ _ _ _ _ e; exact absurd e (by rw [sX15_layState_27]; simp)
  | succ f ih =>
    intro h x3 x4 x5 L a5 b5 e3 a3 D DC DX e nz
    rw [sX15_layState_27] at e
    have L' := L
    obtain ⟨l1, l2, l3, l4, l5, l6, l7⟩ := L
    obtain ⟨r1, f1, e1⟩ := cl_s e
    have hz := r_eq l3 f1
    subst hz
    obtain ⟨_, e2⟩ := gd_s e1
    have bm := im.2
    rcases br_s e2 with ⟨l, e3'⟩ | ⟨l, e3'⟩
    · have l' := le_i l
      rw [l6] at l'
      have eo := Option.some.inj e3'
      have en : x5.toNatClampNeg = many.toNatClampNeg := by have := clamp_i a5; have := clamp_i im.1; omega
      rw [← eo]
      exact ⟨L', by rw [← en]; exact D, by rw [← en]; exact DC, by rw [← en]; exact DX⟩
    · have l' := nle_i l
      rw [l6] at l'
      have i5 : Rg 0 4 x5 := ⟨a5, by omega⟩
      obtain ⟨ix, ex⟩ := ix5 i1 i5
      have isq : Rg 9 64 (hI h x0 13) := ⟨by omega, by omega⟩
      have i3 : Rg 0 2147483647 x3 := ⟨a3, (rg_top x3).2⟩
      obtain ⟨_, e4⟩ := gd_s e3'
      obtain ⟨v5, w5, e5⟩ := nm_s e4
      obtain ⟨_, e6⟩ := gd_s e5
      obtain ⟨v7, w7, e7⟩ := nm_s e6
      obtain ⟨r8, f8, e8⟩ := cl_s e7
      have hz := r_eq l4 f8
      subst hz
      obtain ⟨_, e9⟩ := gd_s e8
      obtain ⟨v10, w10, e10⟩ := nm_s e9
      obtain ⟨r11, f11, e11⟩ := cl_s e10
      have hz := r_eq l1 f11
      subst hz
      obtain ⟨r12, f12, e12⟩ := cl_s e11
      have hz := r_eq l2 f12
      subst hz
      obtain ⟨_, e13⟩ := gd_s e12
      have v5e : v5.toInt = x3.toInt % sq := by rw [w5, tr i3 isq (by decide), l5]
      have v7e : v7.toInt = x3.toInt / sq := by rw [w7, td i3 isq (by decide), l5]
      have m0 : 0 ≤ x3.toInt % sq := Int.emod_nonneg _ (by omega)
      have m1 : x3.toInt % sq < sq := Int.emod_lt_of_pos _ (by omega)
      have d0 : 0 ≤ x3.toInt / sq := Int.ediv_nonneg a3 (by omega)
      have v5r : Rg 0 63 v5 := ⟨by omega, by omega⟩
      have c5' := clamp_i v5r.1
      have put : ¬ 0 < hI h r12 v5.toNatClampNeg → sX15_layState_111 F (sX15_layState_27 F f) h x0 x1 v7 x5 v5 v10 = some oo → LSR x0 r11 r12 r1 r8 many x1 sq h0 oo.2 ∧ LSD r12 r8 (5 * x1.toNatClampNeg) q sq many.toNatClampNeg oo.2 ∧ LSC r12 r8 (5 * x1.toNatClampNeg) q sq many.toNatClampNeg oo.2 ∧ LSX q sq many.toNatClampNeg := fun nn e => by
        have nn' : (hI h r12 v5.toNatClampNeg).toInt ≤ 0 := nlt_i nn
        unfold sX15_layState_111 at e
        obtain ⟨ra, fa, ea⟩ := cl_s e
        have hz := r_eq l1 fa
        subst hz
        obtain ⟨rb, fb', eb⟩ := cl_s ea
        have hz := r_eq l2 fb'
        subst hz
        obtain ⟨_, ec⟩ := gd_s eb
        obtain ⟨h4, w4, ed⟩ := nm_s ec
        obtain ⟨y, ey, ee⟩ := nm_s ed
        have ny := nc_s i5 (by decide)
        have ey2 : y.toInt = x5.toInt + 1 := by rw [ey]; exact ny.2
        have ey3 : y.toNatClampNeg = x5.toNatClampNeg + 1 := by rw [ey]; exact ny.1
        clear ey
        have g4 : ∀ {a k : Nat}, ρ a = k → k ≠ 62 → ∀ i, hI h4 a i = hI h a i := fun {a k} ea hk i => by rw [w4, r_I, if_neg (ne_r ea rM hk)]
        have L4 : LSR x0 ra rb r1 r8 many x1 sq h0 h4 := ⟨by rw [w4]; exact l1, by rw [w4]; exact l2, by rw [w4]; exact l3, by rw [w4]; exact l4, by rw [g4 r0 (by decide)]; exact l5, by rw [g4 qm (by decide)]; exact l6, fun i => by rw [g4 qe (by decide)]; exact l7 i⟩
        refine ih L4 (by omega) (by omega) ?_ (by omega) ?_ ?_ ?_ ee nz
        · rw [ey3, v7e, e3]; rfl
        · rw [ey3]
          intro s hs p
          by_cases z : s = v5.toNatClampNeg
          · refine ⟨x5.toNatClampNeg, by omega, ?_, ?_⟩
            · rw [← e3]; omega
            · rw [g4 qe (by decide), z, he_s w4, w10, ex]
          · have es : hI h4 rb s = hI h rb s := by rw [w4, r_I, if_neg (fun y => z y.2)]
            rw [es] at p
            obtain ⟨j, j1, j2, j3⟩ := D s hs p
            exact ⟨j, by omega, j2, by rw [es, g4 qe (by decide)]; exact j3⟩
        · rw [ey3]
          intro i hi
          rw [g4 qe (by decide)]
          by_cases z : i = x5.toNatClampNeg
          · have ez : (rsD q sq i % sq).toNat = v5.toNatClampNeg := by rw [z, ← e3]; omega
            rw [ez, he_s w4, w10, ex, z]
          · have li : i < x5.toNatClampNeg := by omega
            have ci := DC i li
            have c5'' := clamp_i a5
            have cmm := clamp_i im.1
            have pi := pos i (by omega)
            rw [← l7] at pi
            have ne : (rsD q sq i % sq).toNat ≠ v5.toNatClampNeg := fun zz => by
              rw [zz] at ci
              rw [ci] at nn'
              omega
            rw [w4, r_I, if_neg (fun y => ne y.2)]
            exact ci
        · rw [ey3]
          intro i i' hi li
          by_cases z : i = x5.toNatClampNeg
          · have ez : (rsD q sq i % sq).toNat = v5.toNatClampNeg := by rw [z, ← e3]; omega
            intro zz
            have ci := DC i' (by omega)
            have c5'' := clamp_i a5
            have cmm := clamp_i im.1
            have pi := pos i' (by omega)
            rw [← l7] at pi
            rw [zz, ez] at ci
            rw [ci] at nn'
            omega
          · exact DX i i' (by omega) li
      have no : ∀ {g : Hp} {P : Prop}, some ((0 : Int32), g) = some oo → P := fun {g P} e => by
        have := Option.some.inj e
        rw [← this] at nz
        exact absurd rfl nz
      rcases br_s e13 with ⟨_, e14⟩ | ⟨nn, e14⟩
      · exact no e14
      rcases br_s e14 with ⟨_, e15⟩ | ⟨_, e15⟩
      · exact put nn e15
      obtain ⟨_, _, e16⟩ := cl_s e15
      obtain ⟨_, e17⟩ := gd_s e16
      rcases br_s e17 with ⟨_, e18⟩ | ⟨_, e18⟩
      · rcases br_s e18 with ⟨_, e19⟩ | ⟨_, e19⟩
        · exact put nn e19
        · exact no e19
      · exact put nn e18
/-- a state that is laid: each man stands on a digit of its number -/
theorem lay_q {oo : Int32 × Hp} (T : TH ρ c h) (r0 : ρ x0 = 16) (i1 : Rg 0 4095 x1) (a2 : 0 ≤ x2.toInt) (l1 : hR h x0 60 = some g) (l2 : hR h g 0 = some M) (l3 : hR h x0 46 = some rm) (l4 : hR h x0 47 = some re) (pos : ∀ i, i < (hI h rm x1.toNatClampNeg).toNatClampNeg → 1 ≤ (hI h re (5 * x1.toNatClampNeg + i)).toInt) (e : sX15_layState F h x0 x1 x2 = some oo) (nz : ¬ oo.1 = 0) : LSR x0 g M rm re (hI h rm x1.toNatClampNeg) x1 (hI h x0 13).toInt h oo.2 ∧ LSD M re (5 * x1.toNatClampNeg) (x2.toInt / 2) (hI h x0 13).toInt (hI h rm x1.toNatClampNeg).toNatClampNeg oo.2 ∧ LSC M re (5 * x1.toNatClampNeg) (x2.toInt / 2) (hI h x0 13).toInt (hI h rm x1.toNatClampNeg).toNatClampNeg oo.2 ∧ LSX (x2.toInt / 2) (hI h x0 13).toInt (hI h rm x1.toNatClampNeg).toNatClampNeg := by
  have rg : ρ g = 13 := rr T (thR T r0 (i := 60) (k2 := 13) rfl (by decide)) l1
  have rM : ρ M = 62 := rr T (thR T rg (i := 0) (k2 := 62) rfl (by decide)) l2
  have qm : ρ rm = 99 := rr T (thR T r0 (i := 46) (k2 := 99) rfl (by decide)) l3
  have qe : ρ re = 100 := rr T (thR T r0 (i := 47) (k2 := 100) rfl (by decide)) l4
  unfold sX15_layState at e
  obtain ⟨ra, fa, e1⟩ := cl_s e
  have hz := r_eq l1 fa
  subst hz
  obtain ⟨h2, f2, e2⟩ := cl_s e1
  obtain ⟨p1, p2, p3⟩ := clear_q T rg l2 f2
  obtain ⟨rc, fc, e3⟩ := cl_s e2
  have fc' : hR h x0 60 = some rc := by rw [← p1]; exact fc
  have hz := r_eq l1 fc'
  subst hz
  obtain ⟨h4, w4, e4⟩ := nm_s e3
  obtain ⟨v5, w5, e5⟩ := nm_s e4
  have R4 : ∀ a i, hR h4 a i = hR h a i := fun a i => by rw [w4]; exact p1 a i
  have I4 : ∀ a i, OB ρ a → hI h4 a i = hI h a i := fun a i q => by rw [w4, r_I, if_neg (fun y => q.1 (by rw [y.1]; exact rg)), p2 a i q]
  have o16 : OB ρ x0 := by unfold OB; rw [r0]; decide
  have o99 : OB ρ rm := by unfold OB; rw [qm]; decide
  have o100 : OB ρ re := by unfold OB; rw [qe]; decide
  have s := thI T r0 (k := 16) (i := 13) (lo := 9) (hi := 64) rfl
  have v5e : v5.toInt = x2.toInt / 2 := by rw [w5]; exact ti_shr1
  have z0 : (0 : Int32).toNatClampNeg = 0 := rfl
  refine lay_27 (h := h4) r0 rM qm qe i1 (thI T qm (k := 99) (lo := 0) (hi := 5) rfl) s.1 s.2 (by omega) pos F ⟨by rw [R4]; exact l1, by rw [R4]; exact l2, by rw [R4]; exact l3, by rw [R4]; exact l4, by rw [I4 x0 13 o16], I4 rm _ o99, fun i => I4 re i o100⟩ (by decide) ?_ (by rw [z0]; exact v5e) (by omega) (fun s hs p => ?_) (fun i hi => absurd hi (by rw [z0]; exact Nat.not_lt_zero i)) (fun i i' hi => absurd hi (by rw [z0]; exact Nat.not_lt_zero i)) e5 nz
  · exact (thI T qm (k := 99) (i := x1.toNatClampNeg) (lo := 0) (hi := 5) rfl).1
  · rw [w4, r_I, if_neg (ne_r rM rg (by decide)), p3 s hs] at p
    exact absurd p (by decide)
end
end
