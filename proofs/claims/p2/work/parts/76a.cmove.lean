/-! moves of the law's men to the law's squares -/
theorem bsh {y : BitVec 32} {k q w : Nat} {M : BitVec 32} (hm : ∀ j : Fin 32, w ≤ j.val → M.getLsbD j.val = false) (hk : q + w ≤ k) (k32 : k < 32) : (((y <<< k).sshiftRight q) &&& M) = 0#32 := by
  apply BitVec.eq_of_getLsbD_eq
  intro i hi
  rw [BitVec.getLsbD_and, BitVec.getLsbD_zero]
  by_cases z : i < w
  · have : ((y <<< k).sshiftRight q).getLsbD i = false := by
      rw [BitVec.getLsbD_sshiftRight]
      have a : q + i < 32 := by omega
      have b : q + i < k := by omega
      rw [BitVec.getLsbD_shiftLeft]
      simp [a, b]
    rw [this, Bool.false_and]
  · rw [hm ⟨i, hi⟩ (show w ≤ i by omega), Bool.and_false]
theorem bsh0 {y : BitVec 32} {k w : Nat} {M : BitVec 32} (hm : ∀ j : Fin 32, w ≤ j.val → M.getLsbD j.val = false) (hk : w ≤ k) : ((y <<< k) &&& M) = 0#32 := by
  apply BitVec.eq_of_getLsbD_eq
  intro i hi
  rw [BitVec.getLsbD_and, BitVec.getLsbD_zero]
  by_cases z : i < w
  · have b : i < k := by omega
    rw [BitVec.getLsbD_shiftLeft]
    simp [b]
  · rw [hm ⟨i, hi⟩ (show w ≤ i by omega), Bool.and_false]
theorem shb0 {y k : Int32} {K : Nat} (hk : ((k &&& 31).toBitVec.smod 32).toNat = K) : (y <<< (k &&& 31)).toBitVec = y.toBitVec <<< K := by
  rw [Int32.toBitVec_shiftLeft, BitVec.shiftLeft_eq', hk]
theorem shb {y k q : Int32} {K Q : Nat} (hk : ((k &&& 31).toBitVec.smod 32).toNat = K) (hq : ((q &&& 31).toBitVec.smod 32).toNat = Q) : ((y <<< (k &&& 31)) >>> (q &&& 31)).toBitVec = (y.toBitVec <<< K).sshiftRight Q := by
  rw [Int32.toBitVec_shiftRight, BitVec.sshiftRight_eq', hq, shb0 hk]
theorem s20 (y : Int32) : (y <<< ((20 : Int32) &&& 31)) &&& (63 : Int32) = 0 ∧ ((y <<< ((20 : Int32) &&& 31)) >>> ((6 : Int32) &&& 31)) &&& (63 : Int32) = 0 ∧ fd 12 (y <<< ((20 : Int32) &&& 31)) = 0 ∧ fd 16 (y <<< ((20 : Int32) &&& 31)) = 0 := by
  refine ⟨?_, ?_, ?_, ?_⟩
  · apply Int32.toBitVec_inj.mp
    rw [Int32.toBitVec_and, shb0 (K := 20) (by decide)]
    exact bsh0 (w := 6) (by decide) (by decide)
  · apply Int32.toBitVec_inj.mp
    rw [Int32.toBitVec_and, shb (K := 20) (Q := 6) (by decide) (by decide)]
    exact bsh (w := 6) (by decide) (by decide) (by decide)
  · unfold fd
    apply Int32.toBitVec_inj.mp
    rw [Int32.toBitVec_and, shb (K := 20) (Q := 12) (by decide) (by decide)]
    exact bsh (w := 4) (by decide) (by decide) (by decide)
  · unfold fd
    apply Int32.toBitVec_inj.mp
    rw [Int32.toBitVec_and, shb (K := 20) (Q := 16) (by decide) (by decide)]
    exact bsh (w := 4) (by decide) (by decide) (by decide)
theorem s26 (y : Int32) : (y <<< ((26 : Int32) &&& 31)) &&& (63 : Int32) = 0 ∧ ((y <<< ((26 : Int32) &&& 31)) >>> ((6 : Int32) &&& 31)) &&& (63 : Int32) = 0 ∧ fd 12 (y <<< ((26 : Int32) &&& 31)) = 0 ∧ fd 16 (y <<< ((26 : Int32) &&& 31)) = 0 := by
  refine ⟨?_, ?_, ?_, ?_⟩
  · apply Int32.toBitVec_inj.mp
    rw [Int32.toBitVec_and, shb0 (K := 26) (by decide)]
    exact bsh0 (w := 6) (by decide) (by decide)
  · apply Int32.toBitVec_inj.mp
    rw [Int32.toBitVec_and, shb (K := 26) (Q := 6) (by decide) (by decide)]
    exact bsh (w := 6) (by decide) (by decide) (by decide)
  · unfold fd
    apply Int32.toBitVec_inj.mp
    rw [Int32.toBitVec_and, shb (K := 26) (Q := 12) (by decide) (by decide)]
    exact bsh (w := 4) (by decide) (by decide) (by decide)
  · unfold fd
    apply Int32.toBitVec_inj.mp
    rw [Int32.toBitVec_and, shb (K := 26) (Q := 16) (by decide) (by decide)]
    exact bsh (w := 4) (by decide) (by decide) (by decide)
section
variable {n m : Int} {v v' A y x0 x1 x2 x3 : Int32}
theorem mvx_keep (g : MvX n m v) (e : v' = (v &&& A) ||| y) (a1 : A &&& (63 : Int32) = 63) (a2 : (A >>> ((6 : Int32) &&& 31)) &&& (63 : Int32) = 63) (a3 : fd 12 A = 15) (a4 : fd 16 A = 15) (y1 : y &&& (63 : Int32) = 0) (y2 : (y >>> ((6 : Int32) &&& 31)) &&& (63 : Int32) = 0) (y3 : fd 12 y = 0) (y4 : fd 16 y = 0) : MvX n m v' ∧ fd 12 v' = fd 12 v := by
  have e1 : v' &&& (63 : Int32) = v &&& (63 : Int32) := by rw [e, lo_or, lo_as, a1, y1, or_0]
  have e2 : (v' >>> ((6 : Int32) &&& 31)) &&& (63 : Int32) = (v >>> ((6 : Int32) &&& 31)) &&& (63 : Int32) := by rw [e, sh_or, sh_and, lo_or, lo_as, a2, y2, or_0]
  have e3 : fd 12 v' = fd 12 v := by rw [e, fd_or, fd_and, a3, y3, fd_15, fd_o]
  have e4 : fd 16 v' = fd 16 v := by rw [e, fd_or, fd_and, a4, y4, fd_15, fd_o]
  refine ⟨⟨by rw [e1]; exact g.1, by rw [e2]; exact g.2.1, ?_, ?_⟩, e3⟩
  · show (fd 12 v').toInt < m
    rw [e3]; exact g.2.2.1
  · show fd 16 v' = 15 ∨ (fd 16 v').toInt < m
    rw [e4]; exact g.2.2.2
theorem mvx_taken (g : MvX n m v) : MvX n m ((v &&& (-15728641 : Int32)) ||| (y <<< ((20 : Int32) &&& 31))) ∧ fd 12 ((v &&& (-15728641 : Int32)) ||| (y <<< ((20 : Int32) &&& 31))) = fd 12 v := mvx_keep g rfl (by decide) (by decide) (by decide +kernel) (by decide +kernel) (s20 y).1 (s20 y).2.1 (s20 y).2.2.1 (s20 y).2.2.2
theorem mvx_pass (g : MvX n m v) : MvX n m (v ||| (y <<< ((26 : Int32) &&& 31))) ∧ fd 12 (v ||| (y <<< ((26 : Int32) &&& 31))) = fd 12 v := mvx_keep (A := (-1 : Int32)) g (by rw [and_m1]) (by decide) (by decide) (by decide +kernel) (by decide +kernel) (s26 y).1 (s26 y).2.1 (s26 y).2.2.1 (s26 y).2.2.2
theorem mvx_become (g : MvX n m v) (iy : Rg 0 11 y) (l : y.toInt < m) : MvX n m ((v &&& (-983041 : Int32)) ||| (y <<< ((16 : Int32) &&& 31))) := by
  have b : fd 12 (y <<< ((16 : Int32) &&& 31)) = 0 ∧ fd 16 (y <<< ((16 : Int32) &&& 31)) = y ∧ (0 : Int32) ||| y = y ∧ (y <<< ((16 : Int32) &&& 31)) &&& (63 : Int32) = 0 ∧ ((y <<< ((16 : Int32) &&& 31)) >>> ((6 : Int32) &&& 31)) &&& (63 : Int32) = 0 := small (P := fun y => fd 12 (y <<< ((16 : Int32) &&& 31)) = 0 ∧ fd 16 (y <<< ((16 : Int32) &&& 31)) = y ∧ (0 : Int32) ||| y = y ∧ (y <<< ((16 : Int32) &&& 31)) &&& (63 : Int32) = 0 ∧ ((y <<< ((16 : Int32) &&& 31)) >>> ((6 : Int32) &&& 31)) &&& (63 : Int32) = 0) (n := 11) iy (by decide) (by decide +kernel)
  have e : fd 12 (-983041 : Int32) = 15 ∧ fd 16 (-983041 : Int32) = 0 := by decide +kernel
  have c1 : (-983041 : Int32) &&& (63 : Int32) = 63 := by decide
  have c2 : ((-983041 : Int32) >>> ((6 : Int32) &&& 31)) &&& (63 : Int32) = 63 := by decide
  refine ⟨?_, ?_, ?_, Or.inr ?_⟩
  · rw [lo_or, lo_as, c1, b.2.2.2.1, or_0]; exact g.1
  · rw [sh_or, sh_and, lo_or, lo_as, c2, b.2.2.2.2, or_0]; exact g.2.1
  · show (fd 12 _).toInt < m
    rw [fd_or, fd_and, e.1, b.1, fd_15, fd_o]; exact g.2.2.1
  · show (fd 16 _).toInt < m
    rw [fd_or, fd_and, e.2, b.2.1, fd_0, b.2.2.1]; exact l
theorem mvx_plain (i0 : Rg 0 63 x0) (i1 : Rg 0 63 x1) (i2 : Rg 0 11 x2) (i3 : Rg 0 3 x3) (l0 : x0.toInt < n) (l1 : x1.toInt < n) (l2 : x2.toInt < m) : MvX n m (((((x1 ||| (x0 <<< ((6 : Int32) &&& 31))) ||| (x2 <<< ((12 : Int32) &&& 31))) ||| (983040 : Int32)) ||| (15728640 : Int32)) ||| (x3 <<< ((24 : Int32) &&& 31))) ∧ fd 12 (((((x1 ||| (x0 <<< ((6 : Int32) &&& 31))) ||| (x2 <<< ((12 : Int32) &&& 31))) ||| (983040 : Int32)) ||| (15728640 : Int32)) ||| (x3 <<< ((24 : Int32) &&& 31))) = x2 := by
  have a12 : fd 12 x1 = 0 ∧ fd 16 x1 = 0 ∧ x1 &&& (63 : Int32) = x1 ∧ (x1 >>> ((6 : Int32) &&& 31)) &&& (63 : Int32) = 0 := small (P := fun x1 => fd 12 x1 = 0 ∧ fd 16 x1 = 0 ∧ x1 &&& (63 : Int32) = x1 ∧ (x1 >>> ((6 : Int32) &&& 31)) &&& (63 : Int32) = 0) (n := 63) i1 (by decide) (by decide +kernel)
  have b12 : fd 12 (x0 <<< ((6 : Int32) &&& 31)) = 0 ∧ fd 16 (x0 <<< ((6 : Int32) &&& 31)) = 0 ∧ (x0 <<< ((6 : Int32) &&& 31)) &&& (63 : Int32) = 0 ∧ ((x0 <<< ((6 : Int32) &&& 31)) >>> ((6 : Int32) &&& 31)) &&& (63 : Int32) = x0 := small (P := fun x0 => fd 12 (x0 <<< ((6 : Int32) &&& 31)) = 0 ∧ fd 16 (x0 <<< ((6 : Int32) &&& 31)) = 0 ∧ (x0 <<< ((6 : Int32) &&& 31)) &&& (63 : Int32) = 0 ∧ ((x0 <<< ((6 : Int32) &&& 31)) >>> ((6 : Int32) &&& 31)) &&& (63 : Int32) = x0) (n := 63) i0 (by decide) (by decide +kernel)
  have c12 : fd 12 (x2 <<< ((12 : Int32) &&& 31)) = x2 ∧ fd 16 (x2 <<< ((12 : Int32) &&& 31)) = 0 ∧ (x2 <<< ((12 : Int32) &&& 31)) &&& (63 : Int32) = 0 ∧ ((x2 <<< ((12 : Int32) &&& 31)) >>> ((6 : Int32) &&& 31)) &&& (63 : Int32) = 0 := small (P := fun x2 => fd 12 (x2 <<< ((12 : Int32) &&& 31)) = x2 ∧ fd 16 (x2 <<< ((12 : Int32) &&& 31)) = 0 ∧ (x2 <<< ((12 : Int32) &&& 31)) &&& (63 : Int32) = 0 ∧ ((x2 <<< ((12 : Int32) &&& 31)) >>> ((6 : Int32) &&& 31)) &&& (63 : Int32) = 0) (n := 11) i2 (by decide) (by decide +kernel)
  have d12 : fd 12 (x3 <<< ((24 : Int32) &&& 31)) = 0 ∧ fd 16 (x3 <<< ((24 : Int32) &&& 31)) = 0 ∧ (x3 <<< ((24 : Int32) &&& 31)) &&& (63 : Int32) = 0 ∧ ((x3 <<< ((24 : Int32) &&& 31)) >>> ((6 : Int32) &&& 31)) &&& (63 : Int32) = 0 := small (P := fun x3 => fd 12 (x3 <<< ((24 : Int32) &&& 31)) = 0 ∧ fd 16 (x3 <<< ((24 : Int32) &&& 31)) = 0 ∧ (x3 <<< ((24 : Int32) &&& 31)) &&& (63 : Int32) = 0 ∧ ((x3 <<< ((24 : Int32) &&& 31)) >>> ((6 : Int32) &&& 31)) &&& (63 : Int32) = 0) (n := 3) i3 (by decide) (by decide +kernel)
  have e12 : fd 12 (983040 : Int32) = 0 ∧ fd 12 (15728640 : Int32) = 0 ∧ fd 16 (983040 : Int32) = 15 ∧ fd 16 (15728640 : Int32) = 0 := by decide +kernel
  have f1 : (983040 : Int32) &&& (63 : Int32) = 0 := by decide
  have f2 : (15728640 : Int32) &&& (63 : Int32) = 0 := by decide
  have f3 : ((983040 : Int32) >>> ((6 : Int32) &&& 31)) &&& (63 : Int32) = 0 := by decide
  have f4 : ((15728640 : Int32) >>> ((6 : Int32) &&& 31)) &&& (63 : Int32) = 0 := by decide
  have g12 : fd 12 (((((x1 ||| (x0 <<< ((6 : Int32) &&& 31))) ||| (x2 <<< ((12 : Int32) &&& 31))) ||| (983040 : Int32)) ||| (15728640 : Int32)) ||| (x3 <<< ((24 : Int32) &&& 31))) = x2 := by
    rw [fd_or, fd_or, fd_or, fd_or, fd_or, a12.1, b12.1, c12.1, d12.1, e12.1, e12.2.1, or_0, or_0, or_0, or_0, or_l]
  have g16 : fd 16 (((((x1 ||| (x0 <<< ((6 : Int32) &&& 31))) ||| (x2 <<< ((12 : Int32) &&& 31))) ||| (983040 : Int32)) ||| (15728640 : Int32)) ||| (x3 <<< ((24 : Int32) &&& 31))) = 15 := by
    rw [fd_or, fd_or, fd_or, fd_or, fd_or, a12.2.1, b12.2.1, c12.2.1, d12.2.1, e12.2.2.1, e12.2.2.2, or_0, or_0, or_0, or_0, or_l]
  refine ⟨⟨?_, ?_, ?_, Or.inl g16⟩, g12⟩
  · rw [lo_or, lo_or, lo_or, lo_or, lo_or, a12.2.2.1, b12.2.2.1, c12.2.2.1, d12.2.2.1, f1, f2, or_0, or_0, or_0, or_0, or_0]
    exact l1
  · rw [sh_or, sh_or, sh_or, sh_or, sh_or, lo_or, lo_or, lo_or, lo_or, lo_or, a12.2.2.2, b12.2.2.2, c12.2.2.2, d12.2.2.2, f3, f4, or_l, or_0, or_0, or_0, or_0]
    exact l0
  · show (fd 12 _).toInt < m
    rw [g12]; exact l2
end
/-- only the list and the collector change -/
def KL6 (ρ : Nat → Nat) (h o : Hp) : Prop := (∀ a i, hR o a i = hR h a i) ∧ (∀ a i, ¬ ρ a = 47 → ¬ ρ a = 6 → hI o a i = hI h a i) ∧ ∀ a i, hJ o a i = hJ h a i
def LsX (x0 r : Nat) (n m : Int) (h : Hp) : Prop := 0 ≤ (hI h x0 6).toInt ∧ ∀ i : Nat, (i : Int) < (hI h x0 6).toInt → MvX n m (hI h r i)
section
variable {ρ : Nat → Nat} {c : Cm} {h o g : Hp} {x0 r F : Nat} {n m : Int} {v : Int32}
theorem k6_0 : KL6 ρ h h := ⟨fun _ _ => rfl, fun _ _ _ _ => rfl, fun _ _ => rfl⟩
theorem k6_t (a : KL6 ρ h g) (b : KL6 ρ g o) : KL6 ρ h o := ⟨fun x i => (b.1 x i).trans (a.1 x i), fun x i p q => (b.2.1 x i p q).trans (a.2.1 x i p q), fun x i => (b.2.2 x i).trans (a.2.2 x i)⟩
theorem k6_I {a i : Nat} (k : ρ a = 47 ∨ ρ a = 6) : KL6 ρ h (wI h a i v) := ⟨fun _ _ => rfl, fun b j n1 n2 => by rw [r_I, if_neg (fun z => by rw [z.1] at n1 n2; exact k.elim n1 n2)], fun _ _ => rfl⟩
theorem addm_l (r0 : ρ x0 = 6) (rr' : ρ r = 47) (er : hR h x0 5 = some r) (X : LsX x0 r n m h) (M : MvX n m v) (e : sX5_addMove h x0 v = some o) : KL6 ρ h o ∧ LsX x0 r n m o ∧ (hI h x0 6).toInt ≤ (hI o x0 6).toInt := by
  unfold sX5_addMove sX5_addMove_32 at e
  replace e := cl_s e
  obtain ⟨r1, e1, e⟩ := e
  have y1 : r1 = r := r_eq er e1
  subst y1
  replace e := br_s e
  rcases e with ⟨_, e⟩ | ⟨l, e⟩
  · rw [← Option.some.inj e]; exact ⟨k6_0, X, Int.le_refl _⟩
  have l := nle_i l
  have top := (rg_top (nI (hN h r1))).2
  replace e := cl_s e
  obtain ⟨r3, e3, e⟩ := e
  have y3 : r3 = r1 := r_eq er e3
  subst y3
  replace e := (gd_s e).2
  replace e := nm_s e
  obtain ⟨h5, w5, e⟩ := e
  replace e := nm_s e
  obtain ⟨h6, w6, e⟩ := e
  have z := Option.some.inj e
  subst z
  have nr : ¬ x0 = r3 := ne_r' r0 rr' (by decide)
  have z1 : (1 : Int32).toInt = 1 := rfl
  have k5 : hI h5 x0 6 = hI h x0 6 := by rw [w5, r_I, if_neg (fun z => nr z.1)]
  have x0' := X.1
  have k6 : (hI h6 x0 6).toInt = (hI h x0 6).toInt + 1 := by rw [w6, r_I, if_pos ⟨rfl, rfl⟩, k5, ta (by rw [z1]; omega), z1]
  have c6 := clamp_i x0'
  have kr : ∀ i, hI h6 r3 i = if i = (hI h x0 6).toNatClampNeg then v else hI h r3 i := fun i => by
    rw [w6, r_I, if_neg (fun z => nr z.1.symm), w5, r_I]
    by_cases z : i = (hI h x0 6).toNatClampNeg
    · rw [if_pos ⟨rfl, z⟩, if_pos z]
    · rw [if_neg (fun y => z y.2), if_neg z]
  refine ⟨?_, ⟨by rw [k6]; omega, fun i hi => ?_⟩, by rw [k6]; omega⟩
  · have a1 : KL6 ρ h h5 := by rw [w5]; exact k6_I (Or.inl rr')
    have a2 : KL6 ρ h5 h6 := by rw [w6]; exact k6_I (Or.inr r0)
    exact k6_t a1 a2
  · rw [kr]
    split
    · exact M
    · exact X.2 i (by omega)
theorem ls_k (r0 : ρ x0 = 6) (e6 : hI o x0 6 = hI h x0 6) (er : ∀ i, hI o r i = hI h r i) (X : LsX x0 r n m h) : LsX x0 r n m o := by
  unfold LsX
  rw [e6]
  exact ⟨X.1, fun i hi => by rw [er]; exact X.2 i hi⟩
end
