def fd (q x : Int32) : Int32 := (x >>> (q &&& 31)) &&& (15 : Int32)
theorem fd_or (q a b : Int32) : fd q (a ||| b) = fd q a ||| fd q b := by
  unfold fd
  apply Int32.toBitVec_inj.mp
  have d : ((a ||| b) >>> (q &&& 31)).toBitVec = (a >>> (q &&& 31)).toBitVec ||| (b >>> (q &&& 31)).toBitVec := by
    rw [Int32.toBitVec_shiftRight, Int32.toBitVec_shiftRight, Int32.toBitVec_shiftRight, Int32.toBitVec_or]
    exact BitVec.sshiftRight_or_distrib _ _ _
  rw [Int32.toBitVec_and, d, Int32.toBitVec_or, Int32.toBitVec_and, Int32.toBitVec_and]
  apply BitVec.eq_of_getLsbD_eq
  intro i hi
  rw [BitVec.getLsbD_and, BitVec.getLsbD_or, BitVec.getLsbD_or, BitVec.getLsbD_and, BitVec.getLsbD_and]
  generalize BitVec.getLsbD (a >>> (q &&& 31)).toBitVec i = u
  generalize BitVec.getLsbD (b >>> (q &&& 31)).toBitVec i = v
  generalize BitVec.getLsbD (15 : Int32).toBitVec i = w
  cases u <;> cases v <;> cases w <;> rfl
/-- a packed move is good: the man, what it becomes, what is taken -/
def GM (m : Int32) : Prop := Rg 0 11 (fd 12 m) ∧ (Rg 0 11 (fd 16 m) ∨ fd 16 m = 15) ∧ (Rg 0 11 (fd 20 m) ∨ fd 20 m = 15)
theorem small {P : Int32 → Prop} {n : Nat} {x : Int32} (i : Rg 0 n x) (hn : n < 2 ^ 31) (all : ∀ j : Fin (n + 1), P (nI j.val)) : P x := by
  obtain ⟨j, ej, tj, hj⟩ := rg_nI i (Int.le_refl 0)
  have := i.2
  rw [ej]
  exact all ⟨j, by omega⟩
theorem gm_plain {x0 x1 x2 x3 : Int32} (i0 : Rg 0 63 x0) (i1 : Rg 0 63 x1) (i2 : Rg 0 11 x2) (i3 : Rg 0 3 x3) : GM (((((x1 ||| (x0 <<< ((6 : Int32) &&& 31))) ||| (x2 <<< ((12 : Int32) &&& 31))) ||| (983040 : Int32)) ||| (15728640 : Int32)) ||| (x3 <<< ((24 : Int32) &&& 31))) := by
  have a12 : fd 12 x1 = 0 ∧ fd 16 x1 = 0 ∧ fd 20 x1 = 0 := small (P := fun x1 => fd 12 x1 = 0 ∧ fd 16 x1 = 0 ∧ fd 20 x1 = 0) (n := 63) i1 (by decide) (by decide +kernel)
  have b12 : fd 12 (x0 <<< ((6 : Int32) &&& 31)) = 0 ∧ fd 16 (x0 <<< ((6 : Int32) &&& 31)) = 0 ∧ fd 20 (x0 <<< ((6 : Int32) &&& 31)) = 0 := small (P := fun x0 => fd 12 (x0 <<< ((6 : Int32) &&& 31)) = 0 ∧ fd 16 (x0 <<< ((6 : Int32) &&& 31)) = 0 ∧ fd 20 (x0 <<< ((6 : Int32) &&& 31)) = 0) (n := 63) i0 (by decide) (by decide +kernel)
  have c12 : fd 12 (x2 <<< ((12 : Int32) &&& 31)) = x2 ∧ fd 16 (x2 <<< ((12 : Int32) &&& 31)) = 0 ∧ fd 20 (x2 <<< ((12 : Int32) &&& 31)) = 0 := small (P := fun x2 => fd 12 (x2 <<< ((12 : Int32) &&& 31)) = x2 ∧ fd 16 (x2 <<< ((12 : Int32) &&& 31)) = 0 ∧ fd 20 (x2 <<< ((12 : Int32) &&& 31)) = 0) (n := 11) i2 (by decide) (by decide +kernel)
  have d12 : fd 12 (x3 <<< ((24 : Int32) &&& 31)) = 0 ∧ fd 16 (x3 <<< ((24 : Int32) &&& 31)) = 0 ∧ fd 20 (x3 <<< ((24 : Int32) &&& 31)) = 0 := small (P := fun x3 => fd 12 (x3 <<< ((24 : Int32) &&& 31)) = 0 ∧ fd 16 (x3 <<< ((24 : Int32) &&& 31)) = 0 ∧ fd 20 (x3 <<< ((24 : Int32) &&& 31)) = 0) (n := 3) i3 (by decide) (by decide +kernel)
  unfold GM
  simp only [fd_or, a12.1, a12.2.1, a12.2.2, b12.1, b12.2.1, b12.2.2, c12.1, c12.2.1, c12.2.2, d12.1, d12.2.1, d12.2.2]
  have e12 : fd 12 (983040 : Int32) = 0 ∧ fd 12 (15728640 : Int32) = 0 ∧ fd 16 (983040 : Int32) = 15 ∧ fd 16 (15728640 : Int32) = 0 ∧ fd 20 (983040 : Int32) = 0 ∧ fd 20 (15728640 : Int32) = 15 := by decide +kernel
  simp only [e12.1, e12.2.1, e12.2.2.1, e12.2.2.2.1, e12.2.2.2.2.1, e12.2.2.2.2.2]
  have o0 : (0 : Int32) ||| 0 = 0 := by decide
  have ox : (0 : Int32) ||| x2 = x2 := small (P := fun x => (0 : Int32) ||| x = x) (n := 11) i2 (by decide) (by decide +kernel)
  have oy : x2 ||| (0 : Int32) = x2 := small (P := fun x => x ||| (0 : Int32) = x) (n := 11) i2 (by decide) (by decide +kernel)
  rw [o0, ox, oy, oy, oy]
  exact ⟨i2, Or.inr (by decide), Or.inr (by decide)⟩
theorem fd_and (q a b : Int32) : fd q (a &&& b) = fd q a &&& fd q b := by
  unfold fd
  apply Int32.toBitVec_inj.mp
  have d : ((a &&& b) >>> (q &&& 31)).toBitVec = (a >>> (q &&& 31)).toBitVec &&& (b >>> (q &&& 31)).toBitVec := by
    rw [Int32.toBitVec_shiftRight, Int32.toBitVec_shiftRight, Int32.toBitVec_shiftRight, Int32.toBitVec_and]
    exact BitVec.sshiftRight_and_distrib _ _ _
  rw [Int32.toBitVec_and, d, Int32.toBitVec_and, Int32.toBitVec_and, Int32.toBitVec_and]
  apply BitVec.eq_of_getLsbD_eq
  intro i hi
  rw [BitVec.getLsbD_and, BitVec.getLsbD_and, BitVec.getLsbD_and, BitVec.getLsbD_and, BitVec.getLsbD_and]
  generalize BitVec.getLsbD (a >>> (q &&& 31)).toBitVec i = u
  generalize BitVec.getLsbD (b >>> (q &&& 31)).toBitVec i = v
  generalize BitVec.getLsbD (15 : Int32).toBitVec i = w
  cases u <;> cases v <;> cases w <;> rfl
theorem fd_r (q m : Int32) : Rg 0 15 (fd q m) := rg_and (c := 15) (d := 15) (rg_b rfl) (by decide)
theorem fd_15 (q m : Int32) : fd q m &&& 15 = fd q m := small (P := fun x => x &&& 15 = x) (n := 15) (fd_r q m) (by decide) (by decide +kernel)
theorem fd_0 (q m : Int32) : fd q m &&& 0 = 0 := small (P := fun x => x &&& 0 = 0) (n := 15) (fd_r q m) (by decide) (by decide +kernel)
theorem fd_o (q m : Int32) : fd q m ||| 0 = fd q m := small (P := fun x => x ||| 0 = x) (n := 15) (fd_r q m) (by decide) (by decide +kernel)
theorem gm_taken {m y : Int32} (g : GM m) (iy : Rg 0 11 y) : GM ((m &&& (-15728641 : Int32)) ||| (y <<< ((20 : Int32) &&& 31))) := by
  have b : fd 12 (y <<< ((20 : Int32) &&& 31)) = 0 ∧ fd 16 (y <<< ((20 : Int32) &&& 31)) = 0 ∧ fd 20 (y <<< ((20 : Int32) &&& 31)) = y ∧ (0 : Int32) ||| y = y := small (P := fun y => fd 12 (y <<< ((20 : Int32) &&& 31)) = 0 ∧ fd 16 (y <<< ((20 : Int32) &&& 31)) = 0 ∧ fd 20 (y <<< ((20 : Int32) &&& 31)) = y ∧ (0 : Int32) ||| y = y) (n := 11) iy (by decide) (by decide +kernel)
  have e : fd 12 (-15728641 : Int32) = 15 ∧ fd 16 (-15728641 : Int32) = 15 ∧ fd 20 (-15728641 : Int32) = 0 := by decide +kernel
  unfold GM at g ⊢
  simp only [fd_or, fd_and, b.1, b.2.1, b.2.2.1, e.1, e.2.1, e.2.2, fd_15, fd_0, fd_o, b.2.2.2]
  exact ⟨g.1, g.2.1, Or.inl iy⟩
theorem gm_become {m y : Int32} (g : GM m) (iy : Rg 0 11 y) : GM ((m &&& (-983041 : Int32)) ||| (y <<< ((16 : Int32) &&& 31))) := by
  have b : fd 12 (y <<< ((16 : Int32) &&& 31)) = 0 ∧ fd 16 (y <<< ((16 : Int32) &&& 31)) = y ∧ fd 20 (y <<< ((16 : Int32) &&& 31)) = 0 ∧ (0 : Int32) ||| y = y := small (P := fun y => fd 12 (y <<< ((16 : Int32) &&& 31)) = 0 ∧ fd 16 (y <<< ((16 : Int32) &&& 31)) = y ∧ fd 20 (y <<< ((16 : Int32) &&& 31)) = 0 ∧ (0 : Int32) ||| y = y) (n := 11) iy (by decide) (by decide +kernel)
  have e : fd 12 (-983041 : Int32) = 15 ∧ fd 16 (-983041 : Int32) = 0 ∧ fd 20 (-983041 : Int32) = 15 := by decide +kernel
  unfold GM at g ⊢
  simp only [fd_or, fd_and, b.1, b.2.1, b.2.2.1, e.1, e.2.1, e.2.2, fd_15, fd_0, fd_o, b.2.2.2]
  exact ⟨g.1, Or.inl iy, g.2.2⟩
theorem gm_pass {m y : Int32} (g : GM m) (iy : Rg 0 7 y) : GM (m ||| (y <<< ((26 : Int32) &&& 31))) := by
  have b : fd 12 (y <<< ((26 : Int32) &&& 31)) = 0 ∧ fd 16 (y <<< ((26 : Int32) &&& 31)) = 0 ∧ fd 20 (y <<< ((26 : Int32) &&& 31)) = 0 := small (P := fun y => fd 12 (y <<< ((26 : Int32) &&& 31)) = 0 ∧ fd 16 (y <<< ((26 : Int32) &&& 31)) = 0 ∧ fd 20 (y <<< ((26 : Int32) &&& 31)) = 0) (n := 7) iy (by decide) (by decide +kernel)
  unfold GM at g ⊢
  simp only [fd_or, b.1, b.2.1, b.2.2, fd_o]
  exact g
theorem gm_man {m : Int32} (g : GM m) : Rg 0 11 ((m >>> ((12 : Int32) &&& 31)) &&& (15 : Int32)) := g.1
/-- a letter of a man, or none yet -/
def LT (x : Int32) : Prop := x = 0 ∨ Rg 97 122 x
/-- a step is not both over and pass -/
def FL (v : Int32) : Prop := v &&& (8 : Int32) = 0 ∨ v &&& (16 : Int32) = 0
theorem fl_0 : FL (0 : Int32) := Or.inl (by decide)
/-- a square of a board that has been told -/
def SqB (q : Bool) (x : Int32) : Prop := q = true ∨ x.toInt < 57
def SqN (q : Bool) (s : Nat) : Prop := q = true ∨ s < 57
def GMq (q : Bool) (m : Int32) : Prop := GM m ∧ SqB q (m &&& (63 : Int32)) ∧ SqB q ((m >>> ((6 : Int32) &&& 31)) &&& (63 : Int32))
/-- each man of a key is one of the law's codes -/
def KyX (x : Int32) : Prop := ∀ s : Int32, 0 ≤ s.toInt → s.toInt ≤ 4 → ((x >>> (((5 : Int32) * s) &&& 31)) &&& (31 : Int32)).toInt ≤ 24
/-- what elements of some arrays keep to: packed moves, letters of men, words of steps, files of squares, ways -/
def rP (q : Bool) (w k i : Nat) (x : Int32) : Prop := ((k = 47 ∨ k = 48) → GMq q x) ∧ (k = 73 → LT x) ∧ (k = 75 → FL x) ∧ (k = 32 → x.toInt ≤ (i : Int) ∧ (q = true → w = 2102 → i < 64 → (i : Int) ≤ 56 + x.toInt)) ∧ (k = 51 → SqB q (x &&& (63 : Int32))) ∧ (k = 56 → 0 < x.toInt → SqN q (i / 8)) ∧ (k = 20 → KyX x)
def spc (k : Nat) : Bool := (k == 47 || k == 48) || k == 73 || k == 75 || k == 32 || k == 51 || k == 56 || k == 20
theorem rp0 {q : Bool} {w k i : Nat} {x : Int32} (h : spc k = false) : rP q w k i x := by
  unfold spc at h
  rw [Bool.or_eq_false_iff, Bool.or_eq_false_iff, Bool.or_eq_false_iff, Bool.or_eq_false_iff, Bool.or_eq_false_iff, Bool.or_eq_false_iff, Bool.or_eq_false_iff, beq_eq_false_iff_ne, beq_eq_false_iff_ne, beq_eq_false_iff_ne, beq_eq_false_iff_ne, beq_eq_false_iff_ne, beq_eq_false_iff_ne, beq_eq_false_iff_ne, beq_eq_false_iff_ne] at h
  exact ⟨fun q => q.elim (fun q => absurd q h.1.1.1.1.1.1.1) (fun q => absurd q h.1.1.1.1.1.1.2), fun q => absurd q h.1.1.1.1.1.2, fun q => absurd q h.1.1.1.1.2, fun q => absurd q h.1.1.1.2, fun q => absurd q h.1.1.2, fun q => absurd q h.1.2, fun q => absurd q h.2⟩
theorem rpL {q : Bool} {w i : Nat} {x : Int32} (h : LT x) : rP q w 73 i x := ⟨fun q => absurd q (by decide), fun _ => h, fun q => absurd q (by decide), fun q => absurd q (by decide), fun q => absurd q (by decide), fun q => absurd q (by decide), fun q => absurd q (by decide)⟩
theorem rpG {q : Bool} {w i : Nat} {x : Int32} (h : GMq q x) : rP q w 47 i x := ⟨fun _ => h, fun q => absurd q (by decide), fun q => absurd q (by decide), fun q => absurd q (by decide), fun q => absurd q (by decide), fun q => absurd q (by decide), fun q => absurd q (by decide)⟩
theorem rpG8 {q : Bool} {w i : Nat} {x : Int32} (h : GMq q x) : rP q w 48 i x := ⟨fun _ => h, fun q => absurd q (by decide), fun q => absurd q (by decide), fun q => absurd q (by decide), fun q => absurd q (by decide), fun q => absurd q (by decide), fun q => absurd q (by decide)⟩
theorem rp48 {q : Bool} {w w' i j : Nat} {x : Int32} (h : rP q w 48 i x) : rP q w' 48 j x := rpG8 (h.1 (Or.inr rfl))
theorem rpF {q : Bool} {w i : Nat} {x : Int32} (h : FL x) : rP q w 75 i x := ⟨fun q => absurd q (by decide), fun q => absurd q (by decide), fun _ => h, fun q => absurd q (by decide), fun q => absurd q (by decide), fun q => absurd q (by decide), fun q => absurd q (by decide)⟩
theorem rpD {q : Bool} {w i : Nat} {x : Int32} (h : x.toInt ≤ (i : Int) ∧ (q = true → w = 2102 → i < 64 → (i : Int) ≤ 56 + x.toInt)) : rP q w 32 i x := ⟨fun q => absurd q (by decide), fun q => absurd q (by decide), fun q => absurd q (by decide), fun _ => h, fun q => absurd q (by decide), fun q => absurd q (by decide), fun q => absurd q (by decide)⟩
theorem rpW {q : Bool} {w i : Nat} {x : Int32} (h : SqB q (x &&& (63 : Int32))) : rP q w 51 i x := ⟨fun q => absurd q (by decide), fun q => absurd q (by decide), fun q => absurd q (by decide), fun q => absurd q (by decide), fun _ => h, fun q => absurd q (by decide), fun q => absurd q (by decide)⟩
theorem sq_n {q : Bool} {x : Int32} {s : Nat} (h : SqN q s) (e : x.toInt = (s : Int)) : SqB q x := h.imp id (fun z => by omega)
theorem sq_b {q : Bool} {x : Int32} (h : SqB q x) (h0 : 0 ≤ x.toInt) : SqN q x.toNatClampNeg := h.imp id (fun z => by
  have : x.toNatClampNeg = x.toInt.toNat := rfl
  omega)
-- the low bits of a packed move
theorem lo_or (a b c : Int32) : (a ||| b) &&& c = (a &&& c) ||| (b &&& c) := by
  apply Int32.toBitVec_inj.mp
  rw [Int32.toBitVec_and, Int32.toBitVec_or, Int32.toBitVec_or, Int32.toBitVec_and, Int32.toBitVec_and]
  apply BitVec.eq_of_getLsbD_eq
  intro i hi
  rw [BitVec.getLsbD_and, BitVec.getLsbD_or, BitVec.getLsbD_or, BitVec.getLsbD_and, BitVec.getLsbD_and]
  generalize BitVec.getLsbD a.toBitVec i = u
  generalize BitVec.getLsbD b.toBitVec i = v
  generalize BitVec.getLsbD c.toBitVec i = w
  cases u <;> cases v <;> cases w <;> rfl
theorem lo_as (a b c : Int32) : (a &&& b) &&& c = a &&& (b &&& c) := by
  apply Int32.toBitVec_inj.mp
  rw [Int32.toBitVec_and, Int32.toBitVec_and, Int32.toBitVec_and, Int32.toBitVec_and]
  exact BitVec.and_assoc _ _ _
theorem sh_or (q a b : Int32) : (a ||| b) >>> q = (a >>> q) ||| (b >>> q) := by
  apply Int32.toBitVec_inj.mp
  rw [Int32.toBitVec_shiftRight, Int32.toBitVec_or, Int32.toBitVec_or, Int32.toBitVec_shiftRight, Int32.toBitVec_shiftRight]
  exact BitVec.sshiftRight_or_distrib _ _ _
theorem sh_and (q a b : Int32) : (a &&& b) >>> q = (a >>> q) &&& (b >>> q) := by
  apply Int32.toBitVec_inj.mp
  rw [Int32.toBitVec_shiftRight, Int32.toBitVec_and, Int32.toBitVec_and, Int32.toBitVec_shiftRight, Int32.toBitVec_shiftRight]
  exact BitVec.sshiftRight_and_distrib _ _ _
theorem or_0 (a : Int32) : a ||| 0 = a := by
  apply Int32.toBitVec_inj.mp
  rw [Int32.toBitVec_or]
  exact BitVec.or_zero
theorem or_l (a : Int32) : (0 : Int32) ||| a = a := by
  apply Int32.toBitVec_inj.mp
  rw [Int32.toBitVec_or]
  exact BitVec.zero_or
theorem gq_plain {q : Bool} {x0 x1 x2 x3 : Int32} (i0 : Rg 0 63 x0) (i1 : Rg 0 63 x1) (i2 : Rg 0 11 x2) (i3 : Rg 0 3 x3) (s0 : SqB q x0) (s1 : SqB q x1) : GMq q (((((x1 ||| (x0 <<< ((6 : Int32) &&& 31))) ||| (x2 <<< ((12 : Int32) &&& 31))) ||| (983040 : Int32)) ||| (15728640 : Int32)) ||| (x3 <<< ((24 : Int32) &&& 31))) := by
  refine ⟨gm_plain i0 i1 i2 i3, ?_, ?_⟩
  · have a : x1 &&& (63 : Int32) = x1 := small (P := fun x => x &&& (63 : Int32) = x) (n := 63) i1 (by decide) (by decide +kernel)
    have b : (x0 <<< ((6 : Int32) &&& 31)) &&& (63 : Int32) = 0 := small (P := fun x => (x <<< ((6 : Int32) &&& 31)) &&& (63 : Int32) = 0) (n := 63) i0 (by decide) (by decide +kernel)
    have c : (x2 <<< ((12 : Int32) &&& 31)) &&& (63 : Int32) = 0 := small (P := fun x => (x <<< ((12 : Int32) &&& 31)) &&& (63 : Int32) = 0) (n := 11) i2 (by decide) (by decide +kernel)
    have d : (x3 <<< ((24 : Int32) &&& 31)) &&& (63 : Int32) = 0 := small (P := fun x => (x <<< ((24 : Int32) &&& 31)) &&& (63 : Int32) = 0) (n := 3) i3 (by decide) (by decide +kernel)
    have e : (983040 : Int32) &&& (63 : Int32) = 0 := by decide
    have f : (15728640 : Int32) &&& (63 : Int32) = 0 := by decide
    rw [lo_or, lo_or, lo_or, lo_or, lo_or, a, b, c, d, e, f, or_0, or_0, or_0, or_0, or_0]
    exact s1
  · have a : (x1 >>> ((6 : Int32) &&& 31)) &&& (63 : Int32) = 0 := small (P := fun x => (x >>> ((6 : Int32) &&& 31)) &&& (63 : Int32) = 0) (n := 63) i1 (by decide) (by decide +kernel)
    have b : ((x0 <<< ((6 : Int32) &&& 31)) >>> ((6 : Int32) &&& 31)) &&& (63 : Int32) = x0 := small (P := fun x => ((x <<< ((6 : Int32) &&& 31)) >>> ((6 : Int32) &&& 31)) &&& (63 : Int32) = x) (n := 63) i0 (by decide) (by decide +kernel)
    have c : ((x2 <<< ((12 : Int32) &&& 31)) >>> ((6 : Int32) &&& 31)) &&& (63 : Int32) = 0 := small (P := fun x => ((x <<< ((12 : Int32) &&& 31)) >>> ((6 : Int32) &&& 31)) &&& (63 : Int32) = 0) (n := 11) i2 (by decide) (by decide +kernel)
    have d : ((x3 <<< ((24 : Int32) &&& 31)) >>> ((6 : Int32) &&& 31)) &&& (63 : Int32) = 0 := small (P := fun x => ((x <<< ((24 : Int32) &&& 31)) >>> ((6 : Int32) &&& 31)) &&& (63 : Int32) = 0) (n := 3) i3 (by decide) (by decide +kernel)
    have e : ((983040 : Int32) >>> ((6 : Int32) &&& 31)) &&& (63 : Int32) = 0 := by decide
    have f : ((15728640 : Int32) >>> ((6 : Int32) &&& 31)) &&& (63 : Int32) = 0 := by decide
    rw [sh_or, sh_or, sh_or, sh_or, sh_or, lo_or, lo_or, lo_or, lo_or, lo_or, a, b, c, d, e, f, or_l, or_0, or_0, or_0, or_0]
    exact s0
theorem gq_keep {q : Bool} {m m' A y : Int32} (g : GMq q m) (gm : GM m') (e : m' = (m &&& A) ||| y) (a1 : A &&& (63 : Int32) = 63) (a2 : (A >>> ((6 : Int32) &&& 31)) &&& (63 : Int32) = 63) (y1 : y &&& (63 : Int32) = 0) (y2 : (y >>> ((6 : Int32) &&& 31)) &&& (63 : Int32) = 0) : GMq q m' := by
  refine ⟨gm, ?_, ?_⟩
  · rw [e, lo_or, lo_as, a1, y1, or_0]; exact g.2.1
  · rw [e, sh_or, sh_and, lo_or, lo_as, a2, y2, or_0]; exact g.2.2
theorem gq_taken {q : Bool} {m y : Int32} (g : GMq q m) (iy : Rg 0 11 y) : GMq q ((m &&& (-15728641 : Int32)) ||| (y <<< ((20 : Int32) &&& 31))) :=
  gq_keep g (gm_taken g.1 iy) rfl (by decide) (by decide) (small (P := fun x => (x <<< ((20 : Int32) &&& 31)) &&& (63 : Int32) = 0) (n := 11) iy (by decide) (by decide +kernel)) (small (P := fun x => ((x <<< ((20 : Int32) &&& 31)) >>> ((6 : Int32) &&& 31)) &&& (63 : Int32) = 0) (n := 11) iy (by decide) (by decide +kernel))
theorem gq_become {q : Bool} {m y : Int32} (g : GMq q m) (iy : Rg 0 11 y) : GMq q ((m &&& (-983041 : Int32)) ||| (y <<< ((16 : Int32) &&& 31))) :=
  gq_keep g (gm_become g.1 iy) rfl (by decide) (by decide) (small (P := fun x => (x <<< ((16 : Int32) &&& 31)) &&& (63 : Int32) = 0) (n := 11) iy (by decide) (by decide +kernel)) (small (P := fun x => ((x <<< ((16 : Int32) &&& 31)) >>> ((6 : Int32) &&& 31)) &&& (63 : Int32) = 0) (n := 11) iy (by decide) (by decide +kernel))
theorem and_m1 (m : Int32) : m &&& (-1 : Int32) = m := by
  apply Int32.toBitVec_inj.mp
  rw [Int32.toBitVec_and]
  exact BitVec.and_allOnes
theorem gq_pass {q : Bool} {m y : Int32} (g : GMq q m) (iy : Rg 0 7 y) : GMq q (m ||| (y <<< ((26 : Int32) &&& 31))) :=
  gq_keep g (gm_pass g.1 iy) (by rw [and_m1]) (by decide) (by decide) (small (P := fun x => (x <<< ((26 : Int32) &&& 31)) &&& (63 : Int32) = 0) (n := 7) iy (by decide) (by decide +kernel)) (small (P := fun x => ((x <<< ((26 : Int32) &&& 31)) >>> ((6 : Int32) &&& 31)) &&& (63 : Int32) = 0) (n := 7) iy (by decide) (by decide +kernel))
theorem gq_0 {q : Bool} (g : GM 0) : GMq q (0 : Int32) := ⟨g, Or.inr (by decide), Or.inr (by decide)⟩
theorem gq_man {q : Bool} {m : Int32} (g : GMq q m) : Rg 0 11 ((m >>> ((12 : Int32) &&& 31)) &&& (15 : Int32)) := g.1.1
theorem rg57 {lo : Int} {x : Int32} (i : Rg lo 56 x) : x.toInt < 57 := by have := i.2; omega
theorem rpD2 {q : Bool} {w : Nat} {x v : Int32} (i : Rg 0 63 v) (h : x.toInt ≤ v.toInt ∧ v.toInt ≤ 56 + x.toInt) : rP q w 32 v.toNatClampNeg x := by
  have e : (v.toNatClampNeg : Int) = v.toInt := by
    have : v.toNatClampNeg = v.toInt.toNat := rfl
    have := i.1
    omega
  exact rpD (by rw [e]; exact ⟨h.1, fun _ _ _ => h.2⟩)
theorem sq_way {q : Bool} {t f k : Int32} (i0 : Rg 0 63 t) (i1 : Rg 0 63 f) (i2 : Rg 0 7 k) (s : SqB q t) : SqB q (((t ||| (f <<< ((6 : Int32) &&& 31))) ||| (k <<< ((12 : Int32) &&& 31))) &&& (63 : Int32)) := by
  have a : t &&& (63 : Int32) = t := small (P := fun x => x &&& (63 : Int32) = x) (n := 63) i0 (by decide) (by decide +kernel)
  have b : (f <<< ((6 : Int32) &&& 31)) &&& (63 : Int32) = 0 := small (P := fun x => (x <<< ((6 : Int32) &&& 31)) &&& (63 : Int32) = 0) (n := 63) i1 (by decide) (by decide +kernel)
  have c : (k <<< ((12 : Int32) &&& 31)) &&& (63 : Int32) = 0 := small (P := fun x => (x <<< ((12 : Int32) &&& 31)) &&& (63 : Int32) = 0) (n := 7) i2 (by decide) (by decide +kernel)
  rw [lo_or, lo_or, a, b, c, or_0, or_0]
  exact s
theorem clamp_i {v : Int32} (h : 0 ≤ v.toInt) : (v.toNatClampNeg : Int) = v.toInt := by
  have : v.toNatClampNeg = v.toInt.toNat := rfl
  omega
theorem rpT0 {q : Bool} {w i : Nat} : rP q w 56 i (0 : Int32) := ⟨fun q => absurd q (by decide), fun q => absurd q (by decide), fun q => absurd q (by decide), fun q => absurd q (by decide), fun q => absurd q (by decide), fun _ z => absurd z (by decide), fun q => absurd q (by decide)⟩
theorem rpK {q : Bool} {w i : Nat} {x : Int32} (h : KyX x) : rP q w 20 i x := ⟨fun q => absurd q (by decide), fun q => absurd q (by decide), fun q => absurd q (by decide), fun q => absurd q (by decide), fun q => absurd q (by decide), fun q => absurd q (by decide), fun _ => h⟩
