def fd (q x : Int32) : Int32 := (x >>> (q &&& 31)) &&& (15 : Int32)
theorem fd_or (q a b : Int32) : fd q (a ||| b) = fd q a ||| fd q b := by
  unfold fd
  apply Int32.toBitVec_inj.mp
  have d : ((a ||| b) >>> (q &&& 31)).toBitVec = (a >>> (q &&& 31)).toBitVec ||| (b >>> (q &&& 31)).toBitVec := by
    rw [Int32.toBitVec_shiftRight, Int32.toBitVec_shiftRight, Int32.toBitVec_shiftRight, Int32.toBitVec_or]
    exact BitVec.sshiftRight_or_distrib _ _ _
  rw [Int32.toBitVec_and, d, Int32.toBitVec_or, Int32.toBitVec_and, Int32.toBitVec_and]
  apply BitVec.eq_of_getLsbD_eq
  intro i hi
  rw [BitVec.getLsbD_and, BitVec.getLsbD_or, BitVec.getLsbD_or, BitVec.getLsbD_and, BitVec.getLsbD_and]
  generalize BitVec.getLsbD (a >>> (q &&& 31)).toBitVec i = u
  generalize BitVec.getLsbD (b >>> (q &&& 31)).toBitVec i = v
  generalize BitVec.getLsbD (15 : Int32).toBitVec i = w
  cases u <;> cases v <;> cases w <;> rfl
/-- a packed move is good: the man, what it becomes, what is taken -/
def GM (m : Int32) : Prop := Rg 0 11 (fd 12 m) ∧ (Rg 0 11 (fd 16 m) ∨ fd 16 m = 15) ∧ (Rg 0 11 (fd 20 m) ∨ fd 20 m = 15)
theorem small {P : Int32 → Prop} {n : Nat} {x : Int32} (i : Rg 0 n x) (hn : n < 2 ^ 31) (all : ∀ j : Fin (n + 1), P (nI j.val)) : P x := by
  obtain ⟨j, ej, tj, hj⟩ := rg_nI i (Int.le_refl 0)
  have := i.2
  rw [ej]
  exact all ⟨j, by omega⟩
theorem gm_plain {x0 x1 x2 x3 : Int32} (i0 : Rg 0 63 x0) (i1 : Rg 0 63 x1) (i2 : Rg 0 11 x2) (i3 : Rg 0 3 x3) : GM (((((x1 ||| (x0 <<< ((6 : Int32) &&& 31))) ||| (x2 <<< ((12 : Int32) &&& 31))) ||| (983040 : Int32)) ||| (15728640 : Int32)) ||| (x3 <<< ((24 : Int32) &&& 31))) := by
  have a12 : fd 12 x1 = 0 ∧ fd 16 x1 = 0 ∧ fd 20 x1 = 0 := small (P := fun x1 => fd 12 x1 = 0 ∧ fd 16 x1 = 0 ∧ fd 20 x1 = 0) (n := 63) i1 (by decide) (by decide +kernel)
  have b12 : fd 12 (x0 <<< ((6 : Int32) &&& 31)) = 0 ∧ fd 16 (x0 <<< ((6 : Int32) &&& 31)) = 0 ∧ fd 20 (x0 <<< ((6 : Int32) &&& 31)) = 0 := small (P := fun x0 => fd 12 (x0 <<< ((6 : Int32) &&& 31)) = 0 ∧ fd 16 (x0 <<< ((6 : Int32) &&& 31)) = 0 ∧ fd 20 (x0 <<< ((6 : Int32) &&& 31)) = 0) (n := 63) i0 (by decide) (by decide +kernel)
  have c12 : fd 12 (x2 <<< ((12 : Int32) &&& 31)) = x2 ∧ fd 16 (x2 <<< ((12 : Int32) &&& 31)) = 0 ∧ fd 20 (x2 <<< ((12 : Int32) &&& 31)) = 0 := small (P := fun x2 => fd 12 (x2 <<< ((12 : Int32) &&& 31)) = x2 ∧ fd 16 (x2 <<< ((12 : Int32) &&& 31)) = 0 ∧ fd 20 (x2 <<< ((12 : Int32) &&& 31)) = 0) (n := 11) i2 (by decide) (by decide +kernel)
  have d12 : fd 12 (x3 <<< ((24 : Int32) &&& 31)) = 0 ∧ fd 16 (x3 <<< ((24 : Int32) &&& 31)) = 0 ∧ fd 20 (x3 <<< ((24 : Int32) &&& 31)) = 0 := small (P := fun x3 => fd 12 (x3 <<< ((24 : Int32) &&& 31)) = 0 ∧ fd 16 (x3 <<< ((24 : Int32) &&& 31)) = 0 ∧ fd 20 (x3 <<< ((24 : Int32) &&& 31)) = 0) (n := 3) i3 (by decide) (by decide +kernel)
  unfold GM
  simp only [fd_or, a12.1, a12.2.1, a12.2.2, b12.1, b12.2.1, b12.2.2, c12.1, c12.2.1, c12.2.2, d12.1, d12.2.1, d12.2.2]
  have e12 : fd 12 (983040 : Int32) = 0 ∧ fd 12 (15728640 : Int32) = 0 ∧ fd 16 (983040 : Int32) = 15 ∧ fd 16 (15728640 : Int32) = 0 ∧ fd 20 (983040 : Int32) = 0 ∧ fd 20 (15728640 : Int32) = 15 := by decide +kernel
  simp only [e12.1, e12.2.1, e12.2.2.1, e12.2.2.2.1, e12.2.2.2.2.1, e12.2.2.2.2.2]
  have o0 : (0 : Int32) ||| 0 = 0 := by decide
  have ox : (0 : Int32) ||| x2 = x2 := small (P := fun x => (0 : Int32) ||| x = x) (n := 11) i2 (by decide) (by decide +kernel)
  have oy : x2 ||| (0 : Int32) = x2 := small (P := fun x => x ||| (0 : Int32) = x) (n := 11) i2 (by decide) (by decide +kernel)
  rw [o0, ox, oy, oy, oy]
  exact ⟨i2, Or.inr (by decide), Or.inr (by decide)⟩
theorem fd_and (q a b : Int32) : fd q (a &&& b) = fd q a &&& fd q b := by
  unfold fd
  apply Int32.toBitVec_inj.mp
  have d : ((a &&& b) >>> (q &&& 31)).toBitVec = (a >>> (q &&& 31)).toBitVec &&& (b >>> (q &&& 31)).toBitVec := by
    rw [Int32.toBitVec_shiftRight, Int32.toBitVec_shiftRight, Int32.toBitVec_shiftRight, Int32.toBitVec_and]
    exact BitVec.sshiftRight_and_distrib _ _ _
  rw [Int32.toBitVec_and, d, Int32.toBitVec_and, Int32.toBitVec_and, Int32.toBitVec_and]
  apply BitVec.eq_of_getLsbD_eq
  intro i hi
  rw [BitVec.getLsbD_and, BitVec.getLsbD_and, BitVec.getLsbD_and, BitVec.getLsbD_and, BitVec.getLsbD_and]
  generalize BitVec.getLsbD (a >>> (q &&& 31)).toBitVec i = u
  generalize BitVec.getLsbD (b >>> (q &&& 31)).toBitVec i = v
  generalize BitVec.getLsbD (15 : Int32).toBitVec i = w
  cases u <;> cases v <;> cases w <;> rfl
theorem fd_r (q m : Int32) : Rg 0 15 (fd q m) := rg_and (c := 15) (d := 15) (rg_b rfl) (by decide)
theorem fd_15 (q m : Int32) : fd q m &&& 15 = fd q m := small (P := fun x => x &&& 15 = x) (n := 15) (fd_r q m) (by decide) (by decide +kernel)
theorem fd_0 (q m : Int32) : fd q m &&& 0 = 0 := small (P := fun x => x &&& 0 = 0) (n := 15) (fd_r q m) (by decide) (by decide +kernel)
theorem fd_o (q m : Int32) : fd q m ||| 0 = fd q m := small (P := fun x => x ||| 0 = x) (n := 15) (fd_r q m) (by decide) (by decide +kernel)
theorem gm_taken {m y : Int32} (g : GM m) (iy : Rg 0 11 y) : GM ((m &&& (-15728641 : Int32)) ||| (y <<< ((20 : Int32) &&& 31))) := by
  have b : fd 12 (y <<< ((20 : Int32) &&& 31)) = 0 ∧ fd 16 (y <<< ((20 : Int32) &&& 31)) = 0 ∧ fd 20 (y <<< ((20 : Int32) &&& 31)) = y ∧ (0 : Int32) ||| y = y := small (P := fun y => fd 12 (y <<< ((20 : Int32) &&& 31)) = 0 ∧ fd 16 (y <<< ((20 : Int32) &&& 31)) = 0 ∧ fd 20 (y <<< ((20 : Int32) &&& 31)) = y ∧ (0 : Int32) ||| y = y) (n := 11) iy (by decide) (by decide +kernel)
  have e : fd 12 (-15728641 : Int32) = 15 ∧ fd 16 (-15728641 : Int32) = 15 ∧ fd 20 (-15728641 : Int32) = 0 := by decide +kernel
  unfold GM at g ⊢
  simp only [fd_or, fd_and, b.1, b.2.1, b.2.2.1, e.1, e.2.1, e.2.2, fd_15, fd_0, fd_o, b.2.2.2]
  exact ⟨g.1, g.2.1, Or.inl iy⟩
theorem gm_become {m y : Int32} (g : GM m) (iy : Rg 0 11 y) : GM ((m &&& (-983041 : Int32)) ||| (y <<< ((16 : Int32) &&& 31))) := by
  have b : fd 12 (y <<< ((16 : Int32) &&& 31)) = 0 ∧ fd 16 (y <<< ((16 : Int32) &&& 31)) = y ∧ fd 20 (y <<< ((16 : Int32) &&& 31)) = 0 ∧ (0 : Int32) ||| y = y := small (P := fun y => fd 12 (y <<< ((16 : Int32) &&& 31)) = 0 ∧ fd 16 (y <<< ((16 : Int32) &&& 31)) = y ∧ fd 20 (y <<< ((16 : Int32) &&& 31)) = 0 ∧ (0 : Int32) ||| y = y) (n := 11) iy (by decide) (by decide +kernel)
  have e : fd 12 (-983041 : Int32) = 15 ∧ fd 16 (-983041 : Int32) = 0 ∧ fd 20 (-983041 : Int32) = 15 := by decide +kernel
  unfold GM at g ⊢
  simp only [fd_or, fd_and, b.1, b.2.1, b.2.2.1, e.1, e.2.1, e.2.2, fd_15, fd_0, fd_o, b.2.2.2]
  exact ⟨g.1, Or.inl iy, g.2.2⟩
theorem gm_pass {m y : Int32} (g : GM m) (iy : Rg 0 7 y) : GM (m ||| (y <<< ((26 : Int32) &&& 31))) := by
  have b : fd 12 (y <<< ((26 : Int32) &&& 31)) = 0 ∧ fd 16 (y <<< ((26 : Int32) &&& 31)) = 0 ∧ fd 20 (y <<< ((26 : Int32) &&& 31)) = 0 := small (P := fun y => fd 12 (y <<< ((26 : Int32) &&& 31)) = 0 ∧ fd 16 (y <<< ((26 : Int32) &&& 31)) = 0 ∧ fd 20 (y <<< ((26 : Int32) &&& 31)) = 0) (n := 7) iy (by decide) (by decide +kernel)
  unfold GM at g ⊢
  simp only [fd_or, b.1, b.2.1, b.2.2, fd_o]
  exact g
theorem gm_man {m : Int32} (g : GM m) : Rg 0 11 ((m >>> ((12 : Int32) &&& 31)) &&& (15 : Int32)) := g.1
/-- a letter of a man, or none yet -/
def LT (x : Int32) : Prop := x = 0 ∨ Rg 97 122 x
/-- a step is not both over and pass -/
def FL (v : Int32) : Prop := v &&& (8 : Int32) = 0 ∨ v &&& (16 : Int32) = 0
theorem fl_0 : FL (0 : Int32) := Or.inl (by decide)
/-- what elements of some arrays keep to: packed moves, letters of men, words of steps -/
def rP (k : Nat) (x : Int32) : Prop := (k = 47 → GM x) ∧ (k = 73 → LT x) ∧ (k = 75 → FL x)
def spc (k : Nat) : Bool := k == 47 || k == 73 || k == 75
theorem rp0 {k : Nat} {x : Int32} (h : spc k = false) : rP k x := by
  unfold spc at h
  rw [Bool.or_eq_false_iff, Bool.or_eq_false_iff, beq_eq_false_iff_ne, beq_eq_false_iff_ne, beq_eq_false_iff_ne] at h
  exact ⟨fun q => absurd q h.1.1, fun q => absurd q h.1.2, fun q => absurd q h.2⟩
theorem rpL {x : Int32} (h : LT x) : rP 73 x := ⟨fun q => absurd q (by decide), fun _ => h, fun q => absurd q (by decide)⟩
theorem rpG {x : Int32} (h : GM x) : rP 47 x := ⟨fun _ => h, fun q => absurd q (by decide), fun q => absurd q (by decide)⟩
theorem rpF {x : Int32} (h : FL x) : rP 75 x := ⟨fun q => absurd q (by decide), fun q => absurd q (by decide), fun _ => h⟩
