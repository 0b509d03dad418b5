theorem rg_divw {a b c d hi : Int} {x y : Int32} (hx : Rg a b x) (hy : Rg c d y) (e : 0 ≤ a ∧ 1 ≤ c ∧ b / c ≤ hi) : Rg 0 hi (x / y) := by
  obtain ⟨e1, e2, e3⟩ := e
  have h1 := hx.1
  have h2 := hx.2
  have h3 := hy.1
  unfold Rg
  rw [Int32.toInt_div_of_ne_right x y (rg_ne1 hy e2), Int.tdiv_eq_ediv_of_nonneg (by omega)]
  have q0 : 0 ≤ x.toInt / y.toInt := Int.ediv_nonneg (by omega) (by omega)
  refine ⟨q0, Int.le_trans (Int.le_ediv_of_mul_le (by omega) ?_) e3⟩
  have p1 : x.toInt / y.toInt * c ≤ x.toInt / y.toInt * y.toInt := Int.mul_le_mul_of_nonneg_left h3 q0
  have p2 : x.toInt / y.toInt * y.toInt ≤ x.toInt := Int.ediv_mul_le _ (by omega)
  omega
theorem lB_len (i : Nat) : (lB i).length ≤ 231 := by
  have ha : ∀ y ∈ lits, y.2.2.2.length ≤ 231 := by decide +kernel
  show ((lits.getD i ("", 0, "", [])).2.2.2).length ≤ 231
  rw [List.getD_eq_getElem?_getD]
  cases q : lits[i]? with
  | none => exact Nat.zero_le _
  | some z => exact ha z (List.mem_of_getElem? q)
theorem rg_lB (i : Nat) : Rg 0 231 (nI (lB i).length) := by
  have := lB_len i
  unfold Rg
  rw [z_toInt (by omega)]
  omega
theorem lB_lt2 (i : Nat) : (lB i).length < 2 ^ 31 := by have := lB_len i; omega
theorem rg_schr (i : Nat) (k : Int32) : Rg 0 255 (schr i k) := by
  have h : Rg 0 255 (((lB i).getD k.toNatClampNeg 0) &&& 255) := rg_and (c := 255) (d := 255) (rg_b rfl) (by decide)
  obtain ⟨j, ej, tj, hj⟩ := rg_nI h (Int.le_refl 0)
  have b := h.2
  have all : ∀ m : Fin 256, rgb 0 255 (((nI m.val).toUInt32 % 65536).toInt32) = true := by decide +kernel
  unfold schr
  rw [ej]
  exact rg_b (all ⟨j, by omega⟩)
theorem g_len {a b c d : Int} {x y : Int32} {h : Hp} {r n : Nat} (hx : Rg a b x) (hy : Rg c d y) (hn : hN h r = n) (e : 0 ≤ a ∧ 0 ≤ c ∧ b + d ≤ (n : Int)) : x.toNatClampNeg + y.toNatClampNeg ≤ hN h r := by
  obtain ⟨j, ej, tj, hj⟩ := rg_nI hx e.1
  obtain ⟨k, ek, tk, hk⟩ := rg_nI hy e.2.1
  have x2 := hx.2
  have y2 := hy.2
  have := e.2.2
  rw [hn, ej, ek, z_clamp hj, z_clamp hk]
  omega
section
variable {h h2 : Hp} {a i b j : Nat}
theorem he_e (e : h2 = h) : hI h2 a i = hI h a i := by rw [e]
theorem he_w {v : Int32} (e : h2 = wI h b j v) (n : ¬ (a = b ∧ i = j)) : hI h2 a i = hI h a i := by rw [e, r_I, if_neg n]
theorem he_j {v : Int64} (e : h2 = wJ h b j v) : hI h2 a i = hI h a i := by rw [e]; rfl
theorem he_s {v : Int32} (e : h2 = wI h a i v) : hI h2 a i = v := by rw [e, r_I, if_pos ⟨rfl, rfl⟩]
theorem hr_c {a0 sp dp n x y r : Nat} (e : h2 = cpI h a0 sp b dp n) (f : hR h x y = some r) : hR h2 x y = some r := by rw [e]; exact f
theorem rg_hc {a0 sp dp n : Nat} {lo hi : Int} (e : h2 = cpI h a0 sp b dp n) (q : a ≠ b) (f : Rg lo hi (hI h a i)) : Rg lo hi (hI h2 a i) := by
  rw [e, cp_at, if_neg (fun w => q w.1)]; exact f
end
theorem rz_s {a : Int} {x y : Int32} (h : Rg a a x) (g : Rg a a y) : x = y := by
  rw [← Int32.toInt_inj]
  have := h.1; have := h.2; have := g.1; have := g.2
  omega
