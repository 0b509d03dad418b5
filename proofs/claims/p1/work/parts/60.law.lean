section
variable {v : Hp} {x m n : Nat} {q r : Qs}
theorem g6 {β : Type} (k : Int32) (z : Option β) (h : inB k 6) : gd (inB k 6) z = z := gd_pos h
abbrev Kc (x m : Nat) (K : Hp → Nat → Nat → Int32 → Option (Int32 × Hp)) (Q : Int32 × Hp → Prop) (v : Hp) : Prop := ∀ h, h.1.1 ≤ v.1.1 + 1 → h.1.2 ≤ v.1.2 + 8 → Sat (K h x m (0 + 6)) Q
theorem st_feed {xs : Nat → Int32} {K : Hp → Nat → Nat → Int32 → Option (Int32 × Hp)} {Q : Int32 × Hp → Prop} (C : CF v x q) (M : MF v m r) (hm : x + 513 ≤ m) (hK : Kc x m K Q v) : Sat (gd (inB ((0 : Int32) + (1 : Int32)) 6) <| gd (inB ((0 : Int32) + (2 : Int32)) 6) <| gd (inB ((0 : Int32) + (3 : Int32)) 6) <| gd (inB ((0 : Int32) + (4 : Int32)) 6) <| gd (inB ((0 : Int32) + (5 : Int32)) 6) <| cl (sX11_feed v x (xs ((0 : Int32) + (1 : Int32)).toNatClampNeg) (xs ((0 : Int32) + (2 : Int32)).toNatClampNeg) (xs ((0 : Int32) + (3 : Int32)).toNatClampNeg) (xs ((0 : Int32) + (4 : Int32)).toNatClampNeg) (xs ((0 : Int32) + (5 : Int32)).toNatClampNeg)) fun o => sL_law_225 3000 6 xs K o.2 x m 0 o.1) Q := by
  rw [g6 ((0 : Int32) + (1 : Int32)) _ (by decide)]
  rw [g6 ((0 : Int32) + (2 : Int32)) _ (by decide)]
  rw [g6 ((0 : Int32) + (3 : Int32)) _ (by decide)]
  rw [g6 ((0 : Int32) + (4 : Int32)) _ (by decide)]
  rw [g6 ((0 : Int32) + (5 : Int32)) _ (by decide)]
  obtain ⟨o1, e1, a1, f1⟩ := k_feed C hm (xs ((0 : Int32) + (1 : Int32)).toNatClampNeg) (xs ((0 : Int32) + (2 : Int32)).toNatClampNeg) (xs ((0 : Int32) + (3 : Int32)).toNatClampNeg) (xs ((0 : Int32) + (4 : Int32)).toNatClampNeg) (xs ((0 : Int32) + (5 : Int32)).toNatClampNeg)
  rw [e1, cl_some]
  unfold sL_law_225
  rw [g6 ((0 : Int32) + (1 : Int32)) _ (by decide)]
  rw [g6 ((0 : Int32) + (2 : Int32)) _ (by decide)]
  rw [g6 ((0 : Int32) + (3 : Int32)) _ (by decide)]
  rw [g6 ((0 : Int32) + (4 : Int32)) _ (by decide)]
  rw [g6 ((0 : Int32) + (5 : Int32)) _ (by decide)]
  obtain ⟨o2, e2, a2, f2⟩ := r_feed (M.fl f1) (F := 3000) (by omega) (xs ((0 : Int32) + (1 : Int32)).toNatClampNeg) (xs ((0 : Int32) + (2 : Int32)).toNatClampNeg) (xs ((0 : Int32) + (3 : Int32)).toNatClampNeg) (xs ((0 : Int32) + (4 : Int32)).toNatClampNeg) (xs ((0 : Int32) + (5 : Int32)).toNatClampNeg)
  rw [e2, cl_some]
  unfold sL_law_254 sL_law_1277
  rw [br_pos (a1.trans a2.symm), nm_eq]
  exact hK _ (by rw [f2, f1.1]; omega) (by rw [f2, f1.1]; omega)
theorem st_end {xs : Nat → Int32} {K : Hp → Nat → Nat → Int32 → Option (Int32 × Hp)} {Q : Int32 × Hp → Prop} (C : CF v x q) (M : MF v m r) (hm : x + 513 ≤ m) (hK : Kc x m K Q v) : Sat (gd (inB ((0 : Int32) + (1 : Int32)) 6) <| cl (sX11_end v x (xs ((0 : Int32) + (1 : Int32)).toNatClampNeg)) fun o => sL_law_268 3000 6 xs K o.2 x m 0 o.1) Q := by
  rw [g6 ((0 : Int32) + (1 : Int32)) _ (by decide)]
  obtain ⟨o1, e1, a1, f1⟩ := k_end C hm (xs ((0 : Int32) + (1 : Int32)).toNatClampNeg)
  rw [e1, cl_some]
  unfold sL_law_268
  rw [g6 ((0 : Int32) + (1 : Int32)) _ (by decide)]
  obtain ⟨o2, e2, a2, f2⟩ := r_end (M.fl f1) (xs ((0 : Int32) + (1 : Int32)).toNatClampNeg)
  rw [e2, cl_some]
  unfold sL_law_277 sL_law_1277
  rw [br_pos (a1.trans a2.symm), nm_eq]
  exact hK _ (by rw [f2, f1.1]; omega) (by rw [f2, f1.1]; omega)
theorem st_rules {xs : Nat → Int32} {K : Hp → Nat → Nat → Int32 → Option (Int32 × Hp)} {Q : Int32 × Hp → Prop} (C : CF v x q) (M : MF v m r) (hm : x + 513 ≤ m) (hK : Kc x m K Q v) : Sat (cl (sX11_rules 3000 v x ) fun o => sL_law_286 3000 6 xs K o.2 x m 0 o.1) Q := by
  obtain ⟨o1, e1, a1, f1⟩ := k_rules C hm (F := 3000) (by omega) 
  rw [e1, cl_some]
  unfold sL_law_286
  obtain ⟨o2, e2, a2, f2⟩ := r_rules (M.fl f1) 
  rw [e2, cl_some]
  unfold sL_law_290 sL_law_1277
  rw [br_pos (a1.trans a2.symm), nm_eq]
  exact hK _ (by rw [f2, f1.1]; omega) (by rw [f2, f1.1]; omega)
theorem st_told {xs : Nat → Int32} {K : Hp → Nat → Nat → Int32 → Option (Int32 × Hp)} {Q : Int32 × Hp → Prop} (C : CF v x q) (M : MF v m r) (hm : x + 513 ≤ m) (hK : Kc x m K Q v) : Sat (gd (inB ((0 : Int32) + (1 : Int32)) 6) <| cl (sX11_told 3000 v x (xs ((0 : Int32) + (1 : Int32)).toNatClampNeg)) fun o => sL_law_304 3000 6 xs K o.2 x m 0 o.1) Q := by
  rw [g6 ((0 : Int32) + (1 : Int32)) _ (by decide)]
  rw [k_told C (F := 3000) (by omega), cl_some]
  unfold sL_law_304
  show Sat (gd (inB ((0 : Int32) + (1 : Int32)) 6) <| cl (sX15_told 3000 v m (xs ((0 : Int32) + (1 : Int32)).toNatClampNeg)) _) _
  rw [g6 ((0 : Int32) + (1 : Int32)) _ (by decide)]
  obtain ⟨o2, e2, a2, f2⟩ := r_told M (F := 3000) (by omega) (xs ((0 : Int32) + (1 : Int32)).toNatClampNeg)
  rw [e2, cl_some]
  unfold sL_law_313 sL_law_1277
  rw [br_pos a2.symm, nm_eq]
  exact hK _ (by rw [f2]; exact Nat.le_refl _) (by rw [f2]; exact Nat.le_refl _)
theorem st_out {xs : Nat → Int32} {K : Hp → Nat → Nat → Int32 → Option (Int32 × Hp)} {Q : Int32 × Hp → Prop} (C : CF v x q) (M : MF v m r) (hm : x + 513 ≤ m) (hK : Kc x m K Q v) : Sat (gd (inB ((0 : Int32) + (1 : Int32)) 6) <| cl (sX11_out v x (xs ((0 : Int32) + (1 : Int32)).toNatClampNeg)) fun o => sL_law_327 3000 6 xs K o.2 x m 0 o.1) Q := by
  rw [g6 ((0 : Int32) + (1 : Int32)) _ (by decide)]
  obtain ⟨k, e1, e2⟩ := bo_out C M (xs ((0 : Int32) + (1 : Int32)).toNatClampNeg)
  rw [e1, cl_some]
  unfold sL_law_327
  rw [g6 ((0 : Int32) + (1 : Int32)) _ (by decide)]
  show Sat (cl (sX15_out v m (xs ((0 : Int32) + (1 : Int32)).toNatClampNeg)) _) _
  rw [e2, cl_some]
  unfold sL_law_336 sL_law_1277
  rw [br_pos rfl, nm_eq]
  exact hK _ (Nat.le_add_right _ _) (Nat.le_add_right _ _)
theorem st_position {xs : Nat → Int32} {K : Hp → Nat → Nat → Int32 → Option (Int32 × Hp)} {Q : Int32 × Hp → Prop} (C : CF v x q) (M : MF v m r) (hm : x + 513 ≤ m) (hK : Kc x m K Q v) : Sat (cl (sX11_position 3000 v x ) fun o => sL_law_345 3000 6 xs K o.2 x m 0 o.1) Q := by
  obtain ⟨o1, e1, a1, f1⟩ := k_position C hm (F := 3000) (by omega) 
  rw [e1, cl_some]
  unfold sL_law_345
  obtain ⟨o2, e2, a2, f2⟩ := r_position (M.fl f1) 
  rw [e2, cl_some]
  unfold sL_law_349 sL_law_1277
  rw [br_pos (a1.trans a2.symm), nm_eq]
  exact hK _ (by rw [f2, f1.1]; omega) (by rw [f2, f1.1]; omega)
theorem st_drop {xs : Nat → Int32} {K : Hp → Nat → Nat → Int32 → Option (Int32 × Hp)} {Q : Int32 × Hp → Prop} (C : CF v x q) (M : MF v m r) (hm : x + 513 ≤ m) (hK : Kc x m K Q v) : Sat (gd (inB ((0 : Int32) + (1 : Int32)) 6) <| cl (sX11_drop v x (xs ((0 : Int32) + (1 : Int32)).toNatClampNeg)) fun o => sL_law_363 3000 6 xs K o.2 x m 0 o.1) Q := by
  rw [g6 ((0 : Int32) + (1 : Int32)) _ (by decide)]
  obtain ⟨k, e1, e2⟩ := bo_drop C M (xs ((0 : Int32) + (1 : Int32)).toNatClampNeg)
  rw [e1, cl_some]
  unfold sL_law_363
  rw [g6 ((0 : Int32) + (1 : Int32)) _ (by decide)]
  show Sat (cl (sX15_drop v m (xs ((0 : Int32) + (1 : Int32)).toNatClampNeg)) _) _
  rw [e2, cl_some]
  unfold sL_law_372 sL_law_1277
  rw [br_pos rfl, nm_eq]
  exact hK _ (Nat.le_add_right _ _) (Nat.le_add_right _ _)
theorem st_write {xs : Nat → Int32} {K : Hp → Nat → Nat → Int32 → Option (Int32 × Hp)} {Q : Int32 × Hp → Prop} (C : CF v x q) (M : MF v m r) (hm : x + 513 ≤ m) (hK : Kc x m K Q v) : Sat (gd (inB ((0 : Int32) + (1 : Int32)) 6) <| cl (sX11_write v x (xs ((0 : Int32) + (1 : Int32)).toNatClampNeg)) fun o => sL_law_386 3000 6 xs K o.2 x m 0 o.1) Q := by
  rw [g6 ((0 : Int32) + (1 : Int32)) _ (by decide)]
  obtain ⟨k, e1, e2⟩ := bo_write C M (xs ((0 : Int32) + (1 : Int32)).toNatClampNeg)
  rw [e1, cl_some]
  unfold sL_law_386
  rw [g6 ((0 : Int32) + (1 : Int32)) _ (by decide)]
  show Sat (cl (sX15_write v m (xs ((0 : Int32) + (1 : Int32)).toNatClampNeg)) _) _
  rw [e2, cl_some]
  unfold sL_law_395 sL_law_1277
  rw [br_pos rfl, nm_eq]
  exact hK _ (Nat.le_add_right _ _) (Nat.le_add_right _ _)
theorem st_same {xs : Nat → Int32} {K : Hp → Nat → Nat → Int32 → Option (Int32 × Hp)} {Q : Int32 × Hp → Prop} (C : CF v x q) (M : MF v m r) (hm : x + 513 ≤ m) (hK : Kc x m K Q v) : Sat (gd (inB ((0 : Int32) + (1 : Int32)) 6) <| gd (inB ((0 : Int32) + (2 : Int32)) 6) <| cl (sX11_same v x (xs ((0 : Int32) + (1 : Int32)).toNatClampNeg) (xs ((0 : Int32) + (2 : Int32)).toNatClampNeg)) fun o => sL_law_414 3000 6 xs K o.2 x m 0 o.1) Q := by
  rw [g6 ((0 : Int32) + (1 : Int32)) _ (by decide)]
  rw [g6 ((0 : Int32) + (2 : Int32)) _ (by decide)]
  obtain ⟨k, e1, e2⟩ := bo_same C M (xs ((0 : Int32) + (1 : Int32)).toNatClampNeg) (xs ((0 : Int32) + (2 : Int32)).toNatClampNeg)
  rw [e1, cl_some]
  unfold sL_law_414
  rw [g6 ((0 : Int32) + (1 : Int32)) _ (by decide)]
  rw [g6 ((0 : Int32) + (2 : Int32)) _ (by decide)]
  show Sat (cl (sX15_same v m (xs ((0 : Int32) + (1 : Int32)).toNatClampNeg) (xs ((0 : Int32) + (2 : Int32)).toNatClampNeg)) _) _
  rw [e2, cl_some]
  unfold sL_law_428 sL_law_1277
  rw [br_pos rfl, nm_eq]
  exact hK _ (Nat.le_add_right _ _) (Nat.le_add_right _ _)
theorem st_at {xs : Nat → Int32} {K : Hp → Nat → Nat → Int32 → Option (Int32 × Hp)} {Q : Int32 × Hp → Prop} (C : CF v x q) (M : MF v m r) (hm : x + 513 ≤ m) (hK : Kc x m K Q v) : Sat (gd (inB ((0 : Int32) + (1 : Int32)) 6) <| gd (inB ((0 : Int32) + (2 : Int32)) 6) <| cl (sX11_at v x (xs ((0 : Int32) + (1 : Int32)).toNatClampNeg) (xs ((0 : Int32) + (2 : Int32)).toNatClampNeg)) fun o => sL_law_447 3000 6 xs K o.2 x m 0 o.1) Q := by
  rw [g6 ((0 : Int32) + (1 : Int32)) _ (by decide)]
  rw [g6 ((0 : Int32) + (2 : Int32)) _ (by decide)]
  obtain ⟨k, e1, e2⟩ := bo_at C M (xs ((0 : Int32) + (1 : Int32)).toNatClampNeg) (xs ((0 : Int32) + (2 : Int32)).toNatClampNeg)
  rw [e1, cl_some]
  unfold sL_law_447
  rw [g6 ((0 : Int32) + (1 : Int32)) _ (by decide)]
  rw [g6 ((0 : Int32) + (2 : Int32)) _ (by decide)]
  show Sat (cl (sX15_at v m (xs ((0 : Int32) + (1 : Int32)).toNatClampNeg) (xs ((0 : Int32) + (2 : Int32)).toNatClampNeg)) _) _
  rw [e2, cl_some]
  unfold sL_law_461 sL_law_1277
  rw [br_pos rfl, nm_eq]
  exact hK _ (Nat.le_add_right _ _) (Nat.le_add_right _ _)
theorem st_figure {xs : Nat → Int32} {K : Hp → Nat → Nat → Int32 → Option (Int32 × Hp)} {Q : Int32 × Hp → Prop} (C : CF v x q) (M : MF v m r) (hm : x + 513 ≤ m) (hK : Kc x m K Q v) : Sat (gd (inB ((0 : Int32) + (1 : Int32)) 6) <| gd (inB ((0 : Int32) + (2 : Int32)) 6) <| cl (sX11_figure v x (xs ((0 : Int32) + (1 : Int32)).toNatClampNeg) (xs ((0 : Int32) + (2 : Int32)).toNatClampNeg)) fun o => sL_law_480 3000 6 xs K o.2 x m 0 o.1) Q := by
  rw [g6 ((0 : Int32) + (1 : Int32)) _ (by decide)]
  rw [g6 ((0 : Int32) + (2 : Int32)) _ (by decide)]
  obtain ⟨k, e1, e2⟩ := bo_figure (F := 3000) C M (xs ((0 : Int32) + (1 : Int32)).toNatClampNeg) (xs ((0 : Int32) + (2 : Int32)).toNatClampNeg)
  rw [e1, cl_some]
  unfold sL_law_480
  rw [g6 ((0 : Int32) + (1 : Int32)) _ (by decide)]
  rw [g6 ((0 : Int32) + (2 : Int32)) _ (by decide)]
  show Sat (cl (sX15_figure 3000 v m (xs ((0 : Int32) + (1 : Int32)).toNatClampNeg) (xs ((0 : Int32) + (2 : Int32)).toNatClampNeg)) _) _
  rw [e2, cl_some]
  unfold sL_law_494 sL_law_1277
  rw [br_pos rfl, nm_eq]
  exact hK _ (Nat.le_add_right _ _) (Nat.le_add_right _ _)
theorem st_attacked {xs : Nat → Int32} {K : Hp → Nat → Nat → Int32 → Option (Int32 × Hp)} {Q : Int32 × Hp → Prop} (C : CF v x q) (M : MF v m r) (hm : x + 513 ≤ m) (hK : Kc x m K Q v) : Sat (gd (inB ((0 : Int32) + (1 : Int32)) 6) <| gd (inB ((0 : Int32) + (2 : Int32)) 6) <| gd (inB ((0 : Int32) + (3 : Int32)) 6) <| cl (sX11_attacked v x (xs ((0 : Int32) + (1 : Int32)).toNatClampNeg) (xs ((0 : Int32) + (2 : Int32)).toNatClampNeg) (xs ((0 : Int32) + (3 : Int32)).toNatClampNeg)) fun o => sL_law_518 3000 6 xs K o.2 x m 0 o.1) Q := by
  rw [g6 ((0 : Int32) + (1 : Int32)) _ (by decide)]
  rw [g6 ((0 : Int32) + (2 : Int32)) _ (by decide)]
  rw [g6 ((0 : Int32) + (3 : Int32)) _ (by decide)]
  obtain ⟨k, e1, e2⟩ := bo_attacked C M (xs ((0 : Int32) + (1 : Int32)).toNatClampNeg) (xs ((0 : Int32) + (2 : Int32)).toNatClampNeg) (xs ((0 : Int32) + (3 : Int32)).toNatClampNeg)
  rw [e1, cl_some]
  unfold sL_law_518
  rw [g6 ((0 : Int32) + (1 : Int32)) _ (by decide)]
  rw [g6 ((0 : Int32) + (2 : Int32)) _ (by decide)]
  rw [g6 ((0 : Int32) + (3 : Int32)) _ (by decide)]
  show Sat (cl (sX15_attacked v m (xs ((0 : Int32) + (1 : Int32)).toNatClampNeg) (xs ((0 : Int32) + (2 : Int32)).toNatClampNeg) (xs ((0 : Int32) + (3 : Int32)).toNatClampNeg)) _) _
  rw [e2, cl_some]
  unfold sL_law_537 sL_law_1277
  rw [br_pos rfl, nm_eq]
  exact hK _ (Nat.le_add_right _ _) (Nat.le_add_right _ _)
theorem st_moves {xs : Nat → Int32} {K : Hp → Nat → Nat → Int32 → Option (Int32 × Hp)} {Q : Int32 × Hp → Prop} (C : CF v x q) (M : MF v m r) (hm : x + 513 ≤ m) (hK : Kc x m K Q v) : Sat (gd (inB ((0 : Int32) + (1 : Int32)) 6) <| cl (sX11_moves v x (xs ((0 : Int32) + (1 : Int32)).toNatClampNeg)) fun o => sL_law_551 3000 6 xs K o.2 x m 0 o.1) Q := by
  rw [g6 ((0 : Int32) + (1 : Int32)) _ (by decide)]
  obtain ⟨k, e1, e2⟩ := bo_moves C M (xs ((0 : Int32) + (1 : Int32)).toNatClampNeg)
  rw [e1, cl_some]
  unfold sL_law_551
  rw [g6 ((0 : Int32) + (1 : Int32)) _ (by decide)]
  show Sat (cl (sX15_moves v m (xs ((0 : Int32) + (1 : Int32)).toNatClampNeg)) _) _
  rw [e2, cl_some]
  unfold sL_law_560 sL_law_1277
  rw [br_pos rfl, nm_eq]
  exact hK _ (Nat.le_add_right _ _) (Nat.le_add_right _ _)
theorem st_move {xs : Nat → Int32} {K : Hp → Nat → Nat → Int32 → Option (Int32 × Hp)} {Q : Int32 × Hp → Prop} (C : CF v x q) (M : MF v m r) (hm : x + 513 ≤ m) (hK : Kc x m K Q v) : Sat (gd (inB ((0 : Int32) + (1 : Int32)) 6) <| gd (inB ((0 : Int32) + (2 : Int32)) 6) <| gd (inB ((0 : Int32) + (3 : Int32)) 6) <| cl (sX11_move v x (xs ((0 : Int32) + (1 : Int32)).toNatClampNeg) (xs ((0 : Int32) + (2 : Int32)).toNatClampNeg) (xs ((0 : Int32) + (3 : Int32)).toNatClampNeg)) fun o => sL_law_584 3000 6 xs K o.2 x m 0 o.1) Q := by
  rw [g6 ((0 : Int32) + (1 : Int32)) _ (by decide)]
  rw [g6 ((0 : Int32) + (2 : Int32)) _ (by decide)]
  rw [g6 ((0 : Int32) + (3 : Int32)) _ (by decide)]
  obtain ⟨k, e1, e2⟩ := bo_move C M (xs ((0 : Int32) + (1 : Int32)).toNatClampNeg) (xs ((0 : Int32) + (2 : Int32)).toNatClampNeg) (xs ((0 : Int32) + (3 : Int32)).toNatClampNeg)
  rw [e1, cl_some]
  unfold sL_law_584
  rw [g6 ((0 : Int32) + (1 : Int32)) _ (by decide)]
  rw [g6 ((0 : Int32) + (2 : Int32)) _ (by decide)]
  rw [g6 ((0 : Int32) + (3 : Int32)) _ (by decide)]
  show Sat (cl (sX15_move v m (xs ((0 : Int32) + (1 : Int32)).toNatClampNeg) (xs ((0 : Int32) + (2 : Int32)).toNatClampNeg) (xs ((0 : Int32) + (3 : Int32)).toNatClampNeg)) _) _
  rw [e2, cl_some]
  unfold sL_law_603 sL_law_1277
  rw [br_pos rfl, nm_eq]
  exact hK _ (Nat.le_add_right _ _) (Nat.le_add_right _ _)
theorem st_go {xs : Nat → Int32} {K : Hp → Nat → Nat → Int32 → Option (Int32 × Hp)} {Q : Int32 × Hp → Prop} (C : CF v x q) (M : MF v m r) (hm : x + 513 ≤ m) (hK : Kc x m K Q v) : Sat (gd (inB ((0 : Int32) + (1 : Int32)) 6) <| gd (inB ((0 : Int32) + (2 : Int32)) 6) <| cl (sX11_go 3000 v x (xs ((0 : Int32) + (1 : Int32)).toNatClampNeg) (xs ((0 : Int32) + (2 : Int32)).toNatClampNeg)) fun o => sL_law_622 3000 6 xs K o.2 x m 0 o.1) Q := by
  rw [g6 ((0 : Int32) + (1 : Int32)) _ (by decide)]
  rw [g6 ((0 : Int32) + (2 : Int32)) _ (by decide)]
  obtain ⟨k, e1, e2⟩ := bo_go (F := 3000) C M (xs ((0 : Int32) + (1 : Int32)).toNatClampNeg) (xs ((0 : Int32) + (2 : Int32)).toNatClampNeg)
  rw [e1, cl_some]
  unfold sL_law_622
  rw [g6 ((0 : Int32) + (1 : Int32)) _ (by decide)]
  rw [g6 ((0 : Int32) + (2 : Int32)) _ (by decide)]
  show Sat (cl (sX15_go 3000 v m (xs ((0 : Int32) + (1 : Int32)).toNatClampNeg) (xs ((0 : Int32) + (2 : Int32)).toNatClampNeg)) _) _
  rw [e2, cl_some]
  unfold sL_law_636 sL_law_1277
  rw [br_pos rfl, nm_eq]
  exact hK _ (Nat.le_add_right _ _) (Nat.le_add_right _ _)
theorem st_rows {xs : Nat → Int32} {K : Hp → Nat → Nat → Int32 → Option (Int32 × Hp)} {Q : Int32 × Hp → Prop} (C : CF v x q) (M : MF v m r) (hm : x + 513 ≤ m) (hK : Kc x m K Q v) : Sat (gd (inB ((0 : Int32) + (1 : Int32)) 6) <| gd (inB ((0 : Int32) + (2 : Int32)) 6) <| cl (sX11_rows v x (xs ((0 : Int32) + (1 : Int32)).toNatClampNeg) (xs ((0 : Int32) + (2 : Int32)).toNatClampNeg)) fun o => sL_law_655 3000 6 xs K o.2 x m 0 o.1) Q := by
  rw [g6 ((0 : Int32) + (1 : Int32)) _ (by decide)]
  rw [g6 ((0 : Int32) + (2 : Int32)) _ (by decide)]
  obtain ⟨k, e1, e2⟩ := bo_rows C M (xs ((0 : Int32) + (1 : Int32)).toNatClampNeg) (xs ((0 : Int32) + (2 : Int32)).toNatClampNeg)
  rw [e1, cl_some]
  unfold sL_law_655
  rw [g6 ((0 : Int32) + (1 : Int32)) _ (by decide)]
  rw [g6 ((0 : Int32) + (2 : Int32)) _ (by decide)]
  show Sat (cl (sX15_rows v m (xs ((0 : Int32) + (1 : Int32)).toNatClampNeg) (xs ((0 : Int32) + (2 : Int32)).toNatClampNeg)) _) _
  rw [e2, cl_some]
  unfold sL_law_669 sL_law_1277
  rw [br_pos rfl, nm_eq]
  exact hK _ (Nat.le_add_right _ _) (Nat.le_add_right _ _)
theorem st_ended {xs : Nat → Int32} {K : Hp → Nat → Nat → Int32 → Option (Int32 × Hp)} {Q : Int32 × Hp → Prop} (C : CF v x q) (M : MF v m r) (hm : x + 513 ≤ m) (hK : Kc x m K Q v) : Sat (gd (inB ((0 : Int32) + (1 : Int32)) 6) <| cl (sX11_ended v x (xs ((0 : Int32) + (1 : Int32)).toNatClampNeg)) fun o => sL_law_683 3000 6 xs K o.2 x m 0 o.1) Q := by
  rw [g6 ((0 : Int32) + (1 : Int32)) _ (by decide)]
  obtain ⟨k, e1, e2⟩ := bo_ended C M (xs ((0 : Int32) + (1 : Int32)).toNatClampNeg)
  rw [e1, cl_some]
  unfold sL_law_683
  rw [g6 ((0 : Int32) + (1 : Int32)) _ (by decide)]
  show Sat (cl (sX15_ended v m (xs ((0 : Int32) + (1 : Int32)).toNatClampNeg)) _) _
  rw [e2, cl_some]
  unfold sL_law_692 sL_law_1277
  rw [br_pos rfl, nm_eq]
  exact hK _ (Nat.le_add_right _ _) (Nat.le_add_right _ _)
theorem st_result {xs : Nat → Int32} {K : Hp → Nat → Nat → Int32 → Option (Int32 × Hp)} {Q : Int32 × Hp → Prop} (C : CF v x q) (M : MF v m r) (hm : x + 513 ≤ m) (hK : Kc x m K Q v) : Sat (gd (inB ((0 : Int32) + (1 : Int32)) 6) <| cl (sX11_result v x (xs ((0 : Int32) + (1 : Int32)).toNatClampNeg)) fun o => sL_law_706 3000 6 xs K o.2 x m 0 o.1) Q := by
  rw [g6 ((0 : Int32) + (1 : Int32)) _ (by decide)]
  obtain ⟨k, e1, e2⟩ := bo_result C M (xs ((0 : Int32) + (1 : Int32)).toNatClampNeg)
  rw [e1, cl_some]
  unfold sL_law_706
  rw [g6 ((0 : Int32) + (1 : Int32)) _ (by decide)]
  show Sat (cl (sX15_result v m (xs ((0 : Int32) + (1 : Int32)).toNatClampNeg)) _) _
  rw [e2, cl_some]
  unfold sL_law_715 sL_law_1277
  rw [br_pos rfl, nm_eq]
  exact hK _ (Nat.le_add_right _ _) (Nat.le_add_right _ _)
theorem st_say {xs : Nat → Int32} {K : Hp → Nat → Nat → Int32 → Option (Int32 × Hp)} {Q : Int32 × Hp → Prop} (C : CF v x q) (M : MF v m r) (hm : x + 513 ≤ m) (hK : Kc x m K Q v) : Sat (gd (inB ((0 : Int32) + (1 : Int32)) 6) <| gd (inB ((0 : Int32) + (2 : Int32)) 6) <| cl (sX11_say v x (xs ((0 : Int32) + (1 : Int32)).toNatClampNeg) (xs ((0 : Int32) + (2 : Int32)).toNatClampNeg)) fun o => sL_law_734 3000 6 xs K o.2 x m 0 o.1) Q := by
  rw [g6 ((0 : Int32) + (1 : Int32)) _ (by decide)]
  rw [g6 ((0 : Int32) + (2 : Int32)) _ (by decide)]
  obtain ⟨k, e1, e2⟩ := bo_say C M (xs ((0 : Int32) + (1 : Int32)).toNatClampNeg) (xs ((0 : Int32) + (2 : Int32)).toNatClampNeg)
  rw [e1, cl_some]
  unfold sL_law_734
  rw [g6 ((0 : Int32) + (1 : Int32)) _ (by decide)]
  rw [g6 ((0 : Int32) + (2 : Int32)) _ (by decide)]
  show Sat (cl (sX15_say_ v m (xs ((0 : Int32) + (1 : Int32)).toNatClampNeg) (xs ((0 : Int32) + (2 : Int32)).toNatClampNeg)) _) _
  rw [e2, cl_some]
  unfold sL_law_748 sL_law_1277
  rw [br_pos rfl, nm_eq]
  exact hK _ (Nat.le_add_right _ _) (Nat.le_add_right _ _)
theorem st_hear {xs : Nat → Int32} {K : Hp → Nat → Nat → Int32 → Option (Int32 × Hp)} {Q : Int32 × Hp → Prop} (C : CF v x q) (M : MF v m r) (hm : x + 513 ≤ m) (hK : Kc x m K Q v) : Sat (gd (inB ((0 : Int32) + (1 : Int32)) 6) <| cl (sX11_hear v x (xs ((0 : Int32) + (1 : Int32)).toNatClampNeg)) fun o => sL_law_762 3000 6 xs K o.2 x m 0 o.1) Q := by
  rw [g6 ((0 : Int32) + (1 : Int32)) _ (by decide)]
  obtain ⟨o1, e1, a1, f1⟩ := k_hear C hm (xs ((0 : Int32) + (1 : Int32)).toNatClampNeg)
  rw [e1, cl_some]
  unfold sL_law_762
  rw [g6 ((0 : Int32) + (1 : Int32)) _ (by decide)]
  obtain ⟨o2, e2, a2, f2⟩ := r_hear (F := 3000) (M.fl f1) (xs ((0 : Int32) + (1 : Int32)).toNatClampNeg)
  rw [e2, cl_some]
  unfold sL_law_771 sL_law_1277
  rw [br_pos (a1.trans a2.symm), nm_eq]
  exact hK _ (by rw [f2, f1.1]; omega) (by rw [f2, f1.1]; omega)
theorem st_start {xs : Nat → Int32} {K : Hp → Nat → Nat → Int32 → Option (Int32 × Hp)} {Q : Int32 × Hp → Prop} (C : CF v x q) (M : MF v m r) (hm : x + 513 ≤ m) (hK : Kc x m K Q v) : Sat (gd (inB ((0 : Int32) + (1 : Int32)) 6) <| gd (inB ((0 : Int32) + (2 : Int32)) 6) <| cl (sX11_start v x (xs ((0 : Int32) + (1 : Int32)).toNatClampNeg) (xs ((0 : Int32) + (2 : Int32)).toNatClampNeg)) fun o => sL_law_790 3000 6 xs K o.2 x m 0 o.1) Q := by
  rw [g6 ((0 : Int32) + (1 : Int32)) _ (by decide)]
  rw [g6 ((0 : Int32) + (2 : Int32)) _ (by decide)]
  obtain ⟨k, e1, e2⟩ := bo_start C M (xs ((0 : Int32) + (1 : Int32)).toNatClampNeg) (xs ((0 : Int32) + (2 : Int32)).toNatClampNeg)
  rw [e1, cl_some]
  unfold sL_law_790
  rw [g6 ((0 : Int32) + (1 : Int32)) _ (by decide)]
  rw [g6 ((0 : Int32) + (2 : Int32)) _ (by decide)]
  show Sat (cl (sX15_start v m (xs ((0 : Int32) + (1 : Int32)).toNatClampNeg) (xs ((0 : Int32) + (2 : Int32)).toNatClampNeg)) _) _
  rw [e2, cl_some]
  unfold sL_law_804 sL_law_1277
  rw [br_pos rfl, nm_eq]
  exact hK _ (Nat.le_add_right _ _) (Nat.le_add_right _ _)
theorem st_add {xs : Nat → Int32} {K : Hp → Nat → Nat → Int32 → Option (Int32 × Hp)} {Q : Int32 × Hp → Prop} (C : CF v x q) (M : MF v m r) (hm : x + 513 ≤ m) (hK : Kc x m K Q v) : Sat (gd (inB ((0 : Int32) + (1 : Int32)) 6) <| gd (inB ((0 : Int32) + (2 : Int32)) 6) <| cl (sX11_add v x (xs ((0 : Int32) + (1 : Int32)).toNatClampNeg) (xs ((0 : Int32) + (2 : Int32)).toNatClampNeg)) fun o => sL_law_823 3000 6 xs K o.2 x m 0 o.1) Q := by
  rw [g6 ((0 : Int32) + (1 : Int32)) _ (by decide)]
  rw [g6 ((0 : Int32) + (2 : Int32)) _ (by decide)]
  obtain ⟨k, e1, e2⟩ := bo_add C M (xs ((0 : Int32) + (1 : Int32)).toNatClampNeg) (xs ((0 : Int32) + (2 : Int32)).toNatClampNeg)
  rw [e1, cl_some]
  unfold sL_law_823
  rw [g6 ((0 : Int32) + (1 : Int32)) _ (by decide)]
  rw [g6 ((0 : Int32) + (2 : Int32)) _ (by decide)]
  show Sat (cl (sX15_add v m (xs ((0 : Int32) + (1 : Int32)).toNatClampNeg) (xs ((0 : Int32) + (2 : Int32)).toNatClampNeg)) _) _
  rw [e2, cl_some]
  unfold sL_law_837 sL_law_1277
  rw [br_pos rfl, nm_eq]
  exact hK _ (Nat.le_add_right _ _) (Nat.le_add_right _ _)
theorem st_back {xs : Nat → Int32} {K : Hp → Nat → Nat → Int32 → Option (Int32 × Hp)} {Q : Int32 × Hp → Prop} (C : CF v x q) (M : MF v m r) (hm : x + 513 ≤ m) (hK : Kc x m K Q v) : Sat (gd (inB ((0 : Int32) + (1 : Int32)) 6) <| cl (sX11_back v x (xs ((0 : Int32) + (1 : Int32)).toNatClampNeg)) fun o => sL_law_851 3000 6 xs K o.2 x m 0 o.1) Q := by
  rw [g6 ((0 : Int32) + (1 : Int32)) _ (by decide)]
  obtain ⟨k, e1, e2⟩ := bo_back C M (xs ((0 : Int32) + (1 : Int32)).toNatClampNeg)
  rw [e1, cl_some]
  unfold sL_law_851
  rw [g6 ((0 : Int32) + (1 : Int32)) _ (by decide)]
  show Sat (cl (sX15_back v m (xs ((0 : Int32) + (1 : Int32)).toNatClampNeg)) _) _
  rw [e2, cl_some]
  unfold sL_law_860 sL_law_1277
  rw [br_pos rfl, nm_eq]
  exact hK _ (Nat.le_add_right _ _) (Nat.le_add_right _ _)
theorem st_game {xs : Nat → Int32} {K : Hp → Nat → Nat → Int32 → Option (Int32 × Hp)} {Q : Int32 × Hp → Prop} (C : CF v x q) (M : MF v m r) (hm : x + 513 ≤ m) (hK : Kc x m K Q v) : Sat (gd (inB ((0 : Int32) + (1 : Int32)) 6) <| gd (inB ((0 : Int32) + (2 : Int32)) 6) <| cl (sX11_game v x (xs ((0 : Int32) + (1 : Int32)).toNatClampNeg) (xs ((0 : Int32) + (2 : Int32)).toNatClampNeg)) fun o => sL_law_879 3000 6 xs K o.2 x m 0 o.1) Q := by
  rw [g6 ((0 : Int32) + (1 : Int32)) _ (by decide)]
  rw [g6 ((0 : Int32) + (2 : Int32)) _ (by decide)]
  obtain ⟨k, e1, e2⟩ := bo_game (F := 3000) C M (xs ((0 : Int32) + (1 : Int32)).toNatClampNeg) (xs ((0 : Int32) + (2 : Int32)).toNatClampNeg)
  rw [e1, cl_some]
  unfold sL_law_879
  rw [g6 ((0 : Int32) + (1 : Int32)) _ (by decide)]
  rw [g6 ((0 : Int32) + (2 : Int32)) _ (by decide)]
  show Sat (cl (sX15_game 3000 v m (xs ((0 : Int32) + (1 : Int32)).toNatClampNeg) (xs ((0 : Int32) + (2 : Int32)).toNatClampNeg)) _) _
  rw [e2, cl_some]
  unfold sL_law_893 sL_law_1277
  rw [br_pos rfl, nm_eq]
  exact hK _ (Nat.le_add_right _ _) (Nat.le_add_right _ _)
theorem st_played {xs : Nat → Int32} {K : Hp → Nat → Nat → Int32 → Option (Int32 × Hp)} {Q : Int32 × Hp → Prop} (C : CF v x q) (M : MF v m r) (hm : x + 513 ≤ m) (hK : Kc x m K Q v) : Sat (gd (inB ((0 : Int32) + (1 : Int32)) 6) <| gd (inB ((0 : Int32) + (2 : Int32)) 6) <| cl (sX11_played v x (xs ((0 : Int32) + (1 : Int32)).toNatClampNeg) (xs ((0 : Int32) + (2 : Int32)).toNatClampNeg)) fun o => sL_law_912 3000 6 xs K o.2 x m 0 o.1) Q := by
  rw [g6 ((0 : Int32) + (1 : Int32)) _ (by decide)]
  rw [g6 ((0 : Int32) + (2 : Int32)) _ (by decide)]
  obtain ⟨k, e1, e2⟩ := bo_played C M (xs ((0 : Int32) + (1 : Int32)).toNatClampNeg) (xs ((0 : Int32) + (2 : Int32)).toNatClampNeg)
  rw [e1, cl_some]
  unfold sL_law_912
  rw [g6 ((0 : Int32) + (1 : Int32)) _ (by decide)]
  rw [g6 ((0 : Int32) + (2 : Int32)) _ (by decide)]
  show Sat (cl (sX15_played v m (xs ((0 : Int32) + (1 : Int32)).toNatClampNeg) (xs ((0 : Int32) + (2 : Int32)).toNatClampNeg)) _) _
  rw [e2, cl_some]
  unfold sL_law_926 sL_law_1277
  rw [br_pos rfl, nm_eq]
  exact hK _ (Nat.le_add_right _ _) (Nat.le_add_right _ _)
theorem st_now {xs : Nat → Int32} {K : Hp → Nat → Nat → Int32 → Option (Int32 × Hp)} {Q : Int32 × Hp → Prop} (C : CF v x q) (M : MF v m r) (hm : x + 513 ≤ m) (hK : Kc x m K Q v) : Sat (gd (inB ((0 : Int32) + (1 : Int32)) 6) <| cl (sX11_now 3000 v x (xs ((0 : Int32) + (1 : Int32)).toNatClampNeg)) fun o => sL_law_940 3000 6 xs K o.2 x m 0 o.1) Q := by
  rw [g6 ((0 : Int32) + (1 : Int32)) _ (by decide)]
  obtain ⟨k, e1, e2⟩ := bo_now (F := 3000) C M (xs ((0 : Int32) + (1 : Int32)).toNatClampNeg)
  rw [e1, cl_some]
  unfold sL_law_940
  rw [g6 ((0 : Int32) + (1 : Int32)) _ (by decide)]
  show Sat (cl (sX15_now v m (xs ((0 : Int32) + (1 : Int32)).toNatClampNeg)) _) _
  rw [e2, cl_some]
  unfold sL_law_949 sL_law_1277
  rw [br_pos rfl, nm_eq]
  exact hK _ (Nat.le_add_right _ _) (Nat.le_add_right _ _)
theorem st_book {xs : Nat → Int32} {K : Hp → Nat → Nat → Int32 → Option (Int32 × Hp)} {Q : Int32 × Hp → Prop} (C : CF v x q) (M : MF v m r) (hm : x + 513 ≤ m) (hK : Kc x m K Q v) : Sat (gd (inB ((0 : Int32) + (1 : Int32)) 6) <| gd (inB ((0 : Int32) + (2 : Int32)) 6) <| cl (sX11_book 3000 v x (xs ((0 : Int32) + (1 : Int32)).toNatClampNeg) (xs ((0 : Int32) + (2 : Int32)).toNatClampNeg)) fun o => sL_law_968 3000 6 xs K o.2 x m 0 o.1) Q := by
  rw [g6 ((0 : Int32) + (1 : Int32)) _ (by decide)]
  rw [g6 ((0 : Int32) + (2 : Int32)) _ (by decide)]
  obtain ⟨k, e1, e2⟩ := bo_book (F := 3000) C M (xs ((0 : Int32) + (1 : Int32)).toNatClampNeg) (xs ((0 : Int32) + (2 : Int32)).toNatClampNeg)
  rw [e1, cl_some]
  unfold sL_law_968
  rw [g6 ((0 : Int32) + (1 : Int32)) _ (by decide)]
  rw [g6 ((0 : Int32) + (2 : Int32)) _ (by decide)]
  show Sat (cl (sX15_book 3000 v m (xs ((0 : Int32) + (1 : Int32)).toNatClampNeg) (xs ((0 : Int32) + (2 : Int32)).toNatClampNeg)) _) _
  rw [e2, cl_some]
  unfold sL_law_982 sL_law_1277
  rw [br_pos rfl, nm_eq]
  exact hK _ (Nat.le_add_right _ _) (Nat.le_add_right _ _)
theorem st_sees {xs : Nat → Int32} {K : Hp → Nat → Nat → Int32 → Option (Int32 × Hp)} {Q : Int32 × Hp → Prop} (C : CF v x q) (M : MF v m r) (hm : x + 513 ≤ m) (hK : Kc x m K Q v) : Sat (gd (inB ((0 : Int32) + (1 : Int32)) 6) <| gd (inB ((0 : Int32) + (2 : Int32)) 6) <| gd (inB ((0 : Int32) + (3 : Int32)) 6) <| cl (sX11_sees v x (xs ((0 : Int32) + (1 : Int32)).toNatClampNeg) (xs ((0 : Int32) + (2 : Int32)).toNatClampNeg) (xs ((0 : Int32) + (3 : Int32)).toNatClampNeg)) fun o => sL_law_1006 3000 6 xs K o.2 x m 0 o.1) Q := by
  rw [g6 ((0 : Int32) + (1 : Int32)) _ (by decide)]
  rw [g6 ((0 : Int32) + (2 : Int32)) _ (by decide)]
  rw [g6 ((0 : Int32) + (3 : Int32)) _ (by decide)]
  obtain ⟨k, e1, e2⟩ := bo_sees C M (xs ((0 : Int32) + (1 : Int32)).toNatClampNeg) (xs ((0 : Int32) + (2 : Int32)).toNatClampNeg) (xs ((0 : Int32) + (3 : Int32)).toNatClampNeg)
  rw [e1, cl_some]
  unfold sL_law_1006
  rw [g6 ((0 : Int32) + (1 : Int32)) _ (by decide)]
  rw [g6 ((0 : Int32) + (2 : Int32)) _ (by decide)]
  rw [g6 ((0 : Int32) + (3 : Int32)) _ (by decide)]
  show Sat (cl (sX15_sees v m (xs ((0 : Int32) + (1 : Int32)).toNatClampNeg) (xs ((0 : Int32) + (2 : Int32)).toNatClampNeg) (xs ((0 : Int32) + (3 : Int32)).toNatClampNeg)) _) _
  rw [e2, cl_some]
  unfold sL_law_1025 sL_law_1277
  rw [br_pos rfl, nm_eq]
  exact hK _ (Nat.le_add_right _ _) (Nat.le_add_right _ _)
theorem st_view {xs : Nat → Int32} {K : Hp → Nat → Nat → Int32 → Option (Int32 × Hp)} {Q : Int32 × Hp → Prop} (C : CF v x q) (M : MF v m r) (hm : x + 513 ≤ m) (hK : Kc x m K Q v) : Sat (gd (inB ((0 : Int32) + (1 : Int32)) 6) <| gd (inB ((0 : Int32) + (2 : Int32)) 6) <| cl (sX11_view v x (xs ((0 : Int32) + (1 : Int32)).toNatClampNeg) (xs ((0 : Int32) + (2 : Int32)).toNatClampNeg)) fun o => sL_law_1044 3000 6 xs K o.2 x m 0 o.1) Q := by
  rw [g6 ((0 : Int32) + (1 : Int32)) _ (by decide)]
  rw [g6 ((0 : Int32) + (2 : Int32)) _ (by decide)]
  obtain ⟨k, e1, e2⟩ := bo_view C M (xs ((0 : Int32) + (1 : Int32)).toNatClampNeg) (xs ((0 : Int32) + (2 : Int32)).toNatClampNeg)
  rw [e1, cl_some]
  unfold sL_law_1044
  rw [g6 ((0 : Int32) + (1 : Int32)) _ (by decide)]
  rw [g6 ((0 : Int32) + (2 : Int32)) _ (by decide)]
  show Sat (cl (sX15_view v m (xs ((0 : Int32) + (1 : Int32)).toNatClampNeg) (xs ((0 : Int32) + (2 : Int32)).toNatClampNeg)) _) _
  rw [e2, cl_some]
  unfold sL_law_1058 sL_law_1277
  rw [br_pos rfl, nm_eq]
  exact hK _ (Nat.le_add_right _ _) (Nat.le_add_right _ _)
theorem st_before {xs : Nat → Int32} {K : Hp → Nat → Nat → Int32 → Option (Int32 × Hp)} {Q : Int32 × Hp → Prop} (C : CF v x q) (M : MF v m r) (hm : x + 513 ≤ m) (hK : Kc x m K Q v) : Sat (gd (inB ((0 : Int32) + (1 : Int32)) 6) <| cl (sX11_before v x (xs ((0 : Int32) + (1 : Int32)).toNatClampNeg)) fun o => sL_law_1072 3000 6 xs K o.2 x m 0 o.1) Q := by
  rw [g6 ((0 : Int32) + (1 : Int32)) _ (by decide)]
  obtain ⟨k, e1, e2⟩ := bo_before (F := 3000) C M (xs ((0 : Int32) + (1 : Int32)).toNatClampNeg)
  rw [e1, cl_some]
  unfold sL_law_1072
  rw [g6 ((0 : Int32) + (1 : Int32)) _ (by decide)]
  show Sat (cl (sX15_before 3000 v m (xs ((0 : Int32) + (1 : Int32)).toNatClampNeg)) _) _
  rw [e2, cl_some]
  unfold sL_law_1081 sL_law_1277
  rw [br_pos rfl, nm_eq]
  exact hK _ (Nat.le_add_right _ _) (Nat.le_add_right _ _)
theorem st_beforeAt {xs : Nat → Int32} {K : Hp → Nat → Nat → Int32 → Option (Int32 × Hp)} {Q : Int32 × Hp → Prop} (C : CF v x q) (M : MF v m r) (hm : x + 513 ≤ m) (hK : Kc x m K Q v) : Sat (gd (inB ((0 : Int32) + (1 : Int32)) 6) <| cl (sX11_beforeAt 3000 v x (xs ((0 : Int32) + (1 : Int32)).toNatClampNeg)) fun o => sL_law_1095 3000 6 xs K o.2 x m 0 o.1) Q := by
  rw [g6 ((0 : Int32) + (1 : Int32)) _ (by decide)]
  obtain ⟨k, e1, e2⟩ := bo_beforeAt (F := 3000) C M (xs ((0 : Int32) + (1 : Int32)).toNatClampNeg)
  rw [e1, cl_some]
  unfold sL_law_1095
  rw [g6 ((0 : Int32) + (1 : Int32)) _ (by decide)]
  show Sat (cl (sX15_beforeAt v m (xs ((0 : Int32) + (1 : Int32)).toNatClampNeg)) _) _
  rw [e2, cl_some]
  unfold sL_law_1104 sL_law_1277
  rw [br_pos rfl, nm_eq]
  exact hK _ (Nat.le_add_right _ _) (Nat.le_add_right _ _)
theorem st_solve {xs : Nat → Int32} {K : Hp → Nat → Nat → Int32 → Option (Int32 × Hp)} {Q : Int32 × Hp → Prop} (C : CF v x q) (M : MF v m r) (hm : x + 513 ≤ m) (hK : Kc x m K Q v) : Sat (cl (sX11_solve 3000 v x ) fun o => sL_law_1113 3000 6 xs K o.2 x m 0 o.1) Q := by
  obtain ⟨o1, e1, a1, f1⟩ := k_solve C hm (F := 3000) (by omega) 
  rw [e1, cl_some]
  unfold sL_law_1113
  obtain ⟨o2, e2, a2, f2⟩ := r_solve (M.fl f1) 
  rw [e2, cl_some]
  unfold sL_law_1117 sL_law_1277
  rw [br_pos (a1.trans a2.symm), nm_eq]
  exact hK _ (by rw [f2, f1.1]; omega) (by rw [f2, f1.1]; omega)
theorem st_worth {xs : Nat → Int32} {K : Hp → Nat → Nat → Int32 → Option (Int32 × Hp)} {Q : Int32 × Hp → Prop} (C : CF v x q) (M : MF v m r) (hm : x + 513 ≤ m) (hK : Kc x m K Q v) : Sat (gd (inB ((0 : Int32) + (1 : Int32)) 6) <| cl (sX11_worth v x (xs ((0 : Int32) + (1 : Int32)).toNatClampNeg)) fun o => sL_law_1131 3000 6 xs K o.2 x m 0 o.1) Q := by
  rw [g6 ((0 : Int32) + (1 : Int32)) _ (by decide)]
  obtain ⟨k, e1, e2⟩ := bo_worth C M (xs ((0 : Int32) + (1 : Int32)).toNatClampNeg)
  rw [e1, cl_some]
  unfold sL_law_1131
  rw [g6 ((0 : Int32) + (1 : Int32)) _ (by decide)]
  show Sat (cl (sX15_worth v m (xs ((0 : Int32) + (1 : Int32)).toNatClampNeg)) _) _
  rw [e2, cl_some]
  unfold sL_law_1140 sL_law_1277
  rw [br_pos rfl, nm_eq]
  exact hK _ (Nat.le_add_right _ _) (Nat.le_add_right _ _)
theorem st_tally {xs : Nat → Int32} {K : Hp → Nat → Nat → Int32 → Option (Int32 × Hp)} {Q : Int32 × Hp → Prop} (C : CF v x q) (M : MF v m r) (hm : x + 513 ≤ m) (hK : Kc x m K Q v) : Sat (gd (inB ((0 : Int32) + (1 : Int32)) 6) <| gd (inB ((0 : Int32) + (2 : Int32)) 6) <| cl (sX11_tally v x (xs ((0 : Int32) + (1 : Int32)).toNatClampNeg) (xs ((0 : Int32) + (2 : Int32)).toNatClampNeg)) fun o => sL_law_1159 3000 6 xs K o.2 x m 0 o.1) Q := by
  rw [g6 ((0 : Int32) + (1 : Int32)) _ (by decide)]
  rw [g6 ((0 : Int32) + (2 : Int32)) _ (by decide)]
  obtain ⟨k, e1, e2⟩ := bo_tally (F := 3000) C M (xs ((0 : Int32) + (1 : Int32)).toNatClampNeg) (xs ((0 : Int32) + (2 : Int32)).toNatClampNeg)
  rw [e1, cl_some]
  unfold sL_law_1159
  rw [g6 ((0 : Int32) + (1 : Int32)) _ (by decide)]
  rw [g6 ((0 : Int32) + (2 : Int32)) _ (by decide)]
  show Sat (cl (sX15_tally 3000 v m (xs ((0 : Int32) + (1 : Int32)).toNatClampNeg) (xs ((0 : Int32) + (2 : Int32)).toNatClampNeg)) _) _
  rw [e2, cl_some]
  unfold sL_law_1173 sL_law_1277
  rw [br_pos rfl, nm_eq]
  exact hK _ (Nat.le_add_right _ _) (Nat.le_add_right _ _)
theorem st_problem {xs : Nat → Int32} {K : Hp → Nat → Nat → Int32 → Option (Int32 × Hp)} {Q : Int32 × Hp → Prop} (C : CF v x q) (M : MF v m r) (hm : x + 513 ≤ m) (hK : Kc x m K Q v) : Sat (gd (inB ((0 : Int32) + (1 : Int32)) 6) <| gd (inB ((0 : Int32) + (2 : Int32)) 6) <| gd (inB ((0 : Int32) + (3 : Int32)) 6) <| gd (inB ((0 : Int32) + (4 : Int32)) 6) <| cl (sX11_problem v x (xs ((0 : Int32) + (1 : Int32)).toNatClampNeg) (xs ((0 : Int32) + (2 : Int32)).toNatClampNeg) (xs ((0 : Int32) + (3 : Int32)).toNatClampNeg) (xs ((0 : Int32) + (4 : Int32)).toNatClampNeg)) fun o => sL_law_1202 3000 6 xs K o.2 x m 0 o.1) Q := by
  rw [g6 ((0 : Int32) + (1 : Int32)) _ (by decide)]
  rw [g6 ((0 : Int32) + (2 : Int32)) _ (by decide)]
  rw [g6 ((0 : Int32) + (3 : Int32)) _ (by decide)]
  rw [g6 ((0 : Int32) + (4 : Int32)) _ (by decide)]
  obtain ⟨k, e1, e2⟩ := bo_problem (F := 3000) C M (xs ((0 : Int32) + (1 : Int32)).toNatClampNeg) (xs ((0 : Int32) + (2 : Int32)).toNatClampNeg) (xs ((0 : Int32) + (3 : Int32)).toNatClampNeg) (xs ((0 : Int32) + (4 : Int32)).toNatClampNeg)
  rw [e1, cl_some]
  unfold sL_law_1202
  rw [g6 ((0 : Int32) + (1 : Int32)) _ (by decide)]
  rw [g6 ((0 : Int32) + (2 : Int32)) _ (by decide)]
  rw [g6 ((0 : Int32) + (3 : Int32)) _ (by decide)]
  rw [g6 ((0 : Int32) + (4 : Int32)) _ (by decide)]
  show Sat (cl (sX15_problem 3000 v m (xs ((0 : Int32) + (1 : Int32)).toNatClampNeg) (xs ((0 : Int32) + (2 : Int32)).toNatClampNeg) (xs ((0 : Int32) + (3 : Int32)).toNatClampNeg) (xs ((0 : Int32) + (4 : Int32)).toNatClampNeg)) _) _
  rw [e2, cl_some]
  unfold sL_law_1226 sL_law_1277
  rw [br_pos rfl, nm_eq]
  exact hK _ (Nat.le_add_right _ _) (Nat.le_add_right _ _)
theorem st_key {xs : Nat → Int32} {K : Hp → Nat → Nat → Int32 → Option (Int32 × Hp)} {Q : Int32 × Hp → Prop} (C : CF v x q) (M : MF v m r) (hm : x + 513 ≤ m) (hK : Kc x m K Q v) : Sat (gd (inB ((0 : Int32) + (1 : Int32)) 6) <| cl (sX11_key v x (xs ((0 : Int32) + (1 : Int32)).toNatClampNeg)) fun o => sL_law_1240 3000 6 xs K o.2 x m 0 o.1) Q := by
  rw [g6 ((0 : Int32) + (1 : Int32)) _ (by decide)]
  obtain ⟨k, e1, e2⟩ := bo_key C M (xs ((0 : Int32) + (1 : Int32)).toNatClampNeg)
  rw [e1, cl_some]
  unfold sL_law_1240
  rw [g6 ((0 : Int32) + (1 : Int32)) _ (by decide)]
  show Sat (cl (sX15_key v m (xs ((0 : Int32) + (1 : Int32)).toNatClampNeg)) _) _
  rw [e2, cl_some]
  unfold sL_law_1249 sL_law_1277
  rw [br_pos rfl, nm_eq]
  exact hK _ (Nat.le_add_right _ _) (Nat.le_add_right _ _)
theorem st_refutes {xs : Nat → Int32} {K : Hp → Nat → Nat → Int32 → Option (Int32 × Hp)} {Q : Int32 × Hp → Prop} (C : CF v x q) (M : MF v m r) (hm : x + 513 ≤ m) (hK : Kc x m K Q v) : Sat (gd (inB ((0 : Int32) + (1 : Int32)) 6) <| cl (sX11_refutes v x (xs ((0 : Int32) + (1 : Int32)).toNatClampNeg)) fun o => sL_law_1263 3000 6 xs K o.2 x m 0 o.1) Q := by
  rw [g6 ((0 : Int32) + (1 : Int32)) _ (by decide)]
  obtain ⟨k, e1, e2⟩ := bo_refutes (F := 3000) C M (xs ((0 : Int32) + (1 : Int32)).toNatClampNeg)
  rw [e1, cl_some]
  unfold sL_law_1263
  rw [g6 ((0 : Int32) + (1 : Int32)) _ (by decide)]
  show Sat (cl (sX15_refutes 3000 v m (xs ((0 : Int32) + (1 : Int32)).toNatClampNeg)) _) _
  rw [e2, cl_some]
  unfold sL_law_1272 sL_law_1277
  rw [br_pos rfl, nm_eq]
  exact hK _ (Nat.le_add_right _ _) (Nat.le_add_right _ _)
theorem st_all {xs : Nat → Int32} {f : Nat} {Q : Int32 × Hp → Prop} (C : CF v x q) (M : MF v m r) (hm : x + 513 ≤ m) (hK : Kc x m (sL_law_18 3000 6 xs f) Q v) : Sat (sL_law_18 3000 6 xs (f + 1) v x m 0) Q := by
  rw [sL_law_18, br_neg (by decide), gd_pos (show inB (0 : Int32) 6 by decide)]
  apply s_br
  · intro _; exact st_feed C M hm hK
  intro _
  apply s_br
  · intro _; exact st_end C M hm hK
  intro _
  apply s_br
  · intro _; exact st_rules C M hm hK
  intro _
  apply s_br
  · intro _; exact st_told C M hm hK
  intro _
  apply s_br
  · intro _; exact st_out C M hm hK
  intro _
  apply s_br
  · intro _; exact st_position C M hm hK
  intro _
  apply s_br
  · intro _; exact st_drop C M hm hK
  intro _
  apply s_br
  · intro _; exact st_write C M hm hK
  intro _
  apply s_br
  · intro _; exact st_same C M hm hK
  intro _
  apply s_br
  · intro _; exact st_at C M hm hK
  intro _
  apply s_br
  · intro _; exact st_figure C M hm hK
  intro _
  apply s_br
  · intro _; exact st_attacked C M hm hK
  intro _
  apply s_br
  · intro _; exact st_moves C M hm hK
  intro _
  apply s_br
  · intro _; exact st_move C M hm hK
  intro _
  apply s_br
  · intro _; exact st_go C M hm hK
  intro _
  apply s_br
  · intro _; exact st_rows C M hm hK
  intro _
  apply s_br
  · intro _; exact st_ended C M hm hK
  intro _
  apply s_br
  · intro _; exact st_result C M hm hK
  intro _
  apply s_br
  · intro _; exact st_say C M hm hK
  intro _
  apply s_br
  · intro _; exact st_hear C M hm hK
  intro _
  apply s_br
  · intro _; exact st_start C M hm hK
  intro _
  apply s_br
  · intro _; exact st_add C M hm hK
  intro _
  apply s_br
  · intro _; exact st_back C M hm hK
  intro _
  apply s_br
  · intro _; exact st_game C M hm hK
  intro _
  apply s_br
  · intro _; exact st_played C M hm hK
  intro _
  apply s_br
  · intro _; exact st_now C M hm hK
  intro _
  apply s_br
  · intro _; exact st_book C M hm hK
  intro _
  apply s_br
  · intro _; exact st_sees C M hm hK
  intro _
  apply s_br
  · intro _; exact st_view C M hm hK
  intro _
  apply s_br
  · intro _; exact st_before C M hm hK
  intro _
  apply s_br
  · intro _; exact st_beforeAt C M hm hK
  intro _
  apply s_br
  · intro _; exact st_solve C M hm hK
  intro _
  apply s_br
  · intro _; exact st_worth C M hm hK
  intro _
  apply s_br
  · intro _; exact st_tally C M hm hK
  intro _
  apply s_br
  · intro _; exact st_problem C M hm hK
  intro _
  apply s_br
  · intro _; exact st_key C M hm hK
  intro _
  apply s_br
  · intro _; exact st_refutes C M hm hK
  intro _
  unfold sL_law_1277
  rw [nm_eq]
  exact hK v (Nat.le_add_right _ _) (Nat.le_add_right _ _)
theorem r_start (u : Hp) (T : Top u) : ∃ (r : Qs), sX15_init 3000 (nC u 15 0 71) (hS u) = some (rel u r) ∧ ckB r = true := by
  obtain ⟨r, e, hr⟩ := okQ_e evB
  have e0 : nC u 15 0 71 = rel u (qq0 15 71) := by
    have := l_nC u ((0, 0), []) 15 0 71
    rw [← top_rel T] at this
    exact this
  have := e_X15_init (u := u) (F := 3000) (h := qq0 15 71) (x0 := 0)
  rw [e] at this
  rw [e0]
  exact ⟨r, this, hr⟩
theorem law_pure : PureLaw := by
  intro n L xs hLe
  obtain ⟨o, q, e1, C, o1, T⟩ := c_start n
  obtain ⟨r, e2, hr⟩ := r_start o T
  have os : hS o = n + 513 := congrArg Prod.fst o1
  have oL : hL o = 522076 := congrArg Prod.snd o1
  have v1 : (rel o r).1 = (n + 610, 1545409) := by
    show (hS o + r.1.1, hL o + r.1.2) = _
    rw [ckB_1 hr, os, oL]
    refine Prod.ext ?_ ?_
    · show n + 513 + 97 = n + 610
      omega
    · show 522076 + 1023333 = 1545409
      omega
  have M : MF (rel o r) (n + 513) r := ⟨hr, o, os, rfl⟩
  have C2 : CF (rel o r) n q := by
    obtain ⟨c1, c2, c3, c4, c5⟩ := C
    refine ⟨c1, ?_, ?_, ?_, ?_⟩
    · intro a h1 h2 h3
      rw [(rel_lo o r (b := n + a) (by omega)).2.2.1]; exact c2 a h1 h2 h3
    · rw [(rel_lo o r (b := n + 1) (by omega)).2.2.1]; exact c3
    · intro a h1
      rw [(rel_lo o r (b := n + a) (by omega)).2.1]; exact c4 a h1
    · intro a i h1 h2
      rw [(rel_lo o r (b := n + a) (by omega)).2.2.2.2]; exact c5 a i h1 h2
  have fin : ∀ (f L : Nat) (h : Hp) (k : Int32), (nI L - 6 < k) → h.1.1 ≤ n + 611 → h.1.2 ≤ 1545417 → Sat (sL_law_18 3000 L xs (f + 1) h n (n + 513) k) fun o => o.1 = 1 ∧ hS o.2 - n ≤ 600000 ∧ hL o.2 ≤ 7302250 := by
    intro f L h k hk h1 h2
    rw [sL_law_18, br_pos hk]
    refine s_some ⟨rfl, ?_, ?_⟩
    · show h.1.1 - n ≤ 600000
      omega
    · show h.1.2 ≤ 7302250
      omega
  have all : Sat (sL_law 3000 L xs (h00 n)) fun o => o.1 = 1 ∧ hS o.2 - n ≤ 600000 ∧ hL o.2 ≤ 7302250 := by
    unfold sL_law sL_law_3
    rw [nm_eq, nm_eq]
    show Sat (cl (sX11_init 3000 (nC (h00 n) 11 0 18) n) _) _
    rw [e1, cl_some]
    unfold sL_law_7
    rw [nm_eq, nm_eq]
    unfold sL_law_11
    rw [e2, cl_some, os]
    unfold sL_law_15
    by_cases c : L = 6
    · subst c
      refine st_all (f := 2999) C2 M (Nat.le_refl _) ?_
      intro h h1 h2
      rw [v1] at h1 h2
      exact fin 2998 6 h (0 + 6) (by decide) (by omega) (by omega)
    · refine fin 2999 L _ 0 ?_ (by rw [v1]; omega) (by rw [v1]; omega)
      have : L < 6 := by omega
      have : L = 0 ∨ L = 1 ∨ L = 2 ∨ L = 3 ∨ L = 4 ∨ L = 5 := by omega
      rcases this with rfl | rfl | rfl | rfl | rfl | rfl <;> decide
  obtain ⟨o, e, h⟩ := all
  exact ⟨3000, o, e, h⟩
end
