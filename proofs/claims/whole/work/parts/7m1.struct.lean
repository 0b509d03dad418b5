/-! what stands where: edges that stay, things made at need -/
abbrev fsP : List (Nat × Nat) := [(0, 1), (1, 2), (2, 3), (3, 4), (4, 5)]
abbrev fsB : List (Nat × Nat) := [(0, 1), (4, 2), (5, 3), (6, 4)]
abbrev fsM : List (Nat × Nat) := [(1, 1), (2, 2), (3, 3), (4, 4), (5, 5), (6, 6), (7, 7)]
/-- rows of things made at need: the row, how many, places of each, whose, its edges -/
abbrev fam : List (Nat × Nat × Nat × Nat × List (Nat × Nat)) := [(150, 2408, 6, 1000, fsP), (536, 60, 5, 4000, fsB), (573, 10, 5, 4100, fsB), (574, 10, 8, 4200, fsM), (580, 2408, 5, 5000, fsB), (583, 3000, 5, 8000, fsB)]
def Sl (n : Nat) (h : Hp) (own : Nat → Nat) (arr i w t : Nat) (fs : List (Nat × Nat)) : Prop := ∀ a, hR h arr i = some a → n + 610 ≤ a ∧ Bk own h a w t ∧ ∀ p, p ∈ fs → hR h a p.1 = some (a + p.2)
def DnS (n : Nat) (h : Hp) (own : Nat → Nat) : Prop := OwS n h own ∧ ∀ q, q ∈ fam → ∀ i, i < q.2.1 → Sl n h own (n + q.1) i q.2.2.1 (q.2.2.2.1 + i) q.2.2.2.2
abbrev psL (a : Nat) : List (Nat × Nat × Nat) := [(a, 0, a + 1), (a, 1, a + 2), (a, 2, a + 3), (a, 3, a + 4), (a, 4, a + 5)]
abbrev bdL (a : Nat) : List (Nat × Nat × Nat) := [(a, 0, a + 1), (a, 4, a + 2), (a, 5, a + 3), (a, 6, a + 4)]
abbrev mvL' (a : Nat) : List (Nat × Nat × Nat) := [(a, 1, a + 1), (a, 2, a + 2), (a, 3, a + 3), (a, 4, a + 4), (a, 5, a + 5), (a, 6, a + 6), (a, 7, a + 7)]
abbrev lwL' (a : Nat) : List (Nat × Nat × Nat) := [(a, 3, a + 1), (a, 4, a + 2), (a, 5, a + 3), (a, 6, a + 4), (a, 7, a + 5), (a, 8, a + 6), (a, 9, a + 7), (a, 13, a + 8), (a, 14, a + 9)]
/-- edges: the thing, its field, where that leads -/
abbrev edC : List (Nat × Nat × Nat) := [(0, 0, 1), (0, 1, 3), (0, 2, 5), (0, 3, 13), (0, 4, 21), (0, 5, 22), (0, 6, 30), (0, 7, 38), (0, 8, 39), (0, 9, 48), (0, 10, 62), (0, 11, 76), (0, 12, 147), (0, 13, 148), (0, 14, 149), (0, 15, 150), (0, 16, 151), (0, 17, 152), (1, 0, 2), (3, 0, 4), (5, 14, 6), (5, 15, 7), (5, 16, 8), (5, 17, 9), (5, 18, 10), (5, 19, 11), (5, 20, 12), (13, 14, 14), (13, 15, 15), (13, 16, 16), (13, 17, 17), (13, 18, 18), (13, 19, 19), (13, 20, 20), (22, 0, 23), (22, 1, 24), (22, 2, 25), (22, 3, 26), (22, 4, 27), (22, 5, 28), (22, 6, 29), (30, 0, 5), (30, 1, 22), (30, 2, 31), (30, 3, 32), (38, 0, 5), (39, 0, 5), (39, 1, 30), (39, 2, 40), (39, 3, 46), (46, 0, 47), (48, 0, 5), (48, 1, 22), (48, 2, 30), (48, 3, 49), (48, 4, 55), (48, 5, 61), (62, 0, 5), (62, 1, 22), (62, 2, 30), (62, 3, 63), (62, 4, 69), (62, 5, 70), (62, 6, 71), (62, 7, 72), (76, 0, 30), (76, 1, 77), (76, 2, 78), (76, 3, 87), (76, 4, 88), (76, 10, 89), (76, 11, 90), (76, 12, 91), (76, 13, 92)] ++ psL 32 ++ psL 40 ++ psL 49 ++ psL 55 ++ psL 63
abbrev edR : List (Nat × Nat × Nat) := [(513, 0, 514), (513, 2, 515), (513, 14, 536), (513, 15, 537), (513, 21, 538), (513, 22, 543), (513, 25, 544), (513, 26, 545), (513, 27, 546), (513, 28, 547), (513, 30, 552), (513, 31, 560), (513, 32, 568), (513, 33, 573), (513, 34, 574), (513, 35, 575), (513, 37, 580), (513, 38, 581), (513, 39, 582), (513, 40, 583), (513, 41, 584), (513, 42, 585), (513, 43, 586), (513, 45, 587), (513, 46, 592), (513, 47, 593), (513, 48, 594), (513, 51, 595), (513, 53, 596), (513, 54, 597), (513, 55, 598), (513, 56, 599), (513, 57, 600), (513, 58, 601), (513, 60, 602), (513, 61, 607), (513, 69, 608)] ++ bdL 538 ++ bdL 547 ++ bdL 568 ++ bdL 575 ++ bdL 587 ++ bdL 602 ++ mvL' 552 ++ mvL' 560 ++ lwL' 516 ++ lwL' 526
abbrev edL : List (Nat × Nat × Nat) := edC ++ edR
/-- fields that change -/
abbrev muL : List (Nat × Nat) := [(30, 4), (30, 5), (38, 1), (62, 11), (62, 12), (62, 13), (513, 17), (513, 52)]
/-- lengths -/
abbrev lnL : List (Nat × Nat) := [(2, 1200), (4, 512), (31, 4096), (47, 16), (147, 4096), (150, 2408), (514, 1220), (515, 256), (536, 60), (573, 10), (574, 10), (580, 2408), (583, 3000), (26, 1536), (27, 1536), (61, 3000), (69, 1024), (70, 1025), (71, 6), (72, 5), (77, 9), (78, 8), (87, 9), (88, 8), (89, 4096), (90, 4096), (91, 4096), (92, 4096), (149, 60), (151, 2408), (152, 8), (537, 60), (581, 2408), (582, 8), (585, 3000), (592, 4096), (593, 20480), (594, 4096), (595, 600000), (596, 4096), (598, 16384), (599, 16384), (600, 6), (601, 6), (607, 5), (608, 3000)]
def Ed (n : Nat) (h : Hp) : Prop := (∀ e, e ∈ edL → hR h (n + e.1) e.2.1 = some (n + e.2.2)) ∧ (∀ p, p < 60 → hR h (n + 148) p = some (n + (153 + 6 * p)) ∧ ∀ q, q ∈ fsP → hR h (n + (153 + 6 * p)) q.1 = some (n + (153 + 6 * p) + q.2)) ∧ (∀ d, d < 9 → hR h (n + 77) d = some (n + (93 + 6 * d)) ∧ ∀ q, q ∈ fsP → hR h (n + (93 + 6 * d)) q.1 = some (n + (93 + 6 * d) + q.2)) ∧ ∀ d, d < 8 → hR h (n + 78) d = some (n + (79 + d))
def Ln (n : Nat) (h : Hp) : Prop := (∀ e, e ∈ lnL → hN h (n + e.1) = e.2) ∧ ∀ d, d < 8 → hN h (n + (79 + d)) = 4096
def KsG (n : Nat) (g h : Hp) : Prop := hS g ≤ hS h ∧ (∀ q, q ∈ fam → ∀ i a, hR g (n + q.1) i = some a → hR h (n + q.1) i = some a) ∧ ∀ f, f = 4 ∨ f = 5 → hR h (n + 513) f = hR g (n + 513) f
def Dy0 (n : Nat) (g h : Hp) : Prop := (∃ own, DnS n h own) ∧ Ed n h ∧ Ln n h ∧ KsG n g h
section
variable {n : Nat} {g h o : Hp}
/-- only references, lengths and the end count -/
theorem d0_c (k : Dy0 n g h) (a : ∀ x i, hR o x i = hR h x i) (b : ∀ x, hN o x = hN h x) (c : hS o = hS h) : Dy0 n g o := by
  obtain ⟨⟨own, ⟨o1, o2⟩, d⟩, ⟨e1, e2, e3, e4⟩, ⟨l1, l2⟩, k1, k2, k3⟩ := k
  refine ⟨⟨own, ⟨o1, by rw [c]; exact o2⟩, fun q hq i hi x ex => ?_⟩, ⟨fun e he => by rw [a]; exact e1 e he, fun p hp => ⟨by rw [a]; exact (e2 p hp).1, fun q hq => by rw [a]; exact (e2 p hp).2 q hq⟩, fun p hp => ⟨by rw [a]; exact (e3 p hp).1, fun q hq => by rw [a]; exact (e3 p hp).2 q hq⟩, fun p hp => by rw [a]; exact e4 p hp⟩, ⟨fun e he => by rw [b]; exact l1 e he, fun p hp => by rw [b]; exact l2 p hp⟩, by rw [c]; exact k1, fun q hq i x ex => by rw [a]; exact k2 q hq i x ex, fun f hf => by rw [a]; exact k3 f hf⟩
  rw [a] at ex
  obtain ⟨x1, ⟨x2, x3⟩, x4⟩ := d q hq i hi x ex
  exact ⟨x1, ⟨by rw [c]; exact x2, x3⟩, fun p hp => by rw [a]; exact x4 p hp⟩
theorem d0_wI {a i : Nat} {v : Int32} (k : Dy0 n g h) : Dy0 n g (wI h a i v) := d0_c k (fun _ _ => rfl) (fun _ => rfl) rfl
theorem d0_wJ {a i : Nat} {v : Int64} (k : Dy0 n g h) : Dy0 n g (wJ h a i v) := d0_c k (fun _ _ => rfl) (fun _ => rfl) rfl
theorem d0_cpI {a b c d e : Nat} (k : Dy0 n g h) : Dy0 n g (cpI h a b c d e) := d0_c k (fun _ _ => rfl) (fun _ => rfl) rfl
theorem d0_ed (k : Dy0 n g h) {a f b r : Nat} (m : (a, f, b) ∈ edL) (e : hR h (n + a) f = some r) : r = n + b := Option.some.inj (e.symm.trans (k.2.1.1 (a, f, b) m))
theorem d0_e (k : Dy0 n g h) {a f b : Nat} (m : (a, f, b) ∈ edL) : hR h (n + a) f = some (n + b) := k.2.1.1 (a, f, b) m
theorem edl_lt : ∀ e, e ∈ edL → e.1 < 610 ∧ (e.1, e.2.1) ∉ muL ∧ ¬ e.1 = 150 ∧ ¬ e.1 = 536 ∧ ¬ e.1 = 573 ∧ ¬ e.1 = 574 ∧ ¬ e.1 = 580 ∧ ¬ e.1 = 583 := by decide +kernel
theorem fam_lt : ∀ q, q ∈ fam → q.1 < 610 ∧ (∀ p, p ∈ muL → ¬ p.1 = q.1) ∧ ¬ q.1 = 513 ∧ ¬ q.1 = 148 ∧ ¬ q.1 = 77 ∧ ¬ q.1 = 78 ∧ (q.1 = 150 ∨ 536 ≤ q.1) ∧ q.2.2.1 ≤ 8 ∧ (∀ p, p ∈ q.2.2.2.2 → p.2 < q.2.2.1) ∧ 200 ≤ q.2.2.2.1 ∧ q.2.2.2.1 + q.2.1 < 20000 := by decide +kernel
theorem mul_lt : ∀ p, p ∈ muL → p.1 < 610 ∧ (p.1 = 30 ∨ p.1 = 38 ∨ p.1 = 62 ∨ (p.1 = 513 ∧ ¬ p.2 = 4 ∧ ¬ p.2 = 5)) := by decide +kernel
theorem fam_inj {u w : Nat × Nat × Nat × Nat × List (Nat × Nat)} (hu : u ∈ fam) (hw : w ∈ fam) (e : u.1 = w.1) : u = w := by
  simp only [fam, List.mem_cons, List.not_mem_nil, or_false] at hu hw
  rcases hu with rfl | rfl | rfl | rfl | rfl | rfl <;> rcases hw with rfl | rfl | rfl | rfl | rfl | rfl <;> first | rfl | exact absurd e (by decide)
/-- references elsewhere are written -/
theorem d0_ch (k : Dy0 n g h) {x j : Nat} (c : (∃ p, p ∈ muL ∧ x = n + p.1 ∧ j = p.2) ∨ hS g ≤ x ∧ hS h ≤ x) (a : ∀ y i, ¬ (y = x ∧ i = j) → hR o y i = hR h y i) (b : ∀ y, y < hS h → hN o y = hN h y) (c' : hS h ≤ hS o) : Dy0 n g o := by
  obtain ⟨⟨own, ⟨o1, o2⟩, d⟩, ⟨e1, e2, e3, e4⟩, ⟨l1, l2⟩, k1, k2, k3⟩ := k
  have lo : ∀ y i, y < hS h → (¬ ∃ p, p ∈ muL ∧ y = n + p.1 ∧ i = p.2) → hR o y i = hR h y i := fun y i l z => a y i (fun w => by
    rcases c with ⟨p, hp, p1, p2⟩ | ⟨_, c2⟩
    · exact z ⟨p, hp, by omega, by omega⟩
    · omega)
  have nmm : ∀ {y i : Nat}, (∀ p, p ∈ muL → ¬ y = p.1) → ¬ ∃ p, p ∈ muL ∧ n + y = n + p.1 ∧ i = p.2 := fun {y i} z w => by
    obtain ⟨p, hp, p1, _⟩ := w
    exact z p hp (by omega)
  have mo : ∀ {y : Nat}, ¬ y = 30 → ¬ y = 38 → ¬ y = 62 → ¬ y = 513 → ∀ p, p ∈ muL → ¬ y = p.1 := fun a1 a2 a3 a4 p hp => by
    have := mul_lt p hp
    omega
  refine ⟨⟨own, ⟨o1, by omega⟩, fun q hq i hi x' ex => ?_⟩, ⟨fun e he => ?_, fun p hp => ?_, fun p hp => ?_, fun p hp => ?_⟩, ⟨fun e he => ?_, fun p hp => ?_⟩, by omega, fun q hq i x' ex => ?_, fun f hf => ?_⟩
  · obtain ⟨f1, f2, _⟩ := fam_lt q hq
    rw [lo _ _ (by omega) (nmm (fun p hp z => f2 p hp z.symm))] at ex
    obtain ⟨x1, ⟨x2, x3⟩, x4⟩ := d q hq i hi x' ex
    refine ⟨x1, ⟨by omega, x3⟩, fun p hp => ?_⟩
    have w1 := (fam_lt q hq).2.2.2.2.2.2.2.2.1 p hp
    rw [lo _ _ (by omega) (fun w => by
      obtain ⟨p', hp', p1, _⟩ := w
      have := mul_lt p' hp'
      omega)]
    exact x4 p hp
  · obtain ⟨f1, f2, _⟩ := edl_lt e he
    rw [lo _ _ (by omega) (fun w => by
      obtain ⟨p, hp, p1, p2⟩ := w
      have y : e.1 = p.1 := by omega
      exact f2 (by rw [y, p2]; exact hp))]
    exact e1 e he
  · refine ⟨by rw [lo _ _ (by omega) (nmm (mo (by decide) (by decide) (by decide) (by decide)))]; exact (e2 p hp).1, fun q hq => ?_⟩
    rw [lo _ _ (by omega) (nmm (mo (by omega) (by omega) (by omega) (by omega)))]
    exact (e2 p hp).2 q hq
  · refine ⟨by rw [lo _ _ (by omega) (nmm (mo (by decide) (by decide) (by decide) (by decide)))]; exact (e3 p hp).1, fun q hq => ?_⟩
    rw [lo _ _ (by omega) (nmm (mo (by omega) (by omega) (by omega) (by omega)))]
    exact (e3 p hp).2 q hq
  · rw [lo _ _ (by omega) (nmm (mo (by decide) (by decide) (by decide) (by decide)))]
    exact e4 p hp
  · have : ∀ e, e ∈ lnL → e.1 < 610 := by decide
    rw [b _ (by have := this e he; omega)]
    exact l1 e he
  · rw [b _ (by omega)]; exact l2 p hp
  · obtain ⟨f1, f2, _⟩ := fam_lt q hq
    rw [lo _ _ (by omega) (nmm (fun p hp z => f2 p hp z.symm))]
    exact k2 q hq i x' ex
  · rw [lo _ _ (by omega) (fun w => by
      obtain ⟨p, hp, p1, p2⟩ := w
      have := mul_lt p hp
      omega)]
    exact k3 f hf
theorem d0_wR (k : Dy0 n g h) {x j : Nat} {v : Option Nat} (m : (x, j) ∈ muL) : Dy0 n g (wR h (n + x) j v) := d0_ch k (Or.inl ⟨(x, j), m, rfl, rfl⟩) (fun y i z => by rw [r_R, if_neg z]) (fun _ _ => rfl) (Nat.le_refl _)
theorem hs_g (k : Dy0 n g h) : hS g ≤ hS h := k.2.2.2.1
/-- a new cell -/
theorem d0_nC (k : Dy0 n g h) {a b c : Nat} : Dy0 n g (nC h a b c) := by
  obtain ⟨⟨own, ⟨o1, o2⟩, d⟩, ⟨e1, e2, e3, e4⟩, ⟨l1, l2⟩, k1, k2, k3⟩ := k
  have r : ∀ y i, y < hS h → hR (nC h a b c) y i = hR h y i := fun y i l => by rw [nC_R, if_neg (by omega)]
  have s : ∀ y, y < hS h → hN (nC h a b c) y = hN h y := fun y l => by rw [nC_N, if_neg (by omega)]
  have t : hS (nC h a b c) = hS h + 1 := rfl
  refine ⟨⟨own, ⟨o1, by omega⟩, fun q hq i hi x' ex => ?_⟩, ⟨fun e he => ?_, fun p hp => ?_, fun p hp => ?_, fun p hp => ?_⟩, ⟨fun e he => ?_, fun p hp => ?_⟩, by omega, fun q hq i x' ex => ?_, fun f hf => ?_⟩
  · obtain ⟨f1, f2, _⟩ := fam_lt q hq
    rw [r _ _ (by omega)] at ex
    obtain ⟨x1, ⟨x2, x3⟩, x4⟩ := d q hq i hi x' ex
    refine ⟨x1, ⟨by omega, x3⟩, fun p hp => ?_⟩
    have w1 := (fam_lt q hq).2.2.2.2.2.2.2.2.1 p hp
    rw [r _ _ (by omega)]
    exact x4 p hp
  · obtain ⟨f1, f2, _⟩ := edl_lt e he
    rw [r _ _ (by omega)]
    exact e1 e he
  · exact ⟨by rw [r _ _ (by omega)]; exact (e2 p hp).1, fun q hq => by rw [r _ _ (by omega)]; exact (e2 p hp).2 q hq⟩
  · exact ⟨by rw [r _ _ (by omega)]; exact (e3 p hp).1, fun q hq => by rw [r _ _ (by omega)]; exact (e3 p hp).2 q hq⟩
  · rw [r _ _ (by omega)]
    exact e4 p hp
  · have : ∀ e, e ∈ lnL → e.1 < 610 := by decide
    rw [s _ (by have := this e he; omega)]
    exact l1 e he
  · rw [s _ (by omega)]; exact l2 p hp
  · obtain ⟨f1, f2, _⟩ := fam_lt q hq
    rw [r _ _ (by omega)]
    exact k2 q hq i x' ex
  · rw [r _ _ (by omega)]
    exact k3 f hf
/-- one more thing comes to a row: all that was there stays -/
theorem d0_new (k : Dy0 n g h) {q : Nat × Nat × Nat × Nat × List (Nat × Nat)} (hq : q ∈ fam) {i a : Nat} (hi : i < q.2.1) (nn : hR h (n + q.1) i = none) (ha : hS h ≤ a) (hw : a + q.2.2.1 ≤ hS o) (r : ∀ y j, y < hS h → ¬ (y = n + q.1 ∧ j = i) → hR o y j = hR h y j) (rn : hR o (n + q.1) i = some a) (s : ∀ y, y < hS h → hN o y = hN h y) (st : ∀ p, p ∈ q.2.2.2.2 → hR o a p.1 = some (a + p.2)) : Dy0 n g o := by
  obtain ⟨⟨own, ⟨o1, o2⟩, d⟩, ⟨e1, e2, e3, e4⟩, ⟨l1, l2⟩, k1, k2, k3⟩ := k
  obtain ⟨f1, f2, f3, f4, f5, f6, f7, f8, f9, f10, f11⟩ := fam_lt q hq
  refine ⟨⟨fun y => if hS h ≤ y then q.2.2.2.1 + i else own y, ⟨fun j hj => by
      show (if hS h ≤ n + j then _ else own (n + j)) = _
      rw [if_neg (by omega)]; exact o1 j hj, by omega⟩, fun q' hq' i' hi' x' ex => ?_⟩, ⟨fun e he => ?_, fun p hp => ?_, fun p hp => ?_, fun p hp => ?_⟩, ⟨fun e he => ?_, fun p hp => ?_⟩, by omega, fun q' hq' i' x' ex => ?_, fun f hf => ?_⟩
  · obtain ⟨f1', f2', f3', f4', f5', f6', f7', f8', f9', _⟩ := fam_lt q' hq'
    by_cases z : q'.1 = q.1 ∧ i' = i
    · have zz := fam_inj hq' hq z.1
      subst zz
      rw [z.2] at ex ⊢
      rw [rn] at ex
      have ex := Option.some.inj ex
      subst ex
      exact ⟨by omega, ⟨by omega, fun j hj => by
        show (if hS h ≤ a + j then _ else own (a + j)) = _
        rw [if_pos (by omega)]⟩, st⟩
    · rw [r _ _ (by omega) (fun w => z ⟨by omega, w.2⟩)] at ex
      obtain ⟨x1, ⟨x2, x3⟩, x4⟩ := d q' hq' i' hi' x' ex
      refine ⟨x1, ⟨by omega, fun j hj => ?_⟩, fun p hp => ?_⟩
      · show (if hS h ≤ x' + j then _ else own (x' + j)) = _
        rw [if_neg (by omega)]; exact x3 j hj
      · have w1 := f9' p hp
        rw [r _ _ (by omega) (fun w => by omega)]
        exact x4 p hp
  · obtain ⟨g1, g2, g3, g4, g5, g6, g7, g8⟩ := edl_lt e he
    have fx : ∀ u, u ∈ fam → u.1 = 150 ∨ u.1 = 536 ∨ u.1 = 573 ∨ u.1 = 574 ∨ u.1 = 580 ∨ u.1 = 583 := by decide +kernel
    have := fx q hq
    rw [r _ _ (by omega) (fun w => by omega)]
    exact e1 e he
  · exact ⟨by rw [r _ _ (by omega) (fun w => by omega)]; exact (e2 p hp).1, fun q hq => by rw [r _ _ (by omega) (fun w => by omega)]; exact (e2 p hp).2 q hq⟩
  · exact ⟨by rw [r _ _ (by omega) (fun w => by omega)]; exact (e3 p hp).1, fun q hq => by rw [r _ _ (by omega) (fun w => by omega)]; exact (e3 p hp).2 q hq⟩
  · rw [r _ _ (by omega) (fun w => by omega)]
    exact e4 p hp
  · have : ∀ e, e ∈ lnL → e.1 < 610 := by decide
    rw [s _ (by have := this e he; omega)]
    exact l1 e he
  · rw [s _ (by omega)]; exact l2 p hp
  · obtain ⟨f1', _⟩ := fam_lt q' hq'
    have ex := k2 q' hq' i' x' ex
    by_cases z : q'.1 = q.1 ∧ i' = i
    · rw [z.1, z.2, nn] at ex
      exact nomatch ex
    · rw [r _ _ (by omega) (fun w => z ⟨by omega, w.2⟩)]
      exact ex
  · rw [r _ _ (by omega) (fun w => by omega)]
    exact k3 f hf
end
