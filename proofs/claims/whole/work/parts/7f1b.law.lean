/-! both laws behind the constructors -/
/-- the first RULES as the class holds them (cells 5 .. 10), as the reference does (13 .. 22) -/
def tA : List (List Int32) := [[8, 8, 64, 6, 0, 5, 2, 0, 0, 0, 0, 0, 30], [107, 113, 114, 98, 110, 112], [26112, 26176, 0, 0, 0, 0, 0, 0, 124416, 124480, 0, 0, 0, 0, 0, 0, 124416, 0, 0, 0, 0, 0, 0, 0, 124480, 0, 0, 0, 0, 0, 0, 0, 27200, 0, 0, 0, 0, 0, 0, 0, 26117, 304661, 26214, 26086], [2, 2, 1, 1, 1, 4], [0, 0, 0, 0, 0, 0, 0, 0, 0, 0, 0, 0, 0, 0, 0, 0, 0, 0, 0, 0, 0, 0, 0, 0, 0, 0, 0, 0, 0, 0, 1, 2, 3, 4], [0, 0, 0, 0, 0, 4]]
def tB : List (List Int32) := [[8, 8, 6, 0, 0, 0, 0, 0, 0, 0, 0, 5, 2], [107, 113, 114, 98, 110, 112], [2, 2, 1, 1, 1, 4], [0, 0, 0, 0, 0, 0, 0, 0, 0, 0, 0, 0, 0, 0, 0, 0, 0, 0, 0, 0, 0, 0, 0, 0, 0, 0, 0, 0, 0, 0, 0, 0, 0, 0, 0, 0, 0, 0, 0, 0, 5, 21, 38, 38], [0, 1, 0, 0, 0, 0, 0, 0, 0, 1, 0, 0, 0, 0, 0, 0, 0, 0, 0, 0, 0, 0, 0, 0, 1, 0, 0, 0, 0, 0, 0, 0, 1, 0, 0, 0, 0, 0, 0, 0, 0, 0, 1, (-1)], [1, 1, 0, 0, 0, 0, 0, 0, 1, 1, 0, 0, 0, 0, 0, 0, 1, 0, 0, 0, 0, 0, 0, 0, 1, 0, 0, 0, 0, 0, 0, 0, 2, 0, 0, 0, 0, 0, 0, 0, 1, 1, 1, 1], [1, 1, 0, 0, 0, 0, 0, 0, 7, 7, 0, 0, 0, 0, 0, 0, 7, 0, 0, 0, 0, 0, 0, 0, 7, 0, 0, 0, 0, 0, 0, 0, 1, 0, 0, 0, 0, 0, 0, 0, 1, 2, 1, 1], [0, 0, 0, 0, 0, 0, 0, 0, 0, 0, 0, 0, 0, 0, 0, 0, 0, 0, 0, 0, 0, 0, 0, 0, 0, 0, 0, 0, 0, 0, 0, 0, 0, 0, 0, 0, 0, 0, 0, 0, 0, 2], [0, 0, 0, 0, 0, 0, 0, 0, 0, 0, 0, 0, 0, 0, 0, 0, 0, 0, 0, 0, 0, 0, 0, 0, 0, 0, 0, 0, 0, 0, 1, 2, 3, 4], [0, 0, 0, 0, 0, 4]]
def frA (k i : Nat) : Int32 := lget 0 (lget [] tA (k - 5)) i
def frB (k i : Nat) : Int32 := lget 0 (lget [] tB (k - 13)) i
theorem lget_z {α : Type} (d : α) : ∀ (l : List α) (i : Nat), l.length ≤ i → lget d l i = d
  | [], _, _ => by unfold lget; rfl
  | _ :: l, 0, h => absurd h (Nat.not_succ_le_zero _)
  | _ :: l, i + 1, h => by
    show lget d l i = d
    exact lget_z d l i (Nat.le_of_succ_le_succ h)
def ckF (q : Qs) (k : Nat) (f : Nat → Int32) : Bool := ((cg q k).2.2.1.all fun p => decide (p.1 < 96)) && (List.range 96).all fun i => decide (cI q k i = f i)
def ckW (a b : Nat → Nat → Int32) : Bool := (prs.all fun p => decide (a 5 p.1 = b 13 p.2)) && (((List.range 12).all fun q => !(decide ((a 5 4).toInt = (q : Int))) || decide (a 10 q = 0)) && (rgb 0 12 (a 5 3) && (((List.range 12).all fun i => decide ((a 5 3).toInt ≤ (i : Int)) || (decide (a 6 i = b 14 i) && rgb 97 122 (a 6 i))) && (((List.range 12).all fun i => decide (a 10 i = b 22 i) && (rgb 0 6 (a 10 i) && (List.range 6).all fun j => decide ((a 10 i).toInt ≤ (j : Int)) || (decide (a 9 (6 * i + j) = b 21 (6 * i + j)) && rgb 0 11 (b 21 (6 * i + j))))) && ((rgb 0 4095 (a 5 12) && (List.range 12).all fun q => decide ((((a 5 12) >>> ((nI q) &&& 31)) &&& (1 : Int32)) = 1) == (List.range 12).any fun i => (List.range 6).any fun j => decide ((i : Int) < (b 13 2).toInt) && (decide ((j : Int) < (b 22 i).toInt) && decide ((b 21 (6 * i + j)).toInt = (q : Int)))) && ((rgb 3 8 (a 5 0) && (rgb 3 8 (a 5 1) && (rgb (-1) 11 (a 5 4) && rgb 0 4095 (a 5 11)))) && (((List.range 12).all fun q => decide ((q : Int) < (b 13 2).toInt) || (decide (b 15 q = 0) && decide (b 22 q = 0))) && ((rgb 0 15 (a 5 10) && (List.range 4).all fun k => decide ((((a 5 10) >>> ((nI k) &&& 31)) &&& (1 : Int32)) = 1) == decide (¬ b 13 (15 + k) = 0)) && ((List.range 12).all fun j => decide ((b 13 2).toInt ≤ (j : Int)) || (decide (a 8 j = b 15 j) && (rgb 1 8 (a 8 j) && (List.range 8).all fun i => decide ((a 8 j).toInt ≤ (i : Int)) || ((rgb 0 63 (b 16 (8 * j + i)) && (rgb (-7) 7 (b 17 (8 * j + i)) && (rgb (-7) 7 (b 18 (8 * j + i)) && (rgb 1 7 (b 19 (8 * j + i)) && rgb 0 8 (b 20 (8 * j + i)))))) && decide ((a 7 (8 * j + i)).toInt = (b 16 (8 * j + i)).toInt + 64 * ((b 17 (8 * j + i)).toInt + 8) + 1024 * ((b 18 (8 * j + i)).toInt + 8) + 16384 * (b 19 (8 * j + i)).toInt + 131072 * (b 20 (8 * j + i)).toInt)))))))))))))
def rlA : List (Nat × Nat × Nat) := [(0, 2, 5), (5, 14, 6), (5, 15, 7), (5, 16, 8), (5, 17, 9), (5, 18, 10)]
def rlB : List (Nat × Nat × Nat) := [(0, 4, 13), (0, 5, 3), (13, 3, 14), (13, 4, 15), (13, 5, 16), (13, 6, 17), (13, 7, 18), (13, 8, 19), (13, 9, 20), (13, 13, 21), (13, 14, 22)]
def apB (b : Qs) : Bool := (cg b 13).2.2.2.2.all fun p => match p.2 with
  | none => true
  | some r => decide (14 ≤ r ∧ r ≤ 22)
def apC (b : Qs) : Bool := (cg b 3).2.2.2.2.all fun p => match p.2 with
  | none => true
  | some r => decide (4 ≤ r ∧ r ≤ 12)
theorem ckW0 : ckW frA frB = true := by decide +kernel
theorem all_r {n : Nat} {P : Nat → Bool} (h : ((List.range n).all P) = true) {i : Nat} (l : i < n) : P i = true := List.all_eq_true.mp h i (List.mem_range.mpr l)
theorem ckF_e {q : Qs} {k : Nat} {f : Nat → Int32} (h : ckF q k f = true) (z : ∀ i, 96 ≤ i → f i = 0) (i : Nat) : cI q k i = f i := by
  unfold ckF at h
  rw [Bool.and_eq_true] at h
  by_cases l : i < 96
  · exact of_decide_eq_true (all_r h.2 l)
  · rw [z i (by omega)]
    rcases lkI_m (cg q k).2.2.1 i with ⟨p, hp, e, _⟩ | y
    · have := of_decide_eq_true (List.all_eq_true.mp h.1 p hp)
      omega
    · exact y
theorem frA_z (k i : Nat) (h : 96 ≤ i) : frA k i = 0 := by
  refine lget_z 0 _ i (Nat.le_trans ?_ h)
  by_cases l : k - 5 < 6
  · have : ∀ q, q < 6 → (lget [] tA q).length ≤ 96 := by decide
    exact this _ l
  · rw [lget_z [] tA (k - 5) (by have : tA.length = 6 := rfl; omega)]; exact Nat.zero_le _
theorem frB_z (k i : Nat) (h : 96 ≤ i) : frB k i = 0 := by
  refine lget_z 0 _ i (Nat.le_trans ?_ h)
  by_cases l : k - 13 < 10
  · have : ∀ q, q < 10 → (lget [] tB q).length ≤ 96 := by decide
    exact this _ l
  · rw [lget_z [] tB (k - 13) (by have : tB.length = 10 := rfl; omega)]; exact Nat.zero_le _
section
variable {a b : Nat → Nat → Int32} {v : Hp} {n m : Nat} {Z : Nat → Nat}
theorem ckW_e (W : ckW a b = true) (cA : ∀ k : Nat, k = 5 ∨ k = 6 ∨ k = 7 ∨ k = 8 ∨ k = 9 ∨ k = 10 → ∀ i, hI v (n + k) i = a k i) (cB : ∀ k : Nat, 13 ≤ k → k ≤ 22 → ∀ i, hI v (m + k) i = b k i) (cJJ : hJ v (n + 5) 13 = hJ v (m + 13) 21) (z2 : Z 2 = n + 5) (z27 : Z 27 = n + 6) (z28 : Z 28 = n + 7) (z29 : Z 29 = n + 8) (z30 : Z 30 = n + 9) (z31 : Z 31 = n + 10) (z15 : Z 15 = m + 13) (z73 : Z 73 = m + 14) (z74 : Z 74 = m + 15) (z75 : Z 75 = m + 16) (z76 : Z 76 = m + 17) (z77 : Z 77 = m + 18) (z78 : Z 78 = m + 19) (z79 : Z 79 = m + 20) (z80 : Z 80 = m + 21) (z81 : Z 81 = m + 22) (g7 : Z 997 = 0) : LwQ Z v v := by
  have a5 : ∀ i, hI v (Z 2) i = a 5 i := fun i => by rw [z2]; exact cA 5 (by decide) i
  have a6 : ∀ i, hI v (Z 27) i = a 6 i := fun i => by rw [z27]; exact cA 6 (by decide) i
  have a7 : ∀ i, hI v (Z 28) i = a 7 i := fun i => by rw [z28]; exact cA 7 (by decide) i
  have a8 : ∀ i, hI v (Z 29) i = a 8 i := fun i => by rw [z29]; exact cA 8 (by decide) i
  have a9 : ∀ i, hI v (Z 30) i = a 9 i := fun i => by rw [z30]; exact cA 9 (by decide) i
  have a10 : ∀ i, hI v (Z 31) i = a 10 i := fun i => by rw [z31]; exact cA 10 (by decide) i
  have b13 : ∀ i, hI v (Z 15) i = b 13 i := fun i => by rw [z15]; exact cB 13 (by decide) (by decide) i
  have b14 : ∀ i, hI v (Z 73) i = b 14 i := fun i => by rw [z73]; exact cB 14 (by decide) (by decide) i
  have b15 : ∀ i, hI v (Z 74) i = b 15 i := fun i => by rw [z74]; exact cB 15 (by decide) (by decide) i
  have b16 : ∀ i, hI v (Z 75) i = b 16 i := fun i => by rw [z75]; exact cB 16 (by decide) (by decide) i
  have b17 : ∀ i, hI v (Z 76) i = b 17 i := fun i => by rw [z76]; exact cB 17 (by decide) (by decide) i
  have b18 : ∀ i, hI v (Z 77) i = b 18 i := fun i => by rw [z77]; exact cB 18 (by decide) (by decide) i
  have b19 : ∀ i, hI v (Z 78) i = b 19 i := fun i => by rw [z78]; exact cB 19 (by decide) (by decide) i
  have b20 : ∀ i, hI v (Z 79) i = b 20 i := fun i => by rw [z79]; exact cB 20 (by decide) (by decide) i
  have b21 : ∀ i, hI v (Z 80) i = b 21 i := fun i => by rw [z80]; exact cB 21 (by decide) (by decide) i
  have b22 : ∀ i, hI v (Z 81) i = b 22 i := fun i => by rw [z81]; exact cB 22 (by decide) (by decide) i
  unfold ckW at W
  rw [Bool.and_eq_true] at W
  obtain ⟨w1, W⟩ := W
  rw [Bool.and_eq_true] at W
  obtain ⟨w2, W⟩ := W
  rw [Bool.and_eq_true] at W
  obtain ⟨w3, W⟩ := W
  rw [Bool.and_eq_true] at W
  obtain ⟨w4, W⟩ := W
  rw [Bool.and_eq_true] at W
  obtain ⟨w5, W⟩ := W
  rw [Bool.and_eq_true] at W
  obtain ⟨w6, W⟩ := W
  rw [Bool.and_eq_true] at W
  obtain ⟨w7, W⟩ := W
  rw [Bool.and_eq_true] at W
  obtain ⟨w8, W⟩ := W
  rw [Bool.and_eq_true] at W
  obtain ⟨w9, w10⟩ := W
  rw [Bool.and_eq_true] at w6 w9
  rw [Bool.and_eq_true, Bool.and_eq_true, Bool.and_eq_true] at w7
  have men : (a 5 3).toInt ≤ 12 := (rg_b w3).2
  have men2 : a 5 3 = b 13 2 := of_decide_eq_true (List.all_eq_true.mp w1 (3, 2) (by decide))
  have lt2 : ∀ i : Nat, i < 12 → a 10 i = b 22 i ∧ Rg 0 6 (a 10 i) ∧ ∀ j : Nat, (j : Int) < (a 10 i).toInt → a 9 (6 * i + j) = b 21 (6 * i + j) ∧ Rg 0 11 (b 21 (6 * i + j)) := fun i hi => by
    have y := all_r w5 hi
    rw [Bool.and_eq_true, Bool.and_eq_true, decide_eq_true_iff] at y
    refine ⟨y.1, rg_b y.2.1, fun j hj => ?_⟩
    have r6 := (rg_b y.2.1).2
    have y2 := all_r y.2.2 (i := j) (by omega)
    rw [Bool.or_eq_true, Bool.and_eq_true, decide_eq_true_iff, decide_eq_true_iff] at y2
    rcases y2 with y2 | y2
    · omega
    · exact ⟨y2.1, rg_b y2.2⟩
  refine ⟨fun p hp => ?_, ?_, ?_, fun i hi => ?_, fun i hi => ?_, ⟨?_, fun q hq => ?_⟩, ⟨?_, ?_, ?_, ?_⟩, fun q h1 h2 => ?_, ⟨?_, fun k hk _ => ?_⟩, fun j hj => ⟨fun _ => ?_, fun z => absurd (g7.symm.trans z) (Nat.succ_ne_zero j).symm⟩, fun q hq z => by
    rw [a5] at z
    have y := all_r w2 hq
    rw [decide_eq_true z] at y
    rw [a10]
    exact of_decide_eq_true y⟩
  · rw [a5, b13]; exact of_decide_eq_true (List.all_eq_true.mp w1 p hp)
  · rw [z2, z15]; exact cJJ
  · rw [a5]; exact rg_b w3
  · rw [a5] at hi
    rw [a6, b14]
    have y := all_r w4 (i := i) (by omega)
    rw [Bool.or_eq_true, decide_eq_true_iff, Bool.and_eq_true, decide_eq_true_iff] at y
    have y := y.resolve_left (by omega)
    exact ⟨y.1, rg_b y.2⟩
  · obtain ⟨y1, y2, y3⟩ := lt2 i hi
    rw [a10, b22]
    refine ⟨y1, y2, fun j hj => ?_⟩
    rw [a9, b21]; exact y3 j hj
  · rw [a5]; exact rg_b w6.1
  · have y := all_r w6.2 hq
    rw [beq_iff_eq] at y
    unfold Bq
    rw [a5]
    constructor
    · intro z
      rw [decide_eq_true z] at y
      have y := y.symm
      rw [List.any_eq_true] at y
      obtain ⟨i, _, y⟩ := y
      rw [List.any_eq_true] at y
      obtain ⟨j, _, y⟩ := y
      rw [Bool.and_eq_true, Bool.and_eq_true, decide_eq_true_iff, decide_eq_true_iff, decide_eq_true_iff] at y
      exact ⟨i, j, by rw [b13]; exact y.1, by rw [b22]; exact y.2.1, by rw [b21]; exact y.2.2⟩
    · rintro ⟨i, j, l1, l2, l3⟩
      rw [b13] at l1
      rw [b22] at l2
      rw [b21] at l3
      have i12 : i < 12 := by rw [← men2] at l1; omega
      have j6 : j < 6 := by
        obtain ⟨q1, q2, _⟩ := lt2 i i12
        have := q2.2
        rw [q1] at this
        omega
      have tr : ((List.range 12).any fun i => (List.range 6).any fun j => decide ((i : Int) < (b 13 2).toInt) && (decide ((j : Int) < (b 22 i).toInt) && decide ((b 21 (6 * i + j)).toInt = (q : Int)))) = true := by
        rw [List.any_eq_true]
        refine ⟨i, List.mem_range.mpr i12, ?_⟩
        rw [List.any_eq_true]
        refine ⟨j, List.mem_range.mpr j6, ?_⟩
        rw [decide_eq_true l1, decide_eq_true l2, decide_eq_true l3]; rfl
      rw [tr] at y
      exact of_decide_eq_true y
  · rw [a5]; exact rg_b w7.1
  · rw [a5]; exact rg_b w7.2.1
  · rw [a5]; exact rg_b w7.2.2.1
  · rw [a5]; exact rg_b w7.2.2.2
  · rw [b13] at h1
    have y := all_r w8 h2
    rw [Bool.or_eq_true, Bool.and_eq_true, decide_eq_true_iff, decide_eq_true_iff, decide_eq_true_iff] at y
    rw [b15, b22]
    exact y.resolve_left (by omega)
  · rw [a5]; exact rg_b w9.1
  · have y := all_r w9.2 hk
    rw [beq_iff_eq] at y
    unfold Bq
    rw [a5, b13]
    constructor
    · intro z
      rw [decide_eq_true z] at y
      exact of_decide_eq_true y.symm
    · intro z
      rw [decide_eq_true z] at y
      exact of_decide_eq_true y
  · rw [b13] at hj
    have y := all_r w10 (i := j) (by rw [← men2] at hj; omega)
    rw [Bool.or_eq_true, Bool.and_eq_true, Bool.and_eq_true, decide_eq_true_iff, decide_eq_true_iff] at y
    have y := y.resolve_left (by omega)
    have r8 := (rg_b y.2.1).2
    refine ⟨by rw [a8, b15]; exact y.1, by rw [a8]; exact rg_b y.2.1, fun i hi => ?_⟩
    rw [a8] at hi
    have y2 := all_r y.2.2 (i := i) (by omega)
    rw [Bool.or_eq_true, Bool.and_eq_true, Bool.and_eq_true, Bool.and_eq_true, Bool.and_eq_true, Bool.and_eq_true, decide_eq_true_iff, decide_eq_true_iff] at y2
    have y2 := y2.resolve_left (by omega)
    unfold SXs
    rw [a7, b16, b17, b18, b19, b20]
    exact ⟨⟨rg_b y2.1.1, rg_b y2.1.2.1, rg_b y2.1.2.2.1, rg_b y2.1.2.2.2.1, rg_b y2.1.2.2.2.2⟩, y2.2⟩
end
