def qq0 (k z : Nat) : Qs := qnC ((0, 0), []) k 0 z
def okQ (m : Option Qs) (P : Qs → Bool) : Bool := match m with
  | some q => P q
  | none => false
def okV (m : Option (Int32 × Qs)) (v : Int32) (s : Nat × Nat) : Bool := match m with
  | some o => decide (o.1 = v) && decide (o.2.1 = s)
  | none => false
theorem okQ_e {m : Option Qs} {P : Qs → Bool} (h : okQ m P = true) : ∃ q, m = some q ∧ P q = true := by
  cases m with
  | none => cases h
  | some q => exact ⟨q, rfl, h⟩
theorem okV_e {m : Option (Int32 × Qs)} {v : Int32} {s : Nat × Nat} (h : okV m v s = true) : ∃ q, m = some (v, q) ∧ q.1 = s := by
  cases m with
  | none => cases h
  | some o =>
    have h1 := of_decide_eq_true (Bool.and_eq_true_iff.mp h).1
    have h2 := of_decide_eq_true (Bool.and_eq_true_iff.mp h).2
    exact ⟨o.2, by rw [← h1], h2⟩
abbrev lnW' : List Nat := [98305, 172032, 172032, 1536, 1536, 64, 512]
abbrev lnC' : List Nat := [12, 96, 12, 72, 12, 64, 64]
def rA : List (Nat × Nat × Nat) := [(0, 0, 1), (0, 1, 3), (0, 2, 5), (0, 3, 13), (0, 4, 21), (0, 5, 22), (0, 6, 30), (0, 7, 38), (0, 8, 39), (0, 9, 48), (0, 10, 62), (0, 11, 76), (0, 12, 147), (0, 13, 148), (0, 14, 149), (0, 15, 150), (0, 16, 151), (0, 17, 152),
  (1, 0, 2), (3, 0, 4), (5, 14, 6), (5, 15, 7), (5, 16, 8), (5, 17, 9), (5, 18, 10), (5, 19, 11), (5, 20, 12), (13, 14, 14), (13, 15, 15), (13, 16, 16), (13, 17, 17), (13, 18, 18), (13, 19, 19), (13, 20, 20),
  (22, 0, 23), (22, 1, 24), (22, 2, 25), (22, 3, 26), (22, 4, 27), (22, 5, 28), (22, 6, 29), (38, 0, 5), (148, 0, 153), (153, 0, 154), (153, 1, 155), (153, 2, 156), (153, 3, 157), (153, 4, 158)]
def nA : List (Nat × Nat) := [(2, 1200), (4, 512), (6, 12), (7, 96), (8, 12), (9, 72), (10, 12), (11, 64), (12, 64), (14, 12), (15, 96), (16, 12), (17, 72), (18, 12), (19, 64), (20, 64), (23, 98305), (24, 172032), (25, 172032), (26, 1536), (27, 1536), (28, 64), (29, 512), (148, 60), (149, 60), (152, 8), (154, 64), (155, 2), (156, 2), (157, 2), (158, 2)]
def iA : List (Nat × Nat × Int32) := [(3, 1, 0), (5, 0, 8), (5, 1, 8), (5, 2, 64), (5, 3, 6), (5, 4, 0), (5, 5, 5), (5, 7, 0), (5, 10, 0), (48, 6, 0), (62, 10, 0), (76, 14, 0), (76, 15, 0), (6, 0, 107), (6, 1, 113), (6, 2, 114), (6, 3, 98), (6, 4, 110), (6, 5, 112), (8, 0, 2), (8, 1, 2), (8, 2, 1), (8, 3, 1), (8, 4, 1), (8, 5, 4), (8, 6, 0), (8, 7, 0), (8, 8, 0), (8, 9, 0), (8, 10, 0), (8, 11, 0)]
def ckR (q : Qs) (l : List (Nat × Nat × Nat)) : Bool := l.all fun x => decide (cR q x.1 x.2.1 = some x.2.2)
def ckN (q : Qs) (l : List (Nat × Nat)) : Bool := l.all fun x => decide (cN q x.1 = x.2)
def ckI (q : Qs) (l : List (Nat × Nat × Int32)) : Bool := l.all fun x => decide (cI q x.1 x.2.1 = x.2.2)
def ckA (q : Qs) : Bool := decide (q.1 = (513, 522076)) && (ckR q rA && (ckN q nA && (ckI q iA && (((List.range 60).all fun i => decide (cI q 149 i = 0)) && (((List.range 8).all fun i => decide (cI q 152 i = -1)) && (((List.range 512).all fun i => decide (cI q 29 i = 0)) && (decide (¬ (cI q 7 42 &&& 32 = 0)) && (decide (q.2.length = 9) && (decide ((lget [] q.2 8).length = 1) && decide ((lget [] (lget [] q.2 8) 0).length = 1))))))))))
def rB : List (Nat × Nat × Nat) := [(0, 0, 1), (0, 2, 2), (0, 4, 13), (0, 5, 3), (0, 14, 23), (0, 15, 24), (0, 21, 25), (0, 39, 69)]
def nB : List (Nat × Nat) := [(1, 1220), (2, 256), (24, 60), (69, 8)]
def iB : List (Nat × Nat × Int32) := [(0, 1, 0), (0, 3, 0), (0, 11, 8), (0, 12, 8), (0, 13, 64), (0, 44, 0), (0, 50, 0), (0, 65, 0), (13, 2, 6), (13, 10, 0), (13, 11, 5)]
def ckB (q : Qs) : Bool := decide (q.1 = (97, 1023333)) && (ckR q rB && (ckN q nB && (ckI q iB && (((List.range 60).all fun i => decide (cI q 24 i = 0)) && (((List.range 8).all fun i => decide (cI q 69 i = -1)))))))
