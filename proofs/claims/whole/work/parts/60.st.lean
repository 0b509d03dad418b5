def St (A B : Hp → Option (Int32 × Hp)) (h : Hp) (Q : Hp → Prop) : Prop := ∃ (a : Int32) (h1 h2 : Hp), A h = some (a, h1) ∧ B h1 = some (a, h2) ∧ Q h2
theorem g3 {β : Type} {L j : Nat} (i : Nat) (k : Int32) (z : Option β) (e : k = nI j) (hj : j < L) (hL : L ≤ 3072) : gd (inB (nI i + k) L) z = gd (inB (nI (i + j)) L) z := by rw [e, z_add]
theorem g4 {β : Type} {L j : Nat} (z : Option β) (hj : j < L) (hL : L ≤ 3072) : gd (inB (nI j) L) z = z := gd_pos (by rw [z_inB (by omega)]; exact hj)
theorem g5 {β : Type} {L i : Nat} (j : Nat) (z : Option β) (hj : i + j < L) (hL : L ≤ 3072) : gd (inB (nI i + nI j) L) z = z := by rw [z_add]; exact g4 z hj hL
theorem gl1 {β : Type} {L i : Nat} (z : Option β) (hj : i + 1 < L) (hL : L ≤ 3072) : gd (inB (nI i + (1 : Int32)) L) z = z := g5 1 z hj hL
theorem gl2 {β : Type} {L i : Nat} (z : Option β) (hj : i + 2 < L) (hL : L ≤ 3072) : gd (inB (nI i + (2 : Int32)) L) z = z := g5 2 z hj hL
theorem gl3 {β : Type} {L i : Nat} (z : Option β) (hj : i + 3 < L) (hL : L ≤ 3072) : gd (inB (nI i + (3 : Int32)) L) z = z := g5 3 z hj hL
theorem gl4 {β : Type} {L i : Nat} (z : Option β) (hj : i + 4 < L) (hL : L ≤ 3072) : gd (inB (nI i + (4 : Int32)) L) z = z := g5 4 z hj hL
theorem gl5 {β : Type} {L i : Nat} (z : Option β) (hj : i + 5 < L) (hL : L ≤ 3072) : gd (inB (nI i + (5 : Int32)) L) z = z := g5 5 z hj hL
