def h00 (n : Nat) : Hp := ((n, 0), fun _ => 99, fun _ => 0, fun _ _ => 0, fun _ _ => 0, fun _ _ => none)
def PureLaw : Prop := ∀ (n L : Nat) (xs : Nat → Int32), L ≤ 3072 → ∃ (F : Nat) (o : Int32 × Hp), sL_law F L xs (h00 n) = some o ∧ o.1 = 1 ∧ hS o.2 - n ≤ 600000 ∧ hL o.2 ≤ 7302250
