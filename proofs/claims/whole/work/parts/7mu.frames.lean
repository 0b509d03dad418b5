/-! what a reading writes: the class's scribe and one place; the reference's own and its board -/
def WRd (n q a _i : Nat) : Prop := a = n + 38 ∨ (n + (153 + 6 * q) ≤ a ∧ a < n + (153 + 6 * q) + 6)
def WIp (n a i : Nat) : Prop := (a = n + 513 ∧ 17 ≤ i ∧ i ≤ 20) ∨ (n + 538 ≤ a ∧ a < n + 543)
section
variable {n q : Nat} {g h o : Hp} {W : Nat → Nat → Prop}
theorem fw_wI {a i : Nat} {v : Int32} (f : FrW W h o) (w : W a i) : FrW W h (wI o a i v) := ⟨f.1, fun b j l nw => by
  have := f.2 b j l nw
  rw [r_I, if_neg (fun z => nw (by rw [z.1, z.2]; exact w))]
  exact this⟩
theorem fw_wJ {a i : Nat} {v : Int64} (f : FrW W h o) (w : W a i) : FrW W h (wJ o a i v) := ⟨f.1, fun b j l nw => by
  have := f.2 b j l nw
  rw [r_J, if_neg (fun z => nw (by rw [z.1, z.2]; exact w))]
  exact this⟩
theorem fw_wR {a i : Nat} {v : Option Nat} (f : FrW W h o) : FrW W h (wR o a i v) := ⟨f.1, fun b j l nw => f.2 b j l nw⟩
theorem pl_e (k : DyK n g h) (hq : q < 60) {p : Nat × Nat} (hp : p ∈ fsP) : hR h (n + (153 + 6 * q)) p.1 = some (n + (153 + 6 * q) + p.2) := (k.1.2.1.2.1 q hq).2 p hp
end
