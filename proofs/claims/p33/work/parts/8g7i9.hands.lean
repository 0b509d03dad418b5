/-! positions: men in hand, read by both -/
def PHd (V : Nat → Nat) (hc hr : Hp) : Prop := (∀ s : Nat, s < 2 → HdB (hJ hc (V 37) s)) ∧ ∀ d : Nat, d < 24 → (hI hr (V 64) d).toInt = ((hv (hJ hc (V 37) (d % 2)) (d / 2) : Nat) : Int) ∧ (hI hr (V 64) d).toInt ≤ 16
abbrev wcH : List (Nat × Nat) := [(7, 2), (37, 999)]
abbrev wrH : List (Nat × Nat) := [(16, 19), (64, 999)]
section
variable {F : Nat} {V : Nat → Nat} {N : Int32} {hc hr : Hp} {o o' : Int32 × Hp}
theorem ml_h {m : Nat} {x : Int32} : ∀ (f : Nat) {h : Hp} {j : Int32}, sX15_manLetter_2 F f h m x j = some o → o.2 = h := by
  intro f
  induction f with
  | zero => intro h j e; exact absurd e (by rw [sX15_manLetter_2]; exact fun z => nomatch z)
  | succ f ih =>
    intro h j e
    rw [sX15_manLetter_2] at e
    unfold sX15_valueOf at e
    replace e := cl_s e; obtain ⟨_, _, e⟩ := e
    replace e := br_s e
    rcases e with ⟨_, e⟩ | ⟨_, e⟩
    · rw [← Option.some.inj e]
    replace e := cl_s e; obtain ⟨_, _, e⟩ := e
    replace e := cl_s e; obtain ⟨_, _, e⟩ := e
    replace e := (gd_s e).2
    replace e := br_s e
    rcases e with ⟨_, e⟩ | ⟨_, e⟩
    · replace e := cl_s e; obtain ⟨q, eq, e⟩ := e
      rw [← Option.some.inj e, ← Option.some.inj eq]
    replace e := cl_s e; obtain ⟨_, _, e⟩ := e
    replace e := cl_s e; obtain ⟨_, _, e⟩ := e
    replace e := (gd_s e).2
    replace e := br_s e
    rcases e with ⟨_, e⟩ | ⟨_, e⟩
    · replace e := cl_s e; obtain ⟨q, eq, e⟩ := e
      rw [← Option.some.inj e, ← Option.some.inj eq]
    replace e := nm_s e; obtain ⟨_, _, e⟩ := e
    exact ih e
theorem lok_h {h : Hp} {m : Nat} (e : sX15_look h m = some o) : o.2 = h := by
  unfold sX15_look sX15_look_24 at e
  replace e := br_s e
  rcases e with ⟨_, e⟩ | ⟨_, e⟩
  · rw [← Option.some.inj e]
  replace e := cl_s e; obtain ⟨_, _, e⟩ := e
  replace e := (gd_s e).2
  rw [← Option.some.inj e]
/-- with 32 men the reference goes on only at a blank -/
theorem h31_n {k : Hp → Nat → Nat → Int32 → Option (Int32 × Hp)} {p m : Nat} (e : sX15_readHands_31 F k hr m p (32 : Int32) = some o) : o = ((0 : Int32), hr) := by
  unfold sX15_readHands_31 sX15_readHands_63 at e
  replace e := cl_s e; obtain ⟨o1, eo1, e⟩ := e
  rw [lok_h eo1] at e
  replace e := cl_s e; obtain ⟨o2, eo2, e⟩ := e
  unfold sX15_manLetter at eo2
  rw [ml_h F eo2] at e
  replace e := br_s e
  rcases e with ⟨_, e⟩ | ⟨_, e⟩
  · exact (Option.some.inj e).symm
  replace e := br_s e
  rcases e with ⟨_, e⟩ | ⟨n, _⟩
  · exact (Option.some.inj e).symm
  · exact absurd rfl n
end
