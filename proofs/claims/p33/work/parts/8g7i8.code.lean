/-! a man's letter, or the text's end -/
section
variable {F : Nat} {Z V : Nat → Nat} {N : Int32} {hc hr : Hp} {L lw m : Nat} {o o' : Int32 × Hp}
theorem code_n (A : ZA Z L lw hc hr) (Q : LwQ Z hc hr) (em : hR hr m 4 = some lw) (e : sX1_codeOf F hc L (-1 : Int32) = some o) (e' : sX15_manLetter F hr m (-1 : Int32) = some o') : o.2 = hc ∧ o'.2 = hr ∧ o.1 = (-1 : Int32) ∧ o'.1 = 0 := by
  have z1 : (1 : Int32).toInt = 1 := rfl
  have z2 : (2 : Int32).toInt = 2 := rfl
  have z0 : (0 : Int32).toInt = 0 := rfl
  have zm : (-1 : Int32).toInt = -1 := by decide
  have z32 : (32 : Int32).toInt = 32 := rfl
  unfold sX15_manLetter at e'
  unfold sX1_codeOf sX1_codeOf_16 sX1_codeOf_17 sX1_codeOf_31 sX1_codeOf_57 at e
  replace e := br_s e
  rcases e with ⟨_, e⟩ | ⟨n, _⟩
  rotate_left
  · exact absurd (by decide) n
  replace e := br_s e
  rcases e with ⟨_, e⟩ | ⟨n, _⟩
  rotate_left
  · exact absurd rfl n
  replace e := cl_s e; obtain ⟨o1, eo, e⟩ := e
  unfold sX1_manOf at eo
  have H : ∀ s : Int32, ∀ l : Int32, Rg 97 122 l → ((l = (-1 : Int32)) ↔ ((-1 : Int32) = l ∨ (-1 : Int32) = l - (32 : Int32))) ∧ ((-1 : Int32) = l → s = 1) ∧ ((-1 : Int32) = l - (32 : Int32) → ¬ (-1 : Int32) = l → s = 0) := fun s l hl => by
    have h1 := hl.1
    have h2 := hl.2
    have t : (l - (32 : Int32)).toInt = l.toInt - 32 := by rw [ts (by rw [z32]; omega), z32]
    have n1 : ¬ l = (-1 : Int32) := fun z => by rw [z, zm] at h1; omega
    have n2 : ¬ (-1 : Int32) = l := fun z => n1 z.symm
    have n3 : ¬ (-1 : Int32) = l - (32 : Int32) := fun z => by rw [← z, zm] at t; omega
    exact ⟨⟨fun z => absurd z n1, fun z => z.elim (fun y => absurd y n2) (fun y => absurd y n3)⟩, fun z => absurd z n2, fun z => absurd z n3⟩
  obtain ⟨w1, w2, a0⟩ := ml_p (s := (0 : Int32)) (x := (-1 : Int32)) (b := (-1 : Int32)) A Q em (H 0) F F (by decide) (by decide) eo e'
  obtain ⟨_, _, a1⟩ := ml_p (s := (1 : Int32)) (x := (-1 : Int32)) (b := (-1 : Int32)) A Q em (H 1) F F (by decide) (by decide) eo e'
  have fin : o1.1 = (-1 : Int32) ∧ o'.1 = 0 := by
    rcases a0 with a0 | ⟨r0, a0⟩
    · exact a0
    rcases a1 with a1 | ⟨_, a1⟩
    · exact a1
    exfalso
    have c1 := r0.1
    have c2 := r0.2
    have t1 : ((2 : Int32) * o1.1).toInt = 2 * o1.1.toInt := by rw [tm (by rw [z2]; omega), z2]
    have t2 : ((1 : Int32) + ((2 : Int32) * o1.1)).toInt = 1 + 2 * o1.1.toInt := by rw [ta (by rw [t1, z1]; omega), t1, z1]
    have u0 : o'.1.toInt = 1 + 2 * o1.1.toInt + 0 := by rw [a0, ta (by rw [t2, z0]; omega), t2, z0]
    have u1 : o'.1.toInt = 1 + 2 * o1.1.toInt + 1 := by rw [a1, ta (by rw [t2, z1]; omega), t2, z1]
    omega
  replace e := br_s e
  rcases e with ⟨_, e⟩ | ⟨n, _⟩
  rotate_left
  · exact absurd fin.1 n
  rw [← Option.some.inj e]
  exact ⟨w1, w2, rfl, fin.2⟩
/-- the man at the place -/
theorem man_p {x y : Int32} (S : RdV V N hc hr) (H : (x = (-1 : Int32) ∧ y = (-1 : Int32) ∧ hI hc (V 7) 2 = N) ∨ (hI hc (V 7) 2).toInt < N.toInt ∧ Rg 0 255 x ∧ y.toInt = sg x.toInt) (e : sX1_codeOf F hc (V 2) x = some o) (e' : sX15_manLetter F hr (V 16) y = some o') : o.2 = hc ∧ o'.2 = hr ∧ ((o.1 = (-1 : Int32) ∧ o'.1 = 0) ∨ (Rg 1 24 o'.1 ∧ o.1 = o'.1 - (1 : Int32) ∧ (hI hc (V 7) 2).toInt < N.toInt)) := by
  obtain ⟨_, b, _, _, _, A, Q⟩ := S
  rcases H with ⟨h1, h2, _⟩ | ⟨l, h2, h3⟩
  · rw [h1] at e
    rw [h2] at e'
    obtain ⟨a1, a2, a3⟩ := code_n A Q b.2 e e'
    exact ⟨a1, a2, Or.inl a3⟩
  · obtain ⟨a1, a2, a3⟩ := code_p A Q b.2 h2 h3 e e'
    exact ⟨a1, a2, a3.imp id (fun z => ⟨z.1, z.2, l⟩)⟩
end
