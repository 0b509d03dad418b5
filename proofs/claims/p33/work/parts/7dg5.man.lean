/-! men told by their letters -/
section
variable {T : Nat → Int} {N : Int} {F : Nat} {Z : Nat → Nat} {x2 : Int32} {hc hr oc or : Hp} {x : Int32}
theorem manf_r (L : LSm Z hc hr) (C : ZC Z hc) (R : ZR Z hr) : ∀ (f g : Nat) {j : Int32} {o o' : Int32 × Hp}, 0 ≤ j.toInt → j.toInt ≤ 12 → sX1_manOf_2 F f hc (Z 2) x j = some o → sX14_find_2 F g hr (Z 15) x j = some o' → o.2 = hc ∧ o'.2 = hr ∧ o.1 = o'.1 ∧ (o.1 = (-1 : Int32) ∨ (0 ≤ o.1.toInt ∧ o.1.toInt < (hI hc (Z 2) 3).toInt)) := by
  have z1 : (1 : Int32).toInt = 1 := rfl
  obtain ⟨mm, s4, s5⟩ := L
  intro f
  induction f with
  | zero => intro g j o o' _ _ e; exact absurd e (by rw [sX1_manOf_2]; exact fun z => nomatch z)
  | succ f ih =>
    intro g j o o' j0 j12 e e'
    cases g with
    | zero => exact absurd e' (by rw [sX14_find_2]; exact fun z => nomatch z)
    | succ g =>
      rw [sX1_manOf_2] at e
      rw [sX14_find_2, ← mm] at e'
      replace e := br_s e
      replace e' := br_s e'
      rcases e with ⟨l, e⟩ | ⟨l, e⟩
      · rcases e' with ⟨_, e'⟩ | ⟨l', _⟩
        · rw [← Option.some.inj e, ← Option.some.inj e']; exact ⟨rfl, rfl, rfl, Or.inl rfl⟩
        · exact absurd l l'
      rcases e' with ⟨l', _⟩ | ⟨_, e'⟩
      · exact absurd l' l
      have l := nle_i l
      have m12 := s4.2
      replace e := cl_s e
      obtain ⟨r2, e2, e⟩ := e
      have y2 : r2 = Z 27 := r_eq C.2.2.2.1 e2
      rw [y2] at e
      replace e := (gd_s e).2
      replace e' := cl_s e'
      obtain ⟨r3, e3, e'⟩ := e'
      have y3 : r3 = Z 73 := r_eq R.2.1 e3
      rw [y3] at e'
      replace e' := (gd_s e').2
      have nx := nc_i j0
      rw [← (s5 j.toNatClampNeg (by omega)).1] at e'
      replace e := br_s e
      replace e' := br_s e'
      rcases e with ⟨b, e⟩ | ⟨b, e⟩
      · rcases e' with ⟨_, e'⟩ | ⟨b', _⟩
        · rw [← Option.some.inj e, ← Option.some.inj e']; exact ⟨rfl, rfl, rfl, Or.inr ⟨j0, l⟩⟩
        · exact absurd b b'
      rcases e' with ⟨b', _⟩ | ⟨_, e'⟩
      · exact absurd b' b
      replace e := nm_s e
      obtain ⟨v6, w6, e⟩ := e
      replace e' := nm_s e'
      obtain ⟨v7, w7, e'⟩ := e'
      rw [w7, ← w6] at e'
      have t6 : v6.toInt = j.toInt + 1 := by rw [w6, ta (by rw [z1]; omega), z1]
      exact ih g (by omega) (by omega) e e'
/-- one letter: the class's byte is the reference's -/
theorem one_r (n12 : N ≤ 1200) (P : PMn T N Z hc hr) {o : Int32 × Hp} (e : sX2_oneLetter hc (Z 3) = some o) : o.2 = hc ∧ ((o.1 = (-1 : Int32) ∧ ¬ (hI hr (Z 16) 6 = (1 : Int32) ∧ hI hr (Z 16) 8 = (hI hr (Z 16) 7) + (1 : Int32))) ∨ (¬ o.1 = (-1 : Int32) ∧ (hI hr (Z 16) 6 = (1 : Int32) ∧ hI hr (Z 16) 8 = (hI hr (Z 16) 7) + (1 : Int32)) ∧ o.1 = hI hr (Z 82) (hI hr (Z 16) 7).toNatClampNeg ∧ Rg 97 122 o.1)) := by
  obtain ⟨p1, p2, p3, p4, p5, p6⟩ := P
  have f0 := ts_f p5
  have b0 := ts_b p5
  have z1 : (1 : Int32).toInt = 1 := rfl
  have kk : hI hc (Z 3) 4 = (1 : Int32) ↔ hI hr (Z 16) 6 = (1 : Int32) := by
    rw [← Int32.toInt_inj, ← Int32.toInt_inj, f0.2.2.1, z1]
    unfold km
    constructor
    · intro z; rw [if_neg (by omega), if_neg (by omega)]; exact z
    · intro z
      by_cases q0 : (hI hc (Z 3) 4).toInt = 0
      · rw [if_pos q0] at z; omega
      · rw [if_neg q0] at z
        by_cases q4 : (hI hc (Z 3) 4).toInt = 4
        · rw [if_pos q4] at z; omega
        · rw [if_neg q4] at z; exact z
  have ll : (hI hc (Z 3) 3) - (hI hc (Z 3) 2) = (1 : Int32) ↔ hI hr (Z 16) 8 = (hI hr (Z 16) 7) + (1 : Int32) := by
    rw [← f0.1, ← f0.2.1, ← Int32.toInt_inj, ← Int32.toInt_inj, ts (by omega), ta (by rw [z1]; omega), z1]
    constructor <;> intro z <;> omega
  unfold sX2_oneLetter sX2_oneLetter_35 sX2_oneLetter_36 at e
  replace e := br_s e
  rcases e with ⟨k, e⟩ | ⟨k, e⟩
  rotate_left
  · rw [← Option.some.inj e]; exact ⟨rfl, Or.inl ⟨rfl, fun z => k (kk.mpr z.1)⟩⟩
  replace e := br_s e
  rcases e with ⟨l, e⟩ | ⟨l, e⟩
  rotate_left
  · rw [← Option.some.inj e]; exact ⟨rfl, Or.inl ⟨rfl, fun z => l (ll.mpr z.2)⟩⟩
  replace e := cl_s e
  obtain ⟨r3, e3, e⟩ := e
  have y3 : r3 = Z 10 := r_eq p3.1 e3
  rw [y3] at e
  replace e := cl_s e
  obtain ⟨o4, e4, e⟩ := e
  obtain ⟨q4, v4⟩ := byte_c p3 e4
  rw [q4] at e
  obtain ⟨p, kd, A, _, _⟩ := id p5
  obtain ⟨lt, lw⟩ := tk_w A (by rw [k]; rfl)
  have lws := lw (hI hc (Z 3) 2).toInt.toNat (by omega) (by omega)
  have v4 : o4.1.toInt = T (hI hc (Z 3) 2).toInt.toNat := v4.elim (fun z => z.2.2) (fun z => absurd ⟨by omega, by omega⟩ z.1)
  have nx := nc_i (x := hI hc (Z 3) 2) (by omega)
  have w : (hI hc (Z 3) 2).toNatClampNeg = (hI hc (Z 3) 2).toInt.toNat := by omega
  have bm : (-1 : Int32).toInt = -1 := rfl
  have rg : Rg 97 122 o4.1 := by rw [Rg, v4]; exact lws
  rw [← Option.some.inj e]
  refine ⟨rfl, Or.inr ⟨fun z => ?_, ⟨kk.mp k, ll.mp l⟩, ?_, rg⟩⟩
  · have : o4.1.toInt = -1 := by rw [z]; rfl
    omega
  · show o4.1 = _
    apply Int32.toInt_inj.mp
    rw [← f0.1, p4 _ (by omega), w, v4]
    unfold sg
    rw [if_pos (by omega)]
/-- the man that the token tells -/
theorem tm_r (n12 : N ≤ 1200) (P : PMn T N Z hc hr) {o o' : Int32 × Hp} (e : sX2_toldMan F hc (Z 3) = some o) (e' : sX15_manAt F hr (Z 16) (Z 82) = some o') : o.2 = hc ∧ o'.2 = hr ∧ o.1 = o'.1 ∧ (o.1 = (-1 : Int32) ∨ (0 ≤ o.1.toInt ∧ o.1.toInt < (hI hc (Z 2) 3).toInt)) := by
  unfold sX2_toldMan sX2_toldMan_22 at e
  replace e := cl_s e
  obtain ⟨o1, e1, e⟩ := e
  obtain ⟨q1, v1⟩ := one_r n12 P e1
  rw [q1] at e
  unfold sX15_manAt sX15_manAt_37 sX15_manAt_38 at e'
  obtain ⟨p1, p2, p3, p4, p5, p6⟩ := P
  rcases v1 with ⟨v1, n1⟩ | ⟨v1, ⟨k1, l1⟩, y1, _⟩
  · replace e := br_s e
    rcases e with ⟨_, e⟩ | ⟨nb, _⟩
    rotate_left
    · exact absurd v1 nb
    replace e' := br_s e'
    rcases e' with ⟨k, e'⟩ | ⟨k, e'⟩
    · replace e' := br_s e'
      rcases e' with ⟨l, e'⟩ | ⟨l, e'⟩
      · exact absurd ⟨k, l⟩ n1
      · rw [← Option.some.inj e, ← Option.some.inj e']; exact ⟨rfl, rfl, rfl, Or.inl rfl⟩
    · rw [← Option.some.inj e, ← Option.some.inj e']; exact ⟨rfl, rfl, rfl, Or.inl rfl⟩
  · replace e := br_s e
    rcases e with ⟨nb, _⟩ | ⟨_, e⟩
    · exact absurd nb v1
    replace e' := br_s e'
    rcases e' with ⟨_, e'⟩ | ⟨k, _⟩
    rotate_left
    · exact absurd k1 k
    replace e' := br_s e'
    rcases e' with ⟨_, e'⟩ | ⟨l, _⟩
    rotate_left
    · exact absurd l1 l
    replace e := cl_s e
    obtain ⟨r3, e3, e⟩ := e
    have y3 : r3 = Z 2 := r_eq p1.2.1 e3
    rw [y3] at e
    replace e := cl_s e
    obtain ⟨o4, e4, e⟩ := e
    replace e' := cl_s e'
    obtain ⟨r5, e5, e'⟩ := e'
    have y5 : r5 = Z 15 := r_eq p2.1 e5
    rw [y5] at e'
    replace e' := (gd_s e').2
    rw [← y1] at e'
    replace e' := cl_s e'
    obtain ⟨o6, e6, e'⟩ := e'
    unfold sX1_manOf at e4
    unfold sX14_find at e6
    obtain ⟨a1, a2, a3, a4⟩ := manf_r p6 p1 p2 F F (show (0 : Int) ≤ (0 : Int32).toInt by decide) (by decide) e4 e6
    rw [← Option.some.inj e, ← Option.some.inj e']
    exact ⟨a1, a2, a3, a4⟩
/-- what the reference finds is a man, or none -/
theorem mn_2 : ∀ (g : Nat) {j : Int32} {o' : Int32 × Hp}, 0 ≤ j.toInt → j.toInt ≤ 12 → (hI hr (Z 15) 2).toInt ≤ 12 → sX14_find_2 F g hr (Z 15) x j = some o' → o'.2 = hr ∧ (o'.1 = (-1 : Int32) ∨ (0 ≤ o'.1.toInt ∧ o'.1.toInt < (hI hr (Z 15) 2).toInt)) := by
  have z1 : (1 : Int32).toInt = 1 := rfl
  intro g
  induction g with
  | zero => intro j o' _ _ _ e'; exact absurd e' (by rw [sX14_find_2]; exact fun z => nomatch z)
  | succ g ih =>
    intro j o' j0 j12 m12 e'
    rw [sX14_find_2] at e'
    replace e' := br_s e'
    rcases e' with ⟨_, e'⟩ | ⟨l, e'⟩
    · rw [← Option.some.inj e']; exact ⟨rfl, Or.inl rfl⟩
    have l := nle_i l
    replace e' := cl_s e'
    obtain ⟨r3, _, e'⟩ := e'
    replace e' := (gd_s e').2
    replace e' := br_s e'
    rcases e' with ⟨_, e'⟩ | ⟨_, e'⟩
    · rw [← Option.some.inj e']; exact ⟨rfl, Or.inr ⟨j0, l⟩⟩
    replace e' := nm_s e'
    obtain ⟨v7, w7, e'⟩ := e'
    have t7 : v7.toInt = j.toInt + 1 := by rw [w7, ta (by rw [z1]; omega), z1]
    exact ih (by omega) (by omega) m12 e'
theorem mn_b (n12 : N ≤ 1200) (P : PMn T N Z hc hr) {o' : Int32 × Hp} (e' : sX15_manAt F hr (Z 16) (Z 82) = some o') : o'.2 = hr ∧ (o'.1 = (-1 : Int32) ∨ (0 ≤ o'.1.toInt ∧ o'.1.toInt < (hI hc (Z 2) 3).toInt)) := by
  obtain ⟨p1, p2, p3, p4, p5, mm, s4, s5⟩ := P
  unfold sX15_manAt sX15_manAt_37 sX15_manAt_38 at e'
  replace e' := br_s e'
  rcases e' with ⟨_, e'⟩ | ⟨_, e'⟩
  rotate_left
  · rw [← Option.some.inj e']; exact ⟨rfl, Or.inl rfl⟩
  replace e' := br_s e'
  rcases e' with ⟨_, e'⟩ | ⟨_, e'⟩
  rotate_left
  · rw [← Option.some.inj e']; exact ⟨rfl, Or.inl rfl⟩
  replace e' := cl_s e'
  obtain ⟨r5, e5, e'⟩ := e'
  have y5 : r5 = Z 15 := r_eq p2.1 e5
  rw [y5] at e'
  replace e' := (gd_s e').2
  replace e' := cl_s e'
  obtain ⟨o6, e6, e'⟩ := e'
  unfold sX14_find at e6
  obtain ⟨a1, a2⟩ := mn_2 F (show (0 : Int) ≤ (0 : Int32).toInt by decide) (by decide) (by rw [← mm]; exact s4.2) e6
  rw [← Option.some.inj e', mm]
  exact ⟨a1, a2⟩
/-- a sentence of a kind that is told once at most -/
theorem onc_r {q : Nat} {w : Int32} (hq : ∀ y : Fin 1024, (((nI y.val) &&& w = 0) ↔ (((nI y.val) >>> ((nI q) &&& 31)) &&& (1 : Int32)) = 0) ∧ ((nI y.val) ||| w) = ((nI y.val) ||| ((1 : Int32) <<< ((nI q) &&& 31))) ∧ Rg 0 1023 ((nI y.val) ||| w) ∧ (((nI y.val) ||| w) &&& (32 : Int32) = 0 → (nI y.val) &&& (32 : Int32) = 0) ∧ (((nI y.val) ||| w) &&& (128 : Int32) = 0 → (nI y.val) &&& (128 : Int32) = 0)) (S : LwS Z hc hr) {o' : Int32 × Hp} (e' : sX15_isOnce hr (Z 16) (nI q) = some o') : o'.2 = wI hr (Z 16) 10 ((hI hc (Z 3) 6) ||| w) ∧ (o'.1 = 0 ↔ ¬ (hI hc (Z 3) 6) &&& w = 0) ∧ Rg 0 1023 ((hI hc (Z 3) 6) ||| w) ∧ (((hI hc (Z 3) 6) ||| w) &&& (32 : Int32) = 0 → (hI hc (Z 3) 6) &&& (32 : Int32) = 0) ∧ (((hI hc (Z 3) 6) ||| w) &&& (128 : Int32) = 0 → (hI hc (Z 3) 6) &&& (128 : Int32) = 0) := by
  have t := S.1
  have hh := small (P := fun y => (((y &&& w = 0) ↔ ((y >>> ((nI q) &&& 31)) &&& (1 : Int32)) = 0) ∧ (y ||| w) = (y ||| ((1 : Int32) <<< ((nI q) &&& 31))) ∧ Rg 0 1023 (y ||| w) ∧ ((y ||| w) &&& (32 : Int32) = 0 → y &&& (32 : Int32) = 0) ∧ ((y ||| w) &&& (128 : Int32) = 0 → y &&& (128 : Int32) = 0))) (n := 1023) t.2 (by decide) hq
  unfold sX15_isOnce sX15_isOnce_16 at e'
  rw [← t.1] at e'
  replace e' := br_s e'
  rcases e' with ⟨b, e'⟩ | ⟨b, e'⟩
  · replace e' := nm_s e'
    obtain ⟨h1, w1, e'⟩ := e'
    rw [← Option.some.inj (gd_s e').2]
    refine ⟨by rw [w1, hh.2.1], ⟨fun z => absurd z i1n0, fun z => absurd (hh.1.mpr b) z⟩, hh.2.2⟩
  · replace e' := nm_s e'
    obtain ⟨h1, w1, e'⟩ := e'
    rw [← Option.some.inj (gd_s e').2]
    refine ⟨by rw [w1, hh.2.1], ⟨fun _ z => b (hh.1.mp z), fun _ => rfl⟩, hh.2.2⟩
end
