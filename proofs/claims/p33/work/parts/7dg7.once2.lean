/-! castle, checks, outcomes, blast -/
section
variable {T : Nat → Int} {N : Int} {F : Nat} {Z : Nat → Nat} {x2 : Int32} {hc hr oc or hc1 : Hp} {x : Int32} {o o' : Int32 × Hp}
theorem ca_r (n12 : N ≤ 1200) (dg : ∀ j : Nat, (j : Int) < N → 0 ≤ T j ∧ T j ≤ 255) (D : ZD Z) (n2 : x2.toInt = N) (P : PB T N Z hc hr) (ny : ¬ hI hc (Z 2) 4 = (-1 : Int32)) (ea : sX2_advance F hc (Z 3) = some hc1) (e : sX2_takeCastle F hc1 (Z 3) = some o) (e' : sX15_isCastle F hr (Z 16) (Z 82) x2 = some o') : Out T N Z o o' := by
  unfold sX15_isCastle sX15_isCastle_41 at e'
  replace e' := cl_s e'
  obtain ⟨r1, er1, e'⟩ := e'
  have y1 : r1 = Z 15 := r_eq P.1.2.1.1 er1
  rw [y1] at e'
  have ry : hI hc (Z 2) 4 = hI hr (Z 15) 10 := P.1.2.2.2.2.2.1 (4, 10) (by decide)
  rw [← ry] at e'
  replace e' := br_s e'
  rcases e' with ⟨b, _⟩ | ⟨_, e'⟩
  · exact absurd b ny
  replace e' := cl_s e'
  obtain ⟨hr1, en, e'⟩ := e'
  have P1 := ps_a n12 dg D n2 P.1 P.2 ea en
  replace e' := cl_s e'
  obtain ⟨o2, e2, e'⟩ := e'
  unfold sX2_takeCastle sX2_takeCastle_21 at e
  replace e := cl_s e
  obtain ⟨o1, e1, e⟩ := e
  obtain ⟨q1, q2, q3, q4⟩ := tm_r n12 (ps_m P1) e1 e2
  rw [q1] at e
  rw [q2, ← q3] at e'
  replace e := br_s e
  replace e' := br_s e'
  rcases e with ⟨b, e⟩ | ⟨b, e⟩
  · rcases e' with ⟨_, e'⟩ | ⟨b', _⟩
    · rw [← Option.some.inj e, ← Option.some.inj e']; exact out_0 P1
    · exact absurd b b'
  rcases e' with ⟨b', _⟩ | ⟨_, e'⟩
  · exact absurd b' b
  have q4 := q4.resolve_left b
  have m12 := P1.2.2.2.2.2.2.2.2.1.2
  replace e := cl_s e
  obtain ⟨r3, e3, e⟩ := e
  have y3 : r3 = Z 2 := r_eq P1.1.2.1 e3
  rw [y3] at e
  replace e' := cl_s e'
  obtain ⟨r6, e6', e'⟩ := e'
  have y6 : r6 = Z 15 := r_eq P1.2.1.1 e6'
  rw [y6] at e'
  have ry1 : hI hc1 (Z 2) 4 = hI hr1 (Z 15) 10 := P1.2.2.2.2.2.2.1 (4, 10) (by decide)
  rw [← ry1] at e'
  replace e := br_s e
  replace e' := br_s e'
  rcases e with ⟨v, e⟩ | ⟨v, e⟩
  · rcases e' with ⟨_, e'⟩ | ⟨v', _⟩
    · rw [← Option.some.inj e, ← Option.some.inj e']; exact out_0 P1
    · exact absurd v v'
  rcases e' with ⟨v', _⟩ | ⟨_, e'⟩
  · exact absurd v' v
  replace e := cl_s e
  obtain ⟨r7, e7, e⟩ := e
  have y7 : r7 = Z 2 := r_eq P1.1.2.1 e7
  rw [y7] at e
  replace e := nm_s e
  obtain ⟨h9, w9, e⟩ := e
  replace e := cl_s e
  obtain ⟨o10, e10, e⟩ := e
  replace e' := cl_s e'
  obtain ⟨r11, e11, e'⟩ := e'
  have y11 : r11 = Z 15 := r_eq P1.2.1.1 e11
  rw [y11] at e'
  replace e' := nm_s e'
  obtain ⟨h12, w12, e'⟩ := e'
  replace e' := cl_s e'
  obtain ⟨o13, e13, e'⟩ := e'
  unfold sX15_goesOn at e13
  replace e13 := cl_s e13
  obtain ⟨o14, e14, e13⟩ := e13
  rw [← Option.some.inj e13] at e'
  have P9 : PB T N Z h9 h12 := by
    rw [w9, w12]
    exact pb_p (p := (6, 12)) D (by decide) (by decide) ⟨Or.inl (by decide), Or.inl (by decide), Or.inl (by decide), Or.inl (by decide)⟩ (Or.inl (by decide)) (ps_b P1)
  have P10 := ps_a n12 dg D n2 P9.1 P9.2 e10 e14
  rw [← Option.some.inj e, ← Option.some.inj (gd_s e').2]
  exact Or.inr ⟨i1n0, i1n0, P10⟩
theorem ch_r (n12 : N ≤ 1200) (dg : ∀ j : Nat, (j : Int) < N → 0 ≤ T j ∧ T j ≤ 255) (D : ZD Z) (n2 : x2.toInt = N) (P : PB T N Z hc hr) (ea : sX2_advance F hc (Z 3) = some hc1) (e : sX2_takeChecks F hc1 (Z 3) = some o) (e' : sX15_isChecks F hr (Z 16) (Z 82) x2 = some o') : Out T N Z o o' := by
  unfold sX15_isChecks at e'
  replace e' := cl_s e'
  obtain ⟨hr1, en, e'⟩ := e'
  have P1 := ps_a n12 dg D n2 P.1 P.2 ea en
  replace e' := cl_s e'
  obtain ⟨o2, e2, e'⟩ := e'
  unfold sX2_takeChecks at e
  replace e := cl_s e
  obtain ⟨o1, e1, e⟩ := e
  obtain ⟨q1, q2, q3, q4⟩ := in_r P1.2.2.2.2.1 e1 e2
  rw [q1] at e
  rw [q2, ← q3] at e'
  replace e := br_s e
  replace e' := br_s e'
  rcases e with ⟨b, e⟩ | ⟨b, e⟩
  · rcases e' with ⟨_, e'⟩ | ⟨b', _⟩
    · rw [← Option.some.inj e, ← Option.some.inj e']; exact out_0 P1
    · exact absurd b b'
  rcases e' with ⟨b', _⟩ | ⟨_, e'⟩
  · exact absurd b' b
  have q4 := q4 b
  rw [← q4.1] at e'
  replace e := cl_s e
  obtain ⟨r7, e7, e⟩ := e
  have y7 : r7 = Z 2 := r_eq P1.1.2.1 e7
  rw [y7] at e
  replace e := nm_s e
  obtain ⟨h9, w9, e⟩ := e
  replace e := cl_s e
  obtain ⟨o10, e10, e⟩ := e
  replace e' := cl_s e'
  obtain ⟨r11, e11, e'⟩ := e'
  have y11 : r11 = Z 15 := r_eq P1.2.1.1 e11
  rw [y11] at e'
  replace e' := nm_s e'
  obtain ⟨h12, w12, e'⟩ := e'
  replace e' := cl_s e'
  obtain ⟨o13, e13, e'⟩ := e'
  unfold sX15_goesOn at e13
  replace e13 := cl_s e13
  obtain ⟨o14, e14, e13⟩ := e13
  rw [← Option.some.inj e13] at e'
  have P9 : PB T N Z h9 h12 := by
    rw [w9, w12]
    exact pb_p (p := (7, 20)) D (by decide) (by decide) ⟨Or.inl (by decide), Or.inl (by decide), Or.inl (by decide), Or.inl (by decide)⟩ (Or.inl (by decide)) (ps_b P1)
  have P10 := ps_a n12 dg D n2 P9.1 P9.2 e10 e14
  rw [← Option.some.inj e, ← Option.some.inj (gd_s e').2]
  exact Or.inr ⟨i1n0, i1n0, P10⟩
/-- won or lost -/
theorem wl_r (n12 : N ≤ 1200) (dg : ∀ j : Nat, (j : Int) < N → 0 ≤ T j ∧ T j ≤ 255) (D : ZD Z) (n2 : x2.toInt = N) {p : Nat × Nat} {y : Int32} (hp : p = (8, 22) ∨ p = (9, 23)) (hy : y = 0 ↔ p = (9, 23)) (P : PB T N Z hc hr) (ea : sX2_advance F hc (Z 3) = some hc1) (e : sX2_wonOrLost F hc1 (Z 3) = some o) (e' : sX15_isOutcome F hr (Z 16) (Z 82) x2 y = some o') : ((o.1 = 0 ∧ o'.1 = 0 ∧ Fl2 Z o.2 o'.2) ∨ (¬ o.1 = 0 ∧ ¬ o'.1 = 0 ∧ PS T N Z (wI o.2 (Z 2) p.1 o.1) o'.2)) ∧ ∀ a i, hR o.2 a i = hR hc1 a i := by
  unfold sX15_isOutcome at e'
  replace e' := cl_s e'
  obtain ⟨hr1, en, e'⟩ := e'
  have P1 := ps_a n12 dg D n2 P.1 P.2 ea en
  replace e' := cl_s e'
  obtain ⟨o2, e2, e'⟩ := e'
  unfold sX2_wonOrLost at e
  replace e := cl_s e
  obtain ⟨o1, e1, e⟩ := e
  obtain ⟨q1, q2, q3⟩ := iw_r n12 P1.2.2.1 P1.2.2.2.1 P1.2.2.2.2.1 (by rfl) (by decide) e1 e2
  rw [q1] at e
  rw [q2, ← q3] at e'
  -- with the word told
  have fin : ∀ {v : Int32}, ¬ v = 0 → sX2_wonOrLost_27 F hc1 (Z 3) v = some o → sX15_isOutcome_35 F hr1 (Z 16) (Z 82) x2 y v = some o' → ((o.1 = 0 ∧ o'.1 = 0 ∧ Fl2 Z o.2 o'.2) ∨ (¬ o.1 = 0 ∧ ¬ o'.1 = 0 ∧ PS T N Z (wI o.2 (Z 2) p.1 o.1) o'.2)) ∧ ∀ a i, hR o.2 a i = hR hc1 a i := fun {v} hv e e' => by
    unfold sX2_wonOrLost_27 sX2_wonOrLost_36 at e
    replace e := br_s e
    rcases e with ⟨b, _⟩ | ⟨_, e⟩
    · exact absurd b hv
    replace e := cl_s e
    obtain ⟨o3, e3, e⟩ := e
    have P3 : PB T N Z (wI hc1 (Z 2) p.1 v) (wI hr1 (Z 15) p.2 v) := by
      rcases hp with rfl | rfl
      · exact pb_p (p := (8, 22)) D (by decide) (by decide) ⟨Or.inl (by decide), Or.inl (by decide), Or.inl (by decide), Or.inl (by decide)⟩ (Or.inl (by decide)) (ps_b P1)
      · exact pb_p (p := (9, 23)) D (by decide) (by decide) ⟨Or.inl (by decide), Or.inl (by decide), Or.inl (by decide), Or.inl (by decide)⟩ (Or.inl (by decide)) (ps_b P1)
    have last : sX15_isOutcome_69 F (wI hr1 (Z 15) p.2 v) (Z 16) (Z 82) x2 = some o' := by
      unfold sX15_isOutcome_35 at e'
      replace e' := br_s e'
      rcases e' with ⟨b, _⟩ | ⟨_, e'⟩
      · exact absurd b hv
      replace e' := br_s e'
      rcases e' with ⟨b, e'⟩ | ⟨b, e'⟩
      · replace e' := cl_s e'
        obtain ⟨r4, e4, e'⟩ := e'
        have y4 : r4 = Z 15 := r_eq P1.2.1.1 e4
        rw [y4] at e'
        rw [hy.mp b]
        exact e'
      · replace e' := cl_s e'
        obtain ⟨r4, e4, e'⟩ := e'
        have y4 : r4 = Z 15 := r_eq P1.2.1.1 e4
        rw [y4] at e'
        rw [hp.resolve_right (fun z => b (hy.mpr z))]
        exact e'
    unfold sX15_isOutcome_69 at last
    replace last := cl_s last
    obtain ⟨o13, e13, last⟩ := last
    unfold sX15_goesOn at e13
    replace e13 := cl_s e13
    obtain ⟨o14, e14, e13⟩ := e13
    rw [← Option.some.inj e13] at last
    rw [← Option.some.inj e, ← Option.some.inj (gd_s last).2]
    -- the class writes behind its reading on, the reference ahead of it
    obtain ⟨P9, K9, _⟩ := ps_aw n12 dg D n2 (k := 2) (by decide) (by decide) (by decide) (by decide) P3 e3 e14
    exact ⟨Or.inr ⟨hv, i1n0, P9⟩, K9.1.1⟩
  replace e := br_s e
  replace e' := br_s e'
  rcases e with ⟨b, e⟩ | ⟨b, e⟩
  rotate_left
  · rcases e' with ⟨b', _⟩ | ⟨_, e'⟩
    · exact absurd b' b
    · exact fin (by decide) e e'
  rcases e' with ⟨_, e'⟩ | ⟨b', _⟩
  rotate_left
  · exact absurd b b'
  replace e := cl_s e
  obtain ⟨o3, e3, e⟩ := e
  replace e' := cl_s e'
  obtain ⟨o4, e4, e'⟩ := e'
  obtain ⟨u1, u2, u3⟩ := iw_r n12 P1.2.2.1 P1.2.2.2.1 P1.2.2.2.2.1 (by rfl) (by decide) e3 e4
  rw [u1] at e
  rw [u2, ← u3] at e'
  replace e := br_s e
  replace e' := br_s e'
  rcases e with ⟨b2, e⟩ | ⟨b2, e⟩
  · rcases e' with ⟨_, e'⟩ | ⟨b', _⟩
    rotate_left
    · exact absurd b2 b'
    unfold sX2_wonOrLost_27 sX2_wonOrLost_36 at e
    replace e := br_s e
    rcases e with ⟨_, e⟩ | ⟨n, _⟩
    rotate_left
    · exact absurd rfl n
    unfold sX15_isOutcome_35 at e'
    replace e' := br_s e'
    rcases e' with ⟨_, e'⟩ | ⟨n, _⟩
    rotate_left
    · exact absurd rfl n
    rw [← Option.some.inj e, ← Option.some.inj e']
    exact ⟨Or.inl ⟨rfl, rfl, ps_fl P1⟩, fun _ _ => rfl⟩
  · rcases e' with ⟨b', _⟩ | ⟨_, e'⟩
    · exact absurd b' b2
    · exact fin (by decide) e e'
end
