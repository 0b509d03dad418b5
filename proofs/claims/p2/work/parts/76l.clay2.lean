/-! lay: ways come from squares of the law -/
section
variable {ρ : Nat → Nat} {c : Cm} {h o : Hp} {x0 L F : Nat}
theorem lay_fx (hF : 700000 ≤ F) (T : TH ρ c h) (r0 : ρ x0 = 11) (rL : ρ L = 2) (e : sX10_lay F h x0 L = some o) : FmX x0 (hI h L 2).toInt o := by
  unfold sX10_lay at e
  replace e := cl_s e
  obtain ⟨r3, e3, e⟩ := e
  replace e := cl_s e
  obtain ⟨o4, e4, e⟩ := e
  replace e := cl_s e
  obtain ⟨r5, e5, e⟩ := e
  replace e := cl_s e
  obtain ⟨o6, e6, e⟩ := e
  have w0 : WR ρ x0 (wI (wR h x0 7 (some L)) x0 8 (0 : Int32)) := fun k r hk er => by
    have er' : (if x0 = x0 ∧ k = 7 then some L else hR h x0 k) = some r := by rw [← r_R]; exact er
    by_cases z : k = 7
    · rw [if_pos ⟨rfl, z⟩] at er'
      rw [← Option.some.inj er', z]; exact rL
    · rw [if_neg (fun y => z y.2)] at er'
      have q : ∀ j m, rfK 11 j = m → m ≠ 0 → hR h x0 j = some r → ρ r = m := fun j m h1 h2 h3 => by
        obtain ⟨q1, f1, g1⟩ := thR T r0 (i := j) (k2 := m) h1 h2
        rw [r_eq f1 h3]; exact g1
      have hk7 : k < 7 := by omega
      match k, hk7, er' with
      | 0, _, er' => exact q 0 50 rfl (by decide) er'
      | 1, _, er' => exact q 1 51 rfl (by decide) er'
      | 2, _, er' => exact q 2 52 rfl (by decide) er'
      | 3, _, er' => exact q 3 53 rfl (by decide) er'
      | 4, _, er' => exact q 4 54 rfl (by decide) er'
      | 5, _, er' => exact q 5 55 rfl (by decide) er'
      | 6, _, er' => exact q 6 56 rfl (by decide) er'
  have q3 : ρ r3 = 53 := w0 3 r3 (by decide) e3
  have n3 : hN (wI (wR h x0 7 (some L)) x0 8 (0 : Int32)) r3 = 1536 := thN T q3 (k := 53) (n := 1536) rfl (by decide)
  unfold sJ7_fill_d0a16 at e4 e6
  have e4' : sJ7_fill_d0a16_6 F F (wI (wR h x0 7 (some L)) x0 8 (0 : Int32)) r3 (0 : Int64) (0 : Int32) (nI 1536) = some o4 := by rw [← n3]; exact e4
  obtain ⟨⟨g4, m4⟩, i4⟩ := fJ F e4'
  obtain ⟨_, _, v4⟩ := fJv (by decide) F (by decide) e4'
  have q5 : ρ r5 = 54 := w0 4 r5 (by decide) (by rw [g4] at e5; exact e5)
  have n5 : hN o4 r5 = 1536 := by rw [m4]; exact thN T q5 (k := 54) (n := 1536) rfl (by decide)
  have e6' : sJ7_fill_d0a16_6 F F o4 r5 (0 : Int64) (0 : Int32) (nI 1536) = some o6 := by rw [← n5]; exact e6
  obtain ⟨⟨g6, m6⟩, i6⟩ := fJ F e6'
  obtain ⟨u6, _, _⟩ := fJv (by decide) F (by decide) e6'
  have k6 : ∀ a i, hR o6 a i = hR (wI (wR h x0 7 (some L)) x0 8 (0 : Int32)) a i := fun a i => by rw [g6, g4]
  have w6 : WR ρ x0 o6 := fun k r hk er => w0 k r hk (by rw [← k6]; exact er)
  have e36 : hR o6 x0 3 = some r3 := by rw [k6]; exact e3
  have e76 : hR o6 x0 7 = some L := by
    rw [k6]
    show hR (wR h x0 7 (some L)) x0 7 = some L
    rw [r_R, if_pos ⟨rfl, rfl⟩]
  have nL : hI o6 L 2 = hI h L 2 := by
    rw [i6, i4, r_I, if_neg (ne_r rL r0 (by decide))]; rfl
  obtain ⟨k7, b7⟩ := lay_28 (n := hI h L 2) r0 rL F w6 e36 e76 nL e
  intro r er i hi s hs hb
  rw [k7.1, e36] at er
  have yy : r = r3 := (Option.some.inj er).symm
  subst yy
  rcases b7 i s hb with z | z
  · have n35 : ¬ r = r5 := fun y => by rw [y, q5] at q3; exact absurd q3 (by decide)
    rw [u6 r i n35, v4 i (by show (0 : Int) ≤ _; omega) hi, bj_zero] at z
    exact absurd z (by decide)
  · exact z
end
