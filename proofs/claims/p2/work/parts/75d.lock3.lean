/-! a man that is led to a square where another stands attacks it: lead and attacks -/
def rkV (a b s sd : Int32) : Int32 := if sd = 0 then s / a + (1 : Int32) else b - s / a
theorem rk_val {h : Hp} {x0 : Nat} {s sd : Int32} {o : Int32 × Hp} (e : sX15_rankFor h x0 s sd = some o) : o = (rkV (hI h x0 11) (hI h x0 12) s sd, h) := by
  unfold sX15_rankFor sX15_rankFor_26 at e
  unfold rkV
  replace e := br_s e; rcases e with ⟨c, e⟩ | ⟨c, e⟩
  · rw [if_pos c]; exact (Option.some.inj (gd_s e).2).symm
  · rw [if_neg c]; exact (Option.some.inj (gd_s e).2).symm
def fmV (r a b s sd : Int32) : Int32 := if r = 0 then 1 else if r = rkV a b s sd then 1 else 0
theorem fm_val {h : Hp} {x0 R Fr : Nat} {st s sd : Int32} {o : Int32 × Hp} (eR : hR h x0 4 = some R) (eF : hR h R 9 = some Fr) (e : sX15_isFrom h x0 st s sd = some o) : o = (fmV (hI h Fr st.toNatClampNeg) (hI h x0 11) (hI h x0 12) s sd, h) := by
  unfold sX15_isFrom sX15_isFrom_30 sX15_isFrom_35 at e
  replace e := cl_s e; obtain ⟨R', p1, e⟩ := e
  have := r_eq eR p1; subst this
  replace e := cl_s e; obtain ⟨F', p2, e⟩ := e
  have := r_eq eF p2; subst this
  replace e := (gd_s e).2
  unfold fmV
  replace e := br_s e; rcases e with ⟨c, e⟩ | ⟨c, e⟩
  · rw [if_pos c]; exact (Option.some.inj (gd_s e).2).symm
  rw [if_neg c]
  replace e := cl_s e; obtain ⟨R', p1, e⟩ := e
  have := r_eq eR p1; subst this
  replace e := cl_s e; obtain ⟨F', p2, e⟩ := e
  have := r_eq eF p2; subst this
  replace e := (gd_s e).2
  replace e := cl_s e; obtain ⟨o8, e8, e⟩ := e
  have := rk_val e8; subst this
  dsimp only at e
  replace e := br_s e; rcases e with ⟨c, e⟩ | ⟨c, e⟩
  · rw [if_pos c]; exact (Option.some.inj (gd_s e).2).symm
  · rw [if_neg c]; exact (Option.some.inj (gd_s e).2).symm
section
variable {x0 : Nat} {x2 x4 x5 x6 x7 x8 t0 : Int32} {t1 : Nat}
theorem brT {β : Type} {c : Prop} [Decidable c] {a b : Option β} (h : c) : br c a b = a := by unfold br; rw [if_pos h]
theorem brF {β : Type} {c : Prop} [Decidable c] {a b : Option β} (h : ¬ c) : br c a b = b := by unfold br; rw [if_neg h]
theorem hw_193 {t : Int32} (w : t = 0 ∨ t = 1) (h : Hp) : sX15_hasVector_193 h t = some (t, h) := by
  unfold sX15_hasVector_193 gd
  rcases w with w | w <;> subst w <;> rfl
theorem hw_170 : ∃ a, ∀ h, sX15_hasVector_170 h x4 x5 x6 = some (a, h) := by
  unfold sX15_hasVector_170 sX15_hasVector_188 sX15_hasVector_192
  by_cases c : x6 = 0
  · exact ⟨1, fun h => by rw [brT c]; exact hw_193 (Or.inr rfl) h⟩
  · by_cases d : (if 0 ≤ x4 then x4 else 0 - x4) = (if 0 ≤ x5 then x5 else 0 - x5)
    · exact ⟨0, fun h => by rw [brF c, brT d]; exact hw_193 (Or.inl rfl) h⟩
    · exact ⟨1, fun h => by rw [brF c, brF d]; exact hw_193 (Or.inr rfl) h⟩
theorem hw_159 : ∃ a, ∀ h, sX15_hasVector_159 h x2 x4 x5 x6 x8 = some (a, h) := by
  obtain ⟨a, w⟩ := hw_170 (x4 := x4) (x5 := x5) (x6 := x6)
  unfold sX15_hasVector_159 sX15_hasVector_192
  by_cases c : (x2 &&& (2 : Int32)) = 0
  · exact ⟨a, fun h => by rw [brT c]; exact w h⟩
  · by_cases d : x8 = 0
    · exact ⟨0, fun h => by rw [brF c, brT d]; exact hw_193 (Or.inl rfl) h⟩
    · exact ⟨a, fun h => by rw [brF c, brF d]; exact w h⟩
theorem hw_145 : ∃ a, ∀ h, sX15_hasVector_145 h x2 x4 x5 x6 x7 x8 t0 t1 = some (a, wI h t1 24 t0) := by
  obtain ⟨a, w⟩ := hw_159 (x2 := x2) (x4 := x4) (x5 := x5) (x6 := x6) (x8 := x8)
  unfold sX15_hasVector_145 sX15_hasVector_192
  simp only [nm]
  by_cases c : (x2 &&& (1 : Int32)) = 0
  · exact ⟨a, fun h => by rw [brT c]; exact w _⟩
  · by_cases d : x7 = 0
    · exact ⟨0, fun h => by rw [brF c, brT d]; exact hw_193 (Or.inl rfl) _⟩
    · exact ⟨a, fun h => by rw [brF c, brF d]; exact w _⟩
theorem hw_126 : ∃ a d, ∀ h, sX15_hasVector_126 h x0 x2 x4 x5 x6 x7 x8 t0 x0 = some (a, wI (wI h x0 23 t0) x0 24 d) := by
  unfold sX15_hasVector_126
  simp only [nm]
  by_cases c : (x2 &&& (2 : Int32)) = 0
  · obtain ⟨a, w⟩ := hw_145 (x2 := x2) (x4 := x4) (x5 := x5) (x6 := x6) (x7 := x7) (x8 := x8) (t0 := x8) (t1 := x0)
    exact ⟨a, _, fun h => by rw [brT c]; exact w _⟩
  · obtain ⟨a, w⟩ := hw_145 (x2 := x2) (x4 := x4) (x5 := x5) (x6 := x6) (x7 := x7) (x8 := x8) (t0 := (0 : Int32) - x8) (t1 := x0)
    exact ⟨a, _, fun h => by rw [brF c]; exact w _⟩
theorem hw_108 : ∃ a d1 d2, ∀ h, sX15_hasVector_108 h x0 x2 x4 x5 x6 x7 t0 = some (a, wI (wI h x0 23 d1) x0 24 d2) := by
  unfold sX15_hasVector_108
  by_cases c : (x2 &&& (1 : Int32)) = 0
  · obtain ⟨a, d, w⟩ := hw_126 (x0 := x0) (x2 := x2) (x4 := x4) (x5 := x5) (x6 := x6) (x7 := x7) (x8 := t0) (t0 := x7)
    exact ⟨a, _, d, fun h => by rw [brT c]; exact w h⟩
  · obtain ⟨a, d, w⟩ := hw_126 (x0 := x0) (x2 := x2) (x4 := x4) (x5 := x5) (x6 := x6) (x7 := x7) (x8 := t0) (t0 := (0 : Int32) - x7)
    exact ⟨a, _, d, fun h => by rw [brF c]; exact w h⟩
theorem hw_94 : ∃ a d1 d2, ∀ h, sX15_hasVector_94 h x0 x2 x4 x5 x6 t0 = some (a, wI (wI h x0 23 d1) x0 24 d2) := by
  unfold sX15_hasVector_94
  by_cases c : x6 = 0
  · obtain ⟨a, d1, d2, w⟩ := hw_108 (x0 := x0) (x2 := x2) (x4 := x4) (x5 := x5) (x6 := x6) (x7 := t0) (t0 := x5)
    exact ⟨a, d1, d2, fun h => by rw [brT c]; exact w h⟩
  · obtain ⟨a, d1, d2, w⟩ := hw_108 (x0 := x0) (x2 := x2) (x4 := x4) (x5 := x5) (x6 := x6) (x7 := t0) (t0 := x4)
    exact ⟨a, d1, d2, fun h => by rw [brF c]; exact w h⟩
theorem hw_80 : ∃ a d1 d2, ∀ h, sX15_hasVector_80 h x0 x2 x4 x5 t0 = some (a, wI (wI h x0 23 d1) x0 24 d2) := by
  unfold sX15_hasVector_80
  by_cases c : t0 = 0
  · obtain ⟨a, d1, d2, w⟩ := hw_94 (x0 := x0) (x2 := x2) (x4 := x4) (x5 := x5) (x6 := t0) (t0 := x4)
    exact ⟨a, d1, d2, fun h => by rw [brT c]; exact w h⟩
  · obtain ⟨a, d1, d2, w⟩ := hw_94 (x0 := x0) (x2 := x2) (x4 := x4) (x5 := x5) (x6 := t0) (t0 := x5)
    exact ⟨a, d1, d2, fun h => by rw [brF c]; exact w h⟩
theorem hw_56 : ∃ a, ∀ h, sX15_hasVector_56 h x2 t0 t1 = some (a, wI h t1 24 t0) := by
  unfold sX15_hasVector_56 sX15_hasVector_68 gd
  simp only [nm]
  by_cases c : x2 = 0
  · exact ⟨1, fun h => by rw [brT c]; rfl⟩
  · exact ⟨0, fun h => by rw [brF c]; rfl⟩
/-- hasVector answers alike where the rules are alike -/
theorem hv_two {R A B Fl : Nat} {h0 h g : Hp} {st d sd : Int32} {o o' : Int32 × Hp} (eR : hR h0 x0 4 = some R) (eA : hR h0 R 6 = some A) (eB : hR h0 R 7 = some B) (eFl : hR h0 R 5 = some Fl) (k4 : hR h x0 4 = hR h0 x0 4) (k6 : hR h R 6 = hR h0 R 6) (k7 : hR h R 7 = hR h0 R 7) (k5 : hR h R 5 = hR h0 R 5) (g4 : hR g x0 4 = hR h0 x0 4) (g6 : hR g R 6 = hR h0 R 6) (g7 : hR g R 7 = hR h0 R 7) (g5 : hR g R 5 = hR h0 R 5) (kA : ∀ i, hI h A i = hI h0 A i) (kB : ∀ i, hI h B i = hI h0 B i) (kF : ∀ i, hI h Fl i = hI h0 Fl i) (kA' : ∀ i, hI g A i = hI h0 A i) (kB' : ∀ i, hI g B i = hI h0 B i) (kF' : ∀ i, hI g Fl i = hI h0 Fl i) (e : sX15_hasVector h x0 st d sd = some o) (e' : sX15_hasVector g x0 st d sd = some o') :
    o.1 = o'.1 ∧ ∃ d1 d2, o.2 = wI (wI h x0 23 d1) x0 24 d2 ∧ o'.2 = wI (wI g x0 23 d1) x0 24 d2 := by
  have one : ∀ {h : Hp} {o : Int32 × Hp}, hR h x0 4 = hR h0 x0 4 → hR h R 6 = hR h0 R 6 → hR h R 7 = hR h0 R 7 → hR h R 5 = hR h0 R 5 → (∀ i, hI h A i = hI h0 A i) → (∀ i, hI h B i = hI h0 B i) → (∀ i, hI h Fl i = hI h0 Fl i) → sX15_hasVector h x0 st d sd = some o → br (((hI h0 Fl st.toNatClampNeg) &&& (4 : Int32)) = 0) (br ((d &&& (4 : Int32)) = 0) (sX15_hasVector_80 h x0 d (hI h0 A st.toNatClampNeg) (hI h0 B st.toNatClampNeg) (0 : Int32)) (sX15_hasVector_80 h x0 d (hI h0 A st.toNatClampNeg) (hI h0 B st.toNatClampNeg) (1 : Int32))) (br (sd = 0) (sX15_hasVector_56 (wI h x0 23 (hI h0 A st.toNatClampNeg)) d (hI h0 B st.toNatClampNeg) x0) (sX15_hasVector_56 (wI h x0 23 (hI h0 A st.toNatClampNeg)) d ((0 : Int32) - (hI h0 B st.toNatClampNeg)) x0)) = some o := by
    intro h o k4 k6 k7 k5 kA kB kF e
    unfold sX15_hasVector at e
    simp only [nm] at e
    replace e := cl_s e; obtain ⟨R', p, e⟩ := e
    rw [k4] at p
    have := r_eq eR p; subst this
    replace e := cl_s e; obtain ⟨A', p, e⟩ := e
    rw [k6] at p
    have := r_eq eA p; subst this
    replace e := (gd_s e).2
    replace e := cl_s e; obtain ⟨R', p, e⟩ := e
    rw [k4] at p
    have := r_eq eR p; subst this
    replace e := cl_s e; obtain ⟨B', p, e⟩ := e
    rw [k7] at p
    have := r_eq eB p; subst this
    replace e := (gd_s e).2
    replace e := cl_s e; obtain ⟨R', p, e⟩ := e
    rw [k4] at p
    have := r_eq eR p; subst this
    replace e := cl_s e; obtain ⟨F', p, e⟩ := e
    rw [k5] at p
    have := r_eq eFl p; subst this
    replace e := (gd_s e).2
    rw [kA, kB, kF] at e
    exact e
  have u := one k4 k6 k7 k5 kA kB kF e
  have v := one g4 g6 g7 g5 kA' kB' kF' e'
  by_cases c : ((hI h0 Fl st.toNatClampNeg) &&& (4 : Int32)) = 0
  · rw [brT c] at u v
    by_cases c2 : (d &&& (4 : Int32)) = 0
    · rw [brT c2] at u v
      obtain ⟨a, d1, d2, w⟩ := hw_80 (x0 := x0) (x2 := d) (x4 := hI h0 A st.toNatClampNeg) (x5 := hI h0 B st.toNatClampNeg) (t0 := 0)
      rw [w] at u v
      have u := Option.some.inj u
      have v := Option.some.inj v
      subst u; subst v
      exact ⟨rfl, d1, d2, rfl, rfl⟩
    · rw [brF c2] at u v
      obtain ⟨a, d1, d2, w⟩ := hw_80 (x0 := x0) (x2 := d) (x4 := hI h0 A st.toNatClampNeg) (x5 := hI h0 B st.toNatClampNeg) (t0 := 1)
      rw [w] at u v
      have u := Option.some.inj u
      have v := Option.some.inj v
      subst u; subst v
      exact ⟨rfl, d1, d2, rfl, rfl⟩
  · rw [brF c] at u v
    by_cases c2 : sd = 0
    · rw [brT c2] at u v
      obtain ⟨a, w⟩ := hw_56 (x2 := d) (t0 := hI h0 B st.toNatClampNeg) (t1 := x0)
      rw [w] at u v
      have u := Option.some.inj u
      have v := Option.some.inj v
      subst u; subst v
      exact ⟨rfl, _, _, rfl, rfl⟩
    · rw [brF c2] at u v
      obtain ⟨a, w⟩ := hw_56 (x2 := d) (t0 := (0 : Int32) - hI h0 B st.toNatClampNeg) (t1 := x0)
      rw [w] at u v
      have u := Option.some.inj u
      have v := Option.some.inj v
      subst u; subst v
      exact ⟨rfl, _, _, rfl, rfl⟩
end
