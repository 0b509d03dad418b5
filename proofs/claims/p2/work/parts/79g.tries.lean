/-! moves that are tried, and their rows -/
section
variable {ρ : Nat → Nat} {c : Cm} {h o g h0 : Hp} {x0 l b S Fa Ct M F : Nat} {sd : Int32}
/-- a move that fits its board, as far as who is taken goes -/
def E2 (g : Nat → Int32) (sd : Int32) (np : Int) (f t tk k mo : Int32) : Prop := (¬ tk = (-1 : Int32) → ¬ k = (1 : Int32) → k = (0 : Int32) ∧ 0 < (g t.toNatClampNeg).toInt ∧ ¬ t.toNatClampNeg = f.toNatClampNeg) ∧ (k = (1 : Int32) → 1 < np) ∧ (k = (2 : Int32) → ¬ mo.toNatClampNeg = f.toNatClampNeg ∧ 0 < (g mo.toNatClampNeg).toInt) ∧ (k = (0 : Int32) ∨ k = (1 : Int32) → mo.toInt ≤ 8) ∧ (¬ k = (3 : Int32) → 0 < (g f.toNatClampNeg).toInt ∧ (g f.toNatClampNeg - (1 : Int32)) &&& (1 : Int32) = sd)
def LPz (ρ : Nat → Nat) (l lf lt lm lb lx lk lo : Nat) (h : Hp) : Prop := (hR h l 1 = some lf ∧ hR h l 2 = some lt ∧ hR h l 3 = some lm ∧ hR h l 4 = some lb ∧ hR h l 5 = some lx ∧ hR h l 6 = some lk ∧ hR h l 7 = some lo) ∧ (ρ l = 14 ∧ ρ lf = 66 ∧ ρ lt = 67 ∧ ρ lm = 68 ∧ ρ lb = 69 ∧ ρ lx = 70 ∧ ρ lk = 71 ∧ ρ lo = 72) ∧ hN h lf = 3000
theorem lp_k {lf lt lm lb lx lk lo : Nat} (kR : ∀ a i, hR o a i = hR h a i) (kN : ∀ a, hN o a = hN h a) (Q : LPz ρ l lf lt lm lb lx lk lo h) : LPz ρ l lf lt lm lb lx lk lo o := by
  obtain ⟨⟨a1, a2, a3, a4, a5, a6, a7⟩, b, n⟩ := Q
  exact ⟨⟨by rw [kR]; exact a1, by rw [kR]; exact a2, by rw [kR]; exact a3, by rw [kR]; exact a4, by rw [kR]; exact a5, by rw [kR]; exact a6, by rw [kR]; exact a7⟩, b, by rw [kN]; exact n⟩
def L2 (l lf lt lx lk lo : Nat) (g : Nat → Int32) (sd : Int32) (np : Int) (h : Hp) : Prop := ∀ i : Nat, (i : Int) < (hI h l 0).toInt → E2 g sd np (hI h lf i) (hI h lt i) (hI h lx i) (hI h lk i) (hI h lo i)
theorem add_z {lf lt lm lb lx lk lo : Nat} {gg : Nat → Int32} {np : Int} {f t m bc tk k mo : Int32} (Q : LPz ρ l lf lt lm lb lx lk lo h) (L : L2 l lf lt lx lk lo gg sd np h) (E : E2 gg sd np f t tk k mo) (e : sX13_add h l f t m bc tk k mo = some o) : TF 2 ρ x0 l h o ∧ L2 l lf lt lx lk lo gg sd np o := by
  obtain ⟨⟨a1, a2, a3, a4, a5, a6, a7⟩, ⟨b1, b2, b3, b4, b5, b6, b7, b8⟩, n⟩ := Q
  have ne : ∀ {a d p q : Nat}, ρ a = p → ρ d = q → p ≠ q → ¬ a = d := fun ha hd hpq z => hpq (by rw [← ha, z]; exact hd)
  unfold sX13_add at e
  replace e := cl_s e; obtain ⟨r1, e1, e⟩ := e
  have y : r1 = lf := r_eq a1 e1
  subst y
  have gi := (gd_s e).1
  replace e := (gd_s e).2
  replace e := nm_s e; obtain ⟨h3, w3, e⟩ := e
  replace e := cl_s e; obtain ⟨r4, e4, e⟩ := e
  have y : r4 = lt := r_eq a2 (by rw [w3] at e4; exact e4)
  subst y
  replace e := (gd_s e).2
  replace e := nm_s e; obtain ⟨h6, w6, e⟩ := e
  replace e := cl_s e; obtain ⟨r7, e7, e⟩ := e
  have y : r7 = lm := r_eq a3 (by rw [w6, w3] at e7; exact e7)
  subst y
  replace e := (gd_s e).2
  replace e := nm_s e; obtain ⟨h9, w9, e⟩ := e
  replace e := cl_s e; obtain ⟨r10, e10, e⟩ := e
  have y : r10 = lb := r_eq a4 (by rw [w9, w6, w3] at e10; exact e10)
  subst y
  replace e := (gd_s e).2
  replace e := nm_s e; obtain ⟨h12, w12, e⟩ := e
  replace e := cl_s e; obtain ⟨r13, e13, e⟩ := e
  have y : r13 = lx := r_eq a5 (by rw [w12, w9, w6, w3] at e13; exact e13)
  subst y
  replace e := (gd_s e).2
  replace e := nm_s e; obtain ⟨h15, w15, e⟩ := e
  replace e := cl_s e; obtain ⟨r16, e16, e⟩ := e
  have y : r16 = lk := r_eq a6 (by rw [w15, w12, w9, w6, w3] at e16; exact e16)
  subst y
  replace e := (gd_s e).2
  replace e := nm_s e; obtain ⟨h18, w18, e⟩ := e
  replace e := cl_s e; obtain ⟨r19, e19, e⟩ := e
  have y : r19 = lo := r_eq a7 (by rw [w18, w15, w12, w9, w6, w3] at e19; exact e19)
  subst y
  replace e := (gd_s e).2
  replace e := nm_s e; obtain ⟨h21, w21, e⟩ := e
  replace e := nm_s e; obtain ⟨h22, w22, e⟩ := e
  have zz := Option.some.inj e
  subst zz
  have tw : ∀ {g : Hp} {a i : Nat} {v : Int32} {q : Nat}, ρ a = q → (66 ≤ q ∧ q ≤ 72) → TF 2 ρ x0 l g (wI g a i v) := fun ha hq => tf_w (Or.inl ⟨by decide, by rw [ha]; exact hq⟩)
  have k3 : TF 2 ρ x0 l h h3 := by rw [w3]; exact tw b2 (by decide)
  have k6 : TF 2 ρ x0 l h3 h6 := by rw [w6]; exact tw b3 (by decide)
  have k9 : TF 2 ρ x0 l h6 h9 := by rw [w9]; exact tw b4 (by decide)
  have k12 : TF 2 ρ x0 l h9 h12 := by rw [w12]; exact tw b5 (by decide)
  have k15 : TF 2 ρ x0 l h12 h15 := by rw [w15]; exact tw b6 (by decide)
  have k18 : TF 2 ρ x0 l h15 h18 := by rw [w18]; exact tw b7 (by decide)
  have k21 : TF 2 ρ x0 l h18 h21 := by rw [w21]; exact tw b8 (by decide)
  have k22 : TF 2 ρ x0 l h21 h22 := by rw [w22]; exact tf_w (Or.inr (Or.inr (Or.inl ⟨by decide, rfl, rfl⟩)))
  refine ⟨tf_t (tf_t (tf_t (tf_t (tf_t (tf_t (tf_t k3 k6) k9) k12) k15) k18) k21) k22, ?_⟩
  have n1 := ne b1 b2 (by decide)
  have n2 := ne b1 b3 (by decide)
  have n3 := ne b1 b4 (by decide)
  have n4 := ne b1 b5 (by decide)
  have n5 := ne b1 b6 (by decide)
  have n6 := ne b1 b7 (by decide)
  have n7 := ne b1 b8 (by decide)
  have c3 : hI h3 l 0 = hI h l 0 := by rw [w3, rI_a n1]
  have c6 : hI h6 l 0 = hI h l 0 := by rw [w6, rI_a n2]; exact c3
  have c9 : hI h9 l 0 = hI h l 0 := by rw [w9, rI_a n3]; exact c6
  have c12 : hI h12 l 0 = hI h l 0 := by rw [w12, rI_a n4]; exact c9
  have c15 : hI h15 l 0 = hI h l 0 := by rw [w15, rI_a n5]; exact c12
  have c18 : hI h18 l 0 = hI h l 0 := by rw [w18, rI_a n6]; exact c15
  have c21 : hI h21 l 0 = hI h l 0 := by rw [w21, rI_a n7]; exact c18
  obtain ⟨N, hN'⟩ : ∃ N, N = (hI h l 0).toNatClampNeg := ⟨_, rfl⟩
  rw [n] at gi
  have gb := inb_r gi
  have z1 : (1 : Int32).toInt = 1 := rfl
  have c22 : (hI h22 l 0).toInt = (hI h l 0).toInt + 1 := by rw [w22, rI_s, c21, ta (by rw [z1]; omega), z1]
  have nN : (N : Int) = (hI h l 0).toInt := by rw [hN']; exact nc_i gb.1
  -- rows at i
  have Vf : ∀ i, hI h22 r1 i = if i = N then f else hI h r1 i := fun i => by
    rw [w22, rI_a (fun z => n1 z.symm), w21, rI_a (ne b2 b8 (by decide)), w18, rI_a (ne b2 b7 (by decide)), w15, rI_a (ne b2 b6 (by decide)), w12, rI_a (ne b2 b5 (by decide)), w9, rI_a (ne b2 b4 (by decide)), w6, rI_a (ne b2 b3 (by decide)), w3, r_I, hN']
    by_cases z : i = (hI h l 0).toNatClampNeg
    · rw [if_pos ⟨rfl, z⟩, if_pos z]
    · rw [if_neg (fun y => z y.2), if_neg z]
  have Vt : ∀ i, hI h22 r4 i = if i = N then t else hI h r4 i := fun i => by
    rw [w22, rI_a (fun z => n2 z.symm), w21, rI_a (ne b3 b8 (by decide)), w18, rI_a (ne b3 b7 (by decide)), w15, rI_a (ne b3 b6 (by decide)), w12, rI_a (ne b3 b5 (by decide)), w9, rI_a (ne b3 b4 (by decide)), w6, r_I, c3, hN', w3, rI_a (ne b3 b2 (by decide))]
    by_cases z : i = (hI h l 0).toNatClampNeg
    · rw [if_pos ⟨rfl, z⟩, if_pos z]
    · rw [if_neg (fun y => z y.2), if_neg z]
  have Vx : ∀ i, hI h22 r13 i = if i = N then tk else hI h r13 i := fun i => by
    rw [w22, rI_a (fun z => n5 z.symm), w21, rI_a (ne b6 b8 (by decide)), w18, rI_a (ne b6 b7 (by decide)), w15, r_I, c12, hN', w12, rI_a (ne b6 b5 (by decide)), w9, rI_a (ne b6 b4 (by decide)), w6, rI_a (ne b6 b3 (by decide)), w3, rI_a (ne b6 b2 (by decide))]
    by_cases z : i = (hI h l 0).toNatClampNeg
    · rw [if_pos ⟨rfl, z⟩, if_pos z]
    · rw [if_neg (fun y => z y.2), if_neg z]
  have Vk : ∀ i, hI h22 r16 i = if i = N then k else hI h r16 i := fun i => by
    rw [w22, rI_a (fun z => n6 z.symm), w21, rI_a (ne b7 b8 (by decide)), w18, r_I, c15, hN', w15, rI_a (ne b7 b6 (by decide)), w12, rI_a (ne b7 b5 (by decide)), w9, rI_a (ne b7 b4 (by decide)), w6, rI_a (ne b7 b3 (by decide)), w3, rI_a (ne b7 b2 (by decide))]
    by_cases z : i = (hI h l 0).toNatClampNeg
    · rw [if_pos ⟨rfl, z⟩, if_pos z]
    · rw [if_neg (fun y => z y.2), if_neg z]
  have Vo : ∀ i, hI h22 r19 i = if i = N then mo else hI h r19 i := fun i => by
    rw [w22, rI_a (fun z => n7 z.symm), w21, r_I, c18, hN', w18, rI_a (ne b8 b7 (by decide)), w15, rI_a (ne b8 b6 (by decide)), w12, rI_a (ne b8 b5 (by decide)), w9, rI_a (ne b8 b4 (by decide)), w6, rI_a (ne b8 b3 (by decide)), w3, rI_a (ne b8 b2 (by decide))]
    by_cases z : i = (hI h l 0).toNatClampNeg
    · rw [if_pos ⟨rfl, z⟩, if_pos z]
    · rw [if_neg (fun y => z y.2), if_neg z]
  intro i hi
  rw [Vf, Vt, Vx, Vk, Vo]
  by_cases z : i = N
  · rw [if_pos z, if_pos z, if_pos z, if_pos z, if_pos z]; exact E
  · rw [if_neg z, if_neg z, if_neg z, if_neg z, if_neg z]
    exact L i (by omega)
end
