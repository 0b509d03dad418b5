section
/-! both sides stay, where rooms of endings are made -/
section
variable {n j : Nat} {h o g g2 : Hp} {σ : Sy}
theorem cll_fv {L : Nat → Nat → Int} (k : DyK n g h) (k2 : DyK n g2 o) (k' : KsG n h o) (I : ∀ j i, (5 ≤ j ∧ j ≤ 12) ∨ (22 ≤ j ∧ j ≤ 28) → hI o (n + j) i = hI h (n + j) i ∧ hJ o (n + j) i = hJ h (n + j) i) (C : ClL n h L) : ClL n o L := by
  have R : ∀ a f b, (a, f, b) ∈ edL → hR o (n + a) f = hR h (n + a) f := fun a f b m => by rw [dk_e k2 m, dk_e k m]
  have e : ∀ j, (5 ≤ j ∧ j ≤ 12) ∨ (22 ≤ j ∧ j ≤ 28) → hI o (n + j) = hI h (n + j) := fun j hj => funext fun i => (I j i hj).1
  have e' : ∀ j, (5 ≤ j ∧ j ≤ 12) ∨ (22 ≤ j ∧ j ≤ 28) → hJ o (n + j) = hJ h (n + j) := fun j hj => funext fun i => (I j i hj).2
  exact mkc_i (V := vK n 0 0 0 0 0 0) C (e 5 (by decide)) (e 6 (by decide)) (e 7 (by decide)) (e 8 (by decide)) (e 9 (by decide)) (e 10 (by decide)) (e 11 (by decide)) (e 12 (by decide)) (e 23 (by decide)) (e 24 (by decide)) (e' 5 (by decide)) (e' 25 (by decide)) (e' 26 (by decide)) (e' 27 (by decide)) (e' 28 (by decide)) (R 30 0 5 (by decide +kernel)) (R 30 1 22 (by decide +kernel)) (R 22 0 23 (by decide +kernel)) (R 22 1 24 (by decide +kernel)) (R 22 2 25 (by decide +kernel)) (R 22 3 26 (by decide +kernel)) (R 22 4 27 (by decide +kernel)) (R 22 5 28 (by decide +kernel)) (R 5 14 6 (by decide +kernel)) (R 5 17 9 (by decide +kernel)) (R 5 18 10 (by decide +kernel)) (R 5 19 11 (by decide +kernel)) (R 5 20 12 (by decide +kernel))
theorem cpi_fv {W : Nat → Nat → Prop} {p : Nat} (k : DyK n g h) (k2 : DyK n g2 o) (k' : KsG n h o) (F : FrW W h o) (hp : p < 60) (d1 : ¬ W (n + 149) p) (d2 : ∀ j i, j < 6 → ¬ W (n + (153 + 6 * p) + j) i) (R : CPi n h σ p) : CPi n o σ p := by
  have s6 := dk_610 k
  have e1 := (F.2 (n + 149) p (by omega) d1).1
  rcases R with ⟨a, b⟩ | ⟨P, a, b, c⟩
  · exact Or.inl ⟨a, by rw [e1]; exact b⟩
  · exact Or.inr ⟨P, a, by rw [e1]; exact b, cpa_f c (pl_R k2 hp) (fun j i hj => F.2 _ _ (by omega) (d2 j i hj))⟩
theorem pag_fv {W : Nat → Nat → Prop} {i a : Nat} {ro : Int} {P : Pz} (k : DyK n g h) (k2 : DyK n g2 o) (k' : KsG n h o) (F : FrW W h o) (hi : i < 2408) (e : hR h (n + 150) i = some a) (dd : ∀ j f, j < 6 → ¬ W (a + j) f) (c : CpA h a ro P) : hR o (n + 150) i = some a ∧ CpA o a ro P := by
  have e' := k'.2.1 (150, 2408, 6, 1000, fsP) (by decide) _ _ e
  obtain ⟨own', Dw'⟩ := k2.1.1
  obtain ⟨_, a2⟩ := dy_lo k (q := (150, 2408, 6, 1000, fsP)) (by decide) hi e
  obtain ⟨b1, b2, b3⟩ := bk_dy Dw' (q := (150, 2408, 6, 1000, fsP)) (by decide) hi e'
  have a2 : a + 6 ≤ hS h := a2
  exact ⟨e', cpa_f c b3 (fun j f hj => F.2 _ _ (by omega) (dd j f hj))⟩
theorem cgi_fv {W : Nat → Nat → Prop} {g' : Nat} (k : DyK n g h) (k2 : DyK n g2 o) (k' : KsG n h o) (F : FrW W h o) (hg : g' < 8) (lg : syG σ g' ≤ 300) (d1 : ¬ W (n + 152) g') (d2 : ∀ q, q ≤ 300 → ¬ W (n + 151) (301 * g' + q)) (dd : ∀ q a, q ≤ 300 → hR h (n + 150) (301 * g' + q) = some a → n + 610 ≤ a → a + 6 ≤ hS h → ∀ j f, j < 6 → ¬ W (a + j) f) (R : CGi n h σ g') : CGi n o σ g' := by
  have s6 := dk_610 k
  refine ⟨by rw [(F.2 _ _ (by omega) d1).1]; exact R.1, fun q hq => ?_⟩
  obtain ⟨⟨a, ea, ca⟩, m⟩ := R.2 q hq
  obtain ⟨lo, hi⟩ := dy_lo k (q := (150, 2408, 6, 1000, fsP)) (i := 301 * g' + q) (by decide) (by show _ < 2408; omega) ea
  obtain ⟨x1, x2⟩ := pag_fv k k2 k' F (i := 301 * g' + q) (by omega) ea (dd q a (by omega) ea lo hi) ca
  exact ⟨⟨a, x1, x2⟩, fun l => by rw [(F.2 _ _ (by omega) (d2 q (by omega))).1]; exact m l⟩
theorem relc_V {W : Nat → Nat → Prop} (k : DyK n g h) (k2 : DyK n g2 o) (k' : KsG n h o) (F : FrW W h o) (dj : ∀ j i, cFt j → ¬ W (n + j) i) (R1 : ClL n h (syL σ)) (R4 : CFd n h σ) (R5 : COu n h σ) : ClL n o (syL σ) ∧ CFd n o σ ∧ COu n o σ := by
  have s6 := dk_610 k
  have I : ∀ j i, cFt j → hI o (n + j) i = hI h (n + j) i ∧ hJ o (n + j) i = hJ h (n + j) i := fun j i hj => F.2 _ _ (by unfold cFt at hj; omega) (dj j i hj)
  refine ⟨cll_fv k k2 k' (fun j i hj => I j i (by unfold cFt; omega)) R1, ⟨?_, ?_⟩, ?_, fun i hi => ?_⟩
  · rw [(I 48 6 (by unfold cFt; omega)).1]; exact R4.1
  · rcases R4.2 with z | ⟨B, b1, b2, b3⟩
    · exact Or.inl z
    · refine Or.inr ⟨B, b1, cpa_f b2 (fun q hq => ?_) (fun j i hj => ?_), fun q hq => ?_⟩
      · have : ∀ q, q ∈ fsP → (49, q.1, 49 + q.2) ∈ edL := by decide +kernel
        have := dk_e k2 (this q hq)
        rw [show n + (49 + q.2) = n + 49 + q.2 by omega] at this
        exact this
      · have := I (49 + j) i (by unfold cFt; omega)
        rw [show n + (49 + j) = n + 49 + j by omega] at this
        exact this
      · obtain ⟨P, p1, p2⟩ := b3 q hq
        exact ⟨P, p1, by rw [(I 61 q (by unfold cFt; omega)).1]; exact p2⟩
  · rw [(I 3 1 (by unfold cFt; omega)).1]; exact R5.1
  · rw [(I 4 i (by unfold cFt; omega)).1]; exact R5.2 i hi
theorem relc_v {W : Nat → Nat → Prop} (k : DyK n g h) (k2 : DyK n g2 o) (k' : KsG n h o) (F : FrW W h o) (dj : ∀ j i, cFt j ∨ (149 ≤ j ∧ j ≤ 512 ∧ ¬ j = 150) → ¬ W (n + j) i) (dd : ∀ q a, q < 2408 → hR h (n + 150) q = some a → n + 610 ≤ a → a + 6 ≤ hS h → ∀ j f, j < 6 → ¬ W (a + j) f) (lg : ∀ g, g < 8 → syG σ g ≤ 300) (R : RelC n h σ) : RelC n o σ := by
  obtain ⟨R1, R2, R3, R4, R5⟩ := R
  obtain ⟨x1, x2, x3⟩ := relc_V k k2 k' F (fun j i hj => dj j i (Or.inl hj)) R1 R4 R5
  refine ⟨x1, fun p hp => cpi_fv k k2 k' F hp (dj 149 p (Or.inr ⟨by omega, by omega, by omega⟩)) (fun j i hj => ?_) (R2 p hp), fun g' hg => cgi_fv k k2 k' F hg (lg g' hg) (dj 152 g' (Or.inr ⟨by omega, by omega, by omega⟩)) (fun q hq => dj 151 _ (Or.inr ⟨by omega, by omega, by omega⟩)) (fun q a hq e lo hi => dd _ a (by omega) e lo hi) (R3 g' hg), x2, x3⟩
  have := dj (153 + 6 * p + j) i (Or.inr ⟨by omega, by omega, by omega⟩)
  rw [show n + (153 + 6 * p + j) = n + (153 + 6 * p) + j by omega] at this
  exact this
theorem brd_fv {W : Nat → Nat → Prop} {q : Nat × Nat × Nat × Nat × List (Nat × Nat)} {i a : Nat} {P : Pz} (k : DyK n g h) (k2 : DyK n g2 o) (k' : KsG n h o) (F : FrW W h o) (hq : q ∈ fam) (f5 : q.2.2.2.2 = fsB) (w5 : q.2.2.1 = 5) (hi : i < q.2.1) (e : hR h (n + q.1) i = some a) (dd : ∀ j f, j < 5 → ¬ W (a + j) f) (c : RbA h a P) : hR o (n + q.1) i = some a ∧ RbA o a P := by
  have e' := k'.2.1 _ hq _ _ e
  obtain ⟨own', Dw'⟩ := k2.1.1
  obtain ⟨_, a2⟩ := dy_lo k hq hi e
  obtain ⟨b1, b2, b3⟩ := bk_dy Dw' hq hi e'
  rw [f5] at b3
  rw [w5] at a2
  exact ⟨e', rba_f c b3 (fun j f hj => F.2 _ _ (by omega) (dd j f hj))⟩
theorem rpi_fv {W : Nat → Nat → Prop} {p : Nat} (k : DyK n g h) (k2 : DyK n g2 o) (k' : KsG n h o) (F : FrW W h o) (hp : p < 60) (d1 : ¬ W (n + 537) p) (dd : ∀ a, hR h (n + 536) p = some a → n + 610 ≤ a → a + 5 ≤ hS h → ∀ j f, j < 5 → ¬ W (a + j) f) (R : RPi n h σ p) : RPi n o σ p := by
  have s6 := dk_610 k
  have e1 := (F.2 (n + 537) p (by omega) d1).1
  rcases R with ⟨a, b⟩ | ⟨P, a, p1, p2, p3, p4⟩
  · exact Or.inl ⟨a, by rw [e1]; exact b⟩
  · obtain ⟨lo, hi⟩ := dy_lo k (q := (536, 60, 5, 4000, fsB)) (by decide) hp p3
    obtain ⟨x1, x2⟩ := brd_fv k k2 k' F (q := (536, 60, 5, 4000, fsB)) (by decide) rfl rfl hp p3 (dd a p3 lo hi) p4
    exact Or.inr ⟨P, a, p1, by rw [e1]; exact p2, x1, x2⟩
theorem rgi_fv {W : Nat → Nat → Prop} {g' : Nat} (k : DyK n g h) (k2 : DyK n g2 o) (k' : KsG n h o) (F : FrW W h o) (hg : g' < 8) (lg : syG σ g' ≤ 300) (d1 : ¬ W (n + 582) g') (d2 : ∀ q, q ≤ 300 → ¬ W (n + 581) (301 * g' + q)) (dd : ∀ q a, q ≤ 300 → hR h (n + 580) (301 * g' + q) = some a → n + 610 ≤ a → a + 5 ≤ hS h → ∀ j f, j < 5 → ¬ W (a + j) f) (R : RGi n h σ g') : RGi n o σ g' := by
  have s6 := dk_610 k
  refine ⟨by rw [(F.2 _ _ (by omega) d1).1]; exact R.1, fun q hq => ?_⟩
  obtain ⟨⟨a, ea, ca⟩, m⟩ := R.2 q hq
  obtain ⟨lo, hi⟩ := dy_lo k (q := (580, 2408, 5, 5000, fsB)) (i := 301 * g' + q) (by decide) (by show _ < 2408; omega) ea
  obtain ⟨x1, x2⟩ := brd_fv k k2 k' F (q := (580, 2408, 5, 5000, fsB)) (by decide) rfl rfl (i := 301 * g' + q) (by show _ < 2408; omega) ea (dd q a (by omega) ea lo hi) ca
  exact ⟨⟨a, x1, x2⟩, fun l => by rw [(F.2 _ _ (by omega) (d2 q (by omega))).1]; exact m l⟩
theorem relr_V {W : Nat → Nat → Prop} (k : DyK n g h) (k2 : DyK n g2 o) (k' : KsG n h o) (F : FrW W h o) (dj : ∀ j i, rFt j i → ¬ W (n + j) i) (dd : ∀ q a, q < 3000 → hR h (n + 583) q = some a → n + 610 ≤ a → a + 5 ≤ hS h → ∀ j f, j < 5 → ¬ W (a + j) f) (R1 : RLw n h (syL σ)) (R4 : RFd n h σ) (R5 : ROu n h σ) : RLw n o (syL σ) ∧ RFd n o σ ∧ ROu n o σ := by
  have s6 := dk_610 k
  have I : ∀ j i, rFt j i → hI o (n + j) i = hI h (n + j) i ∧ hJ o (n + j) i = hJ h (n + j) i := fun j i hj => F.2 _ _ (by unfold rFt at hj; omega) (dj j i hj)
  refine ⟨?_, ⟨?_, fun q hq => ?_⟩, ⟨?_, fun i hi => ?_⟩⟩
  · obtain ⟨w, hw, e4, e5, C⟩ := R1
    have f4 := k'.2.2 4 (Or.inl rfl)
    have f5 := k'.2.2 5 (Or.inr rfl)
    refine ⟨w, hw, by rw [f4]; exact e4, by rw [f5]; exact e5, ?_⟩
    have e : ∀ j i, j < 10 → hI o (n + w + j) i = hI h (n + w + j) i ∧ hJ o (n + w + j) i = hJ h (n + w + j) i := fun j i hj => by
      have := I (w + j) i (by unfold rFt; omega)
      rw [show n + (w + j) = n + w + j by omega] at this
      exact this
    have Rw : ∀ p, p ∈ ([(3, 1), (4, 2), (5, 3), (6, 4), (7, 5), (8, 6), (9, 7), (13, 8), (14, 9)] : List (Nat × Nat)) → hR o (n + w) p.1 = some (n + w + p.2) := fun p hp => by
      rcases hw with z | z <;> subst z
      · have : ∀ q, q ∈ ([(3, 1), (4, 2), (5, 3), (6, 4), (7, 5), (8, 6), (9, 7), (13, 8), (14, 9)] : List (Nat × Nat)) → (516, q.1, 516 + q.2) ∈ edL := by decide +kernel
        have := dk_e k2 (this p hp)
        rw [show n + (516 + p.2) = n + 516 + p.2 by omega] at this
        exact this
      · have : ∀ q, q ∈ ([(3, 1), (4, 2), (5, 3), (6, 4), (7, 5), (8, 6), (9, 7), (13, 8), (14, 9)] : List (Nat × Nat)) → (526, q.1, 526 + q.2) ∈ edL := by decide +kernel
        have := dk_e k2 (this p hp)
        rw [show n + (526 + p.2) = n + 526 + p.2 by omega] at this
        exact this
    refine rw0_i (V := vM n 0 0 0 0 0 (n + w)) C (funext fun i => (e 0 i (by decide)).1) (e 0 21 (by decide)).2 (fun q q1 q2 => ?_) (I 513 11 (by unfold rFt; omega)).1 (I 513 12 (by unfold rFt; omega)).1 (I 513 13 (by unfold rFt; omega)).1 ⟨f4.trans e4, Rw (3, 1) (by decide), Rw (4, 2) (by decide), Rw (5, 3) (by decide), Rw (6, 4) (by decide), Rw (7, 5) (by decide), Rw (8, 6) (by decide), Rw (9, 7) (by decide), Rw (13, 8) (by decide), Rw (14, 9) (by decide)⟩
    have : q = 73 ∨ q = 74 ∨ q = 75 ∨ q = 76 ∨ q = 77 ∨ q = 78 ∨ q = 79 ∨ q = 80 ∨ q = 81 := by omega
    rcases this with z | z | z | z | z | z | z | z | z <;> subst z
    · exact funext fun i => (e 1 i (by decide)).1
    · exact funext fun i => (e 2 i (by decide)).1
    · exact funext fun i => (e 3 i (by decide)).1
    · exact funext fun i => (e 4 i (by decide)).1
    · exact funext fun i => (e 5 i (by decide)).1
    · exact funext fun i => (e 6 i (by decide)).1
    · exact funext fun i => (e 7 i (by decide)).1
    · exact funext fun i => (e 8 i (by decide)).1
    · exact funext fun i => (e 9 i (by decide)).1
  · rw [(I 513 44 (by unfold rFt; omega)).1]; exact R4.1
  · obtain ⟨P, a, p1, p2, p3, p4⟩ := R4.2 q hq
    have i5 := (I 585 q (by unfold rFt; omega)).1
    have nc := nc_i p2.1
    have lt : (hI h (n + 585) q).toNatClampNeg < 3000 := by omega
    obtain ⟨lo, hi⟩ := dy_lo k (q := (583, 3000, 5, 8000, fsB)) (by decide) lt p3
    obtain ⟨x1, x2⟩ := brd_fv k k2 k' F (q := (583, 3000, 5, 8000, fsB)) (by decide) rfl rfl lt p3 (dd _ a lt p3 lo hi) p4
    exact ⟨P, a, p1, by rw [i5]; exact p2, by rw [i5]; exact x1, x2⟩
  · rw [(I 513 3 (by unfold rFt; omega)).1]; exact R5.1
  · rw [(I 515 i (by unfold rFt; omega)).1]; exact R5.2 i hi
theorem relr_v {W : Nat → Nat → Prop} (k : DyK n g h) (k2 : DyK n g2 o) (k' : KsG n h o) (F : FrW W h o) (dj : ∀ j i, rFt j i ∨ (j = 513 ∧ i = 16) ∨ j = 537 ∨ j = 581 ∨ j = 582 → ¬ W (n + j) i) (dd : ∀ q, q ∈ fam → 536 ≤ q.1 → ∀ i a, i < q.2.1 → hR h (n + q.1) i = some a → n + 610 ≤ a → a + q.2.2.1 ≤ hS h → ∀ j f, j < q.2.2.1 → ¬ W (a + j) f) (lg : ∀ g, g < 8 → syG σ g ≤ 300) (R : RelR n j h σ) : RelR n j o σ := by
  obtain ⟨R1, R2, R3, R4, R5, R6⟩ := R
  obtain ⟨x1, x2, x3⟩ := relr_V k k2 k' F (fun j i hj => dj j i (Or.inl hj)) (fun q a hq e lo hi => dd (583, 3000, 5, 8000, fsB) (by decide) (by decide) q a hq e lo hi) R1 R4 R5
  exact ⟨x1, fun p hp => rpi_fv k k2 k' F hp (dj 537 p (Or.inr (Or.inr (Or.inl rfl)))) (fun a e lo hi => dd (536, 60, 5, 4000, fsB) (by decide) (by decide) p a hp e lo hi) (R2 p hp), fun g' hg => rgi_fv k k2 k' F hg (lg g' hg) (dj 582 g' (Or.inr (Or.inr (Or.inr (Or.inr rfl))))) (fun q hq => dj 581 _ (Or.inr (Or.inr (Or.inr (Or.inl rfl))))) (fun q a hq e lo hi => dd (580, 2408, 5, 5000, fsB) (by decide) (by decide) _ a (by show _ < 2408; omega) e lo hi) (R3 g' hg), x2, x3, rse_f k F (dj 513 16 (Or.inr (Or.inl ⟨rfl, rfl⟩))) R6⟩
end
end
section
/-! ENDINGS: solve of both sides, told apart -/
/-- what both do, where the SET that is asked for is read: their SETS -/
def SoR (n F : Nat) (ρ : Nat → Nat) (c : Cm) (lw : Nat) (g : Hp) (key x1 : Int32) (u b : Int32 × Hp) : Prop := ∃ g5, F5r (n + 513) (n + 599) g g5 ∧ (((u.1 = 0 ∧ b.1 = (-104 : Int32)) ∧ ∃ o2, sX15_addSet F g5 (n + 513) x1 = some o2 ∧ (b.2 = o2.2 ∨ ∃ o3, sX15_addAll F o2.2 (n + 513) = some o3 ∧ b.2 = o3.2)) ∨ (u.1 = 1 ∧ ∃ o2 o3 hc2, sX15_addSet F g5 (n + 513) x1 = some o2 ∧ sX15_addAll F o2.2 (n + 513) = some o3 ∧ JS (n + 62) (n + 69) (n + 71) (n + 513) (n + 592) (n + 593) (n + 598) (n + 599) hc2 o3.2 ∧ (TH ρ c o3.2 ∧ SlR ρ (n + 513) (n + 592) (n + 593) (n + 594) (n + 598) (n + 599) (n + 600) o3.2 ∧ SE (n + 513) o3.2 ∧ AllS (n + 513) (n + 592) (n + 593) (n + 599) (n + 598) lw (lw + 8) (lw + 9) o3.2) ∧ (1 ≤ (hI hc2 (n + 62) 9).toInt ∧ hI hc2 (n + 69) 0 = key) ∧ sX0_gatherSets_104 F hc2 (n + 62) = some u ∧ sX15_solve_246 F F o3.2 (n + 513) (0 : Int32) (0 : Int32) = some b))
/-- nothing is run, or both run -/
def SoJ (n F : Nat) (h h1 : Hp) (lw : Nat) (L : Nat → Nat → Int) (a b : Int32 × Hp) : Prop := (∃ y v, (y = h ∨ ∃ key, y = wI h (n + 62) 14 key) ∧ sX11_solve_71 F y n v = some a ∧ b.1 = v ∧ Jo (n + 600) (wI h1 (n + 513) 1 0) b.2 ∧ hS b.2 = hS (wI h1 (n + 513) 1 0)) ∨ ∃ key o6 u g, (sX0_run F (wI h (n + 62) 14 key) (n + 62) = some o6 ∧ sX0_gatherSets F (wI (wI h (n + 62) 14 key) (n + 62) 10 0) (n + 62) = some u ∧ sX11_solve_55 F o6.2 n o6.1 = some a) ∧ (∃ m row, Kq key m row ∧ GdR L m row) ∧ (Jo (n + 600) (wI h1 (n + 513) 1 0) g ∧ hS g = hS (wI h1 (n + 513) 1 0)) ∧ (hI h1 lw 18 = 0 ∧ ∃ o9, sX15_hasCatches F (wI h1 (n + 513) 1 0) (n + 513) = some o9 ∧ o9.1 = 0) ∧ ∃ ρ c x1, SoR n F ρ c lw g key x1 u b
section
variable {ρ ρ1 : Nat → Nat} {c c1 : Cm} {F n lw : Nat} {h h1 g1 : Hp} {a b : Int32 × Hp}
theorem sol_j (hF : 2000000 ≤ F) (dk : DyK n h h) (dk1 : DyK n g1 h1) {LL : Nat → Nat → Int} (Lk : LwOk LL) (Cl : ClL n h LL) (T : TH ρ c h) (r0 : ρ n = 12) (lwr : LwR ρ c h) (en : EnA n h) (fm : FmY ρ c h) (T1 : TH ρ1 c1 h1) (m1 : ρ1 (n + 513) = 16) (sqo : SqOk (n + 513) h1) (em : hR h1 (n + 513) 4 = some lw) (e13' : hR h1 lw 13 = some (lw + 8)) (e14' : hR h1 lw 14 = some (lw + 9)) (LR : LawR (n + 5) lw h h1) (sqs : (hI h (n + 5) 2).toInt = (hI h1 (n + 513) 13).toInt) (tl : hI h (n + 1) 1 = hI h1 (n + 513) 1) (tb : ∀ i : Nat, (i : Int) < (hI h1 (n + 513) 1).toInt → (hI h1 (n + 514) i).toInt = sg (hI h (n + 2) i).toInt) (ea : sX11_solve F h n = some a) (eb : sX15_solve F h1 (n + 513) = some b) : SoJ n F h h1 lw LL a b := by
  have eL : hR h n 2 = some (n + 5) := dk_e (a := 0) (f := 2) (b := 5) dk (by decide +kernel)
  have et : hR h n 0 = some (n + 1) := dk_e (a := 0) (f := 0) (b := 1) dk (by decide +kernel)
  have ebt := dk_e (a := 1) (f := 0) (b := 2) dk (by decide +kernel)
  have etp := dk_e (a := 513) (f := 0) (b := 514) dk1 (by decide +kernel)
  have hF7 : 700000 ≤ F := by omega
  have z0 : (0 : Int32).toInt = 0 := rfl
  have ne : ∀ {r : Nat → Nat} {a b i j : Nat}, r a = i → r b = j → ¬ i = j → ¬ a = b := fun ha hb nn z => nn (by rw [← ha, z]; exact hb)
  -- the class's things
  obtain ⟨x, ex, qx⟩ := thR T r0 (i := 10) (k2 := 1) rfl (by decide)
  have hx := dk_ed (a := 0) (f := 10) (b := 62) dk (by decide +kernel) ex
  subst hx
  have qL : ρ (n + 5) = 2 := rr T (thR T r0 (i := 2) (k2 := 2) rfl (by decide)) eL
  have qt : ρ (n + 1) = 10 := rr T (thR T r0 (i := 0) (k2 := 10) rfl (by decide)) et
  have qbt : ρ (n + 2) = 49 := rr T (thR T qt (i := 0) (k2 := 49) rfl (by decide)) ebt
  have wL : cw c (n + 5) = 2102 := kid_w T r0 (i := 2) (w := 2102) rfl (by decide) eL
  obtain ⟨L', eL', qL'⟩ := thR T qx (i := 0) (k2 := 2) rfl (by decide)
  have wL' : cw c L' = 2102 := kid_w T qx (i := 0) (w := 2102) rfl (by decide) eL'
  have hLL : L' = (n + 5) := law_1 T qL wL qL' wL'
  rw [hLL] at eL'
  obtain ⟨wy, ewy, qwy⟩ := thR T qx (i := 1) (k2 := 11) rfl (by decide)
  obtain ⟨ks, e4, qk⟩ := thR T qx (i := 4) (k2 := 20) rfl (by decide)
  have hks := dk_ed (a := 62) (f := 4) (b := 69) dk (by decide +kernel) e4
  subst hks
  obtain ⟨st, e5, qs⟩ := thR T qx (i := 5) (k2 := 21) rfl (by decide)
  have hst := dk_ed (a := 62) (f := 5) (b := 70) dk (by decide +kernel) e5
  subst hst
  obtain ⟨pw, e6, qp⟩ := thR T qx (i := 6) (k2 := 22) rfl (by decide)
  have hpw := dk_ed (a := 62) (f := 6) (b := 71) dk (by decide +kernel) e6
  subst hpw
  -- the reference's things
  obtain ⟨rm, e46, qm⟩ := thR T1 m1 (i := 46) (k2 := 99) rfl (by decide)
  have hrm := dk_ed (a := 513) (f := 46) (b := 592) dk1 (by decide +kernel) e46
  subst hrm
  obtain ⟨re, e47, qe⟩ := thR T1 m1 (i := 47) (k2 := 100) rfl (by decide)
  have hre := dk_ed (a := 513) (f := 47) (b := 593) dk1 (by decide +kernel) e47
  subst hre
  obtain ⟨rb, e48, qb⟩ := thR T1 m1 (i := 48) (k2 := 101) rfl (by decide)
  have hrb := dk_ed (a := 513) (f := 48) (b := 594) dk1 (by decide +kernel) e48
  subst hrb
  obtain ⟨rk, e55, qrk⟩ := thR T1 m1 (i := 55) (k2 := 106) rfl (by decide)
  have hrk := dk_ed (a := 513) (f := 55) (b := 598) dk1 (by decide +kernel) e55
  subst hrk
  obtain ⟨rs, e56, qrs⟩ := thR T1 m1 (i := 56) (k2 := 107) rfl (by decide)
  have hrs := dk_ed (a := 513) (f := 56) (b := 599) dk1 (by decide +kernel) e56
  subst hrs
  obtain ⟨ro, e57, qo⟩ := thR T1 m1 (i := 57) (k2 := 108) rfl (by decide)
  have hro := dk_ed (a := 513) (f := 57) (b := 600) dk1 (by decide +kernel) e57
  subst hro
  have qlw : ρ1 lw = 15 := rr T1 (thR T1 m1 (i := 4) (k2 := 15) rfl (by decide)) em
  have qtp : ρ1 (n + 514) = 82 := rr T1 (thR T1 m1 (i := 0) (k2 := 82) rfl (by decide)) etp
  obtain ⟨Z, A, Q⟩ := LR
  obtain ⟨⟨z2, a27, a28, a29, a30, a31⟩, ⟨z15, b3, b4, b5, b6, b7, b8, b9, b13, b14⟩, zz⟩ := id A
  have y80 : Z 80 = lw + 8 := Option.some.inj (b13.symm.trans e13')
  have y81 : Z 81 = lw + 9 := Option.some.inj (b14.symm.trans e14')
  have q80 : ρ1 (Z 80) = 80 := rr T1 (thR T1 qlw (i := 13) (k2 := 80) rfl (by decide)) b13
  have q81 : ρ1 (Z 81) = 81 := rr T1 (thR T1 qlw (i := 14) (k2 := 81) rfl (by decide)) b14
  have K : ∀ g, (∀ a i, hR g a i = hR h1 a i) → (∀ a i, hJ g a i = hJ h1 a i) → (∀ a i, ¬ a = (n + 513) → ¬ a = (n + 600) → hI g a i = hI h1 a i) → ZA Z (n + 5) lw h g ∧ LwQ Z h g ∧ hR g (n + 513) 4 = some lw := fun g kR kJ kI => by
    refine ⟨⟨A.1, ⟨z15, by rw [kR]; exact b3, by rw [kR]; exact b4, by rw [kR]; exact b5, by rw [kR]; exact b6, by rw [kR]; exact b7, by rw [kR]; exact b8, by rw [kR]; exact b9, by rw [kR]; exact b13, by rw [kR]; exact b14⟩, zz⟩, lwq_k Q (fun _ => rfl) rfl (fun _ _ _ => rfl) (fun i => ?_) (kJ _ _) (fun k hk i => ?_), by rw [kR]; exact em⟩
    · rw [z15]; exact kI lw i (ne qlw m1 (by decide)) (ne qlw qo (by decide))
    · have rd : ∀ {j k2 r : Nat}, rfK 15 j = k2 → ¬ k2 = 0 → ¬ k2 = 16 → ¬ k2 = 108 → hR h1 lw j = some r → hI g r i = hI h1 r i := fun {j k2 r} e1 e2 e3 e4 er => by
        have q : ρ1 r = k2 := rr T1 (thR T1 qlw (i := j) (k2 := k2) e1 e2) er
        exact kI r i (ne q m1 e3) (ne q qo e4)
      simp only [List.mem_cons, List.not_mem_nil, or_false] at hk
      rcases hk with rfl | rfl | rfl | rfl | rfl | rfl | rfl | rfl | rfl
      · exact rd (j := 3) (k2 := 73) rfl (by decide) (by decide) (by decide) b3
      · exact rd (j := 4) (k2 := 74) rfl (by decide) (by decide) (by decide) b4
      · exact rd (j := 5) (k2 := 75) rfl (by decide) (by decide) (by decide) b5
      · exact rd (j := 6) (k2 := 76) rfl (by decide) (by decide) (by decide) b6
      · exact rd (j := 7) (k2 := 77) rfl (by decide) (by decide) (by decide) b7
      · exact rd (j := 8) (k2 := 78) rfl (by decide) (by decide) (by decide) b8
      · exact rd (j := 9) (k2 := 79) rfl (by decide) (by decide) (by decide) b9
      · exact rd (j := 13) (k2 := 80) rfl (by decide) (by decide) (by decide) b13
      · exact rd (j := 14) (k2 := 81) rfl (by decide) (by decide) (by decide) b14
  -- both begin
  unfold sX11_solve at ea
  replace ea := cl_s ea; obtain ⟨l1, p, ea⟩ := ea
  rw [r_eq eL p] at ea
  replace ea := cl_s ea; obtain ⟨o2, eo2, ea⟩ := ea
  unfold sX15_solve at eb
  replace eb := nm_s eb; obtain ⟨v1, wv1, eb⟩ := eb
  replace eb := nm_s eb; obtain ⟨h2, w2, eb⟩ := eb
  have R2 : ∀ a i, hR h2 a i = hR h1 a i := fun a i => by rw [w2]; rfl
  have J2 : ∀ a i, hJ h2 a i = hJ h1 a i := fun a i => by rw [w2]; rfl
  have I2 : ∀ a i, ¬ a = (n + 513) → hI h2 a i = hI h1 a i := fun a i na => by rw [w2, rI_a na]
  have T2 : TH ρ1 (cat c1 (fS soA soL) h1) h2 := by rw [w2]; exact th_wI (th_in (fS soA soL) T1) m1 (k := 16) (i := 1) (lo := 0) (hi := 1200) rfl (rg_m (rg_b rfl : Rg 0 0 (0 : Int32)) (by decide)) (by decide) (by decide) (pm_a (fs_a (A := soA) (L := soL)) rfl)
  obtain ⟨A2, Q2, em2⟩ := K h2 R2 J2 (fun a i na _ => I2 a i na)
  have nlm : ¬ lw = (n + 513) := ne qlw m1 (by decide)
  replace eb := cl_s eb; obtain ⟨l3, p, eb⟩ := eb
  rw [r_eq em2 p] at eb
  obtain ⟨wp, pl⟩ := plain_p A2 Q2 (by rw [I2 lw 20 nlm]; exact (thI T1 qlw (k := 15) (i := 20) (lo := 0) (hi := 9) rfl).1) eo2
  rw [wp] at ea
  have I22 : Jo (n + 600) h2 h2 := ⟨fun _ _ => rfl, fun _ => rfl, fun _ _ => rfl, fun _ _ _ => rfl⟩
  have nr : ∀ {v : Int32}, sX11_solve_71 F h n v = some a → some (v, h2) = some b → SoJ n F h h1 lw LL a b := fun {v} x1 x2 => by
    refine Or.inl ⟨h, v, Or.inl rfl, x1, ?_⟩
    rw [← Option.some.inj x2, ← w2]
    exact ⟨rfl, I22, rfl⟩
  unfold sX11_solve_10 at ea
  unfold sX15_solve_47 at eb
  replace ea := br_s ea
  rcases ea with ⟨zp, ea⟩ | ⟨zp, ea⟩
  · -- not plain
    have np : ¬ (hI h2 lw 15 = 0 ∧ hI h2 lw 18 = 0 ∧ ¬ (0 : Int32) < hI h2 lw 20) := fun w => (pl.mpr w) zp
    replace eb := br_s eb
    rcases eb with ⟨c15, eb⟩ | ⟨_, eb⟩
    rotate_left
    · exact nr ea eb
    replace eb := cl_s eb; obtain ⟨l5, p, eb⟩ := eb
    rw [r_eq em2 p] at eb
    replace eb := br_s eb
    rcases eb with ⟨c18, eb⟩ | ⟨_, eb⟩
    rotate_left
    · exact nr ea eb
    replace eb := cl_s eb; obtain ⟨l7, p, eb⟩ := eb
    rw [r_eq em2 p] at eb
    replace eb := br_s eb
    rcases eb with ⟨_, eb⟩ | ⟨c20, _⟩
    · exact nr ea eb
    · exact absurd ⟨c15, c18, c20⟩ np
  obtain ⟨p15, p18, p20⟩ := pl.mp zp
  replace eb := br_s eb
  rcases eb with ⟨_, eb⟩ | ⟨w, _⟩
  rotate_left
  · exact absurd p15 w
  replace eb := cl_s eb; obtain ⟨l5, p, eb⟩ := eb
  rw [r_eq em2 p] at eb
  replace eb := br_s eb
  rcases eb with ⟨_, eb⟩ | ⟨w, _⟩
  rotate_left
  · exact absurd p18 w
  replace eb := cl_s eb; obtain ⟨l7, p, eb⟩ := eb
  rw [r_eq em2 p] at eb
  replace eb := br_s eb
  rcases eb with ⟨w, _⟩ | ⟨_, eb⟩
  · exact absurd w p20
  -- catches
  replace ea := cl_s ea; obtain ⟨l2, p, ea⟩ := ea
  rw [r_eq eL p] at ea
  replace ea := cl_s ea; obtain ⟨o3, eo3, ea⟩ := ea
  replace eb := cl_s eb; obtain ⟨o9, eo9, eb⟩ := eb
  obtain ⟨c1', c2', c3'⟩ := cat_p A2 Q2 em2 eo3 eo9
  rw [c1', c3'] at ea
  rw [c2'] at eb
  unfold sX11_solve_20 at ea
  unfold sX15_solve_44 sX15_solve_47 at eb
  replace ea := br_s ea
  replace eb := br_s eb
  rcases ea with ⟨zc, ea⟩ | ⟨zc, ea⟩
  rotate_left
  · rcases eb with ⟨w, _⟩ | ⟨_, eb⟩
    · exact absurd w zc
    · exact nr ea eb
  rcases eb with ⟨_, eb⟩ | ⟨w, _⟩
  rotate_left
  · exact absurd zc w
  -- the SET is read
  replace ea := cl_s ea; obtain ⟨x', p, ea⟩ := ea
  rw [r_eq ex p] at ea
  replace ea := cl_s ea; obtain ⟨t', p, ea⟩ := ea
  rw [r_eq et p] at ea
  replace ea := cl_s ea; obtain ⟨o4, eo4, ea⟩ := ea
  have iv : Rg 0 1200 v1 := by rw [wv1]; exact thI T1 m1 (k := 16) (i := 1) rfl
  obtain ⟨T4, ky, K4⟩ := sat_e (readC_q (c := cat c (fS [(1, 14)] []) h) hF7 fs_a (th_in _ T) qx qt (rg_m (thI T qt (k := 10) (i := 1) rfl) (by decide))) eo4
  have f4 := fr_u T T4.2.2
  have eo4' : sX0_read_7 F F h (n + 62) (n + 1) (0 : Int32) (0 : Int32) (0 : Int32) = some o4 := eo4
  have B0 : RowB (n + 600) (0 : Int32) (0 : Int32).toNatClampNeg h2 := (⟨fun _ => 0, ⟨Nat.zero_le _, by unfold K5 pad; rfl, fun i hi => absurd hi (Nat.not_lt_zero i), fun i j _ hj => absurd hj (Nat.not_lt_zero j)⟩, fun _ => rfl⟩ : RowB (n + 600) (0 : Int32) 0 h2)
  have rp := read_j (Z := Z) (L := (n + 5)) (lw := lw) (pmA_s (fs_a (c := c1) (A := soA) (L := soL) (h := h1)) rfl) m1 (by rw [R2]; exact e57) qo (by rw [R2]; exact etp) qtp (fun g J => K g (fun a i => by rw [J.1]; exact R2 a i) (fun a i => by rw [J.2.2.1]; exact J2 a i) (fun a i na no => by rw [J.2.2.2 a i no]; exact I2 a i na)) eL' ebt (ne qt qx (by decide)) (by rw [wv1]; exact tl) iv (fun i => thI T qbt (k := 49) (i := i) rfl) (fun i hi => by rw [I2 (n + 514) i (ne qtp m1 (by decide))]; exact tb i (by rw [← wv1]; exact hi)) F F T2 jo_0 rfl ⟨by decide, by decide⟩ (by rw [z0]; exact iv.1) (fun _ _ i hi => absurd hi (by rw [z0]; omega)) B0 eo4' eb
  unfold sX11_solve_34 sX11_solve_70 at ea
  replace ea := br_s ea
  have rdi := rdc_i (o := o4) (t := n + 1) Lk dk Cl (by omega) F (x2 := (0 : Int32)) (x3 := (0 : Int32)) (x4 := (0 : Int32)) (m := 0) (row := fun _ => 0) rfl (Nat.zero_le _) ⟨Nat.zero_le _, by unfold K5 pad; rfl, fun i hi => absurd hi (Nat.not_lt_zero i), fun i j _ hj => absurd hj (Nat.not_lt_zero j)⟩ ⟨fun i hi => absurd hi (Nat.not_lt_zero i), fun i j _ hj => absurd hj (Nat.not_lt_zero j)⟩ (by decide) (fun a ha => absurd ha (Nat.not_lt_zero a)) eo4'
  rcases rp with ⟨⟨nf, ef⟩, jb, sb⟩ | ⟨yf, key, g, eo, i25, Tg, Jg, Sgx, Wg, Bg, eg⟩
  · rcases ea with ⟨w, _⟩ | ⟨_, ea⟩
    · exact absurd w nf
    · refine Or.inl ⟨o4.2, _, ?_, ea, ef, ?_, ?_⟩
      · rcases rdi with ⟨_, z⟩ | ⟨z, _⟩
        · exact z
        · exact absurd z nf
      · rw [← w2]; exact jb
      · rw [← w2]; exact sb
  rcases ea with ⟨_, ea⟩ | ⟨w, _⟩
  rotate_left
  · exact absurd yf w
  have ex4 : hR o4.2 n 10 = some (n + 62) := by rw [kfR 10 K4 r0]; exact ex
  replace ea := cl_s ea; obtain ⟨x2, p, ea⟩ := ea
  rw [r_eq ex4 p] at ea
  replace ea := cl_s ea; obtain ⟨o6, eo6, ea⟩ := ea
  have eL4 : hR o4.2 (n + 62) 0 = some (n + 5) := by rw [kfR 0 K4 qx]; exact eL'
  have ewy4 : hR o4.2 (n + 62) 1 = some wy := by rw [kfR 1 K4 qx]; exact ewy
  obtain ⟨u, eu, _⟩ := run_1 eo6
  -- from here on
  have nLx : ¬ (n + 5) = (n + 62) := ne qL qx (by decide)
  have q30 : ρ (Z 30) = 30 := rr T (thR T qL (i := 17) (k2 := 30) rfl (by decide)) a30
  have q31 : ρ (Z 31) = 31 := rr T (thR T qL (i := 18) (k2 := 31) rfl (by decide)) a31
  have IQ : ∀ a i, ¬ a = (n + 62) → hI (wI o4.2 (n + 62) 10 (0 : Int32)) a i = hI h a i := fun a i na => by rw [rI_a na, eo, rI_a na]
  have RQ : ∀ a i, hR (wI o4.2 (n + 62) 10 (0 : Int32)) a i = hR h a i := fun a i => by
    show hR o4.2 a i = _
    rw [eo]; rfl
  have RG : ∀ a i, hR g a i = hR h1 a i := fun a i => (Jg.1 a i).trans (R2 a i)
  have IG : ∀ a i, ¬ a = (n + 513) → ¬ a = (n + 600) → hI g a i = hI h1 a i := fun a i na no => (Jg.2.2.2 a i no).trans (I2 a i na)
  have nmo : ¬ (n + 513) = (n + 600) := ne m1 qo (by decide)
  have IM : ∀ i, ¬ i = 1 → hI g (n + 513) i = hI h1 (n + 513) i := fun i n1 => by rw [Jg.2.2.2 (n + 513) i nmo, w2, rI_o n1]
  have IL : ∀ i, hI g lw i = hI h1 lw i := fun i => IG lw i nlm (ne qlw qo (by decide))
  have LB : LBk (n + 62) (n + 5) (Z 30) (Z 31) (n + 513) lw (Z 80) (Z 81) (wI o4.2 (n + 62) 10 (0 : Int32)) g := by
    have k4 : hI h (n + 5) 4 = hI h1 lw 10 := by
      have := Q.1 (4, 10) (by decide)
      rw [z2, z15] at this
      exact this
    have t2 := Q.2.2.2.2.1
    have t7 := Q.2.2.2.2.2.2.2.2.2.2
    have iB : ∀ i, hI g (Z 81) i = hI h1 (Z 81) i := fun i => IG _ i (ne q81 m1 (by decide)) (ne q81 qo (by decide))
    have iC : ∀ i, hI g (Z 80) i = hI h1 (Z 80) i := fun i => IG _ i (ne q80 m1 (by decide)) (ne q80 qo (by decide))
    have jB : ∀ i, hI (wI o4.2 (n + 62) 10 (0 : Int32)) (Z 31) i = hI h (Z 31) i := fun i => IQ _ i (ne q31 qx (by decide))
    have jC : ∀ i, hI (wI o4.2 (n + 62) 10 (0 : Int32)) (Z 30) i = hI h (Z 30) i := fun i => IQ _ i (ne q30 qx (by decide))
    refine ⟨⟨by rw [RQ]; exact eL', by rw [RQ]; exact a30, by rw [RQ]; exact a31⟩, ⟨by rw [RG]; exact em, by rw [RG]; exact b13, by rw [RG]; exact b14⟩, by rw [IQ (n + 5) 4 nLx, IL]; exact k4, fun q hq z => ?_, fun i hi => ?_⟩
    · rw [IQ (n + 5) 4 nLx] at z
      rw [iB, ← (t2 q hq).1]
      exact t7 q hq (by rw [z2]; exact z)
    · rw [jB, iB]
      refine ⟨(t2 i hi).1, (t2 i hi).2.1, fun j hj => ?_⟩
      rw [jC, iC]
      exact (t2 i hi).2.2 j hj
  have SG : SlR ρ1 (n + 513) (n + 592) (n + 593) (n + 594) (n + 598) (n + 599) (n + 600) g := ⟨⟨m1, qm, qe, qb, qrk, qrs, qo⟩, ⟨by rw [RG]; exact e46, by rw [RG]; exact e47, by rw [RG]; exact e48, by rw [RG]; exact e55, by rw [RG]; exact e56, by rw [RG]; exact e57⟩⟩
  have cp := core_j (c := cat c1 (fS soA soL) h1) (hq := wI o4.2 (n + 62) 10 (0 : Int32)) (key := key) hF (pmA_s (fs_a (c := c1) (A := soA) (L := soL) (h := h1)) rfl) (by rw [RQ]; exact e4) (by rw [RQ]; exact e5) (by rw [RQ]; exact e6) (ne qx qk (by decide)) (ne qx qs (by decide)) (ne qp qx (by decide)) (ne qp qk (by decide)) (ne qL qp (by decide)) nLx (ne q30 qp (by decide)) (ne q31 qp (by decide)) ⟨⟨ne qL qk (by decide), ne q30 qk (by decide), ne q31 qk (by decide), ne q30 qx (by decide), ne q31 qx (by decide)⟩, qlw, q80, q81⟩ (by rw [IQ (n + 5) 2 nLx]; exact thI T qL (k := 2) (i := 2) (lo := 0) (hi := 64) rfl) (fun i => by rw [IQ (n + 71) i (ne qp qx (by decide))]; exact thI T qp (k := 22) (i := i) rfl) (fun i => by rw [IQ _ i (ne q31 qx (by decide))]; exact (thI T q31 (k := 31) (i := i) (lo := 0) (hi := 6) rfl).2) (by rw [rI_o (by decide), eo, rI_s]) eu Tg SG Wg Bg i25 (by unfold SqOk; rw [IM 13 (by decide), IM 11 (by decide), IM 12 (by decide)]; exact sqo) (by rw [IL, ← I2 lw 15 nlm]; exact p15) (by rw [IQ (n + 5) 2 nLx, IM 13 (by decide)]; exact sqs) LB eg
  refine Or.inr ⟨key, o6, u, g, ⟨by rw [← eo]; exact eo6, by rw [← eo]; exact eu, ea⟩, ?_, ⟨by rw [← w2]; exact Jg, by rw [← w2]; exact Sgx⟩, ⟨by rw [← I2 lw 18 nlm]; exact p18, o9, by rw [← w2]; exact eo9, zc⟩, ρ1, cat c1 (fS soA soL) h1, v1, ?_⟩
  · rcases rdi with ⟨z, _⟩ | ⟨_, key', m', row', z1', z2', z3'⟩
    · exact absurd yf z
    · have : key' = key := by
        have a1 : hI o4.2 (n + 62) 14 = key' := by rw [z1', rI_s]
        have a2 : hI o4.2 (n + 62) 14 = key := by rw [eo, rI_s]
        rw [← a1, a2]
      rw [← this]
      exact ⟨m', row', z2', z3'⟩
  · rw [y80, y81] at cp
    exact cp
end
end
section
/-! ENDINGS: what stands of them between calls -/
section
variable {n F w : Nat} {h : Hp} {L : Nat → Nat → Int} {o : Int32 × Hp}
theorem hct_15 {K : Hp → Nat → Int32 → Option (Int32 × Hp)} {Q : Prop} {x1 : Int32} {m : Nat} (H : LOk L) (Rl : RfL n h (n + w) L) (e1 : x1.toInt = (m : Int)) (mL : (m : Int) < L 2 0) (hK : (∀ i : Nat, (i : Int) < L 74 m → fbt (L 75 (8 * m + i)) 5 = false) → K h (n + 513) (x1 + (1 : Int32)) = some o → Q) (h1 : o.1 = 1 → Q) : ∀ (f : Nat) {x2 : Int32} {i : Nat}, x2.toInt = (i : Int) → (i : Int) ≤ L 74 m → (∀ j : Nat, j < i → fbt (L 75 (8 * m + j)) 5 = false) → sX15_hasCatches_15 F K f h (n + 513) x1 x2 = some o → Q := by
  have z1 : (1 : Int32).toInt = 1 := rfl
  have z8 : (8 : Int32).toInt = 8 := rfl
  obtain ⟨⟨r4, r3, r74, r75, _⟩, lw, _⟩ := id Rl
  have L74 : ∀ i, (hI h (vM n 0 0 0 0 0 (n + w) 74) i).toInt = L 74 i := fun i => congrFun (congrFun lw 74) i
  have L75 : ∀ i, (hI h (vM n 0 0 0 0 0 (n + w) 75) i).toInt = L 75 i := fun i => congrFun (congrFun lw 75) i
  obtain ⟨b1, b2⟩ := H.2.2.2 m mL
  have l12 := H.2.2.1.2
  have n1 : x1.toNatClampNeg = m := by have := nc_i (x := x1) (by omega); omega
  intro f
  induction f with
  | zero => intro x2 i _ _ _ e; exact absurd e (by rw [sX15_hasCatches_15]; exact fun z => nomatch z)
  | succ f ih =>
    intro x2 i e2 iL B e
    rw [sX15_hasCatches_15] at e
    replace e := ce_e r4 e
    replace e := ce_e r74 e
    replace e := gg_e e
    rcases br_s e with ⟨c, e⟩ | ⟨c, e⟩
    · have c := le_i c
      rw [n1, L74] at c
      replace e := nx_e e
      exact hK (fun j hj => B j (by omega)) e
    have c := nle_i c
    rw [n1, L74] at c
    replace e := ce_e r4 e
    replace e := ce_e r75 e
    replace e := gg_e e
    have m8 : ((8 : Int32) * x1).toInt = 8 * (m : Int) := by rw [tm (by rw [z8]; omega), z8, e1]
    have ad : (((8 : Int32) * x1) + x2).toInt = 8 * (m : Int) + i := by rw [ta (by rw [m8]; omega), m8, e2]
    have ix : (((8 : Int32) * x1) + x2).toNatClampNeg = 8 * m + i := by have := nc_i (x := ((8 : Int32) * x1) + x2) (by omega); omega
    have fb := (fb_e (x := hI h (vM n 0 0 0 0 0 (n + w) 75) (8 * m + i)) (by have := (b2 i (by omega)).1; rw [← L75] at this; exact ⟨this.1, this.2⟩)).2.2.2.2.2
    rw [L75] at fb
    rw [ix] at e
    rcases br_s e with ⟨c2, e⟩ | ⟨c2, e⟩
    · replace e := nx_e e
      refine ih (i := i + 1) (by rw [ta (by rw [z1]; omega), z1]; omega) (by omega) (fun j hj => ?_) e
      by_cases z : j = i
      · rw [z]; exact fb.mp c2
      · exact B j (by omega)
    · exact h1 (by rw [so_e e])
theorem hct_2 {Q : Prop} (H : LOk L) (Rl : RfL n h (n + w) L) (h1 : o.1 = 1 → Q) (h0 : (∀ m i : Nat, (m : Int) < L 2 0 → (i : Int) < L 74 m → fbt (L 75 (8 * m + i)) 5 = false) → Q) : ∀ (f : Nat) {x1 : Int32} {m : Nat}, x1.toInt = (m : Int) → (∀ j i : Nat, j < m → (i : Int) < L 74 j → fbt (L 75 (8 * j + i)) 5 = false) → sX15_hasCatches_2 F f h (n + 513) x1 = some o → Q := by
  have z1 : (1 : Int32).toInt = 1 := rfl
  obtain ⟨⟨r4, _⟩, lw, _⟩ := id Rl
  have L2 : (hI h (n + w) 2).toInt = L 2 0 := congrFun (congrFun lw 2) 0
  have l12 := H.2.2.1.2
  intro f
  induction f with
  | zero => intro x1 m _ _ e; exact absurd e (by rw [sX15_hasCatches_2]; exact fun z => nomatch z)
  | succ f ih =>
    intro x1 m e1 B e
    rw [sX15_hasCatches_2] at e
    replace e := ce_e r4 e
    rcases br_s e with ⟨c, e⟩ | ⟨c, e⟩
    · have c := le_i c
      have c : (hI h (n + w) 2).toInt ≤ x1.toInt := c
      rw [L2] at c
      exact h0 (fun j i hj hi => B j i (by omega) hi)
    · have c := nle_i c
      have c : x1.toInt < (hI h (n + w) 2).toInt := c
      rw [L2] at c
      refine hct_15 (m := m) H Rl e1 (by omega) (fun bm e => ih (m := m + 1) (by rw [ta (by rw [z1]; omega), z1]; omega) (fun j i hj hi => ?_) e) h1 F (i := 0) rfl (by have := (H.2.2.2 m (by omega)).1.1; omega) (fun j hj => absurd hj (Nat.not_lt_zero _)) e
      by_cases z : j = m
      · rw [z] at hi ⊢; exact bm i hi
      · exact B j i (by omega) hi
/-- what solve asks of the law -/
theorem ncl_h (H : LOk L) (Rl : RfL n h (n + w) L) (e18 : hI h (n + w) 18 = 0) (e : sX15_hasCatches F h (n + 513) = some o) (z : o.1 = 0) : NcL L := by
  have L18 : (hI h (n + w) 18).toInt = L 18 0 := congrFun (congrFun Rl.2.1 18) 0
  refine ⟨by rw [← L18, e18]; rfl, ?_⟩
  unfold sX15_hasCatches at e
  refine hct_2 (o := o) H Rl (fun y => by rw [z] at y; exact absurd y (by decide)) id F (m := 0) rfl (fun j i hj => absurd hj (Nat.not_lt_zero _)) e
end
/-- rooms of the class -/
def RmB (n wA lA qA : Nat) (h : Hp) : Prop := (hR h (n + 62) 11 = some wA ∧ hR h (n + 62) 12 = some lA ∧ hR h (n + 62) 13 = some qA) ∧ (¬ wA = lA ∧ ¬ wA = qA ∧ ¬ lA = qA) ∧ ((n + 610 ≤ wA ∧ wA < hS h) ∧ (n + 610 ≤ lA ∧ lA < hS h) ∧ (n + 610 ≤ qA ∧ qA < hS h)) ∧ OuF n h wA ∧ OuF n h lA ∧ OuF n h qA
def EnRm (n : Nat) (h : Hp) : Prop := hR h (n + 62) 11 = some (n + 73) ∨ ∃ wA lA qA, RmB n wA lA qA h
/-- masks of the reference -/
def EnMk (n : Nat) (h : Hp) : Prop := ∀ a, hR h (n + 513) 52 = some a → (n + 610 ≤ a ∧ a < hS h) ∧ OuF n h a ∧ ∀ f, f = 11 ∨ f = 12 ∨ f = 13 → ¬ hR h (n + 62) f = some a
/-- both tables agree -/
def EnV (n : Nat) (h : Hp) (L : Nat → Nat → Int) (N : Nat) (nk : Nat → Nat) (rk : Nat → Nat → Int) (bk p sb : Nat → Nat) (q wA : Nat) : Prop := ∀ ν, NdA N nk q ν → (RtA L N nk rk q ν ∧ TbR n h bk ν = TbC h wA sb (p ν.1, ν.2) ∧ -1000000 ≤ TbR n h bk ν ∧ TbR n h bk ν ≤ 1000000) ∨ (¬ RtA L N nk rk q ν ∧ TbR n h bk ν = 3000000 ∧ TbC h wA sb (p ν.1, ν.2) = 4000000)
/-- both have solved one SET -/
def EnS (n : Nat) (h : Hp) (L : Nat → Nat → Int) (N : Nat) (nk : Nat → Nat) (rk : Nat → Nat → Int) (bk p r sb : Nat → Nat) (q wA : Nat) : Prop := ¬ hI h (n + 62) 10 = 0 ∧ (LwE L N nk rk q ∧ PmN N p r) ∧ (FmC n h N (fun k => nk (r k)) (fun k => rk (r k)) sb q ∧ SoK n h N ∧ PwE n h q ∧ (hR h (n + 62) 11 = some wA ∧ n + 610 ≤ wA ∧ wA < hS h) ∧ hI h (n + 69) (p 0) = hI h (n + 62) 15) ∧ REn n h N nk rk bk q ∧ EnV n h L N nk rk bk p sb q wA
def EnL (n : Nat) (h : Hp) (L : Nat → Nat → Int) : Prop := (hI h (n + 62) 10 = 0 ∧ hI h (n + 513) 50 = 0) ∨ ∃ N nk rk bk p r sb q wA, EnS n h L N nk rk bk p r sb q wA
def EnJ (n : Nat) (h : Hp) : Prop := (EbZ n h ∧ BdE n h ∧ EnRm n h ∧ EnMk n h) ∧ ∀ L, RLw n h L → EnL n h L
section
variable {n N q wA : Nat} {h h' : Hp} {L : Nat → Nat → Int} {nk : Nat → Nat} {rk : Nat → Nat → Int} {bk p r sb : Nat → Nat}
/-- worths are no greater -/
theorem loc_b {T : Nod → Int} (A : LocT (RtA L N nk rk q) (v0A L nk rk q) (ArA L N nk rk q) T) {ν : Nod} (r : RtA L N nk rk q ν) : -1000000 ≤ T ν ∧ T ν ≤ 1000000 := by
  rcases A ν r with ⟨w, a1, a2⟩ | ⟨_, ⟨m, b1, b2, b3, _⟩ | ⟨m, b1, b2, b3, _⟩ | ⟨b1, _⟩⟩
  · have := vb_A (L := L) (nk := nk) (rk := rk) (q := q) ν w a1
    rw [a2]; omega
  · rw [b3]; omega
  · rw [b3]; omega
  · rw [b1]; omega
/-- both tables keep to the rules: they agree -/
theorem env_k (E : LwE L N nk rk q) (P : PmN N p r) {T : Nod → Int} (A : LocT (RtA L N nk rk q) (v0A L nk rk q) (ArA L N nk rk q) (TbR n h bk)) (A3 : ∀ ν, NdA N nk q ν → ¬ RtA L N nk rk q ν → TbR n h bk ν = 3000000) (B : LocT (RtA L N (fun k => nk (r k)) (fun k => rk (r k)) q) (v0A L (fun k => nk (r k)) (fun k => rk (r k)) q) (ArA L N (fun k => nk (r k)) (fun k => rk (r k)) q) T) (B4 : ∀ ν, NdA N (fun k => nk (r k)) q ν → ¬ RtA L N (fun k => nk (r k)) (fun k => rk (r k)) q ν → T ν = 4000000) (eT : ∀ ν, NdA N (fun k => nk (r k)) q ν → TbC h wA sb ν = T ν) : EnV n h L N nk rk bk p sb q wA := by
  intro ν na
  have e : ((r (p ν.1), ν.2) : Nod) = ν := by rw [P.2.1]
  have na' : NdA N (fun k => nk (r k)) q (p ν.1, ν.2) := (pm_nda P).mpr (by show NdA N nk q (r (p ν.1), ν.2); rw [e]; exact na)
  have rr : RtA L N (fun k => nk (r k)) (fun k => rk (r k)) q (p ν.1, ν.2) ↔ RtA L N nk rk q ν := by
    rw [pm_rta P]
    show RtA L N nk rk q (r (p ν.1), ν.2) ↔ _
    rw [e]
  by_cases c : RtA L N nk rk q ν
  · left
    have b := loc_b A c
    refine ⟨c, ?_, b.1, b.2⟩
    rw [eT _ na']
    exact loc_u (fun x y hx hy => cl_A E x y hx hy) A (pm_loc P B) ν c
  · exact Or.inr ⟨c, A3 ν na c, by rw [eT _ na']; exact B4 _ na' (fun z => c (rr.mp z))⟩
end
end
section
/-! ENDINGS, the class: run, whole -/
section
variable {n F N q nT : Nat} {h h0 o hA hc : Hp} {u o6 : Int32 × Hp} {L : Nat → Nat → Int} {key : Int32}
theorem gpi : ∀ (f : Nat) {h : Hp} {x1 : Int32}, DyK n h0 h0 → DkT n h0 h → FrW (fun a _ => a = n + 71) h0 h → sX0_gatherSets_9 F f h (n + 62) x1 = some u → ∃ g0, (DkT n h0 g0 ∧ FrW (fun a _ => a = n + 71) h0 g0) ∧ (cl (sX0_addSet F (wJ (wI g0 (n + 62) 9 (0 : Int32)) (n + 62) 18 (0 : Int64)) (n + 62) (hI (wJ (wI g0 (n + 62) 9 (0 : Int32)) (n + 62) 18 (0 : Int64)) (n + 62) 14)) fun o_4 => sX0_gatherSets_62 F F o_4 (n + 62) (0 : Int32)) = some u := by
  intro f
  induction f with
  | zero => intro h x1 _ _ _ e; exact absurd e (by rw [sX0_gatherSets_9]; exact fun z => nomatch z)
  | succ f ih =>
    intro h x1 k0 dk Fr e
    have kh := dk.1 _ k0
    have r6 := dk_e (a := 62) (f := 6) (b := 71) kh (by decide +kernel)
    rw [sX0_gatherSets_9] at e
    rcases br_s e with ⟨_, e⟩ | ⟨_, e⟩
    · replace e := nx_e e
      replace e := nx_e e
      exact ⟨h, ⟨dk, Fr⟩, e⟩
    · replace e := ce_e r6 e
      replace e := ce_e r6 e
      replace e := gg_e e
      replace e := ce_e (dk_e (a := 62) (f := 0) (b := 5) kh (by decide +kernel)) e
      replace e := gg_e e
      replace e := nx_e e
      replace e := nx_e e
      exact ih k0 (dkt_w dk) (fw_wI Fr rfl) e
/-- all that is gathered keeps to what the asked SET keeps to -/
theorem gal_k (hF : 700000 ≤ F) (Lk : LwOk L) (k0 : DyK n h h) (Cl : ClL n h L) (G : GdK L nT (hI h (n + 62) 14)) (e : sX0_gatherSets F h (n + 62) = some u) (nz : ¬ u.1 = 0) : ∀ k : Nat, (k : Int) < (hI u.2 (n + 62) 9).toInt → GdK L nT (hI u.2 (n + 69) k) := by
  have z0 : (0 : Int32).toInt = 0 := rfl
  have s0 := dk_610 k0
  unfold sX0_gatherSets at e
  replace e := ce_e (dk_e (a := 62) (f := 6) (b := 71) k0 (by decide +kernel)) e
  replace e := gg_e e
  replace e := nx_e e
  obtain ⟨g0, ⟨d0, F0⟩, e⟩ := gpi (h0 := h) F k0 (dkt_w dkt_0) (fw_wI fw_0 rfl) e
  generalize hg3 : wJ (wI g0 (n + 62) 9 (0 : Int32)) (n + 62) 18 (0 : Int64) = g3 at e
  have I3 : ∀ a i, hI g3 a i = hI (wI g0 (n + 62) 9 (0 : Int32)) a i := fun a i => by rw [← hg3]; rfl
  have d3 : DkT n h g3 := by rw [← hg3]; exact dkt_j (dkt_w d0)
  have F3 : FrW (fun a i => a = n + 71 ∨ (a = n + 62 ∧ (i = 9 ∨ i = 18))) h g3 := by rw [← hg3]; exact fw_wJ (fw_wI (fw_s F0 (fun _ _ c => Or.inl c)) (Or.inr ⟨rfl, Or.inl rfl⟩)) (Or.inr ⟨rfl, Or.inr rfl⟩)
  have k3 := dk_self (d3.1 _ k0)
  have s3 := dk_610 k3
  have C3 : ClL n g3 L := cll_f k0 (d3.1 _ k0) (fun j i hj => F3.2 _ _ (by omega) (fun z => by omega)) Cl
  have c9 : hI g3 (n + 62) 9 = 0 := by rw [I3, rI_s]
  have c14 : hI g3 (n + 62) 14 = hI h (n + 62) 14 := (F3.2 _ _ (by omega) (fun z => by omega)).1
  rw [c14] at e
  obtain ⟨oc, ec, e⟩ := cl_s e
  unfold sX0_addSet at ec
  have I0 : IvG n (GdK L nT) g3 g3 := ⟨⟨dkt_0, fw_0⟩, by rw [c9]; exact ⟨by decide, by decide⟩, fun k hk => by rw [c9, z0] at hk; omega⟩
  obtain ⟨⟨dc, Fc⟩, cc, Pc⟩ := adi hF k3 G (gdk_0 G) F I0 ec
  have kc := dk_self (dc.1 _ k3)
  exact gat_g hF Lk kc (cll_f k3 (dc.1 _ k3) (fun j i hj => Fc.2 _ _ (by omega) (fun z => by unfold WGa at z; omega)) C3) cc Pc (by decide) e nz
/-- the SETS of the class, sorted, against those of the reference -/
theorem cgt_k (hF : 700000 ≤ F) (k0 : DyK n h h) (eu : sX0_gatherSets F h (n + 62) = some u) (J : JS (n + 62) (n + 69) (n + 71) (n + 513) (n + 592) (n + 593) (n + 598) (n + 599) hc hA) (e104 : sX0_gatherSets_104 F hc (n + 62) = some u) (eq : (hI hA (n + 513) 13).toInt = (q : Int)) : (DkT n h u.2 ∧ FrW (WGt n) h u.2 ∧ HSN h u.2) ∧ ∃ (N : Nat) (p r sb : Nat → Nat), ((hI hA (n + 513) 49).toInt = (N : Int) ∧ (hJ hA (n + 513) 59).toInt = (sb N : Int)) ∧ PmN N p r ∧ FmC n u.2 N (fun k => nkH n hA (r k)) (fun k => rkH n hA (r k)) sb q ∧ SoK n u.2 N ∧ PwE n u.2 q ∧ (hJ u.2 (n + 62) 18).toInt = (sb N : Int) ∧ ((hI hc (n + 62) 9).toInt = (N : Int) ∧ (hI u.2 (n + 62) 9).toInt = (N : Int)) ∧ ∀ k, k < N → hI u.2 (n + 69) (p k) = hI hc (n + 69) k := by
  have s0 := dk_610 k0
  obtain ⟨ku, Fu⟩ := wg_X0_gatherSets k0 eu
  have Hu := hs0_X0_gatherSets (g := h) hsn_0 eu
  have Hc := hs0_X0_gatherSets_104 (g := hc) hsn_0 e104
  have kc : DyK n hc hc := dk_self (dk_c k0 (fun x i => (Hc.2.2 x i).symm.trans (Hu.2.2 x i)) (fun x => (Hc.2.1 x).symm.trans (Hu.2.1 x)) (Hc.1.symm.trans Hu.1))
  have sc := dk_610 kc
  obtain ⟨⟨j1, js⟩, ⟨j2, t0, t6⟩, j3, j4, j5, j6⟩ := id J
  have nn := nc_i (x := hI hc (n + 62) 9) js.1
  have js1 := js.2
  obtain ⟨tot, ht⟩ : ∃ tot : Nat, (hJ hc (n + 62) 18).toInt = (tot : Int) := ⟨(hJ hc (n + 62) 18).toInt.toNat, by omega⟩
  rw [eq] at j6
  have pw : PwE n hc q := fun i hi => by rw [j5 i hi, eq, Int.natCast_pow]
  obtain ⟨_, ⟨D, Fr⟩, p, r, sb, Pm, Fm, So, sN, hp⟩ := cst_k (N := (hI hc (n + 62) 9).toNatClampNeg) (nk := nkH n hA) (row := fun k i => hI hA (n + 593) (5 * k + i)) (q := q) (tot := tot) hF kc (by omega) nn.symm (fun k hk => (j3 k (by omega)).1) (fun j k h1 h2 => j4 j k h1 (by omega)) (by rw [← ht]; exact j6) (by omega) ht pw e104
  refine ⟨⟨⟨fun g k => (wg_X0_gatherSets k eu).1, Hu.2⟩, Fu, Hu⟩, (hI hc (n + 62) 9).toNatClampNeg, p, r, sb, ⟨by rw [← j1]; exact nn.symm, by rw [← j2, ht, sN]⟩, Pm, Fm, So, fun i hi => ?_, ?_, ⟨nn.symm, ?_⟩, hp⟩
  · rw [(Fr.2 (n + 71) i (by omega) (fun z => by unfold WGs at z; omega)).1]; exact pw i hi
  · rw [(Fr.2 (n + 62) 18 (by omega) (fun z => by unfold WGs at z; omega)).2, ht, sN]
  · rw [(Fr.2 (n + 62) 9 (by omega) (fun z => by unfold WGs at z; omega)).1]; exact nn.symm
theorem rmk_s (H : HSN h o) (R : RmK n h) : RmK n o := by
  rcases R with ⟨r, a, b⟩ | ⟨wA, lA, qA, ⟨⟨t1, t2, t3⟩, td, w1, w2, w3, tn⟩, nw, O1, O2, O3⟩
  · exact Or.inl ⟨r, by rw [H.2.2]; exact a, by rw [H.2.1]; exact b⟩
  · have ou : ∀ {w : Nat}, OuF n h w → OuF n o w := fun O => ouf_r (fun a i _ _ _ => H.2.2 a i) O
    exact Or.inr ⟨wA, lA, qA, ⟨⟨by rw [H.2.2]; exact t1, by rw [H.2.2]; exact t2, by rw [H.2.2]; exact t3⟩, td, by rw [H.1]; exact w1, by rw [H.1]; exact w2, by rw [H.1]; exact w3, by rw [H.2.1]; exact tn⟩, by rw [H.2.1]; exact nw, ou O1, ou O2, ou O3⟩
/-- what the class' run writes -/
def WCx (n wA lA qA a : Nat) (_i : Nat) : Prop := (n + 62 ≤ a ∧ a ≤ n + 72) ∨ a = wA ∨ a = lA ∨ a = qA
/-- behind the class' run -/
def CrE (n : Nat) (L : Nat → Nat → Int) (N : Nat) (nk : Nat → Nat) (rk : Nat → Nat → Int) (p sb : Nat → Nat) (q : Nat) (key : Int32) (h : Hp) (o : Int32 × Hp) : Prop := ∃ wA lA qA, (o.1 = 1 ∧ DyK n o.2 o.2 ∧ KsG n h o.2) ∧ (FrW (WCx n wA lA qA) h o.2 ∧ (∀ a i, a < hS h → ¬ (a = n + 62 ∧ 11 ≤ i ∧ i ≤ 13) → hR o.2 a i = hR h a i)) ∧ ((OuF n h wA ∧ OuF n h lA ∧ OuF n h qA) ∧ ((hS h ≤ wA ∧ hS h ≤ lA ∧ hS h ≤ qA) ∨ (hR h (n + 62) 11 = some wA ∧ hR h (n + 62) 12 = some lA ∧ hR h (n + 62) 13 = some qA))) ∧ RmB n wA lA qA o.2 ∧ (EbZ n o.2 ∧ BdE n o.2) ∧ (hI o.2 (n + 62) 10 = 1 ∧ hI o.2 (n + 62) 15 = key) ∧ (FmC n o.2 N nk rk sb q ∧ SoK n o.2 N ∧ PwE n o.2 q ∧ hI o.2 (n + 69) (p 0) = key ∧ hI o.2 (n + 62) 9 = nI N) ∧ LocT (RtA L N nk rk q) (v0A L nk rk q) (ArA L N nk rk q) (fun ν => (hI o.2 wA (ixC sb ν)).toInt) ∧ ∀ ν, NdA N nk q ν → ¬ RtA L N nk rk q ν → (hI o.2 wA (ixC sb ν)).toInt = 4000000
theorem cru_k {nk : Nat → Nat} {rk : Nat → Nat → Int} {p sb : Nat → Nat} (hF : 700000 ≤ F) (E : LwE L N nk rk q) (N1 : 1 ≤ N) (pN : p 0 < N) (k0 : DyK n h h) (Cl : ClL n h L) (Fb : FmB n h L) (Z : EbZ n h) (Bd : BdE n h) (Rm : RmK n h) (ask : (∃ rt, KeyR key rt nT) ∧ ∀ k, k < N → nk k ≤ nT) (eu : sX0_gatherSets F (wI (wI h (n + 62) 14 key) (n + 62) 10 0) (n + 62) = some u) (Gu : DkT n (wI (wI h (n + 62) 14 key) (n + 62) 10 0) u.2 ∧ FrW (WGt n) (wI (wI h (n + 62) 14 key) (n + 62) 10 0) u.2 ∧ HSN (wI (wI h (n + 62) 14 key) (n + 62) 10 0) u.2) (Fc : FmC n u.2 N nk rk sb q ∧ SoK n u.2 N ∧ PwE n u.2 q ∧ (hJ u.2 (n + 62) 18).toInt = (sb N : Int) ∧ hI u.2 (n + 69) (p 0) = key) (u1 : u.1 = 1) (e : sX0_run F (wI h (n + 62) 14 key) (n + 62) = some o6) : CrE n L N nk rk p sb q key h o6 := by
  have s0 := dk_610 k0
  obtain ⟨du, Fu, Hu⟩ := Gu
  obtain ⟨fc, so, pw, e18, kp⟩ := Fc
  have sq : hS (wI (wI h (n + 62) 14 key) (n + 62) 10 0) = hS h := rfl
  have kq : DyK n h (wI (wI h (n + 62) 14 key) (n + 62) 10 0) := dk_wI (dk_wI k0)
  have Fq : FrW (fun a i => a = n + 62 ∧ (i = 10 ∨ i = 14)) h (wI (wI h (n + 62) 14 key) (n + 62) 10 0) := fw_wI (fw_wI fw_0 ⟨rfl, Or.inr rfl⟩) ⟨rfl, Or.inl rfl⟩
  have Fhu : FrW (fun a _ => n + 62 ≤ a ∧ a ≤ n + 72 ∧ ¬ (n + 63 ≤ a ∧ a ≤ n + 68)) h u.2 := fw_t (fw_s Fq (fun a i z => by omega)) (fw_s Fu (fun a i z => by unfold WGt at z; omega))
  have ku : DyK n h u.2 := du.1 _ kq
  have Rmu : RmK n u.2 := rmk_s Hu Rm
  unfold sX0_run at e
  replace e := nx_e e
  replace e := ce_e eu e
  unfold sX0_run_9 at e
  replace e := bn_e (by rw [u1]; decide) e
  obtain ⟨v, ev, e⟩ := cl_s e
  have kuu := dk_self ku
  have su := dk_610 kuu
  have eS : hS u.2 = hS h := Hu.1
  obtain ⟨kv0, Fv, Nv, Rv, wA, lA, qA, ⟨T, nw, O1, O2, O3⟩, no⟩ := mkr_k kuu Rmu ev
  have kv := dk_self kv0
  have sv := dk_610 kv
  have Iv : ∀ a i, a < hS u.2 → hI v a i = hI u.2 a i ∧ hJ v a i = hJ u.2 a i := fun a i l => Fv.2 a i l (fun z => z)
  have Jv : ∀ j i, j < 610 → hI v (n + j) i = hI u.2 (n + j) i ∧ hJ v (n + j) i = hJ u.2 (n + j) i := fun j i hj => Iv _ _ (by omega)
  have Jh : ∀ j i, j < 610 → (j < 62 ∨ 72 < j ∨ (63 ≤ j ∧ j ≤ 68)) → hI v (n + j) i = hI h (n + j) i ∧ hJ v (n + j) i = hJ h (n + j) i := fun j i hj hr => by
    rw [(Jv j i hj).1, (Jv j i hj).2]
    exact Fhu.2 _ _ (by omega) (fun z => by omega)
  have KGu : KsG n h u.2 := ku.1.2.2.2
  have KGv : KsG n u.2 v := ⟨Fv.1, fun q hq i a ea => by
    have f := fam_lt q hq
    have z : ¬ q.1 = 62 := fun y => f.2.1 (62, 11) (by decide) y.symm
    rw [Rv _ _ (by omega) (fun y => by omega)]; exact ea, fun f hf => Rv _ _ (by omega) (fun y => by omega)⟩
  have Clv : ClL n v L := cll_fv k0 kv0 (⟨Nat.le_trans KGu.1 KGv.1, fun q hq i a ea => KGv.2.1 q hq i a (KGu.2.1 q hq i a ea), fun f hf => (KGv.2.2 f hf).trans (KGu.2.2 f hf)⟩) (fun j i hj => Jh j i (by omega) (by omega)) Cl
  have Zv : EbZ n v := ebz_f k0 (o := v) (W := fun a i => (n + 62 ≤ a ∧ a ≤ n + 72 ∧ ¬ (n + 63 ≤ a ∧ a ≤ n + 68)) ∨ False) ⟨by have := Fv.1; omega, fun a i l nw => by
    rw [(Iv a i (by omega)).1, (Iv a i (by omega)).2]
    exact Fhu.2 a i l (fun z => nw (Or.inl z))⟩ (fun a i z l => by rcases z with z | z; exact Or.inr (Or.inr (by omega)); exact z.elim) Z
  have Bdv : BdE n v := by
    obtain ⟨⟨M, b1, b2, b3, b4⟩, s', t1, t2⟩ := Bd
    exact ⟨⟨M, fun s hs => by rw [(Jh 64 s (by omega) (by omega)).1]; exact b1 s hs, fun d hd => by rw [(Jh 65 d (by omega) (by omega)).2]; exact b2 d hd, fun d hd => by rw [(Jh 66 d (by omega) (by omega)).1]; exact b3 d hd, b4⟩, s', t1, by rw [(Jh 63 5 (by omega) (by omega)).1]; exact t2⟩
  have fcv : FmC n v N nk rk sb q := ⟨⟨fc.1.1, by rw [(Jv 62 9 (by omega)).1]; exact fc.1.2⟩, fun j hj => by rw [(Jv 69 j (by omega)).1]; exact fc.2.1 j hj, fun j hj => by rw [(Jv 70 j (by omega)).1]; exact fc.2.2.1 j hj, fc.2.2.2⟩
  have sov : SoK n v N := fun j k h1 h2 => by rw [(Jv 69 j (by omega)).1, (Jv 69 k (by omega)).1]; exact so j k h1 h2
  have c14 : hI v (n + 62) 14 = key := by
    rw [(Jv 62 14 (by omega)).1, (Fu.2 (n + 62) 14 (by omega) (fun z => by unfold WGt at z; omega)).1, rI_o (by decide), rI_s]
  obtain ⟨⟨r1, ⟨r2, r3⟩, ⟨⟨⟨_, f2, s2, p2, _⟩, T2, Z2, _⟩, Bd2⟩, r10, lc, l4⟩, r15⟩ := run_18' (nT := nT) hF E kv ⟨Clv, fcv, sov, fun i hi => by rw [(Jv 71 i (by omega)).1]; exact pw i hi, fun i hi s hs z => by rw [(Jh 26 i (by omega) (by omega)).2] at z; exact Fb i hi s hs z⟩ T Zv Bdv (by rw [c14]; exact ask) (by rw [(Jv 62 18 (by omega)).2]; exact e18) e
  have ko := r2.1 _ kv
  have F6 : FrW (WCx n wA lA qA) h o6.2 := by
    refine fw_t (fw_s Fhu (fun a i z => Or.inl ⟨z.1, z.2.1⟩)) (fw_t (fw_s Fv (fun a i z => z.elim)) (fw_s r3 (fun a i z => ?_)))
    unfold WAe WEb WGb WRo WTc at z
    unfold WCx
    omega
  have R6 : ∀ a i, a < hS h → ¬ (a = n + 62 ∧ 11 ≤ i ∧ i ≤ 13) → hR o6.2 a i = hR h a i := fun a i l np => by
    rw [r2.2.2, Rv a i (by omega) np, Hu.2.2]
    rfl
  have W6 := r3.1
  have v6 := Fv.1
  have ou : ∀ {w : Nat}, OuF n v w → OuF n o6.2 w := fun O => ouf_r (fun a i _ _ _ => r2.2.2 a i) O
  have oh : ∀ {w : Nat}, OuF n v w → OuF n h w := fun O q hq i b hi eb => by
    have f := fam_lt q hq
    have z : ¬ q.1 = 62 := fun y => f.2.1 (62, 11) (by decide) y.symm
    refine O q hq i b hi ?_
    rw [Rv _ _ (by omega) (fun y => by omega), Hu.2.2]
    exact eb
  obtain ⟨tr, td, w1, w2, w3, _⟩ := T2
  refine ⟨wA, lA, qA, ⟨r1, dk_self ko, ⟨by omega, fun q hq i a ea => ?_, fun f hf => R6 _ _ (by omega) (fun y => by omega)⟩⟩, ⟨F6, R6⟩, ⟨⟨oh O1, oh O2, oh O3⟩, ?_⟩, ⟨tr, td, ⟨w1, w2, w3⟩, ou O1, ou O2, ou O3⟩, ⟨Z2, Bd2⟩, ⟨r10, by rw [r15]; exact c14⟩, ⟨f2, s2, p2, ?_, ?_⟩, lc, l4⟩
  · have f := fam_lt q hq
    have z : ¬ q.1 = 62 := fun y => f.2.1 (62, 11) (by decide) y.symm
    rw [R6 _ _ (by omega) (fun y => by omega)]
    exact ea
  · rw [← eS]
    refine no.imp id (fun z => ?_)
    obtain ⟨⟨t1, t2, t3⟩, _⟩ := z.1
    rw [Hu.2.2] at t1 t2 t3
    exact ⟨t1, t2, t3⟩
  · rw [(r3.2 (n + 69) (p 0) (by omega) (fun z => by unfold WAe WEb WGb WRo WTc at z; omega)).1, (Jv 69 _ (by omega)).1]
    exact kp
  · apply Int32.toInt_inj.mp
    rw [f2.1.2, z_toInt (by have := f2.1.1; omega)]
end
end
