/-! both laws agree, between calls -/
abbrev lc5 : List Nat := [27, 28, 29, 30, 31]
abbrev lr9 : List Nat := [73, 74, 75, 76, 77, 78, 79, 80, 81]
def LwQ (Z : Nat → Nat) (hc hr : Hp) : Prop := (∀ p, p ∈ prs → hI hc (Z 2) p.1 = hI hr (Z 15) p.2) ∧ hJ hc (Z 2) 13 = hJ hr (Z 15) 21 ∧ Rg 0 12 (hI hc (Z 2) 3) ∧ LT1 Z hc hr ∧ LT2 Z hc hr ∧ LT3 Z hc hr ∧ (Rg 3 8 (hI hc (Z 2) 0) ∧ Rg 3 8 (hI hc (Z 2) 1) ∧ Rg (-1) 11 (hI hc (Z 2) 4) ∧ Rg 0 4095 (hI hc (Z 2) 11)) ∧ LT4 Z hr ∧ LT5 Z hc hr ∧ LT6 Z hc hr ∧ LT7 Z hc
def ZA (Z : Nat → Nat) (L lw : Nat) (hc hr : Hp) : Prop := (Z 2 = L ∧ hR hc L 14 = some (Z 27) ∧ hR hc L 15 = some (Z 28) ∧ hR hc L 16 = some (Z 29) ∧ hR hc L 17 = some (Z 30) ∧ hR hc L 18 = some (Z 31)) ∧ (Z 15 = lw ∧ hR hr lw 3 = some (Z 73) ∧ hR hr lw 4 = some (Z 74) ∧ hR hr lw 5 = some (Z 75) ∧ hR hr lw 6 = some (Z 76) ∧ hR hr lw 7 = some (Z 77) ∧ hR hr lw 8 = some (Z 78) ∧ hR hr lw 9 = some (Z 79) ∧ hR hr lw 13 = some (Z 80) ∧ hR hr lw 14 = some (Z 81)) ∧ Z 996 = 0 ∧ Z 997 = 0 ∧ Z 998 = 0
def LawR (L lw : Nat) (hc hr : Hp) : Prop := ∃ Z : Nat → Nat, ZA Z L lw hc hr ∧ LwQ Z hc hr
section
variable {Z : Nat → Nat} {hc hr oc or : Hp} {L lw : Nat}
theorem lwq_s (S : LwS Z hc hr) : LwQ Z hc hr := by
  obtain ⟨s1, s2, s3, s4, s5, s6, s7, s8, s9⟩ := S
  exact ⟨s2, s3, s4, s5, s6, s7, s8, s9.2.2.1, s9.2.2.2.2.1, s9.2.2.2.2.2⟩
theorem lwq_k (S : LwQ Z hc hr) (c2 : ∀ i, hI oc (Z 2) i = hI hc (Z 2) i) (cJ : hJ oc (Z 2) 13 = hJ hc (Z 2) 13) (ca : ∀ k, k ∈ lc5 → ∀ i, hI oc (Z k) i = hI hc (Z k) i) (r15 : ∀ i, hI or (Z 15) i = hI hr (Z 15) i) (rJ : hJ or (Z 15) 21 = hJ hr (Z 15) 21) (ra : ∀ k, k ∈ lr9 → ∀ i, hI or (Z k) i = hI hr (Z k) i) : LwQ Z oc or := by
  obtain ⟨s2, s3, s4, s5, s6, s7, s8, s9, s10, s11, s12⟩ := S
  refine ⟨fun p hp => by rw [c2, r15]; exact s2 p hp, by rw [cJ, rJ]; exact s3, by rw [c2]; exact s4, fun i hi => ?_, fun i hi => ?_, ⟨by rw [c2]; exact s7.1, fun q hq => ?_⟩, by rw [c2, c2, c2, c2]; exact s8, fun q h1 h2 => by rw [r15] at h1; rw [ra 74 (by decide), ra 81 (by decide)]; exact s9 q h1 h2, lt5_k s10 (c2 10) (fun k _ _ => r15 k), lt6_k s11 (r15 2) (fun k hk i => ca k ?_ i) (fun k hk i => ra k ?_ i), lt7_k s12 (c2 4) (fun i => ca 31 (by decide) i)⟩
  · rw [c2] at hi
    rw [ca 27 (by decide), ra 73 (by decide)]; exact s5 i hi
  · rw [ca 31 (by decide), ra 81 (by decide)]
    refine ⟨(s6 i hi).1, (s6 i hi).2.1, fun j hj => ?_⟩
    rw [ca 30 (by decide), ra 80 (by decide)]
    exact (s6 i hi).2.2 j hj
  · rw [c2, s7.2 q hq]
    constructor
    · rintro ⟨i, j, a, b, c⟩
      exact ⟨i, j, by rw [r15]; exact a, by rw [ra 81 (by decide)]; exact b, by rw [ra 80 (by decide)]; exact c⟩
    · rintro ⟨i, j, a, b, c⟩
      exact ⟨i, j, by rw [← r15]; exact a, by rw [← ra 81 (by decide)]; exact b, by rw [← ra 80 (by decide)]; exact c⟩
  · have : ∀ k, k ∈ lc2 → k ∈ lc5 := by decide
    exact this k hk
  · have : ∀ k, k ∈ lr → k ∈ lr9 := by decide
    exact this k hk
/-- nothing of either law is written -/
theorem lawr_k (R : LawR L lw hc hr) (c2 : ∀ i, hI oc L i = hI hc L i) (cJ : hJ oc L 13 = hJ hc L 13) (cR : ∀ i, hR oc L i = hR hc L i) (ca : ∀ j r, 14 ≤ j → j ≤ 18 → hR hc L j = some r → ∀ i, hI oc r i = hI hc r i) (r15 : ∀ i, hI or lw i = hI hr lw i) (rJ : hJ or lw 21 = hJ hr lw 21) (rR : ∀ i, hR or lw i = hR hr lw i) (ra : ∀ j r, (3 ≤ j ∧ j ≤ 9) ∨ j = 13 ∨ j = 14 → hR hr lw j = some r → ∀ i, hI or r i = hI hr r i) : LawR L lw oc or := by
  obtain ⟨Z, ⟨⟨z2, a1, a2, a3, a4, a5⟩, ⟨z15, b1, b2, b3, b4, b5, b6, b7, b8, b9⟩, z⟩, Q⟩ := R
  refine ⟨Z, ⟨⟨z2, by rw [cR]; exact a1, by rw [cR]; exact a2, by rw [cR]; exact a3, by rw [cR]; exact a4, by rw [cR]; exact a5⟩, ⟨z15, by rw [rR]; exact b1, by rw [rR]; exact b2, by rw [rR]; exact b3, by rw [rR]; exact b4, by rw [rR]; exact b5, by rw [rR]; exact b6, by rw [rR]; exact b7, by rw [rR]; exact b8, by rw [rR]; exact b9⟩, z⟩, lwq_k Q (by rw [z2]; exact c2) (by rw [z2]; exact cJ) (fun k hk i => ?_) (by rw [z15]; exact r15) (by rw [z15]; exact rJ) (fun k hk i => ?_)⟩
  · simp only [List.mem_cons, List.not_mem_nil, or_false] at hk
    rcases hk with rfl | rfl | rfl | rfl | rfl
    · exact ca 14 _ (by decide) (by decide) a1 i
    · exact ca 15 _ (by decide) (by decide) a2 i
    · exact ca 16 _ (by decide) (by decide) a3 i
    · exact ca 17 _ (by decide) (by decide) a4 i
    · exact ca 18 _ (by decide) (by decide) a5 i
  · simp only [List.mem_cons, List.not_mem_nil, or_false] at hk
    rcases hk with rfl | rfl | rfl | rfl | rfl | rfl | rfl | rfl | rfl
    · exact ra 3 _ (by decide) b1 i
    · exact ra 4 _ (by decide) b2 i
    · exact ra 5 _ (by decide) b3 i
    · exact ra 6 _ (by decide) b4 i
    · exact ra 7 _ (by decide) b5 i
    · exact ra 8 _ (by decide) b6 i
    · exact ra 9 _ (by decide) b7 i
    · exact ra 13 _ (by decide) b8 i
    · exact ra 14 _ (by decide) b9 i
end
/-- laws in force agree; the reference's two laws are apart -/
def LwA (n m : Nat) (h : Hp) : Prop := ∀ L lw, hR h n 2 = some L → hR h m 4 = some lw → LawR L lw h h
def DL (m : Nat) (h : Hp) : Prop := ∀ l4 l5, hR h m 4 = some l4 → hR h m 5 = some l5 → ¬ l4 = l5 ∧ ∀ i r, hR h l4 i = some r → ¬ hR h l5 i = some r
section
variable {ρ ρ1 : Nat → Nat} {c c1 : Cm} {h o v g : Hp} {n m L lw : Nat} {S : Nat → Nat → Nat → Bool}
theorem rf_2 : ∀ j : Nat, 14 ≤ j → j ≤ 18 → rfK 2 j = j + 13 ∧ 27 ≤ j + 13 ∧ j + 13 ≤ 31 := fun j h1 h2 => by
  have : j = 14 ∨ j = 15 ∨ j = 16 ∨ j = 17 ∨ j = 18 := by omega
  rcases this with rfl | rfl | rfl | rfl | rfl <;> exact ⟨rfl, by decide, by decide⟩
theorem rf_15 : ∀ j : Nat, (3 ≤ j ∧ j ≤ 9) ∨ j = 13 ∨ j = 14 → 73 ≤ rfK 15 j ∧ rfK 15 j ≤ 81 := fun j hj => by
  have : j = 3 ∨ j = 4 ∨ j = 5 ∨ j = 6 ∨ j = 7 ∨ j = 8 ∨ j = 9 ∨ j = 13 ∨ j = 14 := by omega
  rcases this with rfl | rfl | rfl | rfl | rfl | rfl | rfl | rfl | rfl <;> exact ⟨by decide, by decide⟩
theorem rf_inj {i j : Nat} (hi : (3 ≤ i ∧ i ≤ 9) ∨ i = 13 ∨ i = 14) (hj : (3 ≤ j ∧ j ≤ 9) ∨ j = 13 ∨ j = 14) (e : rfK 15 i = rfK 15 j) : i = j := by
  have a : i = 3 ∨ i = 4 ∨ i = 5 ∨ i = 6 ∨ i = 7 ∨ i = 8 ∨ i = 9 ∨ i = 13 ∨ i = 14 := by omega
  have b : j = 3 ∨ j = 4 ∨ j = 5 ∨ j = 6 ∨ j = 7 ∨ j = 8 ∨ j = 9 ∨ j = 13 ∨ j = 14 := by omega
  rcases a with rfl | rfl | rfl | rfl | rfl | rfl | rfl | rfl | rfl <;> rcases b with rfl | rfl | rfl | rfl | rfl | rfl | rfl | rfl | rfl <;> first | rfl | exact absurd e (by decide)
/-- a run that leaves the class's law -/
theorem lc_f (T : TH ρ c h) (qL : ρ L = 2) (f : Fr ρ (cat c S h) h o) (s : ∀ k w i, lwK k = true → S k w i = false) : (∀ i, hI o L i = hI h L i) ∧ hJ o L 13 = hJ h L 13 ∧ (∀ i, hR o L i = hR h L i) ∧ ∀ j r, 14 ≤ j → j ≤ 18 → hR h L j = some r → ∀ i, hI o r i = hI h r i := by
  have s2 : ∀ w i, S 2 w i = false := fun w i => s 2 w i rfl
  refine ⟨fun i => (fr_RI f qL (by decide) (fun w => s2 w i)).1, (fr_RI f qL (by decide) (fun w => s2 w 13)).2.1, fun i => (fr_RI f qL (by decide) (fun w => s2 w i)).2.2, fun j r h1 h2 er i => ?_⟩
  obtain ⟨k1, k2, k3⟩ := rf_2 j h1 h2
  have qr : ρ r = j + 13 := rr T (thR T qL (i := j) (k2 := j + 13) k1 (by omega)) er
  refine (fr_RI f qr (by omega) (fun w => s (j + 13) w i ?_)).1
  unfold lwK
  rw [Bool.or_eq_true, Bool.and_eq_true, decide_eq_true_iff, decide_eq_true_iff]
  exact Or.inr ⟨by omega, by omega⟩
/-- a run that leaves the reference's law -/
theorem lr_f (T : TH ρ c h) (ql : ρ lw = 15) (f : Fr ρ (cat c S h) h o) (s : ∀ k w i, rwK k = true → S k w i = false) : (∀ i, hI o lw i = hI h lw i) ∧ hJ o lw 21 = hJ h lw 21 ∧ (∀ i, hR o lw i = hR h lw i) ∧ ∀ j r, (3 ≤ j ∧ j ≤ 9) ∨ j = 13 ∨ j = 14 → hR h lw j = some r → ∀ i, hI o r i = hI h r i := by
  have s2 : ∀ w i, S 15 w i = false := fun w i => s 15 w i rfl
  refine ⟨fun i => (fr_RI f ql (by decide) (fun w => s2 w i)).1, (fr_RI f ql (by decide) (fun w => s2 w 21)).2.1, fun i => (fr_RI f ql (by decide) (fun w => s2 w i)).2.2, fun j r hj er i => ?_⟩
  obtain ⟨k1, k2⟩ := rf_15 j hj
  have qr : ρ r = rfK 15 j := rr T (thR T ql (i := j) (k2 := rfK 15 j) rfl (by omega)) er
  refine (fr_RI f qr (by omega) (fun w => s (rfK 15 j) w i ?_)).1
  unfold rwK
  rw [Bool.or_eq_true, Bool.and_eq_true, decide_eq_true_iff, decide_eq_true_iff]
  exact Or.inr ⟨by omega, by omega⟩
end
