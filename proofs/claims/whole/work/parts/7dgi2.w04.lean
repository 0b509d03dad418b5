section
/-! both laws agree, between calls -/
abbrev lc5 : List Nat := [27, 28, 29, 30, 31]
abbrev lr9 : List Nat := [73, 74, 75, 76, 77, 78, 79, 80, 81]
def LwQ (Z : Nat → Nat) (hc hr : Hp) : Prop := (∀ p, p ∈ prs → hI hc (Z 2) p.1 = hI hr (Z 15) p.2) ∧ hJ hc (Z 2) 13 = hJ hr (Z 15) 21 ∧ Rg 0 12 (hI hc (Z 2) 3) ∧ LT1 Z hc hr ∧ LT2 Z hc hr ∧ LT3 Z hc hr ∧ (Rg 3 8 (hI hc (Z 2) 0) ∧ Rg 3 8 (hI hc (Z 2) 1) ∧ Rg (-1) 11 (hI hc (Z 2) 4) ∧ Rg 0 4095 (hI hc (Z 2) 11)) ∧ LT4 Z hr ∧ LT5 Z hc hr ∧ LT6 Z hc hr ∧ LT7 Z hc
def ZA (Z : Nat → Nat) (L lw : Nat) (hc hr : Hp) : Prop := (Z 2 = L ∧ hR hc L 14 = some (Z 27) ∧ hR hc L 15 = some (Z 28) ∧ hR hc L 16 = some (Z 29) ∧ hR hc L 17 = some (Z 30) ∧ hR hc L 18 = some (Z 31)) ∧ (Z 15 = lw ∧ hR hr lw 3 = some (Z 73) ∧ hR hr lw 4 = some (Z 74) ∧ hR hr lw 5 = some (Z 75) ∧ hR hr lw 6 = some (Z 76) ∧ hR hr lw 7 = some (Z 77) ∧ hR hr lw 8 = some (Z 78) ∧ hR hr lw 9 = some (Z 79) ∧ hR hr lw 13 = some (Z 80) ∧ hR hr lw 14 = some (Z 81)) ∧ Z 996 = 0 ∧ Z 997 = 0 ∧ Z 998 = 0
def LawR (L lw : Nat) (hc hr : Hp) : Prop := ∃ Z : Nat → Nat, ZA Z L lw hc hr ∧ LwQ Z hc hr
section
variable {Z : Nat → Nat} {hc hr oc or : Hp} {L lw : Nat}
theorem lwq_s (S : LwS Z hc hr) : LwQ Z hc hr := by
  obtain ⟨s1, s2, s3, s4, s5, s6, s7, s8, s9⟩ := S
  exact ⟨s2, s3, s4, s5, s6, s7, s8, s9.2.2.1, s9.2.2.2.2.1, s9.2.2.2.2.2⟩
theorem lwq_k (S : LwQ Z hc hr) (c2 : ∀ i, hI oc (Z 2) i = hI hc (Z 2) i) (cJ : hJ oc (Z 2) 13 = hJ hc (Z 2) 13) (ca : ∀ k, k ∈ lc5 → ∀ i, hI oc (Z k) i = hI hc (Z k) i) (r15 : ∀ i, hI or (Z 15) i = hI hr (Z 15) i) (rJ : hJ or (Z 15) 21 = hJ hr (Z 15) 21) (ra : ∀ k, k ∈ lr9 → ∀ i, hI or (Z k) i = hI hr (Z k) i) : LwQ Z oc or := by
  obtain ⟨s2, s3, s4, s5, s6, s7, s8, s9, s10, s11, s12⟩ := S
  refine ⟨fun p hp => by rw [c2, r15]; exact s2 p hp, by rw [cJ, rJ]; exact s3, by rw [c2]; exact s4, fun i hi => ?_, fun i hi => ?_, ⟨by rw [c2]; exact s7.1, fun q hq => ?_⟩, by rw [c2, c2, c2, c2]; exact s8, fun q h1 h2 => by rw [r15] at h1; rw [ra 74 (by decide), ra 81 (by decide)]; exact s9 q h1 h2, lt5_k s10 (c2 10) (fun k _ _ => r15 k), lt6_k s11 (r15 2) (fun k hk i => ca k ?_ i) (fun k hk i => ra k ?_ i), lt7_k s12 (c2 4) (fun i => ca 31 (by decide) i)⟩
  · rw [c2] at hi
    rw [ca 27 (by decide), ra 73 (by decide)]; exact s5 i hi
  · rw [ca 31 (by decide), ra 81 (by decide)]
    refine ⟨(s6 i hi).1, (s6 i hi).2.1, fun j hj => ?_⟩
    rw [ca 30 (by decide), ra 80 (by decide)]
    exact (s6 i hi).2.2 j hj
  · rw [c2, s7.2 q hq]
    constructor
    · rintro ⟨i, j, a, b, c⟩
      exact ⟨i, j, by rw [r15]; exact a, by rw [ra 81 (by decide)]; exact b, by rw [ra 80 (by decide)]; exact c⟩
    · rintro ⟨i, j, a, b, c⟩
      exact ⟨i, j, by rw [← r15]; exact a, by rw [← ra 81 (by decide)]; exact b, by rw [← ra 80 (by decide)]; exact c⟩
  · have : ∀ k, k ∈ lc2 → k ∈ lc5 := by decide
    exact this k hk
  · have : ∀ k, k ∈ lr → k ∈ lr9 := by decide
    exact this k hk
/-- nothing of either law is written -/
theorem lawr_k (R : LawR L lw hc hr) (c2 : ∀ i, hI oc L i = hI hc L i) (cJ : hJ oc L 13 = hJ hc L 13) (cR : ∀ i, hR oc L i = hR hc L i) (ca : ∀ j r, 14 ≤ j → j ≤ 18 → hR hc L j = some r → ∀ i, hI oc r i = hI hc r i) (r15 : ∀ i, hI or lw i = hI hr lw i) (rJ : hJ or lw 21 = hJ hr lw 21) (rR : ∀ i, hR or lw i = hR hr lw i) (ra : ∀ j r, (3 ≤ j ∧ j ≤ 9) ∨ j = 13 ∨ j = 14 → hR hr lw j = some r → ∀ i, hI or r i = hI hr r i) : LawR L lw oc or := by
  obtain ⟨Z, ⟨⟨z2, a1, a2, a3, a4, a5⟩, ⟨z15, b1, b2, b3, b4, b5, b6, b7, b8, b9⟩, z⟩, Q⟩ := R
  refine ⟨Z, ⟨⟨z2, by rw [cR]; exact a1, by rw [cR]; exact a2, by rw [cR]; exact a3, by rw [cR]; exact a4, by rw [cR]; exact a5⟩, ⟨z15, by rw [rR]; exact b1, by rw [rR]; exact b2, by rw [rR]; exact b3, by rw [rR]; exact b4, by rw [rR]; exact b5, by rw [rR]; exact b6, by rw [rR]; exact b7, by rw [rR]; exact b8, by rw [rR]; exact b9⟩, z⟩, lwq_k Q (by rw [z2]; exact c2) (by rw [z2]; exact cJ) (fun k hk i => ?_) (by rw [z15]; exact r15) (by rw [z15]; exact rJ) (fun k hk i => ?_)⟩
  · simp only [List.mem_cons, List.not_mem_nil, or_false] at hk
    rcases hk with rfl | rfl | rfl | rfl | rfl
    · exact ca 14 _ (by decide) (by decide) a1 i
    · exact ca 15 _ (by decide) (by decide) a2 i
    · exact ca 16 _ (by decide) (by decide) a3 i
    · exact ca 17 _ (by decide) (by decide) a4 i
    · exact ca 18 _ (by decide) (by decide) a5 i
  · simp only [List.mem_cons, List.not_mem_nil, or_false] at hk
    rcases hk with rfl | rfl | rfl | rfl | rfl | rfl | rfl | rfl | rfl
    · exact ra 3 _ (by decide) b1 i
    · exact ra 4 _ (by decide) b2 i
    · exact ra 5 _ (by decide) b3 i
    · exact ra 6 _ (by decide) b4 i
    · exact ra 7 _ (by decide) b5 i
    · exact ra 8 _ (by decide) b6 i
    · exact ra 9 _ (by decide) b7 i
    · exact ra 13 _ (by decide) b8 i
    · exact ra 14 _ (by decide) b9 i
end
/-- laws in force agree; the reference's two laws are apart -/
def LwA (n m : Nat) (h : Hp) : Prop := ∀ L lw, hR h n 2 = some L → hR h m 4 = some lw → LawR L lw h h
def DL (m : Nat) (h : Hp) : Prop := ∀ l4 l5, hR h m 4 = some l4 → hR h m 5 = some l5 → ¬ l4 = l5 ∧ ∀ i r, hR h l4 i = some r → ¬ hR h l5 i = some r
section
variable {ρ ρ1 : Nat → Nat} {c c1 : Cm} {h o v g : Hp} {n m L lw : Nat} {S : Nat → Nat → Nat → Bool}
theorem rf_2 : ∀ j : Nat, 14 ≤ j → j ≤ 18 → rfK 2 j = j + 13 ∧ 27 ≤ j + 13 ∧ j + 13 ≤ 31 := fun j h1 h2 => by
  have : j = 14 ∨ j = 15 ∨ j = 16 ∨ j = 17 ∨ j = 18 := by omega
  rcases this with rfl | rfl | rfl | rfl | rfl <;> exact ⟨rfl, by decide, by decide⟩
theorem rf_15 : ∀ j : Nat, (3 ≤ j ∧ j ≤ 9) ∨ j = 13 ∨ j = 14 → 73 ≤ rfK 15 j ∧ rfK 15 j ≤ 81 := fun j hj => by
  have : j = 3 ∨ j = 4 ∨ j = 5 ∨ j = 6 ∨ j = 7 ∨ j = 8 ∨ j = 9 ∨ j = 13 ∨ j = 14 := by omega
  rcases this with rfl | rfl | rfl | rfl | rfl | rfl | rfl | rfl | rfl <;> exact ⟨by decide, by decide⟩
theorem rf_inj {i j : Nat} (hi : (3 ≤ i ∧ i ≤ 9) ∨ i = 13 ∨ i = 14) (hj : (3 ≤ j ∧ j ≤ 9) ∨ j = 13 ∨ j = 14) (e : rfK 15 i = rfK 15 j) : i = j := by
  have a : i = 3 ∨ i = 4 ∨ i = 5 ∨ i = 6 ∨ i = 7 ∨ i = 8 ∨ i = 9 ∨ i = 13 ∨ i = 14 := by omega
  have b : j = 3 ∨ j = 4 ∨ j = 5 ∨ j = 6 ∨ j = 7 ∨ j = 8 ∨ j = 9 ∨ j = 13 ∨ j = 14 := by omega
  rcases a with rfl | rfl | rfl | rfl | rfl | rfl | rfl | rfl | rfl <;> rcases b with rfl | rfl | rfl | rfl | rfl | rfl | rfl | rfl | rfl <;> first | rfl | exact absurd e (by decide)
/-- a run that leaves the class's law -/
theorem lc_f (T : TH ρ c h) (qL : ρ L = 2) (f : Fr ρ (cat c S h) h o) (s : ∀ k w i, lwK k = true → S k w i = false) : (∀ i, hI o L i = hI h L i) ∧ hJ o L 13 = hJ h L 13 ∧ (∀ i, hR o L i = hR h L i) ∧ ∀ j r, 14 ≤ j → j ≤ 18 → hR h L j = some r → ∀ i, hI o r i = hI h r i := by
  have s2 : ∀ w i, S 2 w i = false := fun w i => s 2 w i rfl
  refine ⟨fun i => (fr_RI f qL (by decide) (fun w => s2 w i)).1, (fr_RI f qL (by decide) (fun w => s2 w 13)).2.1, fun i => (fr_RI f qL (by decide) (fun w => s2 w i)).2.2, fun j r h1 h2 er i => ?_⟩
  obtain ⟨k1, k2, k3⟩ := rf_2 j h1 h2
  have qr : ρ r = j + 13 := rr T (thR T qL (i := j) (k2 := j + 13) k1 (by omega)) er
  refine (fr_RI f qr (by omega) (fun w => s (j + 13) w i ?_)).1
  unfold lwK
  rw [Bool.or_eq_true, Bool.and_eq_true, decide_eq_true_iff, decide_eq_true_iff]
  exact Or.inr ⟨by omega, by omega⟩
/-- a run that leaves the reference's law -/
theorem lr_f (T : TH ρ c h) (ql : ρ lw = 15) (f : Fr ρ (cat c S h) h o) (s : ∀ k w i, rwK k = true → S k w i = false) : (∀ i, hI o lw i = hI h lw i) ∧ hJ o lw 21 = hJ h lw 21 ∧ (∀ i, hR o lw i = hR h lw i) ∧ ∀ j r, (3 ≤ j ∧ j ≤ 9) ∨ j = 13 ∨ j = 14 → hR h lw j = some r → ∀ i, hI o r i = hI h r i := by
  have s2 : ∀ w i, S 15 w i = false := fun w i => s 15 w i rfl
  refine ⟨fun i => (fr_RI f ql (by decide) (fun w => s2 w i)).1, (fr_RI f ql (by decide) (fun w => s2 w 21)).2.1, fun i => (fr_RI f ql (by decide) (fun w => s2 w i)).2.2, fun j r hj er i => ?_⟩
  obtain ⟨k1, k2⟩ := rf_15 j hj
  have qr : ρ r = rfK 15 j := rr T (thR T ql (i := j) (k2 := rfK 15 j) rfl (by omega)) er
  refine (fr_RI f qr (by omega) (fun w => s (rfK 15 j) w i ?_)).1
  unfold rwK
  rw [Bool.or_eq_true, Bool.and_eq_true, decide_eq_true_iff, decide_eq_true_iff]
  exact Or.inr ⟨by omega, by omega⟩
end
end
section
/-! rules: both answers are equal where the tapes are -/
section
variable {ρ ρ1 : Nat → Nat} {c c1 : Cm} {h h1 hc : Hp} {x0 F : Nat}
/-- nothing of a law of the class is written; of the reference -/
def LK (ρ : Nat → Nat) (g o : Hp) : Prop := ∀ a, lwK (ρ a) = true → ∀ i, hI o a i = hI g a i ∧ hJ o a i = hJ g a i ∧ hR o a i = hR g a i
def RK (ρ : Nat → Nat) (g o : Hp) : Prop := ∀ a, rwK (ρ a) = true → ∀ i, hI o a i = hI g a i ∧ hJ o a i = hJ g a i ∧ hR o a i = hR g a i
theorem lw_c {k : Nat} (z : lwK k = true) : k = 2 ∨ k = 27 ∨ k = 28 ∨ k = 29 ∨ k = 30 ∨ k = 31 ∨ k = 32 ∨ k = 33 := by
  unfold lwK at z
  simp at z
  omega
theorem rw_c {k : Nat} (z : rwK k = true) : k = 15 ∨ k = 73 ∨ k = 74 ∨ k = 75 ∨ k = 76 ∨ k = 77 ∨ k = 78 ∨ k = 79 ∨ k = 80 ∨ k = 81 := by
  unfold rwK at z
  simp at z
  omega
theorem lk_f {S : Nat → Nat → Nat → Bool} {o : Hp} (f : Fr ρ (cat c S h) h o) (s : ∀ k w i, lwK k = true → S k w i = false) : LK ρ h o := fun a z i => f.1 a i (fun q => by rw [q] at z; exact absurd z (by decide)) (show S (ρ a) (cw c a) i = false from s _ _ _ z)
theorem lk_t {g o v : Hp} (a : LK ρ g o) (b : LK ρ o v) : LK ρ g v := fun x z i => ⟨(b x z i).1.trans (a x z i).1, (b x z i).2.1.trans (a x z i).2.1, (b x z i).2.2.trans (a x z i).2.2⟩
/-- what the class answers -/
theorem cru_q {rd tp L3 L : Nat} {o : Int32 × Hp} (hF : 700000 ≤ F) (hA : pmA c RUC) (T : TH ρ c h) (r0 : ρ x0 = 12) (I : ClI ρ c x0 h) (e1 : hR h x0 4 = some rd) (e2 : hR h x0 0 = some tp) (e3 : hR h x0 3 = some L3) (eL : hR h x0 2 = some L) (e : sX11_rules F h x0 = some o) : ∃ o4, sX2_read F h rd tp L3 = some o4 ∧ ((o4.1 = 0 ∧ o.1 = (-1 : Int32) - hI o4.2 rd 2 ∧ Fr ρ (cat c (rdS 2103) h) h o4.2 ∧ LK ρ o4.2 o.2) ∨ (¬ o4.1 = 0 ∧ TH ρ c o4.2 ∧ Fr ρ (cat c (rdS 2103) h) h o4.2 ∧ ∃ o12, sX2_read F o4.2 rd tp L = some o12 ∧ o.1 = hI o12.2 L 3 ∧ TH ρ c o12.2 ∧ hR o12.2 x0 2 = some L ∧ LK ρ o12.2 o.2)) := by
  have q1 : ρ rd = 3 := rr T (thR T r0 (i := 4) (k2 := 3) rfl (by decide)) e1
  have q2 : ρ tp = 10 := rr T (thR T r0 (i := 0) (k2 := 10) rfl (by decide)) e2
  have q3 : ρ L3 = 2 := rr T (thR T r0 (i := 3) (k2 := 2) rfl (by decide)) e3
  have qL : ρ L = 2 := rr T (thR T r0 (i := 2) (k2 := 2) rfl (by decide)) eL
  have w3 : cw c L3 = 2103 := kid_w T r0 (i := 3) (w := 2103) rfl (by decide) e3
  have wL : cw c L = 2102 := kid_w T r0 (i := 2) (w := 2102) rfl (by decide) eL
  obtain ⟨p1, p2, p3, p4, p5, p6, p7⟩ := I
  have fin : ∀ {g : Hp} {x : Int32}, hR g x0 0 = some tp → sX11_rules_69 F g x0 x = some o → o.1 = x ∧ LK ρ g o.2 := fun {g x} eg e => by
    unfold sX11_rules_69 at e
    replace e := cl_s e
    obtain ⟨t, et, e⟩ := e
    have yt : t = tp := r_eq eg et
    replace e := cl_s e
    obtain ⟨u, eu, e⟩ := e
    unfold sX9_clear at eu
    rw [← Option.some.inj e]
    refine ⟨rfl, fun a z i => ?_⟩
    have yu : u = wI g t 1 (0 : Int32) := (Option.some.inj eu).symm
    show hI u a i = _ ∧ hJ u a i = _ ∧ hR u a i = _
    rw [yu]
    refine ⟨rI_a (fun q => ?_), rfl, rfl⟩
    rw [q, yt, q2] at z
    exact absurd z (by decide)
  unfold sX11_rules at e
  replace e := cl_s e
  obtain ⟨r1, g1, e⟩ := e
  rw [r_eq e1 g1] at e
  replace e := cl_s e
  obtain ⟨r2, g2, e⟩ := e
  rw [r_eq e2 g2] at e
  replace e := cl_s e
  obtain ⟨r3, g3, e⟩ := e
  rw [r_eq e3 g3] at e
  replace e := cl_s e
  obtain ⟨o4, e4, e⟩ := e
  obtain ⟨T4, i4, z4, s4, f4⟩ := sat_e (read_r hF (pmA_s hA rfl) T q1 q2 q3 w3 (p6 L3 e3)) e4
  have K4 : ∀ i, hR o4.2 x0 i = hR h x0 i := fun i => (frx f4 r0 (by decide) rfl rfl).2.2
  refine ⟨o4, e4, ?_⟩
  replace e := cl_s e
  obtain ⟨r5, g5, e⟩ := e
  have y5 : r5 = rd := r_eq (by rw [K4]; exact e1) g5
  rw [y5] at e
  replace e := cl_s e
  obtain ⟨o6, e6, e⟩ := e
  unfold sX2_faultPlace at e6
  rw [← Option.some.inj e6] at e
  replace e := nm_s e
  obtain ⟨v7, w7, e⟩ := e
  replace e := br_s e
  rcases e with ⟨b, e⟩ | ⟨b, e⟩
  · obtain ⟨f1, f2⟩ := fin (by show hR o4.2 x0 0 = some tp; rw [K4]; exact e2) e
    exact Or.inl ⟨b, by rw [f1, w7], f4, f2⟩
  refine Or.inr ⟨b, T4, f4, ?_⟩
  replace e := cl_s e
  obtain ⟨r9, g9, e⟩ := e
  have y9 : r9 = rd := r_eq (by rw [K4]; exact e1) g9
  rw [y9] at e
  replace e := cl_s e
  obtain ⟨r10, g10, e⟩ := e
  have y10 : r10 = tp := r_eq (by rw [K4]; exact e2) g10
  rw [y10] at e
  replace e := cl_s e
  obtain ⟨r11, g11, e⟩ := e
  have y11 : r11 = L := r_eq (by rw [K4]; exact eL) g11
  rw [y11] at e
  replace e := cl_s e
  obtain ⟨o12, e12, e⟩ := e
  have lwc : LWc (rdS 2103) := fun _ => rfl
  have gs : GeoS L o4.2 := gem_f T r0 f4 (fun _ _ => rfl) (fun _ => rfl) lwc p5 L (by rw [K4]; exact eL)
  obtain ⟨T12, i12, z12, s12, f12⟩ := sat_e (read_r hF (pmA_s hA rfl) T4 q1 q2 qL wL gs) e12
  have K12 : ∀ i, hR o12.2 x0 i = hR o4.2 x0 i := fun i => (frx f12 r0 (by decide) rfl rfl).2.2
  refine ⟨o12, e12, ?_, T12, by rw [K12, K4]; exact eL, ?_⟩
  rotate_left
  · replace e := cl_s e
    obtain ⟨W, eW, e⟩ := e
    replace e := cl_s e
    obtain ⟨r14, g14, e⟩ := e
    have y14 : r14 = L := r_eq (by rw [K12, K4]; exact eL) g14
    rw [y14] at e
    have rW : ρ W = 11 := rr T12 (thR T12 r0 (i := 5) (k2 := 11) rfl (by decide)) eW
    obtain ⟨c', hc, T', lw⟩ := lw_mk1 T12 qL wL s12
    have cwe : cw c' = cw c := by
      rcases hc with z | z
      · rw [z]
      · rw [z]; rfl
    have w' : cw c' L = 2102 := by rw [cwe]; exact wL
    have hA' : pmA c' RUC := by rcases hc with z | z <;> (rw [z]; exact hA)
    replace e := cl_s e
    obtain ⟨o15, e15, e⟩ := e
    have Z15 := sat_e (zX10_lay (c := cat c' (fS [(50, 999), (51, 999), (52, 999), (53, 999), (54, 999), (55, 999), (56, 999), (11, 7), (11, 8)] []) o12.2) hF fs_a rfl (th_in _ T') rW qL w' lw) e15
    have T15 := th_out T' (fs_sub (pmA_s hA' rfl) fs_n) Z15
    have f15 := fr_u T' Z15.2.2
    replace e := cl_s e
    obtain ⟨o16, e16, e⟩ := e
    have Z16 := sat_e (zX11_forgetAll (c := cat c' (fS [(58, 999), (61, 999), (1, 10), (5, 14), (5, 15), (5, 16), (7, 6)] []) o15) hF fs_a (th_in _ T15) r0) e16
    have f16 := fr_u T15 Z16.2.2
    replace e := cl_s e
    obtain ⟨r17, g17, e⟩ := e
    replace e := nm_s e
    obtain ⟨v18, w18, e⟩ := e
    have e0 : hR o16 x0 0 = some tp := by rw [(frx f16 r0 (by decide) rfl rfl).2.2, (frx f15 r0 (by decide) rfl rfl).2.2, K12, K4]; exact e2
    refine lk_t (lk_t (lk_f f15 (fun k w i z => ?_)) (lk_f f16 (fun k w i z => ?_))) (fin e0 e).2
    · rcases lw_c z with z | z | z | z | z | z | z | z <;> subst z <;> rfl
    · rcases lw_c z with z | z | z | z | z | z | z | z <;> subst z <;> rfl
  replace e := cl_s e
  obtain ⟨W, eW, e⟩ := e
  replace e := cl_s e
  obtain ⟨r14, g14, e⟩ := e
  have y14 : r14 = L := r_eq (by rw [K12, K4]; exact eL) g14
  rw [y14] at e
  have rW : ρ W = 11 := rr T12 (thR T12 r0 (i := 5) (k2 := 11) rfl (by decide)) eW
  obtain ⟨c', hc, T', lw⟩ := lw_mk1 T12 qL wL s12
  have cwe : cw c' = cw c := by
    rcases hc with z | z
    · rw [z]
    · rw [z]; rfl
  have w' : cw c' L = 2102 := by rw [cwe]; exact wL
  have hA' : pmA c' RUC := by rcases hc with z | z <;> (rw [z]; exact hA)
  replace e := cl_s e
  obtain ⟨o15, e15, e⟩ := e
  have Z15 := sat_e (zX10_lay (c := cat c' (fS [(50, 999), (51, 999), (52, 999), (53, 999), (54, 999), (55, 999), (56, 999), (11, 7), (11, 8)] []) o12.2) hF fs_a rfl (th_in _ T') rW qL w' lw) e15
  have T15 := th_out T' (fs_sub (pmA_s hA' rfl) fs_n) Z15
  have f15 := fr_u T' Z15.2.2
  replace e := cl_s e
  obtain ⟨o16, e16, e⟩ := e
  have Z16 := sat_e (zX11_forgetAll (c := cat c' (fS [(58, 999), (61, 999), (1, 10), (5, 14), (5, 15), (5, 16), (7, 6)] []) o15) hF fs_a (th_in _ T15) r0) e16
  have f16 := fr_u T15 Z16.2.2
  have e0 : hR o16 x0 0 = some tp := by rw [(frx f16 r0 (by decide) rfl rfl).2.2, (frx f15 r0 (by decide) rfl rfl).2.2, K12, K4]; exact e2
  have K16 : hR o16 x0 2 = some L := by
    rw [(frx f16 r0 (by decide) rfl rfl).2.2, (frx f15 r0 (by decide) rfl rfl).2.2, K12, K4]; exact eL
  replace e := cl_s e
  obtain ⟨r17, g17, e⟩ := e
  have y17 : r17 = L := r_eq K16 g17
  rw [y17] at e
  replace e := nm_s e
  obtain ⟨v18, w18, e⟩ := e
  rw [(fin e0 e).1, w18, (frx f16 qL (by decide) rfl rfl).1, (frx f15 qL (by decide) rfl rfl).1]
theorem rr_56 {lw s : Nat} {o : Int32 × Hp} (qw : ρ lw = 15) (r0 : ρ x0 = 16) : ∀ (f : Nat) {h : Hp} {x2 : Int32}, hR h x0 4 = some lw → (∀ r, hR h x0 39 = some r → ρ r = 94) → sX15_rules_56 F f h x0 x2 = some o → o.1 = hI h lw 2 ∧ RK ρ h o.2 ∧ ∀ i, hR o.2 x0 i = hR h x0 i ∧ ((i = 11 ∨ i = 12) → hI o.2 x0 i = hI h x0 i) := by
  have ne : ∀ {a b i j : Nat}, ρ a = i → ρ b = j → ¬ i = j → ¬ a = b := fun ha hb n z => n (by rw [← ha, z]; exact hb)
  intro f
  induction f with
  | zero => intro h x2 _ _ e; exact absurd e (by simp [sX15_rules_56])
  | succ f ih =>
    intro h x2 ew q94 e
    unfold sX15_rules_56 at e
    replace e := br_s e
    rcases e with ⟨_, e⟩ | ⟨_, e⟩
    · replace e := nm_s e
      obtain ⟨h2, w2, e⟩ := e
      replace e := nm_s e
      obtain ⟨h3, w3, e⟩ := e
      replace e := nm_s e
      obtain ⟨h4, w4, e⟩ := e
      replace e := cl_s e
      obtain ⟨r5, e5, e⟩ := e
      have y5 : r5 = lw := r_eq (by rw [w4, w3, w2]; exact ew) e5
      rw [← Option.some.inj e, y5]
      refine ⟨?_, fun a z i => ?_, fun i => ⟨by show hR h4 x0 i = _; rw [w4, w3, w2]; rfl, fun z => by show hI h4 x0 i = _; rw [w4, rI_o (by omega), w3, rI_o (by omega), w2, rI_o (by omega)]⟩⟩
      · show hI h4 lw 2 = _
        rw [w4, rI_a (ne qw r0 (by decide)), w3, rI_a (ne qw r0 (by decide)), w2, rI_a (ne qw r0 (by decide))]
      · have na : ¬ a = x0 := fun q => by rw [q, r0] at z; exact absurd z (by decide)
        refine ⟨?_, by show hJ h4 a i = _; rw [w4, w3, w2]; rfl, by show hR h4 a i = _; rw [w4, w3, w2]; rfl⟩
        show hI h4 a i = _
        rw [w4, rI_a na, w3, rI_a na, w2, rI_a na]
    replace e := cl_s e
    obtain ⟨r6, e6, e⟩ := e
    replace e := (gd_s e).2
    replace e := nm_s e
    obtain ⟨h8, w8, e⟩ := e
    replace e := nm_s e
    obtain ⟨_, _, e⟩ := e
    obtain ⟨i1, i2, i3⟩ := ih (h := h8) (by rw [w8]; exact ew) (fun r er => q94 r (by rw [w8] at er; exact er)) e
    refine ⟨by rw [i1, w8, rI_a (ne qw (q94 r6 e6) (by decide))], fun a z i => ?_, fun i => ⟨by rw [(i3 i).1, w8]; rfl, fun z => by rw [(i3 i).2 z, w8, rI_a (ne r0 (q94 r6 e6) (by decide))]⟩⟩
    have na : ¬ a = r6 := fun q => by rw [q, q94 r6 e6] at z; exact absurd z (by decide)
    obtain ⟨j1, j2, j3⟩ := i2 a z i
    exact ⟨by rw [j1, w8, rI_a na], by rw [j2, w8]; rfl, by rw [j3, w8]; rfl⟩
theorem rr_35 {lw : Nat} {o : Int32 × Hp} (qw : ρ lw = 15) (r0 : ρ x0 = 16) : ∀ (f : Nat) {h : Hp} {x2 : Int32}, hR h x0 4 = some lw → (∀ r, hR h x0 15 = some r → ρ r = 85) → (∀ r, hR h x0 39 = some r → ρ r = 94) → sX15_rules_35 F f h x0 x2 = some o → o.1 = hI h lw 2 ∧ RK ρ h o.2 ∧ ∀ i, hR o.2 x0 i = hR h x0 i ∧ ((i = 11 ∨ i = 12) → hI o.2 x0 i = hI h x0 i) := by
  have ne : ∀ {a b i j : Nat}, ρ a = i → ρ b = j → ¬ i = j → ¬ a = b := fun ha hb n z => n (by rw [← ha, z]; exact hb)
  intro f
  induction f with
  | zero => intro h x2 _ _ _ e; exact absurd e (by simp [sX15_rules_35])
  | succ f ih =>
    intro h x2 ew q85 q94 e
    unfold sX15_rules_35 at e
    replace e := br_s e
    rcases e with ⟨_, e⟩ | ⟨_, e⟩
    · exact rr_56 (s := 0) qw r0 F ew q94 e
    replace e := cl_s e
    obtain ⟨s, es, e⟩ := e
    replace e := (gd_s e).2
    replace e := nm_s e
    obtain ⟨h4, w4, e⟩ := e
    replace e := nm_s e
    obtain ⟨_, _, e⟩ := e
    obtain ⟨i1, i2, i3⟩ := ih (h := h4) (by rw [w4]; exact ew) (fun r er => q85 r (by rw [w4] at er; exact er)) (fun r er => q94 r (by rw [w4] at er; exact er)) e
    refine ⟨by rw [i1, w4, rI_a (ne qw (q85 s es) (by decide))], fun a z i => ?_, fun i => ⟨by rw [(i3 i).1, w4]; rfl, fun z => by rw [(i3 i).2 z, w4, rI_a (ne r0 (q85 s es) (by decide))]⟩⟩
    have na : ¬ a = s := fun q => by rw [q, q85 s es] at z; exact absurd z (by decide)
    obtain ⟨j1, j2, j3⟩ := i2 a z i
    exact ⟨by rw [j1, w4, rI_a na], by rw [j2, w4]; rfl, by rw [j3, w4]; rfl⟩
/-- what the reference answers -/
theorem rru_q {tp lw l4 : Nat} {o : Int32 × Hp} (hF : 700000 ≤ F) (hp : hpR c) (hl : hlR c) (T : TH ρ c h) (r0 : ρ x0 = 16) (e0 : hR h x0 0 = some tp) (e4' : hR h x0 4 = some l4) (e5 : hR h x0 5 = some lw) (e : sX15_rules F h x0 = some o) : ∃ o', sX15_isRules F (wI h x0 1 (0 : Int32)) x0 tp (hI h x0 1) = some o' ∧ ((o'.1 = 0 ∧ o.1 = (-1 : Int32) - hI o'.2 x0 7 ∧ o.2 = o'.2 ∧ (hI o.2 x0 11 = hI h x0 11 ∧ hI o.2 x0 12 = hI h x0 12)) ∨ (¬ o'.1 = 0 ∧ o.1 = hI o'.2 lw 2 ∧ hR o.2 x0 4 = some lw ∧ hR o.2 x0 5 = some l4 ∧ RK ρ o'.2 o.2 ∧ (hI o.2 x0 11 = hI o.2 lw 0 ∧ hI o.2 x0 12 = hI o.2 lw 1))) := by
  unfold sX15_rules at e
  replace e := nm_s e
  obtain ⟨v, wv, e⟩ := e
  replace e := nm_s e
  obtain ⟨h2, w2, e⟩ := e
  have iv : Rg 0 1200 v := by rw [wv]; exact thI T r0 rfl
  have T2 : TH ρ c h2 := by rw [w2]; exact th_wI T r0 (k := 16) (lo := 0) (hi := 1200) rfl (rg_m (rg_b rfl : Rg 0 0 (0 : Int32)) (by decide)) (by decide) (by decide) (hp 16 _ 1 rfl (fun z => absurd z.2 (by decide)))
  replace e := cl_s e
  obtain ⟨r3, g3, e⟩ := e
  have y3 : r3 = tp := r_eq (by rw [w2]; exact e0) g3
  rw [y3] at e
  have qt : ρ tp = 82 := rr T (thR T r0 (i := 0) (k2 := 82) rfl (by decide)) e0
  have qw : ρ lw = 15 := rr T (thR T r0 (i := 5) (k2 := 15) rfl (by decide)) e5
  have nw : ¬ lw = x0 := fun z => by rw [z, r0] at qw; exact absurd qw (by decide)
  replace e := cl_s e
  obtain ⟨o4, e4, e⟩ := e
  have Z4 := sat_e (zX15_isRules (c := cat c (fS irA []) h2) hF fs_a (th_in _ T2) r0 qt iv) e4
  have T4 := th_out T2 (fs_rl hp hl rfl) Z4.1.1
  have f4 := fr_u T2 Z4.1.1.2.2
  have e44 : hR o4.2 x0 4 = some l4 := by
    rw [(fr_RI f4 r0 (by decide) (fun _ => rfl)).2.2, w2]; exact e4'
  have e54 : hR o4.2 x0 5 = some lw := by
    rw [(fr_RI f4 r0 (by decide) (fun _ => rfl)).2.2, w2]; exact e5
  refine ⟨o4, by rw [← w2, ← wv]; exact e4, ?_⟩
  replace e := br_s e
  rcases e with ⟨b, e⟩ | ⟨b, e⟩
  · refine Or.inl ⟨b, by rw [← Option.some.inj e], by rw [← Option.some.inj e], ?_, ?_⟩
    · rw [← Option.some.inj e]
      show hI o4.2 x0 11 = _
      rw [(fr_RI f4 r0 (by decide) (fun _ => rfl)).1, w2, rI_o (by decide)]
    · rw [← Option.some.inj e]
      show hI o4.2 x0 12 = _
      rw [(fr_RI f4 r0 (by decide) (fun _ => rfl)).1, w2, rI_o (by decide)]
  refine Or.inr ⟨b, ?_⟩
  replace e := cl_s e
  obtain ⟨o6, e6, e⟩ := e
  have q85 : ∀ r, hR o4.2 x0 15 = some r → ρ r = 85 := fun r er => rr T4 (thR T4 r0 (i := 15) (k2 := 85) rfl (by decide)) er
  have q94 : ∀ r, hR o4.2 x0 39 = some r → ρ r = 94 := fun r er => rr T4 (thR T4 r0 (i := 39) (k2 := 94) rfl (by decide)) er
  unfold sX15_take at e6
  replace e6 := cl_s e6
  obtain ⟨k1, g1, e6⟩ := e6
  replace e6 := cl_s e6
  obtain ⟨k2, g2, e6⟩ := e6
  have y1 : k1 = l4 := r_eq e44 g1
  have y2 : k2 = lw := r_eq e54 g2
  rw [y2] at e6
  replace e6 := nm_s e6
  obtain ⟨m3, v3, e6⟩ := e6
  replace e6 := nm_s e6
  obtain ⟨m4, v4, e6⟩ := e6
  replace e6 := cl_s e6
  obtain ⟨k5, g5, e6⟩ := e6
  replace e6 := nm_s e6
  obtain ⟨m6, v6, e6⟩ := e6
  replace e6 := cl_s e6
  obtain ⟨k7, g7, e6⟩ := e6
  replace e6 := nm_s e6
  obtain ⟨m8, v8, e6⟩ := e6
  replace e6 := nm_s e6
  obtain ⟨m9, v9, e6⟩ := e6
  have z6 : m9 = o6 := Option.some.inj e6
  rw [← z6] at e
  have R9 : ∀ i, hR m9 x0 i = hR m4 x0 i := fun i => by rw [v9, hR_wI, v8, hR_wI, v6, hR_wI]
  have A4 : hR m9 x0 4 = some lw := by rw [R9, v4, r_R, if_neg (fun z => absurd z.2 (by decide)), v3, r_R, if_pos ⟨rfl, rfl⟩]
  have A15 : hR m9 x0 15 = hR o4.2 x0 15 := by rw [R9, v4, r_R, if_neg (fun z => absurd z.2 (by decide)), v3, r_R, if_neg (fun z => absurd z.2 (by decide))]
  have A39 : hR m9 x0 39 = hR o4.2 x0 39 := by rw [R9, v4, r_R, if_neg (fun z => absurd z.2 (by decide)), v3, r_R, if_neg (fun z => absurd z.2 (by decide))]
  have A5 : hR m9 x0 5 = some l4 := by rw [R9, v4, r_R, if_pos ⟨rfl, rfl⟩, y1]
  obtain ⟨i1, i2, i3⟩ := rr_35 qw r0 F A4 (fun r er => q85 r (by rw [← A15]; exact er)) (fun r er => q94 r (by rw [← A39]; exact er)) e
  have y5 : k5 = lw := r_eq (by rw [v4, r_R, if_neg (fun z => absurd z.2 (by decide)), v3, r_R, if_pos ⟨rfl, rfl⟩]) g5
  have y7 : k7 = lw := r_eq (by rw [v6, hR_wI, v4, r_R, if_neg (fun z => absurd z.2 (by decide)), v3, r_R, if_pos ⟨rfl, rfl⟩]) g7
  have zw : rwK (ρ lw) = true := by rw [qw]; rfl
  have F1 : hI o.2 x0 11 = hI o.2 lw 0 := by
    rw [(i3 11).2 (Or.inl rfl), (i2 lw zw 0).1, v9, rI_o (by decide), rI_a nw, v8, rI_o (by decide), rI_a nw, v6, rI_s, rI_a nw, y5]
  have F2 : hI o.2 x0 12 = hI o.2 lw 1 := by
    rw [(i3 12).2 (Or.inr rfl), (i2 lw zw 1).1, v9, rI_o (by decide), rI_a nw, v8, rI_s, rI_a nw, y7]
  refine ⟨by rw [i1, v9, rI_a nw, v8, rI_a nw, v6, rI_a nw, v4, v3]; rfl, by rw [(i3 _).1]; exact A4, by rw [(i3 _).1]; exact A5, fun a z i => ?_, F1, F2⟩
  have na : ¬ a = x0 := fun q => by rw [q, r0] at z; exact absurd z (by decide)
  obtain ⟨j1, j2, j3⟩ := i2 a z i
  refine ⟨by rw [j1, v9, rI_a na, v8, rI_a na, v6, rI_a na, v4, v3]; rfl, by rw [j2, v9, v8, v6, v4, v3]; rfl, ?_⟩
  rw [j3, v9, hR_wI, v8, hR_wI, v6, hR_wI, v4, r_R, if_neg (fun z => na z.1), v3, r_R, if_neg (fun z => na z.1)]
/-- addresses by role, out of a list -/
def zmk : List (Nat × Nat) → Nat → Nat
  | [], _ => 0
  | p :: q, k => bif Nat.beq k p.1 then p.2 else zmk q k
/-- both readings, addresses by roles -/
theorem rd_p {rd t L m x1 lw : Nat} {x2 v : Int32} {o o' : Int32 × Hp} (T : TH ρ c hc) (qrd : ρ rd = 3) (qt : ρ t = 10) (qL : ρ L = 2) (T1 : TH ρ1 c1 h1) (X : ∀ a, ρ a ≠ 0 → ρ1 a = ρ a) (m1 : ρ1 m = 16) (ex1 : hR h1 m 0 = some x1) (elw : hR h1 m 5 = some lw) (tl : (hI hc t 1).toInt = x2.toInt) (i2 : Rg 0 1200 x2) (tb : ∀ bt, hR hc t 0 = some bt → ∀ i : Nat, (i : Int) < x2.toInt → (hI h1 x1 i).toInt = sg (hI hc bt i).toInt) (e : sX2_read F hc rd t L = some o) (e' : sX15_isRules F (wI h1 m 1 v) m x1 x2 = some o') : (o.1 = 0 ∧ o'.1 = 0 ∧ hI o.2 rd 2 = hI o'.2 m 7) ∨ (¬ o.1 = 0 ∧ ¬ o'.1 = 0 ∧ LawR L lw o.2 o'.2) := by
  obtain ⟨bt, ebt, qbt⟩ := thR T qt (i := 0) (k2 := 49) rfl (by decide)
  obtain ⟨l27, e27, q27⟩ := thR T qL (i := 14) (k2 := 27) rfl (by decide)
  obtain ⟨l28, e28, q28⟩ := thR T qL (i := 15) (k2 := 28) rfl (by decide)
  obtain ⟨l29, e29, q29⟩ := thR T qL (i := 16) (k2 := 29) rfl (by decide)
  obtain ⟨l30, e30, q30⟩ := thR T qL (i := 17) (k2 := 30) rfl (by decide)
  obtain ⟨l31, e31, q31⟩ := thR T qL (i := 18) (k2 := 31) rfl (by decide)
  obtain ⟨l32, e32, q32⟩ := thR T qL (i := 19) (k2 := 32) rfl (by decide)
  obtain ⟨l33, e33, q33⟩ := thR T qL (i := 20) (k2 := 33) rfl (by decide)
  have qx1 : ρ1 x1 = 82 := rr T1 (thR T1 m1 (i := 0) (k2 := 82) rfl (by decide)) ex1
  have qlw : ρ1 lw = 15 := rr T1 (thR T1 m1 (i := 5) (k2 := 15) rfl (by decide)) elw
  obtain ⟨k73, e73, q73⟩ := thR T1 qlw (i := 3) (k2 := 73) rfl (by decide)
  obtain ⟨k74, e74, q74⟩ := thR T1 qlw (i := 4) (k2 := 74) rfl (by decide)
  obtain ⟨k75, e75, q75⟩ := thR T1 qlw (i := 5) (k2 := 75) rfl (by decide)
  obtain ⟨k76, e76, q76⟩ := thR T1 qlw (i := 6) (k2 := 76) rfl (by decide)
  obtain ⟨k77, e77, q77⟩ := thR T1 qlw (i := 7) (k2 := 77) rfl (by decide)
  obtain ⟨k78, e78, q78⟩ := thR T1 qlw (i := 8) (k2 := 78) rfl (by decide)
  obtain ⟨k79, e79, q79⟩ := thR T1 qlw (i := 9) (k2 := 79) rfl (by decide)
  obtain ⟨k80, e80, q80⟩ := thR T1 qlw (i := 13) (k2 := 80) rfl (by decide)
  obtain ⟨k81, e81, q81⟩ := thR T1 qlw (i := 14) (k2 := 81) rfl (by decide)
  have up : ∀ {a k : Nat}, ρ a = k → ¬ k = 0 → ρ1 a = k := fun {a k} q n => by rw [X a (by rw [q]; exact n)]; exact q
  let Z : Nat → Nat := zmk [(3, rd), (10, t), (49, bt), (2, L), (27, l27), (28, l28), (29, l29), (30, l30), (31, l31), (16, m), (15, lw), (82, x1), (73, k73), (74, k74), (75, k75), (76, k76), (77, k77), (78, k78), (79, k79), (80, k80), (81, k81)]
  have RZ1 : ∀ i, i ∈ zl → ρ1 (Z i) = i := fun i hi => by
    simp only [List.mem_cons, List.not_mem_nil, or_false] at hi
    rcases hi with rfl | rfl | rfl | rfl | rfl | rfl | rfl | rfl | rfl | rfl | rfl | rfl | rfl | rfl | rfl | rfl | rfl | rfl | rfl | rfl | rfl
    · exact up qrd (by decide)
    · exact up qt (by decide)
    · exact up qbt (by decide)
    · exact up qL (by decide)
    · exact up q27 (by decide)
    · exact up q28 (by decide)
    · exact up q29 (by decide)
    · exact up q30 (by decide)
    · exact up q31 (by decide)
    · exact m1
    · exact qlw
    · exact qx1
    · exact q73
    · exact q74
    · exact q75
    · exact q76
    · exact q77
    · exact q78
    · exact q79
    · exact q80
    · exact q81
  have D : ZD Z := fun i hi j hj z => by rw [← RZ1 i hi, z]; exact RZ1 j hj
  have n1 : ¬ x1 = m := fun z => by rw [z, m1] at qx1; exact absurd qx1 (by decide)
  have f := rd_r (T := fun i => (hI hc bt i).toInt) (N := x2.toInt) (Z := Z) (x2 := x2) (a := l32) (b := l33) (hc := hc) (hr := wI h1 m 1 v) i2.2 (fun j _ => thI T qbt rfl) D rfl i2.1 rfl rfl rfl rfl ebt e27 e28 e29 e30 e31 (thN T q29 (k := 29) (n := 12) rfl (by decide)) (thN T q31 (k := 31) (n := 12) rfl (by decide)) tl (fun i _ => rfl) e32 e33 (fun i hi z => by
    have a1 := RZ1 i hi
    rw [z, up q32 (by decide)] at a1
    rw [← a1] at hi
    exact absurd hi (by decide)) (fun i hi z => by
    have a1 := RZ1 i hi
    rw [z, up q33 (by decide)] at a1
    rw [← a1] at hi
    exact absurd hi (by decide)) ⟨elw, e73, e74, e75, e76, e77, e78, e79, e80, e81⟩ (fun i hi => by
    show (hI (wI h1 m 1 v) x1 i).toInt = _
    rw [rI_a n1]
    exact tb bt ebt i hi) e e'
  rcases f with f | ⟨f1, f2, zc, zr, ls⟩
  · exact Or.inl f
  · exact Or.inr ⟨f1, f2, Z, ⟨⟨rfl, zc.2.2.2.1, zc.2.2.2.2.1, zc.2.2.2.2.2.1, zc.2.2.2.2.2.2.1, zc.2.2.2.2.2.2.2⟩, ⟨rfl, zr.2⟩, rfl, rfl, rfl⟩, lwq_s ls⟩
end
end
section
/-! the bytes that are fed -/
theorem and255 (y : Int32) : (y &&& (255 : Int32)).toInt = y.toInt % 256 := by
  have h : (y &&& (255 : Int32)).toBitVec.toNat = y.toBitVec.toNat % 256 := by
    show (y.toBitVec &&& 255#32).toNat = _
    rw [BitVec.toNat_and]
    exact Nat.and_two_pow_sub_one_eq_mod y.toBitVec.toNat 8
  have e1 : ∀ z : Int32, z.toInt = if 2 * z.toBitVec.toNat < 2 ^ 32 then (z.toBitVec.toNat : Int) else (z.toBitVec.toNat : Int) - ((2 ^ 32 : Nat) : Int) := fun z => BitVec.toInt_eq_toNat_cond _
  have a := e1 (y &&& (255 : Int32))
  have b := e1 y
  rw [h] at a
  have p : (2 ^ 32 : Nat) = 4294967296 := by decide
  rw [p] at a b
  rw [if_pos (by omega)] at a
  rw [a]
  split at b <;> omega
theorem sg_b {y z : Int32} (h : y.toInt % 256 = z.toInt % 256) : (vp_nar .byte y.toInt8.toInt32).toInt = sg (z &&& (255 : Int32)).toInt := by
  have e8 : (2 ^ 8 : Nat) = 256 := by decide
  have r := rg_y y
  have r1 := r.1
  have r2 := r.2
  have w : (vp_nar .byte y.toInt8.toInt32).toInt = y.toInt8.toInt32.toInt := by
    show y.toInt8.toInt32.toInt8.toInt32.toInt = _
    rw [Int8.toInt_toInt32 (x := y.toInt8.toInt32.toInt8), Int32.toInt_toInt8, e8]
    exact Int.bmod_eq_of_le_mul_two (by omega) (by omega)
  rw [w, and255, ← h, Int8.toInt_toInt32, Int32.toInt_toInt8, e8]
  unfold sg Int.bmod
  have q1 := Int.emod_nonneg y.toInt (show (256 : Int) ≠ 0 by decide)
  dsimp only
  split <;> split <;> omega
/-- byte j of a number, as the class has it; as the reference has it -/
def cb (x : Int32) (j : Nat) : Int32 := match j with
  | 0 => (x.toUInt32 >>> ((24 : Int32).toUInt32 &&& Int32.toUInt32 31)).toInt32
  | 1 => (x.toUInt32 >>> ((16 : Int32).toUInt32 &&& Int32.toUInt32 31)).toInt32
  | 2 => (x.toUInt32 >>> ((8 : Int32).toUInt32 &&& Int32.toUInt32 31)).toInt32
  | _ => x
def rb (x : Int32) (j : Nat) : Int32 := match j with
  | 0 => x >>> ((24 : Int32) &&& 31)
  | 1 => x >>> ((16 : Int32) &&& 31)
  | 2 => x >>> ((8 : Int32) &&& 31)
  | _ => x >>> ((0 : Int32) &&& 31)
theorem cb_m (x : Int32) {j : Nat} (hj : j < 4) : (rb x j).toInt % 256 = (cb x j).toInt % 256 := by
  have t : ∀ q : Int32, ∀ k : Nat, q.toBitVec.toNat % 32 = k → (x >>> (q &&& 31)).toInt = x.toInt / (2 ^ k : Nat) := fun q k hk => Jvm.RoadKit.c_ishr x q k hk
  have u : ∀ q : Int32, ∀ k : Nat, q.toBitVec.toNat % 32 = k → 0 < k → ((x.toUInt32 >>> (q &&& 31).toUInt32).toInt32).toInt = (x.toInt % 4294967296) / (2 ^ k : Nat) := fun q k hk h0 => Jvm.RoadKit.c_iushr x q k hk h0
  have d := Int.emod_add_mul_ediv x.toInt 4294967296
  match j, hj with
  | 0, _ =>
    have a : (rb x 0).toInt = x.toInt / 16777216 := t 24 24 rfl
    have b : (cb x 0).toInt = (x.toInt % 4294967296) / 16777216 := u 24 24 rfl (by decide)
    rw [a, b]
    generalize x.toInt / 4294967296 = p at *
    generalize x.toInt % 4294967296 = r at *
    omega
  | 1, _ =>
    have a : (rb x 1).toInt = x.toInt / 65536 := t 16 16 rfl
    have b : (cb x 1).toInt = (x.toInt % 4294967296) / 65536 := u 16 16 rfl (by decide)
    rw [a, b]
    generalize x.toInt / 4294967296 = p at *
    generalize x.toInt % 4294967296 = r at *
    omega
  | 2, _ =>
    have a : (rb x 2).toInt = x.toInt / 256 := t 8 8 rfl
    have b : (cb x 2).toInt = (x.toInt % 4294967296) / 256 := u 8 8 rfl (by decide)
    rw [a, b]
    generalize x.toInt / 4294967296 = p at *
    generalize x.toInt % 4294967296 = r at *
    omega
  | 3, _ =>
    have a : (rb x 3).toInt = x.toInt / 1 := t 0 0 rfl
    rw [a, Int.ediv_one]
    rfl
  | j + 4, hj => exact absurd hj (by omega)
def wrd5 (x1 x2 x3 x4 x5 : Int32) (k : Nat) : Int32 := if k < 4 then x1 else if k < 8 then x2 else if k < 12 then x3 else if k < 16 then x4 else x5
section
variable {h : Hp} {x0 t F : Nat} {x1 x2 x3 x4 x5 : Int32}
theorem app_2 {o : Hp} {b : Nat} (eb : hR h t 0 = some b) (nb : ¬ b = t) (N : hN h b = 1200) (l : (hI h t 1).toInt < 1200) (l0 : 0 ≤ (hI h t 1).toInt) (e : sX9_append h t x1 = some o) : hI o b (hI h t 1).toInt.toNat = (x1 &&& (255 : Int32)) ∧ ∀ i, ¬ i = (hI h t 1).toInt.toNat → hI o b i = hI h b i := by
  unfold sX9_append sX9_append_36 at e
  replace e := cl_s e
  obtain ⟨r1, e1, e⟩ := e
  have y1 : r1 = b := r_eq eb e1
  subst y1
  have z12 : (nI 1200).toInt = 1200 := rfl
  replace e := br_s e
  rcases e with ⟨q, e⟩ | ⟨_, e⟩
  · have q := le_i q
    rw [N, z12] at q
    omega
  replace e := cl_s e
  obtain ⟨r3, e3, e⟩ := e
  have y3 : r3 = r1 := r_eq eb e3
  subst y3
  replace e := (gd_s e).2
  replace e := nm_s e
  obtain ⟨h5, w5', e⟩ := e
  replace e := nm_s e
  obtain ⟨h6, w6, e⟩ := e
  have zz := Option.some.inj e
  subst zz
  have nx := nc_i (x := hI h t 1) l0
  have ix : (hI h t 1).toNatClampNeg = (hI h t 1).toInt.toNat := by omega
  rw [ix] at w5'
  exact ⟨by rw [w6, rI_a nb, w5', rI_s], fun i n => by rw [w6, rI_a nb, w5', rI_o n]⟩
theorem appn_2 {o : Hp} {b : Nat} (eb : hR h t 0 = some b) (nb : ¬ b = t) (N : hN h b = 1200) (l : (hI h t 1).toInt ≤ 1196) (l0 : 0 ≤ (hI h t 1).toInt) (e : sX9_appendNumber h t x1 = some o) : (∀ j : Nat, j < 4 → hI o b ((hI h t 1).toInt.toNat + j) = ((cb x1 j) &&& (255 : Int32))) ∧ ∀ i : Nat, i < (hI h t 1).toInt.toNat → hI o b i = hI h b i := by
  unfold sX9_appendNumber at e
  replace e := cl_s e
  obtain ⟨o1, e1, e⟩ := e
  obtain ⟨a1, b1, c1⟩ := app_1 eb nb N (by omega) l0 e1
  obtain ⟨p1, q1⟩ := app_2 eb nb N (by omega) l0 e1
  replace e := cl_s e
  obtain ⟨o2, e2, e⟩ := e
  obtain ⟨a2, b2, c2⟩ := app_1 (by rw [b1]; exact eb) nb (by rw [c1]; exact N) (by omega) (by omega) e2
  obtain ⟨p2, q2⟩ := app_2 (by rw [b1]; exact eb) nb (by rw [c1]; exact N) (by omega) (by omega) e2
  replace e := cl_s e
  obtain ⟨o3, e3, e⟩ := e
  obtain ⟨a3, b3, c3⟩ := app_1 (by rw [b2, b1]; exact eb) nb (by rw [c2, c1]; exact N) (by omega) (by omega) e3
  obtain ⟨p3, q3⟩ := app_2 (by rw [b2, b1]; exact eb) nb (by rw [c2, c1]; exact N) (by omega) (by omega) e3
  replace e := cl_s e
  obtain ⟨o4, e4, e⟩ := e
  obtain ⟨p4, q4⟩ := app_2 (by rw [b3, b2, b1]; exact eb) nb (by rw [c3, c2, c1]; exact N) (by omega) (by omega) e4
  rw [← Option.some.inj e]
  have n1 : (hI o1 t 1).toInt.toNat = (hI h t 1).toInt.toNat + 1 := by omega
  have n2 : (hI o2 t 1).toInt.toNat = (hI h t 1).toInt.toNat + 2 := by omega
  have n3 : (hI o3 t 1).toInt.toNat = (hI h t 1).toInt.toNat + 3 := by omega
  rw [n1] at p2 q2
  rw [n2] at p3 q3
  rw [n3] at p4 q4
  refine ⟨fun j hj => ?_, fun i hi => by rw [q4 i (by omega), q3 i (by omega), q2 i (by omega), q1 i (by omega)]⟩
  match j, hj with
  | 0, _ => rw [q4 _ (by omega), q3 _ (by omega), q2 _ (by omega)]; exact p1
  | 1, _ => rw [q4 _ (by omega), q3 _ (by omega)]; exact p2
  | 2, _ => rw [q4 _ (by omega)]; exact p3
  | 3, _ => exact p4
  | j + 4, hj => exact absurd hj (by omega)
/-- feed: the class's bytes -/
theorem feed_c {o : Int32 × Hp} {b : Nat} (et : hR h x0 0 = some t) (eb : hR h t 0 = some b) (nb : ¬ b = t) (N : hN h b = 1200) (i0 : Rg 0 1200 (hI h t 1)) (l20 : (hI h t 1).toInt + 20 ≤ 1200) (e : sX11_feed h x0 x1 x2 x3 x4 x5 = some o) : (∀ k : Nat, k < 20 → hI o.2 b ((hI h t 1).toInt.toNat + k) = ((cb (wrd5 x1 x2 x3 x4 x5 k) (k % 4)) &&& (255 : Int32))) ∧ ∀ i : Nat, i < (hI h t 1).toInt.toNat → hI o.2 b i = hI h b i := by
  have l0 := i0.1
  have l1 := i0.2
  have z20 : (20 : Int32).toInt = 20 := rfl
  have z12 : (1200 : Int32).toInt = 1200 := rfl
  have t20 : ((hI h t 1) + (20 : Int32)).toInt = (hI h t 1).toInt + 20 := by rw [ta (by rw [z20]; omega), z20]
  unfold sX11_feed at e
  replace e := cl_s e
  obtain ⟨r1, e1, e⟩ := e
  have y1 : r1 = t := r_eq et e1
  subst y1
  replace e := br_s e
  rcases e with ⟨q, e⟩ | ⟨q, e⟩
  rotate_left
  · have q := nle_i q
    rw [t20, z12] at q
    omega
  replace e := cl_s e
  obtain ⟨s1, f1, e⟩ := e
  have y : s1 = r1 := r_eq et f1
  subst y
  replace e := cl_s e
  obtain ⟨o1, g1, e⟩ := e
  obtain ⟨a1, b1, c1⟩ := appn_1 eb nb N (by omega) l0 g1
  obtain ⟨u1, v1⟩ := appn_2 eb nb N (by omega) l0 g1
  replace e := cl_s e
  obtain ⟨s2, f2, e⟩ := e
  have y : s2 = s1 := by rw [b1] at f2; exact r_eq et f2
  subst y
  replace e := cl_s e
  obtain ⟨o2, g2, e⟩ := e
  obtain ⟨a2, b2, c2⟩ := appn_1 (by rw [b1]; exact eb) nb (by rw [c1]; exact N) (by omega) (by omega) g2
  obtain ⟨u2, v2⟩ := appn_2 (by rw [b1]; exact eb) nb (by rw [c1]; exact N) (by omega) (by omega) g2
  replace e := cl_s e
  obtain ⟨s3, f3, e⟩ := e
  have y : s3 = s2 := by rw [b2, b1] at f3; exact r_eq et f3
  subst y
  replace e := cl_s e
  obtain ⟨o3, g3, e⟩ := e
  obtain ⟨a3, b3, c3⟩ := appn_1 (by rw [b2, b1]; exact eb) nb (by rw [c2, c1]; exact N) (by omega) (by omega) g3
  obtain ⟨u3, v3⟩ := appn_2 (by rw [b2, b1]; exact eb) nb (by rw [c2, c1]; exact N) (by omega) (by omega) g3
  replace e := cl_s e
  obtain ⟨s4, f4, e⟩ := e
  have y : s4 = s3 := by rw [b3, b2, b1] at f4; exact r_eq et f4
  subst y
  replace e := cl_s e
  obtain ⟨o4, g4, e⟩ := e
  obtain ⟨a4, b4, c4⟩ := appn_1 (by rw [b3, b2, b1]; exact eb) nb (by rw [c3, c2, c1]; exact N) (by omega) (by omega) g4
  obtain ⟨u4, v4⟩ := appn_2 (by rw [b3, b2, b1]; exact eb) nb (by rw [c3, c2, c1]; exact N) (by omega) (by omega) g4
  replace e := cl_s e
  obtain ⟨s5, f5, e⟩ := e
  have y : s5 = s4 := by rw [b4, b3, b2, b1] at f5; exact r_eq et f5
  subst y
  replace e := cl_s e
  obtain ⟨o5, g5, e⟩ := e
  obtain ⟨u5, v5⟩ := appn_2 (by rw [b4, b3, b2, b1]; exact eb) nb (by rw [c4, c3, c2, c1]; exact N) (by omega) (by omega) g5
  replace e := cl_s e
  obtain ⟨s6, f6, e⟩ := e
  rw [← Option.some.inj e]
  have n1 : (hI o1 s5 1).toInt.toNat = (hI h s5 1).toInt.toNat + 4 := by omega
  have n2 : (hI o2 s5 1).toInt.toNat = (hI h s5 1).toInt.toNat + 8 := by omega
  have n3 : (hI o3 s5 1).toInt.toNat = (hI h s5 1).toInt.toNat + 12 := by omega
  have n4 : (hI o4 s5 1).toInt.toNat = (hI h s5 1).toInt.toNat + 16 := by omega
  rw [n1] at u2 v2
  rw [n2] at u3 v3
  rw [n3] at u4 v4
  rw [n4] at u5 v5
  refine ⟨fun k hk => ?_, fun i hi => ?_⟩
  · show hI o5 b _ = _
    unfold wrd5
    by_cases k1 : k < 4
    · rw [if_pos k1, v5 _ (by omega), v4 _ (by omega), v3 _ (by omega), v2 _ (by omega), Nat.mod_eq_of_lt k1]
      exact u1 k k1
    rw [if_neg k1]
    by_cases k2 : k < 8
    · rw [if_pos k2, v5 _ (by omega), v4 _ (by omega), v3 _ (by omega)]
      have w := u2 (k - 4) (by omega)
      rw [show (hI h s5 1).toInt.toNat + 4 + (k - 4) = (hI h s5 1).toInt.toNat + k by omega, show k - 4 = k % 4 by omega] at w
      exact w
    rw [if_neg k2]
    by_cases k3 : k < 12
    · rw [if_pos k3, v5 _ (by omega), v4 _ (by omega)]
      have w := u3 (k - 8) (by omega)
      rw [show (hI h s5 1).toInt.toNat + 8 + (k - 8) = (hI h s5 1).toInt.toNat + k by omega, show k - 8 = k % 4 by omega] at w
      exact w
    rw [if_neg k3]
    by_cases k4 : k < 16
    · rw [if_pos k4, v5 _ (by omega)]
      have w := u4 (k - 12) (by omega)
      rw [show (hI h s5 1).toInt.toNat + 12 + (k - 12) = (hI h s5 1).toInt.toNat + k by omega, show k - 12 = k % 4 by omega] at w
      exact w
    rw [if_neg k4]
    have w := u5 (k - 16) (by omega)
    rw [show (hI h s5 1).toInt.toNat + 16 + (k - 16) = (hI h s5 1).toInt.toNat + k by omega, show k - 16 = k % 4 by omega] at w
    exact w
  · show hI o5 b i = _
    rw [v5 i (by omega), v4 i (by omega), v3 i (by omega), v2 i (by omega), v1 i hi]
/-- feed: the reference's -/
theorem rb_s : ∀ k : Nat, k < 20 → (((24 : Int32) - ((8 : Int32) * ((nI k) &&& (3 : Int32)))) &&& 31) = ((if k % 4 = 0 then (24 : Int32) else if k % 4 = 1 then 16 else if k % 4 = 2 then 8 else 0) &&& 31) := by decide
theorem rb_v (x : Int32) {k : Nat} (hk : k < 20) : x >>> (((24 : Int32) - ((8 : Int32) * ((nI k) &&& (3 : Int32)))) &&& 31) = rb x (k % 4) := by
  rw [rb_s k hk]
  have m := Nat.mod_lt k (show 0 < 4 by decide)
  generalize k % 4 = j at *
  match j, m with
  | 0, _ => rfl
  | 1, _ => rfl
  | 2, _ => rfl
  | 3, _ => rfl
  | j + 4, m => exact absurd m (by omega)
theorem fd_19 (nt : ¬ x0 = t) : ∀ (f : Nat) {h : Hp} {k : Nat} {o : Int32 × Hp}, hR h x0 0 = some t → k ≤ 20 → 0 ≤ (hI h x0 1).toInt → (hI h x0 1).toInt + (20 - (k : Int)) ≤ 1200 → sX15_feed_19 F f h x0 x1 x2 x3 x4 x5 (nI k) = some o → (∀ j : Nat, k ≤ j → j < 20 → hI o.2 t ((hI h x0 1).toInt.toNat + (j - k)) = vp_nar .byte (rb (wrd5 x1 x2 x3 x4 x5 j) (j % 4)).toInt8.toInt32) ∧ ∀ i : Nat, i < (hI h x0 1).toInt.toNat → hI o.2 t i = hI h t i := by
  have z1 : (1 : Int32).toInt = 1 := rfl
  have z4 : (4 : Int32).toInt = 4 := rfl
  have z8 : (8 : Int32).toInt = 8 := rfl
  have z12 : (12 : Int32).toInt = 12 := rfl
  have z16 : (16 : Int32).toInt = 16 := rfl
  have z20 : (20 : Int32).toInt = 20 := rfl
  intro f
  induction f with
  | zero => intro h k o _ _ _ _ e; exact absurd e (by simp [sX15_feed_19])
  | succ f ih =>
    intro h k o et l6 a1 l1 e
    have tk : (nI k).toInt = (k : Int) := z_toInt (by omega)
    have go : ∀ {t0 : Int32}, k < 20 → t0 = wrd5 x1 x2 x3 x4 x5 k → sX15_feed_72 F (sX15_feed_19 F f) h x0 x1 x2 x3 x4 x5 (nI k) t0 = some o → (∀ j : Nat, k ≤ j → j < 20 → hI o.2 t ((hI h x0 1).toInt.toNat + (j - k)) = vp_nar .byte (rb (wrd5 x1 x2 x3 x4 x5 j) (j % 4)).toInt8.toInt32) ∧ ∀ i : Nat, i < (hI h x0 1).toInt.toNat → hI o.2 t i = hI h t i := fun {t0} l q0 e => by
      unfold sX15_feed_72 at e
      replace e := cl_s e
      obtain ⟨t', et', e⟩ := e
      have y : t' = t := r_eq et et'
      subst y
      replace e := (gd_s e).2
      replace e := nm_s e
      obtain ⟨h3, w3, e⟩ := e
      replace e := nm_s e
      obtain ⟨h4, w4, e⟩ := e
      replace e := nm_s e
      obtain ⟨v5, w5', e⟩ := e
      have y5 : v5 = nI (k + 1) := Int32.toInt_inj.mp (by
        rw [w5', ta (by rw [z1, tk]; omega), z1, tk, z_toInt (by omega)]
        omega)
      rw [y5] at e
      have nx := nc_i (x := hI h x0 1) a1
      have ix : (hI h x0 1).toNatClampNeg = (hI h x0 1).toInt.toNat := by omega
      rw [ix, rb_v t0 l, q0] at w3
      have e4 : (hI h4 x0 1).toInt = (hI h x0 1).toInt + 1 := by
        rw [w4, rI_s, w3, rI_a nt, ta (by rw [z1]; omega), z1]
      have n4 : (hI h4 x0 1).toInt.toNat = (hI h x0 1).toInt.toNat + 1 := by omega
      obtain ⟨u1, u2⟩ := ih (h := h4) (k := k + 1) (by rw [w4, w3]; exact et) (by omega) (by omega) (by omega) e
      rw [n4] at u1 u2
      refine ⟨fun j hj lj => ?_, fun i hi => ?_⟩
      · by_cases z : j = k
        · rw [z, Nat.sub_self, Nat.add_zero, u2 _ (by omega), w4, rI_a (fun y => nt y.symm), w3, rI_s]
        · have w := u1 j (by omega) lj
          rw [show (hI h x0 1).toInt.toNat + 1 + (j - (k + 1)) = (hI h x0 1).toInt.toNat + (j - k) by omega] at w
          exact w
      · rw [u2 i (by omega), w4, rI_a (fun y => nt y.symm), w3, rI_o (by omega)]
    unfold sX15_feed_19 at e
    replace e := br_s e
    rcases e with ⟨l, e⟩ | ⟨l, e⟩
    · have l := le_i l
      rw [z20, tk] at l
      rw [← Option.some.inj e]
      exact ⟨fun j hj lj => absurd lj (by omega), fun _ _ => rfl⟩
    have l := nle_i l
    rw [z20, tk] at l
    replace e := br_s e
    rcases e with ⟨m4, e⟩ | ⟨m4, e⟩
    · have m4 := le_i m4
      rw [z4, tk] at m4
      replace e := br_s e
      rcases e with ⟨m8, e⟩ | ⟨m8, e⟩
      · have m8 := le_i m8
        rw [z8, tk] at m8
        replace e := br_s e
        rcases e with ⟨m12, e⟩ | ⟨m12, e⟩
        · have m12 := le_i m12
          rw [z12, tk] at m12
          replace e := br_s e
          rcases e with ⟨m16, e⟩ | ⟨m16, e⟩
          · have m16 := le_i m16
            rw [z16, tk] at m16
            exact go (by omega) (by unfold wrd5; rw [if_neg (by omega), if_neg (by omega), if_neg (by omega), if_neg (by omega)]) e
          · have m16 := nle_i m16
            rw [z16, tk] at m16
            exact go (by omega) (by unfold wrd5; rw [if_neg (by omega), if_neg (by omega), if_neg (by omega), if_pos (by omega)]) e
        · have m12 := nle_i m12
          rw [z12, tk] at m12
          exact go (by omega) (by unfold wrd5; rw [if_neg (by omega), if_neg (by omega), if_pos (by omega)]) e
      · have m8 := nle_i m8
        rw [z8, tk] at m8
        exact go (by omega) (by unfold wrd5; rw [if_neg (by omega), if_pos (by omega)]) e
    · have m4 := nle_i m4
      rw [z4, tk] at m4
      exact go (by omega) (by unfold wrd5; rw [if_pos (by omega)]) e
theorem feed_r {o : Int32 × Hp} (nt : ¬ x0 = t) (et : hR h x0 0 = some t) (a1 : 0 ≤ (hI h x0 1).toInt) (l : (hI h x0 1).toInt + 20 ≤ 1200) (e : sX15_feed F h x0 x1 x2 x3 x4 x5 = some o) : (∀ j : Nat, j < 20 → hI o.2 t ((hI h x0 1).toInt.toNat + j) = vp_nar .byte (rb (wrd5 x1 x2 x3 x4 x5 j) (j % 4)).toInt8.toInt32) ∧ ∀ i : Nat, i < (hI h x0 1).toInt.toNat → hI o.2 t i = hI h t i := by
  have z20 : (20 : Int32).toInt = 20 := rfl
  have zb : (1200 : Int32).toInt = 1200 := rfl
  have tt : (hI h x0 1 + (20 : Int32)).toInt = (hI h x0 1).toInt + 20 := by rw [ta (by rw [z20]; omega), z20]
  unfold sX15_feed at e
  replace e := br_s e
  rcases e with ⟨_, e⟩ | ⟨q, _⟩
  · obtain ⟨u1, u2⟩ := fd_19 nt F (k := 0) et (by omega) a1 (by omega) e
    exact ⟨fun j lj => u1 j (Nat.zero_le j) lj, u2⟩
  · have q := nle_i q
    rw [tt, zb] at q
    omega
end
end
section
/-! what the one side leaves of the other -/
section
variable {ρ ρ1 : Nat → Nat} {c c1 : Cm} {h o : Hp} {S : Nat → Nat → Nat → Bool} {m : Nat}
theorem exm_f (T : TH ρ c h) (X : ExM ρ (cat c S h) ρ1 c1) (T1 : TH ρ1 c1 o) : Fr ρ (cat c S h) h o := by
  have lt : ∀ a, ρ a ≠ 0 → a < h.1.1 := fun a ha => by rw [T.1.1]; exact T.2.1.2.2.1 a ha
  have g : FrG ρ1 c1 (c0 c1) o := T1.2.2
  have e0 : c0 c1 = h := by show c1.2.2.2.2 = h; rw [X.2.1]; rfl
  rw [e0] at g
  refine ⟨fun a i h0 hs => g.2.1 a i (lt a h0) (by rw [(X.1 a h0).1]; exact h0) ?_, fun a h0 => g.2.2 a (lt a h0) (by rw [(X.1 a h0).1]; exact h0)⟩
  show c1.2.2.2.1 (ρ1 a) (cw c1 a) i = false
  rw [X.2.1, (X.1 a h0).1, (X.1 a h0).2]
  exact hs
/-- what a call of the class may write -/
def clSf (b l : Bool) : Nat → Nat → Nat → Bool := fun k w i => clR k || ((k == 10 && i == 1) || ((k == 49 && (b || !(w == 2100))) || (lwK k && l)))
/-- what a call of the reference may write -/
def rfSf (b l : Bool) : Nat → Nat → Nat → Bool := fun k _ i => (rfR k && !(k == 16 && (i == 0 || (i == 4 || (i == 5 || (i == 11 || (i == 12 || i == 13))))))) || ((k == 82 && b) || ((rwK k || (k == 16 && (i == 4 || (i == 5 || (i == 11 || (i == 12 || i == 13)))))) && l))
theorem cl_bad {b l : Bool} : ∀ k w i, badR k w i = true → clSf b l k w i = false := fun k w i bb => by
  unfold badR at bb
  simp at bb
  have : k = 16 ∨ k = 84 ∨ k = 85 ∨ k = 90 ∨ k = 91 ∨ k = 92 ∨ k = 95 ∨ k = 96 ∨ k = 97 ∨ k = 99 ∨ k = 100 ∨ k = 101 ∨ k = 106 ∨ k = 107 ∨ k = 13 ∨ k = 62 ∨ k = 63 ∨ k = 64 := by omega
  rcases this with z | z | z | z | z | z | z | z | z | z | z | z | z | z | z | z | z | z <;> subst z <;> rfl
/-- a call of the class leaves the reference -/
theorem x_ref {b l : Bool} {na nd ng nf : Nat} (T : TH ρ c h) (X : ExM ρ (cat c (clSf b l) h) ρ1 c1) (T1 : TH ρ1 c1 o) (r0 : ρ m = 16) (P : RfI m h) (ha : dA m h na) (hd : dD m h nd) (hg : dG m h ng) (hf : dF m h nf) : RfI m o ∧ dA m o na ∧ dD m o nd ∧ dG m o ng ∧ dF m o nf ∧ d52 m o = d52 m h ∧ TpR m h o ∧ ρ1 m = 16 := by
  have f := exm_f T X T1
  exact ⟨rfi_f T r0 f cl_bad P, da_f T r0 f (fun _ => rfl) (fun _ _ => rfl) ha, dd_f T r0 f (fun _ => rfl) (fun _ _ => rfl) hd, dg_f T r0 f (fun _ => rfl) (fun _ _ => rfl) hg, df_f T r0 f (fun _ => rfl) (fun _ _ => rfl) hf, d52_f r0 f (fun _ => rfl), (fr_RI f r0 (by decide) (fun _ => rfl)).1, by rw [(X.1 m (by rw [r0]; decide)).1]; exact r0⟩
/-- a call of the reference leaves the class -/
theorem x_cls {b l : Bool} {n : Nat} (T : TH ρ c h) (X : Ext ρ (cat c (rfSf b l) h) ρ1 c1) (T1 : TH ρ1 c1 o) (r0 : ρ n = 12) (I : ClI ρ c n h) : ClI ρ1 c1 n o ∧ Tp n h o ∧ ρ1 n = 12 := by
  have f := ex_f T X T1
  have cr : ∀ k w i, clS k = true → rfSf b l k w i = false := fun k w i z => by
    have := clS_c z
    rcases this with z | z | z | z | z | z | z | z | z | z | z | z | z | z | z | z | z | z | z | z | z | z <;> subst z <;> rfl
  have I2 : ClI ρ c n o := ci_f T r0 f (fun k w i z _ _ _ => cr k w i z) (fun k w i z _ => cr k w i z) I
  have r1 : ρ1 n = 12 := by rw [(X.1 n (by rw [r0]; decide)).1]; exact r0
  refine ⟨ci_x (c := cat c (rfSf b l) h) (th_in _ T) r0 X T1 I2, fun t et => ?_, r1⟩
  have qt := rr T (thR T r0 (i := 0) (k2 := 10) rfl (by decide)) et
  exact ⟨by rw [(fr_RI f r0 (by decide) (fun _ => rfl)).2.2]; exact et, (fr_RI f qt (by decide) (fun _ => rfl)).1⟩
end

/-- the tapes agree -/
def TB (n m : Nat) (h : Hp) : Prop := ∀ t bt x1, hR h n 0 = some t → hR h t 0 = some bt → hR h m 0 = some x1 → ∀ i : Nat, (i : Int) < (hI h m 1).toInt → (hI h x1 i).toInt = sg (hI h bt i).toInt
section
variable {ρ ρ1 : Nat → Nat} {c c1 : Cm} {h o v : Hp} {n m : Nat}
/-- neither side writes its tape: the tapes agree, as far as they did -/
theorem tb_k {b1 b2 l1 l2 : Bool} (hb1 : b1 = false) (hb2 : b2 = false) (T : TH ρ c h) (r0 : ρ n = 12) (rm : ρ m = 16) (X : ExM ρ (cat c (clSf b1 l1) h) ρ1 c1) (T1 : TH ρ1 c1 o) (f2 : Fr ρ1 (cat c1 (rfSf b2 l2) o) o v) (e1 : ∀ t, hR h n 0 = some t → hR v n 0 = some t) (le : (hI v m 1).toInt ≤ (hI h m 1).toInt) (I : TB n m h) : TB n m v := by
  subst hb1
  subst hb2
  have f1 := exm_f T X T1
  have up : ∀ {a k : Nat}, ρ a = k → ¬ k = 0 → ρ1 a = k := fun {a k} q z => by rw [(X.1 a (by rw [q]; exact z)).1]; exact q
  obtain ⟨t, et, qt⟩ := thR T r0 (i := 0) (k2 := 10) rfl (by decide)
  obtain ⟨bt, ebt, qbt⟩ := thR T qt (i := 0) (k2 := 49) rfl (by decide)
  obtain ⟨x1, ex1, qx1⟩ := thR T rm (i := 0) (k2 := 82) rfl (by decide)
  have wt : cw c t = 2100 := kid_w T r0 (i := 0) rfl (by decide) et
  have wb : cw c bt = 2100 := th_ih T qt rfl ebt wt
  intro t' bt' x1' a1 a2 a3 i hi
  have y1 : t' = t := r_eq (e1 t et) a1
  subst y1
  have y2 : bt' = bt := r_eq (by rw [(fr_RI f2 (up qt (by decide)) (by decide) (fun _ => rfl)).2.2, (fr_RI f1 qt (by decide) (fun _ => rfl)).2.2]; exact ebt) a2
  subst y2
  have y3 : x1' = x1 := r_eq (by rw [(fr_RI f2 (up rm (by decide)) (by decide) (fun _ => rfl)).2.2, (fr_RI f1 rm (by decide) (fun _ => rfl)).2.2]; exact ex1) a3
  subst y3
  rw [(fr_RI f2 (up qx1 (by decide)) (by decide) (fun _ => rfl)).1, (fr_RI f1 qx1 (by decide) (fun _ => rfl)).1, (fr_RI f2 (up qbt (by decide)) (by decide) (fun _ => rfl)).1, (frx f1 qbt (by decide) wb rfl).1]
  exact I t' bt' x1' et ebt ex1 i (by omega)
end

theorem cl_lw {b : Bool} {k w i : Nat} (z : lwK k = true) : clSf b false k w i = false := by
  rcases lw_c z with z | z | z | z | z | z | z | z <;> (rw [z]; rfl)
theorem cl_rw {b l : Bool} {k w i : Nat} (z : rwK k = true) : clSf b l k w i = false := by
  rcases rw_c z with z | z | z | z | z | z | z | z | z | z <;> (rw [z]; rfl)
theorem rf_lw {b l : Bool} {k w i : Nat} (z : lwK k = true) : rfSf b l k w i = false := by
  rcases lw_c z with z | z | z | z | z | z | z | z <;> (rw [z]; rfl)
theorem rf_rw {b : Bool} {k w i : Nat} (z : rwK k = true) : rfSf b false k w i = false := by
  rcases rw_c z with z | z | z | z | z | z | z | z | z | z <;> (rw [z]; rfl)
/-- laws agree, and the reference's two are apart -/
def MFq (m : Nat) (h : Hp) : Prop := ∀ lw, hR h m 4 = some lw → hI h m 11 = hI h lw 0 ∧ hI h m 12 = hI h lw 1
def XB (n m : Nat) (h : Hp) : Prop := LwA n m h ∧ DL m h ∧ MFq m h
section
variable {ρ ρ1 : Nat → Nat} {c c1 : Cm} {h o v : Hp} {n m : Nat}
theorem lr_pair {b1 b2 : Bool} (T : TH ρ c h) (r0 : ρ n = 12) (rm : ρ m = 16) (X : ExM ρ (cat c (clSf b1 false) h) ρ1 c1) (T1 : TH ρ1 c1 o) (f2 : Fr ρ1 (cat c1 (rfSf b2 false) o) o v) (I : XB n m h) : XB n m v := by
  have f1 := exm_f T X T1
  have up : ∀ {a k : Nat}, ρ a = k → ¬ k = 0 → ρ1 a = k := fun {a k} q z => by rw [(X.1 a (by rw [q]; exact z)).1]; exact q
  obtain ⟨L, eL, qL⟩ := thR T r0 (i := 2) (k2 := 2) rfl (by decide)
  obtain ⟨l4, e4, q4⟩ := thR T rm (i := 4) (k2 := 15) rfl (by decide)
  obtain ⟨l5, e5, q5⟩ := thR T rm (i := 5) (k2 := 15) rfl (by decide)
  have n2 : hR v n 2 = some L := by rw [(fr_RI f2 (up r0 (by decide)) (by decide) (fun _ => rfl)).2.2, (fr_RI f1 r0 (by decide) (fun _ => rfl)).2.2]; exact eL
  have m4 : hR v m 4 = some l4 := by rw [(fr_RI f2 (up rm (by decide)) (by decide) (fun _ => rfl)).2.2, (fr_RI f1 rm (by decide) (fun _ => rfl)).2.2]; exact e4
  have m5 : hR v m 5 = some l5 := by rw [(fr_RI f2 (up rm (by decide)) (by decide) (fun _ => rfl)).2.2, (fr_RI f1 rm (by decide) (fun _ => rfl)).2.2]; exact e5
  have A1 := lc_f T qL f1 (fun k w i z => cl_lw z)
  have A2 := lc_f T1 (up qL (by decide)) f2 (fun k w i z => rf_lw z)
  have B1 := lr_f T q4 f1 (fun k w i z => cl_rw z)
  have B2 := lr_f T1 (up q4 (by decide)) f2 (fun k w i z => rf_rw z)
  have D1 := lr_f T q5 f1 (fun k w i z => cl_rw z)
  have D2 := lr_f T1 (up q5 (by decide)) f2 (fun k w i z => rf_rw z)
  have MM : ∀ i, (i = 11 ∨ i = 12) → hI v m i = hI h m i := fun i hi => by
    rcases hi with rfl | rfl <;> rw [(fr_RI f2 (up rm (by decide)) (by decide) (fun _ => rfl)).1, (fr_RI f1 rm (by decide) (fun _ => rfl)).1]
  refine ⟨fun L' lw' a1 a2 => ?_, fun x y a1 a2 => ?_, fun x a1 => by
    rw [r_eq m4 a1, MM 11 (Or.inl rfl), MM 12 (Or.inr rfl), B2.1, B1.1, B2.1, B1.1]
    exact I.2.2 l4 e4⟩
  · rw [r_eq n2 a1, r_eq m4 a2]
    refine lawr_k (I.1 L l4 eL e4) (fun i => (A2.1 i).trans (A1.1 i)) (A2.2.1.trans A1.2.1) (fun i => (A2.2.2.1 i).trans (A1.2.2.1 i)) (fun j r h1 h2 er i => ?_) (fun i => (B2.1 i).trans (B1.1 i)) (B2.2.1.trans B1.2.1) (fun i => (B2.2.2.1 i).trans (B1.2.2.1 i)) (fun j r hj er i => ?_)
    · exact (A2.2.2.2 j r h1 h2 (by rw [A1.2.2.1]; exact er) i).trans (A1.2.2.2 j r h1 h2 er i)
    · exact (B2.2.2.2 j r hj (by rw [B1.2.2.1]; exact er) i).trans (B1.2.2.2 j r hj er i)
  · rw [r_eq m4 a1, r_eq m5 a2]
    obtain ⟨d1, d2⟩ := I.2.1 l4 l5 e4 e5
    refine ⟨d1, fun i r er => ?_⟩
    rw [B2.2.2.1, B1.2.2.1] at er
    rw [D2.2.2.1, D1.2.2.1]
    exact d2 i r er
end
end
