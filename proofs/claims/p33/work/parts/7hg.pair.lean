/-! solve: the pair, answers alike -/
theorem pr_solveE {n m F : Nat} {L : Nat × Nat} {h : Hp} (hF : 2000000 ≤ F) (I : SI n m L h) : St (fun h => sX11_solve F h n) (fun h => sX15_solve F h m) h (SI n m L) := by
  have hF7 : 700000 ≤ F := by omega
  obtain ⟨a, b, h1, h2, ea, eb, q⟩ := pr_solve hF I
  obtain ⟨ρ, c, T, r0, rm, I1, P, J, tp, tb, lr, dl, mf⟩ := I
  obtain ⟨B, M, back⟩ := j_c (b := false) (l := false) T r0 rm P J
  obtain ⟨o, eo, ρ1, c1, X, T1, I2, M2, tq⟩ := cw_solve hF7 hpC_cl (th_in (clSf false false) T) r0 I1 M
  have yo : o = (a, h1) := Option.some.inj (eo.symm.trans ea)
  have r1 : ρ1 n = 12 := by rw [(X.1 n (by rw [r0]; decide)).1]; exact r0
  obtain ⟨P2, J2, t2, m1⟩ := back o.2 ρ1 c1 X T1 r1 M2
  have f := exm_f T X T1
  rw [yo] at T1 P2 f
  have T1 : TH ρ1 c1 h1 := T1
  have P2 : RfI m h1 := P2
  obtain ⟨L2, e2, q2⟩ := thR T r0 (i := 2) (k2 := 2) rfl (by decide)
  obtain ⟨t, et, qt⟩ := thR T r0 (i := 0) (k2 := 10) rfl (by decide)
  obtain ⟨bt, ebt, qbt⟩ := thR T qt (i := 0) (k2 := 49) rfl (by decide)
  obtain ⟨x1, ex1, qx1⟩ := thR T rm (i := 0) (k2 := 82) rfl (by decide)
  obtain ⟨l4, el4, ql4⟩ := thR T rm (i := 4) (k2 := 15) rfl (by decide)
  have wL : cw c L2 = 2102 := kid_w T r0 (i := 2) (w := 2102) rfl (by decide) e2
  have B1 := lr_f T ql4 f (fun k w i z => cl_rw z)
  have LR0 := lr L2 l4 e2 el4
  have LR : LawR L2 l4 h h1 := lawr_k LR0 (fun _ => rfl) rfl (fun _ => rfl) (fun _ _ _ _ _ _ => rfl) B1.1 B1.2.1 B1.2.2.1 B1.2.2.2
  have fm : ∀ i, (i = 0 ∨ i = 4) → hR h1 m i = hR h m i := fun i hi => by
    rcases hi with rfl | rfl <;> exact (fr_RI f rm (by decide) (fun _ => rfl)).2.2
  have fi : ∀ i, (i = 1 ∨ i = 11 ∨ i = 12 ∨ i = 13) → hI h1 m i = hI h m i := fun i hi => by
    rcases hi with rfl | rfl | rfl | rfl <;> exact (fr_RI f rm (by decide) (fun _ => rfl)).1
  have sqs : (hI h L2 2).toInt = (hI h1 m 13).toInt := by
    have s1 := I1.2.2.2.2.2.2.2.2.2.2.2.2 L2 q2 wL
    have s2 : (hI h1 m 13).toInt = (hI h1 m 11).toInt * (hI h1 m 12).toInt := P2.1
    obtain ⟨g1, g2⟩ := mf l4 el4
    obtain ⟨Z, ⟨⟨z2, _⟩, ⟨z15, _⟩, _⟩, Q, _⟩ := LR0
    have k0 := Q (0, 0) (by decide)
    have k1 := Q (1, 1) (by decide)
    rw [z2, z15] at k0 k1
    have k0 : hI h L2 0 = hI h l4 0 := k0
    have k1 : hI h L2 1 = hI h l4 1 := k1
    rw [s2, fi 11 (by decide), fi 12 (by decide), g1, g2, ← k0, ← k1]
    exact s1.symm
  have ab : a = b := sol_p (a := (a, h1)) (b := (b, h2)) hF T r0 I1.1 I1.2.2.2.2.2.2.2.2.1 I1.2.2.2.2.2.2.2.2.2.1 T1 m1 P2.1 e2 (by rw [fm 4 (by decide)]; exact el4) LR sqs et ebt (by rw [fm 0 (by decide)]; exact ex1) (by rw [fi 1 (by decide)]; exact tp t et) (fun i hi => by
    rw [fi 1 (by decide)] at hi
    rw [(fr_RI f qx1 (by decide) (fun _ => rfl)).1]
    exact tb t bt x1 et ebt ex1 i hi) ea eb
  exact ⟨a, h1, h2, ea, by rw [ab]; exact eb, q⟩
