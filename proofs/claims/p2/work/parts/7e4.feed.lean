/-! feed and end: equal answers -/
section
variable {n m F : Nat} {L : Nat × Nat} {h : Hp} {a1 a2 a3 a4 a5 : Int32}
theorem pr_feed (hF : 2000000 ≤ F) (I : SI n m L h) : St (fun h => sX11_feed h n a1 a2 a3 a4 a5) (fun h => sX15_feed F h m a1 a2 a3 a4 a5) h (SI n m L) := by
  have hF7 : 700000 ≤ F := by omega
  obtain ⟨ρ, c, T, r0, rm, I1, P, J, tp⟩ := I
  obtain ⟨B, M, back⟩ := j_c T r0 rm P J
  obtain ⟨t, et, qt⟩ := thR T r0 (i := 0) (k2 := 10) rfl (by decide)
  obtain ⟨o, eo, ⟨ρ1, c1, X, T1, I2, M2, _⟩, q1⟩ := cw_feed (F := F) (x1 := a1) (x2 := a2) (x3 := a3) (x4 := a4) (x5 := a5) hF7 hpC_cl (th_in clSf T) r0 I1 M et
  have r1 : ρ1 n = 12 := by rw [(X.1 n (by rw [r0]; decide)).1]; exact r0
  obtain ⟨P2, J2, t2, m1⟩ := back o.2 ρ1 c1 X T1 r1 M2
  obtain ⟨B3, M3, back3⟩ := j_r (d := (0, 0)) T1 r1 m1 I2 J2
  obtain ⟨v, ev, ⟨ρ4, c4, X4, T4, P4, M4, _⟩, q2⟩ := rw_feed (x1 := a1) (x2 := a2) (x3 := a3) (x4 := a4) (x5 := a5) hF7 hpR_rf (th_in rfSf T1) m1 P2 M3
  obtain ⟨I5, J5, t5, r5, m5⟩ := back3 v.2 ρ4 c4 X4 T4 M4
  obtain ⟨t', et', _⟩ := thR T1 r1 (i := 0) (k2 := 10) rfl (by decide)
  have q1 := q1 t' et'
  have t2' : hI o.2 m 1 = hI h m 1 := t2
  rw [t2', ← tp t et] at q2
  unfold FdR at q2
  obtain ⟨b1, b2⟩ := t5 t' et'
  have ans : o.1 = v.1 ∧ (hI o.2 t' 1).toInt = (hI v.2 m 1).toInt := by
    rcases q1 with ⟨x1, x2, x3⟩ | ⟨x1, x2, x3⟩
    · rcases q2 with ⟨y1, y2, y3⟩ | ⟨y1, y2, y3⟩
      · exact ⟨Int32.toInt_inj.mp (by rw [x2, y2]), by rw [x3, y3]⟩
      · omega
    · rcases q2 with ⟨y1, y2, y3⟩ | ⟨y1, y2, y3⟩
      · omega
      · exact ⟨by rw [x2, y2], by rw [x3, y3]⟩
  refine ⟨o.1, o.2, v.2, eo, by rw [ans.1]; exact ev, ρ4, c4, T4, r5, m5, I5, P4, J5, fun u eu => ?_⟩
  have y : u = t' := r_eq b1 eu
  subst y
  rw [b2]
  exact Int32.toInt_inj.mp ans.2
theorem pr_end (hF : 2000000 ≤ F) (I : SI n m L h) : St (fun h => sX11_end h n a1) (fun h => sX15_end h m a1) h (SI n m L) := by
  have hF7 : 700000 ≤ F := by omega
  obtain ⟨ρ, c, T, r0, rm, I1, P, J, tp⟩ := I
  obtain ⟨B, M, back⟩ := j_c T r0 rm P J
  obtain ⟨t, et, qt⟩ := thR T r0 (i := 0) (k2 := 10) rfl (by decide)
  obtain ⟨o, eo, ⟨ρ1, c1, X, T1, I2, M2, _⟩, q1⟩ := cw_end (F := F) (x1 := a1) hF7 hpC_cl (th_in clSf T) r0 I1 M et
  have r1 : ρ1 n = 12 := by rw [(X.1 n (by rw [r0]; decide)).1]; exact r0
  obtain ⟨P2, J2, t2, m1⟩ := back o.2 ρ1 c1 X T1 r1 M2
  obtain ⟨B3, M3, back3⟩ := j_r (d := (0, 0)) T1 r1 m1 I2 J2
  obtain ⟨v, ev, ⟨ρ4, c4, X4, T4, P4, M4, _⟩, q2⟩ := rw_end (F := F) (x1 := a1) hF7 hpR_rf (th_in rfSf T1) m1 P2 M3
  obtain ⟨I5, J5, t5, r5, m5⟩ := back3 v.2 ρ4 c4 X4 T4 M4
  obtain ⟨t', et', _⟩ := thR T1 r1 (i := 0) (k2 := 10) rfl (by decide)
  have q1 := q1 t' et'
  have t2' : hI o.2 m 1 = hI h m 1 := t2
  rw [t2', ← tp t et] at q2
  unfold EdR at q2
  obtain ⟨b1, b2⟩ := t5 t' et'
  have ans : o.1 = v.1 ∧ (hI o.2 t' 1).toInt = (hI v.2 m 1).toInt := by
    rcases q1 with ⟨x1, x1', x2, x3⟩ | ⟨x1, x2, x3⟩
    · rcases q2 with ⟨y1, y1', y2, y3⟩ | ⟨y1, y2, y3⟩
      · exact ⟨by rw [x2, y2], by rw [x3, y3]⟩
      · exact absurd ⟨x1, x1'⟩ y1
    · rcases q2 with ⟨y1, y1', y2, y3⟩ | ⟨y1, y2, y3⟩
      · exact absurd ⟨y1, y1'⟩ x1
      · exact ⟨by rw [x2, y2], by rw [x3, y3]⟩
  refine ⟨o.1, o.2, v.2, eo, by rw [ans.1]; exact ev, ρ4, c4, T4, r5, m5, I5, P4, J5, fun u eu => ?_⟩
  have y : u = t' := r_eq b1 eu
  subst y
  rw [b2]
  exact Int32.toInt_inj.mp ans.2
end
