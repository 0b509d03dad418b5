/-! a pair of calls: class, then reference -/
/-- what holds between calls -/
def SI (n m : Nat) (L : Nat × Nat) (h : Hp) : Prop := ∃ ρ c, TH ρ c h ∧ ρ n = 12 ∧ ρ m = 16 ∧ ClI ρ c n h ∧ RfI m h ∧ RmJ n m L h ∧ (∀ t, hR h n 0 = some t → hI h t 1 = hI h m 1) ∧ TB n m h ∧ XB n m h
/-- both calls end, whatever they answer -/
def Sf (A B : Hp → Option (Int32 × Hp)) (h : Hp) (Q : Hp → Prop) : Prop := ∃ (a b : Int32) (h1 h2 : Hp), A h = some (a, h1) ∧ B h1 = some (b, h2) ∧ Q h2
section
variable {n m : Nat} {L d : Nat × Nat} {h : Hp} {A R : Hp → Option (Int32 × Hp)}
theorem hpC_cl {b l : Bool} {c : Cm} {h : Hp} : hpC (cat c (clSf b l) h) := ⟨fun k w i z => by
  show clSf b l k w i = true
  unfold clSf
  rw [z]; rfl, fun w => rfl, fun w i z => by
  show ((b || !(w == 2100)) || (lwK 49 && l)) = true
  rw [bq_ne z]
  cases b <;> rfl⟩
theorem hlC_cl {b : Bool} {c : Cm} {h : Hp} : hlC (cat c (clSf b true) h) := fun k w i z => by
  show clSf b true k w i = true
  rcases lw_c z with z | z | z | z | z | z | z | z <;> (rw [z]; rfl)
theorem hpR_rf {b l : Bool} {c : Cm} {h : Hp} : hpR (cat c (rfSf b l) h) := fun k w i z n => by
  show rfSf b l k w i = true
  unfold rfSf
  have y : (k == 16 && (i == 0 || (i == 4 || (i == 5 || (i == 11 || (i == 12 || i == 13)))))) = false := by
    cases q : (k == 16 && (i == 0 || (i == 4 || (i == 5 || (i == 11 || (i == 12 || i == 13)))))) with
    | false => rfl
    | true =>
      rw [Bool.and_eq_true, Bool.or_eq_true, Bool.or_eq_true, Bool.or_eq_true, Bool.or_eq_true, Bool.or_eq_true, beq_iff_eq, beq_iff_eq, beq_iff_eq, beq_iff_eq, beq_iff_eq, beq_iff_eq, beq_iff_eq] at q
      exact absurd q n
  rw [z, y]; rfl
theorem hlR_rf {b : Bool} {c : Cm} {h : Hp} : hlR (cat c (rfSf b true) h) := ⟨fun k w i z => by
  show rfSf b true k w i = true
  rcases rw_c z with z | z | z | z | z | z | z | z | z | z <;> (rw [z]; cases b <;> rfl), fun w i z => by
  show rfSf b true 16 w i = true
  rcases z with z | z | z | z | z <;> (rw [z]; cases b <;> rfl)⟩
theorem st_tt (I : SI n m L h) (hc : ∀ {ρ : Nat → Nat} {c : Cm} {B : Nat × Nat}, hpC c → TH ρ c h → ρ n = 12 → ClI ρ c n h → RmC n B h → Sat (A h) (CP ρ c n B (Tp n h))) (hr : ∀ {h1 : Hp} {ρ : Nat → Nat} {c : Cm} {B : Nat × Nat}, hpR c → TH ρ c h1 → ρ m = 16 → RfI m h1 → RmR m B h1 → Sat (R h1) (RP ρ c m (B.1 + d.1, B.2 + d.2) (TpR m h1))) : Sf A R h (SI n m (L.1 + d.1, L.2 + d.2)) := by
  obtain ⟨ρ, c, T, r0, rm, I1, P, J, tp⟩ := I
  obtain ⟨B, M, back⟩ := j_c (b := false) (l := false) T r0 rm P J
  obtain ⟨o, eo, ρ1, c1, X, T1, I2, M2, tq⟩ := hc hpC_cl (th_in (clSf false false) T) r0 I1 M
  have r1 : ρ1 n = 12 := by rw [(X.1 n (by rw [r0]; decide)).1]; exact r0
  obtain ⟨P2, J2, t2, m1⟩ := back o.2 ρ1 c1 X T1 r1 M2
  obtain ⟨B3, M3, back3⟩ := j_r (b := false) (l := false) (d := d) T1 r1 m1 I2 J2
  obtain ⟨v, ev, ρ4, c4, X4, T4, P4, M4, t4⟩ := hr hpR_rf (th_in (rfSf false false) T1) m1 P2 M3
  obtain ⟨I5, J5, t5, r5, m5⟩ := back3 v.2 ρ4 c4 X4 T4 M4
  refine ⟨o.1, v.1, o.2, v.2, eo, ev, ρ4, c4, T4, r5, m5, I5, P4, J5, fun t et => ?_, ?_, lr_pair T r0 rm X T1 (ex_f T1 X4 T4) tp.2.2⟩
  · obtain ⟨t0, et0, _⟩ := thR T r0 (i := 0) (k2 := 10) rfl (by decide)
    obtain ⟨a1, a2⟩ := tq t0 et0
    obtain ⟨b1, b2⟩ := t5 t0 a1
    have y : t = t0 := r_eq b1 et
    subst y
    have t4' : hI v.2 m 1 = hI o.2 m 1 := t4
    have t2' : hI o.2 m 1 = hI h m 1 := t2
    rw [b2, a2, t4', t2']
    exact tp.1 t et0
  · have t4' : hI v.2 m 1 = hI o.2 m 1 := t4
    have t2' : hI o.2 m 1 = hI h m 1 := t2
    exact tb_k rfl rfl T r0 rm X T1 (ex_f T1 X4 T4) (fun t et => (t5 t (tq t et).1).1) (by rw [t4', t2']; exact Int.le_refl _) tp.2.1
/-- both tapes are empty behind it -/
theorem st_zz (I : SI n m L h) (hc : ∀ {ρ : Nat → Nat} {c : Cm} {B : Nat × Nat}, hpC c → TH ρ c h → ρ n = 12 → ClI ρ c n h → RmC n B h → Sat (A h) (CP ρ c n B (TpZ n))) (hr : ∀ {h1 : Hp} {ρ : Nat → Nat} {c : Cm} {B : Nat × Nat}, hpR c → TH ρ c h1 → ρ m = 16 → RfI m h1 → RmR m B h1 → Sat (R h1) (RP ρ c m B (fun o => hI o m 1 = 0))) : Sf A R h (SI n m L) := by
  obtain ⟨ρ, c, T, r0, rm, I1, P, J, tp⟩ := I
  obtain ⟨B, M, back⟩ := j_c (b := false) (l := false) T r0 rm P J
  obtain ⟨o, eo, ρ1, c1, X, T1, I2, M2, tq⟩ := hc hpC_cl (th_in (clSf false false) T) r0 I1 M
  have r1 : ρ1 n = 12 := by rw [(X.1 n (by rw [r0]; decide)).1]; exact r0
  obtain ⟨P2, J2, t2, m1⟩ := back o.2 ρ1 c1 X T1 r1 M2
  obtain ⟨B3, M3, back3⟩ := j_r (b := false) (l := false) (d := (0, 0)) T1 r1 m1 I2 J2
  obtain ⟨v, ev, ρ4, c4, X4, T4, P4, M4, t4⟩ := hr hpR_rf (th_in (rfSf false false) T1) m1 P2 M3
  obtain ⟨I5, J5, t5, r5, m5⟩ := back3 v.2 ρ4 c4 X4 T4 M4
  refine ⟨o.1, v.1, o.2, v.2, eo, ev, ρ4, c4, T4, r5, m5, I5, P4, J5, fun t et => ?_, fun _ _ _ _ _ _ i hi => ?_, lr_pair T r0 rm X T1 (ex_f T1 X4 T4) tp.2.2⟩
  · obtain ⟨t0, et0, _⟩ := thR T1 r1 (i := 0) (k2 := 10) rfl (by decide)
    obtain ⟨b1, b2⟩ := t5 t0 et0
    have y : t = t0 := r_eq b1 et
    subst y
    have t4' : hI v.2 m 1 = 0 := t4
    rw [b2, t4']
    exact tq t et0
  · have t4' : hI v.2 m 1 = 0 := t4
    have z0 : (0 : Int32).toInt = 0 := rfl
    rw [t4', z0] at hi
    omega
end
