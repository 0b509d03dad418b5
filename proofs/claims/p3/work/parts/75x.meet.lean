/-! all that a move leads to is met -/
abbrev EWL : List (Nat × Nat) := [(102, 999), (108, 999), (109, 999), (110, 999), (16, 62), (16, 63)]
/-- what holds while a solution is worked out -/
def WkP (ρ : Nat → Nat) (x0 rm re rb rk rs ro rp rt rw mb km R Bc Bm : Nat) (a : Int) (h : Hp) : Prop := SlR ρ x0 rm re rb rk rs ro h ∧ (hR h x0 58 = some rp ∧ hR h x0 61 = some rt ∧ hR h x0 51 = some rw ∧ hR h x0 53 = some mb ∧ hR h x0 52 = some km ∧ hR h x0 4 = some R ∧ hR h R 13 = some Bc ∧ hR h R 14 = some Bm) ∧ (ρ rp = 109 ∧ ρ rt = 110 ∧ ρ rw = 102 ∧ ρ mb = 104 ∧ ρ km = 103 ∧ ρ R = 15 ∧ ρ Bc = 80 ∧ ρ Bm = 81) ∧ SE x0 h ∧ AllS x0 rm re rs rk R Bc Bm h ∧ MBd x0 (hI h x0 49).toInt a h ∧ a ≤ 1500000 ∧ MkG x0 rm mb re km R h
section
variable {ρ : Nat → Nat} {c : Cm} {x0 rm re rb rk rs ro rp rt rw mb km R Bc Bm F : Nat} {a : Int} {h o : Hp} {x1 x2 x3 x4 x5 x6 x7 : Int32}
theorem alls_of (e49 : hI o x0 49 = hI h x0 49) (k1 : ∀ i, hI o rm i = hI h rm i) (k2 : ∀ i, hI o re i = hI h re i) (k3 : ∀ i, hI o rs i = hI h rs i) (k4 : ∀ i, hI o rk i = hI h rk i) (k5 : hI o R 10 = hI h R 10) (k6 : ∀ i, hI o Bc i = hI h Bc i) (k7 : ∀ i, hI o Bm i = hI h Bm i) (P : AllS x0 rm re rs rk R Bc Bm h) : AllS x0 rm re rs rk R Bc Bm o := by
  intro k hk
  rw [e49] at hk
  have := P k hk
  unfold CL FdS Fnd at *
  rw [k1, k5]
  simp only [k2, k3, k4, k6, k7]
  exact this
theorem se_k {E : List (Nat × Nat)} (K : Kf ρ E h o) (r0 : ρ x0 = 16) (qm : ρ rm = 99) (qe : ρ re = 100) (qb : ρ rb = 101) (qk : ρ rk = 106) (qs : ρ rs = 107) (e46 : hR h x0 46 = some rm) (e47 : hR h x0 47 = some re) (e48 : hR h x0 48 = some rb) (e55 : hR h x0 55 = some rk) (e56 : hR h x0 56 = some rs) (P : SE x0 h) (y : (mS E 16 13 || mS E 16 49 || mS E 16 59 || mS E 16 46 || mS E 16 47 || mS E 16 48 || mS E 16 55 || mS E 16 56) = false := by rfl) (y99 : ∀ i, mS E 99 i = false := by intro _; rfl) (y100 : ∀ i, mS E 100 i = false := by intro _; rfl) (y101 : ∀ i, mS E 101 i = false := by intro _; rfl) (y106 : ∀ i, mS E 106 i = false := by intro _; rfl) (y107 : ∀ i, mS E 107 i = false := by intro _; rfl) : SE x0 o := by
  simp only [Bool.or_eq_false_iff] at y
  obtain ⟨⟨⟨⟨⟨⟨⟨y1, y2⟩, y3⟩, y4⟩, y5⟩, y6⟩, y7⟩, y8⟩ := y
  have k13 := kfI 13 K r0 (by decide) y1
  have k49 := kfI 49 K r0 (by decide) y2
  have k59 := kfJ 59 K r0 (by decide) y3
  have j46 := kfR 46 K r0 (by decide) y4
  have j47 := kfR 47 K r0 (by decide) y5
  have j48 := kfR 48 K r0 (by decide) y6
  have j55 := kfR 55 K r0 (by decide) y7
  have j56 := kfR 56 K r0 (by decide) y8
  have km := fun i => kfI i K qm (by decide) (y99 i)
  have ke := fun i => kfI i K qe (by decide) (y100 i)
  have kb := fun i => kfI i K qb (by decide) (y101 i)
  have kk := fun i => kfI i K qk (by decide) (y106 i)
  have ks := fun i => kfI i K qs (by decide) (y107 i)
  obtain ⟨p1, p2, p3, p4, p5, p6⟩ := P
  refine ⟨?_, ?_, ?_, ?_, ?_, ?_⟩
  · intro r er
    rw [j56] at er
    have hz := r_eq e56 er
    subst hz
    rw [k49, uC_eq _ (fun j _ => ks j)]
    exact p1 r er
  · unfold S2
    rw [k59]
    exact p2
  · intro r1 r2 er1 er2 k hk
    rw [j46] at er1
    rw [j48] at er2
    rw [k49] at hk
    have hz := r_eq e46 er1
    subst hz
    have hz := r_eq e48 er2
    subst hz
    rw [km, kb, k13, k59]
    exact p3 r1 r2 er1 er2 k hk
  · intro r1 r2 r3 r4 er1 er2 er3 er4 j hj hp
    rw [j56] at er1
    rw [j55] at er2
    rw [j46] at er3
    rw [j47] at er4
    have hz := r_eq e56 er1
    subst hz
    have hz := r_eq e55 er2
    subst hz
    have hz := r_eq e46 er3
    subst hz
    have hz := r_eq e47 er4
    subst hz
    rw [ks] at hp
    rw [ks, kk, k49, km, pkN_eq (h := h) (a := r4) (p := 5 * ((hI h r1 j).toInt.toNat - 1)) _ (fun i _ => ke _)]
    exact p4 r1 r2 r3 r4 er1 er2 er3 er4 j hj hp
  · intro r1 r2 er1 er2 k hk i hi
    rw [j46] at er1
    rw [j47] at er2
    rw [k49] at hk
    have hz := r_eq e46 er1
    subst hz
    have hz := r_eq e47 er2
    subst hz
    rw [km] at hi
    rw [ke]
    exact p5 r1 r2 er1 er2 k hk i hi
  · intro r1 r2 er1 er2 k hk
    rw [j46] at er1
    rw [j48] at er2
    rw [k49] at hk
    have hz := r_eq e46 er1
    subst hz
    have hz := r_eq e48 er2
    subst hz
    rw [km, kb, kb, k13]
    exact p6 r1 r2 er1 er2 k hk
theorem wkp_k (T : TH ρ c h) (K : Kf ρ EWL h o) (W : WkP ρ x0 rm re rb rk rs ro rp rt rw mb km R Bc Bm a h) : WkP ρ x0 rm re rb rk rs ro rp rt rw mb km R Bc Bm a o := by
  obtain ⟨⟨⟨r0, qm, qe, qb, qk, qs, qo⟩, ⟨e46, e47, e48, e55, e56, e57⟩⟩, ⟨e58, e61, e51, e53, e52, e4, e13, e14⟩, ⟨qp, qt, qw, qmb, qkm, qR, qBc, qBm⟩, P, A, D, na, G⟩ := W
  refine ⟨⟨⟨r0, qm, qe, qb, qk, qs, qo⟩, ⟨by rw [kfR 46 K r0]; exact e46, by rw [kfR 47 K r0]; exact e47, by rw [kfR 48 K r0]; exact e48, by rw [kfR 55 K r0]; exact e55, by rw [kfR 56 K r0]; exact e56, by rw [kfR 57 K r0]; exact e57⟩⟩, ⟨by rw [kfR 58 K r0]; exact e58, by rw [kfR 61 K r0]; exact e61, by rw [kfR 51 K r0]; exact e51, by rw [kfR 53 K r0]; exact e53, by rw [kfR 52 K r0]; exact e52, by rw [kfR 4 K r0]; exact e4, by rw [kfR 13 K qR]; exact e13, by rw [kfR 14 K qR]; exact e14⟩, ⟨qp, qt, qw, qmb, qkm, qR, qBc, qBm⟩, ?_, ?_, ?_, na, ?_⟩
  · exact se_k K r0 qm qe qb qk qs e46 e47 e48 e55 e56 P
  · exact alls_of (kfI 49 K r0) (fun i => kfI i K qm) (fun i => kfI i K qe) (fun i => kfI i K qs) (fun i => kfI i K qk) (kfI 10 K qR) (fun i => kfI i K qBc) (fun i => kfI i K qBm) A
  · intro rm' rb' em' eb' k hk
    rw [kfR 46 K r0] at em'
    rw [kfR 53 K r0] at eb'
    rw [kfI 49 K r0] at hk
    have hz1 := r_eq e46 em'
    subst hz1
    have hz1 := r_eq e53 eb'
    subst hz1
    rw [kfI 13 K r0, kfI 49 K r0]
    simp only [kfI _ K qm, kfI _ K qmb]
    exact D rm' rb' em' eb' k hk
  · exact mkg_k K r0 qm qmb qe qkm qR rfl rfl (fun _ => rfl) (fun _ => rfl) (fun _ => rfl) (fun _ => rfl) rfl G
end
