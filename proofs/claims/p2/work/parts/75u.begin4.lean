/-! a state is begun -/
abbrev XSL : List (Nat × Nat) := [(66, 999), (67, 999), (68, 999), (69, 999), (70, 999), (71, 999), (72, 999), (86, 999), (87, 999), (88, 999), (89, 999), (105, 999), (16, 23), (16, 24), (16, 29), (14, 0)]
abbrev EBL : List (Nat × Nat) := [(102, 999), (62, 999), (63, 999), (64, 999), (65, 999), (13, 1), (13, 2), (13, 3), (13, 7), (66, 999), (67, 999), (68, 999), (69, 999), (70, 999), (71, 999), (72, 999), (86, 999), (87, 999), (88, 999), (89, 999), (105, 999), (16, 23), (16, 24), (16, 29), (14, 0)]
abbrev bL8 : List (Nat × Nat) := [(62, 999), (63, 999), (64, 999), (65, 999), (13, 1), (13, 2), (13, 3), (13, 7)]
abbrev bS7 : List (Nat × Nat) := [(62, 999), (64, 999), (65, 999), (13, 1), (13, 2), (13, 3), (13, 7)]
abbrev lL8 : List (Nat × Nat) := [(66, 999), (67, 999), (68, 999), (69, 999), (70, 999), (71, 999), (72, 999), (14, 0)]
abbrev bgA : List (Nat × Nat) := [(102, 999), (86, 999), (16, 23), (16, 24), (16, 29), (87, 999), (88, 999), (89, 999), (105, 999), (103, 999)]
theorem xsl_x {k i : Nat} (q : mS XSL k i = true) : XS k i = true := by
  obtain ⟨p, hp, q⟩ := List.any_eq_true.mp q
  rw [Bool.and_eq_true] at q
  have e1 : p.1 = k := by simpa using q.1
  have e2 : p.2 = 999 ∨ p.2 = i := by simpa using q.2
  simp only [List.mem_cons, List.not_mem_nil, or_false] at hp
  rcases hp with w | w | w | w | w | w | w | w | w | w | w | w | w | w | w | w <;> subst w <;> subst e1 <;> first | rfl | (rcases e2 with w | w <;> first | exact absurd w (by decide) | (subst w; rfl))
section
variable {ρ : Nat → Nat} {c : Cm} {h0 h o : Hp} {x0 rm re rb rk R F : Nat} {x1 x2 : Int32} {a : Int}
theorem fq_kf (K : Kf ρ XSL h0 h) : Fq ρ h0 h := fun a i n x => K a i n (by
  cases q : mS XSL (ρ a) i with
  | false => rfl
  | true => rw [xsl_x q] at x; exact x)
theorem mkg_of (e13 : hI o x0 13 = hI h x0 13) (e49 : hI o x0 49 = hI h x0 49) (km : ∀ i, hI o rm i = hI h rm i) (kb : ∀ i, hI o rb i = hI h rb i) (ke : ∀ i, hI o re i = hI h re i) (kR : hI o R 10 = hI h R 10) (kk : ∀ i, hJ o rk i = hJ h rk i) (P : MkG x0 rm rb re rk R h) : MkG x0 rm rb re rk R o := by
  intro set q j t l1 p1 w1 h1 t64 bt
  unfold mkx owS at bt
  unfold Gd
  rw [e49] at l1
  rw [e13, km] at w1
  rw [km] at h1
  simp only [km, kb, ke, kk] at bt
  rw [e13, kR, km]
  simp only [ke]
  exact P set q j t l1 p1 w1 h1 t64 bt
theorem mkg_k {E : List (Nat × Nat)} (K : Kf ρ E h o) (r0 : ρ x0 = 16) (qm : ρ rm = 99) (qb : ρ rb = 104) (qe : ρ re = 100) (qk : ρ rk = 103) (qR : ρ R = 15) (y1 : mS E 16 13 = false) (y2 : mS E 16 49 = false) (y3 : ∀ i, mS E 99 i = false) (y4 : ∀ i, mS E 104 i = false) (y5 : ∀ i, mS E 100 i = false) (y6 : ∀ i, mS E 103 i = false) (y7 : mS E 15 10 = false) (P : MkG x0 rm rb re rk R h) : MkG x0 rm rb re rk R o :=
  mkg_of (kfI 13 K r0 (by decide) y1) (kfI 49 K r0 (by decide) y2) (fun i => kfI i K qm (by decide) (y3 i)) (fun i => kfI i K qb (by decide) (y4 i)) (fun i => kfI i K qe (by decide) (y5 i)) (kfI 10 K qR (by decide) y7) (fun i => kfJ i K qk (by decide) (y6 i)) P
theorem mvg_of {sq : Int} {f t : Int32} (km : ∀ i, hI o rm i = hI h rm i) (ke : ∀ i, hI o re i = hI h re i) (kR : hI o R 10 = hI h R 10) (G : MvG h rm re R sq x1 x2 f t) : MvG o rm re R sq x1 x2 f t := by
  unfold MvG Gd owS at *
  rw [kR, km]
  simp only [ke]
  exact G
/-- where a state's moves lead -/
theorem st_mvg {g M Ro S Fa Ct Fl Ri A B Fm St : Nat} {b7 : Hp} (T : TH ρ c b7) (L : LkS ρ x0 g S Fa Ct M R Fl Ri b7) (Z : LkT ρ x0 R A B Fm St b7) (e22 : hR b7 x0 22 = some Ro) (rRo : ρ Ro = 86) (ee : hR b7 x0 47 = some re) (i1 : Rg 0 4095 x1) (rz : hJ b7 g 2 = 0) (pz : hI b7 g 3 = 0) (sd : hI b7 g 1 = x2 &&& (1 : Int32)) (pos : ∀ i, i < (hI b7 rm x1.toNatClampNeg).toNatClampNeg → 1 ≤ (hI b7 re (5 * x1.toNatClampNeg + i)).toInt)
    (SD : LSD M re (5 * x1.toNatClampNeg) (x2.toInt / 2) (hI b7 x0 13).toInt (hI b7 rm x1.toNatClampNeg).toNatClampNeg b7) (SC : LSC M re (5 * x1.toNatClampNeg) (x2.toInt / 2) (hI b7 x0 13).toInt (hI b7 rm x1.toNatClampNeg).toNatClampNeg b7) (SX : LSX (x2.toInt / 2) (hI b7 x0 13).toInt (hI b7 rm x1.toNatClampNeg).toNatClampNeg) (im : Rg 0 5 (hI b7 rm x1.toNatClampNeg)) {o10 : Int32 × Hp} (ew : sX15_wrongOf F b7 x0 g = some o10) (np : o10.1 ≤ 0)
    (s t : Int32) (s0 : 0 ≤ s.toInt) (sl : s.toInt < (hI b7 x0 13).toInt) (hs : 0 < (hI b7 M s.toNatClampNeg).toInt) (own : ((hI b7 M s.toNatClampNeg) - (1 : Int32)) &&& (1 : Int32) = hI b7 g 1) (t0 : 0 ≤ t.toInt) (tl : t.toInt < (hI b7 x0 13).toInt) (LQ : LdQ ρ F x0 g M b7 s t) : MvG b7 rm re R (hI b7 x0 13).toInt x1 x2 s t := by
  have r0 := L.1.1
  have rg := L.1.2.1
  have rM := L.1.2.2.2.2.2.1
  have rR := L.1.2.2.2.2.2.2.1
  have s64 := (thI T r0 (k := 16) (i := 13) (lo := 9) (hi := 64) rfl).2
  have s9 := (thI T r0 (k := 16) (i := 13) (lo := 9) (hi := 64) rfl).1
  have cs := clamp_i s0
  have ct := clamp_i t0
  have cm := clamp_i im.1
  have man : ∀ j : Nat, (j : Int) < (hI b7 rm x1.toNatClampNeg).toInt → ∀ u : Int32, 0 ≤ u.toInt → u.toInt = dg (x2.toInt / 2) (hI b7 x0 13).toInt j → hI b7 M u.toNatClampNeg = hI b7 re (5 * x1.toNatClampNeg + j) := by
    intro j hj u u0 eu
    have := SC j (by omega)
    unfold dg at eu
    rw [← eu] at this
    have cu := clamp_i u0
    have e2 : u.toInt.toNat = u.toNatClampNeg := by omega
    rw [e2] at this
    exact this
  refine ⟨⟨t0, by omega⟩, ?_, ?_⟩
  · obtain ⟨j, j1, j2, j3⟩ := SD s.toNatClampNeg (by omega) hs
    exact ⟨j, by omega, by rw [← cs, j2]; rfl⟩
  · intro j hj es
    have mj := man j hj s s0 es
    refine ⟨?_, by omega, ?_, ?_⟩
    · unfold owS
      rw [← mj, own, sd]
    · intro i i' hi hi' ne
      by_cases lt : i' < i
      · exact fun w => SX i i' hi lt w.symm
      · exact fun w => SX i' i hi' (by omega) w
    · intro i hi ni et roy
      have mi := man i (by omega) t t0 (by rw [← ct]; exact et.symm)
      have tp : 0 < (hI b7 M t.toNatClampNeg).toInt := by rw [mi]; have := pos i hi; omega
      obtain ⟨q1, q2⟩ := LQ tp
      have sr1 := side_r (x := hI b7 M t.toNatClampNeg - (1 : Int32))
      have sr2 := side_r (x := hI b7 M s.toNatClampNeg - (1 : Int32))
      have neq : ¬ ((hI b7 M t.toNatClampNeg - (1 : Int32)) &&& (1 : Int32)).toInt = ((hI b7 M s.toNatClampNeg - (1 : Int32)) &&& (1 : Int32)).toInt := fun w => q1 (Int32.toInt_inj.mp w)
      have ir : IsR b7 M R t.toNatClampNeg (1 - (hI b7 g 1).toInt).toNat := by
        refine ⟨tp, by rw [mi]; exact roy, ?_⟩
        rw [own] at neq sr2
        have := sr1.1; have := sr1.2; have := sr2.1; have := sr2.2
        omega
      obtain ⟨gq, o3, fq, e3, z3⟩ := wrong_q L e22 rRo rz (by rw [pz]; decide) (thI T rg (k := 13) (i := 1) (lo := 0) (hi := 1) rfl) (fun s => thI T rM (k := 62) (lo := 0) (hi := 24) rfl) (thI T rR (k := 15) (i := 10) (lo := -1) (hi := 11) rfl) (by omega) s64 fq_r ew np t.toNatClampNeg (by omega) ir
      have tn : nI t.toNatClampNeg = t := by
        apply Int32.toInt_inj.mp
        rw [z_toInt (by omega)]
        omega
      rw [tn] at e3
      unfold sX15_isAttacked at e3
      exact isa_q L Z s0 sl hs own (fun w => q1 (by rw [w])) q2 F (x4 := 0) fq (by decide) (show (0 : Int) ≤ s.toInt from s0) e3 z3
end
