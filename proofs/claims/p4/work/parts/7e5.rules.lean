/-- rules answers alike -/
theorem rl_eq {n m F : Nat} {L : Nat × Nat} {h : Hp} {a b : Int32 × Hp} (hF : 700000 ≤ F) (I : SI n m L h) (ea : sX11_rules F h n = some a) (eb : sX15_rules F a.2 m = some b) : a.1 = b.1 := by
  obtain ⟨ρ, c, T, r0, rm, I1, P, J, tp, tb⟩ := I
  obtain ⟨B, M, back⟩ := j_c (b := false) T r0 rm P J
  obtain ⟨ρ1, c1, X, T1, I2, M2, tq⟩ := sat_e (cw_rules hF hpC_cl (th_in (clSf false) T) r0 I1 M) ea
  have f := exm_f T X T1
  have up : ∀ {a k : Nat}, ρ a = k → ¬ k = 0 → ρ1 a = k := fun {a k} q n => by rw [(X.1 a (by rw [q]; exact n)).1]; exact q
  have m1 : ρ1 m = 16 := up rm (by decide)
  obtain ⟨rd, erd, qrd⟩ := thR T r0 (i := 4) (k2 := 3) rfl (by decide)
  obtain ⟨t, et, qt⟩ := thR T r0 (i := 0) (k2 := 10) rfl (by decide)
  obtain ⟨L3, e3, q3⟩ := thR T r0 (i := 3) (k2 := 2) rfl (by decide)
  obtain ⟨L2, e2, q2⟩ := thR T r0 (i := 2) (k2 := 2) rfl (by decide)
  obtain ⟨x1, ex1, qx1⟩ := thR T rm (i := 0) (k2 := 82) rfl (by decide)
  have w3 : cw c L3 = 2103 := kid_w T r0 (i := 3) (w := 2103) rfl (by decide) e3
  have ex2 : hR a.2 m 0 = some x1 := by rw [(fr_RI f rm (by decide) (fun _ => rfl)).2.2]; exact ex1
  obtain ⟨lw, elw, qlw⟩ := thR T1 m1 (i := 5) (k2 := 15) rfl (by decide)
  have l1 : hI a.2 m 1 = hI h m 1 := (fr_RI f rm (by decide) (fun _ => rfl)).1
  have i2 : Rg 0 1200 (hI a.2 m 1) := thI T1 m1 rfl
  have by1 : ∀ i, hI a.2 x1 i = hI h x1 i := fun i => (fr_RI f qx1 (by decide) (fun _ => rfl)).1
  obtain ⟨o', ei, R⟩ := rru_q hF (hpR_rf (b := false)) (th_in (rfSf false) T1) m1 ex2 elw eb
  obtain ⟨o4, e4, C⟩ := cru_q (c := cat c (fS RUC []) h) hF fs_a (th_in _ T) r0 I1 erd et e3 e2 ea
  have tl := tp t et
  have F1 := rd_p T qrd qt q3 T1 (fun a n => (X.1 a n).1) m1 ex2 elw (by rw [l1, ← tl]) i2 (fun bt ebt i hi => by rw [by1]; exact tb t bt x1 et ebt ex1 i (by rw [← l1]; exact hi)) e4 ei
  rcases C with ⟨c1', c2'⟩ | ⟨c1', T4, f4, o12, e12, c2'⟩
  · rcases F1 with ⟨_, d1, d2⟩ | ⟨d1, _, _⟩
    rotate_left
    · exact absurd c1' d1
    rcases R with ⟨_, k2⟩ | ⟨k1, _⟩
    · rw [c2', k2, d2]
    · exact absurd d1 k1
  · rcases F1 with ⟨d1, _, _⟩ | ⟨_, d1, _⟩
    · exact absurd d1 c1'
    rcases R with ⟨k1, _⟩ | ⟨_, k2⟩
    · exact absurd k1 d1
    obtain ⟨bt, ebt, qbt⟩ := thR T qt (i := 0) (k2 := 49) rfl (by decide)
    have t4 : hR o4.2 t 0 = hR h t 0 := (fr_RI f4 qt (by decide) (fun _ => rfl)).2.2
    have n4 : hI o4.2 t 1 = hI h t 1 := (fr_RI f4 qt (by decide) (fun _ => rfl)).1
    have F2 := rd_p T4 qrd qt q2 T1 (fun a n => (X.1 a n).1) m1 ex2 elw (by rw [n4, l1, ← tl]) i2 (fun bt' ebt' i hi => by
      have y : bt' = bt := r_eq (by rw [t4]; exact ebt) ebt'
      rw [y, by1, (fr_RI f4 qbt (by decide) (fun _ => rfl)).1]
      exact tb t bt x1 et ebt ex1 i (by rw [← l1]; exact hi)) e12 ei
    rcases F2 with ⟨_, d2, _⟩ | ⟨_, _, d2⟩
    · exact absurd d2 d1
    · rw [c2', k2, d2]
theorem pr_rulesE {n m F : Nat} {L : Nat × Nat} {h : Hp} (hF : 2000000 ≤ F) (I : SI n m L h) : St (fun h => sX11_rules F h n) (fun h => sX15_rules F h m) h (SI n m L) := by
  obtain ⟨a, b, h1, h2, e1, e2, I2⟩ := pr_rules hF I
  have y : a = b := rl_eq (a := (a, h1)) (b := (b, h2)) (by omega) I e1 e2
  exact ⟨a, h1, h2, e1, by rw [y]; exact e2, I2⟩
