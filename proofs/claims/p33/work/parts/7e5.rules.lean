/-! rules: answers alike, laws alike -/
theorem pr_rulesE {n m F : Nat} {L : Nat × Nat} {h : Hp} (hF : 2000000 ≤ F) (I : SI n m L h) : St (fun h => sX11_rules F h n) (fun h => sX15_rules F h m) h (SI n m L) := by
  have hF7 : 700000 ≤ F := by omega
  obtain ⟨ρ, c, T, r0, rm, I1, P, J, tp, tb, lr, dl, mf⟩ := I
  obtain ⟨B, M, back⟩ := j_c (b := false) (l := true) T r0 rm P J
  obtain ⟨a, ea, ρ1, c1, X, T1, I2, M2, tq⟩ := cw_rules hF7 hpC_cl hlC_cl (th_in (clSf false true) T) r0 I1 M
  have r1 : ρ1 n = 12 := by rw [(X.1 n (by rw [r0]; decide)).1]; exact r0
  obtain ⟨P2, J2, t2, m1⟩ := back a.2 ρ1 c1 X T1 r1 M2
  obtain ⟨B3, M3, back3⟩ := j_r (b := false) (l := true) (d := (0, 0)) T1 r1 m1 I2 J2
  obtain ⟨b, eb, ρ4, c4, X4, T4', P4, M4, t4⟩ := rw_rules hF7 hpR_rf hlR_rf (th_in (rfSf false true) T1) m1 P2 M3
  obtain ⟨I5, J5, t5, r5, m5⟩ := back3 b.2 ρ4 c4 X4 T4' M4
  have f := exm_f T X T1
  have f2 := ex_f T1 X4 T4'
  have up : ∀ {a k : Nat}, ρ a = k → ¬ k = 0 → ρ1 a = k := fun {a k} q n => by rw [(X.1 a (by rw [q]; exact n)).1]; exact q
  have key : a.1 = b.1 ∧ LwA n m b.2 ∧ DL m b.2 ∧ MFq m b.2 := by
    obtain ⟨rd, erd, qrd⟩ := thR T r0 (i := 4) (k2 := 3) rfl (by decide)
    obtain ⟨t, et, qt⟩ := thR T r0 (i := 0) (k2 := 10) rfl (by decide)
    obtain ⟨L3, e3, q3⟩ := thR T r0 (i := 3) (k2 := 2) rfl (by decide)
    obtain ⟨L2, e2, q2⟩ := thR T r0 (i := 2) (k2 := 2) rfl (by decide)
    obtain ⟨x1, ex1, qx1⟩ := thR T rm (i := 0) (k2 := 82) rfl (by decide)
    have wL : cw c L2 = 2102 := kid_w T r0 (i := 2) (w := 2102) rfl (by decide) e2
    have ex2 : hR a.2 m 0 = some x1 := by rw [(fr_RI f rm (by decide) (fun _ => rfl)).2.2]; exact ex1
    obtain ⟨lw, elw, qlw⟩ := thR T1 m1 (i := 5) (k2 := 15) rfl (by decide)
    obtain ⟨l4, el4, ql4⟩ := thR T1 m1 (i := 4) (k2 := 15) rfl (by decide)
    have l1 : hI a.2 m 1 = hI h m 1 := (fr_RI f rm (by decide) (fun _ => rfl)).1
    have i2 : Rg 0 1200 (hI a.2 m 1) := thI T1 m1 rfl
    have by1 : ∀ i, hI a.2 x1 i = hI h x1 i := fun i => (fr_RI f qx1 (by decide) (fun _ => rfl)).1
    have el4' : hR h m 4 = some l4 := by rw [← (fr_RI f rm (by decide) (fun _ => rfl)).2.2]; exact el4
    have elw' : hR h m 5 = some lw := by rw [← (fr_RI f rm (by decide) (fun _ => rfl)).2.2]; exact elw
    have ql4' : ρ l4 = 15 := rr T (thR T rm (i := 4) (k2 := 15) rfl (by decide)) el4'
    have qlw' : ρ lw = 15 := rr T (thR T rm (i := 5) (k2 := 15) rfl (by decide)) elw'
    obtain ⟨o', ei, R⟩ := rru_q hF7 (hpR_rf (b := false) (l := true)) hlR_rf (th_in (rfSf false true) T1) m1 ex2 el4 elw eb
    obtain ⟨o4, e4, C⟩ := cru_q (c := cat c (fS RUC []) h) hF7 fs_a (th_in _ T) r0 I1 erd et e3 e2 ea
    have tl := tp t et
    have F1 := rd_p T qrd qt q3 T1 (fun a n => (X.1 a n).1) m1 ex2 elw (by rw [l1, ← tl]) i2 (fun bt ebt i hi => by rw [by1]; exact tb t bt x1 et ebt ex1 i (by rw [← l1]; exact hi)) e4 ei
    -- references of the class stay
    have n12 : hR b.2 n 2 = some L2 := by rw [(fr_RI f2 r1 (by decide) (fun _ => rfl)).2.2, (fr_RI f r0 (by decide) (fun _ => rfl)).2.2]; exact e2
    -- the reference's reading, by its equation
    let S : Nat → Prop := fun x => x = m ∨ x = lw ∨ ∃ i, ((3 ≤ i ∧ i ≤ 9) ∨ i = 13 ∨ i = 14) ∧ hR a.2 lw i = some x
    have CS : CR S m (wI a.2 m 1 (0 : Int32)) := ⟨Or.inl rfl, fun l el => by
      have y : l = lw := r_eq elw el
      rw [y]
      exact ⟨Or.inr (Or.inl rfl), fun i r hi er => Or.inr (Or.inr ⟨i, hi, er⟩)⟩⟩
    have ks := ks_X15_isRules CS kz_0 ei
    have kR : ∀ x i, hR o'.2 x i = hR a.2 x i := fun x i => ks.1 x i
    -- the class's law behind the reference's call
    have C2 : ∀ x, lwK (ρ x) = true → ∀ i, hI b.2 x i = hI a.2 x i ∧ hJ b.2 x i = hJ a.2 x i ∧ hR b.2 x i = hR a.2 x i := fun x z i => by
      have n0 : ρ x ≠ 0 := fun q => by rw [q] at z; exact absurd z (by decide)
      have e1 : ρ1 x = ρ x := up rfl n0
      exact f2.1 x i (by rw [e1]; exact n0) (show rfSf false true (ρ1 x) (cw c1 x) i = false by rw [e1]; exact rf_lw z)
    have lwL : lwK (ρ L2) = true := by rw [q2]; rfl
    have lwA : ∀ {g : Hp} {cc : Cm} {j r : Nat}, TH ρ cc g → 14 ≤ j → j ≤ 18 → hR g L2 j = some r → lwK (ρ r) = true := fun {g cc j r} Tg h1 h2 er => by
      obtain ⟨k1, k2, k3⟩ := rf_2 j h1 h2
      have qr : ρ r = j + 13 := rr Tg (thR Tg q2 (i := j) (k2 := j + 13) k1 (by omega)) er
      rw [qr]
      unfold lwK
      rw [Bool.or_eq_true, Bool.and_eq_true, decide_eq_true_iff, decide_eq_true_iff]
      exact Or.inr ⟨by omega, by omega⟩
    rcases C with ⟨c1', c2', f4, lk⟩ | ⟨c1', T4, f4, o12, e12, c2', T12, eL12, lk⟩
    · -- a text that is wrong
      rcases F1 with ⟨_, d1, d2⟩ | ⟨d1, _, _⟩
      rotate_left
      · exact absurd c1' d1
      rcases R with ⟨_, k2, ob, mfb⟩ | ⟨k1, _⟩
      rotate_left
      · exact absurd d1 k1
      have CK : ∀ x, lwK (ρ x) = true → cw c x = 2102 → ∀ i, hI b.2 x i = hI h x i ∧ hJ b.2 x i = hJ h x i ∧ hR b.2 x i = hR h x i := fun x z w i => by
        have n0 : ρ x ≠ 0 := fun q => by rw [q] at z; exact absurd z (by decide)
        have y := f4.1 x i n0 (show rdS 2103 (ρ x) (cw c x) i = false by
          rw [w]
          rcases lw_c z with z | z | z | z | z | z | z | z <;> (rw [z]; rfl))
        have y1 := lk x z i
        have y2 := C2 x z i
        exact ⟨(y2.1.trans y1.1).trans y.1, (y2.2.1.trans y1.2.1).trans y.2.1, (y2.2.2.trans y1.2.2).trans y.2.2⟩
      -- the law in force of the reference
      have ns : ∀ x, rwK (ρ x) = true → ¬ S x → ∀ i, hI b.2 x i = hI h x i ∧ hJ b.2 x i = hJ h x i := fun x z ns i => by
        have n0 : ρ x ≠ 0 := fun q => by rw [q] at z; exact absurd z (by decide)
        have nm : ¬ x = m := fun q => ns (Or.inl q)
        have y := f.1 x i n0 (show clSf false true (ρ x) (cw c x) i = false from cl_rw z)
        rw [ob]
        refine ⟨(ks.2.1 x i ns).trans ((rI_a nm).trans y.1), (ks.2.2 x i ns).trans ?_⟩
        exact y.2.1
      have n4 : ¬ l4 = lw := (dl l4 lw el4' elw').1
      have sl4 : ¬ S l4 := fun z => by
        rcases z with z | z | ⟨i, hi, z⟩
        · rw [z, rm] at ql4'; exact absurd ql4' (by decide)
        · exact n4 z
        · have := rr T1 (thR T1 qlw (i := i) (k2 := rfK 15 i) rfl (by have := rf_15 i hi; omega)) z
          rw [ql4] at this
          have := rf_15 i hi
          omega
      have sr : ∀ {j r : Nat}, ((3 ≤ j ∧ j ≤ 9) ∨ j = 13 ∨ j = 14) → hR h l4 j = some r → rwK (ρ r) = true ∧ ¬ S r := fun {j r} hj er => by
        have k := rf_15 j hj
        have qr : ρ r = rfK 15 j := rr T (thR T ql4' (i := j) (k2 := rfK 15 j) rfl (by omega)) er
        refine ⟨?_, fun z => ?_⟩
        · rw [qr]
          unfold rwK
          rw [Bool.or_eq_true, Bool.and_eq_true, decide_eq_true_iff, decide_eq_true_iff]
          exact Or.inr ⟨by omega, by omega⟩
        · rcases z with z | z | ⟨i, hi, z⟩
          · rw [z, rm] at qr; omega
          · rw [z, qlw'] at qr; omega
          · have q1 := rr T1 (thR T1 qlw (i := i) (k2 := rfK 15 i) rfl (by have := rf_15 i hi; omega)) z
            have q1' : rfK 15 j = rfK 15 i := by rw [← q1, up qr (by omega)]
            have ij : j = i := rf_inj hj hi q1'
            rw [← ij] at z
            have z' : hR h lw j = some r := by rw [← (fr_RI f qlw' (by decide) (fun _ => rfl)).2.2]; exact z
            exact (dl l4 lw el4' elw').2 j r er z'
      have rb : ∀ x i, ρ x = 15 → hR b.2 x i = hR h x i := fun x i q => by
        rw [ob, kR, (fr_RI f q (by decide) (fun _ => rfl)).2.2]
      have mb : ∀ i, hR b.2 m i = hR h m i := fun i => by
        rw [ob, kR, (fr_RI f rm (by decide) (fun _ => rfl)).2.2]
      refine ⟨by rw [c2', k2, d2], fun L' lw' g1 g2 => ?_, fun x y g1 g2 => ?_, fun x g1 => by
        have y2 : x = l4 := r_eq (by rw [mb]; exact el4') g1
        rw [y2, mfb.1, mfb.2, (fr_RI f rm (by decide) (fun _ => rfl)).1, (fr_RI f rm (by decide) (fun _ => rfl)).1, (ns l4 (by rw [ql4']; rfl) sl4 0).1, (ns l4 (by rw [ql4']; rfl) sl4 1).1]
        exact mf l4 el4'⟩
      · have y1 : L' = L2 := r_eq n12 g1
        have y2 : lw' = l4 := r_eq (by rw [mb]; exact el4') g2
        rw [y1, y2]
        refine lawr_k (lr L2 l4 e2 el4') (fun i => (CK L2 lwL wL i).1) (CK L2 lwL wL 13).2.1 (fun i => (CK L2 lwL wL i).2.2) (fun j r h1 h2 er i => ?_) (fun i => (ns l4 (by rw [ql4']; rfl) sl4 i).1) (ns l4 (by rw [ql4']; rfl) sl4 21).2 (fun i => rb l4 i ql4') (fun j r hj er i => ?_)
        · exact (CK r (lwA T h1 h2 er) (th_ih T q2 rfl er wL) i).1
        · exact (ns r (sr hj er).1 (sr hj er).2 i).1
      · rw [mb] at g1 g2
        have y1 : x = l4 := r_eq el4' g1
        have y2 : y = lw := r_eq elw' g2
        rw [y1, y2]
        refine ⟨n4, fun i r er => ?_⟩
        rw [rb l4 i ql4'] at er
        rw [rb lw i qlw']
        exact (dl l4 lw el4' elw').2 i r er
    · -- a text that is taken
      rcases F1 with ⟨d1, _, _⟩ | ⟨_, d1, _⟩
      · exact absurd d1 c1'
      rcases R with ⟨k1, _⟩ | ⟨_, k2, b4, b5, rk, mfb⟩
      · exact absurd k1 d1
      obtain ⟨bt, ebt, qbt⟩ := thR T qt (i := 0) (k2 := 49) rfl (by decide)
      have t4 : hR o4.2 t 0 = hR h t 0 := (fr_RI f4 qt (by decide) (fun _ => rfl)).2.2
      have n4 : hI o4.2 t 1 = hI h t 1 := (fr_RI f4 qt (by decide) (fun _ => rfl)).1
      have F2 := rd_p T4 qrd qt q2 T1 (fun a n => (X.1 a n).1) m1 ex2 elw (by rw [n4, l1, ← tl]) i2 (fun bt' ebt' i hi => by
        have y : bt' = bt := r_eq (by rw [t4]; exact ebt) ebt'
        rw [y, by1, (fr_RI f4 qbt (by decide) (fun _ => rfl)).1]
        exact tb t bt x1 et ebt ex1 i (by rw [← l1]; exact hi)) e12 ei
      rcases F2 with ⟨_, d2, _⟩ | ⟨_, _, R2⟩
      · exact absurd d2 d1
      have CK : ∀ x, lwK (ρ x) = true → ∀ i, hI b.2 x i = hI o12.2 x i ∧ hJ b.2 x i = hJ o12.2 x i ∧ hR b.2 x i = hR o12.2 x i := fun x z i => by
        have y1 := lk x z i
        have y2 := C2 x z i
        exact ⟨y2.1.trans y1.1, y2.2.1.trans y1.2.1, y2.2.2.trans y1.2.2⟩
      have rb : ∀ x i, ρ x = 15 → hR b.2 x i = hR h x i := fun x i q => by
        rw [(rk x (by rw [up q (by decide)]; rfl) i).2.2, kR, (fr_RI f q (by decide) (fun _ => rfl)).2.2]
      have wl : rwK (ρ1 lw) = true := by rw [qlw]; rfl
      refine ⟨?_, fun L' lw' g1 g2 => ?_, fun x y g1 g2 => ?_, fun x g1 => by
        rw [r_eq b4 g1]; exact mfb⟩
      · obtain ⟨Z, ⟨⟨z2, _⟩, ⟨z15, _⟩, _⟩, Q, _⟩ := R2
        have := Q (3, 2) (by decide)
        rw [z2, z15] at this
        rw [c2', k2]; exact this
      · have y1 : L' = L2 := r_eq n12 g1
        have y2 : lw' = lw := r_eq b4 g2
        rw [y1, y2]
        refine lawr_k R2 (fun i => (CK L2 lwL i).1) (CK L2 lwL 13).2.1 (fun i => (CK L2 lwL i).2.2) (fun j r h1 h2 er i => (CK r (lwA T12 h1 h2 er) i).1) (fun i => (rk lw wl i).1) (rk lw wl 21).2.1 (fun i => (rk lw wl i).2.2) (fun j r hj er i => ?_)
        have k := rf_15 j hj
        rw [kR] at er
        have qr : ρ1 r = rfK 15 j := rr T1 (thR T1 qlw (i := j) (k2 := rfK 15 j) rfl (by omega)) er
        refine (rk r ?_ i).1
        rw [qr]
        unfold rwK
        rw [Bool.or_eq_true, Bool.and_eq_true, decide_eq_true_iff, decide_eq_true_iff]
        exact Or.inr ⟨by omega, by omega⟩
      · have y1 : x = lw := r_eq b4 g1
        have y2 : y = l4 := r_eq b5 g2
        rw [y1, y2]
        obtain ⟨d1', d2'⟩ := dl l4 lw el4' elw'
        refine ⟨fun z => d1' z.symm, fun i r er er' => ?_⟩
        rw [rb lw i qlw'] at er
        rw [rb l4 i ql4'] at er'
        exact d2' i r er' er
  refine ⟨a.1, a.2, b.2, ea, by rw [key.1]; exact eb, ρ4, c4, T4', r5, m5, I5, P4, J5, fun t et => ?_, fun _ _ _ _ _ _ i hi => ?_, key.2⟩
  · obtain ⟨t0, et0, _⟩ := thR T1 r1 (i := 0) (k2 := 10) rfl (by decide)
    obtain ⟨b1, b2⟩ := t5 t0 et0
    have y : t = t0 := r_eq b1 et
    subst y
    have t4' : hI b.2 m 1 = 0 := t4
    rw [b2, t4']
    exact tq t et0
  · have t4' : hI b.2 m 1 = 0 := t4
    have z0 : (0 : Int32).toInt = 0 := rfl
    rw [t4', z0] at hi
    omega
