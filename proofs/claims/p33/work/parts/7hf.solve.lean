/-! solve answers alike -/
theorem s71_1 {F n : Nat} {g : Hp} {y : Int32} {a : Int32 × Hp} (e : sX11_solve_71 F g n y = some a) : a.1 = y := by
  unfold sX11_solve_71 sX11_solve_78 at e
  replace e := cl_s e; obtain ⟨_, _, e⟩ := e
  replace e := cl_s e; obtain ⟨_, _, e⟩ := e
  rw [← Option.some.inj e]
section
variable {ρ ρ1 : Nat → Nat} {c c1 : Cm} {F n m L lw t bt tp : Nat} {h h1 : Hp} {a b : Int32 × Hp}
theorem sol_p (hF : 2000000 ≤ F) (T : TH ρ c h) (r0 : ρ n = 12) (lwr : LwR ρ c h) (en : EnA n h) (fm : FmY ρ c h) (T1 : TH ρ1 c1 h1) (m1 : ρ1 m = 16) (sqo : SqOk m h1) (eL : hR h n 2 = some L) (em : hR h1 m 4 = some lw) (LR : LawR L lw h h1) (sqs : (hI h L 2).toInt = (hI h1 m 13).toInt) (et : hR h n 0 = some t) (ebt : hR h t 0 = some bt) (etp : hR h1 m 0 = some tp) (tl : hI h t 1 = hI h1 m 1) (tb : ∀ i : Nat, (i : Int) < (hI h1 m 1).toInt → (hI h1 tp i).toInt = sg (hI h bt i).toInt) (ea : sX11_solve F h n = some a) (eb : sX15_solve F h1 m = some b) : a.1 = b.1 := by
  have hF7 : 700000 ≤ F := by omega
  have z0 : (0 : Int32).toInt = 0 := rfl
  have ne : ∀ {r : Nat → Nat} {a b i j : Nat}, r a = i → r b = j → ¬ i = j → ¬ a = b := fun ha hb nn z => nn (by rw [← ha, z]; exact hb)
  -- the class's things
  obtain ⟨x, ex, qx⟩ := thR T r0 (i := 10) (k2 := 1) rfl (by decide)
  have qL : ρ L = 2 := rr T (thR T r0 (i := 2) (k2 := 2) rfl (by decide)) eL
  have qt : ρ t = 10 := rr T (thR T r0 (i := 0) (k2 := 10) rfl (by decide)) et
  have qbt : ρ bt = 49 := rr T (thR T qt (i := 0) (k2 := 49) rfl (by decide)) ebt
  have wL : cw c L = 2102 := kid_w T r0 (i := 2) (w := 2102) rfl (by decide) eL
  obtain ⟨L', eL', qL'⟩ := thR T qx (i := 0) (k2 := 2) rfl (by decide)
  have wL' : cw c L' = 2102 := kid_w T qx (i := 0) (w := 2102) rfl (by decide) eL'
  have hLL : L' = L := law_1 T qL wL qL' wL'
  rw [hLL] at eL'
  obtain ⟨wy, ewy, qwy⟩ := thR T qx (i := 1) (k2 := 11) rfl (by decide)
  obtain ⟨ks, e4, qk⟩ := thR T qx (i := 4) (k2 := 20) rfl (by decide)
  obtain ⟨st, e5, qs⟩ := thR T qx (i := 5) (k2 := 21) rfl (by decide)
  obtain ⟨pw, e6, qp⟩ := thR T qx (i := 6) (k2 := 22) rfl (by decide)
  -- the reference's things
  obtain ⟨rm, e46, qm⟩ := thR T1 m1 (i := 46) (k2 := 99) rfl (by decide)
  obtain ⟨re, e47, qe⟩ := thR T1 m1 (i := 47) (k2 := 100) rfl (by decide)
  obtain ⟨rb, e48, qb⟩ := thR T1 m1 (i := 48) (k2 := 101) rfl (by decide)
  obtain ⟨rk, e55, qrk⟩ := thR T1 m1 (i := 55) (k2 := 106) rfl (by decide)
  obtain ⟨rs, e56, qrs⟩ := thR T1 m1 (i := 56) (k2 := 107) rfl (by decide)
  obtain ⟨ro, e57, qo⟩ := thR T1 m1 (i := 57) (k2 := 108) rfl (by decide)
  have qlw : ρ1 lw = 15 := rr T1 (thR T1 m1 (i := 4) (k2 := 15) rfl (by decide)) em
  have qtp : ρ1 tp = 82 := rr T1 (thR T1 m1 (i := 0) (k2 := 82) rfl (by decide)) etp
  obtain ⟨Z, A, Q⟩ := LR
  obtain ⟨⟨z2, a27, a28, a29, a30, a31⟩, ⟨z15, b3, b4, b5, b6, b7, b8, b9, b13, b14⟩, zz⟩ := id A
  have q80 : ρ1 (Z 80) = 80 := rr T1 (thR T1 qlw (i := 13) (k2 := 80) rfl (by decide)) b13
  have q81 : ρ1 (Z 81) = 81 := rr T1 (thR T1 qlw (i := 14) (k2 := 81) rfl (by decide)) b14
  have K : ∀ g, (∀ a i, hR g a i = hR h1 a i) → (∀ a i, hJ g a i = hJ h1 a i) → (∀ a i, ¬ a = m → ¬ a = ro → hI g a i = hI h1 a i) → ZA Z L lw h g ∧ LwQ Z h g ∧ hR g m 4 = some lw := fun g kR kJ kI => by
    refine ⟨⟨A.1, ⟨z15, by rw [kR]; exact b3, by rw [kR]; exact b4, by rw [kR]; exact b5, by rw [kR]; exact b6, by rw [kR]; exact b7, by rw [kR]; exact b8, by rw [kR]; exact b9, by rw [kR]; exact b13, by rw [kR]; exact b14⟩, zz⟩, lwq_k Q (fun _ => rfl) rfl (fun _ _ _ => rfl) (fun i => ?_) (kJ _ _) (fun k hk i => ?_), by rw [kR]; exact em⟩
    · rw [z15]; exact kI lw i (ne qlw m1 (by decide)) (ne qlw qo (by decide))
    · have rd : ∀ {j k2 r : Nat}, rfK 15 j = k2 → ¬ k2 = 0 → ¬ k2 = 16 → ¬ k2 = 108 → hR h1 lw j = some r → hI g r i = hI h1 r i := fun {j k2 r} e1 e2 e3 e4 er => by
        have q : ρ1 r = k2 := rr T1 (thR T1 qlw (i := j) (k2 := k2) e1 e2) er
        exact kI r i (ne q m1 e3) (ne q qo e4)
      simp only [List.mem_cons, List.not_mem_nil, or_false] at hk
      rcases hk with rfl | rfl | rfl | rfl | rfl | rfl | rfl | rfl | rfl
      · exact rd (j := 3) (k2 := 73) rfl (by decide) (by decide) (by decide) b3
      · exact rd (j := 4) (k2 := 74) rfl (by decide) (by decide) (by decide) b4
      · exact rd (j := 5) (k2 := 75) rfl (by decide) (by decide) (by decide) b5
      · exact rd (j := 6) (k2 := 76) rfl (by decide) (by decide) (by decide) b6
      · exact rd (j := 7) (k2 := 77) rfl (by decide) (by decide) (by decide) b7
      · exact rd (j := 8) (k2 := 78) rfl (by decide) (by decide) (by decide) b8
      · exact rd (j := 9) (k2 := 79) rfl (by decide) (by decide) (by decide) b9
      · exact rd (j := 13) (k2 := 80) rfl (by decide) (by decide) (by decide) b13
      · exact rd (j := 14) (k2 := 81) rfl (by decide) (by decide) (by decide) b14
  -- both begin
  unfold sX11_solve at ea
  replace ea := cl_s ea; obtain ⟨l1, p, ea⟩ := ea
  rw [r_eq eL p] at ea
  replace ea := cl_s ea; obtain ⟨o2, eo2, ea⟩ := ea
  unfold sX15_solve at eb
  replace eb := nm_s eb; obtain ⟨v1, wv1, eb⟩ := eb
  replace eb := nm_s eb; obtain ⟨h2, w2, eb⟩ := eb
  have R2 : ∀ a i, hR h2 a i = hR h1 a i := fun a i => by rw [w2]; rfl
  have J2 : ∀ a i, hJ h2 a i = hJ h1 a i := fun a i => by rw [w2]; rfl
  have I2 : ∀ a i, ¬ a = m → hI h2 a i = hI h1 a i := fun a i na => by rw [w2, rI_a na]
  have T2 : TH ρ1 (cat c1 (fS soA soL) h1) h2 := by rw [w2]; exact th_wI (th_in (fS soA soL) T1) m1 (k := 16) (i := 1) (lo := 0) (hi := 1200) rfl (rg_m (rg_b rfl : Rg 0 0 (0 : Int32)) (by decide)) (by decide) (by decide) (pm_a (fs_a (A := soA) (L := soL)) rfl)
  obtain ⟨A2, Q2, em2⟩ := K h2 R2 J2 (fun a i na _ => I2 a i na)
  have nlm : ¬ lw = m := ne qlw m1 (by decide)
  replace eb := cl_s eb; obtain ⟨l3, p, eb⟩ := eb
  rw [r_eq em2 p] at eb
  obtain ⟨wp, pl⟩ := plain_p A2 Q2 (by rw [I2 lw 20 nlm]; exact (thI T1 qlw (k := 15) (i := 20) (lo := 0) (hi := 9) rfl).1) eo2
  rw [wp] at ea
  unfold sX11_solve_10 at ea
  unfold sX15_solve_47 at eb
  replace ea := br_s ea
  rcases ea with ⟨zp, ea⟩ | ⟨zp, ea⟩
  · -- not plain
    rw [s71_1 ea]
    have np : ¬ (hI h2 lw 15 = 0 ∧ hI h2 lw 18 = 0 ∧ ¬ (0 : Int32) < hI h2 lw 20) := fun w => (pl.mpr w) zp
    replace eb := br_s eb
    rcases eb with ⟨c15, eb⟩ | ⟨_, eb⟩
    rotate_left
    · rw [← Option.some.inj eb]
    replace eb := cl_s eb; obtain ⟨l5, p, eb⟩ := eb
    rw [r_eq em2 p] at eb
    replace eb := br_s eb
    rcases eb with ⟨c18, eb⟩ | ⟨_, eb⟩
    rotate_left
    · rw [← Option.some.inj eb]
    replace eb := cl_s eb; obtain ⟨l7, p, eb⟩ := eb
    rw [r_eq em2 p] at eb
    replace eb := br_s eb
    rcases eb with ⟨_, eb⟩ | ⟨c20, _⟩
    · rw [← Option.some.inj eb]
    · exact absurd ⟨c15, c18, c20⟩ np
  obtain ⟨p15, p18, p20⟩ := pl.mp zp
  replace eb := br_s eb
  rcases eb with ⟨_, eb⟩ | ⟨w, _⟩
  rotate_left
  · exact absurd p15 w
  replace eb := cl_s eb; obtain ⟨l5, p, eb⟩ := eb
  rw [r_eq em2 p] at eb
  replace eb := br_s eb
  rcases eb with ⟨_, eb⟩ | ⟨w, _⟩
  rotate_left
  · exact absurd p18 w
  replace eb := cl_s eb; obtain ⟨l7, p, eb⟩ := eb
  rw [r_eq em2 p] at eb
  replace eb := br_s eb
  rcases eb with ⟨w, _⟩ | ⟨_, eb⟩
  · exact absurd w p20
  -- catches
  replace ea := cl_s ea; obtain ⟨l2, p, ea⟩ := ea
  rw [r_eq eL p] at ea
  replace ea := cl_s ea; obtain ⟨o3, eo3, ea⟩ := ea
  replace eb := cl_s eb; obtain ⟨o9, eo9, eb⟩ := eb
  obtain ⟨c1', c2', c3'⟩ := cat_p A2 Q2 em2 eo3 eo9
  rw [c1', c3'] at ea
  rw [c2'] at eb
  unfold sX11_solve_20 at ea
  unfold sX15_solve_44 sX15_solve_47 at eb
  replace ea := br_s ea
  replace eb := br_s eb
  rcases ea with ⟨zc, ea⟩ | ⟨zc, ea⟩
  rotate_left
  · rcases eb with ⟨w, _⟩ | ⟨_, eb⟩
    · exact absurd w zc
    · rw [s71_1 ea, ← Option.some.inj eb]
  rcases eb with ⟨_, eb⟩ | ⟨w, _⟩
  rotate_left
  · exact absurd zc w
  -- the SET is read
  replace ea := cl_s ea; obtain ⟨x', p, ea⟩ := ea
  rw [r_eq ex p] at ea
  replace ea := cl_s ea; obtain ⟨t', p, ea⟩ := ea
  rw [r_eq et p] at ea
  replace ea := cl_s ea; obtain ⟨o4, eo4, ea⟩ := ea
  have iv : Rg 0 1200 v1 := by rw [wv1]; exact thI T1 m1 (k := 16) (i := 1) rfl
  obtain ⟨T4, ky, K4⟩ := sat_e (readC_q (c := cat c (fS [(1, 14)] []) h) hF7 fs_a (th_in _ T) qx qt (rg_m (thI T qt (k := 10) (i := 1) rfl) (by decide))) eo4
  have f4 := fr_u T T4.2.2
  have eo4' : sX0_read_7 F F h x t (0 : Int32) (0 : Int32) (0 : Int32) = some o4 := eo4
  have B0 : RowB ro (0 : Int32) (0 : Int32).toNatClampNeg h2 := (⟨fun _ => 0, ⟨Nat.zero_le _, by unfold K5 pad; rfl, fun i hi => absurd hi (Nat.not_lt_zero i), fun i j _ hj => absurd hj (Nat.not_lt_zero j)⟩, fun _ => rfl⟩ : RowB ro (0 : Int32) 0 h2)
  have rp := read_p (Z := Z) (L := L) (lw := lw) (pmA_s (fs_a (c := c1) (A := soA) (L := soL) (h := h1)) rfl) m1 (by rw [R2]; exact e57) qo (by rw [R2]; exact etp) qtp (fun g J => K g (fun a i => by rw [J.1]; exact R2 a i) (fun a i => by rw [J.2.2.1]; exact J2 a i) (fun a i na no => by rw [J.2.2.2 a i no]; exact I2 a i na)) eL' ebt (ne qt qx (by decide)) (by rw [wv1]; exact tl) iv (fun i => thI T qbt (k := 49) (i := i) rfl) (fun i hi => by rw [I2 tp i (ne qtp m1 (by decide))]; exact tb i (by rw [← wv1]; exact hi)) F F T2 jo_0 ⟨by decide, by decide⟩ (by rw [z0]; exact iv.1) (fun _ _ i hi => absurd hi (by rw [z0]; omega)) B0 eo4' eb
  unfold sX11_solve_34 sX11_solve_70 at ea
  replace ea := br_s ea
  rcases rp with ⟨nf, ef⟩ | ⟨yf, key, g, eo, i25, Tg, Jg, Wg, Bg, eg⟩
  · rcases ea with ⟨w, _⟩ | ⟨_, ea⟩
    · exact absurd w nf
    · rw [s71_1 ea, ef]
  rcases ea with ⟨_, ea⟩ | ⟨w, _⟩
  rotate_left
  · exact absurd yf w
  have ex4 : hR o4.2 n 10 = some x := by rw [kfR 10 K4 r0]; exact ex
  replace ea := cl_s ea; obtain ⟨x2, p, ea⟩ := ea
  rw [r_eq ex4 p] at ea
  replace ea := cl_s ea; obtain ⟨o6, eo6, ea⟩ := ea
  have en4 : EnA n o4.2 := ena_k T r0 K4 f4.2 (y1 := fun j h1 _ _ _ => by
    show mS [(1, 14)] 1 j = false
    unfold mS
    simp [List.any]
    exact fun z => h1 z.symm) (P := en)
  have fm4 : FmY ρ c o4.2 := fmy_k T K4 (P := fm)
  obtain ⟨p1, p2, p3⟩ := en4 x ex4
  have eL4 : hR o4.2 x 0 = some L := by rw [kfR 0 K4 qx]; exact eL'
  have ewy4 : hR o4.2 x 1 = some wy := by rw [kfR 1 K4 qx]; exact ewy
  obtain ⟨u, eu, runA⟩ := sat_e (runE_q (c := cat (cat c (fS [(1, 14)] []) h) (fS RUL [(1003, BOL)]) o4.2) hF7 fs_a (fs_o (.head _)) (th_in _ T4) qx eL4 ewy4 (ky yf) p1 p2 (lw_k K4 (P := lwr)) (fm4 wy L qwy qL wL)) eo6
  obtain ⟨ρ5, c5, X5, T5, i5, _, _, _, K5'⟩ := sat_e (run_q (c := cat (cat c (fS [(1, 14)] []) h) (fS RUL [(1003, BOL)]) o4.2) hF7 fs_a (fs_o (.head _)) (th_in _ T4) qx eL4 ewy4 (ky yf) p1 p2 (lw_k K4 (P := lwr)) (fm4 wy L qwy qL wL)) eo6
  obtain ⟨u', eu', runB⟩ := run_1 eo6
  have yu : u' = u := Option.some.inj (eu'.symm.trans eu)
  rw [yu] at runB
  have ex6 : hR o6.2 n 10 = some x := by rw [kfR 10 K5' r0]; exact ex4
  -- from here on
  have nLx : ¬ L = x := ne qL qx (by decide)
  have q30 : ρ (Z 30) = 30 := rr T (thR T qL (i := 17) (k2 := 30) rfl (by decide)) a30
  have q31 : ρ (Z 31) = 31 := rr T (thR T qL (i := 18) (k2 := 31) rfl (by decide)) a31
  have IQ : ∀ a i, ¬ a = x → hI (wI o4.2 x 10 (0 : Int32)) a i = hI h a i := fun a i na => by rw [rI_a na, eo, rI_a na]
  have RQ : ∀ a i, hR (wI o4.2 x 10 (0 : Int32)) a i = hR h a i := fun a i => by
    show hR o4.2 a i = _
    rw [eo]; rfl
  have RG : ∀ a i, hR g a i = hR h1 a i := fun a i => (Jg.1 a i).trans (R2 a i)
  have IG : ∀ a i, ¬ a = m → ¬ a = ro → hI g a i = hI h1 a i := fun a i na no => (Jg.2.2.2 a i no).trans (I2 a i na)
  have nmo : ¬ m = ro := ne m1 qo (by decide)
  have IM : ∀ i, ¬ i = 1 → hI g m i = hI h1 m i := fun i n1 => by rw [Jg.2.2.2 m i nmo, w2, rI_o n1]
  have IL : ∀ i, hI g lw i = hI h1 lw i := fun i => IG lw i nlm (ne qlw qo (by decide))
  have LB : LBk x L (Z 30) (Z 31) m lw (Z 80) (Z 81) (wI o4.2 x 10 (0 : Int32)) g := by
    have k4 : hI h L 4 = hI h1 lw 10 := by
      have := Q.1 (4, 10) (by decide)
      rw [z2, z15] at this
      exact this
    have t2 := Q.2.2.2.2.1
    have t7 := Q.2.2.2.2.2.2.2.2.2.2
    have iB : ∀ i, hI g (Z 81) i = hI h1 (Z 81) i := fun i => IG _ i (ne q81 m1 (by decide)) (ne q81 qo (by decide))
    have iC : ∀ i, hI g (Z 80) i = hI h1 (Z 80) i := fun i => IG _ i (ne q80 m1 (by decide)) (ne q80 qo (by decide))
    have jB : ∀ i, hI (wI o4.2 x 10 (0 : Int32)) (Z 31) i = hI h (Z 31) i := fun i => IQ _ i (ne q31 qx (by decide))
    have jC : ∀ i, hI (wI o4.2 x 10 (0 : Int32)) (Z 30) i = hI h (Z 30) i := fun i => IQ _ i (ne q30 qx (by decide))
    refine ⟨⟨by rw [RQ]; exact eL', by rw [RQ]; exact a30, by rw [RQ]; exact a31⟩, ⟨by rw [RG]; exact em, by rw [RG]; exact b13, by rw [RG]; exact b14⟩, by rw [IQ L 4 nLx, IL]; exact k4, fun q hq z => ?_, fun i hi => ?_⟩
    · rw [IQ L 4 nLx] at z
      rw [iB, ← (t2 q hq).1]
      exact t7 q hq (by rw [z2]; exact z)
    · rw [jB, iB]
      refine ⟨(t2 i hi).1, (t2 i hi).2.1, fun j hj => ?_⟩
      rw [jC, iC]
      exact (t2 i hi).2.2 j hj
  have SG : SlR ρ1 m rm re rb rk rs ro g := ⟨⟨m1, qm, qe, qb, qrk, qrs, qo⟩, ⟨by rw [RG]; exact e46, by rw [RG]; exact e47, by rw [RG]; exact e48, by rw [RG]; exact e55, by rw [RG]; exact e56, by rw [RG]; exact e57⟩⟩
  have cp := core_p (c := cat c1 (fS soA soL) h1) (hq := wI o4.2 x 10 (0 : Int32)) (key := key) hF (pmA_s (fs_a (c := c1) (A := soA) (L := soL) (h := h1)) rfl) (by rw [RQ]; exact e4) (by rw [RQ]; exact e5) (by rw [RQ]; exact e6) (ne qx qk (by decide)) (ne qx qs (by decide)) (ne qp qx (by decide)) (ne qp qk (by decide)) (ne qL qp (by decide)) nLx (ne q30 qp (by decide)) (ne q31 qp (by decide)) ⟨⟨ne qL qk (by decide), ne q30 qk (by decide), ne q31 qk (by decide), ne q30 qx (by decide), ne q31 qx (by decide)⟩, qlw, q80, q81⟩ (by rw [IQ L 2 nLx]; exact thI T qL (k := 2) (i := 2) (lo := 0) (hi := 64) rfl) (fun i => by rw [IQ pw i (ne qp qx (by decide))]; exact thI T qp (k := 22) (i := i) rfl) (fun i => by rw [IQ _ i (ne q31 qx (by decide))]; exact (thI T q31 (k := 31) (i := i) (lo := 0) (hi := 6) rfl).2) (by rw [rI_o (by decide), eo, rI_s]) eu Tg SG Wg Bg i25 (by unfold SqOk; rw [IM 13 (by decide), IM 11 (by decide), IM 12 (by decide)]; exact sqo) (by rw [IL, ← I2 lw 15 nlm]; exact p15) (by rw [IQ L 2 nLx, IM 13 (by decide)]; exact sqs) LB eg
  unfold sX11_solve_55 sX11_solve_70 at ea
  replace ea := br_s ea
  rcases cp with ⟨u0, eb⟩ | ⟨u1, eb⟩
  · rcases runB with ⟨_, o0⟩ | ⟨w, _⟩
    rotate_left
    · exact absurd u0 w
    rcases ea with ⟨_, ea⟩ | ⟨w, _⟩
    · rw [s71_1 ea, eb]
    · exact absurd o0 w
  · have un : ¬ u.1 = 0 := by rw [u1]; decide
    rcases runB with ⟨w, _⟩ | ⟨_, o1⟩
    · exact absurd w un
    rcases ea with ⟨w, _⟩ | ⟨_, ea⟩
    · rw [o1] at w; exact absurd w (by decide)
    replace ea := cl_s ea; obtain ⟨x3, p, ea⟩ := ea
    rw [r_eq ex6 p] at ea
    rcases runA with ⟨w, _⟩ | ⟨_, k9⟩
    · exact absurd w un
    rw [s71_1 ea, eb, k9]
end
