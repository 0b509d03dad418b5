/-! from the SET that is asked for to the answer, side by side -/
section
variable {ρ : Nat → Nat} {c : Cm} {F x ks st pw L bm bc m rm re rb rk rs ro R Bc Bm : Nat} {hq g hc hr hc' hr' : Hp} {u b : Int32 × Hp} {x1 key : Int32}
theorem lbk_k (K : LBk x L bm bc m R Bc Bm hc hr) (cR : ∀ a i, hR hc' a i = hR hc a i) (cI : ∀ a i, a = L ∨ a = bm ∨ a = bc → hI hc' a i = hI hc a i) (rR : ∀ a i, hR hr' a i = hR hr a i) (rI : ∀ a i, a = R ∨ a = Bc ∨ a = Bm → hI hr' a i = hI hr a i) : LBk x L bm bc m R Bc Bm hc' hr' := by
  obtain ⟨⟨a1, a2, a3⟩, ⟨b1, b2, b3⟩, k1, k2, k3⟩ := K
  have c1 : ∀ i, hI hc' L i = hI hc L i := fun i => cI L i (Or.inl rfl)
  have c2 : ∀ i, hI hc' bm i = hI hc bm i := fun i => cI bm i (Or.inr (Or.inl rfl))
  have c3 : ∀ i, hI hc' bc i = hI hc bc i := fun i => cI bc i (Or.inr (Or.inr rfl))
  have r1 : ∀ i, hI hr' R i = hI hr R i := fun i => rI R i (Or.inl rfl)
  have r2 : ∀ i, hI hr' Bc i = hI hr Bc i := fun i => rI Bc i (Or.inr (Or.inl rfl))
  have r3 : ∀ i, hI hr' Bm i = hI hr Bm i := fun i => rI Bm i (Or.inr (Or.inr rfl))
  refine ⟨⟨by rw [cR]; exact a1, by rw [cR]; exact a2, by rw [cR]; exact a3⟩, ⟨by rw [rR]; exact b1, by rw [rR]; exact b2, by rw [rR]; exact b3⟩, by rw [c1, r1]; exact k1, fun q hq z => ?_, fun i hi => ?_⟩
  · rw [c1] at z
    rw [r3]; exact k2 q hq z
  · obtain ⟨d1, d2, d3⟩ := k3 i hi
    rw [c3, r3]
    refine ⟨d1, d2, fun j hj => ?_⟩
    rw [c2, r2]
    exact d3 j hj
theorem core_p (hF : 2000000 ≤ F) (hA : pmA c soC) (e4 : hR hq x 4 = some ks) (e5 : hR hq x 5 = some st) (e6 : hR hq x 6 = some pw) (n1 : ¬ x = ks) (n2 : ¬ x = st) (n3 : ¬ pw = x) (n4 : ¬ pw = ks) (n5 : ¬ L = pw) (n6 : ¬ L = x) (n7 : ¬ bm = pw) (n8 : ¬ bc = pw) (N : LBn ρ x ks L bm bc R Bc Bm) (sq : Rg 0 64 (hI hq L 2)) (pws : ∀ i, Rg 0 1073741824 (hI hq pw i)) (bcs : ∀ i, (hI hq bc i).toInt ≤ 6) (e14 : hI hq x 14 = key) (eu : sX0_gatherSets F hq x = some u) (T : TH ρ c g) (SR : SlR ρ m rm re rb rk rs ro g) (W : RW m x1.toInt g) (B : RowB ro key x1.toNatClampNeg g) (i1 : Rg 2 5 x1) (sqo : SqOk m g) (hz : hI g R 15 = 0) (sqs : (hI hq L 2).toInt = (hI g m 13).toInt) (K : LBk x L bm bc m R Bc Bm hq g) (eb : (nm (wI g m 49 (0 : Int32)) fun h_3 => nm (wJ h_3 m 59 (0 : Int64)) fun h_4 => nm (wI h_4 m 50 (0 : Int32)) fun h_5 => sX15_solve_203 F F h_5 m x1 (0 : Int32)) = some b) : (u.1 = 0 ∧ b.1 = (-104 : Int32)) ∨ (u.1 = 1 ∧ b.1 = hI u.2 x 9) := by
  have hF7 : 700000 ≤ F := by omega
  have z0 : (0 : Int32).toInt = 0 := rfl
  have hAs : pmA c seL := pmA_s hA rfl
  obtain ⟨⟨a0, a17, a18⟩, ⟨b4, b13, b14⟩, _⟩ := id K
  obtain ⟨⟨nLk, nbk, nck, nbx, ncx⟩, qR, qBc, qBm⟩ := id N
  obtain ⟨⟨r0, qm, qe, qb, qk, qs, qo⟩, ⟨e46, e47, e48, e55, e56, e57⟩⟩ := id SR
  have ne : ∀ {a b i j : Nat}, ρ a = i → ρ b = j → ¬ i = j → ¬ a = b := fun ha hb nn z => nn (by rw [← ha, z]; exact hb)
  -- the class: powers
  obtain ⟨g0, gR, gJ, gI, gP, gQ, eu⟩ := gat_e sq.1 sq.2 a0 e6 n5 eu
  replace eu := nm_s eu; obtain ⟨h2, w2, eu⟩ := eu
  replace eu := nm_s eu; obtain ⟨h3, w3, eu⟩ := eu
  replace eu := cl_s eu; obtain ⟨oc, eoc, e62⟩ := eu
  have hR3 : ∀ a i, hR h3 a i = hR hq a i := fun a i => by rw [w3, w2]; exact gR a i
  have hI3 : ∀ a i, ¬ a = x → ¬ a = pw → hI h3 a i = hI hq a i := fun a i na np => by
    rw [w3]
    show hI h2 a i = _
    rw [w2, rI_a na]; exact gI a i np
  have hx3 : ∀ i, ¬ i = 9 → hI h3 x i = hI hq x i := fun i ni => by
    rw [w3]
    show hI h2 x i = _
    rw [w2, rI_o ni]; exact gI x i (fun z => n3 z.symm)
  have hp3 : ∀ i, hI h3 pw i = hI g0 pw i := fun i => by
    rw [w3]
    show hI h2 pw i = _
    rw [w2, rI_a n3]
  have x9 : hI h3 x 9 = 0 := by
    rw [w3]
    show hI h2 x 9 = _
    rw [w2, rI_s]
  have j18 : hJ h3 x 18 = 0 := by rw [w3, r_J, if_pos ⟨rfl, rfl⟩]
  have k14 : hI h3 x 14 = key := by rw [hx3 14 (by decide)]; exact e14
  rw [k14] at eoc
  -- the reference: slots
  replace eb := nm_s eb; obtain ⟨q3, v3, eb⟩ := eb
  replace eb := nm_s eb; obtain ⟨q4, v4, eb⟩ := eb
  replace eb := nm_s eb; obtain ⟨q5, v5, eb⟩ := eb
  have T3 : TH ρ c q3 := by rw [v3]; exact th_wI T r0 (k := 16) (i := 49) (lo := 0) (hi := 4096) rfl (rg_m (rg_b rfl : Rg 0 0 (0 : Int32)) (by decide)) (by decide) (by decide) (pm_a hA rfl)
  have T4 : TH ρ c q4 := by rw [v4]; exact th_wJ T3 (k := 16) (i := 59) r0 (by decide) (pm_a hA rfl)
  have T5 : TH ρ c q5 := by rw [v5]; exact th_wI T4 r0 (k := 16) (i := 50) (lo := 0) (hi := 4096) rfl (rg_m (rg_b rfl : Rg 0 0 (0 : Int32)) (by decide)) (by decide) (by decide) (pm_a hA rfl)
  have R5 : ∀ a i, hR q5 a i = hR g a i := fun a i => by rw [v5, v4, v3]; rfl
  obtain ⟨g5, Tg, Rg5, Jg5, Ig5, Zg5, eb⟩ := r203_e (h := q5) (g := q5) (pmA_s hA rfl) (by rw [R5]; exact e56) qs F T5 (fun _ _ => rfl) (fun _ _ => rfl) (fun _ _ _ => rfl) (by decide) (fun j hj => by rw [z0] at hj; omega) eb
  have RR : ∀ a i, hR g5 a i = hR g a i := fun a i => (Rg5 a i).trans (R5 a i)
  have II : ∀ a i, ¬ a = m → ¬ a = rs → hI g5 a i = hI g a i := fun a i na ns => by
    rw [Ig5 a i ns, v5, rI_a na, v4]
    show hI q3 a i = _
    rw [v3, rI_a na]
  have nms : ¬ m = rs := ne r0 qs (by decide)
  have Im : ∀ i, ¬ i = 49 → ¬ i = 50 → hI g5 m i = hI g m i := fun i n49 n50 => by
    rw [Ig5 m i nms, v5, rI_o n50, v4]
    show hI q3 m i = _
    rw [v3, rI_o n49]
  have y49 : hI g5 m 49 = 0 := by
    rw [Ig5 m 49 nms, v5, rI_o (by decide), v4]
    show hI q3 m 49 = _
    rw [v3, rI_s]
  have y59 : hJ g5 m 59 = 0 := by
    rw [Jg5, v5]
    show hJ q4 m 59 = _
    rw [v4, r_J, if_pos ⟨rfl, rfl⟩]
  have SR5 : SlR ρ m rm re rb rk rs ro g5 := slr_r SR RR
  have W5 : RW m x1.toInt g5 := fun ro' er i hi => by
    rw [RR] at er
    have y : ro' = ro := r_eq e57 er
    rw [y, II ro i (ne qo r0 (by decide)) (ne qo qs (by decide))]
    exact W ro e57 i hi
  obtain ⟨o2, eq2, alt⟩ := ref_e hF hA Tg SR5 (by rw [RR]; exact b4) (by rw [RR]; exact b13) (by rw [RR]; exact b14) i1 (by rw [y49]; rfl) (by rw [y59]; rfl) W5 Zg5 (by unfold SqOk; rw [Im 13 (by decide) (by decide), Im 11 (by decide) (by decide), Im 12 (by decide) (by decide)]; exact sqo) (by rw [II R 15 (ne qR r0 (by decide)) (ne qR qs (by decide))]; exact hz) eb
  have P5 := se_init (x0 := m) (h := g5) (by rw [y49]; rfl) (by rw [y59]; rfl) (fun r er j hj => by rw [r_eq (by rw [RR]; exact e56) er, Zg5 j hj, z0]; exact Int.le_refl _)
  -- both, with no SET yet
  have E3 : CE x ks pw h3 := ⟨⟨by rw [hR3]; exact e4, by rw [hR3]; exact e6⟩, n1, n3, n4⟩
  have J3 : JS x ks pw m rm re rk rs h3 g5 := by
    refine ⟨⟨by rw [x9, y49], by rw [x9]; exact ⟨by decide, by decide⟩⟩, ⟨by rw [j18, y59], by rw [j18]; decide, by rw [j18]; decide⟩, fun k hk => ?_, fun j k _ hk => ?_, fun i hi => ?_, ?_⟩
    · rw [x9, z0] at hk; omega
    · rw [x9, z0] at hk; omega
    · rw [hp3, gP i hi, sqs, Im 13 (by decide) (by decide)]
    · rw [x9, j18]; rfl
  have C3 : CM x ks pw L bc h3 := by
    refine ⟨⟨by rw [hR3]; exact e4, by rw [hR3]; exact e6, by rw [hR3]; exact a0, by rw [hR3]; exact a18⟩, ⟨n1, n3, n4, ncx, nck⟩, fun i => ?_, fun i => by rw [hI3 bc i ncx n8]; exact bcs i⟩
    rw [hp3]
    by_cases l : i ≤ 5
    · have pb := pow_sq (s := (hI hq L 2).toInt) sq.1 sq.2 i l
      exact ⟨by rw [gP i l]; exact pb.1, by rw [gP i l]; exact pb.2⟩
    · rw [gQ i (by omega)]; exact pws i
  have K3 : LBk x L bm bc m R Bc Bm h3 g5 := lbk_k K hR3 (fun a i ha => by
    rcases ha with z | z | z
    · rw [z]; exact hI3 L i n6 n5
    · rw [z]; exact hI3 bm i nbx n7
    · rw [z]; exact hI3 bc i ncx n8) RR (fun a i ha => by
    rcases ha with z | z | z
    · rw [z]; exact II R i (ne qR r0 (by decide)) (ne qR qs (by decide))
    · rw [z]; exact II Bc i (ne qBc r0 (by decide)) (ne qBc qs (by decide))
    · rw [z]; exact II Bm i (ne qBm r0 (by decide)) (ne qBm qs (by decide)))
  obtain ⟨fr, Kk, Ck⟩ := B
  obtain ⟨⟨T2, P2⟩, CF, alt2⟩ := add_p hF7 hAs SR5 Tg P5 E3 J3 (rg_m i1 (by decide)) W5 Kk (fun v => (Ck v).trans (cn_eq _ (fun i _ => (II ro i (ne qo r0 (by decide)) (ne qo qs (by decide))).symm))) eoc eq2
  rcases alt2 with ⟨zz, big⟩ | ⟨zz, RF2, J2⟩
  · rcases alt with ⟨_, eb⟩ | ⟨nz, _⟩
    · exact Or.inl ⟨big_62 big F e62, eb⟩
    · exact absurd zz nz
  rcases alt with ⟨z, _⟩ | ⟨_, o3, eq3, alt⟩
  · rw [zz] at z; exact absurd z (by decide)
  unfold sX15_addAll at eq3
  have S := sets_p hF7 hAs N F F (x1 := (0 : Int32)) ⟨slr_r SR5 RF2.1, T2, P2, ce_f E3 CF, J2, lb_f N r0 CF RF2 K3⟩ (cm_f CF C3) (by decide) (by rw [z0]; exact J2.1.2.1) e62 eq3
  rcases S with ⟨s1, s2⟩ | ⟨s1, hc2, CF2, J4, e104⟩
  · rcases alt with ⟨_, eb⟩ | ⟨nz, _⟩
    · exact Or.inl ⟨s2, eb⟩
    · exact absurd s1 nz
  rcases alt with ⟨z, _⟩ | ⟨_, eb⟩
  · rw [s1] at z; exact absurd z (by decide)
  have hRc : ∀ a i, hR hc2 a i = hR hq a i := fun a i => ((CF2.1 a i).trans (CF.1 a i)).trans (hR3 a i)
  obtain ⟨u1, u9⟩ := low_104 n1 n2 (by rw [hRc]; exact e4) (by rw [hRc]; exact e5) J4.2.1.2.2 e104
  exact Or.inr ⟨u1, by rw [eb, u9]; exact J4.1.1.symm⟩
end
