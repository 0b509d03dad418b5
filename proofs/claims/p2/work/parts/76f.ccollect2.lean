/-! the moves that are collected are of the law -/
def LwX (ρ : Nat → Nat) (c : Cm) (h : Hp) : Prop := ∀ L, ρ L = 2 → cw c L = 2102 → (hI h L 4).toInt < (hI h L 3).toInt ∧ (hI h L 6).toInt < (hI h L 3).toInt ∧ ∀ bm bc, hR h L 17 = some bm → hR h L 18 = some bc → BcX bm bc (hI h L 3).toInt h
def WyA (ρ : Nat → Nat) (c : Cm) (h : Hp) : Prop := ∀ wy L, ρ wy = 11 → ρ L = 2 → cw c L = 2102 → WyX wy (hI h L 2).toInt (hI h L 3).toInt h
theorem c6k {k w i : Nat} (h6 : k ≠ 6) : fS [(6, 8), (6, 9)] [] k w i = false := by
  have q : ((6 : Nat) == k) = false := beq_eq_false_iff_ne.mpr (fun z => h6 z.symm)
  unfold fS mS
  simp [List.any, q]
theorem collect_q {ρ : Nat → Nat} {c : Cm} {F : Nat} {w_x1 w_x2 : Nat} (hF : 700000 ≤ F) (hA : pmA c [(47, 999), (6, 4), (6, 5), (6, 6), (6, 7), (6, 8), (6, 9)]) (hi_1503 : pmO c 1503 [(34, 999), (35, 999), (36, 999), (37, 999), (38, 999), (4, 5), (4, 6), (4, 7), (4, 8), (4, 9), (4, 10)]) {h : Hp} {x0 : Nat} {x1 : Nat} {x2 : Nat} {x3 : Int32} (o_x1 : cw c x1 = w_x1) (o_x2 : cw c x2 = w_x2) (nw_x1_1503 : ¬ w_x1 = 1503) (T : TH ρ c h) (r_x0 : ρ x0 = 6) (r_x1 : ρ x1 = 4) (r_x2 : ρ x2 = 47) (i_x3 : Rg (1) (4096) (x3)) (lw : (LwR ρ c h)) (rt : (RyP ρ c x1 h)) (lx : LwX ρ c h) (wx : WyA ρ c h) (px : PoX ρ c x1 h) : Sat (sX5_collect F h x0 x1 x2 x3) (ZQ (ZI ρ c 0 4096) (fun o => ∀ L, ρ L = 2 → cw c L = 2102 → LQ x2 (hI h L 2).toInt (hI h L 3).toInt o)) := by
  obtain ⟨L0, eL0, rL0⟩ := thR T r_x0 (i := 0) (k2 := 2) rfl (by decide)
  have wL0 : cw c L0 = 2102 := kid_w T r_x0 (i := 0) (w := 2102) rfl (by decide) eL0
  obtain ⟨n, en⟩ : ∃ n : Int, n = (hI h L0 2).toInt := ⟨_, rfl⟩
  obtain ⟨m, em⟩ : ∃ m : Int, m = (hI h L0 3).toInt := ⟨_, rfl⟩
  unfold sX5_collect sX5_begin
  refine s_imp (Q := ZQ (ZI ρ (nst (nst c 3) 4) 0 4096) (LQ x2 n m)) ?_ (fun o ho => ⟨⟨th_un (th_un ho.1.1), ho.1.2⟩, fun L rL wL => by
    have q : L = L0 := T.1.2.2.2.2.2.2.2.2 L L0 (by rw [rL, rL0]) (Or.inr ⟨Or.inr rL, by rw [wL, wL0]⟩)
    rw [q, ← en, ← em]
    exact ho.2⟩)
  refine s_cl ?_
  refine s_hq (th_wR T r_x0 (k := 6) (i := 4) (j := 3) (k2 := 4) rfl (by decide) rfl (by decide) r_x1 rfl nid_3 (by decide) (by decide) rfl rfl (fun z => absurd rfl z) (pm_a hA rfl)) (fun h1 T1 e1 => ?_)
  refine s_hq (th_wR T1 r_x0 (k := 6) (i := 5) (j := 4) (k2 := 47) rfl (by decide) rfl (by decide) r_x2 rfl nid_4 (by decide) (by decide) rfl rfl (fun z => absurd rfl z) (pm_a hA rfl)) (fun h2 T2 e2 => ?_)
  refine s_hq (th_wI T2 r_x0 (k := 6) (i := 6) (lo := 0) (hi := 4096) rfl (rg_m (rg_b rfl : Rg 0 0 (0 : Int32)) (by decide)) (by decide) (by decide) (pm_a hA rfl)) (fun h3 T3 e3 => ?_)
  refine s_hq (th_wI T3 r_x0 (k := 6) (i := 7) (lo := 0) (hi := 1) rfl (rg_m (rg_b rfl : Rg 0 0 (0 : Int32)) (by decide)) (by decide) (by decide) (pm_a hA rfl)) (fun h4 T4 e4 => ?_)
  refine s_hq (th_wJ T4 r_x0 (by decide) (pm_a hA rfl)) (fun h5 T5 e5 => ?_)
  have m3 : (nst (nst c 3) 4).2.1 3 = true := nst_o nst_s
  have m4 : (nst (nst c 3) 4).2.1 4 = true := nst_s
  have E4 : hR h5 x0 4 = some x1 := by
    rw [e5, e4, e3, e2]
    show hR (wR h1 x0 5 (some x2)) x0 4 = some x1
    rw [r_R, if_neg (fun q => absurd q.2 (by decide)), e1, r_R, if_pos ⟨rfl, rfl⟩]
  have ne : ∀ {a k : Nat}, ρ a = k → k ≠ 6 → (∀ i, hI h5 a i = hI h a i) ∧ (∀ i, hJ h5 a i = hJ h a i) := fun {a k} ha hk => by
    have q : ∀ {P : Prop}, ¬ (a = x0 ∧ P) := fun z => hk (by rw [← ha, z.1, r_x0])
    refine ⟨fun i => ?_, fun i => ?_⟩
    · rw [e5]
      show hI h4 _ i = _
      rw [e4, r_I, if_neg q, e3, r_I, if_neg q, e2, e1]
      rfl
    · rw [e5, r_J, if_neg q, e4, e3, e2, e1]
      rfl
  have R1 : hR h5 x1 2 = hR h x1 2 := by
    rw [e5, e4, e3, e2]
    show hR (wR h1 x0 5 (some x2)) x1 2 = _
    rw [r_R, if_neg (fun q => absurd q.2 (by decide)), e1, r_R, if_neg (fun q => absurd q.2 (by decide))]
  have lw5 : LwR ρ (nst (nst c 3) 4) h5 := fun L rL wL hc => by
    rw [(ne rL (by decide)).1, (ne rL (by decide)).1, (ne rL (by decide)).1] at hc
    exact lw L rL wL hc
  obtain ⟨L, eL, rL⟩ := thR T5 r_x0 (i := 0) (k2 := 2) rfl (by decide)
  have hA' : pmA (nst (nst c 3) 4) [(47, 999), (6, 4), (6, 5), (6, 6), (6, 7), (6, 8), (6, 9)] := hA
  have rest : ∀ {t0 : Int32}, Rg 0 1 t0 → Sat (sX5_begin_54 F h5 x0 t0 x0) (fun o => Sat (cl (hR o x0 4) fun r_2 => cl (sX5_earlyEnd o x0 r_2) fun o_3 => br (o_3.1 = 0) (cl (hR o_3.2 x0 4) fun r_5 => cl (hR o_3.2 r_5 1) fun r_6 => cl (hR o_3.2 x0 4) fun r_7 => gd (inB (hI o_3.2 r_7 5) (hN o_3.2 r_6)) <| nm (hJ o_3.2 r_6 (hI o_3.2 r_7 5).toNatClampNeg) fun v_9 => sX5_collect_39 F F o_3.2 x0 x3 v_9 (0 : Int32)) (some ((0 : Int32), o_3.2))) (ZQ (ZI ρ (nst (nst c 3) 4) 0 4096) (LQ x2 n m))) := fun it => by
    refine s_imp (zX5_begin_54 (c := cat (nst (nst c 3) 4) (fS [(6, 8), (6, 9)] []) h5) hF m3 fs_a (th_in _ T5) r_x0 it r_x0) (fun o ho => ?_)
    have To : TH ρ (nst (nst c 3) 4) o := th_out T5 (fs_sub (pmA_s hA' rfl) fs_n) ho
    have fo : Fr ρ (cat (nst (nst c 3) 4) (fS [(6, 8), (6, 9)] []) h5) h5 o := fr_u T5 ho.2.2
    have Eo : hR o x0 4 = some x1 := by rw [(fr_RI fo r_x0 (by decide) (fun _ => rfl)).2.2]; exact E4
    refine s_ref Eo ?_
    refine s_dI0 (zX5_earlyEnd hF To r_x0 r_x1) (fun o3 _ e3' _ => ?_)
    obtain ⟨a3, g3⟩ := o3
    replace e3' : g3 = o := e3'
    subst e3'
    refine s_br (fun _ => ?_) (fun _ => s_some ⟨⟨To, rg_m (rg_b rfl : Rg 0 0 (0 : Int32)) (by decide)⟩, fun i hi => absurd hi (by show ¬ (i : Int) < 0; omega)⟩)
    obtain ⟨of, ef, rf⟩ := thR To r_x1 (i := 1) (k2 := 35) rfl (by decide)
    have isd := (thI To r_x1 (k := 4) (i := 5) rfl : Rg 0 1 (hI g3 x1 5))
    refine s_ref Eo (s_ref ef (s_ref Eo ?_))
    refine s_gd (by rw [thN To rf (k := 35) (n := 2) rfl (by decide)]; exact rg_inB isd (by decide)) ?_
    refine s_q (fun v9 e9 => ?_)
    have z0 : (0 : Int32).toInt = 0 := rfl
    -- what the collector works with
    have kR : ∀ {a k : Nat} (i : Nat), ρ a = k → k ≠ 0 → k ≠ 6 → hR g3 a i = hR h a i := fun {a k} i ra h0 h6 => by
      have q : ∀ {P : Prop}, ¬ (a = x0 ∧ P) := fun z => h6 (by rw [← ra, z.1, r_x0])
      rw [(fr_RI fo ra h0 (fun _ => c6k h6)).2.2, e5, e4, e3, e2]
      show hR (wR h1 x0 5 (some x2)) a i = _
      rw [r_R, if_neg q, e1, r_R, if_neg q]
    have kI : ∀ {a k : Nat} (i : Nat), ρ a = k → k ≠ 0 → k ≠ 6 → hI g3 a i = hI h a i := fun {a k} i ra h0 h6 => by
      rw [(fr_RI fo ra h0 (fun _ => c6k h6)).1]
      exact (ne ra h6).1 i
    have E5 : hR g3 x0 5 = some x2 := by
      rw [(fr_RI fo r_x0 (by decide) (fun _ => rfl)).2.2, e5, e4, e3, e2]
      show hR (wR h1 x0 5 (some x2)) x0 5 = some x2
      rw [r_R, if_pos ⟨rfl, rfl⟩]
    obtain ⟨Lg, eLg, rLg⟩ := thR To r_x0 (i := 0) (k2 := 2) rfl (by decide)
    have wLg : cw c Lg = 2102 := kid_w To r_x0 (i := 0) (w := 2102) rfl (by decide) eLg
    have qL : Lg = L0 := T.1.2.2.2.2.2.2.2.2 Lg L0 (by rw [rLg, rL0]) (Or.inr ⟨Or.inr rLg, by rw [wLg, wL0]⟩)
    subst qL
    obtain ⟨wy, ewy, rwy⟩ := thR To r_x0 (i := 1) (k2 := 11) rfl (by decide)
    obtain ⟨sh, esh, rsh⟩ := thR To r_x0 (i := 3) (k2 := 4) rfl (by decide)
    have wsh : cw c sh = 1503 := kid_w To r_x0 (i := 3) (w := 1503) rfl (by decide) esh
    obtain ⟨a0, ea0, ra0⟩ := thR To rwy (i := 0) (k2 := 50) rfl (by decide)
    obtain ⟨a1, ea1, ra1⟩ := thR To rwy (i := 1) (k2 := 51) rfl (by decide)
    obtain ⟨on, eon, ron⟩ := thR To r_x1 (i := 0) (k2 := 34) rfl (by decide)
    obtain ⟨bm, ebm, rbm⟩ := thR To rLg (i := 17) (k2 := 30) rfl (by decide)
    obtain ⟨bc, ebc, rbc⟩ := thR To rLg (i := 18) (k2 := 31) rfl (by decide)
    have im := thI To rLg (k := 2) (i := 3) (lo := 0) (hi := 12) rfl
    have inn := thI To rLg (k := 2) (i := 2) (lo := 0) (hi := 64) rfl
    have iL : ∀ i, hI g3 Lg i = hI h Lg i := fun i => kI i rLg (by decide) (by decide)
    obtain ⟨x4, x6, xb⟩ := lx Lg rLg wLg
    have OX : OnX n m on g3 := fun s hs z => by
      rw [kI s ron (by decide) (by decide)] at z ⊢
      rw [en, em]
      exact px Lg on s rLg wLg (by rw [← kR 0 r_x1 (by decide) (by decide)]; exact eon) hs z
    have Xb := xb bm bc (by rw [← kR 17 rLg (by decide) (by decide)]; exact ebm) (by rw [← kR 18 rLg (by decide) (by decide)]; exact ebc)
    have W := wx wy Lg rwy rLg wLg a0 a1 (by rw [← kR 0 rwy (by decide) (by decide)]; exact ea0) (by rw [← kR 1 rwy (by decide) (by decide)]; exact ea1)
    rw [← en, ← em] at W
    rw [← em] at x4 x6 Xb
    have CC : CS ρ (nst (nst c 3) 4) x0 Lg wy x1 x2 a0 a1 on bm bc sh n m g3 := by
      refine ⟨⟨⟨eLg, ewy, Eo, E5, ea0, ea1, eon, ebm, ebc⟩, ⟨r_x0, rLg, rwy, r_x1, r_x2, ra0, ra1, ron, ⟨by rw [rbm]; decide, by rw [rbm]; decide⟩, ⟨by rw [rbc]; decide, by rw [rbc]; decide⟩⟩, wy_e (kI 8 rwy (by decide) (by decide)) (fun i => kI i ra0 (by decide) (by decide)) (fun i => kI i ra1 (by decide) (by decide)) W, OX, fun kk hk => ?_, by rw [em, ← iL]; exact im.2, by rw [en, ← iL]; exact inn.2, by rw [iL, en], by rw [iL, em]⟩, ⟨⟨eLg, esh, Eo, E5, eon⟩, ⟨r_x0, rLg, r_x1, r_x2, ron⟩, ⟨rsh, fun q e => rr To (thR To rsh (i := 0) (k2 := 34) rfl (by decide)) e, fun q e => rr To (thR To rsh (i := 2) (k2 := 36) rfl (by decide)) e, fun q e => rr To (thR To rsh (i := 4) (k2 := 38) rfl (by decide)) e⟩, fun z => nw_x1_1503 (o_x1.symm.trans (by rw [z]; exact wsh)), OX, isd, thI To rLg (k := 2) (i := 6) rfl, by rw [iL]; exact x6, by rw [em, ← iL]; exact im.2⟩, by rw [iL]; exact x4, rbm, rbc, fun z => nw_x1_1503 (o_x1.symm.trans z), wLg⟩
      rw [kI kk rbc (by decide) (by decide)]
      refine ⟨(Xb kk hk).1, fun i hi => ?_⟩
      rw [kI _ rbm (by decide) (by decide)]
      exact (Xb kk hk).2 i hi
    have X0 : LsX x0 x2 n m g3 := by
      have z : (hI g3 x0 6).toInt = 0 := by
        rw [(fr_RI fo r_x0 (by decide) (fun _ => rfl)).1, e5]
        show (hI h4 x0 6).toInt = 0
        rw [e4, r_I, if_neg (fun z => absurd z.2 (by decide)), e3, r_I, if_pos ⟨rfl, rfl⟩]
        rfl
      exact ⟨by rw [z]; exact Int.le_refl 0, fun i hi => by omega⟩
    refine cx_39 hF m3 m4 (pmA_s hA' rfl) hi_1503 i_x3 F To (lw_fr T5 fo (fun _ => rfl) (fun _ => rfl) (fun _ => rfl) lw5) ?_ CC X0 (rg_m (rg_b rfl : Rg 0 0 (0 : Int32)) (by decide)) (by rw [z0]; omega)
    intro b eb
    rw [Eo] at eb
    have hb := Option.some.inj eb
    subst hb
    refine ⟨fun z => nw_x1_1503 (o_x1.symm.trans z), fun on s eo hs hbt => ?_, fun ra era i hi n L' rL' wL' => ?_⟩
    · rw [e9] at hbt
      have := th_ps To r_x1 eo ef hs (show (hI g3 x1 5).toNatClampNeg < 2 by have := rg_clamp (n := 1) isd (by decide); omega) hbt
      exact ⟨this.1, this.2.2⟩
    · rw [(fr_RI fo r_x1 (by decide) (fun _ => rfl)).2.2, R1] at era
      have rra : ρ ra = 36 := rr T (thR T r_x1 (i := 2) (k2 := 36) rfl (by decide)) era
      rw [(fr_RI fo rra (by decide) (fun _ => rfl)).1, (ne rra (by decide)).1] at n
      rw [(fr_RI fo rL' (by decide) (fun _ => rfl)).1, (ne rL' (by decide)).1]
      exact rt ra era i hi n L' rL' wL'
  refine s_ref eL ?_
  unfold sX5_begin_49
  refine s_br (fun _ => rest (rg_m (rg_b rfl : Rg 1 1 (1 : Int32)) (by decide))) (fun _ => ?_)
  refine s_ref eL ?_
  refine s_dI0 (zX1_has hF T5 rL (rg_m (rg_b rfl : Rg 12 12 (12 : Int32)) (by decide))) (fun o9 _ e9 _ => ?_)
  obtain ⟨a9, g9⟩ := o9
  replace e9 : g9 = h5 := e9
  subst e9
  refine s_br (fun _ => rest (rg_m (rg_b rfl : Rg 1 1 (1 : Int32)) (by decide))) (fun _ => rest (rg_m (rg_b rfl : Rg 0 0 (0 : Int32)) (by decide)))
