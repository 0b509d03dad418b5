/-! a state is begun: the whole of it -/
theorem sh6 {x : Int32} (i : Rg 0 599999 x) : Rg 0 9375 (x >>> ((6 : Int32) &&& 31)) := rg_shrk 6 (by decide) i (by decide)
section
variable {ρ : Nat → Nat} {c : Cm} {h : Hp} {x0 rm re rb rk R F : Nat} {x1 x2 : Int32} {a : Int}
theorem begin_q (hF : 700000 ≤ F) (hA : pmA c bgA) (hS : pmO c 2560 bS7) (hB : pmO c 2528 bL8) (hL : pmO c 2530 lL8) (T : TH ρ c h) (r0 : ρ x0 = 16) (sq : SqOk x0 h) (P : SE x0 h) (em : hR h x0 46 = some rm) (eb : hR h x0 53 = some rb) (ee : hR h x0 47 = some re) (ek : hR h x0 52 = some rk) (qk : ρ rk = 103) (eR : hR h x0 4 = some R) (hz : hI h R 15 = 0) (i1 : Rg 0 4095 x1) (ln : x1.toInt < (hI h x0 49).toInt) (a2 : 0 ≤ x2.toInt) (l2 : x2.toInt < 2 * (hI h x0 13).toInt ^ (hI h rm x1.toNatClampNeg).toNatClampNeg) (D : MBd x0 (hI h x0 49).toInt a h) (na : a ≤ 1500000) (G : MkG x0 rm rb re rk R h) : Sat (sX15_begin F h x0 x1 x2) (fun o => TH ρ c o ∧ MkG x0 rm rb re rk R o) := by
  have qm : ρ rm = 99 := rr T (thR T r0 (i := 46) (k2 := 99) rfl (by decide)) em
  have qe : ρ re = 100 := rr T (thR T r0 (i := 47) (k2 := 100) rfl (by decide)) ee
  have qb : ρ rb = 104 := rr T (thR T r0 (i := 53) (k2 := 104) rfl (by decide)) eb
  have qR : ρ R = 15 := rr T (thR T r0 (i := 4) (k2 := 15) rfl (by decide)) eR
  have c1 := clamp_i i1.1
  have im := thI T qm (k := 99) (i := x1.toNatClampNeg) (lo := 0) (hi := 5) rfl
  have mk : ∀ {o : Hp}, Kf ρ EBL h o → MkG x0 rm rb re rk R o := fun K => mkg_k K r0 qm qb qe qk qR rfl rfl (fun _ => rfl) (fun _ => rfl) (fun _ => rfl) (fun _ => rfl) rfl G
  unfold sX15_begin
  obtain ⟨rs, es, qs⟩ := thR T r0 (i := 48) (k2 := 101) rfl (by decide)
  have s3 := P.2.2.1 rm rs em es x1.toNatClampNeg (by omega)
  have s2 := P.2.1.2
  have is := thI T qs (k := 101) (i := x1.toNatClampNeg) (lo := 0) (hi := 600000) rfl
  have is0 := is.1
  refine s_ref es ?_
  refine s_gd (by rw [thN T qs (k := 101) (n := 4096) rfl (by decide)]; exact rg_inB i1 (by decide)) ?_
  refine s_q (fun v3 ev => ?_)
  have ev2 : v3.toInt = (hI h rs x1.toNatClampNeg).toInt + x2.toInt := by rw [ev, ta (by omega)]
  clear ev
  have i3 : Rg 0 599999 v3 := ⟨by omega, by omega⟩
  obtain ⟨rw', ew, qw⟩ := thR T r0 (i := 51) (k2 := 102) rfl (by decide)
  refine s_ref ew ?_
  refine s_gd (by rw [thN T qw (k := 102) (n := 600000) rfl (by decide)]; exact rg_inB i3 (by decide)) ?_
  refine s_hq (th_wI T qw (k := 102) (lo := -1000000) (hi := 3000000) rfl (rg_b rfl) (by decide) (by decide) (pm_a hA rfl)) (fun h6 T6 w6 => ?_)
  have K6 : Kf ρ EBL h h6 := kf_wI w6 qw
  obtain ⟨g, eg, rg⟩ := thR T6 r0 (i := 60) (k2 := 13) rfl (by decide)
  have wg : cw c g = 2560 := th_id T6 r0 eg rfl (by decide)
  obtain ⟨M, eM, rM⟩ := thR T6 rg (i := 0) (k2 := 62) rfl (by decide)
  have em6 : hR h6 x0 46 = some rm := by rw [kfR 46 K6 r0]; exact em
  have ee6 : hR h6 x0 47 = some re := by rw [kfR 47 K6 r0]; exact ee
  have pos6 : ∀ i, i < (hI h6 rm x1.toNatClampNeg).toNatClampNeg → 1 ≤ (hI h6 re (5 * x1.toNatClampNeg + i)).toInt := fun i hi => by
    rw [kfI _ K6 qm] at hi
    rw [kfI _ K6 qe]
    exact P.2.2.2.2.1 rm re em ee x1.toNatClampNeg (by omega) i hi
  refine s_cIfq (S := fS [] [(2560, bS7)]) T6 (fs_sub pmA_n (fs_c hS fs_n)) (s_weq (zX15_layState hF (fs_o (.head _)) (th_in _ T6) r0 i1 ⟨a2, by omega⟩)) (fun o7 T7 i7 f7 e7 => ?_)
  have K67 : Kf ρ EBL h6 o7.2 := kf_of f7 rfl
  have K7 : Kf ρ EBL h o7.2 := kf_t K6 K67
  refine s_br (fun _ => ?_) (fun nz => ?_)
  · unfold sX15_begin_38
    exact s_some ⟨T7, mk K7⟩
  obtain ⟨LR, LD, LC, LX⟩ := lay_q T6 r0 i1 a2 eg eM em6 ee6 pos6 e7 nz
  obtain ⟨pz, rz, sd⟩ := lay_b T6 r0 eg e7
  have eg7 : hR o7.2 x0 60 = some g := LR.1
  have eM7 : hR o7.2 g 0 = some M := LR.2.1
  have km7 : ∀ i, hI o7.2 rm i = hI h6 rm i := fun i => kfI i K67 qm
  have ke7 : ∀ i, hI o7.2 re i = hI h6 re i := fun i => kfI i K67 qe
  have k137 : hI o7.2 x0 13 = hI h6 x0 13 := kfI 13 K67 r0
  refine s_ref eg7 ?_
  refine s_cIfq (S := fS [(86, 999), (16, 23), (16, 24)] []) T7 (fs_sub (pmA_s hA rfl) fs_n) (s_weq2 (zX15_wrongOf hF fs_a wg (th_in _ T7) r0 rg)) (fun o10 T10 i10 f10 w10 => ?_)
  have Q10 : Kf ρ XSL o7.2 o10.2 := kf_of f10 rfl
  refine s_br (fun np => ?_) (fun _ => ?_)
  · have z10 : o10.1.toInt = 0 := by have := le_i np; have := i10.1; have z0 : (0 : Int32).toInt = 0 := rfl; omega
    have pe10 : PE g o10.2 := w10.1 z10
    have sq10 : SqOk x0 o10.2 := sq_fr T7 r0 f10 (fun _ => rfl) (fun _ => rfl) (fun _ => rfl) (sq_fr T6 r0 f7 (fun _ => rfl) (fun _ => rfl) (fun _ => rfl) (sq_fr T r0 (fr1I (c := c) (A := [(102, 999)]) qw rfl w6) (fun _ => rfl) (fun _ => rfl) (fun _ => rfl) sq))
    -- the moves, and what comes of them
    have b99 : ∀ {h9 : Hp}, TH ρ c h9 → Kf ρ XSL o10.2 h9 → PE g h9 → SqOk x0 h9 → Sat (sX15_begin_99 F h9 x0 x1 x2 v3) (fun o => TH ρ c o ∧ MkG x0 rm rb re rk R o) := by
      intro h9 T9 Q9 pe9 sq9
      have Q79 : Kf ρ XSL o7.2 h9 := kf_t Q10 Q9
      have K9 : Kf ρ EBL h h9 := kf_t K7 (kf_m Q79 rfl)
      unfold sX15_begin_99 sX15_begin_173
      have eg9 : hR h9 x0 60 = some g := by rw [kfR 60 Q79 r0]; exact eg7
      refine s_ref eg9 ?_
      obtain ⟨l, el, rl⟩ := thR T9 r0 (i := 30) (k2 := 14) rfl (by decide)
      have wl : cw c l = 2530 := th_id T9 r0 el rfl (by decide)
      refine s_ref el ?_
      have el7 : hR o7.2 x0 30 = some l := by rw [← kfR 30 Q79 r0]; exact el
      -- rows at the board that is laid
      obtain ⟨S, e25, rS⟩ := thR T7 r0 (i := 25) (k2 := 87) rfl (by decide)
      obtain ⟨Fa, e26, rFa⟩ := thR T7 r0 (i := 26) (k2 := 88) rfl (by decide)
      obtain ⟨Ct, e27, rCt⟩ := thR T7 r0 (i := 27) (k2 := 89) rfl (by decide)
      have eR7 : hR o7.2 x0 4 = some R := by rw [kfR 4 K7 r0]; exact eR
      obtain ⟨Fl, eFl, rFl⟩ := thR T7 qR (i := 5) (k2 := 75) rfl (by decide)
      obtain ⟨Ri, eRi, rRi⟩ := thR T7 qR (i := 8) (k2 := 78) rfl (by decide)
      obtain ⟨A, eA, rA⟩ := thR T7 qR (i := 6) (k2 := 76) rfl (by decide)
      obtain ⟨B, eB, rB⟩ := thR T7 qR (i := 7) (k2 := 77) rfl (by decide)
      obtain ⟨Fm, eFm, rFm⟩ := thR T7 qR (i := 9) (k2 := 79) rfl (by decide)
      obtain ⟨St, eSt, rSt⟩ := thR T7 qR (i := 4) (k2 := 74) rfl (by decide)
      obtain ⟨Ro, e22, rRo⟩ := thR T7 r0 (i := 22) (k2 := 86) rfl (by decide)
      obtain ⟨lf, ef, rf⟩ := thR T7 rl (i := 1) (k2 := 66) rfl (by decide)
      obtain ⟨lt, et, rt⟩ := thR T7 rl (i := 2) (k2 := 67) rfl (by decide)
      obtain ⟨lm, elm, rlm⟩ := thR T7 rl (i := 3) (k2 := 68) rfl (by decide)
      obtain ⟨lb, elb, rlb⟩ := thR T7 rl (i := 4) (k2 := 69) rfl (by decide)
      obtain ⟨lx, elx, rlx⟩ := thR T7 rl (i := 5) (k2 := 70) rfl (by decide)
      obtain ⟨lk, elk, rlk⟩ := thR T7 rl (i := 6) (k2 := 71) rfl (by decide)
      obtain ⟨lo, elo, rlo⟩ := thR T7 rl (i := 7) (k2 := 72) rfl (by decide)
      have LL : LkS ρ x0 g S Fa Ct M R Fl Ri o7.2 := ⟨⟨r0, rg, rS, rFa, rCt, rM, qR, rFl, rRi⟩, ⟨e25, e26, e27, eM7, eR7, eFl, eRi⟩, thI T7 r0 rfl, thI T7 r0 rfl, fun i => thI T7 rRi rfl, by rw [pz]; decide⟩
      have ZZ : LkT ρ x0 R A B Fm St o7.2 := ⟨⟨rA, rB, rFm, rSt⟩, ⟨eA, eB, eFm, eSt⟩, fun i => thI T7 rA rfl, fun i => thI T7 rB rfl⟩
      have QQ : LsR ρ l lf lt lm lb lx lk lo o7.2 := ⟨⟨rl, rf, rt, rlm, rlb, rlx, rlk, rlo⟩, ⟨ef, et, elm, elb, elx, elk, elo⟩⟩
      have tall : ∀ g2 o, Fq ρ h9 g2 → sX15_tryAll F g2 x0 g l = some o → LA (MvG o7.2 rm re R (hI o7.2 x0 13).toInt x1 x2) l lf lt o := fun g2 o fq e => by
        refine (tall_q LL ZZ QQ (by rw [kfI 15 K7 qR]; exact hz) rz (thI T7 r0 (k := 16) (i := 13) (lo := 9) (hi := 64) rfl).2 (fun s t s0 sl hs own t0 tl LQ => ?_) (fq_t (fq_kf Q79) fq) e).2
        refine st_mvg T7 LL ZZ e22 rRo LR.2.2.2.1 i1 rz pz sd (fun i hi => ?_) ?_ ?_ ?_ (thI T7 qm (k := 99) (lo := 0) (hi := 5) rfl) w10.2 np s t s0 sl hs own t0 tl LQ
        · rw [km7] at hi
          rw [ke7]
          exact pos6 i hi
        · rw [km7, k137]; exact LD
        · rw [km7, k137]; exact LC
        · rw [km7, k137]; exact LX
      refine s_cVfq (S := fS [(87, 999), (88, 999), (89, 999), (16, 23), (16, 24), (16, 29)] [(2528, bL8), (2530, lL8)]) T9 (fs_sub (pmA_s hA rfl) (fs_c hB (fs_c hL fs_n))) (legal_q (lf := lf) (lt := lt) hF fs_a (fs_o (.head _)) (fs_o (.tail _ (.head _))) wg (by decide) wl (th_in _ T9) r0 rg rl sq9 pe9 (by rw [kfR 1 Q79 rl]; exact ef) (by rw [kfR 2 Q79 rl]; exact et) tall) (fun o3 T3 f3 P3 => ?_)
      have K3 : Kf ρ EBL h o3 := kf_t K9 (kf_of f3 rfl)
      have eg3 : hR o3 x0 60 = some g := by rw [(fr_RI f3 r0 (by decide) (fun _ => rfl)).2.2]; exact eg9
      have el3 : hR o3 x0 30 = some l := by rw [(fr_RI f3 r0 (by decide) (fun _ => rfl)).2.2]; exact el
      refine s_ref eg3 (s_ref el3 ?_)
      refine s_cIf (S := fS [(16, 23), (16, 24), (16, 29)] []) T3 (fs_sub (pmA_s hA rfl) fs_n) (zX15_endedBy hF fs_a wg (th_in _ T3) r0 rg (thI T3 rl (k := 14) (i := 0) (lo := 0) (hi := 3000) rfl)) (fun o6 T6' i6 f6 => ?_)
      have K6' : Kf ρ EBL h o6.2 := kf_t K3 (kf_of f6 rfl)
      have P6 := la_fr T3 rl rf rt f6 (fun _ => rfl) (fun _ _ => rfl) (fun _ _ => rfl) P3
      have ew6 : hR o6.2 x0 51 = some rw' := by rw [kfR 51 K6' r0]; exact ew
      have gw : ∀ {g2 : Hp}, TH ρ c g2 → inB v3 (hN g2 rw') := fun Tg => by rw [thN Tg qw (k := 102) (n := 600000) rfl (by decide)]; exact rg_inB i3 (by decide)
      have fin : ∀ v : Int32, Rg (-1000000) 3000000 v → Sat (gd (inB v3 (hN o6.2 rw')) <| nm (wI o6.2 rw' v3.toNatClampNeg v) fun h_2 => some h_2) (fun o => TH ρ c o ∧ MkG x0 rm rb re rk R o) := fun v iv => by
        refine s_gd (gw T6') ?_
        refine s_hq (th_wI T6' qw (k := 102) (lo := -1000000) (hi := 3000000) rfl iv (by decide) (by decide) (pm_a hA rfl)) (fun h2 T2 w2 => ?_)
        exact s_some ⟨T2, mk (kf_t K6' (kf_wI w2 qw))⟩
      refine s_br (fun _ => ?_) (fun _ => ?_)
      · refine s_ref ew6 (s_gd (gw T6') ?_)
        refine s_hq (th_wI T6' qw (k := 102) (lo := -1000000) (hi := 3000000) rfl (rg_b rfl) (by decide) (by decide) (pm_a hA rfl)) (fun h10 T10' w10' => ?_)
        have K10 : Kf ρ EBL h h10 := kf_t K6' (kf_wI w10' qw)
        have K710 : Kf ρ EBL o7.2 h10 := kf_t (kf_m Q79 rfl) (kf_t (kf_of f3 rfl) (kf_t (kf_of f6 rfl) (kf_wI w10' qw)))
        have z0 : (0 : Int32).toInt = 0 := rfl
        have P10 : LA (MvG h10 rm re R (hI h10 x0 13).toInt x1 x2) l lf lt h10 := by
          intro i hi
          rw [w10', r_I, if_neg (ne_r rl qw (by decide))] at hi
          have := P6 i hi
          have q1 : hI h10 lf i = hI o6.2 lf i := by rw [w10', r_I, if_neg (ne_r rf qw (by decide))]
          have q2 : hI h10 lt i = hI o6.2 lt i := by rw [w10', r_I, if_neg (ne_r rt qw (by decide))]
          rw [q1, q2, kfI 13 K710 r0]
          exact mvg_of (fun i => kfI i K710 qm) (fun i => kfI i K710 qe) (kfI 10 K710 qR) this
        have D10 : MBd x0 (hI h x0 49).toInt a h10 := by
          intro rm' rb' em' eb' k hk
          rw [kfR 46 K10 r0] at em'
          rw [kfR 53 K10 r0] at eb'
          have hz1 := r_eq em em'
          subst hz1
          have hz1 := r_eq eb eb'
          subst hz1
          rw [kfI 13 K10 r0]
          simp only [kfI _ K10 qm, kfI _ K10 qb]
          exact D rm' rb' em' eb' k hk
        have ef10 : hR h10 l 1 = some lf := by rw [kfR 1 K710 rl]; exact ef
        have et10 : hR h10 l 2 = some lt := by rw [kfR 2 K710 rl]; exact et
        refine s_imp (bh_187 (h0 := h10) (a := a) (n := (hI h x0 49).toInt) (l := l) (lf := lf) (lt := lt) hF (pmA_s hA rfl) r0 i1 a2 (by rw [kfR 46 K10 r0]; exact em) (by rw [kfR 53 K10 r0]; exact eb) (by rw [kfR 47 K10 r0]; exact ee) (by rw [kfR 52 K10 r0]; exact ek) qk (by rw [kfR 30 K710 r0]; exact el7) ef10 et10 D10 (by rw [kfI 49 K10 r0]) (by omega) na (by rw [kfI 13 K10 r0, kfI _ K10 qm]; omega) P10 F T10' ⟨⟨fun _ _ => rfl, fun _ _ => rfl⟩, fun _ _ _ => rfl⟩ (mk K10) (by decide) (by rw [z0]; omega)) (fun o w => ⟨w.1, w.2.2⟩)
      · refine s_ref ew6 ?_
        refine s_br (fun _ => fin _ (rg_m (rg_b rfl : Rg 0 0 (0 : Int32)) (by decide))) (fun _ => ?_)
        refine s_ref (by rw [(fr_RI f6 r0 (by decide) (fun _ => rfl)).2.2]; exact eg3) ?_
        exact s_br (fun _ => fin _ (rg_m (rg_b rfl : Rg 1000000 1000000 (1000000 : Int32)) (by decide))) (fun _ => fin _ (rg_m (rg_b rfl : Rg (-1000000) (-1000000) (-1000000 : Int32)) (by decide)))
    have eg10 : hR o10.2 x0 60 = some g := by rw [kfR 60 Q10 r0]; exact eg7
    refine s_ref eg10 (s_ref eg10 ?_)
    refine s_cl (s_imp (zX15_royalOf hF T10 r0 rg (thI T10 rg (k := 13) (i := 1) (lo := 0) (hi := 1) rfl)) (fun o14 ⟨e14, i14⟩ => ?_))
    rw [e14]
    refine s_br (fun _ => b99 T10 kf_r pe10 sq10) (fun n14 => ?_)
    refine s_ref eg10 (s_ref eg10 ?_)
    refine s_cIf (S := fS [(16, 23), (16, 24)] []) T10 (fs_sub (pmA_s hA rfl) fs_n) (zX15_isAttacked hF fs_a wg (th_in _ T10) r0 rg (rg_nlo n14 i14 (rg_b rfl : Rg (-1) (-1) (-1 : Int32))) (rg_sub (rg_b rfl : Rg 1 1 (1 : Int32)) (thI T10 rg (k := 13) (i := 1) (lo := 0) (hi := 1) rfl) (by decide))) (fun o18 T18 i18 f18 => ?_)
    have Q18 : Kf ρ XSL o10.2 o18.2 := kf_of f18 rfl
    have pe18 : PE g o18.2 := pe_fr T10 rg f18 rfl rfl rfl (fun _ => rfl) (fun _ => rfl) pe10
    have sq18 : SqOk x0 o18.2 := sq_fr T10 r0 f18 (fun _ => rfl) (fun _ => rfl) (fun _ => rfl) sq10
    refine s_br (fun _ => b99 T18 Q18 pe18 sq18) (fun _ => ?_)
    obtain ⟨rc, ec, qc⟩ := thR T18 r0 (i := 54) (k2 := 105) rfl (by decide)
    refine s_ref ec ?_
    have ic : Rg 0 9375 (v3 >>> ((6 : Int32) &&& 31)) := sh6 i3
    have gc : inB (v3 >>> ((6 : Int32) &&& 31)) (hN o18.2 rc) := by rw [thN T18 qc (k := 105) (n := 9376) rfl (by decide)]; exact rg_inB ic (by decide)
    refine s_gd gc (s_gd gc ?_)
    refine s_hq (th_wJ T18 qc (by decide) (pm_a hA rfl)) (fun h23 T23 w23 => ?_)
    exact b99 T23 (kf_t Q18 (kf_wJ w23 qc)) (by
      intro M' P' e1 e2 k k1 k2
      rw [w23] at e1 e2 k2 ⊢
      exact pe18 M' P' e1 e2 k k1 k2) (by
      unfold SqOk
      rw [w23]
      exact sq18)
  · unfold sX15_begin_38
    exact s_some ⟨T10, mk (kf_t K7 (kf_m Q10 rfl))⟩
end
