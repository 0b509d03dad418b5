section
/-! a state is begun: the whole of it -/
theorem sh6 {x : Int32} (i : Rg 0 599999 x) : Rg 0 9375 (x >>> ((6 : Int32) &&& 31)) := rg_shrk 6 (by decide) i (by decide)
section
variable {ρ : Nat → Nat} {c : Cm} {h : Hp} {x0 rm re rb rk R F : Nat} {x1 x2 : Int32} {a : Int}
theorem begin_q (hF : 700000 ≤ F) (hA : pmA c bgA) (hS : pmO c 2560 bS7) (hB : pmO c 2528 bL8) (hL : pmO c 2530 lL8) (T : TH ρ c h) (r0 : ρ x0 = 16) (sq : SqOk x0 h) (P : SE x0 h) (em : hR h x0 46 = some rm) (eb : hR h x0 53 = some rb) (ee : hR h x0 47 = some re) (ek : hR h x0 52 = some rk) (qk : ρ rk = 103) (eR : hR h x0 4 = some R) (hz : hI h R 15 = 0) (i1 : Rg 0 4095 x1) (ln : x1.toInt < (hI h x0 49).toInt) (a2 : 0 ≤ x2.toInt) (l2 : x2.toInt < 2 * (hI h x0 13).toInt ^ (hI h rm x1.toNatClampNeg).toNatClampNeg) (D : MBd x0 (hI h x0 49).toInt a h) (na : a ≤ 1500000) (G : MkG x0 rm rb re rk R h) : Sat (sX15_begin F h x0 x1 x2) (fun o => TH ρ c o ∧ MkG x0 rm rb re rk R o) := by
  have qm : ρ rm = 99 := rr T (thR T r0 (i := 46) (k2 := 99) rfl (by decide)) em
  have qe : ρ re = 100 := rr T (thR T r0 (i := 47) (k2 := 100) rfl (by decide)) ee
  have qb : ρ rb = 104 := rr T (thR T r0 (i := 53) (k2 := 104) rfl (by decide)) eb
  have qR : ρ R = 15 := rr T (thR T r0 (i := 4) (k2 := 15) rfl (by decide)) eR
  have c1 := clamp_i i1.1
  have im := thI T qm (k := 99) (i := x1.toNatClampNeg) (lo := 0) (hi := 5) rfl
  have mk : ∀ {o : Hp}, Kf ρ EBL h o → MkG x0 rm rb re rk R o := fun K => mkg_k K r0 qm qb qe qk qR rfl rfl (fun _ => rfl) (fun _ => rfl) (fun _ => rfl) (fun _ => rfl) rfl G
  unfold sX15_begin
  obtain ⟨rs, es, qs⟩ := thR T r0 (i := 48) (k2 := 101) rfl (by decide)
  have s3 := P.2.2.1 rm rs em es x1.toNatClampNeg (by omega)
  have s2 := P.2.1.2
  have is := thI T qs (k := 101) (i := x1.toNatClampNeg) (lo := 0) (hi := 600000) rfl
  have is0 := is.1
  refine s_ref es ?_
  refine s_gd (by rw [thN T qs (k := 101) (n := 4096) rfl (by decide)]; exact rg_inB i1 (by decide)) ?_
  refine s_q (fun v3 ev => ?_)
  have ev2 : v3.toInt = (hI h rs x1.toNatClampNeg).toInt + x2.toInt := by rw [ev, ta (by omega)]
  clear ev
  have i3 : Rg 0 599999 v3 := ⟨by omega, by omega⟩
  obtain ⟨rw', ew, qw⟩ := thR T r0 (i := 51) (k2 := 102) rfl (by decide)
  refine s_ref ew ?_
  refine s_gd (by rw [thN T qw (k := 102) (n := 600000) rfl (by decide)]; exact rg_inB i3 (by decide)) ?_
  refine s_hq (th_wI T qw (k := 102) (lo := -1000000) (hi := 3000000) rfl (rg_b rfl) (by decide) (by decide) (pm_a hA rfl)) (fun h6 T6 w6 => ?_)
  have K6 : Kf ρ EBL h h6 := kf_wI w6 qw
  obtain ⟨g, eg, rg⟩ := thR T6 r0 (i := 60) (k2 := 13) rfl (by decide)
  have wg : cw c g = 2560 := th_id T6 r0 eg rfl (by decide)
  obtain ⟨M, eM, rM⟩ := thR T6 rg (i := 0) (k2 := 62) rfl (by decide)
  have em6 : hR h6 x0 46 = some rm := by rw [kfR 46 K6 r0]; exact em
  have ee6 : hR h6 x0 47 = some re := by rw [kfR 47 K6 r0]; exact ee
  have pos6 : ∀ i, i < (hI h6 rm x1.toNatClampNeg).toNatClampNeg → 1 ≤ (hI h6 re (5 * x1.toNatClampNeg + i)).toInt := fun i hi => by
    rw [kfI _ K6 qm] at hi
    rw [kfI _ K6 qe]
    exact P.2.2.2.2.1 rm re em ee x1.toNatClampNeg (by omega) i hi
  refine s_cIfq (S := fS [] [(2560, bS7)]) T6 (fs_sub pmA_n (fs_c hS fs_n)) (s_weq (zX15_layState hF (fs_o (.head _)) (th_in _ T6) r0 i1 ⟨a2, by omega⟩)) (fun o7 T7 i7 f7 e7 => ?_)
  have K67 : Kf ρ EBL h6 o7.2 := kf_of f7 rfl
  have K7 : Kf ρ EBL h o7.2 := kf_t K6 K67
  refine s_br (fun _ => ?_) (fun nz => ?_)
  · unfold sX15_begin_38
    exact s_some ⟨T7, mk K7⟩
  obtain ⟨LR, LD, LC, LX⟩ := lay_q T6 r0 i1 a2 eg eM em6 ee6 pos6 e7 nz
  obtain ⟨pz, rz, sd⟩ := lay_b T6 r0 eg e7
  have eg7 : hR o7.2 x0 60 = some g := LR.1
  have eM7 : hR o7.2 g 0 = some M := LR.2.1
  have km7 : ∀ i, hI o7.2 rm i = hI h6 rm i := fun i => kfI i K67 qm
  have ke7 : ∀ i, hI o7.2 re i = hI h6 re i := fun i => kfI i K67 qe
  have k137 : hI o7.2 x0 13 = hI h6 x0 13 := kfI 13 K67 r0
  refine s_ref eg7 ?_
  refine s_cIfq (S := fS [(86, 999), (16, 23), (16, 24)] []) T7 (fs_sub (pmA_s hA rfl) fs_n) (s_weq2 (zX15_wrongOf hF fs_a wg (th_in _ T7) r0 rg)) (fun o10 T10 i10 f10 w10 => ?_)
  have Q10 : Kf ρ XSL o7.2 o10.2 := kf_of f10 rfl
  refine s_br (fun np => ?_) (fun _ => ?_)
  · have z10 : o10.1.toInt = 0 := by have := le_i np; have := i10.1; have z0 : (0 : Int32).toInt = 0 := rfl; omega
    have pe10 : PE g o10.2 := w10.1 z10
    have sq10 : SqOk x0 o10.2 := sq_fr T7 r0 f10 (fun _ => rfl) (fun _ => rfl) (fun _ => rfl) (sq_fr T6 r0 f7 (fun _ => rfl) (fun _ => rfl) (fun _ => rfl) (sq_fr T r0 (fr1I (c := c) (A := [(102, 999)]) qw rfl w6) (fun _ => rfl) (fun _ => rfl) (fun _ => rfl) sq))
    -- the moves, and what comes of them
    have b99 : ∀ {h9 : Hp}, TH ρ c h9 → Kf ρ XSL o10.2 h9 → PE g h9 → SqOk x0 h9 → Sat (sX15_begin_99 F h9 x0 x1 x2 v3) (fun o => TH ρ c o ∧ MkG x0 rm rb re rk R o) := by
      intro h9 T9 Q9 pe9 sq9
      have Q79 : Kf ρ XSL o7.2 h9 := kf_t Q10 Q9
      have K9 : Kf ρ EBL h h9 := kf_t K7 (kf_m Q79 rfl)
      unfold sX15_begin_99 sX15_begin_173
      have eg9 : hR h9 x0 60 = some g := by rw [kfR 60 Q79 r0]; exact eg7
      refine s_ref eg9 ?_
      obtain ⟨l, el, rl⟩ := thR T9 r0 (i := 30) (k2 := 14) rfl (by decide)
      have wl : cw c l = 2530 := th_id T9 r0 el rfl (by decide)
      refine s_ref el ?_
      have el7 : hR o7.2 x0 30 = some l := by rw [← kfR 30 Q79 r0]; exact el
      -- rows at the board that is laid
      obtain ⟨S, e25, rS⟩ := thR T7 r0 (i := 25) (k2 := 87) rfl (by decide)
      obtain ⟨Fa, e26, rFa⟩ := thR T7 r0 (i := 26) (k2 := 88) rfl (by decide)
      obtain ⟨Ct, e27, rCt⟩ := thR T7 r0 (i := 27) (k2 := 89) rfl (by decide)
      have eR7 : hR o7.2 x0 4 = some R := by rw [kfR 4 K7 r0]; exact eR
      obtain ⟨Fl, eFl, rFl⟩ := thR T7 qR (i := 5) (k2 := 75) rfl (by decide)
      obtain ⟨Ri, eRi, rRi⟩ := thR T7 qR (i := 8) (k2 := 78) rfl (by decide)
      obtain ⟨A, eA, rA⟩ := thR T7 qR (i := 6) (k2 := 76) rfl (by decide)
      obtain ⟨B, eB, rB⟩ := thR T7 qR (i := 7) (k2 := 77) rfl (by decide)
      obtain ⟨Fm, eFm, rFm⟩ := thR T7 qR (i := 9) (k2 := 79) rfl (by decide)
      obtain ⟨St, eSt, rSt⟩ := thR T7 qR (i := 4) (k2 := 74) rfl (by decide)
      obtain ⟨Ro, e22, rRo⟩ := thR T7 r0 (i := 22) (k2 := 86) rfl (by decide)
      obtain ⟨lf, ef, rf⟩ := thR T7 rl (i := 1) (k2 := 66) rfl (by decide)
      obtain ⟨lt, et, rt⟩ := thR T7 rl (i := 2) (k2 := 67) rfl (by decide)
      obtain ⟨lm, elm, rlm⟩ := thR T7 rl (i := 3) (k2 := 68) rfl (by decide)
      obtain ⟨lb, elb, rlb⟩ := thR T7 rl (i := 4) (k2 := 69) rfl (by decide)
      obtain ⟨lx, elx, rlx⟩ := thR T7 rl (i := 5) (k2 := 70) rfl (by decide)
      obtain ⟨lk, elk, rlk⟩ := thR T7 rl (i := 6) (k2 := 71) rfl (by decide)
      obtain ⟨lo, elo, rlo⟩ := thR T7 rl (i := 7) (k2 := 72) rfl (by decide)
      have LL : LkS ρ x0 g S Fa Ct M R Fl Ri o7.2 := ⟨⟨r0, rg, rS, rFa, rCt, rM, qR, rFl, rRi⟩, ⟨e25, e26, e27, eM7, eR7, eFl, eRi⟩, thI T7 r0 rfl, thI T7 r0 rfl, fun i => thI T7 rRi rfl, by rw [pz]; decide⟩
      have ZZ : LkT ρ x0 R A B Fm St o7.2 := ⟨⟨rA, rB, rFm, rSt⟩, ⟨eA, eB, eFm, eSt⟩, fun i => thI T7 rA rfl, fun i => thI T7 rB rfl⟩
      have QQ : LsR ρ l lf lt lm lb lx lk lo o7.2 := ⟨⟨rl, rf, rt, rlm, rlb, rlx, rlk, rlo⟩, ⟨ef, et, elm, elb, elx, elk, elo⟩⟩
      have tall : ∀ g2 o, Fq ρ h9 g2 → sX15_tryAll F g2 x0 g l = some o → LA (MvG o7.2 rm re R (hI o7.2 x0 13).toInt x1 x2) l lf lt o := fun g2 o fq e => by
        refine (tall_q LL ZZ QQ (by rw [kfI 15 K7 qR]; exact hz) rz (thI T7 r0 (k := 16) (i := 13) (lo := 9) (hi := 64) rfl).2 (fun s t s0 sl hs own t0 tl LQ => ?_) (fq_t (fq_kf Q79) fq) e).2
        refine st_mvg T7 LL ZZ e22 rRo LR.2.2.2.1 i1 rz pz sd (fun i hi => ?_) ?_ ?_ ?_ (thI T7 qm (k := 99) (lo := 0) (hi := 5) rfl) w10.2 np s t s0 sl hs own t0 tl LQ
        · rw [km7] at hi
          rw [ke7]
          exact pos6 i hi
        · rw [km7, k137]; exact LD
        · rw [km7, k137]; exact LC
        · rw [km7, k137]; exact LX
      refine s_cVfq (S := fS [(87, 999), (88, 999), (89, 999), (16, 23), (16, 24), (16, 29)] [(2528, bL8), (2530, lL8)]) T9 (fs_sub (pmA_s hA rfl) (fs_c hB (fs_c hL fs_n))) (legal_q (lf := lf) (lt := lt) hF fs_a (fs_o (.head _)) (fs_o (.tail _ (.head _))) wg (by decide) wl (th_in _ T9) r0 rg rl sq9 pe9 (by rw [kfR 1 Q79 rl]; exact ef) (by rw [kfR 2 Q79 rl]; exact et) tall) (fun o3 T3 f3 P3 => ?_)
      have K3 : Kf ρ EBL h o3 := kf_t K9 (kf_of f3 rfl)
      have eg3 : hR o3 x0 60 = some g := by rw [(fr_RI f3 r0 (by decide) (fun _ => rfl)).2.2]; exact eg9
      have el3 : hR o3 x0 30 = some l := by rw [(fr_RI f3 r0 (by decide) (fun _ => rfl)).2.2]; exact el
      refine s_ref eg3 (s_ref el3 ?_)
      refine s_cIf (S := fS [(16, 23), (16, 24), (16, 29)] []) T3 (fs_sub (pmA_s hA rfl) fs_n) (zX15_endedBy hF fs_a wg (th_in _ T3) r0 rg (thI T3 rl (k := 14) (i := 0) (lo := 0) (hi := 3000) rfl)) (fun o6 T6' i6 f6 => ?_)
      have K6' : Kf ρ EBL h o6.2 := kf_t K3 (kf_of f6 rfl)
      have P6 := la_fr T3 rl rf rt f6 (fun _ => rfl) (fun _ _ => rfl) (fun _ _ => rfl) P3
      have ew6 : hR o6.2 x0 51 = some rw' := by rw [kfR 51 K6' r0]; exact ew
      have gw : ∀ {g2 : Hp}, TH ρ c g2 → inB v3 (hN g2 rw') := fun Tg => by rw [thN Tg qw (k := 102) (n := 600000) rfl (by decide)]; exact rg_inB i3 (by decide)
      have fin : ∀ v : Int32, Rg (-1000000) 3000000 v → Sat (gd (inB v3 (hN o6.2 rw')) <| nm (wI o6.2 rw' v3.toNatClampNeg v) fun h_2 => some h_2) (fun o => TH ρ c o ∧ MkG x0 rm rb re rk R o) := fun v iv => by
        refine s_gd (gw T6') ?_
        refine s_hq (th_wI T6' qw (k := 102) (lo := -1000000) (hi := 3000000) rfl iv (by decide) (by decide) (pm_a hA rfl)) (fun h2 T2 w2 => ?_)
        exact s_some ⟨T2, mk (kf_t K6' (kf_wI w2 qw))⟩
      refine s_br (fun _ => ?_) (fun _ => ?_)
      · refine s_ref ew6 (s_gd (gw T6') ?_)
        refine s_hq (th_wI T6' qw (k := 102) (lo := -1000000) (hi := 3000000) rfl (rg_b rfl) (by decide) (by decide) (pm_a hA rfl)) (fun h10 T10' w10' => ?_)
        have K10 : Kf ρ EBL h h10 := kf_t K6' (kf_wI w10' qw)
        have K710 : Kf ρ EBL o7.2 h10 := kf_t (kf_m Q79 rfl) (kf_t (kf_of f3 rfl) (kf_t (kf_of f6 rfl) (kf_wI w10' qw)))
        have z0 : (0 : Int32).toInt = 0 := rfl
        have P10 : LA (MvG h10 rm re R (hI h10 x0 13).toInt x1 x2) l lf lt h10 := by
          intro i hi
          rw [w10', r_I, if_neg (ne_r rl qw (by decide))] at hi
          have := P6 i hi
          have q1 : hI h10 lf i = hI o6.2 lf i := by rw [w10', r_I, if_neg (ne_r rf qw (by decide))]
          have q2 : hI h10 lt i = hI o6.2 lt i := by rw [w10', r_I, if_neg (ne_r rt qw (by decide))]
          rw [q1, q2, kfI 13 K710 r0]
          exact mvg_of (fun i => kfI i K710 qm) (fun i => kfI i K710 qe) (kfI 10 K710 qR) this
        have D10 : MBd x0 (hI h x0 49).toInt a h10 := by
          intro rm' rb' em' eb' k hk
          rw [kfR 46 K10 r0] at em'
          rw [kfR 53 K10 r0] at eb'
          have hz1 := r_eq em em'
          subst hz1
          have hz1 := r_eq eb eb'
          subst hz1
          rw [kfI 13 K10 r0]
          simp only [kfI _ K10 qm, kfI _ K10 qb]
          exact D rm' rb' em' eb' k hk
        have ef10 : hR h10 l 1 = some lf := by rw [kfR 1 K710 rl]; exact ef
        have et10 : hR h10 l 2 = some lt := by rw [kfR 2 K710 rl]; exact et
        refine s_imp (bh_187 (h0 := h10) (a := a) (n := (hI h x0 49).toInt) (l := l) (lf := lf) (lt := lt) hF (pmA_s hA rfl) r0 i1 a2 (by rw [kfR 46 K10 r0]; exact em) (by rw [kfR 53 K10 r0]; exact eb) (by rw [kfR 47 K10 r0]; exact ee) (by rw [kfR 52 K10 r0]; exact ek) qk (by rw [kfR 30 K710 r0]; exact el7) ef10 et10 D10 (by rw [kfI 49 K10 r0]) (by omega) na (by rw [kfI 13 K10 r0, kfI _ K10 qm]; omega) P10 F T10' ⟨⟨fun _ _ => rfl, fun _ _ => rfl⟩, fun _ _ _ => rfl⟩ (mk K10) (by decide) (by rw [z0]; omega)) (fun o w => ⟨w.1, w.2.2⟩)
      · refine s_ref ew6 ?_
        refine s_br (fun _ => fin _ (rg_m (rg_b rfl : Rg 0 0 (0 : Int32)) (by decide))) (fun _ => ?_)
        refine s_ref (by rw [(fr_RI f6 r0 (by decide) (fun _ => rfl)).2.2]; exact eg3) ?_
        exact s_br (fun _ => fin _ (rg_m (rg_b rfl : Rg 1000000 1000000 (1000000 : Int32)) (by decide))) (fun _ => fin _ (rg_m (rg_b rfl : Rg (-1000000) (-1000000) (-1000000 : Int32)) (by decide)))
    have eg10 : hR o10.2 x0 60 = some g := by rw [kfR 60 Q10 r0]; exact eg7
    refine s_ref eg10 (s_ref eg10 ?_)
    refine s_cl (s_imp (zX15_royalOf hF T10 r0 rg (thI T10 rg (k := 13) (i := 1) (lo := 0) (hi := 1) rfl)) (fun o14 ⟨e14, i14⟩ => ?_))
    rw [e14]
    refine s_br (fun _ => b99 T10 kf_r pe10 sq10) (fun n14 => ?_)
    refine s_ref eg10 (s_ref eg10 ?_)
    refine s_cIf (S := fS [(16, 23), (16, 24)] []) T10 (fs_sub (pmA_s hA rfl) fs_n) (zX15_isAttacked hF fs_a wg (th_in _ T10) r0 rg (rg_nlo n14 i14 (rg_b rfl : Rg (-1) (-1) (-1 : Int32))) (rg_sub (rg_b rfl : Rg 1 1 (1 : Int32)) (thI T10 rg (k := 13) (i := 1) (lo := 0) (hi := 1) rfl) (by decide))) (fun o18 T18 i18 f18 => ?_)
    have Q18 : Kf ρ XSL o10.2 o18.2 := kf_of f18 rfl
    have pe18 : PE g o18.2 := pe_fr T10 rg f18 rfl rfl rfl (fun _ => rfl) (fun _ => rfl) pe10
    have sq18 : SqOk x0 o18.2 := sq_fr T10 r0 f18 (fun _ => rfl) (fun _ => rfl) (fun _ => rfl) sq10
    refine s_br (fun _ => b99 T18 Q18 pe18 sq18) (fun _ => ?_)
    obtain ⟨rc, ec, qc⟩ := thR T18 r0 (i := 54) (k2 := 105) rfl (by decide)
    refine s_ref ec ?_
    have ic : Rg 0 9375 (v3 >>> ((6 : Int32) &&& 31)) := sh6 i3
    have gc : inB (v3 >>> ((6 : Int32) &&& 31)) (hN o18.2 rc) := by rw [thN T18 qc (k := 105) (n := 9376) rfl (by decide)]; exact rg_inB ic (by decide)
    refine s_gd gc (s_gd gc ?_)
    refine s_hq (th_wJ T18 qc (by decide) (pm_a hA rfl)) (fun h23 T23 w23 => ?_)
    exact b99 T23 (kf_t Q18 (kf_wJ w23 qc)) (by
      intro M' P' e1 e2 k k1 k2
      rw [w23] at e1 e2 k2 ⊢
      exact pe18 M' P' e1 e2 k k1 k2) (by
      unfold SqOk
      rw [w23]
      exact sq18)
  · unfold sX15_begin_38
    exact s_some ⟨T10, mk (kf_t K7 (kf_m Q10 rfl))⟩
end
end
section
/-! what comes of a step is among the sets; numbers of states -/
theorem rsD_s {q sq : Int} : ∀ j, rsD q sq (j + 1) = rsD (q / sq) sq j := by
  intro j
  induction j with
  | zero => rfl
  | succ j ih => show rsD q sq (j + 1) / sq = rsD (q / sq) sq j / sq; rw [ih]
/-- a digit anew -/
theorem dg_put {sq t : Int} (s1 : 1 ≤ sq) (t0 : 0 ≤ t) (tl : t < sq) : ∀ (j n : Nat) (q : Int), j < n → 0 ≤ q → q < sq ^ n → 0 ≤ q + (t - dg q sq j) * sq ^ j ∧ q + (t - dg q sq j) * sq ^ j < sq ^ n := by
  intro j
  induction j with
  | zero =>
    intro n q hn q0 ql
    obtain ⟨n, rfl⟩ : ∃ m, n = m + 1 := ⟨n - 1, by omega⟩
    have e0 : dg q sq 0 = q % sq := rfl
    rw [e0, Int.pow_zero, Int.mul_one]
    have d := Int.mul_ediv_add_emod q sq
    have m0 := Int.emod_nonneg q (show sq ≠ 0 by omega)
    have l1 : q / sq < sq ^ n := Int.ediv_lt_of_lt_mul (by omega) (by rw [Int.pow_succ] at ql; exact ql)
    have g0 : 0 ≤ q / sq := Int.ediv_nonneg q0 (by omega)
    have m1 : sq * (q / sq + 1) ≤ sq * sq ^ n := Int.mul_le_mul_of_nonneg_left (by omega) (by omega)
    have m2 : 0 ≤ sq * (q / sq) := Int.mul_nonneg (by omega) g0
    rw [Int.mul_add, Int.mul_one] at m1
    rw [Int.pow_succ, Int.mul_comm (sq ^ n) sq]
    omega
  | succ j ih =>
    intro n q hn q0 ql
    obtain ⟨n, rfl⟩ : ∃ m, n = m + 1 := ⟨n - 1, by omega⟩
    have e0 : dg q sq (j + 1) = dg (q / sq) sq j := by unfold dg; rw [rsD_s]
    have d := Int.mul_ediv_add_emod q sq
    have m0 := Int.emod_nonneg q (show sq ≠ 0 by omega)
    have m3 := Int.emod_lt_of_pos q (show 0 < sq by omega)
    have l1 : q / sq < sq ^ n := Int.ediv_lt_of_lt_mul (by omega) (by rw [Int.pow_succ] at ql; exact ql)
    have g0 : 0 ≤ q / sq := Int.ediv_nonneg q0 (by omega)
    obtain ⟨i1, i2⟩ := ih n (q / sq) (by omega) g0 l1
    rw [e0]
    generalize hz : q / sq + (t - dg (q / sq) sq j) * sq ^ j = z at i1 i2
    have e1 : q + (t - dg (q / sq) sq j) * sq ^ (j + 1) = sq * z + q % sq := by
      rw [← hz, Int.mul_add, Int.pow_succ, ← Int.mul_assoc, Int.mul_comm sq ((t - dg (q / sq) sq j) * sq ^ j)]
      omega
    rw [e1]
    have m1 : sq * (z + 1) ≤ sq * sq ^ n := Int.mul_le_mul_of_nonneg_left (by omega) (by omega)
    have m2 : 0 ≤ sq * z := Int.mul_nonneg (by omega) i1
    rw [Int.mul_add, Int.mul_one] at m1
    rw [Int.pow_succ, Int.mul_comm (sq ^ n) sq]
    omega
section
variable {ρ : Nat → Nat} {c : Cm} {x0 rm re rb rk rs ro R Bc Bm F : Nat} {h : Hp}
/-- all sets stand in order, are found, and what comes of them is there -/
def AllS (x0 rm re rs rk R Bc Bm : Nat) (h : Hp) : Prop := ∀ k : Nat, (k : Int) < (hI h x0 49).toInt → Sd (fun i => hI h re (5 * k + i)) (hI h rm k).toNatClampNeg ∧ Fnd rs rk (pkF (fun i => hI h re (5 * k + i)) (hI h rm k) (hI h rm k).toNatClampNeg) h ∧ ∀ i, i < (hI h rm k).toNatClampNeg → CL re rm R Bc Bm rs rk h k i 9
theorem nI_m {n : Int32} (i : Rg 0 5 n) : nI n.toNatClampNeg = n := by
  have a := i.1
  have b := i.2
  have := clamp_i a
  apply Int32.toInt_inj.mp
  rw [z_toInt (by omega)]
  omega
theorem sk9 {f : Nat → Int32} {q n : Nat} (h : n ≤ q) : ∀ p, p < n → sk f q p = f p := fun p hp => by unfold sk; rw [if_pos (by omega)]
/-- the row behind a step is there -/
theorem fd_behind (T : TH ρ c h) (Q : SlR ρ x0 rm re rb rk rs ro h) (P : SE x0 h) (S : AllS x0 rm re rs rk R Bc Bm h) {k j q : Nat} (hk : (k : Int) < (hI h x0 49).toInt) (hj : j < (hI h rm k).toNatClampNeg) (nq : ¬ q = j) (q9 : q < (hI h rm k).toNatClampNeg ∨ 9 ≤ q) (roy : q < (hI h rm k).toNatClampNeg → ¬ (hI h re (5 * k + q) - (1 : Int32)) >>> ((1 : Int32) &&& 31) = hI h R 10) {v : Int32} (iv : Rg 0 24 v)
    (hv : v = hI h re (5 * k + j) ∨ FdS rs rk h (hI h rm k).toNatClampNeg (fun w => cn (up (fun p => hI h re (5 * k + p)) j v) w (hI h rm k).toNatClampNeg)) :
    FdS rs rk h (if (q : Int) < (hI h rm k).toInt then (hI h rm k).toNatClampNeg - 1 else (hI h rm k).toNatClampNeg) (fun w => cn (sk (up (fun p => hI h re (5 * k + p)) j v) q) w (if (q : Int) < (hI h rm k).toInt then (hI h rm k).toNatClampNeg - 1 else (hI h rm k).toNatClampNeg)) := by
  have Q' := Q
  obtain ⟨⟨r0, qm, qe, qb, qk, qs, qo⟩, ⟨e46, e47, e48, e55, e56, e57⟩⟩ := Q'
  have im := thI T qm (k := 99) (i := k) (lo := 0) (hi := 5) rfl
  have cm := clamp_i im.1
  have m5 := im.2
  obtain ⟨s1, s2, s3⟩ := S k hk
  -- the row with the man anew is there
  have A : FdS rs rk h (hI h rm k).toNatClampNeg (fun w => cn (up (fun p => hI h re (5 * k + p)) j v) w (hI h rm k).toNatClampNeg) := by
    rcases hv with w | w
    · refine ⟨fun p => hI h re (5 * k + p), s1, fun u => (cn_eq _ (fun p hp => ?_)).symm, by rw [nI_m im]; exact s2⟩
      unfold up
      split
      · rename_i z; rw [w, z]
      · rfl
    · exact w
  rcases q9 with ql | q9
  · rw [if_pos (by omega)]
    obtain ⟨f, f1, f2, f3⟩ := A
    have F3 := f3
    -- it is a set
    obtain ⟨m, B1, B2, B3⟩ := f3
    have sm : sl (pkF f (nI (hI h rm k).toNatClampNeg) (hI h rm k).toNatClampNeg) m < 16384 := Nat.mod_lt _ (by decide)
    obtain ⟨u1, u2⟩ := P.2.2.2.1 rs rk rm re e56 e55 e46 e47 _ sm B2
    rw [B3] at u2
    generalize hk' : (hI h rs (sl (pkF f (nI (hI h rm k).toNatClampNeg) (hI h rm k).toNatClampNeg) m)).toInt.toNat - 1 = k' at u2
    rw [nI_m im] at u2
    have lk' : (k' : Int) < (hI h x0 49).toInt := by omega
    rw [pkN_F] at u2
    have im' := thI T qm (k := 99) (i := k') (lo := 0) (hi := 5) rfl
    -- f has the range of men where it counts
    have rf : ∀ i, i < (hI h rm k).toNatClampNeg → Rg 0 24 (f i) := fun i hi => by
      have p : 0 < cn f (f i) (hI h rm k).toNatClampNeg := cn_in _ hi
      rw [f2] at p
      obtain ⟨i2, _, e2⟩ := cn_pos _ p
      rw [← e2]
      unfold up
      split
      · exact iv
      · exact thI T qe (k := 100) (lo := 0) (hi := 24) rfl
    have e1 : pkF f (hI h rm k) (hI h rm k).toNatClampNeg = pkF (fun i => if i < (hI h rm k).toNatClampNeg then f i else 0) (hI h rm k) (hI h rm k).toNatClampNeg := pkF_eq _ (fun i hi => by show f i = if i < (hI h rm k).toNatClampNeg then f i else 0; rw [if_pos hi])
    rw [e1] at u2
    obtain ⟨v1, v2⟩ := pkF_inj (f := fun i => if i < (hI h rm k).toNatClampNeg then f i else 0) (g := fun i => hI h re (5 * k' + i)) im im' (fun i => by
      show Rg 0 31 (if i < (hI h rm k).toNatClampNeg then f i else 0)
      split
      · exact rg_m (rf i ‹_›) (by decide)
      · exact rg_m (rg_b rfl : Rg 0 0 (0 : Int32)) (by decide)) (fun i => rg_m (thI T qe (k := 100) (i := 5 * k' + i) (lo := 0) (hi := 24) rfl) (by decide)) u2
    have v2' : ∀ i, i < (hI h rm k).toNatClampNeg → f i = hI h re (5 * k' + i) := fun i hi => by
      have := v2 i hi
      rw [if_pos hi] at this
      exact this
    -- the man that is taken is in it
    have uq : up (fun p => hI h re (5 * k + p)) j v q = hI h re (5 * k + q) := by unfold up; rw [if_neg nq]
    have cp : 0 < cn f (hI h re (5 * k + q)) (hI h rm k).toNatClampNeg := by
      rw [f2, ← uq]
      exact cn_in _ ql
    obtain ⟨i', i1, i2⟩ := cn_pos _ cp
    rw [v2' i' i1] at i2
    have em : (hI h rm k').toNatClampNeg = (hI h rm k).toNatClampNeg := by rw [← v1]
    obtain ⟨_, _, t3⟩ := S k' lk'
    obtain ⟨g, g1, g2, g3⟩ := (t3 i' (by omega)).1 (by rw [i2]; exact roy ql)
    rw [em] at g1 g2 g3
    refine ⟨g, g1, fun w => ?_, g3⟩
    rw [g2 w]
    have c1 := cn_sk (f := fun p => hI h re (5 * k' + p)) (k := i') (w := w) ((hI h rm k).toNatClampNeg - 1) (by omega)
    have c2 := cn_sk (f := up (fun p => hI h re (5 * k + p)) j v) (k := q) (w := w) ((hI h rm k).toNatClampNeg - 1) (by omega)
    have en : (hI h rm k).toNatClampNeg - 1 + 1 = (hI h rm k).toNatClampNeg := by omega
    rw [en] at c1 c2
    have c3 : cn (fun p => hI h re (5 * k' + p)) w (hI h rm k).toNatClampNeg = cn f w (hI h rm k).toNatClampNeg := (cn_eq _ v2').symm
    rw [c3, f2 w] at c1
    rw [uq] at c2
    show cn (sk (fun p => hI h re (5 * k' + p)) i') w ((hI h rm k).toNatClampNeg - 1) = cn (sk (up (fun p => hI h re (5 * k + p)) j v) q) w ((hI h rm k).toNatClampNeg - 1)
    have c4 : (if (fun p => hI h re (5 * k' + p)) i' = w then 1 else 0) = (if hI h re (5 * k + q) = w then 1 else 0) := by
      show (if hI h re (5 * k' + i') = w then 1 else 0) = _
      rw [i2]
    rw [c4] at c1
    exact Nat.add_right_cancel (c1.trans c2.symm)
  · rw [if_neg (by omega)]
    obtain ⟨f, f1, f2, f3⟩ := A
    refine ⟨f, f1, fun w => ?_, f3⟩
    rw [f2 w]
    exact (cn_eq _ (sk9 (by omega))).symm
end
end
section
/-! the worth of a state now -/
def pcJ (x : Int64) : Nat → Nat
  | 0 => 0
  | n + 1 => pcJ x n + if bitJ x n = true then 1 else 0
theorem pc_le (x : Int64) : ∀ n, pcJ x n ≤ n := by
  intro n
  induction n with
  | zero => exact Nat.le_refl _
  | succ n ih =>
    show pcJ x n + (if bitJ x n = true then 1 else 0) ≤ n + 1
    split <;> omega
theorem pc_lt {x y : Int64} (s : ∀ i, bitJ y i = true → bitJ x i = true) {k : Nat} (kx : bitJ x k = true) (ky : bitJ y k = false) : ∀ n, pcJ y n ≤ pcJ x n ∧ (k < n → pcJ y n < pcJ x n) := by
  intro n
  induction n with
  | zero => exact ⟨Nat.le_refl _, fun h => by omega⟩
  | succ n ih =>
    show pcJ y n + (if bitJ y n = true then 1 else 0) ≤ pcJ x n + (if bitJ x n = true then 1 else 0) ∧ (k < n + 1 → pcJ y n + (if bitJ y n = true then 1 else 0) < pcJ x n + (if bitJ x n = true then 1 else 0))
    by_cases w : k = n
    · subst w
      rw [if_pos kx, if_neg (by rw [ky]; decide)]
      exact ⟨by omega, fun _ => by omega⟩
    · by_cases z : bitJ y n = true
      · rw [if_pos z, if_pos (s n z)]
        exact ⟨by omega, fun h => by have := ih.2 (by omega); omega⟩
      · rw [if_neg z]
        split
        · exact ⟨by omega, fun h => by have := ih.2 (by omega); omega⟩
        · exact ⟨by omega, fun h => by have := ih.2 (by omega); omega⟩
/-- the least bit is gone -/
theorem low_off {x : Int64} (hx : ¬ x = 0) : (∀ i, bitJ (x &&& (x - (1 : Int64))) i = true → bitJ x i = true) ∧ ∃ k, k < 64 ∧ bitJ x k = true ∧ bitJ (x &&& (x - (1 : Int64))) k = false := by
  obtain ⟨k, k64, kb, e⟩ := low_bit hx
  have nb : bitJ (-x) k = true := by
    have : bitJ (x &&& (-x)) k = true := by
      rw [e]
      show (BitVec.twoPow 64 k).getLsbD k = true
      rw [BitVec.getLsbD_twoPow]
      simp [k64]
    rw [bj_and] at this
    simp only [Bool.and_eq_true] at this
    exact this.2
  refine ⟨fun i w => ?_, k, k64, kb, ?_⟩
  · rw [bj_and] at w
    simp only [Bool.and_eq_true] at w
    exact w.1
  · rw [bj_and, kb, Bool.true_and]
    have e2 : (x - (1 : Int64)).toBitVec = ~~~ ((-x).toBitVec) := by
      rw [Int64.toBitVec_sub, Int64.toBitVec_neg, BitVec.not_neg]
      rfl
    unfold bitJ at nb ⊢
    rw [e2, BitVec.getLsbD_not, nb]
    simp
abbrev EVL : List (Nat × Nat) := [(108, 999), (109, 999), (110, 999), (16, 62), (16, 63)]
section
variable {ρ : Nat → Nat} {c : Cm} {x0 rm re rb rk rs ro rp rt rw mb km R Bc Bm F : Nat} {a : Int} {h o : Hp} {x1 x2 x3 : Int32}
theorem worthNow_q (hF : 700000 ≤ F) (hA : pmA c EVL) (T : TH ρ c h) (W : WkP ρ x0 rm re rb rk rs ro rp rt rw mb km R Bc Bm a h) (i1 : Rg 0 4095 x1) (ln : x1.toInt < (hI h x0 49).toInt) (a2 : 0 ≤ x2.toInt) (l2 : x2.toInt < 2 * (hI h x0 13).toInt ^ (hI h rm x1.toNatClampNeg).toNatClampNeg) (i3 : Rg 0 2000000 x3) : Sat (sX15_worthNow F h x0 x1 x2 x3) (fun o => TH ρ c o.2 ∧ Rg (-1000000) 1000000 o.1 ∧ Kf ρ EVL h o.2) := by
  have W' := W
  obtain ⟨Q, ⟨e58, e61, e51, e53, e52, e4, e13, e14⟩, ⟨qp, qt, qw, qmb, qkm, qR, qBc, qBm⟩, P, A, D, na, GG⟩ := W'
  have Q' := Q
  obtain ⟨⟨r0, qm, qe, qb, qk, qs, qo⟩, ⟨e46, e47, e48, e55, e56, e57⟩⟩ := Q'
  have c1 := clamp_i i1.1
  have im := thI T qm (k := 99) (i := x1.toNatClampNeg) (lo := 0) (hi := 5) rfl
  have cm := clamp_i im.1
  have m5 := im.2
  have is := thI T r0 (k := 16) (i := 13) (lo := 9) (hi := 64) rfl
  have s9 := is.1
  have s64 := is.2
  have z0 : (0 : Int32).toInt = 0 := rfl
  have B3 := P.2.2.1 rm rb e46 e48 x1.toNatClampNeg (by omega)
  have B2 := P.2.1.2
  have ib0 := (thI T qb (k := 101) (i := x1.toNatClampNeg) (lo := 0) (hi := 600000) rfl).1
  -- the answer
  have b186 : ∀ {g : Hp}, TH ρ c g → Kf ρ EVL h g → Sat (sX15_worthNow_186 F g x0 x3) (fun o => TH ρ c o.2 ∧ Rg (-1000000) 1000000 o.1 ∧ Kf ρ EVL h o.2) := fun {g} Tg Kg => by
    unfold sX15_worthNow_186 sX15_worthNow_217
    exact s_br (fun _ => s_br (fun _ => s_some ⟨Tg, rg_m (rg_b rfl : Rg 0 0 (0 : Int32)) (by decide), Kg⟩) (fun _ => s_some ⟨Tg, rg_sub i3 (rg_b rfl : Rg 1000000 1000000 (1000000 : Int32)) (by decide), Kg⟩)) (fun _ => s_some ⟨Tg, rg_sub (rg_b rfl : Rg 1000000 1000000 (1000000 : Int32)) i3 (by decide), Kg⟩)
  have wm : ∀ {g : Hp}, Kf ρ EVL h g → WkP ρ x0 rm re rb rk rs ro rp rt rw mb km R Bc Bm a g := fun Kg => wkp_k T (kf_m Kg rfl) W
  -- man by man
  have l73 : ∀ (f : Nat) {g : Hp} {x7 x8 : Int32}, TH ρ c g → Kf ρ EVL h g → (∀ i : Nat, (i : Int) < (hI h rm x1.toNatClampNeg).toInt → (hI g rt i).toInt = dg (x2.toInt / 2) (hI h x0 13).toInt i) → 0 ≤ x8.toInt → x8.toInt ≤ (hI h rm x1.toNatClampNeg).toInt → x7.toInt = 2 * (hI h x0 13).toInt ^ x8.toNatClampNeg → (6 - x8.toInt).toNat < f → Sat (sX15_worthNow_73 F f g x0 x1 x2 x3 (hI h rm x1.toNatClampNeg) (x2 &&& (1 : Int32)) x7 x8) (fun o => TH ρ c o.2 ∧ Rg (-1000000) 1000000 o.1 ∧ Kf ρ EVL h o.2) := by
    intro f
    induction f with
    | zero => intros; omega
    | succ f ih =>
      intro g x7 x8 Tg Kg st a8 b8 e7 hf
      have Wg := wm Kg
      have c8 := clamp_i a8
      rw [sX15_worthNow_73]
      unfold sX15_worthNow_123
      refine s_br (fun _ => b186 Tg Kg) (fun n1 => ?_)
      have l8 := nle_i n1
      have i8 : Rg 0 4 x8 := ⟨a8, by omega⟩
      obtain ⟨ix, ixn⟩ := ix5 i1 i8
      have ny := nc_s i8 (by decide)
      have pw := powm (s := (hI h x0 13).toInt) (by omega) x8.toNatClampNeg ((hI h rm x1.toNatClampNeg).toNatClampNeg - x8.toNatClampNeg)
      have en : x8.toNatClampNeg + ((hI h rm x1.toNatClampNeg).toNatClampNeg - x8.toNatClampNeg) = (hI h rm x1.toNatClampNeg).toNatClampNeg := by omega
      rw [en] at pw
      have p1 := (powm (s := (hI h x0 13).toInt) (by omega) 0 x8.toNatClampNeg).1
      rw [Int.pow_zero, Nat.zero_add] at p1
      -- move by move
      have l125 : ∀ (ff : Nat) {g : Hp} {x9 : Int64}, TH ρ c g → Kf ρ EVL h g → (∀ i : Nat, (i : Int) < (hI h rm x1.toNatClampNeg).toInt → (hI g rt i).toInt = dg (x2.toInt / 2) (hI h x0 13).toInt i) → (∀ t, t < 64 → bitJ x9 t = true → Gd h rm re R (hI h x0 13).toInt x1.toNatClampNeg (x2.toInt / 2) x8.toNatClampNeg t ∧ owS h re x1.toNatClampNeg x8.toNatClampNeg = (x2 &&& (1 : Int32)).toInt) → pcJ x9 64 < ff → Sat (sX15_worthNow_125 F (sX15_worthNow_73 F f) ff g x0 x1 x2 x3 (hI h rm x1.toNatClampNeg) (x2 &&& (1 : Int32)) x7 x8 x9) (fun o => TH ρ c o.2 ∧ Rg (-1000000) 1000000 o.1 ∧ Kf ρ EVL h o.2) := by
        intro ff
        induction ff with
        | zero => intros; omega
        | succ ff ih2 =>
          intro g x9 Tg Kg st B hp
          have Wg := wm Kg
          rw [sX15_worthNow_125]
          have k13 := kfI 13 Kg r0
          have nx : Sat (sX15_worthNow_171 F (sX15_worthNow_73 F f) g x0 x1 x2 x3 (hI h rm x1.toNatClampNeg) (x2 &&& (1 : Int32)) x7 x8) (fun o => TH ρ c o.2 ∧ Rg (-1000000) 1000000 o.1 ∧ Kf ρ EVL h o.2) := by
            unfold sX15_worthNow_171
            refine s_q (fun u eu => s_q (fun y ey => ?_))
            have ey2 : y.toInt = x8.toInt + 1 := by rw [ey]; exact ny.2
            have ey3 : y.toNatClampNeg = x8.toNatClampNeg + 1 := by rw [ey]; exact ny.1
            clear ey
            have mu : x7.toInt * (hI h x0 13).toInt ≤ 600000 * 64 := Int.mul_le_mul (by omega) s64 (by omega) (by decide)
            have mu0 : 0 ≤ x7.toInt * (hI h x0 13).toInt := Int.mul_nonneg (by omega) (by omega)
            have eu2 : u.toInt = x7.toInt * (hI h x0 13).toInt := by rw [eu, k13, tm (by omega)]
            refine ih Tg Kg st (by omega) (by omega) ?_ (by omega)
            rw [eu2, e7, ey3, Int.pow_succ, Int.mul_assoc]
          refine s_br (fun _ => nx) (fun nz => ?_)
          have nz9 : ¬ x9 = 0 := fun w => nz (by rw [w]; rfl)
          refine s_br (fun _ => ?_) (fun _ => nx)
          refine s_dd (zJ13_numberOfTrailingZeros_95d88 hF Tg nz9) (fun o3 eq3 ⟨e3, i3'⟩ => ?_)
          rw [e3]
          obtain ⟨_, k, k64, kb, kv⟩ := ntz_q nz9 eq3
          have ck := clamp_i i3'.1
          have ekk : o3.1.toNatClampNeg = k := by omega
          obtain ⟨g1, g2⟩ := B k k64 kb
          refine s_q (fun v4 ev4 => ?_)
          obtain ⟨sub, k2, k264, k2b, k2o⟩ := low_off nz9
          rw [← ev4] at sub k2o
          clear ev4
          have km' := kfI x1.toNatClampNeg Kg qm
          have ke := fun i => kfI i Kg qe
          refine s_cVfq (S := fS EML []) (P := fun o => Kf ρ EML g o) Tg (fs_sub (pmA_s hA rfl) fs_n) (meetAll_q (x6 := x3) hF (pmA_s fs_a rfl) (th_in _ Tg) Wg i1 (by rw [kfI 49 Kg r0]; exact ln) a2 (by rw [k13, km']; exact l2) a8 (by rw [km']; exact l8) i3'.1 (by rw [k13]; exact e7) (fun i hi => by rw [km'] at hi; rw [k13]; exact st i hi) (by unfold owS; rw [ke]; exact g2) ?_) (fun o5 T5 f5 K5 => ?_)
          · unfold Gd
            rw [km', k13, kfI 10 Kg qR, ekk]
            simp only [ke]
            exact g1
          · refine ih2 T5 (kf_t Kg (kf_m K5 rfl)) (fun i hi => by rw [kfI i K5 qt]; exact st i hi) (fun t t64 bt => B t t64 (sub t bt)) ?_
            have := (pc_lt sub k2b k2o 64).2 k264
            omega
      have empty : Sat (sX15_worthNow_125 F (sX15_worthNow_73 F f) F g x0 x1 x2 x3 (hI h rm x1.toNatClampNeg) (x2 &&& (1 : Int32)) x7 x8 (0 : Int64)) (fun o => TH ρ c o.2 ∧ Rg (-1000000) 1000000 o.1 ∧ Kf ρ EVL h o.2) := l125 F Tg Kg st (fun t _ bt => by
        have : bitJ (0 : Int64) t = false := BitVec.getLsbD_zero
        rw [this] at bt
        exact absurd bt (by decide)) (by have := pc_le (0 : Int64) 64; omega)
      refine s_br (fun _ => ?_) (fun _ => b186 Tg Kg)
      refine s_ref Wg.1.2.2.1 ?_
      refine s_gd (by rw [thN Tg qe (k := 100) (n := 20480) rfl (by decide)]; exact rg_inB ix (by decide)) ?_
      unfold sX15_sideOf
      refine s_cl (s_some ?_)
      dsimp only
      rw [ixn, kfI _ Kg qe]
      refine s_br (fun os => ?_) (fun _ => empty)
      have own : owS h re x1.toNatClampNeg x8.toNatClampNeg = (x2 &&& (1 : Int32)).toInt := by unfold owS; rw [os]
      refine s_ref Wg.2.1.2.2.2.2.1 ?_
      have e49 := kfI 49 Kg r0
      have k13 := kfI 13 Kg r0
      have kmm := kfI x1.toNatClampNeg Kg qm
      have d1 := (Wg.2.2.2.2.2.1 rm mb Wg.1.2.1 Wg.2.1.2.2.2.1 x1.toNatClampNeg (by rw [e49]; omega)).1
      have ibm := (thI Tg qmb (k := 104) (i := x1.toNatClampNeg) (lo := 0) (hi := 1500000) rfl).1
      have q0 : 0 ≤ x2.toInt / 2 := by omega
      have qW : x2.toInt / 2 < (hI g x0 13).toInt ^ (hI g rm x1.toNatClampNeg).toNatClampNeg := by rw [k13, kmm]; omega
      have mub : (hI g rm x1.toNatClampNeg).toInt * (x2.toInt / 2) ≤ (hI g rm x1.toNatClampNeg).toInt * (hI g x0 13).toInt ^ (hI g rm x1.toNatClampNeg).toNatClampNeg := Int.mul_le_mul_of_nonneg_left (by omega) (by rw [kmm]; exact im.1)
      refine s_dd (maskOf_q (W := (hI g x0 13).toInt ^ (hI g rm x1.toNatClampNeg).toNatClampNeg) hF Tg r0 i1 Wg.1.2.1 Wg.2.1.2.2.2.1 Wg.1.2.2.1 a2 (by omega) (by omega) a8 (by rw [kmm]; exact l8) (by rw [kfI _ Kg qe, os]; exact fun w => absurd (lt_i w) (by omega))) (fun o8 eq8 ⟨e8, i8'⟩ => ?_)
      have mx := (mask_x i1 (by rw [kmm]; exact im) Wg.1.2.1 Wg.2.1.2.2.2.1 Wg.1.2.2.1 a2 a8 ibm (by omega) eq8).2
      rw [e8]
      refine s_gd (by rw [thN Tg qkm (k := 103) (n := 1500000) rfl (by decide)]; exact rg_inB i8' (by decide)) ?_
      refine l125 F Tg Kg st (fun t t64 bt => ?_) (by have := pc_le (hJ g km o8.1.toNatClampNeg) 64; omega)
      refine ⟨?_, own⟩
      have ci := clamp_i i8'.1
      have og : owS g re x1.toNatClampNeg x8.toNatClampNeg = (x2 &&& (1 : Int32)).toInt := by unfold owS; rw [kfI _ Kg qe, os]
      have gg := Wg.2.2.2.2.2.2.2 x1.toNatClampNeg (x2.toInt / 2) x8.toNatClampNeg t (by rw [e49]; omega) q0 qW (by rw [kmm]; omega) t64 (by
        rw [og]
        have : (mkx g rm mb re x1.toNatClampNeg (x2.toInt / 2) (x2 &&& (1 : Int32)).toInt x8.toNatClampNeg).toNat = o8.1.toNatClampNeg := by omega
        rw [this]
        exact bt)
      unfold Gd at gg ⊢
      rw [kmm, k13, kfI 10 Kg qR] at gg
      simp only [fun i => kfI i Kg qe] at gg
      exact gg
  -- where the men stand
  have l21 : ∀ (f : Nat) {g : Hp} {x6 x7 : Int32}, TH ρ c g → Kf ρ EVL h g → (∀ i : Nat, (i : Int) < x7.toInt → (hI g rt i).toInt = dg (x2.toInt / 2) (hI h x0 13).toInt i) → 0 ≤ x7.toInt → x7.toInt ≤ (hI h rm x1.toNatClampNeg).toInt → x6.toInt = rsD (x2.toInt / 2) (hI h x0 13).toInt x7.toNatClampNeg → 0 ≤ x6.toInt → (6 - x7.toInt).toNat < f → Sat (sX15_worthNow_21 F f g x0 x1 x2 x3 (hI h rm x1.toNatClampNeg) (x2 &&& (1 : Int32)) x6 x7) (fun o => TH ρ c o.2 ∧ Rg (-1000000) 1000000 o.1 ∧ Kf ρ EVL h o.2) := by
    intro f
    induction f with
    | zero => intros; omega
    | succ f ih =>
      intro g x6 x7 Tg Kg st a7 b7 e6 a6 hf
      have c7 := clamp_i a7
      rw [sX15_worthNow_21]
      have k13 := kfI 13 Kg r0
      refine s_br (fun l => ?_) (fun n1 => ?_)
      · have l := le_i l
        refine s_hq (th_wI Tg r0 (k := 16) (i := 62) (lo := 0) (hi := 1) rfl (rg_m (rg_b rfl : Rg 0 0 (0 : Int32)) (by decide)) (by decide) (by decide) (pm_a hA rfl)) (fun h2 T2 w2 => ?_)
        refine s_hq (th_wI T2 r0 (k := 16) (i := 63) (lo := 0) (hi := 1) rfl (rg_m (rg_b rfl : Rg 1 1 (1 : Int32)) (by decide)) (by decide) (by decide) (pm_a hA rfl)) (fun h3 T3 w3 => ?_)
        have K3 : Kf ρ EVL g h3 := kf_t (kf_wI w2 r0) (kf_wI w3 r0)
        refine l73 F T3 (kf_t Kg K3) (fun i hi => ?_) (by decide) (by rw [z0]; exact im.1) ?_ (by rw [z0]; omega)
        · rw [w3, r_I, if_neg (ne_r qt r0 (by decide)), w2, r_I, if_neg (ne_r qt r0 (by decide))]
          exact st i (by omega)
        · show (2 : Int) = 2 * (hI h x0 13).toInt ^ 0
          rw [Int.pow_zero]
          rfl
      · have l7 := nle_i n1
        have i7 : Rg 0 4 x7 := ⟨a7, by omega⟩
        have ny := nc_s i7 (by decide)
        have isg : Rg 9 64 (hI g x0 13) := by rw [k13]; exact is
        have n0 : ¬ hI g x0 13 = 0 := fun z => by have := isg.1; rw [z] at this; exact absurd this (by decide)
        have i6 : Rg 0 2147483647 x6 := ⟨a6, (rg_top x6).2⟩
        have ed : (x6 - x6 / (hI g x0 13) * (hI g x0 13)).toInt = x6.toInt % (hI g x0 13).toInt := tr i6 isg (by decide)
        have m1 := Int.emod_nonneg x6.toInt (show (hI g x0 13).toInt ≠ 0 by have := isg.1; omega)
        have m2 := Int.emod_lt_of_pos x6.toInt (show 0 < (hI g x0 13).toInt by have := isg.1; omega)
        have sg := isg.2
        refine s_ref (by rw [kfR 61 Kg r0]; exact e61) (s_gd n0 ?_)
        refine s_gd (by rw [thN Tg qt (k := 110) (n := 5) rfl (by decide)]; exact rg_inB i7 (by decide)) ?_
        refine s_hq (th_wI Tg qt (k := 110) (lo := 0) (hi := 63) rfl ⟨by rw [ed]; exact m1, by rw [ed]; omega⟩ (by decide) (by decide) (pm_a hA rfl)) (fun h7 T7 w7 => ?_)
        have K7 : Kf ρ EVL g h7 := kf_wI w7 qt
        have k137 := kfI 13 K7 r0
        rw [k137]
        refine s_gd n0 ?_
        refine s_q (fun v ev => s_q (fun y ey => ?_))
        have ey2 : y.toInt = x7.toInt + 1 := by rw [ey]; exact ny.2
        have ey3 : y.toNatClampNeg = x7.toNatClampNeg + 1 := by rw [ey]; exact ny.1
        have ev2 : v.toInt = x6.toInt / (hI g x0 13).toInt := by rw [ev]; exact td i6 isg (by decide)
        clear ey ev
        have d0 : 0 ≤ x6.toInt / (hI g x0 13).toInt := Int.ediv_nonneg a6 (by have := isg.1; omega)
        refine ih T7 (kf_t Kg K7) (fun i hi => ?_) (by omega) (by omega) (by rw [ey3, ev2, e6, k13]; rfl) (by omega) (by omega)
        rw [w7, r_I]
        by_cases w : i = x7.toNatClampNeg
        · rw [if_pos ⟨rfl, w⟩, ed, e6, k13, w]
          rfl
        · rw [if_neg (fun z => w z.2)]
          exact st i (by omega)
  unfold sX15_worthNow
  refine s_ref e46 (s_gd (by rw [thN T qm (k := 99) (n := 4096) rfl (by decide)]; exact rg_inB i1 (by decide)) ?_)
  refine s_q (fun v3 e3 => s_q (fun v4 e4' => s_q (fun v5 e5 => ?_)))
  rw [e3, e4']
  have e52' : v5.toInt = x2.toInt / 2 := by rw [e5]; exact ti_shr1
  exact l21 F T kf_r (fun i hi => absurd hi (by rw [z0]; omega)) (by decide) (by rw [z0]; exact im.1) (by rw [e52']; rfl) (by omega) (by rw [z0]; omega)
end
end
section
/-! a solution is worked out: each round that goes on leaves fewer open states -/
def opC (h : Hp) (r : Nat) : Nat → Nat
  | 0 => 0
  | n + 1 => opC h r n + if hI h r n = (2000000 : Int32) then 1 else 0
theorem op_le {h : Hp} {r : Nat} : ∀ n, opC h r n ≤ n := by
  intro n
  induction n with
  | zero => exact Nat.le_refl _
  | succ n ih =>
    show opC h r n + (if hI h r n = (2000000 : Int32) then 1 else 0) ≤ n + 1
    split <;> omega
theorem op_eq {h o : Hp} {r : Nat} (e : ∀ i, hI o r i = hI h r i) : ∀ n, opC o r n = opC h r n := by
  intro n
  induction n with
  | zero => rfl
  | succ n ih =>
    show opC o r n + (if hI o r n = (2000000 : Int32) then 1 else 0) = opC h r n + (if hI h r n = (2000000 : Int32) then 1 else 0)
    rw [ih, e]
theorem op_w {h o : Hp} {r j : Nat} {v : Int32} (w : o = wI h r j v) (ov : ¬ v = (2000000 : Int32)) (oj : hI h r j = (2000000 : Int32)) : ∀ n, opC o r n + (if j < n then 1 else 0) = opC h r n := by
  intro n
  induction n with
  | zero => rw [if_neg (by omega)]; rfl
  | succ n ih =>
    show opC o r n + (if hI o r n = (2000000 : Int32) then 1 else 0) + _ = opC h r n + (if hI h r n = (2000000 : Int32) then 1 else 0)
    by_cases z : n = j
    · subst z
      have e : hI o r n = v := by rw [w, r_I, if_pos ⟨rfl, rfl⟩]
      rw [e, if_neg ov, oj, if_pos rfl, if_pos (by omega)]
      rw [if_neg (by omega)] at ih
      omega
    · have e : hI o r n = hI h r n := by rw [w, r_I, if_neg (fun y => z y.2)]
      rw [e]
      by_cases q : j < n
      · rw [if_pos q] at ih
        rw [if_pos (show j < n + 1 by omega)]
        omega
      · rw [if_neg q] at ih
        rw [if_neg (show ¬ j < n + 1 by omega)]
        omega
theorem cmp_lt {x : Int32} {y : Int64} (n : ¬ 0 ≤ lg_cmp x.toInt64 y) : x.toInt < y.toInt := by
  have e : x.toInt64.toInt = x.toInt := Int32.toInt_toInt64 x
  rw [← e]
  generalize x.toInt64 = z at n
  unfold lg_cmp at n
  by_cases q : z > y
  · rw [if_pos q] at n; exact absurd (by decide) n
  · rw [if_neg q] at n
    by_cases q2 : z = y
    · rw [if_pos q2] at n; exact absurd (by decide) n
    · have q' : ¬ y < z := q
      rw [Int64.lt_iff_toInt_lt] at q'
      have : ¬ z.toInt = y.toInt := fun w => q2 (Int64.toInt_inj.mp w)
      omega
section
variable {ρ : Nat → Nat} {c : Cm} {x0 rm re rb rk rs ro rp rt rw mb km R Bc Bm F : Nat} {a : Int} {h o : Hp}
theorem workOut_q (hF : 2000000 ≤ F) (hA : pmA c EWL) (T : TH ρ c h) (W : WkP ρ x0 rm re rb rk rs ro rp rt rw mb km R Bc Bm a h) : Sat (sX15_workOut F h x0) (fun o => TH ρ c o ∧ Kf ρ EWL h o) := by
  have W' := W
  obtain ⟨Q, ⟨e58, e61, e51, e53, e52, e4, e13, e14⟩, ⟨qp, qt, qw, qmb, qkm, qR, qBc, qBm⟩, P, A, D, na, GG⟩ := W'
  have Q' := Q
  obtain ⟨⟨r0, qm, qe, qb, qk, qs, qo⟩, ⟨e46, e47, e48, e55, e56, e57⟩⟩ := Q'
  have z0 : (0 : Int32).toInt = 0 := rfl
  have is := thI T r0 (k := 16) (i := 13) (lo := 9) (hi := 64) rfl
  have s9 := is.1
  have B2 := P.2.1
  have n4 := thI T r0 (k := 16) (i := 49) (lo := 0) (hi := 4096) rfl
  have n41 := n4.2
  have wm : ∀ {g : Hp}, Kf ρ EWL h g → WkP ρ x0 rm re rb rk rs ro rp rt rw mb km R Bc Bm a g := fun Kg => wkp_k T Kg W
  -- the last loop
  have l111 : ∀ (f : Nat) {g : Hp} {x3 : Int32}, TH ρ c g → Kf ρ EWL h g → 0 ≤ x3.toInt → x3.toInt ≤ 600000 → (600001 - x3.toInt).toNat < f → Sat (sX15_workOut_111 F f g x0 x3) (fun o => TH ρ c o ∧ Kf ρ EWL h o) := by
    intro f
    induction f with
    | zero => intros; omega
    | succ f ih =>
      intro g x3 Tg Kg a3 b3 hf
      rw [sX15_workOut_111]
      unfold sX15_workOut_148
      have Wg := wm Kg
      have e51g := Wg.2.1.2.2.1
      refine s_br (fun _ => s_some ⟨Tg, Kg⟩) (fun n1 => ?_)
      have l3 : x3.toInt < (hJ g x0 59).toInt := cmp_lt n1
      have j59 := kfJ 59 Kg r0
      rw [j59] at l3
      have i3 : Rg 0 599999 x3 := ⟨a3, by have := B2.2; omega⟩
      have i32 := i3.2
      have ny := nc_s i3 (by decide)
      have gw : inB x3 (hN g rw) := by rw [thN Tg qw (k := 102) (n := 600000) rfl (by decide)]; exact rg_inB i3 (by decide)
      have fin : ∀ v : Int32, Rg (-1000000) 3000000 v → Sat (gd (inB x3 (hN g rw)) <| nm (wI g rw x3.toNatClampNeg v) fun h_2 => nm (x3 + (1 : Int32)) fun v_3 => sX15_workOut_111 F f h_2 x0 v_3) (fun o => TH ρ c o ∧ Kf ρ EWL h o) := fun v iv => by
        refine s_gd gw ?_
        refine s_hq (th_wI Tg qw (k := 102) (lo := -1000000) (hi := 3000000) rfl iv (by decide) (by decide) (pm_a hA rfl)) (fun h2 T2 w2 => ?_)
        refine s_q (fun y ey => ?_)
        have ey2 : y.toInt = x3.toInt + 1 := by rw [ey]; exact ny.2
        clear ey
        exact ih T2 (kf_t Kg (kf_wI w2 qw)) (by omega) (by omega) (by omega)
      refine s_ref e51g (s_ref e51g (s_gd gw ?_))
      refine s_br (fun _ => fin _ (rg_m (rg_b rfl : Rg 0 0 (0 : Int32)) (by decide))) (fun _ => ?_)
      exact s_ref e51g (s_gd gw (fin _ (thI Tg qw (k := 102) (lo := -1000000) (hi := 3000000) rfl)))
  -- round by round
  have l4 : ∀ (f : Nat) {g : Hp} {x1 x2 : Int32}, TH ρ c g → Kf ρ EWL h g → 1 ≤ x1.toInt → 0 < f → (¬ x2 = 0 → x1.toInt + (opC g rw 600000 : Int) ≤ 600001 ∧ opC g rw 600000 + 1 < f) → Sat (sX15_workOut_4 F f g x0 x1 x2) (fun o => TH ρ c o ∧ Kf ρ EWL h o) := by
    intro f
    induction f with
    | zero => intros; omega
    | succ f ih =>
      intro g x1 x2 Tg Kg a1 _ cnt
      rw [sX15_workOut_4]
      refine s_br (fun _ => l111 F Tg Kg (by decide) (by decide) (by rw [z0]; omega)) (fun nz => ?_)
      obtain ⟨ct1, ct2⟩ := cnt nz
      generalize hC : opC g rw 600000 = C0 at ct1 ct2
      have i1 : Rg 0 2000000 x1 := ⟨by omega, by omega⟩
      have n1' := nc_s (x := x1) (b := 2000000) i1 (by decide)
      -- set by set
      have l12 : ∀ (ff : Nat) {g : Hp} {x2 x3 : Int32}, TH ρ c g → Kf ρ EWL h g → 0 ≤ x3.toInt → (x2 = 0 → opC g rw 600000 ≤ C0) → (¬ x2 = 0 → opC g rw 600000 < C0) → (4097 - x3.toInt).toNat < ff → Sat (sX15_workOut_12 F (sX15_workOut_4 F f) ff g x0 x1 x2 x3) (fun o => TH ρ c o ∧ Kf ρ EWL h o) := by
        intro ff
        induction ff with
        | zero => intros; omega
        | succ ff ih2 =>
          intro g x2 x3 Tg Kg a3 q1 q2 hf
          have Wg := wm Kg
          have k49 := kfI 49 Kg r0
          have k13 := kfI 13 Kg r0
          rw [sX15_workOut_12]
          refine s_br (fun _ => ?_) (fun n1 => ?_)
          · refine s_q (fun y ey => ?_)
            have ey2 : y.toInt = x1.toInt + 1 := by rw [ey]; exact n1'.2
            clear ey
            refine ih Tg Kg (by omega) (by omega) (fun nx => ?_)
            have := q2 nx
            exact ⟨by omega, by omega⟩
          · have l3 := nle_i n1
            rw [k49] at l3
            have i3 : Rg 0 4095 x3 := ⟨a3, by omega⟩
            have c3 := clamp_i a3
            have ny3 := nc_s i3 (by decide)
            have km' := kfI x3.toNatClampNeg Kg qm
            have B3 := P.2.2.1 rm rb e46 e48 x3.toNatClampNeg (by omega)
            have ib := thI T qb (k := 101) (i := x3.toNatClampNeg) (lo := 0) (hi := 600000) rfl
            have ib0 := ib.1
            have B22 := B2.2
            refine s_cl (s_imp (sizeOf_q (x1 := x3) (rm := rm) (by omega) Tg r0 i3 Wg.1.2.1 (by rw [k13, km']; omega)) (fun o3 ⟨e3, v3⟩ => ?_))
            rw [e3]
            rw [k13, km'] at v3
            -- state by state
            have l30 : ∀ (f3 : Nat) {g : Hp} {x2 x5 : Int32}, TH ρ c g → Kf ρ EWL h g → 0 ≤ x5.toInt → (x2 = 0 → opC g rw 600000 ≤ C0) → (¬ x2 = 0 → opC g rw 600000 < C0) → (600001 - x5.toInt).toNat < f3 → Sat (sX15_workOut_30 F (sX15_workOut_4 F f) (sX15_workOut_12 F (sX15_workOut_4 F f) ff) f3 g x0 x1 x2 x3 o3.1 x5) (fun o => TH ρ c o ∧ Kf ρ EWL h o) := by
              intro f3
              induction f3 with
              | zero => intros; omega
              | succ f3 ih3 =>
                intro g x2 x5 Tg Kg a5 q1 q2 hf3
                have Wg := wm Kg
                have k13 := kfI 13 Kg r0
                rw [sX15_workOut_30]
                refine s_br (fun _ => ?_) (fun n5 => ?_)
                · refine s_q (fun y ey => ?_)
                  have ey2 : y.toInt = x3.toInt + 1 := by rw [ey]; exact ny3.2
                  clear ey
                  exact ih2 Tg Kg (by omega) q1 q2 (by omega)
                have l5 := nle_i n5
                have i5 : Rg 0 599999 x5 := ⟨a5, by omega⟩
                have ny5 := nc_s i5 (by decide)
                refine s_ref Wg.1.2.2.2.1 ?_
                refine s_gd (by rw [thN Tg qb (k := 101) (n := 4096) rfl (by decide)]; exact rg_inB i3 (by decide)) ?_
                refine s_q (fun v5 ev => ?_)
                have kb' := kfI x3.toNatClampNeg Kg qb
                have ev2 : v5.toInt = (hI h rb x3.toNatClampNeg).toInt + x5.toInt := by rw [ev, kb', ta (by omega)]
                clear ev
                have iv5 : Rg 0 599999 v5 := ⟨by omega, by omega⟩
                have c5 := clamp_i iv5.1
                refine s_ref Wg.2.1.2.2.1 ?_
                refine s_gd (by rw [thN Tg qw (k := 102) (n := 600000) rfl (by decide)]; exact rg_inB iv5 (by decide)) ?_
                unfold sX15_workOut_73 sX15_workOut_91
                have nxt : ∀ {g2 : Hp} {y2 : Int32}, TH ρ c g2 → Kf ρ EWL h g2 → (y2 = 0 → opC g2 rw 600000 ≤ C0) → (¬ y2 = 0 → opC g2 rw 600000 < C0) → Sat (nm (x5 + (1 : Int32)) fun v_1 => sX15_workOut_30 F (sX15_workOut_4 F f) (sX15_workOut_12 F (sX15_workOut_4 F f) ff) f3 g2 x0 x1 y2 x3 o3.1 v_1) (fun o => TH ρ c o ∧ Kf ρ EWL h o) := fun {g2 y2} T2 K2 p1 p2 => by
                  refine s_q (fun y ey => ?_)
                  have ey2 : y.toInt = x5.toInt + 1 := by rw [ey]; exact ny5.2
                  clear ey
                  exact ih3 T2 K2 (by omega) p1 p2 (by omega)
                refine s_br (fun op => ?_) (fun _ => ?_)
                · refine s_cIfq (S := fS EVL []) (lo := -1000000) (hi := 1000000) (P := fun o => Kf ρ EVL g o.2) Tg (fs_sub (pmA_s hA rfl) fs_n) (s_imp (worthNow_q (by omega) fs_a (th_in _ Tg) Wg i3 (by rw [kfI 49 Kg r0]; exact l3) a5 (by rw [k13, kfI _ Kg qm]; omega) i1) (fun o w => ⟨⟨w.1, w.2.1⟩, w.2.2⟩)) (fun o9 T9 i9 f9 K9 => ?_)
                  have K9' : Kf ρ EWL h o9.2 := kf_t Kg (kf_m K9 rfl)
                  have ow : ∀ i, hI o9.2 rw i = hI g rw i := fun i => kfI i K9 qw
                  have oc : opC o9.2 rw 600000 = opC g rw 600000 := op_eq ow _
                  refine s_br (fun _ => nxt T9 K9' (fun w => by rw [oc]; exact q1 w) (fun w => by rw [oc]; exact q2 w)) (fun _ => ?_)
                  refine s_ref (wm K9').2.1.2.2.1 ?_
                  refine s_gd (by rw [thN T9 qw (k := 102) (n := 600000) rfl (by decide)]; exact rg_inB iv5 (by decide)) ?_
                  refine s_hq (th_wI T9 qw (k := 102) (lo := -1000000) (hi := 3000000) rfl (rg_m i9 (by decide)) (by decide) (by decide) (pm_a hA rfl)) (fun h4 T4 w4 => ?_)
                  have o4 := op_w w4 (fun z => by have := i9.2; rw [z] at this; exact absurd this (by decide)) (by rw [ow]; exact op) 600000
                  rw [if_pos (by have := iv5.2; omega), oc] at o4
                  have le0 : opC g rw 600000 ≤ C0 := by
                    by_cases z : x2 = 0
                    · exact q1 z
                    · have := q2 z; omega
                  exact nxt T4 (kf_t K9' (kf_wI w4 qw)) (fun w => absurd w (by decide)) (fun _ => by omega)
                · exact s_br (fun _ => nxt Tg Kg q1 q2) (fun n => absurd rfl n)
            exact l30 F Tg Kg (by decide) q1 q2 (by rw [z0]; omega)
      exact l12 F Tg Kg (by decide) (fun _ => by omega) (fun w => absurd rfl w) (by rw [z0]; omega)
  unfold sX15_workOut
  have := op_le (h := h) (r := rw) 600000
  exact l4 F T kf_r (by decide) (by omega) (fun _ => ⟨by show (1 : Int) + _ ≤ _; omega, by omega⟩)
end
end
section
/-! solve: all states are begun, and the solution is worked out -/
abbrev EBG : List (Nat × Nat) := [(102, 999), (86, 999), (16, 23), (16, 24), (16, 29), (87, 999), (88, 999), (89, 999), (105, 999), (103, 999), (62, 999), (63, 999), (64, 999), (65, 999), (13, 1), (13, 2), (13, 3), (13, 7), (66, 999), (67, 999), (68, 999), (69, 999), (70, 999), (71, 999), (72, 999), (14, 0)]
section
variable {ρ : Nat → Nat} {c : Cm} {x0 rm re rb rk rs ro rp rt rw mb km R Bc Bm F : Nat} {a : Int} {h o : Hp}
theorem wkp_b (K : Kf ρ EBG h o) (G' : MkG x0 rm mb re km R o) (W : WkP ρ x0 rm re rb rk rs ro rp rt rw mb km R Bc Bm a h) : WkP ρ x0 rm re rb rk rs ro rp rt rw mb km R Bc Bm a o := by
  obtain ⟨⟨⟨r0, qm, qe, qb, qk, qs, qo⟩, ⟨e46, e47, e48, e55, e56, e57⟩⟩, ⟨e58, e61, e51, e53, e52, e4, e13, e14⟩, ⟨qp, qt, qw, qmb, qkm, qR, qBc, qBm⟩, P, A, D, na, G⟩ := W
  refine ⟨⟨⟨r0, qm, qe, qb, qk, qs, qo⟩, ⟨by rw [kfR 46 K r0]; exact e46, by rw [kfR 47 K r0]; exact e47, by rw [kfR 48 K r0]; exact e48, by rw [kfR 55 K r0]; exact e55, by rw [kfR 56 K r0]; exact e56, by rw [kfR 57 K r0]; exact e57⟩⟩, ⟨by rw [kfR 58 K r0]; exact e58, by rw [kfR 61 K r0]; exact e61, by rw [kfR 51 K r0]; exact e51, by rw [kfR 53 K r0]; exact e53, by rw [kfR 52 K r0]; exact e52, by rw [kfR 4 K r0]; exact e4, by rw [kfR 13 K qR]; exact e13, by rw [kfR 14 K qR]; exact e14⟩, ⟨qp, qt, qw, qmb, qkm, qR, qBc, qBm⟩, ?_, ?_, ?_, na, G'⟩
  · exact se_k K r0 qm qe qb qk qs e46 e47 e48 e55 e56 P
  · exact alls_of (kfI 49 K r0) (fun i => kfI i K qm) (fun i => kfI i K qe) (fun i => kfI i K qs) (fun i => kfI i K qk) (kfI 10 K qR) (fun i => kfI i K qBc) (fun i => kfI i K qBm) A
  · intro rm' rb' em' eb' k hk
    rw [kfR 46 K r0] at em'
    rw [kfR 53 K r0] at eb'
    rw [kfI 49 K r0] at hk
    have hz1 := r_eq e46 em'
    subst hz1
    have hz1 := r_eq e53 eb'
    subst hz1
    rw [kfI 13 K r0, kfI 49 K r0]
    simp only [kfI _ K qm, kfI _ K qmb]
    exact D rm' rb' em' eb' k hk
/-- all states are begun, and worked out -/
theorem so_357 (hF : 2000000 ≤ F) (hA : pmA c [(102, 999), (86, 999), (16, 23), (16, 24), (16, 29), (87, 999), (88, 999), (89, 999), (105, 999), (103, 999), (108, 999), (109, 999), (110, 999), (16, 62), (16, 63), (16, 50)]) (hS : pmO c 2560 bS7) (hB : pmO c 2528 bL8) (hL : pmO c 2530 lL8) : ∀ (f : Nat) {g : Hp} {x4 : Int32}, TH ρ c g → WkP ρ x0 rm re rb rk rs ro rp rt rw mb km R Bc Bm a g → SqOk x0 g → hI g R 15 = 0 → 1 ≤ (hI g x0 49).toInt → 0 ≤ x4.toInt → (4097 - x4.toInt).toNat < f → Sat (sX15_solve_357 F f g x0 x4) (fun o => TH ρ c o.2 ∧ EnR x0 o.2) := by
  intro f
  induction f with
  | zero => intros; omega
  | succ f ih =>
    intro g x4 T W sq hz l1 a4 hf
    have W' := W
    obtain ⟨Q, ⟨e58, e61, e51, e53, e52, e4, e13, e14⟩, ⟨qp, qt, qw, qmb, qkm, qR, qBc, qBm⟩, P, A, D, na, GG⟩ := W'
    have Q' := Q
    obtain ⟨⟨r0, qm, qe, qb, qk, qs, qo⟩, ⟨e46, e47, e48, e55, e56, e57⟩⟩ := Q'
    rw [sX15_solve_357]
    unfold sX15_solve_372 sX15_solve_408
    refine s_br (fun _ => ?_) (fun n1 => ?_)
    · refine s_cVfq (S := fS EWL []) (P := fun o => Kf ρ EWL g o) T (fs_sub (pmA_s hA rfl) fs_n) (workOut_q hF fs_a (th_in _ T) W) (fun o2 T2 f2 K2 => ?_)
      have i49 := thI T2 r0 (k := 16) (i := 49) (lo := 0) (hi := 4096) rfl
      refine s_hq (th_wI T2 r0 (k := 16) (i := 50) (lo := 0) (hi := 4096) rfl i49 (by decide) (by decide) (pm_a hA rfl)) (fun h1 T1 w1 => ?_)
      refine s_some ⟨T1, fun _ => ?_⟩
      have W2 := wkp_k T K2 W
      have K1 : Kf ρ [(16, 50)] o2 h1 := kf_wI w1 r0
      refine ⟨se_k K1 r0 qm qe qb qk qs W2.1.2.1 W2.1.2.2.1 W2.1.2.2.2.1 W2.1.2.2.2.2.1 W2.1.2.2.2.2.2.1 W2.2.2.2.1, ?_⟩
      rw [kfI 49 K1 r0, kfI 49 K2 r0]
      exact l1
    · have l4 := nle_i n1
      have s4 := (thI T r0 (k := 16) (i := 49) (lo := 0) (hi := 4096) rfl).2
      have i4 : Rg 0 4095 x4 := ⟨a4, by omega⟩
      have c4 := clamp_i a4
      have ny4 := nc_s i4 (by decide)
      have B3 := P.2.2.1 rm rb e46 e48 x4.toNatClampNeg (by omega)
      have B2 := P.2.1.2
      have ib0 := (thI T qb (k := 101) (i := x4.toNatClampNeg) (lo := 0) (hi := 600000) rfl).1
      refine s_cl (s_imp (sizeOf_q (x1 := x4) (rm := rm) (by omega) T r0 i4 e46 (by omega)) (fun o3 ⟨e3, v3⟩ => ?_))
      rw [e3]
      have l377 : ∀ (ff : Nat) {g2 : Hp} {x6 : Int32}, TH ρ c g2 → WkP ρ x0 rm re rb rk rs ro rp rt rw mb km R Bc Bm a g2 → SqOk x0 g2 → hI g2 R 15 = 0 → hI g2 x0 49 = hI g x0 49 → hI g2 x0 13 = hI g x0 13 → hI g2 rm x4.toNatClampNeg = hI g rm x4.toNatClampNeg → 0 ≤ x6.toInt → (600001 - x6.toInt).toNat < ff → Sat (sX15_solve_377 F (sX15_solve_357 F f) ff g2 x0 x4 o3.1 x6) (fun o => TH ρ c o.2 ∧ EnR x0 o.2) := by
        intro ff
        induction ff with
        | zero => intros; omega
        | succ ff ih2 =>
          intro g2 x6 T2 W2 sq2 hz2 k49 k13 kmm a6 hf2
          rw [sX15_solve_377]
          unfold sX15_solve_392
          refine s_br (fun _ => ?_) (fun n6 => ?_)
          · refine s_q (fun y ey => ?_)
            have ey2 : y.toInt = x4.toInt + 1 := by rw [ey]; exact ny4.2
            clear ey
            exact ih T2 W2 sq2 hz2 (by rw [k49]; exact l1) (by omega) (by omega)
          · have l6 := nle_i n6
            have i6 : Rg 0 599999 x6 := ⟨a6, by omega⟩
            have ny6 := nc_s i6 (by decide)
            refine s_cVfq (S := fS bgA [(2560, bS7), (2528, bL8), (2530, lL8)]) (P := fun o => MkG x0 rm mb re km R o) T2 (fs_sub (pmA_s hA rfl) (fs_c hS (fs_c hB (fs_c hL fs_n)))) (begin_q (a := a) (by omega) fs_a (fs_o (.head _)) (fs_o (.tail _ (.head _))) (fs_o (.tail _ (.tail _ (.head _)))) (th_in _ T2) r0 sq2 W2.2.2.2.1 W2.1.2.1 W2.2.1.2.2.2.1 W2.1.2.2.1 W2.2.1.2.2.2.2.1 qkm W2.2.1.2.2.2.2.2.1 hz2 i4 (by rw [k49]; exact l4) a6 (by rw [k13, kmm]; omega) W2.2.2.2.2.2.1 na W2.2.2.2.2.2.2.2) (fun o5 T5 f5 G5 => ?_)
            have K5 : Kf ρ EBG g2 o5 := kf_of f5 rfl
            refine s_q (fun y ey => ?_)
            have ey2 : y.toInt = x6.toInt + 1 := by rw [ey]; exact ny6.2
            clear ey
            exact ih2 T5 (wkp_b K5 G5 W2) (sq_fr T2 r0 f5 (fun _ => rfl) (fun _ => rfl) (fun _ => rfl) sq2) (by rw [kfI 15 K5 qR]; exact hz2) (by rw [kfI 49 K5 r0]; exact k49) (by rw [kfI 13 K5 r0]; exact k13) (by rw [kfI _ K5 qm]; exact kmm) (by omega) (by omega)
      have z0 : (0 : Int32).toInt = 0 := rfl
      exact l377 F T W sq hz rfl rfl rfl (by decide) (by rw [z0]; omega)
end
end
