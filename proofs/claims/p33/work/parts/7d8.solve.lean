/-! solve of the reference: masks are paid for ahead, the tape is empty behind it -/
abbrev soB : List (Nat × Nat) := [(16, 49), (16, 50), (16, 59), (99, 999), (100, 999), (101, 999), (102, 999), (103, 999), (104, 999), (105, 999), (106, 999), (107, 999), (108, 999), (109, 999), (110, 999), (86, 999), (87, 999), (88, 999), (89, 999), (16, 23), (16, 24), (16, 29), (16, 62), (16, 63)]
abbrev soC : List (Nat × Nat) := (16, 52) :: soB
abbrev soL : List (Nat × List (Nat × Nat)) := [(2560, bS7), (2528, bL8), (2530, lL8)]
section
variable {ρ : Nat → Nat} {c : Cm} {x0 rm re rb rk rs ro rp rt rw mb R Bc Bm F : Nat} {h : Hp} {a : Int} {y : Int32}
/-- with its masks at 0 a solution may begin -/
theorem so_masksB {km : Nat} (hF : 2000000 ≤ F) (hA : pmA c soB) (hS : pmO c 2560 bS7) (hB : pmO c 2528 bL8) (hL : pmO c 2530 lL8) (T : TH ρ c h) (SR : SlR ρ x0 rm re rb rk rs ro h) (re' : hR h x0 58 = some rp ∧ hR h x0 61 = some rt ∧ hR h x0 51 = some rw ∧ hR h x0 53 = some mb ∧ hR h x0 52 = some km ∧ hR h x0 4 = some R ∧ hR h R 13 = some Bc ∧ hR h R 14 = some Bm) (rl : ρ rp = 109 ∧ ρ rt = 110 ∧ ρ rw = 102 ∧ ρ mb = 104 ∧ ρ km = 103 ∧ ρ R = 15 ∧ ρ Bc = 80 ∧ ρ Bm = 81) (P : SE x0 h) (A : AllS x0 rm re rs rk R Bc Bm h) (D : MBd x0 (hI h x0 49).toInt y.toInt h) (iy : Rg 0 1500000 y) (sq : SqOk x0 h) (hz : hI h R 15 = 0) (l1 : 1 ≤ (hI h x0 49).toInt) : Sat (sX15_solve_304 F h x0 y) (fun o => TH ρ c o.2 ∧ EnR x0 o.2) := by
  unfold sX15_solve_304
  have z0 : (0 : Int32).toInt = 0 := rfl
  have hs : ∀ k w i, fS [(103, 999), (105, 999)] [] k w i = true → cPm c k w i = true := fs_sub (pmA_s hA rfl) fs_n
  refine so_307 (c := cat c (fS [(103, 999), (105, 999)] []) h) (h0 := h) (rk := km) (by omega) fs_a SR.1.1 rl.2.2.2.2.1 re'.2.2.2.2.1 iy (fun o To E Z => ?_) F (th_in _ T) ⟨fun _ _ => rfl, fun _ _ => rfl⟩ (by decide) (by rw [z0]; exact iy.1) (fun i hi => absurd hi (by rw [z0]; omega)) (by rw [z0]; omega)
  have T1 := th_out T hs To
  have K : Kf ρ [(103, 999), (105, 999)] h o := kf_of (fr_u T To.2.2) rfl
  obtain ⟨⟨r0, qm, qe, qb, qk, qs, qo⟩, ⟨e46, e47, e48, e55, e56, e57⟩⟩ := SR
  obtain ⟨e58, e61, e51, e53, e52, e4, e13, e14⟩ := re'
  obtain ⟨qp, qt, qw, qmb, qkm, qR, qBc, qBm⟩ := rl
  have D1 : MBd x0 (hI o x0 49).toInt y.toInt o := by
    intro rm' rb' em' eb' k hk
    rw [kfR 46 K r0] at em'
    rw [kfR 53 K r0] at eb'
    rw [kfI 49 K r0] at hk
    have hz1 := r_eq e46 em'
    subst hz1
    have hz1 := r_eq e53 eb'
    subst hz1
    rw [kfI 13 K r0, kfI 49 K r0]
    simp only [kfI _ K qm, kfI _ K qmb]
    exact D rm' rb' em' eb' k hk
  have e46' : hR o x0 46 = some rm := by rw [kfR 46 K r0]; exact e46
  have e53' : hR o x0 53 = some mb := by rw [kfR 53 K r0]; exact e53
  have G1 : MkG x0 rm mb re km R o := by
    intro set q j t l1 p1 w1 h1 t64 bt
    exfalso
    obtain ⟨b1, b2, _⟩ := mkx_b (rb := mb) (re := re) (thI T1 qm (k := 99) (i := set) (lo := 0) (hi := 5) rfl) p1 w1 h1
    have d1 := (D1 rm mb e46' e53' set l1).1
    have ib := (thI T1 qmb (k := 104) (i := set) (lo := 0) (hi := 1500000) rfl).1
    rw [Z _ (by omega)] at bt
    have : bitJ (0 : Int64) t = false := BitVec.getLsbD_zero
    rw [this] at bt
    exact absurd bt (by decide)
  have W1 : WkP ρ x0 rm re rb rk rs ro rp rt rw mb km R Bc Bm y.toInt o := ⟨⟨⟨r0, qm, qe, qb, qk, qs, qo⟩, ⟨e46', by rw [kfR 47 K r0]; exact e47, by rw [kfR 48 K r0]; exact e48, by rw [kfR 55 K r0]; exact e55, by rw [kfR 56 K r0]; exact e56, by rw [kfR 57 K r0]; exact e57⟩⟩, ⟨by rw [kfR 58 K r0]; exact e58, by rw [kfR 61 K r0]; exact e61, by rw [kfR 51 K r0]; exact e51, e53', by rw [kfR 52 K r0]; exact e52, by rw [kfR 4 K r0]; exact e4, by rw [kfR 13 K qR]; exact e13, by rw [kfR 14 K qR]; exact e14⟩, ⟨qp, qt, qw, qmb, qkm, qR, qBc, qBm⟩, se_k K r0 qm qe qb qk qs e46 e47 e48 e55 e56 P, alls_of (kfI 49 K r0) (fun i => kfI i K qm) (fun i => kfI i K qe) (fun i => kfI i K qs) (fun i => kfI i K qk) (kfI 10 K qR) (fun i => kfI i K qBc) (fun i => kfI i K qBm) A, D1, iy.2, G1⟩
  exact so_357 hF (pmA_s hA rfl) hS hB hL F T1 W1 (by unfold SqOk; rw [kfI 13 K r0, kfI 11 K r0, kfI 12 K r0]; exact sq) (by rw [kfI 15 K qR]; exact hz) (by rw [kfI 49 K r0]; exact l1) (by decide) (by rw [z0]; omega)
end
/-- masks: made once -/
def PM (x0 : Nat) (h o : Hp) : Prop := (o.1 = h.1 ∧ hR o x0 52 = hR h x0 52) ∨ (hR h x0 52 = none ∧ o.1 = (h.1.1 + 1, h.1.2 + 1500000) ∧ ∃ k, hR o x0 52 = some k)
section
variable {ρ : Nat → Nat} {c : Cm} {x0 F : Nat} {h h2 : Hp} {B : Nat × Nat} {v1 : Int32}
theorem solve_r (hF : 2000000 ≤ F) (hA : pmA c soC) (hS : pmO c 2560 bS7) (hB : pmO c 2528 bL8) (hL : pmO c 2530 lL8) (T : TH ρ c h2) (r0 : ρ x0 = 16) (sq : SqOk x0 h2) (N : EnR x0 h2) (iv1 : Rg 0 1200 v1) : Sat (cl (hR h2 x0 4) fun r_3 => br ((hI h2 r_3 15) = 0) (cl (hR h2 x0 4) fun r_5 => br ((hI h2 r_5 18) = 0) (cl (hR h2 x0 4) fun r_7 => br (0 < (hI h2 r_7 20)) (sX15_solve_47 F h2 ) (cl (sX15_hasCatches F h2 x0) fun o_9 => sX15_solve_44 F o_9.2 x0 v1 o_9.1)) (sX15_solve_47 F h2 )) (sX15_solve_47 F h2 )) (MkI ρ c (-2147483648) 2147483647 (fun o => EnR x0 o ∧ PM x0 h2 o)) := by
  unfold sX15_solve_47 sX15_solve_44
  obtain ⟨rm, e46, qm⟩ := thR T r0 (i := 46) (k2 := 99) rfl (by decide)
  obtain ⟨re, e47, qe⟩ := thR T r0 (i := 47) (k2 := 100) rfl (by decide)
  obtain ⟨rb, e48, qb⟩ := thR T r0 (i := 48) (k2 := 101) rfl (by decide)
  obtain ⟨rk, e55, qk⟩ := thR T r0 (i := 55) (k2 := 106) rfl (by decide)
  obtain ⟨rs, e56, qs⟩ := thR T r0 (i := 56) (k2 := 107) rfl (by decide)
  obtain ⟨ro, e57, qo⟩ := thR T r0 (i := 57) (k2 := 108) rfl (by decide)
  obtain ⟨rp, e58, qp⟩ := thR T r0 (i := 58) (k2 := 109) rfl (by decide)
  obtain ⟨rt, e61, qt⟩ := thR T r0 (i := 61) (k2 := 110) rfl (by decide)
  obtain ⟨rw', e51, qw⟩ := thR T r0 (i := 51) (k2 := 102) rfl (by decide)
  obtain ⟨mb, e53, qmb⟩ := thR T r0 (i := 53) (k2 := 104) rfl (by decide)
  obtain ⟨R, e4, qR⟩ := thR T r0 (i := 4) (k2 := 15) rfl (by decide)
  obtain ⟨Bc, e13, qBc⟩ := thR T qR (i := 13) (k2 := 80) rfl (by decide)
  obtain ⟨Bm, e14, qBm⟩ := thR T qR (i := 14) (k2 := 81) rfl (by decide)
  have z0 : (0 : Int32).toInt = 0 := rfl
  -- where nothing has been solved anew
  have keep : ∀ {o : Hp}, TH ρ c o → Kf ρ [(108, 999)] h2 o → ∀ v, MkI ρ c (-2147483648) 2147483647 (fun o => EnR x0 o ∧ PM x0 h2 o) (v, o) := fun {o} To Ko v => ⟨ρ, c, ex_0, To, rg_top _, fun nz => by
    show SE x0 o ∧ _
    have nz' : ¬ hI h2 x0 50 = 0 := by rw [← kfI 50 Ko r0]; exact nz
    obtain ⟨P, l⟩ := N nz'
    exact ⟨se_k Ko r0 qm qe qb qk qs e46 e47 e48 e55 e56 P, by rw [kfI 49 Ko r0]; exact l⟩, Or.inl ⟨To.1.1.trans T.1.1.symm, kfR 52 Ko r0⟩⟩
  have e4' : hR h2 x0 4 = some R := e4
  refine s_ref e4' ?_
  refine s_br (fun hz => ?_) (fun _ => s_some (keep T kf_r _))
  refine s_ref e4' ?_
  refine s_br (fun _ => ?_) (fun _ => s_some (keep T kf_r _))
  refine s_ref e4' ?_
  refine s_br (fun _ => s_some (keep T kf_r _)) (fun _ => ?_)
  refine s_cl (s_imp (zX15_hasCatches (by omega) T r0) (fun o9 ⟨e9, i9⟩ => ?_))
  rw [e9]
  refine s_br (fun _ => ?_) (fun _ => s_some (keep T kf_r _))
  -- the letters
  have hs1 : ∀ k w i, fS [(108, 999)] [] k w i = true → cPm c k w i = true := fs_sub (pmA_s hA rfl) fs_n
  refine so_54 (c := cat c (fS [(108, 999)] []) h2) (by omega) fs_a r0 iv1 (fun o v To => keep (th_out T hs1 To) (kf_of (fr_u T To.2.2) rfl) v) (fun o To W i15 => ?_) F (th_in _ T) (rg_m (rg_b rfl : Rg 0 0 (0 : Int32)) (by decide)) (by rw [z0]; exact iv1.1) (fun _ _ i hi => absurd hi (by rw [z0]; omega)) (by rw [z0]; omega)
  have T3 := th_out T hs1 To
  have K3 : Kf ρ [(108, 999)] h2 o := kf_of (fr_u T To.2.2) rfl
  refine s_hq (th_wI T3 r0 (k := 16) (i := 49) (lo := 0) (hi := 4096) rfl (rg_m (rg_b rfl : Rg 0 0 (0 : Int32)) (by decide)) (by decide) (by decide) (pm_a hA rfl)) (fun h4 T4 w4 => ?_)
  refine s_hq (th_wJ T4 (k := 16) (i := 59) r0 (by decide) (pm_a hA rfl)) (fun h5 T5 w5 => ?_)
  refine s_hq (th_wI T5 r0 (k := 16) (i := 50) (lo := 0) (hi := 4096) rfl (rg_m (rg_b rfl : Rg 0 0 (0 : Int32)) (by decide)) (by decide) (by decide) (pm_a hA rfl)) (fun h6 T6 w6 => ?_)
  have K6 : Kf ρ [(108, 999), (16, 49), (16, 50), (16, 59)] h2 h6 := kf_t (kf_m K3 rfl) (kf_t (kf_wI w4 r0) (kf_t (kf_wJ w5 r0) (kf_wI w6 r0)))
  have x49 : hI h6 x0 49 = 0 := by
    rw [w6, r_I, if_neg (fun w => absurd w.2 (by decide)), w5]
    show hI h4 x0 49 = 0
    rw [w4, r_I, if_pos ⟨rfl, rfl⟩]
  have x59 : hJ h6 x0 59 = 0 := by
    rw [w6]
    show hJ h5 x0 59 = 0
    rw [w5, r_J, if_pos ⟨rfl, rfl⟩]
  have x50 : hI h6 x0 50 = 0 := by rw [w6, r_I, if_pos ⟨rfl, rfl⟩]
  have SR6 : SlR ρ x0 rm re rb rk rs ro h6 := ⟨⟨r0, qm, qe, qb, qk, qs, qo⟩, ⟨by rw [kfR 46 K6 r0]; exact e46, by rw [kfR 47 K6 r0]; exact e47, by rw [kfR 48 K6 r0]; exact e48, by rw [kfR 55 K6 r0]; exact e55, by rw [kfR 56 K6 r0]; exact e56, by rw [kfR 57 K6 r0]; exact e57⟩⟩
  have W6 : RW x0 v1.toInt h6 := fun ro' er i hi => by
    rw [kfR 57 K6 r0] at er
    have hz1 := r_eq e57 er
    subst hz1
    rw [w6, r_I, if_neg (ne_r qo r0 (by decide)), w5]
    show 1 ≤ (hI h4 ro' i).toInt
    rw [w4, r_I, if_neg (ne_r qo r0 (by decide))]
    exact W ro' (by rw [kfR 57 K3 r0]; exact e57) i hi
  have hs3 : ∀ k w i, fS seL [] k w i = true → cPm c k w i = true := fs_sub (pmA_s hA rfl) fs_n
  refine so2_203 (c := cat c (fS seL []) h6) (h0 := h6) (Bc := Bc) (Bm := Bm) (R := R) (by omega) fs_a SR6 (by rw [kfR 4 K6 r0]; exact e4) (by rw [kfR 13 K6 qR]; exact e13) (by rw [kfR 14 K6 qR]; exact e14) qR i15 (fun o v To z => ⟨ρ, c, ex_0, th_out T6 hs3 To, rg_top _, fun nz => absurd z nz, Or.inl ⟨(th_out T6 hs3 To).1.1.trans T.1.1.symm, by rw [(fr_RI (fr_u T6 To.2.2) r0 (by decide) (fun _ => rfl)).2.2, kfR 52 K6 r0]⟩⟩) (fun o7 T7q K67 P7 A7 l7 z7 => ?_) F (th_in _ T6) kf_r (by rw [x49]; rfl) (by rw [x59]; rfl) x50 W6 (by decide) (fun j hj => absurd hj (by rw [z0]; omega)) (by rw [z0]; omega)
  have T7 := th_out T6 hs3 T7q
  -- the masks
  have hs2 : ∀ k w i, fS [(104, 999)] [] k w i = true → cPm c k w i = true := fs_sub (pmA_s hA rfl) fs_n
  refine so_246 (c := cat c (fS [(104, 999)] []) o7) (n0 := (hI o7 x0 49).toInt) (by omega) fs_a r0 (fun o8 y To8 P8 n8 _ D8 iy => ?_) F (th_in _ T7) P7 rfl (by decide) (by rw [z0]; omega) (by decide) (fun rb' erb => ?_) (fun _ _ _ _ k hk => absurd hk (by rw [z0]; omega)) (fun _ _ _ _ k hk => absurd hk (by rw [z0]; omega)) (by rw [z0]; omega)
  · have T8 := th_out T7 hs2 To8
    have K78 : Kf ρ [(104, 999)] o7 o8 := kf_of (fr_u T7 To8.2.2) rfl
    have K8 : Kf ρ soB h2 o8 := kf_t (kf_m K6 rfl) (kf_t (kf_m K67 rfl) (kf_m K78 rfl))
    have A8 : AllS x0 rm re rs rk R Bc Bm o8 := alls_of (kfI 49 K78 r0) (fun i => kfI i K78 qm) (fun i => kfI i K78 qe) (fun i => kfI i K78 qs) (fun i => kfI i K78 qk) (kfI 10 K78 qR) (fun i => kfI i K78 qBc) (fun i => kfI i K78 qBm) A7
    have SR8 : SlR ρ x0 rm re rb rk rs ro o8 := ⟨⟨r0, qm, qe, qb, qk, qs, qo⟩, ⟨by rw [kfR 46 K8 r0]; exact e46, by rw [kfR 47 K8 r0]; exact e47, by rw [kfR 48 K8 r0]; exact e48, by rw [kfR 55 K8 r0]; exact e55, by rw [kfR 56 K8 r0]; exact e56, by rw [kfR 57 K8 r0]; exact e57⟩⟩
    have sq8 : SqOk x0 o8 := by unfold SqOk; rw [kfI 13 K8 r0, kfI 11 K8 r0, kfI 12 K8 r0]; exact sq
    have hz8 : hI o8 R 15 = 0 := by rw [kfI 15 K8 qR]; exact hz
    have D8' : MBd x0 (hI o8 x0 49).toInt y.toInt o8 := by rw [n8]; exact D8
    have l8 : 1 ≤ (hI o8 x0 49).toInt := by rw [n8]; exact l7
    refine s_onr (fun none' => ?_) (fun km ekm => ?_)
    · refine s_q (fun a4 ea => ?_)
      refine s_q (fun h9 eh => ?_)
      obtain ⟨ρ', c', X, T9, qa, O9⟩ := newMasks T8 ea eh
      unfold sX15_solve_301
      have r0' := ex_r X r0 (by decide)
      have hA' := ex_A X hA
      have T10 : TH ρ' c' (wR h9 x0 52 (some a4)) := th_un (th_wR T9 r0' (k := 16) (i := 52) (j := 8) (k2 := 103) rfl (by decide) rfl (by decide) qa rfl nid_8 (by decide) (by decide) rfl rfl (fun w => absurd rfl w) (pm_a hA' rfl))
      refine s_hq T10 (fun h10 T10 w10 => ?_)
      -- all that was there is as it was
      have K10 : Kf ρ [(16, 52)] o8 h10 := fun b i n x => by
        have lt : b < o8.1.1 := by rw [T8.1.1]; exact T8.2.1.2.2.1 b n
        obtain ⟨q1, q2, q3, _⟩ := O9 b lt
        rw [w10]
        refine ⟨q1 i, q2 i, ?_⟩
        rw [r_R, if_neg]
        · exact q3 i
        · rintro ⟨q5, q6⟩
          subst q5; subst q6
          rw [r0] at x
          exact absurd x (by show ¬ true = false; decide)
      have km10 : hR h10 x0 52 = some a4 := by rw [w10, r_R, if_pos ⟨rfl, rfl⟩]
      refine s_imp (so_masksB (ρ := ρ') (c := cat c' (fS soB soL) h10) (km := a4) (R := R) (Bc := Bc) (Bm := Bm) (rp := rp) (rt := rt) (rw := rw') (mb := mb) (y := y) hF fs_a (fs_o (.head _)) (fs_o (.tail _ (.head _))) (fs_o (.tail _ (.tail _ (.head _)))) (th_in (fS soB soL) T10) ⟨⟨r0', ex_r X qm (by decide), ex_r X qe (by decide), ex_r X qb (by decide), ex_r X qk (by decide), ex_r X qs (by decide), ex_r X qo (by decide)⟩, ⟨by rw [kfR 46 K10 r0]; exact SR8.2.1, by rw [kfR 47 K10 r0]; exact SR8.2.2.1, by rw [kfR 48 K10 r0]; exact SR8.2.2.2.1, by rw [kfR 55 K10 r0]; exact SR8.2.2.2.2.1, by rw [kfR 56 K10 r0]; exact SR8.2.2.2.2.2.1, by rw [kfR 57 K10 r0]; exact SR8.2.2.2.2.2.2⟩⟩ ⟨by rw [kfR 58 K10 r0, kfR 58 K8 r0]; exact e58, by rw [kfR 61 K10 r0, kfR 61 K8 r0]; exact e61, by rw [kfR 51 K10 r0, kfR 51 K8 r0]; exact e51, by rw [kfR 53 K10 r0, kfR 53 K8 r0]; exact e53, km10, by rw [kfR 4 K10 r0, kfR 4 K8 r0]; exact e4, by rw [kfR 13 K10 qR, kfR 13 K8 qR]; exact e13, by rw [kfR 14 K10 qR, kfR 14 K8 qR]; exact e14⟩ ⟨ex_r X qp (by decide), ex_r X qt (by decide), ex_r X qw (by decide), ex_r X qmb (by decide), qa, ex_r X qR (by decide), ex_r X qBc (by decide), ex_r X qBm (by decide)⟩ (se_k K10 r0 qm qe qb qk qs SR8.2.1 SR8.2.2.1 SR8.2.2.2.1 SR8.2.2.2.2.1 SR8.2.2.2.2.2.1 P8) (alls_of (kfI 49 K10 r0) (fun i => kfI i K10 qm) (fun i => kfI i K10 qe) (fun i => kfI i K10 qs) (fun i => kfI i K10 qk) (kfI 10 K10 qR) (fun i => kfI i K10 qBc) (fun i => kfI i K10 qBm) A8) ?_ iy (by unfold SqOk; rw [kfI 13 K10 r0, kfI 11 K10 r0, kfI 12 K10 r0]; exact sq8) (by rw [kfI 15 K10 qR]; exact hz8) (by rw [kfI 49 K10 r0]; exact l8)) (fun o w => ⟨ρ', c', X, th_out T10 (fs_sub (pmA_s hA' rfl) (fs_c (ex_O X hS) (fs_c (ex_O X hB) (fs_c (ex_O X hL) fs_n)))) w.1, rg_top _, w.2, Or.inr ⟨by rw [← kfR 52 K8 r0]; exact none', by rw [(th_out T10 (fs_sub (pmA_s hA' rfl) (fs_c (ex_O X hS) (fs_c (ex_O X hB) (fs_c (ex_O X hL) fs_n)))) w.1).1.1, ← T10.1.1, w10]; show h9.1 = _; rw [eh, nC_1, T8.1.1, ← T.1.1]; rfl, a4, by rw [(fr_RI (fr_u T10 w.1.2.2) r0' (by decide) (fun _ => rfl)).2.2]; exact km10⟩⟩)
      intro rm' rb' em' eb' k hk
      rw [kfR 46 K10 r0] at em'
      rw [kfR 53 K10 r0] at eb'
      rw [kfI 49 K10 r0] at hk
      have hz1 := r_eq SR8.2.1 em'
      subst hz1
      have hz1 := r_eq (show hR o8 x0 53 = some mb by rw [kfR 53 K8 r0]; exact e53) eb'
      subst hz1
      rw [kfI 13 K10 r0, kfI 49 K10 r0]
      simp only [kfI _ K10 qm, kfI _ K10 qmb]
      exact D8' rm' rb' em' eb' k hk
    · have qkm : ρ km = 103 := thRn T8 r0 (i := 52) (k2 := 103) rfl (by decide) ekm
      exact s_imp (so_masksB (c := cat c (fS soB soL) o8) (km := km) (R := R) (Bc := Bc) (Bm := Bm) (rp := rp) (rt := rt) (rw := rw') (mb := mb) (y := y) hF fs_a (fs_o (.head _)) (fs_o (.tail _ (.head _))) (fs_o (.tail _ (.tail _ (.head _)))) (th_in (fS soB soL) T8) SR8 ⟨by rw [kfR 58 K8 r0]; exact e58, by rw [kfR 61 K8 r0]; exact e61, by rw [kfR 51 K8 r0]; exact e51, by rw [kfR 53 K8 r0]; exact e53, ekm, by rw [kfR 4 K8 r0]; exact e4, by rw [kfR 13 K8 qR]; exact e13, by rw [kfR 14 K8 qR]; exact e14⟩ ⟨qp, qt, qw, qmb, qkm, qR, qBc, qBm⟩ P8 A8 D8' iy sq8 hz8 l8) (fun o w => ⟨ρ, c, ex_0, th_out T8 (fs_sub (pmA_s hA rfl) (fs_c hS (fs_c hB (fs_c hL fs_n)))) w.1, rg_top _, w.2, Or.inl ⟨(th_out T8 (fs_sub (pmA_s hA rfl) (fs_c hS (fs_c hB (fs_c hL fs_n)))) w.1).1.1.trans T.1.1.symm, by rw [(fr_RI (fr_u T8 w.1.2.2) r0 (by decide) (fun _ => rfl)).2.2, kfR 52 K8 r0]⟩⟩)
  · show 2 * (0 : Int) ≤ _
    have qb' : ρ rb' = 101 := rr T7 (thR T7 r0 (i := 48) (k2 := 101) rfl (by decide)) erb
    have q1 := (thI T7 qb' (k := 101) (i := (0 : Int32).toNatClampNeg) (lo := 0) (hi := 600000) rfl).1
    have q2 := P7.2.1.1
    split <;> omega

end
