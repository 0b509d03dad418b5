/-! solve: its front, and the whole of it -/
section
variable {ρ : Nat → Nat} {c : Cm} {x0 rm re rb rk rs ro R Bc Bm F : Nat} {h0 : Hp} {x1 : Int32}
theorem so2_203 {Q : Int32 × Hp → Prop} (hF : 700000 ≤ F) (hA : pmA c seL) (SR : SlR ρ x0 rm re rb rk rs ro h0) (eR : hR h0 x0 4 = some R) (eBc : hR h0 R 13 = some Bc) (eBm : hR h0 R 14 = some Bm) (qR : ρ R = 15) (i1 : Rg 2 5 x1) (ex : ∀ (o : Hp) (v : Int32), TH ρ c o → hI o x0 50 = 0 → Q (v, o))
    (K : ∀ o, TH ρ c o → Kf ρ seL h0 o → SE x0 o → AllS x0 rm re rs rk R Bc Bm o → 1 ≤ (hI o x0 49).toInt → hI o x0 50 = 0 → Sat (sX15_solve_246 F F o x0 (0 : Int32) (0 : Int32)) Q) : ∀ (f : Nat) {h : Hp} {x3 : Int32}, TH ρ c h → Kf ρ seL h0 h → (hI h x0 49).toInt = 0 → (hJ h x0 59).toInt = 0 → hI h x0 50 = 0 → RW x0 x1.toInt h → 0 ≤ x3.toInt → (∀ j : Nat, (j : Int) < x3.toInt → (hI h rs j).toInt ≤ 0) → (16385 - x3.toInt).toNat < f → Sat (sX15_solve_203 F f h x0 x1 x3) Q := by
  obtain ⟨⟨r0, qm, qe, qb, qk, qs, qo⟩, ⟨e46, e47, e48, e55, e56, e57⟩⟩ := SR
  have sr : ∀ {g : Hp}, Kf ρ seL h0 g → SlR ρ x0 rm re rb rk rs ro g := fun Kg => ⟨⟨r0, qm, qe, qb, qk, qs, qo⟩, ⟨by rw [kfR 46 Kg r0]; exact e46, by rw [kfR 47 Kg r0]; exact e47, by rw [kfR 48 Kg r0]; exact e48, by rw [kfR 55 Kg r0]; exact e55, by rw [kfR 56 Kg r0]; exact e56, by rw [kfR 57 Kg r0]; exact e57⟩⟩
  intro f
  induction f with
  | zero => intros; omega
  | succ f ih =>
    intro h x3 T Kh e49 e59 e50 W a3 Z hf
    rw [sX15_solve_203]
    unfold sX15_solve_228 sX15_solve_235 sX15_solve_238
    refine s_br (fun l => ?_) (fun n1 => ?_)
    · have l' : (16384 : Int) ≤ x3.toInt := le_i l
      have P := se_init e49 e59 (fun r er j hj => by
        have hz := r_eq (sr Kh).2.2.2.2.2.1 er
        subst hz
        exact Z j (by omega))
      refine s_dd (zX15_addSet (c := cat c (fS seL []) h) hF fs_a (th_in _ T) r0 (rg_m i1 (by decide)) P W) (fun o2 eq2 ⟨T2', i2, P2, _, l2⟩ => ?_)
      have T2 := th_out T (fs_sub hA fs_n) T2'
      have f2 := fr_u T T2'.2.2
      have K2 : Kf ρ seL h0 o2.2 := kf_t Kh (kf_of f2 rfl)
      have z2 : hI o2.2 x0 50 = 0 := by rw [(fr_RI f2 r0 (by decide) (fun _ => rfl)).1]; exact e50
      refine s_br (fun _ => s_some (ex _ _ T2 z2)) (fun nz => ?_)
      have M2 := ((ads_t hF hA (sr Kh) T P (rg_m i1 (by decide)) W eq2).2 nz).1
      refine s_dd (zX15_addAll (c := cat c (fS seL []) o2.2) hF fs_a (th_in _ T2) r0 P2 (l2 nz)) (fun o3 eq3 ⟨T3', i3, P3, l3⟩ => ?_)
      have T3 := th_out T2 (fs_sub hA fs_n) T3'
      have f3 := fr_u T2 T3'.2.2
      have K3 : Kf ρ seL h0 o3.2 := kf_t K2 (kf_of f3 rfl)
      have z3 : hI o3.2 x0 50 = 0 := by rw [(fr_RI f3 r0 (by decide) (fun _ => rfl)).1]; exact z2
      refine s_br (fun _ => s_some (ex _ _ T3 z3)) (fun nz3 => ?_)
      obtain ⟨M3, C3⟩ := all_q hF hA (sr K2) T2 P2 (by rw [kfR 4 K2 r0]; exact eR) (by rw [kfR 13 K2 qR]; exact eBc) (by rw [kfR 14 K2 qR]; exact eBm) eq3 nz3
      have MM := mo_t (fun k => by
        have i := thI T2 qm (k := 99) (i := k) (lo := 0) (hi := 5) rfl
        have := clamp_i i.1
        have := i.2
        omega) M2 M3
      refine K _ T3 K3 P3 (fun k hk => ?_) l3 z3
      obtain ⟨s1, s2⟩ := MM.2.2.2.2.2.2 k (by rw [e49]; omega) hk
      exact ⟨s1, s2, fun i hi => C3 k hk i hi⟩
    · have l' : x3.toInt < 16384 := nle_i n1
      have i3 : Rg 0 16383 x3 := ⟨a3, by omega⟩
      have c3 := clamp_i a3
      refine s_ref (sr Kh).2.2.2.2.2.1 ?_
      refine s_gd (by rw [thN T qs (k := 107) (n := 16384) rfl (by decide)]; exact rg_inB i3 (by decide)) ?_
      refine s_hq (th_wI T qs (k := 107) (lo := 0) (hi := 4096) rfl (rg_b rfl) (by decide) (by decide) (pm_a hA rfl)) (fun h5 T5 w5 => ?_)
      refine s_q (fun y ey => ?_)
      have ey2 : y.toInt = x3.toInt + 1 := by rw [ey]; exact (nc_s i3 (by decide)).2
      clear ey
      have g5 : ∀ {a k : Nat}, ρ a = k → k ≠ 107 → ∀ i, hI h5 a i = hI h a i := fun {a k} ea hk i => by rw [w5, r_I, if_neg (ne_r ea qs hk)]
      refine ih T5 (kf_t Kh (kf_wI w5 qs)) (by rw [g5 r0 (by decide)]; exact e49) (by rw [w5]; exact e59) (by rw [g5 r0 (by decide)]; exact e50) (fun ro eo i hi => ?_) (by omega) (fun j hj => ?_) (by omega)
      · rw [w5] at eo
        have eo' : hR h x0 57 = some ro := eo
        rw [g5 (rr T (thR T r0 (i := 57) (k2 := 108) rfl (by decide)) eo') (by decide)]
        exact W ro eo' i hi
      · rw [w5, r_I]
        by_cases z : j = x3.toNatClampNeg
        · rw [if_pos ⟨rfl, z⟩]; decide
        · rw [if_neg (fun q => z q.2)]
          exact Z j (by omega)
end
abbrev soA : List (Nat × Nat) := [(16, 1), (16, 49), (16, 50), (16, 52), (16, 59), (99, 999), (100, 999), (101, 999), (102, 999), (103, 999), (104, 999), (105, 999), (106, 999), (107, 999), (108, 999), (109, 999), (110, 999), (86, 999), (87, 999), (88, 999), (89, 999), (16, 23), (16, 24), (16, 29), (16, 62), (16, 63)]
section
variable {ρ : Nat → Nat} {c : Cm} {x0 rm re rb rk rs ro rp rt rw mb R Bc Bm F : Nat} {h : Hp} {a : Int} {y : Int32}
/-- with its masks at 0 a solution may begin -/
theorem so_masks {km : Nat} (hF : 2000000 ≤ F) (hA : pmA c soA) (hS : pmO c 2560 bS7) (hB : pmO c 2528 bL8) (hL : pmO c 2530 lL8) (T : TH ρ c h) (SR : SlR ρ x0 rm re rb rk rs ro h) (re' : hR h x0 58 = some rp ∧ hR h x0 61 = some rt ∧ hR h x0 51 = some rw ∧ hR h x0 53 = some mb ∧ hR h x0 52 = some km ∧ hR h x0 4 = some R ∧ hR h R 13 = some Bc ∧ hR h R 14 = some Bm) (rl : ρ rp = 109 ∧ ρ rt = 110 ∧ ρ rw = 102 ∧ ρ mb = 104 ∧ ρ km = 103 ∧ ρ R = 15 ∧ ρ Bc = 80 ∧ ρ Bm = 81) (P : SE x0 h) (A : AllS x0 rm re rs rk R Bc Bm h) (D : MBd x0 (hI h x0 49).toInt y.toInt h) (iy : Rg 0 1500000 y) (sq : SqOk x0 h) (hz : hI h R 15 = 0) (l1 : 1 ≤ (hI h x0 49).toInt) : Sat (sX15_solve_304 F h x0 y) (fun o => TH ρ c o.2 ∧ EnR x0 o.2) := by
  unfold sX15_solve_304
  have z0 : (0 : Int32).toInt = 0 := rfl
  have hs : ∀ k w i, fS [(103, 999), (105, 999)] [] k w i = true → cPm c k w i = true := fs_sub (pmA_s hA rfl) fs_n
  refine so_307 (c := cat c (fS [(103, 999), (105, 999)] []) h) (h0 := h) (rk := km) (by omega) fs_a SR.1.1 rl.2.2.2.2.1 re'.2.2.2.2.1 iy (fun o To E Z => ?_) F (th_in _ T) ⟨fun _ _ => rfl, fun _ _ => rfl⟩ (by decide) (by rw [z0]; exact iy.1) (fun i hi => absurd hi (by rw [z0]; omega)) (by rw [z0]; omega)
  have T1 := th_out T hs To
  have K : Kf ρ [(103, 999), (105, 999)] h o := kf_of (fr_u T To.2.2) rfl
  obtain ⟨⟨r0, qm, qe, qb, qk, qs, qo⟩, ⟨e46, e47, e48, e55, e56, e57⟩⟩ := SR
  obtain ⟨e58, e61, e51, e53, e52, e4, e13, e14⟩ := re'
  obtain ⟨qp, qt, qw, qmb, qkm, qR, qBc, qBm⟩ := rl
  have D1 : MBd x0 (hI o x0 49).toInt y.toInt o := by
    intro rm' rb' em' eb' k hk
    rw [kfR 46 K r0] at em'
    rw [kfR 53 K r0] at eb'
    rw [kfI 49 K r0] at hk
    have hz1 := r_eq e46 em'
    subst hz1
    have hz1 := r_eq e53 eb'
    subst hz1
    rw [kfI 13 K r0, kfI 49 K r0]
    simp only [kfI _ K qm, kfI _ K qmb]
    exact D rm' rb' em' eb' k hk
  have e46' : hR o x0 46 = some rm := by rw [kfR 46 K r0]; exact e46
  have e53' : hR o x0 53 = some mb := by rw [kfR 53 K r0]; exact e53
  have G1 : MkG x0 rm mb re km R o := by
    intro set q j t l1 p1 w1 h1 t64 bt
    exfalso
    obtain ⟨b1, b2, _⟩ := mkx_b (rb := mb) (re := re) (thI T1 qm (k := 99) (i := set) (lo := 0) (hi := 5) rfl) p1 w1 h1
    have d1 := (D1 rm mb e46' e53' set l1).1
    have ib := (thI T1 qmb (k := 104) (i := set) (lo := 0) (hi := 1500000) rfl).1
    rw [Z _ (by omega)] at bt
    have : bitJ (0 : Int64) t = false := BitVec.getLsbD_zero
    rw [this] at bt
    exact absurd bt (by decide)
  have W1 : WkP ρ x0 rm re rb rk rs ro rp rt rw mb km R Bc Bm y.toInt o := ⟨⟨⟨r0, qm, qe, qb, qk, qs, qo⟩, ⟨e46', by rw [kfR 47 K r0]; exact e47, by rw [kfR 48 K r0]; exact e48, by rw [kfR 55 K r0]; exact e55, by rw [kfR 56 K r0]; exact e56, by rw [kfR 57 K r0]; exact e57⟩⟩, ⟨by rw [kfR 58 K r0]; exact e58, by rw [kfR 61 K r0]; exact e61, by rw [kfR 51 K r0]; exact e51, e53', by rw [kfR 52 K r0]; exact e52, by rw [kfR 4 K r0]; exact e4, by rw [kfR 13 K qR]; exact e13, by rw [kfR 14 K qR]; exact e14⟩, ⟨qp, qt, qw, qmb, qkm, qR, qBc, qBm⟩, se_k K r0 qm qe qb qk qs e46 e47 e48 e55 e56 P, alls_of (kfI 49 K r0) (fun i => kfI i K qm) (fun i => kfI i K qe) (fun i => kfI i K qs) (fun i => kfI i K qk) (kfI 10 K qR) (fun i => kfI i K qBc) (fun i => kfI i K qBm) A, D1, iy.2, G1⟩
  exact so_357 hF (pmA_s hA rfl) hS hB hL F T1 W1 (by unfold SqOk; rw [kfI 13 K r0, kfI 11 K r0, kfI 12 K r0]; exact sq) (by rw [kfI 15 K qR]; exact hz) (by rw [kfI 49 K r0]; exact l1) (by decide) (by rw [z0]; omega)
/-- solve -/
theorem zX15_solve (hF : 2000000 ≤ F) (hA : pmA c soA) (hS : pmO c 2560 bS7) (hB : pmO c 2528 bL8) (hL : pmO c 2530 lL8) (T : TH ρ c h) (r0 : ρ x0 = 16) (sq : SqOk x0 h) (N : EnR x0 h) : Sat (sX15_solve F h x0) (MkI ρ c (-2147483648) 2147483647 (EnR x0)) := by
  unfold sX15_solve sX15_solve_47 sX15_solve_44
  obtain ⟨rm, e46, qm⟩ := thR T r0 (i := 46) (k2 := 99) rfl (by decide)
  obtain ⟨re, e47, qe⟩ := thR T r0 (i := 47) (k2 := 100) rfl (by decide)
  obtain ⟨rb, e48, qb⟩ := thR T r0 (i := 48) (k2 := 101) rfl (by decide)
  obtain ⟨rk, e55, qk⟩ := thR T r0 (i := 55) (k2 := 106) rfl (by decide)
  obtain ⟨rs, e56, qs⟩ := thR T r0 (i := 56) (k2 := 107) rfl (by decide)
  obtain ⟨ro, e57, qo⟩ := thR T r0 (i := 57) (k2 := 108) rfl (by decide)
  obtain ⟨rp, e58, qp⟩ := thR T r0 (i := 58) (k2 := 109) rfl (by decide)
  obtain ⟨rt, e61, qt⟩ := thR T r0 (i := 61) (k2 := 110) rfl (by decide)
  obtain ⟨rw', e51, qw⟩ := thR T r0 (i := 51) (k2 := 102) rfl (by decide)
  obtain ⟨mb, e53, qmb⟩ := thR T r0 (i := 53) (k2 := 104) rfl (by decide)
  obtain ⟨R, e4, qR⟩ := thR T r0 (i := 4) (k2 := 15) rfl (by decide)
  obtain ⟨Bc, e13, qBc⟩ := thR T qR (i := 13) (k2 := 80) rfl (by decide)
  obtain ⟨Bm, e14, qBm⟩ := thR T qR (i := 14) (k2 := 81) rfl (by decide)
  have z0 : (0 : Int32).toInt = 0 := rfl
  -- where nothing has been solved anew
  have keep : ∀ {o : Hp}, TH ρ c o → Kf ρ [(108, 999), (16, 1)] h o → ∀ v, MkI ρ c (-2147483648) 2147483647 (EnR x0) (v, o) := fun {o} To Ko v => ⟨ρ, c, ex_0, To, rg_top _, fun nz => by
    show SE x0 o ∧ _
    have nz' : ¬ hI h x0 50 = 0 := by rw [← kfI 50 Ko r0]; exact nz
    obtain ⟨P, l⟩ := N nz'
    exact ⟨se_k Ko r0 qm qe qb qk qs e46 e47 e48 e55 e56 P, by rw [kfI 49 Ko r0]; exact l⟩⟩
  have i1 := thI T r0 (k := 16) (i := 1) (lo := 0) (hi := 1200) rfl
  refine s_q (fun v1 ev => ?_)
  have iv1 : Rg 0 1200 v1 := by rw [ev]; exact i1
  clear ev
  refine s_hq (th_wI T r0 (k := 16) (i := 1) (lo := 0) (hi := 1200) rfl (rg_m (rg_b rfl : Rg 0 0 (0 : Int32)) (by decide)) (by decide) (by decide) (pm_a hA rfl)) (fun h2 T2 w2 => ?_)
  have K2 : Kf ρ [(108, 999), (16, 1)] h h2 := kf_wI w2 r0
  have e4' : hR h2 x0 4 = some R := by rw [kfR 4 K2 r0]; exact e4
  refine s_ref e4' ?_
  refine s_br (fun hz => ?_) (fun _ => s_some (keep T2 K2 _))
  refine s_ref e4' ?_
  refine s_br (fun _ => ?_) (fun _ => s_some (keep T2 K2 _))
  refine s_ref e4' ?_
  refine s_br (fun _ => s_some (keep T2 K2 _)) (fun _ => ?_)
  refine s_cl (s_imp (zX15_hasCatches (by omega) T2 r0) (fun o9 ⟨e9, i9⟩ => ?_))
  rw [e9]
  refine s_br (fun _ => ?_) (fun _ => s_some (keep T2 K2 _))
  -- the letters
  have hs1 : ∀ k w i, fS [(108, 999)] [] k w i = true → cPm c k w i = true := fs_sub (pmA_s hA rfl) fs_n
  refine so_54 (c := cat c (fS [(108, 999)] []) h2) (by omega) fs_a r0 iv1 (fun o v To => keep (th_out T2 hs1 To) (kf_t K2 (kf_of (fr_u T2 To.2.2) rfl)) v) (fun o To W i15 => ?_) F (th_in _ T2) (rg_m (rg_b rfl : Rg 0 0 (0 : Int32)) (by decide)) (by rw [z0]; exact iv1.1) (fun _ _ i hi => absurd hi (by rw [z0]; omega)) (by rw [z0]; omega)
  have T3 := th_out T2 hs1 To
  have K3 : Kf ρ [(108, 999), (16, 1)] h o := kf_t K2 (kf_of (fr_u T2 To.2.2) rfl)
  refine s_hq (th_wI T3 r0 (k := 16) (i := 49) (lo := 0) (hi := 4096) rfl (rg_m (rg_b rfl : Rg 0 0 (0 : Int32)) (by decide)) (by decide) (by decide) (pm_a hA rfl)) (fun h4 T4 w4 => ?_)
  refine s_hq (th_wJ T4 (k := 16) (i := 59) r0 (by decide) (pm_a hA rfl)) (fun h5 T5 w5 => ?_)
  refine s_hq (th_wI T5 r0 (k := 16) (i := 50) (lo := 0) (hi := 4096) rfl (rg_m (rg_b rfl : Rg 0 0 (0 : Int32)) (by decide)) (by decide) (by decide) (pm_a hA rfl)) (fun h6 T6 w6 => ?_)
  have K6 : Kf ρ [(108, 999), (16, 1), (16, 49), (16, 50), (16, 59)] h h6 := kf_t (kf_m K3 rfl) (kf_t (kf_wI w4 r0) (kf_t (kf_wJ w5 r0) (kf_wI w6 r0)))
  have x49 : hI h6 x0 49 = 0 := by
    rw [w6, r_I, if_neg (fun w => absurd w.2 (by decide)), w5]
    show hI h4 x0 49 = 0
    rw [w4, r_I, if_pos ⟨rfl, rfl⟩]
  have x59 : hJ h6 x0 59 = 0 := by
    rw [w6]
    show hJ h5 x0 59 = 0
    rw [w5, r_J, if_pos ⟨rfl, rfl⟩]
  have x50 : hI h6 x0 50 = 0 := by rw [w6, r_I, if_pos ⟨rfl, rfl⟩]
  have SR6 : SlR ρ x0 rm re rb rk rs ro h6 := ⟨⟨r0, qm, qe, qb, qk, qs, qo⟩, ⟨by rw [kfR 46 K6 r0]; exact e46, by rw [kfR 47 K6 r0]; exact e47, by rw [kfR 48 K6 r0]; exact e48, by rw [kfR 55 K6 r0]; exact e55, by rw [kfR 56 K6 r0]; exact e56, by rw [kfR 57 K6 r0]; exact e57⟩⟩
  have W6 : RW x0 v1.toInt h6 := fun ro' er i hi => by
    rw [kfR 57 K6 r0] at er
    have hz1 := r_eq e57 er
    subst hz1
    rw [w6, r_I, if_neg (ne_r qo r0 (by decide)), w5]
    show 1 ≤ (hI h4 ro' i).toInt
    rw [w4, r_I, if_neg (ne_r qo r0 (by decide))]
    exact W ro' (by rw [kfR 57 K3 r0]; exact e57) i hi
  refine so2_203 (h0 := h6) (Bc := Bc) (Bm := Bm) (R := R) (by omega) (pmA_s hA rfl) SR6 (by rw [kfR 4 K6 r0]; exact e4) (by rw [kfR 13 K6 qR]; exact e13) (by rw [kfR 14 K6 qR]; exact e14) qR i15 (fun o v To z => ⟨ρ, c, ex_0, To, rg_top _, fun nz => absurd z nz⟩) (fun o7 T7 K67 P7 A7 l7 z7 => ?_) F T6 kf_r (by rw [x49]; rfl) (by rw [x59]; rfl) x50 W6 (by decide) (fun j hj => absurd hj (by rw [z0]; omega)) (by rw [z0]; omega)
  -- the masks
  have hs2 : ∀ k w i, fS [(104, 999)] [] k w i = true → cPm c k w i = true := fs_sub (pmA_s hA rfl) fs_n
  refine so_246 (c := cat c (fS [(104, 999)] []) o7) (n0 := (hI o7 x0 49).toInt) (by omega) fs_a r0 (fun o8 y To8 P8 n8 _ D8 iy => ?_) F (th_in _ T7) P7 rfl (by decide) (by rw [z0]; omega) (by decide) (fun rb' erb => ?_) (fun _ _ _ _ k hk => absurd hk (by rw [z0]; omega)) (fun _ _ _ _ k hk => absurd hk (by rw [z0]; omega)) (by rw [z0]; omega)
  · have T8 := th_out T7 hs2 To8
    have K78 : Kf ρ [(104, 999)] o7 o8 := kf_of (fr_u T7 To8.2.2) rfl
    have K8 : Kf ρ soA h o8 := kf_t (kf_m K6 rfl) (kf_t (kf_m K67 rfl) (kf_m K78 rfl))
    have A8 : AllS x0 rm re rs rk R Bc Bm o8 := alls_of (kfI 49 K78 r0) (fun i => kfI i K78 qm) (fun i => kfI i K78 qe) (fun i => kfI i K78 qs) (fun i => kfI i K78 qk) (kfI 10 K78 qR) (fun i => kfI i K78 qBc) (fun i => kfI i K78 qBm) A7
    have SR8 : SlR ρ x0 rm re rb rk rs ro o8 := ⟨⟨r0, qm, qe, qb, qk, qs, qo⟩, ⟨by rw [kfR 46 K8 r0]; exact e46, by rw [kfR 47 K8 r0]; exact e47, by rw [kfR 48 K8 r0]; exact e48, by rw [kfR 55 K8 r0]; exact e55, by rw [kfR 56 K8 r0]; exact e56, by rw [kfR 57 K8 r0]; exact e57⟩⟩
    have sq8 : SqOk x0 o8 := by unfold SqOk; rw [kfI 13 K8 r0, kfI 11 K8 r0, kfI 12 K8 r0]; exact sq
    have hz8 : hI o8 R 15 = 0 := by rw [kfI 15 K8 qR, ← kfI 15 K2 qR]; exact hz
    have D8' : MBd x0 (hI o8 x0 49).toInt y.toInt o8 := by rw [n8]; exact D8
    have l8 : 1 ≤ (hI o8 x0 49).toInt := by rw [n8]; exact l7
    refine s_onr (fun none' => ?_) (fun km ekm => ?_)
    · refine s_q (fun a4 ea => ?_)
      refine s_q (fun h9 eh => ?_)
      obtain ⟨ρ', c', X, T9, qa, O9⟩ := newMasks T8 ea eh
      unfold sX15_solve_301
      have r0' := ex_r X r0 (by decide)
      have hA' := ex_A X hA
      have T10 : TH ρ' c' (wR h9 x0 52 (some a4)) := th_un (th_wR T9 r0' (k := 16) (i := 52) (j := 8) (k2 := 103) rfl (by decide) rfl (by decide) qa rfl nid_8 (by decide) (by decide) rfl rfl (fun w => absurd rfl w) (pm_a hA' rfl))
      refine s_hq T10 (fun h10 T10 w10 => ?_)
      -- all that was there is as it was
      have K10 : Kf ρ [(16, 52)] o8 h10 := fun b i n x => by
        have lt : b < o8.1.1 := by rw [T8.1.1]; exact T8.2.1.2.2.1 b n
        obtain ⟨q1, q2, q3, _⟩ := O9 b lt
        rw [w10]
        refine ⟨q1 i, q2 i, ?_⟩
        rw [r_R, if_neg]
        · exact q3 i
        · rintro ⟨q5, q6⟩
          subst q5; subst q6
          rw [r0] at x
          exact absurd x (by show ¬ true = false; decide)
      have km10 : hR h10 x0 52 = some a4 := by rw [w10, r_R, if_pos ⟨rfl, rfl⟩]
      refine s_imp (so_masks (ρ := ρ') (c := c') (km := a4) (R := R) (Bc := Bc) (Bm := Bm) (rp := rp) (rt := rt) (rw := rw') (mb := mb) (y := y) hF hA' (ex_O X hS) (ex_O X hB) (ex_O X hL) T10 ⟨⟨r0', ex_r X qm (by decide), ex_r X qe (by decide), ex_r X qb (by decide), ex_r X qk (by decide), ex_r X qs (by decide), ex_r X qo (by decide)⟩, ⟨by rw [kfR 46 K10 r0]; exact SR8.2.1, by rw [kfR 47 K10 r0]; exact SR8.2.2.1, by rw [kfR 48 K10 r0]; exact SR8.2.2.2.1, by rw [kfR 55 K10 r0]; exact SR8.2.2.2.2.1, by rw [kfR 56 K10 r0]; exact SR8.2.2.2.2.2.1, by rw [kfR 57 K10 r0]; exact SR8.2.2.2.2.2.2⟩⟩ ⟨by rw [kfR 58 K10 r0, kfR 58 K8 r0]; exact e58, by rw [kfR 61 K10 r0, kfR 61 K8 r0]; exact e61, by rw [kfR 51 K10 r0, kfR 51 K8 r0]; exact e51, by rw [kfR 53 K10 r0, kfR 53 K8 r0]; exact e53, km10, by rw [kfR 4 K10 r0, kfR 4 K8 r0]; exact e4, by rw [kfR 13 K10 qR, kfR 13 K8 qR]; exact e13, by rw [kfR 14 K10 qR, kfR 14 K8 qR]; exact e14⟩ ⟨ex_r X qp (by decide), ex_r X qt (by decide), ex_r X qw (by decide), ex_r X qmb (by decide), qa, ex_r X qR (by decide), ex_r X qBc (by decide), ex_r X qBm (by decide)⟩ (se_k K10 r0 qm qe qb qk qs SR8.2.1 SR8.2.2.1 SR8.2.2.2.1 SR8.2.2.2.2.1 SR8.2.2.2.2.2.1 P8) (alls_of (kfI 49 K10 r0) (fun i => kfI i K10 qm) (fun i => kfI i K10 qe) (fun i => kfI i K10 qs) (fun i => kfI i K10 qk) (kfI 10 K10 qR) (fun i => kfI i K10 qBc) (fun i => kfI i K10 qBm) A8) ?_ iy (by unfold SqOk; rw [kfI 13 K10 r0, kfI 11 K10 r0, kfI 12 K10 r0]; exact sq8) (by rw [kfI 15 K10 qR]; exact hz8) (by rw [kfI 49 K10 r0]; exact l8)) (fun o w => ⟨ρ', c', X, w.1, rg_top _, w.2⟩)
      intro rm' rb' em' eb' k hk
      rw [kfR 46 K10 r0] at em'
      rw [kfR 53 K10 r0] at eb'
      rw [kfI 49 K10 r0] at hk
      have hz1 := r_eq SR8.2.1 em'
      subst hz1
      have hz1 := r_eq (show hR o8 x0 53 = some mb by rw [kfR 53 K8 r0]; exact e53) eb'
      subst hz1
      rw [kfI 13 K10 r0, kfI 49 K10 r0]
      simp only [kfI _ K10 qm, kfI _ K10 qmb]
      exact D8' rm' rb' em' eb' k hk
    · have qkm : ρ km = 103 := thRn T8 r0 (i := 52) (k2 := 103) rfl (by decide) ekm
      exact s_imp (so_masks (km := km) (R := R) (Bc := Bc) (Bm := Bm) (rp := rp) (rt := rt) (rw := rw') (mb := mb) (y := y) hF hA hS hB hL T8 SR8 ⟨by rw [kfR 58 K8 r0]; exact e58, by rw [kfR 61 K8 r0]; exact e61, by rw [kfR 51 K8 r0]; exact e51, by rw [kfR 53 K8 r0]; exact e53, ekm, by rw [kfR 4 K8 r0]; exact e4, by rw [kfR 13 K8 qR]; exact e13, by rw [kfR 14 K8 qR]; exact e14⟩ ⟨qp, qt, qw, qmb, qkm, qR, qBc, qBm⟩ P8 A8 D8' iy sq8 hz8 l8) (fun o w => ⟨ρ, c, ex_0, w.1, rg_top _, w.2⟩)
  · show 2 * (0 : Int) ≤ _
    have qb' : ρ rb' = 101 := rr T7 (thR T7 r0 (i := 48) (k2 := 101) rfl (by decide)) erb
    have q1 := (thI T7 qb' (k := 101) (i := (0 : Int32).toNatClampNeg) (lo := 0) (hi := 600000) rfl).1
    have q2 := P7.2.1.1
    split <;> omega
end
