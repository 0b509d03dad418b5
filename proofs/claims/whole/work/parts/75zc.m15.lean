section
/-! solve: its front, and the whole of it -/
section
variable {ρ : Nat → Nat} {c : Cm} {x0 rm re rb rk rs ro R Bc Bm F : Nat} {h0 : Hp} {x1 : Int32}
theorem so2_203 {Q : Int32 × Hp → Prop} (hF : 700000 ≤ F) (hA : pmA c seL) (SR : SlR ρ x0 rm re rb rk rs ro h0) (eR : hR h0 x0 4 = some R) (eBc : hR h0 R 13 = some Bc) (eBm : hR h0 R 14 = some Bm) (qR : ρ R = 15) (i1 : Rg 2 5 x1) (ex : ∀ (o : Hp) (v : Int32), TH ρ c o → hI o x0 50 = 0 → Q (v, o))
    (K : ∀ o, TH ρ c o → Kf ρ seL h0 o → SE x0 o → AllS x0 rm re rs rk R Bc Bm o → 1 ≤ (hI o x0 49).toInt → hI o x0 50 = 0 → Sat (sX15_solve_246 F F o x0 (0 : Int32) (0 : Int32)) Q) : ∀ (f : Nat) {h : Hp} {x3 : Int32}, TH ρ c h → Kf ρ seL h0 h → (hI h x0 49).toInt = 0 → (hJ h x0 59).toInt = 0 → hI h x0 50 = 0 → RW x0 x1.toInt h → 0 ≤ x3.toInt → (∀ j : Nat, (j : Int) < x3.toInt → (hI h rs j).toInt ≤ 0) → (16385 - x3.toInt).toNat < f → Sat (sX15_solve_203 F f h x0 x1 x3) Q := by
  obtain ⟨⟨r0, qm, qe, qb, qk, qs, qo⟩, ⟨e46, e47, e48, e55, e56, e57⟩⟩ := SR
  have sr : ∀ {g : Hp}, Kf ρ seL h0 g → SlR ρ x0 rm re rb rk rs ro g := fun Kg => ⟨⟨r0, qm, qe, qb, qk, qs, qo⟩, ⟨by rw [kfR 46 Kg r0]; exact e46, by rw [kfR 47 Kg r0]; exact e47, by rw [kfR 48 Kg r0]; exact e48, by rw [kfR 55 Kg r0]; exact e55, by rw [kfR 56 Kg r0]; exact e56, by rw [kfR 57 Kg r0]; exact e57⟩⟩
  intro f
  induction f with
  | zero => intros; omega
  | succ f ih =>
    intro h x3 T Kh e49 e59 e50 W a3 Z hf
    rw [sX15_solve_203]
    unfold sX15_solve_228 sX15_solve_235 sX15_solve_238
    refine s_br (fun l => ?_) (fun n1 => ?_)
    · have l' : (16384 : Int) ≤ x3.toInt := le_i l
      have P := se_init e49 e59 (fun r er j hj => by
        have hz := r_eq (sr Kh).2.2.2.2.2.1 er
        subst hz
        exact Z j (by omega))
      refine s_dd (zX15_addSet (c := cat c (fS seL []) h) hF fs_a (th_in _ T) r0 (rg_m i1 (by decide)) P W) (fun o2 eq2 ⟨T2', i2, P2, _, l2⟩ => ?_)
      have T2 := th_out T (fs_sub hA fs_n) T2'
      have f2 := fr_u T T2'.2.2
      have K2 : Kf ρ seL h0 o2.2 := kf_t Kh (kf_of f2 rfl)
      have z2 : hI o2.2 x0 50 = 0 := by rw [(fr_RI f2 r0 (by decide) (fun _ => rfl)).1]; exact e50
      refine s_br (fun _ => s_some (ex _ _ T2 z2)) (fun nz => ?_)
      have M2 := ((ads_t hF hA (sr Kh) T P (rg_m i1 (by decide)) W eq2).2 nz).1
      refine s_dd (zX15_addAll (c := cat c (fS seL []) o2.2) hF fs_a (th_in _ T2) r0 P2 (l2 nz)) (fun o3 eq3 ⟨T3', i3, P3, l3⟩ => ?_)
      have T3 := th_out T2 (fs_sub hA fs_n) T3'
      have f3 := fr_u T2 T3'.2.2
      have K3 : Kf ρ seL h0 o3.2 := kf_t K2 (kf_of f3 rfl)
      have z3 : hI o3.2 x0 50 = 0 := by rw [(fr_RI f3 r0 (by decide) (fun _ => rfl)).1]; exact z2
      refine s_br (fun _ => s_some (ex _ _ T3 z3)) (fun nz3 => ?_)
      obtain ⟨M3, C3⟩ := all_q hF hA (sr K2) T2 P2 (by rw [kfR 4 K2 r0]; exact eR) (by rw [kfR 13 K2 qR]; exact eBc) (by rw [kfR 14 K2 qR]; exact eBm) eq3 nz3
      have MM := mo_t (fun k => by
        have i := thI T2 qm (k := 99) (i := k) (lo := 0) (hi := 5) rfl
        have := clamp_i i.1
        have := i.2
        omega) M2 M3
      refine K _ T3 K3 P3 (fun k hk => ?_) l3 z3
      obtain ⟨s1, s2⟩ := MM.2.2.2.2.2.2 k (by rw [e49]; omega) hk
      exact ⟨s1, s2, fun i hi => C3 k hk i hi⟩
    · have l' : x3.toInt < 16384 := nle_i n1
      have i3 : Rg 0 16383 x3 := ⟨a3, by omega⟩
      have c3 := clamp_i a3
      refine s_ref (sr Kh).2.2.2.2.2.1 ?_
      refine s_gd (by rw [thN T qs (k := 107) (n := 16384) rfl (by decide)]; exact rg_inB i3 (by decide)) ?_
      refine s_hq (th_wI T qs (k := 107) (lo := 0) (hi := 4096) rfl (rg_b rfl) (by decide) (by decide) (pm_a hA rfl)) (fun h5 T5 w5 => ?_)
      refine s_q (fun y ey => ?_)
      have ey2 : y.toInt = x3.toInt + 1 := by rw [ey]; exact (nc_s i3 (by decide)).2
      clear ey
      have g5 : ∀ {a k : Nat}, ρ a = k → k ≠ 107 → ∀ i, hI h5 a i = hI h a i := fun {a k} ea hk i => by rw [w5, r_I, if_neg (ne_r ea qs hk)]
      refine ih T5 (kf_t Kh (kf_wI w5 qs)) (by rw [g5 r0 (by decide)]; exact e49) (by rw [w5]; exact e59) (by rw [g5 r0 (by decide)]; exact e50) (fun ro eo i hi => ?_) (by omega) (fun j hj => ?_) (by omega)
      · rw [w5] at eo
        have eo' : hR h x0 57 = some ro := eo
        rw [g5 (rr T (thR T r0 (i := 57) (k2 := 108) rfl (by decide)) eo') (by decide)]
        exact W ro eo' i hi
      · rw [w5, r_I]
        by_cases z : j = x3.toNatClampNeg
        · rw [if_pos ⟨rfl, z⟩]; decide
        · rw [if_neg (fun q => z q.2)]
          exact Z j (by omega)
end
abbrev soA : List (Nat × Nat) := [(16, 1), (16, 49), (16, 50), (16, 52), (16, 59), (99, 999), (100, 999), (101, 999), (102, 999), (103, 999), (104, 999), (105, 999), (106, 999), (107, 999), (108, 999), (109, 999), (110, 999), (86, 999), (87, 999), (88, 999), (89, 999), (16, 23), (16, 24), (16, 29), (16, 62), (16, 63)]
section
variable {ρ : Nat → Nat} {c : Cm} {x0 rm re rb rk rs ro rp rt rw mb R Bc Bm F : Nat} {h : Hp} {a : Int} {y : Int32}
/-- with its masks at 0 a solution may begin -/
theorem so_masks {km : Nat} (hF : 2000000 ≤ F) (hA : pmA c soA) (hS : pmO c 2560 bS7) (hB : pmO c 2528 bL8) (hL : pmO c 2530 lL8) (T : TH ρ c h) (SR : SlR ρ x0 rm re rb rk rs ro h) (re' : hR h x0 58 = some rp ∧ hR h x0 61 = some rt ∧ hR h x0 51 = some rw ∧ hR h x0 53 = some mb ∧ hR h x0 52 = some km ∧ hR h x0 4 = some R ∧ hR h R 13 = some Bc ∧ hR h R 14 = some Bm) (rl : ρ rp = 109 ∧ ρ rt = 110 ∧ ρ rw = 102 ∧ ρ mb = 104 ∧ ρ km = 103 ∧ ρ R = 15 ∧ ρ Bc = 80 ∧ ρ Bm = 81) (P : SE x0 h) (A : AllS x0 rm re rs rk R Bc Bm h) (D : MBd x0 (hI h x0 49).toInt y.toInt h) (iy : Rg 0 1500000 y) (sq : SqOk x0 h) (hz : hI h R 15 = 0) (l1 : 1 ≤ (hI h x0 49).toInt) : Sat (sX15_solve_304 F h x0 y) (fun o => TH ρ c o.2 ∧ EnR x0 o.2) := by
  unfold sX15_solve_304
  have z0 : (0 : Int32).toInt = 0 := rfl
  have hs : ∀ k w i, fS [(103, 999), (105, 999)] [] k w i = true → cPm c k w i = true := fs_sub (pmA_s hA rfl) fs_n
  refine so_307 (c := cat c (fS [(103, 999), (105, 999)] []) h) (h0 := h) (rk := km) (by omega) fs_a SR.1.1 rl.2.2.2.2.1 re'.2.2.2.2.1 iy (fun o To E Z => ?_) F (th_in _ T) ⟨fun _ _ => rfl, fun _ _ => rfl⟩ (by decide) (by rw [z0]; exact iy.1) (fun i hi => absurd hi (by rw [z0]; omega)) (by rw [z0]; omega)
  have T1 := th_out T hs To
  have K : Kf ρ [(103, 999), (105, 999)] h o := kf_of (fr_u T To.2.2) rfl
  obtain ⟨⟨r0, qm, qe, qb, qk, qs, qo⟩, ⟨e46, e47, e48, e55, e56, e57⟩⟩ := SR
  obtain ⟨e58, e61, e51, e53, e52, e4, e13, e14⟩ := re'
  obtain ⟨qp, qt, qw, qmb, qkm, qR, qBc, qBm⟩ := rl
  have D1 : MBd x0 (hI o x0 49).toInt y.toInt o := by
    intro rm' rb' em' eb' k hk
    rw [kfR 46 K r0] at em'
    rw [kfR 53 K r0] at eb'
    rw [kfI 49 K r0] at hk
    have hz1 := r_eq e46 em'
    subst hz1
    have hz1 := r_eq e53 eb'
    subst hz1
    rw [kfI 13 K r0, kfI 49 K r0]
    simp only [kfI _ K qm, kfI _ K qmb]
    exact D rm' rb' em' eb' k hk
  have e46' : hR o x0 46 = some rm := by rw [kfR 46 K r0]; exact e46
  have e53' : hR o x0 53 = some mb := by rw [kfR 53 K r0]; exact e53
  have G1 : MkG x0 rm mb re km R o := by
    intro set q j t l1 p1 w1 h1 t64 bt
    exfalso
    obtain ⟨b1, b2, _⟩ := mkx_b (rb := mb) (re := re) (thI T1 qm (k := 99) (i := set) (lo := 0) (hi := 5) rfl) p1 w1 h1
    have d1 := (D1 rm mb e46' e53' set l1).1
    have ib := (thI T1 qmb (k := 104) (i := set) (lo := 0) (hi := 1500000) rfl).1
    rw [Z _ (by omega)] at bt
    have : bitJ (0 : Int64) t = false := BitVec.getLsbD_zero
    rw [this] at bt
    exact absurd bt (by decide)
  have W1 : WkP ρ x0 rm re rb rk rs ro rp rt rw mb km R Bc Bm y.toInt o := ⟨⟨⟨r0, qm, qe, qb, qk, qs, qo⟩, ⟨e46', by rw [kfR 47 K r0]; exact e47, by rw [kfR 48 K r0]; exact e48, by rw [kfR 55 K r0]; exact e55, by rw [kfR 56 K r0]; exact e56, by rw [kfR 57 K r0]; exact e57⟩⟩, ⟨by rw [kfR 58 K r0]; exact e58, by rw [kfR 61 K r0]; exact e61, by rw [kfR 51 K r0]; exact e51, e53', by rw [kfR 52 K r0]; exact e52, by rw [kfR 4 K r0]; exact e4, by rw [kfR 13 K qR]; exact e13, by rw [kfR 14 K qR]; exact e14⟩, ⟨qp, qt, qw, qmb, qkm, qR, qBc, qBm⟩, se_k K r0 qm qe qb qk qs e46 e47 e48 e55 e56 P, alls_of (kfI 49 K r0) (fun i => kfI i K qm) (fun i => kfI i K qe) (fun i => kfI i K qs) (fun i => kfI i K qk) (kfI 10 K qR) (fun i => kfI i K qBc) (fun i => kfI i K qBm) A, D1, iy.2, G1⟩
  exact so_357 hF (pmA_s hA rfl) hS hB hL F T1 W1 (by unfold SqOk; rw [kfI 13 K r0, kfI 11 K r0, kfI 12 K r0]; exact sq) (by rw [kfI 15 K qR]; exact hz) (by rw [kfI 49 K r0]; exact l1) (by decide) (by rw [z0]; omega)
/-- solve -/
theorem zX15_solve (hF : 2000000 ≤ F) (hA : pmA c soA) (hS : pmO c 2560 bS7) (hB : pmO c 2528 bL8) (hL : pmO c 2530 lL8) (T : TH ρ c h) (r0 : ρ x0 = 16) (sq : SqOk x0 h) (N : EnR x0 h) : Sat (sX15_solve F h x0) (MkI ρ c (-2147483648) 2147483647 (EnR x0)) := by
  unfold sX15_solve sX15_solve_47 sX15_solve_44
  obtain ⟨rm, e46, qm⟩ := thR T r0 (i := 46) (k2 := 99) rfl (by decide)
  obtain ⟨re, e47, qe⟩ := thR T r0 (i := 47) (k2 := 100) rfl (by decide)
  obtain ⟨rb, e48, qb⟩ := thR T r0 (i := 48) (k2 := 101) rfl (by decide)
  obtain ⟨rk, e55, qk⟩ := thR T r0 (i := 55) (k2 := 106) rfl (by decide)
  obtain ⟨rs, e56, qs⟩ := thR T r0 (i := 56) (k2 := 107) rfl (by decide)
  obtain ⟨ro, e57, qo⟩ := thR T r0 (i := 57) (k2 := 108) rfl (by decide)
  obtain ⟨rp, e58, qp⟩ := thR T r0 (i := 58) (k2 := 109) rfl (by decide)
  obtain ⟨rt, e61, qt⟩ := thR T r0 (i := 61) (k2 := 110) rfl (by decide)
  obtain ⟨rw', e51, qw⟩ := thR T r0 (i := 51) (k2 := 102) rfl (by decide)
  obtain ⟨mb, e53, qmb⟩ := thR T r0 (i := 53) (k2 := 104) rfl (by decide)
  obtain ⟨R, e4, qR⟩ := thR T r0 (i := 4) (k2 := 15) rfl (by decide)
  obtain ⟨Bc, e13, qBc⟩ := thR T qR (i := 13) (k2 := 80) rfl (by decide)
  obtain ⟨Bm, e14, qBm⟩ := thR T qR (i := 14) (k2 := 81) rfl (by decide)
  have z0 : (0 : Int32).toInt = 0 := rfl
  -- where nothing has been solved anew
  have keep : ∀ {o : Hp}, TH ρ c o → Kf ρ [(108, 999), (16, 1)] h o → ∀ v, MkI ρ c (-2147483648) 2147483647 (EnR x0) (v, o) := fun {o} To Ko v => ⟨ρ, c, ex_0, To, rg_top _, fun nz => by
    show SE x0 o ∧ _
    have nz' : ¬ hI h x0 50 = 0 := by rw [← kfI 50 Ko r0]; exact nz
    obtain ⟨P, l⟩ := N nz'
    exact ⟨se_k Ko r0 qm qe qb qk qs e46 e47 e48 e55 e56 P, by rw [kfI 49 Ko r0]; exact l⟩⟩
  have i1 := thI T r0 (k := 16) (i := 1) (lo := 0) (hi := 1200) rfl
  refine s_q (fun v1 ev => ?_)
  have iv1 : Rg 0 1200 v1 := by rw [ev]; exact i1
  clear ev
  refine s_hq (th_wI T r0 (k := 16) (i := 1) (lo := 0) (hi := 1200) rfl (rg_m (rg_b rfl : Rg 0 0 (0 : Int32)) (by decide)) (by decide) (by decide) (pm_a hA rfl)) (fun h2 T2 w2 => ?_)
  have K2 : Kf ρ [(108, 999), (16, 1)] h h2 := kf_wI w2 r0
  have e4' : hR h2 x0 4 = some R := by rw [kfR 4 K2 r0]; exact e4
  refine s_ref e4' ?_
  refine s_br (fun hz => ?_) (fun _ => s_some (keep T2 K2 _))
  refine s_ref e4' ?_
  refine s_br (fun _ => ?_) (fun _ => s_some (keep T2 K2 _))
  refine s_ref e4' ?_
  refine s_br (fun _ => s_some (keep T2 K2 _)) (fun _ => ?_)
  refine s_cl (s_imp (zX15_hasCatches (by omega) T2 r0) (fun o9 ⟨e9, i9⟩ => ?_))
  rw [e9]
  refine s_br (fun _ => ?_) (fun _ => s_some (keep T2 K2 _))
  -- the letters
  have hs1 : ∀ k w i, fS [(108, 999)] [] k w i = true → cPm c k w i = true := fs_sub (pmA_s hA rfl) fs_n
  refine so_54 (c := cat c (fS [(108, 999)] []) h2) (by omega) fs_a r0 iv1 (fun o v To => keep (th_out T2 hs1 To) (kf_t K2 (kf_of (fr_u T2 To.2.2) rfl)) v) (fun o To W i15 => ?_) F (th_in _ T2) (rg_m (rg_b rfl : Rg 0 0 (0 : Int32)) (by decide)) (by rw [z0]; exact iv1.1) (fun _ _ i hi => absurd hi (by rw [z0]; omega)) (by rw [z0]; omega)
  have T3 := th_out T2 hs1 To
  have K3 : Kf ρ [(108, 999), (16, 1)] h o := kf_t K2 (kf_of (fr_u T2 To.2.2) rfl)
  refine s_hq (th_wI T3 r0 (k := 16) (i := 49) (lo := 0) (hi := 4096) rfl (rg_m (rg_b rfl : Rg 0 0 (0 : Int32)) (by decide)) (by decide) (by decide) (pm_a hA rfl)) (fun h4 T4 w4 => ?_)
  refine s_hq (th_wJ T4 (k := 16) (i := 59) r0 (by decide) (pm_a hA rfl)) (fun h5 T5 w5 => ?_)
  refine s_hq (th_wI T5 r0 (k := 16) (i := 50) (lo := 0) (hi := 4096) rfl (rg_m (rg_b rfl : Rg 0 0 (0 : Int32)) (by decide)) (by decide) (by decide) (pm_a hA rfl)) (fun h6 T6 w6 => ?_)
  have K6 : Kf ρ [(108, 999), (16, 1), (16, 49), (16, 50), (16, 59)] h h6 := kf_t (kf_m K3 rfl) (kf_t (kf_wI w4 r0) (kf_t (kf_wJ w5 r0) (kf_wI w6 r0)))
  have x49 : hI h6 x0 49 = 0 := by
    rw [w6, r_I, if_neg (fun w => absurd w.2 (by decide)), w5]
    show hI h4 x0 49 = 0
    rw [w4, r_I, if_pos ⟨rfl, rfl⟩]
  have x59 : hJ h6 x0 59 = 0 := by
    rw [w6]
    show hJ h5 x0 59 = 0
    rw [w5, r_J, if_pos ⟨rfl, rfl⟩]
  have x50 : hI h6 x0 50 = 0 := by rw [w6, r_I, if_pos ⟨rfl, rfl⟩]
  have SR6 : SlR ρ x0 rm re rb rk rs ro h6 := ⟨⟨r0, qm, qe, qb, qk, qs, qo⟩, ⟨by rw [kfR 46 K6 r0]; exact e46, by rw [kfR 47 K6 r0]; exact e47, by rw [kfR 48 K6 r0]; exact e48, by rw [kfR 55 K6 r0]; exact e55, by rw [kfR 56 K6 r0]; exact e56, by rw [kfR 57 K6 r0]; exact e57⟩⟩
  have W6 : RW x0 v1.toInt h6 := fun ro' er i hi => by
    rw [kfR 57 K6 r0] at er
    have hz1 := r_eq e57 er
    subst hz1
    rw [w6, r_I, if_neg (ne_r qo r0 (by decide)), w5]
    show 1 ≤ (hI h4 ro' i).toInt
    rw [w4, r_I, if_neg (ne_r qo r0 (by decide))]
    exact W ro' (by rw [kfR 57 K3 r0]; exact e57) i hi
  refine so2_203 (h0 := h6) (Bc := Bc) (Bm := Bm) (R := R) (by omega) (pmA_s hA rfl) SR6 (by rw [kfR 4 K6 r0]; exact e4) (by rw [kfR 13 K6 qR]; exact e13) (by rw [kfR 14 K6 qR]; exact e14) qR i15 (fun o v To z => ⟨ρ, c, ex_0, To, rg_top _, fun nz => absurd z nz⟩) (fun o7 T7 K67 P7 A7 l7 z7 => ?_) F T6 kf_r (by rw [x49]; rfl) (by rw [x59]; rfl) x50 W6 (by decide) (fun j hj => absurd hj (by rw [z0]; omega)) (by rw [z0]; omega)
  -- the masks
  have hs2 : ∀ k w i, fS [(104, 999)] [] k w i = true → cPm c k w i = true := fs_sub (pmA_s hA rfl) fs_n
  refine so_246 (c := cat c (fS [(104, 999)] []) o7) (n0 := (hI o7 x0 49).toInt) (by omega) fs_a r0 (fun o8 y To8 P8 n8 _ D8 iy => ?_) F (th_in _ T7) P7 rfl (by decide) (by rw [z0]; omega) (by decide) (fun rb' erb => ?_) (fun _ _ _ _ k hk => absurd hk (by rw [z0]; omega)) (fun _ _ _ _ k hk => absurd hk (by rw [z0]; omega)) (by rw [z0]; omega)
  · have T8 := th_out T7 hs2 To8
    have K78 : Kf ρ [(104, 999)] o7 o8 := kf_of (fr_u T7 To8.2.2) rfl
    have K8 : Kf ρ soA h o8 := kf_t (kf_m K6 rfl) (kf_t (kf_m K67 rfl) (kf_m K78 rfl))
    have A8 : AllS x0 rm re rs rk R Bc Bm o8 := alls_of (kfI 49 K78 r0) (fun i => kfI i K78 qm) (fun i => kfI i K78 qe) (fun i => kfI i K78 qs) (fun i => kfI i K78 qk) (kfI 10 K78 qR) (fun i => kfI i K78 qBc) (fun i => kfI i K78 qBm) A7
    have SR8 : SlR ρ x0 rm re rb rk rs ro o8 := ⟨⟨r0, qm, qe, qb, qk, qs, qo⟩, ⟨by rw [kfR 46 K8 r0]; exact e46, by rw [kfR 47 K8 r0]; exact e47, by rw [kfR 48 K8 r0]; exact e48, by rw [kfR 55 K8 r0]; exact e55, by rw [kfR 56 K8 r0]; exact e56, by rw [kfR 57 K8 r0]; exact e57⟩⟩
    have sq8 : SqOk x0 o8 := by unfold SqOk; rw [kfI 13 K8 r0, kfI 11 K8 r0, kfI 12 K8 r0]; exact sq
    have hz8 : hI o8 R 15 = 0 := by rw [kfI 15 K8 qR, ← kfI 15 K2 qR]; exact hz
    have D8' : MBd x0 (hI o8 x0 49).toInt y.toInt o8 := by rw [n8]; exact D8
    have l8 : 1 ≤ (hI o8 x0 49).toInt := by rw [n8]; exact l7
    refine s_onr (fun none' => ?_) (fun km ekm => ?_)
    · refine s_q (fun a4 ea => ?_)
      refine s_q (fun h9 eh => ?_)
      obtain ⟨ρ', c', X, T9, qa, O9⟩ := newMasks T8 ea eh
      unfold sX15_solve_301
      have r0' := ex_r X r0 (by decide)
      have hA' := ex_A X hA
      have T10 : TH ρ' c' (wR h9 x0 52 (some a4)) := th_un (th_wR T9 r0' (k := 16) (i := 52) (j := 8) (k2 := 103) rfl (by decide) rfl (by decide) qa rfl nid_8 (by decide) (by decide) rfl rfl (fun w => absurd rfl w) (pm_a hA' rfl))
      refine s_hq T10 (fun h10 T10 w10 => ?_)
      -- all that was there is as it was
      have K10 : Kf ρ [(16, 52)] o8 h10 := fun b i n x => by
        have lt : b < o8.1.1 := by rw [T8.1.1]; exact T8.2.1.2.2.1 b n
        obtain ⟨q1, q2, q3, _⟩ := O9 b lt
        rw [w10]
        refine ⟨q1 i, q2 i, ?_⟩
        rw [r_R, if_neg]
        · exact q3 i
        · rintro ⟨q5, q6⟩
          subst q5; subst q6
          rw [r0] at x
          exact absurd x (by show ¬ true = false; decide)
      have km10 : hR h10 x0 52 = some a4 := by rw [w10, r_R, if_pos ⟨rfl, rfl⟩]
      refine s_imp (so_masks (ρ := ρ') (c := c') (km := a4) (R := R) (Bc := Bc) (Bm := Bm) (rp := rp) (rt := rt) (rw := rw') (mb := mb) (y := y) hF hA' (ex_O X hS) (ex_O X hB) (ex_O X hL) T10 ⟨⟨r0', ex_r X qm (by decide), ex_r X qe (by decide), ex_r X qb (by decide), ex_r X qk (by decide), ex_r X qs (by decide), ex_r X qo (by decide)⟩, ⟨by rw [kfR 46 K10 r0]; exact SR8.2.1, by rw [kfR 47 K10 r0]; exact SR8.2.2.1, by rw [kfR 48 K10 r0]; exact SR8.2.2.2.1, by rw [kfR 55 K10 r0]; exact SR8.2.2.2.2.1, by rw [kfR 56 K10 r0]; exact SR8.2.2.2.2.2.1, by rw [kfR 57 K10 r0]; exact SR8.2.2.2.2.2.2⟩⟩ ⟨by rw [kfR 58 K10 r0, kfR 58 K8 r0]; exact e58, by rw [kfR 61 K10 r0, kfR 61 K8 r0]; exact e61, by rw [kfR 51 K10 r0, kfR 51 K8 r0]; exact e51, by rw [kfR 53 K10 r0, kfR 53 K8 r0]; exact e53, km10, by rw [kfR 4 K10 r0, kfR 4 K8 r0]; exact e4, by rw [kfR 13 K10 qR, kfR 13 K8 qR]; exact e13, by rw [kfR 14 K10 qR, kfR 14 K8 qR]; exact e14⟩ ⟨ex_r X qp (by decide), ex_r X qt (by decide), ex_r X qw (by decide), ex_r X qmb (by decide), qa, ex_r X qR (by decide), ex_r X qBc (by decide), ex_r X qBm (by decide)⟩ (se_k K10 r0 qm qe qb qk qs SR8.2.1 SR8.2.2.1 SR8.2.2.2.1 SR8.2.2.2.2.1 SR8.2.2.2.2.2.1 P8) (alls_of (kfI 49 K10 r0) (fun i => kfI i K10 qm) (fun i => kfI i K10 qe) (fun i => kfI i K10 qs) (fun i => kfI i K10 qk) (kfI 10 K10 qR) (fun i => kfI i K10 qBc) (fun i => kfI i K10 qBm) A8) ?_ iy (by unfold SqOk; rw [kfI 13 K10 r0, kfI 11 K10 r0, kfI 12 K10 r0]; exact sq8) (by rw [kfI 15 K10 qR]; exact hz8) (by rw [kfI 49 K10 r0]; exact l8)) (fun o w => ⟨ρ', c', X, w.1, rg_top _, w.2⟩)
      intro rm' rb' em' eb' k hk
      rw [kfR 46 K10 r0] at em'
      rw [kfR 53 K10 r0] at eb'
      rw [kfI 49 K10 r0] at hk
      have hz1 := r_eq SR8.2.1 em'
      subst hz1
      have hz1 := r_eq (show hR o8 x0 53 = some mb by rw [kfR 53 K8 r0]; exact e53) eb'
      subst hz1
      rw [kfI 13 K10 r0, kfI 49 K10 r0]
      simp only [kfI _ K10 qm, kfI _ K10 qmb]
      exact D8' rm' rb' em' eb' k hk
    · have qkm : ρ km = 103 := thRn T8 r0 (i := 52) (k2 := 103) rfl (by decide) ekm
      exact s_imp (so_masks (km := km) (R := R) (Bc := Bc) (Bm := Bm) (rp := rp) (rt := rt) (rw := rw') (mb := mb) (y := y) hF hA hS hB hL T8 SR8 ⟨by rw [kfR 58 K8 r0]; exact e58, by rw [kfR 61 K8 r0]; exact e61, by rw [kfR 51 K8 r0]; exact e51, by rw [kfR 53 K8 r0]; exact e53, ekm, by rw [kfR 4 K8 r0]; exact e4, by rw [kfR 13 K8 qR]; exact e13, by rw [kfR 14 K8 qR]; exact e14⟩ ⟨qp, qt, qw, qmb, qkm, qR, qBc, qBm⟩ P8 A8 D8' iy sq8 hz8 l8) (fun o w => ⟨ρ, c, ex_0, w.1, rg_top _, w.2⟩)
  · show 2 * (0 : Int) ≤ _
    have qb' : ρ rb' = 101 := rr T7 (thR T7 r0 (i := 48) (k2 := 101) rfl (by decide)) erb
    have q1 := (thI T7 qb' (k := 101) (i := (0 : Int32).toNatClampNeg) (lo := 0) (hi := 600000) rfl).1
    have q2 := P7.2.1.1
    split <;> omega
end
end
section
/-! keys of the class's sets as numbers -/
theorem i32_nat {x : Int32} (a : 0 ≤ x.toInt) : ∃ j : Nat, x = nI j ∧ x.toInt = (j : Int) ∧ j < 2 ^ 31 := rg_nI (a := 0) (b := x.toInt) ⟨a, Int.le_refl _⟩ (Int.le_refl 0)
theorem nI_bv {i : Nat} (hi : i < 2 ^ 31) : (nI i).toBitVec.toNat = i := by
  show (BitVec.ofNat 32 i).toNat = i
  rw [BitVec.toNat_ofNat]
  exact Nat.mod_eq_of_lt (by omega)
theorem and_i {x y : Int32} {m : Nat} (a : 0 ≤ x.toInt) (hm : m ≤ 30) (e : y.toInt = ((2 ^ m - 1 : Nat) : Int)) : (x &&& y).toInt = x.toInt % ((2 ^ m : Nat) : Int) := by
  obtain ⟨j, ej, tj, hj⟩ := i32_nat a
  obtain ⟨k, ek, tk, hk⟩ := i32_nat (x := y) (by rw [e]; exact Int.natCast_nonneg _)
  have ek2 : k = 2 ^ m - 1 := by omega
  have p : 0 < 2 ^ m := Nat.two_pow_pos m
  have md : j % 2 ^ m < 2 ^ 31 := Nat.lt_of_le_of_lt (Nat.mod_le _ _) hj
  have eo : x &&& y = nI (j % 2 ^ m) := by
    rw [ej, ek]
    apply Int32.toBitVec_inj.mp
    apply BitVec.eq_of_toNat_eq
    show ((nI j).toBitVec &&& (nI k).toBitVec).toNat = (nI (j % 2 ^ m)).toBitVec.toNat
    rw [BitVec.toNat_and, nI_bv hj, nI_bv hk, nI_bv md, ek2, Nat.and_two_pow_sub_one_eq_mod]
  rw [eo, z_toInt md, tj]
  rfl
theorem or_i {x y : Int32} {m : Nat} {z : Int} (a : 0 ≤ x.toInt) (b : x.toInt < ((2 ^ m : Nat) : Int)) (z0 : 0 ≤ z) (e : y.toInt = z * ((2 ^ m : Nat) : Int)) (s : x.toInt + y.toInt ≤ 2147483647) : (x ||| y).toInt = x.toInt + y.toInt := by
  obtain ⟨j, ej, tj, hj⟩ := i32_nat a
  obtain ⟨w, rfl⟩ := Int.eq_ofNat_of_zero_le z0
  have y0 : 0 ≤ y.toInt := by rw [e]; exact Int.mul_nonneg z0 (Int.natCast_nonneg _)
  obtain ⟨k, ek, tk, hk⟩ := i32_nat y0
  have ek2 : k = 2 ^ m * w := by
    have : (k : Int) = ((2 ^ m * w : Nat) : Int) := by rw [← tk, e, Int.natCast_mul, Int.mul_comm]
    exact Int.ofNat.inj this
  have jl : j < 2 ^ m := by
    have : (j : Int) < ((2 ^ m : Nat) : Int) := by rw [← tj]; exact b
    exact Int.ofNat_lt.mp this
  have sl : j + k < 2 ^ 31 := by omega
  have eo : x ||| y = nI (j + k) := by
    rw [ej, ek]
    apply Int32.toBitVec_inj.mp
    apply BitVec.eq_of_toNat_eq
    show ((nI j).toBitVec ||| (nI k).toBitVec).toNat = (nI (j + k)).toBitVec.toNat
    rw [BitVec.toNat_or, nI_bv hj, nI_bv hk, nI_bv sl, ek2, Nat.or_comm, ← Nat.two_pow_add_eq_or_of_lt jl w, Nat.add_comm]
  rw [eo, z_toInt sl, tj, tk]
  omega
theorem shl_i {x s : Int32} {m : Nat} (hs : s.toBitVec.toNat % 32 = m) (a : 0 ≤ x.toInt) (b : x.toInt * ((2 ^ m : Nat) : Int) ≤ 2147483647) : (x <<< (s &&& 31)).toInt = x.toInt * ((2 ^ m : Nat) : Int) := by
  have hk := Jvm.RoadKit.c_ishl x s m hs
  have n0 : 0 ≤ x.toInt * ((2 ^ m : Nat) : Int) := Int.mul_nonneg a (Int.natCast_nonneg _)
  have t := rg_top (x <<< (s &&& 31))
  have t1 := t.1
  have t2 := t.2
  generalize x.toInt * ((2 ^ m : Nat) : Int) = B at *
  omega
theorem shr_i {x s : Int32} (m : Nat) (hs : s.toBitVec.toNat % 32 = m) : (x >>> (s &&& 31)).toInt = x.toInt / ((2 ^ m : Nat) : Int) := Jvm.RoadKit.c_ishr x s m hs
theorem i32_04 {x : Int32} (i : Rg 0 4 x) : x = 0 ∨ x = 1 ∨ x = 2 ∨ x = 3 ∨ x = 4 := by
  have a := i.1
  have b := i.2
  rcases (by omega : x.toInt = 0 ∨ x.toInt = 1 ∨ x.toInt = 2 ∨ x.toInt = 3 ∨ x.toInt = 4) with w | w | w | w | w
  · exact Or.inl (Int32.toInt_inj.mp w)
  · exact Or.inr (Or.inl (Int32.toInt_inj.mp w))
  · exact Or.inr (Or.inr (Or.inl (Int32.toInt_inj.mp w)))
  · exact Or.inr (Or.inr (Or.inr (Or.inl (Int32.toInt_inj.mp w))))
  · exact Or.inr (Or.inr (Or.inr (Or.inr (Int32.toInt_inj.mp w))))
/-- digits of a key, as numbers -/
def KyI (x : Int) : Prop := x % 32 ≤ 24 ∧ x / 32 % 32 ≤ 24 ∧ x / 1024 % 32 ≤ 24 ∧ x / 32768 % 32 ≤ 24 ∧ x / 1048576 % 32 ≤ 24
theorem dig_i {x : Int32} (a : 0 ≤ x.toInt) (m : Nat) (s : Int32) (hs : s.toBitVec.toNat % 32 = m) : ((x >>> (s &&& 31)) &&& (31 : Int32)).toInt = x.toInt / ((2 ^ m : Nat) : Int) % 32 := by
  have e := shr_i (x := x) (s := s) m hs
  have n : 0 ≤ (x >>> (s &&& 31)).toInt := by rw [e]; exact Int.ediv_nonneg a (Int.natCast_nonneg _)
  rw [and_i (m := 5) n (by decide) rfl, e]
  rfl
theorem ky_i {x : Int32} (a : 0 ≤ x.toInt) : KyX x ↔ KyI x.toInt := by
  have d0 := dig_i a 0 ((5 : Int32) * 0) rfl
  have d1 := dig_i a 5 ((5 : Int32) * 1) rfl
  have d2 := dig_i a 10 ((5 : Int32) * 2) rfl
  have d3 := dig_i a 15 ((5 : Int32) * 3) rfl
  have d4 := dig_i a 20 ((5 : Int32) * 4) rfl
  have e0 : x.toInt / ((2 ^ 0 : Nat) : Int) % 32 = x.toInt % 32 := by show x.toInt / 1 % 32 = _; omega
  rw [e0] at d0
  constructor
  · intro P
    refine ⟨?_, ?_, ?_, ?_, ?_⟩
    · rw [← d0]; exact P 0 (by decide) (by decide)
    · have := P 1 (by decide) (by decide); rw [d1] at this; exact this
    · have := P 2 (by decide) (by decide); rw [d2] at this; exact this
    · have := P 3 (by decide) (by decide); rw [d3] at this; exact this
    · have := P 4 (by decide) (by decide); rw [d4] at this; exact this
  · rintro ⟨p0, p1, p2, p3, p4⟩ s s0 s4
    rcases i32_04 (x := s) ⟨s0, s4⟩ with w | w | w | w | w <;> subst w
    · rw [d0]; exact p0
    · rw [d1]; exact p1
    · rw [d2]; exact p2
    · rw [d3]; exact p3
    · rw [d4]; exact p4
theorem ky_sum {e0 e1 e2 e3 e4 B : Int} (h0 : 0 ≤ e0 ∧ e0 ≤ 24) (h1 : 0 ≤ e1 ∧ e1 ≤ 24) (h2 : 0 ≤ e2 ∧ e2 ≤ 24) (h3 : 0 ≤ e3 ∧ e3 ≤ 24) (h4 : 0 ≤ e4 ∧ e4 ≤ 24) (e : B = e0 + 32 * e1 + 1024 * e2 + 32768 * e3 + 1048576 * e4) : KyI B := by
  subst e
  refine ⟨?_, ?_, ?_, ?_, ?_⟩
  · have : (e0 + 32 * e1 + 1024 * e2 + 32768 * e3 + 1048576 * e4) % 32 = e0 := by omega
    omega
  · have : (e0 + 32 * e1 + 1024 * e2 + 32768 * e3 + 1048576 * e4) / 32 = e1 + 32 * e2 + 1024 * e3 + 32768 * e4 := by omega
    rw [this]; omega
  · have : (e0 + 32 * e1 + 1024 * e2 + 32768 * e3 + 1048576 * e4) / 1024 = e2 + 32 * e3 + 1024 * e4 := by omega
    rw [this]; omega
  · have : (e0 + 32 * e1 + 1024 * e2 + 32768 * e3 + 1048576 * e4) / 32768 = e3 + 32 * e4 := by omega
    rw [this]; omega
  · have : (e0 + 32 * e1 + 1024 * e2 + 32768 * e3 + 1048576 * e4) / 1048576 = e4 := by omega
    rw [this]; omega
theorem ky_dig {x : Int} (a : 0 ≤ x) (b : x ≤ 33554431) (k : KyI x) : ∃ d0 d1 d2 d3 d4 : Int, (0 ≤ d0 ∧ d0 ≤ 24) ∧ (0 ≤ d1 ∧ d1 ≤ 24) ∧ (0 ≤ d2 ∧ d2 ≤ 24) ∧ (0 ≤ d3 ∧ d3 ≤ 24) ∧ (0 ≤ d4 ∧ d4 ≤ 24) ∧ x = d0 + 32 * d1 + 1024 * d2 + 32768 * d3 + 1048576 * d4 := by
  obtain ⟨k0, k1, k2, k3, k4⟩ := k
  refine ⟨x % 32, x / 32 % 32, x / 1024 % 32, x / 32768 % 32, x / 1048576 % 32, ⟨by omega, k0⟩, ⟨by omega, k1⟩, ⟨by omega, k2⟩, ⟨by omega, k3⟩, ⟨by omega, k4⟩, ?_⟩
  have a1 : x = x % 32 + 32 * (x / 32) := by omega
  have a2 : x / 32 = x / 32 % 32 + 32 * (x / 1024) := by omega
  have a3 : x / 1024 = x / 1024 % 32 + 32 * (x / 32768) := by omega
  have a4 : x / 32768 = x / 32768 % 32 + 32 * (x / 1048576) := by omega
  have a5 : x / 1048576 = x / 1048576 % 32 := by omega
  omega
/-- one man less -/
theorem wo_one {x : Int32} {m : Nat} {s s5 : Int32} (hs : s.toBitVec.toNat % 32 = m) (h5 : s5.toBitVec.toNat % 32 = m + 5) (hm : m ≤ 20) (y : (((1 : Int32) <<< (s &&& 31)) - (1 : Int32)).toInt = ((2 ^ m - 1 : Nat) : Int)) (a : 0 ≤ x.toInt) (b : x.toInt ≤ 33554431) : ((x &&& (((1 : Int32) <<< (s &&& 31)) - (1 : Int32))) ||| ((x >>> (s5 &&& 31)) <<< (s &&& 31))).toInt = x.toInt % ((2 ^ m : Nat) : Int) + x.toInt / ((2 ^ (m + 5) : Nat) : Int) * ((2 ^ m : Nat) : Int) := by
  have p : 0 < ((2 ^ m : Nat) : Int) := Int.natCast_pos.mpr (Nat.two_pow_pos m)
  have e1 := and_i (x := x) (m := m) a (by omega) y
  have e2 := shr_i (x := x) (s := s5) (m + 5) h5
  have n2 : 0 ≤ (x >>> (s5 &&& 31)).toInt := by rw [e2]; exact Int.ediv_nonneg a (Int.natCast_nonneg _)
  have pe : ((2 ^ (m + 5) : Nat) : Int) = ((2 ^ m : Nat) : Int) * 32 := by rw [Nat.pow_add, Int.natCast_mul]; rfl
  have le : x.toInt / ((2 ^ (m + 5) : Nat) : Int) * ((2 ^ m : Nat) : Int) ≤ x.toInt := by
    have d0 : 0 ≤ x.toInt / ((2 ^ (m + 5) : Nat) : Int) := Int.ediv_nonneg a (Int.natCast_nonneg _)
    have l1 := Int.ediv_mul_le x.toInt (show ((2 ^ (m + 5) : Nat) : Int) ≠ 0 by rw [pe]; omega)
    have l2 : x.toInt / ((2 ^ (m + 5) : Nat) : Int) * ((2 ^ m : Nat) : Int) ≤ x.toInt / ((2 ^ (m + 5) : Nat) : Int) * ((2 ^ (m + 5) : Nat) : Int) := Int.mul_le_mul_of_nonneg_left (by rw [pe]; omega) d0
    omega
  have e3 := shl_i (x := x >>> (s5 &&& 31)) (s := s) hs n2 (by rw [e2]; omega)
  have m0 := Int.emod_nonneg x.toInt (show ((2 ^ m : Nat) : Int) ≠ 0 by omega)
  have m1 := Int.emod_lt_of_pos x.toInt p
  have m2 : x.toInt % ((2 ^ m : Nat) : Int) ≤ x.toInt := by
    have z1 := Int.mul_ediv_add_emod x.toInt ((2 ^ m : Nat) : Int)
    have z2 : 0 ≤ ((2 ^ m : Nat) : Int) * (x.toInt / ((2 ^ m : Nat) : Int)) := Int.mul_nonneg (by omega) (Int.ediv_nonneg a (by omega))
    omega
  rw [or_i (m := m) (z := (x >>> (s5 &&& 31)).toInt) (by rw [e1]; exact m0) (by rw [e1]; exact m1) n2 e3 (by rw [e1, e3, e2]; omega), e1, e3, e2]
/-- one man more -/
theorem wi_one {x v : Int32} {m : Nat} {s s5 : Int32} (hs : s.toBitVec.toNat % 32 = m) (h5 : s5.toBitVec.toNat % 32 = m + 5) (hm : m ≤ 20) (y : (((1 : Int32) <<< (s &&& 31)) - (1 : Int32)).toInt = ((2 ^ m - 1 : Nat) : Int)) (a : 0 ≤ x.toInt) (b : x.toInt < 1048576) (iv : Rg 0 31 v) : (((x &&& (((1 : Int32) <<< (s &&& 31)) - (1 : Int32))) ||| (v <<< (s &&& 31))) ||| ((x >>> (s &&& 31)) <<< (s5 &&& 31))).toInt = x.toInt % ((2 ^ m : Nat) : Int) + v.toInt * ((2 ^ m : Nat) : Int) + x.toInt / ((2 ^ m : Nat) : Int) * ((2 ^ (m + 5) : Nat) : Int) := by
  have p : 0 < ((2 ^ m : Nat) : Int) := Int.natCast_pos.mpr (Nat.two_pow_pos m)
  have p2 : ((2 ^ m : Nat) : Int) ≤ 1048576 := by
    have : 2 ^ m ≤ 2 ^ 20 := Nat.pow_le_pow_right (by decide) hm
    omega
  have v0 := iv.1
  have v1 := iv.2
  have e1 := and_i (x := x) (m := m) a (by omega) y
  have m0 := Int.emod_nonneg x.toInt (show ((2 ^ m : Nat) : Int) ≠ 0 by omega)
  have m1 := Int.emod_lt_of_pos x.toInt p
  have vb : v.toInt * ((2 ^ m : Nat) : Int) ≤ 31 * ((2 ^ m : Nat) : Int) := Int.mul_le_mul_of_nonneg_right v1 (by omega)
  have vn : 0 ≤ v.toInt * ((2 ^ m : Nat) : Int) := Int.mul_nonneg v0 (by omega)
  have e2 := shl_i (x := v) (s := s) hs v0 (by omega)
  have e3 := shr_i (x := x) (s := s) m hs
  have d0 : 0 ≤ x.toInt / ((2 ^ m : Nat) : Int) := Int.ediv_nonneg a (by omega)
  have pe : ((2 ^ (m + 5) : Nat) : Int) = ((2 ^ m : Nat) : Int) * 32 := by rw [Nat.pow_add, Int.natCast_mul]; rfl
  have l1 := Int.ediv_mul_le x.toInt (show ((2 ^ m : Nat) : Int) ≠ 0 by omega)
  have le : x.toInt / ((2 ^ m : Nat) : Int) * ((2 ^ (m + 5) : Nat) : Int) ≤ 32 * 1048576 := by
    rw [pe, ← Int.mul_assoc]
    omega
  have n3 : 0 ≤ x.toInt / ((2 ^ m : Nat) : Int) * ((2 ^ (m + 5) : Nat) : Int) := Int.mul_nonneg d0 (Int.natCast_nonneg _)
  have e4 := shl_i (x := x >>> (s &&& 31)) (s := s5) h5 (by rw [e3]; exact d0) (by rw [e3]; omega)
  have e5 := or_i (x := x &&& (((1 : Int32) <<< (s &&& 31)) - (1 : Int32))) (y := v <<< (s &&& 31)) (m := m) (z := v.toInt) (by rw [e1]; exact m0) (by rw [e1]; exact m1) v0 e2 (by rw [e1, e2]; omega)
  rw [e1, e2] at e5
  have l5 : x.toInt % ((2 ^ m : Nat) : Int) + v.toInt * ((2 ^ m : Nat) : Int) < ((2 ^ (m + 5) : Nat) : Int) := by
    rw [pe]
    omega
  rw [or_i (m := m + 5) (z := (x >>> (s &&& 31)).toInt) (by rw [e5]; omega) (by rw [e5]; exact l5) (by rw [e3]; exact d0) e4 (by rw [e5, e4, e3]; omega), e5, e4, e3]
section
variable {ρ : Nat → Nat} {c : Cm} {h : Hp} {x x1 : Int32} {F : Nat}
/-- without: a key of one man less -/
theorem wout_q (a : 0 ≤ x.toInt) (b : x.toInt ≤ 33554431) (K : KyX x) (i : Rg 0 4 x1) : Sat (sX0_without h x x1) (fun o => o.2 = h ∧ Rg 0 1048575 o.1 ∧ KyX o.1) := by
  unfold sX0_without
  obtain ⟨d0, d1, d2, d3, d4, h0, h1, h2, h3, h4, ex⟩ := ky_dig a (by omega) ((ky_i a).mp K)
  have fin : ∀ {z : Int32} {B : Int}, z.toInt = B → 0 ≤ B → B ≤ 1048575 → KyI B → Rg 0 1048575 z ∧ KyX z := fun {z B} e b0 b1 kb => ⟨⟨by omega, by omega⟩, (ky_i (by omega)).mpr (by rw [e]; exact kb)⟩
  refine s_q (fun v ev => s_some ⟨rfl, ?_⟩)
  rcases i32_04 i with w | w | w | w | w <;> subst w <;> subst ev
  · exact fin (wo_one (m := 0) rfl rfl (by decide) rfl a b) (by show 0 ≤ x.toInt % 1 + x.toInt / 32 * 1; omega) (by show x.toInt % 1 + x.toInt / 32 * 1 ≤ _; omega) (ky_sum (e4 := 0) h1 h2 h3 h4 (by decide) (by show x.toInt % 1 + x.toInt / 32 * 1 = _; omega))
  · exact fin (wo_one (m := 5) rfl rfl (by decide) rfl a b) (by show 0 ≤ x.toInt % 32 + x.toInt / 1024 * 32; omega) (by show x.toInt % 32 + x.toInt / 1024 * 32 ≤ _; omega) (ky_sum (e4 := 0) h0 h2 h3 h4 (by decide) (by show x.toInt % 32 + x.toInt / 1024 * 32 = _; omega))
  · exact fin (wo_one (m := 10) rfl rfl (by decide) rfl a b) (by show 0 ≤ x.toInt % 1024 + x.toInt / 32768 * 1024; omega) (by show x.toInt % 1024 + x.toInt / 32768 * 1024 ≤ _; omega) (ky_sum (e4 := 0) h0 h1 h3 h4 (by decide) (by show x.toInt % 1024 + x.toInt / 32768 * 1024 = _; omega))
  · exact fin (wo_one (m := 15) rfl rfl (by decide) rfl a b) (by show 0 ≤ x.toInt % 32768 + x.toInt / 1048576 * 32768; omega) (by show x.toInt % 32768 + x.toInt / 1048576 * 32768 ≤ _; omega) (ky_sum (e4 := 0) h0 h1 h2 h4 (by decide) (by show x.toInt % 32768 + x.toInt / 1048576 * 32768 = _; omega))
  · exact fin (wo_one (m := 20) rfl rfl (by decide) rfl a b) (by show 0 ≤ x.toInt % 1048576 + x.toInt / 33554432 * 1048576; omega) (by show x.toInt % 1048576 + x.toInt / 33554432 * 1048576 ≤ _; omega) (ky_sum (e4 := 0) h0 h1 h2 h3 (by decide) (by show x.toInt % 1048576 + x.toInt / 33554432 * 1048576 = _; omega))
/-- with: a key of one man more -/
theorem with_q (hF : 700000 ≤ F) (a : 0 ≤ x.toInt) (b : x.toInt ≤ 1048575) (K : KyX x) (i : Rg 0 23 x1) : Sat (sX0_with F h x x1) (fun o => o.2 = h ∧ Rg 0 33554431 o.1 ∧ KyX o.1) := by
  obtain ⟨d0, d1, d2, d3, d4, h0, h1, h2, h3, h4, ex⟩ := ky_dig a (by omega) ((ky_i a).mp K)
  have i0 := i.1
  have i1 := i.2
  have z1 : (1 : Int32).toInt = 1 := rfl
  have ev : (x1 + (1 : Int32)).toInt = x1.toInt + 1 := by rw [ta (by rw [z1]; omega), z1]
  have iv : Rg 0 31 (x1 + (1 : Int32)) := ⟨by omega, by omega⟩
  have fin : ∀ {z : Int32} {B : Int}, z.toInt = B → 0 ≤ B → B ≤ 33554431 → KyI B → Rg 0 33554431 z ∧ KyX z := fun {z B} e b0 b1 kb => ⟨⟨by omega, by omega⟩, (ky_i (by omega)).mpr (by rw [e]; exact kb)⟩
  have b35 : ∀ s : Int32, (s = 0 ∨ s = 5 ∨ s = 10 ∨ s = 15 ∨ s = 20) → Sat (sX0_with_35 F h x x1 s) (fun o => o.2 = h ∧ Rg 0 33554431 o.1 ∧ KyX o.1) := by
    intro s hs
    unfold sX0_with_35
    refine s_q (fun v e1 => s_some ⟨rfl, ?_⟩)
    rcases hs with w | w | w | w | w <;> subst w <;> subst e1
    · have e := wi_one (x := x) (v := x1 + (1 : Int32)) (m := 0) (s := 0) (s5 := (0 : Int32) + (5 : Int32)) rfl rfl (by decide) rfl a (by omega) iv
      rw [ev] at e
      exact fin e (by show 0 ≤ x.toInt % 1 + (x1.toInt + 1) * 1 + x.toInt / 1 * 32; omega) (by show x.toInt % 1 + (x1.toInt + 1) * 1 + x.toInt / 1 * 32 ≤ _; omega) (ky_sum (e0 := x1.toInt + 1) ⟨by omega, by omega⟩ h0 h1 h2 h3 (by show x.toInt % 1 + (x1.toInt + 1) * 1 + x.toInt / 1 * 32 = _; omega))
    · have e := wi_one (x := x) (v := x1 + (1 : Int32)) (m := 5) (s := 5) (s5 := (5 : Int32) + (5 : Int32)) rfl rfl (by decide) rfl a (by omega) iv
      rw [ev] at e
      exact fin e (by show 0 ≤ x.toInt % 32 + (x1.toInt + 1) * 32 + x.toInt / 32 * 1024; omega) (by show x.toInt % 32 + (x1.toInt + 1) * 32 + x.toInt / 32 * 1024 ≤ _; omega) (ky_sum (e1 := x1.toInt + 1) h0 ⟨by omega, by omega⟩ h1 h2 h3 (by show x.toInt % 32 + (x1.toInt + 1) * 32 + x.toInt / 32 * 1024 = _; omega))
    · have e := wi_one (x := x) (v := x1 + (1 : Int32)) (m := 10) (s := 10) (s5 := (10 : Int32) + (5 : Int32)) rfl rfl (by decide) rfl a (by omega) iv
      rw [ev] at e
      exact fin e (by show 0 ≤ x.toInt % 1024 + (x1.toInt + 1) * 1024 + x.toInt / 1024 * 32768; omega) (by show x.toInt % 1024 + (x1.toInt + 1) * 1024 + x.toInt / 1024 * 32768 ≤ _; omega) (ky_sum (e2 := x1.toInt + 1) h0 h1 ⟨by omega, by omega⟩ h2 h3 (by show x.toInt % 1024 + (x1.toInt + 1) * 1024 + x.toInt / 1024 * 32768 = _; omega))
    · have e := wi_one (x := x) (v := x1 + (1 : Int32)) (m := 15) (s := 15) (s5 := (15 : Int32) + (5 : Int32)) rfl rfl (by decide) rfl a (by omega) iv
      rw [ev] at e
      exact fin e (by show 0 ≤ x.toInt % 32768 + (x1.toInt + 1) * 32768 + x.toInt / 32768 * 1048576; omega) (by show x.toInt % 32768 + (x1.toInt + 1) * 32768 + x.toInt / 32768 * 1048576 ≤ _; omega) (ky_sum (e3 := x1.toInt + 1) h0 h1 h2 ⟨by omega, by omega⟩ h3 (by show x.toInt % 32768 + (x1.toInt + 1) * 32768 + x.toInt / 32768 * 1048576 = _; omega))
    · have e := wi_one (x := x) (v := x1 + (1 : Int32)) (m := 20) (s := 20) (s5 := (20 : Int32) + (5 : Int32)) rfl rfl (by decide) rfl a (by omega) iv
      rw [ev] at e
      exact fin e (by show 0 ≤ x.toInt % 1048576 + (x1.toInt + 1) * 1048576 + x.toInt / 1048576 * 33554432; omega) (by show x.toInt % 1048576 + (x1.toInt + 1) * 1048576 + x.toInt / 1048576 * 33554432 ≤ _; omega) (ky_sum (e4 := x1.toInt + 1) h0 h1 h2 h3 ⟨by omega, by omega⟩ (by show x.toInt % 1048576 + (x1.toInt + 1) * 1048576 + x.toInt / 1048576 * 33554432 = _; omega))
  obtain ⟨F, rfl⟩ : ∃ G, F = G + 6 := ⟨F - 6, by omega⟩
  have st : ∀ (f : Nat) (s : Int32), (s = 0 ∨ s = 5 ∨ s = 10 ∨ s = 15) → Sat (sX0_with_2 (F + 6) f h x x1 (s + (5 : Int32))) (fun o => o.2 = h ∧ Rg 0 33554431 o.1 ∧ KyX o.1) → Sat (sX0_with_2 (F + 6) (f + 1) h x x1 s) (fun o => o.2 = h ∧ Rg 0 33554431 o.1 ∧ KyX o.1) := by
    intro f s hs nx
    rw [sX0_with_2]
    have c1 : s = 0 ∨ s = 5 ∨ s = 10 ∨ s = 15 ∨ s = 20 := by rcases hs with w | w | w | w <;> simp [w]
    exact s_br (fun _ => b35 s c1) (fun _ => s_br (fun _ => b35 s c1) (fun _ => s_br (fun _ => b35 s c1) (fun _ => s_q (fun y ey => by rw [ey]; exact nx))))
  have last : Sat (sX0_with_2 (F + 6) (F + 1 + 1) h x x1 20) (fun o => o.2 = h ∧ Rg 0 33554431 o.1 ∧ KyX o.1) := by
    rw [sX0_with_2]
    refine s_br (fun _ => b35 20 (by simp)) (fun _ => s_br (fun _ => b35 20 (by simp)) (fun n => absurd ?_ n))
    have d := dig_i a 20 (20 : Int32) rfl
    apply Int32.toInt_inj.mp
    rw [d]
    show x.toInt / 1048576 % 32 = 0
    omega
  unfold sX0_with
  exact st _ 0 (by simp) (st _ 5 (by simp) (st _ 10 (by simp) (st _ 15 (by simp) last)))
end
end
section
/-! sets of the class: sizes and sums -/
def szI (X : Int) : Nat := if X % 32 = 0 then 0 else if X / 32 % 32 = 0 then 1 else if X / 1024 % 32 = 0 then 2 else if X / 32768 % 32 = 0 then 3 else if X / 1048576 % 32 = 0 then 4 else 5
theorem sz_le (X : Int) : szI X ≤ 5 := by
  unfold szI
  split
  · omega
  · split
    · omega
    · split
      · omega
      · split
        · omega
        · split <;> omega
section
variable {ρ : Nat → Nat} {c : Cm} {h o : Hp} {x0 ks pw F : Nat} {x x1 : Int32}
theorem size_q (hF : 700000 ≤ F) (a : 0 ≤ x.toInt) : Sat (sX0_sizeOf F h x) (fun o => o.2 = h ∧ o.1 = nI (szI x.toInt)) := by
  have d0 := dig_i a 0 ((5 : Int32) * 0) rfl
  have d1 : ((x >>> (((5 : Int32) * 1) &&& 31)) &&& (31 : Int32)).toInt = x.toInt / 32 % 32 := dig_i a 5 ((5 : Int32) * 1) rfl
  have d2 : ((x >>> (((5 : Int32) * 2) &&& 31)) &&& (31 : Int32)).toInt = x.toInt / 1024 % 32 := dig_i a 10 ((5 : Int32) * 2) rfl
  have d3 : ((x >>> (((5 : Int32) * 3) &&& 31)) &&& (31 : Int32)).toInt = x.toInt / 32768 % 32 := dig_i a 15 ((5 : Int32) * 3) rfl
  have d4 : ((x >>> (((5 : Int32) * 4) &&& 31)) &&& (31 : Int32)).toInt = x.toInt / 1048576 % 32 := dig_i a 20 ((5 : Int32) * 4) rfl
  have e0 : x.toInt / ((2 ^ 0 : Nat) : Int) % 32 = x.toInt % 32 := by show x.toInt / 1 % 32 = _; omega
  rw [e0] at d0
  have z31 : ∀ y : Int32, Rg 0 31 y → (y - (1 : Int32) = (-1 : Int32) ↔ y.toInt = 0) := fun y iy => by
    have z1 : (1 : Int32).toInt = 1 := rfl
    have e := ts (x := y) (y := (1 : Int32)) (by have := iy.1; have := iy.2; rw [z1]; omega)
    rw [z1] at e
    constructor
    · intro w
      rw [w] at e
      have : (-1 : Int32).toInt = -1 := rfl
      omega
    · intro w
      apply Int32.toInt_inj.mp
      rw [e, w]
      rfl
  have r31 : ∀ y : Int32, Rg 0 31 (y &&& (31 : Int32)) := fun y => rg_and (rg_b rfl : Rg 31 31 (31 : Int32)) (by decide)
  obtain ⟨F, rfl⟩ : ∃ G, F = G + 6 := ⟨F - 6, by omega⟩
  have st : ∀ (f : Nat) (s : Int32) (n : Nat) (D : Int), s = nI n → n < 5 → ((x >>> (((5 : Int32) * s) &&& 31)) &&& (31 : Int32)).toInt = D → (D = 0 → szI x.toInt = n) → (¬ D = 0 → Sat (sX0_sizeOf_2 (F + 6) f h x (nI (n + 1))) (fun o => o.2 = h ∧ o.1 = nI (szI x.toInt))) → Sat (sX0_sizeOf_2 (F + 6) (f + 1) h x s) (fun o => o.2 = h ∧ o.1 = nI (szI x.toInt)) := by
    intro f s n D es hn eD p1 p2
    rw [sX0_sizeOf_2]
    unfold sX0_sizeOf_22 sX0_codeIn
    refine s_br (fun l => ?_) (fun _ => ?_)
    · have l := le_i l
      rw [es, z_toInt (by omega)] at l
      exact absurd l (by show ¬ (5 : Int) ≤ _; omega)
    · refine s_cl (s_some ?_)
      dsimp only
      refine s_br (fun w => ?_) (fun w => ?_)
      · rw [z31 _ (r31 _), eD] at w
        exact s_some ⟨rfl, by rw [p1 w]; exact es⟩
      · rw [z31 _ (r31 _), eD] at w
        refine s_q (fun y ey => ?_)
        have : y = nI (n + 1) := by
          apply Int32.toInt_inj.mp
          have z1 : (1 : Int32).toInt = 1 := rfl
          have zn := z_toInt (show n < 2 ^ 31 by omega)
          rw [ey, es, ta (by rw [zn, z1]; omega), zn, z1, z_toInt (by omega)]
          rfl
        rw [this]
        exact p2 w
  unfold sX0_sizeOf
  refine st _ 0 0 _ rfl (by decide) d0 (fun w => by unfold szI; rw [if_pos w]) (fun n0 => ?_)
  refine st _ 1 1 _ rfl (by decide) d1 (fun w => by unfold szI; rw [if_neg n0, if_pos w]) (fun n1 => ?_)
  refine st _ 2 2 _ rfl (by decide) d2 (fun w => by unfold szI; rw [if_neg n0, if_neg n1, if_pos w]) (fun n2 => ?_)
  refine st _ 3 3 _ rfl (by decide) d3 (fun w => by unfold szI; rw [if_neg n0, if_neg n1, if_neg n2, if_pos w]) (fun n3 => ?_)
  refine st _ 4 4 _ rfl (by decide) d4 (fun w => by unfold szI; rw [if_neg n0, if_neg n1, if_neg n2, if_neg n3, if_pos w]) (fun n4 => ?_)
  rw [sX0_sizeOf_2]
  unfold sX0_sizeOf_22
  refine s_br (fun _ => s_some ⟨rfl, ?_⟩) (fun w => absurd (by decide) w)
  unfold szI
  rw [if_neg n0, if_neg n1, if_neg n2, if_neg n3, if_neg n4]
/-- a sum -/
def sm (f : Nat → Int) : Nat → Int
  | 0 => 0
  | n + 1 => sm f n + f n
theorem sm_eq {f g : Nat → Int} : ∀ n, (∀ i, i < n → f i = g i) → sm f n = sm g n := by
  intro n
  induction n with
  | zero => intro _; rfl
  | succ n ih => intro z; show sm f n + f n = sm g n + g n; rw [ih (fun i hi => z i (by omega)), z n (by omega)]
theorem sm_le {f : Nat → Int} (p : ∀ i, 0 ≤ f i) : ∀ n d, sm f n ≤ sm f (n + d) := by
  intro n d
  induction d with
  | zero => exact Int.le_refl _
  | succ d ih => show sm f n ≤ sm f (n + d) + f (n + d); have := p (n + d); omega
theorem sm_0 {f : Nat → Int} (p : ∀ i, 0 ≤ f i) : ∀ n, 0 ≤ sm f n := by
  intro n
  have := sm_le p 0 n
  rw [Nat.zero_add] at this
  exact this
/-- what a set's states count -/
def gK (h : Hp) (pw : Nat) (x : Int32) : Int := 2 * (hI h pw (szI x.toInt)).toInt
/-- the sets' states are no more than the total -/
def SumP (x0 ks pw : Nat) (h : Hp) : Prop := sm (fun i => gK h pw (hI h ks i)) (hI h x0 9).toNatClampNeg ≤ (hJ h x0 18).toInt
theorem addC_q (hF : 700000 ≤ F) (hA : pmA c [(20, 999), (1, 9), (1, 18)]) (T : TH ρ c h) (r0 : ρ x0 = 1) (e4 : hR h x0 4 = some ks) (e6 : hR h x0 6 = some pw) (i1 : Rg 0 33554431 x1) (ky : KyX x1) (S : SumP x0 ks pw h) (t0 : 0 ≤ (hJ h x0 18).toInt) {B : Int} (tb : (hJ h x0 18).toInt ≤ B) (bb : B ≤ 1000000000000) : Sat (sX0_addSet F h x0 x1) (fun o => TH ρ c o ∧ SumP x0 ks pw o ∧ 0 ≤ (hJ o x0 18).toInt ∧ (hJ o x0 18).toInt ≤ B + 2147483648 ∧ Kf ρ [(20, 999), (1, 9), (1, 18)] h o) := by
  have qk : ρ ks = 20 := rr T (thR T r0 (i := 4) (k2 := 20) rfl (by decide)) e4
  have qp : ρ pw = 22 := rr T (thR T r0 (i := 6) (k2 := 22) rfl (by decide)) e6
  have i9 := thI T r0 (k := 1) (i := 9) (lo := 0) (hi := 1024) rfl
  have c9 := clamp_i i9.1
  have lp : ∀ (f : Nat) {x2 : Int32}, 0 ≤ x2.toInt → (1025 - x2.toInt).toNat < f → Sat (sX0_addSet_2 F f h x0 x1 x2) (fun o => TH ρ c o ∧ SumP x0 ks pw o ∧ 0 ≤ (hJ o x0 18).toInt ∧ (hJ o x0 18).toInt ≤ B + 2147483648 ∧ Kf ρ [(20, 999), (1, 9), (1, 18)] h o) := by
    intro f
    induction f with
    | zero => intros; omega
    | succ f ih =>
      intro x2 a2 hf
      rw [sX0_addSet_2]
      unfold sX0_addSet_91
      have b9 := i9.2
      refine s_br (fun _ => ?_) (fun n1 => ?_)
      · refine s_ref e6 ?_
        refine s_cl (s_imp (size_q hF i1.1) (fun o3 ⟨e3, v3⟩ => ?_))
        rw [e3, v3]
        have s5 := sz_le x1.toInt
        have isz : Rg 0 5 (nI (szI x1.toInt)) := ⟨by rw [z_toInt (by omega)]; exact Int.natCast_nonneg _, by rw [z_toInt (by omega)]; omega⟩
        have csz : (nI (szI x1.toInt)).toNatClampNeg = szI x1.toInt := by
          have := clamp_i isz.1
          rw [z_toInt (by omega)] at this
          omega
        refine s_gd (by rw [thN T qp (k := 22) (n := 6) rfl (by decide)]; exact rg_inB isz (by decide)) ?_
        rw [csz]
        have ip := thI T qp (k := 22) (i := szI x1.toInt) (lo := 0) (hi := 1073741824) rfl
        have p0 := ip.1
        have p1 := ip.2
        have ep : ((2 : Int64) * ((hI h pw (szI x1.toInt)).toInt64)).toInt = 2 * (hI h pw (szI x1.toInt)).toInt := by
          have e : ((hI h pw (szI x1.toInt)).toInt64).toInt = (hI h pw (szI x1.toInt)).toInt := Int32.toInt_toInt64 _
          have z2 : (2 : Int64).toInt = 2 := rfl
          rw [tm64 (by rw [e, z2]; omega) (by rw [e, z2]; omega), e, z2]
        have et : ((hJ h x0 18) + ((2 : Int64) * ((hI h pw (szI x1.toInt)).toInt64))).toInt = (hJ h x0 18).toInt + 2 * (hI h pw (szI x1.toInt)).toInt := by
          rw [ta64 (by rw [ep]; omega) (by rw [ep]; omega), ep]
        refine s_hq (th_wJ T (k := 1) (i := 18) r0 (by decide) (pm_a hA rfl)) (fun h5 T5 w5 => ?_)
        have K5 : Kf ρ [(20, 999), (1, 9), (1, 18)] h h5 := kf_wJ w5 r0
        have j5 : (hJ h5 x0 18).toInt = (hJ h x0 18).toInt + 2 * (hI h pw (szI x1.toInt)).toInt := by rw [w5, r_J, if_pos ⟨rfl, rfl⟩, et]
        have E5 : ∀ a i, hI h5 a i = hI h a i := fun a i => by rw [w5]; rfl
        have S5 : SumP x0 ks pw h5 := by
          unfold SumP gK
          simp only [E5]
          rw [j5]
          have : SumP x0 ks pw h := S
          unfold SumP gK at this
          omega
        refine s_br (fun _ => s_some ⟨T5, S5, by omega, by omega, K5⟩) (fun _ => ?_)
        refine s_br (fun _ => s_some ⟨T5, S5, by omega, by omega, K5⟩) (fun n9 => ?_)
        have l9 := nle_i n9
        have z1024 : (1024 : Int32).toInt = 1024 := rfl
        rw [E5, z1024] at l9
        have i9' : Rg 0 1023 (hI h5 x0 9) := by rw [E5]; exact ⟨i9.1, by omega⟩
        refine s_ref (by rw [w5]; exact e4) ?_
        refine s_gd (by rw [thN T5 qk (k := 20) (n := 1024) rfl (by decide)]; exact rg_inB i9' (by decide)) ?_
        refine s_hq (th_wI T5 qk (k := 20) (lo := 0) (hi := 33554431) rfl i1 (by decide) (by decide) (pm_a hA rfl) (rpK ky)) (fun h10 T10 w10 => ?_)
        have nkx : ¬ x0 = ks := ne_r' r0 qk (by decide)
        have npk : ¬ pw = ks := ne_r' qp qk (by decide)
        have k9 : hI h10 x0 9 = hI h x0 9 := by rw [w10, r_I, if_neg (fun w => nkx w.1), E5]
        rw [k9]
        have inc : (hI h x0 9 + (1 : Int32)).toInt = (hI h x0 9).toInt + 1 := ta (by show _ ≤ (hI h x0 9).toInt + 1 ∧ (hI h x0 9).toInt + 1 ≤ _; omega)
        refine s_hq (th_wI T10 r0 (k := 1) (i := 9) (lo := 0) (hi := 1024) rfl ⟨by omega, by omega⟩ (by decide) (by decide) (pm_a hA rfl)) (fun h11 T11 w11 => ?_)
        have K11 : Kf ρ [(20, 999), (1, 9), (1, 18)] h h11 := kf_t K5 (kf_t (kf_wI w10 qk) (kf_wI w11 r0))
        have j11 : hJ h11 x0 18 = hJ h5 x0 18 := by rw [w11]; show hJ h10 x0 18 = _; rw [w10]; rfl
        have kp11 : ∀ i, hI h11 pw i = hI h pw i := fun i => kfI i K11 qp
        have kk11 : ∀ i, hI h11 ks i = if i = (hI h x0 9).toNatClampNeg then x1 else hI h ks i := fun i => by
          rw [w11, r_I, if_neg (fun w => nkx w.1.symm), w10, r_I, E5, E5]
          by_cases w : i = (hI h x0 9).toNatClampNeg
          · rw [if_pos ⟨rfl, w⟩, if_pos w]
          · rw [if_neg (fun z => w z.2), if_neg w]
        have n11 : (hI h11 x0 9).toNatClampNeg = (hI h x0 9).toNatClampNeg + 1 := by
          rw [w11, r_I, if_pos ⟨rfl, rfl⟩]
          have := clamp_i (v := hI h x0 9 + (1 : Int32)) (by omega)
          omega
        refine s_some ⟨T11, ?_, by rw [j11]; omega, by rw [j11]; omega, K11⟩
        unfold SumP gK
        rw [n11, j11, j5]
        show sm (fun i => 2 * (hI h11 pw (szI (hI h11 ks i).toInt)).toInt) (hI h x0 9).toNatClampNeg + 2 * (hI h11 pw (szI (hI h11 ks (hI h x0 9).toNatClampNeg).toInt)).toInt ≤ _
        rw [sm_eq (g := fun i => 2 * (hI h pw (szI (hI h ks i).toInt)).toInt) _ (fun i hi => by rw [kp11, kk11, if_neg (by omega)]), kp11, kk11, if_pos rfl]
        have : SumP x0 ks pw h := S
        unfold SumP gK at this
        omega
      · have l2 := nle_i n1
        have i2 : Rg 0 1023 x2 := ⟨a2, by omega⟩
        refine s_ref e4 ?_
        refine s_gd (by rw [thN T qk (k := 20) (n := 1024) rfl (by decide)]; exact rg_inB i2 (by decide)) ?_
        refine s_br (fun _ => s_some ⟨T, S, t0, by omega, kf_r⟩) (fun _ => ?_)
        refine s_q (fun y ey => ?_)
        have ey2 : y.toInt = x2.toInt + 1 := by rw [ey]; exact (nc_s i2 (by decide)).2
        clear ey
        exact ih (by omega) (by omega)
  unfold sX0_addSet
  have z0 : (0 : Int32).toInt = 0 := rfl
  exact lp F (by decide) (by rw [z0]; omega)
end
end
section
/-! the sets that come of a set, gathered and sorted -/
abbrev KSL : List (Nat × Nat) := [(20, 999), (1, 9), (1, 18)]
section
variable {ρ : Nat → Nat} {c : Cm} {h o : Hp} {x0 ks pw st F : Nat} {x1 : Int32}
/-- a digit of a man that is there -/
theorem sz_dig {X : Int} {s : Int32} (i : Rg 0 4 s) (l : s.toInt < (szI X : Int)) (a : 0 ≤ X) {x : Int32} (ex : x.toInt = X) : 1 ≤ ((x >>> (((5 : Int32) * s) &&& 31)) &&& (31 : Int32)).toInt := by
  subst ex
  have d0 : ((x >>> (((5 : Int32) * 0) &&& 31)) &&& (31 : Int32)).toInt = x.toInt % 32 := by rw [dig_i a 0 ((5 : Int32) * 0) rfl]; show x.toInt / 1 % 32 = _; omega
  have d1 : ((x >>> (((5 : Int32) * 1) &&& 31)) &&& (31 : Int32)).toInt = x.toInt / 32 % 32 := dig_i a 5 ((5 : Int32) * 1) rfl
  have d2 : ((x >>> (((5 : Int32) * 2) &&& 31)) &&& (31 : Int32)).toInt = x.toInt / 1024 % 32 := dig_i a 10 ((5 : Int32) * 2) rfl
  have d3 : ((x >>> (((5 : Int32) * 3) &&& 31)) &&& (31 : Int32)).toInt = x.toInt / 32768 % 32 := dig_i a 15 ((5 : Int32) * 3) rfl
  have d4 : ((x >>> (((5 : Int32) * 4) &&& 31)) &&& (31 : Int32)).toInt = x.toInt / 1048576 % 32 := dig_i a 20 ((5 : Int32) * 4) rfl
  unfold szI at l
  have z0 : (0 : Int32).toInt = 0 := rfl
  have z1 : (1 : Int32).toInt = 1 := rfl
  have z2 : (2 : Int32).toInt = 2 := rfl
  have z3 : (3 : Int32).toInt = 3 := rfl
  have z4 : (4 : Int32).toInt = 4 := rfl
  rcases i32_04 i with w | w | w | w | w <;> subst w
  · rw [d0]; rw [z0] at l
    split at l
    · exact absurd l (by decide)
    · omega
  · rw [d1]; rw [z1] at l
    split at l
    · exact absurd l (by decide)
    · split at l
      · exact absurd l (by decide)
      · omega
  · rw [d2]; rw [z2] at l
    split at l
    · exact absurd l (by decide)
    · split at l
      · exact absurd l (by decide)
      · split at l
        · exact absurd l (by decide)
        · omega
  · rw [d3]; rw [z3] at l
    split at l
    · exact absurd l (by decide)
    · split at l
      · exact absurd l (by decide)
      · split at l
        · exact absurd l (by decide)
        · split at l
          · exact absurd l (by decide)
          · omega
  · rw [d4]; rw [z4] at l
    split at l
    · exact absurd l (by decide)
    · split at l
      · exact absurd l (by decide)
      · split at l
        · exact absurd l (by decide)
        · split at l
          · exact absurd l (by decide)
          · split at l
            · exact absurd l (by decide)
            · omega
theorem addSets_q (hF : 700000 ≤ F) (hA : pmA c KSL) (T : TH ρ c h) (r0 : ρ x0 = 1) (e4 : hR h x0 4 = some ks) (e6 : hR h x0 6 = some pw) (i1 : Rg 0 33554431 x1) (ky : KyX x1) (S : SumP x0 ks pw h) (t0 : 0 ≤ (hJ h x0 18).toInt) (tb : (hJ h x0 18).toInt ≤ 600000) : Sat (sX0_addSetsOf F h x0 x1) (fun o => TH ρ c o ∧ SumP x0 ks pw o ∧ 0 ≤ (hJ o x0 18).toInt ∧ (hJ o x0 18).toInt ≤ 100000000000 ∧ Kf ρ KSL h o) := by
  have qk : ρ ks = 20 := rr T (thR T r0 (i := 4) (k2 := 20) rfl (by decide)) e4
  have qp : ρ pw = 22 := rr T (thR T r0 (i := 6) (k2 := 22) rfl (by decide)) e6
  have s5 := sz_le x1.toInt
  have zsz := z_toInt (show szI x1.toInt < 2 ^ 31 by omega)
  have lp : ∀ (f : Nat) {g : Hp} {x2 : Int32}, TH ρ c g → Kf ρ KSL h g → SumP x0 ks pw g → 0 ≤ (hJ g x0 18).toInt → 0 ≤ x2.toInt → x2.toInt ≤ 5 → (hJ g x0 18).toInt ≤ 600000 + x2.toInt * 15032385536 → (6 - x2.toInt).toNat < f → Sat (sX0_addSetsOf_2 F f g x0 x1 x2) (fun o => TH ρ c o ∧ SumP x0 ks pw o ∧ 0 ≤ (hJ o x0 18).toInt ∧ (hJ o x0 18).toInt ≤ 100000000000 ∧ Kf ρ KSL h o) := by
    intro f
    induction f with
    | zero => intros; omega
    | succ f ih =>
      intro g x2 Tg Kg Sg t0g a2 b2 tbg hf
      rw [sX0_addSetsOf_2]
      unfold sX0_codeIn
      refine s_cl (s_imp (size_q hF i1.1) (fun o1 ⟨e1, v1⟩ => ?_))
      rw [e1, v1]
      refine s_br (fun _ => s_some ⟨Tg, Sg, t0g, by omega, Kg⟩) (fun n1 => ?_)
      have l2 := nle_i n1
      rw [zsz] at l2
      have i2 : Rg 0 4 x2 := ⟨a2, by omega⟩
      have ny2 := nc_s i2 (by decide)
      have dg1 := sz_dig i2 l2 i1.1 rfl
      have dg2 := ky x2 a2 (by omega)
      refine s_cl (s_some ?_)
      dsimp only
      have z1 : (1 : Int32).toInt = 1 := rfl
      have ecd : (((x1 >>> (((5 : Int32) * x2) &&& 31)) &&& (31 : Int32)) - (1 : Int32)).toInt = ((x1 >>> (((5 : Int32) * x2) &&& 31)) &&& (31 : Int32)).toInt - 1 := by rw [ts (by rw [z1]; omega), z1]
      generalize ((x1 >>> (((5 : Int32) * x2) &&& 31)) &&& (31 : Int32)) - (1 : Int32) = cd at ecd
      have icd : Rg 0 23 cd := ⟨by omega, by omega⟩
      refine s_q (fun mn em => ?_)
      have imn : Rg 0 11 mn := by rw [em]; exact rg_shrk 1 (by decide) icd (by decide)
      clear em
      obtain ⟨L, eL, qL⟩ := thR Tg r0 (i := 0) (k2 := 2) rfl (by decide)
      refine s_ref eL ?_
      unfold sX0_addSetsOf_104
      have nx : ∀ {g2 : Hp}, TH ρ c g2 → Kf ρ KSL h g2 → SumP x0 ks pw g2 → 0 ≤ (hJ g2 x0 18).toInt → (hJ g2 x0 18).toInt ≤ 600000 + (x2.toInt + 1) * 15032385536 → Sat (nm (x2 + (1 : Int32)) fun v_1 => sX0_addSetsOf_2 F f g2 x0 x1 v_1) (fun o => TH ρ c o ∧ SumP x0 ks pw o ∧ 0 ≤ (hJ o x0 18).toInt ∧ (hJ o x0 18).toInt ≤ 100000000000 ∧ Kf ρ KSL h o) := fun {g2} T2 K2 S2 p0 p1 => by
        refine s_q (fun y ey => ?_)
        have ey2 : y.toInt = x2.toInt + 1 := by rw [ey]; exact ny2.2
        clear ey
        exact ih T2 K2 S2 p0 (by omega) (by omega) (by rw [ey2]; exact p1) (by omega)
      refine s_br (fun _ => nx Tg Kg Sg t0g (by omega)) (fun _ => ?_)
      refine s_cl (s_imp (wout_q i1.1 i1.2 ky i2) (fun o7 ⟨e7, i7, k7⟩ => ?_))
      rw [e7]
      have e4g : hR g x0 4 = some ks := by rw [kfR 4 Kg r0]; exact e4
      have e6g : hR g x0 6 = some pw := by rw [kfR 6 Kg r0]; exact e6
      refine s_cl (s_imp (addC_q (B := 600000 + x2.toInt * 15032385536) hF hA Tg r0 e4g e6g (rg_m i7 (by decide)) k7 Sg t0g tbg (by omega)) (fun o8 ⟨T8, S8, p8, b8, K8⟩ => ?_))
      have l52 : ∀ (ff : Nat) {g2 : Hp} {x6 : Int32}, TH ρ c g2 → Kf ρ KSL h g2 → SumP x0 ks pw g2 → 0 ≤ (hJ g2 x0 18).toInt → 0 ≤ x6.toInt → x6.toInt ≤ 6 → (hJ g2 x0 18).toInt ≤ 600000 + x2.toInt * 15032385536 + (1 + x6.toInt) * 2147483648 → (7 - x6.toInt).toNat < ff → Sat (sX0_addSetsOf_52 F (sX0_addSetsOf_2 F f) ff g2 x0 x1 x2 cd mn o7.1 x6) (fun o => TH ρ c o ∧ SumP x0 ks pw o ∧ 0 ≤ (hJ o x0 18).toInt ∧ (hJ o x0 18).toInt ≤ 100000000000 ∧ Kf ρ KSL h o) := by
        intro ff
        induction ff with
        | zero => intros; omega
        | succ ff ih2 =>
          intro g2 x6 T2 K2 S2 p0 a6 b6 p1 hf2
          rw [sX0_addSetsOf_52]
          unfold sX0_addSetsOf_104
          obtain ⟨L, eL, qL⟩ := thR T2 r0 (i := 0) (k2 := 2) rfl (by decide)
          obtain ⟨r2, er2, q2⟩ := thR T2 qL (i := 18) (k2 := 31) rfl (by decide)
          obtain ⟨r6, er6, q6⟩ := thR T2 qL (i := 17) (k2 := 30) rfl (by decide)
          refine s_ref eL (s_ref er2 ?_)
          refine s_gd (by rw [thN T2 q2 (k := 31) (n := 12) rfl (by decide)]; exact rg_inB imn (by decide)) ?_
          refine s_br (fun _ => nx T2 K2 S2 p0 (by omega)) (fun n6 => ?_)
          have l6 := nle_i n6
          have m6 := (thI T2 q2 (k := 31) (i := mn.toNatClampNeg) (lo := 0) (hi := 6) rfl).2
          have i6 : Rg 0 5 x6 := ⟨a6, by omega⟩
          have ny6 := nc_s i6 (by decide)
          refine s_ref eL (s_ref er6 ?_)
          have iq : Rg 0 66 (mn * (6 : Int32)) := by
            have e6' : (6 : Int32).toInt = 6 := rfl
            have := imn.1
            have := imn.2
            exact ⟨by rw [tm (by rw [e6']; omega), e6']; omega, by rw [tm (by rw [e6']; omega), e6']; omega⟩
          refine s_gd (by rw [thN T2 q6 (k := 30) (n := 72) rfl (by decide)]; exact rg_inB (rg_add iq i6 (by decide) : Rg 0 71 _) (by decide)) ?_
          have ib := thI T2 q6 (k := 30) (i := ((mn * (6 : Int32)) + x6).toNatClampNeg) (lo := 0) (hi := 11) rfl
          have ibb : Rg 0 22 ((2 : Int32) * (hI g2 r6 ((mn * (6 : Int32)) + x6).toNatClampNeg)) := by
            have z2 : (2 : Int32).toInt = 2 := rfl
            have := ib.1
            have := ib.2
            exact ⟨by rw [tm (by rw [z2]; omega), z2]; omega, by rw [tm (by rw [z2]; omega), z2]; omega⟩
          have ic : Rg 0 23 (((2 : Int32) * (hI g2 r6 ((mn * (6 : Int32)) + x6).toNatClampNeg)) + (cd &&& (1 : Int32))) := rg_add ibb (side_r (x := cd)) (by decide)
          refine s_cl (s_imp (with_q (x := o7.1) hF i7.1 i7.2 k7 ic) (fun o9 ⟨e9, i9, k9⟩ => ?_))
          rw [e9]
          refine s_cl (s_imp (addC_q (B := 600000 + x2.toInt * 15032385536 + (1 + x6.toInt) * 2147483648) hF hA T2 r0 (by rw [kfR 4 K2 r0]; exact e4) (by rw [kfR 6 K2 r0]; exact e6) i9 k9 S2 p0 p1 (by omega)) (fun o10 ⟨T10, S10, p10, b10, K10⟩ => ?_))
          refine s_q (fun y ey => ?_)
          have ey2 : y.toInt = x6.toInt + 1 := by rw [ey]; exact ny6.2
          clear ey
          exact ih2 T10 (kf_t K2 K10) S10 p10 (by omega) (by omega) (by rw [ey2]; omega) (by omega)
      have z0 : (0 : Int32).toInt = 0 := rfl
      exact l52 F T8 (kf_t Kg K8) S8 p8 (by decide) (by decide) (by rw [z0]; omega) (by rw [z0]; omega)
  unfold sX0_addSetsOf
  have z0 : (0 : Int32).toInt = 0 := rfl
  exact lp F T kf_r S t0 (by decide) (by decide) (by rw [z0]; omega) (by rw [z0]; omega)
end
end
