section
/-! the reference: its slots cleared, its SETS added, its answer -/
section
variable {ρ : Nat → Nat} {c : Cm} {m rm re rb rk rs ro R Bc Bm F : Nat} {g h : Hp} {x1 : Int32} {b : Int32 × Hp}
theorem r203_e (hA : pmA c [(107, 999)]) (e56 : hR h m 56 = some rs) (qs : ρ rs = 107) : ∀ (f : Nat) {g : Hp} {x3 : Int32}, TH ρ c g → (∀ a i, hR g a i = hR h a i) → (∀ a i, hJ g a i = hJ h a i) → (∀ a i, ¬ a = rs → hI g a i = hI h a i) → 0 ≤ x3.toInt → (∀ j : Nat, (j : Int) < x3.toInt → hI g rs j = 0) → sX15_solve_203 F f g m x1 x3 = some b → ∃ o, TH ρ c o ∧ (∀ a i, hR o a i = hR h a i) ∧ (∀ a i, hJ o a i = hJ h a i) ∧ (∀ a i, ¬ a = rs → hI o a i = hI h a i) ∧ (∀ j : Nat, j < 16384 → hI o rs j = 0) ∧ (cl (sX15_addSet F o m x1) fun o_2 => sX15_solve_228 F o_2.2 m o_2.1) = some b := by
  have z1 : (1 : Int32).toInt = 1 := rfl
  have z16 : (16384 : Int32).toInt = 16384 := rfl
  intro f
  induction f with
  | zero => intro g x3 _ _ _ _ _ _ e; exact absurd e (by rw [sX15_solve_203]; exact fun z => nomatch z)
  | succ f ih =>
    intro g x3 T R J I a3 Z e
    rw [sX15_solve_203] at e
    replace e := br_s e
    rcases e with ⟨l, e⟩ | ⟨l, e⟩
    · have l := le_i l
      rw [z16] at l
      exact ⟨g, T, R, J, I, fun j hj => Z j (by omega), e⟩
    have l := nle_i l
    rw [z16] at l
    replace e := cl_s e; obtain ⟨r3, p, e⟩ := e
    rw [r_eq (by rw [R]; exact e56) p] at e
    replace e := (gd_s e).2
    replace e := nm_s e; obtain ⟨h5, w5, e⟩ := e
    replace e := nm_s e; obtain ⟨v6, w6, e⟩ := e
    have c3 := nc_i a3
    have tx : v6.toInt = x3.toInt + 1 := by rw [w6, ta (by rw [z1]; omega), z1]
    refine ih (g := h5) (by rw [w5]; exact th_wI T qs (k := 107) (lo := 0) (hi := 4096) rfl (rg_b rfl) (by decide) (by decide) (pm_a hA rfl)) (fun a i => by rw [w5]; exact R a i) (fun a i => by rw [w5]; exact J a i) (fun a i n => by rw [w5, rI_a n]; exact I a i n) (by omega) (fun j hj => ?_) e
    rw [w5]
    by_cases z : j = x3.toNatClampNeg
    · rw [z, rI_s]
    · rw [rI_o z]; exact Z j (by omega)
theorem ref_e (hF : 2000000 ≤ F) (hA : pmA c soC) (T : TH ρ c g) (SR : SlR ρ m rm re rb rk rs ro g) (eR : hR g m 4 = some R) (eBc : hR g R 13 = some Bc) (eBm : hR g R 14 = some Bm) (i1 : Rg 2 5 x1) (e49 : (hI g m 49).toInt = 0) (e59 : (hJ g m 59).toInt = 0) (W : RW m x1.toInt g) (Z : ∀ j : Nat, j < 16384 → hI g rs j = 0) (sq : SqOk m g) (hz : hI g R 15 = 0) (e : (cl (sX15_addSet F g m x1) fun o_2 => sX15_solve_228 F o_2.2 m o_2.1) = some b) : ∃ o2, sX15_addSet F g m x1 = some o2 ∧ ((o2.1 = 0 ∧ b.1 = (-104 : Int32)) ∨ (¬ o2.1 = 0 ∧ ∃ o3, sX15_addAll F o2.2 m = some o3 ∧ ((o3.1 = 0 ∧ b.1 = (-104 : Int32)) ∨ (¬ o3.1 = 0 ∧ b.1 = hI o3.2 m 49)))) := by
  have hF7 : 700000 ≤ F := by omega
  have z0 : (0 : Int32).toInt = 0 := rfl
  obtain ⟨⟨r0, qm, qe, qb, qk, qs, qo⟩, ⟨e46, e47, e48, e55, e56, e57⟩⟩ := id SR
  have sr : ∀ {q : Hp}, Kf ρ seL g q → SlR ρ m rm re rb rk rs ro q := fun Kg => ⟨⟨r0, qm, qe, qb, qk, qs, qo⟩, ⟨by rw [kfR 46 Kg r0]; exact e46, by rw [kfR 47 Kg r0]; exact e47, by rw [kfR 48 Kg r0]; exact e48, by rw [kfR 55 Kg r0]; exact e55, by rw [kfR 56 Kg r0]; exact e56, by rw [kfR 57 Kg r0]; exact e57⟩⟩
  have qR : ρ R = 15 := rr T (thR T r0 (i := 4) (k2 := 15) rfl (by decide)) eR
  have hA' : pmA c seL := pmA_s hA rfl
  have P := se_init (x0 := m) (h := g) e49 e59 (fun r er j hj => by rw [r_eq e56 er, Z j hj, z0]; exact Int.le_refl _)
  replace e := cl_s e; obtain ⟨o2, eq2, e⟩ := e
  obtain ⟨T2', i2, P2, _, l2⟩ := sat_e (zX15_addSet (c := cat c (fS seL []) g) hF7 fs_a (th_in _ T) r0 (rg_m i1 (by decide)) P W) eq2
  have T2 := th_out T (fs_sub hA' fs_n) T2'
  have K2 : Kf ρ seL g o2.2 := kf_of (fr_u T T2'.2.2) rfl
  refine ⟨o2, eq2, ?_⟩
  unfold sX15_solve_228 sX15_solve_235 sX15_solve_238 at e
  replace e := br_s e
  rcases e with ⟨z, e⟩ | ⟨nz, e⟩
  · exact Or.inl ⟨z, by rw [← Option.some.inj e]⟩
  refine Or.inr ⟨nz, ?_⟩
  replace e := cl_s e; obtain ⟨o3, eq3, e⟩ := e
  obtain ⟨T3', i3, P3, l3⟩ := sat_e (zX15_addAll (c := cat c (fS seL []) o2.2) hF7 fs_a (th_in _ T2) r0 P2 (l2 nz)) eq3
  have T3 := th_out T2 (fs_sub hA' fs_n) T3'
  have K3 : Kf ρ seL g o3.2 := kf_t K2 (kf_of (fr_u T2 T3'.2.2) rfl)
  refine ⟨o3, eq3, ?_⟩
  replace e := br_s e
  rcases e with ⟨z, e⟩ | ⟨nz3, e⟩
  · exact Or.inl ⟨z, by rw [← Option.some.inj e]⟩
  refine Or.inr ⟨nz3, ?_⟩
  have M2 := ((ads_t hF7 hA' SR T P (rg_m i1 (by decide)) W eq2).2 nz).1
  obtain ⟨M3, C3⟩ := all_q hF7 hA' (sr K2) T2 P2 (by rw [kfR 4 K2 r0]; exact eR) (by rw [kfR 13 K2 qR]; exact eBc) (by rw [kfR 14 K2 qR]; exact eBm) eq3 nz3
  have MM := mo_t (fun k => by
    have i := thI T2 qm (k := 99) (i := k) (lo := 0) (hi := 5) rfl
    have := clamp_i i.1
    have := i.2
    omega) M2 M3
  obtain ⟨rp, e58, _⟩ := thR T3 r0 (i := 58) (k2 := 109) rfl (by decide)
  obtain ⟨rt, e61, _⟩ := thR T3 r0 (i := 61) (k2 := 110) rfl (by decide)
  obtain ⟨rw', e51, _⟩ := thR T3 r0 (i := 51) (k2 := 102) rfl (by decide)
  obtain ⟨mb, e53, _⟩ := thR T3 r0 (i := 53) (k2 := 104) rfl (by decide)
  have tl := sat_e (tail_r hF hA T3 (sr K3) e58 e61 e51 e53 (by rw [kfR 4 K3 r0]; exact eR) (by rw [kfR 13 K3 qR]; exact eBc) (by rw [kfR 14 K3 qR]; exact eBm) P3 (fun k hk => by
    obtain ⟨s1, s2⟩ := MM.2.2.2.2.2.2 k (by rw [e49]; omega) hk
    exact ⟨s1, s2, fun i hi => C3 k hk i hi⟩) (by unfold SqOk; rw [kfI 13 K3 r0, kfI 11 K3 r0, kfI 12 K3 r0]; exact sq) (by rw [kfI 15 K3 qR]; exact hz) l3) e
  rw [t246 F e]
  exact tl
end
end
section
/-! the class: run by its equation, powers, the sorting of SETS -/
section
variable {ρ : Nat → Nat} {c : Cm} {h o : Hp} {x0 b wy ks st pw ro L F : Nat} {sq : Int}
theorem runE_q (hF : 700000 ≤ F) (hA : pmA c RUL) (hO : pmO c 1003 BOL) (T : TH ρ c h) (r0 : ρ x0 = 1) (e0 : hR h x0 0 = some L) (e1 : hR h x0 1 = some wy) (ky : KyX (hI h x0 14)) (E : EvP x0 h) (N : LnI x0 h) (lw : LwR ρ c h) (Fm : FmX wy (hI h L 2).toInt h) : Sat (sX0_run F h x0) (fun o => ∃ o2, sX0_gatherSets F (wI h x0 10 (0 : Int32)) x0 = some o2 ∧ ((o2.1 = 0 ∧ o.1 = 0) ∨ (¬ o2.1 = 0 ∧ hI o.2 x0 9 = hI o2.2 x0 9))) := by
  have rL : ρ L = 2 := rr T (thR T r0 (i := 0) (k2 := 2) rfl (by decide)) e0
  have qw : ρ wy = 11 := rr T (thR T r0 (i := 1) (k2 := 11) rfl (by decide)) e1
  obtain ⟨b, e3, qb⟩ := thR T r0 (i := 3) (k2 := 4) rfl (by decide)
  obtain ⟨ks, e4, qk⟩ := thR T r0 (i := 4) (k2 := 20) rfl (by decide)
  obtain ⟨st, e5, qs⟩ := thR T r0 (i := 5) (k2 := 21) rfl (by decide)
  obtain ⟨pw, e6, qp⟩ := thR T r0 (i := 6) (k2 := 22) rfl (by decide)
  obtain ⟨ro, e7, qo⟩ := thR T r0 (i := 7) (k2 := 23) rfl (by decide)
  unfold sX0_run
  refine s_hq (th_wI T r0 (k := 1) (i := 10) (lo := 0) (hi := 1) rfl (rg_m (rg_b rfl : Rg 0 0 (0 : Int32)) (by decide)) (by decide) (by decide) (pm_a hA rfl)) (fun h1 T1 w1 => ?_)
  have K1 : Kf ρ [(1, 10)] h h1 := kf_wI w1 r0
  have E1 : EvP x0 h1 := evp_k T r0 K1 (P := E)
  have hL1 : hI h1 L 2 = hI h L 2 := kfI 2 K1 rL
  have ln1 : LnI x0 h1 := fun a ea => by
    rw [kfR 11 K1 r0] at ea
    have hn : ∀ q, hN h1 q = hN h q := fun q => by rw [w1]; rfl
    rw [hn]
    refine (N a ea).imp id (fun P i q hi eq => ?_)
    rw [hn]
    refine P i q hi ?_
    rw [w1] at eq
    exact eq
  refine s_dd (gatherC_q (c := cat c (fS GSL []) h1) (ks := ks) (st := st) (pw := pw) (L := L) hF fs_a (th_in _ T1) r0 (by rw [kfR 0 K1 r0]; exact e0) (by rw [kfR 4 K1 r0]; exact e4) (by rw [kfR 5 K1 r0]; exact e5) (by rw [kfR 6 K1 r0]; exact e6) (by rw [kfI 14 K1 r0]; exact ky) E1) (fun o2 eo2 ⟨T2', i2, S2, P2, E2, K2⟩ => ?_)
  have T2 := th_out T1 (fs_sub (pmA_s hA rfl) fs_n) T2'
  have f2 := fr_u T1 T2'.2.2
  have K12 : Kf ρ RBL h o2.2 := kf_t (kf_m K1 rfl) (kf_m K2 rfl)
  have ln2 : LnI x0 o2.2 := fun a ea => by
    rw [kfR 11 K2 r0] at ea
    have ra := rr T1 (thR T1 r0 (i := 11) (k2 := 24) rfl (by decide)) ea
    rw [f2.2 a (by rw [ra]; decide)]
    exact (ln1 a ea).imp id (fun P => len_fr T1 r0 f2 (fun _ => rfl) (fun _ => rfl) (fun _ => rfl) P)
  unfold sX0_run_9
  refine s_br (fun zz => s_some ⟨o2, by rw [← w1]; exact eo2, Or.inl ⟨zz, rfl⟩⟩) (fun ne => ?_)
  obtain ⟨S2, t0, t1⟩ := S2 ne
  refine s_mV (S := fS MRL []) T2 (fs_sub (pmA_s hA rfl) fs_n) (makeRoom_q fs_a (th_in _ T2) r0 ln2) (fun o3 ρ1 c1 X T3 f3 ⟨Ln3, K3⟩ => ?_)
  have r0' := ex_r X r0 (by decide)
  have sq64 := (thI T rL (k := 2) (i := 2) (lo := 0) (hi := 64) rfl).2
  have hL2 : hI o2.2 L 2 = hI h L 2 := by rw [kfI 2 K2 rL]; exact hL1
  have rf : ∀ i r, hR h x0 i = some r → mS GSL 1 i = false → mS MRL 1 i = false → mS [(1, 10)] 1 i = false → hR o3 x0 i = some r := fun i r e y1 y2 y3 => by
    rw [kfR i K3 r0 (by decide) y2, kfR i K2 r0 (by decide) y1, kfR i K1 r0 (by decide) y3]
    exact e
  have W3 : EnW x0 b wy ks st pw ro L (hI h L 2).toInt o3 := by
    refine ⟨⟨rf 0 _ e0 rfl rfl rfl, rf 1 _ e1 rfl rfl rfl, rf 3 _ e3 rfl rfl rfl, rf 4 _ e4 rfl rfl rfl, rf 5 _ e5 rfl rfl rfl, rf 6 _ e6 rfl rfl rfl, rf 7 _ e7 rfl rfl rfl⟩, fun i hi => ?_, stp_k T2 r0 qk qp qs K3 (P := S2), fmx_k T2 qw K3 (P := fmx_k T1 qw K2 (P := fmx_k T qw K1 (P := Fm))), Ln3, by rw [kfI 2 K3 rL, hL2], sq64, evp_k T2 r0 K3 (P := E2)⟩
    rw [kfI i K3 qp, P2 i hi, hL1]
  have lw3 : LwR ρ1 c1 o3 := lw_x2 rL (kid_w T r0 (i := 0) (w := 2102) rfl (by decide) e0) X T3 (lw_k (kf_t K12 (kf_m K3 rfl)) (P := lw))
  refine s_imp (run18_q hF (ex_A X hA) (ex_O X hO) T3 r0' W3 lw3 (by rw [kfJ 18 K3 r0]; exact t0) (by rw [kfJ 18 K3 r0]; exact t1)) (fun o4 ⟨T4, i4, W4, K4⟩ => ?_)
  exact ⟨o2, by rw [← w1]; exact eo2, Or.inr ⟨ne, by rw [kfI 9 K4 r0', kfI 9 K3 r0]⟩⟩
end
section
variable {F x ks st pw L : Nat} {h : Hp} {u o : Int32 × Hp}
/-- a run that is not out of room answers 1 -/
theorem r133_1 : ∀ (f : Nat) {h : Hp} {x1 : Int32}, sX0_run_133 F f h x x1 = some o → o.1 = 1 := by
  intro f
  induction f with
  | zero => intro h x1 e; exact absurd e (by rw [sX0_run_133]; exact fun z => nomatch z)
  | succ f ih =>
    intro h x1 e
    rw [sX0_run_133] at e
    unfold sX0_run_168 at e
    replace e := br_s e
    rcases e with ⟨_, e⟩ | ⟨_, e⟩
    · replace e := nm_s e
      obtain ⟨_, _, e⟩ := e
      rw [← Option.some.inj e]
    · replace e := cl_s e; obtain ⟨_, _, e⟩ := e
      replace e := cl_s e; obtain ⟨_, _, e⟩ := e
      replace e := (gd_s e).2
      replace e := br_s e
      rcases e with ⟨_, e⟩ | ⟨_, e⟩
      · replace e := (gd_s e).2
        replace e := nm_s e; obtain ⟨_, _, e⟩ := e
        replace e := nm_s e; obtain ⟨_, _, e⟩ := e
        exact ih e
      · replace e := cl_s e; obtain ⟨_, _, e⟩ := e
        replace e := (gd_s e).2
        replace e := (gd_s e).2
        replace e := nm_s e; obtain ⟨_, _, e⟩ := e
        replace e := nm_s e; obtain ⟨_, _, e⟩ := e
        exact ih e
theorem r51_1 : ∀ (f : Nat) {h : Hp} {x1 : Int32}, sX0_run_51 F f h x x1 = some o → o.1 = 1 := by
  intro f
  induction f with
  | zero => intro h x1 e; exact absurd e (by rw [sX0_run_51]; exact fun z => nomatch z)
  | succ f ih =>
    intro h x1 e
    rw [sX0_run_51] at e
    unfold sX0_run_131 sX0_run_77 sX0_run_108 sX0_run_125 at e
    replace e := br_s e
    rcases e with ⟨_, e⟩ | ⟨_, e⟩
    · exact r133_1 F e
    replace e := br_s e
    rcases e with ⟨_, e⟩ | ⟨_, e⟩
    · exact r133_1 F e
    replace e := cl_s e; obtain ⟨_, _, e⟩ := e
    replace e := (gd_s e).2
    replace e := nm_s e; obtain ⟨_, _, e⟩ := e
    replace e := cl_s e; obtain ⟨_, _, e⟩ := e
    replace e := cl_s e; obtain ⟨_, _, e⟩ := e
    replace e := (gd_s e).2
    replace e := nm_s e; obtain ⟨_, _, e⟩ := e
    replace e := cl_s e; obtain ⟨_, _, e⟩ := e
    replace e := (gd_s e).2
    replace e := cl_s e; obtain ⟨_, _, e⟩ := e
    replace e := (gd_s e).2
    replace e := cl_s e; obtain ⟨_, _, e⟩ := e
    replace e := br_s e
    rcases e with ⟨_, e⟩ | ⟨_, e⟩
    · replace e := nm_s e; obtain ⟨_, _, e⟩ := e
      exact ih e
    · replace e := cl_s e; obtain ⟨_, _, e⟩ := e
      replace e := (gd_s e).2
      replace e := cl_s e; obtain ⟨_, _, e⟩ := e
      replace e := nm_s e; obtain ⟨_, _, e⟩ := e
      exact ih e
theorem run_1 (e : sX0_run F h x = some o) : ∃ o2, sX0_gatherSets F (wI h x 10 (0 : Int32)) x = some o2 ∧ ((o2.1 = 0 ∧ o.1 = 0) ∨ (¬ o2.1 = 0 ∧ o.1 = 1)) := by
  unfold sX0_run sX0_run_9 sX0_run_18 sX0_run_35 sX0_run_45 sX0_run_49 at e
  replace e := nm_s e; obtain ⟨h1, w1, e⟩ := e
  replace e := cl_s e; obtain ⟨o2, eo2, e⟩ := e
  refine ⟨o2, by rw [← w1]; exact eo2, ?_⟩
  replace e := br_s e
  rcases e with ⟨z, e⟩ | ⟨z, e⟩
  · exact Or.inl ⟨z, by rw [← Option.some.inj e]⟩
  refine Or.inr ⟨z, ?_⟩
  replace e := cl_s e; obtain ⟨_, _, e⟩ := e
  replace e := nm_s e; obtain ⟨_, _, e⟩ := e
  replace e := nm_s e; obtain ⟨_, _, e⟩ := e
  replace e := cl_s e; obtain ⟨_, _, e⟩ := e
  replace e := nm_s e; obtain ⟨_, _, e⟩ := e
  replace e := cl_s e; obtain ⟨_, _, e⟩ := e
  replace e := cl_s e; obtain ⟨_, _, e⟩ := e
  exact r51_1 F e
/-- SETS sorted: their number stays -/
theorem s77_9 (ns : ¬ x = st) : ∀ (f : Nat) {h o : Hp} {x1 : Int32}, hR h x 5 = some st → sX0_sortSets_77 F f h x x1 = some o → hI o x 9 = hI h x 9 := by
  intro f
  induction f with
  | zero => intro h o x1 _ e; exact absurd e (by rw [sX0_sortSets_77]; exact fun z => nomatch z)
  | succ f ih =>
    intro h o x1 e5 e
    rw [sX0_sortSets_77] at e
    replace e := br_s e
    rcases e with ⟨_, e⟩ | ⟨_, e⟩
    · rw [← Option.some.inj e]
    replace e := cl_s e; obtain ⟨r2, p, e⟩ := e
    rw [r_eq e5 p] at e
    replace e := cl_s e; obtain ⟨_, _, e⟩ := e
    replace e := (gd_s e).2
    replace e := cl_s e; obtain ⟨_, _, e⟩ := e
    replace e := cl_s e; obtain ⟨_, _, e⟩ := e
    replace e := (gd_s e).2
    replace e := cl_s e; obtain ⟨o8, eo8, e⟩ := e
    have w8 : o8.2 = h := by
      unfold sX0_sizeOf at eo8
      exact (sizeOf_h F (by decide) (by decide) eo8).1
    rw [w8] at e
    replace e := (gd_s e).2
    replace e := (gd_s e).2
    replace e := nm_s e; obtain ⟨h11, w11, e⟩ := e
    replace e := nm_s e; obtain ⟨_, _, e⟩ := e
    rw [ih (by rw [w11]; exact e5) e, w11, rI_a ns]
theorem s19_9 (nk : ¬ x = ks) {k2 : Hp → Nat → Int32 → Option Hp} {o : Hp} {x1 x2 : Int32} (K : ∀ {h : Hp} {y : Int32}, hR h x 4 = some ks → hR h x 5 = some st → k2 h x y = some o → hI o x 9 = hI h x 9) : ∀ (f : Nat) {h : Hp} {x3 : Int32}, hR h x 4 = some ks → hR h x 5 = some st → sX0_sortSets_19 F k2 f h x x1 x2 x3 = some o → hI o x 9 = hI h x 9 := by
  have s55 : ∀ {h : Hp} {x3 : Int32}, hR h x 4 = some ks → hR h x 5 = some st → sX0_sortSets_55 F k2 h x x1 x2 x3 = some o → hI o x 9 = hI h x 9 := fun {h x3} e4 e5 e => by
    unfold sX0_sortSets_55 at e
    replace e := cl_s e; obtain ⟨r, p, e⟩ := e
    rw [r_eq e4 p] at e
    replace e := (gd_s e).2
    replace e := nm_s e; obtain ⟨h3, w3, e⟩ := e
    replace e := nm_s e; obtain ⟨_, _, e⟩ := e
    rw [K (by rw [w3]; exact e4) (by rw [w3]; exact e5) e, w3, rI_a nk]
  intro f
  induction f with
  | zero => intro h x3 _ _ e; exact absurd e (by rw [sX0_sortSets_19]; exact fun z => nomatch z)
  | succ f ih =>
    intro h x3 e4 e5 e
    rw [sX0_sortSets_19] at e
    replace e := br_s e
    rcases e with ⟨_, e⟩ | ⟨_, e⟩
    · exact s55 e4 e5 e
    replace e := cl_s e; obtain ⟨_, _, e⟩ := e
    replace e := (gd_s e).2
    replace e := br_s e
    rcases e with ⟨_, e⟩ | ⟨_, e⟩
    · exact s55 e4 e5 e
    replace e := cl_s e; obtain ⟨r5, p, e⟩ := e
    rw [r_eq e4 p] at e
    replace e := cl_s e; obtain ⟨_, _, e⟩ := e
    replace e := (gd_s e).2
    replace e := (gd_s e).2
    replace e := nm_s e; obtain ⟨h9, w9, e⟩ := e
    replace e := nm_s e; obtain ⟨_, _, e⟩ := e
    rw [ih (by rw [w9]; exact e4) (by rw [w9]; exact e5) e, w9, rI_a nk]
theorem sort_9 (nk : ¬ x = ks) (ns : ¬ x = st) {o : Hp} (e4 : hR h x 4 = some ks) (e5 : hR h x 5 = some st) (e : sX0_sortSets F h x = some o) : hI o x 9 = hI h x 9 := by
  unfold sX0_sortSets at e
  have l2 : ∀ (f : Nat) {h : Hp} {x1 : Int32}, hR h x 4 = some ks → hR h x 5 = some st → sX0_sortSets_2 F f h x x1 = some o → hI o x 9 = hI h x 9 := by
    intro f
    induction f with
    | zero => intro h x1 _ _ e; exact absurd e (by rw [sX0_sortSets_2]; exact fun z => nomatch z)
    | succ f ih =>
      intro h x1 e4 e5 e
      rw [sX0_sortSets_2] at e
      replace e := br_s e
      rcases e with ⟨_, e⟩ | ⟨_, e⟩
      · replace e := cl_s e; obtain ⟨r, p, e⟩ := e
        rw [r_eq e5 p] at e
        replace e := (gd_s e).2
        replace e := nm_s e; obtain ⟨h4, w4, e⟩ := e
        rw [s77_9 ns F (by rw [w4]; exact e5) e, w4, rI_a ns]
      · replace e := cl_s e; obtain ⟨_, _, e⟩ := e
        replace e := (gd_s e).2
        replace e := nm_s e; obtain ⟨_, _, e⟩ := e
        exact s19_9 (st := st) nk (fun {q y} a b w => ih a b w) F e4 e5 e
  exact l2 F e4 e5 e
/-- with too great a total there is no room -/
theorem big_104 (b : 600000 < (hJ h x 18).toInt) (e : sX0_gatherSets_104 F h x = some u) : u.1 = 0 := by
  have z6 : (600000 : Int64).toInt = 600000 := rfl
  unfold sX0_gatherSets_104 at e
  replace e := br_s e
  rcases e with ⟨q, _⟩ | ⟨_, e⟩
  · have q := cmp_le (a := hJ h x 18) (b := (600000 : Int64)) (fun w => by
      have a := lt_i w
      have b := le_i q
      omega)
    rw [z6] at q
    omega
  · rw [← Option.some.inj e]
theorem big_62 (b : 600000 < (hJ h x 18).toInt) {x1 : Int32} : ∀ (f : Nat), sX0_gatherSets_62 F f h x x1 = some u → u.1 = 0 := fun f e => by
  have z6 : (600000 : Int64).toInt = 600000 := rfl
  cases f with
  | zero => exact absurd e (by rw [sX0_gatherSets_62]; exact fun z => nomatch z)
  | succ f =>
    rw [sX0_gatherSets_62] at e
    replace e := br_s e
    rcases e with ⟨_, e⟩ | ⟨_, e⟩
    · exact big_104 b e
    replace e := br_s e
    rcases e with ⟨_, e⟩ | ⟨_, e⟩
    · exact big_104 b e
    replace e := br_s e
    rcases e with ⟨_, e⟩ | ⟨d, _⟩
    · exact big_104 b e
    · have d := cmp_le d
      rw [z6] at d
      omega
/-- with a total that is small enough the number of SETS stays -/
theorem low_104 (nk : ¬ x = ks) (ns : ¬ x = st) (e4 : hR h x 4 = some ks) (e5 : hR h x 5 = some st) (b : (hJ h x 18).toInt ≤ 600000) (e : sX0_gatherSets_104 F h x = some u) : u.1 = 1 ∧ hI u.2 x 9 = hI h x 9 := by
  have z6 : (600000 : Int64).toInt = 600000 := rfl
  have z0 : (0 : Int32).toInt = 0 := rfl
  unfold sX0_gatherSets_104 at e
  replace e := br_s e
  rcases e with ⟨_, e⟩ | ⟨q, _⟩
  · replace e := cl_s e; obtain ⟨o2, eo2, e⟩ := e
    rw [← Option.some.inj e]
    exact ⟨rfl, sort_9 nk ns e4 e5 eo2⟩
  · have q := nle_i q
    have := cmp_gt (a := hJ h x 18) (b := (600000 : Int64)) (ii_lt.mpr q)
    rw [z6] at this
    omega
/-- the powers, then the SET that is asked for -/
theorem gat_e (s0 : 0 ≤ (hI h L 2).toInt) (s64 : (hI h L 2).toInt ≤ 64) (e0 : hR h x 0 = some L) (e6 : hR h x 6 = some pw) (nL : ¬ L = pw) (e : sX0_gatherSets F h x = some u) : ∃ g, (∀ a i, hR g a i = hR h a i) ∧ (∀ a i, hJ g a i = hJ h a i) ∧ (∀ a i, ¬ a = pw → hI g a i = hI h a i) ∧ (∀ i : Nat, i ≤ 5 → (hI g pw i).toInt = (hI h L 2).toInt ^ i) ∧ (∀ i : Nat, 5 < i → hI g pw i = hI h pw i) ∧ (nm (wI g x 9 (0 : Int32)) fun h_2 => nm (wJ h_2 x 18 (0 : Int64)) fun h_3 => cl (sX0_addSet F h_3 x (hI h_3 x 14)) fun o_4 => sX0_gatherSets_62 F F o_4 x (0 : Int32)) = some u := by
  have z1 : (1 : Int32).toInt = 1 := rfl
  have z5 : (5 : Int32).toInt = 5 := rfl
  unfold sX0_gatherSets at e
  replace e := cl_s e; obtain ⟨r, p, e⟩ := e
  rw [r_eq e6 p] at e
  replace e := (gd_s e).2
  replace e := nm_s e; obtain ⟨h3, w3, e⟩ := e
  have l9 : ∀ (f : Nat) {g : Hp} {x1 : Int32}, (∀ a i, hR g a i = hR h a i) → (∀ a i, hJ g a i = hJ h a i) → (∀ a i, ¬ a = pw → hI g a i = hI h a i) → 1 ≤ x1.toInt → x1.toInt ≤ 6 → (∀ i : Nat, (i : Int) < x1.toInt → (hI g pw i).toInt = (hI h L 2).toInt ^ i) → (∀ i : Nat, 5 < i → hI g pw i = hI h pw i) → sX0_gatherSets_9 F f g x x1 = some u → ∃ g, (∀ a i, hR g a i = hR h a i) ∧ (∀ a i, hJ g a i = hJ h a i) ∧ (∀ a i, ¬ a = pw → hI g a i = hI h a i) ∧ (∀ i : Nat, i ≤ 5 → (hI g pw i).toInt = (hI h L 2).toInt ^ i) ∧ (∀ i : Nat, 5 < i → hI g pw i = hI h pw i) ∧ (nm (wI g x 9 (0 : Int32)) fun h_2 => nm (wJ h_2 x 18 (0 : Int64)) fun h_3 => cl (sX0_addSet F h_3 x (hI h_3 x 14)) fun o_4 => sX0_gatherSets_62 F F o_4 x (0 : Int32)) = some u := by
    intro f
    induction f with
    | zero => intro g x1 _ _ _ _ _ _ _ e; exact absurd e (by rw [sX0_gatherSets_9]; exact fun z => nomatch z)
    | succ f ih =>
      intro g x1 R J I a1 b1 P P6 e
      rw [sX0_gatherSets_9] at e
      replace e := br_s e
      rcases e with ⟨l, e⟩ | ⟨l, e⟩
      · have l := lt_i l
        rw [z5] at l
        exact ⟨g, R, J, I, fun i hi => P i (by omega), P6, e⟩
      have l := nlt_i l
      rw [z5] at l
      replace e := cl_s e; obtain ⟨r5, p, e⟩ := e
      rw [r_eq (by rw [R]; exact e6) p] at e
      replace e := cl_s e; obtain ⟨r6, p, e⟩ := e
      rw [r_eq (by rw [R]; exact e6) p] at e
      replace e := (gd_s e).2
      replace e := cl_s e; obtain ⟨r8, p, e⟩ := e
      rw [r_eq (by rw [R]; exact e0) p] at e
      replace e := (gd_s e).2
      replace e := nm_s e; obtain ⟨h10, w10, e⟩ := e
      replace e := nm_s e; obtain ⟨v11, w11, e⟩ := e
      have c1 := nc_i (x := x1) (by omega)
      have dd : (x1 - (1 : Int32)).toInt = x1.toInt - 1 := by rw [ts (by rw [z1]; omega), z1]
      have cd := nc_i (x := x1 - (1 : Int32)) (by omega)
      have pv := P (x1 - (1 : Int32)).toNatClampNeg (by omega)
      have en : x1.toNatClampNeg = (x1 - (1 : Int32)).toNatClampNeg + 1 := by omega
      have pw5 := pow_sq (s := (hI h L 2).toInt) s0 s64 x1.toNatClampNeg (by omega)
      have ev : ((hI g pw (x1 - (1 : Int32)).toNatClampNeg) * (hI g L 2)).toInt = (hI h L 2).toInt ^ x1.toNatClampNeg := by
        have e : (hI g pw (x1 - (1 : Int32)).toNatClampNeg).toInt * (hI g L 2).toInt = (hI h L 2).toInt ^ x1.toNatClampNeg := by rw [pv, I L 2 nL, en, Int.pow_succ]
        rw [tm (by rw [e]; omega), e]
      have tx : v11.toInt = x1.toInt + 1 := by rw [w11, ta (by rw [z1]; omega), z1]
      refine ih (g := h10) (fun a i => by rw [w10]; exact R a i) (fun a i => by rw [w10]; exact J a i) (fun a i n => by rw [w10, rI_a n]; exact I a i n) (by omega) (by omega) (fun i hi => ?_) (fun i hi => by rw [w10, rI_o (by omega)]; exact P6 i hi) e
      rw [w10]
      by_cases z : i = x1.toNatClampNeg
      · rw [z, rI_s, ev]
      · rw [rI_o z]; exact P i (by omega)
  refine l9 F (g := h3) (fun a i => by rw [w3]; rfl) (fun a i => by rw [w3]; rfl) (fun a i n => by rw [w3, rI_a n]) (by decide) (by decide) (fun i hi => ?_) (fun i hi => by
    rw [w3]
    show hI (wI h pw 0 (1 : Int32)) pw i = _
    exact rI_o (by omega)) e
  have i0 : i = 0 := by
    rw [z1] at hi
    omega
  rw [i0, w3]
  show (hI (wI h pw 0 (1 : Int32)) pw 0).toInt = _
  rw [rI_s, Int.pow_zero]
  rfl
end
end
section
/-! from the SET that is asked for to the answer, side by side -/
section
variable {ρ : Nat → Nat} {c : Cm} {F x ks st pw L bm bc m rm re rb rk rs ro R Bc Bm : Nat} {hq g hc hr hc' hr' : Hp} {u b : Int32 × Hp} {x1 key : Int32}
theorem lbk_k (K : LBk x L bm bc m R Bc Bm hc hr) (cR : ∀ a i, hR hc' a i = hR hc a i) (cI : ∀ a i, a = L ∨ a = bm ∨ a = bc → hI hc' a i = hI hc a i) (rR : ∀ a i, hR hr' a i = hR hr a i) (rI : ∀ a i, a = R ∨ a = Bc ∨ a = Bm → hI hr' a i = hI hr a i) : LBk x L bm bc m R Bc Bm hc' hr' := by
  obtain ⟨⟨a1, a2, a3⟩, ⟨b1, b2, b3⟩, k1, k2, k3⟩ := K
  have c1 : ∀ i, hI hc' L i = hI hc L i := fun i => cI L i (Or.inl rfl)
  have c2 : ∀ i, hI hc' bm i = hI hc bm i := fun i => cI bm i (Or.inr (Or.inl rfl))
  have c3 : ∀ i, hI hc' bc i = hI hc bc i := fun i => cI bc i (Or.inr (Or.inr rfl))
  have r1 : ∀ i, hI hr' R i = hI hr R i := fun i => rI R i (Or.inl rfl)
  have r2 : ∀ i, hI hr' Bc i = hI hr Bc i := fun i => rI Bc i (Or.inr (Or.inl rfl))
  have r3 : ∀ i, hI hr' Bm i = hI hr Bm i := fun i => rI Bm i (Or.inr (Or.inr rfl))
  refine ⟨⟨by rw [cR]; exact a1, by rw [cR]; exact a2, by rw [cR]; exact a3⟩, ⟨by rw [rR]; exact b1, by rw [rR]; exact b2, by rw [rR]; exact b3⟩, by rw [c1, r1]; exact k1, fun q hq z => ?_, fun i hi => ?_⟩
  · rw [c1] at z
    rw [r3]; exact k2 q hq z
  · obtain ⟨d1, d2, d3⟩ := k3 i hi
    rw [c3, r3]
    refine ⟨d1, d2, fun j hj => ?_⟩
    rw [c2, r2]
    exact d3 j hj
theorem core_p (hF : 2000000 ≤ F) (hA : pmA c soC) (e4 : hR hq x 4 = some ks) (e5 : hR hq x 5 = some st) (e6 : hR hq x 6 = some pw) (n1 : ¬ x = ks) (n2 : ¬ x = st) (n3 : ¬ pw = x) (n4 : ¬ pw = ks) (n5 : ¬ L = pw) (n6 : ¬ L = x) (n7 : ¬ bm = pw) (n8 : ¬ bc = pw) (N : LBn ρ x ks L bm bc R Bc Bm) (sq : Rg 0 64 (hI hq L 2)) (pws : ∀ i, Rg 0 1073741824 (hI hq pw i)) (bcs : ∀ i, (hI hq bc i).toInt ≤ 6) (e14 : hI hq x 14 = key) (eu : sX0_gatherSets F hq x = some u) (T : TH ρ c g) (SR : SlR ρ m rm re rb rk rs ro g) (W : RW m x1.toInt g) (B : RowB ro key x1.toNatClampNeg g) (i1 : Rg 2 5 x1) (sqo : SqOk m g) (hz : hI g R 15 = 0) (sqs : (hI hq L 2).toInt = (hI g m 13).toInt) (K : LBk x L bm bc m R Bc Bm hq g) (eb : (nm (wI g m 49 (0 : Int32)) fun h_3 => nm (wJ h_3 m 59 (0 : Int64)) fun h_4 => nm (wI h_4 m 50 (0 : Int32)) fun h_5 => sX15_solve_203 F F h_5 m x1 (0 : Int32)) = some b) : (u.1 = 0 ∧ b.1 = (-104 : Int32)) ∨ (u.1 = 1 ∧ b.1 = hI u.2 x 9) := by
  have hF7 : 700000 ≤ F := by omega
  have z0 : (0 : Int32).toInt = 0 := rfl
  have hAs : pmA c seL := pmA_s hA rfl
  obtain ⟨⟨a0, a17, a18⟩, ⟨b4, b13, b14⟩, _⟩ := id K
  obtain ⟨⟨nLk, nbk, nck, nbx, ncx⟩, qR, qBc, qBm⟩ := id N
  obtain ⟨⟨r0, qm, qe, qb, qk, qs, qo⟩, ⟨e46, e47, e48, e55, e56, e57⟩⟩ := id SR
  have ne : ∀ {a b i j : Nat}, ρ a = i → ρ b = j → ¬ i = j → ¬ a = b := fun ha hb nn z => nn (by rw [← ha, z]; exact hb)
  -- the class: powers
  obtain ⟨g0, gR, gJ, gI, gP, gQ, eu⟩ := gat_e sq.1 sq.2 a0 e6 n5 eu
  replace eu := nm_s eu; obtain ⟨h2, w2, eu⟩ := eu
  replace eu := nm_s eu; obtain ⟨h3, w3, eu⟩ := eu
  replace eu := cl_s eu; obtain ⟨oc, eoc, e62⟩ := eu
  have hR3 : ∀ a i, hR h3 a i = hR hq a i := fun a i => by rw [w3, w2]; exact gR a i
  have hI3 : ∀ a i, ¬ a = x → ¬ a = pw → hI h3 a i = hI hq a i := fun a i na np => by
    rw [w3]
    show hI h2 a i = _
    rw [w2, rI_a na]; exact gI a i np
  have hx3 : ∀ i, ¬ i = 9 → hI h3 x i = hI hq x i := fun i ni => by
    rw [w3]
    show hI h2 x i = _
    rw [w2, rI_o ni]; exact gI x i (fun z => n3 z.symm)
  have hp3 : ∀ i, hI h3 pw i = hI g0 pw i := fun i => by
    rw [w3]
    show hI h2 pw i = _
    rw [w2, rI_a n3]
  have x9 : hI h3 x 9 = 0 := by
    rw [w3]
    show hI h2 x 9 = _
    rw [w2, rI_s]
  have j18 : hJ h3 x 18 = 0 := by rw [w3, r_J, if_pos ⟨rfl, rfl⟩]
  have k14 : hI h3 x 14 = key := by rw [hx3 14 (by decide)]; exact e14
  rw [k14] at eoc
  -- the reference: slots
  replace eb := nm_s eb; obtain ⟨q3, v3, eb⟩ := eb
  replace eb := nm_s eb; obtain ⟨q4, v4, eb⟩ := eb
  replace eb := nm_s eb; obtain ⟨q5, v5, eb⟩ := eb
  have T3 : TH ρ c q3 := by rw [v3]; exact th_wI T r0 (k := 16) (i := 49) (lo := 0) (hi := 4096) rfl (rg_m (rg_b rfl : Rg 0 0 (0 : Int32)) (by decide)) (by decide) (by decide) (pm_a hA rfl)
  have T4 : TH ρ c q4 := by rw [v4]; exact th_wJ T3 (k := 16) (i := 59) r0 (by decide) (pm_a hA rfl)
  have T5 : TH ρ c q5 := by rw [v5]; exact th_wI T4 r0 (k := 16) (i := 50) (lo := 0) (hi := 4096) rfl (rg_m (rg_b rfl : Rg 0 0 (0 : Int32)) (by decide)) (by decide) (by decide) (pm_a hA rfl)
  have R5 : ∀ a i, hR q5 a i = hR g a i := fun a i => by rw [v5, v4, v3]; rfl
  obtain ⟨g5, Tg, Rg5, Jg5, Ig5, Zg5, eb⟩ := r203_e (h := q5) (g := q5) (pmA_s hA rfl) (by rw [R5]; exact e56) qs F T5 (fun _ _ => rfl) (fun _ _ => rfl) (fun _ _ _ => rfl) (by decide) (fun j hj => by rw [z0] at hj; omega) eb
  have RR : ∀ a i, hR g5 a i = hR g a i := fun a i => (Rg5 a i).trans (R5 a i)
  have II : ∀ a i, ¬ a = m → ¬ a = rs → hI g5 a i = hI g a i := fun a i na ns => by
    rw [Ig5 a i ns, v5, rI_a na, v4]
    show hI q3 a i = _
    rw [v3, rI_a na]
  have nms : ¬ m = rs := ne r0 qs (by decide)
  have Im : ∀ i, ¬ i = 49 → ¬ i = 50 → hI g5 m i = hI g m i := fun i n49 n50 => by
    rw [Ig5 m i nms, v5, rI_o n50, v4]
    show hI q3 m i = _
    rw [v3, rI_o n49]
  have y49 : hI g5 m 49 = 0 := by
    rw [Ig5 m 49 nms, v5, rI_o (by decide), v4]
    show hI q3 m 49 = _
    rw [v3, rI_s]
  have y59 : hJ g5 m 59 = 0 := by
    rw [Jg5, v5]
    show hJ q4 m 59 = _
    rw [v4, r_J, if_pos ⟨rfl, rfl⟩]
  have SR5 : SlR ρ m rm re rb rk rs ro g5 := slr_r SR RR
  have W5 : RW m x1.toInt g5 := fun ro' er i hi => by
    rw [RR] at er
    have y : ro' = ro := r_eq e57 er
    rw [y, II ro i (ne qo r0 (by decide)) (ne qo qs (by decide))]
    exact W ro e57 i hi
  obtain ⟨o2, eq2, alt⟩ := ref_e hF hA Tg SR5 (by rw [RR]; exact b4) (by rw [RR]; exact b13) (by rw [RR]; exact b14) i1 (by rw [y49]; rfl) (by rw [y59]; rfl) W5 Zg5 (by unfold SqOk; rw [Im 13 (by decide) (by decide), Im 11 (by decide) (by decide), Im 12 (by decide) (by decide)]; exact sqo) (by rw [II R 15 (ne qR r0 (by decide)) (ne qR qs (by decide))]; exact hz) eb
  have P5 := se_init (x0 := m) (h := g5) (by rw [y49]; rfl) (by rw [y59]; rfl) (fun r er j hj => by rw [r_eq (by rw [RR]; exact e56) er, Zg5 j hj, z0]; exact Int.le_refl _)
  -- both, with no SET yet
  have E3 : CE x ks pw h3 := ⟨⟨by rw [hR3]; exact e4, by rw [hR3]; exact e6⟩, n1, n3, n4⟩
  have J3 : JS x ks pw m rm re rk rs h3 g5 := by
    refine ⟨⟨by rw [x9, y49], by rw [x9]; exact ⟨by decide, by decide⟩⟩, ⟨by rw [j18, y59], by rw [j18]; decide, by rw [j18]; decide⟩, fun k hk => ?_, fun j k _ hk => ?_, fun i hi => ?_, ?_⟩
    · rw [x9, z0] at hk; omega
    · rw [x9, z0] at hk; omega
    · rw [hp3, gP i hi, sqs, Im 13 (by decide) (by decide)]
    · rw [x9, j18]; rfl
  have C3 : CM x ks pw L bc h3 := by
    refine ⟨⟨by rw [hR3]; exact e4, by rw [hR3]; exact e6, by rw [hR3]; exact a0, by rw [hR3]; exact a18⟩, ⟨n1, n3, n4, ncx, nck⟩, fun i => ?_, fun i => by rw [hI3 bc i ncx n8]; exact bcs i⟩
    rw [hp3]
    by_cases l : i ≤ 5
    · have pb := pow_sq (s := (hI hq L 2).toInt) sq.1 sq.2 i l
      exact ⟨by rw [gP i l]; exact pb.1, by rw [gP i l]; exact pb.2⟩
    · rw [gQ i (by omega)]; exact pws i
  have K3 : LBk x L bm bc m R Bc Bm h3 g5 := lbk_k K hR3 (fun a i ha => by
    rcases ha with z | z | z
    · rw [z]; exact hI3 L i n6 n5
    · rw [z]; exact hI3 bm i nbx n7
    · rw [z]; exact hI3 bc i ncx n8) RR (fun a i ha => by
    rcases ha with z | z | z
    · rw [z]; exact II R i (ne qR r0 (by decide)) (ne qR qs (by decide))
    · rw [z]; exact II Bc i (ne qBc r0 (by decide)) (ne qBc qs (by decide))
    · rw [z]; exact II Bm i (ne qBm r0 (by decide)) (ne qBm qs (by decide)))
  obtain ⟨fr, Kk, Ck⟩ := B
  obtain ⟨⟨T2, P2⟩, CF, alt2⟩ := add_p hF7 hAs SR5 Tg P5 E3 J3 (rg_m i1 (by decide)) W5 Kk (fun v => (Ck v).trans (cn_eq _ (fun i _ => (II ro i (ne qo r0 (by decide)) (ne qo qs (by decide))).symm))) eoc eq2
  rcases alt2 with ⟨zz, big⟩ | ⟨zz, RF2, J2⟩
  · rcases alt with ⟨_, eb⟩ | ⟨nz, _⟩
    · exact Or.inl ⟨big_62 big F e62, eb⟩
    · exact absurd zz nz
  rcases alt with ⟨z, _⟩ | ⟨_, o3, eq3, alt⟩
  · rw [zz] at z; exact absurd z (by decide)
  unfold sX15_addAll at eq3
  have S := sets_p hF7 hAs N F F (x1 := (0 : Int32)) ⟨slr_r SR5 RF2.1, T2, P2, ce_f E3 CF, J2, lb_f N r0 CF RF2 K3⟩ (cm_f CF C3) (by decide) (by rw [z0]; exact J2.1.2.1) e62 eq3
  rcases S with ⟨s1, s2⟩ | ⟨s1, hc2, CF2, J4, e104⟩
  · rcases alt with ⟨_, eb⟩ | ⟨nz, _⟩
    · exact Or.inl ⟨s2, eb⟩
    · exact absurd s1 nz
  rcases alt with ⟨z, _⟩ | ⟨_, eb⟩
  · rw [s1] at z; exact absurd z (by decide)
  have hRc : ∀ a i, hR hc2 a i = hR hq a i := fun a i => ((CF2.1 a i).trans (CF.1 a i)).trans (hR3 a i)
  obtain ⟨u1, u9⟩ := low_104 n1 n2 (by rw [hRc]; exact e4) (by rw [hRc]; exact e5) J4.2.1.2.2 e104
  exact Or.inr ⟨u1, by rw [eb, u9]; exact J4.1.1.symm⟩
end
end
section
/-! solve answers alike -/
theorem s71_1 {F n : Nat} {g : Hp} {y : Int32} {a : Int32 × Hp} (e : sX11_solve_71 F g n y = some a) : a.1 = y := by
  unfold sX11_solve_71 sX11_solve_78 at e
  replace e := cl_s e; obtain ⟨_, _, e⟩ := e
  replace e := cl_s e; obtain ⟨_, _, e⟩ := e
  rw [← Option.some.inj e]
section
variable {ρ ρ1 : Nat → Nat} {c c1 : Cm} {F n m L lw t bt tp : Nat} {h h1 : Hp} {a b : Int32 × Hp}
theorem sol_p (hF : 2000000 ≤ F) (T : TH ρ c h) (r0 : ρ n = 12) (lwr : LwR ρ c h) (en : EnA n h) (fm : FmY ρ c h) (T1 : TH ρ1 c1 h1) (m1 : ρ1 m = 16) (sqo : SqOk m h1) (eL : hR h n 2 = some L) (em : hR h1 m 4 = some lw) (LR : LawR L lw h h1) (sqs : (hI h L 2).toInt = (hI h1 m 13).toInt) (et : hR h n 0 = some t) (ebt : hR h t 0 = some bt) (etp : hR h1 m 0 = some tp) (tl : hI h t 1 = hI h1 m 1) (tb : ∀ i : Nat, (i : Int) < (hI h1 m 1).toInt → (hI h1 tp i).toInt = sg (hI h bt i).toInt) (ea : sX11_solve F h n = some a) (eb : sX15_solve F h1 m = some b) : a.1 = b.1 := by
  have hF7 : 700000 ≤ F := by omega
  have z0 : (0 : Int32).toInt = 0 := rfl
  have ne : ∀ {r : Nat → Nat} {a b i j : Nat}, r a = i → r b = j → ¬ i = j → ¬ a = b := fun ha hb nn z => nn (by rw [← ha, z]; exact hb)
  -- the class's things
  obtain ⟨x, ex, qx⟩ := thR T r0 (i := 10) (k2 := 1) rfl (by decide)
  have qL : ρ L = 2 := rr T (thR T r0 (i := 2) (k2 := 2) rfl (by decide)) eL
  have qt : ρ t = 10 := rr T (thR T r0 (i := 0) (k2 := 10) rfl (by decide)) et
  have qbt : ρ bt = 49 := rr T (thR T qt (i := 0) (k2 := 49) rfl (by decide)) ebt
  have wL : cw c L = 2102 := kid_w T r0 (i := 2) (w := 2102) rfl (by decide) eL
  obtain ⟨L', eL', qL'⟩ := thR T qx (i := 0) (k2 := 2) rfl (by decide)
  have wL' : cw c L' = 2102 := kid_w T qx (i := 0) (w := 2102) rfl (by decide) eL'
  have hLL : L' = L := law_1 T qL wL qL' wL'
  rw [hLL] at eL'
  obtain ⟨wy, ewy, qwy⟩ := thR T qx (i := 1) (k2 := 11) rfl (by decide)
  obtain ⟨ks, e4, qk⟩ := thR T qx (i := 4) (k2 := 20) rfl (by decide)
  obtain ⟨st, e5, qs⟩ := thR T qx (i := 5) (k2 := 21) rfl (by decide)
  obtain ⟨pw, e6, qp⟩ := thR T qx (i := 6) (k2 := 22) rfl (by decide)
  -- the reference's things
  obtain ⟨rm, e46, qm⟩ := thR T1 m1 (i := 46) (k2 := 99) rfl (by decide)
  obtain ⟨re, e47, qe⟩ := thR T1 m1 (i := 47) (k2 := 100) rfl (by decide)
  obtain ⟨rb, e48, qb⟩ := thR T1 m1 (i := 48) (k2 := 101) rfl (by decide)
  obtain ⟨rk, e55, qrk⟩ := thR T1 m1 (i := 55) (k2 := 106) rfl (by decide)
  obtain ⟨rs, e56, qrs⟩ := thR T1 m1 (i := 56) (k2 := 107) rfl (by decide)
  obtain ⟨ro, e57, qo⟩ := thR T1 m1 (i := 57) (k2 := 108) rfl (by decide)
  have qlw : ρ1 lw = 15 := rr T1 (thR T1 m1 (i := 4) (k2 := 15) rfl (by decide)) em
  have qtp : ρ1 tp = 82 := rr T1 (thR T1 m1 (i := 0) (k2 := 82) rfl (by decide)) etp
  obtain ⟨Z, A, Q⟩ := LR
  obtain ⟨⟨z2, a27, a28, a29, a30, a31⟩, ⟨z15, b3, b4, b5, b6, b7, b8, b9, b13, b14⟩, zz⟩ := id A
  have q80 : ρ1 (Z 80) = 80 := rr T1 (thR T1 qlw (i := 13) (k2 := 80) rfl (by decide)) b13
  have q81 : ρ1 (Z 81) = 81 := rr T1 (thR T1 qlw (i := 14) (k2 := 81) rfl (by decide)) b14
  have K : ∀ g, (∀ a i, hR g a i = hR h1 a i) → (∀ a i, hJ g a i = hJ h1 a i) → (∀ a i, ¬ a = m → ¬ a = ro → hI g a i = hI h1 a i) → ZA Z L lw h g ∧ LwQ Z h g ∧ hR g m 4 = some lw := fun g kR kJ kI => by
    refine ⟨⟨A.1, ⟨z15, by rw [kR]; exact b3, by rw [kR]; exact b4, by rw [kR]; exact b5, by rw [kR]; exact b6, by rw [kR]; exact b7, by rw [kR]; exact b8, by rw [kR]; exact b9, by rw [kR]; exact b13, by rw [kR]; exact b14⟩, zz⟩, lwq_k Q (fun _ => rfl) rfl (fun _ _ _ => rfl) (fun i => ?_) (kJ _ _) (fun k hk i => ?_), by rw [kR]; exact em⟩
    · rw [z15]; exact kI lw i (ne qlw m1 (by decide)) (ne qlw qo (by decide))
    · have rd : ∀ {j k2 r : Nat}, rfK 15 j = k2 → ¬ k2 = 0 → ¬ k2 = 16 → ¬ k2 = 108 → hR h1 lw j = some r → hI g r i = hI h1 r i := fun {j k2 r} e1 e2 e3 e4 er => by
        have q : ρ1 r = k2 := rr T1 (thR T1 qlw (i := j) (k2 := k2) e1 e2) er
        exact kI r i (ne q m1 e3) (ne q qo e4)
      simp only [List.mem_cons, List.not_mem_nil, or_false] at hk
      rcases hk with rfl | rfl | rfl | rfl | rfl | rfl | rfl | rfl | rfl
      · exact rd (j := 3) (k2 := 73) rfl (by decide) (by decide) (by decide) b3
      · exact rd (j := 4) (k2 := 74) rfl (by decide) (by decide) (by decide) b4
      · exact rd (j := 5) (k2 := 75) rfl (by decide) (by decide) (by decide) b5
      · exact rd (j := 6) (k2 := 76) rfl (by decide) (by decide) (by decide) b6
      · exact rd (j := 7) (k2 := 77) rfl (by decide) (by decide) (by decide) b7
      · exact rd (j := 8) (k2 := 78) rfl (by decide) (by decide) (by decide) b8
      · exact rd (j := 9) (k2 := 79) rfl (by decide) (by decide) (by decide) b9
      · exact rd (j := 13) (k2 := 80) rfl (by decide) (by decide) (by decide) b13
      · exact rd (j := 14) (k2 := 81) rfl (by decide) (by decide) (by decide) b14
  -- both begin
  unfold sX11_solve at ea
  replace ea := cl_s ea; obtain ⟨l1, p, ea⟩ := ea
  rw [r_eq eL p] at ea
  replace ea := cl_s ea; obtain ⟨o2, eo2, ea⟩ := ea
  unfold sX15_solve at eb
  replace eb := nm_s eb; obtain ⟨v1, wv1, eb⟩ := eb
  replace eb := nm_s eb; obtain ⟨h2, w2, eb⟩ := eb
  have R2 : ∀ a i, hR h2 a i = hR h1 a i := fun a i => by rw [w2]; rfl
  have J2 : ∀ a i, hJ h2 a i = hJ h1 a i := fun a i => by rw [w2]; rfl
  have I2 : ∀ a i, ¬ a = m → hI h2 a i = hI h1 a i := fun a i na => by rw [w2, rI_a na]
  have T2 : TH ρ1 (cat c1 (fS soA soL) h1) h2 := by rw [w2]; exact th_wI (th_in (fS soA soL) T1) m1 (k := 16) (i := 1) (lo := 0) (hi := 1200) rfl (rg_m (rg_b rfl : Rg 0 0 (0 : Int32)) (by decide)) (by decide) (by decide) (pm_a (fs_a (A := soA) (L := soL)) rfl)
  obtain ⟨A2, Q2, em2⟩ := K h2 R2 J2 (fun a i na _ => I2 a i na)
  have nlm : ¬ lw = m := ne qlw m1 (by decide)
  replace eb := cl_s eb; obtain ⟨l3, p, eb⟩ := eb
  rw [r_eq em2 p] at eb
  obtain ⟨wp, pl⟩ := plain_p A2 Q2 (by rw [I2 lw 20 nlm]; exact (thI T1 qlw (k := 15) (i := 20) (lo := 0) (hi := 9) rfl).1) eo2
  rw [wp] at ea
  unfold sX11_solve_10 at ea
  unfold sX15_solve_47 at eb
  replace ea := br_s ea
  rcases ea with ⟨zp, ea⟩ | ⟨zp, ea⟩
  · -- not plain
    rw [s71_1 ea]
    have np : ¬ (hI h2 lw 15 = 0 ∧ hI h2 lw 18 = 0 ∧ ¬ (0 : Int32) < hI h2 lw 20) := fun w => (pl.mpr w) zp
    replace eb := br_s eb
    rcases eb with ⟨c15, eb⟩ | ⟨_, eb⟩
    rotate_left
    · rw [← Option.some.inj eb]
    replace eb := cl_s eb; obtain ⟨l5, p, eb⟩ := eb
    rw [r_eq em2 p] at eb
    replace eb := br_s eb
    rcases eb with ⟨c18, eb⟩ | ⟨_, eb⟩
    rotate_left
    · rw [← Option.some.inj eb]
    replace eb := cl_s eb; obtain ⟨l7, p, eb⟩ := eb
    rw [r_eq em2 p] at eb
    replace eb := br_s eb
    rcases eb with ⟨_, eb⟩ | ⟨c20, _⟩
    · rw [← Option.some.inj eb]
    · exact absurd ⟨c15, c18, c20⟩ np
  obtain ⟨p15, p18, p20⟩ := pl.mp zp
  replace eb := br_s eb
  rcases eb with ⟨_, eb⟩ | ⟨w, _⟩
  rotate_left
  · exact absurd p15 w
  replace eb := cl_s eb; obtain ⟨l5, p, eb⟩ := eb
  rw [r_eq em2 p] at eb
  replace eb := br_s eb
  rcases eb with ⟨_, eb⟩ | ⟨w, _⟩
  rotate_left
  · exact absurd p18 w
  replace eb := cl_s eb; obtain ⟨l7, p, eb⟩ := eb
  rw [r_eq em2 p] at eb
  replace eb := br_s eb
  rcases eb with ⟨w, _⟩ | ⟨_, eb⟩
  · exact absurd w p20
  -- catches
  replace ea := cl_s ea; obtain ⟨l2, p, ea⟩ := ea
  rw [r_eq eL p] at ea
  replace ea := cl_s ea; obtain ⟨o3, eo3, ea⟩ := ea
  replace eb := cl_s eb; obtain ⟨o9, eo9, eb⟩ := eb
  obtain ⟨c1', c2', c3'⟩ := cat_p A2 Q2 em2 eo3 eo9
  rw [c1', c3'] at ea
  rw [c2'] at eb
  unfold sX11_solve_20 at ea
  unfold sX15_solve_44 sX15_solve_47 at eb
  replace ea := br_s ea
  replace eb := br_s eb
  rcases ea with ⟨zc, ea⟩ | ⟨zc, ea⟩
  rotate_left
  · rcases eb with ⟨w, _⟩ | ⟨_, eb⟩
    · exact absurd w zc
    · rw [s71_1 ea, ← Option.some.inj eb]
  rcases eb with ⟨_, eb⟩ | ⟨w, _⟩
  rotate_left
  · exact absurd zc w
  -- the SET is read
  replace ea := cl_s ea; obtain ⟨x', p, ea⟩ := ea
  rw [r_eq ex p] at ea
  replace ea := cl_s ea; obtain ⟨t', p, ea⟩ := ea
  rw [r_eq et p] at ea
  replace ea := cl_s ea; obtain ⟨o4, eo4, ea⟩ := ea
  have iv : Rg 0 1200 v1 := by rw [wv1]; exact thI T1 m1 (k := 16) (i := 1) rfl
  obtain ⟨T4, ky, K4⟩ := sat_e (readC_q (c := cat c (fS [(1, 14)] []) h) hF7 fs_a (th_in _ T) qx qt (rg_m (thI T qt (k := 10) (i := 1) rfl) (by decide))) eo4
  have f4 := fr_u T T4.2.2
  have eo4' : sX0_read_7 F F h x t (0 : Int32) (0 : Int32) (0 : Int32) = some o4 := eo4
  have B0 : RowB ro (0 : Int32) (0 : Int32).toNatClampNeg h2 := (⟨fun _ => 0, ⟨Nat.zero_le _, by unfold K5 pad; rfl, fun i hi => absurd hi (Nat.not_lt_zero i), fun i j _ hj => absurd hj (Nat.not_lt_zero j)⟩, fun _ => rfl⟩ : RowB ro (0 : Int32) 0 h2)
  have rp := read_p (Z := Z) (L := L) (lw := lw) (pmA_s (fs_a (c := c1) (A := soA) (L := soL) (h := h1)) rfl) m1 (by rw [R2]; exact e57) qo (by rw [R2]; exact etp) qtp (fun g J => K g (fun a i => by rw [J.1]; exact R2 a i) (fun a i => by rw [J.2.2.1]; exact J2 a i) (fun a i na no => by rw [J.2.2.2 a i no]; exact I2 a i na)) eL' ebt (ne qt qx (by decide)) (by rw [wv1]; exact tl) iv (fun i => thI T qbt (k := 49) (i := i) rfl) (fun i hi => by rw [I2 tp i (ne qtp m1 (by decide))]; exact tb i (by rw [← wv1]; exact hi)) F F T2 jo_0 ⟨by decide, by decide⟩ (by rw [z0]; exact iv.1) (fun _ _ i hi => absurd hi (by rw [z0]; omega)) B0 eo4' eb
  unfold sX11_solve_34 sX11_solve_70 at ea
  replace ea := br_s ea
  rcases rp with ⟨nf, ef⟩ | ⟨yf, key, g, eo, i25, Tg, Jg, Wg, Bg, eg⟩
  · rcases ea with ⟨w, _⟩ | ⟨_, ea⟩
    · exact absurd w nf
    · rw [s71_1 ea, ef]
  rcases ea with ⟨_, ea⟩ | ⟨w, _⟩
  rotate_left
  · exact absurd yf w
  have ex4 : hR o4.2 n 10 = some x := by rw [kfR 10 K4 r0]; exact ex
  replace ea := cl_s ea; obtain ⟨x2, p, ea⟩ := ea
  rw [r_eq ex4 p] at ea
  replace ea := cl_s ea; obtain ⟨o6, eo6, ea⟩ := ea
  have en4 : EnA n o4.2 := ena_k T r0 K4 f4.2 (y1 := fun j h1 _ _ _ => by
    show mS [(1, 14)] 1 j = false
    unfold mS
    simp [List.any]
    exact fun z => h1 z.symm) (P := en)
  have fm4 : FmY ρ c o4.2 := fmy_k T K4 (P := fm)
  obtain ⟨p1, p2, p3⟩ := en4 x ex4
  have eL4 : hR o4.2 x 0 = some L := by rw [kfR 0 K4 qx]; exact eL'
  have ewy4 : hR o4.2 x 1 = some wy := by rw [kfR 1 K4 qx]; exact ewy
  obtain ⟨u, eu, runA⟩ := sat_e (runE_q (c := cat (cat c (fS [(1, 14)] []) h) (fS RUL [(1003, BOL)]) o4.2) hF7 fs_a (fs_o (.head _)) (th_in _ T4) qx eL4 ewy4 (ky yf) p1 p2 (lw_k K4 (P := lwr)) (fm4 wy L qwy qL wL)) eo6
  obtain ⟨ρ5, c5, X5, T5, i5, _, _, _, K5'⟩ := sat_e (run_q (c := cat (cat c (fS [(1, 14)] []) h) (fS RUL [(1003, BOL)]) o4.2) hF7 fs_a (fs_o (.head _)) (th_in _ T4) qx eL4 ewy4 (ky yf) p1 p2 (lw_k K4 (P := lwr)) (fm4 wy L qwy qL wL)) eo6
  obtain ⟨u', eu', runB⟩ := run_1 eo6
  have yu : u' = u := Option.some.inj (eu'.symm.trans eu)
  rw [yu] at runB
  have ex6 : hR o6.2 n 10 = some x := by rw [kfR 10 K5' r0]; exact ex4
  -- from here on
  have nLx : ¬ L = x := ne qL qx (by decide)
  have q30 : ρ (Z 30) = 30 := rr T (thR T qL (i := 17) (k2 := 30) rfl (by decide)) a30
  have q31 : ρ (Z 31) = 31 := rr T (thR T qL (i := 18) (k2 := 31) rfl (by decide)) a31
  have IQ : ∀ a i, ¬ a = x → hI (wI o4.2 x 10 (0 : Int32)) a i = hI h a i := fun a i na => by rw [rI_a na, eo, rI_a na]
  have RQ : ∀ a i, hR (wI o4.2 x 10 (0 : Int32)) a i = hR h a i := fun a i => by
    show hR o4.2 a i = _
    rw [eo]; rfl
  have RG : ∀ a i, hR g a i = hR h1 a i := fun a i => (Jg.1 a i).trans (R2 a i)
  have IG : ∀ a i, ¬ a = m → ¬ a = ro → hI g a i = hI h1 a i := fun a i na no => (Jg.2.2.2 a i no).trans (I2 a i na)
  have nmo : ¬ m = ro := ne m1 qo (by decide)
  have IM : ∀ i, ¬ i = 1 → hI g m i = hI h1 m i := fun i n1 => by rw [Jg.2.2.2 m i nmo, w2, rI_o n1]
  have IL : ∀ i, hI g lw i = hI h1 lw i := fun i => IG lw i nlm (ne qlw qo (by decide))
  have LB : LBk x L (Z 30) (Z 31) m lw (Z 80) (Z 81) (wI o4.2 x 10 (0 : Int32)) g := by
    have k4 : hI h L 4 = hI h1 lw 10 := by
      have := Q.1 (4, 10) (by decide)
      rw [z2, z15] at this
      exact this
    have t2 := Q.2.2.2.2.1
    have t7 := Q.2.2.2.2.2.2.2.2.2.2
    have iB : ∀ i, hI g (Z 81) i = hI h1 (Z 81) i := fun i => IG _ i (ne q81 m1 (by decide)) (ne q81 qo (by decide))
    have iC : ∀ i, hI g (Z 80) i = hI h1 (Z 80) i := fun i => IG _ i (ne q80 m1 (by decide)) (ne q80 qo (by decide))
    have jB : ∀ i, hI (wI o4.2 x 10 (0 : Int32)) (Z 31) i = hI h (Z 31) i := fun i => IQ _ i (ne q31 qx (by decide))
    have jC : ∀ i, hI (wI o4.2 x 10 (0 : Int32)) (Z 30) i = hI h (Z 30) i := fun i => IQ _ i (ne q30 qx (by decide))
    refine ⟨⟨by rw [RQ]; exact eL', by rw [RQ]; exact a30, by rw [RQ]; exact a31⟩, ⟨by rw [RG]; exact em, by rw [RG]; exact b13, by rw [RG]; exact b14⟩, by rw [IQ L 4 nLx, IL]; exact k4, fun q hq z => ?_, fun i hi => ?_⟩
    · rw [IQ L 4 nLx] at z
      rw [iB, ← (t2 q hq).1]
      exact t7 q hq (by rw [z2]; exact z)
    · rw [jB, iB]
      refine ⟨(t2 i hi).1, (t2 i hi).2.1, fun j hj => ?_⟩
      rw [jC, iC]
      exact (t2 i hi).2.2 j hj
  have SG : SlR ρ1 m rm re rb rk rs ro g := ⟨⟨m1, qm, qe, qb, qrk, qrs, qo⟩, ⟨by rw [RG]; exact e46, by rw [RG]; exact e47, by rw [RG]; exact e48, by rw [RG]; exact e55, by rw [RG]; exact e56, by rw [RG]; exact e57⟩⟩
  have cp := core_p (c := cat c1 (fS soA soL) h1) (hq := wI o4.2 x 10 (0 : Int32)) (key := key) hF (pmA_s (fs_a (c := c1) (A := soA) (L := soL) (h := h1)) rfl) (by rw [RQ]; exact e4) (by rw [RQ]; exact e5) (by rw [RQ]; exact e6) (ne qx qk (by decide)) (ne qx qs (by decide)) (ne qp qx (by decide)) (ne qp qk (by decide)) (ne qL qp (by decide)) nLx (ne q30 qp (by decide)) (ne q31 qp (by decide)) ⟨⟨ne qL qk (by decide), ne q30 qk (by decide), ne q31 qk (by decide), ne q30 qx (by decide), ne q31 qx (by decide)⟩, qlw, q80, q81⟩ (by rw [IQ L 2 nLx]; exact thI T qL (k := 2) (i := 2) (lo := 0) (hi := 64) rfl) (fun i => by rw [IQ pw i (ne qp qx (by decide))]; exact thI T qp (k := 22) (i := i) rfl) (fun i => by rw [IQ _ i (ne q31 qx (by decide))]; exact (thI T q31 (k := 31) (i := i) (lo := 0) (hi := 6) rfl).2) (by rw [rI_o (by decide), eo, rI_s]) eu Tg SG Wg Bg i25 (by unfold SqOk; rw [IM 13 (by decide), IM 11 (by decide), IM 12 (by decide)]; exact sqo) (by rw [IL, ← I2 lw 15 nlm]; exact p15) (by rw [IQ L 2 nLx, IM 13 (by decide)]; exact sqs) LB eg
  unfold sX11_solve_55 sX11_solve_70 at ea
  replace ea := br_s ea
  rcases cp with ⟨u0, eb⟩ | ⟨u1, eb⟩
  · rcases runB with ⟨_, o0⟩ | ⟨w, _⟩
    rotate_left
    · exact absurd u0 w
    rcases ea with ⟨_, ea⟩ | ⟨w, _⟩
    · rw [s71_1 ea, eb]
    · exact absurd o0 w
  · have un : ¬ u.1 = 0 := by rw [u1]; decide
    rcases runB with ⟨w, _⟩ | ⟨_, o1⟩
    · exact absurd w un
    rcases ea with ⟨w, _⟩ | ⟨_, ea⟩
    · rw [o1] at w; exact absurd w (by decide)
    replace ea := cl_s ea; obtain ⟨x3, p, ea⟩ := ea
    rw [r_eq ex6 p] at ea
    rcases runA with ⟨w, _⟩ | ⟨_, k9⟩
    · exact absurd w un
    rw [s71_1 ea, eb, k9]
end
end
section
/-! solve: the pair, answers alike -/
theorem pr_solveE {n m F : Nat} {L : Nat × Nat} {h : Hp} (hF : 2000000 ≤ F) (I : SI n m L h) : St (fun h => sX11_solve F h n) (fun h => sX15_solve F h m) h (SI n m L) := by
  have hF7 : 700000 ≤ F := by omega
  obtain ⟨a, b, h1, h2, ea, eb, q⟩ := pr_solve hF I
  obtain ⟨ρ, c, T, r0, rm, I1, P, J, tp, tb, lr, dl, mf⟩ := I
  obtain ⟨B, M, back⟩ := j_c (b := false) (l := false) T r0 rm P J
  obtain ⟨o, eo, ρ1, c1, X, T1, I2, M2, tq⟩ := cw_solve hF7 hpC_cl (th_in (clSf false false) T) r0 I1 M
  have yo : o = (a, h1) := Option.some.inj (eo.symm.trans ea)
  have r1 : ρ1 n = 12 := by rw [(X.1 n (by rw [r0]; decide)).1]; exact r0
  obtain ⟨P2, J2, t2, m1⟩ := back o.2 ρ1 c1 X T1 r1 M2
  have f := exm_f T X T1
  rw [yo] at T1 P2 f
  have T1 : TH ρ1 c1 h1 := T1
  have P2 : RfI m h1 := P2
  obtain ⟨L2, e2, q2⟩ := thR T r0 (i := 2) (k2 := 2) rfl (by decide)
  obtain ⟨t, et, qt⟩ := thR T r0 (i := 0) (k2 := 10) rfl (by decide)
  obtain ⟨bt, ebt, qbt⟩ := thR T qt (i := 0) (k2 := 49) rfl (by decide)
  obtain ⟨x1, ex1, qx1⟩ := thR T rm (i := 0) (k2 := 82) rfl (by decide)
  obtain ⟨l4, el4, ql4⟩ := thR T rm (i := 4) (k2 := 15) rfl (by decide)
  have wL : cw c L2 = 2102 := kid_w T r0 (i := 2) (w := 2102) rfl (by decide) e2
  have B1 := lr_f T ql4 f (fun k w i z => cl_rw z)
  have LR0 := lr L2 l4 e2 el4
  have LR : LawR L2 l4 h h1 := lawr_k LR0 (fun _ => rfl) rfl (fun _ => rfl) (fun _ _ _ _ _ _ => rfl) B1.1 B1.2.1 B1.2.2.1 B1.2.2.2
  have fm : ∀ i, (i = 0 ∨ i = 4) → hR h1 m i = hR h m i := fun i hi => by
    rcases hi with rfl | rfl <;> exact (fr_RI f rm (by decide) (fun _ => rfl)).2.2
  have fi : ∀ i, (i = 1 ∨ i = 11 ∨ i = 12 ∨ i = 13) → hI h1 m i = hI h m i := fun i hi => by
    rcases hi with rfl | rfl | rfl | rfl <;> exact (fr_RI f rm (by decide) (fun _ => rfl)).1
  have sqs : (hI h L2 2).toInt = (hI h1 m 13).toInt := by
    have s1 := I1.2.2.2.2.2.2.2.2.2.2.2.2 L2 q2 wL
    have s2 : (hI h1 m 13).toInt = (hI h1 m 11).toInt * (hI h1 m 12).toInt := P2.1
    obtain ⟨g1, g2⟩ := mf l4 el4
    obtain ⟨Z, ⟨⟨z2, _⟩, ⟨z15, _⟩, _⟩, Q, _⟩ := LR0
    have k0 := Q (0, 0) (by decide)
    have k1 := Q (1, 1) (by decide)
    rw [z2, z15] at k0 k1
    have k0 : hI h L2 0 = hI h l4 0 := k0
    have k1 : hI h L2 1 = hI h l4 1 := k1
    rw [s2, fi 11 (by decide), fi 12 (by decide), g1, g2, ← k0, ← k1]
    exact s1.symm
  have ab : a = b := sol_p (a := (a, h1)) (b := (b, h2)) hF T r0 I1.1 I1.2.2.2.2.2.2.2.2.1 I1.2.2.2.2.2.2.2.2.2.1 T1 m1 P2.1 e2 (by rw [fm 4 (by decide)]; exact el4) LR sqs et ebt (by rw [fm 0 (by decide)]; exact ex1) (by rw [fi 1 (by decide)]; exact tp t et) (fun i hi => by
    rw [fi 1 (by decide)] at hi
    rw [(fr_RI f qx1 (by decide) (fun _ => rfl)).1]
    exact tb t bt x1 et ebt ex1 i hi) ea eb
  exact ⟨a, h1, h2, ea, by rw [ab]; exact eb, q⟩
end
section
/-! positions: both readers at one place of one text -/
/-- addresses by roles, as Z of the laws: V serves both -/
abbrev vcr : List Nat := [2, 10, 49, 27, 28, 29, 30, 31]
abbrev vrr : List Nat := [15, 82, 73, 74, 75, 76, 77, 78, 79, 80, 81]
abbrev vql : List Nat := [2, 10, 49, 27, 28, 29, 30, 31, 15, 82, 73, 74, 75, 76, 77, 78, 79, 80, 81, 4, 7, 34, 35, 36, 37, 38, 13, 16, 62, 63, 64, 65, 6, 11, 14, 32, 33, 47, 50, 51, 52, 53, 54, 55, 56, 66, 67, 68, 69, 70, 71, 72, 86, 87, 88, 204, 234, 235, 236, 237, 238, 213, 262, 263, 264, 265, 222, 247, 300, 301, 302, 303, 304, 305, 306, 307, 308, 309, 310, 311, 312, 313, 314, 315, 316, 317, 318, 319, 320, 321, 322, 323, 324, 325, 326, 327, 328, 329, 330, 331, 332, 333, 334, 335, 336, 337, 338, 339]
def VD (V : Nat → Nat) : Prop := ∀ a, a ∈ vql → ∀ b, b ∈ vql → ¬ a = b → ¬ V a = V b
theorem vne {V : Nat → Nat} (D : VD V) {a b : Nat} (n : ¬ a = b := by decide) (ha : a ∈ vql := by decide) (hb : b ∈ vql := by decide) : ¬ V a = V b := D a ha b hb n
def VC (V : Nat → Nat) (h : Hp) : Prop := hR h (V 7) 0 = some (V 2) ∧ hR h (V 7) 1 = some (V 10) ∧ hR h (V 10) 0 = some (V 49)
def VRf (V : Nat → Nat) (h : Hp) : Prop := hR h (V 16) 17 = some (V 82) ∧ hR h (V 16) 4 = some (V 15)
def TxV (V : Nat → Nat) (N : Int32) (hc hr : Hp) : Prop := hI hc (V 10) 1 = N ∧ hI hr (V 16) 18 = N ∧ Rg 0 1200 N ∧ (∀ i, Rg 0 255 (hI hc (V 49) i)) ∧ ∀ i : Nat, (i : Int) < N.toInt → (hI hr (V 82) i).toInt = sg (hI hc (V 49) i).toInt
def AtV (V : Nat → Nat) (N : Int32) (hc hr : Hp) : Prop := hI hc (V 7) 2 = hI hr (V 16) 19 ∧ 0 ≤ (hI hc (V 7) 2).toInt ∧ (hI hc (V 7) 2).toInt ≤ N.toInt
def GeV (V : Nat → Nat) (hc hr : Hp) : Prop := hI hc (V 2) 0 = hI hr (V 16) 11 ∧ hI hc (V 2) 1 = hI hr (V 16) 12 ∧ Rg 3 8 (hI hc (V 2) 0) ∧ Rg 3 8 (hI hc (V 2) 1)
def RdV (V : Nat → Nat) (N : Int32) (hc hr : Hp) : Prop := VC V hc ∧ VRf V hr ∧ TxV V N hc hr ∧ AtV V N hc hr ∧ GeV V hc hr ∧ ZA V (V 2) (V 15) hc hr ∧ LwQ V hc hr
section
variable {F : Nat} {V : Nat → Nat} {N : Int32} {hc hr oc or : Hp} {o o' : Int32 × Hp}
theorem rdv_k (S : RdV V N hc hr) (cR : ∀ a i, hR oc a i = hR hc a i) (c : ∀ k, k ∈ vcr → ∀ i, hI oc (V k) i = hI hc (V k) i) (cJ : hJ oc (V 2) 13 = hJ hc (V 2) 13) (rR : ∀ a i, hR or a i = hR hr a i) (r : ∀ k, k ∈ vrr → ∀ i, hI or (V k) i = hI hr (V k) i) (rJ : hJ or (V 15) 21 = hJ hr (V 15) 21) (r16 : ∀ i, i = 11 ∨ i = 12 ∨ i = 18 → hI or (V 16) i = hI hr (V 16) i) (at' : AtV V N oc or) : RdV V N oc or := by
  obtain ⟨⟨a1, a2, a3⟩, ⟨b1, b2⟩, ⟨t1, t2, t3, t4, t5⟩, _, ⟨g1, g2, g3, g4⟩, ⟨⟨u1, u2, u3, u4, u5, u6⟩, ⟨v1, v2, v3, v4, v5, v6, v7, v8, v9, v10⟩, w⟩, Q⟩ := S
  have c2 := c 2 (by decide)
  have c10 := c 10 (by decide)
  have c49 := c 49 (by decide)
  have r82 := r 82 (by decide)
  refine ⟨⟨by rw [cR]; exact a1, by rw [cR]; exact a2, by rw [cR]; exact a3⟩, ⟨by rw [rR]; exact b1, by rw [rR]; exact b2⟩, ⟨by rw [c10]; exact t1, by rw [r16 18 (by decide)]; exact t2, t3, fun i => by rw [c49]; exact t4 i, fun i hi => by rw [r82, c49]; exact t5 i hi⟩, at', ⟨by rw [c2, r16 11 (by decide)]; exact g1, by rw [c2, r16 12 (by decide)]; exact g2, by rw [c2]; exact g3, by rw [c2]; exact g4⟩, ⟨⟨u1, by rw [cR]; exact u2, by rw [cR]; exact u3, by rw [cR]; exact u4, by rw [cR]; exact u5, by rw [cR]; exact u6⟩, ⟨v1, by rw [rR]; exact v2, by rw [rR]; exact v3, by rw [rR]; exact v4, by rw [rR]; exact v5, by rw [rR]; exact v6, by rw [rR]; exact v7, by rw [rR]; exact v8, by rw [rR]; exact v9, by rw [rR]; exact v10⟩, w⟩, lwq_k Q c2 cJ (fun k hk => c k (by
    have : ∀ k, k ∈ lc5 → k ∈ vcr := by decide
    exact this k hk)) (r 15 (by decide)) rJ (fun k hk => r k (by
    have : ∀ k, k ∈ lr9 → k ∈ vrr := by decide
    exact this k hk))⟩
/-- the byte at the place -/
theorem by_p (S : RdV V N hc hr) (e : sX9_byteAt hc (V 10) (hI hc (V 7) 2) = some o) (e' : sX15_look hr (V 16) = some o') : o.2 = hc ∧ o'.2 = hr ∧ ((o.1 = (-1 : Int32) ∧ o'.1 = (-1 : Int32) ∧ hI hc (V 7) 2 = N) ∨ ((hI hc (V 7) 2).toInt < N.toInt ∧ Rg 0 255 o.1 ∧ o'.1.toInt = sg o.1.toInt)) := by
  have z0 : (0 : Int32).toInt = 0 := rfl
  obtain ⟨⟨a1, a2, a3⟩, ⟨b1, b2⟩, ⟨t1, t2, t3, t4, t5⟩, ⟨p1, p2, p3⟩, _⟩ := S
  unfold sX9_byteAt sX9_byteAt_21 sX9_byteAt_22 at e
  unfold sX15_look sX15_look_24 at e'
  replace e := br_s e
  rcases e with ⟨l, _⟩ | ⟨_, e⟩
  · have l := lt_i l
    rw [z0] at l
    omega
  rw [t1] at e
  rw [t2, ← p1] at e'
  replace e := br_s e
  replace e' := br_s e'
  rcases e with ⟨l, e⟩ | ⟨l, e⟩
  · rcases e' with ⟨_, e'⟩ | ⟨l', _⟩
    rotate_left
    · exact absurd l l'
    have l := le_i l
    rw [← Option.some.inj e, ← Option.some.inj e']
    exact ⟨rfl, rfl, Or.inl ⟨rfl, rfl, Int32.toInt_inj.mp (by omega)⟩⟩
  rcases e' with ⟨l', _⟩ | ⟨_, e'⟩
  · exact absurd l' l
  have l := nle_i l
  replace e := cl_s e; obtain ⟨r, p, e⟩ := e
  rw [r_eq a3 p] at e
  replace e := (gd_s e).2
  replace e' := cl_s e'; obtain ⟨r', p', e'⟩ := e'
  rw [r_eq b1 p'] at e'
  replace e' := (gd_s e').2
  have nc := nc_i p2
  rw [← Option.some.inj e, ← Option.some.inj e']
  exact ⟨rfl, rfl, Or.inr ⟨l, t4 _, t5 _ (by omega)⟩⟩
/-- a byte below 128 is there for both, or for none -/
theorem by_k {x y k : Int32} {P : Prop} (H : (x = (-1 : Int32) ∧ y = (-1 : Int32) ∧ P) ∨ (hI hc (V 7) 2).toInt < N.toInt ∧ Rg 0 255 x ∧ y.toInt = sg x.toInt) (ik : Rg 0 127 k) : x = k ↔ y = k := by
  have k0 := ik.1
  have k1 := ik.2
  have zm : (-1 : Int32).toInt = -1 := by decide
  rcases H with ⟨h1, h2, _⟩ | ⟨_, h2, h3⟩
  · rw [h1, h2]
  · rw [← Int32.toInt_inj, ← Int32.toInt_inj, h3]
    exact (sg_e ⟨h2.1, h2.2⟩ ⟨k0, by omega⟩).symm
/-- on both sides one place further -/
theorem at_1 (D : VD V) (S : RdV V N hc hr) (l : (hI hc (V 7) 2).toInt < N.toInt) : RdV V N (wI hc (V 7) 2 ((hI hc (V 7) 2) + (1 : Int32))) (wI hr (V 16) 19 ((hI hr (V 16) 19) + (1 : Int32))) := by
  have z1 : (1 : Int32).toInt = 1 := rfl
  obtain ⟨p1, p2, p3⟩ := S.2.2.2.1
  have n12 := S.2.2.1.2.2.1.2
  refine rdv_k S (fun _ _ => rfl) (fun k hk i => rI_a ?_) rfl (fun _ _ => rfl) (fun k hk i => rI_a ?_) rfl (fun i hi => rI_o (by omega)) ⟨?_, ?_, ?_⟩
  · have : ∀ k, k ∈ vcr → k ∈ vql ∧ ¬ k = 7 := by decide
    exact vne D (this k hk).2 (this k hk).1
  · have : ∀ k, k ∈ vrr → k ∈ vql ∧ ¬ k = 16 := by decide
    exact vne D (this k hk).2 (this k hk).1
  · rw [rI_s, rI_s, p1]
  · rw [rI_s, ta (by rw [z1]; omega), z1]; omega
  · rw [rI_s, ta (by rw [z1]; omega), z1]; omega
/-- one byte that is wanted -/
theorem tk_p {b : Int32} (D : VD V) (S : RdV V N hc hr) (ib : Rg 0 127 b) (e : sX7_takeByte hc (V 7) b = some o) (e' : sX15_reads hr (V 16) b = some o') : (o = ((0 : Int32), hc) ∧ o' = ((0 : Int32), hr)) ∨ (o = ((1 : Int32), wI hc (V 7) 2 ((hI hc (V 7) 2) + (1 : Int32))) ∧ o' = ((1 : Int32), wI hr (V 16) 19 ((hI hr (V 16) 19) + (1 : Int32))) ∧ RdV V N o.2 o'.2) := by
  unfold sX7_takeByte at e
  unfold sX15_reads at e'
  replace e := cl_s e; obtain ⟨r1, p, e⟩ := e
  rw [r_eq S.1.2.1 p] at e
  replace e := cl_s e; obtain ⟨o2, eo2, e⟩ := e
  replace e' := cl_s e'; obtain ⟨o1, eo1, e'⟩ := e'
  obtain ⟨w2, w1, H⟩ := by_p S eo2 eo1
  rw [w2] at e
  rw [w1] at e'
  have K := by_k (k := b) H ib
  replace e := br_s e
  replace e' := br_s e'
  rcases e with ⟨q, e⟩ | ⟨q, e⟩
  · rcases e' with ⟨_, e'⟩ | ⟨q', _⟩
    rotate_left
    · exact absurd (K.mp q) q'
    have l : (hI hc (V 7) 2).toInt < N.toInt := by
      rcases H with ⟨h1, _⟩ | ⟨l, _⟩
      · have := ib.1
        rw [← q, h1] at this
        exact absurd this (by decide)
      · exact l
    have y := Option.some.inj e
    have y' := Option.some.inj e'
    refine Or.inr ⟨y.symm, y'.symm, ?_⟩
    rw [← y, ← y']
    exact at_1 D S l
  · rcases e' with ⟨q', _⟩ | ⟨_, e'⟩
    · exact absurd (K.mpr q') q
    exact Or.inl ⟨(Option.some.inj e).symm, (Option.some.inj e').symm⟩
end
end
