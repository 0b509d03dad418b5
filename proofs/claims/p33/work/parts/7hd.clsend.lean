/-! the class: run by its equation, powers, the sorting of SETS -/
section
variable {ρ : Nat → Nat} {c : Cm} {h o : Hp} {x0 b wy ks st pw ro L F : Nat} {sq : Int}
theorem runE_q (hF : 700000 ≤ F) (hA : pmA c RUL) (hO : pmO c 1003 BOL) (T : TH ρ c h) (r0 : ρ x0 = 1) (e0 : hR h x0 0 = some L) (e1 : hR h x0 1 = some wy) (ky : KyX (hI h x0 14)) (E : EvP x0 h) (N : LnI x0 h) (lw : LwR ρ c h) (Fm : FmX wy (hI h L 2).toInt h) : Sat (sX0_run F h x0) (fun o => ∃ o2, sX0_gatherSets F (wI h x0 10 (0 : Int32)) x0 = some o2 ∧ ((o2.1 = 0 ∧ o.1 = 0) ∨ (¬ o2.1 = 0 ∧ hI o.2 x0 9 = hI o2.2 x0 9))) := by
  have rL : ρ L = 2 := rr T (thR T r0 (i := 0) (k2 := 2) rfl (by decide)) e0
  have qw : ρ wy = 11 := rr T (thR T r0 (i := 1) (k2 := 11) rfl (by decide)) e1
  obtain ⟨b, e3, qb⟩ := thR T r0 (i := 3) (k2 := 4) rfl (by decide)
  obtain ⟨ks, e4, qk⟩ := thR T r0 (i := 4) (k2 := 20) rfl (by decide)
  obtain ⟨st, e5, qs⟩ := thR T r0 (i := 5) (k2 := 21) rfl (by decide)
  obtain ⟨pw, e6, qp⟩ := thR T r0 (i := 6) (k2 := 22) rfl (by decide)
  obtain ⟨ro, e7, qo⟩ := thR T r0 (i := 7) (k2 := 23) rfl (by decide)
  unfold sX0_run
  refine s_hq (th_wI T r0 (k := 1) (i := 10) (lo := 0) (hi := 1) rfl (rg_m (rg_b rfl : Rg 0 0 (0 : Int32)) (by decide)) (by decide) (by decide) (pm_a hA rfl)) (fun h1 T1 w1 => ?_)
  have K1 : Kf ρ [(1, 10)] h h1 := kf_wI w1 r0
  have E1 : EvP x0 h1 := evp_k T r0 K1 (P := E)
  have hL1 : hI h1 L 2 = hI h L 2 := kfI 2 K1 rL
  have ln1 : LnI x0 h1 := fun a ea => by
    rw [kfR 11 K1 r0] at ea
    have hn : ∀ q, hN h1 q = hN h q := fun q => by rw [w1]; rfl
    rw [hn]
    refine (N a ea).imp id (fun P i q hi eq => ?_)
    rw [hn]
    refine P i q hi ?_
    rw [w1] at eq
    exact eq
  refine s_dd (gatherC_q (c := cat c (fS GSL []) h1) (ks := ks) (st := st) (pw := pw) (L := L) hF fs_a (th_in _ T1) r0 (by rw [kfR 0 K1 r0]; exact e0) (by rw [kfR 4 K1 r0]; exact e4) (by rw [kfR 5 K1 r0]; exact e5) (by rw [kfR 6 K1 r0]; exact e6) (by rw [kfI 14 K1 r0]; exact ky) E1) (fun o2 eo2 ⟨T2', i2, S2, P2, E2, K2⟩ => ?_)
  have T2 := th_out T1 (fs_sub (pmA_s hA rfl) fs_n) T2'
  have f2 := fr_u T1 T2'.2.2
  have K12 : Kf ρ RBL h o2.2 := kf_t (kf_m K1 rfl) (kf_m K2 rfl)
  have ln2 : LnI x0 o2.2 := fun a ea => by
    rw [kfR 11 K2 r0] at ea
    have ra := rr T1 (thR T1 r0 (i := 11) (k2 := 24) rfl (by decide)) ea
    rw [f2.2 a (by rw [ra]; decide)]
    exact (ln1 a ea).imp id (fun P => len_fr T1 r0 f2 (fun _ => rfl) (fun _ => rfl) (fun _ => rfl) P)
  unfold sX0_run_9
  refine s_br (fun zz => s_some ⟨o2, by rw [← w1]; exact eo2, Or.inl ⟨zz, rfl⟩⟩) (fun ne => ?_)
  obtain ⟨S2, t0, t1⟩ := S2 ne
  refine s_mV (S := fS MRL []) T2 (fs_sub (pmA_s hA rfl) fs_n) (makeRoom_q fs_a (th_in _ T2) r0 ln2) (fun o3 ρ1 c1 X T3 f3 ⟨Ln3, K3⟩ => ?_)
  have r0' := ex_r X r0 (by decide)
  have sq64 := (thI T rL (k := 2) (i := 2) (lo := 0) (hi := 64) rfl).2
  have hL2 : hI o2.2 L 2 = hI h L 2 := by rw [kfI 2 K2 rL]; exact hL1
  have rf : ∀ i r, hR h x0 i = some r → mS GSL 1 i = false → mS MRL 1 i = false → mS [(1, 10)] 1 i = false → hR o3 x0 i = some r := fun i r e y1 y2 y3 => by
    rw [kfR i K3 r0 (by decide) y2, kfR i K2 r0 (by decide) y1, kfR i K1 r0 (by decide) y3]
    exact e
  have W3 : EnW x0 b wy ks st pw ro L (hI h L 2).toInt o3 := by
    refine ⟨⟨rf 0 _ e0 rfl rfl rfl, rf 1 _ e1 rfl rfl rfl, rf 3 _ e3 rfl rfl rfl, rf 4 _ e4 rfl rfl rfl, rf 5 _ e5 rfl rfl rfl, rf 6 _ e6 rfl rfl rfl, rf 7 _ e7 rfl rfl rfl⟩, fun i hi => ?_, stp_k T2 r0 qk qp qs K3 (P := S2), fmx_k T2 qw K3 (P := fmx_k T1 qw K2 (P := fmx_k T qw K1 (P := Fm))), Ln3, by rw [kfI 2 K3 rL, hL2], sq64, evp_k T2 r0 K3 (P := E2)⟩
    rw [kfI i K3 qp, P2 i hi, hL1]
  have lw3 : LwR ρ1 c1 o3 := lw_x2 rL (kid_w T r0 (i := 0) (w := 2102) rfl (by decide) e0) X T3 (lw_k (kf_t K12 (kf_m K3 rfl)) (P := lw))
  refine s_imp (run18_q hF (ex_A X hA) (ex_O X hO) T3 r0' W3 lw3 (by rw [kfJ 18 K3 r0]; exact t0) (by rw [kfJ 18 K3 r0]; exact t1)) (fun o4 ⟨T4, i4, W4, K4⟩ => ?_)
  exact ⟨o2, by rw [← w1]; exact eo2, Or.inr ⟨ne, by rw [kfI 9 K4 r0', kfI 9 K3 r0]⟩⟩
end
section
variable {F x ks st pw L : Nat} {h : Hp} {u o : Int32 × Hp}
/-- a run that is not out of room answers 1 -/
theorem r133_1 : ∀ (f : Nat) {h : Hp} {x1 : Int32}, sX0_run_133 F f h x x1 = some o → o.1 = 1 := by
  intro f
  induction f with
  | zero => intro h x1 e; exact absurd e (by rw [sX0_run_133]; exact fun z => nomatch z)
  | succ f ih =>
    intro h x1 e
    rw [sX0_run_133] at e
    unfold sX0_run_168 at e
    replace e := br_s e
    rcases e with ⟨_, e⟩ | ⟨_, e⟩
    · replace e := nm_s e
      obtain ⟨_, _, e⟩ := e
      rw [← Option.some.inj e]
    · replace e := cl_s e; obtain ⟨_, _, e⟩ := e
      replace e := cl_s e; obtain ⟨_, _, e⟩ := e
      replace e := (gd_s e).2
      replace e := br_s e
      rcases e with ⟨_, e⟩ | ⟨_, e⟩
      · replace e := (gd_s e).2
        replace e := nm_s e; obtain ⟨_, _, e⟩ := e
        replace e := nm_s e; obtain ⟨_, _, e⟩ := e
        exact ih e
      · replace e := cl_s e; obtain ⟨_, _, e⟩ := e
        replace e := (gd_s e).2
        replace e := (gd_s e).2
        replace e := nm_s e; obtain ⟨_, _, e⟩ := e
        replace e := nm_s e; obtain ⟨_, _, e⟩ := e
        exact ih e
theorem r51_1 : ∀ (f : Nat) {h : Hp} {x1 : Int32}, sX0_run_51 F f h x x1 = some o → o.1 = 1 := by
  intro f
  induction f with
  | zero => intro h x1 e; exact absurd e (by rw [sX0_run_51]; exact fun z => nomatch z)
  | succ f ih =>
    intro h x1 e
    rw [sX0_run_51] at e
    unfold sX0_run_131 sX0_run_77 sX0_run_108 sX0_run_125 at e
    replace e := br_s e
    rcases e with ⟨_, e⟩ | ⟨_, e⟩
    · exact r133_1 F e
    replace e := br_s e
    rcases e with ⟨_, e⟩ | ⟨_, e⟩
    · exact r133_1 F e
    replace e := cl_s e; obtain ⟨_, _, e⟩ := e
    replace e := (gd_s e).2
    replace e := nm_s e; obtain ⟨_, _, e⟩ := e
    replace e := cl_s e; obtain ⟨_, _, e⟩ := e
    replace e := cl_s e; obtain ⟨_, _, e⟩ := e
    replace e := (gd_s e).2
    replace e := nm_s e; obtain ⟨_, _, e⟩ := e
    replace e := cl_s e; obtain ⟨_, _, e⟩ := e
    replace e := (gd_s e).2
    replace e := cl_s e; obtain ⟨_, _, e⟩ := e
    replace e := (gd_s e).2
    replace e := cl_s e; obtain ⟨_, _, e⟩ := e
    replace e := br_s e
    rcases e with ⟨_, e⟩ | ⟨_, e⟩
    · replace e := nm_s e; obtain ⟨_, _, e⟩ := e
      exact ih e
    · replace e := cl_s e; obtain ⟨_, _, e⟩ := e
      replace e := (gd_s e).2
      replace e := cl_s e; obtain ⟨_, _, e⟩ := e
      replace e := nm_s e; obtain ⟨_, _, e⟩ := e
      exact ih e
theorem run_1 (e : sX0_run F h x = some o) : ∃ o2, sX0_gatherSets F (wI h x 10 (0 : Int32)) x = some o2 ∧ ((o2.1 = 0 ∧ o.1 = 0) ∨ (¬ o2.1 = 0 ∧ o.1 = 1)) := by
  unfold sX0_run sX0_run_9 sX0_run_18 sX0_run_35 sX0_run_45 sX0_run_49 at e
  replace e := nm_s e; obtain ⟨h1, w1, e⟩ := e
  replace e := cl_s e; obtain ⟨o2, eo2, e⟩ := e
  refine ⟨o2, by rw [← w1]; exact eo2, ?_⟩
  replace e := br_s e
  rcases e with ⟨z, e⟩ | ⟨z, e⟩
  · exact Or.inl ⟨z, by rw [← Option.some.inj e]⟩
  refine Or.inr ⟨z, ?_⟩
  replace e := cl_s e; obtain ⟨_, _, e⟩ := e
  replace e := nm_s e; obtain ⟨_, _, e⟩ := e
  replace e := nm_s e; obtain ⟨_, _, e⟩ := e
  replace e := cl_s e; obtain ⟨_, _, e⟩ := e
  replace e := nm_s e; obtain ⟨_, _, e⟩ := e
  replace e := cl_s e; obtain ⟨_, _, e⟩ := e
  replace e := cl_s e; obtain ⟨_, _, e⟩ := e
  exact r51_1 F e
/-- SETS sorted: their number stays -/
theorem s77_9 (ns : ¬ x = st) : ∀ (f : Nat) {h o : Hp} {x1 : Int32}, hR h x 5 = some st → sX0_sortSets_77 F f h x x1 = some o → hI o x 9 = hI h x 9 := by
  intro f
  induction f with
  | zero => intro h o x1 _ e; exact absurd e (by rw [sX0_sortSets_77]; exact fun z => nomatch z)
  | succ f ih =>
    intro h o x1 e5 e
    rw [sX0_sortSets_77] at e
    replace e := br_s e
    rcases e with ⟨_, e⟩ | ⟨_, e⟩
    · rw [← Option.some.inj e]
    replace e := cl_s e; obtain ⟨r2, p, e⟩ := e
    rw [r_eq e5 p] at e
    replace e := cl_s e; obtain ⟨_, _, e⟩ := e
    replace e := (gd_s e).2
    replace e := cl_s e; obtain ⟨_, _, e⟩ := e
    replace e := cl_s e; obtain ⟨_, _, e⟩ := e
    replace e := (gd_s e).2
    replace e := cl_s e; obtain ⟨o8, eo8, e⟩ := e
    have w8 : o8.2 = h := by
      unfold sX0_sizeOf at eo8
      exact (sizeOf_h F (by decide) (by decide) eo8).1
    rw [w8] at e
    replace e := (gd_s e).2
    replace e := (gd_s e).2
    replace e := nm_s e; obtain ⟨h11, w11, e⟩ := e
    replace e := nm_s e; obtain ⟨_, _, e⟩ := e
    rw [ih (by rw [w11]; exact e5) e, w11, rI_a ns]
theorem s19_9 (nk : ¬ x = ks) {k2 : Hp → Nat → Int32 → Option Hp} {o : Hp} {x1 x2 : Int32} (K : ∀ {h : Hp} {y : Int32}, hR h x 4 = some ks → hR h x 5 = some st → k2 h x y = some o → hI o x 9 = hI h x 9) : ∀ (f : Nat) {h : Hp} {x3 : Int32}, hR h x 4 = some ks → hR h x 5 = some st → sX0_sortSets_19 F k2 f h x x1 x2 x3 = some o → hI o x 9 = hI h x 9 := by
  have s55 : ∀ {h : Hp} {x3 : Int32}, hR h x 4 = some ks → hR h x 5 = some st → sX0_sortSets_55 F k2 h x x1 x2 x3 = some o → hI o x 9 = hI h x 9 := fun {h x3} e4 e5 e => by
    unfold sX0_sortSets_55 at e
    replace e := cl_s e; obtain ⟨r, p, e⟩ := e
    rw [r_eq e4 p] at e
    replace e := (gd_s e).2
    replace e := nm_s e; obtain ⟨h3, w3, e⟩ := e
    replace e := nm_s e; obtain ⟨_, _, e⟩ := e
    rw [K (by rw [w3]; exact e4) (by rw [w3]; exact e5) e, w3, rI_a nk]
  intro f
  induction f with
  | zero => intro h x3 _ _ e; exact absurd e (by rw [sX0_sortSets_19]; exact fun z => nomatch z)
  | succ f ih =>
    intro h x3 e4 e5 e
    rw [sX0_sortSets_19] at e
    replace e := br_s e
    rcases e with ⟨_, e⟩ | ⟨_, e⟩
    · exact s55 e4 e5 e
    replace e := cl_s e; obtain ⟨_, _, e⟩ := e
    replace e := (gd_s e).2
    replace e := br_s e
    rcases e with ⟨_, e⟩ | ⟨_, e⟩
    · exact s55 e4 e5 e
    replace e := cl_s e; obtain ⟨r5, p, e⟩ := e
    rw [r_eq e4 p] at e
    replace e := cl_s e; obtain ⟨_, _, e⟩ := e
    replace e := (gd_s e).2
    replace e := (gd_s e).2
    replace e := nm_s e; obtain ⟨h9, w9, e⟩ := e
    replace e := nm_s e; obtain ⟨_, _, e⟩ := e
    rw [ih (by rw [w9]; exact e4) (by rw [w9]; exact e5) e, w9, rI_a nk]
theorem sort_9 (nk : ¬ x = ks) (ns : ¬ x = st) {o : Hp} (e4 : hR h x 4 = some ks) (e5 : hR h x 5 = some st) (e : sX0_sortSets F h x = some o) : hI o x 9 = hI h x 9 := by
  unfold sX0_sortSets at e
  have l2 : ∀ (f : Nat) {h : Hp} {x1 : Int32}, hR h x 4 = some ks → hR h x 5 = some st → sX0_sortSets_2 F f h x x1 = some o → hI o x 9 = hI h x 9 := by
    intro f
    induction f with
    | zero => intro h x1 _ _ e; exact absurd e (by rw [sX0_sortSets_2]; exact fun z => nomatch z)
    | succ f ih =>
      intro h x1 e4 e5 e
      rw [sX0_sortSets_2] at e
      replace e := br_s e
      rcases e with ⟨_, e⟩ | ⟨_, e⟩
      · replace e := cl_s e; obtain ⟨r, p, e⟩ := e
        rw [r_eq e5 p] at e
        replace e := (gd_s e).2
        replace e := nm_s e; obtain ⟨h4, w4, e⟩ := e
        rw [s77_9 ns F (by rw [w4]; exact e5) e, w4, rI_a ns]
      · replace e := cl_s e; obtain ⟨_, _, e⟩ := e
        replace e := (gd_s e).2
        replace e := nm_s e; obtain ⟨_, _, e⟩ := e
        exact s19_9 (st := st) nk (fun {q y} a b w => ih a b w) F e4 e5 e
  exact l2 F e4 e5 e
/-- with too great a total there is no room -/
theorem big_104 (b : 600000 < (hJ h x 18).toInt) (e : sX0_gatherSets_104 F h x = some u) : u.1 = 0 := by
  have z6 : (600000 : Int64).toInt = 600000 := rfl
  unfold sX0_gatherSets_104 at e
  replace e := br_s e
  rcases e with ⟨q, _⟩ | ⟨_, e⟩
  · have q := cmp_le (a := hJ h x 18) (b := (600000 : Int64)) (fun w => by
      have a := lt_i w
      have b := le_i q
      omega)
    rw [z6] at q
    omega
  · rw [← Option.some.inj e]
theorem big_62 (b : 600000 < (hJ h x 18).toInt) {x1 : Int32} : ∀ (f : Nat), sX0_gatherSets_62 F f h x x1 = some u → u.1 = 0 := fun f e => by
  have z6 : (600000 : Int64).toInt = 600000 := rfl
  cases f with
  | zero => exact absurd e (by rw [sX0_gatherSets_62]; exact fun z => nomatch z)
  | succ f =>
    rw [sX0_gatherSets_62] at e
    replace e := br_s e
    rcases e with ⟨_, e⟩ | ⟨_, e⟩
    · exact big_104 b e
    replace e := br_s e
    rcases e with ⟨_, e⟩ | ⟨_, e⟩
    · exact big_104 b e
    replace e := br_s e
    rcases e with ⟨_, e⟩ | ⟨d, _⟩
    · exact big_104 b e
    · have d := cmp_le d
      rw [z6] at d
      omega
/-- with a total that is small enough the number of SETS stays -/
theorem low_104 (nk : ¬ x = ks) (ns : ¬ x = st) (e4 : hR h x 4 = some ks) (e5 : hR h x 5 = some st) (b : (hJ h x 18).toInt ≤ 600000) (e : sX0_gatherSets_104 F h x = some u) : u.1 = 1 ∧ hI u.2 x 9 = hI h x 9 := by
  have z6 : (600000 : Int64).toInt = 600000 := rfl
  have z0 : (0 : Int32).toInt = 0 := rfl
  unfold sX0_gatherSets_104 at e
  replace e := br_s e
  rcases e with ⟨_, e⟩ | ⟨q, _⟩
  · replace e := cl_s e; obtain ⟨o2, eo2, e⟩ := e
    rw [← Option.some.inj e]
    exact ⟨rfl, sort_9 nk ns e4 e5 eo2⟩
  · have q := nle_i q
    have := cmp_gt (a := hJ h x 18) (b := (600000 : Int64)) (ii_lt.mpr q)
    rw [z6] at this
    omega
/-- the powers, then the SET that is asked for -/
theorem gat_e (s0 : 0 ≤ (hI h L 2).toInt) (s64 : (hI h L 2).toInt ≤ 64) (e0 : hR h x 0 = some L) (e6 : hR h x 6 = some pw) (nL : ¬ L = pw) (e : sX0_gatherSets F h x = some u) : ∃ g, (∀ a i, hR g a i = hR h a i) ∧ (∀ a i, hJ g a i = hJ h a i) ∧ (∀ a i, ¬ a = pw → hI g a i = hI h a i) ∧ (∀ i : Nat, i ≤ 5 → (hI g pw i).toInt = (hI h L 2).toInt ^ i) ∧ (∀ i : Nat, 5 < i → hI g pw i = hI h pw i) ∧ (nm (wI g x 9 (0 : Int32)) fun h_2 => nm (wJ h_2 x 18 (0 : Int64)) fun h_3 => cl (sX0_addSet F h_3 x (hI h_3 x 14)) fun o_4 => sX0_gatherSets_62 F F o_4 x (0 : Int32)) = some u := by
  have z1 : (1 : Int32).toInt = 1 := rfl
  have z5 : (5 : Int32).toInt = 5 := rfl
  unfold sX0_gatherSets at e
  replace e := cl_s e; obtain ⟨r, p, e⟩ := e
  rw [r_eq e6 p] at e
  replace e := (gd_s e).2
  replace e := nm_s e; obtain ⟨h3, w3, e⟩ := e
  have l9 : ∀ (f : Nat) {g : Hp} {x1 : Int32}, (∀ a i, hR g a i = hR h a i) → (∀ a i, hJ g a i = hJ h a i) → (∀ a i, ¬ a = pw → hI g a i = hI h a i) → 1 ≤ x1.toInt → x1.toInt ≤ 6 → (∀ i : Nat, (i : Int) < x1.toInt → (hI g pw i).toInt = (hI h L 2).toInt ^ i) → (∀ i : Nat, 5 < i → hI g pw i = hI h pw i) → sX0_gatherSets_9 F f g x x1 = some u → ∃ g, (∀ a i, hR g a i = hR h a i) ∧ (∀ a i, hJ g a i = hJ h a i) ∧ (∀ a i, ¬ a = pw → hI g a i = hI h a i) ∧ (∀ i : Nat, i ≤ 5 → (hI g pw i).toInt = (hI h L 2).toInt ^ i) ∧ (∀ i : Nat, 5 < i → hI g pw i = hI h pw i) ∧ (nm (wI g x 9 (0 : Int32)) fun h_2 => nm (wJ h_2 x 18 (0 : Int64)) fun h_3 => cl (sX0_addSet F h_3 x (hI h_3 x 14)) fun o_4 => sX0_gatherSets_62 F F o_4 x (0 : Int32)) = some u := by
    intro f
    induction f with
    | zero => intro g x1 _ _ _ _ _ _ _ e; exact absurd e (by rw [sX0_gatherSets_9]; exact fun z => nomatch z)
    | succ f ih =>
      intro g x1 R J I a1 b1 P P6 e
      rw [sX0_gatherSets_9] at e
      replace e := br_s e
      rcases e with ⟨l, e⟩ | ⟨l, e⟩
      · have l := lt_i l
        rw [z5] at l
        exact ⟨g, R, J, I, fun i hi => P i (by omega), P6, e⟩
      have l := nlt_i l
      rw [z5] at l
      replace e := cl_s e; obtain ⟨r5, p, e⟩ := e
      rw [r_eq (by rw [R]; exact e6) p] at e
      replace e := cl_s e; obtain ⟨r6, p, e⟩ := e
      rw [r_eq (by rw [R]; exact e6) p] at e
      replace e := (gd_s e).2
      replace e := cl_s e; obtain ⟨r8, p, e⟩ := e
      rw [r_eq (by rw [R]; exact e0) p] at e
      replace e := (gd_s e).2
      replace e := nm_s e; obtain ⟨h10, w10, e⟩ := e
      replace e := nm_s e; obtain ⟨v11, w11, e⟩ := e
      have c1 := nc_i (x := x1) (by omega)
      have dd : (x1 - (1 : Int32)).toInt = x1.toInt - 1 := by rw [ts (by rw [z1]; omega), z1]
      have cd := nc_i (x := x1 - (1 : Int32)) (by omega)
      have pv := P (x1 - (1 : Int32)).toNatClampNeg (by omega)
      have en : x1.toNatClampNeg = (x1 - (1 : Int32)).toNatClampNeg + 1 := by omega
      have pw5 := pow_sq (s := (hI h L 2).toInt) s0 s64 x1.toNatClampNeg (by omega)
      have ev : ((hI g pw (x1 - (1 : Int32)).toNatClampNeg) * (hI g L 2)).toInt = (hI h L 2).toInt ^ x1.toNatClampNeg := by
        have e : (hI g pw (x1 - (1 : Int32)).toNatClampNeg).toInt * (hI g L 2).toInt = (hI h L 2).toInt ^ x1.toNatClampNeg := by rw [pv, I L 2 nL, en, Int.pow_succ]
        rw [tm (by rw [e]; omega), e]
      have tx : v11.toInt = x1.toInt + 1 := by rw [w11, ta (by rw [z1]; omega), z1]
      refine ih (g := h10) (fun a i => by rw [w10]; exact R a i) (fun a i => by rw [w10]; exact J a i) (fun a i n => by rw [w10, rI_a n]; exact I a i n) (by omega) (by omega) (fun i hi => ?_) (fun i hi => by rw [w10, rI_o (by omega)]; exact P6 i hi) e
      rw [w10]
      by_cases z : i = x1.toNatClampNeg
      · rw [z, rI_s, ev]
      · rw [rI_o z]; exact P i (by omega)
  refine l9 F (g := h3) (fun a i => by rw [w3]; rfl) (fun a i => by rw [w3]; rfl) (fun a i n => by rw [w3, rI_a n]) (by decide) (by decide) (fun i hi => ?_) (fun i hi => by
    rw [w3]
    show hI (wI h pw 0 (1 : Int32)) pw i = _
    exact rI_o (by omega)) e
  have i0 : i = 0 := by
    rw [z1] at hi
    omega
  rw [i0, w3]
  show (hI (wI h pw 0 (1 : Int32)) pw 0).toInt = _
  rw [rI_s, Int.pow_zero]
  rfl
end
