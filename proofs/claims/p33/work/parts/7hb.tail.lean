/-! behind its SETS the reference keeps their number, and answers it -/
abbrev soD : List (Nat × Nat) := [(102, 999), (86, 999), (16, 23), (16, 24), (16, 29), (87, 999), (88, 999), (89, 999), (105, 999), (103, 999), (108, 999), (109, 999), (110, 999), (16, 62), (16, 63), (16, 50)]
section
variable {ρ : Nat → Nat} {c : Cm} {x0 rm re rb rk rs ro rp rt rw mb R Bc Bm F : Nat} {h : Hp} {a : Int} {y : Int32}
theorem so_masksC {km : Nat} (hF : 2000000 ≤ F) (hA : pmA c soD) (hS : pmO c 2560 bS7) (hB : pmO c 2528 bL8) (hL : pmO c 2530 lL8) (T : TH ρ c h) (SR : SlR ρ x0 rm re rb rk rs ro h) (re' : hR h x0 58 = some rp ∧ hR h x0 61 = some rt ∧ hR h x0 51 = some rw ∧ hR h x0 53 = some mb ∧ hR h x0 52 = some km ∧ hR h x0 4 = some R ∧ hR h R 13 = some Bc ∧ hR h R 14 = some Bm) (rl : ρ rp = 109 ∧ ρ rt = 110 ∧ ρ rw = 102 ∧ ρ mb = 104 ∧ ρ km = 103 ∧ ρ R = 15 ∧ ρ Bc = 80 ∧ ρ Bm = 81) (P : SE x0 h) (A : AllS x0 rm re rs rk R Bc Bm h) (D : MBd x0 (hI h x0 49).toInt y.toInt h) (iy : Rg 0 1500000 y) (sq : SqOk x0 h) (hz : hI h R 15 = 0) (l1 : 1 ≤ (hI h x0 49).toInt) : Sat (sX15_solve_304 F h x0 y) (fun o => TH ρ c o.2 ∧ EnR x0 o.2) := by
  unfold sX15_solve_304
  have z0 : (0 : Int32).toInt = 0 := rfl
  have hs : ∀ k w i, fS [(103, 999), (105, 999)] [] k w i = true → cPm c k w i = true := fs_sub (pmA_s hA rfl) fs_n
  refine so_307 (c := cat c (fS [(103, 999), (105, 999)] []) h) (h0 := h) (rk := km) (by omega) fs_a SR.1.1 rl.2.2.2.2.1 re'.2.2.2.2.1 iy (fun o To E Z => ?_) F (th_in _ T) ⟨fun _ _ => rfl, fun _ _ => rfl⟩ (by decide) (by rw [z0]; exact iy.1) (fun i hi => absurd hi (by rw [z0]; omega)) (by rw [z0]; omega)
  have T1 := th_out T hs To
  have K : Kf ρ [(103, 999), (105, 999)] h o := kf_of (fr_u T To.2.2) rfl
  obtain ⟨⟨r0, qm, qe, qb, qk, qs, qo⟩, ⟨e46, e47, e48, e55, e56, e57⟩⟩ := SR
  obtain ⟨e58, e61, e51, e53, e52, e4, e13, e14⟩ := re'
  obtain ⟨qp, qt, qw, qmb, qkm, qR, qBc, qBm⟩ := rl
  have D1 : MBd x0 (hI o x0 49).toInt y.toInt o := by
    intro rm' rb' em' eb' k hk
    rw [kfR 46 K r0] at em'
    rw [kfR 53 K r0] at eb'
    rw [kfI 49 K r0] at hk
    have hz1 := r_eq e46 em'
    subst hz1
    have hz1 := r_eq e53 eb'
    subst hz1
    rw [kfI 13 K r0, kfI 49 K r0]
    simp only [kfI _ K qm, kfI _ K qmb]
    exact D rm' rb' em' eb' k hk
  have e46' : hR o x0 46 = some rm := by rw [kfR 46 K r0]; exact e46
  have e53' : hR o x0 53 = some mb := by rw [kfR 53 K r0]; exact e53
  have G1 : MkG x0 rm mb re km R o := by
    intro set q j t l1 p1 w1 h1 t64 bt
    exfalso
    obtain ⟨b1, b2, _⟩ := mkx_b (rb := mb) (re := re) (thI T1 qm (k := 99) (i := set) (lo := 0) (hi := 5) rfl) p1 w1 h1
    have d1 := (D1 rm mb e46' e53' set l1).1
    have ib := (thI T1 qmb (k := 104) (i := set) (lo := 0) (hi := 1500000) rfl).1
    rw [Z _ (by omega)] at bt
    have : bitJ (0 : Int64) t = false := BitVec.getLsbD_zero
    rw [this] at bt
    exact absurd bt (by decide)
  have W1 : WkP ρ x0 rm re rb rk rs ro rp rt rw mb km R Bc Bm y.toInt o := ⟨⟨⟨r0, qm, qe, qb, qk, qs, qo⟩, ⟨e46', by rw [kfR 47 K r0]; exact e47, by rw [kfR 48 K r0]; exact e48, by rw [kfR 55 K r0]; exact e55, by rw [kfR 56 K r0]; exact e56, by rw [kfR 57 K r0]; exact e57⟩⟩, ⟨by rw [kfR 58 K r0]; exact e58, by rw [kfR 61 K r0]; exact e61, by rw [kfR 51 K r0]; exact e51, e53', by rw [kfR 52 K r0]; exact e52, by rw [kfR 4 K r0]; exact e4, by rw [kfR 13 K qR]; exact e13, by rw [kfR 14 K qR]; exact e14⟩, ⟨qp, qt, qw, qmb, qkm, qR, qBc, qBm⟩, se_k K r0 qm qe qb qk qs e46 e47 e48 e55 e56 P, alls_of (kfI 49 K r0) (fun i => kfI i K qm) (fun i => kfI i K qe) (fun i => kfI i K qs) (fun i => kfI i K qk) (kfI 10 K qR) (fun i => kfI i K qBc) (fun i => kfI i K qBm) A, D1, iy.2, G1⟩
  exact so_357 hF (pmA_s hA rfl) hS hB hL F T1 W1 (by unfold SqOk; rw [kfI 13 K r0, kfI 11 K r0, kfI 12 K r0]; exact sq) (by rw [kfI 15 K qR]; exact hz) (by rw [kfI 49 K r0]; exact l1) (by decide) (by rw [z0]; omega)
end
section
variable {ρ : Nat → Nat} {c : Cm} {x0 rm re rb rk rs ro rp rt rw' mb R Bc Bm F : Nat} {o7 : Hp}
theorem tail_r (hF : 2000000 ≤ F) (hA : pmA c soC) (T7 : TH ρ c o7) (SR : SlR ρ x0 rm re rb rk rs ro o7) (e58 : hR o7 x0 58 = some rp) (e61 : hR o7 x0 61 = some rt) (e51 : hR o7 x0 51 = some rw') (e53 : hR o7 x0 53 = some mb) (e4 : hR o7 x0 4 = some R) (e13 : hR o7 R 13 = some Bc) (e14 : hR o7 R 14 = some Bm) (P7 : SE x0 o7) (A7 : AllS x0 rm re rs rk R Bc Bm o7) (sq : SqOk x0 o7) (hz : hI o7 R 15 = 0) (l7 : 1 ≤ (hI o7 x0 49).toInt) : Sat (sX15_solve_246 F F o7 x0 (0 : Int32) (0 : Int32)) (fun o => hI o.2 x0 49 = hI o7 x0 49) := by
  have z0 : (0 : Int32).toInt = 0 := rfl
  obtain ⟨⟨r0, qm, qe, qb, qk, qs, qo⟩, ⟨e46, e47, e48, e55, e56, e57⟩⟩ := SR
  have qp := rr T7 (thR T7 r0 (i := 58) (k2 := 109) rfl (by decide)) e58
  have qt := rr T7 (thR T7 r0 (i := 61) (k2 := 110) rfl (by decide)) e61
  have qw := rr T7 (thR T7 r0 (i := 51) (k2 := 102) rfl (by decide)) e51
  have qmb := rr T7 (thR T7 r0 (i := 53) (k2 := 104) rfl (by decide)) e53
  have qR := rr T7 (thR T7 r0 (i := 4) (k2 := 15) rfl (by decide)) e4
  have qBc := rr T7 (thR T7 qR (i := 13) (k2 := 80) rfl (by decide)) e13
  have qBm := rr T7 (thR T7 qR (i := 14) (k2 := 81) rfl (by decide)) e14
  -- the masks
  have hs2 : ∀ k w i, fS [(104, 999)] [] k w i = true → cPm c k w i = true := fs_sub (pmA_s hA rfl) fs_n
  refine so_246 (c := cat c (fS [(104, 999)] []) o7) (n0 := (hI o7 x0 49).toInt) (by omega) fs_a r0 (fun o8 y To8 P8 n8 _ D8 iy => ?_) F (th_in _ T7) P7 rfl (by decide) (by rw [z0]; omega) (by decide) (fun rb' erb => ?_) (fun _ _ _ _ k hk => absurd hk (by rw [z0]; omega)) (fun _ _ _ _ k hk => absurd hk (by rw [z0]; omega)) (by rw [z0]; omega)
  · have T8 := th_out T7 hs2 To8
    have K78 : Kf ρ [(104, 999)] o7 o8 := kf_of (fr_u T7 To8.2.2) rfl
    have K8 : Kf ρ [(104, 999)] o7 o8 := K78
    have A8 : AllS x0 rm re rs rk R Bc Bm o8 := alls_of (kfI 49 K78 r0) (fun i => kfI i K78 qm) (fun i => kfI i K78 qe) (fun i => kfI i K78 qs) (fun i => kfI i K78 qk) (kfI 10 K78 qR) (fun i => kfI i K78 qBc) (fun i => kfI i K78 qBm) A7
    have SR8 : SlR ρ x0 rm re rb rk rs ro o8 := ⟨⟨r0, qm, qe, qb, qk, qs, qo⟩, ⟨by rw [kfR 46 K8 r0]; exact e46, by rw [kfR 47 K8 r0]; exact e47, by rw [kfR 48 K8 r0]; exact e48, by rw [kfR 55 K8 r0]; exact e55, by rw [kfR 56 K8 r0]; exact e56, by rw [kfR 57 K8 r0]; exact e57⟩⟩
    have sq8 : SqOk x0 o8 := by unfold SqOk; rw [kfI 13 K8 r0, kfI 11 K8 r0, kfI 12 K8 r0]; exact sq
    have hz8 : hI o8 R 15 = 0 := by rw [kfI 15 K8 qR]; exact hz
    have D8' : MBd x0 (hI o8 x0 49).toInt y.toInt o8 := by rw [n8]; exact D8
    have l8 : 1 ≤ (hI o8 x0 49).toInt := by rw [n8]; exact l7
    refine s_onr (fun none' => ?_) (fun km ekm => ?_)
    · refine s_q (fun a4 ea => ?_)
      refine s_q (fun h9 eh => ?_)
      obtain ⟨ρ', c', X, T9, qa, O9⟩ := newMasks T8 ea eh
      unfold sX15_solve_301
      have r0' := ex_r X r0 (by decide)
      have hA' := ex_A X hA
      have T10 : TH ρ' c' (wR h9 x0 52 (some a4)) := th_un (th_wR T9 r0' (k := 16) (i := 52) (j := 8) (k2 := 103) rfl (by decide) rfl (by decide) qa rfl nid_8 (by decide) (by decide) rfl rfl (fun w => absurd rfl w) (pm_a hA' rfl))
      refine s_hq T10 (fun h10 T10 w10 => ?_)
      -- all that was there is as it was
      have K10 : Kf ρ [(16, 52)] o8 h10 := fun b i n x => by
        have lt : b < o8.1.1 := by rw [T8.1.1]; exact T8.2.1.2.2.1 b n
        obtain ⟨q1, q2, q3, _⟩ := O9 b lt
        rw [w10]
        refine ⟨q1 i, q2 i, ?_⟩
        rw [r_R, if_neg]
        · exact q3 i
        · rintro ⟨q5, q6⟩
          subst q5; subst q6
          rw [r0] at x
          exact absurd x (by show ¬ true = false; decide)
      have km10 : hR h10 x0 52 = some a4 := by rw [w10, r_R, if_pos ⟨rfl, rfl⟩]
      refine s_imp (so_masksC (ρ := ρ') (c := cat c' (fS soD soL) h10) (km := a4) (R := R) (Bc := Bc) (Bm := Bm) (rp := rp) (rt := rt) (rw := rw') (mb := mb) (y := y) hF fs_a (fs_o (.head _)) (fs_o (.tail _ (.head _))) (fs_o (.tail _ (.tail _ (.head _)))) (th_in (fS soD soL) T10) ⟨⟨r0', ex_r X qm (by decide), ex_r X qe (by decide), ex_r X qb (by decide), ex_r X qk (by decide), ex_r X qs (by decide), ex_r X qo (by decide)⟩, ⟨by rw [kfR 46 K10 r0]; exact SR8.2.1, by rw [kfR 47 K10 r0]; exact SR8.2.2.1, by rw [kfR 48 K10 r0]; exact SR8.2.2.2.1, by rw [kfR 55 K10 r0]; exact SR8.2.2.2.2.1, by rw [kfR 56 K10 r0]; exact SR8.2.2.2.2.2.1, by rw [kfR 57 K10 r0]; exact SR8.2.2.2.2.2.2⟩⟩ ⟨by rw [kfR 58 K10 r0, kfR 58 K8 r0]; exact e58, by rw [kfR 61 K10 r0, kfR 61 K8 r0]; exact e61, by rw [kfR 51 K10 r0, kfR 51 K8 r0]; exact e51, by rw [kfR 53 K10 r0, kfR 53 K8 r0]; exact e53, km10, by rw [kfR 4 K10 r0, kfR 4 K8 r0]; exact e4, by rw [kfR 13 K10 qR, kfR 13 K8 qR]; exact e13, by rw [kfR 14 K10 qR, kfR 14 K8 qR]; exact e14⟩ ⟨ex_r X qp (by decide), ex_r X qt (by decide), ex_r X qw (by decide), ex_r X qmb (by decide), qa, ex_r X qR (by decide), ex_r X qBc (by decide), ex_r X qBm (by decide)⟩ (se_k K10 r0 qm qe qb qk qs SR8.2.1 SR8.2.2.1 SR8.2.2.2.1 SR8.2.2.2.2.1 SR8.2.2.2.2.2.1 P8) (alls_of (kfI 49 K10 r0) (fun i => kfI i K10 qm) (fun i => kfI i K10 qe) (fun i => kfI i K10 qs) (fun i => kfI i K10 qk) (kfI 10 K10 qR) (fun i => kfI i K10 qBc) (fun i => kfI i K10 qBm) A8) ?_ iy (by unfold SqOk; rw [kfI 13 K10 r0, kfI 11 K10 r0, kfI 12 K10 r0]; exact sq8) (by rw [kfI 15 K10 qR]; exact hz8) (by rw [kfI 49 K10 r0]; exact l8)) (fun o w => by rw [(fr_RI (fr_u T10 w.1.2.2) r0' (by decide) (fun _ => rfl)).1, kfI 49 K10 r0, kfI 49 K78 r0])
      intro rm' rb' em' eb' k hk
      rw [kfR 46 K10 r0] at em'
      rw [kfR 53 K10 r0] at eb'
      rw [kfI 49 K10 r0] at hk
      have hz1 := r_eq SR8.2.1 em'
      subst hz1
      have hz1 := r_eq (show hR o8 x0 53 = some mb by rw [kfR 53 K8 r0]; exact e53) eb'
      subst hz1
      rw [kfI 13 K10 r0, kfI 49 K10 r0]
      simp only [kfI _ K10 qm, kfI _ K10 qmb]
      exact D8' rm' rb' em' eb' k hk
    · have qkm : ρ km = 103 := thRn T8 r0 (i := 52) (k2 := 103) rfl (by decide) ekm
      exact s_imp (so_masksC (c := cat c (fS soD soL) o8) (km := km) (R := R) (Bc := Bc) (Bm := Bm) (rp := rp) (rt := rt) (rw := rw') (mb := mb) (y := y) hF fs_a (fs_o (.head _)) (fs_o (.tail _ (.head _))) (fs_o (.tail _ (.tail _ (.head _)))) (th_in (fS soD soL) T8) SR8 ⟨by rw [kfR 58 K8 r0]; exact e58, by rw [kfR 61 K8 r0]; exact e61, by rw [kfR 51 K8 r0]; exact e51, by rw [kfR 53 K8 r0]; exact e53, ekm, by rw [kfR 4 K8 r0]; exact e4, by rw [kfR 13 K8 qR]; exact e13, by rw [kfR 14 K8 qR]; exact e14⟩ ⟨qp, qt, qw, qmb, qkm, qR, qBc, qBm⟩ P8 A8 D8' iy sq8 hz8 l8) (fun o w => by rw [(fr_RI (fr_u T8 w.1.2.2) r0 (by decide) (fun _ => rfl)).1, kfI 49 K78 r0])
  · show 2 * (0 : Int) ≤ _
    have qb' : ρ rb' = 101 := rr T7 (thR T7 r0 (i := 48) (k2 := 101) rfl (by decide)) erb
    have q1 := (thI T7 qb' (k := 101) (i := (0 : Int32).toNatClampNeg) (lo := 0) (hi := 600000) rfl).1
    have q2 := P7.2.1.1
    split <;> omega
/-- what it answers is the number that it holds -/
theorem t408 {o : Int32 × Hp} (e : sX15_solve_408 F o7 x0 = some o) : o.1 = hI o.2 x0 49 := by
  unfold sX15_solve_408 at e
  replace e := nm_s e
  obtain ⟨g, _, e⟩ := e
  rw [← Option.some.inj e]
theorem t377 {k : Hp → Nat → Int32 → Option (Int32 × Hp)} {o : Int32 × Hp} (K : ∀ {h : Hp} {x : Int32}, k h x0 x = some o → o.1 = hI o.2 x0 49) {x4 x5 : Int32} : ∀ (f : Nat) {h : Hp} {x6 : Int32}, sX15_solve_377 F k f h x0 x4 x5 x6 = some o → o.1 = hI o.2 x0 49 := by
  intro f
  induction f with
  | zero => intro h x6 e; exact absurd e (by rw [sX15_solve_377]; exact fun z => nomatch z)
  | succ f ih =>
    intro h x6 e
    rw [sX15_solve_377] at e
    unfold sX15_solve_392 at e
    replace e := br_s e
    rcases e with ⟨_, e⟩ | ⟨_, e⟩
    · replace e := nm_s e
      obtain ⟨_, _, e⟩ := e
      exact K e
    · replace e := cl_s e
      obtain ⟨_, _, e⟩ := e
      replace e := nm_s e
      obtain ⟨_, _, e⟩ := e
      exact ih e
theorem t357 {o : Int32 × Hp} : ∀ (f : Nat) {h : Hp} {x4 : Int32}, sX15_solve_357 F f h x0 x4 = some o → o.1 = hI o.2 x0 49 := by
  intro f
  induction f with
  | zero => intro h x4 e; exact absurd e (by rw [sX15_solve_357]; exact fun z => nomatch z)
  | succ f ih =>
    intro h x4 e
    rw [sX15_solve_357] at e
    unfold sX15_solve_372 at e
    replace e := br_s e
    rcases e with ⟨_, e⟩ | ⟨_, e⟩
    · replace e := cl_s e
      obtain ⟨_, _, e⟩ := e
      exact t408 e
    · replace e := cl_s e
      obtain ⟨_, _, e⟩ := e
      exact t377 (fun w => ih w) F e
theorem t330 {o : Int32 × Hp} : ∀ (f : Nat) {h : Hp} {x4 : Int32}, sX15_solve_330 F f h x0 x4 = some o → o.1 = hI o.2 x0 49 := by
  intro f
  induction f with
  | zero => intro h x4 e; exact absurd e (by rw [sX15_solve_330]; exact fun z => nomatch z)
  | succ f ih =>
    intro h x4 e
    rw [sX15_solve_330] at e
    replace e := cl_s e
    obtain ⟨_, _, e⟩ := e
    replace e := br_s e
    rcases e with ⟨_, e⟩ | ⟨_, e⟩
    · exact t357 F e
    · replace e := cl_s e
      obtain ⟨_, _, e⟩ := e
      replace e := (gd_s e).2
      replace e := nm_s e
      obtain ⟨_, _, e⟩ := e
      replace e := nm_s e
      obtain ⟨_, _, e⟩ := e
      exact ih e
theorem t307 {o : Int32 × Hp} {x3 : Int32} : ∀ (f : Nat) {h : Hp} {x4 : Int32}, sX15_solve_307 F f h x0 x3 x4 = some o → o.1 = hI o.2 x0 49 := by
  intro f
  induction f with
  | zero => intro h x4 e; exact absurd e (by rw [sX15_solve_307]; exact fun z => nomatch z)
  | succ f ih =>
    intro h x4 e
    rw [sX15_solve_307] at e
    replace e := br_s e
    rcases e with ⟨_, e⟩ | ⟨_, e⟩
    · exact t330 F e
    · replace e := cl_s e
      obtain ⟨_, _, e⟩ := e
      replace e := (gd_s e).2
      replace e := nm_s e
      obtain ⟨_, _, e⟩ := e
      replace e := nm_s e
      obtain ⟨_, _, e⟩ := e
      exact ih e
theorem t246 {o : Int32 × Hp} : ∀ (f : Nat) {h : Hp} {x3 x4 : Int32}, sX15_solve_246 F f h x0 x3 x4 = some o → o.1 = hI o.2 x0 49 := by
  intro f
  induction f with
  | zero => intro h x3 x4 e; exact absurd e (by rw [sX15_solve_246]; exact fun z => nomatch z)
  | succ f ih =>
    intro h x3 x4 e
    rw [sX15_solve_246] at e
    unfold sX15_solve_301 sX15_solve_304 sX15_solve_270 at e
    replace e := br_s e
    rcases e with ⟨_, e⟩ | ⟨_, e⟩
    · cases q : hR h x0 52 with
      | none =>
        rw [q] at e
        replace e := nm_s e
        obtain ⟨_, _, e⟩ := e
        replace e := nm_s e
        obtain ⟨_, _, e⟩ := e
        replace e := nm_s e
        obtain ⟨_, _, e⟩ := e
        exact t307 F e
      | some r =>
        rw [q] at e
        exact t307 F e
    · replace e := cl_s e
      obtain ⟨_, _, e⟩ := e
      replace e := (gd_s e).2
      replace e := nm_s e
      obtain ⟨_, _, e⟩ := e
      replace e := cl_s e
      obtain ⟨_, _, e⟩ := e
      replace e := cl_s e
      obtain ⟨_, _, e⟩ := e
      replace e := (gd_s e).2
      replace e := nm_s e
      obtain ⟨_, _, e⟩ := e
      replace e := nm_s e
      obtain ⟨_, _, e⟩ := e
      exact ih e
end
