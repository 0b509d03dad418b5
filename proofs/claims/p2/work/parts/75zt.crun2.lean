/-! run -/
abbrev RUL : List (Nat × Nat) := [(20, 999), (21, 999), (22, 999), (1, 9), (1, 18), (1, 11), (1, 12), (1, 13), (23, 999), (1, 8), (24, 999), (25, 999), (26, 999), (1, 16), (1, 17), (1, 10), (1, 15)]
abbrev BOL : List (Nat × Nat) := [(34, 999), (35, 999), (36, 999), (4, 5), (4, 7)]
abbrev RBL : List (Nat × Nat) := [(20, 999), (21, 999), (22, 999), (1, 9), (1, 18), (1, 11), (1, 12), (1, 13), (23, 999), (1, 8), (24, 999), (25, 999), (26, 999), (1, 16), (1, 17), (1, 10), (1, 15), (34, 999), (35, 999), (36, 999), (4, 5), (4, 7)]
/-- what holds of solved endings -/
def EnQ (e : Nat) (h : Hp) : Prop := ¬ hI h e 10 = 0 → LenP e h ∧ ∃ ks st pw L, hR h e 0 = some L ∧ hR h e 4 = some ks ∧ hR h e 5 = some st ∧ hR h e 6 = some pw ∧ (∀ i : Nat, i ≤ 5 → (hI h pw i).toInt = (hI h L 2).toInt ^ i) ∧ StP e ks pw st h
theorem j32_i {x : Int64} (a : 0 ≤ x.toInt) (b : x.toInt ≤ 600000) : x.toInt32.toInt = x.toInt := by
  rw [Int64.toInt_toInt32]
  exact Int.bmod_eq_of_le_mul_two (by omega) (by omega)
theorem kf_ex {ρ ρ1 : Nat → Nat} {c c1 : Cm} {h o : Hp} {E : List (Nat × Nat)} (X : Ext ρ c ρ1 c1) (K : Kf ρ1 E h o) : Kf ρ E h o := fun a i n x => K a i (by rw [(X.1 a n).1]; exact n) (by rw [(X.1 a n).1]; exact x)
theorem lw_x2 {ρ ρ1 : Nat → Nat} {c c1 : Cm} {o g : Hp} {L0 : Nat} (rL : ρ L0 = 2) (wL : cw c L0 = 2102) (X : Ext ρ c ρ1 c1) (T1 : TH ρ1 c1 o) (P : LwR ρ c g) : LwR ρ1 c1 g := fun L hL wL' q => by
  have e : L = L0 := T1.1.2.2.2.2.2.2.2.2 L L0 (by rw [hL, ex_r X rL (by decide)]) (Or.inr ⟨Or.inr hL, by rw [wL', ex_w X rL (by decide) wL]⟩)
  rw [X.2.1]
  exact P L (by rw [e]; exact rL) (by rw [e]; exact wL) q
section
variable {ρ : Nat → Nat} {c : Cm} {h o : Hp} {x0 b wy ks st pw ro L F : Nat} {sq : Int}
theorem run18_q (hF : 700000 ≤ F) (hA : pmA c RUL) (hO : pmO c 1003 BOL) (T : TH ρ c h) (r0 : ρ x0 = 1) (W : EnW x0 b wy ks st pw ro L sq h) (lw : LwR ρ c h) (t0 : 0 ≤ (hJ h x0 18).toInt) (t1 : (hJ h x0 18).toInt ≤ 600000) : Sat (sX0_run_18 F h x0) (fun o => TH ρ c o.2 ∧ Rg 0 1 o.1 ∧ EnW x0 b wy ks st pw ro L sq o.2 ∧ Kf ρ GBL h o.2) := by
  have qs : ρ st = 21 := rr T (thR T r0 (i := 5) (k2 := 21) rfl (by decide)) W.1.2.2.2.2.1
  have qk : ρ ks = 20 := rr T (thR T r0 (i := 4) (k2 := 20) rfl (by decide)) W.1.2.2.2.1
  have z1 : (1 : Int32).toInt = 1 := rfl
  have z6 : (600000 : Int32).toInt = 600000 := rfl
  have wr : ∀ {g g2 : Hp} {i : Nat} {v : Int32}, TH ρ c g → EnW x0 b wy ks st pw ro L sq g → LwR ρ c g → Kf ρ GBL h g → g2 = wI g x0 i v → mS GBL 1 i = true → EnW x0 b wy ks st pw ro L sq g2 ∧ LwR ρ c g2 ∧ Kf ρ GBL h g2 := fun {g g2 i v} Tg Wg lg Kg w y => by
    have K : Kf ρ GBL g g2 := kf_wI w r0 y
    exact ⟨enw_k Tg r0 K (fun a _ => by rw [w]; rfl) rfl Wg, lw_k K (P := lg), kf_t Kg K⟩
  -- the last loop
  have l133 : ∀ (f : Nat) {g : Hp} {x1 : Int32}, TH ρ c g → EnW x0 b wy ks st pw ro L sq g → LwR ρ c g → Kf ρ GBL h g → 0 ≤ x1.toInt → (600001 - x1.toInt).toNat < f → Sat (sX0_run_133 F f g x0 x1) (fun o => TH ρ c o.2 ∧ Rg 0 1 o.1 ∧ EnW x0 b wy ks st pw ro L sq o.2 ∧ Kf ρ GBL h o.2) := by
    intro f
    induction f with
    | zero => intros; omega
    | succ f ih =>
      intro g x1 Tg Wg lg Kg a1 hf
      rw [sX0_run_133]
      have j := kfJ 18 Kg r0
      have tj : ((hJ g x0 18).toInt32).toInt = (hJ h x0 18).toInt := by rw [j]; exact j32_i t0 t1
      refine s_br (fun _ => ?_) (fun l => ?_)
      · refine s_hq (th_wI Tg r0 (k := 1) (i := 10) (lo := 0) (hi := 1) rfl (rg_m (rg_b rfl : Rg 1 1 (1 : Int32)) (by decide)) (by decide) (by decide) (pm_a hA rfl)) (fun h2 T2 w2 => ?_)
        obtain ⟨W2, _, K2⟩ := wr Tg Wg lg Kg w2 rfl
        exact s_some ⟨T2, rg_m (rg_b rfl : Rg 1 1 (1 : Int32)) (by decide), W2, K2⟩
      have l := nle_i l
      rw [tj] at l
      have i1 : Rg 0 599999 x1 := ⟨a1, by omega⟩
      have ny := nc_s i1 (by decide)
      obtain ⟨r3, e3, q3⟩ := thR Tg r0 (i := 11) (k2 := 24) rfl (by decide)
      have hn : hN g r3 = 600000 := Wg.2.2.2.2.1 11 r3 (Or.inl rfl) e3
      have gi : inB x1 (hN g r3) := by rw [hn]; exact rg_inB i1 (by decide)
      have fin : ∀ {v : Int32}, Rg (-4000000) 4000000 v → Sat (sX0_run_168 F (sX0_run_133 F f) g x0 x1 v x1 r3) (fun o => TH ρ c o.2 ∧ Rg 0 1 o.1 ∧ EnW x0 b wy ks st pw ro L sq o.2 ∧ Kf ρ GBL h o.2) := fun {v} iv => by
        unfold sX0_run_168
        refine s_gd gi ?_
        refine s_hq (th_wI Tg q3 (k := 24) (lo := -4000000) (hi := 4000000) rfl iv (by decide) (by decide) (pm_a hA rfl)) (fun h2 T2 w2 => ?_)
        have K : Kf ρ GBL g h2 := kf_wI w2 q3
        refine s_q (fun y ey => ?_)
        have ty : y.toInt = x1.toInt + 1 := by rw [ey]; exact ny.2
        clear ey
        exact ih T2 (enw_k Tg r0 K (fun a _ => by rw [w2]; rfl) rfl Wg) (lw_k K (P := lg)) (kf_t Kg K) (by omega) (by omega)
      refine s_ref e3 (s_ref e3 (s_gd gi ?_))
      refine s_br (fun _ => fin (rg_m (rg_b rfl : Rg 0 0 (0 : Int32)) (by decide))) (fun _ => ?_)
      refine s_ref e3 (s_gd gi ?_)
      exact fin (thI Tg q3 (k := 24) rfl)
  -- head by head
  have l51 : ∀ (f : Nat) {g : Hp} {x1 : Int32}, TH ρ c g → EnW x0 b wy ks st pw ro L sq g → LwR ρ c g → Kf ρ GBL h g → 0 ≤ x1.toInt → (600001 - x1.toInt).toNat < f → Sat (sX0_run_51 F f g x0 x1) (fun o => TH ρ c o.2 ∧ Rg 0 1 o.1 ∧ EnW x0 b wy ks st pw ro L sq o.2 ∧ Kf ρ GBL h o.2) := by
    intro f
    induction f with
    | zero => intros; omega
    | succ f ih =>
      intro g x1 Tg Wg lg Kg a1 hf
      rw [sX0_run_51]
      unfold sX0_run_131
      have fin := l133 F (x1 := (0 : Int32)) Tg Wg lg Kg (by decide) (by show (600001 - 0 : Int).toNat < F; omega)
      refine s_br (fun _ => fin) (fun _ => s_br (fun _ => fin) (fun l => ?_))
      have l := nle_i l
      rw [z6] at l
      have i1 : Rg 0 599999 x1 := ⟨a1, by omega⟩
      have ny := nc_s i1 (by decide)
      obtain ⟨r3, e3, q3⟩ := thR Tg r0 (i := 13) (k2 := 26) rfl (by decide)
      refine s_ref e3 ?_
      refine s_gd (by rw [Wg.2.2.2.2.1 13 r3 (Or.inr (Or.inr rfl)) e3]; exact rg_inB i1 (by decide)) ?_
      refine s_q (fun v5 e5 => ?_)
      have i5 : Rg 0 599999 v5 := by rw [e5]; exact thI Tg q3 (k := 26) rfl
      clear e5
      have s0 : (hI g st 0).toInt = 0 := Wg.2.2.1.2 0 (Nat.zero_le _)
      refine s_cl (s_imp (setOf_q hF Tg r0 Wg.1.2.2.2.2.1 s0 i5) (fun o6 ⟨q6, i6, le6⟩ => ?_))
      rw [q6]
      unfold sX0_run_77
      obtain ⟨rw', ew, qw'⟩ := thR Tg r0 (i := 11) (k2 := 24) rfl (by decide)
      refine s_ref ew ?_
      refine s_gd (by rw [Wg.2.2.2.2.1 11 rw' (Or.inl rfl) ew]; exact rg_inB i5 (by decide)) ?_
      refine s_hq (th_wI Tg r0 (k := 1) (i := 17) (lo := -4000000) (hi := 4000000) rfl (thI Tg qw' (k := 24) rfl) (by decide) (by decide) (pm_a hA rfl)) (fun h3 T3 w3 => ?_)
      obtain ⟨W3, lg3, K3⟩ := wr Tg Wg lg Kg w3 rfl
      have s3 : ∀ i, hI h3 st i = hI g st i := fun i => by rw [w3, r_I, if_neg (ne_r qs r0 (by decide))]
      refine s_ref W3.1.2.2.2.1 ?_
      refine s_gd (by rw [thN T3 qk (k := 20) (n := 1024) rfl (by decide)]; exact rg_inB i6 (by decide)) ?_
      refine s_ref W3.1.2.2.2.2.1 ?_
      refine s_gd (by rw [thN T3 qs (k := 21) (n := 1025) rfl (by decide)]; exact rg_inB (rg_m i6 (by decide) : Rg 0 1024 o6.1) (by decide)) ?_
      have is := thI Tg qs (k := 21) (i := o6.1.toNatClampNeg) (lo := 0) (hi := 600000) rfl
      have is0 := is.1
      have i51 := i5.2
      have dd : (v5 - (hI h3 st o6.1.toNatClampNeg)).toInt = v5.toInt - (hI g st o6.1.toNatClampNeg).toInt := by rw [s3, ts (by omega)]
      have sh : ((v5 - (hI h3 st o6.1.toNatClampNeg)) >>> ((1 : Int32) &&& 31)).toInt = (v5.toInt - (hI g st o6.1.toNatClampNeg).toInt) / 2 := by rw [ti_shr1, dd]
      refine s_lay hF (pmO_s hO rfl) T3 r0 W3 lg3 (thI T3 qk (k := 20) (lo := 0) (hi := 33554431) rfl) ⟨by rw [sh]; omega, by rw [sh]; omega⟩ (thKy T3 qk) (fun o8 T8 W8 lg8 K8 B8 i8 => ?_)
      have nx : ∀ {g2 : Hp}, TH ρ c g2 → EnW x0 b wy ks st pw ro L sq g2 → LwR ρ c g2 → Kf ρ GBL h g2 → Sat (sX0_run_125 F (sX0_run_51 F f) g2 x0 x1) (fun o => TH ρ c o.2 ∧ Rg 0 1 o.1 ∧ EnW x0 b wy ks st pw ro L sq o.2 ∧ Kf ρ GBL h o.2) := fun T2 W2 lg2 K2 => by
        unfold sX0_run_125
        refine s_q (fun y ey => ?_)
        have ty : y.toInt = x1.toInt + 1 := by rw [ey]; exact ny.2
        clear ey
        exact ih T2 W2 lg2 K2 (by omega) (by omega)
      unfold sX0_run_108
      refine s_br (fun _ => nx T8 W8 lg8 (kf_t K3 K8)) (fun _ => ?_)
      refine s_ref W8.1.2.2.2.2.1 ?_
      refine s_gd (by rw [thN T8 qs (k := 21) (n := 1025) rfl (by decide)]; exact rg_inB (rg_m i6 (by decide) : Rg 0 1024 o6.1) (by decide)) ?_
      exact s_gob hF (pmA_s hA rfl) T8 r0 W8 lg8 B8 (rg_and (rg_b rfl : Rg 1 1 (1 : Int32)) (by decide)) (fun g2 T2 W2 lg2 K2 _ => nx T2 W2 lg2 (kf_t (kf_t K3 K8) K2))
  unfold sX0_run_18
  refine s_hq (th_wI T r0 (k := 1) (i := 15) (lo := 0) (hi := 33554431) rfl (thI T r0 (k := 1) (i := 14) rfl) (by decide) (by decide) (pm_a hA rfl)) (fun h1 T1 w1 => ?_)
  obtain ⟨W1, lg1, K1⟩ := wr T W lw kf_r w1 rfl
  refine s_hq (th_wI T1 r0 (k := 1) (i := 16) (lo := 0) (hi := 600000) rfl (rg_m (rg_b rfl : Rg 0 0 (0 : Int32)) (by decide)) (by decide) (by decide) (pm_a hA rfl)) (fun h2 T2 w2 => ?_)
  obtain ⟨W2, lg2, K2⟩ := wr T1 W1 lg1 K1 w2 rfl
  refine s_cVf (S := fS [(24, 999), (25, 999)] [(1003, BOL)]) T2 (fs_sub (pmA_s hA rfl) (fs_c (pmO_s hO rfl) fs_n)) (zX0_markAll hF fs_a (fs_o (.head _)) (th_in _ T2) r0 W2.2.2.2.2.1 lg2) (fun h3 T3 f3 => ?_)
  have K3 : Kf ρ GBL h2 h3 := kf_of f3 rfl
  have W3 := enw_f T2 r0 f3 rfl W2
  have lg3 : LwR ρ c h3 := lw_k K3 (P := lg2)
  unfold sX0_run_35
  refine s_hq (th_wI T3 r0 (k := 1) (i := 17) (lo := -4000000) (hi := 4000000) rfl (rg_m (rg_b rfl : Rg 3000000 3000000 (3000000 : Int32)) (by decide)) (by decide) (by decide) (pm_a hA rfl)) (fun h4 T4 w4 => ?_)
  obtain ⟨W4, lg4, K4⟩ := wr T3 W3 lg3 (kf_t K2 K3) w4 rfl
  refine s_cVf (S := fS TBL [(1003, [(34, 999), (35, 999), (36, 999), (4, 7)])]) T4 (fs_sub (pmA_s hA rfl) (fs_c (pmO_s hO rfl) fs_n)) (ca_q hF fs_a (fs_o (.head _)) (th_in _ T4) r0 W4 lg4) (fun h5 T5 f5 => ?_)
  have K5 : Kf ρ GBL h4 h5 := kf_of f5 rfl
  have W5 := enw_f T4 r0 f5 rfl W4
  have lg5 : LwR ρ c h5 := lw_k K5 (P := lg4)
  unfold sX0_run_45 sX0_run_49
  refine s_cVf (S := fS TCL [(1003, BOL)]) T5 (fs_sub (pmA_s hA rfl) (fs_c (pmO_s hO rfl) fs_n)) (zX0_queueEnds hF fs_a (fs_o (.head _)) (th_in _ T5) r0 W5.2.2.2.2.1 lg5) (fun h6 T6 f6 => ?_)
  have K6 : Kf ρ GBL h5 h6 := kf_of f6 rfl
  exact l51 F T6 (enw_f T5 r0 f6 rfl W5) (lw_k K6 (P := lg5)) (kf_t (kf_t K4 K5) K6) (by decide) (by show (600001 - 0 : Int).toNat < F; omega)
theorem run_q (hF : 700000 ≤ F) (hA : pmA c RUL) (hO : pmO c 1003 BOL) (T : TH ρ c h) (r0 : ρ x0 = 1) (e0 : hR h x0 0 = some L) (e1 : hR h x0 1 = some wy) (ky : KyX (hI h x0 14)) (E : EvP x0 h) (N : LnI x0 h) (lw : LwR ρ c h) (Fm : FmX wy (hI h L 2).toInt h) : Sat (sX0_run F h x0) (MkI ρ c 0 1 (fun o => EvP x0 o ∧ LnI x0 o ∧ EnQ x0 o ∧ Kf ρ RBL h o)) := by
  have rL : ρ L = 2 := rr T (thR T r0 (i := 0) (k2 := 2) rfl (by decide)) e0
  have qw : ρ wy = 11 := rr T (thR T r0 (i := 1) (k2 := 11) rfl (by decide)) e1
  obtain ⟨b, e3, qb⟩ := thR T r0 (i := 3) (k2 := 4) rfl (by decide)
  obtain ⟨ks, e4, qk⟩ := thR T r0 (i := 4) (k2 := 20) rfl (by decide)
  obtain ⟨st, e5, qs⟩ := thR T r0 (i := 5) (k2 := 21) rfl (by decide)
  obtain ⟨pw, e6, qp⟩ := thR T r0 (i := 6) (k2 := 22) rfl (by decide)
  obtain ⟨ro, e7, qo⟩ := thR T r0 (i := 7) (k2 := 23) rfl (by decide)
  unfold sX0_run
  refine s_hq (th_wI T r0 (k := 1) (i := 10) (lo := 0) (hi := 1) rfl (rg_m (rg_b rfl : Rg 0 0 (0 : Int32)) (by decide)) (by decide) (by decide) (pm_a hA rfl)) (fun h1 T1 w1 => ?_)
  have K1 : Kf ρ [(1, 10)] h h1 := kf_wI w1 r0
  have E1 : EvP x0 h1 := evp_k T r0 K1 (P := E)
  have hL1 : hI h1 L 2 = hI h L 2 := kfI 2 K1 rL
  have ln1 : LnI x0 h1 := fun a ea => by
    rw [kfR 11 K1 r0] at ea
    have hn : ∀ q, hN h1 q = hN h q := fun q => by rw [w1]; rfl
    rw [hn]
    refine (N a ea).imp id (fun P i q hi eq => ?_)
    rw [hn]
    refine P i q hi ?_
    rw [w1] at eq
    exact eq
  refine s_cl (s_imp (gatherC_q (c := cat c (fS GSL []) h1) (ks := ks) (st := st) (pw := pw) (L := L) hF fs_a (th_in _ T1) r0 (by rw [kfR 0 K1 r0]; exact e0) (by rw [kfR 4 K1 r0]; exact e4) (by rw [kfR 5 K1 r0]; exact e5) (by rw [kfR 6 K1 r0]; exact e6) (by rw [kfI 14 K1 r0]; exact ky) E1) (fun o2 ⟨T2', i2, S2, P2, E2, K2⟩ => ?_))
  have T2 := th_out T1 (fs_sub (pmA_s hA rfl) fs_n) T2'
  have f2 := fr_u T1 T2'.2.2
  have K12 : Kf ρ RBL h o2.2 := kf_t (kf_m K1 rfl) (kf_m K2 rfl)
  have ln2 : LnI x0 o2.2 := fun a ea => by
    rw [kfR 11 K2 r0] at ea
    have ra := rr T1 (thR T1 r0 (i := 11) (k2 := 24) rfl (by decide)) ea
    rw [f2.2 a (by rw [ra]; decide)]
    exact (ln1 a ea).imp id (fun P => len_fr T1 r0 f2 (fun _ => rfl) (fun _ => rfl) (fun _ => rfl) P)
  unfold sX0_run_9
  refine s_br (fun _ => ?_) (fun ne => ?_)
  · refine s_some ⟨ρ, c, ex_0, T2, rg_m (rg_b rfl : Rg 0 0 (0 : Int32)) (by decide), E2, ln2, fun n => ?_, K12⟩
    exact absurd (by rw [kfI 10 K2 r0, w1, r_I, if_pos ⟨rfl, rfl⟩]) n
  obtain ⟨S2, t0, t1⟩ := S2 ne
  refine s_mV (S := fS MRL []) T2 (fs_sub (pmA_s hA rfl) fs_n) (makeRoom_q fs_a (th_in _ T2) r0 ln2) (fun o3 ρ1 c1 X T3 f3 ⟨Ln3, K3⟩ => ?_)
  have r0' := ex_r X r0 (by decide)
  have sq64 := (thI T rL (k := 2) (i := 2) (lo := 0) (hi := 64) rfl).2
  have hL2 : hI o2.2 L 2 = hI h L 2 := by rw [kfI 2 K2 rL]; exact hL1
  have rf : ∀ i r, hR h x0 i = some r → mS GSL 1 i = false → mS MRL 1 i = false → mS [(1, 10)] 1 i = false → hR o3 x0 i = some r := fun i r e y1 y2 y3 => by
    rw [kfR i K3 r0 (by decide) y2, kfR i K2 r0 (by decide) y1, kfR i K1 r0 (by decide) y3]
    exact e
  have W3 : EnW x0 b wy ks st pw ro L (hI h L 2).toInt o3 := by
    refine ⟨⟨rf 0 _ e0 rfl rfl rfl, rf 1 _ e1 rfl rfl rfl, rf 3 _ e3 rfl rfl rfl, rf 4 _ e4 rfl rfl rfl, rf 5 _ e5 rfl rfl rfl, rf 6 _ e6 rfl rfl rfl, rf 7 _ e7 rfl rfl rfl⟩, fun i hi => ?_, stp_k T2 r0 qk qp qs K3 (P := S2), fmx_k T2 qw K3 (P := fmx_k T1 qw K2 (P := fmx_k T qw K1 (P := Fm))), Ln3, by rw [kfI 2 K3 rL, hL2], sq64, evp_k T2 r0 K3 (P := E2)⟩
    rw [kfI i K3 qp, P2 i hi, hL1]
  have lw3 : LwR ρ1 c1 o3 := lw_x2 rL (kid_w T r0 (i := 0) (w := 2102) rfl (by decide) e0) X T3 (lw_k (kf_t K12 (kf_m K3 rfl)) (P := lw))
  refine s_imp (run18_q hF (ex_A X hA) (ex_O X hO) T3 r0' W3 lw3 (by rw [kfJ 18 K3 r0]; exact t0) (by rw [kfJ 18 K3 r0]; exact t1)) (fun o4 ⟨T4, i4, W4, K4⟩ => ?_)
  refine ⟨ρ1, c1, X, T4, i4, W4.2.2.2.2.2.2.2, fun a _ => Or.inr W4.2.2.2.2.1, fun _ => ⟨W4.2.2.2.2.1, ks, st, pw, L, W4.1.1, W4.1.2.2.2.1, W4.1.2.2.2.2.1, W4.1.2.2.2.2.2.1, ?_, W4.2.2.1⟩, kf_t (kf_t K12 (kf_m K3 rfl)) (kf_m (kf_ex X K4) rfl)⟩
  rw [W4.2.2.2.2.2.1]
  exact W4.2.1
end
