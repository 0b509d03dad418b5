/-! room: the rows of endings are paid for ahead -/
section
variable {ρ : Nat → Nat} {c : Cm} {h o : Hp} {x0 e F L wy : Nat} {Bq : Nat × Nat}
def PayE (Bq : Nat × Nat) (e : Nat) (h : Hp) : Prop := ∀ a, hR h e 11 = some a → (hN h a = 600000 ∧ h.1.1 ≤ Bq.1 ∧ h.1.2 ≤ Bq.2) ∨ (h.1.1 + 3 ≤ Bq.1 ∧ h.1.2 + 1800000 ≤ Bq.2)
theorem paye_k (e1 : o.1 = h.1) (R : hR o e 11 = hR h e 11) (N : ∀ a, hR h e 11 = some a → hN o a = hN h a) (P : PayE Bq e h) : PayE Bq e o := fun a ea => by
  rw [R] at ea
  rw [e1, N a ea]
  exact P a ea
theorem mkr_room (P : PayE Bq x0 h) (e : sX0_makeRoom h x0 = some o) : o.1.1 ≤ Bq.1 ∧ o.1.2 ≤ Bq.2 := by
  have z : (600000 : Int32).toNatClampNeg = 600000 := by decide
  unfold sX0_makeRoom sX0_makeRoom_15 sX0_makeRoom_23 sX0_makeRoom_31 sX0_makeRoom_34 at e
  replace e := cl_s e
  obtain ⟨a, ea, e⟩ := e
  replace e := br_s e
  rcases e with ⟨_, e⟩ | ⟨l, e⟩
  · rw [← Option.some.inj e]
    rcases P a ea with w | w
    · exact ⟨w.2.1, w.2.2⟩
    · omega
  · rcases P a ea with w | w
    · rw [w.1] at l
      exact absurd (by decide) l
    · obtain ⟨K, hK⟩ : ∃ K, K = (600000 : Int32).toNatClampNeg := ⟨_, rfl⟩
      rw [← hK] at e z
      have q : o.1 = (h.1.1 + 1 + 1 + 1, h.1.2 + K + K + K) := by
        rw [← Option.some.inj e]; rfl
      rw [q]
      show h.1.1 + 1 + 1 + 1 ≤ Bq.1 ∧ h.1.2 + K + K + K ≤ Bq.2
      omega
theorem run_y (hF : 700000 ≤ F) (hA : pmA c RUL) (hO : pmO c 1003 BOL) (T : TH ρ c h) (r0 : ρ x0 = 1) (e0 : hR h x0 0 = some L) (e1 : hR h x0 1 = some wy) (ky : KyX (hI h x0 14)) (E : EvP x0 h) (N : LnI x0 h) (lw : LwR ρ c h) (Fm : FmX wy (hI h L 2).toInt h) (Py : PayE Bq x0 h) : Sat (sX0_run F h x0) (MkI ρ c 0 1 (fun o => EvP x0 o ∧ LnI x0 o ∧ EnQ x0 o ∧ Kf ρ RBL h o ∧ PayE Bq x0 o)) := by
  have rL : ρ L = 2 := rr T (thR T r0 (i := 0) (k2 := 2) rfl (by decide)) e0
  have qw : ρ wy = 11 := rr T (thR T r0 (i := 1) (k2 := 11) rfl (by decide)) e1
  obtain ⟨b, e3, qb⟩ := thR T r0 (i := 3) (k2 := 4) rfl (by decide)
  obtain ⟨ks, e4, qk⟩ := thR T r0 (i := 4) (k2 := 20) rfl (by decide)
  obtain ⟨st, e5, qs⟩ := thR T r0 (i := 5) (k2 := 21) rfl (by decide)
  obtain ⟨pw, e6, qp⟩ := thR T r0 (i := 6) (k2 := 22) rfl (by decide)
  obtain ⟨ro, e7, qo⟩ := thR T r0 (i := 7) (k2 := 23) rfl (by decide)
  unfold sX0_run
  refine s_hq (th_wI T r0 (k := 1) (i := 10) (lo := 0) (hi := 1) rfl (rg_m (rg_b rfl : Rg 0 0 (0 : Int32)) (by decide)) (by decide) (by decide) (pm_a hA rfl)) (fun h1 T1 w1 => ?_)
  have K1 : Kf ρ [(1, 10)] h h1 := kf_wI w1 r0
  have E1 : EvP x0 h1 := evp_k T r0 K1 (P := E)
  have hL1 : hI h1 L 2 = hI h L 2 := kfI 2 K1 rL
  have ln1 : LnI x0 h1 := fun a ea => by
    rw [kfR 11 K1 r0] at ea
    have hn : ∀ q, hN h1 q = hN h q := fun q => by rw [w1]; rfl
    rw [hn]
    refine (N a ea).imp id (fun P i q hi eq => ?_)
    rw [hn]
    refine P i q hi ?_
    rw [w1] at eq
    exact eq
  refine s_cl (s_imp (gatherC_q (c := cat c (fS GSL []) h1) (ks := ks) (st := st) (pw := pw) (L := L) hF fs_a (th_in _ T1) r0 (by rw [kfR 0 K1 r0]; exact e0) (by rw [kfR 4 K1 r0]; exact e4) (by rw [kfR 5 K1 r0]; exact e5) (by rw [kfR 6 K1 r0]; exact e6) (by rw [kfI 14 K1 r0]; exact ky) E1) (fun o2 ⟨T2', i2, S2, P2, E2, K2⟩ => ?_))
  have T2 := th_out T1 (fs_sub (pmA_s hA rfl) fs_n) T2'
  have f2 := fr_u T1 T2'.2.2
  have K12 : Kf ρ RBL h o2.2 := kf_t (kf_m K1 rfl) (kf_m K2 rfl)
  have ln2 : LnI x0 o2.2 := fun a ea => by
    rw [kfR 11 K2 r0] at ea
    have ra := rr T1 (thR T1 r0 (i := 11) (k2 := 24) rfl (by decide)) ea
    rw [f2.2 a (by rw [ra]; decide)]
    exact (ln1 a ea).imp id (fun P => len_fr T1 r0 f2 (fun _ => rfl) (fun _ => rfl) (fun _ => rfl) P)
  have py2 : PayE Bq x0 o2.2 := paye_k (T2.1.1.trans T.1.1.symm) (by rw [kfR 11 K2 r0, kfR 11 K1 r0]) (fun a ea => by
    have ra := rr T (thR T r0 (i := 11) (k2 := 24) rfl (by decide)) ea
    rw [f2.2 a (by rw [ra]; decide), w1]; rfl) Py
  unfold sX0_run_9
  refine s_br (fun _ => ?_) (fun ne => ?_)
  · refine s_some ⟨ρ, c, ex_0, T2, rg_m (rg_b rfl : Rg 0 0 (0 : Int32)) (by decide), E2, ln2, fun n => ?_, K12, py2⟩
    exact absurd (by rw [kfI 10 K2 r0, w1, r_I, if_pos ⟨rfl, rfl⟩]) n
  obtain ⟨S2, t0, t1⟩ := S2 ne
  refine s_mV (S := fS MRL []) T2 (fs_sub (pmA_s hA rfl) fs_n) (P := fun o => LenP x0 o ∧ Kf ρ MRL o2.2 o ∧ (o.1.1 ≤ Bq.1 ∧ o.1.2 ≤ Bq.2)) (sat_and (makeRoom_q (c := cat c (fS MRL []) o2.2) fs_a (th_in _ T2) r0 ln2) (fun o e ⟨ρ', c', z1, z2, z3, z4⟩ => ⟨ρ', c', z1, z2, z3, z4, mkr_room py2 e⟩)) (fun o3 ρ1 c1 X T3 f3 ⟨Ln3, K3, B3⟩ => ?_)
  have r0' := ex_r X r0 (by decide)
  have sq64 := (thI T rL (k := 2) (i := 2) (lo := 0) (hi := 64) rfl).2
  have hL2 : hI o2.2 L 2 = hI h L 2 := by rw [kfI 2 K2 rL]; exact hL1
  have rf : ∀ i r, hR h x0 i = some r → mS GSL 1 i = false → mS MRL 1 i = false → mS [(1, 10)] 1 i = false → hR o3 x0 i = some r := fun i r e y1 y2 y3 => by
    rw [kfR i K3 r0 (by decide) y2, kfR i K2 r0 (by decide) y1, kfR i K1 r0 (by decide) y3]
    exact e
  have W3 : EnW x0 b wy ks st pw ro L (hI h L 2).toInt o3 := by
    refine ⟨⟨rf 0 _ e0 rfl rfl rfl, rf 1 _ e1 rfl rfl rfl, rf 3 _ e3 rfl rfl rfl, rf 4 _ e4 rfl rfl rfl, rf 5 _ e5 rfl rfl rfl, rf 6 _ e6 rfl rfl rfl, rf 7 _ e7 rfl rfl rfl⟩, fun i hi => ?_, stp_k T2 r0 qk qp qs K3 (P := S2), fmx_k T2 qw K3 (P := fmx_k T1 qw K2 (P := fmx_k T qw K1 (P := Fm))), Ln3, by rw [kfI 2 K3 rL, hL2], sq64, evp_k T2 r0 K3 (P := E2)⟩
    rw [kfI i K3 qp, P2 i hi, hL1]
  have lw3 : LwR ρ1 c1 o3 := lw_x2 rL (kid_w T r0 (i := 0) (w := 2102) rfl (by decide) e0) X T3 (lw_k (kf_t K12 (kf_m K3 rfl)) (P := lw))
  refine s_imp (run18_q hF (ex_A X hA) (ex_O X hO) T3 r0' W3 lw3 (by rw [kfJ 18 K3 r0]; exact t0) (by rw [kfJ 18 K3 r0]; exact t1)) (fun o4 ⟨T4, i4, W4, K4⟩ => ?_)
  refine ⟨ρ1, c1, X, T4, i4, W4.2.2.2.2.2.2.2, fun a _ => Or.inr W4.2.2.2.2.1, fun _ => ⟨W4.2.2.2.2.1, ks, st, pw, L, W4.1.1, W4.1.2.2.2.1, W4.1.2.2.2.2.1, W4.1.2.2.2.2.2.1, ?_, W4.2.2.1⟩, kf_t (kf_t K12 (kf_m K3 rfl)) (kf_m (kf_ex X K4) rfl), fun a ea => Or.inl ⟨W4.2.2.2.2.1 11 a (Or.inl rfl) ea, by rw [T4.1.1.trans T3.1.1.symm]; exact B3⟩⟩
  rw [W4.2.2.2.2.2.1]
  exact W4.2.1
def PayA (x0 : Nat) (Bq : Nat × Nat) (h : Hp) : Prop := ∀ e, hR h x0 10 = some e → PayE Bq e h
def EnY (x0 : Nat) (Bq : Nat × Nat) (h : Hp) : Prop := EnA x0 h ∧ PayA x0 Bq h
theorem eny_k {E : List (Nat × Nat)} (T : TH ρ c h) (r0 : ρ x0 = 12) (K : Kf ρ E h o) (N : ∀ a, ρ a ≠ 0 → hN o a = hN h a) (y0 : mS E 12 10 = false := by rfl) (y1 : ∀ j, ¬ j = 14 → ¬ j = 8 → ¬ j = 17 → ¬ j = 16 → mS E 1 j = false) (y2 : ∀ i, mS E 20 i = false := by intro _; rfl) (y3 : ∀ i, mS E 21 i = false := by intro _; rfl) (y4 : ∀ i, mS E 22 i = false := by intro _; rfl) (y5 : mS E 2 2 = false := by rfl) (P : EnY x0 Bq h) (T' : TH ρ c o := by assumption) : EnY x0 Bq o := by
  refine ⟨ena_k T r0 K N y0 y1 y2 y3 y4 y5 P.1, fun e ee => ?_⟩
  rw [kfR 10 K r0 (by decide) y0] at ee
  have re : ρ e = 1 := rr T (thR T r0 (i := 10) (k2 := 1) rfl (by decide)) ee
  exact paye_k (T'.1.1.trans T.1.1.symm) (kfR 11 K re (by decide) (y1 11 (by decide) (by decide) (by decide) (by decide))) (fun a ea => by
    have ra := rr T (thR T re (i := 11) (k2 := 24) rfl (by decide)) ea
    exact N a (by rw [ra]; decide)) (P.2 e ee)
theorem solve_y (hF : 700000 ≤ F) (hA : pmA c SVL) (hO : pmO c 1003 BOL) (hT : pmO c 2100 [(10, 1)]) (T : TH ρ c h) (r0 : ρ x0 = 12) (lw : LwR ρ c h) (en : EnY x0 Bq h) (fm : FmY ρ c h) : Sat (sX11_solve F h x0) (MkI ρ c (-2147483648) 2147483647 (fun o => EnY x0 Bq o ∧ Kf ρ SVX h o)) := by
  obtain ⟨L, eL, rL⟩ := thR T r0 (i := 2) (k2 := 2) rfl (by decide)
  -- the tape is cleared
  have b71 : ∀ {ρ1 : Nat → Nat} {c1 : Cm} {g : Hp} {y : Int32}, Ext ρ c ρ1 c1 → TH ρ1 c1 g → EnY x0 Bq g → Kf ρ SVX h g → Sat (sX11_solve_71 F g x0 y) (MkI ρ c (-2147483648) 2147483647 (fun o => EnY x0 Bq o ∧ Kf ρ SVX h o)) := fun {ρ1 c1 g y} X Tg eg Kg => by
    unfold sX11_solve_71 sX11_solve_78
    have r1 := ex_r X r0 (by decide)
    obtain ⟨t, et, rt⟩ := thR Tg r1 (i := 0) (k2 := 10) rfl (by decide)
    refine s_ref et ?_
    have wt : cw c1 t = 2100 := kid_w Tg r1 (i := 0) rfl (by decide) et
    refine s_cVf (S := fS [] [(2100, [(10, 1)])]) Tg (fs_sub pmA_n (fs_c (ex_O X hT) fs_n)) (zX9_clear hF (by rw [show cw (cat c1 (fS [] [(2100, [(10, 1)])]) g) t = 2100 from wt]; exact fs_o (.head _)) (th_in _ Tg) rt) (fun o2 T2 f2 => ?_)
    have K2 : Kf ρ1 [(10, 1)] g o2 := kf_of f2 rfl
    exact s_some ⟨ρ1, c1, X, T2, rg_top _, eny_k Tg r1 K2 f2.2 (y1 := fun _ _ _ _ _ => rfl) (P := eg), kf_t Kg (kf_m (kf_ex X K2) rfl)⟩
  have out : ∀ {y : Int32}, Sat (sX11_solve_71 F h x0 y) (MkI ρ c (-2147483648) 2147483647 (fun o => EnY x0 Bq o ∧ Kf ρ SVX h o)) := fun {y} => b71 ex_0 T en kf_r
  unfold sX11_solve
  refine s_ref eL ?_
  refine s_cI0 (zX1_isPlain hF T rL) (fun o2 q2 _ => ?_)
  rw [q2]
  unfold sX11_solve_10
  refine s_br (fun _ => out) (fun _ => ?_)
  refine s_ref eL ?_
  refine s_cI0 (zX1_hasCatch hF T rL) (fun o3 q3 _ => ?_)
  rw [q3]
  unfold sX11_solve_20
  refine s_br (fun _ => ?_) (fun _ => out)
  obtain ⟨e, ee, re⟩ := thR T r0 (i := 10) (k2 := 1) rfl (by decide)
  obtain ⟨t, et, rt⟩ := thR T r0 (i := 0) (k2 := 10) rfl (by decide)
  refine s_ref ee (s_ref et ?_)
  refine s_cl (s_imp (readC_q (c := cat c (fS [(1, 14)] []) h) hF fs_a (th_in _ T) re rt (rg_m (thI T rt (k := 10) (i := 1) rfl) (by decide))) (fun o4 ⟨T4', ky, K4⟩ => ?_))
  have T4 := th_out T (fs_sub (pmA_s hA rfl) fs_n) T4'
  have f4 := fr_u T T4'.2.2
  have en4 : EnY x0 Bq o4.2 := eny_k T r0 K4 f4.2 (y1 := fun j h1 _ _ _ => by
    show mS [(1, 14)] 1 j = false
    unfold mS
    simp [List.any]
    exact fun z => h1 z.symm) (P := en)
  unfold sX11_solve_34 sX11_solve_70
  refine s_br (fun z => ?_) (fun _ => b71 ex_0 T4 en4 (kf_m K4 rfl))
  have ee4 : hR o4.2 x0 10 = some e := by rw [kfR 10 K4 r0]; exact ee
  refine s_ref ee4 ?_
  obtain ⟨LE, eLE, rLE⟩ := thR T4 re (i := 0) (k2 := 2) rfl (by decide)
  obtain ⟨wy, ewy, rwy⟩ := thR T4 re (i := 1) (k2 := 11) rfl (by decide)
  have wLE : cw c LE = 2102 := kid_w T4 re (i := 0) (w := 2102) rfl (by decide) eLE
  obtain ⟨p1, p2, p3⟩ := en4.1 e ee4
  have py4 := en4.2 e ee4
  have fm4 : FmY ρ c o4.2 := fmy_k T K4 (P := fm)
  refine s_mI (S := fS RUL [(1003, BOL)]) T4 (fs_sub (pmA_s hA rfl) (fs_c hO fs_n)) (run_y (Bq := Bq) hF fs_a (fs_o (.head _)) (th_in _ T4) re eLE ewy (ky z) p1 p2 (lw_k K4 (P := lw)) (fm4 wy LE rwy rLE wLE) py4) (fun o5 ρ1 c1 X T5 f5 i5 ⟨w1, w2, w3, K5, y5⟩ => ?_)
  have r1 := ex_r X r0 (by decide)
  have re1 := ex_r X re (by decide)
  have K45 : Kf ρ SVX h o5.2 := kf_t (kf_m K4 rfl) (kf_m K5 rfl)
  have en5 : EnY x0 Bq o5.2 := by
    refine ⟨fun e' ee' => ?_, fun e' ee' => ?_⟩
    · rw [kfR 10 K5 r0] at ee'
      have q : e' = e := r_eq ee4 ee'
      subst q
      exact ⟨w1, w2, w3⟩
    · rw [kfR 10 K5 r0] at ee'
      have q : e' = e := r_eq ee4 ee'
      subst q
      exact y5
  unfold sX11_solve_55 sX11_solve_70
  refine s_br (fun _ => b71 X T5 en5 K45) (fun _ => ?_)
  refine s_ref (by rw [kfR 10 K5 r0]; exact ee4) ?_
  exact b71 X T5 en5 K45
end
