set_option maxRecDepth 20000 in
theorem zX5_keepTakes {ρ : Nat → Nat} {c : Cm} {F : Nat} (hF : 700000 ≤ F) (m4 : c.2.1 4 = true) (hA : pmA c [(47, 999), (6, 6)]) {h : Hp} {x0 : Nat} (T : TH ρ c h) (r_x0 : ρ x0 = 6) : Sat (sX5_keepTakes F h x0) (ZV ρ c) := by
  unfold sX5_keepTakes 
  have m_1 : ((0 : Int32)).toInt = 0 := rfl
  have m_2 : ((0 : Int32)).toInt = 0 := rfl
  have m_3 : Rg (0) (4096) ((0 : Int32)) := (rg_m (rg_b rfl : Rg (0) (0) ((0 : Int32))) (by decide))
  exact zX5_keepTakes_4 hF m4 (pmA_s hA rfl) F T r_x0 (rg_m (rg_b rfl : Rg (0) (0) ((0 : Int32))) (by decide)) (rg_m (rg_b rfl : Rg (0) (0) ((0 : Int32))) (by decide)) (by omega) (by have := m_3.1; have := m_3.2; omega)
theorem hi_fr {ρ : Nat → Nat} {c : Cm} {h h2 : Hp} {S : Nat → Nat → Nat → Bool} {x0 : Nat} {x : Int64} (T : TH ρ c h) (r0 : ρ x0 = 6) (f : Fr ρ (cat c S h) h h2) (s1 : ∀ w, S 6 w 4 = false) (s2 : ∀ w, S 4 w 2 = false) (s3 : ∀ w, S 2 w 4 = false) (s4 : ∀ w, S 4 w 0 = false) (s5 : ∀ w, ¬ w = 1503 → (∀ i, S 36 w i = false) ∧ ∀ i, S 34 w i = false) (P : HereI ρ c x0 x h) : HereI ρ c x0 x h2 := fun b e => by
  rw [(fr_RI f r0 (by decide) s1).2.2] at e
  obtain ⟨p1, p2, p3⟩ := P b e
  have rb : ρ b = 4 := thRn T r0 (i := 4) (k2 := 4) rfl (by decide) e
  refine ⟨p1, fun on s eo hs hb => ?_, fun ra era i hi n L rL wL => ?_⟩
  · rw [(fr_RI f rb (by decide) s4).2.2] at eo
    have ro := th_on T rb eo
    rw [(f.1 on s (by rw [ro]; decide) (by rw [ro]; show S 34 (cw c on) s = false; rw [th_ih T rb rfl eo rfl]; exact (s5 _ p1).2 s)).1]
    exact p2 on s eo hs hb
  · rw [(fr_RI f rb (by decide) s2).2.2] at era
    have rra : ρ ra = 36 := rr T (thR T rb (i := 2) (k2 := 36) rfl (by decide)) era
    rw [(f.1 ra i (by rw [rra]; decide) (by rw [rra]; show S 36 (cw c ra) i = false; rw [th_ih T rb rfl era rfl]; exact (s5 _ p1).1 i)).1] at n
    rw [(fr_RI f rL (by decide) s3).1]
    exact p3 ra era i hi n L rL wL
theorem hi_and {ρ : Nat → Nat} {c : Cm} {h : Hp} {x0 : Nat} {x y : Int64} (P : HereI ρ c x0 x h) : HereI ρ c x0 (x &&& y) h := fun b e => by
  obtain ⟨p1, p2, p3⟩ := P b e
  refine ⟨p1, fun on s eo hs hb => p2 on s eo hs ?_, p3⟩
  rw [bj_and, Bool.and_eq_true] at hb
  exact hb.1
theorem low_bt {x : Int64} {g : Hp} {o : Int32 × Hp} (e : sX11_lowest g x = some o) (nz : ¬ lg_cmp x (0 : Int64) = 0) : bitJ x o.1.toNatClampNeg = true := by
  unfold sX11_lowest at e
  have e := Option.some.inj (gd_s e).2
  rw [← e]
  exact sq_bit (cmp0 nz)
section
variable {ρ : Nat → Nat} {c : Cm} {F x0 : Nat}
theorem co_217 (hF : 700000 ≤ F) (m4 : c.2.1 4 = true) (hA : pmA c [(47, 999), (6, 6), (6, 7)]) (r0 : ρ x0 = 6) {h : Hp} (T : TH ρ c h) : Sat (sX5_collect_217 F h x0) (ZI ρ c 0 4096) := by
  unfold sX5_collect_217 sX5_collect_239
  obtain ⟨L, eL, rL⟩ := thR T r0 (i := 0) (k2 := 2) rfl (by decide)
  refine s_ref eL ?_
  refine s_dI0 (zX1_has hF T rL (rg_m (rg_b rfl : Rg 2 2 (2 : Int32)) (by decide))) (fun o2 _ e2 _ => ?_)
  obtain ⟨a2, g2⟩ := o2
  replace e2 : g2 = h := e2
  subst e2
  have fin : ∀ {g : Hp}, TH ρ c g → Sat (some (hI g x0 6, g)) (ZI ρ c 0 4096) := fun T' => s_some ⟨T', (thI T' r0 (k := 6) (i := 6) rfl : Rg 0 4096 _)⟩
  refine s_br (fun _ => fin T) (fun _ => ?_)
  refine s_br (fun _ => fin T) (fun _ => ?_)
  exact s_cV (zX5_keepTakes hF m4 (pmA_s hA rfl) T r0) (fun o5 T5 => fin T5)
theorem co_178 (hF : 700000 ≤ F) (m3 : c.2.1 3 = true) (m4 : c.2.1 4 = true) (hA : pmA c [(47, 999), (6, 6), (6, 7)]) (hi : pmO c 1503 [(34, 999), (35, 999), (36, 999), (37, 999), (38, 999), (4, 5), (4, 6), (4, 7), (4, 8), (4, 9), (4, 10)]) (r0 : ρ x0 = 6) {x3 x6 : Int32} (i3 : Rg 1 4096 x3) (i6 : Rg 0 64 x6) (sq : ∀ v : Int32, v.toInt < x6.toInt → SqB (c.2.1 50) v) : ∀ (f : Nat) {h : Hp} {x7 : Int32}, TH ρ c h → Rg 0 64 x7 → (64 - x7.toInt).toNat < f → Sat (sX5_collect_178 F f h x0 x3 x6 x7) (ZI ρ c 0 4096) := by
  intro f
  induction f with
  | zero => intros; omega
  | succ f ih =>
    intro h x7 T i7 hm
    rw [sX5_collect_178]
    refine s_br (fun _ => co_217 hF m4 hA r0 T) (fun c1 => ?_)
    refine s_br (fun _ => co_217 hF m4 hA r0 T) (fun c2 => ?_)
    have c1 := nle_i c1
    have c2 := nle_i c2
    have a1 := i7.1
    have a2 := i6.2
    have a3 := i3.2
    have ic := (thI T r0 (k := 6) (i := 6) rfl : Rg 0 4096 (hI h x0 6))
    refine s_q (fun v3 e3 => ?_)
    have iv : Rg 0 4095 v3 := by rw [e3]; exact ⟨ic.1, by omega⟩
    refine s_cV (zX5_addDrops hF m3 m4 (pmA_s hA rfl) T r0 ⟨by omega, by omega⟩ (sq x7 c1)) (fun o4 T4 => ?_)
    refine s_cV (zX5_keepLawful hF m3 m4 hA hi T4 r0 iv) (fun o5 T5 => ?_)
    refine s_q (fun v6 e6 => ?_)
    have t1 : (1 : Int32).toInt = 1 := rfl
    have e5 := ta (x := x7) (y := (1 : Int32)) (by omega)
    have ev : v6.toInt = x7.toInt + 1 := by rw [e6, e5, t1]
    exact ih T5 ⟨by omega, by omega⟩ (by omega)
theorem co_151 (hF : 700000 ≤ F) (m3 : c.2.1 3 = true) (m4 : c.2.1 4 = true) (hA : pmA c [(47, 999), (6, 6), (6, 7)]) (hi : pmO c 1503 [(34, 999), (35, 999), (36, 999), (37, 999), (38, 999), (4, 5), (4, 6), (4, 7), (4, 8), (4, 9), (4, 10)]) (r0 : ρ x0 = 6) {x3 : Int32} (i3 : Rg 1 4096 x3) {h : Hp} (T : TH ρ c h) (lw : LwR ρ c h) : Sat (sX5_collect_151 F h x0 x3) (ZI ρ c 0 4096) := by
  unfold sX5_collect_151 sX5_collect_173
  obtain ⟨L, eL, rL⟩ := thR T r0 (i := 0) (k2 := 2) rfl (by decide)
  refine s_ref eL ?_
  refine s_dI0 (zX1_has hF T rL (rg_m (rg_b rfl : Rg 1 1 (1 : Int32)) (by decide))) (fun o2 _ e2 _ => ?_)
  obtain ⟨a2, g2⟩ := o2
  replace e2 : g2 = h := e2
  subst e2
  have z0 : (0 : Int32).toInt = 0 := rfl
  have i0 : Rg 0 64 (0 : Int32) := rg_m (rg_b rfl : Rg 0 0 (0 : Int32)) (by decide)
  refine s_br (fun _ => ?_) (fun _ => ?_)
  · exact co_178 hF m3 m4 hA hi r0 i3 i0 (fun v hv => Or.inr (by rw [z0] at hv; omega)) F T i0 (by rw [z0]; omega)
  · refine s_ref eL ?_
    exact co_178 hF m3 m4 hA hi r0 i3 (thI T rL (k := 2) (i := 2) rfl : Rg 0 64 _) (fun v hv => lw_sq lw rL (kid_w T r0 (i := 0) rfl (by decide) eL) hv) F T i0 (by rw [z0]; omega)
theorem co_39 (hF : 700000 ≤ F) (m3 : c.2.1 3 = true) (m4 : c.2.1 4 = true) (hA : pmA c [(47, 999), (6, 6), (6, 7)]) (hi : pmO c 1503 [(34, 999), (35, 999), (36, 999), (37, 999), (38, 999), (4, 5), (4, 6), (4, 7), (4, 8), (4, 9), (4, 10)]) (r0 : ρ x0 = 6) {x3 : Int32} (i3 : Rg 1 4096 x3) : ∀ (f : Nat) {h : Hp} {x4 : Int64} {x6 : Int32}, TH ρ c h → LwR ρ c h → HereI ρ c x0 x4 h → Rg 0 64 x6 → (64 - x6.toInt).toNat < f → Sat (sX5_collect_39 F f h x0 x3 x4 x6) (ZI ρ c 0 4096) := by
  intro f
  induction f with
  | zero => intros; omega
  | succ f ih =>
    intro h x4 x6 T lw P i6 hm
    rw [sX5_collect_39]
    refine s_br (fun _ => co_151 hF m3 m4 hA hi r0 i3 T lw) (fun c1 => ?_)
    refine s_br (fun _ => co_151 hF m3 m4 hA hi r0 i3 T lw) (fun c2 => ?_)
    refine s_br (fun _ => co_151 hF m3 m4 hA hi r0 i3 T lw) (fun c3 => ?_)
    have c1 := nle_i c1
    have c3 := nle_i c3
    have t64 : (64 : Int32).toInt = 64 := rfl
    have a1 := i6.1
    have a3 := i3.2
    have ic := (thI T r0 (k := 6) (i := 6) rfl : Rg 0 4096 (hI h x0 6))
    refine s_dI0 (zX11_lowest hF T) (fun o4 eb4 e4 i4 => ?_)
    obtain ⟨s, g4⟩ := o4
    replace e4 : g4 = h := e4
    subst e4
    have hbit := low_bt eb4 c2
    replace hbit : bitJ x4 s.toNatClampNeg = true := hbit
    replace i4 : Rg 0 63 s := i4
    have s64 : s.toNatClampNeg < 64 := by have := rg_clamp (n := 63) i4 (by decide); omega
    refine s_q (fun v5 e5 => ?_)
    refine s_q (fun v6 e6 => ?_)
    have iv : Rg 0 4095 v6 := by rw [e6]; exact ⟨ic.1, by show (hI g4 x0 6).toInt ≤ 4095; omega⟩
    obtain ⟨b0, eb0, rb0⟩ := thM T r0 (i := 4) (j := 3) (k2 := 4) rfl (by decide) rfl (by decide) m3
    obtain ⟨on0, eo0, ro0⟩ := thR T rb0 (i := 0) (k2 := 34) rfl (by decide)
    have sq : SqB (c.2.1 50) s := sq_n ((P b0 eb0).2.1 on0 _ eo0 s64 hbit).2 (by rw [clamp_i i4.1])
    have ma : MenAt x0 s g4 := fun p on ep eo => ((P p ep).2.1 on _ eo s64 hbit).1
    have P5 : HereI ρ c x0 v5 g4 := by rw [e5]; exact hi_and P
    refine s_cVf (S := fS [(47, 999), (6, 6)] []) T (fs_sub (pmA_s hA rfl) fs_n) (zX5_addSteps (c := cat c (fS [(47, 999), (6, 6)] []) g4) hF m3 m4 fs_a (th_in _ T) r0 i4 ma sq) (fun o7 T7 f7 => ?_)
    have lw7 := lw_fr T f7 (fun _ => rfl) (fun _ => rfl) (fun _ => rfl) lw
    have P7 := hi_fr T r0 f7 (fun _ => rfl) (fun _ => rfl) (fun _ => rfl) (fun _ => rfl) (fun _ _ => ⟨fun _ => rfl, fun _ => rfl⟩) P5
    have fin : ∀ {g : Hp}, TH ρ c g → LwR ρ c g → HereI ρ c x0 v5 g → Sat (sX5_collect_139 F (sX5_collect_39 F f) g x0 x3 v5 x6 v6) (ZI ρ c 0 4096) := fun {g} Tg lg Pg => by
      unfold sX5_collect_139
      refine s_cVf (S := fS [(47, 999), (6, 6), (6, 7)] [(1503, [(34, 999), (35, 999), (36, 999), (37, 999), (38, 999), (4, 5), (4, 6), (4, 7), (4, 8), (4, 9), (4, 10)])]) Tg (fs_sub hA (fs_c hi fs_n)) (zX5_keepLawful (c := cat c (fS [(47, 999), (6, 6), (6, 7)] [(1503, [(34, 999), (35, 999), (36, 999), (37, 999), (38, 999), (4, 5), (4, 6), (4, 7), (4, 8), (4, 9), (4, 10)])]) g) hF m3 m4 fs_a (fs_o (.head _)) (th_in _ Tg) r0 iv) (fun o1 T1 f1 => ?_)
      refine s_q (fun v2 e2 => ?_)
      have t1 : (1 : Int32).toInt = 1 := rfl
      have e7 := ta (x := x6) (y := (1 : Int32)) (by omega)
      have ev : v2.toInt = x6.toInt + 1 := by rw [e2, e7, t1]
      exact ih T1 (lw_fr Tg f1 (fun _ => fs_cf (Or.inl rfl) rfl) (fun _ => fs_cf (Or.inl rfl) rfl) (fun _ => fs_cf (Or.inl rfl) rfl) lg) (hi_fr Tg r0 f1 (fun _ => fs_cf (Or.inl rfl) rfl) (fun _ => fs_cf (Or.inl rfl) rfl) (fun _ => fs_cf (Or.inl rfl) rfl) (fun _ => fs_cf (Or.inl rfl) rfl) (fun w hw => ⟨fun _ => fs_cf (Or.inr hw) rfl, fun _ => fs_cf (Or.inr hw) rfl⟩) Pg) ⟨by omega, by omega⟩ (by omega)
    obtain ⟨b, eb, rb⟩ := thM T7 r0 (i := 4) (j := 3) (k2 := 4) rfl (by decide) rfl (by decide) m3
    obtain ⟨ra, era, rra⟩ := thR T7 rb (i := 2) (k2 := 36) rfl (by decide)
    refine s_ref eb (s_ref era (s_ref eb ?_))
    have isd := (thI T7 rb (k := 4) (i := 5) rfl : Rg 0 1 (hI o7 b 5))
    refine s_gd (by rw [thN T7 rra (k := 36) (n := 2) rfl (by decide)]; exact rg_inB isd (by decide)) ?_
    refine s_br (fun c8 => ?_) (fun _ => fin T7 lw7 P7)
    refine s_ref eb ?_
    refine s_br (fun _ => fin T7 lw7 P7) (fun c9 => ?_)
    have ry : ∀ L, hR o7 x0 0 = some L → 0 ≤ (hI o7 L 4).toInt := fun L eL => (P7 b eb).2.2 ra era (hI o7 b 5).toNatClampNeg (by have := rg_clamp (n := 1) isd (by decide); omega) (by rw [← c8]; exact i4.1) L (rr T7 (thR T7 r0 (i := 0) (k2 := 2) rfl (by decide)) eL) (kid_w T7 r0 (i := 0) rfl (by decide) eL)
    refine s_cVf (S := fS [(47, 999), (6, 6)] []) T7 (fs_sub (pmA_s hA rfl) fs_n) (zX5_addCastling (c := cat c (fS [(47, 999), (6, 6)] []) o7) hF m3 m4 fs_a (th_in _ T7) r0 i4 (rg_m (rg_b rfl : Rg (-1) (-1) (-1 : Int32)) (by decide)) (rg_m iv (by decide)) sq (Or.inr rfl) ry) (fun o15 T15 f15 => ?_)
    have lw15 := lw_fr T7 f15 (fun _ => rfl) (fun _ => rfl) (fun _ => rfl) lw7
    have P15 := hi_fr T7 r0 f15 (fun _ => rfl) (fun _ => rfl) (fun _ => rfl) (fun _ => rfl) (fun _ _ => ⟨fun _ => rfl, fun _ => rfl⟩) P7
    have ry15 : ∀ L, hR o15 x0 0 = some L → 0 ≤ (hI o15 L 4).toInt := fun L eL => by
      rw [(fr_RI f15 r0 (by decide) (fun _ => rfl)).2.2] at eL
      rw [(fr_RI f15 (rr T7 (thR T7 r0 (i := 0) (k2 := 2) rfl (by decide)) eL) (by decide) (fun _ => rfl)).1]
      exact ry L eL
    refine s_cVf (S := fS [(47, 999), (6, 6)] []) T15 (fs_sub (pmA_s hA rfl) fs_n) (zX5_addCastling (c := cat c (fS [(47, 999), (6, 6)] []) o15) hF m3 m4 fs_a (th_in _ T15) r0 i4 (rg_m (rg_b rfl : Rg 1 1 (1 : Int32)) (by decide)) (rg_m iv (by decide)) sq (Or.inl rfl) ry15) (fun o16 T16 f16 => ?_)
    exact fin T16 (lw_fr T15 f16 (fun _ => rfl) (fun _ => rfl) (fun _ => rfl) lw15) (hi_fr T15 r0 f16 (fun _ => rfl) (fun _ => rfl) (fun _ => rfl) (fun _ => rfl) (fun _ _ => ⟨fun _ => rfl, fun _ => rfl⟩) P15)
end
theorem zX5_collect {ρ : Nat → Nat} {c : Cm} {F : Nat} {w_x1 w_x2 : Nat} (hF : 700000 ≤ F) (hA : pmA c [(47, 999), (6, 4), (6, 5), (6, 6), (6, 7), (6, 8), (6, 9)]) (hi_1503 : pmO c 1503 [(34, 999), (35, 999), (36, 999), (37, 999), (38, 999), (4, 5), (4, 6), (4, 7), (4, 8), (4, 9), (4, 10)]) {h : Hp} {x0 : Nat} {x1 : Nat} {x2 : Nat} {x3 : Int32} (o_x1 : cw c x1 = w_x1) (o_x2 : cw c x2 = w_x2) (nw_x1_1503 : ¬ w_x1 = 1503) (T : TH ρ c h) (r_x0 : ρ x0 = 6) (r_x1 : ρ x1 = 4) (r_x2 : ρ x2 = 47) (i_x3 : Rg (1) (4096) (x3)) (lw : (LwR ρ c h)) (rt : (RyP ρ c x1 h)) : Sat (sX5_collect F h x0 x1 x2 x3) (ZI ρ c (0) (4096)) := by
  unfold sX5_collect sX5_begin
  refine s_imp (Q := ZI ρ (nst (nst c 3) 4) 0 4096) ?_ (fun o ho => ⟨th_un (th_un ho.1), ho.2⟩)
  refine s_cl ?_
  refine s_hq (th_wR T r_x0 (k := 6) (i := 4) (j := 3) (k2 := 4) rfl (by decide) rfl (by decide) r_x1 rfl nid_3 (by decide) (by decide) rfl rfl (fun z => absurd rfl z) (pm_a hA rfl)) (fun h1 T1 e1 => ?_)
  refine s_hq (th_wR T1 r_x0 (k := 6) (i := 5) (j := 4) (k2 := 47) rfl (by decide) rfl (by decide) r_x2 rfl nid_4 (by decide) (by decide) rfl rfl (fun z => absurd rfl z) (pm_a hA rfl)) (fun h2 T2 e2 => ?_)
  refine s_hq (th_wI T2 r_x0 (k := 6) (i := 6) (lo := 0) (hi := 4096) rfl (rg_m (rg_b rfl : Rg 0 0 (0 : Int32)) (by decide)) (by decide) (by decide) (pm_a hA rfl)) (fun h3 T3 e3 => ?_)
  refine s_hq (th_wI T3 r_x0 (k := 6) (i := 7) (lo := 0) (hi := 1) rfl (rg_m (rg_b rfl : Rg 0 0 (0 : Int32)) (by decide)) (by decide) (by decide) (pm_a hA rfl)) (fun h4 T4 e4 => ?_)
  refine s_hq (th_wJ T4 r_x0 (by decide) (pm_a hA rfl)) (fun h5 T5 e5 => ?_)
  have m3 : (nst (nst c 3) 4).2.1 3 = true := nst_o nst_s
  have m4 : (nst (nst c 3) 4).2.1 4 = true := nst_s
  have E4 : hR h5 x0 4 = some x1 := by
    rw [e5, e4, e3, e2]
    show hR (wR h1 x0 5 (some x2)) x0 4 = some x1
    rw [r_R, if_neg (fun q => absurd q.2 (by decide)), e1, r_R, if_pos ⟨rfl, rfl⟩]
  have ne : ∀ {a k : Nat}, ρ a = k → k ≠ 6 → (∀ i, hI h5 a i = hI h a i) ∧ (∀ i, hJ h5 a i = hJ h a i) := fun {a k} ha hk => by
    have q : ∀ {P : Prop}, ¬ (a = x0 ∧ P) := fun z => hk (by rw [← ha, z.1, r_x0])
    refine ⟨fun i => ?_, fun i => ?_⟩
    · rw [e5]
      show hI h4 _ i = _
      rw [e4, r_I, if_neg q, e3, r_I, if_neg q, e2, e1]
      rfl
    · rw [e5, r_J, if_neg q, e4, e3, e2, e1]
      rfl
  have R1 : hR h5 x1 2 = hR h x1 2 := by
    rw [e5, e4, e3, e2]
    show hR (wR h1 x0 5 (some x2)) x1 2 = _
    rw [r_R, if_neg (fun q => absurd q.2 (by decide)), e1, r_R, if_neg (fun q => absurd q.2 (by decide))]
  have lw5 : LwR ρ (nst (nst c 3) 4) h5 := fun L rL wL hc => by
    rw [(ne rL (by decide)).1, (ne rL (by decide)).1, (ne rL (by decide)).1] at hc
    exact lw L rL wL hc
  obtain ⟨L, eL, rL⟩ := thR T5 r_x0 (i := 0) (k2 := 2) rfl (by decide)
  have hA' : pmA (nst (nst c 3) 4) [(47, 999), (6, 4), (6, 5), (6, 6), (6, 7), (6, 8), (6, 9)] := hA
  have rest : ∀ {t0 : Int32}, Rg 0 1 t0 → Sat (sX5_begin_54 F h5 x0 t0 x0) (fun o => Sat (cl (hR o x0 4) fun r_2 => cl (sX5_earlyEnd o x0 r_2) fun o_3 => br (o_3.1 = 0) (cl (hR o_3.2 x0 4) fun r_5 => cl (hR o_3.2 r_5 1) fun r_6 => cl (hR o_3.2 x0 4) fun r_7 => gd (inB (hI o_3.2 r_7 5) (hN o_3.2 r_6)) <| nm (hJ o_3.2 r_6 (hI o_3.2 r_7 5).toNatClampNeg) fun v_9 => sX5_collect_39 F F o_3.2 x0 x3 v_9 (0 : Int32)) (some ((0 : Int32), o_3.2))) (ZI ρ (nst (nst c 3) 4) 0 4096)) := fun it => by
    refine s_imp (zX5_begin_54 (c := cat (nst (nst c 3) 4) (fS [(6, 8), (6, 9)] []) h5) hF m3 fs_a (th_in _ T5) r_x0 it r_x0) (fun o ho => ?_)
    have To : TH ρ (nst (nst c 3) 4) o := th_out T5 (fs_sub (pmA_s hA' rfl) fs_n) ho
    have fo : Fr ρ (cat (nst (nst c 3) 4) (fS [(6, 8), (6, 9)] []) h5) h5 o := fr_u T5 ho.2.2
    have Eo : hR o x0 4 = some x1 := by rw [(fr_RI fo r_x0 (by decide) (fun _ => rfl)).2.2]; exact E4
    refine s_ref Eo ?_
    refine s_dI0 (zX5_earlyEnd hF To r_x0 r_x1) (fun o3 _ e3' _ => ?_)
    obtain ⟨a3, g3⟩ := o3
    replace e3' : g3 = o := e3'
    subst e3'
    refine s_br (fun _ => ?_) (fun _ => s_some ⟨To, rg_m (rg_b rfl : Rg 0 0 (0 : Int32)) (by decide)⟩)
    obtain ⟨of, ef, rf⟩ := thR To r_x1 (i := 1) (k2 := 35) rfl (by decide)
    have isd := (thI To r_x1 (k := 4) (i := 5) rfl : Rg 0 1 (hI g3 x1 5))
    refine s_ref Eo (s_ref ef (s_ref Eo ?_))
    refine s_gd (by rw [thN To rf (k := 35) (n := 2) rfl (by decide)]; exact rg_inB isd (by decide)) ?_
    refine s_q (fun v9 e9 => ?_)
    have z0 : (0 : Int32).toInt = 0 := rfl
    refine co_39 hF m3 m4 (pmA_s hA' rfl) hi_1503 r_x0 i_x3 F To (lw_fr T5 fo (fun _ => rfl) (fun _ => rfl) (fun _ => rfl) lw5) ?_ (rg_m (rg_b rfl : Rg 0 0 (0 : Int32)) (by decide)) (by rw [z0]; omega)
    intro b eb
    rw [Eo] at eb
    have hb := Option.some.inj eb
    subst hb
    refine ⟨fun z => nw_x1_1503 (o_x1.symm.trans z), fun on s eo hs hbt => ?_, fun ra era i hi n L' rL' wL' => ?_⟩
    · rw [e9] at hbt
      have := th_ps To r_x1 eo ef hs (show (hI g3 x1 5).toNatClampNeg < 2 by have := rg_clamp (n := 1) isd (by decide); omega) hbt
      exact ⟨this.1, this.2.2⟩
    · rw [(fr_RI fo r_x1 (by decide) (fun _ => rfl)).2.2, R1] at era
      have rra : ρ ra = 36 := rr T (thR T r_x1 (i := 2) (k2 := 36) rfl (by decide)) era
      rw [(fr_RI fo rra (by decide) (fun _ => rfl)).1, (ne rra (by decide)).1] at n
      rw [(fr_RI fo rL' (by decide) (fun _ => rfl)).1, (ne rL' (by decide)).1]
      exact rt ra era i hi n L' rL' wL'
  refine s_ref eL ?_
  unfold sX5_begin_49
  refine s_br (fun _ => rest (rg_m (rg_b rfl : Rg 1 1 (1 : Int32)) (by decide))) (fun _ => ?_)
  refine s_ref eL ?_
  refine s_dI0 (zX1_has hF T5 rL (rg_m (rg_b rfl : Rg 12 12 (12 : Int32)) (by decide))) (fun o9 _ e9 _ => ?_)
  obtain ⟨a9, g9⟩ := o9
  replace e9 : g9 = h5 := e9
  subst e9
  refine s_br (fun _ => rest (rg_m (rg_b rfl : Rg 1 1 (1 : Int32)) (by decide))) (fun _ => rest (rg_m (rg_b rfl : Rg 0 0 (0 : Int32)) (by decide)))

set_option maxRecDepth 20000 in
theorem zX3_addToHand {ρ : Nat → Nat} {c : Cm} {F : Nat} {w_x0 : Nat} (hF : 700000 ≤ F) (hO_x0 : pmO c w_x0 [(37, 999)]) {h : Hp} {x0 : Nat} {x1 : Int32} {x2 : Int32} {x3 : Int32} (o_x0 : cw c x0 = w_x0) (T : TH ρ c h) (r_x0 : ρ x0 = 4) (i_x1 : Rg (0) (1) (x1)) (i_x2 : Rg (0) (15) (x2)) (i_x3 : Rg (-1) (1) (x3)) : Sat (sX3_addToHand h x0 x1 x2 x3) (ZV ρ c) := by
  unfold sX3_addToHand 
  obtain ⟨r_1, e_r_1, q_r_1⟩ := thR T r_x0 (k := 4) (i := 3) (k2 := 37) rfl (by decide)
  refine s_ref e_r_1 ?_
  refine s_gd (by rw [thN T q_r_1 (k := 37) (n := 2) rfl (by decide)]; exact rg_inB (i_x1 : Rg (0) (1) (x1)) (by decide)) ?_
  refine s_gd (by rw [thN T q_r_1 (k := 37) (n := 2) rfl (by decide)]; exact rg_inB (i_x1 : Rg (0) (1) (x1)) (by decide)) ?_
  refine s_hq (th_wJ T q_r_1 (k := 37) (by decide) (pm_o hO_x0 (th_ih T r_x0 (k := 4) rfl e_r_1 o_x0) rfl)) (fun h_4 T_1 w_2 => ?_)
  exact s_some (T_1)
set_option maxRecDepth 20000 in
theorem zX3_passSize {ρ : Nat → Nat} {c : Cm} {F : Nat} (hF : 700000 ≤ F) {h : Hp} {x0 : Nat} (T : TH ρ c h) (r_x0 : ρ x0 = 4) : Sat (sX3_passSize h x0) (ZI0 h (0) (7)) := by
  unfold sX3_passSize 
  exact s_some ⟨rfl, (rg_and (rg_b rfl : Rg (7) (7) ((7 : Int32))) (by decide) : Rg (0) (7) (((hJ h x0 9).toInt32) &&& (7 : Int32)))⟩
set_option maxRecDepth 20000 in
theorem zX3_addPass {ρ : Nat → Nat} {c : Cm} {F : Nat} {w_x0 : Nat} (hF : 700000 ≤ F) (hO_x0 : pmO c w_x0 [(4, 9), (4, 10)]) {h : Hp} {x0 : Nat} {x1 : Int32} (o_x0 : cw c x0 = w_x0) (T : TH ρ c h) (r_x0 : ρ x0 = 4) (i_x1 : Rg (-186) (249) (x1)) : Sat (sX3_addPass h x0 x1) (ZV ρ c) := by
  unfold sX3_addPass sX3_addPass_22 sX3_addPass_66
  refine s_dI0 (zX3_passSize hF T r_x0) (fun o_1 eb_o_1 e_o_1 i_o_1 => ?_)
  have T_1 := th_eq e_o_1 T
  refine s_br (fun c_2 => ?_) (fun c_2 => ?_)
  · have _ := c_2
    refine s_hq (th_wJ T_1 r_x0 (k := 4) (by decide) (pm_o hO_x0 o_x0 rfl)) (fun h_1q1 T_3 w_4 => ?_)
    exact s_some (T_3)
  · have _ := c_2
    refine s_br (fun c_5 => ?_) (fun c_5 => ?_)
    · have _ := c_5
      have i_f_6 : Rg (0) (6) (o_1.1) := rg_lt1 c_5 i_o_1 (rg_b rfl : Rg (7) (7) ((7 : Int32)))
      refine s_hq (th_wJ T_1 r_x0 (k := 4) (by decide) (pm_o hO_x0 o_x0 rfl)) (fun h_4 T_7 w_8 => ?_)
      refine s_br (fun c_9 => ?_) (fun c_9 => ?_)
      · have _ := c_9
        have i_f_10 : Rg (0) (0) (o_1.1) := rg_le1 c_9 i_f_6 (rg_b rfl : Rg (0) (0) (0 : Int32))
        refine s_hq (th_wJ T_7 r_x0 (k := 4) (by decide) (pm_o hO_x0 o_x0 rfl)) (fun h_1q2 T_11 w_12 => ?_)
        exact s_some (T_11)
      · have _ := c_9
        have i_f_13 : Rg (1) (6) (o_1.1) := rg_lt2 (nle_lt c_9) (rg_b rfl : Rg (0) (0) (0 : Int32)) i_f_6
        refine s_hq (th_wJ T_7 r_x0 (k := 4) (by decide) (pm_o hO_x0 o_x0 rfl)) (fun h_1q3 T_14 w_15 => ?_)
        exact s_some (T_14)
    · have _ := c_5
      have i_f_16 : Rg (7) (7) (o_1.1) := rg_le2 (nlt_le c_5) (rg_b rfl : Rg (7) (7) ((7 : Int32))) i_o_1
      refine s_hq (th_wJ T_1 r_x0 (k := 4) (by decide) (pm_o hO_x0 o_x0 rfl)) (fun h_1q4 T_17 w_18 => ?_)
      exact s_some (T_17)
set_option maxRecDepth 20000 in
theorem zX3_clearPass {ρ : Nat → Nat} {c : Cm} {F : Nat} {w_x0 : Nat} (hF : 700000 ≤ F) (hO_x0 : pmO c w_x0 [(4, 9), (4, 10)]) {h : Hp} {x0 : Nat} (o_x0 : cw c x0 = w_x0) (T : TH ρ c h) (r_x0 : ρ x0 = 4) : Sat (sX3_clearPass h x0) (ZV ρ c) := by
  unfold sX3_clearPass 
  refine s_hq (th_wJ T r_x0 (k := 4) (by decide) (pm_o hO_x0 o_x0 rfl)) (fun h_1 T_1 w_2 => ?_)
  refine s_hq (th_wJ T_1 r_x0 (k := 4) (by decide) (pm_o hO_x0 o_x0 rfl)) (fun h_2 T_3 w_4 => ?_)
  exact s_some (T_3)
set_option maxRecDepth 20000 in
theorem zX5_notePass_56 {ρ : Nat → Nat} {c : Cm} {F : Nat} {w_x1 : Nat} (hF : 700000 ≤ F) (hO_x1 : pmO c w_x1 [(4, 9), (4, 10)]) : ∀ (f : Nat) {h : Hp} {x1 : Nat} {x3 : Int32} {x5 : Int32} {x6 : Int32} {x7 : Int32}, cw c x1 = w_x1 → TH ρ c h → ρ x1 = 4 → Rg (2) (7) (x3) → Rg (0) (63) (x5) → Rg (-31) (31) (x6) → Rg (1) (7) (x7) → (7 - x7.toInt).toNat < f → Sat (sX5_notePass_56 F f h x1 x3 x5 x6 x7) (ZV ρ c) := by
  intro f
  induction f with
  | zero => intros; omega
  | succ f ih =>
    intro h x1 x3 x5 x6 x7 o_x1 T r_x1 i_x3 i_x5 i_x6 i_x7 hm
    rw [sX5_notePass_56]
    obtain ⟨C_56, hC_56⟩ : ∃ C : Int, C = x7.toInt := ⟨_, rfl⟩
    have hk_56 : ∀ {h : Hp} {x1 : Nat} {x3 : Int32} {x5 : Int32} {x6 : Int32} {x7 : Int32}, cw c x1 = w_x1 → TH ρ c h → ρ x1 = 4 → Rg (2) (7) (x3) → Rg (0) (63) (x5) → Rg (-31) (31) (x6) → Rg (1) (7) (x7) → C_56 < x7.toInt → Sat (sX5_notePass_56 F f h x1 x3 x5 x6 x7) (ZV ρ c) := by
      intro h' x1' x3' x5' x6' x7' o_x1' T' r_x1' i_x3' i_x5' i_x6' i_x7' hl
      exact ih o_x1' T' r_x1' i_x3' i_x5' i_x6' i_x7' (by have := i_x7'.1; have := i_x7'.2; omega)
    have hc_56 : C_56 ≤ x7.toInt := by omega
    refine s_br (fun c_1 => ?_) (fun c_1 => ?_)
    · have _ := c_1
      have i_f_2 : Rg (2) (7) (x7) := rg_le2 c_1 i_x3 i_x7
      exact s_some (T)
    · have _ := c_1
      have i_f_3 : Rg (1) (6) (x7) := rg_lt1 (nle_lt c_1) i_x7 i_x3
      refine s_cV (zX3_addPass hF (pmO_s hO_x1 rfl) o_x1 T r_x1 (rg_add i_x5 (rg_muln (rg_m i_f_3 (by decide) : Rg (-6) (6) (x7)) (rg_m i_x6 (by decide) : Rg (-31) (31) (x6)) (by decide) : Rg (-186) (186) ((x7 * x6))) (by decide) : Rg (-186) (249) ((x5 + (x7 * x6))))) (fun o_2 T_4 => ?_)
      refine s_q (fun v_3 e_5 => ?_)
      have i_v_3 : Rg (2) (7) (v_3) := by rw [e_5]; exact (rg_add i_f_3 (rg_b rfl : Rg (1) (1) ((1 : Int32))) (by decide) : Rg (2) (7) (x7 + (1 : Int32)))
      have m_6 : (v_3).toInt = x7.toInt + 1 := by rw [e_5]; exact rg_inc i_f_3 (by decide)
      exact hk_56 o_x1 T_4 r_x1 i_x3 i_x5 i_x6 (rg_m i_v_3 (by decide)) (by have := hc_56; omega)
set_option maxRecDepth 20000 in
theorem zX5_notePass {ρ : Nat → Nat} {c : Cm} {F : Nat} {w_x1 : Nat} (hF : 700000 ≤ F) (hO_x1 : pmO c w_x1 [(4, 9), (4, 10)]) {h : Hp} {x0 : Nat} {x1 : Nat} {x2 : Int32} (o_x1 : cw c x1 = w_x1) (T : TH ρ c h) (r_x0 : ρ x0 = 6) (r_x1 : ρ x1 = 4) (i_x2 : Rg (-2147483648) (2147483647) (x2)) : Sat (sX5_notePass F h x0 x1 x2) (ZV ρ c) := by
  unfold sX5_notePass sX5_passedBy sX5_comeTo sX5_notePass_31 sX5_leftBy
  refine s_cV (zX3_clearPass hF (pmO_s hO_x1 rfl) o_x1 T r_x1) (fun o_1 T_1 => ?_)
  refine s_pu (fun o_2z e_2 => ?_)
  try dsimp only
  have i_o_2z : Rg (0) (7) (o_2z) := by rw [e_2]; exact (rg_and (rg_b rfl : Rg (7) (7) ((7 : Int32))) (by decide) : Rg (0) (7) ((x2 >>> ((26 : Int32) &&& 31)) &&& (7 : Int32)))
  refine s_pu (fun o_3z e_3 => ?_)
  try dsimp only
  have i_o_3z : Rg (0) (63) (o_3z) := by rw [e_3]; exact (rg_and (rg_b rfl : Rg (63) (63) ((63 : Int32))) (by decide) : Rg (0) (63) (x2 &&& (63 : Int32)))
  refine s_br (fun c_4 => ?_) (fun c_4 => ?_)
  · have _ := c_4
    have i_f_5 : Rg (0) (1) (o_2z) := rg_lt1 c_4 i_o_2z (rg_b rfl : Rg (2) (2) ((2 : Int32)))
    exact s_some (T_1)
  · have _ := c_4
    have i_f_6 : Rg (2) (7) (o_2z) := rg_le2 (nlt_le c_4) (rg_b rfl : Rg (2) (2) ((2 : Int32))) i_o_2z
    obtain ⟨r_5, e_r_5, q_r_5⟩ := thR T_1 r_x1 (k := 4) (i := 0) (k2 := 34) rfl (by decide)
    refine s_ref e_r_5 ?_
    refine s_gd (by rw [thN T_1 q_r_5 (k := 34) (n := 64) rfl (by decide)]; exact rg_inB (i_o_3z : Rg (0) (63) (o_3z)) (by decide)) ?_
    refine s_br (fun c_7 => ?_) (fun c_7 => ?_)
    · have _ := c_7
      have i_f_8 : Rg (-1) (-1) ((hI o_1 r_5 o_3z.toNatClampNeg)) := rg_eq c_7 (rg_b rfl : Rg (-1) (-1) ((- 1 : Int32)))
      exact s_some (T_1)
    · have _ := c_7
      refine s_pu (fun o_8z e_9 => ?_)
      try dsimp only
      have i_o_8z : Rg (0) (63) (o_8z) := by rw [e_9]; exact (rg_and (rg_b rfl : Rg (63) (63) ((63 : Int32))) (by decide) : Rg (0) (63) ((x2 >>> ((6 : Int32) &&& 31)) &&& (63 : Int32)))
      refine s_gd (rg_ne0 i_f_6 (by decide)) ?_
      refine s_q (fun v_10 e_10 => ?_)
      have i_v_10 : Rg (-31) (31) (v_10) := by rw [e_10]; exact (rg_divn (rg_m (rg_sub i_o_3z i_o_8z (by decide) : Rg (-63) (63) ((o_3z - o_8z))) (by decide) : Rg (-63) (63) ((o_3z - o_8z))) i_f_6 (by decide) : Rg (-31) (31) ((o_3z - o_8z) / o_2z))
      refine s_cV (zX3_addPass hF (pmO_s hO_x1 rfl) o_x1 T_1 r_x1 (rg_m i_o_3z (by decide))) (fun o_11 T_11 => ?_)
      have m_12 : Rg (1) (7) ((1 : Int32)) := (rg_m (rg_b rfl : Rg (1) (1) ((1 : Int32))) (by decide))
      exact zX5_notePass_56 hF (pmO_s hO_x1 rfl) F o_x1 T_11 r_x1 i_f_6 i_o_8z i_v_10 (rg_m (rg_b rfl : Rg (1) (1) ((1 : Int32))) (by decide)) (by have := m_12.1; have := m_12.2; omega)
set_option maxRecDepth 20000 in
theorem zX5_make_216 {ρ : Nat → Nat} {c : Cm} {F : Nat} {w_x1 w_t1 : Nat} {g0 : Hp} (hF : 700000 ≤ F) (hO_t1 : pmO c w_t1 [(4, 6)]) (hO_x1 : pmO c w_x1 [(38, 999), (4, 5)]) {h : Hp} {x0 : Nat} {x1 : Nat} {x3 : Int32} {t0 : Int32} {t1 : Nat} (o_x1 : cw c x1 = w_x1) (o_t1 : cw c t1 = w_t1) (T : TH ρ c h) (r_x0 : ρ x0 = 6) (r_x1 : ρ x1 = 4) (i_x3 : Rg (0) (1) (x3)) (i_t0 : Rg (0) (200) (t0)) (r_t1 : ρ t1 = 4) (ry : (RyC ρ c g0 h)) : Sat (sX5_make_216 F h x0 x1 x3 t0 t1) (ZQ (ZV ρ c) (fun o => RyC ρ c g0 o)) := by
  unfold sX5_make_216 sX5_make_267
  refine s_hq (th_wI T r_t1 (k := 4) (lo := (0)) (hi := (999)) rfl ((rg_m i_t0 (by decide)) : Rg (0) (999) (t0)) (by decide) (by decide) (pm_o hO_t1 o_t1 rfl)) (fun h_1 T_1 w_2 => ?_)
  refine s_hq (th_wI T_1 r_x1 (k := 4) (lo := (0)) (hi := (1)) rfl ((rg_sub (rg_b rfl : Rg (1) (1) ((1 : Int32))) i_x3 (by decide) : Rg (0) (1) (((1 : Int32) - x3))) : Rg (0) (1) (((1 : Int32) - x3))) (by decide) (by decide) (pm_o hO_x1 o_x1 rfl)) (fun h_2 T_3 w_4 => ?_)
  obtain ⟨r_3, e_r_3, q_r_3⟩ := thR T_3 r_x0 (k := 6) (i := 0) (k2 := 2) rfl (by decide)
  refine s_ref e_r_3 ?_
  refine s_br (fun c_5 => ?_) (fun c_5 => ?_)
  · have _ := c_5
    have i_f_6 : Rg (0) (0) ((hI h_2 r_3 7)) := rg_le1 c_5 (thI T_3 q_r_3 (k := 2) (i := 7) rfl : Rg (0) (9) ((hI h_2 r_3 7))) (rg_b rfl : Rg (0) (0) (0 : Int32))
    have pf_7 : RyC ρ c g0 h_2 := (rc_fr T_1  (fr1Io (B := [(4, 5)]) r_x1 o_x1 rfl w_4) (fun _ => rfl) (fun _ _ => rfl) (fun _ => rfl) (rc_fr T  (fr1Io (B := [(4, 6)]) r_t1 o_t1 rfl w_2) (fun _ => rfl) (fun _ _ => rfl) (fun _ => rfl) ry))
    exact s_some ⟨(T_3), pf_7⟩
  · have _ := c_5
    have i_f_8 : Rg (1) (9) ((hI h_2 r_3 7)) := rg_lt2 (nle_lt c_5) (rg_b rfl : Rg (0) (0) (0 : Int32)) (thI T_3 q_r_3 (k := 2) (i := 7) rfl : Rg (0) (9) ((hI h_2 r_3 7)))
    refine s_dI0 (zX5_isRoyalHit hF T_3 r_x0 r_x1 ((rg_hs w_4 (rg_sub (rg_b rfl : Rg (1) (1) ((1 : Int32))) i_x3 (by decide) : Rg (0) (1) (((1 : Int32) - x3)))) : Rg (0) (1) ((hI h_2 x1 5)))) (fun o_5 eb_o_5 e_o_5 i_o_5 => ?_)
    have T_9 := th_eq e_o_5 T_3
    refine s_br (fun c_10 => ?_) (fun c_10 => ?_)
    · have _ := c_10
      have i_f_11 : Rg (0) (0) (o_5.1) := rg_eq c_10 (rg_b rfl : Rg (0) (0) (0 : Int32))
      have pf_12 : RyC ρ c g0 o_5.2 := (by rw [e_o_5]; exact (rc_fr T_1  (fr1Io (B := [(4, 5)]) r_x1 o_x1 rfl w_4) (fun _ => rfl) (fun _ _ => rfl) (fun _ => rfl) (rc_fr T  (fr1Io (B := [(4, 6)]) r_t1 o_t1 rfl w_2) (fun _ => rfl) (fun _ _ => rfl) (fun _ => rfl) ry)))
      exact s_some ⟨(T_9), pf_12⟩
    · have _ := c_10
      have i_f_13 : Rg (1) (1) (o_5.1) := rg_nlo c_10 i_o_5 (rg_b rfl : Rg (0) (0) (0 : Int32))
      obtain ⟨r_7, e_r_7, q_r_7⟩ := thR T_9 r_x1 (k := 4) (i := 4) (k2 := 38) rfl (by decide)
      refine s_ref e_r_7 ?_
      refine s_ref e_r_7 ?_
      refine s_gd (by rw [thN T_9 q_r_7 (k := 38) (n := 2) rfl (by decide)]; exact rg_inB (i_x3 : Rg (0) (1) (x3)) (by decide)) ?_
      refine s_gd (by rw [thN T_9 q_r_7 (k := 38) (n := 2) rfl (by decide)]; exact rg_inB (i_x3 : Rg (0) (1) (x3)) (by decide)) ?_
      refine s_hq (th_wI T_9 q_r_7 (k := 38) (lo := (0)) (hi := (9)) rfl ((rg_m (rg_if (fun hq_ => by have i_fI1947_1 : Rg (10) (10) (((hI o_5.2 r_7 x3.toNatClampNeg) + (1 : Int32))) := rg_lt2 hq_ (rg_b rfl : Rg (9) (9) ((9 : Int32))) (rg_add (thI T_9 q_r_7 (k := 38) rfl : Rg (0) (9) ((hI o_5.2 r_7 x3.toNatClampNeg))) (rg_b rfl : Rg (1) (1) ((1 : Int32))) (by decide) : Rg (1) (10) (((hI o_5.2 r_7 x3.toNatClampNeg) + (1 : Int32)))); have i_fI1947_2 : Rg (9) (9) ((hI o_5.2 r_7 x3.toNatClampNeg)) := rg_bka (i_fI1947_1 : Rg (10) (10) (((hI o_5.2 r_7 x3.toNatClampNeg) + (1 : Int32)))) (thI T_9 q_r_7 (k := 38) rfl : Rg (0) (9) ((hI o_5.2 r_7 x3.toNatClampNeg))) (rg_b rfl : Rg (1) (1) ((1 : Int32))) (by decide); exact (rg_m (rg_b rfl : Rg (9) (9) ((9 : Int32))) (by decide))) (fun hq_ => by have i_fI3083_1 : Rg (1) (9) (((hI o_5.2 r_7 x3.toNatClampNeg) + (1 : Int32))) := rg_le1 (nlt_le hq_) (rg_add (thI T_9 q_r_7 (k := 38) rfl : Rg (0) (9) ((hI o_5.2 r_7 x3.toNatClampNeg))) (rg_b rfl : Rg (1) (1) ((1 : Int32))) (by decide) : Rg (1) (10) (((hI o_5.2 r_7 x3.toNatClampNeg) + (1 : Int32)))) (rg_b rfl : Rg (9) (9) ((9 : Int32))); have i_fI3083_2 : Rg (0) (8) ((hI o_5.2 r_7 x3.toNatClampNeg)) := rg_bka (i_fI3083_1 : Rg (1) (9) (((hI o_5.2 r_7 x3.toNatClampNeg) + (1 : Int32)))) (thI T_9 q_r_7 (k := 38) rfl : Rg (0) (9) ((hI o_5.2 r_7 x3.toNatClampNeg))) (rg_b rfl : Rg (1) (1) ((1 : Int32))) (by decide); exact i_fI3083_1) : Rg (1) (9) ((if (9 : Int32) < ((hI o_5.2 r_7 x3.toNatClampNeg) + (1 : Int32)) then (9 : Int32) else ((hI o_5.2 r_7 x3.toNatClampNeg) + (1 : Int32))))) (by decide)) : Rg (0) (9) ((if (9 : Int32) < ((hI o_5.2 r_7 x3.toNatClampNeg) + (1 : Int32)) then (9 : Int32) else ((hI o_5.2 r_7 x3.toNatClampNeg) + (1 : Int32))))) (by decide) (by decide) (pm_o hO_x1 (th_ih T_9 r_x1 (k := 4) rfl e_r_7 o_x1) rfl)) (fun h_11 T_14 w_15 => ?_)
      have pf_16 : RyC ρ c g0 h_11 := (rc_fr T_9  (fr1Io (B := [(38, 999)]) q_r_7 (th_ih T_9 r_x1 (k := 4) rfl e_r_7 o_x1) rfl w_15) (fun _ => rfl) (fun _ _ => rfl) (fun _ => rfl) (by rw [e_o_5]; exact (rc_fr T_1  (fr1Io (B := [(4, 5)]) r_x1 o_x1 rfl w_4) (fun _ => rfl) (fun _ _ => rfl) (fun _ => rfl) (rc_fr T  (fr1Io (B := [(4, 6)]) r_t1 o_t1 rfl w_2) (fun _ => rfl) (fun _ _ => rfl) (fun _ => rfl) ry))))
      exact s_some ⟨(T_14), pf_16⟩
set_option maxRecDepth 20000 in
theorem zX5_make_192 {ρ : Nat → Nat} {c : Cm} {F : Nat} {w_x1 : Nat} {g0 : Hp} (hF : 700000 ≤ F) (hO_x1 : pmO c w_x1 [(38, 999), (4, 5), (4, 6)]) {h : Hp} {x0 : Nat} {x1 : Nat} {x3 : Int32} {t0 : Int32} (o_x1 : cw c x1 = w_x1) (T : TH ρ c h) (r_x0 : ρ x0 = 6) (r_x1 : ρ x1 = 4) (i_x3 : Rg (0) (1) (x3)) (i_t0 : Rg (0) (1) (t0)) (ry : (RyC ρ c g0 h)) : Sat (sX5_make_192 F h x0 x1 x3 t0) (ZQ (ZV ρ c) (fun o => RyC ρ c g0 o)) := by
  unfold sX5_make_192 
  refine s_br (fun c_1 => ?_) (fun c_1 => ?_)
  · have _ := c_1
    have i_f_2 : Rg (0) (0) (t0) := rg_eq c_1 (rg_b rfl : Rg (0) (0) (0 : Int32))
    exact zX5_make_216 hF (pmO_s hO_x1 rfl) (pmO_s hO_x1 rfl) o_x1 o_x1 T r_x0 r_x1 i_x3 (rg_m (rg_if (fun hq_ => by have i_fI4635_1 : Rg (201) (1000) (((hI h x1 6) + (1 : Int32))) := rg_lt2 hq_ (rg_b rfl : Rg (200) (200) ((200 : Int32))) (rg_add (thI T r_x1 (k := 4) (i := 6) rfl : Rg (0) (999) ((hI h x1 6))) (rg_b rfl : Rg (1) (1) ((1 : Int32))) (by decide) : Rg (1) (1000) (((hI h x1 6) + (1 : Int32)))); have i_fI4635_2 : Rg (200) (999) ((hI h x1 6)) := rg_bka (i_fI4635_1 : Rg (201) (1000) (((hI h x1 6) + (1 : Int32)))) (thI T r_x1 (k := 4) (i := 6) rfl : Rg (0) (999) ((hI h x1 6))) (rg_b rfl : Rg (1) (1) ((1 : Int32))) (by decide); exact (rg_m (rg_b rfl : Rg (200) (200) ((200 : Int32))) (by decide))) (fun hq_ => by have i_fI6308_1 : Rg (1) (200) (((hI h x1 6) + (1 : Int32))) := rg_le1 (nlt_le hq_) (rg_add (thI T r_x1 (k := 4) (i := 6) rfl : Rg (0) (999) ((hI h x1 6))) (rg_b rfl : Rg (1) (1) ((1 : Int32))) (by decide) : Rg (1) (1000) (((hI h x1 6) + (1 : Int32)))) (rg_b rfl : Rg (200) (200) ((200 : Int32))); have i_fI6308_2 : Rg (0) (199) ((hI h x1 6)) := rg_bka (i_fI6308_1 : Rg (1) (200) (((hI h x1 6) + (1 : Int32)))) (thI T r_x1 (k := 4) (i := 6) rfl : Rg (0) (999) ((hI h x1 6))) (rg_b rfl : Rg (1) (1) ((1 : Int32))) (by decide); exact i_fI6308_1) : Rg (1) (200) ((if (200 : Int32) < ((hI h x1 6) + (1 : Int32)) then (200 : Int32) else ((hI h x1 6) + (1 : Int32))))) (by decide)) r_x1 ry
  · have _ := c_1
    have i_f_3 : Rg (1) (1) (t0) := rg_nlo c_1 i_t0 (rg_b rfl : Rg (0) (0) (0 : Int32))
    exact zX5_make_216 hF (pmO_s hO_x1 rfl) (pmO_s hO_x1 rfl) o_x1 o_x1 T r_x0 r_x1 i_x3 (rg_m (rg_b rfl : Rg (0) (0) ((0 : Int32))) (by decide)) r_x1 ry
set_option maxRecDepth 20000 in
theorem zX5_make_151 {ρ : Nat → Nat} {c : Cm} {F : Nat} {w_x1 : Nat} {g0 : Hp} (hF : 700000 ≤ F) (hO_x1 : pmO c w_x1 [(38, 999), (4, 5), (4, 6), (4, 9), (4, 10)]) {h : Hp} {x0 : Nat} {x1 : Nat} {x2 : Int32} {x3 : Int32} {x4 : Int32} {x5 : Int32} {x6 : Int32} (o_x1 : cw c x1 = w_x1) (T : TH ρ c h) (r_x0 : ρ x0 = 6) (r_x1 : ρ x1 = 4) (i_x2 : Rg (-2147483648) (2147483647) (x2)) (i_x3 : Rg (0) (1) (x3)) (i_x4 : Rg (0) (15) (x4)) (i_x5 : Rg (0) (3) (x5)) (i_x6 : Rg (-1) (11) (x6)) (gx : (GMq (c.2.1 50) x2)) (ry : (RyC ρ c g0 h)) : Sat (sX5_make_151 F h x0 x1 x2 x3 x4 x5 x6) (ZQ (ZV ρ c) (fun o => RyC ρ c g0 o)) := by
  unfold sX5_make_151 sX5_make_187 sX5_make_191
  refine s_cVf (S := fS [] [(w_x1, [(4, 9), (4, 10)])]) T (fs_sub pmA_n (fs_c (pmO_s hO_x1 rfl) fs_n)) (zX5_notePass hF (fs_o (.head _)) o_x1 (th_in _ T) r_x0 r_x1 i_x2) (fun o_1 T_1 f_o_1 => ?_)
  refine s_br (fun c_2 => ?_) (fun c_2 => ?_)
  · have _ := c_2
    have i_f_3 : Rg (-1) (-1) (x6) := rg_eq c_2 (rg_b rfl : Rg (-1) (-1) ((- 1 : Int32)))
    refine s_br (fun c_4 => ?_) (fun c_4 => ?_)
    · have _ := c_4
      have i_f_5 : Rg (3) (3) (x5) := rg_eq c_4 (rg_b rfl : Rg (3) (3) ((3 : Int32)))
      have pf_6 : RyC ρ c g0 o_1 := (rc_fr T  f_o_1 (fun _ => rfl) (fun _ _ => rfl) (fun _ => rfl) ry)
      exact zX5_make_192 hF (pmO_s hO_x1 rfl) o_x1 T_1 r_x0 r_x1 i_x3 (rg_m (rg_b rfl : Rg (1) (1) ((1 : Int32))) (by decide)) pf_6
    · have _ := c_4
      have i_f_7 : Rg (0) (2) (x5) := rg_nhi c_4 i_x5 (rg_b rfl : Rg (3) (3) ((3 : Int32)))
      refine s_br (fun c_8 => ?_) (fun c_8 => ?_)
      · have _ := c_8
        have i_f_9 : Rg (2) (2) (x5) := rg_eq c_8 (rg_b rfl : Rg (2) (2) ((2 : Int32)))
        have pf_10 : RyC ρ c g0 o_1 := (rc_fr T  f_o_1 (fun _ => rfl) (fun _ _ => rfl) (fun _ => rfl) ry)
        exact zX5_make_192 hF (pmO_s hO_x1 rfl) o_x1 T_1 r_x0 r_x1 i_x3 (rg_m (rg_b rfl : Rg (0) (0) ((0 : Int32))) (by decide)) pf_10
      · have _ := c_8
        have i_f_11 : Rg (0) (1) (x5) := rg_nhi c_8 i_f_7 (rg_b rfl : Rg (2) (2) ((2 : Int32)))
        obtain ⟨r_5, e_r_5, q_r_5⟩ := thR T_1 r_x0 (k := 6) (i := 0) (k2 := 2) rfl (by decide)
        refine s_ref e_r_5 ?_
        refine s_dI0 (zX1_becomesOthers hF T_1 q_r_5 (rg_m i_x4 (by decide))) (fun o_6 eb_o_6 e_o_6 i_o_6 => ?_)
        have T_12 := th_eq e_o_6 T_1
        refine s_br (fun c_13 => ?_) (fun c_13 => ?_)
        · have _ := c_13
          have i_f_14 : Rg (0) (0) (o_6.1) := rg_eq c_13 (rg_b rfl : Rg (0) (0) (0 : Int32))
          have pf_15 : RyC ρ c g0 o_6.2 := (by rw [e_o_6]; exact (rc_fr T  f_o_1 (fun _ => rfl) (fun _ _ => rfl) (fun _ => rfl) ry))
          exact zX5_make_192 hF (pmO_s hO_x1 rfl) o_x1 T_12 r_x0 r_x1 i_x3 (rg_m (rg_b rfl : Rg (0) (0) ((0 : Int32))) (by decide)) pf_15
        · have _ := c_13
          have i_f_16 : Rg (1) (1) (o_6.1) := rg_nlo c_13 i_o_6 (rg_b rfl : Rg (0) (0) (0 : Int32))
          have pf_17 : RyC ρ c g0 o_6.2 := (by rw [e_o_6]; exact (rc_fr T  f_o_1 (fun _ => rfl) (fun _ _ => rfl) (fun _ => rfl) ry))
          exact zX5_make_192 hF (pmO_s hO_x1 rfl) o_x1 T_12 r_x0 r_x1 i_x3 (rg_m (rg_b rfl : Rg (1) (1) ((1 : Int32))) (by decide)) pf_17
  · have _ := c_2
    have i_f_18 : Rg (0) (11) (x6) := rg_nlo c_2 i_x6 (rg_b rfl : Rg (-1) (-1) ((- 1 : Int32)))
    have pf_19 : RyC ρ c g0 o_1 := (rc_fr T  f_o_1 (fun _ => rfl) (fun _ _ => rfl) (fun _ => rfl) ry)
    exact zX5_make_192 hF (pmO_s hO_x1 rfl) o_x1 T_1 r_x0 r_x1 i_x3 (rg_m (rg_b rfl : Rg (1) (1) ((1 : Int32))) (by decide)) pf_19
set_option maxRecDepth 20000 in
theorem zX5_make_102 {ρ : Nat → Nat} {c : Cm} {F : Nat} {w_x1 : Nat} {g0 : Hp} (hF : 700000 ≤ F) (hO_x1 : pmO c w_x1 [(37, 999), (38, 999), (4, 5), (4, 6), (4, 9), (4, 10)]) {h : Hp} {x0 : Nat} {x1 : Nat} {x2 : Int32} {x3 : Int32} {x4 : Int32} {x5 : Int32} {x6 : Int32} (o_x1 : cw c x1 = w_x1) (T : TH ρ c h) (r_x0 : ρ x0 = 6) (r_x1 : ρ x1 = 4) (i_x2 : Rg (-2147483648) (2147483647) (x2)) (i_x3 : Rg (0) (1) (x3)) (i_x4 : Rg (0) (15) (x4)) (i_x5 : Rg (0) (3) (x5)) (i_x6 : Rg (-1) (11) (x6)) (gx : (GMq (c.2.1 50) x2)) (ry : (RyC ρ c g0 h)) : Sat (sX5_make_102 F h x0 x1 x2 x3 x4 x5 x6) (ZQ (ZV ρ c) (fun o => RyC ρ c g0 o)) := by
  unfold sX5_make_102 
  obtain ⟨r_1, e_r_1, q_r_1⟩ := thR T r_x0 (k := 6) (i := 0) (k2 := 2) rfl (by decide)
  refine s_ref e_r_1 ?_
  refine s_dI0 (zX1_has hF T q_r_1 (rg_m (rg_b rfl : Rg (1) (1) ((1 : Int32))) (by decide))) (fun o_2 eb_o_2 e_o_2 i_o_2 => ?_)
  have T_1 := th_eq e_o_2 T
  refine s_br (fun c_2 => ?_) (fun c_2 => ?_)
  · have _ := c_2
    have i_f_3 : Rg (0) (0) (o_2.1) := rg_eq c_2 (rg_b rfl : Rg (0) (0) (0 : Int32))
    have pf_4 : RyC ρ c g0 o_2.2 := (by rw [e_o_2]; exact ry)
    exact zX5_make_151 hF (pmO_s hO_x1 rfl) o_x1 T_1 r_x0 r_x1 i_x2 i_x3 i_x4 i_x5 i_x6 gx pf_4
  · have _ := c_2
    have i_f_5 : Rg (1) (1) (o_2.1) := rg_nlo c_2 i_o_2 (rg_b rfl : Rg (0) (0) (0 : Int32))
    refine s_br (fun c_6 => ?_) (fun c_6 => ?_)
    · have _ := c_6
      have i_f_7 : Rg (-1) (-1) (x6) := rg_eq c_6 (rg_b rfl : Rg (-1) (-1) ((- 1 : Int32)))
      have pf_8 : RyC ρ c g0 o_2.2 := (by rw [e_o_2]; exact ry)
      exact zX5_make_151 hF (pmO_s hO_x1 rfl) o_x1 T_1 r_x0 r_x1 i_x2 i_x3 i_x4 i_x5 (rg_m i_f_7 (by decide)) gx pf_8
    · have _ := c_6
      have i_f_9 : Rg (0) (11) (x6) := rg_nlo c_6 i_x6 (rg_b rfl : Rg (-1) (-1) ((- 1 : Int32)))
      refine s_ref (hr_e e_o_2 e_r_1) ?_
      refine s_br (fun c_10 => ?_) (fun c_10 => ?_)
      · have _ := c_10
        have i_f_11 : Rg (0) (11) ((hI o_2.2 r_1 4)) := rg_eq c_10.symm i_f_9
        have pf_12 : RyC ρ c g0 o_2.2 := (by rw [e_o_2]; exact ry)
        exact zX5_make_151 hF (pmO_s hO_x1 rfl) o_x1 T_1 r_x0 r_x1 i_x2 i_x3 i_x4 i_x5 (rg_m i_f_9 (by decide)) gx pf_12
      · have _ := c_10
        refine s_dI0 (zX3_inHand hF T_1 r_x1 i_x3 (rg_m i_f_9 (by decide))) (fun o_7 eb_o_7 e_o_7 i_o_7 => ?_)
        have T_13 := th_eq e_o_7 T_1
        refine s_br (fun c_14 => ?_) (fun c_14 => ?_)
        · have _ := c_14
          have i_f_15 : Rg (16) (31) (o_7.1) := rg_le2 c_14 (rg_b rfl : Rg (16) (16) ((16 : Int32))) i_o_7
          have pf_16 : RyC ρ c g0 o_7.2 := (by rw [e_o_7]; exact (by rw [e_o_2]; exact ry))
          exact zX5_make_151 hF (pmO_s hO_x1 rfl) o_x1 T_13 r_x0 r_x1 i_x2 i_x3 i_x4 i_x5 (rg_m i_f_9 (by decide)) gx pf_16
        · have _ := c_14
          have i_f_17 : Rg (0) (15) (o_7.1) := rg_lt1 (nle_lt c_14) i_o_7 (rg_b rfl : Rg (16) (16) ((16 : Int32)))
          refine s_cVf (S := fS [] [(w_x1, [(37, 999)])]) T_13 (fs_sub pmA_n (fs_c (pmO_s hO_x1 rfl) fs_n)) (zX3_addToHand hF (fs_o (.head _)) o_x1 (th_in _ T_13) r_x1 i_x3 (rg_m i_f_9 (by decide)) (rg_m (rg_b rfl : Rg (1) (1) ((1 : Int32))) (by decide))) (fun o_9 T_18 f_o_9 => ?_)
          have pf_19 : RyC ρ c g0 o_9 := (rc_fr T_13  f_o_9 (fun _ => rfl) (fun _ _ => rfl) (fun _ => rfl) (by rw [e_o_7]; exact (by rw [e_o_2]; exact ry)))
          exact zX5_make_151 hF (pmO_s hO_x1 rfl) o_x1 T_18 r_x0 r_x1 i_x2 i_x3 i_x4 i_x5 (rg_m i_f_9 (by decide)) gx pf_19
set_option maxRecDepth 20000 in
theorem zX5_make_54 {ρ : Nat → Nat} {c : Cm} {F : Nat} {w_x1 : Nat} {g0 : Hp} (hF : 700000 ≤ F) (hO_x1 : pmO c w_x1 [(34, 999), (35, 999), (36, 999), (37, 999), (38, 999), (4, 5), (4, 6), (4, 7), (4, 8), (4, 9), (4, 10)]) {h : Hp} {x0 : Nat} {x1 : Nat} {x2 : Int32} {x3 : Int32} {x4 : Int32} {x5 : Int32} {x6 : Int32} (o_x1 : cw c x1 = w_x1) (T : TH ρ c h) (r_x0 : ρ x0 = 6) (r_x1 : ρ x1 = 4) (i_x2 : Rg (-2147483648) (2147483647) (x2)) (i_x3 : Rg (0) (1) (x3)) (i_x4 : Rg (0) (15) (x4)) (i_x5 : Rg (0) (3) (x5)) (i_x6 : Rg (-1) (11) (x6)) (gx : (GMq (c.2.1 50) x2)) (ry : (RyC ρ c g0 h)) : Sat (sX5_make_54 F h x0 x1 x2 x3 x4 x5 x6) (ZQ (ZV ρ c) (fun o => RyC ρ c g0 o)) := by
  unfold sX5_make_54 
  refine s_hq (th_wJ T r_x1 (k := 4) (by decide) (pm_o hO_x1 o_x1 rfl)) (fun h_1 T_1 w_2 => ?_)
  refine s_cVq (zX5_shift hF (pmO_s hO_x1 rfl) o_x1 T_1 r_x0 r_x1 i_x2 gx) (fun o_2 T_3 p_o_2 => ?_)
  refine s_cVq (zX5_blast hF (pmO_s hO_x1 rfl) o_x1 T_3 r_x0 r_x1 i_x2 gx) (fun o_3 T_4 p_o_3 => ?_)
  refine s_hq (th_wJ T_4 r_x1 (k := 4) (by decide) (pm_o hO_x1 o_x1 rfl)) (fun h_4 T_5 w_6 => ?_)
  refine s_br (fun c_7 => ?_) (fun c_7 => ?_)
  · have _ := c_7
    have i_f_8 : Rg (3) (3) (x5) := rg_eq c_7 (rg_b rfl : Rg (3) (3) ((3 : Int32)))
    refine s_cVf (S := fS [] [(w_x1, [(37, 999)])]) T_5 (fs_sub pmA_n (fs_c (pmO_s hO_x1 rfl) fs_n)) (zX3_addToHand hF (fs_o (.head _)) o_x1 (th_in _ T_5) r_x1 i_x3 i_x4 (rg_m (rg_b rfl : Rg (-1) (-1) ((- 1 : Int32))) (by decide))) (fun o_6 T_9 f_o_6 => ?_)
    have pf_10 : RyC ρ c g0 o_6 := (rc_fr T_5  f_o_6 (fun _ => rfl) (fun _ _ => rfl) (fun _ => rfl) (rc_fr T_4  (fr1Jo (B := [(4, 8)]) r_x1 o_x1 rfl w_6) (fun _ => rfl) (fun _ _ => rfl) (fun _ => rfl) (rc_t (rc_t (rc_fr T  (fr1Jo (B := [(4, 7)]) r_x1 o_x1 rfl w_2) (fun _ => rfl) (fun _ _ => rfl) (fun _ => rfl) ry) (show RyC ρ c h_1 o_2 from p_o_2)) (show RyC ρ c o_2 o_3 from p_o_3))))
    exact zX5_make_102 hF (pmO_s hO_x1 rfl) o_x1 T_9 r_x0 r_x1 i_x2 i_x3 i_x4 (rg_m i_f_8 (by decide)) i_x6 gx pf_10
  · have _ := c_7
    have i_f_11 : Rg (0) (2) (x5) := rg_nhi c_7 i_x5 (rg_b rfl : Rg (3) (3) ((3 : Int32)))
    have pf_12 : RyC ρ c g0 h_4 := (rc_fr T_4  (fr1Jo (B := [(4, 8)]) r_x1 o_x1 rfl w_6) (fun _ => rfl) (fun _ _ => rfl) (fun _ => rfl) (rc_t (rc_t (rc_fr T  (fr1Jo (B := [(4, 7)]) r_x1 o_x1 rfl w_2) (fun _ => rfl) (fun _ _ => rfl) (fun _ => rfl) ry) (show RyC ρ c h_1 o_2 from p_o_2)) (show RyC ρ c o_2 o_3 from p_o_3)))
    exact zX5_make_102 hF (pmO_s hO_x1 rfl) o_x1 T_5 r_x0 r_x1 i_x2 i_x3 i_x4 (rg_m i_f_11 (by decide)) i_x6 gx pf_12
set_option maxRecDepth 20000 in
theorem zX5_make {ρ : Nat → Nat} {c : Cm} {F : Nat} {w_x1 : Nat} (hF : 700000 ≤ F) (hO_x1 : pmO c w_x1 [(34, 999), (35, 999), (36, 999), (37, 999), (38, 999), (4, 5), (4, 6), (4, 7), (4, 8), (4, 9), (4, 10)]) {h : Hp} {x0 : Nat} {x1 : Nat} {x2 : Int32} (o_x1 : cw c x1 = w_x1) (T : TH ρ c h) (r_x0 : ρ x0 = 6) (r_x1 : ρ x1 = 4) (i_x2 : Rg (-2147483648) (2147483647) (x2)) (gx : GMq (c.2.1 50) x2) : Sat (sX5_make F h x0 x1 x2) (ZQ (ZV ρ c) (fun o => RyC ρ c h o)) := by
  unfold sX5_make sX5_manOf sX5_kindOf
  refine s_q (fun v_1 e_1 => ?_)
  have i_v_1 : Rg (0) (1) (v_1) := by rw [e_1]; exact (thI T r_x1 (k := 4) (i := 5) rfl : Rg (0) (1) (hI h x1 5))
  refine s_pu (fun o_2z e_2 => ?_)
  try dsimp only
  have i_o_2z : Rg (0) (11) (o_2z) := by rw [e_2]; exact (gq_man gx : Rg (0) (11) ((x2 >>> ((12 : Int32) &&& 31)) &&& (15 : Int32)))
  refine s_pu (fun o_3z e_3 => ?_)
  try dsimp only
  have i_o_3z : Rg (0) (3) (o_3z) := by rw [e_3]; exact (rg_and (rg_b rfl : Rg (3) (3) ((3 : Int32))) (by decide) : Rg (0) (3) ((x2 >>> ((24 : Int32) &&& 31)) &&& (3 : Int32)))
  refine s_dI0 (zX5_takenBy hF T i_x2 gx) (fun o_4 eb_o_4 e_o_4 i_o_4 => ?_)
  have T_4 := th_eq e_o_4 T
  obtain ⟨r_5, e_r_5, q_r_5⟩ := thR T_4 r_x0 (k := 6) (i := 0) (k2 := 2) rfl (by decide)
  refine s_ref e_r_5 ?_
  refine s_br (fun c_5 => ?_) (fun c_5 => ?_)
  · have _ := c_5
    have i_f_6 : Rg (0) (11) ((hI o_4.2 r_5 4)) := rg_eq c_5.symm i_o_2z
    obtain ⟨r_7, e_r_7, q_r_7⟩ := thR T_4 r_x1 (k := 4) (i := 1) (k2 := 35) rfl (by decide)
    refine s_ref e_r_7 ?_
    refine s_gd (by rw [thN T_4 q_r_7 (k := 35) (n := 2) rfl (by decide)]; exact rg_inB (i_v_1 : Rg (0) (1) (v_1)) (by decide)) ?_
    refine s_hq (th_wJ T_4 r_x1 (k := 4) (by decide) (pm_o hO_x1 o_x1 rfl)) (fun h_9 T_7 w_8 => ?_)
    have pf_9 : RyC ρ c h h_9 := (rc_fr T_4  (fr1Jo (B := [(4, 8)]) r_x1 o_x1 rfl w_8) (fun _ => rfl) (fun _ _ => rfl) (fun _ => rfl) (by rw [e_o_4]; exact rc_0))
    exact zX5_make_54 hF (pmO_s hO_x1 rfl) o_x1 T_7 r_x0 r_x1 i_x2 i_v_1 (rg_m i_o_2z (by decide)) i_o_3z i_o_4 gx pf_9
  · have _ := c_5
    have pf_10 : RyC ρ c h o_4.2 := (by rw [e_o_4]; exact rc_0)
    exact zX5_make_54 hF (pmO_s hO_x1 rfl) o_x1 T_4 r_x0 r_x1 i_x2 i_v_1 (rg_m i_o_2z (by decide)) i_o_3z i_o_4 gx pf_10
set_option maxRecDepth 20000 in
theorem zX11_isPlace {ρ : Nat → Nat} {c : Cm} {F : Nat} (hF : 700000 ≤ F) {h : Hp} {x0 : Nat} {x1 : Int32} (T : TH ρ c h) (r_x0 : ρ x0 = 12) (i_x1 : Rg (-2147483648) (2147483647) (x1)) : Sat (sX11_isPlace h x0 x1) (ZP0 h (0) (1) (0) (Rg (0) (59) (x1))) := by
  unfold sX11_isPlace sX11_isPlace_23 sX11_isPlace_24
  refine s_br (fun c_1 => ?_) (fun c_1 => ?_)
  · have _ := c_1
    have i_f_2 : Rg (-2147483648) (-1) (x1) := rg_lt1 c_1 i_x1 (rg_b rfl : Rg (0) (0) (0 : Int32))
    refine s_gd (rg_bool (rg_m (rg_b rfl : Rg (0) (0) ((0 : Int32))) (by decide))) ?_
    exact s_some ⟨rfl, (rg_m (rg_b rfl : Rg (0) (0) ((0 : Int32))) (by decide)), (fun q => absurd (rz_s (rg_b rfl : Rg (0) (0) ((0 : Int32))) (rg_b rfl : Rg (0) (0) (0 : Int32))) q)⟩
  · have _ := c_1
    have i_f_3 : Rg (0) (2147483647) (x1) := rg_le2 (nlt_le c_1) (rg_b rfl : Rg (0) (0) (0 : Int32)) i_x1
    refine s_br (fun c_4 => ?_) (fun c_4 => ?_)
    · have _ := c_4
      have i_f_5 : Rg (60) (2147483647) (x1) := rg_le2 c_4 (rg_b rfl : Rg (60) (60) ((60 : Int32))) i_f_3
      refine s_gd (rg_bool (rg_m (rg_b rfl : Rg (0) (0) ((0 : Int32))) (by decide))) ?_
      exact s_some ⟨rfl, (rg_m (rg_b rfl : Rg (0) (0) ((0 : Int32))) (by decide)), (fun q => absurd (rz_s (rg_b rfl : Rg (0) (0) ((0 : Int32))) (rg_b rfl : Rg (0) (0) (0 : Int32))) q)⟩
    · have _ := c_4
      have i_f_6 : Rg (0) (59) (x1) := rg_lt1 (nle_lt c_4) i_f_3 (rg_b rfl : Rg (60) (60) ((60 : Int32)))
      obtain ⟨r_3, e_r_3, q_r_3⟩ := thR T r_x0 (k := 12) (i := 14) (k2 := 58) rfl (by decide)
      refine s_ref e_r_3 ?_
      refine s_gd (by rw [thN T q_r_3 (k := 58) (n := 60) rfl (by decide)]; exact rg_inB (i_f_6 : Rg (0) (59) (x1)) (by decide)) ?_
      refine s_br (fun c_7 => ?_) (fun c_7 => ?_)
      · have _ := c_7
        have i_f_8 : Rg (0) (0) ((hI h r_3 x1.toNatClampNeg)) := rg_eq c_7 (rg_b rfl : Rg (0) (0) (0 : Int32))
        refine s_gd (rg_bool (rg_m (rg_b rfl : Rg (0) (0) ((0 : Int32))) (by decide))) ?_
        exact s_some ⟨rfl, (rg_m (rg_b rfl : Rg (0) (0) ((0 : Int32))) (by decide)), (fun q => absurd (rz_s (rg_b rfl : Rg (0) (0) ((0 : Int32))) (rg_b rfl : Rg (0) (0) (0 : Int32))) q)⟩
      · have _ := c_7
        have i_f_9 : Rg (1) (1) ((hI h r_3 x1.toNatClampNeg)) := rg_nlo c_7 (thI T q_r_3 (k := 58) rfl : Rg (0) (1) ((hI h r_3 x1.toNatClampNeg))) (rg_b rfl : Rg (0) (0) (0 : Int32))
        refine s_gd (rg_bool (rg_m (rg_b rfl : Rg (1) (1) ((1 : Int32))) (by decide))) ?_
        exact s_some ⟨rfl, (rg_m (rg_b rfl : Rg (1) (1) ((1 : Int32))) (by decide)), (fun _ => i_f_6)⟩
set_option maxRecDepth 20000 in
theorem zX11_isSquare {ρ : Nat → Nat} {c : Cm} {F : Nat} (hF : 700000 ≤ F) {h : Hp} {x0 : Nat} {x1 : Int32} (T : TH ρ c h) (r_x0 : ρ x0 = 12) (i_x1 : Rg (-2147483648) (2147483647) (x1)) : Sat (sX11_isSquare h x0 x1) (ZP0 h (0) (1) (0) (Rg (0) (63) (x1))) := by
  unfold sX11_isSquare sX11_isSquare_19 sX11_isSquare_20
  refine s_br (fun c_1 => ?_) (fun c_1 => ?_)
  · have _ := c_1
    have i_f_2 : Rg (-2147483648) (-1) (x1) := rg_lt1 c_1 i_x1 (rg_b rfl : Rg (0) (0) (0 : Int32))
    refine s_gd (rg_bool (rg_m (rg_b rfl : Rg (0) (0) ((0 : Int32))) (by decide))) ?_
    exact s_some ⟨rfl, (rg_m (rg_b rfl : Rg (0) (0) ((0 : Int32))) (by decide)), (fun q => absurd (rz_s (rg_b rfl : Rg (0) (0) ((0 : Int32))) (rg_b rfl : Rg (0) (0) (0 : Int32))) q)⟩
  · have _ := c_1
    have i_f_3 : Rg (0) (2147483647) (x1) := rg_le2 (nlt_le c_1) (rg_b rfl : Rg (0) (0) (0 : Int32)) i_x1
    obtain ⟨r_2, e_r_2, q_r_2⟩ := thR T r_x0 (k := 12) (i := 2) (k2 := 2) rfl (by decide)
    refine s_ref e_r_2 ?_
    refine s_br (fun c_4 => ?_) (fun c_4 => ?_)
    · have _ := c_4
      refine s_gd (rg_bool (rg_m (rg_b rfl : Rg (0) (0) ((0 : Int32))) (by decide))) ?_
      exact s_some ⟨rfl, (rg_m (rg_b rfl : Rg (0) (0) ((0 : Int32))) (by decide)), (fun q => absurd (rz_s (rg_b rfl : Rg (0) (0) ((0 : Int32))) (rg_b rfl : Rg (0) (0) (0 : Int32))) q)⟩
    · have _ := c_4
      have i_f_5 : Rg (0) (63) (x1) := rg_lt1 (nle_lt c_4) i_f_3 (thI T q_r_2 (k := 2) (i := 2) rfl : Rg (0) (64) ((hI h r_2 2)))
      have i_f_6 : Rg (1) (64) ((hI h r_2 2)) := rg_lt2 (nle_lt c_4) i_f_3 (thI T q_r_2 (k := 2) (i := 2) rfl : Rg (0) (64) ((hI h r_2 2)))
      refine s_gd (rg_bool (rg_m (rg_b rfl : Rg (1) (1) ((1 : Int32))) (by decide))) ?_
      exact s_some ⟨rfl, (rg_m (rg_b rfl : Rg (1) (1) ((1 : Int32))) (by decide)), (fun _ => i_f_5)⟩
set_option maxRecDepth 20000 in
theorem zX11_at {ρ : Nat → Nat} {c : Cm} {F : Nat} (hF : 700000 ≤ F) {h : Hp} {x0 : Nat} {x1 : Int32} {x2 : Int32} (T : TH ρ c h) (r_x0 : ρ x0 = 12) (i_x1 : Rg (-2147483648) (2147483647) (x1)) (i_x2 : Rg (-2147483648) (2147483647) (x2)) : Sat (sX11_at h x0 x1 x2) (ZI0 h (-102) (23)) := by
  unfold sX11_at sX11_at_35
  refine s_dP0 (zX11_isSquare hF T r_x0 i_x2) (fun o_1 eb_o_1 e_o_1 i_o_1 p_o_1 => ?_)
  have T_1 := th_eq e_o_1 T
  refine s_br (fun c_2 => ?_) (fun c_2 => ?_)
  · have _ := c_2
    have i_f_3 : Rg (0) (0) (o_1.1) := rg_eq c_2 (rg_b rfl : Rg (0) (0) (0 : Int32))
    exact s_some ⟨(e_o_1.trans rfl), (rg_m (rg_b rfl : Rg (-101) (-101) ((- 101 : Int32))) (by decide))⟩
  · have _ := c_2
    have i_f_4 : Rg (1) (1) (o_1.1) := rg_nlo c_2 i_o_1 (rg_b rfl : Rg (0) (0) (0 : Int32))
    have p_f_5 := p_o_1 c_2
    refine s_dP0 (zX11_isPlace hF T_1 r_x0 i_x1) (fun o_3 eb_o_3 e_o_3 i_o_3 p_o_3 => ?_)
    have T_6 := th_eq e_o_3 T_1
    refine s_br (fun c_7 => ?_) (fun c_7 => ?_)
    · have _ := c_7
      have i_f_8 : Rg (0) (0) (o_3.1) := rg_eq c_7 (rg_b rfl : Rg (0) (0) (0 : Int32))
      exact s_some ⟨(e_o_3.trans (e_o_1.trans rfl)), (rg_m (rg_b rfl : Rg (-102) (-102) ((- 102 : Int32))) (by decide))⟩
    · have _ := c_7
      have i_f_9 : Rg (1) (1) (o_3.1) := rg_nlo c_7 i_o_3 (rg_b rfl : Rg (0) (0) (0 : Int32))
      have p_f_10 := p_o_3 c_7
      obtain ⟨r_5, e_r_5, q_r_5⟩ := thR T_6 r_x0 (k := 12) (i := 13) (k2 := 57) rfl (by decide)
      refine s_ref e_r_5 ?_
      refine s_gd (by rw [thN T_6 q_r_5 (k := 57) (n := 60) rfl (by decide)]; exact rg_inB (p_f_10 : Rg (0) (59) (x1)) (by decide)) ?_
      obtain ⟨r_7, e_r_7, q_r_7⟩ := thE T_6 q_r_5 (k := 57) (n := 60) (k2 := 4) (b := 59) (p_f_10 : Rg (0) (59) (x1)) (by decide) (by decide) (by decide)
      refine s_ref e_r_7 ?_
      obtain ⟨r_8, e_r_8, q_r_8⟩ := thR T_6 q_r_7 (k := 4) (i := 0) (k2 := 34) rfl (by decide)
      refine s_ref e_r_8 ?_
      refine s_gd (by rw [thN T_6 q_r_8 (k := 34) (n := 64) rfl (by decide)]; exact rg_inB (p_f_5 : Rg (0) (63) (x2)) (by decide)) ?_
      exact s_some ⟨(e_o_3.trans (e_o_1.trans rfl)), (rg_m (thI T_6 q_r_8 (k := 34) rfl : Rg (-2) (23) ((hI o_3.2 r_8 x2.toNatClampNeg))) (by decide))⟩
set_option maxRecDepth 20000 in
theorem zX11_isSide {ρ : Nat → Nat} {c : Cm} {F : Nat} (hF : 700000 ≤ F) {h : Hp} {x0 : Int32} (T : TH ρ c h) (i_x0 : Rg (-2147483648) (2147483647) (x0)) : Sat (sX11_isSide h x0) (ZP0 h (0) (1) (0) (Rg (0) (1) (x0))) := by
  unfold sX11_isSide sX11_isSide_9 sX11_isSide_14
  refine s_br (fun c_1 => ?_) (fun c_1 => ?_)
  · have _ := c_1
    have i_f_2 : Rg (0) (0) (x0) := rg_eq c_1 (rg_b rfl : Rg (0) (0) (0 : Int32))
    refine s_gd (rg_bool (rg_m (rg_b rfl : Rg (1) (1) ((1 : Int32))) (by decide))) ?_
    exact s_some ⟨rfl, (rg_m (rg_b rfl : Rg (1) (1) ((1 : Int32))) (by decide)), (fun _ => (rg_m i_f_2 (by decide)))⟩
  · have _ := c_1
    refine s_br (fun c_3 => ?_) (fun c_3 => ?_)
    · have _ := c_3
      have i_f_4 : Rg (1) (1) (x0) := rg_eq c_3 (rg_b rfl : Rg (1) (1) ((1 : Int32)))
      refine s_gd (rg_bool (rg_m (rg_b rfl : Rg (1) (1) ((1 : Int32))) (by decide))) ?_
      exact s_some ⟨rfl, (rg_m (rg_b rfl : Rg (1) (1) ((1 : Int32))) (by decide)), (fun _ => (rg_m i_f_4 (by decide)))⟩
    · have _ := c_3
      refine s_gd (rg_bool (rg_m (rg_b rfl : Rg (0) (0) ((0 : Int32))) (by decide))) ?_
      exact s_some ⟨rfl, (rg_m (rg_b rfl : Rg (0) (0) ((0 : Int32))) (by decide)), (fun q => absurd (rz_s (rg_b rfl : Rg (0) (0) ((0 : Int32))) (rg_b rfl : Rg (0) (0) (0 : Int32))) q)⟩
set_option maxRecDepth 20000 in
theorem zX11_attacked {ρ : Nat → Nat} {c : Cm} {F : Nat} (hF : 700000 ≤ F) {h : Hp} {x0 : Nat} {x1 : Int32} {x2 : Int32} {x3 : Int32} (T : TH ρ c h) (r_x0 : ρ x0 = 12) (i_x1 : Rg (-2147483648) (2147483647) (x1)) (i_x2 : Rg (-2147483648) (2147483647) (x2)) (i_x3 : Rg (-2147483648) (2147483647) (x3)) : Sat (sX11_attacked F h x0 x1 x2 x3) (ZI0 h (-102) (1)) := by
  unfold sX11_attacked sX11_attacked_15 sX11_attacked_52
  refine s_dP0 (zX11_isSquare hF T r_x0 i_x2) (fun o_1 eb_o_1 e_o_1 i_o_1 p_o_1 => ?_)
  have T_1 := th_eq e_o_1 T
  refine s_br (fun c_2 => ?_) (fun c_2 => ?_)
  · have _ := c_2
    have i_f_3 : Rg (0) (0) (o_1.1) := rg_eq c_2 (rg_b rfl : Rg (0) (0) (0 : Int32))
    exact s_some ⟨(e_o_1.trans rfl), (rg_m (rg_b rfl : Rg (-101) (-101) ((- 101 : Int32))) (by decide))⟩
  · have _ := c_2
    have i_f_4 : Rg (1) (1) (o_1.1) := rg_nlo c_2 i_o_1 (rg_b rfl : Rg (0) (0) (0 : Int32))
    have p_f_5 := p_o_1 c_2
    refine s_dP0 (zX11_isSide hF T_1 i_x3) (fun o_3 eb_o_3 e_o_3 i_o_3 p_o_3 => ?_)
    have T_6 := th_eq e_o_3 T_1
    refine s_br (fun c_7 => ?_) (fun c_7 => ?_)
    · have _ := c_7
      have i_f_8 : Rg (0) (0) (o_3.1) := rg_eq c_7 (rg_b rfl : Rg (0) (0) (0 : Int32))
      exact s_some ⟨(e_o_3.trans (e_o_1.trans rfl)), (rg_m (rg_b rfl : Rg (-101) (-101) ((- 101 : Int32))) (by decide))⟩
    · have _ := c_7
      have i_f_9 : Rg (1) (1) (o_3.1) := rg_nlo c_7 i_o_3 (rg_b rfl : Rg (0) (0) (0 : Int32))
      have p_f_10 := p_o_3 c_7
      refine s_dP0 (zX11_isPlace hF T_6 r_x0 i_x1) (fun o_5 eb_o_5 e_o_5 i_o_5 p_o_5 => ?_)
      have T_11 := th_eq e_o_5 T_6
      refine s_br (fun c_12 => ?_) (fun c_12 => ?_)
      · have _ := c_12
        have i_f_13 : Rg (0) (0) (o_5.1) := rg_eq c_12 (rg_b rfl : Rg (0) (0) (0 : Int32))
        exact s_some ⟨(e_o_5.trans (e_o_3.trans (e_o_1.trans rfl))), (rg_m (rg_b rfl : Rg (-102) (-102) ((- 102 : Int32))) (by decide))⟩
      · have _ := c_12
        have i_f_14 : Rg (1) (1) (o_5.1) := rg_nlo c_12 i_o_5 (rg_b rfl : Rg (0) (0) (0 : Int32))
        have p_f_15 := p_o_5 c_12
        obtain ⟨r_7, e_r_7, q_r_7⟩ := thR T_11 r_x0 (k := 12) (i := 6) (k2 := 6) rfl (by decide)
        refine s_ref e_r_7 ?_
        obtain ⟨r_8, e_r_8, q_r_8⟩ := thR T_11 r_x0 (k := 12) (i := 13) (k2 := 57) rfl (by decide)
        refine s_ref e_r_8 ?_
        refine s_gd (by rw [thN T_11 q_r_8 (k := 57) (n := 60) rfl (by decide)]; exact rg_inB (p_f_15 : Rg (0) (59) (x1)) (by decide)) ?_
        obtain ⟨r_10, e_r_10, q_r_10⟩ := thE T_11 q_r_8 (k := 57) (n := 60) (k2 := 4) (b := 59) (p_f_15 : Rg (0) (59) (x1)) (by decide) (by decide) (by decide)
        refine s_ref e_r_10 ?_
        refine s_dI0 (zX5_isHit hF T_11 q_r_7 q_r_10 p_f_5 p_f_10) (fun o_11 eb_o_11 e_o_11 i_o_11 => ?_)
        have T_16 := th_eq e_o_11 T_11
        refine s_br (fun c_17 => ?_) (fun c_17 => ?_)
        · have _ := c_17
          have i_f_18 : Rg (0) (0) (o_11.1) := rg_eq c_17 (rg_b rfl : Rg (0) (0) (0 : Int32))
          exact s_some ⟨(e_o_11.trans (e_o_5.trans (e_o_3.trans (e_o_1.trans rfl)))), (rg_m (rg_b rfl : Rg (0) (0) ((0 : Int32))) (by decide))⟩
        · have _ := c_17
          have i_f_19 : Rg (1) (1) (o_11.1) := rg_nlo c_17 i_o_11 (rg_b rfl : Rg (0) (0) (0 : Int32))
          exact s_some ⟨(e_o_11.trans (e_o_5.trans (e_o_3.trans (e_o_1.trans rfl)))), (rg_m (rg_b rfl : Rg (1) (1) ((1 : Int32))) (by decide))⟩
set_option maxRecDepth 20000 in
theorem zX11_back {ρ : Nat → Nat} {c : Cm} {F : Nat} (hF : 700000 ≤ F) (hA : pmA c [(61, 999)]) {h : Hp} {x0 : Nat} {x1 : Int32} (T : TH ρ c h) (r_x0 : ρ x0 = 12) (i_x1 : Rg (-2147483648) (2147483647) (x1)) : Sat (sX11_back h x0 x1) (ZI ρ c (-103) (300)) := by
  unfold sX11_back 
  refine s_dP0 (zX11_isGame hF T i_x1) (fun o_1 eb_o_1 e_o_1 i_o_1 p_o_1 => ?_)
  have T_1 := th_eq e_o_1 T
  refine s_br (fun c_2 => ?_) (fun c_2 => ?_)
  · have _ := c_2
    have i_f_3 : Rg (0) (0) (o_1.1) := rg_eq c_2 (rg_b rfl : Rg (0) (0) (0 : Int32))
    exact s_some ⟨(T_1), (rg_m (rg_b rfl : Rg (-101) (-101) ((- 101 : Int32))) (by decide))⟩
  · have _ := c_2
    have i_f_4 : Rg (1) (1) (o_1.1) := rg_nlo c_2 i_o_1 (rg_b rfl : Rg (0) (0) (0 : Int32))
    have p_f_5 := p_o_1 c_2
    obtain ⟨r_3, e_r_3, q_r_3⟩ := thR T_1 r_x0 (k := 12) (i := 17) (k2 := 61) rfl (by decide)
    refine s_ref e_r_3 ?_
    refine s_gd (by rw [thN T_1 q_r_3 (k := 61) (n := 8) rfl (by decide)]; exact rg_inB (p_f_5 : Rg (0) (7) (x1)) (by decide)) ?_
    refine s_br (fun c_6 => ?_) (fun c_6 => ?_)
    · have _ := c_6
      have i_f_7 : Rg (-1) (-1) ((hI o_1.2 r_3 x1.toNatClampNeg)) := rg_eq c_6 (rg_b rfl : Rg (-1) (-1) ((- 1 : Int32)))
      exact s_some ⟨(T_1), (rg_m (rg_b rfl : Rg (-102) (-102) ((- 102 : Int32))) (by decide))⟩
    · have _ := c_6
      have i_f_8 : Rg (0) (300) ((hI o_1.2 r_3 x1.toNatClampNeg)) := rg_nlo c_6 (thI T_1 q_r_3 (k := 61) rfl : Rg (-1) (300) ((hI o_1.2 r_3 x1.toNatClampNeg))) (rg_b rfl : Rg (-1) (-1) ((- 1 : Int32)))
      refine s_ref e_r_3 ?_
      refine s_gd (by rw [thN T_1 q_r_3 (k := 61) (n := 8) rfl (by decide)]; exact rg_inB (p_f_5 : Rg (0) (7) (x1)) (by decide)) ?_
      refine s_br (fun c_9 => ?_) (fun c_9 => ?_)
      · have _ := c_9
        have i_f_10 : Rg (0) (0) ((hI o_1.2 r_3 x1.toNatClampNeg)) := rg_eq c_9 (rg_b rfl : Rg (0) (0) (0 : Int32))
        exact s_some ⟨(T_1), (rg_m (rg_b rfl : Rg (-103) (-103) ((- 103 : Int32))) (by decide))⟩
      · have _ := c_9
        have i_f_11 : Rg (1) (300) ((hI o_1.2 r_3 x1.toNatClampNeg)) := rg_nlo c_9 i_f_8 (rg_b rfl : Rg (0) (0) (0 : Int32))
        refine s_ref e_r_3 ?_
        refine s_gd (by rw [thN T_1 q_r_3 (k := 61) (n := 8) rfl (by decide)]; exact rg_inB (p_f_5 : Rg (0) (7) (x1)) (by decide)) ?_
        refine s_gd (by rw [thN T_1 q_r_3 (k := 61) (n := 8) rfl (by decide)]; exact rg_inB (p_f_5 : Rg (0) (7) (x1)) (by decide)) ?_
        refine s_hq (th_wI T_1 q_r_3 (k := 61) (lo := (-1)) (hi := (300)) rfl ((rg_m (rg_sub i_f_11 (rg_b rfl : Rg (1) (1) ((1 : Int32))) (by decide) : Rg (0) (299) (((hI o_1.2 r_3 x1.toNatClampNeg) - (1 : Int32)))) (by decide)) : Rg (-1) (300) (((hI o_1.2 r_3 x1.toNatClampNeg) - (1 : Int32)))) (by decide) (by decide) (pm_a hA rfl)) (fun h_12 T_12 w_13 => ?_)
        refine s_ref (hr_w w_13 e_r_3) ?_
        refine s_gd (by rw [thN T_12 q_r_3 (k := 61) (n := 8) rfl (by decide)]; exact rg_inB (p_f_5 : Rg (0) (7) (x1)) (by decide)) ?_
        exact s_some ⟨(T_12), (rg_m ((rg_hs w_13 (rg_sub i_f_11 (rg_b rfl : Rg (1) (1) ((1 : Int32))) (by decide) : Rg (0) (299) (((hI o_1.2 r_3 x1.toNatClampNeg) - (1 : Int32))))) : Rg (0) (299) (hI h_12 r_3 x1.toNatClampNeg)) (by decide))⟩
set_option maxRecDepth 20000 in
theorem zX1_isPlain {ρ : Nat → Nat} {c : Cm} {F : Nat} (hF : 700000 ≤ F) {h : Hp} {x0 : Nat} (T : TH ρ c h) (r_x0 : ρ x0 = 2) : Sat (sX1_isPlain h x0) (ZI0 h (0) (1)) := by
  unfold sX1_isPlain sX1_isPlain_21 sX1_isPlain_20
  refine s_dI0 (zX1_has hF T r_x0 (rg_m (rg_b rfl : Rg (9) (9) ((9 : Int32))) (by decide))) (fun o_1 eb_o_1 e_o_1 i_o_1 => ?_)
  have T_1 := th_eq e_o_1 T
  refine s_br (fun c_2 => ?_) (fun c_2 => ?_)
  · have _ := c_2
    have i_f_3 : Rg (0) (0) (o_1.1) := rg_eq c_2 (rg_b rfl : Rg (0) (0) (0 : Int32))
    refine s_br (fun c_4 => ?_) (fun c_4 => ?_)
    · have _ := c_4
      have i_f_5 : Rg (0) (0) ((hI o_1.2 x0 7)) := rg_eq c_4 (rg_b rfl : Rg (0) (0) (0 : Int32))
      refine s_gd (rg_bool (rg_m (rg_b rfl : Rg (1) (1) ((1 : Int32))) (by decide))) ?_
      exact s_some ⟨(e_o_1.trans rfl), (rg_m (rg_b rfl : Rg (1) (1) ((1 : Int32))) (by decide))⟩
    · have _ := c_4
      have i_f_6 : Rg (1) (9) ((hI o_1.2 x0 7)) := rg_nlo c_4 (thI T_1 r_x0 (k := 2) (i := 7) rfl : Rg (0) (9) ((hI o_1.2 x0 7))) (rg_b rfl : Rg (0) (0) (0 : Int32))
      refine s_gd (rg_bool (rg_m (rg_b rfl : Rg (0) (0) ((0 : Int32))) (by decide))) ?_
      exact s_some ⟨(e_o_1.trans rfl), (rg_m (rg_b rfl : Rg (0) (0) ((0 : Int32))) (by decide))⟩
  · have _ := c_2
    have i_f_7 : Rg (1) (1) (o_1.1) := rg_nlo c_2 i_o_1 (rg_b rfl : Rg (0) (0) (0 : Int32))
    refine s_gd (rg_bool (rg_m (rg_b rfl : Rg (0) (0) ((0 : Int32))) (by decide))) ?_
    exact s_some ⟨(e_o_1.trans rfl), (rg_m (rg_b rfl : Rg (0) (0) ((0 : Int32))) (by decide))⟩
set_option maxRecDepth 20000 in
theorem zX5_hasLateMan_17 {ρ : Nat → Nat} {c : Cm} {h0 : Hp} {F : Nat} (hF : 700000 ≤ F) : ∀ (f : Nat) {h : Hp} {x0 : Nat} {x1 : Nat} {x2 : Int64} {x4 : Int32}, h = h0 → TH ρ c h → ρ x0 = 6 → ρ x1 = 4 → Rg (0) (64) (x4) → (64 - x4.toInt).toNat < f → Sat (sX5_hasLateMan_17 F f h x0 x1 x2 x4) (ZI0 h0 (0) (1)) := by
  intro f
  induction f with
  | zero => intros; omega
  | succ f ih =>
    intro h x0 x1 x2 x4 E T r_x0 r_x1 i_x4 hm
    rw [sX5_hasLateMan_17]
    unfold sX5_hasLateMan_89 sX5_hasLateMan_83
    obtain ⟨C_17, hC_17⟩ : ∃ C : Int, C = x4.toInt := ⟨_, rfl⟩
    have hk_17 : ∀ {h : Hp} {x0 : Nat} {x1 : Nat} {x2 : Int64} {x4 : Int32}, h = h0 → TH ρ c h → ρ x0 = 6 → ρ x1 = 4 → Rg (0) (64) (x4) → C_17 < x4.toInt → Sat (sX5_hasLateMan_17 F f h x0 x1 x2 x4) (ZI0 h0 (0) (1)) := by
      intro h' x0' x1' x2' x4' E' T' r_x0' r_x1' i_x4' hl
      exact ih E' T' r_x0' r_x1' i_x4' (by have := i_x4'.1; have := i_x4'.2; omega)
    have hc_17 : C_17 ≤ x4.toInt := by omega
    refine s_br (fun c_1 => ?_) (fun c_1 => ?_)
    · have _ := c_1
      have i_f_2 : Rg (64) (64) (x4) := rg_le2 c_1 (rg_b rfl : Rg (64) (64) ((64 : Int32))) i_x4
      exact s_some ⟨E, (rg_m (rg_b rfl : Rg (0) (0) ((0 : Int32))) (by decide))⟩
    · have _ := c_1
      have i_f_3 : Rg (0) (63) (x4) := rg_lt1 (nle_lt c_1) i_x4 (rg_b rfl : Rg (64) (64) ((64 : Int32)))
      refine s_br (fun c_4 => ?_) (fun c_4 => ?_)
      · have _ := c_4
        exact s_some ⟨E, (rg_m (rg_b rfl : Rg (0) (0) ((0 : Int32))) (by decide))⟩
      · have _ := c_4
        refine s_dI0 (zX11_lowest hF T) (fun o_3 eb_o_3 e_o_3 i_o_3 => ?_)
        have T_5 := th_eq e_o_3 T
        refine s_q (fun v_4 e_6 => ?_)
        obtain ⟨r_5, e_r_5, q_r_5⟩ := thR T_5 r_x1 (k := 4) (i := 0) (k2 := 34) rfl (by decide)
        refine s_ref e_r_5 ?_
        refine s_gd (by rw [thN T_5 q_r_5 (k := 34) (n := 64) rfl (by decide)]; exact rg_inB (i_o_3 : Rg (0) (63) (o_3.1)) (by decide)) ?_
        refine s_q (fun v_7 e_7 => ?_)
        have i_v_7 : Rg (-2) (23) (v_7) := by rw [e_7]; exact (thI T_5 q_r_5 (k := 34) rfl : Rg (-2) (23) (hI o_3.2 r_5 o_3.1.toNatClampNeg))
        obtain ⟨r_8, e_r_8, q_r_8⟩ := thR T_5 r_x0 (k := 6) (i := 0) (k2 := 2) rfl (by decide)
        refine s_ref e_r_8 ?_
        refine s_dI0 (zX1_becomesOthers hF T_5 q_r_8 (rg_m (rg_shrk 1 (by decide) i_v_7 (by decide) : Rg (-1) (11) ((v_7 >>> ((1 : Int32) &&& 31)))) (by decide))) (fun o_9 eb_o_9 e_o_9 i_o_9 => ?_)
        have T_8 := th_eq e_o_9 T_5
        refine s_br (fun c_9 => ?_) (fun c_9 => ?_)
        · have _ := c_9
          have i_f_10 : Rg (0) (0) (o_9.1) := rg_eq c_9 (rg_b rfl : Rg (0) (0) (0 : Int32))
          refine s_q (fun v_1q3 e_11 => ?_)
          have i_v_1q3 : Rg (1) (64) (v_1q3) := by rw [e_11]; exact (rg_add i_f_3 (rg_b rfl : Rg (1) (1) ((1 : Int32))) (by decide) : Rg (1) (64) (x4 + (1 : Int32)))
          have m_12 : (v_1q3).toInt = x4.toInt + 1 := by rw [e_11]; exact rg_inc i_f_3 (by decide)
          exact hk_17 (e_o_9.trans (e_o_3.trans E)) T_8 r_x0 r_x1 (rg_m i_v_1q3 (by decide)) (by have := hc_17; omega)
        · have _ := c_9
          have i_f_13 : Rg (1) (1) (o_9.1) := rg_nlo c_9 i_o_9 (rg_b rfl : Rg (0) (0) (0 : Int32))
          refine s_ref (hr_e e_o_9 e_r_8) ?_
          refine s_dI0 (zX1_isLast hF T_8 q_r_8 i_o_3 (rg_and (rg_b rfl : Rg (1) (1) ((1 : Int32))) (by decide) : Rg (0) (1) ((v_7 &&& (1 : Int32))))) (fun o_12 eb_o_12 e_o_12 i_o_12 => ?_)
          have T_14 := th_eq e_o_12 T_8
          refine s_br (fun c_15 => ?_) (fun c_15 => ?_)
          · have _ := c_15
            have i_f_16 : Rg (0) (0) (o_12.1) := rg_eq c_15 (rg_b rfl : Rg (0) (0) (0 : Int32))
            refine s_q (fun v_1q4 e_17 => ?_)
            have i_v_1q4 : Rg (1) (64) (v_1q4) := by rw [e_17]; exact (rg_add i_f_3 (rg_b rfl : Rg (1) (1) ((1 : Int32))) (by decide) : Rg (1) (64) (x4 + (1 : Int32)))
            have m_18 : (v_1q4).toInt = x4.toInt + 1 := by rw [e_17]; exact rg_inc i_f_3 (by decide)
            exact hk_17 (e_o_12.trans (e_o_9.trans (e_o_3.trans E))) T_14 r_x0 r_x1 (rg_m i_v_1q4 (by decide)) (by have := hc_17; omega)
          · have _ := c_15
            have i_f_19 : Rg (1) (1) (o_12.1) := rg_nlo c_15 i_o_12 (rg_b rfl : Rg (0) (0) (0 : Int32))
            exact s_some ⟨(e_o_12.trans (e_o_9.trans (e_o_3.trans E))), (rg_m (rg_b rfl : Rg (1) (1) ((1 : Int32))) (by decide))⟩
set_option maxRecDepth 20000 in
theorem zX5_hasLateMan {ρ : Nat → Nat} {c : Cm} {F : Nat} (hF : 700000 ≤ F) {h : Hp} {x0 : Nat} {x1 : Nat} (T : TH ρ c h) (r_x0 : ρ x0 = 6) (r_x1 : ρ x1 = 4) : Sat (sX5_hasLateMan F h x0 x1) (ZI0 h (0) (1)) := by
  unfold sX5_hasLateMan 
  obtain ⟨r_1, e_r_1, q_r_1⟩ := thR T r_x1 (k := 4) (i := 1) (k2 := 35) rfl (by decide)
  refine s_ref e_r_1 ?_
  refine s_gd (by rw [thN T q_r_1 (k := 35) (n := 2) rfl (by decide)]; exact rg_inB ((rg_m (rg_b rfl : Rg (0) (0) ((0 : Int32))) (by decide)) : Rg (0) (1) ((0 : Int32))) (by decide)) ?_
  refine s_ref e_r_1 ?_
  refine s_gd (by rw [thN T q_r_1 (k := 35) (n := 2) rfl (by decide)]; exact rg_inB ((rg_m (rg_b rfl : Rg (1) (1) ((1 : Int32))) (by decide)) : Rg (0) (1) ((1 : Int32))) (by decide)) ?_
  refine s_q (fun v_5 e_1 => ?_)
  have m_2 : Rg (0) (64) ((0 : Int32)) := (rg_m (rg_b rfl : Rg (0) (0) ((0 : Int32))) (by decide))
  exact zX5_hasLateMan_17 hF F rfl T r_x0 r_x1 (rg_m (rg_b rfl : Rg (0) (0) ((0 : Int32))) (by decide)) (by have := m_2.1; have := m_2.2; omega)
set_option maxRecDepth 20000 in
theorem zX5_hasRightMen_117 {ρ : Nat → Nat} {c : Cm} {h0 : Hp} {F : Nat} (hF : 700000 ≤ F) {k_15 : Hp → Nat → Nat → Int32 → Option (Int32 × Hp)} {C_15 : Int} (hk_15 : ∀ {h : Hp} {x0 : Nat} {x1 : Nat} {x2 : Int32}, h = h0 → TH ρ c h → ρ x0 = 6 → ρ x1 = 4 → Rg (0) (2) (x2) → C_15 < x2.toInt → Sat (k_15 h x0 x1 x2) (ZI0 h0 (0) (1))) {h : Hp} {x0 : Nat} {x1 : Nat} {x2 : Int32} (E : h = h0) (T : TH ρ c h) (r_x0 : ρ x0 = 6) (r_x1 : ρ x1 = 4) (i_x2 : Rg (0) (1) (x2)) (hc_15 : C_15 ≤ x2.toInt) : Sat (sX5_hasRightMen_117 F k_15 h x0 x1 x2) (ZI0 h0 (0) (1)) := by
  unfold sX5_hasRightMen_117 sX5_hasRightMen_132
  obtain ⟨r_1, e_r_1, q_r_1⟩ := thR T r_x0 (k := 6) (i := 0) (k2 := 2) rfl (by decide)
  refine s_ref e_r_1 ?_
  refine s_dI0 (zX3_inHand hF T r_x1 i_x2 (thI T q_r_1 (k := 2) (i := 4) rfl : Rg (-1) (11) ((hI h r_1 4)))) (fun o_2 eb_o_2 e_o_2 i_o_2 => ?_)
  have T_1 := th_eq e_o_2 T
  refine s_br (fun c_2 => ?_) (fun c_2 => ?_)
  · have _ := c_2
    have i_f_3 : Rg (0) (0) (o_2.1) := rg_le1 c_2 i_o_2 (rg_b rfl : Rg (0) (0) (0 : Int32))
    refine s_q (fun v_4 e_4 => ?_)
    have i_v_4 : Rg (1) (2) (v_4) := by rw [e_4]; exact (rg_add i_x2 (rg_b rfl : Rg (1) (1) ((1 : Int32))) (by decide) : Rg (1) (2) (x2 + (1 : Int32)))
    have m_5 : (v_4).toInt = x2.toInt + 1 := by rw [e_4]; exact rg_inc i_x2 (by decide)
    exact hk_15 (e_o_2.trans E) T_1 r_x0 r_x1 (rg_m i_v_4 (by decide)) (by have := hc_15; omega)
  · have _ := c_2
    have i_f_6 : Rg (1) (31) (o_2.1) := rg_lt2 (nle_lt c_2) (rg_b rfl : Rg (0) (0) (0 : Int32)) i_o_2
    exact s_some ⟨(e_o_2.trans E), (rg_m (rg_b rfl : Rg (0) (0) ((0 : Int32))) (by decide))⟩
set_option maxRecDepth 20000 in
theorem zX5_hasRightMen_96 {ρ : Nat → Nat} {c : Cm} {h0 : Hp} {F : Nat} (hF : 700000 ≤ F) {k_15 : Hp → Nat → Nat → Int32 → Option (Int32 × Hp)} {C_15 : Int} (hk_15 : ∀ {h : Hp} {x0 : Nat} {x1 : Nat} {x2 : Int32}, h = h0 → TH ρ c h → ρ x0 = 6 → ρ x1 = 4 → Rg (0) (2) (x2) → C_15 < x2.toInt → Sat (k_15 h x0 x1 x2) (ZI0 h0 (0) (1))) {h : Hp} {x0 : Nat} {x1 : Nat} {x2 : Int32} {x3 : Int32} (E : h = h0) (T : TH ρ c h) (r_x0 : ρ x0 = 6) (r_x1 : ρ x1 = 4) (i_x2 : Rg (0) (1) (x2)) (i_x3 : Rg (-2147483648) (2147483647) (x3)) (hc_15 : C_15 ≤ x2.toInt) : Sat (sX5_hasRightMen_96 F k_15 h x0 x1 x2 x3) (ZI0 h0 (0) (1)) := by
  unfold sX5_hasRightMen_96 sX5_hasRightMen_132
  refine s_br (fun c_1 => ?_) (fun c_1 => ?_)
  · have _ := c_1
    have i_f_2 : Rg (2) (2147483647) (x3) := rg_lt2 c_1 (rg_b rfl : Rg (1) (1) ((1 : Int32))) i_x3
    exact s_some ⟨E, (rg_m (rg_b rfl : Rg (0) (0) ((0 : Int32))) (by decide))⟩
  · have _ := c_1
    have i_f_3 : Rg (-2147483648) (1) (x3) := rg_le1 (nlt_le c_1) i_x3 (rg_b rfl : Rg (1) (1) ((1 : Int32)))
    refine s_br (fun c_4 => ?_) (fun c_4 => ?_)
    · have _ := c_4
      have i_f_5 : Rg (0) (0) (x3) := rg_eq c_4 (rg_b rfl : Rg (0) (0) (0 : Int32))
      obtain ⟨r_3, e_r_3, q_r_3⟩ := thR T r_x0 (k := 6) (i := 0) (k2 := 2) rfl (by decide)
      refine s_ref e_r_3 ?_
      refine s_dI0 (zX1_has hF T q_r_3 (rg_m (rg_b rfl : Rg (8) (8) ((8 : Int32))) (by decide))) (fun o_4 eb_o_4 e_o_4 i_o_4 => ?_)
      have T_6 := th_eq e_o_4 T
      refine s_br (fun c_7 => ?_) (fun c_7 => ?_)
      · have _ := c_7
        have i_f_8 : Rg (0) (0) (o_4.1) := rg_eq c_7 (rg_b rfl : Rg (0) (0) (0 : Int32))
        exact zX5_hasRightMen_117 hF @hk_15 (e_o_4.trans E) T_6 r_x0 r_x1 i_x2 hc_15
      · have _ := c_7
        have i_f_9 : Rg (1) (1) (o_4.1) := rg_nlo c_7 i_o_4 (rg_b rfl : Rg (0) (0) (0 : Int32))
        exact s_some ⟨(e_o_4.trans E), (rg_m (rg_b rfl : Rg (0) (0) ((0 : Int32))) (by decide))⟩
    · have _ := c_4
      exact zX5_hasRightMen_117 hF @hk_15 E T r_x0 r_x1 i_x2 hc_15
set_option maxRecDepth 20000 in
theorem zX5_hasRightMen_33 {ρ : Nat → Nat} {c : Cm} {h0 : Hp} {F : Nat} (hF : 700000 ≤ F) {k_15 : Hp → Nat → Nat → Int32 → Option (Int32 × Hp)} {C_15 : Int} (hk_15 : ∀ {h : Hp} {x0 : Nat} {x1 : Nat} {x2 : Int32}, h = h0 → TH ρ c h → ρ x0 = 6 → ρ x1 = 4 → Rg (0) (2) (x2) → C_15 < x2.toInt → Sat (k_15 h x0 x1 x2) (ZI0 h0 (0) (1))) : ∀ (f : Nat) {h : Hp} {x0 : Nat} {x1 : Nat} {x2 : Int32} {x3 : Int32} {x4 : Int64} {x6 : Int32}, h = h0 → TH ρ c h → ρ x0 = 6 → ρ x1 = 4 → Rg (0) (1) (x2) → Rg (-2147483648) (2147483647) (x3) → Rg (0) (64) (x6) → C_15 ≤ x2.toInt → (64 - x6.toInt).toNat < f → Sat (sX5_hasRightMen_33 F k_15 f h x0 x1 x2 x3 x4 x6) (ZI0 h0 (0) (1)) := by
  intro f
  induction f with
  | zero => intros; omega
  | succ f ih =>
    intro h x0 x1 x2 x3 x4 x6 E T r_x0 r_x1 i_x2 i_x3 i_x6 hc_15 hm
    rw [sX5_hasRightMen_33]
    unfold sX5_hasRightMen_88
    obtain ⟨C_33, hC_33⟩ : ∃ C : Int, C = x6.toInt := ⟨_, rfl⟩
    have hk_33 : ∀ {h : Hp} {x0 : Nat} {x1 : Nat} {x2 : Int32} {x3 : Int32} {x4 : Int64} {x6 : Int32}, h = h0 → TH ρ c h → ρ x0 = 6 → ρ x1 = 4 → Rg (0) (1) (x2) → Rg (-2147483648) (2147483647) (x3) → Rg (0) (64) (x6) → C_15 ≤ x2.toInt → C_33 < x6.toInt → Sat (sX5_hasRightMen_33 F k_15 f h x0 x1 x2 x3 x4 x6) (ZI0 h0 (0) (1)) := by
      intro h' x0' x1' x2' x3' x4' x6' E' T' r_x0' r_x1' i_x2' i_x3' i_x6' hc_15' hl
      exact ih E' T' r_x0' r_x1' i_x2' i_x3' i_x6' hc_15' (by have := i_x6'.1; have := i_x6'.2; omega)
    have hc_33 : C_33 ≤ x6.toInt := by omega
    refine s_br (fun c_1 => ?_) (fun c_1 => ?_)
    · have _ := c_1
      have i_f_2 : Rg (64) (64) (x6) := rg_le2 c_1 (rg_b rfl : Rg (64) (64) ((64 : Int32))) i_x6
      exact zX5_hasRightMen_96 hF @hk_15 E T r_x0 r_x1 i_x2 i_x3 hc_15
    · have _ := c_1
      have i_f_3 : Rg (0) (63) (x6) := rg_lt1 (nle_lt c_1) i_x6 (rg_b rfl : Rg (64) (64) ((64 : Int32)))
      refine s_br (fun c_4 => ?_) (fun c_4 => ?_)
      · have _ := c_4
        exact zX5_hasRightMen_96 hF @hk_15 E T r_x0 r_x1 i_x2 i_x3 hc_15
      · have _ := c_4
        refine s_dI0 (zX11_lowest hF T) (fun o_3 eb_o_3 e_o_3 i_o_3 => ?_)
        have T_5 := th_eq e_o_3 T
        refine s_q (fun v_4 e_6 => ?_)
        obtain ⟨r_5, e_r_5, q_r_5⟩ := thR T_5 r_x1 (k := 4) (i := 0) (k2 := 34) rfl (by decide)
        refine s_ref e_r_5 ?_
        refine s_gd (by rw [thN T_5 q_r_5 (k := 34) (n := 64) rfl (by decide)]; exact rg_inB (i_o_3 : Rg (0) (63) (o_3.1)) (by decide)) ?_
        obtain ⟨r_7, e_r_7, q_r_7⟩ := thR T_5 r_x0 (k := 6) (i := 0) (k2 := 2) rfl (by decide)
        refine s_ref e_r_7 ?_
        refine s_br (fun c_7 => ?_) (fun c_7 => ?_)
        · have _ := c_7
          refine s_q (fun v_1q1 e_8 => ?_)
          have i_v_1q1 : Rg (-2147483648) (2147483647) (v_1q1) := by rw [e_8]; exact (rg_top _ : Rg (-2147483648) (2147483647) (x3 + (1 : Int32)))
          refine s_q (fun v_2q1 e_9 => ?_)
          have i_v_2q1 : Rg (1) (64) (v_2q1) := by rw [e_9]; exact (rg_add i_f_3 (rg_b rfl : Rg (1) (1) ((1 : Int32))) (by decide) : Rg (1) (64) (x6 + (1 : Int32)))
          have m_10 : (v_2q1).toInt = x6.toInt + 1 := by rw [e_9]; exact rg_inc i_f_3 (by decide)
          exact hk_33 (e_o_3.trans E) T_5 r_x0 r_x1 i_x2 i_v_1q1 (rg_m i_v_2q1 (by decide)) hc_15 (by have := hc_33; omega)
        · have _ := c_7
          refine s_q (fun v_1q2 e_11 => ?_)
          have i_v_1q2 : Rg (-2147483648) (2147483647) (v_1q2) := by rw [e_11]; exact (rg_add i_x3 (rg_b rfl : Rg (0) (0) ((0 : Int32))) (by decide) : Rg (-2147483648) (2147483647) (x3 + (0 : Int32)))
          refine s_q (fun v_2q2 e_12 => ?_)
          have i_v_2q2 : Rg (1) (64) (v_2q2) := by rw [e_12]; exact (rg_add i_f_3 (rg_b rfl : Rg (1) (1) ((1 : Int32))) (by decide) : Rg (1) (64) (x6 + (1 : Int32)))
          have m_13 : (v_2q2).toInt = x6.toInt + 1 := by rw [e_12]; exact rg_inc i_f_3 (by decide)
          exact hk_33 (e_o_3.trans E) T_5 r_x0 r_x1 i_x2 i_v_1q2 (rg_m i_v_2q2 (by decide)) hc_15 (by have := hc_33; omega)
set_option maxRecDepth 20000 in
theorem zX5_hasRightMen_15 {ρ : Nat → Nat} {c : Cm} {h0 : Hp} {F : Nat} (hF : 700000 ≤ F) : ∀ (f : Nat) {h : Hp} {x0 : Nat} {x1 : Nat} {x2 : Int32}, h = h0 → TH ρ c h → ρ x0 = 6 → ρ x1 = 4 → Rg (0) (2) (x2) → (2 - x2.toInt).toNat < f → Sat (sX5_hasRightMen_15 F f h x0 x1 x2) (ZI0 h0 (0) (1)) := by
  intro f
  induction f with
  | zero => intros; omega
  | succ f ih =>
    intro h x0 x1 x2 E T r_x0 r_x1 i_x2 hm
    rw [sX5_hasRightMen_15]
    obtain ⟨C_15, hC_15⟩ : ∃ C : Int, C = x2.toInt := ⟨_, rfl⟩
    have hk_15 : ∀ {h : Hp} {x0 : Nat} {x1 : Nat} {x2 : Int32}, h = h0 → TH ρ c h → ρ x0 = 6 → ρ x1 = 4 → Rg (0) (2) (x2) → C_15 < x2.toInt → Sat (sX5_hasRightMen_15 F f h x0 x1 x2) (ZI0 h0 (0) (1)) := by
      intro h' x0' x1' x2' E' T' r_x0' r_x1' i_x2' hl
      exact ih E' T' r_x0' r_x1' i_x2' (by have := i_x2'.1; have := i_x2'.2; omega)
    have hc_15 : C_15 ≤ x2.toInt := by omega
    refine s_br (fun c_1 => ?_) (fun c_1 => ?_)
    · have _ := c_1
      have i_f_2 : Rg (2) (2) (x2) := rg_le2 c_1 (rg_b rfl : Rg (2) (2) ((2 : Int32))) i_x2
      exact s_some ⟨E, (rg_m (rg_b rfl : Rg (1) (1) ((1 : Int32))) (by decide))⟩
    · have _ := c_1
      have i_f_3 : Rg (0) (1) (x2) := rg_lt1 (nle_lt c_1) i_x2 (rg_b rfl : Rg (2) (2) ((2 : Int32)))
      obtain ⟨r_2, e_r_2, q_r_2⟩ := thR T r_x1 (k := 4) (i := 1) (k2 := 35) rfl (by decide)
      refine s_ref e_r_2 ?_
      refine s_gd (by rw [thN T q_r_2 (k := 35) (n := 2) rfl (by decide)]; exact rg_inB (i_f_3 : Rg (0) (1) (x2)) (by decide)) ?_
      refine s_q (fun v_4 e_4 => ?_)
      have m_5 : Rg (0) (64) ((0 : Int32)) := (rg_m (rg_b rfl : Rg (0) (0) ((0 : Int32))) (by decide))
      exact zX5_hasRightMen_33 hF @hk_15 F E T r_x0 r_x1 i_f_3 (rg_m (rg_b rfl : Rg (0) (0) ((0 : Int32))) (by decide)) (rg_m (rg_b rfl : Rg (0) (0) ((0 : Int32))) (by decide)) hc_15 (by have := m_5.1; have := m_5.2; omega)
set_option maxRecDepth 20000 in
theorem zX5_hasRightMen {ρ : Nat → Nat} {c : Cm} {F : Nat} (hF : 700000 ≤ F) {h : Hp} {x0 : Nat} {x1 : Nat} (T : TH ρ c h) (r_x0 : ρ x0 = 6) (r_x1 : ρ x1 = 4) : Sat (sX5_hasRightMen F h x0 x1) (ZI0 h (0) (1)) := by
  unfold sX5_hasRightMen 
  obtain ⟨r_1, e_r_1, q_r_1⟩ := thR T r_x0 (k := 6) (i := 0) (k2 := 2) rfl (by decide)
  refine s_ref e_r_1 ?_
  refine s_br (fun c_1 => ?_) (fun c_1 => ?_)
  · have _ := c_1
    have i_f_2 : Rg (-1) (-1) ((hI h r_1 4)) := rg_eq c_1 (rg_b rfl : Rg (-1) (-1) ((- 1 : Int32)))
    exact s_some ⟨rfl, (rg_m (rg_b rfl : Rg (1) (1) ((1 : Int32))) (by decide))⟩
  · have _ := c_1
    have i_f_3 : Rg (0) (11) ((hI h r_1 4)) := rg_nlo c_1 (thI T q_r_1 (k := 2) (i := 4) rfl : Rg (-1) (11) ((hI h r_1 4))) (rg_b rfl : Rg (-1) (-1) ((- 1 : Int32)))
    have m_4 : Rg (0) (2) ((0 : Int32)) := (rg_m (rg_b rfl : Rg (0) (0) ((0 : Int32))) (by decide))
    exact zX5_hasRightMen_15 hF F rfl T r_x0 r_x1 (rg_m (rg_b rfl : Rg (0) (0) ((0 : Int32))) (by decide)) (by have := m_4.1; have := m_4.2; omega)
set_option maxRecDepth 20000 in
theorem zX5_wentOver_21 {ρ : Nat → Nat} {c : Cm} {h0 : Hp} {F : Nat} (hF : 700000 ≤ F) : ∀ (f : Nat) {h : Hp} {x0 : Nat} {x1 : Int32} {x2 : Int32} {x3 : Int32} {x4 : Int32}, h = h0 → TH ρ c h → ρ x0 = 4 → Rg (0) (63) (x1) → Rg (2) (7) (x2) → Rg (-31) (31) (x3) → Rg (1) (7) (x4) → (7 - x4.toInt).toNat < f → Sat (sX5_wentOver_21 F f h x0 x1 x2 x3 x4) (ZI0 h0 (0) (1)) := by
  intro f
  induction f with
  | zero => intros; omega
  | succ f ih =>
    intro h x0 x1 x2 x3 x4 E T r_x0 i_x1 i_x2 i_x3 i_x4 hm
    rw [sX5_wentOver_21]
    obtain ⟨C_21, hC_21⟩ : ∃ C : Int, C = x4.toInt := ⟨_, rfl⟩
    have hk_21 : ∀ {h : Hp} {x0 : Nat} {x1 : Int32} {x2 : Int32} {x3 : Int32} {x4 : Int32}, h = h0 → TH ρ c h → ρ x0 = 4 → Rg (0) (63) (x1) → Rg (2) (7) (x2) → Rg (-31) (31) (x3) → Rg (1) (7) (x4) → C_21 < x4.toInt → Sat (sX5_wentOver_21 F f h x0 x1 x2 x3 x4) (ZI0 h0 (0) (1)) := by
      intro h' x0' x1' x2' x3' x4' E' T' r_x0' i_x1' i_x2' i_x3' i_x4' hl
      exact ih E' T' r_x0' i_x1' i_x2' i_x3' i_x4' (by have := i_x4'.1; have := i_x4'.2; omega)
    have hc_21 : C_21 ≤ x4.toInt := by omega
    refine s_br (fun c_1 => ?_) (fun c_1 => ?_)
    · have _ := c_1
      have i_f_2 : Rg (2) (7) (x4) := rg_le2 c_1 i_x2 i_x4
      exact s_some ⟨E, (rg_m (rg_b rfl : Rg (1) (1) ((1 : Int32))) (by decide))⟩
    · have _ := c_1
      have i_f_3 : Rg (1) (6) (x4) := rg_lt1 (nle_lt c_1) i_x4 i_x2
      refine s_dI0 (zX3_passSquare hF T r_x0 (rg_m i_f_3 (by decide))) (fun o_2 eb_o_2 e_o_2 i_o_2 => ?_)
      have T_4 := th_eq e_o_2 T
      refine s_br (fun c_5 => ?_) (fun c_5 => ?_)
      · have _ := c_5
        have i_f_6 : Rg (0) (63) ((x1 + (x4 * x3))) := rg_eq c_5.symm i_o_2
        refine s_q (fun v_4 e_7 => ?_)
        have i_v_4 : Rg (2) (7) (v_4) := by rw [e_7]; exact (rg_add i_f_3 (rg_b rfl : Rg (1) (1) ((1 : Int32))) (by decide) : Rg (2) (7) (x4 + (1 : Int32)))
        have m_8 : (v_4).toInt = x4.toInt + 1 := by rw [e_7]; exact rg_inc i_f_3 (by decide)
        exact hk_21 (e_o_2.trans E) T_4 r_x0 i_x1 i_x2 i_x3 (rg_m i_v_4 (by decide)) (by have := hc_21; omega)
      · have _ := c_5
        exact s_some ⟨(e_o_2.trans E), (rg_m (rg_b rfl : Rg (0) (0) ((0 : Int32))) (by decide))⟩
set_option maxRecDepth 20000 in
theorem zX5_wentOver {ρ : Nat → Nat} {c : Cm} {F : Nat} (hF : 700000 ≤ F) {h : Hp} {x0 : Nat} {x1 : Int32} {x2 : Int32} (T : TH ρ c h) (r_x0 : ρ x0 = 4) (i_x1 : Rg (0) (63) (x1)) (i_x2 : Rg (2) (7) (x2)) : Sat (sX5_wentOver F h x0 x1 x2) (ZI0 h (0) (1)) := by
  unfold sX5_wentOver sX5_wentOver_17
  refine s_br (fun c_1 => ?_) (fun c_1 => ?_)
  · have _ := c_1
    exact (rc_le c_1 i_x2 (rg_b rfl : Rg (0) (0) (0 : Int32)) (by decide)).elim
  · have _ := c_1
    refine s_dI0 (zX3_passSquare hF T r_x0 (rg_m (rg_b rfl : Rg (0) (0) ((0 : Int32))) (by decide))) (fun o_2 eb_o_2 e_o_2 i_o_2 => ?_)
    have T_2 := th_eq e_o_2 T
    refine s_gd (rg_ne0 i_x2 (by decide)) ?_
    have m_3 : Rg (1) (7) ((1 : Int32)) := (rg_m (rg_b rfl : Rg (1) (1) ((1 : Int32))) (by decide))
    exact zX5_wentOver_21 hF F (e_o_2.trans rfl) T_2 r_x0 i_x1 i_x2 (rg_divn (rg_m (rg_sub i_o_2 i_x1 (by decide) : Rg (-63) (63) ((o_2.1 - x1))) (by decide) : Rg (-63) (63) ((o_2.1 - x1))) i_x2 (by decide) : Rg (-31) (31) (((o_2.1 - x1) / x2))) (rg_m (rg_b rfl : Rg (1) (1) ((1 : Int32))) (by decide)) (by have := m_3.1; have := m_3.2; omega)
set_option maxRecDepth 20000 in
theorem zX5_hasRightPass_108 {ρ : Nat → Nat} {c : Cm} {h0 : Hp} {F : Nat} (hF : 700000 ≤ F) {k_60 : Hp → Nat → Nat → Int32 → Int32 → Int32 → Int32 → Option (Int32 × Hp)} {C_60 : Int} (hk_60 : ∀ {h : Hp} {x0 : Nat} {x1 : Nat} {x2 : Int32} {x3 : Int32} {x4 : Int32} {x5 : Int32}, h = h0 → TH ρ c h → ρ x0 = 6 → ρ x1 = 4 → Rg (2) (7) (x2) → Rg (0) (63) (x3) → Rg (0) (23) (x4) → Rg (0) (64) (x5) → (NoM x1 h) → C_60 < x5.toInt → Sat (k_60 h x0 x1 x2 x3 x4 x5) (ZI0 h0 (0) (1))) : ∀ (f : Nat) {h : Hp} {x0 : Nat} {x1 : Nat} {x2 : Int32} {x3 : Int32} {x4 : Int32} {x5 : Int32} {x6 : Int32} {x7 : Int32}, h = h0 → TH ρ c h → ρ x0 = 6 → ρ x1 = 4 → Rg (2) (7) (x2) → Rg (0) (63) (x3) → Rg (0) (23) (x4) → Rg (0) (63) (x5) → Rg (0) (98303) (x6) → Rg (0) (172032) (x7) → C_60 ≤ x5.toInt → (NoM x1 h) → (172032 - x7.toInt).toNat < f → Sat (sX5_hasRightPass_108 F k_60 f h x0 x1 x2 x3 x4 x5 x6 x7) (ZI0 h0 (0) (1)) := by
  intro f
  induction f with
  | zero => intros; omega
  | succ f ih =>
    intro h x0 x1 x2 x3 x4 x5 x6 x7 E T r_x0 r_x1 i_x2 i_x3 i_x4 i_x5 i_x6 i_x7 hc_60 nm hm
    rw [sX5_hasRightPass_108]
    unfold sX5_hasRightPass_179 sX5_hasRightPass_173
    obtain ⟨C_108, hC_108⟩ : ∃ C : Int, C = x7.toInt := ⟨_, rfl⟩
    have hk_108 : ∀ {h : Hp} {x0 : Nat} {x1 : Nat} {x2 : Int32} {x3 : Int32} {x4 : Int32} {x5 : Int32} {x6 : Int32} {x7 : Int32}, h = h0 → TH ρ c h → ρ x0 = 6 → ρ x1 = 4 → Rg (2) (7) (x2) → Rg (0) (63) (x3) → Rg (0) (23) (x4) → Rg (0) (63) (x5) → Rg (0) (98303) (x6) → Rg (0) (172032) (x7) → C_60 ≤ x5.toInt → (NoM x1 h) → C_108 < x7.toInt → Sat (sX5_hasRightPass_108 F k_60 f h x0 x1 x2 x3 x4 x5 x6 x7) (ZI0 h0 (0) (1)) := by
      intro h' x0' x1' x2' x3' x4' x5' x6' x7' E' T' r_x0' r_x1' i_x2' i_x3' i_x4' i_x5' i_x6' i_x7' hc_60' nm' hl
      exact ih E' T' r_x0' r_x1' i_x2' i_x3' i_x4' i_x5' i_x6' i_x7' hc_60' nm' (by have := i_x7'.1; have := i_x7'.2; omega)
    have hc_108 : C_108 ≤ x7.toInt := by omega
    obtain ⟨r_1, e_r_1, q_r_1⟩ := thR T r_x0 (k := 6) (i := 1) (k2 := 11) rfl (by decide)
    refine s_ref e_r_1 ?_
    obtain ⟨r_2, e_r_2, q_r_2⟩ := thR T q_r_1 (k := 11) (i := 0) (k2 := 50) rfl (by decide)
    refine s_ref e_r_2 ?_
    refine s_gd (by rw [thN T q_r_2 (k := 50) (n := 98305) rfl (by decide)]; exact rg_inB ((rg_m (rg_add i_x6 (rg_b rfl : Rg (1) (1) ((1 : Int32))) (by decide) : Rg (1) (98304) ((x6 + (1 : Int32)))) (by decide)) : Rg (0) (98304) ((x6 + (1 : Int32)))) (by decide)) ?_
    refine s_br (fun c_1 => ?_) (fun c_1 => ?_)
    · have _ := c_1
      refine s_q (fun v_1q1 e_2 => ?_)
      have i_v_1q1 : Rg (1) (64) (v_1q1) := by rw [e_2]; exact (rg_add i_x5 (rg_b rfl : Rg (1) (1) ((1 : Int32))) (by decide) : Rg (1) (64) (x5 + (1 : Int32)))
      have m_3 : (v_1q1).toInt = x5.toInt + 1 := by rw [e_2]; exact rg_inc i_x5 (by decide)
      exact hk_60 E T r_x0 r_x1 i_x2 i_x3 i_x4 (rg_m i_v_1q1 (by decide)) nm (by have := hc_60; omega)
    · have _ := c_1
      have i_f_4 : Rg (0) (172031) (x7) := rg_lt1 (nle_lt c_1) i_x7 (thI T q_r_2 (k := 50) rfl : Rg (0) (172032) ((hI h r_2 (x6 + (1 : Int32)).toNatClampNeg)))
      have i_f_5 : Rg (1) (172032) ((hI h r_2 (x6 + (1 : Int32)).toNatClampNeg)) := rg_lt2 (nle_lt c_1) i_x7 (thI T q_r_2 (k := 50) rfl : Rg (0) (172032) ((hI h r_2 (x6 + (1 : Int32)).toNatClampNeg)))
      refine s_ref e_r_1 ?_
      obtain ⟨r_6, e_r_6, q_r_6⟩ := thR T q_r_1 (k := 11) (i := 1) (k2 := 51) rfl (by decide)
      refine s_ref e_r_6 ?_
      refine s_gd (by rw [thN T q_r_6 (k := 51) (n := 172032) rfl (by decide)]; exact rg_inB (i_f_4 : Rg (0) (172031) (x7)) (by decide)) ?_
      refine s_br (fun c_6 => ?_) (fun c_6 => ?_)
      · have _ := c_6
        have i_f_7 : Rg (0) (0) ((((hI h r_6 x7.toNatClampNeg) >>> ((6 : Int32) &&& 31)) &&& (16 : Int32))) := rg_eq c_6 (rg_b rfl : Rg (0) (0) (0 : Int32))
        refine s_q (fun v_1q2 e_8 => ?_)
        have i_v_1q2 : Rg (1) (172032) (v_1q2) := by rw [e_8]; exact (rg_add i_f_4 (rg_b rfl : Rg (1) (1) ((1 : Int32))) (by decide) : Rg (1) (172032) (x7 + (1 : Int32)))
        have m_9 : (v_1q2).toInt = x7.toInt + 1 := by rw [e_8]; exact rg_inc i_f_4 (by decide)
        exact hk_108 E T r_x0 r_x1 i_x2 i_x3 i_x4 i_x5 i_x6 (rg_m i_v_1q2 (by decide)) hc_60 nm (by have := hc_108; omega)
      · have _ := c_6
        have i_f_10 : Rg (1) (16) ((((hI h r_6 x7.toNatClampNeg) >>> ((6 : Int32) &&& 31)) &&& (16 : Int32))) := rg_nlo c_6 (rg_and (rg_b rfl : Rg (16) (16) ((16 : Int32))) (by decide) : Rg (0) (16) ((((hI h r_6 x7.toNatClampNeg) >>> ((6 : Int32) &&& 31)) &&& (16 : Int32)))) (rg_b rfl : Rg (0) (0) (0 : Int32))
        refine s_ref e_r_1 ?_
        refine s_ref e_r_6 ?_
        refine s_gd (by rw [thN T q_r_6 (k := 51) (n := 172032) rfl (by decide)]; exact rg_inB (i_f_4 : Rg (0) (172031) (x7)) (by decide)) ?_
        refine s_br (fun c_11 => ?_) (fun c_11 => ?_)
        · have _ := c_11
          have i_f_12 : Rg (2) (7) (((hI h r_6 x7.toNatClampNeg) >>> ((12 : Int32) &&& 31))) := rg_eq c_11 i_x2
          refine s_dI0 (zX5_wentOver hF T r_x1 i_x5 i_x2) (fun o_13 eb_o_13 e_o_13 i_o_13 => ?_)
          have T_13 := th_eq e_o_13 T
          refine s_br (fun c_14 => ?_) (fun c_14 => ?_)
          · have _ := c_14
            have i_f_15 : Rg (0) (0) (o_13.1) := rg_eq c_14 (rg_b rfl : Rg (0) (0) (0 : Int32))
            refine s_q (fun v_1q3 e_16 => ?_)
            have i_v_1q3 : Rg (1) (172032) (v_1q3) := by rw [e_16]; exact (rg_add i_f_4 (rg_b rfl : Rg (1) (1) ((1 : Int32))) (by decide) : Rg (1) (172032) (x7 + (1 : Int32)))
            have pf_17 : NoM x1 o_13.2 := (by rw [e_o_13]; exact nm)
            have m_18 : (v_1q3).toInt = x7.toInt + 1 := by rw [e_16]; exact rg_inc i_f_4 (by decide)
            exact hk_108 (e_o_13.trans E) T_13 r_x0 r_x1 i_x2 i_x3 i_x4 i_x5 i_x6 (rg_m i_v_1q3 (by decide)) hc_60 pf_17 (by have := hc_108; omega)
          · have _ := c_14
            have i_f_19 : Rg (1) (1) (o_13.1) := rg_nlo c_14 i_o_13 (rg_b rfl : Rg (0) (0) (0 : Int32))
            exact s_some ⟨(e_o_13.trans E), (rg_m (rg_b rfl : Rg (1) (1) ((1 : Int32))) (by decide))⟩
        · have _ := c_11
          refine s_q (fun v_1q4 e_20 => ?_)
          have i_v_1q4 : Rg (1) (172032) (v_1q4) := by rw [e_20]; exact (rg_add i_f_4 (rg_b rfl : Rg (1) (1) ((1 : Int32))) (by decide) : Rg (1) (172032) (x7 + (1 : Int32)))
          have m_21 : (v_1q4).toInt = x7.toInt + 1 := by rw [e_20]; exact rg_inc i_f_4 (by decide)
          exact hk_108 E T r_x0 r_x1 i_x2 i_x3 i_x4 i_x5 i_x6 (rg_m i_v_1q4 (by decide)) hc_60 nm (by have := hc_108; omega)
set_option maxRecDepth 20000 in
theorem zX5_hasRightPass_60 {ρ : Nat → Nat} {c : Cm} {h0 : Hp} {F : Nat} (hF : 700000 ≤ F) : ∀ (f : Nat) {h : Hp} {x0 : Nat} {x1 : Nat} {x2 : Int32} {x3 : Int32} {x4 : Int32} {x5 : Int32}, h = h0 → TH ρ c h → ρ x0 = 6 → ρ x1 = 4 → Rg (2) (7) (x2) → Rg (0) (63) (x3) → Rg (0) (23) (x4) → Rg (0) (64) (x5) → (NoM x1 h) → (64 - x5.toInt).toNat < f → Sat (sX5_hasRightPass_60 F f h x0 x1 x2 x3 x4 x5) (ZI0 h0 (0) (1)) := by
  intro f
  induction f with
  | zero => intros; omega
  | succ f ih =>
    intro h x0 x1 x2 x3 x4 x5 E T r_x0 r_x1 i_x2 i_x3 i_x4 i_x5 nm hm
    rw [sX5_hasRightPass_60]
    unfold sX10_cell sX5_hasRightPass_179
    obtain ⟨C_60, hC_60⟩ : ∃ C : Int, C = x5.toInt := ⟨_, rfl⟩
    have hk_60 : ∀ {h : Hp} {x0 : Nat} {x1 : Nat} {x2 : Int32} {x3 : Int32} {x4 : Int32} {x5 : Int32}, h = h0 → TH ρ c h → ρ x0 = 6 → ρ x1 = 4 → Rg (2) (7) (x2) → Rg (0) (63) (x3) → Rg (0) (23) (x4) → Rg (0) (64) (x5) → (NoM x1 h) → C_60 < x5.toInt → Sat (sX5_hasRightPass_60 F f h x0 x1 x2 x3 x4 x5) (ZI0 h0 (0) (1)) := by
      intro h' x0' x1' x2' x3' x4' x5' E' T' r_x0' r_x1' i_x2' i_x3' i_x4' i_x5' nm' hl
      exact ih E' T' r_x0' r_x1' i_x2' i_x3' i_x4' i_x5' nm' (by have := i_x5'.1; have := i_x5'.2; omega)
    have hc_60 : C_60 ≤ x5.toInt := by omega
    obtain ⟨r_1, e_r_1, q_r_1⟩ := thR T r_x0 (k := 6) (i := 0) (k2 := 2) rfl (by decide)
    refine s_ref e_r_1 ?_
    refine s_br (fun c_1 => ?_) (fun c_1 => ?_)
    · have _ := c_1
      exact s_some ⟨E, (rg_m (rg_b rfl : Rg (0) (0) ((0 : Int32))) (by decide))⟩
    · have _ := c_1
      have i_f_2 : Rg (0) (63) (x5) := rg_lt1 (nle_lt c_1) i_x5 (thI T q_r_1 (k := 2) (i := 2) rfl : Rg (0) (64) ((hI h r_1 2)))
      have i_f_3 : Rg (1) (64) ((hI h r_1 2)) := rg_lt2 (nle_lt c_1) i_x5 (thI T q_r_1 (k := 2) (i := 2) rfl : Rg (0) (64) ((hI h r_1 2)))
      obtain ⟨r_3, e_r_3, q_r_3⟩ := thR T r_x1 (k := 4) (i := 0) (k2 := 34) rfl (by decide)
      refine s_ref e_r_3 ?_
      refine s_gd (by rw [thN T q_r_3 (k := 34) (n := 64) rfl (by decide)]; exact rg_inB (i_f_2 : Rg (0) (63) (x5)) (by decide)) ?_
      refine s_br (fun c_4 => ?_) (fun c_4 => ?_)
      · have _ := c_4
        have i_f_5 : Rg (-1) (-1) ((hI h r_3 x5.toNatClampNeg)) := rg_eq c_4 (rg_b rfl : Rg (-1) (-1) ((- 1 : Int32)))
        refine s_pu (fun o_6z e_6 => ?_)
        try dsimp only
        have i_o_6z : Rg (0) (98303) (o_6z) := by rw [e_6]; exact (rg_add (rg_mulc (rg_add (rg_mulc i_x4 (rg_b rfl : Rg (64) (64) ((64 : Int32))) (by decide) : Rg (0) (1472) ((x4 * (64 : Int32)))) i_f_2 (by decide) : Rg (0) (1535) (((x4 * (64 : Int32)) + x5))) (rg_b rfl : Rg (64) (64) ((64 : Int32))) (by decide) : Rg (0) (98240) ((((x4 * (64 : Int32)) + x5) * (64 : Int32)))) i_x3 (by decide) : Rg (0) (98303) ((((x4 * (64 : Int32)) + x5) * (64 : Int32)) + x3))
        obtain ⟨r_7, e_r_7, q_r_7⟩ := thR T r_x0 (k := 6) (i := 1) (k2 := 11) rfl (by decide)
        refine s_ref e_r_7 ?_
        obtain ⟨r_8, e_r_8, q_r_8⟩ := thR T q_r_7 (k := 11) (i := 0) (k2 := 50) rfl (by decide)
        refine s_ref e_r_8 ?_
        refine s_gd (by rw [thN T q_r_8 (k := 50) (n := 98305) rfl (by decide)]; exact rg_inB ((rg_m i_o_6z (by decide)) : Rg (0) (98304) (o_6z)) (by decide)) ?_
        refine s_q (fun v_10 e_7 => ?_)
        have i_v_10 : Rg (0) (172032) (v_10) := by rw [e_7]; exact (thI T q_r_8 (k := 50) rfl : Rg (0) (172032) (hI h r_8 o_6z.toNatClampNeg))
        have m_8 : Rg (0) (172032) (v_10) := i_v_10
        exact zX5_hasRightPass_108 hF @hk_60 F E T r_x0 r_x1 i_x2 i_x3 i_x4 i_f_2 i_o_6z i_v_10 hc_60 nm (by have := m_8.1; have := m_8.2; omega)
      · have _ := c_4
        refine s_q (fun v_1q1 e_9 => ?_)
        have i_v_1q1 : Rg (1) (64) (v_1q1) := by rw [e_9]; exact (rg_add i_f_2 (rg_b rfl : Rg (1) (1) ((1 : Int32))) (by decide) : Rg (1) (64) (x5 + (1 : Int32)))
        have m_10 : (v_1q1).toInt = x5.toInt + 1 := by rw [e_9]; exact rg_inc i_f_2 (by decide)
        exact hk_60 E T r_x0 r_x1 i_x2 i_x3 i_x4 (rg_m i_v_1q1 (by decide)) nm (by have := hc_60; omega)
set_option maxRecDepth 20000 in
theorem zX5_hasRightPass {ρ : Nat → Nat} {c : Cm} {F : Nat} (hF : 700000 ≤ F) {h : Hp} {x0 : Nat} {x1 : Nat} (T : TH ρ c h) (r_x0 : ρ x0 = 6) (r_x1 : ρ x1 = 4) (nm : (NoM x1 h)) : Sat (sX5_hasRightPass F h x0 x1) (ZI0 h (0) (1)) := by
  unfold sX5_hasRightPass sX5_hasRightPass_55
  refine s_dI0 (zX3_passSize hF T r_x1) (fun o_1 eb_o_1 e_o_1 i_o_1 => ?_)
  have T_1 := th_eq e_o_1 T
  refine s_dI0 (zX3_passSquare hF T_1 r_x1 (rg_m (rg_b rfl : Rg (0) (0) ((0 : Int32))) (by decide))) (fun o_2 eb_o_2 e_o_2 i_o_2 => ?_)
  have T_2 := th_eq e_o_2 T_1
  obtain ⟨r_3, e_r_3, q_r_3⟩ := thR T_2 r_x1 (k := 4) (i := 0) (k2 := 34) rfl (by decide)
  refine s_ref e_r_3 ?_
  have pf_3 : NoM x1 o_2.2 := (by rw [e_o_2]; exact (by rw [e_o_1]; exact nm))
  have rh_4 : Rg (-1) 23 (hI o_2.2 r_3 o_2.1.toNatClampNeg) := ⟨pf_3 r_3 e_r_3 _ (by have := rg_clamp (n := 63) (i_o_2 : Rg 0 63 o_2.1) (by decide); omega), (thI T_2 q_r_3 (k := 34) (lo := -2) (hi := 23) rfl).2⟩
  refine s_gd (by rw [thN T_2 q_r_3 (k := 34) (n := 64) rfl (by decide)]; exact rg_inB (i_o_2 : Rg (0) (63) (o_2.1)) (by decide)) ?_
  refine s_q (fun v_5 e_5 => ?_)
  have i_v_5 : Rg (-1) (23) (v_5) := by rw [e_5]; exact rh_4
  refine s_br (fun c_6 => ?_) (fun c_6 => ?_)
  · have _ := c_6
    have i_f_7 : Rg (0) (1) (o_1.1) := rg_lt1 c_6 i_o_1 (rg_b rfl : Rg (2) (2) ((2 : Int32)))
    exact s_some ⟨(e_o_2.trans (e_o_1.trans rfl)), (rg_m (rg_b rfl : Rg (0) (0) ((0 : Int32))) (by decide))⟩
  · have _ := c_6
    have i_f_8 : Rg (2) (7) (o_1.1) := rg_le2 (nlt_le c_6) (rg_b rfl : Rg (2) (2) ((2 : Int32))) i_o_1
    refine s_br (fun c_9 => ?_) (fun c_9 => ?_)
    · have _ := c_9
      have i_f_10 : Rg (-1) (-1) (v_5) := rg_eq c_9 (rg_b rfl : Rg (-1) (-1) ((- 1 : Int32)))
      exact s_some ⟨(e_o_2.trans (e_o_1.trans rfl)), (rg_m (rg_b rfl : Rg (0) (0) ((0 : Int32))) (by decide))⟩
    · have _ := c_9
      have i_f_11 : Rg (0) (23) (v_5) := rg_nlo c_9 i_v_5 (rg_b rfl : Rg (-1) (-1) ((- 1 : Int32)))
      refine s_br (fun c_12 => ?_) (fun c_12 => ?_)
      · have _ := c_12
        exact s_some ⟨(e_o_2.trans (e_o_1.trans rfl)), (rg_m (rg_b rfl : Rg (0) (0) ((0 : Int32))) (by decide))⟩
      · have _ := c_12
        refine s_dJ0 (zX3_occupied hF T_2 r_x1) (fun o_9 eb_o_9 e_o_9 => ?_)
        have T_13 := th_eq e_o_9 T_2
        refine s_br (fun c_14 => ?_) (fun c_14 => ?_)
        · have _ := c_14
          have pf_15 : NoM x1 o_9.2 := (by rw [e_o_9]; exact pf_3)
          have m_16 : Rg (0) (64) ((0 : Int32)) := (rg_m (rg_b rfl : Rg (0) (0) ((0 : Int32))) (by decide))
          exact zX5_hasRightPass_60 hF F (e_o_9.trans (e_o_2.trans (e_o_1.trans rfl))) T_13 r_x0 r_x1 i_f_8 i_o_2 i_f_11 (rg_m (rg_b rfl : Rg (0) (0) ((0 : Int32))) (by decide)) pf_15 (by have := m_16.1; have := m_16.2; omega)
        · have _ := c_14
          exact s_some ⟨(e_o_9.trans (e_o_2.trans (e_o_1.trans rfl))), (rg_m (rg_b rfl : Rg (0) (0) ((0 : Int32))) (by decide))⟩
set_option maxRecDepth 20000 in
theorem zX1_isFirst {ρ : Nat → Nat} {c : Cm} {F : Nat} (hF : 700000 ≤ F) {h : Hp} {x0 : Nat} {x1 : Int32} {x2 : Int32} (T : TH ρ c h) (r_x0 : ρ x0 = 2) (i_x1 : Rg (0) (63) (x1)) (i_x2 : Rg (0) (1) (x2)) : Sat (sX1_isFirst h x0 x1 x2) (ZI0 h (0) (1)) := by
  unfold sX1_isFirst 
  refine s_dI0 (zX1_isLast hF T r_x0 i_x1 (rg_sub (rg_b rfl : Rg (1) (1) ((1 : Int32))) i_x2 (by decide) : Rg (0) (1) (((1 : Int32) - x2)))) (fun o_1 eb_o_1 e_o_1 i_o_1 => ?_)
  have T_1 := th_eq e_o_1 T
  refine s_gd (rg_bool i_o_1) ?_
  exact s_some ⟨(e_o_1.trans rfl), i_o_1⟩
set_option maxRecDepth 20000 in
theorem zX5_hasRightRights_2 {ρ : Nat → Nat} {c : Cm} {h0 : Hp} {F : Nat} (hF : 700000 ≤ F) : ∀ (f : Nat) {h : Hp} {x0 : Nat} {x1 : Nat} {x2 : Int32}, h = h0 → TH ρ c h → ρ x0 = 6 → ρ x1 = 4 → Rg (0) (64) (x2) → (64 - x2.toInt).toNat < f → Sat (sX5_hasRightRights_2 F f h x0 x1 x2) (ZI0 h0 (0) (1)) := by
  intro f
  induction f with
  | zero => intros; omega
  | succ f ih =>
    intro h x0 x1 x2 E T r_x0 r_x1 i_x2 hm
    rw [sX5_hasRightRights_2]
    unfold sX5_hasRightRights_129 sX5_hasRightRights_123 sX5_hasRightRights_88 sX5_hasRightRights_121
    obtain ⟨C_2, hC_2⟩ : ∃ C : Int, C = x2.toInt := ⟨_, rfl⟩
    have hk_2 : ∀ {h : Hp} {x0 : Nat} {x1 : Nat} {x2 : Int32}, h = h0 → TH ρ c h → ρ x0 = 6 → ρ x1 = 4 → Rg (0) (64) (x2) → C_2 < x2.toInt → Sat (sX5_hasRightRights_2 F f h x0 x1 x2) (ZI0 h0 (0) (1)) := by
      intro h' x0' x1' x2' E' T' r_x0' r_x1' i_x2' hl
      exact ih E' T' r_x0' r_x1' i_x2' (by have := i_x2'.1; have := i_x2'.2; omega)
    have hc_2 : C_2 ≤ x2.toInt := by omega
    obtain ⟨r_1, e_r_1, q_r_1⟩ := thR T r_x0 (k := 6) (i := 0) (k2 := 2) rfl (by decide)
    refine s_ref e_r_1 ?_
    refine s_br (fun c_1 => ?_) (fun c_1 => ?_)
    · have _ := c_1
      exact s_some ⟨E, (rg_m (rg_b rfl : Rg (1) (1) ((1 : Int32))) (by decide))⟩
    · have _ := c_1
      have i_f_2 : Rg (0) (63) (x2) := rg_lt1 (nle_lt c_1) i_x2 (thI T q_r_1 (k := 2) (i := 2) rfl : Rg (0) (64) ((hI h r_1 2)))
      have i_f_3 : Rg (1) (64) ((hI h r_1 2)) := rg_lt2 (nle_lt c_1) i_x2 (thI T q_r_1 (k := 2) (i := 2) rfl : Rg (0) (64) ((hI h r_1 2)))
      refine s_br (fun c_4 => ?_) (fun c_4 => ?_)
      · have _ := c_4
        exact s_some ⟨E, (rg_m (rg_b rfl : Rg (1) (1) ((1 : Int32))) (by decide))⟩
      · have _ := c_4
        refine s_br (fun c_5 => ?_) (fun c_5 => ?_)
        · have _ := c_5
          refine s_q (fun v_1q3 e_6 => ?_)
          have i_v_1q3 : Rg (1) (64) (v_1q3) := by rw [e_6]; exact (rg_add i_f_2 (rg_b rfl : Rg (1) (1) ((1 : Int32))) (by decide) : Rg (1) (64) (x2 + (1 : Int32)))
          have m_7 : (v_1q3).toInt = x2.toInt + 1 := by rw [e_6]; exact rg_inc i_f_2 (by decide)
          exact hk_2 E T r_x0 r_x1 (rg_m i_v_1q3 (by decide)) (by have := hc_2; omega)
        · have _ := c_5
          obtain ⟨r_5, e_r_5, q_r_5⟩ := thR T r_x1 (k := 4) (i := 0) (k2 := 34) rfl (by decide)
          refine s_ref e_r_5 ?_
          refine s_gd (by rw [thN T q_r_5 (k := 34) (n := 64) rfl (by decide)]; exact rg_inB (i_f_2 : Rg (0) (63) (x2)) (by decide)) ?_
          refine s_q (fun v_7 e_8 => ?_)
          have i_v_7 : Rg (-2) (23) (v_7) := by rw [e_8]; exact (thI T q_r_5 (k := 34) rfl : Rg (-2) (23) (hI h r_5 x2.toNatClampNeg))
          refine s_ref e_r_1 ?_
          refine s_br (fun c_9 => ?_) (fun c_9 => ?_)
          · have _ := c_9
            have i_f_10 : Rg (-1) (-1) ((hI h r_1 6)) := rg_eq c_9 (rg_b rfl : Rg (-1) (-1) ((- 1 : Int32)))
            exact s_some ⟨E, (rg_m (rg_b rfl : Rg (0) (0) ((0 : Int32))) (by decide))⟩
          · have _ := c_9
            have i_f_11 : Rg (0) (11) ((hI h r_1 6)) := rg_nlo c_9 (thI T q_r_1 (k := 2) (i := 6) rfl : Rg (-1) (11) ((hI h r_1 6))) (rg_b rfl : Rg (-1) (-1) ((- 1 : Int32)))
            refine s_br (fun c_12 => ?_) (fun c_12 => ?_)
            · have _ := c_12
              have i_f_13 : Rg (-1) (-1) (v_7) := rg_eq c_12 (rg_b rfl : Rg (-1) (-1) ((- 1 : Int32)))
              exact s_some ⟨E, (rg_m (rg_b rfl : Rg (0) (0) ((0 : Int32))) (by decide))⟩
            · have _ := c_12
              refine s_ref e_r_1 ?_
              refine s_br (fun c_14 => ?_) (fun c_14 => ?_)
              · have _ := c_14
                have i_f_15 : Rg (0) (11) ((v_7 >>> ((1 : Int32) &&& 31))) := rg_eq c_14 i_f_11
                refine s_ref e_r_1 ?_
                refine s_dI0 (zX1_isFirst hF T q_r_1 i_f_2 (rg_and (rg_b rfl : Rg (1) (1) ((1 : Int32))) (by decide) : Rg (0) (1) ((v_7 &&& (1 : Int32))))) (fun o_14 eb_o_14 e_o_14 i_o_14 => ?_)
                have T_16 := th_eq e_o_14 T
                refine s_br (fun c_17 => ?_) (fun c_17 => ?_)
                · have _ := c_17
                  have i_f_18 : Rg (0) (0) (o_14.1) := rg_eq c_17 (rg_b rfl : Rg (0) (0) (0 : Int32))
                  exact s_some ⟨(e_o_14.trans E), (rg_m (rg_b rfl : Rg (0) (0) ((0 : Int32))) (by decide))⟩
                · have _ := c_17
                  have i_f_19 : Rg (1) (1) (o_14.1) := rg_nlo c_17 i_o_14 (rg_b rfl : Rg (0) (0) (0 : Int32))
                  obtain ⟨r_16, e_r_16, q_r_16⟩ := thR T_16 r_x1 (k := 4) (i := 2) (k2 := 36) rfl (by decide)
                  refine s_ref e_r_16 ?_
                  refine s_gd (by rw [thN T_16 q_r_16 (k := 36) (n := 2) rfl (by decide)]; exact rg_inB ((rg_and (rg_b rfl : Rg (1) (1) ((1 : Int32))) (by decide) : Rg (0) (1) ((v_7 &&& (1 : Int32)))) : Rg (0) (1) ((v_7 &&& (1 : Int32)))) (by decide)) ?_
                  refine s_q (fun v_18 e_20 => ?_)
                  have i_v_18 : Rg (-1) (63) (v_18) := by rw [e_20]; exact (thI T_16 q_r_16 (k := 36) rfl : Rg (-1) (63) (hI o_14.2 r_16 (v_7 &&& (1 : Int32)).toNatClampNeg))
                  refine s_br (fun c_21 => ?_) (fun c_21 => ?_)
                  · have _ := c_21
                    have i_f_22 : Rg (-1) (-1) (v_18) := rg_eq c_21 (rg_b rfl : Rg (-1) (-1) ((- 1 : Int32)))
                    exact s_some ⟨(e_o_14.trans E), (rg_m (rg_b rfl : Rg (0) (0) ((0 : Int32))) (by decide))⟩
                  · have _ := c_21
                    have i_f_23 : Rg (0) (63) (v_18) := rg_nlo c_21 i_v_18 (rg_b rfl : Rg (-1) (-1) ((- 1 : Int32)))
                    refine s_ref (hr_e e_o_14 e_r_1) ?_
                    refine s_dI0 (zX1_isFirst hF T_16 q_r_1 i_f_23 (rg_and (rg_b rfl : Rg (1) (1) ((1 : Int32))) (by decide) : Rg (0) (1) ((v_7 &&& (1 : Int32))))) (fun o_21 eb_o_21 e_o_21 i_o_21 => ?_)
                    have T_24 := th_eq e_o_21 T_16
                    refine s_br (fun c_25 => ?_) (fun c_25 => ?_)
                    · have _ := c_25
                      have i_f_26 : Rg (0) (0) (o_21.1) := rg_eq c_25 (rg_b rfl : Rg (0) (0) (0 : Int32))
                      exact s_some ⟨(e_o_21.trans (e_o_14.trans E)), (rg_m (rg_b rfl : Rg (0) (0) ((0 : Int32))) (by decide))⟩
                    · have _ := c_25
                      have i_f_27 : Rg (1) (1) (o_21.1) := rg_nlo c_25 i_o_21 (rg_b rfl : Rg (0) (0) (0 : Int32))
                      refine s_q (fun v_1q9 e_28 => ?_)
                      have i_v_1q9 : Rg (1) (64) (v_1q9) := by rw [e_28]; exact (rg_add i_f_2 (rg_b rfl : Rg (1) (1) ((1 : Int32))) (by decide) : Rg (1) (64) (x2 + (1 : Int32)))
                      have m_29 : (v_1q9).toInt = x2.toInt + 1 := by rw [e_28]; exact rg_inc i_f_2 (by decide)
                      exact hk_2 (e_o_21.trans (e_o_14.trans E)) T_24 r_x0 r_x1 (rg_m i_v_1q9 (by decide)) (by have := hc_2; omega)
              · have _ := c_14
                exact s_some ⟨E, (rg_m (rg_b rfl : Rg (0) (0) ((0 : Int32))) (by decide))⟩
set_option maxRecDepth 20000 in
theorem zX5_hasRightRights {ρ : Nat → Nat} {c : Cm} {F : Nat} (hF : 700000 ≤ F) {h : Hp} {x0 : Nat} {x1 : Nat} (T : TH ρ c h) (r_x0 : ρ x0 = 6) (r_x1 : ρ x1 = 4) : Sat (sX5_hasRightRights F h x0 x1) (ZI0 h (0) (1)) := by
  unfold sX5_hasRightRights 
  have m_1 : Rg (0) (64) ((0 : Int32)) := (rg_m (rg_b rfl : Rg (0) (0) ((0 : Int32))) (by decide))
  exact zX5_hasRightRights_2 hF F rfl T r_x0 r_x1 (rg_m (rg_b rfl : Rg (0) (0) ((0 : Int32))) (by decide)) (by have := m_1.1; have := m_1.2; omega)
set_option maxRecDepth 20000 in
theorem zX5_faultOf_97 {ρ : Nat → Nat} {c : Cm} {h0 : Hp} {F : Nat} (hF : 700000 ≤ F) {h : Hp} {x0 : Nat} {x1 : Nat} (E : h = h0) (T : TH ρ c h) (r_x0 : ρ x0 = 6) (r_x1 : ρ x1 = 4) : Sat (sX5_faultOf_97 F h x0 x1) (ZI0 h0 (0) (8)) := by
  unfold sX5_faultOf_97 sX5_faultOf_135 sX5_faultOf_136 sX5_faultOf_130
  obtain ⟨r_1, e_r_1, q_r_1⟩ := thR T r_x0 (k := 6) (i := 0) (k2 := 2) rfl (by decide)
  refine s_ref e_r_1 ?_
  refine s_dI0 (zX1_has hF T q_r_1 (rg_m (rg_b rfl : Rg (1) (1) ((1 : Int32))) (by decide))) (fun o_2 eb_o_2 e_o_2 i_o_2 => ?_)
  have T_1 := th_eq e_o_2 T
  refine s_br (fun c_2 => ?_) (fun c_2 => ?_)
  · have _ := c_2
    have i_f_3 : Rg (0) (0) (o_2.1) := rg_eq c_2 (rg_b rfl : Rg (0) (0) (0 : Int32))
    obtain ⟨r_4, e_r_4, q_r_4⟩ := thR T_1 r_x1 (k := 4) (i := 3) (k2 := 37) rfl (by decide)
    refine s_ref e_r_4 ?_
    refine s_gd (by rw [thN T_1 q_r_4 (k := 37) (n := 2) rfl (by decide)]; exact rg_inB ((rg_m (rg_b rfl : Rg (0) (0) ((0 : Int32))) (by decide)) : Rg (0) (1) ((0 : Int32))) (by decide)) ?_
    refine s_br (fun c_4 => ?_) (fun c_4 => ?_)
    · have _ := c_4
      refine s_ref e_r_4 ?_
      refine s_gd (by rw [thN T_1 q_r_4 (k := 37) (n := 2) rfl (by decide)]; exact rg_inB ((rg_m (rg_b rfl : Rg (1) (1) ((1 : Int32))) (by decide)) : Rg (0) (1) ((1 : Int32))) (by decide)) ?_
      refine s_br (fun c_5 => ?_) (fun c_5 => ?_)
      · have _ := c_5
        exact s_some ⟨(e_o_2.trans E), (rg_m (rg_b rfl : Rg (0) (0) ((0 : Int32))) (by decide))⟩
      · have _ := c_5
        exact s_some ⟨(e_o_2.trans E), (rg_m (rg_b rfl : Rg (8) (8) ((8 : Int32))) (by decide))⟩
    · have _ := c_4
      exact s_some ⟨(e_o_2.trans E), (rg_m (rg_b rfl : Rg (8) (8) ((8 : Int32))) (by decide))⟩
  · have _ := c_2
    have i_f_6 : Rg (1) (1) (o_2.1) := rg_nlo c_2 i_o_2 (rg_b rfl : Rg (0) (0) (0 : Int32))
    exact s_some ⟨(e_o_2.trans E), (rg_m (rg_b rfl : Rg (0) (0) ((0 : Int32))) (by decide))⟩
set_option maxRecDepth 20000 in
theorem zX5_faultOf_49 {ρ : Nat → Nat} {c : Cm} {h0 : Hp} {F : Nat} (hF : 700000 ≤ F) {h : Hp} {x0 : Nat} {x1 : Nat} (E : h = h0) (T : TH ρ c h) (r_x0 : ρ x0 = 6) (r_x1 : ρ x1 = 4) : Sat (sX5_faultOf_49 F h x0 x1) (ZI0 h0 (0) (8)) := by
  unfold sX5_faultOf_49 sX5_faultOf_94
  refine s_dI0 (zX5_isRoyalHit hF T r_x0 r_x1 (rg_sub (rg_b rfl : Rg (1) (1) ((1 : Int32))) (thI T r_x1 (k := 4) (i := 5) rfl : Rg (0) (1) ((hI h x1 5))) (by decide) : Rg (0) (1) (((1 : Int32) - (hI h x1 5))))) (fun o_1 eb_o_1 e_o_1 i_o_1 => ?_)
  have T_1 := th_eq e_o_1 T
  refine s_br (fun c_2 => ?_) (fun c_2 => ?_)
  · have _ := c_2
    have i_f_3 : Rg (0) (0) (o_1.1) := rg_eq c_2 (rg_b rfl : Rg (0) (0) (0 : Int32))
    obtain ⟨r_3, e_r_3, q_r_3⟩ := thR T_1 r_x0 (k := 6) (i := 0) (k2 := 2) rfl (by decide)
    refine s_ref e_r_3 ?_
    refine s_br (fun c_4 => ?_) (fun c_4 => ?_)
    · have _ := c_4
      have i_f_5 : Rg (0) (0) ((hI o_1.2 r_3 7)) := rg_eq c_4 (rg_b rfl : Rg (0) (0) (0 : Int32))
      obtain ⟨r_5, e_r_5, q_r_5⟩ := thR T_1 r_x1 (k := 4) (i := 4) (k2 := 38) rfl (by decide)
      refine s_ref e_r_5 ?_
      refine s_gd (by rw [thN T_1 q_r_5 (k := 38) (n := 2) rfl (by decide)]; exact rg_inB ((rg_m (rg_b rfl : Rg (0) (0) ((0 : Int32))) (by decide)) : Rg (0) (1) ((0 : Int32))) (by decide)) ?_
      refine s_br (fun c_6 => ?_) (fun c_6 => ?_)
      · have _ := c_6
        have i_f_7 : Rg (0) (0) ((hI o_1.2 r_5 (0 : Int32).toNatClampNeg)) := rg_eq c_6 (rg_b rfl : Rg (0) (0) (0 : Int32))
        refine s_ref e_r_5 ?_
        refine s_gd (by rw [thN T_1 q_r_5 (k := 38) (n := 2) rfl (by decide)]; exact rg_inB ((rg_m (rg_b rfl : Rg (1) (1) ((1 : Int32))) (by decide)) : Rg (0) (1) ((1 : Int32))) (by decide)) ?_
        refine s_br (fun c_8 => ?_) (fun c_8 => ?_)
        · have _ := c_8
          have i_f_9 : Rg (0) (0) ((hI o_1.2 r_5 (1 : Int32).toNatClampNeg)) := rg_eq c_8 (rg_b rfl : Rg (0) (0) (0 : Int32))
          exact zX5_faultOf_97 hF (e_o_1.trans E) T_1 r_x0 r_x1
        · have _ := c_8
          have i_f_10 : Rg (1) (9) ((hI o_1.2 r_5 (1 : Int32).toNatClampNeg)) := rg_nlo c_8 (thI T_1 q_r_5 (k := 38) rfl : Rg (0) (9) ((hI o_1.2 r_5 (1 : Int32).toNatClampNeg))) (rg_b rfl : Rg (0) (0) (0 : Int32))
          exact s_some ⟨(e_o_1.trans E), (rg_m (rg_b rfl : Rg (7) (7) ((7 : Int32))) (by decide))⟩
      · have _ := c_6
        have i_f_11 : Rg (1) (9) ((hI o_1.2 r_5 (0 : Int32).toNatClampNeg)) := rg_nlo c_6 (thI T_1 q_r_5 (k := 38) rfl : Rg (0) (9) ((hI o_1.2 r_5 (0 : Int32).toNatClampNeg))) (rg_b rfl : Rg (0) (0) (0 : Int32))
        exact s_some ⟨(e_o_1.trans E), (rg_m (rg_b rfl : Rg (7) (7) ((7 : Int32))) (by decide))⟩
    · have _ := c_4
      have i_f_12 : Rg (1) (9) ((hI o_1.2 r_3 7)) := rg_nlo c_4 (thI T_1 q_r_3 (k := 2) (i := 7) rfl : Rg (0) (9) ((hI o_1.2 r_3 7))) (rg_b rfl : Rg (0) (0) (0 : Int32))
      exact zX5_faultOf_97 hF (e_o_1.trans E) T_1 r_x0 r_x1
  · have _ := c_2
    have i_f_13 : Rg (1) (1) (o_1.1) := rg_nlo c_2 i_o_1 (rg_b rfl : Rg (0) (0) (0 : Int32))
    exact s_some ⟨(e_o_1.trans E), (rg_m (rg_b rfl : Rg (6) (6) ((6 : Int32))) (by decide))⟩
set_option maxRecDepth 20000 in
theorem zX5_faultOf {ρ : Nat → Nat} {c : Cm} {F : Nat} (hF : 700000 ≤ F) {h : Hp} {x0 : Nat} {x1 : Nat} (T : TH ρ c h) (r_x0 : ρ x0 = 6) (r_x1 : ρ x1 = 4) (np : (NoP x1 h)) : Sat (sX5_faultOf F h x0 x1) (ZI0 h (0) (8)) := by
  unfold sX5_faultOf 
  refine s_dI0 (zX5_hasRightMen hF T r_x0 r_x1) (fun o_1 eb_o_1 e_o_1 i_o_1 => ?_)
  have T_1 := th_eq e_o_1 T
  refine s_br (fun c_2 => ?_) (fun c_2 => ?_)
  · have _ := c_2
    have i_f_3 : Rg (0) (0) (o_1.1) := rg_eq c_2 (rg_b rfl : Rg (0) (0) (0 : Int32))
    exact s_some ⟨(e_o_1.trans rfl), (rg_m (rg_b rfl : Rg (2) (2) ((2 : Int32))) (by decide))⟩
  · have _ := c_2
    have i_f_4 : Rg (1) (1) (o_1.1) := rg_nlo c_2 i_o_1 (rg_b rfl : Rg (0) (0) (0 : Int32))
    refine s_dI0 (zX5_hasLateMan hF T_1 r_x0 r_x1) (fun o_3 eb_o_3 e_o_3 i_o_3 => ?_)
    have T_5 := th_eq e_o_3 T_1
    refine s_br (fun c_6 => ?_) (fun c_6 => ?_)
    · have _ := c_6
      have i_f_7 : Rg (0) (0) (o_3.1) := rg_eq c_6 (rg_b rfl : Rg (0) (0) (0 : Int32))
      refine s_dI0 (zX5_hasRightRights hF T_5 r_x0 r_x1) (fun o_5 eb_o_5 e_o_5 i_o_5 => ?_)
      have T_8 := th_eq e_o_5 T_5
      refine s_br (fun c_9 => ?_) (fun c_9 => ?_)
      · have _ := c_9
        have i_f_10 : Rg (0) (0) (o_5.1) := rg_eq c_9 (rg_b rfl : Rg (0) (0) (0 : Int32))
        exact s_some ⟨(e_o_5.trans (e_o_3.trans (e_o_1.trans rfl))), (rg_m (rg_b rfl : Rg (4) (4) ((4 : Int32))) (by decide))⟩
      · have _ := c_9
        have i_f_11 : Rg (1) (1) (o_5.1) := rg_nlo c_9 i_o_5 (rg_b rfl : Rg (0) (0) (0 : Int32))
        refine s_br (fun c_12 => ?_) (fun c_12 => ?_)
        · have _ := c_12
          exact zX5_faultOf_49 hF (e_o_5.trans (e_o_3.trans (e_o_1.trans rfl))) T_8 r_x0 r_x1
        · have _ := c_12
          have pf_13 : NoP x1 o_5.2 := (by rw [e_o_5]; exact (by rw [e_o_3]; exact (by rw [e_o_1]; exact np)))
          refine s_dI0 (zX5_hasRightPass hF T_8 r_x0 r_x1 (pf_13.resolve_left c_12)) (fun o_8 eb_o_8 e_o_8 i_o_8 => ?_)
          have T_14 := th_eq e_o_8 T_8
          refine s_br (fun c_15 => ?_) (fun c_15 => ?_)
          · have _ := c_15
            have i_f_16 : Rg (0) (0) (o_8.1) := rg_eq c_15 (rg_b rfl : Rg (0) (0) (0 : Int32))
            exact s_some ⟨(e_o_8.trans (e_o_5.trans (e_o_3.trans (e_o_1.trans rfl)))), (rg_m (rg_b rfl : Rg (5) (5) ((5 : Int32))) (by decide))⟩
          · have _ := c_15
            have i_f_17 : Rg (1) (1) (o_8.1) := rg_nlo c_15 i_o_8 (rg_b rfl : Rg (0) (0) (0 : Int32))
            exact zX5_faultOf_49 hF (e_o_8.trans (e_o_5.trans (e_o_3.trans (e_o_1.trans rfl)))) T_14 r_x0 r_x1
    · have _ := c_6
      have i_f_18 : Rg (1) (1) (o_3.1) := rg_nlo c_6 i_o_3 (rg_b rfl : Rg (0) (0) (0 : Int32))
      exact s_some ⟨(e_o_3.trans (e_o_1.trans rfl)), (rg_m (rg_b rfl : Rg (3) (3) ((3 : Int32))) (by decide))⟩
set_option maxRecDepth 20000 in
theorem zX6_isBefore {ρ : Nat → Nat} {c : Cm} {F : Nat} (hF : 700000 ≤ F) (hA : pmA c [(47, 999), (6, 4), (6, 5), (6, 6), (6, 7), (6, 8), (6, 9)]) (hi_1503 : pmO c 1503 [(34, 999), (35, 999), (36, 999), (37, 999), (38, 999), (4, 5), (4, 6), (4, 7), (4, 8), (4, 9), (4, 10)]) {h : Hp} {x0 : Nat} {x1 : Int32} (T : TH ρ c h) (r_x0 : ρ x0 = 7) (i_x1 : Rg (-1) (11) (x1)) (lw : (LwR ρ c h)) (bk : (BkP ρ c x0 h)) : Sat (sX6_isBefore F h x0 x1) (ZI ρ c (0) (1)) := by
  unfold sX6_isBefore sX6_isBefore_46 sX6_isBefore_94 sX6_isBefore_95 sX6_isBefore_28
  obtain ⟨r_1, e_r_1, q_r_1⟩ := thR T r_x0 (k := 7) (i := 2) (k2 := 6) rfl (by decide)
  refine s_ref e_r_1 ?_
  obtain ⟨r_2, e_r_2, q_r_2⟩ := thR T r_x0 (k := 7) (i := 4) (k2 := 4) rfl (by decide)
  refine s_ref e_r_2 ?_
  refine s_dI0 (zX5_faultOf hF T q_r_1 q_r_2 (Or.inl (bk _ e_r_2).1)) (fun o_3 eb_o_3 e_o_3 i_o_3 => ?_)
  have T_1 := th_eq e_o_3 T
  refine s_br (fun c_2 => ?_) (fun c_2 => ?_)
  · have _ := c_2
    have i_f_3 : Rg (0) (0) (o_3.1) := rg_eq c_2 (rg_b rfl : Rg (0) (0) (0 : Int32))
    refine s_ref (hr_e e_o_3 e_r_1) ?_
    refine s_ref (hr_e e_o_3 e_r_2) ?_
    refine s_dI0 (zX5_earlyEnd hF T_1 q_r_1 q_r_2) (fun o_7 eb_o_7 e_o_7 i_o_7 => ?_)
    have T_4 := th_eq e_o_7 T_1
    refine s_br (fun c_5 => ?_) (fun c_5 => ?_)
    · have _ := c_5
      have i_f_6 : Rg (0) (0) (o_7.1) := rg_eq c_5 (rg_b rfl : Rg (0) (0) (0 : Int32))
      refine s_br (fun c_7 => ?_) (fun c_7 => ?_)
      · have _ := c_7
        have i_f_8 : Rg (-1) (-1) (x1) := rg_eq c_7 (rg_b rfl : Rg (-1) (-1) ((- 1 : Int32)))
        obtain ⟨r_10, e_r_10, q_r_10⟩ := thR T_4 r_x0 (k := 7) (i := 0) (k2 := 2) rfl (by decide)
        refine s_ref e_r_10 ?_
        refine s_dI0 (zX1_has hF T_4 q_r_10 (rg_m (rg_b rfl : Rg (2) (2) ((2 : Int32))) (by decide))) (fun o_11 eb_o_11 e_o_11 i_o_11 => ?_)
        have T_9 := th_eq e_o_11 T_4
        refine s_br (fun c_10 => ?_) (fun c_10 => ?_)
        · have _ := c_10
          have i_f_11 : Rg (0) (0) (o_11.1) := rg_eq c_10 (rg_b rfl : Rg (0) (0) (0 : Int32))
          exact s_some ⟨(T_9), (rg_m (rg_b rfl : Rg (1) (1) ((1 : Int32))) (by decide))⟩
        · have _ := c_10
          have i_f_12 : Rg (1) (1) (o_11.1) := rg_nlo c_10 i_o_11 (rg_b rfl : Rg (0) (0) (0 : Int32))
          refine s_ref (hr_e e_o_11 (hr_e e_o_7 (hr_e e_o_3 e_r_1))) ?_
          refine s_ref (hr_e e_o_11 (hr_e e_o_7 (hr_e e_o_3 e_r_2))) ?_
          refine s_ref (hr_e e_o_11 (hr_e e_o_7 (hr_e e_o_3 e_r_1))) ?_
          obtain ⟨r_16, e_r_16, q_r_16⟩ := thR T_9 q_r_1 (k := 6) (i := 2) (k2 := 47) rfl (by decide)
          refine s_ref e_r_16 ?_
          have pf_13 : LwR ρ c o_11.2 := (by rw [e_o_11]; exact (by rw [e_o_7]; exact (by rw [e_o_3]; exact lw)))
          have pf_14 : BkP ρ c x0 o_11.2 := (by rw [e_o_11]; exact (by rw [e_o_7]; exact (by rw [e_o_3]; exact bk)))
          refine s_cIf (S := fS [(47, 999), (6, 4), (6, 5), (6, 6), (6, 7), (6, 8), (6, 9)] [(1503, [(34, 999), (35, 999), (36, 999), (37, 999), (38, 999), (4, 5), (4, 6), (4, 7), (4, 8), (4, 9), (4, 10)])]) T_9 (fs_sub (pmA_s hA rfl) (fs_c (pmO_s hi_1503 rfl) fs_n)) (zX5_collect hF fs_a (fs_o (.head _)) (th_id T r_x0 (k := 7) (i := 4) (w := 1604) e_r_2 rfl (by decide)) (th_id T_9 q_r_1 (k := 6) (i := 2) (w := 1502) e_r_16 rfl (by decide)) (by decide) (th_in _ T_9) q_r_1 q_r_2 q_r_16 (rg_m (rg_b rfl : Rg (4096) (4096) ((4096 : Int32))) (by decide)) pf_13 (pf_14 _ (hr_e e_o_11 (hr_e e_o_7 (hr_e e_o_3 e_r_2)))).2) (fun o_17 T_15 i_o_17 f_o_17 => ?_)
          refine s_br (fun c_16 => ?_) (fun c_16 => ?_)
          · have _ := c_16
            have i_f_17 : Rg (0) (0) (o_17.1) := rg_le1 c_16 i_o_17 (rg_b rfl : Rg (0) (0) (0 : Int32))
            refine s_gd (rg_bool (rg_m (rg_b rfl : Rg (0) (0) ((0 : Int32))) (by decide))) ?_
            exact s_some ⟨(T_15), (rg_m (rg_b rfl : Rg (0) (0) ((0 : Int32))) (by decide))⟩
          · have _ := c_16
            have i_f_18 : Rg (1) (4096) (o_17.1) := rg_lt2 (nle_lt c_16) (rg_b rfl : Rg (0) (0) (0 : Int32)) i_o_17
            refine s_ref (hr_q (fr_R f_o_17 r_x0 (by decide) rfl rfl) (hr_e e_o_11 (hr_e e_o_7 (hr_e e_o_3 e_r_1)))) ?_
            refine s_ref (hr_q (fr_R f_o_17 q_r_1 (by decide) rfl rfl) e_r_16) ?_
            refine s_gd (by rw [thN T_15 q_r_16 (k := 47) (n := 4096) rfl (by decide)]; exact rg_inB ((rg_m (rg_b rfl : Rg (0) (0) ((0 : Int32))) (by decide)) : Rg (0) (4095) ((0 : Int32))) (by decide)) ?_
            refine s_dI0 (zX5_takenBy hF T_15 (thI T_15 q_r_16 (k := 47) rfl : Rg (-2147483648) (2147483647) ((hI o_17.2 r_16 (0 : Int32).toNatClampNeg))) (thG T_15 q_r_16)) (fun o_22 eb_o_22 e_o_22 i_o_22 => ?_)
            have T_19 := th_eq e_o_22 T_15
            refine s_br (fun c_20 => ?_) (fun c_20 => ?_)
            · have _ := c_20
              have i_f_21 : Rg (-1) (-1) (o_22.1) := rg_eq c_20 (rg_b rfl : Rg (-1) (-1) ((- 1 : Int32)))
              refine s_gd (rg_bool (rg_m (rg_b rfl : Rg (1) (1) ((1 : Int32))) (by decide))) ?_
              exact s_some ⟨(T_19), (rg_m (rg_b rfl : Rg (1) (1) ((1 : Int32))) (by decide))⟩
            · have _ := c_20
              have i_f_22 : Rg (0) (11) (o_22.1) := rg_nlo c_20 i_o_22 (rg_b rfl : Rg (-1) (-1) ((- 1 : Int32)))
              refine s_gd (rg_bool (rg_m (rg_b rfl : Rg (0) (0) ((0 : Int32))) (by decide))) ?_
              exact s_some ⟨(T_19), (rg_m (rg_b rfl : Rg (0) (0) ((0 : Int32))) (by decide))⟩
      · have _ := c_7
        have i_f_23 : Rg (0) (11) (x1) := rg_nlo c_7 i_x1 (rg_b rfl : Rg (-1) (-1) ((- 1 : Int32)))
        exact s_some ⟨(T_4), (rg_m (rg_b rfl : Rg (1) (1) ((1 : Int32))) (by decide))⟩
    · have _ := c_5
      have i_f_24 : Rg (1) (4) (o_7.1) := rg_nlo c_5 i_o_7 (rg_b rfl : Rg (0) (0) (0 : Int32))
      exact s_some ⟨(T_4), (rg_m (rg_b rfl : Rg (0) (0) ((0 : Int32))) (by decide))⟩
  · have _ := c_2
    have i_f_25 : Rg (1) (8) (o_3.1) := rg_nlo c_2 i_o_3 (rg_b rfl : Rg (0) (0) (0 : Int32))
    exact s_some ⟨(T_1), (rg_m (rg_b rfl : Rg (0) (0) ((0 : Int32))) (by decide))⟩
set_option maxRecDepth 20000 in
theorem zX1_letterOf {ρ : Nat → Nat} {c : Cm} {F : Nat} (hF : 700000 ≤ F) {h : Hp} {x0 : Nat} {x1 : Int32} (T : TH ρ c h) (r_x0 : ρ x0 = 2) (i_x1 : Rg (-2) (30) (x1)) : Sat (sX1_letterOf h x0 x1) (ZI0 h (-32) (255)) := by
  unfold sX1_letterOf sX1_letterOf_16 sX1_letterOf_43
  refine s_q (fun v_1 e_1 => ?_)
  have i_v_1 : Rg (-1) (15) (v_1) := by rw [e_1]; exact (rg_shrk 1 (by decide) i_x1 (by decide) : Rg (-1) (15) (x1 >>> ((1 : Int32) &&& 31)))
  refine s_br (fun c_2 => ?_) (fun c_2 => ?_)
  · have _ := c_2
    have i_f_3 : Rg (-1) (-1) (v_1) := rg_lt1 c_2 i_v_1 (rg_b rfl : Rg (0) (0) (0 : Int32))
    exact s_some ⟨rfl, (rg_m (rg_b rfl : Rg (63) (63) ((63 : Int32))) (by decide))⟩
  · have _ := c_2
    have i_f_4 : Rg (0) (15) (v_1) := rg_le2 (nlt_le c_2) (rg_b rfl : Rg (0) (0) (0 : Int32)) i_v_1
    refine s_br (fun c_5 => ?_) (fun c_5 => ?_)
    · have _ := c_5
      have i_f_6 : Rg (0) (11) (v_1) := rg_lt1 c_5 i_f_4 (thI T r_x0 (k := 2) (i := 3) rfl : Rg (0) (12) ((hI h x0 3)))
      have i_f_7 : Rg (1) (12) ((hI h x0 3)) := rg_lt2 c_5 i_f_4 (thI T r_x0 (k := 2) (i := 3) rfl : Rg (0) (12) ((hI h x0 3)))
      refine s_br (fun c_8 => ?_) (fun c_8 => ?_)
      · have _ := c_8
        have i_f_9 : Rg (0) (0) ((x1 &&& (1 : Int32))) := rg_eq c_8 (rg_b rfl : Rg (0) (0) (0 : Int32))
        obtain ⟨r_7, e_r_7, q_r_7⟩ := thR T r_x0 (k := 2) (i := 14) (k2 := 27) rfl (by decide)
        refine s_ref e_r_7 ?_
        refine s_gd (by rw [thN T q_r_7 (k := 27) (n := 12) rfl (by decide)]; exact rg_inB (i_f_6 : Rg (0) (11) (v_1)) (by decide)) ?_
        exact s_some ⟨rfl, (rg_m (rg_sub (thI T q_r_7 (k := 27) rfl : Rg (0) (255) ((hI h r_7 v_1.toNatClampNeg))) (rg_b rfl : Rg (32) (32) ((32 : Int32))) (by decide) : Rg (-32) (223) (((hI h r_7 v_1.toNatClampNeg) - (32 : Int32)))) (by decide))⟩
      · have _ := c_8
        have i_f_10 : Rg (1) (1) ((x1 &&& (1 : Int32))) := rg_nlo c_8 (rg_and (rg_b rfl : Rg (1) (1) ((1 : Int32))) (by decide) : Rg (0) (1) ((x1 &&& (1 : Int32)))) (rg_b rfl : Rg (0) (0) (0 : Int32))
        obtain ⟨r_5, e_r_5, q_r_5⟩ := thR T r_x0 (k := 2) (i := 14) (k2 := 27) rfl (by decide)
        refine s_ref e_r_5 ?_
        refine s_gd (by rw [thN T q_r_5 (k := 27) (n := 12) rfl (by decide)]; exact rg_inB (i_f_6 : Rg (0) (11) (v_1)) (by decide)) ?_
        exact s_some ⟨rfl, (rg_m (thI T q_r_5 (k := 27) rfl : Rg (0) (255) ((hI h r_5 v_1.toNatClampNeg))) (by decide))⟩
    · have _ := c_5
      exact s_some ⟨rfl, (rg_m (rg_b rfl : Rg (63) (63) ((63 : Int32))) (by decide))⟩
set_option maxRecDepth 20000 in
theorem zX6_isWrittenFirst {ρ : Nat → Nat} {c : Cm} {F : Nat} (hF : 700000 ≤ F) {h : Hp} {x0 : Nat} {x1 : Int32} {x2 : Int32} (T : TH ρ c h) (r_x0 : ρ x0 = 7) (i_x1 : Rg (0) (63) (x1)) (i_x2 : Rg (0) (63) (x2)) : Sat (sX6_isWrittenFirst h x0 x1 x2) (ZI0 h (0) (1)) := by
  unfold sX6_isWrittenFirst sX6_isWrittenFirst_47 sX6_isWrittenFirst_52 sX6_isWrittenFirst_51
  obtain ⟨r_1, e_r_1, q_r_1⟩ := thR T r_x0 (k := 7) (i := 0) (k2 := 2) rfl (by decide)
  refine s_ref e_r_1 ?_
  obtain ⟨r_2, e_r_2, q_r_2⟩ := thR T q_r_1 (k := 2) (i := 20) (k2 := 33) rfl (by decide)
  refine s_ref e_r_2 ?_
  refine s_gd (by rw [thN T q_r_2 (k := 33) (n := 64) rfl (by decide)]; exact rg_inB (i_x1 : Rg (0) (63) (x1)) (by decide)) ?_
  refine s_ref e_r_1 ?_
  refine s_ref e_r_2 ?_
  refine s_gd (by rw [thN T q_r_2 (k := 33) (n := 64) rfl (by decide)]; exact rg_inB (i_x2 : Rg (0) (63) (x2)) (by decide)) ?_
  refine s_br (fun c_1 => ?_) (fun c_1 => ?_)
  · have _ := c_1
    have i_f_2 : Rg (0) (6) ((hI h r_2 x2.toNatClampNeg)) := rg_lt1 c_1 (thI T q_r_2 (k := 33) rfl : Rg (0) (7) ((hI h r_2 x2.toNatClampNeg))) (thI T q_r_2 (k := 33) rfl : Rg (0) (7) ((hI h r_2 x1.toNatClampNeg)))
    have i_f_3 : Rg (1) (7) ((hI h r_2 x1.toNatClampNeg)) := rg_lt2 c_1 (thI T q_r_2 (k := 33) rfl : Rg (0) (7) ((hI h r_2 x2.toNatClampNeg))) (thI T q_r_2 (k := 33) rfl : Rg (0) (7) ((hI h r_2 x1.toNatClampNeg)))
    refine s_gd (rg_bool (rg_m (rg_b rfl : Rg (1) (1) ((1 : Int32))) (by decide))) ?_
    exact s_some ⟨rfl, (rg_m (rg_b rfl : Rg (1) (1) ((1 : Int32))) (by decide))⟩
  · have _ := c_1
    refine s_ref e_r_1 ?_
    refine s_ref e_r_2 ?_
    refine s_gd (by rw [thN T q_r_2 (k := 33) (n := 64) rfl (by decide)]; exact rg_inB (i_x1 : Rg (0) (63) (x1)) (by decide)) ?_
    refine s_ref e_r_1 ?_
    refine s_ref e_r_2 ?_
    refine s_gd (by rw [thN T q_r_2 (k := 33) (n := 64) rfl (by decide)]; exact rg_inB (i_x2 : Rg (0) (63) (x2)) (by decide)) ?_
    refine s_br (fun c_4 => ?_) (fun c_4 => ?_)
    · have _ := c_4
      refine s_br (fun c_5 => ?_) (fun c_5 => ?_)
      · have _ := c_5
        refine s_gd (rg_bool (rg_m (rg_b rfl : Rg (0) (0) ((0 : Int32))) (by decide))) ?_
        exact s_some ⟨rfl, (rg_m (rg_b rfl : Rg (0) (0) ((0 : Int32))) (by decide))⟩
      · have _ := c_5
        have i_f_6 : Rg (0) (62) (x1) := rg_lt1 (nle_lt c_5) i_x1 i_x2
        have i_f_7 : Rg (1) (63) (x2) := rg_lt2 (nle_lt c_5) i_x1 i_x2
        refine s_gd (rg_bool (rg_m (rg_b rfl : Rg (1) (1) ((1 : Int32))) (by decide))) ?_
        exact s_some ⟨rfl, (rg_m (rg_b rfl : Rg (1) (1) ((1 : Int32))) (by decide))⟩
    · have _ := c_4
      refine s_gd (rg_bool (rg_m (rg_b rfl : Rg (0) (0) ((0 : Int32))) (by decide))) ?_
      exact s_some ⟨rfl, (rg_m (rg_b rfl : Rg (0) (0) ((0 : Int32))) (by decide))⟩
theorem zX6_takenIn {ρ : Nat → Nat} {c : Cm} {F : Nat} (hF : 700000 ≤ F) {h : Hp} {x0 : Nat} {x1 : Int32} (T : TH ρ c h) (r_x0 : ρ x0 = 7) (i_x1 : Rg (-2147483648) (2147483647) (x1)) (gx : GMq (c.2.1 50) x1) : Sat (sX6_takenIn h x0 x1) (ZI0 h (-1) (23)) := by
  unfold sX6_takenIn sX6_takenIn_31
  refine s_q (fun v e => ?_)
  refine s_br (fun _ => s_some ⟨rfl, rg_m (rg_b rfl : Rg (-1) (-1) (-1 : Int32)) (by decide)⟩) (fun c1 => ?_)
  obtain ⟨b, eb, rb⟩ := thR T r_x0 (i := 3) (k2 := 4) rfl (by decide)
  refine s_ref eb ?_
  have iv : Rg 0 11 v := by
    rcases gx.1.2.1 with w | w
    · rw [e]; exact w
    · exact absurd (e.trans w) c1
  have is := (thI T rb (k := 4) (i := 5) rfl : Rg 0 1 (hI h b 5))
  have i2 : Rg 0 22 ((2 : Int32) * v) := rg_mulc' (rg_b rfl : Rg 2 2 (2 : Int32)) iv (by decide)
  have i3 : Rg 1 23 (((2 : Int32) * v) + (1 : Int32)) := rg_add i2 (rg_b rfl : Rg 1 1 (1 : Int32)) (by decide)
  have a1 := i3.1
  have a2 := i3.2
  have b1 := is.1
  have b2 := is.2
  have e4 := ts (x := ((2 : Int32) * v) + (1 : Int32)) (y := hI h b 5) (by omega)
  exact s_some ⟨rfl, ⟨by show (-1 : Int) ≤ ((((2 : Int32) * v) + (1 : Int32)) - (hI h b 5)).toInt; omega, by show ((((2 : Int32) * v) + (1 : Int32)) - (hI h b 5)).toInt ≤ 23; omega⟩⟩

set_option maxRecDepth 20000 in
theorem zX6_standsOn {ρ : Nat → Nat} {c : Cm} {F : Nat} (hF : 700000 ≤ F) {h : Hp} {x0 : Nat} {x1 : Int32} {x2 : Int32} (T : TH ρ c h) (r_x0 : ρ x0 = 7) (i_x1 : Rg (-2147483648) (2147483647) (x1)) (i_x2 : Rg (0) (63) (x2)) (gx : GMq (c.2.1 50) x1) : Sat (sX6_standsOn h x0 x1 x2) (ZI0 h (-2) (23)) := by
  unfold sX6_standsOn sX6_standsOn_54
  refine s_br (fun c_1 => ?_) (fun c_1 => ?_)
  · have _ := c_1
    obtain ⟨r_7, e_r_7, q_r_7⟩ := thR T r_x0 (k := 7) (i := 3) (k2 := 4) rfl (by decide)
    refine s_ref e_r_7 ?_
    exact s_some ⟨rfl, (rg_m (rg_add (rg_mulc' (rg_b rfl : Rg (2) (2) ((2 : Int32))) (gq_man gx : Rg (0) (11) (((x1 >>> ((12 : Int32) &&& 31)) &&& (15 : Int32)))) (by decide) : Rg (0) (22) (((2 : Int32) * ((x1 >>> ((12 : Int32) &&& 31)) &&& (15 : Int32))))) (thI T q_r_7 (k := 4) (i := 5) rfl : Rg (0) (1) ((hI h r_7 5))) (by decide) : Rg (0) (23) (((2 : Int32) * ((x1 >>> ((12 : Int32) &&& 31)) &&& (15 : Int32))) + (hI h r_7 5))) (by decide))⟩
  · have _ := c_1
    refine s_br (fun c_2 => ?_) (fun c_2 => ?_)
    · have _ := c_2
      refine s_dI0 (zX6_takenIn hF T r_x0 i_x1 gx) (fun o_6 eb_o_6 e_o_6 i_o_6 => ?_)
      have T_3 := th_eq e_o_6 T
      exact s_some ⟨(e_o_6.trans rfl), (rg_m i_o_6 (by decide))⟩
    · have _ := c_2
      obtain ⟨r_3, e_r_3, q_r_3⟩ := thR T r_x0 (k := 7) (i := 3) (k2 := 4) rfl (by decide)
      refine s_ref e_r_3 ?_
      obtain ⟨r_4, e_r_4, q_r_4⟩ := thR T q_r_3 (k := 4) (i := 0) (k2 := 34) rfl (by decide)
      refine s_ref e_r_4 ?_
      refine s_gd (by rw [thN T q_r_4 (k := 34) (n := 64) rfl (by decide)]; exact rg_inB (i_x2 : Rg (0) (63) (x2)) (by decide)) ?_
      exact s_some ⟨rfl, (thI T q_r_4 (k := 34) rfl : Rg (-2) (23) ((hI h r_4 x2.toNatClampNeg)))⟩
set_option maxRecDepth 20000 in
theorem zX6_comesFirst_150 {ρ : Nat → Nat} {c : Cm} {h0 : Hp} {F : Nat} (hF : 700000 ≤ F) {h : Hp} {x0 : Nat} {x1 : Int32} {x3 : Int32} {x4 : Int32} (E : h = h0) (T : TH ρ c h) (r_x0 : ρ x0 = 7) (i_x1 : Rg (-2147483648) (2147483647) (x1)) (i_x3 : Rg (0) (63) (x3)) (i_x4 : Rg (-2) (23) (x4)) (gx : (GMq (c.2.1 50) x1)) : Sat (sX6_comesFirst_150 F h x0 x1 x3 x4) (ZI0 h0 (0) (1)) := by
  unfold sX6_comesFirst_150 sX6_comesFirst_178 sX6_comesFirst_179 sX6_comesFirst_192 sX6_comesFirst_202
  obtain ⟨r_1, e_r_1, q_r_1⟩ := thR T r_x0 (k := 7) (i := 0) (k2 := 2) rfl (by decide)
  refine s_ref e_r_1 ?_
  obtain ⟨r_2, e_r_2, q_r_2⟩ := thR T q_r_1 (k := 2) (i := 19) (k2 := 32) rfl (by decide)
  refine s_ref e_r_2 ?_
  refine s_gd (by rw [thN T q_r_2 (k := 32) (n := 64) rfl (by decide)]; exact rg_inB (i_x3 : Rg (0) (63) (x3)) (by decide)) ?_
  refine s_br (fun c_1 => ?_) (fun c_1 => ?_)
  · have _ := c_1
    have i_f_2 : Rg (0) (0) ((hI h r_2 x3.toNatClampNeg)) := rg_le1 c_1 (thI T q_r_2 (k := 32) rfl : Rg (0) (7) ((hI h r_2 x3.toNatClampNeg))) (rg_b rfl : Rg (0) (0) (0 : Int32))
    refine s_br (fun c_3 => ?_) (fun c_3 => ?_)
    · have _ := c_3
      have i_f_4 : Rg (-1) (-1) (x4) := rg_eq c_3 (rg_b rfl : Rg (-1) (-1) ((- 1 : Int32)))
      refine s_br (fun c_5 => ?_) (fun c_5 => ?_)
      · have _ := c_5
        exact (rc_eq c_5 (rg_b rfl : Rg (1) (1) ((1 : Int32))) (rg_b rfl : Rg (0) (0) ((0 : Int32))) (by decide)).elim
      · have _ := c_5
        refine s_gd (rg_bool (rg_m (rg_b rfl : Rg (1) (1) ((1 : Int32))) (by decide))) ?_
        exact s_some ⟨E, (rg_m (rg_b rfl : Rg (1) (1) ((1 : Int32))) (by decide))⟩
    · have _ := c_3
      refine s_br (fun c_6 => ?_) (fun c_6 => ?_)
      · have _ := c_6
        refine s_gd (rg_bool (rg_m (rg_b rfl : Rg (0) (0) ((0 : Int32))) (by decide))) ?_
        exact s_some ⟨E, (rg_m (rg_b rfl : Rg (0) (0) ((0 : Int32))) (by decide))⟩
      · have _ := c_6
        exact (rc_ne c_6 (rg_b rfl : Rg (0) (0) ((0 : Int32))) (rg_b rfl : Rg (0) (0) ((0 : Int32)))).elim
  · have _ := c_1
    have i_f_7 : Rg (1) (7) ((hI h r_2 x3.toNatClampNeg)) := rg_lt2 (nle_lt c_1) (rg_b rfl : Rg (0) (0) (0 : Int32)) (thI T q_r_2 (k := 32) rfl : Rg (0) (7) ((hI h r_2 x3.toNatClampNeg)))
    have og_8 : Rg (0) (63) ((x3 - (1 : Int32))) := ⟨(by have : ((x3 - (1 : Int32)) : Int32).toInt = (x3 : Int32).toInt - ((1 : Int32) : Int32).toInt := ti_sub (i_x3 : Rg (0) (63) (x3)) ((rg_b rfl : Rg (1) (1) ((1 : Int32))) : Rg (1) (1) ((1 : Int32))) (by decide); have := (i_x3 : Rg (0) (63) (x3)).1; have := (i_x3 : Rg (0) (63) (x3)).2; have : ((1 : Int32)).toInt = 1 := rfl; have := (i_x1 : Rg (-2147483648) (2147483647) (x1)).1; have := (i_x1 : Rg (-2147483648) (2147483647) (x1)).2; have := nle_i c_1; have := (i_f_7 : Rg (1) (7) ((hI h r_2 x3.toNatClampNeg))).1; have := (i_f_7 : Rg (1) (7) ((hI h r_2 x3.toNatClampNeg))).2; have := th_dle T q_r_2 (x := x3) ((i_x3 : Rg (0) (63) (x3))).1; have : (0 : Int32).toInt = 0 := rfl; omega), (by have : ((x3 - (1 : Int32)) : Int32).toInt = (x3 : Int32).toInt - ((1 : Int32) : Int32).toInt := ti_sub (i_x3 : Rg (0) (63) (x3)) ((rg_b rfl : Rg (1) (1) ((1 : Int32))) : Rg (1) (1) ((1 : Int32))) (by decide); have := (i_x3 : Rg (0) (63) (x3)).1; have := (i_x3 : Rg (0) (63) (x3)).2; have : ((1 : Int32)).toInt = 1 := rfl; have := (i_x1 : Rg (-2147483648) (2147483647) (x1)).1; have := (i_x1 : Rg (-2147483648) (2147483647) (x1)).2; have := nle_i c_1; have := (i_f_7 : Rg (1) (7) ((hI h r_2 x3.toNatClampNeg))).1; have := (i_f_7 : Rg (1) (7) ((hI h r_2 x3.toNatClampNeg))).2; have := th_dle T q_r_2 (x := x3) ((i_x3 : Rg (0) (63) (x3))).1; have : (0 : Int32).toInt = 0 := rfl; omega)⟩
    refine s_dI0 (zX6_standsOn hF T r_x0 i_x1 og_8 gx) (fun o_5 eb_o_5 e_o_5 i_o_5 => ?_)
    have T_9 := th_eq e_o_5 T
    refine s_br (fun c_10 => ?_) (fun c_10 => ?_)
    · have _ := c_10
      have i_f_11 : Rg (-1) (-1) (o_5.1) := rg_eq c_10 (rg_b rfl : Rg (-1) (-1) ((- 1 : Int32)))
      refine s_br (fun c_12 => ?_) (fun c_12 => ?_)
      · have _ := c_12
        have i_f_13 : Rg (-1) (-1) (x4) := rg_eq c_12 (rg_b rfl : Rg (-1) (-1) ((- 1 : Int32)))
        refine s_br (fun c_14 => ?_) (fun c_14 => ?_)
        · have _ := c_14
          refine s_gd (rg_bool (rg_m (rg_b rfl : Rg (0) (0) ((0 : Int32))) (by decide))) ?_
          exact s_some ⟨(e_o_5.trans E), (rg_m (rg_b rfl : Rg (0) (0) ((0 : Int32))) (by decide))⟩
        · have _ := c_14
          exact (rc_ne c_14 (rg_b rfl : Rg (1) (1) ((1 : Int32))) (rg_b rfl : Rg (1) (1) ((1 : Int32)))).elim
      · have _ := c_12
        refine s_br (fun c_15 => ?_) (fun c_15 => ?_)
        · have _ := c_15
          exact (rc_eq c_15 (rg_b rfl : Rg (0) (0) ((0 : Int32))) (rg_b rfl : Rg (1) (1) ((1 : Int32))) (by decide)).elim
        · have _ := c_15
          refine s_gd (rg_bool (rg_m (rg_b rfl : Rg (1) (1) ((1 : Int32))) (by decide))) ?_
          exact s_some ⟨(e_o_5.trans E), (rg_m (rg_b rfl : Rg (1) (1) ((1 : Int32))) (by decide))⟩
    · have _ := c_10
      refine s_br (fun c_16 => ?_) (fun c_16 => ?_)
      · have _ := c_16
        have i_f_17 : Rg (-1) (-1) (x4) := rg_eq c_16 (rg_b rfl : Rg (-1) (-1) ((- 1 : Int32)))
        refine s_br (fun c_18 => ?_) (fun c_18 => ?_)
        · have _ := c_18
          exact (rc_eq c_18 (rg_b rfl : Rg (1) (1) ((1 : Int32))) (rg_b rfl : Rg (0) (0) ((0 : Int32))) (by decide)).elim
        · have _ := c_18
          refine s_gd (rg_bool (rg_m (rg_b rfl : Rg (1) (1) ((1 : Int32))) (by decide))) ?_
          exact s_some ⟨(e_o_5.trans E), (rg_m (rg_b rfl : Rg (1) (1) ((1 : Int32))) (by decide))⟩
      · have _ := c_16
        refine s_br (fun c_19 => ?_) (fun c_19 => ?_)
        · have _ := c_19
          refine s_gd (rg_bool (rg_m (rg_b rfl : Rg (0) (0) ((0 : Int32))) (by decide))) ?_
          exact s_some ⟨(e_o_5.trans E), (rg_m (rg_b rfl : Rg (0) (0) ((0 : Int32))) (by decide))⟩
        · have _ := c_19
          exact (rc_ne c_19 (rg_b rfl : Rg (0) (0) ((0 : Int32))) (rg_b rfl : Rg (0) (0) ((0 : Int32)))).elim
set_option maxRecDepth 20000 in
theorem zX6_comesFirst_57 {ρ : Nat → Nat} {c : Cm} {h0 : Hp} {F : Nat} (hF : 700000 ≤ F) {k_5 : Hp → Nat → Int32 → Int32 → Int32 → Int32 → Option (Int32 × Hp)} {C_5 : Int} (hk_5 : ∀ {h : Hp} {x0 : Nat} {x1 : Int32} {x2 : Int32} {x3 : Int32} {x4 : Int32}, h = h0 → TH ρ c h → ρ x0 = 7 → Rg (-2147483648) (2147483647) (x1) → Rg (-2147483648) (2147483647) (x2) → Rg (-1) (63) (x3) → Rg (0) (4) (x4) → (GMq (c.2.1 50) x1) → (GMq (c.2.1 50) x2) → C_5 < x4.toInt → Sat (k_5 h x0 x1 x2 x3 x4) (ZI0 h0 (0) (1))) {h : Hp} {x0 : Nat} {x1 : Int32} {x2 : Int32} {x3 : Int32} {x4 : Int32} {x5 : Int32} {t0 : Int32} (E : h = h0) (T : TH ρ c h) (r_x0 : ρ x0 = 7) (i_x1 : Rg (-2147483648) (2147483647) (x1)) (i_x2 : Rg (-2147483648) (2147483647) (x2)) (i_x3 : Rg (-1) (63) (x3)) (i_x4 : Rg (0) (3) (x4)) (i_x5 : Rg (0) (63) (x5)) (i_t0 : Rg (0) (1) (t0)) (hc_5 : C_5 ≤ x4.toInt) (gx : (GMq (c.2.1 50) x1)) (gy : (GMq (c.2.1 50) x2)) : Sat (sX6_comesFirst_57 F k_5 h x0 x1 x2 x3 x4 x5 t0) (ZI0 h0 (0) (1)) := by
  unfold sX6_comesFirst_57 sX6_comesFirst_82 sX6_comesFirst_79
  refine s_br (fun c_1 => ?_) (fun c_1 => ?_)
  · have _ := c_1
    have i_f_2 : Rg (0) (0) (t0) := rg_eq c_1 (rg_b rfl : Rg (0) (0) (0 : Int32))
    refine s_q (fun v_1q1 e_3 => ?_)
    have i_v_1q1 : Rg (1) (4) (v_1q1) := by rw [e_3]; exact (rg_add i_x4 (rg_b rfl : Rg (1) (1) ((1 : Int32))) (by decide) : Rg (1) (4) (x4 + (1 : Int32)))
    have m_4 : (v_1q1).toInt = x4.toInt + 1 := by rw [e_3]; exact rg_inc i_x4 (by decide)
    exact hk_5 E T r_x0 i_x1 i_x2 i_x3 (rg_m i_v_1q1 (by decide)) gx gy (by have := hc_5; omega)
  · have _ := c_1
    have i_f_5 : Rg (1) (1) (t0) := rg_nlo c_1 i_t0 (rg_b rfl : Rg (0) (0) (0 : Int32))
    refine s_br (fun c_6 => ?_) (fun c_6 => ?_)
    · have _ := c_6
      have i_f_7 : Rg (-1) (-1) (x3) := rg_eq c_6 (rg_b rfl : Rg (-1) (-1) ((- 1 : Int32)))
      refine s_q (fun v_1q3 e_8 => ?_)
      have i_v_1q3 : Rg (1) (4) (v_1q3) := by rw [e_8]; exact (rg_add i_x4 (rg_b rfl : Rg (1) (1) ((1 : Int32))) (by decide) : Rg (1) (4) (x4 + (1 : Int32)))
      have m_9 : (v_1q3).toInt = x4.toInt + 1 := by rw [e_8]; exact rg_inc i_x4 (by decide)
      exact hk_5 E T r_x0 i_x1 i_x2 (rg_m i_x5 (by decide)) (rg_m i_v_1q3 (by decide)) gx gy (by have := hc_5; omega)
    · have _ := c_6
      have i_f_10 : Rg (0) (63) (x3) := rg_nlo c_6 i_x3 (rg_b rfl : Rg (-1) (-1) ((- 1 : Int32)))
      refine s_dI0 (zX6_isWrittenFirst hF T r_x0 i_x5 i_f_10) (fun o_3 eb_o_3 e_o_3 i_o_3 => ?_)
      have T_11 := th_eq e_o_3 T
      refine s_br (fun c_12 => ?_) (fun c_12 => ?_)
      · have _ := c_12
        have i_f_13 : Rg (0) (0) (o_3.1) := rg_eq c_12 (rg_b rfl : Rg (0) (0) (0 : Int32))
        refine s_q (fun v_1q4 e_14 => ?_)
        have i_v_1q4 : Rg (1) (4) (v_1q4) := by rw [e_14]; exact (rg_add i_x4 (rg_b rfl : Rg (1) (1) ((1 : Int32))) (by decide) : Rg (1) (4) (x4 + (1 : Int32)))
        have m_15 : (v_1q4).toInt = x4.toInt + 1 := by rw [e_14]; exact rg_inc i_x4 (by decide)
        exact hk_5 (e_o_3.trans E) T_11 r_x0 i_x1 i_x2 (rg_m i_f_10 (by decide)) (rg_m i_v_1q4 (by decide)) gx gy (by have := hc_5; omega)
      · have _ := c_12
        have i_f_16 : Rg (1) (1) (o_3.1) := rg_nlo c_12 i_o_3 (rg_b rfl : Rg (0) (0) (0 : Int32))
        refine s_q (fun v_1q6 e_17 => ?_)
        have i_v_1q6 : Rg (1) (4) (v_1q6) := by rw [e_17]; exact (rg_add i_x4 (rg_b rfl : Rg (1) (1) ((1 : Int32))) (by decide) : Rg (1) (4) (x4 + (1 : Int32)))
        have m_18 : (v_1q6).toInt = x4.toInt + 1 := by rw [e_17]; exact rg_inc i_x4 (by decide)
        exact hk_5 (e_o_3.trans E) T_11 r_x0 i_x1 i_x2 (rg_m i_x5 (by decide)) (rg_m i_v_1q6 (by decide)) gx gy (by have := hc_5; omega)
set_option maxRecDepth 20000 in
theorem zX6_comesFirst_22 {ρ : Nat → Nat} {c : Cm} {h0 : Hp} {F : Nat} (hF : 700000 ≤ F) {k_5 : Hp → Nat → Int32 → Int32 → Int32 → Int32 → Option (Int32 × Hp)} {C_5 : Int} (hk_5 : ∀ {h : Hp} {x0 : Nat} {x1 : Int32} {x2 : Int32} {x3 : Int32} {x4 : Int32}, h = h0 → TH ρ c h → ρ x0 = 7 → Rg (-2147483648) (2147483647) (x1) → Rg (-2147483648) (2147483647) (x2) → Rg (-1) (63) (x3) → Rg (0) (4) (x4) → (GMq (c.2.1 50) x1) → (GMq (c.2.1 50) x2) → C_5 < x4.toInt → Sat (k_5 h x0 x1 x2 x3 x4) (ZI0 h0 (0) (1))) {h : Hp} {x0 : Nat} {x1 : Int32} {x2 : Int32} {x3 : Int32} {x4 : Int32} {t0 : Int32} (E : h = h0) (T : TH ρ c h) (r_x0 : ρ x0 = 7) (i_x1 : Rg (-2147483648) (2147483647) (x1)) (i_x2 : Rg (-2147483648) (2147483647) (x2)) (i_x3 : Rg (-1) (63) (x3)) (i_x4 : Rg (0) (3) (x4)) (i_t0 : Rg (-2147483648) (2147483647) (t0)) (hc_5 : C_5 ≤ x4.toInt) (gx : (GMq (c.2.1 50) x1)) (gy : (GMq (c.2.1 50) x2)) : Sat (sX6_comesFirst_22 F k_5 h x0 x1 x2 x3 x4 t0) (ZI0 h0 (0) (1)) := by
  unfold sX6_comesFirst_22 
  refine s_q (fun v_1 e_1 => ?_)
  have i_v_1 : Rg (0) (63) (v_1) := by rw [e_1]; exact (rg_and (rg_b rfl : Rg (63) (63) ((63 : Int32))) (by decide) : Rg (0) (63) ((t0 >>> (((6 : Int32) * (x4 &&& (1 : Int32))) &&& 31)) &&& (63 : Int32)))
  refine s_dI0 (zX6_standsOn hF T r_x0 i_x1 i_v_1 gx) (fun o_2 eb_o_2 e_o_2 i_o_2 => ?_)
  have T_2 := th_eq e_o_2 T
  refine s_dI0 (zX6_standsOn hF T_2 r_x0 i_x2 i_v_1 gy) (fun o_3 eb_o_3 e_o_3 i_o_3 => ?_)
  have T_3 := th_eq e_o_3 T_2
  refine s_br (fun c_4 => ?_) (fun c_4 => ?_)
  · have _ := c_4
    exact zX6_comesFirst_57 hF @hk_5 (e_o_3.trans (e_o_2.trans E)) T_3 r_x0 i_x1 i_x2 i_x3 i_x4 i_v_1 (rg_m (rg_b rfl : Rg (0) (0) ((0 : Int32))) (by decide)) hc_5 gx gy
  · have _ := c_4
    exact zX6_comesFirst_57 hF @hk_5 (e_o_3.trans (e_o_2.trans E)) T_3 r_x0 i_x1 i_x2 i_x3 i_x4 i_v_1 (rg_m (rg_b rfl : Rg (1) (1) ((1 : Int32))) (by decide)) hc_5 gx gy
set_option maxRecDepth 20000 in
theorem zX6_comesFirst_5 {ρ : Nat → Nat} {c : Cm} {h0 : Hp} {F : Nat} (hF : 700000 ≤ F) : ∀ (f : Nat) {h : Hp} {x0 : Nat} {x1 : Int32} {x2 : Int32} {x3 : Int32} {x4 : Int32}, h = h0 → TH ρ c h → ρ x0 = 7 → Rg (-2147483648) (2147483647) (x1) → Rg (-2147483648) (2147483647) (x2) → Rg (-1) (63) (x3) → Rg (0) (4) (x4) → (GMq (c.2.1 50) x1) → (GMq (c.2.1 50) x2) → (4 - x4.toInt).toNat < f → Sat (sX6_comesFirst_5 F f h x0 x1 x2 x3 x4) (ZI0 h0 (0) (1)) := by
  intro f
  induction f with
  | zero => intros; omega
  | succ f ih =>
    intro h x0 x1 x2 x3 x4 E T r_x0 i_x1 i_x2 i_x3 i_x4 gx gy hm
    rw [sX6_comesFirst_5]
    unfold sX6_comesFirst_149
    obtain ⟨C_5, hC_5⟩ : ∃ C : Int, C = x4.toInt := ⟨_, rfl⟩
    have hk_5 : ∀ {h : Hp} {x0 : Nat} {x1 : Int32} {x2 : Int32} {x3 : Int32} {x4 : Int32}, h = h0 → TH ρ c h → ρ x0 = 7 → Rg (-2147483648) (2147483647) (x1) → Rg (-2147483648) (2147483647) (x2) → Rg (-1) (63) (x3) → Rg (0) (4) (x4) → (GMq (c.2.1 50) x1) → (GMq (c.2.1 50) x2) → C_5 < x4.toInt → Sat (sX6_comesFirst_5 F f h x0 x1 x2 x3 x4) (ZI0 h0 (0) (1)) := by
      intro h' x0' x1' x2' x3' x4' E' T' r_x0' i_x1' i_x2' i_x3' i_x4' gx' gy' hl
      exact ih E' T' r_x0' i_x1' i_x2' i_x3' i_x4' gx' gy' (by have := i_x4'.1; have := i_x4'.2; omega)
    have hc_5 : C_5 ≤ x4.toInt := by omega
    refine s_br (fun c_1 => ?_) (fun c_1 => ?_)
    · have _ := c_1
      have i_f_2 : Rg (4) (4) (x4) := rg_le2 c_1 (rg_b rfl : Rg (4) (4) ((4 : Int32))) i_x4
      refine s_br (fun c_3 => ?_) (fun c_3 => ?_)
      · have _ := c_3
        have i_f_4 : Rg (-1) (-1) (x3) := rg_eq c_3 (rg_b rfl : Rg (-1) (-1) ((- 1 : Int32)))
        exact s_some ⟨E, (rg_m (rg_b rfl : Rg (0) (0) ((0 : Int32))) (by decide))⟩
      · have _ := c_3
        have i_f_5 : Rg (0) (63) (x3) := rg_nlo c_3 i_x3 (rg_b rfl : Rg (-1) (-1) ((- 1 : Int32)))
        refine s_dI0 (zX6_standsOn hF T r_x0 i_x1 i_f_5 gx) (fun o_3 eb_o_3 e_o_3 i_o_3 => ?_)
        have T_6 := th_eq e_o_3 T
        refine s_dI0 (zX6_standsOn hF T_6 r_x0 i_x2 i_f_5 gy) (fun o_4 eb_o_4 e_o_4 i_o_4 => ?_)
        have T_7 := th_eq e_o_4 T_6
        refine s_br (fun c_8 => ?_) (fun c_8 => ?_)
        · have _ := c_8
          have i_f_9 : Rg (-1) (-1) (o_3.1) := rg_eq c_8 (rg_b rfl : Rg (-1) (-1) ((- 1 : Int32)))
          exact zX6_comesFirst_150 hF (e_o_4.trans (e_o_3.trans E)) T_7 r_x0 i_x1 i_f_5 (rg_m i_f_9 (by decide)) gx
        · have _ := c_8
          refine s_br (fun c_10 => ?_) (fun c_10 => ?_)
          · have _ := c_10
            have i_f_11 : Rg (-1) (-1) (o_4.1) := rg_eq c_10 (rg_b rfl : Rg (-1) (-1) ((- 1 : Int32)))
            exact zX6_comesFirst_150 hF (e_o_4.trans (e_o_3.trans E)) T_7 r_x0 i_x1 i_f_5 i_o_3 gx
          · have _ := c_10
            obtain ⟨r_7, e_r_7, q_r_7⟩ := thR T_7 r_x0 (k := 7) (i := 0) (k2 := 2) rfl (by decide)
            refine s_ref e_r_7 ?_
            refine s_dI0 (zX1_letterOf hF T_7 q_r_7 (rg_m i_o_3 (by decide))) (fun o_8 eb_o_8 e_o_8 i_o_8 => ?_)
            have T_12 := th_eq e_o_8 T_7
            refine s_ref (hr_e e_o_8 e_r_7) ?_
            refine s_dI0 (zX1_letterOf hF T_12 q_r_7 (rg_m i_o_4 (by decide))) (fun o_10 eb_o_10 e_o_10 i_o_10 => ?_)
            have T_13 := th_eq e_o_10 T_12
            refine s_br (fun c_14 => ?_) (fun c_14 => ?_)
            · have _ := c_14
              refine s_gd (rg_bool (rg_m (rg_b rfl : Rg (0) (0) ((0 : Int32))) (by decide))) ?_
              exact s_some ⟨(e_o_10.trans (e_o_8.trans (e_o_4.trans (e_o_3.trans E)))), (rg_m (rg_b rfl : Rg (0) (0) ((0 : Int32))) (by decide))⟩
            · have _ := c_14
              have i_f_15 : Rg (-32) (254) (o_8.1) := rg_lt1 (nle_lt c_14) i_o_8 i_o_10
              have i_f_16 : Rg (-31) (255) (o_10.1) := rg_lt2 (nle_lt c_14) i_o_8 i_o_10
              refine s_gd (rg_bool (rg_m (rg_b rfl : Rg (1) (1) ((1 : Int32))) (by decide))) ?_
              exact s_some ⟨(e_o_10.trans (e_o_8.trans (e_o_4.trans (e_o_3.trans E)))), (rg_m (rg_b rfl : Rg (1) (1) ((1 : Int32))) (by decide))⟩
    · have _ := c_1
      have i_f_17 : Rg (0) (3) (x4) := rg_lt1 (nle_lt c_1) i_x4 (rg_b rfl : Rg (4) (4) ((4 : Int32)))
      refine s_br (fun c_18 => ?_) (fun c_18 => ?_)
      · have _ := c_18
        have i_f_19 : Rg (2) (3) (x4) := rg_le2 c_18 (rg_b rfl : Rg (2) (2) ((2 : Int32))) i_f_17
        exact zX6_comesFirst_22 hF @hk_5 E T r_x0 i_x1 i_x2 i_x3 (rg_m i_f_19 (by decide)) i_x2 hc_5 gx gy
      · have _ := c_18
        have i_f_20 : Rg (0) (1) (x4) := rg_lt1 (nle_lt c_18) i_f_17 (rg_b rfl : Rg (2) (2) ((2 : Int32)))
        exact zX6_comesFirst_22 hF @hk_5 E T r_x0 i_x1 i_x2 i_x3 (rg_m i_f_20 (by decide)) i_x1 hc_5 gx gy
set_option maxRecDepth 20000 in
theorem zX6_comesFirst {ρ : Nat → Nat} {c : Cm} {F : Nat} (hF : 700000 ≤ F) {h : Hp} {x0 : Nat} {x1 : Int32} {x2 : Int32} (T : TH ρ c h) (r_x0 : ρ x0 = 7) (i_x1 : Rg (-2147483648) (2147483647) (x1)) (i_x2 : Rg (-2147483648) (2147483647) (x2)) (gx : GMq (c.2.1 50) x1) (gy : GMq (c.2.1 50) x2) : Sat (sX6_comesFirst F h x0 x1 x2) (ZI0 h (0) (1)) := by
  unfold sX6_comesFirst 
  have m_1 : Rg (0) (4) ((0 : Int32)) := (rg_m (rg_b rfl : Rg (0) (0) ((0 : Int32))) (by decide))
  exact zX6_comesFirst_5 hF F rfl T r_x0 i_x1 i_x2 (rg_m (rg_b rfl : Rg (-1) (-1) ((- 1 : Int32))) (by decide)) (rg_m (rg_b rfl : Rg (0) (0) ((0 : Int32))) (by decide)) gx gy (by have := m_1.1; have := m_1.2; omega)
set_option maxRecDepth 20000 in
theorem zX6_keep_23 {ρ : Nat → Nat} {c : Cm} {F : Nat} (hF : 700000 ≤ F) (hA : pmA c [(48, 999), (7, 6)]) : ∀ (f : Nat) {h : Hp} {x0 : Nat} {x1 : Int32} {x2 : Int32} {x3 : Int32}, TH ρ c h → ρ x0 = 7 → Rg (-2147483648) (2147483647) (x1) → Rg (0) (2999) (x2) → Rg (0) (2999) (x3) → (0 ≤ x2.toInt ∧ x2.toInt ≤ x3.toInt ∧ x3.toInt ≤ (hI h x0 6).toInt ∧ (hI h x0 6).toInt ≤ 2999) → (GMq (c.2.1 50) x1) → ((x3.toInt - x2.toInt) - (0)).toNat < f → Sat (sX6_keep_23 F f h x0 x1 x2 x3) (ZV ρ c) := by
  intro f
  induction f with
  | zero => intros; omega
  | succ f ih =>
    intro h x0 x1 x2 x3 T r_x0 i_x1 i_x2 i_x3 kb gx hm
    rw [sX6_keep_23]
    unfold sX6_keep_61
    obtain ⟨C_23, hC_23⟩ : ∃ C : Int, C = (x3.toInt - x2.toInt) := ⟨_, rfl⟩
    have hk_23 : ∀ {h : Hp} {x0 : Nat} {x1 : Int32} {x2 : Int32} {x3 : Int32}, TH ρ c h → ρ x0 = 7 → Rg (-2147483648) (2147483647) (x1) → Rg (0) (2999) (x2) → Rg (0) (2999) (x3) → (0 ≤ x2.toInt ∧ x2.toInt ≤ x3.toInt ∧ x3.toInt ≤ (hI h x0 6).toInt ∧ (hI h x0 6).toInt ≤ 2999) → (GMq (c.2.1 50) x1) → (0 ≤ (x3.toInt - x2.toInt) ∧ (x3.toInt - x2.toInt) < C_23) → Sat (sX6_keep_23 F f h x0 x1 x2 x3) (ZV ρ c) := by
      intro h' x0' x1' x2' x3' T' r_x0' i_x1' i_x2' i_x3' kb' gx' hl
      exact ih T' r_x0' i_x1' i_x2' i_x3' kb' gx' (by omega)
    have hc_23 : (0 ≤ (x3.toInt - x2.toInt) ∧ (x3.toInt - x2.toInt) ≤ C_23) := (by have := (i_x2 : Rg (0) (2999) (x2)).1; have := (i_x2 : Rg (0) (2999) (x2)).2; have := (i_x3 : Rg (0) (2999) (x3)).1; have := (i_x3 : Rg (0) (2999) (x3)).2; have := (i_x1 : Rg (-2147483648) (2147483647) (x1)).1; have := (i_x1 : Rg (-2147483648) (2147483647) (x1)).2; have hq_ := ((thI T r_x0 (k := 7) (i := 6) rfl : Rg (0) (3000) ((hI h x0 6))) : Rg (0) (3000) ((hI h x0 6))); have := hq_.1; have := hq_.2; omega)
    refine s_br (fun c_1 => ?_) (fun c_1 => ?_)
    · have _ := c_1
      obtain ⟨r_2, e_r_2, q_r_2⟩ := thR T r_x0 (k := 7) (i := 5) (k2 := 48) rfl (by decide)
      refine s_ref e_r_2 ?_
      refine s_ref e_r_2 ?_
      refine s_gd (rg_nneg ((rg_m i_x2 (by decide)) : Rg (0) (2147483647) (x2)) (by decide)) ?_
      refine s_gd (rg_nneg ((rg_m (rg_add i_x2 (rg_b rfl : Rg (1) (1) ((1 : Int32))) (by decide) : Rg (1) (3000) ((x2 + (1 : Int32)))) (by decide)) : Rg (0) (2147483647) ((x2 + (1 : Int32)))) (by decide)) ?_
      have og_2 : Rg (0) (2147483647) (((hI h x0 6) - x2)) := ⟨(by have : (((hI h x0 6) - x2) : Int32).toInt = ((hI h x0 6) : Int32).toInt - (x2 : Int32).toInt := ti_sub ((thI T r_x0 (k := 7) (i := 6) rfl : Rg (0) (3000) ((hI h x0 6))) : Rg (0) (3000) ((hI h x0 6))) (i_x2 : Rg (0) (2999) (x2)) (by decide); have hq_ := ((thI T r_x0 (k := 7) (i := 6) rfl : Rg (0) (3000) ((hI h x0 6))) : Rg (0) (3000) ((hI h x0 6))); have := hq_.1; have := hq_.2; have := (i_x2 : Rg (0) (2999) (x2)).1; have := (i_x2 : Rg (0) (2999) (x2)).2; have := (i_x1 : Rg (-2147483648) (2147483647) (x1)).1; have := (i_x1 : Rg (-2147483648) (2147483647) (x1)).2; have := (i_x3 : Rg (0) (2999) (x3)).1; have := (i_x3 : Rg (0) (2999) (x3)).2; have := le_i c_1; omega), (by have : (((hI h x0 6) - x2) : Int32).toInt = ((hI h x0 6) : Int32).toInt - (x2 : Int32).toInt := ti_sub ((thI T r_x0 (k := 7) (i := 6) rfl : Rg (0) (3000) ((hI h x0 6))) : Rg (0) (3000) ((hI h x0 6))) (i_x2 : Rg (0) (2999) (x2)) (by decide); have hq_ := ((thI T r_x0 (k := 7) (i := 6) rfl : Rg (0) (3000) ((hI h x0 6))) : Rg (0) (3000) ((hI h x0 6))); have := hq_.1; have := hq_.2; have := (i_x2 : Rg (0) (2999) (x2)).1; have := (i_x2 : Rg (0) (2999) (x2)).2; have := (i_x1 : Rg (-2147483648) (2147483647) (x1)).1; have := (i_x1 : Rg (-2147483648) (2147483647) (x1)).2; have := (i_x3 : Rg (0) (2999) (x3)).1; have := (i_x3 : Rg (0) (2999) (x3)).2; have := le_i c_1; omega)⟩
      refine s_gd (rg_nneg (og_2 : Rg (0) (2147483647) (((hI h x0 6) - x2))) (by decide)) ?_
      refine s_gd (g_len_i (by have := (i_x2 : Rg (0) (2999) (x2)).1; have := (i_x2 : Rg (0) (2999) (x2)).2; have := (i_x1 : Rg (-2147483648) (2147483647) (x1)).1; have := (i_x1 : Rg (-2147483648) (2147483647) (x1)).2; have hq_ := ((thI T r_x0 (k := 7) (i := 6) rfl : Rg (0) (3000) ((hI h x0 6))) : Rg (0) (3000) ((hI h x0 6))); have := hq_.1; have := hq_.2; have := (i_x3 : Rg (0) (2999) (x3)).1; have := (i_x3 : Rg (0) (2999) (x3)).2; have := le_i c_1; omega) (by have : (((hI h x0 6) - x2) : Int32).toInt = ((hI h x0 6) : Int32).toInt - (x2 : Int32).toInt := ti_sub ((thI T r_x0 (k := 7) (i := 6) rfl : Rg (0) (3000) ((hI h x0 6))) : Rg (0) (3000) ((hI h x0 6))) (i_x2 : Rg (0) (2999) (x2)) (by decide); have hq_ := ((thI T r_x0 (k := 7) (i := 6) rfl : Rg (0) (3000) ((hI h x0 6))) : Rg (0) (3000) ((hI h x0 6))); have := hq_.1; have := hq_.2; have := (i_x2 : Rg (0) (2999) (x2)).1; have := (i_x2 : Rg (0) (2999) (x2)).2; have := (i_x1 : Rg (-2147483648) (2147483647) (x1)).1; have := (i_x1 : Rg (-2147483648) (2147483647) (x1)).2; have := (i_x3 : Rg (0) (2999) (x3)).1; have := (i_x3 : Rg (0) (2999) (x3)).2; have := le_i c_1; omega) (thN T q_r_2 (k := 48) (n := 3000) rfl (by decide)) (show (x2).toInt + (((hI h x0 6) - x2)).toInt ≤ 3000 from (by have := (i_x2 : Rg (0) (2999) (x2)).1; have := (i_x2 : Rg (0) (2999) (x2)).2; have : (((hI h x0 6) - x2) : Int32).toInt = ((hI h x0 6) : Int32).toInt - (x2 : Int32).toInt := ti_sub ((thI T r_x0 (k := 7) (i := 6) rfl : Rg (0) (3000) ((hI h x0 6))) : Rg (0) (3000) ((hI h x0 6))) (i_x2 : Rg (0) (2999) (x2)) (by decide); have hq_ := ((thI T r_x0 (k := 7) (i := 6) rfl : Rg (0) (3000) ((hI h x0 6))) : Rg (0) (3000) ((hI h x0 6))); have := hq_.1; have := hq_.2; have := (i_x1 : Rg (-2147483648) (2147483647) (x1)).1; have := (i_x1 : Rg (-2147483648) (2147483647) (x1)).2; have := (i_x3 : Rg (0) (2999) (x3)).1; have := (i_x3 : Rg (0) (2999) (x3)).2; have := le_i c_1; omega))) ?_
      refine s_gd (g_len_i (by have : ((x2 + (1 : Int32)) : Int32).toInt = (x2 : Int32).toInt + ((1 : Int32) : Int32).toInt := ti_add (i_x2 : Rg (0) (2999) (x2)) ((rg_b rfl : Rg (1) (1) ((1 : Int32))) : Rg (1) (1) ((1 : Int32))) (by decide); have := (i_x2 : Rg (0) (2999) (x2)).1; have := (i_x2 : Rg (0) (2999) (x2)).2; have : ((1 : Int32)).toInt = 1 := rfl; have := (i_x1 : Rg (-2147483648) (2147483647) (x1)).1; have := (i_x1 : Rg (-2147483648) (2147483647) (x1)).2; have hq_ := ((thI T r_x0 (k := 7) (i := 6) rfl : Rg (0) (3000) ((hI h x0 6))) : Rg (0) (3000) ((hI h x0 6))); have := hq_.1; have := hq_.2; have := (i_x3 : Rg (0) (2999) (x3)).1; have := (i_x3 : Rg (0) (2999) (x3)).2; have := le_i c_1; omega) (by have : (((hI h x0 6) - x2) : Int32).toInt = ((hI h x0 6) : Int32).toInt - (x2 : Int32).toInt := ti_sub ((thI T r_x0 (k := 7) (i := 6) rfl : Rg (0) (3000) ((hI h x0 6))) : Rg (0) (3000) ((hI h x0 6))) (i_x2 : Rg (0) (2999) (x2)) (by decide); have hq_ := ((thI T r_x0 (k := 7) (i := 6) rfl : Rg (0) (3000) ((hI h x0 6))) : Rg (0) (3000) ((hI h x0 6))); have := hq_.1; have := hq_.2; have := (i_x2 : Rg (0) (2999) (x2)).1; have := (i_x2 : Rg (0) (2999) (x2)).2; have := (i_x1 : Rg (-2147483648) (2147483647) (x1)).1; have := (i_x1 : Rg (-2147483648) (2147483647) (x1)).2; have := (i_x3 : Rg (0) (2999) (x3)).1; have := (i_x3 : Rg (0) (2999) (x3)).2; have := le_i c_1; omega) (thN T q_r_2 (k := 48) (n := 3000) rfl (by decide)) (show ((x2 + (1 : Int32))).toInt + (((hI h x0 6) - x2)).toInt ≤ 3000 from (by have : ((x2 + (1 : Int32)) : Int32).toInt = (x2 : Int32).toInt + ((1 : Int32) : Int32).toInt := ti_add (i_x2 : Rg (0) (2999) (x2)) ((rg_b rfl : Rg (1) (1) ((1 : Int32))) : Rg (1) (1) ((1 : Int32))) (by decide); have := (i_x2 : Rg (0) (2999) (x2)).1; have := (i_x2 : Rg (0) (2999) (x2)).2; have : ((1 : Int32)).toInt = 1 := rfl; have : (((hI h x0 6) - x2) : Int32).toInt = ((hI h x0 6) : Int32).toInt - (x2 : Int32).toInt := ti_sub ((thI T r_x0 (k := 7) (i := 6) rfl : Rg (0) (3000) ((hI h x0 6))) : Rg (0) (3000) ((hI h x0 6))) (i_x2 : Rg (0) (2999) (x2)) (by decide); have hq_ := ((thI T r_x0 (k := 7) (i := 6) rfl : Rg (0) (3000) ((hI h x0 6))) : Rg (0) (3000) ((hI h x0 6))); have := hq_.1; have := hq_.2; have := (i_x1 : Rg (-2147483648) (2147483647) (x1)).1; have := (i_x1 : Rg (-2147483648) (2147483647) (x1)).2; have := (i_x3 : Rg (0) (2999) (x3)).1; have := (i_x3 : Rg (0) (2999) (x3)).2; have := le_i c_1; omega))) ?_
      refine s_hq (th_cpI T q_r_2 q_r_2 (k0 := 48) (k := 48) (lo0 := (-2147483648)) (hi0 := (2147483647)) (lo := (-2147483648)) (hi := (2147483647)) (fun _ => rfl) (fun _ => rfl) (by decide) (by decide) (by decide) (fun _ => (pm_a hA rfl)) (fun _ _ _ h => rp48 h)) (fun h_9 T_3 w_4 => ?_)
      refine s_ref (hr_c w_4 e_r_2) ?_
      refine s_gd (by rw [thN T_3 q_r_2 (k := 48) (n := 3000) rfl (by decide)]; exact rg_inB (i_x2 : Rg (0) (2999) (x2)) (by decide)) ?_
      refine s_hq (th_wI T_3 q_r_2 (k := 48) (lo := (-2147483648)) (hi := (2147483647)) rfl (i_x1 : Rg (-2147483648) (2147483647) (x1)) (by decide) (by decide) (pm_a hA rfl) (rpG8 gx)) (fun h_12 T_5 w_6 => ?_)
      have og_9 : Rg (0) (3000) (((hI h_12 x0 6) + (1 : Int32))) := ⟨(by have : (((hI h_12 x0 6) + (1 : Int32)) : Int32).toInt = ((hI h_12 x0 6) : Int32).toInt + ((1 : Int32) : Int32).toInt := ti_add ((thI T_5 r_x0 (k := 7) (i := 6) rfl : Rg (0) (3000) ((hI h_12 x0 6))) : Rg (0) (3000) ((hI h_12 x0 6))) ((rg_b rfl : Rg (1) (1) ((1 : Int32))) : Rg (1) (1) ((1 : Int32))) (by decide); have hq_ := ((thI T_5 r_x0 (k := 7) (i := 6) rfl : Rg (0) (3000) ((hI h_12 x0 6))) : Rg (0) (3000) ((hI h_12 x0 6))); have := hq_.1; have := hq_.2; have : (hI h_12 x0 6).toInt = (hI h_9 x0 6).toInt := congrArg Int32.toInt (he_w w_6 (ne_r r_x0 q_r_2 (by decide))); have : (hI h_9 x0 6).toInt = (hI h x0 6).toInt := congrArg Int32.toInt (he_cp w_4 (ne_r r_x0 q_r_2 (by decide))); have : ((1 : Int32)).toInt = 1 := rfl; have := (i_x1 : Rg (-2147483648) (2147483647) (x1)).1; have := (i_x1 : Rg (-2147483648) (2147483647) (x1)).2; have hq_ := ((thI T r_x0 (k := 7) (i := 6) rfl : Rg (0) (3000) ((hI h x0 6))) : Rg (0) (3000) ((hI h x0 6))); have := hq_.1; have := hq_.2; have := (i_x2 : Rg (0) (2999) (x2)).1; have := (i_x2 : Rg (0) (2999) (x2)).2; have := (i_x3 : Rg (0) (2999) (x3)).1; have := (i_x3 : Rg (0) (2999) (x3)).2; have := le_i c_1; omega), (by have : (((hI h_12 x0 6) + (1 : Int32)) : Int32).toInt = ((hI h_12 x0 6) : Int32).toInt + ((1 : Int32) : Int32).toInt := ti_add ((thI T_5 r_x0 (k := 7) (i := 6) rfl : Rg (0) (3000) ((hI h_12 x0 6))) : Rg (0) (3000) ((hI h_12 x0 6))) ((rg_b rfl : Rg (1) (1) ((1 : Int32))) : Rg (1) (1) ((1 : Int32))) (by decide); have hq_ := ((thI T_5 r_x0 (k := 7) (i := 6) rfl : Rg (0) (3000) ((hI h_12 x0 6))) : Rg (0) (3000) ((hI h_12 x0 6))); have := hq_.1; have := hq_.2; have : (hI h_12 x0 6).toInt = (hI h_9 x0 6).toInt := congrArg Int32.toInt (he_w w_6 (ne_r r_x0 q_r_2 (by decide))); have : (hI h_9 x0 6).toInt = (hI h x0 6).toInt := congrArg Int32.toInt (he_cp w_4 (ne_r r_x0 q_r_2 (by decide))); have : ((1 : Int32)).toInt = 1 := rfl; have := (i_x1 : Rg (-2147483648) (2147483647) (x1)).1; have := (i_x1 : Rg (-2147483648) (2147483647) (x1)).2; have hq_ := ((thI T r_x0 (k := 7) (i := 6) rfl : Rg (0) (3000) ((hI h x0 6))) : Rg (0) (3000) ((hI h x0 6))); have := hq_.1; have := hq_.2; have := (i_x2 : Rg (0) (2999) (x2)).1; have := (i_x2 : Rg (0) (2999) (x2)).2; have := (i_x3 : Rg (0) (2999) (x3)).1; have := (i_x3 : Rg (0) (2999) (x3)).2; have := le_i c_1; omega)⟩
      refine s_hq (th_wI T_5 r_x0 (k := 7) (lo := (0)) (hi := (3000)) rfl (og_9 : Rg (0) (3000) (((hI h_12 x0 6) + (1 : Int32)))) (by decide) (by decide) (pm_a hA rfl)) (fun h_13 T_7 w_8 => ?_)
      exact s_some (T_7)
    · have _ := c_1
      have i_f_10 : Rg (0) (2998) (x2) := rg_lt1 (nle_lt c_1) i_x2 i_x3
      have i_f_11 : Rg (1) (2999) (x3) := rg_lt2 (nle_lt c_1) i_x2 i_x3
      refine s_q (fun v_14 e_12 => ?_)
      have i_v_14 : Rg (0) (2998) (v_14) := by rw [e_12]; exact (rg_shrk 1 (by decide) (rg_add i_f_10 i_f_11 (by decide) : Rg (1) (5997) ((x2 + x3))) (by decide) : Rg (0) (2998) ((x2 + x3) >>> ((1 : Int32) &&& 31)))
      obtain ⟨r_15, e_r_15, q_r_15⟩ := thR T r_x0 (k := 7) (i := 5) (k2 := 48) rfl (by decide)
      refine s_ref e_r_15 ?_
      refine s_gd (by rw [thN T q_r_15 (k := 48) (n := 3000) rfl (by decide)]; exact rg_inB ((rg_m i_v_14 (by decide)) : Rg (0) (2999) (v_14)) (by decide)) ?_
      refine s_dI0 (zX6_comesFirst hF T r_x0 (thI T q_r_15 (k := 48) rfl : Rg (-2147483648) (2147483647) ((hI h r_15 v_14.toNatClampNeg))) i_x1 (thG8 T q_r_15) gx) (fun o_17 eb_o_17 e_o_17 i_o_17 => ?_)
      have T_13 := th_eq e_o_17 T
      refine s_br (fun c_14 => ?_) (fun c_14 => ?_)
      · have _ := c_14
        have i_f_15 : Rg (0) (0) (o_17.1) := rg_eq c_14 (rg_b rfl : Rg (0) (0) (0 : Int32))
        exact hk_23 T_13 r_x0 i_x1 (rg_m i_f_10 (by decide)) (rg_m i_v_14 (by decide)) (show 0 ≤ (x2).toInt ∧ (x2).toInt ≤ (v_14).toInt ∧ (v_14).toInt ≤ (hI o_17.2 x0 6).toInt ∧ (hI o_17.2 x0 6).toInt ≤ 2999 from (by have := (i_f_10 : Rg (0) (2998) (x2)).1; have := (i_f_10 : Rg (0) (2998) (x2)).2; have := (i_v_14 : Rg (0) (2998) (v_14)).1; have := (i_v_14 : Rg (0) (2998) (v_14)).2; have : (v_14).toInt = ((x2 + x3) >>> ((1 : Int32) &&& 31) : Int32).toInt := congrArg Int32.toInt e_12; have : ((x2 + x3) >>> ((1 : Int32) &&& 31) : Int32).toInt = ((x2 + x3) : Int32).toInt / 2 := ti_shr1; have : ((x2 + x3) : Int32).toInt = (x2 : Int32).toInt + (x3 : Int32).toInt := ti_add (i_f_10 : Rg (0) (2998) (x2)) (i_f_11 : Rg (1) (2999) (x3)) (by decide); have := (i_f_11 : Rg (1) (2999) (x3)).1; have := (i_f_11 : Rg (1) (2999) (x3)).2; have hq_ := ((rg_shrk 1 (by decide) (rg_add i_f_10 i_f_11 (by decide) : Rg (1) (5997) ((x2 + x3))) (by decide) : Rg (0) (2998) ((x2 + x3) >>> ((1 : Int32) &&& 31))) : Rg (0) (2998) ((x2 + x3) >>> ((1 : Int32) &&& 31))); have := hq_.1; have := hq_.2; have hq_ := ((thI T_13 r_x0 (k := 7) (i := 6) rfl : Rg (0) (3000) ((hI o_17.2 x0 6))) : Rg (0) (3000) ((hI o_17.2 x0 6))); have := hq_.1; have := hq_.2; have : (hI o_17.2 x0 6).toInt = (hI h x0 6).toInt := congrArg Int32.toInt (he_e e_o_17); have := (i_x1 : Rg (-2147483648) (2147483647) (x1)).1; have := (i_x1 : Rg (-2147483648) (2147483647) (x1)).2; have hq_ := ((thI T r_x0 (k := 7) (i := 6) rfl : Rg (0) (3000) ((hI h x0 6))) : Rg (0) (3000) ((hI h x0 6))); have := hq_.1; have := hq_.2; have := nle_i c_1; omega)) gx (show (0 ≤ ((v_14).toInt - (x2).toInt) ∧ ((v_14).toInt - (x2).toInt) < C_23) from (by have := (i_f_10 : Rg (0) (2998) (x2)).1; have := (i_f_10 : Rg (0) (2998) (x2)).2; have := (i_v_14 : Rg (0) (2998) (v_14)).1; have := (i_v_14 : Rg (0) (2998) (v_14)).2; have : (v_14).toInt = ((x2 + x3) >>> ((1 : Int32) &&& 31) : Int32).toInt := congrArg Int32.toInt e_12; have : ((x2 + x3) >>> ((1 : Int32) &&& 31) : Int32).toInt = ((x2 + x3) : Int32).toInt / 2 := ti_shr1; have : ((x2 + x3) : Int32).toInt = (x2 : Int32).toInt + (x3 : Int32).toInt := ti_add (i_f_10 : Rg (0) (2998) (x2)) (i_f_11 : Rg (1) (2999) (x3)) (by decide); have := (i_f_11 : Rg (1) (2999) (x3)).1; have := (i_f_11 : Rg (1) (2999) (x3)).2; have hq_ := ((rg_shrk 1 (by decide) (rg_add i_f_10 i_f_11 (by decide) : Rg (1) (5997) ((x2 + x3))) (by decide) : Rg (0) (2998) ((x2 + x3) >>> ((1 : Int32) &&& 31))) : Rg (0) (2998) ((x2 + x3) >>> ((1 : Int32) &&& 31))); have := hq_.1; have := hq_.2; have := (i_x1 : Rg (-2147483648) (2147483647) (x1)).1; have := (i_x1 : Rg (-2147483648) (2147483647) (x1)).2; have hq_ := ((thI T r_x0 (k := 7) (i := 6) rfl : Rg (0) (3000) ((hI h x0 6))) : Rg (0) (3000) ((hI h x0 6))); have := hq_.1; have := hq_.2; have := nle_i c_1; omega))
      · have _ := c_14
        have i_f_16 : Rg (1) (1) (o_17.1) := rg_nlo c_14 i_o_17 (rg_b rfl : Rg (0) (0) (0 : Int32))
        refine s_q (fun v_19 e_17 => ?_)
        have i_v_19 : Rg (1) (2999) (v_19) := by rw [e_17]; exact (rg_add i_v_14 (rg_b rfl : Rg (1) (1) ((1 : Int32))) (by decide) : Rg (1) (2999) (v_14 + (1 : Int32)))
        exact hk_23 T_13 r_x0 i_x1 (rg_m i_v_19 (by decide)) (rg_m i_f_11 (by decide)) (show 0 ≤ (v_19).toInt ∧ (v_19).toInt ≤ (x3).toInt ∧ (x3).toInt ≤ (hI o_17.2 x0 6).toInt ∧ (hI o_17.2 x0 6).toInt ≤ 2999 from (by have := (i_v_19 : Rg (1) (2999) (v_19)).1; have := (i_v_19 : Rg (1) (2999) (v_19)).2; have : (v_19).toInt = (v_14 + (1 : Int32) : Int32).toInt := congrArg Int32.toInt e_17; have : (v_14 + (1 : Int32) : Int32).toInt = (v_14 : Int32).toInt + ((1 : Int32) : Int32).toInt := ti_add (i_v_14 : Rg (0) (2998) (v_14)) ((rg_b rfl : Rg (1) (1) ((1 : Int32))) : Rg (1) (1) ((1 : Int32))) (by decide); have := (i_v_14 : Rg (0) (2998) (v_14)).1; have := (i_v_14 : Rg (0) (2998) (v_14)).2; have : (v_14).toInt = ((x2 + x3) >>> ((1 : Int32) &&& 31) : Int32).toInt := congrArg Int32.toInt e_12; have : ((x2 + x3) >>> ((1 : Int32) &&& 31) : Int32).toInt = ((x2 + x3) : Int32).toInt / 2 := ti_shr1; have : ((x2 + x3) : Int32).toInt = (x2 : Int32).toInt + (x3 : Int32).toInt := ti_add (i_f_10 : Rg (0) (2998) (x2)) (i_f_11 : Rg (1) (2999) (x3)) (by decide); have := (i_f_10 : Rg (0) (2998) (x2)).1; have := (i_f_10 : Rg (0) (2998) (x2)).2; have := (i_f_11 : Rg (1) (2999) (x3)).1; have := (i_f_11 : Rg (1) (2999) (x3)).2; have hq_ := ((rg_shrk 1 (by decide) (rg_add i_f_10 i_f_11 (by decide) : Rg (1) (5997) ((x2 + x3))) (by decide) : Rg (0) (2998) ((x2 + x3) >>> ((1 : Int32) &&& 31))) : Rg (0) (2998) ((x2 + x3) >>> ((1 : Int32) &&& 31))); have := hq_.1; have := hq_.2; have : ((1 : Int32)).toInt = 1 := rfl; have hq_ := ((thI T_13 r_x0 (k := 7) (i := 6) rfl : Rg (0) (3000) ((hI o_17.2 x0 6))) : Rg (0) (3000) ((hI o_17.2 x0 6))); have := hq_.1; have := hq_.2; have : (hI o_17.2 x0 6).toInt = (hI h x0 6).toInt := congrArg Int32.toInt (he_e e_o_17); have := (i_x1 : Rg (-2147483648) (2147483647) (x1)).1; have := (i_x1 : Rg (-2147483648) (2147483647) (x1)).2; have hq_ := ((thI T r_x0 (k := 7) (i := 6) rfl : Rg (0) (3000) ((hI h x0 6))) : Rg (0) (3000) ((hI h x0 6))); have := hq_.1; have := hq_.2; have := nle_i c_1; omega)) gx (show (0 ≤ ((x3).toInt - (v_19).toInt) ∧ ((x3).toInt - (v_19).toInt) < C_23) from (by have := (i_v_19 : Rg (1) (2999) (v_19)).1; have := (i_v_19 : Rg (1) (2999) (v_19)).2; have : (v_19).toInt = (v_14 + (1 : Int32) : Int32).toInt := congrArg Int32.toInt e_17; have : (v_14 + (1 : Int32) : Int32).toInt = (v_14 : Int32).toInt + ((1 : Int32) : Int32).toInt := ti_add (i_v_14 : Rg (0) (2998) (v_14)) ((rg_b rfl : Rg (1) (1) ((1 : Int32))) : Rg (1) (1) ((1 : Int32))) (by decide); have := (i_v_14 : Rg (0) (2998) (v_14)).1; have := (i_v_14 : Rg (0) (2998) (v_14)).2; have : (v_14).toInt = ((x2 + x3) >>> ((1 : Int32) &&& 31) : Int32).toInt := congrArg Int32.toInt e_12; have : ((x2 + x3) >>> ((1 : Int32) &&& 31) : Int32).toInt = ((x2 + x3) : Int32).toInt / 2 := ti_shr1; have : ((x2 + x3) : Int32).toInt = (x2 : Int32).toInt + (x3 : Int32).toInt := ti_add (i_f_10 : Rg (0) (2998) (x2)) (i_f_11 : Rg (1) (2999) (x3)) (by decide); have := (i_f_10 : Rg (0) (2998) (x2)).1; have := (i_f_10 : Rg (0) (2998) (x2)).2; have := (i_f_11 : Rg (1) (2999) (x3)).1; have := (i_f_11 : Rg (1) (2999) (x3)).2; have hq_ := ((rg_shrk 1 (by decide) (rg_add i_f_10 i_f_11 (by decide) : Rg (1) (5997) ((x2 + x3))) (by decide) : Rg (0) (2998) ((x2 + x3) >>> ((1 : Int32) &&& 31))) : Rg (0) (2998) ((x2 + x3) >>> ((1 : Int32) &&& 31))); have := hq_.1; have := hq_.2; have : ((1 : Int32)).toInt = 1 := rfl; have := (i_x1 : Rg (-2147483648) (2147483647) (x1)).1; have := (i_x1 : Rg (-2147483648) (2147483647) (x1)).2; have hq_ := ((thI T r_x0 (k := 7) (i := 6) rfl : Rg (0) (3000) ((hI h x0 6))) : Rg (0) (3000) ((hI h x0 6))); have := hq_.1; have := hq_.2; have := nle_i c_1; omega))
