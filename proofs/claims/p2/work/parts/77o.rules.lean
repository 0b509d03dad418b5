/-! rules: the class's invariant behind it -/
section
variable {ρ : Nat → Nat} {c : Cm} {h o g : Hp} {x0 F L u p rt en : Nat} {x1 : Int32}
theorem fgt_x {o : Hp} (e : sX4_forget h p x1 = some o) : (∀ a i, hR o a i = hR h a i) ∧ ∀ a i, ¬ a = p → hI o a i = hI h a i := by
  unfold sX4_forget sX4_forget_23 at e
  replace e := br_s e
  rcases e with ⟨_, e⟩ | ⟨_, e⟩
  · replace e := nm_s e; obtain ⟨h1, w1, e⟩ := e
    replace e := nm_s e; obtain ⟨h2, w2, e⟩ := e
    replace e := nm_s e; obtain ⟨h3, w3, e⟩ := e
    rw [← Option.some.inj e]
    exact ⟨fun a i => by rw [w3, hR_wI, w2, hR_wI, w1, hR_wI], fun a i n => by rw [w3, rI_a n, w2, rI_a n, w1, rI_a n]⟩
  · rw [← Option.some.inj e]; exact ⟨fun _ _ => rfl, fun _ _ _ => rfl⟩
theorem fg_10 (r0 : ρ x0 = 12) (ru : ρ u = 58) (rp : ρ p = 5) (rrt : ρ rt = 7) (ren : ρ en = 1) : ∀ (f : Nat) {h o : Hp} {x1 : Int32}, hR h x0 14 = some u → hR h x0 11 = some p → hR h x0 9 = some rt → hR h x0 10 = some en → 0 ≤ x1.toInt → (∀ i : Nat, (i : Int) < x1.toInt → hI h u i = 0) → sX11_forgetAll_10 F f h x0 x1 = some o → (∀ a i, hR o a i = hR h a i) ∧ (∀ i : Nat, i < 60 → hI o u i = 0) ∧ hI o rt 6 = 0 ∧ hI o en 10 = 0 ∧ ∀ a i, ρ a = 61 → hI o a i = hI h a i := by
  have z60 : (60 : Int32).toInt = 60 := rfl
  have z1 : (1 : Int32).toInt = 1 := rfl
  intro f
  induction f with
  | zero => intro h o x1 _ _ _ _ _ _ e; exact absurd e (by rw [sX11_forgetAll_10]; exact fun z => nomatch z)
  | succ f ih =>
    intro h o x1 eu ep ert een a1 U e
    rw [sX11_forgetAll_10] at e
    replace e := br_s e
    rcases e with ⟨l, e⟩ | ⟨l, e⟩
    · have l := le_i l
      replace e := cl_s e
      obtain ⟨r2, e2, e⟩ := e
      have y2 : r2 = rt := r_eq ert e2
      subst y2
      replace e := nm_s e
      obtain ⟨h3, w3, e⟩ := e
      replace e := cl_s e
      obtain ⟨r4, e4, e⟩ := e
      have y4 : r4 = en := r_eq een (by rw [w3] at e4; exact e4)
      subst y4
      replace e := nm_s e
      obtain ⟨h5, w5, e⟩ := e
      have zz := Option.some.inj e
      subst zz
      have k : ∀ {a q : Nat} (i : Nat), ρ a = q → q ≠ 7 → q ≠ 1 → hI h5 a i = hI h a i := fun {a q} i ra q7 q1 => by
        rw [w5, rI_a (fun z => q1 (by rw [← ra, z]; exact ren)), w3, rI_a (fun z => q7 (by rw [← ra, z]; exact rrt))]
      refine ⟨fun a i => by rw [w5, hR_wI, w3, hR_wI], fun i hi => by rw [k i ru (by decide) (by decide)]; exact U i (by omega), ?_, by rw [w5, rI_s], fun a i ra => k i ra (by decide) (by decide)⟩
      rw [w5, rI_a (fun z => by rw [z, ren] at rrt; exact absurd rrt (by decide)), w3, rI_s]
    · have l := nle_i l
      replace e := cl_s e
      obtain ⟨r6, e6, e⟩ := e
      have y6 : r6 = u := r_eq eu e6
      subst y6
      replace e := (gd_s e).2
      replace e := nm_s e
      obtain ⟨h8, w8, e⟩ := e
      have R8 : ∀ a i, hR h8 a i = hR h a i := fun a i => by rw [w8, hR_wI]
      replace e := cl_s e
      obtain ⟨r9, e9, e⟩ := e
      rw [R8] at e9
      have y9 : r9 = p := r_eq ep e9
      subst y9
      replace e := cl_s e
      obtain ⟨o10, e10, e⟩ := e
      obtain ⟨k10, i10⟩ := fgt_x e10
      have Ra : ∀ a i, hR o10 a i = hR h a i := fun a i => by rw [k10, R8]
      have nup : ¬ r6 = r9 := fun z => by rw [z, rp] at ru; exact absurd ru (by decide)
      replace e := nm_s e
      obtain ⟨v, ev, e⟩ := e
      have tv : v.toInt = x1.toInt + 1 := by rw [ev, ta (by rw [z1]; omega), z1]
      have nx := nc_i a1
      obtain ⟨q1, q2, q3, q4, q5⟩ := ih (by rw [Ra]; exact eu) (by rw [Ra]; exact ep) (by rw [Ra]; exact ert) (by rw [Ra]; exact een) (by omega) (fun i hi => by
        rw [i10 r6 i nup, w8, r_I]
        by_cases z : i = x1.toNatClampNeg
        · rw [if_pos ⟨rfl, z⟩]; rfl
        · rw [if_neg (fun y => z y.2)]; exact U i (by omega)) e
      refine ⟨fun a i => by rw [q1, Ra], q2, q3, q4, fun a i ra => ?_⟩
      rw [q5 a i ra, i10 a i (fun z => by rw [z, rp] at ra; exact absurd ra (by decide)), w8, rI_a (fun z => by rw [z, ru] at ra; exact absurd ra (by decide))]
theorem forget_x {o : Hp} (T : TH ρ c h) (r0 : ρ x0 = 12) (e : sX11_forgetAll F h x0 = some o) : (∀ u, hR o x0 14 = some u → ∀ i : Nat, i < 60 → hI o u i = 0) ∧ (∀ rl, hR o x0 17 = some rl → ∀ n : Nat, n < 8 → hI o rl n = -1) ∧ (∀ rt, hR o x0 9 = some rt → hI o rt 6 = 0) ∧ ∀ en, hR o x0 10 = some en → hI o en 10 = 0 := by
  obtain ⟨u, eu, ru⟩ := thR T r0 (i := 14) (k2 := 58) rfl (by decide)
  obtain ⟨p, ep, rp⟩ := thR T r0 (i := 11) (k2 := 5) rfl (by decide)
  obtain ⟨rt, ert, rrt⟩ := thR T r0 (i := 9) (k2 := 7) rfl (by decide)
  obtain ⟨en, een, ren⟩ := thR T r0 (i := 10) (k2 := 1) rfl (by decide)
  unfold sX11_forgetAll at e
  replace e := cl_s e
  obtain ⟨r1, e1, e⟩ := e
  have q1 : ρ r1 = 61 := rr T (thR T r0 (i := 17) (k2 := 61) rfl (by decide)) e1
  replace e := cl_s e
  obtain ⟨o2, e2, e⟩ := e
  unfold sJ7_fill_53178 at e2
  have n1 := thN T q1 (k := 61) (n := 8) rfl (by decide)
  have e2' : sJ7_fill_53178_5 F F h r1 (-1 : Int32) (0 : Int32) (nI 8) = some o2 := by rw [← n1]; exact e2
  obtain ⟨⟨g2, m2⟩, k2, _, v2⟩ := fI (by decide) F (by decide) e2'
  obtain ⟨a1, a2, a3, a4, a5⟩ := fg_10 r0 ru rp rrt ren F (by rw [g2]; exact eu) (by rw [g2]; exact ep) (by rw [g2]; exact ert) (by rw [g2]; exact een) (by decide) (fun i hi => absurd hi (by show ¬ (i : Int) < 0; omega)) e
  refine ⟨fun u' e' i hi => ?_, fun rl e' n hn => ?_, fun rt' e' => ?_, fun en' e' => ?_⟩
  · rw [a1, g2] at e'; rw [r_eq eu e']; exact a2 i hi
  · rw [a1, g2] at e'
    have y : rl = r1 := r_eq e1 e'
    subst y
    rw [a5 rl n q1]; exact v2 n (by show (0 : Int) ≤ _; omega) hn
  · rw [a1, g2] at e'; rw [r_eq ert e']; exact a3
  · rw [a1, g2] at e'; rw [r_eq een e']; exact a4
theorem lw_mk1 {L : Nat} (T : TH ρ c h) (rL : ρ L = 2) (w : cw c L = 2102) (gs : GeoS L h) : ∃ c', (c' = c ∨ c' = nst c 50) ∧ TH ρ c' h ∧ LwR ρ c' h := by
  by_cases q : 57 < (hI h L 2).toInt ∨ ((hI h L 0).toInt = 8 ∧ (hI h L 1).toInt = 8)
  · refine ⟨nst c 50, Or.inr rfl, th_q T (fun a ra wa i hi => ?_), fun _ _ _ _ => nst_s⟩
    obtain ⟨fo, ef, rf⟩ := thR T rL (i := 19) (k2 := 32) rfl (by decide)
    have : a = fo := T.1.2.2.2.2.2.2.2.2 a fo (by rw [ra, rf]) (Or.inr ⟨Or.inl ra, by rw [wa, th_ih T rL rfl ef w]⟩)
    rw [this]
    exact gs fo ef q i hi
  · refine ⟨c, Or.inl rfl, T, fun L' rL' w' hc => ?_⟩
    have : L' = L := T.1.2.2.2.2.2.2.2.2 L' L (by rw [rL', rL]) (Or.inr ⟨Or.inr rL', by rw [w', w]⟩)
    rw [this] at hc
    exact absurd hc q
/-- the tape is used up -/
def TpZ (x0 : Nat) (h : Hp) : Prop := ∀ t, hR h x0 0 = some t → hI h t 1 = 0
theorem clear_z {t : Nat} {o : Hp} (e : sX9_clear h t = some o) : hI o t 1 = 0 ∧ ∀ a i, hR o a i = hR h a i := by
  unfold sX9_clear at e
  rw [← Option.some.inj e]
  exact ⟨rI_s, fun _ _ => rfl⟩
theorem ru_x {c1 : Cm} {x2 : Int32} (hF : 700000 ≤ F) (hO : pmO c1 2100 [(10, 1)]) (T : TH ρ c1 h) (r0 : ρ x0 = 12) (I : ClI ρ c1 x0 h) : Sat (sX11_rules_69 F h x0 x2) (fun o => TH ρ c1 o.2 ∧ ClI ρ c1 x0 o.2 ∧ TpZ x0 o.2) := by
  unfold sX11_rules_69
  obtain ⟨t, et, rt⟩ := thR T r0 (i := 0) (k2 := 10) rfl (by decide)
  refine s_ref et ?_
  have wt : cw c1 t = 2100 := kid_w T r0 (i := 0) rfl (by decide) et
  obtain ⟨o2, e2, Z⟩ := zX9_clear (c := cat c1 (fS [] [(2100, [(10, 1)])]) h) hF (by rw [show cw (cat c1 (fS [] [(2100, [(10, 1)])]) h) t = 2100 from wt]; exact fs_o (.head _)) (th_in _ T) rt
  refine s_val e2 ?_
  have f2 := fr_u T Z.2.2
  obtain ⟨q1, q2⟩ := clear_z e2
  refine s_some ⟨th_out T (fs_sub pmA_n (fs_c hO fs_n)) Z, ci_A rfl T r0 f2 I, fun t' e' => ?_⟩
  have e'' : hR h x0 0 = some t' := by rw [← q2]; exact e'
  rw [r_eq et e'']; exact q1
abbrev RUC : List (Nat × Nat) := [(27, 999), (28, 999), (29, 999), (30, 999), (31, 999), (32, 999), (33, 999), (2, 0), (2, 1), (2, 2), (2, 3), (2, 4), (2, 5), (2, 6), (2, 7), (2, 8), (2, 9), (2, 10), (2, 11), (2, 12), (2, 13), (3, 0), (3, 1), (3, 2), (3, 3), (3, 4), (3, 5), (3, 6), (50, 999), (51, 999), (52, 999), (53, 999), (54, 999), (55, 999), (56, 999), (11, 7), (11, 8), (58, 999), (61, 999), (1, 10), (5, 14), (5, 15), (5, 16), (7, 6)]
theorem rules_x (hF : 700000 ≤ F) (hA : pmA c RUC) (hO : pmO c 2100 [(10, 1)]) (T : TH ρ c h) (r0 : ρ x0 = 12) (I : ClI ρ c x0 h) : Sat (sX11_rules F h x0) (fun o => ∃ c', (c' = c ∨ c' = nst c 50) ∧ TH ρ c' o.2 ∧ ClI ρ c' x0 o.2 ∧ TpZ x0 o.2) := by
  obtain ⟨p1, p2, p3, p4, p5, p6, p7, p8, p9, p10, p11, p12, p13⟩ := I
  unfold sX11_rules
  obtain ⟨r1, e1, q1⟩ := thR T r0 (i := 4) (k2 := 3) rfl (by decide)
  obtain ⟨r2, e2, q2⟩ := thR T r0 (i := 0) (k2 := 10) rfl (by decide)
  obtain ⟨r3, e3, q3⟩ := thR T r0 (i := 3) (k2 := 2) rfl (by decide)
  have w3 : cw c r3 = 2103 := kid_w T r0 (i := 3) (w := 2103) rfl (by decide) e3
  refine s_ref e1 (s_ref e2 (s_ref e3 ?_))
  refine s_cl (s_imp (read_r hF (pmA_s hA rfl) T q1 q2 q3 w3 (p6 r3 e3)) (fun o4 ⟨T4, i4, z4, g4, f4⟩ => ?_))
  have e5 : hR o4.2 x0 4 = some r1 := by rw [(frx f4 r0 (by decide) rfl rfl).2.2]; exact e1
  refine s_ref e5 ?_
  refine s_dI0 (zX2_faultPlace hF T4 q1) (fun o6 _ e6 i6 => ?_)
  rw [e6]
  -- what holds behind the first reading
  have I4 : ClI ρ c x0 o4.2 := by
    have lw : LWc (rdS 2103) := fun _ => rfl
    refine ⟨lwr_f f4 lw p1, plp_f T r0 f4 (fun _ _ => rfl) (fun _ _ => rfl) (fun _ _ => rfl) rfl (fun _ => rfl) lw p2, plx_f T r0 f4 (fun _ _ => rfl) (fun _ _ => rfl) (fun _ _ => rfl) rfl (fun _ => rfl) lw p3, pgx_f T r0 f4 (fun _ _ => rfl) (fun _ _ => rfl) (fun _ _ => rfl) (fun _ => rfl) (fun _ => rfl) (fun _ _ => rfl) (fun _ _ => rfl) lw p4, gem_f T r0 f4 (fun _ _ => rfl) (fun _ => rfl) lw p5, fun L eL => ?_, fmm_f T f4 (fun _ => rfl) (fun _ _ => rfl) p7, rex_f T r0 f4 (fun _ _ => rfl) (fun _ => rfl) (fun _ => rfl) (fun _ => rfl) (fun _ _ => rfl) rfl rfl (fun _ => rfl) (fun _ => rfl) lw p8, ena_f T r0 f4 (fun _ _ => rfl) (fun _ _ _ _ _ _ => rfl) (fun _ _ => rfl) (fun _ _ => rfl) (fun _ _ => rfl) lw p9, fmy_f T f4 (fun _ => rfl) (fun _ _ => rfl) lw p10, lwx_f T f4 lw (fun _ => rfl) (fun _ => rfl) p11, wya_f T f4 (fun _ => rfl) (fun _ => rfl) (fun _ => rfl) (fun _ _ => rfl) (fun _ _ => rfl) lw p12, sqa_f f4 lw p13⟩
    rw [(frx f4 r0 (by decide) rfl rfl).2.2] at eL
    rw [r_eq e3 eL]; exact g4
  refine s_q (fun v7 _ => ?_)
  refine s_br (fun _ => ?_) (fun _ => ?_)
  · exact s_imp (ru_x hF hO T4 r0 I4) (fun o ho => ⟨c, Or.inl rfl, ho.1, ho.2.1, ho.2.2⟩)
  · refine s_ref e5 ?_
    obtain ⟨r10, e10, q10⟩ := thR T4 r0 (i := 0) (k2 := 10) rfl (by decide)
    obtain ⟨L, eL, rL⟩ := thR T4 r0 (i := 2) (k2 := 2) rfl (by decide)
    have wL : cw c L = 2102 := kid_w T4 r0 (i := 2) (w := 2102) rfl (by decide) eL
    refine s_ref e10 (s_ref eL ?_)
    have gT := I4.2.2.2.2.2.1
    have en4 := I4.2.2.2.2.2.2.2.2.1
    refine s_cl (s_imp (read_r hF (pmA_s hA rfl) T4 q1 q10 rL wL (I4.2.2.2.2.1 L eL)) (fun o12 ⟨T12, i12, z12, g12, f12⟩ => ?_))
    have eL12 : hR o12.2 x0 2 = some L := by rw [(frx f12 r0 (by decide) rfl rfl).2.2]; exact eL
    obtain ⟨W, eW, rW⟩ := thR T12 r0 (i := 5) (k2 := 11) rfl (by decide)
    refine s_ref eW (s_ref eL12 ?_)
    obtain ⟨c', hc, T', lw⟩ := lw_mk1 T12 rL wL g12
    have cwe : cw c' = cw c := by
      rcases hc with z | z
      · rw [z]
      · rw [z]; rfl
    have w' : cw c' L = 2102 := by rw [cwe]; exact wL
    have hA' : pmA c' RUC := by rcases hc with z | z <;> (rw [z]; exact hA)
    obtain ⟨o15, e15, Z15⟩ := zX10_lay (c := cat c' (fS [(50, 999), (51, 999), (52, 999), (53, 999), (54, 999), (55, 999), (56, 999), (11, 7), (11, 8)] []) o12.2) hF fs_a rfl (th_in _ T') rW rL w' lw
    refine s_val e15 ?_
    have T15 := th_out T' (fs_sub (pmA_s hA' rfl) fs_n) Z15
    have f15 := fr_u T' Z15.2.2
    have lw15 : LwR ρ c' o15 := lwr_f f15 (fun _ => rfl) lw
    have K15 : Kf ρ [(50, 999), (51, 999), (52, 999), (53, 999), (54, 999), (55, 999), (56, 999), (11, 7), (11, 8)] o12.2 o15 := kf_of f15 rfl
    have z15 := lz_k T' rL K15 z12
    have IL : ∀ j, hI o15 L j = hI o12.2 L j := fun j => (frx f15 rL (by decide) rfl rfl).1
    have wx15 := lay_wx hF T' rW rL z12.2.2.2 e15
    have fx15 := lay_fx hF T' rW rL e15
    have fm15 := lay_fm hF T' rW rL w' lw e15
    obtain ⟨o16, e16, Z16⟩ := zX11_forgetAll (c := cat c' (fS [(58, 999), (61, 999), (1, 10), (5, 14), (5, 15), (5, 16), (7, 6)] []) o15) hF fs_a (th_in _ T15) r0
    refine s_val e16 ?_
    have T16 := th_out T15 (fs_sub (pmA_s hA' rfl) fs_n) Z16
    have f16 := fr_u T15 Z16.2.2
    obtain ⟨u16, l16, t16, n16⟩ := forget_x T15 r0 e16
    obtain ⟨r17, e17, q17⟩ := thR T16 r0 (i := 2) (k2 := 2) rfl (by decide)
    refine s_ref e17 ?_
    refine s_q (fun v18 _ => ?_)
    have one : ∀ W', ρ W' = 11 → W' = W := fun W' rW' => T.1.2.2.2.2.2.2.2.2 W' W (by rw [rW', rW]) (Or.inl (by rw [rW']; rfl))
    have lone : ∀ L', ρ L' = 2 → cw c' L' = 2102 → L' = L := fun L' rL' wL' => law_1 T (by exact rL) wL rL' (by rw [← cwe]; exact wL')
    have s2 : LWc (fS [(58, 999), (61, 999), (1, 10), (5, 14), (5, 15), (5, 16), (7, 6)] []) := fun _ => rfl
    have IL16 : ∀ j, hI o16 L j = hI o15 L j := fun j => (frx f16 rL (by decide) rfl rfl).1
    have z16 : LwZ L o16 := lz_k T15 rL (kf_of f16 rfl : Kf ρ [(58, 999), (61, 999), (1, 10), (5, 14), (5, 15), (5, 16), (7, 6)] o15 o16) z15
    have I16 : ClI ρ c' x0 o16 := by
      refine ⟨lwr_f f16 s2 lw15, fun r u er eu i hi nu => absurd (u16 u eu i hi) nu, fun r u er eu i hi nu => absurd (u16 u eu i hi) nu, fun rl el n k hn hk b B => ?_, fun L' eL' => ?_, ?_, fun W' rW' => ?_, fun rt er z => ?_, fun e ee => ?_, fun W' L' rW' rL' wL' => ?_, fun L' rL' wL' => ?_, fun W' L' rW' rL' wL' => ?_, fun L' rL' wL' => ?_⟩
      · rw [l16 rl el n hn] at hk
        have z1 : (-1 : Int32).toInt = -1 := rfl
        omega
      · have eL' : hR o12.2 x0 2 = some L' := by rw [(frx f16 r0 (by decide) rfl rfl).2.2, (frx f15 r0 (by decide) rfl rfl).2.2] at eL'; exact eL'
        have y : L' = L := r_eq eL12 eL'
        subst y
        exact gs_fr T15 rL f16 (fun _ => rfl) (fun _ => rfl) (fun _ => rfl) (fun _ => rfl) (fun _ _ => rfl) (gs_fr T' rL f15 (fun _ => rfl) (fun _ => rfl) (fun _ => rfl) (fun _ => rfl) (fun _ _ => rfl) g12)
      · exact get_f T15 r0 f16 (fun _ _ => rfl) (fun _ => rfl) (fun _ => rfl) (get_f T' r0 f15 (fun _ _ => rfl) (fun _ => rfl) (fun _ => rfl) (get_f T4 r0 f12 (fun _ _ => rfl) (fun _ => rfl) (fun _ => rfl) gT))
      · rw [one W' rW']
        exact fm_fr T15 rW f16 (fun _ => rfl) (fun _ _ => rfl) fm15
      · rw [t16 rt er] at z
        exact absurd z (by decide)
      · have ee4 : hR o4.2 x0 10 = some e := by rw [(frx f16 r0 (by decide) rfl rfl).2.2, (frx f15 r0 (by decide) rfl rfl).2.2, (frx f12 r0 (by decide) rfl rfl).2.2] at ee; exact ee
        have re : ρ e = 1 := rr T4 (thR T4 r0 (i := 10) (k2 := 1) rfl (by decide)) ee4
        obtain ⟨v1, v2, _⟩ := en4 e ee4
        have R1 : ∀ j, j = 5 ∨ j = 11 ∨ j = 12 ∨ j = 13 → hR o16 e j = hR o4.2 e j := fun j hj => by rw [(frx f16 re (by decide) rfl (by rcases hj with z | z | z | z <;> (rw [z]; rfl))).2.2, (frx f15 re (by decide) rfl rfl).2.2, (frx f12 re (by decide) rfl rfl).2.2]
        have N1 : ∀ a, ρ a ≠ 0 → hN o16 a = hN o4.2 a := fun a ha => (f16.2 a ha).trans ((f15.2 a ha).trans (f12.2 a ha))
        refine ⟨fun r er i => ?_, fun a ea => ?_, fun n => absurd (n16 e ee) n⟩
        · rw [R1 5 (by decide)] at er
          have q : ρ r = 21 := rr T4 (thR T4 re (i := 5) (k2 := 21) rfl (by decide)) er
          rw [(frx f16 q (by decide) rfl rfl).1, (frx f15 q (by decide) rfl rfl).1, (frx f12 q (by decide) rfl rfl).1]
          exact v1 r er i
        · rw [R1 11 (by decide)] at ea
          have ra := rr T4 (thR T4 re (i := 11) (k2 := 24) rfl (by decide)) ea
          rw [N1 a (by rw [ra]; decide)]
          refine (v2 a ea).imp id (fun Q i a' hi ea' => ?_)
          rw [R1 i (by rcases hi with w | w | w <;> (rw [w]; decide))] at ea'
          have a0 : ρ a' ≠ 0 := by
            rcases hi with w | w | w <;> subst w
            · rw [rr T4 (thR T4 re (i := 11) (k2 := 24) rfl (by decide)) ea']; decide
            · rw [rr T4 (thR T4 re (i := 12) (k2 := 25) rfl (by decide)) ea']; decide
            · rw [rr T4 (thR T4 re (i := 13) (k2 := 26) rfl (by decide)) ea']; decide
          rw [N1 a' a0]
          exact Q i a' hi ea'
      · rw [one W' rW', lone L' rL' wL', IL16, IL]
        exact fmx_fr T15 rW f16 (fun _ => rfl) (fun _ _ => rfl) fx15
      · rw [lone L' rL' wL']
        exact ⟨z16.1, z16.2.1, z16.2.2.1⟩
      · rw [one W' rW', lone L' rL' wL', IL16, IL16, IL, IL]
        intro a0 a1 e0 e1
        rw [(frx f16 rW (by decide) rfl rfl).2.2] at e0 e1
        have q0 : ρ a0 = 50 := rr T15 (thR T15 rW (i := 0) (k2 := 50) rfl (by decide)) e0
        have q1 : ρ a1 = 51 := rr T15 (thR T15 rW (i := 1) (k2 := 51) rfl (by decide)) e1
        exact wy_e (frx f16 rW (by decide) rfl rfl).1 (fun i => (frx f16 q0 (by decide) rfl rfl).1) (fun i => (frx f16 q1 (by decide) rfl rfl).1) (wx15 a0 a1 e0 e1)
      · rw [lone L' rL' wL']
        exact z16.2.2.2
    exact s_imp (ru_x hF (by rcases hc with z | z <;> (rw [z]; exact hO)) T16 r0 I16) (fun o ho => ⟨c', hc, ho.1, ho.2.1, ho.2.2⟩)
end
