/-! go: places keep to the law -/
abbrev COL : List (Nat × Nat) := [(47, 999), (6, 4), (6, 5), (6, 6), (6, 7), (6, 8), (6, 9)]
section
variable {ρ : Nat → Nat} {c : Cm} {h o g : Hp} {x0 p q b L F : Nat} {n m : Int} {x1 x2 x3 : Int32}
theorem isp_x {o1 : Int32 × Hp} (P : PlX ρ c x0 h) (e1 : sX11_isPlace h x0 x1 = some o1) (n1 : ¬ o1.1 = 0) (l60 : x1.toNatClampNeg < 60) {r b : Nat} (er : hR h x0 13 = some r) (eb : hR h r x1.toNatClampNeg = some b) : PoX ρ c b h := by
  unfold sX11_isPlace sX11_isPlace_23 sX11_isPlace_24 at e1
  have no : ∀ {o : Int32 × Hp}, ¬ o.1 = 0 → gd ((0 : Int32) &&& 1 = 0) (some ((0 : Int32), h)) = some o → False := fun n e => by
    obtain ⟨_, e⟩ := gd_s e
    exact n (by rw [← Option.some.inj e])
  replace e1 := br_s e1
  rcases e1 with ⟨_, e1⟩ | ⟨_, e1⟩
  · exact absurd (no n1 e1) id
  replace e1 := br_s e1
  rcases e1 with ⟨_, e1⟩ | ⟨_, e1⟩
  · exact absurd (no n1 e1) id
  replace e1 := cl_s e1
  obtain ⟨u, eu, e1⟩ := e1
  replace e1 := (gd_s e1).2
  replace e1 := br_s e1
  rcases e1 with ⟨_, e1⟩ | ⟨nu, e1⟩
  · exact absurd (no n1 e1) id
  exact P r u er eu _ l60 nu b eb
/-- the list of a place's moves keeps to the law -/
theorem lm_x {o2 : Int32 × Hp} {ls : Nat} (hF : 700000 ≤ F) (hA : pmA c COL) (hi : pmO c 1503 SHL) (T : TH ρ c h) (r0 : ρ x0 = 12) (lw : LwR ρ c h) (pl : PlP ρ c x0 h) (lx : LwX ρ c h) (wx : WyA ρ c h) (P : PlX ρ c x0 h) (els : hR h x0 12 = some ls) (e : sX11_listMoves F h x0 x1 = some o2) : ∀ L, ρ L = 2 → cw c L = 2102 → LQ ls (hI h L 2).toInt (hI h L 3).toInt o2 := by
  intro L rL wL
  unfold sX11_listMoves sX11_listMoves_32 at e
  replace e := cl_s e
  obtain ⟨o1, e1, e⟩ := e
  have Z1 := sat_e (zX11_isPlace hF T r0 (rg_top x1)) e1
  rw [Z1.1] at e
  replace e := br_s e
  rcases e with ⟨_, e⟩ | ⟨n1, e⟩
  · rw [← Option.some.inj e]
    exact fun i hi => absurd hi (by show ¬ (i : Int) < 0; omega)
  have ip := Z1.2.2 n1
  have l60 : x1.toNatClampNeg < 60 := by have := rg_clamp (n := 59) ip (by decide); omega
  replace e := cl_s e
  obtain ⟨r3, g3, e⟩ := e
  have q3 : ρ r3 = 6 := rr T (thR T r0 (i := 6) (k2 := 6) rfl (by decide)) g3
  replace e := cl_s e
  obtain ⟨r4, g4, e⟩ := e
  have q4 : ρ r4 = 57 := rr T (thR T r0 (i := 13) (k2 := 57) rfl (by decide)) g4
  replace e := (gd_s e).2
  replace e := cl_s e
  obtain ⟨r6, g6, e⟩ := e
  have q6 := pl_b T q4 l60 g6
  have w6 : cw c r6 = 3200 := kid_w T q4 (i := x1.toNatClampNeg) rfl (by decide) g6
  replace e := cl_s e
  obtain ⟨r7, g7, e⟩ := e
  have y7 : r7 = ls := r_eq els g7
  subst y7
  have q7 : ρ r7 = 47 := rr T (thR T r0 (i := 12) (k2 := 47) rfl (by decide)) g7
  replace e := cl_s e
  obtain ⟨o8, e8, e⟩ := e
  have hr := hr_of T r0 pl e1 n1
  have Z := sat_e (collect_q hF hA hi w6 rfl (by decide) T q3 q6 q7 (rg_m (rg_b rfl : Rg 4096 4096 (4096 : Int32)) (by decide)) lw (hr.2 r4 g4 r6 g6) lx wx (isp_x P e1 n1 l60 g4 g6)) e8
  rw [← Option.some.inj e]
  exact Z.2 L rL wL
theorem lwx_k {E : List (Nat × Nat)} (T : TH ρ c h) (K : Kf ρ E h o) (y3 : mS E 2 3 = false := by rfl) (y4 : mS E 2 4 = false := by rfl) (y6 : mS E 2 6 = false := by rfl) (y17 : mS E 2 17 = false := by rfl) (y18 : mS E 2 18 = false := by rfl) (y30 : ∀ i, mS E 30 i = false := by intro _; rfl) (y31 : ∀ i, mS E 31 i = false := by intro _; rfl) (P : LwX ρ c h) : LwX ρ c o := fun L rL wL => by
  rw [kfI 3 K rL (by decide) y3, kfI 4 K rL (by decide) y4, kfI 6 K rL (by decide) y6]
  obtain ⟨a, b, d⟩ := P L rL wL
  refine ⟨a, b, fun bm bc em ec k hk => ?_⟩
  rw [kfR 17 K rL (by decide) y17] at em
  rw [kfR 18 K rL (by decide) y18] at ec
  have rm : ρ bm = 30 := rr T (thR T rL (i := 17) (k2 := 30) rfl (by decide)) em
  have rc : ρ bc = 31 := rr T (thR T rL (i := 18) (k2 := 31) rfl (by decide)) ec
  rw [kfI k K rc (by decide) (y31 k)]
  refine ⟨(d bm bc em ec k hk).1, fun i hi => ?_⟩
  rw [kfI _ K rm (by decide) (y30 _)]
  exact (d bm bc em ec k hk).2 i hi
theorem wya_k {E : List (Nat × Nat)} (T : TH ρ c h) (K : Kf ρ E h o) (y2 : mS E 2 2 = false := by rfl) (y3 : mS E 2 3 = false := by rfl) (z0 : mS E 11 0 = false := by rfl) (z1 : mS E 11 1 = false := by rfl) (z8 : mS E 11 8 = false := by rfl) (y50 : ∀ i, mS E 50 i = false := by intro _; rfl) (y51 : ∀ i, mS E 51 i = false := by intro _; rfl) (P : WyA ρ c h) : WyA ρ c o := fun wy L rw' rL wL a0 a1 e0 e1 => by
  rw [kfI 2 K rL (by decide) y2, kfI 3 K rL (by decide) y3]
  rw [kfR 0 K rw' (by decide) z0] at e0
  rw [kfR 1 K rw' (by decide) z1] at e1
  have q0 : ρ a0 = 50 := rr T (thR T rw' (i := 0) (k2 := 50) rfl (by decide)) e0
  have q1 : ρ a1 = 51 := rr T (thR T rw' (i := 1) (k2 := 51) rfl (by decide)) e1
  exact wy_e (kfI 8 K rw' (by decide) z8) (fun i => kfI i K q0 (by decide) (y50 i)) (fun i => kfI i K q1 (by decide) (y51 i)) (P wy L rw' rL wL a0 a1 e0 e1)
theorem go_x (hF : 700000 ≤ F) (hA : pmA c [(47, 999), (58, 999), (6, 4), (6, 5), (6, 6), (6, 7), (6, 8), (6, 9)]) (hi : pmO c 1503 SHL) (h32 : pmO c 3200 SHL) (T : TH ρ c h) (r0 : ρ x0 = 12) (lw : LwR ρ c h) (pl : PlP ρ c x0 h) (lx : LwX ρ c h) (wx : WyA ρ c h) (P : PlX ρ c x0 h) : Sat (sX11_go F h x0 x1 x2) (ZQ (ZI ρ c (-104) 59) (fun o => PlP ρ c x0 o.2 ∧ PlX ρ c x0 o.2)) := by
  refine sat_and (zX11_go hF hA hi h32 T r0 (rg_top _) (rg_top _) lw pl) (fun o e Z => ⟨Z.1, Z.2, ?_⟩)
  obtain ⟨L, eL, rL⟩ := thR T r0 (i := 2) (k2 := 2) rfl (by decide)
  have wL : cw c L = 2102 := kid_w T r0 (i := 2) (w := 2102) rfl (by decide) eL
  obtain ⟨ls, els, rls⟩ := thR T r0 (i := 12) (k2 := 47) rfl (by decide)
  unfold sX11_go sX11_go_13 at e
  replace e := br_s e
  rcases e with ⟨_, e⟩ | ⟨n2, e⟩
  · rw [← Option.some.inj e]; exact P
  have n2 := nlt_i n2
  have z0 : (0 : Int32).toInt = 0 := rfl
  replace e := cl_s e
  obtain ⟨o2, e2, e⟩ := e
  have Z2 := sat_e (zX11_listMoves (c := cat c (fS COL [(1503, SHL)]) h) hF fs_a (fs_o (.head _)) (th_in _ T) r0 (rg_top _) lw pl) e2
  have T2 := th_out T (fs_sub (pmA_s hA rfl) (fs_c hi fs_n)) Z2.1.1
  have f2 := fr_u T Z2.1.1.2.2
  have Q2 := lm_x hF (pmA_s hA rfl) hi T r0 lw pl lx wx P els e2 L rL wL
  have P2 : PlX ρ c x0 o2.2 := plx_fr T r0 f2 (fun _ => rfl) (fun _ => rfl) (fun _ _ => rfl) (fun _ _ => rfl) rfl (fun _ => rfl) (fun _ => rfl) (fun _ => rfl) P
  have K2 : Kf ρ (COL ++ SHL) h o2.2 := kf_of f2 rfl
  have pl2 : PlP ρ c x0 o2.2 := pl_fr T r0 f2 (fun _ => rfl) (fun _ => rfl) (fun _ _ => rfl) (fun _ _ => rfl) rfl (fun _ => rfl) (fun _ => rfl) pl
  replace e := br_s e
  rcases e with ⟨l2, e⟩ | ⟨_, e⟩
  · have l2 := Int32.lt_iff_toInt_lt.mp l2
    have c2 := clamp_i (v := x2) (by omega)
    have hr := Z2.2.2 (by omega)
    have ip := (Z2.2.1).resolve_left (by omega)
    have i1 : Rg 0 59 x1 := ⟨ip.1, ip.2⟩
    have l60 : x1.toNatClampNeg < 60 := by have := rg_clamp (n := 59) i1 (by decide); omega
    replace e := cl_s e
    obtain ⟨o4, e4, e⟩ := e
    have Z4 := sat_e (zX11_freePlace hF T2 r0) e4
    rw [Z4.1] at e
    replace e := br_s e
    rcases e with ⟨_, e⟩ | ⟨n4, e⟩
    · rw [← Option.some.inj e]; exact P2
    have i4 : Rg 0 59 o4.1 := rg_nlo n4 Z4.2 (rg_b rfl : Rg (-1) (-1) (-1 : Int32))
    have l64 : o4.1.toNatClampNeg < 60 := by have := rg_clamp (n := 59) i4 (by decide); omega
    replace e := cl_s e
    obtain ⟨r6, g6, e⟩ := e
    have q6 : ρ r6 = 57 := rr T2 (thR T2 r0 (i := 13) (k2 := 57) rfl (by decide)) g6
    replace e := (gd_s e).2
    replace e := cl_s e
    obtain ⟨r8, g8, e⟩ := e
    have q8 := pl_b T2 q6 l60 g8
    have w8 : cw c r8 = 3200 := kid_w T2 q6 (i := x1.toNatClampNeg) rfl (by decide) g8
    -- the place that is left keeps to the law
    have X8 : PoX ρ c r8 o2.2 := by
      unfold sX11_listMoves sX11_listMoves_32 at e2
      replace e2 := cl_s e2
      obtain ⟨o1, e1, e2⟩ := e2
      have Z1 := sat_e (zX11_isPlace hF T r0 (rg_top x1)) e1
      rw [Z1.1] at e2
      replace e2 := br_s e2
      rcases e2 with ⟨_, e2⟩ | ⟨n1, _⟩
      · rw [← Option.some.inj e2] at l2
        have : ((0 : Int32), h).1.toInt = 0 := rfl
        omega
      · have g6' : hR h x0 13 = some r6 := by rw [← (fr_RI f2 r0 (by decide) (fun _ => rfl)).2.2]; exact g6
        have g8' : hR h r6 x1.toNatClampNeg = some r8 := by rw [← (fr_RI f2 q6 (by decide) (fun _ => rfl)).2.2]; exact g8
        have A := isp_x P e1 n1 l60 g6' g8'
        intro L' on s rL' wL' eo hs z
        rw [(f2.1 r8 0 (by rw [q8]; decide) (by rw [q8]; show fS COL [(1503, SHL)] 4 (cw c r8) 0 = false; rw [w8]; rfl)).2.2] at eo
        have qo := th_on T q8 eo
        have wo : cw c on = 3200 := th_ih T q8 rfl eo w8
        rw [fr_I f2 qo (by decide) wo rfl] at z ⊢
        rw [(fr_RI f2 rL' (by decide) (fun _ => rfl)).1, (fr_RI f2 rL' (by decide) (fun _ => rfl)).1]
        exact A L' on s rL' wL' eo hs z
    replace e := cl_s e
    obtain ⟨o9, e9, e⟩ := e
    have Z9 := sat_e (zX11_settle (c := cat c (fS [(58, 999)] [(3200, SHL)]) o2.2) hF fs_a (pmO_s (fs_o (.head _)) rfl) rfl (th_in _ T2) r0 i4 q8 pl2 (hr.2 r6 g6 r8 g8)) e9
    have T9 := th_out T2 (fs_sub (pmA_s hA rfl) (fs_c h32 fs_n)) Z9.1
    have f9 := fr_u T2 Z9.1.2.2
    have P9 := settle_x T2 r0 q8 i4 P2 X8 e9
    have K9 : Kf ρ ((58, 999) :: SHL) o2.2 o9 := kf_of f9 rfl
    replace e := cl_s e
    obtain ⟨r10, g10, e⟩ := e
    have q10 : ρ r10 = 6 := rr T9 (thR T9 r0 (i := 6) (k2 := 6) rfl (by decide)) g10
    replace e := cl_s e
    obtain ⟨r11, g11, e⟩ := e
    have q11 : ρ r11 = 57 := rr T9 (thR T9 r0 (i := 13) (k2 := 57) rfl (by decide)) g11
    replace e := (gd_s e).2
    replace e := cl_s e
    obtain ⟨r13, g13, e⟩ := e
    have q13 := pl_b T9 q11 l64 g13
    replace e := cl_s e
    obtain ⟨r14, g14, e⟩ := e
    have y14 : r14 = ls := r_eq els (by rw [kfR 12 K9 r0, kfR 12 K2 r0] at g14; exact g14)
    subst y14
    replace e := (gd_s e).2
    replace e := cl_s e
    obtain ⟨o16, e16, e⟩ := e
    rw [← Option.some.inj e]
    have iL : ∀ j, hI o9 L j = hI h L j := fun j => by rw [kfI j K9 rL, kfI j K2 rL]
    have M : MvX (hI h L 2).toInt (hI h L 3).toInt (hI o9 r14 x2.toNatClampNeg) := by
      rw [kfI _ K9 rls]
      exact Q2 x2.toNatClampNeg (by omega)
    obtain ⟨L9, eL9, rL9⟩ := thR T9 q10 (i := 0) (k2 := 2) rfl (by decide)
    have wL9 : cw c L9 = 2102 := kid_w T9 q10 (i := 0) (w := 2102) rfl (by decide) eL9
    have yL : L9 = L := law_1 T rL wL rL9 wL9
    subst yL
    have S : ShP ρ r10 r13 L9 (hI h L9 3).toInt o9 := ⟨pr_th T9 q13, eL9, rL, thI T9 q13 (k := 4) (i := 5) rfl, by rw [iL]; exact thI T rL (k := 2) (i := 6) rfl, by rw [iL]; exact (lx L9 rL wL).2.1, (thI T rL (k := 2) (i := 3) (lo := 0) (hi := 12) rfl).2⟩
    exact plx_k (make_x S M e16) T9 r0 rL wL (by rw [iL]) (by rw [iL]) P9
  · rw [← Option.some.inj e]; exact P2
end
