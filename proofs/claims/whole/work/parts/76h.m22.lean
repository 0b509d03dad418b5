section
/-! go: places keep to the law -/
abbrev COL : List (Nat × Nat) := [(47, 999), (6, 4), (6, 5), (6, 6), (6, 7), (6, 8), (6, 9)]
section
variable {ρ : Nat → Nat} {c : Cm} {h o g : Hp} {x0 p q b L F : Nat} {n m : Int} {x1 x2 x3 : Int32}
theorem isp_x {o1 : Int32 × Hp} (P : PlX ρ c x0 h) (e1 : sX11_isPlace h x0 x1 = some o1) (n1 : ¬ o1.1 = 0) (l60 : x1.toNatClampNeg < 60) {r b : Nat} (er : hR h x0 13 = some r) (eb : hR h r x1.toNatClampNeg = some b) : PoX ρ c b h := by
  unfold sX11_isPlace sX11_isPlace_23 sX11_isPlace_24 at e1
  have no : ∀ {o : Int32 × Hp}, ¬ o.1 = 0 → gd ((0 : Int32) &&& 1 = 0) (some ((0 : Int32), h)) = some o → False := fun n e => by
    obtain ⟨_, e⟩ := gd_s e
    exact n (by rw [← Option.some.inj e])
  replace e1 := br_s e1
  rcases e1 with ⟨_, e1⟩ | ⟨_, e1⟩
  · exact absurd (no n1 e1) id
  replace e1 := br_s e1
  rcases e1 with ⟨_, e1⟩ | ⟨_, e1⟩
  · exact absurd (no n1 e1) id
  replace e1 := cl_s e1
  obtain ⟨u, eu, e1⟩ := e1
  replace e1 := (gd_s e1).2
  replace e1 := br_s e1
  rcases e1 with ⟨_, e1⟩ | ⟨nu, e1⟩
  · exact absurd (no n1 e1) id
  exact P r u er eu _ l60 nu b eb
/-- the list of a place's moves keeps to the law -/
theorem lm_x {o2 : Int32 × Hp} {ls : Nat} (hF : 700000 ≤ F) (hA : pmA c COL) (hi : pmO c 1503 SHL) (T : TH ρ c h) (r0 : ρ x0 = 12) (lw : LwR ρ c h) (pl : PlP ρ c x0 h) (lx : LwX ρ c h) (wx : WyA ρ c h) (P : PlX ρ c x0 h) (els : hR h x0 12 = some ls) (e : sX11_listMoves F h x0 x1 = some o2) : ∀ L, ρ L = 2 → cw c L = 2102 → LQ ls (hI h L 2).toInt (hI h L 3).toInt o2 := by
  intro L rL wL
  unfold sX11_listMoves sX11_listMoves_32 at e
  replace e := cl_s e
  obtain ⟨o1, e1, e⟩ := e
  have Z1 := sat_e (zX11_isPlace hF T r0 (rg_top x1)) e1
  rw [Z1.1] at e
  replace e := br_s e
  rcases e with ⟨_, e⟩ | ⟨n1, e⟩
  · rw [← Option.some.inj e]
    exact fun i hi => absurd hi (by show ¬ (i : Int) < 0; omega)
  have ip := Z1.2.2 n1
  have l60 : x1.toNatClampNeg < 60 := by have := rg_clamp (n := 59) ip (by decide); omega
  replace e := cl_s e
  obtain ⟨r3, g3, e⟩ := e
  have q3 : ρ r3 = 6 := rr T (thR T r0 (i := 6) (k2 := 6) rfl (by decide)) g3
  replace e := cl_s e
  obtain ⟨r4, g4, e⟩ := e
  have q4 : ρ r4 = 57 := rr T (thR T r0 (i := 13) (k2 := 57) rfl (by decide)) g4
  replace e := (gd_s e).2
  replace e := cl_s e
  obtain ⟨r6, g6, e⟩ := e
  have q6 := pl_b T q4 l60 g6
  have w6 : cw c r6 = 3200 := kid_w T q4 (i := x1.toNatClampNeg) rfl (by decide) g6
  replace e := cl_s e
  obtain ⟨r7, g7, e⟩ := e
  have y7 : r7 = ls := r_eq els g7
  subst y7
  have q7 : ρ r7 = 47 := rr T (thR T r0 (i := 12) (k2 := 47) rfl (by decide)) g7
  replace e := cl_s e
  obtain ⟨o8, e8, e⟩ := e
  have hr := hr_of T r0 pl e1 n1
  have Z := sat_e (collect_q hF hA hi w6 rfl (by decide) T q3 q6 q7 (rg_m (rg_b rfl : Rg 4096 4096 (4096 : Int32)) (by decide)) lw (hr.2 r4 g4 r6 g6) lx wx (isp_x P e1 n1 l60 g4 g6)) e8
  rw [← Option.some.inj e]
  exact Z.2 L rL wL
theorem lwx_k {E : List (Nat × Nat)} (T : TH ρ c h) (K : Kf ρ E h o) (y3 : mS E 2 3 = false := by rfl) (y4 : mS E 2 4 = false := by rfl) (y6 : mS E 2 6 = false := by rfl) (y17 : mS E 2 17 = false := by rfl) (y18 : mS E 2 18 = false := by rfl) (y30 : ∀ i, mS E 30 i = false := by intro _; rfl) (y31 : ∀ i, mS E 31 i = false := by intro _; rfl) (P : LwX ρ c h) : LwX ρ c o := fun L rL wL => by
  rw [kfI 3 K rL (by decide) y3, kfI 4 K rL (by decide) y4, kfI 6 K rL (by decide) y6]
  obtain ⟨a, b, d⟩ := P L rL wL
  refine ⟨a, b, fun bm bc em ec k hk => ?_⟩
  rw [kfR 17 K rL (by decide) y17] at em
  rw [kfR 18 K rL (by decide) y18] at ec
  have rm : ρ bm = 30 := rr T (thR T rL (i := 17) (k2 := 30) rfl (by decide)) em
  have rc : ρ bc = 31 := rr T (thR T rL (i := 18) (k2 := 31) rfl (by decide)) ec
  rw [kfI k K rc (by decide) (y31 k)]
  refine ⟨(d bm bc em ec k hk).1, fun i hi => ?_⟩
  rw [kfI _ K rm (by decide) (y30 _)]
  exact (d bm bc em ec k hk).2 i hi
theorem wya_k {E : List (Nat × Nat)} (T : TH ρ c h) (K : Kf ρ E h o) (y2 : mS E 2 2 = false := by rfl) (y3 : mS E 2 3 = false := by rfl) (z0 : mS E 11 0 = false := by rfl) (z1 : mS E 11 1 = false := by rfl) (z8 : mS E 11 8 = false := by rfl) (y50 : ∀ i, mS E 50 i = false := by intro _; rfl) (y51 : ∀ i, mS E 51 i = false := by intro _; rfl) (P : WyA ρ c h) : WyA ρ c o := fun wy L rw' rL wL a0 a1 e0 e1 => by
  rw [kfI 2 K rL (by decide) y2, kfI 3 K rL (by decide) y3]
  rw [kfR 0 K rw' (by decide) z0] at e0
  rw [kfR 1 K rw' (by decide) z1] at e1
  have q0 : ρ a0 = 50 := rr T (thR T rw' (i := 0) (k2 := 50) rfl (by decide)) e0
  have q1 : ρ a1 = 51 := rr T (thR T rw' (i := 1) (k2 := 51) rfl (by decide)) e1
  exact wy_e (kfI 8 K rw' (by decide) z8) (fun i => kfI i K q0 (by decide) (y50 i)) (fun i => kfI i K q1 (by decide) (y51 i)) (P wy L rw' rL wL a0 a1 e0 e1)
theorem go_x (hF : 700000 ≤ F) (hA : pmA c [(47, 999), (58, 999), (6, 4), (6, 5), (6, 6), (6, 7), (6, 8), (6, 9)]) (hi : pmO c 1503 SHL) (h32 : pmO c 3200 SHL) (T : TH ρ c h) (r0 : ρ x0 = 12) (lw : LwR ρ c h) (pl : PlP ρ c x0 h) (lx : LwX ρ c h) (wx : WyA ρ c h) (P : PlX ρ c x0 h) : Sat (sX11_go F h x0 x1 x2) (ZQ (ZI ρ c (-104) 59) (fun o => PlP ρ c x0 o.2 ∧ PlX ρ c x0 o.2)) := by
  refine sat_and (zX11_go hF hA hi h32 T r0 (rg_top _) (rg_top _) lw pl) (fun o e Z => ⟨Z.1, Z.2, ?_⟩)
  obtain ⟨L, eL, rL⟩ := thR T r0 (i := 2) (k2 := 2) rfl (by decide)
  have wL : cw c L = 2102 := kid_w T r0 (i := 2) (w := 2102) rfl (by decide) eL
  obtain ⟨ls, els, rls⟩ := thR T r0 (i := 12) (k2 := 47) rfl (by decide)
  unfold sX11_go sX11_go_13 at e
  replace e := br_s e
  rcases e with ⟨_, e⟩ | ⟨n2, e⟩
  · rw [← Option.some.inj e]; exact P
  have n2 := nlt_i n2
  have z0 : (0 : Int32).toInt = 0 := rfl
  replace e := cl_s e
  obtain ⟨o2, e2, e⟩ := e
  have Z2 := sat_e (zX11_listMoves (c := cat c (fS COL [(1503, SHL)]) h) hF fs_a (fs_o (.head _)) (th_in _ T) r0 (rg_top _) lw pl) e2
  have T2 := th_out T (fs_sub (pmA_s hA rfl) (fs_c hi fs_n)) Z2.1.1
  have f2 := fr_u T Z2.1.1.2.2
  have Q2 := lm_x hF (pmA_s hA rfl) hi T r0 lw pl lx wx P els e2 L rL wL
  have P2 : PlX ρ c x0 o2.2 := plx_fr T r0 f2 (fun _ => rfl) (fun _ => rfl) (fun _ _ => rfl) (fun _ _ => rfl) rfl (fun _ => rfl) (fun _ => rfl) (fun _ => rfl) P
  have K2 : Kf ρ (COL ++ SHL) h o2.2 := kf_of f2 rfl
  have pl2 : PlP ρ c x0 o2.2 := pl_fr T r0 f2 (fun _ => rfl) (fun _ => rfl) (fun _ _ => rfl) (fun _ _ => rfl) rfl (fun _ => rfl) (fun _ => rfl) pl
  replace e := br_s e
  rcases e with ⟨l2, e⟩ | ⟨_, e⟩
  · have l2 := Int32.lt_iff_toInt_lt.mp l2
    have c2 := clamp_i (v := x2) (by omega)
    have hr := Z2.2.2 (by omega)
    have ip := (Z2.2.1).resolve_left (by omega)
    have i1 : Rg 0 59 x1 := ⟨ip.1, ip.2⟩
    have l60 : x1.toNatClampNeg < 60 := by have := rg_clamp (n := 59) i1 (by decide); omega
    replace e := cl_s e
    obtain ⟨o4, e4, e⟩ := e
    have Z4 := sat_e (zX11_freePlace hF T2 r0) e4
    rw [Z4.1] at e
    replace e := br_s e
    rcases e with ⟨_, e⟩ | ⟨n4, e⟩
    · rw [← Option.some.inj e]; exact P2
    have i4 : Rg 0 59 o4.1 := rg_nlo n4 Z4.2 (rg_b rfl : Rg (-1) (-1) (-1 : Int32))
    have l64 : o4.1.toNatClampNeg < 60 := by have := rg_clamp (n := 59) i4 (by decide); omega
    replace e := cl_s e
    obtain ⟨r6, g6, e⟩ := e
    have q6 : ρ r6 = 57 := rr T2 (thR T2 r0 (i := 13) (k2 := 57) rfl (by decide)) g6
    replace e := (gd_s e).2
    replace e := cl_s e
    obtain ⟨r8, g8, e⟩ := e
    have q8 := pl_b T2 q6 l60 g8
    have w8 : cw c r8 = 3200 := kid_w T2 q6 (i := x1.toNatClampNeg) rfl (by decide) g8
    -- the place that is left keeps to the law
    have X8 : PoX ρ c r8 o2.2 := by
      unfold sX11_listMoves sX11_listMoves_32 at e2
      replace e2 := cl_s e2
      obtain ⟨o1, e1, e2⟩ := e2
      have Z1 := sat_e (zX11_isPlace hF T r0 (rg_top x1)) e1
      rw [Z1.1] at e2
      replace e2 := br_s e2
      rcases e2 with ⟨_, e2⟩ | ⟨n1, _⟩
      · rw [← Option.some.inj e2] at l2
        have : ((0 : Int32), h).1.toInt = 0 := rfl
        omega
      · have g6' : hR h x0 13 = some r6 := by rw [← (fr_RI f2 r0 (by decide) (fun _ => rfl)).2.2]; exact g6
        have g8' : hR h r6 x1.toNatClampNeg = some r8 := by rw [← (fr_RI f2 q6 (by decide) (fun _ => rfl)).2.2]; exact g8
        have A := isp_x P e1 n1 l60 g6' g8'
        intro L' on s rL' wL' eo hs z
        rw [(f2.1 r8 0 (by rw [q8]; decide) (by rw [q8]; show fS COL [(1503, SHL)] 4 (cw c r8) 0 = false; rw [w8]; rfl)).2.2] at eo
        have qo := th_on T q8 eo
        have wo : cw c on = 3200 := th_ih T q8 rfl eo w8
        rw [fr_I f2 qo (by decide) wo rfl] at z ⊢
        rw [(fr_RI f2 rL' (by decide) (fun _ => rfl)).1, (fr_RI f2 rL' (by decide) (fun _ => rfl)).1]
        exact A L' on s rL' wL' eo hs z
    replace e := cl_s e
    obtain ⟨o9, e9, e⟩ := e
    have Z9 := sat_e (zX11_settle (c := cat c (fS [(58, 999)] [(3200, SHL)]) o2.2) hF fs_a (pmO_s (fs_o (.head _)) rfl) rfl (th_in _ T2) r0 i4 q8 pl2 (hr.2 r6 g6 r8 g8)) e9
    have T9 := th_out T2 (fs_sub (pmA_s hA rfl) (fs_c h32 fs_n)) Z9.1
    have f9 := fr_u T2 Z9.1.2.2
    have P9 := settle_x T2 r0 q8 i4 P2 X8 e9
    have K9 : Kf ρ ((58, 999) :: SHL) o2.2 o9 := kf_of f9 rfl
    replace e := cl_s e
    obtain ⟨r10, g10, e⟩ := e
    have q10 : ρ r10 = 6 := rr T9 (thR T9 r0 (i := 6) (k2 := 6) rfl (by decide)) g10
    replace e := cl_s e
    obtain ⟨r11, g11, e⟩ := e
    have q11 : ρ r11 = 57 := rr T9 (thR T9 r0 (i := 13) (k2 := 57) rfl (by decide)) g11
    replace e := (gd_s e).2
    replace e := cl_s e
    obtain ⟨r13, g13, e⟩ := e
    have q13 := pl_b T9 q11 l64 g13
    replace e := cl_s e
    obtain ⟨r14, g14, e⟩ := e
    have y14 : r14 = ls := r_eq els (by rw [kfR 12 K9 r0, kfR 12 K2 r0] at g14; exact g14)
    subst y14
    replace e := (gd_s e).2
    replace e := cl_s e
    obtain ⟨o16, e16, e⟩ := e
    rw [← Option.some.inj e]
    have iL : ∀ j, hI o9 L j = hI h L j := fun j => by rw [kfI j K9 rL, kfI j K2 rL]
    have M : MvX (hI h L 2).toInt (hI h L 3).toInt (hI o9 r14 x2.toNatClampNeg) := by
      rw [kfI _ K9 rls]
      exact Q2 x2.toNatClampNeg (by omega)
    obtain ⟨L9, eL9, rL9⟩ := thR T9 q10 (i := 0) (k2 := 2) rfl (by decide)
    have wL9 : cw c L9 = 2102 := kid_w T9 q10 (i := 0) (w := 2102) rfl (by decide) eL9
    have yL : L9 = L := law_1 T rL wL rL9 wL9
    subst yL
    have S : ShP ρ r10 r13 L9 (hI h L9 3).toInt o9 := ⟨pr_th T9 q13, eL9, rL, thI T9 q13 (k := 4) (i := 5) rfl, by rw [iL]; exact thI T rL (k := 2) (i := 6) rfl, by rw [iL]; exact (lx L9 rL wL).2.1, (thI T rL (k := 2) (i := 3) (lo := 0) (hi := 12) rfl).2⟩
    exact plx_k (make_x S M e16) T9 r0 rL wL (by rw [iL]) (by rw [iL]) P9
  · rw [← Option.some.inj e]; exact P2
end
end
section
/-! what is read keeps to the law -/
/-- men that are changed keep to the law; laws, flags and lists stay -/
def kr (k : Nat) : Bool := k == 34 || k == 36 || k == 4 || k == 38 || k == 8
def PxR (ρ : Nat → Nat) (n m : Int) (h o : Hp) : Prop := (∀ a i, hR o a i = hR h a i) ∧ (∀ a i, kr (ρ a) = false → hI o a i = hI h a i) ∧ ∀ a s, s < 64 → ρ a = 34 → hI o a s = hI h a s ∨ (hI o a s).toInt < 0 ∨ ((s : Int) < n ∧ (hI o a s).toInt < 2 * m)
section
variable {ρ : Nat → Nat} {c : Cm} {h o g : Hp} {x0 p L F : Nat} {n m : Int} {x1 x2 x3 : Int32}
theorem pr_0 : PxR ρ n m h h := ⟨fun _ _ => rfl, fun _ _ _ => rfl, fun _ _ _ _ => Or.inl rfl⟩
theorem pr_t (a : PxR ρ n m h g) (b : PxR ρ n m g o) : PxR ρ n m h o := ⟨fun x i => (b.1 x i).trans (a.1 x i), fun x i r => (b.2.1 x i r).trans (a.2.1 x i r), fun x s hs r => by
  rcases b.2.2 x s hs r with z | z
  · rw [z]; exact a.2.2 x s hs r
  · exact Or.inr z⟩
theorem pr_c (k : PxC ρ n m h o) : PxR ρ n m h o := ⟨k.1, fun a i r => k.2.1 a i (by
  unfold kr at r
  unfold kq
  rw [Bool.or_eq_false_iff] at r
  exact r.1), fun a s _ r => k.2.2 a s r⟩
theorem pr_J {a i : Nat} {v : Int64} : PxR ρ n m h (wJ h a i v) := pr_c px_J
theorem pr_I {a i : Nat} {v : Int32} (k : kr (ρ a) = true) (n34 : ¬ ρ a = 34) : PxR ρ n m h (wI h a i v) := ⟨fun _ _ => rfl, fun b j r => by rw [r_I, if_neg (fun z => by rw [z.1, k] at r; exact absurd r (by decide))], fun b j _ r => Or.inl (by rw [r_I, if_neg (fun z => n34 (by rw [← z.1]; exact r))])⟩
theorem onr_k {on : Nat} (r : ρ on = 34) (k : PxR ρ n m h o) (P : OnX n m on h) : OnX n m on o := fun s hs z => by
  rcases k.2.2 on s hs r with w | w | w
  · rw [w] at z ⊢; exact P s hs z
  · omega
  · exact w
theorem byt_h {o : Int32 × Hp} (e : sX9_byteAt h p x1 = some o) : o.2 = h := by
  unfold sX9_byteAt sX9_byteAt_21 sX9_byteAt_22 at e
  replace e := br_s e
  rcases e with ⟨_, e⟩ | ⟨_, e⟩
  · rw [← Option.some.inj e]
  replace e := br_s e
  rcases e with ⟨_, e⟩ | ⟨_, e⟩
  · rw [← Option.some.inj e]
  replace e := cl_s e
  obtain ⟨_, _, e⟩ := e
  rw [← Option.some.inj (gd_s e).2]
theorem dgt_h {o : Int32 × Hp} (e : sX2_isDigit h x1 = some o) : o.2 = h := by
  unfold sX2_isDigit sX2_isDigit_16 sX2_isDigit_17 at e
  replace e := br_s e
  rcases e with ⟨_, e⟩ | ⟨_, e⟩
  · rw [← Option.some.inj (gd_s e).2]
  replace e := br_s e
  rcases e with ⟨_, e⟩ | ⟨_, e⟩
  · rw [← Option.some.inj (gd_s e).2]
  · rw [← Option.some.inj (gd_s e).2]
theorem man_2 : ∀ (f : Nat) {x2 : Int32} {o : Int32 × Hp}, 0 ≤ x2.toInt → sX1_manOf_2 F f h L x1 x2 = some o → o.2 = h ∧ (o.1 = (-1 : Int32) ∨ (0 ≤ o.1.toInt ∧ o.1.toInt < (hI h L 3).toInt)) := by
  intro f
  induction f with
  | zero => intro x2 o _ e; exact absurd e (by rw [sX1_manOf_2]; exact fun z => nomatch z)
  | succ f ih =>
    intro x2 o a2 e
    rw [sX1_manOf_2] at e
    replace e := br_s e
    rcases e with ⟨_, e⟩ | ⟨l, e⟩
    · rw [← Option.some.inj e]; exact ⟨rfl, Or.inl rfl⟩
    have l := nle_i l
    replace e := cl_s e
    obtain ⟨_, _, e⟩ := e
    replace e := (gd_s e).2
    replace e := br_s e
    rcases e with ⟨_, e⟩ | ⟨_, e⟩
    · rw [← Option.some.inj e]; exact ⟨rfl, Or.inr ⟨a2, l⟩⟩
    replace e := nm_s e
    obtain ⟨v5, w5, e⟩ := e
    have z1 : (1 : Int32).toInt = 1 := rfl
    have top := (rg_top (hI h L 3)).2
    have t5 : v5.toInt = x2.toInt + 1 := by rw [w5, ta (by rw [z1]; omega), z1]
    clear w5
    exact ih (by omega) e
theorem code_q {o : Int32 × Hp} (im : (hI h L 3).toInt ≤ 12) (e : sX1_codeOf F h L x1 = some o) : o.2 = h ∧ (o.1 = (-1 : Int32) ∨ (Rg 0 23 o.1 ∧ o.1.toInt < 2 * (hI h L 3).toInt)) := by
  have b31 : ∀ {y z : Int32} {o : Int32 × Hp}, sX1_codeOf_31 F h y z L = some o → o.2 = h ∧ (o.1 = (-1 : Int32) ∨ (Rg 0 23 o.1 ∧ o.1.toInt < 2 * (hI h L 3).toInt)) := fun {y z o} e => by
    unfold sX1_codeOf_31 sX1_codeOf_56 sX1_codeOf_57 sX1_manOf at e
    replace e := cl_s e
    obtain ⟨o1, e1, e⟩ := e
    obtain ⟨q1, M⟩ := man_2 F (by decide) e1
    rw [q1] at e
    replace e := br_s e
    rcases e with ⟨_, e⟩ | ⟨nm, e⟩
    · rw [← Option.some.inj e]; exact ⟨rfl, Or.inl rfl⟩
    obtain ⟨a, b⟩ := M.resolve_left nm
    have z2 : (2 : Int32).toInt = 2 := rfl
    have z1 : (1 : Int32).toInt = 1 := rfl
    have z0 : (0 : Int32).toInt = 0 := rfl
    have t1 : ((2 : Int32) * o1.1).toInt = 2 * o1.1.toInt := by rw [tm (by rw [z2]; omega), z2]
    have t2 : (((2 : Int32) * o1.1) + (1 : Int32)).toInt = 2 * o1.1.toInt + 1 := by rw [ta (by rw [t1, z1]; omega), t1, z1]
    have t3 : (((2 : Int32) * o1.1) + (0 : Int32)).toInt = 2 * o1.1.toInt := by rw [ta (by rw [t1, z0]; omega), t1, z0]; omega
    replace e := br_s e
    rcases e with ⟨_, e⟩ | ⟨_, e⟩
    · rw [← Option.some.inj e]
      exact ⟨rfl, Or.inr ⟨⟨by show 0 ≤ (((2 : Int32) * o1.1) + (1 : Int32)).toInt; omega, by show (((2 : Int32) * o1.1) + (1 : Int32)).toInt ≤ _; omega⟩, by show (((2 : Int32) * o1.1) + (1 : Int32)).toInt < _; omega⟩⟩
    · rw [← Option.some.inj e]
      exact ⟨rfl, Or.inr ⟨⟨by show 0 ≤ (((2 : Int32) * o1.1) + (0 : Int32)).toInt; omega, by show (((2 : Int32) * o1.1) + (0 : Int32)).toInt ≤ _; omega⟩, by show (((2 : Int32) * o1.1) + (0 : Int32)).toInt < _; omega⟩⟩
  unfold sX1_codeOf sX1_codeOf_16 sX1_codeOf_17 at e
  replace e := br_s e
  rcases e with ⟨_, e⟩ | ⟨_, e⟩
  · replace e := br_s e
    rcases e with ⟨_, e⟩ | ⟨_, e⟩
    · exact b31 e
    · exact b31 e
  replace e := br_s e
  rcases e with ⟨_, e⟩ | ⟨_, e⟩
  · replace e := br_s e
    rcases e with ⟨_, e⟩ | ⟨_, e⟩
    · exact b31 e
    · exact b31 e
  · replace e := br_s e
    rcases e with ⟨_, e⟩ | ⟨_, e⟩
    · exact b31 e
    · exact b31 e
theorem tby_x {o : Int32 × Hp} (r0 : ρ x0 = 8) (e : sX7_takeByte h x0 x1 = some o) : PxR ρ n m h o.2 := by
  unfold sX7_takeByte at e
  replace e := cl_s e
  obtain ⟨_, _, e⟩ := e
  replace e := cl_s e
  obtain ⟨o2, e2, e⟩ := e
  rw [byt_h e2] at e
  replace e := br_s e
  rcases e with ⟨_, e⟩ | ⟨_, e⟩
  · replace e := nm_s e
    obtain ⟨h4, w4, e⟩ := e
    rw [← Option.some.inj e]
    show PxR ρ n m h h4
    rw [w4]
    exact pr_I (by rw [r0]; rfl) (by rw [r0]; decide)
  · rw [← Option.some.inj e]; exact pr_0
/-- what the reading of ranks asks -/
def RdP (ρ : Nat → Nat) (x0 p L : Nat) (n m : Int) (h : Hp) : Prop := hR h x0 0 = some L ∧ PR ρ p h ∧ ρ x0 = 8 ∧ Bo ρ L n h ∧ (hI h L 3).toInt = m ∧ m ≤ 12
theorem rdp_k (k : PxR ρ n m h o) (P : RdP ρ x0 p L n m h) : RdP ρ x0 p L n m o := by
  obtain ⟨e0, q, r0, ⟨rL, b1, b2, b3⟩, em, m12⟩ := P
  have iL : ∀ i, hI o L i = hI h L i := fun i => k.2.1 L i (by rw [rL]; rfl)
  exact ⟨by rw [k.1]; exact e0, pr_k k.1 q, r0, ⟨rL, by rw [iL]; exact b1, by rw [iL]; exact b2, by rw [iL, iL]; exact b3⟩, by rw [iL]; exact em, m12⟩
theorem rr_40 {K : Hp → Nat → Nat → Int32 → Option (Int32 × Hp)} (a2 : 0 ≤ x2.toInt) (R : ∀ {h : Hp} {o : Int32 × Hp} {v : Int32}, RdP ρ x0 p L n m h → x2.toInt < (hI h L 1).toInt → v.toInt = x2.toInt - 1 → K h x0 p v = some o → PxR ρ n m h o.2) : ∀ (f : Nat) {h : Hp} {o : Int32 × Hp} {x3 : Int32}, RdP ρ x0 p L n m h → x2.toInt < (hI h L 1).toInt → 0 ≤ x3.toInt → sX7_readRanks_40 F K f h x0 p x2 x3 = some o → PxR ρ n m h o.2 := by
  intro f
  induction f with
  | zero => intro h o x3 _ _ _ e; exact absurd e (by rw [sX7_readRanks_40]; exact fun z => nomatch z)
  | succ f ih =>
    intro h o x3 P l2 a3 e
    rw [sX7_readRanks_40] at e
    have P' := P
    obtain ⟨e0, q, r0, B, em, m12⟩ := P
    have B' := B
    obtain ⟨rL, b1, b2, b3⟩ := B
    have b12 := b1.2
    have b22 := b2.2
    replace e := cl_s e
    obtain ⟨r1, g1, e⟩ := e
    have y1 : r1 = L := r_eq e0 g1
    subst y1
    replace e := br_s e
    rcases e with ⟨_, e⟩ | ⟨l, e⟩
    · replace e := nm_s e
      obtain ⟨v3, w3, e⟩ := e
      have t3 : v3.toInt = x2.toInt - 1 := by rw [w3]; exact rg_dec (a := 0) (b := 8) ⟨a2, by omega⟩ (by decide)
      clear w3
      exact R P' l2 t3 e
    have l := nle_i l
    replace e := cl_s e
    obtain ⟨_, _, e⟩ := e
    replace e := cl_s e
    obtain ⟨o5, e5, e⟩ := e
    rw [byt_h e5] at e
    replace e := cl_s e
    obtain ⟨r6, g6, e⟩ := e
    have y6 : r6 = r1 := r_eq e0 g6
    subst y6
    replace e := cl_s e
    obtain ⟨o7, e7, e⟩ := e
    obtain ⟨q7, C7⟩ := code_q (by omega) e7
    rw [q7] at e
    rw [em] at C7
    have z0 : (0 : Int32).toInt = 0 := rfl
    have z1 : (1 : Int32).toInt = 1 := rfl
    have b170 : ∀ {g : Hp} {t : Int32}, PxR ρ n m h g → 0 ≤ t.toInt → t.toInt ≤ 100 → sX7_readRanks_170 F K (sX7_readRanks_40 F K f) g x0 p x2 t x3 = some o → PxR ρ n m h o.2 := fun {g t} k t0 t1 e => by
      unfold sX7_readRanks_170 at e
      replace e := nm_s e
      obtain ⟨v1, w1, e⟩ := e
      have tv : v1.toInt = x3.toInt + t.toInt := by rw [w1, ta (by omega)]
      clear w1
      replace e := nm_s e
      obtain ⟨h2, w2, e⟩ := e
      have k2 : PxR ρ n m g h2 := by rw [w2]; exact pr_I (by rw [r0]; rfl) (by rw [r0]; decide)
      have kk := pr_t k k2
      exact pr_t kk (ih (rdp_k kk P') (by rw [kk.2.1 r6 1 (by rw [rL]; rfl)]; exact l2) (by omega) e)
    have b127 : ∀ {t : Int32}, 0 ≤ t.toInt → t.toInt ≤ 100 → sX7_readRanks_127 F K (sX7_readRanks_40 F K f) h x0 p x2 x3 o7.1 t = some o → PxR ρ n m h o.2 := fun {t} t0 t1 e => by
      unfold sX7_readRanks_127 sX7_readRanks_157 at e
      replace e := br_s e
      rcases e with ⟨w, e⟩ | ⟨nw, e⟩
      · replace e := br_s e
        rcases e with ⟨_, e⟩ | ⟨nw, e⟩
        · exact b170 pr_0 t0 t1 e
        · exact absurd w nw
      obtain ⟨ic, lc⟩ := C7.resolve_left nw
      replace e := cl_s e
      obtain ⟨r2, g2, e⟩ := e
      have y2 : r2 = r6 := r_eq e0 g2
      subst y2
      replace e := cl_s e
      obtain ⟨_, _, e⟩ := e
      replace e := cl_s e
      obtain ⟨o4, e4, e⟩ := e
      obtain ⟨isq, lsq⟩ := bo_sq B' (x13 := x3) (x14 := x2) ⟨a3, l⟩ ⟨a2, l2⟩
      obtain ⟨k4, _⟩ := put_x (n := n) (m := m) q (rg_m ic (by decide)) (fun _ => ⟨lsq, lc⟩) e4
      replace e := br_s e
      rcases e with ⟨w, e⟩ | ⟨_, e⟩
      · exact absurd w nw
      · exact b170 (pr_c k4) (by decide) (by decide) e
    have b98 : ∀ {t : Int32}, 0 ≤ t.toInt → t.toInt ≤ 100 → sX7_readRanks_98 F K (sX7_readRanks_40 F K f) h x0 p x2 x3 o7.1 t = some o → PxR ρ n m h o.2 := fun {t} t0 t1 e => by
      unfold sX7_readRanks_98 sX7_readRanks_125 at e
      replace e := br_s e
      rcases e with ⟨_, e⟩ | ⟨_, e⟩
      · replace e := br_s e
        rcases e with ⟨_, e⟩ | ⟨_, e⟩
        · rw [← Option.some.inj e]; exact pr_0
        replace e := cl_s e
        obtain ⟨_, _, e⟩ := e
        replace e := br_s e
        rcases e with ⟨_, e⟩ | ⟨_, e⟩
        · exact b127 t0 t1 e
        · rw [← Option.some.inj e]; exact pr_0
      · exact b127 t0 t1 e
    unfold sX7_readRanks_97 at e
    replace e := br_s e
    rcases e with ⟨_, e⟩ | ⟨l49, e⟩
    · exact b98 (by decide) (by decide) e
    have l49 := nlt_i l49
    replace e := br_s e
    rcases e with ⟨_, e⟩ | ⟨l56, e⟩
    · exact b98 (by decide) (by decide) e
    have l56 := nlt_i l56
    have z49 : (49 : Int32).toInt = 49 := rfl
    have z56 : (56 : Int32).toInt = 56 := rfl
    have z48 : (48 : Int32).toInt = 48 := rfl
    have t48 : (o5.1 - (48 : Int32)).toInt = o5.1.toInt - 48 := by rw [ts (by rw [z48]; omega), z48]
    exact b98 (by omega) (by omega) e
theorem rr_10 : ∀ (f : Nat) {h : Hp} {o : Int32 × Hp} {x2 : Int32}, RdP ρ x0 p L n m h → x2.toInt < (hI h L 1).toInt → sX7_readRanks_10 F f h x0 p x2 = some o → PxR ρ n m h o.2 := by
  intro f
  induction f with
  | zero => intro h o x2 _ _ e; exact absurd e (by rw [sX7_readRanks_10]; exact fun z => nomatch z)
  | succ f ih =>
    intro h o x2 P l2 e
    rw [sX7_readRanks_10] at e
    unfold sX7_readRanks_38 at e
    replace e := br_s e
    rcases e with ⟨_, e⟩ | ⟨a2, e⟩
    · rw [← Option.some.inj e]; exact pr_0
    have a2 : 0 ≤ x2.toInt := nlt_i (x := x2) (y := (0 : Int32)) a2
    have rL := P.2.2.2.1.1
    have go : ∀ {g : Hp}, PxR ρ n m h g → sX7_readRanks_40 F (sX7_readRanks_10 F f) F g x0 p x2 (0 : Int32) = some o → PxR ρ n m h o.2 := fun {g} k e => pr_t k (rr_40 a2 (fun {h2 o2 v} P2 l22 ev e2 => ih P2 (by omega) e2) F (rdp_k k P) (by rw [k.2.1 L 1 (by rw [rL]; rfl)]; exact l2) (by decide) e)
    replace e := cl_s e
    obtain ⟨_, _, e⟩ := e
    replace e := br_s e
    rcases e with ⟨_, e⟩ | ⟨_, e⟩
    · exact go pr_0 e
    replace e := cl_s e
    obtain ⟨o4, e4, e⟩ := e
    have k4 : PxR ρ n m h o4.2 := tby_x P.2.2.1 e4
    replace e := br_s e
    rcases e with ⟨_, e⟩ | ⟨_, e⟩
    · rw [← Option.some.inj e]; exact k4
    · exact go k4 e
theorem rranks_x {o : Int32 × Hp} (P : RdP ρ x0 p L n m h) (e : sX7_readRanks F h x0 p = some o) : PxR ρ n m h o.2 := by
  unfold sX7_readRanks at e
  replace e := cl_s e
  obtain ⟨r1, g1, e⟩ := e
  have y1 : r1 = L := r_eq P.1 g1
  subst y1
  replace e := nm_s e
  obtain ⟨v2, w2, e⟩ := e
  have b2 := P.2.2.2.1.2.2.1
  have b20 := b2.1
  have z1 : (1 : Int32).toInt = 1 := rfl
  have b22 := b2.2
  have t2 : v2.toInt = (hI h r1 1).toInt - 1 := by rw [w2, ts (by rw [z1]; omega), z1]
  clear w2
  exact rr_10 F P (by omega) e
theorem clear_x {x0 on ra : Nat} (T : TH ρ c h) (r0 : ρ x0 = 4) (eo : hR h x0 0 = some on) (er : hR h x0 2 = some ra) (e : sX3_clear F h x0 = some o) : PxR ρ n m h o ∧ OnX n m on o := by
  have ro := th_on T r0 eo
  have rra : ρ ra = 36 := rr T (thR T r0 (i := 2) (k2 := 36) rfl (by decide)) er
  have z0 : (0 : Int32).toInt = 0 := rfl
  unfold sX3_clear sX3_strip sJ7_fill_031fb sJ7_fill_d0a16 sJ7_fill_53178 at e
  simp only [nm] at e
  replace e := cl_s e
  obtain ⟨q1, w1, e⟩ := e
  rw [eo] at w1
  have z1 := Option.some.inj w1
  subst z1
  replace e := cl_s e
  obtain ⟨o2, e2, e⟩ := e
  rw [thN T ro (k := 34) (n := 64) rfl (by decide)] at e2
  obtain ⟨a1, a2, _, a4⟩ := fB (by decide) F (by decide) e2
  replace e := cl_s e
  obtain ⟨q3, w3, e⟩ := e
  replace e := cl_s e
  obtain ⟨o4, e4, e⟩ := e
  obtain ⟨b1, b2⟩ := fJ F e4
  replace e := cl_s e
  obtain ⟨q5, w5, e⟩ := e
  rw [b1.1, a1.1, er] at w5
  have z5 := Option.some.inj w5
  subst z5
  replace e := cl_s e
  obtain ⟨o6, e6, e⟩ := e
  rw [b1.2, a1.2, thN T rra (k := 36) (n := 2) rfl (by decide)] at e6
  obtain ⟨d1, d2, _, d4⟩ := fI (by decide) F (by decide) e6
  replace e := cl_s e
  obtain ⟨o8, e8, e⟩ := e
  replace e8 := cl_s e8
  obtain ⟨q9, w9, e8⟩ := e8
  replace e8 := cl_s e8
  obtain ⟨o10, e10, e8⟩ := e8
  obtain ⟨g1, g2⟩ := fJ F e10
  replace e8 := cl_s e8
  obtain ⟨q11, w11, e8⟩ := e8
  replace e8 := cl_s e8
  obtain ⟨o12, e12, e8⟩ := e8
  have r11 : ρ q11 = 38 := by
    rw [g1.1] at w11
    have w : hR o6 x0 4 = some q11 := w11
    rw [d1.1, b1.1, a1.1] at w
    exact rr T (thR T r0 (i := 4) (k2 := 38) rfl (by decide)) w
  have k12 : ∀ {a k : Nat}, ρ a = k → k ≠ 38 → (∀ i, hI o12 a i = hI o10 a i) := fun {a k} ha hk i => by
    have n : ¬ a = q11 := fun z => hk (by rw [← ha, z, r11])
    exact fI_o F e12 a i n
  have k12R : ∀ a i, hR o12 a i = hR o10 a i := fun a i => fI_r F e12 a i
  have z8 := Option.some.inj e8
  have z := Option.some.inj e
  rw [← z, ← z8]
  have n0 : ∀ {a k : Nat}, ρ a = k → k ≠ 4 → ∀ {P : Prop}, ¬ (a = x0 ∧ P) := fun ha hk _ y => hk (by rw [← ha, y.1, r0])
  have fin : ∀ {a k : Nat}, ρ a = k → k ≠ 38 → k ≠ 4 → ∀ i, hI (wI o12 x0 6 (0 : Int32)) a i = hI o6 a i := fun {a k} ha h1 h2 i => by
    rw [r_I, if_neg (n0 ha h2), k12 ha h1 i, g2]
    show hI (wI o6 x0 5 (0 : Int32)) a i = _
    rw [r_I, if_neg (n0 ha h2)]
  have v : ∀ s, s < 64 → hI (wI o12 x0 6 (0 : Int32)) on s = (-1 : Int32) := fun s hs => by
    rw [fin ro (by decide) (by decide), d2 on s (fun y => absurd (ro.symm.trans (by rw [y, rra])) (by decide)), b2]
    have := a4 s (by rw [z0]; omega) hs
    rw [this]; decide
  have zm : (-1 : Int32).toInt < 0 := by decide
  refine ⟨⟨fun a i => ?_, fun a i ha => ?_, fun a s hs ra' => ?_⟩, fun s hs z => ?_⟩
  · show hR o12 a i = _
    rw [k12R, g1.1]
    show hR o6 a i = _
    rw [d1.1, b1.1, a1.1]
  · have h1 : ¬ ρ a = 38 := fun w => by rw [w] at ha; exact absurd ha (by decide)
    have h2 : ¬ ρ a = 4 := fun w => by rw [w] at ha; exact absurd ha (by decide)
    have h3 : ¬ ρ a = 36 := fun w => by rw [w] at ha; exact absurd ha (by decide)
    have h4 : ¬ ρ a = 34 := fun w => by rw [w] at ha; exact absurd ha (by decide)
    show hI (wI o12 x0 6 (0 : Int32)) a i = _
    rw [fin rfl h1 h2, d2 a i (fun y => h3 (by rw [y, rra])), b2, a2 a i (fun y => h4 (by rw [y, ro]))]
  · by_cases w : a = on
    · subst w
      refine Or.inr (Or.inl ?_)
      show (hI (wI o12 x0 6 (0 : Int32)) a s).toInt < 0
      rw [v s hs]; exact zm
    · refine Or.inl ?_
      show hI (wI o12 x0 6 (0 : Int32)) a s = _
      rw [fin ra' (by decide) (by decide), d2 a s (fun y => absurd (ra'.symm.trans (by rw [y, rra])) (by decide)), b2, a2 a s w]
  · have z' : 0 ≤ (hI (wI o12 x0 6 (0 : Int32)) on s).toInt := z
    rw [v s hs] at z'
    omega
end
end
section
/-! a text that is read keeps to the law -/
section
variable {ρ : Nat → Nat} {c : Cm} {h o g : Hp} {x0 p L F : Nat} {n m : Int} {x1 x2 x3 : Int32}
theorem at_x {v : Int32} (r0 : ρ x0 = 8) : PxR ρ n m h (wI h x0 2 v) := pr_I (by rw [r0]; rfl) (by rw [r0]; decide)
theorem rside_x {o : Int32 × Hp} (r0 : ρ x0 = 8) (rp : ρ p = 4) (e : sX7_readSide h x0 p = some o) : PxR ρ n m h o.2 := by
  have b38 : ∀ {t : Int32} {o : Int32 × Hp}, sX7_readSide_38 h x0 t p = some o → PxR ρ n m h o.2 := fun {t o} e => by
    unfold sX7_readSide_38 at e
    replace e := nm_s e
    obtain ⟨h1, w1, e⟩ := e
    replace e := nm_s e
    obtain ⟨h2, w2, e⟩ := e
    rw [← Option.some.inj e]
    have k1 : PxR ρ n m h h1 := by rw [w1]; exact pr_I (by rw [rp]; rfl) (by rw [rp]; decide)
    have k2 : PxR ρ n m h1 h2 := by rw [w2]; exact at_x r0
    exact pr_t k1 k2
  unfold sX7_readSide sX7_readSide_26 at e
  replace e := cl_s e
  obtain ⟨_, _, e⟩ := e
  replace e := cl_s e
  obtain ⟨o2, e2, e⟩ := e
  rw [byt_h e2] at e
  replace e := br_s e
  rcases e with ⟨_, e⟩ | ⟨_, e⟩
  · replace e := br_s e
    rcases e with ⟨_, e⟩ | ⟨_, e⟩
    · exact b38 e
    · exact b38 e
  replace e := br_s e
  rcases e with ⟨_, e⟩ | ⟨_, e⟩
  · replace e := br_s e
    rcases e with ⟨_, e⟩ | ⟨_, e⟩
    · exact b38 e
    · exact b38 e
  · rw [← Option.some.inj e]; exact pr_0
theorem rsq_x {o : Int32 × Hp} (r0 : ρ x0 = 8) (e : sX7_readSquare h x0 = some o) : PxR ρ n m h o.2 := by
  unfold sX7_readSquare sX7_readSquare_30 sX7_readSquare_72 at e
  replace e := cl_s e
  obtain ⟨_, _, e⟩ := e
  replace e := cl_s e
  obtain ⟨o2, e2, e⟩ := e
  rw [byt_h e2] at e
  replace e := nm_s e
  obtain ⟨_, _, e⟩ := e
  replace e := br_s e
  rcases e with ⟨_, e⟩ | ⟨_, e⟩
  · rw [← Option.some.inj e]; exact pr_0
  replace e := cl_s e
  obtain ⟨_, _, e⟩ := e
  replace e := br_s e
  rcases e with ⟨_, e⟩ | ⟨_, e⟩
  · replace e := nm_s e
    obtain ⟨h7, w7, e⟩ := e
    have k7 : PxR ρ n m h h7 := by rw [w7]; exact at_x r0
    replace e := cl_s e
    obtain ⟨_, _, e⟩ := e
    replace e := cl_s e
    obtain ⟨o9, e9, e⟩ := e
    rw [byt_h e9] at e
    replace e := nm_s e
    obtain ⟨_, _, e⟩ := e
    replace e := br_s e
    rcases e with ⟨_, e⟩ | ⟨_, e⟩
    · rw [← Option.some.inj e]; exact k7
    replace e := cl_s e
    obtain ⟨_, _, e⟩ := e
    replace e := br_s e
    rcases e with ⟨_, e⟩ | ⟨_, e⟩
    · replace e := nm_s e
      obtain ⟨h14, w14, e⟩ := e
      have k14 : PxR ρ n m h7 h14 := by rw [w14]; exact at_x r0
      replace e := cl_s e
      obtain ⟨_, _, e⟩ := e
      rw [← Option.some.inj e]
      exact pr_t k7 k14
    · rw [← Option.some.inj e]; exact k7
  · rw [← Option.some.inj e]; exact pr_0
theorem rri_15 (r0 : ρ x0 = 8) : ∀ (f : Nat) {h : Hp} {o : Int32 × Hp} {x2 x3 : Int32}, sX7_readRights_15 F f h x0 p x2 x3 = some o → PxR ρ n m h o.2 := by
  intro f
  induction f with
  | zero => intro h o x2 x3 e; exact absurd e (by rw [sX7_readRights_15]; exact fun z => nomatch z)
  | succ f ih =>
    intro h o x2 x3 e
    rw [sX7_readRights_15] at e
    unfold sX7_readRights_97 at e
    have b41 : sX7_readRights_41 F (sX7_readRights_15 F f) h x0 p x2 x3 = some o → PxR ρ n m h o.2 := fun e => by
      unfold sX7_readRights_41 at e
      replace e := nm_s e
      obtain ⟨v1, _, e⟩ := e
      replace e := cl_s e
      obtain ⟨o2, e2, e⟩ := e
      have k2 : PxR ρ n m h o2.2 := rsq_x r0 e2
      replace e := br_s e
      rcases e with ⟨_, e⟩ | ⟨_, e⟩
      · rw [← Option.some.inj e]; exact k2
      replace e := br_s e
      rcases e with ⟨_, e⟩ | ⟨_, e⟩
      · replace e := nm_s e
        obtain ⟨h5, w5, e⟩ := e
        have k5 : PxR ρ n m o2.2 h5 := by rw [w5]; exact pr_J
        replace e := nm_s e
        obtain ⟨_, _, e⟩ := e
        exact pr_t k2 (pr_t k5 (ih e))
      · replace e := nm_s e
        obtain ⟨h7, w7, e⟩ := e
        have k7 : PxR ρ n m o2.2 h7 := by rw [w7]; exact at_x r0
        rw [← Option.some.inj e]
        exact pr_t k2 k7
    replace e := br_s e
    rcases e with ⟨_, e⟩ | ⟨_, e⟩
    · rw [← Option.some.inj e]; exact pr_0
    replace e := br_s e
    rcases e with ⟨_, e⟩ | ⟨_, e⟩
    · exact b41 e
    replace e := cl_s e
    obtain ⟨_, _, e⟩ := e
    replace e := cl_s e
    obtain ⟨o4, e4, e⟩ := e
    rw [byt_h e4] at e
    replace e := br_s e
    rcases e with ⟨_, e⟩ | ⟨_, e⟩
    · rw [← Option.some.inj e]; exact pr_0
    · exact b41 e
theorem rrights_x {o : Int32 × Hp} (r0 : ρ x0 = 8) (e : sX7_readRights F h x0 p = some o) : PxR ρ n m h o.2 := by
  unfold sX7_readRights at e
  replace e := cl_s e
  obtain ⟨o1, e1, e⟩ := e
  have k1 : PxR ρ n m h o1.2 := tby_x r0 e1
  replace e := br_s e
  rcases e with ⟨_, e⟩ | ⟨_, e⟩
  · exact pr_t k1 (rri_15 r0 F e)
  · rw [← Option.some.inj e]; exact k1
theorem rpa_13 (r0 : ρ x0 = 8) : ∀ (f : Nat) {h : Hp} {o : Int32 × Hp} {x2 : Int32}, sX7_readPass_13 F f h x0 p x2 = some o → PxR ρ n m h o.2 := by
  intro f
  induction f with
  | zero => intro h o x2 e; exact absurd e (by rw [sX7_readPass_13]; exact fun z => nomatch z)
  | succ f ih =>
    intro h o x2 e
    rw [sX7_readPass_13] at e
    unfold sX7_readPass_64 at e
    have b41 : sX7_readPass_41 F (sX7_readPass_13 F f) h x0 p x2 = some o → PxR ρ n m h o.2 := fun e => by
      unfold sX7_readPass_41 at e
      replace e := cl_s e
      obtain ⟨o1, e1, e⟩ := e
      have k1 : PxR ρ n m h o1.2 := rsq_x r0 e1
      replace e := br_s e
      rcases e with ⟨_, e⟩ | ⟨_, e⟩
      · rw [← Option.some.inj e]; exact k1
      replace e := cl_s e
      obtain ⟨o3, e3, e⟩ := e
      have k3 : PxR ρ n m o1.2 o3 := pr_c (addp_x e3)
      replace e := nm_s e
      obtain ⟨_, _, e⟩ := e
      exact pr_t k1 (pr_t k3 (ih e))
    replace e := br_s e
    rcases e with ⟨_, e⟩ | ⟨_, e⟩
    · rw [← Option.some.inj e]; exact pr_0
    replace e := br_s e
    rcases e with ⟨_, e⟩ | ⟨_, e⟩
    · exact b41 e
    replace e := cl_s e
    obtain ⟨_, _, e⟩ := e
    replace e := cl_s e
    obtain ⟨o4, e4, e⟩ := e
    rw [byt_h e4] at e
    replace e := br_s e
    rcases e with ⟨_, e⟩ | ⟨_, e⟩
    · rw [← Option.some.inj e]; exact pr_0
    · exact b41 e
theorem rpass_x {o : Int32 × Hp} (r0 : ρ x0 = 8) (e : sX7_readPass F h x0 p = some o) : PxR ρ n m h o.2 := by
  unfold sX7_readPass at e
  replace e := cl_s e
  obtain ⟨o1, e1, e⟩ := e
  have k1 : PxR ρ n m h o1.2 := tby_x r0 e1
  replace e := br_s e
  rcases e with ⟨_, e⟩ | ⟨_, e⟩
  · exact pr_t k1 (rpa_13 r0 F e)
  · rw [← Option.some.inj e]; exact k1
theorem rha_13 : ∀ (f : Nat) {h : Hp} {o : Int32 × Hp} {x2 : Int32}, RdP ρ x0 p L n m h → sX7_readHands_13 F f h x0 p x2 = some o → PxR ρ n m h o.2 := by
  intro f
  induction f with
  | zero => intro h o x2 _ e; exact absurd e (by rw [sX7_readHands_13]; exact fun z => nomatch z)
  | succ f ih =>
    intro h o x2 P e
    rw [sX7_readHands_13] at e
    unfold sX7_readHands_107 at e
    have r0 := P.2.2.1
    have b39 : sX7_readHands_39 F (sX7_readHands_13 F f) h x0 p x2 = some o → PxR ρ n m h o.2 := fun e => by
      unfold sX7_readHands_39 sX7_readHands_78 at e
      replace e := cl_s e
      obtain ⟨r1, g1, e⟩ := e
      have y1 : r1 = L := r_eq P.1 g1
      subst y1
      replace e := cl_s e
      obtain ⟨_, _, e⟩ := e
      replace e := cl_s e
      obtain ⟨o3, e3, e⟩ := e
      rw [byt_h e3] at e
      replace e := cl_s e
      obtain ⟨o4, e4, e⟩ := e
      have q4 := (code_q (by rw [P.2.2.2.2.1]; exact P.2.2.2.2.2) e4).1
      rw [q4] at e
      replace e := br_s e
      rcases e with ⟨_, e⟩ | ⟨_, e⟩
      · rw [← Option.some.inj e]; exact pr_0
      replace e := cl_s e
      obtain ⟨o6, e6, e⟩ := e
      rw [inh_h e6] at e
      replace e := br_s e
      rcases e with ⟨_, e⟩ | ⟨_, e⟩
      · replace e := cl_s e
        obtain ⟨o8, e8, e⟩ := e
        have k8 : PxR ρ n m h o8 := pr_c (ath_x e8)
        replace e := nm_s e
        obtain ⟨h9, w9, e⟩ := e
        have k9 : PxR ρ n m o8 h9 := by rw [w9]; exact at_x r0
        have kk := pr_t k8 k9
        replace e := nm_s e
        obtain ⟨_, _, e⟩ := e
        exact pr_t kk (ih (rdp_k kk P) e)
      · rw [← Option.some.inj e]; exact pr_0
    replace e := br_s e
    rcases e with ⟨_, e⟩ | ⟨_, e⟩
    · rw [← Option.some.inj e]; exact pr_0
    replace e := br_s e
    rcases e with ⟨_, e⟩ | ⟨_, e⟩
    · exact b39 e
    replace e := cl_s e
    obtain ⟨_, _, e⟩ := e
    replace e := cl_s e
    obtain ⟨o4, e4, e⟩ := e
    rw [byt_h e4] at e
    replace e := br_s e
    rcases e with ⟨_, e⟩ | ⟨_, e⟩
    · rw [← Option.some.inj e]; exact pr_0
    · exact b39 e
theorem rhands_x {o : Int32 × Hp} (P : RdP ρ x0 p L n m h) (e : sX7_readHands F h x0 p = some o) : PxR ρ n m h o.2 := by
  unfold sX7_readHands at e
  replace e := cl_s e
  obtain ⟨o1, e1, e⟩ := e
  have k1 : PxR ρ n m h o1.2 := tby_x P.2.2.1 e1
  replace e := br_s e
  rcases e with ⟨_, e⟩ | ⟨_, e⟩
  · exact pr_t k1 (rha_13 F (rdp_k k1 P) e)
  · rw [← Option.some.inj e]; exact k1
theorem rch_2 (r0 : ρ x0 = 8) : ∀ (f : Nat) {h : Hp} {o : Int32 × Hp} {x2 : Int32}, PR ρ p h → sX7_readChecks_2 F f h x0 p x2 = some o → PxR ρ n m h o.2 := by
  intro f
  induction f with
  | zero => intro h o x2 _ e; exact absurd e (by rw [sX7_readChecks_2]; exact fun z => nomatch z)
  | succ f ih =>
    intro h o x2 P e
    rw [sX7_readChecks_2] at e
    replace e := br_s e
    rcases e with ⟨_, e⟩ | ⟨_, e⟩
    · rw [← Option.some.inj e]; exact pr_0
    replace e := cl_s e
    obtain ⟨_, _, e⟩ := e
    replace e := cl_s e
    obtain ⟨o3, e3, e⟩ := e
    rw [byt_h e3] at e
    replace e := cl_s e
    obtain ⟨o4, e4, e⟩ := e
    rw [dgt_h e4] at e
    replace e := br_s e
    rcases e with ⟨_, e⟩ | ⟨_, e⟩
    · rw [← Option.some.inj e]; exact pr_0
    replace e := cl_s e
    obtain ⟨r6, g6, e⟩ := e
    have q6 := P.2.2.2 r6 g6
    replace e := cl_s e
    obtain ⟨_, _, e⟩ := e
    replace e := cl_s e
    obtain ⟨o8, e8, e⟩ := e
    rw [byt_h e8] at e
    replace e := (gd_s e).2
    replace e := nm_s e
    obtain ⟨h10, w10, e⟩ := e
    have k10 : PxR ρ n m h h10 := by rw [w10]; exact pr_I (by rw [q6]; rfl) (by rw [q6]; decide)
    replace e := nm_s e
    obtain ⟨h11, w11, e⟩ := e
    have k11 : PxR ρ n m h10 h11 := by rw [w11]; exact at_x r0
    have kk := pr_t k10 k11
    replace e := nm_s e
    obtain ⟨_, _, e⟩ := e
    exact pr_t kk (ih (pr_k kk.1 P) e)
theorem rcl_7 (r0 : ρ x0 = 8) (rp : ρ p = 4) : ∀ (f : Nat) {h : Hp} {o : Int32 × Hp} {x3 : Int32}, sX7_readClock_7 F f h x0 p x2 x3 = some o → PxR ρ n m h o.2 := by
  intro f
  induction f with
  | zero => intro h o x3 e; exact absurd e (by rw [sX7_readClock_7]; exact fun z => nomatch z)
  | succ f ih =>
    intro h o x3 e
    rw [sX7_readClock_7] at e
    have b86 : ∀ {g : Hp}, sX7_readClock_86 F g x0 x2 = some o → o.2 = g := fun {g} e => by
      unfold sX7_readClock_86 sX7_readClock_99 at e
      replace e := br_s e
      rcases e with ⟨_, e⟩ | ⟨_, e⟩
      · rw [← Option.some.inj (gd_s e).2]
      · rw [← Option.some.inj (gd_s e).2]
    have b71 : sX7_readClock_71 F h x0 p x2 = some o → PxR ρ n m h o.2 := fun e => by
      unfold sX7_readClock_71 at e
      replace e := br_s e
      rcases e with ⟨_, e⟩ | ⟨_, e⟩
      · rw [b86 e]; exact pr_0
      · replace e := nm_s e
        obtain ⟨h2, w2, e⟩ := e
        rw [b86 e, w2]; exact at_x r0
    replace e := br_s e
    rcases e with ⟨_, e⟩ | ⟨_, e⟩
    · exact b71 e
    replace e := cl_s e
    obtain ⟨_, _, e⟩ := e
    replace e := cl_s e
    obtain ⟨o3, e3, e⟩ := e
    rw [byt_h e3] at e
    replace e := cl_s e
    obtain ⟨o4, e4, e⟩ := e
    rw [dgt_h e4] at e
    replace e := br_s e
    rcases e with ⟨_, e⟩ | ⟨_, e⟩
    · exact b71 e
    replace e := cl_s e
    obtain ⟨_, _, e⟩ := e
    replace e := cl_s e
    obtain ⟨o7, e7, e⟩ := e
    rw [byt_h e7] at e
    replace e := nm_s e
    obtain ⟨h8, w8, e⟩ := e
    have k8 : PxR ρ n m h h8 := by rw [w8]; exact pr_I (by rw [rp]; rfl) (by rw [rp]; decide)
    replace e := nm_s e
    obtain ⟨h9, w9, e⟩ := e
    have k9 : PxR ρ n m h8 h9 := by rw [w9]; exact at_x r0
    replace e := nm_s e
    obtain ⟨_, _, e⟩ := e
    exact pr_t k8 (pr_t k9 (ih e))
/-- a position that is read keeps to the law -/
theorem read_x {o : Int32 × Hp} {tx on : Nat} (hA : pmA c [(8, 1), (8, 2)]) (T : TH ρ c h) (r0 : ρ x0 = 8) (rx : ρ tx = 10) (rp : ρ p = 4) (eL : hR h x0 0 = some L) (B : Bo ρ L n h) (em : (hI h L 3).toInt = m) (m12 : m ≤ 12) (eo : hR h p 0 = some on) (e : sX7_read F h x0 tx p = some o) : PxR ρ n m (wR h x0 1 (some tx)) o.2 ∧ OnX n m on o.2 := by
  have qo := th_on T rp eo
  have np : ¬ p = x0 := ne_r' rp r0 (by decide)
  have rL := B.1
  unfold sX7_read at e
  replace e := nm_s e
  obtain ⟨h1, w1, e⟩ := e
  replace e := nm_s e
  obtain ⟨h2, w2, e⟩ := e
  have T1 : TH ρ (nst c 5) h1 := by rw [w1]; exact th_wR T r0 (k := 8) (i := 1) (j := 5) (k2 := 10) rfl (by decide) rfl (by decide) rx rfl nid_5 (by decide) (by decide) rfl rfl (fun z => absurd rfl z) (pm_a hA rfl)
  have T2 : TH ρ (nst c 5) h2 := by rw [w2]; exact th_wI T1 r0 (k := 8) (lo := 0) (hi := 1201) rfl (rg_m (rg_b rfl : Rg 0 0 (0 : Int32)) (by decide)) (by decide) (by decide) (pm_a hA rfl)
  have k2 : PxR ρ n m h1 h2 := by rw [w2]; exact at_x r0
  have R2 : ∀ a i, ¬ a = x0 → hR h2 a i = hR h a i := fun a i na => by
    rw [w2]
    show hR h1 a i = _
    rw [w1, r_R, if_neg (fun z => na z.1)]
  have I2 : ∀ i, hI h2 L i = hI h L i := fun i => by rw [w2, r_I, if_neg (ne_r rL r0 (by decide)), w1]; rfl
  have eL2 : hR h2 x0 0 = some L := by
    rw [w2]
    show hR h1 x0 0 = _
    rw [w1, r_R, if_neg (fun z => absurd z.2 (by decide))]
    exact eL
  have P2 : RdP ρ x0 p L n m h2 := ⟨eL2, pr_th T2 rp, r0, ⟨rL, by rw [I2]; exact B.2.1, by rw [I2]; exact B.2.2.1, by rw [I2, I2]; exact B.2.2.2⟩, by rw [I2]; exact em, m12⟩
  obtain ⟨ra, era, rra⟩ := thR T2 rp (i := 2) (k2 := 36) rfl (by decide)
  rw [← w1]
  replace e := cl_s e
  obtain ⟨o3, e3, e⟩ := e
  obtain ⟨k3, X3⟩ := clear_x (n := n) (m := m) T2 rp (by rw [R2 p 0 np]; exact eo) era e3
  have P3 := rdp_k k3 P2
  have k13 := pr_t k2 k3
  have fin : ∀ {g : Hp} {t : Int32}, PxR ρ n m o3 g → sX7_read_144 F g x0 t = some o → PxR ρ n m h1 o.2 ∧ OnX n m on o.2 := fun {g t} k e => by
    unfold sX7_read_144 sX7_read_157 at e
    replace e := br_s e
    rcases e with ⟨_, e⟩ | ⟨_, e⟩
    · rw [← Option.some.inj e]; exact ⟨pr_t k13 k, onr_k qo k X3⟩
    · rw [← Option.some.inj e]; exact ⟨pr_t k13 k, onr_k qo k X3⟩
  unfold sX7_read_143 at e
  have kk : PxR ρ n m o3 o3 := pr_0
  replace e := cl_s e
  obtain ⟨o4, e4, e⟩ := e
  have j : PxR ρ n m o3 o4.2 := rranks_x (rdp_k kk P3) e4
  replace kk := pr_t kk j
  clear j
  replace e := br_s e
  rcases e with ⟨_, e⟩ | ⟨_, e⟩
  · exact fin kk e
  replace e := cl_s e
  obtain ⟨o6, e6, e⟩ := e
  have j : PxR ρ n m o4.2 o6.2 := tby_x r0 e6
  replace kk := pr_t kk j
  clear j
  replace e := br_s e
  rcases e with ⟨_, e⟩ | ⟨_, e⟩
  · exact fin kk e
  replace e := cl_s e
  obtain ⟨o8, e8, e⟩ := e
  have j : PxR ρ n m o6.2 o8.2 := rside_x r0 rp e8
  replace kk := pr_t kk j
  clear j
  replace e := br_s e
  rcases e with ⟨_, e⟩ | ⟨_, e⟩
  · exact fin kk e
  replace e := cl_s e
  obtain ⟨o10, e10, e⟩ := e
  have j : PxR ρ n m o8.2 o10.2 := tby_x r0 e10
  replace kk := pr_t kk j
  clear j
  replace e := br_s e
  rcases e with ⟨_, e⟩ | ⟨_, e⟩
  · exact fin kk e
  replace e := cl_s e
  obtain ⟨o12, e12, e⟩ := e
  have j : PxR ρ n m o10.2 o12.2 := rrights_x r0 e12
  replace kk := pr_t kk j
  clear j
  replace e := br_s e
  rcases e with ⟨_, e⟩ | ⟨_, e⟩
  · exact fin kk e
  replace e := cl_s e
  obtain ⟨o14, e14, e⟩ := e
  have j : PxR ρ n m o12.2 o14.2 := tby_x r0 e14
  replace kk := pr_t kk j
  clear j
  replace e := br_s e
  rcases e with ⟨_, e⟩ | ⟨_, e⟩
  · exact fin kk e
  replace e := cl_s e
  obtain ⟨o16, e16, e⟩ := e
  have j : PxR ρ n m o14.2 o16.2 := rpass_x r0 e16
  replace kk := pr_t kk j
  clear j
  replace e := br_s e
  rcases e with ⟨_, e⟩ | ⟨_, e⟩
  · exact fin kk e
  replace e := cl_s e
  obtain ⟨o18, e18, e⟩ := e
  have j : PxR ρ n m o16.2 o18.2 := tby_x r0 e18
  replace kk := pr_t kk j
  clear j
  replace e := br_s e
  rcases e with ⟨_, e⟩ | ⟨_, e⟩
  · exact fin kk e
  replace e := cl_s e
  obtain ⟨o20, e20, e⟩ := e
  have j : PxR ρ n m o18.2 o20.2 := rhands_x (rdp_k kk P3) e20
  replace kk := pr_t kk j
  clear j
  replace e := br_s e
  rcases e with ⟨_, e⟩ | ⟨_, e⟩
  · exact fin kk e
  replace e := cl_s e
  obtain ⟨o22, e22, e⟩ := e
  have j : PxR ρ n m o20.2 o22.2 := tby_x r0 e22
  replace kk := pr_t kk j
  clear j
  replace e := br_s e
  rcases e with ⟨_, e⟩ | ⟨_, e⟩
  · exact fin kk e
  replace e := cl_s e
  obtain ⟨o24, e24, e⟩ := e
  have j : PxR ρ n m o22.2 o24.2 := by
    unfold sX7_readChecks at e24
    exact rch_2 r0 F (pr_k kk.1 P3.2.1) e24
  replace kk := pr_t kk j
  clear j
  replace e := br_s e
  rcases e with ⟨_, e⟩ | ⟨_, e⟩
  · exact fin kk e
  replace e := cl_s e
  obtain ⟨o26, e26, e⟩ := e
  have j : PxR ρ n m o24.2 o26.2 := tby_x r0 e26
  replace kk := pr_t kk j
  clear j
  replace e := br_s e
  rcases e with ⟨_, e⟩ | ⟨_, e⟩
  · exact fin kk e
  replace e := cl_s e
  obtain ⟨o28, e28, e⟩ := e
  have j : PxR ρ n m o26.2 o28.2 := by
    unfold sX7_readClock at e28
    replace e28 := nm_s e28
    obtain ⟨_, _, e28⟩ := e28
    exact rcl_7 r0 rp F e28
  replace kk := pr_t kk j
  clear j
  replace e := br_s e
  rcases e with ⟨_, e⟩ | ⟨_, e⟩
  · exact fin kk e
  replace e := cl_s e
  obtain ⟨_, _, e⟩ := e
  replace e := cl_s e
  obtain ⟨o31, e31, e⟩ := e
  rw [byt_h e31] at e
  replace e := br_s e
  rcases e with ⟨_, e⟩ | ⟨_, e⟩
  · exact fin kk e
  · exact fin kk e
end
end
section
/-! position: places keep to the law -/
def SqA (ρ : Nat → Nat) (c : Cm) (h : Hp) : Prop := ∀ L, ρ L = 2 → cw c L = 2102 → (hI h L 0).toInt * (hI h L 1).toInt = (hI h L 2).toInt
section
variable {ρ : Nat → Nat} {c : Cm} {h o g : Hp} {x0 p q b L F : Nat} {n m : Int} {x1 x2 x3 : Int32}
theorem plx_flag {u : Nat} {i0 : Nat} {v : Int32} (T : TH ρ c h) (r0 : ρ x0 = 12) (eu : hR h x0 14 = some u) (P : ∀ r, hR h x0 13 = some r → ∀ i, i < 60 → (¬ i = i0 → ¬ hI h u i = 0) → ∀ b, hR h r i = some b → PoX ρ c b h) : PlX ρ c x0 (wI h u i0 v) := fun r u' er eu' i hi nu b eb => by
  have er' : hR h x0 13 = some r := er
  have eu'' : hR h x0 14 = some u' := eu'
  have eb' : hR h r i = some b := eb
  have y : u' = u := r_eq eu eu''
  subst y
  have ru : ρ u' = 58 := rr T (thR T r0 (i := 14) (k2 := 58) rfl (by decide)) eu
  have rr' : ρ r = 57 := rr T (thR T r0 (i := 13) (k2 := 57) rfl (by decide)) er'
  have A := P r er' i hi (fun ni z => nu (by rw [r_I, if_neg (fun w => ni w.2)]; exact z)) b eb'
  have rb := pl_b T rr' hi eb'
  intro L on s rL wL eo hs z
  have eo' : hR h b 0 = some on := eo
  have qo := th_on T rb eo'
  have kon : hI (wI h u' i0 v) on s = hI h on s := by rw [r_I, if_neg (ne_r qo ru (by decide))]
  have kL : ∀ j, hI (wI h u' i0 v) L j = hI h L j := fun j => by rw [r_I, if_neg (ne_r rL ru (by decide))]
  rw [kon] at z
  rw [kL, kL, kon]
  exact A L on s rL wL eo' hs z
theorem plx_clear (hF : 700000 ≤ F) {y : Int32} {o : Int32 × Hp} (hO : pmO c 2100 [(10, 1)]) (T : TH ρ c h) (r0 : ρ x0 = 12) (P : PlX ρ c x0 h) (e : sX11_position_104 F h x0 y = some o) : PlX ρ c x0 o.2 := by
  unfold sX11_position_104 at e
  replace e := cl_s e
  obtain ⟨t, et, e⟩ := e
  have rt : ρ t = 10 := rr T (thR T r0 (i := 0) (k2 := 10) rfl (by decide)) et
  have wt : cw c t = 2100 := kid_w T r0 (i := 0) rfl (by decide) et
  replace e := cl_s e
  obtain ⟨o2, e2, e⟩ := e
  have Z := sat_e (zX9_clear hF (c := cat c (fS [] [(2100, [(10, 1)])]) h) (by rw [show cw (cat c (fS [] [(2100, [(10, 1)])]) h) t = 2100 from wt]; exact fs_o (.head _)) (th_in _ T) rt) e2
  have f2 := fr_u T Z.2.2
  rw [← Option.some.inj e]
  exact plx_fr T r0 f2 (fun _ => rfl) (fun _ => rfl) (fun _ _ => rfl) (fun _ _ => rfl) rfl (fun _ => rfl) (fun _ => rfl) (fun _ => rfl) P
theorem position_x (hF : 700000 ≤ F) (h8 : pmA c [(8, 1), (8, 2), (58, 999)]) (h32 : pmO c 3200 SHL) (hO : pmO c 2100 [(10, 1)]) (T : TH ρ c h) (r0 : ρ x0 = 12) (lw : LwR ρ c h) (sq : SqA ρ c h) (P : PlX ρ c x0 h) {o : Int32 × Hp} (e : sX11_position F h x0 = some o) : PlX ρ c x0 o.2 := by
  obtain ⟨L, eL, rL⟩ := thR T r0 (i := 2) (k2 := 2) rfl (by decide)
  have wL : cw c L = 2102 := kid_w T r0 (i := 2) (w := 2102) rfl (by decide) eL
  unfold sX11_position at e
  replace e := cl_s e
  obtain ⟨o1, e1, e⟩ := e
  have Z1 := sat_e (zX11_freePlace hF T r0) e1
  rw [Z1.1] at e
  replace e := br_s e
  rcases e with ⟨_, e⟩ | ⟨n1, e⟩
  · exact plx_clear hF hO T r0 P e
  have ip : Rg 0 59 o1.1 := rg_nlo n1 Z1.2 (rg_b rfl : Rg (-1) (-1) (-1 : Int32))
  have l60 : o1.1.toNatClampNeg < 60 := by have := rg_clamp (n := 59) ip (by decide); omega
  replace e := cl_s e
  obtain ⟨r, er, e⟩ := e
  have rr' : ρ r = 57 := rr T (thR T r0 (i := 13) (k2 := 57) rfl (by decide)) er
  replace e := (gd_s e).2
  replace e := cl_s e
  obtain ⟨d, ed, e⟩ := e
  have rd := pl_b T rr' l60 ed
  have wd : cw c d = 3200 := kid_w T rr' (i := o1.1.toNatClampNeg) rfl (by decide) ed
  obtain ⟨ond, eod, qod⟩ := thR T rd (i := 0) (k2 := 34) rfl (by decide)
  replace e := cl_s e
  obtain ⟨sc, esc, e⟩ := e
  have rsc : ρ sc = 8 := rr T (thR T r0 (i := 7) (k2 := 8) rfl (by decide)) esc
  replace e := cl_s e
  obtain ⟨t, et, e⟩ := e
  have rt : ρ t = 10 := rr T (thR T r0 (i := 0) (k2 := 10) rfl (by decide)) et
  replace e := cl_s e
  obtain ⟨o8, e8, e⟩ := e
  obtain ⟨L8, eL8, rL8⟩ := thR T rsc (i := 0) (k2 := 2) rfl (by decide)
  have wL8 : cw c L8 = 2102 := kid_w T rsc (i := 0) (w := 2102) rfl (by decide) eL8
  have yL : L8 = L := law_1 T rL wL rL8 wL8
  subst yL
  have h8' : pmA c [(8, 1), (8, 2)] := pmA_s h8 rfl
  have Z8 := sat_e (zX7_read hF h8' (pmO_s h32 rfl) rfl wd T rsc rt rd lw) e8
  have T8 := Z8.1.1
  obtain ⟨k8, X8⟩ := read_x (n := (hI h L8 2).toInt) (m := (hI h L8 3).toInt) h8' T rsc rt rd eL8 ⟨rL, thI T rL (k := 2) (i := 0) rfl, thI T rL (k := 2) (i := 1) rfl, sq L8 rL wL⟩ rfl (thI T rL (k := 2) (i := 3) (lo := 0) (hi := 12) rfl).2 eod e8
  have R8 : ∀ a i, ¬ a = sc → hR o8.2 a i = hR h a i := fun a i na => by
    rw [k8.1, r_R, if_neg (fun z => na z.1)]
  have I8 : ∀ a i, kr (ρ a) = false → hI o8.2 a i = hI h a i := fun a i na => k8.2.1 a i na
  have nsc : ∀ {a k : Nat}, ρ a = k → k ≠ 8 → ¬ a = sc := fun {a k} ra hk z => hk (by rw [← ra, z]; exact rsc)
  have er8 : hR o8.2 x0 13 = some r := by rw [R8 x0 13 (nsc r0 (by decide))]; exact er
  have iL : ∀ j, hI o8.2 L8 j = hI h L8 j := fun j => I8 L8 j (by rw [rL]; rfl)
  -- all places that were used, and the one that is read
  have all : ∀ u, hR o8.2 x0 14 = some u → ∀ r', hR o8.2 x0 13 = some r' → ∀ i, i < 60 → (¬ i = o1.1.toNatClampNeg → ¬ hI o8.2 u i = 0) → ∀ b, hR o8.2 r' i = some b → PoX ρ c b o8.2 := fun u eu r' er' i hi nu b eb => by
    have y1 : r' = r := r_eq er8 er'
    subst y1
    rw [R8 x0 14 (nsc r0 (by decide))] at eu
    have ru : ρ u = 58 := rr T (thR T r0 (i := 14) (k2 := 58) rfl (by decide)) eu
    rw [R8 r' i (nsc rr' (by decide))] at eb
    have rb := pl_b T rr' hi eb
    refine pox_of T8 rL wL (fun on eo => ?_)
    rw [R8 b 0 (nsc rb (by decide))] at eo
    have qo := th_on T rb eo
    rw [iL, iL]
    by_cases v : i = o1.1.toNatClampNeg
    · rw [v] at eb
      have y4 : b = d := r_eq ed eb
      subst y4
      have y5 : on = ond := r_eq eod eo
      subst y5
      exact X8
    · have nu' : ¬ hI h u i = 0 := fun w => nu v (by rw [I8 u i (by rw [ru]; rfl)]; exact w)
      have A := P r' u er eu i hi nu' b eb
      exact onr_k qo k8 (fun s hs z => A L8 on s rL wL eo hs z)
  have b75 : ∀ {x4 x5 t0 : Int32} {u : Nat}, hR o8.2 x0 14 = some u → sX11_position_75 F o8.2 x0 o1.1 x4 x5 t0 o1.1 u = some o → PlX ρ c x0 o.2 := fun {x4 x5 t0 u} eu e => by
    have ru : ρ u = 58 := rr T8 (thR T8 r0 (i := 14) (k2 := 58) rfl (by decide)) eu
    unfold sX11_position_75 sX11_position_103 at e
    replace e := (gd_s e).2
    replace e := nm_s e
    obtain ⟨h2, w2, e⟩ := e
    have T2 : TH ρ c h2 := by rw [w2]; exact th_wI T8 ru (k := 58) (lo := 0) (hi := 1) rfl (rg_narz _) (by decide) (by decide) (pm_a h8 rfl)
    have P2 : PlX ρ c x0 h2 := by rw [w2]; exact plx_flag T8 r0 eu (all u eu)
    replace e := br_s e
    rcases e with ⟨_, e⟩ | ⟨_, e⟩
    · replace e := br_s e
      rcases e with ⟨_, e⟩ | ⟨_, e⟩
      · exact plx_clear hF hO T2 r0 P2 e
      · exact plx_clear hF hO T2 r0 P2 e
    · exact plx_clear hF hO T2 r0 P2 e
  have b52 : ∀ {x4 t0 : Int32}, sX11_position_52 F o8.2 x0 o1.1 x4 t0 = some o → PlX ρ c x0 o.2 := fun {x4 t0} e => by
    unfold sX11_position_52 sX11_position_74 at e
    replace e := cl_s e
    obtain ⟨u, eu, e⟩ := e
    replace e := br_s e
    rcases e with ⟨_, e⟩ | ⟨_, e⟩
    · replace e := br_s e
      rcases e with ⟨_, e⟩ | ⟨_, e⟩
      · exact b75 eu e
      · exact b75 eu e
    · exact b75 eu e
  replace e := br_s e
  rcases e with ⟨_, e⟩ | ⟨_, e⟩
  · replace e := cl_s e
    obtain ⟨r10, g10, e⟩ := e
    have q10 : ρ r10 = 6 := rr T8 (thR T8 r0 (i := 6) (k2 := 6) rfl (by decide)) g10
    replace e := cl_s e
    obtain ⟨o11, e11, e⟩ := e
    have q11 := (sat_e (zX5_faultOf hF T8 q10 rd (Or.inr Z8.2.2.1)) e11).1
    rw [q11] at e
    exact b52 e
  · exact b52 e
end
end
section
/-! lay: ways come from squares of the law -/
section
variable {ρ : Nat → Nat} {c : Cm} {h o : Hp} {x0 L F : Nat}
theorem lay_fx (hF : 700000 ≤ F) (T : TH ρ c h) (r0 : ρ x0 = 11) (rL : ρ L = 2) (e : sX10_lay F h x0 L = some o) : FmX x0 (hI h L 2).toInt o := by
  unfold sX10_lay at e
  replace e := cl_s e
  obtain ⟨r3, e3, e⟩ := e
  replace e := cl_s e
  obtain ⟨o4, e4, e⟩ := e
  replace e := cl_s e
  obtain ⟨r5, e5, e⟩ := e
  replace e := cl_s e
  obtain ⟨o6, e6, e⟩ := e
  have w0 : WR ρ x0 (wI (wR h x0 7 (some L)) x0 8 (0 : Int32)) := fun k r hk er => by
    have er' : (if x0 = x0 ∧ k = 7 then some L else hR h x0 k) = some r := by rw [← r_R]; exact er
    by_cases z : k = 7
    · rw [if_pos ⟨rfl, z⟩] at er'
      rw [← Option.some.inj er', z]; exact rL
    · rw [if_neg (fun y => z y.2)] at er'
      have q : ∀ j m, rfK 11 j = m → m ≠ 0 → hR h x0 j = some r → ρ r = m := fun j m h1 h2 h3 => by
        obtain ⟨q1, f1, g1⟩ := thR T r0 (i := j) (k2 := m) h1 h2
        rw [r_eq f1 h3]; exact g1
      have hk7 : k < 7 := by omega
      match k, hk7, er' with
      | 0, _, er' => exact q 0 50 rfl (by decide) er'
      | 1, _, er' => exact q 1 51 rfl (by decide) er'
      | 2, _, er' => exact q 2 52 rfl (by decide) er'
      | 3, _, er' => exact q 3 53 rfl (by decide) er'
      | 4, _, er' => exact q 4 54 rfl (by decide) er'
      | 5, _, er' => exact q 5 55 rfl (by decide) er'
      | 6, _, er' => exact q 6 56 rfl (by decide) er'
  have q3 : ρ r3 = 53 := w0 3 r3 (by decide) e3
  have n3 : hN (wI (wR h x0 7 (some L)) x0 8 (0 : Int32)) r3 = 1536 := thN T q3 (k := 53) (n := 1536) rfl (by decide)
  unfold sJ7_fill_d0a16 at e4 e6
  have e4' : sJ7_fill_d0a16_6 F F (wI (wR h x0 7 (some L)) x0 8 (0 : Int32)) r3 (0 : Int64) (0 : Int32) (nI 1536) = some o4 := by rw [← n3]; exact e4
  obtain ⟨⟨g4, m4⟩, i4⟩ := fJ F e4'
  obtain ⟨_, _, v4⟩ := fJv (by decide) F (by decide) e4'
  have q5 : ρ r5 = 54 := w0 4 r5 (by decide) (by rw [g4] at e5; exact e5)
  have n5 : hN o4 r5 = 1536 := by rw [m4]; exact thN T q5 (k := 54) (n := 1536) rfl (by decide)
  have e6' : sJ7_fill_d0a16_6 F F o4 r5 (0 : Int64) (0 : Int32) (nI 1536) = some o6 := by rw [← n5]; exact e6
  obtain ⟨⟨g6, m6⟩, i6⟩ := fJ F e6'
  obtain ⟨u6, _, _⟩ := fJv (by decide) F (by decide) e6'
  have k6 : ∀ a i, hR o6 a i = hR (wI (wR h x0 7 (some L)) x0 8 (0 : Int32)) a i := fun a i => by rw [g6, g4]
  have w6 : WR ρ x0 o6 := fun k r hk er => w0 k r hk (by rw [← k6]; exact er)
  have e36 : hR o6 x0 3 = some r3 := by rw [k6]; exact e3
  have e76 : hR o6 x0 7 = some L := by
    rw [k6]
    show hR (wR h x0 7 (some L)) x0 7 = some L
    rw [r_R, if_pos ⟨rfl, rfl⟩]
  have nL : hI o6 L 2 = hI h L 2 := by
    rw [i6, i4, r_I, if_neg (ne_r rL r0 (by decide))]; rfl
  obtain ⟨k7, b7⟩ := lay_28 (n := hI h L 2) r0 rL F w6 e36 e76 nL e
  intro r er i hi s hs hb
  rw [k7.1, e36] at er
  have yy : r = r3 := (Option.some.inj er).symm
  subst yy
  rcases b7 i s hb with z | z
  · have n35 : ¬ r = r5 := fun y => by rw [y, q5] at q3; exact absurd q3 (by decide)
    rw [u6 r i n35, v4 i (by show (0 : Int) ≤ _; omega) hi, bj_zero] at z
    exact absurd z (by decide)
  · exact z
end
end
section
/-! a board has files times ranks squares -/
section
variable {ρ : Nat → Nat} {c : Cm} {h o g : Hp} {x0 F : Nat} {Fi Ra x3 : Int32}
def BSt (x0 : Nat) (Fi Ra : Int32) (h : Hp) : Prop := hI h x0 0 = Fi ∧ hI h x0 1 = Ra ∧ (∀ r, hR h x0 19 = some r → ¬ r = x0) ∧ ∀ r, hR h x0 20 = some r → ¬ r = x0
def BEn (x0 : Nat) (Fi Ra : Int32) (h : Hp) : Prop := hI h x0 0 = Fi ∧ hI h x0 1 = Ra ∧ (hI h x0 2).toInt = Fi.toInt * Ra.toInt
theorem sbq_28 {K : Hp → Nat → Int32 → Option Hp} (iF : Rg 0 8 Fi) (iR : Rg 0 8 Ra) (a3 : 0 ≤ x3.toInt) (l3 : x3.toInt < Ra.toInt) (R : ∀ {h o : Hp} {v : Int32}, BSt x0 Fi Ra h → (hI h x0 2).toInt = (x3.toInt + 1) * Fi.toInt → v.toInt = x3.toInt + 1 → K h x0 v = some o → BEn x0 Fi Ra o) : ∀ (f : Nat) {h o : Hp} {x4 : Int32}, BSt x0 Fi Ra h → 0 ≤ x4.toInt → x4.toInt ≤ Fi.toInt → (hI h x0 2).toInt = x3.toInt * Fi.toInt + x4.toInt → sX1_setBoard_28 F K f h x0 x3 x4 = some o → BEn x0 Fi Ra o := by
  have f0 := iF.1
  have f8 := iF.2
  have r8 := iR.2
  have m1 : (x3.toInt + 1) * Fi.toInt ≤ Ra.toInt * Fi.toInt := Int.mul_le_mul_of_nonneg_right (by omega) f0
  have m2 : Ra.toInt * Fi.toInt ≤ 8 * 8 := Int.mul_le_mul r8 f8 f0 (by decide)
  have m3 : 0 ≤ x3.toInt * Fi.toInt := Int.mul_nonneg a3 f0
  have m4 : (x3.toInt + 1) * Fi.toInt = x3.toInt * Fi.toInt + Fi.toInt := by rw [Int.add_mul, Int.one_mul]
  have z64 : (64 : Int32).toInt = 64 := rfl
  have z1 : (1 : Int32).toInt = 1 := rfl
  intro f
  induction f with
  | zero => intro h o x4 _ _ _ _ e; exact absurd e (by rw [sX1_setBoard_28]; exact fun z => nomatch z)
  | succ f ih =>
    intro h o x4 S a4 b4 e2 e
    rw [sX1_setBoard_28] at e
    unfold sX1_setBoard_83 at e
    have S' := S
    obtain ⟨s0, s1, s19, s20⟩ := S
    have t3 : (x3 + (1 : Int32)).toInt = x3.toInt + 1 := by rw [ta (by rw [z1]; omega), z1]
    replace e := br_s e
    rcases e with ⟨l, e⟩ | ⟨l, e⟩
    · have l := le_i l
      rw [s0] at l
      replace e := nm_s e
      obtain ⟨v, w, e⟩ := e
      have tv : v.toInt = x3.toInt + 1 := by rw [w]; exact t3
      clear w
      exact R S' (by omega) tv e
    have l := nle_i l
    rw [s0] at l
    replace e := br_s e
    rcases e with ⟨q, e⟩ | ⟨_, e⟩
    · have q := le_i q
      rw [z64] at q
      omega
    replace e := cl_s e
    obtain ⟨r3, g3, e⟩ := e
    have n3 := s19 r3 g3
    replace e := (gd_s e).2
    replace e := nm_s e
    obtain ⟨h5, w5, e⟩ := e
    have k5 : ∀ i, hI h5 x0 i = hI h x0 i := fun i => by rw [w5, r_I, if_neg (fun z => n3 z.1.symm)]
    replace e := cl_s e
    obtain ⟨r6, g6, e⟩ := e
    have n6 := s20 r6 (by rw [w5] at g6; exact g6)
    replace e := (gd_s e).2
    replace e := nm_s e
    obtain ⟨h8, w8, e⟩ := e
    have k8 : ∀ i, hI h8 x0 i = hI h x0 i := fun i => by rw [w8, r_I, if_neg (fun z => n6 z.1.symm)]; exact k5 i
    replace e := nm_s e
    obtain ⟨h9, w9, e⟩ := e
    have R9 : ∀ a i, hR h9 a i = hR h a i := fun a i => by rw [w9, w8, w5]; rfl
    have k9 : ∀ i, ¬ i = 2 → hI h9 x0 i = hI h x0 i := fun i ni => by rw [w9, r_I, if_neg (fun z => ni z.2)]; exact k8 i
    have e9 : (hI h9 x0 2).toInt = (hI h x0 2).toInt + 1 := by rw [w9, r_I, if_pos ⟨rfl, rfl⟩, k8, ta (by rw [z1]; omega), z1]
    replace e := nm_s e
    obtain ⟨v10, w10, e⟩ := e
    have t10 : v10.toInt = x4.toInt + 1 := by rw [w10, ta (by rw [z1]; omega), z1]
    clear w10
    exact ih ⟨by rw [k9 0 (by decide)]; exact s0, by rw [k9 1 (by decide)]; exact s1, fun r er => s19 r (by rw [← R9]; exact er), fun r er => s20 r (by rw [← R9]; exact er)⟩ (by omega) (by omega) (by omega) e
theorem sbq_17 (iF : Rg 0 8 Fi) (iR : Rg 0 8 Ra) : ∀ (f : Nat) {h o : Hp} {x3 : Int32}, BSt x0 Fi Ra h → 0 ≤ x3.toInt → x3.toInt ≤ Ra.toInt → (hI h x0 2).toInt = x3.toInt * Fi.toInt → sX1_setBoard_17 F f h x0 x3 = some o → BEn x0 Fi Ra o := by
  intro f
  induction f with
  | zero => intro h o x3 _ _ _ _ e; exact absurd e (by rw [sX1_setBoard_17]; exact fun z => nomatch z)
  | succ f ih =>
    intro h o x3 S a3 b3 e2 e
    rw [sX1_setBoard_17] at e
    replace e := br_s e
    rcases e with ⟨l, e⟩ | ⟨l, e⟩
    · have l := le_i l
      rw [S.2.1] at l
      have q : x3.toInt = Ra.toInt := by omega
      rw [← Option.some.inj e]
      refine ⟨S.1, S.2.1, ?_⟩
      rw [e2, q, Int.mul_comm]
    have l := nle_i l
    rw [S.2.1] at l
    have z0 : (0 : Int32).toInt = 0 := rfl
    exact sbq_28 iF iR a3 l (fun {h2 o2 v} S2 e22 ev ee => ih S2 (by omega) (by omega) (by rw [ev]; exact e22) ee) F S (by decide) (by rw [z0]; exact iF.1) (by rw [z0]; omega) e
/-- behind setBoard: files times ranks squares -/
theorem setB_x {x1 x2 : Int32} (T : TH ρ c h) (r0 : ρ x0 = 2) (iF : Rg 0 8 x1) (iR : Rg 0 8 x2) (e : sX1_setBoard F h x0 x1 x2 = some o) : (hI o x0 0).toInt * (hI o x0 1).toInt = (hI o x0 2).toInt := by
  unfold sX1_setBoard at e
  replace e := nm_s e
  obtain ⟨h1, w1, e⟩ := e
  replace e := nm_s e
  obtain ⟨h2, w2, e⟩ := e
  replace e := nm_s e
  obtain ⟨h3, w3, e⟩ := e
  have R3 : ∀ a i, hR h3 a i = hR h a i := fun a i => by rw [w3, w2, w1]; rfl
  have S : BSt x0 x1 x2 h3 := by
    refine ⟨?_, ?_, fun r er z => ?_, fun r er z => ?_⟩
    · rw [w3, r_I, if_neg (fun z => absurd z.2 (by decide)), w2, r_I, if_neg (fun z => absurd z.2 (by decide)), w1, r_I, if_pos ⟨rfl, rfl⟩]
    · rw [w3, r_I, if_neg (fun z => absurd z.2 (by decide)), w2, r_I, if_pos ⟨rfl, rfl⟩]
    · rw [R3] at er
      have := rr T (thR T r0 (i := 19) (k2 := 32) rfl (by decide)) er
      rw [z, r0] at this
      exact absurd this (by decide)
    · rw [R3] at er
      have := rr T (thR T r0 (i := 20) (k2 := 33) rfl (by decide)) er
      rw [z, r0] at this
      exact absurd this (by decide)
  have z0 : (0 : Int32).toInt = 0 := rfl
  obtain ⟨q0, q1, q2⟩ := sbq_17 iF iR F S (by decide) (by rw [z0]; exact iR.1) (by rw [w3, r_I, if_pos ⟨rfl, rfl⟩, z0, Int.zero_mul]) e
  rw [q0, q1, q2]
end
end
