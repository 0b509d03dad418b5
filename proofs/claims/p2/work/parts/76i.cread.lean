/-! what is read keeps to the law -/
/-- men that are changed keep to the law; laws, flags and lists stay -/
def kr (k : Nat) : Bool := k == 34 || k == 36 || k == 4 || k == 38 || k == 8
def PxR (ρ : Nat → Nat) (n m : Int) (h o : Hp) : Prop := (∀ a i, hR o a i = hR h a i) ∧ (∀ a i, kr (ρ a) = false → hI o a i = hI h a i) ∧ ∀ a s, s < 64 → ρ a = 34 → hI o a s = hI h a s ∨ (hI o a s).toInt < 0 ∨ ((s : Int) < n ∧ (hI o a s).toInt < 2 * m)
section
variable {ρ : Nat → Nat} {c : Cm} {h o g : Hp} {x0 p L F : Nat} {n m : Int} {x1 x2 x3 : Int32}
theorem pr_0 : PxR ρ n m h h := ⟨fun _ _ => rfl, fun _ _ _ => rfl, fun _ _ _ _ => Or.inl rfl⟩
theorem pr_t (a : PxR ρ n m h g) (b : PxR ρ n m g o) : PxR ρ n m h o := ⟨fun x i => (b.1 x i).trans (a.1 x i), fun x i r => (b.2.1 x i r).trans (a.2.1 x i r), fun x s hs r => by
  rcases b.2.2 x s hs r with z | z
  · rw [z]; exact a.2.2 x s hs r
  · exact Or.inr z⟩
theorem pr_c (k : PxC ρ n m h o) : PxR ρ n m h o := ⟨k.1, fun a i r => k.2.1 a i (by
  unfold kr at r
  unfold kq
  rw [Bool.or_eq_false_iff] at r
  exact r.1), fun a s _ r => k.2.2 a s r⟩
theorem pr_J {a i : Nat} {v : Int64} : PxR ρ n m h (wJ h a i v) := pr_c px_J
theorem pr_I {a i : Nat} {v : Int32} (k : kr (ρ a) = true) (n34 : ¬ ρ a = 34) : PxR ρ n m h (wI h a i v) := ⟨fun _ _ => rfl, fun b j r => by rw [r_I, if_neg (fun z => by rw [z.1, k] at r; exact absurd r (by decide))], fun b j _ r => Or.inl (by rw [r_I, if_neg (fun z => n34 (by rw [← z.1]; exact r))])⟩
theorem onr_k {on : Nat} (r : ρ on = 34) (k : PxR ρ n m h o) (P : OnX n m on h) : OnX n m on o := fun s hs z => by
  rcases k.2.2 on s hs r with w | w | w
  · rw [w] at z ⊢; exact P s hs z
  · omega
  · exact w
theorem byt_h {o : Int32 × Hp} (e : sX9_byteAt h p x1 = some o) : o.2 = h := by
  unfold sX9_byteAt sX9_byteAt_21 sX9_byteAt_22 at e
  replace e := br_s e
  rcases e with ⟨_, e⟩ | ⟨_, e⟩
  · rw [← Option.some.inj e]
  replace e := br_s e
  rcases e with ⟨_, e⟩ | ⟨_, e⟩
  · rw [← Option.some.inj e]
  replace e := cl_s e
  obtain ⟨_, _, e⟩ := e
  rw [← Option.some.inj (gd_s e).2]
theorem dgt_h {o : Int32 × Hp} (e : sX2_isDigit h x1 = some o) : o.2 = h := by
  unfold sX2_isDigit sX2_isDigit_16 sX2_isDigit_17 at e
  replace e := br_s e
  rcases e with ⟨_, e⟩ | ⟨_, e⟩
  · rw [← Option.some.inj (gd_s e).2]
  replace e := br_s e
  rcases e with ⟨_, e⟩ | ⟨_, e⟩
  · rw [← Option.some.inj (gd_s e).2]
  · rw [← Option.some.inj (gd_s e).2]
theorem man_2 : ∀ (f : Nat) {x2 : Int32} {o : Int32 × Hp}, 0 ≤ x2.toInt → sX1_manOf_2 F f h L x1 x2 = some o → o.2 = h ∧ (o.1 = (-1 : Int32) ∨ (0 ≤ o.1.toInt ∧ o.1.toInt < (hI h L 3).toInt)) := by
  intro f
  induction f with
  | zero => intro x2 o _ e; exact absurd e (by rw [sX1_manOf_2]; exact fun z => nomatch z)
  | succ f ih =>
    intro x2 o a2 e
    rw [sX1_manOf_2] at e
    replace e := br_s e
    rcases e with ⟨_, e⟩ | ⟨l, e⟩
    · rw [← Option.some.inj e]; exact ⟨rfl, Or.inl rfl⟩
    have l := nle_i l
    replace e := cl_s e
    obtain ⟨_, _, e⟩ := e
    replace e := (gd_s e).2
    replace e := br_s e
    rcases e with ⟨_, e⟩ | ⟨_, e⟩
    · rw [← Option.some.inj e]; exact ⟨rfl, Or.inr ⟨a2, l⟩⟩
    replace e := nm_s e
    obtain ⟨v5, w5, e⟩ := e
    have z1 : (1 : Int32).toInt = 1 := rfl
    have top := (rg_top (hI h L 3)).2
    have t5 : v5.toInt = x2.toInt + 1 := by rw [w5, ta (by rw [z1]; omega), z1]
    clear w5
    exact ih (by omega) e
theorem code_q {o : Int32 × Hp} (im : (hI h L 3).toInt ≤ 12) (e : sX1_codeOf F h L x1 = some o) : o.2 = h ∧ (o.1 = (-1 : Int32) ∨ (Rg 0 23 o.1 ∧ o.1.toInt < 2 * (hI h L 3).toInt)) := by
  have b31 : ∀ {y z : Int32} {o : Int32 × Hp}, sX1_codeOf_31 F h y z L = some o → o.2 = h ∧ (o.1 = (-1 : Int32) ∨ (Rg 0 23 o.1 ∧ o.1.toInt < 2 * (hI h L 3).toInt)) := fun {y z o} e => by
    unfold sX1_codeOf_31 sX1_codeOf_56 sX1_codeOf_57 sX1_manOf at e
    replace e := cl_s e
    obtain ⟨o1, e1, e⟩ := e
    obtain ⟨q1, M⟩ := man_2 F (by decide) e1
    rw [q1] at e
    replace e := br_s e
    rcases e with ⟨_, e⟩ | ⟨nm, e⟩
    · rw [← Option.some.inj e]; exact ⟨rfl, Or.inl rfl⟩
    obtain ⟨a, b⟩ := M.resolve_left nm
    have z2 : (2 : Int32).toInt = 2 := rfl
    have z1 : (1 : Int32).toInt = 1 := rfl
    have z0 : (0 : Int32).toInt = 0 := rfl
    have t1 : ((2 : Int32) * o1.1).toInt = 2 * o1.1.toInt := by rw [tm (by rw [z2]; omega), z2]
    have t2 : (((2 : Int32) * o1.1) + (1 : Int32)).toInt = 2 * o1.1.toInt + 1 := by rw [ta (by rw [t1, z1]; omega), t1, z1]
    have t3 : (((2 : Int32) * o1.1) + (0 : Int32)).toInt = 2 * o1.1.toInt := by rw [ta (by rw [t1, z0]; omega), t1, z0]; omega
    replace e := br_s e
    rcases e with ⟨_, e⟩ | ⟨_, e⟩
    · rw [← Option.some.inj e]
      exact ⟨rfl, Or.inr ⟨⟨by show 0 ≤ (((2 : Int32) * o1.1) + (1 : Int32)).toInt; omega, by show (((2 : Int32) * o1.1) + (1 : Int32)).toInt ≤ _; omega⟩, by show (((2 : Int32) * o1.1) + (1 : Int32)).toInt < _; omega⟩⟩
    · rw [← Option.some.inj e]
      exact ⟨rfl, Or.inr ⟨⟨by show 0 ≤ (((2 : Int32) * o1.1) + (0 : Int32)).toInt; omega, by show (((2 : Int32) * o1.1) + (0 : Int32)).toInt ≤ _; omega⟩, by show (((2 : Int32) * o1.1) + (0 : Int32)).toInt < _; omega⟩⟩
  unfold sX1_codeOf sX1_codeOf_16 sX1_codeOf_17 at e
  replace e := br_s e
  rcases e with ⟨_, e⟩ | ⟨_, e⟩
  · replace e := br_s e
    rcases e with ⟨_, e⟩ | ⟨_, e⟩
    · exact b31 e
    · exact b31 e
  replace e := br_s e
  rcases e with ⟨_, e⟩ | ⟨_, e⟩
  · replace e := br_s e
    rcases e with ⟨_, e⟩ | ⟨_, e⟩
    · exact b31 e
    · exact b31 e
  · replace e := br_s e
    rcases e with ⟨_, e⟩ | ⟨_, e⟩
    · exact b31 e
    · exact b31 e
theorem tby_x {o : Int32 × Hp} (r0 : ρ x0 = 8) (e : sX7_takeByte h x0 x1 = some o) : PxR ρ n m h o.2 := by
  unfold sX7_takeByte at e
  replace e := cl_s e
  obtain ⟨_, _, e⟩ := e
  replace e := cl_s e
  obtain ⟨o2, e2, e⟩ := e
  rw [byt_h e2] at e
  replace e := br_s e
  rcases e with ⟨_, e⟩ | ⟨_, e⟩
  · replace e := nm_s e
    obtain ⟨h4, w4, e⟩ := e
    rw [← Option.some.inj e]
    show PxR ρ n m h h4
    rw [w4]
    exact pr_I (by rw [r0]; rfl) (by rw [r0]; decide)
  · rw [← Option.some.inj e]; exact pr_0
/-- what the reading of ranks asks -/
def RdP (ρ : Nat → Nat) (x0 p L : Nat) (n m : Int) (h : Hp) : Prop := hR h x0 0 = some L ∧ PR ρ p h ∧ ρ x0 = 8 ∧ Bo ρ L n h ∧ (hI h L 3).toInt = m ∧ m ≤ 12
theorem rdp_k (k : PxR ρ n m h o) (P : RdP ρ x0 p L n m h) : RdP ρ x0 p L n m o := by
  obtain ⟨e0, q, r0, ⟨rL, b1, b2, b3⟩, em, m12⟩ := P
  have iL : ∀ i, hI o L i = hI h L i := fun i => k.2.1 L i (by rw [rL]; rfl)
  exact ⟨by rw [k.1]; exact e0, pr_k k.1 q, r0, ⟨rL, by rw [iL]; exact b1, by rw [iL]; exact b2, by rw [iL, iL]; exact b3⟩, by rw [iL]; exact em, m12⟩
theorem rr_40 {K : Hp → Nat → Nat → Int32 → Option (Int32 × Hp)} (a2 : 0 ≤ x2.toInt) (R : ∀ {h : Hp} {o : Int32 × Hp} {v : Int32}, RdP ρ x0 p L n m h → x2.toInt < (hI h L 1).toInt → v.toInt = x2.toInt - 1 → K h x0 p v = some o → PxR ρ n m h o.2) : ∀ (f : Nat) {h : Hp} {o : Int32 × Hp} {x3 : Int32}, RdP ρ x0 p L n m h → x2.toInt < (hI h L 1).toInt → 0 ≤ x3.toInt → sX7_readRanks_40 F K f h x0 p x2 x3 = some o → PxR ρ n m h o.2 := by
  intro f
  induction f with
  | zero => intro h o x3 _ _ _ e; exact absurd e (by rw [sX7_readRanks_40]; exact fun z => nomatch z)
  | succ f ih =>
    intro h o x3 P l2 a3 e
    rw [sX7_readRanks_40] at e
    have P' := P
    obtain ⟨e0, q, r0, B, em, m12⟩ := P
    have B' := B
    obtain ⟨rL, b1, b2, b3⟩ := B
    have b12 := b1.2
    have b22 := b2.2
    replace e := cl_s e
    obtain ⟨r1, g1, e⟩ := e
    have y1 : r1 = L := r_eq e0 g1
    subst y1
    replace e := br_s e
    rcases e with ⟨_, e⟩ | ⟨l, e⟩
    · replace e := nm_s e
      obtain ⟨v3, w3, e⟩ := e
      have t3 : v3.toInt = x2.toInt - 1 := by rw [w3]; exact rg_dec (a := 0) (b := 8) ⟨a2, by omega⟩ (by decide)
      clear w3
      exact R P' l2 t3 e
    have l := nle_i l
    replace e := cl_s e
    obtain ⟨_, _, e⟩ := e
    replace e := cl_s e
    obtain ⟨o5, e5, e⟩ := e
    rw [byt_h e5] at e
    replace e := cl_s e
    obtain ⟨r6, g6, e⟩ := e
    have y6 : r6 = r1 := r_eq e0 g6
    subst y6
    replace e := cl_s e
    obtain ⟨o7, e7, e⟩ := e
    obtain ⟨q7, C7⟩ := code_q (by omega) e7
    rw [q7] at e
    rw [em] at C7
    have z0 : (0 : Int32).toInt = 0 := rfl
    have z1 : (1 : Int32).toInt = 1 := rfl
    have b170 : ∀ {g : Hp} {t : Int32}, PxR ρ n m h g → 0 ≤ t.toInt → t.toInt ≤ 100 → sX7_readRanks_170 F K (sX7_readRanks_40 F K f) g x0 p x2 t x3 = some o → PxR ρ n m h o.2 := fun {g t} k t0 t1 e => by
      unfold sX7_readRanks_170 at e
      replace e := nm_s e
      obtain ⟨v1, w1, e⟩ := e
      have tv : v1.toInt = x3.toInt + t.toInt := by rw [w1, ta (by omega)]
      clear w1
      replace e := nm_s e
      obtain ⟨h2, w2, e⟩ := e
      have k2 : PxR ρ n m g h2 := by rw [w2]; exact pr_I (by rw [r0]; rfl) (by rw [r0]; decide)
      have kk := pr_t k k2
      exact pr_t kk (ih (rdp_k kk P') (by rw [kk.2.1 r6 1 (by rw [rL]; rfl)]; exact l2) (by omega) e)
    have b127 : ∀ {t : Int32}, 0 ≤ t.toInt → t.toInt ≤ 100 → sX7_readRanks_127 F K (sX7_readRanks_40 F K f) h x0 p x2 x3 o7.1 t = some o → PxR ρ n m h o.2 := fun {t} t0 t1 e => by
      unfold sX7_readRanks_127 sX7_readRanks_157 at e
      replace e := br_s e
      rcases e with ⟨w, e⟩ | ⟨nw, e⟩
      · replace e := br_s e
        rcases e with ⟨_, e⟩ | ⟨nw, e⟩
        · exact b170 pr_0 t0 t1 e
        · exact absurd w nw
      obtain ⟨ic, lc⟩ := C7.resolve_left nw
      replace e := cl_s e
      obtain ⟨r2, g2, e⟩ := e
      have y2 : r2 = r6 := r_eq e0 g2
      subst y2
      replace e := cl_s e
      obtain ⟨_, _, e⟩ := e
      replace e := cl_s e
      obtain ⟨o4, e4, e⟩ := e
      obtain ⟨isq, lsq⟩ := bo_sq B' (x13 := x3) (x14 := x2) ⟨a3, l⟩ ⟨a2, l2⟩
      obtain ⟨k4, _⟩ := put_x (n := n) (m := m) q (rg_m ic (by decide)) (fun _ => ⟨lsq, lc⟩) e4
      replace e := br_s e
      rcases e with ⟨w, e⟩ | ⟨_, e⟩
      · exact absurd w nw
      · exact b170 (pr_c k4) (by decide) (by decide) e
    have b98 : ∀ {t : Int32}, 0 ≤ t.toInt → t.toInt ≤ 100 → sX7_readRanks_98 F K (sX7_readRanks_40 F K f) h x0 p x2 x3 o7.1 t = some o → PxR ρ n m h o.2 := fun {t} t0 t1 e => by
      unfold sX7_readRanks_98 sX7_readRanks_125 at e
      replace e := br_s e
      rcases e with ⟨_, e⟩ | ⟨_, e⟩
      · replace e := br_s e
        rcases e with ⟨_, e⟩ | ⟨_, e⟩
        · rw [← Option.some.inj e]; exact pr_0
        replace e := cl_s e
        obtain ⟨_, _, e⟩ := e
        replace e := br_s e
        rcases e with ⟨_, e⟩ | ⟨_, e⟩
        · exact b127 t0 t1 e
        · rw [← Option.some.inj e]; exact pr_0
      · exact b127 t0 t1 e
    unfold sX7_readRanks_97 at e
    replace e := br_s e
    rcases e with ⟨_, e⟩ | ⟨l49, e⟩
    · exact b98 (by decide) (by decide) e
    have l49 := nlt_i l49
    replace e := br_s e
    rcases e with ⟨_, e⟩ | ⟨l56, e⟩
    · exact b98 (by decide) (by decide) e
    have l56 := nlt_i l56
    have z49 : (49 : Int32).toInt = 49 := rfl
    have z56 : (56 : Int32).toInt = 56 := rfl
    have z48 : (48 : Int32).toInt = 48 := rfl
    have t48 : (o5.1 - (48 : Int32)).toInt = o5.1.toInt - 48 := by rw [ts (by rw [z48]; omega), z48]
    exact b98 (by omega) (by omega) e
theorem rr_10 : ∀ (f : Nat) {h : Hp} {o : Int32 × Hp} {x2 : Int32}, RdP ρ x0 p L n m h → x2.toInt < (hI h L 1).toInt → sX7_readRanks_10 F f h x0 p x2 = some o → PxR ρ n m h o.2 := by
  intro f
  induction f with
  | zero => intro h o x2 _ _ e; exact absurd e (by rw [sX7_readRanks_10]; exact fun z => nomatch z)
  | succ f ih =>
    intro h o x2 P l2 e
    rw [sX7_readRanks_10] at e
    unfold sX7_readRanks_38 at e
    replace e := br_s e
    rcases e with ⟨_, e⟩ | ⟨a2, e⟩
    · rw [← Option.some.inj e]; exact pr_0
    have a2 : 0 ≤ x2.toInt := nlt_i (x := x2) (y := (0 : Int32)) a2
    have rL := P.2.2.2.1.1
    have go : ∀ {g : Hp}, PxR ρ n m h g → sX7_readRanks_40 F (sX7_readRanks_10 F f) F g x0 p x2 (0 : Int32) = some o → PxR ρ n m h o.2 := fun {g} k e => pr_t k (rr_40 a2 (fun {h2 o2 v} P2 l22 ev e2 => ih P2 (by omega) e2) F (rdp_k k P) (by rw [k.2.1 L 1 (by rw [rL]; rfl)]; exact l2) (by decide) e)
    replace e := cl_s e
    obtain ⟨_, _, e⟩ := e
    replace e := br_s e
    rcases e with ⟨_, e⟩ | ⟨_, e⟩
    · exact go pr_0 e
    replace e := cl_s e
    obtain ⟨o4, e4, e⟩ := e
    have k4 : PxR ρ n m h o4.2 := tby_x P.2.2.1 e4
    replace e := br_s e
    rcases e with ⟨_, e⟩ | ⟨_, e⟩
    · rw [← Option.some.inj e]; exact k4
    · exact go k4 e
theorem rranks_x {o : Int32 × Hp} (P : RdP ρ x0 p L n m h) (e : sX7_readRanks F h x0 p = some o) : PxR ρ n m h o.2 := by
  unfold sX7_readRanks at e
  replace e := cl_s e
  obtain ⟨r1, g1, e⟩ := e
  have y1 : r1 = L := r_eq P.1 g1
  subst y1
  replace e := nm_s e
  obtain ⟨v2, w2, e⟩ := e
  have b2 := P.2.2.2.1.2.2.1
  have b20 := b2.1
  have z1 : (1 : Int32).toInt = 1 := rfl
  have b22 := b2.2
  have t2 : v2.toInt = (hI h r1 1).toInt - 1 := by rw [w2, ts (by rw [z1]; omega), z1]
  clear w2
  exact rr_10 F P (by omega) e
theorem clear_x {x0 on ra : Nat} (T : TH ρ c h) (r0 : ρ x0 = 4) (eo : hR h x0 0 = some on) (er : hR h x0 2 = some ra) (e : sX3_clear F h x0 = some o) : PxR ρ n m h o ∧ OnX n m on o := by
  have ro := th_on T r0 eo
  have rra : ρ ra = 36 := rr T (thR T r0 (i := 2) (k2 := 36) rfl (by decide)) er
  have z0 : (0 : Int32).toInt = 0 := rfl
  unfold sX3_clear sX3_strip sJ7_fill_031fb sJ7_fill_d0a16 sJ7_fill_53178 at e
  simp only [nm] at e
  replace e := cl_s e
  obtain ⟨q1, w1, e⟩ := e
  rw [eo] at w1
  have z1 := Option.some.inj w1
  subst z1
  replace e := cl_s e
  obtain ⟨o2, e2, e⟩ := e
  rw [thN T ro (k := 34) (n := 64) rfl (by decide)] at e2
  obtain ⟨a1, a2, _, a4⟩ := fB (by decide) F (by decide) e2
  replace e := cl_s e
  obtain ⟨q3, w3, e⟩ := e
  replace e := cl_s e
  obtain ⟨o4, e4, e⟩ := e
  obtain ⟨b1, b2⟩ := fJ F e4
  replace e := cl_s e
  obtain ⟨q5, w5, e⟩ := e
  rw [b1.1, a1.1, er] at w5
  have z5 := Option.some.inj w5
  subst z5
  replace e := cl_s e
  obtain ⟨o6, e6, e⟩ := e
  rw [b1.2, a1.2, thN T rra (k := 36) (n := 2) rfl (by decide)] at e6
  obtain ⟨d1, d2, _, d4⟩ := fI (by decide) F (by decide) e6
  replace e := cl_s e
  obtain ⟨o8, e8, e⟩ := e
  replace e8 := cl_s e8
  obtain ⟨q9, w9, e8⟩ := e8
  replace e8 := cl_s e8
  obtain ⟨o10, e10, e8⟩ := e8
  obtain ⟨g1, g2⟩ := fJ F e10
  replace e8 := cl_s e8
  obtain ⟨q11, w11, e8⟩ := e8
  replace e8 := cl_s e8
  obtain ⟨o12, e12, e8⟩ := e8
  have r11 : ρ q11 = 38 := by
    rw [g1.1] at w11
    have w : hR o6 x0 4 = some q11 := w11
    rw [d1.1, b1.1, a1.1] at w
    exact rr T (thR T r0 (i := 4) (k2 := 38) rfl (by decide)) w
  have k12 : ∀ {a k : Nat}, ρ a = k → k ≠ 38 → (∀ i, hI o12 a i = hI o10 a i) := fun {a k} ha hk i => by
    have n : ¬ a = q11 := fun z => hk (by rw [← ha, z, r11])
    exact fI_o F e12 a i n
  have k12R : ∀ a i, hR o12 a i = hR o10 a i := fun a i => fI_r F e12 a i
  have z8 := Option.some.inj e8
  have z := Option.some.inj e
  rw [← z, ← z8]
  have n0 : ∀ {a k : Nat}, ρ a = k → k ≠ 4 → ∀ {P : Prop}, ¬ (a = x0 ∧ P) := fun ha hk _ y => hk (by rw [← ha, y.1, r0])
  have fin : ∀ {a k : Nat}, ρ a = k → k ≠ 38 → k ≠ 4 → ∀ i, hI (wI o12 x0 6 (0 : Int32)) a i = hI o6 a i := fun {a k} ha h1 h2 i => by
    rw [r_I, if_neg (n0 ha h2), k12 ha h1 i, g2]
    show hI (wI o6 x0 5 (0 : Int32)) a i = _
    rw [r_I, if_neg (n0 ha h2)]
  have v : ∀ s, s < 64 → hI (wI o12 x0 6 (0 : Int32)) on s = (-1 : Int32) := fun s hs => by
    rw [fin ro (by decide) (by decide), d2 on s (fun y => absurd (ro.symm.trans (by rw [y, rra])) (by decide)), b2]
    have := a4 s (by rw [z0]; omega) hs
    rw [this]; decide
  have zm : (-1 : Int32).toInt < 0 := by decide
  refine ⟨⟨fun a i => ?_, fun a i ha => ?_, fun a s hs ra' => ?_⟩, fun s hs z => ?_⟩
  · show hR o12 a i = _
    rw [k12R, g1.1]
    show hR o6 a i = _
    rw [d1.1, b1.1, a1.1]
  · have h1 : ¬ ρ a = 38 := fun w => by rw [w] at ha; exact absurd ha (by decide)
    have h2 : ¬ ρ a = 4 := fun w => by rw [w] at ha; exact absurd ha (by decide)
    have h3 : ¬ ρ a = 36 := fun w => by rw [w] at ha; exact absurd ha (by decide)
    have h4 : ¬ ρ a = 34 := fun w => by rw [w] at ha; exact absurd ha (by decide)
    show hI (wI o12 x0 6 (0 : Int32)) a i = _
    rw [fin rfl h1 h2, d2 a i (fun y => h3 (by rw [y, rra])), b2, a2 a i (fun y => h4 (by rw [y, ro]))]
  · by_cases w : a = on
    · subst w
      refine Or.inr (Or.inl ?_)
      show (hI (wI o12 x0 6 (0 : Int32)) a s).toInt < 0
      rw [v s hs]; exact zm
    · refine Or.inl ?_
      show hI (wI o12 x0 6 (0 : Int32)) a s = _
      rw [fin ra' (by decide) (by decide), d2 a s (fun y => absurd (ra'.symm.trans (by rw [y, rra])) (by decide)), b2, a2 a s w]
  · have z' : 0 ≤ (hI (wI o12 x0 6 (0 : Int32)) on s).toInt := z
    rw [v s hs] at z'
    omega
end
