/-! what the RULES that the reference reads keep to: becomes, royal, castle, the rest -/
section
variable {n w F : Nat} {g h : Hp} {x2 x3 : Int32} {o : Int32 × Hp}
/-- men that one becomes, as they are told: c of them -/
def BPt (n w l c : Nat) (h : Hp) : Prop := LEi (n + 513) (n + w) h ∧ ((l : Int) < (hI h (n + w) 2).toInt ∧ hI h (n + w + 9) l = 0 ∧ ∀ p k : Nat, p < 12 → (k : Int) < (hI h (n + w + 9) p).toInt → ¬ (hI h (n + w + 8) (6 * p + k)).toInt = (l : Int)) ∧ ∀ k : Nat, k < c → 0 ≤ (hI h (n + w + 8) (6 * l + k)).toInt ∧ (hI h (n + w + 8) (6 * l + k)).toInt < (hI h (n + w) 2).toInt ∧ LEb (n + w) h l k ∧ ¬ (hI h (n + w + 8) (6 * l + k)).toInt = (l : Int)
theorem bpt_e {l c : Nat} {o : Hp} (A : EqL n w h o) (E : BPt n w l c h) : BPt n w l c o := ⟨lei_e A E.1, ⟨by rw [eql_0 A]; exact E.2.1.1, by rw [A.1 9 _ (by decide)]; exact E.2.1.2.1, fun p k hp hk => by rw [A.1 9 _ (by decide)] at hk; rw [A.1 8 _ (by decide)]; exact E.2.1.2.2 p k hp hk⟩, fun k hk => by
  obtain ⟨y1, y2, ⟨y3, y4, y5⟩, y6⟩ := E.2.2 k hk
  have e8 := A.1 8 (6 * l + k) (by decide)
  exact ⟨by rw [e8]; exact y1, by rw [e8, eql_0 A]; exact y2, ⟨by rw [e8, eql_0 A]; exact y3, by rw [e8, A.1 9 _ (by decide)]; exact y4, fun u hu => by rw [e8, A.1 8 (6 * l + u) (by decide)]; exact y5 u hu⟩, by rw [e8]; exact y6⟩⟩
theorem ix_6 {x y : Int32} {l c : Nat} (l12 : l < 12) (c6 : c < 6) (hx : x.toInt = (l : Int)) (hy : y.toInt = (c : Int)) : (((6 : Int32) * x) + y).toNatClampNeg = 6 * l + c := by
  have z6 : (6 : Int32).toInt = 6 := rfl
  have m6 : ((6 : Int32) * x).toInt = 6 * (l : Int) := by rw [tm (by rw [z6, hx]; omega), z6, hx]
  have v6 : (((6 : Int32) * x) + y).toInt = 6 * (l : Int) + c := by rw [ta (by omega), m6, hy]
  have := nc_i (x := ((6 : Int32) * x) + y) (by omega)
  omega
/-- one more -/
theorem bpt_w {l c : Nat} {v : Int32} (hw : w = 516 ∨ w = 526) (c6 : c < 6) (E : BPt n w l c h) (gd : 0 ≤ v.toInt ∧ v.toInt < (hI h (n + w) 2).toInt ∧ ¬ v.toInt = (hI h (n + w) 10).toInt ∧ hI h (n + w + 9) v.toNatClampNeg = 0 ∧ (∀ u : Nat, u < c → ¬ v = hI h (n + w + 8) (6 * l + u)) ∧ ¬ v.toInt = (l : Int)) : BPt n w l (c + 1) (wI h (n + w + 8) (6 * l + c) v) := by
  have q : ∀ a i, ¬ (a = n + w + 8 ∧ i = 6 * l + c) → hI (wI h (n + w + 8) (6 * l + c) v) a i = hI h a i := fun a i z => by rw [r_I, if_neg z]
  obtain ⟨E1, ⟨E2, E3, E3b⟩, E4⟩ := E
  refine ⟨lei_c E1 (fun i _ => q _ _ (fun z => by omega)) (fun z => by rw [q _ _ (fun z => by omega)]; exact z) (fun l' _ => q _ _ (fun z => by omega)) (fun l' k hl hk => q _ _ (fun z => ?_)) (fun l' _ => q _ _ (fun z => by omega)) (fun l' _ => q _ _ (fun z => by omega)) (fun l' i hl hi z => les_k (q _ _ (fun z => by omega)) (q _ _ (fun z => by omega)) (q _ _ (fun z => by omega)) z), ⟨by rw [q _ _ (fun z => by omega)]; exact E2, by rw [q _ _ (fun z => by omega)]; exact E3, fun p k hp hk => ?_⟩, fun k hk => ?_⟩
  · have b6 := (E1.2.1 l' hl).1
    have l1 : l' = l := by omega
    rw [l1, E3] at hk
    have z0 : (0 : Int32).toInt = 0 := rfl
    omega
  · rw [q _ _ (fun z => by omega)] at hk
    have b6 := (E1.2.1 p hp).1
    have ne : ¬ 6 * p + k = 6 * l + c := fun y => by
      have l1 : p = l := by omega
      rw [l1, E3] at hk
      have z0 : (0 : Int32).toInt = 0 := rfl
      omega
    rw [q _ _ (fun z => ne z.2)]; exact E3b p k hp hk
  · by_cases y : k = c
    · rw [y]
      exact ⟨by rw [rI_s]; exact gd.1, by rw [rI_s, q (n + w) 2 (fun z => by omega)]; exact gd.2.1, ⟨by rw [rI_s, q (n + w) 10 (fun z => by omega)]; exact gd.2.2.1, by rw [rI_s, q (n + w + 9) _ (fun z => by omega)]; exact gd.2.2.2.1, fun u hu => by rw [rI_s, q (n + w + 8) (6 * l + u) (fun z => by omega)]; exact gd.2.2.2.2.1 u hu⟩, by rw [rI_s]; exact gd.2.2.2.2.2⟩
    · obtain ⟨y1, y2, ⟨y3, y4, y5⟩, y6⟩ := E4 k (by omega)
      have e8 := q (n + w + 8) (6 * l + k) (fun z => by omega)
      exact ⟨by rw [e8]; exact y1, by rw [e8, q (n + w) 2 (fun z => by omega)]; exact y2, ⟨by rw [e8, q (n + w) 10 (fun z => by omega)]; exact y3, by rw [e8, q (n + w + 9) _ (fun z => by omega)]; exact y4, fun u hu => by rw [e8, q (n + w + 8) (6 * l + u) (fun z => by omega)]; exact y5 u hu⟩, by rw [e8]; exact y6⟩
theorem be_138 {l c : Nat} {K : Hp → Nat → Nat → Int32 → Int32 → Int32 → Option (Int32 × Hp)} {x4 x5 : Int32} (hw : w = 516 ∨ w = 526) (eg : hR g (n + 513) 5 = some (n + w)) (i3 : x3.toInt = (l : Int)) (l12 : l < 12) (i4 : x4.toInt = (c : Int)) (c6q : c ≤ 6) (hK : ∀ {h : Hp} {v : Int32}, DyK n g h → BPt n w l (c + 1) h → v.toInt = ((c + 1 : Nat) : Int) → c < 6 → K h (n + 513) (n + 514) x2 x3 v = some o → SnR n w g o) : ∀ (f : Nat) {h : Hp} {x6 x7 : Int32}, DyK n g h → BPt n w l c h → 0 ≤ x7.toInt → (¬ x6 = 0 → c < 6 ∧ 0 ≤ x5.toInt ∧ x5.toInt < (hI h (n + w) 2).toInt ∧ ¬ x5.toInt = (hI h (n + w) 10).toInt ∧ hI h (n + w + 9) x5.toNatClampNeg = 0 ∧ (∀ u : Nat, (u : Int) < x7.toInt → ¬ x5 = hI h (n + w + 8) (6 * l + u)) ∧ ¬ x5.toInt = (l : Int)) → sX15_isBecoming_138 F K f h (n + 513) (n + 514) x2 x3 x4 x5 x6 x7 = some o → SnR n w g o := by
  have z1 : (1 : Int32).toInt = 1 := rfl
  intro f
  induction f with
  | zero => intro h x6 x7 _ _ _ _ e; exact absurd e (by rw [sX15_isBecoming_138]; exact fun z => nomatch z)
  | succ f ih =>
    intro h x6 x7 k E x70 G e
    rw [sX15_isBecoming_138] at e
    rcases br_s e with ⟨c0, e⟩ | ⟨c0, e⟩
    · have c0 := le_i c0
      rcases br_s e with ⟨_, e⟩ | ⟨c6, e⟩
      · rw [so_e e]; exact ⟨k, fun z => absurd rfl z⟩
      obtain ⟨g1, g2, g3, g4, g5, g6, g7⟩ := G c6
      replace e := ce_e (lx_5 k eg) e
      replace e := ce_e (lx_e k hw (f := 13) (b := 8) (by decide)) e
      replace e := gg_e e
      obtain ⟨h6, w6, e⟩ := nm_s e
      rw [ix_6 l12 g1 i3 i4] at w6
      have k6 : DyK n g h6 := by rw [w6]; exact dk_wI k
      have E6 : BPt n w l (c + 1) h6 := by rw [w6]; exact bpt_w hw g1 E ⟨g2, g3, g4, g5, fun u hu => g6 u (by omega), g7⟩
      obtain ⟨v7, w7, e⟩ := nm_s e
      obtain ⟨o8, e8, e⟩ := cl_s e
      obtain ⟨k8, A8⟩ := te_n hw k6 e8
      exact hK k8 (bpt_e A8 E6) (by rw [w7, ta (by omega), z1]; omega) g1 e
    · replace e := ce_e (lx_5 k eg) e
      replace e := ce_e (lx_e k hw (f := 13) (b := 8) (by decide)) e
      replace e := gg_e e
      have c0 := nle_i c0
      have n7 := nc_i x70
      have ix := ix_6 (c := x7.toNatClampNeg) l12 (by omega) i3 n7.symm
      unfold sX15_isBecoming_172 at e
      rcases br_s e with ⟨_, e⟩ | ⟨c7, e⟩
      · replace e := nx_e e
        replace e := nx_e e
        exact ih k E (by rw [ta (by omega), z1]; omega) (fun z => absurd Int32.and_zero z) e
      · replace e := nx_e e
        replace e := nx_e e
        rw [ix] at c7
        refine ih k E (by rw [ta (by omega), z1]; omega) (fun z => ?_) e
        obtain ⟨g1, g2, g3, g4, g5, g6, g7⟩ := G (fun y => z (by rw [y]; decide))
        refine ⟨g1, g2, g3, g4, g5, fun u hu => ?_, g7⟩
        rw [ta (by omega), z1] at hu
        by_cases y : u = x7.toNatClampNeg
        · rw [y]; exact fun z => c7 z.symm
        · exact g6 u (by omega)
theorem be_62 {l : Nat} (hw : w = 516 ∨ w = 526) (eg : hR g (n + 513) 5 = some (n + w)) (i3 : x3.toInt = (l : Int)) (l12 : l < 12) : ∀ (f : Nat) {h : Hp} {x4 : Int32} {c : Nat}, DyK n g h → BPt n w l c h → c ≤ 6 → x4.toInt = (c : Int) → sX15_isBecoming_62 F f h (n + 513) (n + 514) x2 x3 x4 = some o → SnR n w g o := by
  have z0 : (0 : Int32).toInt = 0 := rfl
  have z6 : (6 : Int32).toInt = 6 := rfl
  have c3 := nc_i (x := x3) (by omega)
  have c3 : x3.toNatClampNeg = l := by omega
  intro f
  induction f with
  | zero => intro h x4 c _ _ _ _ e; exact absurd e (by rw [sX15_isBecoming_62]; exact fun z => nomatch z)
  | succ f ih =>
    intro h x4 c k E c6 i4 e
    rw [sX15_isBecoming_62] at e
    have body : ∀ {h : Hp}, DyK n g h → BPt n w l c h → sX15_isBecoming_77 F (sX15_isBecoming_62 F f) h (n + 513) (n + 514) x2 x3 x4 = some o → SnR n w g o := fun {h} k E e => by
      unfold sX15_isBecoming_77 sX15_isBecoming_132 sX15_isBecoming_133 at e
      obtain ⟨o1, e1, e⟩ := cl_s e
      obtain ⟨⟨k1, A1⟩, m1⟩ := te_m hw k eg e1
      have E1 := bpt_e A1 E
      have hK : ∀ {h : Hp} {v : Int32}, DyK n g h → BPt n w l (c + 1) h → v.toInt = ((c + 1 : Nat) : Int) → c < 6 → sX15_isBecoming_62 F f h (n + 513) (n + 514) x2 x3 v = some o → SnR n w g o := fun k E v c6 e => ih k E (by omega) v e
      have no : sX15_isBecoming_138 F (sX15_isBecoming_62 F f) F o1.2 (n + 513) (n + 514) x2 x3 x4 o1.1 0 0 = some o → SnR n w g o := fun e => be_138 hw eg i3 l12 i4 c6 hK F k1 E1 (by decide) (fun z => absurd rfl z) e
      rcases br_s e with ⟨_, e⟩ | ⟨c1, e⟩
      · exact no e
      rcases br_s e with ⟨_, e⟩ | ⟨cl, e⟩
      · exact no e
      replace e := ce_e (lx_5 k1 eg) e
      rcases br_s e with ⟨_, e⟩ | ⟨cr, e⟩
      · exact no e
      replace e := ce_e (lx_5 k1 eg) e
      replace e := ce_e (lx_e k1 hw (f := 14) (b := 9) (by decide)) e
      replace e := gg_e e
      rcases br_s e with ⟨c9, e⟩ | ⟨_, e⟩
      rotate_left
      · exact no e
      rcases br_s e with ⟨_, e⟩ | ⟨c4, e⟩
      · exact no e
      have c4 := nle_i c4
      refine be_138 hw eg i3 l12 i4 c6 hK F k1 E1 (by decide) (fun _ => ⟨by omega, ?_⟩) e
      rcases m1 with m1 | m1
      · exact absurd m1 c1
      · rw [eql_0 A1]
        exact ⟨m1.1, m1.2, fun y => cr (Int32.toInt_inj.mp (by rw [y, eql_0 A1])), c9, fun u hu => absurd hu (by have : (0 : Int32).toInt = 0 := rfl; omega), fun y => cl (Int32.toInt_inj.mp (by rw [y, i3]))⟩
    rcases br_s e with ⟨_, e⟩ | ⟨_, e⟩
    · exact body k E e
    obtain ⟨o2, e2, e⟩ := cl_s e
    obtain ⟨k2, A2⟩ := te_s hw k e2
    have E2 := bpt_e A2 E
    rcases br_s e with ⟨_, e⟩ | ⟨_, e⟩
    · exact body k2 E2 e
    replace e := ce_e (lx_5 k2 eg) e
    replace e := ce_e (lx_e k2 hw (f := 14) (b := 9) (by decide)) e
    replace e := gg_e e
    obtain ⟨h7, w7, e⟩ := nm_s e
    rw [c3] at w7
    have k7 : DyK n g h7 := by rw [w7]; exact dk_wI k2
    have q7 : ∀ a i, ¬ (a = n + w + 9 ∧ i = l) → hI h7 a i = hI o2.2 a i := fun a i z => by rw [w7, r_I, if_neg z]
    have fin : ∀ {t : Int32}, (-1 ≤ t.toInt ∧ t.toInt < (hI o2.2 (n + w) 2).toInt) → sX15_isBecoming_254 F h7 t (n + w) = some o → SnR n w g o := fun {t} bt e => by
      unfold sX15_isBecoming_254 at e
      rw [so_e (nx_e e)]
      refine ⟨dk_wI k7, fun _ => ?_⟩
      show LEi (n + 513) (n + w) (wI h7 (n + w) 11 t)
      have q : ∀ a i, ¬ (a = n + w ∧ i = 11) → ¬ (a = n + w + 9 ∧ i = l) → hI (wI h7 (n + w) 11 t) a i = hI o2.2 a i := fun a i z z' => by rw [r_I, if_neg z, q7 a i z']
      have v9 : hI (wI h7 (n + w) 11 t) (n + w + 9) l = x4 := by rw [rI_a (by omega), w7, rI_s]
      obtain ⟨⟨⟨a1, a2, a3, a4, a5, a6⟩, B, C⟩, ⟨l1, _, nb⟩, E4⟩ := E2
      have p : ∀ i, ¬ i = 11 → hI (wI h7 (n + w) 11 t) (n + w) i = hI o2.2 (n + w) i := fun i z => q _ _ (fun y => z y.2) (fun y => by omega)
      have p2 := p 2 (by decide)
      have p10 := p 10 (by decide)
      refine ⟨⟨by rw [p2]; exact a1, by rw [p2, p10]; exact a2, ?_, by rw [p 12 (by decide), p2, p10]; exact a4, by rw [p 22 (by decide)]; exact a5, by rw [p10, q (n + 513) 10 (fun y => by omega) (fun y => by omega)]; exact a6⟩, fun l' hl => ⟨?_, fun z => ?_, fun kk hk => ?_⟩, fun l' hl => ⟨?_, ⟨fun z => ?_, fun z u hu => ?_⟩, fun i hi => ?_⟩⟩
      · rw [p2, rI_s]; exact bt
      · by_cases y : l' = l
        · rw [y, v9]; omega
        · rw [q _ _ (fun y => by omega) (fun z => y z.2)]; exact (B l' hl).1
      · rw [p2] at z
        rw [q _ _ (fun y => by omega) (fun y => by omega)]; exact (B l' hl).2.1 z
      · have e8 := q (n + w + 8) (6 * l' + kk) (fun y => by omega) (fun y => by omega)
        by_cases y : l' = l
        · rw [y, v9] at hk
          rw [y] at e8 ⊢
          obtain ⟨y1, y2, ⟨y3, y4, y5⟩, y6⟩ := E4 kk (by omega)
          have nx := nc_i y1
          exact ⟨by rw [e8]; exact y1, by rw [e8, p2]; exact y2, by rw [e8, p10]; exact y3, by rw [e8, q (n + w + 9) _ (fun y => by omega) (fun y => by omega)]; exact y4, fun u hu => by rw [e8, q (n + w + 8) (6 * l + u) (fun y => by omega) (fun y => by omega)]; exact y5 u hu⟩
        · rw [q _ _ (fun y => by omega) (fun z => y z.2)] at hk
          obtain ⟨y1, y2, y3, y4, y5⟩ := (B l' hl).2.2 kk hk
          have nx := nc_i y1
          have nl := nb l' kk hl hk
          exact ⟨by rw [e8]; exact y1, by rw [e8, p2]; exact y2, by rw [e8, p10]; exact y3, by rw [e8, q (n + w + 9) _ (fun y => by omega) (fun y => by omega)]; exact y4, fun u hu => by rw [e8, q (n + w + 8) (6 * l' + u) (fun y => by omega) (fun y => by omega)]; exact y5 u hu⟩
      · rw [q _ _ (fun y => by omega) (fun y => by omega)]; exact (C l' hl).1
      · rw [p2] at z
        rw [q _ _ (fun y => by omega) (fun y => by omega)]; exact (C l' hl).2.1.1 z
      · rw [p2] at z
        rw [q _ _ (fun y => by omega) (fun y => by omega), q _ _ (fun y => by omega) (fun y => by omega)]; exact (C l' hl).2.1.2 z u hu
      · rw [q _ _ (fun y => by omega) (fun y => by omega)] at hi
        exact les_k (q _ _ (fun y => by omega) (fun y => by omega)) (q _ _ (fun y => by omega) (fun y => by omega)) (q _ _ (fun y => by omega) (fun y => by omega)) ((C l' hl).2.2 i hi)
    replace e := ce_e (lx_5 k7 eg) e
    replace e := ce_e (lx_5 k7 eg) e
    rcases br_s e with ⟨_, e⟩ | ⟨_, e⟩
    · exact fin (by have := E2.2.1.1; omega) e
    · replace e := ce_e (lx_5 k7 eg) e
      rw [q7 _ _ (fun y => by omega)] at e
      exact fin E2.1.1.2.2.1 e
theorem zc_r (hw : w = 516 ∨ w = 526) (eg : hR g (n + 513) 5 = some (n + w)) (k : DyK n g h) : ZR (fun q => if q = 16 then n + 513 else if q = 15 then n + w else n + w + (q - 72)) h := ⟨lx_5 k eg, lx_e k hw (f := 3) (b := 1) (by decide), lx_e k hw (f := 4) (b := 2) (by decide), lx_e k hw (f := 5) (b := 3) (by decide), lx_e k hw (f := 6) (b := 4) (by decide), lx_e k hw (f := 7) (b := 5) (by decide), lx_e k hw (f := 8) (b := 6) (by decide), lx_e k hw (f := 9) (b := 7) (by decide), lx_e k hw (f := 13) (b := 8) (by decide), lx_e k hw (f := 14) (b := 9) (by decide)⟩
theorem ib_l {x : Int32} (hw : w = 516 ∨ w = 526) (eg : hR g (n + 513) 5 = some (n + w)) (k : DyK n g h) (E : LEi (n + 513) (n + w) h) (e : sX14_isBecome F h (n + w) x = some o) : o.2 = h ∧ (o.1 = 0 → ∀ p q : Nat, p < 12 → (q : Int) < (hI h (n + w + 9) p).toInt → ¬ hI h (n + w + 8) (6 * p + q) = x) := by
  unfold sX14_isBecome at e
  obtain ⟨a, b⟩ := ib_4 (Z := fun q => if q = 16 then n + 513 else if q = 15 then n + w else n + w + (q - 72)) (zc_r hw eg k) (fun i hi => ⟨(E.2.1 i hi).1.1, (E.2.1 i hi).1.2⟩) E.1.1.2 F (show (0 : Int) ≤ (0 : Int32).toInt by decide) (by decide) (Or.inl rfl) e
  refine ⟨a, fun z p q hp hq => ?_⟩
  have z0 : (0 : Int32).toInt = 0 := rfl
  by_cases y : (hI h (n + w) 2).toInt ≤ (p : Int)
  · rw [(E.2.1 p hp).2.1 y] at hq
    omega
  · exact (b.mp z).2 p q (by omega) (by show (p : Int) < (hI h (n + w) 2).toInt; omega) hq
theorem ibc_r (hw : w = 516 ∨ w = 526) (eg : hR g (n + 513) 5 = some (n + w)) (k : DyK n g h) (E : LEi (n + 513) (n + w) h) (e : sX15_isBecoming F h (n + 513) (n + 514) x2 = some o) : SnR n w g o := by
  have z0 : (0 : Int32).toInt = 0 := rfl
  unfold sX15_isBecoming sX15_isBecoming_51 at e
  obtain ⟨o1, e1, e⟩ := cl_s e
  obtain ⟨k1, A1⟩ := te_n hw k e1
  obtain ⟨o2, e2, e⟩ := cl_s e
  obtain ⟨⟨k2, A2⟩, m2⟩ := te_m hw k1 eg e2
  have E2 := lei_e (eql_t A1 A2) E
  rcases br_s e with ⟨_, e⟩ | ⟨c2, e⟩
  · rw [so_e e]; exact ⟨k2, fun z => absurd rfl z⟩
  have m2 := m2.resolve_left c2
  rw [← eql_0 A2] at m2
  have s2 := nc_i m2.1
  have l12 : o2.1.toNatClampNeg < 12 := by have := E2.1.1; omega
  replace e := ce_e (lx_5 k2 eg) e
  rcases br_s e with ⟨_, e⟩ | ⟨_, e⟩
  · rw [so_e e]; exact ⟨k2, fun z => absurd rfl z⟩
  replace e := ce_e (lx_5 k2 eg) e
  replace e := ce_e (lx_e k2 hw (f := 14) (b := 9) (by decide)) e
  replace e := gg_e e
  rcases br_s e with ⟨_, e⟩ | ⟨c9, e⟩
  · rw [so_e e]; exact ⟨k2, fun z => absurd rfl z⟩
  have c9 := nlt_i c9
  have n9 : hI o2.2 (n + w + 9) o2.1.toNatClampNeg = 0 := Int32.toInt_inj.mp (by have := (E2.2.1 _ l12).1; omega)
  replace e := ce_e (lx_5 k2 eg) e
  obtain ⟨o11, e11, e⟩ := cl_s e
  obtain ⟨h11, b11⟩ := ib_l hw eg k2 E2 e11
  rw [h11] at e
  rcases br_s e with ⟨c11, e⟩ | ⟨_, e⟩
  · obtain ⟨o13, e13, e⟩ := cl_s e
    obtain ⟨k13, A13⟩ := te_n hw k2 e13
    have E2' : BPt n w o2.1.toNatClampNeg 0 o2.2 := ⟨E2, ⟨by omega, n9, fun p k hp hk y => b11 c11 p k hp hk (Int32.toInt_inj.mp (by rw [y]; omega))⟩, fun k hk => absurd hk (Nat.not_lt_zero _)⟩
    exact be_62 hw eg (by omega) l12 F k13 (bpt_e A13 E2') (by decide) rfl e
  · rw [so_e e]; exact ⟨k2, fun z => absurd rfl z⟩
/-- ROYAL: none was told yet -/
theorem iry_r (hw : w = 516 ∨ w = 526) (eg : hR g (n + 513) 5 = some (n + w)) (k : DyK n g h) (E : LEi (n + 513) (n + w) h) (nr : (hI h (n + w) 10).toInt = -1) (bq : Bq (hI h (n + 513) 10) 0) (e : sX15_isRoyal F h (n + 513) (n + 514) x2 = some o) : SnR n w g o := by
  unfold sX15_isRoyal sX15_isRoyal_40 at e
  obtain ⟨o1, e1, e⟩ := cl_s e
  obtain ⟨k1, A1⟩ := te_n hw k e1
  obtain ⟨o2, e2, e⟩ := cl_s e
  obtain ⟨⟨k2, A2⟩, m2⟩ := te_m hw k1 eg e2
  have A := eql_t A1 A2
  have E2 := lei_e A E
  rcases br_s e with ⟨_, e⟩ | ⟨c2, e⟩
  · rw [so_e e]; exact ⟨k2, fun z => absurd rfl z⟩
  have m2 := m2.resolve_left c2
  rw [← eql_0 A2] at m2
  replace e := ce_e (lx_5 k2 eg) e
  replace e := ce_e (lx_e k2 hw (f := 14) (b := 9) (by decide)) e
  replace e := gg_e e
  rcases br_s e with ⟨_, e⟩ | ⟨_, e⟩
  · rw [so_e e]; exact ⟨k2, fun z => absurd rfl z⟩
  replace e := ce_e (lx_5 k2 eg) e
  obtain ⟨o9, e9, e⟩ := cl_s e
  obtain ⟨h9, b9⟩ := ib_l hw eg k2 E2 e9
  rw [h9] at e
  rcases br_s e with ⟨c9, e⟩ | ⟨_, e⟩
  rotate_left
  · rw [so_e e]; exact ⟨k2, fun z => absurd rfl z⟩
  have b9 := b9 c9
  replace e := ce_e (lx_5 k2 eg) e
  obtain ⟨h12, w12, e⟩ := nm_s e
  have k12 : DyK n g h12 := by rw [w12]; exact dk_wI k2
  obtain ⟨o13, e13, e⟩ := cl_s e
  obtain ⟨k13, A13⟩ := te_g hw k12 e13
  rw [so_e (gg_e e)]
  refine ⟨k13, fun _ => lei_e A13 ?_⟩
  have q : ∀ a i, ¬ (a = n + w ∧ i = 10) → hI h12 a i = hI o2.2 a i := fun a i z => by rw [w12, r_I, if_neg z]
  have v10 : hI h12 (n + w) 10 = o2.1 := by rw [w12, rI_s]
  have p : ∀ i, ¬ i = 10 → hI h12 (n + w) i = hI o2.2 (n + w) i := fun i z => q _ _ (fun y => z y.2)
  obtain ⟨⟨a1, a2, a3, a4, a5, a6⟩, B, C⟩ := E2
  have p2 := p 2 (by decide)
  have nr2 : (hI o2.2 (n + w) 10).toInt = -1 := by rw [eql_0 A]; exact nr
  refine ⟨⟨by rw [p2]; exact a1, by rw [p2, v10]; omega, by rw [p 11 (by decide), p2]; exact a3, ?_, by rw [p 22 (by decide)]; exact a5, Or.inr (by rw [q (n + 513) 10 (fun y => by omega), A.2]; exact bq)⟩, fun l hl => ⟨?_, fun z => ?_, fun kk hk => ?_⟩, fun l hl => ⟨?_, ⟨fun z => ?_, fun z u hu => ?_⟩, fun i hi => ?_⟩⟩
  · rw [p 12 (by decide)]
    rcases a4 with y | y
    · exact Or.inl y
    · omega
  · rw [q _ _ (fun y => by omega)]; exact (B l hl).1
  · rw [p2] at z
    rw [q _ _ (fun y => by omega)]; exact (B l hl).2.1 z
  · rw [q _ _ (fun y => by omega)] at hk
    obtain ⟨b1, b2, b3, b4, b5⟩ := (B l hl).2.2 kk hk
    have e8 := q (n + w + 8) (6 * l + kk) (fun y => by omega)
    exact ⟨by rw [e8]; exact b1, by rw [e8, p2]; exact b2, by rw [e8, v10]; exact fun y => b9 l kk hl hk (Int32.toInt_inj.mp y), by rw [e8, q (n + w + 9) _ (fun y => by omega)]; exact b4, fun u hu => by rw [e8, q (n + w + 8) (6 * l + u) (fun y => by omega)]; exact b5 u hu⟩
  · rw [q _ _ (fun y => by omega)]; exact (C l hl).1
  · rw [p2] at z
    rw [q _ _ (fun y => by omega)]; exact (C l hl).2.1.1 z
  · rw [p2] at z
    rw [q _ _ (fun y => by omega), q _ _ (fun y => by omega)]; exact (C l hl).2.1.2 z u hu
  · rw [q _ _ (fun y => by omega)] at hi
    exact les_k (q _ _ (fun y => by omega)) (q _ _ (fun y => by omega)) (q _ _ (fun y => by omega)) ((C l hl).2.2 i hi)
theorem ica_r (hw : w = 516 ∨ w = 526) (eg : hR g (n + 513) 5 = some (n + w)) (k : DyK n g h) (E : LEi (n + 513) (n + w) h) (e : sX15_isCastle F h (n + 513) (n + 514) x2 = some o) : SnR n w g o := by
  have zm : (-1 : Int32).toInt = -1 := rfl
  unfold sX15_isCastle sX15_isCastle_41 at e
  replace e := ce_e (lx_5 k eg) e
  rcases br_s e with ⟨_, e⟩ | ⟨c1, e⟩
  · rw [so_e e]; exact ⟨k, fun z => absurd rfl z⟩
  obtain ⟨o3, e3, e⟩ := cl_s e
  obtain ⟨k3, A3⟩ := te_n hw k e3
  obtain ⟨o4, e4, e⟩ := cl_s e
  obtain ⟨⟨k4, A4⟩, m4⟩ := te_m hw k3 eg e4
  have A := eql_t A3 A4
  have E4 := lei_e A E
  rcases br_s e with ⟨_, e⟩ | ⟨c4, e⟩
  · rw [so_e e]; exact ⟨k4, fun z => absurd rfl z⟩
  have m4 := m4.resolve_left c4
  rw [← eql_0 A4] at m4
  replace e := ce_e (lx_5 k4 eg) e
  rcases br_s e with ⟨_, e⟩ | ⟨cr, e⟩
  · rw [so_e e]; exact ⟨k4, fun z => absurd rfl z⟩
  replace e := ce_e (lx_5 k4 eg) e
  obtain ⟨h9, w9, e⟩ := nm_s e
  have k9 : DyK n g h9 := by rw [w9]; exact dk_wI k4
  obtain ⟨o10, e10, e⟩ := cl_s e
  obtain ⟨k10, A10⟩ := te_g hw k9 e10
  rw [so_e (gg_e e)]
  refine ⟨k10, fun _ => lei_e A10 ?_⟩
  have r0 : ¬ (hI o4.2 (n + w) 10).toInt = -1 := fun y => c1 (Int32.toInt_inj.mp (by rw [← eql_0 A, y, zm]))
  have q : ∀ a i, ¬ (a = n + w ∧ i = 12) → hI h9 a i = hI o4.2 a i := fun a i z => by rw [w9, r_I, if_neg z]
  have v12 : hI h9 (n + w) 12 = o4.1 := by rw [w9, rI_s]
  have cr' : ¬ o4.1.toInt = (hI o4.2 (n + w) 10).toInt := fun y => cr (Int32.toInt_inj.mp y)
  have p : ∀ i, ¬ i = 12 → hI h9 (n + w) i = hI o4.2 (n + w) i := fun i z => q _ _ (fun y => z y.2)
  obtain ⟨⟨a1, a2, a3, a4, a5, a6⟩, B, C⟩ := E4
  have p2 := p 2 (by decide)
  have p10 := p 10 (by decide)
  refine ⟨⟨by rw [p2]; exact a1, by rw [p2, p10]; exact a2, by rw [p 11 (by decide), p2]; exact a3, ?_, by rw [p 22 (by decide)]; exact a5, by rw [p10, q (n + 513) 10 (fun y => by omega)]; exact a6⟩, fun l hl => ⟨?_, fun z => ?_, fun kk hk => ?_⟩, fun l hl => ⟨?_, ⟨fun z => ?_, fun z u hu => ?_⟩, fun i hi => ?_⟩⟩
  · rw [v12, p2, p10]
    exact Or.inr ⟨m4.1, m4.2, by omega, cr'⟩
  · rw [q _ _ (fun y => by omega)]; exact (B l hl).1
  · rw [p2] at z
    rw [q _ _ (fun y => by omega)]; exact (B l hl).2.1 z
  · rw [q _ _ (fun y => by omega)] at hk
    obtain ⟨b1, b2, b3, b4, b5⟩ := (B l hl).2.2 kk hk
    have e8 := q (n + w + 8) (6 * l + kk) (fun y => by omega)
    exact ⟨by rw [e8]; exact b1, by rw [e8, p2]; exact b2, by rw [e8, p10]; exact b3, by rw [e8, q (n + w + 9) _ (fun y => by omega)]; exact b4, fun u hu => by rw [e8, q (n + w + 8) (6 * l + u) (fun y => by omega)]; exact b5 u hu⟩
  · rw [q _ _ (fun y => by omega)]; exact (C l hl).1
  · rw [p2] at z
    rw [q _ _ (fun y => by omega)]; exact (C l hl).2.1.1 z
  · rw [p2] at z
    rw [q _ _ (fun y => by omega), q _ _ (fun y => by omega)]; exact (C l hl).2.1.2 z u hu
  · rw [q _ _ (fun y => by omega)] at hi
    exact les_k (q _ _ (fun y => by omega)) (q _ _ (fun y => by omega)) (q _ _ (fun y => by omega)) ((C l hl).2.2 i hi)
/-- a field of the law that nothing hangs on; or an outcome -/
theorem lei_f {i : Nat} {v : Int32} (hw : w = 516 ∨ w = 526) (E : LEi (n + 513) (n + w) h) (hi : (¬ i = 2 ∧ ¬ i = 10 ∧ ¬ i = 11 ∧ ¬ i = 12 ∧ ¬ i = 22)) : LEi (n + 513) (n + w) (wI h (n + w) i v) := by
  have q : ∀ a j, ¬ (a = n + w ∧ j = i) → hI (wI h (n + w) i v) a j = hI h a j := fun a j z => by rw [r_I, if_neg z]
  exact lei_c E (fun j hj => q _ _ (fun z => by omega)) (fun z => by rw [q _ _ (fun z => by omega)]; exact z) (fun l _ => q _ _ (fun z => by omega)) (fun l k _ _ => q _ _ (fun z => by omega)) (fun l _ => q _ _ (fun z => by omega)) (fun l _ => q _ _ (fun z => by omega)) (fun l i _ _ z => les_k (q _ _ (fun z => by omega)) (q _ _ (fun z => by omega)) (q _ _ (fun z => by omega)) z)
theorem lei_22 {v : Int32} (hw : w = 516 ∨ w = 526) (E : LEi (n + 513) (n + w) h) (hv : 0 ≤ v.toInt ∧ v.toInt ≤ 2) : LEi (n + 513) (n + w) (wI h (n + w) 22 v) := by
  have q : ∀ a j, ¬ (a = n + w ∧ j = 22) → hI (wI h (n + w) 22 v) a j = hI h a j := fun a j z => by rw [r_I, if_neg z]
  have p : ∀ j, ¬ j = 22 → hI (wI h (n + w) 22 v) (n + w) j = hI h (n + w) j := fun j z => q _ _ (fun y => z y.2)
  obtain ⟨⟨a1, a2, a3, a4, a5, a6⟩, B, C⟩ := E
  have p2 := p 2 (by decide)
  have p10 := p 10 (by decide)
  refine ⟨⟨by rw [p2]; exact a1, by rw [p2, p10]; exact a2, by rw [p 11 (by decide), p2]; exact a3, by rw [p 12 (by decide), p2, p10]; exact a4, by rw [rI_s]; exact hv, by rw [p10, q (n + 513) 10 (fun y => by omega)]; exact a6⟩, fun l hl => ⟨?_, fun z => ?_, fun kk hk => ?_⟩, fun l hl => ⟨?_, ⟨fun z => ?_, fun z u hu => ?_⟩, fun i hi => ?_⟩⟩
  · rw [q _ _ (fun y => by omega)]; exact (B l hl).1
  · rw [p2] at z
    rw [q _ _ (fun y => by omega)]; exact (B l hl).2.1 z
  · rw [q _ _ (fun y => by omega)] at hk
    obtain ⟨b1, b2, b3, b4, b5⟩ := (B l hl).2.2 kk hk
    have e8 := q (n + w + 8) (6 * l + kk) (fun y => by omega)
    exact ⟨by rw [e8]; exact b1, by rw [e8, p2]; exact b2, by rw [e8, p10]; exact b3, by rw [e8, q (n + w + 9) _ (fun y => by omega)]; exact b4, fun u hu => by rw [e8, q (n + w + 8) (6 * l + u) (fun y => by omega)]; exact b5 u hu⟩
  · rw [q _ _ (fun y => by omega)]; exact (C l hl).1
  · rw [p2] at z
    rw [q _ _ (fun y => by omega)]; exact (C l hl).2.1.1 z
  · rw [p2] at z
    rw [q _ _ (fun y => by omega), q _ _ (fun y => by omega)]; exact (C l hl).2.1.2 z u hu
  · rw [q _ _ (fun y => by omega)] at hi
    exact les_k (q _ _ (fun y => by omega)) (q _ _ (fun y => by omega)) (q _ _ (fun y => by omega)) ((C l hl).2.2 i hi)
theorem iou_r (hw : w = 516 ∨ w = 526) (eg : hR g (n + 513) 5 = some (n + w)) (k : DyK n g h) (E : LEi (n + 513) (n + w) h) (e : sX15_isOutcome F h (n + 513) (n + 514) x2 x3 = some o) : SnR n w g o := by
  unfold sX15_isOutcome at e
  obtain ⟨o1, e1, e⟩ := cl_s e
  obtain ⟨k1, A1⟩ := te_n hw k e1
  obtain ⟨o2, e2, e⟩ := cl_s e
  obtain ⟨k2, A2⟩ := te_w hw k1 e2
  have fin : ∀ {h : Hp} {t : Int32}, DyK n g h → LEi (n + 513) (n + w) h → (0 ≤ t.toInt ∧ t.toInt ≤ 2) → sX15_isOutcome_35 F h (n + 513) (n + 514) x2 x3 t = some o → SnR n w g o := fun {h t} k E ht e => by
    unfold sX15_isOutcome_35 sX15_isOutcome_69 at e
    rcases br_s e with ⟨_, e⟩ | ⟨_, e⟩
    · rw [so_e e]; exact ⟨k, fun z => absurd rfl z⟩
    rcases br_s e with ⟨_, e⟩ | ⟨_, e⟩
    · replace e := ce_e (lx_5 k eg) e
      replace e := nx_e e
      obtain ⟨o5, e5, e⟩ := cl_s e
      obtain ⟨k5, A5⟩ := te_g hw (dk_wI k) e5
      rw [so_e (gg_e e)]
      exact ⟨k5, fun _ => lei_e A5 (lei_f hw E (by decide))⟩
    · replace e := ce_e (lx_5 k eg) e
      replace e := nx_e e
      obtain ⟨o5, e5, e⟩ := cl_s e
      obtain ⟨k5, A5⟩ := te_g hw (dk_wI k) e5
      rw [so_e (gg_e e)]
      exact ⟨k5, fun _ => lei_e A5 (lei_22 hw E ht)⟩
  have E2 := lei_e (eql_t A1 A2) E
  rcases br_s e with ⟨_, e⟩ | ⟨_, e⟩
  · obtain ⟨o4, e4, e⟩ := cl_s e
    obtain ⟨k4, A4⟩ := te_w hw k2 e4
    rcases br_s e with ⟨_, e⟩ | ⟨_, e⟩
    · exact fin k4 (lei_e A4 E2) (by decide) e
    · exact fin k4 (lei_e A4 E2) (by decide) e
  · exact fin k2 E2 (by decide) e
/-- blast, hill, checks -/
theorem lei_b {o : Hp} (hw : w = 516 ∨ w = 526) (k : DyK n g h) (E : LEi (n + 513) (n + w) h) (f : FrW (WBl n w) h o) : LEi (n + 513) (n + w) o := by
  have s6 := dk_610 k
  have q : ∀ a i, a < n + 610 → ¬ WBl n w a i → hI o a i = hI h a i := fun a i l z => (f.2 a i (by omega) z).1
  exact lei_c E (fun i hi => q _ _ (by omega) (fun c => by unfold WBl at c; omega)) (fun z => by rw [q _ _ (by omega) (fun c => by unfold WBl at c; omega)]; exact z) (fun l _ => q _ _ (by omega) (fun c => by unfold WBl at c; omega)) (fun l k _ _ => q _ _ (by omega) (fun c => by unfold WBl at c; omega)) (fun l _ => q _ _ (by omega) (fun c => by unfold WBl at c; omega)) (fun l _ => q _ _ (by omega) (fun c => by unfold WBl at c; omega)) (fun l i _ _ z => les_k (q _ _ (by omega) (fun c => by unfold WBl at c; omega)) (q _ _ (by omega) (fun c => by unfold WBl at c; omega)) (q _ _ (by omega) (fun c => by unfold WBl at c; omega)) z)
theorem dxu (k : DyK n g h) (eg : hR g (n + 513) 5 = some (n + 516)) : DyX n xlU g h := ⟨k, fun e he => by
  have : e = (513, 5, 516) := by simpa using he
  rw [this]; exact lx_5 k eg⟩
theorem dxv (k : DyK n g h) (eg : hR g (n + 513) 5 = some (n + 526)) : DyX n xlV g h := ⟨k, fun e he => by
  have : e = (513, 5, 526) := by simpa using he
  rw [this]; exact lx_5 k eg⟩
theorem ibl_r (hw : w = 516 ∨ w = 526) (eg : hR g (n + 513) 5 = some (n + w)) (k : DyK n g h) (E : LEi (n + 513) (n + w) h) (e : sX15_isBlast F h (n + 513) (n + 514) x2 = some o) : SnR n w g o := by
  have hw' := hw
  rcases hw with z | z <;> subst z
  · obtain ⟨a, b⟩ := xu_X15_isBlast (dxu k eg) e
    exact ⟨a.1, fun _ => lei_b hw' k E b⟩
  · obtain ⟨a, b⟩ := xv_X15_isBlast (dxv k eg) e
    exact ⟨a.1, fun _ => lei_b hw' k E b⟩
theorem ihi_r (hw : w = 516 ∨ w = 526) (eg : hR g (n + 513) 5 = some (n + w)) (k : DyK n g h) (E : LEi (n + 513) (n + w) h) (e : sX15_isHill F h (n + 513) (n + 514) x2 = some o) : SnR n w g o := by
  have hw' := hw
  rcases hw with z | z <;> subst z
  · obtain ⟨a, b⟩ := xu_X15_isHill (dxu k eg) e
    exact ⟨a.1, fun _ => lei_b hw' k E b⟩
  · obtain ⟨a, b⟩ := xv_X15_isHill (dxv k eg) e
    exact ⟨a.1, fun _ => lei_b hw' k E b⟩
theorem ick_r (hw : w = 516 ∨ w = 526) (eg : hR g (n + 513) 5 = some (n + w)) (k : DyK n g h) (E : LEi (n + 513) (n + w) h) (e : sX15_isChecks F h (n + 513) (n + 514) x2 = some o) : SnR n w g o := by
  have hw' := hw
  rcases hw with z | z <;> subst z
  · obtain ⟨a, b⟩ := xu_X15_isChecks (dxu k eg) e
    exact ⟨a.1, fun _ => lei_b hw' k E b⟩
  · obtain ⟨a, b⟩ := xv_X15_isChecks (dxv k eg) e
    exact ⟨a.1, fun _ => lei_b hw' k E b⟩
/-- told once -/
theorem ion_r {x : Int32} {q : Nat} (hw : w = 516 ∨ w = 526) (q12 : q < 12) (hx : x = nI q) (k : DyK n g h) (E : LEi (n + 513) (n + w) h) (e : sX15_isOnce h (n + 513) x = some o) : (DyK n g o.2 ∧ LEi (n + 513) (n + w) o.2) ∧ (q = 0 → ¬ o.1 = 0 → (hI o.2 (n + w) 10).toInt = -1 ∧ Bq (hI o.2 (n + 513) 10) 0) := by
  unfold sX15_isOnce sX15_isOnce_16 at e
  have b01 : ∀ y : Int32, y &&& (1 : Int32) = 0 ∨ y &&& (1 : Int32) = 1 := fun y => by
    have i := rg_and (c := 1) (d := 1) (x := y) (y := (1 : Int32)) (rg_b rfl) (by decide)
    have : (y &&& (1 : Int32)).toInt = 0 ∨ (y &&& (1 : Int32)).toInt = 1 := by have := i.1; have := i.2; omega
    exact this.imp (fun z => Int32.toInt_inj.mp z) (fun z => Int32.toInt_inj.mp z)
  have all : ∀ {t : Int32}, (gd (t &&& 1 = t) <| some (t, wI h (n + 513) 10 (hI h (n + 513) 10 ||| ((1 : Int32) <<< (x &&& 31))))) = some o → (DyK n g o.2 ∧ LEi (n + 513) (n + w) o.2) ∧ o.1 = t ∧ (q = 0 → Bq (hI o.2 (n + 513) 10) 0 ∧ hI o.2 (n + w) 10 = hI h (n + w) 10) := fun {t} e => by
    rw [so_e (gg_e e)]
    have qq : ∀ a i, ¬ (a = n + 513 ∧ i = 10) → hI (wI h (n + 513) 10 (hI h (n + 513) 10 ||| ((1 : Int32) <<< (x &&& 31)))) a i = hI h a i := fun a i z => by rw [r_I, if_neg z]
    refine ⟨⟨dk_wI k, lei_c E (fun i _ => qq _ _ (fun z => by omega)) (fun z => ?_) (fun l _ => qq _ _ (fun z => by omega)) (fun l k _ _ => qq _ _ (fun z => by omega)) (fun l _ => qq _ _ (fun z => by omega)) (fun l _ => qq _ _ (fun z => by omega)) (fun l i _ _ z => les_k (qq _ _ (fun z => by omega)) (qq _ _ (fun z => by omega)) (qq _ _ (fun z => by omega)) z)⟩, rfl, fun y => ⟨?_, qq _ _ (fun z => by omega)⟩⟩
    · unfold Bq at z ⊢
      show (hI (wI h (n + 513) 10 _) (n + 513) 10 >>> _) &&& _ = _
      rw [rI_s, hx, bit_o q12 (by decide), z]
      split <;> decide
    · unfold Bq
      show (hI (wI h (n + 513) 10 _) (n + 513) 10 >>> _) &&& _ = _
      rw [rI_s, hx, bit_o q12 (by decide), if_pos y]
      rcases b01 (hI h (n + 513) 10 >>> (nI 0 &&& 31)) with z | z <;> rw [z] <;> decide
  rcases br_s e with ⟨c, e⟩ | ⟨_, e⟩
  · obtain ⟨a, b, d⟩ := all (nx_e e)
    refine ⟨a, fun y _ => ⟨?_, (d y).1⟩⟩
    rw [(d y).2]
    rcases E.1.2.2.2.2.2 with z | z
    · exact z
    · unfold Bq at z
      rw [hx, y] at c
      rw [c] at z
      exact absurd z (by decide)
  · obtain ⟨a, b, d⟩ := all (nx_e e)
    exact ⟨a, fun _ z => absurd b z⟩
theorem ise_r (hw : w = 516 ∨ w = 526) (eg : hR g (n + 513) 5 = some (n + w)) (k : DyK n g h) (E : LEi (n + 513) (n + w) h) (e : sX15_isSentence F h (n + 513) (n + 514) x2 = some o) : SnR n w g o := by
  unfold sX15_isSentence sX15_isSentence_400 sX15_isSentence_401 sX15_isSentence_365 sX15_isSentence_366 sX15_isSentence_330 sX15_isSentence_331 sX15_isSentence_296 sX15_isSentence_297 sX15_isSentence_262 sX15_isSentence_263 sX15_isSentence_221 sX15_isSentence_222 sX15_isSentence_180 sX15_isSentence_181 sX15_isSentence_139 sX15_isSentence_140 sX15_isSentence_98 sX15_isSentence_99 sX15_isSentence_65 sX15_isSentence_66 at e
  have no : ∀ {h : Hp} {t : Int32}, DyK n g h → t = 0 → (gd (t &&& 1 = t) <| some (t, h)) = some o → SnR n w g o := fun {h t} k z e => by
    rw [so_e (gg_e e)]; exact ⟨k, fun y => absurd z y⟩
  have ye : ∀ {h : Hp} {t : Int32}, DyK n g h → LEi (n + 513) (n + w) h → (gd (t &&& 1 = t) <| some (t, h)) = some o → SnR n w g o := fun {h t} k z e => by
    rw [so_e (gg_e e)]; exact ⟨k, fun _ => z⟩
  have s2 : ∀ {h : Hp} {u : Int32 × Hp} {c d : Option (Int32 × Hp)}, SnR n w g u → (u.1 = 0 → c = some o → SnR n w g o) → (¬ u.1 = 0 → d = some o → SnR n w g o) → br (u.1 = 0) c d = some o → SnR n w g o := fun _ a b e => by
    rcases br_s e with ⟨z, e⟩ | ⟨z, e⟩
    · exact a z e
    · exact b z e
  obtain ⟨o1, e1, e⟩ := cl_s e
  obtain ⟨k1, A1⟩ := te_w hw k e1
  have E1 := lei_e A1 E
  rcases br_s e with ⟨_, e⟩ | ⟨_, e⟩
  rotate_left
  · obtain ⟨u, eu, e⟩ := cl_s e
    have R := im_r hw eg k1 E1 eu
    rw [so_e (gg_e e)]; exact R
  obtain ⟨o3, e3, e⟩ := cl_s e
  obtain ⟨k3, A3⟩ := te_w hw k1 e3
  have E3 := lei_e A3 E1
  rcases br_s e with ⟨_, e⟩ | ⟨_, e⟩
  rotate_left
  · obtain ⟨u, eu, e⟩ := cl_s e
    have R := ibc_r hw eg k3 E3 eu
    rw [so_e (gg_e e)]; exact R
  obtain ⟨o5, e5, e⟩ := cl_s e
  obtain ⟨k5, A5⟩ := te_w hw k3 e5
  have E5 := lei_e A5 E3
  rcases br_s e with ⟨_, e⟩ | ⟨_, e⟩
  rotate_left
  · obtain ⟨v, ev, e⟩ := cl_s e
    obtain ⟨⟨kv, Ev⟩, r⟩ := ion_r (q := 0) hw (by decide) rfl k5 E5 ev
    rcases br_s e with ⟨_, e⟩ | ⟨c, e⟩
    · exact no kv rfl e
    obtain ⟨u, eu, e⟩ := cl_s e
    obtain ⟨r1, r2⟩ := r rfl c
    have R := iry_r hw eg kv Ev r1 r2 eu
    rcases br_s e with ⟨_, e⟩ | ⟨c, e⟩
    · exact no R.1 rfl e
    · exact ye R.1 (R.2 c) e
  obtain ⟨o7, e7, e⟩ := cl_s e
  obtain ⟨k7, A7⟩ := te_w hw k5 e7
  have E7 := lei_e A7 E5
  rcases br_s e with ⟨_, e⟩ | ⟨_, e⟩
  rotate_left
  · obtain ⟨v, ev, e⟩ := cl_s e
    obtain ⟨⟨kv, Ev⟩, _⟩ := ion_r (q := 1) hw (by decide) rfl k7 E7 ev
    rcases br_s e with ⟨_, e⟩ | ⟨c, e⟩
    · exact no kv rfl e
    obtain ⟨u, eu, e⟩ := cl_s e
    have R := ica_r hw eg kv Ev eu
    rcases br_s e with ⟨_, e⟩ | ⟨c, e⟩
    · exact no R.1 rfl e
    · exact ye R.1 (R.2 c) e
  obtain ⟨o9, e9, e⟩ := cl_s e
  obtain ⟨k9, A9⟩ := te_w hw k7 e9
  have E9 := lei_e A9 E7
  rcases br_s e with ⟨_, e⟩ | ⟨_, e⟩
  rotate_left
  · replace e := ce_e (lx_5 k9 eg) e
    replace e := nx_e e
    obtain ⟨v, ev, e⟩ := cl_s e
    obtain ⟨⟨kv, Ev⟩, _⟩ := ion_r (q := 2) hw (by decide) rfl (dk_wI k9) (lei_f hw E9 (by decide)) ev
    rcases br_s e with ⟨_, e⟩ | ⟨c, e⟩
    · exact no kv rfl e
    obtain ⟨u, eu, e⟩ := cl_s e
    obtain ⟨ku, Au⟩ := te_g hw kv eu
    rcases br_s e with ⟨_, e⟩ | ⟨c, e⟩
    · exact no ku rfl e
    · exact ye ku (lei_e Au Ev) e
  obtain ⟨o11, e11, e⟩ := cl_s e
  obtain ⟨k11, A11⟩ := te_w hw k9 e11
  have E11 := lei_e A11 E9
  rcases br_s e with ⟨_, e⟩ | ⟨_, e⟩
  rotate_left
  · replace e := ce_e (lx_5 k11 eg) e
    replace e := nx_e e
    obtain ⟨v, ev, e⟩ := cl_s e
    obtain ⟨⟨kv, Ev⟩, _⟩ := ion_r (q := 3) hw (by decide) rfl (dk_wI k11) (lei_f hw E11 (by decide)) ev
    rcases br_s e with ⟨_, e⟩ | ⟨c, e⟩
    · exact no kv rfl e
    obtain ⟨u, eu, e⟩ := cl_s e
    obtain ⟨ku, Au⟩ := te_g hw kv eu
    rcases br_s e with ⟨_, e⟩ | ⟨c, e⟩
    · exact no ku rfl e
    · exact ye ku (lei_e Au Ev) e
  obtain ⟨o13, e13, e⟩ := cl_s e
  obtain ⟨k13, A13⟩ := te_w hw k11 e13
  have E13 := lei_e A13 E11
  rcases br_s e with ⟨_, e⟩ | ⟨_, e⟩
  rotate_left
  · replace e := ce_e (lx_5 k13 eg) e
    replace e := nx_e e
    obtain ⟨v, ev, e⟩ := cl_s e
    obtain ⟨⟨kv, Ev⟩, _⟩ := ion_r (q := 4) hw (by decide) rfl (dk_wI k13) (lei_f hw E13 (by decide)) ev
    rcases br_s e with ⟨_, e⟩ | ⟨c, e⟩
    · exact no kv rfl e
    obtain ⟨u, eu, e⟩ := cl_s e
    obtain ⟨ku, Au⟩ := te_g hw kv eu
    rcases br_s e with ⟨_, e⟩ | ⟨c, e⟩
    · exact no ku rfl e
    · exact ye ku (lei_e Au Ev) e
  obtain ⟨o15, e15, e⟩ := cl_s e
  obtain ⟨k15, A15⟩ := te_w hw k13 e15
  have E15 := lei_e A15 E13
  rcases br_s e with ⟨_, e⟩ | ⟨_, e⟩
  rotate_left
  · replace e := ce_e (lx_5 k15 eg) e
    replace e := nx_e e
    obtain ⟨v, ev, e⟩ := cl_s e
    obtain ⟨⟨kv, Ev⟩, _⟩ := ion_r (q := 5) hw (by decide) rfl (dk_wI k15) (lei_f hw E15 (by decide)) ev
    rcases br_s e with ⟨_, e⟩ | ⟨c, e⟩
    · exact no kv rfl e
    obtain ⟨u, eu, e⟩ := cl_s e
    have R := ibl_r hw eg kv Ev eu
    rcases br_s e with ⟨_, e⟩ | ⟨c, e⟩
    · exact no R.1 rfl e
    · exact ye R.1 (R.2 c) e
  obtain ⟨o17, e17, e⟩ := cl_s e
  obtain ⟨k17, A17⟩ := te_w hw k15 e17
  have E17 := lei_e A17 E15
  rcases br_s e with ⟨_, e⟩ | ⟨_, e⟩
  rotate_left
  · obtain ⟨v, ev, e⟩ := cl_s e
    obtain ⟨⟨kv, Ev⟩, _⟩ := ion_r (q := 6) hw (by decide) rfl k17 E17 ev
    rcases br_s e with ⟨_, e⟩ | ⟨c, e⟩
    · exact no kv rfl e
    obtain ⟨u, eu, e⟩ := cl_s e
    have R := ick_r hw eg kv Ev eu
    rcases br_s e with ⟨_, e⟩ | ⟨c, e⟩
    · exact no R.1 rfl e
    · exact ye R.1 (R.2 c) e
  obtain ⟨o19, e19, e⟩ := cl_s e
  obtain ⟨k19, A19⟩ := te_w hw k17 e19
  have E19 := lei_e A19 E17
  rcases br_s e with ⟨_, e⟩ | ⟨_, e⟩
  rotate_left
  · obtain ⟨v, ev, e⟩ := cl_s e
    obtain ⟨⟨kv, Ev⟩, _⟩ := ion_r (q := 7) hw (by decide) rfl k19 E19 ev
    rcases br_s e with ⟨_, e⟩ | ⟨c, e⟩
    · exact no kv rfl e
    obtain ⟨u, eu, e⟩ := cl_s e
    have R := ihi_r hw eg kv Ev eu
    rcases br_s e with ⟨_, e⟩ | ⟨c, e⟩
    · exact no R.1 rfl e
    · exact ye R.1 (R.2 c) e
  obtain ⟨o21, e21, e⟩ := cl_s e
  obtain ⟨k21, A21⟩ := te_w hw k19 e21
  have E21 := lei_e A21 E19
  rcases br_s e with ⟨_, e⟩ | ⟨_, e⟩
  rotate_left
  · obtain ⟨v, ev, e⟩ := cl_s e
    obtain ⟨⟨kv, Ev⟩, _⟩ := ion_r (q := 8) hw (by decide) rfl k21 E21 ev
    rcases br_s e with ⟨_, e⟩ | ⟨c, e⟩
    · exact no kv rfl e
    obtain ⟨u, eu, e⟩ := cl_s e
    have R := iou_r hw eg kv Ev eu
    rcases br_s e with ⟨_, e⟩ | ⟨c, e⟩
    · exact no R.1 rfl e
    · exact ye R.1 (R.2 c) e
  obtain ⟨o23, e23, e⟩ := cl_s e
  obtain ⟨k23, A23⟩ := te_w hw k21 e23
  have E23 := lei_e A23 E21
  rcases br_s e with ⟨_, e⟩ | ⟨_, e⟩
  · exact no k23 rfl e
  obtain ⟨v, ev, e⟩ := cl_s e
  obtain ⟨⟨kv, Ev⟩, _⟩ := ion_r (q := 9) hw (by decide) rfl k23 E23 ev
  rcases br_s e with ⟨_, e⟩ | ⟨c, e⟩
  · exact no kv rfl e
  obtain ⟨u, eu, e⟩ := cl_s e
  have R := iou_r hw eg kv Ev eu
  rcases br_s e with ⟨_, e⟩ | ⟨c, e⟩
  · exact no R.1 rfl e
  · exact ye R.1 (R.2 c) e
theorem iru_117 (hw : w = 516 ∨ w = 526) (eg : hR g (n + 513) 5 = some (n + w)) : ∀ (f : Nat) {h : Hp}, DyK n g h → LEi (n + 513) (n + w) h → sX15_isRules_117 F f h (n + 513) (n + 514) x2 = some o → SnR n w g o := by
  intro f
  induction f with
  | zero => intro h _ _ e; exact absurd e (by rw [sX15_isRules_117]; exact fun z => nomatch z)
  | succ f ih =>
    intro h k E e
    rw [sX15_isRules_117] at e
    unfold sX15_isRules_144 at e
    rcases br_s e with ⟨_, e⟩ | ⟨_, e⟩
    · rw [so_e e]; exact ⟨k, fun _ => E⟩
    obtain ⟨u, eu, e⟩ := cl_s e
    have R := ise_r hw eg k E eu
    rcases br_s e with ⟨_, e⟩ | ⟨c, e⟩
    · rw [so_e e]; exact ⟨R.1, fun z => absurd rfl z⟩
    obtain ⟨o4, e4, e⟩ := cl_s e
    obtain ⟨k4, A4⟩ := te_s hw R.1 e4
    rcases br_s e with ⟨_, e⟩ | ⟨_, e⟩
    · rw [so_e e]; exact ⟨k4, fun z => absurd rfl z⟩
    obtain ⟨o6, e6, e⟩ := cl_s e
    obtain ⟨k6, A6⟩ := te_n hw k4 e6
    exact ih k6 (lei_e A6 (lei_e A4 (R.2 c))) e
/-- behind clear: no man, nobody royal -/
def Clr (lw : Nat) (c : Nat) (h : Hp) : Prop := (hI h lw 2 = 0 ∧ hI h lw 10 = (-1 : Int32) ∧ hI h lw 11 = (-1 : Int32) ∧ hI h lw 12 = (-1 : Int32)) ∧ ∀ l, l < c → hI h (lw + 2) l = 0 ∧ hI h (lw + 9) l = 0
theorem clr_22 (hw : w = 516 ∨ w = 526) : ∀ (f : Nat) {h o : Hp} {x1 : Int32} {c : Nat}, DyK n g h → Clr (n + w) c h → x1.toInt = (c : Int) → c ≤ 12 → sX14_clear_22 F f h (n + w) x1 = some o → DyK n g o ∧ Clr (n + w) 12 o ∧ hI o (n + w) 22 = 0 := by
  have z12 : (12 : Int32).toInt = 12 := rfl
  have z1 : (1 : Int32).toInt = 1 := rfl
  intro f
  induction f with
  | zero => intro h o x1 c _ _ _ _ e; exact absurd e (by rw [sX14_clear_22]; exact fun z => nomatch z)
  | succ f ih =>
    intro h o x1 c k C i1 c12 e
    rw [sX14_clear_22] at e
    rcases br_s e with ⟨c1, e⟩ | ⟨c1, e⟩
    · have c1 := le_i c1
      have cc : c = 12 := by omega
      subst cc
      iterate 9 replace e := nx_e e
      rw [so_e e]
      refine ⟨dk_wI (dk_wI (dk_wJ (dk_wI (dk_wI (dk_wI (dk_wI (dk_wI (dk_wI k)))))))), ?_, ?_⟩
      · have q : ∀ a i, (¬ a = n + w ∨ i = 2 ∨ i = 10 ∨ i = 11 ∨ i = 12) → hI (wI (wI (wJ (wI (wI (wI (wI (wI (wI h (n + w) 15 0) (n + w) 16 0) (n + w) 17 0) (n + w) 18 0) (n + w) 19 0) (n + w) 20 0) (n + w) 21 0) (n + w) 22 0) (n + w) 23 0) a i = hI h a i := fun a i z => by
          rw [r_I, if_neg (by omega), r_I, if_neg (by omega)]
          show hI (wI (wI (wI (wI (wI (wI h (n + w) 15 0) (n + w) 16 0) (n + w) 17 0) (n + w) 18 0) (n + w) 19 0) (n + w) 20 0) a i = _
          rw [r_I, if_neg (by omega), r_I, if_neg (by omega), r_I, if_neg (by omega), r_I, if_neg (by omega), r_I, if_neg (by omega), r_I, if_neg (by omega)]
        refine ⟨⟨by rw [q _ _ (by omega)]; exact C.1.1, by rw [q _ _ (by omega)]; exact C.1.2.1, by rw [q _ _ (by omega)]; exact C.1.2.2.1, by rw [q _ _ (by omega)]; exact C.1.2.2.2⟩, fun l hl => ?_⟩
        rw [q _ _ (Or.inl (by omega)), q _ _ (Or.inl (by omega))]
        exact C.2 l hl
      · rw [rI_o (by decide), rI_s]
    · have c1 := nle_i c1
      have cn := nc_i (x := x1) (by omega)
      have cn : x1.toNatClampNeg = c := by omega
      replace e := ce_e (lx_e k hw (f := 4) (b := 2) (by decide)) e
      replace e := gg_e e
      obtain ⟨h13, w13, e⟩ := nm_s e
      have k13 : DyK n g h13 := by rw [w13]; exact dk_wI k
      replace e := ce_e (lx_e k13 hw (f := 14) (b := 9) (by decide)) e
      replace e := gg_e e
      obtain ⟨h16, w16, e⟩ := nm_s e
      have k16 : DyK n g h16 := by rw [w16]; exact dk_wI k13
      rw [cn] at w13 w16
      replace e := nx_e e
      have q : ∀ a i, ¬ (a = n + w + 2 ∧ i = c) → ¬ (a = n + w + 9 ∧ i = c) → hI h16 a i = hI h a i := fun a i z z' => by rw [w16, r_I, if_neg z', w13, r_I, if_neg z]
      refine ih (c := c + 1) k16 ⟨⟨by rw [q _ _ (fun y => by omega) (fun y => by omega)]; exact C.1.1, by rw [q _ _ (fun y => by omega) (fun y => by omega)]; exact C.1.2.1, by rw [q _ _ (fun y => by omega) (fun y => by omega)]; exact C.1.2.2.1, by rw [q _ _ (fun y => by omega) (fun y => by omega)]; exact C.1.2.2.2⟩, fun l hl => ?_⟩ (by rw [ta (by omega), z1, i1]; omega) (by omega) e
      by_cases y : l = c
      · rw [y]
        exact ⟨by rw [w16, rI_a (by omega), w13, rI_s], by rw [w16, rI_s]⟩
      · rw [q _ _ (fun z => y z.2) (fun z => y z.2), q _ _ (fun z => y z.2) (fun z => y z.2)]
        exact C.2 l (by omega)
/-- the reading: where it is good, the law keeps to all this -/
theorem iru_r (hw : w = 516 ∨ w = 526) (eg : hR g (n + 513) 5 = some (n + w)) (k : DyK n g h) (e : sX15_isRules F h (n + 513) (n + 514) x2 = some o) : SnR n w g o := by
  have z0 : (0 : Int32).toInt = 0 := rfl
  have zm : (-1 : Int32).toInt = -1 := rfl
  unfold sX15_isRules at e
  replace e := ce_e (lx_5 k eg) e
  obtain ⟨o2, e2, e⟩ := cl_s e
  unfold sX14_clear at e2
  iterate 4 replace e2 := nx_e e2
  obtain ⟨k2, C2, s2⟩ := clr_22 (c := 0) hw F (dk_wI (dk_wI (dk_wI (dk_wI k)))) ⟨⟨by rw [rI_o (by decide), rI_o (by decide), rI_o (by decide), rI_s], by rw [rI_o (by decide), rI_o (by decide), rI_s], by rw [rI_o (by decide), rI_s], by rw [rI_s]⟩, fun l hl => absurd hl (Nat.not_lt_zero _)⟩ rfl (by decide) e2
  replace e := nx_e e
  replace e := nx_e e
  have q : ∀ a i, ¬ a = n + 513 → hI (wI (wI o2 (n + 513) 10 0) (n + 513) 8 0) a i = hI o2 a i := fun a i z => by rw [rI_a z, rI_a z]
  have E2 : LEi (n + 513) (n + w) (wI (wI o2 (n + 513) 10 0) (n + 513) 8 0) := by
    obtain ⟨⟨c1, c2, c3, c4⟩, c5⟩ := C2
    refine ⟨⟨?_, ?_, ?_, ?_, ?_, ?_⟩, fun l hl => ?_, fun l hl => ?_⟩
    · rw [q _ _ (by omega), c1]; decide
    · rw [q _ _ (by omega), q _ _ (by omega), c1, c2]; decide
    · rw [q _ _ (by omega), q _ _ (by omega), c1, c3]; decide
    · rw [q _ _ (by omega), c4]; exact Or.inl rfl
    · rw [q _ _ (by omega), s2]; decide
    · rw [q _ _ (by omega), c2]; exact Or.inl rfl
    · rw [q _ _ (by omega), (c5 l hl).2]
      exact ⟨by decide, fun _ => rfl, fun kk hk => by omega⟩
    · rw [q _ _ (by omega), (c5 l hl).1]
      exact ⟨by decide, ⟨fun _ => rfl, fun z u hu => by rw [q _ _ (by omega), c1] at z; omega⟩, fun i hi => by omega⟩
  obtain ⟨o5, e5, e⟩ := cl_s e
  obtain ⟨k5, A5⟩ := te_n hw (dk_wI (dk_wI k2)) e5
  have E5 := lei_e A5 E2
  obtain ⟨o6, e6, e⟩ := cl_s e
  obtain ⟨k6, A6⟩ := te_w hw k5 e6
  have E6 := lei_e A6 E5
  rcases br_s e with ⟨_, e⟩ | ⟨_, e⟩
  · rw [so_e e]; exact ⟨k6, fun z => absurd rfl z⟩
  obtain ⟨o8, e8, e⟩ := cl_s e
  obtain ⟨k8, A8⟩ := te_n hw k6 e8
  obtain ⟨o9, e9, e⟩ := cl_s e
  obtain ⟨k9, A9⟩ := te_d hw k8 e9
  have E9 := lei_e A9 (lei_e A8 E6)
  rcases br_s e with ⟨_, e⟩ | ⟨_, e⟩
  · rw [so_e e]; exact ⟨k9, fun z => absurd rfl z⟩
  replace e := ce_e (lx_5 k9 eg) e
  replace e := nx_e e
  obtain ⟨o13, e13, e⟩ := cl_s e
  obtain ⟨k13, A13⟩ := te_n hw (dk_wI k9) e13
  obtain ⟨o14, e14, e⟩ := cl_s e
  obtain ⟨k14, A14⟩ := te_d hw k13 e14
  have E14 := lei_e A14 (lei_e A13 (lei_f hw E9 (by decide)))
  rcases br_s e with ⟨_, e⟩ | ⟨_, e⟩
  · rw [so_e e]; exact ⟨k14, fun z => absurd rfl z⟩
  replace e := ce_e (lx_5 k14 eg) e
  replace e := nx_e e
  obtain ⟨o18, e18, e⟩ := cl_s e
  obtain ⟨k18, A18⟩ := te_n hw (dk_wI k14) e18
  obtain ⟨o19, e19, e⟩ := cl_s e
  obtain ⟨k19, A19⟩ := te_s hw k18 e19
  have E19 := lei_e A19 (lei_e A18 (lei_f hw E14 (by decide)))
  rcases br_s e with ⟨_, e⟩ | ⟨_, e⟩
  · rw [so_e e]; exact ⟨k19, fun z => absurd rfl z⟩
  obtain ⟨o21, e21, e⟩ := cl_s e
  obtain ⟨k21, A21⟩ := te_n hw k19 e21
  exact iru_117 hw eg F k21 (lei_e A21 E19) e
end
