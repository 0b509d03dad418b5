section
/-! ENDINGS, the class: all that is touched from a position -/
section
variable {n F N q wA lA qA d t m a nT : Nat} {h h0 o : Hp} {nk : Nat → Nat} {rk : Nat → Nat → Int} {sb : Nat → Nat} {L : Nat → Nat → Int} {M tg : Nat → Int} {I : Hp → List (Nod × Bool) → Prop} {A : List (Nod × Bool)} {Pr Pr' : Cd → Prop} {x1 x2 x3 : Int32}
theorem mnc_up {v : Int} : ∀ (B : Nat), mnC (updM M t v) B + (if t < B ∧ 0 < M t then 1 else 0) = mnC M B + (if t < B ∧ 0 < v then 1 else 0) := by
  intro B
  induction B with
  | zero => rfl
  | succ B ih =>
    have e1 : mnC (updM M t v) (B + 1) = mnC (updM M t v) B + (if 0 < (if B = t then v else M B) then 1 else 0) := rfl
    have e2 : mnC M (B + 1) = mnC M B + (if 0 < M B then 1 else 0) := rfl
    rw [e1, e2]
    by_cases c : B = t
    · subst c
      have i1 : ¬ (B < B ∧ 0 < M B) := fun z => Nat.lt_irrefl _ z.1
      have i2 : ¬ (B < B ∧ 0 < v) := fun z => Nat.lt_irrefl _ z.1
      rw [if_neg i1, if_neg i2] at ih
      have p1 : (B < B + 1 ∧ 0 < M B) ↔ 0 < M B := ⟨fun z => z.2, fun z => ⟨Nat.lt_succ_self _, z⟩⟩
      have p2 : (B < B + 1 ∧ 0 < v) ↔ 0 < v := ⟨fun z => z.2, fun z => ⟨Nat.lt_succ_self _, z⟩⟩
      rw [show (if B = B then v else M B) = v from if_pos rfl]
      simp only [p1, p2]
      omega
    · have p1 : (t < B + 1 ∧ 0 < M t) ↔ (t < B ∧ 0 < M t) := ⟨fun z => ⟨by omega, z.2⟩, fun z => ⟨by omega, z.2⟩⟩
      have p2 : (t < B + 1 ∧ 0 < v) ↔ (t < B ∧ 0 < v) := ⟨fun z => ⟨by omega, z.2⟩, fun z => ⟨by omega, z.2⟩⟩
      simp only [p1, p2, if_neg c]
      omega
theorem pcb_m {b : Nat → Bool} : ∀ (k : Nat), (∀ i, i < k → (b i = true ↔ 0 < M i)) → pcB b k = mnC M k := by
  intro k
  induction k with
  | zero => intro _; rfl
  | succ k ih =>
    intro h
    show pcB b k + (if b k = true then 1 else 0) = mnC M k + (if 0 < M k then 1 else 0)
    rw [ih (fun i hi => h i (by omega))]
    have := h k (Nat.lt_succ_self _)
    by_cases c : 0 < M k
    · rw [if_pos c, if_pos (this.mpr c)]
    · rw [if_neg c, if_neg (fun z => c (this.mp z))]
theorem ndo_n (q0 : 0 < q) (q64 : q ≤ 64) (Fm : Fam L N nk rk) {k num : Nat} (O : NdO N nk rk q M k num) : nk k = mnC M 64 := enu_n (enu_g O.2.2.2 (enu_l q0 q64 (Fm.1 k O.1) O.2.2.1))
/-- the SET that was asked for is among the greatest -/
def TdE (n : Nat) (h : Hp) (N : Nat) (nk : Nat → Nat) (nT : Nat) : Prop := (∃ rt, KeyR (hI h (n + 62) 15) rt nT) ∧ ∀ k, k < N → nk k ≤ nT
theorem tbk_30 (TI : TcI n N nk sb q wA lA qA I) (E : LwE L N nk rk q) (k0 : DyK n h0 h0) (w6 : n + 610 ≤ wA ∧ n + 610 ≤ lA ∧ n + 610 ≤ qA) (B0 : GbB n h0 L N nk rk sb q M) (d2 : d < 2) (HM : MOk L M) (M0 : ∀ s, 0 ≤ M s) (tt : t < 64) (mt : 0 < M t) (mm : (m : Int) < L 2 0) (bo : ∀ s : Nat, s < 64 → (s : Int) < L 0 0 * L 1 0 → M s = 0 → BfO L (ndZ M d) s t m) (c4 : mnC M 64 ≤ 4) (e1 : x1.toInt = (t : Int)) (e2 : x2.toInt = 2 * (m : Int) + (d : Int)) (np : ∀ c, Pr c → ¬ (c.2.1 = t ∧ c.2.2.1 = m)) : ∀ (fu : Nat) {h : Hp} {x3 : Int32}, GbS n L N nk rk q M d wA lA qA I A h0 (fun c => Pr c ∨ (c.2.1 = t ∧ c.2.2.1 = m ∧ (c.2.2.2 = 15 ∨ (c.2.2.2 : Int) < x3.toInt))) h → 0 ≤ x3.toInt → x3.toInt ≤ 12 → sX0_takeBack_30 F fu h (n + 62) x1 x2 x3 = some o → GbS n L N nk rk q M d wA lA qA I A h0 (fun c => Pr c ∨ (c.2.1 = t ∧ c.2.2.1 = m)) o := by
  have z1 : (1 : Int32).toInt = 1 := rfl
  have z2 : (2 : Int32).toInt = 2 := rfl
  have zm : (-1 : Int32).toInt = -1 := rfl
  obtain ⟨⟨OK, LD, Nc⟩, Fm, q0, q64, eq⟩ := id E
  have L2 := OK.1.2.2.1
  have kr := OK.2.1.2.1
  intro fu
  induction fu with
  | zero => intro h x3 _ _ _ e; exact absurd e (by rw [sX0_takeBack_30]; exact fun z => nomatch z)
  | succ fu ih =>
    intro h x3 S l3 u3 e
    have kh := S.1.1.1 _ k0
    have Bh := gbb_f w6 k0 S.1.1 S.1.2 B0
    have C := Bh.1.1
    rw [sX0_takeBack_30] at e
    have m3 : (hI h (n + 5) 3).toInt = L 2 0 := C.2.1.2.2.2.1
    have m4 : (hI h (n + 5) 4).toInt = L 10 0 := C.2.2.2.1.1
    have r0 := dk_e (a := 62) (f := 0) (b := 5) kh (by decide +kernel)
    replace e := ce_e r0 e
    rcases br_s e with ⟨c1, e⟩ | ⟨c1, e⟩
    · have c1 := le_i c1
      rw [so_e e]
      refine gbs_w S (fun c tc => ⟨fun y => ?_, fun y => ?_⟩)
      · rcases y with y | y
        · exact Or.inl y
        · exact Or.inr ⟨y.1, y.2.1⟩
      · rcases y with y | y
        · exact Or.inl y
        · refine Or.inr ⟨y.1, y.2, ?_⟩
          rcases tc.1.2 with w | w
          · exact Or.inl w
          · exact Or.inr (by omega)
    have c1 := nle_i c1
    have v3 : (x3 + (1 : Int32)).toInt = x3.toInt + 1 := by rw [ta (by omega), z1]
    have n3 := nc_i l3
    replace e := ce_e r0 e
    unfold sX0_takeBack_67 at e
    rcases br_s e with ⟨c2, e⟩ | ⟨c2, e⟩
    · replace e := nx_e e
      refine ih (gbs_w S (fun c tc => ⟨fun y => ?_, fun y => ?_⟩)) (by omega) (by omega) e
      · rcases y with y | ⟨y1, y2, y3⟩
        · exact Or.inl y
        · exact Or.inr ⟨y1, y2, by rw [v3]; omega⟩
      · rcases y with y | ⟨y1, y2, y3⟩
        · exact Or.inl y
        · refine Or.inr ⟨y1, y2, ?_⟩
          rw [v3] at y3
          have := tc.2.1
          rw [c2, m4] at y3 ⊢
          omega
    · obtain ⟨o5, e5, e⟩ := cl_s e
      replace e := nx_e e
      have c2' : ¬ x3.toInt = L 10 0 := fun z => c2 (Int32.toInt_inj.mp (by rw [m4]; exact z))
      have a1 : (x2 &&& (1 : Int32)).toInt = (d : Int) := by rw [and1_i (by omega), e2]; omega
      have a2 : ((2 : Int32) * x3).toInt = 2 * x3.toInt := by rw [tm (by rw [z2]; omega), z2]
      have a3 : (((2 : Int32) * x3) + (1 : Int32)).toInt = 2 * x3.toInt + 1 := by rw [ta (by rw [a2, z1]; omega), a2, z1]
      have a4 : ((((2 : Int32) * x3) + (1 : Int32)) - (x2 &&& (1 : Int32))).toInt = 2 * (x3.toNatClampNeg : Int) + (1 - (d : Int)) := by rw [ts (by rw [a3, a1]; omega), a3, a1, n3]; omega
      have S5 := tbt_k (a := x3.toNatClampNeg) TI E k0 w6 B0 d2 HM M0 tt mt mm bo (Or.inr (by omega)) (by omega) (by
        rw [if_neg (by omega)]
        have := mnc_up (M := M) (t := t) (v := cdV (x3.toNatClampNeg : Int) (1 - (d : Int))) 64
        have p : 0 < cdV (x3.toNatClampNeg : Int) (1 - (d : Int)) := by unfold cdV; omega
        rw [if_pos ⟨tt, mt⟩, if_pos ⟨tt, p⟩] at this
        omega) e1 e2 (Or.inr ⟨fun z => by rw [z, zm] at a4; omega, by omega, a4⟩) (fun c y w => by
        rcases y with y | ⟨y1, y2, y3⟩
        · exact np c y ⟨w.1, w.2.1⟩
        · have := w.2.2
          omega) S e5
      refine ih (gbs_w S5 (fun c tc => ⟨fun y => ?_, fun y => ?_⟩)) (by omega) (by omega) e
      · rcases y with (y | ⟨y1, y2, y3⟩) | ⟨y1, y2, y3⟩
        · exact Or.inl y
        · exact Or.inr ⟨y1, y2, by rw [v3]; omega⟩
        · exact Or.inr ⟨y1, y2, by rw [v3]; omega⟩
      · rcases y with y | ⟨y1, y2, y3⟩
        · exact Or.inl (Or.inl y)
        · rw [v3] at y3
          by_cases w : c.2.2.2 = 15 ∨ (c.2.2.2 : Int) < x3.toInt
          · exact Or.inl (Or.inr ⟨y1, y2, w⟩)
          · exact Or.inr ⟨y1, y2, by omega⟩
theorem tbk_w (hF : 700000 ≤ F) (TI : TcI n N nk sb q wA lA qA I) (E : LwE L N nk rk q) (k0 : DyK n h0 h0) (w6 : n + 610 ≤ wA ∧ n + 610 ≤ lA ∧ n + 610 ≤ qA) (B0 : GbB n h0 L N nk rk sb q M) (T0 : TdE n h0 N nk nT) (d2 : d < 2) (HM : MOk L M) (M0 : ∀ s, 0 ≤ M s) (c5 : mnC M 64 ≤ 5) (tt : t < 64) (mt : 0 < M t) (mm : (m : Int) < L 2 0) (bo : ∀ s : Nat, s < 64 → (s : Int) < L 0 0 * L 1 0 → M s = 0 → BfO L (ndZ M d) s t m) (e1 : x1.toInt = (t : Int)) (e2 : x2.toInt = 2 * (m : Int) + (d : Int)) (np : ∀ c, Pr c → ¬ (c.2.1 = t ∧ c.2.2.1 = m)) (S : GbS n L N nk rk q M d wA lA qA I A h0 Pr h) (e : sX0_takeBack F h (n + 62) x1 x2 = some o) : GbS n L N nk rk q M d wA lA qA I A h0 (fun c => Pr c ∨ (c.2.1 = t ∧ c.2.2.1 = m)) o := by
  have z0 : (0 : Int32).toInt = 0 := rfl
  have s0 := dk_610 k0
  obtain ⟨⟨OK, LD, Nc⟩, Fm, q0, q64, eq⟩ := id E
  have kr := OK.2.1.2.1
  have L2 := OK.1.2.2.1
  unfold sX0_takeBack at e
  obtain ⟨h1, e1', e⟩ := cl_s e
  have S1 := tbt_k (a := 15) TI E k0 w6 B0 d2 HM M0 tt mt mm bo (Or.inl rfl) (by omega) (by
    rw [if_pos rfl]
    have := mnc_up (M := M) (t := t) (v := 0) 64
    rw [if_pos ⟨tt, mt⟩, if_neg (fun z => absurd z.2 (by decide))] at this
    omega) e1 e2 (Or.inl ⟨rfl, rfl⟩) (fun c y w => np c y ⟨w.1, w.2.1⟩) S e1'
  have k1 := S1.1.1.1 _ k0
  have B1 := gbb_f w6 k0 S1.1.1 S1.1.2 B0
  replace e := ce_e (dk_e (a := 62) (f := 3) (b := 63) k1 (by decide +kernel)) e
  obtain ⟨o3, e3, e⟩ := cl_s e
  obtain ⟨p3, bits⟩ := occ_w (M := M) ((e63f k1) (1, 2) (by decide)) B1.2.2.1 e3
  rw [p3] at e
  obtain ⟨o4, e4, e⟩ := cl_s e
  obtain ⟨p4, v4⟩ := bitc_v e4
  rw [pcb_m (M := M) 64 bits] at v4
  rw [p4] at e
  obtain ⟨o5, e5, e⟩ := cl_s e
  obtain ⟨rt, Kt⟩ := T0.1
  have e15 : hI h1 (n + 62) 15 = hI h0 (n + 62) 15 := (S1.1.2.2 (n + 62) 15 (by omega) (fun z => by unfold WGb WRo WTc at z; omega)).1
  rw [e15] at e5
  obtain ⟨p5, v5⟩ := ksz_x hF Kt e5
  rw [p5] at e
  have nT5 := Kt.1
  rcases br_s e with ⟨c, e⟩ | ⟨c, e⟩
  · have c := lt_i c
    rw [v4, v5] at c
    refine tbk_30 (Pr := Pr) TI E k0 w6 B0 d2 HM M0 tt mt mm bo (by omega) e1 e2 np F (gbs_w S1 (fun x tc => ⟨fun y => ?_, fun y => ?_⟩)) (by decide) (by decide) e
    · rcases y with y | y
      · exact Or.inl y
      · exact Or.inr ⟨y.1, y.2.1, Or.inl y.2.2⟩
    · rcases y with y | ⟨y1, y2, y3⟩
      · exact Or.inl y
      · refine Or.inr ⟨y1, y2, ?_⟩
        rw [z0] at y3
        omega
  · have c := nlt_i c
    rw [v4, v5] at c
    rw [so_e e]
    refine gbs_w S1 (fun x tc => ⟨fun y => ?_, fun y => ?_⟩)
    · rcases y with y | y
      · exact Or.inl y
      · exact Or.inr ⟨y.1, y.2.1⟩
    · rcases y with y | ⟨y1, y2⟩
      · exact Or.inl y
      · refine Or.inr ⟨y1, y2, ?_⟩
        apply Classical.byContradiction
        intro na
        obtain ⟨⟨O, _⟩, _, _, k, num, No⟩ := tc
        have nn := ndo_n q0 q64 Fm No
        have le := T0.2 k No.1
        obtain ⟨cs, ct, cm, ca⟩ := x
        have y1 : ct = t := y1
        have na : ¬ ca = 15 := na
        have ne := bf_ne O
        have ne : ¬ cs = ct := ne
        have s64 : cs < 64 := O.1.1
        have ms : M cs = 0 := O.1.2.2
        have bd : (cdP (ndZ M d) (cs, ct, cm, ca)).1 = updM (updM M ct (if ca = 15 then 0 else cdV ca (1 - (d : Int)))) cs (cdV cm d) := rfl
        rw [bd, if_neg na] at nn
        have u1 := mnc_up (M := M) (t := ct) (v := cdV (ca : Int) (1 - (d : Int))) 64
        have u2 := mnc_up (M := updM M ct (cdV (ca : Int) (1 - (d : Int)))) (t := cs) (v := cdV (cm : Int) (d : Int)) 64
        have ms' : updM M ct (cdV (ca : Int) (1 - (d : Int))) cs = 0 := by
          show (if cs = ct then _ else M cs) = 0
          rw [if_neg ne]; exact ms
        have p1 : 0 < cdV (ca : Int) (1 - (d : Int)) := by unfold cdV; omega
        have p2 : 0 < cdV (cm : Int) (d : Int) := by unfold cdV; omega
        rw [if_pos ⟨by omega, by rw [y1]; exact mt⟩, if_pos ⟨by omega, p1⟩] at u1
        rw [ms', if_neg (fun z => absurd z.2 (by decide)), if_pos ⟨s64, p2⟩] at u2
        omega
/-- a man as others that become him -/
theorem gob_92 {K : Hp → Nat → Int32 → Int64 → Int32 → Option Hp} {Q : Hp → Prop} {y : Nat} {x3 : Int64} {x5 x6 x7 : Int32} (hF : 700000 ≤ F) (TI : TcI n N nk sb q wA lA qA I) (E : LwE L N nk rk q) (k0 : DyK n h0 h0) (w6 : n + 610 ≤ wA ∧ n + 610 ≤ lA ∧ n + 610 ≤ qA) (B0 : GbB n h0 L N nk rk sb q M) (T0 : TdE n h0 N nk nT) (d2 : d < 2) (HM : MOk L M) (M0 : ∀ s, 0 ≤ M s) (c5 : mnC M 64 ≤ 5) (tt : t < 64) (ty : 0 < M t ∧ (M t - 1) % 2 = (d : Int)) (ey : y = mnO (M t)) (e2 : x2.toInt = (d : Int)) (e6 : x6.toInt = (t : Int)) (e7 : x7.toInt = M t - 1) (np : ∀ c, Pr c → ¬ c.2.1 = t) (hK : ∀ {u : Hp}, GbS n L N nk rk q M d wA lA qA I A h0 (fun c => Pr c ∨ c.2.1 = t) u → K u (n + 62) x2 x3 (x5 + (1 : Int32)) = some o → Q o) : ∀ (fu : Nat) {h : Hp} {x8 : Int32}, GbS n L N nk rk q M d wA lA qA I A h0 (fun c => Pr c ∨ (c.2.1 = t ∧ (c.2.2.1 = y ∨ (c.2.2.1 : Int) < x8.toInt))) h → 0 ≤ x8.toInt → sX0_goBack_92 F K fu h (n + 62) x2 x3 x5 x6 x7 x8 = some o → Q o := by
  have z1 : (1 : Int32).toInt = 1 := rfl
  have z2 : (2 : Int32).toInt = 2 := rfl
  obtain ⟨⟨OK, LD, Nc⟩, Fm, q0, q64, eq⟩ := id E
  have H := OK.1
  have L2 := H.2.2.1
  have tL := ((HM t tt).2 ty.1).1
  have ml := mno_lt (L := L) ty.1 ((HM t tt).2 ty.1).2
  intro fu
  induction fu with
  | zero => intro h x8 _ _ e; exact absurd e (by rw [sX0_goBack_92]; exact fun z => nomatch z)
  | succ fu ih =>
    intro h x8 S l8 e
    have kh := S.1.1.1 _ k0
    have Bh := gbb_f w6 k0 S.1.1 S.1.2 B0
    have C := Bh.1.1
    rw [sX0_goBack_92] at e
    unfold sX0_goBack_151 sX0_goBack_145 at e
    have m3 : (hI h (n + 5) 3).toInt = L 2 0 := C.2.1.2.2.2.1
    have fin : (∀ c, c.2.1 = t → TcC L N nk rk q (ndZ M d) c → c.2.2.1 = y ∨ (c.2.2.1 : Int) < x8.toInt) → K h (n + 62) x2 x3 (x5 + (1 : Int32)) = some o → Q o := fun al e => hK (gbs_w S (fun c tc => ⟨fun z => by
      rcases z with z | z
      · exact Or.inl z
      · exact Or.inr z.1, fun z => by
      rcases z with z | z
      · exact Or.inl z
      · exact Or.inr ⟨z, al c z tc⟩⟩)) e
    have r0 := dk_e (a := 62) (f := 0) (b := 5) kh (by decide +kernel)
    replace e := ce_e r0 e
    rcases br_s e with ⟨c1, e⟩ | ⟨c1, e⟩
    · have c1 := le_i c1
      replace e := nx_e e
      exact fin (fun c _ tc => Or.inr (by have := tc.1.1.2.2.1; omega)) e
    have c1 := nle_i c1
    replace e := ce_e r0 e
    obtain ⟨o4, e4, e⟩ := cl_s e
    obtain ⟨l1, l2⟩ := last_v (V := vK n 0 0 0 0 0 0) H C.2.1 (dk_e (a := 5) (f := 20) (b := 12) kh (by decide +kernel)) e6 tL ⟨by omega, by omega⟩ e4
    rw [e2] at l2
    rw [l1] at e
    rcases br_s e with ⟨c2, e⟩ | ⟨c2, e⟩
    · rcases l2 with ⟨_, l2⟩ | ⟨l2, _⟩
      · replace e := nx_e e
        refine fin (fun c ct b => ?_) e
        have bm := b.1.1.2.2.2
        rw [ct] at bm
        rcases bm with w | w
        · exact Or.inl (by rw [ey]; exact w)
        · exact absurd w.1 l2
      · rw [l2] at c2; exact absurd c2 (by decide)
    rcases l2 with ⟨l2, _⟩ | ⟨_, l2⟩
    · exact absurd l2 c2
    replace e := ce_e r0 e
    obtain ⟨o7, e7', e⟩ := cl_s e
    have n8 := nc_i l8
    have m12 : x8.toNatClampNeg < 12 := by omega
    have e7y : (x7 >>> ((1 : Int32) &&& 31)).toInt = (y : Int) := by rw [ti_shr1, e7, ey, ← ml.2]
    obtain ⟨b1, b2⟩ := bth_c (y := y) C m12 n8.symm e7y kh e7'
    rw [b1] at e
    have v8 : (x8 + (1 : Int32)).toInt = x8.toInt + 1 := by rw [ta (by omega), z1]
    rcases br_s e with ⟨c3, e⟩ | ⟨c3, e⟩
    · rcases b2 with ⟨_, b2⟩ | ⟨b2, _⟩
      rotate_left
      · exact absurd c3 b2
      replace e := nx_e e
      refine ih (gbs_w S (fun c b => ⟨fun z => ?_, fun z => ?_⟩)) (by omega) e
      · rcases z with z | ⟨z1, z2⟩
        · exact Or.inl z
        · exact Or.inr ⟨z1, by rw [v8]; omega⟩
      · rcases z with z | ⟨z1, z2⟩
        · exact Or.inl z
        · rw [v8] at z2
          refine Or.inr ⟨z1, ?_⟩
          by_cases w : c.2.2.1 = y
          · exact Or.inl w
          · by_cases w2 : (c.2.2.1 : Int) < x8.toInt
            · exact Or.inr w2
            · have w3 : c.2.2.1 = x8.toNatClampNeg := by omega
              have bm := b.1.1.2.2.2
              rw [z1] at bm
              have bm : c.2.2.1 = mnO (M t) ∨ (rkF L t d = L 1 0 ∧ ∃ k : Nat, (k : Int) < L 81 c.2.2.1 ∧ L 80 (6 * c.2.2.1 + k) = ((mnO (M t) : Nat) : Int)) := bm
              rw [← ey] at bm
              rcases bm with u | ⟨_, u⟩
              · exact absurd u w
              · rw [w3] at u; exact absurd u b2
    · rcases b2 with ⟨b2, _⟩ | ⟨_, b2⟩
      · exact absurd b2 c3
      obtain ⟨o9, e9, e⟩ := cl_s e
      replace e := nx_e e
      obtain ⟨u, u1, u2⟩ := b2
      have ny : ¬ x8.toNatClampNeg = y := fun z => by
        have := (LD.2 _ u m12 u1).1
        rw [u2, ← z] at this
        have e0 : ((x8.toNatClampNeg : Nat) : Int).toNat = x8.toNatClampNeg := by omega
        rw [e0] at this
        omega
      have ec : (((2 : Int32) * x8) + x2).toInt = 2 * ((x8.toNatClampNeg : Nat) : Int) + (d : Int) := by
        have a2 : ((2 : Int32) * x8).toInt = 2 * x8.toInt := by rw [tm (by rw [z2]; omega), z2]
        rw [ta (by rw [a2, e2]; omega), a2, e2, n8]
      have S9 := tbk_w (t := t) (m := x8.toNatClampNeg) hF TI E k0 w6 B0 T0 d2 HM M0 c5 tt ty.1 (by omega) (fun s s64 sL s0 => ⟨⟨s64, sL, s0⟩, ⟨tt, ty⟩, by omega, Or.inr ⟨l2, u, u1, by rw [u2, ey]; rfl⟩⟩) e6 ec (fun c z w => by
        rcases z with z | ⟨z1, z2⟩
        · exact np c z w.1
        · rcases z2 with z2 | z2
          · exact ny (by rw [← w.2, z2])
          · have := w.2
            omega) S e9
      refine ih (gbs_w S9 (fun c b => ⟨fun z => ?_, fun z => ?_⟩)) (by omega) e
      · rcases z with (z | ⟨z1, z2⟩) | ⟨z1, z2⟩
        · exact Or.inl z
        · exact Or.inr ⟨z1, by rw [v8]; omega⟩
        · exact Or.inr ⟨z1, Or.inr (by rw [v8]; omega)⟩
      · rcases z with z | ⟨z1, z2⟩
        · exact Or.inl (Or.inl z)
        · rw [v8] at z2
          by_cases w : c.2.2.1 = y ∨ (c.2.2.1 : Int) < x8.toInt
          · exact Or.inl (Or.inr ⟨z1, w⟩)
          · exact Or.inr ⟨z1, by omega⟩
theorem gob_44 (hF : 700000 ≤ F) (TI : TcI n N nk sb q wA lA qA I) (E : LwE L N nk rk q) (k0 : DyK n h0 h0) (w6 : n + 610 ≤ wA ∧ n + 610 ≤ lA ∧ n + 610 ≤ qA) (B0 : GbB n h0 L N nk rk sb q M) (T0 : TdE n h0 N nk nT) (d2 : d < 2) (HM : MOk L M) (M0 : ∀ s, 0 ≤ M s) (c5 : mnC M 64 ≤ 5) (e2 : x2.toInt = (d : Int)) : ∀ (fu : Nat) {h : Hp} {x3 : Int64} {x5 : Int32}, GbS n L N nk rk q M d wA lA qA I A h0 (fun c => ¬ (c.2.1 < 64 ∧ bitJ x3 c.2.1 = true)) h → (∀ s : Nat, s < 64 → bitJ x3 s = true → 0 < M s ∧ (M s - 1) % 2 = (d : Int)) → 0 ≤ x5.toInt → (∀ s : Nat, s < 64 → (s : Int) < x5.toInt → bitJ x3 s = false) → sX0_goBack_44 F fu h (n + 62) x2 x3 x5 = some o → GbS n L N nk rk q M d wA lA qA I A h0 (fun _ => True) o := by
  have z1 : (1 : Int32).toInt = 1 := rfl
  have z64 : (64 : Int32).toInt = 64 := rfl
  intro fu
  induction fu with
  | zero => intro h x3 x5 _ _ _ _ e; exact absurd e (by rw [sX0_goBack_44]; exact fun z => nomatch z)
  | succ fu ih =>
    intro h x3 x5 S B3 l5 lo e
    have kh := S.1.1.1 _ k0
    have Bh := gbb_f w6 k0 S.1.1 S.1.2 B0
    rw [sX0_goBack_44] at e
    unfold sX0_goBack_157 at e
    have fin : (∀ s, s < 64 → bitJ x3 s = false) → some h = some o → GbS n L N nk rk q M d wA lA qA I A h0 (fun _ => True) o := fun z e => by
      rw [so_e e]
      exact gbs_w S (fun c _ => ⟨fun _ => trivial, fun _ w => by rw [z _ w.1] at w; exact absurd w.2 (by decide)⟩)
    rcases br_s e with ⟨l, e⟩ | ⟨l, e⟩
    · have l := le_i l
      rw [z64] at l
      exact fin (fun s hs => lo s hs (by omega)) e
    have l := nle_i l
    rw [z64] at l
    rcases br_s e with ⟨z, e⟩ | ⟨z, e⟩
    · exact fin (j_zero.mp (cmp_eq z)) e
    obtain ⟨o3, e3, e⟩ := cl_s e
    obtain ⟨lh, t, ht, vt, pt, tl, rest⟩ := low_v e3 z
    rw [lh] at e
    obtain ⟨v4, u4, e⟩ := nm_s e
    rw [← u4] at rest
    replace e := ce_e (dk_e (a := 62) (f := 3) (b := 63) kh (by decide +kernel)) e
    replace e := ce_e ((e63f kh) (0, 1) (by decide)) e
    replace e := gg_e e
    obtain ⟨v8, u8, e⟩ := nm_s e
    have n3 : o3.1.toNatClampNeg = t := by have := nc_i (x := o3.1) (by omega); omega
    rw [n3] at u8
    obtain ⟨t0, ts'⟩ := B3 t ht pt
    have v8e : v8.toInt = M t - 1 := by rw [u8]; exact Bh.2.1 t ht
    have mt := (HM t ht).2 t0
    have ml := mno_lt (L := L) t0 mt.2
    have cde : v8.toInt = 2 * ((mnO (M t) : Nat) : Int) + (d : Int) := by
      have := ml.2
      rw [v8e]; omega
    obtain ⟨o9, e9, e⟩ := cl_s e
    have S9 := tbk_w (t := t) (m := mnO (M t)) hF TI E k0 w6 B0 T0 d2 HM M0 c5 ht t0 ml.1 (fun s s64 sL s0 => ⟨⟨s64, sL, s0⟩, ⟨ht, t0, ts'⟩, ml.1, Or.inl rfl⟩) vt cde (fun c y w => y ⟨by rw [w.1]; exact ht, by rw [w.1]; exact pt⟩) S e9
    refine gob_92 (Pr := fun c => ¬ (c.2.1 < 64 ∧ bitJ x3 c.2.1 = true)) (Q := fun o => GbS n L N nk rk q M d wA lA qA I A h0 (fun _ => True) o) (t := t) (y := mnO (M t)) hF TI E k0 w6 B0 T0 d2 HM M0 c5 ht ⟨t0, ts'⟩ rfl e2 vt v8e (fun c y w => y ⟨by rw [w]; exact ht, by rw [w]; exact pt⟩) (fun {u} s2 e => ?_) F (gbs_w S9 (fun c _ => ⟨fun y => ?_, fun y => ?_⟩)) (by decide) e
    · refine ih (gbs_w s2 (fun c _ => ⟨fun y w => ?_, fun y => ?_⟩)) (fun s hs b => B3 s hs (by
        rw [rest s hs, Bool.and_eq_true] at b
        exact b.1)) (by rw [ta (by omega), z1]; omega) (fun s hs ls => ?_) e
      · have wb := w.2
        rw [rest _ w.1, Bool.and_eq_true] at wb
        rcases y with y | y
        · exact y ⟨w.1, wb.1⟩
        · rw [y, decide_eq_true rfl] at wb
          exact absurd wb.2 (by decide)
      · by_cases w : c.2.1 = t
        · exact Or.inr w
        · refine Or.inl (fun u => y ⟨u.1, ?_⟩)
          rw [rest _ u.1, u.2, decide_eq_false (fun v => w v.symm)]; rfl
      · rw [ta (by omega), z1] at ls
        rw [rest s hs]
        by_cases c : s < t
        · rw [tl s c]; rfl
        · by_cases d : t = s
          · rw [decide_eq_true d]; cases bitJ x3 s <;> rfl
          · have : (t : Int) < x5.toInt := by omega
            rw [lo t ht this] at pt
            exact absurd pt (by decide)
    · rcases y with y | y
      · exact Or.inl y
      · exact Or.inr ⟨y.1, Or.inl y.2⟩
    · rcases y with y | ⟨y1, y2⟩
      · exact Or.inl y
      · refine Or.inr ⟨y1, ?_⟩
        have z0 : (0 : Int32).toInt = 0 := rfl
        rw [z0] at y2
        omega
end
end
section
/-! ENDINGS, the class: goBack whole -/
section
variable {n F N q wA lA qA sd nT : Nat} {h h0 o : Hp} {nk : Nat → Nat} {rk : Nat → Nat → Int} {sb : Nat → Nat} {L : Nat → Nat → Int} {M : Nat → Int} {I : Hp → List (Nod × Bool) → Prop} {A : List (Nod × Bool)} {x1 x2 : Int32}
/-- codes touched from a position -/
def TcY (L : Nat → Nat → Int) (N : Nat) (nk : Nat → Nat) (rk : Nat → Nat → Int) (q : Nat) (M : Nat → Int) (sd : Nat) (c : Cd) : Prop := (L 17 0 = 0 ∨ ¬ RyH L M sd) ∧ TcC L N nk rk q (ndZ M (1 - sd)) c
theorem gob_k {s' : Nat} (hF : 700000 ≤ F) (TI : TcI n N nk sb q wA lA qA I) (E : LwE L N nk rk q) (k0 : DyK n h h) (w6 : n + 610 ≤ wA ∧ n + 610 ≤ lA ∧ n + 610 ≤ qA) (B0 : GbB n h L N nk rk sb q M) (T0 : TdE n h N nk nT) (Z : EbZ n h) (es : (hI h (n + 63) 5).toInt = (s' : Int)) (s2 : s' < 2) (HM : MOk L M) (U : UnM M (L 10 0)) (M0 : ∀ s, 0 ≤ M s) (c5 : mnC M 64 ≤ 5) (sd2 : sd < 2) (e1 : x1.toInt = (sd : Int)) (I0 : I h A) (e : sX0_goBack F h (n + 62) x1 = some o) : (DkT n h o ∧ FrW (WGb n wA lA qA) h o) ∧ ∃ l : List Cd, l.Nodup ∧ (∀ c, c ∈ l ↔ TcY L N nk rk q M sd c) ∧ I o (A ++ l.map (tnC N nk rk q M (1 - sd))) := by
  have z1 : (1 : Int32).toInt = 1 := rfl
  obtain ⟨⟨OK, LD, Nc⟩, Fm, q0, q64, eq⟩ := id E
  have C := B0.1.1
  unfold sX0_goBack at e
  obtain ⟨v1, w1, e⟩ := nm_s e
  have y1 : v1.toInt = ((1 - sd : Nat) : Int) := by rw [w1, ts (by rw [z1]; omega), z1]; omega
  have none : ¬ (L 17 0 = 0 ∨ ¬ RyH L M sd) → some h = some o → (DkT n h o ∧ FrW (WGb n wA lA qA) h o) ∧ ∃ l : List Cd, l.Nodup ∧ (∀ c, c ∈ l ↔ TcY L N nk rk q M sd c) ∧ I o (A ++ l.map (tnC N nk rk q M (1 - sd))) := fun nb e => by
    rw [so_e e]
    refine ⟨⟨dkt_0, fw_0⟩, [], List.nodup_nil, fun c => ⟨fun z => absurd z (List.not_mem_nil), fun z => absurd z.1 nb⟩, ?_⟩
    rw [List.map_nil, List.append_nil]
    exact I0
  have go : (L 17 0 = 0 ∨ ¬ RyH L M sd) → sX0_goBack_31 F h (n + 62) v1 = some o → (DkT n h o ∧ FrW (WGb n wA lA qA) h o) ∧ ∃ l : List Cd, l.Nodup ∧ (∀ c, c ∈ l ↔ TcY L N nk rk q M sd c) ∧ I o (A ++ l.map (tnC N nk rk q M (1 - sd))) := fun ok e => by
    unfold sX0_goBack_31 at e
    replace e := ce_e (dk_e (a := 62) (f := 3) (b := 63) k0 (by decide +kernel)) e
    replace e := ce_e ((e63f k0) (1, 2) (by decide)) e
    replace e := gg_e e
    obtain ⟨v4, w4, e⟩ := nm_s e
    have nv : v1.toNatClampNeg = 1 - sd := by have := nc_i (x := v1) (by omega); omega
    rw [nv] at w4
    have b4 : ∀ s, s < 64 → (bitJ v4 s = true ↔ (0 < M s ∧ (M s - 1) % 2 = ((1 - sd : Nat) : Int))) := fun s hs => by rw [w4]; exact B0.2.2.1 (1 - sd) (by omega) s hs
    have S0 : GbS n L N nk rk q M (1 - sd) wA lA qA I A h (fun c => ¬ (c.2.1 < 64 ∧ bitJ v4 c.2.1 = true)) h := by
      refine ⟨⟨dkt_0, fw_0⟩, [], List.nodup_nil, fun c => ⟨fun z => absurd z (List.not_mem_nil), fun z => ?_⟩, by rw [List.map_nil, List.append_nil]; exact I0⟩
      have t := z.2.1.1.2.1
      exact absurd ⟨t.1, (b4 _ t.1).mpr t.2⟩ z.1
    obtain ⟨r1, l, r2, r3, r4⟩ := gob_44 hF TI E k0 w6 B0 T0 (by omega) HM M0 c5 y1 F S0 (fun s hs b => (b4 s hs).mp b) (by decide) (fun s _ ls => by have : (0 : Int32).toInt = 0 := rfl; omega) e
    exact ⟨r1, l, r2, fun c => by rw [r3]; exact ⟨fun z => ⟨ok, z.2⟩, fun z => ⟨trivial, z.2⟩⟩, r4⟩
  replace e := ce_e (dk_e (a := 62) (f := 0) (b := 5) k0 (by decide +kernel)) e
  obtain ⟨o3, e3, e⟩ := cl_s e
  obtain ⟨t1, t2⟩ := has_v (V := vK n 0 0 0 0 0 0) e3
  rw [t1] at e
  have sh : (hI h (n + 5) 10) &&& (4 : Int32) = 0 ↔ L 17 0 = 0 := C.2.2.1.2.1.2.2.1
  rcases br_s e with ⟨c3, e⟩ | ⟨c3, e⟩
  · rcases t2 with ⟨_, t2⟩ | ⟨t2, _⟩
    · exact go (Or.inl (sh.mp t2)) e
    · rw [t2] at c3; exact absurd c3 (by decide)
  rcases t2 with ⟨t2, _⟩ | ⟨_, t2⟩
  · exact absurd t2 c3
  replace e := ce_e (dk_e (a := 62) (f := 2) (b := 30) k0 (by decide +kernel)) e
  replace e := ce_e (dk_e (a := 62) (f := 3) (b := 63) k0 (by decide +kernel)) e
  obtain ⟨o7, e7, e⟩ := cl_s e
  have A0 := eb_cpa (L := L) (sd := s') k0 B0.2 Z es
  obtain ⟨y1', y2⟩ := ryh_k (d := sd) OK.1 (nd_pz HM U s2) C A0 e1 sd2 e7
  rw [y1'] at e
  rcases br_s e with ⟨c7, e⟩ | ⟨c7, e⟩
  · rcases y2 with ⟨_, y2⟩ | ⟨y2, _⟩
    · exact go (Or.inr y2) e
    · rw [y2] at c7; exact absurd c7 (by decide)
  · rcases y2 with ⟨y2, _⟩ | ⟨_, y2⟩
    · exact absurd y2 c7
    · refine none (fun z => ?_) e
      rcases z with w | w
      · exact t2 (sh.mpr w)
      · exact w y2
end
/-- a list of all that have a property, if there is one -/
noncomputable def LYc (P : Cd → Prop) : List Cd := @dite _ (∃ l : List Cd, l.Nodup ∧ ∀ c, c ∈ l ↔ P c) (Classical.propDecidable _) (fun h => Classical.choose h) (fun _ => [])
theorem lyc_1 {P : Cd → Prop} {l : List Cd} (n : l.Nodup) (m : ∀ c, c ∈ l ↔ P c) : (LYc P).Nodup ∧ ∀ c, c ∈ LYc P ↔ P c := by
  have ex : ∃ l : List Cd, l.Nodup ∧ ∀ c, c ∈ l ↔ P c := ⟨l, n, m⟩
  have e : LYc P = Classical.choose ex := dif_pos ex
  rw [e]
  exact Classical.choose_spec ex
theorem nd_cp {α : Type} [DecidableEq α] {l l' : List α} (n : l.Nodup) (n' : l'.Nodup) (m : ∀ c, c ∈ l ↔ c ∈ l') (p : α → Bool) : l.countP p = l'.countP p := by
  have le : ∀ (a b : List α), a.Nodup → (∀ c, c ∈ a → c ∈ b) → a.countP p ≤ b.countP p := fun a b na s => by
    rw [List.countP_eq_length_filter, List.countP_eq_length_filter]
    refine nd_len _ _ (List.Pairwise.filter _ na) (fun x hx => ?_)
    have := List.mem_filter.mp hx
    exact List.mem_filter.mpr ⟨s x this.1, this.2⟩
  exact Nat.le_antisymm (le l l' n (fun c h => (m c).mp h)) (le l' l n' (fun c h => (m c).mpr h))
theorem lyc_c {P : Cd → Prop} {l : List Cd} (n : l.Nodup) (m : ∀ c, c ∈ l ↔ P c) (p : Cd → Bool) : l.countP p = (LYc P).countP p := by
  obtain ⟨a, b⟩ := lyc_1 n m
  exact nd_cp n a (fun c => by rw [m, b]) p
end
section
/-! ENDINGS, the class: one place is touched -/
theorem and24 {x : Int32} {c : Nat} {t : Bool} (c4 : c < 4096) (e : x.toInt = (c : Int) + (if t = true then 16777216 else 0)) : (x &&& (16777216 : Int32) = 0) ↔ t = false := by
  have bn : x.toBitVec.toNat = c + (if t = true then 16777216 else 0) := by
    have a : x.toInt = x.toBitVec.toInt := rfl
    have b := BitVec.toInt_eq_toNat_cond x.toBitVec
    have lt := x.toBitVec.isLt
    rw [a] at e
    by_cases tt : t = true
    · rw [if_pos tt] at e ⊢
      rw [e] at b
      split at b <;> omega
    · rw [if_neg tt] at e ⊢
      rw [e] at b
      split at b <;> omega
  have an : (x &&& (16777216 : Int32)).toBitVec.toNat = x.toBitVec.toNat &&& 2 ^ 24 := by
    rw [Int32.toBitVec_and, BitVec.toNat_and]
    rfl
  have c24 : Nat.testBit c 24 = false := Nat.testBit_lt_two_pow (by omega)
  constructor
  · intro z
    cases t with
    | false => rfl
    | true =>
      exfalso
      rw [if_pos rfl] at bn
      rw [z, bn] at an
      have h := congrArg (fun y => Nat.testBit y 24) an
      have h : Nat.testBit 0 24 = Nat.testBit ((c + 16777216) &&& 2 ^ 24) 24 := h
      rw [Nat.zero_testBit, Nat.testBit_and, show c + 16777216 = 2 ^ 24 + c by omega, Nat.testBit_two_pow_add_eq, c24, Nat.testBit_two_pow_self] at h
      exact absurd h (by decide)
  · intro z
    rw [z, if_neg (by decide)] at bn
    apply Int32.toBitVec_inj.mp
    apply BitVec.eq_of_toNat_eq
    rw [an, bn]
    show (c + 0) &&& 2 ^ 24 = 0
    apply Nat.eq_of_testBit_eq
    intro i
    rw [Nat.zero_testBit, Nat.testBit_and, Nat.testBit_two_pow, Nat.add_zero]
    by_cases w : 24 = i
    · rw [← w, c24]; rfl
    · rw [decide_eq_false w, Bool.and_false]
section
variable {n N q wA lA qA : Nat} {h o h0 : Hp} {nk : Nat → Nat} {rk : Nat → Nat → Int} {sb : Nat → Nat} {x1 x2 : Int32} {W : Nod → Int} {A : List (Nod × Bool)} {D : List Nod} {tA : Nod → Bool} {S S0 : EtS} {ν : Nod} {b : Bool} {cur : Int}
/-- the rows of worths, counts, and those that wait -/
def TRf (n wA lA qA : Nat) (h : Hp) : Prop := (hR h (n + 62) 11 = some wA ∧ hR h (n + 62) 12 = some lA ∧ hR h (n + 62) 13 = some qA) ∧ (¬ wA = lA ∧ ¬ wA = qA ∧ ¬ lA = qA) ∧ (n + 610 ≤ wA ∧ wA < hS h) ∧ (n + 610 ≤ lA ∧ lA < hS h) ∧ (n + 610 ≤ qA ∧ qA < hS h) ∧ hN h qA = 600000
theorem trf_f (T : TRf n wA lA qA h) (R : HNR h o) (s : hS h ≤ hS o) : TRf n wA lA qA o := by
  obtain ⟨⟨a, b, c⟩, d, e, f, g, i⟩ := T
  exact ⟨⟨by rw [R.2]; exact a, by rw [R.2]; exact b, by rw [R.2]; exact c⟩, d, ⟨e.1, by omega⟩, ⟨f.1, by omega⟩, ⟨g.1, by omega⟩, by rw [R.1]; exact i⟩
theorem ix_u (S : FmC n h N nk rk sb q) {ν ν' : Nod} (a : NdA N nk q ν) (b : NdA N nk q ν') (ne : ¬ ν' = ν) : ¬ ixC sb ν' = ixC sb ν := fun z => ne (at_c S b a z)
/-- while moves are counted -/
def ICt (n N : Nat) (nk : Nat → Nat) (sb : Nat → Nat) (q wA lA qA : Nat) (W : Nod → Int) (h : Hp) (A : List (Nod × Bool)) : Prop := TRf n wA lA qA h ∧ (hI h (n + 62) 17 = (3000000 : Int32) ∧ hI h (n + 62) 16 = 0) ∧ (∀ ν, NdA N nk q ν → (hI h wA (ixC sb ν)).toInt = W ν) ∧ ∀ ν, NdA N nk q ν → W ν = 3000000 → (hI h lA (ixC sb ν)).toBitVec = BitVec.ofNat 32 (A.count (ν, false) + 4096 * A.count (ν, true))
theorem cnt_n {ν' : Nod} {b' : Bool} (ne : ¬ ν' = ν) : (A ++ [(ν, b)]).count (ν', b') = A.count (ν', b') := by
  rw [List.count_append, List.count_cons_of_ne (fun z => ne (congrArg Prod.fst z).symm), List.count_nil, Nat.add_zero]
theorem cnt_bb {b' : Bool} (ne : ¬ b' = b) : (A ++ [(ν, b)]).count (ν, b') = A.count (ν, b') := by
  rw [List.count_append, List.count_cons_of_ne (fun z => ne (congrArg Prod.snd z).symm), List.count_nil, Nat.add_zero]
theorem cnt_s : (A ++ [(ν, b)]).count (ν, b) = A.count (ν, b) + 1 := by
  rw [List.count_append, List.count_cons_self, List.count_nil]
theorem tci_c (Fc : FmC n h0 N nk rk sb q) : TcI n N nk sb q wA lA qA (ICt n N nk sb q wA lA qA W) := by
  refine ⟨fun h o A k ⟨T, c17, wv, lv⟩ dk Fr => ?_, fun h o A ν b x1 x2 k ⟨T, c17, wv, lv⟩ na e1 e2 e => ?_⟩
  · have s6 := dk_610 k
    obtain ⟨_, _, w1, w2, w3, _⟩ := id T
    refine ⟨trf_f T dk.2 Fr.1, ?_, fun ν na => ?_, fun ν na wo => ?_⟩
    · exact ⟨by rw [(Fr.2 (n + 62) 17 (by omega) (fun z => by unfold WRo at z; omega)).1]; exact c17.1, by rw [(Fr.2 (n + 62) 16 (by omega) (fun z => by unfold WRo at z; omega)).1]; exact c17.2⟩
    · rw [(Fr.2 wA _ w1.2 (fun z => by unfold WRo at z; omega)).1]; exact wv ν na
    · rw [(Fr.2 lA _ w2.2 (fun z => by unfold WRo at z; omega)).1]; exact lv ν na wo
  · have s6 := dk_610 k
    obtain ⟨⟨r1, r2, r3⟩, ⟨n1, n2, n3⟩, w1, w2, w3, hn⟩ := id T
    have nx : x1.toNatClampNeg = ixC sb ν := by have := nc_i (x := x1) (by omega); omega
    unfold sX0_touch at e
    replace e := ce_e r1 e
    replace e := gg_e e
    rcases br_s e with ⟨c, e⟩ | ⟨c, e⟩ <;> rw [nx] at c
    · have wo : W ν = 3000000 := by rw [← wv ν na, c]; rfl
      replace e := bp_e c17.1 e
      replace e := ce_e r2 e
      replace e := gg_e e
      have fin : ∀ {t0 : Int32} {k : Nat}, t0.toBitVec = BitVec.ofNat 32 k → (A ++ [(ν, b)]).count (ν, false) + 4096 * (A ++ [(ν, b)]).count (ν, true) = A.count (ν, false) + 4096 * A.count (ν, true) + k → sX0_touch_39 h t0 (hI h lA (ixC sb ν)) x1 lA = some o → ICt n N nk sb q wA lA qA W o (A ++ [(ν, b)]) ∧ DkT n h o ∧ FrW (WTc n wA lA qA) h o := fun {t0 k} et ek e => by
        unfold sX0_touch_39 at e
        replace e := gg_e e
        obtain ⟨h2, u2, e⟩ := nm_s e
        rw [nx] at u2
        have eo : o = wI h lA (ixC sb ν) (hI h lA (ixC sb ν) + t0) := (so_e e).trans u2
        have dk : DkT n h o := by rw [eo]; exact dkt_w dkt_0
        have Fr : FrW (WTc n wA lA qA) h o := by rw [eo]; exact fw_wI fw_0 (Or.inr (Or.inl rfl))
        refine ⟨⟨trf_f T dk.2 Fr.1, ⟨by rw [eo, rI_a (by omega)]; exact c17.1, by rw [eo, rI_a (by omega)]; exact c17.2⟩, fun ν' na' => by rw [eo, rI_a n1]; exact wv ν' na', fun ν' na' wo' => ?_⟩, dk, Fr⟩
        by_cases z : ν' = ν
        · rw [z, eo, rI_s, Int32.toBitVec_add, lv ν na wo, et, ek, ← BitVec.ofNat_add]
        · rw [eo, rI_o (ix_u Fc na na' z), cnt_n z, cnt_n z]
          exact lv ν' na' wo'
      rcases br_s e with ⟨c2, e⟩ | ⟨c2, e⟩
      · have bf : b = false := by
          rcases e2 with z | z
          · exact z.2
          · rw [z.1] at c2; exact absurd c2 (by decide)
        rw [nx] at e
        refine fin (k := 1) rfl ?_ e
        rw [bf, cnt_s, cnt_bb (by decide)]
        omega
      · have bt : b = true := by
          rcases e2 with z | z
          · exact absurd z.1 c2
          · exact z.2
        rw [nx] at e
        refine fin (k := 4096) rfl ?_ e
        rw [bt, cnt_s, cnt_bb (by decide)]
        omega
    · have wn : ¬ W ν = 3000000 := fun z => c (Int32.toInt_inj.mp (by rw [wv ν na, z]; rfl))
      have eo := so_e e
      rw [eo]
      refine ⟨⟨T, c17, wv, fun ν' na' wo' => ?_⟩, dkt_0, fw_0⟩
      have z : ¬ ν' = ν := fun z => wn (by rw [← z]; exact wo')
      rw [cnt_n z, cnt_n z]
      exact lv ν' na' wo'
theorem neg_i {x : Int32} (l : -2147483647 ≤ x.toInt) : (-x).toInt = -x.toInt := by
  have t := rg_top x
  have ex : x = Int32.ofInt x.toInt := (Int32.ofInt_toInt x).symm
  rw [ex, ← Int32.ofInt_neg, ti_ofInt (by have := t.2; omega) (by omega), ← ex]
/-- one more waits -/
theorem psh_k {j : Nat} (T : TRf n wA lA qA h) (ej : (hI h (n + 62) 16).toInt = (j : Int)) (j6 : j < 600000) (e : sX0_push h (n + 62) x1 = some o) : o = wI (wI h qA j x1) (n + 62) 16 ((hI h (n + 62) 16) + (1 : Int32)) := by
  obtain ⟨⟨r1, r2, r3⟩, ⟨n1, n2, n3⟩, w1, w2, w3, hn⟩ := T
  unfold sX0_push sX0_push_32 at e
  replace e := ce_e r3 e
  have l6 : (nI (hN h qA)).toInt = 600000 := by rw [hn]; exact z_toInt (by decide)
  replace e := bn_e (fun z => by have z := le_i z; rw [l6] at z; omega) e
  replace e := ce_e r3 e
  replace e := gg_e e
  obtain ⟨h5, u5, e⟩ := nm_s e
  obtain ⟨h6, u6, e⟩ := nm_s e
  have nj : (hI h (n + 62) 16).toNatClampNeg = j := by have := nc_i (x := hI h (n + 62) 16) (by omega); omega
  rw [nj] at u5
  have e16 : hI h5 (n + 62) 16 = hI h (n + 62) 16 := by rw [u5, rI_a (by omega)]
  rw [so_e e, u6, e16, u5]
/-- table, counts and queue stand for a pure state -/
def TbH (n N : Nat) (nk : Nat → Nat) (sb : Nat → Nat) (q wA lA qA : Nat) (D : List Nod) (tA : Nod → Bool) (h : Hp) (S : EtS) : Prop := (∀ ν, NdA N nk q ν → (hI h wA (ixC sb ν)).toInt = S.1 ν) ∧ (∀ ν, NdA N nk q ν → S.1 ν = 3000000 → (hI h lA (ixC sb ν)).toInt = (S.2.1 ν : Int) + (if tA ν = true then 16777216 else 0) ∧ 1 ≤ S.2.1 ν ∧ S.2.1 ν < 4096) ∧ ((hI h (n + 62) 16).toInt = (S.2.2.length : Int) ∧ ∀ (j : Nat) (ν : Nod), S.2.2[j]? = some ν → (hI h qA j).toInt = (ixC sb ν : Int)) ∧ S.2.2.Nodup ∧ (∀ ν, ν ∈ S.2.2 → ν ∈ D ∧ ¬ S.1 ν = 3000000) ∧ ∀ ν, S.1 ν = 3000000 → ν ∈ D
def IQu (n N : Nat) (nk : Nat → Nat) (sb : Nat → Nat) (q wA lA qA : Nat) (D : List Nod) (tA : Nod → Bool) (cur : Int) (S0 : EtS) (h : Hp) (A : List (Nod × Bool)) : Prop := TRf n wA lA qA h ∧ (hI h (n + 62) 17).toInt = cur ∧ TbH n N nk sb q wA lA qA D tA h (A.foldl (tcE tA cur) S0)
theorem len_d {α : Type} [DecidableEq α] {Q D : List α} {x : α} (n : Q.Nodup) (s : ∀ y, y ∈ Q → y ∈ D) (xD : x ∈ D) (xQ : ¬ x ∈ Q) : Q.length < D.length := by
  have := nd_len (x :: Q) D (List.nodup_cons.mpr ⟨xQ, n⟩) (fun y hy => by
    rcases List.mem_cons.mp hy with z | z
    · rw [z]; exact xD
    · exact s y z)
  exact this
/-- one place decided: what stands behind -/
theorem tbh_d {w : Int} {C' : Nod → Nat} {xw : Int32} {h1 : Hp} (Fc : FmC n h0 N nk rk sb q) (T : TRf n wA lA qA h1) (B : TbH n N nk sb q wA lA qA D tA h S) (D6 : D.length ≤ 600000) (na : NdA N nk q ν) (wo : S.1 ν = 3000000) (w3 : ¬ w = 3000000) (e1 : x1.toInt = (ixC sb ν : Int)) (ew : xw.toInt = w) (cc : ∀ ν', ¬ ν' = ν → C' ν' = S.2.1 ν') (h1w : ∀ i, hI h1 wA i = hI h wA i) (h1l : ∀ i, ¬ i = ixC sb ν → hI h1 lA i = hI h lA i) (h1q : ∀ i, hI h1 qA i = hI h qA i) (h1c : hI h1 (n + 62) 16 = hI h (n + 62) 16) (e : sX0_push (wI h1 wA (ixC sb ν) xw) (n + 62) x1 = some o) : TbH n N nk sb q wA lA qA D tA o (upE S.1 ν w, C', S.2.2 ++ [ν]) ∧ o = wI (wI (wI h1 wA (ixC sb ν) xw) qA S.2.2.length x1) (n + 62) 16 ((hI h (n + 62) 16) + (1 : Int32)) := by
  have z1 : (1 : Int32).toInt = 1 := rfl
  obtain ⟨b1, b2, ⟨b3, b4⟩, b5, b6, b7⟩ := B
  obtain ⟨_, ⟨n1, n2, n3⟩, w1, w2, w3', hn⟩ := id T
  have νD := b7 ν wo
  have nq : ¬ ν ∈ S.2.2 := fun z => (b6 ν z).2 wo
  have ll := len_d b5 (fun y hy => (b6 y hy).1) νD nq
  have c16 : hI (wI h1 wA (ixC sb ν) xw) (n + 62) 16 = hI h (n + 62) 16 := by rw [rI_a (by omega)]; exact h1c
  have eo := psh_k (j := S.2.2.length) (trf_f (o := wI h1 wA (ixC sb ν) xw) T ⟨fun _ => rfl, fun _ _ => rfl⟩ (Nat.le_refl _)) (by rw [c16]; exact b3) (by omega) e
  rw [c16] at eo
  refine ⟨⟨fun ν' na' => ?_, fun ν' na' wo' => ?_, ⟨?_, fun j ν' hj => ?_⟩, ?_, fun ν' hm => ?_, fun ν' wo' => ?_⟩, eo⟩
  · rw [eo, rI_a (by omega), rI_a n2]
    show _ = upE S.1 ν w ν'
    by_cases z : ν' = ν
    · rw [z, rI_s, upe_s]; exact ew
    · rw [rI_o (ix_u Fc na na' z), upe_o z, h1w]; exact b1 ν' na'
  · have wo' : upE S.1 ν w ν' = 3000000 := wo'
    have z : ¬ ν' = ν := fun z => by rw [z, upe_s] at wo'; exact w3 wo'
    rw [upe_o z] at wo'
    rw [eo, rI_a (by omega), rI_a n3, rI_a (fun y => n1 y.symm), h1l _ (ix_u Fc na na' z)]
    show _ = (C' ν' : Int) + _ ∧ _
    have := b2 ν' na' wo'
    rw [show (upE S.1 ν w, C', S.2.2 ++ [ν]).2.1 ν' = S.2.1 ν' from cc ν' z, cc ν' z]
    exact this
  · rw [eo, rI_s, ta (by rw [z1, b3]; omega), z1, b3]
    show _ = (((S.2.2 ++ [ν]).length : Nat) : Int)
    rw [List.length_append]
    show _ = ((S.2.2.length + 1 : Nat) : Int)
    omega
  · have hj : (S.2.2 ++ [ν])[j]? = some ν' := hj
    rw [eo, rI_a (by omega)]
    by_cases c : j < S.2.2.length
    · rw [List.getElem?_append_left c] at hj
      rw [rI_o (by omega), rI_a (fun y => n2 y.symm), h1q]
      exact b4 j ν' hj
    · have cj : j = S.2.2.length := by
        rw [List.getElem?_append_right (by omega)] at hj
        have := (List.getElem?_eq_some_iff.mp hj).1
        have : j - S.2.2.length < 1 := this
        omega
      rw [List.getElem?_append_right (by omega)] at hj
      have hm := List.mem_singleton.mp (List.mem_of_getElem? hj)
      rw [cj, rI_s, hm]
      exact e1
  · show (S.2.2 ++ [ν]).Nodup
    rw [List.nodup_append]
    refine ⟨b5, by simp, fun a ha c hc => ?_⟩
    rw [List.mem_singleton.mp hc]
    exact fun z => nq (by rw [← z]; exact ha)
  · show ν' ∈ D ∧ ¬ upE S.1 ν w ν' = 3000000
    by_cases z : ν' = ν
    · rw [z, upe_s]; exact ⟨νD, w3⟩
    · have hm : ν' ∈ S.2.2 ++ [ν] := hm
      rcases List.mem_append.mp hm with y | y
      · rw [upe_o z]; exact b6 ν' y
      · exact absurd (List.mem_singleton.mp y) z
  · have wo' : upE S.1 ν w ν' = 3000000 := wo'
    by_cases z : ν' = ν
    · rw [z]; exact νD
    · rw [upe_o z] at wo'; exact b7 ν' wo'
theorem tci_q (Fc : FmC n h0 N nk rk sb q) (D6 : D.length ≤ 600000) (dc : DcE cur) : TcI n N nk sb q wA lA qA (IQu n N nk sb q wA lA qA D tA cur S0) := by
  obtain ⟨g0, g1, g2, g3⟩ := dc_d dc
  refine ⟨fun h o A k ⟨T, c17, B⟩ dk Fr => ?_, fun h o A ν b x1 x2 k ⟨T, c17, B⟩ na e1 e2 e => ?_⟩
  · have s6 := dk_610 k
    obtain ⟨_, _, w1, w2, w3, _⟩ := id T
    obtain ⟨b1, b2, ⟨b3, b4⟩, b5⟩ := B
    refine ⟨trf_f T dk.2 Fr.1, ?_, fun ν na => ?_, fun ν na wo => ?_, ⟨?_, fun j ν hj => ?_⟩, b5⟩
    · rw [(Fr.2 (n + 62) 17 (by omega) (fun z => by unfold WRo at z; omega)).1]; exact c17
    · rw [(Fr.2 wA _ w1.2 (fun z => by unfold WRo at z; omega)).1]; exact b1 ν na
    · rw [(Fr.2 lA _ w2.2 (fun z => by unfold WRo at z; omega)).1]; exact b2 ν na wo
    · rw [(Fr.2 (n + 62) 16 (by omega) (fun z => by unfold WRo at z; omega)).1]; exact b3
    · rw [(Fr.2 qA _ w3.2 (fun z => by unfold WRo at z; omega)).1]; exact b4 j ν hj
  · have s6 := dk_610 k
    obtain ⟨⟨r1, r2, r3⟩, ⟨n1, n2, n3⟩, w1, w2, w3, hn⟩ := id T
    have nx : x1.toNatClampNeg = ixC sb ν := by have := nc_i (x := x1) (by omega); omega
    have fe : (A ++ [(ν, b)]).foldl (tcE tA cur) S0 = tcE tA cur (A.foldl (tcE tA cur) S0) (ν, b) := by rw [List.foldl_append]; rfl
    unfold IQu
    rw [fe]
    obtain ⟨S, hS'⟩ : ∃ S, S = A.foldl (tcE tA cur) S0 := ⟨_, rfl⟩
    rw [← hS'] at B ⊢
    obtain ⟨b1, b2, ⟨b3, b4⟩, b5⟩ := id B
    unfold sX0_touch at e
    replace e := ce_e r1 e
    replace e := gg_e e
    rcases br_s e with ⟨c, e⟩ | ⟨c, e⟩ <;> rw [nx] at c
    rotate_left
    · have wn : ¬ S.1 ν = 3000000 := fun z => c (Int32.toInt_inj.mp (by rw [b1 ν na, z]; rfl))
      have et : tcE tA cur S (ν, b) = S := if_neg (fun z => wn z.1)
      rw [et, so_e e]
      exact ⟨⟨T, c17, B⟩, dkt_0, fw_0⟩
    have wo : S.1 ν = 3000000 := by rw [← b1 ν na, c]; rfl
    obtain ⟨l1, l2, l3⟩ := b2 ν na wo
    replace e := bn_e (fun z => by rw [z] at c17; exact g3 c17.symm) e
    -- the place is decided, or one way less is left
    have go : (b = true ∨ tA ν = false) → sX0_touch_59 h (n + 62) x1 = some o → (TRf n wA lA qA o ∧ (hI o (n + 62) 17).toInt = cur ∧ TbH n N nk sb q wA lA qA D tA o (tcE tA cur S (ν, b))) ∧ DkT n h o ∧ FrW (WTc n wA lA qA) h o := fun al e => by
      have et : tcE tA cur S (ν, b) = (if cur < 0 then (upE S.1 ν (-cur - 1), S.2.1, S.2.2 ++ [ν]) else if S.2.1 ν = 1 then (upE S.1 ν (1 - cur), upE S.2.1 ν 0, S.2.2 ++ [ν]) else (S.1, upE S.2.1 ν (S.2.1 ν - 1), S.2.2)) := if_pos ⟨wo, al⟩
      rw [et]
      unfold sX0_touch_59 sX0_touch_125 at e
      have z0 : (0 : Int32).toInt = 0 := rfl
      have z1 : (1 : Int32).toInt = 1 := rfl
      rcases br_s e with ⟨c2, e⟩ | ⟨c2, e⟩
      · have c2 := le_i c2
        rw [z0, c17] at c2
        rw [if_neg (by omega)]
        replace e := ce_e r2 e
        replace e := gg_e e
        replace e := gg_e e
        obtain ⟨h5, u5, e⟩ := nm_s e
        rw [nx] at u5
        have l5 : (hI h5 lA (ixC sb ν)).toInt = ((S.2.1 ν - 1 : Nat) : Int) + (if tA ν = true then 16777216 else 0) := by
          rw [u5, rI_s, ts (by rw [z1, l1]; split <;> omega), z1, l1]; omega
        have d5 : DkT n h h5 := by rw [u5]; exact dkt_w dkt_0
        have F5 : FrW (WTc n wA lA qA) h h5 := by rw [u5]; exact fw_wI fw_0 (Or.inr (Or.inl rfl))
        have T5 := trf_f T d5.2 F5.1
        replace e := ce_e T5.1.2.1 e
        replace e := gg_e e
        have m12 : ((hI h5 lA (ixC sb ν)) &&& (4095 : Int32)).toInt = ((S.2.1 ν - 1 : Nat) : Int) := by
          rw [and_i (m := 12) (by rw [l5]; split <;> omega) (by decide) rfl, l5]
          show _ % (4096 : Int) = _
          split <;> omega
        rcases br_s e with ⟨c3, e⟩ | ⟨c3, e⟩ <;> rw [nx] at c3
        · have s1 : S.2.1 ν = 1 := by
            rw [c3, z0] at m12; omega
          rw [if_pos s1]
          replace e := ce_e T5.1.1 e
          replace e := gg_e e
          obtain ⟨h11, u11, e⟩ := nm_s e
          have c175 : hI h5 (n + 62) 17 = hI h (n + 62) 17 := by rw [u5, rI_a (by omega)]
          rw [nx, c175] at u11
          obtain ⟨o12, e12, e⟩ := cl_s e
          have eo := so_e e
          rw [u11] at e12
          obtain ⟨B', eq'⟩ := tbh_d (C' := upE S.2.1 ν 0) (w := 1 - cur) Fc T5 B D6 na wo (by omega) e1 (by rw [ts (by rw [z1, c17]; omega), z1, c17]) (fun ν' z => upe_o z) (fun i => by rw [u5, rI_a n1]) (fun i z => by rw [u5, rI_o z]) (fun i => by rw [u5, rI_a (fun y => n3 y.symm)]) (by rw [u5, rI_a (by omega)]) e12
          rw [eo]
          have dk : DkT n h o12 := by rw [eq']; exact dkt_w (dkt_w (dkt_w d5))
          have Fr : FrW (WTc n wA lA qA) h o12 := by rw [eq']; exact fw_wI (fw_wI (fw_wI F5 (Or.inl rfl)) (Or.inr (Or.inr (Or.inl rfl)))) (Or.inr (Or.inr (Or.inr ⟨rfl, rfl⟩)))
          refine ⟨⟨trf_f T dk.2 Fr.1, ?_, B'⟩, dk, Fr⟩
          rw [eq', rI_o (by decide), rI_a (by omega), rI_a (by omega), c175]; exact c17
        · have s1 : ¬ S.2.1 ν = 1 := fun z => c3 (Int32.toInt_inj.mp (by rw [m12, z]; rfl))
          rw [if_neg s1, so_e e]
          refine ⟨⟨T5, by rw [u5, rI_a (by omega)]; exact c17, fun ν' na' => by rw [u5, rI_a n1]; exact b1 ν' na', fun ν' na' wo' => ?_, ⟨by rw [u5, rI_a (by omega)]; exact b3, fun j ν' hj => by rw [u5, rI_a (fun y => n3 y.symm)]; exact b4 j ν' hj⟩, b5⟩, d5, F5⟩
          show _ = ((upE S.2.1 ν (S.2.1 ν - 1) ν' : Nat) : Int) + _ ∧ 1 ≤ upE S.2.1 ν (S.2.1 ν - 1) ν' ∧ upE S.2.1 ν (S.2.1 ν - 1) ν' < 4096
          by_cases z : ν' = ν
          · rw [z, upe_s]
            exact ⟨l5, by omega, by omega⟩
          · rw [upe_o z, u5, rI_o (ix_u Fc na na' z)]
            exact b2 ν' na' wo'
      · have c2 := nle_i c2
        rw [z0, c17] at c2
        rw [if_pos c2]
        replace e := ce_e r1 e
        replace e := gg_e e
        obtain ⟨h15, u15, e⟩ := nm_s e
        rw [nx] at u15
        obtain ⟨o16, e16, e⟩ := cl_s e
        have eo := so_e e
        rw [u15] at e16
        have nv : ((-(hI h (n + 62) 17)) - (1 : Int32)).toInt = -cur - 1 := by
          have a := neg_i (x := hI h (n + 62) 17) (by omega)
          rw [ts (by rw [a, z1]; omega), a, z1, c17]
        obtain ⟨B', eq'⟩ := tbh_d (C' := S.2.1) (w := -cur - 1) Fc T B D6 na wo (by omega) e1 nv (fun ν' z => rfl) (fun i => rfl) (fun i z => rfl) (fun i => rfl) rfl e16
        rw [eo]
        have dk : DkT n h o16 := by rw [eq']; exact dkt_w (dkt_w (dkt_w dkt_0))
        have Fr : FrW (WTc n wA lA qA) h o16 := by rw [eq']; exact fw_wI (fw_wI (fw_wI fw_0 (Or.inl rfl)) (Or.inr (Or.inr (Or.inl rfl)))) (Or.inr (Or.inr (Or.inr ⟨rfl, rfl⟩)))
        refine ⟨⟨trf_f T dk.2 Fr.1, ?_, B'⟩, dk, Fr⟩
        rw [eq', rI_o (by decide), rI_a (by omega), rI_a (by omega)]; exact c17
    rcases br_s e with ⟨c2, e⟩ | ⟨c2, e⟩
    · have bf : b = false := by
        rcases e2 with z | z
        · exact z.2
        · rw [z.1] at c2; exact absurd c2 (by decide)
      replace e := ce_e r2 e
      replace e := gg_e e
      rcases br_s e with ⟨c3, e⟩ | ⟨c3, e⟩ <;> rw [nx] at c3
      · exact go (Or.inr ((and24 l3 l1).mp c3)) e
      · have nt : ¬ tA ν = false := fun z => c3 ((and24 l3 l1).mpr z)
        have et : tcE tA cur S (ν, b) = S := if_neg (fun z => by
          rcases z.2 with w | w
          · rw [bf] at w; exact nomatch w
          · exact nt w)
        rw [et, so_e e]
        exact ⟨⟨T, c17, B⟩, dkt_0, fw_0⟩
    · have bt : b = true := by
        rcases e2 with z | z
        · exact absurd z.1 c2
        · exact z.2
      exact go (Or.inl bt) e
end
end
