section
/-! BEFORE, the class: the call -/
section
variable {n F : Nat} {g h : Hp} {L : Nat → Nat → Int} {B : Pz} {o : Int32 × Hp}
theorem bth_2 {x1 x2 : Int32} {m y : Nat} (C : ClL n h L) (m12 : m < 12) (e1 : x1.toInt = (m : Int)) (e2 : x2.toInt = (y : Int)) (k : DyK n g h) : ∀ (f : Nat) {x3 : Int32} {q : Nat}, x3.toInt = (q : Int) → q ≤ 6 → (∀ u : Nat, u < q → ¬ L 80 (6 * m + u) = (y : Int)) → sX1_becomesThis_2 F f h (n + 5) x1 x2 x3 = some o → o.2 = h ∧ ((o.1 = 0 ∧ ¬ ∃ u : Nat, (u : Int) < L 81 m ∧ L 80 (6 * m + u) = (y : Int)) ∨ (¬ o.1 = 0 ∧ ∃ u : Nat, (u : Int) < L 81 m ∧ L 80 (6 * m + u) = (y : Int))) := by
  have z1 : (1 : Int32).toInt = 1 := rfl
  have z6 : (6 : Int32).toInt = 6 := rfl
  obtain ⟨b1, b2, b3⟩ := C.2.2.1.1 m m12
  have b1 : (hI h (n + 10) m).toInt = L 81 m := b1
  have n1 : x1.toNatClampNeg = m := by have := nc_i (x := x1) (by omega); omega
  intro f
  induction f with
  | zero => intro x3 q _ _ _ e; exact absurd e (by rw [sX1_becomesThis_2]; exact fun z => nomatch z)
  | succ f ih =>
    intro x3 q e3 q6 no e
    rw [sX1_becomesThis_2] at e
    replace e := ce_e (dk_e (a := 5) (f := 18) (b := 10) k (by decide +kernel)) e
    replace e := gg_e e
    rw [n1] at e
    rcases br_s e with ⟨c1, e⟩ | ⟨c1, e⟩
    · have c1 := le_i c1
      rw [so_e e]
      exact ⟨rfl, Or.inl ⟨rfl, fun ⟨u, u1, u2⟩ => no u (by omega) u2⟩⟩
    have c1 := nle_i c1
    replace e := ce_e (dk_e (a := 5) (f := 17) (b := 9) k (by decide +kernel)) e
    replace e := gg_e e
    have m6 : (x1 * (6 : Int32)).toInt = 6 * (m : Int) := by rw [tm (by rw [z6]; omega), z6, e1]; omega
    have v : ((x1 * (6 : Int32)) + x3).toInt = 6 * (m : Int) + q := by rw [ta (by omega), m6, e3]
    have nv : ((x1 * (6 : Int32)) + x3).toNatClampNeg = 6 * m + q := by have := nc_i (x := (x1 * (6 : Int32)) + x3) (by omega); omega
    rw [nv] at e
    have b3 : (hI h (n + 9) (6 * m + q)).toInt = L 80 (6 * m + q) := (b3 q (by omega)).1
    rcases br_s e with ⟨c2, e⟩ | ⟨c2, e⟩
    · rw [so_e e]
      exact ⟨rfl, Or.inr ⟨show ¬ (1 : Int32) = 0 by decide, q, by omega, by rw [← b3, c2, e2]⟩⟩
    · have c2 := ne_i c2
      replace e := nx_e e
      refine ih (q := q + 1) (by rw [ta (by omega), z1, e3]; omega) (by omega) (fun u hu => ?_) e
      by_cases w : u = q
      · rw [w]; omega
      · exact no u (by omega)
theorem bth_c {x1 x2 : Int32} {m y : Nat} (C : ClL n h L) (m12 : m < 12) (e1 : x1.toInt = (m : Int)) (e2 : x2.toInt = (y : Int)) (k : DyK n g h) (e : sX1_becomesThis F h (n + 5) x1 x2 = some o) : o.2 = h ∧ ((o.1 = 0 ∧ ¬ ∃ u : Nat, (u : Int) < L 81 m ∧ L 80 (6 * m + u) = (y : Int)) ∨ (¬ o.1 = 0 ∧ ∃ u : Nat, (u : Int) < L 81 m ∧ L 80 (6 * m + u) = (y : Int))) := by
  unfold sX1_becomesThis at e
  exact bth_2 C m12 e1 e2 k F (q := 0) rfl (by decide) (fun u hu => absurd hu (Nat.not_lt_zero _)) e
/-- a man as others that become him -/
theorem fn_166 {K : Hp → Nat → Int64 → Int32 → Option (Int32 × Hp)} {Pr : Cd → Prop} {Q : Int32 × Hp → Prop} {t y : Nat} {x2 : Int64} {x4 x5 x6 : Int32} (G : BfG L B) (Sa : BfS L B) (fb : FmB n h L) (k0 : DyK n g h) (tt : t < 64) (ty : 0 < B.1 t ∧ (B.1 t - 1) % 2 = (pzS B : Int)) (ey : y = mnO (B.1 t)) (e5 : x5.toInt = (t : Int)) (e6 : x6.toInt = (y : Int)) (np : ∀ c, Pr c → ¬ c.2.1 = t) (hK : ∀ {h' : Hp}, FrW (bfW n) h h' → BfSt n g L B (fun c => Pr c ∨ c.2.1 = t) h' → K h' (n + 48) x2 (x4 + (1 : Int32)) = some o → Q o) : ∀ (f : Nat) {h' : Hp} {x7 : Int32}, FrW (bfW n) h h' → BfSt n g L B (fun c => Pr c ∨ (c.2.1 = t ∧ (c.2.2.1 = y ∨ (c.2.2.1 : Int) < x7.toInt))) h' → 0 ≤ x7.toInt → sX6_find_166 F K f h' (n + 48) x2 x4 x5 x6 x7 = some o → Q o := by
  have z1 : (1 : Int32).toInt = 1 := rfl
  have G' := G
  obtain ⟨H, K', T, LD, HM, U, S2, Bb⟩ := G'
  have L2 := H.2.2.1
  have tL := ((HM t tt).2 ty.1).1
  intro f
  induction f with
  | zero => intro h' x7 _ _ _ e; exact absurd e (by rw [sX6_find_166]; exact fun z => nomatch z)
  | succ f ih =>
    intro h' x7 fr S l7 e
    obtain ⟨k, C, Ab, st⟩ := id S
    have m3 : (hI h' (n + 5) 3).toInt = L 2 0 := C.2.1.2.2.2.1
    have sd : (hI h' (n + 49) 5).toInt = (pzS B : Int) := Ab.2.2.1
    rw [sX6_find_166] at e
    unfold sX6_find_225 sX6_find_219 at e
    -- to the end
    have fin : (∀ c, c.2.1 = t → BfD L B c → c.2.2.1 = y ∨ (c.2.2.1 : Int) < x7.toInt) → K h' (n + 48) x2 (x4 + (1 : Int32)) = some o → Q o := fun al e => hK fr (bfs_w S (fun c z => by
      rcases z with z | z
      · exact Or.inl z
      · exact Or.inr z.1) (fun c z b => by
      rcases z with z | z
      · exact Or.inl z
      · exact Or.inr ⟨z, al c z b⟩)) e
    replace e := ce_e (dk_e (a := 48) (f := 0) (b := 5) k (by decide +kernel)) e
    rcases br_s e with ⟨c1, e⟩ | ⟨c1, e⟩
    · have c1 := le_i c1
      replace e := nx_e e
      exact fin (fun c _ b => Or.inr (by have := b.1.2.2.1; omega)) e
    have c1 := nle_i c1
    replace e := ce_e (dk_e (a := 48) (f := 0) (b := 5) k (by decide +kernel)) e
    replace e := ce_e (dk_e (a := 48) (f := 3) (b := 49) k (by decide +kernel)) e
    obtain ⟨o5, e5', e⟩ := cl_s e
    obtain ⟨l1, l2⟩ := last_v (V := vK n 0 0 0 0 0 0) H C.2.1 (dk_e (a := 5) (f := 20) (b := 12) k (by decide +kernel)) e5 tL ⟨by omega, by omega⟩ e5'
    rw [sd] at l2
    rw [l1] at e
    rcases br_s e with ⟨c2, e⟩ | ⟨c2, e⟩
    · rcases l2 with ⟨_, l2⟩ | ⟨l2, _⟩
      · replace e := nx_e e
        refine fin (fun c ct b => ?_) e
        have bm := b.1.2.2.2
        rw [ct] at bm
        rcases bm with w | w
        · exact Or.inl (by rw [w, ey])
        · exact absurd w.1 l2
      · rw [l2] at c2; exact absurd c2 (by decide)
    rcases l2 with ⟨l2, _⟩ | ⟨_, l2⟩
    · exact absurd l2 c2
    replace e := ce_e (dk_e (a := 48) (f := 0) (b := 5) k (by decide +kernel)) e
    obtain ⟨o8, e8, e⟩ := cl_s e
    have n7 := nc_i l7
    have m12 : x7.toNatClampNeg < 12 := by omega
    obtain ⟨b1, b2⟩ := bth_c (y := y) C m12 n7.symm e6 k e8
    rw [b1] at e
    have v7 : (x7 + (1 : Int32)).toInt = x7.toInt + 1 := by rw [ta (by omega), z1]
    rcases br_s e with ⟨c3, e⟩ | ⟨c3, e⟩
    · rcases b2 with ⟨_, b2⟩ | ⟨b2, _⟩
      rotate_left
      · exact absurd c3 b2
      replace e := nx_e e
      refine ih fr (bfs_w S (fun c z => ?_) (fun c z b => ?_)) (by omega) e
      · rcases z with z | ⟨z1, z2⟩
        · exact Or.inl z
        · refine Or.inr ⟨z1, ?_⟩
          rw [v7]
          omega
      · rcases z with z | ⟨z1, z2⟩
        · exact Or.inl z
        · rw [v7] at z2
          refine Or.inr ⟨z1, ?_⟩
          by_cases w : c.2.2.1 = y
          · exact Or.inl w
          · by_cases w2 : (c.2.2.1 : Int) < x7.toInt
            · exact Or.inr w2
            · have w3 : c.2.2.1 = x7.toNatClampNeg := by omega
              have bm := b.1.2.2.2
              rw [z1, ← ey] at bm
              rcases bm with u | ⟨_, u⟩
              · exact absurd u w
              · rw [w3] at u; exact absurd u b2
    · rcases b2 with ⟨b2, _⟩ | ⟨_, b2⟩
      · exact absurd b2 c3
      obtain ⟨o10, e10, e⟩ := cl_s e
      replace e := nx_e e
      obtain ⟨u, u1, u2⟩ := b2
      have ny : ¬ x7.toNatClampNeg = y := fun z => by
        have := (LD.2 _ u m12 u1).1
        rw [u2, ← z] at this
        have e0 : ((x7.toNatClampNeg : Nat) : Int).toNat = x7.toNatClampNeg := by omega
        rw [e0] at this
        omega
      obtain ⟨f10, S10⟩ := tbk_k (t := t) (m := x7.toNatClampNeg) G Sa (fmb_f k0 fr fb) k tt (by omega) (fun s s64 sL s0 => ⟨⟨s64, sL, s0⟩, ⟨tt, ty⟩, by omega, Or.inr ⟨l2, u, u1, by rw [u2, ey]⟩⟩) e5 n7.symm (fun c z w => by
        rcases z with z | ⟨z1, z2⟩
        · exact np c z w.1
        · rcases z2 with z2 | z2
          · exact ny (by rw [← w.2, z2])
          · have := w.2
            omega) S e10
      refine ih (fw_t fr f10) (bfs_w S10 (fun c z => ?_) (fun c z b => ?_)) (by omega) e
      · rcases z with (z | ⟨z1, z2⟩) | ⟨z1, z2⟩
        · exact Or.inl z
        · refine Or.inr ⟨z1, ?_⟩
          rw [v7]; omega
        · refine Or.inr ⟨z1, Or.inr ?_⟩
          rw [v7]; omega
      · rcases z with z | ⟨z1, z2⟩
        · exact Or.inl (Or.inl z)
        · rw [v7] at z2
          by_cases w : c.2.2.1 = y ∨ (c.2.2.1 : Int) < x7.toInt
          · exact Or.inl (Or.inr ⟨z1, w⟩)
          · exact Or.inr ⟨z1, by omega⟩
def FnR (n : Nat) (L : Nat → Nat → Int) (B : Pz) (h : Hp) (o : Int32 × Hp) : Prop := FrW (bfW n) h o.2 ∧ ((o.1 = 1 ∧ ∃ N f, N ≤ 3000 ∧ RwC n o.2 N f ∧ SqM L B (BfD L B) (fun _ => True) N f) ∨ (o.1 = 0 ∧ hI o.2 (n + 48) 6 = 0 ∧ OvB L B (BfD L B)))
theorem fn_231 {Pr : Cd → Prop} {h' : Hp} (fr : FrW (bfW n) h h') (S : BfSt n g L B Pr h') (al : hI h' (n + 48) 7 = 0 → ∀ c, BfD L B c → Pr c) (e : sX6_find_231 F h' (n + 48) = some o) : FnR n L B h o := by
  obtain ⟨k, C, Ab, st⟩ := id S
  unfold sX6_find_231 sX6_find_243 sX6_find_255 at e
  rcases st with ⟨s1, N, f, s2, s3, s4⟩ | ⟨s1, s2⟩
  · replace e := bp_e s1 e
    replace e := bp_e s1 e
    rw [so_e (gg_e e)]
    exact ⟨fr, Or.inl ⟨rfl, N, f, s2, s3, sqm_w s4 (fun _ _ => trivial) (fun c _ b => al s1 c b)⟩⟩
  · replace e := bn_e (by rw [s1]; decide) e
    replace e := nx_e e
    replace e := bn_e (by rw [rI_o (by decide), s1]; decide) e
    rw [so_e (gg_e e)]
    exact ⟨fw_wI fr (Or.inl ⟨rfl, Or.inl rfl⟩), Or.inr ⟨rfl, rI_s, s2⟩⟩
theorem fn_109 (G : BfG L B) (Sa : BfS L B) (fb : FmB n h L) (k0 : DyK n g h) : ∀ (f : Nat) {h' : Hp} {x2 : Int64} {x4 : Int32}, FrW (bfW n) h h' → BfSt n g L B (fun c => ¬ (c.2.1 < 64 ∧ bitJ x2 c.2.1 = true)) h' → (∀ s : Nat, s < 64 → bitJ x2 s = true → 0 < B.1 s ∧ (B.1 s - 1) % 2 = (pzS B : Int)) → 0 ≤ x4.toInt → (∀ s : Nat, s < 64 → (s : Int) < x4.toInt → bitJ x2 s = false) → sX6_find_109 F f h' (n + 48) x2 x4 = some o → FnR n L B h o := by
  have z1 : (1 : Int32).toInt = 1 := rfl
  have z64 : (64 : Int32).toInt = 64 := rfl
  have G' := G
  obtain ⟨H, K', T, LD, HM, U, S2, Bb⟩ := G'
  intro f
  induction f with
  | zero => intro h' x2 x4 _ _ _ _ _ e; exact absurd e (by rw [sX6_find_109]; exact fun z => nomatch z)
  | succ f ih =>
    intro h' x2 x4 fr S B2 a4 lo e
    obtain ⟨k, C, Ab, st⟩ := id S
    rw [sX6_find_109] at e
    rcases br_s e with ⟨l, e⟩ | ⟨l, e⟩
    · have l := le_i l
      rw [z64] at l
      exact fn_231 fr S (fun _ c _ z => by rw [lo _ z.1 (by omega)] at z; exact absurd z.2 (by decide)) e
    have l := nle_i l
    rw [z64] at l
    rcases br_s e with ⟨z, e⟩ | ⟨z, e⟩
    · exact fn_231 fr S (fun _ c _ w => by rw [j_zero.mp (cmp_eq z) _ w.1] at w; exact absurd w.2 (by decide)) e
    rcases br_s e with ⟨ov, e⟩ | ⟨ov, e⟩
    rotate_left
    · exact fn_231 fr S (fun w => absurd w ov) e
    obtain ⟨o4, e4, e⟩ := cl_s e
    obtain ⟨lh, t, ht, vt, pt, tl, rest⟩ := low_v e4 z
    rw [lh] at e
    replace e := nm_s e; obtain ⟨v5, u5, e⟩ := e
    rw [← u5] at rest
    replace e := ce_e (dk_e (a := 48) (f := 3) (b := 49) k (by decide +kernel)) e
    replace e := ce_e Ab.1.1 e
    replace e := gg_e e
    replace e := nm_s e; obtain ⟨v9, u9, e⟩ := e
    have n4 : o4.1.toNatClampNeg = t := by have := nc_i (x := o4.1) (by omega); omega
    rw [n4] at u9
    obtain ⟨t0, ts'⟩ := B2 t ht pt
    have on : (hI h' (n + 49 + 1) t).toInt = B.1 t - 1 := Ab.2.1.1 t ht
    have mt := (HM t ht).2 t0
    have ml := mno_lt (L := L) t0 mt.2
    have v9e : v9.toInt = (mnO (B.1 t) : Int) := by
      rw [u9, shr_i (s := 1) 1 rfl]
      show (hI h' (n + 49 + 1) t).toInt / 2 = _
      rw [on, ml.2]
    obtain ⟨o10, e10, e⟩ := cl_s e
    obtain ⟨f10, S10⟩ := tbk_k (t := t) (m := mnO (B.1 t)) G Sa (fmb_f k0 fr fb) k ht ml.1 (fun s s64 sL s0 => ⟨⟨s64, sL, s0⟩, ⟨ht, t0, ts'⟩, ml.1, Or.inl rfl⟩) vt v9e (fun c y w => y ⟨by rw [w.1]; exact ht, by rw [w.1]; exact pt⟩) S e10
    refine fn_166 (Pr := fun c => ¬ (c.2.1 < 64 ∧ bitJ x2 c.2.1 = true)) (Q := fun o => FnR n L B h o) (t := t) (y := mnO (B.1 t)) G Sa (fmb_f k0 (fw_t fr f10) fb) (id S10).1 ht ⟨t0, ts'⟩ rfl vt v9e (fun c y w => y ⟨by rw [w]; exact ht, by rw [w]; exact pt⟩) (fun {h2} f2 s2 e => ?_) F fw_0 (bfs_w S10 (fun c y => ?_) (fun c y _ => ?_)) (by decide) e
    · refine ih (fw_t (fw_t fr f10) f2) (bfs_w s2 (fun c y w => ?_) (fun c y _ => ?_)) (fun s hs b => B2 s hs (by
        rw [rest s hs, Bool.and_eq_true] at b
        exact b.1)) (by rw [ta (by omega), z1]; omega) (fun s hs ls => ?_) e
      · have wb := w.2
        rw [rest _ w.1, Bool.and_eq_true] at wb
        rcases y with y | y
        · exact y ⟨w.1, wb.1⟩
        · rw [y, decide_eq_true rfl] at wb
          exact absurd wb.2 (by decide)
      · by_cases w : c.2.1 = t
        · exact Or.inr w
        · refine Or.inl (fun u => y ⟨u.1, ?_⟩)
          rw [rest _ u.1, u.2, decide_eq_false (fun v => w v.symm)]; rfl
      · rw [ta (by omega), z1] at ls
        rw [rest s hs]
        by_cases c : s < t
        · rw [tl s c]; rfl
        · by_cases d : t = s
          · rw [decide_eq_true d]; cases bitJ x2 s <;> rfl
          · have : (t : Int) < x4.toInt := by omega
            rw [lo t ht this] at pt
            exact absurd pt (by decide)
    · rcases y with y | y
      · exact Or.inl y
      · exact Or.inr ⟨y.1, Or.inl y.2⟩
    · rcases y with y | ⟨y1, y2⟩
      · exact Or.inl y
      · refine Or.inr ⟨y1, ?_⟩
        have z0 : (0 : Int32).toInt = 0 := rfl
        rw [z0] at y2
        omega
theorem hdb_00 : HdB (0 : Int64) := by unfold HdB; decide
theorem hv_00 {m : Nat} : hv (0 : Int64) m = 0 := by
  unfold hv
  have : (0 : Int64).toBitVec.toNat = 0 := rfl
  rw [this, Nat.zero_div]
/-- nothing but the men is left of the base -/
theorem str_k {P : Pz} {o : Hp} {ro : Int} (k : DyK n g h) (l4 : hN h (n + 53) = 2) (l5 : hN h (n + 54) = 2) (A : CpA h (n + 49) ro P) (e : sX3_strip F h (n + 49) = some o) : FrW (fun a _ => n + 49 ≤ a ∧ a ≤ n + 54) h o ∧ DyK n g o ∧ CpA o (n + 49) ro (P.1, pzS P, (fun _ => false), 0, pzQ P, (fun _ => 0), (fun _ => 0), 0) := by
  have z0 : (0 : Int32).toInt = 0 := rfl
  have kk := dk_X3_strip k e
  have k3 := dk_X3_strip (dk_self k) e
  unfold sX3_strip sJ7_fill_d0a16 sJ7_fill_53178 at e
  replace e := nm_s e; obtain ⟨g1, u1, e⟩ := e
  replace e := nm_s e; obtain ⟨g2, u2, e⟩ := e
  replace e := nm_s e; obtain ⟨g3, u3, e⟩ := e
  have k3g : DyK n g g3 := by rw [u3, u2, u1]; exact dk_wJ (dk_wJ (dk_wJ k))
  replace e := ce_e (e49f k3g (3, 4) (by decide)) e
  replace e := cl_s e; obtain ⟨o5, e5, e⟩ := e
  replace e5 := nx_e e5
  have ng3 : hN g3 (n + 49 + 4) = 2 := by rw [u3, u2, u1]; exact l4
  have e5 : sJ7_fill_d0a16_6 F F g3 (n + 49 + 4) 0 0 (nI (hN g3 (n + 49 + 4))) = some o5 := e5
  rw [ng3] at e5
  obtain ⟨⟨R5, N5⟩, I5⟩ := fJ F e5
  obtain ⟨J5, _, v5⟩ := fJw (by decide) F (by decide) e5
  have k5 : DyK n g o5 := dk_J7_fill_d0a16_6 F k3g e5
  replace e := ce_e (e49f k5 (4, 5) (by decide)) e
  replace e := cl_s e; obtain ⟨o7, e7, e⟩ := e
  replace e7 := nx_e e7
  have n5 : hN o5 (n + 49 + 5) = 2 := by rw [N5, u3, u2, u1]; exact l5
  have e7 : sJ7_fill_53178_5 F F o5 (n + 49 + 5) 0 0 (nI (hN o5 (n + 49 + 5))) = some o7 := e7
  rw [n5] at e7
  obtain ⟨⟨R7, N7⟩, I7, _, v7⟩ := fI (by decide) F (by decide) e7
  have J7 := fI_j F e7
  replace e := nm_s e; obtain ⟨h8, u8, e⟩ := e
  have oe := so_e e
  -- ints and longs
  have Io : ∀ a i, ¬ a = n + 49 + 5 → ¬ (a = n + 49 ∧ i = 6) → hI o a i = hI h a i := fun a i n1 n2 => by
    rw [oe, u8, r_I, if_neg n2, I7 a i n1, I5, u3, u2, u1]; rfl
  have Jo : ∀ a i, ¬ a = n + 49 + 4 → ¬ (a = n + 49 ∧ (i = 8 ∨ i = 9 ∨ i = 10)) → hJ o a i = hJ h a i := fun a i n1 n2 => by
    rw [oe, u8]
    show hJ o7 a i = _
    rw [J7, J5 a i n1, u3, r_J, if_neg (fun z => n2 ⟨z.1, Or.inl z.2⟩), u2, r_J, if_neg (fun z => n2 ⟨z.1, Or.inr (Or.inl z.2)⟩), u1, r_J, if_neg (fun z => n2 ⟨z.1, Or.inr (Or.inr z.2)⟩)]
  have Jz : ∀ i, (i = 8 ∨ i = 9 ∨ i = 10) → hJ o (n + 49) i = 0 := fun i hi => by
    rw [oe, u8]
    show hJ o7 (n + 49) i = 0
    rw [J7, J5 _ _ (by omega), u3, r_J]
    by_cases c : i = 8
    · rw [if_pos ⟨rfl, c⟩]
    · rw [if_neg (fun z => c z.2), u2, r_J]
      by_cases c' : i = 9
      · rw [if_pos ⟨rfl, c'⟩]
      · rw [if_neg (fun z => c' z.2), u1, r_J, if_pos ⟨rfl, by omega⟩]
  have Jh : ∀ d, d < 2 → hJ o (n + 49 + 4) d = 0 := fun d hd => by
    rw [oe, u8]
    show hJ o7 _ d = 0
    rw [J7, v5 d (by rw [z0]; omega) hd]
  have Ic : ∀ d, d < 2 → hI o (n + 49 + 5) d = 0 := fun d hd => by
    rw [oe, u8, rI_a (by omega), v7 d (by rw [z0]; omega) hd]
  refine ⟨⟨hs_g k3.1, fun a i _ nw => ⟨Io a i (by omega) (by omega), Jo a i (by omega) (by omega)⟩⟩, kk, ?_⟩
  obtain ⟨a1, a2, a3, a4, a5, a6, a7, a8⟩ := A
  have R := e49f kk
  refine ⟨⟨R (0, 1) (by decide), R (1, 2) (by decide), R (2, 3) (by decide), R (3, 4) (by decide), R (4, 5) (by decide)⟩, posc_kk a2 (fun s _ => Io (n + 49 + 1) s (by omega) (by omega)) (fun d _ => Jo (n + 49 + 2) d (by omega) (by omega)) (fun d _ => Io (n + 49 + 3) d (by omega) (by omega)), ?_, fun q hq => ?_, ⟨?_, ?_⟩, ⟨fun s hs => ?_, fun d hd => ?_⟩, fun d hd => ?_, ?_⟩
  · show (hI o (n + 49 + 0) 5).toInt = _
    rw [Io _ _ (by omega) (by omega)]; exact a3
  · show bitJ (hJ o (n + 49) 8) q = false
    rw [Jz 8 (Or.inl rfl), bj_zero]
  · show Pw (hJ o (n + 49) 9) 0 _
    rw [Jz 9 (Or.inr (Or.inl rfl))]
    exact pw_00
  · show OvN (hJ o (n + 49) 10) 0 _
    rw [Jz 10 (Or.inr (Or.inr rfl))]
    exact ov_00
  · show HdB (hJ o (n + 49 + 4) s)
    rw [Jh s hs]; exact hdb_00
  · show ((hv (hJ o (n + 49 + 4) (d % 2)) (d / 2) : Nat) : Int) = 0
    rw [Jh _ (Nat.mod_lt _ (by decide)), hv_00]; rfl
  · show (hI o (n + 49 + 5) d).toInt = 0
    rw [Ic d hd]; rfl
  · show (hI o (n + 49) 6).toInt = 0
    rw [oe, u8, rI_s]; rfl
theorem bs_ok {P : Pz} (O : PzOk L P) : PzOk L (bsP P) := ⟨O.1, O.2.1, by show 1 - pzS P < 2; omega, fun q _ z => absurd (show false = true from z) (by decide), Or.inl rfl, ⟨fun d _ => ⟨Int.le_refl _, show (0 : Int) ≤ 16 by decide⟩, fun d _ _ => rfl, fun _ d _ => rfl⟩, fun d _ => ⟨Int.le_refl _, show (0 : Int) ≤ 9 by decide⟩, Int.le_refl _, show (0 : Int) ≤ 200 by decide⟩
theorem fn_k {P : Pz} {p : Nat} (hp : p < 60) (H : LOk L) (K : LawK L) (T : LtO L) (LD : LtD L) (Oz : PzOk L P) (k : DyK n h h) (C : ClL n h L) (A : CpA h (n + (153 + 6 * p)) (L 10 0) P) (fb : FmB n h L) (l4 : hN h (n + 53) = 2) (l5 : hN h (n + 54) = 2) (e : sX6_find F h (n + 48) (n + (153 + 6 * p)) = some o) : ∃ h8, FrW (fun a i => (a = n + 48 ∧ (i = 6 ∨ i = 7)) ∨ (n + 49 ≤ a ∧ a ≤ n + 54)) h h8 ∧ DyK n h h8 ∧ CpA h8 (n + 49) (L 10 0) (bsP P) ∧ FnR n L (bsP P) h8 o := by
  have z0 : (0 : Int32).toInt = 0 := rfl
  have z1 : (1 : Int32).toInt = 1 := rfl
  have S2 := Oz.2.2.1
  have s6 := dk_610 k
  have Ob := bs_ok Oz
  unfold sX6_find sX6_find_88 sX6_find_90 at e
  obtain ⟨h1, w1, e⟩ := nm_s e
  obtain ⟨h2, w2, e⟩ := nm_s e
  have k2 : DyK n h h2 := by rw [w2, w1]; exact dk_wI (dk_wI k)
  have f2 : FrW (fun a i => a = n + 48 ∧ (i = 6 ∨ i = 7)) h h2 := by rw [w2, w1]; exact fw_wI (fw_wI fw_0 ⟨rfl, Or.inl rfl⟩) ⟨rfl, Or.inr rfl⟩
  have A2 : CpA h2 (n + (153 + 6 * p)) (L 10 0) P := cpa_f A (fun q hq => pl_e k2 hp hq) (fun j i hj => f2.2 _ _ (by omega) (fun z => by omega))
  replace e := ce_e (dk_e (a := 48) (f := 3) (b := 49) k2 (by decide +kernel)) e
  obtain ⟨o4, e4, e⟩ := cl_s e
  obtain ⟨own, Dw⟩ := k2.1.1
  obtain ⟨f4, k4, A4⟩ := cpy_k k2 Dw.1 (bk_pl Dw.1 hp) (bk_12 (Or.inl ⟨bk_st (t := 3) Dw.1 (by decide) (by decide), by decide, by decide⟩) (by decide)) (by omega) A2 (e49f k2) e4
  have s62 := dk_610 k2
  have s64 := dk_610 k4
  replace e := ce_e (dk_e (a := 48) (f := 3) (b := 49) k4 (by decide +kernel)) e
  obtain ⟨o6, e6, e⟩ := cl_s e
  have n4 : ∀ a, hN o4 a = hN h a := fun a => by
    rw [hn_X3_copyFrom (fun _ => rfl) e4 a, w2, w1]; rfl
  obtain ⟨f6, k6, A6⟩ := str_k k4 (by rw [n4]; exact l4) (by rw [n4]; exact l5) A4 e6
  have s66 := dk_610 k6
  replace e := ce_e (dk_e (a := 48) (f := 3) (b := 49) k6 (by decide +kernel)) e
  obtain ⟨h8, w8, e⟩ := nm_s e
  have k8 : DyK n h h8 := by rw [w8]; exact dk_wI k6
  have sd6 : (hI o6 (n + (153 + 6 * p)) 5).toInt = (pzS P : Int) := by
    rw [(f6.2 _ _ (by omega) (fun z => by omega)).1, (f4.2 _ _ (by omega) (fun z => by omega)).1]
    exact A2.2.2.1
  have sdv : ((1 : Int32) - hI o6 (n + (153 + 6 * p)) 5).toInt = ((1 - pzS P : Nat) : Int) := by rw [ts (by omega), z1, sd6]; omega
  have A8 : CpA h8 (n + 49) (L 10 0) (bsP P) := by
    obtain ⟨a1, a2, a3, a4, a5, a6, a7, a8⟩ := A6
    have I : ∀ b i, ¬ (b = n + 49 ∧ i = 5) → hI h8 b i = hI o6 b i := fun b i z => by rw [w8, r_I, if_neg z]
    have J : ∀ b i, hJ h8 b i = hJ o6 b i := fun b i => by rw [w8]; rfl
    have R := e49f k8
    refine ⟨⟨R (0, 1) (by decide), R (1, 2) (by decide), R (2, 3) (by decide), R (3, 4) (by decide), R (4, 5) (by decide)⟩, posc_kk a2 (fun s _ => I _ _ (fun z => by have z1 : n + 49 + 1 = n + 49 := z.1; omega)) (fun d _ => J _ _) (fun d _ => I _ _ (fun z => by have z1 : n + 49 + 3 = n + 49 := z.1; omega)), ?_, fun q hq => ?_, ⟨?_, ?_⟩, ⟨fun s hs => ?_, fun d hd => ?_⟩, fun d hd => ?_, ?_⟩
    · show (hI h8 (n + 49) 5).toInt = ((1 - pzS P : Nat) : Int)
      rw [w8, rI_s]; exact sdv
    · rw [J]; exact a4 q hq
    · rw [J]; exact a5.1
    · rw [J]; exact a5.2
    · rw [J]; exact a6.1 s hs
    · rw [J]; exact a6.2 d hd
    · rw [I _ _ (fun z => by have z1 : n + 49 + 5 = n + 49 := z.1; omega)]; exact a7 d hd
    · rw [I _ _ (fun z => absurd z.2 (by decide))]; exact a8
  have f8 : FrW (fun a i => (a = n + 48 ∧ (i = 6 ∨ i = 7)) ∨ (n + 49 ≤ a ∧ a ≤ n + 54)) h h8 := by
    rw [w8]
    exact fw_wI (fw_t (fw_t (fw_s f2 (fun _ _ z => Or.inl z)) (fw_s f4 (fun _ _ z => Or.inr (by omega)))) (fw_s f6 (fun _ _ z => Or.inr (by omega)))) (Or.inr (by omega))
  refine ⟨h8, f8, k8, A8, ?_⟩
  have C8 : ClL n h8 L := cll_f k k8 (fun j i hj => f8.2 _ _ (by omega) (fun z => by omega)) C
  have x48 : ∀ i, (i = 6 ∨ i = 7) → hI h8 (n + 48) i = 0 := fun i hi => by
    rw [w8, rI_a (by omega), (f6.2 _ _ (by omega) (fun z => by omega)).1, (f4.2 _ _ (by omega) (fun z => by omega)).1, w2, r_I]
    by_cases c : i = 7
    · rw [if_pos ⟨rfl, c⟩]
    · rw [if_neg (fun z => c z.2), w1, r_I, if_pos ⟨rfl, by omega⟩]
  have sd8 : (hI h8 (n + 49) 5).toInt = ((1 - pzS P : Nat) : Int) := by rw [w8, rI_s]; exact sdv
  have sdp : (hI h8 (n + (153 + 6 * p)) 5).toInt = (pzS P : Int) := by rw [w8, rI_a (by omega)]; exact sd6
  have fb8 : FmB n h8 L := fun i hi s hs b => by
    rw [(f8.2 (n + 26) i (by omega) (fun z => by omega)).2] at b
    exact fb i hi s hs b
  have none : ¬ BfS L (bsP P) → ∀ {h' : Hp}, h' = h8 → some ((1 : Int32), h') = some o → FnR n L (bsP P) h8 o := fun nb {h'} hh e => by
    rw [so_e e, hh]
    refine ⟨fw_0, Or.inl ⟨rfl, 0, fun _ => (0, 0, 0, 0), Nat.zero_le _, ⟨by rw [x48 6 (Or.inl rfl)]; rfl, fun k hk => absurd hk (Nat.not_lt_zero _)⟩, fun i j _ hj => absurd hj (Nat.not_lt_zero _), fun c => ⟨fun z => ?_, fun z => absurd z.2.2.2.2.1 nb⟩⟩⟩
    obtain ⟨k, hk, _⟩ := z
    exact absurd hk (Nat.not_lt_zero _)
  have go : BfS L (bsP P) → ∀ {h' : Hp}, h' = h8 → (cl (hR h' (n + 48) 3) fun r_1 => cl (hR h' r_1 1) fun r_2 => cl (hR h' (n + 48) 3) fun r_3 => gd (inB (hI h' r_3 5) (hN h' r_2)) <| nm (hJ h' r_2 (hI h' r_3 5).toNatClampNeg) fun v_5 => sX6_find_109 F F h' (n + 48) v_5 (0 : Int32)) = some o → FnR n L (bsP P) h8 o := fun bs {h'} hh e => by
    rw [hh] at e
    replace e := ce_e (dk_e (a := 48) (f := 3) (b := 49) k8 (by decide +kernel)) e
    replace e := ce_e A8.1.2.1 e
    replace e := ce_e (dk_e (a := 48) (f := 3) (b := 49) k8 (by decide +kernel)) e
    replace e := gg_e e
    replace e := nm_s e; obtain ⟨v5, u5, e⟩ := e
    have ns : (hI h8 (n + 49) 5).toNatClampNeg = 1 - pzS P := by have := nc_i (x := hI h8 (n + 49) 5) (by omega); omega
    rw [ns] at u5
    have bt := A8.2.1.2.1 (1 - pzS P) (by omega)
    have b5 : ∀ s, s < 64 → (bitJ v5 s = true ↔ (0 < P.1 s ∧ (P.1 s - 1) % 2 = ((1 - pzS P : Nat) : Int))) := fun s hs => by rw [u5]; exact bt s hs
    have G : BfG L (bsP P) := ⟨H, K, T, LD, Oz.1, Oz.2.1, Ob.2.2.1, bs_bare⟩
    refine fn_109 G bs fb8 k8 F fw_0 ⟨k8, C8, A8, Or.inl ⟨x48 7 (Or.inr rfl), 0, fun _ => (0, 0, 0, 0), Nat.zero_le _, ⟨by rw [x48 6 (Or.inl rfl)]; rfl, fun k hk => absurd hk (Nat.not_lt_zero _)⟩, fun i j _ hj => absurd hj (Nat.not_lt_zero _), fun c => ⟨fun z => ?_, fun z => ?_⟩⟩⟩ (fun s hs b => (b5 s hs).mp b) (by decide) (fun s _ ls => by rw [z0] at ls; omega) e
    · obtain ⟨k, hk, _⟩ := z
      exact absurd hk (Nat.not_lt_zero _)
    · have t := z.2.1.2.1
      exact absurd ⟨t.1, (b5 _ t.1).mpr t.2⟩ z.1
  replace e := ce_e (dk_e (a := 48) (f := 2) (b := 30) k8 (by decide +kernel)) e
  replace e := ce_e (dk_e (a := 48) (f := 3) (b := 49) k8 (by decide +kernel)) e
  replace e := ce_e (dk_e (a := 48) (f := 3) (b := 49) k8 (by decide +kernel)) e
  obtain ⟨o12, e12, e⟩ := cl_s e
  obtain ⟨r1, r2⟩ := ryh_k (d := 1 - pzS P) H Ob C8 A8 sd8 (by omega) e12
  rw [r1] at e
  rcases br_s e with ⟨c12, e⟩ | ⟨c12, e⟩
  rotate_left
  · refine none (fun z => ?_) rfl e
    rcases r2 with ⟨r2, _⟩ | ⟨_, r2⟩
    · exact c12 r2
    · exact z.1 r2
  rcases r2 with ⟨_, r2⟩ | ⟨r2, _⟩
  rotate_left
  · rw [r2] at c12; exact absurd c12 (by decide)
  replace e := ce_e (dk_e (a := 48) (f := 0) (b := 5) k8 (by decide +kernel)) e
  obtain ⟨o15, e15, e⟩ := cl_s e
  obtain ⟨t1, t2⟩ := has_v (V := vK n 0 0 0 0 0 0) e15
  rw [t1] at e
  have sh : (hI h8 (n + 5) 10) &&& (4 : Int32) = 0 ↔ L 17 0 = 0 := C8.2.2.1.2.1.2.2.1
  rcases br_s e with ⟨c15, e⟩ | ⟨c15, e⟩
  · rcases t2 with ⟨_, t2⟩ | ⟨t2, _⟩
    · exact go ⟨r2, Or.inl (sh.mp t2)⟩ rfl e
    · rw [t2] at c15; exact absurd c15 (by decide)
  rcases t2 with ⟨t2, _⟩ | ⟨_, t2⟩
  · exact absurd t2 c15
  replace e := ce_e (dk_e (a := 48) (f := 2) (b := 30) k8 (by decide +kernel)) e
  replace e := ce_e (dk_e (a := 48) (f := 3) (b := 49) k8 (by decide +kernel)) e
  obtain ⟨o19, e19, e⟩ := cl_s e
  obtain ⟨y1, y2⟩ := ryh_k (d := pzS P) H Ob C8 A8 sdp S2 e19
  rw [y1] at e
  have sb : 1 - pzS (bsP P) = pzS P := by show 1 - (1 - pzS P) = pzS P; omega
  rcases br_s e with ⟨c19, e⟩ | ⟨c19, e⟩
  · rcases y2 with ⟨_, y2⟩ | ⟨y2, _⟩
    · exact go ⟨r2, Or.inr (by rw [sb]; exact y2)⟩ rfl e
    · rw [y2] at c19; exact absurd c19 (by decide)
  · rcases y2 with ⟨y2, _⟩ | ⟨_, y2⟩
    · exact absurd y2 c19
    · refine none (fun z => ?_) rfl e
      rcases z.2 with w | w
      · exact t2 (sh.mpr w)
      · rw [sb] at w; exact w y2
end
/-! what was found, as a list -/
noncomputable def bfL (L : Nat → Nat → Int) (B : Pz) : Option (Nat × (Nat → Cd)) := @dite _ (∃ q : Nat × (Nat → Cd), q.1 ≤ 3000 ∧ SqM L B (BfD L B) (fun _ => True) q.1 q.2) (Classical.propDecidable _) (fun h => some (Classical.choose h)) (fun _ => none)
theorem bfl_s {L : Nat → Nat → Int} {B : Pz} {N : Nat} {f : Nat → Cd} (N3 : N ≤ 3000) (S : SqM L B (BfD L B) (fun _ => True) N f) : ∃ f', bfL L B = some (N, f') ∧ (∀ k, k < N → f' k = f k) ∧ SqM L B (BfD L B) (fun _ => True) N f' := by
  have ex : ∃ q : Nat × (Nat → Cd), q.1 ≤ 3000 ∧ SqM L B (BfD L B) (fun _ => True) q.1 q.2 := ⟨(N, f), N3, S⟩
  have e : bfL L B = some (Classical.choose ex) := by
    unfold bfL
    exact dif_pos ex
  have c := Classical.choose_spec ex
  obtain ⟨u1, u2⟩ := bf_same (fun _ => Iff.rfl) S c.2
  have c2 := c.2
  rw [← u1] at c2
  exact ⟨(Classical.choose ex).2, by rw [e]; exact congrArg some (Prod.ext u1.symm rfl), fun k hk => (u2 k hk).symm, c2⟩
theorem bfl_n {L : Nat → Nat → Int} {B : Pz} (O : OvB L B (BfD L B)) : bfL L B = none := by
  unfold bfL
  refine dif_neg (fun ⟨q, q1, q2⟩ => ?_)
  have := bf_over (fun _ => Iff.rfl) q2 O
  omega
noncomputable def bfF (B : Pz) (q : Nat × (Nat → Cd)) : List Pz := (List.range q.1).map (fun k => cdP B (q.2 k))
theorem bff_l {B : Pz} {q : Nat × (Nat → Cd)} : (bfF B q).length = q.1 := by
  unfold bfF
  rw [List.length_map, List.length_range]
theorem bff_k {B : Pz} {q : Nat × (Nat → Cd)} {k : Nat} (hk : k < q.1) : (bfF B q)[k]? = some (cdP B (q.2 k)) := by
  unfold bfF
  rw [List.getElem?_map, List.getElem?_range hk]
  rfl
def PlL (L : Nat → Nat → Int) : Prop := L 15 0 = 0 ∧ L 18 0 = 0 ∧ L 20 0 = 0
def syFd (σ : Sy) (l : List Pz) : Sy := (syL σ, syP σ, syG σ, syQ σ, syMv σ, l, syO σ)
noncomputable def bfN (L : Nat → Nat → Int) (B : Pz) : Int := match bfL L B with
  | none => -104
  | some q => (q.1 : Int)
noncomputable def bfY (L : Nat → Nat → Int) (B : Pz) : List Pz := match bfL L B with
  | none => []
  | some q => bfF B q
noncomputable def anBef (σ : Sy) (x1 : Int32) : Int := plE σ x1 (-102) (fun P => if prB' (PlL (syL σ)) = true then bfN (syL σ) (bsP P) else -103)
noncomputable def syBef (σ : Sy) (x1 : Int32) : Sy := match sPl σ x1 with
  | none => σ
  | some P => if prB' (PlL (syL σ)) = true then syFd σ (bfY (syL σ) (bsP P)) else σ
theorem and9 {x : Int32} : x &&& (9 : Int32) = 0 ↔ (x &&& (1 : Int32) = 0 ∧ x &&& (8 : Int32) = 0) := by
  have bit : ∀ {a b : Int32} {i : Nat}, (a &&& b).toBitVec.getLsbD i = (a.toBitVec.getLsbD i && b.toBitVec.getLsbD i) := fun {a b i} => by
    rw [Int32.toBitVec_and, BitVec.getLsbD_and]
  have nine : ∀ i : Fin 32, (9 : Int32).toBitVec.getLsbD i.val = ((1 : Int32).toBitVec.getLsbD i.val || (8 : Int32).toBitVec.getLsbD i.val) := by decide
  have zr : ∀ i, (0 : Int32).toBitVec.getLsbD i = false := fun i => by
    show (0#32).getLsbD i = false
    exact BitVec.getLsbD_zero
  constructor
  · intro z
    have h : ∀ i, i < 32 → (x.toBitVec.getLsbD i && (9 : Int32).toBitVec.getLsbD i) = false := fun i _ => by rw [← bit, z, zr]
    constructor
    · apply Int32.toBitVec_inj.mp
      apply BitVec.eq_of_getLsbD_eq
      intro i hi
      have y := h i hi
      rw [nine ⟨i, hi⟩] at y
      rw [bit, zr]
      generalize x.toBitVec.getLsbD i = A at y ⊢
      generalize (1 : Int32).toBitVec.getLsbD i = C at y ⊢
      generalize (8 : Int32).toBitVec.getLsbD i = D at y
      revert y
      cases A <;> cases C <;> cases D <;> decide
    · apply Int32.toBitVec_inj.mp
      apply BitVec.eq_of_getLsbD_eq
      intro i hi
      have y := h i hi
      rw [nine ⟨i, hi⟩] at y
      rw [bit, zr]
      generalize x.toBitVec.getLsbD i = A at y ⊢
      generalize (1 : Int32).toBitVec.getLsbD i = C at y
      generalize (8 : Int32).toBitVec.getLsbD i = D at y ⊢
      revert y
      cases A <;> cases C <;> cases D <;> decide
  · intro ⟨z1, z8⟩
    apply Int32.toBitVec_inj.mp
    apply BitVec.eq_of_getLsbD_eq
    intro i hi
    have y1 : (x.toBitVec.getLsbD i && (1 : Int32).toBitVec.getLsbD i) = false := by rw [← bit, z1, zr]
    have y8 : (x.toBitVec.getLsbD i && (8 : Int32).toBitVec.getLsbD i) = false := by rw [← bit, z8, zr]
    rw [bit, zr, nine ⟨i, hi⟩, Bool.and_or_distrib_left, y1, y8]
    rfl
section
variable {n F : Nat} {h : Hp} {σ : Sy} {o : Int32 × Hp} {x1 : Int32}
theorem ipl_c {L : Nat → Nat → Int} {g : Hp} (k : DyK n g h) (C : ClL n h L) (e : sX1_isPlain h (n + 5) = some o) : o.2 = h ∧ ((o.1 = 0 ∧ ¬ PlL L) ∨ (¬ o.1 = 0 ∧ PlL L)) := by
  have z0 : (0 : Int32).toInt = 0 := rfl
  unfold sX1_isPlain sX1_isPlain_20 sX1_isPlain_21 at e
  obtain ⟨o1, e1, e⟩ := cl_s e
  obtain ⟨t1, t2⟩ := has_v (V := vK n 0 0 0 0 0 0) e1
  have t2 : (o1.1 = 0 ∧ (hI h (n + 5) 10) &&& (9 : Int32) = 0) ∨ (o1.1 = 1 ∧ ¬ (hI h (n + 5) 10) &&& (9 : Int32) = 0) := t2
  have s1 : (hI h (n + 5) 10) &&& (1 : Int32) = 0 ↔ L 15 0 = 0 := C.2.2.1.2.1.1
  have s8 : (hI h (n + 5) 10) &&& (8 : Int32) = 0 ↔ L 18 0 = 0 := C.2.2.1.2.1.2.2.2
  have c7 : (hI h (n + 5) 7).toInt = L 20 0 := C.2.2.2.1.2.2.2.1
  rw [and9, s1, s8] at t2
  rw [t1] at e
  rcases br_s e with ⟨c1, e⟩ | ⟨c1, e⟩
  · rcases t2 with ⟨_, t2⟩ | ⟨t2, _⟩
    rotate_left
    · rw [t2] at c1; exact absurd c1 (by decide)
    rcases br_s e with ⟨c2, e⟩ | ⟨c2, e⟩
    · rw [so_e (gg_e e)]
      exact ⟨rfl, Or.inr ⟨show ¬ (1 : Int32) = 0 by decide, t2.1, t2.2, by rw [← c7, c2]; rfl⟩⟩
    · rw [so_e (gg_e e)]
      exact ⟨rfl, Or.inl ⟨rfl, fun z => c2 (Int32.toInt_inj.mp (by rw [c7, z.2.2]; rfl))⟩⟩
  · rcases t2 with ⟨t2, _⟩ | ⟨_, t2⟩
    · exact absurd t2 c1
    rw [so_e (gg_e e)]
    exact ⟨rfl, Or.inl ⟨rfl, fun z => t2 ⟨z.1, z.2.1⟩⟩⟩
theorem ca_bef (k : DyK n h h) (Ok : SyOk σ) (R : RelC n h σ) (fb : FmB n h (syL σ)) (l4 : hN h (n + 53) = 2) (l5 : hN h (n + 54) = 2) (e : sX11_before F h n x1 = some o) : CaO n h (syBef σ x1) o (anBef σ x1) := by
  have s6 := dk_610 k
  unfold sX11_before sX11_before_52 at e
  obtain ⟨o1, e1, e⟩ := cl_s e
  obtain ⟨t1, t2⟩ := isp_c k R.2.1 e1
  rw [t1] at e
  unfold anBef syBef
  rcases br_s e with ⟨c1, e⟩ | ⟨c1, e⟩
  · rcases t2 with ⟨_, t2⟩ | ⟨t2, _⟩
    · rw [ple_n t2, t2, so_e e]
      exact cao_0 k R rfl rfl
    · exact absurd c1 t2
  rcases t2 with ⟨t2, _⟩ | ⟨_, P, t2⟩
  · exact absurd t2 c1
  rw [ple_s t2, t2]
  obtain ⟨x0, x60, p60, _⟩ := spl_b t2
  have Oz := spl_ok Ok t2
  replace e := ce_e (dk_e (a := 0) (f := 2) (b := 5) k (by decide +kernel)) e
  obtain ⟨o4, e4, e⟩ := cl_s e
  obtain ⟨q1, q2⟩ := ipl_c k R.1 e4
  rw [q1] at e
  rcases br_s e with ⟨c4, e⟩ | ⟨c4, e⟩
  · rcases q2 with ⟨_, q2⟩ | ⟨q2, _⟩
    · have pf := prb_f.mpr q2
      rw [so_e e]
      show CaO n h (if prB' (PlL (syL σ)) = true then _ else σ) _ (if prB' (PlL (syL σ)) = true then _ else -103)
      rw [pf, if_neg (by decide), if_neg (by decide)]
      exact cao_0 k R rfl rfl
    · exact absurd c4 q2
  rcases q2 with ⟨q2, _⟩ | ⟨_, q2⟩
  · exact absurd q2 c4
  have pt := prb_e.mpr q2
  show CaO n h (if prB' (PlL (syL σ)) = true then syFd σ (bfY (syL σ) (bsP P)) else σ) _ (if prB' (PlL (syL σ)) = true then bfN (syL σ) (bsP P) else -103)
  rw [pt, if_pos rfl, if_pos rfl]
  replace e := ce_e (dk_e (a := 0) (f := 9) (b := 48) k (by decide +kernel)) e
  replace e := ce_e (dk_e (a := 0) (f := 13) (b := 148) k (by decide +kernel)) e
  replace e := gg_e e
  obtain ⟨r9, e9, e⟩ := cl_s e
  have y9 := pl_at k p60 e9
  subst y9
  obtain ⟨o10, e10, e⟩ := cl_s e
  have kk := dk_X6_find k e10
  obtain ⟨h8, f8, k8, A8, f10, res⟩ := fn_k p60 Ok.1.1 Ok.1.2.1 Ok.1.2.2.1 Ok.2.2.2.2.1 Oz k R.1 (cpl_p R.2.1 t2) fb l4 l5 e10
  have s68 := dk_610 k8
  have Ff : FrW (fun a i => (a = n + 48 ∧ (i = 6 ∨ i = 7)) ∨ (n + 49 ≤ a ∧ a ≤ n + 61) ∨ CSc n a i) h o10.2 := fw_t (fw_s f8 (fun a i z => by
    rcases z with z | z
    · exact Or.inl z
    · exact Or.inr (Or.inl (by omega)))) (fw_s f10 (fun a i z => by
    rcases z with z | z | z
    · exact Or.inl z
    · exact Or.inr (Or.inl (by omega))
    · exact Or.inr (Or.inr z)))
  have A10 : CpA o10.2 (n + 49) (syL σ 10 0) (bsP P) := cpa_f A8 (e49f kk) (fun j i hj => f10.2 _ _ (by omega) (fun c => by unfold bfW CSc at c; omega))
  have rel : ∀ {l : List Pz}, CFd n o10.2 (syFd σ l) → RelC n o10.2 (syFd σ l) := fun {l} cf => by
    refine ⟨cll_f k kk (fun j i hj => Ff.2 _ _ (by omega) (fun c => by unfold CSc at c; omega)) R.1, fun p hp => cpi_f (σ := σ) k kk Ff hp (fun c => by unfold CSc at c; omega) (fun j i hj c => by unfold CSc at c; omega) (R.2.1 p hp), fun g' hg => cgi_f (σ := σ) k kk Ff hg (lgle Ok g' hg) (fun c => by unfold CSc at c; omega) (fun q hq c => by unfold CSc at c; omega) (fun q a hq ea lo hi j f hj c => by unfold CSc at c; omega) (R.2.2.1 g' hg), cf, ?_, fun i hi => ?_⟩
    · rw [(Ff.2 (n + 3) 1 (by omega) (fun c => by unfold CSc at c; omega)).1]; exact R.2.2.2.2.1
    · rw [(Ff.2 (n + 4) i (by omega) (fun c => by unfold CSc at c; omega)).1]; exact R.2.2.2.2.2 i hi
  have frc : FrC n h o10.2 := frc_w k Ff (fun a i c _ => Or.inl (by unfold CSc at c; omega))
  rcases res with ⟨r1, N, f, N3, Rw, Sq⟩ | ⟨r1, r2, r3⟩
  · replace e := bn_e (by rw [r1]; decide) e
    replace e := ce_e (dk_e (a := 0) (f := 9) (b := 48) kk (by decide +kernel)) e
    rw [so_e e]
    obtain ⟨f', b1, b2, b3⟩ := bfl_s N3 Sq
    have eN : bfN (syL σ) (bsP P) = (N : Int) := by unfold bfN; rw [b1]
    have eY : bfY (syL σ) (bsP P) = bfF (bsP P) (N, f') := by unfold bfY; rw [b1]
    rw [eN, eY]
    refine ⟨Rw.1, rel ⟨by show (hI o10.2 (n + 48) 6).toInt = ((bfF (bsP P) (N, f')).length : Int); rw [bff_l]; exact Rw.1, Or.inr ⟨bsP P, bs_bare, A10, fun k hk => ?_⟩⟩, kk, frc⟩
    have hk : k < (bfF (bsP P) (N, f')).length := hk
    rw [bff_l] at hk
    have hk : k < N := hk
    refine ⟨_, bff_k hk, ?_⟩
    have bd := sqm_f b3 hk
    have CN := cd_n Ok.1.1 (bfd_k _ bd)
    exact ⟨(f' k).1, (f' k).2.1, (f' k).2.2.1, (f' k).2.2.2, CN.1, CN.2.1, CN.2.2.1, CN.2.2.2, ⟨bf_ne bd.1, bd.1.1.2.2, Oz.2.1⟩, by rw [Rw.2 k hk, b2 k hk]; rfl, rfl⟩
  · replace e := bp_e r1 e
    rw [so_e e]
    have b1 := bfl_n r3
    have eN : bfN (syL σ) (bsP P) = -104 := by unfold bfN; rw [b1]
    have eY : bfY (syL σ) (bsP P) = [] := by unfold bfY; rw [b1]
    rw [eN, eY]
    exact ⟨rfl, rel ⟨by rw [r2]; rfl, Or.inl rfl⟩, kk, frc⟩
end
end
section
/-! BEFORE, the reference: texts of boards that are bare -/
section
variable {L : Nat → Nat → Int} {B : Pz} {s t m a : Nat} {P : Pz}
theorem rgt_0 (z : ∀ q, pzR P q = false) : ∀ k, rgT L P k = [] := by
  intro k
  induction k with
  | zero => rfl
  | succ k ih =>
    rw [rgT, ih, if_neg (by rw [z k]; decide)]
    rfl
theorem hdt_0 {d : Nat} (z : ∀ q, pzH P q = 0) : ∀ k, hdT L P d k = [] := by
  intro k
  induction k with
  | zero => rfl
  | succ k ih =>
    rw [hdT, ih, z]
    rfl
def gsE (d : Nat) : List Int := [32, if d = 0 then 119 else 98, 32, 45, 32, 45, 32, 45, 32, 48, 48, 32, 48]
theorem gs_tx : wrTx L (gsP B s t m a) = mnT L (gsP B s t m a) (fun _ => true) (L 1 0).toNat ++ gsE (pzS B) := by
  have r0 : rgT L (gsP B s t m a) (L 0 0 * L 1 0).toNat = [] := rgt_0 (fun _ => rfl) _
  have h0 : hdA L (gsP B s t m a) = [] := by
    unfold hdA
    rw [hdt_0 (fun _ => rfl), hdt_0 (fun _ => rfl)]
    rfl
  have p0 : prB' (∀ q, q < 64 → pzR (gsP B s t m a) q = false) = true := prb_e.mpr (fun _ _ => rfl)
  unfold wrTx tl2 tl3 tl4
  rw [r0, h0, if_pos p0, if_pos (show pzN (gsP B s t m a) = 0 from rfl), if_pos rfl]
  show _ ++ [32, if pzS B = 0 then (119 : Int) else 98, 32] ++ [45] ++ [] ++ [32] ++ ([45] ++ [] ++ [32] ++ ([] ++ [45] ++ ([32, 48 + (0 : Int), 48 + (0 : Int), 32] ++ [48 + ((0 : Nat) : Int)]))) = _
  unfold gsE
  simp only [List.append_assoc, List.nil_append, List.cons_append]
  rfl
def TxB (l : List Int) : Prop := ∀ x, x ∈ l → 0 ≤ x ∧ x ≤ 127
theorem txb_a {l l' : List Int} (A : TxB l) (B : TxB l') : TxB (l ++ l') := fun x hx => by
  rcases List.mem_append.mp hx with z | z
  · exact A x z
  · exact B x z
theorem em_b {k : Nat} (h : k ≤ 64) : TxB (emT k) := fun x hx => by
  unfold emT at hx
  split at hx
  · rw [List.mem_singleton] at hx
    rw [hx]
    omega
  · exact absurd hx (by simp)
theorem ltp_r {v : Int} (T : LtO L) (v0 : 0 < v) (v1 : v ≤ 2 * L 2 0) : 0 ≤ ltP L v ∧ ltP L v ≤ 127 := by
  have := T (mnO v) (mno_lt v0 v1).1
  unfold ltP
  split <;> omega
theorem rkt_b {r : Nat} (H : LOk L) (T : LtO L) (HM : MOk L P.1) (hr : (r : Int) < L 1 0) : ∀ f : Nat, (f : Int) ≤ L 0 0 → TxB (rkT L P (fun _ => true) r f).2 := by
  have F8 := H.1
  have R8 := H.2.1
  intro f
  induction f with
  | zero => intro _ x hx; exact absurd hx (by simp [rkT])
  | succ f ih =>
    intro hf
    rw [rkt_s]
    split
    · exact ih (by omega)
    · rename_i c
      have q64 : r * (L 0 0).toNat + f < 64 := by
        have r7 : r ≤ 7 := by omega
        have f8 : (L 0 0).toNat ≤ 8 := by omega
        have := Nat.mul_le_mul r7 (Nat.le_refl (L 0 0).toNat)
        omega
      have mq := HM _ q64
      have p0 : 0 < P.1 (r * (L 0 0).toNat + f) := by
        have : ¬ P.1 (r * (L 0 0).toNat + f) = 0 := fun z => c ⟨rfl, z⟩
        omega
      have le := rkt_le (L := L) (P := P) (S := fun _ => true) (r := r) f
      refine txb_a (txb_a (ih (by omega)) (em_b (by omega))) (fun x hx => ?_)
      rw [List.mem_singleton] at hx
      rw [hx]
      show 0 ≤ ltP L _ ∧ ltP L _ ≤ 127
      exact ltp_r T p0 (mq.2 p0).2
theorem mnt_b (H : LOk L) (T : LtO L) (HM : MOk L P.1) : ∀ r : Nat, (r : Int) ≤ L 1 0 → TxB (mnT L P (fun _ => true) r) := by
  intro r
  induction r with
  | zero => intro _ x hx; exact absurd hx (by simp [mnT])
  | succ r ih =>
    intro hr
    have F8 := H.1
    have le := rkt_le (L := L) (P := P) (S := fun _ => true) (r := r) (L 0 0).toNat
    rw [mnT]
    refine txb_a ?_ (ih (by omega))
    unfold rkE
    refine txb_a (txb_a (rkt_b H T HM (by omega) _ (by omega)) (em_b (by omega))) (fun x hx => ?_)
    split at hx
    · rw [List.mem_singleton] at hx
      rw [hx]
      decide
    · exact absurd hx (by simp)
theorem gs_b (H : LOk L) (T : LtO L) (HM : MOk L (gsP B s t m a).1) : TxB (wrTx L (gsP B s t m a)) ∧ (wrTx L (gsP B s t m a)).length ≤ 85 := by
  have R8 := H.2.1
  rw [gs_tx]
  refine ⟨txb_a (mnt_b H T HM _ (by omega)) (fun x hx => ?_), ?_⟩
  · unfold gsE at hx
    simp only [List.mem_cons, List.not_mem_nil, or_false] at hx
    by_cases c : pzS B = 0
    · rw [if_pos c] at hx; omega
    · rw [if_neg c] at hx; omega
  · have a := mnt_len (P := gsP B s t m a) (S := fun _ => true) H (L 1 0).toNat
    rw [List.length_append]
    have : (gsE (pzS B)).length = 13 := rfl
    omega
theorem txb_i {l : List Int} {i : Nat} {x : Int} (A : TxB l) (e : l[i]? = some x) : 0 ≤ x ∧ x ≤ 127 := A x (List.mem_of_getElem? e)
end
/-- a text kept by the reference -/
def TxF (n : Nat) (h : Hp) (l : List Int) (id : Nat) : Prop := (hI h (n + 584) (96 * id)).toInt = (l.length : Int) ∧ ∀ i, i < l.length → l[i]? = some (hI h (n + 584) (96 * id + 1 + i)).toInt
/-- the text out -/
def TxO (n : Nat) (h : Hp) (l : List Int) : Prop := (hI h (n + 513) 3).toInt = (l.length : Int) ∧ ∀ i, i < l.length → l[i]? = some (hI h (n + 515) i).toInt
section
variable {n F : Nat} {g h : Hp} {l l' : List Int} {id : Nat} {x1 x2 : Int32} {o : Int32 × Hp}
theorem cmp_12 (k : DyK n g h) (O : TxO n h l) (T : TxF n h l' id) (b : TxB l) (b' : TxB l') (n85 : l'.length ≤ 95) (id3 : id < 3000) (e1 : x1.toInt = (id : Int)) (e2 : x2.toInt = (l'.length : Int)) : ∀ (f : Nat) {x3 : Int32} {i : Nat}, x3.toInt = (i : Int) → i ≤ l'.length → (∀ j, j < i → l[j]? = l'[j]?) → sX15_compare_12 F f h (n + 513) x1 x2 x3 = some o → o.2 = h ∧ (LexLt l l' → o.1.toInt < 0) ∧ (LexLt l' l → 0 < o.1.toInt) := by
  have z1 : (1 : Int32).toInt = 1 := rfl
  have z96 : (96 : Int32).toInt = 96 := rfl
  obtain ⟨o1, o2⟩ := O
  obtain ⟨t1, t2⟩ := T
  intro f
  induction f with
  | zero => intro x3 i _ _ _ e; exact absurd e (by rw [sX15_compare_12]; exact fun z => nomatch z)
  | succ f ih =>
    intro x3 i e3 il pre e
    rw [sX15_compare_12] at e
    unfold sX15_compare_74 at e
    have out : (l.length ≤ i ∨ l'.length ≤ i) → some ((hI h (n + 513) 3) - x2, h) = some o → o.2 = h ∧ (LexLt l l' → o.1.toInt < 0) ∧ (LexLt l' l → 0 < o.1.toInt) := fun z e => by
      rw [so_e e]
      refine ⟨rfl, fun ⟨q, x, y, a1, a2, a3, a4⟩ => ?_, fun ⟨q, x, y, a1, a2, a3, a4⟩ => ?_⟩
      · have q1 := (List.getElem?_eq_some_iff.mp a2).1
        have q2 := (List.getElem?_eq_some_iff.mp a3).1
        have := pre q (by omega)
        rw [a2, a3] at this
        have := Option.some.inj this
        omega
      · have q1 := (List.getElem?_eq_some_iff.mp a2).1
        have q2 := (List.getElem?_eq_some_iff.mp a3).1
        have := pre q (by omega)
        rw [a2, a3] at this
        have := Option.some.inj this
        omega
    rcases br_s e with ⟨c1, e⟩ | ⟨c1, e⟩
    · have c1 := le_i c1
      exact out (by omega) e
    have c1 := nle_i c1
    rcases br_s e with ⟨c2, e⟩ | ⟨c2, e⟩
    · have c2 := le_i c2
      exact out (by omega) e
    have c2 := nle_i c2
    have n3 : x3.toNatClampNeg = i := by have := nc_i (x := x3) (by omega); omega
    have m96 : ((96 : Int32) * x1).toInt = 96 * (id : Int) := by rw [tm (by rw [z96]; omega), z96, e1]
    have a96 : (((96 : Int32) * x1) + (1 : Int32)).toInt = 96 * (id : Int) + 1 := by rw [ta (by omega), m96, z1]
    have b96 : ((((96 : Int32) * x1) + (1 : Int32)) + x3).toInt = 96 * (id : Int) + 1 + i := by rw [ta (by omega), a96, e3]
    have n96 : ((((96 : Int32) * x1) + (1 : Int32)) + x3).toNatClampNeg = 96 * id + 1 + i := by have := nc_i (x := (((96 : Int32) * x1) + (1 : Int32)) + x3) (by omega); omega
    have d2 := dk_e (a := 513) (f := 2) (b := 515) k (by decide +kernel)
    have d41 := dk_e (a := 513) (f := 41) (b := 584) k (by decide +kernel)
    replace e := ce_e d2 e
    replace e := gg_e e
    replace e := ce_e d41 e
    replace e := gg_e e
    have v1 := o2 i (by omega)
    have v2 := t2 i (by omega)
    have r1 := txb_i b v1
    have r2 := txb_i b' v2
    rcases br_s e with ⟨c3, e⟩ | ⟨c3, e⟩ <;> rw [n3, n96] at c3
    · replace e := nx_e e
      refine ih (i := i + 1) (by rw [ta (by omega), z1, e3]; omega) (by omega) (fun j hj => ?_) e
      by_cases y : j = i
      · rw [y, v1, v2, c3]
      · exact pre j (by omega)
    · have c3 := ne_i c3
      replace e := ce_e d2 e
      replace e := gg_e e
      replace e := ce_e d41 e
      replace e := gg_e e
      rw [n3, n96] at e
      rw [so_e e]
      have sb : ((hI h (n + 515) i) - (hI h (n + 584) (96 * id + 1 + i))).toInt = (hI h (n + 515) i).toInt - (hI h (n + 584) (96 * id + 1 + i)).toInt := ts (by omega)
      refine ⟨rfl, fun ⟨q, x, y, a1, a2, a3, a4⟩ => ?_, fun ⟨q, x, y, a1, a2, a3, a4⟩ => ?_⟩
      · show (_ - _ : Int32).toInt < 0
        rw [sb]
        rcases Nat.lt_trichotomy q i with w | w | w
        · have := pre q w
          rw [a2, a3] at this
          have := Option.some.inj this
          omega
        · rw [w, v1] at a2
          rw [w, v2] at a3
          have := Option.some.inj a2
          have := Option.some.inj a3
          omega
        · have := a1 i w
          rw [v1, v2] at this
          exact absurd (Option.some.inj this) c3
      · show 0 < (_ - _ : Int32).toInt
        rw [sb]
        rcases Nat.lt_trichotomy q i with w | w | w
        · have := pre q w
          rw [a2, a3] at this
          have := Option.some.inj this
          omega
        · rw [w, v2] at a2
          rw [w, v1] at a3
          have := Option.some.inj a2
          have := Option.some.inj a3
          omega
        · have := a1 i w
          rw [v1, v2] at this
          exact absurd (Option.some.inj this).symm c3
theorem cmp_k (k : DyK n g h) (O : TxO n h l) (T : TxF n h l' id) (b : TxB l) (b' : TxB l') (n85 : l'.length ≤ 95) (id3 : id < 3000) (e1 : x1.toInt = (id : Int)) (e : sX15_compare F h (n + 513) x1 = some o) : o.2 = h ∧ (LexLt l l' → o.1.toInt < 0) ∧ (LexLt l' l → 0 < o.1.toInt) := by
  have z96 : (96 : Int32).toInt = 96 := rfl
  have m96 : ((96 : Int32) * x1).toInt = 96 * (id : Int) := by rw [tm (by rw [z96]; omega), z96, e1]
  have n96 : ((96 : Int32) * x1).toNatClampNeg = 96 * id := by have := nc_i (x := (96 : Int32) * x1) (by omega); omega
  unfold sX15_compare at e
  replace e := ce_e (dk_e (a := 513) (f := 41) (b := 584) k (by decide +kernel)) e
  replace e := gg_e e
  rw [n96] at e
  obtain ⟨v3, w3, e⟩ := nm_s e
  exact cmp_12 k O T b b' n85 id3 e1 (by rw [w3]; exact T.1) F (i := 0) rfl (Nat.zero_le _) (fun j hj => absurd hj (Nat.not_lt_zero _)) e
end
end
