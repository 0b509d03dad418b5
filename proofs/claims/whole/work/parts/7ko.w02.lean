section
/-! the reference: whether a PASS may have been made -/
theorem bk_k {fi ra t x y k : Int} (f0 : 0 < fi) (t0 : 0 ≤ t) (t1 : t < fi * ra) (h : onK fi ra t x y (-k)) : 0 ≤ tgt fi t x y (-k) ∧ tgt fi t x y (-k) < fi * ra ∧ onK fi ra (tgt fi t x y (-k)) x y k ∧ t = tgt fi (tgt fi t x y (-k)) x y k := by
  obtain ⟨a, b, c, d⟩ := tgt_on f0 h
  have r1 : t / fi < ra := Int.ediv_lt_of_lt_mul f0 (by rw [Int.mul_comm]; exact t1)
  have r0 : 0 ≤ t / fi := Int.ediv_nonneg t0 (by omega)
  have m0 := Int.emod_nonneg t (show fi ≠ 0 by omega)
  have m1 := Int.emod_lt_of_pos t f0
  refine ⟨a, b, ?_, ?_⟩
  · unfold onK
    rw [c, d, Int.neg_mul, Int.neg_mul]
    exact ⟨by omega, by omega, by omega, by omega⟩
  · rw [tgt_s, tgt_s, Int.neg_mul]
    omega
/-- a PASS along one vector -/
def PsXy (L : Nat → Nat → Int) (P : Pz) (j : Nat) (sd X Y : Int) : Prop := (pzN P : Int) ≤ L 78 j ∧ onK (L 0 0) (L 1 0) (pzQ P 0) X Y (-(pzN P : Int)) ∧ ¬ 0 < P.1 (tgt (L 0 0) (pzQ P 0) X Y (-(pzN P : Int))).toNat ∧ (L 79 j = 0 ∨ L 79 j = rkF L (tgt (L 0 0) (pzQ P 0) X Y (-(pzN P : Int))) sd) ∧ ∀ i : Nat, 1 ≤ i → i < pzN P → (pzQ P i : Int) = tgt (L 0 0) (pzQ P 0) X Y (-(pzN P : Int)) + i * (Y * L 0 0 + X)
def PsV (L : Nat → Nat → Int) (P : Pz) (j : Nat) (sd : Int) (d : Nat) : Prop := PsXy L P j sd (vXi (L 76 j) (L 77 j) (fbt (L 75 j) 2) d) (vYi (L 76 j) (L 77 j) sd (fbt (L 75 j) 2) d)
theorem psv_e {L : Nat → Nat → Int} {P : Pz} {j : Nat} {sd : Int} (H : LOk L) (n1 : 1 ≤ pzN P) (q0 : (pzQ P 0 : Int) < L 0 0 * L 1 0) : (∃ d : Nat, d < 8 ∧ PsV L P j sd d) ↔ ∃ s : Nat, (s : Int) < L 0 0 * L 1 0 ∧ RchL L j sd s (pzQ P 0) (pzN P) ∧ ¬ 0 < P.1 s ∧ ∀ i : Nat, 1 ≤ i → i < pzN P → (pzQ P i : Int) = (s : Int) + i * (((pzQ P 0 : Int) - s) / (pzN P : Int)) := by
  have f0 : 0 < L 0 0 := by have := H.1; omega
  constructor
  · rintro ⟨d, hd, a, b, c, e, g⟩
    obtain ⟨b0, b1, b2, b3⟩ := bk_k f0 (by omega) q0 b
    generalize tgt (L 0 0) (pzQ P 0) (vXi (L 76 j) (L 77 j) (fbt (L 75 j) 2) d) (vYi (L 76 j) (L 77 j) sd (fbt (L 75 j) 2) d) (-(pzN P : Int)) = S at *
    obtain ⟨s, rfl⟩ : ∃ s : Nat, S = (s : Int) := ⟨S.toNat, by omega⟩
    rw [Int.toNat_natCast] at c
    refine ⟨s, b1, ⟨e, by omega, a, d, hd, b2, b3⟩, c, fun i i1 i2 => ?_⟩
    have z : (pzQ P 0 : Int) - s = (pzN P : Int) * (vYi (L 76 j) (L 77 j) sd (fbt (L 75 j) 2) d * L 0 0 + vXi (L 76 j) (L 77 j) (fbt (L 75 j) 2) d) := by
      have b4 := b3
      rw [tgt_s] at b4
      omega
    rw [z, Int.mul_ediv_cancel_left _ (by omega)]
    exact g i i1 i2
  · rintro ⟨s, sL, ⟨fr, r⟩, c, g⟩
    obtain ⟨d, hd, o1, e1, st, _⟩ := rch_st r
    rw [st] at g
    have o2 : onK (L 0 0) (L 1 0) s (vXi (L 76 j) (L 77 j) (fbt (L 75 j) 2) d) (vYi (L 76 j) (L 77 j) sd (fbt (L 75 j) 2) d) (-(-(pzN P : Int))) := by
      rw [Int.neg_neg]; exact o1
    obtain ⟨_, _, b2, b3⟩ := bk_k f0 (show (0 : Int) ≤ s by omega) sL o2
    rw [Int.neg_neg, ← e1] at b2 b3
    refine ⟨d, hd, r.2.1, b2, ?_, ?_, fun i i1 i2 => ?_⟩
    · rw [← b3, Int.toNat_natCast]; exact c
    · rw [← b3]; exact fr
    · rw [← b3]; exact g i i1 i2
section
variable {F : Nat} {V : Nat → Nat} {h : Hp} {L : Nat → Nat → Int} {P : Pz} {o : Int32 × Hp}
/-- the squares gone over, one by one -/
theorem pby_86 {x5 x6 X Y : Int32} {s : Nat} (H : LOk L) (W : RW0 V h L) (R : RbP V h P) (n7 : pzN P ≤ 7) (e5 : x5.toInt = (pzN P : Int)) (e6 : x6.toInt = (s : Int)) (sL : (s : Int) < L 0 0 * L 1 0) (eX : hI h (V 16) 23 = X) (eY : hI h (V 16) 24 = Y) (iX : Rg (-7) 7 X) (iY : Rg (-7) 7 Y) (on : onK (L 0 0) (L 1 0) s X.toInt Y.toInt (pzN P)) : ∀ (f : Nat) {x7 : Int32} {n : Nat}, x7.toInt = (n : Int) → 1 ≤ n → (∀ i, 1 ≤ i → i < n → i < pzN P → (pzQ P i : Int) = (s : Int) + i * (Y.toInt * L 0 0 + X.toInt)) → sX15_isPassBy_86 F f h (V 16) (V 13) x5 x6 x7 = some o → o.2 = h ∧ ((o.1 = 0 ∧ ¬ ∀ i : Nat, 1 ≤ i → i < pzN P → (pzQ P i : Int) = (s : Int) + i * (Y.toInt * L 0 0 + X.toInt)) ∨ (o.1 = 1 ∧ ∀ i : Nat, 1 ≤ i → i < pzN P → (pzQ P i : Int) = (s : Int) + i * (Y.toInt * L 0 0 + X.toInt))) := by
  have z1 : (1 : Int32).toInt = 1 := rfl
  have sq := sq_64 H
  obtain ⟨g1, g2, g3, g4⟩ := W.2
  have fi := H.1
  have ra := H.2.1
  have iA : Rg 3 8 (hI h (V 16) 11) := ⟨by omega, by omega⟩
  have iB : Rg 3 8 (hI h (V 16) 12) := ⟨by omega, by omega⟩
  intro f
  induction f with
  | zero => intro x7 n _ _ _ e; exact absurd e (by rw [sX15_isPassBy_86]; exact fun z => nomatch z)
  | succ f ih =>
    intro x7 n e7 n1 al e
    rw [sX15_isPassBy_86] at e
    rcases br_s e with ⟨c, e⟩ | ⟨c, e⟩
    · have c := le_i c
      rw [e5, e7] at c
      rw [so_e e]
      exact ⟨rfl, Or.inr ⟨rfl, fun i i1 i2 => al i i1 (by omega) i2⟩⟩
    have c := nle_i c
    rw [e5, e7] at c
    replace e := cl_s e; obtain ⟨o2, eo2, e⟩ := e
    have v2 := on_val eo2
    rw [eX, eY] at v2
    have w2 : o2.2 = h := by rw [v2]
    have w1 : o2.1 = onV (hI h (V 16) 11) (hI h (V 16) 12) X Y x6 x7 := by rw [v2]
    rw [w2] at e
    have oi := on_int (a := hI h (V 16) 11) (b := hI h (V 16) 12) (x := X) (y := Y) (s := x6) (k := x7) ⟨by omega, by omega⟩ iA iB iX iY ⟨by omega, by omega⟩
    rw [← w1, g2, g3, e6, e7] at oi
    have om := onk_mid (fi := L 0 0) (ra := L 1 0) (j := (n : Int)) (by omega) (show (0 : Int) ≤ s by omega) sL on ⟨by omega, by omega⟩
    rcases oi with ⟨_, no⟩ | ⟨_, tv⟩
    · exact absurd om no
    rw [tgt_s] at tv
    have c7 : x7.toNatClampNeg = n := by have := nc_i (x := x7) (by omega); omega
    replace e := ce_e R.1.2.1 e
    replace e := gg_e e
    have qn := R.2.2.2.2.2.1 n (by omega)
    rcases br_s e with ⟨d, e⟩ | ⟨d, e⟩ <;> rw [c7] at d
    · rw [d, qn] at tv
      refine ih (n := n + 1) (by rw [ta (by rw [z1]; omega), z1, e7]; omega) (by omega) (fun i i1 i2 i3 => ?_) (nx_e e)
      by_cases q : i = n
      · rw [q]; exact tv
      · exact al i i1 (by omega) i3
    · rw [so_e e]
      exact ⟨rfl, Or.inl ⟨rfl, fun z => d (Int32.toInt_inj.mp (by rw [tv, qn, z n n1 (by omega)]))⟩⟩
theorem pby_r {x2 x3 x4 X Y : Int32} {sd : Int} (H : LOk L) (J : StR L x3.toNatClampNeg) (W : RW0 V h L) (R : RbP V h P) (HM : MOk L P.1) (n1 : 1 ≤ pzN P) (n64 : pzN P ≤ 64) (q0 : (pzQ P 0 : Int) < L 0 0 * L 1 0) (e2 : x2.toInt = (pzQ P 0 : Int)) (e4 : x4.toInt = sd) (eX : hI h (V 16) 23 = X) (eY : hI h (V 16) 24 = Y) (iX : Rg (-7) 7 X) (iY : Rg (-7) 7 Y) (e : sX15_isPassBy F h (V 16) (V 13) x2 x3 x4 = some o) : o.2 = h ∧ ((o.1 = 0 ∧ ¬ PsXy L P x3.toNatClampNeg sd X.toInt Y.toInt) ∨ (o.1 = 1 ∧ PsXy L P x3.toNatClampNeg sd X.toInt Y.toInt)) := by
  have z0 : (0 : Int32).toInt = 0 := rfl
  have zm : (-1 : Int32).toInt = -1 := by decide
  have sq := sq_64 H
  have Wb := rwd_b W R
  obtain ⟨g1, g2, g3, g4⟩ := W.2
  have fi := H.1
  have ra := H.2.1
  have iA : Rg 3 8 (hI h (V 16) 11) := ⟨by omega, by omega⟩
  have iB : Rg 3 8 (hI h (V 16) 12) := ⟨by omega, by omega⟩
  obtain ⟨_, _, _, l78, l79, _⟩ := lw_75 Wb x3.toNatClampNeg
  have rd := J.2.2.2.2.1
  have l0 := J.2.2.2.2.2
  have e1 := R.2.2.2.2.1
  unfold sX15_isPassBy sX15_isPassBy_81 sX15_isPassBy_83 at e
  have no : ¬ PsXy L P x3.toNatClampNeg sd X.toInt Y.toInt → some ((0 : Int32), h) = some o → o.2 = h ∧ ((o.1 = 0 ∧ ¬ PsXy L P x3.toNatClampNeg sd X.toInt Y.toInt) ∨ (o.1 = 1 ∧ PsXy L P x3.toNatClampNeg sd X.toInt Y.toInt)) := fun n u => by
    rw [so_e u]
    exact ⟨rfl, Or.inl ⟨rfl, n⟩⟩
  replace e := nm_s e; obtain ⟨v1, u1, e⟩ := e
  rw [← u1] at e1
  replace e := ce_e W.1.1 e
  replace e := ce_e W.1.2.2.2.2.2.2.1 e
  replace e := gg_e e
  rcases br_s e with ⟨c, e⟩ | ⟨c, e⟩
  rotate_left
  · have c := nle_i c
    rw [l78, e1] at c
    exact no (fun z => by have := z.1; omega) e
  have c := le_i c
  rw [l78, e1] at c
  replace e := cl_s e; obtain ⟨o6, eo6, e⟩ := e
  have v6 := on_val eo6
  rw [eX, eY] at v6
  have w6 : o6.2 = h := by rw [v6]
  have w1 : o6.1 = onV (hI h (V 16) 11) (hI h (V 16) 12) X Y x2 ((0 : Int32) - v1) := by rw [v6]
  rw [w6] at e
  have nk : ((0 : Int32) - v1).toInt = -(pzN P : Int) := by rw [ts (by rw [z0]; omega), z0, e1]; omega
  have oi := on_int (a := hI h (V 16) 11) (b := hI h (V 16) 12) (x := X) (y := Y) (s := x2) (k := (0 : Int32) - v1) ⟨by omega, by omega⟩ iA iB iX iY ⟨by omega, by omega⟩
  rw [← w1, g2, g3, e2, nk] at oi
  rcases oi with ⟨m, off⟩ | ⟨on, tv⟩
  · exact no (fun z => off z.2.1) (bp_e m e)
  obtain ⟨b0, b1, b2, b3⟩ := bk_k (show 0 < L 0 0 by omega) (show (0 : Int) ≤ (pzQ P 0 : Int) by omega) q0 on
  obtain ⟨s, es⟩ : ∃ s : Nat, tgt (L 0 0) (pzQ P 0) X.toInt Y.toInt (-(pzN P : Int)) = (s : Int) := ⟨(tgt (L 0 0) (pzQ P 0) X.toInt Y.toInt (-(pzN P : Int))).toNat, by omega⟩
  have px : PsXy L P x3.toNatClampNeg sd X.toInt Y.toInt ↔ ¬ 0 < P.1 s ∧ (L 79 x3.toNatClampNeg = 0 ∨ L 79 x3.toNatClampNeg = rkF L s sd) ∧ ∀ i : Nat, 1 ≤ i → i < pzN P → (pzQ P i : Int) = (s : Int) + i * (Y.toInt * L 0 0 + X.toInt) := by
    unfold PsXy
    rw [es, Int.toNat_natCast]
    exact ⟨fun z => z.2.2, fun z => ⟨c, on, z⟩⟩
  rw [es] at tv b0 b1 b2 b3
  replace e := bn_e (fun z => by rw [z, zm] at tv; omega) e
  have c6 : o6.1.toNatClampNeg = s := by have := nc_i (x := o6.1) (by omega); omega
  replace e := ce_e R.1.1 e
  replace e := gg_e e
  have mv := R.2.1 s (by omega)
  rcases br_s e with ⟨d, e⟩ | ⟨d, e⟩ <;> rw [c6] at d
  · have d := lt_i d
    rw [mv, z0] at d
    exact no (fun z => (px.mp z).1 d) e
  have d := nlt_i d
  rw [mv, z0] at d
  have fin : (L 79 x3.toNatClampNeg = 0 ∨ L 79 x3.toNatClampNeg = rkF L s sd) → sX15_isPassBy_86 F F h (V 16) (V 13) v1 o6.1 (1 : Int32) = some o → o.2 = h ∧ ((o.1 = 0 ∧ ¬ PsXy L P x3.toNatClampNeg sd X.toInt Y.toInt) ∨ (o.1 = 1 ∧ PsXy L P x3.toNatClampNeg sd X.toInt Y.toInt)) := fun fr u => by
    obtain ⟨a, b⟩ := pby_86 H W R (by omega) e1 tv b1 eX eY iX iY b2 F (n := 1) rfl (by omega) (fun i i1 i2 => by omega) u
    refine ⟨a, ?_⟩
    rcases b with ⟨b, q⟩ | ⟨b, q⟩
    · exact Or.inl ⟨b, fun z => q (px.mp z).2.2⟩
    · exact Or.inr ⟨b, px.mpr ⟨by omega, fr, q⟩⟩
  replace e := ce_e W.1.1 e
  replace e := ce_e W.1.2.2.2.2.2.2.2.1 e
  replace e := gg_e e
  rcases br_s e with ⟨y, e⟩ | ⟨y, e⟩
  · have y := le_i y
    rw [l79, z0] at y
    exact fin (Or.inl (by omega)) e
  have y := nle_i y
  rw [l79, z0] at y
  replace e := cl_s e; obtain ⟨o15, eo15, e⟩ := e
  obtain ⟨w15, r15⟩ := rkf_v H Wb (show 0 ≤ o6.1.toInt by omega) (by omega) eo15
  rw [c6, e4] at r15
  rw [w15] at e
  replace e := ce_e W.1.1 e
  replace e := ce_e W.1.2.2.2.2.2.2.2.1 e
  replace e := gg_e e
  rcases br_s e with ⟨q, e⟩ | ⟨q, e⟩
  · exact fin (Or.inr (by rw [← l79, ← r15, q])) e
  · refine no (fun z => ?_) e
    rcases (px.mp z).2.1 with a | a
    · omega
    · exact q (Int32.toInt_inj.mp (by rw [r15, l79, a]))
/-- over all eight vectors -/
theorem psv_107 (D : VD V) {K : Hp → Nat → Nat → Int32 → Int32 → Int32 → Int32 → Option (Int32 × Hp)} {t v sd i st : Int32} {d0 : Int} (H : LOk L) (J : StR L st.toNatClampNeg) (HM : MOk L P.1) (n1 : 1 ≤ pzN P) (n64 : pzN P ≤ 64) (q0 : (pzQ P 0 : Int) < L 0 0 * L 1 0) (e2 : t.toInt = (pzQ P 0 : Int)) (e4 : sd.toInt = d0) : ∀ (f : Nat) {h : Hp} {x7 : Int32}, RW0 V h L → RbP V h P → Rg 0 8 x7 → sX15_isPass_107 F K f h (V 16) (V 13) t v sd i st x7 = some o → (∃ g, FrV V (wl wdx) h g ∧ (∀ d : Nat, x7.toInt ≤ d → d < 8 → vOk (L 76 st.toNatClampNeg) (L 77 st.toNatClampNeg) (fbt (L 75 st.toNatClampNeg) 2) d = true → ¬ (fbt (L 75 st.toNatClampNeg) 4 = true ∧ PsV L P st.toNatClampNeg d0 d)) ∧ sX15_isPass_164 F K g (V 16) (V 13) t v sd i = some o) ∨ (o.1 = 1 ∧ FrV V (wl wdx) h o.2 ∧ fbt (L 75 st.toNatClampNeg) 4 = true ∧ ∃ d : Nat, d < 8 ∧ PsV L P st.toNatClampNeg d0 d) := by
  have z8 : (8 : Int32).toInt = 8 := rfl
  have z1 : (1 : Int32).toInt = 1 := rfl
  intro f
  induction f with
  | zero => intro h x7 _ _ _ e; exact absurd e (by rw [sX15_isPass_107]; exact fun z => nomatch z)
  | succ f ih =>
    intro h x7 W R i7 e
    have i70 := i7.1
    have i71 := i7.2
    have c7 := nc_i i70
    rw [sX15_isPass_107] at e
    rcases br_s e with ⟨l, e⟩ | ⟨l, e⟩
    · have l := le_i l
      rw [z8] at l
      exact Or.inl ⟨h, fv_0, fun d a b => by omega, e⟩
    have l := nle_i l
    rw [z8] at l
    have Wb := rwd_b W R
    obtain ⟨l75, l76, l77, _⟩ := lw_75 Wb st.toNatClampNeg
    have fb := (fb_e (x := hI h (V 75) st.toNatClampNeg) ⟨by rw [l75]; exact J.1.1, by rw [l75]; exact J.1.2⟩).2.2.2.2.1
    rw [l75] at fb
    replace e := ce_e W.1.1 e
    replace e := ce_e W.1.2.2.2.1 e
    replace e := gg_e e
    rcases br_s e with ⟨p, e⟩ | ⟨p, e⟩
    · have p := fb.mp p
      exact Or.inl ⟨h, fv_0, fun d _ _ _ z => by rw [p] at z; exact absurd z.1 (by decide), e⟩
    have pt : fbt (L 75 st.toNatClampNeg) 4 = true := by
      cases y : fbt (L 75 st.toNatClampNeg) 4 with
      | true => rfl
      | false => exact absurd (fb.mpr y) p
    replace e := cl_s e; obtain ⟨o3, eo3, e⟩ := e
    obtain ⟨X, Y, w3, vx, vy, ok⟩ := hv_val W.1 ⟨by rw [l75]; exact J.1.1, by rw [l75]; exact J.1.2⟩ ⟨by rw [l76]; exact J.2.1.1, by rw [l76]; exact J.2.1.2⟩ ⟨by rw [l77]; exact J.2.2.1.1, by rw [l77]; exact J.2.2.1.2⟩ ⟨i70, by omega⟩ eo3
    rw [l75, l76, l77] at vx vy ok
    rw [e4] at vy
    have A : FrV V (wl wdx) h o3.2 := by rw [w3]; exact fv_t (fv_w rfl) (fv_w rfl)
    have t7 : (x7 + (1 : Int32)).toInt = x7.toInt + 1 := by rw [ta (by rw [z1]; omega), z1]
    have nxt : ∀ {g : Hp}, FrV V (wl wdx) h g → (vOk (L 76 st.toNatClampNeg) (L 77 st.toNatClampNeg) (fbt (L 75 st.toNatClampNeg) 2) x7.toNatClampNeg = true → ¬ PsV L P st.toNatClampNeg d0 x7.toNatClampNeg) → sX15_isPass_158 F K (sX15_isPass_107 F K f) g (V 16) (V 13) t v sd i st x7 = some o → (∃ g, FrV V (wl wdx) h g ∧ (∀ d : Nat, x7.toInt ≤ d → d < 8 → vOk (L 76 st.toNatClampNeg) (L 77 st.toNatClampNeg) (fbt (L 75 st.toNatClampNeg) 2) d = true → ¬ (fbt (L 75 st.toNatClampNeg) 4 = true ∧ PsV L P st.toNatClampNeg d0 d)) ∧ sX15_isPass_164 F K g (V 16) (V 13) t v sd i = some o) ∨ (o.1 = 1 ∧ FrV V (wl wdx) h o.2 ∧ fbt (L 75 st.toNatClampNeg) 4 = true ∧ ∃ d : Nat, d < 8 ∧ PsV L P st.toNatClampNeg d0 d) := fun {g} G no u => by
      unfold sX15_isPass_158 at u
      rcases ih (rw0_f D W G (by decide) rfl rfl rfl) (rbp_f D R G (by decide)) ⟨by omega, by omega⟩ (nx_e u) with ⟨g', a, b, c⟩ | ⟨a, b, c⟩
      · refine Or.inl ⟨g', fv_t G a, fun d a' b' c' => ?_, c⟩
        by_cases y : d = x7.toNatClampNeg
        · rw [y] at c' ⊢
          exact fun z => no c' z.2
        · exact b d (by omega) b' c'
      · exact Or.inr ⟨a, fv_t G b, c⟩
    rcases br_s e with ⟨c, e⟩ | ⟨c, e⟩
    · refine nxt A (fun y => ?_) e
      rcases ok with ⟨_, k⟩ | ⟨k, _⟩
      · rw [k] at y; exact absurd y (by decide)
      · rw [k] at c; exact absurd c (by decide)
    replace e := cl_s e; obtain ⟨o5, eo5, e⟩ := e
    have vr := v_rg (a := L 76 st.toNatClampNeg) (b := L 77 st.toNatClampNeg) (sd := d0) (fo := fbt (L 75 st.toNatClampNeg) 2) (d := x7.toNatClampNeg) J.2.1 J.2.2.1
    rw [← vx, ← vy] at vr
    obtain ⟨r1, r2⟩ := pby_r (X := X) (Y := Y) H J (rw0_f D W A (by decide) rfl rfl rfl) (rbp_f D R A (by decide)) HM n1 n64 q0 e2 e4 (by rw [w3, rI_o (by decide), rI_s]) (by rw [w3, rI_s]) ⟨vr.1.1, vr.1.2⟩ ⟨vr.2.1, vr.2.2⟩ eo5
    rw [vx, vy] at r2
    rw [r1] at e
    rcases r2 with ⟨a, b⟩ | ⟨a, b⟩
    · exact nxt A (fun _ => b) (bp_e a e)
    · replace e := bn_e (by rw [a]; decide) e
      rw [so_e e]
      exact Or.inr ⟨rfl, A, pt, x7.toNatClampNeg, by omega, b⟩
theorem ps_ok {j : Nat} {sd : Int} {d : Nat} (J : StR L j) (hd : d < 8) (w : PsV L P j sd d) : ∃ e, e < 8 ∧ vOk (L 76 j) (L 77 j) (fbt (L 75 j) 2) e = true ∧ PsV L P j sd e := by
  obtain ⟨e, he, ok, ex, ey⟩ := vok_ex (sd := sd) (fo := fbt (L 75 j) 2) J.2.1 J.2.2.1 hd
  refine ⟨e, he, ok, ?_⟩
  unfold PsV
  rw [ex, ey]
  exact w
def PsI (L : Nat → Nat → Int) (P : Pz) (i : Nat) : Prop := (i : Int) < L 74 (mnO (P.1 (pzQ P 0))) ∧ ∃ s : Nat, (s : Int) < L 0 0 * L 1 0 ∧ PsB L P i s
theorem psi_e {i : Nat} (H : LOk L) (n1 : 1 ≤ pzN P) (q0 : (pzQ P 0 : Int) < L 0 0 * L 1 0) (il : (i : Int) < L 74 (mnO (P.1 (pzQ P 0)))) : PsI L P i ↔ fbt (L 75 (8 * mnO (P.1 (pzQ P 0)) + i)) 4 = true ∧ ∃ d : Nat, d < 8 ∧ PsV L P (8 * mnO (P.1 (pzQ P 0)) + i) ((P.1 (pzQ P 0) - 1) % 2) d := by
  rw [psv_e H n1 q0]
  unfold PsI PsB
  exact ⟨fun ⟨_, s, a, b, c⟩ => ⟨b, s, a, c⟩, fun ⟨b, s, a, c⟩ => ⟨il, s, a, b, c⟩⟩
/-- over all STEPS of a man -/
theorem psv_75 (D : VD V) {t v sd : Int32} (H : LOk L) (HM : MOk L P.1) (n1 : 1 ≤ pzN P) (n64 : pzN P ≤ 64) (q0 : (pzQ P 0 : Int) < L 0 0 * L 1 0) (e2 : t.toInt = (pzQ P 0 : Int)) (ev : v.toInt = P.1 (pzQ P 0)) (mp : 0 < P.1 (pzQ P 0)) (e4 : sd.toInt = (P.1 (pzQ P 0) - 1) % 2) : ∀ (f : Nat) {h : Hp} {x5 : Int32}, RW0 V h L → RbP V h P → 0 ≤ x5.toInt → sX15_isPass_75 F f h (V 16) (V 13) t v sd x5 = some o → FrV V (wl wdx) h o.2 ∧ ((o.1 = 0 ∧ ∀ i : Nat, x5.toInt ≤ i → ¬ PsI L P i) ∨ (o.1 = 1 ∧ ∃ i, PsI L P i)) := by
  have z8 : (8 : Int32).toInt = 8 := rfl
  have z1 : (1 : Int32).toInt = 1 := rfl
  have sq := sq_64 H
  have vL := ((HM (pzQ P 0) (by omega)).2 mp).2
  obtain ⟨mL, mE⟩ := mno_lt (L := L) mp vL
  have L2 := H.2.2.1
  obtain ⟨H74, Hst⟩ := H.2.2.2 _ mL
  have tv : (v - (1 : Int32)).toInt = P.1 (pzQ P 0) - 1 := by rw [ts (by rw [z1]; omega), z1, ev]
  have sh : ((v - (1 : Int32)) >>> ((1 : Int32) &&& 31)).toInt = ((mnO (P.1 (pzQ P 0)) : Nat) : Int) := by
    rw [shr_i 1 (by decide), tv, mE]
    rfl
  generalize hm : (v - (1 : Int32)) >>> ((1 : Int32) &&& 31) = mn at sh
  have cm : mn.toNatClampNeg = mnO (P.1 (pzQ P 0)) := by
    have := nc_i (x := mn) (by omega)
    omega
  intro f
  induction f with
  | zero => intro h x5 _ _ _ e; exact absurd e (by rw [sX15_isPass_75]; exact fun z => nomatch z)
  | succ f ih =>
    intro h x5 W R a5 e
    have c5' := nc_i a5
    rw [sX15_isPass_75] at e
    unfold sX15_manOf at e
    replace e := ce_e W.1.1 e
    replace e := ce_e W.1.2.2.1 e
    replace e := cl_s e; obtain ⟨o3, eo3, e⟩ := e
    rw [so_e eo3] at e
    replace e := gg_e e
    have l74 := (lw_75 (rwd_b W R) mn.toNatClampNeg).2.2.2.2.2
    rcases br_s e with ⟨l, e⟩ | ⟨l, e⟩ <;> rw [hm] at l
    · have l := le_i l
      rw [l74, cm] at l
      rw [so_e e]
      exact ⟨fv_0, Or.inl ⟨rfl, fun i a b => by have := b.1; omega⟩⟩
    have l := nle_i l
    rw [l74, cm] at l
    replace e := cl_s e; obtain ⟨o6, eo6, e⟩ := e
    rw [so_e eo6] at e
    replace e := nm_s e; obtain ⟨v7, w7, e⟩ := e
    have w7 : v7 = (8 : Int32) * mn + x5 := by rw [← hm]; exact w7
    have t8 : ((8 : Int32) * mn).toInt = 8 * mn.toInt := by rw [tm (by rw [z8]; omega), z8]
    have t7 : v7.toInt = 8 * mn.toInt + x5.toInt := by rw [w7, ta (by rw [t8]; omega), t8]
    have c7 : v7.toNatClampNeg = 8 * mnO (P.1 (pzQ P 0)) + x5.toNatClampNeg := by
      have := nc_i (x := v7) (by omega)
      omega
    have J : StR L v7.toNatClampNeg := by
      rw [c7]
      exact Hst x5.toNatClampNeg (by omega)
    have t5 : (x5 + (1 : Int32)).toInt = x5.toInt + 1 := by rw [ta (by rw [z1]; omega), z1]
    have pe := psi_e (i := x5.toNatClampNeg) H n1 q0 (by omega)
    rcases psv_107 (d0 := (P.1 (pzQ P 0) - 1) % 2) D H J HM n1 n64 q0 e2 e4 F (x7 := 0) W R ⟨by decide, by decide⟩ e with ⟨g, G, nn, u⟩ | ⟨a, b, p4, d, hd, pd⟩
    · unfold sX15_isPass_164 at u
      obtain ⟨r1, r2⟩ := ih (rw0_f D W G (by decide) rfl rfl rfl) (rbp_f D R G (by decide)) (by omega) (nx_e u)
      refine ⟨fv_t G r1, ?_⟩
      rcases r2 with ⟨a, b⟩ | r2
      · refine Or.inl ⟨a, fun i hi => ?_⟩
        by_cases y : i = x5.toNatClampNeg
        · rw [y]
          intro z
          obtain ⟨p4, d, hd, pd⟩ := pe.mp z
          rw [← c7] at p4 pd
          obtain ⟨e', he, ok, pe'⟩ := ps_ok J hd pd
          exact nn e' (show (0 : Int) ≤ e' by omega) he ok ⟨p4, pe'⟩
        · exact b i (by omega)
      · exact Or.inr r2
    · rw [c7] at p4 pd
      exact ⟨b, Or.inr ⟨a, x5.toNatClampNeg, pe.mpr ⟨p4, d, hd, pd⟩⟩⟩
/-- the squares gone over are empty -/
theorem psv_34 (D : VD V) {t v : Int32} (H : LOk L) (HM : MOk L P.1) (W : RW0 V h L) (R : RbP V h P) (n1 : 1 ≤ pzN P) (n64 : pzN P ≤ 64) (qs : ∀ i, i < pzN P → (pzQ P i : Int) < L 0 0 * L 1 0) (e2 : t.toInt = (pzQ P 0 : Int)) (ev : v.toInt = P.1 (pzQ P 0)) (mp : 0 < P.1 (pzQ P 0)) (ns : ¬ (P.1 (pzQ P 0) - 1) % 2 = (pzS P : Int)) : ∀ (f : Nat) {x4 : Int32} {n : Nat}, x4.toInt = (n : Int) → 1 ≤ n → (∀ k, 1 ≤ k → k < n → k < pzN P → ¬ 0 < P.1 (pzQ P k)) → sX15_isPass_34 F f h (V 16) (V 13) t v x4 = some o → FrV V (wl wdx) h o.2 ∧ ((o.1 = 0 ∧ ¬ PsA L P) ∨ (o.1 = 1 ∧ PsA L P)) := by
  have z0 : (0 : Int32).toInt = 0 := rfl
  have z1 : (1 : Int32).toInt = 1 := rfl
  have sq := sq_64 H
  have e1 := R.2.2.2.2.1
  have L2 := H.2.2.1
  have vL := ((HM (pzQ P 0) (by have := qs 0 n1; omega)).2 mp).2
  have tv : (v - (1 : Int32)).toInt = P.1 (pzQ P 0) - 1 := by rw [ts (by rw [z1]; omega), z1, ev]
  have sdv : ((v - (1 : Int32)) &&& (1 : Int32)).toInt = (P.1 (pzQ P 0) - 1) % 2 := by rw [and1_i (by omega), tv]
  intro f
  induction f with
  | zero => intro x4 n _ _ _ e; exact absurd e (by rw [sX15_isPass_34]; exact fun z => nomatch z)
  | succ f ih =>
    intro x4 n e4 n1' al e
    rw [sX15_isPass_34] at e
    unfold sX15_sideOf at e
    rcases br_s e with ⟨l, e⟩ | ⟨l, e⟩
    · have l := le_i l
      rw [e1, e4] at l
      replace e := cl_s e; obtain ⟨o2, eo2, e⟩ := e
      rw [so_e eo2] at e
      obtain ⟨r1, r2⟩ := psv_75 D H HM n1 n64 (qs 0 n1) e2 ev mp sdv F (x5 := 0) W R (by decide) e
      refine ⟨r1, ?_⟩
      rcases r2 with ⟨a, b⟩ | ⟨a, i, il, s, sL, pb⟩
      · exact Or.inl ⟨a, fun ⟨_, _, _, i, s, il, sL, pb⟩ => b i (by rw [z0]; omega) ⟨il, s, sL, pb⟩⟩
      · exact Or.inr ⟨a, mp, ns, fun k k1 k2 => al k k1 (by omega) k2, i, s, il, sL, pb⟩
    have l := nle_i l
    rw [e1, e4] at l
    have c4 : x4.toNatClampNeg = n := by have := nc_i (x := x4) (by omega); omega
    have qn := R.2.2.2.2.2.1 n (by omega)
    have ql := qs n (by omega)
    have cq : (hI h (V 63) n).toNatClampNeg = pzQ P n := by have := nc_i (x := hI h (V 63) n) (by omega); omega
    have mv := R.2.1 (pzQ P n) (by omega)
    replace e := ce_e R.1.1 e
    replace e := ce_e R.1.2.1 e
    replace e := gg_e e
    replace e := gg_e e
    rcases br_s e with ⟨c, e⟩ | ⟨c, e⟩ <;> rw [c4, cq] at c
    · have c := le_i c
      rw [mv, z0] at c
      refine ih (n := n + 1) (by rw [ta (by rw [z1]; omega), z1, e4]; omega) (by omega) (fun k k1 k2 k3 => ?_) (nx_e e)
      by_cases q : k = n
      · rw [q]; omega
      · exact al k k1 (by omega) k3
    · have c := nle_i c
      rw [mv, z0] at c
      rw [so_e e]
      exact ⟨fv_0, Or.inl ⟨rfl, fun z => z.2.2.1 n n1' (by omega) c⟩⟩
theorem ps_r (D : VD V) (H : LOk L) (HM : MOk L P.1) (W : RW0 V h L) (R : RbP V h P) (n1 : 1 ≤ pzN P) (n64 : pzN P ≤ 64) (qs : ∀ i, i < pzN P → (pzQ P i : Int) < L 0 0 * L 1 0) (e : sX15_isPass F h (V 16) (V 13) = some o) : FrV V (wl wdx) h o.2 ∧ ((o.1 = 0 ∧ ¬ PsA L P) ∨ (o.1 = 1 ∧ PsA L P)) := by
  have z0 : (0 : Int32).toInt = 0 := rfl
  have z1 : (1 : Int32).toInt = 1 := rfl
  have n0 : (0 : Int32).toNatClampNeg = 0 := rfl
  have sq := sq_64 H
  have L2 := H.2.2.1
  have bs := R.2.2.1
  unfold sX15_isPass sX15_isPass_29 sX15_sideOf at e
  replace e := ce_e R.1.2.1 e
  replace e := gg_e e
  replace e := nm_s e; obtain ⟨v3, u3, e⟩ := e
  rw [n0] at u3
  have q0 := R.2.2.2.2.2.1 0 (by omega)
  rw [← u3] at q0
  have ql := qs 0 (by omega)
  have c3 : v3.toNatClampNeg = pzQ P 0 := by have := nc_i (x := v3) (by omega); omega
  replace e := ce_e R.1.1 e
  replace e := gg_e e
  replace e := nm_s e; obtain ⟨v6, u6, e⟩ := e
  rw [c3] at u6
  have mv : v6.toInt = P.1 (pzQ P 0) := by rw [u6]; exact R.2.1 _ (by omega)
  rcases br_s e with ⟨c, e⟩ | ⟨c, e⟩
  · rw [c, z0] at mv
    rw [so_e e]
    exact ⟨fv_0, Or.inl ⟨rfl, fun z => by have := z.1; omega⟩⟩
  have mp : 0 < P.1 (pzQ P 0) := by
    have := (HM (pzQ P 0) (by omega)).1
    have : ¬ P.1 (pzQ P 0) = 0 := fun z => c (Int32.toInt_inj.mp (by rw [mv, z, z0]))
    omega
  have vL := ((HM (pzQ P 0) (by omega)).2 mp).2
  have tv : (v6 - (1 : Int32)).toInt = P.1 (pzQ P 0) - 1 := by rw [ts (by rw [z1]; omega), z1, mv]
  have sdv : ((v6 - (1 : Int32)) &&& (1 : Int32)).toInt = (P.1 (pzQ P 0) - 1) % 2 := by rw [and1_i (by omega), tv]
  replace e := cl_s e; obtain ⟨o8, eo8, e⟩ := e
  rw [so_e eo8] at e
  rcases br_s e with ⟨y, e⟩ | ⟨y, e⟩
  · have y : (v6 - (1 : Int32)) &&& (1 : Int32) = hI h (V 13) 1 := y
    rw [so_e e]
    exact ⟨fv_0, Or.inl ⟨rfl, fun z => z.2.1 (by rw [← sdv, y, bs])⟩⟩
  have y : ¬ (v6 - (1 : Int32)) &&& (1 : Int32) = hI h (V 13) 1 := y
  exact psv_34 D H HM W R n1 n64 qs q0 mv mp (fun z => y (Int32.toInt_inj.mp (by rw [sdv, z, bs]))) F (n := 1) rfl (by omega) (fun k k1 k2 => by omega) e
end
end
section
/-! the reference: what is wrong with a position, the whole -/
section
variable {F : Nat} {V : Nat → Nat} {L : Nat → Nat → Int} {h : Hp} {P : Pz} {o : Int32 × Hp}
/-- rights, PASS, and what follows -/
theorem wr_242 (D : VD V) (H : LOk L) (K : LawK L) (U : UnM P.1 (L 10 0)) (W : RW0 V h L) (R : RbP V h P) (O : PzR L P) : ∀ (f : Nat) {x4 : Int32} {n : Nat}, x4.toInt = (n : Int) → (n : Int) ≤ L 0 0 * L 1 0 → (∀ s, s < n → pzR P s = true → RgA L P.1 s) → sX15_wrongOf_242 F f h (V 16) (V 13) x4 = some o → FrV V (wl wwr) h o.2 ∧ o.1.toInt = wr4 L P := by
  have z0 : (0 : Int32).toInt = 0 := rfl
  have z1 : (1 : Int32).toInt = 1 := rfl
  have sq := sq_64 H
  have L2 := H.2.2.1
  have kr : -1 ≤ L 10 0 ∧ L 10 0 ≤ 11 := ⟨K.2.1.1, by have := K.2.1.2; omega⟩
  have e3 := R.2.2.2.2.1
  intro f
  induction f with
  | zero => intro x4 n _ _ _ e; exact absurd e (by rw [sX15_wrongOf_242]; exact fun z => nomatch z)
  | succ f ih =>
    intro x4 n e4 nL al e
    rw [sX15_wrongOf_242] at e
    have l13 : (hI h (V 16) 13).toInt = L 0 0 * L 1 0 := W.2.2.2.2
    rcases br_s e with ⟨c, e⟩ | ⟨c, e⟩
    · have c := le_i c
      rw [l13, e4] at c
      have n4 : ¬ F4p L P := fun ⟨s, sL, rs, ng⟩ => ng (al s (by omega) rs)
      have w4 : wr4 L P = wr5 L P := by unfold wr4; rw [if_neg (fun z => n4 (prb_e.mp z))]
      rw [w4]
      rcases br_s e with ⟨q, e⟩ | ⟨q, e⟩
      · have q := le_i q
        rw [e3, z0] at q
        unfold wr5
        rw [if_neg (fun z => by have := (prb_e.mp z).1; omega)]
        exact wr_300 D H kr U W R O e
      have q := nle_i q
      rw [e3, z0] at q
      obtain ⟨n2, n64, qs⟩ : 2 ≤ pzN P ∧ pzN P ≤ 64 ∧ ∀ i, i < pzN P → (pzQ P i : Int) < L 0 0 * L 1 0 := by
        rcases O.2.2.1 with z | z
        · omega
        · exact z
      replace e := cl_s e; obtain ⟨o3, eo3, e⟩ := e
      obtain ⟨A, r⟩ := ps_r D H O.1 W R (by omega) n64 qs eo3
      unfold wr5
      rcases r with ⟨a, b⟩ | ⟨a, b⟩
      · replace e := bp_e a e
        rw [so_e e, if_pos (prb_e.mpr ⟨by omega, b⟩)]
        exact ⟨fv_s A (by decide), rfl⟩
      · replace e := bn_e (by rw [a]; decide) e
        rw [if_neg (fun z => (prb_e.mp z).2 b)]
        obtain ⟨B, r⟩ := wr_300 D H kr U (rw0_f D W A (by decide) rfl rfl rfl) (rbp_f D R A (by decide)) O e
        exact ⟨fv_t (fv_s A (by decide)) B, r⟩
    have c := nle_i c
    rw [l13, e4] at c
    have nxt : (pzR P n = true → RgA L P.1 n) → sX15_wrongOf_277 F (sX15_wrongOf_242 F f) h (V 16) (V 13) x4 = some o → FrV V (wl wwr) h o.2 ∧ o.1.toInt = wr4 L P := fun g u => by
      unfold sX15_wrongOf_277 at u
      refine ih (n := n + 1) (by rw [ta (by rw [z1]; omega), z1, e4]; omega) (by omega) (fun s hs rs => ?_) (nx_e u)
      by_cases q : s = n
      · rw [q] at rs ⊢; exact g rs
      · exact al s (by omega) rs
    have c4 : x4.toNatClampNeg = n := by have := nc_i (x := x4) (by omega); omega
    have i4 : Rg 0 63 x4 := ⟨by omega, by omega⟩
    have bq := R.2.2.2.1 n (by omega)
    rcases br_s e with ⟨b, e⟩ | ⟨b, e⟩
    rotate_left
    · refine nxt (fun z => absurd (bit_tst i4 (by rw [c4, bq]; exact z)) b) e
    have b := bit_test i4 b
    rw [c4, bq] at b
    replace e := cl_s e; obtain ⟨o6, eo6, e⟩ := e
    obtain ⟨w6, r⟩ := rgt_r H K U W R O.1 e4 (by omega) eo6
    rw [w6] at e
    rcases r with ⟨a, g⟩ | ⟨a, g⟩
    · replace e := bp_e a e
      unfold wr4
      rw [so_e e, if_pos (prb_e.mpr ⟨n, by omega, b, g⟩)]
      exact ⟨fv_0, rfl⟩
    · exact nxt (fun _ => g) (bn_e (by rw [a]; decide) e)
theorem wr_233 (D : VD V) (H : LOk L) (K : LawK L) (U : UnM P.1 (L 10 0)) (W : RW0 V h L) (R : RbP V h P) (O : PzR L P) {x2 : Int32} (e2 : (x2 = 0 ∧ ¬ F3p L P) ∨ (¬ x2 = 0 ∧ F3p L P)) (e : sX15_wrongOf_233 F h (V 16) (V 13) x2 = some o) : FrV V (wl wwr) h o.2 ∧ o.1.toInt = wr3 L P := by
  have sq := sq_64 H
  unfold sX15_wrongOf_233 at e
  unfold wr3
  rcases e2 with ⟨a, b⟩ | ⟨a, b⟩
  · rw [if_neg (fun z => b (prb_e.mp z))]
    exact wr_242 D H K U W R O F (n := 0) rfl (by omega) (fun s hs => absurd hs (Nat.not_lt_zero _)) (bp_e a e)
  · rw [if_pos (prb_e.mpr b), so_e (bn_e a e)]
    exact ⟨fv_0, rfl⟩
/-- ROYAL men, on the board and in hand -/
theorem wr_165 (D : VD V) (H : LOk L) (K : LawK L) (W : RW0 V h L) (R : RbP V h P) (O : PzR L P) (R22 : hR h (V 16) 22 = some (V 222)) (rc : ∀ d, d < 2 → (hI h (V 222) d).toInt = ((rcL L P.1 d 64 : Nat) : Int)) {x2 t0 : Int32} (e2 : (x2 = 0 ∧ ¬ F3p L P) ∨ (¬ x2 = 0 ∧ F3p L P)) (et : (t0 = 0 ∧ ¬ (0 ≤ L 10 0 ∧ ∃ d, d < 2 ∧ 0 < pzH P (2 * (L 10 0).toNat + d))) ∨ (¬ t0 = 0 ∧ 0 ≤ L 10 0 ∧ ∃ d, d < 2 ∧ 0 < pzH P (2 * (L 10 0).toNat + d))) (e : sX15_wrongOf_165 F h (V 16) (V 13) x2 t0 = some o) : FrV V (wl wwr) h o.2 ∧ o.1.toInt = wrN L P := by
  have z0 : (0 : Int32).toInt = 0 := rfl
  have z1 : (1 : Int32).toInt = 1 := rfl
  have zm : (-1 : Int32).toInt = -1 := by decide
  have n0 : (0 : Int32).toNatClampNeg = 0 := rfl
  have n1 : (1 : Int32).toNatClampNeg = 1 := rfl
  have Wb := rwd_b W R
  have l18 : (hI h (V 15) 18).toInt = L 18 0 := lw_0 Wb (by decide) 0
  have l10 : (hI h (V 15) 10).toInt = L 10 0 := lw_0 Wb (by decide) 0
  have r0 := rc 0 (by decide)
  have r1 := rc 1 (by decide)
  have ry : ∀ d, ¬ rcL L P.1 d 64 = 0 → 0 ≤ L 10 0 := fun d n => by
    by_cases c : 0 ≤ L 10 0
    · exact c
    · refine absurd ?_ n
      have := sn_le (f := rcF L P.1 d) (g := fun _ => 0) 64 (fun t _ => by unfold rcF; rw [if_neg (fun z => c z.1)]; exact Nat.le_refl _)
      rw [sn_k] at this
      unfold rcL
      omega
  unfold sX15_wrongOf_165 sX15_wrongOf_231 at e
  have two : F2p L P → some ((2 : Int32), h) = some o → FrV V (wl wwr) h o.2 ∧ o.1.toInt = wrN L P := fun g u => by
    unfold wrN
    rw [so_e u, if_pos (prb_e.mpr g)]
    exact ⟨fv_0, rfl⟩
  replace e := ce_e R22 e
  replace e := gg_e e
  rcases br_s e with ⟨c, e⟩ | ⟨c, e⟩ <;> rw [n0] at c
  · have c := lt_i c
    rw [z1, r0] at c
    exact two ⟨ry 0 (by omega), 0, by decide, Or.inl (by omega)⟩ e
  have c := nlt_i c
  rw [z1, r0] at c
  replace e := ce_e R22 e
  replace e := gg_e e
  rcases br_s e with ⟨d, e⟩ | ⟨d, e⟩ <;> rw [n1] at d
  · have d := lt_i d
    rw [z1, r1] at d
    exact two ⟨ry 1 (by omega), 1, by decide, Or.inl (by omega)⟩ e
  have d := nlt_i d
  rw [z1, r1] at d
  rcases et with ⟨ht, nh⟩ | ⟨ht, hr, dd, d2, hh⟩
  rotate_left
  · exact two ⟨hr, dd, d2, Or.inr (Or.inr hh)⟩ (bn_e ht e)
  replace e := bp_e ht e
  have un : ∀ d, d < 2 → rcL L P.1 d 64 ≤ 1 := fun q hq => by
    by_cases y : q = 0
    · rw [y]; omega
    · have : q = 1 := by omega
      rw [this]; omega
  have three : ¬ F2p L P → sX15_wrongOf_233 F h (V 16) (V 13) x2 = some o → FrV V (wl wwr) h o.2 ∧ o.1.toInt = wrN L P := fun g u => by
    unfold wrN
    rw [if_neg (fun z => g (prb_e.mp z))]
    exact wr_233 D H K (rc_un un) W R O e2 u
  replace e := ce_e W.1.1 e
  rcases br_s e with ⟨b, e⟩ | ⟨b, e⟩
  · rw [b, z0] at l18
    refine three (fun ⟨hr, q, hq, z⟩ => ?_) e
    rcases z with z | z | z
    · have := un q hq; omega
    · exact z.1 l18.symm
    · exact nh ⟨hr, q, hq, z⟩
  have nb : ¬ L 18 0 = 0 := fun z => b (Int32.toInt_inj.mp (by rw [l18, z, z0]))
  replace e := ce_e W.1.1 e
  rcases br_s e with ⟨y, e⟩ | ⟨y, e⟩
  · rw [y, zm] at l10
    exact three (fun z => by have := z.1; omega) e
  have hr : 0 ≤ L 10 0 := by
    have : ¬ L 10 0 = -1 := fun z => y (Int32.toInt_inj.mp (by rw [l10, z, zm]))
    have := K.2.1.1
    omega
  replace e := ce_e R22 e
  replace e := gg_e e
  rcases br_s e with ⟨q, e⟩ | ⟨q, e⟩ <;> rw [n0] at q
  rotate_left
  · have : ¬ rcL L P.1 0 64 = 1 := fun z => q (Int32.toInt_inj.mp (by rw [r0, z, z1]; rfl))
    exact two ⟨hr, 0, by decide, Or.inr (Or.inl ⟨nb, by omega⟩)⟩ e
  rw [q, z1] at r0
  replace e := ce_e R22 e
  replace e := gg_e e
  rcases br_s e with ⟨q', e⟩ | ⟨q', e⟩ <;> rw [n1] at q'
  rotate_left
  · have : ¬ rcL L P.1 1 64 = 1 := fun z => q' (Int32.toInt_inj.mp (by rw [r1, z, z1]; rfl))
    exact two ⟨hr, 1, by decide, Or.inr (Or.inl ⟨nb, by omega⟩)⟩ e
  rw [q', z1] at r1
  refine three (fun ⟨_, g, hg, z⟩ => ?_) e
  rcases z with z | z | z
  · have := un g hg; omega
  · by_cases y : g = 0
    · rw [y] at z; omega
    · have : g = 1 := by omega
      rw [this] at z; omega
  · exact nh ⟨hr, g, hg, z⟩
/-- counting -/
theorem wr_18 (D : VD V) (H : LOk L) (K : LawK L) (O : PzR L P) : ∀ (f : Nat) {h : Hp} {x2 x3 : Int32} {n : Nat}, RW0 V h L → RbP V h P → hR h (V 16) 22 = some (V 222) → x3.toInt = (n : Int) → (n : Int) ≤ L 0 0 * L 1 0 → (∀ d, d < 2 → (hI h (V 222) d).toInt = ((rcL L P.1 d n : Nat) : Int)) → ((x2 = 0 ∧ ∀ s, s < n → ¬ F3a L P.1 s) ∨ (x2 = 1 ∧ ∃ s, s < n ∧ F3a L P.1 s)) → sX15_wrongOf_18 F f h (V 16) (V 13) x2 x3 = some o → FrV V (wl wwr) h o.2 ∧ o.1.toInt = wrN L P := by
  have z0 : (0 : Int32).toInt = 0 := rfl
  have z1 : (1 : Int32).toInt = 1 := rfl
  have z2 : (2 : Int32).toInt = 2 := rfl
  have zm : (-1 : Int32).toInt = -1 := by decide
  have sq := sq_64 H
  have L2 := H.2.2.1
  have HM := O.1
  intro f
  induction f with
  | zero => intro h x2 x3 n _ _ _ _ _ _ _ e; exact absurd e (by rw [sX15_wrongOf_18]; exact fun z => nomatch z)
  | succ f ih =>
    intro h x2 x3 n W R R22 e3 nL rc x2e e
    have Wb := rwd_b W R
    have l10 : (hI h (V 15) 10).toInt = L 10 0 := lw_0 Wb (by decide) 0
    have l13 : (hI h (V 16) 13).toInt = L 0 0 * L 1 0 := W.2.2.2.2
    rw [sX15_wrongOf_18] at e
    rcases br_s e with ⟨c, e⟩ | ⟨c, e⟩
    · have c := le_i c
      rw [l13, e3] at c
      have nE : (n : Int) = L 0 0 * L 1 0 := by omega
      have rc' : ∀ d, d < 2 → (hI h (V 222) d).toInt = ((rcL L P.1 d 64 : Nat) : Int) := fun d hd => by
        rw [rc_64 HM nE 64 (by omega) (Nat.le_refl _)]; exact rc d hd
      have e2 : (x2 = 0 ∧ ¬ F3p L P) ∨ (¬ x2 = 0 ∧ F3p L P) := by
        rcases x2e with ⟨a, b⟩ | ⟨a, s, hs, b⟩
        · refine Or.inl ⟨a, fun ⟨s, hs, z⟩ => ?_⟩
          have := ((HM s hs).2 z.1).1
          exact b s (by omega) z
        · exact Or.inr ⟨by rw [a]; decide, s, by omega, b⟩
      replace e := ce_e W.1.1 e
      unfold sX15_wrongOf_164 at e
      rcases br_s e with ⟨y, e⟩ | ⟨y, e⟩
      · rw [y, zm] at l10
        exact wr_165 D H K W R O R22 rc' e2 (Or.inl ⟨rfl, fun z => by have := z.1; omega⟩) e
      have hr : 0 ≤ L 10 0 := by
        have : ¬ L 10 0 = -1 := fun z => y (Int32.toInt_inj.mp (by rw [l10, z, zm]))
        have := K.2.1.1
        omega
      have k2 := K.2.1.2
      replace e := ce_e R.1.2.2.1 e
      replace e := ce_e W.1.1 e
      replace e := gg_e e
      replace e := ce_e R.1.2.2.1 e
      replace e := ce_e W.1.1 e
      replace e := gg_e e
      have ta1 : ((2 : Int32) * (hI h (V 15) 10)).toInt = 2 * L 10 0 := by rw [tm (by rw [z2, l10]; omega), z2, l10]
      have tb1 : (((2 : Int32) * (hI h (V 15) 10)) + (1 : Int32)).toInt = 2 * L 10 0 + 1 := by rw [ta (by rw [ta1, z1]; omega), ta1, z1]
      have ca : ((2 : Int32) * (hI h (V 15) 10)).toNatClampNeg = 2 * (L 10 0).toNat + 0 := by have := nc_i (x := (2 : Int32) * (hI h (V 15) 10)) (by omega); omega
      have cb : (((2 : Int32) * (hI h (V 15) 10)) + (1 : Int32)).toNatClampNeg = 2 * (L 10 0).toNat + 1 := by have := nc_i (x := ((2 : Int32) * (hI h (V 15) 10)) + (1 : Int32)) (by omega); omega
      have h0 := R.2.2.2.2.2.2.1 (2 * (L 10 0).toNat + 0) (by omega)
      have h1 := R.2.2.2.2.2.2.1 (2 * (L 10 0).toNat + 1) (by omega)
      have b0 := O.2.2.2.1 (2 * (L 10 0).toNat + 0) (by omega)
      have b1 := O.2.2.2.1 (2 * (L 10 0).toNat + 1) (by omega)
      have sm : (hI h (V 64) (2 * (L 10 0).toNat + 0) + hI h (V 64) (2 * (L 10 0).toNat + 1)).toInt = pzH P (2 * (L 10 0).toNat + 0) + pzH P (2 * (L 10 0).toNat + 1) := by rw [ta (by rw [h0, h1]; omega), h0, h1]
      rcases br_s e with ⟨q, e⟩ | ⟨q, e⟩ <;> rw [ca, cb] at q
      · have q := le_i q
        rw [sm, z0] at q
        refine wr_165 D H K W R O R22 rc' e2 (Or.inl ⟨rfl, fun ⟨_, d, hd, z⟩ => ?_⟩) e
        by_cases y' : d = 0
        · rw [y'] at z; omega
        · have : d = 1 := by omega
          rw [this] at z; omega
      · have q := nle_i q
        rw [sm, z0] at q
        refine wr_165 D H K W R O R22 rc' e2 (Or.inr ⟨by decide, hr, ?_⟩) e
        by_cases y' : 0 < pzH P (2 * (L 10 0).toNat + 0)
        · exact ⟨0, by decide, y'⟩
        · exact ⟨1, by decide, by omega⟩
    have c := nle_i c
    rw [l13, e3] at c
    have c3 : x3.toNatClampNeg = n := by have := nc_i (x := x3) (by omega); omega
    replace e := ce_e R.1.1 e
    replace e := gg_e e
    replace e := nm_s e; obtain ⟨v, u3, e⟩ := e
    rw [c3] at u3
    have mv : v.toInt = P.1 n := by rw [u3]; exact R.2.1 n (by omega)
    have m0 := (HM n (by omega)).1
    have t3 : (x3 + (1 : Int32)).toInt = ((n + 1 : Nat) : Int) := by rw [ta (by rw [z1]; omega), z1, e3]; omega
    -- on to the next square
    have nxt : ∀ {g : Hp} {y2 : Int32}, FrV V (wl wwr) h g → (∀ d, d < 2 → (hI g (V 222) d).toInt = ((rcL L P.1 d (n + 1) : Nat) : Int)) → ((y2 = 0 ∧ ∀ s, s < n + 1 → ¬ F3a L P.1 s) ∨ (y2 = 1 ∧ ∃ s, s < n + 1 ∧ F3a L P.1 s)) → sX15_wrongOf_18 F f g (V 16) (V 13) y2 (x3 + (1 : Int32)) = some o → FrV V (wl wwr) h o.2 ∧ o.1.toInt = wrN L P := fun {g y2} G rg ye u => by
      obtain ⟨a, b⟩ := ih (rw0_f D W G (by decide) rfl rfl rfl) (rbp_f D R G (by decide)) (by rw [G.1]; exact R22) t3 (by omega) rg ye u
      exact ⟨fv_t G a, b⟩
    rcases br_s e with ⟨l, e⟩ | ⟨l, e⟩
    · have l := le_i l
      rw [mv, z0] at l
      have nof : ∀ d, rcF L P.1 d n = 0 := fun d => if_neg (fun z => by omega)
      unfold sX15_wrongOf_109 at e
      refine nxt fv_0 (fun d hd => by rw [rc_s, nof d]; exact rc d hd) ?_ (nx_e e)
      rcases x2e with ⟨a, b⟩ | ⟨a, s, hs, b⟩
      · refine Or.inl ⟨a, fun s hs => ?_⟩
        by_cases q : s = n
        · rw [q]; exact fun z => by have := z.1; omega
        · exact b s (by omega)
      · exact Or.inr ⟨a, s, by omega, b⟩
    have l := nle_i l
    rw [mv, z0] at l
    have vL := ((HM n (by omega)).2 l).2
    obtain ⟨mL, mE⟩ := mno_lt (L := L) l vL
    have tv : (v - (1 : Int32)).toInt = P.1 n - 1 := by rw [ts (by rw [z1]; omega), z1, mv]
    have sdv : ((v - (1 : Int32)) &&& (1 : Int32)).toInt = (P.1 n - 1) % 2 := by rw [and1_i (by omega), tv]
    have sh : ((v - (1 : Int32)) >>> ((1 : Int32) &&& 31)).toInt = ((mnO (P.1 n) : Nat) : Int) := by
      rw [shr_i 1 (by decide), tv, mE]
      rfl
    obtain ⟨d0, ed⟩ : ∃ d : Nat, (P.1 n - 1) % 2 = (d : Int) := ⟨((P.1 n - 1) % 2).toNat, by omega⟩
    have d2 : d0 < 2 := by omega
    have cd : ((v - (1 : Int32)) &&& (1 : Int32)).toNatClampNeg = d0 := by
      have := nc_i (x := (v - (1 : Int32)) &&& (1 : Int32)) (by omega)
      omega
    have cm : ((v - (1 : Int32)) >>> ((1 : Int32) &&& 31)).toNatClampNeg = mnO (P.1 n) := by
      have := nc_i (x := (v - (1 : Int32)) >>> ((1 : Int32) &&& 31)) (by omega)
      omega
    have hr0 := rc d0 d2
    have rle := rcl_le (L := L) (M := P.1) (d := d0) (n := n)
    unfold sX15_sideOf sX15_manOf at e
    replace e := ce_e R22 e
    replace e := cl_s e; obtain ⟨o16, eo16, e⟩ := e
    rw [so_e eo16] at e
    replace e := gg_e e
    replace e := cl_s e; obtain ⟨o18, eo18, e⟩ := e
    rw [so_e eo18] at e
    replace e := ce_e W.1.1 e
    -- the counter, and then whether he is late
    have go : ∀ {t0 : Int32}, t0.toInt = ((rcF L P.1 d0 n : Nat) : Int) → sX15_wrongOf_70 F (sX15_wrongOf_18 F f) h (V 16) (V 13) x2 x3 v t0 (hI h (V 222) ((v - (1 : Int32)) &&& (1 : Int32)).toNatClampNeg) ((v - (1 : Int32)) &&& (1 : Int32)) (V 222) = some o → FrV V (wl wwr) h o.2 ∧ o.1.toInt = wrN L P := fun {t0} ht u => by
      have f1 : rcF L P.1 d0 n ≤ 1 := by unfold rcF; split <;> omega
      unfold sX15_wrongOf_70 sX15_wrongOf_106 sX15_wrongOf_107 sX15_wrongOf_109 sX15_manOf sX15_sideOf at u
      replace u := gg_e u
      replace u := nm_s u; obtain ⟨g, ug, u⟩ := u
      rw [cd] at ug
      have G : FrV V (wl wwr) h g := by rw [ug]; exact fv_w (by rcases (show d0 = 0 ∨ d0 = 1 by omega) with z | z <;> rw [z] <;> rfl)
      have rg : ∀ d, d < 2 → (hI g (V 222) d).toInt = ((rcL L P.1 d (n + 1) : Nat) : Int) := fun d hd => by
        rw [ug, rc_s]
        by_cases y : d = d0
        · rw [y, rI_s, ta (by rw [hr0, ht]; omega), hr0, ht]
          omega
        · have : rcF L P.1 d n = 0 := if_neg (fun z => by omega)
          rw [rI_o (fun z => y z), this]
          exact rc d hd
      have Wg := rw0_f D W G (by decide) rfl rfl rfl
      have Rg' := rbp_f D R G (by decide)
      have Wgb := rwd_b Wg Rg'
      replace u := cl_s u; obtain ⟨o3, eo3, u⟩ := u
      rw [so_e eo3] at u
      replace u := cl_s u; obtain ⟨o4, eo4, u⟩ := u
      obtain ⟨w4, be⟩ := beo_v Wgb eo4
      rw [w4] at u
      have be : (o4.1 = 0 ∧ ¬ 0 < L 81 (mnO (P.1 n))) ∨ (o4.1 = 1 ∧ 0 < L 81 (mnO (P.1 n))) := by rw [← cm]; exact be
      have keep : ¬ F3a L P.1 n → nm (x2 ||| (0 : Int32)) (fun v_1 => nm (x3 + (1 : Int32)) fun v_2 => sX15_wrongOf_18 F f g (V 16) (V 13) v_1 v_2) = some o → FrV V (wl wwr) h o.2 ∧ o.1.toInt = wrN L P := fun nf u => by
        replace u := nx_e u
        rw [Int32.or_zero] at u
        refine nxt G rg ?_ (nx_e u)
        rcases x2e with ⟨a, b⟩ | ⟨a, s, hs, b⟩
        · refine Or.inl ⟨a, fun s hs => ?_⟩
          by_cases q : s = n
          · rw [q]; exact nf
          · exact b s (by omega)
        · exact Or.inr ⟨a, s, by omega, b⟩
      rcases be with ⟨a, b⟩ | ⟨a, b⟩
      · exact keep (fun z => b z.2.1) (bp_e a u)
      replace u := bn_e (by rw [a]; decide) u
      replace u := cl_s u; obtain ⟨o6, eo6, u⟩ := u
      rw [so_e eo6] at u
      replace u := cl_s u; obtain ⟨o7, eo7, u⟩ := u
      obtain ⟨w7, r7⟩ := rkf_v H Wgb (by omega) (by omega) eo7
      have r7 : o7.1.toInt = rkF L n ((P.1 n - 1) % 2) := by
        rw [r7, c3]
        show rkF L n ((v - (1 : Int32)) &&& (1 : Int32)).toInt = _
        rw [sdv]
      rw [w7] at u
      have l12 : (hI g (V 16) 12).toInt = L 1 0 := Wg.2.2.2.1
      rcases br_s u with ⟨q, u⟩ | ⟨q, u⟩
      · replace u := nx_e u
        have x2' : (x2 ||| (1 : Int32)) = 1 := by
          rcases x2e with ⟨a, _⟩ | ⟨a, _⟩ <;> rw [a] <;> decide
        rw [x2'] at u
        exact nxt G rg (Or.inr ⟨rfl, n, by omega, l, b, by rw [← r7, q, l12]⟩) (nx_e u)
      · exact keep (fun z => q (Int32.toInt_inj.mp (by rw [r7, z.2.2, l12]))) u
    rcases br_s e with ⟨w, e⟩ | ⟨w, e⟩
    · have w : (v - (1 : Int32)) >>> ((1 : Int32) &&& 31) = hI h (V 15) 10 := w
      have em : ((mnO (P.1 n) : Nat) : Int) = L 10 0 := by rw [← sh, w, l10]
      have : rcF L P.1 d0 n = 1 := if_pos ⟨by omega, by omega⟩
      exact go (by rw [this]; rfl) e
    · have w : ¬ (v - (1 : Int32)) >>> ((1 : Int32) &&& 31) = hI h (V 15) 10 := w
      have em : ¬ ((mnO (P.1 n) : Nat) : Int) = L 10 0 := fun z => w (Int32.toInt_inj.mp (by rw [sh, l10, z]))
      have : rcF L P.1 d0 n = 0 := if_neg (fun z => by omega)
      exact go (by rw [this]; rfl) e
/-- what is wrong with a position: the reference -/
theorem wr_r (D : VD V) (H : LOk L) (K : LawK L) (O : PzR L P) (W : RW0 V h L) (R : RbP V h P) (R22 : hR h (V 16) 22 = some (V 222)) (e : sX15_wrongOf F h (V 16) (V 13) = some o) : FrV V (wl wwr) h o.2 ∧ o.1.toInt = wrN L P := by
  have n0 : (0 : Int32).toNatClampNeg = 0 := rfl
  have n1 : (1 : Int32).toNatClampNeg = 1 := rfl
  have sq := sq_64 H
  unfold sX15_wrongOf at e
  replace e := ce_e R22 e
  replace e := gg_e e
  replace e := nm_s e; obtain ⟨g1, u1, e⟩ := e
  have G1 : FrV V (wl wwr) h g1 := by rw [u1]; exact fv_w rfl
  replace e := ce_e (by rw [G1.1]; exact R22) e
  replace e := gg_e e
  replace e := nm_s e; obtain ⟨g2, u2, e⟩ := e
  have G2 : FrV V (wl wwr) h g2 := by rw [u2]; exact fv_t G1 (fv_w rfl)
  rw [n0] at u1
  rw [n1] at u2
  obtain ⟨a, b⟩ := wr_18 D H K O F (n := 0) (rw0_f D W G2 (by decide) rfl rfl rfl) (rbp_f D R G2 (by decide)) (by rw [G2.1]; exact R22) rfl (by omega) (fun d hd => by
    rw [u2]
    by_cases y : d = 0
    · rw [y, rI_o (by decide), u1, rI_s]; rfl
    · have : d = 1 := by omega
      rw [this, rI_s]; rfl) (Or.inl ⟨rfl, fun s hs => absurd hs (Nat.not_lt_zero _)⟩) e
  exact ⟨fv_t G2 a, b⟩
end
end
