section
/-! the reference: whether a square is attacked -/
theorem on_int {a b x y s k : Int32} (is : Rg 0 63 s) (ia : Rg 3 8 a) (ib : Rg 3 8 b) (ix : Rg (-7) 7 x) (iy : Rg (-7) 7 y) (ik : Rg (-8) 8 k) : (onV a b x y s k = (-1 : Int32) ∧ ¬ onK a.toInt b.toInt s.toInt x.toInt y.toInt k.toInt) ∨ (onK a.toInt b.toInt s.toInt x.toInt y.toInt k.toInt ∧ (onV a b x y s k).toInt = tgt a.toInt s.toInt x.toInt y.toInt k.toInt) := by
  have z : (0 : Int32).toInt = 0 := rfl
  have p1 := mb (n := 7) (m := 8) (k := k.toInt) (d := x.toInt) ⟨ik.1, ik.2⟩ ⟨ix.1, ix.2⟩ (by decide)
  have p2 := mb (n := 7) (m := 8) (k := k.toInt) (d := y.toInt) ⟨ik.1, ik.2⟩ ⟨iy.1, iy.2⟩ (by decide)
  have m1 := tm (x := k) (y := x) ⟨by omega, by omega⟩
  have m2 := tm (x := k) (y := y) ⟨by omega, by omega⟩
  have q1 := rg_rem is ia (hi := 63) ⟨by decide, by decide, by omega⟩
  have q2 := rg_divv is ia ⟨by decide, by decide⟩
  have t1 := tr is ia ⟨by decide, by decide⟩
  have t2 := td is ia ⟨by decide, by decide⟩
  have a1 := ta (x := s - s / a * a) (y := k * x) (by rw [m1]; exact ⟨by have := q1.1; omega, by have := q1.2; omega⟩)
  have a2 := ta (x := s / a) (y := k * y) (by rw [m2]; exact ⟨by have := q2.1; omega, by have := q2.2; omega⟩)
  rw [m1, t1] at a1
  rw [m2, t2] at a2
  unfold onV
  by_cases c1 : (s - s / a * a) + (k * x) < 0
  · rw [if_pos c1]
    have := lt_i c1
    rw [a1, z] at this
    exact Or.inl ⟨rfl, fun w => by have := w.1; omega⟩
  rw [if_neg c1]
  by_cases c2 : a ≤ (s - s / a * a) + (k * x)
  · rw [if_pos c2]
    have := le_i c2
    rw [a1] at this
    exact Or.inl ⟨rfl, fun w => by have := w.2.1; omega⟩
  rw [if_neg c2]
  by_cases c3 : (s / a) + (k * y) < 0
  · rw [if_pos c3]
    have := lt_i c3
    rw [a2, z] at this
    exact Or.inl ⟨rfl, fun w => by have := w.2.2.1; omega⟩
  rw [if_neg c3]
  by_cases c4 : (s / a) + (k * y) < b
  rotate_left
  · rw [if_neg c4]
    have := nlt_i c4
    rw [a2] at this
    exact Or.inl ⟨rfl, fun w => by have := w.2.2.2; omega⟩
  rw [if_pos c4]
  have d1 := nlt_i c1
  have d2 := nle_i c2
  have d3 := nlt_i c3
  have d4 := lt_i c4
  rw [a1] at d1 d2
  rw [a2] at d3 d4
  rw [z] at d1 d3
  have F1 := ia.1
  have F2 := ia.2
  have R2 := ib.2
  have b1 := mb (n := 8) (m := 8) (k := s.toInt / a.toInt + k.toInt * y.toInt) (d := a.toInt) ⟨by omega, by omega⟩ ⟨by omega, by omega⟩ (by decide)
  have e1 := tm (x := (s / a) + (k * y)) (y := a) (by rw [a2]; exact ⟨by omega, by omega⟩)
  have e2 := ta (x := ((s / a) + (k * y)) * a) (y := (s - s / a * a) + (k * x)) (by rw [e1, a2, a1]; exact ⟨by omega, by omega⟩)
  refine Or.inr ⟨⟨d1, d2, d3, d4⟩, ?_⟩
  rw [e2, e1, a2, a1]
  rfl
theorem frv_e {fl x : Int32} {n : Nat} {w : Bool} (i8 : fl &&& (8 : Int32) = 0 ↔ w = false) (c5 : x.toInt = (n : Int)) : (frV fl x = 1 ∧ n = (if w = true then 1 else 0)) ∨ (frV fl x = 0 ∧ ¬ n = (if w = true then 1 else 0)) := by
  unfold frV
  by_cases c : fl &&& (8 : Int32) = 0
  · rw [if_pos c, i8.mp c, if_neg (show ¬ false = true by decide)]
    by_cases d : x = 0
    · rw [if_pos d]
      rw [d] at c5
      have : (0 : Int32).toInt = 0 := rfl
      exact Or.inl ⟨rfl, by omega⟩
    · rw [if_neg d]
      exact Or.inr ⟨rfl, fun z => d (Int32.toInt_inj.mp (by rw [c5, z]; rfl))⟩
  · have wt : w = true := by
      cases y : w with
      | true => rfl
      | false => exact absurd (i8.mpr y) c
    rw [if_neg c, wt, if_pos (show true = true from rfl)]
    by_cases d : x = 1
    · rw [if_pos d]
      rw [d] at c5
      have : (1 : Int32).toInt = 1 := rfl
      exact Or.inl ⟨rfl, by omega⟩
    · rw [if_neg d]
      exact Or.inr ⟨rfl, fun z => d (Int32.toInt_inj.mp (by rw [c5, z]; rfl))⟩
/-- one STEP's numbers -/
def StR (L : Nat → Nat → Int) (j : Nat) : Prop := (0 ≤ L 75 j ∧ L 75 j ≤ 63) ∧ (-7 ≤ L 76 j ∧ L 76 j ≤ 7) ∧ (-7 ≤ L 77 j ∧ L 77 j ≤ 7) ∧ ¬ (L 76 j = 0 ∧ L 77 j = 0) ∧ (1 ≤ L 78 j ∧ L 78 j ≤ 7) ∧ (0 ≤ L 79 j ∧ L 79 j ≤ 8)
def WkD (L : Nat → Nat → Int) (M : Nat → Int) (j : Nat) (sd : Int) (s t : Nat) (d : Nat) (k : Int) : Prop := 1 ≤ k ∧ k ≤ L 78 j ∧ onK (L 0 0) (L 1 0) s (vXi (L 76 j) (L 77 j) (fbt (L 75 j) 2) d) (vYi (L 76 j) (L 77 j) sd (fbt (L 75 j) 2) d) k ∧ (t : Int) = tgt (L 0 0) s (vXi (L 76 j) (L 77 j) (fbt (L 75 j) 2) d) (vYi (L 76 j) (L 77 j) sd (fbt (L 75 j) 2) d) k ∧ cnP M s (vYi (L 76 j) (L 77 j) sd (fbt (L 75 j) 2) d * L 0 0 + vXi (L 76 j) (L 77 j) (fbt (L 75 j) 2) d) (k - 1).toNat = ovN L j
theorem v_nz {a b sd : Int} {fo : Bool} {d : Nat} (n : ¬ (a = 0 ∧ b = 0)) : ¬ (vXi a b fo d = 0 ∧ vYi a b sd fo d = 0) := fun z => by
  have p := sq_pos n
  have q := v_sq (a := a) (b := b) (sd := sd) (fo := fo) (d := d)
  rw [z.1, z.2] at q
  omega
theorem led_d {L : Nat → Nat → Int} {M : Nat → Int} {j : Nat} {sd : Int} {s t : Nat} {k : Int} : Led L M j sd s t k ↔ (L 79 j = 0 ∨ L 79 j = rkF L s sd) ∧ ∃ d, d < 8 ∧ WkD L M j sd s t d k := by
  constructor
  · rintro ⟨⟨f, r⟩, c⟩
    refine ⟨f, ?_⟩
    obtain ⟨d, hd, o1, e1, st, _⟩ := rch_st r
    exact ⟨d, hd, r.1, r.2.1, o1, e1, by rw [← st]; exact c⟩
  · rintro ⟨f, d, hd, k1, k2, o1, e1, c⟩
    have r : Rch (L 0 0) (L 1 0) (L 76 j) (L 77 j) (L 78 j) sd (fbt (L 75 j) 2) s t k := ⟨k1, k2, d, hd, o1, e1⟩
    refine ⟨⟨f, r⟩, ?_⟩
    have z : (t : Int) - s = k * (vYi (L 76 j) (L 77 j) sd (fbt (L 75 j) 2) d * L 0 0 + vXi (L 76 j) (L 77 j) (fbt (L 75 j) 2) d) := by
      rw [e1, tgt_s]; omega
    rw [z, Int.mul_ediv_cancel_left _ (by omega)]
    exact c
/-- only vectors that do not come twice -/
theorem wkd_ok {L : Nat → Nat → Int} {M : Nat → Int} {j : Nat} {sd : Int} {s t d : Nat} {k : Int} (J : StR L j) (hd : d < 8) (w : WkD L M j sd s t d k) : ∃ e, e < 8 ∧ vOk (L 76 j) (L 77 j) (fbt (L 75 j) 2) e = true ∧ WkD L M j sd s t e k := by
  obtain ⟨e, he, ok, ex, ey⟩ := vok_ex (sd := sd) (fo := fbt (L 75 j) 2) J.2.1 J.2.2.1 hd
  refine ⟨e, he, ok, ?_⟩
  unfold WkD
  rw [ex, ey]
  exact w
theorem wkd_ne {L : Nat → Nat → Int} {M : Nat → Int} {j : Nat} {sd : Int} {s d : Nat} {k : Int} (J : StR L j) : ¬ WkD L M j sd s s d k := by
  rintro ⟨k1, _, o1, e1, _⟩
  have n := v_nz (sd := sd) (fo := fbt (L 75 j) 2) (d := d) J.2.2.2.1
  generalize vXi (L 76 j) (L 77 j) (fbt (L 75 j) 2) d = X at *
  generalize vYi (L 76 j) (L 77 j) sd (fbt (L 75 j) 2) d = Y at *
  have e2 : tgt (L 0 0) s X Y k = tgt (L 0 0) s X Y 0 := by
    rw [← e1, tgt_s]; omega
  have o2 : onK (L 0 0) (L 1 0) s X Y 0 := by
    have f0 : 0 < L 0 0 := by have := o1.1; have := o1.2.1; omega
    obtain ⟨_, _, a, b⟩ := tgt_on f0 o1
    rw [← e1] at a b
    obtain ⟨u, v, w, x⟩ := o1
    refine ⟨?_, ?_, ?_, ?_⟩ <;> omega
  obtain ⟨a, b⟩ := tgt_u o1 o2 e2
  rw [Int.zero_mul] at a b
  rcases Int.mul_eq_zero.mp a with z | z
  · omega
  rcases Int.mul_eq_zero.mp b with y | y
  · omega
  exact n ⟨z, y⟩
section
variable {F : Nat} {V : Nat → Nat} {h : Hp} {L : Nat → Nat → Int} {M : Nat → Int} {o : Int32 × Hp}
theorem rch_6 {s q st X Y : Int32} (W : RWd V h L M) (H : LOk L) (J : StR L st.toNatClampNeg) (is : 0 ≤ s.toInt) (sL : s.toInt < L 0 0 * L 1 0) (q0 : 0 ≤ q.toInt) (eX : hI h (V 16) 23 = X) (eY : hI h (V 16) 24 = Y) (iX : Rg (-7) 7 X) (iY : Rg (-7) 7 Y) (nz : ¬ (X.toInt = 0 ∧ Y.toInt = 0)) : ∀ (f : Nat) {x5 x6 : Int32}, Rg 1 8 x6 → x5.toInt = ((cnP M s.toInt (Y.toInt * L 0 0 + X.toInt) (x6.toInt - 1).toNat : Nat) : Int) → sX15_reaches_6 F f h (V 16) (V 13) s q st x5 x6 = some o → o.2 = h ∧ ((o.1 = 0 ∧ ∀ k : Int, x6.toInt ≤ k → k ≤ L 78 st.toNatClampNeg → onK (L 0 0) (L 1 0) s.toInt X.toInt Y.toInt k → q.toInt = tgt (L 0 0) s.toInt X.toInt Y.toInt k → ¬ cnP M s.toInt (Y.toInt * L 0 0 + X.toInt) (k - 1).toNat = ovN L st.toNatClampNeg) ∨ (o.1 = 1 ∧ ∃ k : Int, x6.toInt ≤ k ∧ k ≤ L 78 st.toNatClampNeg ∧ onK (L 0 0) (L 1 0) s.toInt X.toInt Y.toInt k ∧ q.toInt = tgt (L 0 0) s.toInt X.toInt Y.toInt k ∧ cnP M s.toInt (Y.toInt * L 0 0 + X.toInt) (k - 1).toNat = ovN L st.toNatClampNeg)) := by
  have z0 : (0 : Int32).toInt = 0 := rfl
  have z1 : (1 : Int32).toInt = 1 := rfl
  have sq := sq_64 H
  obtain ⟨w, ⟨g1, g2, g3, g4⟩, bM, mM⟩ := W
  have W' : RWd V h L M := ⟨w, ⟨g1, g2, g3, g4⟩, bM, mM⟩
  obtain ⟨l75, _, _, l78, _⟩ := lw_75 W' st.toNatClampNeg
  have fi := H.1
  have ra := H.2.1
  have iA : Rg 3 8 (hI h (V 16) 11) := ⟨by omega, by omega⟩
  have iB : Rg 3 8 (hI h (V 16) 12) := ⟨by omega, by omega⟩
  have i75 : Rg 0 63 (hI h (V 75) st.toNatClampNeg) := ⟨by rw [l75]; exact J.1.1, by rw [l75]; exact J.1.2⟩
  have r7 := J.2.2.2.2.1
  have ov1 : ovN L st.toNatClampNeg ≤ 1 := by unfold ovN; split <;> omega
  intro f
  induction f with
  | zero => intro x5 x6 _ _ e; exact absurd e (by rw [sX15_reaches_6]; exact fun z => nomatch z)
  | succ f ih =>
    intro x5 x6 i6 c5 e
    have i60 := i6.1
    have i61 := i6.2
    rw [sX15_reaches_6] at e
    replace e := ce_e w.1 e
    replace e := ce_e w.2.2.2.2.2.2.1 e
    replace e := gg_e e
    rcases br_s e with ⟨l, e⟩ | ⟨l, e⟩
    · have l := lt_i l
      rw [l78] at l
      rw [so_e e]
      exact ⟨rfl, Or.inl ⟨rfl, fun k a b => by omega⟩⟩
    have l := nlt_i l
    rw [l78] at l
    replace e := cl_s e; obtain ⟨o5, eo5, e⟩ := e
    have v5 := on_val eo5
    rw [eX, eY] at v5
    have w5 : o5.2 = h := by rw [v5]
    have w1 : o5.1 = onV (hI h (V 16) 11) (hI h (V 16) 12) X Y s x6 := by rw [v5]
    rw [w5] at e
    have oi := on_int (a := hI h (V 16) 11) (b := hI h (V 16) 12) (x := X) (y := Y) (s := s) (k := x6) ⟨is, by omega⟩ iA iB iX iY ⟨by omega, by omega⟩
    rw [← w1, g2, g3] at oi
    unfold sX15_reaches_42 sX15_reaches_83 at e
    rcases oi with ⟨m, no⟩ | ⟨on, tv⟩
    · replace e := bp_e m e
      rw [so_e e]
      refine ⟨rfl, Or.inl ⟨rfl, fun k a b c => absurd (onk_mid (by omega) is sL c ⟨by omega, a⟩) no⟩⟩
    have t0 := tgt_on (show 0 < L 0 0 by omega) on
    replace e := bn_e (fun z => by rw [z] at tv; have : (-1 : Int32).toInt = -1 := by decide
                                   omega) e
    rcases br_s e with ⟨f1, e⟩ | ⟨f1, e⟩
    rotate_left
    · have f1 := nle_i f1
      rw [z1] at f1
      rw [so_e e]
      refine ⟨rfl, Or.inl ⟨rfl, fun k a b _ _ c => ?_⟩⟩
      have := cnp_le (M := M) (s := s.toInt) (st := Y.toInt * L 0 0 + X.toInt) (n := (x6.toInt - 1).toNat) (k - 1).toNat (by omega)
      omega
    have f1' := le_i f1
    rw [z1] at f1'
    have uni : ∀ k : Int, onK (L 0 0) (L 1 0) s.toInt X.toInt Y.toInt k → tgt (L 0 0) s.toInt X.toInt Y.toInt k = tgt (L 0 0) s.toInt X.toInt Y.toInt x6.toInt → k = x6.toInt := fun k ok te => by
      obtain ⟨a, b⟩ := tgt_u ok on te
      by_cases c : X.toInt = 0
      · exact Int.eq_of_mul_eq_mul_right (fun z => nz ⟨c, z⟩) b
      · exact Int.eq_of_mul_eq_mul_right c a
    rcases br_s e with ⟨hit, e⟩ | ⟨hit, e⟩
    · -- the square itself
      replace e := ce_e w.1 e
      replace e := ce_e w.2.2.2.1 e
      replace e := gg_e e
      replace e := cl_s e; obtain ⟨o15, eo15, e⟩ := e
      have v15 := fr_val eo15
      have qe : q.toInt = tgt (L 0 0) s.toInt X.toInt Y.toInt x6.toInt := by rw [← hit]; exact tv
      have i8 := (fb_e i75).2.2.2.1
      rw [l75] at i8
      rw [so_e (gg_e e), v15]
      have fv : (frV (hI h (V 75) st.toNatClampNeg) x5 = 1 ∧ cnP M s.toInt (Y.toInt * L 0 0 + X.toInt) (x6.toInt - 1).toNat = ovN L st.toNatClampNeg) ∨ (frV (hI h (V 75) st.toNatClampNeg) x5 = 0 ∧ ¬ cnP M s.toInt (Y.toInt * L 0 0 + X.toInt) (x6.toInt - 1).toNat = ovN L st.toNatClampNeg) := by
        exact frv_e i8 c5
      refine ⟨rfl, ?_⟩
      rcases fv with ⟨a, b⟩ | ⟨a, b⟩
      · exact Or.inr ⟨a, x6.toInt, Int.le_refl _, l, on, qe, b⟩
      · refine Or.inl ⟨a, fun k a' b' c' d' => ?_⟩
        rw [uni k c' (d'.symm.trans qe)]
        exact b
    · -- one further
      replace e := ce_e bM e
      replace e := gg_e e
      have ne : ¬ q.toInt = tgt (L 0 0) s.toInt X.toInt Y.toInt x6.toInt := fun z => hit (Int32.toInt_inj.mp (by rw [tv, z]))
      have t6 : (x6 + (1 : Int32)).toInt = x6.toInt + 1 := by rw [ta (by rw [z1]; omega), z1]
      have ix : o5.1.toNatClampNeg = (s.toInt + x6.toInt * (Y.toInt * L 0 0 + X.toInt)).toNat := by
        have := nc_i (x := o5.1) (by omega)
        rw [tgt_s] at tv
        omega
      have mv : (hI h (V 62) o5.1.toNatClampNeg).toInt = M (s.toInt + x6.toInt * (Y.toInt * L 0 0 + X.toInt)).toNat := by
        rw [← ix]; exact mM _ (by have := (tgt_on (show 0 < L 0 0 by omega) on).2.1; have := nc_i (x := o5.1) (by omega); omega)
      have cs : (cnP M s.toInt (Y.toInt * L 0 0 + X.toInt) (x6.toInt + 1 - 1).toNat) = cnP M s.toInt (Y.toInt * L 0 0 + X.toInt) (x6.toInt - 1).toNat + (if 0 < M (s.toInt + x6.toInt * (Y.toInt * L 0 0 + X.toInt)).toNat then 1 else 0) := by
        obtain ⟨n, hn⟩ : ∃ n : Nat, x6.toInt = (n : Int) + 1 := ⟨(x6.toInt - 1).toNat, by omega⟩
        rw [hn, show ((n : Int) + 1 + 1 - 1).toNat = n + 1 by omega, show ((n : Int) + 1 - 1).toNat = n by omega]
        rfl
      have go : ∀ {v1 : Int32}, v1.toInt = ((cnP M s.toInt (Y.toInt * L 0 0 + X.toInt) (x6.toInt + 1 - 1).toNat : Nat) : Int) → sX15_reaches_6 F f h (V 16) (V 13) s q st v1 (x6 + (1 : Int32)) = some o → o.2 = h ∧ ((o.1 = 0 ∧ ∀ k : Int, x6.toInt ≤ k → k ≤ L 78 st.toNatClampNeg → onK (L 0 0) (L 1 0) s.toInt X.toInt Y.toInt k → q.toInt = tgt (L 0 0) s.toInt X.toInt Y.toInt k → ¬ cnP M s.toInt (Y.toInt * L 0 0 + X.toInt) (k - 1).toNat = ovN L st.toNatClampNeg) ∨ (o.1 = 1 ∧ ∃ k : Int, x6.toInt ≤ k ∧ k ≤ L 78 st.toNatClampNeg ∧ onK (L 0 0) (L 1 0) s.toInt X.toInt Y.toInt k ∧ q.toInt = tgt (L 0 0) s.toInt X.toInt Y.toInt k ∧ cnP M s.toInt (Y.toInt * L 0 0 + X.toInt) (k - 1).toNat = ovN L st.toNatClampNeg)) := fun {v1} hv u => by
        obtain ⟨r1, r2⟩ := ih ⟨by omega, by omega⟩ (by rw [t6]; exact hv) u
        refine ⟨r1, ?_⟩
        rcases r2 with ⟨a, b⟩ | ⟨a, k, b, c⟩
        · refine Or.inl ⟨a, fun k a' b' c' d' => ?_⟩
          by_cases y : k = x6.toInt
          · rw [y] at d'
            exact absurd d' ne
          · exact b k (by omega) b' c' d'
        · exact Or.inr ⟨a, k, by omega, c⟩
      rcases br_s e with ⟨mz, e⟩ | ⟨mz, e⟩
      · have mz := le_i mz
        rw [mv, z0] at mz
        replace e := nm_s e; obtain ⟨v1, wv, e⟩ := e
        replace e := nx_e e
        refine go ?_ e
        rw [wv, ta (by rw [z0]; omega), z0, cs, if_neg (by omega), c5]
        omega
      · have mz := nle_i mz
        rw [mv, z0] at mz
        replace e := nm_s e; obtain ⟨v1, wv, e⟩ := e
        replace e := nx_e e
        refine go ?_ e
        have f1 := le_i f1
        rw [z1] at f1
        rw [wv, ta (by rw [z1]; omega), z1, cs, if_pos (by omega), c5]
        omega
/-- over all eight vectors -/
theorem att_70 (D : VD V) {K : Hp → Nat → Nat → Int32 → Int32 → Int32 → Int32 → Int32 → Option (Int32 × Hp)} {s v q mn i st : Int32} (H : LOk L) (J : StR L st.toNatClampNeg) (is : 0 ≤ s.toInt) (sL : s.toInt < L 0 0 * L 1 0) (q0 : 0 ≤ q.toInt) (iv : Rg 1 24 v) : ∀ (f : Nat) {h : Hp} {x9 : Int32}, RWd V h L M → Rg 0 8 x9 → sX15_attacks_70 F K f h (V 16) (V 13) s v q mn i st x9 = some o → (∃ g, FrV V (wl wdx) h g ∧ (∀ (d : Nat) (k : Int), x9.toInt ≤ d → d < 8 → vOk (L 76 st.toNatClampNeg) (L 77 st.toNatClampNeg) (fbt (L 75 st.toNatClampNeg) 2) d = true → ¬ WkD L M st.toNatClampNeg ((v.toInt - 1) % 2) s.toNatClampNeg q.toNatClampNeg d k) ∧ sX15_attacks_113 F K g (V 16) (V 13) s v q mn i = some o) ∨ (o.1 = 1 ∧ FrV V (wl wdx) h o.2 ∧ ∃ (d : Nat) (k : Int), d < 8 ∧ WkD L M st.toNatClampNeg ((v.toInt - 1) % 2) s.toNatClampNeg q.toNatClampNeg d k) := by
  have z8 : (8 : Int32).toInt = 8 := rfl
  have z1 : (1 : Int32).toInt = 1 := rfl
  have cs := nc_i is
  have cq := nc_i q0
  have v0 := iv.1
  have v1 := iv.2
  have tv : (v - (1 : Int32)).toInt = v.toInt - 1 := by rw [ts (by rw [z1]; omega), z1]
  have sdv : ((v - (1 : Int32)) &&& (1 : Int32)).toInt = (v.toInt - 1) % 2 := by rw [and1_i (by omega), tv]
  intro f
  induction f with
  | zero => intro h x9 _ _ e; exact absurd e (by rw [sX15_attacks_70]; exact fun z => nomatch z)
  | succ f ih =>
    intro h x9 W i9 e
    have i90 := i9.1
    have i91 := i9.2
    have c9 := nc_i i90
    rw [sX15_attacks_70] at e
    rcases br_s e with ⟨l, e⟩ | ⟨l, e⟩
    · have l := le_i l
      rw [z8] at l
      exact Or.inl ⟨h, fv_0, fun d k a b => by omega, e⟩
    have l := nle_i l
    rw [z8] at l
    unfold sX15_sideOf at e
    replace e := cl_s e; obtain ⟨o2, eo2, e⟩ := e
    rw [so_e eo2] at e
    replace e := cl_s e; obtain ⟨o3, eo3, e⟩ := e
    obtain ⟨l75, l76, l77, _⟩ := lw_75 W st.toNatClampNeg
    obtain ⟨X, Y, w3, vx, vy, ok⟩ := hv_val W.1 ⟨by rw [l75]; exact J.1.1, by rw [l75]; exact J.1.2⟩ ⟨by rw [l76]; exact J.2.1.1, by rw [l76]; exact J.2.1.2⟩ ⟨by rw [l77]; exact J.2.2.1.1, by rw [l77]; exact J.2.2.1.2⟩ ⟨i90, by omega⟩ eo3
    rw [l75, l76, l77] at vx vy ok
    rw [sdv] at vy
    have A : FrV V (wl wdx) h o3.2 := by rw [w3]; exact fv_t (fv_w rfl) (fv_w rfl)
    have W3 := rwd_x D W A
    have t9 : (x9 + (1 : Int32)).toInt = x9.toInt + 1 := by rw [ta (by rw [z1]; omega), z1]
    -- on to the next vector
    have nxt : ∀ {g : Hp}, FrV V (wl wdx) h g → (vOk (L 76 st.toNatClampNeg) (L 77 st.toNatClampNeg) (fbt (L 75 st.toNatClampNeg) 2) x9.toNatClampNeg = true → ∀ k : Int, ¬ WkD L M st.toNatClampNeg ((v.toInt - 1) % 2) s.toNatClampNeg q.toNatClampNeg x9.toNatClampNeg k) → sX15_attacks_107 F K (sX15_attacks_70 F K f) g (V 16) (V 13) s v q mn i st x9 = some o → (∃ g, FrV V (wl wdx) h g ∧ (∀ (d : Nat) (k : Int), x9.toInt ≤ d → d < 8 → vOk (L 76 st.toNatClampNeg) (L 77 st.toNatClampNeg) (fbt (L 75 st.toNatClampNeg) 2) d = true → ¬ WkD L M st.toNatClampNeg ((v.toInt - 1) % 2) s.toNatClampNeg q.toNatClampNeg d k) ∧ sX15_attacks_113 F K g (V 16) (V 13) s v q mn i = some o) ∨ (o.1 = 1 ∧ FrV V (wl wdx) h o.2 ∧ ∃ (d : Nat) (k : Int), d < 8 ∧ WkD L M st.toNatClampNeg ((v.toInt - 1) % 2) s.toNatClampNeg q.toNatClampNeg d k) := fun {g} G no u => by
      unfold sX15_attacks_107 at u
      rcases ih (rwd_x D W G) ⟨by omega, by omega⟩ (nx_e u) with ⟨g', a, b, c⟩ | ⟨a, b, c⟩
      · refine Or.inl ⟨g', fv_t G a, fun d k a' b' c' => ?_, c⟩
        by_cases y : d = x9.toNatClampNeg
        · rw [y] at c' ⊢
          exact no c' k
        · exact b d k (by omega) b' c'
      · exact Or.inr ⟨a, fv_t G b, c⟩
    rcases br_s e with ⟨c, e⟩ | ⟨c, e⟩
    · refine nxt A (fun y => ?_) e
      rcases ok with ⟨_, k⟩ | ⟨k, _⟩
      · rw [k] at y; exact absurd y (by decide)
      · rw [k] at c; exact absurd c (by decide)
    replace e := cl_s e; obtain ⟨o5, eo5, e⟩ := e
    unfold sX15_reaches at eo5
    have vr := v_rg (a := L 76 st.toNatClampNeg) (b := L 77 st.toNatClampNeg) (sd := (v.toInt - 1) % 2) (fo := fbt (L 75 st.toNatClampNeg) 2) (d := x9.toNatClampNeg) J.2.1 J.2.2.1
    have nz := v_nz (sd := (v.toInt - 1) % 2) (fo := fbt (L 75 st.toNatClampNeg) 2) (d := x9.toNatClampNeg) J.2.2.2.1
    rw [← vx, ← vy] at vr nz
    obtain ⟨r1, r2⟩ := rch_6 (X := X) (Y := Y) W3 H J is sL q0 (by rw [w3, rI_o (by decide), rI_s]) (by rw [w3, rI_s]) ⟨vr.1.1, vr.1.2⟩ ⟨vr.2.1, vr.2.2⟩ nz F (x5 := 0) (x6 := 1) ⟨by decide, by decide⟩ rfl eo5
    rw [r1] at e
    rcases br_s e with ⟨c', e⟩ | ⟨c', e⟩
    · refine nxt A (fun _ k wk => ?_) e
      rcases r2 with ⟨_, r⟩ | ⟨r, _⟩
      · obtain ⟨a, b, d, g, i⟩ := wk
        rw [← vx, ← vy] at d g i
        rw [cs] at d g i
        rw [cq] at g
        exact r k (by rw [z1]; exact a) b d g i
      · rw [r] at c'; exact absurd c' (by decide)
    · rcases r2 with ⟨r, _⟩ | ⟨_, k, a, b, d, g, i⟩
      · exact absurd r c'
      · rw [z1] at a
        rw [so_e e]
        refine Or.inr ⟨rfl, A, x9.toNatClampNeg, k, by omega, a, b, ?_, ?_, ?_⟩
        · rw [← vx, ← vy, cs]; exact d
        · rw [← vx, ← vy, cs, cq]; exact g
        · rw [← vx, ← vy, cs]; exact i
def AttI (L : Nat → Nat → Int) (M : Nat → Int) (v : Int) (s q i : Nat) : Prop := (i : Int) < L 74 (mnO v) ∧ fbt (L 75 (8 * mnO v + i)) 0 = false ∧ ∃ k, Led L M (8 * mnO v + i) ((v - 1) % 2) s q k
/-- over all STEPS of a man -/
theorem att_9 (D : VD V) {s v q mn : Int32} (H : LOk L) (is : 0 ≤ s.toInt) (sL : s.toInt < L 0 0 * L 1 0) (q0 : 0 ≤ q.toInt) (iv : Rg 1 24 v) (vL : v.toInt ≤ 2 * L 2 0) (em : mn.toInt = ((mnO v.toInt : Nat) : Int)) : ∀ (f : Nat) {h : Hp} {x6 : Int32}, RWd V h L M → 0 ≤ x6.toInt → sX15_attacks_9 F f h (V 16) (V 13) s v q mn x6 = some o → FrV V (wl wdx) h o.2 ∧ ((o.1 = 0 ∧ ∀ i : Nat, x6.toInt ≤ i → ¬ AttI L M v.toInt s.toNatClampNeg q.toNatClampNeg i) ∨ (o.1 = 1 ∧ ∃ i, AttI L M v.toInt s.toNatClampNeg q.toNatClampNeg i)) := by
  have z8 : (8 : Int32).toInt = 8 := rfl
  have z1 : (1 : Int32).toInt = 1 := rfl
  have z0 : (0 : Int32).toInt = 0 := rfl
  have cs := nc_i is
  have v0 := iv.1
  have v1 := iv.2
  obtain ⟨mL, mE⟩ := mno_lt (L := L) (v := v.toInt) (by omega) vL
  have L2 := H.2.2.1
  obtain ⟨H74, Hst⟩ := H.2.2.2 _ mL
  have cm : mn.toNatClampNeg = mnO v.toInt := by
    have := nc_i (x := mn) (by omega)
    omega
  have tv : (v - (1 : Int32)).toInt = v.toInt - 1 := by rw [ts (by rw [z1]; omega), z1]
  have sdv : ((v - (1 : Int32)) &&& (1 : Int32)).toInt = (v.toInt - 1) % 2 := by rw [and1_i (by omega), tv]
  intro f
  induction f with
  | zero => intro h x6 _ _ e; exact absurd e (by rw [sX15_attacks_9]; exact fun z => nomatch z)
  | succ f ih =>
    intro h x6 W a6 e
    have c6 := nc_i a6
    rw [sX15_attacks_9] at e
    replace e := ce_e W.1.1 e
    replace e := ce_e W.1.2.2.1 e
    replace e := gg_e e
    have l74 := (lw_75 W mn.toNatClampNeg).2.2.2.2.2
    rw [cm] at l74 e
    rcases br_s e with ⟨l, e⟩ | ⟨l, e⟩
    · have l := le_i l
      rw [l74] at l
      rw [so_e e]
      exact ⟨fv_0, Or.inl ⟨rfl, fun i a b => by have := b.1; omega⟩⟩
    have l := nle_i l
    rw [l74] at l
    replace e := nm_s e; obtain ⟨v5, w5, e⟩ := e
    have t8 : ((8 : Int32) * mn).toInt = 8 * mn.toInt := by rw [tm (by rw [z8]; omega), z8]
    have t5 : v5.toInt = 8 * mn.toInt + x6.toInt := by rw [w5, ta (by rw [t8]; omega), t8]
    have c5 : v5.toNatClampNeg = 8 * mnO v.toInt + x6.toNatClampNeg := by
      have := nc_i (x := v5) (by omega)
      omega
    have J : StR L v5.toNatClampNeg := by
      rw [c5]
      exact Hst x6.toNatClampNeg (by omega)
    have t6 : (x6 + (1 : Int32)).toInt = x6.toInt + 1 := by rw [ta (by rw [z1]; omega), z1]
    have nxt : ∀ {g : Hp}, FrV V (wl wdx) h g → ¬ AttI L M v.toInt s.toNatClampNeg q.toNatClampNeg x6.toNatClampNeg → sX15_attacks_113 F (sX15_attacks_9 F f) g (V 16) (V 13) s v q mn x6 = some o → FrV V (wl wdx) h o.2 ∧ ((o.1 = 0 ∧ ∀ i : Nat, x6.toInt ≤ i → ¬ AttI L M v.toInt s.toNatClampNeg q.toNatClampNeg i) ∨ (o.1 = 1 ∧ ∃ i, AttI L M v.toInt s.toNatClampNeg q.toNatClampNeg i)) := fun {g} G no u => by
      unfold sX15_attacks_113 at u
      obtain ⟨r1, r2⟩ := ih (rwd_x D W G) (by omega) (nx_e u)
      refine ⟨fv_t G r1, ?_⟩
      rcases r2 with ⟨a, b⟩ | r2
      · refine Or.inl ⟨a, fun i hi => ?_⟩
        by_cases y : i = x6.toNatClampNeg
        · rw [y]; exact no
        · exact b i (by omega)
      · exact Or.inr r2
    replace e := ce_e W.1.1 e
    replace e := ce_e W.1.2.2.2.1 e
    replace e := gg_e e
    replace e := nx_e e
    obtain ⟨l75, _, _, _, l79, _⟩ := lw_75 W v5.toNatClampNeg
    have fb := (fb_e (x := hI h (V 75) v5.toNatClampNeg) ⟨by rw [l75]; exact J.1.1, by rw [l75]; exact J.1.2⟩).1
    rw [l75] at fb
    rcases br_s e with ⟨c, e⟩ | ⟨c, e⟩
    rotate_left
    · refine nxt fv_0 (fun z => c (fb.mpr ?_)) e
      rw [c5]; exact z.2.1
    have off := fb.mp c
    unfold sX15_sideOf at e
    replace e := cl_s e; obtain ⟨o11, eo11, e⟩ := e
    rw [so_e eo11] at e
    replace e := cl_s e; obtain ⟨o12, eo12, e⟩ := e
    have v12 := fm_val W.1.1 W.1.2.2.2.2.2.2.2.1 eo12
    have w12 : o12.2 = h := by rw [v12]
    rw [w12] at e
    -- whether he starts where he must
    have fm : (o12.1 = 0 ∧ ¬ (L 79 v5.toNatClampNeg = 0 ∨ L 79 v5.toNatClampNeg = rkF L s.toNatClampNeg ((v.toInt - 1) % 2))) ∨ (¬ o12.1 = 0 ∧ (L 79 v5.toNatClampNeg = 0 ∨ L 79 v5.toNatClampNeg = rkF L s.toNatClampNeg ((v.toInt - 1) % 2))) := by
      have e1 : o12.1 = fmV (hI h (V 79) v5.toNatClampNeg) (hI h (V 16) 11) (hI h (V 16) 12) s ((v - (1 : Int32)) &&& (1 : Int32)) := by rw [v12]
      obtain ⟨_, ⟨g1, g2, g3, g4⟩, _⟩ := W
      have fi := H.1
      have ra := H.2.1
      have sq := sq_64 H
      have iS : Rg 0 63 s := ⟨is, by omega⟩
      have iA : Rg 3 8 (hI h (V 16) 11) := ⟨by omega, by omega⟩
      have dv := td iS iA ⟨by decide, by decide⟩
      have dr := rg_divv iS iA ⟨by decide, by decide⟩
      have dr0 := dr.1
      have dr1 := dr.2
      have rk : (rkV (hI h (V 16) 11) (hI h (V 16) 12) s ((v - (1 : Int32)) &&& (1 : Int32))).toInt = rkF L s.toNatClampNeg ((v.toInt - 1) % 2) := by
        unfold rkV rkF
        rw [cs]
        by_cases c : (v - (1 : Int32)) &&& (1 : Int32) = 0
        · rw [if_pos c, if_pos (by rw [← sdv, c]; rfl), ta (by rw [z1]; omega), z1, dv, g2]
        · rw [if_neg c, if_neg (fun z => c (Int32.toInt_inj.mp (by rw [sdv, z]; rfl))), ts (by omega), dv, g2, g3]
      rw [e1]
      unfold fmV
      by_cases c : hI h (V 79) v5.toNatClampNeg = 0
      · rw [if_pos c]
        rw [c, z0] at l79
        exact Or.inr ⟨by decide, Or.inl l79.symm⟩
      · rw [if_neg c]
        have n79 : ¬ L 79 v5.toNatClampNeg = 0 := fun z => c (Int32.toInt_inj.mp (by rw [l79, z]; rfl))
        by_cases d : hI h (V 79) v5.toNatClampNeg = rkV (hI h (V 16) 11) (hI h (V 16) 12) s ((v - (1 : Int32)) &&& (1 : Int32))
        · rw [if_pos d]
          exact Or.inr ⟨by decide, Or.inr (by rw [← l79, d, rk])⟩
        · rw [if_neg d]
          refine Or.inl ⟨rfl, ?_⟩
          rintro (z | z)
          · exact n79 z
          · exact d (Int32.toInt_inj.mp (by rw [l79, z, rk]))
    rcases br_s e with ⟨c', e⟩ | ⟨c', e⟩
    · refine nxt fv_0 (fun z => ?_) e
      rcases fm with ⟨_, m⟩ | ⟨m, _⟩
      · obtain ⟨_, _, k, lk⟩ := z
        rw [← c5] at lk
        exact m (led_d.mp lk).1
      · exact m c'
    have from' : L 79 v5.toNatClampNeg = 0 ∨ L 79 v5.toNatClampNeg = rkF L s.toNatClampNeg ((v.toInt - 1) % 2) := by
      rcases fm with ⟨m, _⟩ | ⟨_, m⟩
      · exact absurd m c'
      · exact m
    rcases att_70 D H J is sL q0 iv F W ⟨by decide, by decide⟩ e with ⟨g, a, b, c⟩ | ⟨a, b, d, k, hd, wk⟩
    · refine nxt a (fun z => ?_) c
      obtain ⟨_, _, k, lk⟩ := z
      rw [← c5] at lk
      obtain ⟨_, d, hd, wk⟩ := led_d.mp lk
      obtain ⟨d', hd', ok, wk'⟩ := wkd_ok J hd wk
      exact b d' k (by rw [z0]; omega) hd' ok wk'
    · refine ⟨b, Or.inr ⟨a, x6.toNatClampNeg, by omega, by rw [← c5]; exact off, k, ?_⟩⟩
      rw [← c5]
      exact led_d.mpr ⟨from', d, hd, wk⟩
/-- over all squares -/
theorem att_3 (D : VD V) {q by' : Int32} (H : LOk L) (HM : MOk L M) (q0 : 0 ≤ q.toInt) (ib : Rg 0 1 by') : ∀ (f : Nat) {h : Hp} {x4 : Int32}, RWd V h L M → 0 ≤ x4.toInt → sX15_isAttacked_3 F f h (V 16) (V 13) q by' x4 = some o → FrV V (wl wdx) h o.2 ∧ ((o.1 = 0 ∧ ∀ (s i : Nat), x4.toInt ≤ s → (s : Int) < L 0 0 * L 1 0 → 0 < M s → (M s - 1) % 2 = by'.toInt → ¬ AttI L M (M s) s q.toNatClampNeg i) ∨ (o.1 = 1 ∧ AttP L M by'.toInt q.toNatClampNeg)) := by
  have z1 : (1 : Int32).toInt = 1 := rfl
  have z0 : (0 : Int32).toInt = 0 := rfl
  have sq := sq_64 H
  have cq := nc_i q0
  intro f
  induction f with
  | zero => intro h x4 _ _ e; exact absurd e (by rw [sX15_isAttacked_3]; exact fun z => nomatch z)
  | succ f ih =>
    intro h x4 W a4 e
    have c4 := nc_i a4
    rw [sX15_isAttacked_3] at e
    have g4 := W.2.1.2.2.2
    rcases br_s e with ⟨l, e⟩ | ⟨l, e⟩
    · have l := le_i l
      rw [g4] at l
      rw [so_e e]
      exact ⟨fv_0, Or.inl ⟨rfl, fun s i a b => by omega⟩⟩
    have l := nle_i l
    rw [g4] at l
    replace e := ce_e W.2.2.1 e
    replace e := gg_e e
    replace e := nm_s e; obtain ⟨v4, w4, e⟩ := e
    have mv : v4.toInt = M x4.toNatClampNeg := by rw [w4]; exact W.2.2.2 _ (by omega)
    have hm := HM x4.toNatClampNeg (by omega)
    have t4 : (x4 + (1 : Int32)).toInt = x4.toInt + 1 := by rw [ta (by rw [z1]; omega), z1]
    have nxt : ∀ {g : Hp}, FrV V (wl wdx) h g → (0 < M x4.toNatClampNeg → (M x4.toNatClampNeg - 1) % 2 = by'.toInt → ∀ i, ¬ AttI L M (M x4.toNatClampNeg) x4.toNatClampNeg q.toNatClampNeg i) → sX15_isAttacked_56 F (sX15_isAttacked_3 F f) g (V 16) (V 13) q by' x4 = some o → FrV V (wl wdx) h o.2 ∧ ((o.1 = 0 ∧ ∀ (s i : Nat), x4.toInt ≤ s → (s : Int) < L 0 0 * L 1 0 → 0 < M s → (M s - 1) % 2 = by'.toInt → ¬ AttI L M (M s) s q.toNatClampNeg i) ∨ (o.1 = 1 ∧ AttP L M by'.toInt q.toNatClampNeg)) := fun {g} G no u => by
      unfold sX15_isAttacked_56 at u
      obtain ⟨r1, r2⟩ := ih (rwd_x D W G) (by omega) (nx_e u)
      refine ⟨fv_t G r1, ?_⟩
      rcases r2 with ⟨a, b⟩ | r2
      · refine Or.inl ⟨a, fun s i hs => ?_⟩
        by_cases y : s = x4.toNatClampNeg
        · rw [y]; exact fun _ p q => no p q i
        · exact b s i (by omega)
      · exact Or.inr r2
    rcases br_s e with ⟨c, e⟩ | ⟨c, e⟩
    · have c := le_i c
      rw [z0, mv] at c
      exact nxt fv_0 (fun z => by omega) e
    have c := nle_i c
    rw [z0] at c
    have vL : v4.toInt ≤ 2 * L 2 0 := by rw [mv]; exact (hm.2 (by omega)).2
    have L2 := H.2.2.1
    have iv : Rg 1 24 v4 := ⟨by omega, by omega⟩
    have tv : (v4 - (1 : Int32)).toInt = v4.toInt - 1 := by rw [ts (by rw [z1]; omega), z1]
    have sdv : ((v4 - (1 : Int32)) &&& (1 : Int32)).toInt = (v4.toInt - 1) % 2 := by rw [and1_i (by omega), tv]
    unfold sX15_sideOf at e
    replace e := cl_s e; obtain ⟨o6, eo6, e⟩ := e
    rw [so_e eo6] at e
    rcases br_s e with ⟨c', e⟩ | ⟨c', e⟩
    rotate_left
    · exact nxt fv_0 (fun _ z => absurd (Int32.toInt_inj.mp (by rw [sdv, mv]; exact z)) c') e
    have sdE : (M x4.toNatClampNeg - 1) % 2 = by'.toInt := by rw [← mv, ← sdv]; exact congrArg Int32.toInt c'
    rcases br_s e with ⟨c2, e⟩ | ⟨c2, e⟩
    · refine nxt fv_0 (fun p _ i z => ?_) e
      rw [← c2] at z
      obtain ⟨i1, _, k, lk⟩ := z
      obtain ⟨_, d, hd, wk⟩ := led_d.mp lk
      have J : StR L (8 * mnO (M x4.toNatClampNeg) + i) := (H.2.2.2 _ (mno_lt (L := L) p (hm.2 p).2).1).2 i i1
      exact wkd_ne J wk
    replace e := cl_s e; obtain ⟨o9, eo9, e⟩ := e
    unfold sX15_attacks sX15_manOf at eo9
    replace eo9 := cl_s eo9; obtain ⟨o1, eo1, eo9⟩ := eo9
    rw [so_e eo1] at eo9
    have sh : ((v4 - (1 : Int32)) >>> ((1 : Int32) &&& 31)).toInt = ((mnO v4.toInt : Nat) : Int) := by
      rw [shr_i 1 (by decide), tv, (mno_lt (L := L) (v := v4.toInt) (by omega) vL).2]
      rfl
    obtain ⟨r1, r2⟩ := att_9 D H a4 l q0 iv vL sh F W (by decide) eo9
    rw [mv] at r2
    rcases br_s e with ⟨c3, e⟩ | ⟨c3, e⟩
    · refine nxt r1 (fun _ _ i => ?_) e
      rcases r2 with ⟨_, r⟩ | ⟨r, _⟩
      · exact r i (by rw [z0]; omega)
      · rw [r] at c3; exact absurd c3 (by decide)
    · rcases r2 with ⟨r, _⟩ | ⟨_, i, i1, i2, k, lk⟩
      · exact absurd r c3
      · rw [so_e e]
        refine ⟨r1, Or.inr ⟨rfl, x4.toNatClampNeg, i, k, by omega, by omega, sdE, i1, i2, ?_⟩⟩
        rw [sdE] at lk
        exact lk
/-- ATTACKED, as the reference says it -/
theorem att_r (D : VD V) {q by' : Int32} (H : LOk L) (HM : MOk L M) (q0 : 0 ≤ q.toInt) (ib : Rg 0 1 by') (W : RWd V h L M) (e : sX15_isAttacked F h (V 16) (V 13) q by' = some o) : FrV V (wl wdx) h o.2 ∧ ((o.1 = 0 ∧ ¬ AttP L M by'.toInt q.toNatClampNeg) ∨ (o.1 = 1 ∧ AttP L M by'.toInt q.toNatClampNeg)) := by
  unfold sX15_isAttacked at e
  obtain ⟨r1, r2⟩ := att_3 D H HM q0 ib F W (by decide) e
  refine ⟨r1, ?_⟩
  rcases r2 with ⟨a, b⟩ | r2
  · refine Or.inl ⟨a, ?_⟩
    rintro ⟨s, i, k, s1, m1, m2, i1, i2, lk⟩
    have z0 : (0 : Int32).toInt = 0 := rfl
    exact b s i (by rw [z0]; omega) s1 m1 m2 ⟨i1, i2, k, by rw [m2]; exact lk⟩
  · exact Or.inr r2
end
end
section
/-! the class: ways as they lie in its rows, and whether a square is attacked -/
def WyE (L : Nat → Nat → Int) (V : Nat → Nat) (h : Hp) (c s t i w : Nat) : Prop := ∃ k, RchL L (8 * (c / 2) + i) ((c % 2 : Nat) : Int) s t k ∧ (hI h (V 51) w).toInt = t + 64 * L 75 (8 * (c / 2) + i) + 4096 * k ∧ ∀ q, q < 64 → (bitJ (hJ h (V 52) w) q = true ↔ ∃ j : Nat, 1 ≤ j ∧ (j : Int) < k ∧ (q : Int) = s + j * (((t : Int) - s) / k))
def CellW (L : Nat → Nat → Int) (V : Nat → Nat) (h : Hp) (c s t a b : Nat) : Prop := a ≤ b ∧ ∃ I : Nat → Nat, (∀ w, a ≤ w → w < b → ((I w : Nat) : Int) < L 74 (c / 2) ∧ WyE L V h c s t (I w) w) ∧ (∀ w w', a ≤ w → w < w' → w' < b → I w < I w') ∧ ∀ (i : Nat) (k : Int), (i : Int) < L 74 (c / 2) → RchL L (8 * (c / 2) + i) ((c % 2 : Nat) : Int) s t k → ∃ w, a ≤ w ∧ w < b ∧ I w = i
def celN (c s t : Nat) : Nat := (c * 64 + s) * 64 + t
def WyT (L : Nat → Nat → Int) (V : Nat → Nat) (h : Hp) : Prop := ∀ c s t : Nat, (c : Int) < 2 * L 2 0 → (s : Int) < L 0 0 * L 1 0 → t < 64 → (0 ≤ (hI h (V 50) (celN c s t)).toInt ∧ 0 ≤ (hI h (V 50) (celN c s t + 1)).toInt) ∧ CellW L V h c s t (rowN h (V 50) (celN c s t)) (rowN h (V 50) (celN c s t + 1)) ∧ (bitJ (hJ h (V 53) (c * 64 + t)) s = true ↔ ∃ (i : Nat) (k : Int), (i : Int) < L 74 (c / 2) ∧ RchL L (8 * (c / 2) + i) ((c % 2 : Nat) : Int) s t k) ∧ (bitJ (hJ h (V 54) (c * 64 + t)) s = true ↔ ∃ (i : Nat) (k : Int), (i : Int) < L 74 (c / 2) ∧ fbt (L 75 (8 * (c / 2) + i)) 0 = false ∧ RchL L (8 * (c / 2) + i) ((c % 2 : Nat) : Int) s t k)
def WCf (V : Nat → Nat) (h : Hp) : Prop := hR h (V 11) 0 = some (V 50) ∧ hR h (V 11) 1 = some (V 51) ∧ hR h (V 11) 2 = some (V 52) ∧ hR h (V 11) 3 = some (V 53) ∧ hR h (V 11) 4 = some (V 54) ∧ hR h (V 11) 5 = some (V 55)
theorem j_zero {x : Int64} : x = 0 ↔ ∀ q, q < 64 → bitJ x q = false := by
  constructor
  · intro z q _
    rw [z, bj_zero]
  · intro z
    apply Int64.toBitVec_inj.mp
    apply BitVec.eq_of_getLsbD_eq
    intro i hi
    show bitJ x i = bitJ (0 : Int64) i
    rw [z i hi, bj_zero]
theorem low_rest {x : Int64} (hx : ¬ x = 0) : ∃ k, k < 64 ∧ bitJ x k = true ∧ (∀ j, j < k → bitJ x j = false) ∧ (x &&& (-x)) = Int64.ofBitVec (BitVec.twoPow 64 k) ∧ ∀ s, s < 64 → bitJ (x &&& (x - (1 : Int64))) s = (bitJ x s && !decide (k = s)) := by
  obtain ⟨k, hk, pk, hl, el⟩ := low_min hx
  have e2 : (x - (1 : Int64)).toBitVec = ~~~ ((-x).toBitVec) := by
    rw [Int64.toBitVec_sub, Int64.toBitVec_neg, BitVec.not_neg]
    rfl
  have nb : ∀ s, s < 64 → bitJ (x - (1 : Int64)) s = !bitJ (-x) s := fun s hs => by
    unfold bitJ
    rw [e2, BitVec.getLsbD_not]
    simp [hs]
  have ab : ∀ s, (bitJ x s && bitJ (-x) s) = decide (k = s) := fun s => by rw [← bj_and, el, bj_pow hk]
  refine ⟨k, hk, pk, hl, el, fun s hs => ?_⟩
  rw [bj_and, nb s hs, ← ab s]
  cases bitJ x s <;> cases bitJ (-x) s <;> rfl
/-- squares between are on the board, and are all different -/
theorem pth_on {L : Nat → Nat → Int} {j : Nat} {sd : Int} {s t : Nat} {k : Int} (H : LOk L) (sL : (s : Int) < L 0 0 * L 1 0) (r : RchL L j sd s t k) {i : Int} (i0 : 0 ≤ i) (i1 : i ≤ k) : 0 ≤ (s : Int) + i * (((t : Int) - s) / k) ∧ (s : Int) + i * (((t : Int) - s) / k) < L 0 0 * L 1 0 := by
  obtain ⟨d, hd, o1, e1, st, _⟩ := rch_st r.2
  have f0 : 0 < L 0 0 := by have := H.1; omega
  have o2 := onk_mid (j := i) f0 (by omega) sL o1 ⟨i0, i1⟩
  obtain ⟨a, b, _⟩ := tgt_on f0 o2
  rw [tgt_s] at a b
  rw [st]
  exact ⟨a, b⟩
theorem rch_ne {L : Nat → Nat → Int} {j : Nat} {sd : Int} {s t : Nat} {k : Int} (J : StR L j) (r : RchL L j sd s t k) : ¬ ((t : Int) - s) / k = 0 := by
  obtain ⟨d, hd, o1, e1, st, sub⟩ := rch_st r.2
  intro z
  rw [st] at z
  have k1 := r.2.1
  rw [z, Int.mul_zero] at sub
  have n := v_nz (sd := sd) (fo := fbt (L 75 j) 2) (d := d) J.2.2.2.1
  generalize vXi (L 76 j) (L 77 j) (fbt (L 75 j) 2) d = X at *
  generalize vYi (L 76 j) (L 77 j) sd (fbt (L 75 j) 2) d = Y at *
  have f0 : 0 < L 0 0 := by have := o1.1; have := o1.2.1; omega
  obtain ⟨_, _, a, b⟩ := tgt_on f0 o1
  rw [← e1] at a b
  rw [show (t : Int) = s by omega] at a b
  have ax : k * X = 0 := by omega
  have ay : k * Y = 0 := by omega
  rcases Int.mul_eq_zero.mp ax with y | y
  · omega
  rcases Int.mul_eq_zero.mp ay with y' | y'
  · omega
  exact n ⟨y, y'⟩
section
variable {L : Nat → Nat → Int} {M : Nat → Int}
/-- men between, as bits -/
theorem met_b {x occ : Int64} {s t : Nat} {k : Int} {j : Nat} {sd : Int} (H : LOk L) (J : StR L j) (sL : (s : Int) < L 0 0 * L 1 0) (r : RchL L j sd s t k) (bx : ∀ q, q < 64 → (bitJ x q = true ↔ ∃ j : Nat, 1 ≤ j ∧ (j : Int) < k ∧ (q : Int) = s + j * (((t : Int) - s) / k))) (bo : ∀ q, q < 64 → (bitJ occ q = true ↔ 0 < M q)) : (x &&& occ = 0 ↔ cnP M s (((t : Int) - s) / k) (k - 1).toNat = 0) ∧ (¬ x &&& occ = 0 → ((x &&& occ) &&& ((x &&& occ) - (1 : Int64)) = 0 ↔ cnP M s (((t : Int) - s) / k) (k - 1).toNat = 1)) := by
  have sq := sq_64 H
  have k1 := r.2.1
  have st := rch_ne J r
  have pq : ∀ i : Nat, 1 ≤ i → i ≤ (k - 1).toNat → ∃ q : Nat, q < 64 ∧ (q : Int) = s + i * (((t : Int) - s) / k) ∧ (s + i * (((t : Int) - s) / k)).toNat = q := fun i a b => by
    obtain ⟨u, v⟩ := pth_on H sL r (i := i) (by omega) (by omega)
    exact ⟨((s : Int) + i * (((t : Int) - s) / k)).toNat, by omega, by omega, rfl⟩
  have inj : ∀ i i' : Nat, (s : Int) + i * (((t : Int) - s) / k) = s + i' * (((t : Int) - s) / k) → i = i' := fun i i' e => by
    have : (i : Int) = i' := Int.eq_of_mul_eq_mul_right st (by omega)
    omega
  have bit : ∀ q, q < 64 → (bitJ (x &&& occ) q = true ↔ ∃ i : Nat, 1 ≤ i ∧ i ≤ (k - 1).toNat ∧ (q : Int) = s + i * (((t : Int) - s) / k) ∧ 0 < M (s + i * (((t : Int) - s) / k)).toNat) := fun q hq => by
    rw [bj_and, Bool.and_eq_true, bx q hq, bo q hq]
    constructor
    · rintro ⟨⟨i, a, b, c⟩, m⟩
      refine ⟨i, a, by omega, c, ?_⟩
      rw [← c]; exact m
    · rintro ⟨i, a, b, c, m⟩
      refine ⟨⟨i, a, by omega, c⟩, ?_⟩
      rw [← c] at m; exact m
  refine ⟨?_, fun nz => ?_⟩
  · rw [j_zero, cnp_0]
    constructor
    · intro z i a b m
      obtain ⟨q, hq, e, _⟩ := pq i a b
      have := (bit q hq).mpr ⟨i, a, b, e, m⟩
      rw [z q hq] at this
      exact absurd this (by decide)
    · intro z q hq
      cases y : bitJ (x &&& occ) q with
      | false => rfl
      | true =>
        obtain ⟨i, a, b, _, m⟩ := (bit q hq).mp y
        exact absurd m (z i a b)
  · obtain ⟨l, hl, pl, _, _, rest⟩ := low_rest nz
    rw [j_zero, cnp_1]
    obtain ⟨i, a, b, e, m⟩ := (bit l hl).mp pl
    constructor
    · intro z
      refine ⟨i, a, b, m, fun i' a' b' m' => ?_⟩
      obtain ⟨q, hq, e', _⟩ := pq i' a' b'
      have y := (bit q hq).mpr ⟨i', a', b', e', m'⟩
      have w := z q hq
      rw [rest q hq, y, Bool.true_and] at w
      have lq : l = q := by
        by_cases c : l = q
        · exact c
        · rw [decide_eq_false c] at w; exact absurd w (by decide)
      exact inj i' i (by rw [← e', ← e, lq])
    · rintro ⟨i0, _, _, _, u⟩ q hq
      rw [rest q hq]
      cases y : bitJ (x &&& occ) q with
      | false => rfl
      | true =>
        obtain ⟨i', a', b', e', m'⟩ := (bit q hq).mp y
        have : i' = i := (u i' a' b' m').trans (u i a b m).symm
        rw [this] at e'
        rw [decide_eq_true (show l = q by omega)]
        rfl
theorem wd_all : ∀ k : Fin 8, ∀ f : Fin 64, (((nI (f.val + 64 * k.val)) &&& (1 : Int32)) = 0 ↔ fbt (f.val : Int) 0 = false) ∧ (((nI (f.val + 64 * k.val)) &&& (8 : Int32)) = 0 ↔ fbt (f.val : Int) 3 = false) := by decide +kernel
/-- a way's word -/
theorem wd_e {w : Int32} {t : Nat} {fl k : Int} (ht : t < 64) (hf : 0 ≤ fl ∧ fl ≤ 63) (hk : 0 ≤ k ∧ k ≤ 7) (e : w.toInt = t + 64 * fl + 4096 * k) : ((w >>> ((6 : Int32) &&& 31)) &&& (1 : Int32) = 0 ↔ fbt fl 0 = false) ∧ ((w >>> ((6 : Int32) &&& 31)) &&& (8 : Int32) = 0 ↔ fbt fl 3 = false) := by
  have sh : (w >>> ((6 : Int32) &&& 31)).toInt = w.toInt / 64 := shr_i 6 (by decide)
  have v : (w >>> ((6 : Int32) &&& 31)).toInt = fl + 64 * k := by rw [sh, e]; omega
  have a := wd_all ⟨k.toNat, by omega⟩ ⟨fl.toNat, by omega⟩
  have ev : w >>> ((6 : Int32) &&& 31) = nI (fl.toNat + 64 * k.toNat) := Int32.toInt_inj.mp (by rw [v, z_toInt (by omega)]; omega)
  have ef : ((fl.toNat : Nat) : Int) = fl := by omega
  dsimp only at a
  rw [ef] at a
  rw [ev]
  exact a
end
section
variable {F : Nat} {V : Nat → Nat} {h : Hp} {L : Nat → Nat → Int} {M : Nat → Int} {o : Int32 × Hp}
/-- over the ways of one man to the square -/
theorem hitc_133 {K : Hp → Nat → Nat → Int32 → Int64 → Int64 → Int32 → Option (Int32 × Hp)} {q x8 x13 : Int32} {occ x6 : Int64} {c s t a b : Nat} {I : Nat → Nat} (H : LOk L) (w6 : hR h (V 6) 1 = some (V 11)) (wc : WCf V h) (cL : (c : Int) < 2 * L 2 0) (sL : (s : Int) < L 0 0 * L 1 0) (ht : t < 64) (e13 : rowN h (V 50) (x13 + (1 : Int32)).toNatClampNeg = b) (nn : 0 ≤ (hI h (V 50) (x13 + (1 : Int32)).toNatClampNeg).toInt) (bo : ∀ q, q < 64 → (bitJ occ q = true ↔ 0 < M q)) (II : ∀ w, a ≤ w → w < b → ((I w : Nat) : Int) < L 74 (c / 2) ∧ WyE L V h c s t (I w) w) : ∀ (f : Nat) {x14 : Int32}, 0 ≤ x14.toInt → a ≤ x14.toNatClampNeg → sX5_isHit_133 F K f h (V 6) (V 4) q occ x6 x8 x13 x14 = some o → ((∀ w, x14.toNatClampNeg ≤ w → w < b → fbt (L 75 (8 * (c / 2) + I w)) 0 = false → ¬ ∃ k, Led L M (8 * (c / 2) + I w) ((c % 2 : Nat) : Int) s t k) ∧ sX5_isHit_249 F K h (V 6) (V 4) q occ x6 x8 = some o) ∨ (o = ((1 : Int32), h) ∧ ∃ w, a ≤ w ∧ w < b ∧ fbt (L 75 (8 * (c / 2) + I w)) 0 = false ∧ ∃ k, Led L M (8 * (c / 2) + I w) ((c % 2 : Nat) : Int) s t k) := by
  have z1 : (1 : Int32).toInt = 1 := rfl
  have mL : ((c / 2 : Nat) : Int) < L 2 0 := by omega
  obtain ⟨H74, Hst⟩ := H.2.2.2 _ mL
  have cb := nc_i nn
  intro f
  induction f with
  | zero => intro x14 _ _ e; exact absurd e (by rw [sX5_isHit_133]; exact fun z => nomatch z)
  | succ f ih =>
    intro x14 a14 la e
    have c14 := nc_i a14
    rw [sX5_isHit_133] at e
    replace e := ce_e w6 e
    replace e := ce_e wc.1 e
    replace e := gg_e e
    rcases br_s e with ⟨l, e⟩ | ⟨l, e⟩
    · have l := le_i l
      refine Or.inl ⟨fun w x y => ?_, e⟩
      unfold rowN at e13
      omega
    have l := nle_i l
    have lb : x14.toNatClampNeg < b := by unfold rowN at e13; omega
    obtain ⟨iL, k, rk, wd, bt⟩ := II _ la lb
    have J : StR L (8 * (c / 2) + I x14.toNatClampNeg) := Hst _ iL
    have kr := rk.2.2.1
    have k1 := rk.2.1
    have r7 := J.2.2.2.2.1
    obtain ⟨wd1, wd8⟩ := wd_e ht J.1 ⟨by omega, by omega⟩ wd
    obtain ⟨m0, m1⟩ := met_b (M := M) H J sL rk bt bo
    replace e := ce_e w6 e
    replace e := ce_e wc.2.1 e
    replace e := gg_e e
    replace e := nm_s e; obtain ⟨v8, u8, e⟩ := e
    replace e := ce_e w6 e
    replace e := ce_e wc.2.2.1 e
    replace e := gg_e e
    replace e := nm_s e; obtain ⟨v12, u12, e⟩ := e
    rw [← u8] at wd1 wd8
    rw [← u12] at m0 m1
    have bd : ∀ x, (hI h (V 50) x).toInt ≤ 2147483647 := fun x => Int32.toInt_le _
    have t14 : (x14 + (1 : Int32)).toInt = x14.toInt + 1 := by
      have := bd (x13 + (1 : Int32)).toNatClampNeg
      rw [ta (by rw [z1]; omega), z1]
    have n14 : (x14 + (1 : Int32)).toNatClampNeg = x14.toNatClampNeg + 1 := by
      have := nc_i (x := x14 + (1 : Int32)) (by omega)
      omega
    have nxt : (fbt (L 75 (8 * (c / 2) + I x14.toNatClampNeg)) 0 = false → ¬ ∃ k, Led L M (8 * (c / 2) + I x14.toNatClampNeg) ((c % 2 : Nat) : Int) s t k) → sX5_isHit_243 F K (sX5_isHit_133 F K f) h (V 6) (V 4) q occ x6 x8 x13 x14 = some o → ((∀ w, x14.toNatClampNeg ≤ w → w < b → fbt (L 75 (8 * (c / 2) + I w)) 0 = false → ¬ ∃ k, Led L M (8 * (c / 2) + I w) ((c % 2 : Nat) : Int) s t k) ∧ sX5_isHit_249 F K h (V 6) (V 4) q occ x6 x8 = some o) ∨ (o = ((1 : Int32), h) ∧ ∃ w, a ≤ w ∧ w < b ∧ fbt (L 75 (8 * (c / 2) + I w)) 0 = false ∧ ∃ k, Led L M (8 * (c / 2) + I w) ((c % 2 : Nat) : Int) s t k) := fun no u => by
      unfold sX5_isHit_243 at u
      rcases ih (by omega) (by omega) (nx_e u) with ⟨x, y⟩ | r
      · refine Or.inl ⟨fun w p p' => ?_, y⟩
        by_cases z : w = x14.toNatClampNeg
        · rw [z]; exact no
        · exact x w (by omega) p'
      · exact Or.inr r
    have led : cnP M s (((t : Int) - s) / k) (k - 1).toNat = ovN L (8 * (c / 2) + I x14.toNatClampNeg) ↔ ∃ k, Led L M (8 * (c / 2) + I x14.toNatClampNeg) ((c % 2 : Nat) : Int) s t k := by
      constructor
      · exact fun z => ⟨k, rk, z⟩
      · rintro ⟨k', rk', z⟩
        have : k' = k := rch_u J.2.2.2.1 rk'.2 rk.2
        rw [this] at z
        exact z
    -- open, or not
    have yes : cnP M s (((t : Int) - s) / k) (k - 1).toNat = ovN L (8 * (c / 2) + I x14.toNatClampNeg) → sX5_isHit_227 F K (sX5_isHit_133 F K f) h (V 6) (V 4) q occ x6 x8 x13 x14 v8 (1 : Int32) = some o → ((∀ w, x14.toNatClampNeg ≤ w → w < b → fbt (L 75 (8 * (c / 2) + I w)) 0 = false → ¬ ∃ k, Led L M (8 * (c / 2) + I w) ((c % 2 : Nat) : Int) s t k) ∧ sX5_isHit_249 F K h (V 6) (V 4) q occ x6 x8 = some o) ∨ (o = ((1 : Int32), h) ∧ ∃ w, a ≤ w ∧ w < b ∧ fbt (L 75 (8 * (c / 2) + I w)) 0 = false ∧ ∃ k, Led L M (8 * (c / 2) + I w) ((c % 2 : Nat) : Int) s t k) := fun op u => by
      unfold sX5_isHit_227 at u
      replace u := bn_e (by decide) u
      rcases br_s u with ⟨z, u⟩ | ⟨z, u⟩
      · exact Or.inr ⟨so_e u, x14.toNatClampNeg, la, lb, wd1.mp z, led.mp op⟩
      · exact nxt (fun y => absurd (wd1.mpr y) z) u
    have no : ¬ cnP M s (((t : Int) - s) / k) (k - 1).toNat = ovN L (8 * (c / 2) + I x14.toNatClampNeg) → sX5_isHit_227 F K (sX5_isHit_133 F K f) h (V 6) (V 4) q occ x6 x8 x13 x14 v8 (0 : Int32) = some o → ((∀ w, x14.toNatClampNeg ≤ w → w < b → fbt (L 75 (8 * (c / 2) + I w)) 0 = false → ¬ ∃ k, Led L M (8 * (c / 2) + I w) ((c % 2 : Nat) : Int) s t k) ∧ sX5_isHit_249 F K h (V 6) (V 4) q occ x6 x8 = some o) ∨ (o = ((1 : Int32), h) ∧ ∃ w, a ≤ w ∧ w < b ∧ fbt (L 75 (8 * (c / 2) + I w)) 0 = false ∧ ∃ k, Led L M (8 * (c / 2) + I w) ((c % 2 : Nat) : Int) s t k) := fun op u => by
      unfold sX5_isHit_227 at u
      replace u := bp_e rfl u
      exact nxt (fun _ y => op (led.mpr y)) u
    unfold sX5_isHit_226 at e
    have cz : lg_cmp v12 (0 : Int64) = 0 ↔ v12 = 0 := ⟨cmp_eq, fun z => by rw [z]; decide⟩
    rcases br_s e with ⟨ov, e⟩ | ⟨ov, e⟩
    · have o0 : ovN L (8 * (c / 2) + I x14.toNatClampNeg) = 0 := by
        unfold ovN
        rw [if_neg (by rw [wd8.mp ov]; decide)]
      rcases br_s e with ⟨z, e⟩ | ⟨z, e⟩
      · exact yes (by rw [o0]; exact m0.mp (cz.mp z)) e
      · exact no (by rw [o0]; exact fun y => z (cz.mpr (m0.mpr y))) e
    · have o1 : ovN L (8 * (c / 2) + I x14.toNatClampNeg) = 1 := by
        unfold ovN
        rw [if_pos]
        cases y : fbt (L 75 (8 * (c / 2) + I x14.toNatClampNeg)) 3 with
        | true => rfl
        | false => exact absurd (wd8.mpr y) ov
      rcases br_s e with ⟨z, e⟩ | ⟨z, e⟩
      · exact no (by rw [o1, m0.mp (cz.mp z)]; decide) e
      have nz : ¬ v12 = 0 := fun y => z (cz.mpr y)
      have cz' : lg_cmp (v12 &&& (v12 - (1 : Int64))) (0 : Int64) = 0 ↔ v12 &&& (v12 - (1 : Int64)) = 0 := ⟨cmp_eq, fun z => by rw [z]; decide⟩
      rcases br_s e with ⟨y, e⟩ | ⟨y, e⟩
      · exact yes (by rw [o1]; exact (m1 nz).mp (cz'.mp y)) e
      · exact no (by rw [o1]; exact fun x => y (cz'.mpr ((m1 nz).mpr x))) e
/-- over all men of a side -/
theorem hitc_26 {q : Int32} {occ : Int64} {sd : Nat} {ro : Int} (H : LOk L) (HM : MOk L M) (w6 : hR h (V 6) 1 = some (V 11)) (wc : WCf V h) (T : WyT L V h) (e0 : hR h (V 4) 0 = some (V 34)) (P : PosC h (V 34) (V 35) (V 36) M ro) (q0 : 0 ≤ q.toInt) (q1 : q.toInt < 64) (bo : ∀ q, q < 64 → (bitJ occ q = true ↔ 0 < M q)) : ∀ (f : Nat) {x6 : Int64} {x8 : Int32}, (∀ s, s < 64 → bitJ x6 s = true → 0 < M s ∧ (M s - 1) % 2 = (sd : Int)) → 0 ≤ x8.toInt → (∀ s : Nat, s < 64 → (s : Int) < x8.toInt → bitJ x6 s = false) → sX5_isHit_26 F f h (V 6) (V 4) q occ x6 x8 = some o → o.2 = h ∧ ((o.1 = 0 ∧ ∀ s i : Nat, s < 64 → bitJ x6 s = true → ¬ AttI L M (M s) s q.toNatClampNeg i) ∨ (o.1 = 1 ∧ AttP L M sd q.toNatClampNeg)) := by
  have z1 : (1 : Int32).toInt = 1 := rfl
  have z64 : (64 : Int32).toInt = 64 := rfl
  have sq := sq_64 H
  have L2 := H.2.2.1
  have cq := nc_i q0
  intro f
  induction f with
  | zero => intro x6 x8 _ _ _ e; exact absurd e (by rw [sX5_isHit_26]; exact fun z => nomatch z)
  | succ f ih =>
    intro x6 x8 B6 a8 lo e
    rw [sX5_isHit_26] at e
    unfold sX5_isHit_255 at e
    have none : (∀ s, s < 64 → bitJ x6 s = false) → some ((0 : Int32), h) = some o → o.2 = h ∧ ((o.1 = 0 ∧ ∀ s i : Nat, s < 64 → bitJ x6 s = true → ¬ AttI L M (M s) s q.toNatClampNeg i) ∨ (o.1 = 1 ∧ AttP L M sd q.toNatClampNeg)) := fun z u => by
      rw [so_e u]
      exact ⟨rfl, Or.inl ⟨rfl, fun s i hs b => by rw [z s hs] at b; exact absurd b (by decide)⟩⟩
    rcases br_s e with ⟨l, e⟩ | ⟨l, e⟩
    · have l := le_i l
      rw [z64] at l
      exact none (fun s hs => lo s hs (by omega)) e
    have l := nle_i l
    rw [z64] at l
    rcases br_s e with ⟨z, e⟩ | ⟨z, e⟩
    · exact none (j_zero.mp (cmp_eq z)) e
    have nz := cmp0 z
    obtain ⟨k, hk, pk, kl, el⟩ := low_min nz
    replace e := nm_s e; obtain ⟨v3, u3, e⟩ := e
    rw [el] at u3
    replace e := nm_s e; obtain ⟨v4, u4, e⟩ := e
    have b4 : ∀ s, s < 64 → bitJ v4 s = (bitJ x6 s && !decide (k = s)) := fun s hs => by
      rw [u4, u3, bj_xor, bj_pow hk]
      by_cases c : k = s
      · rw [decide_eq_true c, ← c, pk]; rfl
      · rw [decide_eq_false c]; cases bitJ x6 s <;> rfl
    replace e := gg_e e
    replace e := nm_s e; obtain ⟨v6, u6, e⟩ := e
    rw [u3, sq_pow hk] at u6
    have c6 : v6.toNatClampNeg = k := by rw [u6, z_clamp (by omega)]
    have t6 : v6.toInt = (k : Int) := by rw [u6, z_toInt (by omega)]
    replace e := ce_e e0 e
    replace e := gg_e e
    replace e := nm_s e; obtain ⟨v9, u9, e⟩ := e
    rw [c6] at u9
    obtain ⟨mk, sk⟩ := B6 k hk pk
    have on9 : v9.toInt = M k - 1 := by rw [u9]; exact P.1 k hk
    obtain ⟨kL, m2⟩ := (HM k hk).2 mk
    have c9 := nc_i (x := v9) (by omega)
    have c9d : v9.toNatClampNeg / 2 = mnO (M k) := by unfold mnO; omega
    have c9m : ((v9.toNatClampNeg % 2 : Nat) : Int) = (M k - 1) % 2 := by omega
    have cL : (v9.toNatClampNeg : Int) < 2 * L 2 0 := by omega
    obtain ⟨⟨nn1, nn2⟩, cw, _, hf⟩ := T v9.toNatClampNeg k q.toNatClampNeg cL kL (by omega)
    have m64 : (v9 * (64 : Int32)).toInt = v9.toInt * 64 := by rw [tm (by rw [z64]; omega), z64]
    have a64 : ((v9 * (64 : Int32)) + q).toInt = v9.toInt * 64 + q.toInt := by rw [ta (by rw [m64]; omega), m64]
    have i54 : ((v9 * (64 : Int32)) + q).toNatClampNeg = v9.toNatClampNeg * 64 + q.toNatClampNeg := by
      have := nc_i (x := (v9 * (64 : Int32)) + q) (by omega)
      omega
    replace e := ce_e w6 e
    replace e := ce_e wc.2.2.2.2.1 e
    replace e := gg_e e
    rw [i54] at e
    have t8 : (x8 + (1 : Int32)).toInt = x8.toInt + 1 := by rw [ta (by rw [z1]; omega), z1]
    -- on to the next man
    have nxt : (∀ i, ¬ AttI L M (M k) k q.toNatClampNeg i) → sX5_isHit_249 F (sX5_isHit_26 F f) h (V 6) (V 4) q occ v4 x8 = some o → o.2 = h ∧ ((o.1 = 0 ∧ ∀ s i : Nat, s < 64 → bitJ x6 s = true → ¬ AttI L M (M s) s q.toNatClampNeg i) ∨ (o.1 = 1 ∧ AttP L M sd q.toNatClampNeg)) := fun no u => by
      unfold sX5_isHit_249 at u
      obtain ⟨r1, r2⟩ := ih (x6 := v4) (fun s hs b => B6 s hs (by
        rw [b4 s hs, Bool.and_eq_true] at b
        exact b.1)) (by omega) (fun s hs ls => by
        rw [b4 s hs]
        by_cases c : s < k
        · rw [kl s c]; rfl
        · by_cases d : k = s
          · rw [decide_eq_true d]; cases bitJ x6 s <;> rfl
          · have ks : k < s := by omega
            have : (k : Int) < x8.toInt := by omega
            rw [lo k hk this] at pk
            exact absurd pk (by decide)) (nx_e u)
      refine ⟨r1, ?_⟩
      rcases r2 with ⟨a, b⟩ | r2
      · refine Or.inl ⟨a, fun s i hs bs => ?_⟩
        by_cases c : k = s
        · rw [← c]; exact no i
        · exact b s i hs (by rw [b4 s hs, bs, decide_eq_false c]; rfl)
      · exact Or.inr r2
    have hb : lg_cmp ((hJ h (V 54) (v9.toNatClampNeg * 64 + q.toNatClampNeg)) &&& v3) (0 : Int64) = 0 ↔ ¬ bitJ (hJ h (V 54) (v9.toNatClampNeg * 64 + q.toNatClampNeg)) k = true := by
      have cz : ∀ y : Int64, lg_cmp y (0 : Int64) = 0 ↔ y = 0 := fun y => ⟨cmp_eq, fun z => by rw [z]; decide⟩
      rw [cz, j_zero]
      constructor
      · intro y b
        have := y k hk
        rw [bj_and, b, u3, bj_pow hk, decide_eq_true rfl] at this
        exact absurd this (by decide)
      · intro y s hs
        rw [bj_and, u3, bj_pow hk]
        by_cases c : k = s
        · rw [← c]
          cases d : bitJ (hJ h (V 54) (v9.toNatClampNeg * 64 + q.toNatClampNeg)) k with
          | false => rfl
          | true => exact absurd d y
        · rw [decide_eq_false c, Bool.and_false]
    rcases br_s e with ⟨c, e⟩ | ⟨c, e⟩
    · refine nxt (fun i z => hb.mp c (hf.mpr ?_)) e
      obtain ⟨z1, z2, k', z3⟩ := z
      rw [c9d, c9m]
      exact ⟨i, k', z1, z2, z3.1⟩
    replace e := nm_s e; obtain ⟨v14, u14, e⟩ := e
    have b64 : ((v9 * (64 : Int32)) + v6).toInt = v9.toInt * 64 + k := by rw [ta (by rw [m64, t6]; omega), m64, t6]
    have d64 : (((v9 * (64 : Int32)) + v6) * (64 : Int32)).toInt = (v9.toInt * 64 + k) * 64 := by rw [tm (by rw [b64, z64]; omega), b64, z64]
    have t14 : v14.toInt = (v9.toInt * 64 + k) * 64 + q.toInt := by rw [u14, ta (by rw [d64]; omega), d64]
    have n14 : v14.toNatClampNeg = celN v9.toNatClampNeg k q.toNatClampNeg := by
      unfold celN
      have := nc_i (x := v14) (by omega)
      omega
    have s14 : (v14 + (1 : Int32)).toInt = v14.toInt + 1 := by rw [ta (by rw [z1]; omega), z1]
    have n15 : (v14 + (1 : Int32)).toNatClampNeg = celN v9.toNatClampNeg k q.toNatClampNeg + 1 := by
      have := nc_i (x := v14) (by omega)
      have := nc_i (x := v14 + (1 : Int32)) (by omega)
      omega
    replace e := ce_e w6 e
    replace e := ce_e wc.1 e
    replace e := gg_e e
    replace e := nm_s e; obtain ⟨v18, u18, e⟩ := e
    rw [n14] at u18
    obtain ⟨ab, I, I1, I2, I3⟩ := cw
    have c18 : v18.toNatClampNeg = rowN h (V 50) (celN v9.toNatClampNeg k q.toNatClampNeg) := by rw [u18]; rfl
    rcases hitc_133 (M := M) H w6 wc cL kL (t := q.toNatClampNeg) (by omega) (by rw [n15]) (by rw [n15]; exact nn2) bo I1 F (by rw [u18]; exact nn1) (by rw [c18]; exact Nat.le_refl _) e with ⟨r1, r2⟩ | ⟨r1, w, w1, w2, w3, k', w4⟩
    · refine nxt (fun i z => ?_) r2
      obtain ⟨z1, z2, k', z3⟩ := z
      rw [← c9d] at z1 z2 z3
      rw [← c9m] at z3
      obtain ⟨w, w1, w2, w3⟩ := I3 i k' z1 z3.1
      refine r1 w (by rw [c18]; exact w1) w2 (by rw [w3]; exact z2) ⟨k', ?_⟩
      rw [w3]; exact z3
    · rw [r1]
      refine ⟨rfl, Or.inr ⟨rfl, k, I w, k', kL, mk, sk, ?_, ?_, ?_⟩⟩
      · rw [← c9d]; exact (I1 w w1 w2).1
      · rw [← c9d]; exact w3
      · rw [← c9d]
        rw [c9m, sk] at w4
        exact w4
/-- ATTACKED, as the class says it -/
theorem hit_c {q sd : Int32} {ro : Int} (H : LOk L) (HM : MOk L M) (w6 : hR h (V 6) 1 = some (V 11)) (wc : WCf V h) (T : WyT L V h) (Pc : VPc V h) (P : PosC h (V 34) (V 35) (V 36) M ro) (q0 : 0 ≤ q.toInt) (q1 : q.toInt < 64) (is : Rg 0 1 sd) (e : sX5_isHit F h (V 6) (V 4) q sd = some o) : o.2 = h ∧ ((o.1 = 0 ∧ ¬ AttP L M sd.toInt q.toNatClampNeg) ∨ (o.1 = 1 ∧ AttP L M sd.toInt q.toNatClampNeg)) := by
  have z0 : (0 : Int32).toInt = 0 := rfl
  have sq := sq_64 H
  have s0 := is.1
  have s1 := is.2
  have cs := nc_i s0
  unfold sX5_isHit at e
  replace e := ce_e Pc.2.1 e
  replace e := gg_e e
  replace e := ce_e Pc.2.1 e
  replace e := gg_e e
  replace e := nm_s e; obtain ⟨v5, u5, e⟩ := e
  replace e := ce_e Pc.2.1 e
  replace e := gg_e e
  replace e := nx_e e
  have bo : ∀ q, q < 64 → (bitJ v5 q = true ↔ 0 < M q) := fun q hq => by
    have c0 : (0 : Int32).toNatClampNeg = 0 := rfl
    have c1 : (1 : Int32).toNatClampNeg = 1 := rfl
    rw [u5, bj_or, Bool.or_eq_true, c0, c1, P.2.1 0 (by decide) q hq, P.2.1 1 (by decide) q hq]
    constructor
    · rintro (z | z)
      · exact z.1
      · exact z.1
    · intro z
      by_cases c : (M q - 1) % 2 = 0
      · exact Or.inl ⟨z, c⟩
      · exact Or.inr ⟨z, by omega⟩
  obtain ⟨r1, r2⟩ := hitc_26 (sd := sd.toNatClampNeg) H HM w6 wc T Pc.1 P q0 q1 bo F (fun s hs b => (P.2.1 _ (by omega) s hs).mp b) (by decide) (fun s _ ls => by rw [z0] at ls; omega) e
  rw [cs] at r2
  refine ⟨r1, ?_⟩
  rcases r2 with ⟨a, b⟩ | r2
  · refine Or.inl ⟨a, ?_⟩
    rintro ⟨s, i, k, sL, m1, m2, i1, i2, lk⟩
    exact b s i (by omega) ((P.2.1 _ (by omega) s (by omega)).mpr ⟨m1, by rw [m2, cs]⟩) ⟨i1, i2, k, by rw [m2]; exact lk⟩
  · exact Or.inr r2
end
end
