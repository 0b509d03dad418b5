/-! the class: one way more -/
abbrev waL : List (Nat × Nat) := [(11, 8), (51, 999), (52, 999), (53, 999), (54, 999)]
/-- what addWay leaves: way n of code c from s to t -/
def AwP (V : Nat → Nat) (h o : Hp) (n c s t : Nat) (fl k st : Int) : Prop := FrV V (wl waL) h o ∧ (hI o (V 11) 8).toInt = (n : Int) + 1 ∧ (hI o (V 51) n).toInt = t + 64 * fl + 4096 * k ∧ (∀ w, ¬ w = n → hI o (V 51) w = hI h (V 51) w) ∧ (∀ w, ¬ w = n → hJ o (V 52) w = hJ h (V 52) w) ∧ (∀ q, q < 64 → (bitJ (hJ o (V 52) n) q = true ↔ ∃ j : Nat, 1 ≤ j ∧ (j : Int) < k ∧ (q : Int) = s + j * st)) ∧ (∀ x q, bitJ (hJ o (V 53) x) q = (bitJ (hJ h (V 53) x) q || (decide (x = c * 64 + t) && decide (s = q)))) ∧ ∀ x q, bitJ (hJ o (V 54) x) q = (bitJ (hJ h (V 54) x) q || (decide (x = c * 64 + t) && decide (s = q) && !fbt fl 0))
section
variable {F : Nat} {V : Nat → Nat} {h o : Hp}
theorem awy_33 (D : VD V) (wc : WCf V h) {x1 x2 x3 x4 x5 x8 : Int32} {n : Nat} (ec : hI h (V 11) 8 = nI n) (hn : n < 172032) (i1 : 0 ≤ x1.toInt ∧ x1.toInt ≤ 23) (i2 : 0 ≤ x2.toInt ∧ x2.toInt < 64) (i3 : 0 ≤ x3.toInt ∧ x3.toInt < 64) (i4 : Rg 0 63 x4) (i5 : 1 ≤ x5.toInt ∧ x5.toInt ≤ 7) (i8 : -64 ≤ x8.toInt ∧ x8.toInt ≤ 64) (on : ∀ j : Int, 1 ≤ j → j < x5.toInt → 0 ≤ x2.toInt + j * x8.toInt ∧ x2.toInt + j * x8.toInt < 64) : ∀ (f : Nat) {x6 : Int64} {x9 : Int32}, 1 ≤ x9.toInt → x9.toInt ≤ x5.toInt → (∀ q, q < 64 → (bitJ x6 q = true ↔ ∃ j : Nat, 1 ≤ j ∧ (j : Int) < x9.toInt ∧ (q : Int) = x2.toInt + j * x8.toInt)) → sX10_addWay_33 F f h (V 11) x1 x2 x3 x4 x5 x6 x8 x9 = some o → AwP V h o n x1.toNatClampNeg x2.toNatClampNeg x3.toNatClampNeg x4.toInt x5.toInt x8.toInt := by
  have z1 : (1 : Int32).toInt = 1 := rfl
  have z64 : (64 : Int32).toInt = 64 := rfl
  have c1 := nc_i i1.1
  have c2 := nc_i i2.1
  have c3 := nc_i i3.1
  have f0 := i4.1
  have f1 := i4.2
  have ii2 : Rg 0 63 x2 := ⟨i2.1, by omega⟩
  intro f
  induction f with
  | zero => intro x6 x9 _ _ _ e; exact absurd e (by rw [sX10_addWay_33]; exact fun z => nomatch z)
  | succ f ih =>
    intro x6 x9 a9 b9 bits e
    rw [sX10_addWay_33] at e
    rcases br_s e with ⟨l, e⟩ | ⟨l, e⟩
    rotate_left
    · have l := nle_i l
      replace e := nm_s e; obtain ⟨v18, u18, e⟩ := e
      replace e := nm_s e; obtain ⟨v19, u19, e⟩ := e
      have pm := mb (n := 64) (m := 8) (k := x9.toInt) (d := x8.toInt) ⟨by omega, by omega⟩ i8 (by decide)
      have m9 : (x9 * x8).toInt = x9.toInt * x8.toInt := tm (by omega)
      have t9 : (x2 + (x9 * x8)).toInt = x2.toInt + x9.toInt * x8.toInt := by rw [ta (by rw [m9]; omega), m9]
      have o9 := on x9.toInt a9 l
      have ir : Rg 0 63 (x2 + (x9 * x8)) := ⟨by rw [t9]; omega, by rw [t9]; omega⟩
      have cr := nc_i ir.1
      have t19 : v19.toInt = x9.toInt + 1 := by rw [u19, ta (by rw [z1]; omega), z1]
      refine ih (x6 := v18) (x9 := v19) (by omega) (by omega) (fun q hq => ?_) e
      rw [u18, bj_or, Bool.or_eq_true, bits q hq, bj_one ir, decide_eq_true_eq, t19]
      constructor
      · rintro (⟨j, a, b, c⟩ | z)
        · exact ⟨j, a, by omega, c⟩
        · refine ⟨x9.toInt.toNat, by omega, by omega, ?_⟩
          rw [show ((x9.toInt.toNat : Nat) : Int) = x9.toInt by omega]
          omega
      · rintro ⟨j, a, b, c⟩
        by_cases y : (j : Int) = x9.toInt
        · rw [y] at c
          exact Or.inr (by omega)
        · exact Or.inl ⟨j, a, by omega, c⟩
    · have l := le_i l
      have e9 : x9.toInt = x5.toInt := by omega
      rw [e9] at bits
      unfold sX10_addWay_144 at e
      -- the word
      have s4 : (x4 <<< ((6 : Int32) &&& 31)).toInt = x4.toInt * 64 := shl_i (m := 6) (by decide) f0 (by
        have : ((2 ^ 6 : Nat) : Int) = 64 := by decide
        rw [this]; omega)
      have s5 : (x5 <<< ((12 : Int32) &&& 31)).toInt = x5.toInt * 4096 := shl_i (m := 12) (by decide) (by omega) (by
        have : ((2 ^ 12 : Nat) : Int) = 4096 := by decide
        rw [this]; omega)
      have o1 : (x3 ||| (x4 <<< ((6 : Int32) &&& 31))).toInt = x3.toInt + x4.toInt * 64 := by
        rw [or_i (m := 6) (z := x4.toInt) i3.1 (by
          have : ((2 ^ 6 : Nat) : Int) = 64 := by decide
          rw [this]; exact i3.2) f0 s4 (by rw [s4]; omega), s4]
      have o2 : ((x3 ||| (x4 <<< ((6 : Int32) &&& 31))) ||| (x5 <<< ((12 : Int32) &&& 31))).toInt = x3.toInt + 64 * x4.toInt + 4096 * x5.toInt := by
        rw [or_i (m := 12) (z := x5.toInt) (by rw [o1]; omega) (by
          have : ((2 ^ 12 : Nat) : Int) = 4096 := by decide
          rw [this, o1]; omega) (by omega) s5 (by rw [o1, s5]; omega), o1, s5]
        omega
      have cn : (nI n).toNatClampNeg = n := z_clamp (by omega)
      have tn : (nI n).toInt = (n : Int) := z_toInt (by omega)
      replace e := ce_e wc.2.1 e
      replace e := gg_e e
      replace e := nm_s e; obtain ⟨h4, u4, e⟩ := e
      rw [ec, cn] at u4
      have k4 : hI h4 (V 11) 8 = nI n := by rw [u4, rI_a (vne D)]; exact ec
      replace e := ce_e (show hR h4 (V 11) 2 = some (V 52) by rw [u4]; exact wc.2.2.1) e
      replace e := gg_e e
      replace e := nm_s e; obtain ⟨h7, u7, e⟩ := e
      rw [k4, cn] at u7
      replace e := nm_s e; obtain ⟨h8, u8, e⟩ := e
      have k7 : hI h7 (V 11) 8 = nI n := by rw [u7]; exact k4
      rw [k7] at u8
      have R8 : ∀ a i, hR h8 a i = hR h a i := fun a i => by rw [u8, u7, u4]; rfl
      have J8 : ∀ a i, ¬ a = V 52 → hJ h8 a i = hJ h a i := fun a i na => by
        rw [u8]
        show hJ h7 a i = _
        rw [u7, r_J, if_neg (fun z => na z.1), u4]; rfl
      have m64 : (x1 * (64 : Int32)).toInt = x1.toInt * 64 := by rw [tm (by rw [z64]; omega), z64]
      have ix : ((x1 * (64 : Int32)) + x3).toNatClampNeg = x1.toNatClampNeg * 64 + x3.toNatClampNeg := by
        have a : ((x1 * (64 : Int32)) + x3).toInt = x1.toInt * 64 + x3.toInt := by rw [ta (by rw [m64]; omega), m64]
        have := nc_i (x := (x1 * (64 : Int32)) + x3) (by omega)
        omega
      replace e := ce_e ((R8 _ _).trans wc.2.2.2.1) e
      replace e := gg_e e
      replace e := gg_e e
      replace e := nm_s e; obtain ⟨h12, u12, e⟩ := e
      rw [ix, J8 _ _ (vne D)] at u12
      have A12 : FrV V (wl waL) h h12 := fv_t (g2 := h8) (fv_t (g2 := h7) (fv_t (g2 := h4) (by rw [u4]; exact fv_w (wl_9 (by decide))) (by rw [u7]; exact fv_j (wl_9 (by decide)))) (by rw [u8]; exact fv_w rfl)) (by rw [u12]; exact fv_j (wl_9 (by decide)))
      have J12 : ∀ a i, ¬ a = V 52 → ¬ a = V 53 → hJ h12 a i = hJ h a i := fun a i na nb => by rw [u12, r_J, if_neg (fun z => nb z.1), J8 a i na]
      have I12 : ∀ a i, hI h12 a i = hI h8 a i := fun a i => by rw [u12]; rfl
      have cnt : (hI h12 (V 11) 8).toInt = (n : Int) + 1 := by rw [I12, u8, rI_s, ta (by rw [tn, z1]; omega), tn, z1]
      have w51 : (hI h12 (V 51) n).toInt = (x3.toNatClampNeg : Int) + 64 * x4.toInt + 4096 * x5.toInt := by
        rw [I12, u8, rI_a (vne D), u7]
        show (hI h4 (V 51) n).toInt = _
        rw [u4, rI_s, o2]; omega
      have w51' : ∀ w, ¬ w = n → hI h12 (V 51) w = hI h (V 51) w := fun w nw => by
        rw [I12, u8, rI_a (vne D), u7]
        show hI h4 (V 51) w = _
        rw [u4, rI_o nw]
      have j52 : ∀ w, hJ h12 (V 52) w = if w = n then x6 else hJ h (V 52) w := fun w => by
        rw [u12, r_J, if_neg (fun z => (vne D : ¬ V 52 = V 53) z.1), u8]
        show hJ h7 (V 52) w = _
        rw [u7, r_J]
        by_cases c : w = n
        · rw [if_pos ⟨rfl, c⟩, if_pos c]
        · rw [if_neg (fun z => c z.2), if_neg c, u4]; rfl
      have j53 : ∀ x q, bitJ (hJ h12 (V 53) x) q = (bitJ (hJ h (V 53) x) q || (decide (x = x1.toNatClampNeg * 64 + x3.toNatClampNeg) && decide (x2.toNatClampNeg = q))) := fun x q => by
        rw [u12, r_J]
        by_cases c : x = x1.toNatClampNeg * 64 + x3.toNatClampNeg
        · rw [if_pos ⟨rfl, c⟩, bj_or, bj_one ii2, c, decide_eq_true rfl, Bool.true_and]
        · rw [if_neg (fun z => c z.2), J8 _ _ (vne D), decide_eq_false c, Bool.false_and, Bool.or_false]
      have b52 : ∀ {g : Hp}, (∀ w, hJ g (V 52) w = hJ h12 (V 52) w) → ∀ q, q < 64 → (bitJ (hJ g (V 52) n) q = true ↔ ∃ j : Nat, 1 ≤ j ∧ (j : Int) < x5.toInt ∧ (q : Int) = (x2.toNatClampNeg : Int) + j * x8.toInt) := fun {g} hg q hq => by
        rw [hg, j52, if_pos rfl, bits q hq, c2]
      have fb := (fb_e i4).1
      rcases br_s e with ⟨c, e⟩ | ⟨c, e⟩
      · replace e := ce_e (show hR h12 (V 11) 4 = some (V 54) by rw [u12]; exact (R8 _ _).trans wc.2.2.2.2.1) e
        replace e := gg_e e
        replace e := gg_e e
        replace e := nm_s e; obtain ⟨h17, u17, e⟩ := e
        rw [ix, J12 _ _ (vne D) (vne D)] at u17
        rw [so_e e]
        have J17 : ∀ a i, ¬ a = V 54 → hJ h17 a i = hJ h12 a i := fun a i na => by rw [u17, r_J, if_neg (fun z => na z.1)]
        have I17 : ∀ a i, hI h17 a i = hI h12 a i := fun a i => by rw [u17]; rfl
        refine ⟨fv_t A12 (by rw [u17]; exact fv_j (wl_9 (by decide))), by rw [I17]; exact cnt, by rw [I17]; exact w51, fun w nw => by rw [I17]; exact w51' w nw, fun w nw => by rw [J17 _ _ (vne D), j52, if_neg nw], b52 (fun w => J17 _ _ (vne D)), fun x q => by rw [J17 _ _ (vne D)]; exact j53 x q, fun x q => ?_⟩
        rw [fb.mp c, u17, r_J]
        by_cases c' : x = x1.toNatClampNeg * 64 + x3.toNatClampNeg
        · rw [if_pos ⟨rfl, c'⟩, bj_or, bj_one ii2, c', decide_eq_true rfl]
          simp
        · rw [if_neg (fun z => c' z.2), J12 _ _ (vne D) (vne D), decide_eq_false c']
          simp
      · rw [so_e e]
        have ft : fbt x4.toInt 0 = true := by
          cases y : fbt x4.toInt 0 with
          | true => rfl
          | false => exact absurd (fb.mpr y) c
        refine ⟨A12, cnt, w51, w51', fun w nw => by rw [j52, if_neg nw], b52 (fun w => rfl), j53, fun x q => ?_⟩
        rw [J12 _ _ (vne D) (vne D), ft]
        simp
theorem aw_q (D : VD V) (wc : WCf V h) {x1 x2 x3 x4 x5 : Int32} {n : Nat} {st : Int} (ec : hI h (V 11) 8 = nI n) (hn : n < 172032) (i1 : 0 ≤ x1.toInt ∧ x1.toInt ≤ 23) (i2 : 0 ≤ x2.toInt ∧ x2.toInt < 64) (i3 : 0 ≤ x3.toInt ∧ x3.toInt < 64) (i4 : Rg 0 63 x4) (i5 : 1 ≤ x5.toInt ∧ x5.toInt ≤ 7) (es : x3.toInt - x2.toInt = x5.toInt * st) (on : ∀ j : Int, 1 ≤ j → j < x5.toInt → 0 ≤ x2.toInt + j * st ∧ x2.toInt + j * st < 64) (e : sX10_addWay F h (V 11) x1 x2 x3 x4 x5 = some o) : AwP V h o n x1.toNatClampNeg x2.toNatClampNeg x3.toNatClampNeg x4.toInt x5.toInt st := by
  have z0 : (0 : Int32).toInt = 0 := rfl
  have z1 : (1 : Int32).toInt = 1 := rfl
  have zc : (172032 : Int32).toInt = 172032 := rfl
  have tn : (nI n).toInt = (n : Int) := z_toInt (by omega)
  unfold sX10_addWay sX10_addWay_28 at e
  replace e := bp_e (by rw [ec]; exact ii_lt.mpr (by rw [tn, zc]; omega)) e
  replace e := bn_e (fun z => by have := le_i z; rw [z0] at this; omega) e
  replace e := gg_e e
  have td' : ((x3 - x2) / x5).toInt = st := by
    have t : (x3 - x2).toInt = x5.toInt * st := by rw [ts (by omega), es]
    rw [Int32.toInt_div_of_ne_right _ _ (fun z => by
      have : x5.toInt = -1 := by rw [z]; decide
      omega), t, Int.mul_tdiv_cancel_left _ (by omega)]
  have sb : -64 ≤ st ∧ st ≤ 64 := by
    have h1 : -64 < x5.toInt * st ∧ x5.toInt * st < 64 := by omega
    by_cases c : 0 ≤ st
    · have := Int.mul_le_mul_of_nonneg_right i5.1 c
      omega
    · have := Int.mul_le_mul_of_nonpos_right i5.1 (show st ≤ 0 by omega)
      omega
  have r := awy_33 D wc (x8 := (x3 - x2) / x5) ec hn i1 i2 i3 i4 i5 (by rw [td']; exact sb) (fun j a b => by rw [td']; exact on j a b) F (x6 := 0) (x9 := 1) (by decide) (by rw [z1]; exact i5.1) (fun q hq => ⟨fun z => by rw [bj_zero] at z; exact absurd z (by decide), fun ⟨j, a, b, _⟩ => by rw [z1] at b; omega⟩) e
  rw [td'] at r
  exact r
end
