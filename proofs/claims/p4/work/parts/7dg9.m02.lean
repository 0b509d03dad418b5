section
/-! squares of the hill -/
theorem bj_1 (s : Nat) : bitJ (1 : Int64) s = decide (0 = s) := by
  have e : (1 : Int64) <<< ((0 : Int32).toInt64 &&& 63) = 1 := by decide
  have b := bj_one (x := (0 : Int32)) ⟨by decide, by decide⟩ s
  rw [e] at b
  exact b
theorem and_1 {y : Int64} (b : bitJ y 0 = true) : y &&& (1 : Int64) = 1 := by
  apply Int64.toBitVec_inj.mp
  apply BitVec.eq_of_getLsbD_eq
  intro i _
  show bitJ (y &&& 1) i = bitJ 1 i
  rw [bj_and, bj_1]
  by_cases z : 0 = i
  · rw [← z, b]; rfl
  · rw [decide_eq_false z, Bool.and_false]
theorem crt_le (a : Int64) : ∀ n, cRt a n ≤ n
  | 0 => Nat.le_refl 0
  | n + 1 => by
    have := crt_le a n
    show cRt a n + (if bitJ a n then 1 else 0) ≤ n + 1
    split <;> omega
theorem crt_set {a : Int64} {x : Int32} (i : Rg 0 63 x) (b : bitJ a x.toNatClampNeg = false) : ∀ n, cRt (a ||| ((1 : Int64) <<< (x.toInt64 &&& 63))) n = cRt a n + (if x.toNatClampNeg < n then 1 else 0)
  | 0 => by rw [if_neg (by omega)]; rfl
  | n + 1 => by
    show cRt (a ||| ((1 : Int64) <<< (x.toInt64 &&& 63))) n + (if bitJ (a ||| ((1 : Int64) <<< (x.toInt64 &&& 63))) n then 1 else 0) = cRt a n + (if bitJ a n then 1 else 0) + _
    rw [crt_set i b n, bj_or, bj_one i]
    by_cases e : x.toNatClampNeg = n
    · rw [← e, b, if_neg (by omega : ¬ x.toNatClampNeg < x.toNatClampNeg), if_pos (by omega : x.toNatClampNeg < x.toNatClampNeg + 1), decide_eq_true rfl]
      rfl
    · rw [decide_eq_false e, Bool.or_false]
      by_cases l : x.toNatClampNeg < n
      · rw [if_pos l, if_pos (show x.toNatClampNeg < n + 1 by omega)]; omega
      · rw [if_neg l, if_neg (show ¬ x.toNatClampNeg < n + 1 by omega)]; omega
section
variable {T : Nat → Int} {N : Int} {F : Nat} {Z : Nat → Nat} {x2 : Int32} {hc hr oc or hc1 : Hp} {x : Int32} {o o' : Int32 × Hp}
/-- both note a square of the hill -/
theorem pb_h (D : ZD Z) {v : Int64} (g : ¬ (hI hc (Z 3) 6) &&& (128 : Int32) = 0) (P : PB T N Z hc hr) : PB T N Z (wJ hc (Z 2) 13 v) (wJ hr (Z 15) 21 v) := by
  obtain ⟨⟨p1, p2, p3, p4, s1, s2, s3, s4, s5, s6, s7, s8, s9⟩, q⟩ := P
  exact ⟨⟨p1, p2, p3, p4, s1, s2, by rw [r_J, r_J, if_pos ⟨rfl, rfl⟩, if_pos ⟨rfl, rfl⟩], s4, s5, s6, s7, s8, s9.1, fun z => absurd z g, s9.2.2⟩, q⟩
/-- one square more -/
theorem hi_st (n12 : N ≤ 1200) (dg : ∀ j : Nat, (j : Int) < N → 0 ≤ T j ∧ T j ≤ 255) (D : ZD Z) (n2 : x2.toInt = N) {k2 : Hp → Nat → Int32 → Option (Int32 × Hp)} {k8 : Hp → Nat → Nat → Int32 → Int32 → Option (Int32 × Hp)} {i : Int32} (P : PS T N Z hc hr) (ht : ¬ (hI hc (Z 3) 6) &&& (128 : Int32) = 0) (e : sX2_takeHill_20 F k2 hc (Z 3) i = some o) (e' : sX15_isHill_22 F k8 hr (Z 16) (Z 82) x2 = some o') : Out T N Z o o' ∨ ∃ oc or : Hp, PS T N Z oc or ∧ hI oc (Z 3) 6 = hI hc (Z 3) 6 ∧ cRt (hJ oc (Z 2) 13) 64 = cRt (hJ hc (Z 2) 13) 64 + 1 ∧ k2 oc (Z 3) (i + (1 : Int32)) = some o ∧ k8 or (Z 16) (Z 82) x2 (1 : Int32) = some o' := by
  have z1 : (1 : Int32).toInt = 1 := rfl
  have z97 : (97 : Int32).toInt = 97 := rfl
  unfold sX2_takeHill_20 sX2_takeHill_44 at e
  unfold sX15_isHill_22 sX15_isHill_62 sX15_isHill_128 at e'
  replace e := cl_s e
  obtain ⟨o1, e1, e⟩ := e
  obtain ⟨q1, v1⟩ := one_r n12 (ps_m P) e1
  rw [q1] at e
  have f0 : hI hc (Z 2) 0 = hI hr (Z 15) 0 := P.2.2.2.2.2.2.1 (0, 0) (by decide)
  rcases v1 with ⟨v1, n1⟩ | ⟨v1, ⟨k1, l1⟩, y1, rg1⟩
  · replace e := br_s e
    rcases e with ⟨_, e⟩ | ⟨nb, _⟩
    rotate_left
    · exact absurd v1 nb
    left
    replace e' := br_s e'
    rcases e' with ⟨k, e'⟩ | ⟨k, e'⟩
    · replace e' := br_s e'
      rcases e' with ⟨l, e'⟩ | ⟨l, e'⟩
      · exact absurd ⟨k, l⟩ n1
      · rw [← Option.some.inj e, ← Option.some.inj e']; exact out_0 P
    · rw [← Option.some.inj e, ← Option.some.inj e']; exact out_0 P
  replace e := br_s e
  rcases e with ⟨nb, _⟩ | ⟨_, e⟩
  · exact absurd nb v1
  replace e' := br_s e'
  rcases e' with ⟨_, e'⟩ | ⟨k, _⟩
  rotate_left
  · exact absurd k1 k
  replace e' := br_s e'
  rcases e' with ⟨_, e'⟩ | ⟨l, _⟩
  rotate_left
  · exact absurd l1 l
  replace e' := (gd_s e').2
  replace e' := cl_s e'
  obtain ⟨r4, e4, e'⟩ := e'
  have y4 : r4 = Z 15 := r_eq P.2.1.1 e4
  rw [y4, ← y1, ← f0] at e'
  replace e := cl_s e
  obtain ⟨r3, e3, e⟩ := e
  have y3 : r3 = Z 2 := r_eq P.1.2.1 e3
  rw [y3] at e
  replace e := br_s e
  replace e' := br_s e'
  rcases e with ⟨lf, e⟩ | ⟨lf, e⟩
  rotate_left
  · rcases e' with ⟨lf', _⟩ | ⟨_, e'⟩
    · exact absurd lf' lf
    · left; rw [← Option.some.inj e, ← Option.some.inj e']; exact out_0 P
  rcases e' with ⟨_, e'⟩ | ⟨lf', _⟩
  rotate_left
  · exact absurd lf lf'
  have lf := lt_i lf
  have l97 : (o1.1 - (97 : Int32)).toInt = o1.1.toInt - 97 := by rw [ts (by rw [z97]; have := rg1.1; have := rg1.2; omega), z97]
  rw [l97] at lf
  replace e' := (gd_s e').2
  replace e' := nm_s e'
  obtain ⟨v7, w7, e'⟩ := e'
  replace e := cl_s e
  obtain ⟨hc5, e5, e⟩ := e
  replace e' := cl_s e'
  obtain ⟨hr8, e8, e'⟩ := e'
  have PB0 := ps_b P
  have P5 := ps_a n12 dg D n2 PB0.1 PB0.2 e5 e8
  have Kc := (adv_k n12 dg P.2.2.1 PB0.2.2.1 PB0.2.2.2 e5).1
  have g0 : hI hc5 (Z 2) 0 = hI hr8 (Z 15) 0 := P5.2.2.2.2.2.2.1 (0, 0) (by decide)
  have g1 : hI hc5 (Z 2) 1 = hI hr8 (Z 15) 1 := P5.2.2.2.2.2.2.1 (1, 1) (by decide)
  have hJe : hJ hc5 (Z 2) 13 = hJ hr8 (Z 15) 21 := P5.2.2.2.2.2.2.2.1
  have fE : hI hc5 (Z 2) 0 = hI hc (Z 2) 0 := Kc.2 _ _ (fun z => zn D z.1)
  replace e := cl_s e
  obtain ⟨r6, e6, e⟩ := e
  have y6 : r6 = Z 2 := r_eq P5.1.2.1 e6
  rw [y6] at e
  replace e := cl_s e
  obtain ⟨o7, e7, e⟩ := e
  replace e' := cl_s e'
  obtain ⟨r9, e9, e'⟩ := e'
  have y9 : r9 = Z 15 := r_eq P5.2.1.1 e9
  rw [y9, ← g1] at e'
  replace e' := cl_s e'
  obtain ⟨o10, e10, e'⟩ := e'
  obtain ⟨t1, t2, t3, t4⟩ := in_r P5.2.2.2.2.1 e7 e10
  rw [t1] at e
  rw [t2, ← t3] at e'
  replace e := br_s e
  replace e' := br_s e'
  rcases e with ⟨b, e⟩ | ⟨b, e⟩
  · rcases e' with ⟨_, e'⟩ | ⟨b', _⟩
    · left; rw [← Option.some.inj e, ← Option.some.inj e']; exact out_0 P5
    · exact absurd b b'
  rcases e' with ⟨b', _⟩ | ⟨_, e'⟩
  · exact absurd b' b
  obtain ⟨vv, vl1, vh1⟩ := t4 b
  rw [z1] at vl1
  have f8 : Rg 3 8 (hI hc5 (Z 2) 0) := P5.2.2.2.2.2.2.2.2.2.2.2.2.1.1
  have r8 : Rg 3 8 (hI hc5 (Z 2) 1) := P5.2.2.2.2.2.2.2.2.2.2.2.2.1.2.1
  have f8a := f8.1
  have f8b := f8.2
  have r8b := r8.2
  have g97 := rg1.1
  -- the square
  have s1 : ((hI hc5 (Z 3) 5) - (1 : Int32)).toInt = (hI hc5 (Z 3) 5).toInt - 1 := by rw [ts (by rw [z1]; omega), z1]
  have mb1 : 0 ≤ ((hI hc5 (Z 3) 5).toInt - 1) * (hI hc5 (Z 2) 0).toInt ∧ ((hI hc5 (Z 3) 5).toInt - 1) * (hI hc5 (Z 2) 0).toInt ≤ 7 * (hI hc5 (Z 2) 0).toInt := ⟨Int.mul_nonneg (by omega) (by omega), Int.mul_le_mul_of_nonneg_right (by omega) (by omega)⟩
  have m1 : (((hI hc5 (Z 3) 5) - (1 : Int32)) * (hI hc5 (Z 2) 0)).toInt = ((hI hc5 (Z 3) 5).toInt - 1) * (hI hc5 (Z 2) 0).toInt := by rw [tm (by rw [s1]; omega), s1]
  generalize hm : ((hI hc5 (Z 3) 5).toInt - 1) * (hI hc5 (Z 2) 0).toInt = mm at *
  rw [← fE] at lf
  have a1 : ((((hI hc5 (Z 3) 5) - (1 : Int32)) * (hI hc5 (Z 2) 0)) + o1.1).toInt = mm + o1.1.toInt := by rw [ta (by rw [m1]; omega), m1]
  have a2 : (((((hI hc5 (Z 3) 5) - (1 : Int32)) * (hI hc5 (Z 2) 0)) + o1.1) - (97 : Int32)).toInt = mm + o1.1.toInt - 97 := by rw [ts (by rw [a1, z97]; omega), a1, z97]
  have a3 : ((((hI hc5 (Z 3) 5) - (1 : Int32)) * (hI hc5 (Z 2) 0)) + (o1.1 - (97 : Int32))).toInt = mm + (o1.1.toInt - 97) := by rw [ta (by rw [m1, l97]; omega), m1, l97]
  have sq : ((((hI hc5 (Z 3) 5) - (1 : Int32)) * (hI hc5 (Z 2) 0)) + (o1.1 - (97 : Int32))) = (((((hI hc5 (Z 3) 5) - (1 : Int32)) * (hI hc5 (Z 2) 0)) + o1.1) - (97 : Int32)) := Int32.toInt_inj.mp (by rw [a2, a3]; omega)
  have is : Rg 0 63 (((((hI hc5 (Z 3) 5) - (1 : Int32)) * (hI hc5 (Z 2) 0)) + o1.1) - (97 : Int32)) := ⟨by omega, by omega⟩
  replace e := cl_s e
  obtain ⟨r9', e9', e⟩ := e
  have y9' : r9' = Z 2 := r_eq P5.1.2.1 e9'
  rw [y9'] at e
  replace e := nm_s e
  obtain ⟨v10, w10, e⟩ := e
  replace e := cl_s e
  obtain ⟨r11, e11, e⟩ := e
  have y11 : r11 = Z 2 := r_eq P5.1.2.1 e11
  rw [y11] at e
  replace e' := cl_s e'
  obtain ⟨r12, e12, e'⟩ := e'
  have y12 : r12 = Z 15 := r_eq P5.2.1.1 e12
  replace e' := cl_s e'
  obtain ⟨r13, e13, e'⟩ := e'
  have y13 : r13 = Z 15 := r_eq P5.2.1.1 e13
  rw [y12, y13, ← g0, ← vv, w7, sq, ← hJe] at e'
  rw [w10] at e
  generalize hx : (((((hI hc5 (Z 3) 5) - (1 : Int32)) * (hI hc5 (Z 2) 0)) + o1.1) - (97 : Int32)) = sx at *
  have nx := nc_i is.1
  replace e := br_s e
  replace e' := br_s e'
  rcases e with ⟨c, e⟩ | ⟨c, e⟩
  rotate_left
  · have bt := bit_at is (cmp0 c)
    rcases e' with ⟨_, e'⟩ | ⟨c', _⟩
    · left; rw [← Option.some.inj e, ← Option.some.inj e']; exact out_0 P5
    · refine absurd ?_ c'
      rw [and_1 (by rw [bit_shr is]; exact bt)]; decide
  have bf : bitJ (hJ hc5 (Z 2) 13) sx.toNatClampNeg = false := by
    cases z : bitJ (hJ hc5 (Z 2) 13) sx.toNatClampNeg with
    | false => rfl
    | true =>
      have y : bitJ ((hJ hc5 (Z 2) 13) &&& ((1 : Int64) <<< (sx.toInt64 &&& 63))) sx.toNatClampNeg = true := by rw [bj_and, bj_one is, z, decide_eq_true rfl]; rfl
      rw [cmp_eq c, bj_zero] at y
      exact absurd y (by decide)
  rcases e' with ⟨c', _⟩ | ⟨_, e'⟩
  · rw [bit_test is c'] at bf; exact absurd bf (by decide)
  replace e := cl_s e
  obtain ⟨r14, e14, e⟩ := e
  have y14 : r14 = Z 2 := r_eq P5.1.2.1 e14
  rw [y14] at e
  replace e := nm_s e
  obtain ⟨h14, w14, e⟩ := e
  replace e := cl_s e
  obtain ⟨o15, e15, e⟩ := e
  replace e := nm_s e
  obtain ⟨v16, w16, e⟩ := e
  replace e' := cl_s e'
  obtain ⟨r15, e15', e'⟩ := e'
  have y15 : r15 = Z 15 := r_eq P5.2.1.1 e15'
  replace e' := cl_s e'
  obtain ⟨r16, e16', e'⟩ := e'
  have y16 : r16 = Z 15 := r_eq P5.2.1.1 e16'
  rw [y15, y16, ← g0, sq, ← hJe] at e'
  replace e' := nm_s e'
  obtain ⟨h17, w17, e'⟩ := e'
  replace e' := cl_s e'
  obtain ⟨o18, e18, e'⟩ := e'
  have P14 : PB T N Z h14 h17 := by rw [w14, w17]; exact pb_h D (by rw [Kc.2 _ _ (fun z => by have := z.2.2; omega)]; exact ht) (ps_b P5)
  have P15 := ps_a n12 dg D n2 P14.1 P14.2 e15 e18
  have K15 := (adv_k n12 dg P14.1.2.2.1 P14.2.2.1 P14.2.2.2 e15).1
  right
  refine ⟨o15, o18, P15, ?_, ?_, by rw [← w16]; exact e, e'⟩
  · rw [K15.2 _ _ (fun z => by have := z.2.2; omega), w14]
    exact Kc.2 _ _ (fun z => by have := z.2.2; omega)
  have j15 : hJ o15 (Z 2) 13 = (hJ hc5 (Z 2) 13) ||| ((1 : Int64) <<< (sx.toInt64 &&& 63)) := by
    rw [K15.1.2, w14, r_J, if_pos ⟨rfl, rfl⟩]
  have j5 : hJ hc5 (Z 2) 13 = hJ hc (Z 2) 13 := Kc.1.2 _ _
  rw [j15, crt_set is bf 64, if_pos (by have := is.2; omega), j5]
theorem hi_2 (n12 : N ≤ 1200) (dg : ∀ j : Nat, (j : Int) < N → 0 ≤ T j ∧ T j ≤ 255) (D : ZD Z) (n2 : x2.toInt = N) : ∀ (f g : Nat) {hc hr : Hp} {i y : Int32}, PS T N Z hc hr → ¬ (hI hc (Z 3) 6) &&& (128 : Int32) = 0 → 0 ≤ i.toInt → (y = 0 ↔ i = 0) → (cRt (hJ hc (Z 2) 13) 64 : Int) = i.toInt → sX2_takeHill_2 F f hc (Z 3) i = some o → sX15_isHill_8 F g hr (Z 16) (Z 82) x2 y = some o' → Out2 T N Z o o' := by
  have z0 : (0 : Int32).toInt = 0 := rfl
  have z1 : (1 : Int32).toInt = 1 := rfl
  have z64 : (64 : Int32).toInt = 64 := rfl
  intro f
  induction f with
  | zero => intro g hc hr i y _ _ _ _ _ e; exact absurd e (by rw [sX2_takeHill_2]; exact fun z => nomatch z)
  | succ f ih =>
    intro g hc hr i y P ht i0 hy cn e e'
    cases g with
    | zero => exact absurd e' (by rw [sX15_isHill_8]; exact fun z => nomatch z)
    | succ g =>
      have cl := crt_le (hJ hc (Z 2) 13) 64
      rw [sX2_takeHill_2] at e
      rw [sX15_isHill_8] at e'
      replace e := br_s e
      rcases e with ⟨l, _⟩ | ⟨_, e⟩
      · have l := lt_i l; omega
      have more : sX2_takeHill_20 F (sX2_takeHill_2 F f) hc (Z 3) i = some o → sX15_isHill_22 F (sX15_isHill_8 F g) hr (Z 16) (Z 82) x2 = some o' → Out2 T N Z o o' := fun e e' => by
        rcases hi_st n12 dg D n2 P ht e e' with q | ⟨oc, or, P1, c6, c1, k1, k2⟩
        · exact Or.inl q
        · have ti : (i + (1 : Int32)).toInt = i.toInt + 1 := by rw [ta (by rw [z1]; omega), z1]
          refine ih g P1 (by rw [c6]; exact ht) (by omega) ⟨fun z => absurd z (by decide), fun z => ?_⟩ (by omega) k1 k2
          have : (i + (1 : Int32)).toInt = 0 := by rw [z]; rfl
          omega
      replace e := br_s e
      replace e' := br_s e'
      rcases e with ⟨b, e⟩ | ⟨b, e⟩
      · rcases e' with ⟨_, e'⟩ | ⟨b', _⟩
        · exact more e e'
        · exact absurd (hy.mpr b) b'
      rcases e' with ⟨b', _⟩ | ⟨_, e'⟩
      · exact absurd (hy.mp b') b
      replace e' := cl_s e'
      obtain ⟨o2, e2, e'⟩ := e'
      obtain ⟨q1, q2⟩ := sg_r P.2.2.1 P.2.2.2.1 P.2.2.2.2.1 (kd := 3) (Or.inl ⟨rfl, rfl⟩) e2
      rw [q1] at e'
      replace e := br_s e
      replace e' := br_s e'
      rcases e with ⟨k, e⟩ | ⟨k, e⟩
      · rcases e' with ⟨_, e'⟩ | ⟨s', _⟩
        · exact more e e'
        · refine absurd (q2.mpr ?_) s'
          rw [k]; decide
      unfold sX2_takeHill_128 at e
      rcases e' with ⟨s', e'⟩ | ⟨s', e'⟩
      · have nk := q2.mp s'
        have k' : ¬ hI hr (Z 16) 6 = (1 : Int32) := fun z => k ((kw_r (ps_m P)).mpr z)
        unfold sX15_isHill_22 sX15_isHill_62 at e'
        replace e' := br_s e'
        rcases e' with ⟨z, _⟩ | ⟨_, e'⟩
        · exact absurd z k'
        rw [← Option.some.inj e, ← Option.some.inj e']
        refine Or.inr ⟨i1n0, rfl, ps_fl P, fun z => nk ?_⟩
        have z : hI hc (Z 3) 4 = (3 : Int32) := z
        rw [z]; rfl
      · rw [← Option.some.inj e, ← Option.some.inj e']
        exact Or.inl (Or.inr ⟨i1n0, i1n0, P⟩)
end
end
section
/-! what men become -/
def LB (T : Nat → Int) (N : Int) (Z : Nat → Nat) (man : Int32) (i : Nat) (mine : Int32) (hc hr : Hp) : Prop := PS T N Z (wI hc (Z 31) man.toNatClampNeg 0) hr ∧ (0 ≤ man.toInt ∧ man.toInt < (hI hc (Z 2) 3).toInt) ∧ (hI hc (Z 31) man.toNatClampNeg).toInt = (i : Int) ∧ (∀ j : Nat, j < i → hI hc (Z 30) (6 * man.toNatClampNeg + j) = hI hr (Z 80) (6 * man.toNatClampNeg + j) ∧ Rg 0 11 (hI hr (Z 80) (6 * man.toNatClampNeg + j))) ∧ Rg 0 4095 mine ∧ ∀ q : Nat, q < 12 → (Bq mine q ↔ ∃ j : Nat, j < i ∧ (hI hr (Z 80) (6 * man.toNatClampNeg + j)).toInt = (q : Int))
section
variable {T : Nat → Int} {N : Int} {F : Nat} {Z : Nat → Nat} {x2 : Int32} {hc hr oc or hc1 : Hp} {x man mine : Int32} {o o' : Int32 × Hp} {i : Nat}
/-- lookups are as ever -/
theorem pm_w (D : ZD Z) {k : Nat} {v : Int32} (P : PS T N Z (wI hc (Z 31) k v) hr) : PMn T N Z hc hr := by
  obtain ⟨p1, p2, p3, p4, p5, s1, s2, s3, s4, s5, s6⟩ := P
  have w : ∀ {a : Nat}, a ∈ zl → ¬ a = 31 → ∀ j, hI (wI hc (Z 31) k v) (Z a) j = hI hc (Z a) j := fun ha n j => rI_a (zne D n ha)
  refine ⟨p1, p2, ?_, p4, ?_, ?_, ?_, fun j hj => ?_⟩
  · obtain ⟨a1, a2, a3, b, a4, a5, a6⟩ := p3
    have y : b = Z 49 := r_eq p1.2.2.1 a4
    rw [y] at a4 a5 a6
    refine ⟨a1, a2, ?_, Z 49, a4, a5, fun j hj => ?_⟩
    · rw [w (by decide) (by decide)] at a3; exact a3
    · have := a6 j hj
      rw [w (by decide) (by decide)] at this; exact this
  · obtain ⟨p', k', A, B', ek⟩ := p5
    rw [w (by decide) (by decide), w (by decide) (by decide), w (by decide) (by decide), w (by decide) (by decide)] at A
    exact ⟨p', k', A, B', ek⟩
  · have := s2 (3, 2) (by decide)
    rw [w (by decide) (by decide)] at this; exact this
  · rw [w (by decide) (by decide)] at s4; exact s4
  · have := s5 j (by rw [w (by decide) (by decide)]; exact hj)
    rw [w (by decide) (by decide)] at this; exact this
/-- the reference's look at those that stand already -/
theorem bk_0 {k62 : Hp → Nat → Nat → Int32 → Int32 → Int32 → Option (Int32 × Hp)} {x3 x4 x5 : Int32} : ∀ (f : Nat) {x7 : Int32}, sX15_isBecoming_138 F k62 f hr (Z 16) (Z 82) x2 x3 x4 x5 (0 : Int32) x7 = some o' → o' = ((0 : Int32), hr) := by
  intro f
  induction f with
  | zero => intro x7 e; exact absurd e (by rw [sX15_isBecoming_138]; exact fun z => nomatch z)
  | succ f ih =>
    intro x7 e
    rw [sX15_isBecoming_138] at e
    replace e := br_s e
    rcases e with ⟨_, e⟩ | ⟨_, e⟩
    · replace e := br_s e
      rcases e with ⟨_, e⟩ | ⟨n, _⟩
      · exact (Option.some.inj e).symm
      · exact absurd rfl n
    replace e := cl_s e
    obtain ⟨r9, _, e⟩ := e
    replace e := cl_s e
    obtain ⟨r10, _, e⟩ := e
    replace e := (gd_s e).2
    have go : ∀ {t0 : Int32}, sX15_isBecoming_172 F k62 (sX15_isBecoming_138 F k62 f) hr (Z 16) (Z 82) x2 x3 x4 x5 x7 t0 (0 : Int32) = some o' → o' = ((0 : Int32), hr) := fun {t0} e => by
      unfold sX15_isBecoming_172 at e
      replace e := nm_s e
      obtain ⟨v1, w1, e⟩ := e
      replace e := nm_s e
      obtain ⟨v2, _, e⟩ := e
      have z : v1 = 0 := by
        rw [w1]
        apply Int32.toBitVec_inj.mp
        rw [Int32.toBitVec_and]
        exact BitVec.zero_and
      rw [z] at e
      exact ih e
    replace e := br_s e
    rcases e with ⟨_, e⟩ | ⟨_, e⟩
    · exact go e
    · exact go e
theorem bk_1 (R : ZR Z hr) {k62 : Hp → Nat → Nat → Int32 → Int32 → Int32 → Option (Int32 × Hp)} {x3 x4 x5 : Int32} (x30 : 0 ≤ x3.toInt ∧ x3.toInt < 12) (x40 : 0 ≤ x4.toInt ∧ x4.toInt ≤ 6) : ∀ (f : Nat) {x7 : Int32}, 0 ≤ x7.toInt → x7.toInt ≤ x4.toInt → sX15_isBecoming_138 F k62 f hr (Z 16) (Z 82) x2 x3 x4 x5 (1 : Int32) x7 = some o' → (o' = ((0 : Int32), hr) ∧ ∃ j : Nat, x7.toInt ≤ (j : Int) ∧ (j : Int) < x4.toInt ∧ hI hr (Z 80) (6 * x3.toNatClampNeg + j) = x5) ∨ ((∀ j : Nat, x7.toInt ≤ (j : Int) → (j : Int) < x4.toInt → ¬ hI hr (Z 80) (6 * x3.toNatClampNeg + j) = x5) ∧ ∃ o8 : Hp, sX15_nextToken F (wI hr (Z 80) (6 * x3.toNatClampNeg + x4.toNatClampNeg) x5) (Z 16) (Z 82) x2 = some o8 ∧ k62 o8 (Z 16) (Z 82) x2 x3 (x4 + (1 : Int32)) = some o') := by
  have z1 : (1 : Int32).toInt = 1 := rfl
  have z6 : (6 : Int32).toInt = 6 := rfl
  have m6 : ((6 : Int32) * x3).toInt = 6 * x3.toInt := by rw [tm (by rw [z6]; omega), z6]
  have n3 := nc_i x30.1
  have n4 := nc_i x40.1
  intro f
  induction f with
  | zero => intro x7 _ _ e; exact absurd e (by rw [sX15_isBecoming_138]; exact fun z => nomatch z)
  | succ f ih =>
    intro x7 x70 x74 e
    rw [sX15_isBecoming_138] at e
    replace e := br_s e
    rcases e with ⟨l, e⟩ | ⟨l, e⟩
    · have l := le_i l
      replace e := br_s e
      rcases e with ⟨n, _⟩ | ⟨_, e⟩
      · exact absurd n (by decide)
      replace e := cl_s e
      obtain ⟨r3, e3, e⟩ := e
      rw [r_eq R.1 e3] at e
      replace e := cl_s e
      obtain ⟨r4, e4, e⟩ := e
      rw [r_eq R.2.2.2.2.2.2.2.2.1 e4] at e
      replace e := (gd_s e).2
      replace e := nm_s e
      obtain ⟨h6, w6, e⟩ := e
      replace e := nm_s e
      obtain ⟨v7, w7, e⟩ := e
      replace e := cl_s e
      obtain ⟨o8, e8, e⟩ := e
      have ad : (((6 : Int32) * x3) + x4).toInt = 6 * x3.toInt + x4.toInt := by rw [ta (by rw [m6]; omega), m6]
      have na := nc_i (x := ((6 : Int32) * x3) + x4) (by omega)
      have w : (((6 : Int32) * x3) + x4).toNatClampNeg = 6 * x3.toNatClampNeg + x4.toNatClampNeg := by omega
      rw [w6, w] at e8
      rw [w7] at e
      exact Or.inr ⟨fun j j1 j2 => by omega, o8, e8, e⟩
    have l := nle_i l
    replace e := cl_s e
    obtain ⟨r9, e9, e⟩ := e
    rw [r_eq R.1 e9] at e
    replace e := cl_s e
    obtain ⟨r10, e10, e⟩ := e
    rw [r_eq R.2.2.2.2.2.2.2.2.1 e10] at e
    replace e := (gd_s e).2
    have n7 := nc_i x70
    have ad : (((6 : Int32) * x3) + x7).toInt = 6 * x3.toInt + x7.toInt := by rw [ta (by rw [m6]; omega), m6]
    have na := nc_i (x := ((6 : Int32) * x3) + x7) (by omega)
    have w : (((6 : Int32) * x3) + x7).toNatClampNeg = 6 * x3.toNatClampNeg + x7.toNatClampNeg := by omega
    rw [w] at e
    replace e := br_s e
    rcases e with ⟨b, e⟩ | ⟨b, e⟩
    · unfold sX15_isBecoming_172 at e
      replace e := nm_s e
      obtain ⟨v1, w1, e⟩ := e
      replace e := nm_s e
      obtain ⟨v2, _, e⟩ := e
      have z : v1 = 0 := by rw [w1]; decide
      rw [z] at e
      exact Or.inl ⟨bk_0 f e, x7.toNatClampNeg, by omega, by omega, b⟩
    · unfold sX15_isBecoming_172 at e
      replace e := nm_s e
      obtain ⟨v1, w1, e⟩ := e
      replace e := nm_s e
      obtain ⟨v2, w2, e⟩ := e
      have z : v1 = 1 := by rw [w1]; decide
      rw [z] at e
      have t2 : v2.toInt = x7.toInt + 1 := by rw [w2, ta (by rw [z1]; omega), z1]
      rcases ih (by omega) (by omega) e with ⟨a1, j, a2, a3, a4⟩ | ⟨a1, a2⟩
      · exact Or.inl ⟨a1, j, by omega, a3, a4⟩
      · refine Or.inr ⟨fun j j1 j2 => ?_, a2⟩
        by_cases y : (j : Int) = x7.toInt
        · have yy : j = x7.toNatClampNeg := by omega
          rw [yy]; exact b
        · exact a1 j (by omega) j2
end
end
section
/-! one man more that he becomes -/
section
variable {T : Nat → Int} {N : Int} {F : Nat} {Z : Nat → Nat} {x2 : Int32} {hc hr oc or hc1 : Hp} {x man mine xi : Int32} {o o' : Int32 × Hp} {i : Nat}
theorem nI_c {y : Int32} (y0 : 0 ≤ y.toInt) (y12 : y.toInt < 12) : y = nI y.toNatClampNeg := Int32.toInt_inj.mp (by
  have := nc_i y0
  rw [z_toInt (by omega)]; omega)
theorem be_st (n12 : N ≤ 1200) (dg : ∀ j : Nat, (j : Int) < N → 0 ≤ T j ∧ T j ≤ 255) (D : ZD Z) (n2 : x2.toInt = N) {k60 : Hp → Nat → Int32 → Int32 → Int32 → Option (Int32 × Hp)} {k62 : Hp → Nat → Nat → Int32 → Int32 → Int32 → Option (Int32 × Hp)} (i6 : i < 6) (hx : xi.toInt = (i : Int)) (B : LB T N Z man i mine hc hr) (e : sX2_takeBecomes_78 F k60 hc (Z 3) man mine xi = some o) (e' : sX15_isBecoming_77 F k62 hr (Z 16) (Z 82) x2 man xi = some o') : Out T N Z o o' ∨ ∃ (oc or : Hp) (mine' : Int32), LB T N Z man (i + 1) mine' oc or ∧ k60 oc (Z 3) man mine' (xi + (1 : Int32)) = some o ∧ k62 or (Z 16) (Z 82) x2 man (xi + (1 : Int32)) = some o' := by
  have z1 : (1 : Int32).toInt = 1 := rfl
  have z6 : (6 : Int32).toInt = 6 := rfl
  obtain ⟨P, hm, ci, bj, rm, mb⟩ := B
  have M := pm_w D P
  have fl : Fl2 Z hc hr := (ts_f M.2.2.2.2.1).1
  have m12 := M.2.2.2.2.2.2.1.2
  have nm := nc_i hm.1
  have w31 : ∀ {a : Nat}, a ∈ zl → ¬ a = 31 → ∀ j, hI (wI hc (Z 31) man.toNatClampNeg 0) (Z a) j = hI hc (Z a) j := fun ha n j => rI_a (zne D n ha)
  have no : ∀ {y : Int32}, sX15_isBecoming_138 F k62 F hr (Z 16) (Z 82) x2 man xi y (0 : Int32) (0 : Int32) = some o' → some ((0 : Int32), hc) = some o → Out T N Z o o' := fun {y} e' e => by
    have q := bk_0 F e'
    rw [← Option.some.inj e, q]
    exact Or.inl ⟨rfl, rfl, fl⟩
  unfold sX2_takeBecomes_78 sX2_takeBecomes_108 sX2_takeBecomes_131 at e
  unfold sX15_isBecoming_77 sX15_isBecoming_132 sX15_isBecoming_133 at e'
  replace e := cl_s e
  obtain ⟨o1, e1, e⟩ := e
  replace e' := cl_s e'
  obtain ⟨o2, e2, e'⟩ := e'
  obtain ⟨q1, q2, q3, q4⟩ := tm_r n12 M e1 e2
  rw [q1] at e
  rw [q2, ← q3] at e'
  replace e := br_s e
  replace e' := br_s e'
  rcases e with ⟨b, e⟩ | ⟨b, e⟩
  · rcases e' with ⟨_, e'⟩ | ⟨b', _⟩
    · exact Or.inl (no e' e)
    · exact absurd b b'
  rcases e' with ⟨b', _⟩ | ⟨_, e'⟩
  · exact absurd b' b
  have q4 := q4.resolve_left b
  have nx := nc_i q4.1
  replace e := br_s e
  replace e' := br_s e'
  rcases e with ⟨c, e⟩ | ⟨c, e⟩
  · rcases e' with ⟨_, e'⟩ | ⟨c', _⟩
    · exact Or.inl (no e' e)
    · exact absurd c c'
  rcases e' with ⟨c', _⟩ | ⟨_, e'⟩
  · exact absurd c' c
  have nem : ¬ o1.1.toNatClampNeg = man.toNatClampNeg := fun z => c (Int32.toInt_inj.mp (by omega))
  replace e := cl_s e
  obtain ⟨r4, e4, e⟩ := e
  rw [r_eq M.1.2.1 e4] at e
  replace e' := cl_s e'
  obtain ⟨r4', e4', e'⟩ := e'
  rw [r_eq M.2.1.1 e4'] at e'
  have ry : hI hc (Z 2) 4 = hI hr (Z 15) 10 := by
    have := P.2.2.2.2.2.2.1 (4, 10) (by decide)
    rw [w31 (by decide) (by decide)] at this; exact this
  rw [← ry] at e'
  replace e := br_s e
  replace e' := br_s e'
  rcases e with ⟨d, e⟩ | ⟨d, e⟩
  · rcases e' with ⟨_, e'⟩ | ⟨d', _⟩
    · exact Or.inl (no e' e)
    · exact absurd d d'
  rcases e' with ⟨d', _⟩ | ⟨_, e'⟩
  · exact absurd d' d
  replace e := cl_s e
  obtain ⟨r6, e6, e⟩ := e
  rw [r_eq M.1.2.1 e6] at e
  replace e := cl_s e
  obtain ⟨o7, e7, e⟩ := e
  obtain ⟨u1, u2⟩ := bo_q M.1 q4.1 (by omega) e7
  rw [u1] at e
  replace e' := cl_s e'
  obtain ⟨r6', e6', e'⟩ := e'
  rw [r_eq M.2.1.1 e6'] at e'
  replace e' := cl_s e'
  obtain ⟨r7', e7', e'⟩ := e'
  rw [r_eq M.2.1.2.2.2.2.2.2.2.2.2 e7'] at e'
  replace e' := (gd_s e').2
  obtain ⟨l2a, l2b, l2c⟩ := P.2.2.2.2.2.2.2.2.2.2.1 o1.1.toNatClampNeg (by omega)
  have ke : hI (wI hc (Z 31) man.toNatClampNeg 0) (Z 31) o1.1.toNatClampNeg = hI hc (Z 31) o1.1.toNatClampNeg := rI_o nem
  rw [ke] at l2a l2b
  have k0 := l2b.1
  have z0 : (0 : Int32).toInt = 0 := rfl
  replace e := br_s e
  replace e' := br_s e'
  rcases e with ⟨v, e⟩ | ⟨v, e⟩
  rotate_left
  · rcases e' with ⟨v', _⟩ | ⟨_, e'⟩
    · refine absurd (u2.mpr ?_) v
      rw [l2a, v']; exact Int.le_refl 0
    · exact Or.inl (no e' e)
  have cz : hI hr (Z 81) o1.1.toNatClampNeg = 0 := by
    rw [← l2a]
    exact Int32.toInt_inj.mp (by rw [z0]; have := u2.mp v; omega)
  rcases e' with ⟨_, e'⟩ | ⟨v', _⟩
  rotate_left
  · exact absurd cz v'
  replace e' := br_s e'
  rcases e' with ⟨l6, _⟩ | ⟨_, e'⟩
  · have l6 := le_i l6; omega
  have oe := nI_c q4.1 (by omega)
  have mbo := mb o1.1.toNatClampNeg (by omega)
  unfold Bq at mbo
  rw [← oe] at mbo
  have bk := bk_1 M.2.1 ⟨hm.1, by omega⟩ ⟨by omega, by omega⟩ F (show (0 : Int) ≤ (0 : Int32).toInt by decide) (by rw [z0]; omega) e'
  replace e := br_s e
  rcases e with ⟨f1, e⟩ | ⟨f1, e⟩
  rotate_left
  · obtain ⟨j, j1, j2⟩ := mbo.mp ((b01 _).resolve_left f1)
    rcases bk with ⟨a1, _⟩ | ⟨a1, _⟩
    · rw [← Option.some.inj e, a1]
      exact Or.inl (Or.inl ⟨rfl, rfl, fl⟩)
    · refine absurd (Int32.toInt_inj.mp ?_) (a1 j (by rw [z0]; omega) (by omega))
      rw [j2]; omega
  rcases bk with ⟨_, j, _, j2, j3⟩ | ⟨a1, hr8, e8, e'⟩
  · have := mbo.mpr ⟨j, by omega, by rw [j3]; omega⟩
    rw [f1] at this
    exact absurd this (by decide)
  -- both note him
  right
  have nxi := nc_i (x := xi) (by omega)
  have xin : xi.toNatClampNeg = i := by omega
  rw [xin] at e8
  replace e := nm_s e
  obtain ⟨v10, w10, e⟩ := e
  replace e := cl_s e
  obtain ⟨r11, e11, e⟩ := e
  rw [r_eq M.1.2.1 e11] at e
  replace e := cl_s e
  obtain ⟨r12, e12, e⟩ := e
  rw [r_eq M.1.2.2.2.2.2.2.1 e12] at e
  replace e := (gd_s e).2
  replace e := nm_s e
  obtain ⟨h14, w14, e⟩ := e
  replace e := cl_s e
  obtain ⟨r15, e15, e⟩ := e
  have y15 : r15 = Z 2 := r_eq M.1.2.1 (by rw [w14] at e15; exact e15)
  rw [y15] at e
  replace e := cl_s e
  obtain ⟨r16, e16, e⟩ := e
  have y16 : r16 = Z 31 := r_eq M.1.2.2.2.2.2.2.2 (by rw [w14] at e16; exact e16)
  rw [y16] at e
  replace e := (gd_s e).2
  replace e := nm_s e
  obtain ⟨h18, w18, e⟩ := e
  replace e := cl_s e
  obtain ⟨o19, e19, e⟩ := e
  replace e := nm_s e
  obtain ⟨v20, w20, e⟩ := e
  have m6 : (man * (6 : Int32)).toInt = man.toInt * 6 := by rw [tm (by rw [z6]; omega), z6]
  have ad : ((man * (6 : Int32)) + xi).toInt = man.toInt * 6 + xi.toInt := by rw [ta (by rw [m6]; omega), m6]
  have na := nc_i (x := (man * (6 : Int32)) + xi) (by omega)
  have wp : ((man * (6 : Int32)) + xi).toNatClampNeg = 6 * man.toNatClampNeg + i := by omega
  rw [wp] at w14
  -- the class's heap with his count taken off
  have hq : ∀ a j, hI (wI h18 (Z 31) man.toNatClampNeg 0) a j = hI (wI (wI hc (Z 31) man.toNatClampNeg 0) (Z 30) (6 * man.toNatClampNeg + i) o1.1) a j := fun a j => by
    rw [w18, w14]
    simp only [r_I]
    by_cases y1 : a = Z 31 ∧ j = man.toNatClampNeg
    · have y2 : ¬ (a = Z 30 ∧ j = 6 * man.toNatClampNeg + i) := fun z => zn D (i := 31) (j := 30) (y1.1.symm.trans z.1)
      rw [if_pos y1, if_neg y2, if_pos y1]
    · rw [if_neg y1, if_neg y1]
      by_cases y2 : a = Z 30 ∧ j = 6 * man.toNatClampNeg + i
      · rw [if_pos y2, if_pos y2]
      · rw [if_neg y2, if_neg y2, if_neg y1]
  have P18 : PB T N Z (wI h18 (Z 31) man.toNatClampNeg 0) (wI hr (Z 80) (6 * man.toNatClampNeg + i) o1.1) := by
    obtain ⟨⟨p1, p2, p3, p4, s1, s2, s3, s4, s5, s6, s7, s8, s9⟩, c1, c2, c3⟩ := ps_b P
    have wc : ∀ {a : Nat}, a ∈ zl → ¬ a = 30 → ∀ j, hI (wI h18 (Z 31) man.toNatClampNeg 0) (Z a) j = hI (wI hc (Z 31) man.toNatClampNeg 0) (Z a) j := fun ha n j => by rw [hq]; exact rI_a (zne D n ha)
    have wr : ∀ {a : Nat}, a ∈ zl → ¬ a = 80 → ∀ j, hI (wI hr (Z 80) (6 * man.toNatClampNeg + i) o1.1) (Z a) j = hI hr (Z a) j := fun ha n j => rI_a (zne D n ha)
    have RR : ∀ a j, hR (wI h18 (Z 31) man.toNatClampNeg 0) a j = hR (wI hc (Z 31) man.toNatClampNeg 0) a j := fun a j => by rw [w18, w14]; rfl
    have JJ : hJ (wI h18 (Z 31) man.toNatClampNeg 0) (Z 2) 13 = hJ (wI hc (Z 31) man.toNatClampNeg 0) (Z 2) 13 := by rw [w18, w14]; rfl
    refine ⟨⟨zc_k p1 RR, p2, ?_, rt_w (zne D) p4, ?_⟩, ?_⟩
    · obtain ⟨a1, a2, a3, b', a4, a5, a6⟩ := p3
      have y : b' = Z 49 := r_eq p1.2.2.1 a4
      rw [y] at a4 a5 a6
      exact ⟨by rw [RR]; exact a1, a2, by rw [wc (by decide) (by decide)]; exact a3, Z 49, by rw [RR]; exact a4, a5, fun j hj => by rw [wc (by decide) (by decide)]; exact a6 j hj⟩
    · refine ⟨by rw [wc (by decide) (by decide), wr (by decide) (by decide)]; exact s1, fun p hp => by rw [wc (by decide) (by decide), wr (by decide) (by decide)]; exact s2 p hp, by rw [JJ]; exact s3, by rw [wc (by decide) (by decide)]; exact s4, fun j hj => ?_, fun q hq' => ?_, ⟨by rw [wc (by decide) (by decide)]; exact s7.1, fun q hq' => ?_⟩, by rw [wc (by decide) (by decide), wc (by decide) (by decide), wc (by decide) (by decide), wc (by decide) (by decide)]; exact s8, by rw [wc (by decide) (by decide), wc (by decide) (by decide)]; exact s9.1, by rw [wc (by decide) (by decide), JJ]; exact s9.2.1, fun q h1 h2 => by rw [wr (by decide) (by decide)] at h1; rw [wr (by decide) (by decide), wr (by decide) (by decide)]; exact s9.2.2.1 q h1 h2, by rw [wc (by decide) (by decide)]; exact s9.2.2.2⟩
      · rw [wc (by decide) (by decide)] at hj
        rw [wc (by decide) (by decide), wr (by decide) (by decide)]; exact s5 j hj
      · rw [wc (by decide) (by decide), wr (by decide) (by decide)]
        refine ⟨(s6 q hq').1, (s6 q hq').2.1, fun j hj => ?_⟩
        have j6 := (s6 q hq').2.1.2
        have ne : ¬ 6 * q + j = 6 * man.toNatClampNeg + i := fun z => by
          have qm : q = man.toNatClampNeg := by omega
          rw [qm, rI_s, z0] at hj
          omega
        rw [hq, rI_o ne, rI_o ne]
        exact (s6 q hq').2.2 j hj
      · rw [wc (by decide) (by decide), s7.2 q hq']
        have same : ∀ p j : Nat, (p : Int) < (hI hr (Z 15) 2).toInt → (j : Int) < (hI hr (Z 81) p).toInt → hI (wI hr (Z 80) (6 * man.toNatClampNeg + i) o1.1) (Z 80) (6 * p + j) = hI hr (Z 80) (6 * p + j) := fun p j hp hj => by
          have p12 : p < 12 := by
            have := s2 (3, 2) (by decide)
            rw [← this] at hp
            dsimp only at hp
            have := s4.2
            omega
          have j6 := (s6 p p12).2.1.2
          rw [(s6 p p12).1] at j6
          refine rI_o (fun z => ?_)
          have pm : p = man.toNatClampNeg := by omega
          have := (s6 p p12).1
          rw [pm, rI_s] at this
          rw [pm, ← this, z0] at hj
          omega
        constructor
        · rintro ⟨p, j, a, b', c'⟩
          exact ⟨p, j, by rw [wr (by decide) (by decide)]; exact a, by rw [wr (by decide) (by decide)]; exact b', by rw [same p j a b']; exact c'⟩
        · rintro ⟨p, j, a, b', c'⟩
          rw [wr (by decide) (by decide)] at a b'
          rw [same p j a b'] at c'
          exact ⟨p, j, a, b', c'⟩
    · rw [wc (by decide) (by decide), wr (by decide) (by decide)]
      exact ⟨c1, c2, c3⟩
  obtain ⟨P19, K19, R19⟩ := ps_aw n12 dg D n2 (k := 31) (by decide) (by decide) (by decide) (by decide) P18 e19 e8
  refine ⟨o19, hr8, v10, ⟨P19, ?_, ?_, fun j hj => ?_, ?_, fun q hq' => ?_⟩, by rw [← w20]; exact e, e'⟩
  · have : hI o19 (Z 2) 3 = hI hc (Z 2) 3 := by
      rw [K19.2 _ _ (fun z => zn D z.1), w18, rI_a (zne D), w14, rI_a (zne D)]
    rw [this]; exact hm
  · rw [K19.2 _ _ (fun z => zn D z.1), w18, rI_s, ta (by rw [z1]; omega), z1, hx]; omega
  · have cj : hI o19 (Z 30) (6 * man.toNatClampNeg + j) = hI h14 (Z 30) (6 * man.toNatClampNeg + j) := by
      rw [K19.2 _ _ (fun z => zn D z.1), w18, rI_a (zne D)]
    have rj : hI hr8 (Z 80) (6 * man.toNatClampNeg + j) = hI (wI hr (Z 80) (6 * man.toNatClampNeg + i) o1.1) (Z 80) (6 * man.toNatClampNeg + j) := R19.2 _ _ (fun z => zn D z.1)
    rw [cj, rj, w14]
    by_cases y : j = i
    · rw [y, rI_s, rI_s]
      exact ⟨rfl, q4.1, by omega⟩
    · rw [rI_o (by omega), rI_o (by omega)]
      exact bj j (by omega)
  · rw [w10]
    exact rg_or (n := 12) rm (rg_shl (b := 1) (n := 11) (hi := 2048) (rg_b rfl) ⟨q4.1, by omega⟩ (by decide)) (by decide)
  · have rj : ∀ j, hI hr8 (Z 80) (6 * man.toNatClampNeg + j) = hI (wI hr (Z 80) (6 * man.toNatClampNeg + i) o1.1) (Z 80) (6 * man.toNatClampNeg + j) := fun j => R19.2 _ _ (fun z => zn D z.1)
    have bo := bit_o (x := mine) (q := o1.1.toNatClampNeg) (r := q) (by omega) hq'
    rw [← oe] at bo
    have mq := mb q hq'
    unfold Bq at mq ⊢
    rw [w10, bo]
    by_cases y : o1.1.toNatClampNeg = q
    · rw [if_pos y]
      constructor
      · intro _
        exact ⟨i, by omega, by rw [rj, rI_s]; omega⟩
      · intro _
        rcases b01 (mine >>> ((nI q) &&& 31)) with z | z <;> (rw [z]; decide)
    · rw [if_neg y, or_0, mq]
      constructor
      · rintro ⟨j, j1, j2⟩
        exact ⟨j, by omega, by rw [rj, rI_o (by omega)]; exact j2⟩
      · rintro ⟨j, j1, j2⟩
        rw [rj] at j2
        by_cases yj : j = i
        · rw [yj, rI_s] at j2; omega
        · rw [rI_o (by omega)] at j2
          exact ⟨j, by omega, j2⟩
end
end
section
/-! the sentence of what a man becomes -/
section
variable {T : Nat → Int} {N : Int} {F : Nat} {Z : Nat → Nat} {x2 : Int32} {hc hr oc or hc1 : Hp} {x man mine xi : Int32} {o o' : Int32 × Hp} {i : Nat}
theorem be_77 (n12 : N ≤ 1200) (M : PMn T N Z hc hr) {k62 : Hp → Nat → Nat → Int32 → Int32 → Int32 → Option (Int32 × Hp)} (h : 6 ≤ xi.toInt ∨ ¬ hI hr (Z 16) 6 = (1 : Int32)) (e' : sX15_isBecoming_77 F k62 hr (Z 16) (Z 82) x2 man xi = some o') : o' = ((0 : Int32), hr) := by
  have z6 : (6 : Int32).toInt = 6 := rfl
  unfold sX15_isBecoming_77 sX15_isBecoming_132 sX15_isBecoming_133 at e'
  replace e' := cl_s e'
  obtain ⟨o2, e2, e'⟩ := e'
  obtain ⟨q1, q2⟩ := mn_b n12 M e2
  rw [q1] at e'
  replace e' := br_s e'
  rcases e' with ⟨_, e'⟩ | ⟨b, e'⟩
  · exact bk_0 F e'
  have l6 : 6 ≤ xi.toInt := h.resolve_right (fun k => b (by
    unfold sX15_manAt sX15_manAt_37 sX15_manAt_38 at e2
    replace e2 := br_s e2
    rcases e2 with ⟨z, _⟩ | ⟨_, e2⟩
    · exact absurd z k
    · rw [← Option.some.inj e2]))
  replace e' := br_s e'
  rcases e' with ⟨_, e'⟩ | ⟨_, e'⟩
  · exact bk_0 F e'
  replace e' := cl_s e'
  obtain ⟨r4, e4, e'⟩ := e'
  replace e' := br_s e'
  rcases e' with ⟨_, e'⟩ | ⟨_, e'⟩
  · exact bk_0 F e'
  replace e' := cl_s e'
  obtain ⟨r6, e6, e'⟩ := e'
  replace e' := cl_s e'
  obtain ⟨r7, e7, e'⟩ := e'
  replace e' := (gd_s e').2
  replace e' := br_s e'
  rcases e' with ⟨_, e'⟩ | ⟨_, e'⟩
  · replace e' := br_s e'
    rcases e' with ⟨_, e'⟩ | ⟨n, _⟩
    · exact bk_0 F e'
    · have n := nle_i n; omega
  · exact bk_0 F e'
/-- both are through -/
theorem be_fin (D : ZD Z) (hx : xi.toInt = (i : Int)) (i6 : i ≤ 6) (B : LB T N Z man i mine hc hr) {pl : Int32} (hp : pl = if hI hc (Z 2) 5 = (-1 : Int32) then man else hI hc (Z 2) 5) : PS T N Z (wI (wI hc (Z 2) 12 ((hI hc (Z 2) 12) ||| mine)) (Z 2) 5 pl) (wI (wI hr (Z 81) man.toNatClampNeg xi) (Z 15) 11 pl) := by
  have z0 : (0 : Int32).toInt = 0 := rfl
  obtain ⟨P, hm, ci, bj, rm, mb⟩ := B
  have M := pm_w D P
  have m12 := M.2.2.2.2.2.2.1.2
  have nm := nc_i hm.1
  obtain ⟨p1, p2, p3, p4, p5, s1, s2, s3, s4, s5, s6, s7, s8, s9⟩ := P
  have w31 : ∀ {a : Nat}, a ∈ zl → ¬ a = 31 → ∀ j, hI (wI hc (Z 31) man.toNatClampNeg 0) (Z a) j = hI hc (Z a) j := fun ha n j => rI_a (zne D n ha)
  have cc : ∀ {a : Nat}, a ∈ zl → ¬ a = 2 → ∀ j, hI (wI (wI hc (Z 2) 12 ((hI hc (Z 2) 12) ||| mine)) (Z 2) 5 pl) (Z a) j = hI hc (Z a) j := fun ha n j => by rw [rI_a (zne D n ha), rI_a (zne D n ha)]
  have c2 : ∀ j, ¬ j = 5 → ¬ j = 12 → hI (wI (wI hc (Z 2) 12 ((hI hc (Z 2) 12) ||| mine)) (Z 2) 5 pl) (Z 2) j = hI hc (Z 2) j := fun j n5 n12' => by rw [rI_o n5, rI_o n12']
  have rc : ∀ {a : Nat}, a ∈ zl → ¬ a = 15 → ¬ a = 81 → ∀ j, hI (wI (wI hr (Z 81) man.toNatClampNeg xi) (Z 15) 11 pl) (Z a) j = hI hr (Z a) j := fun ha n n' j => by rw [rI_a (zne D n ha), rI_a (zne D n' ha)]
  have r15 : ∀ j, ¬ j = 11 → hI (wI (wI hr (Z 81) man.toNatClampNeg xi) (Z 15) 11 pl) (Z 15) j = hI hr (Z 15) j := fun j n => by rw [rI_o n, rI_a (zne D)]
  have r81 : ∀ j, hI (wI (wI hr (Z 81) man.toNatClampNeg xi) (Z 15) 11 pl) (Z 81) j = hI (wI hr (Z 81) man.toNatClampNeg xi) (Z 81) j := fun j => rI_a (zne D)
  have x5 : hI hc (Z 31) man.toNatClampNeg = xi := Int32.toInt_inj.mp (by rw [ci, hx])
  refine ⟨p1, p2, ct_w (zne D) (zne D) p1 (ct_w (zne D) (zne D) p1 M.2.2.1), rt_w (zne D) (rt_w (zne D) p4), ?_, ?_⟩
  · obtain ⟨p', k', A, B', ek⟩ := M.2.2.2.2.1
    exact ⟨p', k', by rw [cc (by decide) (by decide), cc (by decide) (by decide), cc (by decide) (by decide), cc (by decide) (by decide)]; exact A, by rw [rc (by decide) (by decide) (by decide), rc (by decide) (by decide) (by decide), rc (by decide) (by decide) (by decide)]; exact B', by rw [rc (by decide) (by decide) (by decide)]; exact ek⟩
  rw [w31 (by decide) (by decide)] at s1 s4
  refine ⟨by rw [cc (by decide) (by decide), rc (by decide) (by decide) (by decide)]; exact s1, fun p hp' => ?_, s3, by rw [c2 _ (by decide) (by decide)]; exact s4, fun j hj => ?_, fun q hq => ?_, ⟨?_, fun q hq => ?_⟩, ?_, ?_⟩
  · by_cases y : p = (5, 11)
    · rw [y, rI_s, rI_s]
    · have n5 : ¬ p.1 = 5 := fun z => y (prs_1 p hp' (5, 11) (by decide) (Or.inl z))
      have n11 : ¬ p.2 = 11 := fun z => y (prs_1 p hp' (5, 11) (by decide) (Or.inr z))
      rw [c2 _ n5 (prs_2 p hp').1, r15 _ n11]
      have := s2 p hp'
      rw [w31 (by decide) (by decide)] at this
      exact this
  · rw [c2 _ (by decide) (by decide)] at hj
    rw [cc (by decide) (by decide), rc (by decide) (by decide) (by decide)]
    exact M.2.2.2.2.2.2.2 j hj
  · rw [cc (by decide) (by decide), r81]
    by_cases y : q = man.toNatClampNeg
    · rw [y, rI_s, x5]
      refine ⟨rfl, ⟨by omega, by omega⟩, fun j hj => ?_⟩
      rw [cc (by decide) (by decide), rc (by decide) (by decide) (by decide)]
      exact bj j (by omega)
    · rw [rI_o y]
      obtain ⟨a1, a2, a3⟩ := s6 q hq
      rw [rI_o y] at a1 a2 a3
      refine ⟨a1, a2, fun j hj => ?_⟩
      rw [cc (by decide) (by decide), rc (by decide) (by decide) (by decide)]
      have := a3 j hj
      rw [w31 (by decide) (by decide)] at this
      exact this
  · rw [rI_o (by decide), rI_s]
    have := s7.1
    rw [w31 (by decide) (by decide)] at this
    exact rg_or (n := 12) this rm (by decide)
  · rw [rI_o (by decide), rI_s]
    have sq := s7.2 q hq
    rw [w31 (by decide) (by decide)] at sq
    have mq := mb q hq
    unfold Bq at sq mq ⊢
    rw [sh_or, lo_or]
    have m3 : hI hc (Z 2) 3 = hI hr (Z 15) 2 := M.2.2.2.2.2.1
    have zr : hI hr (Z 81) man.toNatClampNeg = 0 := by
      have := (s6 man.toNatClampNeg (by omega)).1
      rw [rI_s] at this
      exact this.symm
    have key : (∃ p j : Nat, (p : Int) < (hI (wI (wI hr (Z 81) man.toNatClampNeg xi) (Z 15) 11 pl) (Z 15) 2).toInt ∧ (j : Int) < (hI (wI (wI hr (Z 81) man.toNatClampNeg xi) (Z 15) 11 pl) (Z 81) p).toInt ∧ (hI (wI (wI hr (Z 81) man.toNatClampNeg xi) (Z 15) 11 pl) (Z 80) (6 * p + j)).toInt = (q : Int)) ↔ ((((hI hc (Z 2) 12) >>> ((nI q) &&& 31)) &&& (1 : Int32)) = 1 ∨ ((mine >>> ((nI q) &&& 31)) &&& (1 : Int32)) = 1) := by
      rw [sq, mq]
      constructor
      · rintro ⟨p, j, a, b, c⟩
        rw [r15 _ (by decide)] at a
        rw [r81] at b
        rw [rc (by decide) (by decide) (by decide)] at c
        by_cases y : p = man.toNatClampNeg
        · rw [y, rI_s] at b
          rw [y] at c
          exact Or.inr ⟨j, by omega, c⟩
        · rw [rI_o y] at b
          exact Or.inl ⟨p, j, a, b, c⟩
      · rintro (⟨p, j, a, b, c⟩ | ⟨j, a, c⟩)
        · have y : ¬ p = man.toNatClampNeg := fun z => by rw [z, zr, z0] at b; omega
          exact ⟨p, j, by rw [r15 _ (by decide)]; exact a, by rw [r81, rI_o y]; exact b, by rw [rc (by decide) (by decide) (by decide)]; exact c⟩
        · exact ⟨man.toNatClampNeg, j, by rw [r15 _ (by decide), ← m3]; omega, by rw [r81, rI_s]; omega, by rw [rc (by decide) (by decide) (by decide)]; exact c⟩
    rw [key]
    rcases b01 ((hI hc (Z 2) 12) >>> ((nI q) &&& 31)) with y1 | y1 <;> rcases b01 (mine >>> ((nI q) &&& 31)) with y2 | y2 <;> (rw [y1, y2]; decide)
  · rw [c2 _ (by decide) (by decide), c2 _ (by decide) (by decide), c2 _ (by decide) (by decide), c2 _ (by decide) (by decide)]
    rw [w31 (by decide) (by decide), w31 (by decide) (by decide), w31 (by decide) (by decide), w31 (by decide) (by decide)] at s8
    exact s8
  · rw [w31 (by decide) (by decide), w31 (by decide) (by decide), w31 (by decide) (by decide)] at s9
    refine ⟨by rw [cc (by decide) (by decide), c2 _ (by decide) (by decide)]; exact s9.1, by rw [cc (by decide) (by decide)]; exact s9.2.1, fun q h1 h2 => ?_, by rw [cc (by decide) (by decide)]; exact s9.2.2.2⟩
    rw [r15 _ (by decide)] at h1
    have m3 : hI hc (Z 2) 3 = hI hr (Z 15) 2 := M.2.2.2.2.2.1
    rw [rc (by decide) (by decide) (by decide), r81, rI_o (fun z => by rw [← m3] at h1; omega)]
    exact s9.2.2.1 q h1 h2
theorem be_60 (n12 : N ≤ 1200) (dg : ∀ j : Nat, (j : Int) < N → 0 ≤ T j ∧ T j ≤ 255) (D : ZD Z) (n2 : x2.toInt = N) : ∀ (f g : Nat) {hc hr : Hp} {mine xi : Int32} {i : Nat}, LB T N Z man i mine hc hr → i ≤ 6 → xi.toInt = (i : Int) → sX2_takeBecomes_60 F f hc (Z 3) man mine xi = some o → sX15_isBecoming_62 F g hr (Z 16) (Z 82) x2 man xi = some o' → Out2 T N Z o o' := by
  have z0 : (0 : Int32).toInt = 0 := rfl
  have z1 : (1 : Int32).toInt = 1 := rfl
  have z6 : (6 : Int32).toInt = 6 := rfl
  intro f
  induction f with
  | zero => intro g hc hr mine xi i _ _ _ e; exact absurd e (by rw [sX2_takeBecomes_60]; exact fun z => nomatch z)
  | succ f ih =>
    intro g hc hr mine xi i B i6 hx e e'
    cases g with
    | zero => exact absurd e' (by rw [sX15_isBecoming_62]; exact fun z => nomatch z)
    | succ g =>
      have M := pm_w D B.1
      have fl : Fl2 Z hc hr := (ts_f M.2.2.2.2.1).1
      rw [sX2_takeBecomes_60] at e
      rw [sX15_isBecoming_62] at e'
      have more : i < 6 → sX2_takeBecomes_78 F (sX2_takeBecomes_60 F f) hc (Z 3) man mine xi = some o → sX15_isBecoming_77 F (sX15_isBecoming_62 F g) hr (Z 16) (Z 82) x2 man xi = some o' → Out2 T N Z o o' := fun l e e' => by
        rcases be_st n12 dg D n2 l hx B e e' with q | ⟨oc, or, mine', B1, k1, k2⟩
        · exact Or.inl q
        · exact ih g B1 (by omega) (by rw [ta (by rw [z1]; omega), z1, hx]; omega) k1 k2
      -- the class is through
      have fc : sX2_takeBecomes_178 F hc (Z 3) man mine = some o → o = ((1 : Int32), wI (wI hc (Z 2) 12 ((hI hc (Z 2) 12) ||| mine)) (Z 2) 5 (if hI hc (Z 2) 5 = (-1 : Int32) then man else hI hc (Z 2) 5)) := fun e => by
        unfold sX2_takeBecomes_178 sX2_takeBecomes_217 at e
        replace e := cl_s e
        obtain ⟨r1, e1, e⟩ := e
        rw [r_eq M.1.2.1 e1] at e
        replace e := nm_s e
        obtain ⟨h2, w2, e⟩ := e
        replace e := cl_s e
        obtain ⟨r3, e3, e⟩ := e
        have y3 : r3 = Z 2 := r_eq M.1.2.1 (by rw [w2] at e3; exact e3)
        rw [y3] at e
        replace e := cl_s e
        obtain ⟨r4, e4, e⟩ := e
        have y4 : r4 = Z 2 := r_eq M.1.2.1 (by rw [w2] at e4; exact e4)
        rw [y4] at e
        have k5 : hI h2 (Z 2) 5 = hI hc (Z 2) 5 := by rw [w2]; exact rI_o (by decide)
        rw [k5] at e
        replace e := br_s e
        rcases e with ⟨b, e⟩ | ⟨b, e⟩
        · replace e := nm_s e
          obtain ⟨h5, w5, e⟩ := e
          rw [if_pos b, ← Option.some.inj e, w5, w2]
        · replace e := cl_s e
          obtain ⟨r6, e6, e⟩ := e
          have y6 : r6 = Z 2 := r_eq M.1.2.1 (by rw [w2] at e6; exact e6)
          rw [y6, k5] at e
          replace e := nm_s e
          obtain ⟨h5, w5, e⟩ := e
          rw [if_neg b, ← Option.some.inj e, w5, w2]
      have ns3 : ¬ (hI hc (Z 3) 4).toInt = 3 → o.2 = wI (wI hc (Z 2) 12 ((hI hc (Z 2) 12) ||| mine)) (Z 2) 5 (if hI hc (Z 2) 5 = (-1 : Int32) then man else hI hc (Z 2) 5) → Fl2 Z o.2 hr ∧ ¬ hI o.2 (Z 3) 4 = (3 : Int32) := fun nk eo => by
        have k3 : ∀ j, hI o.2 (Z 3) j = hI hc (Z 3) j := fun j => by rw [eo, rI_a (zne D), rI_a (zne D)]
        refine ⟨?_, ?_⟩
        · show hI o.2 (Z 3) 2 = _
          rw [k3]; exact fl
        · rw [k3]
          intro z
          exact nk (by rw [z]; rfl)
      by_cases y0 : i = 0
      · have x0 : xi = 0 := Int32.toInt_inj.mp (by rw [hx, y0]; rfl)
        replace e := br_s e
        rcases e with ⟨l, _⟩ | ⟨_, e⟩
        · have l := le_i l; omega
        replace e := br_s e
        rcases e with ⟨_, e⟩ | ⟨n, _⟩
        rotate_left
        · exact absurd x0 n
        replace e' := br_s e'
        rcases e' with ⟨_, e'⟩ | ⟨n, _⟩
        rotate_left
        · exact absurd x0 n
        exact more (by omega) e e'
      have x0 : ¬ xi = 0 := fun z => by rw [z, z0] at hx; omega
      replace e' := br_s e'
      rcases e' with ⟨n, _⟩ | ⟨_, e'⟩
      · exact absurd n x0
      replace e' := cl_s e'
      obtain ⟨o2, e2, e'⟩ := e'
      obtain ⟨q1, q2⟩ := sg_r M.2.2.1 M.2.2.2.1 M.2.2.2.2.1 (kd := 3) (Or.inl ⟨rfl, rfl⟩) e2
      rw [q1] at e'
      -- the reference at a semicolon is through
      have fr : ¬ o2.1 = 0 → o = ((1 : Int32), wI (wI hc (Z 2) 12 ((hI hc (Z 2) 12) ||| mine)) (Z 2) 5 (if hI hc (Z 2) 5 = (-1 : Int32) then man else hI hc (Z 2) 5)) → Out2 T N Z o o' := fun s eo => by
        replace e' := br_s e'
        rcases e' with ⟨n, _⟩ | ⟨_, e'⟩
        · exact absurd n s
        replace e' := cl_s e'
        obtain ⟨r4, e4, e'⟩ := e'
        rw [r_eq M.2.1.1 e4] at e'
        replace e' := cl_s e'
        obtain ⟨r5, e5, e'⟩ := e'
        rw [r_eq M.2.1.2.2.2.2.2.2.2.2.2 e5] at e'
        replace e' := (gd_s e').2
        replace e' := nm_s e'
        obtain ⟨h7, w7, e'⟩ := e'
        replace e' := cl_s e'
        obtain ⟨r8, e8, e'⟩ := e'
        have y8 : r8 = Z 15 := r_eq M.2.1.1 (by rw [w7] at e8; exact e8)
        rw [y8] at e'
        replace e' := cl_s e'
        obtain ⟨r9, e9, e'⟩ := e'
        have y9 : r9 = Z 15 := r_eq M.2.1.1 (by rw [w7] at e9; exact e9)
        rw [y9] at e'
        have k11 : hI h7 (Z 15) 11 = hI hc (Z 2) 5 := by
          rw [w7, rI_a (zne D)]
          have := B.1.2.2.2.2.2.2.1 (5, 11) (by decide)
          rw [rI_a (zne D)] at this
          exact this.symm
        rw [k11] at e'
        have eo' : o' = ((1 : Int32), wI (wI hr (Z 81) man.toNatClampNeg xi) (Z 15) 11 (if hI hc (Z 2) 5 = (-1 : Int32) then man else hI hc (Z 2) 5)) := by
          unfold sX15_isBecoming_254 at e'
          replace e' := br_s e'
          rcases e' with ⟨b, e'⟩ | ⟨b, e'⟩
          · replace e' := nm_s e'
            obtain ⟨h5, w5, e'⟩ := e'
            rw [if_pos b, ← Option.some.inj e', w5, w7]
          · replace e' := cl_s e'
            obtain ⟨r6, e6, e'⟩ := e'
            have y6 : r6 = Z 15 := r_eq M.2.1.1 (by rw [w7] at e6; exact e6)
            rw [y6, k11] at e'
            replace e' := nm_s e'
            obtain ⟨h5, w5, e'⟩ := e'
            rw [if_neg b, ← Option.some.inj e', w5, w7]
        rw [eo, eo']
        exact Or.inl (Or.inr ⟨i1n0, i1n0, be_fin D hx i6 B rfl⟩)
      have fall : ¬ (hI hc (Z 3) 4).toInt = 3 → (6 ≤ xi.toInt ∨ ¬ hI hr (Z 16) 6 = (1 : Int32)) → o = ((1 : Int32), wI (wI hc (Z 2) 12 ((hI hc (Z 2) 12) ||| mine)) (Z 2) 5 (if hI hc (Z 2) 5 = (-1 : Int32) then man else hI hc (Z 2) 5)) → Out2 T N Z o o' := fun nk hh eo => by
        replace e' := br_s e'
        rcases e' with ⟨_, e'⟩ | ⟨n, _⟩
        rotate_left
        · exact absurd (q2.mpr nk) n
        have r0 := be_77 n12 M hh e'
        obtain ⟨a1, a2⟩ := ns3 nk (by rw [eo])
        rw [r0]
        exact Or.inr ⟨by rw [eo]; exact i1n0, rfl, a1, a2⟩
      replace e := br_s e
      rcases e with ⟨l, e⟩ | ⟨l, e⟩
      · have l := le_i l
        rw [z6] at l
        have eo := fc e
        by_cases k3 : (hI hc (Z 3) 4).toInt = 3
        · exact fr (fun z => (q2.mp z) k3) eo
        · exact fall k3 (Or.inl l) eo
      have l := nle_i l
      rw [z6] at l
      replace e := br_s e
      rcases e with ⟨n, _⟩ | ⟨_, e⟩
      · exact absurd n x0
      replace e := br_s e
      rcases e with ⟨k, e⟩ | ⟨k, e⟩
      · have nk : ¬ (hI hc (Z 3) 4).toInt = 3 := by rw [k]; decide
        replace e' := br_s e'
        rcases e' with ⟨_, e'⟩ | ⟨n, _⟩
        rotate_left
        · exact absurd (q2.mpr nk) n
        exact more (by omega) e e'
      · have eo := fc e
        by_cases k3 : (hI hc (Z 3) 4).toInt = 3
        · exact fr (fun z => (q2.mp z) k3) eo
        · exact fall k3 (Or.inr (fun z => k ((kw_r M).mpr z))) eo
end
section
variable {T : Nat → Int} {N : Int} {F : Nat} {Z : Nat → Nat} {x2 : Int32} {hc hr oc or hc1 : Hp} {x man mine xi : Int32} {o o' : Int32 × Hp} {i : Nat}
theorem be_r (n12 : N ≤ 1200) (dg : ∀ j : Nat, (j : Int) < N → 0 ≤ T j ∧ T j ≤ 255) (D : ZD Z) (n2 : x2.toInt = N) (P : PS T N Z hc hr) (e : sX2_takeBecomes F hc (Z 3) = some o) (e' : sX15_isBecoming F hr (Z 16) (Z 82) x2 = some o') : Out2 T N Z o o' := by
  have z0 : (0 : Int32).toInt = 0 := rfl
  unfold sX2_takeBecomes sX2_takeBecomes_50 at e
  unfold sX15_isBecoming sX15_isBecoming_51 at e'
  replace e := cl_s e
  obtain ⟨hc1, ea, e⟩ := e
  replace e' := cl_s e'
  obtain ⟨hr1, en, e'⟩ := e'
  have P1 := ps_a n12 dg D n2 (ps_b P).1 (ps_b P).2 ea en
  replace e := cl_s e
  obtain ⟨o1, e1, e⟩ := e
  replace e' := cl_s e'
  obtain ⟨o2, e2, e'⟩ := e'
  obtain ⟨q1, q2, q3, q4⟩ := tm_r n12 (ps_m P1) e1 e2
  rw [q1] at e
  rw [q2, ← q3] at e'
  have no : some ((0 : Int32), hc1) = some o → some ((0 : Int32), hr1) = some o' → Out2 T N Z o o' := fun e e' => by
    rw [← Option.some.inj e, ← Option.some.inj e']; exact Or.inl (out_0 P1)
  replace e := br_s e
  replace e' := br_s e'
  rcases e with ⟨b, e⟩ | ⟨b, e⟩
  · rcases e' with ⟨_, e'⟩ | ⟨b', _⟩
    · exact no e e'
    · exact absurd b b'
  rcases e' with ⟨b', _⟩ | ⟨_, e'⟩
  · exact absurd b' b
  have q4 := q4.resolve_left b
  have m12 := P1.2.2.2.2.2.2.2.2.1.2
  have nx := nc_i q4.1
  replace e := cl_s e
  obtain ⟨r4, e4, e⟩ := e
  rw [r_eq P1.1.2.1 e4] at e
  replace e' := cl_s e'
  obtain ⟨r4', e4', e'⟩ := e'
  rw [r_eq P1.2.1.1 e4'] at e'
  have ry : hI hc1 (Z 2) 4 = hI hr1 (Z 15) 10 := P1.2.2.2.2.2.2.1 (4, 10) (by decide)
  rw [← ry] at e'
  replace e := br_s e
  replace e' := br_s e'
  rcases e with ⟨d, e⟩ | ⟨d, e⟩
  · rcases e' with ⟨_, e'⟩ | ⟨d', _⟩
    · exact no e e'
    · exact absurd d d'
  rcases e' with ⟨d', _⟩ | ⟨_, e'⟩
  · exact absurd d' d
  replace e := cl_s e
  obtain ⟨r6, e6, e⟩ := e
  rw [r_eq P1.1.2.1 e6] at e
  replace e := cl_s e
  obtain ⟨o7, e7, e⟩ := e
  obtain ⟨u1, u2⟩ := bo_q P1.1 q4.1 (by omega) e7
  rw [u1] at e
  replace e' := cl_s e'
  obtain ⟨r6', e6', e'⟩ := e'
  rw [r_eq P1.2.1.1 e6'] at e'
  replace e' := cl_s e'
  obtain ⟨r7', e7', e'⟩ := e'
  rw [r_eq P1.2.1.2.2.2.2.2.2.2.2.2 e7'] at e'
  replace e' := (gd_s e').2
  obtain ⟨ce, cb, _⟩ := P1.2.2.2.2.2.2.2.2.2.2.1 o1.1.toNatClampNeg (by omega)
  rw [← ce] at e'
  replace e := br_s e
  replace e' := br_s e'
  rcases e with ⟨v, e⟩ | ⟨v, e⟩
  rotate_left
  · rcases e' with ⟨_, e'⟩ | ⟨l', _⟩
    · exact no e e'
    · exact absurd (u2.mpr (nlt_i l')) v
  rcases e' with ⟨l', _⟩ | ⟨_, e'⟩
  · have l' := lt_i l'
    have := u2.mp v
    omega
  replace e := cl_s e
  obtain ⟨r9, e9, e⟩ := e
  rw [r_eq P1.1.2.1 e9] at e
  replace e' := cl_s e'
  obtain ⟨r10, e10, e'⟩ := e'
  rw [r_eq P1.2.1.1 e10] at e'
  replace e' := cl_s e'
  obtain ⟨o11, e11, e'⟩ := e'
  obtain ⟨t1, t2⟩ := ib_r P1 q4.1 (by omega) e11
  rw [t1] at e'
  replace e := br_s e
  replace e' := br_s e'
  rcases e with ⟨c1, e⟩ | ⟨c1, e⟩
  rotate_left
  · rcases e' with ⟨c', _⟩ | ⟨_, e'⟩
    · exact absurd (t2.mp c') c1
    · exact no e e'
  rcases e' with ⟨_, e'⟩ | ⟨c', _⟩
  rotate_left
  · exact absurd (t2.mpr c1) c'
  replace e := cl_s e
  obtain ⟨hc3, e3, e⟩ := e
  replace e' := cl_s e'
  obtain ⟨hr3, e3', e'⟩ := e'
  have PB1 := ps_b P1
  have P3 := ps_a n12 dg D n2 PB1.1 PB1.2 e3 e3'
  have Kc := (adv_k n12 dg P1.2.2.1 PB1.2.2.1 PB1.2.2.2 e3).1
  have cnt : hI hc3 (Z 31) o1.1.toNatClampNeg = 0 := by
    rw [Kc.2 _ _ (fun z => zn D z.1)]
    exact Int32.toInt_inj.mp (by rw [z0]; have := u2.mp v; have := cb.1; omega)
  refine be_60 n12 dg D n2 F F (i := 0) (mine := (0 : Int32)) (xi := (0 : Int32)) ⟨?_, ?_, by rw [cnt]; rfl, fun j hj => by omega, ⟨by decide, by decide⟩, fun q hq => ⟨fun z => ?_, fun ⟨j, hj, _⟩ => by omega⟩⟩ (by omega) rfl e e'
  · -- his count is nought already
    have hh : ∀ a j, hI (wI hc3 (Z 31) o1.1.toNatClampNeg 0) a j = hI hc3 a j := fun a j => by
      rw [r_I]
      by_cases y : a = Z 31 ∧ j = o1.1.toNatClampNeg
      · rw [if_pos y, y.1, y.2]; exact cnt.symm
      · rw [if_neg y]
    obtain ⟨p1, p2, p3, p4, p5, p6⟩ := P3
    refine ⟨p1, p2, ?_, p4, ?_, ?_⟩
    · obtain ⟨a1, a2, a3, b', a4, a5, a6⟩ := p3
      exact ⟨a1, a2, by rw [hh]; exact a3, b', a4, a5, fun j hj => by rw [hh]; exact a6 j hj⟩
    · obtain ⟨p', k', A, B', ek⟩ := p5
      exact ⟨p', k', by rw [hh, hh, hh, hh]; exact A, B', ek⟩
    · exact ls_kk p6 (hh _ _) (fun _ => hh _ _) rfl (fun _ _ _ => hh _ _) rfl (fun _ => rfl) rfl (fun _ _ _ => rfl) (by rw [hh]; exact p6.2.2.2.2.2.2.2.2.2.2.2)
  · rw [Kc.2 _ _ (fun z => zn D z.1)]
    exact q4
  · unfold Bq at z
    have : ((0 : Int32) >>> ((nI q) &&& 31)) = 0 := by
      apply Int32.toBitVec_inj.mp
      rw [Int32.toBitVec_shiftRight]
      exact BitVec.zero_sshiftRight
    rw [this] at z
    exact absurd z (by decide)
end
end
section
/-! men and their steps -/
section
variable {T : Nat → Int} {N : Int} {F : Nat} {Z : Nat → Nat} {x2 : Int32} {hc hr oc or hc1 : Hp} {x man mine xi : Int32} {o o' : Int32 × Hp} {i : Nat}
/-- cells that the relation doesn't read: of the class -/
theorem ps_wc (D : ZD Z) {k j : Nat} {v : Int32} (hk : k = 28 ∨ k = 29) (P : PS T N Z hc hr) : PS T N Z (wI hc (Z k) j v) hr := by
  obtain ⟨p1, p2, p3, p4, p5, p6⟩ := P
  have w : ∀ {a : Nat}, a ∈ zl → ¬ a = 28 → ¬ a = 29 → ∀ q, hI (wI hc (Z k) j v) (Z a) q = hI hc (Z a) q := fun ha n n' q => by
    rcases hk with rfl | rfl
    · exact rI_a (zne D n ha)
    · exact rI_a (zne D n' ha)
  refine ⟨p1, p2, ?_, p4, ?_, ls_kk p6 (w (by decide) (by decide) (by decide) _) (fun q => w (by decide) (by decide) (by decide) q) rfl (fun a q ha => ?_) rfl (fun _ => rfl) rfl (fun _ _ _ => rfl) (by rw [w (by decide) (by decide) (by decide)]; exact p6.2.2.2.2.2.2.2.2.2.2.2)⟩
  · obtain ⟨a1, a2, a3, b, a4, a5, a6⟩ := p3
    have y : b = Z 49 := r_eq p1.2.2.1 a4
    rw [y] at a4 a5 a6
    exact ⟨a1, a2, by rw [w (by decide) (by decide) (by decide)]; exact a3, Z 49, a4, a5, fun q hq => by rw [w (by decide) (by decide) (by decide)]; exact a6 q hq⟩
  · obtain ⟨p', k', A, B', ek⟩ := p5
    exact ⟨p', k', by rw [w (by decide) (by decide) (by decide), w (by decide) (by decide) (by decide), w (by decide) (by decide) (by decide), w (by decide) (by decide) (by decide)]; exact A, B', ek⟩
  · rcases ha with rfl | rfl | rfl <;> exact w (by decide) (by decide) (by decide) q
/-- and of the reference -/
theorem ps_wr (D : ZD Z) {k j : Nat} {v : Int32} (hk : k = 75 ∨ k = 76 ∨ k = 77 ∨ k = 78 ∨ k = 79) (P : PS T N Z hc hr) : PS T N Z hc (wI hr (Z k) j v) := by
  obtain ⟨p1, p2, p3, p4, p5, p6⟩ := P
  have w : ∀ {a : Nat}, a ∈ zl → ¬ (a = 75 ∨ a = 76 ∨ a = 77 ∨ a = 78 ∨ a = 79) → ∀ q, hI (wI hr (Z k) j v) (Z a) q = hI hr (Z a) q := fun {a} ha n q => by
    have hz : k ∈ zl := by rcases hk with rfl | rfl | rfl | rfl | rfl <;> decide
    exact rI_a (zne D (fun z => n (by rw [z]; exact hk)) ha hz)
  refine ⟨p1, p2, p3, fun q hq => by rw [w (by decide) (by decide)]; exact p4 q hq, ?_, ls_kk p6 rfl (fun _ => rfl) rfl (fun _ _ _ => rfl) (w (by decide) (by decide) _) (fun q => w (by decide) (by decide) q) rfl (fun a q ha => ?_) p6.2.2.2.2.2.2.2.2.2.2.2⟩
  · obtain ⟨p', k', A, B', ek⟩ := p5
    exact ⟨p', k', A, by rw [w (by decide) (by decide), w (by decide) (by decide), w (by decide) (by decide)]; exact B', by rw [w (by decide) (by decide)]; exact ek⟩
  · rcases ha with rfl | rfl | rfl | rfl <;> exact w (by decide) (by decide) q
theorem kn_0 (P : PS T N Z hc hr) : (hI hc (Z 3) 4).toInt = 4 → hI hr (Z 16) 6 = (3 : Int32) := fun k => by
  have f := (ts_f P.2.2.2.2.1).2.2.1
  rw [k] at f
  exact Int32.toInt_inj.mp f
/-- the six words of a step -/
theorem fl_r (n12 : N ≤ 1200) (P : PS T N Z hc hr) (e : sX2_stepFlag F hc (Z 3) = some o) (e' : sX15_flagAt F hr (Z 16) (Z 82) = some o') : o.2 = hc ∧ o'.2 = hr ∧ o.1 = o'.1 ∧ (o.1 = 0 ∨ o.1 = 1 ∨ o.1 = 2 ∨ o.1 = 4 ∨ o.1 = 8 ∨ o.1 = 16 ∨ o.1 = 32) := by
  unfold sX2_stepFlag sX2_stepFlag_72 at e
  unfold sX15_flagAt sX15_flagAt_88 at e'
  have one : ∀ {i i' : Nat} {A B : Int32 × Hp → Option (Int32 × Hp)} {A' B' : Int32 × Hp → Option (Int32 × Hp)}, lB i = lB i' → (lB i).length < 2147483648 → (cl (sX2_isWord F hc (Z 3) i) fun q => br (q.1 = 0) (A q) (B q)) = some o → (cl (sX15_isWord F hr (Z 16) (Z 82) i') fun q => br (q.1 = 0) (A' q) (B' q)) = some o' → (∃ q q' : Int32 × Hp, q.2 = hc ∧ q'.2 = hr ∧ A q = some o ∧ A' q' = some o') ∨ ∃ q q' : Int32 × Hp, q.2 = hc ∧ q'.2 = hr ∧ B q = some o ∧ B' q' = some o' := fun hl sm e e' => by
    replace e := cl_s e
    obtain ⟨o1, e1, e⟩ := e
    replace e' := cl_s e'
    obtain ⟨o2, e2, e'⟩ := e'
    obtain ⟨q1, q2, q3⟩ := iw_r n12 P.2.2.1 P.2.2.2.1 P.2.2.2.2.1 hl sm e1 e2
    replace e := br_s e
    replace e' := br_s e'
    rcases e with ⟨b, e⟩ | ⟨b, e⟩
    · rcases e' with ⟨_, e'⟩ | ⟨b', _⟩
      · exact Or.inl ⟨o1, o2, q1, q2, e, e'⟩
      · rw [← q3] at b'; exact absurd b b'
    · rcases e' with ⟨b', _⟩ | ⟨_, e'⟩
      · rw [← q3] at b'; exact absurd b' b
      · exact Or.inr ⟨o1, o2, q1, q2, e, e'⟩
  rcases one (i := 5) (i' := 31) rfl (by decide) e e' with ⟨q, q', h1, h2, e, e'⟩ | ⟨q, q', h1, h2, e, e'⟩
  rotate_left
  · rw [h1] at e; rw [h2] at e'; rw [← Option.some.inj e, ← Option.some.inj e']; exact ⟨rfl, rfl, rfl, by dsimp only; decide⟩
  rw [h1] at e
  rw [h2] at e'
  rcases one (i := 6) (i' := 32) rfl (by decide) e e' with ⟨q, q', h1, h2, e, e'⟩ | ⟨q, q', h1, h2, e, e'⟩
  rotate_left
  · rw [h1] at e; rw [h2] at e'; rw [← Option.some.inj e, ← Option.some.inj e']; exact ⟨rfl, rfl, rfl, by dsimp only; decide⟩
  rw [h1] at e
  rw [h2] at e'
  rcases one (i := 7) (i' := 33) rfl (by decide) e e' with ⟨q, q', h1, h2, e, e'⟩ | ⟨q, q', h1, h2, e, e'⟩
  rotate_left
  · rw [h1] at e; rw [h2] at e'; rw [← Option.some.inj e, ← Option.some.inj e']; exact ⟨rfl, rfl, rfl, by dsimp only; decide⟩
  rw [h1] at e
  rw [h2] at e'
  rcases one (i := 8) (i' := 34) rfl (by decide) e e' with ⟨q, q', h1, h2, e, e'⟩ | ⟨q, q', h1, h2, e, e'⟩
  rotate_left
  · rw [h1] at e; rw [h2] at e'; rw [← Option.some.inj e, ← Option.some.inj e']; exact ⟨rfl, rfl, rfl, by dsimp only; decide⟩
  rw [h1] at e
  rw [h2] at e'
  rcases one (i := 9) (i' := 35) rfl (by decide) e e' with ⟨q, q', h1, h2, e, e'⟩ | ⟨q, q', h1, h2, e, e'⟩
  rotate_left
  · rw [h1] at e; rw [h2] at e'; rw [← Option.some.inj e, ← Option.some.inj e']; exact ⟨rfl, rfl, rfl, by dsimp only; decide⟩
  rw [h1] at e
  rw [h2] at e'
  rcases one (i := 10) (i' := 36) rfl (by decide) e e' with ⟨q, q', h1, h2, e, e'⟩ | ⟨q, q', h1, h2, e, e'⟩
  · rw [h1] at e; rw [h2] at e'; rw [← Option.some.inj e, ← Option.some.inj e']; exact ⟨rfl, rfl, rfl, by dsimp only; decide⟩
  · rw [h1] at e; rw [h2] at e'; rw [← Option.some.inj e, ← Option.some.inj e']; exact ⟨rfl, rfl, rfl, by dsimp only; decide⟩
end
end
