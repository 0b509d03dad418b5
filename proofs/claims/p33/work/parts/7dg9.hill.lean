/-! squares of the hill -/
theorem bj_1 (s : Nat) : bitJ (1 : Int64) s = decide (0 = s) := by
  have e : (1 : Int64) <<< ((0 : Int32).toInt64 &&& 63) = 1 := by decide
  have b := bj_one (x := (0 : Int32)) ⟨by decide, by decide⟩ s
  rw [e] at b
  exact b
theorem and_1 {y : Int64} (b : bitJ y 0 = true) : y &&& (1 : Int64) = 1 := by
  apply Int64.toBitVec_inj.mp
  apply BitVec.eq_of_getLsbD_eq
  intro i _
  show bitJ (y &&& 1) i = bitJ 1 i
  rw [bj_and, bj_1]
  by_cases z : 0 = i
  · rw [← z, b]; rfl
  · rw [decide_eq_false z, Bool.and_false]
theorem crt_le (a : Int64) : ∀ n, cRt a n ≤ n
  | 0 => Nat.le_refl 0
  | n + 1 => by
    have := crt_le a n
    show cRt a n + (if bitJ a n then 1 else 0) ≤ n + 1
    split <;> omega
theorem crt_set {a : Int64} {x : Int32} (i : Rg 0 63 x) (b : bitJ a x.toNatClampNeg = false) : ∀ n, cRt (a ||| ((1 : Int64) <<< (x.toInt64 &&& 63))) n = cRt a n + (if x.toNatClampNeg < n then 1 else 0)
  | 0 => by rw [if_neg (by omega)]; rfl
  | n + 1 => by
    show cRt (a ||| ((1 : Int64) <<< (x.toInt64 &&& 63))) n + (if bitJ (a ||| ((1 : Int64) <<< (x.toInt64 &&& 63))) n then 1 else 0) = cRt a n + (if bitJ a n then 1 else 0) + _
    rw [crt_set i b n, bj_or, bj_one i]
    by_cases e : x.toNatClampNeg = n
    · rw [← e, b, if_neg (by omega : ¬ x.toNatClampNeg < x.toNatClampNeg), if_pos (by omega : x.toNatClampNeg < x.toNatClampNeg + 1), decide_eq_true rfl]
      rfl
    · rw [decide_eq_false e, Bool.or_false]
      by_cases l : x.toNatClampNeg < n
      · rw [if_pos l, if_pos (show x.toNatClampNeg < n + 1 by omega)]; omega
      · rw [if_neg l, if_neg (show ¬ x.toNatClampNeg < n + 1 by omega)]; omega
section
variable {T : Nat → Int} {N : Int} {F : Nat} {Z : Nat → Nat} {x2 : Int32} {hc hr oc or hc1 : Hp} {x : Int32} {o o' : Int32 × Hp}
/-- both note a square of the hill -/
theorem pb_h (D : ZD Z) {v : Int64} (g : ¬ (hI hc (Z 3) 6) &&& (128 : Int32) = 0) (P : PB T N Z hc hr) : PB T N Z (wJ hc (Z 2) 13 v) (wJ hr (Z 15) 21 v) := by
  obtain ⟨⟨p1, p2, p3, p4, s1, s2, s3, s4, s5, s6, s7, s8, s9⟩, q⟩ := P
  exact ⟨⟨p1, p2, p3, p4, s1, s2, by rw [r_J, r_J, if_pos ⟨rfl, rfl⟩, if_pos ⟨rfl, rfl⟩], s4, s5, s6, s7, s8, s9.1, fun z => absurd z g, s9.2.2⟩, q⟩
/-- one square more -/
theorem hi_st (n12 : N ≤ 1200) (dg : ∀ j : Nat, (j : Int) < N → 0 ≤ T j ∧ T j ≤ 255) (D : ZD Z) (n2 : x2.toInt = N) {k2 : Hp → Nat → Int32 → Option (Int32 × Hp)} {k8 : Hp → Nat → Nat → Int32 → Int32 → Option (Int32 × Hp)} {i : Int32} (P : PS T N Z hc hr) (ht : ¬ (hI hc (Z 3) 6) &&& (128 : Int32) = 0) (e : sX2_takeHill_20 F k2 hc (Z 3) i = some o) (e' : sX15_isHill_22 F k8 hr (Z 16) (Z 82) x2 = some o') : Out T N Z o o' ∨ ∃ oc or : Hp, PS T N Z oc or ∧ hI oc (Z 3) 6 = hI hc (Z 3) 6 ∧ cRt (hJ oc (Z 2) 13) 64 = cRt (hJ hc (Z 2) 13) 64 + 1 ∧ k2 oc (Z 3) (i + (1 : Int32)) = some o ∧ k8 or (Z 16) (Z 82) x2 (1 : Int32) = some o' := by
  have z1 : (1 : Int32).toInt = 1 := rfl
  have z97 : (97 : Int32).toInt = 97 := rfl
  unfold sX2_takeHill_20 sX2_takeHill_44 at e
  unfold sX15_isHill_22 sX15_isHill_62 sX15_isHill_128 at e'
  replace e := cl_s e
  obtain ⟨o1, e1, e⟩ := e
  obtain ⟨q1, v1⟩ := one_r n12 (ps_m P) e1
  rw [q1] at e
  have f0 : hI hc (Z 2) 0 = hI hr (Z 15) 0 := P.2.2.2.2.2.2.1 (0, 0) (by decide)
  rcases v1 with ⟨v1, n1⟩ | ⟨v1, ⟨k1, l1⟩, y1, rg1⟩
  · replace e := br_s e
    rcases e with ⟨_, e⟩ | ⟨nb, _⟩
    rotate_left
    · exact absurd v1 nb
    left
    replace e' := br_s e'
    rcases e' with ⟨k, e'⟩ | ⟨k, e'⟩
    · replace e' := br_s e'
      rcases e' with ⟨l, e'⟩ | ⟨l, e'⟩
      · exact absurd ⟨k, l⟩ n1
      · rw [← Option.some.inj e, ← Option.some.inj e']; exact out_0 P
    · rw [← Option.some.inj e, ← Option.some.inj e']; exact out_0 P
  replace e := br_s e
  rcases e with ⟨nb, _⟩ | ⟨_, e⟩
  · exact absurd nb v1
  replace e' := br_s e'
  rcases e' with ⟨_, e'⟩ | ⟨k, _⟩
  rotate_left
  · exact absurd k1 k
  replace e' := br_s e'
  rcases e' with ⟨_, e'⟩ | ⟨l, _⟩
  rotate_left
  · exact absurd l1 l
  replace e' := (gd_s e').2
  replace e' := cl_s e'
  obtain ⟨r4, e4, e'⟩ := e'
  have y4 : r4 = Z 15 := r_eq P.2.1.1 e4
  rw [y4, ← y1, ← f0] at e'
  replace e := cl_s e
  obtain ⟨r3, e3, e⟩ := e
  have y3 : r3 = Z 2 := r_eq P.1.2.1 e3
  rw [y3] at e
  replace e := br_s e
  replace e' := br_s e'
  rcases e with ⟨lf, e⟩ | ⟨lf, e⟩
  rotate_left
  · rcases e' with ⟨lf', _⟩ | ⟨_, e'⟩
    · exact absurd lf' lf
    · left; rw [← Option.some.inj e, ← Option.some.inj e']; exact out_0 P
  rcases e' with ⟨_, e'⟩ | ⟨lf', _⟩
  rotate_left
  · exact absurd lf lf'
  have lf := lt_i lf
  have l97 : (o1.1 - (97 : Int32)).toInt = o1.1.toInt - 97 := by rw [ts (by rw [z97]; have := rg1.1; have := rg1.2; omega), z97]
  rw [l97] at lf
  replace e' := (gd_s e').2
  replace e' := nm_s e'
  obtain ⟨v7, w7, e'⟩ := e'
  replace e := cl_s e
  obtain ⟨hc5, e5, e⟩ := e
  replace e' := cl_s e'
  obtain ⟨hr8, e8, e'⟩ := e'
  have PB0 := ps_b P
  have P5 := ps_a n12 dg D n2 PB0.1 PB0.2 e5 e8
  have Kc := (adv_k n12 dg P.2.2.1 PB0.2.2.1 PB0.2.2.2 e5).1
  have g0 : hI hc5 (Z 2) 0 = hI hr8 (Z 15) 0 := P5.2.2.2.2.2.2.1 (0, 0) (by decide)
  have g1 : hI hc5 (Z 2) 1 = hI hr8 (Z 15) 1 := P5.2.2.2.2.2.2.1 (1, 1) (by decide)
  have hJe : hJ hc5 (Z 2) 13 = hJ hr8 (Z 15) 21 := P5.2.2.2.2.2.2.2.1
  have fE : hI hc5 (Z 2) 0 = hI hc (Z 2) 0 := Kc.2 _ _ (fun z => zn D z.1)
  replace e := cl_s e
  obtain ⟨r6, e6, e⟩ := e
  have y6 : r6 = Z 2 := r_eq P5.1.2.1 e6
  rw [y6] at e
  replace e := cl_s e
  obtain ⟨o7, e7, e⟩ := e
  replace e' := cl_s e'
  obtain ⟨r9, e9, e'⟩ := e'
  have y9 : r9 = Z 15 := r_eq P5.2.1.1 e9
  rw [y9, ← g1] at e'
  replace e' := cl_s e'
  obtain ⟨o10, e10, e'⟩ := e'
  obtain ⟨t1, t2, t3, t4⟩ := in_r P5.2.2.2.2.1 e7 e10
  rw [t1] at e
  rw [t2, ← t3] at e'
  replace e := br_s e
  replace e' := br_s e'
  rcases e with ⟨b, e⟩ | ⟨b, e⟩
  · rcases e' with ⟨_, e'⟩ | ⟨b', _⟩
    · left; rw [← Option.some.inj e, ← Option.some.inj e']; exact out_0 P5
    · exact absurd b b'
  rcases e' with ⟨b', _⟩ | ⟨_, e'⟩
  · exact absurd b' b
  obtain ⟨vv, vl1, vh1⟩ := t4 b
  rw [z1] at vl1
  have f8 : Rg 3 8 (hI hc5 (Z 2) 0) := P5.2.2.2.2.2.2.2.2.2.2.2.2.1.1
  have r8 : Rg 3 8 (hI hc5 (Z 2) 1) := P5.2.2.2.2.2.2.2.2.2.2.2.2.1.2.1
  have f8a := f8.1
  have f8b := f8.2
  have r8b := r8.2
  have g97 := rg1.1
  -- the square
  have s1 : ((hI hc5 (Z 3) 5) - (1 : Int32)).toInt = (hI hc5 (Z 3) 5).toInt - 1 := by rw [ts (by rw [z1]; omega), z1]
  have mb1 : 0 ≤ ((hI hc5 (Z 3) 5).toInt - 1) * (hI hc5 (Z 2) 0).toInt ∧ ((hI hc5 (Z 3) 5).toInt - 1) * (hI hc5 (Z 2) 0).toInt ≤ 7 * (hI hc5 (Z 2) 0).toInt := ⟨Int.mul_nonneg (by omega) (by omega), Int.mul_le_mul_of_nonneg_right (by omega) (by omega)⟩
  have m1 : (((hI hc5 (Z 3) 5) - (1 : Int32)) * (hI hc5 (Z 2) 0)).toInt = ((hI hc5 (Z 3) 5).toInt - 1) * (hI hc5 (Z 2) 0).toInt := by rw [tm (by rw [s1]; omega), s1]
  generalize hm : ((hI hc5 (Z 3) 5).toInt - 1) * (hI hc5 (Z 2) 0).toInt = mm at *
  rw [← fE] at lf
  have a1 : ((((hI hc5 (Z 3) 5) - (1 : Int32)) * (hI hc5 (Z 2) 0)) + o1.1).toInt = mm + o1.1.toInt := by rw [ta (by rw [m1]; omega), m1]
  have a2 : (((((hI hc5 (Z 3) 5) - (1 : Int32)) * (hI hc5 (Z 2) 0)) + o1.1) - (97 : Int32)).toInt = mm + o1.1.toInt - 97 := by rw [ts (by rw [a1, z97]; omega), a1, z97]
  have a3 : ((((hI hc5 (Z 3) 5) - (1 : Int32)) * (hI hc5 (Z 2) 0)) + (o1.1 - (97 : Int32))).toInt = mm + (o1.1.toInt - 97) := by rw [ta (by rw [m1, l97]; omega), m1, l97]
  have sq : ((((hI hc5 (Z 3) 5) - (1 : Int32)) * (hI hc5 (Z 2) 0)) + (o1.1 - (97 : Int32))) = (((((hI hc5 (Z 3) 5) - (1 : Int32)) * (hI hc5 (Z 2) 0)) + o1.1) - (97 : Int32)) := Int32.toInt_inj.mp (by rw [a2, a3]; omega)
  have is : Rg 0 63 (((((hI hc5 (Z 3) 5) - (1 : Int32)) * (hI hc5 (Z 2) 0)) + o1.1) - (97 : Int32)) := ⟨by omega, by omega⟩
  replace e := cl_s e
  obtain ⟨r9', e9', e⟩ := e
  have y9' : r9' = Z 2 := r_eq P5.1.2.1 e9'
  rw [y9'] at e
  replace e := nm_s e
  obtain ⟨v10, w10, e⟩ := e
  replace e := cl_s e
  obtain ⟨r11, e11, e⟩ := e
  have y11 : r11 = Z 2 := r_eq P5.1.2.1 e11
  rw [y11] at e
  replace e' := cl_s e'
  obtain ⟨r12, e12, e'⟩ := e'
  have y12 : r12 = Z 15 := r_eq P5.2.1.1 e12
  replace e' := cl_s e'
  obtain ⟨r13, e13, e'⟩ := e'
  have y13 : r13 = Z 15 := r_eq P5.2.1.1 e13
  rw [y12, y13, ← g0, ← vv, w7, sq, ← hJe] at e'
  rw [w10] at e
  generalize hx : (((((hI hc5 (Z 3) 5) - (1 : Int32)) * (hI hc5 (Z 2) 0)) + o1.1) - (97 : Int32)) = sx at *
  have nx := nc_i is.1
  replace e := br_s e
  replace e' := br_s e'
  rcases e with ⟨c, e⟩ | ⟨c, e⟩
  rotate_left
  · have bt := bit_at is (cmp0 c)
    rcases e' with ⟨_, e'⟩ | ⟨c', _⟩
    · left; rw [← Option.some.inj e, ← Option.some.inj e']; exact out_0 P5
    · refine absurd ?_ c'
      rw [and_1 (by rw [bit_shr is]; exact bt)]; decide
  have bf : bitJ (hJ hc5 (Z 2) 13) sx.toNatClampNeg = false := by
    cases z : bitJ (hJ hc5 (Z 2) 13) sx.toNatClampNeg with
    | false => rfl
    | true =>
      have y : bitJ ((hJ hc5 (Z 2) 13) &&& ((1 : Int64) <<< (sx.toInt64 &&& 63))) sx.toNatClampNeg = true := by rw [bj_and, bj_one is, z, decide_eq_true rfl]; rfl
      rw [cmp_eq c, bj_zero] at y
      exact absurd y (by decide)
  rcases e' with ⟨c', _⟩ | ⟨_, e'⟩
  · rw [bit_test is c'] at bf; exact absurd bf (by decide)
  replace e := cl_s e
  obtain ⟨r14, e14, e⟩ := e
  have y14 : r14 = Z 2 := r_eq P5.1.2.1 e14
  rw [y14] at e
  replace e := nm_s e
  obtain ⟨h14, w14, e⟩ := e
  replace e := cl_s e
  obtain ⟨o15, e15, e⟩ := e
  replace e := nm_s e
  obtain ⟨v16, w16, e⟩ := e
  replace e' := cl_s e'
  obtain ⟨r15, e15', e'⟩ := e'
  have y15 : r15 = Z 15 := r_eq P5.2.1.1 e15'
  replace e' := cl_s e'
  obtain ⟨r16, e16', e'⟩ := e'
  have y16 : r16 = Z 15 := r_eq P5.2.1.1 e16'
  rw [y15, y16, ← g0, sq, ← hJe] at e'
  replace e' := nm_s e'
  obtain ⟨h17, w17, e'⟩ := e'
  replace e' := cl_s e'
  obtain ⟨o18, e18, e'⟩ := e'
  have P14 : PB T N Z h14 h17 := by rw [w14, w17]; exact pb_h D (by rw [Kc.2 _ _ (fun z => by have := z.2.2; omega)]; exact ht) (ps_b P5)
  have P15 := ps_a n12 dg D n2 P14.1 P14.2 e15 e18
  have K15 := (adv_k n12 dg P14.1.2.2.1 P14.2.2.1 P14.2.2.2 e15).1
  right
  refine ⟨o15, o18, P15, ?_, ?_, by rw [← w16]; exact e, e'⟩
  · rw [K15.2 _ _ (fun z => by have := z.2.2; omega), w14]
    exact Kc.2 _ _ (fun z => by have := z.2.2; omega)
  have j15 : hJ o15 (Z 2) 13 = (hJ hc5 (Z 2) 13) ||| ((1 : Int64) <<< (sx.toInt64 &&& 63)) := by
    rw [K15.1.2, w14, r_J, if_pos ⟨rfl, rfl⟩]
  have j5 : hJ hc5 (Z 2) 13 = hJ hc (Z 2) 13 := Kc.1.2 _ _
  rw [j15, crt_set is bf 64, if_pos (by have := is.2; omega), j5]
theorem hi_2 (n12 : N ≤ 1200) (dg : ∀ j : Nat, (j : Int) < N → 0 ≤ T j ∧ T j ≤ 255) (D : ZD Z) (n2 : x2.toInt = N) : ∀ (f g : Nat) {hc hr : Hp} {i y : Int32}, PS T N Z hc hr → ¬ (hI hc (Z 3) 6) &&& (128 : Int32) = 0 → 0 ≤ i.toInt → (y = 0 ↔ i = 0) → (cRt (hJ hc (Z 2) 13) 64 : Int) = i.toInt → sX2_takeHill_2 F f hc (Z 3) i = some o → sX15_isHill_8 F g hr (Z 16) (Z 82) x2 y = some o' → Out2 T N Z o o' := by
  have z0 : (0 : Int32).toInt = 0 := rfl
  have z1 : (1 : Int32).toInt = 1 := rfl
  have z64 : (64 : Int32).toInt = 64 := rfl
  intro f
  induction f with
  | zero => intro g hc hr i y _ _ _ _ _ e; exact absurd e (by rw [sX2_takeHill_2]; exact fun z => nomatch z)
  | succ f ih =>
    intro g hc hr i y P ht i0 hy cn e e'
    cases g with
    | zero => exact absurd e' (by rw [sX15_isHill_8]; exact fun z => nomatch z)
    | succ g =>
      have cl := crt_le (hJ hc (Z 2) 13) 64
      rw [sX2_takeHill_2] at e
      rw [sX15_isHill_8] at e'
      replace e := br_s e
      rcases e with ⟨l, _⟩ | ⟨_, e⟩
      · have l := lt_i l; omega
      have more : sX2_takeHill_20 F (sX2_takeHill_2 F f) hc (Z 3) i = some o → sX15_isHill_22 F (sX15_isHill_8 F g) hr (Z 16) (Z 82) x2 = some o' → Out2 T N Z o o' := fun e e' => by
        rcases hi_st n12 dg D n2 P ht e e' with q | ⟨oc, or, P1, c6, c1, k1, k2⟩
        · exact Or.inl q
        · have ti : (i + (1 : Int32)).toInt = i.toInt + 1 := by rw [ta (by rw [z1]; omega), z1]
          refine ih g P1 (by rw [c6]; exact ht) (by omega) ⟨fun z => absurd z (by decide), fun z => ?_⟩ (by omega) k1 k2
          have : (i + (1 : Int32)).toInt = 0 := by rw [z]; rfl
          omega
      replace e := br_s e
      replace e' := br_s e'
      rcases e with ⟨b, e⟩ | ⟨b, e⟩
      · rcases e' with ⟨_, e'⟩ | ⟨b', _⟩
        · exact more e e'
        · exact absurd (hy.mpr b) b'
      rcases e' with ⟨b', _⟩ | ⟨_, e'⟩
      · exact absurd (hy.mp b') b
      replace e' := cl_s e'
      obtain ⟨o2, e2, e'⟩ := e'
      obtain ⟨q1, q2⟩ := sg_r P.2.2.1 P.2.2.2.1 P.2.2.2.2.1 (kd := 3) (Or.inl ⟨rfl, rfl⟩) e2
      rw [q1] at e'
      replace e := br_s e
      replace e' := br_s e'
      rcases e with ⟨k, e⟩ | ⟨k, e⟩
      · rcases e' with ⟨_, e'⟩ | ⟨s', _⟩
        · exact more e e'
        · refine absurd (q2.mpr ?_) s'
          rw [k]; decide
      unfold sX2_takeHill_128 at e
      rcases e' with ⟨s', e'⟩ | ⟨s', e'⟩
      · have nk := q2.mp s'
        have k' : ¬ hI hr (Z 16) 6 = (1 : Int32) := fun z => k ((kw_r (ps_m P)).mpr z)
        unfold sX15_isHill_22 sX15_isHill_62 at e'
        replace e' := br_s e'
        rcases e' with ⟨z, _⟩ | ⟨_, e'⟩
        · exact absurd z k'
        rw [← Option.some.inj e, ← Option.some.inj e']
        refine Or.inr ⟨i1n0, rfl, ps_fl P, fun z => nk ?_⟩
        have z : hI hc (Z 3) 4 = (3 : Int32) := z
        rw [z]; rfl
      · rw [← Option.some.inj e, ← Option.some.inj e']
        exact Or.inl (Or.inr ⟨i1n0, i1n0, P⟩)
end
