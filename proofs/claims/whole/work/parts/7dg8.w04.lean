section
/-! men that are firm -/
def bc (x : Int32) : Nat → Nat
  | 0 => 0
  | n + 1 => bc x n + (if ((x >>> ((nI n) &&& 31)) &&& (1 : Int32)) = 0 then 0 else 1)
theorem bc_le (x : Int32) : ∀ n, bc x n ≤ n
  | 0 => Nat.le_refl 0
  | n + 1 => by
    have := bc_le x n
    show bc x n + (if ((x >>> ((nI n) &&& 31)) &&& (1 : Int32)) = 0 then 0 else 1) ≤ n + 1
    split <;> omega
theorem bc_all {x : Int32} : ∀ n, bc x n = n → ∀ q, q < n → ¬ ((x >>> ((nI q) &&& 31)) &&& (1 : Int32)) = 0
  | 0, _, q, hq => by omega
  | n + 1, e, q, hq => by
    have e : bc x n + (if ((x >>> ((nI n) &&& 31)) &&& (1 : Int32)) = 0 then 0 else 1) = n + 1 := e
    have := bc_le x n
    by_cases z : ((x >>> ((nI n) &&& 31)) &&& (1 : Int32)) = 0
    · rw [if_pos z] at e; omega
    · rw [if_neg z] at e
      by_cases y : q = n
      · rw [y]; exact z
      · exact bc_all n (by omega) q (by omega)
theorem bit_d : ∀ (q r : Fin 12), ((((1 : Int32) <<< ((nI q.val) &&& 31)) >>> ((nI r.val) &&& 31)) &&& (1 : Int32)) = (if q.val = r.val then 1 else 0) := by decide +kernel
theorem bit_o {x : Int32} {q r : Nat} (hq : q < 12) (hr : r < 12) : (((x ||| ((1 : Int32) <<< ((nI q) &&& 31))) >>> ((nI r) &&& 31)) &&& (1 : Int32)) = ((x >>> ((nI r) &&& 31)) &&& (1 : Int32)) ||| (if q = r then 1 else 0) := by
  have d : ((((1 : Int32) <<< ((nI q) &&& 31)) >>> ((nI r) &&& 31)) &&& (1 : Int32)) = (if q = r then 1 else 0) := bit_d ⟨q, hq⟩ ⟨r, hr⟩
  rw [sh_or, lo_or, d]
theorem b01 (y : Int32) : y &&& (1 : Int32) = 0 ∨ y &&& (1 : Int32) = 1 := by
  have i := rg_and (c := 1) (d := 1) (x := y) (y := (1 : Int32)) (rg_b rfl) (by decide)
  have : (y &&& (1 : Int32)).toInt = 0 ∨ (y &&& (1 : Int32)).toInt = 1 := by have := i.1; have := i.2; omega
  exact this.imp (fun z => Int32.toInt_inj.mp z) (fun z => Int32.toInt_inj.mp z)
theorem bc_set {x : Int32} {q : Nat} (hq : q < 12) (b : ((x >>> ((nI q) &&& 31)) &&& (1 : Int32)) = 0) : ∀ n, n ≤ 12 → bc (x ||| ((1 : Int32) <<< ((nI q) &&& 31))) n = bc x n + (if q < n then 1 else 0)
  | 0, _ => by rw [if_neg (by omega)]; rfl
  | n + 1, hn => by
    show bc (x ||| ((1 : Int32) <<< ((nI q) &&& 31))) n + (if (((x ||| ((1 : Int32) <<< ((nI q) &&& 31))) >>> ((nI n) &&& 31)) &&& (1 : Int32)) = 0 then 0 else 1) = bc x n + (if ((x >>> ((nI n) &&& 31)) &&& (1 : Int32)) = 0 then 0 else 1) + _
    rw [bc_set hq b n (by omega), bit_o hq (by omega)]
    by_cases e : q = n
    · subst e
      rw [b, if_neg (by omega : ¬ q < q), if_pos (by omega : q < q + 1), if_pos rfl, if_pos rfl, if_neg (by decide)]
    · rw [if_neg e, or_0]
      by_cases l : q < n
      · rw [if_pos l, if_pos (show q < n + 1 by omega)]; omega
      · rw [if_neg l, if_neg (show ¬ q < n + 1 by omega)]; omega
section
variable {T : Nat → Int} {N : Int} {F : Nat} {Z : Nat → Nat} {x2 : Int32} {hc hr oc or hc1 : Hp} {x : Int32} {o o' : Int32 × Hp}
/-- the word is one, or not, for both -/
theorem kw_r (P : PMn T N Z hc hr) : hI hc (Z 3) 4 = (1 : Int32) ↔ hI hr (Z 16) 6 = (1 : Int32) := by
  have f0 := ts_f P.2.2.2.2.1
  have z1 : (1 : Int32).toInt = 1 := rfl
  rw [← Int32.toInt_inj, ← Int32.toInt_inj, f0.2.2.1, z1]
  unfold km
  constructor
  · intro z; rw [if_neg (by omega), if_neg (by omega)]; exact z
  · intro z
    by_cases q0 : (hI hc (Z 3) 4).toInt = 0
    · rw [if_pos q0] at z; omega
    · rw [if_neg q0] at z
      by_cases q4 : (hI hc (Z 3) 4).toInt = 4
      · rw [if_pos q4] at z; omega
      · rw [if_neg q4] at z; exact z
/-- the class stops with a word at hand, the reference reads on: then it falls there -/
def Out2 (T : Nat → Int) (N : Int) (Z : Nat → Nat) (o o' : Int32 × Hp) : Prop := Out T N Z o o' ∨ (¬ o.1 = 0 ∧ o'.1 = 0 ∧ Fl2 Z o.2 o'.2 ∧ ¬ hI o.2 (Z 3) 4 = (3 : Int32))
theorem bl_16 (n12 : N ≤ 1200) (dg : ∀ j : Nat, (j : Int) < N → 0 ≤ T j ∧ T j ≤ 255) (D : ZD Z) (n2 : x2.toInt = N) : ∀ (f g : Nat) {hc hr : Hp} {i : Int32}, PS T N Z hc hr → ¬ (hI hc (Z 3) 6) &&& (32 : Int32) = 0 → 0 ≤ i.toInt → i.toInt ≤ 12 → (bc (hI hc (Z 2) 11) 12 : Int) = i.toInt → sX2_takeBlast_16 F f hc (Z 3) i = some o → sX15_isBlast_6 F g hr (Z 16) (Z 82) x2 = some o' → Out2 T N Z o o' := by
  have z1 : (1 : Int32).toInt = 1 := rfl
  have z12 : (12 : Int32).toInt = 12 := rfl
  intro f
  induction f with
  | zero => intro g hc hr i _ _ _ _ _ e; exact absurd e (by rw [sX2_takeBlast_16]; exact fun z => nomatch z)
  | succ f ih =>
    intro g hc hr i P ht i0 i12 cn e e'
    cases g with
    | zero => exact absurd e' (by rw [sX15_isBlast_6]; exact fun z => nomatch z)
    | succ g =>
      have fp : hI hc (Z 2) 11 = hI hr (Z 15) 19 := P.2.2.2.2.2.2.1 (11, 19) (by decide)
      have m12 := P.2.2.2.2.2.2.2.2.1.2
      rw [sX2_takeBlast_16] at e
      rw [sX15_isBlast_6] at e'
      replace e' := br_s e'
      rcases e' with ⟨k', e'⟩ | ⟨k', e'⟩
      rotate_left
      · -- no word
        have k : ¬ hI hc (Z 3) 4 = (1 : Int32) := fun z => k' ((kw_r (ps_m P)).mp z)
        have done : sX2_takeBlast_81 F hc = some o := by
          replace e := br_s e
          rcases e with ⟨_, e⟩ | ⟨_, e⟩
          · exact e
          · replace e := br_s e
            rcases e with ⟨z, _⟩ | ⟨_, e⟩
            · exact absurd z k
            · exact e
        unfold sX2_takeBlast_81 at done
        rw [← Option.some.inj done, ← Option.some.inj e']
        exact Or.inl (Or.inr ⟨i1n0, i1n0, P⟩)
      have k := (kw_r (ps_m P)).mpr k'
      replace e' := cl_s e'
      obtain ⟨o2, e2, e'⟩ := e'
      replace e := br_s e
      rcases e with ⟨l, e⟩ | ⟨l, e⟩
      · -- twelve men are firm: the thirteenth word is none of theirs
        have l := le_i l
        have all := bc_all (x := hI hc (Z 2) 11) 12 (by omega)
        unfold sX2_takeBlast_81 at e
        rw [← Option.some.inj e]
        have nk : ¬ hI hc (Z 3) 4 = (3 : Int32) := by rw [k]; decide
        -- what the class would have told
        have tm : o2.2 = hr ∧ (o2.1 = (-1 : Int32) ∨ (0 ≤ o2.1.toInt ∧ o2.1.toInt < (hI hc (Z 2) 3).toInt)) := mn_b n12 (ps_m P) e2
        rw [tm.1] at e'
        replace e' := br_s e'
        rcases e' with ⟨_, e'⟩ | ⟨b', e'⟩
        · unfold sX15_isBlast_40 at e'
          rw [← Option.some.inj e']
          exact Or.inr ⟨i1n0, rfl, ps_fl P, nk⟩
        have tm2 := tm.2.resolve_left b'
        replace e' := cl_s e'
        obtain ⟨r4, e4, e'⟩ := e'
        have y4 : r4 = Z 15 := r_eq P.2.1.1 e4
        rw [y4, ← fp] at e'
        have nx := nc_i tm2.1
        have xe : o2.1 = nI o2.1.toNatClampNeg := Int32.toInt_inj.mp (by rw [z_toInt (by omega)]; omega)
        have bt := all o2.1.toNatClampNeg (by omega)
        rw [← xe] at bt
        replace e' := br_s e'
        rcases e' with ⟨_, e'⟩ | ⟨nb, _⟩
        · unfold sX15_isBlast_40 at e'
          rw [← Option.some.inj e']
          exact Or.inr ⟨i1n0, rfl, ps_fl P, nk⟩
        · exact absurd ((b01 _).resolve_left bt) nb
      have l := nle_i l
      replace e := br_s e
      rcases e with ⟨_, e⟩ | ⟨nk, _⟩
      rotate_left
      · exact absurd k nk
      replace e := cl_s e
      obtain ⟨o1, e1, e⟩ := e
      obtain ⟨q1, q2, q3, q4⟩ := tm_r n12 (ps_m P) e1 e2
      rw [q1] at e
      rw [q2, ← q3] at e'
      unfold sX2_takeBlast_54 at e
      unfold sX15_isBlast_40 at e'
      replace e := br_s e
      replace e' := br_s e'
      rcases e with ⟨b, e⟩ | ⟨b, e⟩
      · rcases e' with ⟨_, e'⟩ | ⟨b', _⟩
        · rw [← Option.some.inj e, ← Option.some.inj e']; exact Or.inl (out_0 P)
        · exact absurd b b'
      rcases e' with ⟨b', _⟩ | ⟨_, e'⟩
      · exact absurd b' b
      have q4 := q4.resolve_left b
      have nx := nc_i q4.1
      have xe : o1.1 = nI o1.1.toNatClampNeg := Int32.toInt_inj.mp (by rw [z_toInt (by omega)]; omega)
      replace e := cl_s e
      obtain ⟨r5, e5, e⟩ := e
      have y5 : r5 = Z 2 := r_eq P.1.2.1 e5
      rw [y5] at e
      replace e' := cl_s e'
      obtain ⟨r4, e4, e'⟩ := e'
      have y4 : r4 = Z 15 := r_eq P.2.1.1 e4
      rw [y4, ← fp] at e'
      replace e := br_s e
      replace e' := br_s e'
      rcases e with ⟨c, e⟩ | ⟨c, e⟩
      rotate_left
      · rcases e' with ⟨_, e'⟩ | ⟨c', _⟩
        · rw [← Option.some.inj e, ← Option.some.inj e']; exact Or.inl (out_0 P)
        · exact absurd ((b01 _).resolve_left c) c'
      rcases e' with ⟨c', _⟩ | ⟨_, e'⟩
      · rw [c] at c'; exact absurd c' (by decide)
      replace e := cl_s e
      obtain ⟨r7, e7, e⟩ := e
      have y7 : r7 = Z 2 := r_eq P.1.2.1 e7
      rw [y7] at e
      replace e := nm_s e
      obtain ⟨h8, w8, e⟩ := e
      replace e := cl_s e
      obtain ⟨o9, e9, e⟩ := e
      replace e := nm_s e
      obtain ⟨v10, w10, e⟩ := e
      replace e' := cl_s e'
      obtain ⟨r6, e6, e'⟩ := e'
      have y6 : r6 = Z 15 := r_eq P.2.1.1 e6
      rw [y6, ← fp] at e'
      replace e' := nm_s e'
      obtain ⟨h7, w7, e'⟩ := e'
      replace e' := cl_s e'
      obtain ⟨o8, e8, e'⟩ := e'
      have rg : Rg 0 4095 ((hI hc (Z 2) 11) ||| ((1 : Int32) <<< (o1.1 &&& 31))) := rg_or (n := 12) P.2.2.2.2.2.2.2.2.2.2.2.2.1.2.2.2 (rg_shl (b := 1) (n := 11) (hi := 2048) (rg_b rfl) ⟨q4.1, by omega⟩ (by decide)) (by decide)
      have P8 : PB T N Z h8 h7 := by
        rw [w8, w7]
        exact pb_p (p := (11, 19)) D (by decide) (by decide) ⟨Or.inl (by decide), Or.inl (by decide), Or.inl (by decide), Or.inr ⟨rg, ht⟩⟩ (Or.inl (by decide)) (ps_b P)
      have P9 := ps_a n12 dg D n2 P8.1 P8.2 e9 e8
      have t10 : v10.toInt = i.toInt + 1 := by rw [w10, ta (by rw [z1]; omega), z1]
      have K9 := (adv_k n12 dg P8.1.2.2.1 P8.2.2.1 P8.2.2.2 e9).1
      refine ih g P9 (by rw [K9.2 _ _ (fun z => by have := z.2.2; omega), w8, rI_a (zne D)]; exact ht) (by omega) (by omega) ?_ e e'
      have k9 : hI o9 (Z 2) 11 = (hI hc (Z 2) 11) ||| ((1 : Int32) <<< (o1.1 &&& 31)) := by
        rw [(adv_k n12 dg P8.1.2.2.1 P8.2.2.1 P8.2.2.2 e9).1.2 _ _ (fun z => zn D z.1), w8, rI_s]
      have bs := bc_set (x := hI hc (Z 2) 11) (q := o1.1.toNatClampNeg) (by omega) (by rw [← xe]; exact c) 12 (by decide)
      rw [← xe, if_pos (by omega)] at bs
      rw [k9, bs]
      omega
end
end
section
/-! squares of the hill -/
theorem bj_1 (s : Nat) : bitJ (1 : Int64) s = decide (0 = s) := by
  have e : (1 : Int64) <<< ((0 : Int32).toInt64 &&& 63) = 1 := by decide
  have b := bj_one (x := (0 : Int32)) ⟨by decide, by decide⟩ s
  rw [e] at b
  exact b
theorem and_1 {y : Int64} (b : bitJ y 0 = true) : y &&& (1 : Int64) = 1 := by
  apply Int64.toBitVec_inj.mp
  apply BitVec.eq_of_getLsbD_eq
  intro i _
  show bitJ (y &&& 1) i = bitJ 1 i
  rw [bj_and, bj_1]
  by_cases z : 0 = i
  · rw [← z, b]; rfl
  · rw [decide_eq_false z, Bool.and_false]
theorem crt_le (a : Int64) : ∀ n, cRt a n ≤ n
  | 0 => Nat.le_refl 0
  | n + 1 => by
    have := crt_le a n
    show cRt a n + (if bitJ a n then 1 else 0) ≤ n + 1
    split <;> omega
theorem crt_set {a : Int64} {x : Int32} (i : Rg 0 63 x) (b : bitJ a x.toNatClampNeg = false) : ∀ n, cRt (a ||| ((1 : Int64) <<< (x.toInt64 &&& 63))) n = cRt a n + (if x.toNatClampNeg < n then 1 else 0)
  | 0 => by rw [if_neg (by omega)]; rfl
  | n + 1 => by
    show cRt (a ||| ((1 : Int64) <<< (x.toInt64 &&& 63))) n + (if bitJ (a ||| ((1 : Int64) <<< (x.toInt64 &&& 63))) n then 1 else 0) = cRt a n + (if bitJ a n then 1 else 0) + _
    rw [crt_set i b n, bj_or, bj_one i]
    by_cases e : x.toNatClampNeg = n
    · rw [← e, b, if_neg (by omega : ¬ x.toNatClampNeg < x.toNatClampNeg), if_pos (by omega : x.toNatClampNeg < x.toNatClampNeg + 1), decide_eq_true rfl]
      rfl
    · rw [decide_eq_false e, Bool.or_false]
      by_cases l : x.toNatClampNeg < n
      · rw [if_pos l, if_pos (show x.toNatClampNeg < n + 1 by omega)]; omega
      · rw [if_neg l, if_neg (show ¬ x.toNatClampNeg < n + 1 by omega)]; omega
section
variable {T : Nat → Int} {N : Int} {F : Nat} {Z : Nat → Nat} {x2 : Int32} {hc hr oc or hc1 : Hp} {x : Int32} {o o' : Int32 × Hp}
/-- both note a square of the hill -/
theorem pb_h (D : ZD Z) {v : Int64} (g : ¬ (hI hc (Z 3) 6) &&& (128 : Int32) = 0) (P : PB T N Z hc hr) : PB T N Z (wJ hc (Z 2) 13 v) (wJ hr (Z 15) 21 v) := by
  obtain ⟨⟨p1, p2, p3, p4, s1, s2, s3, s4, s5, s6, s7, s8, s9⟩, q⟩ := P
  exact ⟨⟨p1, p2, p3, p4, s1, s2, by rw [r_J, r_J, if_pos ⟨rfl, rfl⟩, if_pos ⟨rfl, rfl⟩], s4, s5, s6, s7, s8, s9.1, fun z => absurd z g, s9.2.2⟩, q⟩
/-- one square more -/
theorem hi_st (n12 : N ≤ 1200) (dg : ∀ j : Nat, (j : Int) < N → 0 ≤ T j ∧ T j ≤ 255) (D : ZD Z) (n2 : x2.toInt = N) {k2 : Hp → Nat → Int32 → Option (Int32 × Hp)} {k8 : Hp → Nat → Nat → Int32 → Int32 → Option (Int32 × Hp)} {i : Int32} (P : PS T N Z hc hr) (ht : ¬ (hI hc (Z 3) 6) &&& (128 : Int32) = 0) (e : sX2_takeHill_20 F k2 hc (Z 3) i = some o) (e' : sX15_isHill_22 F k8 hr (Z 16) (Z 82) x2 = some o') : Out T N Z o o' ∨ ∃ oc or : Hp, PS T N Z oc or ∧ hI oc (Z 3) 6 = hI hc (Z 3) 6 ∧ cRt (hJ oc (Z 2) 13) 64 = cRt (hJ hc (Z 2) 13) 64 + 1 ∧ k2 oc (Z 3) (i + (1 : Int32)) = some o ∧ k8 or (Z 16) (Z 82) x2 (1 : Int32) = some o' := by
  have z1 : (1 : Int32).toInt = 1 := rfl
  have z97 : (97 : Int32).toInt = 97 := rfl
  unfold sX2_takeHill_20 sX2_takeHill_44 at e
  unfold sX15_isHill_22 sX15_isHill_62 sX15_isHill_128 at e'
  replace e := cl_s e
  obtain ⟨o1, e1, e⟩ := e
  obtain ⟨q1, v1⟩ := one_r n12 (ps_m P) e1
  rw [q1] at e
  have f0 : hI hc (Z 2) 0 = hI hr (Z 15) 0 := P.2.2.2.2.2.2.1 (0, 0) (by decide)
  rcases v1 with ⟨v1, n1⟩ | ⟨v1, ⟨k1, l1⟩, y1, rg1⟩
  · replace e := br_s e
    rcases e with ⟨_, e⟩ | ⟨nb, _⟩
    rotate_left
    · exact absurd v1 nb
    left
    replace e' := br_s e'
    rcases e' with ⟨k, e'⟩ | ⟨k, e'⟩
    · replace e' := br_s e'
      rcases e' with ⟨l, e'⟩ | ⟨l, e'⟩
      · exact absurd ⟨k, l⟩ n1
      · rw [← Option.some.inj e, ← Option.some.inj e']; exact out_0 P
    · rw [← Option.some.inj e, ← Option.some.inj e']; exact out_0 P
  replace e := br_s e
  rcases e with ⟨nb, _⟩ | ⟨_, e⟩
  · exact absurd nb v1
  replace e' := br_s e'
  rcases e' with ⟨_, e'⟩ | ⟨k, _⟩
  rotate_left
  · exact absurd k1 k
  replace e' := br_s e'
  rcases e' with ⟨_, e'⟩ | ⟨l, _⟩
  rotate_left
  · exact absurd l1 l
  replace e' := (gd_s e').2
  replace e' := cl_s e'
  obtain ⟨r4, e4, e'⟩ := e'
  have y4 : r4 = Z 15 := r_eq P.2.1.1 e4
  rw [y4, ← y1, ← f0] at e'
  replace e := cl_s e
  obtain ⟨r3, e3, e⟩ := e
  have y3 : r3 = Z 2 := r_eq P.1.2.1 e3
  rw [y3] at e
  replace e := br_s e
  replace e' := br_s e'
  rcases e with ⟨lf, e⟩ | ⟨lf, e⟩
  rotate_left
  · rcases e' with ⟨lf', _⟩ | ⟨_, e'⟩
    · exact absurd lf' lf
    · left; rw [← Option.some.inj e, ← Option.some.inj e']; exact out_0 P
  rcases e' with ⟨_, e'⟩ | ⟨lf', _⟩
  rotate_left
  · exact absurd lf lf'
  have lf := lt_i lf
  have l97 : (o1.1 - (97 : Int32)).toInt = o1.1.toInt - 97 := by rw [ts (by rw [z97]; have := rg1.1; have := rg1.2; omega), z97]
  rw [l97] at lf
  replace e' := (gd_s e').2
  replace e' := nm_s e'
  obtain ⟨v7, w7, e'⟩ := e'
  replace e := cl_s e
  obtain ⟨hc5, e5, e⟩ := e
  replace e' := cl_s e'
  obtain ⟨hr8, e8, e'⟩ := e'
  have PB0 := ps_b P
  have P5 := ps_a n12 dg D n2 PB0.1 PB0.2 e5 e8
  have Kc := (adv_k n12 dg P.2.2.1 PB0.2.2.1 PB0.2.2.2 e5).1
  have g0 : hI hc5 (Z 2) 0 = hI hr8 (Z 15) 0 := P5.2.2.2.2.2.2.1 (0, 0) (by decide)
  have g1 : hI hc5 (Z 2) 1 = hI hr8 (Z 15) 1 := P5.2.2.2.2.2.2.1 (1, 1) (by decide)
  have hJe : hJ hc5 (Z 2) 13 = hJ hr8 (Z 15) 21 := P5.2.2.2.2.2.2.2.1
  have fE : hI hc5 (Z 2) 0 = hI hc (Z 2) 0 := Kc.2 _ _ (fun z => zn D z.1)
  replace e := cl_s e
  obtain ⟨r6, e6, e⟩ := e
  have y6 : r6 = Z 2 := r_eq P5.1.2.1 e6
  rw [y6] at e
  replace e := cl_s e
  obtain ⟨o7, e7, e⟩ := e
  replace e' := cl_s e'
  obtain ⟨r9, e9, e'⟩ := e'
  have y9 : r9 = Z 15 := r_eq P5.2.1.1 e9
  rw [y9, ← g1] at e'
  replace e' := cl_s e'
  obtain ⟨o10, e10, e'⟩ := e'
  obtain ⟨t1, t2, t3, t4⟩ := in_r P5.2.2.2.2.1 e7 e10
  rw [t1] at e
  rw [t2, ← t3] at e'
  replace e := br_s e
  replace e' := br_s e'
  rcases e with ⟨b, e⟩ | ⟨b, e⟩
  · rcases e' with ⟨_, e'⟩ | ⟨b', _⟩
    · left; rw [← Option.some.inj e, ← Option.some.inj e']; exact out_0 P5
    · exact absurd b b'
  rcases e' with ⟨b', _⟩ | ⟨_, e'⟩
  · exact absurd b' b
  obtain ⟨vv, vl1, vh1⟩ := t4 b
  rw [z1] at vl1
  have f8 : Rg 3 8 (hI hc5 (Z 2) 0) := P5.2.2.2.2.2.2.2.2.2.2.2.2.1.1
  have r8 : Rg 3 8 (hI hc5 (Z 2) 1) := P5.2.2.2.2.2.2.2.2.2.2.2.2.1.2.1
  have f8a := f8.1
  have f8b := f8.2
  have r8b := r8.2
  have g97 := rg1.1
  -- the square
  have s1 : ((hI hc5 (Z 3) 5) - (1 : Int32)).toInt = (hI hc5 (Z 3) 5).toInt - 1 := by rw [ts (by rw [z1]; omega), z1]
  have mb1 : 0 ≤ ((hI hc5 (Z 3) 5).toInt - 1) * (hI hc5 (Z 2) 0).toInt ∧ ((hI hc5 (Z 3) 5).toInt - 1) * (hI hc5 (Z 2) 0).toInt ≤ 7 * (hI hc5 (Z 2) 0).toInt := ⟨Int.mul_nonneg (by omega) (by omega), Int.mul_le_mul_of_nonneg_right (by omega) (by omega)⟩
  have m1 : (((hI hc5 (Z 3) 5) - (1 : Int32)) * (hI hc5 (Z 2) 0)).toInt = ((hI hc5 (Z 3) 5).toInt - 1) * (hI hc5 (Z 2) 0).toInt := by rw [tm (by rw [s1]; omega), s1]
  generalize hm : ((hI hc5 (Z 3) 5).toInt - 1) * (hI hc5 (Z 2) 0).toInt = mm at *
  rw [← fE] at lf
  have a1 : ((((hI hc5 (Z 3) 5) - (1 : Int32)) * (hI hc5 (Z 2) 0)) + o1.1).toInt = mm + o1.1.toInt := by rw [ta (by rw [m1]; omega), m1]
  have a2 : (((((hI hc5 (Z 3) 5) - (1 : Int32)) * (hI hc5 (Z 2) 0)) + o1.1) - (97 : Int32)).toInt = mm + o1.1.toInt - 97 := by rw [ts (by rw [a1, z97]; omega), a1, z97]
  have a3 : ((((hI hc5 (Z 3) 5) - (1 : Int32)) * (hI hc5 (Z 2) 0)) + (o1.1 - (97 : Int32))).toInt = mm + (o1.1.toInt - 97) := by rw [ta (by rw [m1, l97]; omega), m1, l97]
  have sq : ((((hI hc5 (Z 3) 5) - (1 : Int32)) * (hI hc5 (Z 2) 0)) + (o1.1 - (97 : Int32))) = (((((hI hc5 (Z 3) 5) - (1 : Int32)) * (hI hc5 (Z 2) 0)) + o1.1) - (97 : Int32)) := Int32.toInt_inj.mp (by rw [a2, a3]; omega)
  have is : Rg 0 63 (((((hI hc5 (Z 3) 5) - (1 : Int32)) * (hI hc5 (Z 2) 0)) + o1.1) - (97 : Int32)) := ⟨by omega, by omega⟩
  replace e := cl_s e
  obtain ⟨r9', e9', e⟩ := e
  have y9' : r9' = Z 2 := r_eq P5.1.2.1 e9'
  rw [y9'] at e
  replace e := nm_s e
  obtain ⟨v10, w10, e⟩ := e
  replace e := cl_s e
  obtain ⟨r11, e11, e⟩ := e
  have y11 : r11 = Z 2 := r_eq P5.1.2.1 e11
  rw [y11] at e
  replace e' := cl_s e'
  obtain ⟨r12, e12, e'⟩ := e'
  have y12 : r12 = Z 15 := r_eq P5.2.1.1 e12
  replace e' := cl_s e'
  obtain ⟨r13, e13, e'⟩ := e'
  have y13 : r13 = Z 15 := r_eq P5.2.1.1 e13
  rw [y12, y13, ← g0, ← vv, w7, sq, ← hJe] at e'
  rw [w10] at e
  generalize hx : (((((hI hc5 (Z 3) 5) - (1 : Int32)) * (hI hc5 (Z 2) 0)) + o1.1) - (97 : Int32)) = sx at *
  have nx := nc_i is.1
  replace e := br_s e
  replace e' := br_s e'
  rcases e with ⟨c, e⟩ | ⟨c, e⟩
  rotate_left
  · have bt := bit_at is (cmp0 c)
    rcases e' with ⟨_, e'⟩ | ⟨c', _⟩
    · left; rw [← Option.some.inj e, ← Option.some.inj e']; exact out_0 P5
    · refine absurd ?_ c'
      rw [and_1 (by rw [bit_shr is]; exact bt)]; decide
  have bf : bitJ (hJ hc5 (Z 2) 13) sx.toNatClampNeg = false := by
    cases z : bitJ (hJ hc5 (Z 2) 13) sx.toNatClampNeg with
    | false => rfl
    | true =>
      have y : bitJ ((hJ hc5 (Z 2) 13) &&& ((1 : Int64) <<< (sx.toInt64 &&& 63))) sx.toNatClampNeg = true := by rw [bj_and, bj_one is, z, decide_eq_true rfl]; rfl
      rw [cmp_eq c, bj_zero] at y
      exact absurd y (by decide)
  rcases e' with ⟨c', _⟩ | ⟨_, e'⟩
  · rw [bit_test is c'] at bf; exact absurd bf (by decide)
  replace e := cl_s e
  obtain ⟨r14, e14, e⟩ := e
  have y14 : r14 = Z 2 := r_eq P5.1.2.1 e14
  rw [y14] at e
  replace e := nm_s e
  obtain ⟨h14, w14, e⟩ := e
  replace e := cl_s e
  obtain ⟨o15, e15, e⟩ := e
  replace e := nm_s e
  obtain ⟨v16, w16, e⟩ := e
  replace e' := cl_s e'
  obtain ⟨r15, e15', e'⟩ := e'
  have y15 : r15 = Z 15 := r_eq P5.2.1.1 e15'
  replace e' := cl_s e'
  obtain ⟨r16, e16', e'⟩ := e'
  have y16 : r16 = Z 15 := r_eq P5.2.1.1 e16'
  rw [y15, y16, ← g0, sq, ← hJe] at e'
  replace e' := nm_s e'
  obtain ⟨h17, w17, e'⟩ := e'
  replace e' := cl_s e'
  obtain ⟨o18, e18, e'⟩ := e'
  have P14 : PB T N Z h14 h17 := by rw [w14, w17]; exact pb_h D (by rw [Kc.2 _ _ (fun z => by have := z.2.2; omega)]; exact ht) (ps_b P5)
  have P15 := ps_a n12 dg D n2 P14.1 P14.2 e15 e18
  have K15 := (adv_k n12 dg P14.1.2.2.1 P14.2.2.1 P14.2.2.2 e15).1
  right
  refine ⟨o15, o18, P15, ?_, ?_, by rw [← w16]; exact e, e'⟩
  · rw [K15.2 _ _ (fun z => by have := z.2.2; omega), w14]
    exact Kc.2 _ _ (fun z => by have := z.2.2; omega)
  have j15 : hJ o15 (Z 2) 13 = (hJ hc5 (Z 2) 13) ||| ((1 : Int64) <<< (sx.toInt64 &&& 63)) := by
    rw [K15.1.2, w14, r_J, if_pos ⟨rfl, rfl⟩]
  have j5 : hJ hc5 (Z 2) 13 = hJ hc (Z 2) 13 := Kc.1.2 _ _
  rw [j15, crt_set is bf 64, if_pos (by have := is.2; omega), j5]
theorem hi_2 (n12 : N ≤ 1200) (dg : ∀ j : Nat, (j : Int) < N → 0 ≤ T j ∧ T j ≤ 255) (D : ZD Z) (n2 : x2.toInt = N) : ∀ (f g : Nat) {hc hr : Hp} {i y : Int32}, PS T N Z hc hr → ¬ (hI hc (Z 3) 6) &&& (128 : Int32) = 0 → 0 ≤ i.toInt → (y = 0 ↔ i = 0) → (cRt (hJ hc (Z 2) 13) 64 : Int) = i.toInt → sX2_takeHill_2 F f hc (Z 3) i = some o → sX15_isHill_8 F g hr (Z 16) (Z 82) x2 y = some o' → Out2 T N Z o o' := by
  have z0 : (0 : Int32).toInt = 0 := rfl
  have z1 : (1 : Int32).toInt = 1 := rfl
  have z64 : (64 : Int32).toInt = 64 := rfl
  intro f
  induction f with
  | zero => intro g hc hr i y _ _ _ _ _ e; exact absurd e (by rw [sX2_takeHill_2]; exact fun z => nomatch z)
  | succ f ih =>
    intro g hc hr i y P ht i0 hy cn e e'
    cases g with
    | zero => exact absurd e' (by rw [sX15_isHill_8]; exact fun z => nomatch z)
    | succ g =>
      have cl := crt_le (hJ hc (Z 2) 13) 64
      rw [sX2_takeHill_2] at e
      rw [sX15_isHill_8] at e'
      replace e := br_s e
      rcases e with ⟨l, _⟩ | ⟨_, e⟩
      · have l := lt_i l; omega
      have more : sX2_takeHill_20 F (sX2_takeHill_2 F f) hc (Z 3) i = some o → sX15_isHill_22 F (sX15_isHill_8 F g) hr (Z 16) (Z 82) x2 = some o' → Out2 T N Z o o' := fun e e' => by
        rcases hi_st n12 dg D n2 P ht e e' with q | ⟨oc, or, P1, c6, c1, k1, k2⟩
        · exact Or.inl q
        · have ti : (i + (1 : Int32)).toInt = i.toInt + 1 := by rw [ta (by rw [z1]; omega), z1]
          refine ih g P1 (by rw [c6]; exact ht) (by omega) ⟨fun z => absurd z (by decide), fun z => ?_⟩ (by omega) k1 k2
          have : (i + (1 : Int32)).toInt = 0 := by rw [z]; rfl
          omega
      replace e := br_s e
      replace e' := br_s e'
      rcases e with ⟨b, e⟩ | ⟨b, e⟩
      · rcases e' with ⟨_, e'⟩ | ⟨b', _⟩
        · exact more e e'
        · exact absurd (hy.mpr b) b'
      rcases e' with ⟨b', _⟩ | ⟨_, e'⟩
      · exact absurd (hy.mp b') b
      replace e' := cl_s e'
      obtain ⟨o2, e2, e'⟩ := e'
      obtain ⟨q1, q2⟩ := sg_r P.2.2.1 P.2.2.2.1 P.2.2.2.2.1 (kd := 3) (Or.inl ⟨rfl, rfl⟩) e2
      rw [q1] at e'
      replace e := br_s e
      replace e' := br_s e'
      rcases e with ⟨k, e⟩ | ⟨k, e⟩
      · rcases e' with ⟨_, e'⟩ | ⟨s', _⟩
        · exact more e e'
        · refine absurd (q2.mpr ?_) s'
          rw [k]; decide
      unfold sX2_takeHill_128 at e
      rcases e' with ⟨s', e'⟩ | ⟨s', e'⟩
      · have nk := q2.mp s'
        have k' : ¬ hI hr (Z 16) 6 = (1 : Int32) := fun z => k ((kw_r (ps_m P)).mpr z)
        unfold sX15_isHill_22 sX15_isHill_62 at e'
        replace e' := br_s e'
        rcases e' with ⟨z, _⟩ | ⟨_, e'⟩
        · exact absurd z k'
        rw [← Option.some.inj e, ← Option.some.inj e']
        refine Or.inr ⟨i1n0, rfl, ps_fl P, fun z => nk ?_⟩
        have z : hI hc (Z 3) 4 = (3 : Int32) := z
        rw [z]; rfl
      · rw [← Option.some.inj e, ← Option.some.inj e']
        exact Or.inl (Or.inr ⟨i1n0, i1n0, P⟩)
end
end
section
/-! what men become -/
def LB (T : Nat → Int) (N : Int) (Z : Nat → Nat) (man : Int32) (i : Nat) (mine : Int32) (hc hr : Hp) : Prop := PS T N Z (wI hc (Z 31) man.toNatClampNeg 0) hr ∧ (0 ≤ man.toInt ∧ man.toInt < (hI hc (Z 2) 3).toInt) ∧ (hI hc (Z 31) man.toNatClampNeg).toInt = (i : Int) ∧ (∀ j : Nat, j < i → hI hc (Z 30) (6 * man.toNatClampNeg + j) = hI hr (Z 80) (6 * man.toNatClampNeg + j) ∧ Rg 0 11 (hI hr (Z 80) (6 * man.toNatClampNeg + j))) ∧ Rg 0 4095 mine ∧ (¬ man = hI hc (Z 2) 4) ∧ ∀ q : Nat, q < 12 → (Bq mine q ↔ ∃ j : Nat, j < i ∧ (hI hr (Z 80) (6 * man.toNatClampNeg + j)).toInt = (q : Int))
section
variable {T : Nat → Int} {N : Int} {F : Nat} {Z : Nat → Nat} {x2 : Int32} {hc hr oc or hc1 : Hp} {x man mine : Int32} {o o' : Int32 × Hp} {i : Nat}
/-- lookups are as ever -/
theorem pm_w (D : ZD Z) {k : Nat} {v : Int32} (P : PS T N Z (wI hc (Z 31) k v) hr) : PMn T N Z hc hr := by
  obtain ⟨p1, p2, p3, p4, p5, s1, s2, s3, s4, s5, s6⟩ := P
  have w : ∀ {a : Nat}, a ∈ zl → ¬ a = 31 → ∀ j, hI (wI hc (Z 31) k v) (Z a) j = hI hc (Z a) j := fun ha n j => rI_a (zne D n ha)
  refine ⟨p1, p2, ?_, p4, ?_, ?_, ?_, fun j hj => ?_⟩
  · obtain ⟨a1, a2, a3, b, a4, a5, a6⟩ := p3
    have y : b = Z 49 := r_eq p1.2.2.1 a4
    rw [y] at a4 a5 a6
    refine ⟨a1, a2, ?_, Z 49, a4, a5, fun j hj => ?_⟩
    · rw [w (by decide) (by decide)] at a3; exact a3
    · have := a6 j hj
      rw [w (by decide) (by decide)] at this; exact this
  · obtain ⟨p', k', A, B', ek⟩ := p5
    rw [w (by decide) (by decide), w (by decide) (by decide), w (by decide) (by decide), w (by decide) (by decide)] at A
    exact ⟨p', k', A, B', ek⟩
  · have := s2 (3, 2) (by decide)
    rw [w (by decide) (by decide)] at this; exact this
  · rw [w (by decide) (by decide)] at s4; exact s4
  · have := s5 j (by rw [w (by decide) (by decide)]; exact hj)
    rw [w (by decide) (by decide)] at this; exact this
/-- the reference's look at those that stand already -/
theorem bk_0 {k62 : Hp → Nat → Nat → Int32 → Int32 → Int32 → Option (Int32 × Hp)} {x3 x4 x5 : Int32} : ∀ (f : Nat) {x7 : Int32}, sX15_isBecoming_138 F k62 f hr (Z 16) (Z 82) x2 x3 x4 x5 (0 : Int32) x7 = some o' → o' = ((0 : Int32), hr) := by
  intro f
  induction f with
  | zero => intro x7 e; exact absurd e (by rw [sX15_isBecoming_138]; exact fun z => nomatch z)
  | succ f ih =>
    intro x7 e
    rw [sX15_isBecoming_138] at e
    replace e := br_s e
    rcases e with ⟨_, e⟩ | ⟨_, e⟩
    · replace e := br_s e
      rcases e with ⟨_, e⟩ | ⟨n, _⟩
      · exact (Option.some.inj e).symm
      · exact absurd rfl n
    replace e := cl_s e
    obtain ⟨r9, _, e⟩ := e
    replace e := cl_s e
    obtain ⟨r10, _, e⟩ := e
    replace e := (gd_s e).2
    have go : ∀ {t0 : Int32}, sX15_isBecoming_172 F k62 (sX15_isBecoming_138 F k62 f) hr (Z 16) (Z 82) x2 x3 x4 x5 x7 t0 (0 : Int32) = some o' → o' = ((0 : Int32), hr) := fun {t0} e => by
      unfold sX15_isBecoming_172 at e
      replace e := nm_s e
      obtain ⟨v1, w1, e⟩ := e
      replace e := nm_s e
      obtain ⟨v2, _, e⟩ := e
      have z : v1 = 0 := by
        rw [w1]
        apply Int32.toBitVec_inj.mp
        rw [Int32.toBitVec_and]
        exact BitVec.zero_and
      rw [z] at e
      exact ih e
    replace e := br_s e
    rcases e with ⟨_, e⟩ | ⟨_, e⟩
    · exact go e
    · exact go e
theorem bk_1 (R : ZR Z hr) {k62 : Hp → Nat → Nat → Int32 → Int32 → Int32 → Option (Int32 × Hp)} {x3 x4 x5 : Int32} (x30 : 0 ≤ x3.toInt ∧ x3.toInt < 12) (x40 : 0 ≤ x4.toInt ∧ x4.toInt ≤ 6) : ∀ (f : Nat) {x7 : Int32}, 0 ≤ x7.toInt → x7.toInt ≤ x4.toInt → sX15_isBecoming_138 F k62 f hr (Z 16) (Z 82) x2 x3 x4 x5 (1 : Int32) x7 = some o' → (o' = ((0 : Int32), hr) ∧ ∃ j : Nat, x7.toInt ≤ (j : Int) ∧ (j : Int) < x4.toInt ∧ hI hr (Z 80) (6 * x3.toNatClampNeg + j) = x5) ∨ ((∀ j : Nat, x7.toInt ≤ (j : Int) → (j : Int) < x4.toInt → ¬ hI hr (Z 80) (6 * x3.toNatClampNeg + j) = x5) ∧ ∃ o8 : Hp, sX15_nextToken F (wI hr (Z 80) (6 * x3.toNatClampNeg + x4.toNatClampNeg) x5) (Z 16) (Z 82) x2 = some o8 ∧ k62 o8 (Z 16) (Z 82) x2 x3 (x4 + (1 : Int32)) = some o') := by
  have z1 : (1 : Int32).toInt = 1 := rfl
  have z6 : (6 : Int32).toInt = 6 := rfl
  have m6 : ((6 : Int32) * x3).toInt = 6 * x3.toInt := by rw [tm (by rw [z6]; omega), z6]
  have n3 := nc_i x30.1
  have n4 := nc_i x40.1
  intro f
  induction f with
  | zero => intro x7 _ _ e; exact absurd e (by rw [sX15_isBecoming_138]; exact fun z => nomatch z)
  | succ f ih =>
    intro x7 x70 x74 e
    rw [sX15_isBecoming_138] at e
    replace e := br_s e
    rcases e with ⟨l, e⟩ | ⟨l, e⟩
    · have l := le_i l
      replace e := br_s e
      rcases e with ⟨n, _⟩ | ⟨_, e⟩
      · exact absurd n (by decide)
      replace e := cl_s e
      obtain ⟨r3, e3, e⟩ := e
      rw [r_eq R.1 e3] at e
      replace e := cl_s e
      obtain ⟨r4, e4, e⟩ := e
      rw [r_eq R.2.2.2.2.2.2.2.2.1 e4] at e
      replace e := (gd_s e).2
      replace e := nm_s e
      obtain ⟨h6, w6, e⟩ := e
      replace e := nm_s e
      obtain ⟨v7, w7, e⟩ := e
      replace e := cl_s e
      obtain ⟨o8, e8, e⟩ := e
      have ad : (((6 : Int32) * x3) + x4).toInt = 6 * x3.toInt + x4.toInt := by rw [ta (by rw [m6]; omega), m6]
      have na := nc_i (x := ((6 : Int32) * x3) + x4) (by omega)
      have w : (((6 : Int32) * x3) + x4).toNatClampNeg = 6 * x3.toNatClampNeg + x4.toNatClampNeg := by omega
      rw [w6, w] at e8
      rw [w7] at e
      exact Or.inr ⟨fun j j1 j2 => by omega, o8, e8, e⟩
    have l := nle_i l
    replace e := cl_s e
    obtain ⟨r9, e9, e⟩ := e
    rw [r_eq R.1 e9] at e
    replace e := cl_s e
    obtain ⟨r10, e10, e⟩ := e
    rw [r_eq R.2.2.2.2.2.2.2.2.1 e10] at e
    replace e := (gd_s e).2
    have n7 := nc_i x70
    have ad : (((6 : Int32) * x3) + x7).toInt = 6 * x3.toInt + x7.toInt := by rw [ta (by rw [m6]; omega), m6]
    have na := nc_i (x := ((6 : Int32) * x3) + x7) (by omega)
    have w : (((6 : Int32) * x3) + x7).toNatClampNeg = 6 * x3.toNatClampNeg + x7.toNatClampNeg := by omega
    rw [w] at e
    replace e := br_s e
    rcases e with ⟨b, e⟩ | ⟨b, e⟩
    · unfold sX15_isBecoming_172 at e
      replace e := nm_s e
      obtain ⟨v1, w1, e⟩ := e
      replace e := nm_s e
      obtain ⟨v2, _, e⟩ := e
      have z : v1 = 0 := by rw [w1]; decide
      rw [z] at e
      exact Or.inl ⟨bk_0 f e, x7.toNatClampNeg, by omega, by omega, b⟩
    · unfold sX15_isBecoming_172 at e
      replace e := nm_s e
      obtain ⟨v1, w1, e⟩ := e
      replace e := nm_s e
      obtain ⟨v2, w2, e⟩ := e
      have z : v1 = 1 := by rw [w1]; decide
      rw [z] at e
      have t2 : v2.toInt = x7.toInt + 1 := by rw [w2, ta (by rw [z1]; omega), z1]
      rcases ih (by omega) (by omega) e with ⟨a1, j, a2, a3, a4⟩ | ⟨a1, a2⟩
      · exact Or.inl ⟨a1, j, by omega, a3, a4⟩
      · refine Or.inr ⟨fun j j1 j2 => ?_, a2⟩
        by_cases y : (j : Int) = x7.toInt
        · have yy : j = x7.toNatClampNeg := by omega
          rw [yy]; exact b
        · exact a1 j (by omega) j2
end
end
section
/-! one man more that he becomes -/
section
variable {T : Nat → Int} {N : Int} {F : Nat} {Z : Nat → Nat} {x2 : Int32} {hc hr oc or hc1 : Hp} {x man mine xi : Int32} {o o' : Int32 × Hp} {i : Nat}
theorem nI_c {y : Int32} (y0 : 0 ≤ y.toInt) (y12 : y.toInt < 12) : y = nI y.toNatClampNeg := Int32.toInt_inj.mp (by
  have := nc_i y0
  rw [z_toInt (by omega)]; omega)
theorem be_st (n12 : N ≤ 1200) (dg : ∀ j : Nat, (j : Int) < N → 0 ≤ T j ∧ T j ≤ 255) (D : ZD Z) (n2 : x2.toInt = N) {k60 : Hp → Nat → Int32 → Int32 → Int32 → Option (Int32 × Hp)} {k62 : Hp → Nat → Nat → Int32 → Int32 → Int32 → Option (Int32 × Hp)} (i6 : i < 6) (hx : xi.toInt = (i : Int)) (B : LB T N Z man i mine hc hr) (e : sX2_takeBecomes_78 F k60 hc (Z 3) man mine xi = some o) (e' : sX15_isBecoming_77 F k62 hr (Z 16) (Z 82) x2 man xi = some o') : Out T N Z o o' ∨ ∃ (oc or : Hp) (mine' : Int32), LB T N Z man (i + 1) mine' oc or ∧ k60 oc (Z 3) man mine' (xi + (1 : Int32)) = some o ∧ k62 or (Z 16) (Z 82) x2 man (xi + (1 : Int32)) = some o' := by
  have z1 : (1 : Int32).toInt = 1 := rfl
  have z6 : (6 : Int32).toInt = 6 := rfl
  obtain ⟨P, hm, ci, bj, rm, nr, mb⟩ := B
  have M := pm_w D P
  have fl : Fl2 Z hc hr := (ts_f M.2.2.2.2.1).1
  have m12 := M.2.2.2.2.2.2.1.2
  have nm := nc_i hm.1
  have w31 : ∀ {a : Nat}, a ∈ zl → ¬ a = 31 → ∀ j, hI (wI hc (Z 31) man.toNatClampNeg 0) (Z a) j = hI hc (Z a) j := fun ha n j => rI_a (zne D n ha)
  have no : ∀ {y : Int32}, sX15_isBecoming_138 F k62 F hr (Z 16) (Z 82) x2 man xi y (0 : Int32) (0 : Int32) = some o' → some ((0 : Int32), hc) = some o → Out T N Z o o' := fun {y} e' e => by
    have q := bk_0 F e'
    rw [← Option.some.inj e, q]
    exact Or.inl ⟨rfl, rfl, fl⟩
  unfold sX2_takeBecomes_78 sX2_takeBecomes_108 sX2_takeBecomes_131 at e
  unfold sX15_isBecoming_77 sX15_isBecoming_132 sX15_isBecoming_133 at e'
  replace e := cl_s e
  obtain ⟨o1, e1, e⟩ := e
  replace e' := cl_s e'
  obtain ⟨o2, e2, e'⟩ := e'
  obtain ⟨q1, q2, q3, q4⟩ := tm_r n12 M e1 e2
  rw [q1] at e
  rw [q2, ← q3] at e'
  replace e := br_s e
  replace e' := br_s e'
  rcases e with ⟨b, e⟩ | ⟨b, e⟩
  · rcases e' with ⟨_, e'⟩ | ⟨b', _⟩
    · exact Or.inl (no e' e)
    · exact absurd b b'
  rcases e' with ⟨b', _⟩ | ⟨_, e'⟩
  · exact absurd b' b
  have q4 := q4.resolve_left b
  have nx := nc_i q4.1
  replace e := br_s e
  replace e' := br_s e'
  rcases e with ⟨c, e⟩ | ⟨c, e⟩
  · rcases e' with ⟨_, e'⟩ | ⟨c', _⟩
    · exact Or.inl (no e' e)
    · exact absurd c c'
  rcases e' with ⟨c', _⟩ | ⟨_, e'⟩
  · exact absurd c' c
  have nem : ¬ o1.1.toNatClampNeg = man.toNatClampNeg := fun z => c (Int32.toInt_inj.mp (by omega))
  replace e := cl_s e
  obtain ⟨r4, e4, e⟩ := e
  rw [r_eq M.1.2.1 e4] at e
  replace e' := cl_s e'
  obtain ⟨r4', e4', e'⟩ := e'
  rw [r_eq M.2.1.1 e4'] at e'
  have ry : hI hc (Z 2) 4 = hI hr (Z 15) 10 := by
    have := P.2.2.2.2.2.2.1 (4, 10) (by decide)
    rw [w31 (by decide) (by decide)] at this; exact this
  rw [← ry] at e'
  replace e := br_s e
  replace e' := br_s e'
  rcases e with ⟨d, e⟩ | ⟨d, e⟩
  · rcases e' with ⟨_, e'⟩ | ⟨d', _⟩
    · exact Or.inl (no e' e)
    · exact absurd d d'
  rcases e' with ⟨d', _⟩ | ⟨_, e'⟩
  · exact absurd d' d
  replace e := cl_s e
  obtain ⟨r6, e6, e⟩ := e
  rw [r_eq M.1.2.1 e6] at e
  replace e := cl_s e
  obtain ⟨o7, e7, e⟩ := e
  obtain ⟨u1, u2⟩ := bo_q M.1 q4.1 (by omega) e7
  rw [u1] at e
  replace e' := cl_s e'
  obtain ⟨r6', e6', e'⟩ := e'
  rw [r_eq M.2.1.1 e6'] at e'
  replace e' := cl_s e'
  obtain ⟨r7', e7', e'⟩ := e'
  rw [r_eq M.2.1.2.2.2.2.2.2.2.2.2 e7'] at e'
  replace e' := (gd_s e').2
  obtain ⟨l2a, l2b, l2c⟩ := P.2.2.2.2.2.2.2.2.2.2.1 o1.1.toNatClampNeg (by omega)
  have ke : hI (wI hc (Z 31) man.toNatClampNeg 0) (Z 31) o1.1.toNatClampNeg = hI hc (Z 31) o1.1.toNatClampNeg := rI_o nem
  rw [ke] at l2a l2b
  have k0 := l2b.1
  have z0 : (0 : Int32).toInt = 0 := rfl
  replace e := br_s e
  replace e' := br_s e'
  rcases e with ⟨v, e⟩ | ⟨v, e⟩
  rotate_left
  · rcases e' with ⟨v', _⟩ | ⟨_, e'⟩
    · refine absurd (u2.mpr ?_) v
      rw [l2a, v']; exact Int.le_refl 0
    · exact Or.inl (no e' e)
  have cz : hI hr (Z 81) o1.1.toNatClampNeg = 0 := by
    rw [← l2a]
    exact Int32.toInt_inj.mp (by rw [z0]; have := u2.mp v; omega)
  rcases e' with ⟨_, e'⟩ | ⟨v', _⟩
  rotate_left
  · exact absurd cz v'
  replace e' := br_s e'
  rcases e' with ⟨l6, _⟩ | ⟨_, e'⟩
  · have l6 := le_i l6; omega
  have oe := nI_c q4.1 (by omega)
  have mbo := mb o1.1.toNatClampNeg (by omega)
  unfold Bq at mbo
  rw [← oe] at mbo
  have bk := bk_1 M.2.1 ⟨hm.1, by omega⟩ ⟨by omega, by omega⟩ F (show (0 : Int) ≤ (0 : Int32).toInt by decide) (by rw [z0]; omega) e'
  replace e := br_s e
  rcases e with ⟨f1, e⟩ | ⟨f1, e⟩
  rotate_left
  · obtain ⟨j, j1, j2⟩ := mbo.mp ((b01 _).resolve_left f1)
    rcases bk with ⟨a1, _⟩ | ⟨a1, _⟩
    · rw [← Option.some.inj e, a1]
      exact Or.inl (Or.inl ⟨rfl, rfl, fl⟩)
    · refine absurd (Int32.toInt_inj.mp ?_) (a1 j (by rw [z0]; omega) (by omega))
      rw [j2]; omega
  rcases bk with ⟨_, j, _, j2, j3⟩ | ⟨a1, hr8, e8, e'⟩
  · have := mbo.mpr ⟨j, by omega, by rw [j3]; omega⟩
    rw [f1] at this
    exact absurd this (by decide)
  -- both note him
  right
  have nxi := nc_i (x := xi) (by omega)
  have xin : xi.toNatClampNeg = i := by omega
  rw [xin] at e8
  replace e := nm_s e
  obtain ⟨v10, w10, e⟩ := e
  replace e := cl_s e
  obtain ⟨r11, e11, e⟩ := e
  rw [r_eq M.1.2.1 e11] at e
  replace e := cl_s e
  obtain ⟨r12, e12, e⟩ := e
  rw [r_eq M.1.2.2.2.2.2.2.1 e12] at e
  replace e := (gd_s e).2
  replace e := nm_s e
  obtain ⟨h14, w14, e⟩ := e
  replace e := cl_s e
  obtain ⟨r15, e15, e⟩ := e
  have y15 : r15 = Z 2 := r_eq M.1.2.1 (by rw [w14] at e15; exact e15)
  rw [y15] at e
  replace e := cl_s e
  obtain ⟨r16, e16, e⟩ := e
  have y16 : r16 = Z 31 := r_eq M.1.2.2.2.2.2.2.2 (by rw [w14] at e16; exact e16)
  rw [y16] at e
  replace e := (gd_s e).2
  replace e := nm_s e
  obtain ⟨h18, w18, e⟩ := e
  replace e := cl_s e
  obtain ⟨o19, e19, e⟩ := e
  replace e := nm_s e
  obtain ⟨v20, w20, e⟩ := e
  have m6 : (man * (6 : Int32)).toInt = man.toInt * 6 := by rw [tm (by rw [z6]; omega), z6]
  have ad : ((man * (6 : Int32)) + xi).toInt = man.toInt * 6 + xi.toInt := by rw [ta (by rw [m6]; omega), m6]
  have na := nc_i (x := (man * (6 : Int32)) + xi) (by omega)
  have wp : ((man * (6 : Int32)) + xi).toNatClampNeg = 6 * man.toNatClampNeg + i := by omega
  rw [wp] at w14
  -- the class's heap with his count taken off
  have hq : ∀ a j, hI (wI h18 (Z 31) man.toNatClampNeg 0) a j = hI (wI (wI hc (Z 31) man.toNatClampNeg 0) (Z 30) (6 * man.toNatClampNeg + i) o1.1) a j := fun a j => by
    rw [w18, w14]
    simp only [r_I]
    by_cases y1 : a = Z 31 ∧ j = man.toNatClampNeg
    · have y2 : ¬ (a = Z 30 ∧ j = 6 * man.toNatClampNeg + i) := fun z => zn D (i := 31) (j := 30) (y1.1.symm.trans z.1)
      rw [if_pos y1, if_neg y2, if_pos y1]
    · rw [if_neg y1, if_neg y1]
      by_cases y2 : a = Z 30 ∧ j = 6 * man.toNatClampNeg + i
      · rw [if_pos y2, if_pos y2]
      · rw [if_neg y2, if_neg y2, if_neg y1]
  have P18 : PB T N Z (wI h18 (Z 31) man.toNatClampNeg 0) (wI hr (Z 80) (6 * man.toNatClampNeg + i) o1.1) := by
    obtain ⟨⟨p1, p2, p3, p4, s1, s2, s3, s4, s5, s6, s7, s8, s9⟩, c1, c2, c3⟩ := ps_b P
    have wc : ∀ {a : Nat}, a ∈ zl → ¬ a = 30 → ∀ j, hI (wI h18 (Z 31) man.toNatClampNeg 0) (Z a) j = hI (wI hc (Z 31) man.toNatClampNeg 0) (Z a) j := fun ha n j => by rw [hq]; exact rI_a (zne D n ha)
    have wr : ∀ {a : Nat}, a ∈ zl → ¬ a = 80 → ∀ j, hI (wI hr (Z 80) (6 * man.toNatClampNeg + i) o1.1) (Z a) j = hI hr (Z a) j := fun ha n j => rI_a (zne D n ha)
    have RR : ∀ a j, hR (wI h18 (Z 31) man.toNatClampNeg 0) a j = hR (wI hc (Z 31) man.toNatClampNeg 0) a j := fun a j => by rw [w18, w14]; rfl
    have JJ : hJ (wI h18 (Z 31) man.toNatClampNeg 0) (Z 2) 13 = hJ (wI hc (Z 31) man.toNatClampNeg 0) (Z 2) 13 := by rw [w18, w14]; rfl
    refine ⟨⟨zc_k p1 RR, p2, ?_, rt_w (zne D) p4, ?_⟩, ?_⟩
    · obtain ⟨a1, a2, a3, b', a4, a5, a6⟩ := p3
      have y : b' = Z 49 := r_eq p1.2.2.1 a4
      rw [y] at a4 a5 a6
      exact ⟨by rw [RR]; exact a1, a2, by rw [wc (by decide) (by decide)]; exact a3, Z 49, by rw [RR]; exact a4, a5, fun j hj => by rw [wc (by decide) (by decide)]; exact a6 j hj⟩
    · refine ⟨by rw [wc (by decide) (by decide), wr (by decide) (by decide)]; exact s1, fun p hp => by rw [wc (by decide) (by decide), wr (by decide) (by decide)]; exact s2 p hp, by rw [JJ]; exact s3, by rw [wc (by decide) (by decide)]; exact s4, fun j hj => ?_, fun q hq' => ?_, ⟨by rw [wc (by decide) (by decide)]; exact s7.1, fun q hq' => ?_⟩, by rw [wc (by decide) (by decide), wc (by decide) (by decide), wc (by decide) (by decide), wc (by decide) (by decide)]; exact s8, by rw [wc (by decide) (by decide), wc (by decide) (by decide)]; exact s9.1, by rw [wc (by decide) (by decide), JJ]; exact s9.2.1, fun q h1 h2 => by rw [wr (by decide) (by decide)] at h1; rw [wr (by decide) (by decide), wr (by decide) (by decide)]; exact s9.2.2.1 q h1 h2, by rw [wc (by decide) (by decide)]; exact s9.2.2.2.1, lt5_k s9.2.2.2.2.1 (wc (by decide) (by decide) _) (fun k _ _ => wr (by decide) (by decide) _), lt6_k s9.2.2.2.2.2.1 (wr (by decide) (by decide) _) (fun k hk i => wc (lc_z k hk).1 (lc_z k hk).2.2.2.2.2.2.1 i) (fun k hk i => wr (lr_z k hk).1 (lr_z k hk).2.2.2.2.2.2.1 i), lt7_k s9.2.2.2.2.2.2 (wc (by decide) (by decide) _) (fun i => wc (by decide) (by decide) i)⟩
      · rw [wc (by decide) (by decide)] at hj
        rw [wc (by decide) (by decide), wr (by decide) (by decide)]; exact s5 j hj
      · rw [wc (by decide) (by decide), wr (by decide) (by decide)]
        refine ⟨(s6 q hq').1, (s6 q hq').2.1, fun j hj => ?_⟩
        have j6 := (s6 q hq').2.1.2
        have ne : ¬ 6 * q + j = 6 * man.toNatClampNeg + i := fun z => by
          have qm : q = man.toNatClampNeg := by omega
          rw [qm, rI_s, z0] at hj
          omega
        rw [hq, rI_o ne, rI_o ne]
        exact (s6 q hq').2.2 j hj
      · rw [wc (by decide) (by decide), s7.2 q hq']
        have same : ∀ p j : Nat, (p : Int) < (hI hr (Z 15) 2).toInt → (j : Int) < (hI hr (Z 81) p).toInt → hI (wI hr (Z 80) (6 * man.toNatClampNeg + i) o1.1) (Z 80) (6 * p + j) = hI hr (Z 80) (6 * p + j) := fun p j hp hj => by
          have p12 : p < 12 := by
            have := s2 (3, 2) (by decide)
            rw [← this] at hp
            dsimp only at hp
            have := s4.2
            omega
          have j6 := (s6 p p12).2.1.2
          rw [(s6 p p12).1] at j6
          refine rI_o (fun z => ?_)
          have pm : p = man.toNatClampNeg := by omega
          have := (s6 p p12).1
          rw [pm, rI_s] at this
          rw [pm, ← this, z0] at hj
          omega
        constructor
        · rintro ⟨p, j, a, b', c'⟩
          exact ⟨p, j, by rw [wr (by decide) (by decide)]; exact a, by rw [wr (by decide) (by decide)]; exact b', by rw [same p j a b']; exact c'⟩
        · rintro ⟨p, j, a, b', c'⟩
          rw [wr (by decide) (by decide)] at a b'
          rw [same p j a b'] at c'
          exact ⟨p, j, a, b', c'⟩
    · rw [wc (by decide) (by decide), wr (by decide) (by decide)]
      exact ⟨c1, c2, c3⟩
  obtain ⟨P19, K19, R19⟩ := ps_aw n12 dg D n2 (k := 31) (by decide) (by decide) (by decide) (by decide) P18 e19 e8
  refine ⟨o19, hr8, v10, ⟨P19, ?_, ?_, fun j hj => ?_, ?_, by rw [K19.2 _ _ (fun z => zn D z.1), w18, rI_a (zne D), w14, rI_a (zne D)]; exact nr, fun q hq' => ?_⟩, by rw [← w20]; exact e, e'⟩
  · have : hI o19 (Z 2) 3 = hI hc (Z 2) 3 := by
      rw [K19.2 _ _ (fun z => zn D z.1), w18, rI_a (zne D), w14, rI_a (zne D)]
    rw [this]; exact hm
  · rw [K19.2 _ _ (fun z => zn D z.1), w18, rI_s, ta (by rw [z1]; omega), z1, hx]; omega
  · have cj : hI o19 (Z 30) (6 * man.toNatClampNeg + j) = hI h14 (Z 30) (6 * man.toNatClampNeg + j) := by
      rw [K19.2 _ _ (fun z => zn D z.1), w18, rI_a (zne D)]
    have rj : hI hr8 (Z 80) (6 * man.toNatClampNeg + j) = hI (wI hr (Z 80) (6 * man.toNatClampNeg + i) o1.1) (Z 80) (6 * man.toNatClampNeg + j) := R19.2 _ _ (fun z => zn D z.1)
    rw [cj, rj, w14]
    by_cases y : j = i
    · rw [y, rI_s, rI_s]
      exact ⟨rfl, q4.1, by omega⟩
    · rw [rI_o (by omega), rI_o (by omega)]
      exact bj j (by omega)
  · rw [w10]
    exact rg_or (n := 12) rm (rg_shl (b := 1) (n := 11) (hi := 2048) (rg_b rfl) ⟨q4.1, by omega⟩ (by decide)) (by decide)
  · have rj : ∀ j, hI hr8 (Z 80) (6 * man.toNatClampNeg + j) = hI (wI hr (Z 80) (6 * man.toNatClampNeg + i) o1.1) (Z 80) (6 * man.toNatClampNeg + j) := fun j => R19.2 _ _ (fun z => zn D z.1)
    have bo := bit_o (x := mine) (q := o1.1.toNatClampNeg) (r := q) (by omega) hq'
    rw [← oe] at bo
    have mq := mb q hq'
    unfold Bq at mq ⊢
    rw [w10, bo]
    by_cases y : o1.1.toNatClampNeg = q
    · rw [if_pos y]
      constructor
      · intro _
        exact ⟨i, by omega, by rw [rj, rI_s]; omega⟩
      · intro _
        rcases b01 (mine >>> ((nI q) &&& 31)) with z | z <;> (rw [z]; decide)
    · rw [if_neg y, or_0, mq]
      constructor
      · rintro ⟨j, j1, j2⟩
        exact ⟨j, by omega, by rw [rj, rI_o (by omega)]; exact j2⟩
      · rintro ⟨j, j1, j2⟩
        rw [rj] at j2
        by_cases yj : j = i
        · rw [yj, rI_s] at j2; omega
        · rw [rI_o (by omega)] at j2
          exact ⟨j, by omega, j2⟩
end
end
