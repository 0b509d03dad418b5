/-! positions: checks and clock, read by both -/
def VPc (V : Nat → Nat) (h : Hp) : Prop := hR h (V 4) 0 = some (V 34) ∧ hR h (V 4) 1 = some (V 35) ∧ hR h (V 4) 2 = some (V 36) ∧ hR h (V 4) 3 = some (V 37) ∧ hR h (V 4) 4 = some (V 38)
def VPr (V : Nat → Nat) (h : Hp) : Prop := hR h (V 13) 0 = some (V 62) ∧ hR h (V 13) 4 = some (V 63) ∧ hR h (V 13) 5 = some (V 64) ∧ hR h (V 13) 6 = some (V 65)
def PCk (V : Nat → Nat) (n : Int) (hc hr : Hp) : Prop := ∀ i : Nat, (i : Int) < n → hI hc (V 38) i = hI hr (V 65) i
def PCl (V : Nat → Nat) (hc hr : Hp) : Prop := hI hc (V 4) 6 = hI hr (V 13) 7
abbrev wcK : List (Nat × Nat) := [(7, 2), (38, 999)]
abbrev wrK : List (Nat × Nat) := [(16, 19), (65, 999)]
section
variable {F : Nat} {V : Nat → Nat} {N : Int32} {hc hr oc or : Hp} {L L' : List (Nat × Nat)} {o o' : Int32 × Hp}
theorem vpc_f {W : Nat → Nat → Bool} (P : VPc V hc) (A : FrV V W hc oc) : VPc V oc := ⟨by rw [A.1]; exact P.1, by rw [A.1]; exact P.2.1, by rw [A.1]; exact P.2.2.1, by rw [A.1]; exact P.2.2.2.1, by rw [A.1]; exact P.2.2.2.2⟩
theorem vpr_f {W : Nat → Nat → Bool} (P : VPr V hr) (A : FrV V W hr or) : VPr V or := ⟨by rw [A.1]; exact P.1, by rw [A.1]; exact P.2.1, by rw [A.1]; exact P.2.2.1, by rw [A.1]; exact P.2.2.2⟩
/-- a list within a wider one (by place, or by any place) -/
theorem sub_l (A : FrV V (wl L) hc oc) (e : ∀ p, p ∈ L → (p.1, p.2) ∈ L' ∨ (p.1, 999) ∈ L') : FrV V (wl L') hc oc := ⟨A.1, fun a i n => A.2 a i (fun k z => by
  obtain ⟨j, hj, zz⟩ := wl_m z
  rcases e _ hj with y | y
  · exact n k (wl_i y zz)
  · exact n k (wl_i y (Or.inr rfl)))⟩
/-- a digit -/
theorem dg_b {x y : Int32} {P : Prop} (H : (x = (-1 : Int32) ∧ y = (-1 : Int32) ∧ P) ∨ (hI hc (V 7) 2).toInt < N.toInt ∧ Rg 0 255 x ∧ y.toInt = sg x.toInt) (e : sX2_isDigit oc x = some o) (e' : sX15_isDigit or y = some o') : o.2 = oc ∧ o'.2 = or ∧ ((o.1 = 0 ∧ o'.1 = 0) ∨ (¬ o.1 = 0 ∧ ¬ o'.1 = 0 ∧ y = x ∧ Rg 48 57 x ∧ (hI hc (V 7) 2).toInt < N.toInt)) := by
  have zm : (-1 : Int32).toInt = -1 := by decide
  have z48 : (48 : Int32).toInt = 48 := rfl
  have z57 : (57 : Int32).toInt = 57 := rfl
  have c : o.2 = oc ∧ ((o.1 = 0 ∧ ¬ (48 ≤ x.toInt ∧ x.toInt ≤ 57)) ∨ (¬ o.1 = 0 ∧ Rg 48 57 x)) := by
    unfold sX2_isDigit sX2_isDigit_16 sX2_isDigit_17 at e
    replace e := br_s e
    rcases e with ⟨q, e⟩ | ⟨q, e⟩
    · have q := lt_i q
      rw [← Option.some.inj (gd_s e).2]
      exact ⟨rfl, Or.inl ⟨rfl, by omega⟩⟩
    have q := nlt_i q
    replace e := br_s e
    rcases e with ⟨q', e⟩ | ⟨q', e⟩
    · have q' := lt_i q'
      rw [← Option.some.inj (gd_s e).2]
      exact ⟨rfl, Or.inl ⟨rfl, by omega⟩⟩
    have q' := nlt_i q'
    rw [← Option.some.inj (gd_s e).2]
    exact ⟨rfl, Or.inr ⟨show ¬ (1 : Int32) = 0 by decide, ⟨by omega, by omega⟩⟩⟩
  have r : o'.2 = or ∧ ((o'.1 = 0 ∧ ¬ (48 ≤ y.toInt ∧ y.toInt ≤ 57)) ∨ (¬ o'.1 = 0 ∧ Rg 48 57 y)) := by
    unfold sX15_isDigit sX15_isDigit_16 sX15_isDigit_17 at e'
    replace e' := br_s e'
    rcases e' with ⟨q, e'⟩ | ⟨q, e'⟩
    · have q := lt_i q
      rw [← Option.some.inj (gd_s e').2]
      exact ⟨rfl, Or.inl ⟨rfl, by omega⟩⟩
    have q := nlt_i q
    replace e' := br_s e'
    rcases e' with ⟨q', e'⟩ | ⟨q', e'⟩
    · have q' := lt_i q'
      rw [← Option.some.inj (gd_s e').2]
      exact ⟨rfl, Or.inl ⟨rfl, by omega⟩⟩
    have q' := nlt_i q'
    rw [← Option.some.inj (gd_s e').2]
    exact ⟨rfl, Or.inr ⟨show ¬ (1 : Int32) = 0 by decide, ⟨by omega, by omega⟩⟩⟩
  refine ⟨c.1, r.1, ?_⟩
  have c2 := c.2
  have r2 := r.2
  rcases H with ⟨h1, h2, _⟩ | ⟨l, h2, h3⟩
  · rcases c2 with ⟨c2, _⟩ | ⟨_, c3⟩
    · rcases r2 with ⟨r2, _⟩ | ⟨_, r3⟩
      · exact Or.inl ⟨c2, r2⟩
      · have := r3.1; rw [h2, zm] at this; omega
    · have := c3.1; rw [h1, zm] at this; omega
  · have d1 := h2.1
    have d2 := h2.2
    have sy : (y.toInt = x.toInt ∧ x.toInt < 128) ∨ (y.toInt = x.toInt - 256 ∧ 128 ≤ x.toInt) := by
      rw [h3]
      unfold sg
      split <;> omega
    rcases c2 with ⟨c2, c3⟩ | ⟨c2, c3⟩
    · rcases r2 with ⟨r2, _⟩ | ⟨_, r3⟩
      · exact Or.inl ⟨c2, r2⟩
      · have := r3.1; have := r3.2; omega
    · have u1 := c3.1
      have u2 := c3.2
      rcases r2 with ⟨_, r3⟩ | ⟨r2, _⟩
      · omega
      · exact Or.inr ⟨c2, r2, Int32.toInt_inj.mp (by omega), c3, l⟩
/-- both figures of checks -/
theorem ck_2 (D : VD V) : ∀ (f g : Nat) {hc hr : Hp} {x2 : Int32}, RdV V N hc hr → VPc V hc → VPr V hr → 0 ≤ x2.toInt → x2.toInt ≤ 2 → PCk V x2.toInt hc hr → sX7_readChecks_2 F f hc (V 7) (V 4) x2 = some o → sX15_readRest_2 F g hr (V 16) (V 13) x2 = some o' → (o.1 = 0 ∧ o'.1 = 0 ∧ AtV V N o.2 o'.2) ∨ (o.1 = 1 ∧ FrV V (wl wcK) hc o.2 ∧ ∃ g, FrV V (wl wrK) hr g ∧ RdV V N o.2 g ∧ PCk V 2 o.2 g ∧ (cl (sX15_reads g (V 16) (32 : Int32)) fun o_2 => br (o_2.1 = 0) (sX15_readRest_67 F o_2.2 ) (cl (sX15_look o_2.2 (V 16)) fun o_4 => cl (sX15_isDigit o_4.2 o_4.1) fun o_5 => br (o_5.1 = 0) (sX15_readRest_67 F o_5.2 ) (nm (hI o_5.2 (V 16) 19) fun v_7 => sX15_readRest_79 F F o_5.2 (V 16) (V 13) v_7 (0 : Int32) (0 : Int32)))) = some o') := by
  have z1 : (1 : Int32).toInt = 1 := rfl
  have z2 : (2 : Int32).toInt = 2 := rfl
  intro f
  induction f with
  | zero => intro g hc hr x2 _ _ _ _ _ _ e; exact absurd e (by rw [sX7_readChecks_2]; exact fun z => nomatch z)
  | succ f ih =>
    intro g hc hr x2 S Pc Pr a2 b2 K e e'
    cases g with
    | zero => exact absurd e' (by rw [sX15_readRest_2]; exact fun z => nomatch z)
    | succ g =>
      rw [sX7_readChecks_2] at e
      rw [sX15_readRest_2] at e'
      replace e := br_s e
      replace e' := br_s e'
      rcases e with ⟨l, e⟩ | ⟨l, e⟩
      · rcases e' with ⟨_, e'⟩ | ⟨n, _⟩
        rotate_left
        · exact absurd l n
        have l := le_i l
        rw [z2] at l
        rw [← Option.some.inj e]
        exact Or.inr ⟨rfl, fv_0, hr, fv_0, S, fun i hi => K i (by omega), e'⟩
      rcases e' with ⟨n, _⟩ | ⟨_, e'⟩
      · exact absurd n l
      have l := nle_i l
      rw [z2] at l
      replace e := cl_s e; obtain ⟨r2, p, e⟩ := e
      rw [r_eq S.1.2.1 p] at e
      replace e := cl_s e; obtain ⟨o3, eo3, e⟩ := e
      replace e' := cl_s e'; obtain ⟨o8, eo8, e'⟩ := e'
      obtain ⟨w3, w8, H⟩ := by_p S eo3 eo8
      rw [w3] at e
      rw [w8] at e'
      replace e := cl_s e; obtain ⟨o4, eo4, e⟩ := e
      replace e' := cl_s e'; obtain ⟨o9, eo9, e'⟩ := e'
      obtain ⟨w4, w9, alt⟩ := dg_b H eo4 eo9
      rw [w4] at e
      rw [w9] at e'
      replace e := br_s e
      replace e' := br_s e'
      rcases alt with ⟨c1, c2⟩ | ⟨c1, c2, yx, rg, lt⟩
      · rcases e with ⟨_, e⟩ | ⟨n, _⟩
        rotate_left
        · exact absurd c1 n
        rcases e' with ⟨_, e'⟩ | ⟨n, _⟩
        rotate_left
        · exact absurd c2 n
        rw [← Option.some.inj e, ← Option.some.inj e']
        exact Or.inl ⟨rfl, rfl, S.2.2.2.1⟩
      rcases e with ⟨n, _⟩ | ⟨_, e⟩
      · exact absurd n c1
      rcases e' with ⟨n, _⟩ | ⟨_, e'⟩
      · exact absurd n c2
      replace e := cl_s e; obtain ⟨r6, p, e⟩ := e
      rw [r_eq Pc.2.2.2.2 p] at e
      replace e := cl_s e; obtain ⟨r7, p, e⟩ := e
      rw [r_eq S.1.2.1 p] at e
      replace e := cl_s e; obtain ⟨o8', eo8', e⟩ := e
      have y8 : o8' = o3 := Option.some.inj (eo8'.symm.trans eo3)
      rw [y8, w3] at e
      replace e := (gd_s e).2
      replace e := nm_s e; obtain ⟨h10, w10, e⟩ := e
      replace e := nm_s e; obtain ⟨h11, w11, e⟩ := e
      replace e := nm_s e; obtain ⟨v12, w12, e⟩ := e
      replace e' := cl_s e'; obtain ⟨r11, p, e'⟩ := e'
      rw [r_eq Pr.2.2.2 p] at e'
      replace e' := cl_s e'; obtain ⟨o12, eo12, e'⟩ := e'
      have y12 : o12 = o8 := Option.some.inj (eo12.symm.trans eo8)
      rw [y12, w8, yx] at e'
      replace e' := (gd_s e').2
      replace e' := nm_s e'; obtain ⟨k14, u14, e'⟩ := e'
      replace e' := nm_s e'; obtain ⟨k15, u15, e'⟩ := e'
      replace e' := nm_s e'; obtain ⟨v16, u16, e'⟩ := e'
      rw [u16, ← w12] at e'
      have A : FrV V (wl wcK) hc h11 := fv_t (g2 := h10) (by rw [w10]; exact fv_w (wl_i (j := 999) (by decide) (Or.inr rfl))) (by rw [w11]; exact fv_w rfl)
      have B : FrV V (wl wrK) hr k15 := fv_t (g2 := k14) (by rw [u14]; exact fv_w (wl_i (j := 999) (by decide) (Or.inr rfl))) (by rw [u15]; exact fv_w rfl)
      have a1 : hI h10 (V 7) 2 = hI hc (V 7) 2 := by rw [w10, rI_a (vne D)]
      have b1 : hI k14 (V 16) 19 = hI hr (V 16) 19 := by rw [u14, rI_a (vne D)]
      obtain ⟨p1, p2, p3⟩ := S.2.2.2.1
      have n12 := S.2.2.1.2.2.1.2
      have at' : AtV V N h11 k15 := by
        refine ⟨?_, ?_, ?_⟩
        · rw [w11, rI_s, u15, rI_s, a1, b1, p1]
        · rw [w11, rI_s, a1, ta (by rw [z1]; omega), z1]; omega
        · rw [w11, rI_s, a1, ta (by rw [z1]; omega), z1]; omega
      have S' := rdv_w D S (sub_l A (by decide)) (sub_l B (by decide)) at'
      have tx : v12.toInt = x2.toInt + 1 := by rw [w12, ta (by rw [z1]; omega), z1]
      have n2 := nc_i a2
      have K' : PCk V v12.toInt h11 k15 := fun i hi => by
        rw [w11, rI_a (vne D), u15, rI_a (vne D), w10, u14]
        by_cases z : i = x2.toNatClampNeg
        · rw [z, rI_s, rI_s]
        · rw [rI_o z, rI_o z]; exact K i (by omega)
      rcases ih g S' (vpc_f Pc A) (vpr_f Pr B) (by omega) (by omega) K' e e' with r | ⟨r1, r2, q, r3, r4⟩
      · exact Or.inl r
      · exact Or.inr ⟨r1, fv_t A r2, q, fv_t B r3, r4⟩
end
