/-! the sentence of a man -/
section
variable {T : Nat → Int} {N : Int} {F : Nat} {Z : Nat → Nat} {x2 : Int32} {hc hr oc or hc1 : Hp} {x man xi : Int32} {o o' : Int32 × Hp} {i : Nat}
/-- how many steps a man has, of one that is told -/
theorem ps_74 (D : ZD Z) {j : Nat} {v : Int32} (gz : Z 997 = j + 1) (hj : (j : Int) < (hI hr (Z 15) 2).toInt) (P : PS T N Z hc hr) : PS T N Z hc (wI hr (Z 74) j v) := by
  obtain ⟨p1, p2, p3, p4, p5, s1, s2, s3, s4, s5, s6, s7, s8, s9⟩ := P
  have w : ∀ {a : Nat}, a ∈ zl → ¬ a = 74 → ∀ q, hI (wI hr (Z 74) j v) (Z a) q = hI hr (Z a) q := fun ha n q => rI_a (zne D n ha)
  refine ⟨p1, p2, p3, fun q hq => by rw [w (by decide) (by decide)]; exact p4 q hq, ?_, by rw [w (by decide) (by decide)]; exact s1, fun p hp => by rw [w (by decide) (by decide)]; exact s2 p hp, s3, s4, fun q hq => by rw [w (by decide) (by decide)]; exact s5 q hq, fun q hq => ?_, ⟨s7.1, fun q hq => ?_⟩, s8, s9.1, s9.2.1, fun q h1 h2 => ?_, s9.2.2.2.1, lt5_k s9.2.2.2.2.1 rfl (fun k _ _ => w (by decide) (by decide) _), fun q hq => ?_, s9.2.2.2.2.2.2⟩
  · obtain ⟨p', k', A, B', ek⟩ := p5
    exact ⟨p', k', A, by rw [w (by decide) (by decide), w (by decide) (by decide), w (by decide) (by decide)]; exact B', by rw [w (by decide) (by decide)]; exact ek⟩
  · rw [w (by decide) (by decide)]
    refine ⟨(s6 q hq).1, (s6 q hq).2.1, fun k hk => ?_⟩
    rw [w (by decide) (by decide)]; exact (s6 q hq).2.2 k hk
  · rw [s7.2 q hq]
    constructor
    · rintro ⟨a, b, c, d, e⟩
      exact ⟨a, b, by rw [w (by decide) (by decide)]; exact c, by rw [w (by decide) (by decide)]; exact d, by rw [w (by decide) (by decide)]; exact e⟩
    · rintro ⟨a, b, c, d, e⟩
      rw [w (by decide) (by decide)] at c d e
      exact ⟨a, b, c, d, e⟩
  · rw [w (by decide) (by decide)] at h1
    rw [rI_o (show ¬ q = j from fun z => by omega), w (a := 81) (by decide) (by decide)]
    exact s9.2.2.1 q h1 h2
  · rw [w (by decide) (by decide)] at hq
    obtain ⟨S1, S2⟩ := s9.2.2.2.2.2.1 q hq
    have ww : ∀ k, k ∈ lr → ¬ k = 74 → ∀ i, hI (wI hr (Z 74) j v) (Z k) i = hI hr (Z k) i := fun k hk n i => w (lr_z k hk).1 n i
    have sx : ∀ {k : Nat}, SXs Z hc hr k → SXs Z hc (wI hr (Z 74) j v) k := fun {k} S => by
      unfold SXs at S ⊢
      rw [ww 75 (by decide) (by decide), ww 76 (by decide) (by decide), ww 77 (by decide) (by decide), ww 78 (by decide) (by decide), ww 79 (by decide) (by decide)]
      exact S
    refine ⟨fun n => ?_, fun g i hi => sx (S2 g i hi)⟩
    obtain ⟨a, b, c⟩ := S1 n
    exact ⟨by rw [rI_o (by omega)]; exact a, b, fun i hi => sx (c i hi)⟩
theorem ma_st (n12 : N ≤ 1200) (dg : ∀ j : Nat, (j : Int) < N → 0 ≤ T j ∧ T j ≤ 255) (D : ZD Z) (n2 : x2.toInt = N) {f g : Nat} (P : PS T N Z hc hr) (gz : Z 997 = man.toNatClampNeg + 1) (g6 : xi.toInt = ((Z 996 : Nat) : Int)) (m0 : 0 ≤ man.toInt) (mm : man.toInt < (hI hr (Z 15) 2).toInt) (x0 : 0 ≤ xi.toInt) (x7 : xi.toInt ≤ 7) (hx : hI hr (Z 74) man.toNatClampNeg = xi) (e : sX2_takeMan_77 F (f + 1) hc (Z 3) man xi = some o) (e' : sX15_isMan_92 F (g + 1) hr (Z 16) (Z 82) x2 man = some o') : (o.1 = 0 ∧ o'.1 = 0 ∧ Fl2 Z o.2 o'.2) ∨ ∃ hc2 hr2 : Hp, PS T N Z hc2 hr2 ∧ hI hr2 (Z 15) 2 = hI hr (Z 15) 2 ∧ SXs Z hc2 hr2 (8 * man.toNatClampNeg + Z 996) ∧ hI hc2 (Z 29) man.toNatClampNeg = xi + (1 : Int32) ∧ hI hr2 (Z 74) man.toNatClampNeg = xi + (1 : Int32) ∧ ((o = ((1 : Int32), hc2) ∧ o' = ((1 : Int32), hr2)) ∨ (xi.toInt ≤ 6 ∧ sX2_takeMan_77 F f hc2 (Z 3) man (xi + (1 : Int32)) = some o ∧ sX15_isMan_92 F g hr2 (Z 16) (Z 82) x2 man = some o')) := by
  have z1 : (1 : Int32).toInt = 1 := rfl
  have z7 : (7 : Int32).toInt = 7 := rfl
  have z8 : (8 : Int32).toInt = 8 := rfl
  have nm := nc_i m0
  have m12 : (hI hr (Z 15) 2).toInt ≤ 12 := by
    rw [← P.2.2.2.2.2.2.1 (3, 2) (by decide)]; exact P.2.2.2.2.2.2.2.2.1.2
  rw [sX2_takeMan_77] at e
  rw [sX15_isMan_92] at e'
  replace e := br_s e
  rcases e with ⟨l, _⟩ | ⟨_, e⟩
  · have l := le_i l; omega
  replace e := cl_s e
  obtain ⟨o2, e2, e⟩ := e
  replace e' := cl_s e'
  obtain ⟨r1, e1, e'⟩ := e'
  rw [r_eq P.2.1.1 e1] at e'
  replace e' := cl_s e'
  obtain ⟨r2, e2', e'⟩ := e'
  rw [r_eq P.2.1.2.2.1 e2', hx] at e'
  replace e' := (gd_s e').2
  replace e' := cl_s e'
  obtain ⟨o4, e4, e'⟩ := e'
  have m8 : ((8 : Int32) * man).toInt = 8 * man.toInt := by rw [tm (by rw [z8]; omega), z8]
  have ad : (((8 : Int32) * man) + xi).toInt = 8 * man.toInt + xi.toInt := by rw [ta (by rw [m8]; omega), m8]
  have na := nc_i (x := ((8 : Int32) * man) + xi) (by rw [ad]; omega)
  have ip : (((8 : Int32) * man) + xi).toNatClampNeg = 8 * man.toNatClampNeg + Z 996 := by rw [ad] at na; omega
  unfold sX2_takeStep at e2
  unfold sX15_isStep at e4
  obtain ⟨⟨q1, q2⟩, q3⟩ := sp_5 (m := man.toNatClampNeg) n12 dg D n2 ⟨gz, by omega, ⟨⟨m0, by omega⟩, rfl⟩, g6, ip⟩ (by rw [ad]; omega) F F P ⟨by decide, by decide⟩ (by decide) (by decide) e2 e4
  rcases q1 with ⟨a1, a2, a3⟩ | ⟨a1, a2, P2⟩
  · replace e := br_s e
    rcases e with ⟨_, e⟩ | ⟨n, _⟩
    rotate_left
    · exact absurd a1 n
    replace e' := br_s e'
    rcases e' with ⟨_, e'⟩ | ⟨n, _⟩
    rotate_left
    · exact absurd a2 n
    rw [← Option.some.inj e, ← Option.some.inj e']
    exact Or.inl ⟨rfl, rfl, a3⟩
  replace e := br_s e
  rcases e with ⟨n, _⟩ | ⟨_, e⟩
  · exact absurd n a1
  replace e' := br_s e'
  rcases e' with ⟨n, _⟩ | ⟨_, e'⟩
  · exact absurd n a2
  obtain ⟨x28, x29⟩ := q3 a1
  rw [ip] at x28
  have mc : hI o4.2 (Z 15) 2 = hI hr (Z 15) 2 := q2.2
  replace e' := cl_s e'
  obtain ⟨r6, e6, e'⟩ := e'
  rw [r_eq P2.2.1.1 e6] at e'
  replace e' := cl_s e'
  obtain ⟨r7, e7, e'⟩ := e'
  rw [r_eq P2.2.1.2.2.1 e7] at e'
  replace e' := (gd_s e').2
  replace e' := (gd_s e').2
  replace e' := nm_s e'
  obtain ⟨h10, w10, e'⟩ := e'
  have k74 : hI o4.2 (Z 74) man.toNatClampNeg = xi := (q2.1 _).trans hx
  rw [k74] at w10
  have P10 : PS T N Z o2.2 h10 := by rw [w10]; exact ps_74 D gz (by rw [mc]; omega) P2
  have v10 : hI h10 (Z 74) man.toNatClampNeg = xi + (1 : Int32) := by rw [w10, rI_s]
  have c10 : hI h10 (Z 15) 2 = hI hr (Z 15) 2 := by rw [w10, rI_a (zne D), mc]
  have s10 : SXs Z o2.2 h10 (8 * man.toNatClampNeg + Z 996) := by
    rw [w10]
    unfold SXs at x28 ⊢
    rw [rI_a (zne D), rI_a (zne D), rI_a (zne D), rI_a (zne D), rI_a (zne D)]
    exact x28
  have tx : (xi + (1 : Int32)).toInt = xi.toInt + 1 := by rw [ta (by rw [z1]; omega), z1]
  replace e' := cl_s e'
  obtain ⟨o11, e11, e'⟩ := e'
  obtain ⟨s1, s2⟩ := sg_r P10.2.2.1 P10.2.2.2.1 P10.2.2.2.2.1 (kd := 4) (Or.inr ⟨rfl, rfl⟩) e11
  rw [s1] at e'
  unfold sX2_takeMan_108 at e
  unfold sX15_isMan_154 at e'
  refine Or.inr ?_
  replace e := br_s e
  replace e' := br_s e'
  rcases e with ⟨c, e⟩ | ⟨c, e⟩
  rotate_left
  · rcases e' with ⟨_, e'⟩ | ⟨n, _⟩
    · exact ⟨o2.2, h10, P10, c10, s10, x29, v10, Or.inl ⟨(Option.some.inj e).symm, (Option.some.inj e').symm⟩⟩
    · exact absurd (s2.mpr (fun z => c (Int32.toInt_inj.mp z))) n
  rcases e' with ⟨n, _⟩ | ⟨_, e'⟩
  · exact absurd (by rw [c]; rfl) (s2.mp n)
  replace e' := cl_s e'
  obtain ⟨r13, e13, e'⟩ := e'
  rw [r_eq P10.2.1.1 e13] at e'
  replace e' := cl_s e'
  obtain ⟨r14, e14, e'⟩ := e'
  rw [r_eq P10.2.1.2.2.1 e14, v10] at e'
  replace e' := (gd_s e').2
  replace e := br_s e
  replace e' := br_s e'
  rcases e with ⟨d, e⟩ | ⟨d, e⟩
  · rcases e' with ⟨_, e'⟩ | ⟨n, _⟩
    · exact ⟨o2.2, h10, P10, c10, s10, x29, v10, Or.inl ⟨(Option.some.inj e).symm, (Option.some.inj e').symm⟩⟩
    · refine absurd (Int32.toInt_inj.mp ?_) n
      rw [tx, d]; rfl
  have d := ne_i d
  rw [z7] at d
  rcases e' with ⟨n, _⟩ | ⟨_, e'⟩
  · have : (xi + (1 : Int32)).toInt = 8 := by rw [n]; rfl
    omega
  replace e := cl_s e
  obtain ⟨o6, e6', e⟩ := e
  replace e := nm_s e
  obtain ⟨v7, w7, e⟩ := e
  replace e' := cl_s e'
  obtain ⟨o17, e17, e'⟩ := e'
  have P17 := ps_a n12 dg D n2 (ps_b P10).1 (ps_b P10).2 e6' e17
  have K17 := (nt_k (by omega) dg (zne D) P10.2.2.2.1 n2 (by rw [← (ps_b P10).2.1]; exact (ps_b P10).2.2.1) (by rw [← (ps_b P10).2.1]; exact (ps_b P10).2.2.2) e17).1
  have KC := (adv_k n12 dg P10.2.2.1 (ps_b P10).2.2.1 (ps_b P10).2.2.2 e6').1
  rw [w7] at e
  refine ⟨o6, o17, P17, by rw [K17.2 _ _ (fun z => zn D z.1)]; exact c10, ?_, by rw [KC.2 _ _ (fun z => zn D z.1)]; exact x29, by rw [K17.2 _ _ (fun z => zn D z.1)]; exact v10, Or.inr ⟨by omega, e, e'⟩⟩
  exact sx_k s10 (KC.2 _ _ (fun z => zn D z.1)) (fun q hq => K17.2 _ _ (fun z => (lr_z q hq).2.2.2.2.1 (D q (lr_z q hq).1 16 (by decide) z.1)))
end
/-- ghosts: the man whose steps are told, and how many he has -/
def zg (Z : Nat → Nat) (a b : Nat) (k : Nat) : Nat := bif Nat.beq k 997 then a else bif Nat.beq k 996 then b else Z k
theorem zg_o {Z : Nat → Nat} {a b k : Nat} (n : ¬ k = 997) (n' : ¬ k = 996) : zg Z a b k = Z k := by
  unfold zg
  cases q : Nat.beq k 997 with
  | true => exact absurd (Nat.eq_of_beq_eq_true q) n
  | false =>
    cases q' : Nat.beq k 996 with
    | true => exact absurd (Nat.eq_of_beq_eq_true q') n'
    | false => rfl
theorem zd_g {Z : Nat → Nat} {a b : Nat} (D : ZD Z) : ZD (zg Z a b) := fun i hi j hj e => by
  have nz : ∀ k, k ∈ zl → ¬ k = 997 ∧ ¬ k = 996 := by decide
  rw [zg_o (nz i hi).1 (nz i hi).2, zg_o (nz j hj).1 (nz j hj).2] at e
  exact D i hi j hj e
theorem zg_zg {Z : Nat → Nat} {a b c d : Nat} : zg (zg Z a b) c d = zg Z c d := funext (fun k => by
  unfold zg
  cases Nat.beq k 997 <;> cases Nat.beq k 996 <;> rfl)
theorem zg_id {Z : Nat → Nat} (h1 : Z 997 = 0) (h2 : Z 996 = 0) : zg Z 0 0 = Z := funext (fun k => by
  unfold zg
  cases q : Nat.beq k 997 with
  | true => rw [Nat.eq_of_beq_eq_true q]; exact h1.symm
  | false =>
    cases q' : Nat.beq k 996 with
    | true => rw [Nat.eq_of_beq_eq_true q']; exact h2.symm
    | false => rfl)
section
variable {T : Nat → Int} {N : Int} {F : Nat} {Z : Nat → Nat} {x2 : Int32} {hc hr oc or hc1 : Hp} {x man xi : Int32} {o o' : Int32 × Hp} {i : Nat}
/-- other ghosts -/
theorem ps_zg {a b : Nat} (P : PS T N Z hc hr) (l6 : LT6 (zg Z a b) hc hr) : PS T N (zg Z a b) hc hr := by
  obtain ⟨p1, p2, p3, p4, p5, s1, s2, s3, s4, s5, s6, s7, s8, s9⟩ := P
  exact ⟨p1, p2, p3, p4, p5, s1, s2, s3, s4, s5, s6, s7, s8, s9.1, s9.2.1, s9.2.2.1, s9.2.2.2.1, s9.2.2.2.2.1, l6, s9.2.2.2.2.2.2⟩
theorem ma_77 (n12 : N ≤ 1200) (dg : ∀ j : Nat, (j : Int) < N → 0 ≤ T j ∧ T j ≤ 255) (n2 : x2.toInt = N) : ∀ (f g : Nat) {Z : Nat → Nat} {hc hr : Hp} {xi : Int32}, ZD Z → PS T N Z hc hr → Z 997 = man.toNatClampNeg + 1 → xi.toInt = ((Z 996 : Nat) : Int) → 0 ≤ man.toInt → man.toInt < (hI hr (Z 15) 2).toInt → 0 ≤ xi.toInt → xi.toInt ≤ 7 → hI hr (Z 74) man.toNatClampNeg = xi → sX2_takeMan_77 F f hc (Z 3) man xi = some o → sX15_isMan_92 F g hr (Z 16) (Z 82) x2 man = some o' → Out T N (zg Z 0 0) o o' := by
  have z1 : (1 : Int32).toInt = 1 := rfl
  intro f
  induction f with
  | zero => intro g Z hc hr xi _ _ _ _ _ _ _ _ _ e; exact absurd e (by rw [sX2_takeMan_77]; exact fun z => nomatch z)
  | succ f ih =>
    intro g Z hc hr xi D P gz g6 m0 mm x0 x7 hx e e'
    cases g with
    | zero => exact absurd e' (by rw [sX15_isMan_92]; exact fun z => nomatch z)
    | succ g =>
      have tx : (xi + (1 : Int32)).toInt = xi.toInt + 1 := by rw [ta (by rw [z1]; omega), z1]
      rcases ma_st n12 dg D n2 P gz g6 m0 mm x0 x7 hx e e' with ⟨a1, a2, a3⟩ | ⟨hc2, hr2, P2, mc, s28, s29, s74, y⟩
      · exact Or.inl ⟨a1, a2, a3⟩
      rcases y with ⟨eo, eo'⟩ | ⟨x6, e, e'⟩
      · rw [eo, eo']
        refine Or.inr ⟨i1n0, i1n0, ps_zg P2 (fun j hj => ⟨fun _ => ?_, fun z => absurd z (Nat.succ_ne_zero j).symm⟩)⟩
        obtain ⟨S1, S2⟩ := ls_6 P2.2.2.2.2.2 j hj
        by_cases y : j = man.toNatClampNeg
        · refine ⟨by rw [y]; exact s29.trans s74.symm, ?_, fun i hi => ?_⟩
          · show Rg 1 8 (hI hc2 (Z 29) j)
            rw [y, s29]
            exact ⟨by rw [tx]; omega, by rw [tx]; omega⟩
          · have hi : (i : Int) < (hI hc2 (Z 29) j).toInt := hi
            rw [y, s29, tx] at hi
            by_cases q : i < Z 996
            · exact S2 (by rw [y]; exact gz) i q
            · have qe : i = Z 996 := by omega
              rw [y, qe]; exact s28
        · exact S1 (fun z => y (by omega))
      · have l6 : LT6 (zg Z (man.toNatClampNeg + 1) (Z 996 + 1)) hc2 hr2 := fun j hj => by
          obtain ⟨S1, S2⟩ := ls_6 P2.2.2.2.2.2 j hj
          refine ⟨fun n => S1 (fun z => n (by show man.toNatClampNeg + 1 = j + 1; omega)), fun z i hi => ?_⟩
          have z : man.toNatClampNeg + 1 = j + 1 := z
          have hi : i < Z 996 + 1 := hi
          by_cases q : i < Z 996
          · exact S2 (by omega) i q
          · have qe : i = Z 996 := by omega
            have je : j = man.toNatClampNeg := by omega
            rw [qe, je]; exact s28
        have r := ih g (Z := zg Z (man.toNatClampNeg + 1) (Z 996 + 1)) (zd_g D) (ps_zg P2 l6) rfl (by show (xi + (1 : Int32)).toInt = ((Z 996 + 1 : Nat) : Int); rw [tx]; omega) m0 (by show man.toInt < (hI hr2 (Z 15) 2).toInt; rw [mc]; exact mm) (by rw [tx]; omega) (by rw [tx]; omega) s74 e e'
        rw [zg_zg] at r
        exact r
end
section
variable {T : Nat → Int} {N : Int} {F : Nat} {Z : Nat → Nat} {x2 : Int32} {hc hr oc or hc1 : Hp} {x man xi : Int32} {o o' : Int32 × Hp} {i : Nat}
/-- both take a new man -/
theorem pb_m (D : ZD Z) {v : Int32} (vl : Rg 97 122 v) (gz : Z 997 = (hI hc (Z 2) 3).toNatClampNeg + 1) (g0 : Z 996 = 0) (P : PS T N Z hc hr) (l : (hI hc (Z 2) 3).toInt < 12) : PB T N Z (wI (wI hc (Z 27) (hI hc (Z 2) 3).toNatClampNeg v) (Z 2) 3 ((hI hc (Z 2) 3) + (1 : Int32))) (wI (wI hr (Z 73) (hI hc (Z 2) 3).toNatClampNeg v) (Z 15) 2 ((hI hc (Z 2) 3) + (1 : Int32))) := by
  have z1 : (1 : Int32).toInt = 1 := rfl
  obtain ⟨⟨p1, p2, p3, p4, s1, s2, s3, s4, s5, s6, s7, s8, s9⟩, c1, c2, c3⟩ := ps_b P
  have m3 : hI hc (Z 2) 3 = hI hr (Z 15) 2 := s2 (3, 2) (by decide)
  have m0 := s4.1
  have nm := nc_i m0
  have tx : ((hI hc (Z 2) 3) + (1 : Int32)).toInt = (hI hc (Z 2) 3).toInt + 1 := by rw [ta (by rw [z1]; omega), z1]
  have cc : ∀ {a : Nat}, a ∈ zl → ¬ a = 27 → ¬ a = 2 → ∀ j, hI (wI (wI hc (Z 27) (hI hc (Z 2) 3).toNatClampNeg v) (Z 2) 3 ((hI hc (Z 2) 3) + (1 : Int32))) (Z a) j = hI hc (Z a) j := fun ha n n' j => by rw [rI_a (zne D n' ha), rI_a (zne D n ha)]
  have c2' : ∀ j, ¬ j = 3 → hI (wI (wI hc (Z 27) (hI hc (Z 2) 3).toNatClampNeg v) (Z 2) 3 ((hI hc (Z 2) 3) + (1 : Int32))) (Z 2) j = hI hc (Z 2) j := fun j n => by rw [rI_o n, rI_a (zne D)]
  have c27 : ∀ j, hI (wI (wI hc (Z 27) (hI hc (Z 2) 3).toNatClampNeg v) (Z 2) 3 ((hI hc (Z 2) 3) + (1 : Int32))) (Z 27) j = hI (wI hc (Z 27) (hI hc (Z 2) 3).toNatClampNeg v) (Z 27) j := fun j => rI_a (zne D)
  have rc : ∀ {a : Nat}, a ∈ zl → ¬ a = 73 → ¬ a = 15 → ∀ j, hI (wI (wI hr (Z 73) (hI hc (Z 2) 3).toNatClampNeg v) (Z 15) 2 ((hI hc (Z 2) 3) + (1 : Int32))) (Z a) j = hI hr (Z a) j := fun ha n n' j => by rw [rI_a (zne D n' ha), rI_a (zne D n ha)]
  have r15 : ∀ j, ¬ j = 2 → hI (wI (wI hr (Z 73) (hI hc (Z 2) 3).toNatClampNeg v) (Z 15) 2 ((hI hc (Z 2) 3) + (1 : Int32))) (Z 15) j = hI hr (Z 15) j := fun j n => by rw [rI_o n, rI_a (zne D)]
  have r73 : ∀ j, hI (wI (wI hr (Z 73) (hI hc (Z 2) 3).toNatClampNeg v) (Z 15) 2 ((hI hc (Z 2) 3) + (1 : Int32))) (Z 73) j = hI (wI hr (Z 73) (hI hc (Z 2) 3).toNatClampNeg v) (Z 73) j := fun j => rI_a (zne D)
  refine ⟨⟨p1, p2, ct_w (zne D) (zne D) p1 (ct_w (zne D) (zne D) p1 p3), rt_w (zne D) (rt_w (zne D) p4), by rw [cc (by decide) (by decide) (by decide), rc (by decide) (by decide) (by decide)]; exact s1, fun p hp => ?_, s3, ?_, fun j hj => ?_, fun q hq => ?_, ⟨by rw [c2' _ (by decide)]; exact s7.1, fun q hq => ?_⟩, by rw [c2' _ (by decide), c2' _ (by decide), c2' _ (by decide), c2' _ (by decide)]; exact s8, by rw [cc (by decide) (by decide) (by decide), c2' _ (by decide)]; exact s9.1, by rw [cc (by decide) (by decide) (by decide)]; exact s9.2.1, fun q h1 h2 => ?_, by rw [cc (by decide) (by decide) (by decide)]; exact s9.2.2.2.1, lt5_k s9.2.2.2.2.1 (c2' _ (by decide)) (fun k h1 h2 => r15 k (by omega)), fun q hq => ?_, lt7_k s9.2.2.2.2.2.2 (c2' _ (by decide)) (fun i => cc (by decide) (by decide) (by decide) i)⟩, ?_⟩
  · by_cases y : p = (3, 2)
    · rw [y, rI_s, rI_s]
    · rw [c2' _ (fun z => y (prs_1 p hp (3, 2) (by decide) (Or.inl z))), r15 _ (fun z => y (prs_1 p hp (3, 2) (by decide) (Or.inr z)))]
      exact s2 p hp
  · rw [rI_s]
    exact ⟨by omega, by omega⟩
  · rw [rI_s, tx] at hj
    rw [c27, r73]
    by_cases y : j = (hI hc (Z 2) 3).toNatClampNeg
    · rw [y, rI_s, rI_s]; exact ⟨rfl, vl⟩
    · rw [rI_o y, rI_o y]; exact s5 j (by omega)
  · rw [cc (by decide) (by decide) (by decide), rc (by decide) (by decide) (by decide)]
    refine ⟨(s6 q hq).1, (s6 q hq).2.1, fun k hk => ?_⟩
    rw [cc (by decide) (by decide) (by decide), rc (by decide) (by decide) (by decide)]
    exact (s6 q hq).2.2 k hk
  · rw [c2' _ (by decide), s7.2 q hq, rI_s, tx]
    constructor
    · rintro ⟨a, b, c, d, e⟩
      exact ⟨a, b, by rw [m3]; omega, by rw [rc (by decide) (by decide) (by decide)]; exact d, by rw [rc (by decide) (by decide) (by decide)]; exact e⟩
    · rintro ⟨a, b, c, d, e⟩
      rw [rc (by decide) (by decide) (by decide)] at d e
      by_cases y : a = (hI hc (Z 2) 3).toNatClampNeg
      · have := (s9.2.2.1 a (by rw [← m3]; omega) (by omega)).2
        rw [this] at d
        have z0 : (0 : Int32).toInt = 0 := rfl
        omega
      · exact ⟨a, b, by rw [← m3]; omega, d, e⟩
  · rw [rI_s, tx] at h1
    rw [rc (by decide) (by decide) (by decide), rc (by decide) (by decide) (by decide)]
    exact s9.2.2.1 q (by rw [← m3]; omega) h2
  · rw [rI_s, tx] at hq
    refine ⟨fun n => ?_, fun z i hi => by omega⟩
    obtain ⟨a, b, c⟩ := (s9.2.2.2.2.2.1 q (by rw [← m3]; omega)).1 n
    have sx : ∀ {k : Nat}, SXs Z hc hr k → SXs Z (wI (wI hc (Z 27) (hI hc (Z 2) 3).toNatClampNeg v) (Z 2) 3 ((hI hc (Z 2) 3) + (1 : Int32))) (wI (wI hr (Z 73) (hI hc (Z 2) 3).toNatClampNeg v) (Z 15) 2 ((hI hc (Z 2) 3) + (1 : Int32))) k := fun {k} S => sx_k S (cc (by decide) (by decide) (by decide) _) (fun q hq => rc (lr_z q hq).1 (lr_z q hq).2.2.2.2.2.1 (lr_z q hq).2.2.2.1 _)
    refine ⟨by rw [cc (by decide) (by decide) (by decide), rc (by decide) (by decide) (by decide)]; exact a, by rw [cc (by decide) (by decide) (by decide)]; exact b, fun i hi => ?_⟩
    rw [cc (by decide) (by decide) (by decide)] at hi
    exact sx (c i hi)
  · rw [cc (by decide) (by decide) (by decide), rc (by decide) (by decide) (by decide)]
    exact ⟨c1, c2, c3⟩
/-- behind his letter -/
theorem ma_go (n12 : N ≤ 1200) (dg : ∀ j : Nat, (j : Int) < N → 0 ≤ T j ∧ T j ≤ 255) (D : ZD Z) (n2 : x2.toInt = N) {hr1 : Hp} {o2 : Int32 × Hp} (gz : Z 997 = (hI hc1 (Z 2) 3).toNatClampNeg + 1) (g0 : Z 996 = 0) (P1 : PS T N Z hc1 hr1) (c : (hI hc1 (Z 2) 3).toInt < 12) (m3 : hI hc1 (Z 2) 3 = hI hr1 (Z 15) 2) (y1 : o2.1 = hI hr1 (Z 82) (hI hr1 (Z 16) 7).toNatClampNeg) (vl : Rg 97 122 o2.1) (e : (cl (sX2_advance F hc1 (Z 3)) fun o_9 => cl (hR o_9 (Z 3) 1) fun r_10 => nm (hI o_9 r_10 3) fun v_11 => cl (hR o_9 (Z 3) 1) fun r_12 => cl (hR o_9 r_12 14) fun r_13 => gd (inB v_11 (hN o_9 r_13)) <| nm (wI o_9 r_13 v_11.toNatClampNeg o2.1) fun h_15 => cl (hR h_15 (Z 3) 1) fun r_16 => nm (wI h_15 r_16 3 ((hI h_15 r_16 3) + (1 : Int32))) fun h_17 => sX2_takeMan_77 F F h_17 (Z 3) v_11 (0 : Int32)) = some o) (e' : (cl (hR hr1 (Z 16) 5) fun r_8 => nm (hI hr1 r_8 2) fun v_9 => cl (hR hr1 (Z 16) 5) fun r_10 => cl (hR hr1 r_10 3) fun r_11 => gd (inB (hI hr1 (Z 16) 7) (hN hr1 (Z 82))) <| gd (inB v_9 (hN hr1 r_11)) <| nm (wI hr1 r_11 v_9.toNatClampNeg (hI hr1 (Z 82) (hI hr1 (Z 16) 7).toNatClampNeg)) fun h_14 => cl (hR h_14 (Z 16) 5) fun r_15 => nm (wI h_14 r_15 2 ((hI h_14 r_15 2) + (1 : Int32))) fun h_16 => cl (sX15_nextToken F h_16 (Z 16) (Z 82) x2) fun o_17 => sX15_isMan_92 F F o_17 (Z 16) (Z 82) x2 v_9) = some o') : Out T N (zg Z 0 0) o o' := by
  have z1 : (1 : Int32).toInt = 1 := rfl
  have m12 := P1.2.2.2.2.2.2.2.2.1
  replace e := cl_s e
  obtain ⟨o9, e9, e⟩ := e
  have Kc := (adv_k n12 dg P1.2.2.1 (ps_b P1).2.2.1 (ps_b P1).2.2.2 e9).1
  have ZC9 : ZC Z o9 := zc_k P1.1 Kc.1.1
  have k3 : hI o9 (Z 2) 3 = hI hc1 (Z 2) 3 := Kc.2 _ _ (fun z => zn D z.1)
  replace e := cl_s e
  obtain ⟨r10, e10, e⟩ := e
  rw [r_eq ZC9.2.1 e10] at e
  replace e := nm_s e
  obtain ⟨v11, w11, e⟩ := e
  rw [k3] at w11
  replace e := cl_s e
  obtain ⟨r12, e12, e⟩ := e
  rw [r_eq ZC9.2.1 e12] at e
  replace e := cl_s e
  obtain ⟨r13, e13, e⟩ := e
  rw [r_eq ZC9.2.2.2.1 e13] at e
  replace e := (gd_s e).2
  replace e := nm_s e
  obtain ⟨h15, w15, e⟩ := e
  replace e := cl_s e
  obtain ⟨r16, e16, e⟩ := e
  have y16 : r16 = Z 2 := r_eq ZC9.2.1 (by rw [w15] at e16; exact e16)
  rw [y16] at e
  replace e := nm_s e
  obtain ⟨h17, w17, e⟩ := e
  have k15 : hI h15 (Z 2) 3 = hI hc1 (Z 2) 3 := by rw [w15, rI_a (zne D), k3]
  rw [k15] at w17
  rw [w11] at w15 e
  -- the reference
  replace e' := cl_s e'
  obtain ⟨r8, e8, e'⟩ := e'
  rw [r_eq P1.2.1.1 e8] at e'
  replace e' := nm_s e'
  obtain ⟨v9, w9, e'⟩ := e'
  rw [← m3] at w9
  replace e' := cl_s e'
  obtain ⟨r10', e10', e'⟩ := e'
  rw [r_eq P1.2.1.1 e10'] at e'
  replace e' := cl_s e'
  obtain ⟨r11, e11, e'⟩ := e'
  rw [r_eq P1.2.1.2.1 e11] at e'
  replace e' := (gd_s e').2
  replace e' := (gd_s e').2
  rw [← y1, w9] at e'
  replace e' := nm_s e'
  obtain ⟨h14, w14, e'⟩ := e'
  replace e' := cl_s e'
  obtain ⟨r15, e15, e'⟩ := e'
  have y15 : r15 = Z 15 := r_eq P1.2.1.1 (by rw [w14] at e15; exact e15)
  rw [y15] at e'
  replace e' := nm_s e'
  obtain ⟨h16, w16, e'⟩ := e'
  have k14 : hI h14 (Z 15) 2 = hI hc1 (Z 2) 3 := by rw [w14, rI_a (zne D)]; exact m3.symm
  rw [k14] at w16
  replace e' := cl_s e'
  obtain ⟨o17, e17, e'⟩ := e'
  have PB1 : PB T N Z (wI (wI hc1 (Z 27) (hI hc1 (Z 2) 3).toNatClampNeg o2.1) (Z 2) 3 ((hI hc1 (Z 2) 3) + (1 : Int32))) h16 := by
    rw [w16, w14]
    exact pb_m D vl gz g0 P1 c
  obtain ⟨P17, _, R17⟩ := ps_aW (W := fun g => wI (wI g (Z 27) (hI hc1 (Z 2) 3).toNatClampNeg o2.1) (Z 2) 3 ((hI hc1 (Z 2) 3) + (1 : Int32))) n12 dg D n2 (fun _ _ _ => rfl) (fun _ _ _ => rfl) (fun g g' a j q => w_3 _ _ a j (w_3 g g' a j q)) (fun g a j ha => by
    rcases ha with rfl | rfl | rfl <;> (show hI (wI (wI g (Z 27) _ _) (Z 2) 3 _) _ j = _; rw [rI_a (zne D), rI_a (zne D)])) PB1 e9 e17
  have P17 : PS T N Z h17 o17 := by rw [w17, w15]; exact P17
  have m0 := m12.1
  have nm := nc_i m0
  have tx : ((hI hc1 (Z 2) 3) + (1 : Int32)).toInt = (hI hc1 (Z 2) 3).toInt + 1 := by rw [ta (by rw [z1]; omega), z1]
  refine ma_77 n12 dg n2 F F D P17 gz (by rw [g0]; rfl) m0 ?_ (show (0 : Int) ≤ (0 : Int32).toInt by decide) (by decide) ?_ e e'
  · rw [R17.2 _ _ (fun z => zn D z.1), w16, rI_s, tx]; omega
  · rw [R17.2 _ _ (fun z => zn D z.1), w16, rI_a (zne D), w14, rI_a (zne D)]
    exact (P1.2.2.2.2.2.2.2.2.2.2.2.2.2.2.2.1 (hI hc1 (Z 2) 3).toNatClampNeg (by rw [← m3]; omega) (by omega)).1
theorem ma_r (n12 : N ≤ 1200) (dg : ∀ j : Nat, (j : Int) < N → 0 ≤ T j ∧ T j ≤ 255) (D : ZD Z) (n2 : x2.toInt = N) (z7 : Z 997 = 0) (z6 : Z 996 = 0) (P : PS T N Z hc hr) (e : sX2_takeMan F hc (Z 3) = some o) (e' : sX15_isMan F hr (Z 16) (Z 82) x2 = some o') : Out T N Z o o' := by
  have z1 : (1 : Int32).toInt = 1 := rfl
  have z12 : (12 : Int32).toInt = 12 := rfl
  unfold sX2_takeMan sX2_takeMan_38 at e
  unfold sX15_isMan sX15_isMan_48 at e'
  replace e := cl_s e
  obtain ⟨hc1, ea, e⟩ := e
  replace e' := cl_s e'
  obtain ⟨hr1, en, e'⟩ := e'
  have P1 := ps_a n12 dg D n2 (ps_b P).1 (ps_b P).2 ea en
  have no : some ((0 : Int32), hc1) = some o → some ((0 : Int32), hr1) = some o' → Out T N Z o o' := fun e e' => by
    rw [← Option.some.inj e, ← Option.some.inj e']; exact out_0 P1
  replace e := cl_s e
  obtain ⟨o2, e2, e⟩ := e
  obtain ⟨q1, v1⟩ := one_r n12 (ps_m P1) e2
  rw [q1] at e
  rcases v1 with ⟨v1, n1⟩ | ⟨v1, ⟨k1, l1⟩, y1, rg1⟩
  · replace e := br_s e
    rcases e with ⟨_, e⟩ | ⟨nb, _⟩
    rotate_left
    · exact absurd v1 nb
    replace e' := br_s e'
    rcases e' with ⟨k, e'⟩ | ⟨k, e'⟩
    · replace e' := br_s e'
      rcases e' with ⟨l, e'⟩ | ⟨l, e'⟩
      · exact absurd ⟨k, l⟩ n1
      · exact no e e'
    · exact no e e'
  replace e := br_s e
  rcases e with ⟨nb, _⟩ | ⟨_, e⟩
  · exact absurd nb v1
  replace e' := br_s e'
  rcases e' with ⟨_, e'⟩ | ⟨k, _⟩
  rotate_left
  · exact absurd k1 k
  replace e' := br_s e'
  rcases e' with ⟨_, e'⟩ | ⟨l, _⟩
  rotate_left
  · exact absurd l1 l
  replace e := cl_s e
  obtain ⟨r4, e4, e⟩ := e
  rw [r_eq P1.1.2.1 e4] at e
  replace e := cl_s e
  obtain ⟨o5, e5, e⟩ := e
  replace e' := cl_s e'
  obtain ⟨o4, e4', e'⟩ := e'
  -- the reference finds him as the class does
  have fnd : o5.2 = hc1 ∧ o4.2 = hr1 ∧ o5.1 = o4.1 := by
    unfold sX15_manAt sX15_manAt_37 sX15_manAt_38 at e4'
    replace e4' := br_s e4'
    rcases e4' with ⟨_, e4'⟩ | ⟨n, _⟩
    rotate_left
    · exact absurd k1 n
    replace e4' := br_s e4'
    rcases e4' with ⟨_, e4'⟩ | ⟨n, _⟩
    rotate_left
    · exact absurd l1 n
    replace e4' := cl_s e4'
    obtain ⟨r5, e5', e4'⟩ := e4'
    rw [r_eq P1.2.1.1 e5'] at e4'
    replace e4' := (gd_s e4').2
    rw [← y1] at e4'
    replace e4' := cl_s e4'
    obtain ⟨o6, e6, e4'⟩ := e4'
    unfold sX1_manOf at e5
    unfold sX14_find at e6
    obtain ⟨a1, a2, a3, _⟩ := manf_r (ps_m P1).2.2.2.2.2 P1.1 P1.2.1 F F (show (0 : Int) ≤ (0 : Int32).toInt by decide) (by decide) e5 e6
    rw [← Option.some.inj e4']
    exact ⟨a1, a2, a3⟩
  obtain ⟨f1, f2, f3⟩ := fnd
  rw [f1] at e
  rw [f2, ← f3] at e'
  have m12 := P1.2.2.2.2.2.2.2.2.1
  replace e := br_s e
  replace e' := br_s e'
  rcases e with ⟨b, e⟩ | ⟨b, e⟩
  rotate_left
  · rcases e' with ⟨b', _⟩ | ⟨_, e'⟩
    · exact absurd b' b
    · exact no e e'
  rcases e' with ⟨_, e'⟩ | ⟨b', _⟩
  rotate_left
  · exact absurd b b'
  replace e := cl_s e
  obtain ⟨r7, e7, e⟩ := e
  rw [r_eq P1.1.2.1 e7] at e
  replace e' := cl_s e'
  obtain ⟨r6, e6, e'⟩ := e'
  have m3 : hI hc1 (Z 2) 3 = hI hr1 (Z 15) 2 := P1.2.2.2.2.2.2.1 (3, 2) (by decide)
  rw [r_eq P1.2.1.1 e6, ← m3] at e'
  replace e := br_s e
  replace e' := br_s e'
  rcases e with ⟨c, e⟩ | ⟨c, e⟩
  rotate_left
  · rcases e' with ⟨_, e'⟩ | ⟨c', _⟩
    · exact no e e'
    · have c := nlt_i c
      refine absurd (Int32.toInt_inj.mp ?_) c'
      rw [z12]; have := m12.2; omega
  have c := lt_i c
  rw [z12] at c
  rcases e' with ⟨c', _⟩ | ⟨_, e'⟩
  · rw [c', z12] at c; omega
  have l6 : LT6 (zg Z ((hI hc1 (Z 2) 3).toNatClampNeg + 1) 0) hc1 hr1 := fun j hj => ⟨fun _ => (ls_6 P1.2.2.2.2.2 j hj).1 (by rw [z7]; exact (Nat.succ_ne_zero j).symm), fun _ i hi => absurd hi (Nat.not_lt_zero i)⟩
  have r := ma_go (Z := zg Z ((hI hc1 (Z 2) 3).toNatClampNeg + 1) 0) n12 dg (zd_g D) n2 rfl rfl (ps_zg P1 l6) c m3 y1 rg1 e e'
  rw [zg_zg, zg_id z7 z6] at r
  exact r
end
