section
/-! men laid out stand on squares of the law -/
theorem low_min {x : Int64} (hx : ¬ x = 0) : ∃ k, k < 64 ∧ bitJ x k = true ∧ (∀ j, j < k → bitJ x j = false) ∧ (x &&& (-x)) = Int64.ofBitVec (BitVec.twoPow 64 k) := by
  obtain ⟨k, hk, pk, e⟩ := low_bit hx
  refine ⟨k, hk, pk, fun j hj => ?_, e⟩
  obtain ⟨m, hm, pm, hl⟩ := least (P := fun i => bitJ x i) k pk
  have hl' : ∀ j, j < m → x.toBitVec.getLsbD j = false := hl
  have pm' : x.toBitVec.getLsbD m = true := pm
  have w : bitJ (x &&& (-x)) m = true := by
    show (x.toBitVec &&& (-x).toBitVec).getLsbD m = true
    rw [BitVec.getLsbD_and, Int64.toBitVec_neg, BitVec.getLsbD_neg]
    have : ¬ ∃ j, j < m ∧ x.toBitVec.getLsbD j = true := fun ⟨j, hj, hz⟩ => by rw [hl' j hj] at hz; exact absurd hz (by decide)
    have m64 : m < 64 := by omega
    simp [pm', m64, this]
  rw [e, bj_pow hk, decide_eq_true_eq] at w
  subst w
  exact hl j hj
theorem low_all {h : Hp} {x : Int64} {o : Int32 × Hp} (e : sX11_lowest h x = some o) (nz : ¬ lg_cmp x (0 : Int64) = 0) : ∃ k, k < 64 ∧ o.1.toNatClampNeg = k ∧ bitJ x k = true ∧ (∀ j, j < k → bitJ x j = false) ∧ bitJ (x &&& (x - (1 : Int64))) k = false ∧ ∀ s, s < 64 → ¬ s = k → bitJ x s = true → bitJ (x &&& (x - (1 : Int64))) s = true := by
  have hx := cmp0 nz
  obtain ⟨k, hk, pk, hl, el⟩ := low_min hx
  have e2 : (x - (1 : Int64)).toBitVec = ~~~ ((-x).toBitVec) := by
    rw [Int64.toBitVec_sub, Int64.toBitVec_neg, BitVec.not_neg]
    rfl
  have nb : ∀ s, s < 64 → bitJ (x - (1 : Int64)) s = !bitJ (-x) s := fun s hs => by
    unfold bitJ
    rw [e2, BitVec.getLsbD_not]
    simp [hs]
  have ab : ∀ s, (bitJ x s && bitJ (-x) s) = decide (k = s) := fun s => by rw [← bj_and, el, bj_pow hk]
  refine ⟨k, hk, ?_, pk, hl, ?_, fun s hs ns hb => ?_⟩
  · unfold sX11_lowest at e
    rw [← Option.some.inj (gd_s e).2]
    show (sqT.getD _ 0).toNatClampNeg = k
    rw [el, sq_pow hk, z_clamp (by omega)]
  · have := ab k
    rw [pk, Bool.true_and, decide_eq_true rfl] at this
    rw [bj_and, nb k hk, this]
    simp
  · have := ab s
    rw [hb, Bool.true_and, decide_eq_false (fun q => ns q.symm)] at this
    rw [bj_and, nb s hs, this, hb]
    rfl
section
variable {ρ : Nat → Nat} {c : Cm} {h o : Hp} {x0 b L of F : Nat} {sq : Int} {x1 x2 x3 : Int32}
theorem put_111 {x4 : Int64} (n : ¬ of = x0) (e : sX3_put_111 h x0 x4 = some o) : (∀ a i, hR o a i = hR h a i) ∧ ∀ d, hJ o of d = hJ h of d := by
  unfold sX3_put_111 at e
  simp only [nm] at e
  rw [← Option.some.inj e]
  exact ⟨fun _ _ => rfl, fun d => by rw [r_J, if_neg (fun z => n z.1)]⟩
theorem put_70b (n : ¬ of = x0) (ef : hR h x0 1 = some of) (i1 : Rg 0 63 x1) (e : sX3_put_70 h x0 x1 x2 x3 ((1 : Int64) <<< (x1.toInt64 &&& 63)) = some o) : (∀ a i, hR o a i = hR h a i) ∧ ∀ d s, bitJ (hJ o of d) s = true → bitJ (hJ h of d) s = true ∨ (s = x1.toNatClampNeg ∧ 0 ≤ x2.toInt) := by
  unfold sX3_put_70 at e
  simp only [nm] at e
  replace e := cl_s e
  obtain ⟨q1, w1, e⟩ := e
  replace e := (gd_s e).2
  replace e := br_s e
  rcases e with ⟨_, e⟩ | ⟨n2, e⟩
  · obtain ⟨p1, p2⟩ := put_111 n e
    exact ⟨fun a i => p1 a i, fun d s hb => Or.inl (by rw [p2] at hb; exact hb)⟩
  · have z2 : 0 ≤ x2.toInt := by
      have := nlt_i n2
      have z0 : (0 : Int32).toInt = 0 := rfl
      omega
    replace e := cl_s e
    obtain ⟨q5, w5, e⟩ := e
    have w5' : hR h x0 1 = some q5 := w5
    have y5 : q5 = of := r_eq ef w5'
    subst y5
    replace e := (gd_s (gd_s e).2).2
    have key : ∀ {g : Hp}, (∀ d, hJ o q5 d = hJ g q5 d) → (∀ d, hJ g q5 d = hJ (wJ h q5 (x2 &&& (1 : Int32)).toNatClampNeg ((hJ h q5 (x2 &&& (1 : Int32)).toNatClampNeg) ||| ((1 : Int64) <<< (x1.toInt64 &&& 63)))) q5 d) → ∀ d s, bitJ (hJ o q5 d) s = true → bitJ (hJ h q5 d) s = true ∨ (s = x1.toNatClampNeg ∧ 0 ≤ x2.toInt) := fun {g} a1 a2 d s hb => by
      rw [a1, a2, r_J] at hb
      by_cases z : d = (x2 &&& (1 : Int32)).toNatClampNeg
      · rw [if_pos ⟨rfl, z⟩, bj_or, bj_one i1, Bool.or_eq_true, decide_eq_true_eq] at hb
        rw [z]
        exact hb.imp id (fun y => ⟨y.symm, z2⟩)
      · rw [if_neg (fun y => z y.2)] at hb
        exact Or.inl hb
    replace e := br_s e
    rcases e with ⟨_, e⟩ | ⟨_, e⟩
    · replace e := cl_s e
      obtain ⟨q10, w10, e⟩ := e
      replace e := (gd_s e).2
      obtain ⟨p1, p2⟩ := put_111 n e
      exact ⟨fun a i => p1 a i, key p2 (fun _ => rfl)⟩
    · obtain ⟨p1, p2⟩ := put_111 n e
      exact ⟨fun a i => p1 a i, key p2 (fun _ => rfl)⟩
theorem put_bt (n : ¬ of = x0) (ef : hR h x0 1 = some of) (e : sX3_put h x0 x1 x2 x3 = some o) : (∀ a i, hR o a i = hR h a i) ∧ ∀ d s, bitJ (hJ o of d) s = true → bitJ (hJ h of d) s = true ∨ (s = x1.toNatClampNeg ∧ 0 ≤ x1.toInt ∧ 0 ≤ x2.toInt) := by
  unfold sX3_put sX3_put_10 at e
  simp only [nm] at e
  have id0 : ∀ {o : Hp}, some h = some o → (∀ a i, hR o a i = hR h a i) ∧ ∀ d s, bitJ (hJ o of d) s = true → bitJ (hJ h of d) s = true ∨ (s = x1.toNatClampNeg ∧ 0 ≤ x1.toInt ∧ 0 ≤ x2.toInt) := fun z => by
    rw [← Option.some.inj z]
    exact ⟨fun _ _ => rfl, fun _ _ hb => Or.inl hb⟩
  replace e := br_s e
  rcases e with ⟨_, e⟩ | ⟨n0, e⟩
  · exact id0 e
  replace e := br_s e
  rcases e with ⟨l64, e⟩ | ⟨_, e⟩
  · have i1 : Rg 0 63 x1 := by
      have a := nlt_i n0
      have b := Int32.lt_iff_toInt_lt.mp l64
      have z0 : (0 : Int32).toInt = 0 := rfl
      have z64 : (64 : Int32).toInt = 64 := rfl
      exact ⟨by omega, by omega⟩
    replace e := cl_s e
    obtain ⟨q4, w4, e⟩ := e
    replace e := (gd_s e).2
    have fin : ∀ {g : Hp}, (∀ a i, hR g a i = hR h a i) → (∀ d s, bitJ (hJ g of d) s = true → bitJ (hJ h of d) s = true) → sX3_put_70 g x0 x1 x2 x3 ((1 : Int64) <<< (x1.toInt64 &&& 63)) = some o → (∀ a i, hR o a i = hR h a i) ∧ ∀ d s, bitJ (hJ o of d) s = true → bitJ (hJ h of d) s = true ∨ (s = x1.toNatClampNeg ∧ 0 ≤ x1.toInt ∧ 0 ≤ x2.toInt) := fun {g} a1 a2 e => by
      obtain ⟨p1, p2⟩ := put_70b (h := g) n (by rw [a1]; exact ef) i1 e
      refine ⟨fun a i => (p1 a i).trans (a1 a i), fun d s hb => ?_⟩
      rcases p2 d s hb with z | z
      · exact Or.inl (a2 d s z)
      · exact Or.inr ⟨z.1, i1.1, z.2⟩
    replace e := br_s e
    rcases e with ⟨_, e⟩ | ⟨_, e⟩
    · exact fin (fun _ _ => rfl) (fun _ _ hb => hb) e
    · replace e := cl_s e
      obtain ⟨q8, w8, e⟩ := e
      have y8 : q8 = of := r_eq ef w8
      subst y8
      replace e := (gd_s (gd_s e).2).2
      have sub : ∀ {k : Nat} {y : Int64} (d s : Nat), bitJ (hJ (wJ h q8 k ((hJ h q8 k) &&& y)) q8 d) s = true → bitJ (hJ h q8 d) s = true := fun {k y} d s hb => by
        rw [r_J] at hb
        by_cases z : d = k
        · rw [if_pos ⟨rfl, z⟩, bj_and, Bool.and_eq_true] at hb
          rw [z]; exact hb.1
        · rw [if_neg (fun y => z y.2)] at hb; exact hb
      replace e := cl_s e
      obtain ⟨q12, w12, e⟩ := e
      replace e := (gd_s e).2
      replace e := br_s e
      rcases e with ⟨_, e⟩ | ⟨_, e⟩
      · replace e := cl_s e
        obtain ⟨q15, w15, e⟩ := e
        replace e := (gd_s e).2
        refine fin ?_ ?_ e
        · intro a i; rfl
        · intro d s hb; exact sub d s hb
      · refine fin ?_ ?_ e
        · intro a i; rfl
        · intro d s hb; exact sub d s hb
  · exact id0 e
/-- a man taken off is off -/
theorem put_off (T : TH ρ c h) (r0 : ρ x0 = 4) (ef : hR h x0 1 = some of) (i1 : Rg 0 63 x1) (e : sX3_put h x0 x1 (-1 : Int32) x3 = some o) : ∀ d, d < 2 → bitJ (hJ o of d) x1.toNatClampNeg = false := by
  have qf := th_of T r0 ef
  have n : ¬ of = x0 := ne_r' qf r0 (by decide)
  have c1 := clamp_i i1.1
  have b1 := i1.2
  unfold sX3_put sX3_put_10 at e
  simp only [nm] at e
  replace e := br_s e
  rcases e with ⟨n0, e⟩ | ⟨_, e⟩
  · have := Int32.lt_iff_toInt_lt.mp n0
    have z0 : (0 : Int32).toInt = 0 := rfl
    have := i1.1
    omega
  replace e := br_s e
  rcases e with ⟨_, e⟩ | ⟨l64, e⟩
  · replace e := cl_s e
    obtain ⟨q4, w4, e⟩ := e
    replace e := (gd_s e).2
    have fin : ∀ {g : Hp}, (∀ a i, hR g a i = hR h a i) → (∀ d, d < 2 → bitJ (hJ g of d) x1.toNatClampNeg = false) → sX3_put_70 g x0 x1 (-1 : Int32) x3 ((1 : Int64) <<< (x1.toInt64 &&& 63)) = some o → ∀ d, d < 2 → bitJ (hJ o of d) x1.toNatClampNeg = false := fun {g} a1 a2 e d hd => by
      obtain ⟨p1, p2⟩ := put_70b (h := g) n (by rw [a1]; exact ef) i1 e
      cases z : bitJ (hJ o of d) x1.toNatClampNeg with
      | false => rfl
      | true =>
        rcases p2 d _ z with y | y
        · rw [a2 d hd] at y; exact absurd y (by decide)
        · exact absurd y.2 (by decide)
    replace e := br_s e
    rcases e with ⟨l, e⟩ | ⟨l, e⟩
    · refine fin (fun _ _ => rfl) (fun d hd => ?_) e
      cases z : bitJ (hJ h of d) x1.toNatClampNeg with
      | false => rfl
      | true =>
        have := (th_ps T r0 w4 ef (by omega) hd z).1
        have l := Int32.lt_iff_toInt_lt.mp l
        have z0 : (0 : Int32).toInt = 0 := rfl
        omega
    · have l0 : 0 ≤ (hI h q4 x1.toNatClampNeg).toInt := by
        have := nlt_i l
        have z0 : (0 : Int32).toInt = 0 := rfl
        omega
      have ion := thI T (th_on T r0 w4) (k := 34) (i := x1.toNatClampNeg) (lo := -2) (hi := 23) rfl
      have a1 := and1 (x := hI h q4 x1.toNatClampNeg) ⟨l0, ion.2⟩
      replace e := cl_s e
      obtain ⟨q8, w8, e⟩ := e
      have y8 : q8 = of := r_eq ef w8
      subst y8
      replace e := (gd_s (gd_s e).2).2
      have off : ∀ d, d < 2 → bitJ (hJ (wJ h q8 ((hI h q4 x1.toNatClampNeg) &&& (1 : Int32)).toNatClampNeg ((hJ h q8 ((hI h q4 x1.toNatClampNeg) &&& (1 : Int32)).toNatClampNeg) &&& (((1 : Int64) <<< (x1.toInt64 &&& 63)) ^^^ (-1 : Int64)))) q8 d) x1.toNatClampNeg = false := fun d hd => by
        rw [r_J]
        by_cases z : d = ((hI h q4 x1.toNatClampNeg) &&& (1 : Int32)).toNatClampNeg
        · rw [if_pos ⟨rfl, z⟩, bj_and, bj_not _ (by omega), bj_one i1]
          simp
        · rw [if_neg (fun y => z y.2)]
          cases y : bitJ (hJ h q8 d) x1.toNatClampNeg with
          | false => rfl
          | true =>
            have := (th_ps T r0 w4 ef (by omega) hd y).2.1
            have := a1.2.2
            omega
      replace e := cl_s e
      obtain ⟨q12, w12, e⟩ := e
      replace e := (gd_s e).2
      replace e := br_s e
      rcases e with ⟨_, e⟩ | ⟨_, e⟩
      · replace e := cl_s e
        obtain ⟨q15, w15, e⟩ := e
        replace e := (gd_s e).2
        refine fin ?_ ?_ e
        · intro a i; rfl
        · intro d hd; exact off d hd
      · refine fin ?_ ?_ e
        · intro a i; rfl
        · intro d hd; exact off d hd
  · have := nlt_i l64
    have z64 : (64 : Int32).toInt = 64 := rfl
    omega
theorem bo_h {a : Nat} {o : Int32 × Hp} (e : sX1_becomesOthers h a x1 = some o) : o.2 = h := by
  unfold sX1_becomesOthers sX1_becomesOthers_23 sX1_becomesOthers_24 at e
  replace e := br_s e
  rcases e with ⟨_, e⟩ | ⟨_, e⟩
  · rw [← Option.some.inj (gd_s e).2]
  replace e := br_s e
  rcases e with ⟨_, e⟩ | ⟨_, e⟩
  · rw [← Option.some.inj (gd_s e).2]
  replace e := cl_s e
  obtain ⟨_, _, e⟩ := e
  replace e := (gd_s e).2
  replace e := br_s e
  rcases e with ⟨_, e⟩ | ⟨_, e⟩
  · rw [← Option.some.inj (gd_s e).2]
  · rw [← Option.some.inj (gd_s e).2]
theorem il_h {a : Nat} {o : Int32 × Hp} (e : sX1_isLast h a x1 x2 = some o) : o.2 = h := by
  unfold sX1_isLast sX1_isLast_20 sX1_isLast_28 at e
  replace e := cl_s e
  obtain ⟨_, _, e⟩ := e
  replace e := (gd_s e).2
  replace e := br_s e
  rcases e with ⟨_, e⟩ | ⟨_, e⟩
  · replace e := br_s e
    rcases e with ⟨_, e⟩ | ⟨_, e⟩
    · rw [← Option.some.inj (gd_s e).2]
    · rw [← Option.some.inj (gd_s e).2]
  · replace e := br_s e
    rcases e with ⟨_, e⟩ | ⟨_, e⟩
    · rw [← Option.some.inj (gd_s e).2]
    · rw [← Option.some.inj (gd_s e).2]
/-- laying men out -/
theorem lo_79 {x5 x6 : Int32} (rb : ρ b = 4) (qf : ρ of = 35) (rL : ρ L = 2) (s6 : x6.toInt = sq) : ∀ (f : Nat) {h : Hp} {o : Int32 × Hp} {x7 x8 x9 : Int32}, hR h x0 3 = some b → hR h x0 0 = some L → hR h b 1 = some of → 0 ≤ x7.toInt → PoS sq b h → sX0_layOut_79 F f h x0 x1 x5 x6 x7 x8 x9 = some o → PoS sq b o.2 := by
  intro f
  induction f with
  | zero => intro h o x7 x8 x9 _ _ _ _ _ e; exact absurd e (by rw [sX0_layOut_79]; exact fun z => nomatch z)
  | succ f ih =>
    intro h o x7 x8 x9 e3 e0 ef a7 P e
    rw [sX0_layOut_79] at e
    unfold sX0_layOut_240 at e
    replace e := br_s e
    rcases e with ⟨_, e⟩ | ⟨_, e⟩
    · rw [← Option.some.inj e]; exact P
    replace e := br_s e
    rcases e with ⟨_, e⟩ | ⟨n6, e⟩
    · rw [← Option.some.inj e]; exact P
    have n6 := nle_i n6
    have z0 : (0 : Int32).toInt = 0 := rfl
    rw [z0] at n6
    replace e := (gd_s e).2
    replace e := nm_s e
    obtain ⟨v4, e4, e⟩ := e
    replace e := (gd_s e).2
    replace e := nm_s e
    obtain ⟨v6, e6, e⟩ := e
    replace e := cl_s e
    obtain ⟨o7, e7, e⟩ := e
    have q7 : o7.2 = h := by
      unfold sX0_codeIn at e7
      rw [← Option.some.inj e7]
    have r7 : Rg 0 x7.toInt x7 := ⟨a7, Int.le_refl _⟩
    have r6 : Rg 1 x6.toInt x6 := ⟨by omega, Int.le_refl _⟩
    have l4 : v4.toInt < sq := by rw [e4, ← s6]; exact rem_lt r7 r6 ⟨Int.le_refl 0, Int.le_refl 1⟩
    have a6 : 0 ≤ v6.toInt := by
      rw [e6, td r7 r6 ⟨Int.le_refl 0, Int.le_refl 1⟩]
      exact Int.ediv_nonneg a7 (by omega)
    clear e4 e6
    rw [q7] at e
    have b178 : ∀ {t u : Int32}, sX0_layOut_178 F (sX0_layOut_79 F f) h x0 x1 x5 x6 v6 x9 v4 o7.1 t u = some o → PoS sq b o.2 := fun {t u} e => by
      unfold sX0_layOut_178 sX0_layOut_204 at e
      replace e := br_s e
      rcases e with ⟨_, e⟩ | ⟨_, e⟩
      · replace e := br_s e
        rcases e with ⟨_, e⟩ | ⟨_, e⟩
        · replace e := cl_s e
          obtain ⟨r3, _, e⟩ := e
          replace e := cl_s e
          obtain ⟨r4, _, e⟩ := e
          replace e := (gd_s e).2
          replace e := br_s e
          rcases e with ⟨_, e⟩ | ⟨_, e⟩
          · replace e := nm_s e
            obtain ⟨v7, _, e⟩ := e
            replace e := cl_s e
            obtain ⟨r8, e8, e⟩ := e
            have y8 : r8 = b := r_eq e3 e8
            subst y8
            replace e := cl_s e
            obtain ⟨r9, _, e⟩ := e
            replace e := cl_s e
            obtain ⟨o10, e10, e⟩ := e
            replace e := nm_s e
            obtain ⟨v11, _, e⟩ := e
            obtain ⟨p1, p2⟩ := put_bt (ne_r' qf rb (by decide)) ef e10
            refine ih (by rw [p1]; exact e3) (by rw [p1]; exact e0) (by rw [p1]; exact ef) a6 (fun of' d eo hd s hs hb => ?_) e
            rw [p1] at eo
            have y : of' = of := r_eq ef eo
            subst y
            rcases p2 d s hb with z | ⟨z, z1, _⟩
            · exact P of' d ef hd s hs z
            · have := clamp_i z1
              omega
          · rw [← Option.some.inj e]; exact P
        · rw [← Option.some.inj e]; exact P
      · rw [← Option.some.inj e]; exact P
    have b141 : ∀ {t : Int32}, sX0_layOut_141 F (sX0_layOut_79 F f) h x0 x1 x5 x6 v6 x9 v4 o7.1 t = some o → PoS sq b o.2 := fun {t} e => by
      unfold sX0_layOut_141 sX0_layOut_177 at e
      replace e := cl_s e
      obtain ⟨r1, _, e⟩ := e
      replace e := cl_s e
      obtain ⟨o2, e2, e⟩ := e
      have q2 : o2.2 = h := bo_h e2
      rw [q2] at e
      replace e := br_s e
      rcases e with ⟨_, e⟩ | ⟨_, e⟩
      · exact b178 e
      replace e := cl_s e
      obtain ⟨r4, _, e⟩ := e
      replace e := cl_s e
      obtain ⟨o5, e5, e⟩ := e
      have q5 : o5.2 = h := il_h e5
      rw [q5] at e
      replace e := br_s e
      rcases e with ⟨_, e⟩ | ⟨_, e⟩
      · exact b178 e
      · exact b178 e
    unfold sX0_layOut_140 at e
    replace e := br_s e
    rcases e with ⟨_, e⟩ | ⟨_, e⟩
    · replace e := br_s e
      rcases e with ⟨_, e⟩ | ⟨_, e⟩
      · exact b141 e
      · exact b141 e
    · exact b141 e
theorem lo_11 (hF : 700000 ≤ F) (hO : pmO c (cw c b) [(34, 999), (35, 999), (36, 999), (4, 7)]) (rb : ρ b = 4) (qf : ρ of = 35) (rL : ρ L = 2) (a1 : 0 ≤ x1.toInt) (a2 : 0 ≤ x2.toInt) : ∀ (f : Nat) {h : Hp} {o : Int32 × Hp} {x3 : Int64} {x5 : Int32}, TH ρ c h → hR h x0 3 = some b → hR h x0 0 = some L → hR h b 1 = some of → (hI h L 2).toInt = sq → 0 ≤ x5.toInt → (∀ d, d < 2 → ∀ s, s < 64 → bitJ (hJ h of d) s = true → bitJ x3 s = true) → (∀ s : Nat, (s : Int) < x5.toInt → bitJ x3 s = false) → sX0_layOut_11 F f h x0 x1 x2 x3 x5 = some o → PoS sq b o.2 := by
  intro f
  induction f with
  | zero => intro h o x3 x5 _ _ _ _ _ _ _ _ e; exact absurd e (by rw [sX0_layOut_11]; exact fun z => nomatch z)
  | succ f ih =>
    intro h o x3 x5 T e3 e0 ef eL a5 B Z e
    rw [sX0_layOut_11] at e
    have b55 : (∀ s, s < 64 → bitJ x3 s = false) → sX0_layOut_55 F h x0 x1 x2 = some o → PoS sq b o.2 := fun hz e => by
      unfold sX0_layOut_55 at e
      replace e := cl_s e
      obtain ⟨o1, e1, e⟩ := e
      have q1 := (sat_e (size_q hF a1) e1).1
      rw [q1] at e
      replace e := cl_s e
      obtain ⟨r2, e2, e⟩ := e
      have y2 : r2 = L := r_eq e0 e2
      subst y2
      replace e := nm_s e
      obtain ⟨v3, e3', e⟩ := e
      refine lo_79 rb qf rL (by rw [e3']; exact eL) F e3 e0 ef a2 (fun of' d eo hd s hs hb => ?_) e
      have y : of' = of := r_eq ef eo
      subst y
      have := B d hd s hs hb
      rw [hz s hs] at this
      exact absurd this (by decide)
    have z64 : (64 : Int32).toInt = 64 := rfl
    replace e := br_s e
    rcases e with ⟨l, e⟩ | ⟨l, e⟩
    · have l := le_i l
      exact b55 (fun s hs => Z s (by omega)) e
    have l := nle_i l
    replace e := br_s e
    rcases e with ⟨w, e⟩ | ⟨nz, e⟩
    · refine b55 (fun s hs => ?_) e
      have x0' : x3 = 0 := cmp_eq w
      rw [x0', bj_zero]
    replace e := cl_s e
    obtain ⟨r3, e3', e⟩ := e
    have y3 : r3 = b := r_eq e3 e3'
    subst y3
    replace e := cl_s e
    obtain ⟨o4, e4, e⟩ := e
    have Z4 := sat_e (zX11_lowest hF T) e4
    obtain ⟨k, hk, ek, pk, hl, noff, rest⟩ := low_all e4 nz
    replace e := cl_s e
    obtain ⟨r5, e5, e⟩ := e
    replace e := cl_s e
    obtain ⟨o6, e6, e⟩ := e
    rw [Z4.1] at e5 e6
    have y5 : r5 = L := r_eq e0 e5
    subst y5
    replace e := nm_s e
    obtain ⟨v7, e7, e⟩ := e
    replace e := nm_s e
    obtain ⟨v8, e8, e⟩ := e
    have T6 : TH ρ c o6 := sat_e (zX3_put hF hO T rb (rg_top _) (rg_m (rg_b rfl : Rg (-1) (-1) (-1 : Int32)) (by decide)) (rg_top _) (fun w => absurd w (by decide))) e6
    have off := put_off T rb ef Z4.2 e6
    obtain ⟨p1, p2⟩ := put_bt (ne_r' qf rb (by decide)) ef e6
    obtain ⟨on, eon, qon⟩ := thR T rb (i := 0) (k2 := 34) rfl (by decide)
    obtain ⟨ra, era, qra⟩ := thR T rb (i := 2) (k2 := 36) rfl (by decide)
    have P := pu_all qon qra eon era e6
    have i5 : Rg 0 63 x5 := ⟨a5, by omega⟩
    have ny := nc_s i5 (by decide)
    have t8 : v8.toInt = x5.toInt + 1 := by rw [e8]; exact ny.2
    clear e8
    refine ih T6 (by rw [p1]; exact e3) (by rw [p1]; exact e0) (by rw [p1]; exact ef) (by rw [P.2.2.2.1 r5 2 rL]; exact eL) (by omega) (fun d hd s hs hb => ?_) (fun s hs => ?_) e
    · have ns : ¬ s = k := fun z => by
        have := off d hd
        rw [ek, ← z, hb] at this
        exact absurd this (by decide)
      rcases p2 d s hb with z | z
      · rw [e7]; exact rest s hs ns (B d hd s hs z)
      · exact absurd (z.1.trans ek) ns
    · rw [e7]
      have kx : x5.toInt ≤ (k : Int) := by
        have h1 : ¬ (k : Int) < x5.toInt := fun w => by
          rw [Z k w] at pk
          exact absurd pk (by decide)
        omega
      by_cases z : s = k
      · rw [z]; exact noff
      · cases y : bitJ x3 s with
        | false => rw [bj_and, y, Bool.false_and]
        | true =>
          have h2 : ¬ s < k := fun w => by
            rw [hl s w] at y
            exact absurd y (by decide)
          omega
theorem layOut_q (hF : 700000 ≤ F) (hO : pmO c 1003 [(34, 999), (35, 999), (36, 999), (4, 7)]) (T : TH ρ c h) (r0 : ρ x0 = 1) (e3 : hR h x0 3 = some b) (e0 : hR h x0 0 = some L) (i1 : Rg 0 33554431 x1) (i2 : Rg 0 599999 x2) (lw : LwR ρ c h) (ky : KyX x1) : Sat (sX0_layOut F h x0 x1 x2) (ZQ (ZI ρ c 0 1) (fun o => PoS (hI h L 2).toInt b o.2)) := by
  refine sat_and (zX0_layOut hF hO T r0 i1 i2 lw ky) (fun o e Z => ⟨Z, ?_⟩)
  have rb : ρ b = 4 := rr T (thR T r0 (i := 3) (k2 := 4) rfl (by decide)) e3
  have rL : ρ L = 2 := rr T (thR T r0 (i := 0) (k2 := 2) rfl (by decide)) e0
  have wb : cw c b = 1003 := kid_w T r0 (i := 3) (w := 1003) rfl (by decide) e3
  obtain ⟨of, ef, qf⟩ := thR T rb (i := 1) (k2 := 35) rfl (by decide)
  unfold sX0_layOut at e
  replace e := cl_s e
  obtain ⟨r1, e1, e⟩ := e
  have y1 : r1 = b := r_eq e3 e1
  subst y1
  replace e := cl_s e
  obtain ⟨o2, e2, e⟩ := e
  have q2 := sat_e (zX3_occupied hF T rb) e2
  rw [q2] at e
  refine lo_11 hF (by rw [wb]; exact hO) rb qf rL i1.1 i2.1 F T e3 e0 ef rfl (by decide) (fun d hd s hs hb => ?_) (fun s hs => ?_) e
  · unfold sX3_occupied at e2
    obtain ⟨f1, g1, e2⟩ := cl_s e2
    replace e2 := (gd_s e2).2
    obtain ⟨f2, g2, e2⟩ := cl_s e2
    replace e2 := (gd_s e2).2
    have z1 : f1 = of := r_eq ef g1
    have z2 : f2 = of := r_eq ef g2
    subst z1; subst z2
    rw [← Option.some.inj e2]
    show bitJ (hJ h f2 (0 : Int32).toNatClampNeg ||| hJ h f2 (1 : Int32).toNatClampNeg) s = true
    rw [bj_or, Bool.or_eq_true]
    have hc : d = 0 ∨ d = 1 := by omega
    rcases hc with w | w <;> subst w
    · exact Or.inl hb
    · exact Or.inr hb
  · have z0 : (0 : Int32).toInt = 0 := rfl
    omega
end
end
section
/-! going back: takeBack, goBack, countAll -/
def EnW (x0 b wy ks st pw ro L : Nat) (sq : Int) (h : Hp) : Prop := (hR h x0 0 = some L ∧ hR h x0 1 = some wy ∧ hR h x0 3 = some b ∧ hR h x0 4 = some ks ∧ hR h x0 5 = some st ∧ hR h x0 6 = some pw ∧ hR h x0 7 = some ro) ∧ (∀ i : Nat, i ≤ 5 → (hI h pw i).toInt = sq ^ i) ∧ StP x0 ks pw st h ∧ FmX wy sq h ∧ LenP x0 h ∧ (hI h L 2).toInt = sq ∧ sq ≤ 64 ∧ EvP x0 h
abbrev GBL : List (Nat × Nat) := [(23, 999), (1, 8), (24, 999), (25, 999), (26, 999), (1, 16), (1, 17), (34, 999), (35, 999), (36, 999), (4, 7), (4, 5), (1, 10), (1, 15)]
section
variable {ρ : Nat → Nat} {c : Cm} {h o : Hp} {x0 b wy ks st pw ro L F : Nat} {sq : Int} {x1 x2 x3 : Int32}
theorem enw_k {E : List (Nat × Nat)} (T : TH ρ c h) (r0 : ρ x0 = 1) (K : Kf ρ E h o) (N : ∀ a, ρ a ≠ 0 → hN o a = hN h a) (e : sS E GBL = true) (W : EnW x0 b wy ks st pw ro L sq h) : EnW x0 b wy ks st pw ro L sq o := by
  obtain ⟨⟨e0, e1, e3, e4, e5, e6, e7⟩, Pw, S, Fm, Ln, eL, s64, Ev⟩ := W
  have K := kf_m K e
  have rL : ρ L = 2 := rr T (thR T r0 (i := 0) (k2 := 2) rfl (by decide)) e0
  have qw : ρ wy = 11 := rr T (thR T r0 (i := 1) (k2 := 11) rfl (by decide)) e1
  have qk : ρ ks = 20 := rr T (thR T r0 (i := 4) (k2 := 20) rfl (by decide)) e4
  have qs : ρ st = 21 := rr T (thR T r0 (i := 5) (k2 := 21) rfl (by decide)) e5
  have qp : ρ pw = 22 := rr T (thR T r0 (i := 6) (k2 := 22) rfl (by decide)) e6
  refine ⟨⟨by rw [kfR 0 K r0]; exact e0, by rw [kfR 1 K r0]; exact e1, by rw [kfR 3 K r0]; exact e3, by rw [kfR 4 K r0]; exact e4, by rw [kfR 5 K r0]; exact e5, by rw [kfR 6 K r0]; exact e6, by rw [kfR 7 K r0]; exact e7⟩, fun i hi => by rw [kfI i K qp]; exact Pw i hi, stp_k T r0 qk qp qs K (P := S), fmx_k T qw K (P := Fm), fun i a hi ea => ?_, by rw [kfI 2 K rL]; exact eL, s64, evp_k T r0 K (P := Ev)⟩
  have q : ∀ j k2, mS GBL 1 j = false → rfK 1 j = k2 → k2 ≠ 0 → hR o x0 j = some a → hR h x0 j = some a ∧ ρ a ≠ 0 := fun j k2 hm hk h0 ej => by
    rw [kfR j K r0 (by decide) hm] at ej
    exact ⟨ej, by rw [rr T (thR T r0 (i := j) (k2 := k2) hk h0) ej]; exact h0⟩
  have z : hR h x0 i = some a ∧ ρ a ≠ 0 := by
    rcases hi with w | w | w <;> subst w
    · exact q 11 24 rfl rfl (by decide) ea
    · exact q 12 25 rfl rfl (by decide) ea
    · exact q 13 26 rfl rfl (by decide) ea
  rw [N a z.2]
  exact Ln i a hi z.1
theorem enw_f {A : List (Nat × Nat)} {Lo : List (Nat × List (Nat × Nat))} (T : TH ρ c h) (r0 : ρ x0 = 1) (f : Fr ρ (cat c (fS A Lo) h) h o) (e : (sS A GBL && Lo.all fun p => sS p.2 GBL) = true) (W : EnW x0 b wy ks st pw ro L sq h) : EnW x0 b wy ks st pw ro L sq o := enw_k T r0 (kf_of f e) f.2 rfl W
theorem tb_q (hF : 700000 ≤ F) (hA : pmA c TBL) (T : TH ρ c h) (r0 : ρ x0 = 1) (W : EnW x0 b wy ks st pw ro L sq h) (B : PoS sq b h) (s1 : 1 ≤ sq) (i1 : Rg 0 63 x1) (i2 : Rg 0 23 x2) : Sat (sX0_takeBack F h x0 x1 x2) (ZV ρ c) := by
  have one : ∀ {g : Hp} {y : Int32}, TH ρ c g → EnW x0 b wy ks st pw ro L sq g → PoS sq b g → Rg (-1) 23 y → ∀ {k : Hp → Option Hp}, (∀ g2, TH ρ c g2 → EnW x0 b wy ks st pw ro L sq g2 → PoS sq b g2 → Sat (k g2) (ZV ρ c)) → Sat (cl (sX0_takeBackTaking F g x0 x1 x2 y) k) (ZV ρ c) := fun {g y} Tg Wg Bg iy {k} H => by
    obtain ⟨⟨e0, e1, e3, e4, e5, e6, e7⟩, Pw, S, Fm, Ln, eL, s64, Ev⟩ := Wg
    refine s_cVf (S := fS TBL []) Tg (fs_sub (pmA_s hA rfl) fs_n) (tbt_q hF fs_a (th_in _ Tg) r0 e1 e3 e4 e5 e6 e7 i1 i2 iy Ln s1 s64 Pw S Bg Fm) (fun g2 T2 f2 => ?_)
    exact H g2 T2 (enw_f Tg r0 f2 rfl ⟨⟨e0, e1, e3, e4, e5, e6, e7⟩, Pw, S, Fm, Ln, eL, s64, Ev⟩) (pos_k Tg (rr Tg (thR Tg r0 (i := 3) (k2 := 4) rfl (by decide)) e3) (kf_of (E := TBL) f2 rfl) (P := Bg))
  unfold sX0_takeBack
  refine one T W B (rg_m (rg_b rfl : Rg (-1) (-1) (-1 : Int32)) (by decide)) (fun g T1 W1 B1 => ?_)
  have e3 := W1.1.2.2.1
  refine s_ref e3 ?_
  refine s_dJ0 (zX3_occupied hF T1 (rr T1 (thR T1 r0 (i := 3) (k2 := 4) rfl (by decide)) e3)) (fun o3 _ q3 => ?_)
  rw [q3]
  refine s_cl (s_imp (zJ13_bitCount_95d88 hF T1) (fun o4 Z4 => ?_))
  rw [Z4.1]
  refine s_cl (s_imp (zX0_sizeOf hF T1 (thI T1 r0 (k := 1) (i := 15) rfl)) (fun o5 Z5 => ?_))
  rw [Z5.1]
  have lp : ∀ (f : Nat) {g : Hp} {x3 : Int32}, TH ρ c g → EnW x0 b wy ks st pw ro L sq g → PoS sq b g → 0 ≤ x3.toInt → (13 - x3.toInt).toNat < f → Sat (sX0_takeBack_30 F f g x0 x1 x2 x3) (ZV ρ c) := by
    intro f
    induction f with
    | zero => intros; omega
    | succ f ih =>
      intro g x3 Tg Wg Bg a3 hf
      rw [sX0_takeBack_30]
      unfold sX0_takeBack_67
      have e0 := Wg.1.1
      have rL : ρ L = 2 := rr Tg (thR Tg r0 (i := 0) (k2 := 2) rfl (by decide)) e0
      refine s_ref e0 ?_
      refine s_br (fun _ => s_some Tg) (fun l => ?_)
      have l := nle_i l
      have im := thI Tg rL (k := 2) (i := 3) (lo := 0) (hi := 12) rfl
      have := im.2
      have i3 : Rg 0 11 x3 := ⟨a3, by omega⟩
      have ny := nc_s i3 (by decide)
      have nx : ∀ {g2 : Hp}, TH ρ c g2 → EnW x0 b wy ks st pw ro L sq g2 → PoS sq b g2 → Sat (nm (x3 + (1 : Int32)) fun v_1 => sX0_takeBack_30 F f g2 x0 x1 x2 v_1) (ZV ρ c) := fun T2 W2 B2 => by
        refine s_q (fun y ey => ?_)
        have ty : y.toInt = x3.toInt + 1 := by rw [ey]; exact ny.2
        clear ey
        exact ih T2 W2 B2 (by omega) (by omega)
      refine s_ref e0 ?_
      refine s_br (fun _ => nx Tg Wg Bg) (fun _ => ?_)
      have ic : Rg 0 1 (x2 &&& (1 : Int32)) := rg_and (rg_b rfl : Rg 1 1 (1 : Int32)) (by decide)
      have ic0 := ic.1
      have ic1 := ic.2
      have z2 : (2 : Int32).toInt = 2 := rfl
      have z1 : (1 : Int32).toInt = 1 := rfl
      have t1 : ((2 : Int32) * x3).toInt = 2 * x3.toInt := by rw [tm (by rw [z2]; omega), z2]
      have t2 : (((2 : Int32) * x3) + (1 : Int32)).toInt = 2 * x3.toInt + 1 := by rw [ta (by rw [t1, z1]; omega), t1, z1]
      have t3 : ((((2 : Int32) * x3) + (1 : Int32)) - (x2 &&& (1 : Int32))).toInt = 2 * x3.toInt + 1 - (x2 &&& (1 : Int32)).toInt := by rw [ts (by rw [t2]; omega), t2]
      have := i3.2
      exact one Tg Wg Bg ⟨by omega, by omega⟩ (fun g2 T2 W2 B2 => nx T2 W2 B2)
  refine s_br (fun _ => lp F T1 W1 B1 (by decide) (by show (13 - 0 : Int).toNat < F; omega)) (fun _ => s_some T1)
theorem gb_q (hF : 700000 ≤ F) (hA : pmA c TBL) (T : TH ρ c h) (r0 : ρ x0 = 1) (W : EnW x0 b wy ks st pw ro L sq h) (B : PoS sq b h) (i1 : Rg 0 1 x1) : Sat (sX0_goBack F h x0 x1) (ZV ρ c) := by
  have e0 := W.1.1
  have e3 := W.1.2.2.1
  have rL : ρ L = 2 := rr T (thR T r0 (i := 0) (k2 := 2) rfl (by decide)) e0
  have rb : ρ b = 4 := rr T (thR T r0 (i := 3) (k2 := 4) rfl (by decide)) e3
  have one : ∀ {g : Hp} {y z : Int32}, 1 ≤ sq → TH ρ c g → EnW x0 b wy ks st pw ro L sq g → PoS sq b g → Rg 0 63 y → Rg 0 23 z → ∀ {k : Hp → Option Hp}, (∀ g2, TH ρ c g2 → EnW x0 b wy ks st pw ro L sq g2 → PoS sq b g2 → Kf ρ TBL g g2 → Sat (k g2) (ZV ρ c)) → Sat (cl (sX0_takeBack F g x0 y z) k) (ZV ρ c) := fun {g y z} s1 Tg Wg Bg iy iz {k} H => by
    refine s_cVf (S := fS TBL []) Tg (fs_sub (pmA_s hA rfl) fs_n) (tb_q hF fs_a (th_in _ Tg) r0 Wg Bg s1 iy iz) (fun g2 T2 f2 => ?_)
    exact H g2 T2 (enw_f Tg r0 f2 rfl Wg) (pos_k Tg rb (kf_of (E := TBL) f2 rfl) (P := Bg)) (kf_of f2 rfl)
  unfold sX0_goBack
  refine s_q (fun v1 e1 => ?_)
  have z1 : (1 : Int32).toInt = 1 := rfl
  have i10 := i1.1
  have i11 := i1.2
  have t1 : v1.toInt = 1 - x1.toInt := by rw [e1, ts (by rw [z1]; omega), z1]
  have iv : Rg 0 1 v1 := ⟨by omega, by omega⟩
  clear e1
  have c1 := clamp_i iv.1
  have b31 : ∀ {g : Hp}, g = h → Sat (sX0_goBack_31 F g x0 v1) (ZV ρ c) := fun eg => by
    rw [eg]
    unfold sX0_goBack_31
    refine s_ref e3 ?_
    obtain ⟨of, ef, qf⟩ := thR T rb (i := 1) (k2 := 35) rfl (by decide)
    refine s_ref ef ?_
    refine s_gd (by rw [thN T qf (k := 35) (n := 2) rfl (by decide)]; exact rg_inB iv (by decide)) ?_
    refine s_q (fun v4 e4 => ?_)
    have lp : ∀ (f : Nat) {g : Hp} {x3 : Int64} {x5 : Int32}, TH ρ c g → EnW x0 b wy ks st pw ro L sq g → PoS sq b g → BtS sq x3 → PosM b x3 g → 0 ≤ x5.toInt → (65 - x5.toInt).toNat < f → Sat (sX0_goBack_44 F f g x0 v1 x3 x5) (ZV ρ c) := by
      intro f
      induction f with
      | zero => intros; omega
      | succ f ih =>
        intro g x3 x5 Tg Wg Bg B3 M3 a5 hf
        rw [sX0_goBack_44]
        unfold sX0_goBack_157
        have z64 : (64 : Int32).toInt = 64 := rfl
        refine s_br (fun _ => s_some Tg) (fun l => ?_)
        have l := nle_i l
        refine s_br (fun _ => s_some Tg) (fun nz => ?_)
        refine s_dI0 (zX11_lowest hF Tg) (fun o3 eb3 q3 i3 => ?_)
        have c3 := clamp_i i3.1
        have j30 := i3.1
        have j31 := i3.2
        have s1 : 1 ≤ sq := by have := B3 o3.1.toNatClampNeg (by omega) (low_in eb3 nz); omega
        refine s_q (fun v4 e4 => ?_)
        have B4 : BtS sq v4 := by rw [e4]; exact bts_and B3
        have M4 : PosM b v4 g := by rw [e4]; exact pm_and M3
        clear e4
        rw [q3]
        have e3g := Wg.1.2.2.1
        refine s_ref e3g ?_
        obtain ⟨on, eon, qon⟩ := thR Tg rb (i := 0) (k2 := 34) rfl (by decide)
        refine s_ref eon ?_
        refine s_gd (by rw [thN Tg qon (k := 34) (n := 64) rfl (by decide)]; exact rg_inB i3 (by decide)) ?_
        refine s_q (fun v8 e8 => ?_)
        have i8 : Rg 0 23 v8 := by rw [e8]; exact pm_low M3 eb3 nz i3 eon (thI Tg qon (k := 34) (lo := -2) (hi := 23) rfl)
        clear e8
        have i5 : Rg 0 63 x5 := ⟨a5, by omega⟩
        have ny := nc_s i5 (by decide)
        have mk : ∀ {g2 : Hp}, Kf ρ TBL g g2 → PosM b v4 g2 := fun K on' s eo hs hb => by
          rw [kfR 0 K rb] at eo
          rw [kfI s K (th_on Tg rb eo)]
          exact M4 on' s eo hs hb
        have b151 : ∀ {g2 : Hp}, TH ρ c g2 → EnW x0 b wy ks st pw ro L sq g2 → PoS sq b g2 → Kf ρ TBL g g2 → Sat (sX0_goBack_151 F (sX0_goBack_44 F f) g2 x0 v1 v4 x5) (ZV ρ c) := fun T2 W2 B2 K2 => by
          unfold sX0_goBack_151
          refine s_q (fun y ey => ?_)
          have ty : y.toInt = x5.toInt + 1 := by rw [ey]; exact ny.2
          clear ey
          exact ih T2 W2 B2 B4 (mk K2) (by omega) (by omega)
        refine one s1 Tg Wg Bg i3 i8 (fun g2 T2 W2 B2 K2 => ?_)
        have l92 : ∀ (f2 : Nat) {g2 : Hp} {x8 : Int32}, TH ρ c g2 → EnW x0 b wy ks st pw ro L sq g2 → PoS sq b g2 → Kf ρ TBL g g2 → 0 ≤ x8.toInt → (13 - x8.toInt).toNat < f2 → Sat (sX0_goBack_92 F (sX0_goBack_44 F f) f2 g2 x0 v1 v4 x5 o3.1 v8 x8) (ZV ρ c) := by
          intro f2
          induction f2 with
          | zero => intros; omega
          | succ f2 ih2 =>
            intro g2 x8 T2 W2 B2 K2 a8 hf2
            rw [sX0_goBack_92]
            unfold sX0_goBack_145
            have e0g := W2.1.1
            refine s_ref e0g ?_
            refine s_br (fun _ => b151 T2 W2 B2 K2) (fun l8 => ?_)
            have l8 := nle_i l8
            have im := thI T2 rL (k := 2) (i := 3) (lo := 0) (hi := 12) rfl
            have := im.2
            have ix8 : Rg 0 11 x8 := ⟨a8, by omega⟩
            have n8 := nc_s ix8 (by decide)
            refine s_ref e0g ?_
            refine s_dI0 (zX1_isLast hF T2 rL i3 iv) (fun o4 _ q4 i4 => ?_)
            rw [q4]
            refine s_br (fun _ => b151 T2 W2 B2 K2) (fun _ => ?_)
            refine s_ref e0g ?_
            refine s_dI0 (zX1_becomesThis hF T2 rL ix8 (rg_shrk (lo := -1) (hi := 11) 1 rfl i8 (by decide))) (fun o7 _ q7 i7 => ?_)
            rw [q7]
            have nx : ∀ {g3 : Hp}, TH ρ c g3 → EnW x0 b wy ks st pw ro L sq g3 → PoS sq b g3 → Kf ρ TBL g g3 → Sat (nm (x8 + (1 : Int32)) fun v_1 => sX0_goBack_92 F (sX0_goBack_44 F f) f2 g3 x0 v1 v4 x5 o3.1 v8 v_1) (ZV ρ c) := fun T3 W3 B3 K3 => by
              refine s_q (fun y ey => ?_)
              have ty : y.toInt = x8.toInt + 1 := by rw [ey]; exact n8.2
              clear ey
              exact ih2 T3 W3 B3 K3 (by omega) (by omega)
            refine s_br (fun _ => nx T2 W2 B2 K2) (fun _ => ?_)
            have z2 : (2 : Int32).toInt = 2 := rfl
            have iv0 := iv.1
            have iv1 := iv.2
            have t1 : ((2 : Int32) * x8).toInt = 2 * x8.toInt := by rw [tm (by rw [z2]; omega), z2]
            have t2 : (((2 : Int32) * x8) + v1).toInt = 2 * x8.toInt + v1.toInt := by rw [ta (by rw [t1]; omega), t1]
            have := ix8.2
            exact one s1 T2 W2 B2 i3 ⟨by omega, by omega⟩ (fun g3 T3 W3 B3 K3 => nx T3 W3 B3 (kf_t K2 K3))
        exact l92 F T2 W2 B2 K2 (by decide) (by show (13 - 0 : Int).toNat < F; omega)
    refine lp F T W B ?_ ?_ (by decide) (by show (65 - 0 : Int).toNat < F; omega)
    · rw [e4]; exact B of _ ef (by omega)
    · rw [e4]; exact pm_start T rb ef (by omega)
  refine s_ref e0 ?_
  refine s_dI0 (zX1_has hF T rL (rg_m (rg_b rfl : Rg 4 4 (4 : Int32)) (by decide))) (fun o3 _ q3 i3 => ?_)
  refine s_br (fun _ => b31 q3) (fun _ => ?_)
  rw [q3]
  obtain ⟨rf, erf, qrf⟩ := thR T r0 (i := 2) (k2 := 6) rfl (by decide)
  refine s_ref erf (s_ref e3 ?_)
  refine s_dI0 (zX5_isRoyalHit hF T qrf rb i1) (fun o7 _ q7 i7 => ?_)
  refine s_br (fun _ => b31 q7) (fun _ => ?_)
  rw [q7]
  exact s_some T
end
end
section
/-! countAll, run -/
theorem lw_k {ρ : Nat → Nat} {c : Cm} {h o : Hp} {E : List (Nat × Nat)} (K : Kf ρ E h o) (y0 : mS E 2 0 = false := by rfl) (y1 : mS E 2 1 = false := by rfl) (y2 : mS E 2 2 = false := by rfl) (P : LwR ρ c h) : LwR ρ c o := fun L rL wL q => P L rL wL (by
  rw [kfI 0 K rL (by decide) y0, kfI 1 K rL (by decide) y1, kfI 2 K rL (by decide) y2] at q
  exact q)
section
variable {ρ : Nat → Nat} {c : Cm} {h o : Hp} {x0 b wy ks st pw ro L F : Nat} {sq : Int} {x1 x2 x3 : Int32} {β : Type} {Q : β → Prop}
theorem s_lay {k : Int32 × Hp → Option β} (hF : 700000 ≤ F) (hO : pmO c 1003 [(34, 999), (35, 999), (36, 999), (4, 7)]) (T : TH ρ c h) (r0 : ρ x0 = 1) (W : EnW x0 b wy ks st pw ro L sq h) (lw : LwR ρ c h) (i1 : Rg 0 33554431 x1) (i2 : Rg 0 599999 x2) (ky : KyX x1) (H : ∀ o : Int32 × Hp, TH ρ c o.2 → EnW x0 b wy ks st pw ro L sq o.2 → LwR ρ c o.2 → Kf ρ GBL h o.2 → PoS sq b o.2 → Rg 0 1 o.1 → Sat (k o) Q) : Sat (cl (sX0_layOut F h x0 x1 x2) k) Q := by
  refine s_cIfq (S := fS [] [(1003, [(34, 999), (35, 999), (36, 999), (4, 7)])]) T (fs_sub pmA_n (fs_c (pmO_s hO rfl) fs_n)) (layOut_q hF (fs_o (.head _)) (th_in _ T) r0 W.1.2.2.1 W.1.1 i1 i2 lw ky) (fun o To io fo Po => ?_)
  have K : Kf ρ GBL h o.2 := kf_of fo rfl
  have eL := W.2.2.2.2.2.1
  rw [eL] at Po
  exact H o To (enw_f T r0 fo rfl W) (lw_k K (P := lw)) K Po io
theorem s_gob {k : Hp → Option β} (hF : 700000 ≤ F) (hA : pmA c TBL) (T : TH ρ c h) (r0 : ρ x0 = 1) (W : EnW x0 b wy ks st pw ro L sq h) (lw : LwR ρ c h) (B : PoS sq b h) (i1 : Rg 0 1 x1) (H : ∀ o : Hp, TH ρ c o → EnW x0 b wy ks st pw ro L sq o → LwR ρ c o → Kf ρ GBL h o → PoS sq b o → Sat (k o) Q) : Sat (cl (sX0_goBack F h x0 x1) k) Q := by
  refine s_cVf (S := fS TBL []) T (fs_sub (pmA_s hA rfl) fs_n) (gb_q hF fs_a (th_in _ T) r0 W B i1) (fun o To fo => ?_)
  have K : Kf ρ TBL h o := kf_of fo rfl
  have rb : ρ b = 4 := rr T (thR T r0 (i := 3) (k2 := 4) rfl (by decide)) W.1.2.2.1
  exact H o To (enw_f T r0 fo rfl W) (lw_k K (P := lw)) (kf_m K rfl) (pos_k T rb K (P := B))
theorem ca_q (hF : 700000 ≤ F) (hA : pmA c TBL) (hO : pmO c 1003 [(34, 999), (35, 999), (36, 999), (4, 7)]) (T : TH ρ c h) (r0 : ρ x0 = 1) (W : EnW x0 b wy ks st pw ro L sq h) (lw : LwR ρ c h) : Sat (sX0_countAll F h x0) (ZV ρ c) := by
  have i9 := thI T r0 (k := 1) (i := 9) (lo := 0) (hi := 1024) rfl
  have b9 := i9.2
  have qs : ρ st = 21 := rr T (thR T r0 (i := 5) (k2 := 21) rfl (by decide)) W.1.2.2.2.2.1
  have qk : ρ ks = 20 := rr T (thR T r0 (i := 4) (k2 := 20) rfl (by decide)) W.1.2.2.2.1
  have z1 : (1 : Int32).toInt = 1 := rfl
  have z2 : (2 : Int32).toInt = 2 := rfl
  have l2 : ∀ (f : Nat) {g : Hp} {x1 : Int32}, TH ρ c g → EnW x0 b wy ks st pw ro L sq g → LwR ρ c g → Kf ρ GBL h g → 0 ≤ x1.toInt → (1025 - x1.toInt).toNat < f → Sat (sX0_countAll_2 F f g x0 x1) (ZV ρ c) := by
    intro f
    induction f with
    | zero => intros; omega
    | succ f ih =>
      intro g x1 Tg Wg lg Kg a1 hf
      rw [sX0_countAll_2]
      refine s_br (fun _ => s_some Tg) (fun l => ?_)
      have l := nle_i l
      rw [kfI 9 Kg r0] at l
      have i1 : Rg 0 1023 x1 := ⟨a1, by omega⟩
      have ny := nc_s i1 (by decide)
      have e5 := Wg.1.2.2.2.2.1
      have g5 : inB x1 (hN g st) := by rw [thN Tg qs (k := 21) (n := 1025) rfl (by decide)]; exact rg_inB (rg_m i1 (by decide) : Rg 0 1024 x1) (by decide)
      refine s_ref e5 ?_
      refine s_gd (by rw [thN Tg qs (k := 21) (n := 1025) rfl (by decide)]; exact rg_inB (⟨by omega, by omega⟩ : Rg 0 1024 (x1 + (1 : Int32))) (by decide)) ?_
      refine s_ref e5 (s_gd g5 ?_)
      refine s_q (fun v6 e6 => ?_)
      have ia := thI Tg qs (k := 21) (i := x1.toNatClampNeg) (lo := 0) (hi := 600000) rfl
      have ib := thI Tg qs (k := 21) (i := (x1 + (1 : Int32)).toNatClampNeg) (lo := 0) (hi := 600000) rfl
      have ia0 := ia.1
      have ia1 := ia.2
      have ib0 := ib.1
      have ib1 := ib.2
      have t6 : v6.toInt = ((hI g st (x1 + (1 : Int32)).toNatClampNeg).toInt - (hI g st x1.toNatClampNeg).toInt) / 2 := by rw [e6, ti_shr1, ts (by omega)]
      clear e6
      obtain ⟨S0, eS0⟩ : ∃ S0 : Int32, S0 = hI g st x1.toNatClampNeg := ⟨_, rfl⟩
      rw [← eS0] at t6 ia0 ia1
      have l30 : ∀ (f3 : Nat) {g2 : Hp} {x3 : Int32}, TH ρ c g2 → EnW x0 b wy ks st pw ro L sq g2 → LwR ρ c g2 → Kf ρ GBL g g2 → 0 ≤ x3.toInt → (600002 - x3.toInt).toNat < f3 → Sat (sX0_countAll_30 F (sX0_countAll_2 F f) f3 g2 x0 x1 v6 x3) (ZV ρ c) := by
        intro f3
        induction f3 with
        | zero => intros; omega
        | succ f3 ih3 =>
          intro g2 x3 T2 W2 lg2 K2 a3 hf3
          rw [sX0_countAll_30]
          unfold sX0_countAll_73
          refine s_br (fun _ => ?_) (fun l3 => ?_)
          · refine s_q (fun y ey => ?_)
            have ty : y.toInt = x1.toInt + 1 := by rw [ey]; exact ny.2
            clear ey
            exact ih T2 W2 lg2 (kf_t Kg K2) (by omega) (by omega)
          have l3 := nle_i l3
          have e52 := W2.1.2.2.2.2.1
          refine s_ref e52 ?_
          refine s_gd (by rw [thN T2 qs (k := 21) (n := 1025) rfl (by decide)]; exact rg_inB (rg_m i1 (by decide) : Rg 0 1024 x1) (by decide)) ?_
          refine s_q (fun v5 ev5 => ?_)
          have s5 : hI g2 st x1.toNatClampNeg = S0 := by rw [kfI _ K2 qs, eS0]
          rw [s5] at ev5
          have m5 : ((2 : Int32) * x3).toInt = 2 * x3.toInt := by rw [tm (by rw [z2]; omega), z2]
          have t5 : v5.toInt = S0.toInt + 2 * x3.toInt := by rw [ev5, ta (by rw [m5]; omega), m5]
          clear ev5
          have t51 : (v5 + (1 : Int32)).toInt = v5.toInt + 1 := by rw [ta (by rw [z1]; omega), z1]
          have i3 : Rg 0 600000 x3 := ⟨a3, by omega⟩
          have n3 := nc_s i3 (by decide)
          obtain ⟨rw', ew, qw'⟩ := thR T2 r0 (i := 11) (k2 := 24) rfl (by decide)
          have hn : hN g2 rw' = 600000 := W2.2.2.2.2.1 11 rw' (Or.inl rfl) ew
          have b138 : ∀ {g3 : Hp}, TH ρ c g3 → EnW x0 b wy ks st pw ro L sq g3 → LwR ρ c g3 → Kf ρ GBL g g3 → Sat (sX0_countAll_138 F (sX0_countAll_2 F f) (sX0_countAll_30 F (sX0_countAll_2 F f) f3) g3 x0 x1 v6 x3) (ZV ρ c) := fun T3 W3 lg3 K3 => by
            unfold sX0_countAll_138
            refine s_q (fun y ey => ?_)
            have ty : y.toInt = x3.toInt + 1 := by rw [ey]; exact n3.2
            clear ey
            exact ih3 T3 W3 lg3 K3 (by omega) (by omega)
          have b78 : ∀ {t : Int32}, Sat (sX0_countAll_78 F (sX0_countAll_2 F f) (sX0_countAll_30 F (sX0_countAll_2 F f) f3) g2 x0 x1 v6 x3 v5 t) (ZV ρ c) := fun {t} => by
            unfold sX0_countAll_78
            refine s_br (fun _ => b138 T2 W2 lg2 K2) (fun _ => ?_)
            have e42 := W2.1.2.2.2.1
            refine s_ref e42 ?_
            refine s_gd (by rw [thN T2 qk (k := 20) (n := 1024) rfl (by decide)]; exact rg_inB i1 (by decide)) ?_
            refine s_lay hF hO T2 r0 W2 lg2 (thI T2 qk (k := 20) (lo := 0) (hi := 33554431) rfl) (⟨a3, by omega⟩) (thKy T2 qk) (fun o4 T4 W4 lg4 K4 B4 i4 => ?_)
            refine s_br (fun _ => b138 T4 W4 lg4 (kf_t K2 K4)) (fun _ => ?_)
            have l105 : ∀ (f6 : Nat) {g3 : Hp} {x6 : Int32}, TH ρ c g3 → EnW x0 b wy ks st pw ro L sq g3 → LwR ρ c g3 → Kf ρ GBL g g3 → PoS sq b g3 → 0 ≤ x6.toInt → (3 - x6.toInt).toNat < f6 → Sat (sX0_countAll_105 F (sX0_countAll_2 F f) (sX0_countAll_30 F (sX0_countAll_2 F f) f3) f6 g3 x0 x1 v6 x3 v5 x6) (ZV ρ c) := by
              intro f6
              induction f6 with
              | zero => intros; omega
              | succ f6 ih6 =>
                intro g3 x6 T3 W3 lg3 K3 B3 a6 hf6
                rw [sX0_countAll_105]
                refine s_br (fun _ => b138 T3 W3 lg3 K3) (fun l6 => ?_)
                have l6 := nle_i l6
                rw [z2] at l6
                have i6 : Rg 0 1 x6 := ⟨a6, by omega⟩
                have n6 := nc_s i6 (by decide)
                have t56 : (v5 + x6).toInt = v5.toInt + x6.toInt := ta (by omega)
                obtain ⟨r3, e3, _⟩ := thR T3 r0 (i := 11) (k2 := 24) rfl (by decide)
                have hn3 : hN g3 r3 = 600000 := W3.2.2.2.2.1 11 r3 (Or.inl rfl) e3
                refine s_ref e3 ?_
                refine s_gd (by rw [hn3]; exact rg_inB (⟨by omega, by omega⟩ : Rg 0 599999 (v5 + x6)) (by decide)) ?_
                have nx : ∀ {g4 : Hp}, TH ρ c g4 → EnW x0 b wy ks st pw ro L sq g4 → LwR ρ c g4 → Kf ρ GBL g g4 → PoS sq b g4 → Sat (sX0_countAll_132 F (sX0_countAll_2 F f) (sX0_countAll_30 F (sX0_countAll_2 F f) f3) (sX0_countAll_105 F (sX0_countAll_2 F f) (sX0_countAll_30 F (sX0_countAll_2 F f) f3) f6) g4 x0 x1 v6 x3 v5 x6) (ZV ρ c) := fun T4 W4 lg4 K4 B4 => by
                  unfold sX0_countAll_132
                  refine s_q (fun y ey => ?_)
                  have ty : y.toInt = x6.toInt + 1 := by rw [ey]; exact n6.2
                  clear ey
                  exact ih6 T4 W4 lg4 K4 B4 (by omega) (by omega)
                refine s_br (fun _ => nx T3 W3 lg3 K3 B3) (fun _ => ?_)
                exact s_gob hF hA T3 r0 W3 lg3 B3 i6 (fun g4 T4 W4 lg4 K4 B4 => nx T4 W4 lg4 (kf_t K3 K4) B4)
            exact l105 F T4 W4 lg4 (kf_t K2 K4) B4 (by decide) (by show (3 - 0 : Int).toNat < F; omega)
          refine s_ref ew ?_
          refine s_gd (by rw [hn]; exact rg_inB (⟨by omega, by omega⟩ : Rg 0 599999 v5) (by decide)) ?_
          refine s_br (fun _ => ?_) (fun _ => b78)
          refine s_ref ew ?_
          refine s_gd (by rw [hn]; exact rg_inB (⟨by omega, by omega⟩ : Rg 0 599999 (v5 + (1 : Int32))) (by decide)) ?_
          exact s_br (fun _ => b78) (fun _ => b78)
      exact l30 F Tg Wg lg kf_r (by decide) (by show (600002 - 0 : Int).toNat < F; omega)
  unfold sX0_countAll
  exact l2 F T W lw kf_r (by decide) (by show (1025 - 0 : Int).toNat < F; omega)
/-- the set of a node begins no later -/
theorem setOf_q (hF : 700000 ≤ F) (T : TH ρ c h) (r0 : ρ x0 = 1) (e5 : hR h x0 5 = some st) (z : (hI h st 0).toInt = 0) (i1 : Rg 0 599999 x1) : Sat (sX0_setOf F h x0 x1) (fun o => o.2 = h ∧ Rg 0 1023 o.1 ∧ (hI h st o.1.toNatClampNeg).toInt ≤ x1.toInt) := by
  refine sat_and (zX0_setOf hF T r0 i1) (fun o e Z => ⟨Z.1, Z.2, ?_⟩)
  have lp : ∀ (f : Nat) {x2 x3 : Int32}, (hI h st x2.toNatClampNeg).toInt ≤ x1.toInt → sX0_setOf_9 F f h x0 x1 x2 x3 = some o → (hI h st o.1.toNatClampNeg).toInt ≤ x1.toInt := by
    intro f
    induction f with
    | zero => intro x2 x3 _ e; exact absurd e (by rw [sX0_setOf_9]; exact fun z => nomatch z)
    | succ f ih =>
      intro x2 x3 a e
      rw [sX0_setOf_9] at e
      unfold sX0_setOf_45 at e
      replace e := br_s e
      rcases e with ⟨_, e⟩ | ⟨_, e⟩
      · rw [← Option.some.inj e]; exact a
      replace e := nm_s e
      obtain ⟨v2, _, e⟩ := e
      replace e := cl_s e
      obtain ⟨r3, e3, e⟩ := e
      have q3 : r3 = st := r_eq e5 e3
      subst q3
      replace e := (gd_s e).2
      replace e := br_s e
      rcases e with ⟨_, e⟩ | ⟨l, e⟩
      · replace e := nm_s e
        obtain ⟨v6, _, e⟩ := e
        exact ih a e
      · refine ih ?_ e
        have := nlt_i l
        omega
  unfold sX0_setOf at e
  replace e := nm_s e
  obtain ⟨v1, _, e⟩ := e
  have i10 := i1.1
  exact lp F (by show (hI h st 0).toInt ≤ _; omega) e
end
end
section
/-! run -/
abbrev RUL : List (Nat × Nat) := [(20, 999), (21, 999), (22, 999), (1, 9), (1, 18), (1, 11), (1, 12), (1, 13), (23, 999), (1, 8), (24, 999), (25, 999), (26, 999), (1, 16), (1, 17), (1, 10), (1, 15)]
abbrev BOL : List (Nat × Nat) := [(34, 999), (35, 999), (36, 999), (4, 5), (4, 7)]
abbrev RBL : List (Nat × Nat) := [(20, 999), (21, 999), (22, 999), (1, 9), (1, 18), (1, 11), (1, 12), (1, 13), (23, 999), (1, 8), (24, 999), (25, 999), (26, 999), (1, 16), (1, 17), (1, 10), (1, 15), (34, 999), (35, 999), (36, 999), (4, 5), (4, 7)]
/-- what holds of solved endings -/
def EnQ (e : Nat) (h : Hp) : Prop := ¬ hI h e 10 = 0 → LenP e h ∧ ∃ ks st pw L, hR h e 0 = some L ∧ hR h e 4 = some ks ∧ hR h e 5 = some st ∧ hR h e 6 = some pw ∧ (∀ i : Nat, i ≤ 5 → (hI h pw i).toInt = (hI h L 2).toInt ^ i) ∧ StP e ks pw st h
theorem j32_i {x : Int64} (a : 0 ≤ x.toInt) (b : x.toInt ≤ 600000) : x.toInt32.toInt = x.toInt := by
  rw [Int64.toInt_toInt32]
  exact Int.bmod_eq_of_le_mul_two (by omega) (by omega)
theorem kf_ex {ρ ρ1 : Nat → Nat} {c c1 : Cm} {h o : Hp} {E : List (Nat × Nat)} (X : Ext ρ c ρ1 c1) (K : Kf ρ1 E h o) : Kf ρ E h o := fun a i n x => K a i (by rw [(X.1 a n).1]; exact n) (by rw [(X.1 a n).1]; exact x)
theorem lw_x2 {ρ ρ1 : Nat → Nat} {c c1 : Cm} {o g : Hp} {L0 : Nat} (rL : ρ L0 = 2) (wL : cw c L0 = 2102) (X : Ext ρ c ρ1 c1) (T1 : TH ρ1 c1 o) (P : LwR ρ c g) : LwR ρ1 c1 g := fun L hL wL' q => by
  have e : L = L0 := T1.1.2.2.2.2.2.2.2.2 L L0 (by rw [hL, ex_r X rL (by decide)]) (Or.inr ⟨Or.inr hL, by rw [wL', ex_w X rL (by decide) wL]⟩)
  rw [X.2.1]
  exact P L (by rw [e]; exact rL) (by rw [e]; exact wL) q
section
variable {ρ : Nat → Nat} {c : Cm} {h o : Hp} {x0 b wy ks st pw ro L F : Nat} {sq : Int}
theorem run18_q (hF : 700000 ≤ F) (hA : pmA c RUL) (hO : pmO c 1003 BOL) (T : TH ρ c h) (r0 : ρ x0 = 1) (W : EnW x0 b wy ks st pw ro L sq h) (lw : LwR ρ c h) (t0 : 0 ≤ (hJ h x0 18).toInt) (t1 : (hJ h x0 18).toInt ≤ 600000) : Sat (sX0_run_18 F h x0) (fun o => TH ρ c o.2 ∧ Rg 0 1 o.1 ∧ EnW x0 b wy ks st pw ro L sq o.2 ∧ Kf ρ GBL h o.2) := by
  have qs : ρ st = 21 := rr T (thR T r0 (i := 5) (k2 := 21) rfl (by decide)) W.1.2.2.2.2.1
  have qk : ρ ks = 20 := rr T (thR T r0 (i := 4) (k2 := 20) rfl (by decide)) W.1.2.2.2.1
  have z1 : (1 : Int32).toInt = 1 := rfl
  have z6 : (600000 : Int32).toInt = 600000 := rfl
  have wr : ∀ {g g2 : Hp} {i : Nat} {v : Int32}, TH ρ c g → EnW x0 b wy ks st pw ro L sq g → LwR ρ c g → Kf ρ GBL h g → g2 = wI g x0 i v → mS GBL 1 i = true → EnW x0 b wy ks st pw ro L sq g2 ∧ LwR ρ c g2 ∧ Kf ρ GBL h g2 := fun {g g2 i v} Tg Wg lg Kg w y => by
    have K : Kf ρ GBL g g2 := kf_wI w r0 y
    exact ⟨enw_k Tg r0 K (fun a _ => by rw [w]; rfl) rfl Wg, lw_k K (P := lg), kf_t Kg K⟩
  -- the last loop
  have l133 : ∀ (f : Nat) {g : Hp} {x1 : Int32}, TH ρ c g → EnW x0 b wy ks st pw ro L sq g → LwR ρ c g → Kf ρ GBL h g → 0 ≤ x1.toInt → (600001 - x1.toInt).toNat < f → Sat (sX0_run_133 F f g x0 x1) (fun o => TH ρ c o.2 ∧ Rg 0 1 o.1 ∧ EnW x0 b wy ks st pw ro L sq o.2 ∧ Kf ρ GBL h o.2) := by
    intro f
    induction f with
    | zero => intros; omega
    | succ f ih =>
      intro g x1 Tg Wg lg Kg a1 hf
      rw [sX0_run_133]
      have j := kfJ 18 Kg r0
      have tj : ((hJ g x0 18).toInt32).toInt = (hJ h x0 18).toInt := by rw [j]; exact j32_i t0 t1
      refine s_br (fun _ => ?_) (fun l => ?_)
      · refine s_hq (th_wI Tg r0 (k := 1) (i := 10) (lo := 0) (hi := 1) rfl (rg_m (rg_b rfl : Rg 1 1 (1 : Int32)) (by decide)) (by decide) (by decide) (pm_a hA rfl)) (fun h2 T2 w2 => ?_)
        obtain ⟨W2, _, K2⟩ := wr Tg Wg lg Kg w2 rfl
        exact s_some ⟨T2, rg_m (rg_b rfl : Rg 1 1 (1 : Int32)) (by decide), W2, K2⟩
      have l := nle_i l
      rw [tj] at l
      have i1 : Rg 0 599999 x1 := ⟨a1, by omega⟩
      have ny := nc_s i1 (by decide)
      obtain ⟨r3, e3, q3⟩ := thR Tg r0 (i := 11) (k2 := 24) rfl (by decide)
      have hn : hN g r3 = 600000 := Wg.2.2.2.2.1 11 r3 (Or.inl rfl) e3
      have gi : inB x1 (hN g r3) := by rw [hn]; exact rg_inB i1 (by decide)
      have fin : ∀ {v : Int32}, Rg (-4000000) 4000000 v → Sat (sX0_run_168 F (sX0_run_133 F f) g x0 x1 v x1 r3) (fun o => TH ρ c o.2 ∧ Rg 0 1 o.1 ∧ EnW x0 b wy ks st pw ro L sq o.2 ∧ Kf ρ GBL h o.2) := fun {v} iv => by
        unfold sX0_run_168
        refine s_gd gi ?_
        refine s_hq (th_wI Tg q3 (k := 24) (lo := -4000000) (hi := 4000000) rfl iv (by decide) (by decide) (pm_a hA rfl)) (fun h2 T2 w2 => ?_)
        have K : Kf ρ GBL g h2 := kf_wI w2 q3
        refine s_q (fun y ey => ?_)
        have ty : y.toInt = x1.toInt + 1 := by rw [ey]; exact ny.2
        clear ey
        exact ih T2 (enw_k Tg r0 K (fun a _ => by rw [w2]; rfl) rfl Wg) (lw_k K (P := lg)) (kf_t Kg K) (by omega) (by omega)
      refine s_ref e3 (s_ref e3 (s_gd gi ?_))
      refine s_br (fun _ => fin (rg_m (rg_b rfl : Rg 0 0 (0 : Int32)) (by decide))) (fun _ => ?_)
      refine s_ref e3 (s_gd gi ?_)
      exact fin (thI Tg q3 (k := 24) rfl)
  -- head by head
  have l51 : ∀ (f : Nat) {g : Hp} {x1 : Int32}, TH ρ c g → EnW x0 b wy ks st pw ro L sq g → LwR ρ c g → Kf ρ GBL h g → 0 ≤ x1.toInt → (600001 - x1.toInt).toNat < f → Sat (sX0_run_51 F f g x0 x1) (fun o => TH ρ c o.2 ∧ Rg 0 1 o.1 ∧ EnW x0 b wy ks st pw ro L sq o.2 ∧ Kf ρ GBL h o.2) := by
    intro f
    induction f with
    | zero => intros; omega
    | succ f ih =>
      intro g x1 Tg Wg lg Kg a1 hf
      rw [sX0_run_51]
      unfold sX0_run_131
      have fin := l133 F (x1 := (0 : Int32)) Tg Wg lg Kg (by decide) (by show (600001 - 0 : Int).toNat < F; omega)
      refine s_br (fun _ => fin) (fun _ => s_br (fun _ => fin) (fun l => ?_))
      have l := nle_i l
      rw [z6] at l
      have i1 : Rg 0 599999 x1 := ⟨a1, by omega⟩
      have ny := nc_s i1 (by decide)
      obtain ⟨r3, e3, q3⟩ := thR Tg r0 (i := 13) (k2 := 26) rfl (by decide)
      refine s_ref e3 ?_
      refine s_gd (by rw [Wg.2.2.2.2.1 13 r3 (Or.inr (Or.inr rfl)) e3]; exact rg_inB i1 (by decide)) ?_
      refine s_q (fun v5 e5 => ?_)
      have i5 : Rg 0 599999 v5 := by rw [e5]; exact thI Tg q3 (k := 26) rfl
      clear e5
      have s0 : (hI g st 0).toInt = 0 := Wg.2.2.1.2 0 (Nat.zero_le _)
      refine s_cl (s_imp (setOf_q hF Tg r0 Wg.1.2.2.2.2.1 s0 i5) (fun o6 ⟨q6, i6, le6⟩ => ?_))
      rw [q6]
      unfold sX0_run_77
      obtain ⟨rw', ew, qw'⟩ := thR Tg r0 (i := 11) (k2 := 24) rfl (by decide)
      refine s_ref ew ?_
      refine s_gd (by rw [Wg.2.2.2.2.1 11 rw' (Or.inl rfl) ew]; exact rg_inB i5 (by decide)) ?_
      refine s_hq (th_wI Tg r0 (k := 1) (i := 17) (lo := -4000000) (hi := 4000000) rfl (thI Tg qw' (k := 24) rfl) (by decide) (by decide) (pm_a hA rfl)) (fun h3 T3 w3 => ?_)
      obtain ⟨W3, lg3, K3⟩ := wr Tg Wg lg Kg w3 rfl
      have s3 : ∀ i, hI h3 st i = hI g st i := fun i => by rw [w3, r_I, if_neg (ne_r qs r0 (by decide))]
      refine s_ref W3.1.2.2.2.1 ?_
      refine s_gd (by rw [thN T3 qk (k := 20) (n := 1024) rfl (by decide)]; exact rg_inB i6 (by decide)) ?_
      refine s_ref W3.1.2.2.2.2.1 ?_
      refine s_gd (by rw [thN T3 qs (k := 21) (n := 1025) rfl (by decide)]; exact rg_inB (rg_m i6 (by decide) : Rg 0 1024 o6.1) (by decide)) ?_
      have is := thI Tg qs (k := 21) (i := o6.1.toNatClampNeg) (lo := 0) (hi := 600000) rfl
      have is0 := is.1
      have i51 := i5.2
      have dd : (v5 - (hI h3 st o6.1.toNatClampNeg)).toInt = v5.toInt - (hI g st o6.1.toNatClampNeg).toInt := by rw [s3, ts (by omega)]
      have sh : ((v5 - (hI h3 st o6.1.toNatClampNeg)) >>> ((1 : Int32) &&& 31)).toInt = (v5.toInt - (hI g st o6.1.toNatClampNeg).toInt) / 2 := by rw [ti_shr1, dd]
      refine s_lay hF (pmO_s hO rfl) T3 r0 W3 lg3 (thI T3 qk (k := 20) (lo := 0) (hi := 33554431) rfl) ⟨by rw [sh]; omega, by rw [sh]; omega⟩ (thKy T3 qk) (fun o8 T8 W8 lg8 K8 B8 i8 => ?_)
      have nx : ∀ {g2 : Hp}, TH ρ c g2 → EnW x0 b wy ks st pw ro L sq g2 → LwR ρ c g2 → Kf ρ GBL h g2 → Sat (sX0_run_125 F (sX0_run_51 F f) g2 x0 x1) (fun o => TH ρ c o.2 ∧ Rg 0 1 o.1 ∧ EnW x0 b wy ks st pw ro L sq o.2 ∧ Kf ρ GBL h o.2) := fun T2 W2 lg2 K2 => by
        unfold sX0_run_125
        refine s_q (fun y ey => ?_)
        have ty : y.toInt = x1.toInt + 1 := by rw [ey]; exact ny.2
        clear ey
        exact ih T2 W2 lg2 K2 (by omega) (by omega)
      unfold sX0_run_108
      refine s_br (fun _ => nx T8 W8 lg8 (kf_t K3 K8)) (fun _ => ?_)
      refine s_ref W8.1.2.2.2.2.1 ?_
      refine s_gd (by rw [thN T8 qs (k := 21) (n := 1025) rfl (by decide)]; exact rg_inB (rg_m i6 (by decide) : Rg 0 1024 o6.1) (by decide)) ?_
      exact s_gob hF (pmA_s hA rfl) T8 r0 W8 lg8 B8 (rg_and (rg_b rfl : Rg 1 1 (1 : Int32)) (by decide)) (fun g2 T2 W2 lg2 K2 _ => nx T2 W2 lg2 (kf_t (kf_t K3 K8) K2))
  unfold sX0_run_18
  refine s_hq (th_wI T r0 (k := 1) (i := 15) (lo := 0) (hi := 33554431) rfl (thI T r0 (k := 1) (i := 14) rfl) (by decide) (by decide) (pm_a hA rfl)) (fun h1 T1 w1 => ?_)
  obtain ⟨W1, lg1, K1⟩ := wr T W lw kf_r w1 rfl
  refine s_hq (th_wI T1 r0 (k := 1) (i := 16) (lo := 0) (hi := 600000) rfl (rg_m (rg_b rfl : Rg 0 0 (0 : Int32)) (by decide)) (by decide) (by decide) (pm_a hA rfl)) (fun h2 T2 w2 => ?_)
  obtain ⟨W2, lg2, K2⟩ := wr T1 W1 lg1 K1 w2 rfl
  refine s_cVf (S := fS [(24, 999), (25, 999)] [(1003, BOL)]) T2 (fs_sub (pmA_s hA rfl) (fs_c (pmO_s hO rfl) fs_n)) (zX0_markAll hF fs_a (fs_o (.head _)) (th_in _ T2) r0 W2.2.2.2.2.1 lg2) (fun h3 T3 f3 => ?_)
  have K3 : Kf ρ GBL h2 h3 := kf_of f3 rfl
  have W3 := enw_f T2 r0 f3 rfl W2
  have lg3 : LwR ρ c h3 := lw_k K3 (P := lg2)
  unfold sX0_run_35
  refine s_hq (th_wI T3 r0 (k := 1) (i := 17) (lo := -4000000) (hi := 4000000) rfl (rg_m (rg_b rfl : Rg 3000000 3000000 (3000000 : Int32)) (by decide)) (by decide) (by decide) (pm_a hA rfl)) (fun h4 T4 w4 => ?_)
  obtain ⟨W4, lg4, K4⟩ := wr T3 W3 lg3 (kf_t K2 K3) w4 rfl
  refine s_cVf (S := fS TBL [(1003, [(34, 999), (35, 999), (36, 999), (4, 7)])]) T4 (fs_sub (pmA_s hA rfl) (fs_c (pmO_s hO rfl) fs_n)) (ca_q hF fs_a (fs_o (.head _)) (th_in _ T4) r0 W4 lg4) (fun h5 T5 f5 => ?_)
  have K5 : Kf ρ GBL h4 h5 := kf_of f5 rfl
  have W5 := enw_f T4 r0 f5 rfl W4
  have lg5 : LwR ρ c h5 := lw_k K5 (P := lg4)
  unfold sX0_run_45 sX0_run_49
  refine s_cVf (S := fS TCL [(1003, BOL)]) T5 (fs_sub (pmA_s hA rfl) (fs_c (pmO_s hO rfl) fs_n)) (zX0_queueEnds hF fs_a (fs_o (.head _)) (th_in _ T5) r0 W5.2.2.2.2.1 lg5) (fun h6 T6 f6 => ?_)
  have K6 : Kf ρ GBL h5 h6 := kf_of f6 rfl
  exact l51 F T6 (enw_f T5 r0 f6 rfl W5) (lw_k K6 (P := lg5)) (kf_t (kf_t K4 K5) K6) (by decide) (by show (600001 - 0 : Int).toNat < F; omega)
theorem run_q (hF : 700000 ≤ F) (hA : pmA c RUL) (hO : pmO c 1003 BOL) (T : TH ρ c h) (r0 : ρ x0 = 1) (e0 : hR h x0 0 = some L) (e1 : hR h x0 1 = some wy) (ky : KyX (hI h x0 14)) (E : EvP x0 h) (N : LnI x0 h) (lw : LwR ρ c h) (Fm : FmX wy (hI h L 2).toInt h) : Sat (sX0_run F h x0) (MkI ρ c 0 1 (fun o => EvP x0 o ∧ LnI x0 o ∧ EnQ x0 o ∧ Kf ρ RBL h o)) := by
  have rL : ρ L = 2 := rr T (thR T r0 (i := 0) (k2 := 2) rfl (by decide)) e0
  have qw : ρ wy = 11 := rr T (thR T r0 (i := 1) (k2 := 11) rfl (by decide)) e1
  obtain ⟨b, e3, qb⟩ := thR T r0 (i := 3) (k2 := 4) rfl (by decide)
  obtain ⟨ks, e4, qk⟩ := thR T r0 (i := 4) (k2 := 20) rfl (by decide)
  obtain ⟨st, e5, qs⟩ := thR T r0 (i := 5) (k2 := 21) rfl (by decide)
  obtain ⟨pw, e6, qp⟩ := thR T r0 (i := 6) (k2 := 22) rfl (by decide)
  obtain ⟨ro, e7, qo⟩ := thR T r0 (i := 7) (k2 := 23) rfl (by decide)
  unfold sX0_run
  refine s_hq (th_wI T r0 (k := 1) (i := 10) (lo := 0) (hi := 1) rfl (rg_m (rg_b rfl : Rg 0 0 (0 : Int32)) (by decide)) (by decide) (by decide) (pm_a hA rfl)) (fun h1 T1 w1 => ?_)
  have K1 : Kf ρ [(1, 10)] h h1 := kf_wI w1 r0
  have E1 : EvP x0 h1 := evp_k T r0 K1 (P := E)
  have hL1 : hI h1 L 2 = hI h L 2 := kfI 2 K1 rL
  have ln1 : LnI x0 h1 := fun a ea => by
    rw [kfR 11 K1 r0] at ea
    have hn : ∀ q, hN h1 q = hN h q := fun q => by rw [w1]; rfl
    rw [hn]
    refine (N a ea).imp id (fun P i q hi eq => ?_)
    rw [hn]
    refine P i q hi ?_
    rw [w1] at eq
    exact eq
  refine s_cl (s_imp (gatherC_q (c := cat c (fS GSL []) h1) (ks := ks) (st := st) (pw := pw) (L := L) hF fs_a (th_in _ T1) r0 (by rw [kfR 0 K1 r0]; exact e0) (by rw [kfR 4 K1 r0]; exact e4) (by rw [kfR 5 K1 r0]; exact e5) (by rw [kfR 6 K1 r0]; exact e6) (by rw [kfI 14 K1 r0]; exact ky) E1) (fun o2 ⟨T2', i2, S2, P2, E2, K2⟩ => ?_))
  have T2 := th_out T1 (fs_sub (pmA_s hA rfl) fs_n) T2'
  have f2 := fr_u T1 T2'.2.2
  have K12 : Kf ρ RBL h o2.2 := kf_t (kf_m K1 rfl) (kf_m K2 rfl)
  have ln2 : LnI x0 o2.2 := fun a ea => by
    rw [kfR 11 K2 r0] at ea
    have ra := rr T1 (thR T1 r0 (i := 11) (k2 := 24) rfl (by decide)) ea
    rw [f2.2 a (by rw [ra]; decide)]
    exact (ln1 a ea).imp id (fun P => len_fr T1 r0 f2 (fun _ => rfl) (fun _ => rfl) (fun _ => rfl) P)
  unfold sX0_run_9
  refine s_br (fun _ => ?_) (fun ne => ?_)
  · refine s_some ⟨ρ, c, ex_0, T2, rg_m (rg_b rfl : Rg 0 0 (0 : Int32)) (by decide), E2, ln2, fun n => ?_, K12⟩
    exact absurd (by rw [kfI 10 K2 r0, w1, r_I, if_pos ⟨rfl, rfl⟩]) n
  obtain ⟨S2, t0, t1⟩ := S2 ne
  refine s_mV (S := fS MRL []) T2 (fs_sub (pmA_s hA rfl) fs_n) (makeRoom_q fs_a (th_in _ T2) r0 ln2) (fun o3 ρ1 c1 X T3 f3 ⟨Ln3, K3⟩ => ?_)
  have r0' := ex_r X r0 (by decide)
  have sq64 := (thI T rL (k := 2) (i := 2) (lo := 0) (hi := 64) rfl).2
  have hL2 : hI o2.2 L 2 = hI h L 2 := by rw [kfI 2 K2 rL]; exact hL1
  have rf : ∀ i r, hR h x0 i = some r → mS GSL 1 i = false → mS MRL 1 i = false → mS [(1, 10)] 1 i = false → hR o3 x0 i = some r := fun i r e y1 y2 y3 => by
    rw [kfR i K3 r0 (by decide) y2, kfR i K2 r0 (by decide) y1, kfR i K1 r0 (by decide) y3]
    exact e
  have W3 : EnW x0 b wy ks st pw ro L (hI h L 2).toInt o3 := by
    refine ⟨⟨rf 0 _ e0 rfl rfl rfl, rf 1 _ e1 rfl rfl rfl, rf 3 _ e3 rfl rfl rfl, rf 4 _ e4 rfl rfl rfl, rf 5 _ e5 rfl rfl rfl, rf 6 _ e6 rfl rfl rfl, rf 7 _ e7 rfl rfl rfl⟩, fun i hi => ?_, stp_k T2 r0 qk qp qs K3 (P := S2), fmx_k T2 qw K3 (P := fmx_k T1 qw K2 (P := fmx_k T qw K1 (P := Fm))), Ln3, by rw [kfI 2 K3 rL, hL2], sq64, evp_k T2 r0 K3 (P := E2)⟩
    rw [kfI i K3 qp, P2 i hi, hL1]
  have lw3 : LwR ρ1 c1 o3 := lw_x2 rL (kid_w T r0 (i := 0) (w := 2102) rfl (by decide) e0) X T3 (lw_k (kf_t K12 (kf_m K3 rfl)) (P := lw))
  refine s_imp (run18_q hF (ex_A X hA) (ex_O X hO) T3 r0' W3 lw3 (by rw [kfJ 18 K3 r0]; exact t0) (by rw [kfJ 18 K3 r0]; exact t1)) (fun o4 ⟨T4, i4, W4, K4⟩ => ?_)
  refine ⟨ρ1, c1, X, T4, i4, W4.2.2.2.2.2.2.2, fun a _ => Or.inr W4.2.2.2.2.1, fun _ => ⟨W4.2.2.2.2.1, ks, st, pw, L, W4.1.1, W4.1.2.2.2.1, W4.1.2.2.2.2.1, W4.1.2.2.2.2.2.1, ?_, W4.2.2.1⟩, kf_t (kf_t K12 (kf_m K3 rfl)) (kf_m (kf_ex X K4) rfl)⟩
  rw [W4.2.2.2.2.2.1]
  exact W4.2.1
end
end
section
/-! solve and worth of the class -/
def EnA (x0 : Nat) (h : Hp) : Prop := ∀ e, hR h x0 10 = some e → EvP e h ∧ LnI e h ∧ EnQ e h
def FmY (ρ : Nat → Nat) (c : Cm) (h : Hp) : Prop := ∀ wy L, ρ wy = 11 → ρ L = 2 → cw c L = 2102 → FmX wy (hI h L 2).toInt h
abbrev SVL : List (Nat × Nat) := [(20, 999), (21, 999), (22, 999), (1, 9), (1, 18), (1, 11), (1, 12), (1, 13), (23, 999), (1, 8), (24, 999), (25, 999), (26, 999), (1, 16), (1, 17), (1, 10), (1, 15), (1, 14)]
abbrev SVX : List (Nat × Nat) := [(20, 999), (21, 999), (22, 999), (1, 9), (1, 18), (1, 11), (1, 12), (1, 13), (23, 999), (1, 8), (24, 999), (25, 999), (26, 999), (1, 16), (1, 17), (1, 10), (1, 15), (34, 999), (35, 999), (36, 999), (4, 5), (4, 7), (1, 14), (10, 1)]
section
variable {ρ : Nat → Nat} {c : Cm} {h o : Hp} {x0 e F : Nat}
theorem lenp_k {E : List (Nat × Nat)} (T : TH ρ c h) (r0 : ρ e = 1) (K : Kf ρ E h o) (N : ∀ a, ρ a ≠ 0 → hN o a = hN h a) (y1 : mS E 1 11 = false := by rfl) (y2 : mS E 1 12 = false := by rfl) (y3 : mS E 1 13 = false := by rfl) (P : LenP e h) : LenP e o := fun i a hi ea => by
  have q : ∀ j k2, mS E 1 j = false → rfK 1 j = k2 → k2 ≠ 0 → hR o e j = some a → hR h e j = some a ∧ ρ a ≠ 0 := fun j k2 hm hk h0 ej => by
    rw [kfR j K r0 (by decide) hm] at ej
    exact ⟨ej, by rw [rr T (thR T r0 (i := j) (k2 := k2) hk h0) ej]; exact h0⟩
  have z : hR h e i = some a ∧ ρ a ≠ 0 := by
    rcases hi with w | w | w <;> subst w
    · exact q 11 24 y1 rfl (by decide) ea
    · exact q 12 25 y2 rfl (by decide) ea
    · exact q 13 26 y3 rfl (by decide) ea
  rw [N a z.2]
  exact P i a hi z.1
/-- what holds of the endings stays where nothing of them is written -/
theorem ena_k {E : List (Nat × Nat)} (T : TH ρ c h) (r0 : ρ x0 = 12) (K : Kf ρ E h o) (N : ∀ a, ρ a ≠ 0 → hN o a = hN h a) (y0 : mS E 12 10 = false := by rfl) (y1 : ∀ j, ¬ j = 14 → ¬ j = 8 → ¬ j = 17 → ¬ j = 16 → mS E 1 j = false) (y2 : ∀ i, mS E 20 i = false := by intro _; rfl) (y3 : ∀ i, mS E 21 i = false := by intro _; rfl) (y4 : ∀ i, mS E 22 i = false := by intro _; rfl) (y5 : mS E 2 2 = false := by rfl) (P : EnA x0 h) : EnA x0 o := fun e ee => by
  rw [kfR 10 K r0 (by decide) y0] at ee
  have re : ρ e = 1 := rr T (thR T r0 (i := 10) (k2 := 1) rfl (by decide)) ee
  obtain ⟨p1, p2, p3⟩ := P e ee
  have y1' : ∀ j, (j == 14 || j == 8 || j == 17 || j == 16) = false → mS E 1 j = false := fun j hj => by
    rw [Bool.or_eq_false_iff, Bool.or_eq_false_iff, Bool.or_eq_false_iff] at hj
    exact y1 j (fun z => by rw [z] at hj; exact absurd hj.1.1.1 (by decide)) (fun z => by rw [z] at hj; exact absurd hj.1.1.2 (by decide)) (fun z => by rw [z] at hj; exact absurd hj.1.2 (by decide)) (fun z => by rw [z] at hj; exact absurd hj.2 (by decide))
  refine ⟨evp_k T re K (y1' 5 rfl) y3 p1, fun a ea => ?_, fun n => ?_⟩
  · rw [kfR 11 K re (by decide) (y1' 11 rfl)] at ea
    have ra := rr T (thR T re (i := 11) (k2 := 24) rfl (by decide)) ea
    rw [N a (by rw [ra]; decide)]
    exact (p2 a ea).imp id (fun P => lenp_k T re K N (y1' 11 rfl) (y1' 12 rfl) (y1' 13 rfl) P)
  · rw [kfI 10 K re (by decide) (y1' 10 rfl)] at n
    obtain ⟨l, ks, st, pw, L, e0, e4, e5, e6, Pw, S⟩ := p3 n
    have rL : ρ L = 2 := rr T (thR T re (i := 0) (k2 := 2) rfl (by decide)) e0
    have qk : ρ ks = 20 := rr T (thR T re (i := 4) (k2 := 20) rfl (by decide)) e4
    have qs : ρ st = 21 := rr T (thR T re (i := 5) (k2 := 21) rfl (by decide)) e5
    have qp : ρ pw = 22 := rr T (thR T re (i := 6) (k2 := 22) rfl (by decide)) e6
    refine ⟨lenp_k T re K N (y1' 11 rfl) (y1' 12 rfl) (y1' 13 rfl) l, ks, st, pw, L, ?_, ?_, ?_, ?_, fun i hi => ?_, stp_k T re qk qp qs K (y1' 9 rfl) y2 y3 y4 S⟩
    · rw [kfR 0 K re (by decide) (y1' 0 rfl)]; exact e0
    · rw [kfR 4 K re (by decide) (y1' 4 rfl)]; exact e4
    · rw [kfR 5 K re (by decide) (y1' 5 rfl)]; exact e5
    · rw [kfR 6 K re (by decide) (y1' 6 rfl)]; exact e6
    · rw [kfI i K qp (by decide) (y4 i), kfI 2 K rL (by decide) y5]; exact Pw i hi
theorem fmy_k {E : List (Nat × Nat)} (T : TH ρ c h) (K : Kf ρ E h o) (y1 : mS E 11 3 = false := by rfl) (y2 : ∀ i, mS E 53 i = false := by intro _; rfl) (y3 : mS E 2 2 = false := by rfl) (P : FmY ρ c h) : FmY ρ c o := fun wy L rw' rL wL => by
  rw [kfI 2 K rL (by decide) y3]
  exact fmx_k T rw' K y1 y2 (P wy L rw' rL wL)
theorem zX11_solve (hF : 700000 ≤ F) (hA : pmA c SVL) (hO : pmO c 1003 BOL) (hT : pmO c 2100 [(10, 1)]) (T : TH ρ c h) (r0 : ρ x0 = 12) (lw : LwR ρ c h) (en : EnA x0 h) (fm : FmY ρ c h) : Sat (sX11_solve F h x0) (MkI ρ c (-2147483648) 2147483647 (fun o => EnA x0 o ∧ Kf ρ SVX h o)) := by
  obtain ⟨L, eL, rL⟩ := thR T r0 (i := 2) (k2 := 2) rfl (by decide)
  -- the tape is cleared
  have b71 : ∀ {ρ1 : Nat → Nat} {c1 : Cm} {g : Hp} {y : Int32}, Ext ρ c ρ1 c1 → TH ρ1 c1 g → EnA x0 g → Kf ρ SVX h g → Sat (sX11_solve_71 F g x0 y) (MkI ρ c (-2147483648) 2147483647 (fun o => EnA x0 o ∧ Kf ρ SVX h o)) := fun {ρ1 c1 g y} X Tg eg Kg => by
    unfold sX11_solve_71 sX11_solve_78
    have r1 := ex_r X r0 (by decide)
    obtain ⟨t, et, rt⟩ := thR Tg r1 (i := 0) (k2 := 10) rfl (by decide)
    refine s_ref et ?_
    have wt : cw c1 t = 2100 := kid_w Tg r1 (i := 0) rfl (by decide) et
    refine s_cVf (S := fS [] [(2100, [(10, 1)])]) Tg (fs_sub pmA_n (fs_c (ex_O X hT) fs_n)) (zX9_clear hF (by rw [show cw (cat c1 (fS [] [(2100, [(10, 1)])]) g) t = 2100 from wt]; exact fs_o (.head _)) (th_in _ Tg) rt) (fun o2 T2 f2 => ?_)
    have K2 : Kf ρ1 [(10, 1)] g o2 := kf_of f2 rfl
    exact s_some ⟨ρ1, c1, X, T2, rg_top _, ena_k Tg r1 K2 f2.2 (y1 := fun _ _ _ _ _ => rfl) (P := eg), kf_t Kg (kf_m (kf_ex X K2) rfl)⟩
  have out : ∀ {y : Int32}, Sat (sX11_solve_71 F h x0 y) (MkI ρ c (-2147483648) 2147483647 (fun o => EnA x0 o ∧ Kf ρ SVX h o)) := fun {y} => b71 ex_0 T en kf_r
  unfold sX11_solve
  refine s_ref eL ?_
  refine s_cI0 (zX1_isPlain hF T rL) (fun o2 q2 _ => ?_)
  rw [q2]
  unfold sX11_solve_10
  refine s_br (fun _ => out) (fun _ => ?_)
  refine s_ref eL ?_
  refine s_cI0 (zX1_hasCatch hF T rL) (fun o3 q3 _ => ?_)
  rw [q3]
  unfold sX11_solve_20
  refine s_br (fun _ => ?_) (fun _ => out)
  obtain ⟨e, ee, re⟩ := thR T r0 (i := 10) (k2 := 1) rfl (by decide)
  obtain ⟨t, et, rt⟩ := thR T r0 (i := 0) (k2 := 10) rfl (by decide)
  refine s_ref ee (s_ref et ?_)
  refine s_cl (s_imp (readC_q (c := cat c (fS [(1, 14)] []) h) hF fs_a (th_in _ T) re rt (rg_m (thI T rt (k := 10) (i := 1) rfl) (by decide))) (fun o4 ⟨T4', ky, K4⟩ => ?_))
  have T4 := th_out T (fs_sub (pmA_s hA rfl) fs_n) T4'
  have f4 := fr_u T T4'.2.2
  have en4 : EnA x0 o4.2 := ena_k T r0 K4 f4.2 (y1 := fun j h1 _ _ _ => by
    show mS [(1, 14)] 1 j = false
    unfold mS
    simp [List.any]
    exact fun z => h1 z.symm) (P := en)
  unfold sX11_solve_34 sX11_solve_70
  refine s_br (fun z => ?_) (fun _ => b71 ex_0 T4 en4 (kf_m K4 rfl))
  have ee4 : hR o4.2 x0 10 = some e := by rw [kfR 10 K4 r0]; exact ee
  refine s_ref ee4 ?_
  obtain ⟨LE, eLE, rLE⟩ := thR T4 re (i := 0) (k2 := 2) rfl (by decide)
  obtain ⟨wy, ewy, rwy⟩ := thR T4 re (i := 1) (k2 := 11) rfl (by decide)
  have wLE : cw c LE = 2102 := kid_w T4 re (i := 0) (w := 2102) rfl (by decide) eLE
  obtain ⟨p1, p2, p3⟩ := en4 e ee4
  have fm4 : FmY ρ c o4.2 := fmy_k T K4 (P := fm)
  refine s_mI (S := fS RUL [(1003, BOL)]) T4 (fs_sub (pmA_s hA rfl) (fs_c hO fs_n)) (run_q hF fs_a (fs_o (.head _)) (th_in _ T4) re eLE ewy (ky z) p1 p2 (lw_k K4 (P := lw)) (fm4 wy LE rwy rLE wLE)) (fun o5 ρ1 c1 X T5 f5 i5 ⟨w1, w2, w3, K5⟩ => ?_)
  have r1 := ex_r X r0 (by decide)
  have re1 := ex_r X re (by decide)
  have K45 : Kf ρ SVX h o5.2 := kf_t (kf_m K4 rfl) (kf_m K5 rfl)
  have en5 : EnA x0 o5.2 := fun e' ee' => by
    rw [kfR 10 K5 r0] at ee'
    have q : e' = e := r_eq ee4 ee'
    subst q
    exact ⟨w1, w2, w3⟩
  unfold sX11_solve_55 sX11_solve_70
  refine s_br (fun _ => b71 X T5 en5 K45) (fun _ => ?_)
  refine s_ref (by rw [kfR 10 K5 r0]; exact ee4) ?_
  exact b71 X T5 en5 K45
end
end
