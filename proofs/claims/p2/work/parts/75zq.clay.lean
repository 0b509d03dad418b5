/-! men laid out stand on squares of the law -/
theorem low_min {x : Int64} (hx : ¬ x = 0) : ∃ k, k < 64 ∧ bitJ x k = true ∧ (∀ j, j < k → bitJ x j = false) ∧ (x &&& (-x)) = Int64.ofBitVec (BitVec.twoPow 64 k) := by
  obtain ⟨k, hk, pk, e⟩ := low_bit hx
  refine ⟨k, hk, pk, fun j hj => ?_, e⟩
  obtain ⟨m, hm, pm, hl⟩ := least (P := fun i => bitJ x i) k pk
  have hl' : ∀ j, j < m → x.toBitVec.getLsbD j = false := hl
  have pm' : x.toBitVec.getLsbD m = true := pm
  have w : bitJ (x &&& (-x)) m = true := by
    show (x.toBitVec &&& (-x).toBitVec).getLsbD m = true
    rw [BitVec.getLsbD_and, Int64.toBitVec_neg, BitVec.getLsbD_neg]
    have : ¬ ∃ j, j < m ∧ x.toBitVec.getLsbD j = true := fun ⟨j, hj, hz⟩ => by rw [hl' j hj] at hz; exact absurd hz (by decide)
    have m64 : m < 64 := by omega
    simp [pm', m64, this]
  rw [e, bj_pow hk, decide_eq_true_eq] at w
  subst w
  exact hl j hj
theorem low_all {h : Hp} {x : Int64} {o : Int32 × Hp} (e : sX11_lowest h x = some o) (nz : ¬ lg_cmp x (0 : Int64) = 0) : ∃ k, k < 64 ∧ o.1.toNatClampNeg = k ∧ bitJ x k = true ∧ (∀ j, j < k → bitJ x j = false) ∧ bitJ (x &&& (x - (1 : Int64))) k = false ∧ ∀ s, s < 64 → ¬ s = k → bitJ x s = true → bitJ (x &&& (x - (1 : Int64))) s = true := by
  have hx := cmp0 nz
  obtain ⟨k, hk, pk, hl, el⟩ := low_min hx
  have e2 : (x - (1 : Int64)).toBitVec = ~~~ ((-x).toBitVec) := by
    rw [Int64.toBitVec_sub, Int64.toBitVec_neg, BitVec.not_neg]
    rfl
  have nb : ∀ s, s < 64 → bitJ (x - (1 : Int64)) s = !bitJ (-x) s := fun s hs => by
    unfold bitJ
    rw [e2, BitVec.getLsbD_not]
    simp [hs]
  have ab : ∀ s, (bitJ x s && bitJ (-x) s) = decide (k = s) := fun s => by rw [← bj_and, el, bj_pow hk]
  refine ⟨k, hk, ?_, pk, hl, ?_, fun s hs ns hb => ?_⟩
  · unfold sX11_lowest at e
    rw [← Option.some.inj (gd_s e).2]
    show (sqT.getD _ 0).toNatClampNeg = k
    rw [el, sq_pow hk, z_clamp (by omega)]
  · have := ab k
    rw [pk, Bool.true_and, decide_eq_true rfl] at this
    rw [bj_and, nb k hk, this]
    simp
  · have := ab s
    rw [hb, Bool.true_and, decide_eq_false (fun q => ns q.symm)] at this
    rw [bj_and, nb s hs, this, hb]
    rfl
section
variable {ρ : Nat → Nat} {c : Cm} {h o : Hp} {x0 b L of F : Nat} {sq : Int} {x1 x2 x3 : Int32}
theorem put_111 {x4 : Int64} (n : ¬ of = x0) (e : sX3_put_111 h x0 x4 = some o) : (∀ a i, hR o a i = hR h a i) ∧ ∀ d, hJ o of d = hJ h of d := by
  unfold sX3_put_111 at e
  simp only [nm] at e
  rw [← Option.some.inj e]
  exact ⟨fun _ _ => rfl, fun d => by rw [r_J, if_neg (fun z => n z.1)]⟩
theorem put_70b (n : ¬ of = x0) (ef : hR h x0 1 = some of) (i1 : Rg 0 63 x1) (e : sX3_put_70 h x0 x1 x2 x3 ((1 : Int64) <<< (x1.toInt64 &&& 63)) = some o) : (∀ a i, hR o a i = hR h a i) ∧ ∀ d s, bitJ (hJ o of d) s = true → bitJ (hJ h of d) s = true ∨ (s = x1.toNatClampNeg ∧ 0 ≤ x2.toInt) := by
  unfold sX3_put_70 at e
  simp only [nm] at e
  replace e := cl_s e
  obtain ⟨q1, w1, e⟩ := e
  replace e := (gd_s e).2
  replace e := br_s e
  rcases e with ⟨_, e⟩ | ⟨n2, e⟩
  · obtain ⟨p1, p2⟩ := put_111 n e
    exact ⟨fun a i => p1 a i, fun d s hb => Or.inl (by rw [p2] at hb; exact hb)⟩
  · have z2 : 0 ≤ x2.toInt := by
      have := nlt_i n2
      have z0 : (0 : Int32).toInt = 0 := rfl
      omega
    replace e := cl_s e
    obtain ⟨q5, w5, e⟩ := e
    have w5' : hR h x0 1 = some q5 := w5
    have y5 : q5 = of := r_eq ef w5'
    subst y5
    replace e := (gd_s (gd_s e).2).2
    have key : ∀ {g : Hp}, (∀ d, hJ o q5 d = hJ g q5 d) → (∀ d, hJ g q5 d = hJ (wJ h q5 (x2 &&& (1 : Int32)).toNatClampNeg ((hJ h q5 (x2 &&& (1 : Int32)).toNatClampNeg) ||| ((1 : Int64) <<< (x1.toInt64 &&& 63)))) q5 d) → ∀ d s, bitJ (hJ o q5 d) s = true → bitJ (hJ h q5 d) s = true ∨ (s = x1.toNatClampNeg ∧ 0 ≤ x2.toInt) := fun {g} a1 a2 d s hb => by
      rw [a1, a2, r_J] at hb
      by_cases z : d = (x2 &&& (1 : Int32)).toNatClampNeg
      · rw [if_pos ⟨rfl, z⟩, bj_or, bj_one i1, Bool.or_eq_true, decide_eq_true_eq] at hb
        rw [z]
        exact hb.imp id (fun y => ⟨y.symm, z2⟩)
      · rw [if_neg (fun y => z y.2)] at hb
        exact Or.inl hb
    replace e := br_s e
    rcases e with ⟨_, e⟩ | ⟨_, e⟩
    · replace e := cl_s e
      obtain ⟨q10, w10, e⟩ := e
      replace e := (gd_s e).2
      obtain ⟨p1, p2⟩ := put_111 n e
      exact ⟨fun a i => p1 a i, key p2 (fun _ => rfl)⟩
    · obtain ⟨p1, p2⟩ := put_111 n e
      exact ⟨fun a i => p1 a i, key p2 (fun _ => rfl)⟩
theorem put_bt (n : ¬ of = x0) (ef : hR h x0 1 = some of) (e : sX3_put h x0 x1 x2 x3 = some o) : (∀ a i, hR o a i = hR h a i) ∧ ∀ d s, bitJ (hJ o of d) s = true → bitJ (hJ h of d) s = true ∨ (s = x1.toNatClampNeg ∧ 0 ≤ x1.toInt ∧ 0 ≤ x2.toInt) := by
  unfold sX3_put sX3_put_10 at e
  simp only [nm] at e
  have id0 : ∀ {o : Hp}, some h = some o → (∀ a i, hR o a i = hR h a i) ∧ ∀ d s, bitJ (hJ o of d) s = true → bitJ (hJ h of d) s = true ∨ (s = x1.toNatClampNeg ∧ 0 ≤ x1.toInt ∧ 0 ≤ x2.toInt) := fun z => by
    rw [← Option.some.inj z]
    exact ⟨fun _ _ => rfl, fun _ _ hb => Or.inl hb⟩
  replace e := br_s e
  rcases e with ⟨_, e⟩ | ⟨n0, e⟩
  · exact id0 e
  replace e := br_s e
  rcases e with ⟨l64, e⟩ | ⟨_, e⟩
  · have i1 : Rg 0 63 x1 := by
      have a := nlt_i n0
      have b := Int32.lt_iff_toInt_lt.mp l64
      have z0 : (0 : Int32).toInt = 0 := rfl
      have z64 : (64 : Int32).toInt = 64 := rfl
      exact ⟨by omega, by omega⟩
    replace e := cl_s e
    obtain ⟨q4, w4, e⟩ := e
    replace e := (gd_s e).2
    have fin : ∀ {g : Hp}, (∀ a i, hR g a i = hR h a i) → (∀ d s, bitJ (hJ g of d) s = true → bitJ (hJ h of d) s = true) → sX3_put_70 g x0 x1 x2 x3 ((1 : Int64) <<< (x1.toInt64 &&& 63)) = some o → (∀ a i, hR o a i = hR h a i) ∧ ∀ d s, bitJ (hJ o of d) s = true → bitJ (hJ h of d) s = true ∨ (s = x1.toNatClampNeg ∧ 0 ≤ x1.toInt ∧ 0 ≤ x2.toInt) := fun {g} a1 a2 e => by
      obtain ⟨p1, p2⟩ := put_70b (h := g) n (by rw [a1]; exact ef) i1 e
      refine ⟨fun a i => (p1 a i).trans (a1 a i), fun d s hb => ?_⟩
      rcases p2 d s hb with z | z
      · exact Or.inl (a2 d s z)
      · exact Or.inr ⟨z.1, i1.1, z.2⟩
    replace e := br_s e
    rcases e with ⟨_, e⟩ | ⟨_, e⟩
    · exact fin (fun _ _ => rfl) (fun _ _ hb => hb) e
    · replace e := cl_s e
      obtain ⟨q8, w8, e⟩ := e
      have y8 : q8 = of := r_eq ef w8
      subst y8
      replace e := (gd_s (gd_s e).2).2
      have sub : ∀ {k : Nat} {y : Int64} (d s : Nat), bitJ (hJ (wJ h q8 k ((hJ h q8 k) &&& y)) q8 d) s = true → bitJ (hJ h q8 d) s = true := fun {k y} d s hb => by
        rw [r_J] at hb
        by_cases z : d = k
        · rw [if_pos ⟨rfl, z⟩, bj_and, Bool.and_eq_true] at hb
          rw [z]; exact hb.1
        · rw [if_neg (fun y => z y.2)] at hb; exact hb
      replace e := cl_s e
      obtain ⟨q12, w12, e⟩ := e
      replace e := (gd_s e).2
      replace e := br_s e
      rcases e with ⟨_, e⟩ | ⟨_, e⟩
      · replace e := cl_s e
        obtain ⟨q15, w15, e⟩ := e
        replace e := (gd_s e).2
        refine fin ?_ ?_ e
        · intro a i; rfl
        · intro d s hb; exact sub d s hb
      · refine fin ?_ ?_ e
        · intro a i; rfl
        · intro d s hb; exact sub d s hb
  · exact id0 e
/-- a man taken off is off -/
theorem put_off (T : TH ρ c h) (r0 : ρ x0 = 4) (ef : hR h x0 1 = some of) (i1 : Rg 0 63 x1) (e : sX3_put h x0 x1 (-1 : Int32) x3 = some o) : ∀ d, d < 2 → bitJ (hJ o of d) x1.toNatClampNeg = false := by
  have qf := th_of T r0 ef
  have n : ¬ of = x0 := ne_r' qf r0 (by decide)
  have c1 := clamp_i i1.1
  have b1 := i1.2
  unfold sX3_put sX3_put_10 at e
  simp only [nm] at e
  replace e := br_s e
  rcases e with ⟨n0, e⟩ | ⟨_, e⟩
  · have := Int32.lt_iff_toInt_lt.mp n0
    have z0 : (0 : Int32).toInt = 0 := rfl
    have := i1.1
    omega
  replace e := br_s e
  rcases e with ⟨_, e⟩ | ⟨l64, e⟩
  · replace e := cl_s e
    obtain ⟨q4, w4, e⟩ := e
    replace e := (gd_s e).2
    have fin : ∀ {g : Hp}, (∀ a i, hR g a i = hR h a i) → (∀ d, d < 2 → bitJ (hJ g of d) x1.toNatClampNeg = false) → sX3_put_70 g x0 x1 (-1 : Int32) x3 ((1 : Int64) <<< (x1.toInt64 &&& 63)) = some o → ∀ d, d < 2 → bitJ (hJ o of d) x1.toNatClampNeg = false := fun {g} a1 a2 e d hd => by
      obtain ⟨p1, p2⟩ := put_70b (h := g) n (by rw [a1]; exact ef) i1 e
      cases z : bitJ (hJ o of d) x1.toNatClampNeg with
      | false => rfl
      | true =>
        rcases p2 d _ z with y | y
        · rw [a2 d hd] at y; exact absurd y (by decide)
        · exact absurd y.2 (by decide)
    replace e := br_s e
    rcases e with ⟨l, e⟩ | ⟨l, e⟩
    · refine fin (fun _ _ => rfl) (fun d hd => ?_) e
      cases z : bitJ (hJ h of d) x1.toNatClampNeg with
      | false => rfl
      | true =>
        have := (th_ps T r0 w4 ef (by omega) hd z).1
        have l := Int32.lt_iff_toInt_lt.mp l
        have z0 : (0 : Int32).toInt = 0 := rfl
        omega
    · have l0 : 0 ≤ (hI h q4 x1.toNatClampNeg).toInt := by
        have := nlt_i l
        have z0 : (0 : Int32).toInt = 0 := rfl
        omega
      have ion := thI T (th_on T r0 w4) (k := 34) (i := x1.toNatClampNeg) (lo := -2) (hi := 23) rfl
      have a1 := and1 (x := hI h q4 x1.toNatClampNeg) ⟨l0, ion.2⟩
      replace e := cl_s e
      obtain ⟨q8, w8, e⟩ := e
      have y8 : q8 = of := r_eq ef w8
      subst y8
      replace e := (gd_s (gd_s e).2).2
      have off : ∀ d, d < 2 → bitJ (hJ (wJ h q8 ((hI h q4 x1.toNatClampNeg) &&& (1 : Int32)).toNatClampNeg ((hJ h q8 ((hI h q4 x1.toNatClampNeg) &&& (1 : Int32)).toNatClampNeg) &&& (((1 : Int64) <<< (x1.toInt64 &&& 63)) ^^^ (-1 : Int64)))) q8 d) x1.toNatClampNeg = false := fun d hd => by
        rw [r_J]
        by_cases z : d = ((hI h q4 x1.toNatClampNeg) &&& (1 : Int32)).toNatClampNeg
        · rw [if_pos ⟨rfl, z⟩, bj_and, bj_not _ (by omega), bj_one i1]
          simp
        · rw [if_neg (fun y => z y.2)]
          cases y : bitJ (hJ h q8 d) x1.toNatClampNeg with
          | false => rfl
          | true =>
            have := (th_ps T r0 w4 ef (by omega) hd y).2.1
            have := a1.2.2
            omega
      replace e := cl_s e
      obtain ⟨q12, w12, e⟩ := e
      replace e := (gd_s e).2
      replace e := br_s e
      rcases e with ⟨_, e⟩ | ⟨_, e⟩
      · replace e := cl_s e
        obtain ⟨q15, w15, e⟩ := e
        replace e := (gd_s e).2
        refine fin ?_ ?_ e
        · intro a i; rfl
        · intro d hd; exact off d hd
      · refine fin ?_ ?_ e
        · intro a i; rfl
        · intro d hd; exact off d hd
  · have := nlt_i l64
    have z64 : (64 : Int32).toInt = 64 := rfl
    omega
theorem bo_h {a : Nat} {o : Int32 × Hp} (e : sX1_becomesOthers h a x1 = some o) : o.2 = h := by
  unfold sX1_becomesOthers sX1_becomesOthers_23 sX1_becomesOthers_24 at e
  replace e := br_s e
  rcases e with ⟨_, e⟩ | ⟨_, e⟩
  · rw [← Option.some.inj (gd_s e).2]
  replace e := br_s e
  rcases e with ⟨_, e⟩ | ⟨_, e⟩
  · rw [← Option.some.inj (gd_s e).2]
  replace e := cl_s e
  obtain ⟨_, _, e⟩ := e
  replace e := (gd_s e).2
  replace e := br_s e
  rcases e with ⟨_, e⟩ | ⟨_, e⟩
  · rw [← Option.some.inj (gd_s e).2]
  · rw [← Option.some.inj (gd_s e).2]
theorem il_h {a : Nat} {o : Int32 × Hp} (e : sX1_isLast h a x1 x2 = some o) : o.2 = h := by
  unfold sX1_isLast sX1_isLast_20 sX1_isLast_28 at e
  replace e := cl_s e
  obtain ⟨_, _, e⟩ := e
  replace e := (gd_s e).2
  replace e := br_s e
  rcases e with ⟨_, e⟩ | ⟨_, e⟩
  · replace e := br_s e
    rcases e with ⟨_, e⟩ | ⟨_, e⟩
    · rw [← Option.some.inj (gd_s e).2]
    · rw [← Option.some.inj (gd_s e).2]
  · replace e := br_s e
    rcases e with ⟨_, e⟩ | ⟨_, e⟩
    · rw [← Option.some.inj (gd_s e).2]
    · rw [← Option.some.inj (gd_s e).2]
/-- laying men out -/
theorem lo_79 {x5 x6 : Int32} (rb : ρ b = 4) (qf : ρ of = 35) (rL : ρ L = 2) (s6 : x6.toInt = sq) : ∀ (f : Nat) {h : Hp} {o : Int32 × Hp} {x7 x8 x9 : Int32}, hR h x0 3 = some b → hR h x0 0 = some L → hR h b 1 = some of → 0 ≤ x7.toInt → PoS sq b h → sX0_layOut_79 F f h x0 x1 x5 x6 x7 x8 x9 = some o → PoS sq b o.2 := by
  intro f
  induction f with
  | zero => intro h o x7 x8 x9 _ _ _ _ _ e; exact absurd e (by rw [sX0_layOut_79]; exact fun z => nomatch z)
  | succ f ih =>
    intro h o x7 x8 x9 e3 e0 ef a7 P e
    rw [sX0_layOut_79] at e
    unfold sX0_layOut_240 at e
    replace e := br_s e
    rcases e with ⟨_, e⟩ | ⟨_, e⟩
    · rw [← Option.some.inj e]; exact P
    replace e := br_s e
    rcases e with ⟨_, e⟩ | ⟨n6, e⟩
    · rw [← Option.some.inj e]; exact P
    have n6 := nle_i n6
    have z0 : (0 : Int32).toInt = 0 := rfl
    rw [z0] at n6
    replace e := (gd_s e).2
    replace e := nm_s e
    obtain ⟨v4, e4, e⟩ := e
    replace e := (gd_s e).2
    replace e := nm_s e
    obtain ⟨v6, e6, e⟩ := e
    replace e := cl_s e
    obtain ⟨o7, e7, e⟩ := e
    have q7 : o7.2 = h := by
      unfold sX0_codeIn at e7
      rw [← Option.some.inj e7]
    have r7 : Rg 0 x7.toInt x7 := ⟨a7, Int.le_refl _⟩
    have r6 : Rg 1 x6.toInt x6 := ⟨by omega, Int.le_refl _⟩
    have l4 : v4.toInt < sq := by rw [e4, ← s6]; exact rem_lt r7 r6 ⟨Int.le_refl 0, Int.le_refl 1⟩
    have a6 : 0 ≤ v6.toInt := by
      rw [e6, td r7 r6 ⟨Int.le_refl 0, Int.le_refl 1⟩]
      exact Int.ediv_nonneg a7 (by omega)
    clear e4 e6
    rw [q7] at e
    have b178 : ∀ {t u : Int32}, sX0_layOut_178 F (sX0_layOut_79 F f) h x0 x1 x5 x6 v6 x9 v4 o7.1 t u = some o → PoS sq b o.2 := fun {t u} e => by
      unfold sX0_layOut_178 sX0_layOut_204 at e
      replace e := br_s e
      rcases e with ⟨_, e⟩ | ⟨_, e⟩
      · replace e := br_s e
        rcases e with ⟨_, e⟩ | ⟨_, e⟩
        · replace e := cl_s e
          obtain ⟨r3, _, e⟩ := e
          replace e := cl_s e
          obtain ⟨r4, _, e⟩ := e
          replace e := (gd_s e).2
          replace e := br_s e
          rcases e with ⟨_, e⟩ | ⟨_, e⟩
          · replace e := nm_s e
            obtain ⟨v7, _, e⟩ := e
            replace e := cl_s e
            obtain ⟨r8, e8, e⟩ := e
            have y8 : r8 = b := r_eq e3 e8
            subst y8
            replace e := cl_s e
            obtain ⟨r9, _, e⟩ := e
            replace e := cl_s e
            obtain ⟨o10, e10, e⟩ := e
            replace e := nm_s e
            obtain ⟨v11, _, e⟩ := e
            obtain ⟨p1, p2⟩ := put_bt (ne_r' qf rb (by decide)) ef e10
            refine ih (by rw [p1]; exact e3) (by rw [p1]; exact e0) (by rw [p1]; exact ef) a6 (fun of' d eo hd s hs hb => ?_) e
            rw [p1] at eo
            have y : of' = of := r_eq ef eo
            subst y
            rcases p2 d s hb with z | ⟨z, z1, _⟩
            · exact P of' d ef hd s hs z
            · have := clamp_i z1
              omega
          · rw [← Option.some.inj e]; exact P
        · rw [← Option.some.inj e]; exact P
      · rw [← Option.some.inj e]; exact P
    have b141 : ∀ {t : Int32}, sX0_layOut_141 F (sX0_layOut_79 F f) h x0 x1 x5 x6 v6 x9 v4 o7.1 t = some o → PoS sq b o.2 := fun {t} e => by
      unfold sX0_layOut_141 sX0_layOut_177 at e
      replace e := cl_s e
      obtain ⟨r1, _, e⟩ := e
      replace e := cl_s e
      obtain ⟨o2, e2, e⟩ := e
      have q2 : o2.2 = h := bo_h e2
      rw [q2] at e
      replace e := br_s e
      rcases e with ⟨_, e⟩ | ⟨_, e⟩
      · exact b178 e
      replace e := cl_s e
      obtain ⟨r4, _, e⟩ := e
      replace e := cl_s e
      obtain ⟨o5, e5, e⟩ := e
      have q5 : o5.2 = h := il_h e5
      rw [q5] at e
      replace e := br_s e
      rcases e with ⟨_, e⟩ | ⟨_, e⟩
      · exact b178 e
      · exact b178 e
    unfold sX0_layOut_140 at e
    replace e := br_s e
    rcases e with ⟨_, e⟩ | ⟨_, e⟩
    · replace e := br_s e
      rcases e with ⟨_, e⟩ | ⟨_, e⟩
      · exact b141 e
      · exact b141 e
    · exact b141 e
theorem lo_11 (hF : 700000 ≤ F) (hO : pmO c (cw c b) [(34, 999), (35, 999), (36, 999), (4, 7)]) (rb : ρ b = 4) (qf : ρ of = 35) (rL : ρ L = 2) (a1 : 0 ≤ x1.toInt) (a2 : 0 ≤ x2.toInt) : ∀ (f : Nat) {h : Hp} {o : Int32 × Hp} {x3 : Int64} {x5 : Int32}, TH ρ c h → hR h x0 3 = some b → hR h x0 0 = some L → hR h b 1 = some of → (hI h L 2).toInt = sq → 0 ≤ x5.toInt → (∀ d, d < 2 → ∀ s, s < 64 → bitJ (hJ h of d) s = true → bitJ x3 s = true) → (∀ s : Nat, (s : Int) < x5.toInt → bitJ x3 s = false) → sX0_layOut_11 F f h x0 x1 x2 x3 x5 = some o → PoS sq b o.2 := by
  intro f
  induction f with
  | zero => intro h o x3 x5 _ _ _ _ _ _ _ _ e; exact absurd e (by rw [sX0_layOut_11]; exact fun z => nomatch z)
  | succ f ih =>
    intro h o x3 x5 T e3 e0 ef eL a5 B Z e
    rw [sX0_layOut_11] at e
    have b55 : (∀ s, s < 64 → bitJ x3 s = false) → sX0_layOut_55 F h x0 x1 x2 = some o → PoS sq b o.2 := fun hz e => by
      unfold sX0_layOut_55 at e
      replace e := cl_s e
      obtain ⟨o1, e1, e⟩ := e
      have q1 := (sat_e (size_q hF a1) e1).1
      rw [q1] at e
      replace e := cl_s e
      obtain ⟨r2, e2, e⟩ := e
      have y2 : r2 = L := r_eq e0 e2
      subst y2
      replace e := nm_s e
      obtain ⟨v3, e3', e⟩ := e
      refine lo_79 rb qf rL (by rw [e3']; exact eL) F e3 e0 ef a2 (fun of' d eo hd s hs hb => ?_) e
      have y : of' = of := r_eq ef eo
      subst y
      have := B d hd s hs hb
      rw [hz s hs] at this
      exact absurd this (by decide)
    have z64 : (64 : Int32).toInt = 64 := rfl
    replace e := br_s e
    rcases e with ⟨l, e⟩ | ⟨l, e⟩
    · have l := le_i l
      exact b55 (fun s hs => Z s (by omega)) e
    have l := nle_i l
    replace e := br_s e
    rcases e with ⟨w, e⟩ | ⟨nz, e⟩
    · refine b55 (fun s hs => ?_) e
      have x0' : x3 = 0 := cmp_eq w
      rw [x0', bj_zero]
    replace e := cl_s e
    obtain ⟨r3, e3', e⟩ := e
    have y3 : r3 = b := r_eq e3 e3'
    subst y3
    replace e := cl_s e
    obtain ⟨o4, e4, e⟩ := e
    have Z4 := sat_e (zX11_lowest hF T) e4
    obtain ⟨k, hk, ek, pk, hl, noff, rest⟩ := low_all e4 nz
    replace e := cl_s e
    obtain ⟨r5, e5, e⟩ := e
    replace e := cl_s e
    obtain ⟨o6, e6, e⟩ := e
    rw [Z4.1] at e5 e6
    have y5 : r5 = L := r_eq e0 e5
    subst y5
    replace e := nm_s e
    obtain ⟨v7, e7, e⟩ := e
    replace e := nm_s e
    obtain ⟨v8, e8, e⟩ := e
    have T6 : TH ρ c o6 := sat_e (zX3_put hF hO T rb (rg_top _) (rg_m (rg_b rfl : Rg (-1) (-1) (-1 : Int32)) (by decide)) (rg_top _) (fun w => absurd w (by decide))) e6
    have off := put_off T rb ef Z4.2 e6
    obtain ⟨p1, p2⟩ := put_bt (ne_r' qf rb (by decide)) ef e6
    obtain ⟨on, eon, qon⟩ := thR T rb (i := 0) (k2 := 34) rfl (by decide)
    obtain ⟨ra, era, qra⟩ := thR T rb (i := 2) (k2 := 36) rfl (by decide)
    have P := pu_all qon qra eon era e6
    have i5 : Rg 0 63 x5 := ⟨a5, by omega⟩
    have ny := nc_s i5 (by decide)
    have t8 : v8.toInt = x5.toInt + 1 := by rw [e8]; exact ny.2
    clear e8
    refine ih T6 (by rw [p1]; exact e3) (by rw [p1]; exact e0) (by rw [p1]; exact ef) (by rw [P.2.2.2.1 r5 2 rL]; exact eL) (by omega) (fun d hd s hs hb => ?_) (fun s hs => ?_) e
    · have ns : ¬ s = k := fun z => by
        have := off d hd
        rw [ek, ← z, hb] at this
        exact absurd this (by decide)
      rcases p2 d s hb with z | z
      · rw [e7]; exact rest s hs ns (B d hd s hs z)
      · exact absurd (z.1.trans ek) ns
    · rw [e7]
      have kx : x5.toInt ≤ (k : Int) := by
        have h1 : ¬ (k : Int) < x5.toInt := fun w => by
          rw [Z k w] at pk
          exact absurd pk (by decide)
        omega
      by_cases z : s = k
      · rw [z]; exact noff
      · cases y : bitJ x3 s with
        | false => rw [bj_and, y, Bool.false_and]
        | true =>
          have h2 : ¬ s < k := fun w => by
            rw [hl s w] at y
            exact absurd y (by decide)
          omega
theorem layOut_q (hF : 700000 ≤ F) (hO : pmO c 1003 [(34, 999), (35, 999), (36, 999), (4, 7)]) (T : TH ρ c h) (r0 : ρ x0 = 1) (e3 : hR h x0 3 = some b) (e0 : hR h x0 0 = some L) (i1 : Rg 0 33554431 x1) (i2 : Rg 0 599999 x2) (lw : LwR ρ c h) (ky : KyX x1) : Sat (sX0_layOut F h x0 x1 x2) (ZQ (ZI ρ c 0 1) (fun o => PoS (hI h L 2).toInt b o.2)) := by
  refine sat_and (zX0_layOut hF hO T r0 i1 i2 lw ky) (fun o e Z => ⟨Z, ?_⟩)
  have rb : ρ b = 4 := rr T (thR T r0 (i := 3) (k2 := 4) rfl (by decide)) e3
  have rL : ρ L = 2 := rr T (thR T r0 (i := 0) (k2 := 2) rfl (by decide)) e0
  have wb : cw c b = 1003 := kid_w T r0 (i := 3) (w := 1003) rfl (by decide) e3
  obtain ⟨of, ef, qf⟩ := thR T rb (i := 1) (k2 := 35) rfl (by decide)
  unfold sX0_layOut at e
  replace e := cl_s e
  obtain ⟨r1, e1, e⟩ := e
  have y1 : r1 = b := r_eq e3 e1
  subst y1
  replace e := cl_s e
  obtain ⟨o2, e2, e⟩ := e
  have q2 := sat_e (zX3_occupied hF T rb) e2
  rw [q2] at e
  refine lo_11 hF (by rw [wb]; exact hO) rb qf rL i1.1 i2.1 F T e3 e0 ef rfl (by decide) (fun d hd s hs hb => ?_) (fun s hs => ?_) e
  · unfold sX3_occupied at e2
    obtain ⟨f1, g1, e2⟩ := cl_s e2
    replace e2 := (gd_s e2).2
    obtain ⟨f2, g2, e2⟩ := cl_s e2
    replace e2 := (gd_s e2).2
    have z1 : f1 = of := r_eq ef g1
    have z2 : f2 = of := r_eq ef g2
    subst z1; subst z2
    rw [← Option.some.inj e2]
    show bitJ (hJ h f2 (0 : Int32).toNatClampNeg ||| hJ h f2 (1 : Int32).toNatClampNeg) s = true
    rw [bj_or, Bool.or_eq_true]
    have hc : d = 0 ∨ d = 1 := by omega
    rcases hc with w | w <;> subst w
    · exact Or.inl hb
    · exact Or.inr hb
  · have z0 : (0 : Int32).toInt = 0 := rfl
    omega
end
