/-! the SET that is asked for is read alike -/
def RowB (ro : Nat) (key : Int32) (n : Nat) (hr : Hp) : Prop := ∃ f, Kq key n f ∧ ∀ v, cn f v n = cn (fun i => hI hr ro i) v n
section
variable {ρ : Nat → Nat} {c : Cm} {F : Nat} {Z : Nat → Nat} {hc h0 : Hp} {L lw m x t bt tp ro : Nat} {o o' : Int32 × Hp} {x1 : Int32}
theorem read_p (hA : pmA c [(108, 999)]) (r0 : ρ m = 16) (e57 : hR h0 m 57 = some ro) (qo : ρ ro = 108) (eT : hR h0 m 0 = some tp) (qt : ρ tp = 82) (K : ∀ g, Jo ro h0 g → ZA Z L lw hc g ∧ LwQ Z hc g ∧ hR g m 4 = some lw) (ex : hR hc x 0 = some L) (ebt : hR hc t 0 = some bt) (ntx : ¬ t = x) (tl : hI hc t 1 = x1) (i1 : Rg 0 1200 x1) (bts : ∀ i, Rg 0 255 (hI hc bt i)) (tb : ∀ i : Nat, (i : Int) < x1.toInt → (hI h0 tp i).toInt = sg (hI hc bt i).toInt) : ∀ (f g : Nat) {hr : Hp} {x2 x3 i : Int32}, TH ρ c hr → Jo ro h0 hr → Rg 0 5 i → i.toInt ≤ x1.toInt → RW m i.toInt hr → RowB ro x3 i.toNatClampNeg hr → sX0_read_7 F f hc x t x2 x3 i = some o → sX15_solve_54 F g hr m x1 x2 i = some o' → (¬ o.1 = (-1 : Int32) ∧ o'.1 = (-200 : Int32) - o.1) ∨ (o.1 = (-1 : Int32) ∧ ∃ (key : Int32) (g : Hp), o.2 = wI hc x 14 key ∧ Rg 2 5 x1 ∧ TH ρ c g ∧ Jo ro h0 g ∧ RW m x1.toInt g ∧ RowB ro key x1.toNatClampNeg g ∧ (nm (wI g m 49 (0 : Int32)) fun h_3 => nm (wJ h_3 m 59 (0 : Int64)) fun h_4 => nm (wI h_4 m 50 (0 : Int32)) fun h_5 => sX15_solve_203 F F h_5 m x1 (0 : Int32)) = some o') := by
  have z1 : (1 : Int32).toInt = 1 := rfl
  have z0 : (0 : Int32).toInt = 0 := rfl
  have z5 : (5 : Int32).toInt = 5 := rfl
  have zm : (-1 : Int32).toInt = -1 := by decide
  have ntp : ¬ tp = ro := fun z => by rw [z, qo] at qt; exact absurd qt (by decide)
  have nmo : ¬ m = ro := fun z => by rw [z, qo] at r0; exact absurd r0 (by decide)
  have x10 := i1.1
  intro f
  induction f with
  | zero => intro g hr x2 x3 i _ _ _ _ _ _ e; exact absurd e (by rw [sX0_read_7]; exact fun z => nomatch z)
  | succ f ih =>
    intro g hr x2 x3 i T J ii bi W B e e'
    cases g with
    | zero => exact absurd e' (by rw [sX15_solve_54]; exact fun z => nomatch z)
    | succ g =>
      rw [sX0_read_7, tl] at e
      rw [sX15_solve_54] at e'
      obtain ⟨A, Q, em⟩ := K hr J
      have i0 := ii.1
      have i5 := ii.2
      have ni := nc_i i0
      replace e := br_s e
      replace e' := br_s e'
      rcases e with ⟨l, e⟩ | ⟨l, e⟩
      · rcases e' with ⟨_, e'⟩ | ⟨l', _⟩
        rotate_left
        · exact absurd l l'
        have l := le_i l
        have ei : i = x1 := Int32.toInt_inj.mp (by omega)
        replace e := nm_s e; obtain ⟨h2, w2, e⟩ := e
        have l2 : hI h2 t 1 = x1 := by rw [w2, rI_a ntx]; exact tl
        rw [l2] at e
        unfold sX0_read_117 at e
        replace e := br_s e
        replace e' := br_s e'
        rcases e with ⟨b, e⟩ | ⟨b, e⟩
        · rcases e' with ⟨_, e'⟩ | ⟨b', _⟩
          rotate_left
          · exact absurd b b'
          have b := le_i b
          refine Or.inr ⟨by rw [← Option.some.inj e], x3, hr, by rw [← Option.some.inj e]; exact w2, ⟨b, by omega⟩, T, J, by rw [← ei]; exact W, by rw [← ei]; exact B, e'⟩
        · rcases e' with ⟨b', _⟩ | ⟨_, e'⟩
          · exact absurd b' b
          refine Or.inl ⟨fun z => ?_, by rw [← Option.some.inj e, ← Option.some.inj e']⟩
          rw [← Option.some.inj e] at z
          have z : x1 = (-1 : Int32) := z
          rw [z, zm] at x10
          omega
      rcases e' with ⟨l', _⟩ | ⟨_, e'⟩
      · exact absurd l' l
      have l := nle_i l
      replace e := cl_s e; obtain ⟨r4, p, e⟩ := e
      rw [r_eq ex p] at e
      replace e := cl_s e; obtain ⟨o5, eo5, e⟩ := e
      have y5 : o5 = (hI hc bt i.toNatClampNeg, hc) := by
        unfold sX9_byteAt sX9_byteAt_22 sX9_byteAt_21 at eo5
        replace eo5 := br_s eo5
        rcases eo5 with ⟨q, _⟩ | ⟨_, eo5⟩
        · have q := lt_i q
          rw [z0] at q
          omega
        rw [tl] at eo5
        replace eo5 := br_s eo5
        rcases eo5 with ⟨q, _⟩ | ⟨_, eo5⟩
        · have q := le_i q
          omega
        replace eo5 := cl_s eo5; obtain ⟨r, p, eo5⟩ := eo5
        rw [r_eq ebt p] at eo5
        exact (Option.some.inj (gd_s eo5).2).symm
      rw [y5] at e
      dsimp only at e
      replace e := cl_s e; obtain ⟨o6, eo6, e⟩ := e
      replace e' := cl_s e'; obtain ⟨r6, p, e'⟩ := e'
      rw [r_eq (by rw [J.1]; exact eT) p] at e'
      replace e' := (gd_s e').2
      replace e' := cl_s e'; obtain ⟨o8, eo8, e'⟩ := e'
      obtain ⟨w6, w8, alt⟩ := code_p A Q em (bts i.toNatClampNeg) (by rw [J.2.2.2 tp _ ntp]; exact tb i.toNatClampNeg (by omega)) eo6 eo8
      rw [w6] at e
      rw [w8] at e'
      have flt : ∀ {hh : Hp}, some (i, hh) = some o → some ((-200 : Int32) - i, hr) = some o' → ¬ o.1 = (-1 : Int32) ∧ o'.1 = (-200 : Int32) - o.1 := fun {hh} u u' => by
        rw [← Option.some.inj u, ← Option.some.inj u']
        refine ⟨fun z => ?_, rfl⟩
        have z : i = (-1 : Int32) := z
        rw [z, zm] at i0
        omega
      rcases alt with ⟨c6, c8⟩ | ⟨v8, c6⟩
      · -- no man of that letter
        rw [c6] at e
        rw [c8] at e'
        unfold sX15_solve_69 sX15_solve_108 sX15_solve_109 sX15_solve_126 at e'
        replace e' := br_s e'
        rcases e' with ⟨_, e'⟩ | ⟨n, _⟩
        rotate_left
        · exact absurd (by decide) n
        replace e' := br_s e'
        rcases e' with ⟨_, e'⟩ | ⟨n, _⟩
        rotate_left
        · exact absurd rfl n
        unfold sX0_read_43 at e
        replace e := br_s e
        rcases e with ⟨_, e⟩ | ⟨_, e⟩
        · exact Or.inl (flt e e')
        replace e := br_s e
        rcases e with ⟨_, e⟩ | ⟨n, _⟩
        · exact Or.inl (flt e e')
        · exact absurd rfl n
      rw [c6] at e
      generalize hv : o8.1 = v at *
      have v1 := v8.1
      have v24 := v8.2
      have nv0 : ¬ v = 0 := fun z => by rw [z, z0] at v1; omega
      have nvl : ¬ v ≤ 0 := fun z => by
        have := le_i z
        rw [z0] at this
        omega
      have tv : (v - (1 : Int32)).toInt = v.toInt - 1 := by rw [ts (by rw [z1]; omega), z1]
      have royq : hI hc L 4 = hI hr lw 10 := by
        have := Q.1 (4, 10) (by decide)
        rw [A.1.1, A.2.1.1] at this
        exact this
      unfold sX15_solve_69 sX15_manOf at e'
      replace e' := br_s e'
      rcases e' with ⟨n, _⟩ | ⟨_, e'⟩
      · exact absurd n nvl
      replace e' := cl_s e'; obtain ⟨o2, eo2, e'⟩ := e'
      rw [← Option.some.inj eo2] at e'
      dsimp only at e'
      unfold sX15_solve_81 sX15_sideOf sX15_solve_97 sX15_solve_108 at e'
      replace e' := cl_s e'; obtain ⟨u1, p, e'⟩ := e'
      rw [r_eq em p, ← royq] at e'
      -- the reference, where its flag says whether he is there twice
      have f1 : sX15_solve_109 F (sX15_solve_54 F g) hr m x1 x2 i v (1 : Int32) = some o' → some ((-200 : Int32) - i, hr) = some o' := fun e' => by
        unfold sX15_solve_109 sX15_solve_126 at e'
        replace e' := br_s e'
        rcases e' with ⟨n, _⟩ | ⟨_, e'⟩
        · exact absurd n nv0
        replace e' := br_s e'
        rcases e' with ⟨n, _⟩ | ⟨_, e'⟩
        · exact absurd n (by decide)
        exact e'
      have f0 : sX15_solve_109 F (sX15_solve_54 F g) hr m x1 x2 i v (0 : Int32) = some o' → (i = (5 : Int32) ∧ some ((-200 : Int32) - i, hr) = some o') ∨ (¬ i = (5 : Int32) ∧ sX15_solve_138 F (sX15_solve_54 F g) hr m x1 i v ((v - (1 : Int32)) >>> ((1 : Int32) &&& 31)) x2 = some o') := fun e' => by
        unfold sX15_solve_109 sX15_solve_126 sX15_manOf at e'
        replace e' := br_s e'
        rcases e' with ⟨n, _⟩ | ⟨_, e'⟩
        · exact absurd n nv0
        replace e' := br_s e'
        rcases e' with ⟨_, e'⟩ | ⟨n, _⟩
        rotate_left
        · exact absurd rfl n
        replace e' := br_s e'
        rcases e' with ⟨b, e'⟩ | ⟨b, e'⟩
        · exact Or.inl ⟨b, e'⟩
        replace e' := cl_s e'; obtain ⟨o4, eo4, e'⟩ := e'
        rw [← Option.some.inj eo4] at e'
        exact Or.inr ⟨b, e'⟩
      -- one man more
      have nxt : ∀ {y2 t0 t1 : Int32}, i.toInt ≤ 4 → t1 ||| t0 = y2 → sX0_read_83 F (sX0_read_7 F f) hc x t y2 x3 i (v - (1 : Int32)) = some o → sX15_solve_159 F (sX15_solve_54 F g) hr m x1 i v t0 t1 = some o' → (¬ o.1 = (-1 : Int32) ∧ o'.1 = (-200 : Int32) - o.1) ∨ (o.1 = (-1 : Int32) ∧ ∃ (key : Int32) (g : Hp), o.2 = wI hc x 14 key ∧ Rg 2 5 x1 ∧ TH ρ c g ∧ Jo ro h0 g ∧ RW m x1.toInt g ∧ RowB ro key x1.toNatClampNeg g ∧ (nm (wI g m 49 (0 : Int32)) fun h_3 => nm (wJ h_3 m 59 (0 : Int64)) fun h_4 => nm (wI h_4 m 50 (0 : Int32)) fun h_5 => sX15_solve_203 F F h_5 m x1 (0 : Int32)) = some o') := fun {y2 t0 t1} i4 ey e e' => by
        unfold sX0_read_83 at e
        unfold sX15_solve_159 at e'
        replace e := cl_s e; obtain ⟨k1, ek, e⟩ := e
        replace e := nm_s e; obtain ⟨a2, wa2, e⟩ := e
        replace e' := nm_s e'; obtain ⟨b1, wb1, e'⟩ := e'
        replace e' := cl_s e'; obtain ⟨r2, p, e'⟩ := e'
        rw [r_eq (by rw [J.1]; exact e57) p] at e'
        replace e' := (gd_s e').2
        replace e' := nm_s e'; obtain ⟨h4, w4, e'⟩ := e'
        replace e' := nm_s e'; obtain ⟨b5, wb5, e'⟩ := e'
        have tx : (i + (1 : Int32)).toInt = i.toInt + 1 := by rw [ta (by rw [z1]; omega), z1]
        have cx : (i + (1 : Int32)).toNatClampNeg = i.toNatClampNeg + 1 := by
          have := nc_i (x := i + (1 : Int32)) (by omega)
          omega
        obtain ⟨fr, Kk, Ck⟩ := B
        obtain ⟨wk, pp, p4, hA', hB', eK⟩ := wi_k (pad_24 Kk.2.2.1) (by unfold pad; rw [if_neg (by omega)]) Kk.2.1 (x1 := v - (1 : Int32)) ⟨by omega, by omega⟩ ek
        rw [show (v - (1 : Int32)).toInt + 1 = v.toInt by omega] at hA' hB' eK
        obtain ⟨Kn, Cn⟩ := kq_ins (w := v) (by omega) Kk p4 hA' hB' v1 v24 eK
        rw [wk, wa2] at e
        rw [wb5, wb1, ey] at e'
        have T4 : TH ρ c h4 := by rw [w4]; exact th_wI T qo (k := 108) (lo := 0) (hi := 24) rfl ⟨by omega, v24⟩ (by decide) (by decide) (pm_a hA rfl)
        have J4 : Jo ro h0 h4 := ⟨fun a j => by rw [w4]; exact J.1 a j, fun a => by rw [w4]; exact J.2.1 a, fun a j => by rw [w4]; exact J.2.2.1 a j, fun a j n => by rw [w4, rI_a n]; exact J.2.2.2 a j n⟩
        refine ih g T4 J4 ⟨by omega, by omega⟩ (by omega) (fun ro' er k hk => ?_) ?_ e e'
        · have y : ro' = ro := r_eq (by rw [J4.1]; exact e57) er
          rw [y, w4]
          by_cases z : k = i.toNatClampNeg
          · rw [z, rI_s]; exact v1
          · rw [rI_o z]
            exact W ro (by rw [J.1]; exact e57) k (by omega)
        · rw [cx]
          refine ⟨ins fr pp v, Kn, fun u => ?_⟩
          rw [Cn u]
          show _ = cn (fun j => hI h4 ro j) u i.toNatClampNeg + if hI h4 ro i.toNatClampNeg = u then 1 else 0
          rw [Ck u, w4, rI_s]
          rw [cn_eq (f := fun j => hI (wI hr ro i.toNatClampNeg v) ro j) (g := fun j => hI hr ro j) i.toNatClampNeg (fun j hj => rI_o (by omega))]
      unfold sX0_read_43 at e
      replace e := br_s e
      rcases e with ⟨c5, e⟩ | ⟨c5, e⟩
      · -- a sixth man
        have c5 := le_i c5
        rw [z5] at c5
        have e5 : i = (5 : Int32) := Int32.toInt_inj.mp (by rw [z5]; omega)
        refine Or.inl (flt e ?_)
        have g0 : sX15_solve_109 F (sX15_solve_54 F g) hr m x1 x2 i v (0 : Int32) = some o' → some ((-200 : Int32) - i, hr) = some o' := fun w => by
          rcases f0 w with w | w
          · exact w.2
          · exact absurd e5 w.1
        replace e' := br_s e'
        rcases e' with ⟨_, e'⟩ | ⟨_, e'⟩
        · replace e' := cl_s e'; obtain ⟨o3, eo3, e'⟩ := e'
          rw [← Option.some.inj eo3] at e'
          dsimp only at e'
          replace e' := br_s e'
          rcases e' with ⟨_, e'⟩ | ⟨_, e'⟩
          · exact f1 e'
          · exact g0 e'
        · exact g0 e'
      have c5 := nle_i c5
      rw [z5] at c5
      have n5 : ¬ i = (5 : Int32) := fun z => by rw [z, z5] at c5; omega
      have g0 : sX15_solve_109 F (sX15_solve_54 F g) hr m x1 x2 i v (0 : Int32) = some o' → sX15_solve_138 F (sX15_solve_54 F g) hr m x1 i v ((v - (1 : Int32)) >>> ((1 : Int32) &&& 31)) x2 = some o' := fun w => by
        rcases f0 w with w | w
        · exact absurd w.1 n5
        · exact w.2
      replace e := br_s e
      rcases e with ⟨n, _⟩ | ⟨_, e⟩
      · rw [← Int32.toInt_inj, tv, zm] at n
        omega
      replace e := cl_s e; obtain ⟨r9, p, e⟩ := e
      rw [r_eq ex p] at e
      replace e := br_s e
      replace e' := br_s e'
      rcases e with ⟨b, e⟩ | ⟨b, e⟩
      · -- a royal man
        rcases e' with ⟨_, e'⟩ | ⟨n, _⟩
        rotate_left
        · exact absurd b n
        replace e' := cl_s e'; obtain ⟨o3, eo3, e'⟩ := e'
        rw [← Option.some.inj eo3] at e'
        dsimp only at e'
        replace e := br_s e
        replace e' := br_s e'
        rcases e with ⟨d, e⟩ | ⟨d, e⟩
        · rcases e' with ⟨n, _⟩ | ⟨_, e'⟩
          · rw [n] at d; exact absurd d (by decide)
          replace e' := g0 e'
          unfold sX15_solve_138 sX15_sideOf sX15_solve_154 at e'
          replace e' := cl_s e'; obtain ⟨u2, p, e'⟩ := e'
          rw [r_eq em p, ← royq] at e'
          replace e' := br_s e'
          rcases e' with ⟨_, e'⟩ | ⟨n, _⟩
          rotate_left
          · exact absurd b n
          replace e' := cl_s e'; obtain ⟨o4, eo4, e'⟩ := e'
          rw [← Option.some.inj eo4] at e'
          dsimp only at e'
          replace e := nm_s e; obtain ⟨y12, w12, e⟩ := e
          exact nxt (by omega) w12.symm e e'
        · rcases e' with ⟨_, e'⟩ | ⟨n, _⟩
          · exact Or.inl (flt e (f1 e'))
          · rcases b01 (x2 >>> (((v - (1 : Int32)) &&& (1 : Int32)) &&& 31)) with z | z
            · exact absurd z d
            · exact absurd z n
      rcases e' with ⟨n, _⟩ | ⟨_, e'⟩
      · exact absurd n b
      replace e' := g0 e'
      unfold sX15_solve_138 sX15_sideOf sX15_solve_154 at e'
      replace e' := cl_s e'; obtain ⟨u2, p, e'⟩ := e'
      rw [r_eq em p, ← royq] at e'
      replace e' := br_s e'
      rcases e' with ⟨n, _⟩ | ⟨_, e'⟩
      · exact absurd n b
      exact nxt (by omega) Int32.or_zero e e'
end
