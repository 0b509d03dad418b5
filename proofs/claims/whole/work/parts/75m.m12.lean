section
/-! addAll by its equation -/
section
variable {ρ : Nat → Nat} {c : Cm} {x0 rm re rb rk rs ro R Bc Bm F : Nat} {h0 : Hp}
theorem all_q (hF : 700000 ≤ F) (hA : pmA c seL) (Q : SlR ρ x0 rm re rb rk rs ro h0) (T : TH ρ c h0) (P : SE x0 h0) (eR : hR h0 x0 4 = some R) (eBc : hR h0 R 13 = some Bc) (eBm : hR h0 R 14 = some Bm) {o : Int32 × Hp} (e : sX15_addAll F h0 x0 = some o) (nz : ¬ o.1 = 0) : Mo ρ x0 rm re rk rs h0 o.2 ∧ ∀ k : Nat, (k : Int) < (hI o.2 x0 49).toInt → ∀ i, i < (hI o.2 rm k).toNatClampNeg → CL re rm R Bc Bm rs rk o.2 k i 9 := by
  have Q' := Q
  obtain ⟨⟨r0, qm, qe, qb, qk, qs, qo⟩, ⟨e46, e47, e48, e55, e56, e57⟩⟩ := Q'
  have qR : ρ R = 15 := rr T (thR T r0 (i := 4) (k2 := 15) rfl (by decide)) eR
  have qBc : ρ Bc = 80 := rr T (thR T qR (i := 13) (k2 := 80) rfl (by decide)) eBc
  have qBm : ρ Bm = 81 := rr T (thR T qR (i := 14) (k2 := 81) rfl (by decide)) eBm
  have nom : ¬ rm = ro := fun w => absurd (w ▸ qm) (by rw [qo]; decide)
  have noe : ¬ re = ro := fun w => absurd (w ▸ qe) (by rw [qo]; decide)
  have nox : ¬ x0 = ro := fun w => absurd (w ▸ r0) (by rw [qo]; decide)
  have noR : ¬ R = ro := fun w => absurd (w ▸ qR) (by rw [qo]; decide)
  have noBc : ¬ Bc = ro := fun w => absurd (w ▸ qBc) (by rw [qo]; decide)
  have noBm : ¬ Bm = ro := fun w => absurd (w ▸ qBm) (by rw [qo]; decide)
  have z0 : (0 : Int32).toInt = 0 := rfl
  have m5 : ∀ {g : Hp}, TH ρ c g → ∀ k, (hI g rm k).toNatClampNeg ≤ 5 := fun Tg k => by
    have i := thI Tg qm (k := 99) (i := k) (lo := 0) (hi := 5) rfl
    have := clamp_i i.1
    have := i.2
    omega
  have mr : ∀ {g : Hp}, Mo ρ x0 rm re rk rs g g := ⟨fun _ _ => rfl, fun _ => rfl, fun _ _ _ _ _ => rfl, fun _ w => w, Int.le_refl _, fun _ _ => ⟨rfl, fun _ _ => rfl⟩, fun k l1 l2 => absurd l2 (by omega)⟩
  have l2 : ∀ (f : Nat) {g : Hp} {x1 : Int32}, TH ρ c g → SE x0 g → Mo ρ x0 rm re rk rs h0 g → 0 ≤ x1.toInt → (∀ k : Nat, (k : Int) < x1.toInt → (k : Int) < (hI g x0 49).toInt → ∀ i, i < (hI g rm k).toNatClampNeg → CL re rm R Bc Bm rs rk g k i 9) → sX15_addAll_2 F f g x0 x1 = some o → Mo ρ x0 rm re rk rs h0 o.2 ∧ ∀ k : Nat, (k : Int) < (hI o.2 x0 49).toInt → ∀ i, i < (hI o.2 rm k).toNatClampNeg → CL re rm R Bc Bm rs rk o.2 k i 9 := by
    intro f
    induction f with
    | zero => intro g x1 _ _ _ _ _ e; exact absurd e (by simp [sX15_addAll_2])
    | succ f ih =>
      intro g x1 Tg Pg M a1 K e
      unfold sX15_addAll_2 at e
      replace e := br_s e; rcases e with ⟨cc, e⟩ | ⟨cc, e⟩
      · have cc := le_i cc
        have e := Option.some.inj e; subst e
        exact ⟨M, fun k hk i hi => K k (by have hk : (k : Int) < (hI g x0 49).toInt := hk; omega) hk i hi⟩
      have l1 := nle_i cc
      clear cc
      have s4 := (thI Tg r0 (k := 16) (i := 49) (lo := 0) (hi := 4096) rfl).2
      have i1 : Rg 0 4095 x1 := ⟨a1, by omega⟩
      have c1 := clamp_i a1
      -- the men of one set
      have l12 : ∀ (ff : Nat) {g : Hp} {x2 : Int32}, TH ρ c g → SE x0 g → Mo ρ x0 rm re rk rs h0 g → x1.toInt < (hI g x0 49).toInt → 0 ≤ x2.toInt → (∀ k : Nat, (k : Int) < x1.toInt → (k : Int) < (hI g x0 49).toInt → ∀ i, i < (hI g rm k).toNatClampNeg → CL re rm R Bc Bm rs rk g k i 9) → (∀ i : Nat, (i : Int) < x2.toInt → i < (hI g rm x1.toNatClampNeg).toNatClampNeg → CL re rm R Bc Bm rs rk g x1.toNatClampNeg i 9) → sX15_addAll_12 F (sX15_addAll_2 F f) ff g x0 x1 x2 = some o → Mo ρ x0 rm re rk rs h0 o.2 ∧ ∀ k : Nat, (k : Int) < (hI o.2 x0 49).toInt → ∀ i, i < (hI o.2 rm k).toNatClampNeg → CL re rm R Bc Bm rs rk o.2 k i 9 := by
        intro ff
        induction ff with
        | zero => intro g x2 _ _ _ _ _ _ _ eB; exact absurd eB (by simp [sX15_addAll_12])
        | succ ff ih2 =>
          intro g x2 Tg Pg M l1 a2 K K2 eB
          unfold sX15_addAll_12 sX15_addAll_58 at eB
          simp only [nm] at eB
          have c2 := clamp_i a2
          replace eB := cl_s eB; obtain ⟨r1, p, eB⟩ := eB
          rw [M.1] at p
          have := r_eq e46 p; subst this
          replace eB := (gd_s eB).2
          have im := thI Tg qm (k := 99) (i := x1.toNatClampNeg) (lo := 0) (hi := 5) rfl
          have cm := clamp_i im.1
          have bm5 := im.2
          replace eB := br_s eB; rcases eB with ⟨cc, eB⟩ | ⟨cc, eB⟩
          · have cc := le_i cc
            have ny := nc_s i1 (by decide)
            refine ih Tg Pg M (by omega) (fun k hk hs i hi => ?_) eB
            by_cases w : (k : Int) < x1.toInt
            · exact K k w hs i hi
            · have : k = x1.toNatClampNeg := by omega
              subst this
              exact K2 i (by omega) hi
          have l2 := nle_i cc
          clear cc
          have i2 : Rg 0 4 x2 := ⟨a2, by omega⟩
          have ix := (ix5 (x1 := x1) (x4 := x2) i1 i2).2
          replace eB := cl_s eB; obtain ⟨r5, p, eB⟩ := eB
          rw [M.1] at p
          have := r_eq e47 p; subst this
          replace eB := (gd_s eB).2
          rw [ix] at eB
          replace eB := cl_s eB; obtain ⟨o8, e8, eB⟩ := eB
          unfold sX15_manOf at e8
          have := Option.some.inj e8; subst this
          dsimp only at eB
          replace eB := cl_s eB; obtain ⟨r9, p, eB⟩ := eB
          rw [M.1] at p
          have := r_eq eR p; subst this
          have hi2 : x2.toNatClampNeg < (hI g r1 x1.toNatClampNeg).toNatClampNeg := by omega
          -- the men that it becomes
          have l61 : ∀ (f3 : Nat) {g : Hp} {x4 : Int32}, TH ρ c g → SE x0 g → Mo ρ x0 r1 r5 rk rs h0 g → x1.toInt < (hI g x0 49).toInt → (x2.toInt < (hI g r1 x1.toNatClampNeg).toInt) → 0 ≤ x4.toInt → (∀ k : Nat, (k : Int) < x1.toInt → (k : Int) < (hI g x0 49).toInt → ∀ i, i < (hI g r1 k).toNatClampNeg → CL r5 r1 r9 Bc Bm rs rk g k i 9) → (∀ i : Nat, (i : Int) < x2.toInt → i < (hI g r1 x1.toNatClampNeg).toNatClampNeg → CL r5 r1 r9 Bc Bm rs rk g x1.toNatClampNeg i 9) → CL r5 r1 r9 Bc Bm rs rk g x1.toNatClampNeg x2.toNatClampNeg x4.toInt → sX15_addAll_61 F (sX15_addAll_2 F f) (sX15_addAll_12 F (sX15_addAll_2 F f) ff) f3 g x0 x1 x2 (hI g r5 (5 * x1.toNatClampNeg + x2.toNatClampNeg)) x4 = some o → Mo ρ x0 r1 r5 rk rs h0 o.2 ∧ ∀ k : Nat, (k : Int) < (hI o.2 x0 49).toInt → ∀ i, i < (hI o.2 r1 k).toNatClampNeg → CL r5 r1 r9 Bc Bm rs rk o.2 k i 9 := by
            intro f3
            induction f3 with
            | zero => intro g x4 _ _ _ _ _ _ _ _ _ eC; exact absurd eC (by simp [sX15_addAll_61])
            | succ f3 ih3 =>
              intro g x4 Tg Pg M l1 l2 a4 K K2 K3 eC
              unfold sX15_addAll_61 at eC
              simp only [nm] at eC
              replace eC := cl_s eC; obtain ⟨r1', p, eC⟩ := eC
              rw [M.1] at p
              have := r_eq eR p; subst this
              replace eC := cl_s eC; obtain ⟨r2, p, eC⟩ := eC
              rw [M.1] at p
              have := r_eq eBm p; subst this
              replace eC := cl_s eC; obtain ⟨o3, e3, eC⟩ := eC
              unfold sX15_manOf at e3
              have := Option.some.inj e3; subst this
              dsimp only at eC
              replace eC := (gd_s eC).2
              have b6 := (thI Tg qBm (k := 81) (i := ((hI g r5 (5 * x1.toNatClampNeg + x2.toNatClampNeg) - (1 : Int32)) >>> ((1 : Int32) &&& 31)).toNatClampNeg) (lo := 0) (hi := 6) rfl).2
              have ny2 := nc_s i2 (by decide)
              replace eC := br_s eC; rcases eC with ⟨cc, eC⟩ | ⟨cc, eC⟩
              · have cc := le_i cc
                refine ih2 Tg Pg M l1 (by omega) K (fun i hi hm => ?_) eC
                by_cases w : (i : Int) < x2.toInt
                · exact K2 i w hm
                · have : i = x2.toNatClampNeg := by omega
                  subst this
                  exact ⟨K3.1, fun j j0 jn jl => K3.2 j j0 (by omega) jl⟩
              have l4 := nle_i cc
              clear cc
              have i4 : Rg 0 5 x4 := ⟨a4, by omega⟩
              have im := thI Tg qm (k := 99) (i := x1.toNatClampNeg) (lo := 0) (hi := 5) rfl
              have cm := clamp_i im.1
              have bm5 := im.2
              have iv0 := thI Tg qe (k := 100) (i := 5 * x1.toNatClampNeg + x2.toNatClampNeg) (lo := 0) (hi := 24) rfl
              have pos0 : 1 ≤ (hI g r5 (5 * x1.toNatClampNeg + x2.toNatClampNeg)).toInt := Pg.2.2.2.2.1 r1 r5 (by rw [M.1]; exact e46) (by rw [M.1]; exact e47) x1.toNatClampNeg (by omega) x2.toNatClampNeg (by omega)
              -- the row is copied
              have l81 : ∀ (f4 : Nat) {g2 : Hp} {x5 : Int32}, TH ρ c g2 → SE x0 g2 → Mo ρ x0 r1 r5 rk rs g g2 → (∀ a i, ¬ a = ro → hI g2 a i = hI g a i) → 0 ≤ x5.toInt → x5.toInt ≤ (hI g r1 x1.toNatClampNeg).toInt → RW x0 x5.toInt g2 → (∀ p : Nat, (p : Int) < x5.toInt → hI g2 ro p = hI g r5 (5 * x1.toNatClampNeg + p)) → sX15_addAll_81 F (sX15_addAll_2 F f) (sX15_addAll_12 F (sX15_addAll_2 F f) ff) (sX15_addAll_61 F (sX15_addAll_2 F f) (sX15_addAll_12 F (sX15_addAll_2 F f) ff) f3) f4 g2 x0 x1 x2 (hI g r5 (5 * x1.toNatClampNeg + x2.toNatClampNeg)) x4 x5 = some o → Mo ρ x0 r1 r5 rk rs h0 o.2 ∧ ∀ k : Nat, (k : Int) < (hI o.2 x0 49).toInt → ∀ i, i < (hI o.2 r1 k).toNatClampNeg → CL r5 r1 r1' Bc r2 rs rk o.2 k i 9 := by
                intro f4
                induction f4 with
                | zero => intro g2 x5 _ _ _ _ _ _ _ _ eD; exact absurd eD (by simp [sX15_addAll_81])
                | succ f4 ih4 =>
                  intro g2 x5 T2 P2 M2 kI a5 b5 W rows eD
                  have hR2 : ∀ a i, hR g2 a i = hR h0 a i := fun a i => (M2.1 a i).trans (M.1 a i)
                  unfold sX15_addAll_81 at eD
                  simp only [nm] at eD
                  have c5 := clamp_i a5
                  replace eD := cl_s eD; obtain ⟨q1, p, eD⟩ := eD
                  rw [hR2] at p
                  have := r_eq e46 p; subst this
                  replace eD := (gd_s eD).2
                  have km : hI g2 q1 x1.toNatClampNeg = hI g q1 x1.toNatClampNeg := kI q1 _ nom
                  rw [km] at eD
                  replace eD := br_s eD; rcases eD with ⟨cc, eD⟩ | ⟨cc, eD⟩
                  · have cc := le_i cc
                    replace eD := cl_s eD; obtain ⟨q4, p, eD⟩ := eD
                    rw [hR2] at p
                    have := r_eq e57 p; subst this
                    replace eD := cl_s eD; obtain ⟨q5, p, eD⟩ := eD
                    rw [hR2] at p
                    have := r_eq eR p; subst this
                    replace eD := cl_s eD; obtain ⟨q6, p, eD⟩ := eD
                    rw [hR2] at p
                    have := r_eq eBc p; subst this
                    replace eD := cl_s eD; obtain ⟨o7, e7, eD⟩ := eD
                    unfold sX15_manOf at e7
                    have := Option.some.inj e7; subst this
                    dsimp only at eD
                    replace eD := (gd_s eD).2
                    replace eD := cl_s eD; obtain ⟨o9, e9, eD⟩ := eD
                    unfold sX15_sideOf at e9
                    have := Option.some.inj e9; subst this
                    dsimp only at eD
                    replace eD := cl_s eD; obtain ⟨o10, e10, eD⟩ := eD
                    unfold sX15_valueOf at e10
                    have := Option.some.inj e10; subst this
                    dsimp only at eD
                    rw [kI q6 _ noBc] at eD
                    replace eD := (gd_s eD).2
                    have iv := val_r (thI Tg qBc (k := 80) (i := (((6 : Int32) * ((hI g r5 (5 * x1.toNatClampNeg + x2.toNatClampNeg) - (1 : Int32)) >>> ((1 : Int32) &&& 31))) + x4).toNatClampNeg) (lo := 0) (hi := 11) rfl) (side_r (x := hI g r5 (5 * x1.toNatClampNeg + x2.toNatClampNeg) - (1 : Int32)))
                    generalize hvv : (((1 : Int32) + ((2 : Int32) * (hI g q6 (((6 : Int32) * ((hI g r5 (5 * x1.toNatClampNeg + x2.toNatClampNeg) - (1 : Int32)) >>> ((1 : Int32) &&& 31))) + x4).toNatClampNeg))) + ((hI g r5 (5 * x1.toNatClampNeg + x2.toNatClampNeg) - (1 : Int32)) &&& (1 : Int32))) = vv at eD iv
                    have T12 : TH ρ c (wI g2 q4 x2.toNatClampNeg vv) := th_wI T2 qo (k := 108) (lo := 0) (hi := 24) rfl (rg_m iv (by decide)) (by decide) (by decide) (pm_a hA rfl)
                    obtain ⟨P12, _, W12⟩ := row_w (n := x5.toInt) T2 r0 (by rw [hR2]; exact e57) qo rfl P2 rfl (Or.inl iv.1) W
                    replace eD := cl_s eD; obtain ⟨q13, p, eD⟩ := eD
                    replace p : hR g2 x0 46 = some q13 := p
                    rw [hR2] at p
                    have := r_eq e46 p; subst this
                    replace eD := (gd_s eD).2
                    have km2 : hI (wI g2 q4 x2.toNatClampNeg vv) q13 x1.toNatClampNeg = hI g q13 x1.toNatClampNeg := by rw [r_I, if_neg (fun w => nom w.1)]; exact km
                    rw [km2] at eD
                    replace eD := cl_s eD; obtain ⟨o15, e15, eD⟩ := eD
                    have M12 : Mo ρ x0 q13 r5 rk rs g (wI g2 q4 x2.toNatClampNeg vv) := mo_t (m5 T2) M2 (mo_w qs qk qo qm qe r0)
                    have Q12 := slr_mo (slr_mo Q M) M12
                    have e5 : x5.toInt = (hI g q13 x1.toNatClampNeg).toInt := by omega
                    rw [e5] at W12
                    obtain ⟨⟨t1, t2⟩, u⟩ := ads_t hF hA Q12 T12 P12 im W12 e15
                    replace eD := br_s eD; rcases eD with ⟨_, eD⟩ | ⟨nz15, eD⟩
                    · rw [← Option.some.inj eD] at nz; exact absurd rfl nz
                    obtain ⟨u1, f, f1, f2, f3'⟩ := u nz15
                    have MM : Mo ρ x0 q13 r5 rk rs g o15.2 := mo_t (m5 T12) M12 u1
                    have ny := nc_s i4 (by decide)
                    have k1 : hI o15.2 q13 x1.toNatClampNeg = hI g q13 x1.toNatClampNeg := (MM.2.2.2.2.2.1 x1.toNatClampNeg (by omega)).1
                    have k2 : ∀ i, i < 5 → hI o15.2 r5 (5 * x1.toNatClampNeg + i) = hI g r5 (5 * x1.toNatClampNeg + i) := (MM.2.2.2.2.2.1 x1.toNatClampNeg (by omega)).2
                    rw [← k2 x2.toNatClampNeg (by omega)] at eD
                    refine ih3 t1 t2 (mo_t (m5 Tg) M MM) (by have := MM.2.2.2.2.1; omega) (by rw [k1]; exact l2) (by omega) (fun k hk hs i hi => ?_) (fun i hi hm => ?_) ?_ eD
                    · have hk' : (k : Int) < (hI g x0 49).toInt := by omega
                      rw [(MM.2.2.2.2.2.1 k hk').1] at hi
                      exact cl_mono qR qBc qBm r0 (m5 Tg) MM hk' hi (K k hk hk' i hi)
                    · rw [k1] at hm
                      exact cl_mono qR qBc qBm r0 (m5 Tg) MM (by omega) hm (K2 i hi hm)
                    · have K3' := cl_mono qR qBc qBm r0 (m5 Tg) MM (by omega) (by omega) K3
                      refine ⟨K3'.1, fun j j0 jn jl => ?_⟩
                      by_cases w : j.toInt < x4.toInt
                      · exact K3'.2 j j0 w jl
                      · have : j = x4 := Int32.toInt_inj.mp (by omega)
                        subst this
                        rw [k1, k2 _ (by omega), MM.2.2.1 q6 _ (by rw [qBc]; decide) (by rw [qBc]; decide) (fun w => absurd (w.1 ▸ qBc) (by rw [r0]; decide)), hvv]
                        refine ⟨f, f1, fun v => ?_, f3'⟩
                        rw [f2 v]
                        refine cn_eq _ (fun p hp => ?_)
                        show hI (wI g2 q4 x2.toNatClampNeg vv) q4 p = up (fun p => hI o15.2 r5 (5 * x1.toNatClampNeg + p)) x2.toNatClampNeg vv p
                        unfold up
                        rw [r_I]
                        by_cases w2 : p = x2.toNatClampNeg
                        · rw [if_pos ⟨rfl, w2⟩, if_pos w2]
                        · rw [if_neg (fun z => w2 z.2), if_neg w2]
                          exact (rows p (by omega)).trans (k2 p (by omega)).symm
                  · have cc := nle_i cc
                    replace eD := cl_s eD; obtain ⟨q18, p, eD⟩ := eD
                    rw [hR2] at p
                    have := r_eq e57 p; subst this
                    replace eD := cl_s eD; obtain ⟨q19, p, eD⟩ := eD
                    rw [hR2] at p
                    have := r_eq e47 p; subst this
                    replace eD := (gd_s eD).2
                    replace eD := (gd_s eD).2
                    have i5 : Rg 0 4 x5 := ⟨a5, by omega⟩
                    have ix := (ix5 (x1 := x1) (x4 := x5) i1 i5).2
                    rw [ix, kI q19 _ noe] at eD
                    have ny := nc_s i5 (by decide)
                    have iv := thI Tg qe (k := 100) (i := 5 * x1.toNatClampNeg + x5.toNatClampNeg) (lo := 0) (hi := 24) rfl
                    have pos : 1 ≤ (hI g q19 (5 * x1.toNatClampNeg + x5.toNatClampNeg)).toInt := Pg.2.2.2.2.1 q1 q19 (by rw [M.1]; exact e46) (by rw [M.1]; exact e47) x1.toNatClampNeg (by omega) x5.toNatClampNeg (by omega)
                    have T3 : TH ρ c (wI g2 q18 x5.toNatClampNeg (hI g q19 (5 * x1.toNatClampNeg + x5.toNatClampNeg))) := th_wI T2 qo (k := 108) (lo := 0) (hi := 24) rfl iv (by decide) (by decide) (pm_a hA rfl)
                    obtain ⟨P3, _, _⟩ := row_w (n := x5.toInt) T2 r0 (by rw [hR2]; exact e57) qo rfl P2 rfl (Or.inl pos) W
                    refine ih4 T3 P3 (mo_t (m5 T2) M2 (mo_w qs qk qo qm qe r0)) (fun a i na => by rw [r_I, if_neg (fun w => na w.1)]; exact kI a i na) (by omega) (by omega) ?_ (fun p hp => ?_) eD
                    · intro ro' er i hi
                      replace er : hR g2 x0 57 = some ro' := er
                      rw [hR2] at er
                      have := r_eq e57 er; subst this
                      rw [r_I]
                      by_cases w : i = x5.toNatClampNeg
                      · rw [if_pos ⟨rfl, w⟩]; exact pos
                      · rw [if_neg (fun z => w z.2)]
                        exact W ro' (by rw [hR2]; exact e57) i (by omega)
                    · rw [r_I]
                      by_cases w : p = x5.toNatClampNeg
                      · rw [if_pos ⟨rfl, w⟩, w]
                      · rw [if_neg (fun z => w z.2)]
                        exact rows p (by omega)
              exact l81 F Tg Pg mr (fun _ _ _ => rfl) (by decide) (by rw [z0]; exact im.1) (fun _ _ i hi => absurd hi (by rw [z0]; omega)) (fun p hp => absurd hp (by rw [z0]; omega)) eC
          replace eB := br_s eB; rcases eB with ⟨cr, eB⟩ | ⟨cr, eB⟩
          · exact l61 F Tg Pg M l1 l2 (by decide) K K2 ⟨fun w => absurd cr w, fun j j0 jn => absurd jn (by rw [z0]; omega)⟩ eB
          · replace eB := cl_s eB; obtain ⟨o11, e11, eB⟩ := eB
            obtain ⟨⟨t1, t2⟩, u⟩ := cwo_q hF hA (slr_mo Q M) Tg Pg i1 l1 a2 l2 e11
            replace eB := br_s eB; rcases eB with ⟨_, eB⟩ | ⟨nz11, eB⟩
            · rw [← Option.some.inj eB] at nz; exact absurd rfl nz
            obtain ⟨u1, u2⟩ := u nz11
            have k1 : hI o11.2 r1 x1.toNatClampNeg = hI g r1 x1.toNatClampNeg := (u1.2.2.2.2.2.1 x1.toNatClampNeg (by omega)).1
            have k2 : ∀ i, i < 5 → hI o11.2 r5 (5 * x1.toNatClampNeg + i) = hI g r5 (5 * x1.toNatClampNeg + i) := (u1.2.2.2.2.2.1 x1.toNatClampNeg (by omega)).2
            rw [← k2 x2.toNatClampNeg (by omega)] at eB
            refine l61 F t1 t2 (mo_t (m5 Tg) M u1) (by have := u1.2.2.2.2.1; omega) (by rw [k1]; exact l2) (by decide) (fun k hk hs i hi => ?_) (fun i hi hm => ?_) ⟨fun _ => ?_, fun j j0 jn => absurd jn (by rw [z0]; omega)⟩ eB
            · have hk' : (k : Int) < (hI g x0 49).toInt := by omega
              rw [(u1.2.2.2.2.2.1 k hk').1] at hi
              exact cl_mono qR qBc qBm r0 (m5 Tg) u1 hk' hi (K k hk hk' i hi)
            · rw [k1] at hm
              exact cl_mono qR qBc qBm r0 (m5 Tg) u1 (by omega) hm (K2 i hi hm)
            · rw [k1]
              obtain ⟨f, f1, f2, f3⟩ := u2
              refine ⟨f, f1, fun v => ?_, f3⟩
              rw [f2 v]
              refine cn_eq _ (fun p hp => ?_)
              unfold sk
              split
              · exact (k2 p (by omega)).symm
              · exact (k2 (p + 1) (by omega)).symm
      exact l12 F Tg Pg M l1 (by decide) K (fun i hi => absurd hi (by rw [z0]; omega)) e
  unfold sX15_addAll at e
  exact l2 F T P mr (by decide) (fun k hk => absurd hk (by rw [z0]; omega)) e
end
end
section
/-! stateOf and stateBehind by their equations -/
/-- but for the rows of men and places, all is as it was -/
def Jp (ro rp : Nat) (h g : Hp) : Prop := (∀ a i, hR g a i = hR h a i) ∧ (∀ a, hN g a = hN h a) ∧ (∀ a i, hJ g a i = hJ h a i) ∧ ∀ a i, ¬ a = ro → ¬ a = rp → hI g a i = hI h a i
section
variable {ρ : Nat → Nat} {c : Cm} {x0 rm re rb rk rs ro rp F : Nat} {h0 h g : Hp} {n sd : Int32}
theorem jp_r : Jp ro rp h h := ⟨fun _ _ => rfl, fun _ => rfl, fun _ _ => rfl, fun _ _ _ _ => rfl⟩
theorem jp_w {a j : Nat} {v : Int32} (A : Jp ro rp h g) (w : a = ro ∨ a = rp) : Jp ro rp h (wI g a j v) := ⟨A.1, A.2.1, A.2.2.1, fun b i n1 n2 => by
  rw [r_I, if_neg (fun z => w.elim (fun w => n1 (z.1.trans w)) (fun w => n2 (z.1.trans w)))]
  exact A.2.2.2 b i n1 n2⟩
theorem find_fr {a : Nat} {n : Int32} {o : Int32 × Hp} (e : sX15_findSet F g x0 a n = some o) : o.2 = g := by
  have pk : ∀ (f : Nat) {x2 x3 : Int32} {o : Int32 × Hp}, sX15_packed_4 F f g a n x2 x3 = some o → o.2 = g := by
    intro f
    induction f with
    | zero => intro x2 x3 o e; exact absurd e (by simp [sX15_packed_4])
    | succ f ih =>
      intro x2 x3 o e
      unfold sX15_packed_4 at e
      simp only [nm] at e
      replace e := br_s e; rcases e with ⟨_, e⟩ | ⟨_, e⟩
      · rw [← Option.some.inj e]
      · exact ih (gd_s e).2
  have sl : ∀ (f : Nat) {x1 x2 : Int32} {o : Int32 × Hp}, sX15_slotOf_14 F f g x0 x1 x2 = some o → o.2 = g := by
    intro f
    induction f with
    | zero => intro x1 x2 o e; exact absurd e (by simp [sX15_slotOf_14])
    | succ f ih =>
      intro x1 x2 o e
      unfold sX15_slotOf_14 sX15_slotOf_44 at e
      simp only [nm] at e
      replace e := cl_s e; obtain ⟨_, _, e⟩ := e
      replace e := (gd_s e).2
      replace e := br_s e; rcases e with ⟨_, e⟩ | ⟨_, e⟩
      · rw [← Option.some.inj e]
      replace e := cl_s e; obtain ⟨_, _, e⟩ := e
      replace e := (gd_s e).2
      replace e := br_s e; rcases e with ⟨_, e⟩ | ⟨_, e⟩
      · rw [← Option.some.inj e]
      · exact ih e
  unfold sX15_findSet at e
  replace e := cl_s e; obtain ⟨_, _, e⟩ := e
  replace e := cl_s e; obtain ⟨o2, e2, e⟩ := e
  unfold sX15_packed at e2
  rw [pk F e2] at e
  replace e := cl_s e; obtain ⟨o3, e3, e⟩ := e
  unfold sX15_slotOf at e3
  simp only [nm] at e3
  rw [sl F e3] at e
  rw [← Option.some.inj (gd_s e).2]
theorem sto_q (e57 : hR h0 x0 57 = some ro) (e58 : hR h0 x0 58 = some rp) (nop : ¬ ro = rp) (i1 : Rg 0 5 n) {o : Int32 × Hp} (e : sX15_stateOf F h0 x0 n sd = some o) : Jp ro rp h0 o.2 ∧ Sd (fun i => hI o.2 ro i) n.toNatClampNeg ∧ ∀ v, cn (fun i => hI o.2 ro i) v n.toNatClampNeg = cn (fun i => hI h0 ro i) v n.toNatClampNeg := by
  have z0 : (0 : Int32).toInt = 0 := rfl
  have nn := clamp_i i1.1
  have n5 := i1.2
  have b160 : ∀ (f : Nat) {g : Hp} {x3 x4 x5 : Int32}, sX15_stateOf_160 F f g x0 sd x3 x4 x5 = some o → o.2 = g := by
    intro f
    induction f with
    | zero => intro g x3 x4 x5 e; exact absurd e (by simp [sX15_stateOf_160])
    | succ f ih =>
      intro g x3 x4 x5 e
      unfold sX15_stateOf_160 at e
      simp only [nm] at e
      replace e := br_s e; rcases e with ⟨_, e⟩ | ⟨_, e⟩
      · replace e := cl_s e; obtain ⟨_, _, e⟩ := e
        rw [← Option.some.inj (gd_s e).2]
      · replace e := cl_s e; obtain ⟨_, _, e⟩ := e
        exact ih (gd_s e).2
  have rowp : ∀ {g : Hp} {j : Nat} {v : Int32}, (fun i => hI (wI g rp j v) ro i) = fun i => hI g ro i := fun {g j v} => by
    funext i
    rw [r_I, if_neg (fun w => nop w.1)]
  have b2 : ∀ (f : Nat) {g : Hp} {x2 : Int32}, Jp ro rp h0 g → 1 ≤ x2.toInt → x2.toInt ≤ 5 → Sd (fun i => hI g ro i) x2.toNatClampNeg → (∀ v, cn (fun i => hI g ro i) v n.toNatClampNeg = cn (fun i => hI h0 ro i) v n.toNatClampNeg) → sX15_stateOf_2 F f g x0 n sd x2 = some o → Jp ro rp h0 o.2 ∧ Sd (fun i => hI o.2 ro i) n.toNatClampNeg ∧ ∀ v, cn (fun i => hI o.2 ro i) v n.toNatClampNeg = cn (fun i => hI h0 ro i) v n.toNatClampNeg := by
    intro f
    induction f with
    | zero => intro g x2 _ _ _ _ _ e; exact absurd e (by simp [sX15_stateOf_2])
    | succ f ih =>
      intro g x2 jo a2 b2 S C e
      unfold sX15_stateOf_2 at e
      simp only [nm] at e
      have c2 := clamp_i (v := x2) (by omega)
      replace e := br_s e; rcases e with ⟨cc, e⟩ | ⟨cc, e⟩
      · have cc := le_i cc
        have S2 : Sd (fun i => hI g ro i) n.toNatClampNeg := fun i j l1 l2 => S i j l1 (by omega)
        replace e := cl_s e; obtain ⟨r2, p, e⟩ := e
        replace e := cl_s e; obtain ⟨o3, e3, e⟩ := e
        have h3 : o3.2 = g := find_fr e3
        rw [h3] at e
        have og : o.2 = g := by
          replace e := br_s e; rcases e with ⟨_, e⟩ | ⟨_, e⟩
          · rw [← Option.some.inj e]
          · exact b160 F e
        rw [og]
        exact ⟨jo, S2, C⟩
      · have cc := nle_i cc
        replace e := cl_s e; obtain ⟨r5, p, e⟩ := e
        rw [jo.1] at p
        have := r_eq e57 p; subst this
        replace e := (gd_s e).2
        replace e := cl_s e; obtain ⟨r9, p, e⟩ := e
        rw [jo.1] at p
        have := r_eq e58 p; subst this
        replace e := (gd_s e).2
        generalize hv : hI g r5 x2.toNatClampNeg = v at e
        generalize hI g r9 x2.toNatClampNeg = s at e
        have inn : ∀ (ff : Nat) {g : Hp} {x4 : Int32}, Jp r5 r9 h0 g → 0 ≤ x4.toInt → x4.toInt ≤ x2.toInt → In (fun i => hI g r5 i) v x2.toNatClampNeg x4.toNatClampNeg → (∀ w, cn (up (fun i => hI g r5 i) x4.toNatClampNeg v) w n.toNatClampNeg = cn (fun i => hI h0 r5 i) w n.toNatClampNeg) → sX15_stateOf_26 F (sX15_stateOf_2 F f) ff g x0 n sd x2 v s x4 = some o → Jp r5 r9 h0 o.2 ∧ Sd (fun i => hI o.2 r5 i) n.toNatClampNeg ∧ ∀ v, cn (fun i => hI o.2 r5 i) v n.toNatClampNeg = cn (fun i => hI h0 r5 i) v n.toNatClampNeg := by
          intro ff
          induction ff with
          | zero => intro g x4 _ _ _ _ _ eC; exact absurd eC (by simp [sX15_stateOf_26])
          | succ ff ih2 =>
            intro g x4 jo a4 b4 I C eC
            have c4 := clamp_i a4
            have put : (x4.toNatClampNeg = 0 ∨ (hI g r5 (x4.toNatClampNeg - 1)).toInt ≤ v.toInt) → sX15_stateOf_111 F (sX15_stateOf_2 F f) g x0 n sd x2 v s x4 = some o → Jp r5 r9 h0 o.2 ∧ Sd (fun i => hI o.2 r5 i) n.toNatClampNeg ∧ ∀ v, cn (fun i => hI o.2 r5 i) v n.toNatClampNeg = cn (fun i => hI h0 r5 i) v n.toNatClampNeg := by
              intro z eD
              unfold sX15_stateOf_111 at eD
              simp only [nm] at eD
              replace eD := cl_s eD; obtain ⟨r1, p, eD⟩ := eD
              rw [jo.1] at p
              have := r_eq e57 p; subst this
              replace eD := (gd_s eD).2
              replace eD := cl_s eD; obtain ⟨r4, p, eD⟩ := eD
              replace p : hR g x0 58 = some r4 := p
              rw [jo.1] at p
              have := r_eq e58 p; subst this
              replace eD := (gd_s eD).2
              have ny := nc_s (x := x2) (b := 5) ⟨by omega, b2⟩ (by decide)
              refine ih (jp_w (jp_w jo (Or.inl rfl)) (Or.inr rfl)) (by omega) (by omega) ?_ (fun w => ?_) eD
              · rw [rowp, row_up, ny.1]
                exact in_e (by omega) I z
              · rw [rowp, row_up]; exact C w
            have go : 0 < x4.toInt → v.toInt ≤ (hI g r5 (x4.toNatClampNeg - 1)).toInt → sX15_stateOf_73 F (sX15_stateOf_2 F f) (sX15_stateOf_26 F (sX15_stateOf_2 F f) ff) g x0 n sd x2 v s x4 = some o → Jp r5 r9 h0 o.2 ∧ Sd (fun i => hI o.2 r5 i) n.toNatClampNeg ∧ ∀ v, cn (fun i => hI o.2 r5 i) v n.toNatClampNeg = cn (fun i => hI h0 r5 i) v n.toNatClampNeg := by
              intro p4 cl eD
              unfold sX15_stateOf_73 at eD
              simp only [nm] at eD
              have i4 : Rg 1 5 x4 := ⟨by omega, by omega⟩
              have d1 : (x4 - (1 : Int32)).toInt = x4.toInt - 1 := rg_decs i4 (by decide)
              have d1n : (x4 - (1 : Int32)).toNatClampNeg = x4.toNatClampNeg - 1 := by
                have := clamp_i (v := x4 - (1 : Int32)) (by omega)
                omega
              replace eD := cl_s eD; obtain ⟨r2, p, eD⟩ := eD
              rw [jo.1] at p
              have := r_eq e57 p; subst this
              replace eD := cl_s eD; obtain ⟨r2', p, eD⟩ := eD
              rw [jo.1] at p
              have := r_eq e57 p; subst this
              replace eD := (gd_s eD).2
              replace eD := (gd_s eD).2
              replace eD := cl_s eD; obtain ⟨r6, p, eD⟩ := eD
              replace p : hR g x0 58 = some r6 := p
              rw [jo.1] at p
              have := r_eq e58 p; subst this
              replace eD := cl_s eD; obtain ⟨r7, p, eD⟩ := eD
              replace p : hR g x0 58 = some r7 := p
              rw [jo.1] at p
              have := r_eq e58 p; subst this
              replace eD := (gd_s eD).2
              replace eD := (gd_s eD).2
              rw [d1n] at eD
              have d2 : (x4 + (-1 : Int32)).toInt = x4.toInt - 1 := rg_dec i4 (by decide)
              generalize x4 + (-1 : Int32) = y at eD d2
              have cy := clamp_i (v := y) (by omega)
              have ek : x4.toNatClampNeg = y.toNatClampNeg + 1 := by omega
              have ek2 : x4.toNatClampNeg - 1 = y.toNatClampNeg := by omega
              rw [ek2] at eD cl
              rw [ek] at eD I C
              refine ih2 (jp_w (jp_w jo (Or.inl rfl)) (Or.inr rfl)) (by omega) (by omega) ?_ (fun w => ?_) eD
              · rw [rowp, row_up]
                exact in_s (by omega) I cl
              · rw [rowp, row_up]
                rw [cn_swap (f := fun i => hI g r2' i) (by omega)]
                exact C w
            unfold sX15_stateOf_26 at eC
            replace eC := br_s eC; rcases eC with ⟨cz, eC⟩ | ⟨cz, eC⟩
            · have cz := le_i cz
              exact put (Or.inl (by omega)) eC
            have cz := nle_i cz
            have i4 : Rg 1 5 x4 := ⟨by omega, by omega⟩
            have d1 : (x4 - (1 : Int32)).toInt = x4.toInt - 1 := rg_decs i4 (by decide)
            have d1n : (x4 - (1 : Int32)).toNatClampNeg = x4.toNatClampNeg - 1 := by
              have := clamp_i (v := x4 - (1 : Int32)) (by omega)
              omega
            replace eC := cl_s eC; obtain ⟨r2, p, eC⟩ := eC
            rw [jo.1] at p
            have := r_eq e57 p; subst this
            replace eC := (gd_s eC).2
            replace eC := br_s eC; rcases eC with ⟨c1, eC⟩ | ⟨c1, eC⟩
            · rw [d1n] at c1
              exact go cz (Int.le_of_lt (lt_i c1)) eC
            rw [d1n] at c1
            have c1 := nlt_i c1
            replace eC := cl_s eC; obtain ⟨r5', p, eC⟩ := eC
            rw [jo.1] at p
            have := r_eq e57 p; subst this
            replace eC := (gd_s eC).2
            replace eC := br_s eC; rcases eC with ⟨c2, eC⟩ | ⟨c2, eC⟩
            · rw [d1n] at c2
              replace eC := cl_s eC; obtain ⟨r8, p, eC⟩ := eC
              replace eC := (gd_s eC).2
              replace eC := br_s eC; rcases eC with ⟨_, eC⟩ | ⟨_, eC⟩
              · exact put (Or.inr c1) eC
              · exact go cz (by rw [c2]; exact Int.le_refl _) eC
            · exact put (Or.inr c1) eC
        refine inn F jo (by omega) (Int.le_refl _) (by rw [← hv]; exact in_0 S) (fun w => ?_) e
        rw [← C w]
        apply cn_eq
        intro i hi
        unfold up
        split
        · rename_i q; rw [q, hv]
        · rfl
  unfold sX15_stateOf at e
  exact b2 F jp_r (by decide) (by decide) (fun i j l1 l2 => absurd l2 (by show ¬ j < 1; omega)) (fun _ => rfl) e
end
end
section
/-! the state behind a step is found -/
section
variable {ρ : Nat → Nat} {c : Cm} {x0 rm re rb rk rs ro rp rt F : Nat} {h0 : Hp} {x1 x2 x3 x4 x5 : Int32} {q : Nat}
theorem be2_6 (hF : 700000 ≤ F) (hA : pmA c rwpL) (Q : SlR ρ x0 rm re rb rk rs ro h0) (T0 : TH ρ c h0) (e58 : hR h0 x0 58 = some rp) (e61 : hR h0 x0 61 = some rt) (i1 : Rg 0 4095 x1) (i2 : Rg 0 4 x2) (i3 : Rg 0 63 x3) (l3 : x3.toInt < (hI h0 x0 13).toInt) (i4 : Rg 0 24 x4) (i5 : Rg 0 1 x5) (st : ∀ i : Nat, (i : Int) < (hI h0 rm x1.toNatClampNeg).toInt → (hI h0 rt i).toInt < (hI h0 x0 13).toInt)
    (cap : ∀ i : Nat, (i : Int) < (hI h0 rm x1.toNatClampNeg).toInt → ¬ (i : Int) = x2.toInt → (hI h0 rt i = x3 ↔ i = q)) (nq : ¬ (q : Int) = x2.toInt) : ∀ (f : Nat) {h : Hp} {x6 x7 : Int32}, TH ρ c h → SE x0 h → Jp ro rp h0 h → PL x0 x6.toInt h → 0 ≤ x7.toInt → x7.toInt ≤ (hI h0 rm x1.toNatClampNeg).toInt → (x6.toInt = if x7.toInt ≤ (q : Int) then x7.toInt else x7.toInt - 1) → (∀ p : Nat, (p : Int) < x6.toInt → hI h ro p = sk (up (fun p => hI h0 re (5 * x1.toNatClampNeg + p)) x2.toNatClampNeg x4) q p) → (6 - x7.toInt).toNat < f → Sat (sX15_stateBehind_6 F f h x0 x1 x2 x3 x4 x5 x6 x7) (fun o => SQ2 ρ c x0 o ∧ Jp ro rp h0 o.2 ∧ (FdS rs rk h0 (if (q : Int) < (hI h0 rm x1.toNatClampNeg).toInt then (hI h0 rm x1.toNatClampNeg).toNatClampNeg - 1 else (hI h0 rm x1.toNatClampNeg).toNatClampNeg) (fun v => cn (sk (up (fun p => hI h0 re (5 * x1.toNatClampNeg + p)) x2.toNatClampNeg x4) q) v (if (q : Int) < (hI h0 rm x1.toNatClampNeg).toInt then (hI h0 rm x1.toNatClampNeg).toNatClampNeg - 1 else (hI h0 rm x1.toNatClampNeg).toNatClampNeg)) → 0 ≤ o.1.toInt)) := by
  have Q' := Q
  obtain ⟨⟨r0, qm, qe, qb, qk, qs, qo⟩, ⟨e46, e47, e48, e55, e56, e57⟩⟩ := Q'
  have qp : ρ rp = 109 := rr T0 (thR T0 r0 (i := 58) (k2 := 109) rfl (by decide)) e58
  have qt : ρ rt = 110 := rr T0 (thR T0 r0 (i := 61) (k2 := 110) rfl (by decide)) e61
  have nop : ¬ ro = rp := fun w => absurd (w ▸ qo) (by rw [qp]; decide)
  have nn : ∀ {r k : Nat}, ρ r = k → ¬ k = 108 → ¬ k = 109 → ¬ r = ro ∧ ¬ r = rp := fun {r k} e1 n1 n2 => ⟨fun w => n1 (by rw [← e1, w]; exact qo), fun w => n2 (by rw [← e1, w]; exact qp)⟩
  have kk : ∀ {g : Hp} {r k : Nat}, Jp ro rp h0 g → ρ r = k → ¬ k = 108 → ¬ k = 109 → ∀ i, hI g r i = hI h0 r i := fun J e1 n1 n2 i => J.2.2.2 _ i (nn e1 n1 n2).1 (nn e1 n1 n2).2
  have im := thI T0 qm (k := 99) (i := x1.toNatClampNeg) (lo := 0) (hi := 5) rfl
  have cm := clamp_i im.1
  have bm := im.2
  have c2 := clamp_i i2.1
  intro f
  induction f with
  | zero => intros; omega
  | succ f ih =>
    intro h x6 x7 T P J L a7 b7 r6 rows hf
    rw [sX15_stateBehind_6]
    unfold sX15_stateBehind_34
    have c7 := clamp_i a7
    have km := kk J qm (by decide) (by decide) x1.toNatClampNeg
    have a6 : 0 ≤ x6.toInt ∧ x6.toInt ≤ x7.toInt := by rw [r6]; split <;> omega
    have c6 := clamp_i a6.1
    refine s_ref (by rw [J.1]; exact e46) ?_
    refine s_gd (by rw [thN T qm (k := 99) (n := 4096) rfl (by decide)]; exact rg_inB i1 (by decide)) ?_
    rw [km]
    refine s_br (fun l => ?_) (fun n1 => ?_)
    · have l := le_i l
      have e7 : x7.toInt = (hI h0 rm x1.toNatClampNeg).toInt := by omega
      refine s_dd (zX15_stateOf4 hF hA T r0 ⟨a6.1, by omega⟩ (one_sub i5) P L) (fun o e4 w => ?_)
      refine s_some ⟨w.1, ?_, ?_⟩
      · obtain ⟨j1, _, _⟩ := sto_q (ro := ro) (rp := rp) (by rw [J.1]; exact e57) (by rw [J.1]; exact e58) nop ⟨a6.1, by omega⟩ e4
        exact ⟨fun a i => (j1.1 a i).trans (J.1 a i), fun a => (j1.2.1 a).trans (J.2.1 a), fun a i => (j1.2.2.1 a i).trans (J.2.2.1 a i), fun a i n1 n2 => (j1.2.2.2 a i n1 n2).trans (J.2.2.2 a i n1 n2)⟩
      · intro N
        obtain ⟨j1, j2, j3⟩ := sto_q (ro := ro) (rp := rp) (by rw [J.1]; exact e57) (by rw [J.1]; exact e58) nop ⟨a6.1, by omega⟩ e4
        have en : (if (q : Int) < (hI h0 rm x1.toNatClampNeg).toInt then (hI h0 rm x1.toNatClampNeg).toNatClampNeg - 1 else (hI h0 rm x1.toNatClampNeg).toNatClampNeg) = x6.toNatClampNeg := by
          rw [e7] at r6
          split
          · rw [if_neg (by omega)] at r6; omega
          · rw [if_pos (by omega)] at r6; omega
        rw [en] at N
        obtain ⟨fn, f1, f2, f3⟩ := N
        refine Classical.byContradiction fun ng => ?_
        have ng : ¬ 0 ≤ o.1.toInt := ng
        have w1 : -1 ≤ o.1.toInt := w.1.2.1.1
        have om : o.1 = (-1 : Int32) := Int32.toInt_inj.mp (by show o.1.toInt = -1; omega)
        obtain ⟨o3, ro', er', e3, z3⟩ := w.2 om
        rw [j1.1, J.1] at er'
        have := r_eq e57 er'; subst this
        have ks : ∀ j, hI o.2 rs j = hI h0 rs j := fun j => (j1.2.2.2 rs j (nn qs (by decide) (by decide)).1 (nn qs (by decide) (by decide)).2).trans (kk J qs (by decide) (by decide) j)
        have kq : ∀ j, hI o.2 rk j = hI h0 rk j := fun j => (j1.2.2.2 rk j (nn qk (by decide) (by decide)).1 (nn qk (by decide) (by decide)).2).trans (kk J qk (by decide) (by decide) j)
        obtain ⟨_, v, _⟩ := find_q (rs := rs) (rk := rk) hF (by rw [j1.2.1]; exact thN T qo (k := 108) (n := 6) rfl (by decide)) ⟨a6.1, by omega⟩ (fun j => by rw [ks]; have := thI T0 qs (k := 107) (i := j) (lo := 0) (hi := 4096) rfl; exact ⟨this.1, this.2⟩) (by rw [j1.1, J.1]; exact e56) (by rw [j1.1, J.1]; exact e55) e3
        have eqf : ∀ i, i < x6.toNatClampNeg → fn i = hI o.2 ro' i := sd_uni _ f1 j2 (fun v => by
          rw [f2 v, j3 v]
          exact (cn_eq _ (fun p hp => rows p (by omega))).symm)
        have nx : nI x6.toNatClampNeg = x6 := by
          apply Int32.toInt_inj.mp
          rw [z_toInt (by omega)]
          omega
        have key : pkN o.2 ro' 0 x6 x6.toNatClampNeg = pkF fn (nI x6.toNatClampNeg) x6.toNatClampNeg := by
          rw [pkN_F, nx]
          exact pkF_eq _ (fun i hi => by rw [Nat.zero_add]; exact (eqf i hi).symm)
        have := v (by
          rw [key]
          obtain ⟨m, B1, B2, B3⟩ := f3
          exact ⟨m, fun m' hm => by rw [ks]; exact B1 m' hm, by rw [ks]; exact B2, by rw [kq]; exact B3⟩)
        rw [z3] at this
        exact absurd this (by decide)
    · have l7 := nle_i n1
      have i7 : Rg 0 4 x7 := ⟨by omega, by omega⟩
      have i6 : Rg 0 4 x6 := ⟨a6.1, by omega⟩
      have ny := nc_s i7 (by decide)
      have gt : inB x7 (hN h rt) := by rw [thN T qt (k := 110) (n := 5) rfl (by decide)]; exact rg_inB i7 (by decide)
      obtain ⟨ix, ixn⟩ := ix5 i1 i7
      -- a man into the row
      have put : ∀ {v : Int32}, v = up (fun p => hI h0 re (5 * x1.toNatClampNeg + p)) x2.toNatClampNeg x4 x7.toNatClampNeg → Rg 0 24 v → ¬ x7.toNatClampNeg = q → Sat (sX15_stateBehind_62 F (sX15_stateBehind_6 F f) h x0 x1 x2 x3 x4 x5 x6 x7 v x6 ro) _ := fun {v} ev iv nq7 => by
        unfold sX15_stateBehind_62 sX15_stateBehind_86
        refine s_gd (by rw [thN T qo (k := 108) (n := 6) rfl (by decide)]; exact rg_inB (rg_m i6 (by decide) : Rg 0 5 x6) (by decide)) ?_
        refine s_hq (th_wI T qo (k := 108) (lo := 0) (hi := 24) rfl iv (by decide) (by decide) (pm_a hA rfl)) (fun h3 T3 w3 => ?_)
        obtain ⟨P3, L3⟩ := man_w T r0 qo w3 P L
        have J3 : Jp ro rp h0 h3 := by rw [w3]; exact jp_w J (Or.inl rfl)
        refine s_ref (by rw [J3.1]; exact e58) ?_
        have ep3 : hR h3 x0 58 = some rp := by rw [J3.1]; exact e58
        have fin : ∀ {s : Int32}, Rg 0 63 s → s.toInt < (hI h0 x0 13).toInt → Sat (gd (inB x6 (hN h3 rp)) <| nm (wI h3 rp x6.toNatClampNeg s) fun h_2 => nm (x6 + (1 : Int32)) fun v_3 => sX15_stateBehind_90 F (sX15_stateBehind_6 F f) h_2 x0 x1 x2 x3 x4 x5 v_3 x7) _ := fun {s} is ls => by
          refine s_gd (by rw [thN T3 qp (k := 109) (n := 6) rfl (by decide)]; exact rg_inB (rg_m i6 (by decide) : Rg 0 5 x6) (by decide)) ?_
          refine s_hq (th_wI T3 qp (k := 109) (lo := 0) (hi := 63) rfl is (by decide) (by decide) (pm_a hA rfl)) (fun h5 T5 w5 => ?_)
          have e13 : hI h3 x0 13 = hI h0 x0 13 := kk J3 r0 (by decide) (by decide) 13
          obtain ⟨P5, _, L5⟩ := pla_w T3 r0 ep3 qp w5 (by rw [e13]; exact ls) P3 L3
          rw [if_pos c6] at L5
          have J5 : Jp ro rp h0 h5 := by rw [w5]; exact jp_w J3 (Or.inr rfl)
          refine s_q (fun y ey => ?_)
          have n6 := nc_s i6 (by decide)
          have ey2 : y.toInt = x6.toInt + 1 := by rw [ey]; exact n6.2
          clear ey
          unfold sX15_stateBehind_90
          refine s_q (fun z ez => ?_)
          have ez2 : z.toInt = x7.toInt + 1 := by rw [ez]; exact ny.2
          clear ez
          refine ih T5 P5 J5 (by rw [ey2]; exact L5) (by omega) (by omega) ?_ (fun p hp => ?_) (by omega)
          · rw [ey2, ez2, r6]
            split <;> split <;> omega
          · rw [w5, r_I, if_neg (fun w => nop w.1), w3, r_I]
            by_cases w : p = x6.toNatClampNeg
            · rw [if_pos ⟨rfl, w⟩, ev, w]
              unfold sk
              by_cases z7 : x7.toInt ≤ (q : Int)
              · rw [if_pos z7] at r6
                rw [if_pos (by omega)]
                congr 1
                omega
              · rw [if_neg z7] at r6
                rw [if_neg (by omega)]
                congr 1
                omega
            · rw [if_neg (fun z => w z.2)]
              exact rows p (by omega)
        refine s_br (fun _ => fin i3 l3) (fun _ => ?_)
        refine s_ref (by rw [J3.1]; exact e61) (s_gd (by rw [thN T3 qt (k := 110) (n := 5) rfl (by decide)]; exact rg_inB i7 (by decide)) ?_)
        refine fin (thI T3 qt (k := 110) (lo := 0) (hi := 63) rfl) ?_
        rw [kk J3 qt (by decide) (by decide)]
        exact st _ (by omega)
      refine s_br (fun e7 => ?_) (fun n7 => ?_)
      · refine s_ref (by rw [J.1]; exact e57) ?_
        refine s_br (fun _ => ?_) (fun n => absurd e7 n)
        refine put ?_ i4 (fun w => nq (by rw [← w, c7, e7]))
        unfold up
        rw [if_pos (by rw [e7])]
      · have n7' : ¬ (x7.toNatClampNeg : Int) = x2.toInt := fun w => n7 (Int32.toInt_inj.mp (by omega))
        refine s_ref (by rw [J.1]; exact e61) (s_gd gt ?_)
        rw [kk J qt (by decide) (by decide)]
        refine s_br (fun et => ?_) (fun nt => ?_)
        · have e7q := (cap x7.toNatClampNeg (by omega) n7').mp et
          unfold sX15_stateBehind_90
          refine s_q (fun z ez => ?_)
          have ez2 : z.toInt = x7.toInt + 1 := by rw [ez]; exact ny.2
          clear ez
          refine ih T P J L (by omega) (by omega) ?_ rows (by omega)
          rw [ez2, r6, if_pos (by omega), if_neg (by omega)]
          omega
        · have n7q : ¬ x7.toNatClampNeg = q := fun w => nt ((cap x7.toNatClampNeg (by omega) n7').mpr w)
          refine s_ref (by rw [J.1]; exact e57) ?_
          refine s_br (fun e7 => absurd e7 n7) (fun _ => ?_)
          refine s_ref (by rw [J.1]; exact e47) ?_
          refine s_gd (by rw [thN T qe (k := 100) (n := 20480) rfl (by decide)]; exact rg_inB ix (by decide)) ?_
          rw [ixn, kk J qe (by decide) (by decide)]
          refine put ?_ (thI T0 qe (k := 100) (lo := 0) (hi := 24) rfl) n7q
          unfold up
          rw [if_neg (fun w => n7' (by omega))]
theorem behind_q (hF : 700000 ≤ F) (hA : pmA c rwpL) (Q : SlR ρ x0 rm re rb rk rs ro h0) (T0 : TH ρ c h0) (P0 : SE x0 h0) (e58 : hR h0 x0 58 = some rp) (e61 : hR h0 x0 61 = some rt) (i1 : Rg 0 4095 x1) (i2 : Rg 0 4 x2) (i3 : Rg 0 63 x3) (l3 : x3.toInt < (hI h0 x0 13).toInt) (i4 : Rg 0 24 x4) (i5 : Rg 0 1 x5) (st : ∀ i : Nat, (i : Int) < (hI h0 rm x1.toNatClampNeg).toInt → (hI h0 rt i).toInt < (hI h0 x0 13).toInt)
    (cap : ∀ i : Nat, (i : Int) < (hI h0 rm x1.toNatClampNeg).toInt → ¬ (i : Int) = x2.toInt → (hI h0 rt i = x3 ↔ i = q)) (nq : ¬ (q : Int) = x2.toInt) : Sat (sX15_stateBehind F h0 x0 x1 x2 x3 x4 x5) (fun o => SQ2 ρ c x0 o ∧ Jp ro rp h0 o.2 ∧ (FdS rs rk h0 (if (q : Int) < (hI h0 rm x1.toNatClampNeg).toInt then (hI h0 rm x1.toNatClampNeg).toNatClampNeg - 1 else (hI h0 rm x1.toNatClampNeg).toNatClampNeg) (fun v => cn (sk (up (fun p => hI h0 re (5 * x1.toNatClampNeg + p)) x2.toNatClampNeg x4) q) v (if (q : Int) < (hI h0 rm x1.toNatClampNeg).toInt then (hI h0 rm x1.toNatClampNeg).toNatClampNeg - 1 else (hI h0 rm x1.toNatClampNeg).toNatClampNeg)) → 0 ≤ o.1.toInt)) := by
  unfold sX15_stateBehind
  have z0 : (0 : Int32).toInt = 0 := rfl
  refine be2_6 hF hA Q T0 e58 e61 i1 i2 i3 l3 i4 i5 st cap nq F T0 P0 jp_r (fun _ _ i hi => by rw [z0] at hi; omega) (by decide) ?_ ?_ (fun p hp => absurd hp (by rw [z0]; omega)) (by rw [z0]; omega)
  · rw [z0]; exact (thI T0 Q.1.2.1 (k := 99) (i := x1.toNatClampNeg) (lo := 0) (hi := 5) rfl).1
  · rw [z0, if_pos (by omega)]
end
end
section
/-! the least bit told exactly; where a mask lies exactly -/
theorem n_all2 : ∀ k : Fin 32, (n00 (Int32.ofBitVec (BitVec.ofNat 32 (2 ^ k.val - 1)))).toInt = (k.val : Int) := by decide +kernel
theorem ntz6_q {h : Hp} {x0 : Int32} {o : Int32 × Hp} (nz : ¬ x0 = 0) (e : sJ6_numberOfTrailingZeros_0f7a4 h x0 = some o) : o.2 = h ∧ ∃ k, k < 32 ∧ x0.toBitVec.getLsbD k = true ∧ o.1.toInt = (k : Int) := by
  obtain ⟨k, hk, hb, hz⟩ := ntz_low (x := x0.toBitVec) (fun z => nz (Int32.toBitVec_inj.mp z))
  have e2 : (x0 ^^^ (-1 : Int32)) &&& (x0 - (1 : Int32)) = Int32.ofBitVec (BitVec.ofNat 32 (2 ^ k - 1)) := by
    apply Int32.toBitVec_inj.mp
    rw [Int32.toBitVec_and, Int32.toBitVec_xor, Int32.toBitVec_sub]
    exact ntz_mask hk hb hz
  unfold sJ6_numberOfTrailingZeros_0f7a4 at e
  simp only [nm] at e
  rw [e2] at e
  have e3 := e00 h (Int32.ofBitVec (BitVec.ofNat 32 (2 ^ k - 1)))
  simp only [nm] at e3
  rw [e3] at e
  have e := Option.some.inj e
  subst e
  exact ⟨rfl, k, hk, hb, n_all2 ⟨k, hk⟩⟩
theorem lo32 {x : Int64} {k : Nat} (hk : k < 32) : x.toInt32.toBitVec.getLsbD k = bitJ x k := by
  unfold bitJ
  rw [Int64.toBitVec_toInt32, BitVec.getLsbD_signExtend]
  simp [hk, show k < 64 by omega]
theorem hi32 {x : Int64} {k : Nat} (hk : k < 32) : (((x.toUInt64 >>> ((32 : Int32).toInt64.toUInt64 &&& Int64.toUInt64 63)).toInt64).toInt32).toBitVec.getLsbD k = bitJ x (32 + k) := by
  have sh : ((32 : Int32).toInt64.toUInt64 &&& Int64.toUInt64 63) = (32 : UInt64) := by decide
  rw [sh, lo32 hk]
  have e64 : ((x.toUInt64 >>> (32 : UInt64)).toInt64).toBitVec = x.toBitVec >>> 32 := by
    show (x.toUInt64 >>> (32 : UInt64)).toBitVec = _
    rw [UInt64.toBitVec_shiftRight]
    rfl
  unfold bitJ
  rw [e64, BitVec.getLsbD_ushiftRight]
theorem ntz_q {h : Hp} {x : Int64} {o : Int32 × Hp} (nz : ¬ x = 0) (e : sJ13_numberOfTrailingZeros_95d88 h x = some o) : o.2 = h ∧ ∃ k, k < 64 ∧ bitJ x k = true ∧ o.1.toInt = (k : Int) := by
  unfold sJ13_numberOfTrailingZeros_95d88 sJ13_numberOfTrailingZeros_95d88_25 at e
  replace e := br_s e; rcases e with ⟨c1, e⟩ | ⟨c1, e⟩
  · replace e := cl_s e; obtain ⟨o3, e3, e⟩ := e
    have hi : ¬ (((x.toUInt64 >>> ((32 : Int32).toInt64.toUInt64 &&& Int64.toUInt64 63)).toInt64).toInt32) = 0 := fun z => nz (by
      apply Int64.toBitVec_inj.mp
      apply BitVec.eq_of_getLsbD_eq
      intro i hi
      show bitJ x i = (0#64).getLsbD i
      rw [BitVec.getLsbD_zero]
      by_cases q : i < 32
      · rw [← lo32 q, c1]
        exact BitVec.getLsbD_zero
      · have := hi32 (x := x) (k := i - 32) (by omega)
        rw [z, show 32 + (i - 32) = i by omega] at this
        rw [← this]
        exact BitVec.getLsbD_zero)
    obtain ⟨w1, k, hk, hb, w2⟩ := ntz6_q hi e3
    have e := Option.some.inj e
    subst e
    refine ⟨w1, 32 + k, by omega, by rw [← hi32 hk]; exact hb, ?_⟩
    show ((32 : Int32) + o3.1).toInt = _
    have t : (32 : Int32).toInt = 32 := rfl
    rw [ta (by omega), t, w2]
    omega
  · replace e := cl_s e; obtain ⟨o2, e2, e⟩ := e
    obtain ⟨w1, k, hk, hb, w2⟩ := ntz6_q c1 e2
    have e := Option.some.inj e
    subst e
    exact ⟨w1, k, by omega, by rw [← lo32 hk]; exact hb, w2⟩
/-- how many men come before one -/
def rkC (own : Nat → Int) (sd : Int) (j : Nat) : Nat → Int
  | 0 => 0
  | i + 1 => rkC own sd j i + if own i < sd ∨ (own i = sd ∧ i < j) then 1 else 0
theorem rkC_b {own : Nat → Int} {sd : Int} {j : Nat} : ∀ n, 0 ≤ rkC own sd j n ∧ rkC own sd j n ≤ n := by
  intro n
  induction n with
  | zero => exact ⟨Int.le_refl _, Int.le_refl _⟩
  | succ n ih =>
    show 0 ≤ rkC own sd j n + (if own n < sd ∨ (own n = sd ∧ n < j) then 1 else 0) ∧ rkC own sd j n + (if own n < sd ∨ (own n = sd ∧ n < j) then 1 else 0) ≤ ((n + 1 : Nat) : Int)
    split <;> omega
theorem rkC_j {own : Nat → Int} {j : Nat} : ∀ n, j < n → rkC own (own j) j n + 1 ≤ n := by
  intro n
  induction n with
  | zero => intro h; omega
  | succ n ih =>
    intro h
    show rkC own (own j) j n + (if own n < own j ∨ (own n = own j ∧ n < j) then 1 else 0) + 1 ≤ ((n + 1 : Nat) : Int)
    by_cases w : n = j
    · subst w
      rw [if_neg (by omega)]
      have := (rkC_b (own := own) (sd := own n) (j := n) n).2
      omega
    · have := ih (by omega)
      split <;> omega
theorem rkC_lt {own : Nat → Int} {j j' : Nat} (lt : own j < own j' ∨ (own j = own j' ∧ j < j')) : ∀ n, rkC own (own j) j n ≤ rkC own (own j') j' n ∧ (j < n → rkC own (own j) j n + 1 ≤ rkC own (own j') j' n) := by
  intro n
  induction n with
  | zero => exact ⟨Int.le_refl _, fun h => by omega⟩
  | succ n ih =>
    show rkC own (own j) j n + (if own n < own j ∨ (own n = own j ∧ n < j) then 1 else 0) ≤ rkC own (own j') j' n + (if own n < own j' ∨ (own n = own j' ∧ n < j') then 1 else 0) ∧ (j < n + 1 → rkC own (own j) j n + (if own n < own j ∨ (own n = own j ∧ n < j) then 1 else 0) + 1 ≤ rkC own (own j') j' n + (if own n < own j' ∨ (own n = own j' ∧ n < j') then 1 else 0))
    by_cases w : n = j
    · subst w
      rw [if_neg (by omega), if_pos lt]
      exact ⟨by omega, fun _ => by omega⟩
    · by_cases z : own n < own j ∨ (own n = own j ∧ n < j)
      · rw [if_pos z, if_pos (by omega)]
        exact ⟨by omega, fun h => by have := ih.2 (by omega); omega⟩
      · rw [if_neg z]
        split
        · exact ⟨by omega, fun h => by have := ih.2 (by omega); omega⟩
        · exact ⟨by omega, fun h => by have := ih.2 (by omega); omega⟩
theorem rkC_inj {own : Nat → Int} {j j' n : Nat} (h1 : j < n) (h2 : j' < n) (e : rkC own (own j) j n = rkC own (own j') j' n) : j = j' := by
  refine Classical.byContradiction fun ne => ?_
  by_cases a : own j < own j' ∨ (own j = own j' ∧ j < j')
  · have := (rkC_lt (own := own) a n).2 h1; omega
  · have := (rkC_lt (own := own) (j := j') (j' := j) (by omega) n).2 h2; omega
/-- many times q, and a rest: both are told -/
theorem dm_inj {m q1 q2 r1 r2 : Int} (m0 : 0 < m) (a1 : 0 ≤ r1) (b1 : r1 < m) (a2 : 0 ≤ r2) (b2 : r2 < m) (e : m * q1 + r1 = m * q2 + r2) : q1 = q2 ∧ r1 = r2 := by
  have u := dm (F := m) (r := q1) (f := r1) m0 a1 b1
  have v := dm (F := m) (r := q2) (f := r2) m0 a2 b2
  rw [Int.mul_comm q1 m, e] at u
  rw [Int.mul_comm q2 m] at v
  exact ⟨u.1.symm.trans v.1, u.2.symm.trans v.2⟩
/-- where the mask of a set, a number and a man lies -/
def mkx (h : Hp) (rm rb re : Nat) (set : Nat) (q : Int) (sd : Int) (j : Nat) : Int := (hI h rb set).toInt + (hI h rm set).toInt * q + rkC (fun i => ((hI h re (5 * set + i) - (1 : Int32)) &&& (1 : Int32)).toInt) sd j (hI h rm set).toNatClampNeg
section
variable {h : Hp} {x0 rm rb re F : Nat} {x1 x2 x3 : Int32}
theorem mask_x (i1 : Rg 0 4095 x1) (im : Rg 0 5 (hI h rm x1.toNatClampNeg)) (em : hR h x0 46 = some rm) (eb : hR h x0 53 = some rb) (ee : hR h x0 47 = some re) (a2 : 0 ≤ x2.toInt) (a3 : 0 ≤ x3.toInt) (ib : 0 ≤ (hI h rb x1.toNatClampNeg).toInt) (bb : (hI h rb x1.toNatClampNeg).toInt + (hI h rm x1.toNatClampNeg).toInt * (x2.toInt / 2) + 5 ≤ 2000000000) {o : Int32 × Hp} (e : sX15_maskOf F h x0 x1 x2 x3 = some o) : o.2 = h ∧ o.1.toInt = mkx h rm rb re x1.toNatClampNeg (x2.toInt / 2) (x2 &&& (1 : Int32)).toInt x3.toNatClampNeg := by
  have m0 := im.1
  have m5 := im.2
  have cm := clamp_i m0
  have c3 := clamp_i a3
  have lp : ∀ (f : Nat) {x5 x6 : Int32}, 0 ≤ x6.toInt → x6.toInt ≤ (hI h rm x1.toNatClampNeg).toInt → x5.toInt = rkC (fun i => ((hI h re (5 * x1.toNatClampNeg + i) - (1 : Int32)) &&& (1 : Int32)).toInt) (x2 &&& (1 : Int32)).toInt x3.toNatClampNeg x6.toNatClampNeg → sX15_maskOf_11 F f h x0 x1 x2 x3 (x2 &&& (1 : Int32)) x5 x6 = some o → o.2 = h ∧ o.1.toInt = mkx h rm rb re x1.toNatClampNeg (x2.toInt / 2) (x2 &&& (1 : Int32)).toInt x3.toNatClampNeg := by
    intro f
    induction f with
    | zero => intro x5 x6 _ _ _ e; exact absurd e (by simp [sX15_maskOf_11])
    | succ f ih =>
      intro x5 x6 a6 b6 e5 e
      have c6 := clamp_i a6
      obtain ⟨k0, k1⟩ := rkC_b (own := fun i => ((hI h re (5 * x1.toNatClampNeg + i) - (1 : Int32)) &&& (1 : Int32)).toInt) (sd := (x2 &&& (1 : Int32)).toInt) (j := x3.toNatClampNeg) x6.toNatClampNeg
      rw [← e5] at k0 k1
      unfold sX15_maskOf_11 at e
      replace e := cl_s e; obtain ⟨r1, p, e⟩ := e
      have := r_eq em p; subst this
      replace e := (gd_s e).2
      replace e := br_s e; rcases e with ⟨cc, e⟩ | ⟨cc, e⟩
      · have cc := le_i cc
        replace e := cl_s e; obtain ⟨r4, p, e⟩ := e
        have := r_eq eb p; subst this
        replace e := (gd_s e).2
        replace e := cl_s e; obtain ⟨r6, p, e⟩ := e
        have := r_eq em p; subst this
        replace e := (gd_s e).2
        have e := Option.some.inj e; subst e
        refine ⟨rfl, ?_⟩
        have en : x6.toNatClampNeg = (hI h r6 x1.toNatClampNeg).toNatClampNeg := by omega
        rw [en] at e5
        have eq2 : (x2 >>> ((1 : Int32) &&& 31)).toInt = x2.toInt / 2 := ti_shr1
        have mn : 0 ≤ (hI h r6 x1.toNatClampNeg).toInt * (x2.toInt / 2) := Int.mul_nonneg m0 (by omega)
        have e1 : ((hI h r6 x1.toNatClampNeg) * (x2 >>> ((1 : Int32) &&& 31))).toInt = (hI h r6 x1.toNatClampNeg).toInt * (x2.toInt / 2) := by rw [tm ⟨by rw [eq2]; omega, by rw [eq2]; omega⟩, eq2]
        have e2 : ((hI h r4 x1.toNatClampNeg) + ((hI h r6 x1.toNatClampNeg) * (x2 >>> ((1 : Int32) &&& 31)))).toInt = (hI h r4 x1.toNatClampNeg).toInt + (hI h r6 x1.toNatClampNeg).toInt * (x2.toInt / 2) := by rw [ta ⟨by rw [e1]; omega, by rw [e1]; omega⟩, e1]
        show (((hI h r4 x1.toNatClampNeg) + ((hI h r6 x1.toNatClampNeg) * (x2 >>> ((1 : Int32) &&& 31)))) + x5).toInt = _
        rw [ta ⟨by rw [e2]; omega, by rw [e2]; omega⟩, e2, e5]
        rfl
      · have cc := nle_i cc
        have i6 : Rg 0 4 x6 := ⟨a6, by omega⟩
        have i5 : Rg 0 4 x5 := ⟨k0, by omega⟩
        have n5 := nc_s i5 (by decide)
        have n6 := nc_s i6 (by decide)
        replace e := cl_s e; obtain ⟨r8, p, e⟩ := e
        have := r_eq ee p; subst this
        replace e := (gd_s e).2
        rw [(ix5 i1 i6).2] at e
        replace e := cl_s e; obtain ⟨o10, e10, e⟩ := e
        unfold sX15_sideOf at e10
        have := Option.some.inj e10; subst this
        dsimp only at e
        unfold sX15_maskOf_60 sX15_maskOf_64 sX15_maskOf_65 at e
        simp only [nm] at e
        have st : ∀ (b : Int), (b = if ((hI h r8 (5 * x1.toNatClampNeg + x6.toNatClampNeg) - (1 : Int32)) &&& (1 : Int32)).toInt < (x2 &&& (1 : Int32)).toInt ∨ (((hI h r8 (5 * x1.toNatClampNeg + x6.toNatClampNeg) - (1 : Int32)) &&& (1 : Int32)).toInt = (x2 &&& (1 : Int32)).toInt ∧ x6.toNatClampNeg < x3.toNatClampNeg) then 1 else 0) → x5.toInt + b = rkC (fun i => ((hI h r8 (5 * x1.toNatClampNeg + i) - (1 : Int32)) &&& (1 : Int32)).toInt) (x2 &&& (1 : Int32)).toInt x3.toNatClampNeg (x6 + (1 : Int32)).toNatClampNeg := by
          intro b eb
          rw [n6.1, eb, e5]
          rfl
        have z0 : (x5 + (0 : Int32)).toInt = x5.toInt := by
          rw [ta (by show _ ≤ x5.toInt + 0 ∧ x5.toInt + 0 ≤ _; omega)]
          show x5.toInt + 0 = _
          omega
        replace e := br_s e; rcases e with ⟨c1, e⟩ | ⟨c1, e⟩
        · exact ih (by omega) (by omega) (by rw [n5.2]; exact st 1 (by rw [if_pos (Or.inl (lt_i c1))])) e
        have c1 := nlt_i c1
        replace e := br_s e; rcases e with ⟨c2, e⟩ | ⟨c2, e⟩
        · have c2' := congrArg Int32.toInt c2
          replace e := br_s e; rcases e with ⟨c3', e⟩ | ⟨c3', e⟩
          · have c3' := le_i c3'
            exact ih (by omega) (by omega) (by rw [z0]; have := st 0 (by rw [if_neg (by omega)]); omega) e
          · have c3' := nle_i c3'
            exact ih (by omega) (by omega) (by rw [n5.2]; exact st 1 (by rw [if_pos (Or.inr ⟨c2', by omega⟩)])) e
        · have c2' : ¬ ((hI h r8 (5 * x1.toNatClampNeg + x6.toNatClampNeg) - (1 : Int32)) &&& (1 : Int32)).toInt = (x2 &&& (1 : Int32)).toInt := fun w => c2 (Int32.toInt_inj.mp w)
          exact ih (by omega) (by omega) (by rw [z0]; have := st 0 (by rw [if_neg (by omega)]); omega) e
  unfold sX15_maskOf at e
  simp only [nm] at e
  exact lp F (x5 := 0) (x6 := 0) (by decide) (by show (0 : Int) ≤ _; exact m0) rfl e
end
end
section
/-! legal moves, by their squares -/
theorem fq_s {A : List (Nat × Nat)} {k w i : Nat} (x : XS k i = false) (s : ∀ k i, mS A k i = true → XS k i = true) : fS A [] k w i = false := by
  cases q : fS A [] k w i with
  | false => rfl
  | true =>
    have : mS A k i = true := by
      unfold fS at q
      simpa using q
    rw [s k i this] at x
    exact x
section
variable {ρ : Nat → Nat} {c : Cm} {C : Int32 → Int32 → Prop} {x0 b l lf lt F wb wl : Nat} {h o : Hp} {x3 x4 x5 : Int32}
theorem la_fr {S : Nat → Nat → Nat → Bool} (T : TH ρ c h) (rl : ρ l = 14) (rf : ρ lf = 66) (rt : ρ lt = 67) (f : Fr ρ (cat c S h) h o) (s1 : ∀ w, S 14 w 0 = false) (s2 : ∀ w i, S 66 w i = false) (s3 : ∀ w i, S 67 w i = false) (P : LA C l lf lt h) : LA C l lf lt o := by
  intro i hi
  rw [(fr_RI f rl (by decide) s1).1] at hi
  rw [(fr_RI f rf (by decide) (fun w => s2 w i)).1, (fr_RI f rt (by decide) (fun w => s3 w i)).1]
  exact P i hi
theorem la_set {x y : Int32} (T : TH ρ c h) (rl : ρ l = 14) (e1 : hR h l 1 = some lf) (e2 : hR h l 2 = some lt) (hy : 0 ≤ y.toInt ∧ y.toInt < (hI h l 0).toInt) (P : LA C l lf lt h) (e : sX13_set h l x l y = some o) : LA C l lf lt o ∧ hI o l 0 = hI h l 0 ∧ hR o l 1 = some lf ∧ hR o l 2 = some lt := by
  have r1 := rr T (thR T rl (i := 1) (k2 := 66) rfl (by decide)) e1
  have r2 := rr T (thR T rl (i := 2) (k2 := 67) rfl (by decide)) e2
  obtain ⟨lm, e3, r3⟩ := thR T rl (i := 3) (k2 := 68) rfl (by decide)
  obtain ⟨lb, e4, r4⟩ := thR T rl (i := 4) (k2 := 69) rfl (by decide)
  obtain ⟨lx, e5, r5⟩ := thR T rl (i := 5) (k2 := 70) rfl (by decide)
  obtain ⟨lk, e6, r6⟩ := thR T rl (i := 6) (k2 := 71) rfl (by decide)
  obtain ⟨lo, e7, r7⟩ := thR T rl (i := 7) (k2 := 72) rfl (by decide)
  obtain ⟨fr, z0, z⟩ := set_post rl r1 r2 r3 r4 r5 r6 r7 e1 e2 e3 e4 e5 e6 e7 e
  refine ⟨fun i hi => ?_, z0, by rw [fr.1]; exact e1, by rw [fr.1]; exact e2⟩
  rw [z0] at hi
  obtain ⟨w1, w2, _⟩ := z i
  rw [w1, w2]
  have cy := clamp_i hy.1
  by_cases w : i = x.toNatClampNeg
  · rw [if_pos w, if_pos w]
    exact P y.toNatClampNeg (by omega)
  · rw [if_neg w, if_neg w]
    exact P i hi
theorem la_cut {v : Int32} (rl : ρ l = 14) (rf : ρ lf = 66) (rt : ρ lt = 67) (w : o = wI h l 0 v) (le : v.toInt ≤ (hI h l 0).toInt) (P : LA C l lf lt h) : LA C l lf lt o := by
  intro i hi
  rw [w, r_I, if_pos ⟨rfl, rfl⟩] at hi
  rw [w, r_I, if_neg (ne_r rf rl (by decide)), r_I, if_neg (ne_r rt rl (by decide))]
  exact P i (by omega)
theorem lgq_110 (hF : 700000 ≤ F) (hO : pmO c wl [(66, 999), (67, 999), (68, 999), (69, 999), (70, 999), (71, 999), (72, 999), (14, 0)]) (ol : cw c l = wl) (rl : ρ l = 14) : ∀ (f : Nat) {h : Hp} {x3 x5 : Int32}, TH ρ c h → hR h l 1 = some lf → hR h l 2 = some lt → LA C l lf lt h → 0 ≤ x3.toInt → x3.toInt ≤ x5.toInt → x5.toInt ≤ (hI h l 0).toInt → (3001 - x5.toInt).toNat < f → Sat (sX15_legal_110 F f h l x3 x5) (fun o => TH ρ c o ∧ LA C l lf lt o) := by
  intro f
  induction f with
  | zero => intros; omega
  | succ f ih =>
    intro h x3 x5 T e1 e2 P a3 a5 b5 hf
    rw [sX15_legal_110]
    unfold sX15_legal_152 sX15_legal_141
    have m := thI T rl (k := 14) (i := 0) (lo := 0) (hi := 3000) rfl
    have m3 := m.2
    have r1 := rr T (thR T rl (i := 1) (k2 := 66) rfl (by decide)) e1
    have r2 := rr T (thR T rl (i := 2) (k2 := 67) rfl (by decide)) e2
    refine s_br (fun _ => ?_) (fun n1 => ?_)
    · refine s_hq (th_wI T rl (k := 14) (lo := 0) (hi := 3000) rfl ⟨a3, by omega⟩ (by decide) (by decide) (pm_o hO ol rfl)) (fun h2 T2 w2 => ?_)
      exact s_some ⟨T2, la_cut rl r1 r2 w2 (by omega) P⟩
    · have l5 := nle_i n1
      have i5 : Rg 0 2999 x5 := ⟨by omega, by omega⟩
      have i3 : Rg 0 2999 x3 := ⟨a3, by omega⟩
      have n5 := nc_s i5 (by decide)
      have n3 := nc_s i3 (by decide)
      obtain ⟨lx, ex, rx⟩ := thR T rl (i := 5) (k2 := 70) rfl (by decide)
      refine s_ref ex ?_
      refine s_gd (by rw [thN T rx (k := 70) (n := 3000) rfl (by decide)]; exact rg_inB i5 (by decide)) ?_
      refine s_br (fun _ => ?_) (fun _ => ?_)
      · refine s_q (fun y ey => ?_)
        have ey2 : y.toInt = x5.toInt + 1 := by rw [ey]; exact n5.2
        exact ih T e1 e2 P a3 (by omega) (by omega) (by omega)
      · refine s_dd (zX13_set hF (pmO_s hO rfl) ol ol T rl i3 rl i5) (fun o6 e6 T6 => ?_)
        obtain ⟨P6, k6, e16, e26⟩ := la_set T rl e1 e2 ⟨by omega, l5⟩ P e6
        refine s_q (fun v ev => s_q (fun y ey => ?_))
        have ey2 : y.toInt = x5.toInt + 1 := by rw [ey]; exact n5.2
        have ev2 : v.toInt = x3.toInt + 1 := by rw [ev]; exact n3.2
        exact ih T6 e16 e26 P6 (by omega) (by omega) (by rw [k6]; omega) (by omega)
theorem lgq_28 (hF : 700000 ≤ F) (hA : pmA c [(16, 23), (16, 24)]) (hB : pmO c 2528 [(62, 999), (63, 999), (64, 999), (65, 999), (13, 1), (13, 2), (13, 3), (13, 7)]) (hO : pmO c wl [(66, 999), (67, 999), (68, 999), (69, 999), (70, 999), (71, 999), (72, 999), (14, 0)]) (ob : cw c b = wb) (nb : ¬ wb = 2528) (ol : cw c l = wl) (r0 : ρ x0 = 16) (rb : ρ b = 13) (rl : ρ l = 14) : ∀ (f : Nat) {h : Hp} {x3 x4 x5 : Int32}, TH ρ c h → SqOk x0 h → MvB x0 b l h → hR h l 1 = some lf → hR h l 2 = some lt → LA C l lf lt h → 0 ≤ x3.toInt → x3.toInt ≤ x5.toInt → x5.toInt ≤ (hI h l 0).toInt → (3001 - x5.toInt).toNat < f → Sat (sX15_legal_28 F f h x0 b l x3 x4 x5) (fun o => TH ρ c o ∧ LA C l lf lt o) := by
  intro f
  induction f with
  | zero => intros; omega
  | succ f ih =>
    intro h x3 x4 x5 T sq mv e1 e2 P a3 a5 b5 hf
    rw [sX15_legal_28]
    unfold sX15_legal_152 sX15_legal_79 sX15_legal_73
    have m := thI T rl (k := 14) (i := 0) (lo := 0) (hi := 3000) rfl
    have m3 := m.2
    have r1 := rr T (thR T rl (i := 1) (k2 := 66) rfl (by decide)) e1
    have r2 := rr T (thR T rl (i := 2) (k2 := 67) rfl (by decide)) e2
    have z0 : (0 : Int32).toInt = 0 := rfl
    refine s_br (fun _ => ?_) (fun n1 => ?_)
    · refine s_hq (th_wI T rl (k := 14) (lo := 0) (hi := 3000) rfl ⟨a3, by omega⟩ (by decide) (by decide) (pm_o hO ol rfl)) (fun h2 T2 w2 => ?_)
      have P2 := la_cut rl r1 r2 w2 (by omega) P
      obtain ⟨R, eR, rR⟩ := thR T2 r0 (i := 4) (k2 := 15) rfl (by decide)
      refine s_ref eR ?_
      refine s_br (fun _ => s_some ⟨T2, P2⟩) (fun _ => ?_)
      refine s_br (fun _ => s_some ⟨T2, P2⟩) (fun _ => ?_)
      exact lgq_110 hF hO ol rl F T2 (by rw [w2]; exact e1) (by rw [w2]; exact e2) P2 (by decide) (Int.le_refl _) (by rw [z0]; exact (thI T2 rl (k := 14) (i := 0) (lo := 0) (hi := 3000) rfl).1) (by rw [z0]; omega)
    · have l5 := nle_i n1
      have i5 : Rg 0 2999 x5 := ⟨by omega, by omega⟩
      have i3 : Rg 0 2999 x3 := ⟨a3, by omega⟩
      have n5 := nc_s i5 (by decide)
      have n3 := nc_s i3 (by decide)
      refine s_cIf (S := fS [(16, 23), (16, 24)] [(2528, [(62, 999), (63, 999), (64, 999), (65, 999), (13, 1), (13, 2), (13, 3), (13, 7)])]) T (fs_sub hA (fs_c hB fs_n)) (zX15_isSafe hF fs_a (fs_o (.head _)) ob ol (th_in _ T) r0 rb rl i5 sq mv l5) (fun o6 T6 i6 f6 => ?_)
      have sq6 : SqOk x0 o6.2 := sq_fr T r0 f6 (fun _ => rfl) (fun _ => rfl) (fun _ => rfl) sq
      have mv6 : MvB x0 b l o6.2 := mv_fr T r0 rb rl f6 (fun _ => rfl) (fun _ => rfl) rfl (by rw [ob]; exact fs_cf (Or.inr nb) (fs_nf rfl)) rfl (by rw [ob]; intro _; exact fs_cf (Or.inr nb) (fs_nf rfl)) (by rw [ob]; intro _; exact fs_cf (Or.inr nb) (fs_nf rfl)) rfl rfl rfl rfl rfl rfl (fun _ => rfl) (fun _ => rfl) (fun _ => rfl) (fun _ => rfl) (fun _ => rfl) mv
      have P6 : LA C l lf lt o6.2 := la_fr T rl r1 r2 f6 (fun _ => rfl) (fun _ _ => rfl) (fun _ _ => rfl) P
      have k6 : hI o6.2 l 0 = hI h l 0 := (fr_RI f6 rl (by decide) (fun _ => rfl)).1
      have e16 : hR o6.2 l 1 = some lf := by rw [(fr_RI f6 rl (by decide) (fun _ => rfl)).2.2]; exact e1
      have e26 : hR o6.2 l 2 = some lt := by rw [(fr_RI f6 rl (by decide) (fun _ => rfl)).2.2]; exact e2
      refine s_br (fun _ => ?_) (fun _ => ?_)
      · refine s_q (fun y ey => ?_)
        have ey2 : y.toInt = x5.toInt + 1 := by rw [ey]; exact n5.2
        exact ih T6 sq6 mv6 e16 e26 P6 a3 (by omega) (by rw [k6]; omega) (by omega)
      · refine s_cVfq (S := fS [] [(wl, [(66, 999), (67, 999), (68, 999), (69, 999), (70, 999), (71, 999), (72, 999)])]) T6 (fs_sub pmA_n (fs_c (pmO_s hO rfl) fs_n)) (s_weq (zX13_set hF (fs_o (.head _)) ol ol (th_in _ T6) rl i3 rl i5)) (fun o8 T8 f8 e8 => ?_)
        obtain ⟨P8, k8, e18, e28⟩ := la_set T6 rl e16 e26 ⟨by omega, by rw [k6]; exact l5⟩ P6 e8
        have mv8 := mv_set T6 r0 rb rl ⟨by omega, by rw [k6]; exact l5⟩ mv6 e8
        have sq8 : SqOk x0 o8 := sq_fr T6 r0 f8 (fun _ => rfl) (fun _ => rfl) (fun _ => rfl) sq6
        obtain ⟨lx, ex, rx⟩ := thR T8 rl (i := 5) (k2 := 70) rfl (by decide)
        refine s_ref ex ?_
        refine s_gd (by rw [thN T8 rx (k := 70) (n := 3000) rfl (by decide)]; exact rg_inB i3 (by decide)) ?_
        have fin : ∀ (t0 : Int32), Sat (nm (x4 ||| t0) fun v_1 => nm (x3 + (1 : Int32)) fun v_2 => nm (x5 + (1 : Int32)) fun v_3 => sX15_legal_28 F f o8 x0 b l v_2 v_1 v_3) (fun o => TH ρ c o ∧ LA C l lf lt o) := fun t0 => by
          refine s_q (fun u eu => s_q (fun v ev => s_q (fun y ey => ?_)))
          have ey2 : y.toInt = x5.toInt + 1 := by rw [ey]; exact n5.2
          have ev2 : v.toInt = x3.toInt + 1 := by rw [ev]; exact n3.2
          exact ih T8 sq8 mv8 e18 e28 P8 (by omega) (by omega) (by rw [k8, k6]; omega) (by omega)
        exact s_br (fun _ => fin _) (fun _ => fin _)
/-- legal: all its moves are so, where all that are tried are -/
theorem legal_q (hF : 700000 ≤ F) (hA : pmA c [(87, 999), (88, 999), (89, 999), (16, 23), (16, 24), (16, 29)]) (hB : pmO c 2528 [(62, 999), (63, 999), (64, 999), (65, 999), (13, 1), (13, 2), (13, 3), (13, 7)]) (hO : pmO c wl [(66, 999), (67, 999), (68, 999), (69, 999), (70, 999), (71, 999), (72, 999), (14, 0)]) (ob : cw c b = wb) (nb : ¬ wb = 2528) (ol : cw c l = wl) (T : TH ρ c h) (r0 : ρ x0 = 16) (rb : ρ b = 13) (rl : ρ l = 14) (sq : SqOk x0 h) (pe : PE b h) (e1 : hR h l 1 = some lf) (e2 : hR h l 2 = some lt) (K : ∀ g o, Fq ρ h g → sX15_tryAll F g x0 b l = some o → LA C l lf lt o) : Sat (sX15_legal F h x0 b l) (fun o => TH ρ c o ∧ LA C l lf lt o) := by
  have r1 := rr T (thR T rl (i := 1) (k2 := 66) rfl (by decide)) e1
  have r2 := rr T (thR T rl (i := 2) (k2 := 67) rfl (by decide)) e2
  unfold sX15_legal
  refine s_hq (th_wI T rl (k := 14) (lo := 0) (hi := 3000) rfl (rg_m (rg_b rfl : Rg 0 0 (0 : Int32)) (by decide)) (by decide) (by decide) (pm_o hO ol rfl)) (fun h1 T1 w1 => ?_)
  have q1 : Fq ρ h h1 := by rw [w1]; exact fq_w fq_r rl
  have f1 := fr1Io (c := c) (B := [(14, 0)]) rl ol rfl w1
  refine s_cIf (S := fS [(16, 29)] []) T1 (fs_sub (pmA_s hA rfl) fs_n) (zX15_early hF fs_a ob (th_in _ T1) r0 rb) (fun o2 T2 i2 f2 => ?_)
  have q2 : Fq ρ h o2.2 := fq_t q1 (fun a i n x => f2.1 a i n (fq_s x (fun k i m => by
    have : k = 16 ∧ i = 29 := by
      unfold mS at m
      simp at m
      exact ⟨m.1.symm, m.2.symm⟩
    rw [this.1, this.2]
    rfl)))
  refine s_br (fun _ => ?_) (fun _ => ?_)
  · have pe2 : PE b o2.2 := pe_fr T1 rb f2 rfl rfl rfl (fun _ => rfl) (fun _ => rfl) (pe_fr T rb f1 rfl rfl rfl (fun _ => rfl) (fun _ => rfl) pe)
    refine s_cVfq (S := fS [(87, 999), (88, 999), (89, 999), (16, 23), (16, 24)] [(wl, [(66, 999), (67, 999), (68, 999), (69, 999), (70, 999), (71, 999), (72, 999), (14, 0)])]) T2 (fs_sub (pmA_s hA rfl) (fs_c hO fs_n)) (s_weq2 (zX15_tryAll hF fs_a (fs_o (.head _)) ob ol (th_in _ T2) r0 rb rl pe2)) (fun o4 T4 f4 w4 => ?_)
    have P4 := K o2.2 o4 q2 w4.2
    have sq4 : SqOk x0 o4 := sq_fr T2 r0 f4 (fun _ => rfl) (fun _ => rfl) (fun _ => rfl) (sq_fr T1 r0 f2 (fun _ => rfl) (fun _ => rfl) (fun _ => rfl) (sq_fr T r0 f1 (fun _ => rfl) (fun _ => rfl) (fun _ => rfl) sq))
    have kR : ∀ {i : Nat}, (i = 1 ∨ i = 2) → hR o4 l i = hR h l i := fun {i} w => by
      have a : hR o2.2 l i = hR h l i := fqE i q2 rl (by decide) (by rcases w with w | w <;> subst w <;> rfl)
      have z : hR o4 l i = hR o2.2 l i := by
        rcases w with w | w <;> subst w
        · exact (fr_RI f4 rl (by decide) (fun _ => rfl)).2.2
        · exact (fr_RI f4 rl (by decide) (fun _ => rfl)).2.2
      exact z.trans a
    have z0 : (0 : Int32).toInt = 0 := rfl
    exact lgq_28 hF (pmA_s hA rfl) hB hO ob nb ol r0 rb rl F T4 sq4 w4.1 (by rw [kR (Or.inl rfl)]; exact e1) (by rw [kR (Or.inr rfl)]; exact e2) P4 (by decide) (Int.le_refl _) (by rw [z0]; exact (thI T4 rl (k := 14) (i := 0) (lo := 0) (hi := 3000) rfl).1) (by rw [z0]; omega)
  · refine s_some ⟨T2, la_fr T1 rl r1 r2 f2 (fun _ => rfl) (fun _ _ => rfl) (fun _ _ => rfl) (fun i hi => ?_)⟩
    rw [w1, r_I, if_pos ⟨rfl, rfl⟩] at hi
    exact absurd hi (by show ¬ (i : Int) < 0; omega)
end
end
