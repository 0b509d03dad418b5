/-! addAll by its equation -/
section
variable {ρ : Nat → Nat} {c : Cm} {x0 rm re rb rk rs ro R Bc Bm F : Nat} {h0 : Hp}
theorem all_q (hF : 700000 ≤ F) (hA : pmA c seL) (Q : SlR ρ x0 rm re rb rk rs ro h0) (T : TH ρ c h0) (P : SE x0 h0) (eR : hR h0 x0 4 = some R) (eBc : hR h0 R 13 = some Bc) (eBm : hR h0 R 14 = some Bm) {o : Int32 × Hp} (e : sX15_addAll F h0 x0 = some o) (nz : ¬ o.1 = 0) : Mo ρ x0 rm re rk rs h0 o.2 ∧ ∀ k : Nat, (k : Int) < (hI o.2 x0 49).toInt → ∀ i, i < (hI o.2 rm k).toNatClampNeg → CL re rm R Bc Bm rs rk o.2 k i 9 := by
  have Q' := Q
  obtain ⟨⟨r0, qm, qe, qb, qk, qs, qo⟩, ⟨e46, e47, e48, e55, e56, e57⟩⟩ := Q'
  have qR : ρ R = 15 := rr T (thR T r0 (i := 4) (k2 := 15) rfl (by decide)) eR
  have qBc : ρ Bc = 80 := rr T (thR T qR (i := 13) (k2 := 80) rfl (by decide)) eBc
  have qBm : ρ Bm = 81 := rr T (thR T qR (i := 14) (k2 := 81) rfl (by decide)) eBm
  have nom : ¬ rm = ro := fun w => absurd (w ▸ qm) (by rw [qo]; decide)
  have noe : ¬ re = ro := fun w => absurd (w ▸ qe) (by rw [qo]; decide)
  have nox : ¬ x0 = ro := fun w => absurd (w ▸ r0) (by rw [qo]; decide)
  have noR : ¬ R = ro := fun w => absurd (w ▸ qR) (by rw [qo]; decide)
  have noBc : ¬ Bc = ro := fun w => absurd (w ▸ qBc) (by rw [qo]; decide)
  have noBm : ¬ Bm = ro := fun w => absurd (w ▸ qBm) (by rw [qo]; decide)
  have z0 : (0 : Int32).toInt = 0 := rfl
  have m5 : ∀ {g : Hp}, TH ρ c g → ∀ k, (hI g rm k).toNatClampNeg ≤ 5 := fun Tg k => by
    have i := thI Tg qm (k := 99) (i := k) (lo := 0) (hi := 5) rfl
    have := clamp_i i.1
    have := i.2
    omega
  have mr : ∀ {g : Hp}, Mo ρ x0 rm re rk rs g g := ⟨fun _ _ => rfl, fun _ => rfl, fun _ _ _ _ _ => rfl, fun _ w => w, Int.le_refl _, fun _ _ => ⟨rfl, fun _ _ => rfl⟩, fun k l1 l2 => absurd l2 (by omega)⟩
  have l2 : ∀ (f : Nat) {g : Hp} {x1 : Int32}, TH ρ c g → SE x0 g → Mo ρ x0 rm re rk rs h0 g → 0 ≤ x1.toInt → (∀ k : Nat, (k : Int) < x1.toInt → (k : Int) < (hI g x0 49).toInt → ∀ i, i < (hI g rm k).toNatClampNeg → CL re rm R Bc Bm rs rk g k i 9) → sX15_addAll_2 F f g x0 x1 = some o → Mo ρ x0 rm re rk rs h0 o.2 ∧ ∀ k : Nat, (k : Int) < (hI o.2 x0 49).toInt → ∀ i, i < (hI o.2 rm k).toNatClampNeg → CL re rm R Bc Bm rs rk o.2 k i 9 := by
    intro f
    induction f with
    | zero => intro g x1 _ _ _ _ _ e; exact absurd e (by simp [sX15_addAll_2])
    | succ f ih =>
      intro g x1 Tg Pg M a1 K e
      unfold sX15_addAll_2 at e
      replace e := br_s e; rcases e with ⟨cc, e⟩ | ⟨cc, e⟩
      · have cc := le_i cc
        have e := Option.some.inj e; subst e
        exact ⟨M, fun k hk i hi => K k (by have hk : (k : Int) < (hI g x0 49).toInt := hk; omega) hk i hi⟩
      have l1 := nle_i cc
      clear cc
      have s4 := (thI Tg r0 (k := 16) (i := 49) (lo := 0) (hi := 4096) rfl).2
      have i1 : Rg 0 4095 x1 := ⟨a1, by omega⟩
      have c1 := clamp_i a1
      -- the men of one set
      have l12 : ∀ (ff : Nat) {g : Hp} {x2 : Int32}, TH ρ c g → SE x0 g → Mo ρ x0 rm re rk rs h0 g → x1.toInt < (hI g x0 49).toInt → 0 ≤ x2.toInt → (∀ k : Nat, (k : Int) < x1.toInt → (k : Int) < (hI g x0 49).toInt → ∀ i, i < (hI g rm k).toNatClampNeg → CL re rm R Bc Bm rs rk g k i 9) → (∀ i : Nat, (i : Int) < x2.toInt → i < (hI g rm x1.toNatClampNeg).toNatClampNeg → CL re rm R Bc Bm rs rk g x1.toNatClampNeg i 9) → sX15_addAll_12 F (sX15_addAll_2 F f) ff g x0 x1 x2 = some o → Mo ρ x0 rm re rk rs h0 o.2 ∧ ∀ k : Nat, (k : Int) < (hI o.2 x0 49).toInt → ∀ i, i < (hI o.2 rm k).toNatClampNeg → CL re rm R Bc Bm rs rk o.2 k i 9 := by
        intro ff
        induction ff with
        | zero => intro g x2 _ _ _ _ _ _ _ eB; exact absurd eB (by simp [sX15_addAll_12])
        | succ ff ih2 =>
          intro g x2 Tg Pg M l1 a2 K K2 eB
          unfold sX15_addAll_12 sX15_addAll_58 at eB
          simp only [nm] at eB
          have c2 := clamp_i a2
          replace eB := cl_s eB; obtain ⟨r1, p, eB⟩ := eB
          rw [M.1] at p
          have := r_eq e46 p; subst this
          replace eB := (gd_s eB).2
          have im := thI Tg qm (k := 99) (i := x1.toNatClampNeg) (lo := 0) (hi := 5) rfl
          have cm := clamp_i im.1
          have bm5 := im.2
          replace eB := br_s eB; rcases eB with ⟨cc, eB⟩ | ⟨cc, eB⟩
          · have cc := le_i cc
            have ny := nc_s i1 (by decide)
            refine ih Tg Pg M (by omega) (fun k hk hs i hi => ?_) eB
            by_cases w : (k : Int) < x1.toInt
            · exact K k w hs i hi
            · have : k = x1.toNatClampNeg := by omega
              subst this
              exact K2 i (by omega) hi
          have l2 := nle_i cc
          clear cc
          have i2 : Rg 0 4 x2 := ⟨a2, by omega⟩
          have ix := (ix5 (x1 := x1) (x4 := x2) i1 i2).2
          replace eB := cl_s eB; obtain ⟨r5, p, eB⟩ := eB
          rw [M.1] at p
          have := r_eq e47 p; subst this
          replace eB := (gd_s eB).2
          rw [ix] at eB
          replace eB := cl_s eB; obtain ⟨o8, e8, eB⟩ := eB
          unfold sX15_manOf at e8
          have := Option.some.inj e8; subst this
          dsimp only at eB
          replace eB := cl_s eB; obtain ⟨r9, p, eB⟩ := eB
          rw [M.1] at p
          have := r_eq eR p; subst this
          have hi2 : x2.toNatClampNeg < (hI g r1 x1.toNatClampNeg).toNatClampNeg := by omega
          -- the men that it becomes
          have l61 : ∀ (f3 : Nat) {g : Hp} {x4 : Int32}, TH ρ c g → SE x0 g → Mo ρ x0 r1 r5 rk rs h0 g → x1.toInt < (hI g x0 49).toInt → (x2.toInt < (hI g r1 x1.toNatClampNeg).toInt) → 0 ≤ x4.toInt → (∀ k : Nat, (k : Int) < x1.toInt → (k : Int) < (hI g x0 49).toInt → ∀ i, i < (hI g r1 k).toNatClampNeg → CL r5 r1 r9 Bc Bm rs rk g k i 9) → (∀ i : Nat, (i : Int) < x2.toInt → i < (hI g r1 x1.toNatClampNeg).toNatClampNeg → CL r5 r1 r9 Bc Bm rs rk g x1.toNatClampNeg i 9) → CL r5 r1 r9 Bc Bm rs rk g x1.toNatClampNeg x2.toNatClampNeg x4.toInt → sX15_addAll_61 F (sX15_addAll_2 F f) (sX15_addAll_12 F (sX15_addAll_2 F f) ff) f3 g x0 x1 x2 (hI g r5 (5 * x1.toNatClampNeg + x2.toNatClampNeg)) x4 = some o → Mo ρ x0 r1 r5 rk rs h0 o.2 ∧ ∀ k : Nat, (k : Int) < (hI o.2 x0 49).toInt → ∀ i, i < (hI o.2 r1 k).toNatClampNeg → CL r5 r1 r9 Bc Bm rs rk o.2 k i 9 := by
            intro f3
            induction f3 with
            | zero => intro g x4 _ _ _ _ _ _ _ _ _ eC; exact absurd eC (by simp [sX15_addAll_61])
            | succ f3 ih3 =>
              intro g x4 Tg Pg M l1 l2 a4 K K2 K3 eC
              unfold sX15_addAll_61 at eC
              simp only [nm] at eC
              replace eC := cl_s eC; obtain ⟨r1', p, eC⟩ := eC
              rw [M.1] at p
              have := r_eq eR p; subst this
              replace eC := cl_s eC; obtain ⟨r2, p, eC⟩ := eC
              rw [M.1] at p
              have := r_eq eBm p; subst this
              replace eC := cl_s eC; obtain ⟨o3, e3, eC⟩ := eC
              unfold sX15_manOf at e3
              have := Option.some.inj e3; subst this
              dsimp only at eC
              replace eC := (gd_s eC).2
              have b6 := (thI Tg qBm (k := 81) (i := ((hI g r5 (5 * x1.toNatClampNeg + x2.toNatClampNeg) - (1 : Int32)) >>> ((1 : Int32) &&& 31)).toNatClampNeg) (lo := 0) (hi := 6) rfl).2
              have ny2 := nc_s i2 (by decide)
              replace eC := br_s eC; rcases eC with ⟨cc, eC⟩ | ⟨cc, eC⟩
              · have cc := le_i cc
                refine ih2 Tg Pg M l1 (by omega) K (fun i hi hm => ?_) eC
                by_cases w : (i : Int) < x2.toInt
                · exact K2 i w hm
                · have : i = x2.toNatClampNeg := by omega
                  subst this
                  exact ⟨K3.1, fun j j0 jn jl => K3.2 j j0 (by omega) jl⟩
              have l4 := nle_i cc
              clear cc
              have i4 : Rg 0 5 x4 := ⟨a4, by omega⟩
              have im := thI Tg qm (k := 99) (i := x1.toNatClampNeg) (lo := 0) (hi := 5) rfl
              have cm := clamp_i im.1
              have bm5 := im.2
              have iv0 := thI Tg qe (k := 100) (i := 5 * x1.toNatClampNeg + x2.toNatClampNeg) (lo := 0) (hi := 24) rfl
              have pos0 : 1 ≤ (hI g r5 (5 * x1.toNatClampNeg + x2.toNatClampNeg)).toInt := Pg.2.2.2.2.1 r1 r5 (by rw [M.1]; exact e46) (by rw [M.1]; exact e47) x1.toNatClampNeg (by omega) x2.toNatClampNeg (by omega)
              -- the row is copied
              have l81 : ∀ (f4 : Nat) {g2 : Hp} {x5 : Int32}, TH ρ c g2 → SE x0 g2 → Mo ρ x0 r1 r5 rk rs g g2 → (∀ a i, ¬ a = ro → hI g2 a i = hI g a i) → 0 ≤ x5.toInt → x5.toInt ≤ (hI g r1 x1.toNatClampNeg).toInt → RW x0 x5.toInt g2 → (∀ p : Nat, (p : Int) < x5.toInt → hI g2 ro p = hI g r5 (5 * x1.toNatClampNeg + p)) → sX15_addAll_81 F (sX15_addAll_2 F f) (sX15_addAll_12 F (sX15_addAll_2 F f) ff) (sX15_addAll_61 F (sX15_addAll_2 F f) (sX15_addAll_12 F (sX15_addAll_2 F f) ff) f3) f4 g2 x0 x1 x2 (hI g r5 (5 * x1.toNatClampNeg + x2.toNatClampNeg)) x4 x5 = some o → Mo ρ x0 r1 r5 rk rs h0 o.2 ∧ ∀ k : Nat, (k : Int) < (hI o.2 x0 49).toInt → ∀ i, i < (hI o.2 r1 k).toNatClampNeg → CL r5 r1 r1' Bc r2 rs rk o.2 k i 9 := by
                intro f4
                induction f4 with
                | zero => intro g2 x5 _ _ _ _ _ _ _ _ eD; exact absurd eD (by simp [sX15_addAll_81])
                | succ f4 ih4 =>
                  intro g2 x5 T2 P2 M2 kI a5 b5 W rows eD
                  have hR2 : ∀ a i, hR g2 a i = hR h0 a i := fun a i => (M2.1 a i).trans (M.1 a i)
                  unfold sX15_addAll_81 at eD
                  simp only [nm] at eD
                  have c5 := clamp_i a5
                  replace eD := cl_s eD; obtain ⟨q1, p, eD⟩ := eD
                  rw [hR2] at p
                  have := r_eq e46 p; subst this
                  replace eD := (gd_s eD).2
                  have km : hI g2 q1 x1.toNatClampNeg = hI g q1 x1.toNatClampNeg := kI q1 _ nom
                  rw [km] at eD
                  replace eD := br_s eD; rcases eD with ⟨cc, eD⟩ | ⟨cc, eD⟩
                  · have cc := le_i cc
                    replace eD := cl_s eD; obtain ⟨q4, p, eD⟩ := eD
                    rw [hR2] at p
                    have := r_eq e57 p; subst this
                    replace eD := cl_s eD; obtain ⟨q5, p, eD⟩ := eD
                    rw [hR2] at p
                    have := r_eq eR p; subst this
                    replace eD := cl_s eD; obtain ⟨q6, p, eD⟩ := eD
                    rw [hR2] at p
                    have := r_eq eBc p; subst this
                    replace eD := cl_s eD; obtain ⟨o7, e7, eD⟩ := eD
                    unfold sX15_manOf at e7
                    have := Option.some.inj e7; subst this
                    dsimp only at eD
                    replace eD := (gd_s eD).2
                    replace eD := cl_s eD; obtain ⟨o9, e9, eD⟩ := eD
                    unfold sX15_sideOf at e9
                    have := Option.some.inj e9; subst this
                    dsimp only at eD
                    replace eD := cl_s eD; obtain ⟨o10, e10, eD⟩ := eD
                    unfold sX15_valueOf at e10
                    have := Option.some.inj e10; subst this
                    dsimp only at eD
                    rw [kI q6 _ noBc] at eD
                    replace eD := (gd_s eD).2
                    have iv := val_r (thI Tg qBc (k := 80) (i := (((6 : Int32) * ((hI g r5 (5 * x1.toNatClampNeg + x2.toNatClampNeg) - (1 : Int32)) >>> ((1 : Int32) &&& 31))) + x4).toNatClampNeg) (lo := 0) (hi := 11) rfl) (side_r (x := hI g r5 (5 * x1.toNatClampNeg + x2.toNatClampNeg) - (1 : Int32)))
                    generalize hvv : (((1 : Int32) + ((2 : Int32) * (hI g q6 (((6 : Int32) * ((hI g r5 (5 * x1.toNatClampNeg + x2.toNatClampNeg) - (1 : Int32)) >>> ((1 : Int32) &&& 31))) + x4).toNatClampNeg))) + ((hI g r5 (5 * x1.toNatClampNeg + x2.toNatClampNeg) - (1 : Int32)) &&& (1 : Int32))) = vv at eD iv
                    have T12 : TH ρ c (wI g2 q4 x2.toNatClampNeg vv) := th_wI T2 qo (k := 108) (lo := 0) (hi := 24) rfl (rg_m iv (by decide)) (by decide) (by decide) (pm_a hA rfl)
                    obtain ⟨P12, _, W12⟩ := row_w (n := x5.toInt) T2 r0 (by rw [hR2]; exact e57) qo rfl P2 rfl (Or.inl iv.1) W
                    replace eD := cl_s eD; obtain ⟨q13, p, eD⟩ := eD
                    replace p : hR g2 x0 46 = some q13 := p
                    rw [hR2] at p
                    have := r_eq e46 p; subst this
                    replace eD := (gd_s eD).2
                    have km2 : hI (wI g2 q4 x2.toNatClampNeg vv) q13 x1.toNatClampNeg = hI g q13 x1.toNatClampNeg := by rw [r_I, if_neg (fun w => nom w.1)]; exact km
                    rw [km2] at eD
                    replace eD := cl_s eD; obtain ⟨o15, e15, eD⟩ := eD
                    have M12 : Mo ρ x0 q13 r5 rk rs g (wI g2 q4 x2.toNatClampNeg vv) := mo_t (m5 T2) M2 (mo_w qs qk qo qm qe r0)
                    have Q12 := slr_mo (slr_mo Q M) M12
                    have e5 : x5.toInt = (hI g q13 x1.toNatClampNeg).toInt := by omega
                    rw [e5] at W12
                    obtain ⟨⟨t1, t2⟩, u⟩ := ads_t hF hA Q12 T12 P12 im W12 e15
                    replace eD := br_s eD; rcases eD with ⟨_, eD⟩ | ⟨nz15, eD⟩
                    · rw [← Option.some.inj eD] at nz; exact absurd rfl nz
                    obtain ⟨u1, f, f1, f2, f3'⟩ := u nz15
                    have MM : Mo ρ x0 q13 r5 rk rs g o15.2 := mo_t (m5 T12) M12 u1
                    have ny := nc_s i4 (by decide)
                    have k1 : hI o15.2 q13 x1.toNatClampNeg = hI g q13 x1.toNatClampNeg := (MM.2.2.2.2.2.1 x1.toNatClampNeg (by omega)).1
                    have k2 : ∀ i, i < 5 → hI o15.2 r5 (5 * x1.toNatClampNeg + i) = hI g r5 (5 * x1.toNatClampNeg + i) := (MM.2.2.2.2.2.1 x1.toNatClampNeg (by omega)).2
                    rw [← k2 x2.toNatClampNeg (by omega)] at eD
                    refine ih3 t1 t2 (mo_t (m5 Tg) M MM) (by have := MM.2.2.2.2.1; omega) (by rw [k1]; exact l2) (by omega) (fun k hk hs i hi => ?_) (fun i hi hm => ?_) ?_ eD
                    · have hk' : (k : Int) < (hI g x0 49).toInt := by omega
                      rw [(MM.2.2.2.2.2.1 k hk').1] at hi
                      exact cl_mono qR qBc qBm r0 (m5 Tg) MM hk' hi (K k hk hk' i hi)
                    · rw [k1] at hm
                      exact cl_mono qR qBc qBm r0 (m5 Tg) MM (by omega) hm (K2 i hi hm)
                    · have K3' := cl_mono qR qBc qBm r0 (m5 Tg) MM (by omega) (by omega) K3
                      refine ⟨K3'.1, fun j j0 jn jl => ?_⟩
                      by_cases w : j.toInt < x4.toInt
                      · exact K3'.2 j j0 w jl
                      · have : j = x4 := Int32.toInt_inj.mp (by omega)
                        subst this
                        rw [k1, k2 _ (by omega), MM.2.2.1 q6 _ (by rw [qBc]; decide) (by rw [qBc]; decide) (fun w => absurd (w.1 ▸ qBc) (by rw [r0]; decide)), hvv]
                        refine ⟨f, f1, fun v => ?_, f3'⟩
                        rw [f2 v]
                        refine cn_eq _ (fun p hp => ?_)
                        show hI (wI g2 q4 x2.toNatClampNeg vv) q4 p = up (fun p => hI o15.2 r5 (5 * x1.toNatClampNeg + p)) x2.toNatClampNeg vv p
                        unfold up
                        rw [r_I]
                        by_cases w2 : p = x2.toNatClampNeg
                        · rw [if_pos ⟨rfl, w2⟩, if_pos w2]
                        · rw [if_neg (fun z => w2 z.2), if_neg w2]
                          exact (rows p (by omega)).trans (k2 p (by omega)).symm
                  · have cc := nle_i cc
                    replace eD := cl_s eD; obtain ⟨q18, p, eD⟩ := eD
                    rw [hR2] at p
                    have := r_eq e57 p; subst this
                    replace eD := cl_s eD; obtain ⟨q19, p, eD⟩ := eD
                    rw [hR2] at p
                    have := r_eq e47 p; subst this
                    replace eD := (gd_s eD).2
                    replace eD := (gd_s eD).2
                    have i5 : Rg 0 4 x5 := ⟨a5, by omega⟩
                    have ix := (ix5 (x1 := x1) (x4 := x5) i1 i5).2
                    rw [ix, kI q19 _ noe] at eD
                    have ny := nc_s i5 (by decide)
                    have iv := thI Tg qe (k := 100) (i := 5 * x1.toNatClampNeg + x5.toNatClampNeg) (lo := 0) (hi := 24) rfl
                    have pos : 1 ≤ (hI g q19 (5 * x1.toNatClampNeg + x5.toNatClampNeg)).toInt := Pg.2.2.2.2.1 q1 q19 (by rw [M.1]; exact e46) (by rw [M.1]; exact e47) x1.toNatClampNeg (by omega) x5.toNatClampNeg (by omega)
                    have T3 : TH ρ c (wI g2 q18 x5.toNatClampNeg (hI g q19 (5 * x1.toNatClampNeg + x5.toNatClampNeg))) := th_wI T2 qo (k := 108) (lo := 0) (hi := 24) rfl iv (by decide) (by decide) (pm_a hA rfl)
                    obtain ⟨P3, _, _⟩ := row_w (n := x5.toInt) T2 r0 (by rw [hR2]; exact e57) qo rfl P2 rfl (Or.inl pos) W
                    refine ih4 T3 P3 (mo_t (m5 T2) M2 (mo_w qs qk qo qm qe r0)) (fun a i na => by rw [r_I, if_neg (fun w => na w.1)]; exact kI a i na) (by omega) (by omega) ?_ (fun p hp => ?_) eD
                    · intro ro' er i hi
                      replace er : hR g2 x0 57 = some ro' := er
                      rw [hR2] at er
                      have := r_eq e57 er; subst this
                      rw [r_I]
                      by_cases w : i = x5.toNatClampNeg
                      · rw [if_pos ⟨rfl, w⟩]; exact pos
                      · rw [if_neg (fun z => w z.2)]
                        exact W ro' (by rw [hR2]; exact e57) i (by omega)
                    · rw [r_I]
                      by_cases w : p = x5.toNatClampNeg
                      · rw [if_pos ⟨rfl, w⟩, w]
                      · rw [if_neg (fun z => w z.2)]
                        exact rows p (by omega)
              exact l81 F Tg Pg mr (fun _ _ _ => rfl) (by decide) (by rw [z0]; exact im.1) (fun _ _ i hi => absurd hi (by rw [z0]; omega)) (fun p hp => absurd hp (by rw [z0]; omega)) eC
          replace eB := br_s eB; rcases eB with ⟨cr, eB⟩ | ⟨cr, eB⟩
          · exact l61 F Tg Pg M l1 l2 (by decide) K K2 ⟨fun w => absurd cr w, fun j j0 jn => absurd jn (by rw [z0]; omega)⟩ eB
          · replace eB := cl_s eB; obtain ⟨o11, e11, eB⟩ := eB
            obtain ⟨⟨t1, t2⟩, u⟩ := cwo_q hF hA (slr_mo Q M) Tg Pg i1 l1 a2 l2 e11
            replace eB := br_s eB; rcases eB with ⟨_, eB⟩ | ⟨nz11, eB⟩
            · rw [← Option.some.inj eB] at nz; exact absurd rfl nz
            obtain ⟨u1, u2⟩ := u nz11
            have k1 : hI o11.2 r1 x1.toNatClampNeg = hI g r1 x1.toNatClampNeg := (u1.2.2.2.2.2.1 x1.toNatClampNeg (by omega)).1
            have k2 : ∀ i, i < 5 → hI o11.2 r5 (5 * x1.toNatClampNeg + i) = hI g r5 (5 * x1.toNatClampNeg + i) := (u1.2.2.2.2.2.1 x1.toNatClampNeg (by omega)).2
            rw [← k2 x2.toNatClampNeg (by omega)] at eB
            refine l61 F t1 t2 (mo_t (m5 Tg) M u1) (by have := u1.2.2.2.2.1; omega) (by rw [k1]; exact l2) (by decide) (fun k hk hs i hi => ?_) (fun i hi hm => ?_) ⟨fun _ => ?_, fun j j0 jn => absurd jn (by rw [z0]; omega)⟩ eB
            · have hk' : (k : Int) < (hI g x0 49).toInt := by omega
              rw [(u1.2.2.2.2.2.1 k hk').1] at hi
              exact cl_mono qR qBc qBm r0 (m5 Tg) u1 hk' hi (K k hk hk' i hi)
            · rw [k1] at hm
              exact cl_mono qR qBc qBm r0 (m5 Tg) u1 (by omega) hm (K2 i hi hm)
            · rw [k1]
              obtain ⟨f, f1, f2, f3⟩ := u2
              refine ⟨f, f1, fun v => ?_, f3⟩
              rw [f2 v]
              refine cn_eq _ (fun p hp => ?_)
              unfold sk
              split
              · exact (k2 p (by omega)).symm
              · exact (k2 (p + 1) (by omega)).symm
      exact l12 F Tg Pg M l1 (by decide) K (fun i hi => absurd hi (by rw [z0]; omega)) e
  unfold sX15_addAll at e
  exact l2 F T P mr (by decide) (fun k hk => absurd hk (by rw [z0]; omega)) e
end
