section
/-! positions: men, read by both -/
def mV (h : Hp) (a : Nat) : Nat → Int := fun s => (hI h a s).toInt
def PMe (V : Nat → Nat) (hc hr : Hp) : Prop := PosC hc (V 34) (V 35) (V 36) (mV hr (V 62)) (hI hc (V 2) 4).toInt
abbrev wcM : List (Nat × Nat) := [(7, 2), (34, 999), (35, 999), (36, 999), (4, 7)]
abbrev wrM : List (Nat × Nat) := [(16, 19), (62, 999)]
def EmV (V : Nat → Nat) (hr : Hp) (b f : Int) : Prop := ∀ s : Nat, s < 64 → 0 < mV hr (V 62) s → b + (hI hr (V 16) 11).toInt ≤ s ∨ (b ≤ s ∧ (s : Int) < b + f)
def RkR (V : Nat → Nat) (N : Int32) (hc hr : Hp) (o o' : Int32 × Hp) : Prop := (o.1 = 0 ∧ o'.1 = 0 ∧ AtV V N o.2 o'.2) ∨ (o.1 = 1 ∧ FrV V (wl wcM) hc o.2 ∧ ∃ g, FrV V (wl wrM) hr g ∧ RdV V N o.2 g ∧ PMe V o.2 g ∧ sX15_reads g (V 16) (32 : Int32) = some o')
theorem posc_k {h h' : Hp} {on of ra : Nat} {M M' : Nat → Int} {ro : Int} (P : PosC h on of ra M ro) (a : ∀ i, hI h' on i = hI h on i) (b : ∀ i, hI h' ra i = hI h ra i) (c : ∀ i, hJ h' of i = hJ h of i) (m : ∀ s, s < 64 → M' s = M s) : PosC h' on of ra M' ro := by
  obtain ⟨p1, p2, p3, p4⟩ := P
  refine ⟨fun s hs => by rw [a, m s hs]; exact p1 s hs, fun d hd s hs => by rw [c, m s hs]; exact p2 d hd s hs, fun d hd => by rw [b]; exact roa_c (p3 d hd) m, fun s hs => by rw [m s hs]; exact p4 s hs⟩
section
variable {F : Nat} {V : Nat → Nat} {N : Int32} {hc hr oc or : Hp} {o o' : Int32 × Hp}
theorem rkr_t {g g' : Hp} (A : FrV V (wl wcM) hc g) (B : FrV V (wl wrM) hr g') (R : RkR V N g g' o o') : RkR V N hc hr o o' := by
  rcases R with r | ⟨r1, r2, q, r3, r4⟩
  · exact Or.inl r
  · exact Or.inr ⟨r1, fv_t A r2, q, fv_t B r3, r4⟩
/-- a figure 1 .. 8 -/
theorem fig_b {x y : Int32} {P : Prop} (H : (x = (-1 : Int32) ∧ y = (-1 : Int32) ∧ P) ∨ (hI hc (V 7) 2).toInt < N.toInt ∧ Rg 0 255 x ∧ y.toInt = sg x.toInt) : (Rg 49 56 x ∧ y = x ∧ (hI hc (V 7) 2).toInt < N.toInt) ∨ (¬ (49 ≤ x.toInt ∧ x.toInt ≤ 56) ∧ ¬ (49 ≤ y.toInt ∧ y.toInt ≤ 56)) := by
  have zm : (-1 : Int32).toInt = -1 := by decide
  rcases H with ⟨h1, h2, _⟩ | ⟨l, h2, h3⟩
  · rw [h1, h2, zm]
    exact Or.inr ⟨by omega, by omega⟩
  · have d1 := h2.1
    have d2 := h2.2
    have sy : (y.toInt = x.toInt ∧ x.toInt < 128) ∨ (y.toInt = x.toInt - 256 ∧ 128 ≤ x.toInt) := by
      rw [h3]
      unfold sg
      split <;> omega
    by_cases c : 49 ≤ x.toInt ∧ x.toInt ≤ 56
    · exact Or.inl ⟨⟨c.1, c.2⟩, Int32.toInt_inj.mp (by omega), l⟩
    · exact Or.inr ⟨c, by omega⟩
theorem put_f {x1 x2 x3 : Int32} {h o : Hp} (R : ∀ a i, hR o a i = hR h a i) (I : ∀ a i, ¬ a = V 34 → ¬ a = V 36 → hI o a i = hI h a i) (J : ∀ a i, ¬ a = V 35 → ¬ (a = V 4 ∧ i = 7) → hJ o a i = hJ h a i) : FrV V (wl wcM) h o := ⟨R, fun a i n => ⟨I a i (n 34 (wl_i (j := 999) (by decide) (Or.inr rfl))) (n 36 (wl_i (j := 999) (by decide) (Or.inr rfl))), J a i (n 35 (wl_i (j := 999) (by decide) (Or.inr rfl))) (fun z => n 4 (by rw [z.2]; rfl) z.1)⟩⟩
theorem rk_40 (D : VD V) {x2 : Int32} {K K' : Hp → Nat → Nat → Int32 → Option (Int32 × Hp)} (HK : ∀ {hc hr : Hp}, RdV V N hc hr → VPc V hc → VPr V hr → PMe V hc hr → EmV V hr (x2.toInt * (hI hr (V 16) 11).toInt) (hI hr (V 16) 11).toInt → x2.toInt < (hI hr (V 16) 12).toInt → (nm (x2 + (-1 : Int32)) fun v_3 => K hc (V 7) (V 4) v_3) = some o → br (x2 ≤ 0) (sX15_readMen_130 F K' hr (V 16) (V 13) x2) (cl (sX15_reads hr (V 16) (47 : Int32)) fun o_3 => br (o_3.1 = 0) (some ((0 : Int32), o_3.2)) (sX15_readMen_130 F K' o_3.2 (V 16) (V 13) x2)) = some o' → RkR V N hc hr o o') : ∀ (f g : Nat) {hc hr : Hp} {x3 : Int32}, RdV V N hc hr → VPc V hc → VPr V hr → PMe V hc hr → EmV V hr (x2.toInt * (hI hr (V 16) 11).toInt) x3.toInt → 0 ≤ x2.toInt → x2.toInt < (hI hr (V 16) 12).toInt → 0 ≤ x3.toInt → x3.toInt ≤ (hI hr (V 16) 11).toInt → sX7_readRanks_40 F K f hc (V 7) (V 4) x2 x3 = some o → sX15_readMen_13 F K' g hr (V 16) (V 13) x2 x3 = some o' → RkR V N hc hr o o' := by
  have z1 : (1 : Int32).toInt = 1 := rfl
  have z0 : (0 : Int32).toInt = 0 := rfl
  have z48 : (48 : Int32).toInt = 48 := rfl
  have z49 : (49 : Int32).toInt = 49 := rfl
  have z56 : (56 : Int32).toInt = 56 := rfl
  have zm : (-1 : Int32).toInt = -1 := by decide
  intro f
  induction f with
  | zero => intro g hc hr x3 _ _ _ _ _ _ _ _ _ e; exact absurd e (by rw [sX7_readRanks_40]; exact fun z => nomatch z)
  | succ f ih =>
    intro g hc hr x3 S Pc Pr Pm Em a2 b2 a3 b3 e e'
    cases g with
    | zero => exact absurd e' (by rw [sX15_readMen_13]; exact fun z => nomatch z)
    | succ g =>
      rw [sX7_readRanks_40] at e
      rw [sX15_readMen_13] at e'
      obtain ⟨g1, g2, g3, g4⟩ := S.2.2.2.2.1
      obtain ⟨p1, p2, p3⟩ := S.2.2.2.1
      have n12 := S.2.2.1.2.2.1.2
      have f0 := g3.1
      have f1 := g3.2
      have r0 := g4.1
      have r1 := g4.2
      rw [g1] at f0 f1
      rw [g2] at r0 r1
      replace e := ce_e S.1.1 e
      rcases br_2 (by rw [g1]) e e' with ⟨l, e, e'⟩ | ⟨l, e, e'⟩
      · have l := le_i l
        rw [g1] at l
        exact HK S Pc Pr Pm (by rw [show (hI hr (V 16) 11).toInt = x3.toInt by omega] at Em ⊢; exact Em) b2 e e'
      have l := nle_i l
      rw [g1] at l
      replace e := ce_e S.1.2.1 e
      replace e := cl_s e; obtain ⟨o5, eo5, e⟩ := e
      replace e' := cl_s e'; obtain ⟨k5, ek5, e'⟩ := e'
      obtain ⟨w5, u5, H⟩ := by_p S eo5 ek5
      rw [w5] at e
      rw [u5] at e'
      replace e := ce_e S.1.1 e
      replace e := cl_s e; obtain ⟨o7, eo7, e⟩ := e
      replace e' := cl_s e'; obtain ⟨k6, ek6, e'⟩ := e'
      obtain ⟨w7, u6, alt⟩ := man_p S H eo7 ek6
      rw [w7] at e
      rw [u6] at e'
      rcases alt with ⟨cn, rn⟩ | ⟨rv, cv, lt⟩
      · -- no man: a figure, or a fault
        replace e' := bp_e (by rw [rn]; decide) e'
        unfold sX7_readRanks_97 sX7_readRanks_98 sX7_readRanks_125 sX7_readRanks_127 sX7_readRanks_157 sX7_readRanks_170 at e
        unfold sX15_readMen_100 sX15_readMen_102 at e'
        have bad : some ((0 : Int32), hc) = some o → some ((0 : Int32), hr) = some o' → RkR V N hc hr o o' := fun u u' => by
          rw [so_e u, so_e u']
          exact Or.inl ⟨rfl, rfl, S.2.2.2.1⟩
        rcases fig_b H with ⟨rg, yx, lt⟩ | ⟨m1, m2⟩
        · have q0 := rg.1
          have q1 := rg.2
          rw [yx] at e'
          replace e := bn_e (fun z => by have := lt_i z; rw [z49] at this; omega) e
          replace e := bn_e (fun z => by have := lt_i z; rw [z56] at this; omega) e
          replace e' := bn_e (fun z => by have := lt_i z; rw [z49] at this; omega) e'
          replace e' := bn_e (fun z => by have := lt_i z; rw [z56] at this; omega) e'
          have t48 : (o5.1 - (48 : Int32)).toInt = o5.1.toInt - 48 := by rw [ts (by rw [z48]; omega), z48]
          have tc : (x3 + (o5.1 - (48 : Int32))).toInt = x3.toInt + o5.1.toInt - 48 := by rw [ta (by rw [t48]; omega), t48]; omega
          have ta' : (x3 + o5.1).toInt = x3.toInt + o5.1.toInt := ta (by omega)
          have tr : ((x3 + o5.1) - (48 : Int32)).toInt = x3.toInt + o5.1.toInt - 48 := by rw [ts (by rw [ta', z48]; omega), ta', z48]
          replace e := bp_e cn e
          replace e := bn_e (fun z => by rw [z, z0] at t48; omega) e
          replace e := ce_e S.1.1 e
          rcases br_s e with ⟨c, e⟩ | ⟨c, e⟩
          · have c := le_i c
            rw [tc, g1] at c
            replace e' := bn_e (fun z => by have := lt_i z; rw [tr] at this; omega) e'
            replace e := bp_e cn e
            replace e := bp_e cn e
            replace e := nx_e e
            replace e := nm_s e; obtain ⟨h2, w2, e⟩ := e
            replace e' := nx_e e'
            replace e' := nm_s e'; obtain ⟨k2, v2, e'⟩ := e'
            have S' : RdV V N h2 k2 := by rw [w2, v2]; exact at_1 D S lt
            have A : FrV V (wl wcM) hc h2 := by rw [w2]; exact fv_w rfl
            have B : FrV V (wl wrM) hr k2 := by rw [v2]; exact fv_w rfl
            have row : ∀ i, hI k2 (V 62) i = hI hr (V 62) i := fun i => by rw [v2, rI_a (vne D)]
            have fl : hI k2 (V 16) 11 = hI hr (V 16) 11 := by rw [v2, rI_o (by decide)]
            have rk : hI k2 (V 16) 12 = hI hr (V 16) 12 := by rw [v2, rI_o (by decide)]
            have mv : ∀ s, mV k2 (V 62) s = mV hr (V 62) s := fun s => by unfold mV; rw [row]
            have P' : PMe V h2 k2 := by
              unfold PMe
              rw [show hI h2 (V 2) 4 = hI hc (V 2) 4 by rw [w2, rI_a (vne D)]]
              exact posc_k Pm (fun i => by rw [w2, rI_a (vne D)]) (fun i => by rw [w2, rI_a (vne D)]) (fun i => by rw [w2]; rfl) (fun s _ => mv s)
            refine rkr_t A B (ih g S' (vpc_f Pc A) (vpr_f Pr B) P' (fun s hs => ?_) a2 (by rw [rk]; exact b2) (by rw [tc]; omega) (by rw [tc, fl]; omega) e e')
            rw [mv, fl, tc]
            intro z
            have := Em s hs z
            omega
          · have c := nle_i c
            rw [tc, g1] at c
            replace e' := bp_e (ii_lt.mpr (by rw [tr]; omega)) e'
            exact bad e e'
        · have ec : some ((0 : Int32), hc) = some o := by
            have gone : br (o7.1 = (-1 : Int32)) (br ((0 : Int32) = 0) (some ((0 : Int32), hc)) (cl (hR hc (V 7) 0) fun r_3 => br ((x3 + (0 : Int32)) ≤ (hI hc r_3 0)) (sX7_readRanks_127 F K (sX7_readRanks_40 F K f) hc (V 7) (V 4) x2 x3 o7.1 (0 : Int32)) (some ((0 : Int32), hc)))) (sX7_readRanks_127 F K (sX7_readRanks_40 F K f) hc (V 7) (V 4) x2 x3 o7.1 (0 : Int32)) = some o → some ((0 : Int32), hc) = some o := fun u => bp_e rfl (bp_e cn u)
            rcases br_s e with ⟨_, e⟩ | ⟨c, e⟩
            · exact gone e
            have c := nlt_i c
            rw [z49] at c
            rcases br_s e with ⟨_, e⟩ | ⟨c', e⟩
            · exact gone e
            have c' := nlt_i c'
            rw [z56] at c'
            omega
          have er : some ((0 : Int32), hr) = some o' := by
            rcases br_s e' with ⟨_, e'⟩ | ⟨c, e'⟩
            · exact e'
            have c := nlt_i c
            rw [z49] at c
            rcases br_s e' with ⟨_, e'⟩ | ⟨c', e'⟩
            · exact e'
            have c' := nlt_i c'
            rw [z56] at c'
            omega
          exact bad ec er
      · -- a man
        have v1 := rv.1
        have v24 := rv.2
        have tv : (k6.1 - (1 : Int32)).toInt = k6.1.toInt - 1 := by rw [ts (by rw [z1]; omega), z1]
        have cd : o7.1.toInt = k6.1.toInt - 1 := by rw [cv, tv]
        have nn : ¬ o7.1 = (-1 : Int32) := fun z => by rw [z, zm] at cd; omega
        replace e' := bn_e (fun z => by have := le_i z; rw [z0] at this; omega) e'
        have cm : ∀ {t0 : Int32}, sX7_readRanks_98 F K (sX7_readRanks_40 F K f) hc (V 7) (V 4) x2 x3 o7.1 t0 = some o → ∃ h4, sX3_put hc (V 4) ((x2 * (hI hc (V 2) 0)) + x3) o7.1 (hI hc (V 2) 4) = some h4 ∧ sX7_readRanks_40 F K f (wI h4 (V 7) 2 ((hI h4 (V 7) 2) + (1 : Int32))) (V 7) (V 4) x2 (x3 + (1 : Int32)) = some o := fun {t0} u => by
          unfold sX7_readRanks_98 sX7_readRanks_127 sX7_readRanks_157 sX7_readRanks_170 at u
          replace u := bn_e nn u
          replace u := bn_e nn u
          replace u := ce_e S.1.1 u
          replace u := ce_e S.1.1 u
          replace u := cl_s u; obtain ⟨h4, eh4, u⟩ := u
          replace u := bn_e nn u
          exact ⟨h4, eh4, u⟩
        have ce : ∃ h4, sX3_put hc (V 4) ((x2 * (hI hc (V 2) 0)) + x3) o7.1 (hI hc (V 2) 4) = some h4 ∧ sX7_readRanks_40 F K f (wI h4 (V 7) 2 ((hI h4 (V 7) 2) + (1 : Int32))) (V 7) (V 4) x2 (x3 + (1 : Int32)) = some o := by
          unfold sX7_readRanks_97 at e
          rcases br_s e with ⟨_, e⟩ | ⟨_, e⟩
          · exact cm e
          rcases br_s e with ⟨_, e⟩ | ⟨_, e⟩
          · exact cm e
          · exact cm e
        obtain ⟨h4, eh4, e⟩ := ce
        rw [g1] at eh4
        -- the square
        have mul : 0 ≤ x2.toInt * (hI hr (V 16) 11).toInt ∧ x2.toInt * (hI hr (V 16) 11).toInt ≤ 56 := by
          have m1 := Int.mul_nonneg a2 (show 0 ≤ (hI hr (V 16) 11).toInt by omega)
          have m2 : x2.toInt * (hI hr (V 16) 11).toInt ≤ 7 * 8 := Int.mul_le_mul (by omega) f1 (by omega) (by decide)
          exact ⟨m1, by omega⟩
        have tmm : (x2 * (hI hr (V 16) 11)).toInt = x2.toInt * (hI hr (V 16) 11).toInt := tm (by omega)
        have tsq : ((x2 * (hI hr (V 16) 11)) + x3).toInt = x2.toInt * (hI hr (V 16) 11).toInt + x3.toInt := by rw [ta (by rw [tmm]; omega), tmm]
        have sq : Rg 0 63 ((x2 * (hI hr (V 16) 11)) + x3) := ⟨by rw [tsq]; omega, by rw [tsq]; omega⟩
        have csq := nc_i sq.1
        have sq63 := sq.2
        have em : mV hr (V 62) ((x2 * (hI hr (V 16) 11)) + x3).toNatClampNeg = 0 := by
          have lo := (Pm.2.2.2 ((x2 * (hI hr (V 16) 11)) + x3).toNatClampNeg (by omega)).1
          by_cases c : 0 < mV hr (V 62) ((x2 * (hI hr (V 16) 11)) + x3).toNatClampNeg
          · have := Em _ (by omega) c
            omega
          · omega
        obtain ⟨q1, q2, q3, q4, _⟩ := put_c Pc.1 Pc.2.1 Pc.2.2.1 (vne D) (vne D) sq (show Rg (-1) 23 o7.1 from ⟨by omega, by omega⟩) Pm (Or.inl em) eh4
        have A4 : FrV V (wl wcM) hc h4 := put_f (x1 := o7.1) (x2 := o7.1) (x3 := o7.1) q2 q3 q4
        replace e' := ce_e Pr.1 e'
        replace e' := gg_e e'
        replace e' := nm_s e'; obtain ⟨k14, v14, e'⟩ := e'
        replace e' := nx_e e'
        unfold sX15_readMen_102 at e'
        replace e' := nm_s e'; obtain ⟨k2, v2, e'⟩ := e'
        have A : FrV V (wl wcM) hc (wI h4 (V 7) 2 ((hI h4 (V 7) 2) + (1 : Int32))) := fv_t A4 (fv_w rfl)
        have B : FrV V (wl wrM) hr k2 := fv_t (g2 := k14) (by rw [v14]; exact fv_w (wl_i (j := 999) (by decide) (Or.inr rfl))) (by rw [v2]; exact fv_w rfl)
        have a7 : hI h4 (V 7) 2 = hI hc (V 7) 2 := q3 _ _ (vne D) (vne D)
        have b19 : hI k14 (V 16) 19 = hI hr (V 16) 19 := by rw [v14, rI_a (vne D)]
        have at' : AtV V N (wI h4 (V 7) 2 ((hI h4 (V 7) 2) + (1 : Int32))) k2 := by
          refine ⟨?_, ?_, ?_⟩
          · rw [rI_s, v2, rI_s, a7, b19, p1]
          · rw [rI_s, a7, ta (by rw [z1]; omega), z1]; omega
          · rw [rI_s, a7, ta (by rw [z1]; omega), z1]; omega
        have S' := rdv_w D S (sub_l A (by decide)) (sub_l B (by decide)) at'
        have row : ∀ i, hI k2 (V 62) i = if i = ((x2 * (hI hr (V 16) 11)) + x3).toNatClampNeg then k6.1 else hI hr (V 62) i := fun i => by
          rw [v2, rI_a (vne D), v14, r_I]
          by_cases c : i = ((x2 * (hI hr (V 16) 11)) + x3).toNatClampNeg
          · rw [if_pos ⟨rfl, c⟩, if_pos c]
          · rw [if_neg (fun z => c z.2), if_neg c]
        have fl : hI k2 (V 16) 11 = hI hr (V 16) 11 := by rw [v2, rI_o (by decide), v14, rI_a (vne D)]
        have rk : hI k2 (V 16) 12 = hI hr (V 16) 12 := by rw [v2, rI_o (by decide), v14, rI_a (vne D)]
        have mv : ∀ s, mV k2 (V 62) s = updM (mV hr (V 62)) ((x2 * (hI hr (V 16) 11)) + x3).toNatClampNeg (o7.1.toInt + 1) s := fun s => by
          unfold mV updM
          rw [row]
          by_cases c : s = ((x2 * (hI hr (V 16) 11)) + x3).toNatClampNeg
          · rw [if_pos c, if_pos c]; omega
          · rw [if_neg c, if_neg c]
        have P' : PMe V (wI h4 (V 7) 2 ((hI h4 (V 7) 2) + (1 : Int32))) k2 := by
          unfold PMe
          rw [show hI (wI h4 (V 7) 2 ((hI h4 (V 7) 2) + (1 : Int32))) (V 2) 4 = hI hc (V 2) 4 by rw [rI_a (vne D), q3 _ _ (vne D) (vne D)]]
          exact posc_k q1 (fun i => rI_a (vne D)) (fun i => rI_a (vne D)) (fun i => rfl) (fun s _ => mv s)
        have t3 : (x3 + (1 : Int32)).toInt = x3.toInt + 1 := by rw [ta (by rw [z1]; omega), z1]
        refine rkr_t A B (ih g S' (vpc_f Pc A) (vpr_f Pr B) P' (fun s hs => ?_) a2 (by rw [rk]; exact b2) (by rw [t3]; omega) (by rw [t3, fl]; omega) e e')
        rw [mv, fl, t3]
        intro z
        by_cases c : s = ((x2 * (hI hr (V 16) 11)) + x3).toNatClampNeg
        · right
          rw [c]
          omega
        · rw [upm_o c] at z
          have := Em s hs z
          omega
/-- behind a rank -/
theorem rk_out (D : VD V) : ∀ (f g : Nat) {hc hr : Hp} {x2 : Int32}, RdV V N hc hr → VPc V hc → VPr V hr → PMe V hc hr → EmV V hr (x2.toInt * (hI hr (V 16) 11).toInt) (hI hr (V 16) 11).toInt → 0 ≤ x2.toInt → x2.toInt < (hI hr (V 16) 12).toInt → (nm (x2 + (-1 : Int32)) fun v_3 => sX7_readRanks_10 F f hc (V 7) (V 4) v_3) = some o → br (x2 ≤ 0) (sX15_readMen_130 F (sX15_readMen_7 F g) hr (V 16) (V 13) x2) (cl (sX15_reads hr (V 16) (47 : Int32)) fun o_3 => br (o_3.1 = 0) (some ((0 : Int32), o_3.2)) (sX15_readMen_130 F (sX15_readMen_7 F g) o_3.2 (V 16) (V 13) x2)) = some o' → RkR V N hc hr o o' := by
  have z1 : (1 : Int32).toInt = 1 := rfl
  have z0 : (0 : Int32).toInt = 0 := rfl
  have zm : (-1 : Int32).toInt = -1 := by decide
  intro f
  induction f with
  | zero => intro g hc hr x2 _ _ _ _ _ _ _ e; exact absurd (nx_e e) (by rw [sX7_readRanks_10]; exact fun z => nomatch z)
  | succ f ih =>
    intro g hc hr x2 S Pc Pr Pm Em a2 b2 e e'
    replace e := nm_s e; obtain ⟨v, wv, e⟩ := e
    rw [sX7_readRanks_10] at e
    obtain ⟨g1, g2, g3, g4⟩ := S.2.2.2.2.1
    have r1 := g4.2
    rw [g2] at r1
    have tv : v.toInt = x2.toInt - 1 := by rw [wv, ta (by rw [zm]; omega), zm]; omega
    unfold sX15_readMen_130 at e'
    rcases br_s e' with ⟨l, e'⟩ | ⟨l, e'⟩
    · have l := le_i l
      rw [z0] at l
      replace e := bp_e (ii_lt.mpr (by rw [z0]; omega)) e
      replace e' := nm_s e'; obtain ⟨v', wv', e'⟩ := e'
      rw [wv', ← wv] at e'
      cases g with
      | zero => exact absurd e' (by rw [sX15_readMen_7]; exact fun z => nomatch z)
      | succ g =>
        rw [sX15_readMen_7] at e'
        replace e' := bp_e (ii_lt.mpr (by rw [z0]; omega)) e'
        replace e' := cl_s e'; obtain ⟨o2, eo2, e'⟩ := e'
        have yo := so_e (gg_e e')
        rw [so_e e]
        exact Or.inr ⟨rfl, fv_0, hr, fv_0, S, Pm, by rw [eo2, yo]⟩
    · have l := nle_i l
      rw [z0] at l
      replace e := bn_e (fun z => by have := lt_i z; rw [z0] at this; omega) e
      replace e := ce_e S.1.1 e
      have tr : ((hI hc (V 2) 1) - (1 : Int32)).toInt = (hI hr (V 16) 12).toInt - 1 := by rw [g2, ts (by rw [z1]; omega), z1]
      replace e := bn_e (fun z => by have := le_i z; rw [tr] at this; omega) e
      replace e := cl_s e; obtain ⟨o4, eo4, e⟩ := e
      replace e' := cl_s e'; obtain ⟨k3, ek3, e'⟩ := e'
      rcases tk_p D S ⟨by decide, by decide⟩ eo4 ek3 with ⟨y, y'⟩ | ⟨y, y', S1⟩
      · rw [y] at e
        rw [y'] at e'
        rw [so_e (bp_e rfl e), so_e (bp_e rfl e')]
        exact Or.inl ⟨rfl, rfl, S.2.2.2.1⟩
      · have v1 : o4.1 = 1 := by rw [y]
        have v1' : k3.1 = 1 := by rw [y']
        replace e := bn_e (fun z => by rw [v1] at z; exact absurd z (by decide)) e
        replace e' := bn_e (fun z => by rw [v1'] at z; exact absurd z (by decide)) e'
        replace e' := nm_s e'; obtain ⟨v', wv', e'⟩ := e'
        rw [wv', ← wv] at e'
        cases g with
        | zero => exact absurd e' (by rw [sX15_readMen_7]; exact fun z => nomatch z)
        | succ g =>
          rw [sX15_readMen_7] at e'
          replace e' := bn_e (fun z => by have := lt_i z; rw [z0] at this; omega) e'
          unfold sX7_readRanks_38 at e
          have A : FrV V (wl wcM) hc o4.2 := by rw [y]; exact fv_w rfl
          have B : FrV V (wl wrM) hr k3.2 := by rw [y']; exact fv_w rfl
          have row : ∀ i, hI k3.2 (V 62) i = hI hr (V 62) i := fun i => by rw [y']; exact rI_a (vne D)
          have fl : hI k3.2 (V 16) 11 = hI hr (V 16) 11 := by rw [y']; exact rI_o (by decide)
          have rk : hI k3.2 (V 16) 12 = hI hr (V 16) 12 := by rw [y']; exact rI_o (by decide)
          have mv : ∀ s, mV k3.2 (V 62) s = mV hr (V 62) s := fun s => by unfold mV; rw [row]
          have P' : PMe V o4.2 k3.2 := by
            unfold PMe
            rw [show hI o4.2 (V 2) 4 = hI hc (V 2) 4 by rw [y]; exact rI_a (vne D)]
            exact posc_k Pm (fun i => by rw [y]; exact rI_a (vne D)) (fun i => by rw [y]; exact rI_a (vne D)) (fun i => by rw [y]; rfl) (fun s _ => mv s)
          have pr : v.toInt * (hI hr (V 16) 11).toInt + (hI hr (V 16) 11).toInt = x2.toInt * (hI hr (V 16) 11).toInt := by
            rw [tv, Int.sub_mul, Int.one_mul]; omega
          refine rkr_t A B (rk_40 D (fun S' Pc' Pr' Pm' Em' b' u u' => ih g S' Pc' Pr' Pm' Em' (by omega) b' u u') F F S1 (vpc_f Pc A) (vpr_f Pr B) P' (fun s hs => ?_) (by omega) (by rw [rk]; omega) (by decide) (by
            have := g3.1
            rw [g1] at this
            rw [fl, z0]; omega) e e')
          rw [mv, fl, z0]
          intro z
          have f0 := g3.1
          rw [g1] at f0
          have := Em s hs z
          omega
theorem rk_top (D : VD V) (S : RdV V N hc hr) (Pc : VPc V hc) (Pr : VPr V hr) (Pm : PMe V hc hr) (Em : ∀ s, s < 64 → mV hr (V 62) s = 0) : ∀ f g : Nat, sX7_readRanks_10 F f hc (V 7) (V 4) ((hI hc (V 2) 1) - (1 : Int32)) = some o → sX15_readMen_7 F g hr (V 16) (V 13) ((hI hr (V 16) 12) - (1 : Int32)) = some o' → RkR V N hc hr o o' := by
  have z1 : (1 : Int32).toInt = 1 := rfl
  have z0 : (0 : Int32).toInt = 0 := rfl
  obtain ⟨g1, g2, g3, g4⟩ := S.2.2.2.2.1
  have r0 := g4.1
  have r1 := g4.2
  rw [g2] at r0 r1
  have tr : ((hI hr (V 16) 12) - (1 : Int32)).toInt = (hI hr (V 16) 12).toInt - 1 := by rw [ts (by rw [z1]; omega), z1]
  intro f g e e'
  rw [g2] at e
  cases f with
  | zero => exact absurd e (by rw [sX7_readRanks_10]; exact fun z => nomatch z)
  | succ f =>
    cases g with
    | zero => exact absurd e' (by rw [sX15_readMen_7]; exact fun z => nomatch z)
    | succ g =>
      rw [sX7_readRanks_10] at e
      rw [sX15_readMen_7] at e'
      replace e := bn_e (fun z => by have := lt_i z; rw [z0] at this; omega) e
      replace e' := bn_e (fun z => by have := lt_i z; rw [z0] at this; omega) e'
      replace e := ce_e S.1.1 e
      replace e := bp_e (by rw [g2]; exact ii_le.mpr (by omega)) e
      unfold sX7_readRanks_38 at e
      exact rk_40 D (fun S' Pc' Pr' Pm' Em' b' u u' => rk_out D f g S' Pc' Pr' Pm' Em' (by omega) b' u u') F F S Pc Pr Pm (fun s hs z => by rw [Em s hs] at z; omega) (by omega) (by omega) (by decide) (by
        have := g3.1
        rw [g1] at this
        rw [z0]; omega) e e'
/-- men; then the reference wants a blank -/
theorem rk_p (D : VD V) (S : RdV V N hc hr) (Pc : VPc V hc) (Pr : VPr V hr) (Pm : PMe V hc hr) (Em : ∀ s, s < 64 → mV hr (V 62) s = 0) (e : sX7_readRanks F hc (V 7) (V 4) = some o) (e' : sX15_readMen F hr (V 16) (V 13) = some o') : RkR V N hc hr o o' := by
  unfold sX7_readRanks at e
  unfold sX15_readMen at e'
  replace e := ce_e S.1.1 e
  replace e := nx_e e
  replace e' := nx_e e'
  exact rk_top D S Pc Pr Pm Em F F e e'
/-- men in hand; then the reference wants a blank -/
theorem hd_p (D : VD V) (S : RdV V N hc hr) (Pc : VPc V hc) (Pr : VPr V hr) (Ph : PHd V hc hr) (e : sX7_readHands F hc (V 7) (V 4) = some o) (e' : sX15_readHands F hr (V 16) (V 13) = some o') : (o.1 = 0 ∧ o'.1 = 0 ∧ AtV V N o.2 o'.2) ∨ (o.1 = 1 ∧ FrV V (wl wcH) hc o.2 ∧ ∃ g, FrV V (wl wrH) hr g ∧ RdV V N o.2 g ∧ PHd V o.2 g ∧ sX15_reads g (V 16) (32 : Int32) = some o') := by
  unfold sX7_readHands at e
  unfold sX15_readHands at e'
  replace e := cl_s e; obtain ⟨o1, eo1, e⟩ := e
  replace e' := cl_s e'; obtain ⟨k1, ek1, e'⟩ := e'
  rcases tk_p D S ⟨by decide, by decide⟩ eo1 ek1 with ⟨y, y'⟩ | ⟨y, y', S1⟩
  · rw [y] at e
    rw [y'] at e'
    replace e := bp_e rfl e
    replace e' := bp_e rfl e'
    exact hd_13 D F F S Pc Pr Ph (by decide) (by decide) e e'
  · have v1 : o1.1 = 1 := by rw [y]
    have v1' : k1.1 = 1 := by rw [y']
    replace e := bn_e (fun z => by rw [v1] at z; exact absurd z (by decide)) e
    replace e' := bn_e (fun z => by rw [v1'] at z; exact absurd z (by decide)) e'
    replace e' := cl_s e'; obtain ⟨o3, eo3, e'⟩ := e'
    have yy := so_e (gg_e e')
    have A1 : FrV V (wl wcH) hc o1.2 := by rw [y]; exact fv_w rfl
    have B1 : FrV V (wl wrH) hr k1.2 := by rw [y']; exact fv_w rfl
    rw [so_e e]
    refine Or.inr ⟨rfl, A1, k1.2, B1, S1, ⟨fun s hs => ?_, fun d hd => ?_⟩, by rw [eo3, yy]⟩
    · show HdB (hJ o1.2 (V 37) s)
      rw [y]; exact Ph.1 s hs
    · show (hI k1.2 (V 64) d).toInt = ((hv (hJ o1.2 (V 37) (d % 2)) (d / 2) : Nat) : Int) ∧ (hI k1.2 (V 64) d).toInt ≤ 16
      have : hI k1.2 (V 64) d = hI hr (V 64) d := by rw [y']; exact rI_a (vne D)
      rw [this, y]
      exact Ph.2 d hd
end
end
section
/-! positions: both clears -/
def LnV (V : Nat → Nat) (h : Hp) : Prop := hN h (V 34) = 64 ∧ hN h (V 35) = 2 ∧ hN h (V 36) = 2 ∧ hN h (V 37) = 2 ∧ hN h (V 38) = 2
theorem fJw {F r : Nat} {v : Int64} {n : Nat} (hn : n < 2 ^ 31) : ∀ (f : Nat) {h o : Hp} {x3 : Int32}, 0 ≤ x3.toInt → sJ7_fill_d0a16_6 F f h r v x3 (nI n) = some o → (∀ a i, ¬ a = r → hJ o a i = hJ h a i) ∧ (∀ s : Nat, (s : Int) < x3.toInt → hJ o r s = hJ h r s) ∧ ∀ s : Nat, x3.toInt ≤ s → s < n → hJ o r s = v := by
  intro f
  induction f with
  | zero => intro h o x3 _ e; exact absurd e (by rw [sJ7_fill_d0a16_6]; exact fun z => nomatch z)
  | succ f ih =>
    intro h o x3 l0 e
    rw [sJ7_fill_d0a16_6] at e
    rcases br_s e with ⟨c1, e⟩ | ⟨c1, e⟩
    · have c1 := le_i c1
      rw [z_toInt hn] at c1
      rw [so_e e]
      exact ⟨fun _ _ _ => rfl, fun _ _ => rfl, fun s h1 h2 => by omega⟩
    · have c1 := nle_i c1
      rw [z_toInt hn] at c1
      replace e := gg_e e
      replace e := nx_e e
      replace e := nx_e e
      have t1 : (1 : Int32).toInt = 1 := rfl
      have ev : (x3 + (1 : Int32)).toInt = x3.toInt + 1 := by rw [ta (by omega), t1]
      have ec := nc_i l0
      obtain ⟨p2, p3, p4⟩ := ih (by omega) e
      refine ⟨fun a i ha => ?_, fun s hs => ?_, fun s h1 h2 => ?_⟩
      · rw [p2 a i ha, r_J, if_neg (fun y => ha y.1)]
      · rw [p3 s (by omega), r_J, if_neg (fun y => by have := y.2; omega)]
      · by_cases z : s = x3.toNatClampNeg
        · rw [p3 s (by omega), r_J, if_pos ⟨rfl, z⟩]
        · exact p4 s (by omega) h2
theorem fB_j {F r : Nat} {v x3 : Int32} : ∀ (f : Nat) {h o : Hp} {x2 : Int32}, sJ7_fill_031fb_5 F f h r v x2 x3 = some o → ∀ a i, hJ o a i = hJ h a i := by
  intro f
  induction f with
  | zero => intro h o x2 e; exact absurd e (by rw [sJ7_fill_031fb_5]; exact fun z => nomatch z)
  | succ f ih =>
    intro h o x2 e a i
    rw [sJ7_fill_031fb_5] at e
    rcases br_s e with ⟨c1, e⟩ | ⟨c1, e⟩
    · rw [so_e e]
    · exact ih (nx_e (nx_e (gg_e e))) a i
theorem fI_j {F r : Nat} {v x3 : Int32} : ∀ (f : Nat) {h o : Hp} {x2 : Int32}, sJ7_fill_53178_5 F f h r v x2 x3 = some o → ∀ a i, hJ o a i = hJ h a i := by
  intro f
  induction f with
  | zero => intro h o x2 e; exact absurd e (by rw [sJ7_fill_53178_5]; exact fun z => nomatch z)
  | succ f ih =>
    intro h o x2 e a i
    rw [sJ7_fill_53178_5] at e
    rcases br_s e with ⟨c1, e⟩ | ⟨c1, e⟩
    · rw [so_e e]
    · exact ih (nx_e (nx_e (gg_e e))) a i
abbrev wcZ : List (Nat × Nat) := [(34, 999), (35, 999), (36, 999), (37, 999), (38, 999), (4, 5), (4, 6), (4, 8), (4, 9), (4, 10)]
abbrev wrZ : List (Nat × Nat) := [(62, 999), (64, 999), (65, 999), (13, 1), (13, 2), (13, 3), (13, 7)]
abbrev wrz : List (Nat × Nat) := [(64, 999), (65, 999), (13, 7)]
section
variable {F : Nat} {V : Nat → Nat} {N : Int32} {h o hc hr oc or : Hp} {L L' : List (Nat × Nat)}
theorem wl_9 {k i : Nat} (m : (k, 999) ∈ L) : wl L k i = true := wl_i m (Or.inr rfl)
theorem clear_v (D : VD V) (Pc : VPc V h) (Ln : LnV V h) (e : sX3_clear F h (V 4) = some o) : FrV V (wl wcZ) h o ∧ (∀ s, s < 64 → hI o (V 34) s = (-1 : Int32)) ∧ (∀ d, d < 2 → hJ o (V 35) d = 0) ∧ (∀ d, d < 2 → hI o (V 36) d = (-1 : Int32)) ∧ (∀ d, d < 2 → hJ o (V 37) d = 0) ∧ (∀ d, d < 2 → hI o (V 38) d = 0) ∧ hI o (V 4) 5 = 0 ∧ hI o (V 4) 6 = 0 ∧ hJ o (V 4) 8 = 0 ∧ hJ o (V 4) 9 = 0 ∧ hJ o (V 4) 10 = 0 := by
  have z0 : (0 : Int32).toInt = 0 := rfl
  obtain ⟨c0, c1, c2, c3, c4⟩ := Pc
  obtain ⟨l0, l1, l2, l3, l4⟩ := Ln
  unfold sX3_clear sX3_strip sJ7_fill_031fb sJ7_fill_d0a16 sJ7_fill_53178 at e
  replace e := ce_e c0 e
  replace e := cl_s e; obtain ⟨o2, e2, e⟩ := e
  replace e2 := nx_e e2
  rw [l0] at e2
  obtain ⟨⟨R2, N2⟩, I2, _, v2⟩ := fB (by decide) F (by decide) e2
  have J2 := fB_j F e2
  replace e := ce_e ((R2 _ _).trans c1) e
  replace e := cl_s e; obtain ⟨o4, e4, e⟩ := e
  replace e4 := nx_e e4
  rw [N2, l1] at e4
  obtain ⟨⟨R4, N4⟩, I4⟩ := fJ F e4
  obtain ⟨J4, _, v4⟩ := fJw (by decide) F (by decide) e4
  replace e := ce_e ((R4 _ _).trans ((R2 _ _).trans c2)) e
  replace e := cl_s e; obtain ⟨o6, e6, e⟩ := e
  replace e6 := nx_e e6
  rw [N4, N2, l2] at e6
  obtain ⟨⟨R6, N6⟩, I6, _, v6⟩ := fI (by decide) F (by decide) e6
  have J6 := fI_j F e6
  replace e := nm_s e; obtain ⟨h7, w7, e⟩ := e
  replace e := cl_s e; obtain ⟨o8, e8, e⟩ := e
  replace e8 := nm_s e8; obtain ⟨g1, u1, e8⟩ := e8
  replace e8 := nm_s e8; obtain ⟨g2, u2, e8⟩ := e8
  replace e8 := nm_s e8; obtain ⟨g3, u3, e8⟩ := e8
  have Rg3 : ∀ a i, hR g3 a i = hR h a i := fun a i => by
    rw [u3, u2, u1, w7]
    show hR o6 a i = _
    rw [R6, R4, R2]
  have Ng3 : ∀ a, hN g3 a = hN h a := fun a => by
    rw [u3, u2, u1, w7]
    show hN o6 a = _
    rw [N6, N4, N2]
  have Ig3 : ∀ a i, hI g3 a i = hI h7 a i := fun a i => by rw [u3, u2, u1]; rfl
  replace e8 := ce_e ((Rg3 _ _).trans c3) e8
  replace e8 := cl_s e8; obtain ⟨o10, e10, e8⟩ := e8
  replace e10 := nx_e e10
  rw [Ng3, l3] at e10
  obtain ⟨⟨R10, N10⟩, I10⟩ := fJ F e10
  obtain ⟨J10, _, v10⟩ := fJw (by decide) F (by decide) e10
  replace e8 := ce_e ((R10 _ _).trans ((Rg3 _ _).trans c4)) e8
  replace e8 := cl_s e8; obtain ⟨o12, e12, e8⟩ := e8
  replace e12 := nx_e e12
  rw [N10, Ng3, l4] at e12
  obtain ⟨⟨R12, N12⟩, I12, _, v12⟩ := fI (by decide) F (by decide) e12
  have J12 := fI_j F e12
  replace e8 := nm_s e8; obtain ⟨g8, u8, e8⟩ := e8
  have oe : o = g8 := by rw [so_e e, so_e e8]
  -- ints and longs all the way
  have Ia : ∀ a i, ¬ a = V 38 → ¬ (a = V 4 ∧ i = 6) → hI o a i = hI h7 a i := fun a i n m => by rw [oe, u8, r_I, if_neg m, I12 a i n, I10, Ig3]
  have Ib : ∀ a i, ¬ a = V 38 → ¬ a = V 36 → ¬ a = V 4 → hI o a i = hI o2 a i := fun a i n n' m => by
    rw [Ia a i n (fun z => m z.1), w7, rI_a m, I6 a i n', I4]
  have Jg : ∀ a i, hJ o a i = hJ o10 a i := fun a i => by
    rw [oe, u8]
    show hJ o12 a i = _
    rw [J12]
  have J3 : ∀ a i, ¬ (a = V 4 ∧ (i = 8 ∨ i = 9 ∨ i = 10)) → hJ g3 a i = hJ o4 a i := fun a i n => by
    rw [u3, r_J, if_neg (fun z => n ⟨z.1, Or.inl z.2⟩), u2, r_J, if_neg (fun z => n ⟨z.1, Or.inr (Or.inl z.2)⟩), u1, r_J, if_neg (fun z => n ⟨z.1, Or.inr (Or.inr z.2)⟩), w7]
    show hJ o6 a i = _
    rw [J6]
  refine ⟨⟨fun a i => ?_, fun a i n => ⟨?_, ?_⟩⟩, fun s hs => ?_, fun d hd => ?_, fun d hd => ?_, fun d hd => ?_, fun d hd => ?_, ?_, ?_, ?_, ?_, ?_⟩
  · rw [oe, u8]
    show hR o12 a i = _
    rw [R12, R10, Rg3]
  · have n38 := n 38 (wl_9 (by decide))
    have n36 := n 36 (wl_9 (by decide))
    have n34 := n 34 (wl_9 (by decide))
    rw [Ia a i n38 (fun z => n 4 (by rw [z.2]; rfl) z.1), w7, r_I, if_neg (fun z => n 4 (by rw [z.2]; rfl) z.1), I6 a i n36, I4, I2 a i n34]
  · rw [Jg, J10 a i (n 37 (wl_9 (by decide))), J3 a i (fun z => by
      rcases z.2 with y | y | y <;> exact n 4 (by rw [y]; rfl) z.1), J4 a i (n 35 (wl_9 (by decide))), J2]
  · rw [Ib _ _ (vne D) (vne D) (vne D), v2 s (by rw [z0]; omega) hs]; decide
  · rw [Jg, J10 _ _ (vne D), J3 _ _ (fun z => (vne D : ¬ V 35 = V 4) z.1), v4 d (by rw [z0]; omega) hd]
  · rw [Ia _ _ (vne D) (fun z => (vne D : ¬ V 36 = V 4) z.1), w7, rI_a (vne D), v6 d (by rw [z0]; omega) hd]
  · rw [Jg, v10 d (by rw [z0]; omega) hd]
  · rw [oe, u8, rI_a (vne D), v12 d (by rw [z0]; omega) hd]
  · rw [Ia _ _ (vne D) (fun z => absurd z.2 (by decide)), w7, rI_s]
  · rw [oe, u8, rI_s]
  · rw [Jg, J10 _ _ (vne D), u3, r_J, if_pos ⟨rfl, rfl⟩]
  · rw [Jg, J10 _ _ (vne D), u3, r_J, if_neg (fun z => absurd z.2 (by decide)), u2, r_J, if_pos ⟨rfl, rfl⟩]
  · rw [Jg, J10 _ _ (vne D), u3, r_J, if_neg (fun z => absurd z.2 (by decide)), u2, r_J, if_neg (fun z => absurd z.2 (by decide)), u1, r_J, if_pos ⟨rfl, rfl⟩]
theorem clr_38 (D : VD V) : ∀ (f : Nat) {h : Hp} {x1 : Int32}, VPr V h → 0 ≤ x1.toInt → x1.toInt ≤ 24 → (∀ d : Nat, (d : Int) < x1.toInt → hI h (V 64) d = 0) → sX12_clear_38 F f h (V 13) x1 = some o → FrV V (wl wrz) h o ∧ (∀ d : Nat, d < 24 → hI o (V 64) d = 0) ∧ (∀ d : Nat, d < 2 → hI o (V 65) d = 0) ∧ hI o (V 13) 7 = 0 := by
  have z1 : (1 : Int32).toInt = 1 := rfl
  have z24 : (24 : Int32).toInt = 24 := rfl
  intro f
  induction f with
  | zero => intro h x1 _ _ _ _ e; exact absurd e (by rw [sX12_clear_38]; exact fun z => nomatch z)
  | succ f ih =>
    intro h x1 P a1 b1 Z e
    rw [sX12_clear_38] at e
    rcases br_s e with ⟨l, e⟩ | ⟨l, e⟩
    · have l := le_i l
      rw [z24] at l
      replace e := ce_e P.2.2.2 e
      replace e := gg_e e
      replace e := nm_s e; obtain ⟨h4, w4, e⟩ := e
      replace e := ce_e (show hR h4 (V 13) 6 = some (V 65) by rw [w4]; exact P.2.2.2) e
      replace e := gg_e e
      replace e := nm_s e; obtain ⟨h7, w7, e⟩ := e
      have oe := so_e (nx_e e)
      rw [oe]
      have c0 : (0 : Int32).toNatClampNeg = 0 := rfl
      have c1 : (1 : Int32).toNatClampNeg = 1 := rfl
      refine ⟨fv_t (g2 := h7) (fv_t (g2 := h4) (by rw [w4]; exact fv_w (wl_9 (by decide))) (by rw [w7]; exact fv_w (wl_9 (by decide)))) (fv_w rfl), fun d hd => ?_, fun d hd => ?_, rI_s⟩
      · rw [rI_a (vne D), w7, rI_a (vne D), w4, rI_a (vne D)]
        exact Z d (by omega)
      · rw [rI_a (vne D), w7, c1]
        by_cases c : d = 1
        · rw [c, rI_s]
        · rw [rI_o c, w4, c0, show d = 0 by omega, rI_s]
    · have l := nle_i l
      rw [z24] at l
      replace e := ce_e P.2.2.1 e
      replace e := gg_e e
      replace e := nm_s e; obtain ⟨h11, w11, e⟩ := e
      replace e := nx_e e
      have tx : (x1 + (1 : Int32)).toInt = x1.toInt + 1 := by rw [ta (by rw [z1]; omega), z1]
      have nx := nc_i a1
      have A : FrV V (wl wrz) h h11 := by rw [w11]; exact fv_w (wl_9 (by decide))
      obtain ⟨r1, r2⟩ := ih (vpr_f P A) (by omega) (by omega) (fun d hd => by
        rw [w11]
        by_cases c : d = x1.toNatClampNeg
        · rw [c, rI_s]
        · rw [rI_o c]; exact Z d (by omega)) e
      exact ⟨fv_t A r1, r2⟩
theorem clr_2 (D : VD V) : ∀ (f : Nat) {h : Hp} {x1 : Int32}, VPr V h → 0 ≤ x1.toInt → x1.toInt ≤ 64 → (∀ d : Nat, (d : Int) < x1.toInt → hI h (V 62) d = 0) → sX12_clear_2 F f h (V 13) x1 = some o → FrV V (wl wrZ) h o ∧ (∀ s : Nat, s < 64 → hI o (V 62) s = 0) ∧ (∀ d : Nat, d < 24 → hI o (V 64) d = 0) ∧ (∀ d : Nat, d < 2 → hI o (V 65) d = 0) ∧ hI o (V 13) 1 = 0 ∧ hJ o (V 13) 2 = 0 ∧ hI o (V 13) 3 = 0 ∧ hI o (V 13) 7 = 0 := by
  have z1 : (1 : Int32).toInt = 1 := rfl
  have z64 : (64 : Int32).toInt = 64 := rfl
  intro f
  induction f with
  | zero => intro h x1 _ _ _ _ e; exact absurd e (by rw [sX12_clear_2]; exact fun z => nomatch z)
  | succ f ih =>
    intro h x1 P a1 b1 Z e
    rw [sX12_clear_2] at e
    rcases br_s e with ⟨l, e⟩ | ⟨l, e⟩
    · have l := le_i l
      rw [z64] at l
      replace e := nm_s e; obtain ⟨h2, w2, e⟩ := e
      replace e := nm_s e; obtain ⟨h3, w3, e⟩ := e
      replace e := nm_s e; obtain ⟨h4, w4, e⟩ := e
      have A : FrV V (wl wrZ) h h4 := fv_t (g2 := h3) (fv_t (g2 := h2) (by rw [w2]; exact fv_w rfl) (by rw [w3]; exact fv_j rfl)) (by rw [w4]; exact fv_w rfl)
      obtain ⟨r1, r2, r3, r4⟩ := clr_38 D F (vpr_f P A) (by decide) (by decide) (fun d hd => by
        have : (0 : Int32).toInt = 0 := rfl
        omega) e
      have hz : ∀ p, p ∈ wrz → p.1 ∈ vql := by decide
      refine ⟨fv_t A (sub_l r1 (by decide)), fun s hs => ?_, r2, r3, ?_, ?_, ?_, r4⟩
      · rw [(fv_u D r1 (k := 62) (i := s) (by decide) hz (wl_f (by
          have : ∀ p, p ∈ wrz → ¬ p.1 = 62 := by decide
          exact fun p hp => Or.inl (this p hp)))).1, w4, rI_a (vne D), w3]
        show hI h2 (V 62) s = 0
        rw [w2, rI_a (vne D)]
        exact Z s (by omega)
      · rw [(fv_u D r1 (k := 13) (i := 1) (by decide) hz rfl).1, w4, rI_o (by decide), w3]
        show hI h2 (V 13) 1 = 0
        rw [w2, rI_s]
      · rw [(fv_u D r1 (k := 13) (i := 2) (by decide) hz rfl).2, w4]
        show hJ h3 (V 13) 2 = 0
        rw [w3, r_J, if_pos ⟨rfl, rfl⟩]
      · rw [(fv_u D r1 (k := 13) (i := 3) (by decide) hz rfl).1, w4, rI_s]
    · have l := nle_i l
      rw [z64] at l
      replace e := ce_e P.1 e
      replace e := gg_e e
      replace e := nm_s e; obtain ⟨h7, w7, e⟩ := e
      replace e := nx_e e
      have tx : (x1 + (1 : Int32)).toInt = x1.toInt + 1 := by rw [ta (by rw [z1]; omega), z1]
      have nx := nc_i a1
      have A : FrV V (wl wrZ) h h7 := by rw [w7]; exact fv_w (wl_9 (by decide))
      obtain ⟨r1, r2⟩ := ih (vpr_f P A) (by omega) (by omega) (fun d hd => by
        rw [w7]
        by_cases c : d = x1.toNatClampNeg
        · rw [c, rI_s]
        · rw [rI_o c]; exact Z d (by omega)) e
      exact ⟨fv_t A r1, r2⟩
/-! one position of both -/
def PosV (V : Nat → Nat) (hc hr : Hp) : Prop := PMe V hc hr ∧ PSd V hc hr ∧ PRt V hc hr ∧ PPs V hc hr ∧ PHd V hc hr ∧ PCk V 2 hc hr ∧ PCl V hc hr
theorem fvi (D : VD V) (A : FrV V (wl L) hc oc) (k i : Nat) (n : wl L k i = false := by rfl) (hk : k ∈ vql := by decide) (hL : ∀ p, p ∈ L → p.1 ∈ vql := by decide) : hI oc (V k) i = hI hc (V k) i := (fv_u D A hk hL n).1
theorem fvj (D : VD V) (A : FrV V (wl L) hc oc) (k i : Nat) (n : wl L k i = false := by rfl) (hk : k ∈ vql := by decide) (hL : ∀ p, p ∈ L → p.1 ∈ vql := by decide) : hJ oc (V k) i = hJ hc (V k) i := (fv_u D A hk hL n).2
theorem fvI (D : VD V) (A : FrV V (wl L) hc oc) (k i : Nat) (n : ∀ p, p ∈ L → ¬ p.1 = k := by decide) (hk : k ∈ vql := by decide) (hL : ∀ p, p ∈ L → p.1 ∈ vql := by decide) : hI oc (V k) i = hI hc (V k) i := (fv_u D A hk hL (wl_f (fun p hp => Or.inl (n p hp)))).1
theorem fvJ (D : VD V) (A : FrV V (wl L) hc oc) (k i : Nat) (n : ∀ p, p ∈ L → ¬ p.1 = k := by decide) (hk : k ∈ vql := by decide) (hL : ∀ p, p ∈ L → p.1 ∈ vql := by decide) : hJ oc (V k) i = hJ hc (V k) i := (fv_u D A hk hL (wl_f (fun p hp => Or.inl (n p hp)))).2
theorem pme_k (P : PMe V hc hr) (a : ∀ i, hI oc (V 34) i = hI hc (V 34) i) (b : ∀ i, hI oc (V 36) i = hI hc (V 36) i) (c : ∀ i, hJ oc (V 35) i = hJ hc (V 35) i) (d : hI oc (V 2) 4 = hI hc (V 2) 4) (m : ∀ i, hI or (V 62) i = hI hr (V 62) i) : PMe V oc or := by
  unfold PMe
  rw [d]
  exact posc_k P a b c (fun s _ => by unfold mV; rw [m])
theorem psd_k (P : PSd V hc hr) (a : hI oc (V 4) 5 = hI hc (V 4) 5) (b : hI or (V 13) 1 = hI hr (V 13) 1) : PSd V oc or := by
  unfold PSd; rw [a, b]; exact P
theorem prt_k (P : PRt V hc hr) (a : hJ oc (V 4) 8 = hJ hc (V 4) 8) (b : hJ or (V 13) 2 = hJ hr (V 13) 2) : PRt V oc or := by
  unfold PRt; rw [a, b]; exact P
theorem pcl_k (P : PCl V hc hr) (a : hI oc (V 4) 6 = hI hc (V 4) 6) (b : hI or (V 13) 7 = hI hr (V 13) 7) : PCl V oc or := by
  unfold PCl; rw [a, b]; exact P
theorem pck_k {n : Int} (P : PCk V n hc hr) (a : ∀ i, hI oc (V 38) i = hI hc (V 38) i) (b : ∀ i, hI or (V 65) i = hI hr (V 65) i) : PCk V n oc or := fun i hi => by rw [a, b]; exact P i hi
theorem phd_k (P : PHd V hc hr) (a : ∀ i, hJ oc (V 37) i = hJ hc (V 37) i) (b : ∀ i, hI or (V 64) i = hI hr (V 64) i) : PHd V oc or := ⟨fun s hs => by rw [a]; exact P.1 s hs, fun d hd => by rw [a, b]; exact P.2 d hd⟩
theorem pps_k (P : PPs V hc hr) (a : hJ oc (V 4) 9 = hJ hc (V 4) 9) (b : hJ oc (V 4) 10 = hJ hc (V 4) 10) (c : hI or (V 13) 3 = hI hr (V 13) 3) (d : ∀ i, hI or (V 63) i = hI hr (V 63) i) : PPs V oc or := by
  have rn : rowN or (V 63) = rowN hr (V 63) := funext fun i => by unfold rowN; rw [d]
  unfold PPs PPn
  rw [a, b, c, rn]
  rcases P with P | ⟨P, Q1, Q2⟩
  · exact Or.inl P
  · exact Or.inr ⟨P, fun i hi h => by rw [d]; exact Q1 i hi h, Q2⟩
/-- the place alone goes on -/
theorem pos_at (D : VD V) (P : PosV V hc hr) (A : FrV V (wl [(7, 2)]) hc oc) (B : FrV V (wl [(16, 19)]) hr or) : PosV V oc or := ⟨pme_k P.1 (fun i => fvI D A 34 i) (fun i => fvI D A 36 i) (fun i => fvJ D A 35 i) (fvi D A 2 4) (fun i => fvI D B 62 i), psd_k P.2.1 (fvi D A 4 5) (fvi D B 13 1), prt_k P.2.2.1 (fvj D A 4 8) (fvj D B 13 2), pps_k P.2.2.2.1 (fvj D A 4 9) (fvj D A 4 10) (fvi D B 13 3) (fun i => fvI D B 63 i), phd_k P.2.2.2.2.1 (fun i => fvJ D A 37 i) (fun i => fvI D B 64 i), pck_k P.2.2.2.2.2.1 (fun i => fvI D A 38 i) (fun i => fvI D B 65 i), pcl_k P.2.2.2.2.2.2 (fvi D A 4 6) (fvi D B 13 7)⟩
end
end
