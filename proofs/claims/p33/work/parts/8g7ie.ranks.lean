/-! positions: men, read by both -/
def mV (h : Hp) (a : Nat) : Nat → Int := fun s => (hI h a s).toInt
def PMe (V : Nat → Nat) (hc hr : Hp) : Prop := PosC hc (V 34) (V 35) (V 36) (mV hr (V 62)) (hI hc (V 2) 4).toInt
abbrev wcM : List (Nat × Nat) := [(7, 2), (34, 999), (35, 999), (36, 999), (4, 7)]
abbrev wrM : List (Nat × Nat) := [(16, 19), (62, 999)]
def EmV (V : Nat → Nat) (hr : Hp) (b f : Int) : Prop := ∀ s : Nat, s < 64 → 0 < mV hr (V 62) s → b + (hI hr (V 16) 11).toInt ≤ s ∨ (b ≤ s ∧ (s : Int) < b + f)
def RkR (V : Nat → Nat) (N : Int32) (hc hr : Hp) (o o' : Int32 × Hp) : Prop := (o.1 = 0 ∧ o'.1 = 0 ∧ AtV V N o.2 o'.2) ∨ (o.1 = 1 ∧ FrV V (wl wcM) hc o.2 ∧ ∃ g, FrV V (wl wrM) hr g ∧ RdV V N o.2 g ∧ PMe V o.2 g ∧ sX15_reads g (V 16) (32 : Int32) = some o')
theorem posc_k {h h' : Hp} {on of ra : Nat} {M M' : Nat → Int} {ro : Int} (P : PosC h on of ra M ro) (a : ∀ i, hI h' on i = hI h on i) (b : ∀ i, hI h' ra i = hI h ra i) (c : ∀ i, hJ h' of i = hJ h of i) (m : ∀ s, s < 64 → M' s = M s) : PosC h' on of ra M' ro := by
  obtain ⟨p1, p2, p3, p4⟩ := P
  refine ⟨fun s hs => by rw [a, m s hs]; exact p1 s hs, fun d hd s hs => by rw [c, m s hs]; exact p2 d hd s hs, fun d hd => by rw [b]; exact roa_c (p3 d hd) m, fun s hs => by rw [m s hs]; exact p4 s hs⟩
section
variable {F : Nat} {V : Nat → Nat} {N : Int32} {hc hr oc or : Hp} {o o' : Int32 × Hp}
theorem rkr_t {g g' : Hp} (A : FrV V (wl wcM) hc g) (B : FrV V (wl wrM) hr g') (R : RkR V N g g' o o') : RkR V N hc hr o o' := by
  rcases R with r | ⟨r1, r2, q, r3, r4⟩
  · exact Or.inl r
  · exact Or.inr ⟨r1, fv_t A r2, q, fv_t B r3, r4⟩
/-- a figure 1 .. 8 -/
theorem fig_b {x y : Int32} {P : Prop} (H : (x = (-1 : Int32) ∧ y = (-1 : Int32) ∧ P) ∨ (hI hc (V 7) 2).toInt < N.toInt ∧ Rg 0 255 x ∧ y.toInt = sg x.toInt) : (Rg 49 56 x ∧ y = x ∧ (hI hc (V 7) 2).toInt < N.toInt) ∨ (¬ (49 ≤ x.toInt ∧ x.toInt ≤ 56) ∧ ¬ (49 ≤ y.toInt ∧ y.toInt ≤ 56)) := by
  have zm : (-1 : Int32).toInt = -1 := by decide
  rcases H with ⟨h1, h2, _⟩ | ⟨l, h2, h3⟩
  · rw [h1, h2, zm]
    exact Or.inr ⟨by omega, by omega⟩
  · have d1 := h2.1
    have d2 := h2.2
    have sy : (y.toInt = x.toInt ∧ x.toInt < 128) ∨ (y.toInt = x.toInt - 256 ∧ 128 ≤ x.toInt) := by
      rw [h3]
      unfold sg
      split <;> omega
    by_cases c : 49 ≤ x.toInt ∧ x.toInt ≤ 56
    · exact Or.inl ⟨⟨c.1, c.2⟩, Int32.toInt_inj.mp (by omega), l⟩
    · exact Or.inr ⟨c, by omega⟩
theorem put_f {x1 x2 x3 : Int32} {h o : Hp} (R : ∀ a i, hR o a i = hR h a i) (I : ∀ a i, ¬ a = V 34 → ¬ a = V 36 → hI o a i = hI h a i) (J : ∀ a i, ¬ a = V 35 → ¬ (a = V 4 ∧ i = 7) → hJ o a i = hJ h a i) : FrV V (wl wcM) h o := ⟨R, fun a i n => ⟨I a i (n 34 (wl_i (j := 999) (by decide) (Or.inr rfl))) (n 36 (wl_i (j := 999) (by decide) (Or.inr rfl))), J a i (n 35 (wl_i (j := 999) (by decide) (Or.inr rfl))) (fun z => n 4 (by rw [z.2]; rfl) z.1)⟩⟩
theorem rk_40 (D : VD V) {x2 : Int32} {K K' : Hp → Nat → Nat → Int32 → Option (Int32 × Hp)} (HK : ∀ {hc hr : Hp}, RdV V N hc hr → VPc V hc → VPr V hr → PMe V hc hr → EmV V hr (x2.toInt * (hI hr (V 16) 11).toInt) (hI hr (V 16) 11).toInt → x2.toInt < (hI hr (V 16) 12).toInt → (nm (x2 + (-1 : Int32)) fun v_3 => K hc (V 7) (V 4) v_3) = some o → br (x2 ≤ 0) (sX15_readMen_130 F K' hr (V 16) (V 13) x2) (cl (sX15_reads hr (V 16) (47 : Int32)) fun o_3 => br (o_3.1 = 0) (some ((0 : Int32), o_3.2)) (sX15_readMen_130 F K' o_3.2 (V 16) (V 13) x2)) = some o' → RkR V N hc hr o o') : ∀ (f g : Nat) {hc hr : Hp} {x3 : Int32}, RdV V N hc hr → VPc V hc → VPr V hr → PMe V hc hr → EmV V hr (x2.toInt * (hI hr (V 16) 11).toInt) x3.toInt → 0 ≤ x2.toInt → x2.toInt < (hI hr (V 16) 12).toInt → 0 ≤ x3.toInt → x3.toInt ≤ (hI hr (V 16) 11).toInt → sX7_readRanks_40 F K f hc (V 7) (V 4) x2 x3 = some o → sX15_readMen_13 F K' g hr (V 16) (V 13) x2 x3 = some o' → RkR V N hc hr o o' := by
  have z1 : (1 : Int32).toInt = 1 := rfl
  have z0 : (0 : Int32).toInt = 0 := rfl
  have z48 : (48 : Int32).toInt = 48 := rfl
  have z49 : (49 : Int32).toInt = 49 := rfl
  have z56 : (56 : Int32).toInt = 56 := rfl
  have zm : (-1 : Int32).toInt = -1 := by decide
  intro f
  induction f with
  | zero => intro g hc hr x3 _ _ _ _ _ _ _ _ _ e; exact absurd e (by rw [sX7_readRanks_40]; exact fun z => nomatch z)
  | succ f ih =>
    intro g hc hr x3 S Pc Pr Pm Em a2 b2 a3 b3 e e'
    cases g with
    | zero => exact absurd e' (by rw [sX15_readMen_13]; exact fun z => nomatch z)
    | succ g =>
      rw [sX7_readRanks_40] at e
      rw [sX15_readMen_13] at e'
      obtain ⟨g1, g2, g3, g4⟩ := S.2.2.2.2.1
      obtain ⟨p1, p2, p3⟩ := S.2.2.2.1
      have n12 := S.2.2.1.2.2.1.2
      have f0 := g3.1
      have f1 := g3.2
      have r0 := g4.1
      have r1 := g4.2
      rw [g1] at f0 f1
      rw [g2] at r0 r1
      replace e := ce_e S.1.1 e
      rcases br_2 (by rw [g1]) e e' with ⟨l, e, e'⟩ | ⟨l, e, e'⟩
      · have l := le_i l
        rw [g1] at l
        exact HK S Pc Pr Pm (by rw [show (hI hr (V 16) 11).toInt = x3.toInt by omega] at Em ⊢; exact Em) b2 e e'
      have l := nle_i l
      rw [g1] at l
      replace e := ce_e S.1.2.1 e
      replace e := cl_s e; obtain ⟨o5, eo5, e⟩ := e
      replace e' := cl_s e'; obtain ⟨k5, ek5, e'⟩ := e'
      obtain ⟨w5, u5, H⟩ := by_p S eo5 ek5
      rw [w5] at e
      rw [u5] at e'
      replace e := ce_e S.1.1 e
      replace e := cl_s e; obtain ⟨o7, eo7, e⟩ := e
      replace e' := cl_s e'; obtain ⟨k6, ek6, e'⟩ := e'
      obtain ⟨w7, u6, alt⟩ := man_p S H eo7 ek6
      rw [w7] at e
      rw [u6] at e'
      rcases alt with ⟨cn, rn⟩ | ⟨rv, cv, lt⟩
      · -- no man: a figure, or a fault
        replace e' := bp_e (by rw [rn]; decide) e'
        unfold sX7_readRanks_97 sX7_readRanks_98 sX7_readRanks_125 sX7_readRanks_127 sX7_readRanks_157 sX7_readRanks_170 at e
        unfold sX15_readMen_100 sX15_readMen_102 at e'
        have bad : some ((0 : Int32), hc) = some o → some ((0 : Int32), hr) = some o' → RkR V N hc hr o o' := fun u u' => by
          rw [so_e u, so_e u']
          exact Or.inl ⟨rfl, rfl, S.2.2.2.1⟩
        rcases fig_b H with ⟨rg, yx, lt⟩ | ⟨m1, m2⟩
        · have q0 := rg.1
          have q1 := rg.2
          rw [yx] at e'
          replace e := bn_e (fun z => by have := lt_i z; rw [z49] at this; omega) e
          replace e := bn_e (fun z => by have := lt_i z; rw [z56] at this; omega) e
          replace e' := bn_e (fun z => by have := lt_i z; rw [z49] at this; omega) e'
          replace e' := bn_e (fun z => by have := lt_i z; rw [z56] at this; omega) e'
          have t48 : (o5.1 - (48 : Int32)).toInt = o5.1.toInt - 48 := by rw [ts (by rw [z48]; omega), z48]
          have tc : (x3 + (o5.1 - (48 : Int32))).toInt = x3.toInt + o5.1.toInt - 48 := by rw [ta (by rw [t48]; omega), t48]; omega
          have ta' : (x3 + o5.1).toInt = x3.toInt + o5.1.toInt := ta (by omega)
          have tr : ((x3 + o5.1) - (48 : Int32)).toInt = x3.toInt + o5.1.toInt - 48 := by rw [ts (by rw [ta', z48]; omega), ta', z48]
          replace e := bp_e cn e
          replace e := bn_e (fun z => by rw [z, z0] at t48; omega) e
          replace e := ce_e S.1.1 e
          rcases br_s e with ⟨c, e⟩ | ⟨c, e⟩
          · have c := le_i c
            rw [tc, g1] at c
            replace e' := bn_e (fun z => by have := lt_i z; rw [tr] at this; omega) e'
            replace e := bp_e cn e
            replace e := bp_e cn e
            replace e := nx_e e
            replace e := nm_s e; obtain ⟨h2, w2, e⟩ := e
            replace e' := nx_e e'
            replace e' := nm_s e'; obtain ⟨k2, v2, e'⟩ := e'
            have S' : RdV V N h2 k2 := by rw [w2, v2]; exact at_1 D S lt
            have A : FrV V (wl wcM) hc h2 := by rw [w2]; exact fv_w rfl
            have B : FrV V (wl wrM) hr k2 := by rw [v2]; exact fv_w rfl
            have row : ∀ i, hI k2 (V 62) i = hI hr (V 62) i := fun i => by rw [v2, rI_a (vne D)]
            have fl : hI k2 (V 16) 11 = hI hr (V 16) 11 := by rw [v2, rI_o (by decide)]
            have rk : hI k2 (V 16) 12 = hI hr (V 16) 12 := by rw [v2, rI_o (by decide)]
            have mv : ∀ s, mV k2 (V 62) s = mV hr (V 62) s := fun s => by unfold mV; rw [row]
            have P' : PMe V h2 k2 := by
              unfold PMe
              rw [show hI h2 (V 2) 4 = hI hc (V 2) 4 by rw [w2, rI_a (vne D)]]
              exact posc_k Pm (fun i => by rw [w2, rI_a (vne D)]) (fun i => by rw [w2, rI_a (vne D)]) (fun i => by rw [w2]; rfl) (fun s _ => mv s)
            refine rkr_t A B (ih g S' (vpc_f Pc A) (vpr_f Pr B) P' (fun s hs => ?_) a2 (by rw [rk]; exact b2) (by rw [tc]; omega) (by rw [tc, fl]; omega) e e')
            rw [mv, fl, tc]
            intro z
            have := Em s hs z
            omega
          · have c := nle_i c
            rw [tc, g1] at c
            replace e' := bp_e (ii_lt.mpr (by rw [tr]; omega)) e'
            exact bad e e'
        · have ec : some ((0 : Int32), hc) = some o := by
            have gone : br (o7.1 = (-1 : Int32)) (br ((0 : Int32) = 0) (some ((0 : Int32), hc)) (cl (hR hc (V 7) 0) fun r_3 => br ((x3 + (0 : Int32)) ≤ (hI hc r_3 0)) (sX7_readRanks_127 F K (sX7_readRanks_40 F K f) hc (V 7) (V 4) x2 x3 o7.1 (0 : Int32)) (some ((0 : Int32), hc)))) (sX7_readRanks_127 F K (sX7_readRanks_40 F K f) hc (V 7) (V 4) x2 x3 o7.1 (0 : Int32)) = some o → some ((0 : Int32), hc) = some o := fun u => bp_e rfl (bp_e cn u)
            rcases br_s e with ⟨_, e⟩ | ⟨c, e⟩
            · exact gone e
            have c := nlt_i c
            rw [z49] at c
            rcases br_s e with ⟨_, e⟩ | ⟨c', e⟩
            · exact gone e
            have c' := nlt_i c'
            rw [z56] at c'
            omega
          have er : some ((0 : Int32), hr) = some o' := by
            rcases br_s e' with ⟨_, e'⟩ | ⟨c, e'⟩
            · exact e'
            have c := nlt_i c
            rw [z49] at c
            rcases br_s e' with ⟨_, e'⟩ | ⟨c', e'⟩
            · exact e'
            have c' := nlt_i c'
            rw [z56] at c'
            omega
          exact bad ec er
      · -- a man
        have v1 := rv.1
        have v24 := rv.2
        have tv : (k6.1 - (1 : Int32)).toInt = k6.1.toInt - 1 := by rw [ts (by rw [z1]; omega), z1]
        have cd : o7.1.toInt = k6.1.toInt - 1 := by rw [cv, tv]
        have nn : ¬ o7.1 = (-1 : Int32) := fun z => by rw [z, zm] at cd; omega
        replace e' := bn_e (fun z => by have := le_i z; rw [z0] at this; omega) e'
        have cm : ∀ {t0 : Int32}, sX7_readRanks_98 F K (sX7_readRanks_40 F K f) hc (V 7) (V 4) x2 x3 o7.1 t0 = some o → ∃ h4, sX3_put hc (V 4) ((x2 * (hI hc (V 2) 0)) + x3) o7.1 (hI hc (V 2) 4) = some h4 ∧ sX7_readRanks_40 F K f (wI h4 (V 7) 2 ((hI h4 (V 7) 2) + (1 : Int32))) (V 7) (V 4) x2 (x3 + (1 : Int32)) = some o := fun {t0} u => by
          unfold sX7_readRanks_98 sX7_readRanks_127 sX7_readRanks_157 sX7_readRanks_170 at u
          replace u := bn_e nn u
          replace u := bn_e nn u
          replace u := ce_e S.1.1 u
          replace u := ce_e S.1.1 u
          replace u := cl_s u; obtain ⟨h4, eh4, u⟩ := u
          replace u := bn_e nn u
          exact ⟨h4, eh4, u⟩
        have ce : ∃ h4, sX3_put hc (V 4) ((x2 * (hI hc (V 2) 0)) + x3) o7.1 (hI hc (V 2) 4) = some h4 ∧ sX7_readRanks_40 F K f (wI h4 (V 7) 2 ((hI h4 (V 7) 2) + (1 : Int32))) (V 7) (V 4) x2 (x3 + (1 : Int32)) = some o := by
          unfold sX7_readRanks_97 at e
          rcases br_s e with ⟨_, e⟩ | ⟨_, e⟩
          · exact cm e
          rcases br_s e with ⟨_, e⟩ | ⟨_, e⟩
          · exact cm e
          · exact cm e
        obtain ⟨h4, eh4, e⟩ := ce
        rw [g1] at eh4
        -- the square
        have mul : 0 ≤ x2.toInt * (hI hr (V 16) 11).toInt ∧ x2.toInt * (hI hr (V 16) 11).toInt ≤ 56 := by
          have m1 := Int.mul_nonneg a2 (show 0 ≤ (hI hr (V 16) 11).toInt by omega)
          have m2 : x2.toInt * (hI hr (V 16) 11).toInt ≤ 7 * 8 := Int.mul_le_mul (by omega) f1 (by omega) (by decide)
          exact ⟨m1, by omega⟩
        have tmm : (x2 * (hI hr (V 16) 11)).toInt = x2.toInt * (hI hr (V 16) 11).toInt := tm (by omega)
        have tsq : ((x2 * (hI hr (V 16) 11)) + x3).toInt = x2.toInt * (hI hr (V 16) 11).toInt + x3.toInt := by rw [ta (by rw [tmm]; omega), tmm]
        have sq : Rg 0 63 ((x2 * (hI hr (V 16) 11)) + x3) := ⟨by rw [tsq]; omega, by rw [tsq]; omega⟩
        have csq := nc_i sq.1
        have sq63 := sq.2
        have em : mV hr (V 62) ((x2 * (hI hr (V 16) 11)) + x3).toNatClampNeg = 0 := by
          have lo := (Pm.2.2.2 ((x2 * (hI hr (V 16) 11)) + x3).toNatClampNeg (by omega)).1
          by_cases c : 0 < mV hr (V 62) ((x2 * (hI hr (V 16) 11)) + x3).toNatClampNeg
          · have := Em _ (by omega) c
            omega
          · omega
        obtain ⟨q1, q2, q3, q4, _⟩ := put_c Pc.1 Pc.2.1 Pc.2.2.1 (vne D) (vne D) sq (show Rg (-1) 23 o7.1 from ⟨by omega, by omega⟩) Pm (Or.inl em) eh4
        have A4 : FrV V (wl wcM) hc h4 := put_f (x1 := o7.1) (x2 := o7.1) (x3 := o7.1) q2 q3 q4
        replace e' := ce_e Pr.1 e'
        replace e' := gg_e e'
        replace e' := nm_s e'; obtain ⟨k14, v14, e'⟩ := e'
        replace e' := nx_e e'
        unfold sX15_readMen_102 at e'
        replace e' := nm_s e'; obtain ⟨k2, v2, e'⟩ := e'
        have A : FrV V (wl wcM) hc (wI h4 (V 7) 2 ((hI h4 (V 7) 2) + (1 : Int32))) := fv_t A4 (fv_w rfl)
        have B : FrV V (wl wrM) hr k2 := fv_t (g2 := k14) (by rw [v14]; exact fv_w (wl_i (j := 999) (by decide) (Or.inr rfl))) (by rw [v2]; exact fv_w rfl)
        have a7 : hI h4 (V 7) 2 = hI hc (V 7) 2 := q3 _ _ (vne D) (vne D)
        have b19 : hI k14 (V 16) 19 = hI hr (V 16) 19 := by rw [v14, rI_a (vne D)]
        have at' : AtV V N (wI h4 (V 7) 2 ((hI h4 (V 7) 2) + (1 : Int32))) k2 := by
          refine ⟨?_, ?_, ?_⟩
          · rw [rI_s, v2, rI_s, a7, b19, p1]
          · rw [rI_s, a7, ta (by rw [z1]; omega), z1]; omega
          · rw [rI_s, a7, ta (by rw [z1]; omega), z1]; omega
        have S' := rdv_w D S (sub_l A (by decide)) (sub_l B (by decide)) at'
        have row : ∀ i, hI k2 (V 62) i = if i = ((x2 * (hI hr (V 16) 11)) + x3).toNatClampNeg then k6.1 else hI hr (V 62) i := fun i => by
          rw [v2, rI_a (vne D), v14, r_I]
          by_cases c : i = ((x2 * (hI hr (V 16) 11)) + x3).toNatClampNeg
          · rw [if_pos ⟨rfl, c⟩, if_pos c]
          · rw [if_neg (fun z => c z.2), if_neg c]
        have fl : hI k2 (V 16) 11 = hI hr (V 16) 11 := by rw [v2, rI_o (by decide), v14, rI_a (vne D)]
        have rk : hI k2 (V 16) 12 = hI hr (V 16) 12 := by rw [v2, rI_o (by decide), v14, rI_a (vne D)]
        have mv : ∀ s, mV k2 (V 62) s = updM (mV hr (V 62)) ((x2 * (hI hr (V 16) 11)) + x3).toNatClampNeg (o7.1.toInt + 1) s := fun s => by
          unfold mV updM
          rw [row]
          by_cases c : s = ((x2 * (hI hr (V 16) 11)) + x3).toNatClampNeg
          · rw [if_pos c, if_pos c]; omega
          · rw [if_neg c, if_neg c]
        have P' : PMe V (wI h4 (V 7) 2 ((hI h4 (V 7) 2) + (1 : Int32))) k2 := by
          unfold PMe
          rw [show hI (wI h4 (V 7) 2 ((hI h4 (V 7) 2) + (1 : Int32))) (V 2) 4 = hI hc (V 2) 4 by rw [rI_a (vne D), q3 _ _ (vne D) (vne D)]]
          exact posc_k q1 (fun i => rI_a (vne D)) (fun i => rI_a (vne D)) (fun i => rfl) (fun s _ => mv s)
        have t3 : (x3 + (1 : Int32)).toInt = x3.toInt + 1 := by rw [ta (by rw [z1]; omega), z1]
        refine rkr_t A B (ih g S' (vpc_f Pc A) (vpr_f Pr B) P' (fun s hs => ?_) a2 (by rw [rk]; exact b2) (by rw [t3]; omega) (by rw [t3, fl]; omega) e e')
        rw [mv, fl, t3]
        intro z
        by_cases c : s = ((x2 * (hI hr (V 16) 11)) + x3).toNatClampNeg
        · right
          rw [c]
          omega
        · rw [upm_o c] at z
          have := Em s hs z
          omega
/-- behind a rank -/
theorem rk_out (D : VD V) : ∀ (f g : Nat) {hc hr : Hp} {x2 : Int32}, RdV V N hc hr → VPc V hc → VPr V hr → PMe V hc hr → EmV V hr (x2.toInt * (hI hr (V 16) 11).toInt) (hI hr (V 16) 11).toInt → 0 ≤ x2.toInt → x2.toInt < (hI hr (V 16) 12).toInt → (nm (x2 + (-1 : Int32)) fun v_3 => sX7_readRanks_10 F f hc (V 7) (V 4) v_3) = some o → br (x2 ≤ 0) (sX15_readMen_130 F (sX15_readMen_7 F g) hr (V 16) (V 13) x2) (cl (sX15_reads hr (V 16) (47 : Int32)) fun o_3 => br (o_3.1 = 0) (some ((0 : Int32), o_3.2)) (sX15_readMen_130 F (sX15_readMen_7 F g) o_3.2 (V 16) (V 13) x2)) = some o' → RkR V N hc hr o o' := by
  have z1 : (1 : Int32).toInt = 1 := rfl
  have z0 : (0 : Int32).toInt = 0 := rfl
  have zm : (-1 : Int32).toInt = -1 := by decide
  intro f
  induction f with
  | zero => intro g hc hr x2 _ _ _ _ _ _ _ e; exact absurd (nx_e e) (by rw [sX7_readRanks_10]; exact fun z => nomatch z)
  | succ f ih =>
    intro g hc hr x2 S Pc Pr Pm Em a2 b2 e e'
    replace e := nm_s e; obtain ⟨v, wv, e⟩ := e
    rw [sX7_readRanks_10] at e
    obtain ⟨g1, g2, g3, g4⟩ := S.2.2.2.2.1
    have r1 := g4.2
    rw [g2] at r1
    have tv : v.toInt = x2.toInt - 1 := by rw [wv, ta (by rw [zm]; omega), zm]; omega
    unfold sX15_readMen_130 at e'
    rcases br_s e' with ⟨l, e'⟩ | ⟨l, e'⟩
    · have l := le_i l
      rw [z0] at l
      replace e := bp_e (ii_lt.mpr (by rw [z0]; omega)) e
      replace e' := nm_s e'; obtain ⟨v', wv', e'⟩ := e'
      rw [wv', ← wv] at e'
      cases g with
      | zero => exact absurd e' (by rw [sX15_readMen_7]; exact fun z => nomatch z)
      | succ g =>
        rw [sX15_readMen_7] at e'
        replace e' := bp_e (ii_lt.mpr (by rw [z0]; omega)) e'
        replace e' := cl_s e'; obtain ⟨o2, eo2, e'⟩ := e'
        have yo := so_e (gg_e e')
        rw [so_e e]
        exact Or.inr ⟨rfl, fv_0, hr, fv_0, S, Pm, by rw [eo2, yo]⟩
    · have l := nle_i l
      rw [z0] at l
      replace e := bn_e (fun z => by have := lt_i z; rw [z0] at this; omega) e
      replace e := ce_e S.1.1 e
      have tr : ((hI hc (V 2) 1) - (1 : Int32)).toInt = (hI hr (V 16) 12).toInt - 1 := by rw [g2, ts (by rw [z1]; omega), z1]
      replace e := bn_e (fun z => by have := le_i z; rw [tr] at this; omega) e
      replace e := cl_s e; obtain ⟨o4, eo4, e⟩ := e
      replace e' := cl_s e'; obtain ⟨k3, ek3, e'⟩ := e'
      rcases tk_p D S ⟨by decide, by decide⟩ eo4 ek3 with ⟨y, y'⟩ | ⟨y, y', S1⟩
      · rw [y] at e
        rw [y'] at e'
        rw [so_e (bp_e rfl e), so_e (bp_e rfl e')]
        exact Or.inl ⟨rfl, rfl, S.2.2.2.1⟩
      · have v1 : o4.1 = 1 := by rw [y]
        have v1' : k3.1 = 1 := by rw [y']
        replace e := bn_e (fun z => by rw [v1] at z; exact absurd z (by decide)) e
        replace e' := bn_e (fun z => by rw [v1'] at z; exact absurd z (by decide)) e'
        replace e' := nm_s e'; obtain ⟨v', wv', e'⟩ := e'
        rw [wv', ← wv] at e'
        cases g with
        | zero => exact absurd e' (by rw [sX15_readMen_7]; exact fun z => nomatch z)
        | succ g =>
          rw [sX15_readMen_7] at e'
          replace e' := bn_e (fun z => by have := lt_i z; rw [z0] at this; omega) e'
          unfold sX7_readRanks_38 at e
          have A : FrV V (wl wcM) hc o4.2 := by rw [y]; exact fv_w rfl
          have B : FrV V (wl wrM) hr k3.2 := by rw [y']; exact fv_w rfl
          have row : ∀ i, hI k3.2 (V 62) i = hI hr (V 62) i := fun i => by rw [y']; exact rI_a (vne D)
          have fl : hI k3.2 (V 16) 11 = hI hr (V 16) 11 := by rw [y']; exact rI_o (by decide)
          have rk : hI k3.2 (V 16) 12 = hI hr (V 16) 12 := by rw [y']; exact rI_o (by decide)
          have mv : ∀ s, mV k3.2 (V 62) s = mV hr (V 62) s := fun s => by unfold mV; rw [row]
          have P' : PMe V o4.2 k3.2 := by
            unfold PMe
            rw [show hI o4.2 (V 2) 4 = hI hc (V 2) 4 by rw [y]; exact rI_a (vne D)]
            exact posc_k Pm (fun i => by rw [y]; exact rI_a (vne D)) (fun i => by rw [y]; exact rI_a (vne D)) (fun i => by rw [y]; rfl) (fun s _ => mv s)
          have pr : v.toInt * (hI hr (V 16) 11).toInt + (hI hr (V 16) 11).toInt = x2.toInt * (hI hr (V 16) 11).toInt := by
            rw [tv, Int.sub_mul, Int.one_mul]; omega
          refine rkr_t A B (rk_40 D (fun S' Pc' Pr' Pm' Em' b' u u' => ih g S' Pc' Pr' Pm' Em' (by omega) b' u u') F F S1 (vpc_f Pc A) (vpr_f Pr B) P' (fun s hs => ?_) (by omega) (by rw [rk]; omega) (by decide) (by
            have := g3.1
            rw [g1] at this
            rw [fl, z0]; omega) e e')
          rw [mv, fl, z0]
          intro z
          have f0 := g3.1
          rw [g1] at f0
          have := Em s hs z
          omega
theorem rk_top (D : VD V) (S : RdV V N hc hr) (Pc : VPc V hc) (Pr : VPr V hr) (Pm : PMe V hc hr) (Em : ∀ s, s < 64 → mV hr (V 62) s = 0) : ∀ f g : Nat, sX7_readRanks_10 F f hc (V 7) (V 4) ((hI hc (V 2) 1) - (1 : Int32)) = some o → sX15_readMen_7 F g hr (V 16) (V 13) ((hI hr (V 16) 12) - (1 : Int32)) = some o' → RkR V N hc hr o o' := by
  have z1 : (1 : Int32).toInt = 1 := rfl
  have z0 : (0 : Int32).toInt = 0 := rfl
  obtain ⟨g1, g2, g3, g4⟩ := S.2.2.2.2.1
  have r0 := g4.1
  have r1 := g4.2
  rw [g2] at r0 r1
  have tr : ((hI hr (V 16) 12) - (1 : Int32)).toInt = (hI hr (V 16) 12).toInt - 1 := by rw [ts (by rw [z1]; omega), z1]
  intro f g e e'
  rw [g2] at e
  cases f with
  | zero => exact absurd e (by rw [sX7_readRanks_10]; exact fun z => nomatch z)
  | succ f =>
    cases g with
    | zero => exact absurd e' (by rw [sX15_readMen_7]; exact fun z => nomatch z)
    | succ g =>
      rw [sX7_readRanks_10] at e
      rw [sX15_readMen_7] at e'
      replace e := bn_e (fun z => by have := lt_i z; rw [z0] at this; omega) e
      replace e' := bn_e (fun z => by have := lt_i z; rw [z0] at this; omega) e'
      replace e := ce_e S.1.1 e
      replace e := bp_e (by rw [g2]; exact ii_le.mpr (by omega)) e
      unfold sX7_readRanks_38 at e
      exact rk_40 D (fun S' Pc' Pr' Pm' Em' b' u u' => rk_out D f g S' Pc' Pr' Pm' Em' (by omega) b' u u') F F S Pc Pr Pm (fun s hs z => by rw [Em s hs] at z; omega) (by omega) (by omega) (by decide) (by
        have := g3.1
        rw [g1] at this
        rw [z0]; omega) e e'
/-- men; then the reference wants a blank -/
theorem rk_p (D : VD V) (S : RdV V N hc hr) (Pc : VPc V hc) (Pr : VPr V hr) (Pm : PMe V hc hr) (Em : ∀ s, s < 64 → mV hr (V 62) s = 0) (e : sX7_readRanks F hc (V 7) (V 4) = some o) (e' : sX15_readMen F hr (V 16) (V 13) = some o') : RkR V N hc hr o o' := by
  unfold sX7_readRanks at e
  unfold sX15_readMen at e'
  replace e := ce_e S.1.1 e
  replace e := nx_e e
  replace e' := nx_e e'
  exact rk_top D S Pc Pr Pm Em F F e e'
/-- men in hand; then the reference wants a blank -/
theorem hd_p (D : VD V) (S : RdV V N hc hr) (Pc : VPc V hc) (Pr : VPr V hr) (Ph : PHd V hc hr) (e : sX7_readHands F hc (V 7) (V 4) = some o) (e' : sX15_readHands F hr (V 16) (V 13) = some o') : (o.1 = 0 ∧ o'.1 = 0 ∧ AtV V N o.2 o'.2) ∨ (o.1 = 1 ∧ FrV V (wl wcH) hc o.2 ∧ ∃ g, FrV V (wl wrH) hr g ∧ RdV V N o.2 g ∧ PHd V o.2 g ∧ sX15_reads g (V 16) (32 : Int32) = some o') := by
  unfold sX7_readHands at e
  unfold sX15_readHands at e'
  replace e := cl_s e; obtain ⟨o1, eo1, e⟩ := e
  replace e' := cl_s e'; obtain ⟨k1, ek1, e'⟩ := e'
  rcases tk_p D S ⟨by decide, by decide⟩ eo1 ek1 with ⟨y, y'⟩ | ⟨y, y', S1⟩
  · rw [y] at e
    rw [y'] at e'
    replace e := bp_e rfl e
    replace e' := bp_e rfl e'
    exact hd_13 D F F S Pc Pr Ph (by decide) (by decide) e e'
  · have v1 : o1.1 = 1 := by rw [y]
    have v1' : k1.1 = 1 := by rw [y']
    replace e := bn_e (fun z => by rw [v1] at z; exact absurd z (by decide)) e
    replace e' := bn_e (fun z => by rw [v1'] at z; exact absurd z (by decide)) e'
    replace e' := cl_s e'; obtain ⟨o3, eo3, e'⟩ := e'
    have yy := so_e (gg_e e')
    have A1 : FrV V (wl wcH) hc o1.2 := by rw [y]; exact fv_w rfl
    have B1 : FrV V (wl wrH) hr k1.2 := by rw [y']; exact fv_w rfl
    rw [so_e e]
    refine Or.inr ⟨rfl, A1, k1.2, B1, S1, ⟨fun s hs => ?_, fun d hd => ?_⟩, by rw [eo3, yy]⟩
    · show HdB (hJ o1.2 (V 37) s)
      rw [y]; exact Ph.1 s hs
    · show (hI k1.2 (V 64) d).toInt = ((hv (hJ o1.2 (V 37) (d % 2)) (d / 2) : Nat) : Int) ∧ (hI k1.2 (V 64) d).toInt ≤ 16
      have : hI k1.2 (V 64) d = hI hr (V 64) d := by rw [y']; exact rI_a (vne D)
      rw [this, y]
      exact Ph.2 d hd
end
