/-! positions: PASS, read by both -/
def rowN (h : Hp) (a i : Nat) : Nat := (hI h a i).toNatClampNeg
def OvN (y : Int64) (n : Nat) (q : Nat → Nat) : Prop := ∀ t, bitJ y t = true ↔ ∃ i, 1 ≤ i ∧ i < n ∧ q i = t
def PPn (V : Nat → Nat) (n : Nat) (hc hr : Hp) : Prop := (∀ i, i < n → i < 64 → Rg 0 63 (hI hr (V 63) i)) ∧ ((Pw (hJ hc (V 4) 9) n (rowN hr (V 63)) ∧ OvN (hJ hc (V 4) 10) n (rowN hr (V 63))) ∨ (8 ≤ n ∧ hJ hc (V 4) 9 = 8))
def PPs (V : Nat → Nat) (hc hr : Hp) : Prop := (hI hr (V 13) 3 = 0 ∧ hJ hc (V 4) 9 = 0 ∧ hJ hc (V 4) 10 = 0) ∨ (Rg 2 64 (hI hr (V 13) 3) ∧ PPn V (hI hr (V 13) 3).toNatClampNeg hc hr)
abbrev wcP : List (Nat × Nat) := [(7, 2), (4, 9), (4, 10)]
abbrev wrP : List (Nat × Nat) := [(16, 19), (16, 20), (13, 3), (63, 999)]
theorem byt_g {h : Hp} {a : Nat} {i : Int32} {o : Int32 × Hp} (e : sX9_byteAt h a i = some o) : o.2 = h := by
  unfold sX9_byteAt sX9_byteAt_21 sX9_byteAt_22 at e
  rcases br_s e with ⟨_, e⟩ | ⟨_, e⟩
  · rw [so_e e]
  rcases br_s e with ⟨_, e⟩ | ⟨_, e⟩
  · rw [so_e e]
  replace e := cl_s e; obtain ⟨r, _, e⟩ := e
  rw [so_e (gg_e e)]
section
variable {F : Nat} {V : Nat → Nat} {N : Int32} {hc hr oc or : Hp} {o o' : Int32 × Hp}
/-- a square's name has two letters -/
theorem sq_a (S : RdV V N hc hr) (e : sX7_readSquare hc (V 7) = some o) (n : ¬ o.1 = (-1 : Int32)) : (hI o.2 (V 7) 2).toInt = (hI hc (V 7) 2).toInt + 2 := by
  have z1 : (1 : Int32).toInt = 1 := rfl
  obtain ⟨p1, p2, p3⟩ := S.2.2.2.1
  have n12 := S.2.2.1.2.2.1.2
  unfold sX7_readSquare sX7_readSquare_30 sX7_readSquare_72 at e
  replace e := ce_e S.1.2.1 e
  replace e := cl_s e; obtain ⟨o2, eo2, e⟩ := e
  rw [byt_g eo2] at e
  replace e := nx_e e
  rcases br_s e with ⟨_, e⟩ | ⟨_, e⟩
  · exact absurd (by rw [so_e e]) n
  replace e := ce_e S.1.1 e
  rcases br_s e with ⟨_, e⟩ | ⟨_, e⟩
  rotate_left
  · exact absurd (by rw [so_e e]) n
  replace e := nm_s e; obtain ⟨h7, w7, e⟩ := e
  have R7 : ∀ a i, hR h7 a i = hR hc a i := fun a i => by rw [w7]; rfl
  have t7 : (hI h7 (V 7) 2).toInt = (hI hc (V 7) 2).toInt + 1 := by rw [w7, rI_s, ta (by rw [z1]; omega), z1]
  replace e := ce_e ((R7 _ _).trans S.1.2.1) e
  replace e := cl_s e; obtain ⟨o9, eo9, e⟩ := e
  rw [byt_g eo9] at e
  replace e := nx_e e
  rcases br_s e with ⟨_, e⟩ | ⟨_, e⟩
  · exact absurd (by rw [so_e e]) n
  replace e := ce_e ((R7 _ _).trans S.1.1) e
  rcases br_s e with ⟨_, e⟩ | ⟨_, e⟩
  rotate_left
  · exact absurd (by rw [so_e e]) n
  replace e := nm_s e; obtain ⟨h14, w14, e⟩ := e
  replace e := cl_s e; obtain ⟨r, _, e⟩ := e
  rw [so_e e]
  show (hI h14 (V 7) 2).toInt = _
  rw [w14, rI_s, ta (by rw [z1]; omega), z1, t7]
  omega
theorem ppn_64 {n : Nat} (P : PPn V n hc hr) (l : 64 ≤ n) : PPn V 64 hc hr := by
  refine ⟨fun i hi h => P.1 i (by omega) h, Or.inr ⟨by omega, ?_⟩⟩
  rcases P.2 with ⟨a, _⟩ | ⟨_, a⟩
  · have := a.1; omega
  · exact a
theorem ps_13 (D : VD V) : ∀ (f g : Nat) {hc hr : Hp} {x2 : Int32}, RdV V N hc hr → VPr V hr → PPn V x2.toNatClampNeg hc hr → 0 ≤ x2.toInt → 2 * x2.toInt ≤ (hI hc (V 7) 2).toInt → sX7_readPass_13 F f hc (V 7) (V 4) x2 = some o → sX15_readPass_18 F g hr (V 16) (V 13) x2 = some o' → (o.1 = 0 ∧ o'.1 = 0 ∧ AtV V N o.2 o'.2) ∨ (o.1 = 1 ∧ FrV V (wl wcP) hc o.2 ∧ ∃ g, FrV V (wl wrP) hr g ∧ RdV V N o.2 g ∧ PPs V o.2 g ∧ sX15_reads g (V 16) (32 : Int32) = some o') := by
  have z1 : (1 : Int32).toInt = 1 := rfl
  have z2 : (2 : Int32).toInt = 2 := rfl
  have z64 : (64 : Int32).toInt = 64 := rfl
  have zm : (-1 : Int32).toInt = -1 := by decide
  have z12 : (1200 : Int32).toInt = 1200 := rfl
  intro f
  induction f with
  | zero => intro g hc hr x2 _ _ _ _ _ e; exact absurd e (by rw [sX7_readPass_13]; exact fun z => nomatch z)
  | succ f ih =>
    intro g hc hr x2 S Pr Pn a2 b2 e e'
    cases g with
    | zero => exact absurd e' (by rw [sX15_readPass_18]; exact fun z => nomatch z)
    | succ g =>
      rw [sX7_readPass_13] at e
      rw [sX15_readPass_18] at e'
      obtain ⟨p1, p2, p3⟩ := S.2.2.2.1
      have n12 := S.2.2.1.2.2.1.2
      have c2 := nc_i a2
      -- one square more
      have nxt : sX7_readPass_41 F (sX7_readPass_13 F f) hc (V 7) (V 4) x2 = some o → sX15_readPass_32 F (sX15_readPass_18 F g) hr (V 16) (V 13) x2 = some o' → (o.1 = 0 ∧ o'.1 = 0 ∧ AtV V N o.2 o'.2) ∨ (o.1 = 1 ∧ FrV V (wl wcP) hc o.2 ∧ ∃ g, FrV V (wl wrP) hr g ∧ RdV V N o.2 g ∧ PPs V o.2 g ∧ sX15_reads g (V 16) (32 : Int32) = some o') := fun e e' => by
        unfold sX7_readPass_41 at e
        unfold sX15_readPass_32 sX15_readPass_58 at e'
        replace e := cl_s e; obtain ⟨o2, eo2, e⟩ := e
        replace e' := cl_s e'; obtain ⟨o1, eo1, e'⟩ := e'
        obtain ⟨A, B, alt⟩ := sq_p D S eo2 eo1
        rcases alt with ⟨c1, d1, at'⟩ | ⟨ro, k20, alt⟩
        · rw [so_e (bp_e c1 e), so_e (bp_e d1 e')]
          exact Or.inl ⟨rfl, rfl, at'⟩
        have ro0 := ro.1
        have ro1 := ro.2
        have nn : ¬ o2.1 = (-1 : Int32) := fun z => by rw [z, zm] at ro0; omega
        have tt := sq_a S eo2 nn
        rcases alt with ⟨_, d1, at'⟩ | ⟨l, _⟩
        rotate_left
        · rw [zm] at l; omega
        replace e := bn_e nn e
        replace e' := bn_e (fun z => by rw [d1] at z; exact absurd z (by decide)) e'
        replace e := cl_s e; obtain ⟨h3, eh3, e⟩ := e
        replace e := nm_s e; obtain ⟨v4, w4, e⟩ := e
        have tx : v4.toInt = x2.toInt + 1 := by rw [w4, ta (by rw [z1]; omega), z1]
        have cx : v4.toNatClampNeg = x2.toNatClampNeg + 1 := by
          have := nc_i (x := v4) (by omega)
          omega
        have co := nc_i ro0
        -- the class's words
        have j9 : hJ o2.2 (V 4) 9 = hJ hc (V 4) 9 := A.2.1 _ _
        have j10 : hJ o2.2 (V 4) 10 = hJ hc (V 4) 10 := A.2.1 _ _
        have A3 : FrV V (wl wcP) hc h3 ∧ hI h3 (V 7) 2 = hI o2.2 (V 7) 2 := by
          have A2 : FrV V (wl wcP) hc o2.2 := cfr_v A rfl
          by_cases c : x2.toNatClampNeg ≤ 6
          · rcases Pn.2 with ⟨pw, _⟩ | ⟨y, _⟩
            · obtain ⟨x, y, w, _⟩ := ap_q ro (by rw [j9]; exact pw) c eh3
              rw [w]
              exact ⟨fv_t A2 (fv_t (fv_j rfl) (fv_j rfl)), rfl⟩
            · omega
          · have w := ap_8 (q := rowN hr (V 63)) (by
              rw [j9]
              rcases Pn.2 with ⟨pw, _⟩ | ⟨_, y⟩
              · have : x2.toNatClampNeg = 7 := by have := pw.1; omega
                rw [this] at pw
                exact Or.inl pw
              · exact Or.inr y) eh3
            rw [w]
            exact ⟨fv_t A2 (fv_j rfl), rfl⟩
        have go : ∀ {k : Hp}, FrV V (wl wrP) hr k → hI k (V 16) 19 = hI o1.2 (V 16) 19 → PPn V v4.toNatClampNeg h3 k → sX15_readPass_18 F g k (V 16) (V 13) v4 = some o' → (o.1 = 0 ∧ o'.1 = 0 ∧ AtV V N o.2 o'.2) ∨ (o.1 = 1 ∧ FrV V (wl wcP) hc o.2 ∧ ∃ g, FrV V (wl wrP) hr g ∧ RdV V N o.2 g ∧ PPs V o.2 g ∧ sX15_reads g (V 16) (32 : Int32) = some o') := fun {k} B3 k19 P3 u => by
          have at3 : AtV V N h3 k := ⟨by rw [A3.2, k19]; exact at'.1, by rw [A3.2]; exact at'.2.1, by rw [A3.2]; exact at'.2.2⟩
          have S3 : RdV V N h3 k := rdv_w D S (sub_l A3.1 (by decide)) (sub_l B3 (by decide)) at3
          rcases ih g S3 (vpr_f Pr B3) P3 (by omega) (by rw [A3.2, tt]; omega) e u with r | ⟨r1, r2, q, r3, r4⟩
          · exact Or.inl r
          · exact Or.inr ⟨r1, fv_t A3.1 r2, q, fv_t B3 r3, r4⟩
        have B2 : FrV V (wl wrP) hr o1.2 := rfr_v B rfl rfl
        have row1 : ∀ i, hI o1.2 (V 63) i = hI hr (V 63) i := fun i => B.2.2 _ _ (fun z => (vne D : ¬ V 63 = V 16) z.1)
        rcases br_s e' with ⟨l, e'⟩ | ⟨l, e'⟩
        · -- beyond 64
          have l := le_i l
          rw [z64] at l
          refine go B2 rfl ?_ (by rw [w4]; exact e')
          have p8 : hJ hc (V 4) 9 = 8 := by
            rcases Pn.2 with ⟨pw, _⟩ | ⟨_, y⟩
            · have := pw.1; omega
            · exact y
          refine ⟨fun i hi h => by rw [row1]; exact Pn.1 i (by omega) h, Or.inr ⟨by omega, ?_⟩⟩
          rw [ap_8 (q := rowN hr (V 63)) (by rw [j9]; exact Or.inr p8) eh3, r_J, if_pos ⟨rfl, rfl⟩]
        · have l := nle_i l
          rw [z64] at l
          replace e' := ce_e (by rw [B2.1]; exact Pr.2.1) e'
          replace e' := gg_e e'
          replace e' := nm_s e'; obtain ⟨k6, u6, e'⟩ := e'
          rw [k20] at u6
          have row6 : ∀ i, hI k6 (V 63) i = if i = x2.toNatClampNeg then o2.1 else hI hr (V 63) i := fun i => by
            rw [u6, r_I]
            by_cases c : i = x2.toNatClampNeg
            · rw [if_pos ⟨rfl, c⟩, if_pos c]
            · rw [if_neg (fun z => c z.2), if_neg c, row1]
          refine go (k := k6) (fv_t B2 (by rw [u6]; exact fv_w (wl_i (j := 999) (by decide) (Or.inr rfl)))) (by rw [u6, rI_a (vne D)]) ?_ (by rw [w4]; exact e')
          have rowq : ∀ i, i < x2.toNatClampNeg + 1 → rowN k6 (V 63) i = if i = x2.toNatClampNeg then o2.1.toNatClampNeg else rowN hr (V 63) i := fun i hi => by
            unfold rowN
            rw [row6]
            by_cases c : i = x2.toNatClampNeg
            · rw [if_pos c, if_pos c]
            · rw [if_neg c, if_neg c]
          refine ⟨fun i hi h => ?_, ?_⟩
          · rw [row6]
            by_cases c : i = x2.toNatClampNeg
            · rw [if_pos c]; exact ro
            · rw [if_neg c]; exact Pn.1 i (by omega) h
          by_cases c : x2.toNatClampNeg ≤ 6
          · rcases Pn.2 with ⟨pw, ov⟩ | ⟨y, _⟩
            rotate_left
            · omega
            left
            obtain ⟨x, y, w, W, bits⟩ := ap_q ro (by rw [j9]; exact pw) c eh3
            have e9 : hJ h3 (V 4) 9 = x := by rw [w, r_J, if_neg (fun z => absurd z.2 (by decide)), r_J, if_pos ⟨rfl, rfl⟩]
            have e10 : hJ h3 (V 4) 10 = y := by rw [w, r_J, if_pos ⟨rfl, rfl⟩]
            rw [e9, e10, cx]
            refine ⟨⟨W.1, fun i hi => ?_, ?_⟩, fun t => ?_⟩
            · rw [rowq i hi]; exact W.2.1 i hi
            · rw [pks_c (r := fun i => if i = x2.toNatClampNeg then o2.1.toNatClampNeg else rowN hr (V 63) i) _ rowq]
              exact W.2.2
            · rw [bits, j10, Bool.or_eq_true, ov t, Bool.and_eq_true, decide_eq_true_eq, decide_eq_true_eq]
              constructor
              · rintro (⟨i, i1, i2, i3⟩ | ⟨i1, i2⟩)
                · exact ⟨i, i1, by omega, by rw [rowq i (by omega), if_neg (by omega)]; exact i3⟩
                · exact ⟨x2.toNatClampNeg, by omega, by omega, by rw [rowq _ (by omega), if_pos rfl]; exact i2⟩
              · rintro ⟨i, i1, i2, i3⟩
                rw [rowq i i2] at i3
                by_cases d : i = x2.toNatClampNeg
                · rw [if_pos d] at i3
                  exact Or.inr ⟨by omega, i3⟩
                · rw [if_neg d] at i3
                  exact Or.inl ⟨i, i1, by omega, i3⟩
          · refine Or.inr ⟨by omega, ?_⟩
            rw [ap_8 (q := rowN hr (V 63)) (by
              rw [j9]
              rcases Pn.2 with ⟨pw, _⟩ | ⟨_, y⟩
              · have : x2.toNatClampNeg = 7 := by have := pw.1; omega
                rw [this] at pw
                exact Or.inl pw
              · exact Or.inr y) eh3, r_J, if_pos ⟨rfl, rfl⟩]
      replace e := bn_e (fun z => by
        have := le_i z
        rw [z12] at this
        omega) e
      rcases br_2 Iff.rfl e e' with ⟨_, e, e'⟩ | ⟨l, e, e'⟩
      · exact nxt e e'
      have l := nlt_i l
      rw [z2] at l
      replace e := ce_e S.1.2.1 e
      replace e := cl_s e; obtain ⟨o4, eo4, e⟩ := e
      replace e' := cl_s e'; obtain ⟨o2, eo2, e'⟩ := e'
      obtain ⟨w4, w2, H⟩ := by_p S eo4 eo2
      rw [w4] at e
      rw [w2] at e'
      rcases br_2 (by_k (k := (32 : Int32)) H ⟨by decide, by decide⟩) e e' with ⟨_, e, e'⟩ | ⟨_, e, e'⟩
      rotate_left
      · exact nxt e e'
      unfold sX7_readPass_64 at e
      unfold sX15_readPass_77 at e'
      -- the end
      have fin : ∀ {v : Int32}, Rg 2 64 v → PPn V v.toNatClampNeg hc hr → (nm (wI hr (V 13) 3 v) fun h_1 => cl (sX15_reads h_1 (V 16) (32 : Int32)) fun o_2 => gd (o_2.1 &&& 1 = o_2.1) <| some (o_2.1, o_2.2)) = some o' → (o.1 = 0 ∧ o'.1 = 0 ∧ AtV V N o.2 o'.2) ∨ (o.1 = 1 ∧ FrV V (wl wcP) hc o.2 ∧ ∃ g, FrV V (wl wrP) hr g ∧ RdV V N o.2 g ∧ PPs V o.2 g ∧ sX15_reads g (V 16) (32 : Int32) = some o') := fun {v} rv P u => by
        replace u := nm_s u; obtain ⟨k1, y1, u⟩ := u
        replace u := cl_s u; obtain ⟨o3, eo3, u⟩ := u
        have yo := so_e (gg_e u)
        have B1 : FrV V (wl wrP) hr k1 := by rw [y1]; exact fv_w rfl
        have at1 : AtV V N hc k1 := by
          refine ⟨?_, p2, p3⟩
          rw [y1, rI_a (vne D)]; exact p1
        rw [so_e e]
        refine Or.inr ⟨rfl, fv_0, k1, B1, rdv_w D S fv_0 (sub_l B1 (by decide)) at1, Or.inr ?_, by rw [eo3, yo]⟩
        have e3 : hI k1 (V 13) 3 = v := by rw [y1, rI_s]
        have row1 : ∀ i, hI k1 (V 63) i = hI hr (V 63) i := fun i => by rw [y1, rI_a (vne D)]
        have rn : rowN k1 (V 63) = rowN hr (V 63) := funext fun i => by unfold rowN; rw [row1]
        rw [e3]
        refine ⟨rv, fun i hi h => by rw [row1]; exact P.1 i hi h, ?_⟩
        rw [rn]
        exact P.2
      rcases br_s e' with ⟨g64, e'⟩ | ⟨g64, e'⟩
      · have g64 := le_i g64
        rw [z64] at g64
        exact fin (v := (64 : Int32)) ⟨by decide, by decide⟩ (ppn_64 Pn (by omega)) e'
      · have g64 := nle_i g64
        rw [z64] at g64
        exact fin ⟨l, by omega⟩ Pn e'
/-- PASS; then the reference wants a blank -/
theorem ps_p (D : VD V) (S : RdV V N hc hr) (Pr : VPr V hr) (j9 : hJ hc (V 4) 9 = 0) (j10 : hJ hc (V 4) 10 = 0) (k3 : hI hr (V 13) 3 = 0) (e : sX7_readPass F hc (V 7) (V 4) = some o) (e' : sX15_readPass F hr (V 16) (V 13) = some o') : (o.1 = 0 ∧ o'.1 = 0 ∧ AtV V N o.2 o'.2) ∨ (o.1 = 1 ∧ FrV V (wl wcP) hc o.2 ∧ ∃ g, FrV V (wl wrP) hr g ∧ RdV V N o.2 g ∧ PPs V o.2 g ∧ sX15_reads g (V 16) (32 : Int32) = some o') := by
  unfold sX7_readPass at e
  unfold sX15_readPass at e'
  replace e := cl_s e; obtain ⟨o1, eo1, e⟩ := e
  replace e' := cl_s e'; obtain ⟨k1, ek1, e'⟩ := e'
  rcases tk_p D S ⟨by decide, by decide⟩ eo1 ek1 with ⟨y, y'⟩ | ⟨y, y', S1⟩
  · rw [y] at e
    rw [y'] at e'
    replace e := bp_e rfl e
    replace e' := bp_e rfl e'
    refine ps_13 D F F (x2 := (0 : Int32)) S Pr ⟨fun i hi => absurd (show i < 0 from hi) (Nat.not_lt_zero i), Or.inl ⟨⟨by decide, fun i hi => absurd (show i < 0 from hi) (Nat.not_lt_zero i), ?_⟩, fun t => ?_⟩⟩ (by decide) ?_ e e'
    · rw [j9]
      show (Int64.toBitVec 0).toNat = 0 + 8 * 0
      decide
    · rw [j10, bj_zero]
      refine ⟨fun z => absurd z (by decide), ?_⟩
      rintro ⟨i, _, i2, _⟩
      exact absurd (show i < 0 from i2) (Nat.not_lt_zero i)
    · have := S.2.2.2.1.2.1
      have z0 : (0 : Int32).toInt = 0 := rfl
      rw [z0]
      omega
  · have v1 : o1.1 = 1 := by rw [y]
    have v1' : k1.1 = 1 := by rw [y']
    replace e := bn_e (fun z => by rw [v1] at z; exact absurd z (by decide)) e
    replace e' := bn_e (fun z => by rw [v1'] at z; exact absurd z (by decide)) e'
    replace e' := cl_s e'; obtain ⟨o3, eo3, e'⟩ := e'
    have yy := so_e (gg_e e')
    have A1 : FrV V (wl wcP) hc o1.2 := by rw [y]; exact fv_w rfl
    have B1 : FrV V (wl wrP) hr k1.2 := by rw [y']; exact fv_w rfl
    rw [so_e e]
    refine Or.inr ⟨rfl, A1, k1.2, B1, S1, Or.inl ⟨?_, ?_, ?_⟩, by rw [eo3, yy]⟩
    · show hI k1.2 (V 13) 3 = 0
      rw [y']
      show hI (wI hr (V 16) 19 _) (V 13) 3 = 0
      rw [rI_a (vne D)]; exact k3
    · show hJ o1.2 (V 4) 9 = 0
      rw [y]; exact j9
    · show hJ o1.2 (V 4) 10 = 0
      rw [y]; exact j10
end
