/-! positions: the loop over men in hand -/
section
variable {F : Nat} {V : Nat → Nat} {N : Int32} {hc hr : Hp} {o o' : Int32 × Hp}
theorem hd_13 (D : VD V) : ∀ (f g : Nat) {hc hr : Hp} {x2 : Int32}, RdV V N hc hr → VPc V hc → VPr V hr → PHd V hc hr → 0 ≤ x2.toInt → x2.toInt ≤ 32 → sX7_readHands_13 F f hc (V 7) (V 4) x2 = some o → sX15_readHands_18 F g hr (V 16) (V 13) x2 = some o' → (o.1 = 0 ∧ o'.1 = 0 ∧ AtV V N o.2 o'.2) ∨ (o.1 = 1 ∧ FrV V (wl wcH) hc o.2 ∧ ∃ g, FrV V (wl wrH) hr g ∧ RdV V N o.2 g ∧ PHd V o.2 g ∧ sX15_reads g (V 16) (32 : Int32) = some o') := by
  have z1 : (1 : Int32).toInt = 1 := rfl
  have z0 : (0 : Int32).toInt = 0 := rfl
  have z16 : (16 : Int32).toInt = 16 := rfl
  have z32 : (32 : Int32).toInt = 32 := rfl
  have zm : (-1 : Int32).toInt = -1 := by decide
  intro f
  induction f with
  | zero => intro g hc hr x2 _ _ _ _ _ _ e; exact absurd e (by rw [sX7_readHands_13]; exact fun z => nomatch z)
  | succ f ih =>
    intro g hc hr x2 S Pc Pr Ph a2 b2 e e'
    cases g with
    | zero => exact absurd e' (by rw [sX15_readHands_18]; exact fun z => nomatch z)
    | succ g =>
      rw [sX7_readHands_13] at e
      rw [sX15_readHands_18] at e'
      unfold sX7_readHands_107 at e
      -- one man more
      have nxt : x2.toInt < 32 → sX7_readHands_39 F (sX7_readHands_13 F f) hc (V 7) (V 4) x2 = some o → sX15_readHands_31 F (sX15_readHands_18 F g) hr (V 16) (V 13) x2 = some o' → (o.1 = 0 ∧ o'.1 = 0 ∧ AtV V N o.2 o'.2) ∨ (o.1 = 1 ∧ FrV V (wl wcH) hc o.2 ∧ ∃ g, FrV V (wl wrH) hr g ∧ RdV V N o.2 g ∧ PHd V o.2 g ∧ sX15_reads g (V 16) (32 : Int32) = some o') := fun l32 e e' => by
        unfold sX7_readHands_39 sX7_readHands_78 at e
        unfold sX15_readHands_31 sX15_readHands_63 at e'
        replace e := cl_s e; obtain ⟨r1, p, e⟩ := e
        rw [r_eq S.1.1 p] at e
        replace e := cl_s e; obtain ⟨r2, p, e⟩ := e
        rw [r_eq S.1.2.1 p] at e
        replace e := cl_s e; obtain ⟨o3, eo3, e⟩ := e
        replace e' := cl_s e'; obtain ⟨o1, eo1, e'⟩ := e'
        obtain ⟨w3, w1, H⟩ := by_p S eo3 eo1
        rw [w3] at e
        rw [w1] at e'
        replace e := cl_s e; obtain ⟨o4, eo4, e⟩ := e
        replace e' := cl_s e'; obtain ⟨o2, eo2, e'⟩ := e'
        obtain ⟨w4, w2, alt⟩ := man_p S H eo4 eo2
        rw [w4] at e
        rw [w2] at e'
        replace e := br_s e
        replace e' := br_s e'
        rcases alt with ⟨c1, c2⟩ | ⟨rv, cv, lt⟩
        · rcases e with ⟨_, e⟩ | ⟨n, _⟩
          rotate_left
          · exact absurd c1 n
          rcases e' with ⟨_, e'⟩ | ⟨n, _⟩
          rotate_left
          · exact absurd c2 n
          rw [← Option.some.inj e, ← Option.some.inj e']
          exact Or.inl ⟨rfl, rfl, S.2.2.2.1⟩
        have v1 := rv.1
        have v24 := rv.2
        obtain ⟨tv, mr, sr⟩ := man_v (v := o2.1) rv
        rcases e with ⟨n, _⟩ | ⟨_, e⟩
        · rw [cv, ← Int32.toInt_inj, tv, zm] at n; omega
        rcases e' with ⟨n, _⟩ | ⟨_, e'⟩
        · rw [n, z0] at v1; omega
        replace e' := br_s e'
        rcases e' with ⟨n, _⟩ | ⟨_, e'⟩
        · rw [n, z32] at l32; omega
        rw [cv] at e
        replace e := cl_s e; obtain ⟨o6, eo6, e⟩ := e
        obtain ⟨w6, v6⟩ := inh_v Pc.2.2.2.1 mr eo6
        rw [w6] at e
        replace e' := cl_s e'; obtain ⟨r5, p, e'⟩ := e'
        rw [r_eq Pr.2.2.1 p] at e'
        replace e' := (gd_s e').2
        -- his place among the hands
        have m0 := mr.1
        have s0 := sr.1
        have nm' := nc_i m0
        have ns := nc_i s0
        have nv := nc_i (x := o2.1 - (1 : Int32)) (by omega)
        have dig : (o2.1 - (1 : Int32)).toInt = 2 * ((o2.1 - (1 : Int32)) >>> ((1 : Int32) &&& 31)).toInt + ((o2.1 - (1 : Int32)) &&& (1 : Int32)).toInt := by
          have q1 : ∀ j : Fin 24, (nI j.val).toInt = 2 * ((nI j.val) >>> ((1 : Int32) &&& 31)).toInt + ((nI j.val) &&& (1 : Int32)).toInt := by decide +kernel
          have q2 := q1 ⟨(o2.1 - (1 : Int32)).toNatClampNeg, by omega⟩
          have ei : nI (o2.1 - (1 : Int32)).toNatClampNeg = o2.1 - (1 : Int32) := Int32.toInt_inj.mp (by rw [z_toInt (by omega)]; omega)
          dsimp only at q2
          rw [ei] at q2
          exact q2
        have s1 := sr.2
        have d24 : (o2.1 - (1 : Int32)).toNatClampNeg < 24 := by omega
        have dm : (o2.1 - (1 : Int32)).toNatClampNeg % 2 = ((o2.1 - (1 : Int32)) &&& (1 : Int32)).toNatClampNeg := by omega
        have dd : (o2.1 - (1 : Int32)).toNatClampNeg / 2 = ((o2.1 - (1 : Int32)) >>> ((1 : Int32) &&& 31)).toNatClampNeg := by omega
        obtain ⟨h1, h2⟩ := Ph.2 _ d24
        rw [dm, dd] at h1
        replace e := br_s e
        replace e' := br_s e'
        rcases e with ⟨q, e⟩ | ⟨q, e⟩
        rotate_left
        · have q := nlt_i q
          rw [z16] at q
          rcases e' with ⟨_, e'⟩ | ⟨n, _⟩
          rotate_left
          · exact absurd (Int32.toInt_inj.mp (by rw [z16]; omega)) n
          rw [← Option.some.inj e, ← Option.some.inj e']
          exact Or.inl ⟨rfl, rfl, S.2.2.2.1⟩
        have q := lt_i q
        rw [z16] at q
        rcases e' with ⟨n, _⟩ | ⟨_, e'⟩
        · rw [n, z16] at h1; omega
        replace e := cl_s e; obtain ⟨o8, eo8, e⟩ := e
        obtain ⟨xx, w8, bb, dv⟩ := adh_v Pc.2.2.2.1 mr (Ph.1 _ (by omega)) (by omega) eo8
        replace e := nm_s e; obtain ⟨h9, w9, e⟩ := e
        replace e := nm_s e; obtain ⟨v10, w10, e⟩ := e
        replace e' := cl_s e'; obtain ⟨r8, p, e'⟩ := e'
        rw [r_eq Pr.2.2.1 p] at e'
        replace e' := (gd_s e').2
        replace e' := (gd_s e').2
        replace e' := nm_s e'; obtain ⟨k11, u11, e'⟩ := e'
        replace e' := nm_s e'; obtain ⟨v12, u12, e'⟩ := e'
        replace e' := nm_s e'; obtain ⟨k13, u13, e'⟩ := e'
        rw [u12, ← w10] at e'
        have A : FrV V (wl wcH) hc h9 := fv_t (g2 := o8) (by rw [w8]; exact fv_j (wl_i (j := 999) (by decide) (Or.inr rfl))) (by rw [w9]; exact fv_w rfl)
        have B : FrV V (wl wrH) hr k13 := fv_t (g2 := k11) (by rw [u11]; exact fv_w (wl_i (j := 999) (by decide) (Or.inr rfl))) (by rw [u13]; exact fv_w rfl)
        have a1 : hI o8 (V 7) 2 = hI hc (V 7) 2 := by rw [w8]; rfl
        have b1 : hI k11 (V 16) 19 = hI hr (V 16) 19 := by rw [u11, rI_a (vne D)]
        obtain ⟨p1, p2, p3⟩ := S.2.2.2.1
        have n12 := S.2.2.1.2.2.1.2
        have at' : AtV V N h9 k13 := by
          refine ⟨?_, ?_, ?_⟩
          · rw [w9, rI_s, u13, rI_s, a1, b1, p1]
          · rw [w9, rI_s, a1, ta (by rw [z1]; omega), z1]; omega
          · rw [w9, rI_s, a1, ta (by rw [z1]; omega), z1]; omega
        have S' := rdv_w D S (sub_l A (by decide)) (sub_l B (by decide)) at'
        have tx : v10.toInt = x2.toInt + 1 := by rw [w10, ta (by rw [z1]; omega), z1]
        have J9 : ∀ i, hJ h9 (V 37) i = if i = ((o2.1 - (1 : Int32)) &&& (1 : Int32)).toNatClampNeg then xx else hJ hc (V 37) i := fun i => by
          rw [w9]
          show hJ o8 (V 37) i = _
          rw [w8, r_J]
          by_cases z : i = ((o2.1 - (1 : Int32)) &&& (1 : Int32)).toNatClampNeg
          · rw [if_pos ⟨rfl, z⟩, if_pos z]
          · rw [if_neg (fun y => z y.2), if_neg z]
        have I13 : ∀ i, hI k13 (V 64) i = hI k11 (V 64) i := fun i => by rw [u13, rI_a (vne D)]
        have t17 : ((hI hr (V 64) (o2.1 - (1 : Int32)).toNatClampNeg) + (1 : Int32)).toInt = (hI hr (V 64) (o2.1 - (1 : Int32)).toNatClampNeg).toInt + 1 := by rw [ta (by rw [z1]; omega), z1]
        have P' : PHd V h9 k13 := by
          refine ⟨fun s hs => ?_, fun d hd => ?_⟩
          · rw [J9]
            split
            · exact bb
            · exact Ph.1 s hs
          · obtain ⟨g1, g2⟩ := Ph.2 d hd
            rw [I13, u11, J9]
            by_cases z : d = (o2.1 - (1 : Int32)).toNatClampNeg
            · rw [z, rI_s, dm, dd, if_pos rfl, dv, if_pos rfl, t17]
              exact ⟨by omega, by omega⟩
            · rw [rI_o z]
              refine ⟨?_, g2⟩
              by_cases y : d % 2 = ((o2.1 - (1 : Int32)) &&& (1 : Int32)).toNatClampNeg
              · rw [if_pos y, dv, if_neg (by omega), g1, y]
                rfl
              · rw [if_neg y]; exact g1
        rcases ih g S' (vpc_f Pc A) (vpr_f Pr B) P' (by omega) (by omega) e e' with r | ⟨r1, r2, q', r3, r4⟩
        · exact Or.inl r
        · exact Or.inr ⟨r1, fv_t A r2, q', fv_t B r3, r4⟩
      replace e := br_s e
      rcases e with ⟨l, e⟩ | ⟨l, e⟩
      · -- 32 men
        have l := le_i l
        rw [z32] at l
        have x32 : x2 = (32 : Int32) := Int32.toInt_inj.mp (by rw [z32]; omega)
        refine Or.inr ⟨by rw [← Option.some.inj e], by rw [← Option.some.inj e]; exact fv_0, hr, fv_0, by rw [← Option.some.inj e]; exact S, by rw [← Option.some.inj e]; exact Ph, ?_⟩
        replace e' := br_s e'
        rcases e' with ⟨n, _⟩ | ⟨_, e'⟩
        · rw [n, z0] at l; omega
        replace e' := cl_s e'; obtain ⟨o2, eo2, e'⟩ := e'
        have w2 := lok_h eo2
        rw [w2] at e'
        replace e' := br_s e'
        rcases e' with ⟨b, e'⟩ | ⟨b, e'⟩
        · replace e' := cl_s e'; obtain ⟨o3, eo3, e'⟩ := e'
          have y' := Option.some.inj (gd_s e').2
          rw [eo3, ← y']
        · rw [x32] at e'
          rw [h31_n e']
          unfold sX15_reads
          rw [eo2]
          show br (o2.1 = (32 : Int32)) _ (some ((0 : Int32), o2.2)) = _
          unfold br
          rw [if_neg b, w2]
      have l := nle_i l
      rw [z32] at l
      replace e := br_s e
      replace e' := br_s e'
      rcases e with ⟨q, e⟩ | ⟨q, e⟩
      · rcases e' with ⟨_, e'⟩ | ⟨n, _⟩
        rotate_left
        · exact absurd q n
        exact nxt l e e'
      rcases e' with ⟨n, _⟩ | ⟨_, e'⟩
      · exact absurd n q
      replace e := cl_s e; obtain ⟨r3, p, e⟩ := e
      rw [r_eq S.1.2.1 p] at e
      replace e := cl_s e; obtain ⟨o4, eo4, e⟩ := e
      replace e' := cl_s e'; obtain ⟨o2, eo2, e'⟩ := e'
      obtain ⟨w4, w2, H⟩ := by_p S eo4 eo2
      rw [w4] at e
      rw [w2] at e'
      have K := by_k (k := (32 : Int32)) H ⟨by decide, by decide⟩
      replace e := br_s e
      replace e' := br_s e'
      rcases e with ⟨b, e⟩ | ⟨b, e⟩
      · rcases e' with ⟨_, e'⟩ | ⟨n, _⟩
        rotate_left
        · exact absurd (K.mp b) n
        replace e' := cl_s e'; obtain ⟨o3, eo3, e'⟩ := e'
        have y' := Option.some.inj (gd_s e').2
        rw [← Option.some.inj e]
        exact Or.inr ⟨rfl, fv_0, hr, fv_0, S, Ph, by rw [eo3, ← y']⟩
      rcases e' with ⟨n, _⟩ | ⟨_, e'⟩
      · exact absurd (K.mpr n) b
      exact nxt l e e'
end
