/-! the row of men: in order -/
abbrev RWL : List (Nat × Nat) := [(23, 999), (1, 8)]
def RoW (G : Int → Prop) (x0 ro : Nat) (h : Hp) : Prop := (∀ i : Nat, (i : Int) < (hI h x0 8).toInt → G (hI h ro i).toInt) ∧ ∀ i j : Nat, i < j → (j : Int) < (hI h x0 8).toInt → (hI h ro i).toInt ≤ (hI h ro j).toInt
theorem man_i {t s : Int32} (it : Rg 0 23 t) (is : Rg 0 63 s) : ((t <<< ((6 : Int32) &&& 31)) ||| s).toInt = s.toInt + t.toInt * 64 := by
  have a := it.1
  have b := it.2
  have e : (t <<< ((6 : Int32) &&& 31)).toInt = t.toInt * 64 := shl_i (m := 6) rfl a (by show t.toInt * 64 ≤ _; omega)
  have := is.1
  have := is.2
  rw [Int32.or_comm, or_i (m := 6) (z := t.toInt) is.1 (by show _ < (64 : Int); omega) a e (by rw [e]; omega), e]
theorem and63_i {x : Int32} (a : 0 ≤ x.toInt) : (x &&& (63 : Int32)).toInt = x.toInt % 64 := and_i (m := 6) a (by decide) rfl
theorem shr6_i {x : Int32} : (x >>> ((6 : Int32) &&& 31)).toInt = x.toInt / 64 := shr_i (s := 6) 6 rfl
theorem sat_and {α : Type} {Z Q : α → Prop} {m : Option α} (S : Sat m Z) (H : ∀ o, m = some o → Z o → Q o) : Sat m Q := by
  obtain ⟨o, e, z⟩ := S
  exact ⟨o, e, H o e z⟩
section
variable {ρ : Nat → Nat} {c : Cm} {h o : Hp} {x0 x1 ro on F : Nat} {m : Int32} {G : Int → Prop}
theorem atr_41 {n : Nat} {x2 : Int32} (r0 : ρ x0 = 1) (qo : ρ ro = 23) (e7 : hR h x0 7 = some ro) (g1 : G m.toInt) (n4 : n ≤ 4) (e8 : (hI h x0 8).toInt = n) (a2 : 0 ≤ x2.toInt) (b2 : x2.toInt ≤ n) (A : ∀ i : Nat, i ≤ n → ¬ (i : Int) = x2.toInt → G (hI h ro i).toInt) (B : ∀ i j : Nat, i < j → j ≤ n → ¬ (i : Int) = x2.toInt → ¬ (j : Int) = x2.toInt → (hI h ro i).toInt ≤ (hI h ro j).toInt) (C : ∀ j : Nat, x2.toInt < j → j ≤ n → m.toInt ≤ (hI h ro j).toInt) (D : ∀ i : Nat, (i : Int) < x2.toInt → (hI h ro i).toInt ≤ m.toInt) (e : sX0_addToRow_41 F h x0 m x2 = some o) : RoW G x0 ro o ∧ (hI o x0 8).toInt = n + 1 ∧ Kf ρ RWL h o := by
  unfold sX0_addToRow_41 at e
  replace e := cl_s e
  obtain ⟨r1, e1, e⟩ := e
  replace e := gd_s e
  obtain ⟨_, e⟩ := e
  replace e := nm_s e
  obtain ⟨h3, w3, e⟩ := e
  replace e := nm_s e
  obtain ⟨h4, w4, e⟩ := e
  have q1 : r1 = ro := r_eq e7 e1
  subst q1
  have eo := Option.some.inj e
  subst eo
  have nr : ¬ x0 = r1 := ne_r' r0 qo (by decide)
  have c2 := clamp_i a2
  have k8 : hI h3 x0 8 = hI h x0 8 := by rw [w3, r_I, if_neg (fun z => nr z.1)]
  have z1 : (1 : Int32).toInt = 1 := rfl
  have e84 : (hI h4 x0 8).toInt = n + 1 := by
    rw [w4, r_I, if_pos ⟨rfl, rfl⟩, k8, ta (by rw [z1, e8]; omega), e8, z1]
  have v : ∀ i, hI h4 r1 i = if i = x2.toNatClampNeg then m else hI h r1 i := fun i => by
    rw [w4, r_I, if_neg (fun z => nr z.1.symm), w3, r_I]
    by_cases z : i = x2.toNatClampNeg
    · rw [if_pos ⟨rfl, z⟩, if_pos z]
    · rw [if_neg (fun y => z y.2), if_neg z]
  refine ⟨⟨fun i hi => ?_, fun i j hij hj => ?_⟩, e84, kf_t (kf_wI w3 qo) (kf_wI w4 r0)⟩
  · rw [v i]
    split
    · exact g1
    · exact A i (by omega) (by omega)
  · rw [v i, v j]
    rw [e84] at hj
    by_cases zi : i = x2.toNatClampNeg
    · rw [if_pos zi, if_neg (by omega)]
      exact C j (by omega) (by omega)
    · rw [if_neg zi]
      by_cases zj : j = x2.toNatClampNeg
      · rw [if_pos zj]
        exact D i (by omega)
      · rw [if_neg zj]
        exact B i j hij (by omega) (by omega) (by omega)
theorem atr_5 {n : Nat} (r0 : ρ x0 = 1) (qo : ρ ro = 23) (g1 : G m.toInt) (n4 : n ≤ 4) : ∀ (f : Nat) {h o : Hp} {x2 : Int32}, hR h x0 7 = some ro → (hI h x0 8).toInt = n → 0 ≤ x2.toInt → x2.toInt ≤ n → (∀ i : Nat, i ≤ n → ¬ (i : Int) = x2.toInt → G (hI h ro i).toInt) → (∀ i j : Nat, i < j → j ≤ n → ¬ (i : Int) = x2.toInt → ¬ (j : Int) = x2.toInt → (hI h ro i).toInt ≤ (hI h ro j).toInt) → (∀ j : Nat, x2.toInt < j → j ≤ n → m.toInt ≤ (hI h ro j).toInt) → sX0_addToRow_5 F f h x0 m x2 = some o → RoW G x0 ro o ∧ (hI o x0 8).toInt = n + 1 ∧ Kf ρ RWL h o := by
  intro f
  induction f with
  | zero => intro h o x2 _ _ _ _ _ _ _ e; exact absurd e (by rw [sX0_addToRow_5]; exact fun z => nomatch z)
  | succ f ih =>
    intro h o x2 e7 e8 a2 b2 A B C e
    rw [sX0_addToRow_5] at e
    have z0 : (0 : Int32).toInt = 0 := rfl
    have z1 : (1 : Int32).toInt = 1 := rfl
    replace e := br_s e
    rcases e with ⟨l, e⟩ | ⟨l, e⟩
    · have l := le_i l
      rw [z0] at l
      exact atr_41 r0 qo e7 g1 n4 e8 a2 b2 A B C (fun i hi => by omega) e
    · have l := nle_i l
      rw [z0] at l
      have d1 : (x2 - (1 : Int32)).toInt = x2.toInt - 1 := by rw [ts (by rw [z1]; omega), z1]
      have d2 : (x2 + (-1 : Int32)).toInt = x2.toInt - 1 := rg_dec (a := 0) (b := 5) ⟨a2, by omega⟩ (by decide)
      have c1 := clamp_i (v := x2 - (1 : Int32)) (by omega)
      have c2 := clamp_i a2
      replace e := cl_s e
      obtain ⟨r2, e2, e⟩ := e
      replace e := gd_s e
      obtain ⟨_, e⟩ := e
      have q2 : r2 = ro := r_eq e7 e2
      subst q2
      replace e := br_s e
      rcases e with ⟨u, e⟩ | ⟨u, e⟩
      · have u := le_i u
        refine atr_41 r0 qo e7 g1 n4 e8 a2 b2 A B C (fun i hi => ?_) e
        by_cases z : i = (x2 - (1 : Int32)).toNatClampNeg
        · rw [z]; exact u
        · exact Int.le_trans (B i (x2 - (1 : Int32)).toNatClampNeg (by omega) (by omega) (by omega) (by omega)) u
      · have u := nle_i u
        replace e := cl_s e
        obtain ⟨r5, e5, e⟩ := e
        replace e := cl_s e
        obtain ⟨r6, e6, e⟩ := e
        replace e := gd_s e
        obtain ⟨_, e⟩ := e
        replace e := gd_s e
        obtain ⟨_, e⟩ := e
        replace e := nm_s e
        obtain ⟨h9, w9, e⟩ := e
        replace e := nm_s e
        obtain ⟨v10, w10, e⟩ := e
        have q5 : r5 = r2 := r_eq e7 e5
        have q6 : r6 = r2 := r_eq e7 e6
        rw [q5, q6] at w9
        have t10 : v10.toInt = x2.toInt - 1 := by rw [w10]; exact d2
        clear w10 d2
        have nr : ¬ x0 = r2 := ne_r' r0 qo (by decide)
        have v : ∀ i, hI h9 r2 i = if i = x2.toNatClampNeg then hI h r2 (x2 - (1 : Int32)).toNatClampNeg else hI h r2 i := fun i => by
          rw [w9, r_I]
          by_cases z : i = x2.toNatClampNeg
          · rw [if_pos ⟨rfl, z⟩, if_pos z]
          · rw [if_neg (fun y => z y.2), if_neg z]
        have K9 : Kf ρ RWL h h9 := kf_wI w9 qo
        obtain ⟨p1, p2, p3⟩ := ih (h := h9) (x2 := v10) (by rw [kfR 7 K9 r0]; exact e7) (by rw [w9, r_I, if_neg (fun z => nr z.1)]; exact e8) (by omega) (by omega) (fun i hi ni => by
          rw [v i]
          split
          · exact A _ (by omega) (by omega)
          · exact A i hi (by omega)) (fun i j hij hj ni nj => by
          rw [v i, v j]
          by_cases zi : i = x2.toNatClampNeg
          · rw [if_pos zi, if_neg (by omega)]
            exact B _ j (by omega) hj (by omega) (by omega)
          · rw [if_neg zi]
            by_cases zj : j = x2.toNatClampNeg
            · rw [if_pos zj]
              exact B i _ (by omega) (by omega) (by omega) (by omega)
            · rw [if_neg zj]
              exact B i j hij hj (by omega) (by omega)) (fun j hj hn => by
          rw [v j]
          by_cases zj : j = x2.toNatClampNeg
          · rw [if_pos zj]; omega
          · rw [if_neg zj]
            exact C j (by omega) hn) e
        exact ⟨p1, p2, kf_t K9 p3⟩
theorem atr_q (r0 : ρ x0 = 1) (qo : ρ ro = 23) (e7 : hR h x0 7 = some ro) (g1 : G m.toInt) (a8 : 0 ≤ (hI h x0 8).toInt) (b8 : (hI h x0 8).toInt ≤ 4) (R : RoW G x0 ro h) (e : sX0_addToRow F h x0 m = some o) : RoW G x0 ro o ∧ (hI o x0 8).toInt = (hI h x0 8).toInt + 1 ∧ Kf ρ RWL h o := by
  have c8 := clamp_i a8
  unfold sX0_addToRow at e
  replace e := nm_s e
  obtain ⟨v1, w1, e⟩ := e
  subst w1
  have := atr_5 (n := (hI h x0 8).toNatClampNeg) r0 qo g1 (by omega) F e7 (by omega) a8 (by omega) (fun i hi ni => R.1 i (by omega)) (fun i j hij hj ni nj => R.2 i j hij (by omega)) (fun j hj hn => by omega) e
  rw [c8] at this
  exact this
/-- squares of a set of bits -/
def BtS (sq : Int) (x : Int64) : Prop := ∀ s : Nat, s < 64 → bitJ x s = true → (s : Int) < sq
theorem bts_and {sq : Int} {x y : Int64} (P : BtS sq x) : BtS sq (x &&& y) := fun s hs hb => P s hs (by
  rw [bj_and, Bool.and_eq_true] at hb
  exact hb.1)
def RoG (sq : Int) (m : Int) : Prop := 0 ≤ m ∧ m ≤ 1535 ∧ m % 64 < sq
theorem gat_14 {sq : Int} {x2 x3 : Int32} (hF : 700000 ≤ F) (hA : pmA c RWL) (r0 : ρ x0 = 1) (r1 : ρ x1 = 4) (qo : ρ ro = 23) (i3 : Rg (-1) 23 x3) : ∀ (f : Nat) {h o : Hp} {x4 : Int64} {x6 : Int32}, TH ρ c h → hR h x0 7 = some ro → PosM x1 x4 h → BtS sq x4 → RoW (RoG sq) x0 ro h → sX0_gatherRow_14 F f h x0 x1 x2 x3 x4 x6 = some o → RoW (RoG sq) x0 ro o ∧ Kf ρ RWL h o := by
  intro f
  induction f with
  | zero => intro h o x4 x6 _ _ _ _ _ e; exact absurd e (by rw [sX0_gatherRow_14]; exact fun z => nomatch z)
  | succ f ih =>
    intro h o x4 x6 T e7 P B R e
    rw [sX0_gatherRow_14] at e
    unfold sX0_gatherRow_95 at e
    replace e := br_s e
    rcases e with ⟨_, e⟩ | ⟨_, e⟩
    · rw [← Option.some.inj e]; exact ⟨R, kf_r⟩
    replace e := br_s e
    rcases e with ⟨_, e⟩ | ⟨nz, e⟩
    · rw [← Option.some.inj e]; exact ⟨R, kf_r⟩
    replace e := cl_s e
    obtain ⟨o3, e3, e⟩ := e
    have l3 := low_in e3 nz
    obtain ⟨q3, i3'⟩ := sat_e (zX11_lowest hF T) e3
    have c3 := clamp_i i3'.1
    have b3 := i3'.2
    have s3 : o3.1.toInt < sq := by have := B o3.1.toNatClampNeg (by omega) l3; omega
    replace e := nm_s e
    obtain ⟨v4, e4, e⟩ := e
    rw [q3] at e
    have P4 : PosM x1 v4 h := by rw [e4]; exact pm_and P
    have B4 : BtS sq v4 := by rw [e4]; exact bts_and B
    clear e4
    have b61 : ∀ {t : Int32}, Rg (-1) 23 t → sX0_gatherRow_61 F (sX0_gatherRow_14 F f) h x0 x1 x2 x3 v4 x6 o3.1 t = some o → RoW (RoG sq) x0 ro o ∧ Kf ρ RWL h o := fun {t} it e => by
      unfold sX0_gatherRow_61 sX0_gatherRow_89 at e
      replace e := br_s e
      rcases e with ⟨_, e⟩ | ⟨n1, e⟩
      · exact ih T e7 P4 B4 R e
      replace e := br_s e
      rcases e with ⟨_, e⟩ | ⟨n8, e⟩
      · exact ih T e7 P4 B4 R e
      replace e := cl_s e
      obtain ⟨o5, e5, e⟩ := e
      have it' : Rg 0 23 t := rg_nlo n1 it (rg_b rfl : Rg (-1) (-1) (-1 : Int32))
      have n8 := nle_i n8
      have z5 : (5 : Int32).toInt = 5 := rfl
      have i8 := thI T r0 (k := 1) (i := 8) (lo := 0) (hi := 5) rfl
      have mi := man_i it' i3'
      have := it'.1
      have := it'.2
      have := i3'.1
      have T5 := sat_e (zX0_addToRow hF hA T r0 (show Rg 0 2047 _ from ⟨by rw [mi]; omega, by rw [mi]; omega⟩) (by omega)) e5
      obtain ⟨p1, _, p3⟩ := atr_q r0 qo e7 (show RoG sq _ from ⟨by rw [mi]; omega, by rw [mi]; omega, by rw [mi]; omega⟩) i8.1 (by omega) R e5
      have P5 : PosM x1 v4 o5 := fun on s eo hs hb => by
        rw [kfR 0 p3 r1] at eo
        rw [kfI s p3 (th_on T r1 eo)]
        exact P4 on s eo hs hb
      obtain ⟨u1, u2⟩ := ih T5 (by rw [kfR 7 p3 r0]; exact e7) P5 B4 p1 e
      exact ⟨u1, kf_t p3 u2⟩
    replace e := br_s e
    rcases e with ⟨_, e⟩ | ⟨_, e⟩
    · exact b61 i3 e
    · replace e := cl_s e
      obtain ⟨r6, e6, e⟩ := e
      replace e := gd_s e
      obtain ⟨_, e⟩ := e
      exact b61 (rg_m (pm_low P e3 nz i3' e6 (thI T (th_on T r1 e6) (k := 34) (lo := -2) (hi := 23) rfl)) (by decide)) e
/-- a position's men in a row -/
theorem gat_q {sq : Int} {x2 x3 : Int32} {oc : Int64 × Hp} (hF : 700000 ≤ F) (hA : pmA c RWL) (T : TH ρ c h) (r0 : ρ x0 = 1) (r1 : ρ x1 = 4) (e7 : hR h x0 7 = some ro) (i2 : Rg (-1) 63 x2) (i3 : Rg (-1) 23 x3) (eo : sX3_occupied h x1 = some oc) (B : BtS sq oc.1) : Sat (sX0_gatherRow F h x0 x1 x2 x3) (fun o => TH ρ c o ∧ RoW (RoG sq) x0 ro o ∧ Kf ρ RWL h o) := by
  have qo : ρ ro = 23 := rr T (thR T r0 (i := 7) (k2 := 23) rfl (by decide)) e7
  refine sat_and (zX0_gatherRow hF hA rfl T r0 r1 i2 i3) (fun o e To => ⟨To, ?_⟩)
  unfold sX0_gatherRow at e
  replace e := nm_s e
  obtain ⟨h1, w1, e⟩ := e
  have T1 : TH ρ c h1 := by rw [w1]; exact th_wI T r0 (k := 1) (lo := 0) (hi := 5) rfl (rg_m (rg_b rfl : Rg 0 0 (0 : Int32)) (by decide)) (by decide) (by decide) (pm_a hA rfl)
  have K1 : Kf ρ RWL h h1 := kf_wI w1 r0
  replace e := cl_s e
  obtain ⟨o2, e2, e⟩ := e
  have q2 := (sat_e (zX3_occupied hF T1 r1) e2)
  have eoc : o2.1 = oc.1 := by
    unfold sX3_occupied at eo e2
    obtain ⟨f1, g1, eo⟩ := cl_s eo
    obtain ⟨_, eo⟩ := gd_s eo
    obtain ⟨f2, g2, eo⟩ := cl_s eo
    obtain ⟨_, eo⟩ := gd_s eo
    obtain ⟨f3, g3, e2⟩ := cl_s e2
    obtain ⟨_, e2⟩ := gd_s e2
    obtain ⟨f4, g4, e2⟩ := cl_s e2
    obtain ⟨_, e2⟩ := gd_s e2
    rw [kfR 1 K1 r1] at g3 g4
    have y3 : f3 = f1 := r_eq g1 g3
    have y4 : f4 = f2 := r_eq g2 g4
    subst y3; subst y4
    rw [← Option.some.inj eo, ← Option.some.inj e2, kfJ _ K1 (th_of T r1 g1), kfJ _ K1 (th_of T r1 g2)]
  rw [q2, eoc] at e
  have P1 : PosM x1 oc.1 h1 := fun on s en hs hb => by
    rw [kfR 0 K1 r1] at en
    rw [kfI s K1 (th_on T r1 en)]
    exact pm_occ T r1 eo on s en hs hb
  have e8 : (hI h1 x0 8).toInt = 0 := by rw [w1, r_I, if_pos ⟨rfl, rfl⟩]; rfl
  obtain ⟨u1, u2⟩ := gat_14 hF hA r0 r1 qo i3 F T1 (by rw [kfR 7 K1 r0]; exact e7) P1 B ⟨fun i hi => by omega, fun i j hij hj => by omega⟩ e
  exact ⟨u1, kf_t K1 u2⟩
end
