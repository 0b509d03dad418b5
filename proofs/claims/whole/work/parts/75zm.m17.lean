section
/-! the row of men: in order -/
abbrev RWL : List (Nat × Nat) := [(23, 999), (1, 8)]
def RoW (G : Int → Prop) (x0 ro : Nat) (h : Hp) : Prop := (∀ i : Nat, (i : Int) < (hI h x0 8).toInt → G (hI h ro i).toInt) ∧ ∀ i j : Nat, i < j → (j : Int) < (hI h x0 8).toInt → (hI h ro i).toInt ≤ (hI h ro j).toInt
theorem man_i {t s : Int32} (it : Rg 0 23 t) (is : Rg 0 63 s) : ((t <<< ((6 : Int32) &&& 31)) ||| s).toInt = s.toInt + t.toInt * 64 := by
  have a := it.1
  have b := it.2
  have e : (t <<< ((6 : Int32) &&& 31)).toInt = t.toInt * 64 := shl_i (m := 6) rfl a (by show t.toInt * 64 ≤ _; omega)
  have := is.1
  have := is.2
  rw [Int32.or_comm, or_i (m := 6) (z := t.toInt) is.1 (by show _ < (64 : Int); omega) a e (by rw [e]; omega), e]
theorem and63_i {x : Int32} (a : 0 ≤ x.toInt) : (x &&& (63 : Int32)).toInt = x.toInt % 64 := and_i (m := 6) a (by decide) rfl
theorem shr6_i {x : Int32} : (x >>> ((6 : Int32) &&& 31)).toInt = x.toInt / 64 := shr_i (s := 6) 6 rfl
theorem sat_and {α : Type} {Z Q : α → Prop} {m : Option α} (S : Sat m Z) (H : ∀ o, m = some o → Z o → Q o) : Sat m Q := by
  obtain ⟨o, e, z⟩ := S
  exact ⟨o, e, H o e z⟩
section
variable {ρ : Nat → Nat} {c : Cm} {h o : Hp} {x0 x1 ro on F : Nat} {m : Int32} {G : Int → Prop}
theorem atr_41 {n : Nat} {x2 : Int32} (r0 : ρ x0 = 1) (qo : ρ ro = 23) (e7 : hR h x0 7 = some ro) (g1 : G m.toInt) (n4 : n ≤ 4) (e8 : (hI h x0 8).toInt = n) (a2 : 0 ≤ x2.toInt) (b2 : x2.toInt ≤ n) (A : ∀ i : Nat, i ≤ n → ¬ (i : Int) = x2.toInt → G (hI h ro i).toInt) (B : ∀ i j : Nat, i < j → j ≤ n → ¬ (i : Int) = x2.toInt → ¬ (j : Int) = x2.toInt → (hI h ro i).toInt ≤ (hI h ro j).toInt) (C : ∀ j : Nat, x2.toInt < j → j ≤ n → m.toInt ≤ (hI h ro j).toInt) (D : ∀ i : Nat, (i : Int) < x2.toInt → (hI h ro i).toInt ≤ m.toInt) (e : sX0_addToRow_41 F h x0 m x2 = some o) : RoW G x0 ro o ∧ (hI o x0 8).toInt = n + 1 ∧ Kf ρ RWL h o := by
  unfold sX0_addToRow_41 at e
  replace e := cl_s e
  obtain ⟨r1, e1, e⟩ := e
  replace e := gd_s e
  obtain ⟨_, e⟩ := e
  replace e := nm_s e
  obtain ⟨h3, w3, e⟩ := e
  replace e := nm_s e
  obtain ⟨h4, w4, e⟩ := e
  have q1 : r1 = ro := r_eq e7 e1
  subst q1
  have eo := Option.some.inj e
  subst eo
  have nr : ¬ x0 = r1 := ne_r' r0 qo (by decide)
  have c2 := clamp_i a2
  have k8 : hI h3 x0 8 = hI h x0 8 := by rw [w3, r_I, if_neg (fun z => nr z.1)]
  have z1 : (1 : Int32).toInt = 1 := rfl
  have e84 : (hI h4 x0 8).toInt = n + 1 := by
    rw [w4, r_I, if_pos ⟨rfl, rfl⟩, k8, ta (by rw [z1, e8]; omega), e8, z1]
  have v : ∀ i, hI h4 r1 i = if i = x2.toNatClampNeg then m else hI h r1 i := fun i => by
    rw [w4, r_I, if_neg (fun z => nr z.1.symm), w3, r_I]
    by_cases z : i = x2.toNatClampNeg
    · rw [if_pos ⟨rfl, z⟩, if_pos z]
    · rw [if_neg (fun y => z y.2), if_neg z]
  refine ⟨⟨fun i hi => ?_, fun i j hij hj => ?_⟩, e84, kf_t (kf_wI w3 qo) (kf_wI w4 r0)⟩
  · rw [v i]
    split
    · exact g1
    · exact A i (by omega) (by omega)
  · rw [v i, v j]
    rw [e84] at hj
    by_cases zi : i = x2.toNatClampNeg
    · rw [if_pos zi, if_neg (by omega)]
      exact C j (by omega) (by omega)
    · rw [if_neg zi]
      by_cases zj : j = x2.toNatClampNeg
      · rw [if_pos zj]
        exact D i (by omega)
      · rw [if_neg zj]
        exact B i j hij (by omega) (by omega) (by omega)
theorem atr_5 {n : Nat} (r0 : ρ x0 = 1) (qo : ρ ro = 23) (g1 : G m.toInt) (n4 : n ≤ 4) : ∀ (f : Nat) {h o : Hp} {x2 : Int32}, hR h x0 7 = some ro → (hI h x0 8).toInt = n → 0 ≤ x2.toInt → x2.toInt ≤ n → (∀ i : Nat, i ≤ n → ¬ (i : Int) = x2.toInt → G (hI h ro i).toInt) → (∀ i j : Nat, i < j → j ≤ n → ¬ (i : Int) = x2.toInt → ¬ (j : Int) = x2.toInt → (hI h ro i).toInt ≤ (hI h ro j).toInt) → (∀ j : Nat, x2.toInt < j → j ≤ n → m.toInt ≤ (hI h ro j).toInt) → sX0_addToRow_5 F f h x0 m x2 = some o → RoW G x0 ro o ∧ (hI o x0 8).toInt = n + 1 ∧ Kf ρ RWL h o := by
  intro f
  induction f with
  | zero => intro h o x2 _ _ _ _ _ _ _ e; exact absurd e (by rw [sX0_addToRow_5]; exact fun z => nomatch z)
  | succ f ih =>
    intro h o x2 e7 e8 a2 b2 A B C e
    rw [sX0_addToRow_5] at e
    have z0 : (0 : Int32).toInt = 0 := rfl
    have z1 : (1 : Int32).toInt = 1 := rfl
    replace e := br_s e
    rcases e with ⟨l, e⟩ | ⟨l, e⟩
    · have l := le_i l
      rw [z0] at l
      exact atr_41 r0 qo e7 g1 n4 e8 a2 b2 A B C (fun i hi => by omega) e
    · have l := nle_i l
      rw [z0] at l
      have d1 : (x2 - (1 : Int32)).toInt = x2.toInt - 1 := by rw [ts (by rw [z1]; omega), z1]
      have d2 : (x2 + (-1 : Int32)).toInt = x2.toInt - 1 := rg_dec (a := 0) (b := 5) ⟨a2, by omega⟩ (by decide)
      have c1 := clamp_i (v := x2 - (1 : Int32)) (by omega)
      have c2 := clamp_i a2
      replace e := cl_s e
      obtain ⟨r2, e2, e⟩ := e
      replace e := gd_s e
      obtain ⟨_, e⟩ := e
      have q2 : r2 = ro := r_eq e7 e2
      subst q2
      replace e := br_s e
      rcases e with ⟨u, e⟩ | ⟨u, e⟩
      · have u := le_i u
        refine atr_41 r0 qo e7 g1 n4 e8 a2 b2 A B C (fun i hi => ?_) e
        by_cases z : i = (x2 - (1 : Int32)).toNatClampNeg
        · rw [z]; exact u
        · exact Int.le_trans (B i (x2 - (1 : Int32)).toNatClampNeg (by omega) (by omega) (by omega) (by omega)) u
      · have u := nle_i u
        replace e := cl_s e
        obtain ⟨r5, e5, e⟩ := e
        replace e := cl_s e
        obtain ⟨r6, e6, e⟩ := e
        replace e := gd_s e
        obtain ⟨_, e⟩ := e
        replace e := gd_s e
        obtain ⟨_, e⟩ := e
        replace e := nm_s e
        obtain ⟨h9, w9, e⟩ := e
        replace e := nm_s e
        obtain ⟨v10, w10, e⟩ := e
        have q5 : r5 = r2 := r_eq e7 e5
        have q6 : r6 = r2 := r_eq e7 e6
        rw [q5, q6] at w9
        have t10 : v10.toInt = x2.toInt - 1 := by rw [w10]; exact d2
        clear w10 d2
        have nr : ¬ x0 = r2 := ne_r' r0 qo (by decide)
        have v : ∀ i, hI h9 r2 i = if i = x2.toNatClampNeg then hI h r2 (x2 - (1 : Int32)).toNatClampNeg else hI h r2 i := fun i => by
          rw [w9, r_I]
          by_cases z : i = x2.toNatClampNeg
          · rw [if_pos ⟨rfl, z⟩, if_pos z]
          · rw [if_neg (fun y => z y.2), if_neg z]
        have K9 : Kf ρ RWL h h9 := kf_wI w9 qo
        obtain ⟨p1, p2, p3⟩ := ih (h := h9) (x2 := v10) (by rw [kfR 7 K9 r0]; exact e7) (by rw [w9, r_I, if_neg (fun z => nr z.1)]; exact e8) (by omega) (by omega) (fun i hi ni => by
          rw [v i]
          split
          · exact A _ (by omega) (by omega)
          · exact A i hi (by omega)) (fun i j hij hj ni nj => by
          rw [v i, v j]
          by_cases zi : i = x2.toNatClampNeg
          · rw [if_pos zi, if_neg (by omega)]
            exact B _ j (by omega) hj (by omega) (by omega)
          · rw [if_neg zi]
            by_cases zj : j = x2.toNatClampNeg
            · rw [if_pos zj]
              exact B i _ (by omega) (by omega) (by omega) (by omega)
            · rw [if_neg zj]
              exact B i j hij hj (by omega) (by omega)) (fun j hj hn => by
          rw [v j]
          by_cases zj : j = x2.toNatClampNeg
          · rw [if_pos zj]; omega
          · rw [if_neg zj]
            exact C j (by omega) hn) e
        exact ⟨p1, p2, kf_t K9 p3⟩
theorem atr_q (r0 : ρ x0 = 1) (qo : ρ ro = 23) (e7 : hR h x0 7 = some ro) (g1 : G m.toInt) (a8 : 0 ≤ (hI h x0 8).toInt) (b8 : (hI h x0 8).toInt ≤ 4) (R : RoW G x0 ro h) (e : sX0_addToRow F h x0 m = some o) : RoW G x0 ro o ∧ (hI o x0 8).toInt = (hI h x0 8).toInt + 1 ∧ Kf ρ RWL h o := by
  have c8 := clamp_i a8
  unfold sX0_addToRow at e
  replace e := nm_s e
  obtain ⟨v1, w1, e⟩ := e
  subst w1
  have := atr_5 (n := (hI h x0 8).toNatClampNeg) r0 qo g1 (by omega) F e7 (by omega) a8 (by omega) (fun i hi ni => R.1 i (by omega)) (fun i j hij hj ni nj => R.2 i j hij (by omega)) (fun j hj hn => by omega) e
  rw [c8] at this
  exact this
/-- squares of a set of bits -/
def BtS (sq : Int) (x : Int64) : Prop := ∀ s : Nat, s < 64 → bitJ x s = true → (s : Int) < sq
theorem bts_and {sq : Int} {x y : Int64} (P : BtS sq x) : BtS sq (x &&& y) := fun s hs hb => P s hs (by
  rw [bj_and, Bool.and_eq_true] at hb
  exact hb.1)
def RoG (sq : Int) (m : Int) : Prop := 0 ≤ m ∧ m ≤ 1535 ∧ m % 64 < sq
theorem gat_14 {sq : Int} {x2 x3 : Int32} (hF : 700000 ≤ F) (hA : pmA c RWL) (r0 : ρ x0 = 1) (r1 : ρ x1 = 4) (qo : ρ ro = 23) (i3 : Rg (-1) 23 x3) : ∀ (f : Nat) {h o : Hp} {x4 : Int64} {x6 : Int32}, TH ρ c h → hR h x0 7 = some ro → PosM x1 x4 h → BtS sq x4 → RoW (RoG sq) x0 ro h → sX0_gatherRow_14 F f h x0 x1 x2 x3 x4 x6 = some o → RoW (RoG sq) x0 ro o ∧ Kf ρ RWL h o := by
  intro f
  induction f with
  | zero => intro h o x4 x6 _ _ _ _ _ e; exact absurd e (by rw [sX0_gatherRow_14]; exact fun z => nomatch z)
  | succ f ih =>
    intro h o x4 x6 T e7 P B R e
    rw [sX0_gatherRow_14] at e
    unfold sX0_gatherRow_95 at e
    replace e := br_s e
    rcases e with ⟨_, e⟩ | ⟨_, e⟩
    · rw [← Option.some.inj e]; exact ⟨R, kf_r⟩
    replace e := br_s e
    rcases e with ⟨_, e⟩ | ⟨nz, e⟩
    · rw [← Option.some.inj e]; exact ⟨R, kf_r⟩
    replace e := cl_s e
    obtain ⟨o3, e3, e⟩ := e
    have l3 := low_in e3 nz
    obtain ⟨q3, i3'⟩ := sat_e (zX11_lowest hF T) e3
    have c3 := clamp_i i3'.1
    have b3 := i3'.2
    have s3 : o3.1.toInt < sq := by have := B o3.1.toNatClampNeg (by omega) l3; omega
    replace e := nm_s e
    obtain ⟨v4, e4, e⟩ := e
    rw [q3] at e
    have P4 : PosM x1 v4 h := by rw [e4]; exact pm_and P
    have B4 : BtS sq v4 := by rw [e4]; exact bts_and B
    clear e4
    have b61 : ∀ {t : Int32}, Rg (-1) 23 t → sX0_gatherRow_61 F (sX0_gatherRow_14 F f) h x0 x1 x2 x3 v4 x6 o3.1 t = some o → RoW (RoG sq) x0 ro o ∧ Kf ρ RWL h o := fun {t} it e => by
      unfold sX0_gatherRow_61 sX0_gatherRow_89 at e
      replace e := br_s e
      rcases e with ⟨_, e⟩ | ⟨n1, e⟩
      · exact ih T e7 P4 B4 R e
      replace e := br_s e
      rcases e with ⟨_, e⟩ | ⟨n8, e⟩
      · exact ih T e7 P4 B4 R e
      replace e := cl_s e
      obtain ⟨o5, e5, e⟩ := e
      have it' : Rg 0 23 t := rg_nlo n1 it (rg_b rfl : Rg (-1) (-1) (-1 : Int32))
      have n8 := nle_i n8
      have z5 : (5 : Int32).toInt = 5 := rfl
      have i8 := thI T r0 (k := 1) (i := 8) (lo := 0) (hi := 5) rfl
      have mi := man_i it' i3'
      have := it'.1
      have := it'.2
      have := i3'.1
      have T5 := sat_e (zX0_addToRow hF hA T r0 (show Rg 0 2047 _ from ⟨by rw [mi]; omega, by rw [mi]; omega⟩) (by omega)) e5
      obtain ⟨p1, _, p3⟩ := atr_q r0 qo e7 (show RoG sq _ from ⟨by rw [mi]; omega, by rw [mi]; omega, by rw [mi]; omega⟩) i8.1 (by omega) R e5
      have P5 : PosM x1 v4 o5 := fun on s eo hs hb => by
        rw [kfR 0 p3 r1] at eo
        rw [kfI s p3 (th_on T r1 eo)]
        exact P4 on s eo hs hb
      obtain ⟨u1, u2⟩ := ih T5 (by rw [kfR 7 p3 r0]; exact e7) P5 B4 p1 e
      exact ⟨u1, kf_t p3 u2⟩
    replace e := br_s e
    rcases e with ⟨_, e⟩ | ⟨_, e⟩
    · exact b61 i3 e
    · replace e := cl_s e
      obtain ⟨r6, e6, e⟩ := e
      replace e := gd_s e
      obtain ⟨_, e⟩ := e
      exact b61 (rg_m (pm_low P e3 nz i3' e6 (thI T (th_on T r1 e6) (k := 34) (lo := -2) (hi := 23) rfl)) (by decide)) e
/-- a position's men in a row -/
theorem gat_q {sq : Int} {x2 x3 : Int32} {oc : Int64 × Hp} (hF : 700000 ≤ F) (hA : pmA c RWL) (T : TH ρ c h) (r0 : ρ x0 = 1) (r1 : ρ x1 = 4) (e7 : hR h x0 7 = some ro) (i2 : Rg (-1) 63 x2) (i3 : Rg (-1) 23 x3) (eo : sX3_occupied h x1 = some oc) (B : BtS sq oc.1) : Sat (sX0_gatherRow F h x0 x1 x2 x3) (fun o => TH ρ c o ∧ RoW (RoG sq) x0 ro o ∧ Kf ρ RWL h o) := by
  have qo : ρ ro = 23 := rr T (thR T r0 (i := 7) (k2 := 23) rfl (by decide)) e7
  refine sat_and (zX0_gatherRow hF hA rfl T r0 r1 i2 i3) (fun o e To => ⟨To, ?_⟩)
  unfold sX0_gatherRow at e
  replace e := nm_s e
  obtain ⟨h1, w1, e⟩ := e
  have T1 : TH ρ c h1 := by rw [w1]; exact th_wI T r0 (k := 1) (lo := 0) (hi := 5) rfl (rg_m (rg_b rfl : Rg 0 0 (0 : Int32)) (by decide)) (by decide) (by decide) (pm_a hA rfl)
  have K1 : Kf ρ RWL h h1 := kf_wI w1 r0
  replace e := cl_s e
  obtain ⟨o2, e2, e⟩ := e
  have q2 := (sat_e (zX3_occupied hF T1 r1) e2)
  have eoc : o2.1 = oc.1 := by
    unfold sX3_occupied at eo e2
    obtain ⟨f1, g1, eo⟩ := cl_s eo
    obtain ⟨_, eo⟩ := gd_s eo
    obtain ⟨f2, g2, eo⟩ := cl_s eo
    obtain ⟨_, eo⟩ := gd_s eo
    obtain ⟨f3, g3, e2⟩ := cl_s e2
    obtain ⟨_, e2⟩ := gd_s e2
    obtain ⟨f4, g4, e2⟩ := cl_s e2
    obtain ⟨_, e2⟩ := gd_s e2
    rw [kfR 1 K1 r1] at g3 g4
    have y3 : f3 = f1 := r_eq g1 g3
    have y4 : f4 = f2 := r_eq g2 g4
    subst y3; subst y4
    rw [← Option.some.inj eo, ← Option.some.inj e2, kfJ _ K1 (th_of T r1 g1), kfJ _ K1 (th_of T r1 g2)]
  rw [q2, eoc] at e
  have P1 : PosM x1 oc.1 h1 := fun on s en hs hb => by
    rw [kfR 0 K1 r1] at en
    rw [kfI s K1 (th_on T r1 en)]
    exact pm_occ T r1 eo on s en hs hb
  have e8 : (hI h1 x0 8).toInt = 0 := by rw [w1, r_I, if_pos ⟨rfl, rfl⟩]; rfl
  obtain ⟨u1, u2⟩ := gat_14 hF hA r0 r1 qo i3 F T1 (by rw [kfR 7 K1 r0]; exact e7) P1 B ⟨fun i hi => by omega, fun i j hij hj => by omega⟩ e
  exact ⟨u1, kf_t K1 u2⟩
end
end
section
/-! the key of a row -/
theorem kstep {x v s : Int32} {m : Nat} (hs : s.toBitVec.toNat % 32 = m) (hm : m ≤ 20) (a : 0 ≤ x.toInt) (b : x.toInt < ((2 ^ m : Nat) : Int)) (iv : Rg 0 31 v) : (x ||| (v <<< (s &&& 31))).toInt = x.toInt + v.toInt * ((2 ^ m : Nat) : Int) := by
  have p2 : ((2 ^ m : Nat) : Int) ≤ 1048576 := by
    have : 2 ^ m ≤ 2 ^ 20 := Nat.pow_le_pow_right (by decide) hm
    omega
  have v0 := iv.1
  have v1 := iv.2
  have vb : v.toInt * ((2 ^ m : Nat) : Int) ≤ 31 * ((2 ^ m : Nat) : Int) := Int.mul_le_mul_of_nonneg_right v1 (by omega)
  have e2 := shl_i (x := v) (s := s) hs v0 (by omega)
  rw [or_i (m := m) (z := v.toInt) a b v0 e2 (by rw [e2]; omega), e2]
def kS (d : Nat → Int) : Nat → Int
  | 0 => 0
  | 1 => d 0
  | 2 => d 0 + 32 * d 1
  | 3 => d 0 + 32 * d 1 + 1024 * d 2
  | 4 => d 0 + 32 * d 1 + 1024 * d 2 + 32768 * d 3
  | _ => d 0 + 32 * d 1 + 1024 * d 2 + 32768 * d 3 + 1048576 * d 4
def KyW (n : Nat) (x : Int32) : Prop := Rg 0 33554431 x ∧ KyX x ∧ szI x.toInt = n ∧ (n ≤ 4 → x.toInt ≤ 1048575) ∧ (n = 5 → 1048576 ≤ x.toInt)
theorem kyw_of {d : Nat → Int} {n : Nat} {x : Int32} (hn : n ≤ 5) (D : ∀ i, i < n → 1 ≤ d i ∧ d i ≤ 24) (e : x.toInt = kS d n) : KyW n x := by
  have fin : ∀ {e0 e1 e2 e3 e4 : Int}, (0 ≤ e0 ∧ e0 ≤ 24) → (0 ≤ e1 ∧ e1 ≤ 24) → (0 ≤ e2 ∧ e2 ≤ 24) → (0 ≤ e3 ∧ e3 ≤ 24) → (0 ≤ e4 ∧ e4 ≤ 24) → x.toInt = e0 + 32 * e1 + 1024 * e2 + 32768 * e3 + 1048576 * e4 → (if e0 = 0 then 0 else if e1 = 0 then 1 else if e2 = 0 then 2 else if e3 = 0 then 3 else if e4 = 0 then 4 else 5) = n → (n ≤ 4 → e4 = 0) → (n = 5 → 1 ≤ e4) → KyW n x := fun {e0 e1 e2 e3 e4} q0 q1 q2 q3 q4 e w y1 y2 => ⟨⟨by omega, by omega⟩, (ky_i (by omega)).mpr (ky_sum q0 q1 q2 q3 q4 e), by rw [sz_sum q0 q1 q2 q3 q4 e]; exact w, fun z => by have := y1 z; omega, fun z => by have := y2 z; omega⟩
  have z : (0 : Int) ≤ 0 ∧ (0 : Int) ≤ 24 := by decide
  have g : ∀ i, i < n → 0 ≤ d i ∧ d i ≤ 24 := fun i hi => ⟨by have := (D i hi).1; omega, (D i hi).2⟩
  have k : ∀ i, i < n → ¬ d i = 0 := fun i hi => by have := (D i hi).1; omega
  have hc : n = 0 ∨ n = 1 ∨ n = 2 ∨ n = 3 ∨ n = 4 ∨ n = 5 := by omega
  rcases hc with w | w | w | w | w | w <;> subst w
  · have e : x.toInt = 0 := e
    exact fin (e0 := 0) (e1 := 0) (e2 := 0) (e3 := 0) (e4 := 0) z z z z z (by omega) (if_pos rfl) (fun _ => rfl) (by omega)
  · have e : x.toInt = d 0 := e
    exact fin (e0 := d 0) (e1 := 0) (e2 := 0) (e3 := 0) (e4 := 0) (g 0 (by decide)) z z z z (by omega) (by rw [if_neg (k 0 (by decide)), if_pos rfl]) (fun _ => rfl) (by omega)
  · have e : x.toInt = d 0 + 32 * d 1 := e
    exact fin (e0 := d 0) (e1 := d 1) (e2 := 0) (e3 := 0) (e4 := 0) (g 0 (by decide)) (g 1 (by decide)) z z z (by omega) (by rw [if_neg (k 0 (by decide)), if_neg (k 1 (by decide)), if_pos rfl]) (fun _ => rfl) (by omega)
  · have e : x.toInt = d 0 + 32 * d 1 + 1024 * d 2 := e
    exact fin (e0 := d 0) (e1 := d 1) (e2 := d 2) (e3 := 0) (e4 := 0) (g 0 (by decide)) (g 1 (by decide)) (g 2 (by decide)) z z (by omega) (by rw [if_neg (k 0 (by decide)), if_neg (k 1 (by decide)), if_neg (k 2 (by decide)), if_pos rfl]) (fun _ => rfl) (by omega)
  · have e : x.toInt = d 0 + 32 * d 1 + 1024 * d 2 + 32768 * d 3 := e
    exact fin (e0 := d 0) (e1 := d 1) (e2 := d 2) (e3 := d 3) (e4 := 0) (g 0 (by decide)) (g 1 (by decide)) (g 2 (by decide)) (g 3 (by decide)) z (by omega) (by rw [if_neg (k 0 (by decide)), if_neg (k 1 (by decide)), if_neg (k 2 (by decide)), if_neg (k 3 (by decide)), if_pos rfl]) (fun _ => rfl) (by omega)
  · have e : x.toInt = d 0 + 32 * d 1 + 1024 * d 2 + 32768 * d 3 + 1048576 * d 4 := e
    exact fin (e0 := d 0) (e1 := d 1) (e2 := d 2) (e3 := d 3) (e4 := d 4) (g 0 (by decide)) (g 1 (by decide)) (g 2 (by decide)) (g 3 (by decide)) (g 4 (by decide)) e (by rw [if_neg (k 0 (by decide)), if_neg (k 1 (by decide)), if_neg (k 2 (by decide)), if_neg (k 3 (by decide)), if_neg (k 4 (by decide))]) (by omega) (fun _ => (D 4 (by decide)).1)
section
variable {ρ : Nat → Nat} {c : Cm} {h : Hp} {x0 ro F : Nat} {sq : Int}
theorem keyrow_q (hF : 700000 ≤ F) (T : TH ρ c h) (r0 : ρ x0 = 1) (e7 : hR h x0 7 = some ro) (R : RoW (RoG sq) x0 ro h) : Sat (sX0_keyOfRow F h x0) (fun o => o.2 = h ∧ KyW (hI h x0 8).toNatClampNeg o.1) := by
  have i8 := thI T r0 (k := 1) (i := 8) (lo := 0) (hi := 5) rfl
  have c8 := clamp_i i8.1
  have b8 := i8.2
  refine sat_and (zX0_keyOfRow hF T r0) (fun o e Z => ⟨Z.1, ?_⟩)
  have D : ∀ i, i < (hI h x0 8).toNatClampNeg → 1 ≤ (hI h ro i).toInt / 64 + 1 ∧ (hI h ro i).toInt / 64 + 1 ≤ 24 := fun i hi => by
    obtain ⟨u1, u2, _⟩ := R.1 i (by omega)
    omega
  have lp : ∀ (f : Nat) {x1 x2 : Int32}, 0 ≤ x2.toInt → x2.toInt ≤ (hI h x0 8).toInt → x1.toInt = kS (fun i => (hI h ro i).toInt / 64 + 1) x2.toNatClampNeg → sX0_keyOfRow_4 F f h x0 x1 x2 = some o → KyW (hI h x0 8).toNatClampNeg o.1 := by
    intro f
    induction f with
    | zero => intro x1 x2 _ _ _ e; exact absurd e (by rw [sX0_keyOfRow_4]; exact fun z => nomatch z)
    | succ f ih =>
      intro x1 x2 a2 b2 e1 e
      rw [sX0_keyOfRow_4] at e
      replace e := br_s e
      rcases e with ⟨l, e⟩ | ⟨l, e⟩
      · have l := le_i l
        have q : x2.toNatClampNeg = (hI h x0 8).toNatClampNeg := by have := clamp_i a2; omega
        rw [q] at e1
        rw [← Option.some.inj e]
        exact kyw_of (by omega) D e1
      · have l := nle_i l
        have c2 := clamp_i a2
        have i2 : Rg 0 4 x2 := ⟨a2, by omega⟩
        have ny := nc_s i2 (by decide)
        replace e := cl_s e
        obtain ⟨r2, e2, e⟩ := e
        have q2 : r2 = ro := r_eq e7 e2
        subst q2
        replace e := gd_s e
        obtain ⟨_, e⟩ := e
        replace e := nm_s e
        obtain ⟨v4, e4, e⟩ := e
        replace e := nm_s e
        obtain ⟨v5, e5, e⟩ := e
        have g := D x2.toNatClampNeg (by omega)
        have z1 : (1 : Int32).toInt = 1 := rfl
        have ev : (((hI h r2 x2.toNatClampNeg) >>> ((6 : Int32) &&& 31)) + (1 : Int32)).toInt = (hI h r2 x2.toNatClampNeg).toInt / 64 + 1 := by
          rw [ta (by rw [shr6_i, z1]; omega), shr6_i, z1]
        have iv : Rg 0 31 (((hI h r2 x2.toNatClampNeg) >>> ((6 : Int32) &&& 31)) + (1 : Int32)) := ⟨by omega, by omega⟩
        have g4 : ∀ j, j < x2.toNatClampNeg → 1 ≤ (hI h r2 j).toInt / 64 + 1 ∧ (hI h r2 j).toInt / 64 + 1 ≤ 24 := fun j hj => D j (by omega)
        have t4 : v4.toInt = kS (fun i => (hI h r2 i).toInt / 64 + 1) (x2.toNatClampNeg + 1) := by
          rw [e4]
          rcases i32_04 i2 with w | w | w | w | w <;> subst w
          · have e1 : x1.toInt = 0 := e1
            rw [kstep (m := 0) rfl (by decide) (by omega) (by rw [e1]; decide) iv, ev, e1]
            show 0 + ((hI h r2 0).toInt / 64 + 1) * 1 = (hI h r2 0).toInt / 64 + 1
            omega
          · have e1 : x1.toInt = (hI h r2 0).toInt / 64 + 1 := e1
            have d0 := g4 0 (by decide)
            rw [kstep (m := 5) rfl (by decide) (by omega) (by show _ < (32 : Int); omega) iv, ev, e1]
            show _ + ((hI h r2 1).toInt / 64 + 1) * 32 = (hI h r2 0).toInt / 64 + 1 + 32 * ((hI h r2 1).toInt / 64 + 1)
            omega
          · have e1 : x1.toInt = (hI h r2 0).toInt / 64 + 1 + 32 * ((hI h r2 1).toInt / 64 + 1) := e1
            have d0 := g4 0 (by decide)
            have d1 := g4 1 (by decide)
            rw [kstep (m := 10) rfl (by decide) (by omega) (by show _ < (1024 : Int); omega) iv, ev, e1]
            show _ + ((hI h r2 2).toInt / 64 + 1) * 1024 = (hI h r2 0).toInt / 64 + 1 + 32 * ((hI h r2 1).toInt / 64 + 1) + 1024 * ((hI h r2 2).toInt / 64 + 1)
            omega
          · have e1 : x1.toInt = (hI h r2 0).toInt / 64 + 1 + 32 * ((hI h r2 1).toInt / 64 + 1) + 1024 * ((hI h r2 2).toInt / 64 + 1) := e1
            have d0 := g4 0 (by decide)
            have d1 := g4 1 (by decide)
            have d2 := g4 2 (by decide)
            rw [kstep (m := 15) rfl (by decide) (by omega) (by show _ < (32768 : Int); omega) iv, ev, e1]
            show _ + ((hI h r2 3).toInt / 64 + 1) * 32768 = (hI h r2 0).toInt / 64 + 1 + 32 * ((hI h r2 1).toInt / 64 + 1) + 1024 * ((hI h r2 2).toInt / 64 + 1) + 32768 * ((hI h r2 3).toInt / 64 + 1)
            omega
          · have e1 : x1.toInt = (hI h r2 0).toInt / 64 + 1 + 32 * ((hI h r2 1).toInt / 64 + 1) + 1024 * ((hI h r2 2).toInt / 64 + 1) + 32768 * ((hI h r2 3).toInt / 64 + 1) := e1
            have d0 := g4 0 (by decide)
            have d1 := g4 1 (by decide)
            have d2 := g4 2 (by decide)
            have d3 := g4 3 (by decide)
            rw [kstep (m := 20) rfl (by decide) (by omega) (by show _ < (1048576 : Int); omega) iv, ev, e1]
            show _ + ((hI h r2 4).toInt / 64 + 1) * 1048576 = (hI h r2 0).toInt / 64 + 1 + 32 * ((hI h r2 1).toInt / 64 + 1) + 1024 * ((hI h r2 2).toInt / 64 + 1) + 32768 * ((hI h r2 3).toInt / 64 + 1) + 1048576 * ((hI h r2 4).toInt / 64 + 1)
            omega
        clear e4
        have t5 : v5.toInt = x2.toInt + 1 := by rw [e5]; exact ny.2
        have t5n : v5.toNatClampNeg = x2.toNatClampNeg + 1 := by rw [e5]; exact ny.1
        clear e5
        exact ih (by omega) (by omega) (by rw [t5n]; exact t4) e
  unfold sX0_keyOfRow at e
  exact lp F (x1 := (0 : Int32)) (x2 := (0 : Int32)) (by decide) i8.1 rfl e
end
theorem wi_two {x v : Int32} {m : Nat} {s s5 : Int32} (hs : s.toBitVec.toNat % 32 = m) (h5 : s5.toBitVec.toNat % 32 = m + 5) (hm : m ≤ 25) (y : (((1 : Int32) <<< (s &&& 31)) - (1 : Int32)).toInt = ((2 ^ m - 1 : Nat) : Int)) (a : 0 ≤ x.toInt) (b : x.toInt < 33554432) (iv : Rg 0 31 v) : (((x &&& (((1 : Int32) <<< (s &&& 31)) - (1 : Int32))) ||| (v <<< (s &&& 31))) ||| ((x >>> (s &&& 31)) <<< (s5 &&& 31))).toInt = x.toInt % ((2 ^ m : Nat) : Int) + v.toInt * ((2 ^ m : Nat) : Int) + x.toInt / ((2 ^ m : Nat) : Int) * ((2 ^ (m + 5) : Nat) : Int) := by
  have p : 0 < ((2 ^ m : Nat) : Int) := Int.natCast_pos.mpr (Nat.two_pow_pos m)
  have p2 : ((2 ^ m : Nat) : Int) ≤ 33554432 := by
    have : 2 ^ m ≤ 2 ^ 25 := Nat.pow_le_pow_right (by decide) hm
    omega
  have v0 := iv.1
  have v1 := iv.2
  have e1 := and_i (x := x) (m := m) a (by omega) y
  have m0 := Int.emod_nonneg x.toInt (show ((2 ^ m : Nat) : Int) ≠ 0 by omega)
  have m1 := Int.emod_lt_of_pos x.toInt p
  have vb : v.toInt * ((2 ^ m : Nat) : Int) ≤ 31 * ((2 ^ m : Nat) : Int) := Int.mul_le_mul_of_nonneg_right v1 (by omega)
  have vn : 0 ≤ v.toInt * ((2 ^ m : Nat) : Int) := Int.mul_nonneg v0 (by omega)
  have e2 := shl_i (x := v) (s := s) hs v0 (by omega)
  have e3 := shr_i (x := x) (s := s) m hs
  have d0 : 0 ≤ x.toInt / ((2 ^ m : Nat) : Int) := Int.ediv_nonneg a (by omega)
  have pe : ((2 ^ (m + 5) : Nat) : Int) = ((2 ^ m : Nat) : Int) * 32 := by rw [Nat.pow_add, Int.natCast_mul]; rfl
  have l1 := Int.ediv_mul_le x.toInt (show ((2 ^ m : Nat) : Int) ≠ 0 by omega)
  have le : x.toInt / ((2 ^ m : Nat) : Int) * ((2 ^ (m + 5) : Nat) : Int) ≤ 32 * 33554432 := by
    rw [pe, ← Int.mul_assoc]
    omega
  have n3 : 0 ≤ x.toInt / ((2 ^ m : Nat) : Int) * ((2 ^ (m + 5) : Nat) : Int) := Int.mul_nonneg d0 (Int.natCast_nonneg _)
  have e4 := shl_i (x := x >>> (s &&& 31)) (s := s5) h5 (by rw [e3]; exact d0) (by rw [e3]; omega)
  have e5 := or_i (x := x &&& (((1 : Int32) <<< (s &&& 31)) - (1 : Int32))) (y := v <<< (s &&& 31)) (m := m) (z := v.toInt) (by rw [e1]; exact m0) (by rw [e1]; exact m1) v0 e2 (by rw [e1, e2]; omega)
  rw [e1, e2] at e5
  have l5 : x.toInt % ((2 ^ m : Nat) : Int) + v.toInt * ((2 ^ m : Nat) : Int) < ((2 ^ (m + 5) : Nat) : Int) := by
    rw [pe]
    omega
  have l6 : ((2 ^ (m + 5) : Nat) : Int) ≤ 1073741824 := by rw [pe]; omega
  rw [or_i (m := m + 5) (z := (x >>> (s &&& 31)).toInt) (by rw [e5]; omega) (by rw [e5]; exact l5) (by rw [e3]; exact d0) e4 (by rw [e5, e4, e3]; omega), e5, e4, e3]
section
variable {h : Hp} {x x1 : Int32} {F : Nat}
/-- a sixth man makes a key that no set has -/
theorem with4_q (hF : 700000 ≤ F) (a : 1048576 ≤ x.toInt) (b : x.toInt ≤ 33554431) (i : Rg 0 23 x1) : Sat (sX0_with F h x x1) (fun o => o.2 = h ∧ 33554432 ≤ o.1.toInt) := by
  have i0 := i.1
  have i1 := i.2
  have z1 : (1 : Int32).toInt = 1 := rfl
  have ev : (x1 + (1 : Int32)).toInt = x1.toInt + 1 := by rw [ta (by rw [z1]; omega), z1]
  have iv : Rg 0 31 (x1 + (1 : Int32)) := ⟨by omega, by omega⟩
  have b35 : ∀ s : Int32, (s = 0 ∨ s = 5 ∨ s = 10 ∨ s = 15 ∨ s = 20 ∨ s = 25) → Sat (sX0_with_35 F h x x1 s) (fun o => o.2 = h ∧ 33554432 ≤ o.1.toInt) := by
    intro s hs
    unfold sX0_with_35
    refine s_q (fun v e1 => s_some ⟨rfl, ?_⟩)
    rcases hs with w | w | w | w | w | w <;> subst w <;> subst e1
    · have e := wi_two (x := x) (v := x1 + (1 : Int32)) (m := 0) (s := 0) (s5 := (0 : Int32) + (5 : Int32)) rfl rfl (by decide) rfl (by omega) (by omega) iv
      rw [ev] at e
      have e : _ = x.toInt % 1 + (x1.toInt + 1) * 1 + x.toInt / 1 * 32 := e
      show _ ≤ _
      rw [e]; omega
    · have e := wi_two (x := x) (v := x1 + (1 : Int32)) (m := 5) (s := 5) (s5 := (5 : Int32) + (5 : Int32)) rfl rfl (by decide) rfl (by omega) (by omega) iv
      rw [ev] at e
      have e : _ = x.toInt % 32 + (x1.toInt + 1) * 32 + x.toInt / 32 * 1024 := e
      show _ ≤ _
      rw [e]; omega
    · have e := wi_two (x := x) (v := x1 + (1 : Int32)) (m := 10) (s := 10) (s5 := (10 : Int32) + (5 : Int32)) rfl rfl (by decide) rfl (by omega) (by omega) iv
      rw [ev] at e
      have e : _ = x.toInt % 1024 + (x1.toInt + 1) * 1024 + x.toInt / 1024 * 32768 := e
      show _ ≤ _
      rw [e]; omega
    · have e := wi_two (x := x) (v := x1 + (1 : Int32)) (m := 15) (s := 15) (s5 := (15 : Int32) + (5 : Int32)) rfl rfl (by decide) rfl (by omega) (by omega) iv
      rw [ev] at e
      have e : _ = x.toInt % 32768 + (x1.toInt + 1) * 32768 + x.toInt / 32768 * 1048576 := e
      show _ ≤ _
      rw [e]; omega
    · have e := wi_two (x := x) (v := x1 + (1 : Int32)) (m := 20) (s := 20) (s5 := (20 : Int32) + (5 : Int32)) rfl rfl (by decide) rfl (by omega) (by omega) iv
      rw [ev] at e
      have e : _ = x.toInt % 1048576 + (x1.toInt + 1) * 1048576 + x.toInt / 1048576 * 33554432 := e
      show _ ≤ _
      rw [e]; omega
    · have e := wi_two (x := x) (v := x1 + (1 : Int32)) (m := 25) (s := 25) (s5 := (25 : Int32) + (5 : Int32)) rfl rfl (by decide) rfl (by omega) (by omega) iv
      rw [ev] at e
      have e : _ = x.toInt % 33554432 + (x1.toInt + 1) * 33554432 + x.toInt / 33554432 * 1073741824 := e
      show _ ≤ _
      rw [e]; omega
  obtain ⟨F, rfl⟩ : ∃ G, F = G + 6 := ⟨F - 6, by omega⟩
  have st : ∀ (f : Nat) (s : Int32), (s = 0 ∨ s = 5 ∨ s = 10 ∨ s = 15 ∨ s = 20 ∨ s = 25) → (¬ (25 : Int32) ≤ s → Sat (sX0_with_2 (F + 6) f h x x1 (s + (5 : Int32))) (fun o => o.2 = h ∧ 33554432 ≤ o.1.toInt)) → Sat (sX0_with_2 (F + 6) (f + 1) h x x1 s) (fun o => o.2 = h ∧ 33554432 ≤ o.1.toInt) := by
    intro f s hs nx
    rw [sX0_with_2]
    refine s_br (fun _ => b35 s hs) (fun n25 => s_br (fun _ => b35 s hs) (fun nd => s_br (fun _ => b35 s hs) (fun _ => s_q (fun y ey => ?_))))
    rw [ey]
    exact nx n25
  unfold sX0_with
  refine st _ 0 (Or.inl rfl) (fun _ => ?_)
  refine st _ 5 (Or.inr (Or.inl rfl)) (fun _ => ?_)
  refine st _ 10 (Or.inr (Or.inr (Or.inl rfl))) (fun _ => ?_)
  refine st _ 15 (Or.inr (Or.inr (Or.inr (Or.inl rfl)))) (fun _ => ?_)
  refine st _ 20 (Or.inr (Or.inr (Or.inr (Or.inr (Or.inl rfl))))) (fun _ => ?_)
  refine st _ 25 (Or.inr (Or.inr (Or.inr (Or.inr (Or.inr rfl))))) (fun n => ?_)
  exact absurd (by decide : (25 : Int32) ≤ (20 : Int32) + (5 : Int32)) n
end
end
section
/-! the set that is found; what a square counts -/
section
variable {ρ : Nat → Nat} {c : Cm} {h : Hp} {x0 ks pw ro F : Nat} {x1 : Int32} {sq : Int}
theorem fset_q (hF : 700000 ≤ F) (T : TH ρ c h) (r0 : ρ x0 = 1) (e4 : hR h x0 4 = some ks) : Sat (sX0_findSet F h x0 x1) (fun o => o.2 = h ∧ Rg (-1) 1023 o.1 ∧ (¬ o.1 = (-1 : Int32) → 0 ≤ o.1.toInt ∧ o.1.toInt < (hI h x0 9).toInt ∧ hI h ks o.1.toNatClampNeg = x1)) := by
  refine sat_and (zX0_findSet hF T r0 (rg_top _)) (fun o e Z => ⟨Z.1, Z.2, ?_⟩)
  have i9 := thI T r0 (k := 1) (i := 9) (lo := 0) (hi := 1024) rfl
  have a9 := i9.1
  have b9 := i9.2
  have z1 : (1 : Int32).toInt = 1 := rfl
  have lp : ∀ (f : Nat) {x2 x3 : Int32}, 0 ≤ x2.toInt → x2.toInt ≤ 1024 → -1 ≤ x3.toInt → x3.toInt < (hI h x0 9).toInt → sX0_findSet_9 F f h x0 x1 x2 x3 = some o → ¬ o.1 = (-1 : Int32) → 0 ≤ o.1.toInt ∧ o.1.toInt < (hI h x0 9).toInt ∧ hI h ks o.1.toNatClampNeg = x1 := by
    intro f
    induction f with
    | zero => intro x2 x3 _ _ _ _ e; exact absurd e (by rw [sX0_findSet_9]; exact fun z => nomatch z)
    | succ f ih =>
      intro x2 x3 a2 b2 a3 b3 e ne
      rw [sX0_findSet_9] at e
      unfold sX0_findSet_59 at e
      replace e := br_s e
      rcases e with ⟨l, e⟩ | ⟨l, e⟩
      · exact absurd (by rw [← Option.some.inj e]) ne
      have l : x2.toInt ≤ x3.toInt := nlt_i l
      replace e := nm_s e
      obtain ⟨v2, e2, e⟩ := e
      have t2 : v2.toInt = (x2.toInt + x3.toInt) / 2 := by rw [e2, ti_shr1, ta (by omega)]
      clear e2
      replace e := cl_s e
      obtain ⟨r3, e3, e⟩ := e
      have q3 : r3 = ks := r_eq e4 e3
      subst q3
      replace e := gd_s e
      obtain ⟨_, e⟩ := e
      replace e := br_s e
      rcases e with ⟨w, e⟩ | ⟨w, e⟩
      · rw [← Option.some.inj e]
        exact ⟨by show 0 ≤ v2.toInt; omega, by show v2.toInt < _; omega, w⟩
      replace e := cl_s e
      obtain ⟨r6, e6, e⟩ := e
      replace e := gd_s e
      obtain ⟨_, e⟩ := e
      replace e := br_s e
      rcases e with ⟨_, e⟩ | ⟨_, e⟩
      · replace e := nm_s e
        obtain ⟨v9, e9, e⟩ := e
        have t9 : v9.toInt = v2.toInt - 1 := by rw [e9, ts (by rw [z1]; omega), z1]
        clear e9
        exact ih a2 b2 (by omega) (by omega) e ne
      · replace e := nm_s e
        obtain ⟨v9, e9, e⟩ := e
        have t9 : v9.toInt = v2.toInt + 1 := by rw [e9, ta (by rw [z1]; omega), z1]
        clear e9
        exact ih (by omega) (by omega) a3 b3 e ne
  unfold sX0_findSet at e
  replace e := nm_s e
  obtain ⟨v1, e1, e⟩ := e
  have t1 : v1.toInt = (hI h x0 9).toInt - 1 := by rw [e1, ts (by rw [z1]; omega), z1]
  clear e1
  exact lp F (x2 := (0 : Int32)) (by decide) (by decide) (by omega) (by omega) e
/-- what a square of one man more counts: a power, where all below it are ahead -/
theorem weight_q (hF : 700000 ≤ F) (T : TH ρ c h) (r0 : ρ x0 = 1) (e6 : hR h x0 6 = some pw) (e7 : hR h x0 7 = some ro) (Pw : ∀ i : Nat, i ≤ 5 → (hI h pw i).toInt = sq ^ i) (R : RoW (RoG sq) x0 ro h) (i1 : Rg 0 23 x1) : Sat (sX0_weightOf F h x0 x1) (fun o => o.2 = h ∧ (o.1.toInt ≤ 0 ∨ ∃ k : Nat, (k : Int) ≤ (hI h x0 8).toInt ∧ o.1.toInt = sq ^ k ∧ (∀ j : Nat, j < k → (hI h ro j).toInt < x1.toInt * 64) ∧ ∀ j : Nat, k ≤ j → (j : Int) < (hI h x0 8).toInt → x1.toInt * 64 < (hI h ro j).toInt)) := by
  refine sat_and (zX0_weightOf hF T r0 (rg_m i1 (by decide))) (fun o e Z => ⟨Z.1, ?_⟩)
  have i8 := thI T r0 (k := 1) (i := 8) (lo := 0) (hi := 5) rfl
  have a8 := i8.1
  have b8 := i8.2
  have z1 : (1 : Int32).toInt = 1 := rfl
  have z0 : (0 : Int32).toInt = 0 := rfl
  have lp : ∀ (f : Nat) {x2 x3 : Int32}, 0 ≤ x2.toInt → x2.toInt ≤ x3.toInt → x3.toInt ≤ (hI h x0 8).toInt → (∀ j : Nat, (j : Int) < x2.toInt → (hI h ro j).toInt / 64 < x1.toInt) → (∀ j : Nat, x2.toInt ≤ j → (j : Int) < x3.toInt → x1.toInt < (hI h ro j).toInt / 64) → sX0_weightOf_4 F f h x0 x1 x2 x3 = some o → (o.1.toInt ≤ 0 ∨ ∃ k : Nat, (k : Int) ≤ (hI h x0 8).toInt ∧ o.1.toInt = sq ^ k ∧ (∀ j : Nat, j < k → (hI h ro j).toInt < x1.toInt * 64) ∧ ∀ j : Nat, k ≤ j → (j : Int) < (hI h x0 8).toInt → x1.toInt * 64 < (hI h ro j).toInt) := by
    intro f
    induction f with
    | zero => intro x2 x3 _ _ _ _ _ e; exact absurd e (by rw [sX0_weightOf_4]; exact fun z => nomatch z)
    | succ f ih =>
      intro x2 x3 a2 b2 b3 A B e
      rw [sX0_weightOf_4] at e
      have c2 := clamp_i a2
      have c3 := clamp_i (v := x3) (by omega)
      replace e := br_s e
      rcases e with ⟨l, e⟩ | ⟨l, e⟩
      · have l := le_i l
        replace e := cl_s e
        obtain ⟨r2, e2, e⟩ := e
        have q2 : r2 = pw := r_eq e6 e2
        subst q2
        replace e := gd_s e
        obtain ⟨_, e⟩ := e
        rw [← Option.some.inj e]
        refine Or.inr ⟨x2.toNatClampNeg, by omega, Pw _ (by omega), fun j hj => ?_, fun j hj hn => ?_⟩
        · have := A j (by omega)
          omega
        · have := B j (by omega) (by omega)
          omega
      have l := nle_i l
      replace e := cl_s e
      obtain ⟨r4, e4, e⟩ := e
      have q4 : r4 = ro := r_eq e7 e4
      subst q4
      replace e := gd_s e
      obtain ⟨_, e⟩ := e
      replace e := br_s e
      rcases e with ⟨_, e⟩ | ⟨ne, e⟩
      · rw [← Option.some.inj e]
        exact Or.inl (Int.le_refl 0)
      replace e := cl_s e
      obtain ⟨r7, e7', e⟩ := e
      have q7 : r7 = r4 := r_eq e7 e7'
      subst q7
      replace e := gd_s e
      obtain ⟨_, e⟩ := e
      have i3 : Rg 0 4 x3 := ⟨by omega, by omega⟩
      have ny := nc_s i3 (by decide)
      unfold sX0_weightOf_46 at e
      have ne' : ¬ (hI h r7 x3.toNatClampNeg).toInt / 64 = x1.toInt := fun w => ne (Int32.toInt_inj.mp (by rw [shr6_i]; exact w))
      replace e := br_s e
      rcases e with ⟨u, e⟩ | ⟨u, e⟩
      · have u := le_i u
        rw [shr6_i] at u
        replace e := nm_s e
        obtain ⟨v1, ev1, e⟩ := e
        replace e := nm_s e
        obtain ⟨v2, ev2, e⟩ := e
        have t1 : v1.toInt = x2.toInt := by rw [ev1, ta (by rw [z0]; omega), z0]; omega
        have t2 : v2.toInt = x3.toInt + 1 := by rw [ev2]; exact ny.2
        clear ev1 ev2
        exact ih (by omega) (by omega) (by omega) (fun j hj => A j (by omega)) (fun j hj hn => by
          by_cases z : j = x3.toNatClampNeg
          · rw [z]; omega
          · exact B j (by omega) (by omega)) e
      · have u := nle_i u
        rw [shr6_i] at u
        replace e := nm_s e
        obtain ⟨v1, ev1, e⟩ := e
        replace e := nm_s e
        obtain ⟨v2, ev2, e⟩ := e
        have t1 : v1.toInt = x2.toInt + 1 := by rw [ev1, ta (by rw [z1]; omega), z1]
        have t2 : v2.toInt = x3.toInt + 1 := by rw [ev2]; exact ny.2
        clear ev1 ev2
        have q : x2.toInt = x3.toInt := by
          by_cases z : x2.toInt = x3.toInt
          · exact z
          · have b := B x2.toNatClampNeg (by omega) (by omega)
            have s := R.2 x2.toNatClampNeg x3.toNatClampNeg (by omega) (by omega)
            omega
        exact ih (by omega) (by omega) (by omega) (fun j hj => by
          by_cases z : j = x3.toNatClampNeg
          · rw [z]; exact u
          · exact A j (by omega)) (fun j hj hn => by omega) e
  unfold sX0_weightOf at e
  exact lp F (x2 := (0 : Int32)) (x3 := (0 : Int32)) (by decide) (by decide) a8 (fun j hj => by rw [z0] at hj; omega) (fun j _ hn => by rw [z0] at hn; omega) e
/-- the least number of one man more leaves room for his square -/
theorem number2_q {k : Nat} (hF : 700000 ≤ F) (T : TH ρ c h) (r0 : ρ x0 = 1) (e6 : hR h x0 6 = some pw) (e7 : hR h x0 7 = some ro) (s1 : 1 ≤ sq) (s64 : sq ≤ 64) (Pw : ∀ i : Nat, i ≤ 5 → (hI h pw i).toInt = sq ^ i) (R : RoW (RoG sq) x0 ro h) (n4 : (hI h x0 8).toInt ≤ 4) (x63 : (x1 &&& (63 : Int32)) = 0) (xn : ¬ x1 = (-1 : Int32)) (kn : (k : Int) ≤ (hI h x0 8).toInt) (W1 : ∀ j : Nat, j < k → (hI h ro j).toInt < x1.toInt) (W2 : ∀ j : Nat, k ≤ j → (j : Int) < (hI h x0 8).toInt → x1.toInt < (hI h ro j).toInt) {o : Int32 × Hp} (e : sX0_numberOf F h x0 x1 = some o) : 0 ≤ o.1.toInt ∧ o.1.toInt + (sq - 1) * sq ^ k + 1 ≤ sq ^ ((hI h x0 8).toNatClampNeg + 1) := by
  have i8 := thI T r0 (k := 1) (i := 8) (lo := 0) (hi := 5) rfl
  have a8 := i8.1
  have c8 := clamp_i a8
  have z0 : (0 : Int32).toInt = 0 := rfl
  have p0 : ∀ m : Nat, 0 ≤ sq ^ m := fun m => Int.pow_nonneg (by omega)
  have Pk : 0 ≤ (sq - 1) * sq ^ k := Int.mul_nonneg (by omega) (p0 k)
  have add1 : ∀ {x2 y : Int32} {k : Nat}, k ≤ 4 → 0 ≤ x2.toInt → x2.toInt + 1 ≤ sq ^ k → 0 ≤ y.toInt → y.toInt % 64 < sq → (x2 + ((y &&& (63 : Int32)) * (hI h pw k))).toInt = x2.toInt + y.toInt % 64 * sq ^ k := fun {x2 y k} hk a b y0 l => by
    have yn : 0 ≤ y.toInt % 64 := by omega
    have st := num_s s1 a b yn l
    have pb := (pow_sq (s := sq) (by omega) s64 (k + 1) (by omega)).2
    have n0 : 0 ≤ y.toInt % 64 * sq ^ k := Int.mul_nonneg yn (p0 k)
    have e : ((y &&& (63 : Int32)) * (hI h pw k)).toInt = y.toInt % 64 * sq ^ k := by rw [tm (by rw [Pw k (by omega), and63_i y0]; omega), Pw k (by omega), and63_i y0]
    rw [ta (by rw [e]; omega), e]
  have fin : ∀ {x2 : Int32} {n : Nat}, n = k → x2.toInt + 1 ≤ sq ^ n → x2.toInt + (sq - 1) * sq ^ k + 1 ≤ sq ^ (n + 1) := fun {x2 n} en b => by
    subst en
    rw [Int.pow_succ, Int.sub_mul, Int.one_mul, Int.mul_comm (sq ^ n) sq]
    omega
  have zz : ∀ {y w : Int32}, y + ((x1 &&& (63 : Int32)) * w) = y := fun {y w} => by rw [x63, Int32.zero_mul, Int32.add_zero]
  have lp : ∀ (f : Nat) {x2 x3 x4 x5 : Int32}, 0 ≤ x5.toInt → x5.toInt ≤ (hI h x0 8).toInt → 0 ≤ x2.toInt → 0 ≤ x3.toInt → (x4 = 0 → x3.toInt = x5.toInt ∧ x5.toInt ≤ k ∧ x2.toInt + 1 ≤ sq ^ x3.toNatClampNeg) → (¬ x4 = 0 → x3.toInt = x5.toInt + 1 ∧ (k : Int) ≤ x5.toInt ∧ x2.toInt + (sq - 1) * sq ^ k + 1 ≤ sq ^ x3.toNatClampNeg) → sX0_numberOf_19 F f h x0 x1 x2 x3 x4 x5 = some o → 0 ≤ o.1.toInt ∧ o.1.toInt + (sq - 1) * sq ^ k + 1 ≤ sq ^ ((hI h x0 8).toNatClampNeg + 1) := by
    intro f
    induction f with
    | zero => intro x2 x3 x4 x5 _ _ _ _ _ _ e; exact absurd e (by rw [sX0_numberOf_19]; exact fun z => nomatch z)
    | succ f ih =>
      intro x2 x3 x4 x5 a5 b5 a2 a3 p1 p2 e
      rw [sX0_numberOf_19] at e
      unfold sX0_numberOf_115 at e
      have c3 := clamp_i a3
      have c5 := clamp_i a5
      replace e := br_s e
      rcases e with ⟨l, e⟩ | ⟨l, e⟩
      · have l := le_i l
        replace e := br_s e
        rcases e with ⟨z4, e⟩ | ⟨z4, e⟩
        · obtain ⟨q1, q2, q3⟩ := p1 z4
          replace e := cl_s e
          obtain ⟨r3, _, e⟩ := e
          replace e := gd_s e
          obtain ⟨_, e⟩ := e
          rw [zz] at e
          rw [← Option.some.inj e]
          have en : (hI h x0 8).toNatClampNeg = x3.toNatClampNeg := by omega
          refine ⟨a2, ?_⟩
          rw [en]
          exact fin (by omega) q3
        · obtain ⟨q1, q2, q3⟩ := p2 z4
          rw [← Option.some.inj e]
          have en : (hI h x0 8).toNatClampNeg + 1 = x3.toNatClampNeg := by omega
          refine ⟨a2, ?_⟩
          rw [en]
          exact q3
      · have l5 := nle_i l
        have i5 : Rg 0 3 x5 := ⟨a5, by omega⟩
        have ny := nc_s i5 (by decide)
        obtain ⟨u1, u2, u3⟩ := R.1 x5.toNatClampNeg (by omega)
        have un : 0 ≤ (hI h ro x5.toNatClampNeg).toInt % 64 := by omega
        have b64 : ∀ {y2 y3 y4 : Int32}, 0 ≤ y2.toInt → 0 ≤ y3.toInt → (y4 = 0 → y3.toInt = x5.toInt ∧ x5.toInt + 1 ≤ k ∧ y2.toInt + 1 ≤ sq ^ y3.toNatClampNeg) → (¬ y4 = 0 → y3.toInt = x5.toInt + 1 ∧ (k : Int) ≤ x5.toInt ∧ y2.toInt + (sq - 1) * sq ^ k + 1 ≤ sq ^ y3.toNatClampNeg) → sX0_numberOf_64 F (sX0_numberOf_19 F f) h x0 x1 y2 y3 y4 x5 = some o → 0 ≤ o.1.toInt ∧ o.1.toInt + (sq - 1) * sq ^ k + 1 ≤ sq ^ ((hI h x0 8).toNatClampNeg + 1) := fun {y2 y3 y4} v2 v3 w1 w4 e => by
          unfold sX0_numberOf_64 at e
          have k3 := clamp_i v3
          replace e := cl_s e
          obtain ⟨r1, g1, e⟩ := e
          have q1 : r1 = ro := r_eq e7 g1
          subst q1
          replace e := gd_s e
          obtain ⟨_, e⟩ := e
          replace e := cl_s e
          obtain ⟨r3, g3, e⟩ := e
          have q3 : r3 = pw := r_eq e6 g3
          subst q3
          replace e := gd_s e
          obtain ⟨_, e⟩ := e
          replace e := nm_s e
          obtain ⟨v5, ev5, e⟩ := e
          replace e := nm_s e
          obtain ⟨v6, ev6, e⟩ := e
          replace e := nm_s e
          obtain ⟨v7, ev7, e⟩ := e
          have l3 : y3.toInt ≤ 4 := by
            by_cases z : y4 = 0
            · have := (w1 z).1; omega
            · have := (w4 z).1; omega
          have l1 : y2.toInt + 1 ≤ sq ^ y3.toNatClampNeg := by
            by_cases z : y4 = 0
            · exact (w1 z).2.2
            · have := (w4 z).2.2; omega
          have i3 : Rg 0 4 y3 := ⟨v3, l3⟩
          have n3 := nc_s i3 (by decide)
          have t5 : v5.toInt = y2.toInt + (hI h r1 x5.toNatClampNeg).toInt % 64 * sq ^ y3.toNatClampNeg := by
            rw [ev5]; exact add1 (by omega) v2 l1 u1 u3
          have t6 : v6.toInt = y3.toInt + 1 := by rw [ev6]; exact n3.2
          have t6n : v6.toNatClampNeg = y3.toNatClampNeg + 1 := by rw [ev6]; exact n3.1
          have t7 : v7.toInt = x5.toInt + 1 := by rw [ev7]; exact ny.2
          clear ev5 ev6 ev7
          refine ih (by omega) (by omega) ?_ (by omega) (fun z => ?_) (fun z => ?_) e
          · rw [t5]; exact (num_s s1 v2 l1 un u3).1
          · obtain ⟨o1, o2, o3⟩ := w1 z
            refine ⟨by omega, by omega, ?_⟩
            rw [t5, t6n]; exact (num_s s1 v2 o3 un u3).2
          · obtain ⟨o1, o2, o3⟩ := w4 z
            refine ⟨by omega, by omega, ?_⟩
            have st := (num_s (n := y2.toInt + (sq - 1) * sq ^ k) s1 (by omega) o3 un u3).2
            rw [t5, t6n]
            omega
        replace e := br_s e
        rcases e with ⟨z4, e⟩ | ⟨z4, e⟩
        · obtain ⟨q1, q2, q3⟩ := p1 z4
          replace e := cl_s e
          obtain ⟨r6, g6, e⟩ := e
          have y6 : r6 = ro := r_eq e7 g6
          subst y6
          replace e := gd_s e
          obtain ⟨_, e⟩ := e
          replace e := br_s e
          rcases e with ⟨v, e⟩ | ⟨v, e⟩
          · have v := le_i v
            have kl : x5.toInt + 1 ≤ k := by
              have h1 : ¬ (k : Int) ≤ x5.toInt := fun w => by
                have := W2 x5.toNatClampNeg (by omega) (by omega)
                omega
              omega
            exact b64 a2 a3 (fun _ => ⟨q1, kl, q3⟩) (fun z => absurd z4 z) e
          · have v := nle_i v
            have kl : (k : Int) = x5.toInt := by
              have h1 : ¬ x5.toInt < (k : Int) := fun w => by
                have := W1 x5.toNatClampNeg (by omega)
                omega
              omega
            replace e := cl_s e
            obtain ⟨r9, _, e⟩ := e
            replace e := gd_s e
            obtain ⟨_, e⟩ := e
            replace e := nm_s e
            obtain ⟨v11, e11, e⟩ := e
            replace e := nm_s e
            obtain ⟨v12, e12, e⟩ := e
            rw [zz] at e11
            subst e11
            have i3 : Rg 0 4 x3 := ⟨a3, by omega⟩
            have n3 := nc_s i3 (by decide)
            have t12 : v12.toInt = x3.toInt + 1 := by rw [e12]; exact n3.2
            have t12n : v12.toNatClampNeg = x3.toNatClampNeg + 1 := by rw [e12]; exact n3.1
            clear e12
            refine b64 a2 (by omega) (fun z => absurd z (by decide)) (fun _ => ⟨by omega, by omega, ?_⟩) e
            rw [t12n]
            exact fin (by omega) q3
        · obtain ⟨q1, q2, q3⟩ := p2 z4
          exact b64 a2 a3 (fun z => absurd z z4) (fun _ => ⟨q1, q2, q3⟩) e
  unfold sX0_numberOf sX0_numberOf_14 at e
  have one : (0 : Int32).toInt + 1 ≤ sq ^ (0 : Int32).toNatClampNeg := by show (0 : Int) + 1 ≤ sq ^ 0; rw [Int.pow_zero]; decide
  replace e := br_s e
  rcases e with ⟨z, e⟩ | ⟨z, e⟩
  · exact absurd z xn
  · exact lp F (by decide) (by rw [z0]; exact a8) (by decide) (by decide) (fun _ => ⟨rfl, by rw [z0]; omega, one⟩) (fun w => absurd rfl w) e
end
end
section
/-! taken back: squares of the law alone -/
theorem pow_mono {s : Int} (s1 : 1 ≤ s) {m n : Nat} (h : m ≤ n) : s ^ m ≤ s ^ n := by
  obtain ⟨d, rfl⟩ := Nat.exists_eq_add_of_le h
  clear h
  induction d with
  | zero => exact Int.le_refl _
  | succ d ih =>
    have p0 : 0 ≤ s ^ (m + d) := Int.pow_nonneg (by omega)
    have : s ^ (m + d) * 1 ≤ s ^ (m + d) * s := Int.mul_le_mul_of_nonneg_left s1 p0
    rw [← Nat.add_assoc, Int.pow_succ]
    omega
def FmX (x0 : Nat) (sq : Int) (h : Hp) : Prop := ∀ r, hR h x0 3 = some r → ∀ i, i < 1536 → BtS sq (hJ h r i)
def PoS (sq : Int) (b : Nat) (h : Hp) : Prop := ∀ of d, hR h b 1 = some of → d < 2 → BtS sq (hJ h of d)
abbrev TCL : List (Nat × Nat) := [(24, 999), (25, 999), (26, 999), (1, 16)]
abbrev TBL : List (Nat × Nat) := [(23, 999), (1, 8), (24, 999), (25, 999), (26, 999), (1, 16)]
section
variable {ρ : Nat → Nat} {c : Cm} {h o : Hp} {x0 b wy ks st pw ro F : Nat} {sq : Int} {x1 x2 x3 : Int32}
theorem occ_bts {oc : Int64 × Hp} (e : sX3_occupied h b = some oc) (P : PoS sq b h) : BtS sq oc.1 := by
  unfold sX3_occupied at e
  replace e := cl_s e
  obtain ⟨f1, e1, e⟩ := e
  replace e := gd_s e
  obtain ⟨_, e⟩ := e
  replace e := cl_s e
  obtain ⟨f2, e2, e⟩ := e
  replace e := gd_s e
  obtain ⟨_, e⟩ := e
  have z := Option.some.inj e
  rw [← z]
  intro s hs hb
  have hb' : bitJ (hJ h f1 (0 : Int32).toNatClampNeg ||| hJ h f2 (1 : Int32).toNatClampNeg) s = true := hb
  rw [bj_or, Bool.or_eq_true] at hb'
  rcases hb' with q | q
  · exact P f1 0 e1 (by decide) s hs q
  · exact P f2 1 e2 (by decide) s hs q
theorem pos_k {E : List (Nat × Nat)} (T : TH ρ c h) (rb : ρ b = 4) (K : Kf ρ E h o) (y1 : mS E 4 1 = false := by rfl) (y2 : ∀ i, mS E 35 i = false := by intro _; rfl) (P : PoS sq b h) : PoS sq b o := fun of d e hd => by
  rw [kfR 1 K rb (by decide) y1] at e
  rw [kfJ d K (th_of T rb e) (by decide) (y2 d)]
  exact P of d e hd
theorem fmx_k {E : List (Nat × Nat)} (T : TH ρ c h) (rb : ρ wy = 11) (K : Kf ρ E h o) (y1 : mS E 11 3 = false := by rfl) (y2 : ∀ i, mS E 53 i = false := by intro _; rfl) (P : FmX wy sq h) : FmX wy sq o := fun r e i hi => by
  rw [kfR 3 K rb (by decide) y1] at e
  rw [kfJ i K (rr T (thR T rb (i := 3) (k2 := 53) rfl (by decide)) e) (by decide) (y2 i)]
  exact P r e i hi
theorem stp_k {E : List (Nat × Nat)} (T : TH ρ c h) (r0 : ρ x0 = 1) (qk : ρ ks = 20) (qp : ρ pw = 22) (qs : ρ st = 21) (K : Kf ρ E h o) (y1 : mS E 1 9 = false := by rfl) (y2 : ∀ i, mS E 20 i = false := by intro _; rfl) (y3 : ∀ i, mS E 21 i = false := by intro _; rfl) (y4 : ∀ i, mS E 22 i = false := by intro _; rfl) (P : StP x0 ks pw st h) : StP x0 ks pw st o := by
  have k9 := kfI 9 K r0 (by decide) y1
  have gk : ∀ i, gK o pw (hI o ks i) = gK h pw (hI h ks i) := fun i => by
    unfold gK
    rw [kfI i K qk (by decide) (y2 i), kfI _ K qp (by decide) (y4 _)]
  refine ⟨?_, fun i hi => ?_⟩
  · rw [k9, sm_eq (g := fun i => gK h pw (hI h ks i)) _ (fun i _ => gk i)]
    exact P.1
  · rw [k9] at hi
    rw [sm_eq (f := fun i => gK o pw (hI o ks i)) (g := fun i => gK h pw (hI h ks i)) _ (fun i _ => gk i), kfI i K qs (by decide) (y3 i)]
    exact P.2 i hi
/-- the positions of a set lie below 600000 -/
theorem stp_room {i n : Nat} (T : TH ρ c h) (r0 : ρ x0 = 1) (qp : ρ pw = 22) (s1 : 1 ≤ sq) (Pw : ∀ i : Nat, i ≤ 5 → (hI h pw i).toInt = sq ^ i) (S : StP x0 ks pw st h) (hi : (i : Int) < (hI h x0 9).toInt) (hn : n ≤ szI (hI h ks i).toInt) : 0 ≤ (hI h st i).toInt ∧ (hI h st i).toInt + 2 * sq ^ n ≤ 600000 := by
  have gp : ∀ x, 0 ≤ gK h pw x := fun x => by
    have := (thI T qp (k := 22) (i := szI x.toInt) (lo := 0) (hi := 1073741824) rfl).1
    unfold gK
    omega
  have c9 := clamp_i (v := hI h x0 9) (by omega)
  have e := S.2 i (by omega)
  have sN : sm (fun i => gK h pw (hI h ks i)) (i + 1) ≤ 600000 := by
    have := sm_le (f := fun i => gK h pw (hI h ks i)) (fun i => gp _) (i + 1) ((hI h x0 9).toNatClampNeg - (i + 1))
    have en : i + 1 + ((hI h x0 9).toNatClampNeg - (i + 1)) = (hI h x0 9).toNatClampNeg := by omega
    rw [en] at this
    have := S.1
    omega
  have sn0 := sm_0 (f := fun i => gK h pw (hI h ks i)) (fun i => gp _) i
  have sE : sm (fun i => gK h pw (hI h ks i)) (i + 1) = sm (fun i => gK h pw (hI h ks i)) i + gK h pw (hI h ks i) := rfl
  have gE : gK h pw (hI h ks i) = 2 * (hI h pw (szI (hI h ks i).toInt)).toInt := rfl
  have s5 := sz_le (hI h ks i).toInt
  rw [Pw _ s5] at gE
  have mono : sq ^ n ≤ sq ^ szI (hI h ks i).toInt := pow_mono s1 hn
  omega
theorem tbt_q (hF : 700000 ≤ F) (hA : pmA c TBL) (T : TH ρ c h) (r0 : ρ x0 = 1) (e1 : hR h x0 1 = some wy) (e3 : hR h x0 3 = some b) (e4 : hR h x0 4 = some ks) (e5 : hR h x0 5 = some st) (e6 : hR h x0 6 = some pw) (e7 : hR h x0 7 = some ro) (i1 : Rg 0 63 x1) (i2 : Rg 0 23 x2) (i3 : Rg (-1) 23 x3) (ln : LenP x0 h) (s1 : 1 ≤ sq) (s64 : sq ≤ 64) (Pw : ∀ i : Nat, i ≤ 5 → (hI h pw i).toInt = sq ^ i) (S : StP x0 ks pw st h) (B : PoS sq b h) (W : FmX wy sq h) : Sat (sX0_takeBackTaking F h x0 x1 x2 x3) (ZV ρ c) := by
  have qw : ρ wy = 11 := rr T (thR T r0 (i := 1) (k2 := 11) rfl (by decide)) e1
  have qb : ρ b = 4 := rr T (thR T r0 (i := 3) (k2 := 4) rfl (by decide)) e3
  have qk : ρ ks = 20 := rr T (thR T r0 (i := 4) (k2 := 20) rfl (by decide)) e4
  have qs : ρ st = 21 := rr T (thR T r0 (i := 5) (k2 := 21) rfl (by decide)) e5
  have qp : ρ pw = 22 := rr T (thR T r0 (i := 6) (k2 := 22) rfl (by decide)) e6
  have qo : ρ ro = 23 := rr T (thR T r0 (i := 7) (k2 := 23) rfl (by decide)) e7
  unfold sX0_takeBackTaking
  refine s_ref e3 ?_
  obtain ⟨oc, eoc, _⟩ := zX3_occupied hF T qb
  refine s_cVfq (S := fS RWL []) T (fs_sub (pmA_s hA rfl) fs_n) (gat_q hF fs_a (th_in _ T) r0 qb e7 (rg_m i1 (by decide)) i3 eoc (occ_bts eoc B)) (fun g Tg fg Pg => ?_)
  obtain ⟨R, K⟩ := Pg
  have e7g : hR g x0 7 = some ro := by rw [kfR 7 K r0]; exact e7
  have e6g : hR g x0 6 = some pw := by rw [kfR 6 K r0]; exact e6
  have e5g : hR g x0 5 = some st := by rw [kfR 5 K r0]; exact e5
  have e4g : hR g x0 4 = some ks := by rw [kfR 4 K r0]; exact e4
  have e3g : hR g x0 3 = some b := by rw [kfR 3 K r0]; exact e3
  have e1g : hR g x0 1 = some wy := by rw [kfR 1 K r0]; exact e1
  have Sg : StP x0 ks pw st g := stp_k T r0 qk qp qs K (P := S)
  have Pwg : ∀ i : Nat, i ≤ 5 → (hI g pw i).toInt = sq ^ i := fun i hi => by rw [kfI i K qp]; exact Pw i hi
  have Wg : FmX wy sq g := fmx_k T qw K (P := W)
  have lng : LenP x0 g := len_fr T r0 fg (fun _ => rfl) (fun _ => rfl) (fun _ => rfl) ln
  have i8 := thI Tg r0 (k := 1) (i := 8) (lo := 0) (hi := 5) rfl
  have c8 := clamp_i i8.1
  have b8 := i8.2
  have i20 := i2.1
  have i21 := i2.2
  refine s_cl (s_imp (keyrow_q hF Tg r0 e7g R) (fun o3 ⟨q3, k3⟩ => ?_))
  rw [q3]
  obtain ⟨k31, k32, k33, k34, k35⟩ := k3
  by_cases n5 : (hI g x0 8).toNatClampNeg = 5
  · refine s_cl (s_imp (with4_q hF (k35 n5) k31.2 i2) (fun o4 ⟨q4, v4⟩ => ?_))
    rw [q4]
    refine s_cl (s_imp (fset_q hF Tg r0 e4g) (fun o5 ⟨q5, i5, w5⟩ => ?_))
    rw [q5]
    refine s_br (fun _ => s_some Tg) (fun ne => ?_)
    obtain ⟨_, _, w⟩ := w5 ne
    have ik := (thI Tg qk (k := 20) (i := o5.1.toNatClampNeg) (lo := 0) (hi := 33554431) rfl).2
    rw [w] at ik
    omega
  have n4 : (hI g x0 8).toNatClampNeg ≤ 4 := by omega
  refine s_cl (s_imp (with3_q hF k31.1 (k34 n4) k32 i2) (fun o4 ⟨q4, _, _, v4⟩ => ?_))
  rw [q4]
  refine s_cl (s_imp (fset_q hF Tg r0 e4g) (fun o5 ⟨q5, i5, w5⟩ => ?_))
  rw [q5]
  refine s_br (fun _ => s_some Tg) (fun ne => ?_)
  obtain ⟨a5, b5, w⟩ := w5 ne
  rw [k33, ← w] at v4
  have c5 := clamp_i a5
  obtain ⟨st0, room⟩ := stp_room (n := (hI g x0 8).toNatClampNeg + 1) Tg r0 qp s1 Pwg Sg (i := o5.1.toNatClampNeg) (by omega) v4
  obtain ⟨M, eM⟩ : ∃ M : Int, M = sq ^ ((hI g x0 8).toNatClampNeg + 1) := ⟨_, rfl⟩
  rw [← eM] at room
  have M0 : 0 ≤ M := by rw [eM]; exact Int.pow_nonneg (by omega)
  refine s_ref e5g ?_
  refine s_gd (by rw [thN Tg qs (k := 21) (n := 1025) rfl (by decide)]; exact rg_inB (⟨a5, by have := i5.2; omega⟩ : Rg 0 1024 o5.1) (by decide)) ?_
  refine s_q (fun v9 e9 => ?_)
  have a1 := and1 i2
  have ic : Rg 0 1 (x2 &&& (1 : Int32)) := rg_and (rg_b rfl : Rg 1 1 (1 : Int32)) (by decide)
  have ic0 := ic.1
  have ic1 := ic.2
  have t9 : v9.toInt = (hI g st o5.1.toNatClampNeg).toInt + (x2 &&& (1 : Int32)).toInt := by rw [e9, ta (by omega)]
  clear e9
  refine s_dd (zX0_numberOf hF Tg r0 (rg_top _)) (fun o10 e10 Z10 => ?_)
  rw [Z10.1]
  refine s_cl (s_imp (weight_q hF Tg r0 e6g e7g Pwg R i2) (fun o11 ⟨q11, w11⟩ => ?_))
  rw [q11]
  refine s_ref e1g ?_
  have e10' : sX0_numberOf F g x0 (x2 <<< ((6 : Int32) &&& 31)) = some o10 := e10
  have xs : (x2 <<< ((6 : Int32) &&& 31)).toInt = x2.toInt * 64 := shl_i (m := 6) rfl i20 (by show x2.toInt * 64 ≤ _; omega)
  have x63 : ((x2 <<< ((6 : Int32) &&& 31)) &&& (63 : Int32)) = 0 := Int32.toInt_inj.mp (by
    rw [and63_i (by omega), xs]
    show x2.toInt * 64 % 64 = 0
    omega)
  have xn : ¬ (x2 <<< ((6 : Int32) &&& 31)) = (-1 : Int32) := fun z => by
    rw [z] at xs
    have : (-1 : Int32).toInt = -1 := rfl
    omega
  -- the number of a square
  have num : ∀ {s : Int32}, 0 ≤ s.toInt → s.toInt < sq → ¬ o11.1 ≤ 0 → 0 ≤ (o10.1 + (s * o11.1)).toInt ∧ (o10.1 + (s * o11.1)).toInt + 1 ≤ M := fun {s} s0 sl nz => by
    have nz := nle_i nz
    have z0 : (0 : Int32).toInt = 0 := rfl
    rcases w11 with w11 | ⟨k, hk, ek, w1, w2⟩
    · omega
    obtain ⟨u1, u2⟩ := number2_q (k := k) hF Tg r0 e6g e7g s1 s64 Pwg R (by omega) x63 xn hk (fun j hj => by rw [xs]; exact w1 j hj) (fun j hj hn => by rw [xs]; exact w2 j hj hn) e10'
    rw [← eM] at u2
    have pk : 0 ≤ sq ^ k := Int.pow_nonneg (by omega)
    have ml : s.toInt * sq ^ k ≤ (sq - 1) * sq ^ k := Int.mul_le_mul_of_nonneg_right (by omega) pk
    have m0 : 0 ≤ s.toInt * sq ^ k := Int.mul_nonneg s0 pk
    have em : (s * o11.1).toInt = s.toInt * sq ^ k := by rw [tm (by rw [ek]; omega), ek]
    rw [ta (by rw [em]; omega), em]
    omega
  have lp : ∀ (f : Nat) {g2 : Hp} {x8 : Int64} {x10 : Int32}, TH ρ c g2 → Kf ρ TCL g g2 → LenP x0 g2 → BtS sq x8 → 0 ≤ x10.toInt → (65 - x10.toInt).toNat < f → Sat (sX0_takeBackTaking_92 F f g2 x0 x2 x3 v9 o10.1 o11.1 x8 x10) (ZV ρ c) := by
    intro f
    induction f with
    | zero => intros; omega
    | succ f ih =>
      intro g2 x8 x10 T2 K2 ln2 B8 a10 hf
      rw [sX0_takeBackTaking_92]
      unfold sX0_takeBackTaking_178
      refine s_br (fun _ => s_some T2) (fun l => ?_)
      have l := nle_i l
      have z64 : (64 : Int32).toInt = 64 := rfl
      refine s_br (fun _ => s_some T2) (fun nz => ?_)
      refine s_dI0 (zX11_lowest hF T2) (fun o3 eb3 q3 i3' => ?_)
      have c3 := clamp_i i3'.1
      have j30 := i3'.1
      have j31 := i3'.2
      have s3 : o3.1.toInt < sq := by have := B8 o3.1.toNatClampNeg (by omega) (low_in eb3 nz); omega
      refine s_q (fun v4 e4' => ?_)
      have B4 : BtS sq v4 := by rw [e4']; exact bts_and B8
      clear e4'
      rw [q3]
      have b149 : ∀ {t : Int32}, 0 ≤ t.toInt → t.toInt + 1 ≤ M → Sat (sX0_takeBackTaking_149 F (sX0_takeBackTaking_92 F f) g2 x0 x2 x3 v9 o10.1 o11.1 v4 x10 t) (ZV ρ c) := fun {t} t0 t1 => by
        unfold sX0_takeBackTaking_149 sX0_takeBackTaking_169
        have z2 : (2 : Int32).toInt = 2 := rfl
        have e2 : ((2 : Int32) * t).toInt = 2 * t.toInt := by rw [tm (by rw [z2]; omega), z2]
        have en : (v9 + ((2 : Int32) * t)).toInt = v9.toInt + 2 * t.toInt := by rw [ta (by rw [e2]; omega), e2]
        have it : Rg 0 599999 (v9 + ((2 : Int32) * t)) := ⟨by omega, by omega⟩
        have i10 : Rg 0 63 x10 := ⟨a10, by omega⟩
        have ny := nc_s i10 (by decide)
        have go : ∀ {y : Int32}, Rg 0 1 y → Sat (cl (sX0_touch g2 x0 (v9 + ((2 : Int32) * t)) y) fun o_1 => nm (x10 + (1 : Int32)) fun v_2 => sX0_takeBackTaking_92 F f o_1 x0 x2 x3 v9 o10.1 o11.1 v4 v_2) (ZV ρ c) := fun {y} iy => by
          refine s_cVf (S := fS TCL []) T2 (fs_sub (pmA_s hA rfl) fs_n) (zX0_touch hF fs_a (th_in _ T2) r0 it iy ln2) (fun g3 T3 f3 => ?_)
          refine s_q (fun y2 ey => ?_)
          have ty : y2.toInt = x10.toInt + 1 := by rw [ey]; exact ny.2
          clear ey
          exact ih T3 (kf_t K2 (kf_of f3 rfl)) (len_fr T2 r0 f3 (fun _ => rfl) (fun _ => rfl) (fun _ => rfl) ln2) B4 (by omega) (by omega)
        exact s_br (fun _ => go (rg_m (rg_b rfl : Rg 0 0 (0 : Int32)) (by decide))) (fun _ => go (rg_m (rg_b rfl : Rg 1 1 (1 : Int32)) (by decide)))
      refine s_br (fun _ => ?_) (fun nw => ?_)
      · have mi := man_i i2 i3'
        have en8 : hI g2 x0 8 = hI g x0 8 := kfI 8 K2 r0
        have rn : ∀ i, hI g2 ro i = hI g ro i := fun i => kfI i K2 qo
        refine s_cl (s_imp (number_q (sq := sq) (x1 := (x2 <<< ((6 : Int32) &&& 31)) ||| o3.1) (q := 1) hF T2 r0 (by rw [kfR 6 K2 r0]; exact e6g) (by rw [kfR 7 K2 r0]; exact e7g) s1 s64 (fun i hi => by rw [kfI i K2 qp]; exact Pwg i hi) (fun i hi => ?_) (fun _ => ⟨?_, by rw [en8]; omega⟩) (by rw [if_neg]; intro z; rw [z] at mi; have : (-1 : Int32).toInt = -1 := rfl; omega)) (fun o6 ⟨q6, u1, u2⟩ => ?_))
        · rw [rn]
          rw [en8] at hi
          obtain ⟨y1, y2, y3⟩ := R.1 i hi
          rw [and63_i y1]; exact y3
        · rw [and63_i (by omega), mi]; omega
        · rw [q6]
          rw [en8, ← eM] at u2
          exact b149 u1 u2
      · obtain ⟨u1, u2⟩ := num j30 s3 nw
        exact b149 u1 u2
  have b77 : ∀ {t : Int32}, Rg 0 1 t → Sat (sX0_takeBackTaking_77 F g x0 x2 x3 v9 o10.1 o11.1 t x1 x2 wy) (ZV ρ c) := fun {t} it => by
    unfold sX0_takeBackTaking_77
    refine s_ref e3g ?_
    refine s_dJ0 (zX3_occupied hF Tg qb) (fun o2 eb2 q2 => ?_)
    rw [q2]
    refine s_dJ0 (zX10_origins hF Tg qw i2 i1 it) (fun o3 eb3 q3 => ?_)
    rw [q3]
    obtain ⟨rf, er, qr⟩ := thR Tg qw (i := 3) (k2 := 53) rfl (by decide)
    have i10 := i1.1
    have i11 := i1.2
    have z64 : (64 : Int32).toInt = 64 := rfl
    have m64 : (x2 * (64 : Int32)).toInt = x2.toInt * 64 := by rw [tm (by rw [z64]; omega), z64]
    have ix : ((x2 * (64 : Int32)) + x1).toInt = x2.toInt * 64 + x1.toInt := by rw [ta (by rw [m64]; omega), m64]
    have cx := clamp_i (v := (x2 * (64 : Int32)) + x1) (by omega)
    exact lp F Tg kf_r lng (fun s hs hb => Wg rf er _ (by omega) s hs (or_sub er eb3 s hb)) (by decide) (by show (65 - 0 : Int).toNat < F; omega)
  exact s_br (fun _ => b77 (rg_m (rg_b rfl : Rg 0 0 (0 : Int32)) (by decide))) (fun _ => b77 (rg_m (rg_b rfl : Rg 1 1 (1 : Int32)) (by decide)))
end
end
