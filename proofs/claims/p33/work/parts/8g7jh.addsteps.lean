/-! the class: moves by STEPS -/
/-- a packed move is this move -/
def MvC (x : Int32) (v : MvT) : Prop := PkM x v.2.1 (if v.2.2.2.2.2.1 = 3 then 0 else v.1) v.2.2.1 (if v.2.2.2.1 = -1 then 15 else v.2.2.2.1) (if v.2.2.2.2.1 = -1 then 15 else v.2.2.2.2.1) v.2.2.2.2.2.1 (if v.2.2.2.2.2.1 = 0 ∨ v.2.2.2.2.2.1 = 1 then v.2.2.2.2.2.2 else 0)
def CLs (V : Nat → Nat) (h : Hp) (ms : List MvT) : Prop := (hI h (V 6) 6).toInt = (ms.length : Int) ∧ ∀ i, i < ms.length → ∃ v, ms[i]? = some v ∧ MvC (hI h (V 47) i) v
abbrev wcl : List (Nat × Nat) := [(6, 6), (47, 999)]
/-- the class's RULES: what else is asked of them -/
def CLx (V : Nat → Nat) (h : Hp) (L : Nat → Nat → Int) : Prop := (∀ m : Nat, m < 12 → (hI h (V 31) m).toInt = L 81 m ∧ (0 ≤ L 81 m ∧ L 81 m ≤ 6) ∧ ∀ q : Nat, (q : Int) < L 81 m → (hI h (V 30) (6 * m + q)).toInt = L 80 (6 * m + q) ∧ 0 ≤ L 80 (6 * m + q) ∧ L 80 (6 * m + q) ≤ 11) ∧ (((hI h (V 2) 10) &&& (1 : Int32) = 0 ↔ L 15 0 = 0) ∧ ((hI h (V 2) 10) &&& (2 : Int32) = 0 ↔ L 16 0 = 0) ∧ ((hI h (V 2) 10) &&& (4 : Int32) = 0 ↔ L 17 0 = 0) ∧ ((hI h (V 2) 10) &&& (8 : Int32) = 0 ↔ L 18 0 = 0)) ∧ hR h (V 2) 17 = some (V 30) ∧ hR h (V 2) 18 = some (V 31)
section
variable {F : Nat} {V : Nat → Nat} {h o' : Hp} {L : Nat → Nat → Int} {M : Nat → Int} {o : Int32 × Hp}
theorem cls_k {h' : Hp} {ms : List MvT} (R : CLs V h ms) (a : hI h' (V 6) 6 = hI h (V 6) 6) (b : ∀ i, hI h' (V 47) i = hI h (V 47) i) : CLs V h' ms := ⟨by rw [a]; exact R.1, fun i hi => by rw [b]; exact R.2 i hi⟩
/-- one move more -/
theorem add_c (D : VD V) {ms : List MvT} {x : Int32} {v : MvT} (w5 : hR h (V 6) 5 = some (V 47)) (ln : hN h (V 47) = 4096) (R : CLs V h ms) (lm : ms.length < 4096) (P : MvC x v) (e : sX5_addMove h (V 6) x = some o') : FrV V (wl wcl) h o' ∧ CLs V o' (ms ++ [v]) := by
  have z1 : (1 : Int32).toInt = 1 := rfl
  have n0 := R.1
  have cn : (hI h (V 6) 6).toNatClampNeg = ms.length := by have := nc_i (x := hI h (V 6) 6) (by omega); omega
  unfold sX5_addMove sX5_addMove_32 at e
  replace e := ce_e w5 e
  replace e := bn_e (fun z => by
    have := le_i z
    rw [ln, z_toInt (by decide), n0] at this
    omega) e
  replace e := ce_e w5 e
  replace e := gg_e e
  replace e := nm_s e; obtain ⟨g1, u1, e⟩ := e
  rw [cn] at u1
  have c1 : hI g1 (V 6) 6 = hI h (V 6) 6 := by rw [u1, rI_a (vne D)]
  replace e := nm_s e; obtain ⟨g2, u2, e⟩ := e
  rw [c1] at u2
  rw [so_e e]
  refine ⟨fv_t (g2 := g1) (by rw [u1]; exact fv_w (wl_9 (by decide))) (by rw [u2]; exact fv_w rfl), ?_, fun i hi => ?_⟩
  · rw [u2, rI_s, ta (by rw [n0, z1]; omega), n0, z1, List.length_append]
    rfl
  · rw [List.length_append] at hi
    have hi' : i < ms.length + 1 := hi
    have r47 : hI g2 (V 47) i = if i = ms.length then x else hI h (V 47) i := by
      rw [u2, rI_a (vne D), u1, r_I]
      by_cases c : i = ms.length
      · rw [if_pos ⟨rfl, c⟩, if_pos c]
      · rw [if_neg (fun z => c z.2), if_neg c]
    rw [r47]
    by_cases c : i = ms.length
    · rw [if_pos c, c, List.getElem?_append_right (Nat.le_refl _), Nat.sub_self]
      exact ⟨v, rfl, P⟩
    · rw [if_neg c, List.getElem?_append_left (by omega)]
      exact R.2 i (by omega)
/-- the class's world while it collects -/
def CWd (V : Nat → Nat) (h : Hp) (L : Nat → Nat → Int) (M : Nat → Int) (ov : Nat → Prop) : Prop := (hR h (V 6) 0 = some (V 2) ∧ hR h (V 6) 1 = some (V 11) ∧ hR h (V 6) 4 = some (V 4) ∧ hR h (V 6) 5 = some (V 47) ∧ hN h (V 47) = 4096) ∧ WCf V h ∧ WyT L V h ∧ VPc V h ∧ PosC h (V 34) (V 35) (V 36) M (L 10 0) ∧ (CLq V h L ∧ hR h (V 2) 20 = some (V 33)) ∧ CLx V h L ∧ ∀ q, q < 64 → (bitJ (hJ h (V 4) 10) q = true ↔ ov q)
theorem cwd_f (D : VD V) {ov : Nat → Prop} {h' : Hp} (P : CWd V h L M ov) (A : FrV V (wl wcl) h h') (n47 : hN h' (V 47) = hN h (V 47)) : CWd V h' L M ov := by
  obtain ⟨⟨a1, a2, a3, a4, a5⟩, wc, wt, pc, ps, ⟨cl', r20⟩, ⟨cx1, cx2, cx3, cx4⟩, bo⟩ := P
  refine ⟨⟨by rw [A.1]; exact a1, by rw [A.1]; exact a2, by rw [A.1]; exact a3, by rw [A.1]; exact a4, by rw [n47]; exact a5⟩, wcf_f wc A, wyt_k wt (fun x => fvI D A 50 x) (fun x => fvI D A 51 x) (fun x => fvJ D A 52 x) (fun x => fvJ D A 53 x) (fun x => fvJ D A 54 x), vpc_f pc A, posc_k ps (fun i => fvI D A 34 i) (fun i => fvI D A 36 i) (fun i => fvJ D A 35 i) (fun _ _ => rfl), ⟨clw_f D cl' A (by decide), by rw [A.1]; exact r20⟩, ⟨fun m hm => ?_, ?_, by rw [A.1]; exact cx3, by rw [A.1]; exact cx4⟩, fun q hq => by rw [fvj D A 4 10]; exact bo q hq⟩
  · obtain ⟨p, q, r⟩ := cx1 m hm
    refine ⟨by rw [fvI D A 31 m]; exact p, q, fun i hi => ?_⟩
    rw [fvI D A 30 _]
    exact r i hi
  · rw [fvi D A 2 10]
    exact cx2
/-- the move along a way -/
theorem mva_v {x1 x2 x3 : Int32} {ov : Nat → Prop} {c s t i p0 : Nat} {k : Int} (W : CWd V h L M ov) (HM : MOk L M) (H : LOk L) (J : StR L (8 * (c / 2) + i)) (cL : (c : Int) < 2 * L 2 0) (s64 : s < 64) (ht : t < 64) (k17 : 1 ≤ k ∧ k ≤ 7) (wd : (hI h (V 51) x1.toNatClampNeg).toInt = t + 64 * L 75 (8 * (c / 2) + i) + 4096 * k) (e2 : x2.toInt = (s : Int)) (e3 : x3.toInt = (c : Int)) (rp : ByT L ov true (8 * (c / 2) + i) t → p0 < 64 ∧ 0 < M p0 ∧ ∃ n q, Pw (hJ h (V 4) 9) n q ∧ 0 < n ∧ q 0 = p0) (e : sX5_moveAlong h (V 6) x1 x2 x3 = some o) : o.2 = h ∧ PkM o.1 t s ((c / 2 : Nat) : Int) 15 (if tkV M p0 t (prB' (ByT L ov true (8 * (c / 2) + i) t)) = -1 then 15 else tkV M p0 t (prB' (ByT L ov true (8 * (c / 2) + i) t))) (if prB' (ByT L ov true (8 * (c / 2) + i) t) = true then 1 else 0) (if fbt (L 75 (8 * (c / 2) + i)) 4 = true ∧ 1 < k then k else 0) := by
  have z0 : (0 : Int32).toInt = 0 := rfl
  have z1 : (1 : Int32).toInt = 1 := rfl
  have L2 := H.2.2.1
  obtain ⟨⟨w0, w1, w4, w5, _⟩, wc, wt, pc, ps, cl', cx, bov⟩ := W
  obtain ⟨f63, ffl, f12⟩ := wd_f ht J.1 ⟨by omega, k17.2⟩ wd
  unfold sX5_moveAlong at e
  replace e := ce_e w1 e
  replace e := ce_e wc.2.1 e
  replace e := gg_e e
  replace e := nm_s e; obtain ⟨v4, u4, e⟩ := e
  replace e := ce_e w1 e
  replace e := ce_e wc.2.1 e
  replace e := gg_e e
  replace e := nm_s e; obtain ⟨v8, u8, e⟩ := e
  replace e := ce_e w1 e
  replace e := ce_e wc.2.1 e
  replace e := gg_e e
  replace e := nm_s e; obtain ⟨v12, u12, e⟩ := e
  rw [← u4] at f63
  rw [← u8] at ffl
  rw [← u12] at f12
  have i4 : Rg 0 63 v4 := ⟨by omega, by omega⟩
  have c4 : v4.toNatClampNeg = t := by have := nc_i i4.1; omega
  obtain ⟨_, _, _, _, fb4, fb5⟩ := fb_e (x := v8) ⟨by rw [ffl]; exact J.1.1, by rw [ffl]; exact J.1.2⟩
  rw [ffl] at fb4 fb5
  have man : (x3 >>> ((1 : Int32) &&& 31)).toInt = ((c / 2 : Nat) : Int) := by
    have : (x3 >>> ((1 : Int32) &&& 31)).toInt = x3.toInt / 2 := shr_i 1 (by decide)
    rw [this, e3]; omega
  -- behind: PASS
  have k154 : ∀ {x9 : Int32} {a kd : Int} {g : Hp}, g = h → PkM x9 t s ((c / 2 : Nat) : Int) 15 a kd 0 → sX5_moveAlong_154 g v8 v12 x9 = some o → o.2 = h ∧ PkM o.1 t s ((c / 2 : Nat) : Int) 15 a kd (if fbt (L 75 (8 * (c / 2) + i)) 4 = true ∧ 1 < k then k else 0) := fun {x9 a kd g} hg P u => by
    unfold sX5_moveAlong_154 sX5_moveAlong_179 sX5_moveAlong_181 at u
    rw [hg] at u
    rcases br_s u with ⟨q, u⟩ | ⟨q, u⟩
    · rw [so_e u, if_neg (fun z => by rw [fb4.mp q] at z; exact absurd z.1 (by decide))]
      exact ⟨rfl, P⟩
    have f4 : fbt (L 75 (8 * (c / 2) + i)) 4 = true := by
      cases y : fbt (L 75 (8 * (c / 2) + i)) 4 with
      | true => rfl
      | false => exact absurd (fb4.mpr y) q
    rcases br_s u with ⟨d, u⟩ | ⟨d, u⟩
    · have d := le_i d
      rw [f12, z1] at d
      rw [so_e u, if_neg (fun z => by omega)]
      exact ⟨rfl, P⟩
    · have d := nle_i d
      rw [f12, z1] at d
      rw [so_e u, if_pos ⟨f4, d⟩, ← f12]
      exact ⟨rfl, pk_pass P ⟨by omega, by omega⟩⟩
  -- whom he takes
  have k129 : ∀ {x8 kd : Int32} {ta' : Int}, (kd.toInt = 0 ∨ kd.toInt = 1) → ((x8.toInt < 0 ∧ ta' = -1) ∨ (0 ≤ x8.toInt ∧ x8.toInt ≤ 23 ∧ ta' = x8.toInt / 2)) → sX5_moveAlong_129 h v8 v12 x8 kd (x3 >>> ((1 : Int32) &&& 31)) v4 x2 = some o → o.2 = h ∧ PkM o.1 t s ((c / 2 : Nat) : Int) 15 (if ta' = -1 then 15 else ta') kd.toInt (if fbt (L 75 (8 * (c / 2) + i)) 4 = true ∧ 1 < k then k else 0) := fun {x8 kd ta'} hk ht' u => by
    unfold sX5_moveAlong_129 at u
    replace u := cl_s u; obtain ⟨o1, eo1, u⟩ := u
    obtain ⟨q1, q2⟩ := pk_plain ⟨by omega, by omega⟩ i4 ⟨by rw [man]; omega, by rw [man]; omega⟩ ⟨by omega, by omega⟩ eo1
    rw [f63, e2, man] at q2
    rw [q1] at u
    rcases br_s u with ⟨d, u⟩ | ⟨d, u⟩
    · have d := lt_i d
      rw [z0] at d
      rcases ht' with ⟨_, y⟩ | ⟨y, _⟩
      · rw [y, if_pos rfl]
        exact k154 rfl q2 u
      · omega
    · have d := nlt_i d
      rw [z0] at d
      rcases ht' with ⟨y, _⟩ | ⟨_, y1, y2⟩
      · omega
      · have sh : (x8 >>> ((1 : Int32) &&& 31)).toInt = x8.toInt / 2 := shr_i 1 (by decide)
        have q3 := pk_taken q2 (y := x8 >>> ((1 : Int32) &&& 31)) ⟨by rw [sh]; omega, by rw [sh]; omega⟩
        rw [sh, ← y2] at q3
        rw [if_neg (by omega)]
        exact k154 rfl q3 (nx_e u)
  have m2 : ∀ q : Nat, q < 64 → 0 < M q → M q ≤ 24 := fun q hq hp => by
    have := ((HM q hq).2 hp).2
    omega
  have k75n : ¬ ByT L ov true (8 * (c / 2) + i) t → sX5_moveAlong_75 h (V 6) x2 x3 v4 v8 v12 (0 : Int32) = some o → o.2 = h ∧ PkM o.1 t s ((c / 2 : Nat) : Int) 15 (if tkV M p0 t (prB' (ByT L ov true (8 * (c / 2) + i) t)) = -1 then 15 else tkV M p0 t (prB' (ByT L ov true (8 * (c / 2) + i) t))) (if prB' (ByT L ov true (8 * (c / 2) + i) t) = true then 1 else 0) (if fbt (L 75 (8 * (c / 2) + i)) 4 = true ∧ 1 < k then k else 0) := fun nb u => by
    unfold sX5_moveAlong_75 sX5_moveAlong_111 at u
    rw [prb_f.mpr nb]
    replace u := bp_e rfl u
    replace u := ce_e w4 u
    replace u := ce_e pc.1 u
    replace u := gg_e u
    rw [c4] at u
    replace u := bp_e rfl u
    have on := ps.1 t ht
    have hm := (HM t ht).1
    have r := k129 (kd := (0 : Int32)) (ta' := tkV M p0 t false) (Or.inl rfl) (by
      unfold tkV
      rw [if_neg (by decide)]
      by_cases y : 0 < M t
      · rw [if_pos y, (mno_lt (L := L) y ((HM t ht).2 y).2).2]
        exact Or.inr ⟨by omega, by have := m2 t ht y; omega, by rw [on]⟩
      · rw [if_neg y]
        exact Or.inl ⟨by omega, rfl⟩) u
    exact r
  unfold sX5_moveAlong_74 at e
  rcases br_s e with ⟨q, e⟩ | ⟨q, e⟩
  · refine k75n (fun z => ?_) e
    have := z.2.1
    rw [fb5.mp q] at this
    exact absurd this (by decide)
  have f5 : fbt (L 75 (8 * (c / 2) + i)) 5 = true := by
    cases y : fbt (L 75 (8 * (c / 2) + i)) 5 with
    | true => rfl
    | false => exact absurd (fb5.mpr y) q
  replace e := ce_e w4 e
  rcases br_s e with ⟨d, e⟩ | ⟨d, e⟩
  · refine k75n (fun z => ?_) e
    have b0 := congrArg (fun y => bitJ y 0) (cmp_eq d)
    try dsimp only at b0
    have one : bitJ (1 : Int64) 0 = true := by decide
    rw [bj_and, ush_bit i4, c4, bj_zero, one, Bool.and_true, (bov t ht).mpr z.2.2] at b0
    exact absurd b0 (by decide)
  · have b := bit_set i4 d
    rw [c4] at b
    have yb : ByT L ov true (8 * (c / 2) + i) t := ⟨rfl, f5, (bov t ht).mp b⟩
    obtain ⟨p64, mp, n, q', pw, n0, q0⟩ := rp yb
    rw [prb_e.mpr yb]
    unfold sX5_moveAlong_75 sX5_moveAlong_111 at e
    replace e := bn_e (by decide) e
    replace e := ce_e w4 e
    replace e := ce_e pc.1 e
    replace e := ce_e w4 e
    replace e := cl_s e; obtain ⟨o8, eo8, e⟩ := e
    obtain ⟨r1, r2⟩ := psq_q eo8 pw (by decide) (by rw [z0]; omega)
    have n00 : (0 : Int32).toNatClampNeg = 0 := rfl
    rw [n00, q0] at r2
    rw [r1] at e
    have c8 : o8.1.toNatClampNeg = p0 := by have := nc_i (x := o8.1) (by omega); omega
    replace e := gg_e e
    rw [c8] at e
    replace e := bn_e (by decide) e
    have on := ps.1 p0 p64
    have r := k129 (kd := (1 : Int32)) (ta' := tkV M p0 t true) (Or.inr rfl) (by
      unfold tkV
      rw [if_pos rfl, (mno_lt (L := L) mp ((HM p0 p64).2 mp).2).2]
      exact Or.inr ⟨by omega, by have := m2 p0 p64 mp; omega, by rw [on]⟩) e
    exact r
end
