/-! the class: addSteps -/
section
variable {F : Nat} {V : Nat → Nat} {h o' : Hp} {L : Nat → Nat → Int} {M : Nat → Int} {o : Int32 × Hp}
theorem last_v {x1 x2 : Int32} {t : Nat} (H : LOk L) (P : CLq V h L) (r20 : hR h (V 2) 20 = some (V 33)) (e1 : x1.toInt = (t : Int)) (tL : (t : Int) < L 0 0 * L 1 0) (i2 : Rg 0 1 x2) (e : sX1_isLast h (V 2) x1 x2 = some o) : o.2 = h ∧ ((o.1 = 0 ∧ ¬ rkF L t x2.toInt = L 1 0) ∨ (o.1 = 1 ∧ rkF L t x2.toInt = L 1 0)) := by
  have z1 : (1 : Int32).toInt = 1 := rfl
  have z0 : (0 : Int32).toInt = 0 := rfl
  have ra := H.2.1
  have c1 : x1.toNatClampNeg = t := by have := nc_i (x := x1) (by omega); omega
  have ff := (P.2.2.2.2.2 t tL).2
  have d0 : 0 ≤ (t : Int) / L 0 0 := Int.ediv_nonneg (by omega) (by have := H.1; omega)
  unfold sX1_isLast sX1_isLast_20 sX1_isLast_28 at e
  replace e := ce_e r20 e
  replace e := gg_e e
  rw [c1] at e
  have tr : ((hI h (V 2) 1) - (1 : Int32)).toInt = L 1 0 - 1 := by rw [ts (by rw [P.2.1, z1]; omega), P.2.1, z1]
  unfold rkF
  rcases br_s e with ⟨q, e⟩ | ⟨q, e⟩
  · rw [if_pos (by rw [q]; rfl)]
    rcases br_s e with ⟨c, e⟩ | ⟨c, e⟩
    · rw [so_e (gg_e e)]
      have := congrArg Int32.toInt c
      rw [ff, tr] at this
      exact ⟨rfl, Or.inr ⟨rfl, by omega⟩⟩
    · rw [so_e (gg_e e)]
      exact ⟨rfl, Or.inl ⟨rfl, fun z => c (Int32.toInt_inj.mp (by rw [ff, tr]; omega))⟩⟩
  · rw [if_neg (fun z => q (Int32.toInt_inj.mp (by rw [z]; rfl)))]
    rcases br_s e with ⟨c, e⟩ | ⟨c, e⟩
    · rw [so_e (gg_e e)]
      have := congrArg Int32.toInt c
      rw [ff, z0] at this
      exact ⟨rfl, Or.inr ⟨rfl, by omega⟩⟩
    · rw [so_e (gg_e e)]
      exact ⟨rfl, Or.inl ⟨rfl, fun z => c (Int32.toInt_inj.mp (by rw [ff, z0]; omega))⟩⟩
theorem tak_v {x : Int32} {t s m b a k p : Int} (P : PkM x t s m b a k p) (e : sX5_takenBy h x = some o) : o.2 = h ∧ o.1.toInt = (if a = 15 then -1 else a) := by
  have z15 : (15 : Int32).toInt = 15 := rfl
  have fa := (pk_fd P).2.2.2.2.1
  unfold sX5_takenBy sX5_takenBy_19 at e
  replace e := nx_e e
  rcases br_s e with ⟨c, e⟩ | ⟨c, e⟩
  · rw [so_e e]
    rw [c, z15] at fa
    rw [if_pos fa.symm]
    exact ⟨rfl, show (-1 : Int32).toInt = -1 by decide⟩
  · rw [so_e e]
    rw [if_neg (fun z => c (Int32.toInt_inj.mp (by rw [fa, z, z15])))]
    exact ⟨rfl, fa⟩
/-- how many men he may become -/
theorem cho_v {x : Int32} {ov : Nat → Prop} {t m : Nat} {s b ta' k p : Int} (W : CWd V h L M ov) (H : LOk L) (tL : (t : Int) < L 0 0 * L 1 0) (m12 : m < 12) (isd : Rg 0 1 (hI h (V 4) 5)) (ita : ta' = -1 ∨ (0 ≤ ta' ∧ ta' < 15)) (P : PkM x t s m b (if ta' = -1 then 15 else ta') k p) (e : sX5_choices h (V 6) x = some o) : o.2 = h ∧ o.1.toInt = (if rkF L t (hI h (V 4) 5).toInt = L 1 0 ∧ ¬ (¬ L 18 0 = 0 ∧ ¬ ta' = -1) then L 81 m else 0) := by
  have z0 : (0 : Int32).toInt = 0 := rfl
  have zm : (-1 : Int32).toInt = -1 := by decide
  obtain ⟨⟨w0, w1, w4, w5, _⟩, wc, wt, pc, ps, ⟨cl', r20⟩, ⟨cx1, cx2, cx3, cx4⟩, bov⟩ := W
  obtain ⟨ft, _, fm, _⟩ := pk_fd P
  unfold sX5_choices sX5_choices_24 at e
  have k25 : (¬ (¬ L 18 0 = 0 ∧ ¬ ta' = -1)) → sX5_choices_25 h (V 6) x (0 : Int32) = some o → o.2 = h ∧ o.1.toInt = (if rkF L t (hI h (V 4) 5).toInt = L 1 0 ∧ ¬ (¬ L 18 0 = 0 ∧ ¬ ta' = -1) then L 81 m else 0) := fun nb u => by
    unfold sX5_choices_25 sX5_choices_66 sX5_choices_67 sX5_comeTo sX5_manOf at u
    replace u := bp_e rfl u
    replace u := ce_e w0 u
    replace u := cl_s u; obtain ⟨o3, eo3, u⟩ := u
    rw [so_e eo3] at u
    replace u := ce_e w4 u
    replace u := cl_s u; obtain ⟨o5, eo5, u⟩ := u
    obtain ⟨q1, q2⟩ := last_v H cl' r20 ft tL isd eo5
    rw [q1] at u
    rcases br_s u with ⟨c, u⟩ | ⟨c, u⟩
    · rw [so_e u]
      refine ⟨rfl, ?_⟩
      rw [if_neg (fun z => ?_)]
      · rfl
      · rcases q2 with ⟨_, y⟩ | ⟨y, _⟩
        · exact y z.1
        · rw [y] at c; exact absurd c (by decide)
    · have rk : rkF L t (hI h (V 4) 5).toInt = L 1 0 := by
        rcases q2 with ⟨y, _⟩ | ⟨_, y⟩
        · exact absurd y c
        · exact y
      replace u := ce_e w0 u
      replace u := ce_e cx4 u
      replace u := cl_s u; obtain ⟨o9, eo9, u⟩ := u
      rw [so_e eo9] at u
      replace u := gg_e u
      have cm : ((x >>> ((12 : Int32) &&& 31)) &&& (15 : Int32)).toNatClampNeg = m := by
        have := nc_i (x := (x >>> ((12 : Int32) &&& 31)) &&& (15 : Int32)) (by omega)
        omega
      dsimp only at u
      rw [cm] at u
      rw [so_e u, if_pos ⟨rk, nb⟩]
      exact ⟨rfl, (cx1 m m12).1⟩
  replace e := ce_e w0 e
  unfold sX1_has sX1_has_14 at e
  replace e := cl_s e; obtain ⟨o2, eo2, e⟩ := e
  rcases br_s eo2 with ⟨c, eo2⟩ | ⟨c, eo2⟩
  · rw [so_e (gg_e eo2)] at e
    exact k25 (fun z => z.1 (cx2.2.2.2.mp c)) (bp_e rfl e)
  · rw [so_e (gg_e eo2)] at e
    replace e := bn_e (show ¬ (1 : Int32) = 0 by decide) e
    replace e := cl_s e; obtain ⟨o4, eo4, e⟩ := e
    obtain ⟨q1, q2⟩ := tak_v P eo4
    rw [q1] at e
    have q3 : o4.1.toInt = ta' := by
      rw [q2]
      rcases ita with y | ⟨y, y'⟩
      · rw [if_pos (by rw [if_pos y]), y]
      · rw [if_neg (show ¬ ta' = -1 by omega), if_neg (show ¬ ta' = 15 by omega)]
    rcases br_s e with ⟨d, e⟩ | ⟨d, e⟩
    · exact k25 (fun z => z.2 (by rw [← q3, d, zm])) e
    · unfold sX5_choices_25 sX5_choices_66 sX5_choices_67 at e
      replace e := bn_e (by decide) e
      rw [so_e e, if_neg (fun z => z.2 ⟨fun y => c (cx2.2.2.2.mpr y), fun y => d (Int32.toInt_inj.mp (by rw [q3, y, zm]))⟩)]
      exact ⟨rfl, rfl⟩
theorem hn_w {g : Hp} {a i : Nat} {v : Int32} (b : Nat) : hN (wI g a i v) b = hN g b := rfl
theorem add_n {x : Int32} {a : Nat} (b : Nat) (e : sX5_addMove h a x = some o') : hN o' b = hN h b := by
  unfold sX5_addMove sX5_addMove_32 at e
  replace e := cl_s e; obtain ⟨_, _, e⟩ := e
  rcases br_s e with ⟨_, e⟩ | ⟨_, e⟩
  · rw [so_e e]
  · replace e := cl_s e; obtain ⟨_, _, e⟩ := e
    replace e := gg_e e
    replace e := nx_e e
    replace e := nx_e e
    rw [so_e e]
    rfl
/-- one move, or one for each man that he may become -/
theorem as_120 (D : VD V) {K : Hp → Nat → Int32 → Int32 → Int32 → Int32 → Int32 → Option Hp} {ov : Nat → Prop} {x1 x2 x3 x4 x5 x7 x8 : Int32} {s t m : Nat} {ta' kd far : Int} {ms : List MvT} (e2 : (x2 >>> ((1 : Int32) &&& 31)).toInt = (m : Int)) (m12 : m < 12) (ik : kd = 0 ∨ kd = 1) (P : PkM x7 t s m 15 (if ta' = -1 then 15 else ta') kd far) (c8 : x8.toInt = 0 ∨ (0 < x8.toInt ∧ x8.toInt = L 81 m)) : ∀ (f : Nat) {h : Hp} {x9 : Int32} {n : Nat}, x9.toInt = (n : Int) → (n : Int) ≤ x8.toInt → CWd V h L M ov → CLs V h (ms ++ (List.range n).map (fun q => ((s : Int), (t : Int), (m : Int), L 80 (6 * m + q), ta', kd, far))) → ms.length + 7 < 4096 → sX5_addSteps_120 F K f h (V 6) x1 x2 x3 x4 x5 x7 x8 x9 = some o' → ∃ g, FrV V (wl wcl) h g ∧ hN g (V 47) = hN h (V 47) ∧ CLs V g (ms ++ (if 0 < x8.toInt then (List.range (L 81 m).toNat).map (fun q => ((s : Int), (t : Int), (m : Int), L 80 (6 * m + q), ta', kd, far)) else [((s : Int), (t : Int), (m : Int), -1, ta', kd, far)])) ∧ sX5_addSteps_170 F K g (V 6) x1 x2 x3 x4 x5 = some o' := by
  have z0 : (0 : Int32).toInt = 0 := rfl
  have z1 : (1 : Int32).toInt = 1 := rfl
  have z6 : (6 : Int32).toInt = 6 := rfl
  intro f
  induction f with
  | zero => intro h x9 n _ _ _ _ _ e; exact absurd e (by rw [sX5_addSteps_120]; exact fun z => nomatch z)
  | succ f ih =>
    intro h x9 n i9 bn W R lm e
    obtain ⟨⟨w0, w1, w4, w5, w47⟩, wc, wt, pc, ps, ⟨cl', r20⟩, ⟨cx1, cx2, cx3, cx4⟩, bov⟩ := W
    have W : CWd V h L M ov := ⟨⟨w0, w1, w4, w5, w47⟩, wc, wt, pc, ps, ⟨cl', r20⟩, ⟨cx1, cx2, cx3, cx4⟩, bov⟩
    obtain ⟨b31, ⟨b0, b6⟩, b30⟩ := cx1 m m12
    rw [sX5_addSteps_120] at e
    rcases br_s e with ⟨l, e⟩ | ⟨l, e⟩
    · have l := le_i l
      have en : x8.toInt = (n : Int) := by omega
      rcases br_s e with ⟨c, e⟩ | ⟨c, e⟩
      · have n0 : n = 0 := by rw [c, z0] at en; omega
        rw [n0, List.range_zero, List.map_nil, List.append_nil] at R
        replace e := cl_s e; obtain ⟨g, eg, e⟩ := e
        obtain ⟨A, R'⟩ := add_c (v := ((s : Int), (t : Int), (m : Int), -1, ta', kd, far)) D w5 w47 R (by omega) (by
          show PkM x7 t (if kd = 3 then 0 else (s : Int)) m (if (-1 : Int) = -1 then 15 else -1) (if ta' = -1 then 15 else ta') kd (if kd = 0 ∨ kd = 1 then far else 0)
          rw [if_neg (show ¬ kd = 3 by omega), if_pos rfl, if_pos ik]
          exact P) eg
        refine ⟨g, A, add_n _ eg, ?_, e⟩
        rw [if_neg (by rw [c, z0]; omega)]
        exact R'
      · have p8 : 0 < x8.toInt := by
          rcases c8 with y | y
          · exact absurd (Int32.toInt_inj.mp (by rw [y, z0])) c
          · exact y.1
        refine ⟨h, fv_0, rfl, ?_, e⟩
        rw [if_pos p8]
        rcases c8 with y | y
        · omega
        · rw [show (L 81 m).toNat = n by omega]
          exact R
    have l := nle_i l
    have p8 : 0 < x8.toInt ∧ x8.toInt = L 81 m := by
      rcases c8 with y | y
      · omega
      · exact y
    have m6 : ((x2 >>> ((1 : Int32) &&& 31)) * (6 : Int32)).toInt = (m : Int) * 6 := by rw [tm (by rw [e2, z6]; omega), e2, z6]
    have ix : (((x2 >>> ((1 : Int32) &&& 31)) * (6 : Int32)) + x9).toNatClampNeg = 6 * m + n := by
      have a : (((x2 >>> ((1 : Int32) &&& 31)) * (6 : Int32)) + x9).toInt = (m : Int) * 6 + n := by rw [ta (by rw [m6, i9]; omega), m6, i9]
      have := nc_i (x := ((x2 >>> ((1 : Int32) &&& 31)) * (6 : Int32)) + x9) (by omega)
      omega
    replace e := ce_e w0 e
    replace e := ce_e cx3 e
    replace e := gg_e e
    rw [ix] at e
    obtain ⟨v30, v30a, v30b⟩ := b30 n (by omega)
    replace e := cl_s e; obtain ⟨o7, eo7, e⟩ := e
    obtain ⟨q1, q2⟩ := pk_become P (y := hI h (V 30) (6 * m + n)) ⟨by rw [v30]; omega, by rw [v30]; omega⟩ eo7
    rw [v30] at q2
    rw [q1] at e
    replace e := cl_s e; obtain ⟨g, eg, e⟩ := e
    obtain ⟨A, R'⟩ := add_c (v := ((s : Int), (t : Int), (m : Int), L 80 (6 * m + n), ta', kd, far)) D w5 w47 R (by
      rw [List.length_append, List.length_map, List.length_range]; omega) (by
      show PkM o7.1 t (if kd = 3 then 0 else (s : Int)) m (if L 80 (6 * m + n) = -1 then 15 else L 80 (6 * m + n)) (if ta' = -1 then 15 else ta') kd (if kd = 0 ∨ kd = 1 then far else 0)
      rw [if_neg (show ¬ kd = 3 by omega), if_neg (show ¬ L 80 (6 * m + n) = -1 by omega), if_pos ik]
      exact q2) eg
    have n47 := add_n (V 47) eg
    rw [List.append_assoc] at R'
    obtain ⟨g', r1, r2, r3, r4⟩ := ih (n := n + 1) (by rw [ta (by rw [z1]; omega), z1]; omega) (by omega) (cwd_f D W A n47) (by rw [range_s]; exact R') lm (nx_e e)
    exact ⟨g', fv_t A r1, r2.trans n47, r3, r4⟩
end
