/-! both sides behind their constructors -/
theorem pay_ex {f n p q x0 : Nat} {h : Hp} : Pay f n p q (h.1.1 + p * n, h.1.2 + q * n) x0 h := fun r _ => ⟨Nat.add_le_add_left (Nat.mul_le_mul_left _ (nu_le h r n)) _, Nat.add_le_add_left (Nat.mul_le_mul_left _ (nu_le h r n)) _⟩
theorem s_both {n : Nat} {c : Cm} {o : Hp} (C : ClS n c o) : ∃ v, sX15_init 2000000 (nC o 15 0 71) (n + 513) = some v ∧ SI n (n + 513) (n + 42600, 6142800) v := by
  obtain ⟨T, r0, I, o1, tp, cp, tz, cm, lv⟩ := C
  obtain ⟨q, e, hr⟩ := okQ_e evB
  have hq := evB2
  rw [e] at hq
  have hq' : (ckT rtB 97 q && ckB2 q) = true := hq
  rw [Bool.and_eq_true] at hq'
  obtain ⟨hT, h2⟩ := hq'
  unfold ckB2 at h2
  simp only [Bool.and_eq_true] at h2
  obtain ⟨n14, n33, n37, n40, z15, z41⟩ := h2
  have os : o.1.1 = n + 513 := congrArg Prod.fst o1
  have oL : o.1.2 = 522076 := congrArg Prod.snd o1
  have e0 : nC o 15 0 71 = rel o (qq0 15 71) := by
    have := l_nC o ((0, 0), []) 15 0 71
    rw [← top_rel tp] at this
    exact this
  have e1 := e_X15_init (u := o) (F := 2000000) (h := qq0 15 71) (x0 := 0)
  rw [e] at e1
  have e2 : sX15_init 2000000 (nC o 15 0 71) o.1.1 = some (rel o q) := by rw [e0]; exact e1
  have T1 := adj (t := rtB) (S := 97) (q := q) (th_in (rfSf false false) T) hT (fun _ a z => by
    have y := rolB a
    rw [z] at y
    exact absurd y (by decide)) cm (fun a b h0 z => by
    have x := roA_c n a
    have y := rolB b
    rw [z] at y
    generalize roA n a = k at *
    unfold cRo at x
    unfold rRo at y
    simp at x y
    omega)
  have lt : ∀ a, roA n a ≠ 0 → a < o.1.1 := fun a ha => by rw [T.1.1]; exact T.2.1.2.2.1 a ha
  have X : Ext (roA n) (cat c (rfSf false false) o) (roJ (roA n) rtB 97 o.1.1) ((rel o q).1, ((cat c (rfSf false false) o).2.1, (woJ (cat c (rfSf false false) o) rtB o.1.1, (cat c (rfSf false false) o).2.2.2))) := by
    refine ⟨fun a ha => ⟨if_pos (lt a ha), if_pos (lt a ha)⟩, rfl, rfl, ?_, fun a l => if_pos ?_⟩
    · show c.1.1 ≤ o.1.1 + q.1.1
      rw [T.1.1]; omega
    · have l : a < c.1.1 := l
      rw [T.1.1]; exact l
  obtain ⟨I1, t1, r1⟩ := x_cls T X T1 r0 I
  have f := ex_f T X T1
  have rm : roJ (roA n) rtB 97 o.1.1 o.1.1 = 16 := by
    have z : roJ (roA n) rtB 97 o.1.1 (o.1.1 + 0) = ro rtB 97 0 := roJ_n
    exact z.trans (by decide +kernel)
  have R : ∀ a i, hR (rel o q) (o.1.1 + a) i = (cR q a i).map (o.1.1 + ·) := fun a i => l_R o q a i
  have R0 : ∀ i, hR (rel o q) o.1.1 i = (cR q 0 i).map (o.1.1 + ·) := fun i => R 0 i
  have Ia : ∀ a i, hI (rel o q) (o.1.1 + a) i = cI q a i := fun a i => l_I o q a i
  have I0 : ∀ {i : Nat} {k : Int32}, (0, i, k) ∈ iB → hI (rel o q) o.1.1 i = k := fun {i k} hm => (Ia 0 i).trans (ckI_e (ckB_I hr) hm)
  have v1 : (rel o q).1 = (o.1.1 + 97, o.1.2 + 1023333) := by
    show (o.1.1 + q.1.1, o.1.2 + q.1.2) = _
    rw [ckB_1 hr]
  have nr : ∀ {f : Nat}, nnR q 0 f = true → ∀ {r : Nat}, hR (rel o q) o.1.1 f = some r → ∀ i, hR (rel o q) r i = none := fun {f} hf {r} er i => by
    obtain ⟨b, eb, z⟩ := nn_e hf
    rw [R0, eb] at er
    rw [← Option.some.inj er]
    show hR (rel o q) (o.1.1 + b) i = none
    rw [R, z]; rfl
  have zr : ∀ {f : Nat}, zzI q 0 f = true → ∀ {r : Nat}, hR (rel o q) o.1.1 f = some r → ∀ i, hI (rel o q) r i = 0 := fun {f} hf {r} er i => by
    obtain ⟨b, eb, z⟩ := zz_e hf
    rw [R0, eb] at er
    rw [← Option.some.inj er]
    show hI (rel o q) (o.1.1 + b) i = 0
    rw [Ia, z]
  have i11 := I0 (i := 11) (k := 8) (by decide)
  have i12 := I0 (i := 12) (k := 8) (by decide)
  have i13 := I0 (i := 13) (k := 64) (by decide)
  have i44 := I0 (i := 44) (k := 0) (by decide)
  have i50 := I0 (i := 50) (k := 0) (by decide)
  have i65 := I0 (i := 65) (k := 0) (by decide)
  have i1 := I0 (i := 1) (k := 0) (by decide)
  -- the laws
  have xb : XB n o.1.1 (rel o q) := by
    obtain ⟨qa, eqa, la, lj, lR, l2⟩ := lv
    obtain ⟨qa', ea', wa⟩ := okQ_e evWA
    have y : qa' = qa := Option.some.inj (ea'.symm.trans eqa)
    rw [y, Bool.and_eq_true, Bool.and_eq_true] at wa
    obtain ⟨qb', eb', w⟩ := okQ_e evWB
    have y' : qb' = q := Option.some.inj (eb'.symm.trans e)
    rw [y', Bool.and_eq_true, Bool.and_eq_true, Bool.and_eq_true, Bool.and_eq_true, Bool.and_eq_true, Bool.and_eq_true] at w
    obtain ⟨fa, ja, w1⟩ := wa
    obtain ⟨fb, jb, w2, w3, w4, w5, w6⟩ := w
    have w5 : cI q 0 11 = 8 := of_decide_eq_true w5
    have w6 : cI q 0 12 = 8 := of_decide_eq_true w6
    have ja : cJ qa 5 13 = 0 := of_decide_eq_true ja
    have jb : cJ q 13 21 = 0 := of_decide_eq_true jb
    have FA : ∀ k : Nat, 5 ≤ k → k ≤ 10 → ∀ i, cI qa k i = frA k i := fun k k5 k10 => ckF_e (List.all_eq_true.mp fa k (by
      have : k = 5 ∨ k = 6 ∨ k = 7 ∨ k = 8 ∨ k = 9 ∨ k = 10 := by omega
      rcases this with z | z | z | z | z | z <;> (rw [z]; decide))) (frA_z k)
    have FB : ∀ k : Nat, 13 ≤ k → k ≤ 22 → ∀ i, cI q k i = frB k i := fun k k5 k10 => ckF_e (List.all_eq_true.mp fb k (by
      have : k = 13 ∨ k = 14 ∨ k = 15 ∨ k = 16 ∨ k = 17 ∨ k = 18 ∨ k = 19 ∨ k = 20 ∨ k = 21 ∨ k = 22 := by omega
      rcases this with z | z | z | z | z | z | z | z | z | z <;> (rw [z]; decide))) (frB_z k)
    have lk : ∀ x, lwK (roA n x) = true → ∀ i, hI (rel o q) x i = hI o x i ∧ hJ (rel o q) x i = hJ o x i ∧ hR (rel o q) x i = hR o x i := lk_f f (fun k w i z => rf_lw z)
    have zk : ∀ k : Nat, 5 ≤ k → k ≤ 10 → lwK (roA n (n + k)) = true := fun k k5 k10 => by
      rw [roA_n]
      have : k = 5 ∨ k = 6 ∨ k = 7 ∨ k = 8 ∨ k = 9 ∨ k = 10 := by omega
      rcases this with z | z | z | z | z | z <;> (rw [z]; decide +kernel)
    have RA : ∀ {i b : Nat}, (5, i, b) ∈ rlA → hR (rel o q) (n + 5) i = some (n + b) := fun {i b} hm => by
      rw [(lk (n + 5) (zk 5 (by decide) (by decide)) i).2.2, lR, ckR_e w1 hm]; rfl
    have RB : ∀ {a i b : Nat}, (a, i, b) ∈ rlB → hR (rel o q) (o.1.1 + a) i = some (o.1.1 + b) := fun {a i b} hm => by
      rw [R, ckR_e w2 hm]; rfl
    have n2 : hR (rel o q) n 2 = some (n + 5) := by rw [(fr_RI f r0 (by decide) (fun _ => rfl)).2.2]; exact l2
    refine ⟨fun L lw e1 e2 => ?_, fun l4 l5 e1 e2 => ?_, fun lw e1 => by
      rw [r_eq (RB (a := 0) (i := 4) (b := 13) (by decide)) e1]
      exact ⟨((Ia 0 11).trans w5).trans ((Ia 13 0).trans (FB 13 (by decide) (by decide) 0)).symm, ((Ia 0 12).trans w6).trans ((Ia 13 1).trans (FB 13 (by decide) (by decide) 1)).symm⟩⟩
    · rw [r_eq n2 e1, r_eq (RB (a := 0) (i := 4) (b := 13) (by decide)) e2]
      refine ⟨zmk [(2, n + 5), (27, n + 6), (28, n + 7), (29, n + 8), (30, n + 9), (31, n + 10), (15, o.1.1 + 13), (73, o.1.1 + 14), (74, o.1.1 + 15), (75, o.1.1 + 16), (76, o.1.1 + 17), (77, o.1.1 + 18), (78, o.1.1 + 19), (79, o.1.1 + 20), (80, o.1.1 + 21), (81, o.1.1 + 22)], ⟨⟨rfl, RA (by decide), RA (by decide), RA (by decide), RA (by decide), RA (by decide)⟩, ⟨rfl, RB (by decide), RB (by decide), RB (by decide), RB (by decide), RB (by decide), RB (by decide), RB (by decide), RB (by decide), RB (by decide)⟩, rfl, rfl, rfl⟩, ?_⟩
      exact ckW_e (n := n) (m := o.1.1) ckW0 (fun k hk i => by rw [(lk (n + k) (zk k (by omega) (by omega)) i).1, la k (by omega) (by omega) i]; exact FA k (by omega) (by omega) i) (fun k k1 k2 i => (Ia k i).trans (FB k k1 k2 i)) (by rw [(lk (n + 5) (zk 5 (by decide) (by decide)) 13).2.1, lj, ja]; exact (jb.symm.trans (l_J o q 13 21).symm)) rfl rfl rfl rfl rfl rfl rfl rfl rfl rfl rfl rfl rfl rfl rfl rfl rfl
    · rw [r_eq (RB (a := 0) (i := 4) (b := 13) (by decide)) e1, r_eq (RB (a := 0) (i := 5) (b := 3) (by decide)) e2]
      refine ⟨by omega, fun i r er er' => ?_⟩
      rw [R] at er er'
      have p1 : ∀ x, cR q 13 i = some x → 14 ≤ x ∧ x ≤ 22 := fun x ex => by
        have := List.all_eq_true.mp w3 _ (lkR_e _ i x ex)
        exact of_decide_eq_true this
      have p2 : ∀ x, cR q 3 i = some x → 4 ≤ x ∧ x ≤ 12 := fun x ex => by
        have := List.all_eq_true.mp w4 _ (lkR_e _ i x ex)
        exact of_decide_eq_true this
      cases h1 : cR q 13 i with
      | none => rw [h1] at er; exact nomatch er
      | some x =>
        cases h2 : cR q 3 i with
        | none => rw [h2] at er'; exact nomatch er'
        | some y =>
          rw [h1] at er
          rw [h2] at er'
          have z1 : o.1.1 + x = r := Option.some.inj er
          have z2 : o.1.1 + y = r := Option.some.inj er'
          have := p1 x h1
          have := p2 y h2
          omega
  generalize hv : rel o q = v at *
  have z0 : (0 : Int32).toInt = 0 := rfl
  have P : RfI o.1.1 v := by
    refine ⟨?_, ⟨_, fun r s er es i hi nz => ?_, fun r er i j a b nij ea => ?_, pay_ex⟩, ⟨_, fun i b G => ?_, pay_ex⟩, fun rb rl eb el d b ed => ?_, fun nz => ?_, ⟨_, fun r er i hi => ?_, fun k hk => ?_, ⟨fun k b G => ?_, pay_ex⟩, fun r er k hk => ?_⟩, fun nz => ?_, fun r er i _ => nr n37 er i⟩
    · show (hI v o.1.1 13).toInt = (hI v o.1.1 11).toInt * (hI v o.1.1 12).toInt
      rw [i11, i12, i13]; rfl
    · exact absurd (by rw [zr z15 es i]; decide) nz
    · rw [nr n14 er i] at ea; exact nomatch ea
    · obtain ⟨r, er, eb⟩ := G
      rw [nr n37 er i] at eb; exact nomatch eb
    · rw [nr n33 eb d] at ed; exact nomatch ed
    · exact absurd (by rw [i65]; decide) nz
    · rw [i44, z0] at hi; omega
    · rw [i44, z0] at hk; omega
    · obtain ⟨r, er, eb⟩ := G
      rw [nr n40 er k] at eb; exact nomatch eb
    · rw [zr z41 er]; decide
    · exact absurd i50 nz
  obtain ⟨kp, hp⟩ := dp_i T1 r1
  obtain ⟨ke, hk⟩ := dq_i T1 r1
  obtain ⟨na, ha⟩ := da_i T1 rm
  obtain ⟨nd, hd⟩ := dd_i T1 rm
  obtain ⟨ng, hg⟩ := dg_i T1 rm
  obtain ⟨nf, hf⟩ := df_i T1 rm
  have b1 : kp ≤ 2408 := by obtain ⟨r, _, y⟩ := hp; rw [← y]; exact nu_le _ _ _
  have b2 : ke ≤ 1 := by obtain ⟨_, a, _, _, y⟩ := hk; rw [← y]; split <;> omega
  have b3 : na ≤ 60 := by obtain ⟨r, _, y⟩ := ha; rw [← y]; exact nu_le _ _ _
  have b4 : nd ≤ 10 := by obtain ⟨r, _, y⟩ := hd; rw [← y]; exact nu_le _ _ _
  have b5 : ng ≤ 2408 := by obtain ⟨r, _, y⟩ := hg; rw [← y]; exact nu_le _ _ _
  have b6 : nf ≤ 3000 := by obtain ⟨r, _, y⟩ := hf; rw [← y]; exact nu_le _ _ _
  have b7 : d52 o.1.1 v ≤ 1 := by unfold d52; split <;> omega
  have w1 : v.1.1 = n + 610 := by rw [v1]; show o.1.1 + 97 = _; omega
  have w2 : v.1.2 = 1545409 := by rw [v1]; show o.1.2 + 1023333 = _; omega
  rw [← os]
  refine ⟨v, e2, _, _, T1, r1, rm, I1, P, ⟨kp, ke, na, nd, ng, nf, hp, hk, ha, hd, hg, hf, cap_f T r0 f (fun _ => rfl) (fun _ => rfl) cp, ?_, ?_⟩, fun t et => ?_, fun _ _ _ _ _ _ i hi => ?_, xb⟩
  · show _ ≤ n + 42600
    omega
  · show _ ≤ 6142800
    omega
  · obtain ⟨t0, et0, _⟩ := thR T r0 (i := 0) (k2 := 10) rfl (by decide)
    obtain ⟨x1, x2⟩ := t1 t0 et0
    rw [r_eq x1 et, x2, tz t0 et0, i1]
  · have i1' : hI v o.1.1 1 = 0 := i1
    have z0 : (0 : Int32).toInt = 0 := rfl
    rw [i1', z0] at hi
    omega
