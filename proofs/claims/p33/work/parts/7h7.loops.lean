/-! all SETS that come of one, side by side -/
/-- the laws, as far as SETS ask for them -/
def LBk (x L bm bc m R Bc Bm : Nat) (hc hr : Hp) : Prop := (hR hc x 0 = some L ∧ hR hc L 17 = some bm ∧ hR hc L 18 = some bc) ∧ (hR hr m 4 = some R ∧ hR hr R 13 = some Bc ∧ hR hr R 14 = some Bm) ∧ hI hc L 4 = hI hr R 10 ∧ (∀ q : Nat, q < 12 → (hI hc L 4).toInt = (q : Int) → hI hr Bm q = 0) ∧ ∀ i : Nat, i < 12 → hI hc bc i = hI hr Bm i ∧ Rg 0 6 (hI hc bc i) ∧ ∀ j : Nat, (j : Int) < (hI hc bc i).toInt → hI hc bm (6 * i + j) = hI hr Bc (6 * i + j) ∧ Rg 0 11 (hI hr Bc (6 * i + j))
def LBn (ρ : Nat → Nat) (x ks L bm bc R Bc Bm : Nat) : Prop := (¬ L = ks ∧ ¬ bm = ks ∧ ¬ bc = ks ∧ ¬ bm = x ∧ ¬ bc = x) ∧ ρ R = 15 ∧ ρ Bc = 80 ∧ ρ Bm = 81
def CXs (ρ : Nat → Nat) (c : Cm) (x ks pw L bm bc m rm re rb rk rs ro R Bc Bm : Nat) (hc hr : Hp) : Prop := SlR ρ m rm re rb rk rs ro hr ∧ TH ρ c hr ∧ SE m hr ∧ CE x ks pw hc ∧ JS x ks pw m rm re rk rs hc hr ∧ LBk x L bm bc m R Bc Bm hc hr
section
variable {ρ : Nat → Nat} {c : Cm} {x ks pw L bm bc m rm re rb rk rs ro R Bc Bm F : Nat} {hc hr oc : Hp} {o' : Int32 × Hp} {row : Nat → Int32} {x1 x2 n key : Int32}
theorem js_jo {g : Hp} (Q : SlR ρ m rm re rb rk rs ro hr) (jo : Jo ro hr g) (J : JS x ks pw m rm re rk rs hc hr) : JS x ks pw m rm re rk rs hc g := by
  obtain ⟨⟨q0, qm, qe, qb, qk, qs, qo⟩, _⟩ := Q
  have a1 : ∀ i, hI g rm i = hI hr rm i := fun i => jo.2.2.2 rm i (fun z => by rw [z, qo] at qm; exact absurd qm (by decide))
  have a2 : ∀ i, hI g re i = hI hr re i := fun i => jo.2.2.2 re i (fun z => by rw [z, qo] at qe; exact absurd qe (by decide))
  have a3 : ∀ i, hI g m i = hI hr m i := fun i => jo.2.2.2 m i (fun z => by rw [z, qo] at q0; exact absurd q0 (by decide))
  have a4 : ∀ i, hI g rk i = hI hr rk i := fun i => jo.2.2.2 rk i (fun z => by rw [z, qo] at qk; exact absurd qk (by decide))
  have a5 : ∀ i, hI g rs i = hI hr rs i := fun i => jo.2.2.2 rs i (fun z => by rw [z, qo] at qs; exact absurd qs (by decide))
  obtain ⟨j1, j2, j3, j4, j5, j6⟩ := J
  refine ⟨by rw [a3]; exact j1, by rw [jo.2.2.1]; exact j2, fun k hk => ?_, j4, fun i hi => by rw [a3]; exact j5 i hi, ?_⟩
  · obtain ⟨b1, b2⟩ := j3 k hk
    simp only [a1, a2]
    refine ⟨b1, ?_⟩
    obtain ⟨M, B1, B2, B3⟩ := b2
    exact ⟨M, fun m' hm => by rw [a5]; exact B1 m' hm, by rw [a5]; exact B2, by rw [a4]; exact B3⟩
  · simp only [a1, a3]; exact j6
theorem rf_jo {g : Hp} (Q : SlR ρ m rm re rb rk rs ro hr) (jo : Jo ro hr g) : RF ρ m rm re hr g := by
  obtain ⟨⟨q0, qm, qe, qb, qk, qs, qo⟩, _⟩ := Q
  have n1 : ¬ rm = ro := fun z => by rw [z, qo] at qm; exact absurd qm (by decide)
  have n2 : ¬ re = ro := fun z => by rw [z, qo] at qe; exact absurd qe (by decide)
  have n3 : ¬ m = ro := fun z => by rw [z, qo] at q0; exact absurd q0 (by decide)
  exact ⟨jo.1, jo.2.1, fun a i _ a2 _ => jo.2.2.2 a i (fun z => a2 (by rw [z, qo]; decide)), by rw [jo.2.2.2 m 49 n3]; exact Int.le_refl _, fun k _ => ⟨jo.2.2.2 rm k n1, fun i _ => jo.2.2.2 re _ n2⟩⟩
theorem lb_f {g g' : Hp} (N : LBn ρ x ks L bm bc R Bc Bm) (q0 : ρ m = 16) (A : CFs x ks hc g) (B : RF ρ m rm re hr g') (K : LBk x L bm bc m R Bc Bm hc hr) : LBk x L bm bc m R Bc Bm g g' := by
  obtain ⟨⟨n1, n2, n3, n4, n5⟩, qR, qc, qb⟩ := N
  obtain ⟨⟨e1, e2, e3⟩, ⟨f1, f2, f3⟩, k1, k2, k3⟩ := K
  have cL : hI g L 4 = hI hc L 4 := A.2.1 L 4 (fun z => absurd z.2 (by decide)) n1
  have cb : ∀ i, hI g bc i = hI hc bc i := fun i => A.2.1 bc i (fun z => n5 z.1) n3
  have cm : ∀ i, hI g bm i = hI hc bm i := fun i => A.2.1 bm i (fun z => n4 z.1) n2
  have nm : ∀ {a : Nat}, ρ a = 15 ∨ ρ a = 80 ∨ ρ a = 81 → ¬ a = m := fun {a} h z => by rw [z, q0] at h; exact absurd h (by decide)
  have rR : hI g' R 10 = hI hr R 10 := B.2.2.1 R 10 (by rw [qR]; decide) (by rw [qR]; decide) (fun z => nm (Or.inl qR) z.1)
  have rc : ∀ i, hI g' Bc i = hI hr Bc i := fun i => B.2.2.1 Bc i (by rw [qc]; decide) (by rw [qc]; decide) (fun z => nm (Or.inr (Or.inl qc)) z.1)
  have rb' : ∀ i, hI g' Bm i = hI hr Bm i := fun i => B.2.2.1 Bm i (by rw [qb]; decide) (by rw [qb]; decide) (fun z => nm (Or.inr (Or.inr qb)) z.1)
  refine ⟨⟨by rw [A.1]; exact e1, by rw [A.1]; exact e2, by rw [A.1]; exact e3⟩, ⟨by rw [B.1]; exact f1, by rw [B.1]; exact f2, by rw [B.1]; exact f3⟩, by rw [cL, rR]; exact k1, fun q hq z => by rw [cL] at z; rw [rb']; exact k2 q hq z, fun i hi => ?_⟩
  obtain ⟨a1, a2, a3⟩ := k3 i hi
  refine ⟨by rw [cb, rb']; exact a1, by rw [cb]; exact a2, fun j hj => ?_⟩
  rw [cb] at hj
  rw [cm, rc]; exact a3 j hj
theorem cx_f {g : Hp} {q : Hp} (N : LBn ρ x ks L bm bc R Bc Bm) (X : CXs ρ c x ks pw L bm bc m rm re rb rk rs ro R Bc Bm hc hr) (A : CFs x ks hc g) (B : RF ρ m rm re hr q) (T : TH ρ c q) (P : SE m q) (J : JS x ks pw m rm re rk rs g q) : CXs ρ c x ks pw L bm bc m rm re rb rk rs ro R Bc Bm g q :=
  ⟨slr_r X.1 B.1, T, P, ce_f X.2.2.2.1 A, J, lb_f N X.1.1.1 A B X.2.2.2.2.2⟩
/-- the set at hand -/
def RowA (rm re m : Nat) (x1 n : Int32) (row : Nat → Int32) (hr : Hp) : Prop := hI hr rm x1.toNatClampNeg = n ∧ (∀ p, p < 5 → hI hr re (5 * x1.toNatClampNeg + p) = row p) ∧ x1.toInt < (hI hr m 49).toInt
theorem ra_f {q : Hp} (a1 : 0 ≤ x1.toInt) (B : RF ρ m rm re hr q) (A : RowA rm re m x1 n row hr) : RowA rm re m x1 n row q := by
  have c1 := clamp_i a1
  obtain ⟨y1, y2⟩ := B.2.2.2.2 x1.toNatClampNeg (by have := A.2.2; omega)
  exact ⟨by rw [y1]; exact A.1, fun p hp => by rw [y2 p hp]; exact A.2.1 p hp, by have := A.2.2; have := B.2.2.2.1; omega⟩
/-- a value's man and side -/
theorem man_v {v : Int32} (iv : Rg 1 24 v) : (v - (1 : Int32)).toInt = v.toInt - 1 ∧ Rg 0 11 ((v - (1 : Int32)) >>> ((1 : Int32) &&& 31)) ∧ Rg 0 1 ((v - (1 : Int32)) &&& (1 : Int32)) := by
  have z1 : (1 : Int32).toInt = 1 := rfl
  have v1 := iv.1
  have v2 := iv.2
  have s : (v - (1 : Int32)).toInt = v.toInt - 1 := by rw [ts (by rw [z1]; omega), z1]
  have d := shr_i (x := v - (1 : Int32)) (s := (1 : Int32)) 1 rfl
  have p : ((2 ^ 1 : Nat) : Int) = 2 := rfl
  rw [s, p] at d
  exact ⟨s, ⟨by rw [d]; omega, by rw [d]; omega⟩, rg_and (c := 1) (d := 1) (rg_b rfl) (by decide)⟩
/-- what it becomes -/
theorem bec_p {k2c : Hp → Nat → Int32 → Int32 → Option Hp} {k2r : Hp → Nat → Int32 → Option (Int32 × Hp)} {k12 : Hp → Nat → Int32 → Int32 → Option (Int32 × Hp)} {v rest : Int32} (hF : 700000 ≤ F) (hA : pmA c seL) (N : LBn ρ x ks L bm bc R Bc Bm) (i1 : Rg 0 4095 x1) (a2 : 0 ≤ x2.toInt) (l2 : x2.toInt < n.toInt) (Kk : Kq key n.toNatClampNeg row) (ev : v = row x2.toNatClampNeg) (Kr : Kq rest (n.toNatClampNeg - 1) (sk row x2.toNatClampNeg)) : ∀ (f g : Nat) {hc hr : Hp} {j : Int32}, CXs ρ c x ks pw L bm bc m rm re rb rk rs ro R Bc Bm hc hr → RowA rm re m x1 n row hr → 0 ≤ j.toInt → j.toInt ≤ 6 → sX0_addSetsOf_52 F k2c f hc x key x2 (v - (1 : Int32)) ((v - (1 : Int32)) >>> ((1 : Int32) &&& 31)) rest j = some oc → sX15_addAll_61 F k2r k12 g hr m x1 x2 v j = some o' → ∃ hc2, CFs x ks hc hc2 ∧ CE x ks pw hc2 ∧ ((∃ (f2 : Nat) (j2 : Int32), o'.1 = 0 ∧ (0 ≤ j2.toInt ∧ j2.toInt ≤ 6) ∧ 600000 < (hJ hc2 x 18).toInt ∧ (hJ hc2 x 18).toInt ≤ 600000 + 2147483648 ∧ sX0_addSetsOf_52 F k2c f2 hc2 x key x2 (v - (1 : Int32)) ((v - (1 : Int32)) >>> ((1 : Int32) &&& 31)) rest j2 = some oc) ∨ ∃ hr2, RF ρ m rm re hr hr2 ∧ CXs ρ c x ks pw L bm bc m rm re rb rk rs ro R Bc Bm hc2 hr2 ∧ k2c hc2 x key (x2 + (1 : Int32)) = some oc ∧ k12 hr2 m x1 (x2 + (1 : Int32)) = some o') := by
  have z1 : (1 : Int32).toInt = 1 := rfl
  have z2 : (2 : Int32).toInt = 2 := rfl
  have z6 : (6 : Int32).toInt = 6 := rfl
  have c2 := clamp_i a2
  have n5 := Kk.1
  have i11 := i1.1
  have nn : (n.toNatClampNeg : Int) = n.toInt := nc_i (by omega)
  have vr := Kk.2.2.1 x2.toNatClampNeg (by omega)
  rw [← ev] at vr
  obtain ⟨s1, mr, sr⟩ := man_v (v := v) vr
  have mr0 := mr.1
  have mr1 := mr.2
  have sr0 := sr.1
  have sr1 := sr.2
  generalize hman : (v - (1 : Int32)) >>> ((1 : Int32) &&& 31) = man at *
  generalize hcode : v - (1 : Int32) = code at *
  generalize hside : code &&& (1 : Int32) = side at *
  have cman := clamp_i mr0
  intro f
  induction f with
  | zero => intro g hc hr j _ _ _ _ e; exact absurd e (by rw [sX0_addSetsOf_52]; exact fun z => nomatch z)
  | succ f ih =>
    intro g hc hr j X A j0 j6 e e'
    cases g with
    | zero => exact absurd e' (by rw [sX15_addAll_61]; exact fun z => nomatch z)
    | succ g =>
      obtain ⟨Q, T, P, E, J, K⟩ := id X
      obtain ⟨⟨e1, e17, e18⟩, ⟨f4, f13, f14⟩, kroy, k0, k3⟩ := id K
      obtain ⟨ct1, ct2, ct3⟩ := k3 man.toNatClampNeg (by omega)
      rw [sX0_addSetsOf_52] at e
      unfold sX0_addSetsOf_104 at e
      rw [sX15_addAll_61] at e'
      replace e := cl_s e; obtain ⟨r1, p, e⟩ := e
      rw [r_eq e1 p] at e
      replace e := cl_s e; obtain ⟨r2, p, e⟩ := e
      rw [r_eq e18 p] at e
      replace e := (gd_s e).2
      replace e' := cl_s e'; obtain ⟨r1', p, e'⟩ := e'
      rw [r_eq f4 p] at e'
      replace e' := cl_s e'; obtain ⟨r2', p, e'⟩ := e'
      rw [r_eq f14 p] at e'
      replace e' := cl_s e'; obtain ⟨o3, e3, e'⟩ := e'
      unfold sX15_manOf at e3
      rw [hcode, hman] at e3
      have y3 := Option.some.inj e3
      rw [← y3] at e'
      dsimp only at e'
      replace e' := (gd_s e').2
      rw [← ct1] at e'
      replace e := br_s e
      replace e' := br_s e'
      rcases e with ⟨l, e⟩ | ⟨l, e⟩
      · rcases e' with ⟨_, e'⟩ | ⟨l', _⟩
        rotate_left
        · exact absurd l l'
        replace e := nm_s e
        obtain ⟨w, ww, e⟩ := e
        replace e' := nm_s e'
        obtain ⟨w', ww', e'⟩ := e'
        rw [ww] at e
        rw [ww'] at e'
        exact ⟨hc, cfs_0, E, Or.inr ⟨hr, rf_0, X, e, e'⟩⟩
      rcases e' with ⟨l', _⟩ | ⟨_, e'⟩
      · exact absurd l' l
      have l := nle_i l
      have ct6 := ct2.2
      have jn := clamp_i j0
      -- the class's new key
      replace e := cl_s e; obtain ⟨r5, p, e⟩ := e
      rw [r_eq e1 p] at e
      replace e := cl_s e; obtain ⟨r6, p, e⟩ := e
      rw [r_eq e17 p] at e
      replace e := (gd_s e).2
      have m6 : (man * (6 : Int32)).toInt = man.toInt * 6 := by rw [tm (by rw [z6]; omega), z6]
      have ad : ((man * (6 : Int32)) + j).toInt = man.toInt * 6 + j.toInt := by rw [ta (by rw [m6]; omega), m6]
      have ic := clamp_i (v := (man * (6 : Int32)) + j) (by omega)
      have ie : ((man * (6 : Int32)) + j).toNatClampNeg = 6 * man.toNatClampNeg + j.toNatClampNeg := by omega
      have m6' : ((6 : Int32) * man).toInt = 6 * man.toInt := by rw [tm (by rw [z6]; omega), z6]
      have ad' : (((6 : Int32) * man) + j).toInt = 6 * man.toInt + j.toInt := by rw [ta (by rw [m6']; omega), m6']
      have ic' := clamp_i (v := ((6 : Int32) * man) + j) (by omega)
      have ie' : (((6 : Int32) * man) + j).toNatClampNeg = 6 * man.toNatClampNeg + j.toNatClampNeg := by omega
      obtain ⟨b1, b2⟩ := ct3 j.toNatClampNeg (by omega)
      rw [ie, b1, hside] at e
      generalize hb : hI hr Bc (6 * man.toNatClampNeg + j.toNatClampNeg) = bv at *
      have b20 := b2.1
      have b21 := b2.2
      have t2 : ((2 : Int32) * bv).toInt = 2 * bv.toInt := by rw [tm (by rw [z2]; omega), z2]
      have tw : (((2 : Int32) * bv) + side).toInt = 2 * bv.toInt + side.toInt := by rw [ta (by rw [t2]; omega), t2]
      have t3 : ((1 : Int32) + ((2 : Int32) * bv)).toInt = 1 + 2 * bv.toInt := by rw [ta (by rw [t2, z1]; omega), t2, z1]
      have tv : (((1 : Int32) + ((2 : Int32) * bv)) + side).toInt = 1 + 2 * bv.toInt + side.toInt := by rw [ta (by rw [t3]; omega), t3]
      generalize hvv : ((1 : Int32) + ((2 : Int32) * bv)) + side = vv at tv
      generalize hw0 : ((2 : Int32) * bv) + side = w0 at *
      have ivv : Rg 1 24 vv := ⟨by omega, by omega⟩
      replace e := cl_s e; obtain ⟨o8, e8, e⟩ := e
      have n4 : n.toNatClampNeg - 1 ≤ 4 := by omega
      obtain ⟨w8, pp, p4, pA, pB, pK⟩ := wi_k (pad_24 Kr.2.2.1) (by unfold pad; rw [if_neg (by omega)]) Kr.2.1 ⟨by omega, by omega⟩ e8
      rw [w8] at e
      have vw : vv.toInt = w0.toInt + 1 := by omega
      rw [← vw] at pA pB pK
      obtain ⟨Kn, Cn⟩ := kq_ins n4 Kr p4 pA pB ivv.1 ivv.2 pK
      have nn1 : n.toNatClampNeg - 1 + 1 = n.toNatClampNeg := by omega
      rw [nn1] at Kn Cn
      replace e := cl_s e; obtain ⟨o9, e9, e⟩ := e
      replace e := nm_s e
      obtain ⟨j', wj, e⟩ := e
      rw [wj] at e
      -- the reference's new row
      have ln := A.2.2
      obtain ⟨gg, o15, jo, Tg, Pg, Wg, rows, e15, alt⟩ := b81_e (F := F) (ro := ro) (x3 := v) (vv := vv) hA Q T P f4 f13 i1 ln a2 (by rw [A.1]; exact l2) (by rw [hcode, hman, hside, ie', hb]; exact hvv) ivv F T P jo_0 (by decide) (by rw [A.1]; show (0 : Int) ≤ n.toInt; omega) (fun _ _ i hi => absurd hi (by show ¬ (i : Int) < 0; omega)) (fun p hp => absurd hp (by show ¬ (p : Int) < 0; omega)) e'
      rw [A.1] at Wg rows e15
      have Cg : ∀ w, cn (ins (sk row x2.toNatClampNeg) pp vv) w n.toNatClampNeg = cn (fun i => hI gg ro i) w n.toNatClampNeg := fun w => by
        have h1 := Cn w
        have h2 := cn_sk (f := row) (k := x2.toNatClampNeg) (w := w) (n.toNatClampNeg - 1) (by omega)
        rw [nn1] at h2
        have h3 := cn_up (f := row) (k := x2.toNatClampNeg) (v := vv) (w := w) n.toNatClampNeg (by omega)
        have h4 : cn (fun i => hI gg ro i) w n.toNatClampNeg = cn (up row x2.toNatClampNeg vv) w n.toNatClampNeg := cn_eq _ (fun i hi => by
          rw [rows i (by omega)]
          unfold up
          by_cases q : i = x2.toNatClampNeg
          · rw [if_pos q, if_pos q]
          · rw [if_neg q, if_neg q]; exact A.2.1 i (by omega))
        rw [h4]
        omega
      obtain ⟨⟨T15, P15⟩, CF9, alt9⟩ := add_p hF hA (slr_r Q jo.1) Tg Pg E (js_jo Q jo J) ⟨by omega, by omega⟩ Wg Kn Cg e9 e15
      have tj : (j + (1 : Int32)).toInt = j.toInt + 1 := by rw [ta (by rw [z1]; omega), z1]
      rcases alt9 with ⟨z15, big⟩ | ⟨z15, RF15, J15⟩
      · rcases alt with ⟨_, eo'⟩ | ⟨nz, _⟩
        rotate_left
        · exact absurd z15 nz
        refine ⟨o9, CF9, ce_f E CF9, Or.inl ⟨f, j + (1 : Int32), by rw [eo'], ⟨by omega, by omega⟩, big, ?_, e⟩⟩
        -- the total grows by one SET at most
        have tb := J.2.1.2.2
        have cq := cadd_q hF E.1.1 E.1.2 E.2.1 Kn J.1.2 J.2.1.2.1 (by omega) (by
          have pv := J.2.2.2.2.1 n.toNatClampNeg n5
          have isq : Rg 9 64 (hI hr m 13) := thI T Q.1.1 (k := 16) (i := 13) rfl
          have q9 := isq.1
          have pb := pow_sq (s := (hI hr m 13).toInt) (by omega) isq.2 n.toNatClampNeg n5
          exact ⟨by rw [pv]; exact pb.1, by rw [pv]; exact pb.2⟩) e9
        have pv := J.2.2.2.2.1 n.toNatClampNeg n5
        have isq : Rg 9 64 (hI hr m 13) := thI T Q.1.1 (k := 16) (i := 13) rfl
        have q9 := isq.1
        have pb := pow_sq (s := (hI hr m 13).toInt) (by omega) isq.2 n.toNatClampNeg n5
        rcases cq with ⟨_, eo⟩ | ⟨_, Tn, eT, ⟨_, eo⟩ | ⟨⟨le6, _⟩, eo⟩⟩
        · rw [eo]; omega
        · rw [eo, r_J, if_pos ⟨rfl, rfl⟩, eT]
          unfold cT
          rw [pv]
          omega
        · rw [eo]
          show (hJ (wJ hc x 18 Tn) x 18).toInt ≤ _
          rw [r_J, if_pos ⟨rfl, rfl⟩, eT]
          omega
      · rcases alt with ⟨z, _⟩ | ⟨_, e61⟩
        · rw [z15] at z; exact absurd z (by decide)
        have RFa : RF ρ m rm re hr o15.2 := rf_t (rf_jo Q jo) RF15
        obtain ⟨hc2, A2, E2, alt2⟩ := ih g (cx_f N X CF9 RFa T15 P15 J15) (ra_f i11 RFa A) (by omega) (by omega) e e61
        refine ⟨hc2, cfs_t CF9 A2, E2, ?_⟩
        rcases alt2 with q | ⟨hr2, B2, X2, q1, q2⟩
        · exact Or.inl q
        · exact Or.inr ⟨hr2, rf_t RFa B2, X2, q1, q2⟩
end
