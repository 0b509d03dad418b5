/-! beforeAt: places keep to the law -/
section
variable {ρ : Nat → Nat} {c : Cm} {h o : Hp} {x0 x1 b3 F L : Nat} {x2 y1 : Int32} {n m : Int}
theorem rlay_x {on3 wx : Nat} (hF : 700000 ≤ F) (hO : pmO c wx ppL) (w1 : cw c x1 = wx) (T : TH ρ c h) (r0 : ρ x0 = 7) (r1 : ρ x1 = 4) (n13 : ¬ x1 = b3) (gx : GMq (c.2.1 50) x2) (eb : hR h x0 3 = some b3) (eo : hR h b3 0 = some on3) (X : OnX n m on3 h) (M : MvX n m x2) (e : sX6_lay F h x0 x1 x2 = some o) : PxC ρ n m h o ∧ ∀ on1, hR h x1 0 = some on1 → OnX n m on1 o := by
  have rb : ρ b3 = 4 := rr T (thR T r0 (i := 3) (k2 := 4) rfl (by decide)) eb
  unfold sX6_lay at e
  replace e := cl_s e
  obtain ⟨b, eb', e⟩ := e
  have y : b = b3 := r_eq eb eb'
  subst y
  replace e := cl_s e
  obtain ⟨o2, e2, e⟩ := e
  have k2 := copy_x (pr_th T r1) eo X e2
  have T2 := sat_e (zX3_copyFrom (x0 := x1) (x1 := b) hF (by rw [w1]; exact pmO_s hO rfl) T r1 rb) e2
  replace e := cl_s e
  obtain ⟨o3, e3, e⟩ := e
  have Z3 := sat_e (zX6_takenIn hF T2 r0 (rg_top _) gx) e3
  rw [Z3.1] at e
  have eb2 : hR o2 x0 3 = some b := by rw [k2.1]; exact eb
  have is5 := thI T2 rb (k := 4) (i := 5) (lo := 0) (hi := 1) rfl
  have c3 : 0 ≤ o3.1.toInt → o3.1.toInt < 2 * m := by
    unfold sX6_takenIn sX6_takenIn_31 at e3
    replace e3 := nm_s e3
    obtain ⟨v, ev, e3⟩ := e3
    replace e3 := br_s e3
    rcases e3 with ⟨_, e3⟩ | ⟨nv, e3⟩
    · rw [← Option.some.inj e3]
      intro z
      exact absurd (show 0 ≤ (-1 : Int32).toInt from z) (by decide)
    · replace e3 := cl_s e3
      obtain ⟨r3, er3, e3⟩ := e3
      have y3 : r3 = b := r_eq eb2 er3
      subst y3
      rw [← Option.some.inj e3]
      intro _
      have lv : v.toInt < m := by
        rcases M.2.2.2 with q | q
        · exact absurd (by rw [ev]; exact q) nv
        · rw [ev]; exact q
      have iv : Rg 0 11 v := by
        rcases gx.1.2.1 with q | q
        · rw [ev]; exact q
        · exact absurd (by rw [ev]; exact q) nv
      have t1 := ti_mulc' iv (rg_b rfl : Rg 2 2 (2 : Int32)) (by decide)
      have i22 : Rg 0 22 ((2 : Int32) * v) := rg_mulc' (rg_b rfl : Rg 2 2 (2 : Int32)) iv (by decide)
      have t2 := ti_add i22 (rg_b rfl : Rg 1 1 (1 : Int32)) (by decide)
      have i23 : Rg 1 23 ((2 : Int32) * v + (1 : Int32)) := rg_add i22 (rg_b rfl : Rg 1 1 (1 : Int32)) (by decide)
      have z1 : (1 : Int32).toInt = 1 := rfl
      have z2 : (2 : Int32).toInt = 2 := rfl
      have := i23.1
      have := i23.2
      have := is5.1
      have := is5.2
      show (((2 : Int32) * v + (1 : Int32)) - hI o2 r3 5).toInt < 2 * m
      rw [ts (by omega)]
      omega
  replace e := cl_s e
  obtain ⟨L4, eL4, e⟩ := e
  replace e := cl_s e
  obtain ⟨o5, e5, e⟩ := e
  have k5 := put_x (n := n) (m := m) (pr_th T2 r1) (rg_m Z3.2 (by decide)) (fun z => ⟨M.2.1, c3 z⟩) e5
  replace e := cl_s e
  obtain ⟨r6, er6, e⟩ := e
  have y6 : r6 = b := by rw [k5.1.1] at er6; exact r_eq eb2 er6
  subst y6
  replace e := cl_s e
  obtain ⟨r7, er7, e⟩ := e
  replace e := cl_s e
  obtain ⟨o8, e8, e⟩ := e
  have zz := Option.some.inj e
  subst zz
  have s5 : hI o5 r6 5 = hI o2 r6 5 := k5.2 r6 rb
  have im : Rg 0 11 ((x2 >>> ((12 : Int32) &&& 31)) &&& (15 : Int32)) := gx.1.1
  have ic : Rg 0 23 (((2 : Int32) * ((x2 >>> ((12 : Int32) &&& 31)) &&& (15 : Int32))) + (hI o5 r6 5)) := rg_add (rg_mulc' (rg_b rfl : Rg 2 2 (2 : Int32)) im (by decide) : Rg 0 22 _) (by rw [s5]; exact is5) (by decide)
  have lc : (((2 : Int32) * ((x2 >>> ((12 : Int32) &&& 31)) &&& (15 : Int32))) + (hI o5 r6 5)).toInt < 2 * m := (code_x (rg_m im (by decide)) (by rw [s5]; exact is5) M.2.2.1).2
  have k8 := put_x (n := n) (m := m) (pr_k k5.1.1 (pr_th T2 r1)) (rg_m ic (by decide)) (fun _ => ⟨M.1, lc⟩) e8
  refine ⟨px_t (px_t k2 k5.1) k8.1, fun on1 e1 => ?_⟩
  have q1 := th_on T r1 e1
  exact on_k q1 (px_t k5.1 k8.1) (copy_on (pr_th T r1) eo e1 X e2)
theorem beforeAt_x (hF : 700000 ≤ F) (hp : ∀ k w i, SZ e58 (is 3200) k w i = true → cPm c k w i = true) (T : TH ρ c h) (r0 : ρ x0 = 12) (pl : PlP ρ c x0 h) (px : PlX ρ c x0 h) (re : ReX ρ c x0 h) : Sat (sX11_beforeAt F h x0 y1) (fun o => TH ρ c o.2 ∧ PlP ρ c x0 o.2 ∧ PlX ρ c x0 o.2) := by
  refine sat_and (zX11_beforeAtP hF hp T r0 pl (rep_of re)) (fun o e Z => ⟨Z.1, Z.2, ?_⟩)
  obtain ⟨L, eL, rL⟩ := thR T r0 (i := 2) (k2 := 2) rfl (by decide)
  have wL : cw c L = 2102 := kid_w T r0 (i := 2) (w := 2102) rfl (by decide) eL
  obtain ⟨n, en⟩ : ∃ n : Int, n = (hI h L 2).toInt := ⟨_, rfl⟩
  obtain ⟨m, em⟩ : ∃ m : Int, m = (hI h L 3).toInt := ⟨_, rfl⟩
  unfold sX11_beforeAt sX11_beforeAt_15 at e
  replace e := br_s e
  rcases e with ⟨_, e⟩ | ⟨n1, e⟩
  · rw [← Option.some.inj e]; exact px
  have a1 : 0 ≤ y1.toInt := nlt_i n1
  replace e := cl_s e
  obtain ⟨rt, ert, e⟩ := e
  have rrt : ρ rt = 7 := rr T (thR T r0 (i := 9) (k2 := 7) rfl (by decide)) ert
  replace e := br_s e
  rcases e with ⟨n2, e⟩ | ⟨_, e⟩
  rotate_left
  · rw [← Option.some.inj e]; exact px
  have l1 := lt_i n2
  replace e := cl_s e
  obtain ⟨o4, e4, e⟩ := e
  have Z4 := sat_e (zX11_freePlace hF T r0) e4
  rw [Z4.1] at e
  replace e := br_s e
  rcases e with ⟨_, e⟩ | ⟨n4, e⟩
  · rw [← Option.some.inj e]; exact px
  have ip : Rg 0 59 o4.1 := rg_nlo n4 Z4.2 (rg_b rfl : Rg (-1) (-1) (-1 : Int32))
  have l60 : o4.1.toNatClampNeg < 60 := by have := rg_clamp (n := 59) ip (by decide); omega
  replace e := cl_s e
  obtain ⟨u, eu, e⟩ := e
  have ru : ρ u = 58 := rr T (thR T r0 (i := 14) (k2 := 58) rfl (by decide)) eu
  replace e := (gd_s e).2
  replace e := nm_s e
  obtain ⟨h8, w8, e⟩ := e
  have T8 : TH ρ c h8 := by rw [w8]; exact th_wI T ru (k := 58) (lo := 0) (hi := 1) rfl (rg_narz _) (by decide) (by decide) (szE hp rfl _)
  have kR : ∀ a i, hR h8 a i = hR h a i := fun a i => by rw [w8]; rfl
  have kI : ∀ {a k : Nat} (i : Nat), ρ a = k → k ≠ 58 → hI h8 a i = hI h a i := fun {a k} i ra hk => by rw [w8, r_I, if_neg (ne_r ra ru hk)]
  replace e := cl_s e
  obtain ⟨r9, er9, e⟩ := e
  have y9 : r9 = rt := by rw [kR] at er9; exact r_eq ert er9
  subst y9
  replace e := cl_s e
  obtain ⟨r, er, e⟩ := e
  rw [kR] at er
  have rr' : ρ r = 57 := rr T (thR T r0 (i := 13) (k2 := 57) rfl (by decide)) er
  replace e := (gd_s e).2
  replace e := cl_s e
  obtain ⟨d, ed, e⟩ := e
  rw [kR] at ed
  have rd := pl_b T rr' l60 ed
  have wd : cw c d = 3200 := kid_w T rr' (i := o4.1.toNatClampNeg) rfl (by decide) ed
  replace e := cl_s e
  obtain ⟨o13, e13, e⟩ := e
  have zz := Option.some.inj e
  subst zz
  unfold sX6_fillIn sX6_fillIn_23 at e13
  have h6 : hI h8 r9 6 = hI h r9 6 := kI 6 rrt (by decide)
  replace e13 := br_s e13
  rcases e13 with ⟨z, _⟩ | ⟨_, e13⟩
  · exact absurd z n1
  replace e13 := br_s e13
  rcases e13 with ⟨z, _⟩ | ⟨_, e13⟩
  · exact absurd (le_i z) (by rw [h6]; omega)
  replace e13 := cl_s e13
  obtain ⟨fo, efo, e13⟩ := e13
  have rfo : ρ fo = 48 := rr T8 (thR T8 rrt (i := 5) (k2 := 48) rfl (by decide)) efo
  rw [kR] at efo
  replace e13 := (gd_s e13).2
  replace e13 := cl_s e13
  obtain ⟨o5, e5, e13⟩ := e13
  have zz := Option.some.inj e13
  subst zz
  obtain ⟨b3, e3, rb3⟩ := thR T rrt (i := 3) (k2 := 4) rfl (by decide)
  have wb3 : cw c b3 = 1603 := th_id T rrt (w := 1603) e3 rfl (by decide)
  obtain ⟨on3, eo3, qo3⟩ := thR T rb3 (i := 0) (k2 := 34) rfl (by decide)
  obtain ⟨RA, RB⟩ := re r9 ert (by omega)
  have X3 : OnX n m on3 h8 := fun s hs z => by
    rw [kI s qo3 (by decide)] at z ⊢
    rw [en, em]
    exact (RA b3 e3).2 L on3 s rL wL eo3 hs z
  have M : MvX n m (hI h8 fo y1.toNatClampNeg) := by
    rw [kI _ rfo (by decide), en, em]
    exact RB L rL wL fo efo _ (by have := nc_i a1; omega)
  have hO : pmO c 3200 ppL := szP hp is_s
  obtain ⟨k7, Xd'⟩ := rlay_x (n := n) (m := m) hF hO wd T8 rrt rd (fun z => by rw [z, wb3] at wd; exact absurd wd (by decide)) (thG8 T8 rfo) (by rw [kR]; exact e3) (by rw [kR]; exact eo3) X3 M e5
  obtain ⟨ond, eod, qod⟩ := thR T rd (i := 0) (k2 := 34) rfl (by decide)
  have Xd := Xd' ond (by rw [kR]; exact eod)
  intro r' u' er' eu' i hi nu b' eb' L' on' s rL' wL' eo' hs zz
  rw [k7.1, kR] at er' eu' eb' eo'
  have y1 : r' = r := r_eq er er'
  have y2 : u' = u := r_eq eu eu'
  subst y1; subst y2
  have y3 : L' = L := law_1 T rL wL rL' wL'
  subst y3
  have iL : ∀ j, hI o5 L' j = hI h L' j := fun j => by rw [k7.2.1 L' j (by rw [rL']; rfl)]; exact kI j rL' (by decide)
  show (s : Int) < (hI o5 L' 2).toInt ∧ (hI o5 on' s).toInt < 2 * (hI o5 L' 3).toInt
  rw [iL, iL, ← en, ← em]
  have rb' := pl_b T rr' hi eb'
  by_cases v : i = o4.1.toNatClampNeg
  · rw [v] at eb'
    have y4 : b' = d := r_eq ed eb'
    subst y4
    have y5 : on' = ond := r_eq eod eo'
    subst y5
    exact Xd s hs zz
  · have nu' : ¬ hI h u' i = 0 := fun w => nu (by
      show hI o5 u' i = 0
      rw [k7.2.1 u' i (by rw [ru]; rfl), w8, r_I, if_neg (fun y => v y.2)]
      exact w)
    have qo' := th_on T rb' eo'
    have Xb : OnX n m on' h8 := fun s hs z => by
      rw [kI s qo' (by decide)] at z ⊢
      rw [en, em]
      exact px r' u' er' eu' i hi nu' b' eb' L' on' s rL wL eo' hs z
    exact on_k qo' k7 Xb s hs zz
end
