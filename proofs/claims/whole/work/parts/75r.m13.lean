section
/-! masks that are good -/
/-- a digit of a number -/
def dg (q sq : Int) (i : Nat) : Int := rsD q sq i % sq
/-- where a man of a set may go -/
def Gd (h : Hp) (rm re R : Nat) (sq : Int) (set : Nat) (q : Int) (j t : Nat) : Prop := (t : Int) < sq ∧ (∀ i i', i < (hI h rm set).toNatClampNeg → i' < (hI h rm set).toNatClampNeg → ¬ i = i' → ¬ dg q sq i = dg q sq i') ∧ ∀ i, i < (hI h rm set).toNatClampNeg → ¬ i = j → dg q sq i = (t : Int) → ¬ (hI h re (5 * set + i) - (1 : Int32)) >>> ((1 : Int32) &&& 31) = hI h R 10
/-- whose man it is -/
def owS (h : Hp) (re set i : Nat) : Int := ((hI h re (5 * set + i) - (1 : Int32)) &&& (1 : Int32)).toInt
def MkG (x0 rm rb re rk R : Nat) (h : Hp) : Prop := ∀ (set : Nat) (q : Int) (j t : Nat), (set : Int) < (hI h x0 49).toInt → 0 ≤ q → q < (hI h x0 13).toInt ^ (hI h rm set).toNatClampNeg → j < (hI h rm set).toNatClampNeg → t < 64 → bitJ (hJ h rk (mkx h rm rb re set q (owS h re set j) j).toNat) t = true → Gd h rm re R (hI h x0 13).toInt set q j t
section
variable {ρ : Nat → Nat} {c : Cm} {h h0 o : Hp} {x0 rm re rb rk R l lf lt F : Nat} {x1 x2 x6 : Int32} {W : Int}
theorem mkx_b {set j : Nat} {q : Int} (im : Rg 0 5 (hI h rm set)) (q0 : 0 ≤ q) (qW : q < W) (hj : j < (hI h rm set).toNatClampNeg) : (hI h rb set).toInt ≤ mkx h rm rb re set q (owS h re set j) j ∧ mkx h rm rb re set q (owS h re set j) j < (hI h rb set).toInt + (hI h rm set).toInt * W ∧ 0 ≤ rkC (fun i => owS h re set i) (owS h re set j) j (hI h rm set).toNatClampNeg ∧ rkC (fun i => owS h re set i) (owS h re set j) j (hI h rm set).toNatClampNeg < (hI h rm set).toInt := by
  have m0 := im.1
  have cm := clamp_i m0
  have a := (rkC_b (own := fun i => owS h re set i) (sd := owS h re set j) (j := j) (hI h rm set).toNatClampNeg).1
  have b := rkC_j (own := fun i => owS h re set i) (j := j) (hI h rm set).toNatClampNeg hj
  have mu : (hI h rm set).toInt * (q + 1) ≤ (hI h rm set).toInt * W := Int.mul_le_mul_of_nonneg_left (by omega) m0
  have mq : 0 ≤ (hI h rm set).toInt * q := Int.mul_nonneg m0 q0
  rw [Int.mul_add, Int.mul_one] at mu
  have e : mkx h rm rb re set q (owS h re set j) j = (hI h rb set).toInt + (hI h rm set).toInt * q + rkC (fun i => owS h re set i) (owS h re set j) j (hI h rm set).toNatClampNeg := rfl
  rw [e]
  refine ⟨by omega, by omega, a, by omega⟩
theorem mkx_inj {n a : Int} (T : TH ρ c h) (qm : ρ rm = 99) (em : hR h x0 46 = some rm) (eb : hR h x0 53 = some rb) (D : MBd x0 n a h) {s1 s2 j1 j2 : Nat} {q1 q2 : Int} (l1 : (s1 : Int) < n) (l2 : (s2 : Int) < n) (p1 : 0 ≤ q1) (p2 : 0 ≤ q2) (w1 : q1 < (hI h x0 13).toInt ^ (hI h rm s1).toNatClampNeg) (w2 : q2 < (hI h x0 13).toInt ^ (hI h rm s2).toNatClampNeg) (h1 : j1 < (hI h rm s1).toNatClampNeg) (h2 : j2 < (hI h rm s2).toNatClampNeg) (e : mkx h rm rb re s1 q1 (owS h re s1 j1) j1 = mkx h rm rb re s2 q2 (owS h re s2 j2) j2) : s1 = s2 ∧ q1 = q2 ∧ j1 = j2 := by
  have m1 := thI T qm (k := 99) (i := s1) (lo := 0) (hi := 5) rfl
  have m2 := thI T qm (k := 99) (i := s2) (lo := 0) (hi := 5) rfl
  obtain ⟨a1, a2, a3, a4⟩ := mkx_b (rb := rb) (re := re) m1 p1 w1 h1
  obtain ⟨b1, b2, b3, b4⟩ := mkx_b (rb := rb) (re := re) m2 p2 w2 h2
  have es : s1 = s2 := by
    refine Classical.byContradiction fun ne => ?_
    by_cases lt : s1 < s2
    · have := (D rm rb em eb s1 l1).2 s2 lt l2; omega
    · have := (D rm rb em eb s2 l2).2 s1 (by omega) l1; omega
  subst es
  have c1 := clamp_i m1.1
  have f1 : mkx h rm rb re s1 q1 (owS h re s1 j1) j1 = (hI h rb s1).toInt + (hI h rm s1).toInt * q1 + rkC (fun i => owS h re s1 i) (owS h re s1 j1) j1 (hI h rm s1).toNatClampNeg := rfl
  have f2 : mkx h rm rb re s1 q2 (owS h re s1 j2) j2 = (hI h rb s1).toInt + (hI h rm s1).toInt * q2 + rkC (fun i => owS h re s1 i) (owS h re s1 j2) j2 (hI h rm s1).toNatClampNeg := rfl
  rw [f1, f2] at e
  obtain ⟨u1, u2⟩ := dm_inj (m := (hI h rm s1).toInt) (q1 := q1) (q2 := q2) (by omega) a3 a4 b3 b4 (by omega)
  exact ⟨rfl, u1, rkC_inj h1 h2 u2⟩
/-- all hearts as they were, but for a row of long numbers -/
def EQm (rk : Nat) (h0 h : Hp) : Prop := EQh h0 h ∧ ∀ a i, ¬ a = rk → hJ h a i = hJ h0 a i
theorem eqm_t {h1 h2 : Hp} (a : EQm rk h0 h1) (b : EQm rk h1 h2) : EQm rk h0 h2 := ⟨eqh_t a.1 b.1, fun x i n => (b.2 x i n).trans (a.2 x i n)⟩
theorem mkx_c {g : Hp} (E : ∀ a i, hI g a i = hI h a i) (set : Nat) (q sd : Int) (j : Nat) : mkx g rm rb re set q sd j = mkx h rm rb re set q sd j := by
  unfold mkx
  simp only [E]
theorem owS_c {g : Hp} (E : ∀ a i, hI g a i = hI h a i) (set i : Nat) : owS g re set i = owS h re set i := by
  unfold owS
  rw [E]
theorem gd_c {g : Hp} (E : ∀ a i, hI g a i = hI h a i) {sq : Int} {set : Nat} {q : Int} {j t : Nat} (P : Gd h rm re R sq set q j t) : Gd g rm re R sq set q j t := by
  unfold Gd at *
  simp only [E]
  exact P
/-- one bit more in one mask -/
theorem mkg_w {n a : Int} {j0 i0 : Nat} {t : Int32} (T : TH ρ c h) (qm : ρ rm = 99) (em : hR h x0 46 = some rm) (eb : hR h x0 53 = some rb) (D : MBd x0 n a h) (en : (hI h x0 49).toInt = n) (ln : (x1.toNatClampNeg : Int) < n) {q0 : Int} (p0 : 0 ≤ q0) (w0 : q0 < (hI h x0 13).toInt ^ (hI h rm x1.toNatClampNeg).toNatClampNeg) (hj : j0 < (hI h rm x1.toNatClampNeg).toNatClampNeg) (ix : (i0 : Int) = mkx h rm rb re x1.toNatClampNeg q0 (owS h re x1.toNatClampNeg j0) j0) (it : Rg 0 63 t) (G : Gd h rm re R (hI h x0 13).toInt x1.toNatClampNeg q0 j0 t.toNatClampNeg) (ib : ∀ k, 0 ≤ (hI h rb k).toInt) (P : MkG x0 rm rb re rk R h) (w : o = wJ h rk i0 ((hJ h rk i0) ||| ((1 : Int64) <<< (t.toInt64 &&& 63)))) : MkG x0 rm rb re rk R o := by
  have E : ∀ a i, hI o a i = hI h a i := fun a i => by rw [w]; rfl
  intro set q j t' l1 p1 w1 h1 t64 bt
  rw [E] at l1 w1 h1
  rw [E] at w1
  rw [mkx_c E, owS_c E, w, r_J] at bt
  rw [E]
  refine gd_c E ?_
  by_cases z : (mkx h rm rb re set q (owS h re set j) j).toNat = i0
  · rw [if_pos ⟨rfl, z⟩] at bt
    have b0 := (mkx_b (rb := rb) (re := re) (thI T qm (k := 99) (i := set) (lo := 0) (hi := 5) rfl) p1 w1 h1).1
    have ee : mkx h rm rb re set q (owS h re set j) j = mkx h rm rb re x1.toNatClampNeg q0 (owS h re x1.toNatClampNeg j0) j0 := by
      by_cases n0 : 0 ≤ mkx h rm rb re set q (owS h re set j) j
      · omega
      · exact absurd b0 (by have := ib set; omega)
    obtain ⟨u1, u2, u3⟩ := mkx_inj T qm em eb D (by omega) ln p1 p0 w1 w0 h1 hj ee
    subst u1; subst u2; subst u3
    rw [bj_or, bj_one it] at bt
    cases y : bitJ (hJ h rk i0) t' with
    | true =>
      refine P _ q j t' (by omega) p1 w1 h1 t64 ?_
      rw [z]
      exact y
    | false =>
      rw [y] at bt
      have : t.toNatClampNeg = t' := by simpa using bt
      rw [← this]
      exact G
  · rw [if_neg (fun y => z y.2)] at bt
    exact P set q j t' l1 p1 w1 h1 t64 bt
end
end
section
/-! the moves of a state into its masks, all good -/
section
variable {ρ : Nat → Nat} {c : Cm} {h h0 o : Hp} {x0 rm re rb rk R l lf lt F : Nat} {x1 x2 x6 : Int32} {n a : Int}
/-- what is wanted of a move: its man is found, is of the side that moves, and may go there -/
def MvG (h : Hp) (rm re R : Nat) (sq : Int) (x1 x2 : Int32) (f t : Int32) : Prop := Rg 0 63 t ∧ (∃ j0 : Nat, (j0 : Int) < (hI h rm x1.toNatClampNeg).toInt ∧ f.toInt = dg (x2.toInt / 2) sq j0) ∧ ∀ j : Nat, (j : Int) < (hI h rm x1.toNatClampNeg).toInt → f.toInt = dg (x2.toInt / 2) sq j → owS h re x1.toNatClampNeg j = (x2 &&& (1 : Int32)).toInt ∧ Gd h rm re R sq x1.toNatClampNeg (x2.toInt / 2) j t.toNatClampNeg
theorem bh_207 {k187 : Hp → Nat → Int32 → Int32 → Int32 → Option Hp} {Q : Hp → Prop} {j0 : Nat} (hF : 700000 ≤ F) (hA : pmA c [(103, 999)]) (T : TH ρ c h) (r0 : ρ x0 = 16) (i1 : Rg 0 4095 x1) (a2 : 0 ≤ x2.toInt) (i6 : Rg 0 2999 x6) (em : hR h x0 46 = some rm) (eb : hR h x0 53 = some rb) (ee : hR h x0 47 = some re) (ek : hR h x0 52 = some rk) (qk : ρ rk = 103) (el : hR h x0 30 = some l) (ef : hR h l 1 = some lf) (et : hR h l 2 = some lt)
    (D : MBd x0 n a h) (en : (hI h x0 49).toInt = n) (ln : (x1.toNatClampNeg : Int) < n) (na : a ≤ 1500000) (w0 : x2.toInt / 2 < (hI h x0 13).toInt ^ (hI h rm x1.toNatClampNeg).toNatClampNeg) (P : MkG x0 rm rb re rk R h)
    (jm : (j0 : Int) < (hI h rm x1.toNatClampNeg).toInt) (jf : (hI h lf x6.toNatClampNeg).toInt = dg (x2.toInt / 2) (hI h x0 13).toInt j0) (G : MvG h rm re R (hI h x0 13).toInt x1 x2 (hI h lf x6.toNatClampNeg) (hI h lt x6.toNatClampNeg))
    (K : ∀ o y, TH ρ c o → EQm rk h o → MkG x0 rm rb re rk R o → y.toInt = x6.toInt + 1 → Sat (k187 o x0 x1 x2 y) Q) : ∀ (f : Nat) {x7 x8 : Int32}, 0 ≤ x7.toInt → x7.toInt ≤ (j0 : Int) → x8.toInt = rsD (x2.toInt / 2) (hI h x0 13).toInt x7.toNatClampNeg → 0 ≤ x8.toInt → ((j0 : Int) - x7.toInt).toNat < f → Sat (sX15_begin_207 F k187 f h x0 x1 x2 x6 x7 x8) Q := by
  have ql : ρ l = 14 := rr T (thR T r0 (i := 30) (k2 := 14) rfl (by decide)) el
  have qf : ρ lf = 66 := rr T (thR T ql (i := 1) (k2 := 66) rfl (by decide)) ef
  have qt : ρ lt = 67 := rr T (thR T ql (i := 2) (k2 := 67) rfl (by decide)) et
  have qm : ρ rm = 99 := rr T (thR T r0 (i := 46) (k2 := 99) rfl (by decide)) em
  have qb : ρ rb = 104 := rr T (thR T r0 (i := 53) (k2 := 104) rfl (by decide)) eb
  have im := thI T qm (k := 99) (i := x1.toNatClampNeg) (lo := 0) (hi := 5) rfl
  have m5 := im.2
  have cm := clamp_i im.1
  have ib := fun k => (thI T qb (k := 104) (i := k) (lo := 0) (hi := 1500000) rfl).1
  have s := thI T r0 (k := 16) (i := 13) (lo := 9) (hi := 64) rfl
  have s9 := s.1
  have d1 := (D rm rb em eb x1.toNatClampNeg ln).1
  have n0 : ¬ hI h x0 13 = 0 := fun z => by rw [z] at s9; exact absurd s9 (by decide)
  intro f
  induction f with
  | zero => intros; omega
  | succ f ih =>
    intro x7 x8 a7 b7 e8 a8 hf
    rw [sX15_begin_207]
    have c7 := clamp_i a7
    have i8 : Rg 0 2147483647 x8 := ⟨a8, (rg_top x8).2⟩
    refine s_gd n0 ?_
    refine s_ref el (s_ref ef ?_)
    refine s_gd (by rw [thN T qf (k := 66) (n := 3000) rfl (by decide)]; exact rg_inB i6 (by decide)) ?_
    have ed : (x8 - x8 / (hI h x0 13) * (hI h x0 13)).toInt = x8.toInt % (hI h x0 13).toInt := tr i8 s (by decide)
    refine s_br (fun q => ?_) (fun q => ?_)
    · have q' : (hI h lf x6.toNatClampNeg).toInt = dg (x2.toInt / 2) (hI h x0 13).toInt x7.toNatClampNeg := by rw [← q, ed, e8]; rfl
      obtain ⟨g1, g2⟩ := G.2.2 x7.toNatClampNeg (by omega) q'
      refine s_ref ek ?_
      have W0 : 0 ≤ x2.toInt / 2 := by omega
      have own : ¬ ((hI h re (5 * x1.toNatClampNeg + x7.toNatClampNeg)) - (1 : Int32)) &&& (1 : Int32) < x2 &&& (1 : Int32) := fun w => by
        have w := lt_i w
        unfold owS at g1
        omega
      refine s_dd (maskOf_q (W := (hI h x0 13).toInt ^ (hI h rm x1.toNatClampNeg).toNatClampNeg) hF T r0 i1 em eb ee a2 (by omega) (by omega) a7 (by omega) own) (fun o7 eq7 ⟨e7, i7⟩ => ?_)
      have mub : (hI h rm x1.toNatClampNeg).toInt * (x2.toInt / 2) ≤ (hI h rm x1.toNatClampNeg).toInt * (hI h x0 13).toInt ^ (hI h rm x1.toNatClampNeg).toNatClampNeg := Int.mul_le_mul_of_nonneg_left (by omega) im.1
      have mx := (mask_x i1 im em eb ee a2 a7 (ib _) (by omega) eq7).2
      rw [e7]
      have gk : inB o7.1 (hN h rk) := by rw [thN T qk (k := 103) (n := 1500000) rfl (by decide)]; exact rg_inB i7 (by decide)
      refine s_gd gk ?_
      refine s_ref el (s_ref et ?_)
      refine s_gd (by rw [thN T qt (k := 67) (n := 3000) rfl (by decide)]; exact rg_inB i6 (by decide)) (s_gd gk ?_)
      refine s_hq (th_wJ T qk (by decide) (pm_a hA rfl)) (fun h13 T13 w13 => ?_)
      refine s_q (fun y ey => ?_)
      have ey2 : y.toInt = x6.toInt + 1 := by rw [ey]; exact (nc_s i6 (by decide)).2
      refine K h13 y T13 ⟨⟨fun a i => by rw [w13]; rfl, fun a i => by rw [w13]; rfl⟩, fun a i na => by rw [w13, r_J, if_neg (fun w => na w.1)]⟩ ?_ ey2
      have c77 := clamp_i i7.1
      exact mkg_w (q0 := x2.toInt / 2) T qm em eb D en ln W0 w0 (by omega) (by rw [c77, mx, g1]) G.1 g2 ib P w13
    · have ne : x7.toInt ≠ (j0 : Int) := fun z => by
        have zn : x7.toNatClampNeg = j0 := by omega
        refine q (Int32.toInt_inj.mp ?_)
        rw [ed, jf, e8, zn]
        rfl
      refine s_gd n0 ?_
      refine s_q (fun v ev => s_q (fun y ey => ?_))
      have i7 : Rg 0 4 x7 := ⟨a7, by omega⟩
      have ny := nc_s i7 (by decide)
      have ey2 : y.toInt = x7.toInt + 1 := by rw [ey]; exact ny.2
      have ey3 : y.toNatClampNeg = x7.toNatClampNeg + 1 := by rw [ey]; exact ny.1
      have ev2 : v.toInt = x8.toInt / (hI h x0 13).toInt := by rw [ev]; exact td i8 s (by decide)
      clear ey ev
      have d0 : 0 ≤ x8.toInt / (hI h x0 13).toInt := Int.ediv_nonneg a8 (by omega)
      exact ih (by omega) (by omega) (by rw [ey3, ev2, e8]; rfl) (by omega) (by omega)
theorem mbd_c {g : Hp} (E : EQh h g) (D : MBd x0 n a h) : MBd x0 n a g := by
  intro rm rb em eb k hk
  rw [E.2] at em eb
  simp only [E.1]
  exact D rm rb em eb k hk
theorem mvg_c {g : Hp} (E : EQh h g) {sq : Int} {f t : Int32} (G : MvG h rm re R sq x1 x2 f t) : MvG g rm re R sq x1 x2 f t := by
  unfold MvG at *
  refine ⟨G.1, by rw [E.1]; exact G.2.1, fun j hj e => ?_⟩
  rw [E.1] at hj
  rw [owS_c E.1]
  exact ⟨(G.2.2 j hj e).1, gd_c E.1 (G.2.2 j hj e).2⟩
theorem bh_187 (hF : 700000 ≤ F) (hA : pmA c [(103, 999)]) (r0 : ρ x0 = 16) (i1 : Rg 0 4095 x1) (a2 : 0 ≤ x2.toInt) (em : hR h0 x0 46 = some rm) (eb : hR h0 x0 53 = some rb) (ee : hR h0 x0 47 = some re) (ek : hR h0 x0 52 = some rk) (qk : ρ rk = 103) (el : hR h0 x0 30 = some l) (ef : hR h0 l 1 = some lf) (et : hR h0 l 2 = some lt)
    (D : MBd x0 n a h0) (en : (hI h0 x0 49).toInt = n) (ln : (x1.toNatClampNeg : Int) < n) (na : a ≤ 1500000) (w0 : x2.toInt / 2 < (hI h0 x0 13).toInt ^ (hI h0 rm x1.toNatClampNeg).toNatClampNeg)
    (G : LA (MvG h0 rm re R (hI h0 x0 13).toInt x1 x2) l lf lt h0) : ∀ (f : Nat) {h : Hp} {x6 : Int32}, TH ρ c h → EQm rk h0 h → MkG x0 rm rb re rk R h → 0 ≤ x6.toInt → (3001 - x6.toInt).toNat < f → Sat (sX15_begin_187 F f h x0 x1 x2 x6) (fun o => TH ρ c o ∧ EQm rk h0 o ∧ MkG x0 rm rb re rk R o) := by
  intro f
  induction f with
  | zero => intros; omega
  | succ f ih =>
    intro h x6 T E P a6 hf
    rw [sX15_begin_187]
    obtain ⟨E1, E2⟩ := E.1
    refine s_ref (by rw [E2]; exact el) ?_
    have ql : ρ l = 14 := rr T (thR T r0 (i := 30) (k2 := 14) rfl (by decide)) (by rw [E2]; exact el)
    have n3 := (thI T ql (k := 14) (i := 0) (lo := 0) (hi := 3000) rfl).2
    refine s_br (fun _ => s_some ⟨T, E, P⟩) (fun n1 => ?_)
    have l6 := nle_i n1
    have i6 : Rg 0 2999 x6 := ⟨a6, by omega⟩
    have c6 := clamp_i a6
    have b6 := i6.2
    refine s_q (fun v ev => ?_)
    have ev2 : v.toInt = x2.toInt / 2 := by rw [ev]; exact ti_shr1
    clear ev
    have G6 := mvg_c E.1 (G x6.toNatClampNeg (by rw [← E1]; omega))
    obtain ⟨j0, jm, je⟩ := G6.2.1
    have z0 : (0 : Int32).toInt = 0 := rfl
    have zc : (0 : Int32).toNatClampNeg = 0 := rfl
    refine bh_207 (j0 := j0) (rm := rm) (rb := rb) (re := re) (rk := rk) (l := l) (lf := lf) (lt := lt) (n := n) (a := a) (R := R) hF hA T r0 i1 a2 i6 (by rw [E2]; exact em) (by rw [E2]; exact eb) (by rw [E2]; exact ee) (by rw [E2]; exact ek) qk (by rw [E2]; exact el) (by rw [E2]; exact ef) (by rw [E2]; exact et) (mbd_c E.1 D) (by rw [E1]; exact en) ln na (by rw [E1, E1]; exact w0) P jm (by rw [E1, E1]; exact je) (by rw [E1, E1, E1]; exact G6) (fun o y To Eo Po ey => ?_) F (by decide) (by rw [z0]; omega) (by rw [zc]; exact ev2) (by omega) ?_
    · exact ih To (eqm_t E Eo) Po (by omega) (by omega)
    · have := (thI T (rr T (thR T r0 (i := 46) (k2 := 99) rfl (by decide)) (by rw [E2]; exact em) : ρ rm = 99) (k := 99) (i := x1.toNatClampNeg) (lo := 0) (hi := 5) rfl).2
      rw [z0]
      omega
end
end
section
/-! a state is begun: what the board is, and what is as it was -/
/-- all is as it was but for a list of places -/
def Kf (ρ : Nat → Nat) (E : List (Nat × Nat)) (h0 h : Hp) : Prop := ∀ a i, ρ a ≠ 0 → mS E (ρ a) i = false → hI h a i = hI h0 a i ∧ hJ h a i = hJ h0 a i ∧ hR h a i = hR h0 a i
section
variable {ρ : Nat → Nat} {c : Cm} {E A : List (Nat × Nat)} {L : List (Nat × List (Nat × Nat))} {h0 h h1 : Hp} {a k : Nat}
theorem kf_r : Kf ρ E h h := fun _ _ _ _ => ⟨rfl, rfl, rfl⟩
theorem kf_t (p : Kf ρ E h0 h) (q : Kf ρ E h h1) : Kf ρ E h0 h1 := fun a i n x => ⟨(q a i n x).1.trans (p a i n x).1, (q a i n x).2.1.trans (p a i n x).2.1, (q a i n x).2.2.trans (p a i n x).2.2⟩
theorem kfI (i : Nat) (K : Kf ρ E h0 h) (ra : ρ a = k) (n : k ≠ 0 := by decide) (x : mS E k i = false := by rfl) : hI h a i = hI h0 a i := (K a i (by rw [ra]; exact n) (by rw [ra]; exact x)).1
theorem kfJ (i : Nat) (K : Kf ρ E h0 h) (ra : ρ a = k) (n : k ≠ 0 := by decide) (x : mS E k i = false := by rfl) : hJ h a i = hJ h0 a i := (K a i (by rw [ra]; exact n) (by rw [ra]; exact x)).2.1
theorem kfR (i : Nat) (K : Kf ρ E h0 h) (ra : ρ a = k) (n : k ≠ 0 := by decide) (x : mS E k i = false := by rfl) : hR h a i = hR h0 a i := (K a i (by rw [ra]; exact n) (by rw [ra]; exact x)).2.2
theorem kf_of (f : Fr ρ (cat c (fS A L) h) h h1) (e : (sS A E && L.all fun p => sS p.2 E) = true) : Kf ρ E h h1 := fun a i n x => by
  refine f.1 a i n ?_
  show fS A L (ρ a) (cw c a) i = false
  cases q : fS A L (ρ a) (cw c a) i with
  | false => rfl
  | true =>
    unfold fS at q
    rw [Bool.and_eq_true] at e
    rw [Bool.or_eq_true] at q
    rcases q with q | q
    · rw [mS_s e.1 q] at x; exact x
    · obtain ⟨p, hp, q⟩ := List.any_eq_true.mp q
      rw [Bool.and_eq_true] at q
      rw [mS_s (List.all_eq_true.mp e.2 p hp) q.1] at x
      exact x
theorem kf_wI {i : Nat} {v : Int32} (w : h1 = wI h a i v) (ra : ρ a = k) (x : mS E k i = true := by rfl) : Kf ρ E h h1 := fun b j _ xb => by
  rw [w]
  refine ⟨?_, rfl, rfl⟩
  rw [r_I, if_neg]
  rintro ⟨q1, q2⟩
  subst q1; subst q2
  rw [ra, x] at xb
  exact absurd xb (by decide)
theorem kf_wJ {i : Nat} {v : Int64} (w : h1 = wJ h a i v) (ra : ρ a = k) (x : mS E k i = true := by rfl) : Kf ρ E h h1 := fun b j _ xb => by
  rw [w]
  refine ⟨rfl, ?_, rfl⟩
  rw [r_J, if_neg]
  rintro ⟨q1, q2⟩
  subst q1; subst q2
  rw [ra, x] at xb
  exact absurd xb (by decide)
theorem kf_m {E2 : List (Nat × Nat)} (p : Kf ρ E h0 h) (e : sS E E2 = true) : Kf ρ E2 h0 h := fun a i n x => p a i n (by
  cases q : mS E (ρ a) i with
  | false => rfl
  | true => rw [mS_s e q] at x; exact x)
end
theorem ne_r' {ρ : Nat → Nat} {a b k m : Nat} (e1 : ρ a = k) (e2 : ρ b = m) (n : ¬ k = m) : ¬ a = b := fun w => n (by rw [← e1, w]; exact e2)
section
variable {ρ : Nat → Nat} {c : Cm} {h o : Hp} {x0 b g M F : Nat} {x1 x2 : Int32}
/-- a cleared board: no passes, no rights -/
theorem clear_b (T : TH ρ c h) (rb : ρ b = 13) (e : sX12_clear F h b = some o) : hI o b 3 = 0 ∧ hJ o b 2 = 0 := by
  obtain ⟨M, eM, rM⟩ := thR T rb (i := 0) (k2 := 62) rfl (by decide)
  obtain ⟨H, eH, rH⟩ := thR T rb (i := 5) (k2 := 64) rfl (by decide)
  obtain ⟨C, eC, rC⟩ := thR T rb (i := 6) (k2 := 65) rfl (by decide)
  have nM : ¬ b = M := ne_r' rb rM (by decide)
  have nH : ¬ b = H := ne_r' rb rH (by decide)
  have nC : ¬ b = C := ne_r' rb rC (by decide)
  have c38 : ∀ (f : Nat) {h : Hp} {x1 : Int32}, hR h b 5 = some H → hR h b 6 = some C → hI h b 3 = 0 → hJ h b 2 = 0 → sX12_clear_38 F f h b x1 = some o → hI o b 3 = 0 ∧ hJ o b 2 = 0 := by
    intro f
    induction f with
    | zero => intro h x1 _ _ _ _ e; exact absurd e (by simp [sX12_clear_38])
    | succ f ih =>
      intro h x1 eH eC i3 j2 e
      unfold sX12_clear_38 at e
      simp only [nm] at e
      replace e := br_s e; rcases e with ⟨_, e⟩ | ⟨_, e⟩
      · replace e := cl_s e; obtain ⟨r2, p2, e⟩ := e
        have := r_eq eC p2; subst this
        replace e := (gd_s e).2
        replace e := cl_s e; obtain ⟨r5, p5, e⟩ := e
        replace p5 : hR h b 6 = some r5 := p5
        have := r_eq eC p5; subst this
        replace e := (gd_s e).2
        have e := Option.some.inj e; subst e
        refine ⟨?_, j2⟩
        rw [r_I, if_neg (fun w => absurd w.2 (by decide)), r_I, if_neg (fun w => nC w.1), r_I, if_neg (fun w => nC w.1)]
        exact i3
      · replace e := cl_s e; obtain ⟨r9, p9, e⟩ := e
        have := r_eq eH p9; subst this
        replace e := (gd_s e).2
        exact ih (h := wI h r9 x1.toNatClampNeg 0) eH eC (by rw [r_I, if_neg (fun w => nH w.1)]; exact i3) j2 e
  have c2 : ∀ (f : Nat) {h : Hp} {x1 : Int32}, hR h b 0 = some M → hR h b 5 = some H → hR h b 6 = some C → sX12_clear_2 F f h b x1 = some o → hI o b 3 = 0 ∧ hJ o b 2 = 0 := by
    intro f
    induction f with
    | zero => intro h x1 _ _ _ e; exact absurd e (by simp [sX12_clear_2])
    | succ f ih =>
      intro h x1 eM eH eC e
      unfold sX12_clear_2 at e
      simp only [nm] at e
      replace e := br_s e; rcases e with ⟨_, e⟩ | ⟨_, e⟩
      · refine c38 F (h := wI (wJ (wI h b 1 0) b 2 0) b 3 0) eH eC ?_ ?_ e
        · rw [r_I, if_pos ⟨rfl, rfl⟩]
        · show hJ (wJ _ b 2 0) b 2 = 0
          rw [r_J, if_pos ⟨rfl, rfl⟩]
      · replace e := cl_s e; obtain ⟨r5, p5, e⟩ := e
        replace e := (gd_s e).2
        exact ih (h := wI h r5 x1.toNatClampNeg 0) eM eH eC e
  unfold sX12_clear at e
  exact c2 F eM eH eC e
theorem lay_b {oo : Int32 × Hp} (T : TH ρ c h) (r0 : ρ x0 = 16) (l1 : hR h x0 60 = some g) (e : sX15_layState F h x0 x1 x2 = some oo) : hI oo.2 g 3 = 0 ∧ hJ oo.2 g 2 = 0 ∧ hI oo.2 g 1 = x2 &&& (1 : Int32) := by
  have rg : ρ g = 13 := rr T (thR T r0 (i := 60) (k2 := 13) rfl (by decide)) l1
  obtain ⟨M, eM, rM⟩ := thR T rg (i := 0) (k2 := 62) rfl (by decide)
  have nM : ¬ g = M := ne_r' rg rM (by decide)
  have lp : ∀ (f : Nat) {h : Hp} {x3 x4 x5 : Int32}, hR h x0 60 = some g → hR h g 0 = some M → sX15_layState_27 F f h x0 x1 x3 x4 x5 = some oo → (∀ i, hI oo.2 g i = hI h g i) ∧ ∀ a i, hJ oo.2 a i = hJ h a i := by
    intro f
    induction f with
    | zero => intro h x3 x4 x5 _ _ e; exact absurd e (by simp [sX15_layState_27])
    | succ f ih =>
      intro h x3 x4 x5 l1 eM e
      unfold sX15_layState_27 sX15_layState_109 at e
      simp only [nm] at e
      have put : ∀ {x3 x5 x6 x7 : Int32}, sX15_layState_111 F (sX15_layState_27 F f) h x0 x1 x3 x5 x6 x7 = some oo → (∀ i, hI oo.2 g i = hI h g i) ∧ ∀ a i, hJ oo.2 a i = hJ h a i := by
        intro x3 x5 x6 x7 eC
        unfold sX15_layState_111 at eC
        simp only [nm] at eC
        replace eC := cl_s eC; obtain ⟨r1, p1, eC⟩ := eC
        have := r_eq l1 p1; subst this
        replace eC := cl_s eC; obtain ⟨r2, p2, eC⟩ := eC
        have := r_eq eM p2; subst this
        replace eC := (gd_s eC).2
        obtain ⟨u1, u2⟩ := ih (h := wI h r2 x6.toNatClampNeg x7) l1 eM eC
        exact ⟨fun i => by rw [u1 i, r_I, if_neg (fun w => nM w.1)], fun a i => u2 a i⟩
      replace e := cl_s e; obtain ⟨_, _, e⟩ := e
      replace e := (gd_s e).2
      replace e := br_s e; rcases e with ⟨_, e⟩ | ⟨_, e⟩
      · rw [← Option.some.inj e]; exact ⟨fun _ => rfl, fun _ _ => rfl⟩
      replace e := (gd_s e).2
      replace e := (gd_s e).2
      replace e := cl_s e; obtain ⟨_, _, e⟩ := e
      replace e := (gd_s e).2
      replace e := cl_s e; obtain ⟨_, _, e⟩ := e
      replace e := cl_s e; obtain ⟨_, _, e⟩ := e
      replace e := (gd_s e).2
      replace e := br_s e; rcases e with ⟨_, e⟩ | ⟨_, e⟩
      · rw [← Option.some.inj e]; exact ⟨fun _ => rfl, fun _ _ => rfl⟩
      replace e := br_s e; rcases e with ⟨_, e⟩ | ⟨_, e⟩
      · exact put e
      replace e := cl_s e; obtain ⟨_, _, e⟩ := e
      replace e := (gd_s e).2
      replace e := br_s e; rcases e with ⟨_, e⟩ | ⟨_, e⟩
      · replace e := br_s e; rcases e with ⟨_, e⟩ | ⟨_, e⟩
        · exact put e
        · rw [← Option.some.inj e]; exact ⟨fun _ => rfl, fun _ _ => rfl⟩
      · exact put e
  unfold sX15_layState at e
  simp only [nm] at e
  replace e := cl_s e; obtain ⟨ra, fa, e⟩ := e
  have := r_eq l1 fa; subst this
  replace e := cl_s e; obtain ⟨h2, f2, e⟩ := e
  obtain ⟨p1, p2⟩ := clear_b T rg f2
  obtain ⟨pR, _, _⟩ := clear_q T rg eM f2
  replace e := cl_s e; obtain ⟨rc, fc, e⟩ := e
  rw [pR] at fc
  have := r_eq l1 fc; subst this
  obtain ⟨u1, u2⟩ := lp F (h := wI h2 rc 1 (x2 &&& (1 : Int32))) (by show hR h2 x0 60 = some rc; rw [pR]; exact l1) (by show hR h2 rc 0 = some M; rw [pR]; exact eM) e
  refine ⟨?_, ?_, ?_⟩
  · rw [u1, r_I, if_neg (fun w => absurd w.2 (by decide))]; exact p1
  · rw [u2]; exact p2
  · rw [u1, r_I, if_pos ⟨rfl, rfl⟩]
end
end
section
/-! a state is begun -/
abbrev XSL : List (Nat × Nat) := [(66, 999), (67, 999), (68, 999), (69, 999), (70, 999), (71, 999), (72, 999), (86, 999), (87, 999), (88, 999), (89, 999), (105, 999), (16, 23), (16, 24), (16, 29), (14, 0)]
abbrev EBL : List (Nat × Nat) := [(102, 999), (62, 999), (63, 999), (64, 999), (65, 999), (13, 1), (13, 2), (13, 3), (13, 7), (66, 999), (67, 999), (68, 999), (69, 999), (70, 999), (71, 999), (72, 999), (86, 999), (87, 999), (88, 999), (89, 999), (105, 999), (16, 23), (16, 24), (16, 29), (14, 0)]
abbrev bL8 : List (Nat × Nat) := [(62, 999), (63, 999), (64, 999), (65, 999), (13, 1), (13, 2), (13, 3), (13, 7)]
abbrev bS7 : List (Nat × Nat) := [(62, 999), (64, 999), (65, 999), (13, 1), (13, 2), (13, 3), (13, 7)]
abbrev lL8 : List (Nat × Nat) := [(66, 999), (67, 999), (68, 999), (69, 999), (70, 999), (71, 999), (72, 999), (14, 0)]
abbrev bgA : List (Nat × Nat) := [(102, 999), (86, 999), (16, 23), (16, 24), (16, 29), (87, 999), (88, 999), (89, 999), (105, 999), (103, 999)]
theorem xsl_x {k i : Nat} (q : mS XSL k i = true) : XS k i = true := by
  obtain ⟨p, hp, q⟩ := List.any_eq_true.mp q
  rw [Bool.and_eq_true] at q
  have e1 : p.1 = k := by simpa using q.1
  have e2 : p.2 = 999 ∨ p.2 = i := by simpa using q.2
  simp only [List.mem_cons, List.not_mem_nil, or_false] at hp
  rcases hp with w | w | w | w | w | w | w | w | w | w | w | w | w | w | w | w <;> subst w <;> subst e1 <;> first | rfl | (rcases e2 with w | w <;> first | exact absurd w (by decide) | (subst w; rfl))
section
variable {ρ : Nat → Nat} {c : Cm} {h0 h o : Hp} {x0 rm re rb rk R F : Nat} {x1 x2 : Int32} {a : Int}
theorem fq_kf (K : Kf ρ XSL h0 h) : Fq ρ h0 h := fun a i n x => K a i n (by
  cases q : mS XSL (ρ a) i with
  | false => rfl
  | true => rw [xsl_x q] at x; exact x)
theorem mkg_of (e13 : hI o x0 13 = hI h x0 13) (e49 : hI o x0 49 = hI h x0 49) (km : ∀ i, hI o rm i = hI h rm i) (kb : ∀ i, hI o rb i = hI h rb i) (ke : ∀ i, hI o re i = hI h re i) (kR : hI o R 10 = hI h R 10) (kk : ∀ i, hJ o rk i = hJ h rk i) (P : MkG x0 rm rb re rk R h) : MkG x0 rm rb re rk R o := by
  intro set q j t l1 p1 w1 h1 t64 bt
  unfold mkx owS at bt
  unfold Gd
  rw [e49] at l1
  rw [e13, km] at w1
  rw [km] at h1
  simp only [km, kb, ke, kk] at bt
  rw [e13, kR, km]
  simp only [ke]
  exact P set q j t l1 p1 w1 h1 t64 bt
theorem mkg_k {E : List (Nat × Nat)} (K : Kf ρ E h o) (r0 : ρ x0 = 16) (qm : ρ rm = 99) (qb : ρ rb = 104) (qe : ρ re = 100) (qk : ρ rk = 103) (qR : ρ R = 15) (y1 : mS E 16 13 = false) (y2 : mS E 16 49 = false) (y3 : ∀ i, mS E 99 i = false) (y4 : ∀ i, mS E 104 i = false) (y5 : ∀ i, mS E 100 i = false) (y6 : ∀ i, mS E 103 i = false) (y7 : mS E 15 10 = false) (P : MkG x0 rm rb re rk R h) : MkG x0 rm rb re rk R o :=
  mkg_of (kfI 13 K r0 (by decide) y1) (kfI 49 K r0 (by decide) y2) (fun i => kfI i K qm (by decide) (y3 i)) (fun i => kfI i K qb (by decide) (y4 i)) (fun i => kfI i K qe (by decide) (y5 i)) (kfI 10 K qR (by decide) y7) (fun i => kfJ i K qk (by decide) (y6 i)) P
theorem mvg_of {sq : Int} {f t : Int32} (km : ∀ i, hI o rm i = hI h rm i) (ke : ∀ i, hI o re i = hI h re i) (kR : hI o R 10 = hI h R 10) (G : MvG h rm re R sq x1 x2 f t) : MvG o rm re R sq x1 x2 f t := by
  unfold MvG Gd owS at *
  rw [kR, km]
  simp only [ke]
  exact G
/-- where a state's moves lead -/
theorem st_mvg {g M Ro S Fa Ct Fl Ri A B Fm St : Nat} {b7 : Hp} (T : TH ρ c b7) (L : LkS ρ x0 g S Fa Ct M R Fl Ri b7) (Z : LkT ρ x0 R A B Fm St b7) (e22 : hR b7 x0 22 = some Ro) (rRo : ρ Ro = 86) (ee : hR b7 x0 47 = some re) (i1 : Rg 0 4095 x1) (rz : hJ b7 g 2 = 0) (pz : hI b7 g 3 = 0) (sd : hI b7 g 1 = x2 &&& (1 : Int32)) (pos : ∀ i, i < (hI b7 rm x1.toNatClampNeg).toNatClampNeg → 1 ≤ (hI b7 re (5 * x1.toNatClampNeg + i)).toInt)
    (SD : LSD M re (5 * x1.toNatClampNeg) (x2.toInt / 2) (hI b7 x0 13).toInt (hI b7 rm x1.toNatClampNeg).toNatClampNeg b7) (SC : LSC M re (5 * x1.toNatClampNeg) (x2.toInt / 2) (hI b7 x0 13).toInt (hI b7 rm x1.toNatClampNeg).toNatClampNeg b7) (SX : LSX (x2.toInt / 2) (hI b7 x0 13).toInt (hI b7 rm x1.toNatClampNeg).toNatClampNeg) (im : Rg 0 5 (hI b7 rm x1.toNatClampNeg)) {o10 : Int32 × Hp} (ew : sX15_wrongOf F b7 x0 g = some o10) (np : o10.1 ≤ 0)
    (s t : Int32) (s0 : 0 ≤ s.toInt) (sl : s.toInt < (hI b7 x0 13).toInt) (hs : 0 < (hI b7 M s.toNatClampNeg).toInt) (own : ((hI b7 M s.toNatClampNeg) - (1 : Int32)) &&& (1 : Int32) = hI b7 g 1) (t0 : 0 ≤ t.toInt) (tl : t.toInt < (hI b7 x0 13).toInt) (LQ : LdQ ρ F x0 g M b7 s t) : MvG b7 rm re R (hI b7 x0 13).toInt x1 x2 s t := by
  have r0 := L.1.1
  have rg := L.1.2.1
  have rM := L.1.2.2.2.2.2.1
  have rR := L.1.2.2.2.2.2.2.1
  have s64 := (thI T r0 (k := 16) (i := 13) (lo := 9) (hi := 64) rfl).2
  have s9 := (thI T r0 (k := 16) (i := 13) (lo := 9) (hi := 64) rfl).1
  have cs := clamp_i s0
  have ct := clamp_i t0
  have cm := clamp_i im.1
  have man : ∀ j : Nat, (j : Int) < (hI b7 rm x1.toNatClampNeg).toInt → ∀ u : Int32, 0 ≤ u.toInt → u.toInt = dg (x2.toInt / 2) (hI b7 x0 13).toInt j → hI b7 M u.toNatClampNeg = hI b7 re (5 * x1.toNatClampNeg + j) := by
    intro j hj u u0 eu
    have := SC j (by omega)
    unfold dg at eu
    rw [← eu] at this
    have cu := clamp_i u0
    have e2 : u.toInt.toNat = u.toNatClampNeg := by omega
    rw [e2] at this
    exact this
  refine ⟨⟨t0, by omega⟩, ?_, ?_⟩
  · obtain ⟨j, j1, j2, j3⟩ := SD s.toNatClampNeg (by omega) hs
    exact ⟨j, by omega, by rw [← cs, j2]; rfl⟩
  · intro j hj es
    have mj := man j hj s s0 es
    refine ⟨?_, by omega, ?_, ?_⟩
    · unfold owS
      rw [← mj, own, sd]
    · intro i i' hi hi' ne
      by_cases lt : i' < i
      · exact fun w => SX i i' hi lt w.symm
      · exact fun w => SX i' i hi' (by omega) w
    · intro i hi ni et roy
      have mi := man i (by omega) t t0 (by rw [← ct]; exact et.symm)
      have tp : 0 < (hI b7 M t.toNatClampNeg).toInt := by rw [mi]; have := pos i hi; omega
      obtain ⟨q1, q2⟩ := LQ tp
      have sr1 := side_r (x := hI b7 M t.toNatClampNeg - (1 : Int32))
      have sr2 := side_r (x := hI b7 M s.toNatClampNeg - (1 : Int32))
      have neq : ¬ ((hI b7 M t.toNatClampNeg - (1 : Int32)) &&& (1 : Int32)).toInt = ((hI b7 M s.toNatClampNeg - (1 : Int32)) &&& (1 : Int32)).toInt := fun w => q1 (Int32.toInt_inj.mp w)
      have ir : IsR b7 M R t.toNatClampNeg (1 - (hI b7 g 1).toInt).toNat := by
        refine ⟨tp, by rw [mi]; exact roy, ?_⟩
        rw [own] at neq sr2
        have := sr1.1; have := sr1.2; have := sr2.1; have := sr2.2
        omega
      obtain ⟨gq, o3, fq, e3, z3⟩ := wrong_q L e22 rRo rz (by rw [pz]; decide) (thI T rg (k := 13) (i := 1) (lo := 0) (hi := 1) rfl) (fun s => thI T rM (k := 62) (lo := 0) (hi := 24) rfl) (thI T rR (k := 15) (i := 10) (lo := -1) (hi := 11) rfl) (by omega) s64 fq_r ew np t.toNatClampNeg (by omega) ir
      have tn : nI t.toNatClampNeg = t := by
        apply Int32.toInt_inj.mp
        rw [z_toInt (by omega)]
        omega
      rw [tn] at e3
      unfold sX15_isAttacked at e3
      exact isa_q L Z s0 sl hs own (fun w => q1 (by rw [w])) q2 F (x4 := 0) fq (by decide) (show (0 : Int) ≤ s.toInt from s0) e3 z3
end
end
section
/-! a state is begun: the whole of it -/
theorem sh6 {x : Int32} (i : Rg 0 599999 x) : Rg 0 9375 (x >>> ((6 : Int32) &&& 31)) := rg_shrk 6 (by decide) i (by decide)
section
variable {ρ : Nat → Nat} {c : Cm} {h : Hp} {x0 rm re rb rk R F : Nat} {x1 x2 : Int32} {a : Int}
theorem begin_q (hF : 700000 ≤ F) (hA : pmA c bgA) (hS : pmO c 2560 bS7) (hB : pmO c 2528 bL8) (hL : pmO c 2530 lL8) (T : TH ρ c h) (r0 : ρ x0 = 16) (sq : SqOk x0 h) (P : SE x0 h) (em : hR h x0 46 = some rm) (eb : hR h x0 53 = some rb) (ee : hR h x0 47 = some re) (ek : hR h x0 52 = some rk) (qk : ρ rk = 103) (eR : hR h x0 4 = some R) (hz : hI h R 15 = 0) (i1 : Rg 0 4095 x1) (ln : x1.toInt < (hI h x0 49).toInt) (a2 : 0 ≤ x2.toInt) (l2 : x2.toInt < 2 * (hI h x0 13).toInt ^ (hI h rm x1.toNatClampNeg).toNatClampNeg) (D : MBd x0 (hI h x0 49).toInt a h) (na : a ≤ 1500000) (G : MkG x0 rm rb re rk R h) : Sat (sX15_begin F h x0 x1 x2) (fun o => TH ρ c o ∧ MkG x0 rm rb re rk R o) := by
  have qm : ρ rm = 99 := rr T (thR T r0 (i := 46) (k2 := 99) rfl (by decide)) em
  have qe : ρ re = 100 := rr T (thR T r0 (i := 47) (k2 := 100) rfl (by decide)) ee
  have qb : ρ rb = 104 := rr T (thR T r0 (i := 53) (k2 := 104) rfl (by decide)) eb
  have qR : ρ R = 15 := rr T (thR T r0 (i := 4) (k2 := 15) rfl (by decide)) eR
  have c1 := clamp_i i1.1
  have im := thI T qm (k := 99) (i := x1.toNatClampNeg) (lo := 0) (hi := 5) rfl
  have mk : ∀ {o : Hp}, Kf ρ EBL h o → MkG x0 rm rb re rk R o := fun K => mkg_k K r0 qm qb qe qk qR rfl rfl (fun _ => rfl) (fun _ => rfl) (fun _ => rfl) (fun _ => rfl) rfl G
  unfold sX15_begin
  obtain ⟨rs, es, qs⟩ := thR T r0 (i := 48) (k2 := 101) rfl (by decide)
  have s3 := P.2.2.1 rm rs em es x1.toNatClampNeg (by omega)
  have s2 := P.2.1.2
  have is := thI T qs (k := 101) (i := x1.toNatClampNeg) (lo := 0) (hi := 600000) rfl
  have is0 := is.1
  refine s_ref es ?_
  refine s_gd (by rw [thN T qs (k := 101) (n := 4096) rfl (by decide)]; exact rg_inB i1 (by decide)) ?_
  refine s_q (fun v3 ev => ?_)
  have ev2 : v3.toInt = (hI h rs x1.toNatClampNeg).toInt + x2.toInt := by rw [ev, ta (by omega)]
  clear ev
  have i3 : Rg 0 599999 v3 := ⟨by omega, by omega⟩
  obtain ⟨rw', ew, qw⟩ := thR T r0 (i := 51) (k2 := 102) rfl (by decide)
  refine s_ref ew ?_
  refine s_gd (by rw [thN T qw (k := 102) (n := 600000) rfl (by decide)]; exact rg_inB i3 (by decide)) ?_
  refine s_hq (th_wI T qw (k := 102) (lo := -1000000) (hi := 3000000) rfl (rg_b rfl) (by decide) (by decide) (pm_a hA rfl)) (fun h6 T6 w6 => ?_)
  have K6 : Kf ρ EBL h h6 := kf_wI w6 qw
  obtain ⟨g, eg, rg⟩ := thR T6 r0 (i := 60) (k2 := 13) rfl (by decide)
  have wg : cw c g = 2560 := th_id T6 r0 eg rfl (by decide)
  obtain ⟨M, eM, rM⟩ := thR T6 rg (i := 0) (k2 := 62) rfl (by decide)
  have em6 : hR h6 x0 46 = some rm := by rw [kfR 46 K6 r0]; exact em
  have ee6 : hR h6 x0 47 = some re := by rw [kfR 47 K6 r0]; exact ee
  have pos6 : ∀ i, i < (hI h6 rm x1.toNatClampNeg).toNatClampNeg → 1 ≤ (hI h6 re (5 * x1.toNatClampNeg + i)).toInt := fun i hi => by
    rw [kfI _ K6 qm] at hi
    rw [kfI _ K6 qe]
    exact P.2.2.2.2.1 rm re em ee x1.toNatClampNeg (by omega) i hi
  refine s_cIfq (S := fS [] [(2560, bS7)]) T6 (fs_sub pmA_n (fs_c hS fs_n)) (s_weq (zX15_layState hF (fs_o (.head _)) (th_in _ T6) r0 i1 ⟨a2, by omega⟩)) (fun o7 T7 i7 f7 e7 => ?_)
  have K67 : Kf ρ EBL h6 o7.2 := kf_of f7 rfl
  have K7 : Kf ρ EBL h o7.2 := kf_t K6 K67
  refine s_br (fun _ => ?_) (fun nz => ?_)
  · unfold sX15_begin_38
    exact s_some ⟨T7, mk K7⟩
  obtain ⟨LR, LD, LC, LX⟩ := lay_q T6 r0 i1 a2 eg eM em6 ee6 pos6 e7 nz
  obtain ⟨pz, rz, sd⟩ := lay_b T6 r0 eg e7
  have eg7 : hR o7.2 x0 60 = some g := LR.1
  have eM7 : hR o7.2 g 0 = some M := LR.2.1
  have km7 : ∀ i, hI o7.2 rm i = hI h6 rm i := fun i => kfI i K67 qm
  have ke7 : ∀ i, hI o7.2 re i = hI h6 re i := fun i => kfI i K67 qe
  have k137 : hI o7.2 x0 13 = hI h6 x0 13 := kfI 13 K67 r0
  refine s_ref eg7 ?_
  refine s_cIfq (S := fS [(86, 999), (16, 23), (16, 24)] []) T7 (fs_sub (pmA_s hA rfl) fs_n) (s_weq2 (zX15_wrongOf hF fs_a wg (th_in _ T7) r0 rg)) (fun o10 T10 i10 f10 w10 => ?_)
  have Q10 : Kf ρ XSL o7.2 o10.2 := kf_of f10 rfl
  refine s_br (fun np => ?_) (fun _ => ?_)
  · have z10 : o10.1.toInt = 0 := by have := le_i np; have := i10.1; have z0 : (0 : Int32).toInt = 0 := rfl; omega
    have pe10 : PE g o10.2 := w10.1 z10
    have sq10 : SqOk x0 o10.2 := sq_fr T7 r0 f10 (fun _ => rfl) (fun _ => rfl) (fun _ => rfl) (sq_fr T6 r0 f7 (fun _ => rfl) (fun _ => rfl) (fun _ => rfl) (sq_fr T r0 (fr1I (c := c) (A := [(102, 999)]) qw rfl w6) (fun _ => rfl) (fun _ => rfl) (fun _ => rfl) sq))
    -- the moves, and what comes of them
    have b99 : ∀ {h9 : Hp}, TH ρ c h9 → Kf ρ XSL o10.2 h9 → PE g h9 → SqOk x0 h9 → Sat (sX15_begin_99 F h9 x0 x1 x2 v3) (fun o => TH ρ c o ∧ MkG x0 rm rb re rk R o) := by
      intro h9 T9 Q9 pe9 sq9
      have Q79 : Kf ρ XSL o7.2 h9 := kf_t Q10 Q9
      have K9 : Kf ρ EBL h h9 := kf_t K7 (kf_m Q79 rfl)
      unfold sX15_begin_99 sX15_begin_173
      have eg9 : hR h9 x0 60 = some g := by rw [kfR 60 Q79 r0]; exact eg7
      refine s_ref eg9 ?_
      obtain ⟨l, el, rl⟩ := thR T9 r0 (i := 30) (k2 := 14) rfl (by decide)
      have wl : cw c l = 2530 := th_id T9 r0 el rfl (by decide)
      refine s_ref el ?_
      have el7 : hR o7.2 x0 30 = some l := by rw [← kfR 30 Q79 r0]; exact el
      -- rows at the board that is laid
      obtain ⟨S, e25, rS⟩ := thR T7 r0 (i := 25) (k2 := 87) rfl (by decide)
      obtain ⟨Fa, e26, rFa⟩ := thR T7 r0 (i := 26) (k2 := 88) rfl (by decide)
      obtain ⟨Ct, e27, rCt⟩ := thR T7 r0 (i := 27) (k2 := 89) rfl (by decide)
      have eR7 : hR o7.2 x0 4 = some R := by rw [kfR 4 K7 r0]; exact eR
      obtain ⟨Fl, eFl, rFl⟩ := thR T7 qR (i := 5) (k2 := 75) rfl (by decide)
      obtain ⟨Ri, eRi, rRi⟩ := thR T7 qR (i := 8) (k2 := 78) rfl (by decide)
      obtain ⟨A, eA, rA⟩ := thR T7 qR (i := 6) (k2 := 76) rfl (by decide)
      obtain ⟨B, eB, rB⟩ := thR T7 qR (i := 7) (k2 := 77) rfl (by decide)
      obtain ⟨Fm, eFm, rFm⟩ := thR T7 qR (i := 9) (k2 := 79) rfl (by decide)
      obtain ⟨St, eSt, rSt⟩ := thR T7 qR (i := 4) (k2 := 74) rfl (by decide)
      obtain ⟨Ro, e22, rRo⟩ := thR T7 r0 (i := 22) (k2 := 86) rfl (by decide)
      obtain ⟨lf, ef, rf⟩ := thR T7 rl (i := 1) (k2 := 66) rfl (by decide)
      obtain ⟨lt, et, rt⟩ := thR T7 rl (i := 2) (k2 := 67) rfl (by decide)
      obtain ⟨lm, elm, rlm⟩ := thR T7 rl (i := 3) (k2 := 68) rfl (by decide)
      obtain ⟨lb, elb, rlb⟩ := thR T7 rl (i := 4) (k2 := 69) rfl (by decide)
      obtain ⟨lx, elx, rlx⟩ := thR T7 rl (i := 5) (k2 := 70) rfl (by decide)
      obtain ⟨lk, elk, rlk⟩ := thR T7 rl (i := 6) (k2 := 71) rfl (by decide)
      obtain ⟨lo, elo, rlo⟩ := thR T7 rl (i := 7) (k2 := 72) rfl (by decide)
      have LL : LkS ρ x0 g S Fa Ct M R Fl Ri o7.2 := ⟨⟨r0, rg, rS, rFa, rCt, rM, qR, rFl, rRi⟩, ⟨e25, e26, e27, eM7, eR7, eFl, eRi⟩, thI T7 r0 rfl, thI T7 r0 rfl, fun i => thI T7 rRi rfl, by rw [pz]; decide⟩
      have ZZ : LkT ρ x0 R A B Fm St o7.2 := ⟨⟨rA, rB, rFm, rSt⟩, ⟨eA, eB, eFm, eSt⟩, fun i => thI T7 rA rfl, fun i => thI T7 rB rfl⟩
      have QQ : LsR ρ l lf lt lm lb lx lk lo o7.2 := ⟨⟨rl, rf, rt, rlm, rlb, rlx, rlk, rlo⟩, ⟨ef, et, elm, elb, elx, elk, elo⟩⟩
      have tall : ∀ g2 o, Fq ρ h9 g2 → sX15_tryAll F g2 x0 g l = some o → LA (MvG o7.2 rm re R (hI o7.2 x0 13).toInt x1 x2) l lf lt o := fun g2 o fq e => by
        refine (tall_q LL ZZ QQ (by rw [kfI 15 K7 qR]; exact hz) rz (thI T7 r0 (k := 16) (i := 13) (lo := 9) (hi := 64) rfl).2 (fun s t s0 sl hs own t0 tl LQ => ?_) (fq_t (fq_kf Q79) fq) e).2
        refine st_mvg T7 LL ZZ e22 rRo LR.2.2.2.1 i1 rz pz sd (fun i hi => ?_) ?_ ?_ ?_ (thI T7 qm (k := 99) (lo := 0) (hi := 5) rfl) w10.2 np s t s0 sl hs own t0 tl LQ
        · rw [km7] at hi
          rw [ke7]
          exact pos6 i hi
        · rw [km7, k137]; exact LD
        · rw [km7, k137]; exact LC
        · rw [km7, k137]; exact LX
      refine s_cVfq (S := fS [(87, 999), (88, 999), (89, 999), (16, 23), (16, 24), (16, 29)] [(2528, bL8), (2530, lL8)]) T9 (fs_sub (pmA_s hA rfl) (fs_c hB (fs_c hL fs_n))) (legal_q (lf := lf) (lt := lt) hF fs_a (fs_o (.head _)) (fs_o (.tail _ (.head _))) wg (by decide) wl (th_in _ T9) r0 rg rl sq9 pe9 (by rw [kfR 1 Q79 rl]; exact ef) (by rw [kfR 2 Q79 rl]; exact et) tall) (fun o3 T3 f3 P3 => ?_)
      have K3 : Kf ρ EBL h o3 := kf_t K9 (kf_of f3 rfl)
      have eg3 : hR o3 x0 60 = some g := by rw [(fr_RI f3 r0 (by decide) (fun _ => rfl)).2.2]; exact eg9
      have el3 : hR o3 x0 30 = some l := by rw [(fr_RI f3 r0 (by decide) (fun _ => rfl)).2.2]; exact el
      refine s_ref eg3 (s_ref el3 ?_)
      refine s_cIf (S := fS [(16, 23), (16, 24), (16, 29)] []) T3 (fs_sub (pmA_s hA rfl) fs_n) (zX15_endedBy hF fs_a wg (th_in _ T3) r0 rg (thI T3 rl (k := 14) (i := 0) (lo := 0) (hi := 3000) rfl)) (fun o6 T6' i6 f6 => ?_)
      have K6' : Kf ρ EBL h o6.2 := kf_t K3 (kf_of f6 rfl)
      have P6 := la_fr T3 rl rf rt f6 (fun _ => rfl) (fun _ _ => rfl) (fun _ _ => rfl) P3
      have ew6 : hR o6.2 x0 51 = some rw' := by rw [kfR 51 K6' r0]; exact ew
      have gw : ∀ {g2 : Hp}, TH ρ c g2 → inB v3 (hN g2 rw') := fun Tg => by rw [thN Tg qw (k := 102) (n := 600000) rfl (by decide)]; exact rg_inB i3 (by decide)
      have fin : ∀ v : Int32, Rg (-1000000) 3000000 v → Sat (gd (inB v3 (hN o6.2 rw')) <| nm (wI o6.2 rw' v3.toNatClampNeg v) fun h_2 => some h_2) (fun o => TH ρ c o ∧ MkG x0 rm rb re rk R o) := fun v iv => by
        refine s_gd (gw T6') ?_
        refine s_hq (th_wI T6' qw (k := 102) (lo := -1000000) (hi := 3000000) rfl iv (by decide) (by decide) (pm_a hA rfl)) (fun h2 T2 w2 => ?_)
        exact s_some ⟨T2, mk (kf_t K6' (kf_wI w2 qw))⟩
      refine s_br (fun _ => ?_) (fun _ => ?_)
      · refine s_ref ew6 (s_gd (gw T6') ?_)
        refine s_hq (th_wI T6' qw (k := 102) (lo := -1000000) (hi := 3000000) rfl (rg_b rfl) (by decide) (by decide) (pm_a hA rfl)) (fun h10 T10' w10' => ?_)
        have K10 : Kf ρ EBL h h10 := kf_t K6' (kf_wI w10' qw)
        have K710 : Kf ρ EBL o7.2 h10 := kf_t (kf_m Q79 rfl) (kf_t (kf_of f3 rfl) (kf_t (kf_of f6 rfl) (kf_wI w10' qw)))
        have z0 : (0 : Int32).toInt = 0 := rfl
        have P10 : LA (MvG h10 rm re R (hI h10 x0 13).toInt x1 x2) l lf lt h10 := by
          intro i hi
          rw [w10', r_I, if_neg (ne_r rl qw (by decide))] at hi
          have := P6 i hi
          have q1 : hI h10 lf i = hI o6.2 lf i := by rw [w10', r_I, if_neg (ne_r rf qw (by decide))]
          have q2 : hI h10 lt i = hI o6.2 lt i := by rw [w10', r_I, if_neg (ne_r rt qw (by decide))]
          rw [q1, q2, kfI 13 K710 r0]
          exact mvg_of (fun i => kfI i K710 qm) (fun i => kfI i K710 qe) (kfI 10 K710 qR) this
        have D10 : MBd x0 (hI h x0 49).toInt a h10 := by
          intro rm' rb' em' eb' k hk
          rw [kfR 46 K10 r0] at em'
          rw [kfR 53 K10 r0] at eb'
          have hz1 := r_eq em em'
          subst hz1
          have hz1 := r_eq eb eb'
          subst hz1
          rw [kfI 13 K10 r0]
          simp only [kfI _ K10 qm, kfI _ K10 qb]
          exact D rm' rb' em' eb' k hk
        have ef10 : hR h10 l 1 = some lf := by rw [kfR 1 K710 rl]; exact ef
        have et10 : hR h10 l 2 = some lt := by rw [kfR 2 K710 rl]; exact et
        refine s_imp (bh_187 (h0 := h10) (a := a) (n := (hI h x0 49).toInt) (l := l) (lf := lf) (lt := lt) hF (pmA_s hA rfl) r0 i1 a2 (by rw [kfR 46 K10 r0]; exact em) (by rw [kfR 53 K10 r0]; exact eb) (by rw [kfR 47 K10 r0]; exact ee) (by rw [kfR 52 K10 r0]; exact ek) qk (by rw [kfR 30 K710 r0]; exact el7) ef10 et10 D10 (by rw [kfI 49 K10 r0]) (by omega) na (by rw [kfI 13 K10 r0, kfI _ K10 qm]; omega) P10 F T10' ⟨⟨fun _ _ => rfl, fun _ _ => rfl⟩, fun _ _ _ => rfl⟩ (mk K10) (by decide) (by rw [z0]; omega)) (fun o w => ⟨w.1, w.2.2⟩)
      · refine s_ref ew6 ?_
        refine s_br (fun _ => fin _ (rg_m (rg_b rfl : Rg 0 0 (0 : Int32)) (by decide))) (fun _ => ?_)
        refine s_ref (by rw [(fr_RI f6 r0 (by decide) (fun _ => rfl)).2.2]; exact eg3) ?_
        exact s_br (fun _ => fin _ (rg_m (rg_b rfl : Rg 1000000 1000000 (1000000 : Int32)) (by decide))) (fun _ => fin _ (rg_m (rg_b rfl : Rg (-1000000) (-1000000) (-1000000 : Int32)) (by decide)))
    have eg10 : hR o10.2 x0 60 = some g := by rw [kfR 60 Q10 r0]; exact eg7
    refine s_ref eg10 (s_ref eg10 ?_)
    refine s_cl (s_imp (zX15_royalOf hF T10 r0 rg (thI T10 rg (k := 13) (i := 1) (lo := 0) (hi := 1) rfl)) (fun o14 ⟨e14, i14⟩ => ?_))
    rw [e14]
    refine s_br (fun _ => b99 T10 kf_r pe10 sq10) (fun n14 => ?_)
    refine s_ref eg10 (s_ref eg10 ?_)
    refine s_cIf (S := fS [(16, 23), (16, 24)] []) T10 (fs_sub (pmA_s hA rfl) fs_n) (zX15_isAttacked hF fs_a wg (th_in _ T10) r0 rg (rg_nlo n14 i14 (rg_b rfl : Rg (-1) (-1) (-1 : Int32))) (rg_sub (rg_b rfl : Rg 1 1 (1 : Int32)) (thI T10 rg (k := 13) (i := 1) (lo := 0) (hi := 1) rfl) (by decide))) (fun o18 T18 i18 f18 => ?_)
    have Q18 : Kf ρ XSL o10.2 o18.2 := kf_of f18 rfl
    have pe18 : PE g o18.2 := pe_fr T10 rg f18 rfl rfl rfl (fun _ => rfl) (fun _ => rfl) pe10
    have sq18 : SqOk x0 o18.2 := sq_fr T10 r0 f18 (fun _ => rfl) (fun _ => rfl) (fun _ => rfl) sq10
    refine s_br (fun _ => b99 T18 Q18 pe18 sq18) (fun _ => ?_)
    obtain ⟨rc, ec, qc⟩ := thR T18 r0 (i := 54) (k2 := 105) rfl (by decide)
    refine s_ref ec ?_
    have ic : Rg 0 9375 (v3 >>> ((6 : Int32) &&& 31)) := sh6 i3
    have gc : inB (v3 >>> ((6 : Int32) &&& 31)) (hN o18.2 rc) := by rw [thN T18 qc (k := 105) (n := 9376) rfl (by decide)]; exact rg_inB ic (by decide)
    refine s_gd gc (s_gd gc ?_)
    refine s_hq (th_wJ T18 qc (by decide) (pm_a hA rfl)) (fun h23 T23 w23 => ?_)
    exact b99 T23 (kf_t Q18 (kf_wJ w23 qc)) (by
      intro M' P' e1 e2 k k1 k2
      rw [w23] at e1 e2 k2 ⊢
      exact pe18 M' P' e1 e2 k k1 k2) (by
      unfold SqOk
      rw [w23]
      exact sq18)
  · unfold sX15_begin_38
    exact s_some ⟨T10, mk (kf_t K7 (kf_m Q10 rfl))⟩
end
end
section
/-! what comes of a step is among the sets; numbers of states -/
theorem rsD_s {q sq : Int} : ∀ j, rsD q sq (j + 1) = rsD (q / sq) sq j := by
  intro j
  induction j with
  | zero => rfl
  | succ j ih => show rsD q sq (j + 1) / sq = rsD (q / sq) sq j / sq; rw [ih]
/-- a digit anew -/
theorem dg_put {sq t : Int} (s1 : 1 ≤ sq) (t0 : 0 ≤ t) (tl : t < sq) : ∀ (j n : Nat) (q : Int), j < n → 0 ≤ q → q < sq ^ n → 0 ≤ q + (t - dg q sq j) * sq ^ j ∧ q + (t - dg q sq j) * sq ^ j < sq ^ n := by
  intro j
  induction j with
  | zero =>
    intro n q hn q0 ql
    obtain ⟨n, rfl⟩ : ∃ m, n = m + 1 := ⟨n - 1, by omega⟩
    have e0 : dg q sq 0 = q % sq := rfl
    rw [e0, Int.pow_zero, Int.mul_one]
    have d := Int.mul_ediv_add_emod q sq
    have m0 := Int.emod_nonneg q (show sq ≠ 0 by omega)
    have l1 : q / sq < sq ^ n := Int.ediv_lt_of_lt_mul (by omega) (by rw [Int.pow_succ] at ql; exact ql)
    have g0 : 0 ≤ q / sq := Int.ediv_nonneg q0 (by omega)
    have m1 : sq * (q / sq + 1) ≤ sq * sq ^ n := Int.mul_le_mul_of_nonneg_left (by omega) (by omega)
    have m2 : 0 ≤ sq * (q / sq) := Int.mul_nonneg (by omega) g0
    rw [Int.mul_add, Int.mul_one] at m1
    rw [Int.pow_succ, Int.mul_comm (sq ^ n) sq]
    omega
  | succ j ih =>
    intro n q hn q0 ql
    obtain ⟨n, rfl⟩ : ∃ m, n = m + 1 := ⟨n - 1, by omega⟩
    have e0 : dg q sq (j + 1) = dg (q / sq) sq j := by unfold dg; rw [rsD_s]
    have d := Int.mul_ediv_add_emod q sq
    have m0 := Int.emod_nonneg q (show sq ≠ 0 by omega)
    have m3 := Int.emod_lt_of_pos q (show 0 < sq by omega)
    have l1 : q / sq < sq ^ n := Int.ediv_lt_of_lt_mul (by omega) (by rw [Int.pow_succ] at ql; exact ql)
    have g0 : 0 ≤ q / sq := Int.ediv_nonneg q0 (by omega)
    obtain ⟨i1, i2⟩ := ih n (q / sq) (by omega) g0 l1
    rw [e0]
    generalize hz : q / sq + (t - dg (q / sq) sq j) * sq ^ j = z at i1 i2
    have e1 : q + (t - dg (q / sq) sq j) * sq ^ (j + 1) = sq * z + q % sq := by
      rw [← hz, Int.mul_add, Int.pow_succ, ← Int.mul_assoc, Int.mul_comm sq ((t - dg (q / sq) sq j) * sq ^ j)]
      omega
    rw [e1]
    have m1 : sq * (z + 1) ≤ sq * sq ^ n := Int.mul_le_mul_of_nonneg_left (by omega) (by omega)
    have m2 : 0 ≤ sq * z := Int.mul_nonneg (by omega) i1
    rw [Int.mul_add, Int.mul_one] at m1
    rw [Int.pow_succ, Int.mul_comm (sq ^ n) sq]
    omega
section
variable {ρ : Nat → Nat} {c : Cm} {x0 rm re rb rk rs ro R Bc Bm F : Nat} {h : Hp}
/-- all sets stand in order, are found, and what comes of them is there -/
def AllS (x0 rm re rs rk R Bc Bm : Nat) (h : Hp) : Prop := ∀ k : Nat, (k : Int) < (hI h x0 49).toInt → Sd (fun i => hI h re (5 * k + i)) (hI h rm k).toNatClampNeg ∧ Fnd rs rk (pkF (fun i => hI h re (5 * k + i)) (hI h rm k) (hI h rm k).toNatClampNeg) h ∧ ∀ i, i < (hI h rm k).toNatClampNeg → CL re rm R Bc Bm rs rk h k i 9
theorem nI_m {n : Int32} (i : Rg 0 5 n) : nI n.toNatClampNeg = n := by
  have a := i.1
  have b := i.2
  have := clamp_i a
  apply Int32.toInt_inj.mp
  rw [z_toInt (by omega)]
  omega
theorem sk9 {f : Nat → Int32} {q n : Nat} (h : n ≤ q) : ∀ p, p < n → sk f q p = f p := fun p hp => by unfold sk; rw [if_pos (by omega)]
/-- the row behind a step is there -/
theorem fd_behind (T : TH ρ c h) (Q : SlR ρ x0 rm re rb rk rs ro h) (P : SE x0 h) (S : AllS x0 rm re rs rk R Bc Bm h) {k j q : Nat} (hk : (k : Int) < (hI h x0 49).toInt) (hj : j < (hI h rm k).toNatClampNeg) (nq : ¬ q = j) (q9 : q < (hI h rm k).toNatClampNeg ∨ 9 ≤ q) (roy : q < (hI h rm k).toNatClampNeg → ¬ (hI h re (5 * k + q) - (1 : Int32)) >>> ((1 : Int32) &&& 31) = hI h R 10) {v : Int32} (iv : Rg 0 24 v)
    (hv : v = hI h re (5 * k + j) ∨ FdS rs rk h (hI h rm k).toNatClampNeg (fun w => cn (up (fun p => hI h re (5 * k + p)) j v) w (hI h rm k).toNatClampNeg)) :
    FdS rs rk h (if (q : Int) < (hI h rm k).toInt then (hI h rm k).toNatClampNeg - 1 else (hI h rm k).toNatClampNeg) (fun w => cn (sk (up (fun p => hI h re (5 * k + p)) j v) q) w (if (q : Int) < (hI h rm k).toInt then (hI h rm k).toNatClampNeg - 1 else (hI h rm k).toNatClampNeg)) := by
  have Q' := Q
  obtain ⟨⟨r0, qm, qe, qb, qk, qs, qo⟩, ⟨e46, e47, e48, e55, e56, e57⟩⟩ := Q'
  have im := thI T qm (k := 99) (i := k) (lo := 0) (hi := 5) rfl
  have cm := clamp_i im.1
  have m5 := im.2
  obtain ⟨s1, s2, s3⟩ := S k hk
  -- the row with the man anew is there
  have A : FdS rs rk h (hI h rm k).toNatClampNeg (fun w => cn (up (fun p => hI h re (5 * k + p)) j v) w (hI h rm k).toNatClampNeg) := by
    rcases hv with w | w
    · refine ⟨fun p => hI h re (5 * k + p), s1, fun u => (cn_eq _ (fun p hp => ?_)).symm, by rw [nI_m im]; exact s2⟩
      unfold up
      split
      · rename_i z; rw [w, z]
      · rfl
    · exact w
  rcases q9 with ql | q9
  · rw [if_pos (by omega)]
    obtain ⟨f, f1, f2, f3⟩ := A
    have F3 := f3
    -- it is a set
    obtain ⟨m, B1, B2, B3⟩ := f3
    have sm : sl (pkF f (nI (hI h rm k).toNatClampNeg) (hI h rm k).toNatClampNeg) m < 16384 := Nat.mod_lt _ (by decide)
    obtain ⟨u1, u2⟩ := P.2.2.2.1 rs rk rm re e56 e55 e46 e47 _ sm B2
    rw [B3] at u2
    generalize hk' : (hI h rs (sl (pkF f (nI (hI h rm k).toNatClampNeg) (hI h rm k).toNatClampNeg) m)).toInt.toNat - 1 = k' at u2
    rw [nI_m im] at u2
    have lk' : (k' : Int) < (hI h x0 49).toInt := by omega
    rw [pkN_F] at u2
    have im' := thI T qm (k := 99) (i := k') (lo := 0) (hi := 5) rfl
    -- f has the range of men where it counts
    have rf : ∀ i, i < (hI h rm k).toNatClampNeg → Rg 0 24 (f i) := fun i hi => by
      have p : 0 < cn f (f i) (hI h rm k).toNatClampNeg := cn_in _ hi
      rw [f2] at p
      obtain ⟨i2, _, e2⟩ := cn_pos _ p
      rw [← e2]
      unfold up
      split
      · exact iv
      · exact thI T qe (k := 100) (lo := 0) (hi := 24) rfl
    have e1 : pkF f (hI h rm k) (hI h rm k).toNatClampNeg = pkF (fun i => if i < (hI h rm k).toNatClampNeg then f i else 0) (hI h rm k) (hI h rm k).toNatClampNeg := pkF_eq _ (fun i hi => by show f i = if i < (hI h rm k).toNatClampNeg then f i else 0; rw [if_pos hi])
    rw [e1] at u2
    obtain ⟨v1, v2⟩ := pkF_inj (f := fun i => if i < (hI h rm k).toNatClampNeg then f i else 0) (g := fun i => hI h re (5 * k' + i)) im im' (fun i => by
      show Rg 0 31 (if i < (hI h rm k).toNatClampNeg then f i else 0)
      split
      · exact rg_m (rf i ‹_›) (by decide)
      · exact rg_m (rg_b rfl : Rg 0 0 (0 : Int32)) (by decide)) (fun i => rg_m (thI T qe (k := 100) (i := 5 * k' + i) (lo := 0) (hi := 24) rfl) (by decide)) u2
    have v2' : ∀ i, i < (hI h rm k).toNatClampNeg → f i = hI h re (5 * k' + i) := fun i hi => by
      have := v2 i hi
      rw [if_pos hi] at this
      exact this
    -- the man that is taken is in it
    have uq : up (fun p => hI h re (5 * k + p)) j v q = hI h re (5 * k + q) := by unfold up; rw [if_neg nq]
    have cp : 0 < cn f (hI h re (5 * k + q)) (hI h rm k).toNatClampNeg := by
      rw [f2, ← uq]
      exact cn_in _ ql
    obtain ⟨i', i1, i2⟩ := cn_pos _ cp
    rw [v2' i' i1] at i2
    have em : (hI h rm k').toNatClampNeg = (hI h rm k).toNatClampNeg := by rw [← v1]
    obtain ⟨_, _, t3⟩ := S k' lk'
    obtain ⟨g, g1, g2, g3⟩ := (t3 i' (by omega)).1 (by rw [i2]; exact roy ql)
    rw [em] at g1 g2 g3
    refine ⟨g, g1, fun w => ?_, g3⟩
    rw [g2 w]
    have c1 := cn_sk (f := fun p => hI h re (5 * k' + p)) (k := i') (w := w) ((hI h rm k).toNatClampNeg - 1) (by omega)
    have c2 := cn_sk (f := up (fun p => hI h re (5 * k + p)) j v) (k := q) (w := w) ((hI h rm k).toNatClampNeg - 1) (by omega)
    have en : (hI h rm k).toNatClampNeg - 1 + 1 = (hI h rm k).toNatClampNeg := by omega
    rw [en] at c1 c2
    have c3 : cn (fun p => hI h re (5 * k' + p)) w (hI h rm k).toNatClampNeg = cn f w (hI h rm k).toNatClampNeg := (cn_eq _ v2').symm
    rw [c3, f2 w] at c1
    rw [uq] at c2
    show cn (sk (fun p => hI h re (5 * k' + p)) i') w ((hI h rm k).toNatClampNeg - 1) = cn (sk (up (fun p => hI h re (5 * k + p)) j v) q) w ((hI h rm k).toNatClampNeg - 1)
    have c4 : (if (fun p => hI h re (5 * k' + p)) i' = w then 1 else 0) = (if hI h re (5 * k + q) = w then 1 else 0) := by
      show (if hI h re (5 * k' + i') = w then 1 else 0) = _
      rw [i2]
    rw [c4] at c1
    exact Nat.add_right_cancel (c1.trans c2.symm)
  · rw [if_neg (by omega)]
    obtain ⟨f, f1, f2, f3⟩ := A
    refine ⟨f, f1, fun w => ?_, f3⟩
    rw [f2 w]
    exact (cn_eq _ (sk9 (by omega))).symm
end
end
section
/-! all that a move leads to is met -/
abbrev EWL : List (Nat × Nat) := [(102, 999), (108, 999), (109, 999), (110, 999), (16, 62), (16, 63)]
/-- what holds while a solution is worked out -/
def WkP (ρ : Nat → Nat) (x0 rm re rb rk rs ro rp rt rw mb km R Bc Bm : Nat) (a : Int) (h : Hp) : Prop := SlR ρ x0 rm re rb rk rs ro h ∧ (hR h x0 58 = some rp ∧ hR h x0 61 = some rt ∧ hR h x0 51 = some rw ∧ hR h x0 53 = some mb ∧ hR h x0 52 = some km ∧ hR h x0 4 = some R ∧ hR h R 13 = some Bc ∧ hR h R 14 = some Bm) ∧ (ρ rp = 109 ∧ ρ rt = 110 ∧ ρ rw = 102 ∧ ρ mb = 104 ∧ ρ km = 103 ∧ ρ R = 15 ∧ ρ Bc = 80 ∧ ρ Bm = 81) ∧ SE x0 h ∧ AllS x0 rm re rs rk R Bc Bm h ∧ MBd x0 (hI h x0 49).toInt a h ∧ a ≤ 1500000 ∧ MkG x0 rm mb re km R h
section
variable {ρ : Nat → Nat} {c : Cm} {x0 rm re rb rk rs ro rp rt rw mb km R Bc Bm F : Nat} {a : Int} {h o : Hp} {x1 x2 x3 x4 x5 x6 x7 : Int32}
theorem alls_of (e49 : hI o x0 49 = hI h x0 49) (k1 : ∀ i, hI o rm i = hI h rm i) (k2 : ∀ i, hI o re i = hI h re i) (k3 : ∀ i, hI o rs i = hI h rs i) (k4 : ∀ i, hI o rk i = hI h rk i) (k5 : hI o R 10 = hI h R 10) (k6 : ∀ i, hI o Bc i = hI h Bc i) (k7 : ∀ i, hI o Bm i = hI h Bm i) (P : AllS x0 rm re rs rk R Bc Bm h) : AllS x0 rm re rs rk R Bc Bm o := by
  intro k hk
  rw [e49] at hk
  have := P k hk
  unfold CL FdS Fnd at *
  rw [k1, k5]
  simp only [k2, k3, k4, k6, k7]
  exact this
theorem se_k {E : List (Nat × Nat)} (K : Kf ρ E h o) (r0 : ρ x0 = 16) (qm : ρ rm = 99) (qe : ρ re = 100) (qb : ρ rb = 101) (qk : ρ rk = 106) (qs : ρ rs = 107) (e46 : hR h x0 46 = some rm) (e47 : hR h x0 47 = some re) (e48 : hR h x0 48 = some rb) (e55 : hR h x0 55 = some rk) (e56 : hR h x0 56 = some rs) (P : SE x0 h) (y : (mS E 16 13 || mS E 16 49 || mS E 16 59 || mS E 16 46 || mS E 16 47 || mS E 16 48 || mS E 16 55 || mS E 16 56) = false := by rfl) (y99 : ∀ i, mS E 99 i = false := by intro _; rfl) (y100 : ∀ i, mS E 100 i = false := by intro _; rfl) (y101 : ∀ i, mS E 101 i = false := by intro _; rfl) (y106 : ∀ i, mS E 106 i = false := by intro _; rfl) (y107 : ∀ i, mS E 107 i = false := by intro _; rfl) : SE x0 o := by
  simp only [Bool.or_eq_false_iff] at y
  obtain ⟨⟨⟨⟨⟨⟨⟨y1, y2⟩, y3⟩, y4⟩, y5⟩, y6⟩, y7⟩, y8⟩ := y
  have k13 := kfI 13 K r0 (by decide) y1
  have k49 := kfI 49 K r0 (by decide) y2
  have k59 := kfJ 59 K r0 (by decide) y3
  have j46 := kfR 46 K r0 (by decide) y4
  have j47 := kfR 47 K r0 (by decide) y5
  have j48 := kfR 48 K r0 (by decide) y6
  have j55 := kfR 55 K r0 (by decide) y7
  have j56 := kfR 56 K r0 (by decide) y8
  have km := fun i => kfI i K qm (by decide) (y99 i)
  have ke := fun i => kfI i K qe (by decide) (y100 i)
  have kb := fun i => kfI i K qb (by decide) (y101 i)
  have kk := fun i => kfI i K qk (by decide) (y106 i)
  have ks := fun i => kfI i K qs (by decide) (y107 i)
  obtain ⟨p1, p2, p3, p4, p5, p6⟩ := P
  refine ⟨?_, ?_, ?_, ?_, ?_, ?_⟩
  · intro r er
    rw [j56] at er
    have hz := r_eq e56 er
    subst hz
    rw [k49, uC_eq _ (fun j _ => ks j)]
    exact p1 r er
  · unfold S2
    rw [k59]
    exact p2
  · intro r1 r2 er1 er2 k hk
    rw [j46] at er1
    rw [j48] at er2
    rw [k49] at hk
    have hz := r_eq e46 er1
    subst hz
    have hz := r_eq e48 er2
    subst hz
    rw [km, kb, k13, k59]
    exact p3 r1 r2 er1 er2 k hk
  · intro r1 r2 r3 r4 er1 er2 er3 er4 j hj hp
    rw [j56] at er1
    rw [j55] at er2
    rw [j46] at er3
    rw [j47] at er4
    have hz := r_eq e56 er1
    subst hz
    have hz := r_eq e55 er2
    subst hz
    have hz := r_eq e46 er3
    subst hz
    have hz := r_eq e47 er4
    subst hz
    rw [ks] at hp
    rw [ks, kk, k49, km, pkN_eq (h := h) (a := r4) (p := 5 * ((hI h r1 j).toInt.toNat - 1)) _ (fun i _ => ke _)]
    exact p4 r1 r2 r3 r4 er1 er2 er3 er4 j hj hp
  · intro r1 r2 er1 er2 k hk i hi
    rw [j46] at er1
    rw [j47] at er2
    rw [k49] at hk
    have hz := r_eq e46 er1
    subst hz
    have hz := r_eq e47 er2
    subst hz
    rw [km] at hi
    rw [ke]
    exact p5 r1 r2 er1 er2 k hk i hi
  · intro r1 r2 er1 er2 k hk
    rw [j46] at er1
    rw [j48] at er2
    rw [k49] at hk
    have hz := r_eq e46 er1
    subst hz
    have hz := r_eq e48 er2
    subst hz
    rw [km, kb, kb, k13]
    exact p6 r1 r2 er1 er2 k hk
theorem wkp_k (T : TH ρ c h) (K : Kf ρ EWL h o) (W : WkP ρ x0 rm re rb rk rs ro rp rt rw mb km R Bc Bm a h) : WkP ρ x0 rm re rb rk rs ro rp rt rw mb km R Bc Bm a o := by
  obtain ⟨⟨⟨r0, qm, qe, qb, qk, qs, qo⟩, ⟨e46, e47, e48, e55, e56, e57⟩⟩, ⟨e58, e61, e51, e53, e52, e4, e13, e14⟩, ⟨qp, qt, qw, qmb, qkm, qR, qBc, qBm⟩, P, A, D, na, G⟩ := W
  refine ⟨⟨⟨r0, qm, qe, qb, qk, qs, qo⟩, ⟨by rw [kfR 46 K r0]; exact e46, by rw [kfR 47 K r0]; exact e47, by rw [kfR 48 K r0]; exact e48, by rw [kfR 55 K r0]; exact e55, by rw [kfR 56 K r0]; exact e56, by rw [kfR 57 K r0]; exact e57⟩⟩, ⟨by rw [kfR 58 K r0]; exact e58, by rw [kfR 61 K r0]; exact e61, by rw [kfR 51 K r0]; exact e51, by rw [kfR 53 K r0]; exact e53, by rw [kfR 52 K r0]; exact e52, by rw [kfR 4 K r0]; exact e4, by rw [kfR 13 K qR]; exact e13, by rw [kfR 14 K qR]; exact e14⟩, ⟨qp, qt, qw, qmb, qkm, qR, qBc, qBm⟩, ?_, ?_, ?_, na, ?_⟩
  · exact se_k K r0 qm qe qb qk qs e46 e47 e48 e55 e56 P
  · exact alls_of (kfI 49 K r0) (fun i => kfI i K qm) (fun i => kfI i K qe) (fun i => kfI i K qs) (fun i => kfI i K qk) (kfI 10 K qR) (fun i => kfI i K qBc) (fun i => kfI i K qBm) A
  · intro rm' rb' em' eb' k hk
    rw [kfR 46 K r0] at em'
    rw [kfR 53 K r0] at eb'
    rw [kfI 49 K r0] at hk
    have hz1 := r_eq e46 em'
    subst hz1
    have hz1 := r_eq e53 eb'
    subst hz1
    rw [kfI 13 K r0, kfI 49 K r0]
    simp only [kfI _ K qm, kfI _ K qmb]
    exact D rm' rb' em' eb' k hk
  · exact mkg_k K r0 qm qmb qe qkm qR rfl rfl (fun _ => rfl) (fun _ => rfl) (fun _ => rfl) (fun _ => rfl) rfl G
end
end
