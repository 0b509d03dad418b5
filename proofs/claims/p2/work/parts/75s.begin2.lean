/-! the moves of a state into its masks, all good -/
section
variable {ρ : Nat → Nat} {c : Cm} {h h0 o : Hp} {x0 rm re rb rk R l lf lt F : Nat} {x1 x2 x6 : Int32} {n a : Int}
/-- what is wanted of a move: its man is found, is of the side that moves, and may go there -/
def MvG (h : Hp) (rm re R : Nat) (sq : Int) (x1 x2 : Int32) (f t : Int32) : Prop := Rg 0 63 t ∧ (∃ j0 : Nat, (j0 : Int) < (hI h rm x1.toNatClampNeg).toInt ∧ f.toInt = dg (x2.toInt / 2) sq j0) ∧ ∀ j : Nat, (j : Int) < (hI h rm x1.toNatClampNeg).toInt → f.toInt = dg (x2.toInt / 2) sq j → owS h re x1.toNatClampNeg j = (x2 &&& (1 : Int32)).toInt ∧ Gd h rm re R sq x1.toNatClampNeg (x2.toInt / 2) j t.toNatClampNeg
theorem bh_207 {k187 : Hp → Nat → Int32 → Int32 → Int32 → Option Hp} {Q : Hp → Prop} {j0 : Nat} (hF : 700000 ≤ F) (hA : pmA c [(103, 999)]) (T : TH ρ c h) (r0 : ρ x0 = 16) (i1 : Rg 0 4095 x1) (a2 : 0 ≤ x2.toInt) (i6 : Rg 0 2999 x6) (em : hR h x0 46 = some rm) (eb : hR h x0 53 = some rb) (ee : hR h x0 47 = some re) (ek : hR h x0 52 = some rk) (qk : ρ rk = 103) (el : hR h x0 30 = some l) (ef : hR h l 1 = some lf) (et : hR h l 2 = some lt)
    (D : MBd x0 n a h) (en : (hI h x0 49).toInt = n) (ln : (x1.toNatClampNeg : Int) < n) (na : a ≤ 1500000) (w0 : x2.toInt / 2 < (hI h x0 13).toInt ^ (hI h rm x1.toNatClampNeg).toNatClampNeg) (P : MkG x0 rm rb re rk R h)
    (jm : (j0 : Int) < (hI h rm x1.toNatClampNeg).toInt) (jf : (hI h lf x6.toNatClampNeg).toInt = dg (x2.toInt / 2) (hI h x0 13).toInt j0) (G : MvG h rm re R (hI h x0 13).toInt x1 x2 (hI h lf x6.toNatClampNeg) (hI h lt x6.toNatClampNeg))
    (K : ∀ o y, TH ρ c o → EQm rk h o → MkG x0 rm rb re rk R o → y.toInt = x6.toInt + 1 → Sat (k187 o x0 x1 x2 y) Q) : ∀ (f : Nat) {x7 x8 : Int32}, 0 ≤ x7.toInt → x7.toInt ≤ (j0 : Int) → x8.toInt = rsD (x2.toInt / 2) (hI h x0 13).toInt x7.toNatClampNeg → 0 ≤ x8.toInt → ((j0 : Int) - x7.toInt).toNat < f → Sat (sX15_begin_207 F k187 f h x0 x1 x2 x6 x7 x8) Q := by
  have ql : ρ l = 14 := rr T (thR T r0 (i := 30) (k2 := 14) rfl (by decide)) el
  have qf : ρ lf = 66 := rr T (thR T ql (i := 1) (k2 := 66) rfl (by decide)) ef
  have qt : ρ lt = 67 := rr T (thR T ql (i := 2) (k2 := 67) rfl (by decide)) et
  have qm : ρ rm = 99 := rr T (thR T r0 (i := 46) (k2 := 99) rfl (by decide)) em
  have qb : ρ rb = 104 := rr T (thR T r0 (i := 53) (k2 := 104) rfl (by decide)) eb
  have im := thI T qm (k := 99) (i := x1.toNatClampNeg) (lo := 0) (hi := 5) rfl
  have m5 := im.2
  have cm := clamp_i im.1
  have ib := fun k => (thI T qb (k := 104) (i := k) (lo := 0) (hi := 1500000) rfl).1
  have s := thI T r0 (k := 16) (i := 13) (lo := 9) (hi := 64) rfl
  have s9 := s.1
  have d1 := (D rm rb em eb x1.toNatClampNeg ln).1
  have n0 : ¬ hI h x0 13 = 0 := fun z => by rw [z] at s9; exact absurd s9 (by decide)
  intro f
  induction f with
  | zero => intros; omega
  | succ f ih =>
    intro x7 x8 a7 b7 e8 a8 hf
    rw [sX15_begin_207]
    have c7 := clamp_i a7
    have i8 : Rg 0 2147483647 x8 := ⟨a8, (rg_top x8).2⟩
    refine s_gd n0 ?_
    refine s_ref el (s_ref ef ?_)
    refine s_gd (by rw [thN T qf (k := 66) (n := 3000) rfl (by decide)]; exact rg_inB i6 (by decide)) ?_
    have ed : (x8 - x8 / (hI h x0 13) * (hI h x0 13)).toInt = x8.toInt % (hI h x0 13).toInt := tr i8 s (by decide)
    refine s_br (fun q => ?_) (fun q => ?_)
    · have q' : (hI h lf x6.toNatClampNeg).toInt = dg (x2.toInt / 2) (hI h x0 13).toInt x7.toNatClampNeg := by rw [← q, ed, e8]; rfl
      obtain ⟨g1, g2⟩ := G.2.2 x7.toNatClampNeg (by omega) q'
      refine s_ref ek ?_
      have W0 : 0 ≤ x2.toInt / 2 := by omega
      have own : ¬ ((hI h re (5 * x1.toNatClampNeg + x7.toNatClampNeg)) - (1 : Int32)) &&& (1 : Int32) < x2 &&& (1 : Int32) := fun w => by
        have w := lt_i w
        unfold owS at g1
        omega
      refine s_dd (maskOf_q (W := (hI h x0 13).toInt ^ (hI h rm x1.toNatClampNeg).toNatClampNeg) hF T r0 i1 em eb ee a2 (by omega) (by omega) a7 (by omega) own) (fun o7 eq7 ⟨e7, i7⟩ => ?_)
      have mub : (hI h rm x1.toNatClampNeg).toInt * (x2.toInt / 2) ≤ (hI h rm x1.toNatClampNeg).toInt * (hI h x0 13).toInt ^ (hI h rm x1.toNatClampNeg).toNatClampNeg := Int.mul_le_mul_of_nonneg_left (by omega) im.1
      have mx := (mask_x i1 im em eb ee a2 a7 (ib _) (by omega) eq7).2
      rw [e7]
      have gk : inB o7.1 (hN h rk) := by rw [thN T qk (k := 103) (n := 1500000) rfl (by decide)]; exact rg_inB i7 (by decide)
      refine s_gd gk ?_
      refine s_ref el (s_ref et ?_)
      refine s_gd (by rw [thN T qt (k := 67) (n := 3000) rfl (by decide)]; exact rg_inB i6 (by decide)) (s_gd gk ?_)
      refine s_hq (th_wJ T qk (by decide) (pm_a hA rfl)) (fun h13 T13 w13 => ?_)
      refine s_q (fun y ey => ?_)
      have ey2 : y.toInt = x6.toInt + 1 := by rw [ey]; exact (nc_s i6 (by decide)).2
      refine K h13 y T13 ⟨⟨fun a i => by rw [w13]; rfl, fun a i => by rw [w13]; rfl⟩, fun a i na => by rw [w13, r_J, if_neg (fun w => na w.1)]⟩ ?_ ey2
      have c77 := clamp_i i7.1
      exact mkg_w (q0 := x2.toInt / 2) T qm em eb D en ln W0 w0 (by omega) (by rw [c77, mx, g1]) G.1 g2 ib P w13
    · have ne : x7.toInt ≠ (j0 : Int) := fun z => by
        have zn : x7.toNatClampNeg = j0 := by omega
        refine q (Int32.toInt_inj.mp ?_)
        rw [ed, jf, e8, zn]
        rfl
      refine s_gd n0 ?_
      refine s_q (fun v ev => s_q (fun y ey => ?_))
      have i7 : Rg 0 4 x7 := ⟨a7, by omega⟩
      have ny := nc_s i7 (by decide)
      have ey2 : y.toInt = x7.toInt + 1 := by rw [ey]; exact ny.2
      have ey3 : y.toNatClampNeg = x7.toNatClampNeg + 1 := by rw [ey]; exact ny.1
      have ev2 : v.toInt = x8.toInt / (hI h x0 13).toInt := by rw [ev]; exact td i8 s (by decide)
      clear ey ev
      have d0 : 0 ≤ x8.toInt / (hI h x0 13).toInt := Int.ediv_nonneg a8 (by omega)
      exact ih (by omega) (by omega) (by rw [ey3, ev2, e8]; rfl) (by omega) (by omega)
theorem mbd_c {g : Hp} (E : EQh h g) (D : MBd x0 n a h) : MBd x0 n a g := by
  intro rm rb em eb k hk
  rw [E.2] at em eb
  simp only [E.1]
  exact D rm rb em eb k hk
theorem mvg_c {g : Hp} (E : EQh h g) {sq : Int} {f t : Int32} (G : MvG h rm re R sq x1 x2 f t) : MvG g rm re R sq x1 x2 f t := by
  unfold MvG at *
  refine ⟨G.1, by rw [E.1]; exact G.2.1, fun j hj e => ?_⟩
  rw [E.1] at hj
  rw [owS_c E.1]
  exact ⟨(G.2.2 j hj e).1, gd_c E.1 (G.2.2 j hj e).2⟩
theorem bh_187 (hF : 700000 ≤ F) (hA : pmA c [(103, 999)]) (r0 : ρ x0 = 16) (i1 : Rg 0 4095 x1) (a2 : 0 ≤ x2.toInt) (em : hR h0 x0 46 = some rm) (eb : hR h0 x0 53 = some rb) (ee : hR h0 x0 47 = some re) (ek : hR h0 x0 52 = some rk) (qk : ρ rk = 103) (el : hR h0 x0 30 = some l) (ef : hR h0 l 1 = some lf) (et : hR h0 l 2 = some lt)
    (D : MBd x0 n a h0) (en : (hI h0 x0 49).toInt = n) (ln : (x1.toNatClampNeg : Int) < n) (na : a ≤ 1500000) (w0 : x2.toInt / 2 < (hI h0 x0 13).toInt ^ (hI h0 rm x1.toNatClampNeg).toNatClampNeg)
    (G : LA (MvG h0 rm re R (hI h0 x0 13).toInt x1 x2) l lf lt h0) : ∀ (f : Nat) {h : Hp} {x6 : Int32}, TH ρ c h → EQm rk h0 h → MkG x0 rm rb re rk R h → 0 ≤ x6.toInt → (3001 - x6.toInt).toNat < f → Sat (sX15_begin_187 F f h x0 x1 x2 x6) (fun o => TH ρ c o ∧ EQm rk h0 o ∧ MkG x0 rm rb re rk R o) := by
  intro f
  induction f with
  | zero => intros; omega
  | succ f ih =>
    intro h x6 T E P a6 hf
    rw [sX15_begin_187]
    obtain ⟨E1, E2⟩ := E.1
    refine s_ref (by rw [E2]; exact el) ?_
    have ql : ρ l = 14 := rr T (thR T r0 (i := 30) (k2 := 14) rfl (by decide)) (by rw [E2]; exact el)
    have n3 := (thI T ql (k := 14) (i := 0) (lo := 0) (hi := 3000) rfl).2
    refine s_br (fun _ => s_some ⟨T, E, P⟩) (fun n1 => ?_)
    have l6 := nle_i n1
    have i6 : Rg 0 2999 x6 := ⟨a6, by omega⟩
    have c6 := clamp_i a6
    have b6 := i6.2
    refine s_q (fun v ev => ?_)
    have ev2 : v.toInt = x2.toInt / 2 := by rw [ev]; exact ti_shr1
    clear ev
    have G6 := mvg_c E.1 (G x6.toNatClampNeg (by rw [← E1]; omega))
    obtain ⟨j0, jm, je⟩ := G6.2.1
    have z0 : (0 : Int32).toInt = 0 := rfl
    have zc : (0 : Int32).toNatClampNeg = 0 := rfl
    refine bh_207 (j0 := j0) (rm := rm) (rb := rb) (re := re) (rk := rk) (l := l) (lf := lf) (lt := lt) (n := n) (a := a) (R := R) hF hA T r0 i1 a2 i6 (by rw [E2]; exact em) (by rw [E2]; exact eb) (by rw [E2]; exact ee) (by rw [E2]; exact ek) qk (by rw [E2]; exact el) (by rw [E2]; exact ef) (by rw [E2]; exact et) (mbd_c E.1 D) (by rw [E1]; exact en) ln na (by rw [E1, E1]; exact w0) P jm (by rw [E1, E1]; exact je) (by rw [E1, E1, E1]; exact G6) (fun o y To Eo Po ey => ?_) F (by decide) (by rw [z0]; omega) (by rw [zc]; exact ev2) (by omega) ?_
    · exact ih To (eqm_t E Eo) Po (by omega) (by omega)
    · have := (thI T (rr T (thR T r0 (i := 46) (k2 := 99) rfl (by decide)) (by rw [E2]; exact em) : ρ rm = 99) (k := 99) (i := x1.toNatClampNeg) (lo := 0) (hi := 5) rfl).2
      rw [z0]
      omega
end
