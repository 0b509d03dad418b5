/-! masks of the moves of a state -/
def EQh (h0 h : Hp) : Prop := (∀ a i, hI h a i = hI h0 a i) ∧ ∀ a i, hR h a i = hR h0 a i
section
variable {ρ : Nat → Nat} {c : Cm} {h o : Hp} {x0 g M rm re rb rk l lf lt F : Nat} {x1 x2 x6 x7 x8 : Int32} {W : Int}
/-- the man that moves is found among the digits -/
theorem bg_207 {k187 : Hp → Nat → Int32 → Int32 → Int32 → Option Hp} {Q : Hp → Prop} {j0 : Nat} (hF : 700000 ≤ F) (hA : pmA c [(103, 999)]) (T : TH ρ c h) (r0 : ρ x0 = 16) (i1 : Rg 0 4095 x1) (a2 : 0 ≤ x2.toInt) (i6 : Rg 0 2999 x6) (em : hR h x0 46 = some rm) (eb : hR h x0 53 = some rb) (ee : hR h x0 47 = some re) (ek : hR h x0 52 = some rk) (qk : ρ rk = 103) (el : hR h x0 30 = some l) (ef : hR h l 1 = some lf) (et : hR h l 2 = some lt)
    (l2 : x2.toInt / 2 + 1 ≤ W) (hb : (hI h rb x1.toNatClampNeg).toInt + (hI h rm x1.toNatClampNeg).toInt * W ≤ 1500000)
    (jm : (j0 : Int) < (hI h rm x1.toNatClampNeg).toInt) (jf : (hI h lf x6.toNatClampNeg).toInt = rsD (x2.toInt / 2) (hI h x0 13).toInt j0 % (hI h x0 13).toInt)
    (own : ∀ j : Nat, (j : Int) < (hI h rm x1.toNatClampNeg).toInt → (hI h lf x6.toNatClampNeg).toInt = rsD (x2.toInt / 2) (hI h x0 13).toInt j % (hI h x0 13).toInt → ¬ ((hI h re (5 * x1.toNatClampNeg + j)) - (1 : Int32)) &&& (1 : Int32) < x2 &&& (1 : Int32))
    (K : ∀ o y, TH ρ c o → EQh h o → y.toInt = x6.toInt + 1 → Sat (k187 o x0 x1 x2 y) Q) : ∀ (f : Nat) {x7 x8 : Int32}, 0 ≤ x7.toInt → x7.toInt ≤ (j0 : Int) → x8.toInt = rsD (x2.toInt / 2) (hI h x0 13).toInt x7.toNatClampNeg → 0 ≤ x8.toInt → ((j0 : Int) - x7.toInt).toNat < f → Sat (sX15_begin_207 F k187 f h x0 x1 x2 x6 x7 x8) Q := by
  have ql : ρ l = 14 := rr T (thR T r0 (i := 30) (k2 := 14) rfl (by decide)) el
  have qf : ρ lf = 66 := rr T (thR T ql (i := 1) (k2 := 66) rfl (by decide)) ef
  have qt : ρ lt = 67 := rr T (thR T ql (i := 2) (k2 := 67) rfl (by decide)) et
  have qm : ρ rm = 99 := rr T (thR T r0 (i := 46) (k2 := 99) rfl (by decide)) em
  have m5 := (thI T qm (k := 99) (i := x1.toNatClampNeg) (lo := 0) (hi := 5) rfl).2
  have s := thI T r0 (k := 16) (i := 13) (lo := 9) (hi := 64) rfl
  have s9 := s.1
  have n0 : ¬ hI h x0 13 = 0 := fun z => by rw [z] at s9; exact absurd s9 (by decide)
  intro f
  induction f with
  | zero => intros; omega
  | succ f ih =>
    intro x7 x8 a7 b7 e8 a8 hf
    rw [sX15_begin_207]
    have c7 := clamp_i a7
    have i8 : Rg 0 2147483647 x8 := ⟨a8, (rg_top x8).2⟩
    refine s_gd n0 ?_
    refine s_ref el (s_ref ef ?_)
    refine s_gd (by rw [thN T qf (k := 66) (n := 3000) rfl (by decide)]; exact rg_inB i6 (by decide)) ?_
    have ed : (x8 - x8 / (hI h x0 13) * (hI h x0 13)).toInt = x8.toInt % (hI h x0 13).toInt := tr i8 s (by decide)
    refine s_br (fun q => ?_) (fun q => ?_)
    · have q' : (hI h lf x6.toNatClampNeg).toInt = rsD (x2.toInt / 2) (hI h x0 13).toInt x7.toNatClampNeg % (hI h x0 13).toInt := by rw [← q, ed, e8]
      refine s_ref ek ?_
      refine s_cl (s_imp (maskOf_q (W := W) hF T r0 i1 em eb ee a2 l2 hb a7 (by omega) (own _ (by omega) q')) (fun o7 ⟨e7, i7⟩ => ?_))
      rw [e7]
      have gk : inB o7.1 (hN h rk) := by rw [thN T qk (k := 103) (n := 1500000) rfl (by decide)]; exact rg_inB i7 (by decide)
      refine s_gd gk ?_
      refine s_ref el (s_ref et ?_)
      refine s_gd (by rw [thN T qt (k := 67) (n := 3000) rfl (by decide)]; exact rg_inB i6 (by decide)) (s_gd gk ?_)
      refine s_hq (th_wJ T qk (by decide) (pm_a hA rfl)) (fun h13 T13 w13 => ?_)
      refine s_q (fun y ey => ?_)
      have ey2 : y.toInt = x6.toInt + 1 := by rw [ey]; exact (nc_s i6 (by decide)).2
      exact K h13 y T13 ⟨fun a i => by rw [w13]; rfl, fun a i => by rw [w13]; rfl⟩ ey2
    · have ne : x7.toInt ≠ (j0 : Int) := fun z => by
        have zn : x7.toNatClampNeg = j0 := by omega
        refine q (Int32.toInt_inj.mp ?_)
        rw [ed, jf, e8, zn]
      refine s_gd n0 ?_
      refine s_q (fun v ev => s_q (fun y ey => ?_))
      have i7 : Rg 0 4 x7 := ⟨a7, by omega⟩
      have ny := nc_s i7 (by decide)
      have ey2 : y.toInt = x7.toInt + 1 := by rw [ey]; exact ny.2
      have ey3 : y.toNatClampNeg = x7.toNatClampNeg + 1 := by rw [ey]; exact ny.1
      have ev2 : v.toInt = x8.toInt / (hI h x0 13).toInt := by rw [ev]; exact td i8 s (by decide)
      clear ey ev
      have d0 : 0 ≤ x8.toInt / (hI h x0 13).toInt := Int.ediv_nonneg a8 (by omega)
      exact ih (by omega) (by omega) (by rw [ey3, ev2, e8]; rfl) (by omega) (by omega)
/-- all moves of a state go into its masks -/
theorem bg_187 {h0 : Hp} (hF : 700000 ≤ F) (hA : pmA c [(103, 999)]) (r0 : ρ x0 = 16) (i1 : Rg 0 4095 x1) (a2 : 0 ≤ x2.toInt) (em : hR h0 x0 46 = some rm) (eb : hR h0 x0 53 = some rb) (ee : hR h0 x0 47 = some re) (ek : hR h0 x0 52 = some rk) (qk : ρ rk = 103) (el : hR h0 x0 30 = some l) (ef : hR h0 l 1 = some lf) (et : hR h0 l 2 = some lt)
    (l2 : x2.toInt / 2 + 1 ≤ W) (hb : (hI h0 rb x1.toNatClampNeg).toInt + (hI h0 rm x1.toNatClampNeg).toInt * W ≤ 1500000)
    (jf : ∀ i : Nat, (i : Int) < (hI h0 l 0).toInt → ∃ j0 : Nat, (j0 : Int) < (hI h0 rm x1.toNatClampNeg).toInt ∧ (hI h0 lf i).toInt = rsD (x2.toInt / 2) (hI h0 x0 13).toInt j0 % (hI h0 x0 13).toInt)
    (own : ∀ i : Nat, (i : Int) < (hI h0 l 0).toInt → ∀ j : Nat, (j : Int) < (hI h0 rm x1.toNatClampNeg).toInt → (hI h0 lf i).toInt = rsD (x2.toInt / 2) (hI h0 x0 13).toInt j % (hI h0 x0 13).toInt → ¬ ((hI h0 re (5 * x1.toNatClampNeg + j)) - (1 : Int32)) &&& (1 : Int32) < x2 &&& (1 : Int32)) : ∀ (f : Nat) {h : Hp} {x6 : Int32}, TH ρ c h → EQh h0 h → 0 ≤ x6.toInt → (3001 - x6.toInt).toNat < f → Sat (sX15_begin_187 F f h x0 x1 x2 x6) (fun o => TH ρ c o ∧ EQh h0 o) := by
  intro f
  induction f with
  | zero => intros; omega
  | succ f ih =>
    intro h x6 T E a6 hf
    rw [sX15_begin_187]
    obtain ⟨E1, E2⟩ := E
    refine s_ref (by rw [E2]; exact el) ?_
    have ql : ρ l = 14 := rr T (thR T r0 (i := 30) (k2 := 14) rfl (by decide)) (by rw [E2]; exact el)
    have n3 := (thI T ql (k := 14) (i := 0) (lo := 0) (hi := 3000) rfl).2
    refine s_br (fun _ => s_some ⟨T, E1, E2⟩) (fun n1 => ?_)
    have l6 := nle_i n1
    have i6 : Rg 0 2999 x6 := ⟨a6, by omega⟩
    have c6 := clamp_i a6
    have b6 := i6.2
    refine s_q (fun v ev => ?_)
    have ev2 : v.toInt = x2.toInt / 2 := by rw [ev]; exact ti_shr1
    clear ev
    obtain ⟨j0, jm, je⟩ := jf x6.toNatClampNeg (by rw [← E1]; omega)
    have z0 : (0 : Int32).toInt = 0 := rfl
    have zc : (0 : Int32).toNatClampNeg = 0 := rfl
    refine bg_207 (j0 := j0) (rm := rm) (rb := rb) (re := re) (rk := rk) (l := l) (lf := lf) (lt := lt) (W := W) hF hA T r0 i1 a2 i6 (by rw [E2]; exact em) (by rw [E2]; exact eb) (by rw [E2]; exact ee) (by rw [E2]; exact ek) qk (by rw [E2]; exact el) (by rw [E2]; exact ef) (by rw [E2]; exact et) l2 (by rw [E1, E1]; exact hb) (by rw [E1]; exact jm) (by rw [E1, E1]; exact je) (fun j hj hd => ?_) (fun o y To Eo ey => ?_) F (by decide) (by rw [z0]; omega) (by rw [zc]; exact ev2) (by omega) (by rw [z0]; rw [E1] at n3; have := (thI T (rr T (thR T r0 (i := 46) (k2 := 99) rfl (by decide)) (by rw [E2]; exact em) : ρ rm = 99) (k := 99) (i := x1.toNatClampNeg) (lo := 0) (hi := 5) rfl).2; rw [E1] at this; omega)
    · rw [E1] at hj hd ⊢
      rw [E1] at hd
      exact own x6.toNatClampNeg (by rw [← E1]; omega) j hj hd
    · exact ih To ⟨fun a i => (Eo.1 a i).trans (E1 a i), fun a i => (Eo.2 a i).trans (E2 a i)⟩ (by omega) (by omega)
end
