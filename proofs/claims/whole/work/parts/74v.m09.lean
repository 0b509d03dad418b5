section
/-! masks of the moves of a state -/
def EQh (h0 h : Hp) : Prop := (∀ a i, hI h a i = hI h0 a i) ∧ ∀ a i, hR h a i = hR h0 a i
section
variable {ρ : Nat → Nat} {c : Cm} {h o : Hp} {x0 g M rm re rb rk l lf lt F : Nat} {x1 x2 x6 x7 x8 : Int32} {W : Int}
/-- the man that moves is found among the digits -/
theorem bg_207 {k187 : Hp → Nat → Int32 → Int32 → Int32 → Option Hp} {Q : Hp → Prop} {j0 : Nat} (hF : 700000 ≤ F) (hA : pmA c [(103, 999)]) (T : TH ρ c h) (r0 : ρ x0 = 16) (i1 : Rg 0 4095 x1) (a2 : 0 ≤ x2.toInt) (i6 : Rg 0 2999 x6) (em : hR h x0 46 = some rm) (eb : hR h x0 53 = some rb) (ee : hR h x0 47 = some re) (ek : hR h x0 52 = some rk) (qk : ρ rk = 103) (el : hR h x0 30 = some l) (ef : hR h l 1 = some lf) (et : hR h l 2 = some lt)
    (l2 : x2.toInt / 2 + 1 ≤ W) (hb : (hI h rb x1.toNatClampNeg).toInt + (hI h rm x1.toNatClampNeg).toInt * W ≤ 1500000)
    (jm : (j0 : Int) < (hI h rm x1.toNatClampNeg).toInt) (jf : (hI h lf x6.toNatClampNeg).toInt = rsD (x2.toInt / 2) (hI h x0 13).toInt j0 % (hI h x0 13).toInt)
    (own : ∀ j : Nat, (j : Int) < (hI h rm x1.toNatClampNeg).toInt → (hI h lf x6.toNatClampNeg).toInt = rsD (x2.toInt / 2) (hI h x0 13).toInt j % (hI h x0 13).toInt → ¬ ((hI h re (5 * x1.toNatClampNeg + j)) - (1 : Int32)) &&& (1 : Int32) < x2 &&& (1 : Int32))
    (K : ∀ o y, TH ρ c o → EQh h o → y.toInt = x6.toInt + 1 → Sat (k187 o x0 x1 x2 y) Q) : ∀ (f : Nat) {x7 x8 : Int32}, 0 ≤ x7.toInt → x7.toInt ≤ (j0 : Int) → x8.toInt = rsD (x2.toInt / 2) (hI h x0 13).toInt x7.toNatClampNeg → 0 ≤ x8.toInt → ((j0 : Int) - x7.toInt).toNat < f → Sat (sX15_begin_207 F k187 f h x0 x1 x2 x6 x7 x8) Q := by
  have ql : ρ l = 14 := rr T (thR T r0 (i := 30) (k2 := 14) rfl (by decide)) el
  have qf : ρ lf = 66 := rr T (thR T ql (i := 1) (k2 := 66) rfl (by decide)) ef
  have qt : ρ lt = 67 := rr T (thR T ql (i := 2) (k2 := 67) rfl (by decide)) et
  have qm : ρ rm = 99 := rr T (thR T r0 (i := 46) (k2 := 99) rfl (by decide)) em
  have m5 := (thI T qm (k := 99) (i := x1.toNatClampNeg) (lo := 0) (hi := 5) rfl).2
  have s := thI T r0 (k := 16) (i := 13) (lo := 9) (hi := 64) rfl
  have s9 := s.1
  have n0 : ¬ hI h x0 13 = 0 := fun z => by rw [z] at s9; exact absurd s9 (by decide)
  intro f
  induction f with
  | zero => intros; omega
  | succ f ih =>
    intro x7 x8 a7 b7 e8 a8 hf
    rw [sX15_begin_207]
    have c7 := clamp_i a7
    have i8 : Rg 0 2147483647 x8 := ⟨a8, (rg_top x8).2⟩
    refine s_gd n0 ?_
    refine s_ref el (s_ref ef ?_)
    refine s_gd (by rw [thN T qf (k := 66) (n := 3000) rfl (by decide)]; exact rg_inB i6 (by decide)) ?_
    have ed : (x8 - x8 / (hI h x0 13) * (hI h x0 13)).toInt = x8.toInt % (hI h x0 13).toInt := tr i8 s (by decide)
    refine s_br (fun q => ?_) (fun q => ?_)
    · have q' : (hI h lf x6.toNatClampNeg).toInt = rsD (x2.toInt / 2) (hI h x0 13).toInt x7.toNatClampNeg % (hI h x0 13).toInt := by rw [← q, ed, e8]
      refine s_ref ek ?_
      refine s_cl (s_imp (maskOf_q (W := W) hF T r0 i1 em eb ee a2 l2 hb a7 (by omega) (own _ (by omega) q')) (fun o7 ⟨e7, i7⟩ => ?_))
      rw [e7]
      have gk : inB o7.1 (hN h rk) := by rw [thN T qk (k := 103) (n := 1500000) rfl (by decide)]; exact rg_inB i7 (by decide)
      refine s_gd gk ?_
      refine s_ref el (s_ref et ?_)
      refine s_gd (by rw [thN T qt (k := 67) (n := 3000) rfl (by decide)]; exact rg_inB i6 (by decide)) (s_gd gk ?_)
      refine s_hq (th_wJ T qk (by decide) (pm_a hA rfl)) (fun h13 T13 w13 => ?_)
      refine s_q (fun y ey => ?_)
      have ey2 : y.toInt = x6.toInt + 1 := by rw [ey]; exact (nc_s i6 (by decide)).2
      exact K h13 y T13 ⟨fun a i => by rw [w13]; rfl, fun a i => by rw [w13]; rfl⟩ ey2
    · have ne : x7.toInt ≠ (j0 : Int) := fun z => by
        have zn : x7.toNatClampNeg = j0 := by omega
        refine q (Int32.toInt_inj.mp ?_)
        rw [ed, jf, e8, zn]
      refine s_gd n0 ?_
      refine s_q (fun v ev => s_q (fun y ey => ?_))
      have i7 : Rg 0 4 x7 := ⟨a7, by omega⟩
      have ny := nc_s i7 (by decide)
      have ey2 : y.toInt = x7.toInt + 1 := by rw [ey]; exact ny.2
      have ey3 : y.toNatClampNeg = x7.toNatClampNeg + 1 := by rw [ey]; exact ny.1
      have ev2 : v.toInt = x8.toInt / (hI h x0 13).toInt := by rw [ev]; exact td i8 s (by decide)
      clear ey ev
      have d0 : 0 ≤ x8.toInt / (hI h x0 13).toInt := Int.ediv_nonneg a8 (by omega)
      exact ih (by omega) (by omega) (by rw [ey3, ev2, e8]; rfl) (by omega) (by omega)
/-- all moves of a state go into its masks -/
theorem bg_187 {h0 : Hp} (hF : 700000 ≤ F) (hA : pmA c [(103, 999)]) (r0 : ρ x0 = 16) (i1 : Rg 0 4095 x1) (a2 : 0 ≤ x2.toInt) (em : hR h0 x0 46 = some rm) (eb : hR h0 x0 53 = some rb) (ee : hR h0 x0 47 = some re) (ek : hR h0 x0 52 = some rk) (qk : ρ rk = 103) (el : hR h0 x0 30 = some l) (ef : hR h0 l 1 = some lf) (et : hR h0 l 2 = some lt)
    (l2 : x2.toInt / 2 + 1 ≤ W) (hb : (hI h0 rb x1.toNatClampNeg).toInt + (hI h0 rm x1.toNatClampNeg).toInt * W ≤ 1500000)
    (jf : ∀ i : Nat, (i : Int) < (hI h0 l 0).toInt → ∃ j0 : Nat, (j0 : Int) < (hI h0 rm x1.toNatClampNeg).toInt ∧ (hI h0 lf i).toInt = rsD (x2.toInt / 2) (hI h0 x0 13).toInt j0 % (hI h0 x0 13).toInt)
    (own : ∀ i : Nat, (i : Int) < (hI h0 l 0).toInt → ∀ j : Nat, (j : Int) < (hI h0 rm x1.toNatClampNeg).toInt → (hI h0 lf i).toInt = rsD (x2.toInt / 2) (hI h0 x0 13).toInt j % (hI h0 x0 13).toInt → ¬ ((hI h0 re (5 * x1.toNatClampNeg + j)) - (1 : Int32)) &&& (1 : Int32) < x2 &&& (1 : Int32)) : ∀ (f : Nat) {h : Hp} {x6 : Int32}, TH ρ c h → EQh h0 h → 0 ≤ x6.toInt → (3001 - x6.toInt).toNat < f → Sat (sX15_begin_187 F f h x0 x1 x2 x6) (fun o => TH ρ c o ∧ EQh h0 o) := by
  intro f
  induction f with
  | zero => intros; omega
  | succ f ih =>
    intro h x6 T E a6 hf
    rw [sX15_begin_187]
    obtain ⟨E1, E2⟩ := E
    refine s_ref (by rw [E2]; exact el) ?_
    have ql : ρ l = 14 := rr T (thR T r0 (i := 30) (k2 := 14) rfl (by decide)) (by rw [E2]; exact el)
    have n3 := (thI T ql (k := 14) (i := 0) (lo := 0) (hi := 3000) rfl).2
    refine s_br (fun _ => s_some ⟨T, E1, E2⟩) (fun n1 => ?_)
    have l6 := nle_i n1
    have i6 : Rg 0 2999 x6 := ⟨a6, by omega⟩
    have c6 := clamp_i a6
    have b6 := i6.2
    refine s_q (fun v ev => ?_)
    have ev2 : v.toInt = x2.toInt / 2 := by rw [ev]; exact ti_shr1
    clear ev
    obtain ⟨j0, jm, je⟩ := jf x6.toNatClampNeg (by rw [← E1]; omega)
    have z0 : (0 : Int32).toInt = 0 := rfl
    have zc : (0 : Int32).toNatClampNeg = 0 := rfl
    refine bg_207 (j0 := j0) (rm := rm) (rb := rb) (re := re) (rk := rk) (l := l) (lf := lf) (lt := lt) (W := W) hF hA T r0 i1 a2 i6 (by rw [E2]; exact em) (by rw [E2]; exact eb) (by rw [E2]; exact ee) (by rw [E2]; exact ek) qk (by rw [E2]; exact el) (by rw [E2]; exact ef) (by rw [E2]; exact et) l2 (by rw [E1, E1]; exact hb) (by rw [E1]; exact jm) (by rw [E1, E1]; exact je) (fun j hj hd => ?_) (fun o y To Eo ey => ?_) F (by decide) (by rw [z0]; omega) (by rw [zc]; exact ev2) (by omega) (by rw [z0]; rw [E1] at n3; have := (thI T (rr T (thR T r0 (i := 46) (k2 := 99) rfl (by decide)) (by rw [E2]; exact em) : ρ rm = 99) (k := 99) (i := x1.toNatClampNeg) (lo := 0) (hi := 5) rfl).2; rw [E1] at this; omega)
    · rw [E1] at hj hd ⊢
      rw [E1] at hd
      exact own x6.toNatClampNeg (by rw [← E1]; omega) j hj hd
    · exact ih To ⟨fun a i => (Eo.1 a i).trans (E1 a i), fun a i => (Eo.2 a i).trans (E2 a i)⟩ (by omega) (by omega)
end
end
section
/-! where the masks of a set begin -/
def MBg (x0 : Nat) (n : Int) (h : Hp) : Prop := ∀ rm rb, hR h x0 46 = some rm → hR h x0 53 = some rb → ∀ k : Nat, (k : Int) < n → (hI h rb k).toInt + (hI h rm k).toInt * (hI h x0 13).toInt ^ (hI h rm k).toNatClampNeg ≤ 1500000
/-- the masks of the sets one behind the other -/
def MBd (x0 : Nat) (n a : Int) (h : Hp) : Prop := ∀ rm rb, hR h x0 46 = some rm → hR h x0 53 = some rb → ∀ k : Nat, (k : Int) < n → (hI h rb k).toInt + (hI h rm k).toInt * (hI h x0 13).toInt ^ (hI h rm k).toNatClampNeg ≤ a ∧ ∀ k2 : Nat, k < k2 → (k2 : Int) < n → (hI h rb k).toInt + (hI h rm k).toInt * (hI h x0 13).toInt ^ (hI h rm k).toNatClampNeg ≤ (hI h rb k2).toInt
section
variable {ρ : Nat → Nat} {c : Cm} {h o : Hp} {x0 F : Nat} {x3 x4 : Int32} {n0 : Int}
theorem se_104 (T : TH ρ c h) (r0 : ρ x0 = 16) (f : Fr ρ (cat c (fS [(104, 999)] []) h) h o) (P : SE x0 h) : SE x0 o := by
  have g : ∀ {i k2 r k : Nat}, rfK 16 i = k2 → k2 ≠ 0 → mS [(104, 999)] k2 k = false → hR h x0 i = some r → hI o r k = hI h r k := fun {i k2 r k} e1 e2 e3 er => (fr_RI f (rr T (thR T r0 (i := i) (k2 := k2) e1 e2) er) e2 (fun _ => fs_nf e3)).1
  exact se_of (fun i => (fr_RI f r0 (by decide) (fun _ => rfl)).2.2) (fr_RI f r0 (by decide) (fun _ => rfl)).1 (fr_RI f r0 (by decide) (fun _ => rfl)).1 (fr_RI f r0 (by decide) (fun _ => rfl)).2.1 (fun r er k _ => g (i := 46) (k2 := 99) rfl (by decide) rfl er) (fun r er k _ => g (i := 48) (k2 := 101) rfl (by decide) rfl er) (fun r er k _ => g (i := 47) (k2 := 100) rfl (by decide) rfl er) (fun r er k => g (i := 55) (k2 := 106) rfl (by decide) rfl er) (fun r er k => g (i := 56) (k2 := 107) rfl (by decide) rfl er) (m5_of T r0) P
/-- how many masks there are so far -/
def AllB (x0 : Nat) (k : Nat) (a : Int) (h : Hp) : Prop := ∀ rb, hR h x0 48 = some rb → 2 * a ≤ 5 * (if (k : Int) < (hI h x0 49).toInt then (hI h rb k).toInt else (hJ h x0 59).toInt)
theorem so_246 {Q : Int32 × Hp → Prop} (hF : 700000 ≤ F) (hA : pmA c [(104, 999)]) (r0 : ρ x0 = 16)
    (K : ∀ o y, TH ρ c o → SE x0 o → (hI o x0 49).toInt = n0 → MBg x0 n0 o → MBd x0 n0 y.toInt o → Rg 0 1500000 y → Sat (onr (hR o x0 52) (nm (hS o) fun a_4 => nm (nC o 18 (1500000 : Int32).toNatClampNeg (1500000 : Int32).toNatClampNeg) fun h_5 => sX15_solve_301 F h_5 x0 y a_4 x0) (fun r_2 => sX15_solve_304 F o x0 y)) Q) : ∀ (f : Nat) {h : Hp} {x3 x4 : Int32}, TH ρ c h → SE x0 h → (hI h x0 49).toInt = n0 → 0 ≤ x4.toInt → x4.toInt ≤ n0 → 0 ≤ x3.toInt → AllB x0 x4.toNatClampNeg x3.toInt h → MBg x0 x4.toInt h → MBd x0 x4.toInt x3.toInt h → (4097 - x4.toInt).toNat < f → Sat (sX15_solve_246 F f h x0 x3 x4) Q := by
  intro f
  induction f with
  | zero => intros; omega
  | succ f ih =>
    intro h x3 x4 T P pn a4 b4 a3 B MB MD hf
    rw [sX15_solve_246]
    unfold sX15_solve_270
    have in0 := thI T r0 (k := 16) (i := 49) (lo := 0) (hi := 4096) rfl
    have n4 := in0.2
    have c4 := clamp_i a4
    have s2 := P.2.1.2
    obtain ⟨rs, es, qs⟩ := thR T r0 (i := 48) (k2 := 101) rfl (by decide)
    obtain ⟨rm, em, qm⟩ := thR T r0 (i := 46) (k2 := 99) rfl (by decide)
    have Bs := B rs es
    refine s_br (fun l => ?_) (fun n1 => ?_)
    · have l' := le_i l
      rw [if_neg (by omega)] at Bs
      have ez : x4.toInt = n0 := by omega
      rw [ez] at MB MD
      exact K h x3 T P pn MB MD ⟨a3, by omega⟩
    · have l4 := nle_i n1
      have i4 : Rg 0 4095 x4 := ⟨a4, by omega⟩
      rw [if_pos (by omega)] at Bs
      obtain ⟨rb, eb, qb⟩ := thR T r0 (i := 53) (k2 := 104) rfl (by decide)
      have W6 := many_6 (k := x4.toNatClampNeg) em es P (by omega)
      have m5 := thI T qm (k := 99) (i := x4.toNatClampNeg) (lo := 0) (hi := 5) rfl
      have m50 := m5.1
      have m51 := m5.2
      have ib0 := (thI T qs (k := 101) (i := x4.toNatClampNeg) (lo := 0) (hi := 600000) rfl).1
      have s9 := (thI T r0 (k := 16) (i := 13) (lo := 9) (hi := 64) rfl).1
      have p0 : 0 ≤ (hI h x0 13).toInt ^ (hI h rm x4.toNatClampNeg).toNatClampNeg := Int.pow_nonneg (by omega)
      have mu : (hI h rm x4.toNatClampNeg).toInt * (hI h x0 13).toInt ^ (hI h rm x4.toNatClampNeg).toNatClampNeg ≤ 5 * (hI h x0 13).toInt ^ (hI h rm x4.toNatClampNeg).toNatClampNeg := Int.mul_le_mul_of_nonneg_right m51 p0
      have mu0 : 0 ≤ (hI h rm x4.toNatClampNeg).toInt * (hI h x0 13).toInt ^ (hI h rm x4.toNatClampNeg).toNatClampNeg := Int.mul_nonneg m50 p0
      refine s_ref eb ?_
      refine s_gd (by rw [thN T qb (k := 104) (n := 4096) rfl (by decide)]; exact rg_inB i4 (by decide)) ?_
      refine s_hq (th_wI T qb (k := 104) (lo := 0) (hi := 1500000) rfl ⟨a3, by omega⟩ (by decide) (by decide) (pm_a hA rfl)) (fun h8 T8 w8 => ?_)
      have f8 := fr1I (c := c) (A := [(104, 999)]) qb rfl w8
      have P8 := se_104 T r0 f8 P
      have R8 : ∀ a i, hR h8 a i = hR h a i := fun a i => by rw [w8]; rfl
      have g8 : ∀ {a k : Nat}, ρ a = k → k ≠ 104 → ∀ i, hI h8 a i = hI h a i := fun {a k} ea hk i => by rw [w8, r_I, if_neg (ne_r ea qb hk)]
      have e13 : hI h8 x0 13 = hI h x0 13 := g8 r0 (by decide) _
      have ev : hI h8 rm x4.toNatClampNeg = hI h rm x4.toNatClampNeg := g8 qm (by decide) _
      refine s_cl (s_imp (sizeOf_q (x1 := x4) (rm := rm) hF T8 r0 i4 (by rw [R8]; exact em) (by rw [e13, ev]; omega)) (fun o9 ⟨e9, v9⟩ => ?_))
      rw [e9]
      rw [e13, ev] at v9
      refine s_ref (by rw [R8]; exact em) ?_
      refine s_gd (by rw [thN T8 qm (k := 99) (n := 4096) rfl (by decide)]; exact rg_inB i4 (by decide)) ?_
      rw [ev]
      have i9 : Rg 0 600000 o9.1 := ⟨by omega, by omega⟩
      have eh : (o9.1 / (2 : Int32)).toInt = (hI h x0 13).toInt ^ (hI h rm x4.toNatClampNeg).toNatClampNeg := by
        rw [td i9 (rg_b rfl : Rg 2 2 (2 : Int32)) (by decide), v9]
        show 2 * (hI h x0 13).toInt ^ (hI h rm x4.toNatClampNeg).toNatClampNeg / 2 = _
        omega
      have cm : (o9.1 / (2 : Int32)).toInt * (hI h rm x4.toNatClampNeg).toInt = (hI h rm x4.toNatClampNeg).toInt * (hI h x0 13).toInt ^ (hI h rm x4.toNatClampNeg).toNatClampNeg := by rw [eh, Int.mul_comm]
      have et : ((o9.1 / (2 : Int32)) * (hI h rm x4.toNatClampNeg)).toInt = (hI h rm x4.toNatClampNeg).toInt * (hI h x0 13).toInt ^ (hI h rm x4.toNatClampNeg).toNatClampNeg := by rw [tm ⟨by rw [cm]; omega, by rw [cm]; omega⟩, cm]
      refine s_q (fun v ev3 => s_q (fun y ey => ?_))
      have v2 : v.toInt = x3.toInt + (hI h rm x4.toNatClampNeg).toInt * (hI h x0 13).toInt ^ (hI h rm x4.toNatClampNeg).toNatClampNeg := by rw [ev3, ta ⟨by rw [et]; omega, by rw [et]; omega⟩, et]
      have ny := nc_s i4 (by decide)
      have ey2 : y.toInt = x4.toInt + 1 := by rw [ey]; exact ny.2
      have ey3 : y.toNatClampNeg = x4.toNatClampNeg + 1 := by rw [ey]; exact ny.1
      clear ev3 ey
      have e49 : hI h8 x0 49 = hI h x0 49 := g8 r0 (by decide) _
      have J8 : hJ h8 x0 59 = hJ h x0 59 := by rw [w8]; rfl
      refine ih T8 P8 (by rw [e49]; exact pn) (by omega) (by omega) (by omega) ?_ ?_ ?_ (by omega)
      · intro rs' es'
        rw [R8] at es'
        have hz := r_eq es es'
        subst hz
        rw [ey3, e49, J8, g8 qs (by decide)]
        by_cases z : ((x4.toNatClampNeg + 1 : Nat) : Int) < (hI h x0 49).toInt
        · rw [if_pos z]
          have := P.2.2.2.2.2 rm rs' em es' x4.toNatClampNeg (by omega)
          omega
        · rw [if_neg z]
          have := P.2.2.1 rm rs' em es' x4.toNatClampNeg (by omega)
          omega
      · intro rm' rb' em' eb' k hk
        rw [R8] at em' eb'
        have hz := r_eq em em'
        subst hz
        have hz := r_eq eb eb'
        subst hz
        rw [e13, g8 qm (by decide)]
        by_cases z : k = x4.toNatClampNeg
        · rw [z, he_s w8]
          omega
        · rw [w8, r_I, if_neg (fun q => z q.2)]
          exact MB rm' rb' em' eb' k (by omega)
      · intro rm' rb' em' eb' k hk
        rw [R8] at em' eb'
        have hz := r_eq em em'
        subst hz
        have hz := r_eq eb eb'
        subst hz
        rw [e13, g8 qm (by decide)]
        by_cases z : k = x4.toNatClampNeg
        · rw [z, he_s w8]
          exact ⟨by omega, fun k2 l1 l2 => by omega⟩
        · rw [w8, r_I, if_neg (fun q => z q.2)]
          obtain ⟨d1, d2⟩ := MD rm' rb' em' eb' k (by omega)
          refine ⟨by omega, fun k2 l1 l2 => ?_⟩
          by_cases z2 : k2 = x4.toNatClampNeg
          · rw [r_I, if_pos ⟨rfl, z2⟩]; exact d1
          · rw [r_I, if_neg (fun q => z2 q.2)]; exact d2 k2 l1 (by omega)
end
end
section
/-- the row of masks is made -/
theorem newMasks {ρ : Nat → Nat} {c : Cm} {h h2 : Hp} {a k z : Nat} (T : TH ρ c h) (ea : a = hS h) (eh : h2 = nC h k 1500000 z) : ∃ ρ' c', Ext ρ c ρ' c' ∧ TH ρ' c' h2 ∧ ρ' a = 103 ∧ Old h h2 := by
  have t1 : h.1 = c.1 := T.1.1
  have lt : ∀ b, ρ b ≠ 0 → b < h.1.1 := fun b hb => by rw [t1]; exact T.2.1.2.2.1 b hb
  have z0 : ∀ b, h.1.1 ≤ b → ρ b = 0 := fun b hb => by
    by_cases q : ρ b = 0
    · exact q
    · have := lt b q; omega
  have eS : hS h = h.1.1 := rfl
  have ea' : a = h.1.1 := ea
  have O : Old h h2 := fun b hb => by
    have nb : ¬ b = hS h := by rw [eS]; omega
    rw [eh]
    exact ⟨fun i => by rw [nC_I, if_neg nb], fun i => by rw [nC_J, if_neg nb], fun i => by rw [nC_R, if_neg nb], by rw [nC_N, if_neg nb]⟩
  have o1 : h2.1.1 = h.1.1 + 1 := by rw [eh]; rfl
  let ρ' : Nat → Nat := fun b => if b = h.1.1 then 103 else ρ b
  have ro : ∀ b, b < h.1.1 → ρ' b = ρ b := fun b hb => if_neg (by omega)
  have rn : ρ' h.1.1 = 103 := if_pos rfl
  have rc : ∀ b, h.1.1 ≤ b → ρ' b = 103 ∨ ρ' b = 0 := fun b hb => by
    by_cases q : b = h.1.1
    · exact Or.inl (if_pos q)
    · exact Or.inr ((if_neg q).trans (z0 b hb))
  have hz : ∀ b, h.1.1 ≤ b → ρ' b = 103 → b = h.1.1 := fun b hb q => by
    by_cases y : b = h.1.1
    · exact y
    · have : ρ' b = 0 := (if_neg y).trans (z0 b hb)
      rw [this] at q; exact absurd q (by decide)
  have TT := adopt T O ρ' (cw c) (by omega) ro (fun b hb => (if_neg (by omega)).trans (z0 b (by omega))) (fun _ _ => rfl)
    (fun b i hb => by rcases rc b hb with q | q <;> rw [q] <;> exact ⟨rg_top _, rp0 rfl⟩)
    (fun b i hb hk => by rcases rc b hb with q | q <;> rw [q] at hk <;> exact absurd rfl hk)
    (fun b i hb => by rcases rc b hb with q | q <;> rw [q] <;> rfl)
    (fun b hb hk => by
      rcases rc b hb with q | q
      · rw [q, eh, nC_N, if_pos (show b = hS h from hz b hb q)]; rfl
      · rw [q] at hk; exact absurd rfl hk)
    (fun b hb => by rcases rc b hb with q | q <;> rw [q] <;> decide)
    (fun p i r hb hp => by rcases rc p hb with q | q <;> rw [q] at hp <;> exact absurd hp (by decide))
    (fun p q i r hb _ hp => by rcases rc p hb with q | q <;> rw [q] at hp <;> exact absurd hp (by decide))
    (fun b i hb => by rcases rc b hb with q | q <;> rw [q] <;> rfl)
    (fun b hb => by rcases rc b hb with q | q <;> rw [q] <;> rfl)
    (fun b i r hb hi => by rcases rc b hb with q | q <;> rw [q] at hi <;> exact absurd hi (by decide))
    (fun b i hb => by rcases rc b hb with q | q <;> rw [q] <;> rfl)
    (fun b i r hb h0 hr => by
      rcases rc b hb with q | q
      · rw [eh, nC_R, if_pos (show b = hS h from hz b hb q)] at hr
        exact absurd hr (by simp)
      · exact absurd q h0)
  refine ⟨ρ', (h2.1, (c.2.1, (cw c, c.2.2.2))), ⟨fun b hb => ⟨ro b (lt b hb), rfl⟩, rfl, rfl, ?_, fun b hb => ro b (by rw [t1]; exact hb)⟩, TT, by rw [ea']; exact rn, O⟩
  show c.1.1 ≤ h2.1.1
  rw [o1, ← t1]; omega
end
section
/-! the rows of a solution are cleared (as many rounds as there may be masks: more than 1500000) -/
section
variable {ρ : Nat → Nat} {c : Cm} {h o h0 : Hp} {x0 rk rc F : Nat} {x3 x4 : Int32}
theorem eqh_t {h1 h2 : Hp} (a : EQh h0 h1) (b : EQh h1 h2) : EQh h0 h2 := ⟨fun x i => (b.1 x i).trans (a.1 x i), fun x i => (b.2 x i).trans (a.2 x i)⟩
/-- so many masks are 0 -/
def MZ (rk : Nat) (n : Int) (h : Hp) : Prop := ∀ i : Nat, (i : Int) < n → hJ h rk i = 0
theorem so_330 {n : Int} (nr : ¬ ρ rk = 105) {Q : Int32 × Hp → Prop} (hA : pmA c [(105, 999)]) (r0 : ρ x0 = 16) (K : ∀ o, TH ρ c o → EQh h0 o → MZ rk n o → Sat (sX15_solve_357 F F o x0 (0 : Int32)) Q) : ∀ (f : Nat) {h : Hp} {x4 : Int32}, TH ρ c h → EQh h0 h → MZ rk n h → 0 ≤ x4.toInt → (9377 - x4.toInt).toNat < f → Sat (sX15_solve_330 F f h x0 x4) Q := by
  intro f
  induction f with
  | zero => intros; omega
  | succ f ih =>
    intro h x4 T E Z a4 hf
    rw [sX15_solve_330]
    obtain ⟨r1, e1, q1⟩ := thR T r0 (i := 54) (k2 := 105) rfl (by decide)
    have hn : hN h r1 = 9376 := thN T q1 (k := 105) (n := 9376) rfl (by decide)
    have z : (nI 9376).toInt = 9376 := rfl
    refine s_ref e1 ?_
    rw [hn]
    refine s_br (fun _ => K h T E Z) (fun n1 => ?_)
    have l4 := nle_i n1
    rw [z] at l4
    have i4 : Rg 0 9375 x4 := ⟨a4, by omega⟩
    refine s_ref e1 ?_
    refine s_gd (by rw [hn]; exact rg_inB i4 (by decide)) ?_
    refine s_hq (th_wJ T q1 (by decide) (pm_a hA rfl)) (fun h5 T5 w5 => ?_)
    refine s_q (fun y ey => ?_)
    have ey2 : y.toInt = x4.toInt + 1 := by rw [ey]; exact (nc_s i4 (by decide)).2
    clear ey
    refine ih T5 (eqh_t E ⟨fun a i => by rw [w5]; rfl, fun a i => by rw [w5]; rfl⟩) (fun i hi => ?_) (by omega) (by omega)
    rw [w5, r_J, if_neg (fun w => nr (by rw [w.1]; exact q1))]
    exact Z i hi
theorem so_307 {Q : Int32 × Hp → Prop} (hF : 1600000 ≤ F) (hA : pmA c [(103, 999), (105, 999)]) (r0 : ρ x0 = 16) (qk : ρ rk = 103) (ek : hR h0 x0 52 = some rk) (i3 : Rg 0 1500000 x3) (K : ∀ o, TH ρ c o → EQh h0 o → MZ rk x3.toInt o → Sat (sX15_solve_357 F F o x0 (0 : Int32)) Q) : ∀ (f : Nat) {h : Hp} {x4 : Int32}, TH ρ c h → EQh h0 h → 0 ≤ x4.toInt → x4.toInt ≤ x3.toInt → MZ rk x4.toInt h → (1500001 - x4.toInt).toNat < f → Sat (sX15_solve_307 F f h x0 x3 x4) Q := by
  have b3 := i3.2
  intro f
  induction f with
  | zero => intros; omega
  | succ f ih =>
    intro h x4 T E a4 b4 Z hf
    rw [sX15_solve_307]
    have z0 : (0 : Int32).toInt = 0 := rfl
    refine s_br (fun l => so_330 (n := x3.toInt) (rk := rk) (by rw [qk]; decide) (pmA_s hA rfl) r0 K F T E (fun i hi => Z i (by have := le_i l; omega)) (by decide) (by rw [z0]; omega)) (fun n1 => ?_)
    have l4 := nle_i n1
    have i4 : Rg 0 1499999 x4 := ⟨a4, by omega⟩
    refine s_ref (by rw [E.2]; exact ek) ?_
    refine s_gd (by rw [thN T qk (k := 103) (n := 1500000) rfl (by decide)]; exact rg_inB i4 (by decide)) ?_
    refine s_hq (th_wJ T qk (by decide) (pm_a hA rfl)) (fun h5 T5 w5 => ?_)
    refine s_q (fun y ey => ?_)
    have ey2 : y.toInt = x4.toInt + 1 := by rw [ey]; exact (nc_s i4 (by decide)).2
    clear ey
    refine ih T5 (eqh_t E ⟨fun a i => by rw [w5]; rfl, fun a i => by rw [w5]; rfl⟩) (by omega) (by omega) (fun i hi => ?_) (by omega)
    have c4 := clamp_i a4
    rw [w5]
    by_cases w : i = x4.toNatClampNeg
    · rw [r_J, if_pos ⟨rfl, w⟩]
    · rw [r_J, if_neg (fun q => w q.2)]
      exact Z i (by omega)
end
end
section
/-! the letters of a solution -/
section
variable {ρ : Nat → Nat} {c : Cm} {h o : Hp} {x0 F : Nat} {x1 x2 x3 x4 : Int32}
theorem so_54 {Q : Int32 × Hp → Prop} (hF : 700000 ≤ F) (hA : pmA c [(108, 999)]) (r0 : ρ x0 = 16) (i1 : Rg 0 1200 x1) (ex : ∀ (o : Hp) (v : Int32), TH ρ c o → Q (v, o))
    (K : ∀ o, TH ρ c o → RW x0 x1.toInt o → Rg 2 5 x1 → Sat (nm (wI o x0 49 (0 : Int32)) fun h_3 => nm (wJ h_3 x0 59 (0 : Int64)) fun h_4 => nm (wI h_4 x0 50 (0 : Int32)) fun h_5 => sX15_solve_203 F F h_5 x0 x1 (0 : Int32)) Q) : ∀ (f : Nat) {h : Hp} {x2 x3 : Int32}, TH ρ c h → Rg 0 5 x3 → x3.toInt ≤ x1.toInt → RW x0 x3.toInt h → (6 - x3.toInt).toNat < f → Sat (sX15_solve_54 F f h x0 x1 x2 x3) Q := by
  intro f
  induction f with
  | zero => intros; omega
  | succ f ih =>
    intro h x2 x3 T i3 b3 R hf
    rw [sX15_solve_54]
    have a3 := i3.1
    have c3 := i3.2
    refine s_br (fun l => ?_) (fun n1 => ?_)
    · have l' := le_i l
      refine s_br (fun l2 => ?_) (fun _ => s_some (ex _ _ T))
      have l2' : (2 : Int) ≤ x1.toInt := le_i l2
      have e : x3.toInt = x1.toInt := by omega
      rw [e] at R
      exact K h T R ⟨l2', by omega⟩
    · have l' := nle_i n1
      obtain ⟨r6, e6, q6⟩ := thR T r0 (i := 0) (k2 := 82) rfl (by decide)
      refine s_ref e6 ?_
      refine s_gd (by rw [thN T q6 (k := 82) (n := 1220) rfl (by decide)]; exact rg_inB (rg_m i3 (by decide) : Rg 0 5 x3) (by decide)) ?_
      refine s_cI0q (zX15_manLetter hF T r0 (thI T q6 (k := 82) (lo := -128) (hi := 127) rfl)) (fun o8 e8 i8 _ => ?_)
      rw [e8]
      have f159 : ∀ {v t0 t1 : Int32}, Rg 1 24 v → Rg 0 4 x3 → Sat (sX15_solve_159 F (sX15_solve_54 F f) h x0 x1 x3 v t0 t1) Q := fun {v t0 t1} iv i3' => by
        unfold sX15_solve_159
        refine s_q (fun u _ => ?_)
        obtain ⟨ro, eo, qo⟩ := thR T r0 (i := 57) (k2 := 108) rfl (by decide)
        refine s_ref eo ?_
        refine s_gd (by rw [thN T qo (k := 108) (n := 6) rfl (by decide)]; exact rg_inB i3 (by decide)) ?_
        refine s_hq (th_wI T qo (k := 108) (lo := 0) (hi := 24) rfl (rg_m iv (by decide)) (by decide) (by decide) (pm_a hA rfl)) (fun h4 T4 w4 => ?_)
        refine s_q (fun y ey => ?_)
        have ey2 : y.toInt = x3.toInt + 1 := by rw [ey]; exact (nc_s i3' (by decide)).2
        clear ey
        have cc := clamp_i a3
        have c4 := i3'.2
        refine ih T4 ⟨by omega, by omega⟩ (by omega) (fun ro' eo' i hi => ?_) (by omega)
        rw [w4] at eo'
        have hz := r_eq eo (show hR h x0 57 = some ro' from eo')
        subst hz
        rw [w4, r_I]
        by_cases z : i = x3.toNatClampNeg
        · rw [if_pos ⟨rfl, z⟩]; exact iv.1
        · rw [if_neg (fun q => z q.2)]
          exact R ro' eo i (by omega)
      have f109 : ∀ {v t : Int32}, Rg 0 24 v → Sat (sX15_solve_109 F (sX15_solve_54 F f) h x0 x1 x2 x3 v t) Q := fun {v t} iv => by
        unfold sX15_solve_109 sX15_solve_126 sX15_manOf sX15_solve_138 sX15_solve_154 sX15_sideOf
        refine s_br (fun _ => s_some (ex _ _ T)) (fun nv => ?_)
        have iv' : Rg 1 24 v := rg_nlo nv iv (rg_b rfl : Rg 0 0 (0 : Int32))
        refine s_br (fun _ => s_br (fun _ => s_some (ex _ _ T)) (fun n5 => ?_)) (fun _ => s_some (ex _ _ T))
        have i3' : Rg 0 4 x3 := by
          refine ⟨a3, ?_⟩
          rcases Int.lt_or_le x3.toInt 5 with q | q
          · omega
          · exact absurd (Int32.toInt_inj.mp (by show x3.toInt = 5; omega)) n5
        refine s_cl (s_some ?_)
        dsimp only
        obtain ⟨ru, eu, qu⟩ := thR T r0 (i := 4) (k2 := 15) rfl (by decide)
        refine s_ref eu ?_
        refine s_br (fun _ => ?_) (fun _ => f159 iv' i3')
        refine s_cl (s_some ?_)
        exact f159 iv' i3'
      unfold sX15_solve_69 sX15_solve_108 sX15_manOf sX15_solve_81 sX15_sideOf sX15_solve_97 sX15_solve_108
      refine s_br (fun _ => f109 i8) (fun _ => ?_)
      refine s_cl (s_some ?_)
      dsimp only
      obtain ⟨ru, eu, qu⟩ := thR T r0 (i := 4) (k2 := 15) rfl (by decide)
      refine s_ref eu ?_
      refine s_br (fun _ => ?_) (fun _ => f109 i8)
      refine s_cl (s_some ?_)
      dsimp only
      exact s_br (fun _ => f109 i8) (fun _ => f109 i8)
end
end
section
section
variable {ρ : Nat → Nat} {c : Cm} {h o : Hp} {x0 F : Nat} {x1 x2 x3 x4 : Int32}
/-- slots are cleared, sets are added -/
theorem so_203 {Q : Int32 × Hp → Prop} (hF : 700000 ≤ F) (hA : pmA c seL) (r0 : ρ x0 = 16) (i1 : Rg 2 5 x1) (ex : ∀ (o : Hp) (v : Int32), TH ρ c o → hI o x0 50 = 0 → Q (v, o))
    (K : ∀ o, TH ρ c o → SE x0 o → 1 ≤ (hI o x0 49).toInt → hI o x0 50 = 0 → Sat (sX15_solve_246 F F o x0 (0 : Int32) (0 : Int32)) Q) : ∀ (f : Nat) {h : Hp} {x3 : Int32}, TH ρ c h → (hI h x0 49).toInt = 0 → (hJ h x0 59).toInt = 0 → hI h x0 50 = 0 → RW x0 x1.toInt h → 0 ≤ x3.toInt → (∀ r, hR h x0 56 = some r → ∀ j : Nat, (j : Int) < x3.toInt → (hI h r j).toInt ≤ 0) → (16385 - x3.toInt).toNat < f → Sat (sX15_solve_203 F f h x0 x1 x3) Q := by
  intro f
  induction f with
  | zero => intros; omega
  | succ f ih =>
    intro h x3 T e49 e59 e50 R a3 Z hf
    rw [sX15_solve_203]
    unfold sX15_solve_228 sX15_solve_235 sX15_solve_238
    refine s_br (fun l => ?_) (fun n1 => ?_)
    · have l' : (16384 : Int) ≤ x3.toInt := le_i l
      have P := se_init e49 e59 (fun r er j hj => Z r er j (by omega))
      refine s_cl (s_imp (zX15_addSet (c := cat c (fS seL []) h) hF fs_a (th_in _ T) r0 (rg_m i1 (by decide)) P R) (fun o2 ⟨T2', i2, P2, _, l2⟩ => ?_))
      have T2 := th_out T (fs_sub hA fs_n) T2'
      have f2 := fr_u T T2'.2.2
      have z2 : hI o2.2 x0 50 = 0 := by rw [(fr_RI f2 r0 (by decide) (fun _ => rfl)).1]; exact e50
      refine s_br (fun _ => s_some (ex _ _ T2 z2)) (fun nz => ?_)
      refine s_cl (s_imp (zX15_addAll (c := cat c (fS seL []) o2.2) hF fs_a (th_in _ T2) r0 P2 (l2 nz)) (fun o3 ⟨T3', i3, P3, l3⟩ => ?_))
      have T3 := th_out T2 (fs_sub hA fs_n) T3'
      have f3 := fr_u T2 T3'.2.2
      have z3 : hI o3.2 x0 50 = 0 := by rw [(fr_RI f3 r0 (by decide) (fun _ => rfl)).1]; exact z2
      exact s_br (fun _ => s_some (ex _ _ T3 z3)) (fun _ => K _ T3 P3 l3 z3)
    · have l' : x3.toInt < 16384 := nle_i n1
      have i3 : Rg 0 16383 x3 := ⟨a3, by omega⟩
      have c3 := clamp_i a3
      obtain ⟨r, er, qr⟩ := thR T r0 (i := 56) (k2 := 107) rfl (by decide)
      refine s_ref er ?_
      refine s_gd (by rw [thN T qr (k := 107) (n := 16384) rfl (by decide)]; exact rg_inB i3 (by decide)) ?_
      refine s_hq (th_wI T qr (k := 107) (lo := 0) (hi := 4096) rfl (rg_b rfl) (by decide) (by decide) (pm_a hA rfl)) (fun h5 T5 w5 => ?_)
      refine s_q (fun y ey => ?_)
      have ey2 : y.toInt = x3.toInt + 1 := by rw [ey]; exact (nc_s i3 (by decide)).2
      clear ey
      have g5 : ∀ {a k : Nat}, ρ a = k → k ≠ 107 → ∀ i, hI h5 a i = hI h a i := fun {a k} ea hk i => by rw [w5, r_I, if_neg (ne_r ea qr hk)]
      refine ih T5 (by rw [g5 r0 (by decide)]; exact e49) (by rw [w5]; exact e59) (by rw [g5 r0 (by decide)]; exact e50) (fun ro eo i hi => ?_) (by omega) (fun r' er' j hj => ?_) (by omega)
      · rw [w5] at eo
        have eo' : hR h x0 57 = some ro := eo
        rw [g5 (rr T (thR T r0 (i := 57) (k2 := 108) rfl (by decide)) eo') (by decide)]
        exact R ro eo' i hi
      · rw [w5] at er'
        have hz := r_eq er (show hR h x0 56 = some r' from er')
        subst hz
        rw [w5, r_I]
        by_cases z : j = x3.toNatClampNeg
        · rw [if_pos ⟨rfl, z⟩]; decide
        · rw [if_neg (fun q => z q.2)]
          exact Z r' er j (by omega)
end
end
section
/-! a man that is led to a square where another stands attacks it: pure values -/
def onV (a b x y s k : Int32) : Int32 := if (s - s / a * a) + (k * x) < 0 then -1 else if a ≤ (s - s / a * a) + (k * x) then -1 else if (s / a) + (k * y) < 0 then -1 else if (s / a) + (k * y) < b then ((s / a) + (k * y)) * a + ((s - s / a * a) + (k * x)) else -1
theorem on_val {h : Hp} {x0 : Nat} {s k : Int32} {o : Int32 × Hp} (e : sX15_onward h x0 s k = some o) : o = (onV (hI h x0 11) (hI h x0 12) (hI h x0 23) (hI h x0 24) s k, h) := by
  unfold sX15_onward sX15_onward_55 sX15_onward_68 at e
  replace e := (gd_s e).2
  simp only [nm] at e
  replace e := (gd_s e).2
  unfold onV
  replace e := br_s e; rcases e with ⟨c1, e⟩ | ⟨c1, e⟩
  · rw [if_pos c1]; exact (Option.some.inj e).symm
  rw [if_neg c1]
  replace e := br_s e; rcases e with ⟨c2, e⟩ | ⟨c2, e⟩
  · rw [if_pos c2]; exact (Option.some.inj e).symm
  rw [if_neg c2]
  replace e := br_s e; rcases e with ⟨c3, e⟩ | ⟨c3, e⟩
  · rw [if_pos c3]; exact (Option.some.inj e).symm
  rw [if_neg c3]
  replace e := br_s e; rcases e with ⟨c4, e⟩ | ⟨c4, e⟩
  · rw [if_pos c4]; exact (Option.some.inj e).symm
  · rw [if_neg c4]; exact (Option.some.inj e).symm
def frV (fl full : Int32) : Int32 := if fl &&& (8 : Int32) = 0 then (if full = 0 then 1 else 0) else (if full = 1 then 1 else 0)
theorem fr_val {h : Hp} {fl full : Int32} {o : Int32 × Hp} (e : sX15_isFree h fl full = some o) : o = (frV fl full, h) := by
  unfold sX15_isFree sX15_isFree_29 at e
  unfold frV
  replace e := br_s e; rcases e with ⟨c1, e⟩ | ⟨c1, e⟩
  · rw [if_pos c1]
    replace e := br_s e; rcases e with ⟨c2, e⟩ | ⟨c2, e⟩
    · rw [if_pos c2]; exact (Option.some.inj (gd_s e).2).symm
    · rw [if_neg c2]; exact (Option.some.inj (gd_s e).2).symm
  · rw [if_neg c1]
    replace e := br_s e; rcases e with ⟨c2, e⟩ | ⟨c2, e⟩
    · rw [if_pos c2]; exact (Option.some.inj (gd_s e).2).symm
    · rw [if_neg c2]; exact (Option.some.inj (gd_s e).2).symm
/-- full, or not -/
def fuV (v : Int32) : Int32 := if v ≤ 0 then 0 else 1
/-- two times the same square: the same number of steps -/
theorem on_uni {a b x y s k1 k2 q : Int32} (is : Rg 0 63 s) (ia : Rg 3 8 a) (ib : Rg 3 8 b) (ix : Rg (-7) 7 x) (iy : Rg (-7) 7 y) (i1 : Rg 1 8 k1) (i2 : Rg 1 8 k2) (e1 : onV a b x y s k1 = q) (e2 : onV a b x y s k2 = q) (q0 : 0 ≤ q.toInt) (qs : ¬ q = s) : k1 = k2 := by
  have key : ∀ k : Int32, Rg 1 8 k → onV a b x y s k = q → q.toInt / a.toInt = s.toInt / a.toInt + k.toInt * y.toInt ∧ q.toInt % a.toInt = s.toInt % a.toInt + k.toInt * x.toInt := by
    intro k ik e
    have p1 := mb (n := 7) (m := 8) (k := k.toInt) (d := x.toInt) ⟨by have := ik.1; omega, ik.2⟩ ⟨ix.1, ix.2⟩ (by decide)
    have p2 := mb (n := 7) (m := 8) (k := k.toInt) (d := y.toInt) ⟨by have := ik.1; omega, ik.2⟩ ⟨iy.1, iy.2⟩ (by decide)
    have m1 := tm (x := k) (y := x) ⟨by omega, by omega⟩
    have m2 := tm (x := k) (y := y) ⟨by omega, by omega⟩
    have q1 := rg_rem is ia (hi := 63) ⟨by decide, by decide, by omega⟩
    have q2 := rg_divv is ia ⟨by decide, by decide⟩
    have t1 := tr is ia ⟨by decide, by decide⟩
    have t2 := td is ia ⟨by decide, by decide⟩
    have a1 := ta (x := s - s / a * a) (y := k * x) (by rw [m1]; exact ⟨by have := q1.1; omega, by have := q1.2; omega⟩)
    have a2 := ta (x := s / a) (y := k * y) (by rw [m2]; exact ⟨by have := q2.1; omega, by have := q2.2; omega⟩)
    rw [m1, t1] at a1
    rw [m2, t2] at a2
    have neg : ¬ q = (-1 : Int32) := fun w => by rw [w] at q0; exact absurd q0 (by decide)
    unfold onV at e
    by_cases c1 : (s - s / a * a) + (k * x) < 0
    · rw [if_pos c1] at e; exact absurd e.symm neg
    rw [if_neg c1] at e
    by_cases c2 : a ≤ (s - s / a * a) + (k * x)
    · rw [if_pos c2] at e; exact absurd e.symm neg
    rw [if_neg c2] at e
    by_cases c3 : (s / a) + (k * y) < 0
    · rw [if_pos c3] at e; exact absurd e.symm neg
    rw [if_neg c3] at e
    by_cases c4 : (s / a) + (k * y) < b
    · rw [if_pos c4] at e
      have d1 := nlt_i c1
      have d2 := nle_i c2
      have d3 := nlt_i c3
      have d4 := lt_i c4
      rw [a1] at d1 d2
      rw [a2] at d3 d4
      have z : (0 : Int32).toInt = 0 := rfl
      have F1 := ia.1
      have F2 := ia.2
      have R2 := ib.2
      have b1 := mb (n := 8) (m := 8) (k := s.toInt / a.toInt + k.toInt * y.toInt) (d := a.toInt) ⟨by omega, by omega⟩ ⟨by omega, by omega⟩ (by decide)
      have b2 := tm (x := s / a + k * y) (y := a) (by rw [a2]; exact ⟨by omega, by omega⟩)
      rw [a2] at b2
      have b3 := ta (x := (s / a + k * y) * a) (y := (s - s / a * a) + (k * x)) (by rw [b2, a1]; exact ⟨by omega, by omega⟩)
      rw [b2, a1, e] at b3
      have := dm (F := a.toInt) (r := s.toInt / a.toInt + k.toInt * y.toInt) (f := s.toInt % a.toInt + k.toInt * x.toInt) (by omega) (by omega) (by omega)
      rw [b3]
      exact this
    · rw [if_neg c4] at e; exact absurd e.symm neg
  obtain ⟨u1, u2⟩ := key k1 i1 e1
  obtain ⟨v1, v2⟩ := key k2 i2 e2
  apply Int32.toInt_inj.mp
  refine Classical.byContradiction fun ne => qs ?_
  apply Int32.toInt_inj.mp
  have w1 : (k1.toInt - k2.toInt) * y.toInt = 0 := by rw [Int.sub_mul]; omega
  have w2 : (k1.toInt - k2.toInt) * x.toInt = 0 := by rw [Int.sub_mul]; omega
  have y0 : y.toInt = 0 := by rcases Int.mul_eq_zero.mp w1 with w | w <;> omega
  have x00 : x.toInt = 0 := by rcases Int.mul_eq_zero.mp w2 with w | w <;> omega
  rw [y0, Int.mul_zero, Int.add_zero] at u1
  rw [x00, Int.mul_zero, Int.add_zero] at u2
  have z1 := Int.mul_ediv_add_emod q.toInt a.toInt
  have z2 := Int.mul_ediv_add_emod s.toInt a.toInt
  rw [u1, u2] at z1
  omega
section
variable {ρ : Nat → Nat} {x0 b S Fa Ct M R Fl Ri F : Nat} {h0 : Hp} {s sd st ct fl : Int32}
/-- one step of leadBy -/
theorem lb_step {f : Nat} {h o : Hp} {x7 x8 : Int32} (e25 : hR h x0 25 = some S) (e26 : hR h x0 26 = some Fa) (e27 : hR h x0 27 = some Ct) (eM : hR h b 0 = some M) (eR : hR h x0 4 = some R) (eRi : hR h R 8 = some Ri) (ps : hI h b 3 ≤ (1 : Int32)) (e : sX15_leadBy_18 F (f + 1) h x0 b s sd st ct fl x7 x8 = some o) :
    (o = h ∧ ((hI h Ri st.toNatClampNeg) < x8 ∨ (2 : Int32) ≤ x7 ∨ onV (hI h x0 11) (hI h x0 12) (hI h x0 23) (hI h x0 24) s x8 = (-1 : Int32))) ∨
    (¬ (hI h Ri st.toNatClampNeg) < x8 ∧ ¬ (2 : Int32) ≤ x7 ∧ ∃ t, onV (hI h x0 11) (hI h x0 12) (hI h x0 23) (hI h x0 24) s x8 = t ∧ ¬ t = (-1 : Int32) ∧ inB t (hN h M) ∧ ∃ h', sX15_leadBy_18 F f h' x0 b s sd st ct fl (x7 + fuV (hI h M t.toNatClampNeg)) (x8 + (1 : Int32)) = some o ∧
      (h' = h ∨ (∃ z, h' = wI (wI (wI h S t.toNatClampNeg st) Fa t.toNatClampNeg x8) Ct t.toNatClampNeg z ∧ ¬ frV fl x7 = 0 ∧ (0 < (hI h M t.toNatClampNeg).toInt → fl &&& (1 : Int32) = 0 ∧ ¬ ((hI h M t.toNatClampNeg) - (1 : Int32)) &&& (1 : Int32) = sd)))) := by
  unfold sX15_leadBy_18 at e
  replace e := cl_s e; obtain ⟨R', p1, e⟩ := e
  have := r_eq eR p1; subst this
  replace e := cl_s e; obtain ⟨Ri', p2, e⟩ := e
  have := r_eq eRi p2; subst this
  replace e := (gd_s e).2
  replace e := br_s e; rcases e with ⟨c1, e⟩ | ⟨c1, e⟩
  · exact Or.inl ⟨(Option.some.inj e).symm, Or.inl c1⟩
  replace e := br_s e; rcases e with ⟨c2, e⟩ | ⟨c2, e⟩
  · exact Or.inl ⟨(Option.some.inj e).symm, Or.inr (Or.inl c2)⟩
  replace e := cl_s e; obtain ⟨o6, e6, e⟩ := e
  have v6 := on_val e6; subst v6
  replace e := br_s e; rcases e with ⟨c3, e⟩ | ⟨c3, e⟩
  · exact Or.inl ⟨(Option.some.inj e).symm, Or.inr (Or.inr c3)⟩
  refine Or.inr ⟨c1, c2, _, rfl, c3, ?_⟩
  dsimp only at e
  generalize onV (hI h x0 11) (hI h x0 12) (hI h x0 23) (hI h x0 24) s x8 = t at e c3 ⊢
  replace e := cl_s e; obtain ⟨M', p3, e⟩ := e
  have := r_eq eM p3; subst this
  have gB := (gd_s e).1
  replace e := (gd_s e).2
  refine ⟨gB, ?_⟩
  simp only [nm] at e
  replace e := cl_s e; obtain ⟨o11, e11, e⟩ := e
  have v11 := fr_val e11; subst v11
  dsimp only at e
  have d195 : ∀ g : Hp, sX15_leadBy_195 F (sX15_leadBy_18 F f) g x0 b s sd st ct fl x7 x8 (hI h M' t.toNatClampNeg) = some o → sX15_leadBy_18 F f g x0 b s sd st ct fl (x7 + fuV (hI h M' t.toNatClampNeg)) (x8 + (1 : Int32)) = some o := by
    intro g eg
    unfold sX15_leadBy_195 sX15_leadBy_207 at eg
    simp only [nm] at eg
    unfold fuV
    replace eg := br_s eg; rcases eg with ⟨c, eg⟩ | ⟨c, eg⟩
    · rw [if_pos c]; exact eg
    · rw [if_neg c]; exact eg
  replace e := br_s e; rcases e with ⟨c4, e⟩ | ⟨c4, e⟩
  · exact ⟨h, d195 h e, Or.inl rfl⟩
  replace e := cl_s e; obtain ⟨S', p4, e⟩ := e
  have := r_eq e25 p4; subst this
  replace e := (gd_s e).2
  have d168 : ∀ z, sX15_leadBy_168 F (sX15_leadBy_18 F f) h x0 b s sd st ct fl x7 x8 t (hI h M' t.toNatClampNeg) z = some o → (0 < (hI h M' t.toNatClampNeg).toInt → fl &&& (1 : Int32) = 0 ∧ ¬ ((hI h M' t.toNatClampNeg) - (1 : Int32)) &&& (1 : Int32) = sd) → ∃ h', sX15_leadBy_18 F f h' x0 b s sd st ct fl (x7 + fuV (hI h M' t.toNatClampNeg)) (x8 + (1 : Int32)) = some o ∧
      (h' = h ∨ (∃ z, h' = wI (wI (wI h S' t.toNatClampNeg st) Fa t.toNatClampNeg x8) Ct t.toNatClampNeg z ∧ ¬ frV fl x7 = 0 ∧ (0 < (hI h M' t.toNatClampNeg).toInt → fl &&& (1 : Int32) = 0 ∧ ¬ ((hI h M' t.toNatClampNeg) - (1 : Int32)) &&& (1 : Int32) = sd))) := by
    intro z ez w
    unfold sX15_leadBy_168 at ez
    simp only [nm] at ez
    replace ez := cl_s ez; obtain ⟨S2, u1, ez⟩ := ez
    have := r_eq e25 u1; subst this
    replace ez := (gd_s ez).2
    replace ez := cl_s ez; obtain ⟨Fa2, u2, ez⟩ := ez
    replace u2 : hR h x0 26 = some Fa2 := u2
    have := r_eq e26 u2; subst this
    replace ez := (gd_s ez).2
    replace ez := cl_s ez; obtain ⟨Ct2, u3, ez⟩ := ez
    replace u3 : hR h x0 27 = some Ct2 := u3
    have := r_eq e27 u3; subst this
    replace ez := (gd_s ez).2
    exact ⟨_, d195 _ ez, Or.inr ⟨_, rfl, c4, w⟩⟩
  have d112 : sX15_leadBy_112 F (sX15_leadBy_18 F f) h x0 b s sd st ct fl x7 x8 t (hI h M' t.toNatClampNeg) = some o → ∃ h', sX15_leadBy_18 F f h' x0 b s sd st ct fl (x7 + fuV (hI h M' t.toNatClampNeg)) (x8 + (1 : Int32)) = some o ∧
      (h' = h ∨ (∃ z, h' = wI (wI (wI h S' t.toNatClampNeg st) Fa t.toNatClampNeg x8) Ct t.toNatClampNeg z ∧ ¬ frV fl x7 = 0 ∧ (0 < (hI h M' t.toNatClampNeg).toInt → fl &&& (1 : Int32) = 0 ∧ ¬ ((hI h M' t.toNatClampNeg) - (1 : Int32)) &&& (1 : Int32) = sd))) := by
    intro ew
    unfold sX15_leadBy_112 sX15_leadBy_113 at ew
    replace ew := br_s ew; rcases ew with ⟨c, ew⟩ | ⟨c, ew⟩
    · have cn := le_i c
      have z0 : (0 : Int32).toInt = 0 := rfl
      replace ew := br_s ew; rcases ew with ⟨c, ew⟩ | ⟨c, ew⟩
      · unfold sX15_leadBy_156 at ew
        replace ew := br_s ew; rcases ew with ⟨_, ew⟩ | ⟨_, ew⟩
        · replace ew := br_s ew; rcases ew with ⟨_, ew⟩ | ⟨_, ew⟩
          · exact ⟨h, d195 h ew, Or.inl rfl⟩
          · exact d168 _ ew (fun w => by omega)
        · exact d168 _ ew (fun w => by omega)
      · unfold sX15_leadBy_156 at ew
        replace ew := br_s ew; rcases ew with ⟨_, ew⟩ | ⟨_, ew⟩
        · replace ew := br_s ew; rcases ew with ⟨_, ew⟩ | ⟨_, ew⟩
          · exact ⟨h, d195 h ew, Or.inl rfl⟩
          · exact d168 _ ew (fun w => by omega)
        · exact d168 _ ew (fun w => by omega)
    · replace ew := cl_s ew; obtain ⟨o3, e3, ew⟩ := ew
      unfold sX15_sideOf at e3
      have := Option.some.inj e3; subst this
      dsimp only at ew
      have d140 : sX15_leadBy_140 F (sX15_leadBy_18 F f) h x0 b s sd st ct fl x7 x8 t (hI h M' t.toNatClampNeg) 0 = some o → sX15_leadBy_195 F (sX15_leadBy_18 F f) h x0 b s sd st ct fl x7 x8 (hI h M' t.toNatClampNeg) = some o := by
        intro ew
        unfold sX15_leadBy_140 sX15_leadBy_156 at ew
        replace ew := br_s ew; rcases ew with ⟨_, ew⟩ | ⟨c0, ew⟩
        · replace ew := br_s ew; rcases ew with ⟨_, ew⟩ | ⟨c0, ew⟩
          · exact ew
          · exact absurd rfl c0
        · exact absurd rfl c0
      replace ew := br_s ew; rcases ew with ⟨_, ew⟩ | ⟨cs, ew⟩
      · exact ⟨h, d195 h (d140 ew), Or.inl rfl⟩
      replace ew := br_s ew; rcases ew with ⟨ct, ew⟩ | ⟨_, ew⟩
      · unfold sX15_leadBy_156 at ew
        replace ew := br_s ew; rcases ew with ⟨_, ew⟩ | ⟨_, ew⟩
        · replace ew := br_s ew; rcases ew with ⟨_, ew⟩ | ⟨_, ew⟩
          · exact ⟨h, d195 h ew, Or.inl rfl⟩
          · exact d168 _ ew (fun _ => ⟨ct, cs⟩)
        · exact d168 _ ew (fun _ => ⟨ct, cs⟩)
      · exact ⟨h, d195 h (d140 ew), Or.inl rfl⟩
  replace e := br_s e; rcases e with ⟨c5, e⟩ | ⟨c5, e⟩
  · replace e := br_s e; rcases e with ⟨_, e⟩ | ⟨_, e⟩
    · exact d112 e
    replace e := br_s e; rcases e with ⟨_, e⟩ | ⟨_, e⟩
    · exact d112 e
    replace e := cl_s e; obtain ⟨o18, e18, e⟩ := e
    have v18 : o18 = ((0 : Int32), h) := by
      cases F with
      | zero => exact absurd e18 (by simp [sX15_isGoneOver, sX15_isGoneOver_2])
      | succ F' =>
        unfold sX15_isGoneOver sX15_isGoneOver_2 at e18
        replace e18 := br_s e18; rcases e18 with ⟨_, e18⟩ | ⟨c, _⟩
        · exact (Option.some.inj e18).symm
        · exact absurd ps c
    subst v18
    replace e := br_s e; rcases e with ⟨_, e⟩ | ⟨c, _⟩
    · exact d112 e
    · exact absurd rfl c
  · exact ⟨h, d195 h e, Or.inl rfl⟩
end
end
section
/-! a man that is led to a square where another stands attacks it: the loops side by side -/
/-- what may change between wrongOf and the moves tried -/
def XS (k i : Nat) : Bool := (Nat.ble 66 k && Nat.ble k 72) || Nat.beq k 86 || Nat.beq k 87 || Nat.beq k 88 || Nat.beq k 89 || Nat.beq k 105 || (Nat.beq k 16 && (Nat.beq i 23 || Nat.beq i 24 || Nat.beq i 29)) || (Nat.beq k 14 && Nat.beq i 0)
def Fq (ρ : Nat → Nat) (h0 h : Hp) : Prop := ∀ a i, ρ a ≠ 0 → XS (ρ a) i = false → hI h a i = hI h0 a i ∧ hJ h a i = hJ h0 a i ∧ hR h a i = hR h0 a i
section
variable {ρ : Nat → Nat} {h0 h h1 : Hp} {a k : Nat}
theorem fq_r : Fq ρ h h := fun _ _ _ _ => ⟨rfl, rfl, rfl⟩
theorem fq_t (p : Fq ρ h0 h) (q : Fq ρ h h1) : Fq ρ h0 h1 := fun a i n x => ⟨(q a i n x).1.trans (p a i n x).1, (q a i n x).2.1.trans (p a i n x).2.1, (q a i n x).2.2.trans (p a i n x).2.2⟩
theorem fqI (i : Nat) (fr : Fq ρ h0 h) (ra : ρ a = k) (n : k ≠ 0 := by decide) (x : XS k i = false := by rfl) : hI h a i = hI h0 a i := (fr a i (by rw [ra]; exact n) (by rw [ra]; exact x)).1
theorem fqJ (i : Nat) (fr : Fq ρ h0 h) (ra : ρ a = k) (n : k ≠ 0 := by decide) (x : XS k i = false := by rfl) : hJ h a i = hJ h0 a i := (fr a i (by rw [ra]; exact n) (by rw [ra]; exact x)).2.1
theorem fqE (i : Nat) (fr : Fq ρ h0 h) (ra : ρ a = k) (n : k ≠ 0 := by decide) (x : XS k i = false := by rfl) : hR h a i = hR h0 a i := (fr a i (by rw [ra]; exact n) (by rw [ra]; exact x)).2.2
theorem fqR {i r : Nat} (fr : Fq ρ h0 h) (ra : ρ a = k) (e : hR h0 a i = some r) (n : k ≠ 0 := by decide) (x : XS k i = false := by rfl) : hR h a i = some r := by rw [fqE i fr ra n x]; exact e
theorem fq_w {i : Nat} {v : Int32} (fr : Fq ρ h0 h) (ra : ρ a = k) (x : XS k i = true := by rfl) : Fq ρ h0 (wI h a i v) := fq_t fr fun b j _ xb => ⟨by
  rw [r_I, if_neg]
  rintro ⟨q1, q2⟩
  subst q1; subst q2
  rw [ra, x] at xb
  exact absurd xb (by decide), rfl, rfl⟩
end
theorem inb0 {x : Int32} {n : Nat} (g : inB x n) : 0 ≤ x.toInt := nlt_i (y := 0) (fun w => g (Or.inl w))
theorem le_i32_1 {x : Int32} (c : ¬ (2 : Int32) ≤ x) : x ≤ (1 : Int32) := by
  have c := nle_i c
  have z : (2 : Int32).toInt = 2 := rfl
  have z1 : (1 : Int32).toInt = 1 := rfl
  rw [Int32.le_iff_toInt_le]
  omega
section
variable {ρ : Nat → Nat} {x0 b S Fa Ct M R Fl Ri F : Nat} {h0 : Hp} {s sd st ct fl q dx dy : Int32}
/-- what the rows are -/
def LkS (ρ : Nat → Nat) (x0 b S Fa Ct M R Fl Ri : Nat) (h0 : Hp) : Prop :=
  (ρ x0 = 16 ∧ ρ b = 13 ∧ ρ S = 87 ∧ ρ Fa = 88 ∧ ρ Ct = 89 ∧ ρ M = 62 ∧ ρ R = 15 ∧ ρ Fl = 75 ∧ ρ Ri = 78) ∧
  (hR h0 x0 25 = some S ∧ hR h0 x0 26 = some Fa ∧ hR h0 x0 27 = some Ct ∧ hR h0 b 0 = some M ∧ hR h0 x0 4 = some R ∧ hR h0 R 5 = some Fl ∧ hR h0 R 8 = some Ri) ∧
  (Rg 3 8 (hI h0 x0 11) ∧ Rg 3 8 (hI h0 x0 12) ∧ (∀ i, Rg 0 7 (hI h0 Ri i)) ∧ hI h0 b 3 ≤ (1 : Int32))
theorem lk_st {f : Nat} {h o : Hp} {x7 x8 : Int32} (L : LkS ρ x0 b S Fa Ct M R Fl Ri h0) (fr : Fq ρ h0 h) (e : sX15_leadBy_18 F (f + 1) h x0 b s sd st ct fl x7 x8 = some o) :
    o = h ∨ (¬ (hI h0 Ri st.toNatClampNeg) < x8 ∧ ¬ (2 : Int32) ≤ x7 ∧ ∃ t, onV (hI h0 x0 11) (hI h0 x0 12) (hI h x0 23) (hI h x0 24) s x8 = t ∧ ¬ t = (-1 : Int32) ∧ 0 ≤ t.toInt ∧ ∃ h', sX15_leadBy_18 F f h' x0 b s sd st ct fl (x7 + fuV (hI h0 M t.toNatClampNeg)) (x8 + (1 : Int32)) = some o ∧ Fq ρ h0 h' ∧ hI h' x0 23 = hI h x0 23 ∧ hI h' x0 24 = hI h x0 24 ∧ (∀ j, ¬ j = t.toNatClampNeg → hI h' S j = hI h S j) ∧
      (h' = h ∨ (¬ frV fl x7 = 0 ∧ (0 < (hI h0 M t.toNatClampNeg).toInt → fl &&& (1 : Int32) = 0 ∧ ¬ ((hI h0 M t.toNatClampNeg) - (1 : Int32)) &&& (1 : Int32) = sd)))) := by
  obtain ⟨⟨rx, rb, rS, rFa, rCt, rM, rR, rFl, rRi⟩, ⟨e25, e26, e27, eM, eR, eFl, eRi⟩, ⟨iF, iR, iri, ps⟩⟩ := L
  have k11 : hI h x0 11 = hI h0 x0 11 := fqI 11 fr rx
  have k12 : hI h x0 12 = hI h0 x0 12 := fqI 12 fr rx
  have kM : ∀ i, hI h M i = hI h0 M i := fun i => fqI i fr rM
  have kRi : ∀ i, hI h Ri i = hI h0 Ri i := fun i => fqI i fr rRi
  have kb : hI h b 3 = hI h0 b 3 := fqI 3 fr rb
  rcases lb_step (S := S) (Fa := Fa) (Ct := Ct) (M := M) (R := R) (Ri := Ri) (fqR fr rx e25) (fqR fr rx e26) (fqR fr rx e27) (fqR fr rb eM) (fqR fr rx eR) (fqR fr rR eRi) (by rw [kb]; exact ps) e with ⟨w, _⟩ | ⟨c1, c2, t, et, nt, gB, h', e', alt⟩
  · exact Or.inl w
  rw [kM] at e' alt
  rw [kRi] at c1
  rw [k11, k12] at et
  have t0 : 0 ≤ t.toInt := inb0 gB
  have nSF : ¬ S = Fa := fun q => absurd (q ▸ rS) (by rw [rFa]; decide)
  have nSC : ¬ S = Ct := fun q => absurd (q ▸ rS) (by rw [rCt]; decide)
  have nxS : ¬ x0 = S := fun q => absurd (q ▸ rx) (by rw [rS]; decide)
  have nxF : ¬ x0 = Fa := fun q => absurd (q ▸ rx) (by rw [rFa]; decide)
  have nxC : ¬ x0 = Ct := fun q => absurd (q ▸ rx) (by rw [rCt]; decide)
  refine Or.inr ⟨c1, c2, t, et, nt, t0, h', e', ?_⟩
  rcases alt with w | ⟨z, w, a1, a2⟩
  · subst w
    exact ⟨fr, rfl, rfl, fun _ _ => rfl, Or.inl rfl⟩
  · subst w
    refine ⟨fq_w (fq_w (fq_w fr rS) rFa) rCt, ?_, ?_, fun j nj => ?_, Or.inr ⟨a1, a2⟩⟩
    · rw [r_I, if_neg (fun w => nxC w.1), r_I, if_neg (fun w => nxF w.1), r_I, if_neg (fun w => nxS w.1)]
    · rw [r_I, if_neg (fun w => nxC w.1), r_I, if_neg (fun w => nxF w.1), r_I, if_neg (fun w => nxS w.1)]
    · rw [r_I, if_neg (fun w => nSC w.1), r_I, if_neg (fun w => nSF w.1), r_I, if_neg (fun w => nj w.2)]
theorem up8 {x8 r : Int32} (i8 : Rg 1 8 x8) (ir : Rg 0 7 r) (c : ¬ r < x8) : Rg 1 8 (x8 + (1 : Int32)) ∧ (x8 + (1 : Int32)).toInt = x8.toInt + 1 := by
  have c := nlt_i c
  have := ir.2
  have := i8.1
  have e : (x8 + (1 : Int32)).toInt = x8.toInt + 1 := ta (by show _ ≤ x8.toInt + 1 ∧ x8.toInt + 1 ≤ _; omega)
  exact ⟨⟨by omega, by omega⟩, e⟩
theorem lb_keep (L : LkS ρ x0 b S Fa Ct M R Fl Ri h0) (q0 : 0 ≤ q.toInt) : ∀ (f : Nat) {h o : Hp} {x7 x8 : Int32}, Fq ρ h0 h → hI h x0 23 = dx → hI h x0 24 = dy → Rg 1 8 x8 → sX15_leadBy_18 F f h x0 b s sd st ct fl x7 x8 = some o → (Fq ρ h0 o ∧ hI o x0 23 = dx ∧ hI o x0 24 = dy) ∧ ((∀ k, Rg 1 8 k → x8.toInt ≤ k.toInt → ¬ onV (hI h0 x0 11) (hI h0 x0 12) dx dy s k = q) → hI o S q.toNatClampNeg = hI h S q.toNatClampNeg) := by
  intro f
  induction f with
  | zero => intro h o x7 x8 _ _ _ _ e; exact absurd e (by simp [sX15_leadBy_18])
  | succ f ih =>
    intro h o x7 x8 fr ex ey i8 e
    rcases lk_st L fr e with w | ⟨c1, c2, t, et, nt, t0, h', e', fr', d1, d2, ks, _⟩
    · subst w; exact ⟨⟨fr, ex, ey⟩, fun _ => rfl⟩
    obtain ⟨j8, e8⟩ := up8 i8 (L.2.2.2.2.1 _) c1
    obtain ⟨z1, z2⟩ := ih fr' (d1.trans ex) (d2.trans ey) j8 e'
    refine ⟨z1, fun w => ?_⟩
    rw [z2 (fun k ik lk => w k ik (by omega))]
    refine ks _ (fun eq => ?_)
    have : q = t := by
      apply Int32.toInt_inj.mp
      have := nc_i q0
      have := nc_i t0
      omega
    rw [ex, ey] at et
    exact w x8 i8 (Int.le_refl _) (by rw [et, this])
theorem lb_lock (L : LkS ρ x0 b S Fa Ct M R Fl Ri h0) (is : Rg 0 63 s) (ix : Rg (-7) 7 dx) (iy : Rg (-7) 7 dy) (q0 : 0 ≤ q.toInt) (hq : 0 < (hI h0 M q.toNatClampNeg).toInt) (efl : fl = hI h0 Fl st.toNatClampNeg) : ∀ (f : Nat) {h o : Hp} {x7 x8 : Int32}, Fq ρ h0 h → hI h x0 23 = dx → hI h x0 24 = dy → Rg 1 8 x8 → sX15_leadBy_18 F f h x0 b s sd st ct fl x7 x8 = some o → hI h S q.toNatClampNeg = (-1 : Int32) → ¬ hI o S q.toNatClampNeg = (-1 : Int32) → fl &&& (1 : Int32) = 0 ∧ ¬ ((hI h0 M q.toNatClampNeg) - (1 : Int32)) &&& (1 : Int32) = sd ∧ (¬ q = s → ∀ (f' : Nat) (g : Hp) (o' : Int32 × Hp), Fq ρ h0 g → hI g x0 23 = dx → hI g x0 24 = dy → sX15_reaches_6 F f' g x0 b s q st x7 x8 = some o' → ¬ o'.1 = 0) := by
  have L' := L
  obtain ⟨⟨rx, rb, rS, rFa, rCt, rM, rR, rFl, rRi⟩, ⟨e25, e26, e27, eM, eR, eFl, eRi⟩, ⟨iF, iR, iri, ps⟩⟩ := L'
  intro f
  induction f with
  | zero => intro h o x7 x8 _ _ _ _ e; exact absurd e (by simp [sX15_leadBy_18])
  | succ f ih =>
    intro h o x7 x8 fr ex ey i8 e n1 n2
    rcases lk_st L fr e with w | ⟨c1, c2, t, et, nt, t0, h', e', fr', d1, d2, ks, alt⟩
    · subst w; exact absurd n1 n2
    rw [ex, ey] at et
    obtain ⟨j8, e8⟩ := up8 i8 (L.2.2.2.2.1 _) c1
    have rch : ∀ (f' : Nat) (g : Hp) (o' : Int32 × Hp), Fq ρ h0 g → hI g x0 23 = dx → hI g x0 24 = dy → sX15_reaches_6 F (f' + 1) g x0 b s q st x7 x8 = some o' → (t = q ∧ o'.1 = frV fl x7) ∨ (¬ t = q ∧ sX15_reaches_6 F f' g x0 b s q st (x7 + fuV (hI h0 M t.toNatClampNeg)) (x8 + (1 : Int32)) = some o') := by
      intro f' g o' frg gx gy e
      have k11 : hI g x0 11 = hI h0 x0 11 := fqI 11 frg rx
      have k12 : hI g x0 12 = hI h0 x0 12 := fqI 12 frg rx
      have kM : ∀ i, hI g M i = hI h0 M i := fun i => fqI i frg rM
      have kRi : ∀ i, hI g Ri i = hI h0 Ri i := fun i => fqI i frg rRi
      have kFl : ∀ i, hI g Fl i = hI h0 Fl i := fun i => fqI i frg rFl
      unfold sX15_reaches_6 at e
      replace e := cl_s e; obtain ⟨R', p1, e⟩ := e
      rw [fqE 4 frg rx] at p1
      have := r_eq eR p1; subst this
      replace e := cl_s e; obtain ⟨Ri', p2, e⟩ := e
      rw [fqE 8 frg rR] at p2
      have := r_eq eRi p2; subst this
      replace e := (gd_s e).2
      replace e := br_s e; rcases e with ⟨c, e⟩ | ⟨_, e⟩
      · rw [kRi] at c; exact absurd c c1
      replace e := cl_s e; obtain ⟨o5, e5, e⟩ := e
      have v5 := on_val e5
      rw [k11, k12, gx, gy, et] at v5
      subst v5
      dsimp only at e
      replace e := br_s e; rcases e with ⟨c, e⟩ | ⟨_, e⟩
      · exact absurd c nt
      replace e := br_s e; rcases e with ⟨_, e⟩ | ⟨c, e⟩
      · replace e := br_s e; rcases e with ⟨cq, e⟩ | ⟨cq, e⟩
        · replace e := cl_s e; obtain ⟨R2, p3, e⟩ := e
          rw [fqE 4 frg rx] at p3
          have := r_eq eR p3; subst this
          replace e := cl_s e; obtain ⟨Fl', p4, e⟩ := e
          rw [fqE 5 frg rR] at p4
          have := r_eq eFl p4; subst this
          replace e := (gd_s e).2
          replace e := cl_s e; obtain ⟨o15, e15, e⟩ := e
          have v15 := fr_val e15
          rw [kFl, ← efl] at v15
          subst v15
          have := Option.some.inj (gd_s e).2
          exact Or.inl ⟨cq, by rw [← this]⟩
        · replace e := cl_s e; obtain ⟨M', p3, e⟩ := e
          rw [fqE 0 frg rb] at p3
          have := r_eq eM p3; subst this
          replace e := (gd_s e).2
          rw [kM] at e
          refine Or.inr ⟨cq, ?_⟩
          unfold sX15_reaches_83 at e
          simp only [nm] at e
          unfold fuV
          replace e := br_s e; rcases e with ⟨c, e⟩ | ⟨c, e⟩
          · rw [if_pos c]; exact e
          · rw [if_neg c]; exact e
      · exact absurd (le_i32_1 c2) c
    by_cases tq : t = q
    · rcases alt with w | ⟨a1, a2⟩
      · subst w
        by_cases qs : q = s
        · obtain ⟨b1, b2, _⟩ := ih fr' ex ey j8 e' n1 n2
          exact ⟨b1, b2, fun ne => absurd qs ne⟩
        have := (lb_keep (q := q) L q0 f fr' ex ey j8 e').2 (fun k ik lk w => by
          have := on_uni is iF iR ix iy i8 ik (et.trans tq) w q0 qs
          rw [← this] at lk
          omega)
        rw [n1] at this
        exact absurd this n2
      · rw [tq] at a2
        obtain ⟨b1, b2⟩ := a2 hq
        refine ⟨b1, b2, fun ns f' g o' frg gx gy e => ?_⟩
        cases f' with
        | zero => exact absurd e (by simp [sX15_reaches_6])
        | succ f' =>
          rcases rch f' g o' frg gx gy e with ⟨_, w⟩ | ⟨w, _⟩
          · rw [w]; exact a1
          · exact absurd tq w
    · have n1' : hI h' S q.toNatClampNeg = (-1 : Int32) := by
        rw [ks _ (fun eq => tq (by
          apply Int32.toInt_inj.mp
          have := nc_i q0
          have := nc_i t0
          omega))]
        exact n1
      obtain ⟨b1, b2, b3⟩ := ih fr' (d1.trans ex) (d2.trans ey) j8 e' n1' n2
      refine ⟨b1, b2, fun ns f' g o' frg gx gy e => ?_⟩
      cases f' with
      | zero => exact absurd e (by simp [sX15_reaches_6])
      | succ f' =>
        rcases rch f' g o' frg gx gy e with ⟨w, _⟩ | ⟨_, w⟩
        · exact absurd w tq
        · exact b3 ns f' g o' frg gx gy w
end
end
section
/-! a man that is led to a square where another stands attacks it: lead and attacks -/
def rkV (a b s sd : Int32) : Int32 := if sd = 0 then s / a + (1 : Int32) else b - s / a
theorem rk_val {h : Hp} {x0 : Nat} {s sd : Int32} {o : Int32 × Hp} (e : sX15_rankFor h x0 s sd = some o) : o = (rkV (hI h x0 11) (hI h x0 12) s sd, h) := by
  unfold sX15_rankFor sX15_rankFor_26 at e
  unfold rkV
  replace e := br_s e; rcases e with ⟨c, e⟩ | ⟨c, e⟩
  · rw [if_pos c]; exact (Option.some.inj (gd_s e).2).symm
  · rw [if_neg c]; exact (Option.some.inj (gd_s e).2).symm
def fmV (r a b s sd : Int32) : Int32 := if r = 0 then 1 else if r = rkV a b s sd then 1 else 0
theorem fm_val {h : Hp} {x0 R Fr : Nat} {st s sd : Int32} {o : Int32 × Hp} (eR : hR h x0 4 = some R) (eF : hR h R 9 = some Fr) (e : sX15_isFrom h x0 st s sd = some o) : o = (fmV (hI h Fr st.toNatClampNeg) (hI h x0 11) (hI h x0 12) s sd, h) := by
  unfold sX15_isFrom sX15_isFrom_30 sX15_isFrom_35 at e
  replace e := cl_s e; obtain ⟨R', p1, e⟩ := e
  have := r_eq eR p1; subst this
  replace e := cl_s e; obtain ⟨F', p2, e⟩ := e
  have := r_eq eF p2; subst this
  replace e := (gd_s e).2
  unfold fmV
  replace e := br_s e; rcases e with ⟨c, e⟩ | ⟨c, e⟩
  · rw [if_pos c]; exact (Option.some.inj (gd_s e).2).symm
  rw [if_neg c]
  replace e := cl_s e; obtain ⟨R', p1, e⟩ := e
  have := r_eq eR p1; subst this
  replace e := cl_s e; obtain ⟨F', p2, e⟩ := e
  have := r_eq eF p2; subst this
  replace e := (gd_s e).2
  replace e := cl_s e; obtain ⟨o8, e8, e⟩ := e
  have := rk_val e8; subst this
  dsimp only at e
  replace e := br_s e; rcases e with ⟨c, e⟩ | ⟨c, e⟩
  · rw [if_pos c]; exact (Option.some.inj (gd_s e).2).symm
  · rw [if_neg c]; exact (Option.some.inj (gd_s e).2).symm
section
variable {x0 : Nat} {x2 x4 x5 x6 x7 x8 t0 : Int32} {t1 : Nat}
theorem brT {β : Type} {c : Prop} [Decidable c] {a b : Option β} (h : c) : br c a b = a := by unfold br; rw [if_pos h]
theorem brF {β : Type} {c : Prop} [Decidable c] {a b : Option β} (h : ¬ c) : br c a b = b := by unfold br; rw [if_neg h]
theorem hw_193 {t : Int32} (w : t = 0 ∨ t = 1) (h : Hp) : sX15_hasVector_193 h t = some (t, h) := by
  unfold sX15_hasVector_193 gd
  rcases w with w | w <;> subst w <;> rfl
theorem hw_170 : ∃ a, ∀ h, sX15_hasVector_170 h x4 x5 x6 = some (a, h) := by
  unfold sX15_hasVector_170 sX15_hasVector_188 sX15_hasVector_192
  by_cases c : x6 = 0
  · exact ⟨1, fun h => by rw [brT c]; exact hw_193 (Or.inr rfl) h⟩
  · by_cases d : (if 0 ≤ x4 then x4 else 0 - x4) = (if 0 ≤ x5 then x5 else 0 - x5)
    · exact ⟨0, fun h => by rw [brF c, brT d]; exact hw_193 (Or.inl rfl) h⟩
    · exact ⟨1, fun h => by rw [brF c, brF d]; exact hw_193 (Or.inr rfl) h⟩
theorem hw_159 : ∃ a, ∀ h, sX15_hasVector_159 h x2 x4 x5 x6 x8 = some (a, h) := by
  obtain ⟨a, w⟩ := hw_170 (x4 := x4) (x5 := x5) (x6 := x6)
  unfold sX15_hasVector_159 sX15_hasVector_192
  by_cases c : (x2 &&& (2 : Int32)) = 0
  · exact ⟨a, fun h => by rw [brT c]; exact w h⟩
  · by_cases d : x8 = 0
    · exact ⟨0, fun h => by rw [brF c, brT d]; exact hw_193 (Or.inl rfl) h⟩
    · exact ⟨a, fun h => by rw [brF c, brF d]; exact w h⟩
theorem hw_145 : ∃ a, ∀ h, sX15_hasVector_145 h x2 x4 x5 x6 x7 x8 t0 t1 = some (a, wI h t1 24 t0) := by
  obtain ⟨a, w⟩ := hw_159 (x2 := x2) (x4 := x4) (x5 := x5) (x6 := x6) (x8 := x8)
  unfold sX15_hasVector_145 sX15_hasVector_192
  simp only [nm]
  by_cases c : (x2 &&& (1 : Int32)) = 0
  · exact ⟨a, fun h => by rw [brT c]; exact w _⟩
  · by_cases d : x7 = 0
    · exact ⟨0, fun h => by rw [brF c, brT d]; exact hw_193 (Or.inl rfl) _⟩
    · exact ⟨a, fun h => by rw [brF c, brF d]; exact w _⟩
theorem hw_126 : ∃ a d, ∀ h, sX15_hasVector_126 h x0 x2 x4 x5 x6 x7 x8 t0 x0 = some (a, wI (wI h x0 23 t0) x0 24 d) := by
  unfold sX15_hasVector_126
  simp only [nm]
  by_cases c : (x2 &&& (2 : Int32)) = 0
  · obtain ⟨a, w⟩ := hw_145 (x2 := x2) (x4 := x4) (x5 := x5) (x6 := x6) (x7 := x7) (x8 := x8) (t0 := x8) (t1 := x0)
    exact ⟨a, _, fun h => by rw [brT c]; exact w _⟩
  · obtain ⟨a, w⟩ := hw_145 (x2 := x2) (x4 := x4) (x5 := x5) (x6 := x6) (x7 := x7) (x8 := x8) (t0 := (0 : Int32) - x8) (t1 := x0)
    exact ⟨a, _, fun h => by rw [brF c]; exact w _⟩
theorem hw_108 : ∃ a d1 d2, ∀ h, sX15_hasVector_108 h x0 x2 x4 x5 x6 x7 t0 = some (a, wI (wI h x0 23 d1) x0 24 d2) := by
  unfold sX15_hasVector_108
  by_cases c : (x2 &&& (1 : Int32)) = 0
  · obtain ⟨a, d, w⟩ := hw_126 (x0 := x0) (x2 := x2) (x4 := x4) (x5 := x5) (x6 := x6) (x7 := x7) (x8 := t0) (t0 := x7)
    exact ⟨a, _, d, fun h => by rw [brT c]; exact w h⟩
  · obtain ⟨a, d, w⟩ := hw_126 (x0 := x0) (x2 := x2) (x4 := x4) (x5 := x5) (x6 := x6) (x7 := x7) (x8 := t0) (t0 := (0 : Int32) - x7)
    exact ⟨a, _, d, fun h => by rw [brF c]; exact w h⟩
theorem hw_94 : ∃ a d1 d2, ∀ h, sX15_hasVector_94 h x0 x2 x4 x5 x6 t0 = some (a, wI (wI h x0 23 d1) x0 24 d2) := by
  unfold sX15_hasVector_94
  by_cases c : x6 = 0
  · obtain ⟨a, d1, d2, w⟩ := hw_108 (x0 := x0) (x2 := x2) (x4 := x4) (x5 := x5) (x6 := x6) (x7 := t0) (t0 := x5)
    exact ⟨a, d1, d2, fun h => by rw [brT c]; exact w h⟩
  · obtain ⟨a, d1, d2, w⟩ := hw_108 (x0 := x0) (x2 := x2) (x4 := x4) (x5 := x5) (x6 := x6) (x7 := t0) (t0 := x4)
    exact ⟨a, d1, d2, fun h => by rw [brF c]; exact w h⟩
theorem hw_80 : ∃ a d1 d2, ∀ h, sX15_hasVector_80 h x0 x2 x4 x5 t0 = some (a, wI (wI h x0 23 d1) x0 24 d2) := by
  unfold sX15_hasVector_80
  by_cases c : t0 = 0
  · obtain ⟨a, d1, d2, w⟩ := hw_94 (x0 := x0) (x2 := x2) (x4 := x4) (x5 := x5) (x6 := t0) (t0 := x4)
    exact ⟨a, d1, d2, fun h => by rw [brT c]; exact w h⟩
  · obtain ⟨a, d1, d2, w⟩ := hw_94 (x0 := x0) (x2 := x2) (x4 := x4) (x5 := x5) (x6 := t0) (t0 := x5)
    exact ⟨a, d1, d2, fun h => by rw [brF c]; exact w h⟩
theorem hw_56 : ∃ a, ∀ h, sX15_hasVector_56 h x2 t0 t1 = some (a, wI h t1 24 t0) := by
  unfold sX15_hasVector_56 sX15_hasVector_68 gd
  simp only [nm]
  by_cases c : x2 = 0
  · exact ⟨1, fun h => by rw [brT c]; rfl⟩
  · exact ⟨0, fun h => by rw [brF c]; rfl⟩
/-- hasVector answers alike where the rules are alike -/
theorem hv_two {R A B Fl : Nat} {h0 h g : Hp} {st d sd : Int32} {o o' : Int32 × Hp} (eR : hR h0 x0 4 = some R) (eA : hR h0 R 6 = some A) (eB : hR h0 R 7 = some B) (eFl : hR h0 R 5 = some Fl) (k4 : hR h x0 4 = hR h0 x0 4) (k6 : hR h R 6 = hR h0 R 6) (k7 : hR h R 7 = hR h0 R 7) (k5 : hR h R 5 = hR h0 R 5) (g4 : hR g x0 4 = hR h0 x0 4) (g6 : hR g R 6 = hR h0 R 6) (g7 : hR g R 7 = hR h0 R 7) (g5 : hR g R 5 = hR h0 R 5) (kA : ∀ i, hI h A i = hI h0 A i) (kB : ∀ i, hI h B i = hI h0 B i) (kF : ∀ i, hI h Fl i = hI h0 Fl i) (kA' : ∀ i, hI g A i = hI h0 A i) (kB' : ∀ i, hI g B i = hI h0 B i) (kF' : ∀ i, hI g Fl i = hI h0 Fl i) (e : sX15_hasVector h x0 st d sd = some o) (e' : sX15_hasVector g x0 st d sd = some o') :
    o.1 = o'.1 ∧ ∃ d1 d2, o.2 = wI (wI h x0 23 d1) x0 24 d2 ∧ o'.2 = wI (wI g x0 23 d1) x0 24 d2 := by
  have one : ∀ {h : Hp} {o : Int32 × Hp}, hR h x0 4 = hR h0 x0 4 → hR h R 6 = hR h0 R 6 → hR h R 7 = hR h0 R 7 → hR h R 5 = hR h0 R 5 → (∀ i, hI h A i = hI h0 A i) → (∀ i, hI h B i = hI h0 B i) → (∀ i, hI h Fl i = hI h0 Fl i) → sX15_hasVector h x0 st d sd = some o → br (((hI h0 Fl st.toNatClampNeg) &&& (4 : Int32)) = 0) (br ((d &&& (4 : Int32)) = 0) (sX15_hasVector_80 h x0 d (hI h0 A st.toNatClampNeg) (hI h0 B st.toNatClampNeg) (0 : Int32)) (sX15_hasVector_80 h x0 d (hI h0 A st.toNatClampNeg) (hI h0 B st.toNatClampNeg) (1 : Int32))) (br (sd = 0) (sX15_hasVector_56 (wI h x0 23 (hI h0 A st.toNatClampNeg)) d (hI h0 B st.toNatClampNeg) x0) (sX15_hasVector_56 (wI h x0 23 (hI h0 A st.toNatClampNeg)) d ((0 : Int32) - (hI h0 B st.toNatClampNeg)) x0)) = some o := by
    intro h o k4 k6 k7 k5 kA kB kF e
    unfold sX15_hasVector at e
    simp only [nm] at e
    replace e := cl_s e; obtain ⟨R', p, e⟩ := e
    rw [k4] at p
    have := r_eq eR p; subst this
    replace e := cl_s e; obtain ⟨A', p, e⟩ := e
    rw [k6] at p
    have := r_eq eA p; subst this
    replace e := (gd_s e).2
    replace e := cl_s e; obtain ⟨R', p, e⟩ := e
    rw [k4] at p
    have := r_eq eR p; subst this
    replace e := cl_s e; obtain ⟨B', p, e⟩ := e
    rw [k7] at p
    have := r_eq eB p; subst this
    replace e := (gd_s e).2
    replace e := cl_s e; obtain ⟨R', p, e⟩ := e
    rw [k4] at p
    have := r_eq eR p; subst this
    replace e := cl_s e; obtain ⟨F', p, e⟩ := e
    rw [k5] at p
    have := r_eq eFl p; subst this
    replace e := (gd_s e).2
    rw [kA, kB, kF] at e
    exact e
  have u := one k4 k6 k7 k5 kA kB kF e
  have v := one g4 g6 g7 g5 kA' kB' kF' e'
  by_cases c : ((hI h0 Fl st.toNatClampNeg) &&& (4 : Int32)) = 0
  · rw [brT c] at u v
    by_cases c2 : (d &&& (4 : Int32)) = 0
    · rw [brT c2] at u v
      obtain ⟨a, d1, d2, w⟩ := hw_80 (x0 := x0) (x2 := d) (x4 := hI h0 A st.toNatClampNeg) (x5 := hI h0 B st.toNatClampNeg) (t0 := 0)
      rw [w] at u v
      have u := Option.some.inj u
      have v := Option.some.inj v
      subst u; subst v
      exact ⟨rfl, d1, d2, rfl, rfl⟩
    · rw [brF c2] at u v
      obtain ⟨a, d1, d2, w⟩ := hw_80 (x0 := x0) (x2 := d) (x4 := hI h0 A st.toNatClampNeg) (x5 := hI h0 B st.toNatClampNeg) (t0 := 1)
      rw [w] at u v
      have u := Option.some.inj u
      have v := Option.some.inj v
      subst u; subst v
      exact ⟨rfl, d1, d2, rfl, rfl⟩
  · rw [brF c] at u v
    by_cases c2 : sd = 0
    · rw [brT c2] at u v
      obtain ⟨a, w⟩ := hw_56 (x2 := d) (t0 := hI h0 B st.toNatClampNeg) (t1 := x0)
      rw [w] at u v
      have u := Option.some.inj u
      have v := Option.some.inj v
      subst u; subst v
      exact ⟨rfl, _, _, rfl, rfl⟩
    · rw [brF c2] at u v
      obtain ⟨a, w⟩ := hw_56 (x2 := d) (t0 := (0 : Int32) - hI h0 B st.toNatClampNeg) (t1 := x0)
      rw [w] at u v
      have u := Option.some.inj u
      have v := Option.some.inj v
      subst u; subst v
      exact ⟨rfl, _, _, rfl, rfl⟩
end
end
