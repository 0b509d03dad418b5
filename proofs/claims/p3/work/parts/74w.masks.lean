/-! where the masks of a set begin -/
def MBg (x0 : Nat) (n : Int) (h : Hp) : Prop := ∀ rm rb, hR h x0 46 = some rm → hR h x0 53 = some rb → ∀ k : Nat, (k : Int) < n → (hI h rb k).toInt + (hI h rm k).toInt * (hI h x0 13).toInt ^ (hI h rm k).toNatClampNeg ≤ 1500000
/-- the masks of the sets one behind the other -/
def MBd (x0 : Nat) (n a : Int) (h : Hp) : Prop := ∀ rm rb, hR h x0 46 = some rm → hR h x0 53 = some rb → ∀ k : Nat, (k : Int) < n → (hI h rb k).toInt + (hI h rm k).toInt * (hI h x0 13).toInt ^ (hI h rm k).toNatClampNeg ≤ a ∧ ∀ k2 : Nat, k < k2 → (k2 : Int) < n → (hI h rb k).toInt + (hI h rm k).toInt * (hI h x0 13).toInt ^ (hI h rm k).toNatClampNeg ≤ (hI h rb k2).toInt
section
variable {ρ : Nat → Nat} {c : Cm} {h o : Hp} {x0 F : Nat} {x3 x4 : Int32} {n0 : Int}
theorem se_104 (T : TH ρ c h) (r0 : ρ x0 = 16) (f : Fr ρ (cat c (fS [(104, 999)] []) h) h o) (P : SE x0 h) : SE x0 o := by
  have g : ∀ {i k2 r k : Nat}, rfK 16 i = k2 → k2 ≠ 0 → mS [(104, 999)] k2 k = false → hR h x0 i = some r → hI o r k = hI h r k := fun {i k2 r k} e1 e2 e3 er => (fr_RI f (rr T (thR T r0 (i := i) (k2 := k2) e1 e2) er) e2 (fun _ => fs_nf e3)).1
  exact se_of (fun i => (fr_RI f r0 (by decide) (fun _ => rfl)).2.2) (fr_RI f r0 (by decide) (fun _ => rfl)).1 (fr_RI f r0 (by decide) (fun _ => rfl)).1 (fr_RI f r0 (by decide) (fun _ => rfl)).2.1 (fun r er k _ => g (i := 46) (k2 := 99) rfl (by decide) rfl er) (fun r er k _ => g (i := 48) (k2 := 101) rfl (by decide) rfl er) (fun r er k _ => g (i := 47) (k2 := 100) rfl (by decide) rfl er) (fun r er k => g (i := 55) (k2 := 106) rfl (by decide) rfl er) (fun r er k => g (i := 56) (k2 := 107) rfl (by decide) rfl er) (m5_of T r0) P
/-- how many masks there are so far -/
def AllB (x0 : Nat) (k : Nat) (a : Int) (h : Hp) : Prop := ∀ rb, hR h x0 48 = some rb → 2 * a ≤ 5 * (if (k : Int) < (hI h x0 49).toInt then (hI h rb k).toInt else (hJ h x0 59).toInt)
theorem so_246 {Q : Int32 × Hp → Prop} (hF : 700000 ≤ F) (hA : pmA c [(104, 999)]) (r0 : ρ x0 = 16)
    (K : ∀ o y, TH ρ c o → SE x0 o → (hI o x0 49).toInt = n0 → MBg x0 n0 o → MBd x0 n0 y.toInt o → Rg 0 1500000 y → Sat (onr (hR o x0 52) (nm (hS o) fun a_4 => nm (nC o 18 (1500000 : Int32).toNatClampNeg (1500000 : Int32).toNatClampNeg) fun h_5 => sX15_solve_301 F h_5 x0 y a_4 x0) (fun r_2 => sX15_solve_304 F o x0 y)) Q) : ∀ (f : Nat) {h : Hp} {x3 x4 : Int32}, TH ρ c h → SE x0 h → (hI h x0 49).toInt = n0 → 0 ≤ x4.toInt → x4.toInt ≤ n0 → 0 ≤ x3.toInt → AllB x0 x4.toNatClampNeg x3.toInt h → MBg x0 x4.toInt h → MBd x0 x4.toInt x3.toInt h → (4097 - x4.toInt).toNat < f → Sat (sX15_solve_246 F f h x0 x3 x4) Q := by
  intro f
  induction f with
  | zero => intros; omega
  | succ f ih =>
    intro h x3 x4 T P pn a4 b4 a3 B MB MD hf
    rw [sX15_solve_246]
    unfold sX15_solve_270
    have in0 := thI T r0 (k := 16) (i := 49) (lo := 0) (hi := 4096) rfl
    have n4 := in0.2
    have c4 := clamp_i a4
    have s2 := P.2.1.2
    obtain ⟨rs, es, qs⟩ := thR T r0 (i := 48) (k2 := 101) rfl (by decide)
    obtain ⟨rm, em, qm⟩ := thR T r0 (i := 46) (k2 := 99) rfl (by decide)
    have Bs := B rs es
    refine s_br (fun l => ?_) (fun n1 => ?_)
    · have l' := le_i l
      rw [if_neg (by omega)] at Bs
      have ez : x4.toInt = n0 := by omega
      rw [ez] at MB MD
      exact K h x3 T P pn MB MD ⟨a3, by omega⟩
    · have l4 := nle_i n1
      have i4 : Rg 0 4095 x4 := ⟨a4, by omega⟩
      rw [if_pos (by omega)] at Bs
      obtain ⟨rb, eb, qb⟩ := thR T r0 (i := 53) (k2 := 104) rfl (by decide)
      have W6 := many_6 (k := x4.toNatClampNeg) em es P (by omega)
      have m5 := thI T qm (k := 99) (i := x4.toNatClampNeg) (lo := 0) (hi := 5) rfl
      have m50 := m5.1
      have m51 := m5.2
      have ib0 := (thI T qs (k := 101) (i := x4.toNatClampNeg) (lo := 0) (hi := 600000) rfl).1
      have s9 := (thI T r0 (k := 16) (i := 13) (lo := 9) (hi := 64) rfl).1
      have p0 : 0 ≤ (hI h x0 13).toInt ^ (hI h rm x4.toNatClampNeg).toNatClampNeg := Int.pow_nonneg (by omega)
      have mu : (hI h rm x4.toNatClampNeg).toInt * (hI h x0 13).toInt ^ (hI h rm x4.toNatClampNeg).toNatClampNeg ≤ 5 * (hI h x0 13).toInt ^ (hI h rm x4.toNatClampNeg).toNatClampNeg := Int.mul_le_mul_of_nonneg_right m51 p0
      have mu0 : 0 ≤ (hI h rm x4.toNatClampNeg).toInt * (hI h x0 13).toInt ^ (hI h rm x4.toNatClampNeg).toNatClampNeg := Int.mul_nonneg m50 p0
      refine s_ref eb ?_
      refine s_gd (by rw [thN T qb (k := 104) (n := 4096) rfl (by decide)]; exact rg_inB i4 (by decide)) ?_
      refine s_hq (th_wI T qb (k := 104) (lo := 0) (hi := 1500000) rfl ⟨a3, by omega⟩ (by decide) (by decide) (pm_a hA rfl)) (fun h8 T8 w8 => ?_)
      have f8 := fr1I (c := c) (A := [(104, 999)]) qb rfl w8
      have P8 := se_104 T r0 f8 P
      have R8 : ∀ a i, hR h8 a i = hR h a i := fun a i => by rw [w8]; rfl
      have g8 : ∀ {a k : Nat}, ρ a = k → k ≠ 104 → ∀ i, hI h8 a i = hI h a i := fun {a k} ea hk i => by rw [w8, r_I, if_neg (ne_r ea qb hk)]
      have e13 : hI h8 x0 13 = hI h x0 13 := g8 r0 (by decide) _
      have ev : hI h8 rm x4.toNatClampNeg = hI h rm x4.toNatClampNeg := g8 qm (by decide) _
      refine s_cl (s_imp (sizeOf_q (x1 := x4) (rm := rm) hF T8 r0 i4 (by rw [R8]; exact em) (by rw [e13, ev]; omega)) (fun o9 ⟨e9, v9⟩ => ?_))
      rw [e9]
      rw [e13, ev] at v9
      refine s_ref (by rw [R8]; exact em) ?_
      refine s_gd (by rw [thN T8 qm (k := 99) (n := 4096) rfl (by decide)]; exact rg_inB i4 (by decide)) ?_
      rw [ev]
      have i9 : Rg 0 600000 o9.1 := ⟨by omega, by omega⟩
      have eh : (o9.1 / (2 : Int32)).toInt = (hI h x0 13).toInt ^ (hI h rm x4.toNatClampNeg).toNatClampNeg := by
        rw [td i9 (rg_b rfl : Rg 2 2 (2 : Int32)) (by decide), v9]
        show 2 * (hI h x0 13).toInt ^ (hI h rm x4.toNatClampNeg).toNatClampNeg / 2 = _
        omega
      have cm : (o9.1 / (2 : Int32)).toInt * (hI h rm x4.toNatClampNeg).toInt = (hI h rm x4.toNatClampNeg).toInt * (hI h x0 13).toInt ^ (hI h rm x4.toNatClampNeg).toNatClampNeg := by rw [eh, Int.mul_comm]
      have et : ((o9.1 / (2 : Int32)) * (hI h rm x4.toNatClampNeg)).toInt = (hI h rm x4.toNatClampNeg).toInt * (hI h x0 13).toInt ^ (hI h rm x4.toNatClampNeg).toNatClampNeg := by rw [tm ⟨by rw [cm]; omega, by rw [cm]; omega⟩, cm]
      refine s_q (fun v ev3 => s_q (fun y ey => ?_))
      have v2 : v.toInt = x3.toInt + (hI h rm x4.toNatClampNeg).toInt * (hI h x0 13).toInt ^ (hI h rm x4.toNatClampNeg).toNatClampNeg := by rw [ev3, ta ⟨by rw [et]; omega, by rw [et]; omega⟩, et]
      have ny := nc_s i4 (by decide)
      have ey2 : y.toInt = x4.toInt + 1 := by rw [ey]; exact ny.2
      have ey3 : y.toNatClampNeg = x4.toNatClampNeg + 1 := by rw [ey]; exact ny.1
      clear ev3 ey
      have e49 : hI h8 x0 49 = hI h x0 49 := g8 r0 (by decide) _
      have J8 : hJ h8 x0 59 = hJ h x0 59 := by rw [w8]; rfl
      refine ih T8 P8 (by rw [e49]; exact pn) (by omega) (by omega) (by omega) ?_ ?_ ?_ (by omega)
      · intro rs' es'
        rw [R8] at es'
        have hz := r_eq es es'
        subst hz
        rw [ey3, e49, J8, g8 qs (by decide)]
        by_cases z : ((x4.toNatClampNeg + 1 : Nat) : Int) < (hI h x0 49).toInt
        · rw [if_pos z]
          have := P.2.2.2.2.2 rm rs' em es' x4.toNatClampNeg (by omega)
          omega
        · rw [if_neg z]
          have := P.2.2.1 rm rs' em es' x4.toNatClampNeg (by omega)
          omega
      · intro rm' rb' em' eb' k hk
        rw [R8] at em' eb'
        have hz := r_eq em em'
        subst hz
        have hz := r_eq eb eb'
        subst hz
        rw [e13, g8 qm (by decide)]
        by_cases z : k = x4.toNatClampNeg
        · rw [z, he_s w8]
          omega
        · rw [w8, r_I, if_neg (fun q => z q.2)]
          exact MB rm' rb' em' eb' k (by omega)
      · intro rm' rb' em' eb' k hk
        rw [R8] at em' eb'
        have hz := r_eq em em'
        subst hz
        have hz := r_eq eb eb'
        subst hz
        rw [e13, g8 qm (by decide)]
        by_cases z : k = x4.toNatClampNeg
        · rw [z, he_s w8]
          exact ⟨by omega, fun k2 l1 l2 => by omega⟩
        · rw [w8, r_I, if_neg (fun q => z q.2)]
          obtain ⟨d1, d2⟩ := MD rm' rb' em' eb' k (by omega)
          refine ⟨by omega, fun k2 l1 l2 => ?_⟩
          by_cases z2 : k2 = x4.toNatClampNeg
          · rw [r_I, if_pos ⟨rfl, z2⟩]; exact d1
          · rw [r_I, if_neg (fun q => z2 q.2)]; exact d2 k2 l1 (by omega)
end
