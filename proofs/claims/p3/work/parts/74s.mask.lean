/-! where a man's mask lies -/
section
variable {ρ : Nat → Nat} {c : Cm} {h o : Hp} {x0 a b F r4 r : Nat} {W : Int} {x1 x2 x3 x4 x5 x6 x7 : Int32}
theorem mk_11 (T : TH ρ c h) (r0 : ρ x0 = 16) (i1 : Rg 0 4095 x1) {rm rb re : Nat} (em : hR h x0 46 = some rm) (eb : hR h x0 53 = some rb) (ee : hR h x0 47 = some re) (a2 : 0 ≤ x2.toInt) (l2 : x2.toInt / 2 + 1 ≤ W) (hb : (hI h rb x1.toNatClampNeg).toInt + (hI h rm x1.toNatClampNeg).toInt * W ≤ 1500000) (a3 : 0 ≤ x3.toInt) (l3 : x3.toInt < (hI h rm x1.toNatClampNeg).toInt) (own : ¬ ((hI h re (5 * x1.toNatClampNeg + x3.toNatClampNeg)) - (1 : Int32)) &&& (1 : Int32) < x4) : ∀ (f : Nat) {x5 x6 : Int32}, 0 ≤ x5.toInt → 0 ≤ x6.toInt → x6.toInt ≤ (hI h rm x1.toNatClampNeg).toInt → x5.toInt ≤ x6.toInt → (x3.toInt < x6.toInt → x5.toInt + 1 ≤ x6.toInt) → (6 - x6.toInt).toNat < f → Sat (sX15_maskOf_11 F f h x0 x1 x2 x3 x4 x5 x6) (fun o => o.2 = h ∧ Rg 0 1499999 o.1) := by
  have qm : ρ rm = 99 := rr T (thR T r0 (i := 46) (k2 := 99) rfl (by decide)) em
  have qb : ρ rb = 104 := rr T (thR T r0 (i := 53) (k2 := 104) rfl (by decide)) eb
  have qe : ρ re = 100 := rr T (thR T r0 (i := 47) (k2 := 100) rfl (by decide)) ee
  have m5 := thI T qm (k := 99) (i := x1.toNatClampNeg) (lo := 0) (hi := 5) rfl
  have ib := thI T qb (k := 104) (i := x1.toNatClampNeg) (lo := 0) (hi := 1500000) rfl
  have bm := m5.2
  have am := m5.1
  have ib0 := ib.1
  intro f
  induction f with
  | zero => intros; omega
  | succ f ih =>
    intro x5 x6 a5 a6 b6 b5 q5 hf
    rw [sX15_maskOf_11]
    unfold sX15_maskOf_60 sX15_maskOf_64 sX15_maskOf_65
    have gm : inB x1 (hN h rm) := by rw [thN T qm (k := 99) (n := 4096) rfl (by decide)]; exact rg_inB i1 (by decide)
    refine s_ref em (s_gd gm ?_)
    refine s_br (fun l => ?_) (fun n1 => ?_)
    · have l' := le_i l
      refine s_ref eb ?_
      refine s_gd (by rw [thN T qb (k := 104) (n := 4096) rfl (by decide)]; exact rg_inB i1 (by decide)) ?_
      refine s_ref em (s_gd gm ?_)
      have eq2 : (x2 >>> ((1 : Int32) &&& 31)).toInt = x2.toInt / 2 := ti_shr1
      have q0 : 0 ≤ x2.toInt / 2 := by omega
      have mu : (hI h rm x1.toNatClampNeg).toInt * (x2.toInt / 2) ≤ (hI h rm x1.toNatClampNeg).toInt * (W - 1) := Int.mul_le_mul_of_nonneg_left (by omega) am
      rw [Int.mul_sub, Int.mul_one] at mu
      have m0 : 0 ≤ (hI h rm x1.toNatClampNeg).toInt * (x2.toInt / 2) := Int.mul_nonneg am q0
      have x5l := q5 (by omega)
      have e1 : ((hI h rm x1.toNatClampNeg) * (x2 >>> ((1 : Int32) &&& 31))).toInt = (hI h rm x1.toNatClampNeg).toInt * (x2.toInt / 2) := by rw [tm ⟨by rw [eq2]; omega, by rw [eq2]; omega⟩, eq2]
      have e2 : ((hI h rb x1.toNatClampNeg) + ((hI h rm x1.toNatClampNeg) * (x2 >>> ((1 : Int32) &&& 31)))).toInt = (hI h rb x1.toNatClampNeg).toInt + (hI h rm x1.toNatClampNeg).toInt * (x2.toInt / 2) := by rw [ta ⟨by rw [e1]; omega, by rw [e1]; omega⟩, e1]
      have e3 : (((hI h rb x1.toNatClampNeg) + ((hI h rm x1.toNatClampNeg) * (x2 >>> ((1 : Int32) &&& 31)))) + x5).toInt = (hI h rb x1.toNatClampNeg).toInt + (hI h rm x1.toNatClampNeg).toInt * (x2.toInt / 2) + x5.toInt := by rw [ta ⟨by rw [e2]; omega, by rw [e2]; omega⟩, e2]
      exact s_some ⟨rfl, ⟨by show 0 ≤ (((hI h rb x1.toNatClampNeg) + ((hI h rm x1.toNatClampNeg) * (x2 >>> ((1 : Int32) &&& 31)))) + x5).toInt; omega, by show (((hI h rb x1.toNatClampNeg) + ((hI h rm x1.toNatClampNeg) * (x2 >>> ((1 : Int32) &&& 31)))) + x5).toInt ≤ 1499999; omega⟩⟩
    · have l6 := nle_i n1
      have i6 : Rg 0 4 x6 := ⟨a6, by omega⟩
      have i5 : Rg 0 4 x5 := ⟨a5, by omega⟩
      obtain ⟨ix, ex⟩ := ix5 i1 i6
      refine s_ref ee ?_
      refine s_gd (by rw [thN T qe (k := 100) (n := 20480) rfl (by decide)]; exact rg_inB ix (by decide)) ?_
      unfold sX15_sideOf
      refine s_cl (s_some ?_)
      dsimp only
      have c3 := clamp_i a3
      have c6 := clamp_i a6
      have one : (x3.toInt ≤ x6.toInt → x3.toInt ≠ x6.toInt) → Sat (nm (x5 + (1 : Int32)) fun v_1 => nm (x6 + (1 : Int32)) fun v_2 => sX15_maskOf_11 F f h x0 x1 x2 x3 x4 v_1 v_2) (fun o => o.2 = h ∧ Rg 0 1499999 o.1) := fun hne => by
        refine s_q (fun u eu => s_q (fun y ey => ?_))
        have eu2 : u.toInt = x5.toInt + 1 := by rw [eu]; exact (nc_s i5 (by decide)).2
        have ey2 : y.toInt = x6.toInt + 1 := by rw [ey]; exact (nc_s i6 (by decide)).2
        clear eu ey
        exact ih (by omega) (by omega) (by omega) (by omega) (fun q => by
          have : x3.toInt ≠ x6.toInt := hne (by omega)
          have := q5 (by omega)
          omega) (by omega)
      have zero : Sat (nm (x5 + (0 : Int32)) fun v_1 => nm (x6 + (1 : Int32)) fun v_2 => sX15_maskOf_11 F f h x0 x1 x2 x3 x4 v_1 v_2) (fun o => o.2 = h ∧ Rg 0 1499999 o.1) := by
        refine s_q (fun u eu => s_q (fun y ey => ?_))
        have z0 : (0 : Int32).toInt = 0 := rfl
        have eu2 : u.toInt = x5.toInt := by rw [eu, ta (by rw [z0]; omega), z0]; omega
        have ey2 : y.toInt = x6.toInt + 1 := by rw [ey]; exact (nc_s i6 (by decide)).2
        clear eu ey
        exact ih (by omega) (by omega) (by omega) (by omega) (fun q => by omega) (by omega)
      refine s_br (fun t => one (fun _ z => ?_)) (fun _ => s_br (fun _ => s_br (fun _ => zero) (fun n2 => one (fun q => ?_))) (fun _ => zero))
      · refine absurd t ?_
        have : x6.toNatClampNeg = x3.toNatClampNeg := by omega
        rw [ex, this]
        exact own
      · have := nle_i n2
        omega
/-- the mask of a man of the side that moves -/
theorem maskOf_q (hF : 700000 ≤ F) (T : TH ρ c h) (r0 : ρ x0 = 16) (i1 : Rg 0 4095 x1) {rm rb re : Nat} (em : hR h x0 46 = some rm) (eb : hR h x0 53 = some rb) (ee : hR h x0 47 = some re) (a2 : 0 ≤ x2.toInt) (l2 : x2.toInt / 2 + 1 ≤ W) (hb : (hI h rb x1.toNatClampNeg).toInt + (hI h rm x1.toNatClampNeg).toInt * W ≤ 1500000) (a3 : 0 ≤ x3.toInt) (l3 : x3.toInt < (hI h rm x1.toNatClampNeg).toInt) (own : ¬ ((hI h re (5 * x1.toNatClampNeg + x3.toNatClampNeg)) - (1 : Int32)) &&& (1 : Int32) < x2 &&& (1 : Int32)) : Sat (sX15_maskOf F h x0 x1 x2 x3) (fun o => o.2 = h ∧ Rg 0 1499999 o.1) := by
  unfold sX15_maskOf
  refine s_q (fun v ev => ?_)
  rw [← ev] at own
  have z0 : (0 : Int32).toInt = 0 := rfl
  exact mk_11 T r0 i1 em eb ee a2 l2 hb a3 l3 own F (by decide) (by decide) (by rw [z0]; omega) (by decide) (fun q => by rw [z0] at q; omega) (by rw [z0]; omega)
end
