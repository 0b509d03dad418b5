/-! the sets that come of a set, gathered and sorted -/
abbrev KSL : List (Nat × Nat) := [(20, 999), (1, 9), (1, 18)]
section
variable {ρ : Nat → Nat} {c : Cm} {h o : Hp} {x0 ks pw st F : Nat} {x1 : Int32}
/-- a digit of a man that is there -/
theorem sz_dig {X : Int} {s : Int32} (i : Rg 0 4 s) (l : s.toInt < (szI X : Int)) (a : 0 ≤ X) {x : Int32} (ex : x.toInt = X) : 1 ≤ ((x >>> (((5 : Int32) * s) &&& 31)) &&& (31 : Int32)).toInt := by
  subst ex
  have d0 : ((x >>> (((5 : Int32) * 0) &&& 31)) &&& (31 : Int32)).toInt = x.toInt % 32 := by rw [dig_i a 0 ((5 : Int32) * 0) rfl]; show x.toInt / 1 % 32 = _; omega
  have d1 : ((x >>> (((5 : Int32) * 1) &&& 31)) &&& (31 : Int32)).toInt = x.toInt / 32 % 32 := dig_i a 5 ((5 : Int32) * 1) rfl
  have d2 : ((x >>> (((5 : Int32) * 2) &&& 31)) &&& (31 : Int32)).toInt = x.toInt / 1024 % 32 := dig_i a 10 ((5 : Int32) * 2) rfl
  have d3 : ((x >>> (((5 : Int32) * 3) &&& 31)) &&& (31 : Int32)).toInt = x.toInt / 32768 % 32 := dig_i a 15 ((5 : Int32) * 3) rfl
  have d4 : ((x >>> (((5 : Int32) * 4) &&& 31)) &&& (31 : Int32)).toInt = x.toInt / 1048576 % 32 := dig_i a 20 ((5 : Int32) * 4) rfl
  unfold szI at l
  have z0 : (0 : Int32).toInt = 0 := rfl
  have z1 : (1 : Int32).toInt = 1 := rfl
  have z2 : (2 : Int32).toInt = 2 := rfl
  have z3 : (3 : Int32).toInt = 3 := rfl
  have z4 : (4 : Int32).toInt = 4 := rfl
  rcases i32_04 i with w | w | w | w | w <;> subst w
  · rw [d0]; rw [z0] at l
    split at l
    · exact absurd l (by decide)
    · omega
  · rw [d1]; rw [z1] at l
    split at l
    · exact absurd l (by decide)
    · split at l
      · exact absurd l (by decide)
      · omega
  · rw [d2]; rw [z2] at l
    split at l
    · exact absurd l (by decide)
    · split at l
      · exact absurd l (by decide)
      · split at l
        · exact absurd l (by decide)
        · omega
  · rw [d3]; rw [z3] at l
    split at l
    · exact absurd l (by decide)
    · split at l
      · exact absurd l (by decide)
      · split at l
        · exact absurd l (by decide)
        · split at l
          · exact absurd l (by decide)
          · omega
  · rw [d4]; rw [z4] at l
    split at l
    · exact absurd l (by decide)
    · split at l
      · exact absurd l (by decide)
      · split at l
        · exact absurd l (by decide)
        · split at l
          · exact absurd l (by decide)
          · split at l
            · exact absurd l (by decide)
            · omega
theorem addSets_q (hF : 700000 ≤ F) (hA : pmA c KSL) (T : TH ρ c h) (r0 : ρ x0 = 1) (e4 : hR h x0 4 = some ks) (e6 : hR h x0 6 = some pw) (i1 : Rg 0 33554431 x1) (ky : KyX x1) (S : SumP x0 ks pw h) (t0 : 0 ≤ (hJ h x0 18).toInt) (tb : (hJ h x0 18).toInt ≤ 600000) : Sat (sX0_addSetsOf F h x0 x1) (fun o => TH ρ c o ∧ SumP x0 ks pw o ∧ 0 ≤ (hJ o x0 18).toInt ∧ (hJ o x0 18).toInt ≤ 100000000000 ∧ Kf ρ KSL h o) := by
  have qk : ρ ks = 20 := rr T (thR T r0 (i := 4) (k2 := 20) rfl (by decide)) e4
  have qp : ρ pw = 22 := rr T (thR T r0 (i := 6) (k2 := 22) rfl (by decide)) e6
  have s5 := sz_le x1.toInt
  have zsz := z_toInt (show szI x1.toInt < 2 ^ 31 by omega)
  have lp : ∀ (f : Nat) {g : Hp} {x2 : Int32}, TH ρ c g → Kf ρ KSL h g → SumP x0 ks pw g → 0 ≤ (hJ g x0 18).toInt → 0 ≤ x2.toInt → x2.toInt ≤ 5 → (hJ g x0 18).toInt ≤ 600000 + x2.toInt * 15032385536 → (6 - x2.toInt).toNat < f → Sat (sX0_addSetsOf_2 F f g x0 x1 x2) (fun o => TH ρ c o ∧ SumP x0 ks pw o ∧ 0 ≤ (hJ o x0 18).toInt ∧ (hJ o x0 18).toInt ≤ 100000000000 ∧ Kf ρ KSL h o) := by
    intro f
    induction f with
    | zero => intros; omega
    | succ f ih =>
      intro g x2 Tg Kg Sg t0g a2 b2 tbg hf
      rw [sX0_addSetsOf_2]
      unfold sX0_codeIn
      refine s_cl (s_imp (size_q hF i1.1) (fun o1 ⟨e1, v1⟩ => ?_))
      rw [e1, v1]
      refine s_br (fun _ => s_some ⟨Tg, Sg, t0g, by omega, Kg⟩) (fun n1 => ?_)
      have l2 := nle_i n1
      rw [zsz] at l2
      have i2 : Rg 0 4 x2 := ⟨a2, by omega⟩
      have ny2 := nc_s i2 (by decide)
      have dg1 := sz_dig i2 l2 i1.1 rfl
      have dg2 := ky x2 a2 (by omega)
      refine s_cl (s_some ?_)
      dsimp only
      have z1 : (1 : Int32).toInt = 1 := rfl
      have ecd : (((x1 >>> (((5 : Int32) * x2) &&& 31)) &&& (31 : Int32)) - (1 : Int32)).toInt = ((x1 >>> (((5 : Int32) * x2) &&& 31)) &&& (31 : Int32)).toInt - 1 := by rw [ts (by rw [z1]; omega), z1]
      generalize ((x1 >>> (((5 : Int32) * x2) &&& 31)) &&& (31 : Int32)) - (1 : Int32) = cd at ecd
      have icd : Rg 0 23 cd := ⟨by omega, by omega⟩
      refine s_q (fun mn em => ?_)
      have imn : Rg 0 11 mn := by rw [em]; exact rg_shrk 1 (by decide) icd (by decide)
      clear em
      obtain ⟨L, eL, qL⟩ := thR Tg r0 (i := 0) (k2 := 2) rfl (by decide)
      refine s_ref eL ?_
      unfold sX0_addSetsOf_104
      have nx : ∀ {g2 : Hp}, TH ρ c g2 → Kf ρ KSL h g2 → SumP x0 ks pw g2 → 0 ≤ (hJ g2 x0 18).toInt → (hJ g2 x0 18).toInt ≤ 600000 + (x2.toInt + 1) * 15032385536 → Sat (nm (x2 + (1 : Int32)) fun v_1 => sX0_addSetsOf_2 F f g2 x0 x1 v_1) (fun o => TH ρ c o ∧ SumP x0 ks pw o ∧ 0 ≤ (hJ o x0 18).toInt ∧ (hJ o x0 18).toInt ≤ 100000000000 ∧ Kf ρ KSL h o) := fun {g2} T2 K2 S2 p0 p1 => by
        refine s_q (fun y ey => ?_)
        have ey2 : y.toInt = x2.toInt + 1 := by rw [ey]; exact ny2.2
        clear ey
        exact ih T2 K2 S2 p0 (by omega) (by omega) (by rw [ey2]; exact p1) (by omega)
      refine s_br (fun _ => nx Tg Kg Sg t0g (by omega)) (fun _ => ?_)
      refine s_cl (s_imp (wout_q i1.1 i1.2 ky i2) (fun o7 ⟨e7, i7, k7⟩ => ?_))
      rw [e7]
      have e4g : hR g x0 4 = some ks := by rw [kfR 4 Kg r0]; exact e4
      have e6g : hR g x0 6 = some pw := by rw [kfR 6 Kg r0]; exact e6
      refine s_cl (s_imp (addC_q (B := 600000 + x2.toInt * 15032385536) hF hA Tg r0 e4g e6g (rg_m i7 (by decide)) k7 Sg t0g tbg (by omega)) (fun o8 ⟨T8, S8, p8, b8, K8⟩ => ?_))
      have l52 : ∀ (ff : Nat) {g2 : Hp} {x6 : Int32}, TH ρ c g2 → Kf ρ KSL h g2 → SumP x0 ks pw g2 → 0 ≤ (hJ g2 x0 18).toInt → 0 ≤ x6.toInt → x6.toInt ≤ 6 → (hJ g2 x0 18).toInt ≤ 600000 + x2.toInt * 15032385536 + (1 + x6.toInt) * 2147483648 → (7 - x6.toInt).toNat < ff → Sat (sX0_addSetsOf_52 F (sX0_addSetsOf_2 F f) ff g2 x0 x1 x2 cd mn o7.1 x6) (fun o => TH ρ c o ∧ SumP x0 ks pw o ∧ 0 ≤ (hJ o x0 18).toInt ∧ (hJ o x0 18).toInt ≤ 100000000000 ∧ Kf ρ KSL h o) := by
        intro ff
        induction ff with
        | zero => intros; omega
        | succ ff ih2 =>
          intro g2 x6 T2 K2 S2 p0 a6 b6 p1 hf2
          rw [sX0_addSetsOf_52]
          unfold sX0_addSetsOf_104
          obtain ⟨L, eL, qL⟩ := thR T2 r0 (i := 0) (k2 := 2) rfl (by decide)
          obtain ⟨r2, er2, q2⟩ := thR T2 qL (i := 18) (k2 := 31) rfl (by decide)
          obtain ⟨r6, er6, q6⟩ := thR T2 qL (i := 17) (k2 := 30) rfl (by decide)
          refine s_ref eL (s_ref er2 ?_)
          refine s_gd (by rw [thN T2 q2 (k := 31) (n := 12) rfl (by decide)]; exact rg_inB imn (by decide)) ?_
          refine s_br (fun _ => nx T2 K2 S2 p0 (by omega)) (fun n6 => ?_)
          have l6 := nle_i n6
          have m6 := (thI T2 q2 (k := 31) (i := mn.toNatClampNeg) (lo := 0) (hi := 6) rfl).2
          have i6 : Rg 0 5 x6 := ⟨a6, by omega⟩
          have ny6 := nc_s i6 (by decide)
          refine s_ref eL (s_ref er6 ?_)
          have iq : Rg 0 66 (mn * (6 : Int32)) := by
            have e6' : (6 : Int32).toInt = 6 := rfl
            have := imn.1
            have := imn.2
            exact ⟨by rw [tm (by rw [e6']; omega), e6']; omega, by rw [tm (by rw [e6']; omega), e6']; omega⟩
          refine s_gd (by rw [thN T2 q6 (k := 30) (n := 72) rfl (by decide)]; exact rg_inB (rg_add iq i6 (by decide) : Rg 0 71 _) (by decide)) ?_
          have ib := thI T2 q6 (k := 30) (i := ((mn * (6 : Int32)) + x6).toNatClampNeg) (lo := 0) (hi := 11) rfl
          have ibb : Rg 0 22 ((2 : Int32) * (hI g2 r6 ((mn * (6 : Int32)) + x6).toNatClampNeg)) := by
            have z2 : (2 : Int32).toInt = 2 := rfl
            have := ib.1
            have := ib.2
            exact ⟨by rw [tm (by rw [z2]; omega), z2]; omega, by rw [tm (by rw [z2]; omega), z2]; omega⟩
          have ic : Rg 0 23 (((2 : Int32) * (hI g2 r6 ((mn * (6 : Int32)) + x6).toNatClampNeg)) + (cd &&& (1 : Int32))) := rg_add ibb (side_r (x := cd)) (by decide)
          refine s_cl (s_imp (with_q (x := o7.1) hF i7.1 i7.2 k7 ic) (fun o9 ⟨e9, i9, k9⟩ => ?_))
          rw [e9]
          refine s_cl (s_imp (addC_q (B := 600000 + x2.toInt * 15032385536 + (1 + x6.toInt) * 2147483648) hF hA T2 r0 (by rw [kfR 4 K2 r0]; exact e4) (by rw [kfR 6 K2 r0]; exact e6) i9 k9 S2 p0 p1 (by omega)) (fun o10 ⟨T10, S10, p10, b10, K10⟩ => ?_))
          refine s_q (fun y ey => ?_)
          have ey2 : y.toInt = x6.toInt + 1 := by rw [ey]; exact ny6.2
          clear ey
          exact ih2 T10 (kf_t K2 K10) S10 p10 (by omega) (by omega) (by rw [ey2]; omega) (by omega)
      have z0 : (0 : Int32).toInt = 0 := rfl
      exact l52 F T8 (kf_t Kg K8) S8 p8 (by decide) (by decide) (by rw [z0]; omega) (by rw [z0]; omega)
  unfold sX0_addSetsOf
  have z0 : (0 : Int32).toInt = 0 := rfl
  exact lp F T kf_r S t0 (by decide) (by decide) (by rw [z0]; omega) (by rw [z0]; omega)
end
