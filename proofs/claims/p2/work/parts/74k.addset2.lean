section
variable {ρ : Nat → Nat} {c : Cm} {h o : Hp} {S : Nat → Nat → Nat → Bool} {x0 a F r4 r : Nat} {n0 m : Int} {x1 x2 x3 x4 : Int32} {J : Int64}
abbrev seL : List (Nat × Nat) := [(99, 999), (100, 999), (101, 999), (106, 999), (107, 999), (108, 999), (16, 49), (16, 59)]
/-- the set's slot is found and filled: it counts -/
theorem as_end (hF : 700000 ≤ F) (hA : pmA c seL) (T : TH ρ c h) (r0 : ρ x0 = 16) (i1 : Rg 0 5 x1) (l0 : 0 ≤ n0) (ln : n0 < 4096) (eJ : J.toInt = 2 * (hI h x0 13).toInt ^ x1.toNatClampNeg) (J0 : 0 ≤ J.toInt) (P : PD x0 n0 x1 x1.toInt h) : Sat (nm (wJ h x0 59 ((hJ h x0 59) + J)) fun h_2 => nm (wI h_2 x0 49 ((hI h_2 x0 49) + (1 : Int32))) fun h_3 => cl (hR h_3 x0 57) fun r_4 => cl (sX15_packed F h_3 r_4 x1) fun o_5 => cl (sX15_slotOf F o_5.2 x0 o_5.1) fun o_6 => cl (hR o_6.2 x0 55) fun r_7 => cl (hR o_6.2 x0 57) fun r_8 => cl (sX15_packed F o_6.2 r_8 x1) fun o_9 => gd (inB o_6.1 (hN o_9.2 r_7)) <| nm (wI o_9.2 r_7 o_6.1.toNatClampNeg o_9.1) fun h_11 => cl (hR h_11 x0 56) fun r_12 => gd (inB o_6.1 (hN h_11 r_12)) <| nm (wI h_11 r_12 o_6.1.toNatClampNeg (hI h_11 x0 49)) fun h_14 => some ((1 : Int32), h_14)) (fun o => TH ρ c o.2 ∧ Rg 0 1 o.1 ∧ SE x0 o.2 ∧ n0 ≤ (hI o.2 x0 49).toInt ∧ (¬ o.1 = 0 → 1 ≤ (hI o.2 x0 49).toInt)) := by
  obtain ⟨⟨p1, p2, p3, p4, p5, p6⟩, pn, pA, pm, pb, pe, pw⟩ := P
  obtain ⟨rs, es, qs⟩ := thR T r0 (i := 56) (k2 := 107) rfl (by decide)
  obtain ⟨rk, ek, qk⟩ := thR T r0 (i := 55) (k2 := 106) rfl (by decide)
  obtain ⟨rm, em, qm⟩ := thR T r0 (i := 46) (k2 := 99) rfl (by decide)
  obtain ⟨re, ee, qe⟩ := thR T r0 (i := 47) (k2 := 100) rfl (by decide)
  obtain ⟨rb, eb, qb⟩ := thR T r0 (i := 48) (k2 := 101) rfl (by decide)
  obtain ⟨ro, eo, qo⟩ := thR T r0 (i := 57) (k2 := 108) rfl (by decide)
  have z1 : (1 : Int32).toInt = 1 := rfl
  have n14 : ¬ (0 : Nat) = 1 := by decide
  have eA : ((hJ h x0 59) + J).toInt = (hJ h x0 59).toInt + J.toInt := ta64 (by have := p2.1; omega) (by have := p2.2; omega)
  have eN : ((hI h x0 49) + (1 : Int32)).toInt = n0 + 1 := by rw [ta (by rw [pn, z1]; omega), pn, z1]
  refine s_hq (th_wJ T r0 (by decide) (pm_a hA rfl)) (fun h2 T2 w2 => ?_)
  have e49 : hI h2 x0 49 = hI h x0 49 := by rw [w2]; rfl
  rw [e49]
  refine s_hq (th_wI T2 r0 (k := 16) (lo := 0) (hi := 4096) rfl ⟨by omega, by omega⟩ (by decide) (by decide) (pm_a hA rfl)) (fun h3 T3 w3 => ?_)
  have R3 : ∀ a i, hR h3 a i = hR h a i := fun a i => by rw [w3, w2]; rfl
  have I3 : ∀ a i, ¬ (a = x0 ∧ i = 49) → hI h3 a i = hI h a i := fun a i n => by rw [w3, r_I, if_neg n, w2]; rfl
  have ne16 : ∀ {a k : Nat}, ρ a = k → k ≠ 16 → ∀ i, ¬ (a = x0 ∧ i = 49) := fun ea hk i y => hk (by rw [← ea, ← r0, y.1])
  refine s_ref (by rw [R3]; exact eo) ?_
  refine s_cl (s_imp (packed_q hF (thN T3 qo (k := 108) (n := 6) rfl (by decide)) (rg_m i1 (by decide))) (fun o5 ⟨e5, k5⟩ => ?_))
  rw [e5]
  have u3 : uC h3 rs 16384 < 16384 := by
    rw [uC_eq 16384 (fun j _ => I3 rs j (ne16 qs (by decide) j))]
    have := p1 rs es
    omega
  refine s_cl (s_imp (zX15_slotOf (r4 := rk) hF T3 r0 (by rw [R3]; exact es) (by rw [R3]; exact ek) u3) (fun o6 ⟨e6, i6, _⟩ => ?_))
  rw [e6]
  refine s_ref (by rw [R3]; exact ek) ?_
  refine s_ref (by rw [R3]; exact eo) ?_
  refine s_cl (s_imp (packed_q hF (thN T3 qo (k := 108) (n := 6) rfl (by decide)) (rg_m i1 (by decide))) (fun o9 ⟨e9, k9⟩ => ?_))
  rw [e9]
  refine s_gd (by rw [thN T3 qk (k := 106) (n := 16384) rfl (by decide)]; exact rg_inB i6 (by decide)) ?_
  refine s_hq (th_wI T3 qk (k := 106) (lo := -2147483648) (hi := 2147483647) rfl (rg_top _) (by decide) (by decide) (pm_a hA rfl)) (fun h11 T11 w11 => ?_)
  have R11 : ∀ a i, hR h11 a i = hR h a i := fun a i => by rw [w11]; exact R3 a i
  refine s_ref (by rw [R11]; exact es) ?_
  refine s_gd (by rw [thN T11 qs (k := 107) (n := 16384) rfl (by decide)]; exact rg_inB i6 (by decide)) ?_
  have n49 : hI h11 x0 49 = (hI h x0 49) + (1 : Int32) := by rw [w11, r_I, if_neg (ne_r r0 qk (by decide)), he_s w3]
  refine s_hq (th_wI T11 qs (k := 107) (lo := 0) (hi := 4096) rfl (thI T11 r0 (k := 16) (i := 49) (lo := 0) (hi := 4096) rfl) (by decide) (by decide) (pm_a hA rfl)) (fun h14 T14 w14 => ?_)
  have R14 : ∀ a i, hR h14 a i = hR h a i := fun a i => by rw [w14]; exact R11 a i
  have N14 : hI h14 x0 49 = (hI h x0 49) + (1 : Int32) := by rw [w14, r_I, if_neg (ne_r r0 qs (by decide))]; exact n49
  have N14' : (hI h14 x0 49).toInt = n0 + 1 := by rw [N14]; exact eN
  have J14 : hJ h14 x0 59 = (hJ h x0 59) + J := by
    rw [w14, w11, w3, w2]
    show hJ (wJ h x0 59 _) x0 59 = _
    rw [r_J, if_pos ⟨rfl, rfl⟩]
  have I14 : ∀ {a k : Nat}, ρ a = k → k ≠ 16 → k ≠ 106 → k ≠ 107 → ∀ i, hI h14 a i = hI h a i := fun {a k} ea h1 h2 h3 i => by
    rw [w14, r_I, if_neg (fun y => h3 (by rw [← ea, ← qs, y.1])), w11, r_I, if_neg (fun y => h2 (by rw [← ea, ← qk, y.1])), I3 a i (ne16 ea h1 i)]
  have X13 : hI h14 x0 13 = hI h x0 13 := by
    rw [w14, r_I, if_neg (ne_r r0 qs (by decide)), w11, r_I, if_neg (ne_r r0 qk (by decide)), I3 x0 13 (fun y => absurd y.2 (by decide))]
  have c6 := clamp_i i6.1
  have sl : ∀ j, hI h14 rs j = if j = o6.1.toNatClampNeg then (hI h x0 49) + (1 : Int32) else hI h rs j := fun j => by
    rw [w14, r_I]
    by_cases z : j = o6.1.toNatClampNeg
    · rw [if_pos ⟨rfl, z⟩, if_pos z]; exact n49
    · rw [if_neg (fun y => z y.2), if_neg z, w11, r_I, if_neg (ne_r qs qk (by decide)), I3 rs j (ne16 qs (by decide) j)]
  have sk : ∀ j, ¬ j = o6.1.toNatClampNeg → hI h14 rk j = hI h rk j := fun j z => by
    rw [w14, r_I, if_neg (ne_r qk qs (by decide)), w11, r_I, if_neg (fun y => z y.2), I3 rk j (ne16 qk (by decide) j)]
  have sk0 : hI h14 rk o6.1.toNatClampNeg = pkN h ro 0 x1 x1.toNatClampNeg := by
    rw [w14, r_I, if_neg (ne_r qk qs (by decide)), he_s w11, k9]
    exact pkN_eq _ (fun i _ => I3 ro _ (ne16 qo (by decide) _))
  have c1 := clamp_i i1.1
  refine s_some ⟨T14, rg_b rfl, ⟨fun r er => ?_, ?_, fun rm' rb' em' eb' k hk => ?_, fun rs' rk' rm' re' es' ek' em' ee' j hj hp => ?_, fun rm' re' em' ee' k hk i hi => ?_, fun rm' rb' em' eb' k hk => ?_⟩, ?_⟩
  · rw [R14] at er
    have hz := r_eq es er
    subst hz
    show (uC h14 r 16384 : Int) ≤ (hI h14 x0 49).toInt
    rw [N14']
    have a1 := uC_w w14 16384
    have a2 : uC h11 r 16384 = uC h r 16384 := uC_eq 16384 (fun j _ => by rw [w11, r_I, if_neg (ne_r qs qk (by decide)), I3 r j (ne16 qs (by decide) j)])
    have a3 := p1 r er
    split at a1 <;> omega
  · show 0 ≤ (hJ h14 x0 59).toInt ∧ (hJ h14 x0 59).toInt ≤ 600000
    rw [J14, eA]
    have := p2.1
    omega
  · rw [R14] at em' eb'
    have hz := r_eq em em'
    subst hz
    have hz := r_eq eb eb'
    subst hz
    show (hI h14 rb' k).toInt + 2 * (hI h14 x0 13).toInt ^ (hI h14 rm' k).toNatClampNeg ≤ (hJ h14 x0 59).toInt
    rw [J14, eA, X13, I14 qm (by decide) (by decide) (by decide), I14 qb (by decide) (by decide) (by decide)]
    have hk' : (k : Int) < n0 + 1 := by rw [← N14']; exact hk
    by_cases z : (k : Int) < n0
    · have := p3 rm' rb' em' eb' k (by rw [pn]; exact z)
      omega
    · have ek2 : k = n0.toNat := by omega
      rw [ek2, pm rm' em', pb rb' eb', eJ]
      omega
  · rw [R14] at es' ek' em' ee'
    have hz := r_eq es es'
    subst hz
    have hz := r_eq ek ek'
    subst hz
    have hz := r_eq em em'
    subst hz
    have hz := r_eq ee ee'
    subst hz
    replace hp : 0 < (hI h14 rs' j).toInt := hp
    show (hI h14 rs' j).toInt ≤ (hI h14 x0 49).toInt ∧ hI h14 rk' j = pkN h14 re' (5 * ((hI h14 rs' j).toInt.toNat - 1)) (hI h14 rm' ((hI h14 rs' j).toInt.toNat - 1)) (hI h14 rm' ((hI h14 rs' j).toInt.toNat - 1)).toNatClampNeg
    by_cases z : j = o6.1.toNatClampNeg
    · have e1 : hI h14 rs' j = (hI h x0 49) + (1 : Int32) := by rw [sl j, if_pos z]
      have e2 : (hI h14 rs' j).toInt.toNat - 1 = n0.toNat := by rw [e1, eN]; omega
      rw [e2, I14 qm (by decide) (by decide) (by decide), pm rm' em']
      refine ⟨by rw [e1, N14]; exact Int.le_refl _, ?_⟩
      rw [z, sk0]
      refine (pkN_eq _ (fun i hi => ?_)).symm
      rw [I14 qe (by decide) (by decide) (by decide), Nat.zero_add]
      exact pe re' ro ee' eo i (by omega)
    · have e1 : hI h14 rs' j = hI h rs' j := by rw [sl j, if_neg z]
      rw [e1] at hp ⊢
      obtain ⟨q1, q2⟩ := p4 rs' rk' rm' re' es' ek' em' ee' j hj hp
      refine ⟨by rw [N14']; omega, ?_⟩
      rw [sk j z, q2, I14 qm (by decide) (by decide) (by decide)]
      exact (pkN_eq _ (fun i _ => I14 qe (by decide) (by decide) (by decide) _)).symm
  · rw [R14] at em' ee'
    have hz := r_eq em em'
    subst hz
    have hz := r_eq ee ee'
    subst hz
    show 1 ≤ (hI h14 re' (5 * k + i)).toInt
    rw [I14 qe (by decide) (by decide) (by decide)]
    replace hi : i < (hI h14 rm' k).toNatClampNeg := hi
    rw [I14 qm (by decide) (by decide) (by decide)] at hi
    have hk' : (k : Int) < n0 + 1 := by rw [← N14']; exact hk
    by_cases z : (k : Int) < n0
    · exact p5 rm' re' em' ee' k (by rw [pn]; exact z) i hi
    · have ek2 : k = n0.toNat := by omega
      rw [ek2, pm rm' em'] at hi
      rw [ek2, pe re' ro ee' eo i (by omega)]
      exact pw ro eo i (by omega)
  · rw [R14] at em' eb'
    have hz := r_eq em em'
    subst hz
    have hz := r_eq eb eb'
    subst hz
    show (hI h14 rb' k).toInt + 2 * (hI h14 x0 13).toInt ^ (hI h14 rm' k).toNatClampNeg ≤ (hI h14 rb' (k + 1)).toInt
    rw [X13, I14 qm (by decide) (by decide) (by decide), I14 qb (by decide) (by decide) (by decide), I14 qb (by decide) (by decide) (by decide)]
    have hk' : (k : Int) + 1 < n0 + 1 := by rw [← N14']; exact hk
    by_cases z : (k : Int) + 1 < n0
    · exact p6 rm' rb' em' eb' k (by rw [pn]; exact z)
    · have ek2 : k + 1 = n0.toNat := by omega
      have := p3 rm' rb' em' eb' k (by rw [pn]; omega)
      rw [ek2, pb rb' eb']
      omega
  · show n0 ≤ (hI h14 x0 49).toInt ∧ (_ → 1 ≤ (hI h14 x0 49).toInt)
    rw [N14']; exact ⟨by omega, fun _ => by omega⟩
end
