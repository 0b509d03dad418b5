/-! reading a law: what it leaves, and that the law keeps to itself -/
section
variable {ρ : Nat → Nat} {c : Cm} {h o g : Hp} {x0 x1 x2 L F v : Nat}
theorem rtS_f : pmA (cat c rtS h) RFL := fun w k i m => by
  show rtS k w i = true
  unfold mS at m
  rw [List.any_eq_true] at m
  obtain ⟨p, hp, hm⟩ := m
  rw [Bool.and_eq_true, Bool.or_eq_true, beq_iff_eq, beq_iff_eq, beq_iff_eq] at hm
  obtain ⟨hk, hi⟩ := hm
  rw [← hk]
  simp only [List.mem_cons, List.not_mem_nil, or_false] at hp
  rcases hp with z | z | z | z | z | z | z | z | z | z | z | z | z | z | z | z | z | z | z | z | z | z | z | z | z | z <;> (subst z; first | rfl | (rcases hi with y | y; exact absurd y (by decide); rw [← y]; rfl))
def rdS (v k w _i : Nat) : Bool := k == 3 || ((k == 2 || (decide (27 ≤ k) && decide (k ≤ 33))) && w == v)
theorem rdS_n {k w i : Nat} (s : rdS v k w i = false) : k ≠ 3 ∧ ¬ ((k = 2 ∨ (27 ≤ k ∧ k ≤ 33)) ∧ w = v) := by
  unfold rdS at s
  rw [Bool.or_eq_false_iff, beq_eq_false_iff_ne] at s
  refine ⟨s.1, fun ⟨a, b⟩ => ?_⟩
  have : ((k == 2 || (decide (27 ≤ k) && decide (k ≤ 33))) && w == v) = true := by
    rw [b, beq_self_eq_true, Bool.and_true]
    rcases a with z | ⟨z1, z2⟩
    · rw [z]; rfl
    · rw [decide_eq_true z1, decide_eq_true z2, Bool.and_true, Bool.or_true]
  rw [s.2] at this
  exact absurd this (by decide)
theorem read_r (hF : 700000 ≤ F) (hA : pmA c RGL) (T : TH ρ c h) (r0 : ρ x0 = 3) (r1 : ρ x1 = 10) (r2 : ρ x2 = 2) (w2 : cw c x2 = v) (gs : GeoS x2 h) : Sat (sX2_read F h x0 x1 x2) (fun o => TH ρ c o.2 ∧ Rg 0 1 o.1 ∧ LwZ x2 o.2 ∧ GeoS x2 o.2 ∧ Fr ρ (cat c (rdS v) h) h o.2) := by
  unfold sX2_read
  refine s_hq (th_wR T r0 (k := 3) (i := 0) (j := 1) (k2 := 10) rfl (by decide) rfl (by decide) r1 rfl nid_1 (by decide) (by decide) rfl rfl (fun z => absurd rfl z) (pm_a hA rfl)) (fun h1 T1 w1 => ?_)
  refine s_hq (th_wR T1 r0 (k := 3) (i := 1) (j := 2) (k2 := 2) rfl (by decide) rfl (by decide) r2 rfl nid_2 (by decide) (by decide) rfl rfl (fun z => absurd rfl z) (pm_a hA rfl)) (fun h2 T2 w2' => ?_)
  have one : ∀ a, ρ a = 3 → a = x0 := fun a ra => T.1.2.2.2.2.2.2.2.2 a x0 (by rw [ra, r0]) (Or.inl (by rw [ra]; rfl))
  have lw : ∀ a r, ρ a = 3 → hR h2 a 1 = some r → cw (nst (nst c 1) 2) r = v := fun a r ra er => by
    rw [one a ra, w2', r_R, if_pos ⟨rfl, rfl⟩] at er
    rw [← Option.some.inj er]; exact w2
  have T' := retype (v := v) T2 lw
  have k0 : rtp ρ (nst (nst c 1) 2) v x0 = 3 := (rtp_y (c := nst (nst c 1) 2) (Or.inl r0)).trans r0
  have k2 : rtp ρ (nst (nst c 1) 2) v x2 = 2 := (rtp_y (c := nst (nst c 1) 2) (Or.inr (Or.inr (Or.inr ⟨Or.inl r2, w2⟩)))).trans r2
  have law : ∀ a, rtp ρ (nst (nst c 1) 2) v a = 2 → a = x2 := fun a ra => by
    obtain ⟨q1, q2⟩ := rtp_k ra (by decide) (by decide)
    have wa : cw c a = v := by
      have := rcn_r q1 q2
      rcases this with z | z | z | ⟨_, z⟩
      · exact absurd z (by decide)
      · exact absurd z (by decide)
      · exact absurd z (by decide)
      · exact z
    exact T.1.2.2.2.2.2.2.2.2 a x2 (by rw [q1, r2]) (Or.inr ⟨Or.inr q1, by rw [wa, w2]⟩)
  have R : RZ (rtp ρ (nst (nst c 1) 2) v) (cat (nst (nst c 1) 2) rtS h2) x0 x2 := ⟨cat_m (nst_o nst_s), cat_m nst_s, k0, k2, law⟩
  have gs2 : GeoS x2 h2 := fun fo ef hc i hi => by
    have ef' : hR h x2 19 = some fo := by
      rw [w2', r_R, if_neg (ne_r r2 r0 (by decide)), w1, r_R, if_neg (ne_r r2 r0 (by decide))] at ef
      exact ef
    have k : ∀ a j, hI h2 a j = hI h a j := fun a j => by rw [w2', w1]; rfl
    rw [k, k, k] at hc
    rw [k]
    exact gs fo ef' hc i hi
  have ga2 : GeoA (rtp ρ (nst (nst c 1) 2) v) h2 := fun L rL => by rw [law L rL]; exact gs2
  have hA' : pmA (cat (nst (nst c 1) 2) rtS h2) RFL := rtS_f
  obtain ⟨o, e, i1⟩ := rest_z hF R hA' T' ga2
  obtain ⟨q1, q2, q3⟩ := lz_rest hF R hA' T' ga2 e
  have hs : ∀ k w i, rtS k w i = true → cPm (nst (nst c 1) 2) k w i = true := fun k w i m => by
    show cPm c k w i = true
    unfold rtS at m
    rw [Bool.or_eq_true, Bool.or_eq_true, Bool.and_eq_true, Bool.and_eq_true, Bool.and_eq_true, beq_iff_eq, beq_iff_eq, Bool.and_eq_true, decide_eq_true_eq, decide_eq_true_eq, decide_eq_true_eq, decide_eq_true_eq, decide_eq_true_eq] at m
    rcases m with (⟨a, b⟩ | ⟨a, b⟩) | ⟨a, b⟩
    · have : i = 2 ∨ i = 3 ∨ i = 4 ∨ i = 5 ∨ i = 6 := by omega
      rcases this with z | z | z | z | z <;> (rw [a, z]; exact hA w 3 _ rfl)
    · have : i = 0 ∨ i = 1 ∨ i = 2 ∨ i = 3 ∨ i = 4 ∨ i = 5 ∨ i = 6 ∨ i = 7 ∨ i = 8 ∨ i = 9 ∨ i = 10 ∨ i = 11 ∨ i = 12 ∨ i = 13 := by omega
      rcases this with z | z | z | z | z | z | z | z | z | z | z | z | z | z <;> (rw [a, z]; exact hA w 2 _ rfl)
    · have : k = 27 ∨ k = 28 ∨ k = 29 ∨ k = 30 ∨ k = 31 ∨ k = 32 ∨ k = 33 := by omega
      rcases this with z | z | z | z | z | z | z <;> (rw [z]; exact hA w _ i rfl)
  obtain ⟨To, same, sN⟩ := unretype T2 hs q2
  refine ⟨o, e, th_un (th_un To), i1, q1, q3 x2 k2, fun a i a0 as => ?_, fun a a0 => (sN a a0).trans (by rw [w2', w1]; rfl)⟩
  obtain ⟨a3, an⟩ := rdS_n (show rdS v (ρ a) (cw c a) i = false from as)
  obtain ⟨s1, s2, s3⟩ := same a i a0 (fun ⟨q, w⟩ => by
    rcases q with q | q | q | q
    · exact a3 q
    · rw [q] at w; exact absurd w (by simp [rtS])
    · rw [q] at w; exact absurd w (by simp [rtS])
    · exact an q)
  have nx : ¬ a = x0 := fun z => a3 (by rw [z]; exact r0)
  refine ⟨s1.trans (by rw [w2', w1]; rfl), s2.trans (by rw [w2', w1]; rfl), s3.trans ?_⟩
  rw [w2', r_R, if_neg (fun z => nx z.1), w1, r_R, if_neg (fun z => nx z.1)]
end
