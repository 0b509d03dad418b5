/-! a reader and one law, all else of no kind: what reading leaves -/
section
variable {ρ : Nat → Nat} {c : Cm} {h o : Hp} {x0 x1 x2 F v a : Nat}
def rcn (ρ : Nat → Nat) (c : Cm) (v a : Nat) : Prop := ρ a = 3 ∨ ρ a = 10 ∨ ρ a = 49 ∨ ((ρ a = 2 ∨ (27 ≤ ρ a ∧ ρ a ≤ 33)) ∧ cw c a = v)
noncomputable def rtp (ρ : Nat → Nat) (c : Cm) (v : Nat) (a : Nat) : Nat := by
  classical
  exact if rcn ρ c v a then ρ a else if ρ a = 0 then 0 else 199
theorem rtp_c : (rtp ρ c v a = ρ a ∧ rcn ρ c v a) ∨ (rtp ρ c v a = 0 ∧ ρ a = 0) ∨ (rtp ρ c v a = 199 ∧ ρ a ≠ 0 ∧ ¬ rcn ρ c v a) := by
  classical
  by_cases q : rcn ρ c v a
  · exact Or.inl ⟨if_pos q, q⟩
  · have e : rtp ρ c v a = if ρ a = 0 then 0 else 199 := if_neg q
    by_cases z : ρ a = 0
    · exact Or.inr (Or.inl ⟨by rw [e, if_pos z], z⟩)
    · exact Or.inr (Or.inr ⟨by rw [e, if_neg z], z, q⟩)
theorem rtp_y (q : rcn ρ c v a) : rtp ρ c v a = ρ a := by
  classical
  exact if_pos q
theorem rtp_n (q : ¬ rcn ρ c v a) (z : ρ a ≠ 0) : rtp ρ c v a = 199 := by
  classical
  have e : rtp ρ c v a = if ρ a = 0 then 0 else 199 := if_neg q
  rw [e, if_neg z]
/-- of those roles alone -/
theorem rtp_k {k : Nat} (e : rtp ρ c v a = k) (h0 : k ≠ 0) (h9 : k ≠ 199) : ρ a = k ∧ rcn ρ c v a := by
  rcases rtp_c (ρ := ρ) (c := c) (v := v) (a := a) with ⟨z, q⟩ | ⟨z, _⟩ | ⟨z, _⟩
  · exact ⟨by rw [← z]; exact e, q⟩
  · exact absurd (by rw [← e]; exact z) h0
  · exact absurd (by rw [← e]; exact z) h9
theorem rcn_r {k : Nat} (e : ρ a = k) (q : rcn ρ c v a) : k = 3 ∨ k = 10 ∨ k = 49 ∨ ((k = 2 ∨ (27 ≤ k ∧ k ≤ 33)) ∧ cw c a = v) := by
  unfold rcn at q
  rw [e] at q
  exact q
def rtS (k _w i : Nat) : Bool := (k == 3 && (decide (2 ≤ i) && decide (i ≤ 6))) || (k == 2 && decide (i ≤ 13)) || (decide (27 ≤ k) && decide (k ≤ 33))
theorem retype (T : TH ρ c h) (lw : ∀ a r, ρ a = 3 → hR h a 1 = some r → cw c r = v) : TH (rtp ρ c v) (cat c rtS h) h := by
  obtain ⟨⟨t1, t2, t3, t4, t5, t6, t7, t8, t9⟩, ⟨o1, o2, o3, o4⟩, f⟩ := T
  refine ⟨⟨t1, fun a i => ?_, fun a i hk => ?_, fun a i hk r hr => ?_, fun a hk => ?_, ?_, ?_, fun a i hk hm => ?_, fun a b hab hs => ?_⟩, ⟨fun a i r hi hr => ?_, fun a i r hk hr => ?_, fun a ha => ?_, fun a i r ha hr => ?_⟩, Nat.le_refl _, fun _ _ _ _ _ => ⟨rfl, rfl, rfl⟩, fun _ _ _ => rfl⟩
  · rcases rtp_c (ρ := ρ) (c := c) (v := v) (a := a) with ⟨z, q⟩ | ⟨z, q⟩ | ⟨z, _⟩
    · rw [z]; exact t2 a i
    · rw [z, ← q]; exact t2 a i
    · rw [z]; exact ⟨rg_top _, rp0 rfl⟩
  · rcases rtp_c (ρ := ρ) (c := c) (v := v) (a := a) with ⟨z, q⟩ | ⟨z, _⟩ | ⟨z, _⟩
    · rw [z] at hk ⊢
      obtain ⟨r, hr, er⟩ := t3 a i hk
      refine ⟨r, hr, ?_⟩
      rw [← er]
      refine rtp_y ?_
      rcases q with q | q | q | ⟨q | q, w⟩
      · rw [q] at hk; exact absurd rfl hk
      · rw [q] at er hk
        have : i = 0 := by
          match i, hk with
          | 0, _ => rfl
          | i + 1, hk => exact absurd rfl hk
        rw [this] at er
        exact Or.inr (Or.inr (Or.inl er))
      · rw [q] at hk; exact absurd rfl hk
      · rw [q] at er hk
        have wr : cw c r = v := (o1 a i r (by rw [q]; rfl) hr).trans w
        refine Or.inr (Or.inr (Or.inr ⟨Or.inr ?_, wr⟩))
        rw [er]
        match i, hk with
        | 14, _ => decide
        | 15, _ => decide
        | 16, _ => decide
        | 17, _ => decide
        | 18, _ => decide
        | 19, _ => decide
        | 20, _ => decide
        | 0, hk => exact absurd rfl hk
        | 1, hk => exact absurd rfl hk
        | 2, hk => exact absurd rfl hk
        | 3, hk => exact absurd rfl hk
        | 4, hk => exact absurd rfl hk
        | 5, hk => exact absurd rfl hk
        | 6, hk => exact absurd rfl hk
        | 7, hk => exact absurd rfl hk
        | 8, hk => exact absurd rfl hk
        | 9, hk => exact absurd rfl hk
        | 10, hk => exact absurd rfl hk
        | 11, hk => exact absurd rfl hk
        | 12, hk => exact absurd rfl hk
        | 13, hk => exact absurd rfl hk
        | i + 21, hk => exact absurd rfl hk
      · have : rfK (ρ a) i = 0 := by
          have : ρ a = 27 ∨ ρ a = 28 ∨ ρ a = 29 ∨ ρ a = 30 ∨ ρ a = 31 ∨ ρ a = 32 ∨ ρ a = 33 := by omega
          rcases this with z | z | z | z | z | z | z <;> (rw [z]; rfl)
        exact absurd this hk
    · rw [z] at hk; exact absurd rfl hk
    · rw [z] at hk; exact absurd rfl hk
  · rcases rtp_c (ρ := ρ) (c := c) (v := v) (a := a) with ⟨z, q⟩ | ⟨z, _⟩ | ⟨z, _⟩
    · rw [z] at hk ⊢
      have er := t4 a i hk r hr
      rw [← er]
      refine rtp_y ?_
      rcases q with q | q | q | ⟨q | q, w⟩
      · rw [q] at hk er
        match i, hk, hr, er with
        | 0, _, _, er => exact Or.inr (Or.inl er)
        | 1, _, hr, er => exact Or.inr (Or.inr (Or.inr ⟨Or.inl er, lw a r q hr⟩))
        | i + 2, hk, _, _ => exact absurd rfl hk
      · rw [q] at hk; exact absurd rfl hk
      · rw [q] at hk; exact absurd rfl hk
      · rw [q] at hk; exact absurd rfl hk
      · have : rfN (ρ a) i = 0 := by
          have : ρ a = 27 ∨ ρ a = 28 ∨ ρ a = 29 ∨ ρ a = 30 ∨ ρ a = 31 ∨ ρ a = 32 ∨ ρ a = 33 := by omega
          rcases this with z | z | z | z | z | z | z <;> (rw [z]; rfl)
        exact absurd this hk
    · rw [z] at hk; exact absurd rfl hk
    · rw [z] at hk; exact absurd rfl hk
  · rcases rtp_c (ρ := ρ) (c := c) (v := v) (a := a) with ⟨z, q⟩ | ⟨z, _⟩ | ⟨z, _⟩
    · rw [z] at hk ⊢; exact t5 a hk
    · rw [z] at hk; exact absurd rfl hk
    · rw [z] at hk; exact absurd rfl hk
  · intro t tb ht hr
    exact t6 t tb (rtp_k ht (by decide) (by decide)).1 hr
  · have n4 : ∀ p, ¬ rtp ρ c v p = 4 := fun p hp => by
      obtain ⟨k1, k2⟩ := rtp_k hp (by decide) (by decide)
      have := rcn_r k1 k2
      omega
    exact ⟨fun p q i a hi hp hq => absurd hp (n4 p), fun p on of hp => absurd hp (n4 p)⟩
  · rcases rtp_c (ρ := ρ) (c := c) (v := v) (a := a) with ⟨z, q⟩ | ⟨z, _⟩ | ⟨z, _⟩
    · rw [z] at hk hm; exact t8 a i hk hm
    · rw [z] at hk; exact absurd rfl hk
    · rw [z] at hk; exact absurd rfl hk
  · rcases rtp_c (ρ := ρ) (c := c) (v := v) (a := a) with ⟨z, q⟩ | ⟨z, _⟩ | ⟨z, _⟩
    · have hb : ρ b = ρ a := by
        rw [z] at hab
        have a0 : ρ a ≠ 0 := fun y => by have := rcn_r y q; omega
        have a9 : ρ a ≠ 199 := fun y => by have := rcn_r y q; omega
        exact (rtp_k hab.symm a0 a9).1
      rw [z] at hs
      exact t9 a b hb.symm hs
    · rw [z] at hs
      rcases hs with s | ⟨s | s, _⟩
      · exact absurd s (by decide)
      · exact absurd s (by decide)
      · exact absurd s (by decide)
    · rw [z] at hs
      rcases hs with s | ⟨s | s, _⟩
      · exact absurd s (by decide)
      · exact absurd s (by decide)
      · exact absurd s (by decide)
  · rcases rtp_c (ρ := ρ) (c := c) (v := v) (a := a) with ⟨z, q⟩ | ⟨z, _⟩ | ⟨z, _⟩
    · rw [z] at hi; exact o1 a i r hi hr
    · rw [z] at hi; exact absurd hi (by decide)
    · rw [z] at hi; exact absurd hi (by decide)
  · rcases rtp_c (ρ := ρ) (c := c) (v := v) (a := a) with ⟨z, q⟩ | ⟨z, _⟩ | ⟨z, _⟩
    · rw [z] at hk ⊢; exact o2 a i r hk hr
    · rw [z] at hk; exact absurd rfl hk
    · rw [z] at hk; exact absurd rfl hk
  · refine o3 a (fun z => ha ?_)
    rcases rtp_c (ρ := ρ) (c := c) (v := v) (a := a) with ⟨y, q⟩ | ⟨y, _⟩ | ⟨_, y, _⟩
    · rw [y]; exact z
    · exact y
    · exact absurd z y
  · refine o4 a i r (fun z => ha ?_) hr
    rcases rtp_c (ρ := ρ) (c := c) (v := v) (a := a) with ⟨y, q⟩ | ⟨y, _⟩ | ⟨_, y, _⟩
    · rw [y]; exact z
    · exact y
    · exact absurd z y
/-- back to the kinds that were -/
theorem unretype (T : TH ρ c h) (hs : ∀ k w i, rtS k w i = true → cPm c k w i = true) (T' : TH (rtp ρ c v) (cat c rtS h) o) : TH ρ c o ∧ (∀ a i, ρ a ≠ 0 → ¬ (rcn ρ c v a ∧ rtS (ρ a) 0 i = true) → hI o a i = hI h a i ∧ hJ o a i = hJ h a i ∧ hR o a i = hR h a i) ∧ ∀ a, ρ a ≠ 0 → hN o a = hN h a := by
  obtain ⟨⟨t1, t2, t3, t4, t5, t6, t7, t8, t9⟩, ⟨o1, o2, o3, o4⟩, f⟩ := T
  obtain ⟨⟨u1, u2, u3, u4, u5, u6, u7, u8, u9⟩, ⟨q1, q2, q3, q4⟩, g⟩ := T'
  have lt : ∀ a, ρ a ≠ 0 → a < h.1.1 := fun a ha => by rw [t1]; exact o3 a ha
  have nz : ∀ a, ρ a ≠ 0 → rtp ρ c v a ≠ 0 := fun a ha => by
    rcases rtp_c (ρ := ρ) (c := c) (v := v) (a := a) with ⟨z, q⟩ | ⟨_, q⟩ | ⟨z, _⟩
    · rw [z]; exact ha
    · exact absurd q ha
    · rw [z]; decide
  have same : ∀ a i, ρ a ≠ 0 → ¬ (rcn ρ c v a ∧ rtS (ρ a) 0 i = true) → hI o a i = hI h a i ∧ hJ o a i = hJ h a i ∧ hR o a i = hR h a i := fun a i ha hn => by
    refine g.2.1 a i (lt a ha) (nz a ha) ?_
    show rtS (rtp ρ c v a) (cw c a) i = false
    rcases rtp_c (ρ := ρ) (c := c) (v := v) (a := a) with ⟨z, q⟩ | ⟨_, q⟩ | ⟨z, _⟩
    · rw [z]
      cases w : rtS (ρ a) (cw c a) i with
      | false => rfl
      | true => exact absurd ⟨q, w⟩ hn
    · exact absurd q ha
    · rw [z]; rfl
  have sR : ∀ a i, rfK (ρ a) i ≠ 0 ∨ rfN (ρ a) i ≠ 0 → hR o a i = hR h a i := fun a i hk => by
    have a0 : ρ a ≠ 0 := fun z => by rw [z] at hk; exact hk.elim (fun y => y rfl) (fun y => y rfl)
    refine (same a i a0 (fun ⟨q, w⟩ => ?_)).2.2
    rcases q with q | q | q | ⟨q | q, _⟩
    · rw [q] at w hk
      have l2 : 2 ≤ i := by
        by_cases z : 2 ≤ i
        · exact z
        · have : rtS 3 0 i = false := by
            show ((true && (decide (2 ≤ i) && decide (i ≤ 6))) || false || false) = false
            rw [decide_eq_false z]; rfl
          rw [this] at w; exact absurd w (by decide)
      match i, l2, hk with
      | i + 2, _, hk => exact hk.elim (fun y => y rfl) (fun y => y rfl)
    · rw [q] at w; exact absurd (show false = true from w) (by decide)
    · rw [q] at w; exact absurd (show false = true from w) (by decide)
    · rw [q] at w hk
      have l2 : i ≤ 13 := by
        by_cases z : i ≤ 13
        · exact z
        · have : rtS 2 0 i = false := by
            show ((false && _) || (true && decide (i ≤ 13)) || false) = false
            rw [decide_eq_false z]; rfl
          rw [this] at w; exact absurd w (by decide)
      have : i = 0 ∨ i = 1 ∨ i = 2 ∨ i = 3 ∨ i = 4 ∨ i = 5 ∨ i = 6 ∨ i = 7 ∨ i = 8 ∨ i = 9 ∨ i = 10 ∨ i = 11 ∨ i = 12 ∨ i = 13 := by omega
      rcases this with z | z | z | z | z | z | z | z | z | z | z | z | z | z <;> (rw [z] at hk; exact hk.elim (fun y => y rfl) (fun y => y rfl))
    · have : ρ a = 27 ∨ ρ a = 28 ∨ ρ a = 29 ∨ ρ a = 30 ∨ ρ a = 31 ∨ ρ a = 32 ∨ ρ a = 33 := by omega
      rcases this with z | z | z | z | z | z | z <;> (rw [z] at hk; exact hk.elim (fun y => y rfl) (fun y => y rfl))
  refine ⟨⟨⟨u1, fun a i => ?_, fun a i hk => ?_, fun a i hk r hr => ?_, fun a hk => ?_, ?_, ?_, fun a i hk hm => ?_, t9⟩, ⟨fun a i r hi hr => ?_, fun a i r hk hr => ?_, o3, fun a i r ha hr => ?_⟩, Nat.le_trans f.1 g.1, fun a i l h0 hz => ?_, fun a l h0 => ?_⟩, same, fun a h0 => g.2.2 a (lt a h0) (nz a h0)⟩
  · by_cases z : ρ a = 0
    · rw [z]; exact ⟨rg_top _, rp0 rfl⟩
    · by_cases q : rcn ρ c v a
      · have := u2 a i
        rw [rtp_y q] at this
        exact this
      · rw [(same a i z (fun y => q y.1)).1]; exact t2 a i
  · obtain ⟨r, hr, er⟩ := t3 a i hk
    exact ⟨r, by rw [sR a i (Or.inl hk)]; exact hr, er⟩
  · rw [sR a i (Or.inr hk)] at hr
    exact t4 a i hk r hr
  · have a0 : ρ a ≠ 0 := fun z => by rw [z] at hk; exact hk rfl
    rw [g.2.2 a (lt a a0) (nz a a0)]; exact t5 a hk
  · intro t tb ht hr
    have e1 := same t 1 (by rw [ht]; decide) (fun y => by rw [ht] at y; exact absurd y.2 (by decide))
    rw [sR t 0 (Or.inl (by rw [ht]; decide))] at hr
    obtain ⟨r, h1, h2⟩ := t3 t 0 (by rw [ht]; decide)
    have rb : ρ tb = 49 := by
      rw [h1] at hr
      rw [← Option.some.inj hr, h2, ht]; rfl
    rw [e1.1, g.2.2 tb (lt tb (by rw [rb]; decide)) (nz tb (by rw [rb]; decide))]
    exact t6 t tb ht hr
  · refine ⟨fun p q i a hi hp hq h1 h2 => ?_, fun p on of hp ho hf s hs d hd hb => ?_⟩
    · have k4 : ∀ p, ρ p = 4 → hR o p i = hR h p i := fun p hp => (same p i (by rw [hp]; decide) (fun y => by rw [hp] at y; exact absurd y.2 (by simp [rtS]))).2.2
      rw [k4 p hp] at h1
      rw [k4 q hq] at h2
      exact t7.1 p q i a hi hp hq h1 h2
    · rw [sR p 0 (Or.inl (by rw [hp]; decide))] at ho
      rw [sR p 1 (Or.inl (by rw [hp]; decide))] at hf
      obtain ⟨r1, h1, h2⟩ := t3 p 0 (by rw [hp]; decide)
      obtain ⟨r3, h3, h4⟩ := t3 p 1 (by rw [hp]; decide)
      have ron : ρ on = 34 := by rw [h1] at ho; rw [← Option.some.inj ho, h2, hp]; rfl
      have rof : ρ of = 35 := by rw [h3] at hf; rw [← Option.some.inj hf, h4, hp]; rfl
      rw [(same of d (by rw [rof]; decide) (fun y => by rw [rof] at y; exact absurd y.2 (by simp [rtS]))).2.1] at hb
      rw [(same on s (by rw [ron]; decide) (fun y => by rw [ron] at y; exact absurd y.2 (by simp [rtS]))).1]
      exact t7.2 p on of hp ho hf s hs d hd hb
  · obtain ⟨r, hr⟩ := t8 a i hk hm
    by_cases q : rcn ρ c v a
    · exact u8 a i (by rw [rtp_y q]; exact hk) (by rw [rtp_y q]; exact hm)
    · have a0 : ρ a ≠ 0 := fun z => by rw [z] at hk; exact hk rfl
      exact ⟨r, by rw [(same a i a0 (fun y => q y.1)).2.2]; exact hr⟩
  · by_cases q : rcn ρ c v a
    · exact q1 a i r (by rw [rtp_y q]; exact hi) hr
    · have a0 : ρ a ≠ 0 := fun z => by rw [z] at hi; exact absurd hi (by decide)
      rw [(same a i a0 (fun y => q y.1)).2.2] at hr
      exact o1 a i r hi hr
  · by_cases q : rcn ρ c v a
    · have := q2 a i r (by rw [rtp_y q]; exact hk) hr
      rw [rtp_y q] at this
      exact this
    · have a0 : ρ a ≠ 0 := fun z => by rw [z] at hk; exact absurd rfl hk
      rw [(same a i a0 (fun y => q y.1)).2.2] at hr
      exact o2 a i r hk hr
  · exact q4 a i r (nz a ha) hr
  · have a1 : a < h.1.1 := Nat.lt_of_lt_of_le l f.1
    obtain ⟨p1, p2, p3⟩ := f.2.1 a i l h0 hz
    obtain ⟨s1, s2, s3⟩ := same a i h0 (fun y => by
      have := hs (ρ a) (cw c a) i y.2
      rw [hz] at this
      exact absurd this (by decide))
    exact ⟨s1.trans p1, s2.trans p2, s3.trans p3⟩
  · exact (g.2.2 a (lt a h0) (nz a h0)).trans (f.2.2 a l h0)
end
