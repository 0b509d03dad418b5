def moH (h : Hp) : Hp := (wR (nC (wR (nC (wR (nC (wR (nC (wR (nC (wR (nC (wR (nC (nC h 13 0 8) 17 (3000 : Int32).toNatClampNeg (3000 : Int32).toNatClampNeg) (hS h) 1 (some (hS h + 1))) 17 (3000 : Int32).toNatClampNeg (3000 : Int32).toNatClampNeg) (hS h) 2 (some (hS h + 2))) 17 (3000 : Int32).toNatClampNeg (3000 : Int32).toNatClampNeg) (hS h) 3 (some (hS h + 3))) 17 (3000 : Int32).toNatClampNeg (3000 : Int32).toNatClampNeg) (hS h) 4 (some (hS h + 4))) 17 (3000 : Int32).toNatClampNeg (3000 : Int32).toNatClampNeg) (hS h) 5 (some (hS h + 5))) 17 (3000 : Int32).toNatClampNeg (3000 : Int32).toNatClampNeg) (hS h) 6 (some (hS h + 6))) 17 (3000 : Int32).toNatClampNeg (3000 : Int32).toNatClampNeg) (hS h) 7 (some (hS h + 7)))
theorem moH_v (h : Hp) : sX13_init (nC h 13 0 8) (hS h) = some (moH h) := rfl
theorem moH_1 (h : Hp) : (moH h).1 = (h.1.1 + 8, h.1.2 + 21008) := by
  show (h.1.1 + 1 + 1 + 1 + 1 + 1 + 1 + 1 + 1, h.1.2 + 8 + (3000 : Int32).toNatClampNeg + (3000 : Int32).toNatClampNeg + (3000 : Int32).toNatClampNeg + (3000 : Int32).toNatClampNeg + (3000 : Int32).toNatClampNeg + (3000 : Int32).toNatClampNeg + (3000 : Int32).toNatClampNeg) = _
  generalize hx3000 : (3000 : Int32).toNatClampNeg = y3000
  have e3000 : y3000 = 3000 := by rw [← hx3000]; decide
  exact congr (congrArg Prod.mk (by omega)) (by omega)
theorem moH_o (h : Hp) : Old h (moH h) := fun b hb => by
  have nn : ∀ k, b ≠ hS h + k := fun k q => by
    have : hS h = h.1.1 := rfl
    omega
  have n0 : b ≠ hS h := nn 0
  refine ⟨fun i => ?_, fun i => ?_, fun i => ?_, ?_⟩
  · have := n0; have a1 := nn 1; have a2 := nn 2; have a3 := nn 3; have a4 := nn 4; have a5 := nn 5; have a6 := nn 6; have a7 := nn 7
    simp [hS] at this a1 a2 a3 a4 a5 a6 a7
    simp [moH, hI, hJ, hR, hN, nC, wR, va_up, hS, *]
  · have := n0; have a1 := nn 1; have a2 := nn 2; have a3 := nn 3; have a4 := nn 4; have a5 := nn 5; have a6 := nn 6; have a7 := nn 7
    simp [hS] at this a1 a2 a3 a4 a5 a6 a7
    simp [moH, hI, hJ, hR, hN, nC, wR, va_up, hS, *]
  · have := n0; have a1 := nn 1; have a2 := nn 2; have a3 := nn 3; have a4 := nn 4; have a5 := nn 5; have a6 := nn 6; have a7 := nn 7
    simp [hS] at this a1 a2 a3 a4 a5 a6 a7
    simp [moH, hI, hJ, hR, hN, nC, wR, va_up, hS, *]
  · have := n0; have a1 := nn 1; have a2 := nn 2; have a3 := nn 3; have a4 := nn 4; have a5 := nn 5; have a6 := nn 6; have a7 := nn 7
    simp [hS] at this a1 a2 a3 a4 a5 a6 a7
    simp [moH, hI, hJ, hR, hN, nC, wR, va_up, hS, *]
theorem z14I (i : Nat) : Rg (rgI 14 i).1 (rgI 14 i).2 0 := by
  show Rg (rgO14 i).1 (rgO14 i).2 0
  unfold rgO14; split <;> exact rg_b rfl
theorem z14K (i : Nat) (h : rfK 14 i ≠ 0) : i = 1 ∨ i = 2 ∨ i = 3 ∨ i = 4 ∨ i = 5 ∨ i = 6 ∨ i = 7 := by
  unfold rfK at h; split at h <;> simp_all
theorem moH_I (h : Hp) (k i : Nat) (hk : k < 8) : hI (moH h) (h.1.1 + k) i = 0 := by
  match k, hk with
  | 0, _ | 1, _ | 2, _ | 3, _ | 4, _ | 5, _ | 6, _ | 7, _ => simp [moH, hI, nC, wR, va_up, hS]
theorem moH_J (h : Hp) (k i : Nat) (hk : k < 8) : hJ (moH h) (h.1.1 + k) i = 0 := by
  match k, hk with
  | 0, _ | 1, _ | 2, _ | 3, _ | 4, _ | 5, _ | 6, _ | 7, _ => simp [moH, hJ, nC, wR, va_up, hS]
theorem moH_R (h : Hp) (i : Nat) : hR (moH h) h.1.1 i = if i = 7 then some (h.1.1 + 7) else if i = 6 then some (h.1.1 + 6) else if i = 5 then some (h.1.1 + 5) else if i = 4 then some (h.1.1 + 4) else if i = 3 then some (h.1.1 + 3) else if i = 2 then some (h.1.1 + 2) else if i = 1 then some (h.1.1 + 1) else none := by
  have q1 : h.1.1 ≠ h.1.1 + 1 := by omega
  have q2 : h.1.1 ≠ h.1.1 + 1 + 1 := by omega
  have q3 : h.1.1 ≠ h.1.1 + 1 + 1 + 1 := by omega
  have q4 : h.1.1 ≠ h.1.1 + 1 + 1 + 1 + 1 := by omega
  have q5 : h.1.1 ≠ h.1.1 + 1 + 1 + 1 + 1 + 1 := by omega
  have q6 : h.1.1 ≠ h.1.1 + 1 + 1 + 1 + 1 + 1 + 1 := by omega
  have q7 : h.1.1 ≠ h.1.1 + 1 + 1 + 1 + 1 + 1 + 1 + 1 := by omega
  simp [moH, hR, nC, wR, va_up, hS, q1, q2, q3, q4, q5, q6, q7]
theorem moH_Ra (h : Hp) (k i : Nat) (h0 : 0 < k) (hk : k < 8) : hR (moH h) (h.1.1 + k) i = none := by
  match k, h0, hk with
  | 1, _, _ | 2, _, _ | 3, _, _ | 4, _, _ | 5, _, _ | 6, _, _ | 7, _, _ => simp [moH, hR, nC, wR, va_up, hS]
theorem moH_N (h : Hp) : hN (moH h) (h.1.1 + 1) = 3000 ∧ hN (moH h) (h.1.1 + 2) = 3000 ∧ hN (moH h) (h.1.1 + 3) = 3000 ∧ hN (moH h) (h.1.1 + 4) = 3000 ∧ hN (moH h) (h.1.1 + 5) = 3000 ∧ hN (moH h) (h.1.1 + 6) = 3000 ∧ hN (moH h) (h.1.1 + 7) = 3000 := by
  refine ⟨?_, ?_, ?_, ?_, ?_, ?_, ?_⟩ <;> simp [moH, hN, nC, wR, va_up, hS] <;> decide
/-- a new object takes its role, and the holder that is asked for -/
theorem newMoves {ρ : Nat → Nat} {c : Cm} {h : Hp} (T : TH ρ c h) (w : Nat) : Sat (sX13_init (nC h 13 0 8) (hS h)) (fun o => ∃ ρ' c', Ext ρ c ρ' c' ∧ TH ρ' c' o ∧ ρ' (hS h) = 14 ∧ cw c' (hS h) = w ∧ Old h o) := by
  have t1 : h.1 = c.1 := T.1.1
  have lt : ∀ a, ρ a ≠ 0 → a < h.1.1 := fun a ha => by rw [t1]; exact T.2.1.2.2.1 a ha
  obtain ⟨n, hn⟩ : ∃ n, n = h.1.1 := ⟨_, rfl⟩
  obtain ⟨ρ', hρ⟩ : ∃ ρ' : Nat → Nat, ρ' = fun a => if a = n then 14 else if a = n + 1 then 66 else if a = n + 2 then 67 else if a = n + 3 then 68 else if a = n + 4 then 69 else if a = n + 5 then 70 else if a = n + 6 then 71 else if a = n + 7 then 72 else ρ a := ⟨_, rfl⟩
  have r0 : ρ' n = 14 := by rw [hρ]; simp
  have r1 : ρ' (n + 1) = 66 := by rw [hρ]; simp
  have r2 : ρ' (n + 2) = 67 := by rw [hρ]; simp
  have r3 : ρ' (n + 3) = 68 := by rw [hρ]; simp
  have r4 : ρ' (n + 4) = 69 := by rw [hρ]; simp
  have r5 : ρ' (n + 5) = 70 := by rw [hρ]; simp
  have r6 : ρ' (n + 6) = 71 := by rw [hρ]; simp
  have r7 : ρ' (n + 7) = 72 := by rw [hρ]; simp
  have ro : ∀ a, a < n → ρ' a = ρ a := fun a ha => by
    have u0 : a ≠ n := by omega
    have u1 : a ≠ n + 1 := by omega
    have u2 : a ≠ n + 2 := by omega
    have u3 : a ≠ n + 3 := by omega
    have u4 : a ≠ n + 4 := by omega
    have u5 : a ≠ n + 5 := by omega
    have u6 : a ≠ n + 6 := by omega
    have u7 : a ≠ n + 7 := by omega
    rw [hρ]; simp [u0, u1, u2, u3, u4, u5, u6, u7]
  have rN : ∀ a, n + 8 ≤ a → ρ' a = 0 := fun a ha => by
    have u0 : a ≠ n := by omega
    have u1 : a ≠ n + 1 := by omega
    have u2 : a ≠ n + 2 := by omega
    have u3 : a ≠ n + 3 := by omega
    have u4 : a ≠ n + 4 := by omega
    have u5 : a ≠ n + 5 := by omega
    have u6 : a ≠ n + 6 := by omega
    have u7 : a ≠ n + 7 := by omega
    have z : ρ a = 0 := by
      by_cases q : ρ a = 0
      · exact q
      · have := lt a q; omega
    rw [hρ]; simp [u0, u1, u2, u3, u4, u5, u6, u7, z]
  have five : ∀ a, n ≤ a → a = n ∨ a = n + 1 ∨ a = n + 2 ∨ a = n + 3 ∨ a = n + 4 ∨ a = n + 5 ∨ a = n + 6 ∨ a = n + 7 ∨ n + 8 ≤ a := fun a ha => by omega
  have I0 : ∀ k i, k < 8 → hI (moH h) (n + k) i = 0 := fun k i hk => by rw [hn]; exact moH_I h k i hk
  have R0 : ∀ i, hR (moH h) n i = if i = 7 then some (n + 7) else if i = 6 then some (n + 6) else if i = 5 then some (n + 5) else if i = 4 then some (n + 4) else if i = 3 then some (n + 3) else if i = 2 then some (n + 2) else if i = 1 then some (n + 1) else none := fun i => by rw [hn]; exact moH_R h i
  have Ra : ∀ k i, 0 < k → k < 8 → hR (moH h) (n + k) i = none := fun k i h0 hk => by rw [hn]; exact moH_Ra h k i h0 hk
  have N0 := moH_N h
  rw [← hn] at N0
  have o1 : (moH h).1.1 = n + 8 := by rw [moH_1, hn]
  have o2 : (moH h).1.2 = h.1.2 + 21008 := by rw [moH_1]
  have Rr : ∀ i r, hR (moH h) n i = some r → n ≤ r ∧ r < n + 8 := fun i r hr => by
    rw [R0] at hr
    split at hr
    · have := Option.some.inj hr; omega
    · have _ := hr
      split at hr
      · have := Option.some.inj hr; omega
      · have _ := hr
        split at hr
        · have := Option.some.inj hr; omega
        · have _ := hr
          split at hr
          · have := Option.some.inj hr; omega
          · have _ := hr
            split at hr
            · have := Option.some.inj hr; omega
            · have _ := hr
              split at hr
              · have := Option.some.inj hr; omega
              · have _ := hr
                split at hr
                · have := Option.some.inj hr; omega
                · exact absurd hr (by simp)
  obtain ⟨w', hw⟩ : ∃ w' : Nat → Nat, w' = fun a => if n ≤ a then w else cw c a := ⟨_, rfl⟩
  have wn : ∀ a, n ≤ a → w' a = w := fun a ha => by rw [hw]; simp [ha]
  have wo : ∀ a, a < n → w' a = cw c a := fun a ha => by
    have : ¬ n ≤ a := by omega
    rw [hw]; simp [this]
  have TT := adopt T (moH_o h) ρ' w' (by rw [o1]; omega) (by rw [← hn]; exact ro) (by rw [o1]; exact rN) (by rw [← hn]; exact wo)
    (fun a i ha => by
      rw [← hn] at ha
      rcases five a ha with q | q | q | q | q | q | q | q | q
      · rw [q, r0, show hI (moH h) n i = 0 from I0 0 i (by decide)]; exact ⟨z14I i, rp0 rfl⟩
      · rw [q, r1, show hI (moH h) (n + 1) i = 0 from I0 1 i (by decide)]; exact ⟨rg_b rfl, rp0 rfl⟩
      · rw [q, r2, show hI (moH h) (n + 2) i = 0 from I0 2 i (by decide)]; exact ⟨rg_b rfl, rp0 rfl⟩
      · rw [q, r3, show hI (moH h) (n + 3) i = 0 from I0 3 i (by decide)]; exact ⟨rg_b rfl, rp0 rfl⟩
      · rw [q, r4, show hI (moH h) (n + 4) i = 0 from I0 4 i (by decide)]; exact ⟨rg_b rfl, rp0 rfl⟩
      · rw [q, r5, show hI (moH h) (n + 5) i = 0 from I0 5 i (by decide)]; exact ⟨rg_b rfl, rp0 rfl⟩
      · rw [q, r6, show hI (moH h) (n + 6) i = 0 from I0 6 i (by decide)]; exact ⟨rg_b rfl, rp0 rfl⟩
      · rw [q, r7, show hI (moH h) (n + 7) i = 0 from I0 7 i (by decide)]; exact ⟨rg_b rfl, rp0 rfl⟩
      · rw [rN a q]; exact ⟨rg_top _, rp0 rfl⟩)
    (fun a i ha hk => by
      rw [← hn] at ha
      rcases five a ha with q | q | q | q | q | q | q | q | q
      · rw [q, r0] at hk ⊢
        rcases z14K i hk with z | z | z | z | z | z | z
        · exact ⟨n + 1, by rw [R0, z]; rfl, by rw [r1, z]; rfl⟩
        · exact ⟨n + 2, by rw [R0, z]; rfl, by rw [r2, z]; rfl⟩
        · exact ⟨n + 3, by rw [R0, z]; rfl, by rw [r3, z]; rfl⟩
        · exact ⟨n + 4, by rw [R0, z]; rfl, by rw [r4, z]; rfl⟩
        · exact ⟨n + 5, by rw [R0, z]; rfl, by rw [r5, z]; rfl⟩
        · exact ⟨n + 6, by rw [R0, z]; rfl, by rw [r6, z]; rfl⟩
        · exact ⟨n + 7, by rw [R0, z]; rfl, by rw [r7, z]; rfl⟩
      · rw [q, r1] at hk; exact absurd rfl hk
      · rw [q, r2] at hk; exact absurd rfl hk
      · rw [q, r3] at hk; exact absurd rfl hk
      · rw [q, r4] at hk; exact absurd rfl hk
      · rw [q, r5] at hk; exact absurd rfl hk
      · rw [q, r6] at hk; exact absurd rfl hk
      · rw [q, r7] at hk; exact absurd rfl hk
      · rw [rN a q] at hk; exact absurd rfl hk)
    (fun a i ha => by
      rw [← hn] at ha
      rcases five a ha with q | q | q | q | q | q | q | q | q
      · rw [q, r0]; rfl
      · rw [q, r1]; rfl
      · rw [q, r2]; rfl
      · rw [q, r3]; rfl
      · rw [q, r4]; rfl
      · rw [q, r5]; rfl
      · rw [q, r6]; rfl
      · rw [q, r7]; rfl
      · rw [rN a q]; rfl)
    (fun a ha hk => by
      rw [← hn] at ha
      rcases five a ha with q | q | q | q | q | q | q | q | q
      · rw [q, r0] at hk; exact absurd rfl hk
      · rw [q, r1]; exact N0.1
      · rw [q, r2]; exact N0.2.1
      · rw [q, r3]; exact N0.2.2.1
      · rw [q, r4]; exact N0.2.2.2.1
      · rw [q, r5]; exact N0.2.2.2.2.1
      · rw [q, r6]; exact N0.2.2.2.2.2.1
      · rw [q, r7]; exact N0.2.2.2.2.2.2
      · rw [rN a q] at hk; exact absurd rfl hk)
    (fun a ha => by
      rw [← hn] at ha
      rcases five a ha with q | q | q | q | q | q | q | q | q
      · rw [q, r0]; decide
      · rw [q, r1]; decide
      · rw [q, r2]; decide
      · rw [q, r3]; decide
      · rw [q, r4]; decide
      · rw [q, r5]; decide
      · rw [q, r6]; decide
      · rw [q, r7]; decide
      · rw [rN a q]; decide)
    (fun p i r ha hp => by
      rw [← hn] at ha
      rcases five p ha with q | q | q | q | q | q | q | q | q
      · rw [q, r0] at hp; exact absurd hp (by decide)
      · rw [q, r1] at hp; exact absurd hp (by decide)
      · rw [q, r2] at hp; exact absurd hp (by decide)
      · rw [q, r3] at hp; exact absurd hp (by decide)
      · rw [q, r4] at hp; exact absurd hp (by decide)
      · rw [q, r5] at hp; exact absurd hp (by decide)
      · rw [q, r6] at hp; exact absurd hp (by decide)
      · rw [q, r7] at hp; exact absurd hp (by decide)
      · rw [rN p q] at hp; exact absurd hp (by decide))
    (fun p q' i r ha _ hp => by
      rw [← hn] at ha
      rcases five p ha with q | q | q | q | q | q | q | q | q
      · rw [q, r0] at hp; exact absurd hp (by decide)
      · rw [q, r1] at hp; exact absurd hp (by decide)
      · rw [q, r2] at hp; exact absurd hp (by decide)
      · rw [q, r3] at hp; exact absurd hp (by decide)
      · rw [q, r4] at hp; exact absurd hp (by decide)
      · rw [q, r5] at hp; exact absurd hp (by decide)
      · rw [q, r6] at hp; exact absurd hp (by decide)
      · rw [q, r7] at hp; exact absurd hp (by decide)
      · rw [rN p q] at hp; exact absurd hp (by decide))
    (fun a i ha => by
      rw [← hn] at ha
      rcases five a ha with q | q | q | q | q | q | q | q | q
      · rw [q, r0]; rfl
      · rw [q, r1]; rfl
      · rw [q, r2]; rfl
      · rw [q, r3]; rfl
      · rw [q, r4]; rfl
      · rw [q, r5]; rfl
      · rw [q, r6]; rfl
      · rw [q, r7]; rfl
      · rw [rN a q]; rfl)
    (fun a ha => by
      rw [← hn] at ha
      rcases five a ha with q | q | q | q | q | q | q | q | q
      · rw [q, r0]; rfl
      · rw [q, r1]; rfl
      · rw [q, r2]; rfl
      · rw [q, r3]; rfl
      · rw [q, r4]; rfl
      · rw [q, r5]; rfl
      · rw [q, r6]; rfl
      · rw [q, r7]; rfl
      · rw [rN a q]; rfl)
    (fun a i r ha hi hr => by
      rw [← hn] at ha
      rcases five a ha with q | q | q | q | q | q | q | q | q
      · rw [q] at hr ⊢
        rw [wn r (Rr i r hr).1, wn n (Nat.le_refl _)]
      · rw [q, r1] at hi; exact absurd hi (by decide)
      · rw [q, r2] at hi; exact absurd hi (by decide)
      · rw [q, r3] at hi; exact absurd hi (by decide)
      · rw [q, r4] at hi; exact absurd hi (by decide)
      · rw [q, r5] at hi; exact absurd hi (by decide)
      · rw [q, r6] at hi; exact absurd hi (by decide)
      · rw [q, r7] at hi; exact absurd hi (by decide)
      · rw [rN a q] at hi; exact absurd hi (by decide))
    (fun a i ha => by
      rw [← hn] at ha
      rcases five a ha with q | q | q | q | q | q | q | q | q
      · rw [q, r0]; rfl
      · rw [q, r1]; rfl
      · rw [q, r2]; rfl
      · rw [q, r3]; rfl
      · rw [q, r4]; rfl
      · rw [q, r5]; rfl
      · rw [q, r6]; rfl
      · rw [q, r7]; rfl
      · rw [rN a q]; rfl)
    (fun a i r ha h0 hr => by
      rw [← hn] at ha
      rcases five a ha with q | q | q | q | q | q | q | q | q
      · rw [q] at hr; rw [o1]; exact (Rr i r hr).2
      · rw [q, Ra 1 i (by decide) (by decide)] at hr; exact absurd hr (by simp)
      · rw [q, Ra 2 i (by decide) (by decide)] at hr; exact absurd hr (by simp)
      · rw [q, Ra 3 i (by decide) (by decide)] at hr; exact absurd hr (by simp)
      · rw [q, Ra 4 i (by decide) (by decide)] at hr; exact absurd hr (by simp)
      · rw [q, Ra 5 i (by decide) (by decide)] at hr; exact absurd hr (by simp)
      · rw [q, Ra 6 i (by decide) (by decide)] at hr; exact absurd hr (by simp)
      · rw [q, Ra 7 i (by decide) (by decide)] at hr; exact absurd hr (by simp)
      · exact absurd (rN a q) h0)
  have hS0 : hS h = n := hn.symm
  refine ⟨moH h, moH_v h, ρ', ((moH h).1, (c.2.1, (w', c.2.2.2))), ⟨fun a ha => ?_, rfl, rfl, ?_, fun a l => ro a (by rw [hn, t1]; exact l)⟩, TT, by rw [hS0]; exact r0, by rw [hS0]; exact wn n (Nat.le_refl _), moH_o h⟩
  · have := lt a ha
    exact ⟨ro a (by omega), wo a (by omega)⟩
  · show c.1.1 ≤ (moH h).1.1
    rw [o1, ← t1]; omega
