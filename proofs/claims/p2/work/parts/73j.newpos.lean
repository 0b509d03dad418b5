def poH (h : Hp) : Hp := (wR (nC (wR (nC (wR (nC (wR (nC (wR (nC (nC h 3 0 11) 16 (64 : Int32).toNatClampNeg (64 : Int32).toNatClampNeg) (hS h) 0 (some (hS h + 1))) 18 (2 : Int32).toNatClampNeg (2 : Int32).toNatClampNeg) (hS h) 1 (some (hS h + 2))) 17 (2 : Int32).toNatClampNeg (2 : Int32).toNatClampNeg) (hS h) 2 (some (hS h + 3))) 18 (2 : Int32).toNatClampNeg (2 : Int32).toNatClampNeg) (hS h) 3 (some (hS h + 4))) 17 (2 : Int32).toNatClampNeg (2 : Int32).toNatClampNeg) (hS h) 4 (some (hS h + 5)))
theorem poH_1 (h : Hp) : (poH h).1 = (h.1.1 + 6, h.1.2 + 83) := by
  show (h.1.1 + 1 + 1 + 1 + 1 + 1 + 1, h.1.2 + 11 + (64 : Int32).toNatClampNeg + (2 : Int32).toNatClampNeg + (2 : Int32).toNatClampNeg + (2 : Int32).toNatClampNeg + (2 : Int32).toNatClampNeg) = _
  generalize hx2 : (2 : Int32).toNatClampNeg = y2
  have e2 : y2 = 2 := by rw [← hx2]; decide
  generalize hx64 : (64 : Int32).toNatClampNeg = y64
  have e64 : y64 = 64 := by rw [← hx64]; decide
  exact congr (congrArg Prod.mk (by omega)) (by omega)
theorem poH_o (h : Hp) : Old h (poH h) := fun b hb => by
  have nn : ∀ k, b ≠ hS h + k := fun k q => by
    have : hS h = h.1.1 := rfl
    omega
  have n0 : b ≠ hS h := nn 0
  refine ⟨fun i => ?_, fun i => ?_, fun i => ?_, ?_⟩
  · have := n0; have a1 := nn 1; have a2 := nn 2; have a3 := nn 3; have a4 := nn 4; have a5 := nn 5
    simp [hS] at this a1 a2 a3 a4 a5
    simp [poH, hI, hJ, hR, hN, nC, wR, va_up, hS, *]
  · have := n0; have a1 := nn 1; have a2 := nn 2; have a3 := nn 3; have a4 := nn 4; have a5 := nn 5
    simp [hS] at this a1 a2 a3 a4 a5
    simp [poH, hI, hJ, hR, hN, nC, wR, va_up, hS, *]
  · have := n0; have a1 := nn 1; have a2 := nn 2; have a3 := nn 3; have a4 := nn 4; have a5 := nn 5
    simp [hS] at this a1 a2 a3 a4 a5
    simp [poH, hI, hJ, hR, hN, nC, wR, va_up, hS, *]
  · have := n0; have a1 := nn 1; have a2 := nn 2; have a3 := nn 3; have a4 := nn 4; have a5 := nn 5
    simp [hS] at this a1 a2 a3 a4 a5
    simp [poH, hI, hJ, hR, hN, nC, wR, va_up, hS, *]
theorem z4I (i : Nat) : Rg (rgI 4 i).1 (rgI 4 i).2 0 := by
  show Rg (rgO4 i).1 (rgO4 i).2 0
  unfold rgO4; split <;> exact rg_b rfl
theorem z4K (i : Nat) (h : rfK 4 i ≠ 0) : i = 0 ∨ i = 1 ∨ i = 2 ∨ i = 3 ∨ i = 4 := by
  unfold rfK at h; split at h <;> simp_all
theorem poH_I (h : Hp) (k i : Nat) (hk : k < 6) : hI (poH h) (h.1.1 + k) i = 0 := by
  match k, hk with
  | 0, _ | 1, _ | 2, _ | 3, _ | 4, _ | 5, _ => simp [poH, hI, nC, wR, va_up, hS]
theorem poH_J (h : Hp) (k i : Nat) (hk : k < 6) : hJ (poH h) (h.1.1 + k) i = 0 := by
  match k, hk with
  | 0, _ | 1, _ | 2, _ | 3, _ | 4, _ | 5, _ => simp [poH, hJ, nC, wR, va_up, hS]
theorem poH_R (h : Hp) (i : Nat) : hR (poH h) h.1.1 i = if i = 4 then some (h.1.1 + 5) else if i = 3 then some (h.1.1 + 4) else if i = 2 then some (h.1.1 + 3) else if i = 1 then some (h.1.1 + 2) else if i = 0 then some (h.1.1 + 1) else none := by
  have q1 : h.1.1 ≠ h.1.1 + 1 := by omega
  have q2 : h.1.1 ≠ h.1.1 + 1 + 1 := by omega
  have q3 : h.1.1 ≠ h.1.1 + 1 + 1 + 1 := by omega
  have q4 : h.1.1 ≠ h.1.1 + 1 + 1 + 1 + 1 := by omega
  have q5 : h.1.1 ≠ h.1.1 + 1 + 1 + 1 + 1 + 1 := by omega
  simp [poH, hR, nC, wR, va_up, hS, q1, q2, q3, q4, q5]
theorem poH_Ra (h : Hp) (k i : Nat) (h0 : 0 < k) (hk : k < 6) : hR (poH h) (h.1.1 + k) i = none := by
  match k, h0, hk with
  | 1, _, _ | 2, _, _ | 3, _, _ | 4, _, _ | 5, _, _ => simp [poH, hR, nC, wR, va_up, hS]
theorem poH_N (h : Hp) : hN (poH h) (h.1.1 + 1) = 64 ∧ hN (poH h) (h.1.1 + 2) = 2 ∧ hN (poH h) (h.1.1 + 3) = 2 ∧ hN (poH h) (h.1.1 + 4) = 2 ∧ hN (poH h) (h.1.1 + 5) = 2 := by
  refine ⟨?_, ?_, ?_, ?_, ?_⟩ <;> simp [poH, hN, nC, wR, va_up, hS] <;> decide
/-- a new object takes its role, and the holder that is asked for -/
theorem newPosH {ρ : Nat → Nat} {c : Cm} {h : Hp} (T : TH ρ c h) (w : Nat) : ∃ ρ' c', Ext ρ c ρ' c' ∧ TH ρ' c' (poH h) ∧ ρ' (hS h) = 4 ∧ cw c' (hS h) = w ∧ Old h (poH h) := by
  have t1 : h.1 = c.1 := T.1.1
  have lt : ∀ a, ρ a ≠ 0 → a < h.1.1 := fun a ha => by rw [t1]; exact T.2.1.2.2.1 a ha
  obtain ⟨n, hn⟩ : ∃ n, n = h.1.1 := ⟨_, rfl⟩
  obtain ⟨ρ', hρ⟩ : ∃ ρ' : Nat → Nat, ρ' = fun a => if a = n then 4 else if a = n + 1 then 34 else if a = n + 2 then 35 else if a = n + 3 then 36 else if a = n + 4 then 37 else if a = n + 5 then 38 else ρ a := ⟨_, rfl⟩
  have r0 : ρ' n = 4 := by rw [hρ]; simp
  have r1 : ρ' (n + 1) = 34 := by rw [hρ]; simp
  have r2 : ρ' (n + 2) = 35 := by rw [hρ]; simp
  have r3 : ρ' (n + 3) = 36 := by rw [hρ]; simp
  have r4 : ρ' (n + 4) = 37 := by rw [hρ]; simp
  have r5 : ρ' (n + 5) = 38 := by rw [hρ]; simp
  have ro : ∀ a, a < n → ρ' a = ρ a := fun a ha => by
    have u0 : a ≠ n := by omega
    have u1 : a ≠ n + 1 := by omega
    have u2 : a ≠ n + 2 := by omega
    have u3 : a ≠ n + 3 := by omega
    have u4 : a ≠ n + 4 := by omega
    have u5 : a ≠ n + 5 := by omega
    rw [hρ]; simp [u0, u1, u2, u3, u4, u5]
  have rN : ∀ a, n + 6 ≤ a → ρ' a = 0 := fun a ha => by
    have u0 : a ≠ n := by omega
    have u1 : a ≠ n + 1 := by omega
    have u2 : a ≠ n + 2 := by omega
    have u3 : a ≠ n + 3 := by omega
    have u4 : a ≠ n + 4 := by omega
    have u5 : a ≠ n + 5 := by omega
    have z : ρ a = 0 := by
      by_cases q : ρ a = 0
      · exact q
      · have := lt a q; omega
    rw [hρ]; simp [u0, u1, u2, u3, u4, u5, z]
  have five : ∀ a, n ≤ a → a = n ∨ a = n + 1 ∨ a = n + 2 ∨ a = n + 3 ∨ a = n + 4 ∨ a = n + 5 ∨ n + 6 ≤ a := fun a ha => by omega
  have I0 : ∀ k i, k < 6 → hI (poH h) (n + k) i = 0 := fun k i hk => by rw [hn]; exact poH_I h k i hk
  have J0 : ∀ k i, k < 6 → hJ (poH h) (n + k) i = 0 := fun k i hk => by rw [hn]; exact poH_J h k i hk
  have R0 : ∀ i, hR (poH h) n i = if i = 4 then some (n + 5) else if i = 3 then some (n + 4) else if i = 2 then some (n + 3) else if i = 1 then some (n + 2) else if i = 0 then some (n + 1) else none := fun i => by rw [hn]; exact poH_R h i
  have Ra : ∀ k i, 0 < k → k < 6 → hR (poH h) (n + k) i = none := fun k i h0 hk => by rw [hn]; exact poH_Ra h k i h0 hk
  have N0 := poH_N h
  rw [← hn] at N0
  have o1 : (poH h).1.1 = n + 6 := by rw [poH_1, hn]
  have o2 : (poH h).1.2 = h.1.2 + 83 := by rw [poH_1]
  have Rr : ∀ i r, hR (poH h) n i = some r → n ≤ r ∧ r < n + 6 := fun i r hr => by
    rw [R0] at hr
    split at hr
    · have := Option.some.inj hr; omega
    · have _ := hr
      split at hr
      · have := Option.some.inj hr; omega
      · have _ := hr
        split at hr
        · have := Option.some.inj hr; omega
        · have _ := hr
          split at hr
          · have := Option.some.inj hr; omega
          · have _ := hr
            split at hr
            · have := Option.some.inj hr; omega
            · exact absurd hr (by simp)
  obtain ⟨w', hw⟩ : ∃ w' : Nat → Nat, w' = fun a => if n ≤ a then w else cw c a := ⟨_, rfl⟩
  have wn : ∀ a, n ≤ a → w' a = w := fun a ha => by rw [hw]; simp [ha]
  have wo : ∀ a, a < n → w' a = cw c a := fun a ha => by
    have : ¬ n ≤ a := by omega
    rw [hw]; simp [this]
  have TT := adopt T (poH_o h) ρ' w' (by rw [o1]; omega) (by rw [← hn]; exact ro) (by rw [o1]; exact rN) (by rw [← hn]; exact wo)
    (fun a i ha => by
      rw [← hn] at ha
      rcases five a ha with q | q | q | q | q | q | q
      · rw [q, r0, show hI (poH h) n i = 0 from I0 0 i (by decide)]; exact ⟨z4I i, rp0 rfl⟩
      · rw [q, r1, show hI (poH h) (n + 1) i = 0 from I0 1 i (by decide)]; exact ⟨rg_b rfl, rp0 rfl⟩
      · rw [q, r2, show hI (poH h) (n + 2) i = 0 from I0 2 i (by decide)]; exact ⟨rg_b rfl, rp0 rfl⟩
      · rw [q, r3, show hI (poH h) (n + 3) i = 0 from I0 3 i (by decide)]; exact ⟨rg_b rfl, rp0 rfl⟩
      · rw [q, r4, show hI (poH h) (n + 4) i = 0 from I0 4 i (by decide)]; exact ⟨rg_b rfl, rp0 rfl⟩
      · rw [q, r5, show hI (poH h) (n + 5) i = 0 from I0 5 i (by decide)]; exact ⟨rg_b rfl, rp0 rfl⟩
      · rw [rN a q]; exact ⟨rg_top _, rp0 rfl⟩)
    (fun a i ha hk => by
      rw [← hn] at ha
      rcases five a ha with q | q | q | q | q | q | q
      · rw [q, r0] at hk ⊢
        rcases z4K i hk with z | z | z | z | z
        · exact ⟨n + 1, by rw [R0, z]; rfl, by rw [r1, z]; rfl⟩
        · exact ⟨n + 2, by rw [R0, z]; rfl, by rw [r2, z]; rfl⟩
        · exact ⟨n + 3, by rw [R0, z]; rfl, by rw [r3, z]; rfl⟩
        · exact ⟨n + 4, by rw [R0, z]; rfl, by rw [r4, z]; rfl⟩
        · exact ⟨n + 5, by rw [R0, z]; rfl, by rw [r5, z]; rfl⟩
      · rw [q, r1] at hk; exact absurd rfl hk
      · rw [q, r2] at hk; exact absurd rfl hk
      · rw [q, r3] at hk; exact absurd rfl hk
      · rw [q, r4] at hk; exact absurd rfl hk
      · rw [q, r5] at hk; exact absurd rfl hk
      · rw [rN a q] at hk; exact absurd rfl hk)
    (fun a i ha => by
      rw [← hn] at ha
      rcases five a ha with q | q | q | q | q | q | q
      · rw [q, r0]; rfl
      · rw [q, r1]; rfl
      · rw [q, r2]; rfl
      · rw [q, r3]; rfl
      · rw [q, r4]; rfl
      · rw [q, r5]; rfl
      · rw [rN a q]; rfl)
    (fun a ha hk => by
      rw [← hn] at ha
      rcases five a ha with q | q | q | q | q | q | q
      · rw [q, r0] at hk; exact absurd rfl hk
      · rw [q, r1]; exact N0.1
      · rw [q, r2]; exact N0.2.1
      · rw [q, r3]; exact N0.2.2.1
      · rw [q, r4]; exact N0.2.2.2.1
      · rw [q, r5]; exact N0.2.2.2.2
      · rw [rN a q] at hk; exact absurd rfl hk)
    (fun a ha => by
      rw [← hn] at ha
      rcases five a ha with q | q | q | q | q | q | q
      · rw [q, r0]; decide
      · rw [q, r1]; decide
      · rw [q, r2]; decide
      · rw [q, r3]; decide
      · rw [q, r4]; decide
      · rw [q, r5]; decide
      · rw [rN a q]; decide)
    (fun p i r ha hp hi hr => by
      rw [← hn] at ha ⊢
      rcases five p ha with q | q | q | q | q | q | q
      · rw [q] at hr
        have y := Rr i r hr
        refine ⟨y.1, fun d => ?_⟩
        have := J0 (r - n) d (by omega)
        rw [show n + (r - n) = r by omega] at this
        exact this
      · rw [q, r1] at hp; exact absurd hp (by decide)
      · rw [q, r2] at hp; exact absurd hp (by decide)
      · rw [q, r3] at hp; exact absurd hp (by decide)
      · rw [q, r4] at hp; exact absurd hp (by decide)
      · rw [q, r5] at hp; exact absurd hp (by decide)
      · rw [rN p q] at hp; exact absurd hp (by decide))
    (fun p q' i r ha hb hp hp' _ _ _ => by
      have e1 : ∀ p, n ≤ p → ρ' p = 4 → p = n := fun p ha hp => by
        rcases five p ha with q | q | q | q | q | q | q
        · exact q
        · rw [q, r1] at hp; exact absurd hp (by decide)
        · rw [q, r2] at hp; exact absurd hp (by decide)
        · rw [q, r3] at hp; exact absurd hp (by decide)
        · rw [q, r4] at hp; exact absurd hp (by decide)
        · rw [q, r5] at hp; exact absurd hp (by decide)
        · rw [rN p q] at hp; exact absurd hp (by decide)
      rw [← hn] at ha hb
      rw [e1 p ha hp, e1 q' hb hp'])
    (fun a i ha => by
      rw [← hn] at ha
      rcases five a ha with q | q | q | q | q | q | q
      · rw [q, r0]; rfl
      · rw [q, r1]; rfl
      · rw [q, r2]; rfl
      · rw [q, r3]; rfl
      · rw [q, r4]; rfl
      · rw [q, r5]; rfl
      · rw [rN a q]; rfl)
    (fun a ha => by
      rw [← hn] at ha
      rcases five a ha with q | q | q | q | q | q | q
      · rw [q, r0]; rfl
      · rw [q, r1]; rfl
      · rw [q, r2]; rfl
      · rw [q, r3]; rfl
      · rw [q, r4]; rfl
      · rw [q, r5]; rfl
      · rw [rN a q]; rfl)
    (fun a i r ha hi hr => by
      rw [← hn] at ha
      rcases five a ha with q | q | q | q | q | q | q
      · rw [q] at hr ⊢
        rw [wn r (Rr i r hr).1, wn n (Nat.le_refl _)]
      · rw [q, r1] at hi; exact absurd hi (by decide)
      · rw [q, r2] at hi; exact absurd hi (by decide)
      · rw [q, r3] at hi; exact absurd hi (by decide)
      · rw [q, r4] at hi; exact absurd hi (by decide)
      · rw [q, r5] at hi; exact absurd hi (by decide)
      · rw [rN a q] at hi; exact absurd hi (by decide))
    (fun a i ha => by
      rw [← hn] at ha
      rcases five a ha with q | q | q | q | q | q | q
      · rw [q, r0]; rfl
      · rw [q, r1]; rfl
      · rw [q, r2]; rfl
      · rw [q, r3]; rfl
      · rw [q, r4]; rfl
      · rw [q, r5]; rfl
      · rw [rN a q]; rfl)
    (fun a i r ha h0 hr => by
      rw [← hn] at ha
      rcases five a ha with q | q | q | q | q | q | q
      · rw [q] at hr; rw [o1]; exact (Rr i r hr).2
      · rw [q, Ra 1 i (by decide) (by decide)] at hr; exact absurd hr (by simp)
      · rw [q, Ra 2 i (by decide) (by decide)] at hr; exact absurd hr (by simp)
      · rw [q, Ra 3 i (by decide) (by decide)] at hr; exact absurd hr (by simp)
      · rw [q, Ra 4 i (by decide) (by decide)] at hr; exact absurd hr (by simp)
      · rw [q, Ra 5 i (by decide) (by decide)] at hr; exact absurd hr (by simp)
      · exact absurd (rN a q) h0)
  have hS0 : hS h = n := hn.symm
  refine ⟨ρ', ((poH h).1, (c.2.1, (w', c.2.2.2))), ⟨fun a ha => ?_, rfl, rfl, ?_, fun a l => ro a (by rw [hn, t1]; exact l)⟩, TT, by rw [hS0]; exact r0, by rw [hS0]; exact wn n (Nat.le_refl _), poH_o h⟩
  · have := lt a ha
    exact ⟨ro a (by omega), wo a (by omega)⟩
  · show c.1.1 ≤ (poH h).1.1
    rw [o1, ← t1]; omega
