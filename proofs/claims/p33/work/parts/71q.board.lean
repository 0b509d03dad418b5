def boH (h : Hp) : Hp := (wR (nC (wR (nC (wR (nC (wR (nC (nC h 12 0 8) 17 (64 : Int32).toNatClampNeg (64 : Int32).toNatClampNeg) (hS h) 0 (some (hS h + 1))) 17 (64 : Int32).toNatClampNeg (64 : Int32).toNatClampNeg) (hS h) 4 (some (hS h + 2))) 17 (24 : Int32).toNatClampNeg (24 : Int32).toNatClampNeg) (hS h) 5 (some (hS h + 3))) 17 (2 : Int32).toNatClampNeg (2 : Int32).toNatClampNeg) (hS h) 6 (some (hS h + 4)))
theorem boH_v (h : Hp) : sX12_init (nC h 12 0 8) (hS h) = some (boH h) := rfl
theorem boH_1 (h : Hp) : (boH h).1 = (h.1.1 + 5, h.1.2 + 162) := by
  show (h.1.1 + 1 + 1 + 1 + 1 + 1, h.1.2 + 8 + (64 : Int32).toNatClampNeg + (64 : Int32).toNatClampNeg + (24 : Int32).toNatClampNeg + (2 : Int32).toNatClampNeg) = _
  generalize hx2 : (2 : Int32).toNatClampNeg = y2
  have e2 : y2 = 2 := by rw [← hx2]; decide
  generalize hx24 : (24 : Int32).toNatClampNeg = y24
  have e24 : y24 = 24 := by rw [← hx24]; decide
  generalize hx64 : (64 : Int32).toNatClampNeg = y64
  have e64 : y64 = 64 := by rw [← hx64]; decide
  exact congr (congrArg Prod.mk (by omega)) (by omega)
theorem boH_o (h : Hp) : Old h (boH h) := fun b hb => by
  have nn : ∀ k, b ≠ hS h + k := fun k q => by
    have : hS h = h.1.1 := rfl
    omega
  have n0 : b ≠ hS h := nn 0
  refine ⟨fun i => ?_, fun i => ?_, fun i => ?_, ?_⟩
  · have := n0; have a1 := nn 1; have a2 := nn 2; have a3 := nn 3; have a4 := nn 4
    simp [hS] at this a1 a2 a3 a4
    simp [boH, hI, hJ, hR, hN, nC, wR, va_up, hS, *]
  · have := n0; have a1 := nn 1; have a2 := nn 2; have a3 := nn 3; have a4 := nn 4
    simp [hS] at this a1 a2 a3 a4
    simp [boH, hI, hJ, hR, hN, nC, wR, va_up, hS, *]
  · have := n0; have a1 := nn 1; have a2 := nn 2; have a3 := nn 3; have a4 := nn 4
    simp [hS] at this a1 a2 a3 a4
    simp [boH, hI, hJ, hR, hN, nC, wR, va_up, hS, *]
  · have := n0; have a1 := nn 1; have a2 := nn 2; have a3 := nn 3; have a4 := nn 4
    simp [hS] at this a1 a2 a3 a4
    simp [boH, hI, hJ, hR, hN, nC, wR, va_up, hS, *]
theorem z13I (i : Nat) : Rg (rgI 13 i).1 (rgI 13 i).2 0 := by
  show Rg (rgO13 i).1 (rgO13 i).2 0
  unfold rgO13; split <;> exact rg_b rfl
theorem z13K (i : Nat) (h : rfK 13 i ≠ 0) : i = 0 ∨ i = 4 ∨ i = 5 ∨ i = 6 := by
  unfold rfK at h; split at h <;> simp_all
theorem boH_I (h : Hp) (k i : Nat) (hk : k < 5) : hI (boH h) (h.1.1 + k) i = 0 := by
  match k, hk with
  | 0, _ | 1, _ | 2, _ | 3, _ | 4, _ => simp [boH, hI, nC, wR, va_up, hS]
theorem boH_J (h : Hp) (k i : Nat) (hk : k < 5) : hJ (boH h) (h.1.1 + k) i = 0 := by
  match k, hk with
  | 0, _ | 1, _ | 2, _ | 3, _ | 4, _ => simp [boH, hJ, nC, wR, va_up, hS]
theorem boH_R (h : Hp) (i : Nat) : hR (boH h) h.1.1 i = if i = 6 then some (h.1.1 + 4) else if i = 5 then some (h.1.1 + 3) else if i = 4 then some (h.1.1 + 2) else if i = 0 then some (h.1.1 + 1) else none := by
  have q1 : h.1.1 ≠ h.1.1 + 1 := by omega
  have q2 : h.1.1 ≠ h.1.1 + 1 + 1 := by omega
  have q3 : h.1.1 ≠ h.1.1 + 1 + 1 + 1 := by omega
  have q4 : h.1.1 ≠ h.1.1 + 1 + 1 + 1 + 1 := by omega
  simp [boH, hR, nC, wR, va_up, hS, q1, q2, q3, q4]
theorem boH_Ra (h : Hp) (k i : Nat) (h0 : 0 < k) (hk : k < 5) : hR (boH h) (h.1.1 + k) i = none := by
  match k, h0, hk with
  | 1, _, _ | 2, _, _ | 3, _, _ | 4, _, _ => simp [boH, hR, nC, wR, va_up, hS]
theorem boH_N (h : Hp) : hN (boH h) (h.1.1 + 1) = 64 ∧ hN (boH h) (h.1.1 + 2) = 64 ∧ hN (boH h) (h.1.1 + 3) = 24 ∧ hN (boH h) (h.1.1 + 4) = 2 := by
  refine ⟨?_, ?_, ?_, ?_⟩ <;> simp [boH, hN, nC, wR, va_up, hS] <;> decide
/-- a new object takes its role, and the holder that is asked for -/
theorem newBoard {ρ : Nat → Nat} {c : Cm} {h : Hp} (T : TH ρ c h) (w : Nat) : Sat (sX12_init (nC h 12 0 8) (hS h)) (fun o => ∃ ρ' c', Ext ρ c ρ' c' ∧ TH ρ' c' o ∧ ρ' (hS h) = 13 ∧ cw c' (hS h) = w ∧ Old h o) := by
  have t1 : h.1 = c.1 := T.1.1
  have lt : ∀ a, ρ a ≠ 0 → a < h.1.1 := fun a ha => by rw [t1]; exact T.2.1.2.2.1 a ha
  obtain ⟨n, hn⟩ : ∃ n, n = h.1.1 := ⟨_, rfl⟩
  obtain ⟨ρ', hρ⟩ : ∃ ρ' : Nat → Nat, ρ' = fun a => if a = n then 13 else if a = n + 1 then 62 else if a = n + 2 then 63 else if a = n + 3 then 64 else if a = n + 4 then 65 else ρ a := ⟨_, rfl⟩
  have r0 : ρ' n = 13 := by rw [hρ]; simp
  have r1 : ρ' (n + 1) = 62 := by rw [hρ]; simp
  have r2 : ρ' (n + 2) = 63 := by rw [hρ]; simp
  have r3 : ρ' (n + 3) = 64 := by rw [hρ]; simp
  have r4 : ρ' (n + 4) = 65 := by rw [hρ]; simp
  have ro : ∀ a, a < n → ρ' a = ρ a := fun a ha => by
    have u0 : a ≠ n := by omega
    have u1 : a ≠ n + 1 := by omega
    have u2 : a ≠ n + 2 := by omega
    have u3 : a ≠ n + 3 := by omega
    have u4 : a ≠ n + 4 := by omega
    rw [hρ]; simp [u0, u1, u2, u3, u4]
  have rN : ∀ a, n + 5 ≤ a → ρ' a = 0 := fun a ha => by
    have u0 : a ≠ n := by omega
    have u1 : a ≠ n + 1 := by omega
    have u2 : a ≠ n + 2 := by omega
    have u3 : a ≠ n + 3 := by omega
    have u4 : a ≠ n + 4 := by omega
    have z : ρ a = 0 := by
      by_cases q : ρ a = 0
      · exact q
      · have := lt a q; omega
    rw [hρ]; simp [u0, u1, u2, u3, u4, z]
  have five : ∀ a, n ≤ a → a = n ∨ a = n + 1 ∨ a = n + 2 ∨ a = n + 3 ∨ a = n + 4 ∨ n + 5 ≤ a := fun a ha => by omega
  have I0 : ∀ k i, k < 5 → hI (boH h) (n + k) i = 0 := fun k i hk => by rw [hn]; exact boH_I h k i hk
  have R0 : ∀ i, hR (boH h) n i = if i = 6 then some (n + 4) else if i = 5 then some (n + 3) else if i = 4 then some (n + 2) else if i = 0 then some (n + 1) else none := fun i => by rw [hn]; exact boH_R h i
  have Ra : ∀ k i, 0 < k → k < 5 → hR (boH h) (n + k) i = none := fun k i h0 hk => by rw [hn]; exact boH_Ra h k i h0 hk
  have N0 := boH_N h
  rw [← hn] at N0
  have o1 : (boH h).1.1 = n + 5 := by rw [boH_1, hn]
  have o2 : (boH h).1.2 = h.1.2 + 162 := by rw [boH_1]
  have Rr : ∀ i r, hR (boH h) n i = some r → n ≤ r ∧ r < n + 5 := fun i r hr => by
    rw [R0] at hr
    split at hr
    · have := Option.some.inj hr; omega
    · have _ := hr
      split at hr
      · have := Option.some.inj hr; omega
      · have _ := hr
        split at hr
        · have := Option.some.inj hr; omega
        · have _ := hr
          split at hr
          · have := Option.some.inj hr; omega
          · exact absurd hr (by simp)
  obtain ⟨w', hw⟩ : ∃ w' : Nat → Nat, w' = fun a => if n ≤ a then w else cw c a := ⟨_, rfl⟩
  have wn : ∀ a, n ≤ a → w' a = w := fun a ha => by rw [hw]; simp [ha]
  have wo : ∀ a, a < n → w' a = cw c a := fun a ha => by
    have : ¬ n ≤ a := by omega
    rw [hw]; simp [this]
  have TT := adopt T (boH_o h) ρ' w' (by rw [o1]; omega) (by rw [← hn]; exact ro) (by rw [o1]; exact rN) (by rw [← hn]; exact wo)
    (fun a i ha => by
      rw [← hn] at ha
      rcases five a ha with q | q | q | q | q | q
      · rw [q, r0, show hI (boH h) n i = 0 from I0 0 i (by decide)]; exact ⟨z13I i, rp0 rfl⟩
      · rw [q, r1, show hI (boH h) (n + 1) i = 0 from I0 1 i (by decide)]; exact ⟨rg_b rfl, rp0 rfl⟩
      · rw [q, r2, show hI (boH h) (n + 2) i = 0 from I0 2 i (by decide)]; exact ⟨rg_b rfl, rp0 rfl⟩
      · rw [q, r3, show hI (boH h) (n + 3) i = 0 from I0 3 i (by decide)]; exact ⟨rg_b rfl, rp0 rfl⟩
      · rw [q, r4, show hI (boH h) (n + 4) i = 0 from I0 4 i (by decide)]; exact ⟨rg_b rfl, rp0 rfl⟩
      · rw [rN a q]; exact ⟨rg_top _, rp0 rfl⟩)
    (fun a i ha hk => by
      rw [← hn] at ha
      rcases five a ha with q | q | q | q | q | q
      · rw [q, r0] at hk ⊢
        rcases z13K i hk with z | z | z | z
        · exact ⟨n + 1, by rw [R0, z]; rfl, by rw [r1, z]; rfl⟩
        · exact ⟨n + 2, by rw [R0, z]; rfl, by rw [r2, z]; rfl⟩
        · exact ⟨n + 3, by rw [R0, z]; rfl, by rw [r3, z]; rfl⟩
        · exact ⟨n + 4, by rw [R0, z]; rfl, by rw [r4, z]; rfl⟩
      · rw [q, r1] at hk; exact absurd rfl hk
      · rw [q, r2] at hk; exact absurd rfl hk
      · rw [q, r3] at hk; exact absurd rfl hk
      · rw [q, r4] at hk; exact absurd rfl hk
      · rw [rN a q] at hk; exact absurd rfl hk)
    (fun a i ha => by
      rw [← hn] at ha
      rcases five a ha with q | q | q | q | q | q
      · rw [q, r0]; rfl
      · rw [q, r1]; rfl
      · rw [q, r2]; rfl
      · rw [q, r3]; rfl
      · rw [q, r4]; rfl
      · rw [rN a q]; rfl)
    (fun a ha hk => by
      rw [← hn] at ha
      rcases five a ha with q | q | q | q | q | q
      · rw [q, r0] at hk; exact absurd rfl hk
      · rw [q, r1]; exact N0.1
      · rw [q, r2]; exact N0.2.1
      · rw [q, r3]; exact N0.2.2.1
      · rw [q, r4]; exact N0.2.2.2
      · rw [rN a q] at hk; exact absurd rfl hk)
    (fun a ha => by
      rw [← hn] at ha
      rcases five a ha with q | q | q | q | q | q
      · rw [q, r0]; decide
      · rw [q, r1]; decide
      · rw [q, r2]; decide
      · rw [q, r3]; decide
      · rw [q, r4]; decide
      · rw [rN a q]; decide)
    (fun p i r ha hp => by
      rw [← hn] at ha
      rcases five p ha with q | q | q | q | q | q
      · rw [q, r0] at hp; exact absurd hp (by decide)
      · rw [q, r1] at hp; exact absurd hp (by decide)
      · rw [q, r2] at hp; exact absurd hp (by decide)
      · rw [q, r3] at hp; exact absurd hp (by decide)
      · rw [q, r4] at hp; exact absurd hp (by decide)
      · rw [rN p q] at hp; exact absurd hp (by decide))
    (fun p q' i r ha _ hp => by
      rw [← hn] at ha
      rcases five p ha with q | q | q | q | q | q
      · rw [q, r0] at hp; exact absurd hp (by decide)
      · rw [q, r1] at hp; exact absurd hp (by decide)
      · rw [q, r2] at hp; exact absurd hp (by decide)
      · rw [q, r3] at hp; exact absurd hp (by decide)
      · rw [q, r4] at hp; exact absurd hp (by decide)
      · rw [rN p q] at hp; exact absurd hp (by decide))
    (fun a i ha => by
      rw [← hn] at ha
      rcases five a ha with q | q | q | q | q | q
      · rw [q, r0]; rfl
      · rw [q, r1]; rfl
      · rw [q, r2]; rfl
      · rw [q, r3]; rfl
      · rw [q, r4]; rfl
      · rw [rN a q]; rfl)
    (fun a ha => by
      rw [← hn] at ha
      rcases five a ha with q | q | q | q | q | q
      · rw [q, r0]; rfl
      · rw [q, r1]; rfl
      · rw [q, r2]; rfl
      · rw [q, r3]; rfl
      · rw [q, r4]; rfl
      · rw [rN a q]; rfl)
    (fun a i r ha hi hr => by
      rw [← hn] at ha
      rcases five a ha with q | q | q | q | q | q
      · rw [q] at hr ⊢
        rw [wn r (Rr i r hr).1, wn n (Nat.le_refl _)]
      · rw [q, r1] at hi; exact absurd hi (by decide)
      · rw [q, r2] at hi; exact absurd hi (by decide)
      · rw [q, r3] at hi; exact absurd hi (by decide)
      · rw [q, r4] at hi; exact absurd hi (by decide)
      · rw [rN a q] at hi; exact absurd hi (by decide))
    (fun a i ha => by
      rw [← hn] at ha
      rcases five a ha with q | q | q | q | q | q
      · rw [q, r0]; rfl
      · rw [q, r1]; rfl
      · rw [q, r2]; rfl
      · rw [q, r3]; rfl
      · rw [q, r4]; rfl
      · rw [rN a q]; rfl)
    (fun a i r ha h0 hr => by
      rw [← hn] at ha
      rcases five a ha with q | q | q | q | q | q
      · rw [q] at hr; rw [o1]; exact (Rr i r hr).2
      · rw [q, Ra 1 i (by decide) (by decide)] at hr; exact absurd hr (by simp)
      · rw [q, Ra 2 i (by decide) (by decide)] at hr; exact absurd hr (by simp)
      · rw [q, Ra 3 i (by decide) (by decide)] at hr; exact absurd hr (by simp)
      · rw [q, Ra 4 i (by decide) (by decide)] at hr; exact absurd hr (by simp)
      · exact absurd (rN a q) h0)
  have hS0 : hS h = n := hn.symm
  refine ⟨boH h, boH_v h, ρ', ((boH h).1, (c.2.1, (w', c.2.2.2))), ⟨fun a ha => ?_, rfl, rfl, ?_, fun a l => ro a (by rw [hn, t1]; exact l)⟩, TT, by rw [hS0]; exact r0, by rw [hS0]; exact wn n (Nat.le_refl _), boH_o h⟩
  · have := lt a ha
    exact ⟨ro a (by omega), wo a (by omega)⟩
  · show c.1.1 ≤ (boH h).1.1
    rw [o1, ← t1]; omega
