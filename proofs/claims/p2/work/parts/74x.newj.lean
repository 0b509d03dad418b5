/-- the row of masks is made -/
theorem newMasks {ρ : Nat → Nat} {c : Cm} {h h2 : Hp} {a k z : Nat} (T : TH ρ c h) (ea : a = hS h) (eh : h2 = nC h k 1500000 z) : ∃ ρ' c', Ext ρ c ρ' c' ∧ TH ρ' c' h2 ∧ ρ' a = 103 ∧ Old h h2 := by
  have t1 : h.1 = c.1 := T.1.1
  have lt : ∀ b, ρ b ≠ 0 → b < h.1.1 := fun b hb => by rw [t1]; exact T.2.1.2.2.1 b hb
  have z0 : ∀ b, h.1.1 ≤ b → ρ b = 0 := fun b hb => by
    by_cases q : ρ b = 0
    · exact q
    · have := lt b q; omega
  have eS : hS h = h.1.1 := rfl
  have ea' : a = h.1.1 := ea
  have O : Old h h2 := fun b hb => by
    have nb : ¬ b = hS h := by rw [eS]; omega
    rw [eh]
    exact ⟨fun i => by rw [nC_I, if_neg nb], fun i => by rw [nC_J, if_neg nb], fun i => by rw [nC_R, if_neg nb], by rw [nC_N, if_neg nb]⟩
  have o1 : h2.1.1 = h.1.1 + 1 := by rw [eh]; rfl
  let ρ' : Nat → Nat := fun b => if b = h.1.1 then 103 else ρ b
  have ro : ∀ b, b < h.1.1 → ρ' b = ρ b := fun b hb => if_neg (by omega)
  have rn : ρ' h.1.1 = 103 := if_pos rfl
  have rc : ∀ b, h.1.1 ≤ b → ρ' b = 103 ∨ ρ' b = 0 := fun b hb => by
    by_cases q : b = h.1.1
    · exact Or.inl (if_pos q)
    · exact Or.inr ((if_neg q).trans (z0 b hb))
  have hz : ∀ b, h.1.1 ≤ b → ρ' b = 103 → b = h.1.1 := fun b hb q => by
    by_cases y : b = h.1.1
    · exact y
    · have : ρ' b = 0 := (if_neg y).trans (z0 b hb)
      rw [this] at q; exact absurd q (by decide)
  have TT := adopt T O ρ' (cw c) (by omega) ro (fun b hb => (if_neg (by omega)).trans (z0 b (by omega))) (fun _ _ => rfl)
    (fun b i hb => by rcases rc b hb with q | q <;> rw [q] <;> exact ⟨rg_top _, rp0 rfl⟩)
    (fun b i hb hk => by rcases rc b hb with q | q <;> rw [q] at hk <;> exact absurd rfl hk)
    (fun b i hb => by rcases rc b hb with q | q <;> rw [q] <;> rfl)
    (fun b hb hk => by
      rcases rc b hb with q | q
      · rw [q, eh, nC_N, if_pos (show b = hS h from hz b hb q)]; rfl
      · rw [q] at hk; exact absurd rfl hk)
    (fun b hb => by rcases rc b hb with q | q <;> rw [q] <;> decide)
    (fun p i r hb hp => by rcases rc p hb with q | q <;> rw [q] at hp <;> exact absurd hp (by decide))
    (fun p q i r hb _ hp => by rcases rc p hb with q | q <;> rw [q] at hp <;> exact absurd hp (by decide))
    (fun b i hb => by rcases rc b hb with q | q <;> rw [q] <;> rfl)
    (fun b hb => by rcases rc b hb with q | q <;> rw [q] <;> rfl)
    (fun b i r hb hi => by rcases rc b hb with q | q <;> rw [q] at hi <;> exact absurd hi (by decide))
    (fun b i hb => by rcases rc b hb with q | q <;> rw [q] <;> rfl)
    (fun b i r hb h0 hr => by
      rcases rc b hb with q | q
      · rw [eh, nC_R, if_pos (show b = hS h from hz b hb q)] at hr
        exact absurd hr (by simp)
      · exact absurd q h0)
  refine ⟨ρ', (h2.1, (c.2.1, (cw c, c.2.2.2))), ⟨fun b hb => ⟨ro b (lt b hb), rfl⟩, rfl, rfl, ?_, fun b hb => ro b (by rw [t1]; exact hb)⟩, TT, by rw [ea']; exact rn, O⟩
  show c.1.1 ≤ h2.1.1
  rw [o1, ← t1]; omega
