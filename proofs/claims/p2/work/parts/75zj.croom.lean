/-! rows of a solution of the class are made -/
theorem newR24 {ρ : Nat → Nat} {c : Cm} {h h2 : Hp} {a k z : Nat} (T : TH ρ c h) (ea : a = hS h) (eh : h2 = nC h k 600000 z) : ∃ ρ' c', Ext ρ c ρ' c' ∧ TH ρ' c' h2 ∧ ρ' a = 24 ∧ Old h h2 ∧ hN h2 a = 600000 := by
  have t1 : h.1 = c.1 := T.1.1
  have lt : ∀ b, ρ b ≠ 0 → b < h.1.1 := fun b hb => by rw [t1]; exact T.2.1.2.2.1 b hb
  have z0 : ∀ b, h.1.1 ≤ b → ρ b = 0 := fun b hb => by
    by_cases q : ρ b = 0
    · exact q
    · have := lt b q; omega
  have eS : hS h = h.1.1 := rfl
  have ea' : a = h.1.1 := ea
  have O : Old h h2 := fun b hb => by
    have nb : ¬ b = hS h := by rw [eS]; omega
    rw [eh]
    exact ⟨fun i => by rw [nC_I, if_neg nb], fun i => by rw [nC_J, if_neg nb], fun i => by rw [nC_R, if_neg nb], by rw [nC_N, if_neg nb]⟩
  have o1 : h2.1.1 = h.1.1 + 1 := by rw [eh]; rfl
  let ρ' : Nat → Nat := fun b => if b = h.1.1 then 24 else ρ b
  have ro : ∀ b, b < h.1.1 → ρ' b = ρ b := fun b hb => if_neg (by omega)
  have rn : ρ' h.1.1 = 24 := if_pos rfl
  have rc : ∀ b, h.1.1 ≤ b → ρ' b = 24 ∨ ρ' b = 0 := fun b hb => by
    by_cases q : b = h.1.1
    · exact Or.inl (if_pos q)
    · exact Or.inr ((if_neg q).trans (z0 b hb))
  have hz : ∀ b, h.1.1 ≤ b → ρ' b = 24 → b = h.1.1 := fun b hb q => by
    by_cases y : b = h.1.1
    · exact y
    · have : ρ' b = 0 := (if_neg y).trans (z0 b hb)
      rw [this] at q; exact absurd q (by decide)
  have TT := adopt T O ρ' (cw c) (by omega) ro (fun b hb => (if_neg (by omega)).trans (z0 b (by omega))) (fun _ _ => rfl)
    (fun b i hb => by
      rcases rc b hb with q | q
      · rw [q, eh, nC_I, if_pos (show b = hS h from hz b hb q)]; exact ⟨(rg_m (rg_b rfl : Rg 0 0 (0 : Int32)) (by decide) : Rg (-4000000) 4000000 (0 : Int32)), rp0 rfl⟩
      · rw [q]; exact ⟨rg_top _, rp0 rfl⟩)
    (fun b i hb hk => by rcases rc b hb with q | q <;> rw [q] at hk <;> exact absurd rfl hk)
    (fun b i hb => by rcases rc b hb with q | q <;> rw [q] <;> rfl)
    (fun b hb hk => by
      rcases rc b hb with q | q
      · rw [q] at hk; exact absurd rfl hk
      · rw [q] at hk; exact absurd rfl hk)
    (fun b hb => by rcases rc b hb with q | q <;> rw [q] <;> decide)
    (fun p i r hb hp => by rcases rc p hb with q | q <;> rw [q] at hp <;> exact absurd hp (by decide))
    (fun p q i r hb _ hp => by rcases rc p hb with q | q <;> rw [q] at hp <;> exact absurd hp (by decide))
    (fun b i hb => by rcases rc b hb with q | q <;> rw [q] <;> rfl)
    (fun b hb => by rcases rc b hb with q | q <;> rw [q] <;> rfl)
    (fun b i r hb hi => by rcases rc b hb with q | q <;> rw [q] at hi <;> exact absurd hi (by decide))
    (fun b i hb => by rcases rc b hb with q | q <;> rw [q] <;> rfl)
    (fun b i r hb h0 hr => by
      rcases rc b hb with q | q
      · rw [eh, nC_R, if_pos (show b = hS h from hz b hb q)] at hr
        exact absurd hr (by simp)
      · exact absurd q h0)
  refine ⟨ρ', (h2.1, (c.2.1, (cw c, c.2.2.2))), ⟨fun b hb => ⟨ro b (lt b hb), rfl⟩, rfl, rfl, ?_, fun b hb => ro b (by rw [t1]; exact hb)⟩, TT, by rw [ea']; exact rn, O, by rw [eh, nC_N, if_pos ea]⟩
  show c.1.1 ≤ h2.1.1
  rw [o1, ← t1]; omega
theorem newR25 {ρ : Nat → Nat} {c : Cm} {h h2 : Hp} {a k z : Nat} (T : TH ρ c h) (ea : a = hS h) (eh : h2 = nC h k 600000 z) : ∃ ρ' c', Ext ρ c ρ' c' ∧ TH ρ' c' h2 ∧ ρ' a = 25 ∧ Old h h2 ∧ hN h2 a = 600000 := by
  have t1 : h.1 = c.1 := T.1.1
  have lt : ∀ b, ρ b ≠ 0 → b < h.1.1 := fun b hb => by rw [t1]; exact T.2.1.2.2.1 b hb
  have z0 : ∀ b, h.1.1 ≤ b → ρ b = 0 := fun b hb => by
    by_cases q : ρ b = 0
    · exact q
    · have := lt b q; omega
  have eS : hS h = h.1.1 := rfl
  have ea' : a = h.1.1 := ea
  have O : Old h h2 := fun b hb => by
    have nb : ¬ b = hS h := by rw [eS]; omega
    rw [eh]
    exact ⟨fun i => by rw [nC_I, if_neg nb], fun i => by rw [nC_J, if_neg nb], fun i => by rw [nC_R, if_neg nb], by rw [nC_N, if_neg nb]⟩
  have o1 : h2.1.1 = h.1.1 + 1 := by rw [eh]; rfl
  let ρ' : Nat → Nat := fun b => if b = h.1.1 then 25 else ρ b
  have ro : ∀ b, b < h.1.1 → ρ' b = ρ b := fun b hb => if_neg (by omega)
  have rn : ρ' h.1.1 = 25 := if_pos rfl
  have rc : ∀ b, h.1.1 ≤ b → ρ' b = 25 ∨ ρ' b = 0 := fun b hb => by
    by_cases q : b = h.1.1
    · exact Or.inl (if_pos q)
    · exact Or.inr ((if_neg q).trans (z0 b hb))
  have hz : ∀ b, h.1.1 ≤ b → ρ' b = 25 → b = h.1.1 := fun b hb q => by
    by_cases y : b = h.1.1
    · exact y
    · have : ρ' b = 0 := (if_neg y).trans (z0 b hb)
      rw [this] at q; exact absurd q (by decide)
  have TT := adopt T O ρ' (cw c) (by omega) ro (fun b hb => (if_neg (by omega)).trans (z0 b (by omega))) (fun _ _ => rfl)
    (fun b i hb => by rcases rc b hb with q | q <;> rw [q] <;> exact ⟨rg_top _, rp0 rfl⟩)
    (fun b i hb hk => by rcases rc b hb with q | q <;> rw [q] at hk <;> exact absurd rfl hk)
    (fun b i hb => by rcases rc b hb with q | q <;> rw [q] <;> rfl)
    (fun b hb hk => by
      rcases rc b hb with q | q
      · rw [q] at hk; exact absurd rfl hk
      · rw [q] at hk; exact absurd rfl hk)
    (fun b hb => by rcases rc b hb with q | q <;> rw [q] <;> decide)
    (fun p i r hb hp => by rcases rc p hb with q | q <;> rw [q] at hp <;> exact absurd hp (by decide))
    (fun p q i r hb _ hp => by rcases rc p hb with q | q <;> rw [q] at hp <;> exact absurd hp (by decide))
    (fun b i hb => by rcases rc b hb with q | q <;> rw [q] <;> rfl)
    (fun b hb => by rcases rc b hb with q | q <;> rw [q] <;> rfl)
    (fun b i r hb hi => by rcases rc b hb with q | q <;> rw [q] at hi <;> exact absurd hi (by decide))
    (fun b i hb => by rcases rc b hb with q | q <;> rw [q] <;> rfl)
    (fun b i r hb h0 hr => by
      rcases rc b hb with q | q
      · rw [eh, nC_R, if_pos (show b = hS h from hz b hb q)] at hr
        exact absurd hr (by simp)
      · exact absurd q h0)
  refine ⟨ρ', (h2.1, (c.2.1, (cw c, c.2.2.2))), ⟨fun b hb => ⟨ro b (lt b hb), rfl⟩, rfl, rfl, ?_, fun b hb => ro b (by rw [t1]; exact hb)⟩, TT, by rw [ea']; exact rn, O, by rw [eh, nC_N, if_pos ea]⟩
  show c.1.1 ≤ h2.1.1
  rw [o1, ← t1]; omega
theorem newR26 {ρ : Nat → Nat} {c : Cm} {h h2 : Hp} {a k z : Nat} (T : TH ρ c h) (ea : a = hS h) (eh : h2 = nC h k 600000 z) : ∃ ρ' c', Ext ρ c ρ' c' ∧ TH ρ' c' h2 ∧ ρ' a = 26 ∧ Old h h2 ∧ hN h2 a = 600000 := by
  have t1 : h.1 = c.1 := T.1.1
  have lt : ∀ b, ρ b ≠ 0 → b < h.1.1 := fun b hb => by rw [t1]; exact T.2.1.2.2.1 b hb
  have z0 : ∀ b, h.1.1 ≤ b → ρ b = 0 := fun b hb => by
    by_cases q : ρ b = 0
    · exact q
    · have := lt b q; omega
  have eS : hS h = h.1.1 := rfl
  have ea' : a = h.1.1 := ea
  have O : Old h h2 := fun b hb => by
    have nb : ¬ b = hS h := by rw [eS]; omega
    rw [eh]
    exact ⟨fun i => by rw [nC_I, if_neg nb], fun i => by rw [nC_J, if_neg nb], fun i => by rw [nC_R, if_neg nb], by rw [nC_N, if_neg nb]⟩
  have o1 : h2.1.1 = h.1.1 + 1 := by rw [eh]; rfl
  let ρ' : Nat → Nat := fun b => if b = h.1.1 then 26 else ρ b
  have ro : ∀ b, b < h.1.1 → ρ' b = ρ b := fun b hb => if_neg (by omega)
  have rn : ρ' h.1.1 = 26 := if_pos rfl
  have rc : ∀ b, h.1.1 ≤ b → ρ' b = 26 ∨ ρ' b = 0 := fun b hb => by
    by_cases q : b = h.1.1
    · exact Or.inl (if_pos q)
    · exact Or.inr ((if_neg q).trans (z0 b hb))
  have hz : ∀ b, h.1.1 ≤ b → ρ' b = 26 → b = h.1.1 := fun b hb q => by
    by_cases y : b = h.1.1
    · exact y
    · have : ρ' b = 0 := (if_neg y).trans (z0 b hb)
      rw [this] at q; exact absurd q (by decide)
  have TT := adopt T O ρ' (cw c) (by omega) ro (fun b hb => (if_neg (by omega)).trans (z0 b (by omega))) (fun _ _ => rfl)
    (fun b i hb => by
      rcases rc b hb with q | q
      · rw [q, eh, nC_I, if_pos (show b = hS h from hz b hb q)]; exact ⟨(rg_m (rg_b rfl : Rg 0 0 (0 : Int32)) (by decide) : Rg 0 599999 (0 : Int32)), rp0 rfl⟩
      · rw [q]; exact ⟨rg_top _, rp0 rfl⟩)
    (fun b i hb hk => by rcases rc b hb with q | q <;> rw [q] at hk <;> exact absurd rfl hk)
    (fun b i hb => by rcases rc b hb with q | q <;> rw [q] <;> rfl)
    (fun b hb hk => by
      rcases rc b hb with q | q
      · rw [q] at hk; exact absurd rfl hk
      · rw [q] at hk; exact absurd rfl hk)
    (fun b hb => by rcases rc b hb with q | q <;> rw [q] <;> decide)
    (fun p i r hb hp => by rcases rc p hb with q | q <;> rw [q] at hp <;> exact absurd hp (by decide))
    (fun p q i r hb _ hp => by rcases rc p hb with q | q <;> rw [q] at hp <;> exact absurd hp (by decide))
    (fun b i hb => by rcases rc b hb with q | q <;> rw [q] <;> rfl)
    (fun b hb => by rcases rc b hb with q | q <;> rw [q] <;> rfl)
    (fun b i r hb hi => by rcases rc b hb with q | q <;> rw [q] at hi <;> exact absurd hi (by decide))
    (fun b i hb => by rcases rc b hb with q | q <;> rw [q] <;> rfl)
    (fun b i r hb h0 hr => by
      rcases rc b hb with q | q
      · rw [eh, nC_R, if_pos (show b = hS h from hz b hb q)] at hr
        exact absurd hr (by simp)
      · exact absurd q h0)
  refine ⟨ρ', (h2.1, (c.2.1, (cw c, c.2.2.2))), ⟨fun b hb => ⟨ro b (lt b hb), rfl⟩, rfl, rfl, ?_, fun b hb => ro b (by rw [t1]; exact hb)⟩, TT, by rw [ea']; exact rn, O, by rw [eh, nC_N, if_pos ea]⟩
  show c.1.1 ≤ h2.1.1
  rw [o1, ← t1]; omega
section
variable {ρ : Nat → Nat} {c : Cm} {h o : Hp} {x0 : Nat}
abbrev MRL : List (Nat × Nat) := [(1, 11), (1, 12), (1, 13)]
/-- the rows are not there yet, or they are whole -/
def LnI (x0 : Nat) (h : Hp) : Prop := ∀ a, hR h x0 11 = some a → hN h a = 0 ∨ LenP x0 h
theorem kf_new {ρ1 : Nat → Nat} {a q i : Nat} {h1 h2 : Hp} (T : TH ρ c h) (r0 : ρ x0 = 1) (O : Old h h1) (w : h2 = wR h1 x0 i (some q)) (y : mS MRL 1 i = true) : Kf ρ MRL h h2 ∧ ∀ b, ρ b ≠ 0 → hN h2 b = hN h b := by
  have lt : ∀ b, ρ b ≠ 0 → b < h.1.1 := fun b hb => by rw [T.1.1]; exact T.2.1.2.2.1 b hb
  refine ⟨fun b j n x => ?_, fun b n => ?_⟩
  · obtain ⟨q1, q2, q3, _⟩ := O b (lt b n)
    rw [w]
    refine ⟨q1 j, q2 j, ?_⟩
    rw [r_R, if_neg]
    · exact q3 j
    · rintro ⟨q5, q6⟩
      subst q5; subst q6
      rw [r0, y] at x
      exact absurd x (by decide)
  · rw [w]; exact (O b (lt b n)).2.2.2
theorem makeRoom_q (hA : pmA c MRL) (T : TH ρ c h) (r0 : ρ x0 = 1) (N : LnI x0 h) : Sat (sX0_makeRoom h x0) (MkV ρ c (fun o => LenP x0 o ∧ Kf ρ MRL h o)) := by
  unfold sX0_makeRoom sX0_makeRoom_15 sX0_makeRoom_23 sX0_makeRoom_31 sX0_makeRoom_34
  obtain ⟨r1, e1, q1⟩ := thR T r0 (i := 11) (k2 := 24) rfl (by decide)
  refine s_ref e1 ?_
  refine s_br (fun l => ?_) (fun _ => ?_)
  · have l := le_i l
    rcases N r1 e1 with w | w
    · rw [w] at l
      exact absurd l (by decide)
    · exact s_some ⟨ρ, c, ex_0, T, w, kf_r⟩
  · refine s_q (fun a3 ea3 => s_q (fun h4 eh4 => ?_))
    obtain ⟨ρ1, c1, X1, T4, qa3, O4, n4⟩ := newR24 T ea3 eh4
    have r1' := ex_r X1 r0 (by decide)
    refine s_hq (th_wRk T4 r1' (i := 11) (k2 := 24) rfl (by decide) qa3 (by decide) (by decide) rfl rfl rfl rfl (pm_a (ex_A X1 hA) rfl)) (fun h5 T5 w5 => ?_)
    obtain ⟨K5, M5⟩ := kf_new (a := a3) (ρ1 := ρ1) T r0 O4 w5 rfl
    have a5 : hR h5 x0 11 = some a3 := by rw [w5, r_R, if_pos ⟨rfl, rfl⟩]
    have m5 : hN h5 a3 = 600000 := by rw [w5]; exact n4
    refine s_q (fun a6 ea6 => s_q (fun h7 eh7 => ?_))
    obtain ⟨ρ2, c2, X2, T7, qa6, O7, n7⟩ := newR25 T5 ea6 eh7
    have r2' := ex_r X2 r1' (by decide)
    refine s_hq (th_wRk T7 r2' (i := 12) (k2 := 25) rfl (by decide) qa6 (by decide) (by decide) rfl rfl rfl rfl (pm_a (ex_A (ex_t X1 X2) hA) rfl)) (fun h8 T8 w8 => ?_)
    obtain ⟨K8, M8⟩ := kf_new (a := a6) (ρ1 := ρ2) T5 r1' O7 w8 rfl
    have lt5 : x0 < h5.1.1 := by rw [T5.1.1]; exact T5.2.1.2.2.1 x0 (by rw [r1']; decide)
    have a8 : hR h8 x0 11 = some a3 := by rw [w8, r_R, if_neg (fun w => absurd w.2 (by decide)), (O7 x0 lt5).2.2.1]; exact a5
    have b8 : hR h8 x0 12 = some a6 := by rw [w8, r_R, if_pos ⟨rfl, rfl⟩]
    have m8 : hN h8 a3 = 600000 := by rw [M8 a3 (by rw [qa3]; decide)]; exact m5
    have p8 : hN h8 a6 = 600000 := by rw [w8]; exact n7
    refine s_q (fun a9 ea9 => s_q (fun h10 eh10 => ?_))
    obtain ⟨ρ3, c3, X3, T10, qa9, O10, n10⟩ := newR26 T8 ea9 eh10
    have r3' := ex_r X3 r2' (by decide)
    refine s_hq (th_wRk T10 r3' (i := 13) (k2 := 26) rfl (by decide) qa9 (by decide) (by decide) rfl rfl rfl rfl (pm_a (ex_A (ex_t X1 (ex_t X2 X3)) hA) rfl)) (fun h11 T11 w11 => ?_)
    obtain ⟨K11, M11⟩ := kf_new (a := a9) (ρ1 := ρ3) T8 r2' O10 w11 rfl
    have lt8 : x0 < h8.1.1 := by rw [T8.1.1]; exact T8.2.1.2.2.1 x0 (by rw [r2']; decide)
    have a11 : hR h11 x0 11 = some a3 := by rw [w11, r_R, if_neg (fun w => absurd w.2 (by decide)), (O10 x0 lt8).2.2.1]; exact a8
    have b11 : hR h11 x0 12 = some a6 := by rw [w11, r_R, if_neg (fun w => absurd w.2 (by decide)), (O10 x0 lt8).2.2.1]; exact b8
    have c11 : hR h11 x0 13 = some a9 := by rw [w11, r_R, if_pos ⟨rfl, rfl⟩]
    have q24 : ρ2 a3 = 24 := ex_r X2 qa3 (by decide)
    refine s_some ⟨ρ3, c3, ex_t X1 (ex_t X2 X3), T11, fun i a hi er => ?_, fun b j n x => ?_⟩
    · rcases hi with w | w | w <;> subst w
      · have hz := r_eq a11 er
        subst hz
        rw [M11 a (by rw [q24]; decide)]; exact m8
      · have hz := r_eq b11 er
        subst hz
        rw [M11 a (by rw [qa6]; decide)]; exact p8
      · have hz := r_eq c11 er
        subst hz
        rw [w11]; exact n10
    · have k1 := X1.1 b n
      have n1 : ρ1 b ≠ 0 := by rw [k1.1]; exact n
      have k2 := X2.1 b n1
      have n2 : ρ2 b ≠ 0 := by rw [k2.1]; exact n1
      have u1 := K5 b j n x
      have u2 := K8 b j n1 (by rw [k1.1]; exact x)
      have u3 := K11 b j n2 (by rw [k2.1, k1.1]; exact x)
      exact ⟨u3.1.trans (u2.1.trans u1.1), u3.2.1.trans (u2.2.1.trans u1.2.1), u3.2.2.trans (u2.2.2.trans u1.2.2)⟩
end
