/-- an element of a row that may hold nulls is set to an object of its kind and holder -/
theorem th_wRe {ρ : Nat → Nat} {c : Cm} {h : Hp} (T : TH ρ c h) {a k i k2 q : Nat} (e : ρ a = k) (h2 : rfN k i = k2) (h3 : k2 ≠ 0) (hq : ρ q = k2) (n1 : k ≠ 10) (n2 : k ≠ 4) (n3 : rfK k i = 0) (n6 : nid k i = 0) (n4 : inh k = false) (hk : cw c q = kid k i) (hw : cPm c k (cw c a) i = true) : TH ρ c (wR h a i (some q)) := by
  obtain ⟨⟨t1, t2, t3, t4, t5, t6, t7, t8, t9⟩, ⟨o1, o2, o3, o4⟩, f⟩ := T
  refine ⟨⟨t1, t2, fun b l hb => ?_, fun b l hb r hr => ?_, t5, fun t tb ht hr => ?_, ⟨fun p q' i' a' hi' hp hq' h1 h2 => ?_, fun p on of hp ho hf => ?_⟩, fun b l hb hm => ?_, t9⟩, ⟨fun b l r hb hr => ?_, fun b l r hb hr => ?_, o3, fun b l r hb hr => ?_⟩, fr_wR f e hw⟩
  · rw [r_R, if_neg (fun w => hb (by rw [w.1, w.2, e, n3]))]
    exact t3 b l hb
  · rw [r_R] at hr
    by_cases w : b = a ∧ l = i
    · rw [if_pos w] at hr
      rw [← Option.some.inj hr, w.1, w.2, e, h2, hq]
    · rw [if_neg w] at hr
      exact t4 b l hb r hr
  · rw [r_R, if_neg (fun w => n1 (by rw [← e, ← w.1, ht]))] at hr
    exact t6 t tb ht hr
  · rw [r_R, if_neg (fun w => n2 (by rw [← e, ← w.1, hp]))] at h1
    rw [r_R, if_neg (fun w => n2 (by rw [← e, ← w.1, hq']))] at h2
    exact t7.1 p q' i' a' hi' hp hq' h1 h2
  · rw [r_R, if_neg (fun w => n2 (by rw [← e, ← w.1, hp]))] at ho hf
    exact t7.2 p on of hp ho hf
  · rw [r_R, if_neg (fun w => hb (by rw [w.1, w.2, e, n6]))]
    exact t8 b l hb hm
  · rw [r_R, if_neg (fun w => by rw [w.1, e, n4] at hb; exact absurd hb (by decide))] at hr
    exact o1 b l r hb hr
  · rw [r_R] at hr
    by_cases w : b = a ∧ l = i
    · rw [if_pos w] at hr
      rw [← Option.some.inj hr, w.1, w.2, e]
      exact hk
    · rw [if_neg w] at hr
      exact o2 b l r hb hr
  · rw [r_R] at hr
    by_cases w : b = a ∧ l = i
    · rw [if_pos w] at hr
      rw [← Option.some.inj hr]
      exact o3 q (by rw [hq]; exact h3)
    · rw [if_neg w] at hr
      exact o4 b l r hb hr
/-- an address without a role may hold what it likes -/
theorem th_w0 {ρ : Nat → Nat} {c : Cm} {h : Hp} (T : TH ρ c h) {a i : Nat} {v : Int32} (e : ρ a = 0) : TH ρ c (wI h a i v) := by
  obtain ⟨t, o, f⟩ := T
  refine ⟨th_wI0 t e (lo := -2147483648) (hi := 2147483647) rfl (rg_top v) (by decide) (by decide) (rp0 rfl), o, f.1, fun b j l hb hs => ?_, f.2.2⟩
  rw [r_I, if_neg (fun q => hb (by rw [q.1]; exact e))]
  exact f.2.1 b j l hb hs
section
variable {ρ : Nat → Nat} {c : Cm} {β : Type} {Q : β → Prop} {h : Hp} {S : Nat → Nat → Nat → Bool}
/-- a call that makes things -/
theorem s_mk {α : Type} {g : α → Hp} {P : α → (Nat → Nat) → Cm → Prop} {m : Option α} {k : α → Option β} (T : TH ρ c h) (hs : ∀ k w i, S k w i = true → cPm c k w i = true) (Z : Sat m (fun o => ∃ ρ' c', Ext ρ (cat c S h) ρ' c' ∧ TH ρ' c' (g o) ∧ P o ρ' c')) (up : ∀ o ρ' c' c2, c2.2.2.1 = c'.2.2.1 → P o ρ' c' → P o ρ' c2) (H : ∀ o ρ1 c1, Ext ρ c ρ1 c1 → TH ρ1 c1 (g o) → Fr ρ (cat c S h) h (g o) → P o ρ1 c1 → Sat (k o) Q) : Sat (cl m k) Q := by
  refine s_cl (s_imp Z fun o ho => ?_)
  obtain ⟨ρ1, c1, X, T1, p⟩ := ho
  obtain ⟨X2, T2⟩ := ex_o T hs X T1
  exact H o ρ1 _ X2 T2 (ex_f T X T1) (up o ρ1 c1 _ rfl p)
end
theorem s_tail {β : Type} {Q : β → Prop} {m : Option β} (S : Sat (cl m fun o => some o) Q) : Sat m Q := by
  cases m with
  | none => exact S
  | some o => exact S
/-- an array for the while -/
theorem scr {ρ : Nat → Nat} {c : Cm} {h h2 : Hp} {a k n z : Nat} (T : TH ρ c h) (ea : a = hS h) (eh : h2 = nC h k n z) : ∃ c', Ext ρ c ρ c' ∧ TH ρ c' h2 ∧ ρ a = 0 ∧ hN h2 a = n ∧ ∀ S, Fr ρ (cat c S h) h h2 := by
  have t1 : h.1 = c.1 := T.1.1
  have lt : ∀ b, ρ b ≠ 0 → b < h.1.1 := fun b hb => by rw [t1]; exact T.2.1.2.2.1 b hb
  have z0 : ∀ b, h.1.1 ≤ b → ρ b = 0 := fun b hb => by
    by_cases q : ρ b = 0
    · exact q
    · have := lt b q; omega
  have eS : hS h = h.1.1 := rfl
  have O : Old h h2 := fun b hb => by
    have nb : ¬ b = hS h := by rw [eS]; omega
    rw [eh]
    exact ⟨fun i => by rw [nC_I, if_neg nb], fun i => by rw [nC_J, if_neg nb], fun i => by rw [nC_R, if_neg nb], by rw [nC_N, if_neg nb]⟩
  have o1 : h2.1.1 = h.1.1 + 1 := by rw [eh]; rfl
  have TT := adopt T O ρ (cw c) (by omega) (fun _ _ => rfl) (fun b hb => z0 b (by omega)) (fun _ _ => rfl)
    (fun b i hb => by rw [z0 b hb]; exact ⟨rg_top _, rp0 rfl⟩)
    (fun b i hb hk => by rw [z0 b hb] at hk; exact absurd rfl hk)
    (fun b i hb => by rw [z0 b hb]; rfl)
    (fun b hb hk => by rw [z0 b hb] at hk; exact absurd rfl hk)
    (fun b hb => by rw [z0 b hb]; decide)
    (fun p i r hb hp => by rw [z0 p hb] at hp; exact absurd hp (by decide))
    (fun p q i r hb _ hp => by rw [z0 p hb] at hp; exact absurd hp (by decide))
    (fun b i hb => by rw [z0 b hb]; rfl)
    (fun b hb => by rw [z0 b hb]; rfl)
    (fun b i r hb hi => by rw [z0 b hb] at hi; exact absurd hi (by decide))
    (fun b i hb => by rw [z0 b hb]; rfl)
    (fun b i r hb h0 => absurd (z0 b hb) h0)
  refine ⟨(h2.1, (c.2.1, (cw c, c.2.2.2))), ⟨fun _ _ => ⟨rfl, rfl⟩, rfl, rfl, ?_, fun _ _ => rfl⟩, TT, z0 a (by rw [ea, eS]; exact Nat.le_refl _), by rw [eh, nC_N, if_pos ea], fun S => ⟨fun b i hb _ => ?_, fun b hb => (O b (lt b hb)).2.2.2⟩⟩
  · show c.1.1 ≤ h2.1.1
    rw [o1, ← t1]; omega
  · exact ⟨(O b (lt b hb)).1 i, (O b (lt b hb)).2.1 i, (O b (lt b hb)).2.2.1 i⟩
