section
variable {a b c d : Int} {x y : Int32}
theorem ti_add (hx : Rg a b x) (hy : Rg c d y) (e : -2147483648 ≤ a + c ∧ b + d ≤ 2147483647) : (x + y).toInt = x.toInt + y.toInt := by
  have := hx.1; have := hx.2; have := hy.1; have := hy.2
  rw [Int32.toInt_add]
  exact Int.bmod_eq_of_le_mul_two (by omega) (by omega)
theorem ti_sub (hx : Rg a b x) (hy : Rg c d y) (e : -2147483648 ≤ a - d ∧ b - c ≤ 2147483647) : (x - y).toInt = x.toInt - y.toInt := by
  have := hx.1; have := hx.2; have := hy.1; have := hy.2
  rw [Int32.toInt_sub]
  exact Int.bmod_eq_of_le_mul_two (by omega) (by omega)
theorem ti_mulc (hx : Rg a b x) (hy : Rg c c y) (e : 0 ≤ c ∧ -2147483648 ≤ a * c ∧ b * c ≤ 2147483647) : (x * y).toInt = c * x.toInt := by
  have e1 := hx.1
  have e2 := hx.2
  have e3 : y.toInt = c := by have := hy.1; have := hy.2; omega
  have p1 : a * c ≤ x.toInt * c := Int.mul_le_mul_of_nonneg_right e1 e.1
  have p2 : x.toInt * c ≤ b * c := Int.mul_le_mul_of_nonneg_right e2 e.1
  rw [Int32.toInt_mul, e3, Int.mul_comm c]
  exact Int.bmod_eq_of_le_mul_two (by omega) (by omega)
theorem ti_mulc' (hx : Rg a b x) (hy : Rg c c y) (e : 0 ≤ c ∧ -2147483648 ≤ a * c ∧ b * c ≤ 2147483647) : (y * x).toInt = c * x.toInt := by
  rw [Int32.mul_comm]; exact ti_mulc hx hy e
theorem ti_iff {p q : Prop} [Decidable p] (e : p ↔ q) : (q ∧ (if p then x else y).toInt = x.toInt) ∨ (¬ q ∧ (if p then x else y).toInt = y.toInt) := by
  by_cases h : p
  · rw [if_pos h]; exact Or.inl ⟨e.mp h, rfl⟩
  · rw [if_neg h]; exact Or.inr ⟨fun w => h (e.mpr w), rfl⟩
theorem ii_eq : x = y ↔ x.toInt = y.toInt := Int32.toInt_inj.symm
theorem ii_lt : x < y ↔ x.toInt < y.toInt := Int32.lt_iff_toInt_lt
theorem ii_le : x ≤ y ↔ x.toInt ≤ y.toInt := Int32.le_iff_toInt_le
theorem eq_i (h : x = y) : x.toInt = y.toInt := ii_eq.mp h
theorem ne_i (h : ¬ x = y) : ¬ x.toInt = y.toInt := fun q => h (ii_eq.mpr q)
theorem lt_i (h : x < y) : x.toInt < y.toInt := ii_lt.mp h
theorem nlt_i (h : ¬ x < y) : y.toInt ≤ x.toInt := by
  have : ¬ x.toInt < y.toInt := fun q => h (ii_lt.mpr q)
  omega
theorem le_i (h : x ≤ y) : x.toInt ≤ y.toInt := ii_le.mp h
theorem nle_i (h : ¬ x ≤ y) : y.toInt < x.toInt := by
  have : ¬ x.toInt ≤ y.toInt := fun q => h (ii_le.mpr q)
  omega
end
theorem he_r {h h2 : Hp} {a i b j : Nat} {v : Option Nat} (e : h2 = wR h b j v) : hI h2 a i = hI h a i := by rw [e]; rfl
theorem pmA_n {c : Cm} : pmA c [] := fun _ _ _ m => absurd m (by simp [mS])
abbrev ZQ {α : Type} (Z P : α → Prop) : α → Prop := fun o => Z o ∧ P o
section
variable {ρ : Nat → Nat} {c : Cm} {β : Type} {Q : β → Prop} {h : Hp} {S : Nat → Nat → Nat → Bool} {lo hi : Int}
theorem s_cIq {P : Int32 × Hp → Prop} {m : Option (Int32 × Hp)} {k : Int32 × Hp → Option β} (Z : Sat m (ZQ (ZI ρ c lo hi) P)) (H : ∀ o, TH ρ c o.2 → Rg lo hi o.1 → P o → Sat (k o) Q) : Sat (cl m k) Q := s_cl (s_imp Z fun o ho => H o ho.1.1 ho.1.2 ho.2)
theorem s_cI0q {P : Int32 × Hp → Prop} {m : Option (Int32 × Hp)} {k : Int32 × Hp → Option β} (Z : Sat m (ZQ (ZI0 h lo hi) P)) (H : ∀ o, o.2 = h → Rg lo hi o.1 → P o → Sat (k o) Q) : Sat (cl m k) Q := s_cl (s_imp Z fun o ho => H o ho.1.1 ho.1.2 ho.2)
theorem s_cP0q {s : Int32} {R : Prop} {P : Int32 × Hp → Prop} {m : Option (Int32 × Hp)} {k : Int32 × Hp → Option β} (Z : Sat m (ZQ (ZP0 h lo hi s R) P)) (H : ∀ o, o.2 = h → Rg lo hi o.1 → (¬ o.1 = s → R) → P o → Sat (k o) Q) : Sat (cl m k) Q := s_cl (s_imp Z fun o ho => H o ho.1.1 ho.1.2.1 ho.1.2.2 ho.2)
theorem s_cVq {P : Hp → Prop} {m : Option Hp} {k : Hp → Option β} (Z : Sat m (ZQ (ZV ρ c) P)) (H : ∀ o, TH ρ c o → P o → Sat (k o) Q) : Sat (cl m k) Q := s_cl (s_imp Z fun o ho => H o ho.1 ho.2)
theorem s_cIfq {P : Int32 × Hp → Prop} {m : Option (Int32 × Hp)} {k : Int32 × Hp → Option β} (T : TH ρ c h) (hs : ∀ k w i, S k w i = true → cPm c k w i = true) (Z : Sat m (ZQ (ZI ρ (cat c S h) lo hi) P)) (H : ∀ o, TH ρ c o.2 → Rg lo hi o.1 → Fr ρ (cat c S h) h o.2 → P o → Sat (k o) Q) : Sat (cl m k) Q := s_cl (s_imp Z fun o ho => H o (th_out T hs ho.1.1) ho.1.2 (fr_u T ho.1.1.2.2) ho.2)
theorem s_cVfq {P : Hp → Prop} {m : Option Hp} {k : Hp → Option β} (T : TH ρ c h) (hs : ∀ k w i, S k w i = true → cPm c k w i = true) (Z : Sat m (ZQ (ZV ρ (cat c S h)) P)) (H : ∀ o, TH ρ c o → Fr ρ (cat c S h) h o → P o → Sat (k o) Q) : Sat (cl m k) Q := s_cl (s_imp Z fun o ho => H o (th_out T hs ho.1) (fr_u T ho.1.2.2) ho.2)
end
section
variable {ρ : Nat → Nat} {c : Cm} {h h2 : Hp} {A B : List (Nat × Nat)} {a k i w : Nat}
theorem fs_t (m : mS A k i = true) : fS A [] k w i = true := by unfold fS; rw [m, Bool.true_or]
theorem fs_u (m : mS B k i = true) : fS [] [(w, B)] k w i = true := by unfold fS; simp [m]
theorem fr1I {v : Int32} (e : ρ a = k) (m : mS A k i = true) (en : h2 = wI h a i v) : Fr ρ (cat c (fS A []) h) h h2 := by
  rw [en]; exact fu_wI ⟨fun _ _ _ _ => ⟨rfl, rfl, rfl⟩, fun _ _ => rfl⟩ e (fs_t m)
theorem fr1J {v : Int64} (e : ρ a = k) (m : mS A k i = true) (en : h2 = wJ h a i v) : Fr ρ (cat c (fS A []) h) h h2 := by
  rw [en]; exact fu_wJ ⟨fun _ _ _ _ => ⟨rfl, rfl, rfl⟩, fun _ _ => rfl⟩ e (fs_t m)
theorem fr1R {v : Option Nat} (e : ρ a = k) (m : mS A k i = true) (en : h2 = wR h a i v) : Fr ρ (cat c (fS A []) h) h h2 := by
  rw [en]; exact fu_wR ⟨fun _ _ _ _ => ⟨rfl, rfl, rfl⟩, fun _ _ => rfl⟩ e (fs_t m)
theorem fr1Io {v : Int32} (e : ρ a = k) (ew : cw c a = w) (m : mS B k i = true) (en : h2 = wI h a i v) : Fr ρ (cat c (fS [] [(w, B)]) h) h h2 := by
  rw [en]; exact fu_wI ⟨fun _ _ _ _ => ⟨rfl, rfl, rfl⟩, fun _ _ => rfl⟩ e (by show fS [] [(w, B)] k (cw c a) i = true; rw [ew]; exact fs_u m)
theorem fr1Jo {v : Int64} (e : ρ a = k) (ew : cw c a = w) (m : mS B k i = true) (en : h2 = wJ h a i v) : Fr ρ (cat c (fS [] [(w, B)]) h) h h2 := by
  rw [en]; exact fu_wJ ⟨fun _ _ _ _ => ⟨rfl, rfl, rfl⟩, fun _ _ => rfl⟩ e (by show fS [] [(w, B)] k (cw c a) i = true; rw [ew]; exact fs_u m)
theorem fr_RI {S : Nat → Nat → Nat → Bool} {r k i : Nat} (f : Fr ρ (cat c S h) h h2) (e : ρ r = k) (h0 : k ≠ 0) (hs : ∀ w, S k w i = false) : hI h2 r i = hI h r i ∧ hJ h2 r i = hJ h r i ∧ hR h2 r i = hR h r i := f.1 r i (by rw [e]; exact h0) (by rw [e]; exact hs _)
end
/-- the rules tell a royal man -/
def RoyOk (x0 : Nat) (h : Hp) : Prop := ∀ r, hR h x0 4 = some r → 0 ≤ (hI h r 10).toInt
section
variable {ρ : Nat → Nat} {c : Cm} {h h2 : Hp} {S : Nat → Nat → Nat → Bool} {x0 : Nat}
theorem roy_fr (T : TH ρ c h) (r0 : ρ x0 = 16) (f : Fr ρ (cat c S h) h h2) (s1 : ∀ w, S 16 w 4 = false) (s2 : ∀ w, S 15 w 10 = false) (P : RoyOk x0 h) : RoyOk x0 h2 := fun r hr => by
  rw [(fr_RI f r0 (by decide) s1).2.2] at hr
  obtain ⟨q, e1, e2⟩ := thR T r0 (i := 4) (k2 := 15) rfl (by decide)
  have : r = q := by rw [e1] at hr; exact (Option.some.inj hr).symm
  rw [(fr_RI f (this ▸ e2) (by decide) s2).1]
  exact P r hr
end
theorem rg_bks {lo hi a b n l u : Int} {x y : Int32} (h : Rg lo hi (x - y)) (hx : Rg a b x) (hy : Rg n n y) (e : (-2147483648 ≤ a - n ∧ b - n ≤ 2147483647) ∧ (l ≤ lo + n ∨ l ≤ a) ∧ (hi + n ≤ u ∨ b ≤ u)) : Rg l u x := by
  have q := ti_sub hx hy e.1
  have := h.1; have := h.2; have := hx.1; have := hx.2; have := hy.1; have := hy.2
  exact ⟨by omega, by omega⟩
theorem rg_bka {lo hi a b n l u : Int} {x y : Int32} (h : Rg lo hi (x + y)) (hx : Rg a b x) (hy : Rg n n y) (e : (-2147483648 ≤ a + n ∧ b + n ≤ 2147483647) ∧ (l ≤ lo - n ∨ l ≤ a) ∧ (hi - n ≤ u ∨ b ≤ u)) : Rg l u x := by
  have q := ti_add hx hy e.1
  have := h.1; have := h.2; have := hx.1; have := hx.2; have := hy.1; have := hy.2
  exact ⟨by omega, by omega⟩
section
variable {ρ : Nat → Nat} {c : Cm} {β : Type} {Q : β → Prop} {h : Hp} {lo hi : Int}
theorem s_dd {α : Type} {Z : α → Prop} {m : Option α} {k : α → Option β} (S : Sat m Z) (H : ∀ o, m = some o → Z o → Sat (k o) Q) : Sat (cl m k) Q := by
  obtain ⟨o, e, z⟩ := S
  exact s_val e (H o e z)
theorem s_dI0 {m : Option (Int32 × Hp)} {k : Int32 × Hp → Option β} (S : Sat m (ZI0 h lo hi)) (H : ∀ o, m = some o → o.2 = h → Rg lo hi o.1 → Sat (k o) Q) : Sat (cl m k) Q := s_dd S fun o e ho => H o e ho.1 ho.2
theorem s_dJ0 {m : Option (Int64 × Hp)} {k : Int64 × Hp → Option β} (S : Sat m (ZJ0 h)) (H : ∀ o, m = some o → o.2 = h → Sat (k o) Q) : Sat (cl m k) Q := s_dd S fun o e ho => H o e ho
theorem s_dP0 {s : Int32} {P : Prop} {m : Option (Int32 × Hp)} {k : Int32 × Hp → Option β} (S : Sat m (ZP0 h lo hi s P)) (H : ∀ o, m = some o → o.2 = h → Rg lo hi o.1 → (¬ o.1 = s → P) → Sat (k o) Q) : Sat (cl m k) Q := s_dd S fun o e ho => H o e ho.1 ho.2.1 ho.2.2
theorem s_dI0q {P : Int32 × Hp → Prop} {m : Option (Int32 × Hp)} {k : Int32 × Hp → Option β} (Z : Sat m (ZQ (ZI0 h lo hi) P)) (H : ∀ o, m = some o → o.2 = h → Rg lo hi o.1 → P o → Sat (k o) Q) : Sat (cl m k) Q := s_dd Z fun o e ho => H o e ho.1.1 ho.1.2 ho.2
theorem s_dP0q {s : Int32} {R : Prop} {P : Int32 × Hp → Prop} {m : Option (Int32 × Hp)} {k : Int32 × Hp → Option β} (Z : Sat m (ZQ (ZP0 h lo hi s R) P)) (H : ∀ o, m = some o → o.2 = h → Rg lo hi o.1 → (¬ o.1 = s → R) → P o → Sat (k o) Q) : Sat (cl m k) Q := s_dd Z fun o e ho => H o e ho.1.1 ho.1.2.1 ho.1.2.2 ho.2
end
theorem p1_or {x s e : Int32} {lo hi : Int} (p : ¬ x = s → Rg lo hi e) : x.toInt = s.toInt ∨ (lo ≤ e.toInt ∧ e.toInt ≤ hi) := by
  by_cases h : x = s
  · exact Or.inl (by rw [h])
  · exact Or.inr (p h)
theorem cat_m {c : Cm} {S : Nat → Nat → Nat → Bool} {h : Hp} {j : Nat} (m : c.2.1 j = true) : (cat c S h).2.1 j = true := m
theorem he_sq {h h2 : Hp} {a b j : Nat} {v : Int32} (q : b = a) (e : h2 = wI h b j v) : hI h2 a j = v := by
  rw [e, r_I, if_pos ⟨q.symm, rfl⟩]
/-- a reference that is never null is set to another one of its kind -/
theorem th_wRk {ρ : Nat → Nat} {c : Cm} {h : Hp} (T : TH ρ c h) {a k i k2 q : Nat} (e : ρ a = k) (hk : rfK k i = k2) (h3 : k2 ≠ 0) (hq : ρ q = k2) (n1 : k ≠ 10) (n2 : k ≠ 4) (n3 : rfN k i = 0) (n6 : nid k i = 0) (n4 : inh k = false) (n5 : kid k i = 0) (hw : cPm c k (cw c a) i = true) : TH ρ c (wR h a i (some q)) := by
  obtain ⟨⟨t1, t2, t3, t4, t5, t6, t7, t8, t9⟩, ⟨o1, o2, o3, o4⟩, f⟩ := T
  refine ⟨⟨t1, t2, fun b l hb => ?_, fun b l hb r hr => ?_, t5, fun t tb ht hr => ?_, ⟨fun p q' i' a' hi' hp hq' h1 h2 => ?_, fun p on of hp ho hf => ?_⟩, fun b l hb hm => ?_, t9⟩, ⟨fun b l r hb hr => ?_, fun b l r hb hr => ?_, o3, fun b l r hb hr => ?_⟩, fr_wR f e hw⟩
  · rw [r_R]
    by_cases w : b = a ∧ l = i
    · rw [if_pos w]; exact ⟨q, rfl, by rw [w.1, w.2, e, hk, hq]⟩
    · rw [if_neg w]; exact t3 b l hb
  · rw [r_R, if_neg (fun w => hb (by rw [w.1, w.2, e, n3]))] at hr
    exact t4 b l hb r hr
  · rw [r_R, if_neg (fun w => n1 (by rw [← e, ← w.1, ht]))] at hr
    exact t6 t tb ht hr
  · rw [r_R, if_neg (fun w => n2 (by rw [← e, ← w.1, hp]))] at h1
    rw [r_R, if_neg (fun w => n2 (by rw [← e, ← w.1, hq']))] at h2
    exact t7.1 p q' i' a' hi' hp hq' h1 h2
  · rw [r_R, if_neg (fun w => n2 (by rw [← e, ← w.1, hp]))] at ho hf
    exact t7.2 p on of hp ho hf
  · rw [r_R, if_neg (fun w => hb (by rw [w.1, w.2, e, n6]))]
    exact t8 b l hb hm
  · rw [r_R, if_neg (fun w => by rw [w.1, e, n4] at hb; exact absurd hb (by decide))] at hr
    exact o1 b l r hb hr
  · rw [r_R, if_neg (fun w => hb (by rw [w.1, w.2, e, n5]))] at hr
    exact o2 b l r hb hr
  · rw [r_R] at hr
    by_cases w : b = a ∧ l = i
    · rw [if_pos w] at hr
      rw [← Option.some.inj hr]
      exact o3 q (by rw [hq]; exact h3)
    · rw [if_neg w] at hr
      exact o4 b l r hb hr
theorem ti_shr1 {x : Int32} : (x >>> ((1 : Int32) &&& 31)).toInt = x.toInt / 2 := by
  have := Jvm.RoadKit.c_ishr x 1 1 rfl
  simpa using this
theorem g_len_i {x y : Int32} {h : Hp} {r n : Nat} (h1 : 0 ≤ x.toInt) (h2 : 0 ≤ y.toInt) (hn : hN h r = n) (e : x.toInt + y.toInt ≤ (n : Int)) : x.toNatClampNeg + y.toNatClampNeg ≤ hN h r := by
  obtain ⟨j, ej, tj, hj⟩ := rg_nI (a := x.toInt) (b := x.toInt) (x := x) ⟨Int.le_refl _, Int.le_refl _⟩ h1
  obtain ⟨k, ek, tk, hk⟩ := rg_nI (a := y.toInt) (b := y.toInt) (x := y) ⟨Int.le_refl _, Int.le_refl _⟩ h2
  have a1 : x.toNatClampNeg = j := by rw [ej, z_clamp hj]
  have a2 : y.toNatClampNeg = k := by rw [ek, z_clamp hk]
  rw [hn, a1, a2]
  omega
