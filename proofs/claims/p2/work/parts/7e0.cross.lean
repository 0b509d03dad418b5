/-! what the one side leaves of the other -/
section
variable {ρ ρ1 : Nat → Nat} {c c1 : Cm} {h o : Hp} {S : Nat → Nat → Nat → Bool} {m : Nat}
theorem exm_f (T : TH ρ c h) (X : ExM ρ (cat c S h) ρ1 c1) (T1 : TH ρ1 c1 o) : Fr ρ (cat c S h) h o := by
  have lt : ∀ a, ρ a ≠ 0 → a < h.1.1 := fun a ha => by rw [T.1.1]; exact T.2.1.2.2.1 a ha
  have g : FrG ρ1 c1 (c0 c1) o := T1.2.2
  have e0 : c0 c1 = h := by show c1.2.2.2.2 = h; rw [X.2.1]; rfl
  rw [e0] at g
  refine ⟨fun a i h0 hs => g.2.1 a i (lt a h0) (by rw [(X.1 a h0).1]; exact h0) ?_, fun a h0 => g.2.2 a (lt a h0) (by rw [(X.1 a h0).1]; exact h0)⟩
  show c1.2.2.2.1 (ρ1 a) (cw c1 a) i = false
  rw [X.2.1, (X.1 a h0).1, (X.1 a h0).2]
  exact hs
/-- what a call of the class may write -/
def clSf : Nat → Nat → Nat → Bool := fun k _ _ => clR k
/-- what a call of the reference may write -/
def rfSf : Nat → Nat → Nat → Bool := fun k _ _ => rfR k
theorem cl_bad : ∀ k w i, badR k w i = true → clSf k w i = false := fun k w i b => by
  unfold badR at b
  simp at b
  have : k = 16 ∨ k = 84 ∨ k = 85 ∨ k = 90 ∨ k = 91 ∨ k = 92 ∨ k = 95 ∨ k = 96 ∨ k = 97 ∨ k = 99 ∨ k = 100 ∨ k = 101 ∨ k = 106 ∨ k = 107 ∨ k = 13 ∨ k = 62 ∨ k = 63 ∨ k = 64 := by omega
  rcases this with z | z | z | z | z | z | z | z | z | z | z | z | z | z | z | z | z | z <;> subst z <;> rfl
/-- a call of the class leaves the reference -/
theorem x_ref {na nd ng nf : Nat} (T : TH ρ c h) (X : ExM ρ (cat c clSf h) ρ1 c1) (T1 : TH ρ1 c1 o) (r0 : ρ m = 16) (P : RfI m h) (ha : dA m h na) (hd : dD m h nd) (hg : dG m h ng) (hf : dF m h nf) : RfI m o ∧ dA m o na ∧ dD m o nd ∧ dG m o ng ∧ dF m o nf ∧ d52 m o = d52 m h ∧ TpR m h o ∧ ρ1 m = 16 := by
  have f := exm_f T X T1
  exact ⟨rfi_f T r0 f cl_bad P, da_f T r0 f (fun _ => rfl) (fun _ _ => rfl) ha, dd_f T r0 f (fun _ => rfl) (fun _ _ => rfl) hd, dg_f T r0 f (fun _ => rfl) (fun _ _ => rfl) hg, df_f T r0 f (fun _ => rfl) (fun _ _ => rfl) hf, d52_f r0 f (fun _ => rfl), (fr_RI f r0 (by decide) (fun _ => rfl)).1, by rw [(X.1 m (by rw [r0]; decide)).1]; exact r0⟩
/-- a call of the reference leaves the class -/
theorem x_cls {n : Nat} (T : TH ρ c h) (X : Ext ρ (cat c rfSf h) ρ1 c1) (T1 : TH ρ1 c1 o) (r0 : ρ n = 12) (I : ClI ρ c n h) : ClI ρ1 c1 n o ∧ Tp n h o ∧ ρ1 n = 12 := by
  have f := ex_f T X T1
  have cr : ∀ k, clS k = true → rfR k = false := fun k z => by
    have := clS_c z
    rcases this with z | z | z | z | z | z | z | z | z | z | z | z | z | z | z | z | z | z | z | z | z | z <;> subst z <;> rfl
  have I2 : ClI ρ c n o := ci_f T r0 f (fun k w i z _ _ _ => cr k z) (fun k w i z _ => cr k z) I
  have r1 : ρ1 n = 12 := by rw [(X.1 n (by rw [r0]; decide)).1]; exact r0
  refine ⟨ci_x (c := cat c rfSf h) (th_in _ T) r0 X T1 I2, fun t et => ?_, r1⟩
  have qt := rr T (thR T r0 (i := 0) (k2 := 10) rfl (by decide)) et
  exact ⟨by rw [(fr_RI f r0 (by decide) (fun _ => rfl)).2.2]; exact et, (fr_RI f qt (by decide) (fun _ => rfl)).1⟩
end
