/-- the bits of x stand on men of the position that the moves object x0 works on -/
def OnMen (x0 : Nat) (x : Int64) (h : Hp) : Prop := ∀ p on s, hR h x0 4 = some p → hR h p 0 = some on → s < 64 → bitJ x s = true → 0 ≤ (hI h on s).toInt
section
variable {ρ : Nat → Nat} {c : Cm} {h h2 : Hp} {x0 a i : Nat} {x : Int64}
theorem om_e (e : h2 = h) (K : OnMen x0 x h) : OnMen x0 x h2 := e ▸ K
theorem om_j {v : Int64} (e : h2 = wJ h a i v) (K : OnMen x0 x h) : OnMen x0 x h2 := fun p on s h1 h3 hs hb => by
  rw [e] at h1 h3 ⊢
  exact K p on s h1 h3 hs hb
theorem om_w {v : Int32} (T : TH ρ c h) (r0 : ρ x0 = 6) (e : h2 = wI h a i v) (q : ρ a ≠ 34) (K : OnMen x0 x h) : OnMen x0 x h2 := fun p on s h1 h3 hs hb => by
  rw [e] at h1 h3 ⊢
  have hp : ρ p = 4 := thRn T r0 (i := 4) (k2 := 4) rfl (by decide) h1
  obtain ⟨r, e1, e2⟩ := thR T hp (i := 0) (k2 := 34) rfl (by decide)
  have h3' : hR h p 0 = some on := h3
  have ho : ρ on = 34 := by rw [e1] at h3'; rw [← Option.some.inj h3', e2]
  rw [r_I, if_neg (fun w => q (by rw [← w.1, ho]))]
  exact K p on s h1 h3 hs hb
theorem om_rest (hx : ¬ x = 0) (K : OnMen x0 x h) : OnMen x0 (x ^^^ (x &&& (-x))) h := fun p on s h1 h3 hs hb => K p on s h1 h3 hs (bj_rest hx hb)
theorem om_start {p of d : Nat} (T : TH ρ c h) (r0 : ρ x0 = 6) (h1 : hR h x0 4 = some p) (h3 : hR h p 1 = some of) (hd : d < 2) : OnMen x0 (hJ h of d) h := fun p' on s g1 g3 hs hb => by
  rw [h1] at g1
  have : p' = p := (Option.some.inj g1).symm
  subst this
  have hp : ρ p' = 4 := thRn T r0 (i := 4) (k2 := 4) rfl (by decide) h1
  exact (th_ps T hp g3 h3 hs hd hb).1
end
