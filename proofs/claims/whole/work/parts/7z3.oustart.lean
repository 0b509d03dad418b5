/-! the start: nothing is given out -/
def ckOC (q : Qs) : Bool := decide (cI q 3 1 = 0)
def ckOD (q : Qs) : Bool := decide (cI q 0 3 = 0)
theorem evOC : okQ (kdX11_init 2000000 (qq0 11 18) 0) ckOC = true := by decide +kernel
theorem evOD : okQ (kcX15_init 2000000 (qq0 15 71) 0) ckOD = true := by decide +kernel
theorem s_oue {n : Nat} {o v : Hp} (σ : Sy) (e1 : sX11_init 2000000 (nC (h00 n) 11 0 18) n = some o) (e2 : sX15_init 2000000 (nC o 15 0 71) (n + 513) = some v) : OuE n v := by
  obtain ⟨o15, q, ek, el, ei, cf, o1, tp⟩ := c_start n
  have yo : o = wI o15 (n + 1) 1 0 := Option.some.inj (e1.symm.trans ei)
  rw [← yo] at cf o1 tp
  obtain ⟨ck, cI', _, cN', cR'⟩ := cf
  obtain ⟨q', eq', SA⟩ := okQ_e evOC
  have yq : q' = q := Option.some.inj (eq'.symm.trans ek)
  rw [yq] at SA
  obtain ⟨b, eb, SB⟩ := okQ_e evOD
  have os : hS o = n + 513 := congrArg Prod.fst o1
  have e0 : nC o 15 0 71 = rel o (qq0 15 71) := by
    have := l_nC o ((0, 0), []) 15 0 71
    rw [← top_rel tp] at this
    exact this
  have e3 := e_X15_init (u := o) (F := 2000000) (h := qq0 15 71) (x0 := 0)
  rw [eb] at e3
  have ev : v = rel o b := by
    have : sX15_init 2000000 (nC o 15 0 71) (hS o) = some (rel o b) := by rw [e0]; exact e3
    rw [os] at this
    exact Option.some.inj (e2.symm.trans this)
  have z3 : hI v (n + 3) 1 = 0 := by
    rw [ev, (rel_lo o b (b := n + 3) (by omega)).2.2.1, cI' 3 (by decide) (by decide) (by decide)]
    exact of_decide_eq_true SA
  have z513 : hI v (n + 513) 3 = 0 := by
    have := l_I o b 0 3
    rw [os] at this
    rw [ev]
    exact this.trans (of_decide_eq_true SB)
  exact ⟨σ, [], ⟨by rw [z3]; rfl, fun i hi => absurd hi (Nat.not_lt_zero _)⟩, ⟨by rw [z513]; rfl, fun i hi => absurd hi (Nat.not_lt_zero _)⟩⟩
