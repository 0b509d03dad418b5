/-! the start, with no problem -/
def ckSC (q : Qs) : Bool := decide (cI q 76 14 = 0) && decide (cI q 76 15 = 0)
def ckSD (q : Qs) : Bool := (List.range 60).all (fun p => decide (cI q 24 p = 0)) && (decide (cI q 0 65 = 0) && decide (cI q 0 16 = 0))
theorem evSC : okQ (kdX11_init 2000000 (qq0 11 18) 0) ckSC = true := by decide +kernel
theorem evSD : okQ (kcX15_init 2000000 (qq0 15 71) 0) ckSD = true := by decide +kernel
/-- no problem on either side -/
theorem jp_n {n j : Nat} {v : Hp} (J : JI n j v) (c1 : hI v (n + 76) 14 = 0 ∧ hI v (n + 76) 15 = 0) (c2 : (hI v (n + 513) 65).toInt ≤ (hI v (n + 513) 16).toInt) (c3 : (hI v (n + 513) 65).toInt ≤ 0 ∨ ((0 ≤ (hI v (n + 513) 64).toInt ∧ (hI v (n + 513) 64).toInt < 60) ∧ ¬ hI v (n + 537) (hI v (n + 513) 64).toNatClampNeg = hI v (n + 513) 65)) (B : SerB n v) : JP n j v := by
  obtain ⟨k, tz, σ, l1, l2, Ok, C, R⟩ := J
  exact ⟨k, ⟨tz, B⟩, σ, l1, l2, none, Ok, C, R, c1, ⟨c2, c3⟩, trivial⟩
theorem s_jp {n : Nat} {o v : Hp} {L : Nat × Nat} (e1 : sX11_init 2000000 (nC (h00 n) 11 0 18) n = some o) (e2 : sX15_init 2000000 (nC o 15 0 71) (n + 513) = some v) (I : SI n (n + 513) L v) : JP n 0 v := by
  have J := s_joint e1 e2 I
  have z0 : (0 : Int32).toInt = 0 := rfl
  obtain ⟨o15, q, ek, el, ei, cf, o1, tp⟩ := c_start n
  have yo : o = wI o15 (n + 1) 1 0 := Option.some.inj (e1.symm.trans ei)
  rw [← yo] at cf o1 tp
  obtain ⟨ck, cI', _, cN', cR'⟩ := cf
  obtain ⟨q', eq', SA⟩ := okQ_e evSC
  have yq : q' = q := Option.some.inj (eq'.symm.trans ek)
  rw [yq] at SA
  obtain ⟨b, eb, SB⟩ := okQ_e evSD
  obtain ⟨b', eb', CB⟩ := okQ_e evB
  have yb : b' = b := Option.some.inj (eb'.symm.trans eb)
  rw [yb] at CB
  have os : hS o = n + 513 := congrArg Prod.fst o1
  -- the reference's heap
  have e0 : nC o 15 0 71 = rel o (qq0 15 71) := by
    have := l_nC o ((0, 0), []) 15 0 71
    rw [← top_rel tp] at this
    exact this
  have e3 := e_X15_init (u := o) (F := 2000000) (h := qq0 15 71) (x0 := 0)
  rw [eb] at e3
  have ev : v = rel o b := by
    have : sX15_init 2000000 (nC o 15 0 71) (hS o) = some (rel o b) := by rw [e0]; exact e3
    rw [os] at this
    exact Option.some.inj (e2.symm.trans this)
  have lo : ∀ {a : Nat}, a < 513 → hN v (n + a) = hN o (n + a) ∧ hI v (n + a) = hI o (n + a) ∧ hJ v (n + a) = hJ o (n + a) ∧ hR v (n + a) = hR o (n + a) := fun {a} l => by
    rw [ev]
    exact (rel_lo o b (b := n + a) (by omega)).2
  have hiI : ∀ a i, hI v (n + (513 + a)) i = cI b a i := fun a i => by
    have := l_I o b a i
    rw [os] at this
    rw [ev, show n + (513 + a) = n + 513 + a by omega]; exact this
  have lo : ∀ {a : Nat}, a < 513 → hI v (n + a) = hI o (n + a) := fun {a} l => by
    rw [ev]
    exact (rel_lo o b (b := n + a) (by omega)).2.2.1
  unfold ckSC at SA
  unfold ckSD at SB
  simp only [Bool.and_eq_true, decide_eq_true_eq, List.all_eq_true, List.mem_range] at SA SB
  obtain ⟨b1, b2, b3⟩ := SB
  have aI : ∀ i, hI v (n + 76) i = cI q 76 i := fun i => by
    rw [lo (by decide), cI' 76 (by decide) (by decide) (by decide)]
  have f65 : hI v (n + 513) 65 = 0 := (hiI 0 65).trans b2
  have f16 : hI v (n + 513) 16 = 0 := (hiI 0 16).trans b3
  refine jp_n J ⟨by rw [aI]; exact SA.1, by rw [aI]; exact SA.2⟩ (by rw [f65, f16]; exact Int.le_refl _) (Or.inl (by rw [f65]; exact Int.le_refl _)) (fun p hp => ?_)
  rw [f16, show hI v (n + 537) p = 0 from (hiI 24 p).trans (b1 p hp)]
  exact Int.le_refl _
