/-! positions a move before (class) -/
theorem gq_one {q : Bool} {s t m k : Int32} (is' : Rg 0 63 s) (it : Rg 0 63 t) (im : Rg 0 11 m) (ik : Rg 0 11 k ∨ k = 15) (qs : SqB q s) (qt : SqB q t) : GMq q (((s ||| (t <<< ((6 : Int32) &&& 31))) ||| (m <<< ((12 : Int32) &&& 31))) ||| (k <<< ((16 : Int32) &&& 31))) := by
  have ik15 : Rg 0 15 k := by
    rcases ik with z | z
    · exact rg_m z (by decide)
    · rw [z]; exact rg_b rfl
  have a : (fd 12 s = 0 ∧ fd 16 s = 0 ∧ fd 20 s = 0) ∧ s &&& (63 : Int32) = s ∧ (s >>> ((6 : Int32) &&& 31)) &&& (63 : Int32) = 0 := small (P := fun s => (fd 12 s = 0 ∧ fd 16 s = 0 ∧ fd 20 s = 0) ∧ s &&& (63 : Int32) = s ∧ (s >>> ((6 : Int32) &&& 31)) &&& (63 : Int32) = 0) (n := 63) is' (by decide) (by decide +kernel)
  have b : (fd 12 (t <<< ((6 : Int32) &&& 31)) = 0 ∧ fd 16 (t <<< ((6 : Int32) &&& 31)) = 0 ∧ fd 20 (t <<< ((6 : Int32) &&& 31)) = 0) ∧ (t <<< ((6 : Int32) &&& 31)) &&& (63 : Int32) = 0 ∧ ((t <<< ((6 : Int32) &&& 31)) >>> ((6 : Int32) &&& 31)) &&& (63 : Int32) = t := small (P := fun t => (fd 12 (t <<< ((6 : Int32) &&& 31)) = 0 ∧ fd 16 (t <<< ((6 : Int32) &&& 31)) = 0 ∧ fd 20 (t <<< ((6 : Int32) &&& 31)) = 0) ∧ (t <<< ((6 : Int32) &&& 31)) &&& (63 : Int32) = 0 ∧ ((t <<< ((6 : Int32) &&& 31)) >>> ((6 : Int32) &&& 31)) &&& (63 : Int32) = t) (n := 63) it (by decide) (by decide +kernel)
  have c : (fd 12 (m <<< ((12 : Int32) &&& 31)) = m ∧ fd 16 (m <<< ((12 : Int32) &&& 31)) = 0 ∧ fd 20 (m <<< ((12 : Int32) &&& 31)) = 0) ∧ (m <<< ((12 : Int32) &&& 31)) &&& (63 : Int32) = 0 ∧ ((m <<< ((12 : Int32) &&& 31)) >>> ((6 : Int32) &&& 31)) &&& (63 : Int32) = 0 := small (P := fun m => (fd 12 (m <<< ((12 : Int32) &&& 31)) = m ∧ fd 16 (m <<< ((12 : Int32) &&& 31)) = 0 ∧ fd 20 (m <<< ((12 : Int32) &&& 31)) = 0) ∧ (m <<< ((12 : Int32) &&& 31)) &&& (63 : Int32) = 0 ∧ ((m <<< ((12 : Int32) &&& 31)) >>> ((6 : Int32) &&& 31)) &&& (63 : Int32) = 0) (n := 11) im (by decide) (by decide +kernel)
  have d : (fd 12 (k <<< ((16 : Int32) &&& 31)) = 0 ∧ fd 16 (k <<< ((16 : Int32) &&& 31)) = k ∧ fd 20 (k <<< ((16 : Int32) &&& 31)) = 0) ∧ (k <<< ((16 : Int32) &&& 31)) &&& (63 : Int32) = 0 ∧ ((k <<< ((16 : Int32) &&& 31)) >>> ((6 : Int32) &&& 31)) &&& (63 : Int32) = 0 := small (P := fun k => (fd 12 (k <<< ((16 : Int32) &&& 31)) = 0 ∧ fd 16 (k <<< ((16 : Int32) &&& 31)) = k ∧ fd 20 (k <<< ((16 : Int32) &&& 31)) = 0) ∧ (k <<< ((16 : Int32) &&& 31)) &&& (63 : Int32) = 0 ∧ ((k <<< ((16 : Int32) &&& 31)) >>> ((6 : Int32) &&& 31)) &&& (63 : Int32) = 0) (n := 15) ik15 (by decide) (by decide +kernel)
  have o0 : (0 : Int32) ||| 0 = 0 := by decide
  refine ⟨⟨?_, ?_, ?_⟩, ?_, ?_⟩
  · rw [fd_or, fd_or, fd_or, a.1.1, b.1.1, c.1.1, d.1.1, o0, or_l, or_0]; exact im
  · rw [fd_or, fd_or, fd_or, a.1.2.1, b.1.2.1, c.1.2.1, d.1.2.1, o0, o0, or_l]; exact ik
  · rw [fd_or, fd_or, fd_or, a.1.2.2, b.1.2.2, c.1.2.2, d.1.2.2, o0, o0, o0]; exact Or.inl (rg_b rfl)
  · rw [lo_or, lo_or, lo_or, a.2.1, b.2.1, c.2.1, d.2.1, or_0, or_0, or_0]; exact qs
  · rw [sh_or, sh_or, sh_or, lo_or, lo_or, lo_or, a.2.2, b.2.2, c.2.2, d.2.2, or_l, or_0, or_0]; exact qt
/-- copying brings PASS along -/
theorem cf9_17 {ρ : Nat → Nat} {F x0 x1 : Nat} (r0 : ρ x0 = 4) (r1 : ρ x1 = 4) : ∀ (f : Nat) {h o : Hp} {x2 : Int32}, (∀ r, hR h x0 1 = some r → ρ r = 35) → (∀ r, hR h x0 3 = some r → ρ r = 37) → sX3_copyFrom_17 F f h x0 x1 x2 = some o → hJ o x0 9 = hJ h x1 9 := by
  intro f
  induction f with
  | zero => intro h o x2 _ _ e; exact absurd e (by rw [sX3_copyFrom_17]; exact fun z => nomatch z)
  | succ f ih =>
    intro h o x2 k1 k3 e
    rw [sX3_copyFrom_17] at e
    rcases br_s e with ⟨_, e⟩ | ⟨_, e⟩
    · rw [← Option.some.inj e]
      rw [r_J, if_neg (fun z => absurd z.2 (by decide)), r_J, if_pos ⟨rfl, rfl⟩, r_J, if_neg (fun z => absurd z.2 (by decide))]
      rfl
    · obtain ⟨r7, e7, e⟩ := cl_s e
      obtain ⟨r8, e8, e⟩ := cl_s e
      replace e := (gd_s (gd_s e).2).2
      obtain ⟨r12, e12, e⟩ := cl_s e
      obtain ⟨r13, e13, e⟩ := cl_s e
      replace e := (gd_s (gd_s e).2).2
      obtain ⟨r17, e17, e⟩ := cl_s e
      obtain ⟨r18, e18, e⟩ := cl_s e
      replace e := (gd_s (gd_s e).2).2
      obtain ⟨r22, e22, e⟩ := cl_s e
      obtain ⟨r23, e23, e⟩ := cl_s e
      replace e := (gd_s (gd_s e).2).2
      have q7 := k1 r7 e7
      have q17 := k3 r17 e17
      have n7 : ∀ j, ¬ (x1 = r7 ∧ (9 : Nat) = j) := fun j z => by rw [← z.1, r1] at q7; exact absurd q7 (by decide)
      have n17 : ∀ j, ¬ (x1 = r17 ∧ (9 : Nat) = j) := fun j z => by rw [← z.1, r1] at q17; exact absurd q17 (by decide)
      refine (ih (fun r er => ?_) (fun r er => ?_) e).trans ?_
      · exact k1 r er
      · exact k3 r er
      show hJ (wJ _ r17 _ _) x1 9 = _
      rw [r_J, if_neg (n17 _)]
      show hJ (wJ _ r7 _ _) x1 9 = _
      rw [r_J, if_neg (n7 _)]
theorem cf9 {ρ : Nat → Nat} {c : Cm} {F : Nat} {h o : Hp} {x0 x1 : Nat} (T : TH ρ c h) (r0 : ρ x0 = 4) (r1 : ρ x1 = 4) (e : sX3_copyFrom F h x0 x1 = some o) : hJ o x0 9 = hJ h x1 9 := by
  unfold sX3_copyFrom at e
  obtain ⟨r1', e1, e⟩ := cl_s e
  obtain ⟨r2, e2, e⟩ := cl_s e
  replace e := (gd_s (gd_s (gd_s (gd_s (gd_s (gd_s e).2).2).2).2).2).2
  refine (cf9_17 (ρ := ρ) r0 r1 F (fun r er => ?_) (fun r er => ?_) e).trans ?_
  · exact rr T (thR T r0 (i := 1) (k2 := 35) rfl (by decide)) er
  · exact rr T (thR T r0 (i := 3) (k2 := 37) rfl (by decide)) er
  · rfl
theorem st9 {ρ : Nat → Nat} {c : Cm} {F : Nat} {h o : Hp} {x0 : Nat} (T : TH ρ c h) (r0 : ρ x0 = 4) (e : sX3_strip F h x0 = some o) : hJ o x0 9 = 0 := by
  unfold sX3_strip at e
  obtain ⟨r4, e4, e⟩ := cl_s e
  obtain ⟨o5, e5, e⟩ := cl_s e
  obtain ⟨r6, e6, e⟩ := cl_s e
  obtain ⟨o7, e7, e⟩ := cl_s e
  have q4 : ρ r4 = 37 := rr T (thR T r0 (i := 3) (k2 := 37) rfl (by decide)) e4
  unfold sJ7_fill_d0a16 at e5
  unfold sJ7_fill_53178 at e7
  have n4 : hN (wJ (wJ (wJ h x0 10 (0 : Int64)) x0 9 (0 : Int64)) x0 8 (0 : Int64)) r4 = 2 := thN T q4 (k := 37) (n := 2) rfl (by decide)
  have e5' : sJ7_fill_d0a16_6 F F (wJ (wJ (wJ h x0 10 (0 : Int64)) x0 9 (0 : Int64)) x0 8 (0 : Int64)) r4 (0 : Int64) (0 : Int32) (nI 2) = some o5 := by rw [← n4]; exact e5
  obtain ⟨u5, _, _⟩ := fJv (by decide) F (by decide) e5'
  rw [← Option.some.inj e]
  show hJ o7 x0 9 = 0
  rw [fI_J F e7, u5 x0 9 (fun z => by rw [← z, r0] at q4; exact absurd q4 (by decide)), r_J, if_neg (fun z => absurd z.2 (by decide)), r_J, if_pos ⟨rfl, rfl⟩]
theorem nm_s {α β : Type} {x : α} {k : α → Option β} {o : β} (e : nm x k = some o) : ∃ y, y = x ∧ k y = some o := ⟨x, rfl, e⟩
/-- origins are squares of the row -/
theorem or_in {B : Int64} {F x0 : Nat} {x4 x9 x13 : Int64} {x8 x11 x12 x16 : Int32} {K : Hp → Nat → Int64 → Int64 → Int32 → Int64 → Int32 → Int32 → Option (Int64 × Hp)} (b13 : ∀ s, bitJ x13 s = true → bitJ B s = true) (R : ∀ {h : Hp} {o : Int64 × Hp} {y : Int64} {v : Int32}, (∀ s, bitJ y s = true → bitJ B s = true) → K h x0 x4 y x8 x9 x11 v = some o → ∀ s, bitJ o.1 s = true → bitJ B s = true) : ∀ (f : Nat) {h : Hp} {o : Int64 × Hp} {x6 : Int64} {x17 : Int32}, (∀ s, bitJ x6 s = true → bitJ B s = true) → sX10_origins_116 F K f h x0 x4 x6 x8 x9 x11 x12 x13 x16 x17 = some o → ∀ s, bitJ o.1 s = true → bitJ B s = true := by
  intro f
  induction f with
  | zero => intro h o x6 x17 _ e; exact absurd e (by rw [sX10_origins_116]; exact fun z => nomatch z)
  | succ f ih =>
    intro h o x6 x17 b6 e
    rw [sX10_origins_116] at e
    unfold sX10_origins_157 at e
    rcases br_s e with ⟨_, e⟩ | ⟨_, e⟩
    · exact R b6 e
    obtain ⟨_, _, e⟩ := cl_s e
    replace e := (gd_s e).2
    rcases br_s e with ⟨_, e⟩ | ⟨_, e⟩
    · obtain ⟨o6, _, e⟩ := cl_s e
      rcases br_s e with ⟨_, e⟩ | ⟨_, e⟩
      · exact ih b6 e
      · exact ih (x6 := x6 ||| x13) (fun s hs => by
          rw [bj_or, Bool.or_eq_true] at hs
          exact hs.elim (b6 s) (b13 s)) e
    · exact ih b6 e
theorem or_45 {B : Int64} {F x0 : Nat} {x4 : Int64} {x8 x11 : Int32} : ∀ (f : Nat) {h : Hp} {o : Int64 × Hp} {x6 x9 : Int64} {x12 : Int32}, (∀ s, bitJ x6 s = true → bitJ B s = true) → (∀ s, bitJ x9 s = true → bitJ B s = true) → sX10_origins_45 F f h x0 x4 x6 x8 x9 x11 x12 = some o → ∀ s, bitJ o.1 s = true → bitJ B s = true := by
  intro f
  induction f with
  | zero => intro h o x6 x9 x12 _ _ e; exact absurd e (by rw [sX10_origins_45]; exact fun z => nomatch z)
  | succ f ih =>
    intro h o x6 x9 x12 b6 b9 e
    rw [sX10_origins_45] at e
    unfold sX10_origins_169 at e
    rcases br_s e with ⟨_, e⟩ | ⟨_, e⟩
    · rw [← Option.some.inj e]; exact b6
    rcases br_s e with ⟨_, e⟩ | ⟨_, e⟩
    · rw [← Option.some.inj e]; exact b6
    obtain ⟨v3, e3, e⟩ := nm_s e
    obtain ⟨v4, e4, e⟩ := nm_s e
    replace e := (gd_s e).2
    obtain ⟨v6, e6, e⟩ := nm_s e
    obtain ⟨_, _, e⟩ := cl_s e
    replace e := (gd_s e).2
    obtain ⟨v9, e9, e⟩ := nm_s e
    obtain ⟨_, _, e⟩ := cl_s e
    replace e := (gd_s e).2
    obtain ⟨v12, e12, e⟩ := nm_s e
    clear e6
    have b3 : ∀ s, bitJ (x9 &&& (-x9)) s = true → bitJ x9 s = true := fun s hs => by
      rw [bj_and, Bool.and_eq_true] at hs; exact hs.1
    have b4 : ∀ s, bitJ (x9 ^^^ (x9 &&& (-x9))) s = true → bitJ x9 s = true := fun s hs => by
      rw [bj_xor] at hs
      cases q : bitJ x9 s with
      | true => rfl
      | false =>
        have : bitJ (x9 &&& (-x9)) s = false := by rw [bj_and, q, Bool.false_and]
        rw [q, this] at hs
        exact absurd hs (by decide)
    exact or_in (fun s hs => b9 s (b3 s (by rw [← e3]; exact hs))) (fun b6 e => ih b6 (fun s hs => b9 s (b4 s (by rw [← e3, ← e4]; exact hs))) e) F b6 e
theorem or_sub {F x0 a3 : Nat} {h : Hp} {o : Int64 × Hp} {x1 x2 x3 : Int32} {x4 : Int64} (e3 : hR h x0 3 = some a3) (e : sX10_origins F h x0 x1 x2 x3 x4 = some o) : ∀ s, bitJ o.1 s = true → bitJ (hJ h a3 ((x1 * (64 : Int32)) + x2).toNatClampNeg) s = true := by
  have b12 : ∀ {t : Int32}, sX10_origins_12 F h x0 x1 x2 x4 (0 : Int64) t = some o → ∀ s, bitJ o.1 s = true → bitJ (hJ h a3 ((x1 * (64 : Int32)) + x2).toNatClampNeg) s = true := fun e => by
    unfold sX10_origins_12 at e
    obtain ⟨r1, e1, e⟩ := cl_s e
    replace e := (gd_s e).2
    obtain ⟨o4, _, e⟩ := cl_s e
    have : r1 = a3 := r_eq e3 e1
    subst this
    exact or_45 F (fun s hs => by rw [bj_zero] at hs; exact absurd hs (by decide)) (fun s hs => by
      rw [bj_and, Bool.and_eq_true] at hs; exact hs.1) e
  unfold sX10_origins at e
  rcases br_s e with ⟨_, e⟩ | ⟨_, e⟩
  · exact b12 e
  · exact b12 e
/-- the lowest square of a row is one of it -/
theorem low_in {h : Hp} {x : Int64} {o : Int32 × Hp} (e : sX11_lowest h x = some o) (nz : ¬ lg_cmp x (0 : Int64) = 0) : bitJ x o.1.toNatClampNeg = true := by
  unfold sX11_lowest at e
  rw [← Option.some.inj (gd_s e).2]
  exact sq_bit (cmp0 nz)
