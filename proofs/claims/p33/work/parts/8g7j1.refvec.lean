/-! the reference: its law as numbers; vectors -/
def lwR (V : Nat → Nat) (h : Hp) (k i : Nat) : Int := if k < 30 then (hI h (V 15) k).toInt else if 73 ≤ k ∧ k ≤ 81 then (hI h (V k) i).toInt else 0
def WRf (V : Nat → Nat) (h : Hp) : Prop := hR h (V 16) 4 = some (V 15) ∧ hR h (V 15) 3 = some (V 73) ∧ hR h (V 15) 4 = some (V 74) ∧ hR h (V 15) 5 = some (V 75) ∧ hR h (V 15) 6 = some (V 76) ∧ hR h (V 15) 7 = some (V 77) ∧ hR h (V 15) 8 = some (V 78) ∧ hR h (V 15) 9 = some (V 79) ∧ hR h (V 15) 13 = some (V 80) ∧ hR h (V 15) 14 = some (V 81)
def GRf (V : Nat → Nat) (h : Hp) (L : Nat → Nat → Int) : Prop := lwR V h = L ∧ (hI h (V 16) 11).toInt = L 0 0 ∧ (hI h (V 16) 12).toInt = L 1 0 ∧ (hI h (V 16) 13).toInt = L 0 0 * L 1 0
def RWd (V : Nat → Nat) (h : Hp) (L : Nat → Nat → Int) (M : Nat → Int) : Prop := WRf V h ∧ GRf V h L ∧ hR h (V 13) 0 = some (V 62) ∧ mV h (V 62) = M
abbrev wdx : List (Nat × Nat) := [(16, 23), (16, 24)]
section
variable {F : Nat} {V : Nat → Nat} {h o' : Hp} {L : Nat → Nat → Int} {M : Nat → Int} {o : Int32 × Hp} {Ls : List (Nat × Nat)}
theorem lwr_g (D : VD V) (A : FrV V (wl Ls) h o') (n : ∀ p, p ∈ Ls → p.1 ∈ vql ∧ ¬ p.1 = 15 ∧ ¬ (73 ≤ p.1 ∧ p.1 ≤ 81)) : lwR V o' = lwR V h := by
  funext k i
  unfold lwR
  by_cases c : k < 30
  · rw [if_pos c, if_pos c, fvI D A 15 k (fun p hp => (n p hp).2.1) (by decide) (fun p hp => (n p hp).1)]
  · rw [if_neg c, if_neg c]
    by_cases d : 73 ≤ k ∧ k ≤ 81
    · have all : ∀ j : Fin 9, (73 + j.val) ∈ vql := by decide
      have mk : k ∈ vql := by
        have := all ⟨k - 73, by omega⟩
        rw [show 73 + (k - 73) = k by omega] at this
        exact this
      rw [if_pos d, if_pos d, fvI D A k i (fun p hp z => (n p hp).2.2 (by rw [z]; exact d)) mk (fun p hp => (n p hp).1)]
    · rw [if_neg d, if_neg d]
theorem wrf_f {W : Nat → Nat → Bool} (P : WRf V h) (A : FrV V W h o') : WRf V o' := by
  obtain ⟨a, b, c, d, e, f, g, i, j, k⟩ := P
  exact ⟨by rw [A.1]; exact a, by rw [A.1]; exact b, by rw [A.1]; exact c, by rw [A.1]; exact d, by rw [A.1]; exact e, by rw [A.1]; exact f, by rw [A.1]; exact g, by rw [A.1]; exact i, by rw [A.1]; exact j, by rw [A.1]; exact k⟩
theorem rwd_f (D : VD V) (P : RWd V h L M) (A : FrV V (wl Ls) h o') (n : ∀ p, p ∈ Ls → p.1 ∈ vql ∧ ¬ p.1 = 15 ∧ ¬ (73 ≤ p.1 ∧ p.1 ≤ 81)) (n62 : ∀ p, p ∈ Ls → ¬ p.1 = 62) (n11 : wl Ls 16 11 = false) (n12 : wl Ls 16 12 = false) (n13 : wl Ls 16 13 = false) : RWd V o' L M := by
  obtain ⟨w, ⟨g1, g2, g3, g4⟩, b, m⟩ := P
  have hL : ∀ p, p ∈ Ls → p.1 ∈ vql := fun p hp => (n p hp).1
  refine ⟨wrf_f w A, ⟨by rw [lwr_g D A n]; exact g1, by rw [fvi D A 16 11 n11 (by decide) hL]; exact g2, by rw [fvi D A 16 12 n12 (by decide) hL]; exact g3, by rw [fvi D A 16 13 n13 (by decide) hL]; exact g4⟩, by rw [A.1]; exact b, ?_⟩
  rw [← m]
  funext s
  unfold mV
  rw [fvI D A 62 s n62 (by decide) hL]
theorem rwd_x (D : VD V) (P : RWd V h L M) (A : FrV V (wl wdx) h o') : RWd V o' L M := rwd_f D P A (by decide) (by decide) rfl rfl rfl
theorem lw_75 (P : RWd V h L M) (i : Nat) : (hI h (V 75) i).toInt = L 75 i ∧ (hI h (V 76) i).toInt = L 76 i ∧ (hI h (V 77) i).toInt = L 77 i ∧ (hI h (V 78) i).toInt = L 78 i ∧ (hI h (V 79) i).toInt = L 79 i ∧ (hI h (V 74) i).toInt = L 74 i := by
  rw [← P.2.1.1]
  exact ⟨rfl, rfl, rfl, rfl, rfl, rfl⟩
theorem lw_0 (P : RWd V h L M) {k : Nat} (hk : k < 30) (i : Nat) : (hI h (V 15) k).toInt = L k i := by
  rw [← P.2.1.1]
  unfold lwR
  rw [if_pos hk]
theorem ab7 {x : Int32} (i : Rg (-7) 7 x) : (if 0 ≤ x then x else 0 - x).toInt = (x.toInt.natAbs : Int) := by
  have z0 : (0 : Int32).toInt = 0 := rfl
  have a := i.1
  have b := i.2
  by_cases c : 0 ≤ x
  · have := ii_le.mp c
    rw [z0] at this
    rw [if_pos c]; omega
  · have : ¬ (0 : Int32).toInt ≤ x.toInt := fun z => c (ii_le.mpr z)
    rw [z0] at this
    rw [if_neg c, ts (by rw [z0]; omega), z0]; omega
theorem bit_8 : ∀ d : Fin 8, ((nI d.val &&& (1 : Int32)) = 0 ↔ ¬ d.val % 2 = 1) ∧ ((nI d.val &&& (2 : Int32)) = 0 ↔ ¬ d.val / 2 % 2 = 1) ∧ ((nI d.val &&& (4 : Int32)) = 0 ↔ ¬ d.val / 4 % 2 = 1) := by decide +kernel
theorem bt_d {d : Int32} (i : Rg 0 7 d) : ((d &&& (1 : Int32)) = 0 ↔ ¬ d.toNatClampNeg % 2 = 1) ∧ ((d &&& (2 : Int32)) = 0 ↔ ¬ d.toNatClampNeg / 2 % 2 = 1) ∧ ((d &&& (4 : Int32)) = 0 ↔ ¬ d.toNatClampNeg / 4 % 2 = 1) := by
  obtain ⟨j, ej, tj, hj⟩ := rg_nI i (Int.le_refl 0)
  have j8 : j < 8 := by have := i.2; omega
  have a := bit_8 ⟨j, j8⟩
  rw [ej, z_clamp hj]
  exact a
theorem h_170 {g : Hp} {x4 x5 x6 : Int32} (i4 : Rg (-7) 7 x4) (i5 : Rg (-7) 7 x5) (e : sX15_hasVector_170 g x4 x5 x6 = some o) : o.2 = g ∧ ((o.1 = 0 ∧ (¬ x6 = 0 ∧ x4.toInt.natAbs = x5.toInt.natAbs)) ∨ (o.1 = 1 ∧ ¬ (¬ x6 = 0 ∧ x4.toInt.natAbs = x5.toInt.natAbs))) := by
  unfold sX15_hasVector_170 sX15_hasVector_188 sX15_hasVector_192 sX15_hasVector_193 at e
  rcases br_s e with ⟨c, e⟩ | ⟨c, e⟩
  · rw [so_e (gg_e e)]
    exact ⟨rfl, Or.inr ⟨rfl, fun z => z.1 c⟩⟩
  rcases br_s e with ⟨q, e⟩ | ⟨q, e⟩
  · rw [so_e (gg_e e)]
    have := congrArg Int32.toInt q
    rw [ab7 i4, ab7 i5] at this
    exact ⟨rfl, Or.inl ⟨rfl, c, by omega⟩⟩
  · rw [so_e (gg_e e)]
    refine ⟨rfl, Or.inr ⟨rfl, fun z => q (Int32.toInt_inj.mp ?_)⟩⟩
    rw [ab7 i4, ab7 i5, z.2]
theorem h_145 {g : Hp} {x0 : Nat} {d x4 x5 x6 x7 x8 t0 : Int32} (i4 : Rg (-7) 7 x4) (i5 : Rg (-7) 7 x5) (e : sX15_hasVector_145 g d x4 x5 x6 x7 x8 t0 x0 = some o) : o.2 = wI g x0 24 t0 ∧ ((o.1 = 0 ∧ ((¬ (d &&& (1 : Int32)) = 0 ∧ x7 = 0) ∨ (¬ (d &&& (2 : Int32)) = 0 ∧ x8 = 0) ∨ (¬ x6 = 0 ∧ x4.toInt.natAbs = x5.toInt.natAbs))) ∨ (o.1 = 1 ∧ ¬ ((¬ (d &&& (1 : Int32)) = 0 ∧ x7 = 0) ∨ (¬ (d &&& (2 : Int32)) = 0 ∧ x8 = 0) ∨ (¬ x6 = 0 ∧ x4.toInt.natAbs = x5.toInt.natAbs)))) := by
  unfold sX15_hasVector_145 at e
  replace e := nm_s e; obtain ⟨g1, w1, e⟩ := e
  rw [← w1]
  have k159 : (¬ (¬ (d &&& (1 : Int32)) = 0 ∧ x7 = 0)) → sX15_hasVector_159 g1 d x4 x5 x6 x8 = some o → o.2 = g1 ∧ ((o.1 = 0 ∧ ((¬ (d &&& (1 : Int32)) = 0 ∧ x7 = 0) ∨ (¬ (d &&& (2 : Int32)) = 0 ∧ x8 = 0) ∨ (¬ x6 = 0 ∧ x4.toInt.natAbs = x5.toInt.natAbs))) ∨ (o.1 = 1 ∧ ¬ ((¬ (d &&& (1 : Int32)) = 0 ∧ x7 = 0) ∨ (¬ (d &&& (2 : Int32)) = 0 ∧ x8 = 0) ∨ (¬ x6 = 0 ∧ x4.toInt.natAbs = x5.toInt.natAbs)))) := fun n1 u => by
    unfold sX15_hasVector_159 at u
    have k170 : (¬ (¬ (d &&& (2 : Int32)) = 0 ∧ x8 = 0)) → sX15_hasVector_170 g1 x4 x5 x6 = some o → o.2 = g1 ∧ ((o.1 = 0 ∧ ((¬ (d &&& (1 : Int32)) = 0 ∧ x7 = 0) ∨ (¬ (d &&& (2 : Int32)) = 0 ∧ x8 = 0) ∨ (¬ x6 = 0 ∧ x4.toInt.natAbs = x5.toInt.natAbs))) ∨ (o.1 = 1 ∧ ¬ ((¬ (d &&& (1 : Int32)) = 0 ∧ x7 = 0) ∨ (¬ (d &&& (2 : Int32)) = 0 ∧ x8 = 0) ∨ (¬ x6 = 0 ∧ x4.toInt.natAbs = x5.toInt.natAbs)))) := fun n2 v => by
      obtain ⟨a, b⟩ := h_170 i4 i5 v
      refine ⟨a, ?_⟩
      rcases b with ⟨b, c⟩ | ⟨b, c⟩
      · exact Or.inl ⟨b, Or.inr (Or.inr c)⟩
      · refine Or.inr ⟨b, ?_⟩
        rintro (z | z | z)
        · exact n1 z
        · exact n2 z
        · exact c z
    rcases br_s u with ⟨c, u⟩ | ⟨c, u⟩
    · exact k170 (fun z => z.1 c) u
    rcases br_s u with ⟨c', u⟩ | ⟨c', u⟩
    · unfold sX15_hasVector_192 sX15_hasVector_193 at u
      rw [so_e (gg_e u)]
      exact ⟨rfl, Or.inl ⟨rfl, Or.inr (Or.inl ⟨c, c'⟩)⟩⟩
    · exact k170 (fun z => c' z.2) u
  rcases br_s e with ⟨c, e⟩ | ⟨c, e⟩
  · exact k159 (fun z => z.1 c) e
  rcases br_s e with ⟨c', e⟩ | ⟨c', e⟩
  · unfold sX15_hasVector_192 sX15_hasVector_193 at e
    rw [so_e (gg_e e)]
    exact ⟨rfl, Or.inl ⟨rfl, Or.inl ⟨c, c'⟩⟩⟩
  · exact k159 (fun z => c' z.2) e
/-- what hasVector answers, and the vector that it leaves -/
theorem hv_val {st d sd : Int32} (W : WRf V h) (i75 : Rg 0 63 (hI h (V 75) st.toNatClampNeg)) (i76 : Rg (-7) 7 (hI h (V 76) st.toNatClampNeg)) (i77 : Rg (-7) 7 (hI h (V 77) st.toNatClampNeg)) (id : Rg 0 7 d) (e : sX15_hasVector h (V 16) st d sd = some o) : ∃ x y : Int32, o.2 = wI (wI h (V 16) 23 x) (V 16) 24 y ∧ x.toInt = vXi (hI h (V 76) st.toNatClampNeg).toInt (hI h (V 77) st.toNatClampNeg).toInt (fbt (hI h (V 75) st.toNatClampNeg).toInt 2) d.toNatClampNeg ∧ y.toInt = vYi (hI h (V 76) st.toNatClampNeg).toInt (hI h (V 77) st.toNatClampNeg).toInt sd.toInt (fbt (hI h (V 75) st.toNatClampNeg).toInt 2) d.toNatClampNeg ∧ ((o.1 = 0 ∧ vOk (hI h (V 76) st.toNatClampNeg).toInt (hI h (V 77) st.toNatClampNeg).toInt (fbt (hI h (V 75) st.toNatClampNeg).toInt 2) d.toNatClampNeg = false) ∨ (o.1 = 1 ∧ vOk (hI h (V 76) st.toNatClampNeg).toInt (hI h (V 77) st.toNatClampNeg).toInt (fbt (hI h (V 75) st.toNatClampNeg).toInt 2) d.toNatClampNeg = true)) := by
  have z0 : (0 : Int32).toInt = 0 := rfl
  obtain ⟨w1, _, _, w5, w6, w7, _⟩ := W
  unfold sX15_hasVector at e
  replace e := ce_e w1 e
  replace e := ce_e w6 e
  replace e := gg_e e
  replace e := nx_e e
  replace e := ce_e w1 e
  replace e := ce_e w7 e
  replace e := gg_e e
  replace e := nx_e e
  replace e := ce_e w1 e
  replace e := ce_e w5 e
  replace e := gg_e e
  have fo := (fb_e i75).2.2.1
  obtain ⟨b1, b2, b4⟩ := bt_d id
  have d0 := nc_i id.1
  generalize hI h (V 76) st.toNatClampNeg = A at *
  generalize hI h (V 77) st.toNatClampNeg = B at *
  generalize hI h (V 75) st.toNatClampNeg = Fl at *
  have a0 := i76.1
  have a1 := i76.2
  have c0 := i77.1
  have c1 := i77.2
  have nA : ((0 : Int32) - A).toInt = -A.toInt := by rw [ts (by rw [z0]; omega), z0]; omega
  have nB : ((0 : Int32) - B).toInt = -B.toInt := by rw [ts (by rw [z0]; omega), z0]; omega
  have zA : A = 0 ↔ A.toInt = 0 := by rw [← Int32.toInt_inj, z0]
  have zB : B = 0 ↔ B.toInt = 0 := by rw [← Int32.toInt_inj, z0]
  rcases br_s e with ⟨c, e⟩ | ⟨c, e⟩
  · -- eight vectors
    rw [fo.mp c]
    -- the last part
    have fin : ∀ {x6 x7 x8 : Int32}, ((x6 = 0 ∧ ¬ d.toNatClampNeg / 4 % 2 = 1 ∧ x7 = A ∧ x8 = B) ∨ (¬ x6 = 0 ∧ d.toNatClampNeg / 4 % 2 = 1 ∧ x7 = B ∧ x8 = A)) → sX15_hasVector_108 h (V 16) d A B x6 x7 x8 = some o → ∃ x y : Int32, o.2 = wI (wI h (V 16) 23 x) (V 16) 24 y ∧ x.toInt = vXi A.toInt B.toInt false d.toNatClampNeg ∧ y.toInt = vYi A.toInt B.toInt sd.toInt false d.toNatClampNeg ∧ ((o.1 = 0 ∧ vOk A.toInt B.toInt false d.toNatClampNeg = false) ∨ (o.1 = 1 ∧ vOk A.toInt B.toInt false d.toNatClampNeg = true)) := fun {x6 x7 x8} H u => by
      unfold sX15_hasVector_108 sX15_hasVector_126 at u
      have X7 : x7.toInt = (if d.toNatClampNeg / 4 % 2 = 1 then B.toInt else A.toInt) ∧ ((0 : Int32) - x7).toInt = -(if d.toNatClampNeg / 4 % 2 = 1 then B.toInt else A.toInt) ∧ (x7 = 0 ↔ (if d.toNatClampNeg / 4 % 2 = 1 then B.toInt else A.toInt) = 0) := by
        rcases H with ⟨_, t, y, _⟩ | ⟨_, t, y, _⟩
        · rw [if_neg t, y]; exact ⟨rfl, nA, zA⟩
        · rw [if_pos t, y]; exact ⟨rfl, nB, zB⟩
      have X8 : x8.toInt = (if d.toNatClampNeg / 4 % 2 = 1 then A.toInt else B.toInt) ∧ ((0 : Int32) - x8).toInt = -(if d.toNatClampNeg / 4 % 2 = 1 then A.toInt else B.toInt) ∧ (x8 = 0 ↔ (if d.toNatClampNeg / 4 % 2 = 1 then A.toInt else B.toInt) = 0) := by
        rcases H with ⟨_, t, _, y⟩ | ⟨_, t, _, y⟩
        · rw [if_neg t, y]; exact ⟨rfl, nB, zB⟩
        · rw [if_pos t, y]; exact ⟨rfl, nA, zA⟩
      have X6 : ¬ x6 = 0 ↔ d.toNatClampNeg / 4 % 2 = 1 := by
        rcases H with ⟨y, t, _⟩ | ⟨y, t, _⟩
        · exact ⟨fun z => absurd y z, fun z => absurd z t⟩
        · exact ⟨fun _ => t, fun _ => y⟩
      have vx : ∀ {x : Int32}, ((d &&& (1 : Int32)) = 0 ∧ x = x7) ∨ (¬ (d &&& (1 : Int32)) = 0 ∧ x = (0 : Int32) - x7) → x.toInt = vXi A.toInt B.toInt false d.toNatClampNeg := fun {x} z => by
        unfold vXi
        rw [if_neg (by decide)]
        rcases z with ⟨z, y⟩ | ⟨z, y⟩
        · rw [if_neg (b1.mp z), y]; exact X7.1
        · rw [if_pos (by
            by_cases q : d.toNatClampNeg % 2 = 1
            · exact q
            · exact absurd (b1.mpr q) z), y]
          exact X7.2.1
      have vy : ∀ {x : Int32}, ((d &&& (2 : Int32)) = 0 ∧ x = x8) ∨ (¬ (d &&& (2 : Int32)) = 0 ∧ x = (0 : Int32) - x8) → x.toInt = vYi A.toInt B.toInt sd.toInt false d.toNatClampNeg := fun {x} z => by
        unfold vYi
        rw [if_neg (by decide)]
        rcases z with ⟨z, y⟩ | ⟨z, y⟩
        · rw [if_neg (b2.mp z), y]; exact X8.1
        · rw [if_pos (by
            by_cases q : d.toNatClampNeg / 2 % 2 = 1
            · exact q
            · exact absurd (b2.mpr q) z), y]
          exact X8.2.1
      have ok : ((¬ (d &&& (1 : Int32)) = 0 ∧ x7 = 0) ∨ (¬ (d &&& (2 : Int32)) = 0 ∧ x8 = 0) ∨ (¬ x6 = 0 ∧ A.toInt.natAbs = B.toInt.natAbs)) ↔ vOk A.toInt B.toInt false d.toNatClampNeg = false := by
        unfold vOk
        rw [if_neg (by decide), X6, X7.2.2, X8.2.2, b1, b2]
        generalize (if d.toNatClampNeg / 4 % 2 = 1 then B.toInt else A.toInt) = P
        generalize (if d.toNatClampNeg / 4 % 2 = 1 then A.toInt else B.toInt) = Q
        by_cases q1 : d.toNatClampNeg % 2 = 1 <;> by_cases q2 : d.toNatClampNeg / 2 % 2 = 1 <;> by_cases q4 : d.toNatClampNeg / 4 % 2 = 1 <;> by_cases p : P = 0 <;> by_cases q : Q = 0 <;> by_cases r : A.toInt.natAbs = B.toInt.natAbs <;> simp [q1, q2, q4, p, q, r]
      have k145 : ∀ {t x : Int32} {g : Hp}, g = wI h (V 16) 23 x → (((d &&& (1 : Int32)) = 0 ∧ x = x7) ∨ (¬ (d &&& (1 : Int32)) = 0 ∧ x = (0 : Int32) - x7)) → (((d &&& (2 : Int32)) = 0 ∧ t = x8) ∨ (¬ (d &&& (2 : Int32)) = 0 ∧ t = (0 : Int32) - x8)) → sX15_hasVector_145 g d A B x6 x7 x8 t (V 16) = some o → ∃ x y : Int32, o.2 = wI (wI h (V 16) 23 x) (V 16) 24 y ∧ x.toInt = vXi A.toInt B.toInt false d.toNatClampNeg ∧ y.toInt = vYi A.toInt B.toInt sd.toInt false d.toNatClampNeg ∧ ((o.1 = 0 ∧ vOk A.toInt B.toInt false d.toNatClampNeg = false) ∨ (o.1 = 1 ∧ vOk A.toInt B.toInt false d.toNatClampNeg = true)) := fun {t x g} eg hx ht v => by
        obtain ⟨r1, r2⟩ := h_145 i76 i77 v
        refine ⟨x, t, by rw [r1, eg], vx hx, vy ht, ?_⟩
        rcases r2 with ⟨r2, r3⟩ | ⟨r2, r3⟩
        · exact Or.inl ⟨r2, ok.mp r3⟩
        · refine Or.inr ⟨r2, ?_⟩
          cases q : vOk A.toInt B.toInt false d.toNatClampNeg with
          | true => rfl
          | false => exact absurd (ok.mpr q) r3
      rcases br_s u with ⟨q1, u⟩ | ⟨q1, u⟩
      · replace u := nm_s u; obtain ⟨g, eg, u⟩ := u
        rcases br_s u with ⟨q2, u⟩ | ⟨q2, u⟩
        · exact k145 eg (Or.inl ⟨q1, rfl⟩) (Or.inl ⟨q2, rfl⟩) u
        · exact k145 eg (Or.inl ⟨q1, rfl⟩) (Or.inr ⟨q2, rfl⟩) u
      · replace u := nm_s u; obtain ⟨g, eg, u⟩ := u
        rcases br_s u with ⟨q2, u⟩ | ⟨q2, u⟩
        · exact k145 eg (Or.inr ⟨q1, rfl⟩) (Or.inl ⟨q2, rfl⟩) u
        · exact k145 eg (Or.inr ⟨q1, rfl⟩) (Or.inr ⟨q2, rfl⟩) u
    unfold sX15_hasVector_80 sX15_hasVector_94 at e
    rcases br_s e with ⟨q, e⟩ | ⟨q, e⟩
    · replace e := bp_e rfl e
      replace e := bp_e rfl e
      exact fin (Or.inl ⟨rfl, b4.mp q, rfl, rfl⟩) e
    · replace e := bn_e (by decide) e
      replace e := bn_e (by decide) e
      refine fin (Or.inr ⟨by decide, ?_, rfl, rfl⟩) e
      by_cases y : d.toNatClampNeg / 4 % 2 = 1
      · exact y
      · exact absurd (b4.mpr y) q
  · -- one
    have ft : fbt Fl.toInt 2 = true := by
      cases q : fbt Fl.toInt 2 with
      | true => rfl
      | false => exact absurd (fo.mpr q) c
    rw [ft]
    replace e := nm_s e; obtain ⟨h14, w14, e⟩ := e
    have fin : ∀ {t : Int32}, t.toInt = vYi A.toInt B.toInt sd.toInt true d.toNatClampNeg → sX15_hasVector_56 h14 d t (V 16) = some o → ∃ x y : Int32, o.2 = wI (wI h (V 16) 23 x) (V 16) 24 y ∧ x.toInt = vXi A.toInt B.toInt true d.toNatClampNeg ∧ y.toInt = vYi A.toInt B.toInt sd.toInt true d.toNatClampNeg ∧ ((o.1 = 0 ∧ vOk A.toInt B.toInt true d.toNatClampNeg = false) ∨ (o.1 = 1 ∧ vOk A.toInt B.toInt true d.toNatClampNeg = true)) := fun {t} ht u => by
      unfold sX15_hasVector_56 sX15_hasVector_68 at u
      replace u := nm_s u; obtain ⟨g, eg, u⟩ := u
      have zd : d = 0 ↔ d.toNatClampNeg = 0 := by
        rw [← Int32.toInt_inj, z0]; omega
      rcases br_s u with ⟨q, u⟩ | ⟨q, u⟩
      · rw [so_e (gg_e u)]
        refine ⟨A, t, by rw [eg, w14], rfl, ht, Or.inr ⟨rfl, ?_⟩⟩
        show decide (d.toNatClampNeg = 0) = true
        exact decide_eq_true (zd.mp q)
      · rw [so_e (gg_e u)]
        refine ⟨A, t, by rw [eg, w14], rfl, ht, Or.inl ⟨rfl, ?_⟩⟩
        show decide (d.toNatClampNeg = 0) = false
        exact decide_eq_false (fun z => q (zd.mpr z))
    rcases br_s e with ⟨q, e⟩ | ⟨q, e⟩
    · refine fin ?_ e
      unfold vYi
      rw [if_pos rfl, if_pos (by rw [q]; rfl)]
    · refine fin ?_ e
      unfold vYi
      rw [if_pos rfl, if_neg (fun z => q (Int32.toInt_inj.mp (by rw [z, z0]))), nB]
end
