section
/-! castling: the class -/
def CstP (L : Nat → Nat → Int) (M : Nat → Int) (rt : Nat → Prop) (sd : Int) (s : Nat) (d : Int) (p : Nat) : Prop := NrM L M s d p ∧ ((p : Int) - s ≥ 3 ∨ (p : Int) - s ≤ -3) ∧ rt p ∧ (M p - 1) % 2 = sd ∧ ¬ AttP L M (1 - sd) s ∧ ¬ AttP L M (1 - sd) ((s : Int) + d).toNat ∧ ¬ AttP L M (1 - sd) ((s : Int) + 2 * d).toNat
def csV (L : Nat → Nat → Int) (s : Nat) (d : Int) (p : Nat) : MvT := ((s : Int), (s : Int) + 2 * d, L 10 0, (-1 : Int), (-1 : Int), (2 : Int), (p : Int))
theorem nrm_n {L : Nat → Nat → Int} {M : Nat → Int} {s q : Nat} {d : Int} (a : NrM L M s d q) (b : NrN L M s d) : False := by
  obtain ⟨n, n1, a1, a2, a3, a4, _⟩ := a
  have := b n n1 a1 a2
  rw [← a3, Int.toNat_natCast] at this
  omega
/-- the squares between lie on the board -/
theorem nrm_3 {L : Nat → Nat → Int} {M : Nat → Int} {s q : Nat} {d : Int} (H : LOk L) (sL : (s : Int) < L 0 0 * L 1 0) (id : d = 1 ∨ d = -1) (a : NrM L M s d q) (far : (q : Int) - s ≥ 3 ∨ (q : Int) - s ≤ -3) : (0 ≤ (s : Int) + d ∧ (s : Int) + d < L 0 0 * L 1 0) ∧ (0 ≤ (s : Int) + 2 * d ∧ (s : Int) + 2 * d < L 0 0 * L 1 0) ∧ (0 ≤ (s : Int) % L 0 0 + 2 * d ∧ (s : Int) % L 0 0 + 2 * d < L 0 0) := by
  obtain ⟨n, n1, a1, a2, a3, _⟩ := a
  have fi := H.1
  have m0 := Int.emod_nonneg (s : Int) (show L 0 0 ≠ 0 by omega)
  have m1 := Int.emod_lt_of_pos (s : Int) (show 0 < L 0 0 by omega)
  have k1 : 0 ≤ (s : Int) % L 0 0 + d ∧ (s : Int) % L 0 0 + d < L 0 0 := by
    rcases id with y | y
    · rw [y, Int.mul_one] at a1 a2 a3; omega
    · rw [y, Int.mul_neg, Int.mul_one] at a1 a2 a3; omega
  have k2 : 0 ≤ (s : Int) % L 0 0 + 2 * d ∧ (s : Int) % L 0 0 + 2 * d < L 0 0 := by
    rcases id with y | y
    · rw [y, Int.mul_one] at a1 a2 a3; omega
    · rw [y, Int.mul_neg, Int.mul_one] at a1 a2 a3; omega
  exact ⟨on_rk H sL k1.1 k1.2, on_rk H sL k2.1 k2.2, k2⟩
theorem ab3 {a b : Int32} (ra : Rg 0 63 a) (rb : Rg 0 63 b) : (if 0 ≤ (a - b) then (a - b) else 0 - (a - b)) < (3 : Int32) ↔ ¬ (a.toInt - b.toInt ≥ 3 ∨ a.toInt - b.toInt ≤ -3) := by
  obtain ⟨a0, a1⟩ := ra
  obtain ⟨b0, b1⟩ := rb
  have z0 : (0 : Int32).toInt = 0 := rfl
  have z3 : (3 : Int32).toInt = 3 := rfl
  have s1 : (a - b).toInt = a.toInt - b.toInt := ts (by omega)
  have s2 : ((0 : Int32) - (a - b)).toInt = 0 - (a - b).toInt := by rw [ts (by rw [z0, s1]; omega), z0]
  by_cases c : 0 ≤ (a - b)
  · rw [if_pos c]
    have c' := le_i c
    rw [z0, s1] at c'
    constructor
    · intro y
      have := lt_i y
      omega
    · intro y
      by_cases d : (a - b) < (3 : Int32)
      · exact d
      · have := nlt_i d
        omega
  · rw [if_neg c]
    have c' := nle_i c
    rw [z0, s1] at c'
    constructor
    · intro y
      have := lt_i y
      omega
    · intro y
      by_cases d : (0 - (a - b)) < (3 : Int32)
      · exact d
      · have := nlt_i d
        omega
section
variable {F : Nat} {V : Nat → Nat} {L : Nat → Nat → Int} {M : Nat → Int} {h o : Hp}
theorem ac_c (D : VD V) {ov rt : Nat → Prop} {x1 x2 x3 : Int32} {s sd : Nat} {pre a1 a2 : List MvT} (H : LOk L) (HM : MOk L M) (W : CWd V h L M ov) (w19 : hR h (V 2) 19 = some (V 32)) (r4 : (hI h (V 2) 4).toInt = L 10 0) (ir : 0 ≤ L 10 0 ∧ L 10 0 ≤ 11) (esd : (hI h (V 4) 5).toInt = (sd : Int)) (isd : sd < 2) (br' : ∀ q, q < 64 → (bitJ (hJ h (V 4) 8) q = true ↔ rt q)) (e1 : x1.toInt = (s : Int)) (sL : (s : Int) < L 0 0 * L 1 0) (id : x2.toInt = 1 ∨ x2.toInt = -1) (e3 : x3.toInt = (pre.length : Int)) (k1 : ∀ w, w ∈ a1 → w.2.1 ≤ (s : Int) + 2 * x2.toInt) (k2 : ∀ w, w ∈ a2 → (s : Int) + 2 * x2.toInt < w.2.1) (R : CLs V h (pre ++ (a1 ++ a2))) (lm : (pre ++ (a1 ++ a2)).length < 4096) (e : sX5_addCastling F h (V 6) x1 x2 x3 = some o) : FrV V (wl wcl) h o ∧ hN o (V 47) = hN h (V 47) ∧ (((∀ p, ¬ CstP L M rt sd s x2.toInt p) ∧ CLs V o (pre ++ (a1 ++ a2))) ∨ ∃ p, CstP L M rt sd s x2.toInt p ∧ CLs V o (pre ++ a1 ++ csV L s x2.toInt p :: a2)) := by
  have zm : (-1 : Int32).toInt = -1 := by decide
  have z0 : (0 : Int32).toInt = 0 := rfl
  have z1 : (1 : Int32).toInt = 1 := rfl
  have z2 : (2 : Int32).toInt = 2 := rfl
  have sq := sq_64 H
  obtain ⟨⟨w0, w1, w4, w5, w47⟩, wc, wt, pc, ps, ⟨cl', r20⟩, cx, bov⟩ := W
  have c1 : x1.toNatClampNeg = s := by have := nc_i (x := x1) (by omega); omega
  have csd : (hI h (V 4) 5).toNatClampNeg = sd := by have := nc_i (x := hI h (V 4) 5) (by omega); omega
  have non : (∀ p, ¬ CstP L M rt sd s x2.toInt p) → some h = some o → FrV V (wl wcl) h o ∧ hN o (V 47) = hN h (V 47) ∧ (((∀ p, ¬ CstP L M rt sd s x2.toInt p) ∧ CLs V o (pre ++ (a1 ++ a2))) ∨ ∃ p, CstP L M rt sd s x2.toInt p ∧ CLs V o (pre ++ a1 ++ csV L s x2.toInt p :: a2)) := fun no u => by
    rw [so_e u]
    exact ⟨fv_0, rfl, Or.inl ⟨no, R⟩⟩
  unfold sX5_addCastling sX5_addCastling_73 sX5_addCastling_122 at e
  replace e := ce_e w4 e
  replace e := nm_s e; obtain ⟨v2, u2, e⟩ := e
  have t2 : v2.toInt = 1 - (sd : Int) := by rw [u2, ts (by rw [z1, esd]; omega), z1, esd]
  have iv2 : Rg 0 1 v2 := ⟨by omega, by omega⟩
  replace e := ce_e w4 e
  replace e := cl_s e; obtain ⟨o4, eo4, e⟩ := e
  obtain ⟨n1, n2⟩ := near_v H w0 pc.1 w19 cl'.1 (cl'.2.2.2.2.2 s sL).1 ps e1 sL id eo4
  rw [n1] at e
  rcases n2 with ⟨y, n2⟩ | ⟨i4, n2⟩
  · exact non (fun p z => nrm_n z.1 n2) (bp_e y e)
  have i40 := i4.1
  have i41 := i4.2
  have c4 := nc_i (x := o4.1) i40
  replace e := bn_e (fun z => by rw [z, zm] at i40; omega) e
  have fd := ab3 (a := o4.1) (b := x1) i4 ⟨by omega, by omega⟩
  rcases br_s e with ⟨y, e⟩ | ⟨y, e⟩ <;> rw [fd, e1, ← c4] at y
  · exact non (fun p z => y (by rw [← nrm_u z.1 n2]; exact z.2.1)) e
  have far := Classical.not_not.mp y
  obtain ⟨⟨d0, d1⟩, ⟨dd0, dd1⟩, _⟩ := nrm_3 H sL id n2 far
  replace e := ce_e w4 e
  replace e := ce_e w4 e
  replace e := ce_e pc.2.1 e
  replace e := ce_e w4 e
  replace e := gg_e e
  have bz := bit_z (A := (hJ h (V 4) 8) &&& (hJ h (V 35) sd)) i4
  rw [bj_and, Bool.and_eq_true, br' o4.1.toNatClampNeg (by omega), ps.2.1 sd isd o4.1.toNatClampNeg (by omega)] at bz
  rcases br_s e with ⟨y, e⟩ | ⟨y, e⟩ <;> rw [csd, bz] at y
  · exact non (fun p z => by
      have ep := nrm_u z.1 n2
      rw [← ep] at y
      obtain ⟨n, _, _, _, _, m0, _⟩ := z.1
      exact y ⟨z.2.2.1, m0, z.2.2.2.1⟩) e
  obtain ⟨rp, mp, sp⟩ := Classical.not_not.mp y
  have p1 : (x1 + x2).toInt = (s : Int) + x2.toInt := by rw [ta (by rw [e1]; omega), e1]
  have p2' : ((2 : Int32) * x2).toInt = 2 * x2.toInt := by rw [tm (by rw [z2]; omega), z2]
  have p2 : (x1 + ((2 : Int32) * x2)).toInt = (s : Int) + 2 * x2.toInt := by rw [ta (by rw [e1, p2']; omega), e1, p2']
  have cc1 : (x1 + x2).toNatClampNeg = ((s : Int) + x2.toInt).toNat := by have := nc_i (x := x1 + x2) (by omega); omega
  have cc2 : (x1 + ((2 : Int32) * x2)).toNatClampNeg = ((s : Int) + 2 * x2.toInt).toNat := by have := nc_i (x := x1 + ((2 : Int32) * x2)) (by omega); omega
  replace e := ce_e w4 e
  replace e := cl_s e; obtain ⟨o14, eo14, e⟩ := e
  obtain ⟨w14, v14⟩ := hit_c H HM w1 wc wt pc ps (by omega) (by omega) iv2 eo14
  rw [w14] at e
  rw [t2, c1] at v14
  rcases v14 with ⟨b1, a1'⟩ | ⟨b1, a1'⟩
  rotate_left
  · exact non (fun p z => z.2.2.2.2.1 a1') (bn_e (by rw [b1]; decide) e)
  replace e := bp_e b1 e
  replace e := ce_e w4 e
  replace e := cl_s e; obtain ⟨o17, eo17, e⟩ := e
  obtain ⟨w17, v17⟩ := hit_c H HM w1 wc wt pc ps (by omega) (by omega) iv2 eo17
  rw [w17] at e
  rw [t2, cc1] at v17
  rcases v17 with ⟨b2, a2'⟩ | ⟨b2, a2'⟩
  rotate_left
  · exact non (fun p z => z.2.2.2.2.2.1 a2') (bn_e (by rw [b2]; decide) e)
  replace e := bp_e b2 e
  replace e := ce_e w4 e
  replace e := cl_s e; obtain ⟨o20, eo20, e⟩ := e
  obtain ⟨w20, v20⟩ := hit_c H HM w1 wc wt pc ps (by omega) (by omega) iv2 eo20
  rw [w20] at e
  rw [t2, cc2] at v20
  rcases v20 with ⟨b3, a3'⟩ | ⟨b3, a3'⟩
  rotate_left
  · exact non (fun p z => z.2.2.2.2.2.2 a3') (bn_e (by rw [b3]; decide) e)
  replace e := bp_e b3 e
  replace e := ce_e w0 e
  replace e := cl_s e; obtain ⟨o23, eo23, e⟩ := e
  obtain ⟨q1, q2⟩ := pk_plain ⟨by omega, by omega⟩ ⟨by omega, by omega⟩ ⟨by omega, by omega⟩ ⟨by decide, by decide⟩ eo23
  rw [e1, p2, r4, z2] at q2
  rw [q1] at e
  have P : MvC o23.1 (csV L s x2.toInt o4.1.toNatClampNeg) := q2
  replace e := cl_s e; obtain ⟨g, eg, e⟩ := e
  obtain ⟨A, Rg'⟩ := add_c D w5 w47 R lm P eg
  have n47 := add_n (V 47) eg
  replace e := nm_s e; obtain ⟨v25, u25, e⟩ := e
  have ct : (hI g (V 6) 6).toInt = ((pre ++ (a1 ++ a2)).length : Int) + 1 := by
    rw [Rg'.1, List.length_append (as := pre ++ (a1 ++ a2))]
    rfl
  have t25 : v25.toInt = ((pre ++ (a1 ++ a2)).length : Int) := by rw [u25, ts (by rw [ct, z1]; omega), ct, z1]; omega
  obtain ⟨A', n', R'⟩ := ins_152 D e3 (v := csV L s x2.toInt o4.1.toNatClampNeg) k1 F (b := []) (by rw [A.1]; exact w5) k2 t25 Rg' e
  rw [List.append_nil] at R'
  exact ⟨fv_t A A', by rw [n', n47], Or.inr ⟨o4.1.toNatClampNeg, ⟨n2, far, rp, sp, a1', a2', a3'⟩, R'⟩⟩
end
end
section
/-! castling: the reference -/
abbrev wtc : List (Nat × Nat) := [(14, 0), (66, 999), (67, 999), (68, 999), (69, 999), (70, 999), (71, 999), (72, 999), (16, 23), (16, 24)]
/-- squares of one rank -/
theorem rk_iff {L : Nat → Nat → Int} {s : Nat} {y : Int} (H : LOk L) : ((s : Int) + y) / L 0 0 = (s : Int) / L 0 0 ↔ 0 ≤ (s : Int) % L 0 0 + y ∧ (s : Int) % L 0 0 + y < L 0 0 := by
  have fi := H.1
  have e1 := Int.mul_ediv_add_emod (s : Int) (L 0 0)
  have e2 := Int.mul_ediv_add_emod ((s : Int) + y) (L 0 0)
  have a0 := Int.emod_nonneg ((s : Int) + y) (show L 0 0 ≠ 0 by omega)
  have a1 := Int.emod_lt_of_pos ((s : Int) + y) (show 0 < L 0 0 by omega)
  constructor
  · intro h
    rw [h] at e2
    omega
  · rintro ⟨h0, h1⟩
    have c := Int.mul_comm ((s : Int) / L 0 0) (L 0 0)
    have : (s : Int) + y = ((s : Int) % L 0 0 + y) + (s : Int) / L 0 0 * L 0 0 := by omega
    rw [this, Int.add_mul_ediv_right _ _ (show L 0 0 ≠ 0 by omega), Int.ediv_eq_zero_of_lt h0 h1, Int.zero_add]
section
variable {F : Nat} {V : Nat → Nat} {L : Nat → Nat → Int} {M : Nat → Int} {h : Hp}
theorem opn_5 {o : Int32 × Hp} {x2 x3 : Int32} {s n : Nat} {d : Int} (W : RWd V h L M) (id : d = 1 ∨ d = -1) (e3 : x3.toInt = d) (e2 : x2.toInt = (s : Int) + n * d) (rg : ∀ j : Nat, j ≤ n → 0 ≤ (s : Int) + j * d ∧ (s : Int) + j * d < 64) : ∀ (f : Nat) {x4 : Int32} {i : Nat}, x4.toInt = (s : Int) + i * d → i ≤ n → sX15_isOpen_5 F f h (V 13) x2 x3 x4 = some o → o.2 = h ∧ ((o.1 = 1 ∧ ∀ j : Nat, i ≤ j → j < n → ¬ 0 < M ((s : Int) + j * d).toNat) ∨ (o.1 = 0 ∧ ∃ j : Nat, i ≤ j ∧ j < n ∧ 0 < M ((s : Int) + j * d).toNat)) := by
  have z0 : (0 : Int32).toInt = 0 := rfl
  intro f
  induction f with
  | zero => intro x4 i _ _ e; exact absurd e (by rw [sX15_isOpen_5]; exact fun z => nomatch z)
  | succ f ih =>
    intro x4 i e4 il e
    have r := rg i il
    have c4 : x4.toNatClampNeg = ((s : Int) + i * d).toNat := by have := nc_i (x := x4) (by omega); omega
    rw [sX15_isOpen_5] at e
    by_cases q : i = n
    · replace e := bp_e (Int32.toInt_inj.mp (by rw [e4, e2, q])) e
      rw [so_e e]
      exact ⟨rfl, Or.inl ⟨rfl, fun j a b => by omega⟩⟩
    have ne : ¬ x4 = x2 := fun z => by
      rw [z, e2] at e4
      rcases id with y | y
      · rw [y, Int.mul_one, Int.mul_one] at e4; omega
      · rw [y, Int.mul_neg, Int.mul_neg, Int.mul_one, Int.mul_one] at e4; omega
    replace e := bn_e ne e
    replace e := ce_e W.2.2.1 e
    replace e := gg_e e
    have mM : (hI h (V 62) x4.toNatClampNeg).toInt = M ((s : Int) + i * d).toNat := by rw [c4]; exact W.2.2.2 _ (by have := rg i (by omega); omega)
    rcases br_s e with ⟨y, e⟩ | ⟨y, e⟩
    · have y := le_i y
      rw [mM, z0] at y
      have st : ((i + 1 : Nat) : Int) * d = i * d + d := by rw [Int.natCast_add, Int.add_mul]; simp
      have t4 : (x4 + x3).toInt = (s : Int) + ((i + 1 : Nat) : Int) * d := by rw [ta (by rw [e4, e3]; omega), e4, e3, st]; omega
      obtain ⟨r1, r2⟩ := ih (i := i + 1) t4 (by omega) (nx_e e)
      refine ⟨r1, ?_⟩
      rcases r2 with ⟨a, b⟩ | ⟨a, j, j1, j2, j3⟩
      · refine Or.inl ⟨a, fun j a' b' => ?_⟩
        by_cases w : j = i
        · rw [w]; omega
        · exact b j (by omega) b'
      · exact Or.inr ⟨a, j, by omega, j2, j3⟩
    · have y := nle_i y
      rw [mM, z0] at y
      rw [so_e e]
      exact ⟨rfl, Or.inr ⟨rfl, i, Nat.le_refl _, by omega, y⟩⟩
theorem tc_46 (D : VD V) {o : Hp} {rt : Nat → Prop} {x2 x3 x5 : Int32} {s sd : Nat} {d : Int} {ms : List MvT} (H : LOk L) (HM : MOk L M) (id : d = 1 ∨ d = -1) (isd : sd < 2) (e2 : x2.toInt = (s : Int)) (sL : (s : Int) < L 0 0 * L 1 0) (e5 : x5.toInt = d) (e3 : x3.toInt = (s : Int) + 2 * d) (lm : ms.length < 100000) (W : RWd V h L M) (WM : WMf V h) (esd : (hI h (V 13) 1).toInt = (sd : Int)) (br' : ∀ q, q < 64 → (bitJ (hJ h (V 13) 2) q = true ↔ rt q)) (R : RLs V h ms) : ∀ (f : Nat) {x6 : Int32} {n : Nat}, 3 ≤ n → x6.toInt = (s : Int) + n * d → (-10 ≤ (s : Int) + n * d ∧ (s : Int) + n * d ≤ 80) → (∀ p, CstP L M rt sd s d p → ∃ n' : Nat, n ≤ n' ∧ (p : Int) = (s : Int) + n' * d ∧ (0 ≤ (s : Int) % L 0 0 + n' * d ∧ (s : Int) % L 0 0 + n' * d < L 0 0) ∧ 0 < M p ∧ ∀ i : Nat, 1 ≤ i → i < n' → M ((s : Int) + i * d).toNat = 0) → sX15_tryCastling_46 F f h (V 16) (V 13) x2 x3 (V 14) x5 x6 = some o → FrV V (wl wtc) h o ∧ (((∀ p, ¬ CstP L M rt sd s d p) ∧ RLs V o ms) ∨ ∃ p, CstP L M rt sd s d p ∧ RLs V o (ms ++ [csV L s d p])) := by
  have z0 : (0 : Int32).toInt = 0 := rfl
  have z1 : (1 : Int32).toInt = 1 := rfl
  have z2 : (2 : Int32).toInt = 2 := rfl
  have zm : (-1 : Int32).toInt = -1 := by decide
  have sq := sq_64 H
  have fi := H.1
  have m0 := Int.emod_nonneg (s : Int) (show L 0 0 ≠ 0 by omega)
  have m1 := Int.emod_lt_of_pos (s : Int) (show 0 < L 0 0 by omega)
  have f11 := W.2.1.2.1
  have f13 := W.2.1.2.2.2
  have r11 : Rg 3 8 (hI h (V 16) 11) := ⟨by omega, by omega⟩
  -- between two squares of the rank
  have btw : ∀ a b : Nat, a ≤ b → (0 ≤ (s : Int) % L 0 0 + b * d ∧ (s : Int) % L 0 0 + b * d < L 0 0) → (0 ≤ (s : Int) % L 0 0 + a * d ∧ (s : Int) % L 0 0 + a * d < L 0 0) := fun a b ab h' => by
    rcases id with y | y
    · rw [y, Int.mul_one] at h' ⊢; omega
    · rw [y, Int.mul_neg, Int.mul_one] at h' ⊢; omega
  have inj : ∀ a b : Nat, (s : Int) + a * d = (s : Int) + b * d → a = b := fun a b h' => by
    rcases id with y | y
    · rw [y, Int.mul_one, Int.mul_one] at h'; omega
    · rw [y, Int.mul_neg, Int.mul_neg, Int.mul_one, Int.mul_one] at h'; omega
  intro f
  induction f with
  | zero => intro x6 n _ _ _ _ e; exact absurd e (by rw [sX15_tryCastling_46]; exact fun z => nomatch z)
  | succ f ih =>
    intro x6 n n3 e6 b6 inv e
    rw [sX15_tryCastling_46] at e
    unfold sX15_tryCastling_207 sX15_tryCastling_197 sX15_tryCastling_196 sX15_sideOf sX15_isOpen at e
    have stop : ¬ (0 ≤ (s : Int) % L 0 0 + n * d ∧ (s : Int) % L 0 0 + n * d < L 0 0) → some h = some o → FrV V (wl wtc) h o ∧ (((∀ p, ¬ CstP L M rt sd s d p) ∧ RLs V o ms) ∨ ∃ p, CstP L M rt sd s d p ∧ RLs V o (ms ++ [csV L s d p])) := fun no u => by
      rw [so_e u]
      refine ⟨fv_0, Or.inl ⟨fun p z => ?_, R⟩⟩
      obtain ⟨n', nn, _, k, _⟩ := inv p z
      exact no (btw n n' nn k)
    rcases br_s e with ⟨y, e⟩ | ⟨y, e⟩
    · have y := lt_i y
      rw [e6, z0] at y
      exact stop (fun k => by have := (on_rk H sL k.1 k.2).1; omega) e
    have y := nlt_i y
    rw [e6, z0] at y
    rcases br_s e with ⟨y', e⟩ | ⟨y', e⟩
    · have y' := le_i y'
      rw [e6, f13] at y'
      exact stop (fun k => by have := (on_rk H sL k.1 k.2).2; omega) e
    have y' := nle_i y'
    rw [e6, f13] at y'
    have i6 : Rg 0 63 x6 := ⟨by omega, by omega⟩
    have d6 := td i6 r11 ⟨by decide, by decide⟩
    have d2 := td (x := x2) (a := 0) (b := 63) ⟨by omega, by omega⟩ r11 ⟨by decide, by decide⟩
    rw [e6, f11] at d6
    rw [e2, f11] at d2
    replace e := gg_e e
    replace e := gg_e e
    rcases br_s e with ⟨w, e⟩ | ⟨w, e⟩
    rotate_left
    · exact stop (fun k => w (Int32.toInt_inj.mp (by rw [d6, d2]; exact (rk_iff H).mpr k))) e
    have rk := (rk_iff H).mp (show ((s : Int) + n * d) / L 0 0 = (s : Int) / L 0 0 by rw [← d6, ← d2, w])
    have c6 : x6.toNatClampNeg = ((s : Int) + n * d).toNat := by have := nc_i (x := x6) (by omega); omega
    have mM : (hI h (V 62) x6.toNatClampNeg).toInt = M x6.toNatClampNeg := W.2.2.2 _ (by have := nc_i i6.1; have := i6.2; omega)
    have cN : (x6.toNatClampNeg : Int) = (s : Int) + n * d := by rw [c6]; omega
    have st : ((n + 1 : Nat) : Int) * d = n * d + d := by rw [Int.natCast_add, Int.add_mul]; simp
    have t6 : (x6 + x5).toInt = (s : Int) + ((n + 1 : Nat) : Int) * d := by rw [ta (by rw [e6, e5]; omega), e6, e5, st]; omega
    -- not he
    have nxt : (∀ p, CstP L M rt sd s d p → ¬ ((p : Int) = (s : Int) + n * d ∧ 0 < M p ∧ ∀ i : Nat, 1 ≤ i → i < n → M ((s : Int) + i * d).toNat = 0)) → sX15_tryCastling_46 F f h (V 16) (V 13) x2 x3 (V 14) x5 (x6 + x5) = some o → FrV V (wl wtc) h o ∧ (((∀ p, ¬ CstP L M rt sd s d p) ∧ RLs V o ms) ∨ ∃ p, CstP L M rt sd s d p ∧ RLs V o (ms ++ [csV L s d p])) := fun no u => by
      refine ih (n := n + 1) (by omega) t6 (by rw [st]; omega) (fun p z => ?_) u
      obtain ⟨n', nn, k1, k2, k3, k4⟩ := inv p z
      by_cases q : n' = n
      · rw [q] at k1 k4
        exact absurd ⟨k1, k3, k4⟩ (no p z)
      · exact ⟨n', by omega, k1, k2, k3, k4⟩
    have pn : ∀ p : Nat, (p : Int) = (s : Int) + n * d → p = x6.toNatClampNeg := fun p z => by omega
    rcases br_s e with ⟨w, e⟩ | ⟨w, e⟩
    rotate_left
    · exact nxt (fun p z k => w (bit_tst i6 (by rw [br' _ (by omega), ← pn p k.1]; exact z.2.2.1))) (nx_e e)
    have rp := (br' _ (by omega)).mp (bit_test i6 w)
    replace e := ce_e W.2.2.1 e
    replace e := gg_e e
    rcases br_s e with ⟨w, e⟩ | ⟨w, e⟩
    · have w := le_i w
      rw [mM, z0] at w
      exact nxt (fun p z k => by have := k.2.1; rw [pn p k.1] at this; omega) (nx_e e)
    have mp := nle_i w
    rw [mM, z0] at mp
    replace e := ce_e W.2.2.1 e
    replace e := gg_e e
    replace e := cl_s e; obtain ⟨o12, eo12, e⟩ := e
    rw [so_e eo12] at e
    dsimp only at e
    have m24 := (HM x6.toNatClampNeg (by omega)).2 mp
    have L2 := H.2.2.1
    have sdv : (((hI h (V 62) x6.toNatClampNeg) - (1 : Int32)) &&& (1 : Int32)).toInt = (M x6.toNatClampNeg - 1) % 2 := by
      have s1 : ((hI h (V 62) x6.toNatClampNeg) - (1 : Int32)).toInt = M x6.toNatClampNeg - 1 := by rw [ts (by rw [mM, z1]; omega), mM, z1]
      rw [and1_i (by omega), s1]
    rcases br_s e with ⟨w, e⟩ | ⟨w, e⟩
    rotate_left
    · exact nxt (fun p z k => w (Int32.toInt_inj.mp (by rw [sdv, esd, ← pn p k.1]; exact z.2.2.2.1))) (nx_e e)
    have sp : (M x6.toNatClampNeg - 1) % 2 = (sd : Int) := by rw [← sdv, w, esd]
    replace e := cl_s e; obtain ⟨o14, eo14, e⟩ := e
    have t1 : (x2 + x5).toInt = (s : Int) + ((1 : Nat) : Int) * d := by rw [ta (by rw [e2, e5]; omega), e2, e5]; simp
    obtain ⟨w14, v14⟩ := opn_5 W id e5 e6 (fun j hj => by
      have k := btw j n hj rk
      have := on_rk H sL k.1 k.2
      omega) F t1 (by omega) (nx_e eo14)
    rw [w14] at e
    rcases v14 with ⟨b1, op⟩ | ⟨b1, j, j1, j2, j3⟩
    rotate_left
    · exact nxt (fun p z k => by have := k.2.2 j j1 j2; omega) (nx_e (bp_e b1 e))
    replace e := bn_e (by rw [b1]; decide) e
    -- he, if no square is attacked
    have NR : NrM L M s d x6.toNatClampNeg := ⟨n, by omega, rk.1, rk.2, cN, mp, fun i i1 i2 => by
      have a := op i i1 i2
      have k := btw i n (by omega) rk
      have r := on_rk H sL k.1 k.2
      have := (HM ((s : Int) + i * d).toNat (by omega)).1
      omega⟩
    have far : (x6.toNatClampNeg : Int) - s ≥ 3 ∨ (x6.toNatClampNeg : Int) - s ≤ -3 := by
      rw [cN]
      rcases id with y | y
      · rw [y, Int.mul_one]; omega
      · rw [y, Int.mul_neg, Int.mul_one]; omega
    obtain ⟨⟨k10, k11⟩, ⟨k20, k21⟩, _⟩ := nrm_3 H sL id NR far
    have s1 : ((1 : Int32) - (hI h (V 13) 1)).toInt = 1 - (sd : Int) := by rw [ts (by rw [z1, esd]; omega), z1, esd]
    have is1 : Rg 0 1 ((1 : Int32) - (hI h (V 13) 1)) := ⟨by omega, by omega⟩
    have c2 : x2.toNatClampNeg = s := by have := nc_i (x := x2) (by omega); omega
    have t1' : (x2 + x5).toInt = (s : Int) + d := by rw [ta (by rw [e2, e5]; omega), e2, e5]
    have c25 : (x2 + x5).toNatClampNeg = ((s : Int) + d).toNat := by have := nc_i (x := x2 + x5) (by omega); omega
    have c3 : x3.toNatClampNeg = ((s : Int) + 2 * d).toNat := by have := nc_i (x := x3) (by omega); omega
    have none' : ∀ {g : Hp}, FrV V (wl wdx) h g → (∀ p, ¬ CstP L M rt sd s d p) → some g = some o → FrV V (wl wtc) h o ∧ (((∀ p, ¬ CstP L M rt sd s d p) ∧ RLs V o ms) ∨ ∃ p, CstP L M rt sd s d p ∧ RLs V o (ms ++ [csV L s d p])) := fun {g} A no u => by
      rw [so_e u]
      exact ⟨fv_s A (by decide), Or.inl ⟨no, rls_f D R A (by decide)⟩⟩
    replace e := cl_s e; obtain ⟨o16, eo16, e⟩ := e
    obtain ⟨A16, v16⟩ := att_r D H HM (by omega) is1 W eo16
    rw [s1, c2] at v16
    rcases v16 with ⟨b16, a16⟩ | ⟨b16, a16⟩
    rotate_left
    · exact none' A16 (fun p z => z.2.2.2.2.1 a16) (bn_e (by rw [b16]; decide) e)
    replace e := bp_e b16 e
    replace e := cl_s e; obtain ⟨o18, eo18, e⟩ := e
    rw [fvi D A16 13 1] at eo18
    obtain ⟨A18, v18⟩ := att_r D H HM (by omega) is1 (rwd_x D W A16) eo18
    rw [s1, c25] at v18
    have B18 := fv_t A16 A18
    rcases v18 with ⟨b18, a18⟩ | ⟨b18, a18⟩
    rotate_left
    · exact none' B18 (fun p z => z.2.2.2.2.2.1 a18) (bn_e (by rw [b18]; decide) e)
    replace e := bp_e b18 e
    replace e := cl_s e; obtain ⟨o20, eo20, e⟩ := e
    rw [fvi D B18 13 1] at eo20
    obtain ⟨A20, v20⟩ := att_r D H HM (by omega) is1 (rwd_x D W B18) eo20
    rw [s1, c3] at v20
    have B20 := fv_t B18 A20
    rcases v20 with ⟨b20, a20⟩ | ⟨b20, a20⟩
    rotate_left
    · exact none' B20 (fun p z => z.2.2.2.2.2.2 a20) (bn_e (by rw [b20]; decide) e)
    replace e := bp_e b20 e
    have W20 := rwd_x D W B20
    replace e := ce_e W20.1.1 e
    replace e := cl_s e; obtain ⟨g, eg, e⟩ := e
    obtain ⟨Ag, Rg'⟩ := add_r D (wmf_f WM B20) (rls_f D R B20 (by decide)) (by omega) eg
    rw [so_e e]
    rw [e2, e3, lw_0 W20 (by decide) 0, zm, z2, e6, ← cN] at Rg'
    exact ⟨fv_t (fv_s B20 (by decide)) (fv_s Ag (by decide)), Or.inr ⟨x6.toNatClampNeg, ⟨NR, far, rp, sp, a16, a18, a20⟩, Rg'⟩⟩
/-- castling to a square two beside him -/
theorem tc_r (D : VD V) {o : Hp} {rt : Nat → Prop} {x2 x3 : Int32} {s t sd : Nat} {ms : List MvT} (H : LOk L) (HM : MOk L M) (isd : sd < 2) (e2 : x2.toInt = (s : Int)) (sL : (s : Int) < L 0 0 * L 1 0) (e3 : x3.toInt = (t : Int)) (tL : (t : Int) < L 0 0 * L 1 0) (lm : ms.length < 100000) (W : RWd V h L M) (WM : WMf V h) (esd : (hI h (V 13) 1).toInt = (sd : Int)) (br' : ∀ q, q < 64 → (bitJ (hJ h (V 13) 2) q = true ↔ rt q)) (R : RLs V h ms) (e : sX15_tryCastling F h (V 16) (V 13) x2 x3 (V 14) = some o) : FrV V (wl wtc) h o ∧ (((∀ (d : Int) (p : Nat), (d = 1 ∨ d = -1) → (t : Int) = (s : Int) + 2 * d → ¬ CstP L M rt sd s d p) ∧ RLs V o ms) ∨ ∃ (d : Int) (p : Nat), (d = 1 ∨ d = -1) ∧ (t : Int) = (s : Int) + 2 * d ∧ CstP L M rt sd s d p ∧ RLs V o (ms ++ [csV L s d p])) := by
  have z0 : (0 : Int32).toInt = 0 := rfl
  have z1 : (1 : Int32).toInt = 1 := rfl
  have z2 : (2 : Int32).toInt = 2 := rfl
  have z3 : (3 : Int32).toInt = 3 := rfl
  have zm : (-1 : Int32).toInt = -1 := by decide
  have sq := sq_64 H
  have fi := H.1
  have f11 := W.2.1.2.1
  have r11 : Rg 3 8 (hI h (V 16) 11) := ⟨by omega, by omega⟩
  have d3 := td (x := x3) (a := 0) (b := 63) ⟨by omega, by omega⟩ r11 ⟨by decide, by decide⟩
  have d2 := td (x := x2) (a := 0) (b := 63) ⟨by omega, by omega⟩ r11 ⟨by decide, by decide⟩
  rw [e3, f11] at d3
  rw [e2, f11] at d2
  have s32 : (x3 - x2).toInt = (t : Int) - s := by rw [ts (by rw [e3, e2]; omega), e3, e2]
  have s23 : ((0 : Int32) - (x3 - x2)).toInt = (s : Int) - t := by rw [ts (by rw [z0, s32]; omega), z0, s32]; omega
  unfold sX15_tryCastling sX15_tryCastling_25 sX15_tryCastling_36 at e
  replace e := gg_e e
  replace e := gg_e e
  have non : (∀ (d : Int) (p : Nat), (d = 1 ∨ d = -1) → (t : Int) = (s : Int) + 2 * d → ¬ CstP L M rt sd s d p) → some h = some o → FrV V (wl wtc) h o ∧ (((∀ (d : Int) (p : Nat), (d = 1 ∨ d = -1) → (t : Int) = (s : Int) + 2 * d → ¬ CstP L M rt sd s d p) ∧ RLs V o ms) ∨ ∃ (d : Int) (p : Nat), (d = 1 ∨ d = -1) ∧ (t : Int) = (s : Int) + 2 * d ∧ CstP L M rt sd s d p ∧ RLs V o (ms ++ [csV L s d p])) := fun no u => by
    rw [so_e u]
    exact ⟨fv_0, Or.inl ⟨no, R⟩⟩
  rcases br_s e with ⟨w, e⟩ | ⟨w, e⟩
  rotate_left
  · exact non (fun d p id et z => w (Int32.toInt_inj.mp (by
      rw [d3, d2, et]
      exact (rk_iff H).mpr (nrm_3 H sL id z.1 z.2.1).2.2))) e
  have two : (if 0 ≤ (x3 - x2) then (x3 - x2) else 0 - (x3 - x2)) = (2 : Int32) ↔ ((t : Int) - s = 2 ∨ (t : Int) - s = -2) := by
    by_cases c : 0 ≤ (x3 - x2)
    · rw [if_pos c]
      have c := le_i c
      rw [z0, s32] at c
      constructor
      · intro y
        rw [y, z2] at s32
        omega
      · intro y
        exact Int32.toInt_inj.mp (by rw [s32, z2]; omega)
    · rw [if_neg c]
      have c := nle_i c
      rw [z0, s32] at c
      constructor
      · intro y
        rw [y, z2] at s23
        omega
      · intro y
        exact Int32.toInt_inj.mp (by rw [s23, z2]; omega)
  rcases br_s e with ⟨w2, e⟩ | ⟨w2, e⟩ <;> rw [two] at w2
  rotate_left
  · exact non (fun d p id et z => w2 (by omega)) e
  have go : ∀ {x5 : Int32} {d : Int}, (d = 1 ∨ d = -1) → x5.toInt = d → (t : Int) = (s : Int) + 2 * d → sX15_tryCastling_46 F F h (V 16) (V 13) x2 x3 (V 14) x5 (x2 + ((3 : Int32) * x5)) = some o → FrV V (wl wtc) h o ∧ (((∀ (d : Int) (p : Nat), (d = 1 ∨ d = -1) → (t : Int) = (s : Int) + 2 * d → ¬ CstP L M rt sd s d p) ∧ RLs V o ms) ∨ ∃ (d : Int) (p : Nat), (d = 1 ∨ d = -1) ∧ (t : Int) = (s : Int) + 2 * d ∧ CstP L M rt sd s d p ∧ RLs V o (ms ++ [csV L s d p])) := fun {x5 d} id e5 et u => by
    have q1 : ((3 : Int32) * x5).toInt = 3 * d := by rw [tm (by rw [z3, e5]; omega), z3, e5]
    have q2 : (x2 + ((3 : Int32) * x5)).toInt = (s : Int) + ((3 : Nat) : Int) * d := by rw [ta (by rw [e2, q1]; omega), e2, q1]; rfl
    obtain ⟨A, r⟩ := tc_46 D H HM id isd e2 sL e5 (by rw [e3, et]) lm W WM esd br' R F (n := 3) (Nat.le_refl _) q2 (by omega) (fun p z => by
      obtain ⟨n', k1, k2, k3, k4, k5, k6⟩ := z.1
      refine ⟨n', ?_, k4, ⟨k2, k3⟩, k5, k6⟩
      have f := z.2.1
      rw [k4] at f
      rcases id with y | y
      · rw [y, Int.mul_one] at f; omega
      · rw [y, Int.mul_neg, Int.mul_one] at f; omega) u
    refine ⟨A, ?_⟩
    rcases r with ⟨no, r⟩ | ⟨p, z, r⟩
    · exact Or.inl ⟨fun d' p id' et' => by
        have : d' = d := by omega
        rw [this]; exact no p, r⟩
    · exact Or.inr ⟨d, p, id, et, z, r⟩
  rcases br_s e with ⟨y, e⟩ | ⟨y, e⟩
  · have y := le_i y
    rw [e3, e2] at y
    exact go (Or.inr rfl) zm (by omega) (nx_e e)
  · have y := nle_i y
    rw [e3, e2] at y
    exact go (Or.inl rfl) z1 (by omega) (nx_e e)
end
end
section
/-! castling among the moves of one man: both lists -/
theorem fm_c {α β : Type} {f g : α → List β} : ∀ {l : List α}, (∀ x, x ∈ l → f x = g x) → l.flatMap f = l.flatMap g := fun {l} => by
  induction l with
  | nil => exact fun _ => rfl
  | cons a l ih =>
    intro h
    rw [List.flatMap_cons, List.flatMap_cons, h a (by simp), ih (fun x hx => h x (by simp [hx]))]
theorem rg_sp {K : Nat} (k : K ≤ 64) : List.range 64 = List.range K ++ List.range' K (64 - K) := by
  rw [List.range_eq_range', List.range_eq_range']
  have := List.range'_append_1 (s := 0) (m := K) (n := 64 - K)
  rw [Nat.zero_add] at this
  rw [this, show K + (64 - K) = 64 by omega]
theorem fm_ins {β : Type} {g : Nat → List β} {t0 : Nat} {v : β} {c : Nat → List β} (t6 : t0 < 64) (c1 : c t0 = [v]) (c2 : ∀ t, ¬ t = t0 → c t = []) : (List.range (t0 + 1)).flatMap g ++ v :: (List.range' (t0 + 1) (64 - (t0 + 1))).flatMap g = (List.range 64).flatMap (fun t => g t ++ c t) := by
  rw [rg_sp (K := t0 + 1) (by omega), List.flatMap_append, List.range_succ, List.flatMap_append, List.flatMap_append, List.flatMap_singleton, List.flatMap_singleton, c1]
  have a1 : (List.range t0).flatMap (fun t => g t ++ c t) = (List.range t0).flatMap g := fm_c (fun x hx => by
    rw [List.mem_range] at hx
    rw [c2 x (by omega), List.append_nil])
  have a2 : (List.range' (t0 + 1) (64 - (t0 + 1))).flatMap (fun t => g t ++ c t) = (List.range' (t0 + 1) (64 - (t0 + 1))).flatMap g := fm_c (fun x hx => by
    rw [List.mem_range'_1] at hx
    rw [c2 x (by omega), List.append_nil])
  rw [a1, a2]
  simp
noncomputable def csD (L : Nat → Nat → Int) (M : Nat → Int) (rt : Nat → Prop) (sd : Int) (s : Nat) (d : Int) (t : Nat) : List MvT := @dite _ (∃ p, (t : Int) = (s : Int) + 2 * d ∧ CstP L M rt sd s d p) (Classical.propDecidable _) (fun h => [csV L s d (Classical.choose h)]) (fun _ => [])
section
variable {F : Nat} {V : Nat → Nat} {L : Nat → Nat → Int} {M : Nat → Int} {h o : Hp}
theorem csd_y {rt : Nat → Prop} {sd d : Int} {s t p : Nat} (et : (t : Int) = (s : Int) + 2 * d) (z : CstP L M rt sd s d p) : csD L M rt sd s d t = [csV L s d p] := by
  have ex : ∃ p, (t : Int) = (s : Int) + 2 * d ∧ CstP L M rt sd s d p := ⟨p, et, z⟩
  have e : csD L M rt sd s d t = [csV L s d (Classical.choose ex)] := by
    unfold csD
    exact @dif_pos _ (Classical.propDecidable _) ex _ _ _
  rw [e, nrm_u (Classical.choose_spec ex).2.1 z.1]
theorem csd_n {rt : Nat → Prop} {sd d : Int} {s t : Nat} (no : ∀ p, (t : Int) = (s : Int) + 2 * d → ¬ CstP L M rt sd s d p) : csD L M rt sd s d t = [] := by
  unfold csD
  exact @dif_neg _ (Classical.propDecidable _) (fun ⟨p, a, b⟩ => no p a b) _ _ _
/-- the class: castling on one hand -/
theorem acs_c (D : VD V) {ov rt : Nat → Prop} {x1 x2 x3 : Int32} {s sd : Nat} {pre : List MvT} {g : Nat → List MvT} (H : LOk L) (HM : MOk L M) (W : CWd V h L M ov) (w19 : hR h (V 2) 19 = some (V 32)) (r4 : (hI h (V 2) 4).toInt = L 10 0) (ir : 0 ≤ L 10 0 ∧ L 10 0 ≤ 11) (esd : (hI h (V 4) 5).toInt = (sd : Int)) (isd : sd < 2) (br' : ∀ q, q < 64 → (bitJ (hJ h (V 4) 8) q = true ↔ rt q)) (e1 : x1.toInt = (s : Int)) (sL : (s : Int) < L 0 0 * L 1 0) (id : x2.toInt = 1 ∨ x2.toInt = -1) (e3 : x3.toInt = (pre.length : Int)) (to : ∀ t w, w ∈ g t → w.2.1 = (t : Int)) (R : CLs V h (pre ++ (List.range 64).flatMap g)) (lm : (pre ++ (List.range 64).flatMap g).length < 4096) (e : sX5_addCastling F h (V 6) x1 x2 x3 = some o) : FrV V (wl wcl) h o ∧ hN o (V 47) = hN h (V 47) ∧ CLs V o (pre ++ (List.range 64).flatMap (fun t => g t ++ csD L M rt sd s x2.toInt t)) := by
  have sq := sq_64 H
  obtain ⟨K, hK, kk⟩ : ∃ K : Nat, K ≤ 64 ∧ ∀ t : Nat, t < 64 → (t < K ↔ (t : Int) ≤ (s : Int) + 2 * x2.toInt) := ⟨min 64 ((s : Int) + 2 * x2.toInt + 1).toNat, by omega, fun t ht => by omega⟩
  have sp := rg_sp hK
  have k1 : ∀ w, w ∈ (List.range K).flatMap g → w.2.1 ≤ (s : Int) + 2 * x2.toInt := fun w hw => by
    rw [List.mem_flatMap] at hw
    obtain ⟨t, ht, hw⟩ := hw
    rw [List.mem_range] at ht
    rw [to t w hw]
    exact (kk t (by omega)).mp ht
  have k2 : ∀ w, w ∈ (List.range' K (64 - K)).flatMap g → (s : Int) + 2 * x2.toInt < w.2.1 := fun w hw => by
    rw [List.mem_flatMap] at hw
    obtain ⟨t, ht, hw⟩ := hw
    rw [List.mem_range'_1] at ht
    rw [to t w hw]
    have := kk t (by omega)
    omega
  rw [sp, List.flatMap_append] at R lm
  obtain ⟨A, n, r⟩ := ac_c D H HM W w19 r4 ir esd isd br' e1 sL id e3 k1 k2 R lm e
  refine ⟨A, n, ?_⟩
  rcases r with ⟨no, r⟩ | ⟨p, z, r⟩
  · have : (List.range 64).flatMap (fun t => g t ++ csD L M rt sd s x2.toInt t) = (List.range 64).flatMap g := fm_c (fun t _ => by rw [csd_n (fun p _ => no p), List.append_nil])
    rw [this, sp, List.flatMap_append]
    exact r
  · obtain ⟨_, ⟨q0, q1⟩, _⟩ := nrm_3 H sL id z.1 z.2.1
    obtain ⟨t0, et⟩ : ∃ t0 : Nat, (t0 : Int) = (s : Int) + 2 * x2.toInt := ⟨((s : Int) + 2 * x2.toInt).toNat, by omega⟩
    have t6 : t0 < 64 := by omega
    have K0 : K = t0 + 1 := by
      have a := kk t0 t6
      by_cases c : K = t0 + 1
      · exact c
      · have b := kk (t0 + 1)
        omega
    rw [K0] at r
    rw [← fm_ins (v := csV L s x2.toInt p) t6 (csd_y et z) (fun t n => csd_n (fun p y => by omega)), ← List.append_assoc]
    exact r
/-- the reference: castling to one square -/
theorem tcs_r (D : VD V) {rt : Nat → Prop} {x2 x3 : Int32} {s t sd : Nat} {ms : List MvT} (H : LOk L) (HM : MOk L M) (isd : sd < 2) (e2 : x2.toInt = (s : Int)) (sL : (s : Int) < L 0 0 * L 1 0) (e3 : x3.toInt = (t : Int)) (tL : (t : Int) < L 0 0 * L 1 0) (lm : ms.length < 100000) (W : RWd V h L M) (WM : WMf V h) (esd : (hI h (V 13) 1).toInt = (sd : Int)) (br' : ∀ q, q < 64 → (bitJ (hJ h (V 13) 2) q = true ↔ rt q)) (R : RLs V h ms) (e : sX15_tryCastling F h (V 16) (V 13) x2 x3 (V 14) = some o) : FrV V (wl wtc) h o ∧ RLs V o (ms ++ (csD L M rt sd s (-1) t ++ csD L M rt sd s 1 t)) := by
  obtain ⟨A, r⟩ := tc_r D H HM isd e2 sL e3 tL lm W WM esd br' R e
  refine ⟨A, ?_⟩
  rcases r with ⟨no, r⟩ | ⟨d, p, id, et, z, r⟩
  · rw [csd_n (fun p y => no (-1) p (Or.inr rfl) y), csd_n (fun p y => no 1 p (Or.inl rfl) y), List.append_nil, List.append_nil]
    exact r
  · rcases id with y | y
    · rw [y] at et z r
      rw [csd_n (d := -1) (fun p y => by omega), csd_y et z, List.nil_append]
      exact r
    · rw [y] at et z r
      rw [csd_n (d := 1) (fun p y => by omega), csd_y et z, List.append_nil]
      exact r
end
/-- a move of a man to a square comes to it -/
theorem sta_to {L : Nat → Nat → Int} {M : Nat → Int} {ov : Nat → Prop} {p0 : Nat} {sd : Int} {m s t : Nat} {w : MvT} (hw : w ∈ stA L M ov p0 sd m s t) : w.2.1 = (t : Int) := by
  unfold stA at hw
  split at hw
  · exact absurd hw (by simp)
  · unfold mvL at hw
    split at hw
    · rw [List.mem_map] at hw
      obtain ⟨q, _, e⟩ := hw
      rw [← e]
    · rw [List.mem_singleton] at hw
      rw [hw]
theorem csd_to {L : Nat → Nat → Int} {M : Nat → Int} {rt : Nat → Prop} {sd d : Int} {s t : Nat} {w : MvT} (hw : w ∈ csD L M rt sd s d t) : w.2.1 = (t : Int) := by
  by_cases ex : ∃ p, (t : Int) = (s : Int) + 2 * d ∧ CstP L M rt sd s d p
  · obtain ⟨p, et, z⟩ := ex
    rw [csd_y et z, List.mem_singleton] at hw
    rw [hw, et]
    rfl
  · rw [csd_n (fun p a b => ex ⟨p, a, b⟩)] at hw
    exact absurd hw (by simp)
end
section
/-! must take: the class -/
/-- a list that is being thinned out: kept, and the rest from a place on -/
def KpC (V : Nat → Nat) (h : Hp) (kept : List MvT) (n : Nat) (rest : List MvT) : Prop := (hI h (V 6) 6).toInt = ((n + rest.length : Nat) : Int) ∧ kept.length ≤ n ∧ (∀ j, j < kept.length → ∃ v, kept[j]? = some v ∧ MvC (hI h (V 47) j) v) ∧ ∀ j, j < rest.length → ∃ v, rest[j]? = some v ∧ MvC (hI h (V 47) (n + j)) v
def tkB (v : MvT) : Bool := !decide (v.2.2.2.2.1 = -1)
section
variable {F : Nat} {V : Nat → Nat} {h o : Hp}
/-- one is left out -/
theorem kpc_n {kept rest : List MvT} {n : Nat} {v : MvT} (K : KpC V h kept n (v :: rest)) : KpC V h kept (n + 1) rest := by
  obtain ⟨a, b, c, d⟩ := K
  refine ⟨by rw [a, List.length_cons]; omega, by omega, c, fun j hj => ?_⟩
  obtain ⟨w, e, P⟩ := d (j + 1) (by rw [List.length_cons]; omega)
  rw [show n + (j + 1) = n + 1 + j by omega] at P
  exact ⟨w, e, P⟩
/-- one is kept -/
theorem kpc_y (D : VD V) {kept rest : List MvT} {n : Nat} {v : MvT} (K : KpC V h kept n (v :: rest)) : KpC V (wI h (V 47) kept.length (hI h (V 47) n)) (kept ++ [v]) (n + 1) rest := by
  obtain ⟨a, b, c, d⟩ := K
  refine ⟨by rw [rI_a (vne D), a, List.length_cons]; omega, by rw [List.length_append]; exact Nat.succ_le_succ b, fun j hj => ?_, fun j hj => ?_⟩
  · rw [List.length_append] at hj
    have hj : j < kept.length + 1 := hj
    rw [r_I]
    by_cases q : j = kept.length
    · obtain ⟨w, e, P⟩ := d 0 (by rw [List.length_cons]; omega)
      have e : v = w := Option.some.inj e
      rw [if_pos ⟨rfl, q⟩, q, ge_m]
      exact ⟨v, rfl, by rw [e]; exact P⟩
    · rw [if_neg (fun z => q z.2), List.getElem?_append_left (by omega)]
      exact c j (by omega)
  · obtain ⟨w, e, P⟩ := d (j + 1) (by rw [List.length_cons]; omega)
    rw [show n + (j + 1) = n + 1 + j by omega] at P
    rw [r_I, if_neg (fun z => by have := z.2; omega)]
    exact ⟨w, e, P⟩
theorem ktk_4 (D : VD V) : ∀ (f : Nat) {h : Hp} {x1 x2 : Int32} {kept rest : List MvT} {n : Nat}, hR h (V 6) 5 = some (V 47) → x1.toInt = (kept.length : Int) → x2.toInt = (n : Int) → n + rest.length ≤ 4096 → (∀ w, w ∈ rest → (w.2.2.2.2.1 = -1 ∨ (0 ≤ w.2.2.2.2.1 ∧ w.2.2.2.2.1 ≤ 11))) → KpC V h kept n rest → sX5_keepTakes_4 F f h (V 6) x1 x2 = some o → FrV V (wl wcl) h o ∧ hN o (V 47) = hN h (V 47) ∧ CLs V o (kept ++ rest.filter tkB) := by
  have z1 : (1 : Int32).toInt = 1 := rfl
  have zm : (-1 : Int32).toInt = -1 := by decide
  intro f
  induction f with
  | zero => intro h x1 x2 kept rest n _ _ _ _ _ _ e; exact absurd e (by rw [sX5_keepTakes_4]; exact fun z => nomatch z)
  | succ f ih =>
    intro h x1 x2 kept rest n w5 e1 e2 lm ok K e
    have K1 := K.1
    have K2 := K.2.1
    rw [sX5_keepTakes_4] at e
    unfold sX5_keepTakes_40 at e
    cases rest with
    | nil =>
      replace e := bp_e (by
        apply ii_le.mpr
        rw [K1, e2]
        exact Int.le_refl _) e
      replace e := nm_s e; obtain ⟨g, ug, e⟩ := e
      rw [so_e e, List.filter_nil, List.append_nil]
      refine ⟨by rw [ug]; exact fv_w rfl, by rw [ug]; rfl, ?_, fun j hj => ?_⟩
      · rw [ug, r_I, if_pos ⟨rfl, rfl⟩, e1]
      · rw [ug, rI_a (vne D)]
        exact K.2.2.1 j hj
    | cons v rest =>
      have ll : (v :: rest).length = rest.length + 1 := List.length_cons
      have c2 : x2.toNatClampNeg = n := by have := nc_i (x := x2) (by omega); omega
      have c1 : x1.toNatClampNeg = kept.length := by have := nc_i (x := x1) (by omega); omega
      have t2 : (x2 + (1 : Int32)).toInt = ((n + 1 : Nat) : Int) := by rw [ta (by rw [z1]; omega), z1, e2]; omega
      replace e := bn_e (fun z => by have := le_i z; omega) e
      replace e := ce_e w5 e
      replace e := gg_e e
      replace e := cl_s e; obtain ⟨o5, eo5, e⟩ := e
      rw [c2] at eo5
      obtain ⟨v', av, P⟩ := K.2.2.2 0 (by omega)
      have av : v = v' := Option.some.inj av
      rw [← av] at P
      have P : MvC (hI h (V 47) n) v := P
      obtain ⟨q1, q2⟩ := tak_v P eo5
      rw [q1] at e
      have q3 : o5.1.toInt = v.2.2.2.2.1 := by
        rw [q2]
        rcases ok v (by simp) with y | ⟨y, y'⟩
        · rw [if_pos (by rw [if_pos y]), y]
        · rw [if_neg (show ¬ v.2.2.2.2.1 = -1 by omega), if_neg (show ¬ v.2.2.2.2.1 = 15 by omega)]
      have ok' : ∀ w, w ∈ rest → (w.2.2.2.2.1 = -1 ∨ (0 ≤ w.2.2.2.2.1 ∧ w.2.2.2.2.1 ≤ 11)) := fun w hw => ok w (by simp [hw])
      rcases br_s e with ⟨y, e⟩ | ⟨y, e⟩
      · have b : tkB v = false := by
          unfold tkB
          rw [decide_eq_true (by rw [← q3, y, zm])]; rfl
        rw [List.filter_cons_of_neg (by rw [b]; decide)]
        exact ih w5 e1 t2 (by omega) ok' (kpc_n K) (nx_e e)
      · have b : tkB v = true := by
          unfold tkB
          rw [decide_eq_false (fun z => y (Int32.toInt_inj.mp (by rw [q3, z, zm])))]; rfl
        rw [List.filter_cons_of_pos b]
        replace e := ce_e w5 e
        replace e := ce_e w5 e
        replace e := gg_e e
        replace e := gg_e e
        replace e := nm_s e; obtain ⟨g, ug, e⟩ := e
        rw [c1, c2] at ug
        have Kg := kpc_y D K
        rw [← ug] at Kg
        have A : FrV V (wl wcl) h g := by rw [ug]; exact fv_w (wl_9 (by decide))
        have t1 : (x1 + (1 : Int32)).toInt = ((kept ++ [v]).length : Int) := by rw [ta (by rw [z1]; omega), z1, e1, List.length_append]; rfl
        obtain ⟨A', n', R⟩ := ih (by rw [A.1]; exact w5) t1 t2 (by omega) ok' Kg (nx_e (nx_e e))
        refine ⟨fv_t A A', by rw [n', ug]; rfl, ?_⟩
        rw [List.append_assoc] at R
        exact R
/-- keepTakes -/
theorem kt_c (D : VD V) {ms : List MvT} (w5 : hR h (V 6) 5 = some (V 47)) (R : CLs V h ms) (lm : ms.length ≤ 4096) (ok : ∀ w, w ∈ ms → (w.2.2.2.2.1 = -1 ∨ (0 ≤ w.2.2.2.2.1 ∧ w.2.2.2.2.1 ≤ 11))) (e : sX5_keepTakes F h (V 6) = some o) : FrV V (wl wcl) h o ∧ hN o (V 47) = hN h (V 47) ∧ CLs V o (ms.filter tkB) :=
  ktk_4 D F (kept := []) (rest := ms) (n := 0) w5 rfl rfl (by omega) ok ⟨by rw [R.1, Nat.zero_add], Nat.le_refl _, fun j hj => absurd hj (Nat.not_lt_zero _), fun j hj => by rw [Nat.zero_add]; exact R.2 j hj⟩ e
end
end
section
/-! all moves that are tried: the pure list, and how long it is -/
def sN (f : Nat → Nat) : Nat → Nat
  | 0 => 0
  | n + 1 => sN f n + f n
theorem sn_le {f g : Nat → Nat} : ∀ n, (∀ t, t < n → f t ≤ g t) → sN f n ≤ sN g n := fun n => by
  induction n with
  | zero => exact fun _ => Nat.le_refl _
  | succ n ih =>
    intro h
    have a := ih (fun t ht => h t (by omega))
    have b := h n (by omega)
    show sN f n + f n ≤ sN g n + g n
    omega
theorem sn_add {f g : Nat → Nat} : ∀ n, sN (fun t => f t + g t) n = sN f n + sN g n := fun n => by
  induction n with
  | zero => rfl
  | succ n ih =>
    show sN (fun t => f t + g t) n + (f n + g n) = sN f n + f n + (sN g n + g n)
    omega
theorem sn_mul {f : Nat → Nat} {c : Nat} : ∀ n, sN (fun t => c * f t) n = c * sN f n := fun n => by
  induction n with
  | zero => rfl
  | succ n ih =>
    show sN (fun t => c * f t) n + c * f n = c * (sN f n + f n)
    rw [ih, Nat.mul_add]
theorem sn_k {c : Nat} : ∀ n, sN (fun _ => c) n = c * n := fun n => by
  induction n with
  | zero => rfl
  | succ n ih =>
    show sN (fun _ => c) n + c = c * (n + 1)
    rw [ih, Nat.mul_succ]
theorem sn_mo {f : Nat → Nat} {a : Nat} : ∀ b, a ≤ b → sN f a ≤ sN f b := fun b => by
  induction b with
  | zero =>
    intro h
    have : a = 0 := by omega
    rw [this]
    exact Nat.le_refl _
  | succ b ih =>
    intro h
    by_cases c : a = b + 1
    · rw [c]; exact Nat.le_refl _
    · have := ih (by omega)
      show sN f a ≤ sN f b + f b
      omega
theorem fl_sn {α : Type} (g : Nat → List α) : ∀ n, ((List.range n).flatMap g).length = sN (fun t => (g t).length) n := fun n => by
  induction n with
  | zero => rfl
  | succ n ih =>
    rw [flat_s, List.length_append, ih]
    rfl
theorem sn_one {f : Nat → Nat} {t0 : Int} (h1 : ∀ t, f t ≤ 1) (h0 : ∀ t : Nat, ¬ (t : Int) = t0 → f t = 0) : ∀ n : Nat, sN f n ≤ 1 ∧ ((n : Int) ≤ t0 → sN f n = 0) := fun n => by
  induction n with
  | zero => exact ⟨Nat.zero_le _, fun _ => rfl⟩
  | succ n ih =>
    have a := h1 n
    have b := h0 n
    refine ⟨?_, fun z => ?_⟩
    · show sN f n + f n ≤ 1
      by_cases c : (n : Int) = t0
      · have := ih.2 (by omega)
        omega
      · have := b c
        have := ih.1
        omega
    · show sN f n + f n = 0
      have := ih.2 (by omega)
      have := b (by omega)
      omega
theorem fm_64 {β : Type} {g : Nat → List β} {K : Nat} (k : K ≤ 64) (z : ∀ t, K ≤ t → t < 64 → g t = []) : (List.range 64).flatMap g = (List.range K).flatMap g := by
  rw [rg_sp k, List.flatMap_append]
  have : (List.range' K (64 - K)).flatMap g = [] := by
    rw [List.flatMap_eq_nil_iff]
    intro x hx
    rw [List.mem_range'_1] at hx
    exact z x hx.1 (by omega)
  rw [this, List.append_nil]
def lwBk (L : Nat → Nat → Int) : Prop := ∀ m : Nat, m < 12 → (0 ≤ L 81 m ∧ L 81 m ≤ 6)
/-- moves of one man to one square -/
noncomputable def moS (L : Nat → Nat → Int) (M : Nat → Int) (ov rt : Nat → Prop) (p0 : Nat) (sd : Int) (s t : Nat) : List MvT := stA L M ov p0 sd (mnO (M s)) s t ++ (if ((mnO (M s) : Nat) : Int) = L 10 0 then csD L M rt sd s (-1) t ++ csD L M rt sd s 1 t else [])
/-- moves from one square -/
noncomputable def moF (L : Nat → Nat → Int) (M : Nat → Int) (ov rt : Nat → Prop) (p0 : Nat) (sd : Int) (s : Nat) : List MvT := if 0 < M s ∧ (M s - 1) % 2 = sd then (List.range 64).flatMap (moS L M ov rt p0 sd s) else []
/-- moves out of the hand -/
def moD (L : Nat → Nat → Int) (M hd : Nat → Int) : List MvT := if L 15 0 = 0 then [] else (List.range (L 0 0 * L 1 0).toNat).flatMap (drL L M hd)
noncomputable def moA (L : Nat → Nat → Int) (M : Nat → Int) (ov rt : Nat → Prop) (p0 : Nat) (sd : Int) (hd : Nat → Int) : List MvT := (List.range 64).flatMap (moF L M ov rt p0 sd) ++ moD L M hd
theorem ldf_i {D : Nat → Nat → Int → Prop} {t : Nat} {q : Nat × Int} (e : ldF D t = some q) : IsF D t q := by
  by_cases ex : ∃ p, IsF D t p
  · have e' : ldF D t = some (Classical.choose ex) := by
      unfold ldF
      exact @dif_pos _ (Classical.propDecidable _) ex _ _ _
    rw [e'] at e
    rw [← Option.some.inj e]
    exact Classical.choose_spec ex
  · have e' : ldF D t = none := by
      unfold ldF
      exact @dif_neg _ (Classical.propDecidable _) ex _ _ _
    rw [e'] at e
    exact nomatch e
theorem rch_on {L : Nat → Nat → Int} {j : Nat} {sd : Int} {s t : Nat} {k : Int} (H : LOk L) (r : RchL L j sd s t k) : (t : Int) < L 0 0 * L 1 0 := by
  obtain ⟨_, _, _, d, _, o, e⟩ := r
  have := (tgt_on (by have := H.1; omega) o).2.1
  rw [← e] at this
  exact this
section
variable {L : Nat → Nat → Int} {M : Nat → Int} {ov rt : Nat → Prop} {p0 : Nat} {sd : Int} {m s t : Nat} {hd : Nat → Int}
theorem sta_some {q : Nat × Int} (e : ldF (ldD L M ov true sd m s) t = some q) : stA L M ov p0 sd m s t = mvL L M p0 sd m s t q.1 q.2 (prB' (ByT L ov true q.1 t)) := by
  unfold stA
  rw [e]
theorem sta_none (e : ldF (ldD L M ov true sd m s) t = none) : stA L M ov p0 sd m s t = [] := by
  unfold stA
  rw [e]
theorem mvl_len {j : Nat} {k : Int} {b : Bool} (b81 : 0 ≤ L 81 m ∧ L 81 m ≤ 6) : (mvL L M p0 sd m s t j k b).length ≤ 6 ∧ (¬ rkF L t sd = L 1 0 → (mvL L M p0 sd m s t j k b).length = 1) := by
  unfold mvL
  by_cases c : 0 < L 81 m ∧ rkF L t sd = L 1 0 ∧ ¬ (¬ L 18 0 = 0 ∧ ¬ tkV M p0 t b = -1)
  · rw [if_pos c, List.length_map, List.length_range]
    exact ⟨by omega, fun n => absurd c.2.1 n⟩
  · rw [if_neg c]
    exact ⟨by show 1 ≤ 6; decide, fun _ => rfl⟩
def owB (M : Nat → Int) (sd : Int) (t : Nat) : Nat := if 0 < M t ∧ (M t - 1) % 2 = sd then 1 else 0
def lsB (L : Nat → Nat → Int) (sd : Int) (t : Nat) : Nat := if (t : Int) < L 0 0 * L 1 0 ∧ rkF L t sd = L 1 0 then 1 else 0
theorem owb_1 : owB M sd t ≤ 1 := by
  unfold owB
  split <;> omega
theorem sta_len (H : LOk L) (ove : ∀ q, ov q → M q = 0) (b81 : 0 ≤ L 81 m ∧ L 81 m ≤ 6) : (stA L M ov p0 sd m s t).length + owB M sd t ≤ 1 + 5 * lsB L sd t := by
  cases e : ldF (ldD L M ov true sd m s) t with
  | none =>
    rw [sta_none e]
    have := owb_1 (M := M) (sd := sd) (t := t)
    show 0 + _ ≤ _
    omega
  | some q =>
    rw [sta_some e]
    obtain ⟨⟨i, _, _, ld, g⟩, _⟩ := ldf_i e
    have no : owB M sd t = 0 := if_neg (fun z => by
      rcases g with ⟨_, _, o⟩ | ⟨_, n, _⟩ | ⟨n, _⟩
      · have := ove t o
        have := z.1
        omega
      · exact n z.2
      · exact n z.1)
    have ml := mvl_len (L := L) (M := M) (p0 := p0) (sd := sd) (s := s) (t := t) (j := q.1) (k := q.2) (b := prB' (ByT L ov true q.1 t)) b81
    by_cases c : rkF L t sd = L 1 0
    · have : lsB L sd t = 1 := if_pos ⟨rch_on H ld.1, c⟩
      omega
    · have := ml.2 c
      omega
theorem sta_6 (b81 : 0 ≤ L 81 m ∧ L 81 m ≤ 6) : (stA L M ov p0 sd m s t).length ≤ 6 := by
  cases e : ldF (ldD L M ov true sd m s) t with
  | none =>
    rw [sta_none e]
    exact Nat.zero_le _
  | some q =>
    rw [sta_some e]
    exact (mvl_len b81).1
theorem csd_len {d : Int} : (csD L M rt sd s d t).length ≤ 1 := by
  by_cases ex : ∃ p, (t : Int) = (s : Int) + 2 * d ∧ CstP L M rt sd s d p
  · obtain ⟨p, et, z⟩ := ex
    rw [csd_y et z]
    exact Nat.le_refl _
  · rw [csd_n (fun p a b => ex ⟨p, a, b⟩)]
    exact Nat.zero_le _
theorem csd_sum {d : Int} (n : Nat) : sN (fun t => (csD L M rt sd s d t).length) n ≤ 1 :=
  (sn_one (t0 := (s : Int) + 2 * d) (fun _ => csd_len) (fun t n => by rw [csd_n (fun p y => absurd y n)]; rfl) n).1
theorem mos_le : (moS L M ov rt p0 sd s t).length ≤ (stA L M ov p0 sd (mnO (M s)) s t).length + ((csD L M rt sd s (-1) t).length + (csD L M rt sd s 1 t).length) := by
  unfold moS
  rw [List.length_append]
  split
  · rw [List.length_append]
    exact Nat.le_refl _
  · show _ + 0 ≤ _
    omega
theorem mos_8 (b81 : 0 ≤ L 81 (mnO (M s)) ∧ L 81 (mnO (M s)) ≤ 6) : (moS L M ov rt p0 sd s t).length ≤ 8 := by
  have a := mos_le (L := L) (M := M) (ov := ov) (rt := rt) (p0 := p0) (sd := sd) (s := s) (t := t)
  have b := sta_6 (L := L) (M := M) (ov := ov) (p0 := p0) (sd := sd) (s := s) (t := t) b81
  have c := csd_len (L := L) (M := M) (rt := rt) (sd := sd) (s := s) (t := t) (d := -1)
  have d := csd_len (L := L) (M := M) (rt := rt) (sd := sd) (s := s) (t := t) (d := 1)
  omega
theorem ls_all : ∀ a r : Fin 9, 3 ≤ a.val → sN (fun t => if t / a.val = r.val then 1 else 0) 64 ≤ 8 := by decide +kernel
theorem ls_8 (H : LOk L) : sN (lsB L sd) 64 ≤ 8 := by
  obtain ⟨a, ea⟩ : ∃ a : Nat, L 0 0 = (a : Int) := ⟨(L 0 0).toNat, by have := H.1; omega⟩
  have ra := H.2.1
  have fi := H.1
  obtain ⟨r, er⟩ : ∃ r : Nat, L 1 0 - 1 = (r : Int) := ⟨(L 1 0 - 1).toNat, by omega⟩
  have q : ∀ t : Nat, ((t / a : Nat) : Int) = (t : Int) / L 0 0 := fun t => by rw [ea]; exact Int.natCast_ediv t a
  by_cases c : sd = 0
  · refine Nat.le_trans (sn_le 64 (g := fun t => if t / a = r then 1 else 0) (fun t _ => ?_)) (ls_all ⟨a, by omega⟩ ⟨r, by omega⟩ (by show 3 ≤ a; omega))
    unfold lsB
    by_cases z : (t : Int) < L 0 0 * L 1 0 ∧ rkF L t sd = L 1 0
    · have z2 := z.2
      unfold rkF at z2
      rw [if_pos c] at z2
      have := q t
      show _ ≤ if t / a = r then 1 else 0
      rw [if_pos z, if_pos (by omega)]
      exact Nat.le_refl _
    · rw [if_neg z]
      exact Nat.zero_le _
  · refine Nat.le_trans (sn_le 64 (g := fun t => if t / a = 0 then 1 else 0) (fun t _ => ?_)) (ls_all ⟨a, by omega⟩ ⟨0, by omega⟩ (by show 3 ≤ a; omega))
    unfold lsB
    by_cases z : (t : Int) < L 0 0 * L 1 0 ∧ rkF L t sd = L 1 0
    · have z2 := z.2
      unfold rkF at z2
      rw [if_neg c] at z2
      have := q t
      show _ ≤ if t / a = 0 then 1 else 0
      rw [if_pos z, if_pos (by omega)]
      exact Nat.le_refl _
    · rw [if_neg z]
      exact Nat.zero_le _
def nOw (M : Nat → Int) (sd : Int) : Nat := sN (owB M sd) 64
theorem now_64 : nOw M sd ≤ 64 := by
  have := sn_le (f := owB M sd) (g := fun _ => 1) 64 (fun t _ => owb_1)
  rw [sn_k] at this
  exact this
theorem mos_sum (H : LOk L) (ove : ∀ q, ov q → M q = 0) (b81 : 0 ≤ L 81 (mnO (M s)) ∧ L 81 (mnO (M s)) ≤ 6) : sN (fun t => (moS L M ov rt p0 sd s t).length) 64 + nOw M sd ≤ 106 := by
  unfold nOw
  rw [← sn_add]
  have a := sn_le (f := fun t => (moS L M ov rt p0 sd s t).length + owB M sd t) (g := fun t => (1 + 5 * lsB L sd t) + ((csD L M rt sd s (-1) t).length + (csD L M rt sd s 1 t).length)) 64 (fun t _ => by
    have a := mos_le (L := L) (M := M) (ov := ov) (rt := rt) (p0 := p0) (sd := sd) (s := s) (t := t)
    have b := sta_len (L := L) (M := M) (ov := ov) (p0 := p0) (sd := sd) (s := s) (t := t) H ove b81
    show _ + _ ≤ _
    omega)
  rw [sn_add (f := fun t => 1 + 5 * lsB L sd t) (g := fun t => (csD L M rt sd s (-1) t).length + (csD L M rt sd s 1 t).length), sn_add (f := fun _ => 1) (g := fun t => 5 * lsB L sd t), sn_add (f := fun t => (csD L M rt sd s (-1) t).length) (g := fun t => (csD L M rt sd s 1 t).length), sn_k, sn_mul] at a
  have b := ls_8 (L := L) (sd := sd) H
  have c := csd_sum (L := L) (M := M) (rt := rt) (sd := sd) (s := s) (d := -1) 64
  have d := csd_sum (L := L) (M := M) (rt := rt) (sd := sd) (s := s) (d := 1) 64
  omega
theorem mno_12 (H : LOk L) (HM : MOk L M) (s64 : s < 64) (m0 : 0 < M s) : mnO (M s) < 12 := by
  have L2 := H.2.2.1
  have := (mno_lt (L := L) m0 ((HM s s64).2 m0).2).1
  omega
theorem mof_len (H : LOk L) (HM : MOk L M) (B : lwBk L) (ove : ∀ q, ov q → M q = 0) (s64 : s < 64) : (moF L M ov rt p0 sd s).length ≤ (106 - nOw M sd) * owB M sd s := by
  unfold moF owB
  by_cases c : 0 < M s ∧ (M s - 1) % 2 = sd
  · rw [if_pos c, if_pos c, fl_sn, Nat.mul_one]
    have := mos_sum (L := L) (M := M) (ov := ov) (rt := rt) (p0 := p0) (sd := sd) (s := s) H ove (B _ (mno_12 H HM s64 c.1))
    omega
  · rw [if_neg c, if_neg c]
    exact Nat.zero_le _
theorem mof_512 (H : LOk L) (HM : MOk L M) (B : lwBk L) (s64 : s < 64) : (moF L M ov rt p0 sd s).length ≤ 512 := by
  unfold moF
  by_cases c : 0 < M s ∧ (M s - 1) % 2 = sd
  · rw [if_pos c, fl_sn]
    have := sn_le (f := fun t => (moS L M ov rt p0 sd s t).length) (g := fun _ => 8) 64 (fun t _ => mos_8 (B _ (mno_12 H HM s64 c.1)))
    rw [sn_k] at this
    exact this
  · rw [if_neg c]
    exact Nat.zero_le _
theorem mofs_len (H : LOk L) (HM : MOk L M) (B : lwBk L) (ove : ∀ q, ov q → M q = 0) {n : Nat} (hn : n ≤ 64) : ((List.range n).flatMap (moF L M ov rt p0 sd)).length ≤ (106 - nOw M sd) * nOw M sd := by
  rw [fl_sn]
  have a := sn_le (f := fun s => (moF L M ov rt p0 sd s).length) (g := fun s => (106 - nOw M sd) * owB M sd s) n (fun s hs => mof_len H HM B ove (by omega))
  rw [sn_mul] at a
  exact Nat.le_trans a (Nat.mul_le_mul_left _ (sn_mo 64 hn))
theorem mofs_crude (H : LOk L) (HM : MOk L M) (B : lwBk L) {n : Nat} (hn : n ≤ 64) : ((List.range n).flatMap (moF L M ov rt p0 sd)).length ≤ 512 * n := by
  rw [fl_sn]
  have a := sn_le (f := fun s => (moF L M ov rt p0 sd s).length) (g := fun _ => 512) n (fun s hs => mof_512 H HM B (by omega))
  rw [sn_k] at a
  exact a
theorem drl_own (H : LOk L) : (drL L M hd t).length + 12 * owB M sd t ≤ 12 := by
  unfold owB
  by_cases c : 0 < M t ∧ (M t - 1) % 2 = sd
  · rw [if_pos c]
    unfold drL
    rw [if_neg (by have := c.1; omega)]
    exact Nat.le_refl _
  · rw [if_neg c]
    have := drl_len (M := M) (hd := hd) (t := t) H
    omega
theorem drs_len (H : LOk L) {K : Nat} (hK : K ≤ 64) : ((List.range K).flatMap (drL L M hd)).length + 12 * nOw M sd ≤ 768 := by
  rw [fl_sn]
  have a := sn_le (f := fun t => (drL L M hd t).length + 12 * owB M sd t) (g := fun _ => 12) 64 (fun t _ => drl_own H)
  rw [sn_add, sn_mul, sn_k] at a
  have b := sn_mo (f := fun t => (drL L M hd t).length) 64 hK
  unfold nOw
  omega
theorem mo_num : ∀ n : Fin 65, (106 - n.val) * n.val + (768 - 12 * n.val) ≤ 2977 := by decide +kernel
/-- no more than 2977 moves -/
theorem mo_2977 (H : LOk L) (HM : MOk L M) (B : lwBk L) (ove : ∀ q, ov q → M q = 0) {n K : Nat} (hn : n ≤ 64) (hK : K ≤ 64) : ((List.range n).flatMap (moF L M ov rt p0 sd) ++ (List.range K).flatMap (drL L M hd)).length ≤ 2977 := by
  rw [List.length_append]
  have a := mofs_len (L := L) (M := M) (ov := ov) (rt := rt) (p0 := p0) (sd := sd) H HM B ove hn
  have b := drs_len (L := L) (M := M) (sd := sd) (hd := hd) H hK
  have c := now_64 (M := M) (sd := sd)
  have d := mo_num ⟨nOw M sd, by omega⟩
  have d : (106 - nOw M sd) * nOw M sd + (768 - 12 * nOw M sd) ≤ 2977 := d
  omega
/-- no move leaves the board -/
theorem mos_64 (H : LOk L) (sL : (s : Int) < L 0 0 * L 1 0) (tL : ¬ (t : Int) < L 0 0 * L 1 0) : moS L M ov rt p0 sd s t = [] := by
  have a : stA L M ov p0 sd (mnO (M s)) s t = [] := sta_n (fun j k ⟨_, _, _, ld, _⟩ => tL (rch_on H ld.1))
  have b : ∀ {d : Int}, (d = 1 ∨ d = -1) → csD L M rt sd s d t = [] := fun id => csd_n (fun p et z => by
    have := (nrm_3 H sL id z.1 z.2.1).2.1.2
    omega)
  unfold moS
  rw [a, b (Or.inr rfl), b (Or.inl rfl)]
  split <;> rfl
theorem mof_64 (HM : MOk L M) (s64 : s < 64) (sL : ¬ (s : Int) < L 0 0 * L 1 0) : moF L M ov rt p0 sd s = [] :=
  if_neg (fun z => sL ((HM s s64).2 z.1).1)
end
end
