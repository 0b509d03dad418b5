/-! moves as lists; the reference's trySteps -/
/-- from, to, man, what he becomes, whom he takes, kind, more -/
abbrev MvT := Int × Int × Int × Int × Int × Int × Int
def IsF (D : Nat → Nat → Int → Prop) (t : Nat) (p : Nat × Int) : Prop := D p.1 t p.2 ∧ ∀ j k, D j t k → p.1 ≤ j
noncomputable def ldF (D : Nat → Nat → Int → Prop) (t : Nat) : Option (Nat × Int) := @dite _ (∃ p, IsF D t p) (Classical.propDecidable _) (fun h => some (Classical.choose h)) (fun _ => none)
theorem ldf_n {D : Nat → Nat → Int → Prop} {t : Nat} (n : ∀ j k, ¬ D j t k) : ldF D t = none := by
  unfold ldF
  exact dif_neg (fun ⟨p, h⟩ => n _ _ h.1)
theorem ldf_s {D : Nat → Nat → Int → Prop} {t j : Nat} {k : Int} (d : D j t k) (m : ∀ j' k', D j' t k' → j ≤ j') (u : ∀ k', D j t k' → k' = k) : ldF D t = some (j, k) := by
  have ex : ∃ p, IsF D t p := ⟨(j, k), d, m⟩
  have c := Classical.choose_spec ex
  have e : ldF D t = some (Classical.choose ex) := by
    unfold ldF
    exact dif_pos ex
  rw [e]
  have j1 : (Classical.choose ex).1 = j := Nat.le_antisymm (c.2 j k d) (m _ _ c.1)
  have k1 : (Classical.choose ex).2 = k := u _ (by rw [← j1]; exact c.1)
  rw [← j1, ← k1]
noncomputable def prB' (P : Prop) : Bool := @decide P (Classical.propDecidable _)
theorem prb_e {P : Prop} : prB' P = true ↔ P := @decide_eq_true_iff _ (Classical.propDecidable _)
theorem prb_f {P : Prop} : prB' P = false ↔ ¬ P := @decide_eq_false_iff_not _ (Classical.propDecidable _)
/-- leads of a man -/
def ldD (L : Nat → Nat → Int) (M : Nat → Int) (ov : Nat → Prop) (ct : Bool) (sd : Int) (m s : Nat) : Nat → Nat → Int → Prop := fun j t k => ∃ i : Nat, (i : Int) < L 74 m ∧ j = 8 * m + i ∧ LdG L M ov ct sd j s t k
/-- whom a move takes -/
def tkV (M : Nat → Int) (p0 t : Nat) (by' : Bool) : Int := if by' = true then ((mnO (M p0) : Nat) : Int) else if 0 < M t then ((mnO (M t) : Nat) : Int) else -1
/-- moves to one square by one lead -/
def mvL (L : Nat → Nat → Int) (M : Nat → Int) (p0 : Nat) (sd : Int) (m s t j : Nat) (k : Int) (by' : Bool) : List MvT :=
  if 0 < L 81 m ∧ rkF L t sd = L 1 0 ∧ ¬ (¬ L 18 0 = 0 ∧ ¬ tkV M p0 t by' = -1) then (List.range (L 81 m).toNat).map (fun q => ((s : Int), (t : Int), (m : Int), L 80 (6 * m + q), tkV M p0 t by', (if by' = true then 1 else 0), (if fbt (L 75 j) 4 = true ∧ 1 < k then k else 0))) else [((s : Int), (t : Int), (m : Int), -1, tkV M p0 t by', (if by' = true then 1 else 0), (if fbt (L 75 j) 4 = true ∧ 1 < k then k else 0))]
noncomputable def stA (L : Nat → Nat → Int) (M : Nat → Int) (ov : Nat → Prop) (p0 : Nat) (sd : Int) (m s t : Nat) : List MvT := match ldF (ldD L M ov true sd m s) t with
  | none => []
  | some q => mvL L M p0 sd m s t q.1 q.2 (prB' (ByT L ov true q.1 t))
theorem ldd_u {L : Nat → Nat → Int} {M : Nat → Int} {ov : Nat → Prop} {ct : Bool} {sd : Int} {m s j t : Nat} {k k' : Int} (Hst : ∀ x : Nat, (x : Int) < L 74 m → StR L (8 * m + x)) (a : ldD L M ov ct sd m s j t k) (b : ldD L M ov ct sd m s j t k') : k' = k := by
  obtain ⟨i, hi, e, g, _⟩ := a
  obtain ⟨_, _, _, g', _⟩ := b
  rw [e] at g g'
  exact rch_u (Hst i hi).2.2.2.1 g'.1.2 g.1.2
/-- a row of the reference's list -/
def rowM (V : Nat → Nat) (h : Hp) (i : Nat) : MvT := ((hI h (V 66) i).toInt, (hI h (V 67) i).toInt, (hI h (V 68) i).toInt, (hI h (V 69) i).toInt, (hI h (V 70) i).toInt, (hI h (V 71) i).toInt, (hI h (V 72) i).toInt)
def RLs (V : Nat → Nat) (h : Hp) (ms : List MvT) : Prop := (hI h (V 14) 0).toInt = (ms.length : Int) ∧ ∀ i, i < ms.length → ms[i]? = some (rowM V h i)
def WMf (V : Nat → Nat) (h : Hp) : Prop := hR h (V 14) 1 = some (V 66) ∧ hR h (V 14) 2 = some (V 67) ∧ hR h (V 14) 3 = some (V 68) ∧ hR h (V 14) 4 = some (V 69) ∧ hR h (V 14) 5 = some (V 70) ∧ hR h (V 14) 6 = some (V 71) ∧ hR h (V 14) 7 = some (V 72)
abbrev wml : List (Nat × Nat) := [(14, 0), (66, 999), (67, 999), (68, 999), (69, 999), (70, 999), (71, 999), (72, 999)]
section
variable {F : Nat} {V : Nat → Nat} {L : Nat → Nat → Int} {M : Nat → Int} {h o : Hp}
theorem rls_k {h' : Hp} {ms : List MvT} (R : RLs V h ms) (a : hI h' (V 14) 0 = hI h (V 14) 0) (b : ∀ k i, 66 ≤ k → k ≤ 72 → hI h' (V k) i = hI h (V k) i) : RLs V h' ms := by
  refine ⟨by rw [a]; exact R.1, fun i hi => ?_⟩
  rw [R.2 i hi]
  unfold rowM
  rw [b 66 i (by decide) (by decide), b 67 i (by decide) (by decide), b 68 i (by decide) (by decide), b 69 i (by decide) (by decide), b 70 i (by decide) (by decide), b 71 i (by decide) (by decide), b 72 i (by decide) (by decide)]
theorem rls_f (D : VD V) {h' : Hp} {ms : List MvT} {Ls : List (Nat × Nat)} (R : RLs V h ms) (A : FrV V (wl Ls) h h') (n : ∀ p, p ∈ Ls → p.1 ∈ vql ∧ ¬ p.1 = 14 ∧ ¬ (66 ≤ p.1 ∧ p.1 ≤ 72)) : RLs V h' ms := by
  have hL : ∀ p, p ∈ Ls → p.1 ∈ vql := fun p hp => (n p hp).1
  refine rls_k R (fvI D A 14 0 (fun p hp => (n p hp).2.1) (by decide) hL) (fun k i k0 k1 => fvI D A k i (fun p hp z => (n p hp).2.2 (by rw [z]; exact ⟨k0, k1⟩)) ?_ hL)
  have all : ∀ j : Fin 7, (66 + j.val) ∈ vql := by decide
  have := all ⟨k - 66, by omega⟩
  rw [show 66 + (k - 66) = k by omega] at this
  exact this
theorem wmf_f {W : Nat → Nat → Bool} {h' : Hp} (P : WMf V h) (A : FrV V W h h') : WMf V h' := by
  obtain ⟨a, b, c, d, e, f, g⟩ := P
  exact ⟨by rw [A.1]; exact a, by rw [A.1]; exact b, by rw [A.1]; exact c, by rw [A.1]; exact d, by rw [A.1]; exact e, by rw [A.1]; exact f, by rw [A.1]; exact g⟩
/-- one move more -/
theorem add_r (D : VD V) {ms : List MvT} {x1 x2 x3 x4 x5 x6 x7 : Int32} (W : WMf V h) (R : RLs V h ms) (lm : ms.length < 2147483647) (e : sX13_add h (V 14) x1 x2 x3 x4 x5 x6 x7 = some o) : FrV V (wl wml) h o ∧ RLs V o (ms ++ [(x1.toInt, x2.toInt, x3.toInt, x4.toInt, x5.toInt, x6.toInt, x7.toInt)]) := by
  have z1 : (1 : Int32).toInt = 1 := rfl
  obtain ⟨w1, w2, w3, w4, w5, w6, w7⟩ := W
  have n0 := R.1
  have cn : (hI h (V 14) 0).toNatClampNeg = ms.length := by have := nc_i (x := hI h (V 14) 0) (by omega); omega
  unfold sX13_add at e
  replace e := ce_e w1 e
  replace e := gg_e e
  replace e := nm_s e; obtain ⟨g1, u1, e⟩ := e
  have c1 : hI g1 (V 14) 0 = hI h (V 14) 0 := by rw [u1, rI_a (vne D)]
  replace e := ce_e (show hR g1 (V 14) 2 = some (V 67) by rw [u1]; exact w2) e
  replace e := gg_e e
  replace e := nm_s e; obtain ⟨g2, u2, e⟩ := e
  have c2 : hI g2 (V 14) 0 = hI h (V 14) 0 := by rw [u2, rI_a (vne D), c1]
  replace e := ce_e (show hR g2 (V 14) 3 = some (V 68) by rw [u2, u1]; exact w3) e
  replace e := gg_e e
  replace e := nm_s e; obtain ⟨g3, u3, e⟩ := e
  have c3 : hI g3 (V 14) 0 = hI h (V 14) 0 := by rw [u3, rI_a (vne D), c2]
  replace e := ce_e (show hR g3 (V 14) 4 = some (V 69) by rw [u3, u2, u1]; exact w4) e
  replace e := gg_e e
  replace e := nm_s e; obtain ⟨g4, u4, e⟩ := e
  have c4 : hI g4 (V 14) 0 = hI h (V 14) 0 := by rw [u4, rI_a (vne D), c3]
  replace e := ce_e (show hR g4 (V 14) 5 = some (V 70) by rw [u4, u3, u2, u1]; exact w5) e
  replace e := gg_e e
  replace e := nm_s e; obtain ⟨g5, u5, e⟩ := e
  have c5 : hI g5 (V 14) 0 = hI h (V 14) 0 := by rw [u5, rI_a (vne D), c4]
  replace e := ce_e (show hR g5 (V 14) 6 = some (V 71) by rw [u5, u4, u3, u2, u1]; exact w6) e
  replace e := gg_e e
  replace e := nm_s e; obtain ⟨g6, u6, e⟩ := e
  have c6 : hI g6 (V 14) 0 = hI h (V 14) 0 := by rw [u6, rI_a (vne D), c5]
  replace e := ce_e (show hR g6 (V 14) 7 = some (V 72) by rw [u6, u5, u4, u3, u2, u1]; exact w7) e
  replace e := gg_e e
  replace e := nm_s e; obtain ⟨g7, u7, e⟩ := e
  have c7 : hI g7 (V 14) 0 = hI h (V 14) 0 := by rw [u7, rI_a (vne D), c6]
  replace e := nm_s e; obtain ⟨g8, u8, e⟩ := e
  rw [cn] at u1
  rw [c1, cn] at u2
  rw [c2, cn] at u3
  rw [c3, cn] at u4
  rw [c4, cn] at u5
  rw [c5, cn] at u6
  rw [c6, cn] at u7
  rw [c7] at u8
  rw [so_e e]
  have A : FrV V (wl wml) h g8 := fv_t (g2 := g7) (fv_t (g2 := g6) (fv_t (g2 := g5) (fv_t (g2 := g4) (fv_t (g2 := g3) (fv_t (g2 := g2) (fv_t (g2 := g1) (by rw [u1]; exact fv_w (wl_9 (by decide))) (by rw [u2]; exact fv_w (wl_9 (by decide)))) (by rw [u3]; exact fv_w (wl_9 (by decide)))) (by rw [u4]; exact fv_w (wl_9 (by decide)))) (by rw [u5]; exact fv_w (wl_9 (by decide)))) (by rw [u6]; exact fv_w (wl_9 (by decide)))) (by rw [u7]; exact fv_w (wl_9 (by decide)))) (by rw [u8]; exact fv_w rfl)
  have r66 : ∀ i, hI g8 (V 66) i = if i = ms.length then x1 else hI h (V 66) i := fun i => by
    rw [u8, rI_a (vne D), u7, rI_a (vne D), u6, rI_a (vne D), u5, rI_a (vne D), u4, rI_a (vne D), u3, rI_a (vne D), u2, rI_a (vne D), u1, r_I]
    by_cases c : i = ms.length
    · rw [if_pos ⟨rfl, c⟩, if_pos c]
    · rw [if_neg (fun z => c z.2), if_neg c]
  have r67 : ∀ i, hI g8 (V 67) i = if i = ms.length then x2 else hI h (V 67) i := fun i => by
    rw [u8, rI_a (vne D), u7, rI_a (vne D), u6, rI_a (vne D), u5, rI_a (vne D), u4, rI_a (vne D), u3, rI_a (vne D), u2, r_I]
    by_cases c : i = ms.length
    · rw [if_pos ⟨rfl, c⟩, if_pos c]
    · rw [if_neg (fun z => c z.2), if_neg c, u1, rI_a (vne D)]
  have r68 : ∀ i, hI g8 (V 68) i = if i = ms.length then x3 else hI h (V 68) i := fun i => by
    rw [u8, rI_a (vne D), u7, rI_a (vne D), u6, rI_a (vne D), u5, rI_a (vne D), u4, rI_a (vne D), u3, r_I]
    by_cases c : i = ms.length
    · rw [if_pos ⟨rfl, c⟩, if_pos c]
    · rw [if_neg (fun z => c z.2), if_neg c, u2, rI_a (vne D), u1, rI_a (vne D)]
  have r69 : ∀ i, hI g8 (V 69) i = if i = ms.length then x4 else hI h (V 69) i := fun i => by
    rw [u8, rI_a (vne D), u7, rI_a (vne D), u6, rI_a (vne D), u5, rI_a (vne D), u4, r_I]
    by_cases c : i = ms.length
    · rw [if_pos ⟨rfl, c⟩, if_pos c]
    · rw [if_neg (fun z => c z.2), if_neg c, u3, rI_a (vne D), u2, rI_a (vne D), u1, rI_a (vne D)]
  have r70 : ∀ i, hI g8 (V 70) i = if i = ms.length then x5 else hI h (V 70) i := fun i => by
    rw [u8, rI_a (vne D), u7, rI_a (vne D), u6, rI_a (vne D), u5, r_I]
    by_cases c : i = ms.length
    · rw [if_pos ⟨rfl, c⟩, if_pos c]
    · rw [if_neg (fun z => c z.2), if_neg c, u4, rI_a (vne D), u3, rI_a (vne D), u2, rI_a (vne D), u1, rI_a (vne D)]
  have r71 : ∀ i, hI g8 (V 71) i = if i = ms.length then x6 else hI h (V 71) i := fun i => by
    rw [u8, rI_a (vne D), u7, rI_a (vne D), u6, r_I]
    by_cases c : i = ms.length
    · rw [if_pos ⟨rfl, c⟩, if_pos c]
    · rw [if_neg (fun z => c z.2), if_neg c, u5, rI_a (vne D), u4, rI_a (vne D), u3, rI_a (vne D), u2, rI_a (vne D), u1, rI_a (vne D)]
  have r72 : ∀ i, hI g8 (V 72) i = if i = ms.length then x7 else hI h (V 72) i := fun i => by
    rw [u8, rI_a (vne D), u7, r_I]
    by_cases c : i = ms.length
    · rw [if_pos ⟨rfl, c⟩, if_pos c]
    · rw [if_neg (fun z => c z.2), if_neg c, u6, rI_a (vne D), u5, rI_a (vne D), u4, rI_a (vne D), u3, rI_a (vne D), u2, rI_a (vne D), u1, rI_a (vne D)]
  refine ⟨A, ?_, fun i hi => ?_⟩
  · rw [u8, rI_s, ta (by rw [n0, z1]; omega), n0, z1, List.length_append]
    rfl
  · rw [List.length_append] at hi
    have hi' : i < ms.length + 1 := hi
    unfold rowM
    rw [r66, r67, r68, r69, r70, r71, r72]
    by_cases c : i = ms.length
    · rw [if_pos c, if_pos c, if_pos c, if_pos c, if_pos c, if_pos c, if_pos c, c, List.getElem?_append_right (Nat.le_refl _), Nat.sub_self]
      rfl
    · rw [if_neg c, if_neg c, if_neg c, if_neg c, if_neg c, if_neg c, if_neg c, List.getElem?_append_left (by omega)]
      exact R.2 i (by omega)
end
