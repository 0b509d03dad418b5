section
/-! moves as lists; the reference's trySteps -/
/-- from, to, man, what he becomes, whom he takes, kind, more -/
abbrev MvT := Int × Int × Int × Int × Int × Int × Int
def IsF (D : Nat → Nat → Int → Prop) (t : Nat) (p : Nat × Int) : Prop := D p.1 t p.2 ∧ ∀ j k, D j t k → p.1 ≤ j
noncomputable def ldF (D : Nat → Nat → Int → Prop) (t : Nat) : Option (Nat × Int) := @dite _ (∃ p, IsF D t p) (Classical.propDecidable _) (fun h => some (Classical.choose h)) (fun _ => none)
theorem ldf_n {D : Nat → Nat → Int → Prop} {t : Nat} (n : ∀ j k, ¬ D j t k) : ldF D t = none := by
  unfold ldF
  exact dif_neg (fun ⟨p, h⟩ => n _ _ h.1)
theorem ldf_s {D : Nat → Nat → Int → Prop} {t j : Nat} {k : Int} (d : D j t k) (m : ∀ j' k', D j' t k' → j ≤ j') (u : ∀ k', D j t k' → k' = k) : ldF D t = some (j, k) := by
  have ex : ∃ p, IsF D t p := ⟨(j, k), d, m⟩
  have c := Classical.choose_spec ex
  have e : ldF D t = some (Classical.choose ex) := by
    unfold ldF
    exact dif_pos ex
  rw [e]
  have j1 : (Classical.choose ex).1 = j := Nat.le_antisymm (c.2 j k d) (m _ _ c.1)
  have k1 : (Classical.choose ex).2 = k := u _ (by rw [← j1]; exact c.1)
  rw [← j1, ← k1]
noncomputable def prB' (P : Prop) : Bool := @decide P (Classical.propDecidable _)
theorem prb_e {P : Prop} : prB' P = true ↔ P := @decide_eq_true_iff _ (Classical.propDecidable _)
theorem prb_f {P : Prop} : prB' P = false ↔ ¬ P := @decide_eq_false_iff_not _ (Classical.propDecidable _)
/-- leads of a man -/
def ldD (L : Nat → Nat → Int) (M : Nat → Int) (ov : Nat → Prop) (ct : Bool) (sd : Int) (m s : Nat) : Nat → Nat → Int → Prop := fun j t k => ∃ i : Nat, (i : Int) < L 74 m ∧ j = 8 * m + i ∧ LdG L M ov ct sd j s t k
/-- whom a move takes -/
def tkV (M : Nat → Int) (p0 t : Nat) (by' : Bool) : Int := if by' = true then ((mnO (M p0) : Nat) : Int) else if 0 < M t then ((mnO (M t) : Nat) : Int) else -1
/-- moves to one square by one lead -/
def mvL (L : Nat → Nat → Int) (M : Nat → Int) (p0 : Nat) (sd : Int) (m s t j : Nat) (k : Int) (by' : Bool) : List MvT :=
  if 0 < L 81 m ∧ rkF L t sd = L 1 0 ∧ ¬ (¬ L 18 0 = 0 ∧ ¬ tkV M p0 t by' = -1) then (List.range (L 81 m).toNat).map (fun q => ((s : Int), (t : Int), (m : Int), L 80 (6 * m + q), tkV M p0 t by', (if by' = true then 1 else 0), (if fbt (L 75 j) 4 = true ∧ 1 < k then k else 0))) else [((s : Int), (t : Int), (m : Int), -1, tkV M p0 t by', (if by' = true then 1 else 0), (if fbt (L 75 j) 4 = true ∧ 1 < k then k else 0))]
noncomputable def stA (L : Nat → Nat → Int) (M : Nat → Int) (ov : Nat → Prop) (p0 : Nat) (sd : Int) (m s t : Nat) : List MvT := match ldF (ldD L M ov true sd m s) t with
  | none => []
  | some q => mvL L M p0 sd m s t q.1 q.2 (prB' (ByT L ov true q.1 t))
theorem ldd_u {L : Nat → Nat → Int} {M : Nat → Int} {ov : Nat → Prop} {ct : Bool} {sd : Int} {m s j t : Nat} {k k' : Int} (Hst : ∀ x : Nat, (x : Int) < L 74 m → StR L (8 * m + x)) (a : ldD L M ov ct sd m s j t k) (b : ldD L M ov ct sd m s j t k') : k' = k := by
  obtain ⟨i, hi, e, g, _⟩ := a
  obtain ⟨_, _, _, g', _⟩ := b
  rw [e] at g g'
  exact rch_u (Hst i hi).2.2.2.1 g'.1.2 g.1.2
/-- a row of the reference's list -/
def rowM (V : Nat → Nat) (h : Hp) (i : Nat) : MvT := ((hI h (V 66) i).toInt, (hI h (V 67) i).toInt, (hI h (V 68) i).toInt, (hI h (V 69) i).toInt, (hI h (V 70) i).toInt, (hI h (V 71) i).toInt, (hI h (V 72) i).toInt)
def RLs (V : Nat → Nat) (h : Hp) (ms : List MvT) : Prop := (hI h (V 14) 0).toInt = (ms.length : Int) ∧ ∀ i, i < ms.length → ms[i]? = some (rowM V h i)
def WMf (V : Nat → Nat) (h : Hp) : Prop := hR h (V 14) 1 = some (V 66) ∧ hR h (V 14) 2 = some (V 67) ∧ hR h (V 14) 3 = some (V 68) ∧ hR h (V 14) 4 = some (V 69) ∧ hR h (V 14) 5 = some (V 70) ∧ hR h (V 14) 6 = some (V 71) ∧ hR h (V 14) 7 = some (V 72)
abbrev wml : List (Nat × Nat) := [(14, 0), (66, 999), (67, 999), (68, 999), (69, 999), (70, 999), (71, 999), (72, 999)]
section
variable {F : Nat} {V : Nat → Nat} {L : Nat → Nat → Int} {M : Nat → Int} {h o : Hp}
theorem rls_k {h' : Hp} {ms : List MvT} (R : RLs V h ms) (a : hI h' (V 14) 0 = hI h (V 14) 0) (b : ∀ k i, 66 ≤ k → k ≤ 72 → hI h' (V k) i = hI h (V k) i) : RLs V h' ms := by
  refine ⟨by rw [a]; exact R.1, fun i hi => ?_⟩
  rw [R.2 i hi]
  unfold rowM
  rw [b 66 i (by decide) (by decide), b 67 i (by decide) (by decide), b 68 i (by decide) (by decide), b 69 i (by decide) (by decide), b 70 i (by decide) (by decide), b 71 i (by decide) (by decide), b 72 i (by decide) (by decide)]
theorem rls_f (D : VD V) {h' : Hp} {ms : List MvT} {Ls : List (Nat × Nat)} (R : RLs V h ms) (A : FrV V (wl Ls) h h') (n : ∀ p, p ∈ Ls → p.1 ∈ vql ∧ ¬ p.1 = 14 ∧ ¬ (66 ≤ p.1 ∧ p.1 ≤ 72)) : RLs V h' ms := by
  have hL : ∀ p, p ∈ Ls → p.1 ∈ vql := fun p hp => (n p hp).1
  refine rls_k R (fvI D A 14 0 (fun p hp => (n p hp).2.1) (by decide) hL) (fun k i k0 k1 => fvI D A k i (fun p hp z => (n p hp).2.2 (by rw [z]; exact ⟨k0, k1⟩)) ?_ hL)
  have all : ∀ j : Fin 7, (66 + j.val) ∈ vql := by decide
  have := all ⟨k - 66, by omega⟩
  rw [show 66 + (k - 66) = k by omega] at this
  exact this
theorem wmf_f {W : Nat → Nat → Bool} {h' : Hp} (P : WMf V h) (A : FrV V W h h') : WMf V h' := by
  obtain ⟨a, b, c, d, e, f, g⟩ := P
  exact ⟨by rw [A.1]; exact a, by rw [A.1]; exact b, by rw [A.1]; exact c, by rw [A.1]; exact d, by rw [A.1]; exact e, by rw [A.1]; exact f, by rw [A.1]; exact g⟩
/-- one move more -/
theorem add_r (D : VD V) {ms : List MvT} {x1 x2 x3 x4 x5 x6 x7 : Int32} (W : WMf V h) (R : RLs V h ms) (lm : ms.length < 2147483647) (e : sX13_add h (V 14) x1 x2 x3 x4 x5 x6 x7 = some o) : FrV V (wl wml) h o ∧ RLs V o (ms ++ [(x1.toInt, x2.toInt, x3.toInt, x4.toInt, x5.toInt, x6.toInt, x7.toInt)]) := by
  have z1 : (1 : Int32).toInt = 1 := rfl
  obtain ⟨w1, w2, w3, w4, w5, w6, w7⟩ := W
  have n0 := R.1
  have cn : (hI h (V 14) 0).toNatClampNeg = ms.length := by have := nc_i (x := hI h (V 14) 0) (by omega); omega
  unfold sX13_add at e
  replace e := ce_e w1 e
  replace e := gg_e e
  replace e := nm_s e; obtain ⟨g1, u1, e⟩ := e
  have c1 : hI g1 (V 14) 0 = hI h (V 14) 0 := by rw [u1, rI_a (vne D)]
  replace e := ce_e (show hR g1 (V 14) 2 = some (V 67) by rw [u1]; exact w2) e
  replace e := gg_e e
  replace e := nm_s e; obtain ⟨g2, u2, e⟩ := e
  have c2 : hI g2 (V 14) 0 = hI h (V 14) 0 := by rw [u2, rI_a (vne D), c1]
  replace e := ce_e (show hR g2 (V 14) 3 = some (V 68) by rw [u2, u1]; exact w3) e
  replace e := gg_e e
  replace e := nm_s e; obtain ⟨g3, u3, e⟩ := e
  have c3 : hI g3 (V 14) 0 = hI h (V 14) 0 := by rw [u3, rI_a (vne D), c2]
  replace e := ce_e (show hR g3 (V 14) 4 = some (V 69) by rw [u3, u2, u1]; exact w4) e
  replace e := gg_e e
  replace e := nm_s e; obtain ⟨g4, u4, e⟩ := e
  have c4 : hI g4 (V 14) 0 = hI h (V 14) 0 := by rw [u4, rI_a (vne D), c3]
  replace e := ce_e (show hR g4 (V 14) 5 = some (V 70) by rw [u4, u3, u2, u1]; exact w5) e
  replace e := gg_e e
  replace e := nm_s e; obtain ⟨g5, u5, e⟩ := e
  have c5 : hI g5 (V 14) 0 = hI h (V 14) 0 := by rw [u5, rI_a (vne D), c4]
  replace e := ce_e (show hR g5 (V 14) 6 = some (V 71) by rw [u5, u4, u3, u2, u1]; exact w6) e
  replace e := gg_e e
  replace e := nm_s e; obtain ⟨g6, u6, e⟩ := e
  have c6 : hI g6 (V 14) 0 = hI h (V 14) 0 := by rw [u6, rI_a (vne D), c5]
  replace e := ce_e (show hR g6 (V 14) 7 = some (V 72) by rw [u6, u5, u4, u3, u2, u1]; exact w7) e
  replace e := gg_e e
  replace e := nm_s e; obtain ⟨g7, u7, e⟩ := e
  have c7 : hI g7 (V 14) 0 = hI h (V 14) 0 := by rw [u7, rI_a (vne D), c6]
  replace e := nm_s e; obtain ⟨g8, u8, e⟩ := e
  rw [cn] at u1
  rw [c1, cn] at u2
  rw [c2, cn] at u3
  rw [c3, cn] at u4
  rw [c4, cn] at u5
  rw [c5, cn] at u6
  rw [c6, cn] at u7
  rw [c7] at u8
  rw [so_e e]
  have A : FrV V (wl wml) h g8 := fv_t (g2 := g7) (fv_t (g2 := g6) (fv_t (g2 := g5) (fv_t (g2 := g4) (fv_t (g2 := g3) (fv_t (g2 := g2) (fv_t (g2 := g1) (by rw [u1]; exact fv_w (wl_9 (by decide))) (by rw [u2]; exact fv_w (wl_9 (by decide)))) (by rw [u3]; exact fv_w (wl_9 (by decide)))) (by rw [u4]; exact fv_w (wl_9 (by decide)))) (by rw [u5]; exact fv_w (wl_9 (by decide)))) (by rw [u6]; exact fv_w (wl_9 (by decide)))) (by rw [u7]; exact fv_w (wl_9 (by decide)))) (by rw [u8]; exact fv_w rfl)
  have r66 : ∀ i, hI g8 (V 66) i = if i = ms.length then x1 else hI h (V 66) i := fun i => by
    rw [u8, rI_a (vne D), u7, rI_a (vne D), u6, rI_a (vne D), u5, rI_a (vne D), u4, rI_a (vne D), u3, rI_a (vne D), u2, rI_a (vne D), u1, r_I]
    by_cases c : i = ms.length
    · rw [if_pos ⟨rfl, c⟩, if_pos c]
    · rw [if_neg (fun z => c z.2), if_neg c]
  have r67 : ∀ i, hI g8 (V 67) i = if i = ms.length then x2 else hI h (V 67) i := fun i => by
    rw [u8, rI_a (vne D), u7, rI_a (vne D), u6, rI_a (vne D), u5, rI_a (vne D), u4, rI_a (vne D), u3, rI_a (vne D), u2, r_I]
    by_cases c : i = ms.length
    · rw [if_pos ⟨rfl, c⟩, if_pos c]
    · rw [if_neg (fun z => c z.2), if_neg c, u1, rI_a (vne D)]
  have r68 : ∀ i, hI g8 (V 68) i = if i = ms.length then x3 else hI h (V 68) i := fun i => by
    rw [u8, rI_a (vne D), u7, rI_a (vne D), u6, rI_a (vne D), u5, rI_a (vne D), u4, rI_a (vne D), u3, r_I]
    by_cases c : i = ms.length
    · rw [if_pos ⟨rfl, c⟩, if_pos c]
    · rw [if_neg (fun z => c z.2), if_neg c, u2, rI_a (vne D), u1, rI_a (vne D)]
  have r69 : ∀ i, hI g8 (V 69) i = if i = ms.length then x4 else hI h (V 69) i := fun i => by
    rw [u8, rI_a (vne D), u7, rI_a (vne D), u6, rI_a (vne D), u5, rI_a (vne D), u4, r_I]
    by_cases c : i = ms.length
    · rw [if_pos ⟨rfl, c⟩, if_pos c]
    · rw [if_neg (fun z => c z.2), if_neg c, u3, rI_a (vne D), u2, rI_a (vne D), u1, rI_a (vne D)]
  have r70 : ∀ i, hI g8 (V 70) i = if i = ms.length then x5 else hI h (V 70) i := fun i => by
    rw [u8, rI_a (vne D), u7, rI_a (vne D), u6, rI_a (vne D), u5, r_I]
    by_cases c : i = ms.length
    · rw [if_pos ⟨rfl, c⟩, if_pos c]
    · rw [if_neg (fun z => c z.2), if_neg c, u4, rI_a (vne D), u3, rI_a (vne D), u2, rI_a (vne D), u1, rI_a (vne D)]
  have r71 : ∀ i, hI g8 (V 71) i = if i = ms.length then x6 else hI h (V 71) i := fun i => by
    rw [u8, rI_a (vne D), u7, rI_a (vne D), u6, r_I]
    by_cases c : i = ms.length
    · rw [if_pos ⟨rfl, c⟩, if_pos c]
    · rw [if_neg (fun z => c z.2), if_neg c, u5, rI_a (vne D), u4, rI_a (vne D), u3, rI_a (vne D), u2, rI_a (vne D), u1, rI_a (vne D)]
  have r72 : ∀ i, hI g8 (V 72) i = if i = ms.length then x7 else hI h (V 72) i := fun i => by
    rw [u8, rI_a (vne D), u7, r_I]
    by_cases c : i = ms.length
    · rw [if_pos ⟨rfl, c⟩, if_pos c]
    · rw [if_neg (fun z => c z.2), if_neg c, u6, rI_a (vne D), u5, rI_a (vne D), u4, rI_a (vne D), u3, rI_a (vne D), u2, rI_a (vne D), u1, rI_a (vne D)]
  refine ⟨A, ?_, fun i hi => ?_⟩
  · rw [u8, rI_s, ta (by rw [n0, z1]; omega), n0, z1, List.length_append]
    rfl
  · rw [List.length_append] at hi
    have hi' : i < ms.length + 1 := hi
    unfold rowM
    rw [r66, r67, r68, r69, r70, r71, r72]
    by_cases c : i = ms.length
    · rw [if_pos c, if_pos c, if_pos c, if_pos c, if_pos c, if_pos c, if_pos c, c, List.getElem?_append_right (Nat.le_refl _), Nat.sub_self]
      rfl
    · rw [if_neg c, if_neg c, if_neg c, if_neg c, if_neg c, if_neg c, if_neg c, List.getElem?_append_left (by omega)]
      exact R.2 i (by omega)
end
end
section
/-! the reference: moves by STEPS to one square -/
section
variable {F : Nat} {V : Nat → Nat} {L : Nat → Nat → Int} {M : Nat → Int} {h o : Hp}
theorem lw_80 (P : RWd V h L M) (i : Nat) : (hI h (V 80) i).toInt = L 80 i ∧ (hI h (V 81) i).toInt = L 81 i ∧ (hI h (V 73) i).toInt = L 73 i := by
  rw [← P.2.1.1]
  exact ⟨rfl, rfl, rfl⟩
theorem beo_v {x : Int32} {o : Int32 × Hp} (W : RWd V h L M) (e : sX15_becomesOthers h (V 16) x = some o) : o.2 = h ∧ ((o.1 = 0 ∧ ¬ 0 < L 81 x.toNatClampNeg) ∨ (o.1 = 1 ∧ 0 < L 81 x.toNatClampNeg)) := by
  have z0 : (0 : Int32).toInt = 0 := rfl
  have l81 := (lw_80 W x.toNatClampNeg).2.1
  unfold sX15_becomesOthers sX15_becomesOthers_17 at e
  replace e := ce_e W.1.1 e
  replace e := ce_e W.1.2.2.2.2.2.2.2.2.2 e
  replace e := gg_e e
  rcases br_s e with ⟨c, e⟩ | ⟨c, e⟩
  · have c := le_i c
    rw [z0, l81] at c
    rw [so_e (gg_e e)]
    exact ⟨rfl, Or.inl ⟨rfl, by omega⟩⟩
  · have c := nle_i c
    rw [z0, l81] at c
    rw [so_e (gg_e e)]
    exact ⟨rfl, Or.inr ⟨rfl, c⟩⟩
theorem rkf_v {s sd : Int32} {o : Int32 × Hp} (H : LOk L) (W : RWd V h L M) (is : 0 ≤ s.toInt) (sL : s.toInt < L 0 0 * L 1 0) (e : sX15_rankFor h (V 16) s sd = some o) : o.2 = h ∧ o.1.toInt = rkF L s.toNatClampNeg sd.toInt := by
  have z1 : (1 : Int32).toInt = 1 := rfl
  have v := rk_val e
  obtain ⟨_, ⟨g1, g2, g3, g4⟩, _⟩ := W
  have fi := H.1
  have ra := H.2.1
  have sq := sq_64 H
  have cs := nc_i is
  have iS : Rg 0 63 s := ⟨is, by omega⟩
  have iA : Rg 3 8 (hI h (V 16) 11) := ⟨by omega, by omega⟩
  have dv := td iS iA ⟨by decide, by decide⟩
  have dr := rg_divv iS iA ⟨by decide, by decide⟩
  have dr0 := dr.1
  have dr1 := dr.2
  rw [v]
  refine ⟨rfl, ?_⟩
  show (rkV (hI h (V 16) 11) (hI h (V 16) 12) s sd).toInt = _
  unfold rkV rkF
  rw [cs]
  by_cases c : sd = 0
  · rw [if_pos c, if_pos (by rw [c]; rfl), ta (by rw [z1]; omega), z1, dv, g2]
  · rw [if_neg c, if_neg (fun z => c (Int32.toInt_inj.mp (by rw [z]; rfl))), ts (by omega), dv, g2, g3]
theorem rwd_m (D : VD V) {g : Hp} (P : RWd V h L M) (A : FrV V (wl wml) h g) : RWd V g L M := rwd_f D P A (by decide) (by decide) rfl rfl rfl
theorem range_s {α : Type} (f : Nat → α) (n : Nat) : (List.range (n + 1)).map f = (List.range n).map f ++ [f n] := by
  rw [List.range_succ, List.map_append]
  rfl
/-- all men that he may become -/
theorem ts_152 (D : VD V) {x2 x3 x4 x6 x7 x8 : Int32} {m : Nat} {ms : List MvT} (em : x4.toInt = (m : Int)) (m12 : m < 12) (b81 : L 81 m ≤ 6) : ∀ (f : Nat) {h : Hp} {x9 : Int32} {n : Nat}, x9.toInt = (n : Int) → (n : Int) ≤ L 81 m → RWd V h L M → WMf V h → RLs V h (ms ++ (List.range n).map (fun q => (x2.toInt, x3.toInt, (m : Int), L 80 (6 * m + q), x6.toInt, x8.toInt, x7.toInt))) → ms.length < 100000 → sX15_trySteps_152 F f h (V 16) x2 x3 x4 (V 14) x6 x7 x8 x9 = some o → FrV V (wl wml) h o ∧ RLs V o (ms ++ (List.range (L 81 m).toNat).map (fun q => (x2.toInt, x3.toInt, (m : Int), L 80 (6 * m + q), x6.toInt, x8.toInt, x7.toInt))) := by
  have z1 : (1 : Int32).toInt = 1 := rfl
  have z6 : (6 : Int32).toInt = 6 := rfl
  have c4 : x4.toNatClampNeg = m := by have := nc_i (x := x4) (by omega); omega
  intro f
  induction f with
  | zero => intro h x9 n _ _ _ _ _ _ e; exact absurd e (by rw [sX15_trySteps_152]; exact fun z => nomatch z)
  | succ f ih =>
    intro h x9 n i9 bn W WM R lm e
    rw [sX15_trySteps_152] at e
    unfold sX15_trySteps_223 at e
    replace e := ce_e W.1.1 e
    replace e := ce_e W.1.2.2.2.2.2.2.2.2.2 e
    replace e := gg_e e
    rw [c4] at e
    have l81 := (lw_80 W m).2.1
    rcases br_s e with ⟨l, e⟩ | ⟨l, e⟩
    · have l := le_i l
      rw [l81, i9] at l
      rw [so_e e, show (L 81 m).toNat = n by omega]
      exact ⟨fv_0, R⟩
    have l := nle_i l
    rw [l81, i9] at l
    have m6 : ((6 : Int32) * x4).toInt = 6 * (m : Int) := by rw [tm (by rw [z6, em]; omega), z6, em]
    have ix : (((6 : Int32) * x4) + x9).toNatClampNeg = 6 * m + n := by
      have a : (((6 : Int32) * x4) + x9).toInt = 6 * (m : Int) + n := by rw [ta (by rw [m6, i9]; omega), m6, i9]
      have := nc_i (x := ((6 : Int32) * x4) + x9) (by omega)
      omega
    replace e := ce_e W.1.1 e
    replace e := ce_e W.1.2.2.2.2.2.2.2.2.1 e
    replace e := gg_e e
    rw [ix] at e
    replace e := cl_s e; obtain ⟨g, eg, e⟩ := e
    obtain ⟨A, R'⟩ := add_r D WM R (by
      rw [List.length_append, List.length_map, List.length_range]; omega) eg
    rw [(lw_80 W (6 * m + n)).1, em, List.append_assoc] at R'
    obtain ⟨r1, r2⟩ := ih (n := n + 1) (by rw [ta (by rw [z1]; omega), z1]; omega) (by omega) (rwd_m D W A) (wmf_f WM A) (by rw [range_s]; exact R') lm (nx_e e)
    exact ⟨fv_t A r1, r2⟩
/-- moves to one square -/
theorem ts_r (D : VD V) {x2 x3 x4 : Int32} {s t m j p0 : Nat} {k sd : Int} {by' : Bool} {ms : List MvT} (H : LOk L) (HM : MOk L M) (W : RWd V h L M) (WM : WMf V h) (w86 : hR h (V 16) 25 = some (V 86)) (w87 : hR h (V 16) 26 = some (V 87)) (w88 : hR h (V 16) 27 = some (V 88)) (w4 : hR h (V 13) 4 = some (V 63)) (R : RLs V h ms) (lm : ms.length < 100000) (e2 : x2.toInt = (s : Int)) (e3 : x3.toInt = (t : Int)) (tL : (t : Int) < L 0 0 * L 1 0) (e4 : x4.toInt = (m : Int)) (m12 : m < 12) (b81 : 0 ≤ L 81 m ∧ L 81 m ≤ 6) (J : StR L j) (r86 : (hI h (V 86) t).toInt = (j : Int)) (r87 : (hI h (V 87) t).toInt = k) (r88 : (hI h (V 88) t = 0 ∧ by' = false) ∨ (hI h (V 88) t = 1 ∧ by' = true)) (rp : by' = true → (hI h (V 63) 0).toInt = (p0 : Int) ∧ p0 < 64 ∧ 0 < M p0) (esd : (hI h (V 13) 1).toInt = sd) (k7 : 1 ≤ k ∧ k ≤ 7) (e : sX15_trySteps F h (V 16) (V 13) x2 x3 x4 (V 14) = some o) : FrV V (wl wml) h o ∧ RLs V o (ms ++ mvL L M p0 sd m s t j k by') := by
  have z0 : (0 : Int32).toInt = 0 := rfl
  have z1 : (1 : Int32).toInt = 1 := rfl
  have zm : (-1 : Int32).toInt = -1 := by decide
  have sq := sq_64 H
  have L2 := H.2.2.1
  have c3 : x3.toNatClampNeg = t := by have := nc_i (x := x3) (by omega); omega
  have c4 : x4.toNatClampNeg = m := by have := nc_i (x := x4) (by omega); omega
  have bM := W.2.2.1
  have mM : ∀ q, q < 64 → (hI h (V 62) q).toInt = M q := W.2.2.2
  -- a man's number
  have man : ∀ {v : Int32} {q : Nat}, q < 64 → v.toInt = M q → 0 < M q → ((v - (1 : Int32)) >>> ((1 : Int32) &&& 31)).toInt = ((mnO (M q) : Nat) : Int) := fun {v q} hq hv hp => by
    have m2 := ((HM q hq).2 hp).2
    have tv : (v - (1 : Int32)).toInt = M q - 1 := by rw [ts (by rw [z1]; omega), z1, hv]
    rw [shr_i 1 (by decide), tv, (mno_lt (L := L) hp m2).2]
    rfl
  -- behind: what he becomes
  have k106 : ∀ {ta' far kd : Int32}, ta'.toInt = tkV M p0 t by' → far.toInt = (if fbt (L 75 j) 4 = true ∧ 1 < k then k else 0) → kd.toInt = (if by' = true then 1 else 0) → sX15_trySteps_106 F h (V 16) (V 13) x2 x3 x4 (V 14) ta' far kd = some o → FrV V (wl wml) h o ∧ RLs V o (ms ++ mvL L M p0 sd m s t j k by') := fun {ta' far kd} hta hfar hkd u => by
    unfold sX15_trySteps_106 sX15_trySteps_149 sX15_trySteps_207 sX15_trySteps_223 at u
    have one : (¬ (0 < L 81 m ∧ rkF L t sd = L 1 0 ∧ ¬ (¬ L 18 0 = 0 ∧ ¬ tkV M p0 t by' = -1))) → (cl (sX13_add h (V 14) x2 x3 x4 (-1 : Int32) ta' kd far) fun o_1 => some o_1) = some o → FrV V (wl wml) h o ∧ RLs V o (ms ++ mvL L M p0 sd m s t j k by') := fun no v => by
      replace v := cl_s v; obtain ⟨g, eg, v⟩ := v
      rw [so_e v]
      obtain ⟨A, R'⟩ := add_r D WM R (by omega) eg
      refine ⟨A, ?_⟩
      unfold mvL
      rw [if_neg no]
      rw [e2, e3, e4, zm, hta, hfar, hkd] at R'
      exact R'
    have many : (0 < L 81 m ∧ rkF L t sd = L 1 0 ∧ ¬ (¬ L 18 0 = 0 ∧ ¬ tkV M p0 t by' = -1)) → sX15_trySteps_152 F F h (V 16) x2 x3 x4 (V 14) ta' far kd (0 : Int32) = some o → FrV V (wl wml) h o ∧ RLs V o (ms ++ mvL L M p0 sd m s t j k by') := fun yes v => by
      obtain ⟨A, R'⟩ := ts_152 D e4 m12 b81.2 F (n := 0) rfl (by omega) W WM (by
        rw [List.range_zero, List.map_nil, List.append_nil]; exact R) lm v
      refine ⟨A, ?_⟩
      unfold mvL
      rw [if_pos yes]
      rw [e2, e3, hta, hfar, hkd] at R'
      exact R'
    replace u := cl_s u; obtain ⟨o1, eo1, u⟩ := u
    obtain ⟨w1, v1⟩ := beo_v W eo1
    rw [w1] at u
    rw [c4] at v1
    rcases br_s u with ⟨c, u⟩ | ⟨c, u⟩
    · refine one (fun z => ?_) u
      rcases v1 with ⟨_, y⟩ | ⟨y, _⟩
      · exact y z.1
      · rw [y] at c; exact absurd c (by decide)
    have b0 : 0 < L 81 m := by
      rcases v1 with ⟨y, _⟩ | ⟨_, y⟩
      · exact absurd y c
      · exact y
    replace u := cl_s u; obtain ⟨o3, eo3, u⟩ := u
    obtain ⟨w3, v3⟩ := rkf_v H W (by omega) (by omega) eo3
    rw [w3] at u
    rw [c3, esd] at v3
    have g3 := W.2.1.2.2.1
    rcases br_s u with ⟨c', u⟩ | ⟨c', u⟩
    rotate_left
    · exact one (fun z => c' (Int32.toInt_inj.mp (by rw [v3, z.2.1, g3]))) u
    have rk : rkF L t sd = L 1 0 := by rw [← v3, c', g3]
    replace u := ce_e W.1.1 u
    have l18 := lw_0 W (k := 18) (by decide) 0
    rcases br_s u with ⟨bl, u⟩ | ⟨bl, u⟩
    · refine many ⟨b0, rk, fun z => z.1 ?_⟩ u
      rw [← l18, bl]; rfl
    have bl' : ¬ L 18 0 = 0 := fun z => bl (Int32.toInt_inj.mp (by rw [l18, z]; rfl))
    rcases br_s u with ⟨tn, u⟩ | ⟨tn, u⟩
    · refine many ⟨b0, rk, fun z => z.2 ?_⟩ u
      rw [← hta, tn, zm]
    · refine one (fun z => z.2.2 ⟨bl', fun y => tn (Int32.toInt_inj.mp ?_)⟩) u
      rw [hta, y, zm]
  -- its kind
  have k90 : ∀ {ta' far : Int32}, ta'.toInt = tkV M p0 t by' → far.toInt = (if fbt (L 75 j) 4 = true ∧ 1 < k then k else 0) → sX15_trySteps_90 F h (V 16) (V 13) x2 x3 x4 (V 14) ta' far = some o → FrV V (wl wml) h o ∧ RLs V o (ms ++ mvL L M p0 sd m s t j k by') := fun {ta' far} hta hfar u => by
    unfold sX15_trySteps_90 at u
    replace u := ce_e w88 u
    replace u := gg_e u
    rcases br_s u with ⟨c, u⟩ | ⟨c, u⟩ <;> rw [c3] at c
    · refine k106 hta hfar ?_ u
      rcases r88 with ⟨_, y⟩ | ⟨y, _⟩
      · rw [y]; rfl
      · rw [y] at c; exact absurd c (by decide)
    · refine k106 hta hfar ?_ u
      rcases r88 with ⟨y, _⟩ | ⟨_, y⟩
      · exact absurd y c
      · rw [y]; rfl
  have k48 : ∀ {ta' : Int32}, ta'.toInt = tkV M p0 t by' → sX15_trySteps_48 F h (V 16) (V 13) x2 x3 x4 (V 14) ta' = some o → FrV V (wl wml) h o ∧ RLs V o (ms ++ mvL L M p0 sd m s t j k by') := fun {ta'} hta u => by
    unfold sX15_trySteps_48 sX15_trySteps_89 at u
    replace u := ce_e W.1.1 u
    replace u := ce_e W.1.2.2.2.1 u
    replace u := ce_e w86 u
    replace u := gg_e u
    replace u := gg_e u
    have cj : (hI h (V 86) t).toNatClampNeg = j := by have := nc_i (x := hI h (V 86) t) (by omega); omega
    have l75 := (lw_75 W j).1
    have fb := (fb_e (x := hI h (V 75) j) ⟨by rw [l75]; exact J.1.1, by rw [l75]; exact J.1.2⟩).2.2.2.2.1
    rw [l75] at fb
    rcases br_s u with ⟨c, u⟩ | ⟨c, u⟩ <;> rw [c3, cj] at c
    · exact k90 hta (by rw [if_neg (fun z => by rw [fb.mp c] at z; exact absurd z.1 (by decide))]; rfl) u
    have f4 : fbt (L 75 j) 4 = true := by
      cases y : fbt (L 75 j) 4 with
      | true => rfl
      | false => exact absurd (fb.mpr y) c
    replace u := ce_e w87 u
    replace u := gg_e u
    rcases br_s u with ⟨d, u⟩ | ⟨d, u⟩ <;> rw [c3] at d
    · have d := le_i d
      rw [r87, z1] at d
      exact k90 hta (by rw [if_neg (fun z => by omega)]; rfl) u
    · have d := nle_i d
      rw [r87, z1] at d
      replace u := ce_e w87 u
      replace u := gg_e u
      rw [c3] at u
      exact k90 hta (by rw [if_pos ⟨f4, d⟩, r87]) u
  unfold sX15_trySteps at e
  replace e := ce_e w88 e
  replace e := gg_e e
  rcases br_s e with ⟨c, e⟩ | ⟨c, e⟩ <;> rw [c3] at c
  · have bf : by' = false := by
      rcases r88 with ⟨_, y⟩ | ⟨y, _⟩
      · exact y
      · rw [y] at c; exact absurd c (by decide)
    replace e := ce_e bM e
    replace e := gg_e e
    rcases br_s e with ⟨d, e⟩ | ⟨d, e⟩ <;> rw [c3] at d
    · have d := le_i d
      rw [mM t (by omega), z0] at d
      refine k48 ?_ e
      unfold tkV
      rw [if_neg (by rw [bf]; decide), if_neg (by omega), zm]
    · have d := nle_i d
      rw [mM t (by omega), z0] at d
      replace e := ce_e bM e
      replace e := gg_e e
      unfold sX15_manOf at e
      replace e := cl_s e; obtain ⟨o9, eo9, e⟩ := e
      rw [so_e eo9] at e
      rw [c3] at e
      refine k48 ?_ e
      unfold tkV
      rw [if_neg (by rw [bf]; decide), if_pos d]
      exact man (by omega) (mM t (by omega)) d
  · have bt : by' = true := by
      rcases r88 with ⟨y, _⟩ | ⟨_, y⟩
      · exact absurd y c
      · exact y
    obtain ⟨q1, q2, q3⟩ := rp bt
    replace e := ce_e bM e
    replace e := ce_e w4 e
    replace e := gg_e e
    replace e := gg_e e
    have n0 : (0 : Int32).toNatClampNeg = 0 := rfl
    have cp : (hI h (V 63) (0 : Int32).toNatClampNeg).toNatClampNeg = p0 := by
      rw [n0]
      have := nc_i (x := hI h (V 63) 0) (by omega)
      omega
    unfold sX15_manOf at e
    replace e := cl_s e; obtain ⟨o14, eo14, e⟩ := e
    rw [so_e eo14] at e
    rw [cp] at e
    refine k48 ?_ e
    unfold tkV
    rw [if_pos bt]
    exact man q2 (mM p0 q2) q3
end
end
section
/-! the class: whether a way leads to its end -/
theorem wd6_all : ∀ k : Fin 8, ∀ f : Fin 64, ((nI (f.val + 64 * k.val)) &&& (63 : Int32)) = nI f.val := by decide +kernel
/-- a way's fields -/
theorem wd_f {w : Int32} {t : Nat} {fl k : Int} (ht : t < 64) (hf : 0 ≤ fl ∧ fl ≤ 63) (hk : 0 ≤ k ∧ k ≤ 7) (e : w.toInt = t + 64 * fl + 4096 * k) : (w &&& (63 : Int32)).toInt = (t : Int) ∧ ((w >>> ((6 : Int32) &&& 31)) &&& (63 : Int32)).toInt = fl ∧ (w >>> ((12 : Int32) &&& 31)).toInt = k := by
  have s6 : (w >>> ((6 : Int32) &&& 31)).toInt = w.toInt / 64 := shr_i 6 (by decide)
  have s12 : (w >>> ((12 : Int32) &&& 31)).toInt = w.toInt / 4096 := shr_i 12 (by decide)
  have c6 : ((2 ^ 6 : Nat) : Int) = 64 := by decide
  refine ⟨?_, ?_, ?_⟩
  · rw [and_i (m := 6) (by omega) (by decide) rfl, c6]; omega
  · rw [and_i (m := 6) (by rw [s6]; omega) (by decide) rfl, s6, c6]; omega
  · rw [s12]; omega
section
variable {F : Nat} {V : Nat → Nat} {h : Hp} {L : Nat → Nat → Int} {M : Nat → Int} {o : Int32 × Hp}
/-- whether the squares between let it pass -/
theorem op_v {x1 : Int32} {occ : Int64} {c s t i : Nat} {k : Int} (H : LOk L) (J : StR L (8 * (c / 2) + i)) (wc : WCf V h) (sL : (s : Int) < L 0 0 * L 1 0) (ht : t < 64) (rk : RchL L (8 * (c / 2) + i) ((c % 2 : Nat) : Int) s t k) (wd : (hI h (V 51) x1.toNatClampNeg).toInt = t + 64 * L 75 (8 * (c / 2) + i) + 4096 * k) (bt : ∀ q, q < 64 → (bitJ (hJ h (V 52) x1.toNatClampNeg) q = true ↔ ∃ j : Nat, 1 ≤ j ∧ (j : Int) < k ∧ (q : Int) = s + j * (((t : Int) - s) / k))) (bo : ∀ q, q < 64 → (bitJ occ q = true ↔ 0 < M q)) (e : sX10_isOpen h (V 11) x1 occ = some o) : o.2 = h ∧ ((o.1 = 0 ∧ ¬ cnP M s (((t : Int) - s) / k) (k - 1).toNat = ovN L (8 * (c / 2) + i)) ∨ (o.1 = 1 ∧ cnP M s (((t : Int) - s) / k) (k - 1).toNat = ovN L (8 * (c / 2) + i))) := by
  have kr := rk.2.2.1
  have k1 := rk.2.1
  have r7 := J.2.2.2.2.1
  obtain ⟨_, wd8⟩ := wd_e ht J.1 ⟨by omega, by omega⟩ wd
  obtain ⟨m0, m1⟩ := met_b (M := M) H J sL rk bt bo
  unfold sX10_isOpen sX10_isOpen_37 sX10_isOpen_61 sX10_isOpen_62 at e
  replace e := ce_e wc.2.2.1 e
  replace e := gg_e e
  replace e := nm_s e; obtain ⟨v3, u3, e⟩ := e
  rw [← u3] at m0 m1
  replace e := ce_e wc.2.1 e
  replace e := gg_e e
  have cz : ∀ y : Int64, lg_cmp y (0 : Int64) = 0 ↔ y = 0 := fun y => ⟨cmp_eq, fun z => by rw [z]; decide⟩
  rcases br_s e with ⟨ov, e⟩ | ⟨ov, e⟩
  · have o0 : ovN L (8 * (c / 2) + i) = 0 := by
      unfold ovN
      rw [if_neg (by rw [wd8.mp ov]; decide)]
    rw [o0]
    rcases br_s e with ⟨z, e⟩ | ⟨z, e⟩
    · rw [so_e (gg_e e)]
      exact ⟨rfl, Or.inr ⟨rfl, m0.mp ((cz _).mp z)⟩⟩
    · rw [so_e (gg_e e)]
      exact ⟨rfl, Or.inl ⟨rfl, fun y => z ((cz _).mpr (m0.mpr y))⟩⟩
  · have o1 : ovN L (8 * (c / 2) + i) = 1 := by
      unfold ovN
      rw [if_pos]
      cases y : fbt (L 75 (8 * (c / 2) + i)) 3 with
      | true => rfl
      | false => exact absurd (wd8.mpr y) ov
    rw [o1]
    rcases br_s e with ⟨z, e⟩ | ⟨z, e⟩
    · rw [so_e (gg_e e)]
      exact ⟨rfl, Or.inl ⟨rfl, by rw [m0.mp ((cz _).mp z)]; decide⟩⟩
    have nz : ¬ v3 = 0 := fun y => z ((cz _).mpr y)
    rcases br_s e with ⟨y, e⟩ | ⟨y, e⟩
    · rw [so_e (gg_e e)]
      exact ⟨rfl, Or.inr ⟨rfl, (m1 nz).mp ((cz _).mp y)⟩⟩
    · rw [so_e (gg_e e)]
      exact ⟨rfl, Or.inl ⟨rfl, fun x => y ((cz _).mpr ((m1 nz).mpr x))⟩⟩
theorem occ_b {v : Int64} (P1 : ∀ d, d < 2 → Bts (hJ h (V 35) d) M d) (u : v = (hJ h (V 35) 0) ||| (hJ h (V 35) 1)) : ∀ q, q < 64 → (bitJ v q = true ↔ 0 < M q) := fun q hq => by
  rw [u, bj_or, Bool.or_eq_true, P1 0 (by decide) q hq, P1 1 (by decide) q hq]
  constructor
  · rintro (z | z)
    · exact z.1
    · exact z.1
  · intro z
    by_cases c : (M q - 1) % 2 = 0
    · exact Or.inl ⟨z, c⟩
    · exact Or.inr ⟨z, by omega⟩
/-- a square's bit in a row of bits -/
theorem bit_z {A : Int64} {x : Int32} (i : Rg 0 63 x) : lg_cmp (A &&& ((1 : Int64) <<< (x.toInt64 &&& 63))) (0 : Int64) = 0 ↔ ¬ bitJ A x.toNatClampNeg = true := by
  have cx := nc_i i.1
  have x63 := i.2
  have cz : ∀ y : Int64, lg_cmp y (0 : Int64) = 0 ↔ y = 0 := fun y => ⟨cmp_eq, fun z => by rw [z]; decide⟩
  rw [cz, j_zero]
  constructor
  · intro y b
    have := y x.toNatClampNeg (by omega)
    rw [bj_and, b, bj_one i, decide_eq_true rfl] at this
    exact absurd this (by decide)
  · intro y s hs
    rw [bj_and, bj_one i]
    by_cases c : x.toNatClampNeg = s
    · rw [← c]
      cases d : bitJ A x.toNatClampNeg with
      | false => rfl
      | true => exact absurd d y
    · rw [decide_eq_false c, Bool.and_false]
theorem leads_v {x2 sd : Int32} {ov : Nat → Prop} {c s t i : Nat} {k : Int} {ro : Int} (H : LOk L) (HM : MOk L M) (J : StR L (8 * (c / 2) + i)) (w6 : hR h (V 6) 1 = some (V 11)) (wc : WCf V h) (Pc : VPc V h) (P : PosC h (V 34) (V 35) (V 36) M ro) (sL : (s : Int) < L 0 0 * L 1 0) (ht : t < 64) (rk : RchL L (8 * (c / 2) + i) ((c % 2 : Nat) : Int) s t k) (wd : (hI h (V 51) x2.toNatClampNeg).toInt = t + 64 * L 75 (8 * (c / 2) + i) + 4096 * k) (bt : ∀ q, q < 64 → (bitJ (hJ h (V 52) x2.toNatClampNeg) q = true ↔ ∃ j : Nat, 1 ≤ j ∧ (j : Int) < k ∧ (q : Int) = s + j * (((t : Int) - s) / k))) (isd : sd.toInt = ((c % 2 : Nat) : Int)) (bov : ∀ q, q < 64 → (bitJ (hJ h (V 4) 10) q = true ↔ ov q)) (ove : ∀ q, ov q → M q = 0) (e : sX5_leads h (V 6) (V 4) x2 sd = some o) : o.2 = h ∧ ((o.1 = 0 ∧ ¬ LdG L M ov (decide (sd = hI h (V 4) 5)) ((c % 2 : Nat) : Int) (8 * (c / 2) + i) s t k) ∨ (o.1 = 1 ∧ LdG L M ov (decide (sd = hI h (V 4) 5)) ((c % 2 : Nat) : Int) (8 * (c / 2) + i) s t k)) := by
  have z1 : (1 : Int32).toInt = 1 := rfl
  have kr := rk.2.2.1
  have k1 := rk.2.1
  have r7 := J.2.2.2.2.1
  obtain ⟨f63, ffl, _⟩ := wd_f ht J.1 ⟨by omega, by omega⟩ wd
  have cs := nc_i (x := sd) (by omega)
  unfold sX5_leads sX5_leads_62 at e
  replace e := ce_e w6 e
  replace e := ce_e wc.2.1 e
  replace e := gg_e e
  replace e := nm_s e; obtain ⟨v4, u4, e⟩ := e
  rw [← u4] at ffl
  replace e := ce_e w6 e
  replace e := ce_e wc.2.1 e
  replace e := gg_e e
  replace e := nm_s e; obtain ⟨v8, u8, e⟩ := e
  have it : Rg 0 63 ((hI h (V 51) x2.toNatClampNeg) &&& (63 : Int32)) := ⟨by omega, by omega⟩
  have ct : ((hI h (V 51) x2.toNatClampNeg) &&& (63 : Int32)).toNatClampNeg = t := by have := nc_i it.1; omega
  have bz : ∀ A : Int64, lg_cmp (A &&& v8) (0 : Int64) = 0 ↔ ¬ bitJ A t = true := fun A => by rw [u8, bit_z it, ct]
  obtain ⟨fb0, fb1, _, _, _, fb5⟩ := fb_e (x := v4) ⟨by rw [ffl]; exact J.1.1, by rw [ffl]; exact J.1.2⟩
  rw [ffl] at fb0 fb1 fb5
  have dec : ∀ {b : Bool}, (b = true ∨ b = false) := fun {b} => by cases b <;> simp
  replace e := ce_e Pc.2.1 e
  replace e := gg_e e
  have own := P.2.1 sd.toNatClampNeg (by omega) t ht
  rw [cs, isd] at own
  rcases br_s e with ⟨q, e⟩ | ⟨q, e⟩
  rotate_left
  · -- an own man
    have b : bitJ (hJ h (V 35) sd.toNatClampNeg) t = true := by
      cases y : bitJ (hJ h (V 35) sd.toNatClampNeg) t with
      | true => rfl
      | false => exact absurd ((bz _).mpr (by rw [y]; decide)) q
    obtain ⟨m1, m2⟩ := own.mp b
    rw [so_e e]
    refine ⟨rfl, Or.inl ⟨rfl, ?_⟩⟩
    rintro ⟨_, z | (z | z)⟩
    · have := ove t z.2.2
      omega
    · exact z.2.1 m2
    · exact z.1 m1
  have nown : ¬ (0 < M t ∧ (M t - 1) % 2 = ((c % 2 : Nat) : Int)) := fun z => (bz _).mp q (own.mpr z)
  replace e := ce_e w6 e
  unfold sX3_occupied at e
  replace e := cl_s e; obtain ⟨o13, eo13, e⟩ := e
  replace eo13 := ce_e Pc.2.1 eo13
  replace eo13 := gg_e eo13
  replace eo13 := ce_e Pc.2.1 eo13
  replace eo13 := gg_e eo13
  rw [so_e eo13] at e
  replace e := cl_s e; obtain ⟨o14, eo14, e⟩ := e
  dsimp only at eo14
  have bo := occ_b (M := M) P.2.1 (v := (hJ h (V 35) (0 : Int32).toNatClampNeg) ||| (hJ h (V 35) (1 : Int32).toNatClampNeg)) rfl
  obtain ⟨w14, v14⟩ := op_v H J wc sL ht rk wd bt bo eo14
  rw [w14] at e
  rcases br_s e with ⟨op, e⟩ | ⟨op, e⟩
  · rw [so_e e]
    refine ⟨rfl, Or.inl ⟨rfl, ?_⟩⟩
    rintro ⟨z, _⟩
    rcases v14 with ⟨_, y⟩ | ⟨y, _⟩
    · exact y z.2
    · rw [y] at op; exact absurd op (by decide)
  have opn : Led L M (8 * (c / 2) + i) ((c % 2 : Nat) : Int) s t k := by
    rcases v14 with ⟨y, _⟩ | ⟨_, y⟩
    · exact absurd y op
    · exact ⟨rk, y⟩
  -- to whom it leads
  have k94 : ¬ ByT L ov (decide (sd = hI h (V 4) 5)) (8 * (c / 2) + i) t → sX5_leads_94 h (V 4) sd v4 v8 = some o → o.2 = h ∧ ((o.1 = 0 ∧ ¬ LdG L M ov (decide (sd = hI h (V 4) 5)) ((c % 2 : Nat) : Int) (8 * (c / 2) + i) s t k) ∨ (o.1 = 1 ∧ LdG L M ov (decide (sd = hI h (V 4) 5)) ((c % 2 : Nat) : Int) (8 * (c / 2) + i) s t k)) := fun nb u => by
    unfold sX5_leads_94 sX5_leads_115 sX5_leads_129 sX5_leads_138 at u
    replace u := ce_e Pc.2.1 u
    replace u := gg_e u
    have t1 : ((1 : Int32) - sd).toInt = 1 - ((c % 2 : Nat) : Int) := by rw [ts (by rw [z1]; omega), z1, isd]
    have c1 := nc_i (x := (1 : Int32) - sd) (by omega)
    have oth := P.2.1 ((1 : Int32) - sd).toNatClampNeg (by omega) t ht
    rw [c1, t1] at oth
    rcases br_s u with ⟨y, u⟩ | ⟨y, u⟩
    · have em : ¬ 0 < M t := fun z => (bz _).mp y (oth.mpr ⟨z, by
        by_cases w : (M t - 1) % 2 = ((c % 2 : Nat) : Int)
        · exact absurd ⟨z, w⟩ nown
        · omega⟩)
      replace u := bp_e rfl u
      rcases br_s u with ⟨g, u⟩ | ⟨g, u⟩
      · rw [so_e (gg_e u)]
        exact ⟨rfl, Or.inr ⟨rfl, opn, Or.inr (Or.inr ⟨em, fb1.mp g⟩)⟩⟩
      · rw [so_e (gg_e u)]
        refine ⟨rfl, Or.inl ⟨rfl, ?_⟩⟩
        rintro ⟨_, z | (z | z)⟩
        · exact nb z
        · exact em z.1
        · exact g (fb1.mpr z.2)
    · have b : bitJ (hJ h (V 35) ((1 : Int32) - sd).toNatClampNeg) t = true := by
        cases y' : bitJ (hJ h (V 35) ((1 : Int32) - sd).toNatClampNeg) t with
        | true => rfl
        | false => exact absurd ((bz _).mpr (by rw [y']; decide)) y
      obtain ⟨m1, m2⟩ := oth.mp b
      replace u := bn_e (by decide) u
      rcases br_s u with ⟨g, u⟩ | ⟨g, u⟩
      · rw [so_e (gg_e u)]
        exact ⟨rfl, Or.inr ⟨rfl, opn, Or.inr (Or.inl ⟨m1, fun z => by omega, fb0.mp g⟩)⟩⟩
      · rw [so_e (gg_e u)]
        refine ⟨rfl, Or.inl ⟨rfl, ?_⟩⟩
        rintro ⟨_, z | (z | z)⟩
        · exact nb z
        · exact g (fb0.mpr z.2.2)
        · exact z.1 m1
  rcases br_s e with ⟨g, e⟩ | ⟨g, e⟩
  · refine k94 (fun z => ?_) e
    have := z.2.1
    rw [fb5.mp g] at this
    exact absurd this (by decide)
  have f5 : fbt (L 75 (8 * (c / 2) + i)) 5 = true := by
    cases y : fbt (L 75 (8 * (c / 2) + i)) 5 with
    | true => rfl
    | false => exact absurd (fb5.mpr y) g
  rcases br_s e with ⟨sdE, e⟩ | ⟨sdE, e⟩
  rotate_left
  · refine k94 (fun z => ?_) e
    exact sdE (of_decide_eq_true z.1)
  rcases br_s e with ⟨y, e⟩ | ⟨y, e⟩
  · exact k94 (fun z => (bz _).mp y ((bov t ht).mpr z.2.2)) e
  · have b : bitJ (hJ h (V 4) 10) t = true := by
      cases y' : bitJ (hJ h (V 4) 10) t with
      | true => rfl
      | false => exact absurd ((bz _).mpr (by rw [y']; decide)) y
    rw [so_e e]
    exact ⟨rfl, Or.inr ⟨rfl, opn, Or.inl ⟨decide_eq_true sdE, f5, (bov t ht).mp b⟩⟩⟩
end
end
section
/-! the class: moves by STEPS -/
/-- a packed move is this move -/
def MvC (x : Int32) (v : MvT) : Prop := PkM x v.2.1 (if v.2.2.2.2.2.1 = 3 then 0 else v.1) v.2.2.1 (if v.2.2.2.1 = -1 then 15 else v.2.2.2.1) (if v.2.2.2.2.1 = -1 then 15 else v.2.2.2.2.1) v.2.2.2.2.2.1 (if v.2.2.2.2.2.1 = 0 ∨ v.2.2.2.2.2.1 = 1 then v.2.2.2.2.2.2 else 0)
def CLs (V : Nat → Nat) (h : Hp) (ms : List MvT) : Prop := (hI h (V 6) 6).toInt = (ms.length : Int) ∧ ∀ i, i < ms.length → ∃ v, ms[i]? = some v ∧ MvC (hI h (V 47) i) v
abbrev wcl : List (Nat × Nat) := [(6, 6), (47, 999)]
/-- the class's RULES: what else is asked of them -/
def CLx (V : Nat → Nat) (h : Hp) (L : Nat → Nat → Int) : Prop := (∀ m : Nat, m < 12 → (hI h (V 31) m).toInt = L 81 m ∧ (0 ≤ L 81 m ∧ L 81 m ≤ 6) ∧ ∀ q : Nat, (q : Int) < L 81 m → (hI h (V 30) (6 * m + q)).toInt = L 80 (6 * m + q) ∧ 0 ≤ L 80 (6 * m + q) ∧ L 80 (6 * m + q) ≤ 11) ∧ (((hI h (V 2) 10) &&& (1 : Int32) = 0 ↔ L 15 0 = 0) ∧ ((hI h (V 2) 10) &&& (2 : Int32) = 0 ↔ L 16 0 = 0) ∧ ((hI h (V 2) 10) &&& (4 : Int32) = 0 ↔ L 17 0 = 0) ∧ ((hI h (V 2) 10) &&& (8 : Int32) = 0 ↔ L 18 0 = 0)) ∧ hR h (V 2) 17 = some (V 30) ∧ hR h (V 2) 18 = some (V 31)
section
variable {F : Nat} {V : Nat → Nat} {h o' : Hp} {L : Nat → Nat → Int} {M : Nat → Int} {o : Int32 × Hp}
theorem cls_k {h' : Hp} {ms : List MvT} (R : CLs V h ms) (a : hI h' (V 6) 6 = hI h (V 6) 6) (b : ∀ i, hI h' (V 47) i = hI h (V 47) i) : CLs V h' ms := ⟨by rw [a]; exact R.1, fun i hi => by rw [b]; exact R.2 i hi⟩
/-- one move more -/
theorem add_c (D : VD V) {ms : List MvT} {x : Int32} {v : MvT} (w5 : hR h (V 6) 5 = some (V 47)) (ln : hN h (V 47) = 4096) (R : CLs V h ms) (lm : ms.length < 4096) (P : MvC x v) (e : sX5_addMove h (V 6) x = some o') : FrV V (wl wcl) h o' ∧ CLs V o' (ms ++ [v]) := by
  have z1 : (1 : Int32).toInt = 1 := rfl
  have n0 := R.1
  have cn : (hI h (V 6) 6).toNatClampNeg = ms.length := by have := nc_i (x := hI h (V 6) 6) (by omega); omega
  unfold sX5_addMove sX5_addMove_32 at e
  replace e := ce_e w5 e
  replace e := bn_e (fun z => by
    have := le_i z
    rw [ln, z_toInt (by decide), n0] at this
    omega) e
  replace e := ce_e w5 e
  replace e := gg_e e
  replace e := nm_s e; obtain ⟨g1, u1, e⟩ := e
  rw [cn] at u1
  have c1 : hI g1 (V 6) 6 = hI h (V 6) 6 := by rw [u1, rI_a (vne D)]
  replace e := nm_s e; obtain ⟨g2, u2, e⟩ := e
  rw [c1] at u2
  rw [so_e e]
  refine ⟨fv_t (g2 := g1) (by rw [u1]; exact fv_w (wl_9 (by decide))) (by rw [u2]; exact fv_w rfl), ?_, fun i hi => ?_⟩
  · rw [u2, rI_s, ta (by rw [n0, z1]; omega), n0, z1, List.length_append]
    rfl
  · rw [List.length_append] at hi
    have hi' : i < ms.length + 1 := hi
    have r47 : hI g2 (V 47) i = if i = ms.length then x else hI h (V 47) i := by
      rw [u2, rI_a (vne D), u1, r_I]
      by_cases c : i = ms.length
      · rw [if_pos ⟨rfl, c⟩, if_pos c]
      · rw [if_neg (fun z => c z.2), if_neg c]
    rw [r47]
    by_cases c : i = ms.length
    · rw [if_pos c, c, List.getElem?_append_right (Nat.le_refl _), Nat.sub_self]
      exact ⟨v, rfl, P⟩
    · rw [if_neg c, List.getElem?_append_left (by omega)]
      exact R.2 i (by omega)
/-- the class's world while it collects -/
def CWd (V : Nat → Nat) (h : Hp) (L : Nat → Nat → Int) (M : Nat → Int) (ov : Nat → Prop) : Prop := (hR h (V 6) 0 = some (V 2) ∧ hR h (V 6) 1 = some (V 11) ∧ hR h (V 6) 4 = some (V 4) ∧ hR h (V 6) 5 = some (V 47) ∧ hN h (V 47) = 4096) ∧ WCf V h ∧ WyT L V h ∧ VPc V h ∧ PosC h (V 34) (V 35) (V 36) M (L 10 0) ∧ (CLq V h L ∧ hR h (V 2) 20 = some (V 33)) ∧ CLx V h L ∧ ∀ q, q < 64 → (bitJ (hJ h (V 4) 10) q = true ↔ ov q)
theorem cwd_f (D : VD V) {ov : Nat → Prop} {h' : Hp} (P : CWd V h L M ov) (A : FrV V (wl wcl) h h') (n47 : hN h' (V 47) = hN h (V 47)) : CWd V h' L M ov := by
  obtain ⟨⟨a1, a2, a3, a4, a5⟩, wc, wt, pc, ps, ⟨cl', r20⟩, ⟨cx1, cx2, cx3, cx4⟩, bo⟩ := P
  refine ⟨⟨by rw [A.1]; exact a1, by rw [A.1]; exact a2, by rw [A.1]; exact a3, by rw [A.1]; exact a4, by rw [n47]; exact a5⟩, wcf_f wc A, wyt_k wt (fun x => fvI D A 50 x) (fun x => fvI D A 51 x) (fun x => fvJ D A 52 x) (fun x => fvJ D A 53 x) (fun x => fvJ D A 54 x), vpc_f pc A, posc_k ps (fun i => fvI D A 34 i) (fun i => fvI D A 36 i) (fun i => fvJ D A 35 i) (fun _ _ => rfl), ⟨clw_f D cl' A (by decide), by rw [A.1]; exact r20⟩, ⟨fun m hm => ?_, ?_, by rw [A.1]; exact cx3, by rw [A.1]; exact cx4⟩, fun q hq => by rw [fvj D A 4 10]; exact bo q hq⟩
  · obtain ⟨p, q, r⟩ := cx1 m hm
    refine ⟨by rw [fvI D A 31 m]; exact p, q, fun i hi => ?_⟩
    rw [fvI D A 30 _]
    exact r i hi
  · rw [fvi D A 2 10]
    exact cx2
/-- the move along a way -/
theorem mva_v {x1 x2 x3 : Int32} {ov : Nat → Prop} {c s t i p0 : Nat} {k : Int} (W : CWd V h L M ov) (HM : MOk L M) (H : LOk L) (J : StR L (8 * (c / 2) + i)) (cL : (c : Int) < 2 * L 2 0) (s64 : s < 64) (ht : t < 64) (k17 : 1 ≤ k ∧ k ≤ 7) (wd : (hI h (V 51) x1.toNatClampNeg).toInt = t + 64 * L 75 (8 * (c / 2) + i) + 4096 * k) (e2 : x2.toInt = (s : Int)) (e3 : x3.toInt = (c : Int)) (rp : ByT L ov true (8 * (c / 2) + i) t → p0 < 64 ∧ 0 < M p0 ∧ ∃ n q, Pw (hJ h (V 4) 9) n q ∧ 0 < n ∧ q 0 = p0) (e : sX5_moveAlong h (V 6) x1 x2 x3 = some o) : o.2 = h ∧ PkM o.1 t s ((c / 2 : Nat) : Int) 15 (if tkV M p0 t (prB' (ByT L ov true (8 * (c / 2) + i) t)) = -1 then 15 else tkV M p0 t (prB' (ByT L ov true (8 * (c / 2) + i) t))) (if prB' (ByT L ov true (8 * (c / 2) + i) t) = true then 1 else 0) (if fbt (L 75 (8 * (c / 2) + i)) 4 = true ∧ 1 < k then k else 0) := by
  have z0 : (0 : Int32).toInt = 0 := rfl
  have z1 : (1 : Int32).toInt = 1 := rfl
  have L2 := H.2.2.1
  obtain ⟨⟨w0, w1, w4, w5, _⟩, wc, wt, pc, ps, cl', cx, bov⟩ := W
  obtain ⟨f63, ffl, f12⟩ := wd_f ht J.1 ⟨by omega, k17.2⟩ wd
  unfold sX5_moveAlong at e
  replace e := ce_e w1 e
  replace e := ce_e wc.2.1 e
  replace e := gg_e e
  replace e := nm_s e; obtain ⟨v4, u4, e⟩ := e
  replace e := ce_e w1 e
  replace e := ce_e wc.2.1 e
  replace e := gg_e e
  replace e := nm_s e; obtain ⟨v8, u8, e⟩ := e
  replace e := ce_e w1 e
  replace e := ce_e wc.2.1 e
  replace e := gg_e e
  replace e := nm_s e; obtain ⟨v12, u12, e⟩ := e
  rw [← u4] at f63
  rw [← u8] at ffl
  rw [← u12] at f12
  have i4 : Rg 0 63 v4 := ⟨by omega, by omega⟩
  have c4 : v4.toNatClampNeg = t := by have := nc_i i4.1; omega
  obtain ⟨_, _, _, _, fb4, fb5⟩ := fb_e (x := v8) ⟨by rw [ffl]; exact J.1.1, by rw [ffl]; exact J.1.2⟩
  rw [ffl] at fb4 fb5
  have man : (x3 >>> ((1 : Int32) &&& 31)).toInt = ((c / 2 : Nat) : Int) := by
    have : (x3 >>> ((1 : Int32) &&& 31)).toInt = x3.toInt / 2 := shr_i 1 (by decide)
    rw [this, e3]; omega
  -- behind: PASS
  have k154 : ∀ {x9 : Int32} {a kd : Int} {g : Hp}, g = h → PkM x9 t s ((c / 2 : Nat) : Int) 15 a kd 0 → sX5_moveAlong_154 g v8 v12 x9 = some o → o.2 = h ∧ PkM o.1 t s ((c / 2 : Nat) : Int) 15 a kd (if fbt (L 75 (8 * (c / 2) + i)) 4 = true ∧ 1 < k then k else 0) := fun {x9 a kd g} hg P u => by
    unfold sX5_moveAlong_154 sX5_moveAlong_179 sX5_moveAlong_181 at u
    rw [hg] at u
    rcases br_s u with ⟨q, u⟩ | ⟨q, u⟩
    · rw [so_e u, if_neg (fun z => by rw [fb4.mp q] at z; exact absurd z.1 (by decide))]
      exact ⟨rfl, P⟩
    have f4 : fbt (L 75 (8 * (c / 2) + i)) 4 = true := by
      cases y : fbt (L 75 (8 * (c / 2) + i)) 4 with
      | true => rfl
      | false => exact absurd (fb4.mpr y) q
    rcases br_s u with ⟨d, u⟩ | ⟨d, u⟩
    · have d := le_i d
      rw [f12, z1] at d
      rw [so_e u, if_neg (fun z => by omega)]
      exact ⟨rfl, P⟩
    · have d := nle_i d
      rw [f12, z1] at d
      rw [so_e u, if_pos ⟨f4, d⟩, ← f12]
      exact ⟨rfl, pk_pass P ⟨by omega, by omega⟩⟩
  -- whom he takes
  have k129 : ∀ {x8 kd : Int32} {ta' : Int}, (kd.toInt = 0 ∨ kd.toInt = 1) → ((x8.toInt < 0 ∧ ta' = -1) ∨ (0 ≤ x8.toInt ∧ x8.toInt ≤ 23 ∧ ta' = x8.toInt / 2)) → sX5_moveAlong_129 h v8 v12 x8 kd (x3 >>> ((1 : Int32) &&& 31)) v4 x2 = some o → o.2 = h ∧ PkM o.1 t s ((c / 2 : Nat) : Int) 15 (if ta' = -1 then 15 else ta') kd.toInt (if fbt (L 75 (8 * (c / 2) + i)) 4 = true ∧ 1 < k then k else 0) := fun {x8 kd ta'} hk ht' u => by
    unfold sX5_moveAlong_129 at u
    replace u := cl_s u; obtain ⟨o1, eo1, u⟩ := u
    obtain ⟨q1, q2⟩ := pk_plain ⟨by omega, by omega⟩ i4 ⟨by rw [man]; omega, by rw [man]; omega⟩ ⟨by omega, by omega⟩ eo1
    rw [f63, e2, man] at q2
    rw [q1] at u
    rcases br_s u with ⟨d, u⟩ | ⟨d, u⟩
    · have d := lt_i d
      rw [z0] at d
      rcases ht' with ⟨_, y⟩ | ⟨y, _⟩
      · rw [y, if_pos rfl]
        exact k154 rfl q2 u
      · omega
    · have d := nlt_i d
      rw [z0] at d
      rcases ht' with ⟨y, _⟩ | ⟨_, y1, y2⟩
      · omega
      · have sh : (x8 >>> ((1 : Int32) &&& 31)).toInt = x8.toInt / 2 := shr_i 1 (by decide)
        have q3 := pk_taken q2 (y := x8 >>> ((1 : Int32) &&& 31)) ⟨by rw [sh]; omega, by rw [sh]; omega⟩
        rw [sh, ← y2] at q3
        rw [if_neg (by omega)]
        exact k154 rfl q3 (nx_e u)
  have m2 : ∀ q : Nat, q < 64 → 0 < M q → M q ≤ 24 := fun q hq hp => by
    have := ((HM q hq).2 hp).2
    omega
  have k75n : ¬ ByT L ov true (8 * (c / 2) + i) t → sX5_moveAlong_75 h (V 6) x2 x3 v4 v8 v12 (0 : Int32) = some o → o.2 = h ∧ PkM o.1 t s ((c / 2 : Nat) : Int) 15 (if tkV M p0 t (prB' (ByT L ov true (8 * (c / 2) + i) t)) = -1 then 15 else tkV M p0 t (prB' (ByT L ov true (8 * (c / 2) + i) t))) (if prB' (ByT L ov true (8 * (c / 2) + i) t) = true then 1 else 0) (if fbt (L 75 (8 * (c / 2) + i)) 4 = true ∧ 1 < k then k else 0) := fun nb u => by
    unfold sX5_moveAlong_75 sX5_moveAlong_111 at u
    rw [prb_f.mpr nb]
    replace u := bp_e rfl u
    replace u := ce_e w4 u
    replace u := ce_e pc.1 u
    replace u := gg_e u
    rw [c4] at u
    replace u := bp_e rfl u
    have on := ps.1 t ht
    have hm := (HM t ht).1
    have r := k129 (kd := (0 : Int32)) (ta' := tkV M p0 t false) (Or.inl rfl) (by
      unfold tkV
      rw [if_neg (by decide)]
      by_cases y : 0 < M t
      · rw [if_pos y, (mno_lt (L := L) y ((HM t ht).2 y).2).2]
        exact Or.inr ⟨by omega, by have := m2 t ht y; omega, by rw [on]⟩
      · rw [if_neg y]
        exact Or.inl ⟨by omega, rfl⟩) u
    exact r
  unfold sX5_moveAlong_74 at e
  rcases br_s e with ⟨q, e⟩ | ⟨q, e⟩
  · refine k75n (fun z => ?_) e
    have := z.2.1
    rw [fb5.mp q] at this
    exact absurd this (by decide)
  have f5 : fbt (L 75 (8 * (c / 2) + i)) 5 = true := by
    cases y : fbt (L 75 (8 * (c / 2) + i)) 5 with
    | true => rfl
    | false => exact absurd (fb5.mpr y) q
  replace e := ce_e w4 e
  rcases br_s e with ⟨d, e⟩ | ⟨d, e⟩
  · refine k75n (fun z => ?_) e
    have b0 := congrArg (fun y => bitJ y 0) (cmp_eq d)
    try dsimp only at b0
    have one : bitJ (1 : Int64) 0 = true := by decide
    rw [bj_and, ush_bit i4, c4, bj_zero, one, Bool.and_true, (bov t ht).mpr z.2.2] at b0
    exact absurd b0 (by decide)
  · have b := bit_set i4 d
    rw [c4] at b
    have yb : ByT L ov true (8 * (c / 2) + i) t := ⟨rfl, f5, (bov t ht).mp b⟩
    obtain ⟨p64, mp, n, q', pw, n0, q0⟩ := rp yb
    rw [prb_e.mpr yb]
    unfold sX5_moveAlong_75 sX5_moveAlong_111 at e
    replace e := bn_e (by decide) e
    replace e := ce_e w4 e
    replace e := ce_e pc.1 e
    replace e := ce_e w4 e
    replace e := cl_s e; obtain ⟨o8, eo8, e⟩ := e
    obtain ⟨r1, r2⟩ := psq_q eo8 pw (by decide) (by rw [z0]; omega)
    have n00 : (0 : Int32).toNatClampNeg = 0 := rfl
    rw [n00, q0] at r2
    rw [r1] at e
    have c8 : o8.1.toNatClampNeg = p0 := by have := nc_i (x := o8.1) (by omega); omega
    replace e := gg_e e
    rw [c8] at e
    replace e := bn_e (by decide) e
    have on := ps.1 p0 p64
    have r := k129 (kd := (1 : Int32)) (ta' := tkV M p0 t true) (Or.inr rfl) (by
      unfold tkV
      rw [if_pos rfl, (mno_lt (L := L) mp ((HM p0 p64).2 mp).2).2]
      exact Or.inr ⟨by omega, by have := m2 p0 p64 mp; omega, by rw [on]⟩) e
    exact r
end
end
section
/-! the class: addSteps -/
section
variable {F : Nat} {V : Nat → Nat} {h o' : Hp} {L : Nat → Nat → Int} {M : Nat → Int} {o : Int32 × Hp}
theorem last_v {x1 x2 : Int32} {t : Nat} (H : LOk L) (P : CLq V h L) (r20 : hR h (V 2) 20 = some (V 33)) (e1 : x1.toInt = (t : Int)) (tL : (t : Int) < L 0 0 * L 1 0) (i2 : Rg 0 1 x2) (e : sX1_isLast h (V 2) x1 x2 = some o) : o.2 = h ∧ ((o.1 = 0 ∧ ¬ rkF L t x2.toInt = L 1 0) ∨ (o.1 = 1 ∧ rkF L t x2.toInt = L 1 0)) := by
  have z1 : (1 : Int32).toInt = 1 := rfl
  have z0 : (0 : Int32).toInt = 0 := rfl
  have ra := H.2.1
  have c1 : x1.toNatClampNeg = t := by have := nc_i (x := x1) (by omega); omega
  have ff := (P.2.2.2.2.2 t tL).2
  have d0 : 0 ≤ (t : Int) / L 0 0 := Int.ediv_nonneg (by omega) (by have := H.1; omega)
  unfold sX1_isLast sX1_isLast_20 sX1_isLast_28 at e
  replace e := ce_e r20 e
  replace e := gg_e e
  rw [c1] at e
  have tr : ((hI h (V 2) 1) - (1 : Int32)).toInt = L 1 0 - 1 := by rw [ts (by rw [P.2.1, z1]; omega), P.2.1, z1]
  unfold rkF
  rcases br_s e with ⟨q, e⟩ | ⟨q, e⟩
  · rw [if_pos (by rw [q]; rfl)]
    rcases br_s e with ⟨c, e⟩ | ⟨c, e⟩
    · rw [so_e (gg_e e)]
      have := congrArg Int32.toInt c
      rw [ff, tr] at this
      exact ⟨rfl, Or.inr ⟨rfl, by omega⟩⟩
    · rw [so_e (gg_e e)]
      exact ⟨rfl, Or.inl ⟨rfl, fun z => c (Int32.toInt_inj.mp (by rw [ff, tr]; omega))⟩⟩
  · rw [if_neg (fun z => q (Int32.toInt_inj.mp (by rw [z]; rfl)))]
    rcases br_s e with ⟨c, e⟩ | ⟨c, e⟩
    · rw [so_e (gg_e e)]
      have := congrArg Int32.toInt c
      rw [ff, z0] at this
      exact ⟨rfl, Or.inr ⟨rfl, by omega⟩⟩
    · rw [so_e (gg_e e)]
      exact ⟨rfl, Or.inl ⟨rfl, fun z => c (Int32.toInt_inj.mp (by rw [ff, z0]; omega))⟩⟩
theorem tak_v {x : Int32} {t s m b a k p : Int} (P : PkM x t s m b a k p) (e : sX5_takenBy h x = some o) : o.2 = h ∧ o.1.toInt = (if a = 15 then -1 else a) := by
  have z15 : (15 : Int32).toInt = 15 := rfl
  have fa := (pk_fd P).2.2.2.2.1
  unfold sX5_takenBy sX5_takenBy_19 at e
  replace e := nx_e e
  rcases br_s e with ⟨c, e⟩ | ⟨c, e⟩
  · rw [so_e e]
    rw [c, z15] at fa
    rw [if_pos fa.symm]
    exact ⟨rfl, show (-1 : Int32).toInt = -1 by decide⟩
  · rw [so_e e]
    rw [if_neg (fun z => c (Int32.toInt_inj.mp (by rw [fa, z, z15])))]
    exact ⟨rfl, fa⟩
/-- how many men he may become -/
theorem cho_v {x : Int32} {ov : Nat → Prop} {t m : Nat} {s b ta' k p : Int} (W : CWd V h L M ov) (H : LOk L) (tL : (t : Int) < L 0 0 * L 1 0) (m12 : m < 12) (isd : Rg 0 1 (hI h (V 4) 5)) (ita : ta' = -1 ∨ (0 ≤ ta' ∧ ta' < 15)) (P : PkM x t s m b (if ta' = -1 then 15 else ta') k p) (e : sX5_choices h (V 6) x = some o) : o.2 = h ∧ o.1.toInt = (if rkF L t (hI h (V 4) 5).toInt = L 1 0 ∧ ¬ (¬ L 18 0 = 0 ∧ ¬ ta' = -1) then L 81 m else 0) := by
  have z0 : (0 : Int32).toInt = 0 := rfl
  have zm : (-1 : Int32).toInt = -1 := by decide
  obtain ⟨⟨w0, w1, w4, w5, _⟩, wc, wt, pc, ps, ⟨cl', r20⟩, ⟨cx1, cx2, cx3, cx4⟩, bov⟩ := W
  obtain ⟨ft, _, fm, _⟩ := pk_fd P
  unfold sX5_choices sX5_choices_24 at e
  have k25 : (¬ (¬ L 18 0 = 0 ∧ ¬ ta' = -1)) → sX5_choices_25 h (V 6) x (0 : Int32) = some o → o.2 = h ∧ o.1.toInt = (if rkF L t (hI h (V 4) 5).toInt = L 1 0 ∧ ¬ (¬ L 18 0 = 0 ∧ ¬ ta' = -1) then L 81 m else 0) := fun nb u => by
    unfold sX5_choices_25 sX5_choices_66 sX5_choices_67 sX5_comeTo sX5_manOf at u
    replace u := bp_e rfl u
    replace u := ce_e w0 u
    replace u := cl_s u; obtain ⟨o3, eo3, u⟩ := u
    rw [so_e eo3] at u
    replace u := ce_e w4 u
    replace u := cl_s u; obtain ⟨o5, eo5, u⟩ := u
    obtain ⟨q1, q2⟩ := last_v H cl' r20 ft tL isd eo5
    rw [q1] at u
    rcases br_s u with ⟨c, u⟩ | ⟨c, u⟩
    · rw [so_e u]
      refine ⟨rfl, ?_⟩
      rw [if_neg (fun z => ?_)]
      · rfl
      · rcases q2 with ⟨_, y⟩ | ⟨y, _⟩
        · exact y z.1
        · rw [y] at c; exact absurd c (by decide)
    · have rk : rkF L t (hI h (V 4) 5).toInt = L 1 0 := by
        rcases q2 with ⟨y, _⟩ | ⟨_, y⟩
        · exact absurd y c
        · exact y
      replace u := ce_e w0 u
      replace u := ce_e cx4 u
      replace u := cl_s u; obtain ⟨o9, eo9, u⟩ := u
      rw [so_e eo9] at u
      replace u := gg_e u
      have cm : ((x >>> ((12 : Int32) &&& 31)) &&& (15 : Int32)).toNatClampNeg = m := by
        have := nc_i (x := (x >>> ((12 : Int32) &&& 31)) &&& (15 : Int32)) (by omega)
        omega
      dsimp only at u
      rw [cm] at u
      rw [so_e u, if_pos ⟨rk, nb⟩]
      exact ⟨rfl, (cx1 m m12).1⟩
  replace e := ce_e w0 e
  unfold sX1_has sX1_has_14 at e
  replace e := cl_s e; obtain ⟨o2, eo2, e⟩ := e
  rcases br_s eo2 with ⟨c, eo2⟩ | ⟨c, eo2⟩
  · rw [so_e (gg_e eo2)] at e
    exact k25 (fun z => z.1 (cx2.2.2.2.mp c)) (bp_e rfl e)
  · rw [so_e (gg_e eo2)] at e
    replace e := bn_e (show ¬ (1 : Int32) = 0 by decide) e
    replace e := cl_s e; obtain ⟨o4, eo4, e⟩ := e
    obtain ⟨q1, q2⟩ := tak_v P eo4
    rw [q1] at e
    have q3 : o4.1.toInt = ta' := by
      rw [q2]
      rcases ita with y | ⟨y, y'⟩
      · rw [if_pos (by rw [if_pos y]), y]
      · rw [if_neg (show ¬ ta' = -1 by omega), if_neg (show ¬ ta' = 15 by omega)]
    rcases br_s e with ⟨d, e⟩ | ⟨d, e⟩
    · exact k25 (fun z => z.2 (by rw [← q3, d, zm])) e
    · unfold sX5_choices_25 sX5_choices_66 sX5_choices_67 at e
      replace e := bn_e (by decide) e
      rw [so_e e, if_neg (fun z => z.2 ⟨fun y => c (cx2.2.2.2.mpr y), fun y => d (Int32.toInt_inj.mp (by rw [q3, y, zm]))⟩)]
      exact ⟨rfl, rfl⟩
theorem hn_w {g : Hp} {a i : Nat} {v : Int32} (b : Nat) : hN (wI g a i v) b = hN g b := rfl
theorem add_n {x : Int32} {a : Nat} (b : Nat) (e : sX5_addMove h a x = some o') : hN o' b = hN h b := by
  unfold sX5_addMove sX5_addMove_32 at e
  replace e := cl_s e; obtain ⟨_, _, e⟩ := e
  rcases br_s e with ⟨_, e⟩ | ⟨_, e⟩
  · rw [so_e e]
  · replace e := cl_s e; obtain ⟨_, _, e⟩ := e
    replace e := gg_e e
    replace e := nx_e e
    replace e := nx_e e
    rw [so_e e]
    rfl
/-- one move, or one for each man that he may become -/
theorem as_120 (D : VD V) {K : Hp → Nat → Int32 → Int32 → Int32 → Int32 → Int32 → Option Hp} {ov : Nat → Prop} {x1 x2 x3 x4 x5 x7 x8 : Int32} {s t m : Nat} {ta' kd far : Int} {ms : List MvT} (e2 : (x2 >>> ((1 : Int32) &&& 31)).toInt = (m : Int)) (m12 : m < 12) (ik : kd = 0 ∨ kd = 1) (P : PkM x7 t s m 15 (if ta' = -1 then 15 else ta') kd far) (c8 : x8.toInt = 0 ∨ (0 < x8.toInt ∧ x8.toInt = L 81 m)) : ∀ (f : Nat) {h : Hp} {x9 : Int32} {n : Nat}, x9.toInt = (n : Int) → (n : Int) ≤ x8.toInt → CWd V h L M ov → CLs V h (ms ++ (List.range n).map (fun q => ((s : Int), (t : Int), (m : Int), L 80 (6 * m + q), ta', kd, far))) → ms.length + 7 < 4096 → sX5_addSteps_120 F K f h (V 6) x1 x2 x3 x4 x5 x7 x8 x9 = some o' → ∃ g, FrV V (wl wcl) h g ∧ hN g (V 47) = hN h (V 47) ∧ CLs V g (ms ++ (if 0 < x8.toInt then (List.range (L 81 m).toNat).map (fun q => ((s : Int), (t : Int), (m : Int), L 80 (6 * m + q), ta', kd, far)) else [((s : Int), (t : Int), (m : Int), -1, ta', kd, far)])) ∧ sX5_addSteps_170 F K g (V 6) x1 x2 x3 x4 x5 = some o' := by
  have z0 : (0 : Int32).toInt = 0 := rfl
  have z1 : (1 : Int32).toInt = 1 := rfl
  have z6 : (6 : Int32).toInt = 6 := rfl
  intro f
  induction f with
  | zero => intro h x9 n _ _ _ _ _ e; exact absurd e (by rw [sX5_addSteps_120]; exact fun z => nomatch z)
  | succ f ih =>
    intro h x9 n i9 bn W R lm e
    obtain ⟨⟨w0, w1, w4, w5, w47⟩, wc, wt, pc, ps, ⟨cl', r20⟩, ⟨cx1, cx2, cx3, cx4⟩, bov⟩ := W
    have W : CWd V h L M ov := ⟨⟨w0, w1, w4, w5, w47⟩, wc, wt, pc, ps, ⟨cl', r20⟩, ⟨cx1, cx2, cx3, cx4⟩, bov⟩
    obtain ⟨b31, ⟨b0, b6⟩, b30⟩ := cx1 m m12
    rw [sX5_addSteps_120] at e
    rcases br_s e with ⟨l, e⟩ | ⟨l, e⟩
    · have l := le_i l
      have en : x8.toInt = (n : Int) := by omega
      rcases br_s e with ⟨c, e⟩ | ⟨c, e⟩
      · have n0 : n = 0 := by rw [c, z0] at en; omega
        rw [n0, List.range_zero, List.map_nil, List.append_nil] at R
        replace e := cl_s e; obtain ⟨g, eg, e⟩ := e
        obtain ⟨A, R'⟩ := add_c (v := ((s : Int), (t : Int), (m : Int), -1, ta', kd, far)) D w5 w47 R (by omega) (by
          show PkM x7 t (if kd = 3 then 0 else (s : Int)) m (if (-1 : Int) = -1 then 15 else -1) (if ta' = -1 then 15 else ta') kd (if kd = 0 ∨ kd = 1 then far else 0)
          rw [if_neg (show ¬ kd = 3 by omega), if_pos rfl, if_pos ik]
          exact P) eg
        refine ⟨g, A, add_n _ eg, ?_, e⟩
        rw [if_neg (by rw [c, z0]; omega)]
        exact R'
      · have p8 : 0 < x8.toInt := by
          rcases c8 with y | y
          · exact absurd (Int32.toInt_inj.mp (by rw [y, z0])) c
          · exact y.1
        refine ⟨h, fv_0, rfl, ?_, e⟩
        rw [if_pos p8]
        rcases c8 with y | y
        · omega
        · rw [show (L 81 m).toNat = n by omega]
          exact R
    have l := nle_i l
    have p8 : 0 < x8.toInt ∧ x8.toInt = L 81 m := by
      rcases c8 with y | y
      · omega
      · exact y
    have m6 : ((x2 >>> ((1 : Int32) &&& 31)) * (6 : Int32)).toInt = (m : Int) * 6 := by rw [tm (by rw [e2, z6]; omega), e2, z6]
    have ix : (((x2 >>> ((1 : Int32) &&& 31)) * (6 : Int32)) + x9).toNatClampNeg = 6 * m + n := by
      have a : (((x2 >>> ((1 : Int32) &&& 31)) * (6 : Int32)) + x9).toInt = (m : Int) * 6 + n := by rw [ta (by rw [m6, i9]; omega), m6, i9]
      have := nc_i (x := ((x2 >>> ((1 : Int32) &&& 31)) * (6 : Int32)) + x9) (by omega)
      omega
    replace e := ce_e w0 e
    replace e := ce_e cx3 e
    replace e := gg_e e
    rw [ix] at e
    obtain ⟨v30, v30a, v30b⟩ := b30 n (by omega)
    replace e := cl_s e; obtain ⟨o7, eo7, e⟩ := e
    obtain ⟨q1, q2⟩ := pk_become P (y := hI h (V 30) (6 * m + n)) ⟨by rw [v30]; omega, by rw [v30]; omega⟩ eo7
    rw [v30] at q2
    rw [q1] at e
    replace e := cl_s e; obtain ⟨g, eg, e⟩ := e
    obtain ⟨A, R'⟩ := add_c (v := ((s : Int), (t : Int), (m : Int), L 80 (6 * m + n), ta', kd, far)) D w5 w47 R (by
      rw [List.length_append, List.length_map, List.length_range]; omega) (by
      show PkM o7.1 t (if kd = 3 then 0 else (s : Int)) m (if L 80 (6 * m + n) = -1 then 15 else L 80 (6 * m + n)) (if ta' = -1 then 15 else ta') kd (if kd = 0 ∨ kd = 1 then far else 0)
      rw [if_neg (show ¬ kd = 3 by omega), if_neg (show ¬ L 80 (6 * m + n) = -1 by omega), if_pos ik]
      exact q2) eg
    have n47 := add_n (V 47) eg
    rw [List.append_assoc] at R'
    obtain ⟨g', r1, r2, r3, r4⟩ := ih (n := n + 1) (by rw [ta (by rw [z1]; omega), z1]; omega) (by omega) (cwd_f D W A n47) (by rw [range_s]; exact R') lm (nx_e e)
    exact ⟨g', fv_t A r1, r2.trans n47, r3, r4⟩
end
end
