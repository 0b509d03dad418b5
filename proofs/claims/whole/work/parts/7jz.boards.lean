/-! positions as numbers; other boards by changed addresses; copies -/
def swR (k : Nat) : Nat := if k = 13 then 213 else if k = 213 then 13 else if k = 62 then 262 else if k = 262 then 62 else if k = 63 then 263 else if k = 263 then 63 else if k = 64 then 264 else if k = 264 then 64 else if k = 65 then 265 else if k = 265 then 65 else k
def swC (k : Nat) : Nat := if k = 4 then 204 else if k = 204 then 4 else if k = 34 then 234 else if k = 234 then 34 else if k = 35 then 235 else if k = 235 then 35 else if k = 36 then 236 else if k = 236 then 36 else if k = 37 then 237 else if k = 237 then 37 else if k = 38 then 238 else if k = 238 then 38 else k
/-- the board that is written stands where the other stood -/
def vR (V : Nat → Nat) : Nat → Nat := fun k => V (swR k)
def vC (V : Nat → Nat) : Nat → Nat := fun k => V (swC k)
set_option maxRecDepth 20000 in
theorem swr_in : ∀ a, a ∈ vql → swR a ∈ vql := by decide
set_option maxRecDepth 20000 in
theorem swc_in : ∀ a, a ∈ vql → swC a ∈ vql := by decide
theorem swr_sw (a : Nat) : swR (swR a) = a := by
  by_cases h : a ∈ [13, 213, 62, 262, 63, 263, 64, 264, 65, 265]
  · have all : ∀ x, x ∈ [13, 213, 62, 262, 63, 263, 64, 264, 65, 265] → swR (swR x) = x := by decide
    exact all a h
  · have e : swR a = a := by
      simp at h
      unfold swR
      repeat' split
      all_goals omega
    rw [e, e]
theorem swc_sw (a : Nat) : swC (swC a) = a := by
  by_cases h : a ∈ [4, 204, 34, 234, 35, 235, 36, 236, 37, 237, 38, 238]
  · have all : ∀ x, x ∈ [4, 204, 34, 234, 35, 235, 36, 236, 37, 237, 38, 238] → swC (swC x) = x := by decide
    exact all a h
  · have e : swC a = a := by
      simp at h
      unfold swC
      repeat' split
      all_goals omega
    rw [e, e]
section
variable {V : Nat → Nat} {h o g : Hp} {Ls : List (Nat × Nat)}
theorem vd_r (D : VD V) : VD (vR V) := fun a ha b hb n e => D (swR a) (swr_in a ha) (swR b) (swr_in b hb) (fun z => n (by rw [← swr_sw a, z, swr_sw])) e
theorem vd_c (D : VD V) : VD (vC V) := fun a ha b hb n e => D (swC a) (swc_in a ha) (swC b) (swc_in b hb) (fun z => n (by rw [← swc_sw a, z, swc_sw])) e
theorem fv_sr (A : FrV (vR V) (wl Ls) h o) : FrV V (wl (Ls.map fun p => (swR p.1, p.2))) h o :=
  ⟨A.1, fun a i n => A.2 a i (fun k wk e => n (swR k) (by
    obtain ⟨j, m, z⟩ := wl_m wk
    exact wl_i (j := j) (List.mem_map.mpr ⟨(k, j), m, rfl⟩) z) e)⟩
theorem fv_sc (A : FrV (vC V) (wl Ls) h o) : FrV V (wl (Ls.map fun p => (swC p.1, p.2))) h o :=
  ⟨A.1, fun a i n => A.2 a i (fun k wk e => n (swC k) (by
    obtain ⟨j, m, z⟩ := wl_m wk
    exact wl_i (j := j) (List.mem_map.mpr ⟨(k, j), m, rfl⟩) z) e)⟩
/-- the other way round -/
theorem fv_rs (A : FrV V (wl Ls) h o) : FrV (vR V) (wl (Ls.map fun p => (swR p.1, p.2))) h o :=
  ⟨A.1, fun a i n => A.2 a i (fun k wk e => n (swR k) (by
    obtain ⟨j, m, z⟩ := wl_m wk
    exact wl_i (j := j) (List.mem_map.mpr ⟨(k, j), m, rfl⟩) z) (by
      show a = V (swR (swR k))
      rw [swr_sw]; exact e))⟩
theorem fv_cs (A : FrV V (wl Ls) h o) : FrV (vC V) (wl (Ls.map fun p => (swC p.1, p.2))) h o :=
  ⟨A.1, fun a i n => A.2 a i (fun k wk e => n (swC k) (by
    obtain ⟨j, m, z⟩ := wl_m wk
    exact wl_i (j := j) (List.mem_map.mpr ⟨(k, j), m, rfl⟩) z) (by
      show a = V (swC (swC k))
      rw [swc_sw]; exact e))⟩
end
/-- men, side, rights, squares of PASS: how many, which; men in hand by 2 man + side, checks, count -/
abbrev Pz := (Nat → Int) × Nat × (Nat → Bool) × Nat × (Nat → Nat) × (Nat → Int) × (Nat → Int) × Int
abbrev pzS (P : Pz) : Nat := P.2.1
abbrev pzR (P : Pz) : Nat → Bool := P.2.2.1
abbrev pzN (P : Pz) : Nat := P.2.2.2.1
abbrev pzQ (P : Pz) : Nat → Nat := P.2.2.2.2.1
abbrev pzH (P : Pz) : Nat → Int := P.2.2.2.2.2.1
abbrev pzC (P : Pz) : Nat → Int := P.2.2.2.2.2.2.1
abbrev pzK (P : Pz) : Int := P.2.2.2.2.2.2.2
/-- the reference's board is this position -/
def RbP (V : Nat → Nat) (h : Hp) (P : Pz) : Prop := VPr V h ∧ (∀ s, s < 64 → (hI h (V 62) s).toInt = P.1 s) ∧ (hI h (V 13) 1).toInt = (pzS P : Int) ∧ (∀ q, q < 64 → bitJ (hJ h (V 13) 2) q = pzR P q) ∧ (hI h (V 13) 3).toInt = (pzN P : Int) ∧ (∀ i, i < pzN P → (hI h (V 63) i).toInt = (pzQ P i : Int)) ∧ (∀ d, d < 24 → (hI h (V 64) d).toInt = pzH P d) ∧ (∀ d, d < 2 → (hI h (V 65) d).toInt = pzC P d) ∧ (hI h (V 13) 7).toInt = pzK P
/-- the class's position is this one -/
def CpP (V : Nat → Nat) (h : Hp) (ro : Int) (P : Pz) : Prop := VPc V h ∧ PosC h (V 34) (V 35) (V 36) P.1 ro ∧ (hI h (V 4) 5).toInt = (pzS P : Int) ∧ (∀ q, q < 64 → bitJ (hJ h (V 4) 8) q = pzR P q) ∧ (Pw (hJ h (V 4) 9) (pzN P) (pzQ P) ∧ OvN (hJ h (V 4) 10) (pzN P) (pzQ P)) ∧ ((∀ s, s < 2 → HdB (hJ h (V 37) s)) ∧ ∀ d, d < 24 → ((hv (hJ h (V 37) (d % 2)) (d / 2) : Nat) : Int) = pzH P d) ∧ (∀ d, d < 2 → (hI h (V 38) d).toInt = pzC P d) ∧ (hI h (V 4) 6).toInt = pzK P
abbrev wr2 : List (Nat × Nat) := [(213, 1), (213, 2), (213, 3), (213, 7), (262, 999), (263, 999), (264, 999), (265, 999)]
abbrev wc2 : List (Nat × Nat) := [(204, 5), (204, 6), (204, 8), (204, 9), (204, 10), (234, 999), (235, 999), (236, 999), (237, 999), (238, 999)]
section
variable {F : Nat} {V : Nat → Nat} {h o g : Hp} {P : Pz} {Ls : List (Nat × Nat)}
theorem rbp_f (D : VD V) (R : RbP V h P) (A : FrV V (wl Ls) h o) (n : ∀ p, p ∈ Ls → p.1 ∈ vql ∧ ¬ p.1 = 13 ∧ ¬ p.1 = 62 ∧ ¬ p.1 = 63 ∧ ¬ p.1 = 64 ∧ ¬ p.1 = 65) : RbP V o P := by
  have hL : ∀ p, p ∈ Ls → p.1 ∈ vql := fun p hp => (n p hp).1
  have n13 : ∀ p, p ∈ Ls → ¬ p.1 = 13 := fun p hp => (n p hp).2.1
  have n62 : ∀ p, p ∈ Ls → ¬ p.1 = 62 := fun p hp => (n p hp).2.2.1
  have n63 : ∀ p, p ∈ Ls → ¬ p.1 = 63 := fun p hp => (n p hp).2.2.2.1
  have n64 : ∀ p, p ∈ Ls → ¬ p.1 = 64 := fun p hp => (n p hp).2.2.2.2.1
  have n65 : ∀ p, p ∈ Ls → ¬ p.1 = 65 := fun p hp => (n p hp).2.2.2.2.2
  obtain ⟨a, b, c, d, e, f, g, i, j⟩ := R
  exact ⟨⟨by rw [A.1]; exact a.1, by rw [A.1]; exact a.2.1, by rw [A.1]; exact a.2.2.1, by rw [A.1]; exact a.2.2.2⟩, fun s hs => by rw [fvI D A 62 s n62 (by decide) hL]; exact b s hs, by rw [fvI D A 13 1 n13 (by decide) hL]; exact c, fun q hq => by rw [fvJ D A 13 2 n13 (by decide) hL]; exact d q hq, by rw [fvI D A 13 3 n13 (by decide) hL]; exact e, fun q hq => by rw [fvI D A 63 q n63 (by decide) hL]; exact f q hq, fun q hq => by rw [fvI D A 64 q n64 (by decide) hL]; exact g q hq, fun q hq => by rw [fvI D A 65 q n65 (by decide) hL]; exact i q hq, by rw [fvI D A 13 7 n13 (by decide) hL]; exact j⟩
theorem cpp_f (D : VD V) {ro : Int} (R : CpP V h ro P) (A : FrV V (wl Ls) h o) (n : ∀ p, p ∈ Ls → p.1 ∈ vql ∧ ¬ (p.1 = 4 ∧ ¬ p.2 = 7) ∧ ¬ p.1 = 34 ∧ ¬ p.1 = 35 ∧ ¬ p.1 = 36 ∧ ¬ p.1 = 37 ∧ ¬ p.1 = 38) : CpP V o ro P := by
  have hL : ∀ p, p ∈ Ls → p.1 ∈ vql := fun p hp => (n p hp).1
  have n4 : ∀ i, ¬ i = 7 → wl Ls 4 i = false := fun i hi => wl_f (fun p hp => by
    by_cases c : p.1 = 4
    · have : p.2 = 7 := Classical.not_not.mp (fun z => (n p hp).2.1 ⟨c, z⟩)
      exact Or.inr ⟨by rw [this]; exact fun z => hi z.symm, by rw [this]; decide⟩
    · exact Or.inl c)
  have n34 : ∀ p, p ∈ Ls → ¬ p.1 = 34 := fun p hp => (n p hp).2.2.1
  have n35 : ∀ p, p ∈ Ls → ¬ p.1 = 35 := fun p hp => (n p hp).2.2.2.1
  have n36 : ∀ p, p ∈ Ls → ¬ p.1 = 36 := fun p hp => (n p hp).2.2.2.2.1
  have n37 : ∀ p, p ∈ Ls → ¬ p.1 = 37 := fun p hp => (n p hp).2.2.2.2.2.1
  have n38 : ∀ p, p ∈ Ls → ¬ p.1 = 38 := fun p hp => (n p hp).2.2.2.2.2.2
  obtain ⟨a, ⟨b1, b2, b3, b4⟩, c, d, ⟨e1, e2⟩, ⟨f1, f2⟩, i, j⟩ := R
  refine ⟨⟨by rw [A.1]; exact a.1, by rw [A.1]; exact a.2.1, by rw [A.1]; exact a.2.2.1, by rw [A.1]; exact a.2.2.2.1, by rw [A.1]; exact a.2.2.2.2⟩, ⟨fun s hs => by rw [fvI D A 34 s n34 (by decide) hL]; exact b1 s hs, fun d hd => by rw [fvJ D A 35 d n35 (by decide) hL]; exact b2 d hd, fun d hd => by rw [fvI D A 36 d n36 (by decide) hL]; exact b3 d hd, b4⟩, by rw [fvi D A 4 5 (n4 5 (by decide)) (by decide) hL]; exact c, fun q hq => by rw [fvj D A 4 8 (n4 8 (by decide)) (by decide) hL]; exact d q hq, ⟨by rw [fvj D A 4 9 (n4 9 (by decide)) (by decide) hL]; exact e1, by rw [fvj D A 4 10 (n4 10 (by decide)) (by decide) hL]; exact e2⟩, ⟨fun s hs => by rw [fvJ D A 37 s n37 (by decide) hL]; exact f1 s hs, fun q hq => by rw [fvJ D A 37 (q % 2) n37 (by decide) hL]; exact f2 q hq⟩, fun q hq => by rw [fvI D A 38 q n38 (by decide) hL]; exact i q hq, by rw [fvi D A 4 6 (n4 6 (by decide)) (by decide) hL]; exact j⟩
theorem fv_cp {a0 sp k dp n : Nat} (m : ∀ i, wl Ls k i = true) : FrV V (wl Ls) h (cpI h a0 sp (V k) dp n) :=
  ⟨fun _ _ => rfl, fun a i q => ⟨by rw [cp_at, if_neg (fun z => q k (m i) z.1)], rfl⟩⟩
/-- the reference: copy -/
theorem cp_r (D : VD V) (R : RbP V h P) (T : VPr (vR V) h) (e : sX12_copy h (V 213) (V 13) = some o) : FrV V (wl wr2) h o ∧ RbP (vR V) o P ∧ ∀ a, hN o a = hN h a := by
  have T0 : hR h (V 213) 0 = some (V 262) := T.1
  have T4 : hR h (V 213) 4 = some (V 263) := T.2.1
  have T5 : hR h (V 213) 5 = some (V 264) := T.2.2.1
  have T6 : hR h (V 213) 6 = some (V 265) := T.2.2.2
  have z0 : (0 : Int32).toNatClampNeg = 0 := rfl
  have z1 : (1 : Int32).toNatClampNeg = 1 := rfl
  have z64 : (64 : Int32).toNatClampNeg = 64 := rfl
  have z24 : (24 : Int32).toNatClampNeg = 24 := rfl
  obtain ⟨⟨a0, a4, a5, a6⟩, b, c, d, en, f, hh, i, j⟩ := R
  unfold sX12_copy at e
  replace e := ce_e a0 e
  replace e := ce_e T0 e
  iterate 5 replace e := gg_e e
  replace e := nm_s e; obtain ⟨h8, u8, e⟩ := e
  replace e := nm_s e; obtain ⟨h9, u9, e⟩ := e
  replace e := nm_s e; obtain ⟨h10, u10, e⟩ := e
  replace e := nm_s e; obtain ⟨h11, u11, e⟩ := e
  rw [z0, z64] at u8
  have F8 : FrV V (wl [(262, 999)]) h h8 := by rw [u8]; exact fv_cp (fun i => wl_9 (by decide))
  have F9 : FrV V (wl [(213, 1)]) h8 h9 := by rw [u9]; exact fv_w rfl
  have F10 : FrV V (wl [(213, 2)]) h9 h10 := by rw [u10]; exact fv_j rfl
  have F11 : FrV V (wl [(213, 3)]) h10 h11 := by rw [u11]; exact fv_w rfl
  have G11 : FrV V (wl [(213, 1), (213, 2), (213, 3), (262, 999)]) h h11 := fv_t (fv_s F8 (by decide)) (fv_t (fv_s F9 (by decide)) (fv_t (fv_s F10 (by decide)) (fv_s F11 (by decide))))
  replace e := ce_e (by rw [G11.1]; exact a4) e
  replace e := ce_e (by rw [G11.1]; exact T4) e
  iterate 5 replace e := gg_e e
  replace e := nm_s e; obtain ⟨h19, u19, e⟩ := e
  have v3 : hI h11 (V 213) 3 = hI h (V 13) 3 := by
    rw [u11, r_I, if_pos ⟨rfl, rfl⟩, fvI D F10 13 3, fvI D F9 13 3, fvI D F8 13 3]
  have n3 : (hI h11 (V 213) 3).toNatClampNeg = pzN P := by
    rw [v3]
    have := nc_i (x := hI h (V 13) 3) (by omega)
    omega
  rw [n3, z0] at u19
  have F19 : FrV V (wl [(263, 999)]) h11 h19 := by rw [u19]; exact fv_cp (fun i => wl_9 (by decide))
  have G19 : FrV V (wl [(213, 1), (213, 2), (213, 3), (262, 999), (263, 999)]) h h19 := fv_t (fv_s G11 (by decide)) (fv_s F19 (by decide))
  replace e := ce_e (by rw [G19.1]; exact a5) e
  replace e := ce_e (by rw [G19.1]; exact T5) e
  iterate 5 replace e := gg_e e
  replace e := nm_s e; obtain ⟨h27, u27, e⟩ := e
  rw [z0, z24] at u27
  have F27 : FrV V (wl [(264, 999)]) h19 h27 := by rw [u27]; exact fv_cp (fun i => wl_9 (by decide))
  have G27 : FrV V (wl [(213, 1), (213, 2), (213, 3), (262, 999), (263, 999), (264, 999)]) h h27 := fv_t (fv_s G19 (by decide)) (fv_s F27 (by decide))
  replace e := ce_e (by rw [G27.1]; exact T6) e
  replace e := ce_e (by rw [G27.1]; exact a6) e
  iterate 2 replace e := gg_e e
  replace e := nm_s e; obtain ⟨h32, u32, e⟩ := e
  rw [z0] at u32
  have F32 : FrV V (wl [(265, 999)]) h27 h32 := by rw [u32]; exact fv_w (wl_9 (by decide))
  have G32 : FrV V (wl [(213, 1), (213, 2), (213, 3), (262, 999), (263, 999), (264, 999), (265, 999)]) h h32 := fv_t (fv_s G27 (by decide)) (fv_s F32 (by decide))
  replace e := ce_e (by rw [G32.1]; exact T6) e
  replace e := ce_e (by rw [G32.1]; exact a6) e
  iterate 2 replace e := gg_e e
  replace e := nm_s e; obtain ⟨h37, u37, e⟩ := e
  rw [z1] at u37
  have F37 : FrV V (wl [(265, 999)]) h32 h37 := by rw [u37]; exact fv_w (wl_9 (by decide))
  have G37 : FrV V (wl [(213, 1), (213, 2), (213, 3), (262, 999), (263, 999), (264, 999), (265, 999)]) h h37 := fv_t G32 (fv_s F37 (by decide))
  replace e := nm_s e; obtain ⟨h38, u38, e⟩ := e
  have F38 : FrV V (wl [(213, 7)]) h37 h38 := by rw [u38]; exact fv_w rfl
  have G38 : FrV V (wl wr2) h h38 := fv_t (fv_s G37 (by decide)) (fv_s F38 (by decide))
  have S27 : FrV V (wl [(265, 999), (213, 7)]) h27 h38 := fv_t (fv_s F32 (by decide)) (fv_t (fv_s F37 (by decide)) (fv_s F38 (by decide)))
  have S19 : FrV V (wl [(264, 999), (265, 999), (213, 7)]) h19 h38 := fv_t (fv_s F27 (by decide)) (fv_s S27 (by decide))
  have S11 : FrV V (wl [(263, 999), (264, 999), (265, 999), (213, 7)]) h11 h38 := fv_t (fv_s F19 (by decide)) (fv_s S19 (by decide))
  have S8 : FrV V (wl [(213, 1), (213, 2), (213, 3), (263, 999), (264, 999), (265, 999), (213, 7)]) h8 h38 := fv_t (fv_s F9 (by decide)) (fv_t (fv_s F10 (by decide)) (fv_t (fv_s F11 (by decide)) (fv_s S11 (by decide))))
  rw [so_e e]
  refine ⟨G38, ⟨⟨by rw [G38.1]; exact T.1, by rw [G38.1]; exact T.2.1, by rw [G38.1]; exact T.2.2.1, by rw [G38.1]; exact T.2.2.2⟩, fun s hs => ?_, ?_, fun q hq => ?_, ?_, fun q hq => ?_, fun q hq => ?_, fun q hq => ?_, ?_⟩, fun a => ?_⟩
  · show (hI h38 (V 262) s).toInt = _
    rw [fvI D S8 262 s, u8, cp_at, if_pos ⟨rfl, by omega, by omega⟩, show 0 + (s - 0) = s by omega]
    exact b s hs
  · show (hI h38 (V 213) 1).toInt = _
    rw [fvi D S11 213 1, fvi D F11 213 1, fvi D F10 213 1, u9, r_I, if_pos ⟨rfl, rfl⟩, fvI D F8 13 1]
    exact c
  · show bitJ (hJ h38 (V 213) 2) q = _
    rw [fvj D S11 213 2, fvj D F11 213 2, u10, r_J, if_pos ⟨rfl, rfl⟩, fvJ D F9 13 2, fvJ D F8 13 2]
    exact d q hq
  · show (hI h38 (V 213) 3).toInt = _
    rw [fvi D S11 213 3, v3]
    exact en
  · show (hI h38 (V 263) q).toInt = _
    rw [fvI D S19 263 q, u19, cp_at, if_pos ⟨rfl, by omega, by omega⟩, show 0 + (q - 0) = q by omega, fvI D G11 63 q]
    exact f q hq
  · show (hI h38 (V 264) q).toInt = _
    rw [fvI D S27 264 q, u27, cp_at, if_pos ⟨rfl, by omega, by omega⟩, show 0 + (q - 0) = q by omega, fvI D G19 64 q]
    exact hh q hq
  · show (hI h38 (V 265) q).toInt = _
    rw [fvI D F38 265 q, u37, r_I]
    by_cases w : q = 1
    · rw [if_pos ⟨rfl, w⟩, fvI D G32 65 1, w]
      exact i 1 (by decide)
    · have w0 : q = 0 := by omega
      rw [if_neg (fun z => w z.2), u32, r_I, if_pos ⟨rfl, w0⟩, fvI D G27 65 0, w0]
      exact i 0 (by decide)
  · show (hI h38 (V 213) 7).toInt = _
    rw [u38, r_I, if_pos ⟨rfl, rfl⟩, fvI D G37 13 7]
    exact j
  · rw [u38, u37, u32, u27, u19, u11, u10, u9, u8]
    rfl
/-- the class: copyFrom -/
theorem cp_17 (D : VD V) (Pc : VPc V h) (T : VPc (vC V) h) : ∀ (f : Nat) {g : Hp} {x2 : Int32} {n : Nat}, x2.toInt = (n : Int) → n ≤ 2 → FrV V (wl wc2) h g → (∀ j, j < n → hJ g (V 235) j = hJ h (V 35) j ∧ hI g (V 236) j = hI h (V 36) j ∧ hJ g (V 237) j = hJ h (V 37) j ∧ hI g (V 238) j = hI h (V 38) j) → (∀ a, hN g a = hN h a) → sX3_copyFrom_17 F f g (V 204) (V 4) x2 = some o → FrV V (wl wc2) h o ∧ (∀ j, j < 2 → hJ o (V 235) j = hJ h (V 35) j ∧ hI o (V 236) j = hI h (V 36) j ∧ hJ o (V 237) j = hJ h (V 37) j ∧ hI o (V 238) j = hI h (V 38) j) ∧ (∀ s, hI o (V 234) s = hI g (V 234) s) ∧ (hI o (V 204) 5 = hI h (V 4) 5 ∧ hI o (V 204) 6 = hI h (V 4) 6 ∧ hJ o (V 204) 8 = hJ h (V 4) 8 ∧ hJ o (V 204) 9 = hJ h (V 4) 9 ∧ hJ o (V 204) 10 = hJ h (V 4) 10) ∧ ∀ a, hN o a = hN h a := by
  have z1 : (1 : Int32).toInt = 1 := rfl
  have z2 : (2 : Int32).toInt = 2 := rfl
  have T1 : hR h (V 204) 1 = some (V 235) := T.2.1
  have T2 : hR h (V 204) 2 = some (V 236) := T.2.2.1
  have T3 : hR h (V 204) 3 = some (V 237) := T.2.2.2.1
  have T4 : hR h (V 204) 4 = some (V 238) := T.2.2.2.2
  intro f
  induction f with
  | zero => intro g x2 n _ _ _ _ _ e; exact absurd e (by rw [sX3_copyFrom_17]; exact fun z => nomatch z)
  | succ f ih =>
    intro g x2 n e2 n2 A R N e
    rw [sX3_copyFrom_17] at e
    rcases br_s e with ⟨c, e⟩ | ⟨c, e⟩
    · have c := le_i c
      rw [z2, e2] at c
      have n2 : n = 2 := by omega
      rw [n2] at R
      replace e := nm_s e; obtain ⟨h2, u2, e⟩ := e
      replace e := nm_s e; obtain ⟨h3, u3, e⟩ := e
      replace e := nm_s e; obtain ⟨h4, u4, e⟩ := e
      replace e := nm_s e; obtain ⟨h5, u5, e⟩ := e
      replace e := nm_s e; obtain ⟨h6, u6, e⟩ := e
      rw [so_e e]
      have F2 : FrV V (wl [(204, 5)]) g h2 := by rw [u2]; exact fv_w rfl
      have F3 : FrV V (wl [(204, 6)]) h2 h3 := by rw [u3]; exact fv_w rfl
      have F4 : FrV V (wl [(204, 8)]) h3 h4 := by rw [u4]; exact fv_j rfl
      have F5 : FrV V (wl [(204, 9)]) h4 h5 := by rw [u5]; exact fv_j rfl
      have F6 : FrV V (wl [(204, 10)]) h5 h6 := by rw [u6]; exact fv_j rfl
      have S : FrV V (wl [(204, 5), (204, 6), (204, 8), (204, 9), (204, 10)]) g h6 := fv_t (fv_s F2 (by decide)) (fv_t (fv_s F3 (by decide)) (fv_t (fv_s F4 (by decide)) (fv_t (fv_s F5 (by decide)) (fv_s F6 (by decide)))))
      refine ⟨fv_t A (fv_s S (by decide)), fun j hj => ?_, fun s => fvI D S 234 s, ⟨?_, ?_, ?_, ?_, ?_⟩, fun a => by rw [u6, u5, u4, u3, u2]; exact N a⟩
      · rw [fvJ D S 235 j, fvI D S 236 j, fvJ D S 237 j, fvI D S 238 j]
        exact R j hj
      · rw [fvi D F6 204 5, fvi D F5 204 5, fvi D F4 204 5, fvi D F3 204 5, u2, r_I, if_pos ⟨rfl, rfl⟩, fvI D A 4 5]
      · rw [fvi D F6 204 6, fvi D F5 204 6, fvi D F4 204 6, u3, r_I, if_pos ⟨rfl, rfl⟩, fvI D F2 4 6, fvI D A 4 6]
      · rw [fvj D F6 204 8, fvj D F5 204 8, u4, r_J, if_pos ⟨rfl, rfl⟩, fvJ D F3 4 8, fvJ D F2 4 8, fvJ D A 4 8]
      · rw [fvj D F6 204 9, u5, r_J, if_pos ⟨rfl, rfl⟩, fvJ D F4 4 9, fvJ D F3 4 9, fvJ D F2 4 9, fvJ D A 4 9]
      · rw [u6, r_J, if_pos ⟨rfl, rfl⟩, fvJ D F5 4 10, fvJ D F4 4 10, fvJ D F3 4 10, fvJ D F2 4 10, fvJ D A 4 10]
    have c := nle_i c
    rw [z2, e2] at c
    have c2 : x2.toNatClampNeg = n := by have := nc_i (x := x2) (by omega); omega
    have t2 : (x2 + (1 : Int32)).toInt = ((n + 1 : Nat) : Int) := by rw [ta (by rw [z1]; omega), z1, e2]; omega
    replace e := ce_e (by rw [A.1]; exact T1) e
    replace e := ce_e (by rw [A.1]; exact Pc.2.1) e
    iterate 2 replace e := gg_e e
    replace e := nm_s e; obtain ⟨h11, u11, e⟩ := e
    rw [c2] at u11
    have F11 : FrV V (wl [(235, 999)]) g h11 := by rw [u11]; exact fv_j (wl_9 (by decide))
    replace e := ce_e (by rw [F11.1, A.1]; exact T2) e
    replace e := ce_e (by rw [F11.1, A.1]; exact Pc.2.2.1) e
    iterate 2 replace e := gg_e e
    replace e := nm_s e; obtain ⟨h16, u16, e⟩ := e
    rw [c2] at u16
    have F16 : FrV V (wl [(236, 999)]) h11 h16 := by rw [u16]; exact fv_w (wl_9 (by decide))
    replace e := ce_e (by rw [F16.1, F11.1, A.1]; exact T3) e
    replace e := ce_e (by rw [F16.1, F11.1, A.1]; exact Pc.2.2.2.1) e
    iterate 2 replace e := gg_e e
    replace e := nm_s e; obtain ⟨h21, u21, e⟩ := e
    rw [c2] at u21
    have F21 : FrV V (wl [(237, 999)]) h16 h21 := by rw [u21]; exact fv_j (wl_9 (by decide))
    replace e := ce_e (by rw [F21.1, F16.1, F11.1, A.1]; exact T4) e
    replace e := ce_e (by rw [F21.1, F16.1, F11.1, A.1]; exact Pc.2.2.2.2) e
    iterate 2 replace e := gg_e e
    replace e := nm_s e; obtain ⟨h26, u26, e⟩ := e
    rw [c2] at u26
    have F26 : FrV V (wl [(238, 999)]) h21 h26 := by rw [u26]; exact fv_w (wl_9 (by decide))
    have S : FrV V (wl [(235, 999), (236, 999), (237, 999), (238, 999)]) g h26 := fv_t (fv_s F11 (by decide)) (fv_t (fv_s F16 (by decide)) (fv_t (fv_s F21 (by decide)) (fv_s F26 (by decide))))
    obtain ⟨r1, r2, r3, r4, r5⟩ := ih (g := h26) (n := n + 1) t2 (by omega) (fv_t A (fv_s S (by decide))) (fun j hj => by
      rw [fvJ D F26 235 j, fvJ D F21 235 j, fvJ D F16 235 j, fvI D F26 236 j, fvI D F21 236 j, fvJ D F26 237 j, u11, r_J, u16, r_I, u21, r_J, u26, r_I]
      by_cases w : j = n
      · rw [if_pos ⟨rfl, w⟩, if_pos ⟨rfl, w⟩, if_pos ⟨rfl, w⟩, if_pos ⟨rfl, w⟩, w, fvI D F11 36 n, fvJ D F16 37 n, fvJ D F11 37 n, fvI D F21 38 n, fvI D F16 38 n, fvI D F11 38 n, fvJ D A 35 n, fvI D A 36 n, fvJ D A 37 n, fvI D A 38 n]
        exact ⟨rfl, rfl, rfl, rfl⟩
      · rw [if_neg (fun z => w z.2), if_neg (fun z => w z.2), if_neg (fun z => w z.2), if_neg (fun z => w z.2), fvI D F11 236 j, fvJ D F16 237 j, fvJ D F11 237 j, fvI D F21 238 j, fvI D F16 238 j, fvI D F11 238 j]
        exact R j (by omega)) (fun a => by rw [u26, u21, u16, u11]; exact N a) (nx_e e)
    exact ⟨r1, r2, fun s => by rw [r3 s, fvI D S 234 s], r4, r5⟩
theorem posc_kk {h' : Hp} {on of ra on' of' ra' : Nat} {M : Nat → Int} {ro : Int} (R : PosC h on of ra M ro) (a : ∀ s, s < 64 → hI h' on' s = hI h on s) (b : ∀ d, d < 2 → hJ h' of' d = hJ h of d) (c : ∀ d, d < 2 → hI h' ra' d = hI h ra d) : PosC h' on' of' ra' M ro :=
  ⟨fun s hs => by rw [a s hs]; exact R.1 s hs, fun d hd => by rw [b d hd]; exact R.2.1 d hd, fun d hd => by rw [c d hd]; exact R.2.2.1 d hd, R.2.2.2⟩
theorem cp_c (D : VD V) {ro : Int} (R : CpP V h ro P) (T : VPc (vC V) h) (e : sX3_copyFrom F h (V 204) (V 4) = some o) : FrV V (wl wc2) h o ∧ CpP (vC V) o ro P ∧ ∀ a, hN o a = hN h a := by
  have T0 : hR h (V 204) 0 = some (V 234) := T.1
  have z0 : (0 : Int32).toNatClampNeg = 0 := rfl
  have z64 : (64 : Int32).toNatClampNeg = 64 := rfl
  obtain ⟨Pc, b, c, d, ⟨p1, p2⟩, ⟨f1, f2⟩, i, j⟩ := R
  unfold sX3_copyFrom at e
  replace e := ce_e Pc.1 e
  replace e := ce_e T0 e
  iterate 6 replace e := gg_e e
  replace e := nm_s e; obtain ⟨h9, u9, e⟩ := e
  rw [z0, z64] at u9
  have F9 : FrV V (wl [(234, 999)]) h h9 := by rw [u9]; exact fv_cp (fun i => wl_9 (by decide))
  obtain ⟨r1, r2, r3, ⟨q5, q6, q8, q9, q10⟩, r5⟩ := cp_17 D Pc T F (g := h9) (n := 0) rfl (by decide) (fv_s F9 (by decide)) (fun j hj => absurd hj (Nat.not_lt_zero _)) (fun a => by rw [u9]; rfl) e
  refine ⟨r1, ⟨⟨by rw [r1.1]; exact T.1, by rw [r1.1]; exact T.2.1, by rw [r1.1]; exact T.2.2.1, by rw [r1.1]; exact T.2.2.2.1, by rw [r1.1]; exact T.2.2.2.2⟩, ?_, ?_, fun q hq => ?_, ⟨?_, ?_⟩, ⟨fun s hs => ?_, fun q hq => ?_⟩, fun q hq => ?_, ?_⟩, r5⟩
  · exact posc_kk b (fun s hs => by
      show hI o (V 234) s = _
      rw [r3 s, u9, cp_at, if_pos ⟨rfl, by omega, by omega⟩, show 0 + (s - 0) = s by omega]) (fun d hd => (r2 d hd).1) (fun d hd => (r2 d hd).2.1)
  · show (hI o (V 204) 5).toInt = _
    rw [q5]; exact c
  · show bitJ (hJ o (V 204) 8) q = _
    rw [q8]; exact d q hq
  · show Pw (hJ o (V 204) 9) _ _
    rw [q9]; exact p1
  · show OvN (hJ o (V 204) 10) _ _
    rw [q10]; exact p2
  · show HdB (hJ o (V 237) s)
    rw [(r2 s hs).2.2.1]; exact f1 s hs
  · show ((hv (hJ o (V 237) (q % 2)) (q / 2) : Nat) : Int) = _
    rw [(r2 (q % 2) (by omega)).2.2.1]; exact f2 q hq
  · show (hI o (V 238) q).toInt = _
    rw [(r2 q hq).2.2.2]; exact i q hq
  · show (hI o (V 204) 6).toInt = _
    rw [q6]; exact j
end
