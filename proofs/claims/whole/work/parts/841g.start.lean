theorem x_En {b : Nat} {s : State} (hts : ∀ w ∈ lw_tbl, w.before #[Value.ref b] s = true) (hgv : TT.before #[Value.ref b] s = true) : ∃ X : Ec, eB X = s.heap.size ∧ En X s := by
  have ht : ∀ w ∈ tables_1, w.before #[Value.ref b] s = true := fun w hw => hts w (List.mem_append_right _ hw)
  have hB := flat_of_before _ hgv
  have hA : ∀ a : Nat, a < s.heap.size → ¬ aA s.heap.size a := fun a h q => Nat.not_le.mpr h q
  have hcl : ∀ i : Nat, ∃ q : ClassId × (Nat → Nat), i < 16 → u_Kn s (clD i).1 (clD i).2.1 (clD i).2.2 q.1 q.2 := fun i => by
    by_cases hi : i < 16
    · obtain ⟨c, f, h⟩ := u_known ht (cl_in i hi) (ht _ (cl_inst i hi))
      exact ⟨(c, f), fun _ => h⟩
    · exact ⟨(0, fun _ => 0), fun h => absurd h hi⟩
  obtain ⟨G, hG⟩ := Classical.axiomOfChoice hcl
  obtain ⟨c16, k16⟩ := ty_P (ty := .byte) (ht (.arrayClass .byte) (by decide +kernel)) (by intro C h; cases h)
  obtain ⟨c17, k17⟩ := ty_P (ty := .int) (ht (.arrayClass .int) (by decide +kernel)) (by intro C h; cases h)
  obtain ⟨c18, k18⟩ := ty_P (ty := .long) (ht (.arrayClass .long) (by decide +kernel)) (by intro C h; cases h)
  obtain ⟨c19, k19⟩ := ty_P (ty := .boolean) (ht (.arrayClass .boolean) (by decide +kernel)) (by intro C h; cases h)
  have o20 := ht (.arrayOver (.object "GameRules$Position")) (by decide +kernel)
  have o21 := ht (.arrayOver (.object "GameRulesModel$Board")) (by decide +kernel)
  have o22 := ht (.arrayOver (.object "GameRulesModel$Moves")) (by decide +kernel)
  have o23 := ht (.arrayOver (.array .int)) (by decide +kernel)
  obtain ⟨c20, k20⟩ := ty_O o20
  obtain ⟨c21, k21⟩ := ty_O o21
  obtain ⟨c22, k22⟩ := ty_O o22
  obtain ⟨c23, k23⟩ := ty_A o23
  have hl : ∀ i : Nat, ∃ q : Nat × Nat, i < 52 → vk_S 1 [(lB i).length] [lB i] (fun _ => q.1) (fun _ => q.2) (aA s.heap.size) s s.heap ∧ (lT i).eval #[Value.ref b] s none [] s = some (.ref q.1) := fun i => by
    by_cases hi : i < 52
    · obtain ⟨a, v, h⟩ := lit_S hB hA i hi
      exact ⟨(a, v), fun _ => h⟩
    · exact ⟨(0, 0), fun h => absurd h hi⟩
  obtain ⟨Lq, hL⟩ := Classical.axiomOfChoice hl
  obtain ⟨sq, hsq, hT⟩ := va_Tof (args := #[Value.ref b]) (s := s) (tm := .static "GameRules" "SQUARE_OF" "[I") (ty := .int) (N := 64) (f := fun j => .int (sqT.getD j 0)) (A := aA s.heap.size) (by decide) (hB _ (by decide +kernel)) (va_eqt (hB (.eq (.length (.static "GameRules" "SQUARE_OF" "[I")) (.int 64)) (by decide +kernel))) (fun j hj => va_eqt (hB _ (sq_el j hj))) hA
  refine ⟨(((fun i => (G i).1), (fun i => (G i).2)), (fun k => match k with | 16 => c16 | 17 => c17 | 18 => c18 | 19 => c19 | 20 => c20 | 21 => c21 | 22 => c22 | _ => c23), s.heap.size, (fun i => (Lq i).1), (fun i => (Lq i).2), sq), rfl, ⟨fun i q hq => ?_, fun k q hq => ?_⟩, fun i hi => ⟨(hL i hi).1, vk_R.of (ht _ (lit_rf i hi)) (hL i hi).2⟩, va_Zof (ht _ (by decide +kernel)) (ht _ (by decide +kernel)) hsq hA, hT, va_Zof (ht _ (by decide +kernel)) (ht _ (by decide +kernel)) (va_eqt (hB _ (by decide +kernel))) hA, ?_, va_AO.of o20, va_AO.of o21, ⟨va_AO.of o22, o23⟩, fun own i r n d q m => ht _ m, fun own i y q m => ht _ m⟩
  · have hi : i < 16 := (List.getElem?_eq_some_iff.mp hq).1
    have e : clD i = q := by rw [clD, List.getD_eq_getElem?_getD, hq]; rfl
    have h5 := hG i hi
    rw [e] at h5
    exact h5
  · have hk : k < 8 := (List.getElem?_eq_some_iff.mp hq).1
    match k, hk, hq with
    | 0, _, hq => cases hq; exact k16
    | 1, _, hq => cases hq; exact k17
    | 2, _, hq => cases hq; exact k18
    | 3, _, hq => cases hq; exact k19
    | 4, _, hq => cases hq; exact k20
    | 5, _, hq => cases hq; exact k21
    | 6, _, hq => cases hq; exact k22
    | 7, _, hq => cases hq; exact k23
  · obtain ⟨v, hv, hr⟩ := Cond.isRef_spec (hB (.isRef (.static "jdk/internal/util/Preconditions" "SIOOBE_FORMATTER" "Ljava/util/function/BiFunction;")) (by decide +kernel))
    have h5 := va_Zof (ht _ (by decide +kernel)) (ht _ (by decide +kernel)) hv hA
    cases v with
    | null => exact ⟨none, h5⟩
    | ref q => exact ⟨some q, h5⟩
    | _ => cases hr
