abbrev TT : Cond := Jvm.Cond.and given_1 narrow_1
def cLit (q : String × Nat × String × List Int32) : List Cond :=
  [Cond.exactly (.string q.1 q.2.1) "java/lang/String", Cond.eq (.field (.string q.1 q.2.1) "java/lang/String" "coder" "B") (.int 0), Cond.arrayOf (.field (.string q.1 q.2.1) "java/lang/String" "value" "[B") .byte, Cond.eq (.length (.field (.string q.1 q.2.1) "java/lang/String" "value" "[B")) (.int (Int32.ofNat q.2.2.2.length))] ++
   (List.range q.2.2.2.length).map fun j => Cond.eq (.elem (.field (.string q.1 q.2.1) "java/lang/String" "value" "[B") (.int (Int32.ofNat j))) (.int (q.2.2.2.getD j 0))
abbrev offs : List Nat := [76, 183, 276, 317, 326, 333, 339, 345, 353, 361, 369, 378, 386, 394, 405, 414, 424, 432, 440, 447, 456, 466, 474, 483, 491, 498, 506, 513, 522, 757, 767, 775, 782, 789, 798, 807, 816, 826, 835, 844, 856, 866, 877, 886, 895, 903, 913, 924, 933, 943, 951, 960]
theorem lit_all : ∀ i, i < 52 → ((flatC TT).drop (offs.getD i 0)).take (4 + (lB i).length) = cLit (lits.getD i ("", 0, "", [])) := by decide +kernel
theorem lit_in {i : Nat} (hi : i < 52) {w : Cond} (hw : w ∈ cLit (lits.getD i ("", 0, "", []))) : w ∈ flatC TT := by
  rw [← lit_all i hi] at hw
  exact List.mem_of_mem_drop (List.mem_of_mem_take hw)
theorem lit_rf : ∀ i, i < 52 → Cond.stringRef (lits.getD i ("", 0, "", [])).1 (lits.getD i ("", 0, "", [])).2.1 (lits.getD i ("", 0, "", [])).2.2.1 ∈ tables_1 := by decide +kernel
theorem lit_n : ∀ i, i < 52 → (lB i).length < 2 ^ 31 := by decide +kernel
abbrev lT (i : Nat) : Term := .string (lits.getD i ("", 0, "", [])).1 (lits.getD i ("", 0, "", [])).2.1
theorem lit_S {b : Nat} {s : State} {A : Nat → Prop} (hB : ∀ w ∈ flatC TT, w.before #[Value.ref b] s = true) (hA : ∀ a : Nat, a < s.heap.size → ¬ A a) (i : Nat) (hi : i < 52) :
    ∃ a v : Nat, vk_S 1 [(lB i).length] [lB i] (fun _ => a) (fun _ => v) A s s.heap ∧ (lT i).eval #[Value.ref b] s none [] s = some (.ref a) := by
  have hin := fun {w : Cond} (hw : w ∈ cLit (lits.getD i ("", 0, "", []))) => hB w (lit_in hi hw)
  obtain ⟨adK, adV, h1, h2⟩ := vk_Sof (args := #[Value.ref b]) (s := s) (N := 1) (tm := fun _ => lT i) (len := [(lB i).length]) (byt := [lB i]) (A := A)
    (fun k hk => by obtain rfl : k = 0 := by omega
                    exact lit_n i hi)
    (fun k hk => hin (List.mem_append_left _ (List.mem_cons_self)))
    (fun k hk => hin (List.mem_append_left _ (List.mem_cons_of_mem _ (List.mem_cons_self))))
    (fun k hk => hin (List.mem_append_left _ (List.mem_cons_of_mem _ (List.mem_cons_of_mem _ (List.mem_cons_self)))))
    (fun k hk => by obtain rfl : k = 0 := by omega
                    exact hin (List.mem_append_left _ (List.mem_cons_of_mem _ (List.mem_cons_of_mem _ (List.mem_cons_of_mem _ (List.mem_cons_self))))))
    (fun k hk j hj => by obtain rfl : k = 0 := by omega
                         exact hin (List.mem_append_right _ (List.mem_map.mpr ⟨j, List.mem_range.mpr hj, rfl⟩)))
    (fun i j hi hj hij => absurd (by omega : i = j) hij) hA
  refine ⟨adK 0, adV 0, ⟨fun k hk => ?_, fun i j hi hj _ => by omega⟩, h2 0 (by omega)⟩
  obtain rfl : k = 0 := by omega
  exact h1.1 0 (by omega)
theorem sq_el : ∀ j, j < 64 → Cond.eq (.elem (.static "GameRules" "SQUARE_OF" "[I") (.int (Int32.ofNat j))) (.int (sqT.getD j 0)) ∈ flatC TT := by decide +kernel
theorem ty_P {s : State} {args : Array Value} {ty : FieldType} (h : (Cond.arrayClass ty).before args s = true) (hno : ∀ C, ty ≠ .object C) : ∃ cA : ClassId, ArrOfT s cA ty ∧ va_RA s cA ty := by
  obtain ⟨c, k, comp, h1, h2, h3⟩ := Cond.arrayClass_spec h
  refine ⟨c, fun n z => ⟨fun k h => (by cases h), k, h2, comp, h3⟩, ?_⟩
  unfold va_RA
  cases ty <;> first | exact absurd rfl (hno _) | exact h1
theorem ty_O {s : State} {args : Array Value} {C : String} (h : (Cond.arrayOver (.object C)).before args s = true) : ∃ cA : ClassId, ArrOfT s cA (.object C) ∧ va_RA s cA (.object C) := by
  obtain ⟨comp, c, k, h1, h2, h3, h4, h5⟩ := Cond.arrayOver_spec h
  exact ⟨c, fun n z => ⟨fun k h => (by cases h), k, h3, comp, h4⟩, k, comp, h3, h4, h1, h5⟩
theorem ty_A {s : State} {args : Array Value} {t : FieldType} (h : (Cond.arrayOver (.array t)).before args s = true) : ∃ cA : ClassId, ArrOfT s cA (.array t) ∧ va_RA s cA (.array t) := by
  obtain ⟨comp, c, k, h1, h2, h3, h4, h5⟩ := arrayOverA_spec h
  exact ⟨c, fun n z => ⟨fun k h => (by cases h), k, h3, comp, h4⟩, h5⟩
abbrev clD (i : Nat) : vw_C := classes.getD i (RX0, TX0, 19)
theorem cl_in0 : ∀ w ∈ u_ws RX0 TX0 19, w ∈ tables_1 := by decide +kernel
theorem cl_in1 : ∀ w ∈ u_ws RX1 TX1 21, w ∈ tables_1 := by decide +kernel
theorem cl_in2 : ∀ w ∈ u_ws RX2 TX2 7, w ∈ tables_1 := by decide +kernel
theorem cl_in3 : ∀ w ∈ u_ws RX3 TX3 11, w ∈ tables_1 := by decide +kernel
theorem cl_in4 : ∀ w ∈ u_ws RX4 TX4 17, w ∈ tables_1 := by decide +kernel
theorem cl_in5 : ∀ w ∈ u_ws RX5 TX5 10, w ∈ tables_1 := by decide +kernel
theorem cl_in6 : ∀ w ∈ u_ws RX6 TX6 8, w ∈ tables_1 := by decide +kernel
theorem cl_in7 : ∀ w ∈ u_ws RX7 TX7 3, w ∈ tables_1 := by decide +kernel
theorem cl_in8 : ∀ w ∈ u_ws RX8 TX8 4, w ∈ tables_1 := by decide +kernel
theorem cl_in9 : ∀ w ∈ u_ws RX9 TX9 2, w ∈ tables_1 := by decide +kernel
theorem cl_in10 : ∀ w ∈ u_ws RX10 TX10 9, w ∈ tables_1 := by decide +kernel
theorem cl_in11 : ∀ w ∈ u_ws RX11 TX11 18, w ∈ tables_1 := by decide +kernel
theorem cl_in12 : ∀ w ∈ u_ws RX12 TX12 8, w ∈ tables_1 := by decide +kernel
theorem cl_in13 : ∀ w ∈ u_ws RX13 TX13 8, w ∈ tables_1 := by decide +kernel
theorem cl_in14 : ∀ w ∈ u_ws RX14 TX14 24, w ∈ tables_1 := by decide +kernel
theorem cl_in15 : ∀ w ∈ u_ws RX15 TX15 71, w ∈ tables_1 := by decide +kernel
theorem cl_in : ∀ i, i < 16 → ∀ w ∈ u_ws (clD i).1 (clD i).2.1 (clD i).2.2, w ∈ tables_1 := fun i hi => match i, hi with
  | 0, _ => cl_in0
  | 1, _ => cl_in1
  | 2, _ => cl_in2
  | 3, _ => cl_in3
  | 4, _ => cl_in4
  | 5, _ => cl_in5
  | 6, _ => cl_in6
  | 7, _ => cl_in7
  | 8, _ => cl_in8
  | 9, _ => cl_in9
  | 10, _ => cl_in10
  | 11, _ => cl_in11
  | 12, _ => cl_in12
  | 13, _ => cl_in13
  | 14, _ => cl_in14
  | 15, _ => cl_in15
  | k + 16, h => absurd h (by omega)
theorem cl_inst : ∀ i, i < 16 → Cond.instantiable (clD i).1 (clD i).2.2 ∈ tables_1 := by decide +kernel
theorem x_En {b : Nat} {s : State} (hts : ∀ w ∈ lw_tbl, w.before #[Value.ref b] s = true) (hgv : TT.before #[Value.ref b] s = true) : ∃ X : Ec, eB X = s.heap.size ∧ En X s := by
  have ht : ∀ w ∈ tables_1, w.before #[Value.ref b] s = true := fun w hw => hts w (List.mem_append_right _ hw)
  have hB := flat_of_before _ hgv
  have hA : ∀ a : Nat, a < s.heap.size → ¬ aA s.heap.size a := fun a h q => Nat.not_le.mpr h q
  have hcl : ∀ i : Nat, ∃ q : ClassId × (Nat → Nat), i < 16 → u_Kn s (clD i).1 (clD i).2.1 (clD i).2.2 q.1 q.2 := fun i => by
    by_cases hi : i < 16
    · obtain ⟨c, f, h⟩ := u_known ht (cl_in i hi) (ht _ (cl_inst i hi))
      exact ⟨(c, f), fun _ => h⟩
    · exact ⟨(0, fun _ => 0), fun h => absurd h hi⟩
  obtain ⟨G, hG⟩ := Classical.axiomOfChoice hcl
  obtain ⟨c16, k16⟩ := ty_P (ty := .byte) (ht (.arrayClass .byte) (by decide +kernel)) (by intro C h; cases h)
  obtain ⟨c17, k17⟩ := ty_P (ty := .int) (ht (.arrayClass .int) (by decide +kernel)) (by intro C h; cases h)
  obtain ⟨c18, k18⟩ := ty_P (ty := .long) (ht (.arrayClass .long) (by decide +kernel)) (by intro C h; cases h)
  obtain ⟨c19, k19⟩ := ty_P (ty := .boolean) (ht (.arrayClass .boolean) (by decide +kernel)) (by intro C h; cases h)
  have o20 := ht (.arrayOver (.object "GameRules$Position")) (by decide +kernel)
  have o21 := ht (.arrayOver (.object "GameRulesModel$Board")) (by decide +kernel)
  have o22 := ht (.arrayOver (.object "GameRulesModel$Moves")) (by decide +kernel)
  have o23 := ht (.arrayOver (.array .int)) (by decide +kernel)
  obtain ⟨c20, k20⟩ := ty_O o20
  obtain ⟨c21, k21⟩ := ty_O o21
  obtain ⟨c22, k22⟩ := ty_O o22
  obtain ⟨c23, k23⟩ := ty_A o23
  have hl : ∀ i : Nat, ∃ q : Nat × Nat, i < 52 → vk_S 1 [(lB i).length] [lB i] (fun _ => q.1) (fun _ => q.2) (aA s.heap.size) s s.heap ∧ (lT i).eval #[Value.ref b] s none [] s = some (.ref q.1) := fun i => by
    by_cases hi : i < 52
    · obtain ⟨a, v, h⟩ := lit_S hB hA i hi
      exact ⟨(a, v), fun _ => h⟩
    · exact ⟨(0, 0), fun h => absurd h hi⟩
  obtain ⟨Lq, hL⟩ := Classical.axiomOfChoice hl
  obtain ⟨sq, hsq, hT⟩ := va_Tof (args := #[Value.ref b]) (s := s) (tm := .static "GameRules" "SQUARE_OF" "[I") (ty := .int) (N := 64) (f := fun j => .int (sqT.getD j 0)) (A := aA s.heap.size) (by decide) (hB _ (by decide +kernel)) (va_eqt (hB (.eq (.length (.static "GameRules" "SQUARE_OF" "[I")) (.int 64)) (by decide +kernel))) (fun j hj => va_eqt (hB _ (sq_el j hj))) hA
  refine ⟨(((fun i => (G i).1), (fun i => (G i).2)), (fun k => match k with | 16 => c16 | 17 => c17 | 18 => c18 | 19 => c19 | 20 => c20 | 21 => c21 | 22 => c22 | _ => c23), s.heap.size, (fun i => (Lq i).1), (fun i => (Lq i).2), sq), rfl, ⟨fun i q hq => ?_, fun k q hq => ?_⟩, fun i hi => ⟨(hL i hi).1, vk_R.of (ht _ (lit_rf i hi)) (hL i hi).2⟩, va_Zof (ht _ (by decide +kernel)) (ht _ (by decide +kernel)) hsq hA, hT, va_Zof (ht _ (by decide +kernel)) (ht _ (by decide +kernel)) (va_eqt (hB _ (by decide +kernel))) hA, ?_, va_AO.of o20, va_AO.of o21, ⟨va_AO.of o22, o23⟩, fun own i r n d q m => ht _ m, fun own i y q m => ht _ m⟩
  · have hi : i < 16 := (List.getElem?_eq_some_iff.mp hq).1
    have e : clD i = q := by rw [clD, List.getD_eq_getElem?_getD, hq]; rfl
    have h5 := hG i hi
    rw [e] at h5
    exact h5
  · have hk : k < 8 := (List.getElem?_eq_some_iff.mp hq).1
    match k, hk, hq with
    | 0, _, hq => cases hq; exact k16
    | 1, _, hq => cases hq; exact k17
    | 2, _, hq => cases hq; exact k18
    | 3, _, hq => cases hq; exact k19
    | 4, _, hq => cases hq; exact k20
    | 5, _, hq => cases hq; exact k21
    | 6, _, hq => cases hq; exact k22
    | 7, _, hq => cases hq; exact k23
  · obtain ⟨v, hv, hr⟩ := Cond.isRef_spec (hB (.isRef (.static "jdk/internal/util/Preconditions" "SIOOBE_FORMATTER" "Ljava/util/function/BiFunction;")) (by decide +kernel))
    have h5 := va_Zof (ht _ (by decide +kernel)) (ht _ (by decide +kernel)) hv hA
    cases v with
    | null => exact ⟨none, h5⟩
    | ref q => exact ⟨some q, h5⟩
    | _ => cases hr
