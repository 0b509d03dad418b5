abbrev TT : Cond := Jvm.Cond.and given_1 narrow_1
def cLit (q : String × Nat × String × List Int32) : List Cond :=
  [Cond.exactly (.string q.1 q.2.1) "java/lang/String", Cond.eq (.field (.string q.1 q.2.1) "java/lang/String" "coder" "B") (.int 0), Cond.arrayOf (.field (.string q.1 q.2.1) "java/lang/String" "value" "[B") .byte, Cond.eq (.length (.field (.string q.1 q.2.1) "java/lang/String" "value" "[B")) (.int (Int32.ofNat q.2.2.2.length))] ++
   (List.range q.2.2.2.length).map fun j => Cond.eq (.elem (.field (.string q.1 q.2.1) "java/lang/String" "value" "[B") (.int (Int32.ofNat j))) (.int (q.2.2.2.getD j 0))
abbrev offs : List Nat := [76, 183, 276, 317, 326, 333, 339, 345, 353, 361, 369, 378, 386, 394, 405, 414, 424, 432, 440, 447, 456, 466, 474, 483, 491, 498, 506, 513, 522, 757, 767, 775, 782, 789, 798, 807, 816, 826, 835, 844, 856, 866, 877, 886, 895, 903, 913, 924, 933, 943, 951, 960]
theorem lit_all : ∀ i, i < 52 → ((flatC TT).drop (offs.getD i 0)).take (4 + (lB i).length) = cLit (lits.getD i ("", 0, "", [])) := by decide +kernel
theorem lit_in {i : Nat} (hi : i < 52) {w : Cond} (hw : w ∈ cLit (lits.getD i ("", 0, "", []))) : w ∈ flatC TT := by
  rw [← lit_all i hi] at hw
  exact List.mem_of_mem_drop (List.mem_of_mem_take hw)
theorem lit_rf : ∀ i, i < 52 → Cond.stringRef (lits.getD i ("", 0, "", [])).1 (lits.getD i ("", 0, "", [])).2.1 (lits.getD i ("", 0, "", [])).2.2.1 ∈ tables_1 := by decide +kernel
theorem lit_n : ∀ i, i < 52 → (lB i).length < 2 ^ 31 := by decide +kernel
abbrev lT (i : Nat) : Term := .string (lits.getD i ("", 0, "", [])).1 (lits.getD i ("", 0, "", [])).2.1
theorem lit_S {b : Nat} {s : State} {A : Nat → Prop} (hB : ∀ w ∈ flatC TT, w.before #[Value.ref b] s = true) (hA : ∀ a : Nat, a < s.heap.size → ¬ A a) (i : Nat) (hi : i < 52) :
    ∃ a v : Nat, vk_S 1 [(lB i).length] [lB i] (fun _ => a) (fun _ => v) A s s.heap ∧ (lT i).eval #[Value.ref b] s none [] s = some (.ref a) := by
  have hin := fun {w : Cond} (hw : w ∈ cLit (lits.getD i ("", 0, "", []))) => hB w (lit_in hi hw)
  obtain ⟨adK, adV, h1, h2⟩ := vk_Sof (args := #[Value.ref b]) (s := s) (N := 1) (tm := fun _ => lT i) (len := [(lB i).length]) (byt := [lB i]) (A := A)
    (fun k hk => by obtain rfl : k = 0 := by omega
                    exact lit_n i hi)
    (fun k hk => hin (List.mem_append_left _ (List.mem_cons_self)))
    (fun k hk => hin (List.mem_append_left _ (List.mem_cons_of_mem _ (List.mem_cons_self))))
    (fun k hk => hin (List.mem_append_left _ (List.mem_cons_of_mem _ (List.mem_cons_of_mem _ (List.mem_cons_self)))))
    (fun k hk => by obtain rfl : k = 0 := by omega
                    exact hin (List.mem_append_left _ (List.mem_cons_of_mem _ (List.mem_cons_of_mem _ (List.mem_cons_of_mem _ (List.mem_cons_self))))))
    (fun k hk j hj => by obtain rfl : k = 0 := by omega
                         exact hin (List.mem_append_right _ (List.mem_map.mpr ⟨j, List.mem_range.mpr hj, rfl⟩)))
    (fun i j hi hj hij => absurd (by omega : i = j) hij) hA
  refine ⟨adK 0, adV 0, ⟨fun k hk => ?_, fun i j hi hj _ => by omega⟩, h2 0 (by omega)⟩
  obtain rfl : k = 0 := by omega
  exact h1.1 0 (by omega)
theorem sq_el : ∀ j, j < 64 → Cond.eq (.elem (.static "GameRules" "SQUARE_OF" "[I") (.int (Int32.ofNat j))) (.int (sqT.getD j 0)) ∈ flatC TT := by decide +kernel
theorem ty_P {s : State} {args : Array Value} {ty : FieldType} (h : (Cond.arrayClass ty).before args s = true) (hno : ∀ C, ty ≠ .object C) : ∃ cA : ClassId, ArrOfT s cA ty ∧ va_RA s cA ty := by
  obtain ⟨c, k, comp, h1, h2, h3⟩ := Cond.arrayClass_spec h
  refine ⟨c, fun n z => ⟨fun k h => (by cases h), k, h2, comp, h3⟩, ?_⟩
  unfold va_RA
  cases ty <;> first | exact absurd rfl (hno _) | exact h1
theorem ty_O {s : State} {args : Array Value} {C : String} (h : (Cond.arrayOver (.object C)).before args s = true) : ∃ cA : ClassId, ArrOfT s cA (.object C) ∧ va_RA s cA (.object C) := by
  obtain ⟨comp, c, k, h1, h2, h3, h4, h5⟩ := Cond.arrayOver_spec h
  exact ⟨c, fun n z => ⟨fun k h => (by cases h), k, h3, comp, h4⟩, k, comp, h3, h4, h1, h5⟩
theorem ty_A {s : State} {args : Array Value} {t : FieldType} (h : (Cond.arrayOver (.array t)).before args s = true) : ∃ cA : ClassId, ArrOfT s cA (.array t) ∧ va_RA s cA (.array t) := by
  obtain ⟨comp, c, k, h1, h2, h3, h4, h5⟩ := arrayOverA_spec h
  exact ⟨c, fun n z => ⟨fun k h => (by cases h), k, h3, comp, h4⟩, h5⟩
