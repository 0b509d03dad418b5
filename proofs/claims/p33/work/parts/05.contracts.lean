-- the String constants of the claim (class, place in its pool, text, bytes), the table of squares
def lits : List (String × Nat × String × List Int32) := [
  ("GameRules", 127, "board 8 8; man k 0 1, 1 1; man q 0 1 ride 7, 1 1 ride 7; man r 0 1 ride 7; man b 1 1 ride 7; man n 1 2;", [98, 111, 97, 114, 100, 32, 56, 32, 56, 59, 32, 109, 97, 110, 32, 107, 32, 48, 32, 49, 44, 32, 49, 32, 49, 59, 32, 109, 97, 110, 32, 113, 32, 48, 32, 49, 32, 114, 105, 100, 101, 32, 55, 44, 32, 49, 32, 49, 32, 114, 105, 100, 101, 32, 55, 59, 32, 109, 97, 110, 32, 114, 32, 48, 32, 49, 32, 114, 105, 100, 101, 32, 55, 59, 32, 109, 97, 110, 32, 98, 32, 49, 32, 49, 32, 114, 105, 100, 101, 32, 55, 59, 32, 109, 97, 110, 32, 110, 32, 49, 32, 50, 59]),
  ("GameRules", 133, "man p to fore 0 1, to fore pass 0 1 ride 2 from 2, on fore catch 1 1, on fore catch -1 1;", [109, 97, 110, 32, 112, 32, 116, 111, 32, 102, 111, 114, 101, 32, 48, 32, 49, 44, 32, 116, 111, 32, 102, 111, 114, 101, 32, 112, 97, 115, 115, 32, 48, 32, 49, 32, 114, 105, 100, 101, 32, 50, 32, 102, 114, 111, 109, 32, 50, 44, 32, 111, 110, 32, 102, 111, 114, 101, 32, 99, 97, 116, 99, 104, 32, 49, 32, 49, 44, 32, 111, 110, 32, 102, 111, 114, 101, 32, 99, 97, 116, 99, 104, 32, 45, 49, 32, 49, 59]),
  ("GameRules", 135, "royal k; becomes p q r b n; castle r;", [114, 111, 121, 97, 108, 32, 107, 59, 32, 98, 101, 99, 111, 109, 101, 115, 32, 112, 32, 113, 32, 114, 32, 98, 32, 110, 59, 32, 99, 97, 115, 116, 108, 101, 32, 114, 59]),
  ("GameRules$LawReader", 102, "board", [98, 111, 97, 114, 100]),
  ("GameRules$LawReader", 41, "man", [109, 97, 110]),
  ("GameRules$LawReader", 198, "to", [116, 111]),
  ("GameRules$LawReader", 200, "on", [111, 110]),
  ("GameRules$LawReader", 202, "fore", [102, 111, 114, 101]),
  ("GameRules$LawReader", 204, "over", [111, 118, 101, 114]),
  ("GameRules$LawReader", 206, "pass", [112, 97, 115, 115]),
  ("GameRules$LawReader", 208, "catch", [99, 97, 116, 99, 104]),
  ("GameRules$LawReader", 181, "ride", [114, 105, 100, 101]),
  ("GameRules$LawReader", 187, "from", [102, 114, 111, 109]),
  ("GameRules$LawReader", 50, "becomes", [98, 101, 99, 111, 109, 101, 115]),
  ("GameRules$LawReader", 121, "royal", [114, 111, 121, 97, 108]),
  ("GameRules$LawReader", 122, "castle", [99, 97, 115, 116, 108, 101]),
  ("GameRules$LawReader", 124, "hand", [104, 97, 110, 100]),
  ("GameRules$LawReader", 126, "must", [109, 117, 115, 116]),
  ("GameRules$LawReader", 128, "shy", [115, 104, 121]),
  ("GameRules$LawReader", 130, "blast", [98, 108, 97, 115, 116]),
  ("GameRules$LawReader", 132, "checks", [99, 104, 101, 99, 107, 115]),
  ("GameRules$LawReader", 134, "hill", [104, 105, 108, 108]),
  ("GameRules$LawReader", 136, "stale", [115, 116, 97, 108, 101]),
  ("GameRules$LawReader", 138, "bare", [98, 97, 114, 101]),
  ("GameRules$LawReader", 240, "won", [119, 111, 110]),
  ("GameRules$LawReader", 242, "lost", [108, 111, 115, 116]),
  ("GameRules$Speaker", 47, "O-O", [79, 45, 79]),
  ("GameRules$Speaker", 49, "O-O-O", [79, 45, 79, 45, 79]),
  ("GameRulesModel", 374, "board 8 8; man k 0 1, 1 1; man q 0 1 ride 7, 1 1 ride 7; man r 0 1 ride 7; man b 1 1 ride 7; man n 1 2; man p to fore 0 1, to fore pass 0 1 ride 2 from 2, on fore catch 1 1, on fore catch -1 1; royal k; becomes p q r b n; castle r;", [98, 111, 97, 114, 100, 32, 56, 32, 56, 59, 32, 109, 97, 110, 32, 107, 32, 48, 32, 49, 44, 32, 49, 32, 49, 59, 32, 109, 97, 110, 32, 113, 32, 48, 32, 49, 32, 114, 105, 100, 101, 32, 55, 44, 32, 49, 32, 49, 32, 114, 105, 100, 101, 32, 55, 59, 32, 109, 97, 110, 32, 114, 32, 48, 32, 49, 32, 114, 105, 100, 101, 32, 55, 59, 32, 109, 97, 110, 32, 98, 32, 49, 32, 49, 32, 114, 105, 100, 101, 32, 55, 59, 32, 109, 97, 110, 32, 110, 32, 49, 32, 50, 59, 32, 109, 97, 110, 32, 112, 32, 116, 111, 32, 102, 111, 114, 101, 32, 48, 32, 49, 44, 32, 116, 111, 32, 102, 111, 114, 101, 32, 112, 97, 115, 115, 32, 48, 32, 49, 32, 114, 105, 100, 101, 32, 50, 32, 102, 114, 111, 109, 32, 50, 44, 32, 111, 110, 32, 102, 111, 114, 101, 32, 99, 97, 116, 99, 104, 32, 49, 32, 49, 44, 32, 111, 110, 32, 102, 111, 114, 101, 32, 99, 97, 116, 99, 104, 32, 45, 49, 32, 49, 59, 32, 114, 111, 121, 97, 108, 32, 107, 59, 32, 98, 101, 99, 111, 109, 101, 115, 32, 112, 32, 113, 32, 114, 32, 98, 32, 110, 59, 32, 99, 97, 115, 116, 108, 101, 32, 114, 59]),
  ("GameRulesModel", 78, "board", [98, 111, 97, 114, 100]),
  ("GameRulesModel", 101, "man", [109, 97, 110]),
  ("GameRulesModel", 183, "to", [116, 111]),
  ("GameRulesModel", 185, "on", [111, 110]),
  ("GameRulesModel", 187, "fore", [102, 111, 114, 101]),
  ("GameRulesModel", 189, "over", [111, 118, 101, 114]),
  ("GameRulesModel", 191, "pass", [112, 97, 115, 115]),
  ("GameRulesModel", 193, "catch", [99, 97, 116, 99, 104]),
  ("GameRulesModel", 213, "ride", [114, 105, 100, 101]),
  ("GameRulesModel", 214, "from", [102, 114, 111, 109]),
  ("GameRulesModel", 106, "becomes", [98, 101, 99, 111, 109, 101, 115]),
  ("GameRulesModel", 111, "royal", [114, 111, 121, 97, 108]),
  ("GameRulesModel", 119, "castle", [99, 97, 115, 116, 108, 101]),
  ("GameRulesModel", 124, "hand", [104, 97, 110, 100]),
  ("GameRulesModel", 132, "must", [109, 117, 115, 116]),
  ("GameRulesModel", 136, "shy", [115, 104, 121]),
  ("GameRulesModel", 140, "blast", [98, 108, 97, 115, 116]),
  ("GameRulesModel", 147, "checks", [99, 104, 101, 99, 107, 115]),
  ("GameRulesModel", 152, "hill", [104, 105, 108, 108]),
  ("GameRulesModel", 157, "stale", [115, 116, 97, 108, 101]),
  ("GameRulesModel", 238, "won", [119, 111, 110]),
  ("GameRulesModel", 240, "lost", [108, 111, 115, 116]),
  ("GameRulesModel", 163, "bare", [98, 97, 114, 101])]
abbrev lB (i : Nat) : List Int32 := (lits.getD i ("", 0, "", [])).2.2.2
def sqT : List Int32 := [0, 1, 48, 2, 57, 49, 28, 3, 61, 58, 50, 42, 38, 29, 17, 4, 62, 55, 59, 36, 53, 51, 43, 22, 45, 39, 33, 30, 24, 18, 12, 5, 63, 47, 56, 27, 60, 41, 37, 16, 54, 35, 52, 21, 44, 32, 23, 11, 46, 26, 40, 15, 34, 20, 31, 10, 25, 14, 19, 9, 13, 8, 7, 6]
-- what holds of the tables, the constants and the statics: classes, kinds, the pool's first address, the constants' addresses and those of their bytes, the static array's
abbrev Ec : Type := va_G × (Nat → ClassId) × Nat × (Nat → Nat) × (Nat → Nat) × Nat
abbrev eB (X : Ec) : Nat := X.2.2.1
def AOA (U : State) : Prop := (Cond.arrayOver (.array .int)).before #[] U = true
theorem AOA.moved {u U : State} (hvm : u.vm.Alike U.vm) (h : AOA u) : AOA U := by
  obtain ⟨comp, c, k, h1, h2, h3, h4, h5⟩ := arrayOverA_spec h
  obtain ⟨k', hk', he⟩ := hvm.2.2 _ _ h3
  have hi : (U.vm.classes.findIdx? fun (x : Class) => match x.kind with | .array component _ => component == comp | _ => false) = some c := by
    refine (va_idx_bare U.vm comp).symm.trans (Eq.trans ?_ ((va_idx_bare u.vm comp).trans h2))
    first | rw [hvm.bare_eq] | rw [← hvm.bare_eq]
  have hkind : k'.kind = .array comp (.array .int) := by rw [he]; exact h4
  have f1 : U.vm.findClass (FieldType.array .int).toString = some comp := by rw [hvm.findClass]; exact h1
  have f2 : U.vm.findClass ("[" ++ (FieldType.array .int).toString) = some c := by rw [hvm.findClass]; exact h5
  unfold AOA Cond.before Cond.holds
  simp only [Cond.value]
  rw [f1, Option.bind_some]
  refine (congrArg (fun o : Option Nat => (o.bind (fun c => (U.vm.classes[c]?).map fun (k : Class) => match k.kind with | .array _ ty => decide (ty = FieldType.array .int) && decide (U.vm.findClass ("[" ++ (FieldType.array .int).toString) = some c) | _ => false) == some true)) hi).trans ?_
  simp [hk', hkind, f2]
def En (X : Ec) (U : State) : Prop :=
  va_K X.1 classes (tys X.2.1) U ∧
  (∀ i, i < 52 → vk_S 1 [(lB i).length] [lB i] (fun _ => X.2.2.2.1 i) (fun _ => X.2.2.2.2.1 i) (aA (eB X)) U U.heap ∧ vk_R (lits.getD i ("", 0, "", [])).1 (lits.getD i ("", 0, "", [])).2.1 (lits.getD i ("", 0, "", [])).2.2.1 (X.2.2.2.1 i) U) ∧
  va_Z "GameRules" "SQUARE_OF" "[I" (.ref X.2.2.2.2.2) (aA (eB X)) U U.heap ∧ va_T .int X.2.2.2.2.2 64 (fun j => .int (sqT.getD j 0)) (aA (eB X)) U U.heap ∧
  va_Z "java/lang/String" "COMPACT_STRINGS" "Z" (.int 1) (aA (eB X)) U U.heap ∧
  (∃ q : Option Nat, va_Z "jdk/internal/util/Preconditions" "SIOOBE_FORMATTER" "Ljava/util/function/BiFunction;" (va_rf q) (aA (eB X)) U U.heap) ∧ va_AO "GameRules$Position" U ∧ va_AO "GameRulesModel$Board" U ∧ (va_AO "GameRulesModel$Moves" U ∧ AOA U) ∧
  (∀ own i r n d q, Cond.fieldLinkNest own i r n d q ∈ tables_1 → va_Nw (Cond.fieldLinkNest own i r n d q) U) ∧ (∀ own i y q, Cond.methodLinkNest own i y q ∈ tables_1 → va_Nw (Cond.methodLinkNest own i y q) U)
theorem En.go {X : Ec} {s U : State} (hW : s.WarmedH U.vm) (hq : ∀ a : Nat, a < s.heap.size → ¬ aA (eB X) a → U.heap[a]? = s.heap[a]?) (h : En X s) : En X U :=
  ⟨va_K.moved hW.alike h.1, fun i hi => ⟨(vk_S.moved hW.alike (h.2.1 i hi).1).kept hq, (h.2.1 i hi).2.warm hW⟩, (va_Z.moved hW.alike h.2.2.1).kept hq, (va_T.moved hW.alike h.2.2.2.1).kept hq, (va_Z.moved hW.alike h.2.2.2.2.1).kept hq, h.2.2.2.2.2.1.imp fun _ z => (va_Z.moved hW.alike z).kept hq, va_AO.moved hW.alike h.2.2.2.2.2.2.1, va_AO.moved hW.alike h.2.2.2.2.2.2.2.1, ⟨va_AO.moved hW.alike h.2.2.2.2.2.2.2.2.1.1, AOA.moved hW.alike h.2.2.2.2.2.2.2.2.1.2⟩, fun own i r n d q m => va_Nw.warmF hW (h.2.2.2.2.2.2.2.2.2.1 own i r n d q m), fun own i y q m => va_Nw.warmM hW (h.2.2.2.2.2.2.2.2.2.2 own i y q m)⟩
theorem En.same {X : Ec} {s U : State} (hv : U.vm = s.vm) (hh : U.heap = s.heap) (h : En X s) : En X U := by
  have ha : s.vm.Alike U.vm := by rw [hv]; exact Vm.Alike.refl s.vm
  have hq : ∀ a : Nat, a < s.heap.size → ¬ aA (eB X) a → U.heap[a]? = s.heap[a]? := fun a _ _ => by rw [hh]
  exact ⟨va_K.moved ha h.1, fun i hi => ⟨(vk_S.moved ha (h.2.1 i hi).1).kept hq, (h.2.1 i hi).2.same hv⟩, (va_Z.moved ha h.2.2.1).kept hq, (va_T.moved ha h.2.2.2.1).kept hq, (va_Z.moved ha h.2.2.2.2.1).kept hq, h.2.2.2.2.2.1.imp fun _ z => (va_Z.moved ha z).kept hq, va_AO.moved ha h.2.2.2.2.2.2.1, va_AO.moved ha h.2.2.2.2.2.2.2.1, ⟨va_AO.moved ha h.2.2.2.2.2.2.2.2.1.1, AOA.moved ha h.2.2.2.2.2.2.2.2.1.2⟩, fun own i r n d q m => va_Nw.same rfl hv.symm (h.2.2.2.2.2.2.2.2.2.1 own i r n d q m), fun own i y q m => va_Nw.same rfl hv.symm (h.2.2.2.2.2.2.2.2.2.2 own i y q m)⟩
/-- the kind of what a slot of references refers to -/
def fk : Nat → Nat → Nat
  | 0, 0 => 1
  | 0, 1 => 10
  | 0, 2 => 5
  | 0, 3 => 3
  | 0, 4 => 17
  | 0, 5 => 17
  | 0, 6 => 17
  | 0, 7 => 17
  | 0, 11 => 17
  | 0, 12 => 17
  | 0, 13 => 17
  | 1, 14 => 17
  | 1, 15 => 17
  | 1, 16 => 17
  | 1, 17 => 17
  | 1, 18 => 17
  | 1, 19 => 17
  | 1, 20 => 17
  | 2, 0 => 9
  | 2, 1 => 1
  | 3, 0 => 16
  | 3, 1 => 18
  | 3, 2 => 17
  | 3, 3 => 18
  | 3, 4 => 17
  | 4, 0 => 5
  | 4, 1 => 20
  | 4, 2 => 23
  | 4, 3 => 17
  | 4, 4 => 17
  | 4, 10 => 17
  | 4, 11 => 17
  | 4, 12 => 17
  | 4, 13 => 17
  | 5, 0 => 1
  | 5, 1 => 10
  | 5, 2 => 17
  | 5, 3 => 3
  | 5, 4 => 3
  | 5, 5 => 17
  | 6, 0 => 1
  | 6, 1 => 10
  | 6, 2 => 5
  | 6, 3 => 3
  | 6, 4 => 3
  | 6, 5 => 17
  | 7, 0 => 1
  | 7, 1 => 9
  | 8, 0 => 1
  | 8, 1 => 5
  | 8, 2 => 3
  | 8, 3 => 9
  | 9, 0 => 17
  | 10, 0 => 17
  | 10, 1 => 17
  | 10, 2 => 18
  | 10, 3 => 18
  | 10, 4 => 18
  | 10, 5 => 18
  | 10, 6 => 17
  | 10, 7 => 1
  | 11, 0 => 9
  | 11, 1 => 9
  | 11, 2 => 1
  | 11, 3 => 1
  | 11, 4 => 2
  | 11, 5 => 10
  | 11, 6 => 5
  | 11, 7 => 7
  | 11, 8 => 8
  | 11, 9 => 6
  | 11, 10 => 0
  | 11, 11 => 4
  | 11, 12 => 17
  | 11, 13 => 20
  | 11, 14 => 19
  | 11, 15 => 20
  | 11, 16 => 17
  | 11, 17 => 17
  | 12, 0 => 17
  | 12, 4 => 17
  | 12, 5 => 17
  | 12, 6 => 17
  | 13, 1 => 17
  | 13, 2 => 17
  | 13, 3 => 17
  | 13, 4 => 17
  | 13, 5 => 17
  | 13, 6 => 17
  | 13, 7 => 17
  | 14, 3 => 17
  | 14, 4 => 17
  | 14, 5 => 17
  | 14, 6 => 17
  | 14, 7 => 17
  | 14, 8 => 17
  | 14, 9 => 17
  | 14, 13 => 17
  | 14, 14 => 17
  | 15, 0 => 16
  | 15, 2 => 16
  | 15, 4 => 14
  | 15, 5 => 14
  | 15, 14 => 21
  | 15, 15 => 17
  | 15, 17 => 16
  | 15, 21 => 12
  | 15, 22 => 17
  | 15, 25 => 17
  | 15, 26 => 17
  | 15, 27 => 19
  | 15, 28 => 12
  | 15, 30 => 13
  | 15, 31 => 13
  | 15, 32 => 12
  | 15, 33 => 21
  | 15, 34 => 22
  | 15, 35 => 12
  | 15, 37 => 21
  | 15, 38 => 17
  | 15, 39 => 17
  | 15, 40 => 21
  | 15, 41 => 16
  | 15, 42 => 17
  | 15, 43 => 16
  | 15, 45 => 12
  | 15, 46 => 17
  | 15, 47 => 17
  | 15, 48 => 17
  | 15, 51 => 17
  | 15, 52 => 18
  | 15, 53 => 17
  | 15, 54 => 18
  | 15, 55 => 17
  | 15, 56 => 17
  | 15, 57 => 17
  | 15, 58 => 17
  | 15, 60 => 12
  | 15, 61 => 17
  | 15, 69 => 17
  | 20, _ => 3
  | 21, _ => 12
  | 22, _ => 13
  | 23, _ => 17
  | _, _ => 99
/-- references are of their kinds -/
def WF (h : Hp) : Prop := ∀ a i b, hK h a < 24 → hR h a i = some b → hK h b = fk (hK h a) i ∧ hK h b < 24
abbrev Wx (X : Ec) (h : Hp) (H : Heap) : Prop := Wd X.1 X.2.1 (eB X) h H ∧ WF h
def Pq (X : Ec) (h : Hp) (U : State) : Prop := En X U ∧ Wx X h U.heap
theorem Pq.blind (X : Ec) (h : Hp) (av : List Value) : FrameBlind (va_Pc av (Pq X h)) := fun a U g mk q => ⟨q.1, En.same (s := U) rfl rfl q.2.1, q.2.2⟩
def W0 : List Cond := lw_tbl.filter goodWord
theorem w0_in {w : Cond} (h : w ∈ lw_tbl) (hg : goodWord w = true) : w ∈ W0 := List.mem_filter.mpr ⟨h, hg⟩
abbrev wY (y : MethodName) (b : ByteArray) (n : Nat) (r : Option FieldType) : List Cond := .code y b n r :: W0
theorem wY_in {y : MethodName} {b : ByteArray} {n : Nat} {r : Option FieldType} (h : Cond.code y b n r ∈ W0) : GoodIn W0 (wY y b n r) := fun w hw => by
  have hm : w ∈ W0 := by
    rcases List.mem_cons.mp hw with rfl | hw
    · exact h
    · exact hw
  exact ⟨hm, good_of_word (List.mem_filter.mp hm).2⟩
def Km (h h1 : Hp) : Prop := (∀ a, hK h a < 24 → hK h1 a = hK h a) ∧ h1.1 = h.1
theorem Km.rf (h : Hp) : Km h h := ⟨fun _ _ => rfl, rfl⟩
theorem Km.tr {h h1 h2 : Hp} (a : Km h h1) (b : Km h1 h2) : Km h h2 := ⟨fun x q => (b.1 x (by rw [a.1 x q]; exact q)).trans (a.1 x q), b.2.trans a.2⟩
theorem Km.at {h h1 : Hp} (a : Km h h1) {x k : Nat} (q : hK h x = k) (hk : k < 24) : hK h1 x = k := (a.1 x (by omega)).trans q
abbrev rm (fr lo : Nat) : Room := { frames := fr, cells := 0, slots := 0, locals := lo }
abbrev QI (X : Ec) (h0 : Hp) (r0 : Int32) (h1 : Hp) : Array Value → State → Outcome → State → Prop := va_Qi (fun (r : Int32) (u : Hp) => r = r0 ∧ u = h1 ∧ Km h0 h1) (fun u t => Wx X u t.heap) (aA (eB X))
abbrev QJ (X : Ec) (h0 : Hp) (r0 : Int64) (h1 : Hp) : Array Value → State → Outcome → State → Prop := va_Ql (fun (r : Int64) (u : Hp) => r = r0 ∧ u = h1 ∧ Km h0 h1) (fun u t => Wx X u t.heap) (aA (eB X))
abbrev QV (X : Ec) (h0 : Hp) (h1 : Hp) : Array Value → State → Outcome → State → Prop := va_Qv (fun (u : Hp) => u = h1 ∧ Km h0 h1) (fun u t => Wx X u t.heap) (aA (eB X))
abbrev QR (X : Ec) (h0 : Hp) (a0 : Nat) (h1 : Hp) : Array Value → State → Outcome → State → Prop := va_Qr (fun (u : Hp) => u = h1 ∧ Km h0 h1) (fun u a t => a = a0 ∧ Wx X u t.heap) (aA (eB X))
/-- contracts of methods that make nothing -/
abbrev MetI (l : Launch) (y : MethodName) (b : ByteArray) (n : Nat) (r : Option FieldType) (fr lo : Nat) (X : Ec) (av : List Value) (h : Hp) (o : Int32 × Hp) : Prop := Met l y (wY y b n r) (rm fr lo) (va_Pc av (Pq X h)) (QI X h o.1 o.2) 0 0 (aA (eB X))
abbrev MetJ (l : Launch) (y : MethodName) (b : ByteArray) (n : Nat) (r : Option FieldType) (fr lo : Nat) (X : Ec) (av : List Value) (h : Hp) (o : Int64 × Hp) : Prop := Met l y (wY y b n r) (rm fr lo) (va_Pc av (Pq X h)) (QJ X h o.1 o.2) 0 0 (aA (eB X))
abbrev MetV (l : Launch) (y : MethodName) (b : ByteArray) (n : Nat) (r : Option FieldType) (fr lo : Nat) (X : Ec) (av : List Value) (h : Hp) (o : Hp) : Prop := Met l y (wY y b n r) (rm fr lo) (va_Pc av (Pq X h)) (QV X h o) 0 0 (aA (eB X))
/-- what a walk has at hand -/
def Cx (X : Ec) (p : Program) (s : State) (m : MethodId) (args : Array Value) (meth : Method) (c : Code) (own : String) (cc : ByteArray) (nL : Nat) (rt : Option FieldType) (mn : String) : Prop :=
  p.tables.exec = Jvm.exec ∧ c.code = cc ∧ c.maxLocals = nL ∧ s.vm.findClass own = some m.cls ∧ (∀ w ∈ W0, w.before args s = true) ∧ meth.sig.returnType = rt ∧ (meth.locks = false ∧ meth.name = mn) ∧ En X s
section XC
variable {p : Program} {l : Launch} {e : Env} {R : Room} {s : State} {m : MethodId} {args : Array Value} {below : List Frame} {meth : Method} {c : Code} {H : Heap} {locs : List Loc} {cells slots : Nat} {Q : State → Prop}
variable {cc : ByteArray} {pc : Nat} {ls : Array Slot} {rest : List Value} {X : Ec} {h h0 h1 : Hp} {own : String} {nL : Nat} {rt : Option FieldType} {mn : String}
theorem x_iret {r0 v : Int32} (C : Cx X p s m args meth c own cc nL rt mn) {ty : FieldType} (hrt : rt = some ty) (hn : narrow ty (.int v) = .int v) (hW : Wx X h H) (hS : va_S (aA (eB X)) s.heap H locs) (hkm : Km h0 h) (hE : some (v, h) = some (r0, h1)) (hdg : decode cc pc = .ok (.ireturn, 1)) :
    W p l e R s m args below meth c H locs 0 0 (MQ below (QI X h0 r0 h1) args s 0 0 (aA (eB X))) (F0 m pc ls [.int v]) := by
  cases hE
  exact W.zret (hlocks := C.2.2.2.2.2.2.1.1) C.1 C.2.1 (C.2.2.2.2.2.1.trans hrt) hn (fun t ht hWm => ⟨⟨_, h, rfl, ⟨rfl, rfl, hkm⟩, by show Wx X h t.heap; rw [ht]; exact hW⟩, hS.F ht⟩) hS.2.2 hdg
theorem x_lret {r0 v : Int64} (C : Cx X p s m args meth c own cc nL rt mn) (hrt : rt = some .long) (hW : Wx X h H) (hS : va_S (aA (eB X)) s.heap H locs) (hkm : Km h0 h) (hE : some (v, h) = some (r0, h1)) (hdg : decode cc pc = .ok (.lreturn, 1)) :
    W p l e R s m args below meth c H locs 0 0 (MQ below (QJ X h0 r0 h1) args s 0 0 (aA (eB X))) (F0 m pc ls [.long v]) := by
  cases hE
  exact W.lret (hlocks := C.2.2.2.2.2.2.1.1) C.1 C.2.1 (C.2.2.2.2.2.1.trans hrt) (fun t ht hWm => ⟨⟨_, h, rfl, ⟨rfl, rfl, hkm⟩, by show Wx X h t.heap; rw [ht]; exact hW⟩, hS.F ht⟩) hS.2.2 hdg
theorem x_vret (C : Cx X p s m args meth c own cc nL rt mn) (hrt : rt = none) (hW : Wx X h H) (hS : va_S (aA (eB X)) s.heap H locs) (hkm : Km h0 h) (hE : some h = some h1) (hdg : decode cc pc = .ok (.return_, 1)) :
    W p l e R s m args below meth c H locs 0 0 (MQ below (QV X h0 h1) args s 0 0 (aA (eB X))) (F0 m pc ls []) := by
  cases hE
  exact W.vret (hlocks := C.2.2.2.2.2.2.1.1) C.1 C.2.1 (C.2.2.2.2.2.1.trans hrt) (fun t ht hWm => ⟨⟨h, rfl, ⟨rfl, hkm⟩, by show Wx X h t.heap; rw [ht]; exact hW⟩, hS.F ht⟩) hS.2.2 hdg
theorem x_pre (C : Cx X p s m args meth c own cc nL rt mn) (hW : Wx X h H) (hS : va_S (aA (eB X)) s.heap H locs) (av : List Value) : ∀ U : State, U.heap = H → s.WarmedH U.vm → va_Pc av (Pq X h) av.toArray U := fun U hU hWm =>
  ⟨rfl, En.go hWm (fun a h1 h2 => by rw [hU]; exact hS.2.1 a h1 h2) C.2.2.2.2.2.2.2, by rw [hU]; exact hW⟩
theorem x_recv (C : Cx X p s m args meth c own cc nL rt mn) (hW : Wx X h H) {a ci : Nat} {q : vw_C} (ha : hK h a = ci) (hci : ci < 16) (hc : classes[ci]? = some q) : ∃ cell : Cell, H[a]? = some cell ∧ cell.vm.isStatics = false ∧ s.vm.findClass q.1 = some cell.cls := by
  obtain ⟨q0, he⟩ := wd_at hW.1 (show hK h a < 24 by omega)
  rw [cE_obj ha hci] at he
  exact va_recv C.2.2.2.2.2.2.2.1 hW.1.2.2.2 hc he
/-- the words of a call of y by the class own -/
def cwd (own : String) (index : Nat) (y : MethodName) (b : ByteArray) (n : Nat) (r : Option FieldType) (st : Bool) (np : Nat) : Prop :=
  Cond.code y b n r ∈ W0 ∧ Cond.methodLink own index y ∈ W0 ∧ Cond.initialized y.cls ∈ W0 ∧ (if st then Cond.static y ∈ W0 else Cond.instanceMethod y ∈ W0 ∧ Cond.selects y.cls y y ∈ W0) ∧ (y.cls ≠ "java/lang/invoke/MethodHandle" ∧ y.cls ≠ "java/lang/invoke/VarHandle" ∧ (parseMethodDescriptor y.desc).map (fun d => d.parameters.length) = some np)
variable {y : MethodName} {b : ByteArray} {n : Nat} {r : Option FieldType} {fr lo index np : Nat} {As : List Value}
theorem x_runV {a ci : Nat} {q : vw_C} {Qc : Array Value → State → Outcome → State → Prop} (C : Cx X p s m args meth c own cc nL rt mn) (hM : Met l y (wY y b n r) (rm fr lo) (va_Pc (.ref a :: As) (Pq X h)) Qc 0 0 (aA (eB X))) (w : cwd own index y b n r false np) (hW : Wx X h H) (hS : va_S (aA (eB X)) s.heap H locs)
    (ha : hK h a = ci) (hci : ci < 16) (hc : classes[ci]? = some q) (hy : y.cls = q.1) (hn : As.length = np) (hz : ls.size = nL) (hr : (rest.map fun v => v.category).sum ≤ 8) {st : List Value} (hst : st = As.reverse ++ .ref a :: rest) (hdg : decode cc pc = .ok (.invokevirtual index, 3)) (hR : fr + 1 ≤ R.frames ∧ 8 + (n + 11) + lo ≤ R.locals) (hc0 : cells ≤ R.cells ∧ slots ≤ R.slots) :
    va_Run p l e R s m args below meth c H locs cells slots 0 0 (F0 m pc ls st) rest (Qc (Value.ref a :: As).toArray) (aA (eB X)) := by
  have ok := C.2.2.2.2.1
  have hcb : CallB R s args own index y b n r (wY y b n r) (rm fr lo) 0 0 np := callB_of np ok (wY_in w.1) rfl rfl rfl (ok _ w.2.2.1) (ok _ w.2.1) w.2.2.2.2 hR
  have hw4 := w.2.2.2.1
  simp only [if_neg (show ¬ (false = true) by decide)] at hw4
  exact va_runV (As := As) (rest := rest) ⟨C.1, C.2.1, C.2.2.1, C.2.2.2.1, ok⟩ hM ⟨hcb, ok _ hw4.1, ok _ hw4.2⟩ ⟨Pq.blind X h _, by rw [hy]; exact x_recv C hW ha hci hc, x_pre C hW hS _⟩ rfl hn hz hst (lv_room hr) hdg hc0
theorem x_runS {Qc : Array Value → State → Outcome → State → Prop} (C : Cx X p s m args meth c own cc nL rt mn) (hM : Met l y (wY y b n r) (rm fr lo) (va_Pc As (Pq X h)) Qc 0 0 (aA (eB X))) (w : cwd own index y b n r true np) (hW : Wx X h H) (hS : va_S (aA (eB X)) s.heap H locs)
    (hn : As.length = np) (hz : ls.size = nL) (hr : (rest.map fun v => v.category).sum ≤ 8) {st : List Value} (hst : st = As.reverse ++ rest) (hdg : decode cc pc = .ok (.invokestatic index, 3)) (hR : fr + 1 ≤ R.frames ∧ 8 + (n + 11) + lo ≤ R.locals) (hc0 : cells ≤ R.cells ∧ slots ≤ R.slots) :
    va_Run p l e R s m args below meth c H locs cells slots 0 0 (F0 m pc ls st) rest (Qc As.toArray) (aA (eB X)) := by
  have ok := C.2.2.2.2.1
  have hcb : CallB R s args own index y b n r (wY y b n r) (rm fr lo) 0 0 np := callB_of np ok (wY_in w.1) rfl rfl rfl (ok _ w.2.2.1) (ok _ w.2.1) w.2.2.2.2 hR
  have hw4 := w.2.2.2.1
  simp only [if_pos (show true = true by decide)] at hw4
  exact va_runS (As := As) (rest := rest) ⟨C.1, C.2.1, C.2.2.1, C.2.2.2.1, ok⟩ hM ⟨hcb, ok _ hw4⟩ ⟨Pq.blind X h _, x_pre C hW hS _⟩ rfl hn hz hst (lv_room hr) hdg hc0
theorem x_kI {o : Int32 × Hp} {a : Array Value} {st : List Value} (hr : va_Run p l e R s m args below meth c H locs cells slots 0 0 (F0 m pc ls st) rest (QI X h o.1 o.2 a) (aA (eB X))) (hS : va_S (aA (eB X)) s.heap H locs)
    (kk : ∀ (H1 : Heap) (locs1 : List Loc), Wx X o.2 H1 → Km h o.2 → va_S (aA (eB X)) s.heap H1 locs1 → W p l e R s m args below meth c H1 locs1 cells slots Q (F0 m (pc + 3) ls (.int o.1 :: rest))) : W p l e R s m args below meth c H locs cells slots Q (F0 m pc ls st) :=
  va_calli hr hS (fun _ _ q => q) (fun _ q => q) (fun r u t H1 locs1 ht hvm hw hB hz hk hS1 => by
    obtain ⟨rfl, rfl, hkm⟩ := hw
    rw [ht] at hB
    exact kk H1 locs1 hB hkm hS1)
theorem x_kJ {o : Int64 × Hp} {a : Array Value} {st : List Value} (hr : va_Run p l e R s m args below meth c H locs cells slots 0 0 (F0 m pc ls st) rest (QJ X h o.1 o.2 a) (aA (eB X))) (hS : va_S (aA (eB X)) s.heap H locs)
    (kk : ∀ (H1 : Heap) (locs1 : List Loc), Wx X o.2 H1 → Km h o.2 → va_S (aA (eB X)) s.heap H1 locs1 → W p l e R s m args below meth c H1 locs1 cells slots Q (F0 m (pc + 3) ls (.long o.1 :: rest))) : W p l e R s m args below meth c H locs cells slots Q (F0 m pc ls st) :=
  va_calll hr hS (fun _ _ q => q) (fun _ q => q) (fun r u t H1 locs1 ht hvm hw hB hz hk hS1 => by
    obtain ⟨rfl, rfl, hkm⟩ := hw
    rw [ht] at hB
    exact kk H1 locs1 hB hkm hS1)
theorem x_kV {o : Hp} {a : Array Value} {st : List Value} (hr : va_Run p l e R s m args below meth c H locs cells slots 0 0 (F0 m pc ls st) rest (QV X h o a) (aA (eB X))) (hS : va_S (aA (eB X)) s.heap H locs)
    (kk : ∀ (H1 : Heap) (locs1 : List Loc), Wx X o H1 → Km h o → va_S (aA (eB X)) s.heap H1 locs1 → W p l e R s m args below meth c H1 locs1 cells slots Q (F0 m (pc + 3) ls rest)) : W p l e R s m args below meth c H locs cells slots Q (F0 m pc ls st) :=
  va_callv hr hS (fun _ _ q => q) (fun _ q => q) (fun u t H1 locs1 ht hvm hw hB hz hk hS1 => by
    obtain ⟨rfl, hkm⟩ := hw
    rw [ht] at hB
    exact kk H1 locs1 hB hkm hS1)
/-- a contract out of the walk of a body -/
theorem x_met {Qc : Array Value → State → Outcome → State → Prop} {av : List Value} (hy : plainName y.cls = true) (hav : (lg_sl av).length ≤ n)
    (body : ∀ (p : Program) (e : Env) (s : State) (m : MethodId) (below : List Frame) (meth : Method) (c : Code) (ls : Array Slot), Cx X p s m av.toArray meth c y.cls b n r y.name → lv_has ls n (lv_args 0 av) → Wx X h s.heap → va_S (aA (eB X)) s.heap s.heap [] →
      W p l e (rm fr lo) s m av.toArray below meth c s.heap [] 0 0 (MQ below Qc av.toArray s 0 0 (aA (eB X))) (F0 m 0 ls [])) : Met l y (wY y b n r) (rm fr lo) (va_Pc av (Pq X h)) Qc 0 0 (aA (eB X)) := by
  refine Met.ofW (cc := b) (maxL := n) (ret := r) hy rfl ?_
  intro p e s m args below meth c s₁ B hml hv
  obtain ⟨rfl, hEn, hWx⟩ := hv
  have hts := atoms_spec (ws := wY y b n r) B.pre
  have hown : s.vm.findClass y.cls = some m.cls := findClass_of_methodNamed B.named
  have hl := lv_entry av (n := n) hav
  rw [lg_entry_eq]
  exact body p e s m below meth c _ ⟨B.exec, B.bytes, hml, hown, fun w hw => hts w (List.mem_cons_of_mem _ hw), B.returns, ⟨B.notSynchronized, (name_of_methodNamed B.named B.method).1⟩, hEn⟩ hl hWx va_S.rf
end XC
