section XM
variable {p : Program} {l : Launch} {e : Env} {R : Room} {s : State} {m : MethodId} {args : Array Value} {below : List Frame} {meth : Method} {c : Code} {H : Heap} {locs : List Loc} {cells slots : Nat} {Q : State → Prop}
variable {cc : ByteArray} {pc : Nat} {ls : Array Slot} {rest : List Value} {X : Ec} {h h1 : Hp} {own host : String} {nL : Nat} {rt : Option FieldType} {mn : String} {index a ci k : Nat}
-- ===== arrays of references
theorem y_aald {r t0 : Nat} {ty : FieldType} {i : Int32} {kr : Nat} (C : Cx X p s m args meth c own cc nL rt mn) (hW : Wx X h H) (ha : hK h a = k) (h1k : 20 ≤ k) (h2k : k < 24) (ht : (tys X.2.1)[t0]? = some (X.2.1 k, ty)) (hty : ty.isReference = true) (hf : fk k 0 = kr) (hfi : ∀ i, fk k i = fk k 0) (hin : inB i (hN h a)) (hr : hR h a i.toNatClampNeg = some r) (hdg : decode cc pc = .ok (.aaload, 1))
    (kk : hK h r = kr → W p l e R s m args below meth c H locs cells slots Q (F0 m (pc + 1) ls (.ref r :: rest))) : W p l e R s m args below meth c H locs cells slots Q (F0 m pc ls (.int i :: .ref a :: rest)) := by
  have hlt : i.toNatClampNeg < hN h a := Nat.not_le.mp fun q => hin (Or.inr q)
  exact W.aald (v := .ref r) (ty := ty) C.1 C.2.1 (wd_arrR hW.1 ha h1k h2k) ((C.2.2.2.2.2.2.2.1.2 t0 _ ht).1 _ _) hty (fun q => by cases q) (by show ¬ (i < 0 ∨ (arrV _ _ _).slots.size ≤ _); rw [arrV_size]; exact hin) (by show (arrV _ _ _).slots[_]? = _; rw [arrV_read _ _ hlt, hr]; rfl) rfl rfl hdg (kk (by rw [(hW.2 a _ r (by omega) hr).1, ha, hfi, hf]))
theorem y_aast {r t0 : Nat} {q : vw_C} {i : Int32} (C : Cx X p s m args meth c own cc nL rt mn) (hW : Wx X h H) (hS : va_S (aA (eB X)) s.heap H locs) (ha : hK h a = k) (h1k : 20 ≤ k) (h2k : k < 23) (ht : (tys X.2.1)[t0]? = some (X.2.1 k, .object q.1)) (hrk : hK h r = ci) (hci : ci < 16) (hc : classes[ci]? = some q) (hf : ∀ i, fk k i = ci) (hin : inB i (hN h a)) (eh : h1 = wR h a i.toNatClampNeg (some r)) (hdg : decode cc pc = .ok (.aastore, 1))
    (kk : ∀ (H1 : Heap) (locs1 : List Loc), Wx X h1 H1 → Km h h1 → va_S (aA (eB X)) s.heap H1 locs1 → W p l e R s m args below meth c H1 locs1 cells slots Q (F0 m (pc + 1) ls rest)) : W p l e R s m args below meth c H locs cells slots Q (F0 m pc ls (.ref r :: .int i :: .ref a :: rest)) := by
  subst eh
  have hlt : i.toNatClampNeg < hN h a := Nat.not_le.mp fun q => hin (Or.inr q)
  have h0 : ¬ i < 0 := fun q => hin (Or.inl q)
  have hKK := C.2.2.2.2.2.2.2.1
  obtain ⟨q0, he0⟩ := wd_at hW.1 (show hK h r < 24 by omega)
  rw [cE_obj hrk hci] at he0
  obtain ⟨r', hr', cellV, g1, g2, g3, -⟩ := hW.1.2.2.2 q0 _ he0
  have hcls := (hKK.1 ci q hc).2
  obtain ⟨kA, comp, k1, k2, k3, -⟩ := (hKK.2 t0 _ ht).2
  have hcomp : comp = X.1.1 ci := Option.some.inj (k3.symm.trans hcls.1)
  subst hcomp
  obtain ⟨kC, hkC, -⟩ := hcls.2
  refine W.aast C.1 C.2.1 (wd_arrR hW.1 ha h1k (by omega)) (fun q h => by cases h) (fun h => by cases h) k1 k2 rfl hkC ⟨h0, by show _ < (arrV _ _ _).slots.size; rw [arrV_size]; exact hlt⟩ g1 (fun q h => by rw [g3] at h; cases h) (by rw [g2]; exact hkC) (by rw [g2]; exact va_assign hcls) rfl rfl hdg fun H1 e z oq => ?_
  refine kk H1 _ ⟨wd_arrUpR hW.1 ha h1k (by omega) ?_ z oq, WF_R hW.2 (by rw [hrk, ha, hf]) (by omega)⟩ ⟨fun _ _ => rfl, rfl⟩ (hS.put z oq (hW.1.2.2.1 a (by omega)).1)
  rw [e, arrV_store]
  congr 2
  funext q
  by_cases hq : q = i.toNatClampNeg
  · subst hq
    simp [updV, va_up, va_rf]
  · simp [updV, va_up, hq]
-- ===== the table of squares
theorem y_sq {ref : String} (C : Cx X p s m args meth c own cc nL rt mn) (hS : va_S (aA (eB X)) s.heap H locs) (hlink : Cond.fieldLink own index "GameRules" "SQUARE_OF" "[I" ∈ W0) (hdg : decode cc pc = .ok (.getstatic index, 3))
    (kk : W p l e R s m args below meth c H locs cells slots Q (F0 m (pc + 3) ls (.ref X.2.2.2.2.2 :: rest))) : W p l e R s m args below meth c H locs cells slots Q (F0 m pc ls rest) :=
  va_gets C.1 C.2.1 C.2.2.2.2.2.2.2.2.2.1 hS C.2.2.2.1 (C.2.2.2.2.1 _ hlink) (fun _ z => z) hdg kk
theorem y_sqN (C : Cx X p s m args meth c own cc nL rt mn) (hS : va_S (aA (eB X)) s.heap H locs) (hlink : Cond.fieldLinkNest own index "GameRules" "SQUARE_OF" "[I" host ∈ tables_1) (hdg : decode cc pc = .ok (.getstatic index, 3))
    (kk : W p l e R s m args below meth c H locs cells slots Q (F0 m (pc + 3) ls (.ref X.2.2.2.2.2 :: rest))) : W p l e R s m args below meth c H locs cells slots Q (F0 m pc ls rest) :=
  va_getsN C.1 C.2.1 C.2.2.2.2.2.2.2.2.2.1 hS C.2.2.2.1 (va_Nw.use rfl (C.2.2.2.2.2.2.2.2.2.2.2.2.2.2.2.2.1 _ _ _ _ _ _ hlink)) (fun _ z => z) hdg kk
theorem y_sqld {i : Int32} (C : Cx X p s m args meth c own cc nL rt mn) (hS : va_S (aA (eB X)) s.heap H locs) (hin : inB i 64) (hdg : decode cc pc = .ok (.iaload, 1))
    (kk : W p l e R s m args below meth c H locs cells slots Q (F0 m (pc + 1) ls (.int (sqT.getD i.toNatClampNeg 0) :: rest))) : W p l e R s m args below meth c H locs cells slots Q (F0 m pc ls (.int i :: .ref X.2.2.2.2.2 :: rest)) :=
  va_ti C.1 C.2.1 C.2.2.2.2.2.2.2.2.2.2.1 hS hin rfl hdg kk
-- ===== calls of nest mates
variable {y : MethodName} {b : ByteArray} {n : Nat} {r : Option FieldType} {fr lo np : Nat} {As : List Value}
def cwn (own : String) (index : Nat) (host : String) (y : MethodName) (b : ByteArray) (n : Nat) (r : Option FieldType) (st : Bool) (np : Nat) : Prop :=
  Cond.code y b n r ∈ W0 ∧ Cond.methodLinkNest own index y host ∈ tables_1 ∧ Cond.initialized y.cls ∈ W0 ∧ (if st then Cond.static y ∈ W0 else Cond.instanceMethod y ∈ W0 ∧ Cond.selects y.cls y y ∈ W0) ∧ (y.cls ≠ "java/lang/invoke/MethodHandle" ∧ y.cls ≠ "java/lang/invoke/VarHandle" ∧ (parseMethodDescriptor y.desc).map (fun d => d.parameters.length) = some np)
theorem x_runVN {a ci : Nat} {q : vw_C} {Qc : Array Value → State → Outcome → State → Prop} (C : Cx X p s m args meth c own cc nL rt mn) (hM : Met l y (wY y b n r) (rm fr lo) (va_Pc (.ref a :: As) (Pq X h)) Qc 0 0 (aA (eB X))) (w : cwn own index host y b n r false np) (hW : Wx X h H) (hS : va_S (aA (eB X)) s.heap H locs)
    (ha : hK h a = ci) (hci : ci < 16) (hc : classes[ci]? = some q) (hy : y.cls = q.1) (hn : As.length = np) (hz : ls.size = nL) (hr : (rest.map fun v => v.category).sum ≤ 8) {st : List Value} (hst : st = As.reverse ++ .ref a :: rest) (hdg : decode cc pc = .ok (.invokevirtual index, 3)) (hR : fr + 1 ≤ R.frames ∧ 8 + (n + 11) + lo ≤ R.locals) (hc0 : cells ≤ R.cells ∧ slots ≤ R.slots) :
    va_Run p l e R s m args below meth c H locs cells slots 0 0 (F0 m pc ls st) rest (Qc (Value.ref a :: As).toArray) (aA (eB X)) := by
  have ok := C.2.2.2.2.1
  have hcb : va_CN R s args own index y host b n r (wY y b n r) (rm fr lo) 0 0 np := va_cnB np ok (wY_in w.1) rfl rfl rfl (C.2.2.2.2.2.2.2.2.2.2.2.2.2.2.2.2.2 _ _ _ _ w.2.1) (ok _ w.2.2.1) w.2.2.2.2 hR
  have hw4 := w.2.2.2.1
  simp only [if_neg (show ¬ (false = true) by decide)] at hw4
  exact va_runVN (As := As) (rest := rest) ⟨C.1, C.2.1, C.2.2.1, C.2.2.2.1, ok⟩ hM ⟨hcb, ok _ hw4.1, ok _ hw4.2⟩ ⟨Pq.blind X h _, by rw [hy]; exact x_recv C hW ha hci hc, x_pre C hW hS _⟩ rfl hn hz hst (lv_room hr) hdg hc0
theorem x_runSN {Qc : Array Value → State → Outcome → State → Prop} (C : Cx X p s m args meth c own cc nL rt mn) (hM : Met l y (wY y b n r) (rm fr lo) (va_Pc As (Pq X h)) Qc 0 0 (aA (eB X))) (w : cwn own index host y b n r true np) (hW : Wx X h H) (hS : va_S (aA (eB X)) s.heap H locs)
    (hn : As.length = np) (hz : ls.size = nL) (hr : (rest.map fun v => v.category).sum ≤ 8) {st : List Value} (hst : st = As.reverse ++ rest) (hdg : decode cc pc = .ok (.invokestatic index, 3)) (hR : fr + 1 ≤ R.frames ∧ 8 + (n + 11) + lo ≤ R.locals) (hc0 : cells ≤ R.cells ∧ slots ≤ R.slots) :
    va_Run p l e R s m args below meth c H locs cells slots 0 0 (F0 m pc ls st) rest (Qc As.toArray) (aA (eB X)) := by
  have ok := C.2.2.2.2.1
  have hcb : va_CN R s args own index y host b n r (wY y b n r) (rm fr lo) 0 0 np := va_cnB np ok (wY_in w.1) rfl rfl rfl (C.2.2.2.2.2.2.2.2.2.2.2.2.2.2.2.2.2 _ _ _ _ w.2.1) (ok _ w.2.2.1) w.2.2.2.2 hR
  have hw4 := w.2.2.2.1
  simp only [if_pos (show true = true by decide)] at hw4
  exact va_runSN (As := As) (rest := rest) ⟨C.1, C.2.1, C.2.2.1, C.2.2.2.1, ok⟩ hM ⟨hcb, ok _ hw4, trivial⟩ ⟨Pq.blind X h _, x_pre C hW hS _⟩ rfl hn hz hst (lv_room hr) hdg hc0
-- ===== String constants
theorem x_recvS {i : Nat} (C : Cx X p s m args meth c own cc nL rt mn) (hS : va_S (aA (eB X)) s.heap H locs) (hi : i < 52) : ∃ cell : Cell, H[X.2.2.2.1 i]? = some cell ∧ cell.vm.isStatics = false ∧ s.vm.findClass "java/lang/String" = some cell.cls :=
  vk_recv (i := 0) (C.2.2.2.2.2.2.2.2.1 i hi).1 (by decide) hS
theorem x_runVS {i : Nat} {Qc : Array Value → State → Outcome → State → Prop} (C : Cx X p s m args meth c own cc nL rt mn) (hM : Met l y (wY y b n r) (rm fr lo) (va_Pc (.ref (X.2.2.2.1 i) :: As) (Pq X h)) Qc 0 0 (aA (eB X))) (w : cwd own index y b n r false np) (hW : Wx X h H) (hS : va_S (aA (eB X)) s.heap H locs)
    (hi : i < 52) (hy : y.cls = "java/lang/String") (hn : As.length = np) (hz : ls.size = nL) (hr : (rest.map fun v => v.category).sum ≤ 8) {st : List Value} (hst : st = As.reverse ++ .ref (X.2.2.2.1 i) :: rest) (hdg : decode cc pc = .ok (.invokevirtual index, 3)) (hR : fr + 1 ≤ R.frames ∧ 8 + (n + 11) + lo ≤ R.locals) (hc0 : cells ≤ R.cells ∧ slots ≤ R.slots) :
    va_Run p l e R s m args below meth c H locs cells slots 0 0 (F0 m pc ls st) rest (Qc (Value.ref (X.2.2.2.1 i) :: As).toArray) (aA (eB X)) := by
  have ok := C.2.2.2.2.1
  have hcb : CallB R s args own index y b n r (wY y b n r) (rm fr lo) 0 0 np := callB_of np ok (wY_in w.1) rfl rfl rfl (ok _ w.2.2.1) (ok _ w.2.1) w.2.2.2.2 hR
  have hw4 := w.2.2.2.1
  simp only [if_neg (show ¬ (false = true) by decide)] at hw4
  exact va_runV (As := As) (rest := rest) ⟨C.1, C.2.1, C.2.2.1, C.2.2.2.1, ok⟩ hM ⟨hcb, ok _ hw4.1, ok _ hw4.2⟩ ⟨Pq.blind X h _, by rw [hy]; exact x_recvS C hS hi, x_pre C hW hS _⟩ rfl hn hz hst (lv_room hr) hdg hc0
theorem y_strf {i : Nat} (C : Cx X p s m args meth c RJ0 cc nL rt mn) (hS : va_S (aA (eB X)) s.heap H locs) (hi : i < 52) (hdg : decode cc pc = .ok (.getfield 9, 3)) (hlink : Cond.fieldLink RJ0 9 "java/lang/String" "value" "[B" ∈ W0)
    (kk : W p l e R s m args below meth c H locs cells slots Q (F0 m (pc + 3) ls (.ref (X.2.2.2.2.1 i) :: rest))) : W p l e R s m args below meth c H locs cells slots Q (F0 m pc ls (.ref (X.2.2.2.1 i) :: rest)) :=
  vk_getf C.1 C.2.1 ((C.2.2.2.2.2.2.2.2.1 i hi).1.1 0 (by decide)).2.2.1 hS C.2.2.2.1 (C.2.2.2.2.1 _ hlink) (fun _ z => z) hdg kk
theorem y_strc {i : Nat} (C : Cx X p s m args meth c RJ0 cc nL rt mn) (hS : va_S (aA (eB X)) s.heap H locs) (hi : i < 52) (hdg : decode cc pc = .ok (.getfield 15, 3)) (hlink : Cond.fieldLink RJ0 15 "java/lang/String" "coder" "B" ∈ W0)
    (kk : W p l e R s m args below meth c H locs cells slots Q (F0 m (pc + 3) ls (.int 0 :: rest))) : W p l e R s m args below meth c H locs cells slots Q (F0 m pc ls (.ref (X.2.2.2.1 i) :: rest)) :=
  vk_getf C.1 C.2.1 ((C.2.2.2.2.2.2.2.2.1 i hi).1.1 0 (by decide)).2.1 hS C.2.2.2.1 (C.2.2.2.2.1 _ hlink) (fun _ z => z) hdg kk
theorem y_comp (C : Cx X p s m args meth c RJ0 cc nL rt mn) (hS : va_S (aA (eB X)) s.heap H locs) (hdg : decode cc pc = .ok (.getstatic 38, 3)) (hlink : Cond.fieldLink RJ0 38 "java/lang/String" "COMPACT_STRINGS" "Z" ∈ W0)
    (kk : W p l e R s m args below meth c H locs cells slots Q (F0 m (pc + 3) ls (.int 1 :: rest))) : W p l e R s m args below meth c H locs cells slots Q (F0 m pc ls rest) :=
  va_gets C.1 C.2.1 C.2.2.2.2.2.2.2.2.2.2.2.1 hS C.2.2.2.1 (C.2.2.2.2.1 _ hlink) (fun _ z => z) hdg kk
end XM
theorem m_15 : Cond.initialized RJ0 ∈ W0 := w0_in (List.mem_append_right _ (List.mem_of_getElem? (i := 15) (by decide +kernel))) rfl
theorem m_16 : Cond.initialized RJ1 ∈ W0 := w0_in (List.mem_append_right _ (List.mem_of_getElem? (i := 16) (by decide +kernel))) rfl
theorem m_17 : Cond.initialized RJ3 ∈ W0 := w0_in (List.mem_append_right _ (List.mem_of_getElem? (i := 17) (by decide +kernel))) rfl
theorem m_594 : Cond.methodLink RJ0 335 yJ0_coder_7d493 ∈ W0 := w0_in (List.mem_append_right _ (List.mem_of_getElem? (i := 594) (by decide +kernel))) rfl
theorem m_595 : Cond.instanceMethod yJ0_coder_7d493 ∈ W0 := w0_in (List.mem_append_right _ (List.mem_of_getElem? (i := 595) (by decide +kernel))) rfl
theorem m_596 : Cond.selects RJ0 yJ0_coder_7d493 yJ0_coder_7d493 ∈ W0 := w0_in (List.mem_append_right _ (List.mem_of_getElem? (i := 596) (by decide +kernel))) rfl
theorem m_597 : Cond.code yJ0_coder_7d493 cJ0_coder_7d493 1 (some .byte) ∈ W0 := w0_in (List.mem_append_right _ (List.mem_of_getElem? (i := 597) (by decide +kernel))) rfl
theorem m_598 : Cond.fieldLink RJ0 38 "java/lang/String" "COMPACT_STRINGS" "Z" ∈ W0 := w0_in (List.mem_append_right _ (List.mem_of_getElem? (i := 598) (by decide +kernel))) rfl
theorem m_604 : Cond.methodLink RJ0 492 yJ0_isLatin1_aae02 ∈ W0 := w0_in (List.mem_append_right _ (List.mem_of_getElem? (i := 604) (by decide +kernel))) rfl
theorem m_605 : Cond.instanceMethod yJ0_isLatin1_aae02 ∈ W0 := w0_in (List.mem_append_right _ (List.mem_of_getElem? (i := 605) (by decide +kernel))) rfl
theorem m_606 : Cond.selects RJ0 yJ0_isLatin1_aae02 yJ0_isLatin1_aae02 ∈ W0 := w0_in (List.mem_append_right _ (List.mem_of_getElem? (i := 606) (by decide +kernel))) rfl
theorem m_607 : Cond.code yJ0_isLatin1_aae02 cJ0_isLatin1_aae02 1 (some .boolean) ∈ W0 := w0_in (List.mem_append_right _ (List.mem_of_getElem? (i := 607) (by decide +kernel))) rfl
theorem m_608 : Cond.methodLink RJ0 495 yJ1_charAt_3b067 ∈ W0 := w0_in (List.mem_append_right _ (List.mem_of_getElem? (i := 608) (by decide +kernel))) rfl
theorem m_609 : Cond.static yJ1_charAt_3b067 ∈ W0 := w0_in (List.mem_append_right _ (List.mem_of_getElem? (i := 609) (by decide +kernel))) rfl
theorem m_610 : Cond.code yJ1_charAt_3b067 cJ1_charAt_3b067 2 (some .char) ∈ W0 := w0_in (List.mem_append_right _ (List.mem_of_getElem? (i := 610) (by decide +kernel))) rfl
theorem m_611 : Cond.methodLink RJ1 9 yJ0_checkIndex_df160 ∈ W0 := w0_in (List.mem_append_right _ (List.mem_of_getElem? (i := 611) (by decide +kernel))) rfl
theorem m_612 : Cond.static yJ0_checkIndex_df160 ∈ W0 := w0_in (List.mem_append_right _ (List.mem_of_getElem? (i := 612) (by decide +kernel))) rfl
theorem m_613 : Cond.code yJ0_checkIndex_df160 cJ0_checkIndex_df160 2 none ∈ W0 := w0_in (List.mem_append_right _ (List.mem_of_getElem? (i := 613) (by decide +kernel))) rfl
theorem m_614 : Cond.fieldLink RJ0 1053 "jdk/internal/util/Preconditions" "SIOOBE_FORMATTER" "Ljava/util/function/BiFunction;" ∈ W0 := w0_in (List.mem_append_right _ (List.mem_of_getElem? (i := 614) (by decide +kernel))) rfl
theorem m_616 : Cond.methodLink RJ0 1059 yJ3_checkIndex_8e157 ∈ W0 := w0_in (List.mem_append_right _ (List.mem_of_getElem? (i := 616) (by decide +kernel))) rfl
theorem m_617 : Cond.static yJ3_checkIndex_8e157 ∈ W0 := w0_in (List.mem_append_right _ (List.mem_of_getElem? (i := 617) (by decide +kernel))) rfl
theorem m_618 : Cond.code yJ3_checkIndex_8e157 cJ3_checkIndex_8e157 3 (some .int) ∈ W0 := w0_in (List.mem_append_right _ (List.mem_of_getElem? (i := 618) (by decide +kernel))) rfl
theorem m_2885 : Cond.fieldLink RJ0 9 "java/lang/String" "value" "[B" ∈ W0 := w0_in (List.mem_append_right _ (List.mem_of_getElem? (i := 2885) (by decide +kernel))) rfl
theorem m_2886 : Cond.fieldLink RJ0 15 "java/lang/String" "coder" "B" ∈ W0 := w0_in (List.mem_append_right _ (List.mem_of_getElem? (i := 2886) (by decide +kernel))) rfl
theorem dJ0_coder_7d493_0 : decode cJ0_coder_7d493 0 = .ok (.getstatic 38, 3) := by decide +kernel
theorem dJ0_coder_7d493_3 : decode cJ0_coder_7d493 3 = .ok (.ifCond .eq 10, 3) := by decide +kernel
theorem dJ0_coder_7d493_6 : decode cJ0_coder_7d493 6 = .ok (.aload_n 0, 1) := by decide +kernel
theorem dJ0_coder_7d493_7 : decode cJ0_coder_7d493 7 = .ok (.getfield 15, 3) := by decide +kernel
theorem dJ0_coder_7d493_10 : decode cJ0_coder_7d493 10 = .ok (.goto 4, 3) := by decide +kernel
theorem dJ0_coder_7d493_13 : decode cJ0_coder_7d493 13 = .ok (.iconst 1, 1) := by decide +kernel
theorem dJ0_coder_7d493_14 : decode cJ0_coder_7d493 14 = .ok (.ireturn, 1) := by decide +kernel
theorem dJ0_length_8abf5_0 : decode cJ0_length_8abf5 0 = .ok (.aload_n 0, 1) := by decide +kernel
theorem dJ0_length_8abf5_1 : decode cJ0_length_8abf5 1 = .ok (.getfield 9, 3) := by decide +kernel
theorem dJ0_length_8abf5_4 : decode cJ0_length_8abf5 4 = .ok (.arraylength, 1) := by decide +kernel
theorem dJ0_length_8abf5_5 : decode cJ0_length_8abf5 5 = .ok (.aload_n 0, 1) := by decide +kernel
theorem dJ0_length_8abf5_6 : decode cJ0_length_8abf5 6 = .ok (.invokevirtual 335, 3) := by decide +kernel
theorem dJ0_length_8abf5_9 : decode cJ0_length_8abf5 9 = .ok (.ishr, 1) := by decide +kernel
theorem dJ0_length_8abf5_10 : decode cJ0_length_8abf5 10 = .ok (.ireturn, 1) := by decide +kernel
theorem dJ0_isLatin1_aae02_0 : decode cJ0_isLatin1_aae02 0 = .ok (.getstatic 38, 3) := by decide +kernel
theorem dJ0_isLatin1_aae02_3 : decode cJ0_isLatin1_aae02 3 = .ok (.ifCond .eq 14, 3) := by decide +kernel
theorem dJ0_isLatin1_aae02_6 : decode cJ0_isLatin1_aae02 6 = .ok (.aload_n 0, 1) := by decide +kernel
theorem dJ0_isLatin1_aae02_7 : decode cJ0_isLatin1_aae02 7 = .ok (.getfield 15, 3) := by decide +kernel
theorem dJ0_isLatin1_aae02_10 : decode cJ0_isLatin1_aae02 10 = .ok (.ifCond .ne 7, 3) := by decide +kernel
theorem dJ0_isLatin1_aae02_13 : decode cJ0_isLatin1_aae02 13 = .ok (.iconst 1, 1) := by decide +kernel
theorem dJ0_isLatin1_aae02_14 : decode cJ0_isLatin1_aae02 14 = .ok (.goto 4, 3) := by decide +kernel
theorem dJ0_isLatin1_aae02_17 : decode cJ0_isLatin1_aae02 17 = .ok (.iconst 0, 1) := by decide +kernel
theorem dJ0_isLatin1_aae02_18 : decode cJ0_isLatin1_aae02 18 = .ok (.ireturn, 1) := by decide +kernel
theorem dJ3_checkIndex_8e157_0 : decode cJ3_checkIndex_8e157 0 = .ok (.iload_n 0, 1) := by decide +kernel
theorem dJ3_checkIndex_8e157_1 : decode cJ3_checkIndex_8e157 1 = .ok (.ifCond .lt 8, 3) := by decide +kernel
theorem dJ3_checkIndex_8e157_4 : decode cJ3_checkIndex_8e157 4 = .ok (.iload_n 0, 1) := by decide +kernel
theorem dJ3_checkIndex_8e157_5 : decode cJ3_checkIndex_8e157 5 = .ok (.iload_n 1, 1) := by decide +kernel
theorem dJ3_checkIndex_8e157_6 : decode cJ3_checkIndex_8e157 6 = .ok (.if_icmp .lt 10, 3) := by decide +kernel
theorem dJ3_checkIndex_8e157_9 : decode cJ3_checkIndex_8e157 9 = .ok (.aload_n 2, 1) := by decide +kernel
theorem dJ3_checkIndex_8e157_10 : decode cJ3_checkIndex_8e157 10 = .ok (.iload_n 0, 1) := by decide +kernel
theorem dJ3_checkIndex_8e157_11 : decode cJ3_checkIndex_8e157 11 = .ok (.iload_n 1, 1) := by decide +kernel
theorem dJ3_checkIndex_8e157_12 : decode cJ3_checkIndex_8e157 12 = .ok (.invokestatic 95, 3) := by decide +kernel
theorem dJ3_checkIndex_8e157_15 : decode cJ3_checkIndex_8e157 15 = .ok (.athrow, 1) := by decide +kernel
theorem dJ3_checkIndex_8e157_16 : decode cJ3_checkIndex_8e157 16 = .ok (.iload_n 0, 1) := by decide +kernel
theorem dJ3_checkIndex_8e157_17 : decode cJ3_checkIndex_8e157 17 = .ok (.ireturn, 1) := by decide +kernel
theorem dJ0_checkIndex_df160_0 : decode cJ0_checkIndex_df160 0 = .ok (.iload_n 0, 1) := by decide +kernel
theorem dJ0_checkIndex_df160_1 : decode cJ0_checkIndex_df160 1 = .ok (.iload_n 1, 1) := by decide +kernel
theorem dJ0_checkIndex_df160_2 : decode cJ0_checkIndex_df160 2 = .ok (.getstatic 1053, 3) := by decide +kernel
theorem dJ0_checkIndex_df160_5 : decode cJ0_checkIndex_df160 5 = .ok (.invokestatic 1059, 3) := by decide +kernel
theorem dJ0_checkIndex_df160_8 : decode cJ0_checkIndex_df160 8 = .ok (.pop, 1) := by decide +kernel
theorem dJ0_checkIndex_df160_9 : decode cJ0_checkIndex_df160 9 = .ok (.return_, 1) := by decide +kernel
theorem dJ1_charAt_3b067_0 : decode cJ1_charAt_3b067 0 = .ok (.iload_n 1, 1) := by decide +kernel
theorem dJ1_charAt_3b067_1 : decode cJ1_charAt_3b067 1 = .ok (.aload_n 0, 1) := by decide +kernel
theorem dJ1_charAt_3b067_2 : decode cJ1_charAt_3b067 2 = .ok (.arraylength, 1) := by decide +kernel
theorem dJ1_charAt_3b067_3 : decode cJ1_charAt_3b067 3 = .ok (.invokestatic 9, 3) := by decide +kernel
theorem dJ1_charAt_3b067_6 : decode cJ1_charAt_3b067 6 = .ok (.aload_n 0, 1) := by decide +kernel
theorem dJ1_charAt_3b067_7 : decode cJ1_charAt_3b067 7 = .ok (.iload_n 1, 1) := by decide +kernel
theorem dJ1_charAt_3b067_8 : decode cJ1_charAt_3b067 8 = .ok (.baload, 1) := by decide +kernel
theorem dJ1_charAt_3b067_9 : decode cJ1_charAt_3b067 9 = .ok (.sipush 255, 3) := by decide +kernel
theorem dJ1_charAt_3b067_12 : decode cJ1_charAt_3b067 12 = .ok (.iand, 1) := by decide +kernel
theorem dJ1_charAt_3b067_13 : decode cJ1_charAt_3b067 13 = .ok (.i2c, 1) := by decide +kernel
theorem dJ1_charAt_3b067_14 : decode cJ1_charAt_3b067 14 = .ok (.ireturn, 1) := by decide +kernel
theorem dJ0_charAt_5068e_0 : decode cJ0_charAt_5068e 0 = .ok (.aload_n 0, 1) := by decide +kernel
theorem dJ0_charAt_5068e_1 : decode cJ0_charAt_5068e 1 = .ok (.invokevirtual 492, 3) := by decide +kernel
theorem dJ0_charAt_5068e_4 : decode cJ0_charAt_5068e 4 = .ok (.ifCond .eq 12, 3) := by decide +kernel
theorem dJ0_charAt_5068e_7 : decode cJ0_charAt_5068e 7 = .ok (.aload_n 0, 1) := by decide +kernel
theorem dJ0_charAt_5068e_8 : decode cJ0_charAt_5068e 8 = .ok (.getfield 9, 3) := by decide +kernel
theorem dJ0_charAt_5068e_11 : decode cJ0_charAt_5068e 11 = .ok (.iload_n 1, 1) := by decide +kernel
theorem dJ0_charAt_5068e_12 : decode cJ0_charAt_5068e 12 = .ok (.invokestatic 495, 3) := by decide +kernel
theorem dJ0_charAt_5068e_15 : decode cJ0_charAt_5068e 15 = .ok (.ireturn, 1) := by decide +kernel
theorem dJ0_charAt_5068e_16 : decode cJ0_charAt_5068e 16 = .ok (.aload_n 0, 1) := by decide +kernel
theorem dJ0_charAt_5068e_17 : decode cJ0_charAt_5068e 17 = .ok (.getfield 9, 3) := by decide +kernel
theorem dJ0_charAt_5068e_20 : decode cJ0_charAt_5068e 20 = .ok (.iload_n 1, 1) := by decide +kernel
theorem dJ0_charAt_5068e_21 : decode cJ0_charAt_5068e 21 = .ok (.invokestatic 498, 3) := by decide +kernel
theorem dJ0_charAt_5068e_24 : decode cJ0_charAt_5068e 24 = .ok (.ireturn, 1) := by decide +kernel
theorem cw_J0_335 : cwd RJ0 335 yJ0_coder_7d493 cJ0_coder_7d493 1 (some .byte) false 0 := ⟨m_597, m_594, m_15, ⟨m_595, m_596⟩, by decide, by decide, by decide +kernel⟩
theorem cw_J0_492 : cwd RJ0 492 yJ0_isLatin1_aae02 cJ0_isLatin1_aae02 1 (some .boolean) false 0 := ⟨m_607, m_604, m_15, ⟨m_605, m_606⟩, by decide, by decide, by decide +kernel⟩
theorem cw_J0_495 : cwd RJ0 495 yJ1_charAt_3b067 cJ1_charAt_3b067 2 (some .char) true 2 := ⟨m_610, m_608, m_16, m_609, by decide, by decide, by decide +kernel⟩
theorem cw_J1_9 : cwd RJ1 9 yJ0_checkIndex_df160 cJ0_checkIndex_df160 2 none true 2 := ⟨m_613, m_611, m_15, m_612, by decide, by decide, by decide +kernel⟩
theorem cw_J0_1059 : cwd RJ0 1059 yJ3_checkIndex_8e157 cJ3_checkIndex_8e157 3 (some .int) true 3 := ⟨m_618, m_616, m_17, m_617, by decide, by decide, by decide +kernel⟩
def schr (i : Nat) (k : Int32) : Int32 := ((((lB i).getD k.toNatClampNeg 0) &&& 255).toUInt32 % 65536).toInt32
theorem lB_lt : ∀ i, i < 52 → (lB i).length < 2 ^ 31 := by decide +kernel
theorem schr_nar (x : Int32) : narrow .char (.int (x.toUInt32 % 65536).toInt32) = .int (x.toUInt32 % 65536).toInt32 := pk_nc x
theorem ct_co (l : Launch) (X : Ec) {h : Hp} {i : Nat} (hi : i < 52) : MetI l yJ0_coder_7d493 cJ0_coder_7d493 1 (some .byte) 0 0 X [.ref (X.2.2.2.1 i)] h (0, h) := by
  refine x_met (by decide) (Nat.le_of_ble_eq_true rfl) ?_
  intro p e s m below meth c ls C hl hW hS
  have hl : lv_has ls 1 [(0, .ref (X.2.2.2.1 i))] := hl
  have hkm : Km h h := Km.rf h
  refine y_comp C hS dJ0_coder_7d493_0 m_598 ?_
  refine lv_if_eq (tgt := 13) C.1 C.2.1 dJ0_coder_7d493_3 (by decide) (fun c_1 => absurd c_1 (by decide)) (fun _ => ?_)
  refine lv_aload_n C.1 C.2.1 dJ0_coder_7d493_6 rfl (lv_at hl 0 rfl) ?_
  refine y_strc C hS hi dJ0_coder_7d493_7 m_2886 ?_
  refine lv_goto (tgt := 14) C.1 C.2.1 dJ0_coder_7d493_10 (by decide) ?_
  exact x_iret C rfl (by decide) hW hS hkm rfl dJ0_coder_7d493_14
theorem ct_J0_length_8abf5 (l : Launch) (X : Ec) {h : Hp} {i : Nat} (hi : i < 52) : MetI l yJ0_length_8abf5 cJ0_length_8abf5 1 (some .int) 1 20 X [.ref (X.2.2.2.1 i)] h (nI (lB i).length, h) := by
  refine x_met (by decide) (Nat.le_of_ble_eq_true rfl) ?_
  intro p e s m below meth c ls C hl hW hS
  have hl : lv_has ls 1 [(0, .ref (X.2.2.2.1 i))] := hl
  have hkm : Km h h := Km.rf h
  have hT := ((C.2.2.2.2.2.2.2.2.1 i hi).1.1 0 (by decide)).2.2.2
  refine lv_aload_n C.1 C.2.1 dJ0_length_8abf5_0 rfl (lv_at hl 0 rfl) ?_
  refine y_strf C hS hi dJ0_length_8abf5_1 m_2885 ?_
  refine va_tlen (v := nI (lB i).length) C.1 C.2.1 hT hS rfl dJ0_length_8abf5_4 ?_
  refine lv_aload_n C.1 C.2.1 dJ0_length_8abf5_5 rfl (lv_at hl 0 rfl) ?_
  refine x_kI (o := (0, h)) (x_runVS (As := []) (rest := [.int (nI (lB i).length)]) C (ct_co l X hi) cw_J0_335 hW hS hi rfl rfl hl.1 (Nat.le_of_ble_eq_true rfl) rfl dJ0_length_8abf5_6 ⟨by decide, by decide⟩ ⟨by decide, by decide⟩) hS (fun _ _ hW km hS => ?_)
  refine lv_ishr C.1 C.2.1 dJ0_length_8abf5_9 ?_
  refine x_nmI (sc_shr0 (lB_lt i hi)).symm ?_
  exact x_iret C rfl rfl hW hS hkm rfl dJ0_length_8abf5_10
theorem ct_il (l : Launch) (X : Ec) {h : Hp} {i : Nat} (hi : i < 52) : MetI l yJ0_isLatin1_aae02 cJ0_isLatin1_aae02 1 (some .boolean) 0 0 X [.ref (X.2.2.2.1 i)] h (1, h) := by
  refine x_met (by decide) (Nat.le_of_ble_eq_true rfl) ?_
  intro p e s m below meth c ls C hl hW hS
  have hl : lv_has ls 1 [(0, .ref (X.2.2.2.1 i))] := hl
  have hkm : Km h h := Km.rf h
  refine y_comp C hS dJ0_isLatin1_aae02_0 m_598 ?_
  refine lv_if_eq (tgt := 17) C.1 C.2.1 dJ0_isLatin1_aae02_3 (by decide) (fun c_1 => absurd c_1 (by decide)) (fun _ => ?_)
  refine lv_aload_n C.1 C.2.1 dJ0_isLatin1_aae02_6 rfl (lv_at hl 0 rfl) ?_
  refine y_strc C hS hi dJ0_isLatin1_aae02_7 m_2886 ?_
  refine lv_if_ne (tgt := 17) C.1 C.2.1 dJ0_isLatin1_aae02_10 (by decide) (fun c_1 => absurd rfl c_1) (fun _ => ?_)
  refine lv_iconst (v := 1) C.1 C.2.1 dJ0_isLatin1_aae02_13 (by decide) ?_
  refine lv_goto (tgt := 18) C.1 C.2.1 dJ0_isLatin1_aae02_14 (by decide) ?_
  exact x_iret C rfl (by decide) hW hS hkm rfl dJ0_isLatin1_aae02_18
theorem ct_pk (l : Launch) (X : Ec) {h : Hp} {k : Int32} {n : Nat} {q : Option Nat} (hn : n < 2 ^ 31) (hk : inB k n) : MetI l yJ3_checkIndex_8e157 cJ3_checkIndex_8e157 3 (some .int) 0 0 X [.int k, .int (nI n), va_rf q] h (k, h) := by
  refine x_met (by decide) (by cases q <;> exact Nat.le_of_ble_eq_true rfl) ?_
  intro p e s m below meth c ls C hl hW hS
  have hl : lv_has ls 3 [(0, .int k), (1, .int (nI n)), (2, va_rf q)] := hl
  have hkm : Km h h := Km.rf h
  refine lv_iload_n C.1 C.2.1 dJ3_checkIndex_8e157_0 rfl (lv_at hl 0 rfl) ?_
  refine lv_if_lt (tgt := 9) C.1 C.2.1 dJ3_checkIndex_8e157_1 (by decide) (fun c_1 => absurd (Or.inl c_1) hk) (fun _ => ?_)
  refine lv_iload_n C.1 C.2.1 dJ3_checkIndex_8e157_4 rfl (lv_at hl 0 rfl) ?_
  refine lv_iload_n C.1 C.2.1 dJ3_checkIndex_8e157_5 rfl (lv_at hl 1 rfl) ?_
  obtain ⟨j, hj, ej⟩ := vp_in_of hk hn
  refine lv_icmp_lt (tgt := 16) C.1 C.2.1 dJ3_checkIndex_8e157_6 (by decide) (fun _ => ?_) (fun c_1 => absurd (by rw [ej]; exact nI_lt hj hn) c_1)
  refine lv_iload_n C.1 C.2.1 dJ3_checkIndex_8e157_16 rfl (lv_at hl 0 rfl) ?_
  exact x_iret C rfl rfl hW hS hkm rfl dJ3_checkIndex_8e157_17
theorem ct_ck (l : Launch) (X : Ec) {h : Hp} {k : Int32} {n : Nat} (hn : n < 2 ^ 31) (hk : inB k n) : MetV l yJ0_checkIndex_df160 cJ0_checkIndex_df160 2 none 1 22 X [.int k, .int (nI n)] h h := by
  refine x_met (by decide) (Nat.le_of_ble_eq_true rfl) ?_
  intro p e s m below meth c ls C hl hW hS
  have hl : lv_has ls 2 [(0, .int k), (1, .int (nI n))] := hl
  have hkm : Km h h := Km.rf h
  refine lv_iload_n C.1 C.2.1 dJ0_checkIndex_df160_0 rfl (lv_at hl 0 rfl) ?_
  refine lv_iload_n C.1 C.2.1 dJ0_checkIndex_df160_1 rfl (lv_at hl 1 rfl) ?_
  obtain ⟨q, hq⟩ := C.2.2.2.2.2.2.2.2.2.2.2.2.1
  refine va_gets C.1 C.2.1 hq hS C.2.2.2.1 (C.2.2.2.2.1 _ m_614) (fun _ z => z) dJ0_checkIndex_df160_2 ?_
  refine x_kI (o := (k, h)) (x_runS (As := [.int k, .int (nI n), va_rf q]) (rest := []) C (ct_pk l X hn hk) cw_J0_1059 hW hS rfl hl.1 (Nat.le_of_ble_eq_true rfl) rfl dJ0_checkIndex_df160_5 ⟨by decide, by decide⟩ ⟨by decide, by decide⟩) hS (fun _ _ hW km hS => ?_)
  refine lv_pop C.1 C.2.1 dJ0_checkIndex_df160_8 rfl ?_
  exact x_vret C rfl hW hS hkm rfl dJ0_checkIndex_df160_9
theorem ct_c1 (l : Launch) (X : Ec) {h : Hp} {i : Nat} {k : Int32} (hi : i < 52) (hk : inB k (lB i).length) : MetI l yJ1_charAt_3b067 cJ1_charAt_3b067 2 (some .char) 2 43 X [.ref (X.2.2.2.2.1 i), .int k] h (schr i k, h) := by
  refine x_met (by decide) (Nat.le_of_ble_eq_true rfl) ?_
  intro p e s m below meth c ls C hl hW hS
  have hl : lv_has ls 2 [(0, .ref (X.2.2.2.2.1 i)), (1, .int k)] := hl
  have hkm : Km h h := Km.rf h
  have hT := ((C.2.2.2.2.2.2.2.2.1 i hi).1.1 0 (by decide)).2.2.2
  refine lv_iload_n C.1 C.2.1 dJ1_charAt_3b067_0 rfl (lv_at hl 1 rfl) ?_
  refine lv_aload_n C.1 C.2.1 dJ1_charAt_3b067_1 rfl (lv_at hl 0 rfl) ?_
  refine va_tlen (v := nI (lB i).length) C.1 C.2.1 hT hS rfl dJ1_charAt_3b067_2 ?_
  refine x_kV (o := h) (x_runS (As := [.int k, .int (nI (lB i).length)]) (rest := []) C (ct_ck l X (lB_lt i hi) hk) cw_J1_9 hW hS rfl hl.1 (Nat.le_of_ble_eq_true rfl) rfl dJ1_charAt_3b067_3 ⟨by decide, by decide⟩ ⟨by decide, by decide⟩) hS (fun _ _ hW km hS => ?_)
  refine lv_aload_n C.1 C.2.1 dJ1_charAt_3b067_6 rfl (lv_at hl 0 rfl) ?_
  refine lv_iload_n C.1 C.2.1 dJ1_charAt_3b067_7 rfl (lv_at hl 1 rfl) ?_
  refine va_tb (v := .int ((lB i).getD k.toNatClampNeg 0)) C.1 C.2.1 hT hS hk rfl dJ1_charAt_3b067_8 ?_
  refine lv_sipush (v := 255) C.1 C.2.1 dJ1_charAt_3b067_9 (by decide) ?_
  refine lv_iand C.1 C.2.1 dJ1_charAt_3b067_12 ?_
  refine lv_i2c C.1 C.2.1 dJ1_charAt_3b067_13 rfl ?_
  exact x_iret C rfl (schr_nar _) hW hS hkm rfl dJ1_charAt_3b067_14
theorem ct_J0_charAt_5068e (l : Launch) (X : Ec) {h : Hp} {i : Nat} {k : Int32} (hi : i < 52) (hk : inB k (lB i).length) : MetI l yJ0_charAt_5068e cJ0_charAt_5068e 2 (some .char) 3 64 X [.ref (X.2.2.2.1 i), .int k] h (schr i k, h) := by
  refine x_met (by decide) (Nat.le_of_ble_eq_true rfl) ?_
  intro p e s m below meth c ls C hl hW hS
  have hl : lv_has ls 2 [(0, .ref (X.2.2.2.1 i)), (1, .int k)] := hl
  have hkm : Km h h := Km.rf h
  refine lv_aload_n C.1 C.2.1 dJ0_charAt_5068e_0 rfl (lv_at hl 0 rfl) ?_
  refine x_kI (o := (1, h)) (x_runVS (As := []) (rest := []) C (ct_il l X hi) cw_J0_492 hW hS hi rfl rfl hl.1 (Nat.le_of_ble_eq_true rfl) rfl dJ0_charAt_5068e_1 ⟨by decide, by decide⟩ ⟨by decide, by decide⟩) hS (fun _ _ hW km hS => ?_)
  refine lv_if_eq (tgt := 16) C.1 C.2.1 dJ0_charAt_5068e_4 (by decide) (fun c_1 => absurd c_1 (show ¬ (1 : Int32) = 0 by decide)) (fun _ => ?_)
  refine lv_aload_n C.1 C.2.1 dJ0_charAt_5068e_7 rfl (lv_at hl 0 rfl) ?_
  refine y_strf C hS hi dJ0_charAt_5068e_8 m_2885 ?_
  refine lv_iload_n C.1 C.2.1 dJ0_charAt_5068e_11 rfl (lv_at hl 1 rfl) ?_
  refine x_kI (o := (schr i k, h)) (x_runS (As := [.ref (X.2.2.2.2.1 i), .int k]) (rest := []) C (ct_c1 l X hi hk) cw_J0_495 hW hS rfl hl.1 (Nat.le_of_ble_eq_true rfl) rfl dJ0_charAt_5068e_12 ⟨by decide, by decide⟩ ⟨by decide, by decide⟩) hS (fun _ _ hW km hS => ?_)
  exact x_iret C rfl (schr_nar _) hW hS hkm rfl dJ0_charAt_5068e_15
