theorem fitZ {v : Int32} (h : narrow .boolean (.int v) = .int v) : fits .boolean (.int v) = true := by
  have h1 : v &&& 1 = v := by
    have h2 : Value.int (v &&& 1) = Value.int v := h
    injection h2
  obtain ⟨j, hj, e⟩ := pk_andE v (m := 1) 1 (by decide)
  rw [h1] at e
  subst e
  match j, hj with
  | 0, _ => rfl
  | 1, _ => rfl
-- ===== arraycopy
def cpI (h : Hp) (a0 sp a dp n : Nat) : Hp := (h.1, h.2.1, h.2.2.1, (fun b => if b = a then va_cpy (h.2.2.2.1 a0) (h.2.2.2.1 b) sp dp n else h.2.2.2.1 b), h.2.2.2.2)
def cpJ (h : Hp) (a0 sp a dp n : Nat) : Hp := (h.1, h.2.1, h.2.2.1, h.2.2.2.1, (fun b => if b = a then va_cpy (h.2.2.2.2.1 a0) (h.2.2.2.2.1 b) sp dp n else h.2.2.2.2.1 b), h.2.2.2.2.2)
theorem cpI_I (h : Hp) (a0 sp a dp n b : Nat) : hI (cpI h a0 sp a dp n) b = if b = a then va_cpy (hI h a0) (hI h b) sp dp n else hI h b := rfl
theorem cpJ_J (h : Hp) (a0 sp a dp n b : Nat) : hJ (cpJ h a0 sp a dp n) b = if b = a then va_cpy (hJ h a0) (hJ h b) sp dp n else hJ h b := rfl
theorem le_c {h h1 : Hp} (e : h1.1 = h.1) : Le h h1 := le_eq e
theorem nnI (z : Int32) (hz : ¬ z < 0) : z.toInt = (z.toNatClampNeg : Int) := by
  have hz0 : (0 : Int) ≤ z.toInt := by
    have := Int32.not_lt.mp hz
    simpa using Int32.le_iff_toInt_le.mp this
  show z.toInt = ((z.toInt.toNat : Nat) : Int)
  omega
section XK
variable {p : Program} {l : Launch} {e : Env} {R : Room} {s : State} {m : MethodId} {args : Array Value} {below : List Frame} {meth : Method} {c : Code} {H : Heap} {locs : List Loc} {cells slots : Nat} {Q : State → Prop}
variable {cc : ByteArray} {pc : Nat} {ls : Array Slot} {rest : List Value} {X : Ec} {h h0 h1 oh : Hp} {own host Cn : String} {nL : Nat} {rt : Option FieldType} {mn : String} {T : u_T} {N index a a0 ci k : Nat}
theorem y_cpyI {sp dp n : Int32} {ty : FieldType} (C : Cx X p s m args meth c own cc nL rt mn) (hW : Wx X h H) (hS' : va_S (aA (eB X)) s.heap H locs) (hz : ls.size = nL) (w1 : Cond.methodLink own index arraycopyName ∈ W0) (w2 : Cond.native arraycopyName ∈ W0) (w3 : Cond.static arraycopyName ∈ W0) (w4 : Cond.initialized "java/lang/System" ∈ W0)
    (hk0 : hK h a0 = k) (hk : hK h a = k) (hty : k = 16 ∧ ty = .byte ∨ k = 17 ∧ ty = .int ∨ k = 19 ∧ ty = .boolean) (h1' : ¬ sp < 0) (h2' : ¬ dp < 0) (h3' : ¬ n < 0) (h4 : sp.toNatClampNeg + n.toNatClampNeg ≤ hN h a0) (h5 : dp.toNatClampNeg + n.toNatClampNeg ≤ hN h a) (hfit : ∀ i, i < n.toNatClampNeg → fits ty (.int (hI h a0 (sp.toNatClampNeg + i))) = true)
    (hframes : 1 ≤ R.frames) (hlocals : (rest.map fun v => v.category).sum + (nativeFrameWords "java/lang/System" "arraycopy" 5 + 11) ≤ R.locals) (eh : h1 = cpI h a0 sp.toNatClampNeg a dp.toNatClampNeg n.toNatClampNeg) (hdg : decode cc pc = .ok (.invokestatic index, 3))
    (kk : ∀ (H1 : Heap) (locs1 : List Loc), Wx X h1 H1 → Km h h1 → va_S (aA (eB X)) s.heap H1 locs1 → W p l e R s m args below meth c H1 locs1 cells slots Q (F0 m (pc + 3) ls rest)) : W p l e R s m args below meth c H locs cells slots Q (F0 m pc ls (.int n :: .int dp :: .ref a :: .int sp :: .ref a0 :: rest)) := by
  have ok := C.2.2.2.2.1
  have h16 : k = 16 ∨ k = 17 ∨ k = 19 := by omega
  have hc0 := wd_arr hW.1 hk0 h16
  have hc1 := wd_arr hW.1 hk h16
  have hA := hW.1.2.2.1 a (by omega)
  obtain ⟨q0, he0⟩ := wd_at hW.1 (show hK h a < 24 by omega)
  have hAr := tys_I C.2.2.2.2.2.2.2.1 hty
  have hprim : refKind ty = false := by rcases hty with ⟨-, rfl⟩ | ⟨-, rfl⟩ | ⟨-, rfl⟩ <;> rfl
  intro T hT Xs
  obtain ⟨-, k0, g0, cm0, hkk0⟩ := hAr (hN h a0) (fun j => .int (hI h a0 j))
  obtain ⟨-, k1, g1, cm1, hkk1⟩ := hAr (hN h a) (fun j => .int (hI h a j))
  obtain ⟨vm', X', step⟩ := Xs.arraycopy C.1 C.2.2.2.1 (ok _ w1) (ok _ w2) (ok _ w3) (ok _ w4) (src := a0) (dst := a) (cs := arrV (X.2.1 k) (hN h a0) (fun j => .int (hI h a0 j))) (cd := arrV (X.2.1 k) (hN h a) (fun j => .int (hI h a j))) (srcPos := sp) (destPos := dp) (n := n) (by rw [hT]; exact hc0) (by rw [hT]; exact hc1)
    (fun _ h => by cases h) (fun _ h => by cases h) (fun h => by cases h) (fun h => by cases h) g0 g1 hkk0 hkk1 (by simp [hprim]) h1' h2' h3'
    (by rw [nnI sp h1', nnI n h3', arrV_size]; omega)
    (by rw [nnI dp h2', nnI n h3', arrV_size]; omega)
    (fun vm₁ _ i hi => by
      have e : (arrV (X.2.1 k) (hN h a0) (fun j => .int (hI h a0 j))).slots.getD (sp.toNatClampNeg + i) .null = .int (hI h a0 (sp.toNatClampNeg + i)) := by
        rw [Array.getD_eq_getD_getElem?, arrV_read _ _ (by omega)]
        rfl
      refine ⟨?_, ?_⟩
      · rw [e]
        exact hfit i hi
      · rw [e]
        exact trivial)
    (g := F0 m pc ls (.int n :: .int dp :: .ref a :: .int sp :: .ref a0 :: rest)) rfl (by rw [C.2.2.1]; exact hz) (rest := rest) rfl (by rw [C.2.1]; exact hdg) hframes (by show 2 * 0 + _ + _ ≤ _; omega)
  have e1 : copied (arrV (X.2.1 k) (hN h a0) (fun j => .int (hI h a0 j))) (arrV (X.2.1 k) (hN h a) (fun j => .int (hI h a j))) sp dp n = arrV (X.2.1 k) (hN h a) (fun j => .int (va_cpy (hI h a0) (hI h a) sp.toNatClampNeg dp.toNatClampNeg n.toNatClampNeg j)) := va_copied (fun z => .int z) (X.2.1 k) (X.2.1 k) (hI h a0) (hI h a) h4
  rw [e1] at X' step
  have hl : a < H.size := (Array.getElem?_eq_some_iff.mp hc1).1
  generalize hcell : arrV (X.2.1 k) (hN h a) (fun j => .int (va_cpy (hI h a0) (hI h a) sp.toNatClampNeg dp.toNatClampNeg n.toNatClampNeg j)) = cell at X' step
  have hheap : ((T.setVm vm').setCell a cell).heap = H.setIfInBounds a cell := by rw [← hT]; rfl
  have oq : ∀ q : Nat, q ≠ a → (H.setIfInBounds a cell)[q]? = H[q]? := fun q hq => by simp [Array.getElem?_setIfInBounds, Ne.symm hq]
  have hat : (H.setIfInBounds a cell)[a]? = some cell := by simp [Array.getElem?_setIfInBounds, hl]
  have hPs := va_P.set (e := cE X.2.1 (cpI h a0 sp.toNatClampNeg a dp.toNatClampNeg n.toNatClampNeg) a) hW.1.2.2.2 (pL_D (eB X) (hS h) (cE X.2.1 h)) he0 (H1 := H.setIfInBounds a cell) (by
    rw [cE_arr (h := cpI h a0 sp.toNatClampNeg a dp.toNatClampNeg n.toNatClampNeg) (k := k) hk (by omega), aE_I h16]
    show _ = some (vp_cell _ _)
    rw [hat, ← hcell, vp_cell_i]
    simp [cpI_I]
    rfl) oq
  have hWd : Wd X.1 X.2.1 (eB X) (cpI h a0 sp.toNatClampNeg a dp.toNatClampNeg n.toNatClampNeg) (H.setIfInBounds a cell) := wd_up hW.1 he0 hA.1 hA.2 rfl rfl rfl (fun b hb => cE_ne rfl rfl (by simp [cpI_I, hb]) rfl rfl) (by simp) hPs
  obtain ⟨t, a1, b1⟩ := kk _ _ (by rw [eh]; exact ⟨hWd, hW.2⟩) (by rw [eh]; exact ⟨fun _ _ => rfl, rfl⟩) ⟨by simp; exact hS'.1, fun q g1 g2 => by
      rw [oq q (fun e => g2 (by rw [e]; exact hA.1))]
      exact hS'.2.1 q g1 g2, fun q hq => by
      rcases List.mem_append.mp hq with hq | hq
      · exact hS'.2.2 q hq
      · first | (obtain ⟨i, -, rfl⟩ := List.mem_map.mp hq; exact hA.1) | (simp at hq; obtain ⟨i, -, rfl⟩ := hq; exact hA.1)⟩ _ hheap X'
  exact ⟨t, step t a1, b1⟩
theorem y_cpyJ {sp dp n : Int32} (C : Cx X p s m args meth c own cc nL rt mn) (hW : Wx X h H) (hS' : va_S (aA (eB X)) s.heap H locs) (hz : ls.size = nL) (w1 : Cond.methodLink own index arraycopyName ∈ W0) (w2 : Cond.native arraycopyName ∈ W0) (w3 : Cond.static arraycopyName ∈ W0) (w4 : Cond.initialized "java/lang/System" ∈ W0)
    (hk0 : hK h a0 = 18) (hk : hK h a = 18) (h1' : ¬ sp < 0) (h2' : ¬ dp < 0) (h3' : ¬ n < 0) (h4 : sp.toNatClampNeg + n.toNatClampNeg ≤ hN h a0) (h5 : dp.toNatClampNeg + n.toNatClampNeg ≤ hN h a)
    (hframes : 1 ≤ R.frames) (hlocals : (rest.map fun v => v.category).sum + (nativeFrameWords "java/lang/System" "arraycopy" 5 + 11) ≤ R.locals) (eh : h1 = cpJ h a0 sp.toNatClampNeg a dp.toNatClampNeg n.toNatClampNeg) (hdg : decode cc pc = .ok (.invokestatic index, 3))
    (kk : ∀ (H1 : Heap) (locs1 : List Loc), Wx X h1 H1 → Km h h1 → va_S (aA (eB X)) s.heap H1 locs1 → W p l e R s m args below meth c H1 locs1 cells slots Q (F0 m (pc + 3) ls rest)) : W p l e R s m args below meth c H locs cells slots Q (F0 m pc ls (.int n :: .int dp :: .ref a :: .int sp :: .ref a0 :: rest)) := by
  have ok := C.2.2.2.2.1
  have hc0 := wd_arrJ hW.1 hk0
  have hc1 := wd_arrJ hW.1 hk
  have hA := hW.1.2.2.1 a (by omega)
  obtain ⟨q0, he0⟩ := wd_at hW.1 (show hK h a < 24 by omega)
  have hAr := (C.2.2.2.2.2.2.2.1.2 2 _ rfl).1
  have hprim : refKind .long = false := rfl
  intro T hT Xs
  obtain ⟨-, k0, g0, cm0, hkk0⟩ := hAr (hN h a0) (fun j => .long (hJ h a0 j))
  obtain ⟨-, k1, g1, cm1, hkk1⟩ := hAr (hN h a) (fun j => .long (hJ h a j))
  obtain ⟨vm', X', step⟩ := Xs.arraycopy C.1 C.2.2.2.1 (ok _ w1) (ok _ w2) (ok _ w3) (ok _ w4) (src := a0) (dst := a) (cs := arrV (X.2.1 18) (hN h a0) (fun j => .long (hJ h a0 j))) (cd := arrV (X.2.1 18) (hN h a) (fun j => .long (hJ h a j))) (srcPos := sp) (destPos := dp) (n := n) (by rw [hT]; exact hc0) (by rw [hT]; exact hc1)
    (fun _ h => by cases h) (fun _ h => by cases h) (fun h => by cases h) (fun h => by cases h) g0 g1 hkk0 hkk1 (by simp [hprim]) h1' h2' h3'
    (by rw [nnI sp h1', nnI n h3', arrV_size]; omega)
    (by rw [nnI dp h2', nnI n h3', arrV_size]; omega)
    (fun vm₁ _ i hi => by
      have e : (arrV (X.2.1 18) (hN h a0) (fun j => .long (hJ h a0 j))).slots.getD (sp.toNatClampNeg + i) .null = .long (hJ h a0 (sp.toNatClampNeg + i)) := by
        rw [Array.getD_eq_getD_getElem?, arrV_read _ _ (by omega)]
        rfl
      refine ⟨?_, ?_⟩
      · rw [e]
        rfl
      · rw [e]
        exact trivial)
    (g := F0 m pc ls (.int n :: .int dp :: .ref a :: .int sp :: .ref a0 :: rest)) rfl (by rw [C.2.2.1]; exact hz) (rest := rest) rfl (by rw [C.2.1]; exact hdg) hframes (by show 2 * 0 + _ + _ ≤ _; omega)
  have e1 : copied (arrV (X.2.1 18) (hN h a0) (fun j => .long (hJ h a0 j))) (arrV (X.2.1 18) (hN h a) (fun j => .long (hJ h a j))) sp dp n = arrV (X.2.1 18) (hN h a) (fun j => .long (va_cpy (hJ h a0) (hJ h a) sp.toNatClampNeg dp.toNatClampNeg n.toNatClampNeg j)) := va_copied (fun z => .long z) (X.2.1 18) (X.2.1 18) (hJ h a0) (hJ h a) h4
  rw [e1] at X' step
  have hl : a < H.size := (Array.getElem?_eq_some_iff.mp hc1).1
  generalize hcell : arrV (X.2.1 18) (hN h a) (fun j => .long (va_cpy (hJ h a0) (hJ h a) sp.toNatClampNeg dp.toNatClampNeg n.toNatClampNeg j)) = cell at X' step
  have hheap : ((T.setVm vm').setCell a cell).heap = H.setIfInBounds a cell := by rw [← hT]; rfl
  have oq : ∀ q : Nat, q ≠ a → (H.setIfInBounds a cell)[q]? = H[q]? := fun q hq => by simp [Array.getElem?_setIfInBounds, Ne.symm hq]
  have hat : (H.setIfInBounds a cell)[a]? = some cell := by simp [Array.getElem?_setIfInBounds, hl]
  have hPs := va_P.set (e := cE X.2.1 (cpJ h a0 sp.toNatClampNeg a dp.toNatClampNeg n.toNatClampNeg) a) hW.1.2.2.2 (pL_D (eB X) (hS h) (cE X.2.1 h)) he0 (H1 := H.setIfInBounds a cell) (by
    rw [cE_arr (h := cpJ h a0 sp.toNatClampNeg a dp.toNatClampNeg n.toNatClampNeg) (k := 18) hk (by omega), aE_J]
    show _ = some (vp_cell _ _)
    rw [hat, ← hcell, vp_cell_l]
    simp [cpJ_J]
    rfl) oq
  have hWd : Wd X.1 X.2.1 (eB X) (cpJ h a0 sp.toNatClampNeg a dp.toNatClampNeg n.toNatClampNeg) (H.setIfInBounds a cell) := wd_up hW.1 he0 hA.1 hA.2 rfl rfl rfl (fun b hb => cE_ne rfl rfl rfl (by simp [cpJ_J, hb]) rfl) (by simp) hPs
  obtain ⟨t, a1, b1⟩ := kk _ _ (by rw [eh]; exact ⟨hWd, hW.2⟩) (by rw [eh]; exact ⟨fun _ _ => rfl, rfl⟩) ⟨by simp; exact hS'.1, fun q g1 g2 => by
      rw [oq q (fun e => g2 (by rw [e]; exact hA.1))]
      exact hS'.2.1 q g1 g2, fun q hq => by
      rcases List.mem_append.mp hq with hq | hq
      · exact hS'.2.2 q hq
      · first | (obtain ⟨i, -, rfl⟩ := List.mem_map.mp hq; exact hA.1) | (simp at hq; obtain ⟨i, -, rfl⟩ := hq; exact hA.1)⟩ _ hheap X'
  exact ⟨t, step t a1, b1⟩
theorem y_putiN {ty : FieldType} {v : Int32} (C : Cx X p s m args meth c own cc nL rt mn) (hW : Wx X h H) (hS : va_S (aA (eB X)) s.heap H locs) (ha : hK h a = ci) (hin : ∀ w ∈ u_ws Cn T N, w ∈ W0) (ty0 : Nat → FieldType) (hty : ∀ k, k < N → parseFieldDescriptor (T k).2.2.1 = some (ty0 k)) (hnm : ∀ a, a < N → ∀ b, b < N → a ≠ b → (T a).2.1 ≠ (T b).2.1) (hci : ci < 16) (hc : classes[ci]? = some (Cn, T, N)) (hN : (tl ci).length = N) (hk : k < N) (hlink : Cond.fieldLinkNest own index (T k).1 (T k).2.1 (T k).2.2.1 host ∈ tables_1) (hfin : (T k).2.2.2 = false) (hd : parseFieldDescriptor (T k).2.2.1 = some ty) (ht : (tl ci)[k]? = some 0) (hn : narrow ty (.int v) = .int v) (hfit : fits ty (.int v) = true) (eh : h1 = wI h a k v) (hdg : decode cc pc = .ok (.putfield index, 3))
    (kk : ∀ (H1 : Heap) (locs1 : List Loc), Wx X h1 H1 → Km h h1 → va_S (aA (eB X)) s.heap H1 locs1 → W p l e R s m args below meth c H1 locs1 cells slots Q (F0 m (pc + 3) ls rest)) : W p l e R s m args below meth c H locs cells slots Q (F0 m pc ls (.int v :: .ref a :: rest)) := by
  subst eh
  exact x_putN (h' := wI h a k v) C.1 C.2.1 C.2.2.2.2.1 hin ty0 hty hnm C.2.2.2.1 C.2.2.2.2.2.2.2.1 hW.1 hS ha hci hc hN hk (va_Nw.use rfl (C.2.2.2.2.2.2.2.2.2.2.2.2.2.2.2.2.1 _ _ _ _ _ _ hlink)) hfin hd hn hfit (stp_I ha hci ht v) hdg (fun H1 locs1 w1 s1 => kk H1 locs1 ⟨w1, WF_I hW.2 a k v⟩ ⟨fun _ _ => rfl, rfl⟩ s1)
theorem y_putjN {v : Int64} (C : Cx X p s m args meth c own cc nL rt mn) (hW : Wx X h H) (hS : va_S (aA (eB X)) s.heap H locs) (ha : hK h a = ci) (hin : ∀ w ∈ u_ws Cn T N, w ∈ W0) (ty0 : Nat → FieldType) (hty : ∀ k, k < N → parseFieldDescriptor (T k).2.2.1 = some (ty0 k)) (hnm : ∀ a, a < N → ∀ b, b < N → a ≠ b → (T a).2.1 ≠ (T b).2.1) (hci : ci < 16) (hc : classes[ci]? = some (Cn, T, N)) (hN : (tl ci).length = N) (hk : k < N) (hlink : Cond.fieldLinkNest own index (T k).1 (T k).2.1 (T k).2.2.1 host ∈ tables_1) (hfin : (T k).2.2.2 = false) (hd : parseFieldDescriptor (T k).2.2.1 = some .long) (ht : (tl ci)[k]? = some 1) (eh : h1 = wJ h a k v) (hdg : decode cc pc = .ok (.putfield index, 3))
    (kk : ∀ (H1 : Heap) (locs1 : List Loc), Wx X h1 H1 → Km h h1 → va_S (aA (eB X)) s.heap H1 locs1 → W p l e R s m args below meth c H1 locs1 cells slots Q (F0 m (pc + 3) ls rest)) : W p l e R s m args below meth c H locs cells slots Q (F0 m pc ls (.long v :: .ref a :: rest)) := by
  subst eh
  exact x_putN (h' := wJ h a k v) C.1 C.2.1 C.2.2.2.2.1 hin ty0 hty hnm C.2.2.2.1 C.2.2.2.2.2.2.2.1 hW.1 hS ha hci hc hN hk (va_Nw.use rfl (C.2.2.2.2.2.2.2.2.2.2.2.2.2.2.2.2.1 _ _ _ _ _ _ hlink)) hfin hd rfl rfl (stp_J ha hci ht v) hdg (fun H1 locs1 w1 s1 => kk H1 locs1 ⟨w1, WF_J hW.2 a k v⟩ ⟨fun _ _ => rfl, rfl⟩ s1)
end XK

def onr {β : Type} (x : Option Nat) (a : Option β) (k : Nat → Option β) : Option β := match x with
  | none => a
  | some r => k r
theorem onr_n {β : Type} {x : Option Nat} {a o : Option β} {k : Nat → Option β} (h : onr x a k = o) (e : x = none) : a = o := by subst e; exact h
theorem onr_s {β : Type} {x : Option Nat} {a o : Option β} {k : Nat → Option β} {r : Nat} (h : onr x a k = o) (e : x = some r) : k r = o := by subst e; exact h
theorem onr_e {β : Type} {x : Option Nat} {a o : Option β} {k : Nat → Option β} (h : onr x a k = o) : a = o ∨ ∃ r, k r = o := by
  cases x with
  | none => exact Or.inl h
  | some r => exact Or.inr ⟨r, h⟩
section XN
variable {p : Program} {l : Launch} {e : Env} {R : Room} {s : State} {m : MethodId} {args : Array Value} {below : List Frame} {meth : Method} {c : Code} {H : Heap} {locs : List Loc} {cells slots : Nat} {Q : State → Prop}
variable {cc : ByteArray} {pc : Nat} {ls : Array Slot} {rest : List Value} {X : Ec} {h h0 h1 oh : Hp} {own host Cn : String} {nL : Nat} {rt : Option FieldType} {mn : String} {T : u_T} {N index a a0 ci k : Nat}
theorem y_aald0 {t0 : Nat} {ty : FieldType} {i : Int32} (C : Cx X p s m args meth c own cc nL rt mn) (hW : Wx X h H) (ha : hK h a = k) (h1k : 20 ≤ k) (h2k : k < 24) (ht : (tys X.2.1)[t0]? = some (X.2.1 k, ty)) (hty : ty.isReference = true) (hin : inB i (hN h a)) (hr : hR h a i.toNatClampNeg = none) (hdg : decode cc pc = .ok (.aaload, 1))
    (kk : W p l e R s m args below meth c H locs cells slots Q (F0 m (pc + 1) ls (.null :: rest))) : W p l e R s m args below meth c H locs cells slots Q (F0 m pc ls (.int i :: .ref a :: rest)) := by
  have hlt : i.toNatClampNeg < hN h a := Nat.not_le.mp fun q => hin (Or.inr q)
  exact W.aald (v := .null) (ty := ty) C.1 C.2.1 (wd_arrR hW.1 ha h1k h2k) ((C.2.2.2.2.2.2.2.1.2 t0 _ ht).1 _ _) hty (fun q => by cases q) (by show ¬ (i < 0 ∨ (arrV _ _ _).slots.size ≤ _); rw [arrV_size]; exact hin) (by show (arrV _ _ _).slots[_]? = _; rw [arrV_read _ _ hlt, hr]; rfl) rfl rfl hdg kk
theorem y_getr0 (C : Cx X p s m args meth c own cc nL rt mn) (hW : Wx X h H) (ha : hK h a = ci) (hin : ∀ w ∈ u_ws Cn T N, w ∈ W0) (hci : ci < 16) (hc : classes[ci]? = some (Cn, T, N)) (hk : k < N) (hlink : Cond.fieldLink own index (T k).1 (T k).2.1 (T k).2.2.1 ∈ W0) (ht : (tl ci)[k]? = some 2) (hr : hR h a k = none) (hdg : decode cc pc = .ok (.getfield index, 3))
    (kk : W p l e R s m args below meth c H locs cells slots Q (F0 m (pc + 3) ls (.null :: rest))) : W p l e R s m args below meth c H locs cells slots Q (F0 m pc ls (.ref a :: rest)) :=
  x_get C.1 C.2.1 C.2.2.2.2.1 hin C.2.2.2.1 C.2.2.2.2.2.2.2.1 hW.1 ha hci hc hk (C.2.2.2.2.1 _ hlink) ht (v := .null) (by simp [fv, hr, va_rf]) hdg kk
end XN
