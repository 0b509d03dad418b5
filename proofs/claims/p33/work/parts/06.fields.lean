section XF
variable {p : Program} {l : Launch} {e : Env} {R : Room} {s : State} {m : MethodId} {args : Array Value} {below : List Frame} {meth : Method} {c : Code} {H : Heap} {locs : List Loc} {cells slots : Nat} {Q : State → Prop}
variable {cc : ByteArray} {pc : Nat} {ls : Array Slot} {rest : List Value} {X : Ec} {h h1 : Hp} {own host Cn : String} {nL : Nat} {rt : Option FieldType} {mn : String} {T : u_T} {N index a ci k : Nat}
theorem WF_I {h : Hp} (hw : WF h) (a k : Nat) (v : Int32) : WF (wI h a k v) := hw
theorem WF_J {h : Hp} (hw : WF h) (a k : Nat) (v : Int64) : WF (wJ h a k v) := hw
theorem WF_R {h : Hp} (hw : WF h) {a k r : Nat} (hr : hK h r = fk (hK h a) k) (h24 : hK h r < 24) : WF (wR h a k (some r)) := by
  intro b i q hb hq
  rw [wR_K] at hb ⊢
  rw [wR_R] at hq
  by_cases e1 : b = a
  · subst e1
    rw [if_pos rfl] at hq
    by_cases e2 : i = k
    · subst e2
      simp only [va_up, if_true] at hq
      cases hq
      exact ⟨hr, h24⟩
    · simp only [va_up, if_neg e2] at hq
      exact hw b i q hb hq
  · rw [if_neg e1] at hq
    exact hw b i q hb hq
theorem WF_0 {h : Hp} (hw : WF h) {a k : Nat} : WF (wR h a k none) := by
  intro b i q hb hq
  rw [wR_K] at hb ⊢
  rw [wR_R] at hq
  by_cases e1 : b = a
  · subst e1
    rw [if_pos rfl] at hq
    by_cases e2 : i = k
    · subst e2
      simp only [va_up, if_true] at hq
      cases hq
    · simp only [va_up, if_neg e2] at hq
      exact hw b i q hb hq
  · rw [if_neg e1] at hq
    exact hw b i q hb hq
theorem y_geti (C : Cx X p s m args meth c own cc nL rt mn) (hW : Wx X h H) (ha : hK h a = ci) (hin : ∀ w ∈ u_ws Cn T N, w ∈ W0) (hci : ci < 16) (hc : classes[ci]? = some (Cn, T, N)) (hk : k < N) (hlink : Cond.fieldLink own index (T k).1 (T k).2.1 (T k).2.2.1 ∈ W0) (ht : (tl ci)[k]? = some 0) (hdg : decode cc pc = .ok (.getfield index, 3))
    (kk : W p l e R s m args below meth c H locs cells slots Q (F0 m (pc + 3) ls (.int (hI h a k) :: rest))) : W p l e R s m args below meth c H locs cells slots Q (F0 m pc ls (.ref a :: rest)) :=
  x_get C.1 C.2.1 C.2.2.2.2.1 hin C.2.2.2.1 C.2.2.2.2.2.2.2.1 hW.1 ha hci hc hk (C.2.2.2.2.1 _ hlink) ht rfl hdg kk
theorem y_getj (C : Cx X p s m args meth c own cc nL rt mn) (hW : Wx X h H) (ha : hK h a = ci) (hin : ∀ w ∈ u_ws Cn T N, w ∈ W0) (hci : ci < 16) (hc : classes[ci]? = some (Cn, T, N)) (hk : k < N) (hlink : Cond.fieldLink own index (T k).1 (T k).2.1 (T k).2.2.1 ∈ W0) (ht : (tl ci)[k]? = some 1) (hdg : decode cc pc = .ok (.getfield index, 3))
    (kk : W p l e R s m args below meth c H locs cells slots Q (F0 m (pc + 3) ls (.long (hJ h a k) :: rest))) : W p l e R s m args below meth c H locs cells slots Q (F0 m pc ls (.ref a :: rest)) :=
  x_get C.1 C.2.1 C.2.2.2.2.1 hin C.2.2.2.1 C.2.2.2.2.2.2.2.1 hW.1 ha hci hc hk (C.2.2.2.2.1 _ hlink) ht rfl hdg kk
theorem y_getr {r kr : Nat} (C : Cx X p s m args meth c own cc nL rt mn) (hW : Wx X h H) (ha : hK h a = ci) (hin : ∀ w ∈ u_ws Cn T N, w ∈ W0) (hci : ci < 16) (hc : classes[ci]? = some (Cn, T, N)) (hk : k < N) (hlink : Cond.fieldLink own index (T k).1 (T k).2.1 (T k).2.2.1 ∈ W0) (ht : (tl ci)[k]? = some 2) (hf : fk ci k = kr) (hr : hR h a k = some r) (hdg : decode cc pc = .ok (.getfield index, 3))
    (kk : hK h r = kr → W p l e R s m args below meth c H locs cells slots Q (F0 m (pc + 3) ls (.ref r :: rest))) : W p l e R s m args below meth c H locs cells slots Q (F0 m pc ls (.ref a :: rest)) :=
  x_get C.1 C.2.1 C.2.2.2.2.1 hin C.2.2.2.1 C.2.2.2.2.2.2.2.1 hW.1 ha hci hc hk (C.2.2.2.2.1 _ hlink) ht (v := .ref r) (by simp [fv, hr, va_rf]) hdg (kk (by rw [(hW.2 a k r (by omega) hr).1, ha]; exact hf))
theorem y_getiN (C : Cx X p s m args meth c own cc nL rt mn) (hW : Wx X h H) (ha : hK h a = ci) (hin : ∀ w ∈ u_ws Cn T N, w ∈ W0) (hci : ci < 16) (hc : classes[ci]? = some (Cn, T, N)) (hk : k < N) (hlink : Cond.fieldLinkNest own index (T k).1 (T k).2.1 (T k).2.2.1 host ∈ tables_1) (ht : (tl ci)[k]? = some 0) (hdg : decode cc pc = .ok (.getfield index, 3))
    (kk : W p l e R s m args below meth c H locs cells slots Q (F0 m (pc + 3) ls (.int (hI h a k) :: rest))) : W p l e R s m args below meth c H locs cells slots Q (F0 m pc ls (.ref a :: rest)) :=
  x_getN C.1 C.2.1 C.2.2.2.2.1 hin C.2.2.2.1 C.2.2.2.2.2.2.2.1 hW.1 ha hci hc hk (va_Nw.use rfl (C.2.2.2.2.2.2.2.2.2.2.2.2.2.2.2.2.1 _ _ _ _ _ _ hlink)) ht rfl hdg kk
theorem y_getjN (C : Cx X p s m args meth c own cc nL rt mn) (hW : Wx X h H) (ha : hK h a = ci) (hin : ∀ w ∈ u_ws Cn T N, w ∈ W0) (hci : ci < 16) (hc : classes[ci]? = some (Cn, T, N)) (hk : k < N) (hlink : Cond.fieldLinkNest own index (T k).1 (T k).2.1 (T k).2.2.1 host ∈ tables_1) (ht : (tl ci)[k]? = some 1) (hdg : decode cc pc = .ok (.getfield index, 3))
    (kk : W p l e R s m args below meth c H locs cells slots Q (F0 m (pc + 3) ls (.long (hJ h a k) :: rest))) : W p l e R s m args below meth c H locs cells slots Q (F0 m pc ls (.ref a :: rest)) :=
  x_getN C.1 C.2.1 C.2.2.2.2.1 hin C.2.2.2.1 C.2.2.2.2.2.2.2.1 hW.1 ha hci hc hk (va_Nw.use rfl (C.2.2.2.2.2.2.2.2.2.2.2.2.2.2.2.2.1 _ _ _ _ _ _ hlink)) ht rfl hdg kk
theorem y_getrN {r kr : Nat} (C : Cx X p s m args meth c own cc nL rt mn) (hW : Wx X h H) (ha : hK h a = ci) (hin : ∀ w ∈ u_ws Cn T N, w ∈ W0) (hci : ci < 16) (hc : classes[ci]? = some (Cn, T, N)) (hk : k < N) (hlink : Cond.fieldLinkNest own index (T k).1 (T k).2.1 (T k).2.2.1 host ∈ tables_1) (ht : (tl ci)[k]? = some 2) (hf : fk ci k = kr) (hr : hR h a k = some r) (hdg : decode cc pc = .ok (.getfield index, 3))
    (kk : hK h r = kr → W p l e R s m args below meth c H locs cells slots Q (F0 m (pc + 3) ls (.ref r :: rest))) : W p l e R s m args below meth c H locs cells slots Q (F0 m pc ls (.ref a :: rest)) :=
  x_getN C.1 C.2.1 C.2.2.2.2.1 hin C.2.2.2.1 C.2.2.2.2.2.2.2.1 hW.1 ha hci hc hk (va_Nw.use rfl (C.2.2.2.2.2.2.2.2.2.2.2.2.2.2.2.2.1 _ _ _ _ _ _ hlink)) ht (v := .ref r) (by simp [fv, hr, va_rf]) hdg (kk (by rw [(hW.2 a k r (by omega) hr).1, ha]; exact hf))
theorem y_puti {ty : FieldType} {v : Int32} (C : Cx X p s m args meth c own cc nL rt mn) (hW : Wx X h H) (hS : va_S (aA (eB X)) s.heap H locs) (ha : hK h a = ci) (hin : ∀ w ∈ u_ws Cn T N, w ∈ W0) (ty0 : Nat → FieldType) (hty : ∀ k, k < N → parseFieldDescriptor (T k).2.2.1 = some (ty0 k)) (hnm : ∀ a, a < N → ∀ b, b < N → a ≠ b → (T a).2.1 ≠ (T b).2.1) (hci : ci < 16) (hc : classes[ci]? = some (Cn, T, N)) (hN : (tl ci).length = N) (hk : k < N) (hlink : Cond.fieldLink own index (T k).1 (T k).2.1 (T k).2.2.1 ∈ W0) (hfin : (T k).2.2.2 = false) (hd : parseFieldDescriptor (T k).2.2.1 = some ty) (ht : (tl ci)[k]? = some 0) (hn : narrow ty (.int v) = .int v) (hfit : fits ty (.int v) = true) (eh : h1 = wI h a k v) (hdg : decode cc pc = .ok (.putfield index, 3))
    (kk : ∀ (H1 : Heap) (locs1 : List Loc), Wx X h1 H1 → Km h h1 → va_S (aA (eB X)) s.heap H1 locs1 → W p l e R s m args below meth c H1 locs1 cells slots Q (F0 m (pc + 3) ls rest)) : W p l e R s m args below meth c H locs cells slots Q (F0 m pc ls (.int v :: .ref a :: rest)) := by
  subst eh
  exact x_put (h' := wI h a k v) C.1 C.2.1 C.2.2.2.2.1 hin ty0 hty hnm C.2.2.2.1 C.2.2.2.2.2.2.2.1 hW.1 hS ha hci hc hN hk (C.2.2.2.2.1 _ hlink) hfin hd hn hfit (stp_I ha hci ht v) hdg (fun H1 locs1 w1 s1 => kk H1 locs1 ⟨w1, WF_I hW.2 a k v⟩ ⟨fun _ _ => rfl, rfl⟩ s1)
theorem y_putj {v : Int64} (C : Cx X p s m args meth c own cc nL rt mn) (hW : Wx X h H) (hS : va_S (aA (eB X)) s.heap H locs) (ha : hK h a = ci) (hin : ∀ w ∈ u_ws Cn T N, w ∈ W0) (ty0 : Nat → FieldType) (hty : ∀ k, k < N → parseFieldDescriptor (T k).2.2.1 = some (ty0 k)) (hnm : ∀ a, a < N → ∀ b, b < N → a ≠ b → (T a).2.1 ≠ (T b).2.1) (hci : ci < 16) (hc : classes[ci]? = some (Cn, T, N)) (hN : (tl ci).length = N) (hk : k < N) (hlink : Cond.fieldLink own index (T k).1 (T k).2.1 (T k).2.2.1 ∈ W0) (hfin : (T k).2.2.2 = false) (hd : parseFieldDescriptor (T k).2.2.1 = some .long) (ht : (tl ci)[k]? = some 1) (eh : h1 = wJ h a k v) (hdg : decode cc pc = .ok (.putfield index, 3))
    (kk : ∀ (H1 : Heap) (locs1 : List Loc), Wx X h1 H1 → Km h h1 → va_S (aA (eB X)) s.heap H1 locs1 → W p l e R s m args below meth c H1 locs1 cells slots Q (F0 m (pc + 3) ls rest)) : W p l e R s m args below meth c H locs cells slots Q (F0 m pc ls (.long v :: .ref a :: rest)) := by
  subst eh
  exact x_put (h' := wJ h a k v) C.1 C.2.1 C.2.2.2.2.1 hin ty0 hty hnm C.2.2.2.1 C.2.2.2.2.2.2.2.1 hW.1 hS ha hci hc hN hk (C.2.2.2.2.1 _ hlink) hfin hd rfl rfl (stp_J ha hci ht v) hdg (fun H1 locs1 w1 s1 => kk H1 locs1 ⟨w1, WF_J hW.2 a k v⟩ ⟨fun _ _ => rfl, rfl⟩ s1)
theorem y_putr {ty : FieldType} {r : Nat} (C : Cx X p s m args meth c own cc nL rt mn) (hW : Wx X h H) (hS : va_S (aA (eB X)) s.heap H locs) (ha : hK h a = ci) (hin : ∀ w ∈ u_ws Cn T N, w ∈ W0) (ty0 : Nat → FieldType) (hty : ∀ k, k < N → parseFieldDescriptor (T k).2.2.1 = some (ty0 k)) (hnm : ∀ a, a < N → ∀ b, b < N → a ≠ b → (T a).2.1 ≠ (T b).2.1) (hci : ci < 16) (hc : classes[ci]? = some (Cn, T, N)) (hN : (tl ci).length = N) (hk : k < N) (hlink : Cond.fieldLink own index (T k).1 (T k).2.1 (T k).2.2.1 ∈ W0) (hfin : (T k).2.2.2 = false) (hd : parseFieldDescriptor (T k).2.2.1 = some ty) (ht : (tl ci)[k]? = some 2) (hn : narrow ty (.ref r) = .ref r) (hfit : fits ty (.ref r) = true) {kr : Nat} (hr : hK h r = kr) (hf : fk ci k = kr) (h24 : kr < 24) (eh : h1 = wR h a k (some r)) (hdg : decode cc pc = .ok (.putfield index, 3))
    (kk : ∀ (H1 : Heap) (locs1 : List Loc), Wx X h1 H1 → Km h h1 → va_S (aA (eB X)) s.heap H1 locs1 → W p l e R s m args below meth c H1 locs1 cells slots Q (F0 m (pc + 3) ls rest)) : W p l e R s m args below meth c H locs cells slots Q (F0 m pc ls (.ref r :: .ref a :: rest)) := by
  subst eh
  exact x_put (h' := wR h a k (some r)) C.1 C.2.1 C.2.2.2.2.1 hin ty0 hty hnm C.2.2.2.1 C.2.2.2.2.2.2.2.1 hW.1 hS ha hci hc hN hk (C.2.2.2.2.1 _ hlink) hfin hd hn hfit (stp_R ha hci ht (some r)) hdg (fun H1 locs1 w1 s1 => kk H1 locs1 ⟨w1, WF_R hW.2 (by rw [hr, ha, hf]) (by rw [hr]; exact h24)⟩ ⟨fun _ _ => rfl, rfl⟩ s1)
theorem y_iald {i : Int32} (C : Cx X p s m args meth c own cc nL rt mn) (hW : Wx X h H) (ha : hK h a = 17) (hin : inB i (hN h a)) (hdg : decode cc pc = .ok (.iaload, 1)) (kk : W p l e R s m args below meth c H locs cells slots Q (F0 m (pc + 1) ls (.int (hI h a i.toNatClampNeg) :: rest))) : W p l e R s m args below meth c H locs cells slots Q (F0 m pc ls (.int i :: .ref a :: rest)) :=
  x_iald C.1 C.2.1 C.2.2.2.2.2.2.2.1 hW.1 ha hin hdg kk
theorem y_bald {i : Int32} (C : Cx X p s m args meth c own cc nL rt mn) (hW : Wx X h H) (ha : hK h a = 16) (hin : inB i (hN h a)) (hdg : decode cc pc = .ok (.baload, 1)) (kk : W p l e R s m args below meth c H locs cells slots Q (F0 m (pc + 1) ls (.int (hI h a i.toNatClampNeg) :: rest))) : W p l e R s m args below meth c H locs cells slots Q (F0 m pc ls (.int i :: .ref a :: rest)) :=
  x_bald C.1 C.2.1 C.2.2.2.2.2.2.2.1 hW.1 ha hin hdg kk
theorem y_zald {i : Int32} (C : Cx X p s m args meth c own cc nL rt mn) (hW : Wx X h H) (ha : hK h a = 19) (hin : inB i (hN h a)) (hdg : decode cc pc = .ok (.baload, 1)) (kk : W p l e R s m args below meth c H locs cells slots Q (F0 m (pc + 1) ls (.int (hI h a i.toNatClampNeg) :: rest))) : W p l e R s m args below meth c H locs cells slots Q (F0 m pc ls (.int i :: .ref a :: rest)) :=
  x_zald C.1 C.2.1 C.2.2.2.2.2.2.2.1 hW.1 ha hin hdg kk
theorem y_lald {i : Int32} (C : Cx X p s m args meth c own cc nL rt mn) (hW : Wx X h H) (ha : hK h a = 18) (hin : inB i (hN h a)) (hdg : decode cc pc = .ok (.laload, 1)) (kk : W p l e R s m args below meth c H locs cells slots Q (F0 m (pc + 1) ls (.long (hJ h a i.toNatClampNeg) :: rest))) : W p l e R s m args below meth c H locs cells slots Q (F0 m pc ls (.int i :: .ref a :: rest)) :=
  x_lald C.1 C.2.1 C.2.2.2.2.2.2.2.1 hW.1 ha hin hdg kk
theorem y_alen {k : Nat} (C : Cx X p s m args meth c own cc nL rt mn) (hW : Wx X h H) (ha : hK h a = k) (hk : k = 16 ∨ k = 17 ∨ k = 18) (hdg : decode cc pc = .ok (.arraylength, 1)) (kk : W p l e R s m args below meth c H locs cells slots Q (F0 m (pc + 1) ls (.int (nI (hN h a)) :: rest))) : W p l e R s m args below meth c H locs cells slots Q (F0 m pc ls (.ref a :: rest)) := by
  rcases hk with rfl | rfl | rfl
  · exact x_alenB C.1 C.2.1 C.2.2.2.2.2.2.2.1 hW.1 ha hdg kk
  · exact x_alenI C.1 C.2.1 C.2.2.2.2.2.2.2.1 hW.1 ha hdg kk
  · exact x_alenJ C.1 C.2.1 C.2.2.2.2.2.2.2.1 hW.1 ha hdg kk
theorem y_iast {i v : Int32} (C : Cx X p s m args meth c own cc nL rt mn) (hW : Wx X h H) (hS : va_S (aA (eB X)) s.heap H locs) (ha : hK h a = 17) (hin : inB i (hN h a)) (eh : h1 = wI h a i.toNatClampNeg v) (hdg : decode cc pc = .ok (.iastore, 1))
    (kk : ∀ (H1 : Heap) (locs1 : List Loc), Wx X h1 H1 → Km h h1 → va_S (aA (eB X)) s.heap H1 locs1 → W p l e R s m args below meth c H1 locs1 cells slots Q (F0 m (pc + 1) ls rest)) : W p l e R s m args below meth c H locs cells slots Q (F0 m pc ls (.int v :: .int i :: .ref a :: rest)) := by
  subst eh
  exact x_iast C.1 C.2.1 C.2.2.2.2.2.2.2.1 hW.1 hS ha hin hdg (fun H1 locs1 w1 s1 => kk H1 locs1 ⟨w1, WF_I hW.2 _ _ _⟩ ⟨fun _ _ => rfl, rfl⟩ s1)
theorem y_bast {i v : Int32} (C : Cx X p s m args meth c own cc nL rt mn) (hW : Wx X h H) (hS : va_S (aA (eB X)) s.heap H locs) (ha : hK h a = 16) (hin : inB i (hN h a)) (eh : h1 = wI h a i.toNatClampNeg (vp_nar .byte v)) (hdg : decode cc pc = .ok (.bastore, 1))
    (kk : ∀ (H1 : Heap) (locs1 : List Loc), Wx X h1 H1 → Km h h1 → va_S (aA (eB X)) s.heap H1 locs1 → W p l e R s m args below meth c H1 locs1 cells slots Q (F0 m (pc + 1) ls rest)) : W p l e R s m args below meth c H locs cells slots Q (F0 m pc ls (.int v :: .int i :: .ref a :: rest)) := by
  subst eh
  exact x_bast C.1 C.2.1 C.2.2.2.2.2.2.2.1 hW.1 hS ha hin hdg (fun H1 locs1 w1 s1 => kk H1 locs1 ⟨w1, WF_I hW.2 _ _ _⟩ ⟨fun _ _ => rfl, rfl⟩ s1)
theorem y_zast {i v : Int32} (C : Cx X p s m args meth c own cc nL rt mn) (hW : Wx X h H) (hS : va_S (aA (eB X)) s.heap H locs) (ha : hK h a = 19) (hin : inB i (hN h a)) (eh : h1 = wI h a i.toNatClampNeg (vp_nar .boolean v)) (hdg : decode cc pc = .ok (.bastore, 1))
    (kk : ∀ (H1 : Heap) (locs1 : List Loc), Wx X h1 H1 → Km h h1 → va_S (aA (eB X)) s.heap H1 locs1 → W p l e R s m args below meth c H1 locs1 cells slots Q (F0 m (pc + 1) ls rest)) : W p l e R s m args below meth c H locs cells slots Q (F0 m pc ls (.int v :: .int i :: .ref a :: rest)) := by
  subst eh
  exact x_zast C.1 C.2.1 C.2.2.2.2.2.2.2.1 hW.1 hS ha hin hdg (fun H1 locs1 w1 s1 => kk H1 locs1 ⟨w1, WF_I hW.2 _ _ _⟩ ⟨fun _ _ => rfl, rfl⟩ s1)
theorem y_last {i : Int32} {v : Int64} (C : Cx X p s m args meth c own cc nL rt mn) (hW : Wx X h H) (hS : va_S (aA (eB X)) s.heap H locs) (ha : hK h a = 18) (hin : inB i (hN h a)) (eh : h1 = wJ h a i.toNatClampNeg v) (hdg : decode cc pc = .ok (.lastore, 1))
    (kk : ∀ (H1 : Heap) (locs1 : List Loc), Wx X h1 H1 → Km h h1 → va_S (aA (eB X)) s.heap H1 locs1 → W p l e R s m args below meth c H1 locs1 cells slots Q (F0 m (pc + 1) ls rest)) : W p l e R s m args below meth c H locs cells slots Q (F0 m pc ls (.long v :: .int i :: .ref a :: rest)) := by
  subst eh
  exact x_last C.1 C.2.1 C.2.2.2.2.2.2.2.1 hW.1 hS ha hin hdg (fun H1 locs1 w1 s1 => kk H1 locs1 ⟨w1, WF_J hW.2 _ _ _⟩ ⟨fun _ _ => rfl, rfl⟩ s1)
end XF
-- a branch of a meaning
def br {β : Type} (c : Prop) [Decidable c] (a b : Option β) : Option β := if c then a else b
theorem br_p {β : Type} {c : Prop} [Decidable c] {a b o : Option β} (h : br c a b = o) (q : c) : a = o := by rw [← h]; exact (if_pos q).symm
theorem br_n {β : Type} {c : Prop} [Decidable c] {a b o : Option β} (h : br c a b = o) (q : ¬ c) : b = o := by rw [← h]; exact (if_neg q).symm
theorem nar0 (ty : FieldType) (h : ty = .int ∨ ty = .boolean) : narrow ty (.int 0) = .int 0 := by rcases h with rfl | rfl <;> rfl
theorem narB {v : Int32} (h : v &&& 1 = v) : narrow .boolean (.int v) = .int v := by show Value.int (v &&& 1) = _; rw [h]
theorem narY {v : Int32} (h : v.toInt8.toInt32 = v) : narrow .byte (.int v) = .int v := by show Value.int _ = _; rw [h]
