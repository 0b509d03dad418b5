theorem br_e {β : Type} {c : Prop} [Decidable c] {a b o : Option β} (h : br c a b = o) : (c ∧ a = o) ∨ (¬ c ∧ b = o) := by
  by_cases q : c
  · exact Or.inl ⟨q, br_p h q⟩
  · exact Or.inr ⟨q, br_n h q⟩
theorem hdef_16 {h : Hp} {n z : Nat} (cA : ClassId) : vp_cell cA (n, aE (nC h 16 n z) 16 (hS h)) = arrV cA n (fun _ => defaultValue .byte) := by
  rw [aE_I (by simp), nC_I, if_pos rfl, vp_cell_i]; rfl
theorem hdef_17 {h : Hp} {n z : Nat} (cA : ClassId) : vp_cell cA (n, aE (nC h 17 n z) 17 (hS h)) = arrV cA n (fun _ => defaultValue .int) := by
  rw [aE_I (by simp), nC_I, if_pos rfl, vp_cell_i]; rfl
theorem hdef_18 {h : Hp} {n z : Nat} (cA : ClassId) : vp_cell cA (n, aE (nC h 18 n z) 18 (hS h)) = arrV cA n (fun _ => defaultValue .long) := by
  rw [aE_J, nC_J, if_pos rfl, vp_cell_l]; rfl
theorem hdef_19 {h : Hp} {n z : Nat} (cA : ClassId) : vp_cell cA (n, aE (nC h 19 n z) 19 (hS h)) = arrV cA n (fun _ => defaultValue .boolean) := by
  rw [aE_I (by simp), nC_I, if_pos rfl, vp_cell_i]; rfl
section XG
variable {p : Program} {l : Launch} {e : Env} {R : Room} {s : State} {m : MethodId} {args : Array Value} {below : List Frame} {meth : Method} {c : Code} {H : Heap} {locs : List Loc} {cells slots : Nat} {Q : State → Prop}
variable {cc : ByteArray} {pc : Nat} {ls : Array Slot} {rest : List Value} {X : Ec} {h h0 h1 oh : Hp} {own host Cn : String} {nL : Nat} {rt : Option FieldType} {mn : String} {T : u_T} {N index a ci k : Nat}
theorem x_nmA {x y : Nat} (ex : x = y) (k : W p l e R s m args below meth c H locs cells slots Q (F0 m pc ls (.ref x :: rest))) : W p l e R s m args below meth c H locs cells slots Q (F0 m pc ls (.ref y :: rest)) := ex ▸ k
theorem y_putiF {ty : FieldType} {v : Int32} (C : Cx X p s m args meth c own cc nL rt mn) (hW : Wx X h H) (hS : va_S (aA (eB X)) s.heap H locs) (ha : hK h a = ci) (hin : ∀ w ∈ u_ws Cn T N, w ∈ W0) (ty0 : Nat → FieldType) (hty : ∀ k, k < N → parseFieldDescriptor (T k).2.2.1 = some (ty0 k)) (hnm : ∀ a, a < N → ∀ b, b < N → a ≠ b → (T a).2.1 ≠ (T b).2.1) (hci : ci < 16) (hc : classes[ci]? = some (Cn, T, N)) (hN : (tl ci).length = N) (hk : k < N) (hlink : Cond.fieldLink own index (T k).1 (T k).2.1 (T k).2.2.1 ∈ W0) (hfin : (T k).2.2.2 = true) (hmn : mn = "<init>") (hdecl : (T k).1 = own) (hd : parseFieldDescriptor (T k).2.2.1 = some ty) (ht : (tl ci)[k]? = some 0) (hn : narrow ty (.int v) = .int v) (hfit : fits ty (.int v) = true) (eh : h1 = wI h a k v) (hdg : decode cc pc = .ok (.putfield index, 3))
    (kk : ∀ (H1 : Heap) (locs1 : List Loc), Wx X h1 H1 → Km h h1 → va_S (aA (eB X)) s.heap H1 locs1 → W p l e R s m args below meth c H1 locs1 cells slots Q (F0 m (pc + 3) ls rest)) : W p l e R s m args below meth c H locs cells slots Q (F0 m pc ls (.int v :: .ref a :: rest)) := by
  subst eh
  exact x_putF (h' := wI h a k v) C.1 C.2.1 C.2.2.2.2.1 hin ty0 hty hnm C.2.2.2.1 C.2.2.2.2.2.2.2.1 hW.1 hS ha hci hc hN hk (C.2.2.2.2.1 _ hlink) hfin (C.2.2.2.2.2.2.1.2.trans hmn) hdecl hd hn hfit (stp_I ha hci ht v) hdg (fun H1 locs1 w1 s1 => kk H1 locs1 ⟨w1, WF_I hW.2 a k v⟩ ⟨fun _ _ => rfl, rfl⟩ s1)
theorem y_putrF {ty : FieldType} {r : Nat} (C : Cx X p s m args meth c own cc nL rt mn) (hW : Wx X h H) (hS : va_S (aA (eB X)) s.heap H locs) (ha : hK h a = ci) (hin : ∀ w ∈ u_ws Cn T N, w ∈ W0) (ty0 : Nat → FieldType) (hty : ∀ k, k < N → parseFieldDescriptor (T k).2.2.1 = some (ty0 k)) (hnm : ∀ a, a < N → ∀ b, b < N → a ≠ b → (T a).2.1 ≠ (T b).2.1) (hci : ci < 16) (hc : classes[ci]? = some (Cn, T, N)) (hN : (tl ci).length = N) (hk : k < N) (hlink : Cond.fieldLink own index (T k).1 (T k).2.1 (T k).2.2.1 ∈ W0) (hfin : (T k).2.2.2 = true) (hmn : mn = "<init>") (hdecl : (T k).1 = own) (hd : parseFieldDescriptor (T k).2.2.1 = some ty) (ht : (tl ci)[k]? = some 2) (hn : narrow ty (.ref r) = .ref r) (hfit : fits ty (.ref r) = true) {kr : Nat} (hr : hK h r = kr) (hf : fk ci k = kr) (h24 : kr < 24) (eh : h1 = wR h a k (some r)) (hdg : decode cc pc = .ok (.putfield index, 3))
    (kk : ∀ (H1 : Heap) (locs1 : List Loc), Wx X h1 H1 → Km h h1 → va_S (aA (eB X)) s.heap H1 locs1 → W p l e R s m args below meth c H1 locs1 cells slots Q (F0 m (pc + 3) ls rest)) : W p l e R s m args below meth c H locs cells slots Q (F0 m pc ls (.ref r :: .ref a :: rest)) := by
  subst eh
  exact x_putF (h' := wR h a k (some r)) C.1 C.2.1 C.2.2.2.2.1 hin ty0 hty hnm C.2.2.2.1 C.2.2.2.2.2.2.2.1 hW.1 hS ha hci hc hN hk (C.2.2.2.2.1 _ hlink) hfin (C.2.2.2.2.2.2.1.2.trans hmn) hdecl hd hn hfit (stp_R ha hci ht (some r)) hdg (fun H1 locs1 w1 s1 => kk H1 locs1 ⟨w1, WF_R hW.2 (by rw [hr, ha, hf]) (by rw [hr]; exact h24)⟩ ⟨fun _ _ => rfl, rfl⟩ s1)
-- ===== calls, of any room
variable {y : MethodName} {b : ByteArray} {n : Nat} {r : Option FieldType} {fr lo mc ms np : Nat} {As : List Value} {Qc : Array Value → State → Outcome → State → Prop}
abbrev rmg (fr mc ms lo : Nat) : Room := { frames := fr, cells := mc, slots := ms, locals := lo }
theorem z_runV {q : vw_C} (C : Cx X p s m args meth c own cc nL rt mn) (hM : Met l y (wY y b n r) (rmg fr mc ms lo) (va_Pc (.ref a :: As) (Pq X h)) Qc mc ms (aA (eB X))) (w : cwd own index y b n r false np) (hW : Wx X h H) (hS : va_S (aA (eB X)) s.heap H locs)
    (ha : hK h a = ci) (hci : ci < 16) (hc : classes[ci]? = some q) (hy : y.cls = q.1) (hn : As.length = np) (hz : ls.size = nL) (hr : (rest.map fun v => v.category).sum ≤ 8) {st : List Value} (hst : st = As.reverse ++ .ref a :: rest) (hdg : decode cc pc = .ok (.invokevirtual index, 3)) (hR : fr + 1 ≤ R.frames ∧ 8 + (n + 11) + lo ≤ R.locals) (hc0 : cells + mc ≤ R.cells ∧ slots + ms ≤ R.slots) :
    va_Run p l e R s m args below meth c H locs cells slots mc ms (F0 m pc ls st) rest (Qc (Value.ref a :: As).toArray) (aA (eB X)) := by
  have ok := C.2.2.2.2.1
  have hcb : CallB R s args own index y b n r (wY y b n r) (rmg fr mc ms lo) mc ms np := callB_of np ok (wY_in w.1) rfl rfl rfl (ok _ w.2.2.1) (ok _ w.2.1) w.2.2.2.2 hR
  have hw4 := w.2.2.2.1
  simp only [if_neg (show ¬ (false = true) by decide)] at hw4
  exact va_runV (As := As) (rest := rest) ⟨C.1, C.2.1, C.2.2.1, C.2.2.2.1, ok⟩ hM ⟨hcb, ok _ hw4.1, ok _ hw4.2⟩ ⟨Pq.blind X h _, by rw [hy]; exact x_recv C hW ha hci hc, x_pre C hW hS _⟩ rfl hn hz hst (lv_room hr) hdg hc0
theorem z_runVN {q : vw_C} (C : Cx X p s m args meth c own cc nL rt mn) (hM : Met l y (wY y b n r) (rmg fr mc ms lo) (va_Pc (.ref a :: As) (Pq X h)) Qc mc ms (aA (eB X))) (w : cwn own index host y b n r false np) (hW : Wx X h H) (hS : va_S (aA (eB X)) s.heap H locs)
    (ha : hK h a = ci) (hci : ci < 16) (hc : classes[ci]? = some q) (hy : y.cls = q.1) (hn : As.length = np) (hz : ls.size = nL) (hr : (rest.map fun v => v.category).sum ≤ 8) {st : List Value} (hst : st = As.reverse ++ .ref a :: rest) (hdg : decode cc pc = .ok (.invokevirtual index, 3)) (hR : fr + 1 ≤ R.frames ∧ 8 + (n + 11) + lo ≤ R.locals) (hc0 : cells + mc ≤ R.cells ∧ slots + ms ≤ R.slots) :
    va_Run p l e R s m args below meth c H locs cells slots mc ms (F0 m pc ls st) rest (Qc (Value.ref a :: As).toArray) (aA (eB X)) := by
  have ok := C.2.2.2.2.1
  have hcb : va_CN R s args own index y host b n r (wY y b n r) (rmg fr mc ms lo) mc ms np := va_cnB np ok (wY_in w.1) rfl rfl rfl (C.2.2.2.2.2.2.2.2.2.2.2.2.2.2.2.2.2 _ _ _ _ w.2.1) (ok _ w.2.2.1) w.2.2.2.2 hR
  have hw4 := w.2.2.2.1
  simp only [if_neg (show ¬ (false = true) by decide)] at hw4
  exact va_runVN (As := As) (rest := rest) ⟨C.1, C.2.1, C.2.2.1, C.2.2.2.1, ok⟩ hM ⟨hcb, ok _ hw4.1, ok _ hw4.2⟩ ⟨Pq.blind X h _, by rw [hy]; exact x_recv C hW ha hci hc, x_pre C hW hS _⟩ rfl hn hz hst (lv_room hr) hdg hc0
theorem z_runS (C : Cx X p s m args meth c own cc nL rt mn) (hM : Met l y (wY y b n r) (rmg fr mc ms lo) (va_Pc As (Pq X h)) Qc mc ms (aA (eB X))) (w : cwd own index y b n r true np) (hW : Wx X h H) (hS : va_S (aA (eB X)) s.heap H locs)
    (hn : As.length = np) (hz : ls.size = nL) (hr : (rest.map fun v => v.category).sum ≤ 8) {st : List Value} (hst : st = As.reverse ++ rest) (hdg : decode cc pc = .ok (.invokestatic index, 3)) (hR : fr + 1 ≤ R.frames ∧ 8 + (n + 11) + lo ≤ R.locals) (hc0 : cells + mc ≤ R.cells ∧ slots + ms ≤ R.slots) :
    va_Run p l e R s m args below meth c H locs cells slots mc ms (F0 m pc ls st) rest (Qc As.toArray) (aA (eB X)) := by
  have ok := C.2.2.2.2.1
  have hcb : CallB R s args own index y b n r (wY y b n r) (rmg fr mc ms lo) mc ms np := callB_of np ok (wY_in w.1) rfl rfl rfl (ok _ w.2.2.1) (ok _ w.2.1) w.2.2.2.2 hR
  have hw4 := w.2.2.2.1
  simp only [if_pos (show true = true by decide)] at hw4
  exact va_runS (As := As) (rest := rest) ⟨C.1, C.2.1, C.2.2.1, C.2.2.2.1, ok⟩ hM ⟨hcb, ok _ hw4⟩ ⟨Pq.blind X h _, x_pre C hW hS _⟩ rfl hn hz hst (lv_room hr) hdg hc0
def cwi (own : String) (index : Nat) (y : MethodName) (b : ByteArray) (n : Nat) (np : Nat) : Prop :=
  Cond.code y b n none ∈ W0 ∧ Cond.methodLink own index y ∈ W0 ∧ Cond.initialized y.cls ∈ W0 ∧ Cond.instanceMethod y ∈ W0 ∧ y.name = "<init>" ∧ (y.cls ≠ "java/lang/invoke/MethodHandle" ∧ y.cls ≠ "java/lang/invoke/VarHandle" ∧ (parseMethodDescriptor y.desc).map (fun d => d.parameters.length) = some np)
def cwin (own : String) (index : Nat) (host : String) (y : MethodName) (b : ByteArray) (n : Nat) (np : Nat) : Prop :=
  Cond.code y b n none ∈ W0 ∧ Cond.methodLinkNest own index y host ∈ tables_1 ∧ Cond.initialized y.cls ∈ W0 ∧ Cond.instanceMethod y ∈ W0 ∧ y.name = "<init>" ∧ (y.cls ≠ "java/lang/invoke/MethodHandle" ∧ y.cls ≠ "java/lang/invoke/VarHandle" ∧ (parseMethodDescriptor y.desc).map (fun d => d.parameters.length) = some np)
theorem z_runI (C : Cx X p s m args meth c own cc nL rt mn) (hM : Met l y (wY y b n none) (rmg fr mc ms lo) (va_Pc (.ref a :: As) (Pq X h)) Qc mc ms (aA (eB X))) (w : cwi own index y b n np) (hW : Wx X h H) (hS : va_S (aA (eB X)) s.heap H locs)
    (hn : As.length = np) (hz : ls.size = nL) (hr : (rest.map fun v => v.category).sum ≤ 8) {st : List Value} (hst : st = As.reverse ++ .ref a :: rest) (hdg : decode cc pc = .ok (.invokespecial index, 3)) (hR : fr + 1 ≤ R.frames ∧ 8 + (n + 11) + lo ≤ R.locals) (hc0 : cells + mc ≤ R.cells ∧ slots + ms ≤ R.slots) :
    va_Run p l e R s m args below meth c H locs cells slots mc ms (F0 m pc ls st) rest (Qc (Value.ref a :: As).toArray) (aA (eB X)) := by
  have ok := C.2.2.2.2.1
  have hcb : CallB R s args own index y b n none (wY y b n none) (rmg fr mc ms lo) mc ms np := callB_of np ok (wY_in w.1) rfl rfl rfl (ok _ w.2.2.1) (ok _ w.2.1) w.2.2.2.2.2 hR
  exact va_runI (As := As) (rest := rest) ⟨C.1, C.2.1, C.2.2.1, C.2.2.2.1, ok⟩ hM ⟨hcb, w.2.2.2.2.1, ok _ w.2.2.2.1⟩ ⟨Pq.blind X h _, x_pre C hW hS _⟩ rfl hn hz hst (lv_room hr) hdg hc0
theorem z_runIN (C : Cx X p s m args meth c own cc nL rt mn) (hM : Met l y (wY y b n none) (rmg fr mc ms lo) (va_Pc (.ref a :: As) (Pq X h)) Qc mc ms (aA (eB X))) (w : cwin own index host y b n np) (hW : Wx X h H) (hS : va_S (aA (eB X)) s.heap H locs)
    (hn : As.length = np) (hz : ls.size = nL) (hr : (rest.map fun v => v.category).sum ≤ 8) {st : List Value} (hst : st = As.reverse ++ .ref a :: rest) (hdg : decode cc pc = .ok (.invokespecial index, 3)) (hR : fr + 1 ≤ R.frames ∧ 8 + (n + 11) + lo ≤ R.locals) (hc0 : cells + mc ≤ R.cells ∧ slots + ms ≤ R.slots) :
    va_Run p l e R s m args below meth c H locs cells slots mc ms (F0 m pc ls st) rest (Qc (Value.ref a :: As).toArray) (aA (eB X)) := by
  have ok := C.2.2.2.2.1
  have hcb : va_CN R s args own index y host b n none (wY y b n none) (rmg fr mc ms lo) mc ms np := va_cnB np ok (wY_in w.1) rfl rfl rfl (C.2.2.2.2.2.2.2.2.2.2.2.2.2.2.2.2.2 _ _ _ _ w.2.1) (ok _ w.2.2.1) w.2.2.2.2.2 hR
  exact va_runIN (As := As) (rest := rest) ⟨C.1, C.2.1, C.2.2.1, C.2.2.2.1, ok⟩ hM ⟨hcb, w.2.2.2.2.1, ok _ w.2.2.2.1⟩ ⟨Pq.blind X h _, x_pre C hW hS _⟩ rfl hn hz hst (lv_room hr) hdg hc0
/-- the room that a call has, in a method that makes things -/
theorem rm_ok {o1 : Hp} (hkl : Kl h0 h) (m1 : Le h o1) (m2 : Le o1 oh) : (hS h - hS h0) + (hS o1 - hS h) ≤ hS oh - hS h0 ∧ (hL h - hL h0) + (hL o1 - hL h) ≤ hL oh - hL h0 := by
  obtain ⟨-, k1, k2⟩ := hkl
  obtain ⟨a1, a2⟩ := m1
  obtain ⟨b1, b2⟩ := m2
  omega
theorem rm_ok0 {o1 : Hp} (hkl : Kl h0 h) (m1 : Le h o1) (m2 : Le o1 oh) : (hS h - hS h0) + 0 ≤ hS oh - hS h0 ∧ (hL h - hL h0) + 0 ≤ hL oh - hL h0 := by
  obtain ⟨-, k1, k2⟩ := hkl
  obtain ⟨a1, a2⟩ := m1
  obtain ⟨b1, b2⟩ := m2
  omega
theorem x_kVA {o : Hp} {av : Array Value} {st : List Value} (hkl : Kl h0 h) (hr : va_Run p l e R s m args below meth c H locs (hS h - hS h0) (hL h - hL h0) (hS o - hS h) (hL o - hL h) (F0 m pc ls st) rest (QVA X h o av) (aA (eB X))) (hS' : va_S (aA (eB X)) s.heap H locs)
    (kk : ∀ (H1 : Heap) (locs1 : List Loc), Wx X o H1 → Kl h o → va_S (aA (eB X)) s.heap H1 locs1 → W p l e R s m args below meth c H1 locs1 (hS o - hS h0) (hL o - hL h0) Q (F0 m (pc + 3) ls rest)) : W p l e R s m args below meth c H locs (hS h - hS h0) (hL h - hL h0) Q (F0 m pc ls st) :=
  va_callv hr hS' (fun _ _ q => q) (fun _ q => q) (fun u t H1 locs1 ht hvm hw hB hz hk hS1 => by
    obtain ⟨rfl, hkm⟩ := hw
    rw [ht] at hB
    obtain ⟨-, k1, k2⟩ := hkl
    have k3 := hkm.2.1
    have k4 := hkm.2.2
    exact x_wl (h1 := u) (by omega) (by omega) (kk H1 locs1 hB hkm hS1))
theorem x_kIA {o : Int32 × Hp} {av : Array Value} {st : List Value} (hkl : Kl h0 h) (hr : va_Run p l e R s m args below meth c H locs (hS h - hS h0) (hL h - hL h0) (hS o.2 - hS h) (hL o.2 - hL h) (F0 m pc ls st) rest (QIA X h o.1 o.2 av) (aA (eB X))) (hS' : va_S (aA (eB X)) s.heap H locs)
    (kk : ∀ (H1 : Heap) (locs1 : List Loc), Wx X o.2 H1 → Kl h o.2 → va_S (aA (eB X)) s.heap H1 locs1 → W p l e R s m args below meth c H1 locs1 (hS o.2 - hS h0) (hL o.2 - hL h0) Q (F0 m (pc + 3) ls (.int o.1 :: rest))) : W p l e R s m args below meth c H locs (hS h - hS h0) (hL h - hL h0) Q (F0 m pc ls st) :=
  va_calli hr hS' (fun _ _ q => q) (fun _ q => q) (fun r u t H1 locs1 ht hvm hw hB hz hk hS1 => by
    obtain ⟨rfl, rfl, hkm⟩ := hw
    rw [ht] at hB
    obtain ⟨-, k1, k2⟩ := hkl
    have k3 := hkm.2.1
    have k4 := hkm.2.2
    exact x_wl (h1 := o.2) (by omega) (by omega) (kk H1 locs1 hB hkm hS1))
theorem x_kRA {o : Nat × Hp} {kr : Nat} {av : Array Value} {st : List Value} (hkl : Kl h0 h) (hr : va_Run p l e R s m args below meth c H locs (hS h - hS h0) (hL h - hL h0) (hS o.2 - hS h) (hL o.2 - hL h) (F0 m pc ls st) rest (QRA X kr h o.1 o.2 av) (aA (eB X))) (hS' : va_S (aA (eB X)) s.heap H locs)
    (kk : ∀ (H1 : Heap) (locs1 : List Loc), Wx X o.2 H1 → Kl h o.2 → hK o.2 o.1 = kr → va_S (aA (eB X)) s.heap H1 locs1 → W p l e R s m args below meth c H1 locs1 (hS o.2 - hS h0) (hL o.2 - hL h0) Q (F0 m (pc + 3) ls (.ref o.1 :: rest))) : W p l e R s m args below meth c H locs (hS h - hS h0) (hL h - hL h0) Q (F0 m pc ls st) :=
  va_callr hr hS' (fun _ _ q => q) (fun _ q => q) (fun u ra t H1 locs1 ht hvm hw hB hz hk hS1 => by
    obtain ⟨rfl, hkm, hkr⟩ := hw
    obtain ⟨rfl, hB⟩ := hB
    rw [ht] at hB
    obtain ⟨-, k1, k2⟩ := hkl
    have k3 := hkm.2.1
    have k4 := hkm.2.2
    exact x_wl (h1 := o.2) (by omega) (by omega) (kk H1 locs1 hB hkm hkr hS1))
theorem x_metA {oh : Hp} {av : List Value} (hy : plainName y.cls = true) (hav : (lg_sl av).length ≤ n)
    (body : ∀ (p : Program) (e : Env) (s : State) (m : MethodId) (below : List Frame) (meth : Method) (c : Code) (ls : Array Slot), Cx X p s m av.toArray meth c y.cls b n r y.name → lv_has ls n (lv_args 0 av) → Wx X h s.heap → va_S (aA (eB X)) s.heap s.heap [] →
      W p l e (rmA fr lo h oh) s m av.toArray below meth c s.heap [] (hS h - hS h) (hL h - hL h) (MQ below Qc av.toArray s (hS oh - hS h) (hL oh - hL h) (aA (eB X))) (F0 m 0 ls [])) : Met l y (wY y b n r) (rmA fr lo h oh) (va_Pc av (Pq X h)) Qc (hS oh - hS h) (hL oh - hL h) (aA (eB X)) := by
  refine Met.ofW (cc := b) (maxL := n) (ret := r) hy rfl ?_
  intro p e s m args below meth c s₁ B hml hv
  obtain ⟨rfl, hEn, hWx⟩ := hv
  have hts := atoms_spec (ws := wY y b n r) B.pre
  have hown : s.vm.findClass y.cls = some m.cls := findClass_of_methodNamed B.named
  have hl := lv_entry av (n := n) hav
  rw [lg_entry_eq]
  have h5 := body p e s m below meth c _ ⟨B.exec, B.bytes, hml, hown, fun w hw => hts w (List.mem_cons_of_mem _ hw), B.returns, ⟨B.notSynchronized, (name_of_methodNamed B.named B.method).1⟩, hEn⟩ hl hWx va_S.rf
  rw [Nat.sub_self, Nat.sub_self] at h5
  exact h5
end XG
