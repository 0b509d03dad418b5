-- ===== what is made
def Kl (h h1 : Hp) : Prop := (∀ a, hK h a < 24 → hK h1 a = hK h a) ∧ hS h ≤ hS h1 ∧ hL h ≤ hL h1
theorem Kl.rf (h : Hp) : Kl h h := ⟨fun _ _ => rfl, Nat.le_refl _, Nat.le_refl _⟩
theorem Kl.tr {h h1 h2 : Hp} (a : Kl h h1) (b : Kl h1 h2) : Kl h h2 := ⟨fun x q => (b.1 x (by rw [a.1 x q]; exact q)).trans (a.1 x q), Nat.le_trans a.2.1 b.2.1, Nat.le_trans a.2.2 b.2.2⟩
theorem Kl.at {h h1 : Hp} (a : Kl h h1) {x k : Nat} (q : hK h x = k) (hk : k < 24) : hK h1 x = k := (a.1 x (by omega)).trans q
theorem Km.l {h h1 : Hp} (a : Km h h1) : Kl h h1 := ⟨a.1, by unfold hS; rw [a.2]; exact Nat.le_refl _, by unfold hL; rw [a.2]; exact Nat.le_refl _⟩
def Le (h h1 : Hp) : Prop := hS h ≤ hS h1 ∧ hL h ≤ hL h1
theorem Le.rf (h : Hp) : Le h h := ⟨Nat.le_refl _, Nat.le_refl _⟩
theorem Le.tr {h h1 h2 : Hp} (a : Le h h1) (b : Le h1 h2) : Le h h2 := ⟨Nat.le_trans a.1 b.1, Nat.le_trans a.2 b.2⟩
theorem le_eq {h h1 : Hp} (e : h1.1 = h.1) : Le h h1 := ⟨by unfold hS; rw [e]; exact Nat.le_refl _, by unfold hL; rw [e]; exact Nat.le_refl _⟩
theorem le_I {h h1 : Hp} {a k : Nat} {v : Int32} (e : h1 = wI h a k v) : Le h h1 := by subst e; exact Le.rf _
theorem le_J {h h1 : Hp} {a k : Nat} {v : Int64} (e : h1 = wJ h a k v) : Le h h1 := by subst e; exact Le.rf _
theorem le_R {h h1 : Hp} {a k : Nat} {v : Option Nat} (e : h1 = wR h a k v) : Le h h1 := by subst e; exact Le.rf _
theorem le_C {h h1 : Hp} {k n z : Nat} (e : h1 = nC h k n z) : Le h h1 := by subst e; exact ⟨Nat.le_succ _, Nat.le_add_right _ _⟩
abbrev rmA (fr lo : Nat) (h0 oh : Hp) : Room := { frames := fr, cells := hS oh - hS h0, slots := hL oh - hL h0, locals := lo }
abbrev QIA (X : Ec) (h0 : Hp) (r0 : Int32) (h1 : Hp) : Array Value → State → Outcome → State → Prop := va_Qi (fun (r : Int32) (u : Hp) => r = r0 ∧ u = h1 ∧ Kl h0 h1) (fun u t => Wx X u t.heap) (aA (eB X))
abbrev QVA (X : Ec) (h0 : Hp) (h1 : Hp) : Array Value → State → Outcome → State → Prop := va_Qv (fun (u : Hp) => u = h1 ∧ Kl h0 h1) (fun u t => Wx X u t.heap) (aA (eB X))
abbrev QRA (X : Ec) (kr : Nat) (h0 : Hp) (a0 : Nat) (h1 : Hp) : Array Value → State → Outcome → State → Prop := va_Qr (fun (u : Hp) => u = h1 ∧ Kl h0 h1 ∧ hK h1 a0 = kr) (fun u a t => a = a0 ∧ Wx X u t.heap) (aA (eB X))
abbrev MetIA (l : Launch) (y : MethodName) (b : ByteArray) (n : Nat) (r : Option FieldType) (fr lo : Nat) (X : Ec) (av : List Value) (h : Hp) (o : Int32 × Hp) : Prop := Met l y (wY y b n r) (rmA fr lo h o.2) (va_Pc av (Pq X h)) (QIA X h o.1 o.2) (hS o.2 - hS h) (hL o.2 - hL h) (aA (eB X))
abbrev MetVA (l : Launch) (y : MethodName) (b : ByteArray) (n : Nat) (r : Option FieldType) (fr lo : Nat) (X : Ec) (av : List Value) (h : Hp) (o : Hp) : Prop := Met l y (wY y b n r) (rmA fr lo h o) (va_Pc av (Pq X h)) (QVA X h o) (hS o - hS h) (hL o - hL h) (aA (eB X))
abbrev MetRA (kr : Nat) (l : Launch) (y : MethodName) (b : ByteArray) (n : Nat) (r : Option FieldType) (fr lo : Nat) (X : Ec) (av : List Value) (h : Hp) (o : Nat × Hp) : Prop := Met l y (wY y b n r) (rmA fr lo h o.2) (va_Pc av (Pq X h)) (QRA X kr h o.1 o.2) (hS o.2 - hS h) (hL o.2 - hL h) (aA (eB X))
-- ===== the heap's value with one cell more
theorem nC_S (h : Hp) (k n z : Nat) : hS (nC h k n z) = hS h + 1 := rfl
theorem nC_L (h : Hp) (k n z : Nat) : hL (nC h k n z) = hL h + z := rfl
theorem nC_K (h : Hp) (k n z b : Nat) : hK (nC h k n z) b = if b = hS h then k else hK h b := rfl
theorem nC_N (h : Hp) (k n z b : Nat) : hN (nC h k n z) b = if b = hS h then n else hN h b := rfl
theorem nC_I (h : Hp) (k n z b : Nat) : hI (nC h k n z) b = if b = hS h then (fun _ => 0) else hI h b := rfl
theorem nC_J (h : Hp) (k n z b : Nat) : hJ (nC h k n z) b = if b = hS h then (fun _ => 0) else hJ h b := rfl
theorem nC_R (h : Hp) (k n z b : Nat) : hR (nC h k n z) b = if b = hS h then (fun _ => none) else hR h b := rfl
def dV (t : Nat) : Value := match t with
  | 0 => .int 0
  | 1 => .long 0
  | _ => .null
theorem nC_fv (h : Hp) (k n z t i : Nat) : fv (nC h k n z) (hS h) t i = dV t := by
  match t with
  | 0 => simp [fv, dV, nC_I]
  | 1 => simp [fv, dV, nC_J]
  | t + 2 => simp [fv, dV, nC_R, va_rf]
section XA
variable {p : Program} {l : Launch} {e : Env} {R : Room} {s : State} {m : MethodId} {args : Array Value} {below : List Frame} {meth : Method} {c : Code} {H : Heap} {locs : List Loc} {cells slots : Nat} {Q : State → Prop}
variable {cc : ByteArray} {pc : Nat} {ls : Array Slot} {rest : List Value} {X : Ec} {h h0 h1 oh : Hp} {own host Cn : String} {nL : Nat} {rt : Option FieldType} {mn : String} {T : u_T} {N index a ci k : Nat} {G : va_G} {cy : Nat → ClassId} {base : Nat}
theorem wd_new {z n : Nat} {H1 : Heap} (hW : Wd G cy base h H) (hsz : H1.size = H.size + 1) (o1 : ∀ q, q < H.size → H1[q]? = H[q]?) (hat : va_at G classes (hS h, cE cy (nC h k n z) (hS h)) H1) : Wd G cy base (nC h k n z) H1 := by
  obtain ⟨h1, h2, h3, h4⟩ := hW
  refine ⟨by rw [hsz, h1, nC_S], by rw [nC_S]; omega, fun a ha => ?_, ?_⟩
  · rw [nC_K] at ha
    rw [nC_S]
    by_cases e1 : a = hS h
    · omega
    · rw [if_neg e1] at ha
      have := h3 a ha
      omega
  · have hne : ∀ b, b < hS h → cE cy (nC h k n z) b = cE cy h b := fun b hb => by
      have : ¬ b = hS h := by omega
      exact cE_ne (by rw [nC_K, if_neg this]) (by rw [nC_N, if_neg this]) (by rw [nC_I, if_neg this]) (by rw [nC_J, if_neg this]) (by rw [nC_R, if_neg this])
    intro q x hx
    simp only [wP, List.nil_append, va_pl, List.getElem?_map, nC_S] at hx
    obtain ⟨b, hb, rfl⟩ := Option.map_eq_some_iff.mp hx
    obtain ⟨hq, eb⟩ := List.getElem?_eq_some_iff.mp hb
    rw [List.getElem_range'] at eb
    rw [List.length_range'] at hq
    by_cases e1 : b = hS h
    · subst e1
      exact hat
    · have hlt : b < hS h := by omega
      have hp : (wP cy base h)[q]? = some (b, cE cy h b) := by
        simp only [wP, List.nil_append, va_pl, List.getElem?_map]
        rw [List.getElem?_eq_getElem (by rw [List.length_range']; omega), List.getElem_range']
        simp only [Option.map_some]
        rw [show base + 1 * q = b by omega]
      have h5 := h4 q _ hp
      show va_at G classes (b, cE cy (nC h k n z) b) H1
      rw [hne b hlt]
      exact h5.kept (o1 b (by rw [h1]; exact hlt))
theorem WF_C {z n : Nat} (hw : WF h) (hb : ∀ a, hK h a < 24 → a < hS h) : WF (nC h k n z) := by
  intro a i b ha hr
  rw [nC_K] at ha
  rw [nC_R] at hr
  by_cases e1 : a = hS h
  · rw [if_pos e1] at hr; cases hr
  · rw [if_neg e1] at hr ha
    have h5 := hw a i b ha hr
    have h6 := hb b h5.2
    have e2 : ¬ b = hS h := by omega
    rw [nC_K, nC_K, if_neg e1, if_neg e2]
    exact h5
theorem kl_C {z n : Nat} (hb : ∀ a, hK h a < 24 → a < hS h) : Kl h (nC h k n z) := ⟨fun a ha => by
  have := hb a ha
  rw [nC_K, if_neg (by omega)], by rw [nC_S]; omega, by rw [nC_L]; omega⟩
theorem x_wc (km : Km h h1) (kk : W p l e R s m args below meth c H locs (hS h1 - hS h0) (hL h1 - hL h0) Q (F0 m pc ls rest)) : W p l e R s m args below meth c H locs (hS h - hS h0) (hL h - hL h0) Q (F0 m pc ls rest) := by
  have e1 : hS h1 = hS h := by unfold hS; rw [km.2]
  have e2 : hL h1 = hL h := by unfold hL; rw [km.2]
  rw [e1, e2] at kk
  exact kk
theorem x_wl {k n : Nat} (e1 : hS h - hS h0 + k = hS h1 - hS h0) (e2 : hL h - hL h0 + n = hL h1 - hL h0) (kk : W p l e R s m args below meth c H locs (hS h1 - hS h0) (hL h1 - hL h0) Q (F0 m pc ls rest)) : W p l e R s m args below meth c H locs (hS h - hS h0 + k) (hL h - hL h0 + n) Q (F0 m pc ls rest) := by
  rw [e1, e2]; exact kk
/-- a new object -/
theorem y_new (C : Cx X p s m args meth c own cc nL rt mn) (hW : Wx X h H) (hSS : va_S (aA (eB X)) s.heap H locs) (hkl : Kl h0 h) (hle : Le h1 oh) (hR : R.cells = hS oh - hS h0 ∧ R.slots = hL oh - hL h0) (hin : ∀ w ∈ u_ws Cn T N, w ∈ W0) (ty0 : Nat → FieldType) (hty : ∀ k, k < N → parseFieldDescriptor (T k).2.2.1 = some (ty0 k)) (hci : ci < 16) (hc : classes[ci]? = some (Cn, T, N)) (hN : (tl ci).length = N) (hd : ∀ j, j < N → defaultValue (ty0 j) = dV ((tl ci).getD j 2))
    (w1 : Cond.classLink own index Cn ∈ W0) (w2 : Cond.instantiable Cn N ∈ W0) (w3 : Cond.initialized Cn ∈ W0) (eh : h1 = nC h ci 0 N) (hdg : decode cc pc = .ok (.new index, 3))
    (kk : ∀ (H1 : Heap), Wx X h1 H1 → Kl h h1 → hK h1 (hS h) = ci → va_S (aA (eB X)) s.heap H1 locs → W p l e R s m args below meth c H1 locs (hS h1 - hS h0) (hL h1 - hL h0) Q (F0 m (pc + 3) ls (.ref (hS h) :: rest))) : W p l e R s m args below meth c H locs (hS h - hS h0) (hL h - hL h0) Q (F0 m pc ls rest) := by
  have ok := C.2.2.2.2.1
  have hKn := C.2.2.2.2.2.2.2.1.1 ci _ hc
  have e1S : hS h1 = hS h + 1 := by rw [eh, nC_S]
  have e1L : hL h1 = hL h + N := by rw [eh, nC_L]
  obtain ⟨k1, k2, k3⟩ := hkl
  obtain ⟨l1, l2⟩ := hle
  refine W.newcK C.1 C.2.1 C.2.2.2.1 (ok _ w1) (ok _ w2) (ok _ w3) rfl hdg (by rw [hR.1]; omega) (by rw [hR.2]; omega) hKn.2.1 hW.1.1 fun H1 kC hkC e1 z1 o1 => ?_
  have o2 : ∀ q, q < H.size → H1[q]? = H[q]? := fun q hq => o1 q (by rw [← hW.1.1]; exact hq)
  have hb : ∀ a, hK h a < 24 → a < hS h := fun a ha => (hW.1.2.2.1 a ha).2
  have hat : va_at X.1 classes (hS h, cE X.2.1 (nC h ci 0 N) (hS h)) H1 := by
    rw [cE_obj (h := nC h ci 0 N) (ci := ci) (by rw [nC_K, if_pos rfl]) hci]
    refine ⟨_, hc, (u_born ty0 ok hin hKn hkC e1 hty).to (fun j hj => ?_)⟩
    rw [hd j hj]
    have h5 : j < (tl ci).length := by rw [hN]; exact hj
    simp only [vp_V, List.getD_eq_getElem?_getD, fl_get, List.getElem?_eq_getElem h5, Option.map_some, Option.getD_some, nC_fv]
  have hWd := wd_new (G := X.1) (cy := X.2.1) (base := eB X) (k := ci) (n := 0) (z := N) hW.1 (by rw [z1, hW.1.1]) o2 hat
  refine x_wl (h1 := h1) (k := 1) (n := N) (by omega) (by omega) ?_
  refine kk H1 (by rw [eh]; exact ⟨hWd, WF_C hW.2 hb⟩) (by rw [eh]; exact kl_C hb) (by rw [eh, nC_K, if_pos rfl]) ⟨Nat.le_trans hSS.1 (by rw [z1, hW.1.1]; omega), fun x h1 h2 => (o2 x (Nat.lt_of_lt_of_le h1 hSS.1)).trans (hSS.2.1 x h1 h2), hSS.2.2⟩
theorem cy_eq {s : State} (hKK : va_K X.1 classes (tys X.2.1) s) {k t0 : Nat} {ty : FieldType} (ht : (tys X.2.1)[t0]? = some (X.2.1 k, ty)) {cA : ClassId} (hno : ∀ C, ty ≠ .object C) (hf : s.vm.findClass ("[" ++ ty.toString) = some cA) : cA = X.2.1 k := by
  have h5 := (hKK.2 t0 _ ht).2
  unfold va_RA at h5
  cases ty <;> first | exact absurd rfl (hno _) | exact Option.some.inj (hf.symm.trans h5)
/-- a new array of numbers -/
theorem y_newa {n : Int32} {atype : ArrayType} {ty : FieldType} {t0 : Nat} (C : Cx X p s m args meth c own cc nL rt mn) (hW : Wx X h H) (hSS : va_S (aA (eB X)) s.heap H locs) (hkl : Kl h0 h) (hle : Le h1 oh) (hR : R.cells = hS oh - hS h0 ∧ R.slots = hL oh - hL h0) (hk1 : 16 ≤ k) (hk2 : k < 20) (htA : newarray.typeOf atype = ty) (ht : (tys X.2.1)[t0]? = some (X.2.1 k, ty)) (hno : ∀ C, ty ≠ .object C) (hdef : ∀ (cA : ClassId), vp_cell cA (n.toNatClampNeg, aE (nC h k n.toNatClampNeg n.toNatClampNeg) k (hS h)) = arrV cA n.toNatClampNeg (fun _ => defaultValue ty)) (w1 : Cond.arrayClass ty ∈ W0) (hn : ¬ n < 0) (hbytes : n.toNatClampNeg * componentBytes ty ≤ 536870912) (eh : h1 = nC h k n.toNatClampNeg n.toNatClampNeg) (hdg : decode cc pc = .ok (.newarray atype, 2))
    (kk : ∀ (H1 : Heap), Wx X h1 H1 → Kl h h1 → hK h1 (hS h) = k → va_S (aA (eB X)) s.heap H1 locs → W p l e R s m args below meth c H1 locs (hS h1 - hS h0) (hL h1 - hL h0) Q (F0 m (pc + 2) ls (.ref (hS h) :: rest))) : W p l e R s m args below meth c H locs (hS h - hS h0) (hL h - hL h0) Q (F0 m pc ls (.int n :: rest)) := by
  subst htA
  have ok := C.2.2.2.2.1
  have e1S : hS h1 = hS h + 1 := by rw [eh, nC_S]
  have e1L : hL h1 = hL h + n.toNatClampNeg := by rw [eh, nC_L]
  obtain ⟨k1, k2, k3⟩ := hkl
  obtain ⟨l1, l2⟩ := hle
  refine va_newaK C.1 C.2.1 (ok _ w1) rfl hdg rfl hn rfl hbytes (by rw [hR.1]; omega) (by rw [hR.2]; omega) hW.1.1 fun H1 cA e1 z1 o1 hAr hNm => ?_
  have hcA := cy_eq C.2.2.2.2.2.2.2.1 ht hno hNm
  subst hcA
  have o2 : ∀ q, q < H.size → H1[q]? = H[q]? := fun q hq => o1 q (by rw [← hW.1.1]; exact hq)
  have hb : ∀ a, hK h a < 24 → a < hS h := fun a ha => (hW.1.2.2.1 a ha).2
  have hat : va_at X.1 classes (hS h, cE X.2.1 (nC h k n.toNatClampNeg n.toNatClampNeg) (hS h)) H1 := by
    rw [cE_arr (h := nC h k n.toNatClampNeg n.toNatClampNeg) (k := k) (by rw [nC_K, if_pos rfl]) hk1]
    show H1[hS h]? = some (vp_cell _ _)
    rw [nC_N, if_pos rfl, hdef, e1]
  have hWd := wd_new (G := X.1) (cy := X.2.1) (base := eB X) (k := k) (n := n.toNatClampNeg) (z := n.toNatClampNeg) hW.1 (by rw [z1, hW.1.1]) o2 hat
  refine x_wl (h1 := h1) (k := 1) (n := n.toNatClampNeg) (by omega) (by omega) ?_
  refine kk H1 (by rw [eh]; exact ⟨hWd, WF_C hW.2 hb⟩) (by rw [eh]; exact kl_C hb) (by rw [eh, nC_K, if_pos rfl]) ⟨Nat.le_trans hSS.1 (by rw [z1, hW.1.1]; omega), fun x h1 h2 => (o2 x (Nat.lt_of_lt_of_le h1 hSS.1)).trans (hSS.2.1 x h1 h2), hSS.2.2⟩
/-- a new array of references -/
theorem y_newq {n : Int32} {t0 : Nat} (C : Cx X p s m args meth c own cc nL rt mn) (hW : Wx X h H) (hSS : va_S (aA (eB X)) s.heap H locs) (hkl : Kl h0 h) (hle : Le h1 oh) (hR : R.cells = hS oh - hS h0 ∧ R.slots = hL oh - hL h0) (hk1 : 20 ≤ k) (hk2 : k < 23) (ht : (tys X.2.1)[t0]? = some (X.2.1 k, .object Cn)) (w1 : Cond.classLink own index Cn ∈ W0) (hao : va_AO Cn s) (hn : ¬ n < 0) (hbytes : n.toNatClampNeg * 4 ≤ 536870912) (eh : h1 = nC h k n.toNatClampNeg n.toNatClampNeg) (hdg : decode cc pc = .ok (.anewarray index, 3))
    (kk : ∀ (H1 : Heap), Wx X h1 H1 → Kl h h1 → hK h1 (hS h) = k → va_S (aA (eB X)) s.heap H1 locs → W p l e R s m args below meth c H1 locs (hS h1 - hS h0) (hL h1 - hL h0) Q (F0 m (pc + 3) ls (.ref (hS h) :: rest))) : W p l e R s m args below meth c H locs (hS h - hS h0) (hL h - hL h0) Q (F0 m pc ls (.int n :: rest)) := by
  have ok := C.2.2.2.2.1
  have e1S : hS h1 = hS h + 1 := by rw [eh, nC_S]
  have e1L : hL h1 = hL h + n.toNatClampNeg := by rw [eh, nC_L]
  obtain ⟨k1, k2, k3⟩ := hkl
  obtain ⟨l1, l2⟩ := hle
  refine W.anew C.1 C.2.1 C.2.2.2.1 (ok _ w1) (va_AO.use hao) rfl hdg rfl hn hbytes (by rw [hR.1]; omega) (by rw [hR.2]; omega) fun cA kA comp f1 f2 f3 f4 => ?_
  generalize hH1 : H.push ({ cls := cA, slots := Array.replicate n.toNatClampNeg .null, vm := .none } : Cell) = H1
  have z1 : H1.size = H.size + 1 := by rw [← hH1, Array.size_push]
  have e1 : H1[H.size]? = some (arrV cA n.toNatClampNeg (fun _ => .null)) := by rw [← hH1, Array.getElem?_push_size, ← arrV_new]
  have o2 : ∀ q : Nat, q < H.size → H1[q]? = H[q]? := fun q hq => by rw [← hH1, Array.getElem?_push, if_neg (Nat.ne_of_lt hq)]
  obtain ⟨kA', comp', g1, g2, g3, g4⟩ := (C.2.2.2.2.2.2.2.1.2 t0 _ ht).2
  have hcA : cA = X.2.1 k := Option.some.inj (f1.symm.trans g4)
  subst hcA
  have hb : ∀ a, hK h a < 24 → a < hS h := fun a ha => (hW.1.2.2.1 a ha).2
  have hat : va_at X.1 classes (hS h, cE X.2.1 (nC h k n.toNatClampNeg n.toNatClampNeg) (hS h)) H1 := by
    rw [cE_arr (h := nC h k n.toNatClampNeg n.toNatClampNeg) (k := k) (by rw [nC_K, if_pos rfl]) (by omega), aE_R hk1]
    show H1[hS h]? = some (vp_cell _ _)
    rw [nC_N, if_pos rfl, nC_R, if_pos rfl, vp_cell_q, ← hW.1.1, e1]
    rfl
  have hWd := wd_new (G := X.1) (cy := X.2.1) (base := eB X) (k := k) (n := n.toNatClampNeg) (z := n.toNatClampNeg) hW.1 z1 o2 hat
  refine x_wl (h1 := h1) (k := 1) (n := n.toNatClampNeg) (by omega) (by omega) ?_
  rw [hW.1.1]
  refine kk H1 (by rw [eh]; exact ⟨hWd, WF_C hW.2 hb⟩) (by rw [eh]; exact kl_C hb) (by rw [eh, nC_K, if_pos rfl]) ⟨Nat.le_trans hSS.1 (by rw [z1]; omega), fun x h1 h2 => (o2 x (Nat.lt_of_lt_of_le h1 hSS.1)).trans (hSS.2.1 x h1 h2), hSS.2.2⟩
-- ===== ends
theorem x_iretA {r0 v : Int32} (C : Cx X p s m args meth c own cc nL rt mn) {ty : FieldType} (hrt : rt = some ty) (hn : narrow ty (.int v) = .int v) (hW : Wx X h H) (hS' : va_S (aA (eB X)) s.heap H locs) (hkl : Kl h0 h) (hE : some (v, h) = some (r0, h1)) (hdg : decode cc pc = .ok (.ireturn, 1)) :
    W p l e R s m args below meth c H locs (hS h - hS h0) (hL h - hL h0) (MQ below (QIA X h0 r0 h1) args s (hS h1 - hS h0) (hL h1 - hL h0) (aA (eB X))) (F0 m pc ls [.int v]) := by
  cases hE
  exact W.zret (hlocks := C.2.2.2.2.2.2.1.1) C.1 C.2.1 (C.2.2.2.2.2.1.trans hrt) hn (fun t ht hWm => ⟨⟨_, h, rfl, ⟨rfl, rfl, hkl⟩, by show Wx X h t.heap; rw [ht]; exact hW⟩, hS'.F ht⟩) hS'.2.2 hdg
theorem x_vretA (C : Cx X p s m args meth c own cc nL rt mn) (hrt : rt = none) (hW : Wx X h H) (hS' : va_S (aA (eB X)) s.heap H locs) (hkl : Kl h0 h) (hE : some h = some h1) (hdg : decode cc pc = .ok (.return_, 1)) :
    W p l e R s m args below meth c H locs (hS h - hS h0) (hL h - hL h0) (MQ below (QVA X h0 h1) args s (hS h1 - hS h0) (hL h1 - hL h0) (aA (eB X))) (F0 m pc ls []) := by
  cases hE
  exact W.vret (hlocks := C.2.2.2.2.2.2.1.1) C.1 C.2.1 (C.2.2.2.2.2.1.trans hrt) (fun t ht hWm => ⟨⟨h, rfl, ⟨rfl, hkl⟩, by show Wx X h t.heap; rw [ht]; exact hW⟩, hS'.F ht⟩) hS'.2.2 hdg
theorem x_aretA {r0 v : Nat} (C : Cx X p s m args meth c own cc nL rt mn) {ty : FieldType} (hrt : rt = some ty) (hrt2 : (∃ n, ty = .object n) ∨ ∃ t, ty = .array t) (hW : Wx X h H) (hS' : va_S (aA (eB X)) s.heap H locs) (hkl : Kl h0 h) {kr : Nat} (hkr : hK h v = kr) (hE : some (v, h) = some (r0, h1)) (hdg : decode cc pc = .ok (.areturn, 1)) :
    W p l e R s m args below meth c H locs (hS h - hS h0) (hL h - hL h0) (MQ below (QRA X kr h0 r0 h1) args s (hS h1 - hS h0) (hL h1 - hL h0) (aA (eB X))) (F0 m pc ls [.ref v]) := by
  cases hE
  exact W.aret (hlocks := C.2.2.2.2.2.2.1.1) C.1 C.2.1 (C.2.2.2.2.2.1.trans hrt) hrt2 (Or.inr ⟨_, rfl⟩) (fun t ht hWm => ⟨⟨h, _, rfl, ⟨rfl, hkl, hkr⟩, rfl, by show Wx X h t.heap; rw [ht]; exact hW⟩, hS'.F ht⟩) hS'.2.2 hdg
end XA
