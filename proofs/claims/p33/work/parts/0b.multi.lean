theorem le_cI {h h1 : Hp} {a0 sp a dp n : Nat} (e : h1 = cpI h a0 sp a dp n) : Le h h1 := by subst e; exact Le.rf _
theorem le_cJ {h h1 : Hp} {a0 sp a dp n : Nat} (e : h1 = cpJ h a0 sp a dp n) : Le h h1 := by subst e; exact Le.rf _
section XL
variable {p : Program} {l : Launch} {e : Env} {R : Room} {s : State} {m : MethodId} {args : Array Value} {below : List Frame} {meth : Method} {c : Code} {H : Heap} {locs : List Loc} {cells slots : Nat} {Q : State → Prop}
variable {cc : ByteArray} {pc : Nat} {ls : Array Slot} {rest : List Value} {X : Ec} {own : String} {nL : Nat} {rt : Option FieldType} {mn : String} {index : Nat}
theorem y_ldcwS {tx : String} {q : Nat} (C : Cx X p s m args meth c own cc nL rt mn) (hZ : vk_R own index tx q s) (hdg : decode cc pc = .ok (.ldc_w index, 3))
    (k : W p l e R s m args below meth c H locs cells slots Q (F0 m (pc + 3) ls (.ref q :: rest))) : W p l e R s m args below meth c H locs cells slots Q (F0 m pc ls rest) := by
  intro T hT Xs
  obtain ⟨t, a1, b1⟩ := k T hT Xs
  refine ⟨t, ?_, b1⟩
  obtain ⟨k1, cf, i, a', hk, hcf, hcp, -, hr, hev'⟩ := Cond.stringRef_spec C.2.2.2.1 hZ.1
  cases hZ.2.symm.trans hev'
  obtain ⟨k', hk', he⟩ := Xs.warmed.alike.2.2 _ _ hk
  have hr' : k'.resolved[index]? = some (some (.string q)) := by
    rcases Xs.warmed.entry hk hk' index with h | ⟨h, -⟩
    · rw [h]; exact hr
    · rw [hr] at h; cases h
  have hexec := C.1
  have hdg' : decode c.code pc = .ok (.ldc_w index, 3) := by rw [C.2.1]; exact hdg
  jvm_step Xs.here [hexec, hdg', ldc_w.wp_string (e := e) (s := T) (f := F0 m pc ls rest) Xs.here.top hk' (by rw [he]; exact hcf) hcp hr']
  exact a1
end XL

-- ===== new int[n][k]
def nM (h : Hp) (n k : Nat) : Hp := ((h.1.1 + 1 + n, h.1.2 + n + n * k), (fun b => if b = h.1.1 then 23 else if h.1.1 < b ∧ b < h.1.1 + 1 + n then 17 else h.2.1 b), (fun b => if b = h.1.1 then n else if h.1.1 < b ∧ b < h.1.1 + 1 + n then k else h.2.2.1 b), (fun b => if h.1.1 ≤ b ∧ b < h.1.1 + 1 + n then (fun _ => 0) else h.2.2.2.1 b), (fun b => if h.1.1 ≤ b ∧ b < h.1.1 + 1 + n then (fun _ => 0) else h.2.2.2.2.1 b), (fun b => if b = h.1.1 then (fun i => if i < n then some (h.1.1 + 1 + i) else none) else if h.1.1 < b ∧ b < h.1.1 + 1 + n then (fun _ => none) else h.2.2.2.2.2 b))
theorem nM_S (h : Hp) (n k : Nat) : hS (nM h n k) = hS h + 1 + n := rfl
theorem nM_L (h : Hp) (n k : Nat) : hL (nM h n k) = hL h + n + n * k := rfl
theorem nM_K (h : Hp) (n k b : Nat) : hK (nM h n k) b = if b = hS h then 23 else if hS h < b ∧ b < hS h + 1 + n then 17 else hK h b := rfl
theorem nM_N (h : Hp) (n k b : Nat) : hN (nM h n k) b = if b = hS h then n else if hS h < b ∧ b < hS h + 1 + n then k else hN h b := rfl
theorem nM_I (h : Hp) (n k b : Nat) : hI (nM h n k) b = if hS h ≤ b ∧ b < hS h + 1 + n then (fun _ => 0) else hI h b := rfl
theorem nM_J (h : Hp) (n k b : Nat) : hJ (nM h n k) b = if hS h ≤ b ∧ b < hS h + 1 + n then (fun _ => 0) else hJ h b := rfl
theorem nM_R (h : Hp) (n k b : Nat) : hR (nM h n k) b = if b = hS h then (fun i => if i < n then some (hS h + 1 + i) else none) else if hS h < b ∧ b < hS h + 1 + n then (fun _ => none) else hR h b := rfl
theorem le_M {h h1 : Hp} {n k : Nat} (e : h1 = nM h n k) : Le h h1 := by subst e; exact ⟨by rw [nM_S]; omega, by rw [nM_L]; omega⟩
theorem outer_eq (c : ClassId) (N h0 : Nat) : ∀ i : Nat, Jvm.Free.Multi.outerC c N h0 i = arrV c N (fun j => va_rf (if j < i then some (h0 + 1 + j) else none))
  | 0 => by
    show ({ cls := c, slots := Array.replicate N .null, vm := .none } : Cell) = _
    rw [arrV_new]
    refine congrArg (arrV c N) (funext fun j => ?_)
    simp [va_rf]
  | i + 1 => by
    show (Jvm.Free.Multi.outerC c N h0 i).setSlot i (.ref (h0 + 1 + i)) = _
    rw [outer_eq c N h0 i, arrV_store]
    refine congrArg (arrV c N) (funext fun j => ?_)
    by_cases e : j = i
    · subst e
      simp [updV, va_rf]
    · by_cases h : j < i
      · simp [updV, e, h, Nat.lt_succ_of_lt h]
      · simp [updV, e, h, show ¬ j < i + 1 by omega]
section XMN
variable {p : Program} {l : Launch} {e : Env} {R : Room} {s : State} {m : MethodId} {args : Array Value} {below : List Frame} {meth : Method} {c : Code} {H : Heap} {locs : List Loc} {cells slots : Nat} {Q : State → Prop}
variable {cc : ByteArray} {pc : Nat} {ls : Array Slot} {rest : List Value} {X : Ec} {h h0 h1 oh : Hp} {own : String} {nL : Nat} {rt : Option FieldType} {mn : String} {index : Nat}
theorem y_mna {n k : Int32} (C : Cx X p s m args meth c own cc nL rt mn) (hW : Wx X h H) (hSS : va_S (aA (eB X)) s.heap H locs) (hkl : Kl h0 h) (hle : Le h1 oh) (hR : R.cells = hS oh - hS h0 ∧ R.slots = hL oh - hL h0) (w1 : Cond.classLink own index ("[" ++ (FieldType.array .int).toString) ∈ W0) (w2 : Cond.arrayClass .int ∈ W0) (hn : ¬ n < 0) (hk : ¬ k < 0) (hb1 : n.toNatClampNeg * 4 ≤ 536870912) (hb2 : k.toNatClampNeg * componentBytes .int ≤ 536870912) (hb3 : k.toNatClampNeg ≤ 536870912) (eh : h1 = nM h n.toNatClampNeg k.toNatClampNeg) (hdg : decode cc pc = .ok (.multianewarray index 2, 4))
    (kk : ∀ (H1 : Heap), Wx X h1 H1 → Kl h h1 → hK h1 (hS h) = 23 → va_S (aA (eB X)) s.heap H1 locs → W p l e R s m args below meth c H1 locs (hS h1 - hS h0) (hL h1 - hL h0) Q (F0 m (pc + 4) ls (.ref (hS h) :: rest))) : W p l e R s m args below meth c H locs (hS h - hS h0) (hL h - hL h0) Q (F0 m pc ls (.int k :: .int n :: rest)) := by
  have ok := C.2.2.2.2.1
  have e1S : hS h1 = hS h + 1 + n.toNatClampNeg := by rw [eh, nM_S]
  have e1L : hL h1 = hL h + n.toNatClampNeg + n.toNatClampNeg * k.toNatClampNeg := by rw [eh, nM_L]
  obtain ⟨k1, k2, k3⟩ := hkl
  obtain ⟨l1, l2⟩ := hle
  have hAO : AOA s := C.2.2.2.2.2.2.2.2.2.2.2.2.2.2.2.1.2
  intro T hT Xs
  obtain ⟨vm₁, cA, comp, -, fA, fC, hO, -, X', step⟩ := Xs.multianewarray2F C.1 C.2.2.2.1 (ok _ w1) (show (Cond.arrayOver (.array .int)).before args s = true from hAO) (ok _ w2) (g := F0 m pc ls (.int k :: .int n :: rest)) rfl (by rw [C.2.1]; exact hdg) rfl hn hk hb1 hb2 hb3 rfl rfl (by rw [hR.1]; omega) (by rw [hR.2]; omega)
  have hcA : cA = X.2.1 23 := Option.some.inj (fA.symm.trans (C.2.2.2.2.2.2.2.1.2 7 _ rfl).2)
  have hcomp : comp = X.2.1 17 := Option.some.inj (fC.symm.trans (C.2.2.2.2.2.2.2.1.2 1 _ rfl).2)
  subst hcA
  subst hcomp
  generalize hF : Jvm.Free.Multi.fill (T.setVm vm₁) (X.2.1 23) (X.2.1 17) n.toNatClampNeg k.toNatClampNeg (defaultValue .int) n.toNatClampNeg = F at X' step
  have hTh : (T.setVm vm₁).heap = H := hT
  obtain ⟨f1, f2, -, -⟩ := Jvm.Free.Multi.fill_facts (T.setVm vm₁) (X.2.1 23) (X.2.1 17) n.toNatClampNeg k.toNatClampNeg (defaultValue .int) n.toNatClampNeg
  rw [hF, hTh] at f1 f2
  have hold : ∀ x : Nat, x < H.size → F.heap[x]? = H[x]? := fun x hx => by
    have := Jvm.Free.Multi.fill_old (T.setVm vm₁) (X.2.1 23) (X.2.1 17) n.toNatClampNeg k.toNatClampNeg (defaultValue .int) (a := x) (by rw [hTh]; exact hx) n.toNatClampNeg
    rw [hF, hTh] at this
    exact this
  have hrow : ∀ j : Nat, j < n.toNatClampNeg → F.heap[H.size + 1 + j]? = some (arrV (X.2.1 17) k.toNatClampNeg (fun _ => .int 0)) := fun j hj => by
    have := Jvm.Free.Multi.fill_inner (T.setVm vm₁) (X.2.1 23) (X.2.1 17) n.toNatClampNeg k.toNatClampNeg (defaultValue .int) n.toNatClampNeg j hj
    rw [hF, hTh] at this
    rw [this]
    show some ({ cls := X.2.1 17, slots := Array.replicate k.toNatClampNeg (.int 0), vm := .none } : Cell) = _
    rw [arrV_new]
  rw [outer_eq] at f2
  have hz : H.size = hS h := hW.1.1
  rw [hz] at f1 f2 hrow
  have hb : ∀ a, hK h a < 24 → a < hS h := fun a ha => (hW.1.2.2.1 a ha).2
  have hWd : Wd X.1 X.2.1 (eB X) (nM h n.toNatClampNeg k.toNatClampNeg) F.heap := by
    obtain ⟨g1, g2, g3, g4⟩ := hW.1
    refine ⟨by rw [f1, nM_S], by rw [nM_S]; omega, fun a ha => ?_, ?_⟩
    · rw [nM_K] at ha
      rw [nM_S]
      by_cases e1 : a = hS h
      · omega
      · rw [if_neg e1] at ha
        by_cases e2 : hS h < a ∧ a < hS h + 1 + n.toNatClampNeg
        · omega
        · rw [if_neg e2] at ha
          have := g3 a ha
          omega
    · intro q x hx
      simp only [wP, List.nil_append, va_pl, List.getElem?_map, nM_S] at hx
      obtain ⟨b, hb', rfl⟩ := Option.map_eq_some_iff.mp hx
      obtain ⟨hq, eb⟩ := List.getElem?_eq_some_iff.mp hb'
      rw [List.getElem_range'] at eb
      rw [List.length_range'] at hq
      by_cases e1 : b = hS h
      · subst e1
        rw [cE_arr (h := nM h n.toNatClampNeg k.toNatClampNeg) (k := 23) (by rw [nM_K, if_pos rfl]) (by omega), aE_R (by omega)]
        show F.heap[hS h]? = some (vp_cell _ _)
        rw [nM_N, if_pos rfl, nM_R, if_pos rfl, vp_cell_q, f2]
      · by_cases e2 : hS h < b ∧ b < hS h + 1 + n.toNatClampNeg
        · rw [cE_arr (h := nM h n.toNatClampNeg k.toNatClampNeg) (k := 17) (by rw [nM_K, if_neg e1, if_pos e2]) (by omega), aE_I (by simp)]
          show F.heap[b]? = some (vp_cell _ _)
          rw [nM_N, if_neg e1, if_pos e2, nM_I, if_pos (by omega), vp_cell_i]
          have h9 := hrow (b - (hS h + 1)) (by omega)
          rw [show hS h + 1 + (b - (hS h + 1)) = b by omega] at h9
          exact h9
        · have hlt : b < hS h := by omega
          have hp : (wP X.2.1 (eB X) h)[q]? = some (b, cE X.2.1 h b) := by
            simp only [wP, List.nil_append, va_pl, List.getElem?_map]
            rw [List.getElem?_eq_getElem (by rw [List.length_range']; omega), List.getElem_range']
            simp only [Option.map_some]
            rw [show eB X + 1 * q = b by omega]
          have h5 := g4 q _ hp
          have hc5 : cE X.2.1 (nM h n.toNatClampNeg k.toNatClampNeg) b = cE X.2.1 h b := cE_ne (by rw [nM_K, if_neg e1, if_neg e2]) (by rw [nM_N, if_neg e1, if_neg e2]) (by rw [nM_I, if_neg (by omega)]) (by rw [nM_J, if_neg (by omega)]) (by rw [nM_R, if_neg e1, if_neg e2])
          show va_at X.1 classes (b, cE X.2.1 (nM h n.toNatClampNeg k.toNatClampNeg) b) F.heap
          rw [hc5]
          exact h5.kept (hold b (by rw [hz]; exact hlt))
  have hWF : WF (nM h n.toNatClampNeg k.toNatClampNeg) := by
    intro a i b ha hr
    rw [nM_K] at ha
    rw [nM_R] at hr
    by_cases e1 : a = hS h
    · rw [if_pos e1] at hr
      by_cases e2 : i < n.toNatClampNeg
      · simp only [if_pos e2] at hr
        cases hr
        rw [nM_K, nM_K, if_pos e1, if_neg (by omega), if_pos (by omega)]
        exact ⟨rfl, by decide⟩
      · simp only [if_neg e2] at hr
        cases hr
    · rw [if_neg e1] at hr ha
      by_cases e2 : hS h < a ∧ a < hS h + 1 + n.toNatClampNeg
      · rw [if_pos e2] at hr; cases hr
      · rw [if_neg e2] at hr ha
        have h5 := hW.2 a i b ha hr
        have h6 := hb b h5.2
        rw [nM_K, nM_K, if_neg e1, if_neg e2, if_neg (by omega), if_neg (by omega)]
        exact h5
  have hKl : Kl h (nM h n.toNatClampNeg k.toNatClampNeg) := ⟨fun a ha => by
    have := hb a ha
    rw [nM_K, if_neg (by omega), if_neg (by omega)], by rw [nM_S]; omega, by rw [nM_L]; omega⟩
  have hK9 := kk F.heap (by rw [eh]; exact ⟨hWd, hWF⟩) (by rw [eh]; exact hKl) (by rw [eh, nM_K, if_pos rfl]) ⟨by rw [f1]; have := hSS.1; omega, fun x h1 h2 => (hold x (Nat.lt_of_lt_of_le h1 hSS.1)).trans (hSS.2.1 x h1 h2), hSS.2.2⟩
  have e8 : hS h - hS h0 + 1 + n.toNatClampNeg = hS h1 - hS h0 := by omega
  have e9 : hL h - hL h0 + n.toNatClampNeg + n.toNatClampNeg * k.toNatClampNeg = hL h1 - hL h0 := by omega
  rw [e8, e9] at X'
  obtain ⟨t, a1, b1⟩ := hK9 F rfl X'
  refine ⟨t, step t ?_, b1⟩
  have e : T.heap.size = hS h := by rw [hT]; exact hz
  rw [e]
  exact a1
end XMN
