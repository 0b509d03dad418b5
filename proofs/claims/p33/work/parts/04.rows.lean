section XR
variable {p : Program} {l : Launch} {e : Env} {R : Room} {s : State} {m : MethodId} {args : Array Value} {below : List Frame} {meth : Method} {c : Code} {H H0 : Heap} {locs : List Loc} {cells slots : Nat} {Q : State → Prop}
variable {cc : ByteArray} {pc : Nat} {ls : Array Slot} {rest : List Value} {G : va_G} {cy : Nat → ClassId} {base : Nat} {h h' : Hp} {a ci k : Nat} {own C host : String} {T : u_T} {N index : Nat} {Ts : List Cond}
theorem wd_at (hW : Wd G cy base h H) (hk : hK h a < 24) : ∃ q : Nat, (wP cy base h)[q]? = some (a, cE cy h a) :=
  va_pl_get (X := []) (f := cE cy h) (pL_mem (hW.2.2.1 a hk).1 (hW.2.2.1 a hk).2)
-- ===== reading a field
theorem x_get (hexec : p.tables.exec = Jvm.exec) (hb : c.code = cc) (hts : ∀ w ∈ Ts, w.before args s = true) (hin : ∀ w ∈ u_ws C T N, w ∈ Ts) (hown : s.vm.findClass own = some m.cls) (hKK : va_K G classes (tys cy) s) (hW : Wd G cy base h H) (ha : hK h a = ci) (hci : ci < 16) (hc : classes[ci]? = some (C, T, N)) (hk : k < N)
    (hlink : (Cond.fieldLink own index (T k).1 (T k).2.1 (T k).2.2.1).before args s = true) {t : Nat} (ht : (tl ci)[k]? = some t) {v : Value} (hv : fv h a t k = v) (hdg : decode cc pc = .ok (.getfield index, 3))
    (kk : W p l e R s m args below meth c H locs cells slots Q (F0 m (pc + 3) ls (v :: rest))) : W p l e R s m args below meth c H locs cells slots Q (F0 m pc ls (.ref a :: rest)) := by
  obtain ⟨q, hq⟩ := wd_at hW (show hK h a < 24 by omega)
  rw [cE_obj ha hci] at hq
  exact va_get (D := G) (cl := classes) (tys := tys cy) hexec hb hts hin hown hKK hW.2.2.2 q hq hc k hk hlink (fun _ h9 => h9) (by rw [fl_get, ht]; simp [hv]) hdg kk
theorem x_getN (hexec : p.tables.exec = Jvm.exec) (hb : c.code = cc) (hts : ∀ w ∈ Ts, w.before args s = true) (hin : ∀ w ∈ u_ws C T N, w ∈ Ts) (hown : s.vm.findClass own = some m.cls) (hKK : va_K G classes (tys cy) s) (hW : Wd G cy base h H) (ha : hK h a = ci) (hci : ci < 16) (hc : classes[ci]? = some (C, T, N)) (hk : k < N)
    (hlink : (Cond.fieldLinkNest own index (T k).1 (T k).2.1 (T k).2.2.1 host).before args s = true) {t : Nat} (ht : (tl ci)[k]? = some t) {v : Value} (hv : fv h a t k = v) (hdg : decode cc pc = .ok (.getfield index, 3))
    (kk : W p l e R s m args below meth c H locs cells slots Q (F0 m (pc + 3) ls (v :: rest))) : W p l e R s m args below meth c H locs cells slots Q (F0 m pc ls (.ref a :: rest)) := by
  obtain ⟨q, hq⟩ := wd_at hW (show hK h a < 24 by omega)
  rw [cE_obj ha hci] at hq
  exact va_getN (D := G) (cl := classes) (tys := tys cy) hexec hb hts hin hown hKK hW.2.2.2 q hq hc k hk hlink (fun _ h9 => h9) (by rw [fl_get, ht]; simp [hv]) hdg kk
-- ===== writing a field
/-- what a written slot makes of the heap -/
def stp (cy : Nat → ClassId) (h h' : Hp) (a k ci : Nat) (v : Value) : Prop := hS h' = hS h ∧ hK h' = hK h ∧ cE cy h' a = .inr (ci, (fl h a 0 (tl ci)).set k v) ∧ ∀ b, b ≠ a → cE cy h' b = cE cy h b
theorem stp_I (ha : hK h a = ci) (hci : ci < 16) (ht : (tl ci)[k]? = some 0) (x : Int32) : stp cy h (wI h a k x) a k ci (.int x) := by
  refine ⟨rfl, rfl, ?_, fun b hb => ?_⟩
  · rw [cE_obj (h := wI h a k x) (by rw [wI_K]; exact ha) hci]
    refine congrArg (fun z => Sum.inr (ci, z)) (fl_set _ 0 k _ (fun j t hj => ?_)).symm
    by_cases e : j = k
    · subst e
      rw [ht] at hj; cases hj
      simp [fv, wI_I, upd]
    · rw [if_neg e]
      match t with
      | 0 => simp [fv, wI_I, upd, e]
      | 1 => simp [fv, wI_J]
      | t + 2 => simp [fv, wI_R]
  · unfold cE
    have : ∀ z, fv (wI h a k x) b z = fv h b z := fun z => by
      match z with
      | 0 => funext i; simp [fv, wI_I, hb]
      | 1 => rfl
      | z + 2 => rfl
    have hfl : fl (wI h a k x) b 0 (tl (hK h b)) = fl h b 0 (tl (hK h b)) := fl_congr _ 0 (fun j t _ => by rw [this])
    have hae : aE (wI h a k x) (hK h b) b = aE h (hK h b) b := by simp [aE, wI_J, wI_R, wI_I, hb]
    rw [wI_K, wI_N, hfl, hae]
theorem stp_J (ha : hK h a = ci) (hci : ci < 16) (ht : (tl ci)[k]? = some 1) (x : Int64) : stp cy h (wJ h a k x) a k ci (.long x) := by
  refine ⟨rfl, rfl, ?_, fun b hb => ?_⟩
  · rw [cE_obj (h := wJ h a k x) (by rw [wJ_K]; exact ha) hci]
    refine congrArg (fun z => Sum.inr (ci, z)) (fl_set _ 0 k _ (fun j t hj => ?_)).symm
    by_cases e : j = k
    · subst e
      rw [ht] at hj; cases hj
      simp [fv, wJ_J, vp_updL]
    · rw [if_neg e]
      match t with
      | 0 => simp [fv, wJ_I]
      | 1 => simp [fv, wJ_J, vp_updL, e]
      | t + 2 => simp [fv, wJ_R]
  · unfold cE
    have : ∀ z, fv (wJ h a k x) b z = fv h b z := fun z => by
      match z with
      | 0 => rfl
      | 1 => funext i; simp [fv, wJ_J, hb]
      | z + 2 => rfl
    have hfl : fl (wJ h a k x) b 0 (tl (hK h b)) = fl h b 0 (tl (hK h b)) := fl_congr _ 0 (fun j t _ => by rw [this])
    have hae : aE (wJ h a k x) (hK h b) b = aE h (hK h b) b := by simp [aE, wJ_J, wJ_R, wJ_I, hb]
    rw [wJ_K, wJ_N, hfl, hae]
theorem stp_R (ha : hK h a = ci) (hci : ci < 16) (ht : (tl ci)[k]? = some 2) (x : Option Nat) : stp cy h (wR h a k x) a k ci (va_rf x) := by
  refine ⟨rfl, rfl, ?_, fun b hb => ?_⟩
  · rw [cE_obj (h := wR h a k x) (by rw [wR_K]; exact ha) hci]
    refine congrArg (fun z => Sum.inr (ci, z)) (fl_set _ 0 k _ (fun j t hj => ?_)).symm
    by_cases e : j = k
    · subst e
      rw [ht] at hj; cases hj
      simp [fv, wR_R, va_up]
    · rw [if_neg e]
      match t with
      | 0 => simp [fv, wR_I]
      | 1 => simp [fv, wR_J]
      | t + 2 => simp [fv, wR_R, va_up, e]
  · unfold cE
    have : ∀ z, fv (wR h a k x) b z = fv h b z := fun z => by
      match z with
      | 0 => rfl
      | 1 => rfl
      | z + 2 => funext i; simp [fv, wR_R, hb]
    have hfl : fl (wR h a k x) b 0 (tl (hK h b)) = fl h b 0 (tl (hK h b)) := fl_congr _ 0 (fun j t _ => by rw [this])
    have hae : aE (wR h a k x) (hK h b) b = aE h (hK h b) b := by simp [aE, wR_J, wR_R, wR_I, hb]
    rw [wR_K, wR_N, hfl, hae]
theorem x_put (hexec : p.tables.exec = Jvm.exec) (hb : c.code = cc) (hts : ∀ w ∈ Ts, w.before args s = true) (hin : ∀ w ∈ u_ws C T N, w ∈ Ts) (ty0 : Nat → FieldType) (hty : ∀ k, k < N → parseFieldDescriptor (T k).2.2.1 = some (ty0 k)) (hnm : ∀ a, a < N → ∀ b, b < N → a ≠ b → (T a).2.1 ≠ (T b).2.1) (hown : s.vm.findClass own = some m.cls) (hKK : va_K G classes (tys cy) s) (hW : Wd G cy base h H) (hS0 : va_S (aA base) H0 H locs) (ha : hK h a = ci) (hci : ci < 16) (hc : classes[ci]? = some (C, T, N)) (hN : (tl ci).length = N) (hk : k < N)
    (hlink : (Cond.fieldLink own index (T k).1 (T k).2.1 (T k).2.2.1).before args s = true) (hfin : (T k).2.2.2 = false) {ty : FieldType} {v : Value} (hd : parseFieldDescriptor (T k).2.2.1 = some ty) (hn : narrow ty v = v) (hfit : fits ty v = true) (hst' : stp cy h h' a k ci v) (hdg : decode cc pc = .ok (.putfield index, 3))
    (kk : ∀ (H1 : Heap) (locs1 : List Loc), Wd G cy base h' H1 → va_S (aA base) H0 H1 locs1 → W p l e R s m args below meth c H1 locs1 cells slots Q (F0 m (pc + 3) ls rest)) : W p l e R s m args below meth c H locs cells slots Q (F0 m pc ls (v :: .ref a :: rest)) := by
  have hA := hW.2.2.1 a (by omega)
  obtain ⟨q0, he0⟩ := wd_at hW (show hK h a < 24 by omega)
  have he := he0
  rw [cE_obj ha hci] at he
  have hl : k < (fl h a 0 (tl ci)).length := by rw [fl_len, hN]; exact hk
  have hap := va_apart (own := own) hts hin ty0 hty hnm hKK hc
  have hD := pL_D base (hS h) (cE cy h)
  have hP := hW.2.2.2
  obtain ⟨r, h1, cell, q1, q2, q3, q4⟩ := hP q0 _ he
  have hr : r = (C, T, N) := Option.some.inj (h1.symm.trans hc)
  subst hr
  obtain ⟨hSl, hfc, kC, hkC, hkind⟩ := hKK.1 ci _ hc
  obtain ⟨cf, kf, fi, f, hi, hsl⟩ := hSl k hk
  have hlay := hts _ (hin _ (u_in_lay hk))
  unfold u_lay at hlay
  rw [if_neg (by rw [hfin]; decide)] at hlay
  have hst := (u_facts hfc hkC (u_lays hts hin hk) hi).1
  have h6 := u_store hfc hkC hkind hlay hi hd hn hfit
  refine W.putK hexec hb (f := f) ⟨hown, hlink, ⟨_, _, _, hi⟩, hst⟩ (by rw [q2]; exact h6) q1 q3 (by rw [hsl]; exact k2_hasslot (q4 k hk)) rfl rfl hdg fun H' e1 e2 e3 => ?_
  rw [hsl] at e1 ⊢
  have hPs := va_P.set (e := .inr (ci, (fl h a 0 (tl ci)).set k v)) hP hD he0 ⟨_, hc, t_OB.to (V := updV (vp_V (fl h a 0 (tl ci))) k v) ⟨_, e1, q2, q3, t_set q4 hap hk v⟩ (fun j _ => vp_updV_set hl v j)⟩ e3
  exact kk H' _ (wd_up hW he0 hA.1 hA.2 hst'.1 hst'.2.1 hst'.2.2.1 hst'.2.2.2 e2 hPs) (hS0.put e2 e3 hA.1)
theorem x_putN (hexec : p.tables.exec = Jvm.exec) (hb : c.code = cc) (hts : ∀ w ∈ Ts, w.before args s = true) (hin : ∀ w ∈ u_ws C T N, w ∈ Ts) (ty0 : Nat → FieldType) (hty : ∀ k, k < N → parseFieldDescriptor (T k).2.2.1 = some (ty0 k)) (hnm : ∀ a, a < N → ∀ b, b < N → a ≠ b → (T a).2.1 ≠ (T b).2.1) (hown : s.vm.findClass own = some m.cls) (hKK : va_K G classes (tys cy) s) (hW : Wd G cy base h H) (hS0 : va_S (aA base) H0 H locs) (ha : hK h a = ci) (hci : ci < 16) (hc : classes[ci]? = some (C, T, N)) (hN : (tl ci).length = N) (hk : k < N)
    (hlink : (Cond.fieldLinkNest own index (T k).1 (T k).2.1 (T k).2.2.1 host).before args s = true) (hfin : (T k).2.2.2 = false) {ty : FieldType} {v : Value} (hd : parseFieldDescriptor (T k).2.2.1 = some ty) (hn : narrow ty v = v) (hfit : fits ty v = true) (hst' : stp cy h h' a k ci v) (hdg : decode cc pc = .ok (.putfield index, 3))
    (kk : ∀ (H1 : Heap) (locs1 : List Loc), Wd G cy base h' H1 → va_S (aA base) H0 H1 locs1 → W p l e R s m args below meth c H1 locs1 cells slots Q (F0 m (pc + 3) ls rest)) : W p l e R s m args below meth c H locs cells slots Q (F0 m pc ls (v :: .ref a :: rest)) := by
  have hA := hW.2.2.1 a (by omega)
  obtain ⟨q0, he0⟩ := wd_at hW (show hK h a < 24 by omega)
  have he := he0
  rw [cE_obj ha hci] at he
  have hl : k < (fl h a 0 (tl ci)).length := by rw [fl_len, hN]; exact hk
  have hap := va_apart (own := own) hts hin ty0 hty hnm hKK hc
  have hD := pL_D base (hS h) (cE cy h)
  have hP := hW.2.2.2
  obtain ⟨r, h1, cell, q1, q2, q3, q4⟩ := hP q0 _ he
  have hr : r = (C, T, N) := Option.some.inj (h1.symm.trans hc)
  subst hr
  obtain ⟨hSl, hfc, kC, hkC, hkind⟩ := hKK.1 ci _ hc
  obtain ⟨cf, kf, fi, f, hi, hsl⟩ := hSl k hk
  have hlay := hts _ (hin _ (u_in_lay hk))
  unfold u_lay at hlay
  rw [if_neg (by rw [hfin]; decide)] at hlay
  have hst := (u_facts hfc hkC (u_lays hts hin hk) hi).1
  have h6 := u_store hfc hkC hkind hlay hi hd hn hfit
  refine va_WputK hexec hb (f := f) hown hlink hi hst (by rw [q2]; exact h6) q1 q3 (by rw [hsl]; exact k2_hasslot (q4 k hk)) rfl rfl hdg fun H' e1 e2 e3 => ?_
  rw [hsl] at e1 ⊢
  have hPs := va_P.set (e := .inr (ci, (fl h a 0 (tl ci)).set k v)) hP hD he0 ⟨_, hc, t_OB.to (V := updV (vp_V (fl h a 0 (tl ci))) k v) ⟨_, e1, q2, q3, t_set q4 hap hk v⟩ (fun j _ => vp_updV_set hl v j)⟩ e3
  exact kk H' _ (wd_up hW he0 hA.1 hA.2 hst'.1 hst'.2.1 hst'.2.2.1 hst'.2.2.2 e2 hPs) (hS0.put e2 e3 hA.1)
/-- a final field, in its class's constructor -/
theorem x_putF (hexec : p.tables.exec = Jvm.exec) (hb : c.code = cc) (hts : ∀ w ∈ Ts, w.before args s = true) (hin : ∀ w ∈ u_ws C T N, w ∈ Ts) (ty0 : Nat → FieldType) (hty : ∀ k, k < N → parseFieldDescriptor (T k).2.2.1 = some (ty0 k)) (hnm : ∀ a, a < N → ∀ b, b < N → a ≠ b → (T a).2.1 ≠ (T b).2.1) (hown : s.vm.findClass own = some m.cls) (hKK : va_K G classes (tys cy) s) (hW : Wd G cy base h H) (hS0 : va_S (aA base) H0 H locs) (ha : hK h a = ci) (hci : ci < 16) (hc : classes[ci]? = some (C, T, N)) (hN : (tl ci).length = N) (hk : k < N)
    (hlink : (Cond.fieldLink own index (T k).1 (T k).2.1 (T k).2.2.1).before args s = true) (hfin : (T k).2.2.2 = true) (hin2 : meth.name = "<init>") (hdecl : (T k).1 = own) {ty : FieldType} {v : Value} (hd : parseFieldDescriptor (T k).2.2.1 = some ty) (hn : narrow ty v = v) (hfit : fits ty v = true) (hst' : stp cy h h' a k ci v) (hdg : decode cc pc = .ok (.putfield index, 3))
    (kk : ∀ (H1 : Heap) (locs1 : List Loc), Wd G cy base h' H1 → va_S (aA base) H0 H1 locs1 → W p l e R s m args below meth c H1 locs1 cells slots Q (F0 m (pc + 3) ls rest)) : W p l e R s m args below meth c H locs cells slots Q (F0 m pc ls (v :: .ref a :: rest)) := by
  have hA := hW.2.2.1 a (by omega)
  obtain ⟨q0, he0⟩ := wd_at hW (show hK h a < 24 by omega)
  have he := he0
  rw [cE_obj ha hci] at he
  have hl : k < (fl h a 0 (tl ci)).length := by rw [fl_len, hN]; exact hk
  have hap := va_apart (own := own) hts hin ty0 hty hnm hKK hc
  have hD := pL_D base (hS h) (cE cy h)
  have hP := hW.2.2.2
  obtain ⟨r, h1, cell, q1, q2, q3, q4⟩ := hP q0 _ he
  have hr : r = (C, T, N) := Option.some.inj (h1.symm.trans hc)
  subst hr
  obtain ⟨hSl, hfc, kC, hkC, hkind⟩ := hKK.1 ci _ hc
  obtain ⟨cf, kf, fi, f, hi, hsl⟩ := hSl k hk
  have hlay := hts _ (hin _ (u_in_lay hk))
  unfold u_lay at hlay
  rw [if_pos hfin] at hlay
  have hst := (u_facts hfc hkC (u_lays hts hin hk) hi).1
  have hcf : m.cls = cf := by
    obtain ⟨_, _, c', _, _, _, -, -, hf', -, -, -, hown2, -⟩ := Cond.laysFinal_spec hlay
    have e1 : c' = cf := by have := hi.symm.trans hf'; simp at this; exact this.1.symm
    rw [hdecl] at hown2
    rw [← e1]; exact Option.some.inj (hown.symm.trans hown2)
  have h6 := u_fits hfc hkC hkind (Or.inr hlay) hi hd hn hfit
  refine W.putFinK hexec hb hown hlink hi hst hcf hin2 (by rw [q2]; exact h6) q1 q3 (by rw [hsl]; exact k2_hasslot (q4 k hk)) rfl rfl hdg fun H' e1 e2 e3 => ?_
  rw [hsl] at e1 ⊢
  have hPs := va_P.set (e := .inr (ci, (fl h a 0 (tl ci)).set k v)) hP hD he0 ⟨_, hc, t_OB.to (V := updV (vp_V (fl h a 0 (tl ci))) k v) ⟨_, e1, q2, q3, t_set q4 hap hk v⟩ (fun j _ => vp_updV_set hl v j)⟩ e3
  exact kk H' _ (wd_up hW he0 hA.1 hA.2 hst'.1 hst'.2.1 hst'.2.2.1 hst'.2.2.2 e2 hPs) (hS0.put e2 e3 hA.1)
-- ===== arrays
theorem cE_ne {h' : Hp} {b : Nat} (h1 : hK h' b = hK h b) (h2 : hN h' b = hN h b) (h3 : hI h' b = hI h b) (h4 : hJ h' b = hJ h b) (h5 : hR h' b = hR h b) : cE cy h' b = cE cy h b := by
  unfold cE
  have : ∀ z, fv h' b z = fv h b z := fun z => by
    match z with
    | 0 => funext i; simp [fv, h3]
    | 1 => funext i; simp [fv, h4]
    | z + 2 => funext i; simp [fv, h5]
  have hfl : fl h' b 0 (tl (hK h b)) = fl h b 0 (tl (hK h b)) := fl_congr _ 0 (fun j t _ => by rw [this])
  have hae : aE h' (hK h b) b = aE h (hK h b) b := by simp [aE, h3, h4, h5]
  rw [h1, h2, hfl, hae]
theorem tys_I {s : State} (hKK : va_K G classes (tys cy) s) {ty : FieldType} (hk : k = 16 ∧ ty = .byte ∨ k = 17 ∧ ty = .int ∨ k = 19 ∧ ty = .boolean) : ArrOfT s (cy k) ty := by
  rcases hk with ⟨rfl, rfl⟩ | ⟨rfl, rfl⟩ | ⟨rfl, rfl⟩
  · exact (hKK.2 0 _ rfl).1
  · exact (hKK.2 1 _ rfl).1
  · exact (hKK.2 3 _ rfl).1
theorem wd_arr (hW : Wd G cy base h H) (ha : hK h a = k) (h1 : k = 16 ∨ k = 17 ∨ k = 19) : H[a]? = some (arrV (cy k) (hN h a) (fun j => .int (hI h a j))) := by
  obtain ⟨q0, he0⟩ := wd_at hW (show hK h a < 24 by omega)
  rw [cE_arr ha (by omega), aE_I h1] at he0
  exact hW.2.2.2 q0 _ he0
theorem wd_arrJ (hW : Wd G cy base h H) (ha : hK h a = 18) : H[a]? = some (arrV (cy 18) (hN h a) (fun j => .long (hJ h a j))) := by
  obtain ⟨q0, he0⟩ := wd_at hW (show hK h a < 24 by omega)
  rw [cE_arr ha (by omega), aE_J] at he0
  exact hW.2.2.2 q0 _ he0
theorem wd_arrR (hW : Wd G cy base h H) (ha : hK h a = k) (h1 : 20 ≤ k) (h2 : k < 24) : H[a]? = some (arrV (cy k) (hN h a) (fun j => va_rf (hR h a j))) := by
  obtain ⟨q0, he0⟩ := wd_at hW (show hK h a < 24 by omega)
  rw [cE_arr ha (by omega), aE_R h1] at he0
  exact hW.2.2.2 q0 _ he0
abbrev inB (i : Int32) (n : Nat) : Prop := ¬ (i < 0 ∨ n ≤ i.toNatClampNeg)
theorem x_iald (hexec : p.tables.exec = Jvm.exec) (hb : c.code = cc) (hKK : va_K G classes (tys cy) s) (hW : Wd G cy base h H) (ha : hK h a = 17) {i : Int32} (hin : inB i (hN h a)) (hdg : decode cc pc = .ok (.iaload, 1))
    (kk : W p l e R s m args below meth c H locs cells slots Q (F0 m (pc + 1) ls (.int (hI h a i.toNatClampNeg) :: rest))) : W p l e R s m args below meth c H locs cells slots Q (F0 m pc ls (.int i :: .ref a :: rest)) := by
  have hlt : i.toNatClampNeg < hN h a := Nat.not_le.mp fun q => hin (Or.inr q)
  exact W.iald (v := .int (hI h a i.toNatClampNeg)) hexec hb (wd_arr hW ha (by simp)) (tys_I hKK (by simp) _ _) (fun q => by cases q) (by show ¬ (i < 0 ∨ (arrV _ _ _).slots.size ≤ _); rw [arrV_size]; exact hin) (by show (arrV _ _ _).slots[_]? = _; rw [arrV_read _ _ hlt]) rfl rfl hdg kk
theorem wd_arrUp (hW : Wd G cy base h H) (ha : hK h a = k) (h1 : k = 16 ∨ k = 17 ∨ k = 19) {i : Nat} {x : Int32} {H1 : Heap} (e : H1[a]? = some (arrV (cy k) (hN h a) (fun j => .int (upd (hI h a) i x j)))) (z : H1.size = H.size) (oq : ∀ q : Nat, q ≠ a → H1[q]? = H[q]?) : Wd G cy base (wI h a i x) H1 := by
  have hA := hW.2.2.1 a (by omega)
  obtain ⟨q0, he0⟩ := wd_at hW (show hK h a < 24 by omega)
  have hPs := va_P.set (e := cE cy (wI h a i x) a) hW.2.2.2 (pL_D base (hS h) (cE cy h)) he0 (H1 := H1) (by
    rw [cE_arr (h := wI h a i x) (k := k) ha (by omega), aE_I h1]
    show H1[a]? = some (vp_cell _ _)
    rw [e, vp_cell_i]
    simp [wI_N, wI_I]) oq
  refine wd_up hW he0 hA.1 hA.2 rfl rfl rfl (fun b hb => cE_ne rfl rfl (by simp [wI_I, hb]) rfl rfl) z hPs
theorem wd_arrUpJ (hW : Wd G cy base h H) (ha : hK h a = 18) {i : Nat} {x : Int64} {H1 : Heap} (e : H1[a]? = some (arrV (cy 18) (hN h a) (fun j => .long (vp_updL (hJ h a) i x j)))) (z : H1.size = H.size) (oq : ∀ q : Nat, q ≠ a → H1[q]? = H[q]?) : Wd G cy base (wJ h a i x) H1 := by
  have hA := hW.2.2.1 a (by omega)
  obtain ⟨q0, he0⟩ := wd_at hW (show hK h a < 24 by omega)
  have hPs := va_P.set (e := cE cy (wJ h a i x) a) hW.2.2.2 (pL_D base (hS h) (cE cy h)) he0 (H1 := H1) (by
    rw [cE_arr (h := wJ h a i x) (k := 18) ha (by omega), aE_J]
    show H1[a]? = some (vp_cell _ _)
    rw [e, vp_cell_l]
    simp [wJ_N, wJ_J]) oq
  refine wd_up hW he0 hA.1 hA.2 rfl rfl rfl (fun b hb => cE_ne rfl rfl rfl (by simp [wJ_J, hb]) rfl) z hPs
theorem wd_arrUpR (hW : Wd G cy base h H) (ha : hK h a = k) (h1 : 20 ≤ k) (h2 : k < 24) {i : Nat} {x : Option Nat} {H1 : Heap} (e : H1[a]? = some (arrV (cy k) (hN h a) (fun j => va_rf (va_up (hR h a) i x j)))) (z : H1.size = H.size) (oq : ∀ q : Nat, q ≠ a → H1[q]? = H[q]?) : Wd G cy base (wR h a i x) H1 := by
  have hA := hW.2.2.1 a (by omega)
  obtain ⟨q0, he0⟩ := wd_at hW (show hK h a < 24 by omega)
  have hPs := va_P.set (e := cE cy (wR h a i x) a) hW.2.2.2 (pL_D base (hS h) (cE cy h)) he0 (H1 := H1) (by
    rw [cE_arr (h := wR h a i x) (k := k) ha (by omega), aE_R h1]
    show H1[a]? = some (vp_cell _ _)
    rw [e, vp_cell_q]
    simp [wR_N, wR_R]) oq
  refine wd_up hW he0 hA.1 hA.2 rfl rfl rfl (fun b hb => cE_ne rfl rfl rfl rfl (by simp [wR_R, hb])) z hPs
theorem x_iast (hexec : p.tables.exec = Jvm.exec) (hb : c.code = cc) (hKK : va_K G classes (tys cy) s) (hW : Wd G cy base h H) (hS0 : va_S (aA base) H0 H locs) (ha : hK h a = 17) {i x : Int32} (hin : inB i (hN h a)) (hdg : decode cc pc = .ok (.iastore, 1))
    (kk : ∀ (H1 : Heap) (locs1 : List Loc), Wd G cy base (wI h a i.toNatClampNeg x) H1 → va_S (aA base) H0 H1 locs1 → W p l e R s m args below meth c H1 locs1 cells slots Q (F0 m (pc + 1) ls rest)) : W p l e R s m args below meth c H locs cells slots Q (F0 m pc ls (.int x :: .int i :: .ref a :: rest)) := by
  refine W.iast hexec hb (wd_arr hW ha (by simp)) (tys_I hKK (by simp) _ _) (fun q => by cases q) (by show ¬ (i < 0 ∨ (arrV _ _ _).slots.size ≤ _); rw [arrV_size]; exact hin) rfl rfl hdg fun H1 e z oq => ?_
  refine kk H1 _ (wd_arrUp hW ha (by simp) ?_ z oq) (hS0.put z oq (hW.2.2.1 a (by omega)).1)
  rw [e, arrV_store]
  congr 2
  funext q
  by_cases hq : q = i.toNatClampNeg
  · subst hq
    simp [updV, upd]
  · simp [updV, upd, hq]
theorem x_bald (hexec : p.tables.exec = Jvm.exec) (hb : c.code = cc) (hKK : va_K G classes (tys cy) s) (hW : Wd G cy base h H) (ha : hK h a = 16) {i : Int32} (hin : inB i (hN h a)) (hdg : decode cc pc = .ok (.baload, 1))
    (kk : W p l e R s m args below meth c H locs cells slots Q (F0 m (pc + 1) ls (.int (hI h a i.toNatClampNeg) :: rest))) : W p l e R s m args below meth c H locs cells slots Q (F0 m pc ls (.int i :: .ref a :: rest)) := by
  have hlt : i.toNatClampNeg < hN h a := Nat.not_le.mp fun q => hin (Or.inr q)
  exact W.bald (v := .int (hI h a i.toNatClampNeg)) hexec hb (wd_arr hW ha (by simp)) (tys_I (ty := .byte) hKK (by simp) _ _) (fun q => by cases q) (by show ¬ (i < 0 ∨ (arrV _ _ _).slots.size ≤ _); rw [arrV_size]; exact hin) (by show (arrV _ _ _).slots[_]? = _; rw [arrV_read _ _ hlt]) rfl rfl hdg kk
theorem x_bast (hexec : p.tables.exec = Jvm.exec) (hb : c.code = cc) (hKK : va_K G classes (tys cy) s) (hW : Wd G cy base h H) (hS0 : va_S (aA base) H0 H locs) (ha : hK h a = 16) {i x : Int32} (hin : inB i (hN h a)) (hdg : decode cc pc = .ok (.bastore, 1))
    (kk : ∀ (H1 : Heap) (locs1 : List Loc), Wd G cy base (wI h a i.toNatClampNeg (vp_nar .byte x)) H1 → va_S (aA base) H0 H1 locs1 → W p l e R s m args below meth c H1 locs1 cells slots Q (F0 m (pc + 1) ls rest)) : W p l e R s m args below meth c H locs cells slots Q (F0 m pc ls (.int x :: .int i :: .ref a :: rest)) := by
  refine W.bast hexec hb (wd_arr hW ha (by simp)) (tys_I (ty := .byte) hKK (by simp) _ _) (fun q => by cases q) (by show ¬ (i < 0 ∨ (arrV _ _ _).slots.size ≤ _); rw [arrV_size]; exact hin) rfl rfl hdg fun H1 e z oq => ?_
  refine kk H1 _ (wd_arrUp hW ha (by simp) ?_ z oq) (hS0.put z oq (hW.2.2.1 a (by omega)).1)
  rw [e, arrV_store]
  congr 2
  funext q
  by_cases hq : q = i.toNatClampNeg
  · subst hq
    simp [updV, upd, vp_nar]
    try rfl
  · simp [updV, upd, hq]
theorem x_zald (hexec : p.tables.exec = Jvm.exec) (hb : c.code = cc) (hKK : va_K G classes (tys cy) s) (hW : Wd G cy base h H) (ha : hK h a = 19) {i : Int32} (hin : inB i (hN h a)) (hdg : decode cc pc = .ok (.baload, 1))
    (kk : W p l e R s m args below meth c H locs cells slots Q (F0 m (pc + 1) ls (.int (hI h a i.toNatClampNeg) :: rest))) : W p l e R s m args below meth c H locs cells slots Q (F0 m pc ls (.int i :: .ref a :: rest)) := by
  have hlt : i.toNatClampNeg < hN h a := Nat.not_le.mp fun q => hin (Or.inr q)
  exact W.zald (v := .int (hI h a i.toNatClampNeg)) hexec hb (wd_arr hW ha (by simp)) (tys_I (ty := .boolean) hKK (by simp) _ _) (fun q => by cases q) (by show ¬ (i < 0 ∨ (arrV _ _ _).slots.size ≤ _); rw [arrV_size]; exact hin) (by show (arrV _ _ _).slots[_]? = _; rw [arrV_read _ _ hlt]) rfl rfl hdg kk
theorem x_zast (hexec : p.tables.exec = Jvm.exec) (hb : c.code = cc) (hKK : va_K G classes (tys cy) s) (hW : Wd G cy base h H) (hS0 : va_S (aA base) H0 H locs) (ha : hK h a = 19) {i x : Int32} (hin : inB i (hN h a)) (hdg : decode cc pc = .ok (.bastore, 1))
    (kk : ∀ (H1 : Heap) (locs1 : List Loc), Wd G cy base (wI h a i.toNatClampNeg (vp_nar .boolean x)) H1 → va_S (aA base) H0 H1 locs1 → W p l e R s m args below meth c H1 locs1 cells slots Q (F0 m (pc + 1) ls rest)) : W p l e R s m args below meth c H locs cells slots Q (F0 m pc ls (.int x :: .int i :: .ref a :: rest)) := by
  refine W.zast hexec hb (wd_arr hW ha (by simp)) (tys_I (ty := .boolean) hKK (by simp) _ _) (fun q => by cases q) (by show ¬ (i < 0 ∨ (arrV _ _ _).slots.size ≤ _); rw [arrV_size]; exact hin) rfl rfl hdg fun H1 e z oq => ?_
  refine kk H1 _ (wd_arrUp hW ha (by simp) ?_ z oq) (hS0.put z oq (hW.2.2.1 a (by omega)).1)
  rw [e, arrV_store]
  congr 2
  funext q
  by_cases hq : q = i.toNatClampNeg
  · subst hq
    simp [updV, upd, vp_nar]
    try rfl
  · simp [updV, upd, hq]
theorem x_lald (hexec : p.tables.exec = Jvm.exec) (hb : c.code = cc) (hKK : va_K G classes (tys cy) s) (hW : Wd G cy base h H) (ha : hK h a = 18) {i : Int32} (hin : inB i (hN h a)) (hdg : decode cc pc = .ok (.laload, 1))
    (kk : W p l e R s m args below meth c H locs cells slots Q (F0 m (pc + 1) ls (.long (hJ h a i.toNatClampNeg) :: rest))) : W p l e R s m args below meth c H locs cells slots Q (F0 m pc ls (.int i :: .ref a :: rest)) := by
  have hlt : i.toNatClampNeg < hN h a := Nat.not_le.mp fun q => hin (Or.inr q)
  exact W.lald (v := .long (hJ h a i.toNatClampNeg)) hexec hb (wd_arrJ hW ha) ((hKK.2 2 _ rfl).1 _ _) (fun q => by cases q) (by show ¬ (i < 0 ∨ (arrV _ _ _).slots.size ≤ _); rw [arrV_size]; exact hin) (by show (arrV _ _ _).slots[_]? = _; rw [arrV_read _ _ hlt]) rfl rfl hdg kk
theorem x_last (hexec : p.tables.exec = Jvm.exec) (hb : c.code = cc) (hKK : va_K G classes (tys cy) s) (hW : Wd G cy base h H) (hS0 : va_S (aA base) H0 H locs) (ha : hK h a = 18) {i : Int32} {x : Int64} (hin : inB i (hN h a)) (hdg : decode cc pc = .ok (.lastore, 1))
    (kk : ∀ (H1 : Heap) (locs1 : List Loc), Wd G cy base (wJ h a i.toNatClampNeg x) H1 → va_S (aA base) H0 H1 locs1 → W p l e R s m args below meth c H1 locs1 cells slots Q (F0 m (pc + 1) ls rest)) : W p l e R s m args below meth c H locs cells slots Q (F0 m pc ls (.long x :: .int i :: .ref a :: rest)) := by
  refine W.last hexec hb (wd_arrJ hW ha) ((hKK.2 2 _ rfl).1 _ _) (fun q => by cases q) (by show ¬ (i < 0 ∨ (arrV _ _ _).slots.size ≤ _); rw [arrV_size]; exact hin) rfl rfl hdg fun H1 e z oq => ?_
  refine kk H1 _ (wd_arrUpJ hW ha ?_ z oq) (hS0.put z oq (hW.2.2.1 a (by omega)).1)
  rw [e, arrV_store]
  congr 2
  funext q
  by_cases hq : q = i.toNatClampNeg
  · subst hq
    simp [updV, vp_updL]
  · simp [updV, vp_updL, hq]
theorem x_alenI (hexec : p.tables.exec = Jvm.exec) (hb : c.code = cc) (hKK : va_K G classes (tys cy) s) (hW : Wd G cy base h H) (ha : hK h a = 17) (hdg : decode cc pc = .ok (.arraylength, 1))
    (kk : W p l e R s m args below meth c H locs cells slots Q (F0 m (pc + 1) ls (.int (nI (hN h a)) :: rest))) : W p l e R s m args below meth c H locs cells slots Q (F0 m pc ls (.ref a :: rest)) :=
  W.alen (n := nI (hN h a)) hexec hb (wd_arr hW ha (by simp)) (tys_I (ty := .int) hKK (by simp) _ _) (by rw [arrV_size]; rfl) rfl rfl hdg kk
theorem x_alenB (hexec : p.tables.exec = Jvm.exec) (hb : c.code = cc) (hKK : va_K G classes (tys cy) s) (hW : Wd G cy base h H) (ha : hK h a = 16) (hdg : decode cc pc = .ok (.arraylength, 1))
    (kk : W p l e R s m args below meth c H locs cells slots Q (F0 m (pc + 1) ls (.int (nI (hN h a)) :: rest))) : W p l e R s m args below meth c H locs cells slots Q (F0 m pc ls (.ref a :: rest)) :=
  W.alen (n := nI (hN h a)) hexec hb (wd_arr hW ha (by simp)) (tys_I (ty := .byte) hKK (by simp) _ _) (by rw [arrV_size]; rfl) rfl rfl hdg kk
theorem x_alenJ (hexec : p.tables.exec = Jvm.exec) (hb : c.code = cc) (hKK : va_K G classes (tys cy) s) (hW : Wd G cy base h H) (ha : hK h a = 18) (hdg : decode cc pc = .ok (.arraylength, 1))
    (kk : W p l e R s m args below meth c H locs cells slots Q (F0 m (pc + 1) ls (.int (nI (hN h a)) :: rest))) : W p l e R s m args below meth c H locs cells slots Q (F0 m pc ls (.ref a :: rest)) :=
  W.alen (n := nI (hN h a)) hexec hb (wd_arrJ hW ha) ((hKK.2 2 _ rfl).1 _ _) (by rw [arrV_size]; rfl) rfl rfl hdg kk
-- ===== naming
theorem x_nmI {x y : Int32} (ex : x = y) (k : W p l e R s m args below meth c H locs cells slots Q (F0 m pc ls (.int x :: rest))) : W p l e R s m args below meth c H locs cells slots Q (F0 m pc ls (.int y :: rest)) := ex ▸ k
theorem x_nmJ {x y : Int64} (ex : x = y) (k : W p l e R s m args below meth c H locs cells slots Q (F0 m pc ls (.long x :: rest))) : W p l e R s m args below meth c H locs cells slots Q (F0 m pc ls (.long y :: rest)) := ex ▸ k
theorem x_nmR {x : Option Nat} {y : Nat} (ex : x = some y) (k : W p l e R s m args below meth c H locs cells slots Q (F0 m pc ls (.ref y :: rest))) : W p l e R s m args below meth c H locs cells slots Q (F0 m pc ls (va_rf x :: rest)) := by subst ex; exact k
end XR
-- ===== the pieces of a meaning: a name, a guard, a call
def nm {α β : Type} (x : α) (k : α → Option β) : Option β := k x
def gd {β : Type} (c : Prop) [Decidable c] (k : Option β) : Option β := if c then k else none
def cl {α β : Type} (x : Option α) (k : α → Option β) : Option β := x.bind k
theorem nm_e2 {α β : Type} {x : α} {k : α → Option β} {o : Option β} (h : nm x k = o) : ∃ y, y = x ∧ k y = o := ⟨x, rfl, h⟩
theorem gd_e {β : Type} {c : Prop} [Decidable c] {k : Option β} {o : β} (h : gd c k = some o) : c ∧ k = some o := by
  unfold gd at h
  by_cases q : c
  · rw [if_pos q] at h; exact ⟨q, h⟩
  · rw [if_neg q] at h; cases h
theorem cl_e {α β : Type} {x : Option α} {k : α → Option β} {o : β} (h : cl x k = some o) : ∃ y, x = some y ∧ k y = some o := by
  unfold cl at h
  exact Option.bind_eq_some_iff.mp h
