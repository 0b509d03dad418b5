theorem m_222 : Cond.methodLink RX10 3 objectInit ∈ W0 := w0_in (List.mem_append_right _ (List.mem_of_getElem? (i := 222) (by decide +kernel))) rfl
theorem m_223 : Cond.constant RX10 9 (98305 : Int32) ∈ W0 := w0_in (List.mem_append_right _ (List.mem_of_getElem? (i := 223) (by decide +kernel))) rfl
theorem m_224 : Cond.fieldLink RX10 10 (TX10 0).1 (TX10 0).2.1 (TX10 0).2.2.1 ∈ W0 := w0_in (List.mem_append_right _ (List.mem_of_getElem? (i := 224) (by decide +kernel))) rfl
theorem m_226 : Cond.fieldLink RX10 16 (TX10 1).1 (TX10 1).2.1 (TX10 1).2.2.1 ∈ W0 := w0_in (List.mem_append_right _ (List.mem_of_getElem? (i := 226) (by decide +kernel))) rfl
theorem m_228 : Cond.fieldLink RX10 19 (TX10 2).1 (TX10 2).2.1 (TX10 2).2.2.1 ∈ W0 := w0_in (List.mem_append_right _ (List.mem_of_getElem? (i := 228) (by decide +kernel))) rfl
theorem m_230 : Cond.fieldLink RX10 23 (TX10 3).1 (TX10 3).2.1 (TX10 3).2.2.1 ∈ W0 := w0_in (List.mem_append_right _ (List.mem_of_getElem? (i := 230) (by decide +kernel))) rfl
theorem m_231 : Cond.fieldLink RX10 26 (TX10 4).1 (TX10 4).2.1 (TX10 4).2.2.1 ∈ W0 := w0_in (List.mem_append_right _ (List.mem_of_getElem? (i := 231) (by decide +kernel))) rfl
theorem m_233 : Cond.fieldLink RX10 29 (TX10 5).1 (TX10 5).2.1 (TX10 5).2.2.1 ∈ W0 := w0_in (List.mem_append_right _ (List.mem_of_getElem? (i := 233) (by decide +kernel))) rfl
theorem m_235 : Cond.fieldLink RX10 32 (TX10 6).1 (TX10 6).2.1 (TX10 6).2.2.1 ∈ W0 := w0_in (List.mem_append_right _ (List.mem_of_getElem? (i := 235) (by decide +kernel))) rfl
theorem i_X10 : ∀ w ∈ u_ws RX10 TX10 9, w ∈ W0 := by
  intro w hw
  exact w0_in (List.mem_append_right _ ((by decide +kernel : ∀ w ∈ u_ws RX10 TX10 9, w ∈ tables_1) w hw)) ((by decide +kernel : ∀ w ∈ u_ws RX10 TX10 9, goodWord w = true) w hw)
section
variable {p : Program} {l : Launch} {e : Env} {R : Room} {s : State} {m : MethodId} {args : Array Value} {below : List Frame} {meth : Method} {c : Code} {H : Heap} {locs : List Loc} {cells slots : Nat} {Q : State → Prop}
variable {cc : ByteArray} {pc : Nat} {ls : Array Slot} {rest : List Value} {X : Ec} {h h1 : Hp} {nL : Nat} {rt : Option FieldType} {mn : String}
theorem pf_X10_32 {a r : Nat} (C : Cx X p s m args meth c RX10 cc nL rt mn) (hW : Wx X h H) (hZ : va_S (aA (eB X)) s.heap H locs) (hmn : mn = "<init>") (ha : hK h a = 10) (hr : hK h r = 17) (eh : h1 = wR h a 6 (some r)) (hdg : decode cc pc = .ok (.putfield 32, 3)) (kk : ∀ (H1 : Heap) (locs1 : List Loc), Wx X h1 H1 → Km h h1 → va_S (aA (eB X)) s.heap H1 locs1 → W p l e R s m args below meth c H1 locs1 cells slots Q (F0 m (pc + 3) ls rest)) : W p l e R s m args below meth c H locs cells slots Q (F0 m pc ls (.ref r :: .ref a :: rest)) :=
  y_putrF (ty := .array .int) C hW hZ ha i_X10 tyX10 tyX10_ok nmX10 (by decide) rfl rfl (by decide) m_235 rfl hmn rfl (by decide +kernel) rfl rfl rfl hr rfl (by decide) eh hdg kk
theorem pf_X10_29 {a r : Nat} (C : Cx X p s m args meth c RX10 cc nL rt mn) (hW : Wx X h H) (hZ : va_S (aA (eB X)) s.heap H locs) (hmn : mn = "<init>") (ha : hK h a = 10) (hr : hK h r = 18) (eh : h1 = wR h a 5 (some r)) (hdg : decode cc pc = .ok (.putfield 29, 3)) (kk : ∀ (H1 : Heap) (locs1 : List Loc), Wx X h1 H1 → Km h h1 → va_S (aA (eB X)) s.heap H1 locs1 → W p l e R s m args below meth c H1 locs1 cells slots Q (F0 m (pc + 3) ls rest)) : W p l e R s m args below meth c H locs cells slots Q (F0 m pc ls (.ref r :: .ref a :: rest)) :=
  y_putrF (ty := .array .long) C hW hZ ha i_X10 tyX10 tyX10_ok nmX10 (by decide) rfl rfl (by decide) m_233 rfl hmn rfl (by decide +kernel) rfl rfl rfl hr rfl (by decide) eh hdg kk
theorem pf_X10_26 {a r : Nat} (C : Cx X p s m args meth c RX10 cc nL rt mn) (hW : Wx X h H) (hZ : va_S (aA (eB X)) s.heap H locs) (hmn : mn = "<init>") (ha : hK h a = 10) (hr : hK h r = 18) (eh : h1 = wR h a 4 (some r)) (hdg : decode cc pc = .ok (.putfield 26, 3)) (kk : ∀ (H1 : Heap) (locs1 : List Loc), Wx X h1 H1 → Km h h1 → va_S (aA (eB X)) s.heap H1 locs1 → W p l e R s m args below meth c H1 locs1 cells slots Q (F0 m (pc + 3) ls rest)) : W p l e R s m args below meth c H locs cells slots Q (F0 m pc ls (.ref r :: .ref a :: rest)) :=
  y_putrF (ty := .array .long) C hW hZ ha i_X10 tyX10 tyX10_ok nmX10 (by decide) rfl rfl (by decide) m_231 rfl hmn rfl (by decide +kernel) rfl rfl rfl hr rfl (by decide) eh hdg kk
theorem pf_X10_23 {a r : Nat} (C : Cx X p s m args meth c RX10 cc nL rt mn) (hW : Wx X h H) (hZ : va_S (aA (eB X)) s.heap H locs) (hmn : mn = "<init>") (ha : hK h a = 10) (hr : hK h r = 18) (eh : h1 = wR h a 3 (some r)) (hdg : decode cc pc = .ok (.putfield 23, 3)) (kk : ∀ (H1 : Heap) (locs1 : List Loc), Wx X h1 H1 → Km h h1 → va_S (aA (eB X)) s.heap H1 locs1 → W p l e R s m args below meth c H1 locs1 cells slots Q (F0 m (pc + 3) ls rest)) : W p l e R s m args below meth c H locs cells slots Q (F0 m pc ls (.ref r :: .ref a :: rest)) :=
  y_putrF (ty := .array .long) C hW hZ ha i_X10 tyX10 tyX10_ok nmX10 (by decide) rfl rfl (by decide) m_230 rfl hmn rfl (by decide +kernel) rfl rfl rfl hr rfl (by decide) eh hdg kk
theorem pf_X10_19 {a r : Nat} (C : Cx X p s m args meth c RX10 cc nL rt mn) (hW : Wx X h H) (hZ : va_S (aA (eB X)) s.heap H locs) (ha : hK h a = 10) (hr : hK h r = 18) (eh : h1 = wR h a 2 (some r)) (hdg : decode cc pc = .ok (.putfield 19, 3)) (kk : ∀ (H1 : Heap) (locs1 : List Loc), Wx X h1 H1 → Km h h1 → va_S (aA (eB X)) s.heap H1 locs1 → W p l e R s m args below meth c H1 locs1 cells slots Q (F0 m (pc + 3) ls rest)) : W p l e R s m args below meth c H locs cells slots Q (F0 m pc ls (.ref r :: .ref a :: rest)) :=
  y_putr (ty := .array .long) C hW hZ ha i_X10 tyX10 tyX10_ok nmX10 (by decide) rfl rfl (by decide) m_228 rfl (by decide +kernel) rfl rfl rfl hr rfl (by decide) eh hdg kk
theorem pf_X10_16 {a r : Nat} (C : Cx X p s m args meth c RX10 cc nL rt mn) (hW : Wx X h H) (hZ : va_S (aA (eB X)) s.heap H locs) (ha : hK h a = 10) (hr : hK h r = 17) (eh : h1 = wR h a 1 (some r)) (hdg : decode cc pc = .ok (.putfield 16, 3)) (kk : ∀ (H1 : Heap) (locs1 : List Loc), Wx X h1 H1 → Km h h1 → va_S (aA (eB X)) s.heap H1 locs1 → W p l e R s m args below meth c H1 locs1 cells slots Q (F0 m (pc + 3) ls rest)) : W p l e R s m args below meth c H locs cells slots Q (F0 m pc ls (.ref r :: .ref a :: rest)) :=
  y_putr (ty := .array .int) C hW hZ ha i_X10 tyX10 tyX10_ok nmX10 (by decide) rfl rfl (by decide) m_226 rfl (by decide +kernel) rfl rfl rfl hr rfl (by decide) eh hdg kk
theorem pf_X10_10 {a r : Nat} (C : Cx X p s m args meth c RX10 cc nL rt mn) (hW : Wx X h H) (hZ : va_S (aA (eB X)) s.heap H locs) (hmn : mn = "<init>") (ha : hK h a = 10) (hr : hK h r = 17) (eh : h1 = wR h a 0 (some r)) (hdg : decode cc pc = .ok (.putfield 10, 3)) (kk : ∀ (H1 : Heap) (locs1 : List Loc), Wx X h1 H1 → Km h h1 → va_S (aA (eB X)) s.heap H1 locs1 → W p l e R s m args below meth c H1 locs1 cells slots Q (F0 m (pc + 3) ls rest)) : W p l e R s m args below meth c H locs cells slots Q (F0 m pc ls (.ref r :: .ref a :: rest)) :=
  y_putrF (ty := .array .int) C hW hZ ha i_X10 tyX10 tyX10_ok nmX10 (by decide) rfl rfl (by decide) m_224 rfl hmn rfl (by decide +kernel) rfl rfl rfl hr rfl (by decide) eh hdg kk
end
theorem dX10_init_0 : decode cX10_init 0 = .ok (.aload_n 0, 1) := by decide +kernel
theorem dX10_init_1 : decode cX10_init 1 = .ok (.invokespecial 3, 3) := by decide +kernel
theorem dX10_init_4 : decode cX10_init 4 = .ok (.aload_n 0, 1) := by decide +kernel
theorem dX10_init_5 : decode cX10_init 5 = .ok (.ldc 9, 2) := by decide +kernel
theorem dX10_init_7 : decode cX10_init 7 = .ok (.newarray .int, 2) := by decide +kernel
theorem dX10_init_9 : decode cX10_init 9 = .ok (.putfield 10, 3) := by decide +kernel
theorem dX10_init_12 : decode cX10_init 12 = .ok (.aload_n 0, 1) := by decide +kernel
theorem dX10_init_13 : decode cX10_init 13 = .ok (.sipush 16384, 3) := by decide +kernel
theorem dX10_init_16 : decode cX10_init 16 = .ok (.newarray .int, 2) := by decide +kernel
theorem dX10_init_18 : decode cX10_init 18 = .ok (.putfield 16, 3) := by decide +kernel
theorem dX10_init_21 : decode cX10_init 21 = .ok (.aload_n 0, 1) := by decide +kernel
theorem dX10_init_22 : decode cX10_init 22 = .ok (.sipush 16384, 3) := by decide +kernel
theorem dX10_init_25 : decode cX10_init 25 = .ok (.newarray .long, 2) := by decide +kernel
theorem dX10_init_27 : decode cX10_init 27 = .ok (.putfield 19, 3) := by decide +kernel
theorem dX10_init_30 : decode cX10_init 30 = .ok (.aload_n 0, 1) := by decide +kernel
theorem dX10_init_31 : decode cX10_init 31 = .ok (.sipush 1536, 3) := by decide +kernel
theorem dX10_init_34 : decode cX10_init 34 = .ok (.newarray .long, 2) := by decide +kernel
theorem dX10_init_36 : decode cX10_init 36 = .ok (.putfield 23, 3) := by decide +kernel
theorem dX10_init_39 : decode cX10_init 39 = .ok (.aload_n 0, 1) := by decide +kernel
theorem dX10_init_40 : decode cX10_init 40 = .ok (.sipush 1536, 3) := by decide +kernel
theorem dX10_init_43 : decode cX10_init 43 = .ok (.newarray .long, 2) := by decide +kernel
theorem dX10_init_45 : decode cX10_init 45 = .ok (.putfield 26, 3) := by decide +kernel
theorem dX10_init_48 : decode cX10_init 48 = .ok (.aload_n 0, 1) := by decide +kernel
theorem dX10_init_49 : decode cX10_init 49 = .ok (.bipush 64, 2) := by decide +kernel
theorem dX10_init_51 : decode cX10_init 51 = .ok (.newarray .long, 2) := by decide +kernel
theorem dX10_init_53 : decode cX10_init 53 = .ok (.putfield 29, 3) := by decide +kernel
theorem dX10_init_56 : decode cX10_init 56 = .ok (.aload_n 0, 1) := by decide +kernel
theorem dX10_init_57 : decode cX10_init 57 = .ok (.sipush 512, 3) := by decide +kernel
theorem dX10_init_60 : decode cX10_init 60 = .ok (.newarray .int, 2) := by decide +kernel
theorem dX10_init_62 : decode cX10_init 62 = .ok (.putfield 32, 3) := by decide +kernel
theorem dX10_init_65 : decode cX10_init 65 = .ok (.return_, 1) := by decide +kernel
def sX10_init_62 (h : Hp) (t0 : Nat) (t1 : Nat) : Option (Hp) := nm (wR h t1 6 (some t0)) fun h_1 => some h_1
def sX10_init_53 (h : Hp) (x0 : Nat) (t0 : Nat) (t1 : Nat) : Option (Hp) := nm (wR h t1 5 (some t0)) fun h_1 => nm (hS h_1) fun a_2 => nm (nC h_1 17 (512 : Int32).toNatClampNeg (512 : Int32).toNatClampNeg) fun h_3 => sX10_init_62  h_3 a_2 x0
def sX10_init_45 (h : Hp) (x0 : Nat) (t0 : Nat) (t1 : Nat) : Option (Hp) := nm (wR h t1 4 (some t0)) fun h_1 => nm (hS h_1) fun a_2 => nm (nC h_1 18 (64 : Int32).toNatClampNeg (64 : Int32).toNatClampNeg) fun h_3 => sX10_init_53  h_3 x0 a_2 x0
def sX10_init_36 (h : Hp) (x0 : Nat) (t0 : Nat) (t1 : Nat) : Option (Hp) := nm (wR h t1 3 (some t0)) fun h_1 => nm (hS h_1) fun a_2 => nm (nC h_1 18 (1536 : Int32).toNatClampNeg (1536 : Int32).toNatClampNeg) fun h_3 => sX10_init_45  h_3 x0 a_2 x0
def sX10_init_27 (h : Hp) (x0 : Nat) (t0 : Nat) (t1 : Nat) : Option (Hp) := nm (wR h t1 2 (some t0)) fun h_1 => nm (hS h_1) fun a_2 => nm (nC h_1 18 (1536 : Int32).toNatClampNeg (1536 : Int32).toNatClampNeg) fun h_3 => sX10_init_36  h_3 x0 a_2 x0
def sX10_init_18 (h : Hp) (x0 : Nat) (t0 : Nat) (t1 : Nat) : Option (Hp) := nm (wR h t1 1 (some t0)) fun h_1 => nm (hS h_1) fun a_2 => nm (nC h_1 18 (16384 : Int32).toNatClampNeg (16384 : Int32).toNatClampNeg) fun h_3 => sX10_init_27  h_3 x0 a_2 x0
def sX10_init_9 (h : Hp) (x0 : Nat) (t0 : Nat) (t1 : Nat) : Option (Hp) := nm (wR h t1 0 (some t0)) fun h_1 => nm (hS h_1) fun a_2 => nm (nC h_1 17 (16384 : Int32).toNatClampNeg (16384 : Int32).toNatClampNeg) fun h_3 => sX10_init_18  h_3 x0 a_2 x0
def sX10_init (h : Hp) (x0 : Nat) : Option (Hp) := nm (hS h) fun a_1 => nm (nC h 17 (98305 : Int32).toNatClampNeg (98305 : Int32).toNatClampNeg) fun h_2 => sX10_init_9  h_2 x0 a_1 x0
theorem moX10_init_62 {o : Hp} {h : Hp} {t0 : Nat} {t1 : Nat} (hE : sX10_init_62 h  t0 t1 = some o) : Le h o := by
  obtain ⟨h_1, eh_1, hE⟩ := nm_e2 hE
  refine (le_R eh_1).tr ?_
  cases hE
  exact Le.rf _
theorem moX10_init_53 {o : Hp} {h : Hp} {x0 : Nat} {t0 : Nat} {t1 : Nat} (hE : sX10_init_53 h x0 t0 t1 = some o) : Le h o := by
  obtain ⟨h_1, eh_1, hE⟩ := nm_e2 hE
  refine (le_R eh_1).tr ?_
  obtain ⟨a_2, ea_2, hE⟩ := nm_e2 hE
  obtain ⟨h_3, eh_3, hE⟩ := nm_e2 hE
  refine (le_C eh_3).tr ?_
  exact moX10_init_62 hE
theorem moX10_init_45 {o : Hp} {h : Hp} {x0 : Nat} {t0 : Nat} {t1 : Nat} (hE : sX10_init_45 h x0 t0 t1 = some o) : Le h o := by
  obtain ⟨h_1, eh_1, hE⟩ := nm_e2 hE
  refine (le_R eh_1).tr ?_
  obtain ⟨a_2, ea_2, hE⟩ := nm_e2 hE
  obtain ⟨h_3, eh_3, hE⟩ := nm_e2 hE
  refine (le_C eh_3).tr ?_
  exact moX10_init_53 hE
theorem moX10_init_36 {o : Hp} {h : Hp} {x0 : Nat} {t0 : Nat} {t1 : Nat} (hE : sX10_init_36 h x0 t0 t1 = some o) : Le h o := by
  obtain ⟨h_1, eh_1, hE⟩ := nm_e2 hE
  refine (le_R eh_1).tr ?_
  obtain ⟨a_2, ea_2, hE⟩ := nm_e2 hE
  obtain ⟨h_3, eh_3, hE⟩ := nm_e2 hE
  refine (le_C eh_3).tr ?_
  exact moX10_init_45 hE
theorem moX10_init_27 {o : Hp} {h : Hp} {x0 : Nat} {t0 : Nat} {t1 : Nat} (hE : sX10_init_27 h x0 t0 t1 = some o) : Le h o := by
  obtain ⟨h_1, eh_1, hE⟩ := nm_e2 hE
  refine (le_R eh_1).tr ?_
  obtain ⟨a_2, ea_2, hE⟩ := nm_e2 hE
  obtain ⟨h_3, eh_3, hE⟩ := nm_e2 hE
  refine (le_C eh_3).tr ?_
  exact moX10_init_36 hE
theorem moX10_init_18 {o : Hp} {h : Hp} {x0 : Nat} {t0 : Nat} {t1 : Nat} (hE : sX10_init_18 h x0 t0 t1 = some o) : Le h o := by
  obtain ⟨h_1, eh_1, hE⟩ := nm_e2 hE
  refine (le_R eh_1).tr ?_
  obtain ⟨a_2, ea_2, hE⟩ := nm_e2 hE
  obtain ⟨h_3, eh_3, hE⟩ := nm_e2 hE
  refine (le_C eh_3).tr ?_
  exact moX10_init_27 hE
theorem moX10_init_9 {o : Hp} {h : Hp} {x0 : Nat} {t0 : Nat} {t1 : Nat} (hE : sX10_init_9 h x0 t0 t1 = some o) : Le h o := by
  obtain ⟨h_1, eh_1, hE⟩ := nm_e2 hE
  refine (le_R eh_1).tr ?_
  obtain ⟨a_2, ea_2, hE⟩ := nm_e2 hE
  obtain ⟨h_3, eh_3, hE⟩ := nm_e2 hE
  refine (le_C eh_3).tr ?_
  exact moX10_init_18 hE
theorem moX10_init {o : Hp} {h : Hp} {x0 : Nat} (hE : sX10_init h x0 = some o) : Le h o := by
  obtain ⟨a_1, ea_1, hE⟩ := nm_e2 hE
  obtain ⟨h_2, eh_2, hE⟩ := nm_e2 hE
  refine (le_C eh_2).tr ?_
  exact moX10_init_9 hE
set_option maxRecDepth 20000 in
theorem bX10_init_62 {p : Program} {l : Launch} {e : Env} {s : State} {m : MethodId} {args : Array Value} {below : List Frame} {meth : Method} {c : Code} {X : Ec} {h0 : Hp} {o : Hp} (C : Cx X p s m args meth c RX10 cX10_init 1 none "<init>") {h : Hp} {t0 : Nat} {t1 : Nat} {H : Heap} {locs : List Loc} (k_t0 : hK h t0 = 17) (k_t1 : hK h t1 = 10) (hkl : Kl h0 h) (hW : Wx X h H) (hZ : va_S (aA (eB X)) s.heap H locs) (ls : Array Slot) (hl : lv_has ls 1 []) (hE : sX10_init_62 h  t0 t1 = some o) : W p l e (rmA 1 20 h0 o) s m args below meth c H locs (hS h - hS h0) (hL h - hL h0) (MQ below (QVA X h0 o) args s (hS o - hS h0) (hL o - hL h0) (aA (eB X))) (F0 m 62 ls [.ref t0, .ref t1]) := by
  obtain ⟨h_1, eh_1, hE⟩ := nm_e2 hE
  refine pf_X10_32 C hW hZ rfl k_t1 k_t0 eh_1 dX10_init_62 (fun _ _ hW km hZ => ?_)
  replace hkl := hkl.tr km.l
  refine x_wc km ?_
  exact x_vretA C rfl hW hZ hkl hE dX10_init_65
set_option maxRecDepth 20000 in
theorem bX10_init_53 {p : Program} {l : Launch} {e : Env} {s : State} {m : MethodId} {args : Array Value} {below : List Frame} {meth : Method} {c : Code} {X : Ec} {h0 : Hp} {o : Hp} (C : Cx X p s m args meth c RX10 cX10_init 1 none "<init>") {h : Hp} {x0 : Nat} {t0 : Nat} {t1 : Nat} {H : Heap} {locs : List Loc} (k_x0 : hK h x0 = 10) (k_t0 : hK h t0 = 18) (k_t1 : hK h t1 = 10) (hkl : Kl h0 h) (hW : Wx X h H) (hZ : va_S (aA (eB X)) s.heap H locs) (ls : Array Slot) (hl : lv_has ls 1 [(0, .ref x0)]) (hE : sX10_init_53 h x0 t0 t1 = some o) : W p l e (rmA 1 20 h0 o) s m args below meth c H locs (hS h - hS h0) (hL h - hL h0) (MQ below (QVA X h0 o) args s (hS o - hS h0) (hL o - hL h0) (aA (eB X))) (F0 m 53 ls [.ref t0, .ref t1]) := by
  obtain ⟨h_1, eh_1, hE⟩ := nm_e2 hE
  refine pf_X10_29 C hW hZ rfl k_t1 k_t0 eh_1 dX10_init_53 (fun _ _ hW km hZ => ?_)
  replace hkl := hkl.tr km.l
  refine x_wc km ?_
  replace k_x0 := km.at k_x0 (by decide)
  refine lv_aload_n C.1 C.2.1 dX10_init_56 rfl (lv_at hl 0 rfl) ?_
  refine lv_sipush (v := (512 : Int32)) C.1 C.2.1 dX10_init_57 (by decide) ?_
  obtain ⟨a_2, ea_2, hE⟩ := nm_e2 hE
  obtain ⟨h_3, eh_3, hE⟩ := nm_e2 hE
  refine y_newa (k := 17) (ty := .int) (t0 := 1) C hW hZ hkl (moX10_init_62 hE) ⟨rfl, rfl⟩ (by decide) (by decide) rfl rfl (by intro C hC; cases hC) hdef_17 m_54 (by decide) (by decide) eh_3 dX10_init_60 (fun _ hW km k_a_2 hZ => ?_)
  replace hkl := hkl.tr km
  refine x_nmA ea_2 ?_
  rw [← ea_2] at k_a_2
  replace k_x0 := km.at k_x0 (by decide)
  exact bX10_init_62 C k_a_2 k_x0 hkl hW hZ _ (lv_sub hl [] rfl) hE
set_option maxRecDepth 20000 in
theorem bX10_init_45 {p : Program} {l : Launch} {e : Env} {s : State} {m : MethodId} {args : Array Value} {below : List Frame} {meth : Method} {c : Code} {X : Ec} {h0 : Hp} {o : Hp} (C : Cx X p s m args meth c RX10 cX10_init 1 none "<init>") {h : Hp} {x0 : Nat} {t0 : Nat} {t1 : Nat} {H : Heap} {locs : List Loc} (k_x0 : hK h x0 = 10) (k_t0 : hK h t0 = 18) (k_t1 : hK h t1 = 10) (hkl : Kl h0 h) (hW : Wx X h H) (hZ : va_S (aA (eB X)) s.heap H locs) (ls : Array Slot) (hl : lv_has ls 1 [(0, .ref x0)]) (hE : sX10_init_45 h x0 t0 t1 = some o) : W p l e (rmA 1 20 h0 o) s m args below meth c H locs (hS h - hS h0) (hL h - hL h0) (MQ below (QVA X h0 o) args s (hS o - hS h0) (hL o - hL h0) (aA (eB X))) (F0 m 45 ls [.ref t0, .ref t1]) := by
  obtain ⟨h_1, eh_1, hE⟩ := nm_e2 hE
  refine pf_X10_26 C hW hZ rfl k_t1 k_t0 eh_1 dX10_init_45 (fun _ _ hW km hZ => ?_)
  replace hkl := hkl.tr km.l
  refine x_wc km ?_
  replace k_x0 := km.at k_x0 (by decide)
  refine lv_aload_n C.1 C.2.1 dX10_init_48 rfl (lv_at hl 0 rfl) ?_
  refine lv_bipush (v := (64 : Int32)) C.1 C.2.1 dX10_init_49 (by decide) ?_
  obtain ⟨a_2, ea_2, hE⟩ := nm_e2 hE
  obtain ⟨h_3, eh_3, hE⟩ := nm_e2 hE
  refine y_newa (k := 18) (ty := .long) (t0 := 2) C hW hZ hkl (moX10_init_53 hE) ⟨rfl, rfl⟩ (by decide) (by decide) rfl rfl (by intro C hC; cases hC) hdef_18 m_257 (by decide) (by decide) eh_3 dX10_init_51 (fun _ hW km k_a_2 hZ => ?_)
  replace hkl := hkl.tr km
  refine x_nmA ea_2 ?_
  rw [← ea_2] at k_a_2
  replace k_x0 := km.at k_x0 (by decide)
  exact bX10_init_53 C k_x0 k_a_2 k_x0 hkl hW hZ _ (lv_sub hl [0] rfl) hE
set_option maxRecDepth 20000 in
theorem bX10_init_36 {p : Program} {l : Launch} {e : Env} {s : State} {m : MethodId} {args : Array Value} {below : List Frame} {meth : Method} {c : Code} {X : Ec} {h0 : Hp} {o : Hp} (C : Cx X p s m args meth c RX10 cX10_init 1 none "<init>") {h : Hp} {x0 : Nat} {t0 : Nat} {t1 : Nat} {H : Heap} {locs : List Loc} (k_x0 : hK h x0 = 10) (k_t0 : hK h t0 = 18) (k_t1 : hK h t1 = 10) (hkl : Kl h0 h) (hW : Wx X h H) (hZ : va_S (aA (eB X)) s.heap H locs) (ls : Array Slot) (hl : lv_has ls 1 [(0, .ref x0)]) (hE : sX10_init_36 h x0 t0 t1 = some o) : W p l e (rmA 1 20 h0 o) s m args below meth c H locs (hS h - hS h0) (hL h - hL h0) (MQ below (QVA X h0 o) args s (hS o - hS h0) (hL o - hL h0) (aA (eB X))) (F0 m 36 ls [.ref t0, .ref t1]) := by
  obtain ⟨h_1, eh_1, hE⟩ := nm_e2 hE
  refine pf_X10_23 C hW hZ rfl k_t1 k_t0 eh_1 dX10_init_36 (fun _ _ hW km hZ => ?_)
  replace hkl := hkl.tr km.l
  refine x_wc km ?_
  replace k_x0 := km.at k_x0 (by decide)
  refine lv_aload_n C.1 C.2.1 dX10_init_39 rfl (lv_at hl 0 rfl) ?_
  refine lv_sipush (v := (1536 : Int32)) C.1 C.2.1 dX10_init_40 (by decide) ?_
  obtain ⟨a_2, ea_2, hE⟩ := nm_e2 hE
  obtain ⟨h_3, eh_3, hE⟩ := nm_e2 hE
  refine y_newa (k := 18) (ty := .long) (t0 := 2) C hW hZ hkl (moX10_init_45 hE) ⟨rfl, rfl⟩ (by decide) (by decide) rfl rfl (by intro C hC; cases hC) hdef_18 m_257 (by decide) (by decide) eh_3 dX10_init_43 (fun _ hW km k_a_2 hZ => ?_)
  replace hkl := hkl.tr km
  refine x_nmA ea_2 ?_
  rw [← ea_2] at k_a_2
  replace k_x0 := km.at k_x0 (by decide)
  exact bX10_init_45 C k_x0 k_a_2 k_x0 hkl hW hZ _ (lv_sub hl [0] rfl) hE
set_option maxRecDepth 20000 in
theorem bX10_init_27 {p : Program} {l : Launch} {e : Env} {s : State} {m : MethodId} {args : Array Value} {below : List Frame} {meth : Method} {c : Code} {X : Ec} {h0 : Hp} {o : Hp} (C : Cx X p s m args meth c RX10 cX10_init 1 none "<init>") {h : Hp} {x0 : Nat} {t0 : Nat} {t1 : Nat} {H : Heap} {locs : List Loc} (k_x0 : hK h x0 = 10) (k_t0 : hK h t0 = 18) (k_t1 : hK h t1 = 10) (hkl : Kl h0 h) (hW : Wx X h H) (hZ : va_S (aA (eB X)) s.heap H locs) (ls : Array Slot) (hl : lv_has ls 1 [(0, .ref x0)]) (hE : sX10_init_27 h x0 t0 t1 = some o) : W p l e (rmA 1 20 h0 o) s m args below meth c H locs (hS h - hS h0) (hL h - hL h0) (MQ below (QVA X h0 o) args s (hS o - hS h0) (hL o - hL h0) (aA (eB X))) (F0 m 27 ls [.ref t0, .ref t1]) := by
  obtain ⟨h_1, eh_1, hE⟩ := nm_e2 hE
  refine pf_X10_19 C hW hZ k_t1 k_t0 eh_1 dX10_init_27 (fun _ _ hW km hZ => ?_)
  replace hkl := hkl.tr km.l
  refine x_wc km ?_
  replace k_x0 := km.at k_x0 (by decide)
  refine lv_aload_n C.1 C.2.1 dX10_init_30 rfl (lv_at hl 0 rfl) ?_
  refine lv_sipush (v := (1536 : Int32)) C.1 C.2.1 dX10_init_31 (by decide) ?_
  obtain ⟨a_2, ea_2, hE⟩ := nm_e2 hE
  obtain ⟨h_3, eh_3, hE⟩ := nm_e2 hE
  refine y_newa (k := 18) (ty := .long) (t0 := 2) C hW hZ hkl (moX10_init_36 hE) ⟨rfl, rfl⟩ (by decide) (by decide) rfl rfl (by intro C hC; cases hC) hdef_18 m_257 (by decide) (by decide) eh_3 dX10_init_34 (fun _ hW km k_a_2 hZ => ?_)
  replace hkl := hkl.tr km
  refine x_nmA ea_2 ?_
  rw [← ea_2] at k_a_2
  replace k_x0 := km.at k_x0 (by decide)
  exact bX10_init_36 C k_x0 k_a_2 k_x0 hkl hW hZ _ (lv_sub hl [0] rfl) hE
set_option maxRecDepth 20000 in
theorem bX10_init_18 {p : Program} {l : Launch} {e : Env} {s : State} {m : MethodId} {args : Array Value} {below : List Frame} {meth : Method} {c : Code} {X : Ec} {h0 : Hp} {o : Hp} (C : Cx X p s m args meth c RX10 cX10_init 1 none "<init>") {h : Hp} {x0 : Nat} {t0 : Nat} {t1 : Nat} {H : Heap} {locs : List Loc} (k_x0 : hK h x0 = 10) (k_t0 : hK h t0 = 17) (k_t1 : hK h t1 = 10) (hkl : Kl h0 h) (hW : Wx X h H) (hZ : va_S (aA (eB X)) s.heap H locs) (ls : Array Slot) (hl : lv_has ls 1 [(0, .ref x0)]) (hE : sX10_init_18 h x0 t0 t1 = some o) : W p l e (rmA 1 20 h0 o) s m args below meth c H locs (hS h - hS h0) (hL h - hL h0) (MQ below (QVA X h0 o) args s (hS o - hS h0) (hL o - hL h0) (aA (eB X))) (F0 m 18 ls [.ref t0, .ref t1]) := by
  obtain ⟨h_1, eh_1, hE⟩ := nm_e2 hE
  refine pf_X10_16 C hW hZ k_t1 k_t0 eh_1 dX10_init_18 (fun _ _ hW km hZ => ?_)
  replace hkl := hkl.tr km.l
  refine x_wc km ?_
  replace k_x0 := km.at k_x0 (by decide)
  refine lv_aload_n C.1 C.2.1 dX10_init_21 rfl (lv_at hl 0 rfl) ?_
  refine lv_sipush (v := (16384 : Int32)) C.1 C.2.1 dX10_init_22 (by decide) ?_
  obtain ⟨a_2, ea_2, hE⟩ := nm_e2 hE
  obtain ⟨h_3, eh_3, hE⟩ := nm_e2 hE
  refine y_newa (k := 18) (ty := .long) (t0 := 2) C hW hZ hkl (moX10_init_27 hE) ⟨rfl, rfl⟩ (by decide) (by decide) rfl rfl (by intro C hC; cases hC) hdef_18 m_257 (by decide) (by decide) eh_3 dX10_init_25 (fun _ hW km k_a_2 hZ => ?_)
  replace hkl := hkl.tr km
  refine x_nmA ea_2 ?_
  rw [← ea_2] at k_a_2
  replace k_x0 := km.at k_x0 (by decide)
  exact bX10_init_27 C k_x0 k_a_2 k_x0 hkl hW hZ _ (lv_sub hl [0] rfl) hE
set_option maxRecDepth 20000 in
theorem bX10_init_9 {p : Program} {l : Launch} {e : Env} {s : State} {m : MethodId} {args : Array Value} {below : List Frame} {meth : Method} {c : Code} {X : Ec} {h0 : Hp} {o : Hp} (C : Cx X p s m args meth c RX10 cX10_init 1 none "<init>") {h : Hp} {x0 : Nat} {t0 : Nat} {t1 : Nat} {H : Heap} {locs : List Loc} (k_x0 : hK h x0 = 10) (k_t0 : hK h t0 = 17) (k_t1 : hK h t1 = 10) (hkl : Kl h0 h) (hW : Wx X h H) (hZ : va_S (aA (eB X)) s.heap H locs) (ls : Array Slot) (hl : lv_has ls 1 [(0, .ref x0)]) (hE : sX10_init_9 h x0 t0 t1 = some o) : W p l e (rmA 1 20 h0 o) s m args below meth c H locs (hS h - hS h0) (hL h - hL h0) (MQ below (QVA X h0 o) args s (hS o - hS h0) (hL o - hL h0) (aA (eB X))) (F0 m 9 ls [.ref t0, .ref t1]) := by
  obtain ⟨h_1, eh_1, hE⟩ := nm_e2 hE
  refine pf_X10_10 C hW hZ rfl k_t1 k_t0 eh_1 dX10_init_9 (fun _ _ hW km hZ => ?_)
  replace hkl := hkl.tr km.l
  refine x_wc km ?_
  replace k_x0 := km.at k_x0 (by decide)
  refine lv_aload_n C.1 C.2.1 dX10_init_12 rfl (lv_at hl 0 rfl) ?_
  refine lv_sipush (v := (16384 : Int32)) C.1 C.2.1 dX10_init_13 (by decide) ?_
  obtain ⟨a_2, ea_2, hE⟩ := nm_e2 hE
  obtain ⟨h_3, eh_3, hE⟩ := nm_e2 hE
  refine y_newa (k := 17) (ty := .int) (t0 := 1) C hW hZ hkl (moX10_init_18 hE) ⟨rfl, rfl⟩ (by decide) (by decide) rfl rfl (by intro C hC; cases hC) hdef_17 m_54 (by decide) (by decide) eh_3 dX10_init_16 (fun _ hW km k_a_2 hZ => ?_)
  replace hkl := hkl.tr km
  refine x_nmA ea_2 ?_
  rw [← ea_2] at k_a_2
  replace k_x0 := km.at k_x0 (by decide)
  exact bX10_init_18 C k_x0 k_a_2 k_x0 hkl hW hZ _ (lv_sub hl [0] rfl) hE
set_option maxRecDepth 20000 in
theorem ct_X10_init (l : Launch) (X : Ec) {h : Hp} {x0 : Nat} {o : Hp} (k_x0 : hK h x0 = 10) (hE : sX10_init h x0 = some o) : MetVA l yX10_init cX10_init 1 none 1 20 X [.ref x0] h o := by
  refine x_metA (oh := o) (by decide) (Nat.le_of_ble_eq_true rfl) ?_
  intro p e s m below meth c ls C hl hW hZ
  have hl : lv_has ls 1 [(0, .ref x0)] := hl
  have hkl : Kl h h := Kl.rf h
  refine lv_aload_n C.1 C.2.1 dX10_init_0 rfl (lv_at hl 0 rfl) ?_
  refine W.objInit C.1 C.2.1 C.2.2.2.1 (C.2.2.2.2.1 _ m_222) (C.2.2.2.2.1 _ m_32) (C.2.2.2.2.1 _ m_33) rfl (by rw [C.2.2.1]; exact hl.1) rfl dX10_init_1 (Nat.le_of_ble_eq_true rfl) (Nat.le_of_ble_eq_true rfl) ?_
  refine W.eq (g2 := F0 m 4 ls []) rfl ?_
  refine lv_aload_n C.1 C.2.1 dX10_init_4 rfl (lv_at hl 0 rfl) ?_
  refine lv_ldc (v := (98305 : Int32)) C.1 C.2.1 C.2.2.2.1 (C.2.2.2.2.1 _ m_223) dX10_init_5 ?_
  obtain ⟨a_1, ea_1, hE⟩ := nm_e2 hE
  obtain ⟨h_2, eh_2, hE⟩ := nm_e2 hE
  refine y_newa (k := 17) (ty := .int) (t0 := 1) C hW hZ hkl (moX10_init_9 hE) ⟨rfl, rfl⟩ (by decide) (by decide) rfl rfl (by intro C hC; cases hC) hdef_17 m_54 (by decide) (by decide) eh_2 dX10_init_7 (fun _ hW km k_a_1 hZ => ?_)
  replace hkl := hkl.tr km
  refine x_nmA ea_1 ?_
  rw [← ea_1] at k_a_1
  replace k_x0 := km.at k_x0 (by decide)
  exact bX10_init_9 C k_x0 k_a_1 k_x0 hkl hW hZ _ (lv_sub hl [0] rfl) hE
theorem m_64 : Cond.fieldLink RX10 110 (TX1 0).1 (TX1 0).2.1 (TX1 0).2.2.1 ∈ W0 := w0_in (List.mem_append_right _ (List.mem_of_getElem? (i := 64) (by decide +kernel))) rfl
theorem m_70 : Cond.fieldLink RX10 96 (TX1 1).1 (TX1 1).2.1 (TX1 1).2.2.1 ∈ W0 := w0_in (List.mem_append_right _ (List.mem_of_getElem? (i := 70) (by decide +kernel))) rfl
theorem m_236 : Cond.fieldLink RX10 35 (TX10 7).1 (TX10 7).2.1 (TX10 7).2.2.1 ∈ W0 := w0_in (List.mem_append_right _ (List.mem_of_getElem? (i := 236) (by decide +kernel))) rfl
section
variable {p : Program} {l : Launch} {e : Env} {R : Room} {s : State} {m : MethodId} {args : Array Value} {below : List Frame} {meth : Method} {c : Code} {H : Heap} {locs : List Loc} {cells slots : Nat} {Q : State → Prop}
variable {cc : ByteArray} {pc : Nat} {ls : Array Slot} {rest : List Value} {X : Ec} {h h1 : Hp} {nL : Nat} {rt : Option FieldType} {mn : String}
theorem gf_X10_35 {a r : Nat} (C : Cx X p s m args meth c RX10 cc nL rt mn) (hW : Wx X h H) (ha : hK h a = 10) (hr : hR h a 7 = some r) (hdg : decode cc pc = .ok (.getfield 35, 3)) (kk : hK h r = 1 → W p l e R s m args below meth c H locs cells slots Q (F0 m (pc + 3) ls (.ref r :: rest))) : W p l e R s m args below meth c H locs cells slots Q (F0 m pc ls (.ref a :: rest)) :=
  y_getr C hW ha i_X10 (by decide) rfl (by decide) m_236 rfl rfl hr hdg kk
theorem gf_X10_110 {a : Nat} (C : Cx X p s m args meth c RX10 cc nL rt mn) (hW : Wx X h H) (ha : hK h a = 1) (hdg : decode cc pc = .ok (.getfield 110, 3)) (kk : W p l e R s m args below meth c H locs cells slots Q (F0 m (pc + 3) ls (.int (hI h a 0) :: rest))) : W p l e R s m args below meth c H locs cells slots Q (F0 m pc ls (.ref a :: rest)) :=
  y_geti C hW ha i_X1 (by decide) rfl (by decide) m_64 rfl hdg kk
theorem gf_X10_96 {a : Nat} (C : Cx X p s m args meth c RX10 cc nL rt mn) (hW : Wx X h H) (ha : hK h a = 1) (hdg : decode cc pc = .ok (.getfield 96, 3)) (kk : W p l e R s m args below meth c H locs cells slots Q (F0 m (pc + 3) ls (.int (hI h a 1) :: rest))) : W p l e R s m args below meth c H locs cells slots Q (F0 m pc ls (.ref a :: rest)) :=
  y_geti C hW ha i_X1 (by decide) rfl (by decide) m_70 rfl hdg kk
end
theorem dX10_isOn_0 : decode cX10_isOn 0 = .ok (.iload_n 1, 1) := by decide +kernel
theorem dX10_isOn_1 : decode cX10_isOn 1 = .ok (.ifCond .lt 33, 3) := by decide +kernel
theorem dX10_isOn_4 : decode cX10_isOn 4 = .ok (.iload_n 1, 1) := by decide +kernel
theorem dX10_isOn_5 : decode cX10_isOn 5 = .ok (.aload_n 0, 1) := by decide +kernel
theorem dX10_isOn_6 : decode cX10_isOn 6 = .ok (.getfield 35, 3) := by decide +kernel
theorem dX10_isOn_9 : decode cX10_isOn 9 = .ok (.getfield 110, 3) := by decide +kernel
theorem dX10_isOn_12 : decode cX10_isOn 12 = .ok (.if_icmp .ge 22, 3) := by decide +kernel
theorem dX10_isOn_15 : decode cX10_isOn 15 = .ok (.iload_n 2, 1) := by decide +kernel
theorem dX10_isOn_16 : decode cX10_isOn 16 = .ok (.ifCond .lt 18, 3) := by decide +kernel
theorem dX10_isOn_19 : decode cX10_isOn 19 = .ok (.iload_n 2, 1) := by decide +kernel
theorem dX10_isOn_20 : decode cX10_isOn 20 = .ok (.aload_n 0, 1) := by decide +kernel
theorem dX10_isOn_21 : decode cX10_isOn 21 = .ok (.getfield 35, 3) := by decide +kernel
theorem dX10_isOn_24 : decode cX10_isOn 24 = .ok (.getfield 96, 3) := by decide +kernel
theorem dX10_isOn_27 : decode cX10_isOn 27 = .ok (.if_icmp .ge 7, 3) := by decide +kernel
theorem dX10_isOn_30 : decode cX10_isOn 30 = .ok (.iconst 1, 1) := by decide +kernel
theorem dX10_isOn_31 : decode cX10_isOn 31 = .ok (.goto 4, 3) := by decide +kernel
theorem dX10_isOn_34 : decode cX10_isOn 34 = .ok (.iconst 0, 1) := by decide +kernel
theorem dX10_isOn_35 : decode cX10_isOn 35 = .ok (.ireturn, 1) := by decide +kernel
def sX10_isOn_35 (h : Hp) (t0 : Int32) : Option (Int32 × Hp) := gd (t0 &&& 1 = t0) <| some (t0, h)
def sX10_isOn_34 (h : Hp) : Option (Int32 × Hp) := sX10_isOn_35  h (0 : Int32)
def sX10_isOn (h : Hp) (x0 : Nat) (x1 : Int32) (x2 : Int32) : Option (Int32 × Hp) := br (x1 < 0) (sX10_isOn_34  h ) (cl (hR h x0 7) fun r_2 => br ((hI h r_2 0) ≤ x1) (sX10_isOn_34  h ) (br (x2 < 0) (sX10_isOn_34  h ) (cl (hR h x0 7) fun r_5 => br ((hI h r_5 1) ≤ x2) (sX10_isOn_34  h ) (sX10_isOn_35  h (1 : Int32)))))
theorem moX10_isOn_35 {o : Int32 × Hp} {h : Hp} {t0 : Int32} (hE : sX10_isOn_35 h  t0 = some o) : Le h o.2 := by
  obtain ⟨g_1, hE⟩ := gd_e hE
  cases hE
  exact Le.rf _
theorem moX10_isOn_34 {o : Int32 × Hp} {h : Hp} (hE : sX10_isOn_34 h  = some o) : Le h o.2 := by
  exact moX10_isOn_35 hE
theorem moX10_isOn {o : Int32 × Hp} {h : Hp} {x0 : Nat} {x1 : Int32} {x2 : Int32} (hE : sX10_isOn h x0 x1 x2 = some o) : Le h o.2 := by
  rcases br_e hE with ⟨_, hE⟩ | ⟨_, hE⟩
  · exact moX10_isOn_34 hE
  · obtain ⟨r_2, er_2, hE⟩ := cl_e hE
    rcases br_e hE with ⟨_, hE⟩ | ⟨_, hE⟩
    · exact moX10_isOn_34 hE
    · rcases br_e hE with ⟨_, hE⟩ | ⟨_, hE⟩
      · exact moX10_isOn_34 hE
      · obtain ⟨r_5, er_5, hE⟩ := cl_e hE
        rcases br_e hE with ⟨_, hE⟩ | ⟨_, hE⟩
        · exact moX10_isOn_34 hE
        · exact moX10_isOn_35 hE
set_option maxRecDepth 20000 in
theorem bX10_isOn_35 {p : Program} {l : Launch} {e : Env} {s : State} {m : MethodId} {args : Array Value} {below : List Frame} {meth : Method} {c : Code} {X : Ec} {h0 : Hp} {o : Int32 × Hp} (C : Cx X p s m args meth c RX10 cX10_isOn 3 (some .boolean) "isOn") {h : Hp} {t0 : Int32} {H : Heap} {locs : List Loc} (hkm : Km h0 h) (hW : Wx X h H) (hZ : va_S (aA (eB X)) s.heap H locs) (ls : Array Slot) (hl : lv_has ls 3 []) (hE : sX10_isOn_35 h  t0 = some o) : W p l e (rm 0 0) s m args below meth c H locs 0 0 (MQ below (QI X h0 o.1 o.2) args s 0 0 (aA (eB X))) (F0 m 35 ls [.int t0]) := by
  obtain ⟨g_1, hE⟩ := gd_e hE
  exact x_iret C rfl (narB g_1) hW hZ hkm hE dX10_isOn_35
set_option maxRecDepth 20000 in
theorem bX10_isOn_34 {p : Program} {l : Launch} {e : Env} {s : State} {m : MethodId} {args : Array Value} {below : List Frame} {meth : Method} {c : Code} {X : Ec} {h0 : Hp} {o : Int32 × Hp} (C : Cx X p s m args meth c RX10 cX10_isOn 3 (some .boolean) "isOn") {h : Hp} {H : Heap} {locs : List Loc} (hkm : Km h0 h) (hW : Wx X h H) (hZ : va_S (aA (eB X)) s.heap H locs) (ls : Array Slot) (hl : lv_has ls 3 []) (hE : sX10_isOn_34 h  = some o) : W p l e (rm 0 0) s m args below meth c H locs 0 0 (MQ below (QI X h0 o.1 o.2) args s 0 0 (aA (eB X))) (F0 m 34 ls []) := by
  refine lv_iconst (v := (0 : Int32)) C.1 C.2.1 dX10_isOn_34 (by decide) ?_
  exact bX10_isOn_35 C hkm hW hZ _ (lv_sub hl [] rfl) hE
set_option maxRecDepth 20000 in
theorem ct_X10_isOn (l : Launch) (X : Ec) {h : Hp} {x0 : Nat} {x1 : Int32} {x2 : Int32} {o : Int32 × Hp} (k_x0 : hK h x0 = 10) (hE : sX10_isOn h x0 x1 x2 = some o) : MetI l yX10_isOn cX10_isOn 3 (some .boolean) 0 0 X [.ref x0, .int x1, .int x2] h o := by
  refine x_met (by decide) (Nat.le_of_ble_eq_true rfl) ?_
  intro p e s m below meth c ls C hl hW hZ
  have hl : lv_has ls 3 [(0, .ref x0), (1, .int x1), (2, .int x2)] := hl
  have hkm : Km h h := Km.rf h
  refine lv_iload_n C.1 C.2.1 dX10_isOn_0 rfl (lv_at hl 1 rfl) ?_
  refine lv_if_lt (tgt := 34) C.1 C.2.1 dX10_isOn_1 (by decide) (fun c_1 => ?_) (fun c_1 => ?_)
  · have hE := br_p hE c_1
    exact bX10_isOn_34 C hkm hW hZ _ (lv_sub hl [] rfl) hE
  · have hE := br_n hE c_1
    refine lv_iload_n C.1 C.2.1 dX10_isOn_4 rfl (lv_at hl 1 rfl) ?_
    refine lv_aload_n C.1 C.2.1 dX10_isOn_5 rfl (lv_at hl 0 rfl) ?_
    obtain ⟨r_2, er_2, hE⟩ := cl_e hE
    refine gf_X10_35 C hW k_x0 er_2 dX10_isOn_6 (fun k_r_2 => ?_)
    refine gf_X10_110 C hW k_r_2 dX10_isOn_9 ?_
    refine lv_icmp_ge (tgt := 34) C.1 C.2.1 dX10_isOn_12 (by decide) (fun c_3 => ?_) (fun c_3 => ?_)
    · have hE := br_p hE c_3
      exact bX10_isOn_34 C hkm hW hZ _ (lv_sub hl [] rfl) hE
    · have hE := br_n hE c_3
      refine lv_iload_n C.1 C.2.1 dX10_isOn_15 rfl (lv_at hl 2 rfl) ?_
      refine lv_if_lt (tgt := 34) C.1 C.2.1 dX10_isOn_16 (by decide) (fun c_4 => ?_) (fun c_4 => ?_)
      · have hE := br_p hE c_4
        exact bX10_isOn_34 C hkm hW hZ _ (lv_sub hl [] rfl) hE
      · have hE := br_n hE c_4
        refine lv_iload_n C.1 C.2.1 dX10_isOn_19 rfl (lv_at hl 2 rfl) ?_
        refine lv_aload_n C.1 C.2.1 dX10_isOn_20 rfl (lv_at hl 0 rfl) ?_
        obtain ⟨r_5, er_5, hE⟩ := cl_e hE
        refine gf_X10_35 C hW k_x0 er_5 dX10_isOn_21 (fun k_r_5 => ?_)
        refine gf_X10_96 C hW k_r_5 dX10_isOn_24 ?_
        refine lv_icmp_ge (tgt := 34) C.1 C.2.1 dX10_isOn_27 (by decide) (fun c_6 => ?_) (fun c_6 => ?_)
        · have hE := br_p hE c_6
          exact bX10_isOn_34 C hkm hW hZ _ (lv_sub hl [] rfl) hE
        · have hE := br_n hE c_6
          refine lv_iconst (v := (1 : Int32)) C.1 C.2.1 dX10_isOn_30 (by decide) ?_
          refine lv_goto (tgt := 35) C.1 C.2.1 dX10_isOn_31 (by decide) ?_
          exact bX10_isOn_35 C hkm hW hZ _ (lv_sub hl [] rfl) hE
theorem ms_25 : Cond.selects RX10 yX10_isOn yX10_isOn ∈ W0 := w0_in (List.mem_append_left _ (List.mem_of_getElem? (i := 25) (by decide +kernel))) rfl
theorem m_6 : Cond.initialized RX10 ∈ W0 := w0_in (List.mem_append_right _ (List.mem_of_getElem? (i := 6) (by decide +kernel))) rfl
theorem m_137 : Cond.fieldLink RX10 103 (TX1 19).1 (TX1 19).2.1 (TX1 19).2.2.1 ∈ W0 := w0_in (List.mem_append_right _ (List.mem_of_getElem? (i := 137) (by decide +kernel))) rfl
theorem m_143 : Cond.fieldLink RX10 93 (TX1 20).1 (TX1 20).2.1 (TX1 20).2.2.1 ∈ W0 := w0_in (List.mem_append_right _ (List.mem_of_getElem? (i := 143) (by decide +kernel))) rfl
theorem m_809 : Cond.methodLink RX10 106 yX10_isOn ∈ W0 := w0_in (List.mem_append_right _ (List.mem_of_getElem? (i := 809) (by decide +kernel))) rfl
theorem m_811 : Cond.instanceMethod yX10_isOn ∈ W0 := w0_in (List.mem_append_right _ (List.mem_of_getElem? (i := 811) (by decide +kernel))) rfl
theorem m_812 : Cond.code yX10_isOn cX10_isOn 3 (some .boolean) ∈ W0 := w0_in (List.mem_append_right _ (List.mem_of_getElem? (i := 812) (by decide +kernel))) rfl
section
variable {p : Program} {l : Launch} {e : Env} {R : Room} {s : State} {m : MethodId} {args : Array Value} {below : List Frame} {meth : Method} {c : Code} {H : Heap} {locs : List Loc} {cells slots : Nat} {Q : State → Prop}
variable {cc : ByteArray} {pc : Nat} {ls : Array Slot} {rest : List Value} {X : Ec} {h h1 : Hp} {nL : Nat} {rt : Option FieldType} {mn : String}
theorem gf_X10_32 {a r : Nat} (C : Cx X p s m args meth c RX10 cc nL rt mn) (hW : Wx X h H) (ha : hK h a = 10) (hr : hR h a 6 = some r) (hdg : decode cc pc = .ok (.getfield 32, 3)) (kk : hK h r = 17 → W p l e R s m args below meth c H locs cells slots Q (F0 m (pc + 3) ls (.ref r :: rest))) : W p l e R s m args below meth c H locs cells slots Q (F0 m pc ls (.ref a :: rest)) :=
  y_getr C hW ha i_X10 (by decide) rfl (by decide) m_235 rfl rfl hr hdg kk
theorem gf_X10_103 {a r : Nat} (C : Cx X p s m args meth c RX10 cc nL rt mn) (hW : Wx X h H) (ha : hK h a = 1) (hr : hR h a 19 = some r) (hdg : decode cc pc = .ok (.getfield 103, 3)) (kk : hK h r = 17 → W p l e R s m args below meth c H locs cells slots Q (F0 m (pc + 3) ls (.ref r :: rest))) : W p l e R s m args below meth c H locs cells slots Q (F0 m pc ls (.ref a :: rest)) :=
  y_getr C hW ha i_X1 (by decide) rfl (by decide) m_137 rfl rfl hr hdg kk
theorem gf_X10_93 {a r : Nat} (C : Cx X p s m args meth c RX10 cc nL rt mn) (hW : Wx X h H) (ha : hK h a = 1) (hr : hR h a 20 = some r) (hdg : decode cc pc = .ok (.getfield 93, 3)) (kk : hK h r = 17 → W p l e R s m args below meth c H locs cells slots Q (F0 m (pc + 3) ls (.ref r :: rest))) : W p l e R s m args below meth c H locs cells slots Q (F0 m pc ls (.ref a :: rest)) :=
  y_getr C hW ha i_X1 (by decide) rfl (by decide) m_143 rfl rfl hr hdg kk
end
theorem cw_X10_106 : cwd RX10 106 yX10_isOn cX10_isOn 3 (some .boolean) false 2 := ⟨m_812, m_809, m_6, ⟨m_811, ms_25⟩, by decide, by decide, by decide +kernel⟩
theorem dX10_ride_0 : decode cX10_ride 0 = .ok (.iload_n 3, 1) := by decide +kernel
theorem dX10_ride_1 : decode cX10_ride 1 = .ok (.bipush 6, 2) := by decide +kernel
theorem dX10_ride_3 : decode cX10_ride 3 = .ok (.ishr, 1) := by decide +kernel
theorem dX10_ride_4 : decode cX10_ride 4 = .ok (.bipush 15, 2) := by decide +kernel
theorem dX10_ride_6 : decode cX10_ride 6 = .ok (.iand, 1) := by decide +kernel
theorem dX10_ride_7 : decode cX10_ride 7 = .ok (.bipush 8, 2) := by decide +kernel
theorem dX10_ride_9 : decode cX10_ride 9 = .ok (.isub, 1) := by decide +kernel
theorem dX10_ride_10 : decode cX10_ride 10 = .ok (.istore 6, 2) := by decide +kernel
theorem dX10_ride_12 : decode cX10_ride 12 = .ok (.iload_n 3, 1) := by decide +kernel
theorem dX10_ride_13 : decode cX10_ride 13 = .ok (.bipush 10, 2) := by decide +kernel
theorem dX10_ride_15 : decode cX10_ride 15 = .ok (.ishr, 1) := by decide +kernel
theorem dX10_ride_16 : decode cX10_ride 16 = .ok (.bipush 15, 2) := by decide +kernel
theorem dX10_ride_18 : decode cX10_ride 18 = .ok (.iand, 1) := by decide +kernel
theorem dX10_ride_19 : decode cX10_ride 19 = .ok (.bipush 8, 2) := by decide +kernel
theorem dX10_ride_21 : decode cX10_ride 21 = .ok (.isub, 1) := by decide +kernel
theorem dX10_ride_22 : decode cX10_ride 22 = .ok (.istore 7, 2) := by decide +kernel
theorem dX10_ride_24 : decode cX10_ride 24 = .ok (.iload_n 3, 1) := by decide +kernel
theorem dX10_ride_25 : decode cX10_ride 25 = .ok (.iconst 4, 1) := by decide +kernel
theorem dX10_ride_26 : decode cX10_ride 26 = .ok (.iand, 1) := by decide +kernel
theorem dX10_ride_27 : decode cX10_ride 27 = .ok (.ifCond .eq 7, 3) := by decide +kernel
theorem dX10_ride_30 : decode cX10_ride 30 = .ok (.iconst 1, 1) := by decide +kernel
theorem dX10_ride_31 : decode cX10_ride 31 = .ok (.goto 4, 3) := by decide +kernel
theorem dX10_ride_34 : decode cX10_ride 34 = .ok (.iconst 0, 1) := by decide +kernel
theorem dX10_ride_35 : decode cX10_ride 35 = .ok (.istore 8, 2) := by decide +kernel
theorem dX10_ride_37 : decode cX10_ride 37 = .ok (.iload 8, 2) := by decide +kernel
theorem dX10_ride_39 : decode cX10_ride 39 = .ok (.ifCond .eq 8, 3) := by decide +kernel
theorem dX10_ride_42 : decode cX10_ride 42 = .ok (.iload 6, 2) := by decide +kernel
theorem dX10_ride_44 : decode cX10_ride 44 = .ok (.goto 17, 3) := by decide +kernel
theorem dX10_ride_47 : decode cX10_ride 47 = .ok (.iload 4, 2) := by decide +kernel
theorem dX10_ride_49 : decode cX10_ride 49 = .ok (.iconst 4, 1) := by decide +kernel
theorem dX10_ride_50 : decode cX10_ride 50 = .ok (.iand, 1) := by decide +kernel
theorem dX10_ride_51 : decode cX10_ride 51 = .ok (.ifCond .ne 8, 3) := by decide +kernel
theorem dX10_ride_54 : decode cX10_ride 54 = .ok (.iload 6, 2) := by decide +kernel
theorem dX10_ride_56 : decode cX10_ride 56 = .ok (.goto 5, 3) := by decide +kernel
theorem dX10_ride_59 : decode cX10_ride 59 = .ok (.iload 7, 2) := by decide +kernel
theorem dX10_ride_61 : decode cX10_ride 61 = .ok (.istore 9, 2) := by decide +kernel
theorem dX10_ride_63 : decode cX10_ride 63 = .ok (.iload 8, 2) := by decide +kernel
theorem dX10_ride_65 : decode cX10_ride 65 = .ok (.ifCond .eq 8, 3) := by decide +kernel
theorem dX10_ride_68 : decode cX10_ride 68 = .ok (.iload 7, 2) := by decide +kernel
theorem dX10_ride_70 : decode cX10_ride 70 = .ok (.goto 17, 3) := by decide +kernel
theorem dX10_ride_73 : decode cX10_ride 73 = .ok (.iload 4, 2) := by decide +kernel
theorem dX10_ride_75 : decode cX10_ride 75 = .ok (.iconst 4, 1) := by decide +kernel
theorem dX10_ride_76 : decode cX10_ride 76 = .ok (.iand, 1) := by decide +kernel
theorem dX10_ride_77 : decode cX10_ride 77 = .ok (.ifCond .ne 8, 3) := by decide +kernel
theorem dX10_ride_80 : decode cX10_ride 80 = .ok (.iload 7, 2) := by decide +kernel
theorem dX10_ride_82 : decode cX10_ride 82 = .ok (.goto 5, 3) := by decide +kernel
theorem dX10_ride_85 : decode cX10_ride 85 = .ok (.iload 6, 2) := by decide +kernel
theorem dX10_ride_87 : decode cX10_ride 87 = .ok (.istore 10, 2) := by decide +kernel
theorem dX10_ride_89 : decode cX10_ride 89 = .ok (.iload 4, 2) := by decide +kernel
theorem dX10_ride_91 : decode cX10_ride 91 = .ok (.iconst 1, 1) := by decide +kernel
theorem dX10_ride_92 : decode cX10_ride 92 = .ok (.iand, 1) := by decide +kernel
theorem dX10_ride_93 : decode cX10_ride 93 = .ok (.ifCond .eq 8, 3) := by decide +kernel
theorem dX10_ride_96 : decode cX10_ride 96 = .ok (.iload 9, 2) := by decide +kernel
theorem dX10_ride_98 : decode cX10_ride 98 = .ok (.ineg, 1) := by decide +kernel
theorem dX10_ride_99 : decode cX10_ride 99 = .ok (.istore 9, 2) := by decide +kernel
theorem dX10_ride_101 : decode cX10_ride 101 = .ok (.iload 4, 2) := by decide +kernel
theorem dX10_ride_103 : decode cX10_ride 103 = .ok (.iconst 2, 1) := by decide +kernel
theorem dX10_ride_104 : decode cX10_ride 104 = .ok (.iand, 1) := by decide +kernel
theorem dX10_ride_105 : decode cX10_ride 105 = .ok (.ifCond .ne 14, 3) := by decide +kernel
theorem dX10_ride_108 : decode cX10_ride 108 = .ok (.iload 8, 2) := by decide +kernel
theorem dX10_ride_110 : decode cX10_ride 110 = .ok (.ifCond .eq 14, 3) := by decide +kernel
theorem dX10_ride_113 : decode cX10_ride 113 = .ok (.iload 5, 2) := by decide +kernel
theorem dX10_ride_115 : decode cX10_ride 115 = .ok (.iconst 1, 1) := by decide +kernel
theorem dX10_ride_116 : decode cX10_ride 116 = .ok (.if_icmp .ne 8, 3) := by decide +kernel
theorem dX10_ride_119 : decode cX10_ride 119 = .ok (.iload 10, 2) := by decide +kernel
theorem dX10_ride_121 : decode cX10_ride 121 = .ok (.ineg, 1) := by decide +kernel
theorem dX10_ride_122 : decode cX10_ride 122 = .ok (.istore 10, 2) := by decide +kernel
theorem dX10_ride_124 : decode cX10_ride 124 = .ok (.lconst 0, 1) := by decide +kernel
theorem dX10_ride_125 : decode cX10_ride 125 = .ok (.lstore 11, 2) := by decide +kernel
theorem dX10_ride_127 : decode cX10_ride 127 = .ok (.aload_n 0, 1) := by decide +kernel
theorem dX10_ride_128 : decode cX10_ride 128 = .ok (.getfield 35, 3) := by decide +kernel
theorem dX10_ride_131 : decode cX10_ride 131 = .ok (.getfield 103, 3) := by decide +kernel
theorem dX10_ride_134 : decode cX10_ride 134 = .ok (.iload_n 1, 1) := by decide +kernel
theorem dX10_ride_135 : decode cX10_ride 135 = .ok (.iaload, 1) := by decide +kernel
theorem dX10_ride_136 : decode cX10_ride 136 = .ok (.iload 9, 2) := by decide +kernel
theorem dX10_ride_138 : decode cX10_ride 138 = .ok (.iadd, 1) := by decide +kernel
theorem dX10_ride_139 : decode cX10_ride 139 = .ok (.istore 13, 2) := by decide +kernel
theorem dX10_ride_141 : decode cX10_ride 141 = .ok (.aload_n 0, 1) := by decide +kernel
theorem dX10_ride_142 : decode cX10_ride 142 = .ok (.getfield 35, 3) := by decide +kernel
theorem dX10_ride_145 : decode cX10_ride 145 = .ok (.getfield 93, 3) := by decide +kernel
theorem dX10_ride_148 : decode cX10_ride 148 = .ok (.iload_n 1, 1) := by decide +kernel
theorem dX10_ride_149 : decode cX10_ride 149 = .ok (.iaload, 1) := by decide +kernel
theorem dX10_ride_150 : decode cX10_ride 150 = .ok (.iload 10, 2) := by decide +kernel
theorem dX10_ride_152 : decode cX10_ride 152 = .ok (.iadd, 1) := by decide +kernel
theorem dX10_ride_153 : decode cX10_ride 153 = .ok (.istore 14, 2) := by decide +kernel
theorem dX10_ride_155 : decode cX10_ride 155 = .ok (.iconst 1, 1) := by decide +kernel
theorem dX10_ride_156 : decode cX10_ride 156 = .ok (.istore 15, 2) := by decide +kernel
theorem dX10_ride_158 : decode cX10_ride 158 = .ok (.iload 15, 2) := by decide +kernel
theorem dX10_ride_160 : decode cX10_ride 160 = .ok (.iload_n 3, 1) := by decide +kernel
theorem dX10_ride_161 : decode cX10_ride 161 = .ok (.bipush 14, 2) := by decide +kernel
theorem dX10_ride_163 : decode cX10_ride 163 = .ok (.ishr, 1) := by decide +kernel
theorem dX10_ride_164 : decode cX10_ride 164 = .ok (.bipush 7, 2) := by decide +kernel
theorem dX10_ride_166 : decode cX10_ride 166 = .ok (.iand, 1) := by decide +kernel
theorem dX10_ride_167 : decode cX10_ride 167 = .ok (.if_icmp .gt 72, 3) := by decide +kernel
theorem dX10_ride_170 : decode cX10_ride 170 = .ok (.aload_n 0, 1) := by decide +kernel
theorem dX10_ride_171 : decode cX10_ride 171 = .ok (.iload 13, 2) := by decide +kernel
theorem dX10_ride_173 : decode cX10_ride 173 = .ok (.iload 14, 2) := by decide +kernel
theorem dX10_ride_175 : decode cX10_ride 175 = .ok (.invokevirtual 106, 3) := by decide +kernel
theorem dX10_ride_178 : decode cX10_ride 178 = .ok (.ifCond .eq 61, 3) := by decide +kernel
theorem dX10_ride_181 : decode cX10_ride 181 = .ok (.iload 14, 2) := by decide +kernel
theorem dX10_ride_183 : decode cX10_ride 183 = .ok (.aload_n 0, 1) := by decide +kernel
theorem dX10_ride_184 : decode cX10_ride 184 = .ok (.getfield 35, 3) := by decide +kernel
theorem dX10_ride_187 : decode cX10_ride 187 = .ok (.getfield 110, 3) := by decide +kernel
theorem dX10_ride_190 : decode cX10_ride 190 = .ok (.imul, 1) := by decide +kernel
theorem dX10_ride_191 : decode cX10_ride 191 = .ok (.iload 13, 2) := by decide +kernel
theorem dX10_ride_193 : decode cX10_ride 193 = .ok (.iadd, 1) := by decide +kernel
theorem dX10_ride_194 : decode cX10_ride 194 = .ok (.istore 16, 2) := by decide +kernel
theorem dX10_ride_196 : decode cX10_ride 196 = .ok (.aload_n 0, 1) := by decide +kernel
theorem dX10_ride_197 : decode cX10_ride 197 = .ok (.getfield 32, 3) := by decide +kernel
theorem dX10_ride_200 : decode cX10_ride 200 = .ok (.iload 16, 2) := by decide +kernel
theorem dX10_ride_202 : decode cX10_ride 202 = .ok (.bipush 8, 2) := by decide +kernel
theorem dX10_ride_204 : decode cX10_ride 204 = .ok (.imul, 1) := by decide +kernel
theorem dX10_ride_205 : decode cX10_ride 205 = .ok (.iload_n 2, 1) := by decide +kernel
theorem dX10_ride_206 : decode cX10_ride 206 = .ok (.iadd, 1) := by decide +kernel
theorem dX10_ride_207 : decode cX10_ride 207 = .ok (.iload 15, 2) := by decide +kernel
theorem dX10_ride_209 : decode cX10_ride 209 = .ok (.iastore, 1) := by decide +kernel
theorem dX10_ride_210 : decode cX10_ride 210 = .ok (.lload 11, 2) := by decide +kernel
theorem dX10_ride_212 : decode cX10_ride 212 = .ok (.lconst 1, 1) := by decide +kernel
theorem dX10_ride_213 : decode cX10_ride 213 = .ok (.iload 16, 2) := by decide +kernel
theorem dX10_ride_215 : decode cX10_ride 215 = .ok (.lshl, 1) := by decide +kernel
theorem dX10_ride_216 : decode cX10_ride 216 = .ok (.lor, 1) := by decide +kernel
theorem dX10_ride_217 : decode cX10_ride 217 = .ok (.lstore 11, 2) := by decide +kernel
theorem dX10_ride_219 : decode cX10_ride 219 = .ok (.iload 13, 2) := by decide +kernel
theorem dX10_ride_221 : decode cX10_ride 221 = .ok (.iload 9, 2) := by decide +kernel
theorem dX10_ride_223 : decode cX10_ride 223 = .ok (.iadd, 1) := by decide +kernel
theorem dX10_ride_224 : decode cX10_ride 224 = .ok (.istore 13, 2) := by decide +kernel
theorem dX10_ride_226 : decode cX10_ride 226 = .ok (.iload 14, 2) := by decide +kernel
theorem dX10_ride_228 : decode cX10_ride 228 = .ok (.iload 10, 2) := by decide +kernel
theorem dX10_ride_230 : decode cX10_ride 230 = .ok (.iadd, 1) := by decide +kernel
theorem dX10_ride_231 : decode cX10_ride 231 = .ok (.istore 14, 2) := by decide +kernel
theorem dX10_ride_233 : decode cX10_ride 233 = .ok (.iinc 15 1, 3) := by decide +kernel
theorem dX10_ride_236 : decode cX10_ride 236 = .ok (.goto (-78), 3) := by decide +kernel
theorem dX10_ride_239 : decode cX10_ride 239 = .ok (.lload 11, 2) := by decide +kernel
theorem dX10_ride_241 : decode cX10_ride 241 = .ok (.lreturn, 1) := by decide +kernel
def sX10_ride_239 (F : Nat) (h : Hp) (x11 : Int64) : Option (Int64 × Hp) := some (x11, h)
def sX10_ride_158 (F : Nat) : Nat → Hp → Nat → Int32 → Int32 → Int32 → Int32 → Int64 → Int32 → Int32 → Int32 → Option (Int64 × Hp)
  | 0, _, _, _, _, _, _, _, _, _, _ => none
  | f + 1, h, x0, x2, x3, x9, x10, x11, x13, x14, x15 => br (((x3 >>> ((14 : Int32) &&& 31)) &&& (7 : Int32)) < x15) (sX10_ride_239 F h x11) (cl (sX10_isOn h x0 x13 x14) fun o_2 => br (o_2.1 = 0) (sX10_ride_239 F o_2.2 x11) (cl (hR o_2.2 x0 7) fun r_4 => nm ((x14 * (hI o_2.2 r_4 0)) + x13) fun v_5 => cl (hR o_2.2 x0 6) fun r_6 => gd (inB ((v_5 * (8 : Int32)) + x2) (hN o_2.2 r_6)) <| nm (wI o_2.2 r_6 ((v_5 * (8 : Int32)) + x2).toNatClampNeg x15) fun h_8 => nm (x11 ||| ((1 : Int64) <<< (v_5.toInt64 &&& 63))) fun v_9 => nm (x13 + x9) fun v_10 => nm (x14 + x10) fun v_11 => nm (x15 + (1 : Int32)) fun v_12 => sX10_ride_158 F f h_8 x0 x2 x3 x9 x10 v_9 v_10 v_11 v_12))
def sX10_ride_124 (F : Nat) (h : Hp) (x0 : Nat) (x1 : Int32) (x2 : Int32) (x3 : Int32) (x9 : Int32) (x10 : Int32) : Option (Int64 × Hp) := cl (hR h x0 7) fun r_1 => cl (hR h r_1 19) fun r_2 => gd (inB x1 (hN h r_2)) <| nm ((hI h r_2 x1.toNatClampNeg) + x9) fun v_4 => cl (hR h x0 7) fun r_5 => cl (hR h r_5 20) fun r_6 => gd (inB x1 (hN h r_6)) <| nm ((hI h r_6 x1.toNatClampNeg) + x10) fun v_8 => sX10_ride_158 F F h x0 x2 x3 x9 x10 (0 : Int64) v_4 v_8 (1 : Int32)
def sX10_ride_119 (F : Nat) (h : Hp) (x0 : Nat) (x1 : Int32) (x2 : Int32) (x3 : Int32) (x9 : Int32) (x10 : Int32) : Option (Int64 × Hp) := nm (-x10) fun v_1 => sX10_ride_124 F h x0 x1 x2 x3 x9 v_1
def sX10_ride_101 (F : Nat) (h : Hp) (x0 : Nat) (x1 : Int32) (x2 : Int32) (x3 : Int32) (x4 : Int32) (x5 : Int32) (x8 : Int32) (x9 : Int32) (x10 : Int32) : Option (Int64 × Hp) := br ((x4 &&& (2 : Int32)) = 0) (br (x8 = 0) (sX10_ride_124 F h x0 x1 x2 x3 x9 x10) (br (x5 = (1 : Int32)) (sX10_ride_119 F h x0 x1 x2 x3 x9 x10) (sX10_ride_124 F h x0 x1 x2 x3 x9 x10))) (sX10_ride_119 F h x0 x1 x2 x3 x9 x10)
def sX10_ride_87 (F : Nat) (h : Hp) (x0 : Nat) (x1 : Int32) (x2 : Int32) (x3 : Int32) (x4 : Int32) (x5 : Int32) (x8 : Int32) (x9 : Int32) (t0 : Int32) : Option (Int64 × Hp) := br ((x4 &&& (1 : Int32)) = 0) (sX10_ride_101 F h x0 x1 x2 x3 x4 x5 x8 x9 t0) (nm (-x9) fun v_2 => sX10_ride_101 F h x0 x1 x2 x3 x4 x5 x8 v_2 t0)
def sX10_ride_61 (F : Nat) (h : Hp) (x0 : Nat) (x1 : Int32) (x2 : Int32) (x3 : Int32) (x4 : Int32) (x5 : Int32) (x6 : Int32) (x7 : Int32) (x8 : Int32) (t0 : Int32) : Option (Int64 × Hp) := br (x8 = 0) (br ((x4 &&& (4 : Int32)) = 0) (sX10_ride_87 F h x0 x1 x2 x3 x4 x5 x8 t0 x7) (sX10_ride_87 F h x0 x1 x2 x3 x4 x5 x8 t0 x6)) (sX10_ride_87 F h x0 x1 x2 x3 x4 x5 x8 t0 x7)
def sX10_ride_35 (F : Nat) (h : Hp) (x0 : Nat) (x1 : Int32) (x2 : Int32) (x3 : Int32) (x4 : Int32) (x5 : Int32) (x6 : Int32) (x7 : Int32) (t0 : Int32) : Option (Int64 × Hp) := br (t0 = 0) (br ((x4 &&& (4 : Int32)) = 0) (sX10_ride_61 F h x0 x1 x2 x3 x4 x5 x6 x7 t0 x6) (sX10_ride_61 F h x0 x1 x2 x3 x4 x5 x6 x7 t0 x7)) (sX10_ride_61 F h x0 x1 x2 x3 x4 x5 x6 x7 t0 x6)
def sX10_ride (F : Nat) (h : Hp) (x0 : Nat) (x1 : Int32) (x2 : Int32) (x3 : Int32) (x4 : Int32) (x5 : Int32) : Option (Int64 × Hp) := nm (((x3 >>> ((6 : Int32) &&& 31)) &&& (15 : Int32)) - (8 : Int32)) fun v_1 => nm (((x3 >>> ((10 : Int32) &&& 31)) &&& (15 : Int32)) - (8 : Int32)) fun v_2 => br ((x3 &&& (4 : Int32)) = 0) (sX10_ride_35 F h x0 x1 x2 x3 x4 x5 v_1 v_2 (0 : Int32)) (sX10_ride_35 F h x0 x1 x2 x3 x4 x5 v_1 v_2 (1 : Int32))
theorem moX10_ride_239 {o : Int64 × Hp} {F : Nat} {h : Hp} {x11 : Int64} (hE : sX10_ride_239 F h x11 = some o) : Le h o.2 := by
  cases hE
  exact Le.rf _
theorem moX10_ride_158 {o : Int64 × Hp} {F : Nat} : ∀ (f : Nat) {h : Hp} {x0 : Nat} {x2 : Int32} {x3 : Int32} {x9 : Int32} {x10 : Int32} {x11 : Int64} {x13 : Int32} {x14 : Int32} {x15 : Int32}, sX10_ride_158 F f h x0 x2 x3 x9 x10 x11 x13 x14 x15 = some o → Le h o.2 := by
  intro f
  induction f with
  | zero =>
    intro h x0 x2 x3 x9 x10 x11 x13 x14 x15 hE
    rw [sX10_ride_158] at hE
    cases hE
  | succ f ih =>
    intro h x0 x2 x3 x9 x10 x11 x13 x14 x15 hE
    rw [sX10_ride_158] at hE
    have mk_158 : ∀ (h : Hp) (x0 : Nat) (x2 : Int32) (x3 : Int32) (x9 : Int32) (x10 : Int32) (x11 : Int64) (x13 : Int32) (x14 : Int32) (x15 : Int32), sX10_ride_158 F f h x0 x2 x3 x9 x10 x11 x13 x14 x15 = some o → Le h o.2 := fun h x0 x2 x3 x9 x10 x11 x13 x14 x15 hE => ih hE
    rcases br_e hE with ⟨_, hE⟩ | ⟨_, hE⟩
    · exact moX10_ride_239 hE
    · obtain ⟨o_2, eo_2, hE⟩ := cl_e hE
      refine (moX10_isOn eo_2).tr ?_
      rcases br_e hE with ⟨_, hE⟩ | ⟨_, hE⟩
      · exact moX10_ride_239 hE
      · obtain ⟨r_4, er_4, hE⟩ := cl_e hE
        obtain ⟨v_5, ev_5, hE⟩ := nm_e2 hE
        obtain ⟨r_6, er_6, hE⟩ := cl_e hE
        obtain ⟨g_7, hE⟩ := gd_e hE
        obtain ⟨h_8, eh_8, hE⟩ := nm_e2 hE
        refine (le_I eh_8).tr ?_
        obtain ⟨v_9, ev_9, hE⟩ := nm_e2 hE
        obtain ⟨v_10, ev_10, hE⟩ := nm_e2 hE
        obtain ⟨v_11, ev_11, hE⟩ := nm_e2 hE
        obtain ⟨v_12, ev_12, hE⟩ := nm_e2 hE
        exact mk_158 _ _ _ _ _ _ _ _ _ _ hE
theorem moX10_ride_124 {o : Int64 × Hp} {F : Nat} {h : Hp} {x0 : Nat} {x1 : Int32} {x2 : Int32} {x3 : Int32} {x9 : Int32} {x10 : Int32} (hE : sX10_ride_124 F h x0 x1 x2 x3 x9 x10 = some o) : Le h o.2 := by
  obtain ⟨r_1, er_1, hE⟩ := cl_e hE
  obtain ⟨r_2, er_2, hE⟩ := cl_e hE
  obtain ⟨g_3, hE⟩ := gd_e hE
  obtain ⟨v_4, ev_4, hE⟩ := nm_e2 hE
  obtain ⟨r_5, er_5, hE⟩ := cl_e hE
  obtain ⟨r_6, er_6, hE⟩ := cl_e hE
  obtain ⟨g_7, hE⟩ := gd_e hE
  obtain ⟨v_8, ev_8, hE⟩ := nm_e2 hE
  exact moX10_ride_158 _ hE
theorem moX10_ride_119 {o : Int64 × Hp} {F : Nat} {h : Hp} {x0 : Nat} {x1 : Int32} {x2 : Int32} {x3 : Int32} {x9 : Int32} {x10 : Int32} (hE : sX10_ride_119 F h x0 x1 x2 x3 x9 x10 = some o) : Le h o.2 := by
  obtain ⟨v_1, ev_1, hE⟩ := nm_e2 hE
  exact moX10_ride_124 hE
theorem moX10_ride_101 {o : Int64 × Hp} {F : Nat} {h : Hp} {x0 : Nat} {x1 : Int32} {x2 : Int32} {x3 : Int32} {x4 : Int32} {x5 : Int32} {x8 : Int32} {x9 : Int32} {x10 : Int32} (hE : sX10_ride_101 F h x0 x1 x2 x3 x4 x5 x8 x9 x10 = some o) : Le h o.2 := by
  rcases br_e hE with ⟨_, hE⟩ | ⟨_, hE⟩
  · rcases br_e hE with ⟨_, hE⟩ | ⟨_, hE⟩
    · exact moX10_ride_124 hE
    · rcases br_e hE with ⟨_, hE⟩ | ⟨_, hE⟩
      · exact moX10_ride_119 hE
      · exact moX10_ride_124 hE
  · exact moX10_ride_119 hE
theorem moX10_ride_87 {o : Int64 × Hp} {F : Nat} {h : Hp} {x0 : Nat} {x1 : Int32} {x2 : Int32} {x3 : Int32} {x4 : Int32} {x5 : Int32} {x8 : Int32} {x9 : Int32} {t0 : Int32} (hE : sX10_ride_87 F h x0 x1 x2 x3 x4 x5 x8 x9 t0 = some o) : Le h o.2 := by
  rcases br_e hE with ⟨_, hE⟩ | ⟨_, hE⟩
  · exact moX10_ride_101 hE
  · obtain ⟨v_2, ev_2, hE⟩ := nm_e2 hE
    exact moX10_ride_101 hE
theorem moX10_ride_61 {o : Int64 × Hp} {F : Nat} {h : Hp} {x0 : Nat} {x1 : Int32} {x2 : Int32} {x3 : Int32} {x4 : Int32} {x5 : Int32} {x6 : Int32} {x7 : Int32} {x8 : Int32} {t0 : Int32} (hE : sX10_ride_61 F h x0 x1 x2 x3 x4 x5 x6 x7 x8 t0 = some o) : Le h o.2 := by
  rcases br_e hE with ⟨_, hE⟩ | ⟨_, hE⟩
  · rcases br_e hE with ⟨_, hE⟩ | ⟨_, hE⟩
    · exact moX10_ride_87 hE
    · exact moX10_ride_87 hE
  · exact moX10_ride_87 hE
theorem moX10_ride_35 {o : Int64 × Hp} {F : Nat} {h : Hp} {x0 : Nat} {x1 : Int32} {x2 : Int32} {x3 : Int32} {x4 : Int32} {x5 : Int32} {x6 : Int32} {x7 : Int32} {t0 : Int32} (hE : sX10_ride_35 F h x0 x1 x2 x3 x4 x5 x6 x7 t0 = some o) : Le h o.2 := by
  rcases br_e hE with ⟨_, hE⟩ | ⟨_, hE⟩
  · rcases br_e hE with ⟨_, hE⟩ | ⟨_, hE⟩
    · exact moX10_ride_61 hE
    · exact moX10_ride_61 hE
  · exact moX10_ride_61 hE
theorem moX10_ride {o : Int64 × Hp} {F : Nat} {h : Hp} {x0 : Nat} {x1 : Int32} {x2 : Int32} {x3 : Int32} {x4 : Int32} {x5 : Int32} (hE : sX10_ride F h x0 x1 x2 x3 x4 x5 = some o) : Le h o.2 := by
  obtain ⟨v_1, ev_1, hE⟩ := nm_e2 hE
  obtain ⟨v_2, ev_2, hE⟩ := nm_e2 hE
  rcases br_e hE with ⟨_, hE⟩ | ⟨_, hE⟩
  · exact moX10_ride_35 hE
  · exact moX10_ride_35 hE
set_option maxRecDepth 20000 in
theorem bX10_ride_239 {p : Program} {l : Launch} {e : Env} {s : State} {m : MethodId} {args : Array Value} {below : List Frame} {meth : Method} {c : Code} {X : Ec} {h0 : Hp} {o : Int64 × Hp} {F : Nat} (C : Cx X p s m args meth c RX10 cX10_ride 17 (some .long) "ride") {h : Hp} {x11 : Int64} {H : Heap} {locs : List Loc} (hkm : Km h0 h) (hW : Wx X h H) (hZ : va_S (aA (eB X)) s.heap H locs) (ls : Array Slot) (hl : lv_has ls 17 [(11, .long x11)]) (hE : sX10_ride_239 F h x11 = some o) : W p l e (rm 1 22) s m args below meth c H locs 0 0 (MQ below (QJ X h0 o.1 o.2) args s 0 0 (aA (eB X))) (F0 m 239 ls []) := by
  refine lv_lload C.1 C.2.1 dX10_ride_239 (lv_at hl 0 rfl) ?_
  exact x_lret C rfl hW hZ hkm hE dX10_ride_241
set_option maxRecDepth 20000 in
theorem bX10_ride_158 {p : Program} {l : Launch} {e : Env} {s : State} {m : MethodId} {args : Array Value} {below : List Frame} {meth : Method} {c : Code} {X : Ec} {h0 : Hp} {o : Int64 × Hp} {F : Nat} (C : Cx X p s m args meth c RX10 cX10_ride 17 (some .long) "ride") : ∀ (f : Nat) {h : Hp} {x0 : Nat} {x2 : Int32} {x3 : Int32} {x9 : Int32} {x10 : Int32} {x11 : Int64} {x13 : Int32} {x14 : Int32} {x15 : Int32} {H : Heap} {locs : List Loc} (k_x0 : hK h x0 = 10), Km h0 h → Wx X h H → va_S (aA (eB X)) s.heap H locs → ∀ (ls : Array Slot), lv_has ls 17 [(0, .ref x0), (2, .int x2), (3, .int x3), (9, .int x9), (10, .int x10), (11, .long x11), (13, .int x13), (14, .int x14), (15, .int x15)] → sX10_ride_158 F f h x0 x2 x3 x9 x10 x11 x13 x14 x15 = some o → W p l e (rm 1 22) s m args below meth c H locs 0 0 (MQ below (QJ X h0 o.1 o.2) args s 0 0 (aA (eB X))) (F0 m 158 ls []) := by
  intro f
  induction f with
  | zero =>
    intro h x0 x2 x3 x9 x10 x11 x13 x14 x15 H locs k_x0 hkm hW hZ ls hl hE
    rw [sX10_ride_158] at hE
    cases hE
  | succ f ih =>
    intro h x0 x2 x3 x9 x10 x11 x13 x14 x15 H locs k_x0 hkm hW hZ ls hl hE
    rw [sX10_ride_158] at hE
    have hk_158 : ∀ (h : Hp) (x0 : Nat) (x2 : Int32) (x3 : Int32) (x9 : Int32) (x10 : Int32) (x11 : Int64) (x13 : Int32) (x14 : Int32) (x15 : Int32) (H : Heap) (locs : List Loc), hK h x0 = 10 → Km h0 h → Wx X h H → va_S (aA (eB X)) s.heap H locs → ∀ (ls : Array Slot), lv_has ls 17 [(0, .ref x0), (2, .int x2), (3, .int x3), (9, .int x9), (10, .int x10), (11, .long x11), (13, .int x13), (14, .int x14), (15, .int x15)] → sX10_ride_158 F f h x0 x2 x3 x9 x10 x11 x13 x14 x15 = some o → W p l e (rm 1 22) s m args below meth c H locs 0 0 (MQ below (QJ X h0 o.1 o.2) args s 0 0 (aA (eB X))) (F0 m 158 ls []) := fun h x0 x2 x3 x9 x10 x11 x13 x14 x15 H locs k_x0 a b c ls hl hE => ih k_x0 a b c ls hl hE
    refine lv_iload C.1 C.2.1 dX10_ride_158 (lv_at hl 8 rfl) ?_
    refine lv_iload_n C.1 C.2.1 dX10_ride_160 rfl (lv_at hl 2 rfl) ?_
    refine lv_bipush (v := (14 : Int32)) C.1 C.2.1 dX10_ride_161 (by decide) ?_
    refine lv_ishr C.1 C.2.1 dX10_ride_163 ?_
    refine lv_bipush (v := (7 : Int32)) C.1 C.2.1 dX10_ride_164 (by decide) ?_
    refine lv_iand C.1 C.2.1 dX10_ride_166 ?_
    refine lv_icmp_gt (tgt := 239) C.1 C.2.1 dX10_ride_167 (by decide) (fun c_1 => ?_) (fun c_1 => ?_)
    · have hE := br_p hE c_1
      exact bX10_ride_239 C hkm hW hZ _ (lv_sub hl [5] rfl) hE
    · have hE := br_n hE c_1
      refine lv_aload_n C.1 C.2.1 dX10_ride_170 rfl (lv_at hl 0 rfl) ?_
      refine lv_iload C.1 C.2.1 dX10_ride_171 (lv_at hl 6 rfl) ?_
      refine lv_iload C.1 C.2.1 dX10_ride_173 (lv_at hl 7 rfl) ?_
      obtain ⟨o_2, eo_2, hE⟩ := cl_e hE
      refine x_kI (o := o_2) (z_runV (As := [.int x13, .int x14]) (rest := []) C (ct_X10_isOn l X k_x0 eo_2) cw_X10_106 hW hZ k_x0 (by decide) rfl rfl rfl hl.1 (Nat.le_of_ble_eq_true rfl) rfl dX10_ride_175 ⟨Nat.le_of_ble_eq_true rfl, Nat.le_of_ble_eq_true rfl⟩ ⟨Nat.le_refl _, Nat.le_refl _⟩) hZ (fun _ _ hW km hZ => ?_)
      replace hkm := hkm.tr km
      replace k_x0 := km.at k_x0 (by decide)
      refine lv_if_eq (tgt := 239) C.1 C.2.1 dX10_ride_178 (by decide) (fun c_3 => ?_) (fun c_3 => ?_)
      · have hE := br_p hE c_3
        exact bX10_ride_239 C hkm hW hZ _ (lv_sub hl [5] rfl) hE
      · have hE := br_n hE c_3
        refine lv_iload C.1 C.2.1 dX10_ride_181 (lv_at hl 7 rfl) ?_
        refine lv_aload_n C.1 C.2.1 dX10_ride_183 rfl (lv_at hl 0 rfl) ?_
        obtain ⟨r_4, er_4, hE⟩ := cl_e hE
        refine gf_X10_35 C hW k_x0 er_4 dX10_ride_184 (fun k_r_4 => ?_)
        refine gf_X10_110 C hW k_r_4 dX10_ride_187 ?_
        refine lv_imul C.1 C.2.1 dX10_ride_190 ?_
        refine lv_iload C.1 C.2.1 dX10_ride_191 (lv_at hl 6 rfl) ?_
        refine lv_iadd C.1 C.2.1 dX10_ride_193 ?_
        obtain ⟨v_5, ev_5, hE⟩ := nm_e2 hE
        refine x_nmI ev_5 ?_
        refine lv_istore (lv' := [(16, .int v_5), (0, .ref x0), (2, .int x2), (3, .int x3), (9, .int x9), (10, .int x10), (11, .long x11), (13, .int x13), (14, .int x14), (15, .int x15)]) C.1 C.2.1 dX10_ride_194 hl (by decide) rfl (fun ls hl => ?_)
        refine lv_aload_n C.1 C.2.1 dX10_ride_196 rfl (lv_at hl 1 rfl) ?_
        obtain ⟨r_6, er_6, hE⟩ := cl_e hE
        refine gf_X10_32 C hW k_x0 er_6 dX10_ride_197 (fun k_r_6 => ?_)
        refine lv_iload C.1 C.2.1 dX10_ride_200 (lv_at hl 0 rfl) ?_
        refine lv_bipush (v := (8 : Int32)) C.1 C.2.1 dX10_ride_202 (by decide) ?_
        refine lv_imul C.1 C.2.1 dX10_ride_204 ?_
        refine lv_iload_n C.1 C.2.1 dX10_ride_205 rfl (lv_at hl 2 rfl) ?_
        refine lv_iadd C.1 C.2.1 dX10_ride_206 ?_
        refine lv_iload C.1 C.2.1 dX10_ride_207 (lv_at hl 9 rfl) ?_
        obtain ⟨g_7, hE⟩ := gd_e hE
        obtain ⟨h_8, eh_8, hE⟩ := nm_e2 hE
        refine y_iast C hW hZ k_r_6 g_7 eh_8 dX10_ride_209 (fun _ _ hW km hZ => ?_)
        replace hkm := hkm.tr km
        replace k_x0 := km.at k_x0 (by decide)
        refine lv_lload C.1 C.2.1 dX10_ride_210 (lv_at hl 6 rfl) ?_
        refine lv_lconst (v := (1 : Int64)) C.1 C.2.1 dX10_ride_212 (by decide) ?_
        refine lv_iload C.1 C.2.1 dX10_ride_213 (lv_at hl 0 rfl) ?_
        refine lv_lshl C.1 C.2.1 dX10_ride_215 rfl ?_
        refine lv_lor C.1 C.2.1 dX10_ride_216 ?_
        obtain ⟨v_9, ev_9, hE⟩ := nm_e2 hE
        refine x_nmJ ev_9 ?_
        refine lv_lstore (lv' := [(11, .long v_9), (16, .int v_5), (0, .ref x0), (2, .int x2), (3, .int x3), (9, .int x9), (10, .int x10), (13, .int x13), (14, .int x14), (15, .int x15)]) C.1 C.2.1 dX10_ride_217 hl (by decide) rfl (fun ls hl => ?_)
        refine lv_iload C.1 C.2.1 dX10_ride_219 (lv_at hl 7 rfl) ?_
        refine lv_iload C.1 C.2.1 dX10_ride_221 (lv_at hl 5 rfl) ?_
        refine lv_iadd C.1 C.2.1 dX10_ride_223 ?_
        obtain ⟨v_10, ev_10, hE⟩ := nm_e2 hE
        refine x_nmI ev_10 ?_
        refine lv_istore (lv' := [(13, .int v_10), (11, .long v_9), (16, .int v_5), (0, .ref x0), (2, .int x2), (3, .int x3), (9, .int x9), (10, .int x10), (14, .int x14), (15, .int x15)]) C.1 C.2.1 dX10_ride_224 hl (by decide) rfl (fun ls hl => ?_)
        refine lv_iload C.1 C.2.1 dX10_ride_226 (lv_at hl 8 rfl) ?_
        refine lv_iload C.1 C.2.1 dX10_ride_228 (lv_at hl 7 rfl) ?_
        refine lv_iadd C.1 C.2.1 dX10_ride_230 ?_
        obtain ⟨v_11, ev_11, hE⟩ := nm_e2 hE
        refine x_nmI ev_11 ?_
        refine lv_istore (lv' := [(14, .int v_11), (13, .int v_10), (11, .long v_9), (16, .int v_5), (0, .ref x0), (2, .int x2), (3, .int x3), (9, .int x9), (10, .int x10), (15, .int x15)]) C.1 C.2.1 dX10_ride_231 hl (by decide) rfl (fun ls hl => ?_)
        obtain ⟨v_12, ev_12, hE⟩ := nm_e2 hE
        refine lv_iinc (v := v_12) (lv' := [(15, .int v_12), (14, .int v_11), (13, .int v_10), (11, .long v_9), (16, .int v_5), (0, .ref x0), (2, .int x2), (3, .int x3), (9, .int x9), (10, .int x10)]) C.1 C.2.1 dX10_ride_233 hl (k := 9) rfl (by rw [ev_12]; rfl) (by decide) rfl (fun ls hl => ?_)
        refine lv_goto (tgt := 158) C.1 C.2.1 dX10_ride_236 (by decide) ?_
        exact hk_158 _ _ _ _ _ _ _ _ _ _ _ _ k_x0 hkm hW hZ _ (lv_sub hl [5, 6, 7, 8, 9, 3, 2, 1, 0] rfl) hE
set_option maxRecDepth 20000 in
theorem bX10_ride_124 {p : Program} {l : Launch} {e : Env} {s : State} {m : MethodId} {args : Array Value} {below : List Frame} {meth : Method} {c : Code} {X : Ec} {h0 : Hp} {o : Int64 × Hp} {F : Nat} (C : Cx X p s m args meth c RX10 cX10_ride 17 (some .long) "ride") {h : Hp} {x0 : Nat} {x1 : Int32} {x2 : Int32} {x3 : Int32} {x9 : Int32} {x10 : Int32} {H : Heap} {locs : List Loc} (k_x0 : hK h x0 = 10) (hkm : Km h0 h) (hW : Wx X h H) (hZ : va_S (aA (eB X)) s.heap H locs) (ls : Array Slot) (hl : lv_has ls 17 [(0, .ref x0), (1, .int x1), (2, .int x2), (3, .int x3), (9, .int x9), (10, .int x10)]) (hE : sX10_ride_124 F h x0 x1 x2 x3 x9 x10 = some o) : W p l e (rm 1 22) s m args below meth c H locs 0 0 (MQ below (QJ X h0 o.1 o.2) args s 0 0 (aA (eB X))) (F0 m 124 ls []) := by
  refine lv_lconst (v := (0 : Int64)) C.1 C.2.1 dX10_ride_124 (by decide) ?_
  refine lv_lstore (lv' := [(11, .long (0 : Int64)), (0, .ref x0), (1, .int x1), (2, .int x2), (3, .int x3), (9, .int x9), (10, .int x10)]) C.1 C.2.1 dX10_ride_125 hl (by decide) rfl (fun ls hl => ?_)
  refine lv_aload_n C.1 C.2.1 dX10_ride_127 rfl (lv_at hl 1 rfl) ?_
  obtain ⟨r_1, er_1, hE⟩ := cl_e hE
  refine gf_X10_35 C hW k_x0 er_1 dX10_ride_128 (fun k_r_1 => ?_)
  obtain ⟨r_2, er_2, hE⟩ := cl_e hE
  refine gf_X10_103 C hW k_r_1 er_2 dX10_ride_131 (fun k_r_2 => ?_)
  refine lv_iload_n C.1 C.2.1 dX10_ride_134 rfl (lv_at hl 2 rfl) ?_
  obtain ⟨g_3, hE⟩ := gd_e hE
  refine y_iald C hW k_r_2 g_3 dX10_ride_135 ?_
  refine lv_iload C.1 C.2.1 dX10_ride_136 (lv_at hl 5 rfl) ?_
  refine lv_iadd C.1 C.2.1 dX10_ride_138 ?_
  obtain ⟨v_4, ev_4, hE⟩ := nm_e2 hE
  refine x_nmI ev_4 ?_
  refine lv_istore (lv' := [(13, .int v_4), (11, .long (0 : Int64)), (0, .ref x0), (1, .int x1), (2, .int x2), (3, .int x3), (9, .int x9), (10, .int x10)]) C.1 C.2.1 dX10_ride_139 hl (by decide) rfl (fun ls hl => ?_)
  refine lv_aload_n C.1 C.2.1 dX10_ride_141 rfl (lv_at hl 2 rfl) ?_
  obtain ⟨r_5, er_5, hE⟩ := cl_e hE
  refine gf_X10_35 C hW k_x0 er_5 dX10_ride_142 (fun k_r_5 => ?_)
  obtain ⟨r_6, er_6, hE⟩ := cl_e hE
  refine gf_X10_93 C hW k_r_5 er_6 dX10_ride_145 (fun k_r_6 => ?_)
  refine lv_iload_n C.1 C.2.1 dX10_ride_148 rfl (lv_at hl 3 rfl) ?_
  obtain ⟨g_7, hE⟩ := gd_e hE
  refine y_iald C hW k_r_6 g_7 dX10_ride_149 ?_
  refine lv_iload C.1 C.2.1 dX10_ride_150 (lv_at hl 7 rfl) ?_
  refine lv_iadd C.1 C.2.1 dX10_ride_152 ?_
  obtain ⟨v_8, ev_8, hE⟩ := nm_e2 hE
  refine x_nmI ev_8 ?_
  refine lv_istore (lv' := [(14, .int v_8), (13, .int v_4), (11, .long (0 : Int64)), (0, .ref x0), (1, .int x1), (2, .int x2), (3, .int x3), (9, .int x9), (10, .int x10)]) C.1 C.2.1 dX10_ride_153 hl (by decide) rfl (fun ls hl => ?_)
  refine lv_iconst (v := (1 : Int32)) C.1 C.2.1 dX10_ride_155 (by decide) ?_
  refine lv_istore (lv' := [(15, .int (1 : Int32)), (14, .int v_8), (13, .int v_4), (11, .long (0 : Int64)), (0, .ref x0), (1, .int x1), (2, .int x2), (3, .int x3), (9, .int x9), (10, .int x10)]) C.1 C.2.1 dX10_ride_156 hl (by decide) rfl (fun ls hl => ?_)
  exact bX10_ride_158 C F k_x0 hkm hW hZ _ (lv_sub hl [4, 6, 7, 8, 9, 3, 2, 1, 0] rfl) hE
set_option maxRecDepth 20000 in
theorem bX10_ride_119 {p : Program} {l : Launch} {e : Env} {s : State} {m : MethodId} {args : Array Value} {below : List Frame} {meth : Method} {c : Code} {X : Ec} {h0 : Hp} {o : Int64 × Hp} {F : Nat} (C : Cx X p s m args meth c RX10 cX10_ride 17 (some .long) "ride") {h : Hp} {x0 : Nat} {x1 : Int32} {x2 : Int32} {x3 : Int32} {x9 : Int32} {x10 : Int32} {H : Heap} {locs : List Loc} (k_x0 : hK h x0 = 10) (hkm : Km h0 h) (hW : Wx X h H) (hZ : va_S (aA (eB X)) s.heap H locs) (ls : Array Slot) (hl : lv_has ls 17 [(0, .ref x0), (1, .int x1), (2, .int x2), (3, .int x3), (9, .int x9), (10, .int x10)]) (hE : sX10_ride_119 F h x0 x1 x2 x3 x9 x10 = some o) : W p l e (rm 1 22) s m args below meth c H locs 0 0 (MQ below (QJ X h0 o.1 o.2) args s 0 0 (aA (eB X))) (F0 m 119 ls []) := by
  refine lv_iload C.1 C.2.1 dX10_ride_119 (lv_at hl 5 rfl) ?_
  refine lv_ineg C.1 C.2.1 dX10_ride_121 ?_
  obtain ⟨v_1, ev_1, hE⟩ := nm_e2 hE
  refine x_nmI ev_1 ?_
  refine lv_istore (lv' := [(10, .int v_1), (0, .ref x0), (1, .int x1), (2, .int x2), (3, .int x3), (9, .int x9)]) C.1 C.2.1 dX10_ride_122 hl (by decide) rfl (fun ls hl => ?_)
  exact bX10_ride_124 C k_x0 hkm hW hZ _ (lv_sub hl [1, 2, 3, 4, 5, 0] rfl) hE
set_option maxRecDepth 20000 in
theorem bX10_ride_101 {p : Program} {l : Launch} {e : Env} {s : State} {m : MethodId} {args : Array Value} {below : List Frame} {meth : Method} {c : Code} {X : Ec} {h0 : Hp} {o : Int64 × Hp} {F : Nat} (C : Cx X p s m args meth c RX10 cX10_ride 17 (some .long) "ride") {h : Hp} {x0 : Nat} {x1 : Int32} {x2 : Int32} {x3 : Int32} {x4 : Int32} {x5 : Int32} {x8 : Int32} {x9 : Int32} {x10 : Int32} {H : Heap} {locs : List Loc} (k_x0 : hK h x0 = 10) (hkm : Km h0 h) (hW : Wx X h H) (hZ : va_S (aA (eB X)) s.heap H locs) (ls : Array Slot) (hl : lv_has ls 17 [(0, .ref x0), (1, .int x1), (2, .int x2), (3, .int x3), (4, .int x4), (5, .int x5), (8, .int x8), (9, .int x9), (10, .int x10)]) (hE : sX10_ride_101 F h x0 x1 x2 x3 x4 x5 x8 x9 x10 = some o) : W p l e (rm 1 22) s m args below meth c H locs 0 0 (MQ below (QJ X h0 o.1 o.2) args s 0 0 (aA (eB X))) (F0 m 101 ls []) := by
  refine lv_iload C.1 C.2.1 dX10_ride_101 (lv_at hl 4 rfl) ?_
  refine lv_iconst (v := (2 : Int32)) C.1 C.2.1 dX10_ride_103 (by decide) ?_
  refine lv_iand C.1 C.2.1 dX10_ride_104 ?_
  refine lv_if_ne (tgt := 119) C.1 C.2.1 dX10_ride_105 (by decide) (fun c_1 => ?_) (fun c_1 => ?_)
  · have hE := br_n hE c_1
    exact bX10_ride_119 C k_x0 hkm hW hZ _ (lv_sub hl [0, 1, 2, 3, 7, 8] rfl) hE
  · have hE := br_p hE c_1
    refine lv_iload C.1 C.2.1 dX10_ride_108 (lv_at hl 6 rfl) ?_
    refine lv_if_eq (tgt := 124) C.1 C.2.1 dX10_ride_110 (by decide) (fun c_2 => ?_) (fun c_2 => ?_)
    · have hE := br_p hE c_2
      exact bX10_ride_124 C k_x0 hkm hW hZ _ (lv_sub hl [0, 1, 2, 3, 7, 8] rfl) hE
    · have hE := br_n hE c_2
      refine lv_iload C.1 C.2.1 dX10_ride_113 (lv_at hl 5 rfl) ?_
      refine lv_iconst (v := (1 : Int32)) C.1 C.2.1 dX10_ride_115 (by decide) ?_
      refine lv_icmp_ne (tgt := 124) C.1 C.2.1 dX10_ride_116 (by decide) (fun c_3 => ?_) (fun c_3 => ?_)
      · have hE := br_n hE c_3
        exact bX10_ride_124 C k_x0 hkm hW hZ _ (lv_sub hl [0, 1, 2, 3, 7, 8] rfl) hE
      · have hE := br_p hE c_3
        exact bX10_ride_119 C k_x0 hkm hW hZ _ (lv_sub hl [0, 1, 2, 3, 7, 8] rfl) hE
set_option maxRecDepth 20000 in
theorem bX10_ride_87 {p : Program} {l : Launch} {e : Env} {s : State} {m : MethodId} {args : Array Value} {below : List Frame} {meth : Method} {c : Code} {X : Ec} {h0 : Hp} {o : Int64 × Hp} {F : Nat} (C : Cx X p s m args meth c RX10 cX10_ride 17 (some .long) "ride") {h : Hp} {x0 : Nat} {x1 : Int32} {x2 : Int32} {x3 : Int32} {x4 : Int32} {x5 : Int32} {x8 : Int32} {x9 : Int32} {t0 : Int32} {H : Heap} {locs : List Loc} (k_x0 : hK h x0 = 10) (hkm : Km h0 h) (hW : Wx X h H) (hZ : va_S (aA (eB X)) s.heap H locs) (ls : Array Slot) (hl : lv_has ls 17 [(0, .ref x0), (1, .int x1), (2, .int x2), (3, .int x3), (4, .int x4), (5, .int x5), (8, .int x8), (9, .int x9)]) (hE : sX10_ride_87 F h x0 x1 x2 x3 x4 x5 x8 x9 t0 = some o) : W p l e (rm 1 22) s m args below meth c H locs 0 0 (MQ below (QJ X h0 o.1 o.2) args s 0 0 (aA (eB X))) (F0 m 87 ls [.int t0]) := by
  refine lv_istore (lv' := [(10, .int t0), (0, .ref x0), (1, .int x1), (2, .int x2), (3, .int x3), (4, .int x4), (5, .int x5), (8, .int x8), (9, .int x9)]) C.1 C.2.1 dX10_ride_87 hl (by decide) rfl (fun ls hl => ?_)
  refine lv_iload C.1 C.2.1 dX10_ride_89 (lv_at hl 5 rfl) ?_
  refine lv_iconst (v := (1 : Int32)) C.1 C.2.1 dX10_ride_91 (by decide) ?_
  refine lv_iand C.1 C.2.1 dX10_ride_92 ?_
  refine lv_if_eq (tgt := 101) C.1 C.2.1 dX10_ride_93 (by decide) (fun c_1 => ?_) (fun c_1 => ?_)
  · have hE := br_p hE c_1
    exact bX10_ride_101 C k_x0 hkm hW hZ _ (lv_sub hl [1, 2, 3, 4, 5, 6, 7, 8, 0] rfl) hE
  · have hE := br_n hE c_1
    refine lv_iload C.1 C.2.1 dX10_ride_96 (lv_at hl 8 rfl) ?_
    refine lv_ineg C.1 C.2.1 dX10_ride_98 ?_
    obtain ⟨v_2, ev_2, hE⟩ := nm_e2 hE
    refine x_nmI ev_2 ?_
    refine lv_istore (lv' := [(9, .int v_2), (10, .int t0), (0, .ref x0), (1, .int x1), (2, .int x2), (3, .int x3), (4, .int x4), (5, .int x5), (8, .int x8)]) C.1 C.2.1 dX10_ride_99 hl (by decide) rfl (fun ls hl => ?_)
    exact bX10_ride_101 C k_x0 hkm hW hZ _ (lv_sub hl [2, 3, 4, 5, 6, 7, 8, 0, 1] rfl) hE
set_option maxRecDepth 20000 in
theorem bX10_ride_61 {p : Program} {l : Launch} {e : Env} {s : State} {m : MethodId} {args : Array Value} {below : List Frame} {meth : Method} {c : Code} {X : Ec} {h0 : Hp} {o : Int64 × Hp} {F : Nat} (C : Cx X p s m args meth c RX10 cX10_ride 17 (some .long) "ride") {h : Hp} {x0 : Nat} {x1 : Int32} {x2 : Int32} {x3 : Int32} {x4 : Int32} {x5 : Int32} {x6 : Int32} {x7 : Int32} {x8 : Int32} {t0 : Int32} {H : Heap} {locs : List Loc} (k_x0 : hK h x0 = 10) (hkm : Km h0 h) (hW : Wx X h H) (hZ : va_S (aA (eB X)) s.heap H locs) (ls : Array Slot) (hl : lv_has ls 17 [(0, .ref x0), (1, .int x1), (2, .int x2), (3, .int x3), (4, .int x4), (5, .int x5), (6, .int x6), (7, .int x7), (8, .int x8)]) (hE : sX10_ride_61 F h x0 x1 x2 x3 x4 x5 x6 x7 x8 t0 = some o) : W p l e (rm 1 22) s m args below meth c H locs 0 0 (MQ below (QJ X h0 o.1 o.2) args s 0 0 (aA (eB X))) (F0 m 61 ls [.int t0]) := by
  refine lv_istore (lv' := [(9, .int t0), (0, .ref x0), (1, .int x1), (2, .int x2), (3, .int x3), (4, .int x4), (5, .int x5), (6, .int x6), (7, .int x7), (8, .int x8)]) C.1 C.2.1 dX10_ride_61 hl (by decide) rfl (fun ls hl => ?_)
  refine lv_iload C.1 C.2.1 dX10_ride_63 (lv_at hl 9 rfl) ?_
  refine lv_if_eq (tgt := 73) C.1 C.2.1 dX10_ride_65 (by decide) (fun c_1 => ?_) (fun c_1 => ?_)
  · have hE := br_p hE c_1
    refine lv_iload C.1 C.2.1 dX10_ride_73 (lv_at hl 5 rfl) ?_
    refine lv_iconst (v := (4 : Int32)) C.1 C.2.1 dX10_ride_75 (by decide) ?_
    refine lv_iand C.1 C.2.1 dX10_ride_76 ?_
    refine lv_if_ne (tgt := 85) C.1 C.2.1 dX10_ride_77 (by decide) (fun c_2 => ?_) (fun c_2 => ?_)
    · have hE := br_n hE c_2
      refine lv_iload C.1 C.2.1 dX10_ride_85 (lv_at hl 7 rfl) ?_
      exact bX10_ride_87 C k_x0 hkm hW hZ _ (lv_sub hl [1, 2, 3, 4, 5, 6, 9, 0] rfl) hE
    · have hE := br_p hE c_2
      refine lv_iload C.1 C.2.1 dX10_ride_80 (lv_at hl 8 rfl) ?_
      refine lv_goto (tgt := 87) C.1 C.2.1 dX10_ride_82 (by decide) ?_
      exact bX10_ride_87 C k_x0 hkm hW hZ _ (lv_sub hl [1, 2, 3, 4, 5, 6, 9, 0] rfl) hE
  · have hE := br_n hE c_1
    refine lv_iload C.1 C.2.1 dX10_ride_68 (lv_at hl 8 rfl) ?_
    refine lv_goto (tgt := 87) C.1 C.2.1 dX10_ride_70 (by decide) ?_
    exact bX10_ride_87 C k_x0 hkm hW hZ _ (lv_sub hl [1, 2, 3, 4, 5, 6, 9, 0] rfl) hE
set_option maxRecDepth 20000 in
theorem bX10_ride_35 {p : Program} {l : Launch} {e : Env} {s : State} {m : MethodId} {args : Array Value} {below : List Frame} {meth : Method} {c : Code} {X : Ec} {h0 : Hp} {o : Int64 × Hp} {F : Nat} (C : Cx X p s m args meth c RX10 cX10_ride 17 (some .long) "ride") {h : Hp} {x0 : Nat} {x1 : Int32} {x2 : Int32} {x3 : Int32} {x4 : Int32} {x5 : Int32} {x6 : Int32} {x7 : Int32} {t0 : Int32} {H : Heap} {locs : List Loc} (k_x0 : hK h x0 = 10) (hkm : Km h0 h) (hW : Wx X h H) (hZ : va_S (aA (eB X)) s.heap H locs) (ls : Array Slot) (hl : lv_has ls 17 [(0, .ref x0), (1, .int x1), (2, .int x2), (3, .int x3), (4, .int x4), (5, .int x5), (6, .int x6), (7, .int x7)]) (hE : sX10_ride_35 F h x0 x1 x2 x3 x4 x5 x6 x7 t0 = some o) : W p l e (rm 1 22) s m args below meth c H locs 0 0 (MQ below (QJ X h0 o.1 o.2) args s 0 0 (aA (eB X))) (F0 m 35 ls [.int t0]) := by
  refine lv_istore (lv' := [(8, .int t0), (0, .ref x0), (1, .int x1), (2, .int x2), (3, .int x3), (4, .int x4), (5, .int x5), (6, .int x6), (7, .int x7)]) C.1 C.2.1 dX10_ride_35 hl (by decide) rfl (fun ls hl => ?_)
  refine lv_iload C.1 C.2.1 dX10_ride_37 (lv_at hl 0 rfl) ?_
  refine lv_if_eq (tgt := 47) C.1 C.2.1 dX10_ride_39 (by decide) (fun c_1 => ?_) (fun c_1 => ?_)
  · have hE := br_p hE c_1
    refine lv_iload C.1 C.2.1 dX10_ride_47 (lv_at hl 5 rfl) ?_
    refine lv_iconst (v := (4 : Int32)) C.1 C.2.1 dX10_ride_49 (by decide) ?_
    refine lv_iand C.1 C.2.1 dX10_ride_50 ?_
    refine lv_if_ne (tgt := 59) C.1 C.2.1 dX10_ride_51 (by decide) (fun c_2 => ?_) (fun c_2 => ?_)
    · have hE := br_n hE c_2
      refine lv_iload C.1 C.2.1 dX10_ride_59 (lv_at hl 8 rfl) ?_
      exact bX10_ride_61 C k_x0 hkm hW hZ _ (lv_sub hl [1, 2, 3, 4, 5, 6, 7, 8, 0] rfl) hE
    · have hE := br_p hE c_2
      refine lv_iload C.1 C.2.1 dX10_ride_54 (lv_at hl 7 rfl) ?_
      refine lv_goto (tgt := 61) C.1 C.2.1 dX10_ride_56 (by decide) ?_
      exact bX10_ride_61 C k_x0 hkm hW hZ _ (lv_sub hl [1, 2, 3, 4, 5, 6, 7, 8, 0] rfl) hE
  · have hE := br_n hE c_1
    refine lv_iload C.1 C.2.1 dX10_ride_42 (lv_at hl 7 rfl) ?_
    refine lv_goto (tgt := 61) C.1 C.2.1 dX10_ride_44 (by decide) ?_
    exact bX10_ride_61 C k_x0 hkm hW hZ _ (lv_sub hl [1, 2, 3, 4, 5, 6, 7, 8, 0] rfl) hE
set_option maxRecDepth 20000 in
theorem ct_X10_ride (l : Launch) (X : Ec) (F : Nat) {h : Hp} {x0 : Nat} {x1 : Int32} {x2 : Int32} {x3 : Int32} {x4 : Int32} {x5 : Int32} {o : Int64 × Hp} (k_x0 : hK h x0 = 10) (hE : sX10_ride F h x0 x1 x2 x3 x4 x5 = some o) : MetJ l yX10_ride cX10_ride 17 (some .long) 1 22 X [.ref x0, .int x1, .int x2, .int x3, .int x4, .int x5] h o := by
  refine x_met (by decide) (Nat.le_of_ble_eq_true rfl) ?_
  intro p e s m below meth c ls C hl hW hZ
  have hl : lv_has ls 17 [(0, .ref x0), (1, .int x1), (2, .int x2), (3, .int x3), (4, .int x4), (5, .int x5)] := hl
  have hkm : Km h h := Km.rf h
  refine lv_iload_n C.1 C.2.1 dX10_ride_0 rfl (lv_at hl 3 rfl) ?_
  refine lv_bipush (v := (6 : Int32)) C.1 C.2.1 dX10_ride_1 (by decide) ?_
  refine lv_ishr C.1 C.2.1 dX10_ride_3 ?_
  refine lv_bipush (v := (15 : Int32)) C.1 C.2.1 dX10_ride_4 (by decide) ?_
  refine lv_iand C.1 C.2.1 dX10_ride_6 ?_
  refine lv_bipush (v := (8 : Int32)) C.1 C.2.1 dX10_ride_7 (by decide) ?_
  refine lv_isub C.1 C.2.1 dX10_ride_9 ?_
  obtain ⟨v_1, ev_1, hE⟩ := nm_e2 hE
  refine x_nmI ev_1 ?_
  refine lv_istore (lv' := [(6, .int v_1), (0, .ref x0), (1, .int x1), (2, .int x2), (3, .int x3), (4, .int x4), (5, .int x5)]) C.1 C.2.1 dX10_ride_10 hl (by decide) rfl (fun ls hl => ?_)
  refine lv_iload_n C.1 C.2.1 dX10_ride_12 rfl (lv_at hl 4 rfl) ?_
  refine lv_bipush (v := (10 : Int32)) C.1 C.2.1 dX10_ride_13 (by decide) ?_
  refine lv_ishr C.1 C.2.1 dX10_ride_15 ?_
  refine lv_bipush (v := (15 : Int32)) C.1 C.2.1 dX10_ride_16 (by decide) ?_
  refine lv_iand C.1 C.2.1 dX10_ride_18 ?_
  refine lv_bipush (v := (8 : Int32)) C.1 C.2.1 dX10_ride_19 (by decide) ?_
  refine lv_isub C.1 C.2.1 dX10_ride_21 ?_
  obtain ⟨v_2, ev_2, hE⟩ := nm_e2 hE
  refine x_nmI ev_2 ?_
  refine lv_istore (lv' := [(7, .int v_2), (6, .int v_1), (0, .ref x0), (1, .int x1), (2, .int x2), (3, .int x3), (4, .int x4), (5, .int x5)]) C.1 C.2.1 dX10_ride_22 hl (by decide) rfl (fun ls hl => ?_)
  refine lv_iload_n C.1 C.2.1 dX10_ride_24 rfl (lv_at hl 5 rfl) ?_
  refine lv_iconst (v := (4 : Int32)) C.1 C.2.1 dX10_ride_25 (by decide) ?_
  refine lv_iand C.1 C.2.1 dX10_ride_26 ?_
  refine lv_if_eq (tgt := 34) C.1 C.2.1 dX10_ride_27 (by decide) (fun c_3 => ?_) (fun c_3 => ?_)
  · have hE := br_p hE c_3
    refine lv_iconst (v := (0 : Int32)) C.1 C.2.1 dX10_ride_34 (by decide) ?_
    exact bX10_ride_35 C k_x0 hkm hW hZ _ (lv_sub hl [2, 3, 4, 5, 6, 7, 1, 0] rfl) hE
  · have hE := br_n hE c_3
    refine lv_iconst (v := (1 : Int32)) C.1 C.2.1 dX10_ride_30 (by decide) ?_
    refine lv_goto (tgt := 35) C.1 C.2.1 dX10_ride_31 (by decide) ?_
    exact bX10_ride_35 C k_x0 hkm hW hZ _ (lv_sub hl [2, 3, 4, 5, 6, 7, 1, 0] rfl) hE
theorem ms_24 : Cond.selects RX10 yX10_ride yX10_ride ∈ W0 := w0_in (List.mem_append_left _ (List.mem_of_getElem? (i := 24) (by decide +kernel))) rfl
theorem m_122 : Cond.fieldLink RX10 86 (TX1 15).1 (TX1 15).2.1 (TX1 15).2.2.1 ∈ W0 := w0_in (List.mem_append_right _ (List.mem_of_getElem? (i := 122) (by decide +kernel))) rfl
theorem m_125 : Cond.fieldLink RX10 83 (TX1 16).1 (TX1 16).2.1 (TX1 16).2.2.1 ∈ W0 := w0_in (List.mem_append_right _ (List.mem_of_getElem? (i := 125) (by decide +kernel))) rfl
theorem m_805 : Cond.methodLink RX10 99 yX10_ride ∈ W0 := w0_in (List.mem_append_right _ (List.mem_of_getElem? (i := 805) (by decide +kernel))) rfl
theorem m_807 : Cond.instanceMethod yX10_ride ∈ W0 := w0_in (List.mem_append_right _ (List.mem_of_getElem? (i := 807) (by decide +kernel))) rfl
theorem m_808 : Cond.code yX10_ride cX10_ride 17 (some .long) ∈ W0 := w0_in (List.mem_append_right _ (List.mem_of_getElem? (i := 808) (by decide +kernel))) rfl
section
variable {p : Program} {l : Launch} {e : Env} {R : Room} {s : State} {m : MethodId} {args : Array Value} {below : List Frame} {meth : Method} {c : Code} {H : Heap} {locs : List Loc} {cells slots : Nat} {Q : State → Prop}
variable {cc : ByteArray} {pc : Nat} {ls : Array Slot} {rest : List Value} {X : Ec} {h h1 : Hp} {nL : Nat} {rt : Option FieldType} {mn : String}
theorem gf_X10_83 {a r : Nat} (C : Cx X p s m args meth c RX10 cc nL rt mn) (hW : Wx X h H) (ha : hK h a = 1) (hr : hR h a 16 = some r) (hdg : decode cc pc = .ok (.getfield 83, 3)) (kk : hK h r = 17 → W p l e R s m args below meth c H locs cells slots Q (F0 m (pc + 3) ls (.ref r :: rest))) : W p l e R s m args below meth c H locs cells slots Q (F0 m pc ls (.ref a :: rest)) :=
  y_getr C hW ha i_X1 (by decide) rfl (by decide) m_125 rfl rfl hr hdg kk
theorem gf_X10_86 {a r : Nat} (C : Cx X p s m args meth c RX10 cc nL rt mn) (hW : Wx X h H) (ha : hK h a = 1) (hr : hR h a 15 = some r) (hdg : decode cc pc = .ok (.getfield 86, 3)) (kk : hK h r = 17 → W p l e R s m args below meth c H locs cells slots Q (F0 m (pc + 3) ls (.ref r :: rest))) : W p l e R s m args below meth c H locs cells slots Q (F0 m pc ls (.ref a :: rest)) :=
  y_getr C hW ha i_X1 (by decide) rfl (by decide) m_122 rfl rfl hr hdg kk
end
theorem cw_X10_99 : cwd RX10 99 yX10_ride cX10_ride 17 (some .long) false 5 := ⟨m_808, m_805, m_6, ⟨m_807, ms_24⟩, by decide, by decide, by decide +kernel⟩
theorem dX10_reach_0 : decode cX10_reach 0 = .ok (.iload_n 1, 1) := by decide +kernel
theorem dX10_reach_1 : decode cX10_reach 1 = .ok (.iconst 1, 1) := by decide +kernel
theorem dX10_reach_2 : decode cX10_reach 2 = .ok (.ishr, 1) := by decide +kernel
theorem dX10_reach_3 : decode cX10_reach 3 = .ok (.istore_n 3, 1) := by decide +kernel
theorem dX10_reach_4 : decode cX10_reach 4 = .ok (.lconst 0, 1) := by decide +kernel
theorem dX10_reach_5 : decode cX10_reach 5 = .ok (.lstore 4, 2) := by decide +kernel
theorem dX10_reach_7 : decode cX10_reach 7 = .ok (.iconst 0, 1) := by decide +kernel
theorem dX10_reach_8 : decode cX10_reach 8 = .ok (.istore 6, 2) := by decide +kernel
theorem dX10_reach_10 : decode cX10_reach 10 = .ok (.iload 6, 2) := by decide +kernel
theorem dX10_reach_12 : decode cX10_reach 12 = .ok (.aload_n 0, 1) := by decide +kernel
theorem dX10_reach_13 : decode cX10_reach 13 = .ok (.getfield 35, 3) := by decide +kernel
theorem dX10_reach_16 : decode cX10_reach 16 = .ok (.getfield 83, 3) := by decide +kernel
theorem dX10_reach_19 : decode cX10_reach 19 = .ok (.iload_n 3, 1) := by decide +kernel
theorem dX10_reach_20 : decode cX10_reach 20 = .ok (.iaload, 1) := by decide +kernel
theorem dX10_reach_21 : decode cX10_reach 21 = .ok (.if_icmp .ge 140, 3) := by decide +kernel
theorem dX10_reach_24 : decode cX10_reach 24 = .ok (.aload_n 0, 1) := by decide +kernel
theorem dX10_reach_25 : decode cX10_reach 25 = .ok (.getfield 35, 3) := by decide +kernel
theorem dX10_reach_28 : decode cX10_reach 28 = .ok (.getfield 86, 3) := by decide +kernel
theorem dX10_reach_31 : decode cX10_reach 31 = .ok (.iload_n 3, 1) := by decide +kernel
theorem dX10_reach_32 : decode cX10_reach 32 = .ok (.bipush 8, 2) := by decide +kernel
theorem dX10_reach_34 : decode cX10_reach 34 = .ok (.imul, 1) := by decide +kernel
theorem dX10_reach_35 : decode cX10_reach 35 = .ok (.iload 6, 2) := by decide +kernel
theorem dX10_reach_37 : decode cX10_reach 37 = .ok (.iadd, 1) := by decide +kernel
theorem dX10_reach_38 : decode cX10_reach 38 = .ok (.iaload, 1) := by decide +kernel
theorem dX10_reach_39 : decode cX10_reach 39 = .ok (.istore 7, 2) := by decide +kernel
theorem dX10_reach_41 : decode cX10_reach 41 = .ok (.iload 7, 2) := by decide +kernel
theorem dX10_reach_43 : decode cX10_reach 43 = .ok (.bipush 17, 2) := by decide +kernel
theorem dX10_reach_45 : decode cX10_reach 45 = .ok (.ishr, 1) := by decide +kernel
theorem dX10_reach_46 : decode cX10_reach 46 = .ok (.bipush 15, 2) := by decide +kernel
theorem dX10_reach_48 : decode cX10_reach 48 = .ok (.iand, 1) := by decide +kernel
theorem dX10_reach_49 : decode cX10_reach 49 = .ok (.istore 8, 2) := by decide +kernel
theorem dX10_reach_51 : decode cX10_reach 51 = .ok (.iload_n 1, 1) := by decide +kernel
theorem dX10_reach_52 : decode cX10_reach 52 = .ok (.iconst 1, 1) := by decide +kernel
theorem dX10_reach_53 : decode cX10_reach 53 = .ok (.iand, 1) := by decide +kernel
theorem dX10_reach_54 : decode cX10_reach 54 = .ok (.ifCond .ne 17, 3) := by decide +kernel
theorem dX10_reach_57 : decode cX10_reach 57 = .ok (.aload_n 0, 1) := by decide +kernel
theorem dX10_reach_58 : decode cX10_reach 58 = .ok (.getfield 35, 3) := by decide +kernel
theorem dX10_reach_61 : decode cX10_reach 61 = .ok (.getfield 93, 3) := by decide +kernel
theorem dX10_reach_64 : decode cX10_reach 64 = .ok (.iload_n 2, 1) := by decide +kernel
theorem dX10_reach_65 : decode cX10_reach 65 = .ok (.iaload, 1) := by decide +kernel
theorem dX10_reach_66 : decode cX10_reach 66 = .ok (.iconst 1, 1) := by decide +kernel
theorem dX10_reach_67 : decode cX10_reach 67 = .ok (.iadd, 1) := by decide +kernel
theorem dX10_reach_68 : decode cX10_reach 68 = .ok (.goto 20, 3) := by decide +kernel
theorem dX10_reach_71 : decode cX10_reach 71 = .ok (.aload_n 0, 1) := by decide +kernel
theorem dX10_reach_72 : decode cX10_reach 72 = .ok (.getfield 35, 3) := by decide +kernel
theorem dX10_reach_75 : decode cX10_reach 75 = .ok (.getfield 96, 3) := by decide +kernel
theorem dX10_reach_78 : decode cX10_reach 78 = .ok (.aload_n 0, 1) := by decide +kernel
theorem dX10_reach_79 : decode cX10_reach 79 = .ok (.getfield 35, 3) := by decide +kernel
theorem dX10_reach_82 : decode cX10_reach 82 = .ok (.getfield 93, 3) := by decide +kernel
theorem dX10_reach_85 : decode cX10_reach 85 = .ok (.iload_n 2, 1) := by decide +kernel
theorem dX10_reach_86 : decode cX10_reach 86 = .ok (.iaload, 1) := by decide +kernel
theorem dX10_reach_87 : decode cX10_reach 87 = .ok (.isub, 1) := by decide +kernel
theorem dX10_reach_88 : decode cX10_reach 88 = .ok (.istore 9, 2) := by decide +kernel
theorem dX10_reach_90 : decode cX10_reach 90 = .ok (.iload 8, 2) := by decide +kernel
theorem dX10_reach_92 : decode cX10_reach 92 = .ok (.ifCond .eq 13, 3) := by decide +kernel
theorem dX10_reach_95 : decode cX10_reach 95 = .ok (.iload 8, 2) := by decide +kernel
theorem dX10_reach_97 : decode cX10_reach 97 = .ok (.iload 9, 2) := by decide +kernel
theorem dX10_reach_99 : decode cX10_reach 99 = .ok (.if_icmp .eq 6, 3) := by decide +kernel
theorem dX10_reach_102 : decode cX10_reach 102 = .ok (.goto 53, 3) := by decide +kernel
theorem dX10_reach_105 : decode cX10_reach 105 = .ok (.iload 7, 2) := by decide +kernel
theorem dX10_reach_107 : decode cX10_reach 107 = .ok (.iconst 4, 1) := by decide +kernel
theorem dX10_reach_108 : decode cX10_reach 108 = .ok (.iand, 1) := by decide +kernel
theorem dX10_reach_109 : decode cX10_reach 109 = .ok (.ifCond .eq 7, 3) := by decide +kernel
theorem dX10_reach_112 : decode cX10_reach 112 = .ok (.iconst 1, 1) := by decide +kernel
theorem dX10_reach_113 : decode cX10_reach 113 = .ok (.goto 5, 3) := by decide +kernel
theorem dX10_reach_116 : decode cX10_reach 116 = .ok (.bipush 8, 2) := by decide +kernel
theorem dX10_reach_118 : decode cX10_reach 118 = .ok (.istore 10, 2) := by decide +kernel
theorem dX10_reach_120 : decode cX10_reach 120 = .ok (.iconst 0, 1) := by decide +kernel
theorem dX10_reach_121 : decode cX10_reach 121 = .ok (.istore 11, 2) := by decide +kernel
theorem dX10_reach_123 : decode cX10_reach 123 = .ok (.iload 11, 2) := by decide +kernel
theorem dX10_reach_125 : decode cX10_reach 125 = .ok (.iload 10, 2) := by decide +kernel
theorem dX10_reach_127 : decode cX10_reach 127 = .ok (.if_icmp .ge 28, 3) := by decide +kernel
theorem dX10_reach_130 : decode cX10_reach 130 = .ok (.lload 4, 2) := by decide +kernel
theorem dX10_reach_132 : decode cX10_reach 132 = .ok (.aload_n 0, 1) := by decide +kernel
theorem dX10_reach_133 : decode cX10_reach 133 = .ok (.iload_n 2, 1) := by decide +kernel
theorem dX10_reach_134 : decode cX10_reach 134 = .ok (.iload 6, 2) := by decide +kernel
theorem dX10_reach_136 : decode cX10_reach 136 = .ok (.iload 7, 2) := by decide +kernel
theorem dX10_reach_138 : decode cX10_reach 138 = .ok (.iload 11, 2) := by decide +kernel
theorem dX10_reach_140 : decode cX10_reach 140 = .ok (.iload_n 1, 1) := by decide +kernel
theorem dX10_reach_141 : decode cX10_reach 141 = .ok (.iconst 1, 1) := by decide +kernel
theorem dX10_reach_142 : decode cX10_reach 142 = .ok (.iand, 1) := by decide +kernel
theorem dX10_reach_143 : decode cX10_reach 143 = .ok (.invokevirtual 99, 3) := by decide +kernel
theorem dX10_reach_146 : decode cX10_reach 146 = .ok (.lor, 1) := by decide +kernel
theorem dX10_reach_147 : decode cX10_reach 147 = .ok (.lstore 4, 2) := by decide +kernel
theorem dX10_reach_149 : decode cX10_reach 149 = .ok (.iinc 11 1, 3) := by decide +kernel
theorem dX10_reach_152 : decode cX10_reach 152 = .ok (.goto (-29), 3) := by decide +kernel
theorem dX10_reach_155 : decode cX10_reach 155 = .ok (.iinc 6 1, 3) := by decide +kernel
theorem dX10_reach_158 : decode cX10_reach 158 = .ok (.goto (-148), 3) := by decide +kernel
theorem dX10_reach_161 : decode cX10_reach 161 = .ok (.lload 4, 2) := by decide +kernel
theorem dX10_reach_163 : decode cX10_reach 163 = .ok (.lreturn, 1) := by decide +kernel
def sX10_reach_155 (F : Nat) (k_10 : Hp → Nat → Int32 → Int32 → Int32 → Int64 → Int32 → Option (Int64 × Hp)) (h : Hp) (x0 : Nat) (x1 : Int32) (x2 : Int32) (x3 : Int32) (x4 : Int64) (x6 : Int32) : Option (Int64 × Hp) := nm (x6 + (1 : Int32)) fun v_1 => k_10 h x0 x1 x2 x3 x4 v_1
def sX10_reach_123 (F : Nat) (k_10 : Hp → Nat → Int32 → Int32 → Int32 → Int64 → Int32 → Option (Int64 × Hp)) : Nat → Hp → Nat → Int32 → Int32 → Int32 → Int64 → Int32 → Int32 → Int32 → Int32 → Option (Int64 × Hp)
  | 0, _, _, _, _, _, _, _, _, _, _ => none
  | f + 1, h, x0, x1, x2, x3, x4, x6, x7, x10, x11 => br (x10 ≤ x11) (sX10_reach_155 F k_10 h x0 x1 x2 x3 x4 x6) (cl (sX10_ride F h x0 x2 x6 x7 x11 (x1 &&& (1 : Int32))) fun o_2 => nm (x4 ||| o_2.1) fun v_3 => nm (x11 + (1 : Int32)) fun v_4 => sX10_reach_123 F k_10 f o_2.2 x0 x1 x2 x3 v_3 x6 x7 x10 v_4)
def sX10_reach_118 (F : Nat) (k_10 : Hp → Nat → Int32 → Int32 → Int32 → Int64 → Int32 → Option (Int64 × Hp)) (h : Hp) (x0 : Nat) (x1 : Int32) (x2 : Int32) (x3 : Int32) (x4 : Int64) (x6 : Int32) (x7 : Int32) (t0 : Int32) : Option (Int64 × Hp) := sX10_reach_123 F k_10 F h x0 x1 x2 x3 x4 x6 x7 t0 (0 : Int32)
def sX10_reach_105 (F : Nat) (k_10 : Hp → Nat → Int32 → Int32 → Int32 → Int64 → Int32 → Option (Int64 × Hp)) (h : Hp) (x0 : Nat) (x1 : Int32) (x2 : Int32) (x3 : Int32) (x4 : Int64) (x6 : Int32) (x7 : Int32) : Option (Int64 × Hp) := br ((x7 &&& (4 : Int32)) = 0) (sX10_reach_118 F k_10 h x0 x1 x2 x3 x4 x6 x7 (8 : Int32)) (sX10_reach_118 F k_10 h x0 x1 x2 x3 x4 x6 x7 (1 : Int32))
def sX10_reach_88 (F : Nat) (k_10 : Hp → Nat → Int32 → Int32 → Int32 → Int64 → Int32 → Option (Int64 × Hp)) (h : Hp) (x0 : Nat) (x1 : Int32) (x2 : Int32) (x3 : Int32) (x4 : Int64) (x6 : Int32) (x7 : Int32) (x8 : Int32) (t0 : Int32) : Option (Int64 × Hp) := br (x8 = 0) (sX10_reach_105 F k_10 h x0 x1 x2 x3 x4 x6 x7) (br (x8 = t0) (sX10_reach_105 F k_10 h x0 x1 x2 x3 x4 x6 x7) (sX10_reach_155 F k_10 h x0 x1 x2 x3 x4 x6))
def sX10_reach_10 (F : Nat) : Nat → Hp → Nat → Int32 → Int32 → Int32 → Int64 → Int32 → Option (Int64 × Hp)
  | 0, _, _, _, _, _, _, _ => none
  | f + 1, h, x0, x1, x2, x3, x4, x6 => cl (hR h x0 7) fun r_1 => cl (hR h r_1 16) fun r_2 => gd (inB x3 (hN h r_2)) <| br ((hI h r_2 x3.toNatClampNeg) ≤ x6) (some (x4, h)) (cl (hR h x0 7) fun r_5 => cl (hR h r_5 15) fun r_6 => gd (inB ((x3 * (8 : Int32)) + x6) (hN h r_6)) <| nm (hI h r_6 ((x3 * (8 : Int32)) + x6).toNatClampNeg) fun v_8 => nm ((v_8 >>> ((17 : Int32) &&& 31)) &&& (15 : Int32)) fun v_9 => br ((x1 &&& (1 : Int32)) = 0) (cl (hR h x0 7) fun r_15 => cl (hR h r_15 20) fun r_16 => gd (inB x2 (hN h r_16)) <| sX10_reach_88 F (sX10_reach_10 F f) h x0 x1 x2 x3 x4 x6 v_8 v_9 ((hI h r_16 x2.toNatClampNeg) + (1 : Int32))) (cl (hR h x0 7) fun r_11 => cl (hR h x0 7) fun r_12 => cl (hR h r_12 20) fun r_13 => gd (inB x2 (hN h r_13)) <| sX10_reach_88 F (sX10_reach_10 F f) h x0 x1 x2 x3 x4 x6 v_8 v_9 ((hI h r_11 1) - (hI h r_13 x2.toNatClampNeg))))
def sX10_reach (F : Nat) (h : Hp) (x0 : Nat) (x1 : Int32) (x2 : Int32) : Option (Int64 × Hp) := nm (x1 >>> ((1 : Int32) &&& 31)) fun v_1 => sX10_reach_10 F F h x0 x1 x2 v_1 (0 : Int64) (0 : Int32)
theorem moX10_reach_155 {o : Int64 × Hp} {k_10 : Hp → Nat → Int32 → Int32 → Int32 → Int64 → Int32 → Option (Int64 × Hp)} {F : Nat} (mk_10 : ∀ (h : Hp) (x0 : Nat) (x1 : Int32) (x2 : Int32) (x3 : Int32) (x4 : Int64) (x6 : Int32), k_10 h x0 x1 x2 x3 x4 x6 = some o → Le h o.2) {h : Hp} {x0 : Nat} {x1 : Int32} {x2 : Int32} {x3 : Int32} {x4 : Int64} {x6 : Int32} (hE : sX10_reach_155 F k_10 h x0 x1 x2 x3 x4 x6 = some o) : Le h o.2 := by
  obtain ⟨v_1, ev_1, hE⟩ := nm_e2 hE
  exact mk_10 _ _ _ _ _ _ _ hE
theorem moX10_reach_123 {o : Int64 × Hp} {k_10 : Hp → Nat → Int32 → Int32 → Int32 → Int64 → Int32 → Option (Int64 × Hp)} {F : Nat} (mk_10 : ∀ (h : Hp) (x0 : Nat) (x1 : Int32) (x2 : Int32) (x3 : Int32) (x4 : Int64) (x6 : Int32), k_10 h x0 x1 x2 x3 x4 x6 = some o → Le h o.2) : ∀ (f : Nat) {h : Hp} {x0 : Nat} {x1 : Int32} {x2 : Int32} {x3 : Int32} {x4 : Int64} {x6 : Int32} {x7 : Int32} {x10 : Int32} {x11 : Int32}, sX10_reach_123 F k_10 f h x0 x1 x2 x3 x4 x6 x7 x10 x11 = some o → Le h o.2 := by
  intro f
  induction f with
  | zero =>
    intro h x0 x1 x2 x3 x4 x6 x7 x10 x11 hE
    rw [sX10_reach_123] at hE
    cases hE
  | succ f ih =>
    intro h x0 x1 x2 x3 x4 x6 x7 x10 x11 hE
    rw [sX10_reach_123] at hE
    have mk_123 : ∀ (h : Hp) (x0 : Nat) (x1 : Int32) (x2 : Int32) (x3 : Int32) (x4 : Int64) (x6 : Int32) (x7 : Int32) (x10 : Int32) (x11 : Int32), sX10_reach_123 F k_10 f h x0 x1 x2 x3 x4 x6 x7 x10 x11 = some o → Le h o.2 := fun h x0 x1 x2 x3 x4 x6 x7 x10 x11 hE => ih hE
    rcases br_e hE with ⟨_, hE⟩ | ⟨_, hE⟩
    · exact moX10_reach_155 mk_10 hE
    · obtain ⟨o_2, eo_2, hE⟩ := cl_e hE
      refine (moX10_ride eo_2).tr ?_
      obtain ⟨v_3, ev_3, hE⟩ := nm_e2 hE
      obtain ⟨v_4, ev_4, hE⟩ := nm_e2 hE
      exact mk_123 _ _ _ _ _ _ _ _ _ _ hE
theorem moX10_reach_118 {o : Int64 × Hp} {k_10 : Hp → Nat → Int32 → Int32 → Int32 → Int64 → Int32 → Option (Int64 × Hp)} {F : Nat} (mk_10 : ∀ (h : Hp) (x0 : Nat) (x1 : Int32) (x2 : Int32) (x3 : Int32) (x4 : Int64) (x6 : Int32), k_10 h x0 x1 x2 x3 x4 x6 = some o → Le h o.2) {h : Hp} {x0 : Nat} {x1 : Int32} {x2 : Int32} {x3 : Int32} {x4 : Int64} {x6 : Int32} {x7 : Int32} {t0 : Int32} (hE : sX10_reach_118 F k_10 h x0 x1 x2 x3 x4 x6 x7 t0 = some o) : Le h o.2 := by
  exact moX10_reach_123 mk_10 _ hE
theorem moX10_reach_105 {o : Int64 × Hp} {k_10 : Hp → Nat → Int32 → Int32 → Int32 → Int64 → Int32 → Option (Int64 × Hp)} {F : Nat} (mk_10 : ∀ (h : Hp) (x0 : Nat) (x1 : Int32) (x2 : Int32) (x3 : Int32) (x4 : Int64) (x6 : Int32), k_10 h x0 x1 x2 x3 x4 x6 = some o → Le h o.2) {h : Hp} {x0 : Nat} {x1 : Int32} {x2 : Int32} {x3 : Int32} {x4 : Int64} {x6 : Int32} {x7 : Int32} (hE : sX10_reach_105 F k_10 h x0 x1 x2 x3 x4 x6 x7 = some o) : Le h o.2 := by
  rcases br_e hE with ⟨_, hE⟩ | ⟨_, hE⟩
  · exact moX10_reach_118 mk_10 hE
  · exact moX10_reach_118 mk_10 hE
theorem moX10_reach_88 {o : Int64 × Hp} {k_10 : Hp → Nat → Int32 → Int32 → Int32 → Int64 → Int32 → Option (Int64 × Hp)} {F : Nat} (mk_10 : ∀ (h : Hp) (x0 : Nat) (x1 : Int32) (x2 : Int32) (x3 : Int32) (x4 : Int64) (x6 : Int32), k_10 h x0 x1 x2 x3 x4 x6 = some o → Le h o.2) {h : Hp} {x0 : Nat} {x1 : Int32} {x2 : Int32} {x3 : Int32} {x4 : Int64} {x6 : Int32} {x7 : Int32} {x8 : Int32} {t0 : Int32} (hE : sX10_reach_88 F k_10 h x0 x1 x2 x3 x4 x6 x7 x8 t0 = some o) : Le h o.2 := by
  rcases br_e hE with ⟨_, hE⟩ | ⟨_, hE⟩
  · exact moX10_reach_105 mk_10 hE
  · rcases br_e hE with ⟨_, hE⟩ | ⟨_, hE⟩
    · exact moX10_reach_105 mk_10 hE
    · exact moX10_reach_155 mk_10 hE
theorem moX10_reach_10 {o : Int64 × Hp} {F : Nat} : ∀ (f : Nat) {h : Hp} {x0 : Nat} {x1 : Int32} {x2 : Int32} {x3 : Int32} {x4 : Int64} {x6 : Int32}, sX10_reach_10 F f h x0 x1 x2 x3 x4 x6 = some o → Le h o.2 := by
  intro f
  induction f with
  | zero =>
    intro h x0 x1 x2 x3 x4 x6 hE
    rw [sX10_reach_10] at hE
    cases hE
  | succ f ih =>
    intro h x0 x1 x2 x3 x4 x6 hE
    rw [sX10_reach_10] at hE
    have mk_10 : ∀ (h : Hp) (x0 : Nat) (x1 : Int32) (x2 : Int32) (x3 : Int32) (x4 : Int64) (x6 : Int32), sX10_reach_10 F f h x0 x1 x2 x3 x4 x6 = some o → Le h o.2 := fun h x0 x1 x2 x3 x4 x6 hE => ih hE
    obtain ⟨r_1, er_1, hE⟩ := cl_e hE
    obtain ⟨r_2, er_2, hE⟩ := cl_e hE
    obtain ⟨g_3, hE⟩ := gd_e hE
    rcases br_e hE with ⟨_, hE⟩ | ⟨_, hE⟩
    · cases hE
      exact Le.rf _
    · obtain ⟨r_5, er_5, hE⟩ := cl_e hE
      obtain ⟨r_6, er_6, hE⟩ := cl_e hE
      obtain ⟨g_7, hE⟩ := gd_e hE
      obtain ⟨v_8, ev_8, hE⟩ := nm_e2 hE
      obtain ⟨v_9, ev_9, hE⟩ := nm_e2 hE
      rcases br_e hE with ⟨_, hE⟩ | ⟨_, hE⟩
      · obtain ⟨r_15, er_15, hE⟩ := cl_e hE
        obtain ⟨r_16, er_16, hE⟩ := cl_e hE
        obtain ⟨g_17, hE⟩ := gd_e hE
        exact moX10_reach_88 mk_10 hE
      · obtain ⟨r_11, er_11, hE⟩ := cl_e hE
        obtain ⟨r_12, er_12, hE⟩ := cl_e hE
        obtain ⟨r_13, er_13, hE⟩ := cl_e hE
        obtain ⟨g_14, hE⟩ := gd_e hE
        exact moX10_reach_88 mk_10 hE
theorem moX10_reach {o : Int64 × Hp} {F : Nat} {h : Hp} {x0 : Nat} {x1 : Int32} {x2 : Int32} (hE : sX10_reach F h x0 x1 x2 = some o) : Le h o.2 := by
  obtain ⟨v_1, ev_1, hE⟩ := nm_e2 hE
  exact moX10_reach_10 _ hE
set_option maxRecDepth 20000 in
theorem bX10_reach_155 {p : Program} {l : Launch} {e : Env} {s : State} {m : MethodId} {args : Array Value} {below : List Frame} {meth : Method} {c : Code} {X : Ec} {h0 : Hp} {o : Int64 × Hp} {k_10 : Hp → Nat → Int32 → Int32 → Int32 → Int64 → Int32 → Option (Int64 × Hp)} {F : Nat} (C : Cx X p s m args meth c RX10 cX10_reach 12 (some .long) "reach") (hk_10 : ∀ (h : Hp) (x0 : Nat) (x1 : Int32) (x2 : Int32) (x3 : Int32) (x4 : Int64) (x6 : Int32) (H : Heap) (locs : List Loc), hK h x0 = 10 → Km h0 h → Wx X h H → va_S (aA (eB X)) s.heap H locs → ∀ (ls : Array Slot), lv_has ls 12 [(0, .ref x0), (1, .int x1), (2, .int x2), (3, .int x3), (4, .long x4), (6, .int x6)] → k_10 h x0 x1 x2 x3 x4 x6 = some o → W p l e (rm 2 58) s m args below meth c H locs 0 0 (MQ below (QJ X h0 o.1 o.2) args s 0 0 (aA (eB X))) (F0 m 10 ls [])) {h : Hp} {x0 : Nat} {x1 : Int32} {x2 : Int32} {x3 : Int32} {x4 : Int64} {x6 : Int32} {H : Heap} {locs : List Loc} (k_x0 : hK h x0 = 10) (hkm : Km h0 h) (hW : Wx X h H) (hZ : va_S (aA (eB X)) s.heap H locs) (ls : Array Slot) (hl : lv_has ls 12 [(0, .ref x0), (1, .int x1), (2, .int x2), (3, .int x3), (4, .long x4), (6, .int x6)]) (hE : sX10_reach_155 F k_10 h x0 x1 x2 x3 x4 x6 = some o) : W p l e (rm 2 58) s m args below meth c H locs 0 0 (MQ below (QJ X h0 o.1 o.2) args s 0 0 (aA (eB X))) (F0 m 155 ls []) := by
  obtain ⟨v_1, ev_1, hE⟩ := nm_e2 hE
  refine lv_iinc (v := v_1) (lv' := [(6, .int v_1), (0, .ref x0), (1, .int x1), (2, .int x2), (3, .int x3), (4, .long x4)]) C.1 C.2.1 dX10_reach_155 hl (k := 5) rfl (by rw [ev_1]; rfl) (by decide) rfl (fun ls hl => ?_)
  refine lv_goto (tgt := 10) C.1 C.2.1 dX10_reach_158 (by decide) ?_
  exact hk_10 _ _ _ _ _ _ _ _ _ k_x0 hkm hW hZ _ (lv_sub hl [1, 2, 3, 4, 5, 0] rfl) hE
set_option maxRecDepth 20000 in
theorem bX10_reach_123 {p : Program} {l : Launch} {e : Env} {s : State} {m : MethodId} {args : Array Value} {below : List Frame} {meth : Method} {c : Code} {X : Ec} {h0 : Hp} {o : Int64 × Hp} {k_10 : Hp → Nat → Int32 → Int32 → Int32 → Int64 → Int32 → Option (Int64 × Hp)} {F : Nat} (C : Cx X p s m args meth c RX10 cX10_reach 12 (some .long) "reach") (hk_10 : ∀ (h : Hp) (x0 : Nat) (x1 : Int32) (x2 : Int32) (x3 : Int32) (x4 : Int64) (x6 : Int32) (H : Heap) (locs : List Loc), hK h x0 = 10 → Km h0 h → Wx X h H → va_S (aA (eB X)) s.heap H locs → ∀ (ls : Array Slot), lv_has ls 12 [(0, .ref x0), (1, .int x1), (2, .int x2), (3, .int x3), (4, .long x4), (6, .int x6)] → k_10 h x0 x1 x2 x3 x4 x6 = some o → W p l e (rm 2 58) s m args below meth c H locs 0 0 (MQ below (QJ X h0 o.1 o.2) args s 0 0 (aA (eB X))) (F0 m 10 ls [])) : ∀ (f : Nat) {h : Hp} {x0 : Nat} {x1 : Int32} {x2 : Int32} {x3 : Int32} {x4 : Int64} {x6 : Int32} {x7 : Int32} {x10 : Int32} {x11 : Int32} {H : Heap} {locs : List Loc} (k_x0 : hK h x0 = 10), Km h0 h → Wx X h H → va_S (aA (eB X)) s.heap H locs → ∀ (ls : Array Slot), lv_has ls 12 [(0, .ref x0), (1, .int x1), (2, .int x2), (3, .int x3), (4, .long x4), (6, .int x6), (7, .int x7), (10, .int x10), (11, .int x11)] → sX10_reach_123 F k_10 f h x0 x1 x2 x3 x4 x6 x7 x10 x11 = some o → W p l e (rm 2 58) s m args below meth c H locs 0 0 (MQ below (QJ X h0 o.1 o.2) args s 0 0 (aA (eB X))) (F0 m 123 ls []) := by
  intro f
  induction f with
  | zero =>
    intro h x0 x1 x2 x3 x4 x6 x7 x10 x11 H locs k_x0 hkm hW hZ ls hl hE
    rw [sX10_reach_123] at hE
    cases hE
  | succ f ih =>
    intro h x0 x1 x2 x3 x4 x6 x7 x10 x11 H locs k_x0 hkm hW hZ ls hl hE
    rw [sX10_reach_123] at hE
    have hk_123 : ∀ (h : Hp) (x0 : Nat) (x1 : Int32) (x2 : Int32) (x3 : Int32) (x4 : Int64) (x6 : Int32) (x7 : Int32) (x10 : Int32) (x11 : Int32) (H : Heap) (locs : List Loc), hK h x0 = 10 → Km h0 h → Wx X h H → va_S (aA (eB X)) s.heap H locs → ∀ (ls : Array Slot), lv_has ls 12 [(0, .ref x0), (1, .int x1), (2, .int x2), (3, .int x3), (4, .long x4), (6, .int x6), (7, .int x7), (10, .int x10), (11, .int x11)] → sX10_reach_123 F k_10 f h x0 x1 x2 x3 x4 x6 x7 x10 x11 = some o → W p l e (rm 2 58) s m args below meth c H locs 0 0 (MQ below (QJ X h0 o.1 o.2) args s 0 0 (aA (eB X))) (F0 m 123 ls []) := fun h x0 x1 x2 x3 x4 x6 x7 x10 x11 H locs k_x0 a b c ls hl hE => ih k_x0 a b c ls hl hE
    refine lv_iload C.1 C.2.1 dX10_reach_123 (lv_at hl 8 rfl) ?_
    refine lv_iload C.1 C.2.1 dX10_reach_125 (lv_at hl 7 rfl) ?_
    refine lv_icmp_ge (tgt := 155) C.1 C.2.1 dX10_reach_127 (by decide) (fun c_1 => ?_) (fun c_1 => ?_)
    · have hE := br_p hE c_1
      exact bX10_reach_155 C hk_10 k_x0 hkm hW hZ _ (lv_sub hl [0, 1, 2, 3, 4, 5] rfl) hE
    · have hE := br_n hE c_1
      refine lv_lload C.1 C.2.1 dX10_reach_130 (lv_at hl 4 rfl) ?_
      refine lv_aload_n C.1 C.2.1 dX10_reach_132 rfl (lv_at hl 0 rfl) ?_
      refine lv_iload_n C.1 C.2.1 dX10_reach_133 rfl (lv_at hl 2 rfl) ?_
      refine lv_iload C.1 C.2.1 dX10_reach_134 (lv_at hl 5 rfl) ?_
      refine lv_iload C.1 C.2.1 dX10_reach_136 (lv_at hl 6 rfl) ?_
      refine lv_iload C.1 C.2.1 dX10_reach_138 (lv_at hl 8 rfl) ?_
      refine lv_iload_n C.1 C.2.1 dX10_reach_140 rfl (lv_at hl 1 rfl) ?_
      refine lv_iconst (v := (1 : Int32)) C.1 C.2.1 dX10_reach_141 (by decide) ?_
      refine lv_iand C.1 C.2.1 dX10_reach_142 ?_
      obtain ⟨o_2, eo_2, hE⟩ := cl_e hE
      refine x_kJ (o := o_2) (z_runV (As := [.int x2, .int x6, .int x7, .int x11, .int (x1 &&& (1 : Int32))]) (rest := [.long x4]) C (ct_X10_ride l X F k_x0 eo_2) cw_X10_99 hW hZ k_x0 (by decide) rfl rfl rfl hl.1 (Nat.le_of_ble_eq_true rfl) rfl dX10_reach_143 ⟨Nat.le_of_ble_eq_true rfl, Nat.le_of_ble_eq_true rfl⟩ ⟨Nat.le_refl _, Nat.le_refl _⟩) hZ (fun _ _ hW km hZ => ?_)
      replace hkm := hkm.tr km
      replace k_x0 := km.at k_x0 (by decide)
      refine lv_lor C.1 C.2.1 dX10_reach_146 ?_
      obtain ⟨v_3, ev_3, hE⟩ := nm_e2 hE
      refine x_nmJ ev_3 ?_
      refine lv_lstore (lv' := [(4, .long v_3), (0, .ref x0), (1, .int x1), (2, .int x2), (3, .int x3), (6, .int x6), (7, .int x7), (10, .int x10), (11, .int x11)]) C.1 C.2.1 dX10_reach_147 hl (by decide) rfl (fun ls hl => ?_)
      obtain ⟨v_4, ev_4, hE⟩ := nm_e2 hE
      refine lv_iinc (v := v_4) (lv' := [(11, .int v_4), (4, .long v_3), (0, .ref x0), (1, .int x1), (2, .int x2), (3, .int x3), (6, .int x6), (7, .int x7), (10, .int x10)]) C.1 C.2.1 dX10_reach_149 hl (k := 8) rfl (by rw [ev_4]; rfl) (by decide) rfl (fun ls hl => ?_)
      refine lv_goto (tgt := 123) C.1 C.2.1 dX10_reach_152 (by decide) ?_
      exact hk_123 _ _ _ _ _ _ _ _ _ _ _ _ k_x0 hkm hW hZ _ (lv_sub hl [2, 3, 4, 5, 1, 6, 7, 8, 0] rfl) hE
set_option maxRecDepth 20000 in
theorem bX10_reach_118 {p : Program} {l : Launch} {e : Env} {s : State} {m : MethodId} {args : Array Value} {below : List Frame} {meth : Method} {c : Code} {X : Ec} {h0 : Hp} {o : Int64 × Hp} {k_10 : Hp → Nat → Int32 → Int32 → Int32 → Int64 → Int32 → Option (Int64 × Hp)} {F : Nat} (C : Cx X p s m args meth c RX10 cX10_reach 12 (some .long) "reach") (hk_10 : ∀ (h : Hp) (x0 : Nat) (x1 : Int32) (x2 : Int32) (x3 : Int32) (x4 : Int64) (x6 : Int32) (H : Heap) (locs : List Loc), hK h x0 = 10 → Km h0 h → Wx X h H → va_S (aA (eB X)) s.heap H locs → ∀ (ls : Array Slot), lv_has ls 12 [(0, .ref x0), (1, .int x1), (2, .int x2), (3, .int x3), (4, .long x4), (6, .int x6)] → k_10 h x0 x1 x2 x3 x4 x6 = some o → W p l e (rm 2 58) s m args below meth c H locs 0 0 (MQ below (QJ X h0 o.1 o.2) args s 0 0 (aA (eB X))) (F0 m 10 ls [])) {h : Hp} {x0 : Nat} {x1 : Int32} {x2 : Int32} {x3 : Int32} {x4 : Int64} {x6 : Int32} {x7 : Int32} {t0 : Int32} {H : Heap} {locs : List Loc} (k_x0 : hK h x0 = 10) (hkm : Km h0 h) (hW : Wx X h H) (hZ : va_S (aA (eB X)) s.heap H locs) (ls : Array Slot) (hl : lv_has ls 12 [(0, .ref x0), (1, .int x1), (2, .int x2), (3, .int x3), (4, .long x4), (6, .int x6), (7, .int x7)]) (hE : sX10_reach_118 F k_10 h x0 x1 x2 x3 x4 x6 x7 t0 = some o) : W p l e (rm 2 58) s m args below meth c H locs 0 0 (MQ below (QJ X h0 o.1 o.2) args s 0 0 (aA (eB X))) (F0 m 118 ls [.int t0]) := by
  refine lv_istore (lv' := [(10, .int t0), (0, .ref x0), (1, .int x1), (2, .int x2), (3, .int x3), (4, .long x4), (6, .int x6), (7, .int x7)]) C.1 C.2.1 dX10_reach_118 hl (by decide) rfl (fun ls hl => ?_)
  refine lv_iconst (v := (0 : Int32)) C.1 C.2.1 dX10_reach_120 (by decide) ?_
  refine lv_istore (lv' := [(11, .int (0 : Int32)), (10, .int t0), (0, .ref x0), (1, .int x1), (2, .int x2), (3, .int x3), (4, .long x4), (6, .int x6), (7, .int x7)]) C.1 C.2.1 dX10_reach_121 hl (by decide) rfl (fun ls hl => ?_)
  exact bX10_reach_123 C hk_10 F k_x0 hkm hW hZ _ (lv_sub hl [2, 3, 4, 5, 6, 7, 8, 1, 0] rfl) hE
set_option maxRecDepth 20000 in
theorem bX10_reach_105 {p : Program} {l : Launch} {e : Env} {s : State} {m : MethodId} {args : Array Value} {below : List Frame} {meth : Method} {c : Code} {X : Ec} {h0 : Hp} {o : Int64 × Hp} {k_10 : Hp → Nat → Int32 → Int32 → Int32 → Int64 → Int32 → Option (Int64 × Hp)} {F : Nat} (C : Cx X p s m args meth c RX10 cX10_reach 12 (some .long) "reach") (hk_10 : ∀ (h : Hp) (x0 : Nat) (x1 : Int32) (x2 : Int32) (x3 : Int32) (x4 : Int64) (x6 : Int32) (H : Heap) (locs : List Loc), hK h x0 = 10 → Km h0 h → Wx X h H → va_S (aA (eB X)) s.heap H locs → ∀ (ls : Array Slot), lv_has ls 12 [(0, .ref x0), (1, .int x1), (2, .int x2), (3, .int x3), (4, .long x4), (6, .int x6)] → k_10 h x0 x1 x2 x3 x4 x6 = some o → W p l e (rm 2 58) s m args below meth c H locs 0 0 (MQ below (QJ X h0 o.1 o.2) args s 0 0 (aA (eB X))) (F0 m 10 ls [])) {h : Hp} {x0 : Nat} {x1 : Int32} {x2 : Int32} {x3 : Int32} {x4 : Int64} {x6 : Int32} {x7 : Int32} {H : Heap} {locs : List Loc} (k_x0 : hK h x0 = 10) (hkm : Km h0 h) (hW : Wx X h H) (hZ : va_S (aA (eB X)) s.heap H locs) (ls : Array Slot) (hl : lv_has ls 12 [(0, .ref x0), (1, .int x1), (2, .int x2), (3, .int x3), (4, .long x4), (6, .int x6), (7, .int x7)]) (hE : sX10_reach_105 F k_10 h x0 x1 x2 x3 x4 x6 x7 = some o) : W p l e (rm 2 58) s m args below meth c H locs 0 0 (MQ below (QJ X h0 o.1 o.2) args s 0 0 (aA (eB X))) (F0 m 105 ls []) := by
  refine lv_iload C.1 C.2.1 dX10_reach_105 (lv_at hl 6 rfl) ?_
  refine lv_iconst (v := (4 : Int32)) C.1 C.2.1 dX10_reach_107 (by decide) ?_
  refine lv_iand C.1 C.2.1 dX10_reach_108 ?_
  refine lv_if_eq (tgt := 116) C.1 C.2.1 dX10_reach_109 (by decide) (fun c_1 => ?_) (fun c_1 => ?_)
  · have hE := br_p hE c_1
    refine lv_bipush (v := (8 : Int32)) C.1 C.2.1 dX10_reach_116 (by decide) ?_
    exact bX10_reach_118 C hk_10 k_x0 hkm hW hZ _ (lv_sub hl [0, 1, 2, 3, 4, 5, 6] rfl) hE
  · have hE := br_n hE c_1
    refine lv_iconst (v := (1 : Int32)) C.1 C.2.1 dX10_reach_112 (by decide) ?_
    refine lv_goto (tgt := 118) C.1 C.2.1 dX10_reach_113 (by decide) ?_
    exact bX10_reach_118 C hk_10 k_x0 hkm hW hZ _ (lv_sub hl [0, 1, 2, 3, 4, 5, 6] rfl) hE
set_option maxRecDepth 20000 in
theorem bX10_reach_88 {p : Program} {l : Launch} {e : Env} {s : State} {m : MethodId} {args : Array Value} {below : List Frame} {meth : Method} {c : Code} {X : Ec} {h0 : Hp} {o : Int64 × Hp} {k_10 : Hp → Nat → Int32 → Int32 → Int32 → Int64 → Int32 → Option (Int64 × Hp)} {F : Nat} (C : Cx X p s m args meth c RX10 cX10_reach 12 (some .long) "reach") (hk_10 : ∀ (h : Hp) (x0 : Nat) (x1 : Int32) (x2 : Int32) (x3 : Int32) (x4 : Int64) (x6 : Int32) (H : Heap) (locs : List Loc), hK h x0 = 10 → Km h0 h → Wx X h H → va_S (aA (eB X)) s.heap H locs → ∀ (ls : Array Slot), lv_has ls 12 [(0, .ref x0), (1, .int x1), (2, .int x2), (3, .int x3), (4, .long x4), (6, .int x6)] → k_10 h x0 x1 x2 x3 x4 x6 = some o → W p l e (rm 2 58) s m args below meth c H locs 0 0 (MQ below (QJ X h0 o.1 o.2) args s 0 0 (aA (eB X))) (F0 m 10 ls [])) {h : Hp} {x0 : Nat} {x1 : Int32} {x2 : Int32} {x3 : Int32} {x4 : Int64} {x6 : Int32} {x7 : Int32} {x8 : Int32} {t0 : Int32} {H : Heap} {locs : List Loc} (k_x0 : hK h x0 = 10) (hkm : Km h0 h) (hW : Wx X h H) (hZ : va_S (aA (eB X)) s.heap H locs) (ls : Array Slot) (hl : lv_has ls 12 [(0, .ref x0), (1, .int x1), (2, .int x2), (3, .int x3), (4, .long x4), (6, .int x6), (7, .int x7), (8, .int x8)]) (hE : sX10_reach_88 F k_10 h x0 x1 x2 x3 x4 x6 x7 x8 t0 = some o) : W p l e (rm 2 58) s m args below meth c H locs 0 0 (MQ below (QJ X h0 o.1 o.2) args s 0 0 (aA (eB X))) (F0 m 88 ls [.int t0]) := by
  refine lv_istore (lv' := [(9, .int t0), (0, .ref x0), (1, .int x1), (2, .int x2), (3, .int x3), (4, .long x4), (6, .int x6), (7, .int x7), (8, .int x8)]) C.1 C.2.1 dX10_reach_88 hl (by decide) rfl (fun ls hl => ?_)
  refine lv_iload C.1 C.2.1 dX10_reach_90 (lv_at hl 8 rfl) ?_
  refine lv_if_eq (tgt := 105) C.1 C.2.1 dX10_reach_92 (by decide) (fun c_1 => ?_) (fun c_1 => ?_)
  · have hE := br_p hE c_1
    exact bX10_reach_105 C hk_10 k_x0 hkm hW hZ _ (lv_sub hl [1, 2, 3, 4, 5, 6, 7] rfl) hE
  · have hE := br_n hE c_1
    refine lv_iload C.1 C.2.1 dX10_reach_95 (lv_at hl 8 rfl) ?_
    refine lv_iload C.1 C.2.1 dX10_reach_97 (lv_at hl 0 rfl) ?_
    refine lv_icmp_eq (tgt := 105) C.1 C.2.1 dX10_reach_99 (by decide) (fun c_2 => ?_) (fun c_2 => ?_)
    · have hE := br_p hE c_2
      exact bX10_reach_105 C hk_10 k_x0 hkm hW hZ _ (lv_sub hl [1, 2, 3, 4, 5, 6, 7] rfl) hE
    · have hE := br_n hE c_2
      refine lv_goto (tgt := 155) C.1 C.2.1 dX10_reach_102 (by decide) ?_
      exact bX10_reach_155 C hk_10 k_x0 hkm hW hZ _ (lv_sub hl [1, 2, 3, 4, 5, 6] rfl) hE
set_option maxRecDepth 20000 in
theorem bX10_reach_10 {p : Program} {l : Launch} {e : Env} {s : State} {m : MethodId} {args : Array Value} {below : List Frame} {meth : Method} {c : Code} {X : Ec} {h0 : Hp} {o : Int64 × Hp} {F : Nat} (C : Cx X p s m args meth c RX10 cX10_reach 12 (some .long) "reach") : ∀ (f : Nat) {h : Hp} {x0 : Nat} {x1 : Int32} {x2 : Int32} {x3 : Int32} {x4 : Int64} {x6 : Int32} {H : Heap} {locs : List Loc} (k_x0 : hK h x0 = 10), Km h0 h → Wx X h H → va_S (aA (eB X)) s.heap H locs → ∀ (ls : Array Slot), lv_has ls 12 [(0, .ref x0), (1, .int x1), (2, .int x2), (3, .int x3), (4, .long x4), (6, .int x6)] → sX10_reach_10 F f h x0 x1 x2 x3 x4 x6 = some o → W p l e (rm 2 58) s m args below meth c H locs 0 0 (MQ below (QJ X h0 o.1 o.2) args s 0 0 (aA (eB X))) (F0 m 10 ls []) := by
  intro f
  induction f with
  | zero =>
    intro h x0 x1 x2 x3 x4 x6 H locs k_x0 hkm hW hZ ls hl hE
    rw [sX10_reach_10] at hE
    cases hE
  | succ f ih =>
    intro h x0 x1 x2 x3 x4 x6 H locs k_x0 hkm hW hZ ls hl hE
    rw [sX10_reach_10] at hE
    have hk_10 : ∀ (h : Hp) (x0 : Nat) (x1 : Int32) (x2 : Int32) (x3 : Int32) (x4 : Int64) (x6 : Int32) (H : Heap) (locs : List Loc), hK h x0 = 10 → Km h0 h → Wx X h H → va_S (aA (eB X)) s.heap H locs → ∀ (ls : Array Slot), lv_has ls 12 [(0, .ref x0), (1, .int x1), (2, .int x2), (3, .int x3), (4, .long x4), (6, .int x6)] → sX10_reach_10 F f h x0 x1 x2 x3 x4 x6 = some o → W p l e (rm 2 58) s m args below meth c H locs 0 0 (MQ below (QJ X h0 o.1 o.2) args s 0 0 (aA (eB X))) (F0 m 10 ls []) := fun h x0 x1 x2 x3 x4 x6 H locs k_x0 a b c ls hl hE => ih k_x0 a b c ls hl hE
    refine lv_iload C.1 C.2.1 dX10_reach_10 (lv_at hl 5 rfl) ?_
    refine lv_aload_n C.1 C.2.1 dX10_reach_12 rfl (lv_at hl 0 rfl) ?_
    obtain ⟨r_1, er_1, hE⟩ := cl_e hE
    refine gf_X10_35 C hW k_x0 er_1 dX10_reach_13 (fun k_r_1 => ?_)
    obtain ⟨r_2, er_2, hE⟩ := cl_e hE
    refine gf_X10_83 C hW k_r_1 er_2 dX10_reach_16 (fun k_r_2 => ?_)
    refine lv_iload_n C.1 C.2.1 dX10_reach_19 rfl (lv_at hl 3 rfl) ?_
    obtain ⟨g_3, hE⟩ := gd_e hE
    refine y_iald C hW k_r_2 g_3 dX10_reach_20 ?_
    refine lv_icmp_ge (tgt := 161) C.1 C.2.1 dX10_reach_21 (by decide) (fun c_4 => ?_) (fun c_4 => ?_)
    · have hE := br_p hE c_4
      refine lv_lload C.1 C.2.1 dX10_reach_161 (lv_at hl 4 rfl) ?_
      exact x_lret C rfl hW hZ hkm hE dX10_reach_163
    · have hE := br_n hE c_4
      refine lv_aload_n C.1 C.2.1 dX10_reach_24 rfl (lv_at hl 0 rfl) ?_
      obtain ⟨r_5, er_5, hE⟩ := cl_e hE
      refine gf_X10_35 C hW k_x0 er_5 dX10_reach_25 (fun k_r_5 => ?_)
      obtain ⟨r_6, er_6, hE⟩ := cl_e hE
      refine gf_X10_86 C hW k_r_5 er_6 dX10_reach_28 (fun k_r_6 => ?_)
      refine lv_iload_n C.1 C.2.1 dX10_reach_31 rfl (lv_at hl 3 rfl) ?_
      refine lv_bipush (v := (8 : Int32)) C.1 C.2.1 dX10_reach_32 (by decide) ?_
      refine lv_imul C.1 C.2.1 dX10_reach_34 ?_
      refine lv_iload C.1 C.2.1 dX10_reach_35 (lv_at hl 5 rfl) ?_
      refine lv_iadd C.1 C.2.1 dX10_reach_37 ?_
      obtain ⟨g_7, hE⟩ := gd_e hE
      refine y_iald C hW k_r_6 g_7 dX10_reach_38 ?_
      obtain ⟨v_8, ev_8, hE⟩ := nm_e2 hE
      refine x_nmI ev_8 ?_
      refine lv_istore (lv' := [(7, .int v_8), (0, .ref x0), (1, .int x1), (2, .int x2), (3, .int x3), (4, .long x4), (6, .int x6)]) C.1 C.2.1 dX10_reach_39 hl (by decide) rfl (fun ls hl => ?_)
      refine lv_iload C.1 C.2.1 dX10_reach_41 (lv_at hl 0 rfl) ?_
      refine lv_bipush (v := (17 : Int32)) C.1 C.2.1 dX10_reach_43 (by decide) ?_
      refine lv_ishr C.1 C.2.1 dX10_reach_45 ?_
      refine lv_bipush (v := (15 : Int32)) C.1 C.2.1 dX10_reach_46 (by decide) ?_
      refine lv_iand C.1 C.2.1 dX10_reach_48 ?_
      obtain ⟨v_9, ev_9, hE⟩ := nm_e2 hE
      refine x_nmI ev_9 ?_
      refine lv_istore (lv' := [(8, .int v_9), (7, .int v_8), (0, .ref x0), (1, .int x1), (2, .int x2), (3, .int x3), (4, .long x4), (6, .int x6)]) C.1 C.2.1 dX10_reach_49 hl (by decide) rfl (fun ls hl => ?_)
      refine lv_iload_n C.1 C.2.1 dX10_reach_51 rfl (lv_at hl 3 rfl) ?_
      refine lv_iconst (v := (1 : Int32)) C.1 C.2.1 dX10_reach_52 (by decide) ?_
      refine lv_iand C.1 C.2.1 dX10_reach_53 ?_
      refine lv_if_ne (tgt := 71) C.1 C.2.1 dX10_reach_54 (by decide) (fun c_10 => ?_) (fun c_10 => ?_)
      · have hE := br_n hE c_10
        refine lv_aload_n C.1 C.2.1 dX10_reach_71 rfl (lv_at hl 2 rfl) ?_
        obtain ⟨r_11, er_11, hE⟩ := cl_e hE
        refine gf_X10_35 C hW k_x0 er_11 dX10_reach_72 (fun k_r_11 => ?_)
        refine gf_X10_96 C hW k_r_11 dX10_reach_75 ?_
        refine lv_aload_n C.1 C.2.1 dX10_reach_78 rfl (lv_at hl 2 rfl) ?_
        obtain ⟨r_12, er_12, hE⟩ := cl_e hE
        refine gf_X10_35 C hW k_x0 er_12 dX10_reach_79 (fun k_r_12 => ?_)
        obtain ⟨r_13, er_13, hE⟩ := cl_e hE
        refine gf_X10_93 C hW k_r_12 er_13 dX10_reach_82 (fun k_r_13 => ?_)
        refine lv_iload_n C.1 C.2.1 dX10_reach_85 rfl (lv_at hl 4 rfl) ?_
        obtain ⟨g_14, hE⟩ := gd_e hE
        refine y_iald C hW k_r_13 g_14 dX10_reach_86 ?_
        refine lv_isub C.1 C.2.1 dX10_reach_87 ?_
        exact bX10_reach_88 C hk_10 k_x0 hkm hW hZ _ (lv_sub hl [2, 3, 4, 5, 6, 7, 1, 0] rfl) hE
      · have hE := br_p hE c_10
        refine lv_aload_n C.1 C.2.1 dX10_reach_57 rfl (lv_at hl 2 rfl) ?_
        obtain ⟨r_15, er_15, hE⟩ := cl_e hE
        refine gf_X10_35 C hW k_x0 er_15 dX10_reach_58 (fun k_r_15 => ?_)
        obtain ⟨r_16, er_16, hE⟩ := cl_e hE
        refine gf_X10_93 C hW k_r_15 er_16 dX10_reach_61 (fun k_r_16 => ?_)
        refine lv_iload_n C.1 C.2.1 dX10_reach_64 rfl (lv_at hl 4 rfl) ?_
        obtain ⟨g_17, hE⟩ := gd_e hE
        refine y_iald C hW k_r_16 g_17 dX10_reach_65 ?_
        refine lv_iconst (v := (1 : Int32)) C.1 C.2.1 dX10_reach_66 (by decide) ?_
        refine lv_iadd C.1 C.2.1 dX10_reach_67 ?_
        refine lv_goto (tgt := 88) C.1 C.2.1 dX10_reach_68 (by decide) ?_
        exact bX10_reach_88 C hk_10 k_x0 hkm hW hZ _ (lv_sub hl [2, 3, 4, 5, 6, 7, 1, 0] rfl) hE
set_option maxRecDepth 20000 in
theorem ct_X10_reach (l : Launch) (X : Ec) (F : Nat) {h : Hp} {x0 : Nat} {x1 : Int32} {x2 : Int32} {o : Int64 × Hp} (k_x0 : hK h x0 = 10) (hE : sX10_reach F h x0 x1 x2 = some o) : MetJ l yX10_reach cX10_reach 12 (some .long) 2 58 X [.ref x0, .int x1, .int x2] h o := by
  refine x_met (by decide) (Nat.le_of_ble_eq_true rfl) ?_
  intro p e s m below meth c ls C hl hW hZ
  have hl : lv_has ls 12 [(0, .ref x0), (1, .int x1), (2, .int x2)] := hl
  have hkm : Km h h := Km.rf h
  refine lv_iload_n C.1 C.2.1 dX10_reach_0 rfl (lv_at hl 1 rfl) ?_
  refine lv_iconst (v := (1 : Int32)) C.1 C.2.1 dX10_reach_1 (by decide) ?_
  refine lv_ishr C.1 C.2.1 dX10_reach_2 ?_
  obtain ⟨v_1, ev_1, hE⟩ := nm_e2 hE
  refine x_nmI ev_1 ?_
  refine lv_istore_n (lv' := [(3, .int v_1), (0, .ref x0), (1, .int x1), (2, .int x2)]) C.1 C.2.1 dX10_reach_3 rfl hl (by decide) rfl (fun ls hl => ?_)
  refine lv_lconst (v := (0 : Int64)) C.1 C.2.1 dX10_reach_4 (by decide) ?_
  refine lv_lstore (lv' := [(4, .long (0 : Int64)), (3, .int v_1), (0, .ref x0), (1, .int x1), (2, .int x2)]) C.1 C.2.1 dX10_reach_5 hl (by decide) rfl (fun ls hl => ?_)
  refine lv_iconst (v := (0 : Int32)) C.1 C.2.1 dX10_reach_7 (by decide) ?_
  refine lv_istore (lv' := [(6, .int (0 : Int32)), (4, .long (0 : Int64)), (3, .int v_1), (0, .ref x0), (1, .int x1), (2, .int x2)]) C.1 C.2.1 dX10_reach_8 hl (by decide) rfl (fun ls hl => ?_)
  exact bX10_reach_10 C F k_x0 hkm hW hZ _ (lv_sub hl [3, 4, 5, 2, 1, 0] rfl) hE
theorem dX10_cell_0 : decode cX10_cell 0 = .ok (.iload_n 0, 1) := by decide +kernel
theorem dX10_cell_1 : decode cX10_cell 1 = .ok (.bipush 64, 2) := by decide +kernel
theorem dX10_cell_3 : decode cX10_cell 3 = .ok (.imul, 1) := by decide +kernel
theorem dX10_cell_4 : decode cX10_cell 4 = .ok (.iload_n 1, 1) := by decide +kernel
theorem dX10_cell_5 : decode cX10_cell 5 = .ok (.iadd, 1) := by decide +kernel
theorem dX10_cell_6 : decode cX10_cell 6 = .ok (.bipush 64, 2) := by decide +kernel
theorem dX10_cell_8 : decode cX10_cell 8 = .ok (.imul, 1) := by decide +kernel
theorem dX10_cell_9 : decode cX10_cell 9 = .ok (.iload_n 2, 1) := by decide +kernel
theorem dX10_cell_10 : decode cX10_cell 10 = .ok (.iadd, 1) := by decide +kernel
theorem dX10_cell_11 : decode cX10_cell 11 = .ok (.ireturn, 1) := by decide +kernel
def sX10_cell (h : Hp) (x0 : Int32) (x1 : Int32) (x2 : Int32) : Option (Int32 × Hp) := some ((((x0 * (64 : Int32)) + x1) * (64 : Int32)) + x2, h)
theorem moX10_cell {o : Int32 × Hp} {h : Hp} {x0 : Int32} {x1 : Int32} {x2 : Int32} (hE : sX10_cell h x0 x1 x2 = some o) : Le h o.2 := by
  cases hE
  exact Le.rf _
set_option maxRecDepth 20000 in
theorem ct_X10_cell (l : Launch) (X : Ec) {h : Hp} {x0 : Int32} {x1 : Int32} {x2 : Int32} {o : Int32 × Hp} (hE : sX10_cell h x0 x1 x2 = some o) : MetI l yX10_cell cX10_cell 3 (some .int) 0 0 X [.int x0, .int x1, .int x2] h o := by
  refine x_met (by decide) (Nat.le_of_ble_eq_true rfl) ?_
  intro p e s m below meth c ls C hl hW hZ
  have hl : lv_has ls 3 [(0, .int x0), (1, .int x1), (2, .int x2)] := hl
  have hkm : Km h h := Km.rf h
  refine lv_iload_n C.1 C.2.1 dX10_cell_0 rfl (lv_at hl 0 rfl) ?_
  refine lv_bipush (v := (64 : Int32)) C.1 C.2.1 dX10_cell_1 (by decide) ?_
  refine lv_imul C.1 C.2.1 dX10_cell_3 ?_
  refine lv_iload_n C.1 C.2.1 dX10_cell_4 rfl (lv_at hl 1 rfl) ?_
  refine lv_iadd C.1 C.2.1 dX10_cell_5 ?_
  refine lv_bipush (v := (64 : Int32)) C.1 C.2.1 dX10_cell_6 (by decide) ?_
  refine lv_imul C.1 C.2.1 dX10_cell_8 ?_
  refine lv_iload_n C.1 C.2.1 dX10_cell_9 rfl (lv_at hl 2 rfl) ?_
  refine lv_iadd C.1 C.2.1 dX10_cell_10 ?_
  exact x_iret C rfl rfl hW hZ hkm hE dX10_cell_11
theorem m_237 : Cond.fieldLink RX10 39 (TX10 8).1 (TX10 8).2.1 (TX10 8).2.2.1 ∈ W0 := w0_in (List.mem_append_right _ (List.mem_of_getElem? (i := 237) (by decide +kernel))) rfl
theorem m_820 : Cond.methodLink RX10 113 yJ7_copyOf_59c91 ∈ W0 := w0_in (List.mem_append_right _ (List.mem_of_getElem? (i := 820) (by decide +kernel))) rfl
theorem m_821 : Cond.static yJ7_copyOf_59c91 ∈ W0 := w0_in (List.mem_append_right _ (List.mem_of_getElem? (i := 821) (by decide +kernel))) rfl
theorem m_822 : Cond.code yJ7_copyOf_59c91 cJ7_copyOf_59c91 3 (some (.array .int)) ∈ W0 := w0_in (List.mem_append_right _ (List.mem_of_getElem? (i := 822) (by decide +kernel))) rfl
theorem m_836 : Cond.methodLink RX10 117 yJ7_copyOf_c38d5 ∈ W0 := w0_in (List.mem_append_right _ (List.mem_of_getElem? (i := 836) (by decide +kernel))) rfl
theorem m_837 : Cond.static yJ7_copyOf_c38d5 ∈ W0 := w0_in (List.mem_append_right _ (List.mem_of_getElem? (i := 837) (by decide +kernel))) rfl
theorem m_838 : Cond.code yJ7_copyOf_c38d5 cJ7_copyOf_c38d5 3 (some (.array .long)) ∈ W0 := w0_in (List.mem_append_right _ (List.mem_of_getElem? (i := 838) (by decide +kernel))) rfl
section
variable {p : Program} {l : Launch} {e : Env} {R : Room} {s : State} {m : MethodId} {args : Array Value} {below : List Frame} {meth : Method} {c : Code} {H : Heap} {locs : List Loc} {cells slots : Nat} {Q : State → Prop}
variable {cc : ByteArray} {pc : Nat} {ls : Array Slot} {rest : List Value} {X : Ec} {h h1 : Hp} {nL : Nat} {rt : Option FieldType} {mn : String}
theorem gf_X10_16 {a r : Nat} (C : Cx X p s m args meth c RX10 cc nL rt mn) (hW : Wx X h H) (ha : hK h a = 10) (hr : hR h a 1 = some r) (hdg : decode cc pc = .ok (.getfield 16, 3)) (kk : hK h r = 17 → W p l e R s m args below meth c H locs cells slots Q (F0 m (pc + 3) ls (.ref r :: rest))) : W p l e R s m args below meth c H locs cells slots Q (F0 m pc ls (.ref a :: rest)) :=
  y_getr C hW ha i_X10 (by decide) rfl (by decide) m_226 rfl rfl hr hdg kk
theorem gf_X10_39 {a : Nat} (C : Cx X p s m args meth c RX10 cc nL rt mn) (hW : Wx X h H) (ha : hK h a = 10) (hdg : decode cc pc = .ok (.getfield 39, 3)) (kk : W p l e R s m args below meth c H locs cells slots Q (F0 m (pc + 3) ls (.int (hI h a 8) :: rest))) : W p l e R s m args below meth c H locs cells slots Q (F0 m pc ls (.ref a :: rest)) :=
  y_geti C hW ha i_X10 (by decide) rfl (by decide) m_237 rfl hdg kk
theorem gf_X10_19 {a r : Nat} (C : Cx X p s m args meth c RX10 cc nL rt mn) (hW : Wx X h H) (ha : hK h a = 10) (hr : hR h a 2 = some r) (hdg : decode cc pc = .ok (.getfield 19, 3)) (kk : hK h r = 18 → W p l e R s m args below meth c H locs cells slots Q (F0 m (pc + 3) ls (.ref r :: rest))) : W p l e R s m args below meth c H locs cells slots Q (F0 m pc ls (.ref a :: rest)) :=
  y_getr C hW ha i_X10 (by decide) rfl (by decide) m_228 rfl rfl hr hdg kk
theorem pf_X10_39 {a : Nat} {v : Int32} (C : Cx X p s m args meth c RX10 cc nL rt mn) (hW : Wx X h H) (hZ : va_S (aA (eB X)) s.heap H locs) (ha : hK h a = 10) (eh : h1 = wI h a 8 v) (hdg : decode cc pc = .ok (.putfield 39, 3)) (kk : ∀ (H1 : Heap) (locs1 : List Loc), Wx X h1 H1 → Km h h1 → va_S (aA (eB X)) s.heap H1 locs1 → W p l e R s m args below meth c H1 locs1 cells slots Q (F0 m (pc + 3) ls rest)) : W p l e R s m args below meth c H locs cells slots Q (F0 m pc ls (.int v :: .ref a :: rest)) :=
  y_puti (ty := .int) C hW hZ ha i_X10 tyX10 tyX10_ok nmX10 (by decide) rfl rfl (by decide) m_237 rfl (by decide +kernel) rfl rfl rfl eh hdg kk
theorem gf_X10_23 {a r : Nat} (C : Cx X p s m args meth c RX10 cc nL rt mn) (hW : Wx X h H) (ha : hK h a = 10) (hr : hR h a 3 = some r) (hdg : decode cc pc = .ok (.getfield 23, 3)) (kk : hK h r = 18 → W p l e R s m args below meth c H locs cells slots Q (F0 m (pc + 3) ls (.ref r :: rest))) : W p l e R s m args below meth c H locs cells slots Q (F0 m pc ls (.ref a :: rest)) :=
  y_getr C hW ha i_X10 (by decide) rfl (by decide) m_230 rfl rfl hr hdg kk
theorem gf_X10_26 {a r : Nat} (C : Cx X p s m args meth c RX10 cc nL rt mn) (hW : Wx X h H) (ha : hK h a = 10) (hr : hR h a 4 = some r) (hdg : decode cc pc = .ok (.getfield 26, 3)) (kk : hK h r = 18 → W p l e R s m args below meth c H locs cells slots Q (F0 m (pc + 3) ls (.ref r :: rest))) : W p l e R s m args below meth c H locs cells slots Q (F0 m pc ls (.ref a :: rest)) :=
  y_getr C hW ha i_X10 (by decide) rfl (by decide) m_231 rfl rfl hr hdg kk
end
theorem cw_X10_117 : cwd RX10 117 yJ7_copyOf_c38d5 cJ7_copyOf_c38d5 3 (some (.array .long)) true 2 := ⟨m_838, m_836, m_9, m_837, by decide, by decide, by decide +kernel⟩
theorem cw_X10_113 : cwd RX10 113 yJ7_copyOf_59c91 cJ7_copyOf_59c91 3 (some (.array .int)) true 2 := ⟨m_822, m_820, m_9, m_821, by decide, by decide, by decide +kernel⟩
theorem dX10_addWay_0 : decode cX10_addWay 0 = .ok (.aload_n 0, 1) := by decide +kernel
theorem dX10_addWay_1 : decode cX10_addWay 1 = .ok (.getfield 39, 3) := by decide +kernel
theorem dX10_addWay_4 : decode cX10_addWay 4 = .ok (.aload_n 0, 1) := by decide +kernel
theorem dX10_addWay_5 : decode cX10_addWay 5 = .ok (.getfield 16, 3) := by decide +kernel
theorem dX10_addWay_8 : decode cX10_addWay 8 = .ok (.arraylength, 1) := by decide +kernel
theorem dX10_addWay_9 : decode cX10_addWay 9 = .ok (.if_icmp .lt 37, 3) := by decide +kernel
theorem dX10_addWay_12 : decode cX10_addWay 12 = .ok (.aload_n 0, 1) := by decide +kernel
theorem dX10_addWay_13 : decode cX10_addWay 13 = .ok (.aload_n 0, 1) := by decide +kernel
theorem dX10_addWay_14 : decode cX10_addWay 14 = .ok (.getfield 16, 3) := by decide +kernel
theorem dX10_addWay_17 : decode cX10_addWay 17 = .ok (.iconst 2, 1) := by decide +kernel
theorem dX10_addWay_18 : decode cX10_addWay 18 = .ok (.aload_n 0, 1) := by decide +kernel
theorem dX10_addWay_19 : decode cX10_addWay 19 = .ok (.getfield 39, 3) := by decide +kernel
theorem dX10_addWay_22 : decode cX10_addWay 22 = .ok (.imul, 1) := by decide +kernel
theorem dX10_addWay_23 : decode cX10_addWay 23 = .ok (.invokestatic 113, 3) := by decide +kernel
theorem dX10_addWay_26 : decode cX10_addWay 26 = .ok (.putfield 16, 3) := by decide +kernel
theorem dX10_addWay_29 : decode cX10_addWay 29 = .ok (.aload_n 0, 1) := by decide +kernel
theorem dX10_addWay_30 : decode cX10_addWay 30 = .ok (.aload_n 0, 1) := by decide +kernel
theorem dX10_addWay_31 : decode cX10_addWay 31 = .ok (.getfield 19, 3) := by decide +kernel
theorem dX10_addWay_34 : decode cX10_addWay 34 = .ok (.iconst 2, 1) := by decide +kernel
theorem dX10_addWay_35 : decode cX10_addWay 35 = .ok (.aload_n 0, 1) := by decide +kernel
theorem dX10_addWay_36 : decode cX10_addWay 36 = .ok (.getfield 39, 3) := by decide +kernel
theorem dX10_addWay_39 : decode cX10_addWay 39 = .ok (.imul, 1) := by decide +kernel
theorem dX10_addWay_40 : decode cX10_addWay 40 = .ok (.invokestatic 117, 3) := by decide +kernel
theorem dX10_addWay_43 : decode cX10_addWay 43 = .ok (.putfield 19, 3) := by decide +kernel
theorem dX10_addWay_46 : decode cX10_addWay 46 = .ok (.lconst 0, 1) := by decide +kernel
theorem dX10_addWay_47 : decode cX10_addWay 47 = .ok (.lstore 6, 2) := by decide +kernel
theorem dX10_addWay_49 : decode cX10_addWay 49 = .ok (.iload 5, 2) := by decide +kernel
theorem dX10_addWay_51 : decode cX10_addWay 51 = .ok (.ifCond .le 12, 3) := by decide +kernel
theorem dX10_addWay_54 : decode cX10_addWay 54 = .ok (.iload_n 3, 1) := by decide +kernel
theorem dX10_addWay_55 : decode cX10_addWay 55 = .ok (.iload_n 2, 1) := by decide +kernel
theorem dX10_addWay_56 : decode cX10_addWay 56 = .ok (.isub, 1) := by decide +kernel
theorem dX10_addWay_57 : decode cX10_addWay 57 = .ok (.iload 5, 2) := by decide +kernel
theorem dX10_addWay_59 : decode cX10_addWay 59 = .ok (.idiv, 1) := by decide +kernel
theorem dX10_addWay_60 : decode cX10_addWay 60 = .ok (.goto 4, 3) := by decide +kernel
theorem dX10_addWay_63 : decode cX10_addWay 63 = .ok (.iconst 0, 1) := by decide +kernel
theorem dX10_addWay_64 : decode cX10_addWay 64 = .ok (.istore 8, 2) := by decide +kernel
theorem dX10_addWay_66 : decode cX10_addWay 66 = .ok (.iconst 1, 1) := by decide +kernel
theorem dX10_addWay_67 : decode cX10_addWay 67 = .ok (.istore 9, 2) := by decide +kernel
theorem dX10_addWay_69 : decode cX10_addWay 69 = .ok (.iload 9, 2) := by decide +kernel
theorem dX10_addWay_71 : decode cX10_addWay 71 = .ok (.iload 5, 2) := by decide +kernel
theorem dX10_addWay_73 : decode cX10_addWay 73 = .ok (.if_icmp .ge 23, 3) := by decide +kernel
theorem dX10_addWay_76 : decode cX10_addWay 76 = .ok (.lload 6, 2) := by decide +kernel
theorem dX10_addWay_78 : decode cX10_addWay 78 = .ok (.lconst 1, 1) := by decide +kernel
theorem dX10_addWay_79 : decode cX10_addWay 79 = .ok (.iload_n 2, 1) := by decide +kernel
theorem dX10_addWay_80 : decode cX10_addWay 80 = .ok (.iload 9, 2) := by decide +kernel
theorem dX10_addWay_82 : decode cX10_addWay 82 = .ok (.iload 8, 2) := by decide +kernel
theorem dX10_addWay_84 : decode cX10_addWay 84 = .ok (.imul, 1) := by decide +kernel
theorem dX10_addWay_85 : decode cX10_addWay 85 = .ok (.iadd, 1) := by decide +kernel
theorem dX10_addWay_86 : decode cX10_addWay 86 = .ok (.lshl, 1) := by decide +kernel
theorem dX10_addWay_87 : decode cX10_addWay 87 = .ok (.lor, 1) := by decide +kernel
theorem dX10_addWay_88 : decode cX10_addWay 88 = .ok (.lstore 6, 2) := by decide +kernel
theorem dX10_addWay_90 : decode cX10_addWay 90 = .ok (.iinc 9 1, 3) := by decide +kernel
theorem dX10_addWay_93 : decode cX10_addWay 93 = .ok (.goto (-24), 3) := by decide +kernel
theorem dX10_addWay_96 : decode cX10_addWay 96 = .ok (.aload_n 0, 1) := by decide +kernel
theorem dX10_addWay_97 : decode cX10_addWay 97 = .ok (.getfield 16, 3) := by decide +kernel
theorem dX10_addWay_100 : decode cX10_addWay 100 = .ok (.aload_n 0, 1) := by decide +kernel
theorem dX10_addWay_101 : decode cX10_addWay 101 = .ok (.getfield 39, 3) := by decide +kernel
theorem dX10_addWay_104 : decode cX10_addWay 104 = .ok (.iload_n 3, 1) := by decide +kernel
theorem dX10_addWay_105 : decode cX10_addWay 105 = .ok (.iload 4, 2) := by decide +kernel
theorem dX10_addWay_107 : decode cX10_addWay 107 = .ok (.bipush 6, 2) := by decide +kernel
theorem dX10_addWay_109 : decode cX10_addWay 109 = .ok (.ishl, 1) := by decide +kernel
theorem dX10_addWay_110 : decode cX10_addWay 110 = .ok (.ior, 1) := by decide +kernel
theorem dX10_addWay_111 : decode cX10_addWay 111 = .ok (.iload 5, 2) := by decide +kernel
theorem dX10_addWay_113 : decode cX10_addWay 113 = .ok (.bipush 12, 2) := by decide +kernel
theorem dX10_addWay_115 : decode cX10_addWay 115 = .ok (.ishl, 1) := by decide +kernel
theorem dX10_addWay_116 : decode cX10_addWay 116 = .ok (.ior, 1) := by decide +kernel
theorem dX10_addWay_117 : decode cX10_addWay 117 = .ok (.iastore, 1) := by decide +kernel
theorem dX10_addWay_118 : decode cX10_addWay 118 = .ok (.aload_n 0, 1) := by decide +kernel
theorem dX10_addWay_119 : decode cX10_addWay 119 = .ok (.getfield 19, 3) := by decide +kernel
theorem dX10_addWay_122 : decode cX10_addWay 122 = .ok (.aload_n 0, 1) := by decide +kernel
theorem dX10_addWay_123 : decode cX10_addWay 123 = .ok (.getfield 39, 3) := by decide +kernel
theorem dX10_addWay_126 : decode cX10_addWay 126 = .ok (.lload 6, 2) := by decide +kernel
theorem dX10_addWay_128 : decode cX10_addWay 128 = .ok (.lastore, 1) := by decide +kernel
theorem dX10_addWay_129 : decode cX10_addWay 129 = .ok (.aload_n 0, 1) := by decide +kernel
theorem dX10_addWay_130 : decode cX10_addWay 130 = .ok (.dup, 1) := by decide +kernel
theorem dX10_addWay_131 : decode cX10_addWay 131 = .ok (.getfield 39, 3) := by decide +kernel
theorem dX10_addWay_134 : decode cX10_addWay 134 = .ok (.iconst 1, 1) := by decide +kernel
theorem dX10_addWay_135 : decode cX10_addWay 135 = .ok (.iadd, 1) := by decide +kernel
theorem dX10_addWay_136 : decode cX10_addWay 136 = .ok (.putfield 39, 3) := by decide +kernel
theorem dX10_addWay_139 : decode cX10_addWay 139 = .ok (.aload_n 0, 1) := by decide +kernel
theorem dX10_addWay_140 : decode cX10_addWay 140 = .ok (.getfield 23, 3) := by decide +kernel
theorem dX10_addWay_143 : decode cX10_addWay 143 = .ok (.iload_n 1, 1) := by decide +kernel
theorem dX10_addWay_144 : decode cX10_addWay 144 = .ok (.bipush 64, 2) := by decide +kernel
theorem dX10_addWay_146 : decode cX10_addWay 146 = .ok (.imul, 1) := by decide +kernel
theorem dX10_addWay_147 : decode cX10_addWay 147 = .ok (.iload_n 3, 1) := by decide +kernel
theorem dX10_addWay_148 : decode cX10_addWay 148 = .ok (.iadd, 1) := by decide +kernel
theorem dX10_addWay_149 : decode cX10_addWay 149 = .ok (.dup2, 1) := by decide +kernel
theorem dX10_addWay_150 : decode cX10_addWay 150 = .ok (.laload, 1) := by decide +kernel
theorem dX10_addWay_151 : decode cX10_addWay 151 = .ok (.lconst 1, 1) := by decide +kernel
theorem dX10_addWay_152 : decode cX10_addWay 152 = .ok (.iload_n 2, 1) := by decide +kernel
theorem dX10_addWay_153 : decode cX10_addWay 153 = .ok (.lshl, 1) := by decide +kernel
theorem dX10_addWay_154 : decode cX10_addWay 154 = .ok (.lor, 1) := by decide +kernel
theorem dX10_addWay_155 : decode cX10_addWay 155 = .ok (.lastore, 1) := by decide +kernel
theorem dX10_addWay_156 : decode cX10_addWay 156 = .ok (.iload 4, 2) := by decide +kernel
theorem dX10_addWay_158 : decode cX10_addWay 158 = .ok (.iconst 1, 1) := by decide +kernel
theorem dX10_addWay_159 : decode cX10_addWay 159 = .ok (.iand, 1) := by decide +kernel
theorem dX10_addWay_160 : decode cX10_addWay 160 = .ok (.ifCond .ne 20, 3) := by decide +kernel
theorem dX10_addWay_163 : decode cX10_addWay 163 = .ok (.aload_n 0, 1) := by decide +kernel
theorem dX10_addWay_164 : decode cX10_addWay 164 = .ok (.getfield 26, 3) := by decide +kernel
theorem dX10_addWay_167 : decode cX10_addWay 167 = .ok (.iload_n 1, 1) := by decide +kernel
theorem dX10_addWay_168 : decode cX10_addWay 168 = .ok (.bipush 64, 2) := by decide +kernel
theorem dX10_addWay_170 : decode cX10_addWay 170 = .ok (.imul, 1) := by decide +kernel
theorem dX10_addWay_171 : decode cX10_addWay 171 = .ok (.iload_n 3, 1) := by decide +kernel
theorem dX10_addWay_172 : decode cX10_addWay 172 = .ok (.iadd, 1) := by decide +kernel
theorem dX10_addWay_173 : decode cX10_addWay 173 = .ok (.dup2, 1) := by decide +kernel
theorem dX10_addWay_174 : decode cX10_addWay 174 = .ok (.laload, 1) := by decide +kernel
theorem dX10_addWay_175 : decode cX10_addWay 175 = .ok (.lconst 1, 1) := by decide +kernel
theorem dX10_addWay_176 : decode cX10_addWay 176 = .ok (.iload_n 2, 1) := by decide +kernel
theorem dX10_addWay_177 : decode cX10_addWay 177 = .ok (.lshl, 1) := by decide +kernel
theorem dX10_addWay_178 : decode cX10_addWay 178 = .ok (.lor, 1) := by decide +kernel
theorem dX10_addWay_179 : decode cX10_addWay 179 = .ok (.lastore, 1) := by decide +kernel
theorem dX10_addWay_180 : decode cX10_addWay 180 = .ok (.return_, 1) := by decide +kernel
def sX10_addWay_180 (F : Nat) (h : Hp) : Option (Hp) := some h
def sX10_addWay_69 (F : Nat) : Nat → Hp → Nat → Int32 → Int32 → Int32 → Int32 → Int32 → Int64 → Int32 → Int32 → Option (Hp)
  | 0, _, _, _, _, _, _, _, _, _, _ => none
  | f + 1, h, x0, x1, x2, x3, x4, x5, x6, x8, x9 => br (x5 ≤ x9) (cl (hR h x0 1) fun r_2 => gd (inB (hI h x0 8) (hN h r_2)) <| nm (wI h r_2 (hI h x0 8).toNatClampNeg ((x3 ||| (x4 <<< ((6 : Int32) &&& 31))) ||| (x5 <<< ((12 : Int32) &&& 31)))) fun h_4 => cl (hR h_4 x0 2) fun r_5 => gd (inB (hI h_4 x0 8) (hN h_4 r_5)) <| nm (wJ h_4 r_5 (hI h_4 x0 8).toNatClampNeg x6) fun h_7 => nm (wI h_7 x0 8 ((hI h_7 x0 8) + (1 : Int32))) fun h_8 => cl (hR h_8 x0 3) fun r_9 => gd (inB ((x1 * (64 : Int32)) + x3) (hN h_8 r_9)) <| gd (inB ((x1 * (64 : Int32)) + x3) (hN h_8 r_9)) <| nm (wJ h_8 r_9 ((x1 * (64 : Int32)) + x3).toNatClampNeg ((hJ h_8 r_9 ((x1 * (64 : Int32)) + x3).toNatClampNeg) ||| ((1 : Int64) <<< (x2.toInt64 &&& 63)))) fun h_12 => br ((x4 &&& (1 : Int32)) = 0) (cl (hR h_12 x0 4) fun r_14 => gd (inB ((x1 * (64 : Int32)) + x3) (hN h_12 r_14)) <| gd (inB ((x1 * (64 : Int32)) + x3) (hN h_12 r_14)) <| nm (wJ h_12 r_14 ((x1 * (64 : Int32)) + x3).toNatClampNeg ((hJ h_12 r_14 ((x1 * (64 : Int32)) + x3).toNatClampNeg) ||| ((1 : Int64) <<< (x2.toInt64 &&& 63)))) fun h_17 => sX10_addWay_180 F h_17 ) (sX10_addWay_180 F h_12 )) (nm (x6 ||| ((1 : Int64) <<< ((x2 + (x9 * x8)).toInt64 &&& 63))) fun v_18 => nm (x9 + (1 : Int32)) fun v_19 => sX10_addWay_69 F f h x0 x1 x2 x3 x4 x5 v_18 x8 v_19)
def sX10_addWay_64 (F : Nat) (h : Hp) (x0 : Nat) (x1 : Int32) (x2 : Int32) (x3 : Int32) (x4 : Int32) (x5 : Int32) (x6 : Int64) (t0 : Int32) : Option (Hp) := sX10_addWay_69 F F h x0 x1 x2 x3 x4 x5 x6 t0 (1 : Int32)
def sX10_addWay_46 (F : Nat) (h : Hp) (x0 : Nat) (x1 : Int32) (x2 : Int32) (x3 : Int32) (x4 : Int32) (x5 : Int32) : Option (Hp) := br (x5 ≤ 0) (sX10_addWay_64 F h x0 x1 x2 x3 x4 x5 (0 : Int64) (0 : Int32)) (gd (¬ x5 = 0) <| sX10_addWay_64 F h x0 x1 x2 x3 x4 x5 (0 : Int64) ((x3 - x2) / x5))
def sX10_addWay_43 (F : Nat) (h : Hp) (x0 : Nat) (x1 : Int32) (x2 : Int32) (x3 : Int32) (x4 : Int32) (x5 : Int32) (t0 : Nat) (t1 : Nat) : Option (Hp) := nm (wR h t1 2 (some t0)) fun h_1 => sX10_addWay_46 F h_1 x0 x1 x2 x3 x4 x5
def sX10_addWay_26 (F : Nat) (h : Hp) (x0 : Nat) (x1 : Int32) (x2 : Int32) (x3 : Int32) (x4 : Int32) (x5 : Int32) (t0 : Nat) (t1 : Nat) : Option (Hp) := nm (wR h t1 1 (some t0)) fun h_1 => cl (hR h_1 x0 2) fun r_2 => cl (sJ7_copyOf_c38d5 h_1 r_2 ((2 : Int32) * (hI h_1 x0 8))) fun o_3 => sX10_addWay_43 F o_3.2 x0 x1 x2 x3 x4 x5 o_3.1 x0
def sX10_addWay (F : Nat) (h : Hp) (x0 : Nat) (x1 : Int32) (x2 : Int32) (x3 : Int32) (x4 : Int32) (x5 : Int32) : Option (Hp) := cl (hR h x0 1) fun r_1 => br ((hI h x0 8) < (nI (hN h r_1))) (sX10_addWay_46 F h x0 x1 x2 x3 x4 x5) (cl (hR h x0 1) fun r_3 => cl (sJ7_copyOf_59c91 h r_3 ((2 : Int32) * (hI h x0 8))) fun o_4 => sX10_addWay_26 F o_4.2 x0 x1 x2 x3 x4 x5 o_4.1 x0)
theorem moX10_addWay_180 {o : Hp} {F : Nat} {h : Hp} (hE : sX10_addWay_180 F h  = some o) : Le h o := by
  cases hE
  exact Le.rf _
theorem moX10_addWay_69 {o : Hp} {F : Nat} : ∀ (f : Nat) {h : Hp} {x0 : Nat} {x1 : Int32} {x2 : Int32} {x3 : Int32} {x4 : Int32} {x5 : Int32} {x6 : Int64} {x8 : Int32} {x9 : Int32}, sX10_addWay_69 F f h x0 x1 x2 x3 x4 x5 x6 x8 x9 = some o → Le h o := by
  intro f
  induction f with
  | zero =>
    intro h x0 x1 x2 x3 x4 x5 x6 x8 x9 hE
    rw [sX10_addWay_69] at hE
    cases hE
  | succ f ih =>
    intro h x0 x1 x2 x3 x4 x5 x6 x8 x9 hE
    rw [sX10_addWay_69] at hE
    have mk_69 : ∀ (h : Hp) (x0 : Nat) (x1 : Int32) (x2 : Int32) (x3 : Int32) (x4 : Int32) (x5 : Int32) (x6 : Int64) (x8 : Int32) (x9 : Int32), sX10_addWay_69 F f h x0 x1 x2 x3 x4 x5 x6 x8 x9 = some o → Le h o := fun h x0 x1 x2 x3 x4 x5 x6 x8 x9 hE => ih hE
    rcases br_e hE with ⟨_, hE⟩ | ⟨_, hE⟩
    · obtain ⟨r_2, er_2, hE⟩ := cl_e hE
      obtain ⟨g_3, hE⟩ := gd_e hE
      obtain ⟨h_4, eh_4, hE⟩ := nm_e2 hE
      refine (le_I eh_4).tr ?_
      obtain ⟨r_5, er_5, hE⟩ := cl_e hE
      obtain ⟨g_6, hE⟩ := gd_e hE
      obtain ⟨h_7, eh_7, hE⟩ := nm_e2 hE
      refine (le_J eh_7).tr ?_
      obtain ⟨h_8, eh_8, hE⟩ := nm_e2 hE
      refine (le_I eh_8).tr ?_
      obtain ⟨r_9, er_9, hE⟩ := cl_e hE
      obtain ⟨g_10, hE⟩ := gd_e hE
      obtain ⟨g_11, hE⟩ := gd_e hE
      obtain ⟨h_12, eh_12, hE⟩ := nm_e2 hE
      refine (le_J eh_12).tr ?_
      rcases br_e hE with ⟨_, hE⟩ | ⟨_, hE⟩
      · obtain ⟨r_14, er_14, hE⟩ := cl_e hE
        obtain ⟨g_15, hE⟩ := gd_e hE
        obtain ⟨g_16, hE⟩ := gd_e hE
        obtain ⟨h_17, eh_17, hE⟩ := nm_e2 hE
        refine (le_J eh_17).tr ?_
        exact moX10_addWay_180 hE
      · exact moX10_addWay_180 hE
    · obtain ⟨v_18, ev_18, hE⟩ := nm_e2 hE
      obtain ⟨v_19, ev_19, hE⟩ := nm_e2 hE
      exact mk_69 _ _ _ _ _ _ _ _ _ _ hE
theorem moX10_addWay_64 {o : Hp} {F : Nat} {h : Hp} {x0 : Nat} {x1 : Int32} {x2 : Int32} {x3 : Int32} {x4 : Int32} {x5 : Int32} {x6 : Int64} {t0 : Int32} (hE : sX10_addWay_64 F h x0 x1 x2 x3 x4 x5 x6 t0 = some o) : Le h o := by
  exact moX10_addWay_69 _ hE
theorem moX10_addWay_46 {o : Hp} {F : Nat} {h : Hp} {x0 : Nat} {x1 : Int32} {x2 : Int32} {x3 : Int32} {x4 : Int32} {x5 : Int32} (hE : sX10_addWay_46 F h x0 x1 x2 x3 x4 x5 = some o) : Le h o := by
  rcases br_e hE with ⟨_, hE⟩ | ⟨_, hE⟩
  · exact moX10_addWay_64 hE
  · obtain ⟨g_2, hE⟩ := gd_e hE
    exact moX10_addWay_64 hE
theorem moX10_addWay_43 {o : Hp} {F : Nat} {h : Hp} {x0 : Nat} {x1 : Int32} {x2 : Int32} {x3 : Int32} {x4 : Int32} {x5 : Int32} {t0 : Nat} {t1 : Nat} (hE : sX10_addWay_43 F h x0 x1 x2 x3 x4 x5 t0 t1 = some o) : Le h o := by
  obtain ⟨h_1, eh_1, hE⟩ := nm_e2 hE
  refine (le_R eh_1).tr ?_
  exact moX10_addWay_46 hE
theorem moX10_addWay_26 {o : Hp} {F : Nat} {h : Hp} {x0 : Nat} {x1 : Int32} {x2 : Int32} {x3 : Int32} {x4 : Int32} {x5 : Int32} {t0 : Nat} {t1 : Nat} (hE : sX10_addWay_26 F h x0 x1 x2 x3 x4 x5 t0 t1 = some o) : Le h o := by
  obtain ⟨h_1, eh_1, hE⟩ := nm_e2 hE
  refine (le_R eh_1).tr ?_
  obtain ⟨r_2, er_2, hE⟩ := cl_e hE
  obtain ⟨o_3, eo_3, hE⟩ := cl_e hE
  refine (moJ7_copyOf_c38d5 eo_3).tr ?_
  exact moX10_addWay_43 hE
theorem moX10_addWay {o : Hp} {F : Nat} {h : Hp} {x0 : Nat} {x1 : Int32} {x2 : Int32} {x3 : Int32} {x4 : Int32} {x5 : Int32} (hE : sX10_addWay F h x0 x1 x2 x3 x4 x5 = some o) : Le h o := by
  obtain ⟨r_1, er_1, hE⟩ := cl_e hE
  rcases br_e hE with ⟨_, hE⟩ | ⟨_, hE⟩
  · exact moX10_addWay_46 hE
  · obtain ⟨r_3, er_3, hE⟩ := cl_e hE
    obtain ⟨o_4, eo_4, hE⟩ := cl_e hE
    refine (moJ7_copyOf_59c91 eo_4).tr ?_
    exact moX10_addWay_26 hE
set_option maxRecDepth 20000 in
theorem bX10_addWay_180 {p : Program} {l : Launch} {e : Env} {s : State} {m : MethodId} {args : Array Value} {below : List Frame} {meth : Method} {c : Code} {X : Ec} {h0 : Hp} {o : Hp} {F : Nat} (C : Cx X p s m args meth c RX10 cX10_addWay 10 none "addWay") {h : Hp} {H : Heap} {locs : List Loc} (hkl : Kl h0 h) (hW : Wx X h H) (hZ : va_S (aA (eB X)) s.heap H locs) (ls : Array Slot) (hl : lv_has ls 10 []) (hE : sX10_addWay_180 F h  = some o) : W p l e (rmA 2 86 h0 o) s m args below meth c H locs (hS h - hS h0) (hL h - hL h0) (MQ below (QVA X h0 o) args s (hS o - hS h0) (hL o - hL h0) (aA (eB X))) (F0 m 180 ls []) := by
  exact x_vretA C rfl hW hZ hkl hE dX10_addWay_180
set_option maxRecDepth 20000 in
theorem bX10_addWay_69 {p : Program} {l : Launch} {e : Env} {s : State} {m : MethodId} {args : Array Value} {below : List Frame} {meth : Method} {c : Code} {X : Ec} {h0 : Hp} {o : Hp} {F : Nat} (C : Cx X p s m args meth c RX10 cX10_addWay 10 none "addWay") : ∀ (f : Nat) {h : Hp} {x0 : Nat} {x1 : Int32} {x2 : Int32} {x3 : Int32} {x4 : Int32} {x5 : Int32} {x6 : Int64} {x8 : Int32} {x9 : Int32} {H : Heap} {locs : List Loc} (k_x0 : hK h x0 = 10), Kl h0 h → Wx X h H → va_S (aA (eB X)) s.heap H locs → ∀ (ls : Array Slot), lv_has ls 10 [(0, .ref x0), (1, .int x1), (2, .int x2), (3, .int x3), (4, .int x4), (5, .int x5), (6, .long x6), (8, .int x8), (9, .int x9)] → sX10_addWay_69 F f h x0 x1 x2 x3 x4 x5 x6 x8 x9 = some o → W p l e (rmA 2 86 h0 o) s m args below meth c H locs (hS h - hS h0) (hL h - hL h0) (MQ below (QVA X h0 o) args s (hS o - hS h0) (hL o - hL h0) (aA (eB X))) (F0 m 69 ls []) := by
  intro f
  induction f with
  | zero =>
    intro h x0 x1 x2 x3 x4 x5 x6 x8 x9 H locs k_x0 hkl hW hZ ls hl hE
    rw [sX10_addWay_69] at hE
    cases hE
  | succ f ih =>
    intro h x0 x1 x2 x3 x4 x5 x6 x8 x9 H locs k_x0 hkl hW hZ ls hl hE
    rw [sX10_addWay_69] at hE
    have mk_69 : ∀ (h : Hp) (x0 : Nat) (x1 : Int32) (x2 : Int32) (x3 : Int32) (x4 : Int32) (x5 : Int32) (x6 : Int64) (x8 : Int32) (x9 : Int32), sX10_addWay_69 F f h x0 x1 x2 x3 x4 x5 x6 x8 x9 = some o → Le h o := fun h x0 x1 x2 x3 x4 x5 x6 x8 x9 hE => moX10_addWay_69 _ hE
    have hk_69 : ∀ (h : Hp) (x0 : Nat) (x1 : Int32) (x2 : Int32) (x3 : Int32) (x4 : Int32) (x5 : Int32) (x6 : Int64) (x8 : Int32) (x9 : Int32) (H : Heap) (locs : List Loc), hK h x0 = 10 → Kl h0 h → Wx X h H → va_S (aA (eB X)) s.heap H locs → ∀ (ls : Array Slot), lv_has ls 10 [(0, .ref x0), (1, .int x1), (2, .int x2), (3, .int x3), (4, .int x4), (5, .int x5), (6, .long x6), (8, .int x8), (9, .int x9)] → sX10_addWay_69 F f h x0 x1 x2 x3 x4 x5 x6 x8 x9 = some o → W p l e (rmA 2 86 h0 o) s m args below meth c H locs (hS h - hS h0) (hL h - hL h0) (MQ below (QVA X h0 o) args s (hS o - hS h0) (hL o - hL h0) (aA (eB X))) (F0 m 69 ls []) := fun h x0 x1 x2 x3 x4 x5 x6 x8 x9 H locs k_x0 a b c ls hl hE => ih k_x0 a b c ls hl hE
    refine lv_iload C.1 C.2.1 dX10_addWay_69 (lv_at hl 8 rfl) ?_
    refine lv_iload C.1 C.2.1 dX10_addWay_71 (lv_at hl 5 rfl) ?_
    refine lv_icmp_ge (tgt := 96) C.1 C.2.1 dX10_addWay_73 (by decide) (fun c_1 => ?_) (fun c_1 => ?_)
    · have hE := br_p hE c_1
      refine lv_aload_n C.1 C.2.1 dX10_addWay_96 rfl (lv_at hl 0 rfl) ?_
      obtain ⟨r_2, er_2, hE⟩ := cl_e hE
      refine gf_X10_16 C hW k_x0 er_2 dX10_addWay_97 (fun k_r_2 => ?_)
      refine lv_aload_n C.1 C.2.1 dX10_addWay_100 rfl (lv_at hl 0 rfl) ?_
      refine gf_X10_39 C hW k_x0 dX10_addWay_101 ?_
      refine lv_iload_n C.1 C.2.1 dX10_addWay_104 rfl (lv_at hl 3 rfl) ?_
      refine lv_iload C.1 C.2.1 dX10_addWay_105 (lv_at hl 4 rfl) ?_
      refine lv_bipush (v := (6 : Int32)) C.1 C.2.1 dX10_addWay_107 (by decide) ?_
      refine lv_ishl C.1 C.2.1 dX10_addWay_109 ?_
      refine lv_ior C.1 C.2.1 dX10_addWay_110 ?_
      refine lv_iload C.1 C.2.1 dX10_addWay_111 (lv_at hl 5 rfl) ?_
      refine lv_bipush (v := (12 : Int32)) C.1 C.2.1 dX10_addWay_113 (by decide) ?_
      refine lv_ishl C.1 C.2.1 dX10_addWay_115 ?_
      refine lv_ior C.1 C.2.1 dX10_addWay_116 ?_
      obtain ⟨g_3, hE⟩ := gd_e hE
      obtain ⟨h_4, eh_4, hE⟩ := nm_e2 hE
      refine y_iast C hW hZ k_r_2 g_3 eh_4 dX10_addWay_117 (fun _ _ hW km hZ => ?_)
      replace hkl := hkl.tr km.l
      refine x_wc km ?_
      replace k_x0 := km.at k_x0 (by decide)
      refine lv_aload_n C.1 C.2.1 dX10_addWay_118 rfl (lv_at hl 0 rfl) ?_
      obtain ⟨r_5, er_5, hE⟩ := cl_e hE
      refine gf_X10_19 C hW k_x0 er_5 dX10_addWay_119 (fun k_r_5 => ?_)
      refine lv_aload_n C.1 C.2.1 dX10_addWay_122 rfl (lv_at hl 0 rfl) ?_
      refine gf_X10_39 C hW k_x0 dX10_addWay_123 ?_
      refine lv_lload C.1 C.2.1 dX10_addWay_126 (lv_at hl 6 rfl) ?_
      obtain ⟨g_6, hE⟩ := gd_e hE
      obtain ⟨h_7, eh_7, hE⟩ := nm_e2 hE
      refine y_last C hW hZ k_r_5 g_6 eh_7 dX10_addWay_128 (fun _ _ hW km hZ => ?_)
      replace hkl := hkl.tr km.l
      refine x_wc km ?_
      replace k_x0 := km.at k_x0 (by decide)
      refine lv_aload_n C.1 C.2.1 dX10_addWay_129 rfl (lv_at hl 0 rfl) ?_
      refine lv_dup C.1 C.2.1 dX10_addWay_130 rfl ?_
      refine gf_X10_39 C hW k_x0 dX10_addWay_131 ?_
      refine lv_iconst (v := (1 : Int32)) C.1 C.2.1 dX10_addWay_134 (by decide) ?_
      refine lv_iadd C.1 C.2.1 dX10_addWay_135 ?_
      obtain ⟨h_8, eh_8, hE⟩ := nm_e2 hE
      refine pf_X10_39 C hW hZ k_x0 eh_8 dX10_addWay_136 (fun _ _ hW km hZ => ?_)
      replace hkl := hkl.tr km.l
      refine x_wc km ?_
      replace k_x0 := km.at k_x0 (by decide)
      refine lv_aload_n C.1 C.2.1 dX10_addWay_139 rfl (lv_at hl 0 rfl) ?_
      obtain ⟨r_9, er_9, hE⟩ := cl_e hE
      refine gf_X10_23 C hW k_x0 er_9 dX10_addWay_140 (fun k_r_9 => ?_)
      refine lv_iload_n C.1 C.2.1 dX10_addWay_143 rfl (lv_at hl 1 rfl) ?_
      refine lv_bipush (v := (64 : Int32)) C.1 C.2.1 dX10_addWay_144 (by decide) ?_
      refine lv_imul C.1 C.2.1 dX10_addWay_146 ?_
      refine lv_iload_n C.1 C.2.1 dX10_addWay_147 rfl (lv_at hl 3 rfl) ?_
      refine lv_iadd C.1 C.2.1 dX10_addWay_148 ?_
      refine lv_dup2_11 C.1 C.2.1 dX10_addWay_149 rfl rfl ?_
      obtain ⟨g_10, hE⟩ := gd_e hE
      refine y_lald C hW k_r_9 g_10 dX10_addWay_150 ?_
      refine lv_lconst (v := (1 : Int64)) C.1 C.2.1 dX10_addWay_151 (by decide) ?_
      refine lv_iload_n C.1 C.2.1 dX10_addWay_152 rfl (lv_at hl 2 rfl) ?_
      refine lv_lshl C.1 C.2.1 dX10_addWay_153 rfl ?_
      refine lv_lor C.1 C.2.1 dX10_addWay_154 ?_
      obtain ⟨g_11, hE⟩ := gd_e hE
      obtain ⟨h_12, eh_12, hE⟩ := nm_e2 hE
      refine y_last C hW hZ k_r_9 g_11 eh_12 dX10_addWay_155 (fun _ _ hW km hZ => ?_)
      replace hkl := hkl.tr km.l
      refine x_wc km ?_
      replace k_x0 := km.at k_x0 (by decide)
      refine lv_iload C.1 C.2.1 dX10_addWay_156 (lv_at hl 4 rfl) ?_
      refine lv_iconst (v := (1 : Int32)) C.1 C.2.1 dX10_addWay_158 (by decide) ?_
      refine lv_iand C.1 C.2.1 dX10_addWay_159 ?_
      refine lv_if_ne (tgt := 180) C.1 C.2.1 dX10_addWay_160 (by decide) (fun c_13 => ?_) (fun c_13 => ?_)
      · have hE := br_n hE c_13
        exact bX10_addWay_180 C hkl hW hZ _ (lv_sub hl [] rfl) hE
      · have hE := br_p hE c_13
        refine lv_aload_n C.1 C.2.1 dX10_addWay_163 rfl (lv_at hl 0 rfl) ?_
        obtain ⟨r_14, er_14, hE⟩ := cl_e hE
        refine gf_X10_26 C hW k_x0 er_14 dX10_addWay_164 (fun k_r_14 => ?_)
        refine lv_iload_n C.1 C.2.1 dX10_addWay_167 rfl (lv_at hl 1 rfl) ?_
        refine lv_bipush (v := (64 : Int32)) C.1 C.2.1 dX10_addWay_168 (by decide) ?_
        refine lv_imul C.1 C.2.1 dX10_addWay_170 ?_
        refine lv_iload_n C.1 C.2.1 dX10_addWay_171 rfl (lv_at hl 3 rfl) ?_
        refine lv_iadd C.1 C.2.1 dX10_addWay_172 ?_
        refine lv_dup2_11 C.1 C.2.1 dX10_addWay_173 rfl rfl ?_
        obtain ⟨g_15, hE⟩ := gd_e hE
        refine y_lald C hW k_r_14 g_15 dX10_addWay_174 ?_
        refine lv_lconst (v := (1 : Int64)) C.1 C.2.1 dX10_addWay_175 (by decide) ?_
        refine lv_iload_n C.1 C.2.1 dX10_addWay_176 rfl (lv_at hl 2 rfl) ?_
        refine lv_lshl C.1 C.2.1 dX10_addWay_177 rfl ?_
        refine lv_lor C.1 C.2.1 dX10_addWay_178 ?_
        obtain ⟨g_16, hE⟩ := gd_e hE
        obtain ⟨h_17, eh_17, hE⟩ := nm_e2 hE
        refine y_last C hW hZ k_r_14 g_16 eh_17 dX10_addWay_179 (fun _ _ hW km hZ => ?_)
        replace hkl := hkl.tr km.l
        refine x_wc km ?_
        replace k_x0 := km.at k_x0 (by decide)
        exact bX10_addWay_180 C hkl hW hZ _ (lv_sub hl [] rfl) hE
    · have hE := br_n hE c_1
      refine lv_lload C.1 C.2.1 dX10_addWay_76 (lv_at hl 6 rfl) ?_
      refine lv_lconst (v := (1 : Int64)) C.1 C.2.1 dX10_addWay_78 (by decide) ?_
      refine lv_iload_n C.1 C.2.1 dX10_addWay_79 rfl (lv_at hl 2 rfl) ?_
      refine lv_iload C.1 C.2.1 dX10_addWay_80 (lv_at hl 8 rfl) ?_
      refine lv_iload C.1 C.2.1 dX10_addWay_82 (lv_at hl 7 rfl) ?_
      refine lv_imul C.1 C.2.1 dX10_addWay_84 ?_
      refine lv_iadd C.1 C.2.1 dX10_addWay_85 ?_
      refine lv_lshl C.1 C.2.1 dX10_addWay_86 rfl ?_
      refine lv_lor C.1 C.2.1 dX10_addWay_87 ?_
      obtain ⟨v_18, ev_18, hE⟩ := nm_e2 hE
      refine x_nmJ ev_18 ?_
      refine lv_lstore (lv' := [(6, .long v_18), (0, .ref x0), (1, .int x1), (2, .int x2), (3, .int x3), (4, .int x4), (5, .int x5), (8, .int x8), (9, .int x9)]) C.1 C.2.1 dX10_addWay_88 hl (by decide) rfl (fun ls hl => ?_)
      obtain ⟨v_19, ev_19, hE⟩ := nm_e2 hE
      refine lv_iinc (v := v_19) (lv' := [(9, .int v_19), (6, .long v_18), (0, .ref x0), (1, .int x1), (2, .int x2), (3, .int x3), (4, .int x4), (5, .int x5), (8, .int x8)]) C.1 C.2.1 dX10_addWay_90 hl (k := 8) rfl (by rw [ev_19]; rfl) (by decide) rfl (fun ls hl => ?_)
      refine lv_goto (tgt := 69) C.1 C.2.1 dX10_addWay_93 (by decide) ?_
      exact hk_69 _ _ _ _ _ _ _ _ _ _ _ _ k_x0 hkl hW hZ _ (lv_sub hl [2, 3, 4, 5, 6, 7, 1, 8, 0] rfl) hE
set_option maxRecDepth 20000 in
theorem bX10_addWay_64 {p : Program} {l : Launch} {e : Env} {s : State} {m : MethodId} {args : Array Value} {below : List Frame} {meth : Method} {c : Code} {X : Ec} {h0 : Hp} {o : Hp} {F : Nat} (C : Cx X p s m args meth c RX10 cX10_addWay 10 none "addWay") {h : Hp} {x0 : Nat} {x1 : Int32} {x2 : Int32} {x3 : Int32} {x4 : Int32} {x5 : Int32} {x6 : Int64} {t0 : Int32} {H : Heap} {locs : List Loc} (k_x0 : hK h x0 = 10) (hkl : Kl h0 h) (hW : Wx X h H) (hZ : va_S (aA (eB X)) s.heap H locs) (ls : Array Slot) (hl : lv_has ls 10 [(0, .ref x0), (1, .int x1), (2, .int x2), (3, .int x3), (4, .int x4), (5, .int x5), (6, .long x6)]) (hE : sX10_addWay_64 F h x0 x1 x2 x3 x4 x5 x6 t0 = some o) : W p l e (rmA 2 86 h0 o) s m args below meth c H locs (hS h - hS h0) (hL h - hL h0) (MQ below (QVA X h0 o) args s (hS o - hS h0) (hL o - hL h0) (aA (eB X))) (F0 m 64 ls [.int t0]) := by
  refine lv_istore (lv' := [(8, .int t0), (0, .ref x0), (1, .int x1), (2, .int x2), (3, .int x3), (4, .int x4), (5, .int x5), (6, .long x6)]) C.1 C.2.1 dX10_addWay_64 hl (by decide) rfl (fun ls hl => ?_)
  refine lv_iconst (v := (1 : Int32)) C.1 C.2.1 dX10_addWay_66 (by decide) ?_
  refine lv_istore (lv' := [(9, .int (1 : Int32)), (8, .int t0), (0, .ref x0), (1, .int x1), (2, .int x2), (3, .int x3), (4, .int x4), (5, .int x5), (6, .long x6)]) C.1 C.2.1 dX10_addWay_67 hl (by decide) rfl (fun ls hl => ?_)
  exact bX10_addWay_69 C F k_x0 hkl hW hZ _ (lv_sub hl [2, 3, 4, 5, 6, 7, 8, 1, 0] rfl) hE
set_option maxRecDepth 20000 in
theorem bX10_addWay_46 {p : Program} {l : Launch} {e : Env} {s : State} {m : MethodId} {args : Array Value} {below : List Frame} {meth : Method} {c : Code} {X : Ec} {h0 : Hp} {o : Hp} {F : Nat} (C : Cx X p s m args meth c RX10 cX10_addWay 10 none "addWay") {h : Hp} {x0 : Nat} {x1 : Int32} {x2 : Int32} {x3 : Int32} {x4 : Int32} {x5 : Int32} {H : Heap} {locs : List Loc} (k_x0 : hK h x0 = 10) (hkl : Kl h0 h) (hW : Wx X h H) (hZ : va_S (aA (eB X)) s.heap H locs) (ls : Array Slot) (hl : lv_has ls 10 [(0, .ref x0), (1, .int x1), (2, .int x2), (3, .int x3), (4, .int x4), (5, .int x5)]) (hE : sX10_addWay_46 F h x0 x1 x2 x3 x4 x5 = some o) : W p l e (rmA 2 86 h0 o) s m args below meth c H locs (hS h - hS h0) (hL h - hL h0) (MQ below (QVA X h0 o) args s (hS o - hS h0) (hL o - hL h0) (aA (eB X))) (F0 m 46 ls []) := by
  refine lv_lconst (v := (0 : Int64)) C.1 C.2.1 dX10_addWay_46 (by decide) ?_
  refine lv_lstore (lv' := [(6, .long (0 : Int64)), (0, .ref x0), (1, .int x1), (2, .int x2), (3, .int x3), (4, .int x4), (5, .int x5)]) C.1 C.2.1 dX10_addWay_47 hl (by decide) rfl (fun ls hl => ?_)
  refine lv_iload C.1 C.2.1 dX10_addWay_49 (lv_at hl 6 rfl) ?_
  refine lv_if_le (tgt := 63) C.1 C.2.1 dX10_addWay_51 (by decide) (fun c_1 => ?_) (fun c_1 => ?_)
  · have hE := br_p hE c_1
    refine lv_iconst (v := (0 : Int32)) C.1 C.2.1 dX10_addWay_63 (by decide) ?_
    exact bX10_addWay_64 C k_x0 hkl hW hZ _ (lv_sub hl [1, 2, 3, 4, 5, 6, 0] rfl) hE
  · have hE := br_n hE c_1
    refine lv_iload_n C.1 C.2.1 dX10_addWay_54 rfl (lv_at hl 4 rfl) ?_
    refine lv_iload_n C.1 C.2.1 dX10_addWay_55 rfl (lv_at hl 3 rfl) ?_
    refine lv_isub C.1 C.2.1 dX10_addWay_56 ?_
    refine lv_iload C.1 C.2.1 dX10_addWay_57 (lv_at hl 6 rfl) ?_
    obtain ⟨g_2, hE⟩ := gd_e hE
    refine lv_idiv C.1 C.2.1 dX10_addWay_59 g_2 ?_
    refine lv_goto (tgt := 64) C.1 C.2.1 dX10_addWay_60 (by decide) ?_
    exact bX10_addWay_64 C k_x0 hkl hW hZ _ (lv_sub hl [1, 2, 3, 4, 5, 6, 0] rfl) hE
set_option maxRecDepth 20000 in
theorem bX10_addWay_43 {p : Program} {l : Launch} {e : Env} {s : State} {m : MethodId} {args : Array Value} {below : List Frame} {meth : Method} {c : Code} {X : Ec} {h0 : Hp} {o : Hp} {F : Nat} (C : Cx X p s m args meth c RX10 cX10_addWay 10 none "addWay") {h : Hp} {x0 : Nat} {x1 : Int32} {x2 : Int32} {x3 : Int32} {x4 : Int32} {x5 : Int32} {t0 : Nat} {t1 : Nat} {H : Heap} {locs : List Loc} (k_x0 : hK h x0 = 10) (k_t0 : hK h t0 = 18) (k_t1 : hK h t1 = 10) (hkl : Kl h0 h) (hW : Wx X h H) (hZ : va_S (aA (eB X)) s.heap H locs) (ls : Array Slot) (hl : lv_has ls 10 [(0, .ref x0), (1, .int x1), (2, .int x2), (3, .int x3), (4, .int x4), (5, .int x5)]) (hE : sX10_addWay_43 F h x0 x1 x2 x3 x4 x5 t0 t1 = some o) : W p l e (rmA 2 86 h0 o) s m args below meth c H locs (hS h - hS h0) (hL h - hL h0) (MQ below (QVA X h0 o) args s (hS o - hS h0) (hL o - hL h0) (aA (eB X))) (F0 m 43 ls [.ref t0, .ref t1]) := by
  obtain ⟨h_1, eh_1, hE⟩ := nm_e2 hE
  refine pf_X10_19 C hW hZ k_t1 k_t0 eh_1 dX10_addWay_43 (fun _ _ hW km hZ => ?_)
  replace hkl := hkl.tr km.l
  refine x_wc km ?_
  replace k_x0 := km.at k_x0 (by decide)
  exact bX10_addWay_46 C k_x0 hkl hW hZ _ (lv_sub hl [0, 1, 2, 3, 4, 5] rfl) hE
set_option maxRecDepth 20000 in
theorem bX10_addWay_26 {p : Program} {l : Launch} {e : Env} {s : State} {m : MethodId} {args : Array Value} {below : List Frame} {meth : Method} {c : Code} {X : Ec} {h0 : Hp} {o : Hp} {F : Nat} (C : Cx X p s m args meth c RX10 cX10_addWay 10 none "addWay") {h : Hp} {x0 : Nat} {x1 : Int32} {x2 : Int32} {x3 : Int32} {x4 : Int32} {x5 : Int32} {t0 : Nat} {t1 : Nat} {H : Heap} {locs : List Loc} (k_x0 : hK h x0 = 10) (k_t0 : hK h t0 = 17) (k_t1 : hK h t1 = 10) (hkl : Kl h0 h) (hW : Wx X h H) (hZ : va_S (aA (eB X)) s.heap H locs) (ls : Array Slot) (hl : lv_has ls 10 [(0, .ref x0), (1, .int x1), (2, .int x2), (3, .int x3), (4, .int x4), (5, .int x5)]) (hE : sX10_addWay_26 F h x0 x1 x2 x3 x4 x5 t0 t1 = some o) : W p l e (rmA 2 86 h0 o) s m args below meth c H locs (hS h - hS h0) (hL h - hL h0) (MQ below (QVA X h0 o) args s (hS o - hS h0) (hL o - hL h0) (aA (eB X))) (F0 m 26 ls [.ref t0, .ref t1]) := by
  obtain ⟨h_1, eh_1, hE⟩ := nm_e2 hE
  refine pf_X10_16 C hW hZ k_t1 k_t0 eh_1 dX10_addWay_26 (fun _ _ hW km hZ => ?_)
  replace hkl := hkl.tr km.l
  refine x_wc km ?_
  replace k_x0 := km.at k_x0 (by decide)
  refine lv_aload_n C.1 C.2.1 dX10_addWay_29 rfl (lv_at hl 0 rfl) ?_
  refine lv_aload_n C.1 C.2.1 dX10_addWay_30 rfl (lv_at hl 0 rfl) ?_
  obtain ⟨r_2, er_2, hE⟩ := cl_e hE
  refine gf_X10_19 C hW k_x0 er_2 dX10_addWay_31 (fun k_r_2 => ?_)
  refine lv_iconst (v := (2 : Int32)) C.1 C.2.1 dX10_addWay_34 (by decide) ?_
  refine lv_aload_n C.1 C.2.1 dX10_addWay_35 rfl (lv_at hl 0 rfl) ?_
  refine gf_X10_39 C hW k_x0 dX10_addWay_36 ?_
  refine lv_imul C.1 C.2.1 dX10_addWay_39 ?_
  obtain ⟨o_3, eo_3, hE⟩ := cl_e hE
  have m1 := moJ7_copyOf_c38d5 eo_3
  have m2 := moX10_addWay_43 hE
  refine x_kRA (o := o_3) hkl (z_runS (As := [.ref r_2, .int ((2 : Int32) * (hI h_1 x0 8))]) (rest := [.ref x0]) C (ct_J7_copyOf_c38d5 l X k_r_2 eo_3) cw_X10_117 hW hZ rfl hl.1 (Nat.le_of_ble_eq_true rfl) rfl dX10_addWay_40 ⟨Nat.le_of_ble_eq_true rfl, Nat.le_of_ble_eq_true rfl⟩ (rm_ok hkl m1 m2)) hZ (fun _ _ hW km k_o_3_1 hZ => ?_)
  replace hkl := hkl.tr km
  replace k_x0 := km.at k_x0 (by decide)
  exact bX10_addWay_43 C k_x0 k_o_3_1 k_x0 hkl hW hZ _ (lv_sub hl [0, 1, 2, 3, 4, 5] rfl) hE
set_option maxRecDepth 20000 in
theorem ct_X10_addWay (l : Launch) (X : Ec) (F : Nat) {h : Hp} {x0 : Nat} {x1 : Int32} {x2 : Int32} {x3 : Int32} {x4 : Int32} {x5 : Int32} {o : Hp} (k_x0 : hK h x0 = 10) (hE : sX10_addWay F h x0 x1 x2 x3 x4 x5 = some o) : MetVA l yX10_addWay cX10_addWay 10 none 2 86 X [.ref x0, .int x1, .int x2, .int x3, .int x4, .int x5] h o := by
  refine x_metA (oh := o) (by decide) (Nat.le_of_ble_eq_true rfl) ?_
  intro p e s m below meth c ls C hl hW hZ
  have hl : lv_has ls 10 [(0, .ref x0), (1, .int x1), (2, .int x2), (3, .int x3), (4, .int x4), (5, .int x5)] := hl
  have hkl : Kl h h := Kl.rf h
  refine lv_aload_n C.1 C.2.1 dX10_addWay_0 rfl (lv_at hl 0 rfl) ?_
  refine gf_X10_39 C hW k_x0 dX10_addWay_1 ?_
  refine lv_aload_n C.1 C.2.1 dX10_addWay_4 rfl (lv_at hl 0 rfl) ?_
  obtain ⟨r_1, er_1, hE⟩ := cl_e hE
  refine gf_X10_16 C hW k_x0 er_1 dX10_addWay_5 (fun k_r_1 => ?_)
  refine y_alen C hW k_r_1 (by decide) dX10_addWay_8 ?_
  refine lv_icmp_lt (tgt := 46) C.1 C.2.1 dX10_addWay_9 (by decide) (fun c_2 => ?_) (fun c_2 => ?_)
  · have hE := br_p hE c_2
    exact bX10_addWay_46 C k_x0 hkl hW hZ _ (lv_sub hl [0, 1, 2, 3, 4, 5] rfl) hE
  · have hE := br_n hE c_2
    refine lv_aload_n C.1 C.2.1 dX10_addWay_12 rfl (lv_at hl 0 rfl) ?_
    refine lv_aload_n C.1 C.2.1 dX10_addWay_13 rfl (lv_at hl 0 rfl) ?_
    obtain ⟨r_3, er_3, hE⟩ := cl_e hE
    refine gf_X10_16 C hW k_x0 er_3 dX10_addWay_14 (fun k_r_3 => ?_)
    refine lv_iconst (v := (2 : Int32)) C.1 C.2.1 dX10_addWay_17 (by decide) ?_
    refine lv_aload_n C.1 C.2.1 dX10_addWay_18 rfl (lv_at hl 0 rfl) ?_
    refine gf_X10_39 C hW k_x0 dX10_addWay_19 ?_
    refine lv_imul C.1 C.2.1 dX10_addWay_22 ?_
    obtain ⟨o_4, eo_4, hE⟩ := cl_e hE
    have m1 := moJ7_copyOf_59c91 eo_4
    have m2 := moX10_addWay_26 hE
    refine x_kRA (o := o_4) hkl (z_runS (As := [.ref r_3, .int ((2 : Int32) * (hI h x0 8))]) (rest := [.ref x0]) C (ct_J7_copyOf_59c91 l X k_r_3 eo_4) cw_X10_113 hW hZ rfl hl.1 (Nat.le_of_ble_eq_true rfl) rfl dX10_addWay_23 ⟨Nat.le_of_ble_eq_true rfl, Nat.le_of_ble_eq_true rfl⟩ (rm_ok hkl m1 m2)) hZ (fun _ _ hW km k_o_4_1 hZ => ?_)
    replace hkl := hkl.tr km
    replace k_x0 := km.at k_x0 (by decide)
    exact bX10_addWay_26 C k_x0 k_o_4_1 k_x0 hkl hW hZ _ (lv_sub hl [0, 1, 2, 3, 4, 5] rfl) hE
theorem ms_26 : Cond.selects RX10 yX10_addWay yX10_addWay ∈ W0 := w0_in (List.mem_append_left _ (List.mem_of_getElem? (i := 26) (by decide +kernel))) rfl
theorem ms_23 : Cond.selects RX10 yX10_reach yX10_reach ∈ W0 := w0_in (List.mem_append_left _ (List.mem_of_getElem? (i := 23) (by decide +kernel))) rfl
theorem m_73 : Cond.fieldLink RX10 76 (TX1 2).1 (TX1 2).2.1 (TX1 2).2.2.1 ∈ W0 := w0_in (List.mem_append_right _ (List.mem_of_getElem? (i := 73) (by decide +kernel))) rfl
theorem m_801 : Cond.methodLink RX10 79 yX10_reach ∈ W0 := w0_in (List.mem_append_right _ (List.mem_of_getElem? (i := 801) (by decide +kernel))) rfl
theorem m_803 : Cond.instanceMethod yX10_reach ∈ W0 := w0_in (List.mem_append_right _ (List.mem_of_getElem? (i := 803) (by decide +kernel))) rfl
theorem m_804 : Cond.code yX10_reach cX10_reach 12 (some .long) ∈ W0 := w0_in (List.mem_append_right _ (List.mem_of_getElem? (i := 804) (by decide +kernel))) rfl
theorem m_813 : Cond.methodLink RX10 63 yX10_cell ∈ W0 := w0_in (List.mem_append_right _ (List.mem_of_getElem? (i := 813) (by decide +kernel))) rfl
theorem m_814 : Cond.static yX10_cell ∈ W0 := w0_in (List.mem_append_right _ (List.mem_of_getElem? (i := 814) (by decide +kernel))) rfl
theorem m_815 : Cond.code yX10_cell cX10_cell 3 (some .int) ∈ W0 := w0_in (List.mem_append_right _ (List.mem_of_getElem? (i := 815) (by decide +kernel))) rfl
theorem m_816 : Cond.methodLink RX10 89 yX10_addWay ∈ W0 := w0_in (List.mem_append_right _ (List.mem_of_getElem? (i := 816) (by decide +kernel))) rfl
theorem m_818 : Cond.instanceMethod yX10_addWay ∈ W0 := w0_in (List.mem_append_right _ (List.mem_of_getElem? (i := 818) (by decide +kernel))) rfl
theorem m_819 : Cond.code yX10_addWay cX10_addWay 10 none ∈ W0 := w0_in (List.mem_append_right _ (List.mem_of_getElem? (i := 819) (by decide +kernel))) rfl
section
variable {p : Program} {l : Launch} {e : Env} {R : Room} {s : State} {m : MethodId} {args : Array Value} {below : List Frame} {meth : Method} {c : Code} {H : Heap} {locs : List Loc} {cells slots : Nat} {Q : State → Prop}
variable {cc : ByteArray} {pc : Nat} {ls : Array Slot} {rest : List Value} {X : Ec} {h h1 : Hp} {nL : Nat} {rt : Option FieldType} {mn : String}
theorem gf_X10_10 {a r : Nat} (C : Cx X p s m args meth c RX10 cc nL rt mn) (hW : Wx X h H) (ha : hK h a = 10) (hr : hR h a 0 = some r) (hdg : decode cc pc = .ok (.getfield 10, 3)) (kk : hK h r = 17 → W p l e R s m args below meth c H locs cells slots Q (F0 m (pc + 3) ls (.ref r :: rest))) : W p l e R s m args below meth c H locs cells slots Q (F0 m pc ls (.ref a :: rest)) :=
  y_getr C hW ha i_X10 (by decide) rfl (by decide) m_224 rfl rfl hr hdg kk
theorem gf_X10_76 {a : Nat} (C : Cx X p s m args meth c RX10 cc nL rt mn) (hW : Wx X h H) (ha : hK h a = 1) (hdg : decode cc pc = .ok (.getfield 76, 3)) (kk : W p l e R s m args below meth c H locs cells slots Q (F0 m (pc + 3) ls (.int (hI h a 2) :: rest))) : W p l e R s m args below meth c H locs cells slots Q (F0 m pc ls (.ref a :: rest)) :=
  y_geti C hW ha i_X1 (by decide) rfl (by decide) m_73 rfl hdg kk
end
theorem cw_X10_89 : cwd RX10 89 yX10_addWay cX10_addWay 10 none false 5 := ⟨m_819, m_816, m_6, ⟨m_818, ms_26⟩, by decide, by decide, by decide +kernel⟩
theorem cw_X10_63 : cwd RX10 63 yX10_cell cX10_cell 3 (some .int) true 3 := ⟨m_815, m_813, m_6, m_814, by decide, by decide, by decide +kernel⟩
theorem cw_X10_79 : cwd RX10 79 yX10_reach cX10_reach 12 (some .long) false 2 := ⟨m_804, m_801, m_6, ⟨m_803, ms_23⟩, by decide, by decide, by decide +kernel⟩
theorem dX10_layFrom_0 : decode cX10_layFrom 0 = .ok (.iload_n 2, 1) := by decide +kernel
theorem dX10_layFrom_1 : decode cX10_layFrom 1 = .ok (.aload_n 0, 1) := by decide +kernel
theorem dX10_layFrom_2 : decode cX10_layFrom 2 = .ok (.getfield 35, 3) := by decide +kernel
theorem dX10_layFrom_5 : decode cX10_layFrom 5 = .ok (.getfield 76, 3) := by decide +kernel
theorem dX10_layFrom_8 : decode cX10_layFrom 8 = .ok (.if_icmp .ge 12, 3) := by decide +kernel
theorem dX10_layFrom_11 : decode cX10_layFrom 11 = .ok (.aload_n 0, 1) := by decide +kernel
theorem dX10_layFrom_12 : decode cX10_layFrom 12 = .ok (.iload_n 1, 1) := by decide +kernel
theorem dX10_layFrom_13 : decode cX10_layFrom 13 = .ok (.iload_n 2, 1) := by decide +kernel
theorem dX10_layFrom_14 : decode cX10_layFrom 14 = .ok (.invokevirtual 79, 3) := by decide +kernel
theorem dX10_layFrom_17 : decode cX10_layFrom 17 = .ok (.goto 4, 3) := by decide +kernel
theorem dX10_layFrom_20 : decode cX10_layFrom 20 = .ok (.lconst 0, 1) := by decide +kernel
theorem dX10_layFrom_21 : decode cX10_layFrom 21 = .ok (.lstore_n 3, 1) := by decide +kernel
theorem dX10_layFrom_22 : decode cX10_layFrom 22 = .ok (.iload_n 1, 1) := by decide +kernel
theorem dX10_layFrom_23 : decode cX10_layFrom 23 = .ok (.iconst 1, 1) := by decide +kernel
theorem dX10_layFrom_24 : decode cX10_layFrom 24 = .ok (.ishr, 1) := by decide +kernel
theorem dX10_layFrom_25 : decode cX10_layFrom 25 = .ok (.istore 5, 2) := by decide +kernel
theorem dX10_layFrom_27 : decode cX10_layFrom 27 = .ok (.iconst 0, 1) := by decide +kernel
theorem dX10_layFrom_28 : decode cX10_layFrom 28 = .ok (.istore 6, 2) := by decide +kernel
theorem dX10_layFrom_30 : decode cX10_layFrom 30 = .ok (.iload 6, 2) := by decide +kernel
theorem dX10_layFrom_32 : decode cX10_layFrom 32 = .ok (.bipush 64, 2) := by decide +kernel
theorem dX10_layFrom_34 : decode cX10_layFrom 34 = .ok (.if_icmp .ge 126, 3) := by decide +kernel
theorem dX10_layFrom_37 : decode cX10_layFrom 37 = .ok (.aload_n 0, 1) := by decide +kernel
theorem dX10_layFrom_38 : decode cX10_layFrom 38 = .ok (.getfield 10, 3) := by decide +kernel
theorem dX10_layFrom_41 : decode cX10_layFrom 41 = .ok (.iload_n 1, 1) := by decide +kernel
theorem dX10_layFrom_42 : decode cX10_layFrom 42 = .ok (.iload_n 2, 1) := by decide +kernel
theorem dX10_layFrom_43 : decode cX10_layFrom 43 = .ok (.iload 6, 2) := by decide +kernel
theorem dX10_layFrom_45 : decode cX10_layFrom 45 = .ok (.invokestatic 63, 3) := by decide +kernel
theorem dX10_layFrom_48 : decode cX10_layFrom 48 = .ok (.aload_n 0, 1) := by decide +kernel
theorem dX10_layFrom_49 : decode cX10_layFrom 49 = .ok (.getfield 39, 3) := by decide +kernel
theorem dX10_layFrom_52 : decode cX10_layFrom 52 = .ok (.iastore, 1) := by decide +kernel
theorem dX10_layFrom_53 : decode cX10_layFrom 53 = .ok (.lload_n 3, 1) := by decide +kernel
theorem dX10_layFrom_54 : decode cX10_layFrom 54 = .ok (.iload 6, 2) := by decide +kernel
theorem dX10_layFrom_56 : decode cX10_layFrom 56 = .ok (.lushr, 1) := by decide +kernel
theorem dX10_layFrom_57 : decode cX10_layFrom 57 = .ok (.lconst 1, 1) := by decide +kernel
theorem dX10_layFrom_58 : decode cX10_layFrom 58 = .ok (.land, 1) := by decide +kernel
theorem dX10_layFrom_59 : decode cX10_layFrom 59 = .ok (.lconst 0, 1) := by decide +kernel
theorem dX10_layFrom_60 : decode cX10_layFrom 60 = .ok (.lcmp, 1) := by decide +kernel
theorem dX10_layFrom_61 : decode cX10_layFrom 61 = .ok (.ifCond .ne 6, 3) := by decide +kernel
theorem dX10_layFrom_64 : decode cX10_layFrom 64 = .ok (.goto 90, 3) := by decide +kernel
theorem dX10_layFrom_67 : decode cX10_layFrom 67 = .ok (.iconst 0, 1) := by decide +kernel
theorem dX10_layFrom_68 : decode cX10_layFrom 68 = .ok (.istore 7, 2) := by decide +kernel
theorem dX10_layFrom_70 : decode cX10_layFrom 70 = .ok (.iload 7, 2) := by decide +kernel
theorem dX10_layFrom_72 : decode cX10_layFrom 72 = .ok (.aload_n 0, 1) := by decide +kernel
theorem dX10_layFrom_73 : decode cX10_layFrom 73 = .ok (.getfield 35, 3) := by decide +kernel
theorem dX10_layFrom_76 : decode cX10_layFrom 76 = .ok (.getfield 83, 3) := by decide +kernel
theorem dX10_layFrom_79 : decode cX10_layFrom 79 = .ok (.iload 5, 2) := by decide +kernel
theorem dX10_layFrom_81 : decode cX10_layFrom 81 = .ok (.iaload, 1) := by decide +kernel
theorem dX10_layFrom_82 : decode cX10_layFrom 82 = .ok (.if_icmp .ge 72, 3) := by decide +kernel
theorem dX10_layFrom_85 : decode cX10_layFrom 85 = .ok (.aload_n 0, 1) := by decide +kernel
theorem dX10_layFrom_86 : decode cX10_layFrom 86 = .ok (.getfield 32, 3) := by decide +kernel
theorem dX10_layFrom_89 : decode cX10_layFrom 89 = .ok (.iload 6, 2) := by decide +kernel
theorem dX10_layFrom_91 : decode cX10_layFrom 91 = .ok (.bipush 8, 2) := by decide +kernel
theorem dX10_layFrom_93 : decode cX10_layFrom 93 = .ok (.imul, 1) := by decide +kernel
theorem dX10_layFrom_94 : decode cX10_layFrom 94 = .ok (.iload 7, 2) := by decide +kernel
theorem dX10_layFrom_96 : decode cX10_layFrom 96 = .ok (.iadd, 1) := by decide +kernel
theorem dX10_layFrom_97 : decode cX10_layFrom 97 = .ok (.iaload, 1) := by decide +kernel
theorem dX10_layFrom_98 : decode cX10_layFrom 98 = .ok (.istore 8, 2) := by decide +kernel
theorem dX10_layFrom_100 : decode cX10_layFrom 100 = .ok (.iload 8, 2) := by decide +kernel
theorem dX10_layFrom_102 : decode cX10_layFrom 102 = .ok (.ifCond .le 46, 3) := by decide +kernel
theorem dX10_layFrom_105 : decode cX10_layFrom 105 = .ok (.aload_n 0, 1) := by decide +kernel
theorem dX10_layFrom_106 : decode cX10_layFrom 106 = .ok (.iload_n 1, 1) := by decide +kernel
theorem dX10_layFrom_107 : decode cX10_layFrom 107 = .ok (.iload_n 2, 1) := by decide +kernel
theorem dX10_layFrom_108 : decode cX10_layFrom 108 = .ok (.iload 6, 2) := by decide +kernel
theorem dX10_layFrom_110 : decode cX10_layFrom 110 = .ok (.aload_n 0, 1) := by decide +kernel
theorem dX10_layFrom_111 : decode cX10_layFrom 111 = .ok (.getfield 35, 3) := by decide +kernel
theorem dX10_layFrom_114 : decode cX10_layFrom 114 = .ok (.getfield 86, 3) := by decide +kernel
theorem dX10_layFrom_117 : decode cX10_layFrom 117 = .ok (.iload 5, 2) := by decide +kernel
theorem dX10_layFrom_119 : decode cX10_layFrom 119 = .ok (.bipush 8, 2) := by decide +kernel
theorem dX10_layFrom_121 : decode cX10_layFrom 121 = .ok (.imul, 1) := by decide +kernel
theorem dX10_layFrom_122 : decode cX10_layFrom 122 = .ok (.iload 7, 2) := by decide +kernel
theorem dX10_layFrom_124 : decode cX10_layFrom 124 = .ok (.iadd, 1) := by decide +kernel
theorem dX10_layFrom_125 : decode cX10_layFrom 125 = .ok (.iaload, 1) := by decide +kernel
theorem dX10_layFrom_126 : decode cX10_layFrom 126 = .ok (.bipush 63, 2) := by decide +kernel
theorem dX10_layFrom_128 : decode cX10_layFrom 128 = .ok (.iand, 1) := by decide +kernel
theorem dX10_layFrom_129 : decode cX10_layFrom 129 = .ok (.iload 8, 2) := by decide +kernel
theorem dX10_layFrom_131 : decode cX10_layFrom 131 = .ok (.invokevirtual 89, 3) := by decide +kernel
theorem dX10_layFrom_134 : decode cX10_layFrom 134 = .ok (.aload_n 0, 1) := by decide +kernel
theorem dX10_layFrom_135 : decode cX10_layFrom 135 = .ok (.getfield 32, 3) := by decide +kernel
theorem dX10_layFrom_138 : decode cX10_layFrom 138 = .ok (.iload 6, 2) := by decide +kernel
theorem dX10_layFrom_140 : decode cX10_layFrom 140 = .ok (.bipush 8, 2) := by decide +kernel
theorem dX10_layFrom_142 : decode cX10_layFrom 142 = .ok (.imul, 1) := by decide +kernel
theorem dX10_layFrom_143 : decode cX10_layFrom 143 = .ok (.iload 7, 2) := by decide +kernel
theorem dX10_layFrom_145 : decode cX10_layFrom 145 = .ok (.iadd, 1) := by decide +kernel
theorem dX10_layFrom_146 : decode cX10_layFrom 146 = .ok (.iconst 0, 1) := by decide +kernel
theorem dX10_layFrom_147 : decode cX10_layFrom 147 = .ok (.iastore, 1) := by decide +kernel
theorem dX10_layFrom_148 : decode cX10_layFrom 148 = .ok (.iinc 7 1, 3) := by decide +kernel
theorem dX10_layFrom_151 : decode cX10_layFrom 151 = .ok (.goto (-81), 3) := by decide +kernel
theorem dX10_layFrom_154 : decode cX10_layFrom 154 = .ok (.iinc 6 1, 3) := by decide +kernel
theorem dX10_layFrom_157 : decode cX10_layFrom 157 = .ok (.goto (-127), 3) := by decide +kernel
theorem dX10_layFrom_160 : decode cX10_layFrom 160 = .ok (.return_, 1) := by decide +kernel
def sX10_layFrom_154 (F : Nat) (k_30 : Hp → Nat → Int32 → Int32 → Int64 → Int32 → Int32 → Option (Hp)) (h : Hp) (x0 : Nat) (x1 : Int32) (x2 : Int32) (x3 : Int64) (x5 : Int32) (x6 : Int32) : Option (Hp) := nm (x6 + (1 : Int32)) fun v_1 => k_30 h x0 x1 x2 x3 x5 v_1
def sX10_layFrom_148 (F : Nat) (k_30 : Hp → Nat → Int32 → Int32 → Int64 → Int32 → Int32 → Option (Hp)) (k_70 : Hp → Nat → Int32 → Int32 → Int64 → Int32 → Int32 → Int32 → Option (Hp)) (h : Hp) (x0 : Nat) (x1 : Int32) (x2 : Int32) (x3 : Int64) (x5 : Int32) (x6 : Int32) (x7 : Int32) : Option (Hp) := nm (x7 + (1 : Int32)) fun v_1 => k_70 h x0 x1 x2 x3 x5 x6 v_1
def sX10_layFrom_134 (F : Nat) (k_30 : Hp → Nat → Int32 → Int32 → Int64 → Int32 → Int32 → Option (Hp)) (k_70 : Hp → Nat → Int32 → Int32 → Int64 → Int32 → Int32 → Int32 → Option (Hp)) (h : Hp) (x0 : Nat) (x1 : Int32) (x2 : Int32) (x3 : Int64) (x5 : Int32) (x6 : Int32) (x7 : Int32) : Option (Hp) := cl (hR h x0 6) fun r_1 => gd (inB ((x6 * (8 : Int32)) + x7) (hN h r_1)) <| nm (wI h r_1 ((x6 * (8 : Int32)) + x7).toNatClampNeg (0 : Int32)) fun h_3 => sX10_layFrom_148 F k_30 k_70 h_3 x0 x1 x2 x3 x5 x6 x7
def sX10_layFrom_70 (F : Nat) (k_30 : Hp → Nat → Int32 → Int32 → Int64 → Int32 → Int32 → Option (Hp)) : Nat → Hp → Nat → Int32 → Int32 → Int64 → Int32 → Int32 → Int32 → Option (Hp)
  | 0, _, _, _, _, _, _, _, _ => none
  | f + 1, h, x0, x1, x2, x3, x5, x6, x7 => cl (hR h x0 7) fun r_1 => cl (hR h r_1 16) fun r_2 => gd (inB x5 (hN h r_2)) <| br ((hI h r_2 x5.toNatClampNeg) ≤ x7) (sX10_layFrom_154 F k_30 h x0 x1 x2 x3 x5 x6) (cl (hR h x0 6) fun r_5 => gd (inB ((x6 * (8 : Int32)) + x7) (hN h r_5)) <| nm (hI h r_5 ((x6 * (8 : Int32)) + x7).toNatClampNeg) fun v_7 => br (v_7 ≤ 0) (sX10_layFrom_148 F k_30 (sX10_layFrom_70 F k_30 f) h x0 x1 x2 x3 x5 x6 x7) (cl (hR h x0 7) fun r_9 => cl (hR h r_9 15) fun r_10 => gd (inB ((x5 * (8 : Int32)) + x7) (hN h r_10)) <| cl (sX10_addWay F h x0 x1 x2 x6 ((hI h r_10 ((x5 * (8 : Int32)) + x7).toNatClampNeg) &&& (63 : Int32)) v_7) fun o_12 => sX10_layFrom_134 F k_30 (sX10_layFrom_70 F k_30 f) o_12 x0 x1 x2 x3 x5 x6 x7))
def sX10_layFrom_48 (F : Nat) (k_30 : Hp → Nat → Int32 → Int32 → Int64 → Int32 → Int32 → Option (Hp)) (h : Hp) (x0 : Nat) (x1 : Int32) (x2 : Int32) (x3 : Int64) (x5 : Int32) (x6 : Int32) (t0 : Int32) (t1 : Nat) : Option (Hp) := gd (inB t0 (hN h t1)) <| nm (wI h t1 t0.toNatClampNeg (hI h x0 8)) fun h_2 => br ((lg_cmp (((x3.toUInt64 >>> (x6.toInt64.toUInt64 &&& Int64.toUInt64 63)).toInt64) &&& (1 : Int64)) (0 : Int64)) = 0) (sX10_layFrom_154 F k_30 h_2 x0 x1 x2 x3 x5 x6) (sX10_layFrom_70 F k_30 F h_2 x0 x1 x2 x3 x5 x6 (0 : Int32))
def sX10_layFrom_30 (F : Nat) : Nat → Hp → Nat → Int32 → Int32 → Int64 → Int32 → Int32 → Option (Hp)
  | 0, _, _, _, _, _, _, _ => none
  | f + 1, h, x0, x1, x2, x3, x5, x6 => br ((64 : Int32) ≤ x6) (some h) (cl (hR h x0 0) fun r_2 => cl (sX10_cell h x1 x2 x6) fun o_3 => sX10_layFrom_48 F (sX10_layFrom_30 F f) o_3.2 x0 x1 x2 x3 x5 x6 o_3.1 r_2)
def sX10_layFrom_21 (F : Nat) (h : Hp) (x0 : Nat) (x1 : Int32) (x2 : Int32) (t0 : Int64) : Option (Hp) := nm (x1 >>> ((1 : Int32) &&& 31)) fun v_1 => sX10_layFrom_30 F F h x0 x1 x2 t0 v_1 (0 : Int32)
def sX10_layFrom_17 (F : Nat) (h : Hp) (x0 : Nat) (x1 : Int32) (x2 : Int32) (t0 : Int64) : Option (Hp) := sX10_layFrom_21 F h x0 x1 x2 t0
def sX10_layFrom (F : Nat) (h : Hp) (x0 : Nat) (x1 : Int32) (x2 : Int32) : Option (Hp) := cl (hR h x0 7) fun r_1 => br ((hI h r_1 2) ≤ x2) (sX10_layFrom_21 F h x0 x1 x2 (0 : Int64)) (cl (sX10_reach F h x0 x1 x2) fun o_3 => sX10_layFrom_17 F o_3.2 x0 x1 x2 o_3.1)
theorem moX10_layFrom_154 {o : Hp} {k_30 : Hp → Nat → Int32 → Int32 → Int64 → Int32 → Int32 → Option (Hp)} {F : Nat} (mk_30 : ∀ (h : Hp) (x0 : Nat) (x1 : Int32) (x2 : Int32) (x3 : Int64) (x5 : Int32) (x6 : Int32), k_30 h x0 x1 x2 x3 x5 x6 = some o → Le h o) {h : Hp} {x0 : Nat} {x1 : Int32} {x2 : Int32} {x3 : Int64} {x5 : Int32} {x6 : Int32} (hE : sX10_layFrom_154 F k_30 h x0 x1 x2 x3 x5 x6 = some o) : Le h o := by
  obtain ⟨v_1, ev_1, hE⟩ := nm_e2 hE
  exact mk_30 _ _ _ _ _ _ _ hE
theorem moX10_layFrom_148 {o : Hp} {k_30 : Hp → Nat → Int32 → Int32 → Int64 → Int32 → Int32 → Option (Hp)} {k_70 : Hp → Nat → Int32 → Int32 → Int64 → Int32 → Int32 → Int32 → Option (Hp)} {F : Nat} (mk_30 : ∀ (h : Hp) (x0 : Nat) (x1 : Int32) (x2 : Int32) (x3 : Int64) (x5 : Int32) (x6 : Int32), k_30 h x0 x1 x2 x3 x5 x6 = some o → Le h o) (mk_70 : ∀ (h : Hp) (x0 : Nat) (x1 : Int32) (x2 : Int32) (x3 : Int64) (x5 : Int32) (x6 : Int32) (x7 : Int32), k_70 h x0 x1 x2 x3 x5 x6 x7 = some o → Le h o) {h : Hp} {x0 : Nat} {x1 : Int32} {x2 : Int32} {x3 : Int64} {x5 : Int32} {x6 : Int32} {x7 : Int32} (hE : sX10_layFrom_148 F k_30 k_70 h x0 x1 x2 x3 x5 x6 x7 = some o) : Le h o := by
  obtain ⟨v_1, ev_1, hE⟩ := nm_e2 hE
  exact mk_70 _ _ _ _ _ _ _ _ hE
theorem moX10_layFrom_134 {o : Hp} {k_30 : Hp → Nat → Int32 → Int32 → Int64 → Int32 → Int32 → Option (Hp)} {k_70 : Hp → Nat → Int32 → Int32 → Int64 → Int32 → Int32 → Int32 → Option (Hp)} {F : Nat} (mk_30 : ∀ (h : Hp) (x0 : Nat) (x1 : Int32) (x2 : Int32) (x3 : Int64) (x5 : Int32) (x6 : Int32), k_30 h x0 x1 x2 x3 x5 x6 = some o → Le h o) (mk_70 : ∀ (h : Hp) (x0 : Nat) (x1 : Int32) (x2 : Int32) (x3 : Int64) (x5 : Int32) (x6 : Int32) (x7 : Int32), k_70 h x0 x1 x2 x3 x5 x6 x7 = some o → Le h o) {h : Hp} {x0 : Nat} {x1 : Int32} {x2 : Int32} {x3 : Int64} {x5 : Int32} {x6 : Int32} {x7 : Int32} (hE : sX10_layFrom_134 F k_30 k_70 h x0 x1 x2 x3 x5 x6 x7 = some o) : Le h o := by
  obtain ⟨r_1, er_1, hE⟩ := cl_e hE
  obtain ⟨g_2, hE⟩ := gd_e hE
  obtain ⟨h_3, eh_3, hE⟩ := nm_e2 hE
  refine (le_I eh_3).tr ?_
  exact moX10_layFrom_148 mk_30 mk_70 hE
theorem moX10_layFrom_70 {o : Hp} {k_30 : Hp → Nat → Int32 → Int32 → Int64 → Int32 → Int32 → Option (Hp)} {F : Nat} (mk_30 : ∀ (h : Hp) (x0 : Nat) (x1 : Int32) (x2 : Int32) (x3 : Int64) (x5 : Int32) (x6 : Int32), k_30 h x0 x1 x2 x3 x5 x6 = some o → Le h o) : ∀ (f : Nat) {h : Hp} {x0 : Nat} {x1 : Int32} {x2 : Int32} {x3 : Int64} {x5 : Int32} {x6 : Int32} {x7 : Int32}, sX10_layFrom_70 F k_30 f h x0 x1 x2 x3 x5 x6 x7 = some o → Le h o := by
  intro f
  induction f with
  | zero =>
    intro h x0 x1 x2 x3 x5 x6 x7 hE
    rw [sX10_layFrom_70] at hE
    cases hE
  | succ f ih =>
    intro h x0 x1 x2 x3 x5 x6 x7 hE
    rw [sX10_layFrom_70] at hE
    have mk_70 : ∀ (h : Hp) (x0 : Nat) (x1 : Int32) (x2 : Int32) (x3 : Int64) (x5 : Int32) (x6 : Int32) (x7 : Int32), sX10_layFrom_70 F k_30 f h x0 x1 x2 x3 x5 x6 x7 = some o → Le h o := fun h x0 x1 x2 x3 x5 x6 x7 hE => ih hE
    obtain ⟨r_1, er_1, hE⟩ := cl_e hE
    obtain ⟨r_2, er_2, hE⟩ := cl_e hE
    obtain ⟨g_3, hE⟩ := gd_e hE
    rcases br_e hE with ⟨_, hE⟩ | ⟨_, hE⟩
    · exact moX10_layFrom_154 mk_30 hE
    · obtain ⟨r_5, er_5, hE⟩ := cl_e hE
      obtain ⟨g_6, hE⟩ := gd_e hE
      obtain ⟨v_7, ev_7, hE⟩ := nm_e2 hE
      rcases br_e hE with ⟨_, hE⟩ | ⟨_, hE⟩
      · exact moX10_layFrom_148 mk_30 mk_70 hE
      · obtain ⟨r_9, er_9, hE⟩ := cl_e hE
        obtain ⟨r_10, er_10, hE⟩ := cl_e hE
        obtain ⟨g_11, hE⟩ := gd_e hE
        obtain ⟨o_12, eo_12, hE⟩ := cl_e hE
        refine (moX10_addWay eo_12).tr ?_
        exact moX10_layFrom_134 mk_30 mk_70 hE
theorem moX10_layFrom_48 {o : Hp} {k_30 : Hp → Nat → Int32 → Int32 → Int64 → Int32 → Int32 → Option (Hp)} {F : Nat} (mk_30 : ∀ (h : Hp) (x0 : Nat) (x1 : Int32) (x2 : Int32) (x3 : Int64) (x5 : Int32) (x6 : Int32), k_30 h x0 x1 x2 x3 x5 x6 = some o → Le h o) {h : Hp} {x0 : Nat} {x1 : Int32} {x2 : Int32} {x3 : Int64} {x5 : Int32} {x6 : Int32} {t0 : Int32} {t1 : Nat} (hE : sX10_layFrom_48 F k_30 h x0 x1 x2 x3 x5 x6 t0 t1 = some o) : Le h o := by
  obtain ⟨g_1, hE⟩ := gd_e hE
  obtain ⟨h_2, eh_2, hE⟩ := nm_e2 hE
  refine (le_I eh_2).tr ?_
  rcases br_e hE with ⟨_, hE⟩ | ⟨_, hE⟩
  · exact moX10_layFrom_154 mk_30 hE
  · exact moX10_layFrom_70 mk_30 _ hE
theorem moX10_layFrom_30 {o : Hp} {F : Nat} : ∀ (f : Nat) {h : Hp} {x0 : Nat} {x1 : Int32} {x2 : Int32} {x3 : Int64} {x5 : Int32} {x6 : Int32}, sX10_layFrom_30 F f h x0 x1 x2 x3 x5 x6 = some o → Le h o := by
  intro f
  induction f with
  | zero =>
    intro h x0 x1 x2 x3 x5 x6 hE
    rw [sX10_layFrom_30] at hE
    cases hE
  | succ f ih =>
    intro h x0 x1 x2 x3 x5 x6 hE
    rw [sX10_layFrom_30] at hE
    have mk_30 : ∀ (h : Hp) (x0 : Nat) (x1 : Int32) (x2 : Int32) (x3 : Int64) (x5 : Int32) (x6 : Int32), sX10_layFrom_30 F f h x0 x1 x2 x3 x5 x6 = some o → Le h o := fun h x0 x1 x2 x3 x5 x6 hE => ih hE
    rcases br_e hE with ⟨_, hE⟩ | ⟨_, hE⟩
    · cases hE
      exact Le.rf _
    · obtain ⟨r_2, er_2, hE⟩ := cl_e hE
      obtain ⟨o_3, eo_3, hE⟩ := cl_e hE
      refine (moX10_cell eo_3).tr ?_
      exact moX10_layFrom_48 mk_30 hE
theorem moX10_layFrom_21 {o : Hp} {F : Nat} {h : Hp} {x0 : Nat} {x1 : Int32} {x2 : Int32} {t0 : Int64} (hE : sX10_layFrom_21 F h x0 x1 x2 t0 = some o) : Le h o := by
  obtain ⟨v_1, ev_1, hE⟩ := nm_e2 hE
  exact moX10_layFrom_30 _ hE
theorem moX10_layFrom_17 {o : Hp} {F : Nat} {h : Hp} {x0 : Nat} {x1 : Int32} {x2 : Int32} {t0 : Int64} (hE : sX10_layFrom_17 F h x0 x1 x2 t0 = some o) : Le h o := by
  exact moX10_layFrom_21 hE
theorem moX10_layFrom {o : Hp} {F : Nat} {h : Hp} {x0 : Nat} {x1 : Int32} {x2 : Int32} (hE : sX10_layFrom F h x0 x1 x2 = some o) : Le h o := by
  obtain ⟨r_1, er_1, hE⟩ := cl_e hE
  rcases br_e hE with ⟨_, hE⟩ | ⟨_, hE⟩
  · exact moX10_layFrom_21 hE
  · obtain ⟨o_3, eo_3, hE⟩ := cl_e hE
    refine (moX10_reach eo_3).tr ?_
    exact moX10_layFrom_17 hE
set_option maxRecDepth 20000 in
theorem bX10_layFrom_154 {p : Program} {l : Launch} {e : Env} {s : State} {m : MethodId} {args : Array Value} {below : List Frame} {meth : Method} {c : Code} {X : Ec} {h0 : Hp} {o : Hp} {k_30 : Hp → Nat → Int32 → Int32 → Int64 → Int32 → Int32 → Option (Hp)} {F : Nat} (C : Cx X p s m args meth c RX10 cX10_layFrom 9 none "layFrom") (hk_30 : ∀ (h : Hp) (x0 : Nat) (x1 : Int32) (x2 : Int32) (x3 : Int64) (x5 : Int32) (x6 : Int32) (H : Heap) (locs : List Loc), hK h x0 = 10 → Kl h0 h → Wx X h H → va_S (aA (eB X)) s.heap H locs → ∀ (ls : Array Slot), lv_has ls 9 [(0, .ref x0), (1, .int x1), (2, .int x2), (3, .long x3), (5, .int x5), (6, .int x6)] → k_30 h x0 x1 x2 x3 x5 x6 = some o → W p l e (rmA 3 115 h0 o) s m args below meth c H locs (hS h - hS h0) (hL h - hL h0) (MQ below (QVA X h0 o) args s (hS o - hS h0) (hL o - hL h0) (aA (eB X))) (F0 m 30 ls [])) (mk_30 : ∀ (h : Hp) (x0 : Nat) (x1 : Int32) (x2 : Int32) (x3 : Int64) (x5 : Int32) (x6 : Int32), k_30 h x0 x1 x2 x3 x5 x6 = some o → Le h o) {h : Hp} {x0 : Nat} {x1 : Int32} {x2 : Int32} {x3 : Int64} {x5 : Int32} {x6 : Int32} {H : Heap} {locs : List Loc} (k_x0 : hK h x0 = 10) (hkl : Kl h0 h) (hW : Wx X h H) (hZ : va_S (aA (eB X)) s.heap H locs) (ls : Array Slot) (hl : lv_has ls 9 [(0, .ref x0), (1, .int x1), (2, .int x2), (3, .long x3), (5, .int x5), (6, .int x6)]) (hE : sX10_layFrom_154 F k_30 h x0 x1 x2 x3 x5 x6 = some o) : W p l e (rmA 3 115 h0 o) s m args below meth c H locs (hS h - hS h0) (hL h - hL h0) (MQ below (QVA X h0 o) args s (hS o - hS h0) (hL o - hL h0) (aA (eB X))) (F0 m 154 ls []) := by
  obtain ⟨v_1, ev_1, hE⟩ := nm_e2 hE
  refine lv_iinc (v := v_1) (lv' := [(6, .int v_1), (0, .ref x0), (1, .int x1), (2, .int x2), (3, .long x3), (5, .int x5)]) C.1 C.2.1 dX10_layFrom_154 hl (k := 5) rfl (by rw [ev_1]; rfl) (by decide) rfl (fun ls hl => ?_)
  refine lv_goto (tgt := 30) C.1 C.2.1 dX10_layFrom_157 (by decide) ?_
  exact hk_30 _ _ _ _ _ _ _ _ _ k_x0 hkl hW hZ _ (lv_sub hl [1, 2, 3, 4, 5, 0] rfl) hE
set_option maxRecDepth 20000 in
theorem bX10_layFrom_148 {p : Program} {l : Launch} {e : Env} {s : State} {m : MethodId} {args : Array Value} {below : List Frame} {meth : Method} {c : Code} {X : Ec} {h0 : Hp} {o : Hp} {k_30 : Hp → Nat → Int32 → Int32 → Int64 → Int32 → Int32 → Option (Hp)} {k_70 : Hp → Nat → Int32 → Int32 → Int64 → Int32 → Int32 → Int32 → Option (Hp)} {F : Nat} (C : Cx X p s m args meth c RX10 cX10_layFrom 9 none "layFrom") (hk_30 : ∀ (h : Hp) (x0 : Nat) (x1 : Int32) (x2 : Int32) (x3 : Int64) (x5 : Int32) (x6 : Int32) (H : Heap) (locs : List Loc), hK h x0 = 10 → Kl h0 h → Wx X h H → va_S (aA (eB X)) s.heap H locs → ∀ (ls : Array Slot), lv_has ls 9 [(0, .ref x0), (1, .int x1), (2, .int x2), (3, .long x3), (5, .int x5), (6, .int x6)] → k_30 h x0 x1 x2 x3 x5 x6 = some o → W p l e (rmA 3 115 h0 o) s m args below meth c H locs (hS h - hS h0) (hL h - hL h0) (MQ below (QVA X h0 o) args s (hS o - hS h0) (hL o - hL h0) (aA (eB X))) (F0 m 30 ls [])) (hk_70 : ∀ (h : Hp) (x0 : Nat) (x1 : Int32) (x2 : Int32) (x3 : Int64) (x5 : Int32) (x6 : Int32) (x7 : Int32) (H : Heap) (locs : List Loc), hK h x0 = 10 → Kl h0 h → Wx X h H → va_S (aA (eB X)) s.heap H locs → ∀ (ls : Array Slot), lv_has ls 9 [(0, .ref x0), (1, .int x1), (2, .int x2), (3, .long x3), (5, .int x5), (6, .int x6), (7, .int x7)] → k_70 h x0 x1 x2 x3 x5 x6 x7 = some o → W p l e (rmA 3 115 h0 o) s m args below meth c H locs (hS h - hS h0) (hL h - hL h0) (MQ below (QVA X h0 o) args s (hS o - hS h0) (hL o - hL h0) (aA (eB X))) (F0 m 70 ls [])) (mk_30 : ∀ (h : Hp) (x0 : Nat) (x1 : Int32) (x2 : Int32) (x3 : Int64) (x5 : Int32) (x6 : Int32), k_30 h x0 x1 x2 x3 x5 x6 = some o → Le h o) (mk_70 : ∀ (h : Hp) (x0 : Nat) (x1 : Int32) (x2 : Int32) (x3 : Int64) (x5 : Int32) (x6 : Int32) (x7 : Int32), k_70 h x0 x1 x2 x3 x5 x6 x7 = some o → Le h o) {h : Hp} {x0 : Nat} {x1 : Int32} {x2 : Int32} {x3 : Int64} {x5 : Int32} {x6 : Int32} {x7 : Int32} {H : Heap} {locs : List Loc} (k_x0 : hK h x0 = 10) (hkl : Kl h0 h) (hW : Wx X h H) (hZ : va_S (aA (eB X)) s.heap H locs) (ls : Array Slot) (hl : lv_has ls 9 [(0, .ref x0), (1, .int x1), (2, .int x2), (3, .long x3), (5, .int x5), (6, .int x6), (7, .int x7)]) (hE : sX10_layFrom_148 F k_30 k_70 h x0 x1 x2 x3 x5 x6 x7 = some o) : W p l e (rmA 3 115 h0 o) s m args below meth c H locs (hS h - hS h0) (hL h - hL h0) (MQ below (QVA X h0 o) args s (hS o - hS h0) (hL o - hL h0) (aA (eB X))) (F0 m 148 ls []) := by
  obtain ⟨v_1, ev_1, hE⟩ := nm_e2 hE
  refine lv_iinc (v := v_1) (lv' := [(7, .int v_1), (0, .ref x0), (1, .int x1), (2, .int x2), (3, .long x3), (5, .int x5), (6, .int x6)]) C.1 C.2.1 dX10_layFrom_148 hl (k := 6) rfl (by rw [ev_1]; rfl) (by decide) rfl (fun ls hl => ?_)
  refine lv_goto (tgt := 70) C.1 C.2.1 dX10_layFrom_151 (by decide) ?_
  exact hk_70 _ _ _ _ _ _ _ _ _ _ k_x0 hkl hW hZ _ (lv_sub hl [1, 2, 3, 4, 5, 6, 0] rfl) hE
set_option maxRecDepth 20000 in
theorem bX10_layFrom_134 {p : Program} {l : Launch} {e : Env} {s : State} {m : MethodId} {args : Array Value} {below : List Frame} {meth : Method} {c : Code} {X : Ec} {h0 : Hp} {o : Hp} {k_30 : Hp → Nat → Int32 → Int32 → Int64 → Int32 → Int32 → Option (Hp)} {k_70 : Hp → Nat → Int32 → Int32 → Int64 → Int32 → Int32 → Int32 → Option (Hp)} {F : Nat} (C : Cx X p s m args meth c RX10 cX10_layFrom 9 none "layFrom") (hk_30 : ∀ (h : Hp) (x0 : Nat) (x1 : Int32) (x2 : Int32) (x3 : Int64) (x5 : Int32) (x6 : Int32) (H : Heap) (locs : List Loc), hK h x0 = 10 → Kl h0 h → Wx X h H → va_S (aA (eB X)) s.heap H locs → ∀ (ls : Array Slot), lv_has ls 9 [(0, .ref x0), (1, .int x1), (2, .int x2), (3, .long x3), (5, .int x5), (6, .int x6)] → k_30 h x0 x1 x2 x3 x5 x6 = some o → W p l e (rmA 3 115 h0 o) s m args below meth c H locs (hS h - hS h0) (hL h - hL h0) (MQ below (QVA X h0 o) args s (hS o - hS h0) (hL o - hL h0) (aA (eB X))) (F0 m 30 ls [])) (hk_70 : ∀ (h : Hp) (x0 : Nat) (x1 : Int32) (x2 : Int32) (x3 : Int64) (x5 : Int32) (x6 : Int32) (x7 : Int32) (H : Heap) (locs : List Loc), hK h x0 = 10 → Kl h0 h → Wx X h H → va_S (aA (eB X)) s.heap H locs → ∀ (ls : Array Slot), lv_has ls 9 [(0, .ref x0), (1, .int x1), (2, .int x2), (3, .long x3), (5, .int x5), (6, .int x6), (7, .int x7)] → k_70 h x0 x1 x2 x3 x5 x6 x7 = some o → W p l e (rmA 3 115 h0 o) s m args below meth c H locs (hS h - hS h0) (hL h - hL h0) (MQ below (QVA X h0 o) args s (hS o - hS h0) (hL o - hL h0) (aA (eB X))) (F0 m 70 ls [])) (mk_30 : ∀ (h : Hp) (x0 : Nat) (x1 : Int32) (x2 : Int32) (x3 : Int64) (x5 : Int32) (x6 : Int32), k_30 h x0 x1 x2 x3 x5 x6 = some o → Le h o) (mk_70 : ∀ (h : Hp) (x0 : Nat) (x1 : Int32) (x2 : Int32) (x3 : Int64) (x5 : Int32) (x6 : Int32) (x7 : Int32), k_70 h x0 x1 x2 x3 x5 x6 x7 = some o → Le h o) {h : Hp} {x0 : Nat} {x1 : Int32} {x2 : Int32} {x3 : Int64} {x5 : Int32} {x6 : Int32} {x7 : Int32} {H : Heap} {locs : List Loc} (k_x0 : hK h x0 = 10) (hkl : Kl h0 h) (hW : Wx X h H) (hZ : va_S (aA (eB X)) s.heap H locs) (ls : Array Slot) (hl : lv_has ls 9 [(0, .ref x0), (1, .int x1), (2, .int x2), (3, .long x3), (5, .int x5), (6, .int x6), (7, .int x7)]) (hE : sX10_layFrom_134 F k_30 k_70 h x0 x1 x2 x3 x5 x6 x7 = some o) : W p l e (rmA 3 115 h0 o) s m args below meth c H locs (hS h - hS h0) (hL h - hL h0) (MQ below (QVA X h0 o) args s (hS o - hS h0) (hL o - hL h0) (aA (eB X))) (F0 m 134 ls []) := by
  refine lv_aload_n C.1 C.2.1 dX10_layFrom_134 rfl (lv_at hl 0 rfl) ?_
  obtain ⟨r_1, er_1, hE⟩ := cl_e hE
  refine gf_X10_32 C hW k_x0 er_1 dX10_layFrom_135 (fun k_r_1 => ?_)
  refine lv_iload C.1 C.2.1 dX10_layFrom_138 (lv_at hl 5 rfl) ?_
  refine lv_bipush (v := (8 : Int32)) C.1 C.2.1 dX10_layFrom_140 (by decide) ?_
  refine lv_imul C.1 C.2.1 dX10_layFrom_142 ?_
  refine lv_iload C.1 C.2.1 dX10_layFrom_143 (lv_at hl 6 rfl) ?_
  refine lv_iadd C.1 C.2.1 dX10_layFrom_145 ?_
  refine lv_iconst (v := (0 : Int32)) C.1 C.2.1 dX10_layFrom_146 (by decide) ?_
  obtain ⟨g_2, hE⟩ := gd_e hE
  obtain ⟨h_3, eh_3, hE⟩ := nm_e2 hE
  refine y_iast C hW hZ k_r_1 g_2 eh_3 dX10_layFrom_147 (fun _ _ hW km hZ => ?_)
  replace hkl := hkl.tr km.l
  refine x_wc km ?_
  replace k_x0 := km.at k_x0 (by decide)
  exact bX10_layFrom_148 C hk_30 hk_70 mk_30 mk_70 k_x0 hkl hW hZ _ (lv_sub hl [0, 1, 2, 3, 4, 5, 6] rfl) hE
set_option maxRecDepth 20000 in
theorem bX10_layFrom_70 {p : Program} {l : Launch} {e : Env} {s : State} {m : MethodId} {args : Array Value} {below : List Frame} {meth : Method} {c : Code} {X : Ec} {h0 : Hp} {o : Hp} {k_30 : Hp → Nat → Int32 → Int32 → Int64 → Int32 → Int32 → Option (Hp)} {F : Nat} (C : Cx X p s m args meth c RX10 cX10_layFrom 9 none "layFrom") (hk_30 : ∀ (h : Hp) (x0 : Nat) (x1 : Int32) (x2 : Int32) (x3 : Int64) (x5 : Int32) (x6 : Int32) (H : Heap) (locs : List Loc), hK h x0 = 10 → Kl h0 h → Wx X h H → va_S (aA (eB X)) s.heap H locs → ∀ (ls : Array Slot), lv_has ls 9 [(0, .ref x0), (1, .int x1), (2, .int x2), (3, .long x3), (5, .int x5), (6, .int x6)] → k_30 h x0 x1 x2 x3 x5 x6 = some o → W p l e (rmA 3 115 h0 o) s m args below meth c H locs (hS h - hS h0) (hL h - hL h0) (MQ below (QVA X h0 o) args s (hS o - hS h0) (hL o - hL h0) (aA (eB X))) (F0 m 30 ls [])) (mk_30 : ∀ (h : Hp) (x0 : Nat) (x1 : Int32) (x2 : Int32) (x3 : Int64) (x5 : Int32) (x6 : Int32), k_30 h x0 x1 x2 x3 x5 x6 = some o → Le h o) : ∀ (f : Nat) {h : Hp} {x0 : Nat} {x1 : Int32} {x2 : Int32} {x3 : Int64} {x5 : Int32} {x6 : Int32} {x7 : Int32} {H : Heap} {locs : List Loc} (k_x0 : hK h x0 = 10), Kl h0 h → Wx X h H → va_S (aA (eB X)) s.heap H locs → ∀ (ls : Array Slot), lv_has ls 9 [(0, .ref x0), (1, .int x1), (2, .int x2), (3, .long x3), (5, .int x5), (6, .int x6), (7, .int x7)] → sX10_layFrom_70 F k_30 f h x0 x1 x2 x3 x5 x6 x7 = some o → W p l e (rmA 3 115 h0 o) s m args below meth c H locs (hS h - hS h0) (hL h - hL h0) (MQ below (QVA X h0 o) args s (hS o - hS h0) (hL o - hL h0) (aA (eB X))) (F0 m 70 ls []) := by
  intro f
  induction f with
  | zero =>
    intro h x0 x1 x2 x3 x5 x6 x7 H locs k_x0 hkl hW hZ ls hl hE
    rw [sX10_layFrom_70] at hE
    cases hE
  | succ f ih =>
    intro h x0 x1 x2 x3 x5 x6 x7 H locs k_x0 hkl hW hZ ls hl hE
    rw [sX10_layFrom_70] at hE
    have mk_70 : ∀ (h : Hp) (x0 : Nat) (x1 : Int32) (x2 : Int32) (x3 : Int64) (x5 : Int32) (x6 : Int32) (x7 : Int32), sX10_layFrom_70 F k_30 f h x0 x1 x2 x3 x5 x6 x7 = some o → Le h o := fun h x0 x1 x2 x3 x5 x6 x7 hE => moX10_layFrom_70 mk_30 _ hE
    have hk_70 : ∀ (h : Hp) (x0 : Nat) (x1 : Int32) (x2 : Int32) (x3 : Int64) (x5 : Int32) (x6 : Int32) (x7 : Int32) (H : Heap) (locs : List Loc), hK h x0 = 10 → Kl h0 h → Wx X h H → va_S (aA (eB X)) s.heap H locs → ∀ (ls : Array Slot), lv_has ls 9 [(0, .ref x0), (1, .int x1), (2, .int x2), (3, .long x3), (5, .int x5), (6, .int x6), (7, .int x7)] → sX10_layFrom_70 F k_30 f h x0 x1 x2 x3 x5 x6 x7 = some o → W p l e (rmA 3 115 h0 o) s m args below meth c H locs (hS h - hS h0) (hL h - hL h0) (MQ below (QVA X h0 o) args s (hS o - hS h0) (hL o - hL h0) (aA (eB X))) (F0 m 70 ls []) := fun h x0 x1 x2 x3 x5 x6 x7 H locs k_x0 a b c ls hl hE => ih k_x0 a b c ls hl hE
    refine lv_iload C.1 C.2.1 dX10_layFrom_70 (lv_at hl 6 rfl) ?_
    refine lv_aload_n C.1 C.2.1 dX10_layFrom_72 rfl (lv_at hl 0 rfl) ?_
    obtain ⟨r_1, er_1, hE⟩ := cl_e hE
    refine gf_X10_35 C hW k_x0 er_1 dX10_layFrom_73 (fun k_r_1 => ?_)
    obtain ⟨r_2, er_2, hE⟩ := cl_e hE
    refine gf_X10_83 C hW k_r_1 er_2 dX10_layFrom_76 (fun k_r_2 => ?_)
    refine lv_iload C.1 C.2.1 dX10_layFrom_79 (lv_at hl 4 rfl) ?_
    obtain ⟨g_3, hE⟩ := gd_e hE
    refine y_iald C hW k_r_2 g_3 dX10_layFrom_81 ?_
    refine lv_icmp_ge (tgt := 154) C.1 C.2.1 dX10_layFrom_82 (by decide) (fun c_4 => ?_) (fun c_4 => ?_)
    · have hE := br_p hE c_4
      exact bX10_layFrom_154 C hk_30 mk_30 k_x0 hkl hW hZ _ (lv_sub hl [0, 1, 2, 3, 4, 5] rfl) hE
    · have hE := br_n hE c_4
      refine lv_aload_n C.1 C.2.1 dX10_layFrom_85 rfl (lv_at hl 0 rfl) ?_
      obtain ⟨r_5, er_5, hE⟩ := cl_e hE
      refine gf_X10_32 C hW k_x0 er_5 dX10_layFrom_86 (fun k_r_5 => ?_)
      refine lv_iload C.1 C.2.1 dX10_layFrom_89 (lv_at hl 5 rfl) ?_
      refine lv_bipush (v := (8 : Int32)) C.1 C.2.1 dX10_layFrom_91 (by decide) ?_
      refine lv_imul C.1 C.2.1 dX10_layFrom_93 ?_
      refine lv_iload C.1 C.2.1 dX10_layFrom_94 (lv_at hl 6 rfl) ?_
      refine lv_iadd C.1 C.2.1 dX10_layFrom_96 ?_
      obtain ⟨g_6, hE⟩ := gd_e hE
      refine y_iald C hW k_r_5 g_6 dX10_layFrom_97 ?_
      obtain ⟨v_7, ev_7, hE⟩ := nm_e2 hE
      refine x_nmI ev_7 ?_
      refine lv_istore (lv' := [(8, .int v_7), (0, .ref x0), (1, .int x1), (2, .int x2), (3, .long x3), (5, .int x5), (6, .int x6), (7, .int x7)]) C.1 C.2.1 dX10_layFrom_98 hl (by decide) rfl (fun ls hl => ?_)
      refine lv_iload C.1 C.2.1 dX10_layFrom_100 (lv_at hl 0 rfl) ?_
      refine lv_if_le (tgt := 148) C.1 C.2.1 dX10_layFrom_102 (by decide) (fun c_8 => ?_) (fun c_8 => ?_)
      · have hE := br_p hE c_8
        exact bX10_layFrom_148 C hk_30 hk_70 mk_30 mk_70 k_x0 hkl hW hZ _ (lv_sub hl [1, 2, 3, 4, 5, 6, 7] rfl) hE
      · have hE := br_n hE c_8
        refine lv_aload_n C.1 C.2.1 dX10_layFrom_105 rfl (lv_at hl 1 rfl) ?_
        refine lv_iload_n C.1 C.2.1 dX10_layFrom_106 rfl (lv_at hl 2 rfl) ?_
        refine lv_iload_n C.1 C.2.1 dX10_layFrom_107 rfl (lv_at hl 3 rfl) ?_
        refine lv_iload C.1 C.2.1 dX10_layFrom_108 (lv_at hl 6 rfl) ?_
        refine lv_aload_n C.1 C.2.1 dX10_layFrom_110 rfl (lv_at hl 1 rfl) ?_
        obtain ⟨r_9, er_9, hE⟩ := cl_e hE
        refine gf_X10_35 C hW k_x0 er_9 dX10_layFrom_111 (fun k_r_9 => ?_)
        obtain ⟨r_10, er_10, hE⟩ := cl_e hE
        refine gf_X10_86 C hW k_r_9 er_10 dX10_layFrom_114 (fun k_r_10 => ?_)
        refine lv_iload C.1 C.2.1 dX10_layFrom_117 (lv_at hl 5 rfl) ?_
        refine lv_bipush (v := (8 : Int32)) C.1 C.2.1 dX10_layFrom_119 (by decide) ?_
        refine lv_imul C.1 C.2.1 dX10_layFrom_121 ?_
        refine lv_iload C.1 C.2.1 dX10_layFrom_122 (lv_at hl 7 rfl) ?_
        refine lv_iadd C.1 C.2.1 dX10_layFrom_124 ?_
        obtain ⟨g_11, hE⟩ := gd_e hE
        refine y_iald C hW k_r_10 g_11 dX10_layFrom_125 ?_
        refine lv_bipush (v := (63 : Int32)) C.1 C.2.1 dX10_layFrom_126 (by decide) ?_
        refine lv_iand C.1 C.2.1 dX10_layFrom_128 ?_
        refine lv_iload C.1 C.2.1 dX10_layFrom_129 (lv_at hl 0 rfl) ?_
        obtain ⟨o_12, eo_12, hE⟩ := cl_e hE
        have m1 := moX10_addWay eo_12
        have m2 := moX10_layFrom_134 mk_30 mk_70 hE
        refine x_kVA (o := o_12) hkl (z_runV (As := [.int x1, .int x2, .int x6, .int ((hI h r_10 ((x5 * (8 : Int32)) + x7).toNatClampNeg) &&& (63 : Int32)), .int v_7]) (rest := []) C (ct_X10_addWay l X F k_x0 eo_12) cw_X10_89 hW hZ k_x0 (by decide) rfl rfl rfl hl.1 (Nat.le_of_ble_eq_true rfl) rfl dX10_layFrom_131 ⟨Nat.le_of_ble_eq_true rfl, Nat.le_of_ble_eq_true rfl⟩ (rm_ok hkl m1 m2)) hZ (fun _ _ hW km hZ => ?_)
        replace hkl := hkl.tr km
        replace k_x0 := km.at k_x0 (by decide)
        exact bX10_layFrom_134 C hk_30 hk_70 mk_30 mk_70 k_x0 hkl hW hZ _ (lv_sub hl [1, 2, 3, 4, 5, 6, 7] rfl) hE
set_option maxRecDepth 20000 in
theorem bX10_layFrom_48 {p : Program} {l : Launch} {e : Env} {s : State} {m : MethodId} {args : Array Value} {below : List Frame} {meth : Method} {c : Code} {X : Ec} {h0 : Hp} {o : Hp} {k_30 : Hp → Nat → Int32 → Int32 → Int64 → Int32 → Int32 → Option (Hp)} {F : Nat} (C : Cx X p s m args meth c RX10 cX10_layFrom 9 none "layFrom") (hk_30 : ∀ (h : Hp) (x0 : Nat) (x1 : Int32) (x2 : Int32) (x3 : Int64) (x5 : Int32) (x6 : Int32) (H : Heap) (locs : List Loc), hK h x0 = 10 → Kl h0 h → Wx X h H → va_S (aA (eB X)) s.heap H locs → ∀ (ls : Array Slot), lv_has ls 9 [(0, .ref x0), (1, .int x1), (2, .int x2), (3, .long x3), (5, .int x5), (6, .int x6)] → k_30 h x0 x1 x2 x3 x5 x6 = some o → W p l e (rmA 3 115 h0 o) s m args below meth c H locs (hS h - hS h0) (hL h - hL h0) (MQ below (QVA X h0 o) args s (hS o - hS h0) (hL o - hL h0) (aA (eB X))) (F0 m 30 ls [])) (mk_30 : ∀ (h : Hp) (x0 : Nat) (x1 : Int32) (x2 : Int32) (x3 : Int64) (x5 : Int32) (x6 : Int32), k_30 h x0 x1 x2 x3 x5 x6 = some o → Le h o) {h : Hp} {x0 : Nat} {x1 : Int32} {x2 : Int32} {x3 : Int64} {x5 : Int32} {x6 : Int32} {t0 : Int32} {t1 : Nat} {H : Heap} {locs : List Loc} (k_x0 : hK h x0 = 10) (k_t1 : hK h t1 = 17) (hkl : Kl h0 h) (hW : Wx X h H) (hZ : va_S (aA (eB X)) s.heap H locs) (ls : Array Slot) (hl : lv_has ls 9 [(0, .ref x0), (1, .int x1), (2, .int x2), (3, .long x3), (5, .int x5), (6, .int x6)]) (hE : sX10_layFrom_48 F k_30 h x0 x1 x2 x3 x5 x6 t0 t1 = some o) : W p l e (rmA 3 115 h0 o) s m args below meth c H locs (hS h - hS h0) (hL h - hL h0) (MQ below (QVA X h0 o) args s (hS o - hS h0) (hL o - hL h0) (aA (eB X))) (F0 m 48 ls [.int t0, .ref t1]) := by
  refine lv_aload_n C.1 C.2.1 dX10_layFrom_48 rfl (lv_at hl 0 rfl) ?_
  refine gf_X10_39 C hW k_x0 dX10_layFrom_49 ?_
  obtain ⟨g_1, hE⟩ := gd_e hE
  obtain ⟨h_2, eh_2, hE⟩ := nm_e2 hE
  refine y_iast C hW hZ k_t1 g_1 eh_2 dX10_layFrom_52 (fun _ _ hW km hZ => ?_)
  replace hkl := hkl.tr km.l
  refine x_wc km ?_
  replace k_x0 := km.at k_x0 (by decide)
  refine lv_lload_n C.1 C.2.1 dX10_layFrom_53 rfl (lv_at hl 3 rfl) ?_
  refine lv_iload C.1 C.2.1 dX10_layFrom_54 (lv_at hl 5 rfl) ?_
  refine lv_lushr C.1 C.2.1 dX10_layFrom_56 rfl ?_
  refine lv_lconst (v := (1 : Int64)) C.1 C.2.1 dX10_layFrom_57 (by decide) ?_
  refine lv_land C.1 C.2.1 dX10_layFrom_58 ?_
  refine lv_lconst (v := (0 : Int64)) C.1 C.2.1 dX10_layFrom_59 (by decide) ?_
  refine W.lcmp C.1 C.2.1 dX10_layFrom_60 ?_
  refine lv_if_ne (tgt := 67) C.1 C.2.1 dX10_layFrom_61 (by decide) (fun c_3 => ?_) (fun c_3 => ?_)
  · have hE := br_n hE c_3
    refine lv_iconst (v := (0 : Int32)) C.1 C.2.1 dX10_layFrom_67 (by decide) ?_
    refine lv_istore (lv' := [(7, .int (0 : Int32)), (0, .ref x0), (1, .int x1), (2, .int x2), (3, .long x3), (5, .int x5), (6, .int x6)]) C.1 C.2.1 dX10_layFrom_68 hl (by decide) rfl (fun ls hl => ?_)
    exact bX10_layFrom_70 C hk_30 mk_30 F k_x0 hkl hW hZ _ (lv_sub hl [1, 2, 3, 4, 5, 6, 0] rfl) hE
  · have hE := br_p hE c_3
    refine lv_goto (tgt := 154) C.1 C.2.1 dX10_layFrom_64 (by decide) ?_
    exact bX10_layFrom_154 C hk_30 mk_30 k_x0 hkl hW hZ _ (lv_sub hl [0, 1, 2, 3, 4, 5] rfl) hE
set_option maxRecDepth 20000 in
theorem bX10_layFrom_30 {p : Program} {l : Launch} {e : Env} {s : State} {m : MethodId} {args : Array Value} {below : List Frame} {meth : Method} {c : Code} {X : Ec} {h0 : Hp} {o : Hp} {F : Nat} (C : Cx X p s m args meth c RX10 cX10_layFrom 9 none "layFrom") : ∀ (f : Nat) {h : Hp} {x0 : Nat} {x1 : Int32} {x2 : Int32} {x3 : Int64} {x5 : Int32} {x6 : Int32} {H : Heap} {locs : List Loc} (k_x0 : hK h x0 = 10), Kl h0 h → Wx X h H → va_S (aA (eB X)) s.heap H locs → ∀ (ls : Array Slot), lv_has ls 9 [(0, .ref x0), (1, .int x1), (2, .int x2), (3, .long x3), (5, .int x5), (6, .int x6)] → sX10_layFrom_30 F f h x0 x1 x2 x3 x5 x6 = some o → W p l e (rmA 3 115 h0 o) s m args below meth c H locs (hS h - hS h0) (hL h - hL h0) (MQ below (QVA X h0 o) args s (hS o - hS h0) (hL o - hL h0) (aA (eB X))) (F0 m 30 ls []) := by
  intro f
  induction f with
  | zero =>
    intro h x0 x1 x2 x3 x5 x6 H locs k_x0 hkl hW hZ ls hl hE
    rw [sX10_layFrom_30] at hE
    cases hE
  | succ f ih =>
    intro h x0 x1 x2 x3 x5 x6 H locs k_x0 hkl hW hZ ls hl hE
    rw [sX10_layFrom_30] at hE
    have mk_30 : ∀ (h : Hp) (x0 : Nat) (x1 : Int32) (x2 : Int32) (x3 : Int64) (x5 : Int32) (x6 : Int32), sX10_layFrom_30 F f h x0 x1 x2 x3 x5 x6 = some o → Le h o := fun h x0 x1 x2 x3 x5 x6 hE => moX10_layFrom_30 _ hE
    have hk_30 : ∀ (h : Hp) (x0 : Nat) (x1 : Int32) (x2 : Int32) (x3 : Int64) (x5 : Int32) (x6 : Int32) (H : Heap) (locs : List Loc), hK h x0 = 10 → Kl h0 h → Wx X h H → va_S (aA (eB X)) s.heap H locs → ∀ (ls : Array Slot), lv_has ls 9 [(0, .ref x0), (1, .int x1), (2, .int x2), (3, .long x3), (5, .int x5), (6, .int x6)] → sX10_layFrom_30 F f h x0 x1 x2 x3 x5 x6 = some o → W p l e (rmA 3 115 h0 o) s m args below meth c H locs (hS h - hS h0) (hL h - hL h0) (MQ below (QVA X h0 o) args s (hS o - hS h0) (hL o - hL h0) (aA (eB X))) (F0 m 30 ls []) := fun h x0 x1 x2 x3 x5 x6 H locs k_x0 a b c ls hl hE => ih k_x0 a b c ls hl hE
    refine lv_iload C.1 C.2.1 dX10_layFrom_30 (lv_at hl 5 rfl) ?_
    refine lv_bipush (v := (64 : Int32)) C.1 C.2.1 dX10_layFrom_32 (by decide) ?_
    refine lv_icmp_ge (tgt := 160) C.1 C.2.1 dX10_layFrom_34 (by decide) (fun c_1 => ?_) (fun c_1 => ?_)
    · have hE := br_p hE c_1
      exact x_vretA C rfl hW hZ hkl hE dX10_layFrom_160
    · have hE := br_n hE c_1
      refine lv_aload_n C.1 C.2.1 dX10_layFrom_37 rfl (lv_at hl 0 rfl) ?_
      obtain ⟨r_2, er_2, hE⟩ := cl_e hE
      refine gf_X10_10 C hW k_x0 er_2 dX10_layFrom_38 (fun k_r_2 => ?_)
      refine lv_iload_n C.1 C.2.1 dX10_layFrom_41 rfl (lv_at hl 1 rfl) ?_
      refine lv_iload_n C.1 C.2.1 dX10_layFrom_42 rfl (lv_at hl 2 rfl) ?_
      refine lv_iload C.1 C.2.1 dX10_layFrom_43 (lv_at hl 5 rfl) ?_
      obtain ⟨o_3, eo_3, hE⟩ := cl_e hE
      have m1 := moX10_cell eo_3
      have m2 := moX10_layFrom_48 mk_30 hE
      refine x_kI (o := o_3) (z_runS (As := [.int x1, .int x2, .int x6]) (rest := [.ref r_2]) C (ct_X10_cell l X eo_3) cw_X10_63 hW hZ rfl hl.1 (Nat.le_of_ble_eq_true rfl) rfl dX10_layFrom_45 ⟨Nat.le_of_ble_eq_true rfl, Nat.le_of_ble_eq_true rfl⟩ (rm_ok0 hkl m1 m2)) hZ (fun _ _ hW km hZ => ?_)
      replace hkl := hkl.tr km.l
      refine x_wc km ?_
      replace k_x0 := km.at k_x0 (by decide)
      replace k_r_2 := km.at k_r_2 (by decide)
      exact bX10_layFrom_48 C hk_30 mk_30 k_x0 k_r_2 hkl hW hZ _ (lv_sub hl [0, 1, 2, 3, 4, 5] rfl) hE
set_option maxRecDepth 20000 in
theorem bX10_layFrom_21 {p : Program} {l : Launch} {e : Env} {s : State} {m : MethodId} {args : Array Value} {below : List Frame} {meth : Method} {c : Code} {X : Ec} {h0 : Hp} {o : Hp} {F : Nat} (C : Cx X p s m args meth c RX10 cX10_layFrom 9 none "layFrom") {h : Hp} {x0 : Nat} {x1 : Int32} {x2 : Int32} {t0 : Int64} {H : Heap} {locs : List Loc} (k_x0 : hK h x0 = 10) (hkl : Kl h0 h) (hW : Wx X h H) (hZ : va_S (aA (eB X)) s.heap H locs) (ls : Array Slot) (hl : lv_has ls 9 [(0, .ref x0), (1, .int x1), (2, .int x2)]) (hE : sX10_layFrom_21 F h x0 x1 x2 t0 = some o) : W p l e (rmA 3 115 h0 o) s m args below meth c H locs (hS h - hS h0) (hL h - hL h0) (MQ below (QVA X h0 o) args s (hS o - hS h0) (hL o - hL h0) (aA (eB X))) (F0 m 21 ls [.long t0]) := by
  refine lv_lstore_n (lv' := [(3, .long t0), (0, .ref x0), (1, .int x1), (2, .int x2)]) C.1 C.2.1 dX10_layFrom_21 rfl hl (by decide) rfl (fun ls hl => ?_)
  refine lv_iload_n C.1 C.2.1 dX10_layFrom_22 rfl (lv_at hl 2 rfl) ?_
  refine lv_iconst (v := (1 : Int32)) C.1 C.2.1 dX10_layFrom_23 (by decide) ?_
  refine lv_ishr C.1 C.2.1 dX10_layFrom_24 ?_
  obtain ⟨v_1, ev_1, hE⟩ := nm_e2 hE
  refine x_nmI ev_1 ?_
  refine lv_istore (lv' := [(5, .int v_1), (3, .long t0), (0, .ref x0), (1, .int x1), (2, .int x2)]) C.1 C.2.1 dX10_layFrom_25 hl (by decide) rfl (fun ls hl => ?_)
  refine lv_iconst (v := (0 : Int32)) C.1 C.2.1 dX10_layFrom_27 (by decide) ?_
  refine lv_istore (lv' := [(6, .int (0 : Int32)), (5, .int v_1), (3, .long t0), (0, .ref x0), (1, .int x1), (2, .int x2)]) C.1 C.2.1 dX10_layFrom_28 hl (by decide) rfl (fun ls hl => ?_)
  exact bX10_layFrom_30 C F k_x0 hkl hW hZ _ (lv_sub hl [3, 4, 5, 2, 1, 0] rfl) hE
set_option maxRecDepth 20000 in
theorem bX10_layFrom_17 {p : Program} {l : Launch} {e : Env} {s : State} {m : MethodId} {args : Array Value} {below : List Frame} {meth : Method} {c : Code} {X : Ec} {h0 : Hp} {o : Hp} {F : Nat} (C : Cx X p s m args meth c RX10 cX10_layFrom 9 none "layFrom") {h : Hp} {x0 : Nat} {x1 : Int32} {x2 : Int32} {t0 : Int64} {H : Heap} {locs : List Loc} (k_x0 : hK h x0 = 10) (hkl : Kl h0 h) (hW : Wx X h H) (hZ : va_S (aA (eB X)) s.heap H locs) (ls : Array Slot) (hl : lv_has ls 9 [(0, .ref x0), (1, .int x1), (2, .int x2)]) (hE : sX10_layFrom_17 F h x0 x1 x2 t0 = some o) : W p l e (rmA 3 115 h0 o) s m args below meth c H locs (hS h - hS h0) (hL h - hL h0) (MQ below (QVA X h0 o) args s (hS o - hS h0) (hL o - hL h0) (aA (eB X))) (F0 m 17 ls [.long t0]) := by
  refine lv_goto (tgt := 21) C.1 C.2.1 dX10_layFrom_17 (by decide) ?_
  exact bX10_layFrom_21 C k_x0 hkl hW hZ _ (lv_sub hl [0, 1, 2] rfl) hE
set_option maxRecDepth 20000 in
theorem ct_X10_layFrom (l : Launch) (X : Ec) (F : Nat) {h : Hp} {x0 : Nat} {x1 : Int32} {x2 : Int32} {o : Hp} (k_x0 : hK h x0 = 10) (hE : sX10_layFrom F h x0 x1 x2 = some o) : MetVA l yX10_layFrom cX10_layFrom 9 none 3 115 X [.ref x0, .int x1, .int x2] h o := by
  refine x_metA (oh := o) (by decide) (Nat.le_of_ble_eq_true rfl) ?_
  intro p e s m below meth c ls C hl hW hZ
  have hl : lv_has ls 9 [(0, .ref x0), (1, .int x1), (2, .int x2)] := hl
  have hkl : Kl h h := Kl.rf h
  refine lv_iload_n C.1 C.2.1 dX10_layFrom_0 rfl (lv_at hl 2 rfl) ?_
  refine lv_aload_n C.1 C.2.1 dX10_layFrom_1 rfl (lv_at hl 0 rfl) ?_
  obtain ⟨r_1, er_1, hE⟩ := cl_e hE
  refine gf_X10_35 C hW k_x0 er_1 dX10_layFrom_2 (fun k_r_1 => ?_)
  refine gf_X10_76 C hW k_r_1 dX10_layFrom_5 ?_
  refine lv_icmp_ge (tgt := 20) C.1 C.2.1 dX10_layFrom_8 (by decide) (fun c_2 => ?_) (fun c_2 => ?_)
  · have hE := br_p hE c_2
    refine lv_lconst (v := (0 : Int64)) C.1 C.2.1 dX10_layFrom_20 (by decide) ?_
    exact bX10_layFrom_21 C k_x0 hkl hW hZ _ (lv_sub hl [0, 1, 2] rfl) hE
  · have hE := br_n hE c_2
    refine lv_aload_n C.1 C.2.1 dX10_layFrom_11 rfl (lv_at hl 0 rfl) ?_
    refine lv_iload_n C.1 C.2.1 dX10_layFrom_12 rfl (lv_at hl 1 rfl) ?_
    refine lv_iload_n C.1 C.2.1 dX10_layFrom_13 rfl (lv_at hl 2 rfl) ?_
    obtain ⟨o_3, eo_3, hE⟩ := cl_e hE
    have m1 := moX10_reach eo_3
    have m2 := moX10_layFrom_17 hE
    refine x_kJ (o := o_3) (z_runV (As := [.int x1, .int x2]) (rest := []) C (ct_X10_reach l X F k_x0 eo_3) cw_X10_79 hW hZ k_x0 (by decide) rfl rfl rfl hl.1 (Nat.le_of_ble_eq_true rfl) rfl dX10_layFrom_14 ⟨Nat.le_of_ble_eq_true rfl, Nat.le_of_ble_eq_true rfl⟩ (rm_ok0 hkl m1 m2)) hZ (fun _ _ hW km hZ => ?_)
    replace hkl := hkl.tr km.l
    refine x_wc km ?_
    replace k_x0 := km.at k_x0 (by decide)
    exact bX10_layFrom_17 C k_x0 hkl hW hZ _ (lv_sub hl [0, 1, 2] rfl) hE
section
variable {p : Program} {l : Launch} {e : Env} {R : Room} {s : State} {m : MethodId} {args : Array Value} {below : List Frame} {meth : Method} {c : Code} {H : Heap} {locs : List Loc} {cells slots : Nat} {Q : State → Prop}
variable {cc : ByteArray} {pc : Nat} {ls : Array Slot} {rest : List Value} {X : Ec} {h h1 : Hp} {nL : Nat} {rt : Option FieldType} {mn : String}
theorem gf_X10_29 {a r : Nat} (C : Cx X p s m args meth c RX10 cc nL rt mn) (hW : Wx X h H) (ha : hK h a = 10) (hr : hR h a 5 = some r) (hdg : decode cc pc = .ok (.getfield 29, 3)) (kk : hK h r = 18 → W p l e R s m args below meth c H locs cells slots Q (F0 m (pc + 3) ls (.ref r :: rest))) : W p l e R s m args below meth c H locs cells slots Q (F0 m pc ls (.ref a :: rest)) :=
  y_getr C hW ha i_X10 (by decide) rfl (by decide) m_233 rfl rfl hr hdg kk
end
theorem dX10_layAround_0 : decode cX10_layAround 0 = .ok (.iconst 0, 1) := by decide +kernel
theorem dX10_layAround_1 : decode cX10_layAround 1 = .ok (.istore_n 1, 1) := by decide +kernel
theorem dX10_layAround_2 : decode cX10_layAround 2 = .ok (.iload_n 1, 1) := by decide +kernel
theorem dX10_layAround_3 : decode cX10_layAround 3 = .ok (.aload_n 0, 1) := by decide +kernel
theorem dX10_layAround_4 : decode cX10_layAround 4 = .ok (.getfield 35, 3) := by decide +kernel
theorem dX10_layAround_7 : decode cX10_layAround 7 = .ok (.getfield 76, 3) := by decide +kernel
theorem dX10_layAround_10 : decode cX10_layAround 10 = .ok (.if_icmp .ge 105, 3) := by decide +kernel
theorem dX10_layAround_13 : decode cX10_layAround 13 = .ok (.lconst 0, 1) := by decide +kernel
theorem dX10_layAround_14 : decode cX10_layAround 14 = .ok (.lstore_n 2, 1) := by decide +kernel
theorem dX10_layAround_15 : decode cX10_layAround 15 = .ok (.iconst 0, 1) := by decide +kernel
theorem dX10_layAround_16 : decode cX10_layAround 16 = .ok (.istore 4, 2) := by decide +kernel
theorem dX10_layAround_18 : decode cX10_layAround 18 = .ok (.iload 4, 2) := by decide +kernel
theorem dX10_layAround_20 : decode cX10_layAround 20 = .ok (.bipush 9, 2) := by decide +kernel
theorem dX10_layAround_22 : decode cX10_layAround 22 = .ok (.if_icmp .ge 80, 3) := by decide +kernel
theorem dX10_layAround_25 : decode cX10_layAround 25 = .ok (.aload_n 0, 1) := by decide +kernel
theorem dX10_layAround_26 : decode cX10_layAround 26 = .ok (.getfield 35, 3) := by decide +kernel
theorem dX10_layAround_29 : decode cX10_layAround 29 = .ok (.getfield 103, 3) := by decide +kernel
theorem dX10_layAround_32 : decode cX10_layAround 32 = .ok (.iload_n 1, 1) := by decide +kernel
theorem dX10_layAround_33 : decode cX10_layAround 33 = .ok (.iaload, 1) := by decide +kernel
theorem dX10_layAround_34 : decode cX10_layAround 34 = .ok (.iload 4, 2) := by decide +kernel
theorem dX10_layAround_36 : decode cX10_layAround 36 = .ok (.iconst 3, 1) := by decide +kernel
theorem dX10_layAround_37 : decode cX10_layAround 37 = .ok (.irem, 1) := by decide +kernel
theorem dX10_layAround_38 : decode cX10_layAround 38 = .ok (.iadd, 1) := by decide +kernel
theorem dX10_layAround_39 : decode cX10_layAround 39 = .ok (.iconst 1, 1) := by decide +kernel
theorem dX10_layAround_40 : decode cX10_layAround 40 = .ok (.isub, 1) := by decide +kernel
theorem dX10_layAround_41 : decode cX10_layAround 41 = .ok (.istore 5, 2) := by decide +kernel
theorem dX10_layAround_43 : decode cX10_layAround 43 = .ok (.aload_n 0, 1) := by decide +kernel
theorem dX10_layAround_44 : decode cX10_layAround 44 = .ok (.getfield 35, 3) := by decide +kernel
theorem dX10_layAround_47 : decode cX10_layAround 47 = .ok (.getfield 93, 3) := by decide +kernel
theorem dX10_layAround_50 : decode cX10_layAround 50 = .ok (.iload_n 1, 1) := by decide +kernel
theorem dX10_layAround_51 : decode cX10_layAround 51 = .ok (.iaload, 1) := by decide +kernel
theorem dX10_layAround_52 : decode cX10_layAround 52 = .ok (.iload 4, 2) := by decide +kernel
theorem dX10_layAround_54 : decode cX10_layAround 54 = .ok (.iconst 3, 1) := by decide +kernel
theorem dX10_layAround_55 : decode cX10_layAround 55 = .ok (.idiv, 1) := by decide +kernel
theorem dX10_layAround_56 : decode cX10_layAround 56 = .ok (.iadd, 1) := by decide +kernel
theorem dX10_layAround_57 : decode cX10_layAround 57 = .ok (.iconst 1, 1) := by decide +kernel
theorem dX10_layAround_58 : decode cX10_layAround 58 = .ok (.isub, 1) := by decide +kernel
theorem dX10_layAround_59 : decode cX10_layAround 59 = .ok (.istore 6, 2) := by decide +kernel
theorem dX10_layAround_61 : decode cX10_layAround 61 = .ok (.iload 4, 2) := by decide +kernel
theorem dX10_layAround_63 : decode cX10_layAround 63 = .ok (.iconst 4, 1) := by decide +kernel
theorem dX10_layAround_64 : decode cX10_layAround 64 = .ok (.if_icmp .eq 32, 3) := by decide +kernel
theorem dX10_layAround_67 : decode cX10_layAround 67 = .ok (.aload_n 0, 1) := by decide +kernel
theorem dX10_layAround_68 : decode cX10_layAround 68 = .ok (.iload 5, 2) := by decide +kernel
theorem dX10_layAround_70 : decode cX10_layAround 70 = .ok (.iload 6, 2) := by decide +kernel
theorem dX10_layAround_72 : decode cX10_layAround 72 = .ok (.invokevirtual 106, 3) := by decide +kernel
theorem dX10_layAround_75 : decode cX10_layAround 75 = .ok (.ifCond .eq 21, 3) := by decide +kernel
theorem dX10_layAround_78 : decode cX10_layAround 78 = .ok (.lload_n 2, 1) := by decide +kernel
theorem dX10_layAround_79 : decode cX10_layAround 79 = .ok (.lconst 1, 1) := by decide +kernel
theorem dX10_layAround_80 : decode cX10_layAround 80 = .ok (.iload 6, 2) := by decide +kernel
theorem dX10_layAround_82 : decode cX10_layAround 82 = .ok (.aload_n 0, 1) := by decide +kernel
theorem dX10_layAround_83 : decode cX10_layAround 83 = .ok (.getfield 35, 3) := by decide +kernel
theorem dX10_layAround_86 : decode cX10_layAround 86 = .ok (.getfield 110, 3) := by decide +kernel
theorem dX10_layAround_89 : decode cX10_layAround 89 = .ok (.imul, 1) := by decide +kernel
theorem dX10_layAround_90 : decode cX10_layAround 90 = .ok (.iload 5, 2) := by decide +kernel
theorem dX10_layAround_92 : decode cX10_layAround 92 = .ok (.iadd, 1) := by decide +kernel
theorem dX10_layAround_93 : decode cX10_layAround 93 = .ok (.lshl, 1) := by decide +kernel
theorem dX10_layAround_94 : decode cX10_layAround 94 = .ok (.lor, 1) := by decide +kernel
theorem dX10_layAround_95 : decode cX10_layAround 95 = .ok (.lstore_n 2, 1) := by decide +kernel
theorem dX10_layAround_96 : decode cX10_layAround 96 = .ok (.iinc 4 1, 3) := by decide +kernel
theorem dX10_layAround_99 : decode cX10_layAround 99 = .ok (.goto (-81), 3) := by decide +kernel
theorem dX10_layAround_102 : decode cX10_layAround 102 = .ok (.aload_n 0, 1) := by decide +kernel
theorem dX10_layAround_103 : decode cX10_layAround 103 = .ok (.getfield 29, 3) := by decide +kernel
theorem dX10_layAround_106 : decode cX10_layAround 106 = .ok (.iload_n 1, 1) := by decide +kernel
theorem dX10_layAround_107 : decode cX10_layAround 107 = .ok (.lload_n 2, 1) := by decide +kernel
theorem dX10_layAround_108 : decode cX10_layAround 108 = .ok (.lastore, 1) := by decide +kernel
theorem dX10_layAround_109 : decode cX10_layAround 109 = .ok (.iinc 1 1, 3) := by decide +kernel
theorem dX10_layAround_112 : decode cX10_layAround 112 = .ok (.goto (-110), 3) := by decide +kernel
theorem dX10_layAround_115 : decode cX10_layAround 115 = .ok (.return_, 1) := by decide +kernel
def sX10_layAround_96 (F : Nat) (k_2 : Hp → Nat → Int32 → Option (Hp)) (k_18 : Hp → Nat → Int32 → Int64 → Int32 → Option (Hp)) (h : Hp) (x0 : Nat) (x1 : Int32) (x2 : Int64) (x4 : Int32) : Option (Hp) := nm (x4 + (1 : Int32)) fun v_1 => k_18 h x0 x1 x2 v_1
def sX10_layAround_18 (F : Nat) (k_2 : Hp → Nat → Int32 → Option (Hp)) : Nat → Hp → Nat → Int32 → Int64 → Int32 → Option (Hp)
  | 0, _, _, _, _, _ => none
  | f + 1, h, x0, x1, x2, x4 => br ((9 : Int32) ≤ x4) (cl (hR h x0 5) fun r_2 => gd (inB x1 (hN h r_2)) <| nm (wJ h r_2 x1.toNatClampNeg x2) fun h_4 => nm (x1 + (1 : Int32)) fun v_5 => k_2 h_4 x0 v_5) (cl (hR h x0 7) fun r_6 => cl (hR h r_6 19) fun r_7 => gd (inB x1 (hN h r_7)) <| nm (((hI h r_7 x1.toNatClampNeg) + (x4 - x4 / (3 : Int32) * (3 : Int32))) - (1 : Int32)) fun v_9 => cl (hR h x0 7) fun r_10 => cl (hR h r_10 20) fun r_11 => gd (inB x1 (hN h r_11)) <| nm (((hI h r_11 x1.toNatClampNeg) + (x4 / (3 : Int32))) - (1 : Int32)) fun v_13 => br (x4 = (4 : Int32)) (sX10_layAround_96 F k_2 (sX10_layAround_18 F k_2 f) h x0 x1 x2 x4) (cl (sX10_isOn h x0 v_9 v_13) fun o_15 => br (o_15.1 = 0) (sX10_layAround_96 F k_2 (sX10_layAround_18 F k_2 f) o_15.2 x0 x1 x2 x4) (cl (hR o_15.2 x0 7) fun r_17 => nm (x2 ||| ((1 : Int64) <<< (((v_13 * (hI o_15.2 r_17 0)) + v_9).toInt64 &&& 63))) fun v_18 => sX10_layAround_96 F k_2 (sX10_layAround_18 F k_2 f) o_15.2 x0 x1 v_18 x4)))
def sX10_layAround_2 (F : Nat) : Nat → Hp → Nat → Int32 → Option (Hp)
  | 0, _, _, _ => none
  | f + 1, h, x0, x1 => cl (hR h x0 7) fun r_1 => br ((hI h r_1 2) ≤ x1) (some h) (sX10_layAround_18 F (sX10_layAround_2 F f) F h x0 x1 (0 : Int64) (0 : Int32))
def sX10_layAround (F : Nat) (h : Hp) (x0 : Nat) : Option (Hp) := sX10_layAround_2 F F h x0 (0 : Int32)
theorem moX10_layAround_96 {o : Hp} {k_2 : Hp → Nat → Int32 → Option (Hp)} {k_18 : Hp → Nat → Int32 → Int64 → Int32 → Option (Hp)} {F : Nat} (mk_2 : ∀ (h : Hp) (x0 : Nat) (x1 : Int32), k_2 h x0 x1 = some o → Le h o) (mk_18 : ∀ (h : Hp) (x0 : Nat) (x1 : Int32) (x2 : Int64) (x4 : Int32), k_18 h x0 x1 x2 x4 = some o → Le h o) {h : Hp} {x0 : Nat} {x1 : Int32} {x2 : Int64} {x4 : Int32} (hE : sX10_layAround_96 F k_2 k_18 h x0 x1 x2 x4 = some o) : Le h o := by
  obtain ⟨v_1, ev_1, hE⟩ := nm_e2 hE
  exact mk_18 _ _ _ _ _ hE
theorem moX10_layAround_18 {o : Hp} {k_2 : Hp → Nat → Int32 → Option (Hp)} {F : Nat} (mk_2 : ∀ (h : Hp) (x0 : Nat) (x1 : Int32), k_2 h x0 x1 = some o → Le h o) : ∀ (f : Nat) {h : Hp} {x0 : Nat} {x1 : Int32} {x2 : Int64} {x4 : Int32}, sX10_layAround_18 F k_2 f h x0 x1 x2 x4 = some o → Le h o := by
  intro f
  induction f with
  | zero =>
    intro h x0 x1 x2 x4 hE
    rw [sX10_layAround_18] at hE
    cases hE
  | succ f ih =>
    intro h x0 x1 x2 x4 hE
    rw [sX10_layAround_18] at hE
    have mk_18 : ∀ (h : Hp) (x0 : Nat) (x1 : Int32) (x2 : Int64) (x4 : Int32), sX10_layAround_18 F k_2 f h x0 x1 x2 x4 = some o → Le h o := fun h x0 x1 x2 x4 hE => ih hE
    rcases br_e hE with ⟨_, hE⟩ | ⟨_, hE⟩
    · obtain ⟨r_2, er_2, hE⟩ := cl_e hE
      obtain ⟨g_3, hE⟩ := gd_e hE
      obtain ⟨h_4, eh_4, hE⟩ := nm_e2 hE
      refine (le_J eh_4).tr ?_
      obtain ⟨v_5, ev_5, hE⟩ := nm_e2 hE
      exact mk_2 _ _ _ hE
    · obtain ⟨r_6, er_6, hE⟩ := cl_e hE
      obtain ⟨r_7, er_7, hE⟩ := cl_e hE
      obtain ⟨g_8, hE⟩ := gd_e hE
      obtain ⟨v_9, ev_9, hE⟩ := nm_e2 hE
      obtain ⟨r_10, er_10, hE⟩ := cl_e hE
      obtain ⟨r_11, er_11, hE⟩ := cl_e hE
      obtain ⟨g_12, hE⟩ := gd_e hE
      obtain ⟨v_13, ev_13, hE⟩ := nm_e2 hE
      rcases br_e hE with ⟨_, hE⟩ | ⟨_, hE⟩
      · exact moX10_layAround_96 mk_2 mk_18 hE
      · obtain ⟨o_15, eo_15, hE⟩ := cl_e hE
        refine (moX10_isOn eo_15).tr ?_
        rcases br_e hE with ⟨_, hE⟩ | ⟨_, hE⟩
        · exact moX10_layAround_96 mk_2 mk_18 hE
        · obtain ⟨r_17, er_17, hE⟩ := cl_e hE
          obtain ⟨v_18, ev_18, hE⟩ := nm_e2 hE
          exact moX10_layAround_96 mk_2 mk_18 hE
theorem moX10_layAround_2 {o : Hp} {F : Nat} : ∀ (f : Nat) {h : Hp} {x0 : Nat} {x1 : Int32}, sX10_layAround_2 F f h x0 x1 = some o → Le h o := by
  intro f
  induction f with
  | zero =>
    intro h x0 x1 hE
    rw [sX10_layAround_2] at hE
    cases hE
  | succ f ih =>
    intro h x0 x1 hE
    rw [sX10_layAround_2] at hE
    have mk_2 : ∀ (h : Hp) (x0 : Nat) (x1 : Int32), sX10_layAround_2 F f h x0 x1 = some o → Le h o := fun h x0 x1 hE => ih hE
    obtain ⟨r_1, er_1, hE⟩ := cl_e hE
    rcases br_e hE with ⟨_, hE⟩ | ⟨_, hE⟩
    · cases hE
      exact Le.rf _
    · exact moX10_layAround_18 mk_2 _ hE
theorem moX10_layAround {o : Hp} {F : Nat} {h : Hp} {x0 : Nat} (hE : sX10_layAround F h x0 = some o) : Le h o := by
  exact moX10_layAround_2 _ hE
set_option maxRecDepth 20000 in
theorem bX10_layAround_96 {p : Program} {l : Launch} {e : Env} {s : State} {m : MethodId} {args : Array Value} {below : List Frame} {meth : Method} {c : Code} {X : Ec} {h0 : Hp} {o : Hp} {k_2 : Hp → Nat → Int32 → Option (Hp)} {k_18 : Hp → Nat → Int32 → Int64 → Int32 → Option (Hp)} {F : Nat} (C : Cx X p s m args meth c RX10 cX10_layAround 7 none "layAround") (hk_2 : ∀ (h : Hp) (x0 : Nat) (x1 : Int32) (H : Heap) (locs : List Loc), hK h x0 = 10 → Km h0 h → Wx X h H → va_S (aA (eB X)) s.heap H locs → ∀ (ls : Array Slot), lv_has ls 7 [(0, .ref x0), (1, .int x1)] → k_2 h x0 x1 = some o → W p l e (rm 1 22) s m args below meth c H locs 0 0 (MQ below (QV X h0 o) args s 0 0 (aA (eB X))) (F0 m 2 ls [])) (hk_18 : ∀ (h : Hp) (x0 : Nat) (x1 : Int32) (x2 : Int64) (x4 : Int32) (H : Heap) (locs : List Loc), hK h x0 = 10 → Km h0 h → Wx X h H → va_S (aA (eB X)) s.heap H locs → ∀ (ls : Array Slot), lv_has ls 7 [(0, .ref x0), (1, .int x1), (2, .long x2), (4, .int x4)] → k_18 h x0 x1 x2 x4 = some o → W p l e (rm 1 22) s m args below meth c H locs 0 0 (MQ below (QV X h0 o) args s 0 0 (aA (eB X))) (F0 m 18 ls [])) {h : Hp} {x0 : Nat} {x1 : Int32} {x2 : Int64} {x4 : Int32} {H : Heap} {locs : List Loc} (k_x0 : hK h x0 = 10) (hkm : Km h0 h) (hW : Wx X h H) (hZ : va_S (aA (eB X)) s.heap H locs) (ls : Array Slot) (hl : lv_has ls 7 [(0, .ref x0), (1, .int x1), (2, .long x2), (4, .int x4)]) (hE : sX10_layAround_96 F k_2 k_18 h x0 x1 x2 x4 = some o) : W p l e (rm 1 22) s m args below meth c H locs 0 0 (MQ below (QV X h0 o) args s 0 0 (aA (eB X))) (F0 m 96 ls []) := by
  obtain ⟨v_1, ev_1, hE⟩ := nm_e2 hE
  refine lv_iinc (v := v_1) (lv' := [(4, .int v_1), (0, .ref x0), (1, .int x1), (2, .long x2)]) C.1 C.2.1 dX10_layAround_96 hl (k := 3) rfl (by rw [ev_1]; rfl) (by decide) rfl (fun ls hl => ?_)
  refine lv_goto (tgt := 18) C.1 C.2.1 dX10_layAround_99 (by decide) ?_
  exact hk_18 _ _ _ _ _ _ _ k_x0 hkm hW hZ _ (lv_sub hl [1, 2, 3, 0] rfl) hE
set_option maxRecDepth 20000 in
theorem bX10_layAround_18 {p : Program} {l : Launch} {e : Env} {s : State} {m : MethodId} {args : Array Value} {below : List Frame} {meth : Method} {c : Code} {X : Ec} {h0 : Hp} {o : Hp} {k_2 : Hp → Nat → Int32 → Option (Hp)} {F : Nat} (C : Cx X p s m args meth c RX10 cX10_layAround 7 none "layAround") (hk_2 : ∀ (h : Hp) (x0 : Nat) (x1 : Int32) (H : Heap) (locs : List Loc), hK h x0 = 10 → Km h0 h → Wx X h H → va_S (aA (eB X)) s.heap H locs → ∀ (ls : Array Slot), lv_has ls 7 [(0, .ref x0), (1, .int x1)] → k_2 h x0 x1 = some o → W p l e (rm 1 22) s m args below meth c H locs 0 0 (MQ below (QV X h0 o) args s 0 0 (aA (eB X))) (F0 m 2 ls [])) : ∀ (f : Nat) {h : Hp} {x0 : Nat} {x1 : Int32} {x2 : Int64} {x4 : Int32} {H : Heap} {locs : List Loc} (k_x0 : hK h x0 = 10), Km h0 h → Wx X h H → va_S (aA (eB X)) s.heap H locs → ∀ (ls : Array Slot), lv_has ls 7 [(0, .ref x0), (1, .int x1), (2, .long x2), (4, .int x4)] → sX10_layAround_18 F k_2 f h x0 x1 x2 x4 = some o → W p l e (rm 1 22) s m args below meth c H locs 0 0 (MQ below (QV X h0 o) args s 0 0 (aA (eB X))) (F0 m 18 ls []) := by
  intro f
  induction f with
  | zero =>
    intro h x0 x1 x2 x4 H locs k_x0 hkm hW hZ ls hl hE
    rw [sX10_layAround_18] at hE
    cases hE
  | succ f ih =>
    intro h x0 x1 x2 x4 H locs k_x0 hkm hW hZ ls hl hE
    rw [sX10_layAround_18] at hE
    have hk_18 : ∀ (h : Hp) (x0 : Nat) (x1 : Int32) (x2 : Int64) (x4 : Int32) (H : Heap) (locs : List Loc), hK h x0 = 10 → Km h0 h → Wx X h H → va_S (aA (eB X)) s.heap H locs → ∀ (ls : Array Slot), lv_has ls 7 [(0, .ref x0), (1, .int x1), (2, .long x2), (4, .int x4)] → sX10_layAround_18 F k_2 f h x0 x1 x2 x4 = some o → W p l e (rm 1 22) s m args below meth c H locs 0 0 (MQ below (QV X h0 o) args s 0 0 (aA (eB X))) (F0 m 18 ls []) := fun h x0 x1 x2 x4 H locs k_x0 a b c ls hl hE => ih k_x0 a b c ls hl hE
    refine lv_iload C.1 C.2.1 dX10_layAround_18 (lv_at hl 3 rfl) ?_
    refine lv_bipush (v := (9 : Int32)) C.1 C.2.1 dX10_layAround_20 (by decide) ?_
    refine lv_icmp_ge (tgt := 102) C.1 C.2.1 dX10_layAround_22 (by decide) (fun c_1 => ?_) (fun c_1 => ?_)
    · have hE := br_p hE c_1
      refine lv_aload_n C.1 C.2.1 dX10_layAround_102 rfl (lv_at hl 0 rfl) ?_
      obtain ⟨r_2, er_2, hE⟩ := cl_e hE
      refine gf_X10_29 C hW k_x0 er_2 dX10_layAround_103 (fun k_r_2 => ?_)
      refine lv_iload_n C.1 C.2.1 dX10_layAround_106 rfl (lv_at hl 1 rfl) ?_
      refine lv_lload_n C.1 C.2.1 dX10_layAround_107 rfl (lv_at hl 2 rfl) ?_
      obtain ⟨g_3, hE⟩ := gd_e hE
      obtain ⟨h_4, eh_4, hE⟩ := nm_e2 hE
      refine y_last C hW hZ k_r_2 g_3 eh_4 dX10_layAround_108 (fun _ _ hW km hZ => ?_)
      replace hkm := hkm.tr km
      replace k_x0 := km.at k_x0 (by decide)
      obtain ⟨v_5, ev_5, hE⟩ := nm_e2 hE
      refine lv_iinc (v := v_5) (lv' := [(1, .int v_5), (0, .ref x0), (2, .long x2), (4, .int x4)]) C.1 C.2.1 dX10_layAround_109 hl (k := 1) rfl (by rw [ev_5]; rfl) (by decide) rfl (fun ls hl => ?_)
      refine lv_goto (tgt := 2) C.1 C.2.1 dX10_layAround_112 (by decide) ?_
      exact hk_2 _ _ _ _ _ k_x0 hkm hW hZ _ (lv_sub hl [1, 0] rfl) hE
    · have hE := br_n hE c_1
      refine lv_aload_n C.1 C.2.1 dX10_layAround_25 rfl (lv_at hl 0 rfl) ?_
      obtain ⟨r_6, er_6, hE⟩ := cl_e hE
      refine gf_X10_35 C hW k_x0 er_6 dX10_layAround_26 (fun k_r_6 => ?_)
      obtain ⟨r_7, er_7, hE⟩ := cl_e hE
      refine gf_X10_103 C hW k_r_6 er_7 dX10_layAround_29 (fun k_r_7 => ?_)
      refine lv_iload_n C.1 C.2.1 dX10_layAround_32 rfl (lv_at hl 1 rfl) ?_
      obtain ⟨g_8, hE⟩ := gd_e hE
      refine y_iald C hW k_r_7 g_8 dX10_layAround_33 ?_
      refine lv_iload C.1 C.2.1 dX10_layAround_34 (lv_at hl 3 rfl) ?_
      refine lv_iconst (v := (3 : Int32)) C.1 C.2.1 dX10_layAround_36 (by decide) ?_
      refine lv_irem C.1 C.2.1 dX10_layAround_37 (by decide) ?_
      refine lv_iadd C.1 C.2.1 dX10_layAround_38 ?_
      refine lv_iconst (v := (1 : Int32)) C.1 C.2.1 dX10_layAround_39 (by decide) ?_
      refine lv_isub C.1 C.2.1 dX10_layAround_40 ?_
      obtain ⟨v_9, ev_9, hE⟩ := nm_e2 hE
      refine x_nmI ev_9 ?_
      refine lv_istore (lv' := [(5, .int v_9), (0, .ref x0), (1, .int x1), (2, .long x2), (4, .int x4)]) C.1 C.2.1 dX10_layAround_41 hl (by decide) rfl (fun ls hl => ?_)
      refine lv_aload_n C.1 C.2.1 dX10_layAround_43 rfl (lv_at hl 1 rfl) ?_
      obtain ⟨r_10, er_10, hE⟩ := cl_e hE
      refine gf_X10_35 C hW k_x0 er_10 dX10_layAround_44 (fun k_r_10 => ?_)
      obtain ⟨r_11, er_11, hE⟩ := cl_e hE
      refine gf_X10_93 C hW k_r_10 er_11 dX10_layAround_47 (fun k_r_11 => ?_)
      refine lv_iload_n C.1 C.2.1 dX10_layAround_50 rfl (lv_at hl 2 rfl) ?_
      obtain ⟨g_12, hE⟩ := gd_e hE
      refine y_iald C hW k_r_11 g_12 dX10_layAround_51 ?_
      refine lv_iload C.1 C.2.1 dX10_layAround_52 (lv_at hl 4 rfl) ?_
      refine lv_iconst (v := (3 : Int32)) C.1 C.2.1 dX10_layAround_54 (by decide) ?_
      refine lv_idiv C.1 C.2.1 dX10_layAround_55 (by decide) ?_
      refine lv_iadd C.1 C.2.1 dX10_layAround_56 ?_
      refine lv_iconst (v := (1 : Int32)) C.1 C.2.1 dX10_layAround_57 (by decide) ?_
      refine lv_isub C.1 C.2.1 dX10_layAround_58 ?_
      obtain ⟨v_13, ev_13, hE⟩ := nm_e2 hE
      refine x_nmI ev_13 ?_
      refine lv_istore (lv' := [(6, .int v_13), (5, .int v_9), (0, .ref x0), (1, .int x1), (2, .long x2), (4, .int x4)]) C.1 C.2.1 dX10_layAround_59 hl (by decide) rfl (fun ls hl => ?_)
      refine lv_iload C.1 C.2.1 dX10_layAround_61 (lv_at hl 5 rfl) ?_
      refine lv_iconst (v := (4 : Int32)) C.1 C.2.1 dX10_layAround_63 (by decide) ?_
      refine lv_icmp_eq (tgt := 96) C.1 C.2.1 dX10_layAround_64 (by decide) (fun c_14 => ?_) (fun c_14 => ?_)
      · have hE := br_p hE c_14
        exact bX10_layAround_96 C hk_2 hk_18 k_x0 hkm hW hZ _ (lv_sub hl [2, 3, 4, 5] rfl) hE
      · have hE := br_n hE c_14
        refine lv_aload_n C.1 C.2.1 dX10_layAround_67 rfl (lv_at hl 2 rfl) ?_
        refine lv_iload C.1 C.2.1 dX10_layAround_68 (lv_at hl 1 rfl) ?_
        refine lv_iload C.1 C.2.1 dX10_layAround_70 (lv_at hl 0 rfl) ?_
        obtain ⟨o_15, eo_15, hE⟩ := cl_e hE
        refine x_kI (o := o_15) (z_runV (As := [.int v_9, .int v_13]) (rest := []) C (ct_X10_isOn l X k_x0 eo_15) cw_X10_106 hW hZ k_x0 (by decide) rfl rfl rfl hl.1 (Nat.le_of_ble_eq_true rfl) rfl dX10_layAround_72 ⟨Nat.le_of_ble_eq_true rfl, Nat.le_of_ble_eq_true rfl⟩ ⟨Nat.le_refl _, Nat.le_refl _⟩) hZ (fun _ _ hW km hZ => ?_)
        replace hkm := hkm.tr km
        replace k_x0 := km.at k_x0 (by decide)
        refine lv_if_eq (tgt := 96) C.1 C.2.1 dX10_layAround_75 (by decide) (fun c_16 => ?_) (fun c_16 => ?_)
        · have hE := br_p hE c_16
          exact bX10_layAround_96 C hk_2 hk_18 k_x0 hkm hW hZ _ (lv_sub hl [2, 3, 4, 5] rfl) hE
        · have hE := br_n hE c_16
          refine lv_lload_n C.1 C.2.1 dX10_layAround_78 rfl (lv_at hl 4 rfl) ?_
          refine lv_lconst (v := (1 : Int64)) C.1 C.2.1 dX10_layAround_79 (by decide) ?_
          refine lv_iload C.1 C.2.1 dX10_layAround_80 (lv_at hl 0 rfl) ?_
          refine lv_aload_n C.1 C.2.1 dX10_layAround_82 rfl (lv_at hl 2 rfl) ?_
          obtain ⟨r_17, er_17, hE⟩ := cl_e hE
          refine gf_X10_35 C hW k_x0 er_17 dX10_layAround_83 (fun k_r_17 => ?_)
          refine gf_X10_110 C hW k_r_17 dX10_layAround_86 ?_
          refine lv_imul C.1 C.2.1 dX10_layAround_89 ?_
          refine lv_iload C.1 C.2.1 dX10_layAround_90 (lv_at hl 1 rfl) ?_
          refine lv_iadd C.1 C.2.1 dX10_layAround_92 ?_
          refine lv_lshl C.1 C.2.1 dX10_layAround_93 rfl ?_
          refine lv_lor C.1 C.2.1 dX10_layAround_94 ?_
          obtain ⟨v_18, ev_18, hE⟩ := nm_e2 hE
          refine x_nmJ ev_18 ?_
          refine lv_lstore_n (lv' := [(2, .long v_18), (6, .int v_13), (5, .int v_9), (0, .ref x0), (1, .int x1), (4, .int x4)]) C.1 C.2.1 dX10_layAround_95 rfl hl (by decide) rfl (fun ls hl => ?_)
          exact bX10_layAround_96 C hk_2 hk_18 k_x0 hkm hW hZ _ (lv_sub hl [3, 4, 0, 5] rfl) hE
set_option maxRecDepth 20000 in
theorem bX10_layAround_2 {p : Program} {l : Launch} {e : Env} {s : State} {m : MethodId} {args : Array Value} {below : List Frame} {meth : Method} {c : Code} {X : Ec} {h0 : Hp} {o : Hp} {F : Nat} (C : Cx X p s m args meth c RX10 cX10_layAround 7 none "layAround") : ∀ (f : Nat) {h : Hp} {x0 : Nat} {x1 : Int32} {H : Heap} {locs : List Loc} (k_x0 : hK h x0 = 10), Km h0 h → Wx X h H → va_S (aA (eB X)) s.heap H locs → ∀ (ls : Array Slot), lv_has ls 7 [(0, .ref x0), (1, .int x1)] → sX10_layAround_2 F f h x0 x1 = some o → W p l e (rm 1 22) s m args below meth c H locs 0 0 (MQ below (QV X h0 o) args s 0 0 (aA (eB X))) (F0 m 2 ls []) := by
  intro f
  induction f with
  | zero =>
    intro h x0 x1 H locs k_x0 hkm hW hZ ls hl hE
    rw [sX10_layAround_2] at hE
    cases hE
  | succ f ih =>
    intro h x0 x1 H locs k_x0 hkm hW hZ ls hl hE
    rw [sX10_layAround_2] at hE
    have hk_2 : ∀ (h : Hp) (x0 : Nat) (x1 : Int32) (H : Heap) (locs : List Loc), hK h x0 = 10 → Km h0 h → Wx X h H → va_S (aA (eB X)) s.heap H locs → ∀ (ls : Array Slot), lv_has ls 7 [(0, .ref x0), (1, .int x1)] → sX10_layAround_2 F f h x0 x1 = some o → W p l e (rm 1 22) s m args below meth c H locs 0 0 (MQ below (QV X h0 o) args s 0 0 (aA (eB X))) (F0 m 2 ls []) := fun h x0 x1 H locs k_x0 a b c ls hl hE => ih k_x0 a b c ls hl hE
    refine lv_iload_n C.1 C.2.1 dX10_layAround_2 rfl (lv_at hl 1 rfl) ?_
    refine lv_aload_n C.1 C.2.1 dX10_layAround_3 rfl (lv_at hl 0 rfl) ?_
    obtain ⟨r_1, er_1, hE⟩ := cl_e hE
    refine gf_X10_35 C hW k_x0 er_1 dX10_layAround_4 (fun k_r_1 => ?_)
    refine gf_X10_76 C hW k_r_1 dX10_layAround_7 ?_
    refine lv_icmp_ge (tgt := 115) C.1 C.2.1 dX10_layAround_10 (by decide) (fun c_2 => ?_) (fun c_2 => ?_)
    · have hE := br_p hE c_2
      exact x_vret C rfl hW hZ hkm hE dX10_layAround_115
    · have hE := br_n hE c_2
      refine lv_lconst (v := (0 : Int64)) C.1 C.2.1 dX10_layAround_13 (by decide) ?_
      refine lv_lstore_n (lv' := [(2, .long (0 : Int64)), (0, .ref x0), (1, .int x1)]) C.1 C.2.1 dX10_layAround_14 rfl hl (by decide) rfl (fun ls hl => ?_)
      refine lv_iconst (v := (0 : Int32)) C.1 C.2.1 dX10_layAround_15 (by decide) ?_
      refine lv_istore (lv' := [(4, .int (0 : Int32)), (2, .long (0 : Int64)), (0, .ref x0), (1, .int x1)]) C.1 C.2.1 dX10_layAround_16 hl (by decide) rfl (fun ls hl => ?_)
      exact bX10_layAround_18 C hk_2 F k_x0 hkm hW hZ _ (lv_sub hl [2, 3, 1, 0] rfl) hE
set_option maxRecDepth 20000 in
theorem ct_X10_layAround (l : Launch) (X : Ec) (F : Nat) {h : Hp} {x0 : Nat} {o : Hp} (k_x0 : hK h x0 = 10) (hE : sX10_layAround F h x0 = some o) : MetV l yX10_layAround cX10_layAround 7 none 1 22 X [.ref x0] h o := by
  refine x_met (by decide) (Nat.le_of_ble_eq_true rfl) ?_
  intro p e s m below meth c ls C hl hW hZ
  have hl : lv_has ls 7 [(0, .ref x0)] := hl
  have hkm : Km h h := Km.rf h
  refine lv_iconst (v := (0 : Int32)) C.1 C.2.1 dX10_layAround_0 (by decide) ?_
  refine lv_istore_n (lv' := [(1, .int (0 : Int32)), (0, .ref x0)]) C.1 C.2.1 dX10_layAround_1 rfl hl (by decide) rfl (fun ls hl => ?_)
  exact bX10_layAround_2 C F k_x0 hkm hW hZ _ (lv_sub hl [1, 0] rfl) hE
theorem ms_27 : Cond.selects RX10 yX10_layAround yX10_layAround ∈ W0 := w0_in (List.mem_append_left _ (List.mem_of_getElem? (i := 27) (by decide +kernel))) rfl
theorem ms_22 : Cond.selects RX10 yX10_layFrom yX10_layFrom ∈ W0 := w0_in (List.mem_append_left _ (List.mem_of_getElem? (i := 22) (by decide +kernel))) rfl
theorem m_78 : Cond.fieldLink RX10 49 (TX1 3).1 (TX1 3).2.1 (TX1 3).2.2.1 ∈ W0 := w0_in (List.mem_append_right _ (List.mem_of_getElem? (i := 78) (by decide +kernel))) rfl
theorem m_794 : Cond.methodLink RX10 43 yJ7_fill_d0a16 ∈ W0 := w0_in (List.mem_append_right _ (List.mem_of_getElem? (i := 794) (by decide +kernel))) rfl
theorem m_797 : Cond.methodLink RX10 54 yX10_layFrom ∈ W0 := w0_in (List.mem_append_right _ (List.mem_of_getElem? (i := 797) (by decide +kernel))) rfl
theorem m_799 : Cond.instanceMethod yX10_layFrom ∈ W0 := w0_in (List.mem_append_right _ (List.mem_of_getElem? (i := 799) (by decide +kernel))) rfl
theorem m_800 : Cond.code yX10_layFrom cX10_layFrom 9 none ∈ W0 := w0_in (List.mem_append_right _ (List.mem_of_getElem? (i := 800) (by decide +kernel))) rfl
theorem m_844 : Cond.methodLink RX10 58 yX10_layAround ∈ W0 := w0_in (List.mem_append_right _ (List.mem_of_getElem? (i := 844) (by decide +kernel))) rfl
theorem m_846 : Cond.instanceMethod yX10_layAround ∈ W0 := w0_in (List.mem_append_right _ (List.mem_of_getElem? (i := 846) (by decide +kernel))) rfl
theorem m_847 : Cond.code yX10_layAround cX10_layAround 7 none ∈ W0 := w0_in (List.mem_append_right _ (List.mem_of_getElem? (i := 847) (by decide +kernel))) rfl
section
variable {p : Program} {l : Launch} {e : Env} {R : Room} {s : State} {m : MethodId} {args : Array Value} {below : List Frame} {meth : Method} {c : Code} {H : Heap} {locs : List Loc} {cells slots : Nat} {Q : State → Prop}
variable {cc : ByteArray} {pc : Nat} {ls : Array Slot} {rest : List Value} {X : Ec} {h h1 : Hp} {nL : Nat} {rt : Option FieldType} {mn : String}
theorem gf_X10_49 {a : Nat} (C : Cx X p s m args meth c RX10 cc nL rt mn) (hW : Wx X h H) (ha : hK h a = 1) (hdg : decode cc pc = .ok (.getfield 49, 3)) (kk : W p l e R s m args below meth c H locs cells slots Q (F0 m (pc + 3) ls (.int (hI h a 3) :: rest))) : W p l e R s m args below meth c H locs cells slots Q (F0 m pc ls (.ref a :: rest)) :=
  y_geti C hW ha i_X1 (by decide) rfl (by decide) m_78 rfl hdg kk
theorem pf_X10_35 {a r : Nat} (C : Cx X p s m args meth c RX10 cc nL rt mn) (hW : Wx X h H) (hZ : va_S (aA (eB X)) s.heap H locs) (ha : hK h a = 10) (hr : hK h r = 1) (eh : h1 = wR h a 7 (some r)) (hdg : decode cc pc = .ok (.putfield 35, 3)) (kk : ∀ (H1 : Heap) (locs1 : List Loc), Wx X h1 H1 → Km h h1 → va_S (aA (eB X)) s.heap H1 locs1 → W p l e R s m args below meth c H1 locs1 cells slots Q (F0 m (pc + 3) ls rest)) : W p l e R s m args below meth c H locs cells slots Q (F0 m pc ls (.ref r :: .ref a :: rest)) :=
  y_putr (ty := .object "GameRules$Law") C hW hZ ha i_X10 tyX10 tyX10_ok nmX10 (by decide) rfl rfl (by decide) m_236 rfl (by decide +kernel) rfl rfl rfl hr rfl (by decide) eh hdg kk
end
theorem cw_X10_54 : cwd RX10 54 yX10_layFrom cX10_layFrom 9 none false 2 := ⟨m_800, m_797, m_6, ⟨m_799, ms_22⟩, by decide, by decide, by decide +kernel⟩
theorem cw_X10_58 : cwd RX10 58 yX10_layAround cX10_layAround 7 none false 0 := ⟨m_847, m_844, m_6, ⟨m_846, ms_27⟩, by decide, by decide, by decide +kernel⟩
theorem cw_X10_43 : cwd RX10 43 yJ7_fill_d0a16 cJ7_fill_d0a16 5 none true 2 := ⟨m_796, m_794, m_9, m_795, by decide, by decide, by decide +kernel⟩
theorem dX10_lay_0 : decode cX10_lay 0 = .ok (.aload_n 0, 1) := by decide +kernel
theorem dX10_lay_1 : decode cX10_lay 1 = .ok (.aload_n 1, 1) := by decide +kernel
theorem dX10_lay_2 : decode cX10_lay 2 = .ok (.putfield 35, 3) := by decide +kernel
theorem dX10_lay_5 : decode cX10_lay 5 = .ok (.aload_n 0, 1) := by decide +kernel
theorem dX10_lay_6 : decode cX10_lay 6 = .ok (.iconst 0, 1) := by decide +kernel
theorem dX10_lay_7 : decode cX10_lay 7 = .ok (.putfield 39, 3) := by decide +kernel
theorem dX10_lay_10 : decode cX10_lay 10 = .ok (.aload_n 0, 1) := by decide +kernel
theorem dX10_lay_11 : decode cX10_lay 11 = .ok (.getfield 23, 3) := by decide +kernel
theorem dX10_lay_14 : decode cX10_lay 14 = .ok (.lconst 0, 1) := by decide +kernel
theorem dX10_lay_15 : decode cX10_lay 15 = .ok (.invokestatic 43, 3) := by decide +kernel
theorem dX10_lay_18 : decode cX10_lay 18 = .ok (.aload_n 0, 1) := by decide +kernel
theorem dX10_lay_19 : decode cX10_lay 19 = .ok (.getfield 26, 3) := by decide +kernel
theorem dX10_lay_22 : decode cX10_lay 22 = .ok (.lconst 0, 1) := by decide +kernel
theorem dX10_lay_23 : decode cX10_lay 23 = .ok (.invokestatic 43, 3) := by decide +kernel
theorem dX10_lay_26 : decode cX10_lay 26 = .ok (.iconst 0, 1) := by decide +kernel
theorem dX10_lay_27 : decode cX10_lay 27 = .ok (.istore_n 2, 1) := by decide +kernel
theorem dX10_lay_28 : decode cX10_lay 28 = .ok (.iload_n 2, 1) := by decide +kernel
theorem dX10_lay_29 : decode cX10_lay 29 = .ok (.iconst 2, 1) := by decide +kernel
theorem dX10_lay_30 : decode cX10_lay 30 = .ok (.aload_n 0, 1) := by decide +kernel
theorem dX10_lay_31 : decode cX10_lay 31 = .ok (.getfield 35, 3) := by decide +kernel
theorem dX10_lay_34 : decode cX10_lay 34 = .ok (.getfield 49, 3) := by decide +kernel
theorem dX10_lay_37 : decode cX10_lay 37 = .ok (.imul, 1) := by decide +kernel
theorem dX10_lay_38 : decode cX10_lay 38 = .ok (.if_icmp .ge 29, 3) := by decide +kernel
theorem dX10_lay_41 : decode cX10_lay 41 = .ok (.iconst 0, 1) := by decide +kernel
theorem dX10_lay_42 : decode cX10_lay 42 = .ok (.istore_n 3, 1) := by decide +kernel
theorem dX10_lay_43 : decode cX10_lay 43 = .ok (.iload_n 3, 1) := by decide +kernel
theorem dX10_lay_44 : decode cX10_lay 44 = .ok (.bipush 64, 2) := by decide +kernel
theorem dX10_lay_46 : decode cX10_lay 46 = .ok (.if_icmp .ge 15, 3) := by decide +kernel
theorem dX10_lay_49 : decode cX10_lay 49 = .ok (.aload_n 0, 1) := by decide +kernel
theorem dX10_lay_50 : decode cX10_lay 50 = .ok (.iload_n 2, 1) := by decide +kernel
theorem dX10_lay_51 : decode cX10_lay 51 = .ok (.iload_n 3, 1) := by decide +kernel
theorem dX10_lay_52 : decode cX10_lay 52 = .ok (.invokevirtual 54, 3) := by decide +kernel
theorem dX10_lay_55 : decode cX10_lay 55 = .ok (.iinc 3 1, 3) := by decide +kernel
theorem dX10_lay_58 : decode cX10_lay 58 = .ok (.goto (-15), 3) := by decide +kernel
theorem dX10_lay_61 : decode cX10_lay 61 = .ok (.iinc 2 1, 3) := by decide +kernel
theorem dX10_lay_64 : decode cX10_lay 64 = .ok (.goto (-36), 3) := by decide +kernel
theorem dX10_lay_67 : decode cX10_lay 67 = .ok (.aload_n 0, 1) := by decide +kernel
theorem dX10_lay_68 : decode cX10_lay 68 = .ok (.getfield 10, 3) := by decide +kernel
theorem dX10_lay_71 : decode cX10_lay 71 = .ok (.iconst 2, 1) := by decide +kernel
theorem dX10_lay_72 : decode cX10_lay 72 = .ok (.aload_n 0, 1) := by decide +kernel
theorem dX10_lay_73 : decode cX10_lay 73 = .ok (.getfield 35, 3) := by decide +kernel
theorem dX10_lay_76 : decode cX10_lay 76 = .ok (.getfield 49, 3) := by decide +kernel
theorem dX10_lay_79 : decode cX10_lay 79 = .ok (.imul, 1) := by decide +kernel
theorem dX10_lay_80 : decode cX10_lay 80 = .ok (.bipush 64, 2) := by decide +kernel
theorem dX10_lay_82 : decode cX10_lay 82 = .ok (.imul, 1) := by decide +kernel
theorem dX10_lay_83 : decode cX10_lay 83 = .ok (.bipush 64, 2) := by decide +kernel
theorem dX10_lay_85 : decode cX10_lay 85 = .ok (.imul, 1) := by decide +kernel
theorem dX10_lay_86 : decode cX10_lay 86 = .ok (.aload_n 0, 1) := by decide +kernel
theorem dX10_lay_87 : decode cX10_lay 87 = .ok (.getfield 39, 3) := by decide +kernel
theorem dX10_lay_90 : decode cX10_lay 90 = .ok (.iastore, 1) := by decide +kernel
theorem dX10_lay_91 : decode cX10_lay 91 = .ok (.aload_n 0, 1) := by decide +kernel
theorem dX10_lay_92 : decode cX10_lay 92 = .ok (.invokevirtual 58, 3) := by decide +kernel
theorem dX10_lay_95 : decode cX10_lay 95 = .ok (.return_, 1) := by decide +kernel
def sX10_lay_95 (F : Nat) (h : Hp) : Option (Hp) := some h
def sX10_lay_55 (F : Nat) (k_28 : Hp → Nat → Int32 → Option (Hp)) (k_43 : Hp → Nat → Int32 → Int32 → Option (Hp)) (h : Hp) (x0 : Nat) (x2 : Int32) (x3 : Int32) : Option (Hp) := nm (x3 + (1 : Int32)) fun v_1 => k_43 h x0 x2 v_1
def sX10_lay_43 (F : Nat) (k_28 : Hp → Nat → Int32 → Option (Hp)) : Nat → Hp → Nat → Int32 → Int32 → Option (Hp)
  | 0, _, _, _, _ => none
  | f + 1, h, x0, x2, x3 => br ((64 : Int32) ≤ x3) (nm (x2 + (1 : Int32)) fun v_2 => k_28 h x0 v_2) (cl (sX10_layFrom F h x0 x2 x3) fun o_3 => sX10_lay_55 F k_28 (sX10_lay_43 F k_28 f) o_3 x0 x2 x3)
def sX10_lay_28 (F : Nat) : Nat → Hp → Nat → Int32 → Option (Hp)
  | 0, _, _, _ => none
  | f + 1, h, x0, x2 => cl (hR h x0 7) fun r_1 => br (((2 : Int32) * (hI h r_1 3)) ≤ x2) (cl (hR h x0 0) fun r_3 => cl (hR h x0 7) fun r_4 => gd (inB ((((2 : Int32) * (hI h r_4 3)) * (64 : Int32)) * (64 : Int32)) (hN h r_3)) <| nm (wI h r_3 ((((2 : Int32) * (hI h r_4 3)) * (64 : Int32)) * (64 : Int32)).toNatClampNeg (hI h x0 8)) fun h_6 => cl (sX10_layAround F h_6 x0) fun o_7 => sX10_lay_95 F o_7 ) (sX10_lay_43 F (sX10_lay_28 F f) F h x0 x2 (0 : Int32))
def sX10_lay_26 (F : Nat) (h : Hp) (x0 : Nat) : Option (Hp) := sX10_lay_28 F F h x0 (0 : Int32)
def sX10_lay_18 (F : Nat) (h : Hp) (x0 : Nat) : Option (Hp) := cl (hR h x0 4) fun r_1 => cl (sJ7_fill_d0a16 F h r_1 (0 : Int64)) fun o_2 => sX10_lay_26 F o_2 x0
def sX10_lay (F : Nat) (h : Hp) (x0 : Nat) (x1 : Nat) : Option (Hp) := nm (wR h x0 7 (some x1)) fun h_1 => nm (wI h_1 x0 8 (0 : Int32)) fun h_2 => cl (hR h_2 x0 3) fun r_3 => cl (sJ7_fill_d0a16 F h_2 r_3 (0 : Int64)) fun o_4 => sX10_lay_18 F o_4 x0
theorem moX10_lay_95 {o : Hp} {F : Nat} {h : Hp} (hE : sX10_lay_95 F h  = some o) : Le h o := by
  cases hE
  exact Le.rf _
theorem moX10_lay_55 {o : Hp} {k_28 : Hp → Nat → Int32 → Option (Hp)} {k_43 : Hp → Nat → Int32 → Int32 → Option (Hp)} {F : Nat} (mk_28 : ∀ (h : Hp) (x0 : Nat) (x2 : Int32), k_28 h x0 x2 = some o → Le h o) (mk_43 : ∀ (h : Hp) (x0 : Nat) (x2 : Int32) (x3 : Int32), k_43 h x0 x2 x3 = some o → Le h o) {h : Hp} {x0 : Nat} {x2 : Int32} {x3 : Int32} (hE : sX10_lay_55 F k_28 k_43 h x0 x2 x3 = some o) : Le h o := by
  obtain ⟨v_1, ev_1, hE⟩ := nm_e2 hE
  exact mk_43 _ _ _ _ hE
theorem moX10_lay_43 {o : Hp} {k_28 : Hp → Nat → Int32 → Option (Hp)} {F : Nat} (mk_28 : ∀ (h : Hp) (x0 : Nat) (x2 : Int32), k_28 h x0 x2 = some o → Le h o) : ∀ (f : Nat) {h : Hp} {x0 : Nat} {x2 : Int32} {x3 : Int32}, sX10_lay_43 F k_28 f h x0 x2 x3 = some o → Le h o := by
  intro f
  induction f with
  | zero =>
    intro h x0 x2 x3 hE
    rw [sX10_lay_43] at hE
    cases hE
  | succ f ih =>
    intro h x0 x2 x3 hE
    rw [sX10_lay_43] at hE
    have mk_43 : ∀ (h : Hp) (x0 : Nat) (x2 : Int32) (x3 : Int32), sX10_lay_43 F k_28 f h x0 x2 x3 = some o → Le h o := fun h x0 x2 x3 hE => ih hE
    rcases br_e hE with ⟨_, hE⟩ | ⟨_, hE⟩
    · obtain ⟨v_2, ev_2, hE⟩ := nm_e2 hE
      exact mk_28 _ _ _ hE
    · obtain ⟨o_3, eo_3, hE⟩ := cl_e hE
      refine (moX10_layFrom eo_3).tr ?_
      exact moX10_lay_55 mk_28 mk_43 hE
theorem moX10_lay_28 {o : Hp} {F : Nat} : ∀ (f : Nat) {h : Hp} {x0 : Nat} {x2 : Int32}, sX10_lay_28 F f h x0 x2 = some o → Le h o := by
  intro f
  induction f with
  | zero =>
    intro h x0 x2 hE
    rw [sX10_lay_28] at hE
    cases hE
  | succ f ih =>
    intro h x0 x2 hE
    rw [sX10_lay_28] at hE
    have mk_28 : ∀ (h : Hp) (x0 : Nat) (x2 : Int32), sX10_lay_28 F f h x0 x2 = some o → Le h o := fun h x0 x2 hE => ih hE
    obtain ⟨r_1, er_1, hE⟩ := cl_e hE
    rcases br_e hE with ⟨_, hE⟩ | ⟨_, hE⟩
    · obtain ⟨r_3, er_3, hE⟩ := cl_e hE
      obtain ⟨r_4, er_4, hE⟩ := cl_e hE
      obtain ⟨g_5, hE⟩ := gd_e hE
      obtain ⟨h_6, eh_6, hE⟩ := nm_e2 hE
      refine (le_I eh_6).tr ?_
      obtain ⟨o_7, eo_7, hE⟩ := cl_e hE
      refine (moX10_layAround eo_7).tr ?_
      exact moX10_lay_95 hE
    · exact moX10_lay_43 mk_28 _ hE
theorem moX10_lay_26 {o : Hp} {F : Nat} {h : Hp} {x0 : Nat} (hE : sX10_lay_26 F h x0 = some o) : Le h o := by
  exact moX10_lay_28 _ hE
theorem moX10_lay_18 {o : Hp} {F : Nat} {h : Hp} {x0 : Nat} (hE : sX10_lay_18 F h x0 = some o) : Le h o := by
  obtain ⟨r_1, er_1, hE⟩ := cl_e hE
  obtain ⟨o_2, eo_2, hE⟩ := cl_e hE
  refine (moJ7_fill_d0a16 eo_2).tr ?_
  exact moX10_lay_26 hE
theorem moX10_lay {o : Hp} {F : Nat} {h : Hp} {x0 : Nat} {x1 : Nat} (hE : sX10_lay F h x0 x1 = some o) : Le h o := by
  obtain ⟨h_1, eh_1, hE⟩ := nm_e2 hE
  refine (le_R eh_1).tr ?_
  obtain ⟨h_2, eh_2, hE⟩ := nm_e2 hE
  refine (le_I eh_2).tr ?_
  obtain ⟨r_3, er_3, hE⟩ := cl_e hE
  obtain ⟨o_4, eo_4, hE⟩ := cl_e hE
  refine (moJ7_fill_d0a16 eo_4).tr ?_
  exact moX10_lay_18 hE
set_option maxRecDepth 20000 in
theorem bX10_lay_95 {p : Program} {l : Launch} {e : Env} {s : State} {m : MethodId} {args : Array Value} {below : List Frame} {meth : Method} {c : Code} {X : Ec} {h0 : Hp} {o : Hp} {F : Nat} (C : Cx X p s m args meth c RX10 cX10_lay 4 none "lay") {h : Hp} {H : Heap} {locs : List Loc} (hkl : Kl h0 h) (hW : Wx X h H) (hZ : va_S (aA (eB X)) s.heap H locs) (ls : Array Slot) (hl : lv_has ls 4 []) (hE : sX10_lay_95 F h  = some o) : W p l e (rmA 4 143 h0 o) s m args below meth c H locs (hS h - hS h0) (hL h - hL h0) (MQ below (QVA X h0 o) args s (hS o - hS h0) (hL o - hL h0) (aA (eB X))) (F0 m 95 ls []) := by
  exact x_vretA C rfl hW hZ hkl hE dX10_lay_95
set_option maxRecDepth 20000 in
theorem bX10_lay_55 {p : Program} {l : Launch} {e : Env} {s : State} {m : MethodId} {args : Array Value} {below : List Frame} {meth : Method} {c : Code} {X : Ec} {h0 : Hp} {o : Hp} {k_28 : Hp → Nat → Int32 → Option (Hp)} {k_43 : Hp → Nat → Int32 → Int32 → Option (Hp)} {F : Nat} (C : Cx X p s m args meth c RX10 cX10_lay 4 none "lay") (hk_28 : ∀ (h : Hp) (x0 : Nat) (x2 : Int32) (H : Heap) (locs : List Loc), hK h x0 = 10 → Kl h0 h → Wx X h H → va_S (aA (eB X)) s.heap H locs → ∀ (ls : Array Slot), lv_has ls 4 [(0, .ref x0), (2, .int x2)] → k_28 h x0 x2 = some o → W p l e (rmA 4 143 h0 o) s m args below meth c H locs (hS h - hS h0) (hL h - hL h0) (MQ below (QVA X h0 o) args s (hS o - hS h0) (hL o - hL h0) (aA (eB X))) (F0 m 28 ls [])) (hk_43 : ∀ (h : Hp) (x0 : Nat) (x2 : Int32) (x3 : Int32) (H : Heap) (locs : List Loc), hK h x0 = 10 → Kl h0 h → Wx X h H → va_S (aA (eB X)) s.heap H locs → ∀ (ls : Array Slot), lv_has ls 4 [(0, .ref x0), (2, .int x2), (3, .int x3)] → k_43 h x0 x2 x3 = some o → W p l e (rmA 4 143 h0 o) s m args below meth c H locs (hS h - hS h0) (hL h - hL h0) (MQ below (QVA X h0 o) args s (hS o - hS h0) (hL o - hL h0) (aA (eB X))) (F0 m 43 ls [])) (mk_28 : ∀ (h : Hp) (x0 : Nat) (x2 : Int32), k_28 h x0 x2 = some o → Le h o) (mk_43 : ∀ (h : Hp) (x0 : Nat) (x2 : Int32) (x3 : Int32), k_43 h x0 x2 x3 = some o → Le h o) {h : Hp} {x0 : Nat} {x2 : Int32} {x3 : Int32} {H : Heap} {locs : List Loc} (k_x0 : hK h x0 = 10) (hkl : Kl h0 h) (hW : Wx X h H) (hZ : va_S (aA (eB X)) s.heap H locs) (ls : Array Slot) (hl : lv_has ls 4 [(0, .ref x0), (2, .int x2), (3, .int x3)]) (hE : sX10_lay_55 F k_28 k_43 h x0 x2 x3 = some o) : W p l e (rmA 4 143 h0 o) s m args below meth c H locs (hS h - hS h0) (hL h - hL h0) (MQ below (QVA X h0 o) args s (hS o - hS h0) (hL o - hL h0) (aA (eB X))) (F0 m 55 ls []) := by
  obtain ⟨v_1, ev_1, hE⟩ := nm_e2 hE
  refine lv_iinc (v := v_1) (lv' := [(3, .int v_1), (0, .ref x0), (2, .int x2)]) C.1 C.2.1 dX10_lay_55 hl (k := 2) rfl (by rw [ev_1]; rfl) (by decide) rfl (fun ls hl => ?_)
  refine lv_goto (tgt := 43) C.1 C.2.1 dX10_lay_58 (by decide) ?_
  exact hk_43 _ _ _ _ _ _ k_x0 hkl hW hZ _ (lv_sub hl [1, 2, 0] rfl) hE
set_option maxRecDepth 20000 in
theorem bX10_lay_43 {p : Program} {l : Launch} {e : Env} {s : State} {m : MethodId} {args : Array Value} {below : List Frame} {meth : Method} {c : Code} {X : Ec} {h0 : Hp} {o : Hp} {k_28 : Hp → Nat → Int32 → Option (Hp)} {F : Nat} (C : Cx X p s m args meth c RX10 cX10_lay 4 none "lay") (hk_28 : ∀ (h : Hp) (x0 : Nat) (x2 : Int32) (H : Heap) (locs : List Loc), hK h x0 = 10 → Kl h0 h → Wx X h H → va_S (aA (eB X)) s.heap H locs → ∀ (ls : Array Slot), lv_has ls 4 [(0, .ref x0), (2, .int x2)] → k_28 h x0 x2 = some o → W p l e (rmA 4 143 h0 o) s m args below meth c H locs (hS h - hS h0) (hL h - hL h0) (MQ below (QVA X h0 o) args s (hS o - hS h0) (hL o - hL h0) (aA (eB X))) (F0 m 28 ls [])) (mk_28 : ∀ (h : Hp) (x0 : Nat) (x2 : Int32), k_28 h x0 x2 = some o → Le h o) : ∀ (f : Nat) {h : Hp} {x0 : Nat} {x2 : Int32} {x3 : Int32} {H : Heap} {locs : List Loc} (k_x0 : hK h x0 = 10), Kl h0 h → Wx X h H → va_S (aA (eB X)) s.heap H locs → ∀ (ls : Array Slot), lv_has ls 4 [(0, .ref x0), (2, .int x2), (3, .int x3)] → sX10_lay_43 F k_28 f h x0 x2 x3 = some o → W p l e (rmA 4 143 h0 o) s m args below meth c H locs (hS h - hS h0) (hL h - hL h0) (MQ below (QVA X h0 o) args s (hS o - hS h0) (hL o - hL h0) (aA (eB X))) (F0 m 43 ls []) := by
  intro f
  induction f with
  | zero =>
    intro h x0 x2 x3 H locs k_x0 hkl hW hZ ls hl hE
    rw [sX10_lay_43] at hE
    cases hE
  | succ f ih =>
    intro h x0 x2 x3 H locs k_x0 hkl hW hZ ls hl hE
    rw [sX10_lay_43] at hE
    have mk_43 : ∀ (h : Hp) (x0 : Nat) (x2 : Int32) (x3 : Int32), sX10_lay_43 F k_28 f h x0 x2 x3 = some o → Le h o := fun h x0 x2 x3 hE => moX10_lay_43 mk_28 _ hE
    have hk_43 : ∀ (h : Hp) (x0 : Nat) (x2 : Int32) (x3 : Int32) (H : Heap) (locs : List Loc), hK h x0 = 10 → Kl h0 h → Wx X h H → va_S (aA (eB X)) s.heap H locs → ∀ (ls : Array Slot), lv_has ls 4 [(0, .ref x0), (2, .int x2), (3, .int x3)] → sX10_lay_43 F k_28 f h x0 x2 x3 = some o → W p l e (rmA 4 143 h0 o) s m args below meth c H locs (hS h - hS h0) (hL h - hL h0) (MQ below (QVA X h0 o) args s (hS o - hS h0) (hL o - hL h0) (aA (eB X))) (F0 m 43 ls []) := fun h x0 x2 x3 H locs k_x0 a b c ls hl hE => ih k_x0 a b c ls hl hE
    refine lv_iload_n C.1 C.2.1 dX10_lay_43 rfl (lv_at hl 2 rfl) ?_
    refine lv_bipush (v := (64 : Int32)) C.1 C.2.1 dX10_lay_44 (by decide) ?_
    refine lv_icmp_ge (tgt := 61) C.1 C.2.1 dX10_lay_46 (by decide) (fun c_1 => ?_) (fun c_1 => ?_)
    · have hE := br_p hE c_1
      obtain ⟨v_2, ev_2, hE⟩ := nm_e2 hE
      refine lv_iinc (v := v_2) (lv' := [(2, .int v_2), (0, .ref x0), (3, .int x3)]) C.1 C.2.1 dX10_lay_61 hl (k := 1) rfl (by rw [ev_2]; rfl) (by decide) rfl (fun ls hl => ?_)
      refine lv_goto (tgt := 28) C.1 C.2.1 dX10_lay_64 (by decide) ?_
      exact hk_28 _ _ _ _ _ k_x0 hkl hW hZ _ (lv_sub hl [1, 0] rfl) hE
    · have hE := br_n hE c_1
      refine lv_aload_n C.1 C.2.1 dX10_lay_49 rfl (lv_at hl 0 rfl) ?_
      refine lv_iload_n C.1 C.2.1 dX10_lay_50 rfl (lv_at hl 1 rfl) ?_
      refine lv_iload_n C.1 C.2.1 dX10_lay_51 rfl (lv_at hl 2 rfl) ?_
      obtain ⟨o_3, eo_3, hE⟩ := cl_e hE
      have m1 := moX10_layFrom eo_3
      have m2 := moX10_lay_55 mk_28 mk_43 hE
      refine x_kVA (o := o_3) hkl (z_runV (As := [.int x2, .int x3]) (rest := []) C (ct_X10_layFrom l X F k_x0 eo_3) cw_X10_54 hW hZ k_x0 (by decide) rfl rfl rfl hl.1 (Nat.le_of_ble_eq_true rfl) rfl dX10_lay_52 ⟨Nat.le_of_ble_eq_true rfl, Nat.le_of_ble_eq_true rfl⟩ (rm_ok hkl m1 m2)) hZ (fun _ _ hW km hZ => ?_)
      replace hkl := hkl.tr km
      replace k_x0 := km.at k_x0 (by decide)
      exact bX10_lay_55 C hk_28 hk_43 mk_28 mk_43 k_x0 hkl hW hZ _ (lv_sub hl [0, 1, 2] rfl) hE
set_option maxRecDepth 20000 in
theorem bX10_lay_28 {p : Program} {l : Launch} {e : Env} {s : State} {m : MethodId} {args : Array Value} {below : List Frame} {meth : Method} {c : Code} {X : Ec} {h0 : Hp} {o : Hp} {F : Nat} (C : Cx X p s m args meth c RX10 cX10_lay 4 none "lay") : ∀ (f : Nat) {h : Hp} {x0 : Nat} {x2 : Int32} {H : Heap} {locs : List Loc} (k_x0 : hK h x0 = 10), Kl h0 h → Wx X h H → va_S (aA (eB X)) s.heap H locs → ∀ (ls : Array Slot), lv_has ls 4 [(0, .ref x0), (2, .int x2)] → sX10_lay_28 F f h x0 x2 = some o → W p l e (rmA 4 143 h0 o) s m args below meth c H locs (hS h - hS h0) (hL h - hL h0) (MQ below (QVA X h0 o) args s (hS o - hS h0) (hL o - hL h0) (aA (eB X))) (F0 m 28 ls []) := by
  intro f
  induction f with
  | zero =>
    intro h x0 x2 H locs k_x0 hkl hW hZ ls hl hE
    rw [sX10_lay_28] at hE
    cases hE
  | succ f ih =>
    intro h x0 x2 H locs k_x0 hkl hW hZ ls hl hE
    rw [sX10_lay_28] at hE
    have mk_28 : ∀ (h : Hp) (x0 : Nat) (x2 : Int32), sX10_lay_28 F f h x0 x2 = some o → Le h o := fun h x0 x2 hE => moX10_lay_28 _ hE
    have hk_28 : ∀ (h : Hp) (x0 : Nat) (x2 : Int32) (H : Heap) (locs : List Loc), hK h x0 = 10 → Kl h0 h → Wx X h H → va_S (aA (eB X)) s.heap H locs → ∀ (ls : Array Slot), lv_has ls 4 [(0, .ref x0), (2, .int x2)] → sX10_lay_28 F f h x0 x2 = some o → W p l e (rmA 4 143 h0 o) s m args below meth c H locs (hS h - hS h0) (hL h - hL h0) (MQ below (QVA X h0 o) args s (hS o - hS h0) (hL o - hL h0) (aA (eB X))) (F0 m 28 ls []) := fun h x0 x2 H locs k_x0 a b c ls hl hE => ih k_x0 a b c ls hl hE
    refine lv_iload_n C.1 C.2.1 dX10_lay_28 rfl (lv_at hl 1 rfl) ?_
    refine lv_iconst (v := (2 : Int32)) C.1 C.2.1 dX10_lay_29 (by decide) ?_
    refine lv_aload_n C.1 C.2.1 dX10_lay_30 rfl (lv_at hl 0 rfl) ?_
    obtain ⟨r_1, er_1, hE⟩ := cl_e hE
    refine gf_X10_35 C hW k_x0 er_1 dX10_lay_31 (fun k_r_1 => ?_)
    refine gf_X10_49 C hW k_r_1 dX10_lay_34 ?_
    refine lv_imul C.1 C.2.1 dX10_lay_37 ?_
    refine lv_icmp_ge (tgt := 67) C.1 C.2.1 dX10_lay_38 (by decide) (fun c_2 => ?_) (fun c_2 => ?_)
    · have hE := br_p hE c_2
      refine lv_aload_n C.1 C.2.1 dX10_lay_67 rfl (lv_at hl 0 rfl) ?_
      obtain ⟨r_3, er_3, hE⟩ := cl_e hE
      refine gf_X10_10 C hW k_x0 er_3 dX10_lay_68 (fun k_r_3 => ?_)
      refine lv_iconst (v := (2 : Int32)) C.1 C.2.1 dX10_lay_71 (by decide) ?_
      refine lv_aload_n C.1 C.2.1 dX10_lay_72 rfl (lv_at hl 0 rfl) ?_
      obtain ⟨r_4, er_4, hE⟩ := cl_e hE
      refine gf_X10_35 C hW k_x0 er_4 dX10_lay_73 (fun k_r_4 => ?_)
      refine gf_X10_49 C hW k_r_4 dX10_lay_76 ?_
      refine lv_imul C.1 C.2.1 dX10_lay_79 ?_
      refine lv_bipush (v := (64 : Int32)) C.1 C.2.1 dX10_lay_80 (by decide) ?_
      refine lv_imul C.1 C.2.1 dX10_lay_82 ?_
      refine lv_bipush (v := (64 : Int32)) C.1 C.2.1 dX10_lay_83 (by decide) ?_
      refine lv_imul C.1 C.2.1 dX10_lay_85 ?_
      refine lv_aload_n C.1 C.2.1 dX10_lay_86 rfl (lv_at hl 0 rfl) ?_
      refine gf_X10_39 C hW k_x0 dX10_lay_87 ?_
      obtain ⟨g_5, hE⟩ := gd_e hE
      obtain ⟨h_6, eh_6, hE⟩ := nm_e2 hE
      refine y_iast C hW hZ k_r_3 g_5 eh_6 dX10_lay_90 (fun _ _ hW km hZ => ?_)
      replace hkl := hkl.tr km.l
      refine x_wc km ?_
      replace k_x0 := km.at k_x0 (by decide)
      refine lv_aload_n C.1 C.2.1 dX10_lay_91 rfl (lv_at hl 0 rfl) ?_
      obtain ⟨o_7, eo_7, hE⟩ := cl_e hE
      have m1 := moX10_layAround eo_7
      have m2 := moX10_lay_95 hE
      refine x_kV (o := o_7) (z_runV (As := []) (rest := []) C (ct_X10_layAround l X F k_x0 eo_7) cw_X10_58 hW hZ k_x0 (by decide) rfl rfl rfl hl.1 (Nat.le_of_ble_eq_true rfl) rfl dX10_lay_92 ⟨Nat.le_of_ble_eq_true rfl, Nat.le_of_ble_eq_true rfl⟩ (rm_ok0 hkl m1 m2)) hZ (fun _ _ hW km hZ => ?_)
      replace hkl := hkl.tr km.l
      refine x_wc km ?_
      replace k_x0 := km.at k_x0 (by decide)
      exact bX10_lay_95 C hkl hW hZ _ (lv_sub hl [] rfl) hE
    · have hE := br_n hE c_2
      refine lv_iconst (v := (0 : Int32)) C.1 C.2.1 dX10_lay_41 (by decide) ?_
      refine lv_istore_n (lv' := [(3, .int (0 : Int32)), (0, .ref x0), (2, .int x2)]) C.1 C.2.1 dX10_lay_42 rfl hl (by decide) rfl (fun ls hl => ?_)
      exact bX10_lay_43 C hk_28 mk_28 F k_x0 hkl hW hZ _ (lv_sub hl [1, 2, 0] rfl) hE
set_option maxRecDepth 20000 in
theorem bX10_lay_26 {p : Program} {l : Launch} {e : Env} {s : State} {m : MethodId} {args : Array Value} {below : List Frame} {meth : Method} {c : Code} {X : Ec} {h0 : Hp} {o : Hp} {F : Nat} (C : Cx X p s m args meth c RX10 cX10_lay 4 none "lay") {h : Hp} {x0 : Nat} {H : Heap} {locs : List Loc} (k_x0 : hK h x0 = 10) (hkl : Kl h0 h) (hW : Wx X h H) (hZ : va_S (aA (eB X)) s.heap H locs) (ls : Array Slot) (hl : lv_has ls 4 [(0, .ref x0)]) (hE : sX10_lay_26 F h x0 = some o) : W p l e (rmA 4 143 h0 o) s m args below meth c H locs (hS h - hS h0) (hL h - hL h0) (MQ below (QVA X h0 o) args s (hS o - hS h0) (hL o - hL h0) (aA (eB X))) (F0 m 26 ls []) := by
  refine lv_iconst (v := (0 : Int32)) C.1 C.2.1 dX10_lay_26 (by decide) ?_
  refine lv_istore_n (lv' := [(2, .int (0 : Int32)), (0, .ref x0)]) C.1 C.2.1 dX10_lay_27 rfl hl (by decide) rfl (fun ls hl => ?_)
  exact bX10_lay_28 C F k_x0 hkl hW hZ _ (lv_sub hl [1, 0] rfl) hE
set_option maxRecDepth 20000 in
theorem bX10_lay_18 {p : Program} {l : Launch} {e : Env} {s : State} {m : MethodId} {args : Array Value} {below : List Frame} {meth : Method} {c : Code} {X : Ec} {h0 : Hp} {o : Hp} {F : Nat} (C : Cx X p s m args meth c RX10 cX10_lay 4 none "lay") {h : Hp} {x0 : Nat} {H : Heap} {locs : List Loc} (k_x0 : hK h x0 = 10) (hkl : Kl h0 h) (hW : Wx X h H) (hZ : va_S (aA (eB X)) s.heap H locs) (ls : Array Slot) (hl : lv_has ls 4 [(0, .ref x0)]) (hE : sX10_lay_18 F h x0 = some o) : W p l e (rmA 4 143 h0 o) s m args below meth c H locs (hS h - hS h0) (hL h - hL h0) (MQ below (QVA X h0 o) args s (hS o - hS h0) (hL o - hL h0) (aA (eB X))) (F0 m 18 ls []) := by
  refine lv_aload_n C.1 C.2.1 dX10_lay_18 rfl (lv_at hl 0 rfl) ?_
  obtain ⟨r_1, er_1, hE⟩ := cl_e hE
  refine gf_X10_26 C hW k_x0 er_1 dX10_lay_19 (fun k_r_1 => ?_)
  refine lv_lconst (v := (0 : Int64)) C.1 C.2.1 dX10_lay_22 (by decide) ?_
  obtain ⟨o_2, eo_2, hE⟩ := cl_e hE
  have m1 := moJ7_fill_d0a16 eo_2
  have m2 := moX10_lay_26 hE
  refine x_kV (o := o_2) (z_runS (As := [.ref r_1, .long (0 : Int64)]) (rest := []) C (ct_J7_fill_d0a16 l X F k_r_1 eo_2) cw_X10_43 hW hZ rfl hl.1 (Nat.le_of_ble_eq_true rfl) rfl dX10_lay_23 ⟨Nat.le_of_ble_eq_true rfl, Nat.le_of_ble_eq_true rfl⟩ (rm_ok0 hkl m1 m2)) hZ (fun _ _ hW km hZ => ?_)
  replace hkl := hkl.tr km.l
  refine x_wc km ?_
  replace k_x0 := km.at k_x0 (by decide)
  exact bX10_lay_26 C k_x0 hkl hW hZ _ (lv_sub hl [0] rfl) hE
set_option maxRecDepth 20000 in
theorem ct_X10_lay (l : Launch) (X : Ec) (F : Nat) {h : Hp} {x0 : Nat} {x1 : Nat} {o : Hp} (k_x0 : hK h x0 = 10) (k_x1 : hK h x1 = 1) (hE : sX10_lay F h x0 x1 = some o) : MetVA l yX10_lay cX10_lay 4 none 4 143 X [.ref x0, .ref x1] h o := by
  refine x_metA (oh := o) (by decide) (Nat.le_of_ble_eq_true rfl) ?_
  intro p e s m below meth c ls C hl hW hZ
  have hl : lv_has ls 4 [(0, .ref x0), (1, .ref x1)] := hl
  have hkl : Kl h h := Kl.rf h
  refine lv_aload_n C.1 C.2.1 dX10_lay_0 rfl (lv_at hl 0 rfl) ?_
  refine lv_aload_n C.1 C.2.1 dX10_lay_1 rfl (lv_at hl 1 rfl) ?_
  obtain ⟨h_1, eh_1, hE⟩ := nm_e2 hE
  refine pf_X10_35 C hW hZ k_x0 k_x1 eh_1 dX10_lay_2 (fun _ _ hW km hZ => ?_)
  replace hkl := hkl.tr km.l
  refine x_wc km ?_
  replace k_x0 := km.at k_x0 (by decide)
  replace k_x1 := km.at k_x1 (by decide)
  refine lv_aload_n C.1 C.2.1 dX10_lay_5 rfl (lv_at hl 0 rfl) ?_
  refine lv_iconst (v := (0 : Int32)) C.1 C.2.1 dX10_lay_6 (by decide) ?_
  obtain ⟨h_2, eh_2, hE⟩ := nm_e2 hE
  refine pf_X10_39 C hW hZ k_x0 eh_2 dX10_lay_7 (fun _ _ hW km hZ => ?_)
  replace hkl := hkl.tr km.l
  refine x_wc km ?_
  replace k_x0 := km.at k_x0 (by decide)
  replace k_x1 := km.at k_x1 (by decide)
  refine lv_aload_n C.1 C.2.1 dX10_lay_10 rfl (lv_at hl 0 rfl) ?_
  obtain ⟨r_3, er_3, hE⟩ := cl_e hE
  refine gf_X10_23 C hW k_x0 er_3 dX10_lay_11 (fun k_r_3 => ?_)
  refine lv_lconst (v := (0 : Int64)) C.1 C.2.1 dX10_lay_14 (by decide) ?_
  obtain ⟨o_4, eo_4, hE⟩ := cl_e hE
  have m1 := moJ7_fill_d0a16 eo_4
  have m2 := moX10_lay_18 hE
  refine x_kV (o := o_4) (z_runS (As := [.ref r_3, .long (0 : Int64)]) (rest := []) C (ct_J7_fill_d0a16 l X F k_r_3 eo_4) cw_X10_43 hW hZ rfl hl.1 (Nat.le_of_ble_eq_true rfl) rfl dX10_lay_15 ⟨Nat.le_of_ble_eq_true rfl, Nat.le_of_ble_eq_true rfl⟩ (rm_ok0 hkl m1 m2)) hZ (fun _ _ hW km hZ => ?_)
  replace hkl := hkl.tr km.l
  refine x_wc km ?_
  replace k_x0 := km.at k_x0 (by decide)
  replace k_x1 := km.at k_x1 (by decide)
  exact bX10_lay_18 C k_x0 hkl hW hZ _ (lv_sub hl [0] rfl) hE
