set_option maxRecDepth 100000 in
theorem m_222 : Cond.methodLink RX10 3 objectInit ∈ W0 := w0_in (List.mem_append_right _ (List.mem_of_getElem? (i := 222) rfl)) rfl
set_option maxRecDepth 100000 in
theorem m_223 : Cond.constant RX10 9 (98305 : Int32) ∈ W0 := w0_in (List.mem_append_right _ (List.mem_of_getElem? (i := 223) rfl)) rfl
set_option maxRecDepth 100000 in
theorem m_224 : Cond.constant RX10 16 (172032 : Int32) ∈ W0 := w0_in (List.mem_append_right _ (List.mem_of_getElem? (i := 224) rfl)) rfl
set_option maxRecDepth 100000 in
theorem m_225 : Cond.fieldLink RX10 10 (TX10 0).1 (TX10 0).2.1 (TX10 0).2.2.1 ∈ W0 := w0_in (List.mem_append_right _ (List.mem_of_getElem? (i := 225) rfl)) rfl
set_option maxRecDepth 100000 in
theorem m_227 : Cond.fieldLink RX10 17 (TX10 1).1 (TX10 1).2.1 (TX10 1).2.2.1 ∈ W0 := w0_in (List.mem_append_right _ (List.mem_of_getElem? (i := 227) rfl)) rfl
set_option maxRecDepth 100000 in
theorem m_229 : Cond.fieldLink RX10 20 (TX10 2).1 (TX10 2).2.1 (TX10 2).2.2.1 ∈ W0 := w0_in (List.mem_append_right _ (List.mem_of_getElem? (i := 229) rfl)) rfl
set_option maxRecDepth 100000 in
theorem m_231 : Cond.fieldLink RX10 24 (TX10 3).1 (TX10 3).2.1 (TX10 3).2.2.1 ∈ W0 := w0_in (List.mem_append_right _ (List.mem_of_getElem? (i := 231) rfl)) rfl
set_option maxRecDepth 100000 in
theorem m_232 : Cond.fieldLink RX10 27 (TX10 4).1 (TX10 4).2.1 (TX10 4).2.2.1 ∈ W0 := w0_in (List.mem_append_right _ (List.mem_of_getElem? (i := 232) rfl)) rfl
set_option maxRecDepth 100000 in
theorem m_234 : Cond.fieldLink RX10 30 (TX10 5).1 (TX10 5).2.1 (TX10 5).2.2.1 ∈ W0 := w0_in (List.mem_append_right _ (List.mem_of_getElem? (i := 234) rfl)) rfl
set_option maxRecDepth 100000 in
theorem m_236 : Cond.fieldLink RX10 33 (TX10 6).1 (TX10 6).2.1 (TX10 6).2.2.1 ∈ W0 := w0_in (List.mem_append_right _ (List.mem_of_getElem? (i := 236) rfl)) rfl
theorem i_X10 : ∀ w ∈ u_ws RX10 TX10 9, w ∈ W0 := by
  intro w hw
  exact w0_in (List.mem_append_right _ ((by decide +kernel : ∀ w ∈ u_ws RX10 TX10 9, w ∈ tables_1) w hw)) ((by decide +kernel : ∀ w ∈ u_ws RX10 TX10 9, goodWord w = true) w hw)
section
variable {p : Program} {l : Launch} {e : Env} {R : Room} {s : State} {m : MethodId} {args : Array Value} {below : List Frame} {meth : Method} {c : Code} {H : Heap} {locs : List Loc} {cells slots : Nat} {Q : State → Prop}
variable {cc : ByteArray} {pc : Nat} {ls : Array Slot} {rest : List Value} {X : Ec} {h h1 : Hp} {nL : Nat} {rt : Option FieldType} {mn : String}
theorem pf_X10_33 {a r : Nat} (C : Cx X p s m args meth c RX10 cc nL rt mn) (hW : Wx X h H) (hZ : va_S (aA (eB X)) s.heap H locs) (hmn : mn = "<init>") (ha : hK h a = 10) (hr : hK h r = 17) (eh : h1 = wR h a 6 (some r)) (hdg : decode cc pc = .ok (.putfield 33, 3)) (kk : ∀ (H1 : Heap) (locs1 : List Loc), Wx X h1 H1 → Km h h1 → va_S (aA (eB X)) s.heap H1 locs1 → W p l e R s m args below meth c H1 locs1 cells slots Q (F0 m (pc + 3) ls rest)) : W p l e R s m args below meth c H locs cells slots Q (F0 m pc ls (.ref r :: .ref a :: rest)) :=
  y_putrF (ty := .array .int) C hW hZ ha i_X10 tyX10 tyX10_ok nmX10 (by decide) rfl rfl (by decide) m_236 rfl hmn rfl (by decide +kernel) rfl rfl rfl hr rfl (by decide) eh hdg kk
theorem pf_X10_30 {a r : Nat} (C : Cx X p s m args meth c RX10 cc nL rt mn) (hW : Wx X h H) (hZ : va_S (aA (eB X)) s.heap H locs) (hmn : mn = "<init>") (ha : hK h a = 10) (hr : hK h r = 18) (eh : h1 = wR h a 5 (some r)) (hdg : decode cc pc = .ok (.putfield 30, 3)) (kk : ∀ (H1 : Heap) (locs1 : List Loc), Wx X h1 H1 → Km h h1 → va_S (aA (eB X)) s.heap H1 locs1 → W p l e R s m args below meth c H1 locs1 cells slots Q (F0 m (pc + 3) ls rest)) : W p l e R s m args below meth c H locs cells slots Q (F0 m pc ls (.ref r :: .ref a :: rest)) :=
  y_putrF (ty := .array .long) C hW hZ ha i_X10 tyX10 tyX10_ok nmX10 (by decide) rfl rfl (by decide) m_234 rfl hmn rfl (by decide +kernel) rfl rfl rfl hr rfl (by decide) eh hdg kk
theorem pf_X10_27 {a r : Nat} (C : Cx X p s m args meth c RX10 cc nL rt mn) (hW : Wx X h H) (hZ : va_S (aA (eB X)) s.heap H locs) (hmn : mn = "<init>") (ha : hK h a = 10) (hr : hK h r = 18) (eh : h1 = wR h a 4 (some r)) (hdg : decode cc pc = .ok (.putfield 27, 3)) (kk : ∀ (H1 : Heap) (locs1 : List Loc), Wx X h1 H1 → Km h h1 → va_S (aA (eB X)) s.heap H1 locs1 → W p l e R s m args below meth c H1 locs1 cells slots Q (F0 m (pc + 3) ls rest)) : W p l e R s m args below meth c H locs cells slots Q (F0 m pc ls (.ref r :: .ref a :: rest)) :=
  y_putrF (ty := .array .long) C hW hZ ha i_X10 tyX10 tyX10_ok nmX10 (by decide) rfl rfl (by decide) m_232 rfl hmn rfl (by decide +kernel) rfl rfl rfl hr rfl (by decide) eh hdg kk
theorem pf_X10_24 {a r : Nat} (C : Cx X p s m args meth c RX10 cc nL rt mn) (hW : Wx X h H) (hZ : va_S (aA (eB X)) s.heap H locs) (hmn : mn = "<init>") (ha : hK h a = 10) (hr : hK h r = 18) (eh : h1 = wR h a 3 (some r)) (hdg : decode cc pc = .ok (.putfield 24, 3)) (kk : ∀ (H1 : Heap) (locs1 : List Loc), Wx X h1 H1 → Km h h1 → va_S (aA (eB X)) s.heap H1 locs1 → W p l e R s m args below meth c H1 locs1 cells slots Q (F0 m (pc + 3) ls rest)) : W p l e R s m args below meth c H locs cells slots Q (F0 m pc ls (.ref r :: .ref a :: rest)) :=
  y_putrF (ty := .array .long) C hW hZ ha i_X10 tyX10 tyX10_ok nmX10 (by decide) rfl rfl (by decide) m_231 rfl hmn rfl (by decide +kernel) rfl rfl rfl hr rfl (by decide) eh hdg kk
theorem pf_X10_20 {a r : Nat} (C : Cx X p s m args meth c RX10 cc nL rt mn) (hW : Wx X h H) (hZ : va_S (aA (eB X)) s.heap H locs) (hmn : mn = "<init>") (ha : hK h a = 10) (hr : hK h r = 18) (eh : h1 = wR h a 2 (some r)) (hdg : decode cc pc = .ok (.putfield 20, 3)) (kk : ∀ (H1 : Heap) (locs1 : List Loc), Wx X h1 H1 → Km h h1 → va_S (aA (eB X)) s.heap H1 locs1 → W p l e R s m args below meth c H1 locs1 cells slots Q (F0 m (pc + 3) ls rest)) : W p l e R s m args below meth c H locs cells slots Q (F0 m pc ls (.ref r :: .ref a :: rest)) :=
  y_putrF (ty := .array .long) C hW hZ ha i_X10 tyX10 tyX10_ok nmX10 (by decide) rfl rfl (by decide) m_229 rfl hmn rfl (by decide +kernel) rfl rfl rfl hr rfl (by decide) eh hdg kk
theorem pf_X10_17 {a r : Nat} (C : Cx X p s m args meth c RX10 cc nL rt mn) (hW : Wx X h H) (hZ : va_S (aA (eB X)) s.heap H locs) (hmn : mn = "<init>") (ha : hK h a = 10) (hr : hK h r = 17) (eh : h1 = wR h a 1 (some r)) (hdg : decode cc pc = .ok (.putfield 17, 3)) (kk : ∀ (H1 : Heap) (locs1 : List Loc), Wx X h1 H1 → Km h h1 → va_S (aA (eB X)) s.heap H1 locs1 → W p l e R s m args below meth c H1 locs1 cells slots Q (F0 m (pc + 3) ls rest)) : W p l e R s m args below meth c H locs cells slots Q (F0 m pc ls (.ref r :: .ref a :: rest)) :=
  y_putrF (ty := .array .int) C hW hZ ha i_X10 tyX10 tyX10_ok nmX10 (by decide) rfl rfl (by decide) m_227 rfl hmn rfl (by decide +kernel) rfl rfl rfl hr rfl (by decide) eh hdg kk
theorem pf_X10_10 {a r : Nat} (C : Cx X p s m args meth c RX10 cc nL rt mn) (hW : Wx X h H) (hZ : va_S (aA (eB X)) s.heap H locs) (hmn : mn = "<init>") (ha : hK h a = 10) (hr : hK h r = 17) (eh : h1 = wR h a 0 (some r)) (hdg : decode cc pc = .ok (.putfield 10, 3)) (kk : ∀ (H1 : Heap) (locs1 : List Loc), Wx X h1 H1 → Km h h1 → va_S (aA (eB X)) s.heap H1 locs1 → W p l e R s m args below meth c H1 locs1 cells slots Q (F0 m (pc + 3) ls rest)) : W p l e R s m args below meth c H locs cells slots Q (F0 m pc ls (.ref r :: .ref a :: rest)) :=
  y_putrF (ty := .array .int) C hW hZ ha i_X10 tyX10 tyX10_ok nmX10 (by decide) rfl rfl (by decide) m_225 rfl hmn rfl (by decide +kernel) rfl rfl rfl hr rfl (by decide) eh hdg kk
end
theorem dX10_init_0 : decode cX10_init 0 = .ok (.aload_n 0, 1) := by decide +kernel
theorem dX10_init_1 : decode cX10_init 1 = .ok (.invokespecial 3, 3) := by decide +kernel
theorem dX10_init_4 : decode cX10_init 4 = .ok (.aload_n 0, 1) := by decide +kernel
theorem dX10_init_5 : decode cX10_init 5 = .ok (.ldc 9, 2) := by decide +kernel
theorem dX10_init_7 : decode cX10_init 7 = .ok (.newarray .int, 2) := by decide +kernel
theorem dX10_init_9 : decode cX10_init 9 = .ok (.putfield 10, 3) := by decide +kernel
theorem dX10_init_12 : decode cX10_init 12 = .ok (.aload_n 0, 1) := by decide +kernel
theorem dX10_init_13 : decode cX10_init 13 = .ok (.ldc 16, 2) := by decide +kernel
theorem dX10_init_15 : decode cX10_init 15 = .ok (.newarray .int, 2) := by decide +kernel
theorem dX10_init_17 : decode cX10_init 17 = .ok (.putfield 17, 3) := by decide +kernel
theorem dX10_init_20 : decode cX10_init 20 = .ok (.aload_n 0, 1) := by decide +kernel
theorem dX10_init_21 : decode cX10_init 21 = .ok (.ldc 16, 2) := by decide +kernel
theorem dX10_init_23 : decode cX10_init 23 = .ok (.newarray .long, 2) := by decide +kernel
theorem dX10_init_25 : decode cX10_init 25 = .ok (.putfield 20, 3) := by decide +kernel
theorem dX10_init_28 : decode cX10_init 28 = .ok (.aload_n 0, 1) := by decide +kernel
theorem dX10_init_29 : decode cX10_init 29 = .ok (.sipush 1536, 3) := by decide +kernel
theorem dX10_init_32 : decode cX10_init 32 = .ok (.newarray .long, 2) := by decide +kernel
theorem dX10_init_34 : decode cX10_init 34 = .ok (.putfield 24, 3) := by decide +kernel
theorem dX10_init_37 : decode cX10_init 37 = .ok (.aload_n 0, 1) := by decide +kernel
theorem dX10_init_38 : decode cX10_init 38 = .ok (.sipush 1536, 3) := by decide +kernel
theorem dX10_init_41 : decode cX10_init 41 = .ok (.newarray .long, 2) := by decide +kernel
theorem dX10_init_43 : decode cX10_init 43 = .ok (.putfield 27, 3) := by decide +kernel
theorem dX10_init_46 : decode cX10_init 46 = .ok (.aload_n 0, 1) := by decide +kernel
theorem dX10_init_47 : decode cX10_init 47 = .ok (.bipush 64, 2) := by decide +kernel
theorem dX10_init_49 : decode cX10_init 49 = .ok (.newarray .long, 2) := by decide +kernel
theorem dX10_init_51 : decode cX10_init 51 = .ok (.putfield 30, 3) := by decide +kernel
theorem dX10_init_54 : decode cX10_init 54 = .ok (.aload_n 0, 1) := by decide +kernel
theorem dX10_init_55 : decode cX10_init 55 = .ok (.sipush 512, 3) := by decide +kernel
theorem dX10_init_58 : decode cX10_init 58 = .ok (.newarray .int, 2) := by decide +kernel
theorem dX10_init_60 : decode cX10_init 60 = .ok (.putfield 33, 3) := by decide +kernel
theorem dX10_init_63 : decode cX10_init 63 = .ok (.return_, 1) := by decide +kernel
set_option maxRecDepth 20000 in
theorem moX10_init_60 {o : Hp} {h : Hp} {t0 : Nat} {t1 : Nat} (hE : sX10_init_60 h  t0 t1 = some o) : Le h o := by
  obtain ⟨h_1, eh_1, hE⟩ := nm_e2 hE
  refine (le_R eh_1).tr ?_
  exact le_some1 hE
set_option maxRecDepth 20000 in
theorem moX10_init_51 {o : Hp} {h : Hp} {x0 : Nat} {t0 : Nat} {t1 : Nat} (hE : sX10_init_51 h x0 t0 t1 = some o) : Le h o := by
  obtain ⟨h_1, eh_1, hE⟩ := nm_e2 hE
  refine (le_R eh_1).tr ?_
  obtain ⟨a_2, ea_2, hE⟩ := nm_e2 hE
  obtain ⟨h_3, eh_3, hE⟩ := nm_e2 hE
  refine (le_C eh_3).tr ?_
  exact moX10_init_60 hE
set_option maxRecDepth 20000 in
theorem moX10_init_43 {o : Hp} {h : Hp} {x0 : Nat} {t0 : Nat} {t1 : Nat} (hE : sX10_init_43 h x0 t0 t1 = some o) : Le h o := by
  obtain ⟨h_1, eh_1, hE⟩ := nm_e2 hE
  refine (le_R eh_1).tr ?_
  obtain ⟨a_2, ea_2, hE⟩ := nm_e2 hE
  obtain ⟨h_3, eh_3, hE⟩ := nm_e2 hE
  refine (le_C eh_3).tr ?_
  exact moX10_init_51 hE
set_option maxRecDepth 20000 in
theorem moX10_init_34 {o : Hp} {h : Hp} {x0 : Nat} {t0 : Nat} {t1 : Nat} (hE : sX10_init_34 h x0 t0 t1 = some o) : Le h o := by
  obtain ⟨h_1, eh_1, hE⟩ := nm_e2 hE
  refine (le_R eh_1).tr ?_
  obtain ⟨a_2, ea_2, hE⟩ := nm_e2 hE
  obtain ⟨h_3, eh_3, hE⟩ := nm_e2 hE
  refine (le_C eh_3).tr ?_
  exact moX10_init_43 hE
set_option maxRecDepth 20000 in
theorem moX10_init_25 {o : Hp} {h : Hp} {x0 : Nat} {t0 : Nat} {t1 : Nat} (hE : sX10_init_25 h x0 t0 t1 = some o) : Le h o := by
  obtain ⟨h_1, eh_1, hE⟩ := nm_e2 hE
  refine (le_R eh_1).tr ?_
  obtain ⟨a_2, ea_2, hE⟩ := nm_e2 hE
  obtain ⟨h_3, eh_3, hE⟩ := nm_e2 hE
  refine (le_C eh_3).tr ?_
  exact moX10_init_34 hE
set_option maxRecDepth 20000 in
theorem moX10_init_17 {o : Hp} {h : Hp} {x0 : Nat} {t0 : Nat} {t1 : Nat} (hE : sX10_init_17 h x0 t0 t1 = some o) : Le h o := by
  obtain ⟨h_1, eh_1, hE⟩ := nm_e2 hE
  refine (le_R eh_1).tr ?_
  obtain ⟨a_2, ea_2, hE⟩ := nm_e2 hE
  obtain ⟨h_3, eh_3, hE⟩ := nm_e2 hE
  refine (le_C eh_3).tr ?_
  exact moX10_init_25 hE
set_option maxRecDepth 20000 in
theorem moX10_init_9 {o : Hp} {h : Hp} {x0 : Nat} {t0 : Nat} {t1 : Nat} (hE : sX10_init_9 h x0 t0 t1 = some o) : Le h o := by
  obtain ⟨h_1, eh_1, hE⟩ := nm_e2 hE
  refine (le_R eh_1).tr ?_
  obtain ⟨a_2, ea_2, hE⟩ := nm_e2 hE
  obtain ⟨h_3, eh_3, hE⟩ := nm_e2 hE
  refine (le_C eh_3).tr ?_
  exact moX10_init_17 hE
set_option maxRecDepth 20000 in
theorem moX10_init {o : Hp} {h : Hp} {x0 : Nat} (hE : sX10_init h x0 = some o) : Le h o := by
  obtain ⟨a_1, ea_1, hE⟩ := nm_e2 hE
  obtain ⟨h_2, eh_2, hE⟩ := nm_e2 hE
  refine (le_C eh_2).tr ?_
  exact moX10_init_9 hE
set_option maxRecDepth 20000 in
theorem bX10_init_60 {p : Program} {l : Launch} {e : Env} {s : State} {m : MethodId} {args : Array Value} {below : List Frame} {meth : Method} {c : Code} {X : Ec} {h0 : Hp} {o : Hp} (C : Cx X p s m args meth c RX10 cX10_init 1 none "<init>") {h : Hp} {t0 : Nat} {t1 : Nat} {H : Heap} {locs : List Loc} (k_t0 : hK h t0 = 17) (k_t1 : hK h t1 = 10) (hkl : Kl h0 h) (hW : Wx X h H) (hZ : va_S (aA (eB X)) s.heap H locs) (ls : Array Slot) (hl : lv_has ls 1 []) (hE : sX10_init_60 h  t0 t1 = some o) : W p l e (rmA 1 20 h0 o) s m args below meth c H locs (hS h - hS h0) (hL h - hL h0) (MQ below (QVA X h0 o) args s (hS o - hS h0) (hL o - hL h0) (aA (eB X))) (F0 m 60 ls [.ref t0, .ref t1]) := by
  obtain ⟨h_1, eh_1, hE⟩ := nm_e2 hE
  refine pf_X10_33 C hW hZ rfl k_t1 k_t0 eh_1 dX10_init_60 (fun _ _ hW km hZ => ?_)
  replace hkl := hkl.tr km.l
  refine x_wc km ?_
  exact x_vretA C rfl hW hZ hkl hE dX10_init_63
set_option maxRecDepth 20000 in
theorem bX10_init_51 {p : Program} {l : Launch} {e : Env} {s : State} {m : MethodId} {args : Array Value} {below : List Frame} {meth : Method} {c : Code} {X : Ec} {h0 : Hp} {o : Hp} (C : Cx X p s m args meth c RX10 cX10_init 1 none "<init>") {h : Hp} {x0 : Nat} {t0 : Nat} {t1 : Nat} {H : Heap} {locs : List Loc} (k_x0 : hK h x0 = 10) (k_t0 : hK h t0 = 18) (k_t1 : hK h t1 = 10) (hkl : Kl h0 h) (hW : Wx X h H) (hZ : va_S (aA (eB X)) s.heap H locs) (ls : Array Slot) (hl : lv_has ls 1 [(0, .ref x0)]) (hE : sX10_init_51 h x0 t0 t1 = some o) : W p l e (rmA 1 20 h0 o) s m args below meth c H locs (hS h - hS h0) (hL h - hL h0) (MQ below (QVA X h0 o) args s (hS o - hS h0) (hL o - hL h0) (aA (eB X))) (F0 m 51 ls [.ref t0, .ref t1]) := by
  obtain ⟨h_1, eh_1, hE⟩ := nm_e2 hE
  refine pf_X10_30 C hW hZ rfl k_t1 k_t0 eh_1 dX10_init_51 (fun _ _ hW km hZ => ?_)
  replace hkl := hkl.tr km.l
  refine x_wc km ?_
  replace k_x0 := km.at k_x0 (by decide)
  refine lv_aload_n C.1 C.2.1 dX10_init_54 rfl (lv_at hl 0 rfl) ?_
  refine lv_sipush (v := (512 : Int32)) C.1 C.2.1 dX10_init_55 (by decide) ?_
  obtain ⟨a_2, ea_2, hE⟩ := nm_e2 hE
  obtain ⟨h_3, eh_3, hE⟩ := nm_e2 hE
  refine y_newa (k := 17) (ty := .int) (t0 := 1) C hW hZ hkl (moX10_init_60 hE) ⟨rfl, rfl⟩ (by decide) (by decide) rfl rfl (by intro C hC; cases hC) hdef_17 m_54 (by decide) (by decide) eh_3 dX10_init_58 (fun _ hW km k_a_2 hZ => ?_)
  replace hkl := hkl.tr km
  refine x_nmA ea_2 ?_
  rw [← ea_2] at k_a_2
  replace k_x0 := km.at k_x0 (by decide)
  exact bX10_init_60 C k_a_2 k_x0 hkl hW hZ _ (lv_sub hl [] rfl) hE
set_option maxRecDepth 20000 in
theorem bX10_init_43 {p : Program} {l : Launch} {e : Env} {s : State} {m : MethodId} {args : Array Value} {below : List Frame} {meth : Method} {c : Code} {X : Ec} {h0 : Hp} {o : Hp} (C : Cx X p s m args meth c RX10 cX10_init 1 none "<init>") {h : Hp} {x0 : Nat} {t0 : Nat} {t1 : Nat} {H : Heap} {locs : List Loc} (k_x0 : hK h x0 = 10) (k_t0 : hK h t0 = 18) (k_t1 : hK h t1 = 10) (hkl : Kl h0 h) (hW : Wx X h H) (hZ : va_S (aA (eB X)) s.heap H locs) (ls : Array Slot) (hl : lv_has ls 1 [(0, .ref x0)]) (hE : sX10_init_43 h x0 t0 t1 = some o) : W p l e (rmA 1 20 h0 o) s m args below meth c H locs (hS h - hS h0) (hL h - hL h0) (MQ below (QVA X h0 o) args s (hS o - hS h0) (hL o - hL h0) (aA (eB X))) (F0 m 43 ls [.ref t0, .ref t1]) := by
  obtain ⟨h_1, eh_1, hE⟩ := nm_e2 hE
  refine pf_X10_27 C hW hZ rfl k_t1 k_t0 eh_1 dX10_init_43 (fun _ _ hW km hZ => ?_)
  replace hkl := hkl.tr km.l
  refine x_wc km ?_
  replace k_x0 := km.at k_x0 (by decide)
  refine lv_aload_n C.1 C.2.1 dX10_init_46 rfl (lv_at hl 0 rfl) ?_
  refine lv_bipush (v := (64 : Int32)) C.1 C.2.1 dX10_init_47 (by decide) ?_
  obtain ⟨a_2, ea_2, hE⟩ := nm_e2 hE
  obtain ⟨h_3, eh_3, hE⟩ := nm_e2 hE
  refine y_newa (k := 18) (ty := .long) (t0 := 2) C hW hZ hkl (moX10_init_51 hE) ⟨rfl, rfl⟩ (by decide) (by decide) rfl rfl (by intro C hC; cases hC) hdef_18 m_258 (by decide) (by decide) eh_3 dX10_init_49 (fun _ hW km k_a_2 hZ => ?_)
  replace hkl := hkl.tr km
  refine x_nmA ea_2 ?_
  rw [← ea_2] at k_a_2
  replace k_x0 := km.at k_x0 (by decide)
  exact bX10_init_51 C k_x0 k_a_2 k_x0 hkl hW hZ _ (lv_sub hl [0] rfl) hE
set_option maxRecDepth 20000 in
theorem bX10_init_34 {p : Program} {l : Launch} {e : Env} {s : State} {m : MethodId} {args : Array Value} {below : List Frame} {meth : Method} {c : Code} {X : Ec} {h0 : Hp} {o : Hp} (C : Cx X p s m args meth c RX10 cX10_init 1 none "<init>") {h : Hp} {x0 : Nat} {t0 : Nat} {t1 : Nat} {H : Heap} {locs : List Loc} (k_x0 : hK h x0 = 10) (k_t0 : hK h t0 = 18) (k_t1 : hK h t1 = 10) (hkl : Kl h0 h) (hW : Wx X h H) (hZ : va_S (aA (eB X)) s.heap H locs) (ls : Array Slot) (hl : lv_has ls 1 [(0, .ref x0)]) (hE : sX10_init_34 h x0 t0 t1 = some o) : W p l e (rmA 1 20 h0 o) s m args below meth c H locs (hS h - hS h0) (hL h - hL h0) (MQ below (QVA X h0 o) args s (hS o - hS h0) (hL o - hL h0) (aA (eB X))) (F0 m 34 ls [.ref t0, .ref t1]) := by
  obtain ⟨h_1, eh_1, hE⟩ := nm_e2 hE
  refine pf_X10_24 C hW hZ rfl k_t1 k_t0 eh_1 dX10_init_34 (fun _ _ hW km hZ => ?_)
  replace hkl := hkl.tr km.l
  refine x_wc km ?_
  replace k_x0 := km.at k_x0 (by decide)
  refine lv_aload_n C.1 C.2.1 dX10_init_37 rfl (lv_at hl 0 rfl) ?_
  refine lv_sipush (v := (1536 : Int32)) C.1 C.2.1 dX10_init_38 (by decide) ?_
  obtain ⟨a_2, ea_2, hE⟩ := nm_e2 hE
  obtain ⟨h_3, eh_3, hE⟩ := nm_e2 hE
  refine y_newa (k := 18) (ty := .long) (t0 := 2) C hW hZ hkl (moX10_init_43 hE) ⟨rfl, rfl⟩ (by decide) (by decide) rfl rfl (by intro C hC; cases hC) hdef_18 m_258 (by decide) (by decide) eh_3 dX10_init_41 (fun _ hW km k_a_2 hZ => ?_)
  replace hkl := hkl.tr km
  refine x_nmA ea_2 ?_
  rw [← ea_2] at k_a_2
  replace k_x0 := km.at k_x0 (by decide)
  exact bX10_init_43 C k_x0 k_a_2 k_x0 hkl hW hZ _ (lv_sub hl [0] rfl) hE
set_option maxRecDepth 20000 in
theorem bX10_init_25 {p : Program} {l : Launch} {e : Env} {s : State} {m : MethodId} {args : Array Value} {below : List Frame} {meth : Method} {c : Code} {X : Ec} {h0 : Hp} {o : Hp} (C : Cx X p s m args meth c RX10 cX10_init 1 none "<init>") {h : Hp} {x0 : Nat} {t0 : Nat} {t1 : Nat} {H : Heap} {locs : List Loc} (k_x0 : hK h x0 = 10) (k_t0 : hK h t0 = 18) (k_t1 : hK h t1 = 10) (hkl : Kl h0 h) (hW : Wx X h H) (hZ : va_S (aA (eB X)) s.heap H locs) (ls : Array Slot) (hl : lv_has ls 1 [(0, .ref x0)]) (hE : sX10_init_25 h x0 t0 t1 = some o) : W p l e (rmA 1 20 h0 o) s m args below meth c H locs (hS h - hS h0) (hL h - hL h0) (MQ below (QVA X h0 o) args s (hS o - hS h0) (hL o - hL h0) (aA (eB X))) (F0 m 25 ls [.ref t0, .ref t1]) := by
  obtain ⟨h_1, eh_1, hE⟩ := nm_e2 hE
  refine pf_X10_20 C hW hZ rfl k_t1 k_t0 eh_1 dX10_init_25 (fun _ _ hW km hZ => ?_)
  replace hkl := hkl.tr km.l
  refine x_wc km ?_
  replace k_x0 := km.at k_x0 (by decide)
  refine lv_aload_n C.1 C.2.1 dX10_init_28 rfl (lv_at hl 0 rfl) ?_
  refine lv_sipush (v := (1536 : Int32)) C.1 C.2.1 dX10_init_29 (by decide) ?_
  obtain ⟨a_2, ea_2, hE⟩ := nm_e2 hE
  obtain ⟨h_3, eh_3, hE⟩ := nm_e2 hE
  refine y_newa (k := 18) (ty := .long) (t0 := 2) C hW hZ hkl (moX10_init_34 hE) ⟨rfl, rfl⟩ (by decide) (by decide) rfl rfl (by intro C hC; cases hC) hdef_18 m_258 (by decide) (by decide) eh_3 dX10_init_32 (fun _ hW km k_a_2 hZ => ?_)
  replace hkl := hkl.tr km
  refine x_nmA ea_2 ?_
  rw [← ea_2] at k_a_2
  replace k_x0 := km.at k_x0 (by decide)
  exact bX10_init_34 C k_x0 k_a_2 k_x0 hkl hW hZ _ (lv_sub hl [0] rfl) hE
set_option maxRecDepth 20000 in
theorem bX10_init_17 {p : Program} {l : Launch} {e : Env} {s : State} {m : MethodId} {args : Array Value} {below : List Frame} {meth : Method} {c : Code} {X : Ec} {h0 : Hp} {o : Hp} (C : Cx X p s m args meth c RX10 cX10_init 1 none "<init>") {h : Hp} {x0 : Nat} {t0 : Nat} {t1 : Nat} {H : Heap} {locs : List Loc} (k_x0 : hK h x0 = 10) (k_t0 : hK h t0 = 17) (k_t1 : hK h t1 = 10) (hkl : Kl h0 h) (hW : Wx X h H) (hZ : va_S (aA (eB X)) s.heap H locs) (ls : Array Slot) (hl : lv_has ls 1 [(0, .ref x0)]) (hE : sX10_init_17 h x0 t0 t1 = some o) : W p l e (rmA 1 20 h0 o) s m args below meth c H locs (hS h - hS h0) (hL h - hL h0) (MQ below (QVA X h0 o) args s (hS o - hS h0) (hL o - hL h0) (aA (eB X))) (F0 m 17 ls [.ref t0, .ref t1]) := by
  obtain ⟨h_1, eh_1, hE⟩ := nm_e2 hE
  refine pf_X10_17 C hW hZ rfl k_t1 k_t0 eh_1 dX10_init_17 (fun _ _ hW km hZ => ?_)
  replace hkl := hkl.tr km.l
  refine x_wc km ?_
  replace k_x0 := km.at k_x0 (by decide)
  refine lv_aload_n C.1 C.2.1 dX10_init_20 rfl (lv_at hl 0 rfl) ?_
  refine lv_ldc (v := (172032 : Int32)) C.1 C.2.1 C.2.2.2.1 (C.2.2.2.2.1 _ m_224) dX10_init_21 ?_
  obtain ⟨a_2, ea_2, hE⟩ := nm_e2 hE
  obtain ⟨h_3, eh_3, hE⟩ := nm_e2 hE
  refine y_newa (k := 18) (ty := .long) (t0 := 2) C hW hZ hkl (moX10_init_25 hE) ⟨rfl, rfl⟩ (by decide) (by decide) rfl rfl (by intro C hC; cases hC) hdef_18 m_258 (by decide) (by decide) eh_3 dX10_init_23 (fun _ hW km k_a_2 hZ => ?_)
  replace hkl := hkl.tr km
  refine x_nmA ea_2 ?_
  rw [← ea_2] at k_a_2
  replace k_x0 := km.at k_x0 (by decide)
  exact bX10_init_25 C k_x0 k_a_2 k_x0 hkl hW hZ _ (lv_sub hl [0] rfl) hE
set_option maxRecDepth 20000 in
theorem bX10_init_9 {p : Program} {l : Launch} {e : Env} {s : State} {m : MethodId} {args : Array Value} {below : List Frame} {meth : Method} {c : Code} {X : Ec} {h0 : Hp} {o : Hp} (C : Cx X p s m args meth c RX10 cX10_init 1 none "<init>") {h : Hp} {x0 : Nat} {t0 : Nat} {t1 : Nat} {H : Heap} {locs : List Loc} (k_x0 : hK h x0 = 10) (k_t0 : hK h t0 = 17) (k_t1 : hK h t1 = 10) (hkl : Kl h0 h) (hW : Wx X h H) (hZ : va_S (aA (eB X)) s.heap H locs) (ls : Array Slot) (hl : lv_has ls 1 [(0, .ref x0)]) (hE : sX10_init_9 h x0 t0 t1 = some o) : W p l e (rmA 1 20 h0 o) s m args below meth c H locs (hS h - hS h0) (hL h - hL h0) (MQ below (QVA X h0 o) args s (hS o - hS h0) (hL o - hL h0) (aA (eB X))) (F0 m 9 ls [.ref t0, .ref t1]) := by
  obtain ⟨h_1, eh_1, hE⟩ := nm_e2 hE
  refine pf_X10_10 C hW hZ rfl k_t1 k_t0 eh_1 dX10_init_9 (fun _ _ hW km hZ => ?_)
  replace hkl := hkl.tr km.l
  refine x_wc km ?_
  replace k_x0 := km.at k_x0 (by decide)
  refine lv_aload_n C.1 C.2.1 dX10_init_12 rfl (lv_at hl 0 rfl) ?_
  refine lv_ldc (v := (172032 : Int32)) C.1 C.2.1 C.2.2.2.1 (C.2.2.2.2.1 _ m_224) dX10_init_13 ?_
  obtain ⟨a_2, ea_2, hE⟩ := nm_e2 hE
  obtain ⟨h_3, eh_3, hE⟩ := nm_e2 hE
  refine y_newa (k := 17) (ty := .int) (t0 := 1) C hW hZ hkl (moX10_init_17 hE) ⟨rfl, rfl⟩ (by decide) (by decide) rfl rfl (by intro C hC; cases hC) hdef_17 m_54 (by decide) (by decide) eh_3 dX10_init_15 (fun _ hW km k_a_2 hZ => ?_)
  replace hkl := hkl.tr km
  refine x_nmA ea_2 ?_
  rw [← ea_2] at k_a_2
  replace k_x0 := km.at k_x0 (by decide)
  exact bX10_init_17 C k_x0 k_a_2 k_x0 hkl hW hZ _ (lv_sub hl [0] rfl) hE
set_option maxRecDepth 20000 in
theorem ct_X10_init (l : Launch) (X : Ec) {h : Hp} {x0 : Nat} {o : Hp} (k_x0 : hK h x0 = 10) (hE : sX10_init h x0 = some o) : MetVA l yX10_init cX10_init 1 none 1 20 X [.ref x0] h o := by
  refine x_metA (oh := o) (by decide) (Nat.le_of_ble_eq_true rfl) ?_
  intro p e s m below meth c ls C hl hW hZ
  have hl : lv_has ls 1 [(0, .ref x0)] := hl
  have hkl : Kl h h := Kl.rf h
  refine lv_aload_n C.1 C.2.1 dX10_init_0 rfl (lv_at hl 0 rfl) ?_
  refine W.objInit C.1 C.2.1 C.2.2.2.1 (C.2.2.2.2.1 _ m_222) (C.2.2.2.2.1 _ m_32) (C.2.2.2.2.1 _ m_33) rfl (by rw [C.2.2.1]; exact hl.1) rfl dX10_init_1 (Nat.le_of_ble_eq_true rfl) (Nat.le_of_ble_eq_true rfl) ?_
  refine W.eq (g2 := F0 m 4 ls []) rfl ?_
  refine lv_aload_n C.1 C.2.1 dX10_init_4 rfl (lv_at hl 0 rfl) ?_
  refine lv_ldc (v := (98305 : Int32)) C.1 C.2.1 C.2.2.2.1 (C.2.2.2.2.1 _ m_223) dX10_init_5 ?_
  obtain ⟨a_1, ea_1, hE⟩ := nm_e2 hE
  obtain ⟨h_2, eh_2, hE⟩ := nm_e2 hE
  refine y_newa (k := 17) (ty := .int) (t0 := 1) C hW hZ hkl (moX10_init_9 hE) ⟨rfl, rfl⟩ (by decide) (by decide) rfl rfl (by intro C hC; cases hC) hdef_17 m_54 (by decide) (by decide) eh_2 dX10_init_7 (fun _ hW km k_a_1 hZ => ?_)
  replace hkl := hkl.tr km
  refine x_nmA ea_1 ?_
  rw [← ea_1] at k_a_1
  replace k_x0 := km.at k_x0 (by decide)
  exact bX10_init_9 C k_x0 k_a_1 k_x0 hkl hW hZ _ (lv_sub hl [0] rfl) hE
set_option maxRecDepth 100000 in
theorem m_64 : Cond.fieldLink RX10 111 (TX1 0).1 (TX1 0).2.1 (TX1 0).2.2.1 ∈ W0 := w0_in (List.mem_append_right _ (List.mem_of_getElem? (i := 64) rfl)) rfl
set_option maxRecDepth 100000 in
theorem m_70 : Cond.fieldLink RX10 97 (TX1 1).1 (TX1 1).2.1 (TX1 1).2.2.1 ∈ W0 := w0_in (List.mem_append_right _ (List.mem_of_getElem? (i := 70) rfl)) rfl
set_option maxRecDepth 100000 in
theorem m_237 : Cond.fieldLink RX10 36 (TX10 7).1 (TX10 7).2.1 (TX10 7).2.2.1 ∈ W0 := w0_in (List.mem_append_right _ (List.mem_of_getElem? (i := 237) rfl)) rfl
section
variable {p : Program} {l : Launch} {e : Env} {R : Room} {s : State} {m : MethodId} {args : Array Value} {below : List Frame} {meth : Method} {c : Code} {H : Heap} {locs : List Loc} {cells slots : Nat} {Q : State → Prop}
variable {cc : ByteArray} {pc : Nat} {ls : Array Slot} {rest : List Value} {X : Ec} {h h1 : Hp} {nL : Nat} {rt : Option FieldType} {mn : String}
theorem gf_X10_36 {a r : Nat} (C : Cx X p s m args meth c RX10 cc nL rt mn) (hW : Wx X h H) (ha : hK h a = 10) (hr : hR h a 7 = some r) (hdg : decode cc pc = .ok (.getfield 36, 3)) (kk : hK h r = 1 → W p l e R s m args below meth c H locs cells slots Q (F0 m (pc + 3) ls (.ref r :: rest))) : W p l e R s m args below meth c H locs cells slots Q (F0 m pc ls (.ref a :: rest)) :=
  y_getr C hW ha i_X10 (by decide) rfl (by decide) m_237 rfl rfl hr hdg kk
theorem gf_X10_111 {a : Nat} (C : Cx X p s m args meth c RX10 cc nL rt mn) (hW : Wx X h H) (ha : hK h a = 1) (hdg : decode cc pc = .ok (.getfield 111, 3)) (kk : W p l e R s m args below meth c H locs cells slots Q (F0 m (pc + 3) ls (.int (hI h a 0) :: rest))) : W p l e R s m args below meth c H locs cells slots Q (F0 m pc ls (.ref a :: rest)) :=
  y_geti C hW ha i_X1 (by decide) rfl (by decide) m_64 rfl hdg kk
theorem gf_X10_97 {a : Nat} (C : Cx X p s m args meth c RX10 cc nL rt mn) (hW : Wx X h H) (ha : hK h a = 1) (hdg : decode cc pc = .ok (.getfield 97, 3)) (kk : W p l e R s m args below meth c H locs cells slots Q (F0 m (pc + 3) ls (.int (hI h a 1) :: rest))) : W p l e R s m args below meth c H locs cells slots Q (F0 m pc ls (.ref a :: rest)) :=
  y_geti C hW ha i_X1 (by decide) rfl (by decide) m_70 rfl hdg kk
end
theorem dX10_isOn_0 : decode cX10_isOn 0 = .ok (.iload_n 1, 1) := by decide +kernel
theorem dX10_isOn_1 : decode cX10_isOn 1 = .ok (.ifCond .lt 33, 3) := by decide +kernel
theorem dX10_isOn_4 : decode cX10_isOn 4 = .ok (.iload_n 1, 1) := by decide +kernel
theorem dX10_isOn_5 : decode cX10_isOn 5 = .ok (.aload_n 0, 1) := by decide +kernel
theorem dX10_isOn_6 : decode cX10_isOn 6 = .ok (.getfield 36, 3) := by decide +kernel
theorem dX10_isOn_9 : decode cX10_isOn 9 = .ok (.getfield 111, 3) := by decide +kernel
theorem dX10_isOn_12 : decode cX10_isOn 12 = .ok (.if_icmp .ge 22, 3) := by decide +kernel
theorem dX10_isOn_15 : decode cX10_isOn 15 = .ok (.iload_n 2, 1) := by decide +kernel
theorem dX10_isOn_16 : decode cX10_isOn 16 = .ok (.ifCond .lt 18, 3) := by decide +kernel
theorem dX10_isOn_19 : decode cX10_isOn 19 = .ok (.iload_n 2, 1) := by decide +kernel
theorem dX10_isOn_20 : decode cX10_isOn 20 = .ok (.aload_n 0, 1) := by decide +kernel
theorem dX10_isOn_21 : decode cX10_isOn 21 = .ok (.getfield 36, 3) := by decide +kernel
theorem dX10_isOn_24 : decode cX10_isOn 24 = .ok (.getfield 97, 3) := by decide +kernel
theorem dX10_isOn_27 : decode cX10_isOn 27 = .ok (.if_icmp .ge 7, 3) := by decide +kernel
theorem dX10_isOn_30 : decode cX10_isOn 30 = .ok (.iconst 1, 1) := by decide +kernel
theorem dX10_isOn_31 : decode cX10_isOn 31 = .ok (.goto 4, 3) := by decide +kernel
theorem dX10_isOn_34 : decode cX10_isOn 34 = .ok (.iconst 0, 1) := by decide +kernel
theorem dX10_isOn_35 : decode cX10_isOn 35 = .ok (.ireturn, 1) := by decide +kernel
set_option maxRecDepth 20000 in
theorem moX10_isOn_35 {o : Int32 × Hp} {h : Hp} {t0 : Int32} (hE : sX10_isOn_35 h  t0 = some o) : Le h o.2 := by
  obtain ⟨g_1, hE⟩ := gd_e hE
  exact le_some2 hE
set_option maxRecDepth 20000 in
theorem moX10_isOn_34 {o : Int32 × Hp} {h : Hp} (hE : sX10_isOn_34 h  = some o) : Le h o.2 := by
  exact moX10_isOn_35 hE
set_option maxRecDepth 20000 in
theorem moX10_isOn {o : Int32 × Hp} {h : Hp} {x0 : Nat} {x1 : Int32} {x2 : Int32} (hE : sX10_isOn h x0 x1 x2 = some o) : Le h o.2 := by
  rcases br_e hE with ⟨_, hE⟩ | ⟨_, hE⟩
  · exact moX10_isOn_34 hE
  · obtain ⟨r_2, er_2, hE⟩ := cl_e hE
    rcases br_e hE with ⟨_, hE⟩ | ⟨_, hE⟩
    · exact moX10_isOn_34 hE
    · rcases br_e hE with ⟨_, hE⟩ | ⟨_, hE⟩
      · exact moX10_isOn_34 hE
      · obtain ⟨r_5, er_5, hE⟩ := cl_e hE
        rcases br_e hE with ⟨_, hE⟩ | ⟨_, hE⟩
        · exact moX10_isOn_34 hE
        · exact moX10_isOn_35 hE
set_option maxRecDepth 20000 in
theorem bX10_isOn_35 {p : Program} {l : Launch} {e : Env} {s : State} {m : MethodId} {args : Array Value} {below : List Frame} {meth : Method} {c : Code} {X : Ec} {h0 : Hp} {o : Int32 × Hp} (C : Cx X p s m args meth c RX10 cX10_isOn 3 (some .boolean) "isOn") {h : Hp} {t0 : Int32} {H : Heap} {locs : List Loc} (hkm : Km h0 h) (hW : Wx X h H) (hZ : va_S (aA (eB X)) s.heap H locs) (ls : Array Slot) (hl : lv_has ls 3 []) (hE : sX10_isOn_35 h  t0 = some o) : W p l e (rm 0 0) s m args below meth c H locs 0 0 (MQ below (QI X h0 o.1 o.2) args s 0 0 (aA (eB X))) (F0 m 35 ls [.int t0]) := by
  obtain ⟨g_1, hE⟩ := gd_e hE
  exact x_iret C rfl (narB g_1) hW hZ hkm hE dX10_isOn_35
set_option maxRecDepth 20000 in
theorem bX10_isOn_34 {p : Program} {l : Launch} {e : Env} {s : State} {m : MethodId} {args : Array Value} {below : List Frame} {meth : Method} {c : Code} {X : Ec} {h0 : Hp} {o : Int32 × Hp} (C : Cx X p s m args meth c RX10 cX10_isOn 3 (some .boolean) "isOn") {h : Hp} {H : Heap} {locs : List Loc} (hkm : Km h0 h) (hW : Wx X h H) (hZ : va_S (aA (eB X)) s.heap H locs) (ls : Array Slot) (hl : lv_has ls 3 []) (hE : sX10_isOn_34 h  = some o) : W p l e (rm 0 0) s m args below meth c H locs 0 0 (MQ below (QI X h0 o.1 o.2) args s 0 0 (aA (eB X))) (F0 m 34 ls []) := by
  refine lv_iconst (v := (0 : Int32)) C.1 C.2.1 dX10_isOn_34 (by decide) ?_
  exact bX10_isOn_35 C hkm hW hZ _ (lv_sub hl [] rfl) hE
set_option maxRecDepth 20000 in
theorem ct_X10_isOn (l : Launch) (X : Ec) {h : Hp} {x0 : Nat} {x1 : Int32} {x2 : Int32} {o : Int32 × Hp} (k_x0 : hK h x0 = 10) (hE : sX10_isOn h x0 x1 x2 = some o) : MetI l yX10_isOn cX10_isOn 3 (some .boolean) 0 0 X [.ref x0, .int x1, .int x2] h o := by
  refine x_met (by decide) (Nat.le_of_ble_eq_true rfl) ?_
  intro p e s m below meth c ls C hl hW hZ
  have hl : lv_has ls 3 [(0, .ref x0), (1, .int x1), (2, .int x2)] := hl
  have hkm : Km h h := Km.rf h
  refine lv_iload_n C.1 C.2.1 dX10_isOn_0 rfl (lv_at hl 1 rfl) ?_
  refine lv_if_lt (tgt := 34) C.1 C.2.1 dX10_isOn_1 (by decide) (fun c_1 => ?_) (fun c_1 => ?_)
  · have hE := br_p hE c_1
    exact bX10_isOn_34 C hkm hW hZ _ (lv_sub hl [] rfl) hE
  · have hE := br_n hE c_1
    refine lv_iload_n C.1 C.2.1 dX10_isOn_4 rfl (lv_at hl 1 rfl) ?_
    refine lv_aload_n C.1 C.2.1 dX10_isOn_5 rfl (lv_at hl 0 rfl) ?_
    obtain ⟨r_2, er_2, hE⟩ := cl_e hE
    refine gf_X10_36 C hW k_x0 er_2 dX10_isOn_6 (fun k_r_2 => ?_)
    refine gf_X10_111 C hW k_r_2 dX10_isOn_9 ?_
    refine lv_icmp_ge (tgt := 34) C.1 C.2.1 dX10_isOn_12 (by decide) (fun c_3 => ?_) (fun c_3 => ?_)
    · have hE := br_p hE c_3
      exact bX10_isOn_34 C hkm hW hZ _ (lv_sub hl [] rfl) hE
    · have hE := br_n hE c_3
      refine lv_iload_n C.1 C.2.1 dX10_isOn_15 rfl (lv_at hl 2 rfl) ?_
      refine lv_if_lt (tgt := 34) C.1 C.2.1 dX10_isOn_16 (by decide) (fun c_4 => ?_) (fun c_4 => ?_)
      · have hE := br_p hE c_4
        exact bX10_isOn_34 C hkm hW hZ _ (lv_sub hl [] rfl) hE
      · have hE := br_n hE c_4
        refine lv_iload_n C.1 C.2.1 dX10_isOn_19 rfl (lv_at hl 2 rfl) ?_
        refine lv_aload_n C.1 C.2.1 dX10_isOn_20 rfl (lv_at hl 0 rfl) ?_
        obtain ⟨r_5, er_5, hE⟩ := cl_e hE
        refine gf_X10_36 C hW k_x0 er_5 dX10_isOn_21 (fun k_r_5 => ?_)
        refine gf_X10_97 C hW k_r_5 dX10_isOn_24 ?_
        refine lv_icmp_ge (tgt := 34) C.1 C.2.1 dX10_isOn_27 (by decide) (fun c_6 => ?_) (fun c_6 => ?_)
        · have hE := br_p hE c_6
          exact bX10_isOn_34 C hkm hW hZ _ (lv_sub hl [] rfl) hE
        · have hE := br_n hE c_6
          refine lv_iconst (v := (1 : Int32)) C.1 C.2.1 dX10_isOn_30 (by decide) ?_
          refine lv_goto (tgt := 35) C.1 C.2.1 dX10_isOn_31 (by decide) ?_
          exact bX10_isOn_35 C hkm hW hZ _ (lv_sub hl [] rfl) hE
set_option maxRecDepth 100000 in
theorem ms_25 : Cond.selects RX10 yX10_isOn yX10_isOn ∈ W0 := w0_in (List.mem_append_left _ (List.mem_of_getElem? (i := 25) rfl)) rfl
set_option maxRecDepth 100000 in
theorem m_6 : Cond.initialized RX10 ∈ W0 := w0_in (List.mem_append_right _ (List.mem_of_getElem? (i := 6) rfl)) rfl
set_option maxRecDepth 100000 in
theorem m_137 : Cond.fieldLink RX10 104 (TX1 19).1 (TX1 19).2.1 (TX1 19).2.2.1 ∈ W0 := w0_in (List.mem_append_right _ (List.mem_of_getElem? (i := 137) rfl)) rfl
set_option maxRecDepth 100000 in
theorem m_143 : Cond.fieldLink RX10 94 (TX1 20).1 (TX1 20).2.1 (TX1 20).2.2.1 ∈ W0 := w0_in (List.mem_append_right _ (List.mem_of_getElem? (i := 143) rfl)) rfl
set_option maxRecDepth 100000 in
theorem m_810 : Cond.methodLink RX10 107 yX10_isOn ∈ W0 := w0_in (List.mem_append_right _ (List.mem_of_getElem? (i := 810) rfl)) rfl
set_option maxRecDepth 100000 in
theorem m_812 : Cond.instanceMethod yX10_isOn ∈ W0 := w0_in (List.mem_append_right _ (List.mem_of_getElem? (i := 812) rfl)) rfl
set_option maxRecDepth 100000 in
theorem m_813 : Cond.code yX10_isOn cX10_isOn 3 (some .boolean) ∈ W0 := w0_in (List.mem_append_right _ (List.mem_of_getElem? (i := 813) rfl)) rfl
section
variable {p : Program} {l : Launch} {e : Env} {R : Room} {s : State} {m : MethodId} {args : Array Value} {below : List Frame} {meth : Method} {c : Code} {H : Heap} {locs : List Loc} {cells slots : Nat} {Q : State → Prop}
variable {cc : ByteArray} {pc : Nat} {ls : Array Slot} {rest : List Value} {X : Ec} {h h1 : Hp} {nL : Nat} {rt : Option FieldType} {mn : String}
theorem gf_X10_33 {a r : Nat} (C : Cx X p s m args meth c RX10 cc nL rt mn) (hW : Wx X h H) (ha : hK h a = 10) (hr : hR h a 6 = some r) (hdg : decode cc pc = .ok (.getfield 33, 3)) (kk : hK h r = 17 → W p l e R s m args below meth c H locs cells slots Q (F0 m (pc + 3) ls (.ref r :: rest))) : W p l e R s m args below meth c H locs cells slots Q (F0 m pc ls (.ref a :: rest)) :=
  y_getr C hW ha i_X10 (by decide) rfl (by decide) m_236 rfl rfl hr hdg kk
theorem gf_X10_104 {a r : Nat} (C : Cx X p s m args meth c RX10 cc nL rt mn) (hW : Wx X h H) (ha : hK h a = 1) (hr : hR h a 19 = some r) (hdg : decode cc pc = .ok (.getfield 104, 3)) (kk : hK h r = 17 → W p l e R s m args below meth c H locs cells slots Q (F0 m (pc + 3) ls (.ref r :: rest))) : W p l e R s m args below meth c H locs cells slots Q (F0 m pc ls (.ref a :: rest)) :=
  y_getr C hW ha i_X1 (by decide) rfl (by decide) m_137 rfl rfl hr hdg kk
theorem gf_X10_94 {a r : Nat} (C : Cx X p s m args meth c RX10 cc nL rt mn) (hW : Wx X h H) (ha : hK h a = 1) (hr : hR h a 20 = some r) (hdg : decode cc pc = .ok (.getfield 94, 3)) (kk : hK h r = 17 → W p l e R s m args below meth c H locs cells slots Q (F0 m (pc + 3) ls (.ref r :: rest))) : W p l e R s m args below meth c H locs cells slots Q (F0 m pc ls (.ref a :: rest)) :=
  y_getr C hW ha i_X1 (by decide) rfl (by decide) m_143 rfl rfl hr hdg kk
end
theorem cw_X10_107 : cwd RX10 107 yX10_isOn cX10_isOn 3 (some .boolean) false 2 := ⟨m_813, m_810, m_6, ⟨m_812, ms_25⟩, by decide, by decide, by decide +kernel⟩
theorem dX10_ride_0 : decode cX10_ride 0 = .ok (.iload_n 3, 1) := by decide +kernel
theorem dX10_ride_1 : decode cX10_ride 1 = .ok (.bipush 6, 2) := by decide +kernel
theorem dX10_ride_3 : decode cX10_ride 3 = .ok (.ishr, 1) := by decide +kernel
theorem dX10_ride_4 : decode cX10_ride 4 = .ok (.bipush 15, 2) := by decide +kernel
theorem dX10_ride_6 : decode cX10_ride 6 = .ok (.iand, 1) := by decide +kernel
theorem dX10_ride_7 : decode cX10_ride 7 = .ok (.bipush 8, 2) := by decide +kernel
theorem dX10_ride_9 : decode cX10_ride 9 = .ok (.isub, 1) := by decide +kernel
theorem dX10_ride_10 : decode cX10_ride 10 = .ok (.istore 6, 2) := by decide +kernel
theorem dX10_ride_12 : decode cX10_ride 12 = .ok (.iload_n 3, 1) := by decide +kernel
theorem dX10_ride_13 : decode cX10_ride 13 = .ok (.bipush 10, 2) := by decide +kernel
theorem dX10_ride_15 : decode cX10_ride 15 = .ok (.ishr, 1) := by decide +kernel
theorem dX10_ride_16 : decode cX10_ride 16 = .ok (.bipush 15, 2) := by decide +kernel
theorem dX10_ride_18 : decode cX10_ride 18 = .ok (.iand, 1) := by decide +kernel
theorem dX10_ride_19 : decode cX10_ride 19 = .ok (.bipush 8, 2) := by decide +kernel
theorem dX10_ride_21 : decode cX10_ride 21 = .ok (.isub, 1) := by decide +kernel
theorem dX10_ride_22 : decode cX10_ride 22 = .ok (.istore 7, 2) := by decide +kernel
theorem dX10_ride_24 : decode cX10_ride 24 = .ok (.iload_n 3, 1) := by decide +kernel
theorem dX10_ride_25 : decode cX10_ride 25 = .ok (.iconst 4, 1) := by decide +kernel
theorem dX10_ride_26 : decode cX10_ride 26 = .ok (.iand, 1) := by decide +kernel
theorem dX10_ride_27 : decode cX10_ride 27 = .ok (.ifCond .eq 7, 3) := by decide +kernel
theorem dX10_ride_30 : decode cX10_ride 30 = .ok (.iconst 1, 1) := by decide +kernel
theorem dX10_ride_31 : decode cX10_ride 31 = .ok (.goto 4, 3) := by decide +kernel
theorem dX10_ride_34 : decode cX10_ride 34 = .ok (.iconst 0, 1) := by decide +kernel
theorem dX10_ride_35 : decode cX10_ride 35 = .ok (.istore 8, 2) := by decide +kernel
theorem dX10_ride_37 : decode cX10_ride 37 = .ok (.iload 8, 2) := by decide +kernel
theorem dX10_ride_39 : decode cX10_ride 39 = .ok (.ifCond .eq 8, 3) := by decide +kernel
theorem dX10_ride_42 : decode cX10_ride 42 = .ok (.iload 6, 2) := by decide +kernel
theorem dX10_ride_44 : decode cX10_ride 44 = .ok (.goto 17, 3) := by decide +kernel
theorem dX10_ride_47 : decode cX10_ride 47 = .ok (.iload 4, 2) := by decide +kernel
theorem dX10_ride_49 : decode cX10_ride 49 = .ok (.iconst 4, 1) := by decide +kernel
theorem dX10_ride_50 : decode cX10_ride 50 = .ok (.iand, 1) := by decide +kernel
theorem dX10_ride_51 : decode cX10_ride 51 = .ok (.ifCond .ne 8, 3) := by decide +kernel
theorem dX10_ride_54 : decode cX10_ride 54 = .ok (.iload 6, 2) := by decide +kernel
theorem dX10_ride_56 : decode cX10_ride 56 = .ok (.goto 5, 3) := by decide +kernel
theorem dX10_ride_59 : decode cX10_ride 59 = .ok (.iload 7, 2) := by decide +kernel
theorem dX10_ride_61 : decode cX10_ride 61 = .ok (.istore 9, 2) := by decide +kernel
theorem dX10_ride_63 : decode cX10_ride 63 = .ok (.iload 8, 2) := by decide +kernel
theorem dX10_ride_65 : decode cX10_ride 65 = .ok (.ifCond .eq 8, 3) := by decide +kernel
theorem dX10_ride_68 : decode cX10_ride 68 = .ok (.iload 7, 2) := by decide +kernel
theorem dX10_ride_70 : decode cX10_ride 70 = .ok (.goto 17, 3) := by decide +kernel
theorem dX10_ride_73 : decode cX10_ride 73 = .ok (.iload 4, 2) := by decide +kernel
theorem dX10_ride_75 : decode cX10_ride 75 = .ok (.iconst 4, 1) := by decide +kernel
theorem dX10_ride_76 : decode cX10_ride 76 = .ok (.iand, 1) := by decide +kernel
theorem dX10_ride_77 : decode cX10_ride 77 = .ok (.ifCond .ne 8, 3) := by decide +kernel
theorem dX10_ride_80 : decode cX10_ride 80 = .ok (.iload 7, 2) := by decide +kernel
theorem dX10_ride_82 : decode cX10_ride 82 = .ok (.goto 5, 3) := by decide +kernel
theorem dX10_ride_85 : decode cX10_ride 85 = .ok (.iload 6, 2) := by decide +kernel
theorem dX10_ride_87 : decode cX10_ride 87 = .ok (.istore 10, 2) := by decide +kernel
theorem dX10_ride_89 : decode cX10_ride 89 = .ok (.iload 4, 2) := by decide +kernel
theorem dX10_ride_91 : decode cX10_ride 91 = .ok (.iconst 1, 1) := by decide +kernel
theorem dX10_ride_92 : decode cX10_ride 92 = .ok (.iand, 1) := by decide +kernel
theorem dX10_ride_93 : decode cX10_ride 93 = .ok (.ifCond .eq 8, 3) := by decide +kernel
theorem dX10_ride_96 : decode cX10_ride 96 = .ok (.iload 9, 2) := by decide +kernel
theorem dX10_ride_98 : decode cX10_ride 98 = .ok (.ineg, 1) := by decide +kernel
theorem dX10_ride_99 : decode cX10_ride 99 = .ok (.istore 9, 2) := by decide +kernel
theorem dX10_ride_101 : decode cX10_ride 101 = .ok (.iload 4, 2) := by decide +kernel
theorem dX10_ride_103 : decode cX10_ride 103 = .ok (.iconst 2, 1) := by decide +kernel
theorem dX10_ride_104 : decode cX10_ride 104 = .ok (.iand, 1) := by decide +kernel
theorem dX10_ride_105 : decode cX10_ride 105 = .ok (.ifCond .ne 14, 3) := by decide +kernel
theorem dX10_ride_108 : decode cX10_ride 108 = .ok (.iload 8, 2) := by decide +kernel
theorem dX10_ride_110 : decode cX10_ride 110 = .ok (.ifCond .eq 14, 3) := by decide +kernel
theorem dX10_ride_113 : decode cX10_ride 113 = .ok (.iload 5, 2) := by decide +kernel
theorem dX10_ride_115 : decode cX10_ride 115 = .ok (.iconst 1, 1) := by decide +kernel
theorem dX10_ride_116 : decode cX10_ride 116 = .ok (.if_icmp .ne 8, 3) := by decide +kernel
theorem dX10_ride_119 : decode cX10_ride 119 = .ok (.iload 10, 2) := by decide +kernel
theorem dX10_ride_121 : decode cX10_ride 121 = .ok (.ineg, 1) := by decide +kernel
theorem dX10_ride_122 : decode cX10_ride 122 = .ok (.istore 10, 2) := by decide +kernel
theorem dX10_ride_124 : decode cX10_ride 124 = .ok (.lconst 0, 1) := by decide +kernel
theorem dX10_ride_125 : decode cX10_ride 125 = .ok (.lstore 11, 2) := by decide +kernel
theorem dX10_ride_127 : decode cX10_ride 127 = .ok (.aload_n 0, 1) := by decide +kernel
theorem dX10_ride_128 : decode cX10_ride 128 = .ok (.getfield 36, 3) := by decide +kernel
theorem dX10_ride_131 : decode cX10_ride 131 = .ok (.getfield 104, 3) := by decide +kernel
theorem dX10_ride_134 : decode cX10_ride 134 = .ok (.iload_n 1, 1) := by decide +kernel
theorem dX10_ride_135 : decode cX10_ride 135 = .ok (.iaload, 1) := by decide +kernel
theorem dX10_ride_136 : decode cX10_ride 136 = .ok (.iload 9, 2) := by decide +kernel
theorem dX10_ride_138 : decode cX10_ride 138 = .ok (.iadd, 1) := by decide +kernel
theorem dX10_ride_139 : decode cX10_ride 139 = .ok (.istore 13, 2) := by decide +kernel
theorem dX10_ride_141 : decode cX10_ride 141 = .ok (.aload_n 0, 1) := by decide +kernel
theorem dX10_ride_142 : decode cX10_ride 142 = .ok (.getfield 36, 3) := by decide +kernel
theorem dX10_ride_145 : decode cX10_ride 145 = .ok (.getfield 94, 3) := by decide +kernel
theorem dX10_ride_148 : decode cX10_ride 148 = .ok (.iload_n 1, 1) := by decide +kernel
theorem dX10_ride_149 : decode cX10_ride 149 = .ok (.iaload, 1) := by decide +kernel
theorem dX10_ride_150 : decode cX10_ride 150 = .ok (.iload 10, 2) := by decide +kernel
theorem dX10_ride_152 : decode cX10_ride 152 = .ok (.iadd, 1) := by decide +kernel
theorem dX10_ride_153 : decode cX10_ride 153 = .ok (.istore 14, 2) := by decide +kernel
theorem dX10_ride_155 : decode cX10_ride 155 = .ok (.iconst 1, 1) := by decide +kernel
theorem dX10_ride_156 : decode cX10_ride 156 = .ok (.istore 15, 2) := by decide +kernel
theorem dX10_ride_158 : decode cX10_ride 158 = .ok (.iload 15, 2) := by decide +kernel
theorem dX10_ride_160 : decode cX10_ride 160 = .ok (.iload_n 3, 1) := by decide +kernel
theorem dX10_ride_161 : decode cX10_ride 161 = .ok (.bipush 14, 2) := by decide +kernel
theorem dX10_ride_163 : decode cX10_ride 163 = .ok (.ishr, 1) := by decide +kernel
theorem dX10_ride_164 : decode cX10_ride 164 = .ok (.bipush 7, 2) := by decide +kernel
theorem dX10_ride_166 : decode cX10_ride 166 = .ok (.iand, 1) := by decide +kernel
theorem dX10_ride_167 : decode cX10_ride 167 = .ok (.if_icmp .gt 72, 3) := by decide +kernel
theorem dX10_ride_170 : decode cX10_ride 170 = .ok (.aload_n 0, 1) := by decide +kernel
theorem dX10_ride_171 : decode cX10_ride 171 = .ok (.iload 13, 2) := by decide +kernel
theorem dX10_ride_173 : decode cX10_ride 173 = .ok (.iload 14, 2) := by decide +kernel
theorem dX10_ride_175 : decode cX10_ride 175 = .ok (.invokevirtual 107, 3) := by decide +kernel
theorem dX10_ride_178 : decode cX10_ride 178 = .ok (.ifCond .eq 61, 3) := by decide +kernel
theorem dX10_ride_181 : decode cX10_ride 181 = .ok (.iload 14, 2) := by decide +kernel
theorem dX10_ride_183 : decode cX10_ride 183 = .ok (.aload_n 0, 1) := by decide +kernel
theorem dX10_ride_184 : decode cX10_ride 184 = .ok (.getfield 36, 3) := by decide +kernel
theorem dX10_ride_187 : decode cX10_ride 187 = .ok (.getfield 111, 3) := by decide +kernel
theorem dX10_ride_190 : decode cX10_ride 190 = .ok (.imul, 1) := by decide +kernel
theorem dX10_ride_191 : decode cX10_ride 191 = .ok (.iload 13, 2) := by decide +kernel
theorem dX10_ride_193 : decode cX10_ride 193 = .ok (.iadd, 1) := by decide +kernel
theorem dX10_ride_194 : decode cX10_ride 194 = .ok (.istore 16, 2) := by decide +kernel
theorem dX10_ride_196 : decode cX10_ride 196 = .ok (.aload_n 0, 1) := by decide +kernel
theorem dX10_ride_197 : decode cX10_ride 197 = .ok (.getfield 33, 3) := by decide +kernel
theorem dX10_ride_200 : decode cX10_ride 200 = .ok (.iload 16, 2) := by decide +kernel
theorem dX10_ride_202 : decode cX10_ride 202 = .ok (.bipush 8, 2) := by decide +kernel
theorem dX10_ride_204 : decode cX10_ride 204 = .ok (.imul, 1) := by decide +kernel
theorem dX10_ride_205 : decode cX10_ride 205 = .ok (.iload_n 2, 1) := by decide +kernel
theorem dX10_ride_206 : decode cX10_ride 206 = .ok (.iadd, 1) := by decide +kernel
theorem dX10_ride_207 : decode cX10_ride 207 = .ok (.iload 15, 2) := by decide +kernel
theorem dX10_ride_209 : decode cX10_ride 209 = .ok (.iastore, 1) := by decide +kernel
theorem dX10_ride_210 : decode cX10_ride 210 = .ok (.lload 11, 2) := by decide +kernel
theorem dX10_ride_212 : decode cX10_ride 212 = .ok (.lconst 1, 1) := by decide +kernel
theorem dX10_ride_213 : decode cX10_ride 213 = .ok (.iload 16, 2) := by decide +kernel
theorem dX10_ride_215 : decode cX10_ride 215 = .ok (.lshl, 1) := by decide +kernel
theorem dX10_ride_216 : decode cX10_ride 216 = .ok (.lor, 1) := by decide +kernel
theorem dX10_ride_217 : decode cX10_ride 217 = .ok (.lstore 11, 2) := by decide +kernel
theorem dX10_ride_219 : decode cX10_ride 219 = .ok (.iload 13, 2) := by decide +kernel
theorem dX10_ride_221 : decode cX10_ride 221 = .ok (.iload 9, 2) := by decide +kernel
theorem dX10_ride_223 : decode cX10_ride 223 = .ok (.iadd, 1) := by decide +kernel
theorem dX10_ride_224 : decode cX10_ride 224 = .ok (.istore 13, 2) := by decide +kernel
theorem dX10_ride_226 : decode cX10_ride 226 = .ok (.iload 14, 2) := by decide +kernel
theorem dX10_ride_228 : decode cX10_ride 228 = .ok (.iload 10, 2) := by decide +kernel
theorem dX10_ride_230 : decode cX10_ride 230 = .ok (.iadd, 1) := by decide +kernel
theorem dX10_ride_231 : decode cX10_ride 231 = .ok (.istore 14, 2) := by decide +kernel
theorem dX10_ride_233 : decode cX10_ride 233 = .ok (.iinc 15 1, 3) := by decide +kernel
theorem dX10_ride_236 : decode cX10_ride 236 = .ok (.goto (-78), 3) := by decide +kernel
theorem dX10_ride_239 : decode cX10_ride 239 = .ok (.lload 11, 2) := by decide +kernel
theorem dX10_ride_241 : decode cX10_ride 241 = .ok (.lreturn, 1) := by decide +kernel
set_option maxRecDepth 20000 in
theorem moX10_ride_239 {o : Int64 × Hp} {F : Nat} {h : Hp} {x11 : Int64} (hE : sX10_ride_239 F h x11 = some o) : Le h o.2 := by
  exact le_some2 hE
set_option maxRecDepth 20000 in
theorem moX10_ride_158 {o : Int64 × Hp} {F : Nat} : ∀ (f : Nat) {h : Hp} {x0 : Nat} {x2 : Int32} {x3 : Int32} {x9 : Int32} {x10 : Int32} {x11 : Int64} {x13 : Int32} {x14 : Int32} {x15 : Int32}, sX10_ride_158 F f h x0 x2 x3 x9 x10 x11 x13 x14 x15 = some o → Le h o.2 := by
  intro f
  induction f with
  | zero =>
    intro h x0 x2 x3 x9 x10 x11 x13 x14 x15 hE
    rw [sX10_ride_158] at hE
    cases hE
  | succ f ih =>
    intro h x0 x2 x3 x9 x10 x11 x13 x14 x15 hE
    rw [sX10_ride_158] at hE
    have mk_158 : ∀ (h : Hp) (x0 : Nat) (x2 : Int32) (x3 : Int32) (x9 : Int32) (x10 : Int32) (x11 : Int64) (x13 : Int32) (x14 : Int32) (x15 : Int32), sX10_ride_158 F f h x0 x2 x3 x9 x10 x11 x13 x14 x15 = some o → Le h o.2 := fun h x0 x2 x3 x9 x10 x11 x13 x14 x15 hE => ih hE
    rcases br_e hE with ⟨_, hE⟩ | ⟨_, hE⟩
    · exact moX10_ride_239 hE
    · obtain ⟨o_2, eo_2, hE⟩ := cl_e hE
      refine (moX10_isOn eo_2).tr ?_
      rcases br_e hE with ⟨_, hE⟩ | ⟨_, hE⟩
      · exact moX10_ride_239 hE
      · obtain ⟨r_4, er_4, hE⟩ := cl_e hE
        obtain ⟨v_5, ev_5, hE⟩ := nm_e2 hE
        obtain ⟨r_6, er_6, hE⟩ := cl_e hE
        obtain ⟨g_7, hE⟩ := gd_e hE
        obtain ⟨h_8, eh_8, hE⟩ := nm_e2 hE
        refine (le_I eh_8).tr ?_
        obtain ⟨v_9, ev_9, hE⟩ := nm_e2 hE
        obtain ⟨v_10, ev_10, hE⟩ := nm_e2 hE
        obtain ⟨v_11, ev_11, hE⟩ := nm_e2 hE
        obtain ⟨v_12, ev_12, hE⟩ := nm_e2 hE
        exact mk_158 _ _ _ _ _ _ _ _ _ _ hE
set_option maxRecDepth 20000 in
theorem moX10_ride_124 {o : Int64 × Hp} {F : Nat} {h : Hp} {x0 : Nat} {x1 : Int32} {x2 : Int32} {x3 : Int32} {x9 : Int32} {x10 : Int32} (hE : sX10_ride_124 F h x0 x1 x2 x3 x9 x10 = some o) : Le h o.2 := by
  obtain ⟨r_1, er_1, hE⟩ := cl_e hE
  obtain ⟨r_2, er_2, hE⟩ := cl_e hE
  obtain ⟨g_3, hE⟩ := gd_e hE
  obtain ⟨v_4, ev_4, hE⟩ := nm_e2 hE
  obtain ⟨r_5, er_5, hE⟩ := cl_e hE
  obtain ⟨r_6, er_6, hE⟩ := cl_e hE
  obtain ⟨g_7, hE⟩ := gd_e hE
  obtain ⟨v_8, ev_8, hE⟩ := nm_e2 hE
  exact moX10_ride_158 _ hE
set_option maxRecDepth 20000 in
theorem moX10_ride_119 {o : Int64 × Hp} {F : Nat} {h : Hp} {x0 : Nat} {x1 : Int32} {x2 : Int32} {x3 : Int32} {x9 : Int32} {x10 : Int32} (hE : sX10_ride_119 F h x0 x1 x2 x3 x9 x10 = some o) : Le h o.2 := by
  obtain ⟨v_1, ev_1, hE⟩ := nm_e2 hE
  exact moX10_ride_124 hE
set_option maxRecDepth 20000 in
theorem moX10_ride_101 {o : Int64 × Hp} {F : Nat} {h : Hp} {x0 : Nat} {x1 : Int32} {x2 : Int32} {x3 : Int32} {x4 : Int32} {x5 : Int32} {x8 : Int32} {x9 : Int32} {x10 : Int32} (hE : sX10_ride_101 F h x0 x1 x2 x3 x4 x5 x8 x9 x10 = some o) : Le h o.2 := by
  rcases br_e hE with ⟨_, hE⟩ | ⟨_, hE⟩
  · rcases br_e hE with ⟨_, hE⟩ | ⟨_, hE⟩
    · exact moX10_ride_124 hE
    · rcases br_e hE with ⟨_, hE⟩ | ⟨_, hE⟩
      · exact moX10_ride_119 hE
      · exact moX10_ride_124 hE
  · exact moX10_ride_119 hE
set_option maxRecDepth 20000 in
theorem moX10_ride_87 {o : Int64 × Hp} {F : Nat} {h : Hp} {x0 : Nat} {x1 : Int32} {x2 : Int32} {x3 : Int32} {x4 : Int32} {x5 : Int32} {x8 : Int32} {x9 : Int32} {t0 : Int32} (hE : sX10_ride_87 F h x0 x1 x2 x3 x4 x5 x8 x9 t0 = some o) : Le h o.2 := by
  rcases br_e hE with ⟨_, hE⟩ | ⟨_, hE⟩
  · exact moX10_ride_101 hE
  · obtain ⟨v_2, ev_2, hE⟩ := nm_e2 hE
    exact moX10_ride_101 hE
set_option maxRecDepth 20000 in
theorem moX10_ride_61 {o : Int64 × Hp} {F : Nat} {h : Hp} {x0 : Nat} {x1 : Int32} {x2 : Int32} {x3 : Int32} {x4 : Int32} {x5 : Int32} {x6 : Int32} {x7 : Int32} {x8 : Int32} {t0 : Int32} (hE : sX10_ride_61 F h x0 x1 x2 x3 x4 x5 x6 x7 x8 t0 = some o) : Le h o.2 := by
  rcases br_e hE with ⟨_, hE⟩ | ⟨_, hE⟩
  · rcases br_e hE with ⟨_, hE⟩ | ⟨_, hE⟩
    · exact moX10_ride_87 hE
    · exact moX10_ride_87 hE
  · exact moX10_ride_87 hE
set_option maxRecDepth 20000 in
theorem moX10_ride_35 {o : Int64 × Hp} {F : Nat} {h : Hp} {x0 : Nat} {x1 : Int32} {x2 : Int32} {x3 : Int32} {x4 : Int32} {x5 : Int32} {x6 : Int32} {x7 : Int32} {t0 : Int32} (hE : sX10_ride_35 F h x0 x1 x2 x3 x4 x5 x6 x7 t0 = some o) : Le h o.2 := by
  rcases br_e hE with ⟨_, hE⟩ | ⟨_, hE⟩
  · rcases br_e hE with ⟨_, hE⟩ | ⟨_, hE⟩
    · exact moX10_ride_61 hE
    · exact moX10_ride_61 hE
  · exact moX10_ride_61 hE
set_option maxRecDepth 20000 in
theorem moX10_ride {o : Int64 × Hp} {F : Nat} {h : Hp} {x0 : Nat} {x1 : Int32} {x2 : Int32} {x3 : Int32} {x4 : Int32} {x5 : Int32} (hE : sX10_ride F h x0 x1 x2 x3 x4 x5 = some o) : Le h o.2 := by
  obtain ⟨v_1, ev_1, hE⟩ := nm_e2 hE
  obtain ⟨v_2, ev_2, hE⟩ := nm_e2 hE
  rcases br_e hE with ⟨_, hE⟩ | ⟨_, hE⟩
  · exact moX10_ride_35 hE
  · exact moX10_ride_35 hE
set_option maxRecDepth 20000 in
theorem bX10_ride_239 {p : Program} {l : Launch} {e : Env} {s : State} {m : MethodId} {args : Array Value} {below : List Frame} {meth : Method} {c : Code} {X : Ec} {h0 : Hp} {o : Int64 × Hp} {F : Nat} (C : Cx X p s m args meth c RX10 cX10_ride 17 (some .long) "ride") {h : Hp} {x11 : Int64} {H : Heap} {locs : List Loc} (hkm : Km h0 h) (hW : Wx X h H) (hZ : va_S (aA (eB X)) s.heap H locs) (ls : Array Slot) (hl : lv_has ls 17 [(11, .long x11)]) (hE : sX10_ride_239 F h x11 = some o) : W p l e (rm 1 22) s m args below meth c H locs 0 0 (MQ below (QJ X h0 o.1 o.2) args s 0 0 (aA (eB X))) (F0 m 239 ls []) := by
  refine lv_lload C.1 C.2.1 dX10_ride_239 (lv_at hl 0 rfl) ?_
  exact x_lret C rfl hW hZ hkm hE dX10_ride_241
set_option maxRecDepth 20000 in
theorem bX10_ride_158 {p : Program} {l : Launch} {e : Env} {s : State} {m : MethodId} {args : Array Value} {below : List Frame} {meth : Method} {c : Code} {X : Ec} {h0 : Hp} {o : Int64 × Hp} {F : Nat} (C : Cx X p s m args meth c RX10 cX10_ride 17 (some .long) "ride") : ∀ (f : Nat) {h : Hp} {x0 : Nat} {x2 : Int32} {x3 : Int32} {x9 : Int32} {x10 : Int32} {x11 : Int64} {x13 : Int32} {x14 : Int32} {x15 : Int32} {H : Heap} {locs : List Loc} (k_x0 : hK h x0 = 10), Km h0 h → Wx X h H → va_S (aA (eB X)) s.heap H locs → ∀ (ls : Array Slot), lv_has ls 17 [(0, .ref x0), (2, .int x2), (3, .int x3), (9, .int x9), (10, .int x10), (11, .long x11), (13, .int x13), (14, .int x14), (15, .int x15)] → sX10_ride_158 F f h x0 x2 x3 x9 x10 x11 x13 x14 x15 = some o → W p l e (rm 1 22) s m args below meth c H locs 0 0 (MQ below (QJ X h0 o.1 o.2) args s 0 0 (aA (eB X))) (F0 m 158 ls []) := by
  intro f
  induction f with
  | zero =>
    intro h x0 x2 x3 x9 x10 x11 x13 x14 x15 H locs k_x0 hkm hW hZ ls hl hE
    rw [sX10_ride_158] at hE
    cases hE
  | succ f ih =>
    intro h x0 x2 x3 x9 x10 x11 x13 x14 x15 H locs k_x0 hkm hW hZ ls hl hE
    rw [sX10_ride_158] at hE
    have hk_158 : ∀ (h : Hp) (x0 : Nat) (x2 : Int32) (x3 : Int32) (x9 : Int32) (x10 : Int32) (x11 : Int64) (x13 : Int32) (x14 : Int32) (x15 : Int32) (H : Heap) (locs : List Loc), hK h x0 = 10 → Km h0 h → Wx X h H → va_S (aA (eB X)) s.heap H locs → ∀ (ls : Array Slot), lv_has ls 17 [(0, .ref x0), (2, .int x2), (3, .int x3), (9, .int x9), (10, .int x10), (11, .long x11), (13, .int x13), (14, .int x14), (15, .int x15)] → sX10_ride_158 F f h x0 x2 x3 x9 x10 x11 x13 x14 x15 = some o → W p l e (rm 1 22) s m args below meth c H locs 0 0 (MQ below (QJ X h0 o.1 o.2) args s 0 0 (aA (eB X))) (F0 m 158 ls []) := fun h x0 x2 x3 x9 x10 x11 x13 x14 x15 H locs k_x0 a b c ls hl hE => ih k_x0 a b c ls hl hE
    refine lv_iload C.1 C.2.1 dX10_ride_158 (lv_at hl 8 rfl) ?_
    refine lv_iload_n C.1 C.2.1 dX10_ride_160 rfl (lv_at hl 2 rfl) ?_
    refine lv_bipush (v := (14 : Int32)) C.1 C.2.1 dX10_ride_161 (by decide) ?_
    refine lv_ishr C.1 C.2.1 dX10_ride_163 ?_
    refine lv_bipush (v := (7 : Int32)) C.1 C.2.1 dX10_ride_164 (by decide) ?_
    refine lv_iand C.1 C.2.1 dX10_ride_166 ?_
    refine lv_icmp_gt (tgt := 239) C.1 C.2.1 dX10_ride_167 (by decide) (fun c_1 => ?_) (fun c_1 => ?_)
    · have hE := br_p hE c_1
      exact bX10_ride_239 C hkm hW hZ _ (lv_sub hl [5] rfl) hE
    · have hE := br_n hE c_1
      refine lv_aload_n C.1 C.2.1 dX10_ride_170 rfl (lv_at hl 0 rfl) ?_
      refine lv_iload C.1 C.2.1 dX10_ride_171 (lv_at hl 6 rfl) ?_
      refine lv_iload C.1 C.2.1 dX10_ride_173 (lv_at hl 7 rfl) ?_
      obtain ⟨o_2, eo_2, hE⟩ := cl_e hE
      refine x_kI (o := o_2) (z_runV (As := [.int x13, .int x14]) (rest := []) C (ct_X10_isOn l X k_x0 eo_2) cw_X10_107 hW hZ k_x0 (by decide) rfl rfl rfl hl.1 (Nat.le_of_ble_eq_true rfl) rfl dX10_ride_175 ⟨Nat.le_of_ble_eq_true rfl, Nat.le_of_ble_eq_true rfl⟩ ⟨Nat.le_refl _, Nat.le_refl _⟩) hZ (fun _ _ hW km hZ => ?_)
      replace hkm := hkm.tr km
      replace k_x0 := km.at k_x0 (by decide)
      refine lv_if_eq (tgt := 239) C.1 C.2.1 dX10_ride_178 (by decide) (fun c_3 => ?_) (fun c_3 => ?_)
      · have hE := br_p hE c_3
        exact bX10_ride_239 C hkm hW hZ _ (lv_sub hl [5] rfl) hE
      · have hE := br_n hE c_3
        refine lv_iload C.1 C.2.1 dX10_ride_181 (lv_at hl 7 rfl) ?_
        refine lv_aload_n C.1 C.2.1 dX10_ride_183 rfl (lv_at hl 0 rfl) ?_
        obtain ⟨r_4, er_4, hE⟩ := cl_e hE
        refine gf_X10_36 C hW k_x0 er_4 dX10_ride_184 (fun k_r_4 => ?_)
        refine gf_X10_111 C hW k_r_4 dX10_ride_187 ?_
        refine lv_imul C.1 C.2.1 dX10_ride_190 ?_
        refine lv_iload C.1 C.2.1 dX10_ride_191 (lv_at hl 6 rfl) ?_
        refine lv_iadd C.1 C.2.1 dX10_ride_193 ?_
        obtain ⟨v_5, ev_5, hE⟩ := nm_e2 hE
        refine x_nmI ev_5 ?_
        refine lv_istore (lv' := [(16, .int v_5), (0, .ref x0), (2, .int x2), (3, .int x3), (9, .int x9), (10, .int x10), (11, .long x11), (13, .int x13), (14, .int x14), (15, .int x15)]) C.1 C.2.1 dX10_ride_194 hl (by decide) rfl (fun ls hl => ?_)
        refine lv_aload_n C.1 C.2.1 dX10_ride_196 rfl (lv_at hl 1 rfl) ?_
        obtain ⟨r_6, er_6, hE⟩ := cl_e hE
        refine gf_X10_33 C hW k_x0 er_6 dX10_ride_197 (fun k_r_6 => ?_)
        refine lv_iload C.1 C.2.1 dX10_ride_200 (lv_at hl 0 rfl) ?_
        refine lv_bipush (v := (8 : Int32)) C.1 C.2.1 dX10_ride_202 (by decide) ?_
        refine lv_imul C.1 C.2.1 dX10_ride_204 ?_
        refine lv_iload_n C.1 C.2.1 dX10_ride_205 rfl (lv_at hl 2 rfl) ?_
        refine lv_iadd C.1 C.2.1 dX10_ride_206 ?_
        refine lv_iload C.1 C.2.1 dX10_ride_207 (lv_at hl 9 rfl) ?_
        obtain ⟨g_7, hE⟩ := gd_e hE
        obtain ⟨h_8, eh_8, hE⟩ := nm_e2 hE
        refine y_iast C hW hZ k_r_6 g_7 eh_8 dX10_ride_209 (fun _ _ hW km hZ => ?_)
        replace hkm := hkm.tr km
        replace k_x0 := km.at k_x0 (by decide)
        refine lv_lload C.1 C.2.1 dX10_ride_210 (lv_at hl 6 rfl) ?_
        refine lv_lconst (v := (1 : Int64)) C.1 C.2.1 dX10_ride_212 (by decide) ?_
        refine lv_iload C.1 C.2.1 dX10_ride_213 (lv_at hl 0 rfl) ?_
        refine lv_lshl C.1 C.2.1 dX10_ride_215 rfl ?_
        refine lv_lor C.1 C.2.1 dX10_ride_216 ?_
        obtain ⟨v_9, ev_9, hE⟩ := nm_e2 hE
        refine x_nmJ ev_9 ?_
        refine lv_lstore (lv' := [(11, .long v_9), (16, .int v_5), (0, .ref x0), (2, .int x2), (3, .int x3), (9, .int x9), (10, .int x10), (13, .int x13), (14, .int x14), (15, .int x15)]) C.1 C.2.1 dX10_ride_217 hl (by decide) rfl (fun ls hl => ?_)
        refine lv_iload C.1 C.2.1 dX10_ride_219 (lv_at hl 7 rfl) ?_
        refine lv_iload C.1 C.2.1 dX10_ride_221 (lv_at hl 5 rfl) ?_
        refine lv_iadd C.1 C.2.1 dX10_ride_223 ?_
        obtain ⟨v_10, ev_10, hE⟩ := nm_e2 hE
        refine x_nmI ev_10 ?_
        refine lv_istore (lv' := [(13, .int v_10), (11, .long v_9), (16, .int v_5), (0, .ref x0), (2, .int x2), (3, .int x3), (9, .int x9), (10, .int x10), (14, .int x14), (15, .int x15)]) C.1 C.2.1 dX10_ride_224 hl (by decide) rfl (fun ls hl => ?_)
        refine lv_iload C.1 C.2.1 dX10_ride_226 (lv_at hl 8 rfl) ?_
        refine lv_iload C.1 C.2.1 dX10_ride_228 (lv_at hl 7 rfl) ?_
        refine lv_iadd C.1 C.2.1 dX10_ride_230 ?_
        obtain ⟨v_11, ev_11, hE⟩ := nm_e2 hE
        refine x_nmI ev_11 ?_
        refine lv_istore (lv' := [(14, .int v_11), (13, .int v_10), (11, .long v_9), (16, .int v_5), (0, .ref x0), (2, .int x2), (3, .int x3), (9, .int x9), (10, .int x10), (15, .int x15)]) C.1 C.2.1 dX10_ride_231 hl (by decide) rfl (fun ls hl => ?_)
        obtain ⟨v_12, ev_12, hE⟩ := nm_e2 hE
        refine lv_iinc (v := v_12) (lv' := [(15, .int v_12), (14, .int v_11), (13, .int v_10), (11, .long v_9), (16, .int v_5), (0, .ref x0), (2, .int x2), (3, .int x3), (9, .int x9), (10, .int x10)]) C.1 C.2.1 dX10_ride_233 hl (k := 9) rfl (by rw [ev_12]; rfl) (by decide) rfl (fun ls hl => ?_)
        refine lv_goto (tgt := 158) C.1 C.2.1 dX10_ride_236 (by decide) ?_
        exact hk_158 _ _ _ _ _ _ _ _ _ _ _ _ k_x0 hkm hW hZ _ (lv_sub hl [5, 6, 7, 8, 9, 3, 2, 1, 0] rfl) hE
set_option maxRecDepth 20000 in
theorem bX10_ride_124 {p : Program} {l : Launch} {e : Env} {s : State} {m : MethodId} {args : Array Value} {below : List Frame} {meth : Method} {c : Code} {X : Ec} {h0 : Hp} {o : Int64 × Hp} {F : Nat} (C : Cx X p s m args meth c RX10 cX10_ride 17 (some .long) "ride") {h : Hp} {x0 : Nat} {x1 : Int32} {x2 : Int32} {x3 : Int32} {x9 : Int32} {x10 : Int32} {H : Heap} {locs : List Loc} (k_x0 : hK h x0 = 10) (hkm : Km h0 h) (hW : Wx X h H) (hZ : va_S (aA (eB X)) s.heap H locs) (ls : Array Slot) (hl : lv_has ls 17 [(0, .ref x0), (1, .int x1), (2, .int x2), (3, .int x3), (9, .int x9), (10, .int x10)]) (hE : sX10_ride_124 F h x0 x1 x2 x3 x9 x10 = some o) : W p l e (rm 1 22) s m args below meth c H locs 0 0 (MQ below (QJ X h0 o.1 o.2) args s 0 0 (aA (eB X))) (F0 m 124 ls []) := by
  refine lv_lconst (v := (0 : Int64)) C.1 C.2.1 dX10_ride_124 (by decide) ?_
  refine lv_lstore (lv' := [(11, .long (0 : Int64)), (0, .ref x0), (1, .int x1), (2, .int x2), (3, .int x3), (9, .int x9), (10, .int x10)]) C.1 C.2.1 dX10_ride_125 hl (by decide) rfl (fun ls hl => ?_)
  refine lv_aload_n C.1 C.2.1 dX10_ride_127 rfl (lv_at hl 1 rfl) ?_
  obtain ⟨r_1, er_1, hE⟩ := cl_e hE
  refine gf_X10_36 C hW k_x0 er_1 dX10_ride_128 (fun k_r_1 => ?_)
  obtain ⟨r_2, er_2, hE⟩ := cl_e hE
  refine gf_X10_104 C hW k_r_1 er_2 dX10_ride_131 (fun k_r_2 => ?_)
  refine lv_iload_n C.1 C.2.1 dX10_ride_134 rfl (lv_at hl 2 rfl) ?_
  obtain ⟨g_3, hE⟩ := gd_e hE
  refine y_iald C hW k_r_2 g_3 dX10_ride_135 ?_
  refine lv_iload C.1 C.2.1 dX10_ride_136 (lv_at hl 5 rfl) ?_
  refine lv_iadd C.1 C.2.1 dX10_ride_138 ?_
  obtain ⟨v_4, ev_4, hE⟩ := nm_e2 hE
  refine x_nmI ev_4 ?_
  refine lv_istore (lv' := [(13, .int v_4), (11, .long (0 : Int64)), (0, .ref x0), (1, .int x1), (2, .int x2), (3, .int x3), (9, .int x9), (10, .int x10)]) C.1 C.2.1 dX10_ride_139 hl (by decide) rfl (fun ls hl => ?_)
  refine lv_aload_n C.1 C.2.1 dX10_ride_141 rfl (lv_at hl 2 rfl) ?_
  obtain ⟨r_5, er_5, hE⟩ := cl_e hE
  refine gf_X10_36 C hW k_x0 er_5 dX10_ride_142 (fun k_r_5 => ?_)
  obtain ⟨r_6, er_6, hE⟩ := cl_e hE
  refine gf_X10_94 C hW k_r_5 er_6 dX10_ride_145 (fun k_r_6 => ?_)
  refine lv_iload_n C.1 C.2.1 dX10_ride_148 rfl (lv_at hl 3 rfl) ?_
  obtain ⟨g_7, hE⟩ := gd_e hE
  refine y_iald C hW k_r_6 g_7 dX10_ride_149 ?_
  refine lv_iload C.1 C.2.1 dX10_ride_150 (lv_at hl 7 rfl) ?_
  refine lv_iadd C.1 C.2.1 dX10_ride_152 ?_
  obtain ⟨v_8, ev_8, hE⟩ := nm_e2 hE
  refine x_nmI ev_8 ?_
  refine lv_istore (lv' := [(14, .int v_8), (13, .int v_4), (11, .long (0 : Int64)), (0, .ref x0), (1, .int x1), (2, .int x2), (3, .int x3), (9, .int x9), (10, .int x10)]) C.1 C.2.1 dX10_ride_153 hl (by decide) rfl (fun ls hl => ?_)
  refine lv_iconst (v := (1 : Int32)) C.1 C.2.1 dX10_ride_155 (by decide) ?_
  refine lv_istore (lv' := [(15, .int (1 : Int32)), (14, .int v_8), (13, .int v_4), (11, .long (0 : Int64)), (0, .ref x0), (1, .int x1), (2, .int x2), (3, .int x3), (9, .int x9), (10, .int x10)]) C.1 C.2.1 dX10_ride_156 hl (by decide) rfl (fun ls hl => ?_)
  exact bX10_ride_158 C F k_x0 hkm hW hZ _ (lv_sub hl [4, 6, 7, 8, 9, 3, 2, 1, 0] rfl) hE
set_option maxRecDepth 20000 in
theorem bX10_ride_119 {p : Program} {l : Launch} {e : Env} {s : State} {m : MethodId} {args : Array Value} {below : List Frame} {meth : Method} {c : Code} {X : Ec} {h0 : Hp} {o : Int64 × Hp} {F : Nat} (C : Cx X p s m args meth c RX10 cX10_ride 17 (some .long) "ride") {h : Hp} {x0 : Nat} {x1 : Int32} {x2 : Int32} {x3 : Int32} {x9 : Int32} {x10 : Int32} {H : Heap} {locs : List Loc} (k_x0 : hK h x0 = 10) (hkm : Km h0 h) (hW : Wx X h H) (hZ : va_S (aA (eB X)) s.heap H locs) (ls : Array Slot) (hl : lv_has ls 17 [(0, .ref x0), (1, .int x1), (2, .int x2), (3, .int x3), (9, .int x9), (10, .int x10)]) (hE : sX10_ride_119 F h x0 x1 x2 x3 x9 x10 = some o) : W p l e (rm 1 22) s m args below meth c H locs 0 0 (MQ below (QJ X h0 o.1 o.2) args s 0 0 (aA (eB X))) (F0 m 119 ls []) := by
  refine lv_iload C.1 C.2.1 dX10_ride_119 (lv_at hl 5 rfl) ?_
  refine lv_ineg C.1 C.2.1 dX10_ride_121 ?_
  obtain ⟨v_1, ev_1, hE⟩ := nm_e2 hE
  refine x_nmI ev_1 ?_
  refine lv_istore (lv' := [(10, .int v_1), (0, .ref x0), (1, .int x1), (2, .int x2), (3, .int x3), (9, .int x9)]) C.1 C.2.1 dX10_ride_122 hl (by decide) rfl (fun ls hl => ?_)
  exact bX10_ride_124 C k_x0 hkm hW hZ _ (lv_sub hl [1, 2, 3, 4, 5, 0] rfl) hE
set_option maxRecDepth 20000 in
theorem bX10_ride_101 {p : Program} {l : Launch} {e : Env} {s : State} {m : MethodId} {args : Array Value} {below : List Frame} {meth : Method} {c : Code} {X : Ec} {h0 : Hp} {o : Int64 × Hp} {F : Nat} (C : Cx X p s m args meth c RX10 cX10_ride 17 (some .long) "ride") {h : Hp} {x0 : Nat} {x1 : Int32} {x2 : Int32} {x3 : Int32} {x4 : Int32} {x5 : Int32} {x8 : Int32} {x9 : Int32} {x10 : Int32} {H : Heap} {locs : List Loc} (k_x0 : hK h x0 = 10) (hkm : Km h0 h) (hW : Wx X h H) (hZ : va_S (aA (eB X)) s.heap H locs) (ls : Array Slot) (hl : lv_has ls 17 [(0, .ref x0), (1, .int x1), (2, .int x2), (3, .int x3), (4, .int x4), (5, .int x5), (8, .int x8), (9, .int x9), (10, .int x10)]) (hE : sX10_ride_101 F h x0 x1 x2 x3 x4 x5 x8 x9 x10 = some o) : W p l e (rm 1 22) s m args below meth c H locs 0 0 (MQ below (QJ X h0 o.1 o.2) args s 0 0 (aA (eB X))) (F0 m 101 ls []) := by
  refine lv_iload C.1 C.2.1 dX10_ride_101 (lv_at hl 4 rfl) ?_
  refine lv_iconst (v := (2 : Int32)) C.1 C.2.1 dX10_ride_103 (by decide) ?_
  refine lv_iand C.1 C.2.1 dX10_ride_104 ?_
  refine lv_if_ne (tgt := 119) C.1 C.2.1 dX10_ride_105 (by decide) (fun c_1 => ?_) (fun c_1 => ?_)
  · have hE := br_n hE c_1
    exact bX10_ride_119 C k_x0 hkm hW hZ _ (lv_sub hl [0, 1, 2, 3, 7, 8] rfl) hE
  · have hE := br_p hE c_1
    refine lv_iload C.1 C.2.1 dX10_ride_108 (lv_at hl 6 rfl) ?_
    refine lv_if_eq (tgt := 124) C.1 C.2.1 dX10_ride_110 (by decide) (fun c_2 => ?_) (fun c_2 => ?_)
    · have hE := br_p hE c_2
      exact bX10_ride_124 C k_x0 hkm hW hZ _ (lv_sub hl [0, 1, 2, 3, 7, 8] rfl) hE
    · have hE := br_n hE c_2
      refine lv_iload C.1 C.2.1 dX10_ride_113 (lv_at hl 5 rfl) ?_
      refine lv_iconst (v := (1 : Int32)) C.1 C.2.1 dX10_ride_115 (by decide) ?_
      refine lv_icmp_ne (tgt := 124) C.1 C.2.1 dX10_ride_116 (by decide) (fun c_3 => ?_) (fun c_3 => ?_)
      · have hE := br_n hE c_3
        exact bX10_ride_124 C k_x0 hkm hW hZ _ (lv_sub hl [0, 1, 2, 3, 7, 8] rfl) hE
      · have hE := br_p hE c_3
        exact bX10_ride_119 C k_x0 hkm hW hZ _ (lv_sub hl [0, 1, 2, 3, 7, 8] rfl) hE
set_option maxRecDepth 20000 in
theorem bX10_ride_87 {p : Program} {l : Launch} {e : Env} {s : State} {m : MethodId} {args : Array Value} {below : List Frame} {meth : Method} {c : Code} {X : Ec} {h0 : Hp} {o : Int64 × Hp} {F : Nat} (C : Cx X p s m args meth c RX10 cX10_ride 17 (some .long) "ride") {h : Hp} {x0 : Nat} {x1 : Int32} {x2 : Int32} {x3 : Int32} {x4 : Int32} {x5 : Int32} {x8 : Int32} {x9 : Int32} {t0 : Int32} {H : Heap} {locs : List Loc} (k_x0 : hK h x0 = 10) (hkm : Km h0 h) (hW : Wx X h H) (hZ : va_S (aA (eB X)) s.heap H locs) (ls : Array Slot) (hl : lv_has ls 17 [(0, .ref x0), (1, .int x1), (2, .int x2), (3, .int x3), (4, .int x4), (5, .int x5), (8, .int x8), (9, .int x9)]) (hE : sX10_ride_87 F h x0 x1 x2 x3 x4 x5 x8 x9 t0 = some o) : W p l e (rm 1 22) s m args below meth c H locs 0 0 (MQ below (QJ X h0 o.1 o.2) args s 0 0 (aA (eB X))) (F0 m 87 ls [.int t0]) := by
  refine lv_istore (lv' := [(10, .int t0), (0, .ref x0), (1, .int x1), (2, .int x2), (3, .int x3), (4, .int x4), (5, .int x5), (8, .int x8), (9, .int x9)]) C.1 C.2.1 dX10_ride_87 hl (by decide) rfl (fun ls hl => ?_)
  refine lv_iload C.1 C.2.1 dX10_ride_89 (lv_at hl 5 rfl) ?_
  refine lv_iconst (v := (1 : Int32)) C.1 C.2.1 dX10_ride_91 (by decide) ?_
  refine lv_iand C.1 C.2.1 dX10_ride_92 ?_
  refine lv_if_eq (tgt := 101) C.1 C.2.1 dX10_ride_93 (by decide) (fun c_1 => ?_) (fun c_1 => ?_)
  · have hE := br_p hE c_1
    exact bX10_ride_101 C k_x0 hkm hW hZ _ (lv_sub hl [1, 2, 3, 4, 5, 6, 7, 8, 0] rfl) hE
  · have hE := br_n hE c_1
    refine lv_iload C.1 C.2.1 dX10_ride_96 (lv_at hl 8 rfl) ?_
    refine lv_ineg C.1 C.2.1 dX10_ride_98 ?_
    obtain ⟨v_2, ev_2, hE⟩ := nm_e2 hE
    refine x_nmI ev_2 ?_
    refine lv_istore (lv' := [(9, .int v_2), (10, .int t0), (0, .ref x0), (1, .int x1), (2, .int x2), (3, .int x3), (4, .int x4), (5, .int x5), (8, .int x8)]) C.1 C.2.1 dX10_ride_99 hl (by decide) rfl (fun ls hl => ?_)
    exact bX10_ride_101 C k_x0 hkm hW hZ _ (lv_sub hl [2, 3, 4, 5, 6, 7, 8, 0, 1] rfl) hE
set_option maxRecDepth 20000 in
theorem bX10_ride_61 {p : Program} {l : Launch} {e : Env} {s : State} {m : MethodId} {args : Array Value} {below : List Frame} {meth : Method} {c : Code} {X : Ec} {h0 : Hp} {o : Int64 × Hp} {F : Nat} (C : Cx X p s m args meth c RX10 cX10_ride 17 (some .long) "ride") {h : Hp} {x0 : Nat} {x1 : Int32} {x2 : Int32} {x3 : Int32} {x4 : Int32} {x5 : Int32} {x6 : Int32} {x7 : Int32} {x8 : Int32} {t0 : Int32} {H : Heap} {locs : List Loc} (k_x0 : hK h x0 = 10) (hkm : Km h0 h) (hW : Wx X h H) (hZ : va_S (aA (eB X)) s.heap H locs) (ls : Array Slot) (hl : lv_has ls 17 [(0, .ref x0), (1, .int x1), (2, .int x2), (3, .int x3), (4, .int x4), (5, .int x5), (6, .int x6), (7, .int x7), (8, .int x8)]) (hE : sX10_ride_61 F h x0 x1 x2 x3 x4 x5 x6 x7 x8 t0 = some o) : W p l e (rm 1 22) s m args below meth c H locs 0 0 (MQ below (QJ X h0 o.1 o.2) args s 0 0 (aA (eB X))) (F0 m 61 ls [.int t0]) := by
  refine lv_istore (lv' := [(9, .int t0), (0, .ref x0), (1, .int x1), (2, .int x2), (3, .int x3), (4, .int x4), (5, .int x5), (6, .int x6), (7, .int x7), (8, .int x8)]) C.1 C.2.1 dX10_ride_61 hl (by decide) rfl (fun ls hl => ?_)
  refine lv_iload C.1 C.2.1 dX10_ride_63 (lv_at hl 9 rfl) ?_
  refine lv_if_eq (tgt := 73) C.1 C.2.1 dX10_ride_65 (by decide) (fun c_1 => ?_) (fun c_1 => ?_)
  · have hE := br_p hE c_1
    refine lv_iload C.1 C.2.1 dX10_ride_73 (lv_at hl 5 rfl) ?_
    refine lv_iconst (v := (4 : Int32)) C.1 C.2.1 dX10_ride_75 (by decide) ?_
    refine lv_iand C.1 C.2.1 dX10_ride_76 ?_
    refine lv_if_ne (tgt := 85) C.1 C.2.1 dX10_ride_77 (by decide) (fun c_2 => ?_) (fun c_2 => ?_)
    · have hE := br_n hE c_2
      refine lv_iload C.1 C.2.1 dX10_ride_85 (lv_at hl 7 rfl) ?_
      exact bX10_ride_87 C k_x0 hkm hW hZ _ (lv_sub hl [1, 2, 3, 4, 5, 6, 9, 0] rfl) hE
    · have hE := br_p hE c_2
      refine lv_iload C.1 C.2.1 dX10_ride_80 (lv_at hl 8 rfl) ?_
      refine lv_goto (tgt := 87) C.1 C.2.1 dX10_ride_82 (by decide) ?_
      exact bX10_ride_87 C k_x0 hkm hW hZ _ (lv_sub hl [1, 2, 3, 4, 5, 6, 9, 0] rfl) hE
  · have hE := br_n hE c_1
    refine lv_iload C.1 C.2.1 dX10_ride_68 (lv_at hl 8 rfl) ?_
    refine lv_goto (tgt := 87) C.1 C.2.1 dX10_ride_70 (by decide) ?_
    exact bX10_ride_87 C k_x0 hkm hW hZ _ (lv_sub hl [1, 2, 3, 4, 5, 6, 9, 0] rfl) hE
set_option maxRecDepth 20000 in
theorem bX10_ride_35 {p : Program} {l : Launch} {e : Env} {s : State} {m : MethodId} {args : Array Value} {below : List Frame} {meth : Method} {c : Code} {X : Ec} {h0 : Hp} {o : Int64 × Hp} {F : Nat} (C : Cx X p s m args meth c RX10 cX10_ride 17 (some .long) "ride") {h : Hp} {x0 : Nat} {x1 : Int32} {x2 : Int32} {x3 : Int32} {x4 : Int32} {x5 : Int32} {x6 : Int32} {x7 : Int32} {t0 : Int32} {H : Heap} {locs : List Loc} (k_x0 : hK h x0 = 10) (hkm : Km h0 h) (hW : Wx X h H) (hZ : va_S (aA (eB X)) s.heap H locs) (ls : Array Slot) (hl : lv_has ls 17 [(0, .ref x0), (1, .int x1), (2, .int x2), (3, .int x3), (4, .int x4), (5, .int x5), (6, .int x6), (7, .int x7)]) (hE : sX10_ride_35 F h x0 x1 x2 x3 x4 x5 x6 x7 t0 = some o) : W p l e (rm 1 22) s m args below meth c H locs 0 0 (MQ below (QJ X h0 o.1 o.2) args s 0 0 (aA (eB X))) (F0 m 35 ls [.int t0]) := by
  refine lv_istore (lv' := [(8, .int t0), (0, .ref x0), (1, .int x1), (2, .int x2), (3, .int x3), (4, .int x4), (5, .int x5), (6, .int x6), (7, .int x7)]) C.1 C.2.1 dX10_ride_35 hl (by decide) rfl (fun ls hl => ?_)
  refine lv_iload C.1 C.2.1 dX10_ride_37 (lv_at hl 0 rfl) ?_
  refine lv_if_eq (tgt := 47) C.1 C.2.1 dX10_ride_39 (by decide) (fun c_1 => ?_) (fun c_1 => ?_)
  · have hE := br_p hE c_1
    refine lv_iload C.1 C.2.1 dX10_ride_47 (lv_at hl 5 rfl) ?_
    refine lv_iconst (v := (4 : Int32)) C.1 C.2.1 dX10_ride_49 (by decide) ?_
    refine lv_iand C.1 C.2.1 dX10_ride_50 ?_
    refine lv_if_ne (tgt := 59) C.1 C.2.1 dX10_ride_51 (by decide) (fun c_2 => ?_) (fun c_2 => ?_)
    · have hE := br_n hE c_2
      refine lv_iload C.1 C.2.1 dX10_ride_59 (lv_at hl 8 rfl) ?_
      exact bX10_ride_61 C k_x0 hkm hW hZ _ (lv_sub hl [1, 2, 3, 4, 5, 6, 7, 8, 0] rfl) hE
    · have hE := br_p hE c_2
      refine lv_iload C.1 C.2.1 dX10_ride_54 (lv_at hl 7 rfl) ?_
      refine lv_goto (tgt := 61) C.1 C.2.1 dX10_ride_56 (by decide) ?_
      exact bX10_ride_61 C k_x0 hkm hW hZ _ (lv_sub hl [1, 2, 3, 4, 5, 6, 7, 8, 0] rfl) hE
  · have hE := br_n hE c_1
    refine lv_iload C.1 C.2.1 dX10_ride_42 (lv_at hl 7 rfl) ?_
    refine lv_goto (tgt := 61) C.1 C.2.1 dX10_ride_44 (by decide) ?_
    exact bX10_ride_61 C k_x0 hkm hW hZ _ (lv_sub hl [1, 2, 3, 4, 5, 6, 7, 8, 0] rfl) hE
set_option maxRecDepth 20000 in
theorem ct_X10_ride (l : Launch) (X : Ec) (F : Nat) {h : Hp} {x0 : Nat} {x1 : Int32} {x2 : Int32} {x3 : Int32} {x4 : Int32} {x5 : Int32} {o : Int64 × Hp} (k_x0 : hK h x0 = 10) (hE : sX10_ride F h x0 x1 x2 x3 x4 x5 = some o) : MetJ l yX10_ride cX10_ride 17 (some .long) 1 22 X [.ref x0, .int x1, .int x2, .int x3, .int x4, .int x5] h o := by
  refine x_met (by decide) (Nat.le_of_ble_eq_true rfl) ?_
  intro p e s m below meth c ls C hl hW hZ
  have hl : lv_has ls 17 [(0, .ref x0), (1, .int x1), (2, .int x2), (3, .int x3), (4, .int x4), (5, .int x5)] := hl
  have hkm : Km h h := Km.rf h
  refine lv_iload_n C.1 C.2.1 dX10_ride_0 rfl (lv_at hl 3 rfl) ?_
  refine lv_bipush (v := (6 : Int32)) C.1 C.2.1 dX10_ride_1 (by decide) ?_
  refine lv_ishr C.1 C.2.1 dX10_ride_3 ?_
  refine lv_bipush (v := (15 : Int32)) C.1 C.2.1 dX10_ride_4 (by decide) ?_
  refine lv_iand C.1 C.2.1 dX10_ride_6 ?_
  refine lv_bipush (v := (8 : Int32)) C.1 C.2.1 dX10_ride_7 (by decide) ?_
  refine lv_isub C.1 C.2.1 dX10_ride_9 ?_
  obtain ⟨v_1, ev_1, hE⟩ := nm_e2 hE
  refine x_nmI ev_1 ?_
  refine lv_istore (lv' := [(6, .int v_1), (0, .ref x0), (1, .int x1), (2, .int x2), (3, .int x3), (4, .int x4), (5, .int x5)]) C.1 C.2.1 dX10_ride_10 hl (by decide) rfl (fun ls hl => ?_)
  refine lv_iload_n C.1 C.2.1 dX10_ride_12 rfl (lv_at hl 4 rfl) ?_
  refine lv_bipush (v := (10 : Int32)) C.1 C.2.1 dX10_ride_13 (by decide) ?_
  refine lv_ishr C.1 C.2.1 dX10_ride_15 ?_
  refine lv_bipush (v := (15 : Int32)) C.1 C.2.1 dX10_ride_16 (by decide) ?_
  refine lv_iand C.1 C.2.1 dX10_ride_18 ?_
  refine lv_bipush (v := (8 : Int32)) C.1 C.2.1 dX10_ride_19 (by decide) ?_
  refine lv_isub C.1 C.2.1 dX10_ride_21 ?_
  obtain ⟨v_2, ev_2, hE⟩ := nm_e2 hE
  refine x_nmI ev_2 ?_
  refine lv_istore (lv' := [(7, .int v_2), (6, .int v_1), (0, .ref x0), (1, .int x1), (2, .int x2), (3, .int x3), (4, .int x4), (5, .int x5)]) C.1 C.2.1 dX10_ride_22 hl (by decide) rfl (fun ls hl => ?_)
  refine lv_iload_n C.1 C.2.1 dX10_ride_24 rfl (lv_at hl 5 rfl) ?_
  refine lv_iconst (v := (4 : Int32)) C.1 C.2.1 dX10_ride_25 (by decide) ?_
  refine lv_iand C.1 C.2.1 dX10_ride_26 ?_
  refine lv_if_eq (tgt := 34) C.1 C.2.1 dX10_ride_27 (by decide) (fun c_3 => ?_) (fun c_3 => ?_)
  · have hE := br_p hE c_3
    refine lv_iconst (v := (0 : Int32)) C.1 C.2.1 dX10_ride_34 (by decide) ?_
    exact bX10_ride_35 C k_x0 hkm hW hZ _ (lv_sub hl [2, 3, 4, 5, 6, 7, 1, 0] rfl) hE
  · have hE := br_n hE c_3
    refine lv_iconst (v := (1 : Int32)) C.1 C.2.1 dX10_ride_30 (by decide) ?_
    refine lv_goto (tgt := 35) C.1 C.2.1 dX10_ride_31 (by decide) ?_
    exact bX10_ride_35 C k_x0 hkm hW hZ _ (lv_sub hl [2, 3, 4, 5, 6, 7, 1, 0] rfl) hE
set_option maxRecDepth 100000 in
theorem ms_24 : Cond.selects RX10 yX10_ride yX10_ride ∈ W0 := w0_in (List.mem_append_left _ (List.mem_of_getElem? (i := 24) rfl)) rfl
set_option maxRecDepth 100000 in
theorem m_122 : Cond.fieldLink RX10 87 (TX1 15).1 (TX1 15).2.1 (TX1 15).2.2.1 ∈ W0 := w0_in (List.mem_append_right _ (List.mem_of_getElem? (i := 122) rfl)) rfl
set_option maxRecDepth 100000 in
theorem m_125 : Cond.fieldLink RX10 84 (TX1 16).1 (TX1 16).2.1 (TX1 16).2.2.1 ∈ W0 := w0_in (List.mem_append_right _ (List.mem_of_getElem? (i := 125) rfl)) rfl
set_option maxRecDepth 100000 in
theorem m_806 : Cond.methodLink RX10 100 yX10_ride ∈ W0 := w0_in (List.mem_append_right _ (List.mem_of_getElem? (i := 806) rfl)) rfl
set_option maxRecDepth 100000 in
theorem m_808 : Cond.instanceMethod yX10_ride ∈ W0 := w0_in (List.mem_append_right _ (List.mem_of_getElem? (i := 808) rfl)) rfl
set_option maxRecDepth 100000 in
theorem m_809 : Cond.code yX10_ride cX10_ride 17 (some .long) ∈ W0 := w0_in (List.mem_append_right _ (List.mem_of_getElem? (i := 809) rfl)) rfl
section
variable {p : Program} {l : Launch} {e : Env} {R : Room} {s : State} {m : MethodId} {args : Array Value} {below : List Frame} {meth : Method} {c : Code} {H : Heap} {locs : List Loc} {cells slots : Nat} {Q : State → Prop}
variable {cc : ByteArray} {pc : Nat} {ls : Array Slot} {rest : List Value} {X : Ec} {h h1 : Hp} {nL : Nat} {rt : Option FieldType} {mn : String}
theorem gf_X10_84 {a r : Nat} (C : Cx X p s m args meth c RX10 cc nL rt mn) (hW : Wx X h H) (ha : hK h a = 1) (hr : hR h a 16 = some r) (hdg : decode cc pc = .ok (.getfield 84, 3)) (kk : hK h r = 17 → W p l e R s m args below meth c H locs cells slots Q (F0 m (pc + 3) ls (.ref r :: rest))) : W p l e R s m args below meth c H locs cells slots Q (F0 m pc ls (.ref a :: rest)) :=
  y_getr C hW ha i_X1 (by decide) rfl (by decide) m_125 rfl rfl hr hdg kk
theorem gf_X10_87 {a r : Nat} (C : Cx X p s m args meth c RX10 cc nL rt mn) (hW : Wx X h H) (ha : hK h a = 1) (hr : hR h a 15 = some r) (hdg : decode cc pc = .ok (.getfield 87, 3)) (kk : hK h r = 17 → W p l e R s m args below meth c H locs cells slots Q (F0 m (pc + 3) ls (.ref r :: rest))) : W p l e R s m args below meth c H locs cells slots Q (F0 m pc ls (.ref a :: rest)) :=
  y_getr C hW ha i_X1 (by decide) rfl (by decide) m_122 rfl rfl hr hdg kk
end
theorem cw_X10_100 : cwd RX10 100 yX10_ride cX10_ride 17 (some .long) false 5 := ⟨m_809, m_806, m_6, ⟨m_808, ms_24⟩, by decide, by decide, by decide +kernel⟩
theorem dX10_reach_0 : decode cX10_reach 0 = .ok (.iload_n 1, 1) := by decide +kernel
theorem dX10_reach_1 : decode cX10_reach 1 = .ok (.iconst 1, 1) := by decide +kernel
theorem dX10_reach_2 : decode cX10_reach 2 = .ok (.ishr, 1) := by decide +kernel
theorem dX10_reach_3 : decode cX10_reach 3 = .ok (.istore_n 3, 1) := by decide +kernel
theorem dX10_reach_4 : decode cX10_reach 4 = .ok (.lconst 0, 1) := by decide +kernel
theorem dX10_reach_5 : decode cX10_reach 5 = .ok (.lstore 4, 2) := by decide +kernel
theorem dX10_reach_7 : decode cX10_reach 7 = .ok (.iconst 0, 1) := by decide +kernel
theorem dX10_reach_8 : decode cX10_reach 8 = .ok (.istore 6, 2) := by decide +kernel
theorem dX10_reach_10 : decode cX10_reach 10 = .ok (.iload 6, 2) := by decide +kernel
theorem dX10_reach_12 : decode cX10_reach 12 = .ok (.aload_n 0, 1) := by decide +kernel
theorem dX10_reach_13 : decode cX10_reach 13 = .ok (.getfield 36, 3) := by decide +kernel
theorem dX10_reach_16 : decode cX10_reach 16 = .ok (.getfield 84, 3) := by decide +kernel
theorem dX10_reach_19 : decode cX10_reach 19 = .ok (.iload_n 3, 1) := by decide +kernel
theorem dX10_reach_20 : decode cX10_reach 20 = .ok (.iaload, 1) := by decide +kernel
theorem dX10_reach_21 : decode cX10_reach 21 = .ok (.if_icmp .ge 140, 3) := by decide +kernel
theorem dX10_reach_24 : decode cX10_reach 24 = .ok (.aload_n 0, 1) := by decide +kernel
theorem dX10_reach_25 : decode cX10_reach 25 = .ok (.getfield 36, 3) := by decide +kernel
theorem dX10_reach_28 : decode cX10_reach 28 = .ok (.getfield 87, 3) := by decide +kernel
theorem dX10_reach_31 : decode cX10_reach 31 = .ok (.iload_n 3, 1) := by decide +kernel
theorem dX10_reach_32 : decode cX10_reach 32 = .ok (.bipush 8, 2) := by decide +kernel
theorem dX10_reach_34 : decode cX10_reach 34 = .ok (.imul, 1) := by decide +kernel
theorem dX10_reach_35 : decode cX10_reach 35 = .ok (.iload 6, 2) := by decide +kernel
theorem dX10_reach_37 : decode cX10_reach 37 = .ok (.iadd, 1) := by decide +kernel
theorem dX10_reach_38 : decode cX10_reach 38 = .ok (.iaload, 1) := by decide +kernel
theorem dX10_reach_39 : decode cX10_reach 39 = .ok (.istore 7, 2) := by decide +kernel
theorem dX10_reach_41 : decode cX10_reach 41 = .ok (.iload 7, 2) := by decide +kernel
theorem dX10_reach_43 : decode cX10_reach 43 = .ok (.bipush 17, 2) := by decide +kernel
theorem dX10_reach_45 : decode cX10_reach 45 = .ok (.ishr, 1) := by decide +kernel
theorem dX10_reach_46 : decode cX10_reach 46 = .ok (.bipush 15, 2) := by decide +kernel
theorem dX10_reach_48 : decode cX10_reach 48 = .ok (.iand, 1) := by decide +kernel
theorem dX10_reach_49 : decode cX10_reach 49 = .ok (.istore 8, 2) := by decide +kernel
theorem dX10_reach_51 : decode cX10_reach 51 = .ok (.iload_n 1, 1) := by decide +kernel
theorem dX10_reach_52 : decode cX10_reach 52 = .ok (.iconst 1, 1) := by decide +kernel
theorem dX10_reach_53 : decode cX10_reach 53 = .ok (.iand, 1) := by decide +kernel
theorem dX10_reach_54 : decode cX10_reach 54 = .ok (.ifCond .ne 17, 3) := by decide +kernel
theorem dX10_reach_57 : decode cX10_reach 57 = .ok (.aload_n 0, 1) := by decide +kernel
theorem dX10_reach_58 : decode cX10_reach 58 = .ok (.getfield 36, 3) := by decide +kernel
theorem dX10_reach_61 : decode cX10_reach 61 = .ok (.getfield 94, 3) := by decide +kernel
theorem dX10_reach_64 : decode cX10_reach 64 = .ok (.iload_n 2, 1) := by decide +kernel
theorem dX10_reach_65 : decode cX10_reach 65 = .ok (.iaload, 1) := by decide +kernel
theorem dX10_reach_66 : decode cX10_reach 66 = .ok (.iconst 1, 1) := by decide +kernel
theorem dX10_reach_67 : decode cX10_reach 67 = .ok (.iadd, 1) := by decide +kernel
theorem dX10_reach_68 : decode cX10_reach 68 = .ok (.goto 20, 3) := by decide +kernel
theorem dX10_reach_71 : decode cX10_reach 71 = .ok (.aload_n 0, 1) := by decide +kernel
theorem dX10_reach_72 : decode cX10_reach 72 = .ok (.getfield 36, 3) := by decide +kernel
theorem dX10_reach_75 : decode cX10_reach 75 = .ok (.getfield 97, 3) := by decide +kernel
theorem dX10_reach_78 : decode cX10_reach 78 = .ok (.aload_n 0, 1) := by decide +kernel
theorem dX10_reach_79 : decode cX10_reach 79 = .ok (.getfield 36, 3) := by decide +kernel
theorem dX10_reach_82 : decode cX10_reach 82 = .ok (.getfield 94, 3) := by decide +kernel
theorem dX10_reach_85 : decode cX10_reach 85 = .ok (.iload_n 2, 1) := by decide +kernel
theorem dX10_reach_86 : decode cX10_reach 86 = .ok (.iaload, 1) := by decide +kernel
theorem dX10_reach_87 : decode cX10_reach 87 = .ok (.isub, 1) := by decide +kernel
theorem dX10_reach_88 : decode cX10_reach 88 = .ok (.istore 9, 2) := by decide +kernel
theorem dX10_reach_90 : decode cX10_reach 90 = .ok (.iload 8, 2) := by decide +kernel
theorem dX10_reach_92 : decode cX10_reach 92 = .ok (.ifCond .eq 13, 3) := by decide +kernel
theorem dX10_reach_95 : decode cX10_reach 95 = .ok (.iload 8, 2) := by decide +kernel
theorem dX10_reach_97 : decode cX10_reach 97 = .ok (.iload 9, 2) := by decide +kernel
theorem dX10_reach_99 : decode cX10_reach 99 = .ok (.if_icmp .eq 6, 3) := by decide +kernel
theorem dX10_reach_102 : decode cX10_reach 102 = .ok (.goto 53, 3) := by decide +kernel
theorem dX10_reach_105 : decode cX10_reach 105 = .ok (.iload 7, 2) := by decide +kernel
theorem dX10_reach_107 : decode cX10_reach 107 = .ok (.iconst 4, 1) := by decide +kernel
theorem dX10_reach_108 : decode cX10_reach 108 = .ok (.iand, 1) := by decide +kernel
theorem dX10_reach_109 : decode cX10_reach 109 = .ok (.ifCond .eq 7, 3) := by decide +kernel
theorem dX10_reach_112 : decode cX10_reach 112 = .ok (.iconst 1, 1) := by decide +kernel
theorem dX10_reach_113 : decode cX10_reach 113 = .ok (.goto 5, 3) := by decide +kernel
theorem dX10_reach_116 : decode cX10_reach 116 = .ok (.bipush 8, 2) := by decide +kernel
theorem dX10_reach_118 : decode cX10_reach 118 = .ok (.istore 10, 2) := by decide +kernel
theorem dX10_reach_120 : decode cX10_reach 120 = .ok (.iconst 0, 1) := by decide +kernel
theorem dX10_reach_121 : decode cX10_reach 121 = .ok (.istore 11, 2) := by decide +kernel
theorem dX10_reach_123 : decode cX10_reach 123 = .ok (.iload 11, 2) := by decide +kernel
theorem dX10_reach_125 : decode cX10_reach 125 = .ok (.iload 10, 2) := by decide +kernel
theorem dX10_reach_127 : decode cX10_reach 127 = .ok (.if_icmp .ge 28, 3) := by decide +kernel
theorem dX10_reach_130 : decode cX10_reach 130 = .ok (.lload 4, 2) := by decide +kernel
theorem dX10_reach_132 : decode cX10_reach 132 = .ok (.aload_n 0, 1) := by decide +kernel
theorem dX10_reach_133 : decode cX10_reach 133 = .ok (.iload_n 2, 1) := by decide +kernel
theorem dX10_reach_134 : decode cX10_reach 134 = .ok (.iload 6, 2) := by decide +kernel
theorem dX10_reach_136 : decode cX10_reach 136 = .ok (.iload 7, 2) := by decide +kernel
theorem dX10_reach_138 : decode cX10_reach 138 = .ok (.iload 11, 2) := by decide +kernel
theorem dX10_reach_140 : decode cX10_reach 140 = .ok (.iload_n 1, 1) := by decide +kernel
theorem dX10_reach_141 : decode cX10_reach 141 = .ok (.iconst 1, 1) := by decide +kernel
theorem dX10_reach_142 : decode cX10_reach 142 = .ok (.iand, 1) := by decide +kernel
theorem dX10_reach_143 : decode cX10_reach 143 = .ok (.invokevirtual 100, 3) := by decide +kernel
theorem dX10_reach_146 : decode cX10_reach 146 = .ok (.lor, 1) := by decide +kernel
theorem dX10_reach_147 : decode cX10_reach 147 = .ok (.lstore 4, 2) := by decide +kernel
theorem dX10_reach_149 : decode cX10_reach 149 = .ok (.iinc 11 1, 3) := by decide +kernel
theorem dX10_reach_152 : decode cX10_reach 152 = .ok (.goto (-29), 3) := by decide +kernel
theorem dX10_reach_155 : decode cX10_reach 155 = .ok (.iinc 6 1, 3) := by decide +kernel
theorem dX10_reach_158 : decode cX10_reach 158 = .ok (.goto (-148), 3) := by decide +kernel
theorem dX10_reach_161 : decode cX10_reach 161 = .ok (.lload 4, 2) := by decide +kernel
theorem dX10_reach_163 : decode cX10_reach 163 = .ok (.lreturn, 1) := by decide +kernel
set_option maxRecDepth 20000 in
theorem moX10_reach_155 {o : Int64 × Hp} {k_10 : Hp → Nat → Int32 → Int32 → Int32 → Int64 → Int32 → Option (Int64 × Hp)} {F : Nat} (mk_10 : ∀ (h : Hp) (x0 : Nat) (x1 : Int32) (x2 : Int32) (x3 : Int32) (x4 : Int64) (x6 : Int32), k_10 h x0 x1 x2 x3 x4 x6 = some o → Le h o.2) {h : Hp} {x0 : Nat} {x1 : Int32} {x2 : Int32} {x3 : Int32} {x4 : Int64} {x6 : Int32} (hE : sX10_reach_155 F k_10 h x0 x1 x2 x3 x4 x6 = some o) : Le h o.2 := by
  obtain ⟨v_1, ev_1, hE⟩ := nm_e2 hE
  exact mk_10 _ _ _ _ _ _ _ hE
set_option maxRecDepth 20000 in
theorem moX10_reach_123 {o : Int64 × Hp} {k_10 : Hp → Nat → Int32 → Int32 → Int32 → Int64 → Int32 → Option (Int64 × Hp)} {F : Nat} (mk_10 : ∀ (h : Hp) (x0 : Nat) (x1 : Int32) (x2 : Int32) (x3 : Int32) (x4 : Int64) (x6 : Int32), k_10 h x0 x1 x2 x3 x4 x6 = some o → Le h o.2) : ∀ (f : Nat) {h : Hp} {x0 : Nat} {x1 : Int32} {x2 : Int32} {x3 : Int32} {x4 : Int64} {x6 : Int32} {x7 : Int32} {x10 : Int32} {x11 : Int32}, sX10_reach_123 F k_10 f h x0 x1 x2 x3 x4 x6 x7 x10 x11 = some o → Le h o.2 := by
  intro f
  induction f with
  | zero =>
    intro h x0 x1 x2 x3 x4 x6 x7 x10 x11 hE
    rw [sX10_reach_123] at hE
    cases hE
  | succ f ih =>
    intro h x0 x1 x2 x3 x4 x6 x7 x10 x11 hE
    rw [sX10_reach_123] at hE
    have mk_123 : ∀ (h : Hp) (x0 : Nat) (x1 : Int32) (x2 : Int32) (x3 : Int32) (x4 : Int64) (x6 : Int32) (x7 : Int32) (x10 : Int32) (x11 : Int32), sX10_reach_123 F k_10 f h x0 x1 x2 x3 x4 x6 x7 x10 x11 = some o → Le h o.2 := fun h x0 x1 x2 x3 x4 x6 x7 x10 x11 hE => ih hE
    rcases br_e hE with ⟨_, hE⟩ | ⟨_, hE⟩
    · exact moX10_reach_155 mk_10 hE
    · obtain ⟨o_2, eo_2, hE⟩ := cl_e hE
      refine (moX10_ride eo_2).tr ?_
      obtain ⟨v_3, ev_3, hE⟩ := nm_e2 hE
      obtain ⟨v_4, ev_4, hE⟩ := nm_e2 hE
      exact mk_123 _ _ _ _ _ _ _ _ _ _ hE
set_option maxRecDepth 20000 in
theorem moX10_reach_118 {o : Int64 × Hp} {k_10 : Hp → Nat → Int32 → Int32 → Int32 → Int64 → Int32 → Option (Int64 × Hp)} {F : Nat} (mk_10 : ∀ (h : Hp) (x0 : Nat) (x1 : Int32) (x2 : Int32) (x3 : Int32) (x4 : Int64) (x6 : Int32), k_10 h x0 x1 x2 x3 x4 x6 = some o → Le h o.2) {h : Hp} {x0 : Nat} {x1 : Int32} {x2 : Int32} {x3 : Int32} {x4 : Int64} {x6 : Int32} {x7 : Int32} {t0 : Int32} (hE : sX10_reach_118 F k_10 h x0 x1 x2 x3 x4 x6 x7 t0 = some o) : Le h o.2 := by
  exact moX10_reach_123 mk_10 _ hE
set_option maxRecDepth 20000 in
theorem moX10_reach_105 {o : Int64 × Hp} {k_10 : Hp → Nat → Int32 → Int32 → Int32 → Int64 → Int32 → Option (Int64 × Hp)} {F : Nat} (mk_10 : ∀ (h : Hp) (x0 : Nat) (x1 : Int32) (x2 : Int32) (x3 : Int32) (x4 : Int64) (x6 : Int32), k_10 h x0 x1 x2 x3 x4 x6 = some o → Le h o.2) {h : Hp} {x0 : Nat} {x1 : Int32} {x2 : Int32} {x3 : Int32} {x4 : Int64} {x6 : Int32} {x7 : Int32} (hE : sX10_reach_105 F k_10 h x0 x1 x2 x3 x4 x6 x7 = some o) : Le h o.2 := by
  rcases br_e hE with ⟨_, hE⟩ | ⟨_, hE⟩
  · exact moX10_reach_118 mk_10 hE
  · exact moX10_reach_118 mk_10 hE
set_option maxRecDepth 20000 in
theorem moX10_reach_88 {o : Int64 × Hp} {k_10 : Hp → Nat → Int32 → Int32 → Int32 → Int64 → Int32 → Option (Int64 × Hp)} {F : Nat} (mk_10 : ∀ (h : Hp) (x0 : Nat) (x1 : Int32) (x2 : Int32) (x3 : Int32) (x4 : Int64) (x6 : Int32), k_10 h x0 x1 x2 x3 x4 x6 = some o → Le h o.2) {h : Hp} {x0 : Nat} {x1 : Int32} {x2 : Int32} {x3 : Int32} {x4 : Int64} {x6 : Int32} {x7 : Int32} {x8 : Int32} {t0 : Int32} (hE : sX10_reach_88 F k_10 h x0 x1 x2 x3 x4 x6 x7 x8 t0 = some o) : Le h o.2 := by
  rcases br_e hE with ⟨_, hE⟩ | ⟨_, hE⟩
  · exact moX10_reach_105 mk_10 hE
  · rcases br_e hE with ⟨_, hE⟩ | ⟨_, hE⟩
    · exact moX10_reach_105 mk_10 hE
    · exact moX10_reach_155 mk_10 hE
set_option maxRecDepth 20000 in
theorem moX10_reach_10 {o : Int64 × Hp} {F : Nat} : ∀ (f : Nat) {h : Hp} {x0 : Nat} {x1 : Int32} {x2 : Int32} {x3 : Int32} {x4 : Int64} {x6 : Int32}, sX10_reach_10 F f h x0 x1 x2 x3 x4 x6 = some o → Le h o.2 := by
  intro f
  induction f with
  | zero =>
    intro h x0 x1 x2 x3 x4 x6 hE
    rw [sX10_reach_10] at hE
    cases hE
  | succ f ih =>
    intro h x0 x1 x2 x3 x4 x6 hE
    rw [sX10_reach_10] at hE
    have mk_10 : ∀ (h : Hp) (x0 : Nat) (x1 : Int32) (x2 : Int32) (x3 : Int32) (x4 : Int64) (x6 : Int32), sX10_reach_10 F f h x0 x1 x2 x3 x4 x6 = some o → Le h o.2 := fun h x0 x1 x2 x3 x4 x6 hE => ih hE
    obtain ⟨r_1, er_1, hE⟩ := cl_e hE
    obtain ⟨r_2, er_2, hE⟩ := cl_e hE
    obtain ⟨g_3, hE⟩ := gd_e hE
    rcases br_e hE with ⟨_, hE⟩ | ⟨_, hE⟩
    · exact le_some2 hE
    · obtain ⟨r_5, er_5, hE⟩ := cl_e hE
      obtain ⟨r_6, er_6, hE⟩ := cl_e hE
      obtain ⟨g_7, hE⟩ := gd_e hE
      obtain ⟨v_8, ev_8, hE⟩ := nm_e2 hE
      obtain ⟨v_9, ev_9, hE⟩ := nm_e2 hE
      rcases br_e hE with ⟨_, hE⟩ | ⟨_, hE⟩
      · obtain ⟨r_15, er_15, hE⟩ := cl_e hE
        obtain ⟨r_16, er_16, hE⟩ := cl_e hE
        obtain ⟨g_17, hE⟩ := gd_e hE
        exact moX10_reach_88 mk_10 hE
      · obtain ⟨r_11, er_11, hE⟩ := cl_e hE
        obtain ⟨r_12, er_12, hE⟩ := cl_e hE
        obtain ⟨r_13, er_13, hE⟩ := cl_e hE
        obtain ⟨g_14, hE⟩ := gd_e hE
        exact moX10_reach_88 mk_10 hE
set_option maxRecDepth 20000 in
theorem moX10_reach {o : Int64 × Hp} {F : Nat} {h : Hp} {x0 : Nat} {x1 : Int32} {x2 : Int32} (hE : sX10_reach F h x0 x1 x2 = some o) : Le h o.2 := by
  obtain ⟨v_1, ev_1, hE⟩ := nm_e2 hE
  exact moX10_reach_10 _ hE
set_option maxRecDepth 20000 in
theorem bX10_reach_155 {p : Program} {l : Launch} {e : Env} {s : State} {m : MethodId} {args : Array Value} {below : List Frame} {meth : Method} {c : Code} {X : Ec} {h0 : Hp} {o : Int64 × Hp} {k_10 : Hp → Nat → Int32 → Int32 → Int32 → Int64 → Int32 → Option (Int64 × Hp)} {F : Nat} (C : Cx X p s m args meth c RX10 cX10_reach 12 (some .long) "reach") (hk_10 : ∀ (h : Hp) (x0 : Nat) (x1 : Int32) (x2 : Int32) (x3 : Int32) (x4 : Int64) (x6 : Int32) (H : Heap) (locs : List Loc), hK h x0 = 10 → Km h0 h → Wx X h H → va_S (aA (eB X)) s.heap H locs → ∀ (ls : Array Slot), lv_has ls 12 [(0, .ref x0), (1, .int x1), (2, .int x2), (3, .int x3), (4, .long x4), (6, .int x6)] → k_10 h x0 x1 x2 x3 x4 x6 = some o → W p l e (rm 2 58) s m args below meth c H locs 0 0 (MQ below (QJ X h0 o.1 o.2) args s 0 0 (aA (eB X))) (F0 m 10 ls [])) {h : Hp} {x0 : Nat} {x1 : Int32} {x2 : Int32} {x3 : Int32} {x4 : Int64} {x6 : Int32} {H : Heap} {locs : List Loc} (k_x0 : hK h x0 = 10) (hkm : Km h0 h) (hW : Wx X h H) (hZ : va_S (aA (eB X)) s.heap H locs) (ls : Array Slot) (hl : lv_has ls 12 [(0, .ref x0), (1, .int x1), (2, .int x2), (3, .int x3), (4, .long x4), (6, .int x6)]) (hE : sX10_reach_155 F k_10 h x0 x1 x2 x3 x4 x6 = some o) : W p l e (rm 2 58) s m args below meth c H locs 0 0 (MQ below (QJ X h0 o.1 o.2) args s 0 0 (aA (eB X))) (F0 m 155 ls []) := by
  obtain ⟨v_1, ev_1, hE⟩ := nm_e2 hE
  refine lv_iinc (v := v_1) (lv' := [(6, .int v_1), (0, .ref x0), (1, .int x1), (2, .int x2), (3, .int x3), (4, .long x4)]) C.1 C.2.1 dX10_reach_155 hl (k := 5) rfl (by rw [ev_1]; rfl) (by decide) rfl (fun ls hl => ?_)
  refine lv_goto (tgt := 10) C.1 C.2.1 dX10_reach_158 (by decide) ?_
  exact hk_10 _ _ _ _ _ _ _ _ _ k_x0 hkm hW hZ _ (lv_sub hl [1, 2, 3, 4, 5, 0] rfl) hE
set_option maxRecDepth 20000 in
theorem bX10_reach_123 {p : Program} {l : Launch} {e : Env} {s : State} {m : MethodId} {args : Array Value} {below : List Frame} {meth : Method} {c : Code} {X : Ec} {h0 : Hp} {o : Int64 × Hp} {k_10 : Hp → Nat → Int32 → Int32 → Int32 → Int64 → Int32 → Option (Int64 × Hp)} {F : Nat} (C : Cx X p s m args meth c RX10 cX10_reach 12 (some .long) "reach") (hk_10 : ∀ (h : Hp) (x0 : Nat) (x1 : Int32) (x2 : Int32) (x3 : Int32) (x4 : Int64) (x6 : Int32) (H : Heap) (locs : List Loc), hK h x0 = 10 → Km h0 h → Wx X h H → va_S (aA (eB X)) s.heap H locs → ∀ (ls : Array Slot), lv_has ls 12 [(0, .ref x0), (1, .int x1), (2, .int x2), (3, .int x3), (4, .long x4), (6, .int x6)] → k_10 h x0 x1 x2 x3 x4 x6 = some o → W p l e (rm 2 58) s m args below meth c H locs 0 0 (MQ below (QJ X h0 o.1 o.2) args s 0 0 (aA (eB X))) (F0 m 10 ls [])) : ∀ (f : Nat) {h : Hp} {x0 : Nat} {x1 : Int32} {x2 : Int32} {x3 : Int32} {x4 : Int64} {x6 : Int32} {x7 : Int32} {x10 : Int32} {x11 : Int32} {H : Heap} {locs : List Loc} (k_x0 : hK h x0 = 10), Km h0 h → Wx X h H → va_S (aA (eB X)) s.heap H locs → ∀ (ls : Array Slot), lv_has ls 12 [(0, .ref x0), (1, .int x1), (2, .int x2), (3, .int x3), (4, .long x4), (6, .int x6), (7, .int x7), (10, .int x10), (11, .int x11)] → sX10_reach_123 F k_10 f h x0 x1 x2 x3 x4 x6 x7 x10 x11 = some o → W p l e (rm 2 58) s m args below meth c H locs 0 0 (MQ below (QJ X h0 o.1 o.2) args s 0 0 (aA (eB X))) (F0 m 123 ls []) := by
  intro f
  induction f with
  | zero =>
    intro h x0 x1 x2 x3 x4 x6 x7 x10 x11 H locs k_x0 hkm hW hZ ls hl hE
    rw [sX10_reach_123] at hE
    cases hE
  | succ f ih =>
    intro h x0 x1 x2 x3 x4 x6 x7 x10 x11 H locs k_x0 hkm hW hZ ls hl hE
    rw [sX10_reach_123] at hE
    have hk_123 : ∀ (h : Hp) (x0 : Nat) (x1 : Int32) (x2 : Int32) (x3 : Int32) (x4 : Int64) (x6 : Int32) (x7 : Int32) (x10 : Int32) (x11 : Int32) (H : Heap) (locs : List Loc), hK h x0 = 10 → Km h0 h → Wx X h H → va_S (aA (eB X)) s.heap H locs → ∀ (ls : Array Slot), lv_has ls 12 [(0, .ref x0), (1, .int x1), (2, .int x2), (3, .int x3), (4, .long x4), (6, .int x6), (7, .int x7), (10, .int x10), (11, .int x11)] → sX10_reach_123 F k_10 f h x0 x1 x2 x3 x4 x6 x7 x10 x11 = some o → W p l e (rm 2 58) s m args below meth c H locs 0 0 (MQ below (QJ X h0 o.1 o.2) args s 0 0 (aA (eB X))) (F0 m 123 ls []) := fun h x0 x1 x2 x3 x4 x6 x7 x10 x11 H locs k_x0 a b c ls hl hE => ih k_x0 a b c ls hl hE
    refine lv_iload C.1 C.2.1 dX10_reach_123 (lv_at hl 8 rfl) ?_
    refine lv_iload C.1 C.2.1 dX10_reach_125 (lv_at hl 7 rfl) ?_
    refine lv_icmp_ge (tgt := 155) C.1 C.2.1 dX10_reach_127 (by decide) (fun c_1 => ?_) (fun c_1 => ?_)
    · have hE := br_p hE c_1
      exact bX10_reach_155 C hk_10 k_x0 hkm hW hZ _ (lv_sub hl [0, 1, 2, 3, 4, 5] rfl) hE
    · have hE := br_n hE c_1
      refine lv_lload C.1 C.2.1 dX10_reach_130 (lv_at hl 4 rfl) ?_
      refine lv_aload_n C.1 C.2.1 dX10_reach_132 rfl (lv_at hl 0 rfl) ?_
      refine lv_iload_n C.1 C.2.1 dX10_reach_133 rfl (lv_at hl 2 rfl) ?_
      refine lv_iload C.1 C.2.1 dX10_reach_134 (lv_at hl 5 rfl) ?_
      refine lv_iload C.1 C.2.1 dX10_reach_136 (lv_at hl 6 rfl) ?_
      refine lv_iload C.1 C.2.1 dX10_reach_138 (lv_at hl 8 rfl) ?_
      refine lv_iload_n C.1 C.2.1 dX10_reach_140 rfl (lv_at hl 1 rfl) ?_
      refine lv_iconst (v := (1 : Int32)) C.1 C.2.1 dX10_reach_141 (by decide) ?_
      refine lv_iand C.1 C.2.1 dX10_reach_142 ?_
      obtain ⟨o_2, eo_2, hE⟩ := cl_e hE
      refine x_kJ (o := o_2) (z_runV (As := [.int x2, .int x6, .int x7, .int x11, .int (x1 &&& (1 : Int32))]) (rest := [.long x4]) C (ct_X10_ride l X F k_x0 eo_2) cw_X10_100 hW hZ k_x0 (by decide) rfl rfl rfl hl.1 (Nat.le_of_ble_eq_true rfl) rfl dX10_reach_143 ⟨Nat.le_of_ble_eq_true rfl, Nat.le_of_ble_eq_true rfl⟩ ⟨Nat.le_refl _, Nat.le_refl _⟩) hZ (fun _ _ hW km hZ => ?_)
      replace hkm := hkm.tr km
      replace k_x0 := km.at k_x0 (by decide)
      refine lv_lor C.1 C.2.1 dX10_reach_146 ?_
      obtain ⟨v_3, ev_3, hE⟩ := nm_e2 hE
      refine x_nmJ ev_3 ?_
      refine lv_lstore (lv' := [(4, .long v_3), (0, .ref x0), (1, .int x1), (2, .int x2), (3, .int x3), (6, .int x6), (7, .int x7), (10, .int x10), (11, .int x11)]) C.1 C.2.1 dX10_reach_147 hl (by decide) rfl (fun ls hl => ?_)
      obtain ⟨v_4, ev_4, hE⟩ := nm_e2 hE
      refine lv_iinc (v := v_4) (lv' := [(11, .int v_4), (4, .long v_3), (0, .ref x0), (1, .int x1), (2, .int x2), (3, .int x3), (6, .int x6), (7, .int x7), (10, .int x10)]) C.1 C.2.1 dX10_reach_149 hl (k := 8) rfl (by rw [ev_4]; rfl) (by decide) rfl (fun ls hl => ?_)
      refine lv_goto (tgt := 123) C.1 C.2.1 dX10_reach_152 (by decide) ?_
      exact hk_123 _ _ _ _ _ _ _ _ _ _ _ _ k_x0 hkm hW hZ _ (lv_sub hl [2, 3, 4, 5, 1, 6, 7, 8, 0] rfl) hE
set_option maxRecDepth 20000 in
theorem bX10_reach_118 {p : Program} {l : Launch} {e : Env} {s : State} {m : MethodId} {args : Array Value} {below : List Frame} {meth : Method} {c : Code} {X : Ec} {h0 : Hp} {o : Int64 × Hp} {k_10 : Hp → Nat → Int32 → Int32 → Int32 → Int64 → Int32 → Option (Int64 × Hp)} {F : Nat} (C : Cx X p s m args meth c RX10 cX10_reach 12 (some .long) "reach") (hk_10 : ∀ (h : Hp) (x0 : Nat) (x1 : Int32) (x2 : Int32) (x3 : Int32) (x4 : Int64) (x6 : Int32) (H : Heap) (locs : List Loc), hK h x0 = 10 → Km h0 h → Wx X h H → va_S (aA (eB X)) s.heap H locs → ∀ (ls : Array Slot), lv_has ls 12 [(0, .ref x0), (1, .int x1), (2, .int x2), (3, .int x3), (4, .long x4), (6, .int x6)] → k_10 h x0 x1 x2 x3 x4 x6 = some o → W p l e (rm 2 58) s m args below meth c H locs 0 0 (MQ below (QJ X h0 o.1 o.2) args s 0 0 (aA (eB X))) (F0 m 10 ls [])) {h : Hp} {x0 : Nat} {x1 : Int32} {x2 : Int32} {x3 : Int32} {x4 : Int64} {x6 : Int32} {x7 : Int32} {t0 : Int32} {H : Heap} {locs : List Loc} (k_x0 : hK h x0 = 10) (hkm : Km h0 h) (hW : Wx X h H) (hZ : va_S (aA (eB X)) s.heap H locs) (ls : Array Slot) (hl : lv_has ls 12 [(0, .ref x0), (1, .int x1), (2, .int x2), (3, .int x3), (4, .long x4), (6, .int x6), (7, .int x7)]) (hE : sX10_reach_118 F k_10 h x0 x1 x2 x3 x4 x6 x7 t0 = some o) : W p l e (rm 2 58) s m args below meth c H locs 0 0 (MQ below (QJ X h0 o.1 o.2) args s 0 0 (aA (eB X))) (F0 m 118 ls [.int t0]) := by
  refine lv_istore (lv' := [(10, .int t0), (0, .ref x0), (1, .int x1), (2, .int x2), (3, .int x3), (4, .long x4), (6, .int x6), (7, .int x7)]) C.1 C.2.1 dX10_reach_118 hl (by decide) rfl (fun ls hl => ?_)
  refine lv_iconst (v := (0 : Int32)) C.1 C.2.1 dX10_reach_120 (by decide) ?_
  refine lv_istore (lv' := [(11, .int (0 : Int32)), (10, .int t0), (0, .ref x0), (1, .int x1), (2, .int x2), (3, .int x3), (4, .long x4), (6, .int x6), (7, .int x7)]) C.1 C.2.1 dX10_reach_121 hl (by decide) rfl (fun ls hl => ?_)
  exact bX10_reach_123 C hk_10 F k_x0 hkm hW hZ _ (lv_sub hl [2, 3, 4, 5, 6, 7, 8, 1, 0] rfl) hE
set_option maxRecDepth 20000 in
theorem bX10_reach_105 {p : Program} {l : Launch} {e : Env} {s : State} {m : MethodId} {args : Array Value} {below : List Frame} {meth : Method} {c : Code} {X : Ec} {h0 : Hp} {o : Int64 × Hp} {k_10 : Hp → Nat → Int32 → Int32 → Int32 → Int64 → Int32 → Option (Int64 × Hp)} {F : Nat} (C : Cx X p s m args meth c RX10 cX10_reach 12 (some .long) "reach") (hk_10 : ∀ (h : Hp) (x0 : Nat) (x1 : Int32) (x2 : Int32) (x3 : Int32) (x4 : Int64) (x6 : Int32) (H : Heap) (locs : List Loc), hK h x0 = 10 → Km h0 h → Wx X h H → va_S (aA (eB X)) s.heap H locs → ∀ (ls : Array Slot), lv_has ls 12 [(0, .ref x0), (1, .int x1), (2, .int x2), (3, .int x3), (4, .long x4), (6, .int x6)] → k_10 h x0 x1 x2 x3 x4 x6 = some o → W p l e (rm 2 58) s m args below meth c H locs 0 0 (MQ below (QJ X h0 o.1 o.2) args s 0 0 (aA (eB X))) (F0 m 10 ls [])) {h : Hp} {x0 : Nat} {x1 : Int32} {x2 : Int32} {x3 : Int32} {x4 : Int64} {x6 : Int32} {x7 : Int32} {H : Heap} {locs : List Loc} (k_x0 : hK h x0 = 10) (hkm : Km h0 h) (hW : Wx X h H) (hZ : va_S (aA (eB X)) s.heap H locs) (ls : Array Slot) (hl : lv_has ls 12 [(0, .ref x0), (1, .int x1), (2, .int x2), (3, .int x3), (4, .long x4), (6, .int x6), (7, .int x7)]) (hE : sX10_reach_105 F k_10 h x0 x1 x2 x3 x4 x6 x7 = some o) : W p l e (rm 2 58) s m args below meth c H locs 0 0 (MQ below (QJ X h0 o.1 o.2) args s 0 0 (aA (eB X))) (F0 m 105 ls []) := by
  refine lv_iload C.1 C.2.1 dX10_reach_105 (lv_at hl 6 rfl) ?_
  refine lv_iconst (v := (4 : Int32)) C.1 C.2.1 dX10_reach_107 (by decide) ?_
  refine lv_iand C.1 C.2.1 dX10_reach_108 ?_
  refine lv_if_eq (tgt := 116) C.1 C.2.1 dX10_reach_109 (by decide) (fun c_1 => ?_) (fun c_1 => ?_)
  · have hE := br_p hE c_1
    refine lv_bipush (v := (8 : Int32)) C.1 C.2.1 dX10_reach_116 (by decide) ?_
    exact bX10_reach_118 C hk_10 k_x0 hkm hW hZ _ (lv_sub hl [0, 1, 2, 3, 4, 5, 6] rfl) hE
  · have hE := br_n hE c_1
    refine lv_iconst (v := (1 : Int32)) C.1 C.2.1 dX10_reach_112 (by decide) ?_
    refine lv_goto (tgt := 118) C.1 C.2.1 dX10_reach_113 (by decide) ?_
    exact bX10_reach_118 C hk_10 k_x0 hkm hW hZ _ (lv_sub hl [0, 1, 2, 3, 4, 5, 6] rfl) hE
set_option maxRecDepth 20000 in
theorem bX10_reach_88 {p : Program} {l : Launch} {e : Env} {s : State} {m : MethodId} {args : Array Value} {below : List Frame} {meth : Method} {c : Code} {X : Ec} {h0 : Hp} {o : Int64 × Hp} {k_10 : Hp → Nat → Int32 → Int32 → Int32 → Int64 → Int32 → Option (Int64 × Hp)} {F : Nat} (C : Cx X p s m args meth c RX10 cX10_reach 12 (some .long) "reach") (hk_10 : ∀ (h : Hp) (x0 : Nat) (x1 : Int32) (x2 : Int32) (x3 : Int32) (x4 : Int64) (x6 : Int32) (H : Heap) (locs : List Loc), hK h x0 = 10 → Km h0 h → Wx X h H → va_S (aA (eB X)) s.heap H locs → ∀ (ls : Array Slot), lv_has ls 12 [(0, .ref x0), (1, .int x1), (2, .int x2), (3, .int x3), (4, .long x4), (6, .int x6)] → k_10 h x0 x1 x2 x3 x4 x6 = some o → W p l e (rm 2 58) s m args below meth c H locs 0 0 (MQ below (QJ X h0 o.1 o.2) args s 0 0 (aA (eB X))) (F0 m 10 ls [])) {h : Hp} {x0 : Nat} {x1 : Int32} {x2 : Int32} {x3 : Int32} {x4 : Int64} {x6 : Int32} {x7 : Int32} {x8 : Int32} {t0 : Int32} {H : Heap} {locs : List Loc} (k_x0 : hK h x0 = 10) (hkm : Km h0 h) (hW : Wx X h H) (hZ : va_S (aA (eB X)) s.heap H locs) (ls : Array Slot) (hl : lv_has ls 12 [(0, .ref x0), (1, .int x1), (2, .int x2), (3, .int x3), (4, .long x4), (6, .int x6), (7, .int x7), (8, .int x8)]) (hE : sX10_reach_88 F k_10 h x0 x1 x2 x3 x4 x6 x7 x8 t0 = some o) : W p l e (rm 2 58) s m args below meth c H locs 0 0 (MQ below (QJ X h0 o.1 o.2) args s 0 0 (aA (eB X))) (F0 m 88 ls [.int t0]) := by
  refine lv_istore (lv' := [(9, .int t0), (0, .ref x0), (1, .int x1), (2, .int x2), (3, .int x3), (4, .long x4), (6, .int x6), (7, .int x7), (8, .int x8)]) C.1 C.2.1 dX10_reach_88 hl (by decide) rfl (fun ls hl => ?_)
  refine lv_iload C.1 C.2.1 dX10_reach_90 (lv_at hl 8 rfl) ?_
  refine lv_if_eq (tgt := 105) C.1 C.2.1 dX10_reach_92 (by decide) (fun c_1 => ?_) (fun c_1 => ?_)
  · have hE := br_p hE c_1
    exact bX10_reach_105 C hk_10 k_x0 hkm hW hZ _ (lv_sub hl [1, 2, 3, 4, 5, 6, 7] rfl) hE
  · have hE := br_n hE c_1
    refine lv_iload C.1 C.2.1 dX10_reach_95 (lv_at hl 8 rfl) ?_
    refine lv_iload C.1 C.2.1 dX10_reach_97 (lv_at hl 0 rfl) ?_
    refine lv_icmp_eq (tgt := 105) C.1 C.2.1 dX10_reach_99 (by decide) (fun c_2 => ?_) (fun c_2 => ?_)
    · have hE := br_p hE c_2
      exact bX10_reach_105 C hk_10 k_x0 hkm hW hZ _ (lv_sub hl [1, 2, 3, 4, 5, 6, 7] rfl) hE
    · have hE := br_n hE c_2
      refine lv_goto (tgt := 155) C.1 C.2.1 dX10_reach_102 (by decide) ?_
      exact bX10_reach_155 C hk_10 k_x0 hkm hW hZ _ (lv_sub hl [1, 2, 3, 4, 5, 6] rfl) hE
set_option maxRecDepth 20000 in
theorem bX10_reach_10 {p : Program} {l : Launch} {e : Env} {s : State} {m : MethodId} {args : Array Value} {below : List Frame} {meth : Method} {c : Code} {X : Ec} {h0 : Hp} {o : Int64 × Hp} {F : Nat} (C : Cx X p s m args meth c RX10 cX10_reach 12 (some .long) "reach") : ∀ (f : Nat) {h : Hp} {x0 : Nat} {x1 : Int32} {x2 : Int32} {x3 : Int32} {x4 : Int64} {x6 : Int32} {H : Heap} {locs : List Loc} (k_x0 : hK h x0 = 10), Km h0 h → Wx X h H → va_S (aA (eB X)) s.heap H locs → ∀ (ls : Array Slot), lv_has ls 12 [(0, .ref x0), (1, .int x1), (2, .int x2), (3, .int x3), (4, .long x4), (6, .int x6)] → sX10_reach_10 F f h x0 x1 x2 x3 x4 x6 = some o → W p l e (rm 2 58) s m args below meth c H locs 0 0 (MQ below (QJ X h0 o.1 o.2) args s 0 0 (aA (eB X))) (F0 m 10 ls []) := by
  intro f
  induction f with
  | zero =>
    intro h x0 x1 x2 x3 x4 x6 H locs k_x0 hkm hW hZ ls hl hE
    rw [sX10_reach_10] at hE
    cases hE
  | succ f ih =>
    intro h x0 x1 x2 x3 x4 x6 H locs k_x0 hkm hW hZ ls hl hE
    rw [sX10_reach_10] at hE
    have hk_10 : ∀ (h : Hp) (x0 : Nat) (x1 : Int32) (x2 : Int32) (x3 : Int32) (x4 : Int64) (x6 : Int32) (H : Heap) (locs : List Loc), hK h x0 = 10 → Km h0 h → Wx X h H → va_S (aA (eB X)) s.heap H locs → ∀ (ls : Array Slot), lv_has ls 12 [(0, .ref x0), (1, .int x1), (2, .int x2), (3, .int x3), (4, .long x4), (6, .int x6)] → sX10_reach_10 F f h x0 x1 x2 x3 x4 x6 = some o → W p l e (rm 2 58) s m args below meth c H locs 0 0 (MQ below (QJ X h0 o.1 o.2) args s 0 0 (aA (eB X))) (F0 m 10 ls []) := fun h x0 x1 x2 x3 x4 x6 H locs k_x0 a b c ls hl hE => ih k_x0 a b c ls hl hE
    refine lv_iload C.1 C.2.1 dX10_reach_10 (lv_at hl 5 rfl) ?_
    refine lv_aload_n C.1 C.2.1 dX10_reach_12 rfl (lv_at hl 0 rfl) ?_
    obtain ⟨r_1, er_1, hE⟩ := cl_e hE
    refine gf_X10_36 C hW k_x0 er_1 dX10_reach_13 (fun k_r_1 => ?_)
    obtain ⟨r_2, er_2, hE⟩ := cl_e hE
    refine gf_X10_84 C hW k_r_1 er_2 dX10_reach_16 (fun k_r_2 => ?_)
    refine lv_iload_n C.1 C.2.1 dX10_reach_19 rfl (lv_at hl 3 rfl) ?_
    obtain ⟨g_3, hE⟩ := gd_e hE
    refine y_iald C hW k_r_2 g_3 dX10_reach_20 ?_
    refine lv_icmp_ge (tgt := 161) C.1 C.2.1 dX10_reach_21 (by decide) (fun c_4 => ?_) (fun c_4 => ?_)
    · have hE := br_p hE c_4
      refine lv_lload C.1 C.2.1 dX10_reach_161 (lv_at hl 4 rfl) ?_
      exact x_lret C rfl hW hZ hkm hE dX10_reach_163
    · have hE := br_n hE c_4
      refine lv_aload_n C.1 C.2.1 dX10_reach_24 rfl (lv_at hl 0 rfl) ?_
      obtain ⟨r_5, er_5, hE⟩ := cl_e hE
      refine gf_X10_36 C hW k_x0 er_5 dX10_reach_25 (fun k_r_5 => ?_)
      obtain ⟨r_6, er_6, hE⟩ := cl_e hE
      refine gf_X10_87 C hW k_r_5 er_6 dX10_reach_28 (fun k_r_6 => ?_)
      refine lv_iload_n C.1 C.2.1 dX10_reach_31 rfl (lv_at hl 3 rfl) ?_
      refine lv_bipush (v := (8 : Int32)) C.1 C.2.1 dX10_reach_32 (by decide) ?_
      refine lv_imul C.1 C.2.1 dX10_reach_34 ?_
      refine lv_iload C.1 C.2.1 dX10_reach_35 (lv_at hl 5 rfl) ?_
      refine lv_iadd C.1 C.2.1 dX10_reach_37 ?_
      obtain ⟨g_7, hE⟩ := gd_e hE
      refine y_iald C hW k_r_6 g_7 dX10_reach_38 ?_
      obtain ⟨v_8, ev_8, hE⟩ := nm_e2 hE
      refine x_nmI ev_8 ?_
      refine lv_istore (lv' := [(7, .int v_8), (0, .ref x0), (1, .int x1), (2, .int x2), (3, .int x3), (4, .long x4), (6, .int x6)]) C.1 C.2.1 dX10_reach_39 hl (by decide) rfl (fun ls hl => ?_)
      refine lv_iload C.1 C.2.1 dX10_reach_41 (lv_at hl 0 rfl) ?_
      refine lv_bipush (v := (17 : Int32)) C.1 C.2.1 dX10_reach_43 (by decide) ?_
      refine lv_ishr C.1 C.2.1 dX10_reach_45 ?_
      refine lv_bipush (v := (15 : Int32)) C.1 C.2.1 dX10_reach_46 (by decide) ?_
      refine lv_iand C.1 C.2.1 dX10_reach_48 ?_
      obtain ⟨v_9, ev_9, hE⟩ := nm_e2 hE
      refine x_nmI ev_9 ?_
      refine lv_istore (lv' := [(8, .int v_9), (7, .int v_8), (0, .ref x0), (1, .int x1), (2, .int x2), (3, .int x3), (4, .long x4), (6, .int x6)]) C.1 C.2.1 dX10_reach_49 hl (by decide) rfl (fun ls hl => ?_)
      refine lv_iload_n C.1 C.2.1 dX10_reach_51 rfl (lv_at hl 3 rfl) ?_
      refine lv_iconst (v := (1 : Int32)) C.1 C.2.1 dX10_reach_52 (by decide) ?_
      refine lv_iand C.1 C.2.1 dX10_reach_53 ?_
      refine lv_if_ne (tgt := 71) C.1 C.2.1 dX10_reach_54 (by decide) (fun c_10 => ?_) (fun c_10 => ?_)
      · have hE := br_n hE c_10
        refine lv_aload_n C.1 C.2.1 dX10_reach_71 rfl (lv_at hl 2 rfl) ?_
        obtain ⟨r_11, er_11, hE⟩ := cl_e hE
        refine gf_X10_36 C hW k_x0 er_11 dX10_reach_72 (fun k_r_11 => ?_)
        refine gf_X10_97 C hW k_r_11 dX10_reach_75 ?_
        refine lv_aload_n C.1 C.2.1 dX10_reach_78 rfl (lv_at hl 2 rfl) ?_
        obtain ⟨r_12, er_12, hE⟩ := cl_e hE
        refine gf_X10_36 C hW k_x0 er_12 dX10_reach_79 (fun k_r_12 => ?_)
        obtain ⟨r_13, er_13, hE⟩ := cl_e hE
        refine gf_X10_94 C hW k_r_12 er_13 dX10_reach_82 (fun k_r_13 => ?_)
        refine lv_iload_n C.1 C.2.1 dX10_reach_85 rfl (lv_at hl 4 rfl) ?_
        obtain ⟨g_14, hE⟩ := gd_e hE
        refine y_iald C hW k_r_13 g_14 dX10_reach_86 ?_
        refine lv_isub C.1 C.2.1 dX10_reach_87 ?_
        exact bX10_reach_88 C hk_10 k_x0 hkm hW hZ _ (lv_sub hl [2, 3, 4, 5, 6, 7, 1, 0] rfl) hE
      · have hE := br_p hE c_10
        refine lv_aload_n C.1 C.2.1 dX10_reach_57 rfl (lv_at hl 2 rfl) ?_
        obtain ⟨r_15, er_15, hE⟩ := cl_e hE
        refine gf_X10_36 C hW k_x0 er_15 dX10_reach_58 (fun k_r_15 => ?_)
        obtain ⟨r_16, er_16, hE⟩ := cl_e hE
        refine gf_X10_94 C hW k_r_15 er_16 dX10_reach_61 (fun k_r_16 => ?_)
        refine lv_iload_n C.1 C.2.1 dX10_reach_64 rfl (lv_at hl 4 rfl) ?_
        obtain ⟨g_17, hE⟩ := gd_e hE
        refine y_iald C hW k_r_16 g_17 dX10_reach_65 ?_
        refine lv_iconst (v := (1 : Int32)) C.1 C.2.1 dX10_reach_66 (by decide) ?_
        refine lv_iadd C.1 C.2.1 dX10_reach_67 ?_
        refine lv_goto (tgt := 88) C.1 C.2.1 dX10_reach_68 (by decide) ?_
        exact bX10_reach_88 C hk_10 k_x0 hkm hW hZ _ (lv_sub hl [2, 3, 4, 5, 6, 7, 1, 0] rfl) hE
set_option maxRecDepth 20000 in
theorem ct_X10_reach (l : Launch) (X : Ec) (F : Nat) {h : Hp} {x0 : Nat} {x1 : Int32} {x2 : Int32} {o : Int64 × Hp} (k_x0 : hK h x0 = 10) (hE : sX10_reach F h x0 x1 x2 = some o) : MetJ l yX10_reach cX10_reach 12 (some .long) 2 58 X [.ref x0, .int x1, .int x2] h o := by
  refine x_met (by decide) (Nat.le_of_ble_eq_true rfl) ?_
  intro p e s m below meth c ls C hl hW hZ
  have hl : lv_has ls 12 [(0, .ref x0), (1, .int x1), (2, .int x2)] := hl
  have hkm : Km h h := Km.rf h
  refine lv_iload_n C.1 C.2.1 dX10_reach_0 rfl (lv_at hl 1 rfl) ?_
  refine lv_iconst (v := (1 : Int32)) C.1 C.2.1 dX10_reach_1 (by decide) ?_
  refine lv_ishr C.1 C.2.1 dX10_reach_2 ?_
  obtain ⟨v_1, ev_1, hE⟩ := nm_e2 hE
  refine x_nmI ev_1 ?_
  refine lv_istore_n (lv' := [(3, .int v_1), (0, .ref x0), (1, .int x1), (2, .int x2)]) C.1 C.2.1 dX10_reach_3 rfl hl (by decide) rfl (fun ls hl => ?_)
  refine lv_lconst (v := (0 : Int64)) C.1 C.2.1 dX10_reach_4 (by decide) ?_
  refine lv_lstore (lv' := [(4, .long (0 : Int64)), (3, .int v_1), (0, .ref x0), (1, .int x1), (2, .int x2)]) C.1 C.2.1 dX10_reach_5 hl (by decide) rfl (fun ls hl => ?_)
  refine lv_iconst (v := (0 : Int32)) C.1 C.2.1 dX10_reach_7 (by decide) ?_
  refine lv_istore (lv' := [(6, .int (0 : Int32)), (4, .long (0 : Int64)), (3, .int v_1), (0, .ref x0), (1, .int x1), (2, .int x2)]) C.1 C.2.1 dX10_reach_8 hl (by decide) rfl (fun ls hl => ?_)
  exact bX10_reach_10 C F k_x0 hkm hW hZ _ (lv_sub hl [3, 4, 5, 2, 1, 0] rfl) hE
