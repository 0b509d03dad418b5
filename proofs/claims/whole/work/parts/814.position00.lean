set_option maxRecDepth 100000 in
theorem m_258 : Cond.arrayClass .long ∈ W0 := w0_in (List.mem_append_right _ (List.mem_of_getElem? (i := 258) rfl)) rfl
set_option maxRecDepth 100000 in
theorem m_270 : Cond.methodLink RX3 3 objectInit ∈ W0 := w0_in (List.mem_append_right _ (List.mem_of_getElem? (i := 270) rfl)) rfl
set_option maxRecDepth 100000 in
theorem m_271 : Cond.methodLink RX3 29 yJ7_fill_031fb ∈ W0 := w0_in (List.mem_append_right _ (List.mem_of_getElem? (i := 271) rfl)) rfl
set_option maxRecDepth 100000 in
theorem m_272 : Cond.static yJ7_fill_031fb ∈ W0 := w0_in (List.mem_append_right _ (List.mem_of_getElem? (i := 272) rfl)) rfl
set_option maxRecDepth 100000 in
theorem m_273 : Cond.code yJ7_fill_031fb cJ7_fill_031fb 4 none ∈ W0 := w0_in (List.mem_append_right _ (List.mem_of_getElem? (i := 273) rfl)) rfl
set_option maxRecDepth 100000 in
theorem m_274 : Cond.methodLink RX3 35 yJ7_fill_53178 ∈ W0 := w0_in (List.mem_append_right _ (List.mem_of_getElem? (i := 274) rfl)) rfl
set_option maxRecDepth 100000 in
theorem m_277 : Cond.fieldLink RX3 9 (TX3 0).1 (TX3 0).2.1 (TX3 0).2.2.1 ∈ W0 := w0_in (List.mem_append_right _ (List.mem_of_getElem? (i := 277) rfl)) rfl
set_option maxRecDepth 100000 in
theorem m_283 : Cond.fieldLink RX3 15 (TX3 1).1 (TX3 1).2.1 (TX3 1).2.2.1 ∈ W0 := w0_in (List.mem_append_right _ (List.mem_of_getElem? (i := 283) rfl)) rfl
set_option maxRecDepth 100000 in
theorem m_287 : Cond.fieldLink RX3 19 (TX3 2).1 (TX3 2).2.1 (TX3 2).2.2.1 ∈ W0 := w0_in (List.mem_append_right _ (List.mem_of_getElem? (i := 287) rfl)) rfl
set_option maxRecDepth 100000 in
theorem m_289 : Cond.fieldLink RX3 23 (TX3 3).1 (TX3 3).2.1 (TX3 3).2.2.1 ∈ W0 := w0_in (List.mem_append_right _ (List.mem_of_getElem? (i := 289) rfl)) rfl
set_option maxRecDepth 100000 in
theorem m_292 : Cond.fieldLink RX3 26 (TX3 4).1 (TX3 4).2.1 (TX3 4).2.2.1 ∈ W0 := w0_in (List.mem_append_right _ (List.mem_of_getElem? (i := 292) rfl)) rfl
set_option maxRecDepth 100000 in
theorem m_343 : Cond.arrayClass .byte ∈ W0 := w0_in (List.mem_append_right _ (List.mem_of_getElem? (i := 343) rfl)) rfl
theorem i_X3 : ∀ w ∈ u_ws RX3 TX3 11, w ∈ W0 := by
  intro w hw
  exact w0_in (List.mem_append_right _ ((by decide +kernel : ∀ w ∈ u_ws RX3 TX3 11, w ∈ tables_1) w hw)) ((by decide +kernel : ∀ w ∈ u_ws RX3 TX3 11, goodWord w = true) w hw)
section
variable {p : Program} {l : Launch} {e : Env} {R : Room} {s : State} {m : MethodId} {args : Array Value} {below : List Frame} {meth : Method} {c : Code} {H : Heap} {locs : List Loc} {cells slots : Nat} {Q : State → Prop}
variable {cc : ByteArray} {pc : Nat} {ls : Array Slot} {rest : List Value} {X : Ec} {h h1 : Hp} {nL : Nat} {rt : Option FieldType} {mn : String}
theorem gf_X3_19 {a r : Nat} (C : Cx X p s m args meth c RX3 cc nL rt mn) (hW : Wx X h H) (ha : hK h a = 3) (hr : hR h a 2 = some r) (hdg : decode cc pc = .ok (.getfield 19, 3)) (kk : hK h r = 17 → W p l e R s m args below meth c H locs cells slots Q (F0 m (pc + 3) ls (.ref r :: rest))) : W p l e R s m args below meth c H locs cells slots Q (F0 m pc ls (.ref a :: rest)) :=
  y_getr C hW ha i_X3 (by decide) rfl (by decide) m_287 rfl rfl hr hdg kk
theorem pf_X3_26 {a r : Nat} (C : Cx X p s m args meth c RX3 cc nL rt mn) (hW : Wx X h H) (hZ : va_S (aA (eB X)) s.heap H locs) (hmn : mn = "<init>") (ha : hK h a = 3) (hr : hK h r = 17) (eh : h1 = wR h a 4 (some r)) (hdg : decode cc pc = .ok (.putfield 26, 3)) (kk : ∀ (H1 : Heap) (locs1 : List Loc), Wx X h1 H1 → Km h h1 → va_S (aA (eB X)) s.heap H1 locs1 → W p l e R s m args below meth c H1 locs1 cells slots Q (F0 m (pc + 3) ls rest)) : W p l e R s m args below meth c H locs cells slots Q (F0 m pc ls (.ref r :: .ref a :: rest)) :=
  y_putrF (ty := .array .int) C hW hZ ha i_X3 tyX3 tyX3_ok nmX3 (by decide) rfl rfl (by decide) m_292 rfl hmn rfl (by decide +kernel) rfl rfl rfl hr rfl (by decide) eh hdg kk
theorem gf_X3_9 {a r : Nat} (C : Cx X p s m args meth c RX3 cc nL rt mn) (hW : Wx X h H) (ha : hK h a = 3) (hr : hR h a 0 = some r) (hdg : decode cc pc = .ok (.getfield 9, 3)) (kk : hK h r = 16 → W p l e R s m args below meth c H locs cells slots Q (F0 m (pc + 3) ls (.ref r :: rest))) : W p l e R s m args below meth c H locs cells slots Q (F0 m pc ls (.ref a :: rest)) :=
  y_getr C hW ha i_X3 (by decide) rfl (by decide) m_277 rfl rfl hr hdg kk
theorem pf_X3_23 {a r : Nat} (C : Cx X p s m args meth c RX3 cc nL rt mn) (hW : Wx X h H) (hZ : va_S (aA (eB X)) s.heap H locs) (hmn : mn = "<init>") (ha : hK h a = 3) (hr : hK h r = 18) (eh : h1 = wR h a 3 (some r)) (hdg : decode cc pc = .ok (.putfield 23, 3)) (kk : ∀ (H1 : Heap) (locs1 : List Loc), Wx X h1 H1 → Km h h1 → va_S (aA (eB X)) s.heap H1 locs1 → W p l e R s m args below meth c H1 locs1 cells slots Q (F0 m (pc + 3) ls rest)) : W p l e R s m args below meth c H locs cells slots Q (F0 m pc ls (.ref r :: .ref a :: rest)) :=
  y_putrF (ty := .array .long) C hW hZ ha i_X3 tyX3 tyX3_ok nmX3 (by decide) rfl rfl (by decide) m_289 rfl hmn rfl (by decide +kernel) rfl rfl rfl hr rfl (by decide) eh hdg kk
theorem pf_X3_19 {a r : Nat} (C : Cx X p s m args meth c RX3 cc nL rt mn) (hW : Wx X h H) (hZ : va_S (aA (eB X)) s.heap H locs) (hmn : mn = "<init>") (ha : hK h a = 3) (hr : hK h r = 17) (eh : h1 = wR h a 2 (some r)) (hdg : decode cc pc = .ok (.putfield 19, 3)) (kk : ∀ (H1 : Heap) (locs1 : List Loc), Wx X h1 H1 → Km h h1 → va_S (aA (eB X)) s.heap H1 locs1 → W p l e R s m args below meth c H1 locs1 cells slots Q (F0 m (pc + 3) ls rest)) : W p l e R s m args below meth c H locs cells slots Q (F0 m pc ls (.ref r :: .ref a :: rest)) :=
  y_putrF (ty := .array .int) C hW hZ ha i_X3 tyX3 tyX3_ok nmX3 (by decide) rfl rfl (by decide) m_287 rfl hmn rfl (by decide +kernel) rfl rfl rfl hr rfl (by decide) eh hdg kk
theorem pf_X3_15 {a r : Nat} (C : Cx X p s m args meth c RX3 cc nL rt mn) (hW : Wx X h H) (hZ : va_S (aA (eB X)) s.heap H locs) (hmn : mn = "<init>") (ha : hK h a = 3) (hr : hK h r = 18) (eh : h1 = wR h a 1 (some r)) (hdg : decode cc pc = .ok (.putfield 15, 3)) (kk : ∀ (H1 : Heap) (locs1 : List Loc), Wx X h1 H1 → Km h h1 → va_S (aA (eB X)) s.heap H1 locs1 → W p l e R s m args below meth c H1 locs1 cells slots Q (F0 m (pc + 3) ls rest)) : W p l e R s m args below meth c H locs cells slots Q (F0 m pc ls (.ref r :: .ref a :: rest)) :=
  y_putrF (ty := .array .long) C hW hZ ha i_X3 tyX3 tyX3_ok nmX3 (by decide) rfl rfl (by decide) m_283 rfl hmn rfl (by decide +kernel) rfl rfl rfl hr rfl (by decide) eh hdg kk
theorem pf_X3_9 {a r : Nat} (C : Cx X p s m args meth c RX3 cc nL rt mn) (hW : Wx X h H) (hZ : va_S (aA (eB X)) s.heap H locs) (hmn : mn = "<init>") (ha : hK h a = 3) (hr : hK h r = 16) (eh : h1 = wR h a 0 (some r)) (hdg : decode cc pc = .ok (.putfield 9, 3)) (kk : ∀ (H1 : Heap) (locs1 : List Loc), Wx X h1 H1 → Km h h1 → va_S (aA (eB X)) s.heap H1 locs1 → W p l e R s m args below meth c H1 locs1 cells slots Q (F0 m (pc + 3) ls rest)) : W p l e R s m args below meth c H locs cells slots Q (F0 m pc ls (.ref r :: .ref a :: rest)) :=
  y_putrF (ty := .array .byte) C hW hZ ha i_X3 tyX3 tyX3_ok nmX3 (by decide) rfl rfl (by decide) m_277 rfl hmn rfl (by decide +kernel) rfl rfl rfl hr rfl (by decide) eh hdg kk
end
theorem cw_X3_35 : cwd RX3 35 yJ7_fill_53178 cJ7_fill_53178 4 none true 2 := ⟨m_276, m_274, m_9, m_275, by decide, by decide, by decide +kernel⟩
theorem cw_X3_29 : cwd RX3 29 yJ7_fill_031fb cJ7_fill_031fb 4 none true 2 := ⟨m_273, m_271, m_9, m_272, by decide, by decide, by decide +kernel⟩
theorem dX3_init_0 : decode cX3_init 0 = .ok (.aload_n 0, 1) := by decide +kernel
theorem dX3_init_1 : decode cX3_init 1 = .ok (.invokespecial 3, 3) := by decide +kernel
theorem dX3_init_4 : decode cX3_init 4 = .ok (.aload_n 0, 1) := by decide +kernel
theorem dX3_init_5 : decode cX3_init 5 = .ok (.bipush 64, 2) := by decide +kernel
theorem dX3_init_7 : decode cX3_init 7 = .ok (.newarray .byte, 2) := by decide +kernel
theorem dX3_init_9 : decode cX3_init 9 = .ok (.putfield 9, 3) := by decide +kernel
theorem dX3_init_12 : decode cX3_init 12 = .ok (.aload_n 0, 1) := by decide +kernel
theorem dX3_init_13 : decode cX3_init 13 = .ok (.iconst 2, 1) := by decide +kernel
theorem dX3_init_14 : decode cX3_init 14 = .ok (.newarray .long, 2) := by decide +kernel
theorem dX3_init_16 : decode cX3_init 16 = .ok (.putfield 15, 3) := by decide +kernel
theorem dX3_init_19 : decode cX3_init 19 = .ok (.aload_n 0, 1) := by decide +kernel
theorem dX3_init_20 : decode cX3_init 20 = .ok (.iconst 2, 1) := by decide +kernel
theorem dX3_init_21 : decode cX3_init 21 = .ok (.newarray .int, 2) := by decide +kernel
theorem dX3_init_23 : decode cX3_init 23 = .ok (.putfield 19, 3) := by decide +kernel
theorem dX3_init_26 : decode cX3_init 26 = .ok (.aload_n 0, 1) := by decide +kernel
theorem dX3_init_27 : decode cX3_init 27 = .ok (.iconst 2, 1) := by decide +kernel
theorem dX3_init_28 : decode cX3_init 28 = .ok (.newarray .long, 2) := by decide +kernel
theorem dX3_init_30 : decode cX3_init 30 = .ok (.putfield 23, 3) := by decide +kernel
theorem dX3_init_33 : decode cX3_init 33 = .ok (.aload_n 0, 1) := by decide +kernel
theorem dX3_init_34 : decode cX3_init 34 = .ok (.iconst 2, 1) := by decide +kernel
theorem dX3_init_35 : decode cX3_init 35 = .ok (.newarray .int, 2) := by decide +kernel
theorem dX3_init_37 : decode cX3_init 37 = .ok (.putfield 26, 3) := by decide +kernel
theorem dX3_init_40 : decode cX3_init 40 = .ok (.aload_n 0, 1) := by decide +kernel
theorem dX3_init_41 : decode cX3_init 41 = .ok (.getfield 9, 3) := by decide +kernel
theorem dX3_init_44 : decode cX3_init 44 = .ok (.iconst (-1), 1) := by decide +kernel
theorem dX3_init_45 : decode cX3_init 45 = .ok (.invokestatic 29, 3) := by decide +kernel
theorem dX3_init_48 : decode cX3_init 48 = .ok (.aload_n 0, 1) := by decide +kernel
theorem dX3_init_49 : decode cX3_init 49 = .ok (.getfield 19, 3) := by decide +kernel
theorem dX3_init_52 : decode cX3_init 52 = .ok (.iconst (-1), 1) := by decide +kernel
theorem dX3_init_53 : decode cX3_init 53 = .ok (.invokestatic 35, 3) := by decide +kernel
theorem dX3_init_56 : decode cX3_init 56 = .ok (.return_, 1) := by decide +kernel
set_option maxRecDepth 20000 in
theorem moX3_init_56 {o : Hp} {F : Nat} {h : Hp} (hE : sX3_init_56 F h  = some o) : Le h o := by
  exact le_some1 hE
set_option maxRecDepth 20000 in
theorem moX3_init_48 {o : Hp} {F : Nat} {h : Hp} {x0 : Nat} (hE : sX3_init_48 F h x0 = some o) : Le h o := by
  obtain ⟨r_1, er_1, hE⟩ := cl_e hE
  obtain ⟨o_2, eo_2, hE⟩ := cl_e hE
  refine (moJ7_fill_53178 eo_2).tr ?_
  exact moX3_init_56 hE
set_option maxRecDepth 20000 in
theorem moX3_init_37 {o : Hp} {F : Nat} {h : Hp} {x0 : Nat} {t0 : Nat} {t1 : Nat} (hE : sX3_init_37 F h x0 t0 t1 = some o) : Le h o := by
  obtain ⟨h_1, eh_1, hE⟩ := nm_e2 hE
  refine (le_R eh_1).tr ?_
  obtain ⟨r_2, er_2, hE⟩ := cl_e hE
  obtain ⟨o_3, eo_3, hE⟩ := cl_e hE
  refine (moJ7_fill_031fb eo_3).tr ?_
  exact moX3_init_48 hE
set_option maxRecDepth 20000 in
theorem moX3_init_30 {o : Hp} {F : Nat} {h : Hp} {x0 : Nat} {t0 : Nat} {t1 : Nat} (hE : sX3_init_30 F h x0 t0 t1 = some o) : Le h o := by
  obtain ⟨h_1, eh_1, hE⟩ := nm_e2 hE
  refine (le_R eh_1).tr ?_
  obtain ⟨a_2, ea_2, hE⟩ := nm_e2 hE
  obtain ⟨h_3, eh_3, hE⟩ := nm_e2 hE
  refine (le_C eh_3).tr ?_
  exact moX3_init_37 hE
set_option maxRecDepth 20000 in
theorem moX3_init_23 {o : Hp} {F : Nat} {h : Hp} {x0 : Nat} {t0 : Nat} {t1 : Nat} (hE : sX3_init_23 F h x0 t0 t1 = some o) : Le h o := by
  obtain ⟨h_1, eh_1, hE⟩ := nm_e2 hE
  refine (le_R eh_1).tr ?_
  obtain ⟨a_2, ea_2, hE⟩ := nm_e2 hE
  obtain ⟨h_3, eh_3, hE⟩ := nm_e2 hE
  refine (le_C eh_3).tr ?_
  exact moX3_init_30 hE
set_option maxRecDepth 20000 in
theorem moX3_init_16 {o : Hp} {F : Nat} {h : Hp} {x0 : Nat} {t0 : Nat} {t1 : Nat} (hE : sX3_init_16 F h x0 t0 t1 = some o) : Le h o := by
  obtain ⟨h_1, eh_1, hE⟩ := nm_e2 hE
  refine (le_R eh_1).tr ?_
  obtain ⟨a_2, ea_2, hE⟩ := nm_e2 hE
  obtain ⟨h_3, eh_3, hE⟩ := nm_e2 hE
  refine (le_C eh_3).tr ?_
  exact moX3_init_23 hE
set_option maxRecDepth 20000 in
theorem moX3_init_9 {o : Hp} {F : Nat} {h : Hp} {x0 : Nat} {t0 : Nat} {t1 : Nat} (hE : sX3_init_9 F h x0 t0 t1 = some o) : Le h o := by
  obtain ⟨h_1, eh_1, hE⟩ := nm_e2 hE
  refine (le_R eh_1).tr ?_
  obtain ⟨a_2, ea_2, hE⟩ := nm_e2 hE
  obtain ⟨h_3, eh_3, hE⟩ := nm_e2 hE
  refine (le_C eh_3).tr ?_
  exact moX3_init_16 hE
set_option maxRecDepth 20000 in
theorem moX3_init {o : Hp} {F : Nat} {h : Hp} {x0 : Nat} (hE : sX3_init F h x0 = some o) : Le h o := by
  obtain ⟨a_1, ea_1, hE⟩ := nm_e2 hE
  obtain ⟨h_2, eh_2, hE⟩ := nm_e2 hE
  refine (le_C eh_2).tr ?_
  exact moX3_init_9 hE
set_option maxRecDepth 20000 in
theorem bX3_init_56 {p : Program} {l : Launch} {e : Env} {s : State} {m : MethodId} {args : Array Value} {below : List Frame} {meth : Method} {c : Code} {X : Ec} {h0 : Hp} {o : Hp} {F : Nat} (C : Cx X p s m args meth c RX3 cX3_init 1 none "<init>") {h : Hp} {H : Heap} {locs : List Loc} (hkl : Kl h0 h) (hW : Wx X h H) (hZ : va_S (aA (eB X)) s.heap H locs) (ls : Array Slot) (hl : lv_has ls 1 []) (hE : sX3_init_56 F h  = some o) : W p l e (rmA 1 23 h0 o) s m args below meth c H locs (hS h - hS h0) (hL h - hL h0) (MQ below (QVA X h0 o) args s (hS o - hS h0) (hL o - hL h0) (aA (eB X))) (F0 m 56 ls []) := by
  exact x_vretA C rfl hW hZ hkl hE dX3_init_56
set_option maxRecDepth 20000 in
theorem bX3_init_48 {p : Program} {l : Launch} {e : Env} {s : State} {m : MethodId} {args : Array Value} {below : List Frame} {meth : Method} {c : Code} {X : Ec} {h0 : Hp} {o : Hp} {F : Nat} (C : Cx X p s m args meth c RX3 cX3_init 1 none "<init>") {h : Hp} {x0 : Nat} {H : Heap} {locs : List Loc} (k_x0 : hK h x0 = 3) (hkl : Kl h0 h) (hW : Wx X h H) (hZ : va_S (aA (eB X)) s.heap H locs) (ls : Array Slot) (hl : lv_has ls 1 [(0, .ref x0)]) (hE : sX3_init_48 F h x0 = some o) : W p l e (rmA 1 23 h0 o) s m args below meth c H locs (hS h - hS h0) (hL h - hL h0) (MQ below (QVA X h0 o) args s (hS o - hS h0) (hL o - hL h0) (aA (eB X))) (F0 m 48 ls []) := by
  refine lv_aload_n C.1 C.2.1 dX3_init_48 rfl (lv_at hl 0 rfl) ?_
  obtain ⟨r_1, er_1, hE⟩ := cl_e hE
  refine gf_X3_19 C hW k_x0 er_1 dX3_init_49 (fun k_r_1 => ?_)
  refine lv_iconst (v := (-1 : Int32)) C.1 C.2.1 dX3_init_52 (by decide) ?_
  obtain ⟨o_2, eo_2, hE⟩ := cl_e hE
  have m1 := moJ7_fill_53178 eo_2
  have m2 := moX3_init_56 hE
  refine x_kV (o := o_2) (z_runS (As := [.ref r_1, .int (-1 : Int32)]) (rest := []) C (ct_J7_fill_53178 l X F k_r_1 eo_2) cw_X3_35 hW hZ rfl hl.1 (Nat.le_of_ble_eq_true rfl) rfl dX3_init_53 ⟨Nat.le_of_ble_eq_true rfl, Nat.le_of_ble_eq_true rfl⟩ (rm_ok0 hkl m1 m2)) hZ (fun _ _ hW km hZ => ?_)
  replace hkl := hkl.tr km.l
  refine x_wc km ?_
  replace k_x0 := km.at k_x0 (by decide)
  exact bX3_init_56 C hkl hW hZ _ (lv_sub hl [] rfl) hE
set_option maxRecDepth 20000 in
theorem bX3_init_37 {p : Program} {l : Launch} {e : Env} {s : State} {m : MethodId} {args : Array Value} {below : List Frame} {meth : Method} {c : Code} {X : Ec} {h0 : Hp} {o : Hp} {F : Nat} (C : Cx X p s m args meth c RX3 cX3_init 1 none "<init>") {h : Hp} {x0 : Nat} {t0 : Nat} {t1 : Nat} {H : Heap} {locs : List Loc} (k_x0 : hK h x0 = 3) (k_t0 : hK h t0 = 17) (k_t1 : hK h t1 = 3) (hkl : Kl h0 h) (hW : Wx X h H) (hZ : va_S (aA (eB X)) s.heap H locs) (ls : Array Slot) (hl : lv_has ls 1 [(0, .ref x0)]) (hE : sX3_init_37 F h x0 t0 t1 = some o) : W p l e (rmA 1 23 h0 o) s m args below meth c H locs (hS h - hS h0) (hL h - hL h0) (MQ below (QVA X h0 o) args s (hS o - hS h0) (hL o - hL h0) (aA (eB X))) (F0 m 37 ls [.ref t0, .ref t1]) := by
  obtain ⟨h_1, eh_1, hE⟩ := nm_e2 hE
  refine pf_X3_26 C hW hZ rfl k_t1 k_t0 eh_1 dX3_init_37 (fun _ _ hW km hZ => ?_)
  replace hkl := hkl.tr km.l
  refine x_wc km ?_
  replace k_x0 := km.at k_x0 (by decide)
  refine lv_aload_n C.1 C.2.1 dX3_init_40 rfl (lv_at hl 0 rfl) ?_
  obtain ⟨r_2, er_2, hE⟩ := cl_e hE
  refine gf_X3_9 C hW k_x0 er_2 dX3_init_41 (fun k_r_2 => ?_)
  refine lv_iconst (v := (-1 : Int32)) C.1 C.2.1 dX3_init_44 (by decide) ?_
  obtain ⟨o_3, eo_3, hE⟩ := cl_e hE
  have m1 := moJ7_fill_031fb eo_3
  have m2 := moX3_init_48 hE
  refine x_kV (o := o_3) (z_runS (As := [.ref r_2, .int (-1 : Int32)]) (rest := []) C (ct_J7_fill_031fb l X F k_r_2 eo_3) cw_X3_29 hW hZ rfl hl.1 (Nat.le_of_ble_eq_true rfl) rfl dX3_init_45 ⟨Nat.le_of_ble_eq_true rfl, Nat.le_of_ble_eq_true rfl⟩ (rm_ok0 hkl m1 m2)) hZ (fun _ _ hW km hZ => ?_)
  replace hkl := hkl.tr km.l
  refine x_wc km ?_
  replace k_x0 := km.at k_x0 (by decide)
  exact bX3_init_48 C k_x0 hkl hW hZ _ (lv_sub hl [0] rfl) hE
set_option maxRecDepth 20000 in
theorem bX3_init_30 {p : Program} {l : Launch} {e : Env} {s : State} {m : MethodId} {args : Array Value} {below : List Frame} {meth : Method} {c : Code} {X : Ec} {h0 : Hp} {o : Hp} {F : Nat} (C : Cx X p s m args meth c RX3 cX3_init 1 none "<init>") {h : Hp} {x0 : Nat} {t0 : Nat} {t1 : Nat} {H : Heap} {locs : List Loc} (k_x0 : hK h x0 = 3) (k_t0 : hK h t0 = 18) (k_t1 : hK h t1 = 3) (hkl : Kl h0 h) (hW : Wx X h H) (hZ : va_S (aA (eB X)) s.heap H locs) (ls : Array Slot) (hl : lv_has ls 1 [(0, .ref x0)]) (hE : sX3_init_30 F h x0 t0 t1 = some o) : W p l e (rmA 1 23 h0 o) s m args below meth c H locs (hS h - hS h0) (hL h - hL h0) (MQ below (QVA X h0 o) args s (hS o - hS h0) (hL o - hL h0) (aA (eB X))) (F0 m 30 ls [.ref t0, .ref t1]) := by
  obtain ⟨h_1, eh_1, hE⟩ := nm_e2 hE
  refine pf_X3_23 C hW hZ rfl k_t1 k_t0 eh_1 dX3_init_30 (fun _ _ hW km hZ => ?_)
  replace hkl := hkl.tr km.l
  refine x_wc km ?_
  replace k_x0 := km.at k_x0 (by decide)
  refine lv_aload_n C.1 C.2.1 dX3_init_33 rfl (lv_at hl 0 rfl) ?_
  refine lv_iconst (v := (2 : Int32)) C.1 C.2.1 dX3_init_34 (by decide) ?_
  obtain ⟨a_2, ea_2, hE⟩ := nm_e2 hE
  obtain ⟨h_3, eh_3, hE⟩ := nm_e2 hE
  refine y_newa (k := 17) (ty := .int) (t0 := 1) C hW hZ hkl (moX3_init_37 hE) ⟨rfl, rfl⟩ (by decide) (by decide) rfl rfl (by intro C hC; cases hC) hdef_17 m_54 (by decide) (by decide) eh_3 dX3_init_35 (fun _ hW km k_a_2 hZ => ?_)
  replace hkl := hkl.tr km
  refine x_nmA ea_2 ?_
  rw [← ea_2] at k_a_2
  replace k_x0 := km.at k_x0 (by decide)
  exact bX3_init_37 C k_x0 k_a_2 k_x0 hkl hW hZ _ (lv_sub hl [0] rfl) hE
set_option maxRecDepth 20000 in
theorem bX3_init_23 {p : Program} {l : Launch} {e : Env} {s : State} {m : MethodId} {args : Array Value} {below : List Frame} {meth : Method} {c : Code} {X : Ec} {h0 : Hp} {o : Hp} {F : Nat} (C : Cx X p s m args meth c RX3 cX3_init 1 none "<init>") {h : Hp} {x0 : Nat} {t0 : Nat} {t1 : Nat} {H : Heap} {locs : List Loc} (k_x0 : hK h x0 = 3) (k_t0 : hK h t0 = 17) (k_t1 : hK h t1 = 3) (hkl : Kl h0 h) (hW : Wx X h H) (hZ : va_S (aA (eB X)) s.heap H locs) (ls : Array Slot) (hl : lv_has ls 1 [(0, .ref x0)]) (hE : sX3_init_23 F h x0 t0 t1 = some o) : W p l e (rmA 1 23 h0 o) s m args below meth c H locs (hS h - hS h0) (hL h - hL h0) (MQ below (QVA X h0 o) args s (hS o - hS h0) (hL o - hL h0) (aA (eB X))) (F0 m 23 ls [.ref t0, .ref t1]) := by
  obtain ⟨h_1, eh_1, hE⟩ := nm_e2 hE
  refine pf_X3_19 C hW hZ rfl k_t1 k_t0 eh_1 dX3_init_23 (fun _ _ hW km hZ => ?_)
  replace hkl := hkl.tr km.l
  refine x_wc km ?_
  replace k_x0 := km.at k_x0 (by decide)
  refine lv_aload_n C.1 C.2.1 dX3_init_26 rfl (lv_at hl 0 rfl) ?_
  refine lv_iconst (v := (2 : Int32)) C.1 C.2.1 dX3_init_27 (by decide) ?_
  obtain ⟨a_2, ea_2, hE⟩ := nm_e2 hE
  obtain ⟨h_3, eh_3, hE⟩ := nm_e2 hE
  refine y_newa (k := 18) (ty := .long) (t0 := 2) C hW hZ hkl (moX3_init_30 hE) ⟨rfl, rfl⟩ (by decide) (by decide) rfl rfl (by intro C hC; cases hC) hdef_18 m_258 (by decide) (by decide) eh_3 dX3_init_28 (fun _ hW km k_a_2 hZ => ?_)
  replace hkl := hkl.tr km
  refine x_nmA ea_2 ?_
  rw [← ea_2] at k_a_2
  replace k_x0 := km.at k_x0 (by decide)
  exact bX3_init_30 C k_x0 k_a_2 k_x0 hkl hW hZ _ (lv_sub hl [0] rfl) hE
set_option maxRecDepth 20000 in
theorem bX3_init_16 {p : Program} {l : Launch} {e : Env} {s : State} {m : MethodId} {args : Array Value} {below : List Frame} {meth : Method} {c : Code} {X : Ec} {h0 : Hp} {o : Hp} {F : Nat} (C : Cx X p s m args meth c RX3 cX3_init 1 none "<init>") {h : Hp} {x0 : Nat} {t0 : Nat} {t1 : Nat} {H : Heap} {locs : List Loc} (k_x0 : hK h x0 = 3) (k_t0 : hK h t0 = 18) (k_t1 : hK h t1 = 3) (hkl : Kl h0 h) (hW : Wx X h H) (hZ : va_S (aA (eB X)) s.heap H locs) (ls : Array Slot) (hl : lv_has ls 1 [(0, .ref x0)]) (hE : sX3_init_16 F h x0 t0 t1 = some o) : W p l e (rmA 1 23 h0 o) s m args below meth c H locs (hS h - hS h0) (hL h - hL h0) (MQ below (QVA X h0 o) args s (hS o - hS h0) (hL o - hL h0) (aA (eB X))) (F0 m 16 ls [.ref t0, .ref t1]) := by
  obtain ⟨h_1, eh_1, hE⟩ := nm_e2 hE
  refine pf_X3_15 C hW hZ rfl k_t1 k_t0 eh_1 dX3_init_16 (fun _ _ hW km hZ => ?_)
  replace hkl := hkl.tr km.l
  refine x_wc km ?_
  replace k_x0 := km.at k_x0 (by decide)
  refine lv_aload_n C.1 C.2.1 dX3_init_19 rfl (lv_at hl 0 rfl) ?_
  refine lv_iconst (v := (2 : Int32)) C.1 C.2.1 dX3_init_20 (by decide) ?_
  obtain ⟨a_2, ea_2, hE⟩ := nm_e2 hE
  obtain ⟨h_3, eh_3, hE⟩ := nm_e2 hE
  refine y_newa (k := 17) (ty := .int) (t0 := 1) C hW hZ hkl (moX3_init_23 hE) ⟨rfl, rfl⟩ (by decide) (by decide) rfl rfl (by intro C hC; cases hC) hdef_17 m_54 (by decide) (by decide) eh_3 dX3_init_21 (fun _ hW km k_a_2 hZ => ?_)
  replace hkl := hkl.tr km
  refine x_nmA ea_2 ?_
  rw [← ea_2] at k_a_2
  replace k_x0 := km.at k_x0 (by decide)
  exact bX3_init_23 C k_x0 k_a_2 k_x0 hkl hW hZ _ (lv_sub hl [0] rfl) hE
set_option maxRecDepth 20000 in
theorem bX3_init_9 {p : Program} {l : Launch} {e : Env} {s : State} {m : MethodId} {args : Array Value} {below : List Frame} {meth : Method} {c : Code} {X : Ec} {h0 : Hp} {o : Hp} {F : Nat} (C : Cx X p s m args meth c RX3 cX3_init 1 none "<init>") {h : Hp} {x0 : Nat} {t0 : Nat} {t1 : Nat} {H : Heap} {locs : List Loc} (k_x0 : hK h x0 = 3) (k_t0 : hK h t0 = 16) (k_t1 : hK h t1 = 3) (hkl : Kl h0 h) (hW : Wx X h H) (hZ : va_S (aA (eB X)) s.heap H locs) (ls : Array Slot) (hl : lv_has ls 1 [(0, .ref x0)]) (hE : sX3_init_9 F h x0 t0 t1 = some o) : W p l e (rmA 1 23 h0 o) s m args below meth c H locs (hS h - hS h0) (hL h - hL h0) (MQ below (QVA X h0 o) args s (hS o - hS h0) (hL o - hL h0) (aA (eB X))) (F0 m 9 ls [.ref t0, .ref t1]) := by
  obtain ⟨h_1, eh_1, hE⟩ := nm_e2 hE
  refine pf_X3_9 C hW hZ rfl k_t1 k_t0 eh_1 dX3_init_9 (fun _ _ hW km hZ => ?_)
  replace hkl := hkl.tr km.l
  refine x_wc km ?_
  replace k_x0 := km.at k_x0 (by decide)
  refine lv_aload_n C.1 C.2.1 dX3_init_12 rfl (lv_at hl 0 rfl) ?_
  refine lv_iconst (v := (2 : Int32)) C.1 C.2.1 dX3_init_13 (by decide) ?_
  obtain ⟨a_2, ea_2, hE⟩ := nm_e2 hE
  obtain ⟨h_3, eh_3, hE⟩ := nm_e2 hE
  refine y_newa (k := 18) (ty := .long) (t0 := 2) C hW hZ hkl (moX3_init_16 hE) ⟨rfl, rfl⟩ (by decide) (by decide) rfl rfl (by intro C hC; cases hC) hdef_18 m_258 (by decide) (by decide) eh_3 dX3_init_14 (fun _ hW km k_a_2 hZ => ?_)
  replace hkl := hkl.tr km
  refine x_nmA ea_2 ?_
  rw [← ea_2] at k_a_2
  replace k_x0 := km.at k_x0 (by decide)
  exact bX3_init_16 C k_x0 k_a_2 k_x0 hkl hW hZ _ (lv_sub hl [0] rfl) hE
set_option maxRecDepth 20000 in
theorem ct_X3_init (l : Launch) (X : Ec) (F : Nat) {h : Hp} {x0 : Nat} {o : Hp} (k_x0 : hK h x0 = 3) (hE : sX3_init F h x0 = some o) : MetVA l yX3_init cX3_init 1 none 1 23 X [.ref x0] h o := by
  refine x_metA (oh := o) (by decide) (Nat.le_of_ble_eq_true rfl) ?_
  intro p e s m below meth c ls C hl hW hZ
  have hl : lv_has ls 1 [(0, .ref x0)] := hl
  have hkl : Kl h h := Kl.rf h
  refine lv_aload_n C.1 C.2.1 dX3_init_0 rfl (lv_at hl 0 rfl) ?_
  refine W.objInit C.1 C.2.1 C.2.2.2.1 (C.2.2.2.2.1 _ m_270) (C.2.2.2.2.1 _ m_32) (C.2.2.2.2.1 _ m_33) rfl (by rw [C.2.2.1]; exact hl.1) rfl dX3_init_1 (Nat.le_of_ble_eq_true rfl) (Nat.le_of_ble_eq_true rfl) ?_
  refine W.eq (g2 := F0 m 4 ls []) rfl ?_
  refine lv_aload_n C.1 C.2.1 dX3_init_4 rfl (lv_at hl 0 rfl) ?_
  refine lv_bipush (v := (64 : Int32)) C.1 C.2.1 dX3_init_5 (by decide) ?_
  obtain ⟨a_1, ea_1, hE⟩ := nm_e2 hE
  obtain ⟨h_2, eh_2, hE⟩ := nm_e2 hE
  refine y_newa (k := 16) (ty := .byte) (t0 := 0) C hW hZ hkl (moX3_init_9 hE) ⟨rfl, rfl⟩ (by decide) (by decide) rfl rfl (by intro C hC; cases hC) hdef_16 m_343 (by decide) (by decide) eh_2 dX3_init_7 (fun _ hW km k_a_1 hZ => ?_)
  replace hkl := hkl.tr km
  refine x_nmA ea_1 ?_
  rw [← ea_1] at k_a_1
  replace k_x0 := km.at k_x0 (by decide)
  exact bX3_init_9 C k_x0 k_a_1 k_x0 hkl hW hZ _ (lv_sub hl [0] rfl) hE
set_option maxRecDepth 100000 in
theorem m_304 : Cond.fieldLink RX3 58 (TX3 6).1 (TX3 6).2.1 (TX3 6).2.2.1 ∈ W0 := w0_in (List.mem_append_right _ (List.mem_of_getElem? (i := 304) rfl)) rfl
set_option maxRecDepth 100000 in
theorem m_310 : Cond.fieldLink RX3 55 (TX3 8).1 (TX3 8).2.1 (TX3 8).2.2.1 ∈ W0 := w0_in (List.mem_append_right _ (List.mem_of_getElem? (i := 310) rfl)) rfl
set_option maxRecDepth 100000 in
theorem m_314 : Cond.fieldLink RX3 52 (TX3 9).1 (TX3 9).2.1 (TX3 9).2.2.1 ∈ W0 := w0_in (List.mem_append_right _ (List.mem_of_getElem? (i := 314) rfl)) rfl
set_option maxRecDepth 100000 in
theorem m_318 : Cond.fieldLink RX3 48 (TX3 10).1 (TX3 10).2.1 (TX3 10).2.2.1 ∈ W0 := w0_in (List.mem_append_right _ (List.mem_of_getElem? (i := 318) rfl)) rfl
set_option maxRecDepth 100000 in
theorem m_796 : Cond.static yJ7_fill_d0a16 ∈ W0 := w0_in (List.mem_append_right _ (List.mem_of_getElem? (i := 796) rfl)) rfl
set_option maxRecDepth 100000 in
theorem m_797 : Cond.code yJ7_fill_d0a16 cJ7_fill_d0a16 5 none ∈ W0 := w0_in (List.mem_append_right _ (List.mem_of_getElem? (i := 797) rfl)) rfl
set_option maxRecDepth 100000 in
theorem m_942 : Cond.methodLink RX3 38 yJ7_fill_d0a16 ∈ W0 := w0_in (List.mem_append_right _ (List.mem_of_getElem? (i := 942) rfl)) rfl
section
variable {p : Program} {l : Launch} {e : Env} {R : Room} {s : State} {m : MethodId} {args : Array Value} {below : List Frame} {meth : Method} {c : Code} {H : Heap} {locs : List Loc} {cells slots : Nat} {Q : State → Prop}
variable {cc : ByteArray} {pc : Nat} {ls : Array Slot} {rest : List Value} {X : Ec} {h h1 : Hp} {nL : Nat} {rt : Option FieldType} {mn : String}
theorem pf_X3_48 {a : Nat} {v : Int64} (C : Cx X p s m args meth c RX3 cc nL rt mn) (hW : Wx X h H) (hZ : va_S (aA (eB X)) s.heap H locs) (ha : hK h a = 3) (eh : h1 = wJ h a 10 v) (hdg : decode cc pc = .ok (.putfield 48, 3)) (kk : ∀ (H1 : Heap) (locs1 : List Loc), Wx X h1 H1 → Km h h1 → va_S (aA (eB X)) s.heap H1 locs1 → W p l e R s m args below meth c H1 locs1 cells slots Q (F0 m (pc + 3) ls rest)) : W p l e R s m args below meth c H locs cells slots Q (F0 m pc ls (.long v :: .ref a :: rest)) :=
  y_putj C hW hZ ha i_X3 tyX3 tyX3_ok nmX3 (by decide) rfl rfl (by decide) m_318 rfl (by decide +kernel) rfl eh hdg kk
theorem pf_X3_52 {a : Nat} {v : Int64} (C : Cx X p s m args meth c RX3 cc nL rt mn) (hW : Wx X h H) (hZ : va_S (aA (eB X)) s.heap H locs) (ha : hK h a = 3) (eh : h1 = wJ h a 9 v) (hdg : decode cc pc = .ok (.putfield 52, 3)) (kk : ∀ (H1 : Heap) (locs1 : List Loc), Wx X h1 H1 → Km h h1 → va_S (aA (eB X)) s.heap H1 locs1 → W p l e R s m args below meth c H1 locs1 cells slots Q (F0 m (pc + 3) ls rest)) : W p l e R s m args below meth c H locs cells slots Q (F0 m pc ls (.long v :: .ref a :: rest)) :=
  y_putj C hW hZ ha i_X3 tyX3 tyX3_ok nmX3 (by decide) rfl rfl (by decide) m_314 rfl (by decide +kernel) rfl eh hdg kk
theorem pf_X3_55 {a : Nat} {v : Int64} (C : Cx X p s m args meth c RX3 cc nL rt mn) (hW : Wx X h H) (hZ : va_S (aA (eB X)) s.heap H locs) (ha : hK h a = 3) (eh : h1 = wJ h a 8 v) (hdg : decode cc pc = .ok (.putfield 55, 3)) (kk : ∀ (H1 : Heap) (locs1 : List Loc), Wx X h1 H1 → Km h h1 → va_S (aA (eB X)) s.heap H1 locs1 → W p l e R s m args below meth c H1 locs1 cells slots Q (F0 m (pc + 3) ls rest)) : W p l e R s m args below meth c H locs cells slots Q (F0 m pc ls (.long v :: .ref a :: rest)) :=
  y_putj C hW hZ ha i_X3 tyX3 tyX3_ok nmX3 (by decide) rfl rfl (by decide) m_310 rfl (by decide +kernel) rfl eh hdg kk
theorem gf_X3_23 {a r : Nat} (C : Cx X p s m args meth c RX3 cc nL rt mn) (hW : Wx X h H) (ha : hK h a = 3) (hr : hR h a 3 = some r) (hdg : decode cc pc = .ok (.getfield 23, 3)) (kk : hK h r = 18 → W p l e R s m args below meth c H locs cells slots Q (F0 m (pc + 3) ls (.ref r :: rest))) : W p l e R s m args below meth c H locs cells slots Q (F0 m pc ls (.ref a :: rest)) :=
  y_getr C hW ha i_X3 (by decide) rfl (by decide) m_289 rfl rfl hr hdg kk
theorem gf_X3_26 {a r : Nat} (C : Cx X p s m args meth c RX3 cc nL rt mn) (hW : Wx X h H) (ha : hK h a = 3) (hr : hR h a 4 = some r) (hdg : decode cc pc = .ok (.getfield 26, 3)) (kk : hK h r = 17 → W p l e R s m args below meth c H locs cells slots Q (F0 m (pc + 3) ls (.ref r :: rest))) : W p l e R s m args below meth c H locs cells slots Q (F0 m pc ls (.ref a :: rest)) :=
  y_getr C hW ha i_X3 (by decide) rfl (by decide) m_292 rfl rfl hr hdg kk
theorem pf_X3_58 {a : Nat} {v : Int32} (C : Cx X p s m args meth c RX3 cc nL rt mn) (hW : Wx X h H) (hZ : va_S (aA (eB X)) s.heap H locs) (ha : hK h a = 3) (eh : h1 = wI h a 6 v) (hdg : decode cc pc = .ok (.putfield 58, 3)) (kk : ∀ (H1 : Heap) (locs1 : List Loc), Wx X h1 H1 → Km h h1 → va_S (aA (eB X)) s.heap H1 locs1 → W p l e R s m args below meth c H1 locs1 cells slots Q (F0 m (pc + 3) ls rest)) : W p l e R s m args below meth c H locs cells slots Q (F0 m pc ls (.int v :: .ref a :: rest)) :=
  y_puti (ty := .int) C hW hZ ha i_X3 tyX3 tyX3_ok nmX3 (by decide) rfl rfl (by decide) m_304 rfl (by decide +kernel) rfl rfl rfl eh hdg kk
end
theorem cw_X3_38 : cwd RX3 38 yJ7_fill_d0a16 cJ7_fill_d0a16 5 none true 2 := ⟨m_797, m_942, m_9, m_796, by decide, by decide, by decide +kernel⟩
theorem dX3_strip_0 : decode cX3_strip 0 = .ok (.aload_n 0, 1) := by decide +kernel
theorem dX3_strip_1 : decode cX3_strip 1 = .ok (.aload_n 0, 1) := by decide +kernel
theorem dX3_strip_2 : decode cX3_strip 2 = .ok (.aload_n 0, 1) := by decide +kernel
theorem dX3_strip_3 : decode cX3_strip 3 = .ok (.lconst 0, 1) := by decide +kernel
theorem dX3_strip_4 : decode cX3_strip 4 = .ok (.dup2_x1, 1) := by decide +kernel
theorem dX3_strip_5 : decode cX3_strip 5 = .ok (.putfield 48, 3) := by decide +kernel
theorem dX3_strip_8 : decode cX3_strip 8 = .ok (.dup2_x1, 1) := by decide +kernel
theorem dX3_strip_9 : decode cX3_strip 9 = .ok (.putfield 52, 3) := by decide +kernel
theorem dX3_strip_12 : decode cX3_strip 12 = .ok (.putfield 55, 3) := by decide +kernel
theorem dX3_strip_15 : decode cX3_strip 15 = .ok (.aload_n 0, 1) := by decide +kernel
theorem dX3_strip_16 : decode cX3_strip 16 = .ok (.getfield 23, 3) := by decide +kernel
theorem dX3_strip_19 : decode cX3_strip 19 = .ok (.lconst 0, 1) := by decide +kernel
theorem dX3_strip_20 : decode cX3_strip 20 = .ok (.invokestatic 38, 3) := by decide +kernel
theorem dX3_strip_23 : decode cX3_strip 23 = .ok (.aload_n 0, 1) := by decide +kernel
theorem dX3_strip_24 : decode cX3_strip 24 = .ok (.getfield 26, 3) := by decide +kernel
theorem dX3_strip_27 : decode cX3_strip 27 = .ok (.iconst 0, 1) := by decide +kernel
theorem dX3_strip_28 : decode cX3_strip 28 = .ok (.invokestatic 35, 3) := by decide +kernel
theorem dX3_strip_31 : decode cX3_strip 31 = .ok (.aload_n 0, 1) := by decide +kernel
theorem dX3_strip_32 : decode cX3_strip 32 = .ok (.iconst 0, 1) := by decide +kernel
theorem dX3_strip_33 : decode cX3_strip 33 = .ok (.putfield 58, 3) := by decide +kernel
theorem dX3_strip_36 : decode cX3_strip 36 = .ok (.return_, 1) := by decide +kernel
set_option maxRecDepth 20000 in
theorem moX3_strip {o : Hp} {F : Nat} {h : Hp} {x0 : Nat} (hE : sX3_strip F h x0 = some o) : Le h o := by
  obtain ⟨h_1, eh_1, hE⟩ := nm_e2 hE
  refine (le_J eh_1).tr ?_
  obtain ⟨h_2, eh_2, hE⟩ := nm_e2 hE
  refine (le_J eh_2).tr ?_
  obtain ⟨h_3, eh_3, hE⟩ := nm_e2 hE
  refine (le_J eh_3).tr ?_
  obtain ⟨r_4, er_4, hE⟩ := cl_e hE
  obtain ⟨o_5, eo_5, hE⟩ := cl_e hE
  refine (moJ7_fill_d0a16 eo_5).tr ?_
  obtain ⟨r_6, er_6, hE⟩ := cl_e hE
  obtain ⟨o_7, eo_7, hE⟩ := cl_e hE
  refine (moJ7_fill_53178 eo_7).tr ?_
  obtain ⟨h_8, eh_8, hE⟩ := nm_e2 hE
  refine (le_I eh_8).tr ?_
  exact le_some1 hE
set_option maxRecDepth 20000 in
theorem ct_X3_strip (l : Launch) (X : Ec) (F : Nat) {h : Hp} {x0 : Nat} {o : Hp} (k_x0 : hK h x0 = 3) (hE : sX3_strip F h x0 = some o) : MetV l yX3_strip cX3_strip 1 none 1 24 X [.ref x0] h o := by
  refine x_met (by decide) (Nat.le_of_ble_eq_true rfl) ?_
  intro p e s m below meth c ls C hl hW hZ
  have hl : lv_has ls 1 [(0, .ref x0)] := hl
  have hkm : Km h h := Km.rf h
  refine lv_aload_n C.1 C.2.1 dX3_strip_0 rfl (lv_at hl 0 rfl) ?_
  refine lv_aload_n C.1 C.2.1 dX3_strip_1 rfl (lv_at hl 0 rfl) ?_
  refine lv_aload_n C.1 C.2.1 dX3_strip_2 rfl (lv_at hl 0 rfl) ?_
  refine lv_lconst (v := (0 : Int64)) C.1 C.2.1 dX3_strip_3 (by decide) ?_
  refine lv_dup2_x1_2 C.1 C.2.1 dX3_strip_4 rfl rfl ?_
  obtain ⟨h_1, eh_1, hE⟩ := nm_e2 hE
  refine pf_X3_48 C hW hZ k_x0 eh_1 dX3_strip_5 (fun _ _ hW km hZ => ?_)
  replace hkm := hkm.tr km
  replace k_x0 := km.at k_x0 (by decide)
  refine lv_dup2_x1_2 C.1 C.2.1 dX3_strip_8 rfl rfl ?_
  obtain ⟨h_2, eh_2, hE⟩ := nm_e2 hE
  refine pf_X3_52 C hW hZ k_x0 eh_2 dX3_strip_9 (fun _ _ hW km hZ => ?_)
  replace hkm := hkm.tr km
  replace k_x0 := km.at k_x0 (by decide)
  obtain ⟨h_3, eh_3, hE⟩ := nm_e2 hE
  refine pf_X3_55 C hW hZ k_x0 eh_3 dX3_strip_12 (fun _ _ hW km hZ => ?_)
  replace hkm := hkm.tr km
  replace k_x0 := km.at k_x0 (by decide)
  refine lv_aload_n C.1 C.2.1 dX3_strip_15 rfl (lv_at hl 0 rfl) ?_
  obtain ⟨r_4, er_4, hE⟩ := cl_e hE
  refine gf_X3_23 C hW k_x0 er_4 dX3_strip_16 (fun k_r_4 => ?_)
  refine lv_lconst (v := (0 : Int64)) C.1 C.2.1 dX3_strip_19 (by decide) ?_
  obtain ⟨o_5, eo_5, hE⟩ := cl_e hE
  refine x_kV (o := o_5) (z_runS (As := [.ref r_4, .long (0 : Int64)]) (rest := []) C (ct_J7_fill_d0a16 l X F k_r_4 eo_5) cw_X3_38 hW hZ rfl hl.1 (Nat.le_of_ble_eq_true rfl) rfl dX3_strip_20 ⟨Nat.le_of_ble_eq_true rfl, Nat.le_of_ble_eq_true rfl⟩ ⟨Nat.le_refl _, Nat.le_refl _⟩) hZ (fun _ _ hW km hZ => ?_)
  replace hkm := hkm.tr km
  replace k_x0 := km.at k_x0 (by decide)
  refine lv_aload_n C.1 C.2.1 dX3_strip_23 rfl (lv_at hl 0 rfl) ?_
  obtain ⟨r_6, er_6, hE⟩ := cl_e hE
  refine gf_X3_26 C hW k_x0 er_6 dX3_strip_24 (fun k_r_6 => ?_)
  refine lv_iconst (v := (0 : Int32)) C.1 C.2.1 dX3_strip_27 (by decide) ?_
  obtain ⟨o_7, eo_7, hE⟩ := cl_e hE
  refine x_kV (o := o_7) (z_runS (As := [.ref r_6, .int (0 : Int32)]) (rest := []) C (ct_J7_fill_53178 l X F k_r_6 eo_7) cw_X3_35 hW hZ rfl hl.1 (Nat.le_of_ble_eq_true rfl) rfl dX3_strip_28 ⟨Nat.le_of_ble_eq_true rfl, Nat.le_of_ble_eq_true rfl⟩ ⟨Nat.le_refl _, Nat.le_refl _⟩) hZ (fun _ _ hW km hZ => ?_)
  replace hkm := hkm.tr km
  replace k_x0 := km.at k_x0 (by decide)
  refine lv_aload_n C.1 C.2.1 dX3_strip_31 rfl (lv_at hl 0 rfl) ?_
  refine lv_iconst (v := (0 : Int32)) C.1 C.2.1 dX3_strip_32 (by decide) ?_
  obtain ⟨h_8, eh_8, hE⟩ := nm_e2 hE
  refine pf_X3_58 C hW hZ k_x0 eh_8 dX3_strip_33 (fun _ _ hW km hZ => ?_)
  replace hkm := hkm.tr km
  replace k_x0 := km.at k_x0 (by decide)
  exact x_vret C rfl hW hZ hkm hE dX3_strip_36
set_option maxRecDepth 100000 in
theorem m_8 : Cond.initialized RX3 ∈ W0 := w0_in (List.mem_append_right _ (List.mem_of_getElem? (i := 8) rfl)) rfl
set_option maxRecDepth 100000 in
theorem m_296 : Cond.fieldLink RX3 41 (TX3 5).1 (TX3 5).2.1 (TX3 5).2.2.1 ∈ W0 := w0_in (List.mem_append_right _ (List.mem_of_getElem? (i := 296) rfl)) rfl
set_option maxRecDepth 100000 in
theorem m_943 : Cond.methodLink RX3 45 yX3_strip ∈ W0 := w0_in (List.mem_append_right _ (List.mem_of_getElem? (i := 943) rfl)) rfl
set_option maxRecDepth 100000 in
theorem m_944 : Cond.instanceMethod yX3_strip ∈ W0 := w0_in (List.mem_append_right _ (List.mem_of_getElem? (i := 944) rfl)) rfl
set_option maxRecDepth 100000 in
theorem m_945 : Cond.selects RX3 yX3_strip yX3_strip ∈ W0 := w0_in (List.mem_append_right _ (List.mem_of_getElem? (i := 945) rfl)) rfl
set_option maxRecDepth 100000 in
theorem m_946 : Cond.code yX3_strip cX3_strip 1 none ∈ W0 := w0_in (List.mem_append_right _ (List.mem_of_getElem? (i := 946) rfl)) rfl
section
variable {p : Program} {l : Launch} {e : Env} {R : Room} {s : State} {m : MethodId} {args : Array Value} {below : List Frame} {meth : Method} {c : Code} {H : Heap} {locs : List Loc} {cells slots : Nat} {Q : State → Prop}
variable {cc : ByteArray} {pc : Nat} {ls : Array Slot} {rest : List Value} {X : Ec} {h h1 : Hp} {nL : Nat} {rt : Option FieldType} {mn : String}
theorem gf_X3_15 {a r : Nat} (C : Cx X p s m args meth c RX3 cc nL rt mn) (hW : Wx X h H) (ha : hK h a = 3) (hr : hR h a 1 = some r) (hdg : decode cc pc = .ok (.getfield 15, 3)) (kk : hK h r = 18 → W p l e R s m args below meth c H locs cells slots Q (F0 m (pc + 3) ls (.ref r :: rest))) : W p l e R s m args below meth c H locs cells slots Q (F0 m pc ls (.ref a :: rest)) :=
  y_getr C hW ha i_X3 (by decide) rfl (by decide) m_283 rfl rfl hr hdg kk
theorem pf_X3_41 {a : Nat} {v : Int32} (C : Cx X p s m args meth c RX3 cc nL rt mn) (hW : Wx X h H) (hZ : va_S (aA (eB X)) s.heap H locs) (ha : hK h a = 3) (eh : h1 = wI h a 5 v) (hdg : decode cc pc = .ok (.putfield 41, 3)) (kk : ∀ (H1 : Heap) (locs1 : List Loc), Wx X h1 H1 → Km h h1 → va_S (aA (eB X)) s.heap H1 locs1 → W p l e R s m args below meth c H1 locs1 cells slots Q (F0 m (pc + 3) ls rest)) : W p l e R s m args below meth c H locs cells slots Q (F0 m pc ls (.int v :: .ref a :: rest)) :=
  y_puti (ty := .int) C hW hZ ha i_X3 tyX3 tyX3_ok nmX3 (by decide) rfl rfl (by decide) m_296 rfl (by decide +kernel) rfl rfl rfl eh hdg kk
end
theorem cw_X3_45 : cwd RX3 45 yX3_strip cX3_strip 1 none false 0 := ⟨m_946, m_943, m_8, ⟨m_944, m_945⟩, by decide, by decide, by decide +kernel⟩
theorem dX3_clear_0 : decode cX3_clear 0 = .ok (.aload_n 0, 1) := by decide +kernel
theorem dX3_clear_1 : decode cX3_clear 1 = .ok (.getfield 9, 3) := by decide +kernel
theorem dX3_clear_4 : decode cX3_clear 4 = .ok (.iconst (-1), 1) := by decide +kernel
theorem dX3_clear_5 : decode cX3_clear 5 = .ok (.invokestatic 29, 3) := by decide +kernel
theorem dX3_clear_8 : decode cX3_clear 8 = .ok (.aload_n 0, 1) := by decide +kernel
theorem dX3_clear_9 : decode cX3_clear 9 = .ok (.getfield 15, 3) := by decide +kernel
theorem dX3_clear_12 : decode cX3_clear 12 = .ok (.lconst 0, 1) := by decide +kernel
theorem dX3_clear_13 : decode cX3_clear 13 = .ok (.invokestatic 38, 3) := by decide +kernel
theorem dX3_clear_16 : decode cX3_clear 16 = .ok (.aload_n 0, 1) := by decide +kernel
theorem dX3_clear_17 : decode cX3_clear 17 = .ok (.getfield 19, 3) := by decide +kernel
theorem dX3_clear_20 : decode cX3_clear 20 = .ok (.iconst (-1), 1) := by decide +kernel
theorem dX3_clear_21 : decode cX3_clear 21 = .ok (.invokestatic 35, 3) := by decide +kernel
theorem dX3_clear_24 : decode cX3_clear 24 = .ok (.aload_n 0, 1) := by decide +kernel
theorem dX3_clear_25 : decode cX3_clear 25 = .ok (.iconst 0, 1) := by decide +kernel
theorem dX3_clear_26 : decode cX3_clear 26 = .ok (.putfield 41, 3) := by decide +kernel
theorem dX3_clear_29 : decode cX3_clear 29 = .ok (.aload_n 0, 1) := by decide +kernel
theorem dX3_clear_30 : decode cX3_clear 30 = .ok (.invokevirtual 45, 3) := by decide +kernel
theorem dX3_clear_33 : decode cX3_clear 33 = .ok (.return_, 1) := by decide +kernel
set_option maxRecDepth 20000 in
theorem moX3_clear {o : Hp} {F : Nat} {h : Hp} {x0 : Nat} (hE : sX3_clear F h x0 = some o) : Le h o := by
  obtain ⟨r_1, er_1, hE⟩ := cl_e hE
  obtain ⟨o_2, eo_2, hE⟩ := cl_e hE
  refine (moJ7_fill_031fb eo_2).tr ?_
  obtain ⟨r_3, er_3, hE⟩ := cl_e hE
  obtain ⟨o_4, eo_4, hE⟩ := cl_e hE
  refine (moJ7_fill_d0a16 eo_4).tr ?_
  obtain ⟨r_5, er_5, hE⟩ := cl_e hE
  obtain ⟨o_6, eo_6, hE⟩ := cl_e hE
  refine (moJ7_fill_53178 eo_6).tr ?_
  obtain ⟨h_7, eh_7, hE⟩ := nm_e2 hE
  refine (le_I eh_7).tr ?_
  obtain ⟨o_8, eo_8, hE⟩ := cl_e hE
  refine (moX3_strip eo_8).tr ?_
  exact le_some1 hE
set_option maxRecDepth 20000 in
theorem ct_X3_clear (l : Launch) (X : Ec) (F : Nat) {h : Hp} {x0 : Nat} {o : Hp} (k_x0 : hK h x0 = 3) (hE : sX3_clear F h x0 = some o) : MetV l yX3_clear cX3_clear 1 none 2 44 X [.ref x0] h o := by
  refine x_met (by decide) (Nat.le_of_ble_eq_true rfl) ?_
  intro p e s m below meth c ls C hl hW hZ
  have hl : lv_has ls 1 [(0, .ref x0)] := hl
  have hkm : Km h h := Km.rf h
  refine lv_aload_n C.1 C.2.1 dX3_clear_0 rfl (lv_at hl 0 rfl) ?_
  obtain ⟨r_1, er_1, hE⟩ := cl_e hE
  refine gf_X3_9 C hW k_x0 er_1 dX3_clear_1 (fun k_r_1 => ?_)
  refine lv_iconst (v := (-1 : Int32)) C.1 C.2.1 dX3_clear_4 (by decide) ?_
  obtain ⟨o_2, eo_2, hE⟩ := cl_e hE
  refine x_kV (o := o_2) (z_runS (As := [.ref r_1, .int (-1 : Int32)]) (rest := []) C (ct_J7_fill_031fb l X F k_r_1 eo_2) cw_X3_29 hW hZ rfl hl.1 (Nat.le_of_ble_eq_true rfl) rfl dX3_clear_5 ⟨Nat.le_of_ble_eq_true rfl, Nat.le_of_ble_eq_true rfl⟩ ⟨Nat.le_refl _, Nat.le_refl _⟩) hZ (fun _ _ hW km hZ => ?_)
  replace hkm := hkm.tr km
  replace k_x0 := km.at k_x0 (by decide)
  refine lv_aload_n C.1 C.2.1 dX3_clear_8 rfl (lv_at hl 0 rfl) ?_
  obtain ⟨r_3, er_3, hE⟩ := cl_e hE
  refine gf_X3_15 C hW k_x0 er_3 dX3_clear_9 (fun k_r_3 => ?_)
  refine lv_lconst (v := (0 : Int64)) C.1 C.2.1 dX3_clear_12 (by decide) ?_
  obtain ⟨o_4, eo_4, hE⟩ := cl_e hE
  refine x_kV (o := o_4) (z_runS (As := [.ref r_3, .long (0 : Int64)]) (rest := []) C (ct_J7_fill_d0a16 l X F k_r_3 eo_4) cw_X3_38 hW hZ rfl hl.1 (Nat.le_of_ble_eq_true rfl) rfl dX3_clear_13 ⟨Nat.le_of_ble_eq_true rfl, Nat.le_of_ble_eq_true rfl⟩ ⟨Nat.le_refl _, Nat.le_refl _⟩) hZ (fun _ _ hW km hZ => ?_)
  replace hkm := hkm.tr km
  replace k_x0 := km.at k_x0 (by decide)
  refine lv_aload_n C.1 C.2.1 dX3_clear_16 rfl (lv_at hl 0 rfl) ?_
  obtain ⟨r_5, er_5, hE⟩ := cl_e hE
  refine gf_X3_19 C hW k_x0 er_5 dX3_clear_17 (fun k_r_5 => ?_)
  refine lv_iconst (v := (-1 : Int32)) C.1 C.2.1 dX3_clear_20 (by decide) ?_
  obtain ⟨o_6, eo_6, hE⟩ := cl_e hE
  refine x_kV (o := o_6) (z_runS (As := [.ref r_5, .int (-1 : Int32)]) (rest := []) C (ct_J7_fill_53178 l X F k_r_5 eo_6) cw_X3_35 hW hZ rfl hl.1 (Nat.le_of_ble_eq_true rfl) rfl dX3_clear_21 ⟨Nat.le_of_ble_eq_true rfl, Nat.le_of_ble_eq_true rfl⟩ ⟨Nat.le_refl _, Nat.le_refl _⟩) hZ (fun _ _ hW km hZ => ?_)
  replace hkm := hkm.tr km
  replace k_x0 := km.at k_x0 (by decide)
  refine lv_aload_n C.1 C.2.1 dX3_clear_24 rfl (lv_at hl 0 rfl) ?_
  refine lv_iconst (v := (0 : Int32)) C.1 C.2.1 dX3_clear_25 (by decide) ?_
  obtain ⟨h_7, eh_7, hE⟩ := nm_e2 hE
  refine pf_X3_41 C hW hZ k_x0 eh_7 dX3_clear_26 (fun _ _ hW km hZ => ?_)
  replace hkm := hkm.tr km
  replace k_x0 := km.at k_x0 (by decide)
  refine lv_aload_n C.1 C.2.1 dX3_clear_29 rfl (lv_at hl 0 rfl) ?_
  obtain ⟨o_8, eo_8, hE⟩ := cl_e hE
  refine x_kV (o := o_8) (z_runV (As := []) (rest := []) C (ct_X3_strip l X F k_x0 eo_8) cw_X3_45 hW hZ k_x0 (by decide) rfl rfl rfl hl.1 (Nat.le_of_ble_eq_true rfl) rfl dX3_clear_30 ⟨Nat.le_of_ble_eq_true rfl, Nat.le_of_ble_eq_true rfl⟩ ⟨Nat.le_refl _, Nat.le_refl _⟩) hZ (fun _ _ hW km hZ => ?_)
  replace hkm := hkm.tr km
  replace k_x0 := km.at k_x0 (by decide)
  exact x_vret C rfl hW hZ hkm hE dX3_clear_33
set_option maxRecDepth 100000 in
theorem m_308 : Cond.fieldLink RX3 69 (TX3 7).1 (TX3 7).2.1 (TX3 7).2.2.1 ∈ W0 := w0_in (List.mem_append_right _ (List.mem_of_getElem? (i := 308) rfl)) rfl
set_option maxRecDepth 100000 in
theorem m_965 : Cond.constantLong RX3 67 (-1 : Int64) ∈ W0 := w0_in (List.mem_append_right _ (List.mem_of_getElem? (i := 965) rfl)) rfl
section
variable {p : Program} {l : Launch} {e : Env} {R : Room} {s : State} {m : MethodId} {args : Array Value} {below : List Frame} {meth : Method} {c : Code} {H : Heap} {locs : List Loc} {cells slots : Nat} {Q : State → Prop}
variable {cc : ByteArray} {pc : Nat} {ls : Array Slot} {rest : List Value} {X : Ec} {h h1 : Hp} {nL : Nat} {rt : Option FieldType} {mn : String}
theorem gf_X3_69 {a : Nat} (C : Cx X p s m args meth c RX3 cc nL rt mn) (hW : Wx X h H) (ha : hK h a = 3) (hdg : decode cc pc = .ok (.getfield 69, 3)) (kk : W p l e R s m args below meth c H locs cells slots Q (F0 m (pc + 3) ls (.long (hJ h a 7) :: rest))) : W p l e R s m args below meth c H locs cells slots Q (F0 m pc ls (.ref a :: rest)) :=
  y_getj C hW ha i_X3 (by decide) rfl (by decide) m_308 rfl hdg kk
theorem pf_X3_69 {a : Nat} {v : Int64} (C : Cx X p s m args meth c RX3 cc nL rt mn) (hW : Wx X h H) (hZ : va_S (aA (eB X)) s.heap H locs) (ha : hK h a = 3) (eh : h1 = wJ h a 7 v) (hdg : decode cc pc = .ok (.putfield 69, 3)) (kk : ∀ (H1 : Heap) (locs1 : List Loc), Wx X h1 H1 → Km h h1 → va_S (aA (eB X)) s.heap H1 locs1 → W p l e R s m args below meth c H1 locs1 cells slots Q (F0 m (pc + 3) ls rest)) : W p l e R s m args below meth c H locs cells slots Q (F0 m pc ls (.long v :: .ref a :: rest)) :=
  y_putj C hW hZ ha i_X3 tyX3 tyX3_ok nmX3 (by decide) rfl rfl (by decide) m_308 rfl (by decide +kernel) rfl eh hdg kk
end
theorem dX3_put_0 : decode cX3_put 0 = .ok (.iload_n 1, 1) := by decide +kernel
theorem dX3_put_1 : decode cX3_put 1 = .ok (.ifCond .lt 9, 3) := by decide +kernel
theorem dX3_put_4 : decode cX3_put 4 = .ok (.iload_n 1, 1) := by decide +kernel
theorem dX3_put_5 : decode cX3_put 5 = .ok (.bipush 64, 2) := by decide +kernel
theorem dX3_put_7 : decode cX3_put 7 = .ok (.if_icmp .lt 4, 3) := by decide +kernel
theorem dX3_put_10 : decode cX3_put 10 = .ok (.return_, 1) := by decide +kernel
theorem dX3_put_11 : decode cX3_put 11 = .ok (.lconst 1, 1) := by decide +kernel
theorem dX3_put_12 : decode cX3_put 12 = .ok (.iload_n 1, 1) := by decide +kernel
theorem dX3_put_13 : decode cX3_put 13 = .ok (.lshl, 1) := by decide +kernel
theorem dX3_put_14 : decode cX3_put 14 = .ok (.lstore 4, 2) := by decide +kernel
theorem dX3_put_16 : decode cX3_put 16 = .ok (.aload_n 0, 1) := by decide +kernel
theorem dX3_put_17 : decode cX3_put 17 = .ok (.getfield 9, 3) := by decide +kernel
theorem dX3_put_20 : decode cX3_put 20 = .ok (.iload_n 1, 1) := by decide +kernel
theorem dX3_put_21 : decode cX3_put 21 = .ok (.baload, 1) := by decide +kernel
theorem dX3_put_22 : decode cX3_put 22 = .ok (.istore 6, 2) := by decide +kernel
theorem dX3_put_24 : decode cX3_put 24 = .ok (.iload 6, 2) := by decide +kernel
theorem dX3_put_26 : decode cX3_put 26 = .ok (.ifCond .lt 44, 3) := by decide +kernel
theorem dX3_put_29 : decode cX3_put 29 = .ok (.aload_n 0, 1) := by decide +kernel
theorem dX3_put_30 : decode cX3_put 30 = .ok (.getfield 15, 3) := by decide +kernel
theorem dX3_put_33 : decode cX3_put 33 = .ok (.iload 6, 2) := by decide +kernel
theorem dX3_put_35 : decode cX3_put 35 = .ok (.iconst 1, 1) := by decide +kernel
theorem dX3_put_36 : decode cX3_put 36 = .ok (.iand, 1) := by decide +kernel
theorem dX3_put_37 : decode cX3_put 37 = .ok (.dup2, 1) := by decide +kernel
theorem dX3_put_38 : decode cX3_put 38 = .ok (.laload, 1) := by decide +kernel
theorem dX3_put_39 : decode cX3_put 39 = .ok (.lload 4, 2) := by decide +kernel
theorem dX3_put_41 : decode cX3_put 41 = .ok (.ldc2_w 67, 3) := by decide +kernel
theorem dX3_put_44 : decode cX3_put 44 = .ok (.lxor, 1) := by decide +kernel
theorem dX3_put_45 : decode cX3_put 45 = .ok (.land, 1) := by decide +kernel
theorem dX3_put_46 : decode cX3_put 46 = .ok (.lastore, 1) := by decide +kernel
theorem dX3_put_47 : decode cX3_put 47 = .ok (.aload_n 0, 1) := by decide +kernel
theorem dX3_put_48 : decode cX3_put 48 = .ok (.getfield 19, 3) := by decide +kernel
theorem dX3_put_51 : decode cX3_put 51 = .ok (.iload 6, 2) := by decide +kernel
theorem dX3_put_53 : decode cX3_put 53 = .ok (.iconst 1, 1) := by decide +kernel
theorem dX3_put_54 : decode cX3_put 54 = .ok (.iand, 1) := by decide +kernel
theorem dX3_put_55 : decode cX3_put 55 = .ok (.iaload, 1) := by decide +kernel
theorem dX3_put_56 : decode cX3_put 56 = .ok (.iload_n 1, 1) := by decide +kernel
theorem dX3_put_57 : decode cX3_put 57 = .ok (.if_icmp .ne 13, 3) := by decide +kernel
theorem dX3_put_60 : decode cX3_put 60 = .ok (.aload_n 0, 1) := by decide +kernel
theorem dX3_put_61 : decode cX3_put 61 = .ok (.getfield 19, 3) := by decide +kernel
theorem dX3_put_64 : decode cX3_put 64 = .ok (.iload 6, 2) := by decide +kernel
theorem dX3_put_66 : decode cX3_put 66 = .ok (.iconst 1, 1) := by decide +kernel
theorem dX3_put_67 : decode cX3_put 67 = .ok (.iand, 1) := by decide +kernel
theorem dX3_put_68 : decode cX3_put 68 = .ok (.iconst (-1), 1) := by decide +kernel
theorem dX3_put_69 : decode cX3_put 69 = .ok (.iastore, 1) := by decide +kernel
theorem dX3_put_70 : decode cX3_put 70 = .ok (.aload_n 0, 1) := by decide +kernel
theorem dX3_put_71 : decode cX3_put 71 = .ok (.getfield 9, 3) := by decide +kernel
theorem dX3_put_74 : decode cX3_put 74 = .ok (.iload_n 1, 1) := by decide +kernel
theorem dX3_put_75 : decode cX3_put 75 = .ok (.iload_n 2, 1) := by decide +kernel
theorem dX3_put_76 : decode cX3_put 76 = .ok (.i2b, 1) := by decide +kernel
theorem dX3_put_77 : decode cX3_put 77 = .ok (.bastore, 1) := by decide +kernel
theorem dX3_put_78 : decode cX3_put 78 = .ok (.iload_n 2, 1) := by decide +kernel
theorem dX3_put_79 : decode cX3_put 79 = .ok (.ifCond .lt 32, 3) := by decide +kernel
theorem dX3_put_82 : decode cX3_put 82 = .ok (.aload_n 0, 1) := by decide +kernel
theorem dX3_put_83 : decode cX3_put 83 = .ok (.getfield 15, 3) := by decide +kernel
theorem dX3_put_86 : decode cX3_put 86 = .ok (.iload_n 2, 1) := by decide +kernel
theorem dX3_put_87 : decode cX3_put 87 = .ok (.iconst 1, 1) := by decide +kernel
theorem dX3_put_88 : decode cX3_put 88 = .ok (.iand, 1) := by decide +kernel
theorem dX3_put_89 : decode cX3_put 89 = .ok (.dup2, 1) := by decide +kernel
theorem dX3_put_90 : decode cX3_put 90 = .ok (.laload, 1) := by decide +kernel
theorem dX3_put_91 : decode cX3_put 91 = .ok (.lload 4, 2) := by decide +kernel
theorem dX3_put_93 : decode cX3_put 93 = .ok (.lor, 1) := by decide +kernel
theorem dX3_put_94 : decode cX3_put 94 = .ok (.lastore, 1) := by decide +kernel
theorem dX3_put_95 : decode cX3_put 95 = .ok (.iload_n 2, 1) := by decide +kernel
theorem dX3_put_96 : decode cX3_put 96 = .ok (.iconst 1, 1) := by decide +kernel
theorem dX3_put_97 : decode cX3_put 97 = .ok (.ishr, 1) := by decide +kernel
theorem dX3_put_98 : decode cX3_put 98 = .ok (.iload_n 3, 1) := by decide +kernel
theorem dX3_put_99 : decode cX3_put 99 = .ok (.if_icmp .ne 12, 3) := by decide +kernel
theorem dX3_put_102 : decode cX3_put 102 = .ok (.aload_n 0, 1) := by decide +kernel
theorem dX3_put_103 : decode cX3_put 103 = .ok (.getfield 19, 3) := by decide +kernel
theorem dX3_put_106 : decode cX3_put 106 = .ok (.iload_n 2, 1) := by decide +kernel
theorem dX3_put_107 : decode cX3_put 107 = .ok (.iconst 1, 1) := by decide +kernel
theorem dX3_put_108 : decode cX3_put 108 = .ok (.iand, 1) := by decide +kernel
theorem dX3_put_109 : decode cX3_put 109 = .ok (.iload_n 1, 1) := by decide +kernel
theorem dX3_put_110 : decode cX3_put 110 = .ok (.iastore, 1) := by decide +kernel
theorem dX3_put_111 : decode cX3_put 111 = .ok (.aload_n 0, 1) := by decide +kernel
theorem dX3_put_112 : decode cX3_put 112 = .ok (.dup, 1) := by decide +kernel
theorem dX3_put_113 : decode cX3_put 113 = .ok (.getfield 69, 3) := by decide +kernel
theorem dX3_put_116 : decode cX3_put 116 = .ok (.lload 4, 2) := by decide +kernel
theorem dX3_put_118 : decode cX3_put 118 = .ok (.lor, 1) := by decide +kernel
theorem dX3_put_119 : decode cX3_put 119 = .ok (.putfield 69, 3) := by decide +kernel
theorem dX3_put_122 : decode cX3_put 122 = .ok (.return_, 1) := by decide +kernel
set_option maxRecDepth 20000 in
theorem moX3_put_10 {o : Hp} {h : Hp} (hE : sX3_put_10 h  = some o) : Le h o := by
  exact le_some1 hE
set_option maxRecDepth 20000 in
theorem moX3_put_111 {o : Hp} {h : Hp} {x0 : Nat} {x4 : Int64} (hE : sX3_put_111 h x0 x4 = some o) : Le h o := by
  obtain ⟨h_1, eh_1, hE⟩ := nm_e2 hE
  refine (le_J eh_1).tr ?_
  exact le_some1 hE
set_option maxRecDepth 20000 in
theorem moX3_put_70 {o : Hp} {h : Hp} {x0 : Nat} {x1 : Int32} {x2 : Int32} {x3 : Int32} {x4 : Int64} (hE : sX3_put_70 h x0 x1 x2 x3 x4 = some o) : Le h o := by
  obtain ⟨r_1, er_1, hE⟩ := cl_e hE
  obtain ⟨g_2, hE⟩ := gd_e hE
  obtain ⟨h_3, eh_3, hE⟩ := nm_e2 hE
  refine (le_I eh_3).tr ?_
  rcases br_e hE with ⟨_, hE⟩ | ⟨_, hE⟩
  · exact moX3_put_111 hE
  · obtain ⟨r_5, er_5, hE⟩ := cl_e hE
    obtain ⟨g_6, hE⟩ := gd_e hE
    obtain ⟨g_7, hE⟩ := gd_e hE
    obtain ⟨h_8, eh_8, hE⟩ := nm_e2 hE
    refine (le_J eh_8).tr ?_
    rcases br_e hE with ⟨_, hE⟩ | ⟨_, hE⟩
    · obtain ⟨r_10, er_10, hE⟩ := cl_e hE
      obtain ⟨g_11, hE⟩ := gd_e hE
      obtain ⟨h_12, eh_12, hE⟩ := nm_e2 hE
      refine (le_I eh_12).tr ?_
      exact moX3_put_111 hE
    · exact moX3_put_111 hE
set_option maxRecDepth 20000 in
theorem moX3_put {o : Hp} {h : Hp} {x0 : Nat} {x1 : Int32} {x2 : Int32} {x3 : Int32} (hE : sX3_put h x0 x1 x2 x3 = some o) : Le h o := by
  rcases br_e hE with ⟨_, hE⟩ | ⟨_, hE⟩
  · exact moX3_put_10 hE
  · rcases br_e hE with ⟨_, hE⟩ | ⟨_, hE⟩
    · obtain ⟨v_3, ev_3, hE⟩ := nm_e2 hE
      obtain ⟨r_4, er_4, hE⟩ := cl_e hE
      obtain ⟨g_5, hE⟩ := gd_e hE
      obtain ⟨v_6, ev_6, hE⟩ := nm_e2 hE
      rcases br_e hE with ⟨_, hE⟩ | ⟨_, hE⟩
      · exact moX3_put_70 hE
      · obtain ⟨r_8, er_8, hE⟩ := cl_e hE
        obtain ⟨g_9, hE⟩ := gd_e hE
        obtain ⟨g_10, hE⟩ := gd_e hE
        obtain ⟨h_11, eh_11, hE⟩ := nm_e2 hE
        refine (le_J eh_11).tr ?_
        obtain ⟨r_12, er_12, hE⟩ := cl_e hE
        obtain ⟨g_13, hE⟩ := gd_e hE
        rcases br_e hE with ⟨_, hE⟩ | ⟨_, hE⟩
        · obtain ⟨r_15, er_15, hE⟩ := cl_e hE
          obtain ⟨g_16, hE⟩ := gd_e hE
          obtain ⟨h_17, eh_17, hE⟩ := nm_e2 hE
          refine (le_I eh_17).tr ?_
          exact moX3_put_70 hE
        · exact moX3_put_70 hE
    · exact moX3_put_10 hE
set_option maxRecDepth 20000 in
theorem bX3_put_10 {p : Program} {l : Launch} {e : Env} {s : State} {m : MethodId} {args : Array Value} {below : List Frame} {meth : Method} {c : Code} {X : Ec} {h0 : Hp} {o : Hp} (C : Cx X p s m args meth c RX3 cX3_put 7 none "put") {h : Hp} {H : Heap} {locs : List Loc} (hkm : Km h0 h) (hW : Wx X h H) (hZ : va_S (aA (eB X)) s.heap H locs) (ls : Array Slot) (hl : lv_has ls 7 []) (hE : sX3_put_10 h  = some o) : W p l e (rm 0 0) s m args below meth c H locs 0 0 (MQ below (QV X h0 o) args s 0 0 (aA (eB X))) (F0 m 10 ls []) := by
  exact x_vret C rfl hW hZ hkm hE dX3_put_10
set_option maxRecDepth 20000 in
theorem bX3_put_111 {p : Program} {l : Launch} {e : Env} {s : State} {m : MethodId} {args : Array Value} {below : List Frame} {meth : Method} {c : Code} {X : Ec} {h0 : Hp} {o : Hp} (C : Cx X p s m args meth c RX3 cX3_put 7 none "put") {h : Hp} {x0 : Nat} {x4 : Int64} {H : Heap} {locs : List Loc} (k_x0 : hK h x0 = 3) (hkm : Km h0 h) (hW : Wx X h H) (hZ : va_S (aA (eB X)) s.heap H locs) (ls : Array Slot) (hl : lv_has ls 7 [(0, .ref x0), (4, .long x4)]) (hE : sX3_put_111 h x0 x4 = some o) : W p l e (rm 0 0) s m args below meth c H locs 0 0 (MQ below (QV X h0 o) args s 0 0 (aA (eB X))) (F0 m 111 ls []) := by
  refine lv_aload_n C.1 C.2.1 dX3_put_111 rfl (lv_at hl 0 rfl) ?_
  refine lv_dup C.1 C.2.1 dX3_put_112 rfl ?_
  refine gf_X3_69 C hW k_x0 dX3_put_113 ?_
  refine lv_lload C.1 C.2.1 dX3_put_116 (lv_at hl 1 rfl) ?_
  refine lv_lor C.1 C.2.1 dX3_put_118 ?_
  obtain ⟨h_1, eh_1, hE⟩ := nm_e2 hE
  refine pf_X3_69 C hW hZ k_x0 eh_1 dX3_put_119 (fun _ _ hW km hZ => ?_)
  replace hkm := hkm.tr km
  replace k_x0 := km.at k_x0 (by decide)
  exact x_vret C rfl hW hZ hkm hE dX3_put_122
set_option maxRecDepth 20000 in
theorem bX3_put_70 {p : Program} {l : Launch} {e : Env} {s : State} {m : MethodId} {args : Array Value} {below : List Frame} {meth : Method} {c : Code} {X : Ec} {h0 : Hp} {o : Hp} (C : Cx X p s m args meth c RX3 cX3_put 7 none "put") {h : Hp} {x0 : Nat} {x1 : Int32} {x2 : Int32} {x3 : Int32} {x4 : Int64} {H : Heap} {locs : List Loc} (k_x0 : hK h x0 = 3) (hkm : Km h0 h) (hW : Wx X h H) (hZ : va_S (aA (eB X)) s.heap H locs) (ls : Array Slot) (hl : lv_has ls 7 [(0, .ref x0), (1, .int x1), (2, .int x2), (3, .int x3), (4, .long x4)]) (hE : sX3_put_70 h x0 x1 x2 x3 x4 = some o) : W p l e (rm 0 0) s m args below meth c H locs 0 0 (MQ below (QV X h0 o) args s 0 0 (aA (eB X))) (F0 m 70 ls []) := by
  refine lv_aload_n C.1 C.2.1 dX3_put_70 rfl (lv_at hl 0 rfl) ?_
  obtain ⟨r_1, er_1, hE⟩ := cl_e hE
  refine gf_X3_9 C hW k_x0 er_1 dX3_put_71 (fun k_r_1 => ?_)
  refine lv_iload_n C.1 C.2.1 dX3_put_74 rfl (lv_at hl 1 rfl) ?_
  refine lv_iload_n C.1 C.2.1 dX3_put_75 rfl (lv_at hl 2 rfl) ?_
  refine lv_i2b C.1 C.2.1 dX3_put_76 rfl ?_
  obtain ⟨g_2, hE⟩ := gd_e hE
  obtain ⟨h_3, eh_3, hE⟩ := nm_e2 hE
  refine y_bast C hW hZ k_r_1 g_2 eh_3 dX3_put_77 (fun _ _ hW km hZ => ?_)
  replace hkm := hkm.tr km
  replace k_x0 := km.at k_x0 (by decide)
  refine lv_iload_n C.1 C.2.1 dX3_put_78 rfl (lv_at hl 2 rfl) ?_
  refine lv_if_lt (tgt := 111) C.1 C.2.1 dX3_put_79 (by decide) (fun c_4 => ?_) (fun c_4 => ?_)
  · have hE := br_p hE c_4
    exact bX3_put_111 C k_x0 hkm hW hZ _ (lv_sub hl [0, 4] rfl) hE
  · have hE := br_n hE c_4
    refine lv_aload_n C.1 C.2.1 dX3_put_82 rfl (lv_at hl 0 rfl) ?_
    obtain ⟨r_5, er_5, hE⟩ := cl_e hE
    refine gf_X3_15 C hW k_x0 er_5 dX3_put_83 (fun k_r_5 => ?_)
    refine lv_iload_n C.1 C.2.1 dX3_put_86 rfl (lv_at hl 2 rfl) ?_
    refine lv_iconst (v := (1 : Int32)) C.1 C.2.1 dX3_put_87 (by decide) ?_
    refine lv_iand C.1 C.2.1 dX3_put_88 ?_
    refine lv_dup2_11 C.1 C.2.1 dX3_put_89 rfl rfl ?_
    obtain ⟨g_6, hE⟩ := gd_e hE
    refine y_lald C hW k_r_5 g_6 dX3_put_90 ?_
    refine lv_lload C.1 C.2.1 dX3_put_91 (lv_at hl 4 rfl) ?_
    refine lv_lor C.1 C.2.1 dX3_put_93 ?_
    obtain ⟨g_7, hE⟩ := gd_e hE
    obtain ⟨h_8, eh_8, hE⟩ := nm_e2 hE
    refine y_last C hW hZ k_r_5 g_7 eh_8 dX3_put_94 (fun _ _ hW km hZ => ?_)
    replace hkm := hkm.tr km
    replace k_x0 := km.at k_x0 (by decide)
    refine lv_iload_n C.1 C.2.1 dX3_put_95 rfl (lv_at hl 2 rfl) ?_
    refine lv_iconst (v := (1 : Int32)) C.1 C.2.1 dX3_put_96 (by decide) ?_
    refine lv_ishr C.1 C.2.1 dX3_put_97 ?_
    refine lv_iload_n C.1 C.2.1 dX3_put_98 rfl (lv_at hl 3 rfl) ?_
    refine lv_icmp_ne (tgt := 111) C.1 C.2.1 dX3_put_99 (by decide) (fun c_9 => ?_) (fun c_9 => ?_)
    · have hE := br_n hE c_9
      exact bX3_put_111 C k_x0 hkm hW hZ _ (lv_sub hl [0, 4] rfl) hE
    · have hE := br_p hE c_9
      refine lv_aload_n C.1 C.2.1 dX3_put_102 rfl (lv_at hl 0 rfl) ?_
      obtain ⟨r_10, er_10, hE⟩ := cl_e hE
      refine gf_X3_19 C hW k_x0 er_10 dX3_put_103 (fun k_r_10 => ?_)
      refine lv_iload_n C.1 C.2.1 dX3_put_106 rfl (lv_at hl 2 rfl) ?_
      refine lv_iconst (v := (1 : Int32)) C.1 C.2.1 dX3_put_107 (by decide) ?_
      refine lv_iand C.1 C.2.1 dX3_put_108 ?_
      refine lv_iload_n C.1 C.2.1 dX3_put_109 rfl (lv_at hl 1 rfl) ?_
      obtain ⟨g_11, hE⟩ := gd_e hE
      obtain ⟨h_12, eh_12, hE⟩ := nm_e2 hE
      refine y_iast C hW hZ k_r_10 g_11 eh_12 dX3_put_110 (fun _ _ hW km hZ => ?_)
      replace hkm := hkm.tr km
      replace k_x0 := km.at k_x0 (by decide)
      exact bX3_put_111 C k_x0 hkm hW hZ _ (lv_sub hl [0, 4] rfl) hE
set_option maxRecDepth 20000 in
theorem ct_X3_put (l : Launch) (X : Ec) {h : Hp} {x0 : Nat} {x1 : Int32} {x2 : Int32} {x3 : Int32} {o : Hp} (k_x0 : hK h x0 = 3) (hE : sX3_put h x0 x1 x2 x3 = some o) : MetV l yX3_put cX3_put 7 none 0 0 X [.ref x0, .int x1, .int x2, .int x3] h o := by
  refine x_met (by decide) (Nat.le_of_ble_eq_true rfl) ?_
  intro p e s m below meth c ls C hl hW hZ
  have hl : lv_has ls 7 [(0, .ref x0), (1, .int x1), (2, .int x2), (3, .int x3)] := hl
  have hkm : Km h h := Km.rf h
  refine lv_iload_n C.1 C.2.1 dX3_put_0 rfl (lv_at hl 1 rfl) ?_
  refine lv_if_lt (tgt := 10) C.1 C.2.1 dX3_put_1 (by decide) (fun c_1 => ?_) (fun c_1 => ?_)
  · have hE := br_p hE c_1
    exact bX3_put_10 C hkm hW hZ _ (lv_sub hl [] rfl) hE
  · have hE := br_n hE c_1
    refine lv_iload_n C.1 C.2.1 dX3_put_4 rfl (lv_at hl 1 rfl) ?_
    refine lv_bipush (v := (64 : Int32)) C.1 C.2.1 dX3_put_5 (by decide) ?_
    refine lv_icmp_lt (tgt := 11) C.1 C.2.1 dX3_put_7 (by decide) (fun c_2 => ?_) (fun c_2 => ?_)
    · have hE := br_p hE c_2
      refine lv_lconst (v := (1 : Int64)) C.1 C.2.1 dX3_put_11 (by decide) ?_
      refine lv_iload_n C.1 C.2.1 dX3_put_12 rfl (lv_at hl 1 rfl) ?_
      refine lv_lshl C.1 C.2.1 dX3_put_13 rfl ?_
      obtain ⟨v_3, ev_3, hE⟩ := nm_e2 hE
      refine x_nmJ ev_3 ?_
      refine lv_lstore (lv' := [(4, .long v_3), (0, .ref x0), (1, .int x1), (2, .int x2), (3, .int x3)]) C.1 C.2.1 dX3_put_14 hl (by decide) rfl (fun ls hl => ?_)
      refine lv_aload_n C.1 C.2.1 dX3_put_16 rfl (lv_at hl 1 rfl) ?_
      obtain ⟨r_4, er_4, hE⟩ := cl_e hE
      refine gf_X3_9 C hW k_x0 er_4 dX3_put_17 (fun k_r_4 => ?_)
      refine lv_iload_n C.1 C.2.1 dX3_put_20 rfl (lv_at hl 2 rfl) ?_
      obtain ⟨g_5, hE⟩ := gd_e hE
      refine y_bald C hW k_r_4 g_5 dX3_put_21 ?_
      obtain ⟨v_6, ev_6, hE⟩ := nm_e2 hE
      refine x_nmI ev_6 ?_
      refine lv_istore (lv' := [(6, .int v_6), (4, .long v_3), (0, .ref x0), (1, .int x1), (2, .int x2), (3, .int x3)]) C.1 C.2.1 dX3_put_22 hl (by decide) rfl (fun ls hl => ?_)
      refine lv_iload C.1 C.2.1 dX3_put_24 (lv_at hl 0 rfl) ?_
      refine lv_if_lt (tgt := 70) C.1 C.2.1 dX3_put_26 (by decide) (fun c_7 => ?_) (fun c_7 => ?_)
      · have hE := br_p hE c_7
        exact bX3_put_70 C k_x0 hkm hW hZ _ (lv_sub hl [2, 3, 4, 5, 1] rfl) hE
      · have hE := br_n hE c_7
        refine lv_aload_n C.1 C.2.1 dX3_put_29 rfl (lv_at hl 2 rfl) ?_
        obtain ⟨r_8, er_8, hE⟩ := cl_e hE
        refine gf_X3_15 C hW k_x0 er_8 dX3_put_30 (fun k_r_8 => ?_)
        refine lv_iload C.1 C.2.1 dX3_put_33 (lv_at hl 0 rfl) ?_
        refine lv_iconst (v := (1 : Int32)) C.1 C.2.1 dX3_put_35 (by decide) ?_
        refine lv_iand C.1 C.2.1 dX3_put_36 ?_
        refine lv_dup2_11 C.1 C.2.1 dX3_put_37 rfl rfl ?_
        obtain ⟨g_9, hE⟩ := gd_e hE
        refine y_lald C hW k_r_8 g_9 dX3_put_38 ?_
        refine lv_lload C.1 C.2.1 dX3_put_39 (lv_at hl 1 rfl) ?_
        refine lv_ldc2 (v := (-1 : Int64)) C.1 C.2.1 C.2.2.2.1 (C.2.2.2.2.1 _ m_965) dX3_put_41 ?_
        refine lv_lxor C.1 C.2.1 dX3_put_44 ?_
        refine lv_land C.1 C.2.1 dX3_put_45 ?_
        obtain ⟨g_10, hE⟩ := gd_e hE
        obtain ⟨h_11, eh_11, hE⟩ := nm_e2 hE
        refine y_last C hW hZ k_r_8 g_10 eh_11 dX3_put_46 (fun _ _ hW km hZ => ?_)
        replace hkm := hkm.tr km
        replace k_x0 := km.at k_x0 (by decide)
        refine lv_aload_n C.1 C.2.1 dX3_put_47 rfl (lv_at hl 2 rfl) ?_
        obtain ⟨r_12, er_12, hE⟩ := cl_e hE
        refine gf_X3_19 C hW k_x0 er_12 dX3_put_48 (fun k_r_12 => ?_)
        refine lv_iload C.1 C.2.1 dX3_put_51 (lv_at hl 0 rfl) ?_
        refine lv_iconst (v := (1 : Int32)) C.1 C.2.1 dX3_put_53 (by decide) ?_
        refine lv_iand C.1 C.2.1 dX3_put_54 ?_
        obtain ⟨g_13, hE⟩ := gd_e hE
        refine y_iald C hW k_r_12 g_13 dX3_put_55 ?_
        refine lv_iload_n C.1 C.2.1 dX3_put_56 rfl (lv_at hl 3 rfl) ?_
        refine lv_icmp_ne (tgt := 70) C.1 C.2.1 dX3_put_57 (by decide) (fun c_14 => ?_) (fun c_14 => ?_)
        · have hE := br_n hE c_14
          exact bX3_put_70 C k_x0 hkm hW hZ _ (lv_sub hl [2, 3, 4, 5, 1] rfl) hE
        · have hE := br_p hE c_14
          refine lv_aload_n C.1 C.2.1 dX3_put_60 rfl (lv_at hl 2 rfl) ?_
          obtain ⟨r_15, er_15, hE⟩ := cl_e hE
          refine gf_X3_19 C hW k_x0 er_15 dX3_put_61 (fun k_r_15 => ?_)
          refine lv_iload C.1 C.2.1 dX3_put_64 (lv_at hl 0 rfl) ?_
          refine lv_iconst (v := (1 : Int32)) C.1 C.2.1 dX3_put_66 (by decide) ?_
          refine lv_iand C.1 C.2.1 dX3_put_67 ?_
          refine lv_iconst (v := (-1 : Int32)) C.1 C.2.1 dX3_put_68 (by decide) ?_
          obtain ⟨g_16, hE⟩ := gd_e hE
          obtain ⟨h_17, eh_17, hE⟩ := nm_e2 hE
          refine y_iast C hW hZ k_r_15 g_16 eh_17 dX3_put_69 (fun _ _ hW km hZ => ?_)
          replace hkm := hkm.tr km
          replace k_x0 := km.at k_x0 (by decide)
          exact bX3_put_70 C k_x0 hkm hW hZ _ (lv_sub hl [2, 3, 4, 5, 1] rfl) hE
    · have hE := br_n hE c_2
      exact bX3_put_10 C hkm hW hZ _ (lv_sub hl [] rfl) hE
section
variable {p : Program} {l : Launch} {e : Env} {R : Room} {s : State} {m : MethodId} {args : Array Value} {below : List Frame} {meth : Method} {c : Code} {H : Heap} {locs : List Loc} {cells slots : Nat} {Q : State → Prop}
variable {cc : ByteArray} {pc : Nat} {ls : Array Slot} {rest : List Value} {X : Ec} {h h1 : Hp} {nL : Nat} {rt : Option FieldType} {mn : String}
theorem gf_X3_52 {a : Nat} (C : Cx X p s m args meth c RX3 cc nL rt mn) (hW : Wx X h H) (ha : hK h a = 3) (hdg : decode cc pc = .ok (.getfield 52, 3)) (kk : W p l e R s m args below meth c H locs cells slots Q (F0 m (pc + 3) ls (.long (hJ h a 9) :: rest))) : W p l e R s m args below meth c H locs cells slots Q (F0 m pc ls (.ref a :: rest)) :=
  y_getj C hW ha i_X3 (by decide) rfl (by decide) m_314 rfl hdg kk
end
theorem dX3_passSize_0 : decode cX3_passSize 0 = .ok (.aload_n 0, 1) := by decide +kernel
theorem dX3_passSize_1 : decode cX3_passSize 1 = .ok (.getfield 52, 3) := by decide +kernel
theorem dX3_passSize_4 : decode cX3_passSize 4 = .ok (.l2i, 1) := by decide +kernel
theorem dX3_passSize_5 : decode cX3_passSize 5 = .ok (.bipush 7, 2) := by decide +kernel
theorem dX3_passSize_7 : decode cX3_passSize 7 = .ok (.iand, 1) := by decide +kernel
theorem dX3_passSize_8 : decode cX3_passSize 8 = .ok (.ireturn, 1) := by decide +kernel
set_option maxRecDepth 20000 in
theorem moX3_passSize {o : Int32 × Hp} {h : Hp} {x0 : Nat} (hE : sX3_passSize h x0 = some o) : Le h o.2 := by
  exact le_some2 hE
set_option maxRecDepth 20000 in
theorem ct_X3_passSize (l : Launch) (X : Ec) {h : Hp} {x0 : Nat} {o : Int32 × Hp} (k_x0 : hK h x0 = 3) (hE : sX3_passSize h x0 = some o) : MetI l yX3_passSize cX3_passSize 1 (some .int) 0 0 X [.ref x0] h o := by
  refine x_met (by decide) (Nat.le_of_ble_eq_true rfl) ?_
  intro p e s m below meth c ls C hl hW hZ
  have hl : lv_has ls 1 [(0, .ref x0)] := hl
  have hkm : Km h h := Km.rf h
  refine lv_aload_n C.1 C.2.1 dX3_passSize_0 rfl (lv_at hl 0 rfl) ?_
  refine gf_X3_52 C hW k_x0 dX3_passSize_1 ?_
  refine lv_l2i C.1 C.2.1 dX3_passSize_4 rfl ?_
  refine lv_bipush (v := (7 : Int32)) C.1 C.2.1 dX3_passSize_5 (by decide) ?_
  refine lv_iand C.1 C.2.1 dX3_passSize_7 ?_
  exact x_iret C rfl rfl hW hZ hkm hE dX3_passSize_8
set_option maxRecDepth 100000 in
theorem m_986 : Cond.methodLink RX3 76 yX3_passSize ∈ W0 := w0_in (List.mem_append_right _ (List.mem_of_getElem? (i := 986) rfl)) rfl
set_option maxRecDepth 100000 in
theorem m_987 : Cond.instanceMethod yX3_passSize ∈ W0 := w0_in (List.mem_append_right _ (List.mem_of_getElem? (i := 987) rfl)) rfl
set_option maxRecDepth 100000 in
theorem m_988 : Cond.selects RX3 yX3_passSize yX3_passSize ∈ W0 := w0_in (List.mem_append_right _ (List.mem_of_getElem? (i := 988) rfl)) rfl
set_option maxRecDepth 100000 in
theorem m_989 : Cond.code yX3_passSize cX3_passSize 1 (some .int) ∈ W0 := w0_in (List.mem_append_right _ (List.mem_of_getElem? (i := 989) rfl)) rfl
set_option maxRecDepth 100000 in
theorem m_990 : Cond.constantLong RX3 80 (8 : Int64) ∈ W0 := w0_in (List.mem_append_right _ (List.mem_of_getElem? (i := 990) rfl)) rfl
section
variable {p : Program} {l : Launch} {e : Env} {R : Room} {s : State} {m : MethodId} {args : Array Value} {below : List Frame} {meth : Method} {c : Code} {H : Heap} {locs : List Loc} {cells slots : Nat} {Q : State → Prop}
variable {cc : ByteArray} {pc : Nat} {ls : Array Slot} {rest : List Value} {X : Ec} {h h1 : Hp} {nL : Nat} {rt : Option FieldType} {mn : String}
theorem gf_X3_48 {a : Nat} (C : Cx X p s m args meth c RX3 cc nL rt mn) (hW : Wx X h H) (ha : hK h a = 3) (hdg : decode cc pc = .ok (.getfield 48, 3)) (kk : W p l e R s m args below meth c H locs cells slots Q (F0 m (pc + 3) ls (.long (hJ h a 10) :: rest))) : W p l e R s m args below meth c H locs cells slots Q (F0 m pc ls (.ref a :: rest)) :=
  y_getj C hW ha i_X3 (by decide) rfl (by decide) m_318 rfl hdg kk
end
theorem cw_X3_76 : cwd RX3 76 yX3_passSize cX3_passSize 1 (some .int) false 0 := ⟨m_989, m_986, m_8, ⟨m_987, m_988⟩, by decide, by decide, by decide +kernel⟩
theorem dX3_addPass_0 : decode cX3_addPass 0 = .ok (.aload_n 0, 1) := by decide +kernel
theorem dX3_addPass_1 : decode cX3_addPass 1 = .ok (.invokevirtual 76, 3) := by decide +kernel
theorem dX3_addPass_4 : decode cX3_addPass 4 = .ok (.istore_n 2, 1) := by decide +kernel
theorem dX3_addPass_5 : decode cX3_addPass 5 = .ok (.aload_n 0, 1) := by decide +kernel
theorem dX3_addPass_6 : decode cX3_addPass 6 = .ok (.getfield 52, 3) := by decide +kernel
theorem dX3_addPass_9 : decode cX3_addPass 9 = .ok (.ldc2_w 80, 3) := by decide +kernel
theorem dX3_addPass_12 : decode cX3_addPass 12 = .ok (.lcmp, 1) := by decide +kernel
theorem dX3_addPass_13 : decode cX3_addPass 13 = .ok (.ifCond .eq 9, 3) := by decide +kernel
theorem dX3_addPass_16 : decode cX3_addPass 16 = .ok (.iload_n 2, 1) := by decide +kernel
theorem dX3_addPass_17 : decode cX3_addPass 17 = .ok (.bipush 7, 2) := by decide +kernel
theorem dX3_addPass_19 : decode cX3_addPass 19 = .ok (.if_icmp .lt 11, 3) := by decide +kernel
theorem dX3_addPass_22 : decode cX3_addPass 22 = .ok (.aload_n 0, 1) := by decide +kernel
theorem dX3_addPass_23 : decode cX3_addPass 23 = .ok (.ldc2_w 80, 3) := by decide +kernel
theorem dX3_addPass_26 : decode cX3_addPass 26 = .ok (.putfield 52, 3) := by decide +kernel
theorem dX3_addPass_29 : decode cX3_addPass 29 = .ok (.return_, 1) := by decide +kernel
theorem dX3_addPass_30 : decode cX3_addPass 30 = .ok (.aload_n 0, 1) := by decide +kernel
theorem dX3_addPass_31 : decode cX3_addPass 31 = .ok (.aload_n 0, 1) := by decide +kernel
theorem dX3_addPass_32 : decode cX3_addPass 32 = .ok (.getfield 52, 3) := by decide +kernel
theorem dX3_addPass_35 : decode cX3_addPass 35 = .ok (.iload_n 1, 1) := by decide +kernel
theorem dX3_addPass_36 : decode cX3_addPass 36 = .ok (.i2l, 1) := by decide +kernel
theorem dX3_addPass_37 : decode cX3_addPass 37 = .ok (.iconst 3, 1) := by decide +kernel
theorem dX3_addPass_38 : decode cX3_addPass 38 = .ok (.bipush 6, 2) := by decide +kernel
theorem dX3_addPass_40 : decode cX3_addPass 40 = .ok (.iload_n 2, 1) := by decide +kernel
theorem dX3_addPass_41 : decode cX3_addPass 41 = .ok (.imul, 1) := by decide +kernel
theorem dX3_addPass_42 : decode cX3_addPass 42 = .ok (.iadd, 1) := by decide +kernel
theorem dX3_addPass_43 : decode cX3_addPass 43 = .ok (.lshl, 1) := by decide +kernel
theorem dX3_addPass_44 : decode cX3_addPass 44 = .ok (.lor, 1) := by decide +kernel
theorem dX3_addPass_45 : decode cX3_addPass 45 = .ok (.lconst 1, 1) := by decide +kernel
theorem dX3_addPass_46 : decode cX3_addPass 46 = .ok (.ladd, 1) := by decide +kernel
theorem dX3_addPass_47 : decode cX3_addPass 47 = .ok (.putfield 52, 3) := by decide +kernel
theorem dX3_addPass_50 : decode cX3_addPass 50 = .ok (.aload_n 0, 1) := by decide +kernel
theorem dX3_addPass_51 : decode cX3_addPass 51 = .ok (.dup, 1) := by decide +kernel
theorem dX3_addPass_52 : decode cX3_addPass 52 = .ok (.getfield 48, 3) := by decide +kernel
theorem dX3_addPass_55 : decode cX3_addPass 55 = .ok (.iload_n 2, 1) := by decide +kernel
theorem dX3_addPass_56 : decode cX3_addPass 56 = .ok (.ifCond .le 9, 3) := by decide +kernel
theorem dX3_addPass_59 : decode cX3_addPass 59 = .ok (.lconst 1, 1) := by decide +kernel
theorem dX3_addPass_60 : decode cX3_addPass 60 = .ok (.iload_n 1, 1) := by decide +kernel
theorem dX3_addPass_61 : decode cX3_addPass 61 = .ok (.lshl, 1) := by decide +kernel
theorem dX3_addPass_62 : decode cX3_addPass 62 = .ok (.goto 4, 3) := by decide +kernel
theorem dX3_addPass_65 : decode cX3_addPass 65 = .ok (.lconst 0, 1) := by decide +kernel
theorem dX3_addPass_66 : decode cX3_addPass 66 = .ok (.lor, 1) := by decide +kernel
theorem dX3_addPass_67 : decode cX3_addPass 67 = .ok (.putfield 48, 3) := by decide +kernel
theorem dX3_addPass_70 : decode cX3_addPass 70 = .ok (.return_, 1) := by decide +kernel
set_option maxRecDepth 20000 in
theorem moX3_addPass_22 {o : Hp} {h : Hp} {x0 : Nat} (hE : sX3_addPass_22 h x0 = some o) : Le h o := by
  obtain ⟨h_1, eh_1, hE⟩ := nm_e2 hE
  refine (le_J eh_1).tr ?_
  exact le_some1 hE
set_option maxRecDepth 20000 in
theorem moX3_addPass_66 {o : Hp} {h : Hp} {t0 : Int64} {t1 : Int64} {t2 : Nat} (hE : sX3_addPass_66 h  t0 t1 t2 = some o) : Le h o := by
  obtain ⟨h_1, eh_1, hE⟩ := nm_e2 hE
  refine (le_J eh_1).tr ?_
  exact le_some1 hE
set_option maxRecDepth 20000 in
theorem moX3_addPass {o : Hp} {h : Hp} {x0 : Nat} {x1 : Int32} (hE : sX3_addPass h x0 x1 = some o) : Le h o := by
  obtain ⟨o_1, eo_1, hE⟩ := cl_e hE
  refine (moX3_passSize eo_1).tr ?_
  rcases br_e hE with ⟨_, hE⟩ | ⟨_, hE⟩
  · exact moX3_addPass_22 hE
  · rcases br_e hE with ⟨_, hE⟩ | ⟨_, hE⟩
    · obtain ⟨h_4, eh_4, hE⟩ := nm_e2 hE
      refine (le_J eh_4).tr ?_
      rcases br_e hE with ⟨_, hE⟩ | ⟨_, hE⟩
      · exact moX3_addPass_66 hE
      · exact moX3_addPass_66 hE
    · exact moX3_addPass_22 hE
set_option maxRecDepth 20000 in
theorem bX3_addPass_22 {p : Program} {l : Launch} {e : Env} {s : State} {m : MethodId} {args : Array Value} {below : List Frame} {meth : Method} {c : Code} {X : Ec} {h0 : Hp} {o : Hp} (C : Cx X p s m args meth c RX3 cX3_addPass 3 none "addPass") {h : Hp} {x0 : Nat} {H : Heap} {locs : List Loc} (k_x0 : hK h x0 = 3) (hkm : Km h0 h) (hW : Wx X h H) (hZ : va_S (aA (eB X)) s.heap H locs) (ls : Array Slot) (hl : lv_has ls 3 [(0, .ref x0)]) (hE : sX3_addPass_22 h x0 = some o) : W p l e (rm 1 20) s m args below meth c H locs 0 0 (MQ below (QV X h0 o) args s 0 0 (aA (eB X))) (F0 m 22 ls []) := by
  refine lv_aload_n C.1 C.2.1 dX3_addPass_22 rfl (lv_at hl 0 rfl) ?_
  refine lv_ldc2 (v := (8 : Int64)) C.1 C.2.1 C.2.2.2.1 (C.2.2.2.2.1 _ m_990) dX3_addPass_23 ?_
  obtain ⟨h_1, eh_1, hE⟩ := nm_e2 hE
  refine pf_X3_52 C hW hZ k_x0 eh_1 dX3_addPass_26 (fun _ _ hW km hZ => ?_)
  replace hkm := hkm.tr km
  replace k_x0 := km.at k_x0 (by decide)
  exact x_vret C rfl hW hZ hkm hE dX3_addPass_29
set_option maxRecDepth 20000 in
theorem bX3_addPass_66 {p : Program} {l : Launch} {e : Env} {s : State} {m : MethodId} {args : Array Value} {below : List Frame} {meth : Method} {c : Code} {X : Ec} {h0 : Hp} {o : Hp} (C : Cx X p s m args meth c RX3 cX3_addPass 3 none "addPass") {h : Hp} {t0 : Int64} {t1 : Int64} {t2 : Nat} {H : Heap} {locs : List Loc} (k_t2 : hK h t2 = 3) (hkm : Km h0 h) (hW : Wx X h H) (hZ : va_S (aA (eB X)) s.heap H locs) (ls : Array Slot) (hl : lv_has ls 3 []) (hE : sX3_addPass_66 h  t0 t1 t2 = some o) : W p l e (rm 1 20) s m args below meth c H locs 0 0 (MQ below (QV X h0 o) args s 0 0 (aA (eB X))) (F0 m 66 ls [.long t0, .long t1, .ref t2]) := by
  refine lv_lor C.1 C.2.1 dX3_addPass_66 ?_
  obtain ⟨h_1, eh_1, hE⟩ := nm_e2 hE
  refine pf_X3_48 C hW hZ k_t2 eh_1 dX3_addPass_67 (fun _ _ hW km hZ => ?_)
  replace hkm := hkm.tr km
  exact x_vret C rfl hW hZ hkm hE dX3_addPass_70
set_option maxRecDepth 20000 in
theorem ct_X3_addPass (l : Launch) (X : Ec) {h : Hp} {x0 : Nat} {x1 : Int32} {o : Hp} (k_x0 : hK h x0 = 3) (hE : sX3_addPass h x0 x1 = some o) : MetV l yX3_addPass cX3_addPass 3 none 1 20 X [.ref x0, .int x1] h o := by
  refine x_met (by decide) (Nat.le_of_ble_eq_true rfl) ?_
  intro p e s m below meth c ls C hl hW hZ
  have hl : lv_has ls 3 [(0, .ref x0), (1, .int x1)] := hl
  have hkm : Km h h := Km.rf h
  refine lv_aload_n C.1 C.2.1 dX3_addPass_0 rfl (lv_at hl 0 rfl) ?_
  obtain ⟨o_1, eo_1, hE⟩ := cl_e hE
  refine x_kI (o := o_1) (z_runV (As := []) (rest := []) C (ct_X3_passSize l X k_x0 eo_1) cw_X3_76 hW hZ k_x0 (by decide) rfl rfl rfl hl.1 (Nat.le_of_ble_eq_true rfl) rfl dX3_addPass_1 ⟨Nat.le_of_ble_eq_true rfl, Nat.le_of_ble_eq_true rfl⟩ ⟨Nat.le_refl _, Nat.le_refl _⟩) hZ (fun _ _ hW km hZ => ?_)
  replace hkm := hkm.tr km
  replace k_x0 := km.at k_x0 (by decide)
  refine lv_istore_n (lv' := [(2, .int o_1.1), (0, .ref x0), (1, .int x1)]) C.1 C.2.1 dX3_addPass_4 rfl hl (by decide) rfl (fun ls hl => ?_)
  refine lv_aload_n C.1 C.2.1 dX3_addPass_5 rfl (lv_at hl 1 rfl) ?_
  refine gf_X3_52 C hW k_x0 dX3_addPass_6 ?_
  refine lv_ldc2 (v := (8 : Int64)) C.1 C.2.1 C.2.2.2.1 (C.2.2.2.2.1 _ m_990) dX3_addPass_9 ?_
  refine W.lcmp C.1 C.2.1 dX3_addPass_12 ?_
  refine lv_if_eq (tgt := 22) C.1 C.2.1 dX3_addPass_13 (by decide) (fun c_2 => ?_) (fun c_2 => ?_)
  · have hE := br_p hE c_2
    exact bX3_addPass_22 C k_x0 hkm hW hZ _ (lv_sub hl [1] rfl) hE
  · have hE := br_n hE c_2
    refine lv_iload_n C.1 C.2.1 dX3_addPass_16 rfl (lv_at hl 0 rfl) ?_
    refine lv_bipush (v := (7 : Int32)) C.1 C.2.1 dX3_addPass_17 (by decide) ?_
    refine lv_icmp_lt (tgt := 30) C.1 C.2.1 dX3_addPass_19 (by decide) (fun c_3 => ?_) (fun c_3 => ?_)
    · have hE := br_p hE c_3
      refine lv_aload_n C.1 C.2.1 dX3_addPass_30 rfl (lv_at hl 1 rfl) ?_
      refine lv_aload_n C.1 C.2.1 dX3_addPass_31 rfl (lv_at hl 1 rfl) ?_
      refine gf_X3_52 C hW k_x0 dX3_addPass_32 ?_
      refine lv_iload_n C.1 C.2.1 dX3_addPass_35 rfl (lv_at hl 2 rfl) ?_
      refine lv_i2l C.1 C.2.1 dX3_addPass_36 rfl ?_
      refine lv_iconst (v := (3 : Int32)) C.1 C.2.1 dX3_addPass_37 (by decide) ?_
      refine lv_bipush (v := (6 : Int32)) C.1 C.2.1 dX3_addPass_38 (by decide) ?_
      refine lv_iload_n C.1 C.2.1 dX3_addPass_40 rfl (lv_at hl 0 rfl) ?_
      refine lv_imul C.1 C.2.1 dX3_addPass_41 ?_
      refine lv_iadd C.1 C.2.1 dX3_addPass_42 ?_
      refine lv_lshl C.1 C.2.1 dX3_addPass_43 rfl ?_
      refine lv_lor C.1 C.2.1 dX3_addPass_44 ?_
      refine lv_lconst (v := (1 : Int64)) C.1 C.2.1 dX3_addPass_45 (by decide) ?_
      refine lv_ladd C.1 C.2.1 dX3_addPass_46 ?_
      obtain ⟨h_4, eh_4, hE⟩ := nm_e2 hE
      refine pf_X3_52 C hW hZ k_x0 eh_4 dX3_addPass_47 (fun _ _ hW km hZ => ?_)
      replace hkm := hkm.tr km
      replace k_x0 := km.at k_x0 (by decide)
      refine lv_aload_n C.1 C.2.1 dX3_addPass_50 rfl (lv_at hl 1 rfl) ?_
      refine lv_dup C.1 C.2.1 dX3_addPass_51 rfl ?_
      refine gf_X3_48 C hW k_x0 dX3_addPass_52 ?_
      refine lv_iload_n C.1 C.2.1 dX3_addPass_55 rfl (lv_at hl 0 rfl) ?_
      refine lv_if_le (tgt := 65) C.1 C.2.1 dX3_addPass_56 (by decide) (fun c_5 => ?_) (fun c_5 => ?_)
      · have hE := br_p hE c_5
        refine lv_lconst (v := (0 : Int64)) C.1 C.2.1 dX3_addPass_65 (by decide) ?_
        exact bX3_addPass_66 C k_x0 hkm hW hZ _ (lv_sub hl [] rfl) hE
      · have hE := br_n hE c_5
        refine lv_lconst (v := (1 : Int64)) C.1 C.2.1 dX3_addPass_59 (by decide) ?_
        refine lv_iload_n C.1 C.2.1 dX3_addPass_60 rfl (lv_at hl 2 rfl) ?_
        refine lv_lshl C.1 C.2.1 dX3_addPass_61 rfl ?_
        refine lv_goto (tgt := 66) C.1 C.2.1 dX3_addPass_62 (by decide) ?_
        exact bX3_addPass_66 C k_x0 hkm hW hZ _ (lv_sub hl [] rfl) hE
    · have hE := br_n hE c_3
      exact bX3_addPass_22 C k_x0 hkm hW hZ _ (lv_sub hl [1] rfl) hE
theorem dX3_inHand_0 : decode cX3_inHand 0 = .ok (.aload_n 0, 1) := by decide +kernel
theorem dX3_inHand_1 : decode cX3_inHand 1 = .ok (.getfield 23, 3) := by decide +kernel
theorem dX3_inHand_4 : decode cX3_inHand 4 = .ok (.iload_n 1, 1) := by decide +kernel
theorem dX3_inHand_5 : decode cX3_inHand 5 = .ok (.laload, 1) := by decide +kernel
theorem dX3_inHand_6 : decode cX3_inHand 6 = .ok (.iconst 5, 1) := by decide +kernel
theorem dX3_inHand_7 : decode cX3_inHand 7 = .ok (.iload_n 2, 1) := by decide +kernel
theorem dX3_inHand_8 : decode cX3_inHand 8 = .ok (.imul, 1) := by decide +kernel
theorem dX3_inHand_9 : decode cX3_inHand 9 = .ok (.lushr, 1) := by decide +kernel
theorem dX3_inHand_10 : decode cX3_inHand 10 = .ok (.l2i, 1) := by decide +kernel
theorem dX3_inHand_11 : decode cX3_inHand 11 = .ok (.bipush 31, 2) := by decide +kernel
theorem dX3_inHand_13 : decode cX3_inHand 13 = .ok (.iand, 1) := by decide +kernel
theorem dX3_inHand_14 : decode cX3_inHand 14 = .ok (.ireturn, 1) := by decide +kernel
set_option maxRecDepth 20000 in
theorem moX3_inHand {o : Int32 × Hp} {h : Hp} {x0 : Nat} {x1 : Int32} {x2 : Int32} (hE : sX3_inHand h x0 x1 x2 = some o) : Le h o.2 := by
  obtain ⟨r_1, er_1, hE⟩ := cl_e hE
  obtain ⟨g_2, hE⟩ := gd_e hE
  exact le_some2 hE
set_option maxRecDepth 20000 in
theorem ct_X3_inHand (l : Launch) (X : Ec) {h : Hp} {x0 : Nat} {x1 : Int32} {x2 : Int32} {o : Int32 × Hp} (k_x0 : hK h x0 = 3) (hE : sX3_inHand h x0 x1 x2 = some o) : MetI l yX3_inHand cX3_inHand 3 (some .int) 0 0 X [.ref x0, .int x1, .int x2] h o := by
  refine x_met (by decide) (Nat.le_of_ble_eq_true rfl) ?_
  intro p e s m below meth c ls C hl hW hZ
  have hl : lv_has ls 3 [(0, .ref x0), (1, .int x1), (2, .int x2)] := hl
  have hkm : Km h h := Km.rf h
  refine lv_aload_n C.1 C.2.1 dX3_inHand_0 rfl (lv_at hl 0 rfl) ?_
  obtain ⟨r_1, er_1, hE⟩ := cl_e hE
  refine gf_X3_23 C hW k_x0 er_1 dX3_inHand_1 (fun k_r_1 => ?_)
  refine lv_iload_n C.1 C.2.1 dX3_inHand_4 rfl (lv_at hl 1 rfl) ?_
  obtain ⟨g_2, hE⟩ := gd_e hE
  refine y_lald C hW k_r_1 g_2 dX3_inHand_5 ?_
  refine lv_iconst (v := (5 : Int32)) C.1 C.2.1 dX3_inHand_6 (by decide) ?_
  refine lv_iload_n C.1 C.2.1 dX3_inHand_7 rfl (lv_at hl 2 rfl) ?_
  refine lv_imul C.1 C.2.1 dX3_inHand_8 ?_
  refine lv_lushr C.1 C.2.1 dX3_inHand_9 rfl ?_
  refine lv_l2i C.1 C.2.1 dX3_inHand_10 rfl ?_
  refine lv_bipush (v := (31 : Int32)) C.1 C.2.1 dX3_inHand_11 (by decide) ?_
  refine lv_iand C.1 C.2.1 dX3_inHand_13 ?_
  exact x_iret C rfl rfl hW hZ hkm hE dX3_inHand_14
theorem dX3_addToHand_0 : decode cX3_addToHand 0 = .ok (.aload_n 0, 1) := by decide +kernel
theorem dX3_addToHand_1 : decode cX3_addToHand 1 = .ok (.getfield 23, 3) := by decide +kernel
theorem dX3_addToHand_4 : decode cX3_addToHand 4 = .ok (.iload_n 1, 1) := by decide +kernel
theorem dX3_addToHand_5 : decode cX3_addToHand 5 = .ok (.dup2, 1) := by decide +kernel
theorem dX3_addToHand_6 : decode cX3_addToHand 6 = .ok (.laload, 1) := by decide +kernel
theorem dX3_addToHand_7 : decode cX3_addToHand 7 = .ok (.iload_n 3, 1) := by decide +kernel
theorem dX3_addToHand_8 : decode cX3_addToHand 8 = .ok (.i2l, 1) := by decide +kernel
theorem dX3_addToHand_9 : decode cX3_addToHand 9 = .ok (.iconst 5, 1) := by decide +kernel
theorem dX3_addToHand_10 : decode cX3_addToHand 10 = .ok (.iload_n 2, 1) := by decide +kernel
theorem dX3_addToHand_11 : decode cX3_addToHand 11 = .ok (.imul, 1) := by decide +kernel
theorem dX3_addToHand_12 : decode cX3_addToHand 12 = .ok (.lshl, 1) := by decide +kernel
theorem dX3_addToHand_13 : decode cX3_addToHand 13 = .ok (.ladd, 1) := by decide +kernel
theorem dX3_addToHand_14 : decode cX3_addToHand 14 = .ok (.lastore, 1) := by decide +kernel
theorem dX3_addToHand_15 : decode cX3_addToHand 15 = .ok (.return_, 1) := by decide +kernel
set_option maxRecDepth 20000 in
theorem moX3_addToHand {o : Hp} {h : Hp} {x0 : Nat} {x1 : Int32} {x2 : Int32} {x3 : Int32} (hE : sX3_addToHand h x0 x1 x2 x3 = some o) : Le h o := by
  obtain ⟨r_1, er_1, hE⟩ := cl_e hE
  obtain ⟨g_2, hE⟩ := gd_e hE
  obtain ⟨g_3, hE⟩ := gd_e hE
  obtain ⟨h_4, eh_4, hE⟩ := nm_e2 hE
  refine (le_J eh_4).tr ?_
  exact le_some1 hE
set_option maxRecDepth 20000 in
theorem ct_X3_addToHand (l : Launch) (X : Ec) {h : Hp} {x0 : Nat} {x1 : Int32} {x2 : Int32} {x3 : Int32} {o : Hp} (k_x0 : hK h x0 = 3) (hE : sX3_addToHand h x0 x1 x2 x3 = some o) : MetV l yX3_addToHand cX3_addToHand 4 none 0 0 X [.ref x0, .int x1, .int x2, .int x3] h o := by
  refine x_met (by decide) (Nat.le_of_ble_eq_true rfl) ?_
  intro p e s m below meth c ls C hl hW hZ
  have hl : lv_has ls 4 [(0, .ref x0), (1, .int x1), (2, .int x2), (3, .int x3)] := hl
  have hkm : Km h h := Km.rf h
  refine lv_aload_n C.1 C.2.1 dX3_addToHand_0 rfl (lv_at hl 0 rfl) ?_
  obtain ⟨r_1, er_1, hE⟩ := cl_e hE
  refine gf_X3_23 C hW k_x0 er_1 dX3_addToHand_1 (fun k_r_1 => ?_)
  refine lv_iload_n C.1 C.2.1 dX3_addToHand_4 rfl (lv_at hl 1 rfl) ?_
  refine lv_dup2_11 C.1 C.2.1 dX3_addToHand_5 rfl rfl ?_
  obtain ⟨g_2, hE⟩ := gd_e hE
  refine y_lald C hW k_r_1 g_2 dX3_addToHand_6 ?_
  refine lv_iload_n C.1 C.2.1 dX3_addToHand_7 rfl (lv_at hl 3 rfl) ?_
  refine lv_i2l C.1 C.2.1 dX3_addToHand_8 rfl ?_
  refine lv_iconst (v := (5 : Int32)) C.1 C.2.1 dX3_addToHand_9 (by decide) ?_
  refine lv_iload_n C.1 C.2.1 dX3_addToHand_10 rfl (lv_at hl 2 rfl) ?_
  refine lv_imul C.1 C.2.1 dX3_addToHand_11 ?_
  refine lv_lshl C.1 C.2.1 dX3_addToHand_12 rfl ?_
  refine lv_ladd C.1 C.2.1 dX3_addToHand_13 ?_
  obtain ⟨g_3, hE⟩ := gd_e hE
  obtain ⟨h_4, eh_4, hE⟩ := nm_e2 hE
  refine y_last C hW hZ k_r_1 g_3 eh_4 dX3_addToHand_14 (fun _ _ hW km hZ => ?_)
  replace hkm := hkm.tr km
  replace k_x0 := km.at k_x0 (by decide)
  exact x_vret C rfl hW hZ hkm hE dX3_addToHand_15
theorem dX3_passSquare_0 : decode cX3_passSquare 0 = .ok (.aload_n 0, 1) := by decide +kernel
theorem dX3_passSquare_1 : decode cX3_passSquare 1 = .ok (.getfield 52, 3) := by decide +kernel
theorem dX3_passSquare_4 : decode cX3_passSquare 4 = .ok (.iconst 3, 1) := by decide +kernel
theorem dX3_passSquare_5 : decode cX3_passSquare 5 = .ok (.bipush 6, 2) := by decide +kernel
theorem dX3_passSquare_7 : decode cX3_passSquare 7 = .ok (.iload_n 1, 1) := by decide +kernel
theorem dX3_passSquare_8 : decode cX3_passSquare 8 = .ok (.imul, 1) := by decide +kernel
theorem dX3_passSquare_9 : decode cX3_passSquare 9 = .ok (.iadd, 1) := by decide +kernel
theorem dX3_passSquare_10 : decode cX3_passSquare 10 = .ok (.lushr, 1) := by decide +kernel
theorem dX3_passSquare_11 : decode cX3_passSquare 11 = .ok (.l2i, 1) := by decide +kernel
theorem dX3_passSquare_12 : decode cX3_passSquare 12 = .ok (.bipush 63, 2) := by decide +kernel
theorem dX3_passSquare_14 : decode cX3_passSquare 14 = .ok (.iand, 1) := by decide +kernel
theorem dX3_passSquare_15 : decode cX3_passSquare 15 = .ok (.ireturn, 1) := by decide +kernel
set_option maxRecDepth 20000 in
theorem moX3_passSquare {o : Int32 × Hp} {h : Hp} {x0 : Nat} {x1 : Int32} (hE : sX3_passSquare h x0 x1 = some o) : Le h o.2 := by
  exact le_some2 hE
set_option maxRecDepth 20000 in
theorem ct_X3_passSquare (l : Launch) (X : Ec) {h : Hp} {x0 : Nat} {x1 : Int32} {o : Int32 × Hp} (k_x0 : hK h x0 = 3) (hE : sX3_passSquare h x0 x1 = some o) : MetI l yX3_passSquare cX3_passSquare 2 (some .int) 0 0 X [.ref x0, .int x1] h o := by
  refine x_met (by decide) (Nat.le_of_ble_eq_true rfl) ?_
  intro p e s m below meth c ls C hl hW hZ
  have hl : lv_has ls 2 [(0, .ref x0), (1, .int x1)] := hl
  have hkm : Km h h := Km.rf h
  refine lv_aload_n C.1 C.2.1 dX3_passSquare_0 rfl (lv_at hl 0 rfl) ?_
  refine gf_X3_52 C hW k_x0 dX3_passSquare_1 ?_
  refine lv_iconst (v := (3 : Int32)) C.1 C.2.1 dX3_passSquare_4 (by decide) ?_
  refine lv_bipush (v := (6 : Int32)) C.1 C.2.1 dX3_passSquare_5 (by decide) ?_
  refine lv_iload_n C.1 C.2.1 dX3_passSquare_7 rfl (lv_at hl 1 rfl) ?_
  refine lv_imul C.1 C.2.1 dX3_passSquare_8 ?_
  refine lv_iadd C.1 C.2.1 dX3_passSquare_9 ?_
  refine lv_lushr C.1 C.2.1 dX3_passSquare_10 rfl ?_
  refine lv_l2i C.1 C.2.1 dX3_passSquare_11 rfl ?_
  refine lv_bipush (v := (63 : Int32)) C.1 C.2.1 dX3_passSquare_12 (by decide) ?_
  refine lv_iand C.1 C.2.1 dX3_passSquare_14 ?_
  exact x_iret C rfl rfl hW hZ hkm hE dX3_passSquare_15
theorem dX3_occupied_0 : decode cX3_occupied 0 = .ok (.aload_n 0, 1) := by decide +kernel
theorem dX3_occupied_1 : decode cX3_occupied 1 = .ok (.getfield 15, 3) := by decide +kernel
theorem dX3_occupied_4 : decode cX3_occupied 4 = .ok (.iconst 0, 1) := by decide +kernel
theorem dX3_occupied_5 : decode cX3_occupied 5 = .ok (.laload, 1) := by decide +kernel
theorem dX3_occupied_6 : decode cX3_occupied 6 = .ok (.aload_n 0, 1) := by decide +kernel
theorem dX3_occupied_7 : decode cX3_occupied 7 = .ok (.getfield 15, 3) := by decide +kernel
theorem dX3_occupied_10 : decode cX3_occupied 10 = .ok (.iconst 1, 1) := by decide +kernel
theorem dX3_occupied_11 : decode cX3_occupied 11 = .ok (.laload, 1) := by decide +kernel
theorem dX3_occupied_12 : decode cX3_occupied 12 = .ok (.lor, 1) := by decide +kernel
theorem dX3_occupied_13 : decode cX3_occupied 13 = .ok (.lreturn, 1) := by decide +kernel
set_option maxRecDepth 20000 in
theorem moX3_occupied {o : Int64 × Hp} {h : Hp} {x0 : Nat} (hE : sX3_occupied h x0 = some o) : Le h o.2 := by
  obtain ⟨r_1, er_1, hE⟩ := cl_e hE
  obtain ⟨g_2, hE⟩ := gd_e hE
  obtain ⟨r_3, er_3, hE⟩ := cl_e hE
  obtain ⟨g_4, hE⟩ := gd_e hE
  exact le_some2 hE
set_option maxRecDepth 20000 in
theorem ct_X3_occupied (l : Launch) (X : Ec) {h : Hp} {x0 : Nat} {o : Int64 × Hp} (k_x0 : hK h x0 = 3) (hE : sX3_occupied h x0 = some o) : MetJ l yX3_occupied cX3_occupied 1 (some .long) 0 0 X [.ref x0] h o := by
  refine x_met (by decide) (Nat.le_of_ble_eq_true rfl) ?_
  intro p e s m below meth c ls C hl hW hZ
  have hl : lv_has ls 1 [(0, .ref x0)] := hl
  have hkm : Km h h := Km.rf h
  refine lv_aload_n C.1 C.2.1 dX3_occupied_0 rfl (lv_at hl 0 rfl) ?_
  obtain ⟨r_1, er_1, hE⟩ := cl_e hE
  refine gf_X3_15 C hW k_x0 er_1 dX3_occupied_1 (fun k_r_1 => ?_)
  refine lv_iconst (v := (0 : Int32)) C.1 C.2.1 dX3_occupied_4 (by decide) ?_
  obtain ⟨g_2, hE⟩ := gd_e hE
  refine y_lald C hW k_r_1 g_2 dX3_occupied_5 ?_
  refine lv_aload_n C.1 C.2.1 dX3_occupied_6 rfl (lv_at hl 0 rfl) ?_
  obtain ⟨r_3, er_3, hE⟩ := cl_e hE
  refine gf_X3_15 C hW k_x0 er_3 dX3_occupied_7 (fun k_r_3 => ?_)
  refine lv_iconst (v := (1 : Int32)) C.1 C.2.1 dX3_occupied_10 (by decide) ?_
  obtain ⟨g_4, hE⟩ := gd_e hE
  refine y_lald C hW k_r_3 g_4 dX3_occupied_11 ?_
  refine lv_lor C.1 C.2.1 dX3_occupied_12 ?_
  exact x_lret C rfl hW hZ hkm hE dX3_occupied_13
set_option maxRecDepth 100000 in
theorem m_23 : Cond.initialized "java/lang/System" ∈ W0 := w0_in (List.mem_append_right _ (List.mem_of_getElem? (i := 23) rfl)) rfl
set_option maxRecDepth 100000 in
theorem m_1233 : Cond.methodLink RX3 61 arraycopyName ∈ W0 := w0_in (List.mem_append_right _ (List.mem_of_getElem? (i := 1233) rfl)) rfl
set_option maxRecDepth 100000 in
theorem m_1234 : Cond.static arraycopyName ∈ W0 := w0_in (List.mem_append_right _ (List.mem_of_getElem? (i := 1234) rfl)) rfl
set_option maxRecDepth 100000 in
theorem m_1235 : Cond.native arraycopyName ∈ W0 := w0_in (List.mem_append_right _ (List.mem_of_getElem? (i := 1235) rfl)) rfl
section
variable {p : Program} {l : Launch} {e : Env} {R : Room} {s : State} {m : MethodId} {args : Array Value} {below : List Frame} {meth : Method} {c : Code} {H : Heap} {locs : List Loc} {cells slots : Nat} {Q : State → Prop}
variable {cc : ByteArray} {pc : Nat} {ls : Array Slot} {rest : List Value} {X : Ec} {h h1 : Hp} {nL : Nat} {rt : Option FieldType} {mn : String}
theorem gf_X3_41 {a : Nat} (C : Cx X p s m args meth c RX3 cc nL rt mn) (hW : Wx X h H) (ha : hK h a = 3) (hdg : decode cc pc = .ok (.getfield 41, 3)) (kk : W p l e R s m args below meth c H locs cells slots Q (F0 m (pc + 3) ls (.int (hI h a 5) :: rest))) : W p l e R s m args below meth c H locs cells slots Q (F0 m pc ls (.ref a :: rest)) :=
  y_geti C hW ha i_X3 (by decide) rfl (by decide) m_296 rfl hdg kk
theorem gf_X3_58 {a : Nat} (C : Cx X p s m args meth c RX3 cc nL rt mn) (hW : Wx X h H) (ha : hK h a = 3) (hdg : decode cc pc = .ok (.getfield 58, 3)) (kk : W p l e R s m args below meth c H locs cells slots Q (F0 m (pc + 3) ls (.int (hI h a 6) :: rest))) : W p l e R s m args below meth c H locs cells slots Q (F0 m pc ls (.ref a :: rest)) :=
  y_geti C hW ha i_X3 (by decide) rfl (by decide) m_304 rfl hdg kk
theorem gf_X3_55 {a : Nat} (C : Cx X p s m args meth c RX3 cc nL rt mn) (hW : Wx X h H) (ha : hK h a = 3) (hdg : decode cc pc = .ok (.getfield 55, 3)) (kk : W p l e R s m args below meth c H locs cells slots Q (F0 m (pc + 3) ls (.long (hJ h a 8) :: rest))) : W p l e R s m args below meth c H locs cells slots Q (F0 m pc ls (.ref a :: rest)) :=
  y_getj C hW ha i_X3 (by decide) rfl (by decide) m_310 rfl hdg kk
end
theorem dX3_copyFrom_0 : decode cX3_copyFrom 0 = .ok (.aload_n 1, 1) := by decide +kernel
theorem dX3_copyFrom_1 : decode cX3_copyFrom 1 = .ok (.getfield 9, 3) := by decide +kernel
theorem dX3_copyFrom_4 : decode cX3_copyFrom 4 = .ok (.iconst 0, 1) := by decide +kernel
theorem dX3_copyFrom_5 : decode cX3_copyFrom 5 = .ok (.aload_n 0, 1) := by decide +kernel
theorem dX3_copyFrom_6 : decode cX3_copyFrom 6 = .ok (.getfield 9, 3) := by decide +kernel
theorem dX3_copyFrom_9 : decode cX3_copyFrom 9 = .ok (.iconst 0, 1) := by decide +kernel
theorem dX3_copyFrom_10 : decode cX3_copyFrom 10 = .ok (.bipush 64, 2) := by decide +kernel
theorem dX3_copyFrom_12 : decode cX3_copyFrom 12 = .ok (.invokestatic 61, 3) := by decide +kernel
theorem dX3_copyFrom_15 : decode cX3_copyFrom 15 = .ok (.iconst 0, 1) := by decide +kernel
theorem dX3_copyFrom_16 : decode cX3_copyFrom 16 = .ok (.istore_n 2, 1) := by decide +kernel
theorem dX3_copyFrom_17 : decode cX3_copyFrom 17 = .ok (.iload_n 2, 1) := by decide +kernel
theorem dX3_copyFrom_18 : decode cX3_copyFrom 18 = .ok (.iconst 2, 1) := by decide +kernel
theorem dX3_copyFrom_19 : decode cX3_copyFrom 19 = .ok (.if_icmp .ge 57, 3) := by decide +kernel
theorem dX3_copyFrom_22 : decode cX3_copyFrom 22 = .ok (.aload_n 0, 1) := by decide +kernel
theorem dX3_copyFrom_23 : decode cX3_copyFrom 23 = .ok (.getfield 15, 3) := by decide +kernel
theorem dX3_copyFrom_26 : decode cX3_copyFrom 26 = .ok (.iload_n 2, 1) := by decide +kernel
theorem dX3_copyFrom_27 : decode cX3_copyFrom 27 = .ok (.aload_n 1, 1) := by decide +kernel
theorem dX3_copyFrom_28 : decode cX3_copyFrom 28 = .ok (.getfield 15, 3) := by decide +kernel
theorem dX3_copyFrom_31 : decode cX3_copyFrom 31 = .ok (.iload_n 2, 1) := by decide +kernel
theorem dX3_copyFrom_32 : decode cX3_copyFrom 32 = .ok (.laload, 1) := by decide +kernel
theorem dX3_copyFrom_33 : decode cX3_copyFrom 33 = .ok (.lastore, 1) := by decide +kernel
theorem dX3_copyFrom_34 : decode cX3_copyFrom 34 = .ok (.aload_n 0, 1) := by decide +kernel
theorem dX3_copyFrom_35 : decode cX3_copyFrom 35 = .ok (.getfield 19, 3) := by decide +kernel
theorem dX3_copyFrom_38 : decode cX3_copyFrom 38 = .ok (.iload_n 2, 1) := by decide +kernel
theorem dX3_copyFrom_39 : decode cX3_copyFrom 39 = .ok (.aload_n 1, 1) := by decide +kernel
theorem dX3_copyFrom_40 : decode cX3_copyFrom 40 = .ok (.getfield 19, 3) := by decide +kernel
theorem dX3_copyFrom_43 : decode cX3_copyFrom 43 = .ok (.iload_n 2, 1) := by decide +kernel
theorem dX3_copyFrom_44 : decode cX3_copyFrom 44 = .ok (.iaload, 1) := by decide +kernel
theorem dX3_copyFrom_45 : decode cX3_copyFrom 45 = .ok (.iastore, 1) := by decide +kernel
theorem dX3_copyFrom_46 : decode cX3_copyFrom 46 = .ok (.aload_n 0, 1) := by decide +kernel
theorem dX3_copyFrom_47 : decode cX3_copyFrom 47 = .ok (.getfield 23, 3) := by decide +kernel
theorem dX3_copyFrom_50 : decode cX3_copyFrom 50 = .ok (.iload_n 2, 1) := by decide +kernel
theorem dX3_copyFrom_51 : decode cX3_copyFrom 51 = .ok (.aload_n 1, 1) := by decide +kernel
theorem dX3_copyFrom_52 : decode cX3_copyFrom 52 = .ok (.getfield 23, 3) := by decide +kernel
theorem dX3_copyFrom_55 : decode cX3_copyFrom 55 = .ok (.iload_n 2, 1) := by decide +kernel
theorem dX3_copyFrom_56 : decode cX3_copyFrom 56 = .ok (.laload, 1) := by decide +kernel
theorem dX3_copyFrom_57 : decode cX3_copyFrom 57 = .ok (.lastore, 1) := by decide +kernel
theorem dX3_copyFrom_58 : decode cX3_copyFrom 58 = .ok (.aload_n 0, 1) := by decide +kernel
theorem dX3_copyFrom_59 : decode cX3_copyFrom 59 = .ok (.getfield 26, 3) := by decide +kernel
theorem dX3_copyFrom_62 : decode cX3_copyFrom 62 = .ok (.iload_n 2, 1) := by decide +kernel
theorem dX3_copyFrom_63 : decode cX3_copyFrom 63 = .ok (.aload_n 1, 1) := by decide +kernel
theorem dX3_copyFrom_64 : decode cX3_copyFrom 64 = .ok (.getfield 26, 3) := by decide +kernel
theorem dX3_copyFrom_67 : decode cX3_copyFrom 67 = .ok (.iload_n 2, 1) := by decide +kernel
theorem dX3_copyFrom_68 : decode cX3_copyFrom 68 = .ok (.iaload, 1) := by decide +kernel
theorem dX3_copyFrom_69 : decode cX3_copyFrom 69 = .ok (.iastore, 1) := by decide +kernel
theorem dX3_copyFrom_70 : decode cX3_copyFrom 70 = .ok (.iinc 2 1, 3) := by decide +kernel
theorem dX3_copyFrom_73 : decode cX3_copyFrom 73 = .ok (.goto (-56), 3) := by decide +kernel
theorem dX3_copyFrom_76 : decode cX3_copyFrom 76 = .ok (.aload_n 0, 1) := by decide +kernel
theorem dX3_copyFrom_77 : decode cX3_copyFrom 77 = .ok (.aload_n 1, 1) := by decide +kernel
theorem dX3_copyFrom_78 : decode cX3_copyFrom 78 = .ok (.getfield 41, 3) := by decide +kernel
theorem dX3_copyFrom_81 : decode cX3_copyFrom 81 = .ok (.putfield 41, 3) := by decide +kernel
theorem dX3_copyFrom_84 : decode cX3_copyFrom 84 = .ok (.aload_n 0, 1) := by decide +kernel
theorem dX3_copyFrom_85 : decode cX3_copyFrom 85 = .ok (.aload_n 1, 1) := by decide +kernel
theorem dX3_copyFrom_86 : decode cX3_copyFrom 86 = .ok (.getfield 58, 3) := by decide +kernel
theorem dX3_copyFrom_89 : decode cX3_copyFrom 89 = .ok (.putfield 58, 3) := by decide +kernel
theorem dX3_copyFrom_92 : decode cX3_copyFrom 92 = .ok (.aload_n 0, 1) := by decide +kernel
theorem dX3_copyFrom_93 : decode cX3_copyFrom 93 = .ok (.aload_n 1, 1) := by decide +kernel
theorem dX3_copyFrom_94 : decode cX3_copyFrom 94 = .ok (.getfield 55, 3) := by decide +kernel
theorem dX3_copyFrom_97 : decode cX3_copyFrom 97 = .ok (.putfield 55, 3) := by decide +kernel
theorem dX3_copyFrom_100 : decode cX3_copyFrom 100 = .ok (.aload_n 0, 1) := by decide +kernel
theorem dX3_copyFrom_101 : decode cX3_copyFrom 101 = .ok (.aload_n 1, 1) := by decide +kernel
theorem dX3_copyFrom_102 : decode cX3_copyFrom 102 = .ok (.getfield 52, 3) := by decide +kernel
theorem dX3_copyFrom_105 : decode cX3_copyFrom 105 = .ok (.putfield 52, 3) := by decide +kernel
theorem dX3_copyFrom_108 : decode cX3_copyFrom 108 = .ok (.aload_n 0, 1) := by decide +kernel
theorem dX3_copyFrom_109 : decode cX3_copyFrom 109 = .ok (.aload_n 1, 1) := by decide +kernel
theorem dX3_copyFrom_110 : decode cX3_copyFrom 110 = .ok (.getfield 48, 3) := by decide +kernel
theorem dX3_copyFrom_113 : decode cX3_copyFrom 113 = .ok (.putfield 48, 3) := by decide +kernel
theorem dX3_copyFrom_116 : decode cX3_copyFrom 116 = .ok (.return_, 1) := by decide +kernel
set_option maxRecDepth 20000 in
theorem moX3_copyFrom_17 {o : Hp} {F : Nat} : ∀ (f : Nat) {h : Hp} {x0 : Nat} {x1 : Nat} {x2 : Int32}, sX3_copyFrom_17 F f h x0 x1 x2 = some o → Le h o := by
  intro f
  induction f with
  | zero =>
    intro h x0 x1 x2 hE
    rw [sX3_copyFrom_17] at hE
    cases hE
  | succ f ih =>
    intro h x0 x1 x2 hE
    rw [sX3_copyFrom_17] at hE
    have mk_17 : ∀ (h : Hp) (x0 : Nat) (x1 : Nat) (x2 : Int32), sX3_copyFrom_17 F f h x0 x1 x2 = some o → Le h o := fun h x0 x1 x2 hE => ih hE
    rcases br_e hE with ⟨_, hE⟩ | ⟨_, hE⟩
    · obtain ⟨h_2, eh_2, hE⟩ := nm_e2 hE
      refine (le_I eh_2).tr ?_
      obtain ⟨h_3, eh_3, hE⟩ := nm_e2 hE
      refine (le_I eh_3).tr ?_
      obtain ⟨h_4, eh_4, hE⟩ := nm_e2 hE
      refine (le_J eh_4).tr ?_
      obtain ⟨h_5, eh_5, hE⟩ := nm_e2 hE
      refine (le_J eh_5).tr ?_
      obtain ⟨h_6, eh_6, hE⟩ := nm_e2 hE
      refine (le_J eh_6).tr ?_
      exact le_some1 hE
    · obtain ⟨r_7, er_7, hE⟩ := cl_e hE
      obtain ⟨r_8, er_8, hE⟩ := cl_e hE
      obtain ⟨g_9, hE⟩ := gd_e hE
      obtain ⟨g_10, hE⟩ := gd_e hE
      obtain ⟨h_11, eh_11, hE⟩ := nm_e2 hE
      refine (le_J eh_11).tr ?_
      obtain ⟨r_12, er_12, hE⟩ := cl_e hE
      obtain ⟨r_13, er_13, hE⟩ := cl_e hE
      obtain ⟨g_14, hE⟩ := gd_e hE
      obtain ⟨g_15, hE⟩ := gd_e hE
      obtain ⟨h_16, eh_16, hE⟩ := nm_e2 hE
      refine (le_I eh_16).tr ?_
      obtain ⟨r_17, er_17, hE⟩ := cl_e hE
      obtain ⟨r_18, er_18, hE⟩ := cl_e hE
      obtain ⟨g_19, hE⟩ := gd_e hE
      obtain ⟨g_20, hE⟩ := gd_e hE
      obtain ⟨h_21, eh_21, hE⟩ := nm_e2 hE
      refine (le_J eh_21).tr ?_
      obtain ⟨r_22, er_22, hE⟩ := cl_e hE
      obtain ⟨r_23, er_23, hE⟩ := cl_e hE
      obtain ⟨g_24, hE⟩ := gd_e hE
      obtain ⟨g_25, hE⟩ := gd_e hE
      obtain ⟨h_26, eh_26, hE⟩ := nm_e2 hE
      refine (le_I eh_26).tr ?_
      obtain ⟨v_27, ev_27, hE⟩ := nm_e2 hE
      exact mk_17 _ _ _ _ hE
set_option maxRecDepth 20000 in
theorem moX3_copyFrom {o : Hp} {F : Nat} {h : Hp} {x0 : Nat} {x1 : Nat} (hE : sX3_copyFrom F h x0 x1 = some o) : Le h o := by
  obtain ⟨r_1, er_1, hE⟩ := cl_e hE
  obtain ⟨r_2, er_2, hE⟩ := cl_e hE
  obtain ⟨g_3, hE⟩ := gd_e hE
  obtain ⟨g_4, hE⟩ := gd_e hE
  obtain ⟨g_5, hE⟩ := gd_e hE
  obtain ⟨g_6, hE⟩ := gd_e hE
  obtain ⟨g_7, hE⟩ := gd_e hE
  obtain ⟨g_8, hE⟩ := gd_e hE
  obtain ⟨h_9, eh_9, hE⟩ := nm_e2 hE
  refine (le_cI eh_9).tr ?_
  exact moX3_copyFrom_17 _ hE
set_option maxRecDepth 20000 in
theorem bX3_copyFrom_17 {p : Program} {l : Launch} {e : Env} {s : State} {m : MethodId} {args : Array Value} {below : List Frame} {meth : Method} {c : Code} {X : Ec} {h0 : Hp} {o : Hp} {F : Nat} (C : Cx X p s m args meth c RX3 cX3_copyFrom 3 none "copyFrom") : ∀ (f : Nat) {h : Hp} {x0 : Nat} {x1 : Nat} {x2 : Int32} {H : Heap} {locs : List Loc} (k_x0 : hK h x0 = 3) (k_x1 : hK h x1 = 3), Km h0 h → Wx X h H → va_S (aA (eB X)) s.heap H locs → ∀ (ls : Array Slot), lv_has ls 3 [(0, .ref x0), (1, .ref x1), (2, .int x2)] → sX3_copyFrom_17 F f h x0 x1 x2 = some o → W p l e (rm 1 64) s m args below meth c H locs 0 0 (MQ below (QV X h0 o) args s 0 0 (aA (eB X))) (F0 m 17 ls []) := by
  intro f
  induction f with
  | zero =>
    intro h x0 x1 x2 H locs k_x0 k_x1 hkm hW hZ ls hl hE
    rw [sX3_copyFrom_17] at hE
    cases hE
  | succ f ih =>
    intro h x0 x1 x2 H locs k_x0 k_x1 hkm hW hZ ls hl hE
    rw [sX3_copyFrom_17] at hE
    have hk_17 : ∀ (h : Hp) (x0 : Nat) (x1 : Nat) (x2 : Int32) (H : Heap) (locs : List Loc), hK h x0 = 3 → hK h x1 = 3 → Km h0 h → Wx X h H → va_S (aA (eB X)) s.heap H locs → ∀ (ls : Array Slot), lv_has ls 3 [(0, .ref x0), (1, .ref x1), (2, .int x2)] → sX3_copyFrom_17 F f h x0 x1 x2 = some o → W p l e (rm 1 64) s m args below meth c H locs 0 0 (MQ below (QV X h0 o) args s 0 0 (aA (eB X))) (F0 m 17 ls []) := fun h x0 x1 x2 H locs k_x0 k_x1 a b c ls hl hE => ih k_x0 k_x1 a b c ls hl hE
    refine lv_iload_n C.1 C.2.1 dX3_copyFrom_17 rfl (lv_at hl 2 rfl) ?_
    refine lv_iconst (v := (2 : Int32)) C.1 C.2.1 dX3_copyFrom_18 (by decide) ?_
    refine lv_icmp_ge (tgt := 76) C.1 C.2.1 dX3_copyFrom_19 (by decide) (fun c_1 => ?_) (fun c_1 => ?_)
    · have hE := br_p hE c_1
      refine lv_aload_n C.1 C.2.1 dX3_copyFrom_76 rfl (lv_at hl 0 rfl) ?_
      refine lv_aload_n C.1 C.2.1 dX3_copyFrom_77 rfl (lv_at hl 1 rfl) ?_
      refine gf_X3_41 C hW k_x1 dX3_copyFrom_78 ?_
      obtain ⟨h_2, eh_2, hE⟩ := nm_e2 hE
      refine pf_X3_41 C hW hZ k_x0 eh_2 dX3_copyFrom_81 (fun _ _ hW km hZ => ?_)
      replace hkm := hkm.tr km
      replace k_x0 := km.at k_x0 (by decide)
      replace k_x1 := km.at k_x1 (by decide)
      refine lv_aload_n C.1 C.2.1 dX3_copyFrom_84 rfl (lv_at hl 0 rfl) ?_
      refine lv_aload_n C.1 C.2.1 dX3_copyFrom_85 rfl (lv_at hl 1 rfl) ?_
      refine gf_X3_58 C hW k_x1 dX3_copyFrom_86 ?_
      obtain ⟨h_3, eh_3, hE⟩ := nm_e2 hE
      refine pf_X3_58 C hW hZ k_x0 eh_3 dX3_copyFrom_89 (fun _ _ hW km hZ => ?_)
      replace hkm := hkm.tr km
      replace k_x0 := km.at k_x0 (by decide)
      replace k_x1 := km.at k_x1 (by decide)
      refine lv_aload_n C.1 C.2.1 dX3_copyFrom_92 rfl (lv_at hl 0 rfl) ?_
      refine lv_aload_n C.1 C.2.1 dX3_copyFrom_93 rfl (lv_at hl 1 rfl) ?_
      refine gf_X3_55 C hW k_x1 dX3_copyFrom_94 ?_
      obtain ⟨h_4, eh_4, hE⟩ := nm_e2 hE
      refine pf_X3_55 C hW hZ k_x0 eh_4 dX3_copyFrom_97 (fun _ _ hW km hZ => ?_)
      replace hkm := hkm.tr km
      replace k_x0 := km.at k_x0 (by decide)
      replace k_x1 := km.at k_x1 (by decide)
      refine lv_aload_n C.1 C.2.1 dX3_copyFrom_100 rfl (lv_at hl 0 rfl) ?_
      refine lv_aload_n C.1 C.2.1 dX3_copyFrom_101 rfl (lv_at hl 1 rfl) ?_
      refine gf_X3_52 C hW k_x1 dX3_copyFrom_102 ?_
      obtain ⟨h_5, eh_5, hE⟩ := nm_e2 hE
      refine pf_X3_52 C hW hZ k_x0 eh_5 dX3_copyFrom_105 (fun _ _ hW km hZ => ?_)
      replace hkm := hkm.tr km
      replace k_x0 := km.at k_x0 (by decide)
      replace k_x1 := km.at k_x1 (by decide)
      refine lv_aload_n C.1 C.2.1 dX3_copyFrom_108 rfl (lv_at hl 0 rfl) ?_
      refine lv_aload_n C.1 C.2.1 dX3_copyFrom_109 rfl (lv_at hl 1 rfl) ?_
      refine gf_X3_48 C hW k_x1 dX3_copyFrom_110 ?_
      obtain ⟨h_6, eh_6, hE⟩ := nm_e2 hE
      refine pf_X3_48 C hW hZ k_x0 eh_6 dX3_copyFrom_113 (fun _ _ hW km hZ => ?_)
      replace hkm := hkm.tr km
      replace k_x0 := km.at k_x0 (by decide)
      replace k_x1 := km.at k_x1 (by decide)
      exact x_vret C rfl hW hZ hkm hE dX3_copyFrom_116
    · have hE := br_n hE c_1
      refine lv_aload_n C.1 C.2.1 dX3_copyFrom_22 rfl (lv_at hl 0 rfl) ?_
      obtain ⟨r_7, er_7, hE⟩ := cl_e hE
      refine gf_X3_15 C hW k_x0 er_7 dX3_copyFrom_23 (fun k_r_7 => ?_)
      refine lv_iload_n C.1 C.2.1 dX3_copyFrom_26 rfl (lv_at hl 2 rfl) ?_
      refine lv_aload_n C.1 C.2.1 dX3_copyFrom_27 rfl (lv_at hl 1 rfl) ?_
      obtain ⟨r_8, er_8, hE⟩ := cl_e hE
      refine gf_X3_15 C hW k_x1 er_8 dX3_copyFrom_28 (fun k_r_8 => ?_)
      refine lv_iload_n C.1 C.2.1 dX3_copyFrom_31 rfl (lv_at hl 2 rfl) ?_
      obtain ⟨g_9, hE⟩ := gd_e hE
      refine y_lald C hW k_r_8 g_9 dX3_copyFrom_32 ?_
      obtain ⟨g_10, hE⟩ := gd_e hE
      obtain ⟨h_11, eh_11, hE⟩ := nm_e2 hE
      refine y_last C hW hZ k_r_7 g_10 eh_11 dX3_copyFrom_33 (fun _ _ hW km hZ => ?_)
      replace hkm := hkm.tr km
      replace k_x0 := km.at k_x0 (by decide)
      replace k_x1 := km.at k_x1 (by decide)
      refine lv_aload_n C.1 C.2.1 dX3_copyFrom_34 rfl (lv_at hl 0 rfl) ?_
      obtain ⟨r_12, er_12, hE⟩ := cl_e hE
      refine gf_X3_19 C hW k_x0 er_12 dX3_copyFrom_35 (fun k_r_12 => ?_)
      refine lv_iload_n C.1 C.2.1 dX3_copyFrom_38 rfl (lv_at hl 2 rfl) ?_
      refine lv_aload_n C.1 C.2.1 dX3_copyFrom_39 rfl (lv_at hl 1 rfl) ?_
      obtain ⟨r_13, er_13, hE⟩ := cl_e hE
      refine gf_X3_19 C hW k_x1 er_13 dX3_copyFrom_40 (fun k_r_13 => ?_)
      refine lv_iload_n C.1 C.2.1 dX3_copyFrom_43 rfl (lv_at hl 2 rfl) ?_
      obtain ⟨g_14, hE⟩ := gd_e hE
      refine y_iald C hW k_r_13 g_14 dX3_copyFrom_44 ?_
      obtain ⟨g_15, hE⟩ := gd_e hE
      obtain ⟨h_16, eh_16, hE⟩ := nm_e2 hE
      refine y_iast C hW hZ k_r_12 g_15 eh_16 dX3_copyFrom_45 (fun _ _ hW km hZ => ?_)
      replace hkm := hkm.tr km
      replace k_x0 := km.at k_x0 (by decide)
      replace k_x1 := km.at k_x1 (by decide)
      refine lv_aload_n C.1 C.2.1 dX3_copyFrom_46 rfl (lv_at hl 0 rfl) ?_
      obtain ⟨r_17, er_17, hE⟩ := cl_e hE
      refine gf_X3_23 C hW k_x0 er_17 dX3_copyFrom_47 (fun k_r_17 => ?_)
      refine lv_iload_n C.1 C.2.1 dX3_copyFrom_50 rfl (lv_at hl 2 rfl) ?_
      refine lv_aload_n C.1 C.2.1 dX3_copyFrom_51 rfl (lv_at hl 1 rfl) ?_
      obtain ⟨r_18, er_18, hE⟩ := cl_e hE
      refine gf_X3_23 C hW k_x1 er_18 dX3_copyFrom_52 (fun k_r_18 => ?_)
      refine lv_iload_n C.1 C.2.1 dX3_copyFrom_55 rfl (lv_at hl 2 rfl) ?_
      obtain ⟨g_19, hE⟩ := gd_e hE
      refine y_lald C hW k_r_18 g_19 dX3_copyFrom_56 ?_
      obtain ⟨g_20, hE⟩ := gd_e hE
      obtain ⟨h_21, eh_21, hE⟩ := nm_e2 hE
      refine y_last C hW hZ k_r_17 g_20 eh_21 dX3_copyFrom_57 (fun _ _ hW km hZ => ?_)
      replace hkm := hkm.tr km
      replace k_x0 := km.at k_x0 (by decide)
      replace k_x1 := km.at k_x1 (by decide)
      refine lv_aload_n C.1 C.2.1 dX3_copyFrom_58 rfl (lv_at hl 0 rfl) ?_
      obtain ⟨r_22, er_22, hE⟩ := cl_e hE
      refine gf_X3_26 C hW k_x0 er_22 dX3_copyFrom_59 (fun k_r_22 => ?_)
      refine lv_iload_n C.1 C.2.1 dX3_copyFrom_62 rfl (lv_at hl 2 rfl) ?_
      refine lv_aload_n C.1 C.2.1 dX3_copyFrom_63 rfl (lv_at hl 1 rfl) ?_
      obtain ⟨r_23, er_23, hE⟩ := cl_e hE
      refine gf_X3_26 C hW k_x1 er_23 dX3_copyFrom_64 (fun k_r_23 => ?_)
      refine lv_iload_n C.1 C.2.1 dX3_copyFrom_67 rfl (lv_at hl 2 rfl) ?_
      obtain ⟨g_24, hE⟩ := gd_e hE
      refine y_iald C hW k_r_23 g_24 dX3_copyFrom_68 ?_
      obtain ⟨g_25, hE⟩ := gd_e hE
      obtain ⟨h_26, eh_26, hE⟩ := nm_e2 hE
      refine y_iast C hW hZ k_r_22 g_25 eh_26 dX3_copyFrom_69 (fun _ _ hW km hZ => ?_)
      replace hkm := hkm.tr km
      replace k_x0 := km.at k_x0 (by decide)
      replace k_x1 := km.at k_x1 (by decide)
      obtain ⟨v_27, ev_27, hE⟩ := nm_e2 hE
      refine lv_iinc (v := v_27) (lv' := [(2, .int v_27), (0, .ref x0), (1, .ref x1)]) C.1 C.2.1 dX3_copyFrom_70 hl (k := 2) rfl (by rw [ev_27]; rfl) (by decide) rfl (fun ls hl => ?_)
      refine lv_goto (tgt := 17) C.1 C.2.1 dX3_copyFrom_73 (by decide) ?_
      exact hk_17 _ _ _ _ _ _ k_x0 k_x1 hkm hW hZ _ (lv_sub hl [1, 2, 0] rfl) hE
set_option maxRecDepth 20000 in
theorem ct_X3_copyFrom (l : Launch) (X : Ec) (F : Nat) {h : Hp} {x0 : Nat} {x1 : Nat} {o : Hp} (k_x0 : hK h x0 = 3) (k_x1 : hK h x1 = 3) (hE : sX3_copyFrom F h x0 x1 = some o) : MetV l yX3_copyFrom cX3_copyFrom 3 none 1 64 X [.ref x0, .ref x1] h o := by
  refine x_met (by decide) (Nat.le_of_ble_eq_true rfl) ?_
  intro p e s m below meth c ls C hl hW hZ
  have hl : lv_has ls 3 [(0, .ref x0), (1, .ref x1)] := hl
  have hkm : Km h h := Km.rf h
  refine lv_aload_n C.1 C.2.1 dX3_copyFrom_0 rfl (lv_at hl 1 rfl) ?_
  obtain ⟨r_1, er_1, hE⟩ := cl_e hE
  refine gf_X3_9 C hW k_x1 er_1 dX3_copyFrom_1 (fun k_r_1 => ?_)
  refine lv_iconst (v := (0 : Int32)) C.1 C.2.1 dX3_copyFrom_4 (by decide) ?_
  refine lv_aload_n C.1 C.2.1 dX3_copyFrom_5 rfl (lv_at hl 0 rfl) ?_
  obtain ⟨r_2, er_2, hE⟩ := cl_e hE
  refine gf_X3_9 C hW k_x0 er_2 dX3_copyFrom_6 (fun k_r_2 => ?_)
  refine lv_iconst (v := (0 : Int32)) C.1 C.2.1 dX3_copyFrom_9 (by decide) ?_
  refine lv_bipush (v := (64 : Int32)) C.1 C.2.1 dX3_copyFrom_10 (by decide) ?_
  obtain ⟨g_3, hE⟩ := gd_e hE
  obtain ⟨g_4, hE⟩ := gd_e hE
  obtain ⟨g_5, hE⟩ := gd_e hE
  obtain ⟨g_6, hE⟩ := gd_e hE
  obtain ⟨g_7, hE⟩ := gd_e hE
  obtain ⟨g_8, hE⟩ := gd_e hE
  obtain ⟨h_9, eh_9, hE⟩ := nm_e2 hE
  refine y_cpyI (ty := .byte) C hW hZ hl.1 m_1233 m_1235 m_1234 m_23 k_r_1 k_r_2 (Or.inl ⟨rfl, rfl⟩) g_3 g_4 g_5 g_6 g_7 g_8 (Nat.le_of_ble_eq_true rfl) (Nat.le_of_ble_eq_true rfl) eh_9 dX3_copyFrom_12 (fun _ _ hW km hZ => ?_)
  replace hkm := hkm.tr km
  replace k_x0 := km.at k_x0 (by decide)
  replace k_x1 := km.at k_x1 (by decide)
  refine lv_iconst (v := (0 : Int32)) C.1 C.2.1 dX3_copyFrom_15 (by decide) ?_
  refine lv_istore_n (lv' := [(2, .int (0 : Int32)), (0, .ref x0), (1, .ref x1)]) C.1 C.2.1 dX3_copyFrom_16 rfl hl (by decide) rfl (fun ls hl => ?_)
  exact bX3_copyFrom_17 C F k_x0 k_x1 hkm hW hZ _ (lv_sub hl [1, 2, 0] rfl) hE
