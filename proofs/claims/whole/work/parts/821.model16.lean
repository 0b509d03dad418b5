section
variable {p : Program} {l : Launch} {e : Env} {R : Room} {s : State} {m : MethodId} {args : Array Value} {below : List Frame} {meth : Method} {c : Code} {H : Heap} {locs : List Loc} {cells slots : Nat} {Q : State → Prop}
variable {cc : ByteArray} {pc : Nat} {ls : Array Slot} {rest : List Value} {X : Ec} {h h1 : Hp} {nL : Nat} {rt : Option FieldType} {mn : String}
theorem gf_X15_298 {a r : Nat} (C : Cx X p s m args meth c RX15 cc nL rt mn) (hW : Wx X h H) (ha : hK h a = 15) (hr : hR h a 33 = some r) (hdg : decode cc pc = .ok (.getfield 298, 3)) (kk : hK h r = 21 → W p l e R s m args below meth c H locs cells slots Q (F0 m (pc + 3) ls (.ref r :: rest))) : W p l e R s m args below meth c H locs cells slots Q (F0 m pc ls (.ref a :: rest)) :=
  y_getr C hW ha i_X15 (by decide) rfl (by decide) m_2144 rfl rfl hr hdg kk
theorem gf_X15_301 {a r : Nat} (C : Cx X p s m args meth c RX15 cc nL rt mn) (hW : Wx X h H) (ha : hK h a = 15) (hr : hR h a 34 = some r) (hdg : decode cc pc = .ok (.getfield 301, 3)) (kk : hK h r = 22 → W p l e R s m args below meth c H locs cells slots Q (F0 m (pc + 3) ls (.ref r :: rest))) : W p l e R s m args below meth c H locs cells slots Q (F0 m pc ls (.ref a :: rest)) :=
  y_getr C hW ha i_X15 (by decide) rfl (by decide) m_2145 rfl rfl hr hdg kk
end
theorem dX15_deepBoard_0 : decode cX15_deepBoard 0 = .ok (.aload_n 0, 1) := by decide +kernel
theorem dX15_deepBoard_1 : decode cX15_deepBoard 1 = .ok (.getfield 298, 3) := by decide +kernel
theorem dX15_deepBoard_4 : decode cX15_deepBoard 4 = .ok (.iload_n 1, 1) := by decide +kernel
theorem dX15_deepBoard_5 : decode cX15_deepBoard 5 = .ok (.aaload, 1) := by decide +kernel
theorem dX15_deepBoard_6 : decode cX15_deepBoard 6 = .ok (.ifnonnull 29, 3) := by decide +kernel
theorem dX15_deepBoard_9 : decode cX15_deepBoard 9 = .ok (.aload_n 0, 1) := by decide +kernel
theorem dX15_deepBoard_10 : decode cX15_deepBoard 10 = .ok (.getfield 298, 3) := by decide +kernel
theorem dX15_deepBoard_13 : decode cX15_deepBoard 13 = .ok (.iload_n 1, 1) := by decide +kernel
theorem dX15_deepBoard_14 : decode cX15_deepBoard 14 = .ok (.new 255, 3) := by decide +kernel
theorem dX15_deepBoard_17 : decode cX15_deepBoard 17 = .ok (.dup, 1) := by decide +kernel
theorem dX15_deepBoard_18 : decode cX15_deepBoard 18 = .ok (.invokespecial 264, 3) := by decide +kernel
theorem dX15_deepBoard_21 : decode cX15_deepBoard 21 = .ok (.aastore, 1) := by decide +kernel
theorem dX15_deepBoard_22 : decode cX15_deepBoard 22 = .ok (.aload_n 0, 1) := by decide +kernel
theorem dX15_deepBoard_23 : decode cX15_deepBoard 23 = .ok (.getfield 301, 3) := by decide +kernel
theorem dX15_deepBoard_26 : decode cX15_deepBoard 26 = .ok (.iload_n 1, 1) := by decide +kernel
theorem dX15_deepBoard_27 : decode cX15_deepBoard 27 = .ok (.new 285, 3) := by decide +kernel
theorem dX15_deepBoard_30 : decode cX15_deepBoard 30 = .ok (.dup, 1) := by decide +kernel
theorem dX15_deepBoard_31 : decode cX15_deepBoard 31 = .ok (.invokespecial 287, 3) := by decide +kernel
theorem dX15_deepBoard_34 : decode cX15_deepBoard 34 = .ok (.aastore, 1) := by decide +kernel
theorem dX15_deepBoard_35 : decode cX15_deepBoard 35 = .ok (.aload_n 0, 1) := by decide +kernel
theorem dX15_deepBoard_36 : decode cX15_deepBoard 36 = .ok (.getfield 298, 3) := by decide +kernel
theorem dX15_deepBoard_39 : decode cX15_deepBoard 39 = .ok (.iload_n 1, 1) := by decide +kernel
theorem dX15_deepBoard_40 : decode cX15_deepBoard 40 = .ok (.aaload, 1) := by decide +kernel
theorem dX15_deepBoard_41 : decode cX15_deepBoard 41 = .ok (.areturn, 1) := by decide +kernel
set_option maxRecDepth 20000 in
theorem moX15_deepBoard_35 {o : Nat × Hp} {h : Hp} {x0 : Nat} {x1 : Int32} (hE : sX15_deepBoard_35 h x0 x1 = some o) : Le h o.2 := by
  obtain ⟨r_1, er_1, hE⟩ := cl_e hE
  obtain ⟨g_2, hE⟩ := gd_e hE
  obtain ⟨r_3, er_3, hE⟩ := cl_e hE
  exact le_some2 hE
set_option maxRecDepth 20000 in
theorem moX15_deepBoard_34 {o : Nat × Hp} {h : Hp} {x0 : Nat} {x1 : Int32} {t0 : Nat} {t1 : Int32} {t2 : Nat} (hE : sX15_deepBoard_34 h x0 x1 t0 t1 t2 = some o) : Le h o.2 := by
  obtain ⟨g_1, hE⟩ := gd_e hE
  obtain ⟨h_2, eh_2, hE⟩ := nm_e2 hE
  refine (le_R eh_2).tr ?_
  exact moX15_deepBoard_35 hE
set_option maxRecDepth 20000 in
theorem moX15_deepBoard_30 {o : Nat × Hp} {h : Hp} {x0 : Nat} {x1 : Int32} {t0 : Nat} {t1 : Int32} {t2 : Nat} (hE : sX15_deepBoard_30 h x0 x1 t0 t1 t2 = some o) : Le h o.2 := by
  obtain ⟨o_1, eo_1, hE⟩ := cl_e hE
  refine (moX13_init eo_1).tr ?_
  exact moX15_deepBoard_34 hE
set_option maxRecDepth 20000 in
theorem moX15_deepBoard_21 {o : Nat × Hp} {h : Hp} {x0 : Nat} {x1 : Int32} {t0 : Nat} {t1 : Int32} {t2 : Nat} (hE : sX15_deepBoard_21 h x0 x1 t0 t1 t2 = some o) : Le h o.2 := by
  obtain ⟨g_1, hE⟩ := gd_e hE
  obtain ⟨h_2, eh_2, hE⟩ := nm_e2 hE
  refine (le_R eh_2).tr ?_
  obtain ⟨r_3, er_3, hE⟩ := cl_e hE
  obtain ⟨a_4, ea_4, hE⟩ := nm_e2 hE
  obtain ⟨h_5, eh_5, hE⟩ := nm_e2 hE
  refine (le_C eh_5).tr ?_
  exact moX15_deepBoard_30 hE
set_option maxRecDepth 20000 in
theorem moX15_deepBoard_17 {o : Nat × Hp} {h : Hp} {x0 : Nat} {x1 : Int32} {t0 : Nat} {t1 : Int32} {t2 : Nat} (hE : sX15_deepBoard_17 h x0 x1 t0 t1 t2 = some o) : Le h o.2 := by
  obtain ⟨o_1, eo_1, hE⟩ := cl_e hE
  refine (moX12_init eo_1).tr ?_
  exact moX15_deepBoard_21 hE
set_option maxRecDepth 20000 in
theorem moX15_deepBoard {o : Nat × Hp} {h : Hp} {x0 : Nat} {x1 : Int32} (hE : sX15_deepBoard h x0 x1 = some o) : Le h o.2 := by
  obtain ⟨r_1, er_1, hE⟩ := cl_e hE
  obtain ⟨g_2, hE⟩ := gd_e hE
  rcases onr_e hE with hE | ⟨r_3, hE⟩
  · obtain ⟨r_5, er_5, hE⟩ := cl_e hE
    obtain ⟨a_6, ea_6, hE⟩ := nm_e2 hE
    obtain ⟨h_7, eh_7, hE⟩ := nm_e2 hE
    refine (le_C eh_7).tr ?_
    exact moX15_deepBoard_17 hE
  · exact moX15_deepBoard_35 hE
set_option maxRecDepth 20000 in
theorem bX15_deepBoard_35 {p : Program} {l : Launch} {e : Env} {s : State} {m : MethodId} {args : Array Value} {below : List Frame} {meth : Method} {c : Code} {X : Ec} {h0 : Hp} {o : Nat × Hp} (C : Cx X p s m args meth c RX15 cX15_deepBoard 2 (some (.object "GameRulesModel$Board")) "deepBoard") {h : Hp} {x0 : Nat} {x1 : Int32} {H : Heap} {locs : List Loc} (k_x0 : hK h x0 = 15) (hkl : Kl h0 h) (hW : Wx X h H) (hZ : va_S (aA (eB X)) s.heap H locs) (ls : Array Slot) (hl : lv_has ls 2 [(0, .ref x0), (1, .int x1)]) (hE : sX15_deepBoard_35 h x0 x1 = some o) : W p l e (rmA 2 40 h0 o.2) s m args below meth c H locs (hS h - hS h0) (hL h - hL h0) (MQ below (QRA X 12 h0 o.1 o.2) args s (hS o.2 - hS h0) (hL o.2 - hL h0) (aA (eB X))) (F0 m 35 ls []) := by
  refine lv_aload_n C.1 C.2.1 dX15_deepBoard_35 rfl (lv_at hl 0 rfl) ?_
  obtain ⟨r_1, er_1, hE⟩ := cl_e hE
  refine gf_X15_298 C hW k_x0 er_1 dX15_deepBoard_36 (fun k_r_1 => ?_)
  refine lv_iload_n C.1 C.2.1 dX15_deepBoard_39 rfl (lv_at hl 1 rfl) ?_
  obtain ⟨g_2, hE⟩ := gd_e hE
  obtain ⟨r_3, er_3, hE⟩ := cl_e hE
  refine y_aald (t0 := 5) C hW k_r_1 (by decide) (by decide) rfl rfl rfl (fun _ => rfl) g_2 er_3 dX15_deepBoard_40 (fun k_r_3 => ?_)
  exact x_aretA C rfl (by first | exact Or.inl ⟨_, rfl⟩ | exact Or.inr ⟨_, rfl⟩) hW hZ hkl k_r_3 hE dX15_deepBoard_41
set_option maxRecDepth 20000 in
theorem bX15_deepBoard_34 {p : Program} {l : Launch} {e : Env} {s : State} {m : MethodId} {args : Array Value} {below : List Frame} {meth : Method} {c : Code} {X : Ec} {h0 : Hp} {o : Nat × Hp} (C : Cx X p s m args meth c RX15 cX15_deepBoard 2 (some (.object "GameRulesModel$Board")) "deepBoard") {h : Hp} {x0 : Nat} {x1 : Int32} {t0 : Nat} {t1 : Int32} {t2 : Nat} {H : Heap} {locs : List Loc} (k_x0 : hK h x0 = 15) (k_t0 : hK h t0 = 13) (k_t2 : hK h t2 = 22) (hkl : Kl h0 h) (hW : Wx X h H) (hZ : va_S (aA (eB X)) s.heap H locs) (ls : Array Slot) (hl : lv_has ls 2 [(0, .ref x0), (1, .int x1)]) (hE : sX15_deepBoard_34 h x0 x1 t0 t1 t2 = some o) : W p l e (rmA 2 40 h0 o.2) s m args below meth c H locs (hS h - hS h0) (hL h - hL h0) (MQ below (QRA X 12 h0 o.1 o.2) args s (hS o.2 - hS h0) (hL o.2 - hL h0) (aA (eB X))) (F0 m 34 ls [.ref t0, .int t1, .ref t2]) := by
  obtain ⟨g_1, hE⟩ := gd_e hE
  obtain ⟨h_2, eh_2, hE⟩ := nm_e2 hE
  refine y_aast (t0 := 6) C hW hZ k_t2 (by decide) (by decide) rfl k_t0 (by decide) rfl (fun _ => rfl) g_1 eh_2 dX15_deepBoard_34 (fun _ _ hW km hZ => ?_)
  replace hkl := hkl.tr km.l
  refine x_wc km ?_
  replace k_x0 := km.at k_x0 (by decide)
  exact bX15_deepBoard_35 C k_x0 hkl hW hZ _ (lv_sub hl [0, 1] rfl) hE
set_option maxRecDepth 20000 in
theorem bX15_deepBoard_30 {p : Program} {l : Launch} {e : Env} {s : State} {m : MethodId} {args : Array Value} {below : List Frame} {meth : Method} {c : Code} {X : Ec} {h0 : Hp} {o : Nat × Hp} (C : Cx X p s m args meth c RX15 cX15_deepBoard 2 (some (.object "GameRulesModel$Board")) "deepBoard") {h : Hp} {x0 : Nat} {x1 : Int32} {t0 : Nat} {t1 : Int32} {t2 : Nat} {H : Heap} {locs : List Loc} (k_x0 : hK h x0 = 15) (k_t0 : hK h t0 = 13) (k_t2 : hK h t2 = 22) (hkl : Kl h0 h) (hW : Wx X h H) (hZ : va_S (aA (eB X)) s.heap H locs) (ls : Array Slot) (hl : lv_has ls 2 [(0, .ref x0), (1, .int x1)]) (hE : sX15_deepBoard_30 h x0 x1 t0 t1 t2 = some o) : W p l e (rmA 2 40 h0 o.2) s m args below meth c H locs (hS h - hS h0) (hL h - hL h0) (MQ below (QRA X 12 h0 o.1 o.2) args s (hS o.2 - hS h0) (hL o.2 - hL h0) (aA (eB X))) (F0 m 30 ls [.ref t0, .int t1, .ref t2]) := by
  refine lv_dup C.1 C.2.1 dX15_deepBoard_30 rfl ?_
  obtain ⟨o_1, eo_1, hE⟩ := cl_e hE
  have m1 := moX13_init eo_1
  have m2 := moX15_deepBoard_34 hE
  refine x_kVA (o := o_1) hkl (z_runIN (As := []) (rest := [.ref t0, .int t1, .ref t2]) C (ct_X13_init l X k_t0 eo_1) cj_X15_287 hW hZ rfl hl.1 (Nat.le_of_ble_eq_true rfl) rfl dX15_deepBoard_31 ⟨Nat.le_of_ble_eq_true rfl, Nat.le_of_ble_eq_true rfl⟩ (rm_ok hkl m1 m2)) hZ (fun _ _ hW km hZ => ?_)
  replace hkl := hkl.tr km
  replace k_x0 := km.at k_x0 (by decide)
  replace k_t0 := km.at k_t0 (by decide)
  replace k_t2 := km.at k_t2 (by decide)
  exact bX15_deepBoard_34 C k_x0 k_t0 k_t2 hkl hW hZ _ (lv_sub hl [0, 1] rfl) hE
set_option maxRecDepth 20000 in
theorem bX15_deepBoard_21 {p : Program} {l : Launch} {e : Env} {s : State} {m : MethodId} {args : Array Value} {below : List Frame} {meth : Method} {c : Code} {X : Ec} {h0 : Hp} {o : Nat × Hp} (C : Cx X p s m args meth c RX15 cX15_deepBoard 2 (some (.object "GameRulesModel$Board")) "deepBoard") {h : Hp} {x0 : Nat} {x1 : Int32} {t0 : Nat} {t1 : Int32} {t2 : Nat} {H : Heap} {locs : List Loc} (k_x0 : hK h x0 = 15) (k_t0 : hK h t0 = 12) (k_t2 : hK h t2 = 21) (hkl : Kl h0 h) (hW : Wx X h H) (hZ : va_S (aA (eB X)) s.heap H locs) (ls : Array Slot) (hl : lv_has ls 2 [(0, .ref x0), (1, .int x1)]) (hE : sX15_deepBoard_21 h x0 x1 t0 t1 t2 = some o) : W p l e (rmA 2 40 h0 o.2) s m args below meth c H locs (hS h - hS h0) (hL h - hL h0) (MQ below (QRA X 12 h0 o.1 o.2) args s (hS o.2 - hS h0) (hL o.2 - hL h0) (aA (eB X))) (F0 m 21 ls [.ref t0, .int t1, .ref t2]) := by
  obtain ⟨g_1, hE⟩ := gd_e hE
  obtain ⟨h_2, eh_2, hE⟩ := nm_e2 hE
  refine y_aast (t0 := 5) C hW hZ k_t2 (by decide) (by decide) rfl k_t0 (by decide) rfl (fun _ => rfl) g_1 eh_2 dX15_deepBoard_21 (fun _ _ hW km hZ => ?_)
  replace hkl := hkl.tr km.l
  refine x_wc km ?_
  replace k_x0 := km.at k_x0 (by decide)
  refine lv_aload_n C.1 C.2.1 dX15_deepBoard_22 rfl (lv_at hl 0 rfl) ?_
  obtain ⟨r_3, er_3, hE⟩ := cl_e hE
  refine gf_X15_301 C hW k_x0 er_3 dX15_deepBoard_23 (fun k_r_3 => ?_)
  refine lv_iload_n C.1 C.2.1 dX15_deepBoard_26 rfl (lv_at hl 1 rfl) ?_
  obtain ⟨a_4, ea_4, hE⟩ := nm_e2 hE
  obtain ⟨h_5, eh_5, hE⟩ := nm_e2 hE
  refine y_new C hW hZ hkl (moX15_deepBoard_30 hE) ⟨rfl, rfl⟩ i_X13 tyX13 tyX13_ok (by decide) rfl rfl dv_X13 m_1941 m_1942 m_22 eh_5 dX15_deepBoard_27 (fun _ hW km k_a_4 hZ => ?_)
  replace hkl := hkl.tr km
  refine x_nmA ea_4 ?_
  rw [← ea_4] at k_a_4
  replace k_x0 := km.at k_x0 (by decide)
  replace k_r_3 := km.at k_r_3 (by decide)
  exact bX15_deepBoard_30 C k_x0 k_a_4 k_r_3 hkl hW hZ _ (lv_sub hl [0, 1] rfl) hE
set_option maxRecDepth 20000 in
theorem bX15_deepBoard_17 {p : Program} {l : Launch} {e : Env} {s : State} {m : MethodId} {args : Array Value} {below : List Frame} {meth : Method} {c : Code} {X : Ec} {h0 : Hp} {o : Nat × Hp} (C : Cx X p s m args meth c RX15 cX15_deepBoard 2 (some (.object "GameRulesModel$Board")) "deepBoard") {h : Hp} {x0 : Nat} {x1 : Int32} {t0 : Nat} {t1 : Int32} {t2 : Nat} {H : Heap} {locs : List Loc} (k_x0 : hK h x0 = 15) (k_t0 : hK h t0 = 12) (k_t2 : hK h t2 = 21) (hkl : Kl h0 h) (hW : Wx X h H) (hZ : va_S (aA (eB X)) s.heap H locs) (ls : Array Slot) (hl : lv_has ls 2 [(0, .ref x0), (1, .int x1)]) (hE : sX15_deepBoard_17 h x0 x1 t0 t1 t2 = some o) : W p l e (rmA 2 40 h0 o.2) s m args below meth c H locs (hS h - hS h0) (hL h - hL h0) (MQ below (QRA X 12 h0 o.1 o.2) args s (hS o.2 - hS h0) (hL o.2 - hL h0) (aA (eB X))) (F0 m 17 ls [.ref t0, .int t1, .ref t2]) := by
  refine lv_dup C.1 C.2.1 dX15_deepBoard_17 rfl ?_
  obtain ⟨o_1, eo_1, hE⟩ := cl_e hE
  have m1 := moX12_init eo_1
  have m2 := moX15_deepBoard_21 hE
  refine x_kVA (o := o_1) hkl (z_runIN (As := []) (rest := [.ref t0, .int t1, .ref t2]) C (ct_X12_init l X k_t0 eo_1) cj_X15_264 hW hZ rfl hl.1 (Nat.le_of_ble_eq_true rfl) rfl dX15_deepBoard_18 ⟨Nat.le_of_ble_eq_true rfl, Nat.le_of_ble_eq_true rfl⟩ (rm_ok hkl m1 m2)) hZ (fun _ _ hW km hZ => ?_)
  replace hkl := hkl.tr km
  replace k_x0 := km.at k_x0 (by decide)
  replace k_t0 := km.at k_t0 (by decide)
  replace k_t2 := km.at k_t2 (by decide)
  exact bX15_deepBoard_21 C k_x0 k_t0 k_t2 hkl hW hZ _ (lv_sub hl [0, 1] rfl) hE
set_option maxRecDepth 20000 in
theorem ct_X15_deepBoard (l : Launch) (X : Ec) {h : Hp} {x0 : Nat} {x1 : Int32} {o : Nat × Hp} (k_x0 : hK h x0 = 15) (hE : sX15_deepBoard h x0 x1 = some o) : MetRA 12 l yX15_deepBoard cX15_deepBoard 2 (some (.object "GameRulesModel$Board")) 2 40 X [.ref x0, .int x1] h o := by
  refine x_metA (oh := o.2) (by decide) (Nat.le_of_ble_eq_true rfl) ?_
  intro p e s m below meth c ls C hl hW hZ
  have hl : lv_has ls 2 [(0, .ref x0), (1, .int x1)] := hl
  have hkl : Kl h h := Kl.rf h
  refine lv_aload_n C.1 C.2.1 dX15_deepBoard_0 rfl (lv_at hl 0 rfl) ?_
  obtain ⟨r_1, er_1, hE⟩ := cl_e hE
  refine gf_X15_298 C hW k_x0 er_1 dX15_deepBoard_1 (fun k_r_1 => ?_)
  refine lv_iload_n C.1 C.2.1 dX15_deepBoard_4 rfl (lv_at hl 1 rfl) ?_
  obtain ⟨g_2, hE⟩ := gd_e hE
  rcases e_4 : hR h r_1 x1.toNatClampNeg with _ | r_3
  · have hE := onr_n hE e_4
    refine y_aald0 (t0 := 5) C hW k_r_1 (by decide) (by decide) rfl rfl g_2 e_4 dX15_deepBoard_5 ?_
    refine lv_ifnonnullN C.1 C.2.1 dX15_deepBoard_6 ?_
    refine lv_aload_n C.1 C.2.1 dX15_deepBoard_9 rfl (lv_at hl 0 rfl) ?_
    obtain ⟨r_5, er_5, hE⟩ := cl_e hE
    refine gf_X15_298 C hW k_x0 er_5 dX15_deepBoard_10 (fun k_r_5 => ?_)
    refine lv_iload_n C.1 C.2.1 dX15_deepBoard_13 rfl (lv_at hl 1 rfl) ?_
    obtain ⟨a_6, ea_6, hE⟩ := nm_e2 hE
    obtain ⟨h_7, eh_7, hE⟩ := nm_e2 hE
    refine y_new C hW hZ hkl (moX15_deepBoard_17 hE) ⟨rfl, rfl⟩ i_X12 tyX12 tyX12_ok (by decide) rfl rfl dv_X12 m_1901 m_1903 m_21 eh_7 dX15_deepBoard_14 (fun _ hW km k_a_6 hZ => ?_)
    replace hkl := hkl.tr km
    refine x_nmA ea_6 ?_
    rw [← ea_6] at k_a_6
    replace k_x0 := km.at k_x0 (by decide)
    replace k_r_5 := km.at k_r_5 (by decide)
    exact bX15_deepBoard_17 C k_x0 k_a_6 k_r_5 hkl hW hZ _ (lv_sub hl [0, 1] rfl) hE
  · have hE := onr_s hE e_4
    refine y_aald (t0 := 5) C hW k_r_1 (by decide) (by decide) rfl rfl rfl (fun _ => rfl) g_2 e_4 dX15_deepBoard_5 (fun k_r_3 => ?_)
    refine lv_ifnonnull (tgt := 35) C.1 C.2.1 dX15_deepBoard_6 (by decide) ?_
    exact bX15_deepBoard_35 C k_x0 hkl hW hZ _ (lv_sub hl [0, 1] rfl) hE
section
variable {p : Program} {l : Launch} {e : Env} {R : Room} {s : State} {m : MethodId} {args : Array Value} {below : List Frame} {meth : Method} {c : Code} {H : Heap} {locs : List Loc} {cells slots : Nat} {Q : State → Prop}
variable {cc : ByteArray} {pc : Nat} {ls : Array Slot} {rest : List Value} {X : Ec} {h h1 : Hp} {nL : Nat} {rt : Option FieldType} {mn : String}
theorem gf_X15_242 {a : Nat} (C : Cx X p s m args meth c RX15 cc nL rt mn) (hW : Wx X h H) (ha : hK h a = 14) (hdg : decode cc pc = .ok (.getfield 242, 3)) (kk : W p l e R s m args below meth c H locs cells slots Q (F0 m (pc + 3) ls (.int (hI h a 22) :: rest))) : W p l e R s m args below meth c H locs cells slots Q (F0 m pc ls (.ref a :: rest)) :=
  y_getiN C hW ha i_X14 (by decide) rfl (by decide) n_1849 rfl hdg kk
end
theorem dX15_endedBy_0 : decode cX15_endedBy 0 = .ok (.aload_n 0, 1) := by decide +kernel
theorem dX15_endedBy_1 : decode cX15_endedBy 1 = .ok (.aload_n 1, 1) := by decide +kernel
theorem dX15_endedBy_2 : decode cX15_endedBy 2 = .ok (.invokevirtual 631, 3) := by decide +kernel
theorem dX15_endedBy_5 : decode cX15_endedBy 5 = .ok (.istore_n 3, 1) := by decide +kernel
theorem dX15_endedBy_6 : decode cX15_endedBy 6 = .ok (.iload_n 3, 1) := by decide +kernel
theorem dX15_endedBy_7 : decode cX15_endedBy 7 = .ok (.ifCond .gt 7, 3) := by decide +kernel
theorem dX15_endedBy_10 : decode cX15_endedBy 10 = .ok (.iload_n 2, 1) := by decide +kernel
theorem dX15_endedBy_11 : decode cX15_endedBy 11 = .ok (.ifCond .le 5, 3) := by decide +kernel
theorem dX15_endedBy_14 : decode cX15_endedBy 14 = .ok (.iload_n 3, 1) := by decide +kernel
theorem dX15_endedBy_15 : decode cX15_endedBy 15 = .ok (.ireturn, 1) := by decide +kernel
theorem dX15_endedBy_16 : decode cX15_endedBy 16 = .ok (.aload_n 0, 1) := by decide +kernel
theorem dX15_endedBy_17 : decode cX15_endedBy 17 = .ok (.aload_n 1, 1) := by decide +kernel
theorem dX15_endedBy_18 : decode cX15_endedBy 18 = .ok (.aload_n 1, 1) := by decide +kernel
theorem dX15_endedBy_19 : decode cX15_endedBy 19 = .ok (.getfield 452, 3) := by decide +kernel
theorem dX15_endedBy_22 : decode cX15_endedBy 22 = .ok (.invokevirtual 508, 3) := by decide +kernel
theorem dX15_endedBy_25 : decode cX15_endedBy 25 = .ok (.istore 4, 2) := by decide +kernel
theorem dX15_endedBy_27 : decode cX15_endedBy 27 = .ok (.iload 4, 2) := by decide +kernel
theorem dX15_endedBy_29 : decode cX15_endedBy 29 = .ok (.iconst (-1), 1) := by decide +kernel
theorem dX15_endedBy_30 : decode cX15_endedBy 30 = .ok (.if_icmp .eq 31, 3) := by decide +kernel
theorem dX15_endedBy_33 : decode cX15_endedBy 33 = .ok (.aload_n 0, 1) := by decide +kernel
theorem dX15_endedBy_34 : decode cX15_endedBy 34 = .ok (.aload_n 1, 1) := by decide +kernel
theorem dX15_endedBy_35 : decode cX15_endedBy 35 = .ok (.iload 4, 2) := by decide +kernel
theorem dX15_endedBy_37 : decode cX15_endedBy 37 = .ok (.iconst 1, 1) := by decide +kernel
theorem dX15_endedBy_38 : decode cX15_endedBy 38 = .ok (.aload_n 1, 1) := by decide +kernel
theorem dX15_endedBy_39 : decode cX15_endedBy 39 = .ok (.getfield 452, 3) := by decide +kernel
theorem dX15_endedBy_42 : decode cX15_endedBy 42 = .ok (.isub, 1) := by decide +kernel
theorem dX15_endedBy_43 : decode cX15_endedBy 43 = .ok (.invokevirtual 512, 3) := by decide +kernel
theorem dX15_endedBy_46 : decode cX15_endedBy 46 = .ok (.ifCond .eq 15, 3) := by decide +kernel
theorem dX15_endedBy_49 : decode cX15_endedBy 49 = .ok (.aload_n 0, 1) := by decide +kernel
theorem dX15_endedBy_50 : decode cX15_endedBy 50 = .ok (.iconst 1, 1) := by decide +kernel
theorem dX15_endedBy_51 : decode cX15_endedBy 51 = .ok (.aload_n 1, 1) := by decide +kernel
theorem dX15_endedBy_52 : decode cX15_endedBy 52 = .ok (.getfield 452, 3) := by decide +kernel
theorem dX15_endedBy_55 : decode cX15_endedBy 55 = .ok (.isub, 1) := by decide +kernel
theorem dX15_endedBy_56 : decode cX15_endedBy 56 = .ok (.putfield 646, 3) := by decide +kernel
theorem dX15_endedBy_59 : decode cX15_endedBy 59 = .ok (.iconst 5, 1) := by decide +kernel
theorem dX15_endedBy_60 : decode cX15_endedBy 60 = .ok (.ireturn, 1) := by decide +kernel
theorem dX15_endedBy_61 : decode cX15_endedBy 61 = .ok (.aload_n 0, 1) := by decide +kernel
theorem dX15_endedBy_62 : decode cX15_endedBy 62 = .ok (.aload_n 0, 1) := by decide +kernel
theorem dX15_endedBy_63 : decode cX15_endedBy 63 = .ok (.getfield 252, 3) := by decide +kernel
theorem dX15_endedBy_66 : decode cX15_endedBy 66 = .ok (.getfield 242, 3) := by decide +kernel
theorem dX15_endedBy_69 : decode cX15_endedBy 69 = .ok (.ifCond .ne 7, 3) := by decide +kernel
theorem dX15_endedBy_72 : decode cX15_endedBy 72 = .ok (.iconst 2, 1) := by decide +kernel
theorem dX15_endedBy_73 : decode cX15_endedBy 73 = .ok (.goto 27, 3) := by decide +kernel
theorem dX15_endedBy_76 : decode cX15_endedBy 76 = .ok (.aload_n 0, 1) := by decide +kernel
theorem dX15_endedBy_77 : decode cX15_endedBy 77 = .ok (.getfield 252, 3) := by decide +kernel
theorem dX15_endedBy_80 : decode cX15_endedBy 80 = .ok (.getfield 242, 3) := by decide +kernel
theorem dX15_endedBy_83 : decode cX15_endedBy 83 = .ok (.iconst 1, 1) := by decide +kernel
theorem dX15_endedBy_84 : decode cX15_endedBy 84 = .ok (.if_icmp .ne 10, 3) := by decide +kernel
theorem dX15_endedBy_87 : decode cX15_endedBy 87 = .ok (.aload_n 1, 1) := by decide +kernel
theorem dX15_endedBy_88 : decode cX15_endedBy 88 = .ok (.getfield 452, 3) := by decide +kernel
theorem dX15_endedBy_91 : decode cX15_endedBy 91 = .ok (.goto 9, 3) := by decide +kernel
theorem dX15_endedBy_94 : decode cX15_endedBy 94 = .ok (.iconst 1, 1) := by decide +kernel
theorem dX15_endedBy_95 : decode cX15_endedBy 95 = .ok (.aload_n 1, 1) := by decide +kernel
theorem dX15_endedBy_96 : decode cX15_endedBy 96 = .ok (.getfield 452, 3) := by decide +kernel
theorem dX15_endedBy_99 : decode cX15_endedBy 99 = .ok (.isub, 1) := by decide +kernel
theorem dX15_endedBy_100 : decode cX15_endedBy 100 = .ok (.putfield 646, 3) := by decide +kernel
theorem dX15_endedBy_103 : decode cX15_endedBy 103 = .ok (.bipush 6, 2) := by decide +kernel
theorem dX15_endedBy_105 : decode cX15_endedBy 105 = .ok (.ireturn, 1) := by decide +kernel
set_option maxRecDepth 20000 in
theorem moX15_endedBy_14 {o : Int32 × Hp} {F : Nat} {h : Hp} {x3 : Int32} (hE : sX15_endedBy_14 F h x3 = some o) : Le h o.2 := by
  exact le_some2 hE
set_option maxRecDepth 20000 in
theorem moX15_endedBy_100 {o : Int32 × Hp} {F : Nat} {h : Hp} {t0 : Int32} {t1 : Nat} (hE : sX15_endedBy_100 F h  t0 t1 = some o) : Le h o.2 := by
  obtain ⟨h_1, eh_1, hE⟩ := nm_e2 hE
  refine (le_I eh_1).tr ?_
  exact le_some2 hE
set_option maxRecDepth 20000 in
theorem moX15_endedBy_61 {o : Int32 × Hp} {F : Nat} {h : Hp} {x0 : Nat} {x1 : Nat} (hE : sX15_endedBy_61 F h x0 x1 = some o) : Le h o.2 := by
  obtain ⟨r_1, er_1, hE⟩ := cl_e hE
  rcases br_e hE with ⟨_, hE⟩ | ⟨_, hE⟩
  · exact moX15_endedBy_100 hE
  · obtain ⟨r_3, er_3, hE⟩ := cl_e hE
    rcases br_e hE with ⟨_, hE⟩ | ⟨_, hE⟩
    · exact moX15_endedBy_100 hE
    · exact moX15_endedBy_100 hE
set_option maxRecDepth 20000 in
theorem moX15_endedBy {o : Int32 × Hp} {F : Nat} {h : Hp} {x0 : Nat} {x1 : Nat} {x2 : Int32} (hE : sX15_endedBy F h x0 x1 x2 = some o) : Le h o.2 := by
  obtain ⟨o_1, eo_1, hE⟩ := cl_e hE
  refine (moX15_early eo_1).tr ?_
  rcases br_e hE with ⟨_, hE⟩ | ⟨_, hE⟩
  · exact moX15_endedBy_14 hE
  · rcases br_e hE with ⟨_, hE⟩ | ⟨_, hE⟩
    · obtain ⟨o_4, eo_4, hE⟩ := cl_e hE
      refine (moX15_royalOf eo_4).tr ?_
      rcases br_e hE with ⟨_, hE⟩ | ⟨_, hE⟩
      · exact moX15_endedBy_61 hE
      · obtain ⟨o_6, eo_6, hE⟩ := cl_e hE
        refine (moX15_isAttacked eo_6).tr ?_
        rcases br_e hE with ⟨_, hE⟩ | ⟨_, hE⟩
        · exact moX15_endedBy_61 hE
        · obtain ⟨h_8, eh_8, hE⟩ := nm_e2 hE
          refine (le_I eh_8).tr ?_
          exact le_some2 hE
    · exact moX15_endedBy_14 hE
set_option maxRecDepth 20000 in
theorem bX15_endedBy_14 {p : Program} {l : Launch} {e : Env} {s : State} {m : MethodId} {args : Array Value} {below : List Frame} {meth : Method} {c : Code} {X : Ec} {h0 : Hp} {o : Int32 × Hp} {F : Nat} (C : Cx X p s m args meth c RX15 cX15_endedBy 5 (some .int) "endedBy") {h : Hp} {x3 : Int32} {H : Heap} {locs : List Loc} (hkm : Km h0 h) (hW : Wx X h H) (hZ : va_S (aA (eB X)) s.heap H locs) (ls : Array Slot) (hl : lv_has ls 5 [(3, .int x3)]) (hE : sX15_endedBy_14 F h x3 = some o) : W p l e (rm 4 106) s m args below meth c H locs 0 0 (MQ below (QI X h0 o.1 o.2) args s 0 0 (aA (eB X))) (F0 m 14 ls []) := by
  refine lv_iload_n C.1 C.2.1 dX15_endedBy_14 rfl (lv_at hl 0 rfl) ?_
  exact x_iret C rfl rfl hW hZ hkm hE dX15_endedBy_15
set_option maxRecDepth 20000 in
theorem bX15_endedBy_100 {p : Program} {l : Launch} {e : Env} {s : State} {m : MethodId} {args : Array Value} {below : List Frame} {meth : Method} {c : Code} {X : Ec} {h0 : Hp} {o : Int32 × Hp} {F : Nat} (C : Cx X p s m args meth c RX15 cX15_endedBy 5 (some .int) "endedBy") {h : Hp} {t0 : Int32} {t1 : Nat} {H : Heap} {locs : List Loc} (k_t1 : hK h t1 = 15) (hkm : Km h0 h) (hW : Wx X h H) (hZ : va_S (aA (eB X)) s.heap H locs) (ls : Array Slot) (hl : lv_has ls 5 []) (hE : sX15_endedBy_100 F h  t0 t1 = some o) : W p l e (rm 4 106) s m args below meth c H locs 0 0 (MQ below (QI X h0 o.1 o.2) args s 0 0 (aA (eB X))) (F0 m 100 ls [.int t0, .ref t1]) := by
  obtain ⟨h_1, eh_1, hE⟩ := nm_e2 hE
  refine pf_X15_646 C hW hZ k_t1 eh_1 dX15_endedBy_100 (fun _ _ hW km hZ => ?_)
  replace hkm := hkm.tr km
  refine lv_bipush (v := (6 : Int32)) C.1 C.2.1 dX15_endedBy_103 (by decide) ?_
  exact x_iret C rfl rfl hW hZ hkm hE dX15_endedBy_105
set_option maxRecDepth 20000 in
theorem bX15_endedBy_61 {p : Program} {l : Launch} {e : Env} {s : State} {m : MethodId} {args : Array Value} {below : List Frame} {meth : Method} {c : Code} {X : Ec} {h0 : Hp} {o : Int32 × Hp} {F : Nat} (C : Cx X p s m args meth c RX15 cX15_endedBy 5 (some .int) "endedBy") {h : Hp} {x0 : Nat} {x1 : Nat} {H : Heap} {locs : List Loc} (k_x0 : hK h x0 = 15) (k_x1 : hK h x1 = 12) (hkm : Km h0 h) (hW : Wx X h H) (hZ : va_S (aA (eB X)) s.heap H locs) (ls : Array Slot) (hl : lv_has ls 5 [(0, .ref x0), (1, .ref x1)]) (hE : sX15_endedBy_61 F h x0 x1 = some o) : W p l e (rm 4 106) s m args below meth c H locs 0 0 (MQ below (QI X h0 o.1 o.2) args s 0 0 (aA (eB X))) (F0 m 61 ls []) := by
  refine lv_aload_n C.1 C.2.1 dX15_endedBy_61 rfl (lv_at hl 0 rfl) ?_
  refine lv_aload_n C.1 C.2.1 dX15_endedBy_62 rfl (lv_at hl 0 rfl) ?_
  obtain ⟨r_1, er_1, hE⟩ := cl_e hE
  refine gf_X15_252 C hW k_x0 er_1 dX15_endedBy_63 (fun k_r_1 => ?_)
  refine gf_X15_242 C hW k_r_1 dX15_endedBy_66 ?_
  refine lv_if_ne (tgt := 76) C.1 C.2.1 dX15_endedBy_69 (by decide) (fun c_2 => ?_) (fun c_2 => ?_)
  · have hE := br_n hE c_2
    refine lv_aload_n C.1 C.2.1 dX15_endedBy_76 rfl (lv_at hl 0 rfl) ?_
    obtain ⟨r_3, er_3, hE⟩ := cl_e hE
    refine gf_X15_252 C hW k_x0 er_3 dX15_endedBy_77 (fun k_r_3 => ?_)
    refine gf_X15_242 C hW k_r_3 dX15_endedBy_80 ?_
    refine lv_iconst (v := (1 : Int32)) C.1 C.2.1 dX15_endedBy_83 (by decide) ?_
    refine lv_icmp_ne (tgt := 94) C.1 C.2.1 dX15_endedBy_84 (by decide) (fun c_4 => ?_) (fun c_4 => ?_)
    · have hE := br_n hE c_4
      refine lv_iconst (v := (1 : Int32)) C.1 C.2.1 dX15_endedBy_94 (by decide) ?_
      refine lv_aload_n C.1 C.2.1 dX15_endedBy_95 rfl (lv_at hl 1 rfl) ?_
      refine gf_X15_452 C hW k_x1 dX15_endedBy_96 ?_
      refine lv_isub C.1 C.2.1 dX15_endedBy_99 ?_
      exact bX15_endedBy_100 C k_x0 hkm hW hZ _ (lv_sub hl [] rfl) hE
    · have hE := br_p hE c_4
      refine lv_aload_n C.1 C.2.1 dX15_endedBy_87 rfl (lv_at hl 1 rfl) ?_
      refine gf_X15_452 C hW k_x1 dX15_endedBy_88 ?_
      refine lv_goto (tgt := 100) C.1 C.2.1 dX15_endedBy_91 (by decide) ?_
      exact bX15_endedBy_100 C k_x0 hkm hW hZ _ (lv_sub hl [] rfl) hE
  · have hE := br_p hE c_2
    refine lv_iconst (v := (2 : Int32)) C.1 C.2.1 dX15_endedBy_72 (by decide) ?_
    refine lv_goto (tgt := 100) C.1 C.2.1 dX15_endedBy_73 (by decide) ?_
    exact bX15_endedBy_100 C k_x0 hkm hW hZ _ (lv_sub hl [] rfl) hE
set_option maxRecDepth 20000 in
theorem ct_X15_endedBy (l : Launch) (X : Ec) (F : Nat) {h : Hp} {x0 : Nat} {x1 : Nat} {x2 : Int32} {o : Int32 × Hp} (k_x0 : hK h x0 = 15) (k_x1 : hK h x1 = 12) (hE : sX15_endedBy F h x0 x1 x2 = some o) : MetI l yX15_endedBy cX15_endedBy 5 (some .int) 4 106 X [.ref x0, .ref x1, .int x2] h o := by
  refine x_met (by decide) (Nat.le_of_ble_eq_true rfl) ?_
  intro p e s m below meth c ls C hl hW hZ
  have hl : lv_has ls 5 [(0, .ref x0), (1, .ref x1), (2, .int x2)] := hl
  have hkm : Km h h := Km.rf h
  refine lv_aload_n C.1 C.2.1 dX15_endedBy_0 rfl (lv_at hl 0 rfl) ?_
  refine lv_aload_n C.1 C.2.1 dX15_endedBy_1 rfl (lv_at hl 1 rfl) ?_
  obtain ⟨o_1, eo_1, hE⟩ := cl_e hE
  refine x_kI (o := o_1) (z_runV (As := [.ref x1]) (rest := []) C (ct_X15_early l X F k_x0 k_x1 eo_1) cw_X15_631 hW hZ k_x0 (by decide) rfl rfl rfl hl.1 (Nat.le_of_ble_eq_true rfl) rfl dX15_endedBy_2 ⟨Nat.le_of_ble_eq_true rfl, Nat.le_of_ble_eq_true rfl⟩ ⟨Nat.le_refl _, Nat.le_refl _⟩) hZ (fun _ _ hW km hZ => ?_)
  replace hkm := hkm.tr km
  replace k_x0 := km.at k_x0 (by decide)
  replace k_x1 := km.at k_x1 (by decide)
  refine lv_istore_n (lv' := [(3, .int o_1.1), (0, .ref x0), (1, .ref x1), (2, .int x2)]) C.1 C.2.1 dX15_endedBy_5 rfl hl (by decide) rfl (fun ls hl => ?_)
  refine lv_iload_n C.1 C.2.1 dX15_endedBy_6 rfl (lv_at hl 0 rfl) ?_
  refine lv_if_gt (tgt := 14) C.1 C.2.1 dX15_endedBy_7 (by decide) (fun c_2 => ?_) (fun c_2 => ?_)
  · have hE := br_p hE c_2
    exact bX15_endedBy_14 C hkm hW hZ _ (lv_sub hl [0] rfl) hE
  · have hE := br_n hE c_2
    refine lv_iload_n C.1 C.2.1 dX15_endedBy_10 rfl (lv_at hl 3 rfl) ?_
    refine lv_if_le (tgt := 16) C.1 C.2.1 dX15_endedBy_11 (by decide) (fun c_3 => ?_) (fun c_3 => ?_)
    · have hE := br_p hE c_3
      refine lv_aload_n C.1 C.2.1 dX15_endedBy_16 rfl (lv_at hl 1 rfl) ?_
      refine lv_aload_n C.1 C.2.1 dX15_endedBy_17 rfl (lv_at hl 2 rfl) ?_
      refine lv_aload_n C.1 C.2.1 dX15_endedBy_18 rfl (lv_at hl 2 rfl) ?_
      refine gf_X15_452 C hW k_x1 dX15_endedBy_19 ?_
      obtain ⟨o_4, eo_4, hE⟩ := cl_e hE
      refine x_kI (o := o_4) (z_runV (As := [.ref x1, .int (hI o_1.2 x1 1)]) (rest := []) C (ct_X15_royalOf l X F k_x0 k_x1 eo_4) cw_X15_508 hW hZ k_x0 (by decide) rfl rfl rfl hl.1 (Nat.le_of_ble_eq_true rfl) rfl dX15_endedBy_22 ⟨Nat.le_of_ble_eq_true rfl, Nat.le_of_ble_eq_true rfl⟩ ⟨Nat.le_refl _, Nat.le_refl _⟩) hZ (fun _ _ hW km hZ => ?_)
      replace hkm := hkm.tr km
      replace k_x0 := km.at k_x0 (by decide)
      replace k_x1 := km.at k_x1 (by decide)
      refine lv_istore (lv' := [(4, .int o_4.1), (3, .int o_1.1), (0, .ref x0), (1, .ref x1), (2, .int x2)]) C.1 C.2.1 dX15_endedBy_25 hl (by decide) rfl (fun ls hl => ?_)
      refine lv_iload C.1 C.2.1 dX15_endedBy_27 (lv_at hl 0 rfl) ?_
      refine lv_iconst (v := (-1 : Int32)) C.1 C.2.1 dX15_endedBy_29 (by decide) ?_
      refine lv_icmp_eq (tgt := 61) C.1 C.2.1 dX15_endedBy_30 (by decide) (fun c_5 => ?_) (fun c_5 => ?_)
      · have hE := br_p hE c_5
        exact bX15_endedBy_61 C k_x0 k_x1 hkm hW hZ _ (lv_sub hl [2, 3] rfl) hE
      · have hE := br_n hE c_5
        refine lv_aload_n C.1 C.2.1 dX15_endedBy_33 rfl (lv_at hl 2 rfl) ?_
        refine lv_aload_n C.1 C.2.1 dX15_endedBy_34 rfl (lv_at hl 3 rfl) ?_
        refine lv_iload C.1 C.2.1 dX15_endedBy_35 (lv_at hl 0 rfl) ?_
        refine lv_iconst (v := (1 : Int32)) C.1 C.2.1 dX15_endedBy_37 (by decide) ?_
        refine lv_aload_n C.1 C.2.1 dX15_endedBy_38 rfl (lv_at hl 3 rfl) ?_
        refine gf_X15_452 C hW k_x1 dX15_endedBy_39 ?_
        refine lv_isub C.1 C.2.1 dX15_endedBy_42 ?_
        obtain ⟨o_6, eo_6, hE⟩ := cl_e hE
        refine x_kI (o := o_6) (z_runV (As := [.ref x1, .int o_4.1, .int ((1 : Int32) - (hI o_4.2 x1 1))]) (rest := []) C (ct_X15_isAttacked l X F k_x0 k_x1 eo_6) cw_X15_512 hW hZ k_x0 (by decide) rfl rfl rfl hl.1 (Nat.le_of_ble_eq_true rfl) rfl dX15_endedBy_43 ⟨Nat.le_of_ble_eq_true rfl, Nat.le_of_ble_eq_true rfl⟩ ⟨Nat.le_refl _, Nat.le_refl _⟩) hZ (fun _ _ hW km hZ => ?_)
        replace hkm := hkm.tr km
        replace k_x0 := km.at k_x0 (by decide)
        replace k_x1 := km.at k_x1 (by decide)
        refine lv_if_eq (tgt := 61) C.1 C.2.1 dX15_endedBy_46 (by decide) (fun c_7 => ?_) (fun c_7 => ?_)
        · have hE := br_p hE c_7
          exact bX15_endedBy_61 C k_x0 k_x1 hkm hW hZ _ (lv_sub hl [2, 3] rfl) hE
        · have hE := br_n hE c_7
          refine lv_aload_n C.1 C.2.1 dX15_endedBy_49 rfl (lv_at hl 2 rfl) ?_
          refine lv_iconst (v := (1 : Int32)) C.1 C.2.1 dX15_endedBy_50 (by decide) ?_
          refine lv_aload_n C.1 C.2.1 dX15_endedBy_51 rfl (lv_at hl 3 rfl) ?_
          refine gf_X15_452 C hW k_x1 dX15_endedBy_52 ?_
          refine lv_isub C.1 C.2.1 dX15_endedBy_55 ?_
          obtain ⟨h_8, eh_8, hE⟩ := nm_e2 hE
          refine pf_X15_646 C hW hZ k_x0 eh_8 dX15_endedBy_56 (fun _ _ hW km hZ => ?_)
          replace hkm := hkm.tr km
          replace k_x0 := km.at k_x0 (by decide)
          replace k_x1 := km.at k_x1 (by decide)
          refine lv_iconst (v := (5 : Int32)) C.1 C.2.1 dX15_endedBy_59 (by decide) ?_
          exact x_iret C rfl rfl hW hZ hkm hE dX15_endedBy_60
    · have hE := br_n hE c_3
      exact bX15_endedBy_14 C hkm hW hZ _ (lv_sub hl [0] rfl) hE
set_option maxRecDepth 100000 in
theorem ms_188 : Cond.selects RX15 yX15_endedBy yX15_endedBy ∈ W0 := w0_in (List.mem_append_left _ (List.mem_of_getElem? (i := 188) rfl)) rfl
set_option maxRecDepth 100000 in
theorem ms_185 : Cond.selects RX15 yX15_deepBoard yX15_deepBoard ∈ W0 := w0_in (List.mem_append_left _ (List.mem_of_getElem? (i := 185) rfl)) rfl
set_option maxRecDepth 100000 in
theorem m_2618 : Cond.methodLink RX15 671 yX15_deepBoard ∈ W0 := w0_in (List.mem_append_right _ (List.mem_of_getElem? (i := 2618) rfl)) rfl
set_option maxRecDepth 100000 in
theorem m_2620 : Cond.instanceMethod yX15_deepBoard ∈ W0 := w0_in (List.mem_append_right _ (List.mem_of_getElem? (i := 2620) rfl)) rfl
set_option maxRecDepth 100000 in
theorem m_2621 : Cond.code yX15_deepBoard cX15_deepBoard 2 (some (.object "GameRulesModel$Board")) ∈ W0 := w0_in (List.mem_append_right _ (List.mem_of_getElem? (i := 2621) rfl)) rfl
set_option maxRecDepth 100000 in
theorem m_2631 : Cond.methodLink RX15 683 yX15_endedBy ∈ W0 := w0_in (List.mem_append_right _ (List.mem_of_getElem? (i := 2631) rfl)) rfl
set_option maxRecDepth 100000 in
theorem m_2633 : Cond.instanceMethod yX15_endedBy ∈ W0 := w0_in (List.mem_append_right _ (List.mem_of_getElem? (i := 2633) rfl)) rfl
set_option maxRecDepth 100000 in
theorem m_2634 : Cond.code yX15_endedBy cX15_endedBy 5 (some .int) ∈ W0 := w0_in (List.mem_append_right _ (List.mem_of_getElem? (i := 2634) rfl)) rfl
theorem cw_X15_683 : cwd RX15 683 yX15_endedBy cX15_endedBy 5 (some .int) false 2 := ⟨m_2634, m_2631, m_19, ⟨m_2633, ms_188⟩, by decide, by decide, by decide +kernel⟩
theorem cw_X15_671 : cwd RX15 671 yX15_deepBoard cX15_deepBoard 2 (some (.object "GameRulesModel$Board")) false 1 := ⟨m_2621, m_2618, m_19, ⟨m_2620, ms_185⟩, by decide, by decide, by decide +kernel⟩
theorem dX15_turnsBack_0 : decode cX15_turnsBack 0 = .ok (.aload_n 0, 1) := by decide +kernel
theorem dX15_turnsBack_1 : decode cX15_turnsBack 1 = .ok (.iload_n 1, 1) := by decide +kernel
theorem dX15_turnsBack_2 : decode cX15_turnsBack 2 = .ok (.invokevirtual 671, 3) := by decide +kernel
theorem dX15_turnsBack_5 : decode cX15_turnsBack 5 = .ok (.astore_n 2, 1) := by decide +kernel
theorem dX15_turnsBack_6 : decode cX15_turnsBack 6 = .ok (.aload_n 0, 1) := by decide +kernel
theorem dX15_turnsBack_7 : decode cX15_turnsBack 7 = .ok (.aload_n 2, 1) := by decide +kernel
theorem dX15_turnsBack_8 : decode cX15_turnsBack 8 = .ok (.aload_n 0, 1) := by decide +kernel
theorem dX15_turnsBack_9 : decode cX15_turnsBack 9 = .ok (.getfield 301, 3) := by decide +kernel
theorem dX15_turnsBack_12 : decode cX15_turnsBack 12 = .ok (.iload_n 1, 1) := by decide +kernel
theorem dX15_turnsBack_13 : decode cX15_turnsBack 13 = .ok (.aaload, 1) := by decide +kernel
theorem dX15_turnsBack_14 : decode cX15_turnsBack 14 = .ok (.invokevirtual 652, 3) := by decide +kernel
theorem dX15_turnsBack_17 : decode cX15_turnsBack 17 = .ok (.aload_n 0, 1) := by decide +kernel
theorem dX15_turnsBack_18 : decode cX15_turnsBack 18 = .ok (.aload_n 2, 1) := by decide +kernel
theorem dX15_turnsBack_19 : decode cX15_turnsBack 19 = .ok (.aload_n 2, 1) := by decide +kernel
theorem dX15_turnsBack_20 : decode cX15_turnsBack 20 = .ok (.getfield 452, 3) := by decide +kernel
theorem dX15_turnsBack_23 : decode cX15_turnsBack 23 = .ok (.invokevirtual 508, 3) := by decide +kernel
theorem dX15_turnsBack_26 : decode cX15_turnsBack 26 = .ok (.istore_n 3, 1) := by decide +kernel
theorem dX15_turnsBack_27 : decode cX15_turnsBack 27 = .ok (.aload_n 0, 1) := by decide +kernel
theorem dX15_turnsBack_28 : decode cX15_turnsBack 28 = .ok (.aload_n 2, 1) := by decide +kernel
theorem dX15_turnsBack_29 : decode cX15_turnsBack 29 = .ok (.aload_n 0, 1) := by decide +kernel
theorem dX15_turnsBack_30 : decode cX15_turnsBack 30 = .ok (.getfield 301, 3) := by decide +kernel
theorem dX15_turnsBack_33 : decode cX15_turnsBack 33 = .ok (.iload_n 1, 1) := by decide +kernel
theorem dX15_turnsBack_34 : decode cX15_turnsBack 34 = .ok (.aaload, 1) := by decide +kernel
theorem dX15_turnsBack_35 : decode cX15_turnsBack 35 = .ok (.getfield 575, 3) := by decide +kernel
theorem dX15_turnsBack_38 : decode cX15_turnsBack 38 = .ok (.invokevirtual 683, 3) := by decide +kernel
theorem dX15_turnsBack_41 : decode cX15_turnsBack 41 = .ok (.ifCond .gt 23, 3) := by decide +kernel
theorem dX15_turnsBack_44 : decode cX15_turnsBack 44 = .ok (.iload_n 3, 1) := by decide +kernel
theorem dX15_turnsBack_45 : decode cX15_turnsBack 45 = .ok (.iconst (-1), 1) := by decide +kernel
theorem dX15_turnsBack_46 : decode cX15_turnsBack 46 = .ok (.if_icmp .eq 20, 3) := by decide +kernel
theorem dX15_turnsBack_49 : decode cX15_turnsBack 49 = .ok (.aload_n 0, 1) := by decide +kernel
theorem dX15_turnsBack_50 : decode cX15_turnsBack 50 = .ok (.aload_n 2, 1) := by decide +kernel
theorem dX15_turnsBack_51 : decode cX15_turnsBack 51 = .ok (.iload_n 3, 1) := by decide +kernel
theorem dX15_turnsBack_52 : decode cX15_turnsBack 52 = .ok (.iconst 1, 1) := by decide +kernel
theorem dX15_turnsBack_53 : decode cX15_turnsBack 53 = .ok (.aload_n 2, 1) := by decide +kernel
theorem dX15_turnsBack_54 : decode cX15_turnsBack 54 = .ok (.getfield 452, 3) := by decide +kernel
theorem dX15_turnsBack_57 : decode cX15_turnsBack 57 = .ok (.isub, 1) := by decide +kernel
theorem dX15_turnsBack_58 : decode cX15_turnsBack 58 = .ok (.invokevirtual 512, 3) := by decide +kernel
theorem dX15_turnsBack_61 : decode cX15_turnsBack 61 = .ok (.ifCond .eq 5, 3) := by decide +kernel
theorem dX15_turnsBack_64 : decode cX15_turnsBack 64 = .ok (.iconst 0, 1) := by decide +kernel
theorem dX15_turnsBack_65 : decode cX15_turnsBack 65 = .ok (.ireturn, 1) := by decide +kernel
theorem dX15_turnsBack_66 : decode cX15_turnsBack 66 = .ok (.aload_n 2, 1) := by decide +kernel
theorem dX15_turnsBack_67 : decode cX15_turnsBack 67 = .ok (.iconst 1, 1) := by decide +kernel
theorem dX15_turnsBack_68 : decode cX15_turnsBack 68 = .ok (.aload_n 2, 1) := by decide +kernel
theorem dX15_turnsBack_69 : decode cX15_turnsBack 69 = .ok (.getfield 452, 3) := by decide +kernel
theorem dX15_turnsBack_72 : decode cX15_turnsBack 72 = .ok (.isub, 1) := by decide +kernel
theorem dX15_turnsBack_73 : decode cX15_turnsBack 73 = .ok (.putfield 452, 3) := by decide +kernel
theorem dX15_turnsBack_76 : decode cX15_turnsBack 76 = .ok (.aload_n 2, 1) := by decide +kernel
theorem dX15_turnsBack_77 : decode cX15_turnsBack 77 = .ok (.iconst 0, 1) := by decide +kernel
theorem dX15_turnsBack_78 : decode cX15_turnsBack 78 = .ok (.putfield 441, 3) := by decide +kernel
theorem dX15_turnsBack_81 : decode cX15_turnsBack 81 = .ok (.iconst 1, 1) := by decide +kernel
theorem dX15_turnsBack_82 : decode cX15_turnsBack 82 = .ok (.ireturn, 1) := by decide +kernel
set_option maxRecDepth 20000 in
theorem moX15_turnsBack_64 {o : Int32 × Hp} {F : Nat} {h : Hp} (hE : sX15_turnsBack_64 F h  = some o) : Le h o.2 := by
  exact le_some2 hE
set_option maxRecDepth 20000 in
theorem moX15_turnsBack_66 {o : Int32 × Hp} {F : Nat} {h : Hp} {x2 : Nat} (hE : sX15_turnsBack_66 F h x2 = some o) : Le h o.2 := by
  obtain ⟨h_1, eh_1, hE⟩ := nm_e2 hE
  refine (le_I eh_1).tr ?_
  obtain ⟨h_2, eh_2, hE⟩ := nm_e2 hE
  refine (le_I eh_2).tr ?_
  exact le_some2 hE
set_option maxRecDepth 20000 in
theorem moX15_turnsBack_61 {o : Int32 × Hp} {F : Nat} {h : Hp} {x2 : Nat} {t0 : Int32} (hE : sX15_turnsBack_61 F h x2 t0 = some o) : Le h o.2 := by
  rcases br_e hE with ⟨_, hE⟩ | ⟨_, hE⟩
  · exact moX15_turnsBack_66 hE
  · exact moX15_turnsBack_64 hE
set_option maxRecDepth 20000 in
theorem moX15_turnsBack_41 {o : Int32 × Hp} {F : Nat} {h : Hp} {x0 : Nat} {x2 : Nat} {x3 : Int32} {t0 : Int32} (hE : sX15_turnsBack_41 F h x0 x2 x3 t0 = some o) : Le h o.2 := by
  rcases br_e hE with ⟨_, hE⟩ | ⟨_, hE⟩
  · exact moX15_turnsBack_64 hE
  · rcases br_e hE with ⟨_, hE⟩ | ⟨_, hE⟩
    · exact moX15_turnsBack_66 hE
    · obtain ⟨o_3, eo_3, hE⟩ := cl_e hE
      refine (moX15_isAttacked eo_3).tr ?_
      exact moX15_turnsBack_61 hE
set_option maxRecDepth 20000 in
theorem moX15_turnsBack_26 {o : Int32 × Hp} {F : Nat} {h : Hp} {x0 : Nat} {x1 : Int32} {x2 : Nat} {t0 : Int32} (hE : sX15_turnsBack_26 F h x0 x1 x2 t0 = some o) : Le h o.2 := by
  obtain ⟨r_1, er_1, hE⟩ := cl_e hE
  obtain ⟨g_2, hE⟩ := gd_e hE
  obtain ⟨r_3, er_3, hE⟩ := cl_e hE
  obtain ⟨o_4, eo_4, hE⟩ := cl_e hE
  refine (moX15_endedBy eo_4).tr ?_
  exact moX15_turnsBack_41 hE
set_option maxRecDepth 20000 in
theorem moX15_turnsBack_17 {o : Int32 × Hp} {F : Nat} {h : Hp} {x0 : Nat} {x1 : Int32} {x2 : Nat} (hE : sX15_turnsBack_17 F h x0 x1 x2 = some o) : Le h o.2 := by
  obtain ⟨o_1, eo_1, hE⟩ := cl_e hE
  refine (moX15_royalOf eo_1).tr ?_
  exact moX15_turnsBack_26 hE
set_option maxRecDepth 20000 in
theorem moX15_turnsBack_5 {o : Int32 × Hp} {F : Nat} {h : Hp} {x0 : Nat} {x1 : Int32} {t0 : Nat} (hE : sX15_turnsBack_5 F h x0 x1 t0 = some o) : Le h o.2 := by
  obtain ⟨r_1, er_1, hE⟩ := cl_e hE
  obtain ⟨g_2, hE⟩ := gd_e hE
  obtain ⟨r_3, er_3, hE⟩ := cl_e hE
  obtain ⟨o_4, eo_4, hE⟩ := cl_e hE
  refine (moX15_legal eo_4).tr ?_
  exact moX15_turnsBack_17 hE
set_option maxRecDepth 20000 in
theorem moX15_turnsBack {o : Int32 × Hp} {F : Nat} {h : Hp} {x0 : Nat} {x1 : Int32} (hE : sX15_turnsBack F h x0 x1 = some o) : Le h o.2 := by
  obtain ⟨o_1, eo_1, hE⟩ := cl_e hE
  refine (moX15_deepBoard eo_1).tr ?_
  exact moX15_turnsBack_5 hE
set_option maxRecDepth 20000 in
theorem bX15_turnsBack_64 {p : Program} {l : Launch} {e : Env} {s : State} {m : MethodId} {args : Array Value} {below : List Frame} {meth : Method} {c : Code} {X : Ec} {h0 : Hp} {o : Int32 × Hp} {F : Nat} (C : Cx X p s m args meth c RX15 cX15_turnsBack 4 (some .boolean) "turnsBack") {h : Hp} {H : Heap} {locs : List Loc} (hkl : Kl h0 h) (hW : Wx X h H) (hZ : va_S (aA (eB X)) s.heap H locs) (ls : Array Slot) (hl : lv_has ls 4 []) (hE : sX15_turnsBack_64 F h  = some o) : W p l e (rmA 7 191 h0 o.2) s m args below meth c H locs (hS h - hS h0) (hL h - hL h0) (MQ below (QIA X h0 o.1 o.2) args s (hS o.2 - hS h0) (hL o.2 - hL h0) (aA (eB X))) (F0 m 64 ls []) := by
  refine lv_iconst (v := (0 : Int32)) C.1 C.2.1 dX15_turnsBack_64 (by decide) ?_
  exact x_iretA C rfl (by decide) hW hZ hkl hE dX15_turnsBack_65
set_option maxRecDepth 20000 in
theorem bX15_turnsBack_66 {p : Program} {l : Launch} {e : Env} {s : State} {m : MethodId} {args : Array Value} {below : List Frame} {meth : Method} {c : Code} {X : Ec} {h0 : Hp} {o : Int32 × Hp} {F : Nat} (C : Cx X p s m args meth c RX15 cX15_turnsBack 4 (some .boolean) "turnsBack") {h : Hp} {x2 : Nat} {H : Heap} {locs : List Loc} (k_x2 : hK h x2 = 12) (hkl : Kl h0 h) (hW : Wx X h H) (hZ : va_S (aA (eB X)) s.heap H locs) (ls : Array Slot) (hl : lv_has ls 4 [(2, .ref x2)]) (hE : sX15_turnsBack_66 F h x2 = some o) : W p l e (rmA 7 191 h0 o.2) s m args below meth c H locs (hS h - hS h0) (hL h - hL h0) (MQ below (QIA X h0 o.1 o.2) args s (hS o.2 - hS h0) (hL o.2 - hL h0) (aA (eB X))) (F0 m 66 ls []) := by
  refine lv_aload_n C.1 C.2.1 dX15_turnsBack_66 rfl (lv_at hl 0 rfl) ?_
  refine lv_iconst (v := (1 : Int32)) C.1 C.2.1 dX15_turnsBack_67 (by decide) ?_
  refine lv_aload_n C.1 C.2.1 dX15_turnsBack_68 rfl (lv_at hl 0 rfl) ?_
  refine gf_X15_452 C hW k_x2 dX15_turnsBack_69 ?_
  refine lv_isub C.1 C.2.1 dX15_turnsBack_72 ?_
  obtain ⟨h_1, eh_1, hE⟩ := nm_e2 hE
  refine pf_X15_452 C hW hZ k_x2 eh_1 dX15_turnsBack_73 (fun _ _ hW km hZ => ?_)
  replace hkl := hkl.tr km.l
  refine x_wc km ?_
  replace k_x2 := km.at k_x2 (by decide)
  refine lv_aload_n C.1 C.2.1 dX15_turnsBack_76 rfl (lv_at hl 0 rfl) ?_
  refine lv_iconst (v := (0 : Int32)) C.1 C.2.1 dX15_turnsBack_77 (by decide) ?_
  obtain ⟨h_2, eh_2, hE⟩ := nm_e2 hE
  refine pf_X15_441 C hW hZ k_x2 eh_2 dX15_turnsBack_78 (fun _ _ hW km hZ => ?_)
  replace hkl := hkl.tr km.l
  refine x_wc km ?_
  replace k_x2 := km.at k_x2 (by decide)
  refine lv_iconst (v := (1 : Int32)) C.1 C.2.1 dX15_turnsBack_81 (by decide) ?_
  exact x_iretA C rfl (by decide) hW hZ hkl hE dX15_turnsBack_82
set_option maxRecDepth 20000 in
theorem bX15_turnsBack_61 {p : Program} {l : Launch} {e : Env} {s : State} {m : MethodId} {args : Array Value} {below : List Frame} {meth : Method} {c : Code} {X : Ec} {h0 : Hp} {o : Int32 × Hp} {F : Nat} (C : Cx X p s m args meth c RX15 cX15_turnsBack 4 (some .boolean) "turnsBack") {h : Hp} {x2 : Nat} {t0 : Int32} {H : Heap} {locs : List Loc} (k_x2 : hK h x2 = 12) (hkl : Kl h0 h) (hW : Wx X h H) (hZ : va_S (aA (eB X)) s.heap H locs) (ls : Array Slot) (hl : lv_has ls 4 [(2, .ref x2)]) (hE : sX15_turnsBack_61 F h x2 t0 = some o) : W p l e (rmA 7 191 h0 o.2) s m args below meth c H locs (hS h - hS h0) (hL h - hL h0) (MQ below (QIA X h0 o.1 o.2) args s (hS o.2 - hS h0) (hL o.2 - hL h0) (aA (eB X))) (F0 m 61 ls [.int t0]) := by
  refine lv_if_eq (tgt := 66) C.1 C.2.1 dX15_turnsBack_61 (by decide) (fun c_1 => ?_) (fun c_1 => ?_)
  · have hE := br_p hE c_1
    exact bX15_turnsBack_66 C k_x2 hkl hW hZ _ (lv_sub hl [0] rfl) hE
  · have hE := br_n hE c_1
    exact bX15_turnsBack_64 C hkl hW hZ _ (lv_sub hl [] rfl) hE
set_option maxRecDepth 20000 in
theorem bX15_turnsBack_41 {p : Program} {l : Launch} {e : Env} {s : State} {m : MethodId} {args : Array Value} {below : List Frame} {meth : Method} {c : Code} {X : Ec} {h0 : Hp} {o : Int32 × Hp} {F : Nat} (C : Cx X p s m args meth c RX15 cX15_turnsBack 4 (some .boolean) "turnsBack") {h : Hp} {x0 : Nat} {x2 : Nat} {x3 : Int32} {t0 : Int32} {H : Heap} {locs : List Loc} (k_x0 : hK h x0 = 15) (k_x2 : hK h x2 = 12) (hkl : Kl h0 h) (hW : Wx X h H) (hZ : va_S (aA (eB X)) s.heap H locs) (ls : Array Slot) (hl : lv_has ls 4 [(0, .ref x0), (2, .ref x2), (3, .int x3)]) (hE : sX15_turnsBack_41 F h x0 x2 x3 t0 = some o) : W p l e (rmA 7 191 h0 o.2) s m args below meth c H locs (hS h - hS h0) (hL h - hL h0) (MQ below (QIA X h0 o.1 o.2) args s (hS o.2 - hS h0) (hL o.2 - hL h0) (aA (eB X))) (F0 m 41 ls [.int t0]) := by
  refine lv_if_gt (tgt := 64) C.1 C.2.1 dX15_turnsBack_41 (by decide) (fun c_1 => ?_) (fun c_1 => ?_)
  · have hE := br_p hE c_1
    exact bX15_turnsBack_64 C hkl hW hZ _ (lv_sub hl [] rfl) hE
  · have hE := br_n hE c_1
    refine lv_iload_n C.1 C.2.1 dX15_turnsBack_44 rfl (lv_at hl 2 rfl) ?_
    refine lv_iconst (v := (-1 : Int32)) C.1 C.2.1 dX15_turnsBack_45 (by decide) ?_
    refine lv_icmp_eq (tgt := 66) C.1 C.2.1 dX15_turnsBack_46 (by decide) (fun c_2 => ?_) (fun c_2 => ?_)
    · have hE := br_p hE c_2
      exact bX15_turnsBack_66 C k_x2 hkl hW hZ _ (lv_sub hl [1] rfl) hE
    · have hE := br_n hE c_2
      refine lv_aload_n C.1 C.2.1 dX15_turnsBack_49 rfl (lv_at hl 0 rfl) ?_
      refine lv_aload_n C.1 C.2.1 dX15_turnsBack_50 rfl (lv_at hl 1 rfl) ?_
      refine lv_iload_n C.1 C.2.1 dX15_turnsBack_51 rfl (lv_at hl 2 rfl) ?_
      refine lv_iconst (v := (1 : Int32)) C.1 C.2.1 dX15_turnsBack_52 (by decide) ?_
      refine lv_aload_n C.1 C.2.1 dX15_turnsBack_53 rfl (lv_at hl 1 rfl) ?_
      refine gf_X15_452 C hW k_x2 dX15_turnsBack_54 ?_
      refine lv_isub C.1 C.2.1 dX15_turnsBack_57 ?_
      obtain ⟨o_3, eo_3, hE⟩ := cl_e hE
      have m1 := moX15_isAttacked eo_3
      have m2 := moX15_turnsBack_61 hE
      refine x_kI (o := o_3) (z_runV (As := [.ref x2, .int x3, .int ((1 : Int32) - (hI h x2 1))]) (rest := []) C (ct_X15_isAttacked l X F k_x0 k_x2 eo_3) cw_X15_512 hW hZ k_x0 (by decide) rfl rfl rfl hl.1 (Nat.le_of_ble_eq_true rfl) rfl dX15_turnsBack_58 ⟨Nat.le_of_ble_eq_true rfl, Nat.le_of_ble_eq_true rfl⟩ (rm_ok0 hkl m1 m2)) hZ (fun _ _ hW km hZ => ?_)
      replace hkl := hkl.tr km.l
      refine x_wc km ?_
      replace k_x0 := km.at k_x0 (by decide)
      replace k_x2 := km.at k_x2 (by decide)
      exact bX15_turnsBack_61 C k_x2 hkl hW hZ _ (lv_sub hl [1] rfl) hE
set_option maxRecDepth 20000 in
theorem bX15_turnsBack_26 {p : Program} {l : Launch} {e : Env} {s : State} {m : MethodId} {args : Array Value} {below : List Frame} {meth : Method} {c : Code} {X : Ec} {h0 : Hp} {o : Int32 × Hp} {F : Nat} (C : Cx X p s m args meth c RX15 cX15_turnsBack 4 (some .boolean) "turnsBack") {h : Hp} {x0 : Nat} {x1 : Int32} {x2 : Nat} {t0 : Int32} {H : Heap} {locs : List Loc} (k_x0 : hK h x0 = 15) (k_x2 : hK h x2 = 12) (hkl : Kl h0 h) (hW : Wx X h H) (hZ : va_S (aA (eB X)) s.heap H locs) (ls : Array Slot) (hl : lv_has ls 4 [(0, .ref x0), (1, .int x1), (2, .ref x2)]) (hE : sX15_turnsBack_26 F h x0 x1 x2 t0 = some o) : W p l e (rmA 7 191 h0 o.2) s m args below meth c H locs (hS h - hS h0) (hL h - hL h0) (MQ below (QIA X h0 o.1 o.2) args s (hS o.2 - hS h0) (hL o.2 - hL h0) (aA (eB X))) (F0 m 26 ls [.int t0]) := by
  refine lv_istore_n (lv' := [(3, .int t0), (0, .ref x0), (1, .int x1), (2, .ref x2)]) C.1 C.2.1 dX15_turnsBack_26 rfl hl (by decide) rfl (fun ls hl => ?_)
  refine lv_aload_n C.1 C.2.1 dX15_turnsBack_27 rfl (lv_at hl 1 rfl) ?_
  refine lv_aload_n C.1 C.2.1 dX15_turnsBack_28 rfl (lv_at hl 3 rfl) ?_
  refine lv_aload_n C.1 C.2.1 dX15_turnsBack_29 rfl (lv_at hl 1 rfl) ?_
  obtain ⟨r_1, er_1, hE⟩ := cl_e hE
  refine gf_X15_301 C hW k_x0 er_1 dX15_turnsBack_30 (fun k_r_1 => ?_)
  refine lv_iload_n C.1 C.2.1 dX15_turnsBack_33 rfl (lv_at hl 2 rfl) ?_
  obtain ⟨g_2, hE⟩ := gd_e hE
  obtain ⟨r_3, er_3, hE⟩ := cl_e hE
  refine y_aald (t0 := 6) C hW k_r_1 (by decide) (by decide) rfl rfl rfl (fun _ => rfl) g_2 er_3 dX15_turnsBack_34 (fun k_r_3 => ?_)
  refine gf_X15_575 C hW k_r_3 dX15_turnsBack_35 ?_
  obtain ⟨o_4, eo_4, hE⟩ := cl_e hE
  have m1 := moX15_endedBy eo_4
  have m2 := moX15_turnsBack_41 hE
  refine x_kI (o := o_4) (z_runV (As := [.ref x2, .int (hI h r_3 0)]) (rest := []) C (ct_X15_endedBy l X F k_x0 k_x2 eo_4) cw_X15_683 hW hZ k_x0 (by decide) rfl rfl rfl hl.1 (Nat.le_of_ble_eq_true rfl) rfl dX15_turnsBack_38 ⟨Nat.le_of_ble_eq_true rfl, Nat.le_of_ble_eq_true rfl⟩ (rm_ok0 hkl m1 m2)) hZ (fun _ _ hW km hZ => ?_)
  replace hkl := hkl.tr km.l
  refine x_wc km ?_
  replace k_x0 := km.at k_x0 (by decide)
  replace k_x2 := km.at k_x2 (by decide)
  exact bX15_turnsBack_41 C k_x0 k_x2 hkl hW hZ _ (lv_sub hl [1, 3, 0] rfl) hE
set_option maxRecDepth 20000 in
theorem bX15_turnsBack_17 {p : Program} {l : Launch} {e : Env} {s : State} {m : MethodId} {args : Array Value} {below : List Frame} {meth : Method} {c : Code} {X : Ec} {h0 : Hp} {o : Int32 × Hp} {F : Nat} (C : Cx X p s m args meth c RX15 cX15_turnsBack 4 (some .boolean) "turnsBack") {h : Hp} {x0 : Nat} {x1 : Int32} {x2 : Nat} {H : Heap} {locs : List Loc} (k_x0 : hK h x0 = 15) (k_x2 : hK h x2 = 12) (hkl : Kl h0 h) (hW : Wx X h H) (hZ : va_S (aA (eB X)) s.heap H locs) (ls : Array Slot) (hl : lv_has ls 4 [(0, .ref x0), (1, .int x1), (2, .ref x2)]) (hE : sX15_turnsBack_17 F h x0 x1 x2 = some o) : W p l e (rmA 7 191 h0 o.2) s m args below meth c H locs (hS h - hS h0) (hL h - hL h0) (MQ below (QIA X h0 o.1 o.2) args s (hS o.2 - hS h0) (hL o.2 - hL h0) (aA (eB X))) (F0 m 17 ls []) := by
  refine lv_aload_n C.1 C.2.1 dX15_turnsBack_17 rfl (lv_at hl 0 rfl) ?_
  refine lv_aload_n C.1 C.2.1 dX15_turnsBack_18 rfl (lv_at hl 2 rfl) ?_
  refine lv_aload_n C.1 C.2.1 dX15_turnsBack_19 rfl (lv_at hl 2 rfl) ?_
  refine gf_X15_452 C hW k_x2 dX15_turnsBack_20 ?_
  obtain ⟨o_1, eo_1, hE⟩ := cl_e hE
  have m1 := moX15_royalOf eo_1
  have m2 := moX15_turnsBack_26 hE
  refine x_kI (o := o_1) (z_runV (As := [.ref x2, .int (hI h x2 1)]) (rest := []) C (ct_X15_royalOf l X F k_x0 k_x2 eo_1) cw_X15_508 hW hZ k_x0 (by decide) rfl rfl rfl hl.1 (Nat.le_of_ble_eq_true rfl) rfl dX15_turnsBack_23 ⟨Nat.le_of_ble_eq_true rfl, Nat.le_of_ble_eq_true rfl⟩ (rm_ok0 hkl m1 m2)) hZ (fun _ _ hW km hZ => ?_)
  replace hkl := hkl.tr km.l
  refine x_wc km ?_
  replace k_x0 := km.at k_x0 (by decide)
  replace k_x2 := km.at k_x2 (by decide)
  exact bX15_turnsBack_26 C k_x0 k_x2 hkl hW hZ _ (lv_sub hl [0, 1, 2] rfl) hE
set_option maxRecDepth 20000 in
theorem bX15_turnsBack_5 {p : Program} {l : Launch} {e : Env} {s : State} {m : MethodId} {args : Array Value} {below : List Frame} {meth : Method} {c : Code} {X : Ec} {h0 : Hp} {o : Int32 × Hp} {F : Nat} (C : Cx X p s m args meth c RX15 cX15_turnsBack 4 (some .boolean) "turnsBack") {h : Hp} {x0 : Nat} {x1 : Int32} {t0 : Nat} {H : Heap} {locs : List Loc} (k_x0 : hK h x0 = 15) (k_t0 : hK h t0 = 12) (hkl : Kl h0 h) (hW : Wx X h H) (hZ : va_S (aA (eB X)) s.heap H locs) (ls : Array Slot) (hl : lv_has ls 4 [(0, .ref x0), (1, .int x1)]) (hE : sX15_turnsBack_5 F h x0 x1 t0 = some o) : W p l e (rmA 7 191 h0 o.2) s m args below meth c H locs (hS h - hS h0) (hL h - hL h0) (MQ below (QIA X h0 o.1 o.2) args s (hS o.2 - hS h0) (hL o.2 - hL h0) (aA (eB X))) (F0 m 5 ls [.ref t0]) := by
  refine lv_astore_n (lv' := [(2, .ref t0), (0, .ref x0), (1, .int x1)]) C.1 C.2.1 dX15_turnsBack_5 rfl hl (by decide) rfl (fun ls hl => ?_)
  refine lv_aload_n C.1 C.2.1 dX15_turnsBack_6 rfl (lv_at hl 1 rfl) ?_
  refine lv_aload_n C.1 C.2.1 dX15_turnsBack_7 rfl (lv_at hl 0 rfl) ?_
  refine lv_aload_n C.1 C.2.1 dX15_turnsBack_8 rfl (lv_at hl 1 rfl) ?_
  obtain ⟨r_1, er_1, hE⟩ := cl_e hE
  refine gf_X15_301 C hW k_x0 er_1 dX15_turnsBack_9 (fun k_r_1 => ?_)
  refine lv_iload_n C.1 C.2.1 dX15_turnsBack_12 rfl (lv_at hl 2 rfl) ?_
  obtain ⟨g_2, hE⟩ := gd_e hE
  obtain ⟨r_3, er_3, hE⟩ := cl_e hE
  refine y_aald (t0 := 6) C hW k_r_1 (by decide) (by decide) rfl rfl rfl (fun _ => rfl) g_2 er_3 dX15_turnsBack_13 (fun k_r_3 => ?_)
  obtain ⟨o_4, eo_4, hE⟩ := cl_e hE
  have m1 := moX15_legal eo_4
  have m2 := moX15_turnsBack_17 hE
  refine x_kV (o := o_4) (z_runV (As := [.ref t0, .ref r_3]) (rest := []) C (ct_X15_legal l X F k_x0 k_t0 k_r_3 eo_4) cw_X15_652 hW hZ k_x0 (by decide) rfl rfl rfl hl.1 (Nat.le_of_ble_eq_true rfl) rfl dX15_turnsBack_14 ⟨Nat.le_of_ble_eq_true rfl, Nat.le_of_ble_eq_true rfl⟩ (rm_ok0 hkl m1 m2)) hZ (fun _ _ hW km hZ => ?_)
  replace hkl := hkl.tr km.l
  refine x_wc km ?_
  replace k_t0 := km.at k_t0 (by decide)
  replace k_x0 := km.at k_x0 (by decide)
  exact bX15_turnsBack_17 C k_x0 k_t0 hkl hW hZ _ (lv_sub hl [1, 2, 0] rfl) hE
set_option maxRecDepth 20000 in
theorem ct_X15_turnsBack (l : Launch) (X : Ec) (F : Nat) {h : Hp} {x0 : Nat} {x1 : Int32} {o : Int32 × Hp} (k_x0 : hK h x0 = 15) (hE : sX15_turnsBack F h x0 x1 = some o) : MetIA l yX15_turnsBack cX15_turnsBack 4 (some .boolean) 7 191 X [.ref x0, .int x1] h o := by
  refine x_metA (oh := o.2) (by decide) (Nat.le_of_ble_eq_true rfl) ?_
  intro p e s m below meth c ls C hl hW hZ
  have hl : lv_has ls 4 [(0, .ref x0), (1, .int x1)] := hl
  have hkl : Kl h h := Kl.rf h
  refine lv_aload_n C.1 C.2.1 dX15_turnsBack_0 rfl (lv_at hl 0 rfl) ?_
  refine lv_iload_n C.1 C.2.1 dX15_turnsBack_1 rfl (lv_at hl 1 rfl) ?_
  obtain ⟨o_1, eo_1, hE⟩ := cl_e hE
  have m1 := moX15_deepBoard eo_1
  have m2 := moX15_turnsBack_5 hE
  refine x_kRA (o := o_1) hkl (z_runV (As := [.int x1]) (rest := []) C (ct_X15_deepBoard l X k_x0 eo_1) cw_X15_671 hW hZ k_x0 (by decide) rfl rfl rfl hl.1 (Nat.le_of_ble_eq_true rfl) rfl dX15_turnsBack_2 ⟨Nat.le_of_ble_eq_true rfl, Nat.le_of_ble_eq_true rfl⟩ (rm_ok hkl m1 m2)) hZ (fun _ _ hW km k_o_1_1 hZ => ?_)
  replace hkl := hkl.tr km
  replace k_x0 := km.at k_x0 (by decide)
  exact bX15_turnsBack_5 C k_x0 k_o_1_1 hkl hW hZ _ (lv_sub hl [0, 1] rfl) hE
set_option maxRecDepth 100000 in
theorem ms_187 : Cond.selects RX15 yX15_turnsBack yX15_turnsBack ∈ W0 := w0_in (List.mem_append_left _ (List.mem_of_getElem? (i := 187) rfl)) rfl
set_option maxRecDepth 100000 in
theorem ms_186 : Cond.selects RX15 yX15_countRows yX15_countRows ∈ W0 := w0_in (List.mem_append_left _ (List.mem_of_getElem? (i := 186) rfl)) rfl
set_option maxRecDepth 100000 in
theorem m_2622 : Cond.methodLink RX15 679 yX15_countRows ∈ W0 := w0_in (List.mem_append_right _ (List.mem_of_getElem? (i := 2622) rfl)) rfl
set_option maxRecDepth 100000 in
theorem m_2624 : Cond.instanceMethod yX15_countRows ∈ W0 := w0_in (List.mem_append_right _ (List.mem_of_getElem? (i := 2624) rfl)) rfl
set_option maxRecDepth 100000 in
theorem m_2625 : Cond.code yX15_countRows cX15_countRows 8 (some .int) ∈ W0 := w0_in (List.mem_append_right _ (List.mem_of_getElem? (i := 2625) rfl)) rfl
set_option maxRecDepth 100000 in
theorem m_2626 : Cond.constant RX15 675 (100000 : Int32) ∈ W0 := w0_in (List.mem_append_right _ (List.mem_of_getElem? (i := 2626) rfl)) rfl
set_option maxRecDepth 100000 in
theorem m_2627 : Cond.methodLink RX15 676 yX15_turnsBack ∈ W0 := w0_in (List.mem_append_right _ (List.mem_of_getElem? (i := 2627) rfl)) rfl
set_option maxRecDepth 100000 in
theorem m_2629 : Cond.instanceMethod yX15_turnsBack ∈ W0 := w0_in (List.mem_append_right _ (List.mem_of_getElem? (i := 2629) rfl)) rfl
set_option maxRecDepth 100000 in
theorem m_2630 : Cond.code yX15_turnsBack cX15_turnsBack 4 (some .boolean) ∈ W0 := w0_in (List.mem_append_right _ (List.mem_of_getElem? (i := 2630) rfl)) rfl
theorem cw_X15_679 : cwd RX15 679 yX15_countRows cX15_countRows 8 (some .int) false 3 := ⟨m_2625, m_2622, m_19, ⟨m_2624, ms_186⟩, by decide, by decide, by decide +kernel⟩
theorem cw_X15_676 : cwd RX15 676 yX15_turnsBack cX15_turnsBack 4 (some .boolean) false 1 := ⟨m_2630, m_2627, m_19, ⟨m_2629, ms_187⟩, by decide, by decide, by decide +kernel⟩
theorem dX15_countRows_0 : decode cX15_countRows 0 = .ok (.iload_n 2, 1) := by decide +kernel
theorem dX15_countRows_1 : decode cX15_countRows 1 = .ok (.ifCond .ne 5, 3) := by decide +kernel
theorem dX15_countRows_4 : decode cX15_countRows 4 = .ok (.iconst 1, 1) := by decide +kernel
theorem dX15_countRows_5 : decode cX15_countRows 5 = .ok (.ireturn, 1) := by decide +kernel
theorem dX15_countRows_6 : decode cX15_countRows 6 = .ok (.aload_n 0, 1) := by decide +kernel
theorem dX15_countRows_7 : decode cX15_countRows 7 = .ok (.iload_n 1, 1) := by decide +kernel
theorem dX15_countRows_8 : decode cX15_countRows 8 = .ok (.invokevirtual 671, 3) := by decide +kernel
theorem dX15_countRows_11 : decode cX15_countRows 11 = .ok (.astore 4, 2) := by decide +kernel
theorem dX15_countRows_13 : decode cX15_countRows 13 = .ok (.aload_n 0, 1) := by decide +kernel
theorem dX15_countRows_14 : decode cX15_countRows 14 = .ok (.getfield 301, 3) := by decide +kernel
theorem dX15_countRows_17 : decode cX15_countRows 17 = .ok (.iload_n 1, 1) := by decide +kernel
theorem dX15_countRows_18 : decode cX15_countRows 18 = .ok (.aaload, 1) := by decide +kernel
theorem dX15_countRows_19 : decode cX15_countRows 19 = .ok (.astore 5, 2) := by decide +kernel
theorem dX15_countRows_21 : decode cX15_countRows 21 = .ok (.aload_n 0, 1) := by decide +kernel
theorem dX15_countRows_22 : decode cX15_countRows 22 = .ok (.aload 4, 2) := by decide +kernel
theorem dX15_countRows_24 : decode cX15_countRows 24 = .ok (.aload 5, 2) := by decide +kernel
theorem dX15_countRows_26 : decode cX15_countRows 26 = .ok (.invokevirtual 652, 3) := by decide +kernel
theorem dX15_countRows_29 : decode cX15_countRows 29 = .ok (.iload_n 2, 1) := by decide +kernel
theorem dX15_countRows_30 : decode cX15_countRows 30 = .ok (.iconst 1, 1) := by decide +kernel
theorem dX15_countRows_31 : decode cX15_countRows 31 = .ok (.if_icmp .ne 9, 3) := by decide +kernel
theorem dX15_countRows_34 : decode cX15_countRows 34 = .ok (.aload 5, 2) := by decide +kernel
theorem dX15_countRows_36 : decode cX15_countRows 36 = .ok (.getfield 575, 3) := by decide +kernel
theorem dX15_countRows_39 : decode cX15_countRows 39 = .ok (.ireturn, 1) := by decide +kernel
theorem dX15_countRows_40 : decode cX15_countRows 40 = .ok (.iconst 0, 1) := by decide +kernel
theorem dX15_countRows_41 : decode cX15_countRows 41 = .ok (.istore 6, 2) := by decide +kernel
theorem dX15_countRows_43 : decode cX15_countRows 43 = .ok (.iconst 0, 1) := by decide +kernel
theorem dX15_countRows_44 : decode cX15_countRows 44 = .ok (.istore 7, 2) := by decide +kernel
theorem dX15_countRows_46 : decode cX15_countRows 46 = .ok (.iload 7, 2) := by decide +kernel
theorem dX15_countRows_48 : decode cX15_countRows 48 = .ok (.aload 5, 2) := by decide +kernel
theorem dX15_countRows_50 : decode cX15_countRows 50 = .ok (.getfield 575, 3) := by decide +kernel
theorem dX15_countRows_53 : decode cX15_countRows 53 = .ok (.if_icmp .ge 64, 3) := by decide +kernel
theorem dX15_countRows_56 : decode cX15_countRows 56 = .ok (.iload 6, 2) := by decide +kernel
theorem dX15_countRows_58 : decode cX15_countRows 58 = .ok (.ldc_w 675, 3) := by decide +kernel
theorem dX15_countRows_61 : decode cX15_countRows 61 = .ok (.if_icmp .gt 56, 3) := by decide +kernel
theorem dX15_countRows_64 : decode cX15_countRows 64 = .ok (.aload_n 0, 1) := by decide +kernel
theorem dX15_countRows_65 : decode cX15_countRows 65 = .ok (.aload 4, 2) := by decide +kernel
theorem dX15_countRows_67 : decode cX15_countRows 67 = .ok (.aload 5, 2) := by decide +kernel
theorem dX15_countRows_69 : decode cX15_countRows 69 = .ok (.iload 7, 2) := by decide +kernel
theorem dX15_countRows_71 : decode cX15_countRows 71 = .ok (.aload_n 0, 1) := by decide +kernel
theorem dX15_countRows_72 : decode cX15_countRows 72 = .ok (.iload_n 1, 1) := by decide +kernel
theorem dX15_countRows_73 : decode cX15_countRows 73 = .ok (.iconst 1, 1) := by decide +kernel
theorem dX15_countRows_74 : decode cX15_countRows 74 = .ok (.iadd, 1) := by decide +kernel
theorem dX15_countRows_75 : decode cX15_countRows 75 = .ok (.invokevirtual 671, 3) := by decide +kernel
theorem dX15_countRows_78 : decode cX15_countRows 78 = .ok (.invokevirtual 627, 3) := by decide +kernel
theorem dX15_countRows_81 : decode cX15_countRows 81 = .ok (.iload_n 3, 1) := by decide +kernel
theorem dX15_countRows_82 : decode cX15_countRows 82 = .ok (.ifCond .eq 13, 3) := by decide +kernel
theorem dX15_countRows_85 : decode cX15_countRows 85 = .ok (.aload_n 0, 1) := by decide +kernel
theorem dX15_countRows_86 : decode cX15_countRows 86 = .ok (.iload_n 1, 1) := by decide +kernel
theorem dX15_countRows_87 : decode cX15_countRows 87 = .ok (.iconst 1, 1) := by decide +kernel
theorem dX15_countRows_88 : decode cX15_countRows 88 = .ok (.iadd, 1) := by decide +kernel
theorem dX15_countRows_89 : decode cX15_countRows 89 = .ok (.invokevirtual 676, 3) := by decide +kernel
theorem dX15_countRows_92 : decode cX15_countRows 92 = .ok (.ifCond .eq 19, 3) := by decide +kernel
theorem dX15_countRows_95 : decode cX15_countRows 95 = .ok (.iload 6, 2) := by decide +kernel
theorem dX15_countRows_97 : decode cX15_countRows 97 = .ok (.aload_n 0, 1) := by decide +kernel
theorem dX15_countRows_98 : decode cX15_countRows 98 = .ok (.iload_n 1, 1) := by decide +kernel
theorem dX15_countRows_99 : decode cX15_countRows 99 = .ok (.iconst 1, 1) := by decide +kernel
theorem dX15_countRows_100 : decode cX15_countRows 100 = .ok (.iadd, 1) := by decide +kernel
theorem dX15_countRows_101 : decode cX15_countRows 101 = .ok (.iload_n 2, 1) := by decide +kernel
theorem dX15_countRows_102 : decode cX15_countRows 102 = .ok (.iconst 1, 1) := by decide +kernel
theorem dX15_countRows_103 : decode cX15_countRows 103 = .ok (.isub, 1) := by decide +kernel
theorem dX15_countRows_104 : decode cX15_countRows 104 = .ok (.iload_n 3, 1) := by decide +kernel
theorem dX15_countRows_105 : decode cX15_countRows 105 = .ok (.invokevirtual 679, 3) := by decide +kernel
theorem dX15_countRows_108 : decode cX15_countRows 108 = .ok (.iadd, 1) := by decide +kernel
theorem dX15_countRows_109 : decode cX15_countRows 109 = .ok (.istore 6, 2) := by decide +kernel
theorem dX15_countRows_111 : decode cX15_countRows 111 = .ok (.iinc 7 1, 3) := by decide +kernel
theorem dX15_countRows_114 : decode cX15_countRows 114 = .ok (.goto (-68), 3) := by decide +kernel
theorem dX15_countRows_117 : decode cX15_countRows 117 = .ok (.iload 6, 2) := by decide +kernel
theorem dX15_countRows_119 : decode cX15_countRows 119 = .ok (.ireturn, 1) := by decide +kernel
set_option maxRecDepth 20000 in
theorem moX15_countRows_117 {o : Int32 × Hp} {F : Nat} {r_X15_countRows : Hp → Nat → Int32 → Int32 → Int32 → Option (Int32 × Hp)} (mr_X15_countRows : ∀ {h : Hp} {x0 : Nat} {x1 : Int32} {x2 : Int32} {x3 : Int32} {o : Int32 × Hp}, r_X15_countRows h x0 x1 x2 x3 = some o → Le h o.2) {h : Hp} {x6 : Int32} (hE : sX15_countRows_117 F r_X15_countRows h x6 = some o) : Le h o.2 := by
  exact le_some2 hE
set_option maxRecDepth 20000 in
theorem moX15_countRows_111 {o : Int32 × Hp} {k_46 : Hp → Nat → Int32 → Int32 → Int32 → Nat → Nat → Int32 → Int32 → Option (Int32 × Hp)} {F : Nat} {r_X15_countRows : Hp → Nat → Int32 → Int32 → Int32 → Option (Int32 × Hp)} (mr_X15_countRows : ∀ {h : Hp} {x0 : Nat} {x1 : Int32} {x2 : Int32} {x3 : Int32} {o : Int32 × Hp}, r_X15_countRows h x0 x1 x2 x3 = some o → Le h o.2) (mk_46 : ∀ (h : Hp) (x0 : Nat) (x1 : Int32) (x2 : Int32) (x3 : Int32) (x4 : Nat) (x5 : Nat) (x6 : Int32) (x7 : Int32), k_46 h x0 x1 x2 x3 x4 x5 x6 x7 = some o → Le h o.2) {h : Hp} {x0 : Nat} {x1 : Int32} {x2 : Int32} {x3 : Int32} {x4 : Nat} {x5 : Nat} {x6 : Int32} {x7 : Int32} (hE : sX15_countRows_111 F r_X15_countRows k_46 h x0 x1 x2 x3 x4 x5 x6 x7 = some o) : Le h o.2 := by
  obtain ⟨v_1, ev_1, hE⟩ := nm_e2 hE
  exact mk_46 _ _ _ _ _ _ _ _ _ hE
set_option maxRecDepth 20000 in
theorem moX15_countRows_108 {o : Int32 × Hp} {k_46 : Hp → Nat → Int32 → Int32 → Int32 → Nat → Nat → Int32 → Int32 → Option (Int32 × Hp)} {F : Nat} {r_X15_countRows : Hp → Nat → Int32 → Int32 → Int32 → Option (Int32 × Hp)} (mr_X15_countRows : ∀ {h : Hp} {x0 : Nat} {x1 : Int32} {x2 : Int32} {x3 : Int32} {o : Int32 × Hp}, r_X15_countRows h x0 x1 x2 x3 = some o → Le h o.2) (mk_46 : ∀ (h : Hp) (x0 : Nat) (x1 : Int32) (x2 : Int32) (x3 : Int32) (x4 : Nat) (x5 : Nat) (x6 : Int32) (x7 : Int32), k_46 h x0 x1 x2 x3 x4 x5 x6 x7 = some o → Le h o.2) {h : Hp} {x0 : Nat} {x1 : Int32} {x2 : Int32} {x3 : Int32} {x4 : Nat} {x5 : Nat} {x7 : Int32} {t0 : Int32} {t1 : Int32} (hE : sX15_countRows_108 F r_X15_countRows k_46 h x0 x1 x2 x3 x4 x5 x7 t0 t1 = some o) : Le h o.2 := by
  obtain ⟨v_1, ev_1, hE⟩ := nm_e2 hE
  exact moX15_countRows_111 mr_X15_countRows mk_46 hE
set_option maxRecDepth 20000 in
theorem moX15_countRows_95 {o : Int32 × Hp} {k_46 : Hp → Nat → Int32 → Int32 → Int32 → Nat → Nat → Int32 → Int32 → Option (Int32 × Hp)} {F : Nat} {r_X15_countRows : Hp → Nat → Int32 → Int32 → Int32 → Option (Int32 × Hp)} (mr_X15_countRows : ∀ {h : Hp} {x0 : Nat} {x1 : Int32} {x2 : Int32} {x3 : Int32} {o : Int32 × Hp}, r_X15_countRows h x0 x1 x2 x3 = some o → Le h o.2) (mk_46 : ∀ (h : Hp) (x0 : Nat) (x1 : Int32) (x2 : Int32) (x3 : Int32) (x4 : Nat) (x5 : Nat) (x6 : Int32) (x7 : Int32), k_46 h x0 x1 x2 x3 x4 x5 x6 x7 = some o → Le h o.2) {h : Hp} {x0 : Nat} {x1 : Int32} {x2 : Int32} {x3 : Int32} {x4 : Nat} {x5 : Nat} {x6 : Int32} {x7 : Int32} (hE : sX15_countRows_95 F r_X15_countRows k_46 h x0 x1 x2 x3 x4 x5 x6 x7 = some o) : Le h o.2 := by
  obtain ⟨o_1, eo_1, hE⟩ := cl_e hE
  refine (mr_X15_countRows eo_1).tr ?_
  exact moX15_countRows_108 mr_X15_countRows mk_46 hE
set_option maxRecDepth 20000 in
theorem moX15_countRows_92 {o : Int32 × Hp} {k_46 : Hp → Nat → Int32 → Int32 → Int32 → Nat → Nat → Int32 → Int32 → Option (Int32 × Hp)} {F : Nat} {r_X15_countRows : Hp → Nat → Int32 → Int32 → Int32 → Option (Int32 × Hp)} (mr_X15_countRows : ∀ {h : Hp} {x0 : Nat} {x1 : Int32} {x2 : Int32} {x3 : Int32} {o : Int32 × Hp}, r_X15_countRows h x0 x1 x2 x3 = some o → Le h o.2) (mk_46 : ∀ (h : Hp) (x0 : Nat) (x1 : Int32) (x2 : Int32) (x3 : Int32) (x4 : Nat) (x5 : Nat) (x6 : Int32) (x7 : Int32), k_46 h x0 x1 x2 x3 x4 x5 x6 x7 = some o → Le h o.2) {h : Hp} {x0 : Nat} {x1 : Int32} {x2 : Int32} {x3 : Int32} {x4 : Nat} {x5 : Nat} {x6 : Int32} {x7 : Int32} {t0 : Int32} (hE : sX15_countRows_92 F r_X15_countRows k_46 h x0 x1 x2 x3 x4 x5 x6 x7 t0 = some o) : Le h o.2 := by
  rcases br_e hE with ⟨_, hE⟩ | ⟨_, hE⟩
  · exact moX15_countRows_111 mr_X15_countRows mk_46 hE
  · exact moX15_countRows_95 mr_X15_countRows mk_46 hE
set_option maxRecDepth 20000 in
theorem moX15_countRows_81 {o : Int32 × Hp} {k_46 : Hp → Nat → Int32 → Int32 → Int32 → Nat → Nat → Int32 → Int32 → Option (Int32 × Hp)} {F : Nat} {r_X15_countRows : Hp → Nat → Int32 → Int32 → Int32 → Option (Int32 × Hp)} (mr_X15_countRows : ∀ {h : Hp} {x0 : Nat} {x1 : Int32} {x2 : Int32} {x3 : Int32} {o : Int32 × Hp}, r_X15_countRows h x0 x1 x2 x3 = some o → Le h o.2) (mk_46 : ∀ (h : Hp) (x0 : Nat) (x1 : Int32) (x2 : Int32) (x3 : Int32) (x4 : Nat) (x5 : Nat) (x6 : Int32) (x7 : Int32), k_46 h x0 x1 x2 x3 x4 x5 x6 x7 = some o → Le h o.2) {h : Hp} {x0 : Nat} {x1 : Int32} {x2 : Int32} {x3 : Int32} {x4 : Nat} {x5 : Nat} {x6 : Int32} {x7 : Int32} (hE : sX15_countRows_81 F r_X15_countRows k_46 h x0 x1 x2 x3 x4 x5 x6 x7 = some o) : Le h o.2 := by
  rcases br_e hE with ⟨_, hE⟩ | ⟨_, hE⟩
  · exact moX15_countRows_95 mr_X15_countRows mk_46 hE
  · obtain ⟨o_2, eo_2, hE⟩ := cl_e hE
    refine (moX15_turnsBack eo_2).tr ?_
    exact moX15_countRows_92 mr_X15_countRows mk_46 hE
set_option maxRecDepth 20000 in
theorem moX15_countRows_78 {o : Int32 × Hp} {k_46 : Hp → Nat → Int32 → Int32 → Int32 → Nat → Nat → Int32 → Int32 → Option (Int32 × Hp)} {F : Nat} {r_X15_countRows : Hp → Nat → Int32 → Int32 → Int32 → Option (Int32 × Hp)} (mr_X15_countRows : ∀ {h : Hp} {x0 : Nat} {x1 : Int32} {x2 : Int32} {x3 : Int32} {o : Int32 × Hp}, r_X15_countRows h x0 x1 x2 x3 = some o → Le h o.2) (mk_46 : ∀ (h : Hp) (x0 : Nat) (x1 : Int32) (x2 : Int32) (x3 : Int32) (x4 : Nat) (x5 : Nat) (x6 : Int32) (x7 : Int32), k_46 h x0 x1 x2 x3 x4 x5 x6 x7 = some o → Le h o.2) {h : Hp} {x0 : Nat} {x1 : Int32} {x2 : Int32} {x3 : Int32} {x4 : Nat} {x5 : Nat} {x6 : Int32} {x7 : Int32} {t0 : Nat} {t1 : Int32} {t2 : Nat} {t3 : Nat} {t4 : Nat} (hE : sX15_countRows_78 F r_X15_countRows k_46 h x0 x1 x2 x3 x4 x5 x6 x7 t0 t1 t2 t3 t4 = some o) : Le h o.2 := by
  obtain ⟨o_1, eo_1, hE⟩ := cl_e hE
  refine (moX15_make eo_1).tr ?_
  exact moX15_countRows_81 mr_X15_countRows mk_46 hE
set_option maxRecDepth 20000 in
theorem moX15_countRows_46 {o : Int32 × Hp} {F : Nat} {r_X15_countRows : Hp → Nat → Int32 → Int32 → Int32 → Option (Int32 × Hp)} (mr_X15_countRows : ∀ {h : Hp} {x0 : Nat} {x1 : Int32} {x2 : Int32} {x3 : Int32} {o : Int32 × Hp}, r_X15_countRows h x0 x1 x2 x3 = some o → Le h o.2) : ∀ (f : Nat) {h : Hp} {x0 : Nat} {x1 : Int32} {x2 : Int32} {x3 : Int32} {x4 : Nat} {x5 : Nat} {x6 : Int32} {x7 : Int32}, sX15_countRows_46 F r_X15_countRows f h x0 x1 x2 x3 x4 x5 x6 x7 = some o → Le h o.2 := by
  intro f
  induction f with
  | zero =>
    intro h x0 x1 x2 x3 x4 x5 x6 x7 hE
    rw [sX15_countRows_46] at hE
    cases hE
  | succ f ih =>
    intro h x0 x1 x2 x3 x4 x5 x6 x7 hE
    rw [sX15_countRows_46] at hE
    have mk_46 : ∀ (h : Hp) (x0 : Nat) (x1 : Int32) (x2 : Int32) (x3 : Int32) (x4 : Nat) (x5 : Nat) (x6 : Int32) (x7 : Int32), sX15_countRows_46 F r_X15_countRows f h x0 x1 x2 x3 x4 x5 x6 x7 = some o → Le h o.2 := fun h x0 x1 x2 x3 x4 x5 x6 x7 hE => ih hE
    rcases br_e hE with ⟨_, hE⟩ | ⟨_, hE⟩
    · exact moX15_countRows_117 mr_X15_countRows hE
    · rcases br_e hE with ⟨_, hE⟩ | ⟨_, hE⟩
      · exact moX15_countRows_117 mr_X15_countRows hE
      · obtain ⟨o_3, eo_3, hE⟩ := cl_e hE
        refine (moX15_deepBoard eo_3).tr ?_
        exact moX15_countRows_78 mr_X15_countRows mk_46 hE
set_option maxRecDepth 20000 in
theorem moX15_countRows_29 {o : Int32 × Hp} {F : Nat} {r_X15_countRows : Hp → Nat → Int32 → Int32 → Int32 → Option (Int32 × Hp)} (mr_X15_countRows : ∀ {h : Hp} {x0 : Nat} {x1 : Int32} {x2 : Int32} {x3 : Int32} {o : Int32 × Hp}, r_X15_countRows h x0 x1 x2 x3 = some o → Le h o.2) {h : Hp} {x0 : Nat} {x1 : Int32} {x2 : Int32} {x3 : Int32} {x4 : Nat} {x5 : Nat} (hE : sX15_countRows_29 F r_X15_countRows h x0 x1 x2 x3 x4 x5 = some o) : Le h o.2 := by
  rcases br_e hE with ⟨_, hE⟩ | ⟨_, hE⟩
  · exact le_some2 hE
  · exact moX15_countRows_46 mr_X15_countRows _ hE
set_option maxRecDepth 20000 in
theorem moX15_countRows_11 {o : Int32 × Hp} {F : Nat} {r_X15_countRows : Hp → Nat → Int32 → Int32 → Int32 → Option (Int32 × Hp)} (mr_X15_countRows : ∀ {h : Hp} {x0 : Nat} {x1 : Int32} {x2 : Int32} {x3 : Int32} {o : Int32 × Hp}, r_X15_countRows h x0 x1 x2 x3 = some o → Le h o.2) {h : Hp} {x0 : Nat} {x1 : Int32} {x2 : Int32} {x3 : Int32} {t0 : Nat} (hE : sX15_countRows_11 F r_X15_countRows h x0 x1 x2 x3 t0 = some o) : Le h o.2 := by
  obtain ⟨r_1, er_1, hE⟩ := cl_e hE
  obtain ⟨g_2, hE⟩ := gd_e hE
  obtain ⟨r_3, er_3, hE⟩ := cl_e hE
  obtain ⟨o_4, eo_4, hE⟩ := cl_e hE
  refine (moX15_legal eo_4).tr ?_
  exact moX15_countRows_29 mr_X15_countRows hE
set_option maxRecDepth 20000 in
theorem mooX15_countRows {o : Int32 × Hp} {F : Nat} {r_X15_countRows : Hp → Nat → Int32 → Int32 → Int32 → Option (Int32 × Hp)} (mr_X15_countRows : ∀ {h : Hp} {x0 : Nat} {x1 : Int32} {x2 : Int32} {x3 : Int32} {o : Int32 × Hp}, r_X15_countRows h x0 x1 x2 x3 = some o → Le h o.2) {h : Hp} {x0 : Nat} {x1 : Int32} {x2 : Int32} {x3 : Int32} (hE : oX15_countRows F r_X15_countRows h x0 x1 x2 x3 = some o) : Le h o.2 := by
  rcases br_e hE with ⟨_, hE⟩ | ⟨_, hE⟩
  · exact le_some2 hE
  · obtain ⟨o_2, eo_2, hE⟩ := cl_e hE
    refine (moX15_deepBoard eo_2).tr ?_
    exact moX15_countRows_11 mr_X15_countRows hE
set_option maxRecDepth 20000 in
theorem bX15_countRows_117 {p : Program} {l : Launch} {e : Env} {s : State} {m : MethodId} {args : Array Value} {below : List Frame} {meth : Method} {c : Code} {X : Ec} {h0 : Hp} {o : Int32 × Hp} {d : Nat} {r_X15_countRows : Hp → Nat → Int32 → Int32 → Int32 → Option (Int32 × Hp)} {F : Nat} (C : Cx X p s m args meth c RX15 cX15_countRows 8 (some .int) "countRows") (hr_X15_countRows : ∀ {h : Hp} {x0 : Nat} {x1 : Int32} {x2 : Int32} {x3 : Int32} {o : Int32 × Hp}, hK h x0 = 15 → r_X15_countRows h x0 x1 x2 x3 = some o → MetIA l yX15_countRows cX15_countRows 8 (some .int)  (d + 9) (d * 27 + 214) X [.ref x0, .int x1, .int x2, .int x3] h o) (mr_X15_countRows : ∀ {h : Hp} {x0 : Nat} {x1 : Int32} {x2 : Int32} {x3 : Int32} {o : Int32 × Hp}, r_X15_countRows h x0 x1 x2 x3 = some o → Le h o.2) {h : Hp} {x6 : Int32} {H : Heap} {locs : List Loc} (hkl : Kl h0 h) (hW : Wx X h H) (hZ : va_S (aA (eB X)) s.heap H locs) (ls : Array Slot) (hl : lv_has ls 8 [(6, .int x6)]) (hE : sX15_countRows_117 F r_X15_countRows h x6 = some o) : W p l e (rmA (d + 1 + 9) ((d + 1) * 27 + 214) h0 o.2) s m args below meth c H locs (hS h - hS h0) (hL h - hL h0) (MQ below (QIA X h0 o.1 o.2) args s (hS o.2 - hS h0) (hL o.2 - hL h0) (aA (eB X))) (F0 m 117 ls []) := by
  refine lv_iload C.1 C.2.1 dX15_countRows_117 (lv_at hl 0 rfl) ?_
  exact x_iretA C rfl rfl hW hZ hkl hE dX15_countRows_119
set_option maxRecDepth 20000 in
theorem bX15_countRows_111 {p : Program} {l : Launch} {e : Env} {s : State} {m : MethodId} {args : Array Value} {below : List Frame} {meth : Method} {c : Code} {X : Ec} {h0 : Hp} {o : Int32 × Hp} {d : Nat} {r_X15_countRows : Hp → Nat → Int32 → Int32 → Int32 → Option (Int32 × Hp)} {k_46 : Hp → Nat → Int32 → Int32 → Int32 → Nat → Nat → Int32 → Int32 → Option (Int32 × Hp)} {F : Nat} (C : Cx X p s m args meth c RX15 cX15_countRows 8 (some .int) "countRows") (hr_X15_countRows : ∀ {h : Hp} {x0 : Nat} {x1 : Int32} {x2 : Int32} {x3 : Int32} {o : Int32 × Hp}, hK h x0 = 15 → r_X15_countRows h x0 x1 x2 x3 = some o → MetIA l yX15_countRows cX15_countRows 8 (some .int)  (d + 9) (d * 27 + 214) X [.ref x0, .int x1, .int x2, .int x3] h o) (mr_X15_countRows : ∀ {h : Hp} {x0 : Nat} {x1 : Int32} {x2 : Int32} {x3 : Int32} {o : Int32 × Hp}, r_X15_countRows h x0 x1 x2 x3 = some o → Le h o.2) (hk_46 : ∀ (h : Hp) (x0 : Nat) (x1 : Int32) (x2 : Int32) (x3 : Int32) (x4 : Nat) (x5 : Nat) (x6 : Int32) (x7 : Int32) (H : Heap) (locs : List Loc), hK h x0 = 15 → hK h x4 = 12 → hK h x5 = 13 → Kl h0 h → Wx X h H → va_S (aA (eB X)) s.heap H locs → ∀ (ls : Array Slot), lv_has ls 8 [(0, .ref x0), (1, .int x1), (2, .int x2), (3, .int x3), (4, .ref x4), (5, .ref x5), (6, .int x6), (7, .int x7)] → k_46 h x0 x1 x2 x3 x4 x5 x6 x7 = some o → W p l e (rmA (d + 1 + 9) ((d + 1) * 27 + 214) h0 o.2) s m args below meth c H locs (hS h - hS h0) (hL h - hL h0) (MQ below (QIA X h0 o.1 o.2) args s (hS o.2 - hS h0) (hL o.2 - hL h0) (aA (eB X))) (F0 m 46 ls [])) (mk_46 : ∀ (h : Hp) (x0 : Nat) (x1 : Int32) (x2 : Int32) (x3 : Int32) (x4 : Nat) (x5 : Nat) (x6 : Int32) (x7 : Int32), k_46 h x0 x1 x2 x3 x4 x5 x6 x7 = some o → Le h o.2) {h : Hp} {x0 : Nat} {x1 : Int32} {x2 : Int32} {x3 : Int32} {x4 : Nat} {x5 : Nat} {x6 : Int32} {x7 : Int32} {H : Heap} {locs : List Loc} (k_x0 : hK h x0 = 15) (k_x4 : hK h x4 = 12) (k_x5 : hK h x5 = 13) (hkl : Kl h0 h) (hW : Wx X h H) (hZ : va_S (aA (eB X)) s.heap H locs) (ls : Array Slot) (hl : lv_has ls 8 [(0, .ref x0), (1, .int x1), (2, .int x2), (3, .int x3), (4, .ref x4), (5, .ref x5), (6, .int x6), (7, .int x7)]) (hE : sX15_countRows_111 F r_X15_countRows k_46 h x0 x1 x2 x3 x4 x5 x6 x7 = some o) : W p l e (rmA (d + 1 + 9) ((d + 1) * 27 + 214) h0 o.2) s m args below meth c H locs (hS h - hS h0) (hL h - hL h0) (MQ below (QIA X h0 o.1 o.2) args s (hS o.2 - hS h0) (hL o.2 - hL h0) (aA (eB X))) (F0 m 111 ls []) := by
  obtain ⟨v_1, ev_1, hE⟩ := nm_e2 hE
  refine lv_iinc (v := v_1) (lv' := [(7, .int v_1), (0, .ref x0), (1, .int x1), (2, .int x2), (3, .int x3), (4, .ref x4), (5, .ref x5), (6, .int x6)]) C.1 C.2.1 dX15_countRows_111 hl (k := 7) rfl (by rw [ev_1]; rfl) (by decide) rfl (fun ls hl => ?_)
  refine lv_goto (tgt := 46) C.1 C.2.1 dX15_countRows_114 (by decide) ?_
  exact hk_46 _ _ _ _ _ _ _ _ _ _ _ k_x0 k_x4 k_x5 hkl hW hZ _ (lv_sub hl [1, 2, 3, 4, 5, 6, 7, 0] rfl) hE
set_option maxRecDepth 20000 in
theorem bX15_countRows_108 {p : Program} {l : Launch} {e : Env} {s : State} {m : MethodId} {args : Array Value} {below : List Frame} {meth : Method} {c : Code} {X : Ec} {h0 : Hp} {o : Int32 × Hp} {d : Nat} {r_X15_countRows : Hp → Nat → Int32 → Int32 → Int32 → Option (Int32 × Hp)} {k_46 : Hp → Nat → Int32 → Int32 → Int32 → Nat → Nat → Int32 → Int32 → Option (Int32 × Hp)} {F : Nat} (C : Cx X p s m args meth c RX15 cX15_countRows 8 (some .int) "countRows") (hr_X15_countRows : ∀ {h : Hp} {x0 : Nat} {x1 : Int32} {x2 : Int32} {x3 : Int32} {o : Int32 × Hp}, hK h x0 = 15 → r_X15_countRows h x0 x1 x2 x3 = some o → MetIA l yX15_countRows cX15_countRows 8 (some .int)  (d + 9) (d * 27 + 214) X [.ref x0, .int x1, .int x2, .int x3] h o) (mr_X15_countRows : ∀ {h : Hp} {x0 : Nat} {x1 : Int32} {x2 : Int32} {x3 : Int32} {o : Int32 × Hp}, r_X15_countRows h x0 x1 x2 x3 = some o → Le h o.2) (hk_46 : ∀ (h : Hp) (x0 : Nat) (x1 : Int32) (x2 : Int32) (x3 : Int32) (x4 : Nat) (x5 : Nat) (x6 : Int32) (x7 : Int32) (H : Heap) (locs : List Loc), hK h x0 = 15 → hK h x4 = 12 → hK h x5 = 13 → Kl h0 h → Wx X h H → va_S (aA (eB X)) s.heap H locs → ∀ (ls : Array Slot), lv_has ls 8 [(0, .ref x0), (1, .int x1), (2, .int x2), (3, .int x3), (4, .ref x4), (5, .ref x5), (6, .int x6), (7, .int x7)] → k_46 h x0 x1 x2 x3 x4 x5 x6 x7 = some o → W p l e (rmA (d + 1 + 9) ((d + 1) * 27 + 214) h0 o.2) s m args below meth c H locs (hS h - hS h0) (hL h - hL h0) (MQ below (QIA X h0 o.1 o.2) args s (hS o.2 - hS h0) (hL o.2 - hL h0) (aA (eB X))) (F0 m 46 ls [])) (mk_46 : ∀ (h : Hp) (x0 : Nat) (x1 : Int32) (x2 : Int32) (x3 : Int32) (x4 : Nat) (x5 : Nat) (x6 : Int32) (x7 : Int32), k_46 h x0 x1 x2 x3 x4 x5 x6 x7 = some o → Le h o.2) {h : Hp} {x0 : Nat} {x1 : Int32} {x2 : Int32} {x3 : Int32} {x4 : Nat} {x5 : Nat} {x7 : Int32} {t0 : Int32} {t1 : Int32} {H : Heap} {locs : List Loc} (k_x0 : hK h x0 = 15) (k_x4 : hK h x4 = 12) (k_x5 : hK h x5 = 13) (hkl : Kl h0 h) (hW : Wx X h H) (hZ : va_S (aA (eB X)) s.heap H locs) (ls : Array Slot) (hl : lv_has ls 8 [(0, .ref x0), (1, .int x1), (2, .int x2), (3, .int x3), (4, .ref x4), (5, .ref x5), (7, .int x7)]) (hE : sX15_countRows_108 F r_X15_countRows k_46 h x0 x1 x2 x3 x4 x5 x7 t0 t1 = some o) : W p l e (rmA (d + 1 + 9) ((d + 1) * 27 + 214) h0 o.2) s m args below meth c H locs (hS h - hS h0) (hL h - hL h0) (MQ below (QIA X h0 o.1 o.2) args s (hS o.2 - hS h0) (hL o.2 - hL h0) (aA (eB X))) (F0 m 108 ls [.int t0, .int t1]) := by
  refine lv_iadd C.1 C.2.1 dX15_countRows_108 ?_
  obtain ⟨v_1, ev_1, hE⟩ := nm_e2 hE
  refine x_nmI ev_1 ?_
  refine lv_istore (lv' := [(6, .int v_1), (0, .ref x0), (1, .int x1), (2, .int x2), (3, .int x3), (4, .ref x4), (5, .ref x5), (7, .int x7)]) C.1 C.2.1 dX15_countRows_109 hl (by decide) rfl (fun ls hl => ?_)
  exact bX15_countRows_111 C hr_X15_countRows mr_X15_countRows hk_46 mk_46 k_x0 k_x4 k_x5 hkl hW hZ _ (lv_sub hl [1, 2, 3, 4, 5, 6, 0, 7] rfl) hE
set_option maxRecDepth 20000 in
theorem bX15_countRows_95 {p : Program} {l : Launch} {e : Env} {s : State} {m : MethodId} {args : Array Value} {below : List Frame} {meth : Method} {c : Code} {X : Ec} {h0 : Hp} {o : Int32 × Hp} {d : Nat} {r_X15_countRows : Hp → Nat → Int32 → Int32 → Int32 → Option (Int32 × Hp)} {k_46 : Hp → Nat → Int32 → Int32 → Int32 → Nat → Nat → Int32 → Int32 → Option (Int32 × Hp)} {F : Nat} (C : Cx X p s m args meth c RX15 cX15_countRows 8 (some .int) "countRows") (hr_X15_countRows : ∀ {h : Hp} {x0 : Nat} {x1 : Int32} {x2 : Int32} {x3 : Int32} {o : Int32 × Hp}, hK h x0 = 15 → r_X15_countRows h x0 x1 x2 x3 = some o → MetIA l yX15_countRows cX15_countRows 8 (some .int)  (d + 9) (d * 27 + 214) X [.ref x0, .int x1, .int x2, .int x3] h o) (mr_X15_countRows : ∀ {h : Hp} {x0 : Nat} {x1 : Int32} {x2 : Int32} {x3 : Int32} {o : Int32 × Hp}, r_X15_countRows h x0 x1 x2 x3 = some o → Le h o.2) (hk_46 : ∀ (h : Hp) (x0 : Nat) (x1 : Int32) (x2 : Int32) (x3 : Int32) (x4 : Nat) (x5 : Nat) (x6 : Int32) (x7 : Int32) (H : Heap) (locs : List Loc), hK h x0 = 15 → hK h x4 = 12 → hK h x5 = 13 → Kl h0 h → Wx X h H → va_S (aA (eB X)) s.heap H locs → ∀ (ls : Array Slot), lv_has ls 8 [(0, .ref x0), (1, .int x1), (2, .int x2), (3, .int x3), (4, .ref x4), (5, .ref x5), (6, .int x6), (7, .int x7)] → k_46 h x0 x1 x2 x3 x4 x5 x6 x7 = some o → W p l e (rmA (d + 1 + 9) ((d + 1) * 27 + 214) h0 o.2) s m args below meth c H locs (hS h - hS h0) (hL h - hL h0) (MQ below (QIA X h0 o.1 o.2) args s (hS o.2 - hS h0) (hL o.2 - hL h0) (aA (eB X))) (F0 m 46 ls [])) (mk_46 : ∀ (h : Hp) (x0 : Nat) (x1 : Int32) (x2 : Int32) (x3 : Int32) (x4 : Nat) (x5 : Nat) (x6 : Int32) (x7 : Int32), k_46 h x0 x1 x2 x3 x4 x5 x6 x7 = some o → Le h o.2) {h : Hp} {x0 : Nat} {x1 : Int32} {x2 : Int32} {x3 : Int32} {x4 : Nat} {x5 : Nat} {x6 : Int32} {x7 : Int32} {H : Heap} {locs : List Loc} (k_x0 : hK h x0 = 15) (k_x4 : hK h x4 = 12) (k_x5 : hK h x5 = 13) (hkl : Kl h0 h) (hW : Wx X h H) (hZ : va_S (aA (eB X)) s.heap H locs) (ls : Array Slot) (hl : lv_has ls 8 [(0, .ref x0), (1, .int x1), (2, .int x2), (3, .int x3), (4, .ref x4), (5, .ref x5), (6, .int x6), (7, .int x7)]) (hE : sX15_countRows_95 F r_X15_countRows k_46 h x0 x1 x2 x3 x4 x5 x6 x7 = some o) : W p l e (rmA (d + 1 + 9) ((d + 1) * 27 + 214) h0 o.2) s m args below meth c H locs (hS h - hS h0) (hL h - hL h0) (MQ below (QIA X h0 o.1 o.2) args s (hS o.2 - hS h0) (hL o.2 - hL h0) (aA (eB X))) (F0 m 95 ls []) := by
  refine lv_iload C.1 C.2.1 dX15_countRows_95 (lv_at hl 6 rfl) ?_
  refine lv_aload_n C.1 C.2.1 dX15_countRows_97 rfl (lv_at hl 0 rfl) ?_
  refine lv_iload_n C.1 C.2.1 dX15_countRows_98 rfl (lv_at hl 1 rfl) ?_
  refine lv_iconst (v := (1 : Int32)) C.1 C.2.1 dX15_countRows_99 (by decide) ?_
  refine lv_iadd C.1 C.2.1 dX15_countRows_100 ?_
  refine lv_iload_n C.1 C.2.1 dX15_countRows_101 rfl (lv_at hl 2 rfl) ?_
  refine lv_iconst (v := (1 : Int32)) C.1 C.2.1 dX15_countRows_102 (by decide) ?_
  refine lv_isub C.1 C.2.1 dX15_countRows_103 ?_
  refine lv_iload_n C.1 C.2.1 dX15_countRows_104 rfl (lv_at hl 3 rfl) ?_
  obtain ⟨o_1, eo_1, hE⟩ := cl_e hE
  have m1 := mr_X15_countRows eo_1
  have m2 := moX15_countRows_108 mr_X15_countRows mk_46 hE
  refine x_kIA (o := o_1) hkl (z_runV (As := [.int (x1 + (1 : Int32)), .int (x2 - (1 : Int32)), .int x3]) (rest := [.int x6]) C (hr_X15_countRows k_x0 eo_1) cw_X15_679 hW hZ k_x0 (by decide) rfl rfl rfl hl.1 (Nat.le_of_ble_eq_true rfl) rfl dX15_countRows_105 ⟨by dsimp only [rm, rmA]; omega, by dsimp only [rm, rmA]; omega⟩ (rm_ok hkl m1 m2)) hZ (fun _ _ hW km hZ => ?_)
  replace hkl := hkl.tr km
  replace k_x0 := km.at k_x0 (by decide)
  replace k_x4 := km.at k_x4 (by decide)
  replace k_x5 := km.at k_x5 (by decide)
  exact bX15_countRows_108 C hr_X15_countRows mr_X15_countRows hk_46 mk_46 k_x0 k_x4 k_x5 hkl hW hZ _ (lv_sub hl [0, 1, 2, 3, 4, 5, 7] rfl) hE
set_option maxRecDepth 20000 in
theorem bX15_countRows_92 {p : Program} {l : Launch} {e : Env} {s : State} {m : MethodId} {args : Array Value} {below : List Frame} {meth : Method} {c : Code} {X : Ec} {h0 : Hp} {o : Int32 × Hp} {d : Nat} {r_X15_countRows : Hp → Nat → Int32 → Int32 → Int32 → Option (Int32 × Hp)} {k_46 : Hp → Nat → Int32 → Int32 → Int32 → Nat → Nat → Int32 → Int32 → Option (Int32 × Hp)} {F : Nat} (C : Cx X p s m args meth c RX15 cX15_countRows 8 (some .int) "countRows") (hr_X15_countRows : ∀ {h : Hp} {x0 : Nat} {x1 : Int32} {x2 : Int32} {x3 : Int32} {o : Int32 × Hp}, hK h x0 = 15 → r_X15_countRows h x0 x1 x2 x3 = some o → MetIA l yX15_countRows cX15_countRows 8 (some .int)  (d + 9) (d * 27 + 214) X [.ref x0, .int x1, .int x2, .int x3] h o) (mr_X15_countRows : ∀ {h : Hp} {x0 : Nat} {x1 : Int32} {x2 : Int32} {x3 : Int32} {o : Int32 × Hp}, r_X15_countRows h x0 x1 x2 x3 = some o → Le h o.2) (hk_46 : ∀ (h : Hp) (x0 : Nat) (x1 : Int32) (x2 : Int32) (x3 : Int32) (x4 : Nat) (x5 : Nat) (x6 : Int32) (x7 : Int32) (H : Heap) (locs : List Loc), hK h x0 = 15 → hK h x4 = 12 → hK h x5 = 13 → Kl h0 h → Wx X h H → va_S (aA (eB X)) s.heap H locs → ∀ (ls : Array Slot), lv_has ls 8 [(0, .ref x0), (1, .int x1), (2, .int x2), (3, .int x3), (4, .ref x4), (5, .ref x5), (6, .int x6), (7, .int x7)] → k_46 h x0 x1 x2 x3 x4 x5 x6 x7 = some o → W p l e (rmA (d + 1 + 9) ((d + 1) * 27 + 214) h0 o.2) s m args below meth c H locs (hS h - hS h0) (hL h - hL h0) (MQ below (QIA X h0 o.1 o.2) args s (hS o.2 - hS h0) (hL o.2 - hL h0) (aA (eB X))) (F0 m 46 ls [])) (mk_46 : ∀ (h : Hp) (x0 : Nat) (x1 : Int32) (x2 : Int32) (x3 : Int32) (x4 : Nat) (x5 : Nat) (x6 : Int32) (x7 : Int32), k_46 h x0 x1 x2 x3 x4 x5 x6 x7 = some o → Le h o.2) {h : Hp} {x0 : Nat} {x1 : Int32} {x2 : Int32} {x3 : Int32} {x4 : Nat} {x5 : Nat} {x6 : Int32} {x7 : Int32} {t0 : Int32} {H : Heap} {locs : List Loc} (k_x0 : hK h x0 = 15) (k_x4 : hK h x4 = 12) (k_x5 : hK h x5 = 13) (hkl : Kl h0 h) (hW : Wx X h H) (hZ : va_S (aA (eB X)) s.heap H locs) (ls : Array Slot) (hl : lv_has ls 8 [(0, .ref x0), (1, .int x1), (2, .int x2), (3, .int x3), (4, .ref x4), (5, .ref x5), (6, .int x6), (7, .int x7)]) (hE : sX15_countRows_92 F r_X15_countRows k_46 h x0 x1 x2 x3 x4 x5 x6 x7 t0 = some o) : W p l e (rmA (d + 1 + 9) ((d + 1) * 27 + 214) h0 o.2) s m args below meth c H locs (hS h - hS h0) (hL h - hL h0) (MQ below (QIA X h0 o.1 o.2) args s (hS o.2 - hS h0) (hL o.2 - hL h0) (aA (eB X))) (F0 m 92 ls [.int t0]) := by
  refine lv_if_eq (tgt := 111) C.1 C.2.1 dX15_countRows_92 (by decide) (fun c_1 => ?_) (fun c_1 => ?_)
  · have hE := br_p hE c_1
    exact bX15_countRows_111 C hr_X15_countRows mr_X15_countRows hk_46 mk_46 k_x0 k_x4 k_x5 hkl hW hZ _ (lv_sub hl [0, 1, 2, 3, 4, 5, 6, 7] rfl) hE
  · have hE := br_n hE c_1
    exact bX15_countRows_95 C hr_X15_countRows mr_X15_countRows hk_46 mk_46 k_x0 k_x4 k_x5 hkl hW hZ _ (lv_sub hl [0, 1, 2, 3, 4, 5, 6, 7] rfl) hE
set_option maxRecDepth 20000 in
theorem bX15_countRows_81 {p : Program} {l : Launch} {e : Env} {s : State} {m : MethodId} {args : Array Value} {below : List Frame} {meth : Method} {c : Code} {X : Ec} {h0 : Hp} {o : Int32 × Hp} {d : Nat} {r_X15_countRows : Hp → Nat → Int32 → Int32 → Int32 → Option (Int32 × Hp)} {k_46 : Hp → Nat → Int32 → Int32 → Int32 → Nat → Nat → Int32 → Int32 → Option (Int32 × Hp)} {F : Nat} (C : Cx X p s m args meth c RX15 cX15_countRows 8 (some .int) "countRows") (hr_X15_countRows : ∀ {h : Hp} {x0 : Nat} {x1 : Int32} {x2 : Int32} {x3 : Int32} {o : Int32 × Hp}, hK h x0 = 15 → r_X15_countRows h x0 x1 x2 x3 = some o → MetIA l yX15_countRows cX15_countRows 8 (some .int)  (d + 9) (d * 27 + 214) X [.ref x0, .int x1, .int x2, .int x3] h o) (mr_X15_countRows : ∀ {h : Hp} {x0 : Nat} {x1 : Int32} {x2 : Int32} {x3 : Int32} {o : Int32 × Hp}, r_X15_countRows h x0 x1 x2 x3 = some o → Le h o.2) (hk_46 : ∀ (h : Hp) (x0 : Nat) (x1 : Int32) (x2 : Int32) (x3 : Int32) (x4 : Nat) (x5 : Nat) (x6 : Int32) (x7 : Int32) (H : Heap) (locs : List Loc), hK h x0 = 15 → hK h x4 = 12 → hK h x5 = 13 → Kl h0 h → Wx X h H → va_S (aA (eB X)) s.heap H locs → ∀ (ls : Array Slot), lv_has ls 8 [(0, .ref x0), (1, .int x1), (2, .int x2), (3, .int x3), (4, .ref x4), (5, .ref x5), (6, .int x6), (7, .int x7)] → k_46 h x0 x1 x2 x3 x4 x5 x6 x7 = some o → W p l e (rmA (d + 1 + 9) ((d + 1) * 27 + 214) h0 o.2) s m args below meth c H locs (hS h - hS h0) (hL h - hL h0) (MQ below (QIA X h0 o.1 o.2) args s (hS o.2 - hS h0) (hL o.2 - hL h0) (aA (eB X))) (F0 m 46 ls [])) (mk_46 : ∀ (h : Hp) (x0 : Nat) (x1 : Int32) (x2 : Int32) (x3 : Int32) (x4 : Nat) (x5 : Nat) (x6 : Int32) (x7 : Int32), k_46 h x0 x1 x2 x3 x4 x5 x6 x7 = some o → Le h o.2) {h : Hp} {x0 : Nat} {x1 : Int32} {x2 : Int32} {x3 : Int32} {x4 : Nat} {x5 : Nat} {x6 : Int32} {x7 : Int32} {H : Heap} {locs : List Loc} (k_x0 : hK h x0 = 15) (k_x4 : hK h x4 = 12) (k_x5 : hK h x5 = 13) (hkl : Kl h0 h) (hW : Wx X h H) (hZ : va_S (aA (eB X)) s.heap H locs) (ls : Array Slot) (hl : lv_has ls 8 [(0, .ref x0), (1, .int x1), (2, .int x2), (3, .int x3), (4, .ref x4), (5, .ref x5), (6, .int x6), (7, .int x7)]) (hE : sX15_countRows_81 F r_X15_countRows k_46 h x0 x1 x2 x3 x4 x5 x6 x7 = some o) : W p l e (rmA (d + 1 + 9) ((d + 1) * 27 + 214) h0 o.2) s m args below meth c H locs (hS h - hS h0) (hL h - hL h0) (MQ below (QIA X h0 o.1 o.2) args s (hS o.2 - hS h0) (hL o.2 - hL h0) (aA (eB X))) (F0 m 81 ls []) := by
  refine lv_iload_n C.1 C.2.1 dX15_countRows_81 rfl (lv_at hl 3 rfl) ?_
  refine lv_if_eq (tgt := 95) C.1 C.2.1 dX15_countRows_82 (by decide) (fun c_1 => ?_) (fun c_1 => ?_)
  · have hE := br_p hE c_1
    exact bX15_countRows_95 C hr_X15_countRows mr_X15_countRows hk_46 mk_46 k_x0 k_x4 k_x5 hkl hW hZ _ (lv_sub hl [0, 1, 2, 3, 4, 5, 6, 7] rfl) hE
  · have hE := br_n hE c_1
    refine lv_aload_n C.1 C.2.1 dX15_countRows_85 rfl (lv_at hl 0 rfl) ?_
    refine lv_iload_n C.1 C.2.1 dX15_countRows_86 rfl (lv_at hl 1 rfl) ?_
    refine lv_iconst (v := (1 : Int32)) C.1 C.2.1 dX15_countRows_87 (by decide) ?_
    refine lv_iadd C.1 C.2.1 dX15_countRows_88 ?_
    obtain ⟨o_2, eo_2, hE⟩ := cl_e hE
    have m1 := moX15_turnsBack eo_2
    have m2 := moX15_countRows_92 mr_X15_countRows mk_46 hE
    refine x_kIA (o := o_2) hkl (z_runV (As := [.int (x1 + (1 : Int32))]) (rest := []) C (ct_X15_turnsBack l X F k_x0 eo_2) cw_X15_676 hW hZ k_x0 (by decide) rfl rfl rfl hl.1 (Nat.le_of_ble_eq_true rfl) rfl dX15_countRows_89 ⟨by dsimp only [rm, rmA]; omega, by dsimp only [rm, rmA]; omega⟩ (rm_ok hkl m1 m2)) hZ (fun _ _ hW km hZ => ?_)
    replace hkl := hkl.tr km
    replace k_x0 := km.at k_x0 (by decide)
    replace k_x4 := km.at k_x4 (by decide)
    replace k_x5 := km.at k_x5 (by decide)
    exact bX15_countRows_92 C hr_X15_countRows mr_X15_countRows hk_46 mk_46 k_x0 k_x4 k_x5 hkl hW hZ _ (lv_sub hl [0, 1, 2, 3, 4, 5, 6, 7] rfl) hE
set_option maxRecDepth 20000 in
theorem bX15_countRows_78 {p : Program} {l : Launch} {e : Env} {s : State} {m : MethodId} {args : Array Value} {below : List Frame} {meth : Method} {c : Code} {X : Ec} {h0 : Hp} {o : Int32 × Hp} {d : Nat} {r_X15_countRows : Hp → Nat → Int32 → Int32 → Int32 → Option (Int32 × Hp)} {k_46 : Hp → Nat → Int32 → Int32 → Int32 → Nat → Nat → Int32 → Int32 → Option (Int32 × Hp)} {F : Nat} (C : Cx X p s m args meth c RX15 cX15_countRows 8 (some .int) "countRows") (hr_X15_countRows : ∀ {h : Hp} {x0 : Nat} {x1 : Int32} {x2 : Int32} {x3 : Int32} {o : Int32 × Hp}, hK h x0 = 15 → r_X15_countRows h x0 x1 x2 x3 = some o → MetIA l yX15_countRows cX15_countRows 8 (some .int)  (d + 9) (d * 27 + 214) X [.ref x0, .int x1, .int x2, .int x3] h o) (mr_X15_countRows : ∀ {h : Hp} {x0 : Nat} {x1 : Int32} {x2 : Int32} {x3 : Int32} {o : Int32 × Hp}, r_X15_countRows h x0 x1 x2 x3 = some o → Le h o.2) (hk_46 : ∀ (h : Hp) (x0 : Nat) (x1 : Int32) (x2 : Int32) (x3 : Int32) (x4 : Nat) (x5 : Nat) (x6 : Int32) (x7 : Int32) (H : Heap) (locs : List Loc), hK h x0 = 15 → hK h x4 = 12 → hK h x5 = 13 → Kl h0 h → Wx X h H → va_S (aA (eB X)) s.heap H locs → ∀ (ls : Array Slot), lv_has ls 8 [(0, .ref x0), (1, .int x1), (2, .int x2), (3, .int x3), (4, .ref x4), (5, .ref x5), (6, .int x6), (7, .int x7)] → k_46 h x0 x1 x2 x3 x4 x5 x6 x7 = some o → W p l e (rmA (d + 1 + 9) ((d + 1) * 27 + 214) h0 o.2) s m args below meth c H locs (hS h - hS h0) (hL h - hL h0) (MQ below (QIA X h0 o.1 o.2) args s (hS o.2 - hS h0) (hL o.2 - hL h0) (aA (eB X))) (F0 m 46 ls [])) (mk_46 : ∀ (h : Hp) (x0 : Nat) (x1 : Int32) (x2 : Int32) (x3 : Int32) (x4 : Nat) (x5 : Nat) (x6 : Int32) (x7 : Int32), k_46 h x0 x1 x2 x3 x4 x5 x6 x7 = some o → Le h o.2) {h : Hp} {x0 : Nat} {x1 : Int32} {x2 : Int32} {x3 : Int32} {x4 : Nat} {x5 : Nat} {x6 : Int32} {x7 : Int32} {t0 : Nat} {t1 : Int32} {t2 : Nat} {t3 : Nat} {t4 : Nat} {H : Heap} {locs : List Loc} (k_x0 : hK h x0 = 15) (k_x4 : hK h x4 = 12) (k_x5 : hK h x5 = 13) (k_t0 : hK h t0 = 12) (k_t2 : hK h t2 = 13) (k_t3 : hK h t3 = 12) (k_t4 : hK h t4 = 15) (hkl : Kl h0 h) (hW : Wx X h H) (hZ : va_S (aA (eB X)) s.heap H locs) (ls : Array Slot) (hl : lv_has ls 8 [(0, .ref x0), (1, .int x1), (2, .int x2), (3, .int x3), (4, .ref x4), (5, .ref x5), (6, .int x6), (7, .int x7)]) (hE : sX15_countRows_78 F r_X15_countRows k_46 h x0 x1 x2 x3 x4 x5 x6 x7 t0 t1 t2 t3 t4 = some o) : W p l e (rmA (d + 1 + 9) ((d + 1) * 27 + 214) h0 o.2) s m args below meth c H locs (hS h - hS h0) (hL h - hL h0) (MQ below (QIA X h0 o.1 o.2) args s (hS o.2 - hS h0) (hL o.2 - hL h0) (aA (eB X))) (F0 m 78 ls [.ref t0, .int t1, .ref t2, .ref t3, .ref t4]) := by
  obtain ⟨o_1, eo_1, hE⟩ := cl_e hE
  have m1 := moX15_make eo_1
  have m2 := moX15_countRows_81 mr_X15_countRows mk_46 hE
  refine x_kV (o := o_1) (z_runV (As := [.ref t3, .ref t2, .int t1, .ref t0]) (rest := []) C (ct_X15_make l X F k_t4 k_t3 k_t2 k_t0 eo_1) cw_X15_627 hW hZ k_t4 (by decide) rfl rfl rfl hl.1 (Nat.le_of_ble_eq_true rfl) rfl dX15_countRows_78 ⟨by dsimp only [rm, rmA]; omega, by dsimp only [rm, rmA]; omega⟩ (rm_ok0 hkl m1 m2)) hZ (fun _ _ hW km hZ => ?_)
  replace hkl := hkl.tr km.l
  refine x_wc km ?_
  replace k_x0 := km.at k_x0 (by decide)
  replace k_x4 := km.at k_x4 (by decide)
  replace k_x5 := km.at k_x5 (by decide)
  exact bX15_countRows_81 C hr_X15_countRows mr_X15_countRows hk_46 mk_46 k_x0 k_x4 k_x5 hkl hW hZ _ (lv_sub hl [0, 1, 2, 3, 4, 5, 6, 7] rfl) hE
set_option maxRecDepth 20000 in
theorem bX15_countRows_46 {p : Program} {l : Launch} {e : Env} {s : State} {m : MethodId} {args : Array Value} {below : List Frame} {meth : Method} {c : Code} {X : Ec} {h0 : Hp} {o : Int32 × Hp} {d : Nat} {r_X15_countRows : Hp → Nat → Int32 → Int32 → Int32 → Option (Int32 × Hp)} {F : Nat} (C : Cx X p s m args meth c RX15 cX15_countRows 8 (some .int) "countRows") (hr_X15_countRows : ∀ {h : Hp} {x0 : Nat} {x1 : Int32} {x2 : Int32} {x3 : Int32} {o : Int32 × Hp}, hK h x0 = 15 → r_X15_countRows h x0 x1 x2 x3 = some o → MetIA l yX15_countRows cX15_countRows 8 (some .int)  (d + 9) (d * 27 + 214) X [.ref x0, .int x1, .int x2, .int x3] h o) (mr_X15_countRows : ∀ {h : Hp} {x0 : Nat} {x1 : Int32} {x2 : Int32} {x3 : Int32} {o : Int32 × Hp}, r_X15_countRows h x0 x1 x2 x3 = some o → Le h o.2) : ∀ (f : Nat) {h : Hp} {x0 : Nat} {x1 : Int32} {x2 : Int32} {x3 : Int32} {x4 : Nat} {x5 : Nat} {x6 : Int32} {x7 : Int32} {H : Heap} {locs : List Loc} (k_x0 : hK h x0 = 15) (k_x4 : hK h x4 = 12) (k_x5 : hK h x5 = 13), Kl h0 h → Wx X h H → va_S (aA (eB X)) s.heap H locs → ∀ (ls : Array Slot), lv_has ls 8 [(0, .ref x0), (1, .int x1), (2, .int x2), (3, .int x3), (4, .ref x4), (5, .ref x5), (6, .int x6), (7, .int x7)] → sX15_countRows_46 F r_X15_countRows f h x0 x1 x2 x3 x4 x5 x6 x7 = some o → W p l e (rmA (d + 1 + 9) ((d + 1) * 27 + 214) h0 o.2) s m args below meth c H locs (hS h - hS h0) (hL h - hL h0) (MQ below (QIA X h0 o.1 o.2) args s (hS o.2 - hS h0) (hL o.2 - hL h0) (aA (eB X))) (F0 m 46 ls []) := by
  intro f
  induction f with
  | zero =>
    intro h x0 x1 x2 x3 x4 x5 x6 x7 H locs k_x0 k_x4 k_x5 hkl hW hZ ls hl hE
    rw [sX15_countRows_46] at hE
    cases hE
  | succ f ih =>
    intro h x0 x1 x2 x3 x4 x5 x6 x7 H locs k_x0 k_x4 k_x5 hkl hW hZ ls hl hE
    rw [sX15_countRows_46] at hE
    have mk_46 : ∀ (h : Hp) (x0 : Nat) (x1 : Int32) (x2 : Int32) (x3 : Int32) (x4 : Nat) (x5 : Nat) (x6 : Int32) (x7 : Int32), sX15_countRows_46 F r_X15_countRows f h x0 x1 x2 x3 x4 x5 x6 x7 = some o → Le h o.2 := fun h x0 x1 x2 x3 x4 x5 x6 x7 hE => moX15_countRows_46 mr_X15_countRows _ hE
    have hk_46 : ∀ (h : Hp) (x0 : Nat) (x1 : Int32) (x2 : Int32) (x3 : Int32) (x4 : Nat) (x5 : Nat) (x6 : Int32) (x7 : Int32) (H : Heap) (locs : List Loc), hK h x0 = 15 → hK h x4 = 12 → hK h x5 = 13 → Kl h0 h → Wx X h H → va_S (aA (eB X)) s.heap H locs → ∀ (ls : Array Slot), lv_has ls 8 [(0, .ref x0), (1, .int x1), (2, .int x2), (3, .int x3), (4, .ref x4), (5, .ref x5), (6, .int x6), (7, .int x7)] → sX15_countRows_46 F r_X15_countRows f h x0 x1 x2 x3 x4 x5 x6 x7 = some o → W p l e (rmA (d + 1 + 9) ((d + 1) * 27 + 214) h0 o.2) s m args below meth c H locs (hS h - hS h0) (hL h - hL h0) (MQ below (QIA X h0 o.1 o.2) args s (hS o.2 - hS h0) (hL o.2 - hL h0) (aA (eB X))) (F0 m 46 ls []) := fun h x0 x1 x2 x3 x4 x5 x6 x7 H locs k_x0 k_x4 k_x5 a b c ls hl hE => ih k_x0 k_x4 k_x5 a b c ls hl hE
    refine lv_iload C.1 C.2.1 dX15_countRows_46 (lv_at hl 7 rfl) ?_
    refine lv_aload C.1 C.2.1 dX15_countRows_48 (lv_at hl 5 rfl) ?_
    refine gf_X15_575 C hW k_x5 dX15_countRows_50 ?_
    refine lv_icmp_ge (tgt := 117) C.1 C.2.1 dX15_countRows_53 (by decide) (fun c_1 => ?_) (fun c_1 => ?_)
    · have hE := br_p hE c_1
      exact bX15_countRows_117 C hr_X15_countRows mr_X15_countRows hkl hW hZ _ (lv_sub hl [6] rfl) hE
    · have hE := br_n hE c_1
      refine lv_iload C.1 C.2.1 dX15_countRows_56 (lv_at hl 6 rfl) ?_
      refine lv_ldcw (v := (100000 : Int32)) C.1 C.2.1 C.2.2.2.1 (C.2.2.2.2.1 _ m_2626) dX15_countRows_58 ?_
      refine lv_icmp_gt (tgt := 117) C.1 C.2.1 dX15_countRows_61 (by decide) (fun c_2 => ?_) (fun c_2 => ?_)
      · have hE := br_p hE c_2
        exact bX15_countRows_117 C hr_X15_countRows mr_X15_countRows hkl hW hZ _ (lv_sub hl [6] rfl) hE
      · have hE := br_n hE c_2
        refine lv_aload_n C.1 C.2.1 dX15_countRows_64 rfl (lv_at hl 0 rfl) ?_
        refine lv_aload C.1 C.2.1 dX15_countRows_65 (lv_at hl 4 rfl) ?_
        refine lv_aload C.1 C.2.1 dX15_countRows_67 (lv_at hl 5 rfl) ?_
        refine lv_iload C.1 C.2.1 dX15_countRows_69 (lv_at hl 7 rfl) ?_
        refine lv_aload_n C.1 C.2.1 dX15_countRows_71 rfl (lv_at hl 0 rfl) ?_
        refine lv_iload_n C.1 C.2.1 dX15_countRows_72 rfl (lv_at hl 1 rfl) ?_
        refine lv_iconst (v := (1 : Int32)) C.1 C.2.1 dX15_countRows_73 (by decide) ?_
        refine lv_iadd C.1 C.2.1 dX15_countRows_74 ?_
        obtain ⟨o_3, eo_3, hE⟩ := cl_e hE
        have m1 := moX15_deepBoard eo_3
        have m2 := moX15_countRows_78 mr_X15_countRows mk_46 hE
        refine x_kRA (o := o_3) hkl (z_runV (As := [.int (x1 + (1 : Int32))]) (rest := [.int x7, .ref x5, .ref x4, .ref x0]) C (ct_X15_deepBoard l X k_x0 eo_3) cw_X15_671 hW hZ k_x0 (by decide) rfl rfl rfl hl.1 (Nat.le_of_ble_eq_true rfl) rfl dX15_countRows_75 ⟨by dsimp only [rm, rmA]; omega, by dsimp only [rm, rmA]; omega⟩ (rm_ok hkl m1 m2)) hZ (fun _ _ hW km k_o_3_1 hZ => ?_)
        replace hkl := hkl.tr km
        replace k_x0 := km.at k_x0 (by decide)
        replace k_x4 := km.at k_x4 (by decide)
        replace k_x5 := km.at k_x5 (by decide)
        exact bX15_countRows_78 C hr_X15_countRows mr_X15_countRows hk_46 mk_46 k_x0 k_x4 k_x5 k_o_3_1 k_x5 k_x4 k_x0 hkl hW hZ _ (lv_sub hl [0, 1, 2, 3, 4, 5, 6, 7] rfl) hE
set_option maxRecDepth 20000 in
theorem bX15_countRows_29 {p : Program} {l : Launch} {e : Env} {s : State} {m : MethodId} {args : Array Value} {below : List Frame} {meth : Method} {c : Code} {X : Ec} {h0 : Hp} {o : Int32 × Hp} {d : Nat} {r_X15_countRows : Hp → Nat → Int32 → Int32 → Int32 → Option (Int32 × Hp)} {F : Nat} (C : Cx X p s m args meth c RX15 cX15_countRows 8 (some .int) "countRows") (hr_X15_countRows : ∀ {h : Hp} {x0 : Nat} {x1 : Int32} {x2 : Int32} {x3 : Int32} {o : Int32 × Hp}, hK h x0 = 15 → r_X15_countRows h x0 x1 x2 x3 = some o → MetIA l yX15_countRows cX15_countRows 8 (some .int)  (d + 9) (d * 27 + 214) X [.ref x0, .int x1, .int x2, .int x3] h o) (mr_X15_countRows : ∀ {h : Hp} {x0 : Nat} {x1 : Int32} {x2 : Int32} {x3 : Int32} {o : Int32 × Hp}, r_X15_countRows h x0 x1 x2 x3 = some o → Le h o.2) {h : Hp} {x0 : Nat} {x1 : Int32} {x2 : Int32} {x3 : Int32} {x4 : Nat} {x5 : Nat} {H : Heap} {locs : List Loc} (k_x0 : hK h x0 = 15) (k_x4 : hK h x4 = 12) (k_x5 : hK h x5 = 13) (hkl : Kl h0 h) (hW : Wx X h H) (hZ : va_S (aA (eB X)) s.heap H locs) (ls : Array Slot) (hl : lv_has ls 8 [(0, .ref x0), (1, .int x1), (2, .int x2), (3, .int x3), (4, .ref x4), (5, .ref x5)]) (hE : sX15_countRows_29 F r_X15_countRows h x0 x1 x2 x3 x4 x5 = some o) : W p l e (rmA (d + 1 + 9) ((d + 1) * 27 + 214) h0 o.2) s m args below meth c H locs (hS h - hS h0) (hL h - hL h0) (MQ below (QIA X h0 o.1 o.2) args s (hS o.2 - hS h0) (hL o.2 - hL h0) (aA (eB X))) (F0 m 29 ls []) := by
  refine lv_iload_n C.1 C.2.1 dX15_countRows_29 rfl (lv_at hl 2 rfl) ?_
  refine lv_iconst (v := (1 : Int32)) C.1 C.2.1 dX15_countRows_30 (by decide) ?_
  refine lv_icmp_ne (tgt := 40) C.1 C.2.1 dX15_countRows_31 (by decide) (fun c_1 => ?_) (fun c_1 => ?_)
  · have hE := br_n hE c_1
    refine lv_iconst (v := (0 : Int32)) C.1 C.2.1 dX15_countRows_40 (by decide) ?_
    refine lv_istore (lv' := [(6, .int (0 : Int32)), (0, .ref x0), (1, .int x1), (2, .int x2), (3, .int x3), (4, .ref x4), (5, .ref x5)]) C.1 C.2.1 dX15_countRows_41 hl (by decide) rfl (fun ls hl => ?_)
    refine lv_iconst (v := (0 : Int32)) C.1 C.2.1 dX15_countRows_43 (by decide) ?_
    refine lv_istore (lv' := [(7, .int (0 : Int32)), (6, .int (0 : Int32)), (0, .ref x0), (1, .int x1), (2, .int x2), (3, .int x3), (4, .ref x4), (5, .ref x5)]) C.1 C.2.1 dX15_countRows_44 hl (by decide) rfl (fun ls hl => ?_)
    exact bX15_countRows_46 C hr_X15_countRows mr_X15_countRows F k_x0 k_x4 k_x5 hkl hW hZ _ (lv_sub hl [2, 3, 4, 5, 6, 7, 1, 0] rfl) hE
  · have hE := br_p hE c_1
    refine lv_aload C.1 C.2.1 dX15_countRows_34 (lv_at hl 5 rfl) ?_
    refine gf_X15_575 C hW k_x5 dX15_countRows_36 ?_
    exact x_iretA C rfl rfl hW hZ hkl hE dX15_countRows_39
set_option maxRecDepth 20000 in
theorem bX15_countRows_11 {p : Program} {l : Launch} {e : Env} {s : State} {m : MethodId} {args : Array Value} {below : List Frame} {meth : Method} {c : Code} {X : Ec} {h0 : Hp} {o : Int32 × Hp} {d : Nat} {r_X15_countRows : Hp → Nat → Int32 → Int32 → Int32 → Option (Int32 × Hp)} {F : Nat} (C : Cx X p s m args meth c RX15 cX15_countRows 8 (some .int) "countRows") (hr_X15_countRows : ∀ {h : Hp} {x0 : Nat} {x1 : Int32} {x2 : Int32} {x3 : Int32} {o : Int32 × Hp}, hK h x0 = 15 → r_X15_countRows h x0 x1 x2 x3 = some o → MetIA l yX15_countRows cX15_countRows 8 (some .int)  (d + 9) (d * 27 + 214) X [.ref x0, .int x1, .int x2, .int x3] h o) (mr_X15_countRows : ∀ {h : Hp} {x0 : Nat} {x1 : Int32} {x2 : Int32} {x3 : Int32} {o : Int32 × Hp}, r_X15_countRows h x0 x1 x2 x3 = some o → Le h o.2) {h : Hp} {x0 : Nat} {x1 : Int32} {x2 : Int32} {x3 : Int32} {t0 : Nat} {H : Heap} {locs : List Loc} (k_x0 : hK h x0 = 15) (k_t0 : hK h t0 = 12) (hkl : Kl h0 h) (hW : Wx X h H) (hZ : va_S (aA (eB X)) s.heap H locs) (ls : Array Slot) (hl : lv_has ls 8 [(0, .ref x0), (1, .int x1), (2, .int x2), (3, .int x3)]) (hE : sX15_countRows_11 F r_X15_countRows h x0 x1 x2 x3 t0 = some o) : W p l e (rmA (d + 1 + 9) ((d + 1) * 27 + 214) h0 o.2) s m args below meth c H locs (hS h - hS h0) (hL h - hL h0) (MQ below (QIA X h0 o.1 o.2) args s (hS o.2 - hS h0) (hL o.2 - hL h0) (aA (eB X))) (F0 m 11 ls [.ref t0]) := by
  refine lv_astore (lv' := [(4, .ref t0), (0, .ref x0), (1, .int x1), (2, .int x2), (3, .int x3)]) C.1 C.2.1 dX15_countRows_11 hl (by decide) rfl (fun ls hl => ?_)
  refine lv_aload_n C.1 C.2.1 dX15_countRows_13 rfl (lv_at hl 1 rfl) ?_
  obtain ⟨r_1, er_1, hE⟩ := cl_e hE
  refine gf_X15_301 C hW k_x0 er_1 dX15_countRows_14 (fun k_r_1 => ?_)
  refine lv_iload_n C.1 C.2.1 dX15_countRows_17 rfl (lv_at hl 2 rfl) ?_
  obtain ⟨g_2, hE⟩ := gd_e hE
  obtain ⟨r_3, er_3, hE⟩ := cl_e hE
  refine y_aald (t0 := 6) C hW k_r_1 (by decide) (by decide) rfl rfl rfl (fun _ => rfl) g_2 er_3 dX15_countRows_18 (fun k_r_3 => ?_)
  refine lv_astore (lv' := [(5, .ref r_3), (4, .ref t0), (0, .ref x0), (1, .int x1), (2, .int x2), (3, .int x3)]) C.1 C.2.1 dX15_countRows_19 hl (by decide) rfl (fun ls hl => ?_)
  refine lv_aload_n C.1 C.2.1 dX15_countRows_21 rfl (lv_at hl 2 rfl) ?_
  refine lv_aload C.1 C.2.1 dX15_countRows_22 (lv_at hl 1 rfl) ?_
  refine lv_aload C.1 C.2.1 dX15_countRows_24 (lv_at hl 0 rfl) ?_
  obtain ⟨o_4, eo_4, hE⟩ := cl_e hE
  have m1 := moX15_legal eo_4
  have m2 := moX15_countRows_29 mr_X15_countRows hE
  refine x_kV (o := o_4) (z_runV (As := [.ref t0, .ref r_3]) (rest := []) C (ct_X15_legal l X F k_x0 k_t0 k_r_3 eo_4) cw_X15_652 hW hZ k_x0 (by decide) rfl rfl rfl hl.1 (Nat.le_of_ble_eq_true rfl) rfl dX15_countRows_26 ⟨by dsimp only [rm, rmA]; omega, by dsimp only [rm, rmA]; omega⟩ (rm_ok0 hkl m1 m2)) hZ (fun _ _ hW km hZ => ?_)
  replace hkl := hkl.tr km.l
  refine x_wc km ?_
  replace k_r_3 := km.at k_r_3 (by decide)
  replace k_t0 := km.at k_t0 (by decide)
  replace k_x0 := km.at k_x0 (by decide)
  exact bX15_countRows_29 C hr_X15_countRows mr_X15_countRows k_x0 k_t0 k_r_3 hkl hW hZ _ (lv_sub hl [2, 3, 4, 5, 1, 0] rfl) hE
set_option maxRecDepth 20000 in
theorem ot_X15_countRows (l : Launch) (X : Ec) (F : Nat) {d : Nat} {r_X15_countRows : Hp → Nat → Int32 → Int32 → Int32 → Option (Int32 × Hp)} (hr_X15_countRows : ∀ {h : Hp} {x0 : Nat} {x1 : Int32} {x2 : Int32} {x3 : Int32} {o : Int32 × Hp}, hK h x0 = 15 → r_X15_countRows h x0 x1 x2 x3 = some o → MetIA l yX15_countRows cX15_countRows 8 (some .int)  (d + 9) (d * 27 + 214) X [.ref x0, .int x1, .int x2, .int x3] h o) (mr_X15_countRows : ∀ {h : Hp} {x0 : Nat} {x1 : Int32} {x2 : Int32} {x3 : Int32} {o : Int32 × Hp}, r_X15_countRows h x0 x1 x2 x3 = some o → Le h o.2) {h : Hp} {x0 : Nat} {x1 : Int32} {x2 : Int32} {x3 : Int32} {o : Int32 × Hp} (k_x0 : hK h x0 = 15) (hE : oX15_countRows F r_X15_countRows h x0 x1 x2 x3 = some o) : MetIA l yX15_countRows cX15_countRows 8 (some .int) (d + 1 + 9) ((d + 1) * 27 + 214) X [.ref x0, .int x1, .int x2, .int x3] h o := by
  refine x_metA (oh := o.2) (by decide) (Nat.le_of_ble_eq_true rfl) ?_
  intro p e s m below meth c ls C hl hW hZ
  have hl : lv_has ls 8 [(0, .ref x0), (1, .int x1), (2, .int x2), (3, .int x3)] := hl
  have hkl : Kl h h := Kl.rf h
  refine lv_iload_n C.1 C.2.1 dX15_countRows_0 rfl (lv_at hl 2 rfl) ?_
  refine lv_if_ne (tgt := 6) C.1 C.2.1 dX15_countRows_1 (by decide) (fun c_1 => ?_) (fun c_1 => ?_)
  · have hE := br_n hE c_1
    refine lv_aload_n C.1 C.2.1 dX15_countRows_6 rfl (lv_at hl 0 rfl) ?_
    refine lv_iload_n C.1 C.2.1 dX15_countRows_7 rfl (lv_at hl 1 rfl) ?_
    obtain ⟨o_2, eo_2, hE⟩ := cl_e hE
    have m1 := moX15_deepBoard eo_2
    have m2 := moX15_countRows_11 mr_X15_countRows hE
    refine x_kRA (o := o_2) hkl (z_runV (As := [.int x1]) (rest := []) C (ct_X15_deepBoard l X k_x0 eo_2) cw_X15_671 hW hZ k_x0 (by decide) rfl rfl rfl hl.1 (Nat.le_of_ble_eq_true rfl) rfl dX15_countRows_8 ⟨by dsimp only [rm, rmA]; omega, by dsimp only [rm, rmA]; omega⟩ (rm_ok hkl m1 m2)) hZ (fun _ _ hW km k_o_2_1 hZ => ?_)
    replace hkl := hkl.tr km
    replace k_x0 := km.at k_x0 (by decide)
    exact bX15_countRows_11 C hr_X15_countRows mr_X15_countRows k_x0 k_o_2_1 hkl hW hZ _ (lv_sub hl [0, 1, 2, 3] rfl) hE
  · have hE := br_p hE c_1
    refine lv_iconst (v := (1 : Int32)) C.1 C.2.1 dX15_countRows_4 (by decide) ?_
    exact x_iretA C rfl rfl hW hZ hkl hE dX15_countRows_5
theorem qmX15_countRows (F : Nat) : ∀ (d : Nat), (∀ {h : Hp} {x0 : Nat} {x1 : Int32} {x2 : Int32} {x3 : Int32} {o : Int32 × Hp}, (qX15_countRows F d) h x0 x1 x2 x3 = some o → Le h o.2) := by
  intro d
  induction d with
  | zero => exact fun hE => (by cases hE)
  | succ d ih => exact fun hE => mooX15_countRows (ih) hE
theorem qtX15_countRows (l : Launch) (X : Ec) (F : Nat) : ∀ (d : Nat), (∀ {h : Hp} {x0 : Nat} {x1 : Int32} {x2 : Int32} {x3 : Int32} {o : Int32 × Hp}, hK h x0 = 15 → (qX15_countRows F d) h x0 x1 x2 x3 = some o → MetIA l yX15_countRows cX15_countRows 8 (some .int)  (d + 9) (d * 27 + 214) X [.ref x0, .int x1, .int x2, .int x3] h o) := by
  intro d
  induction d with
  | zero => exact fun k_x0 hE => (by cases hE)
  | succ d ih => exact fun k_x0 hE => ot_X15_countRows l X F (ih) (qmX15_countRows F d) k_x0 hE
theorem moX15_countRows {o : Int32 × Hp} {F : Nat} {h : Hp} {x0 : Nat} {x1 : Int32} {x2 : Int32} {x3 : Int32} (hE : sX15_countRows F h x0 x1 x2 x3 = some o) : Le h o.2 := (qmX15_countRows F 40) hE
theorem ct_X15_countRows (l : Launch) (X : Ec) (F : Nat) {h : Hp} {x0 : Nat} {x1 : Int32} {x2 : Int32} {x3 : Int32} {o : Int32 × Hp} (k_x0 : hK h x0 = 15) (hE : sX15_countRows F h x0 x1 x2 x3 = some o) : MetIA l yX15_countRows cX15_countRows 8 (some .int) 49 1294 X [.ref x0, .int x1, .int x2, .int x3] h o := (qtX15_countRows l X F 40) k_x0 hE
