set_option maxRecDepth 100000 in
theorem ms_134 : Cond.selects RX15 yX15_freePlace yX15_freePlace ∈ W0 := w0_in (List.mem_append_left _ (List.mem_of_getElem? (i := 134) rfl)) rfl
set_option maxRecDepth 100000 in
theorem m_2127 : Cond.fieldLink RX15 409 (TX15 16).1 (TX15 16).2.1 (TX15 16).2.2.1 ∈ W0 := w0_in (List.mem_append_right _ (List.mem_of_getElem? (i := 2127) rfl)) rfl
set_option maxRecDepth 100000 in
theorem m_2337 : Cond.methodLink RX15 402 yX15_freePlace ∈ W0 := w0_in (List.mem_append_right _ (List.mem_of_getElem? (i := 2337) rfl)) rfl
set_option maxRecDepth 100000 in
theorem m_2339 : Cond.instanceMethod yX15_freePlace ∈ W0 := w0_in (List.mem_append_right _ (List.mem_of_getElem? (i := 2339) rfl)) rfl
set_option maxRecDepth 100000 in
theorem m_2340 : Cond.code yX15_freePlace cX15_freePlace 2 (some .int) ∈ W0 := w0_in (List.mem_append_right _ (List.mem_of_getElem? (i := 2340) rfl)) rfl
set_option maxRecDepth 100000 in
theorem m_2458 : Cond.methodLink RX15 405 yX12_copy ∈ W0 := w0_in (List.mem_append_right _ (List.mem_of_getElem? (i := 2458) rfl)) rfl
set_option maxRecDepth 100000 in
theorem m_2459 : Cond.instanceMethod yX12_copy ∈ W0 := w0_in (List.mem_append_right _ (List.mem_of_getElem? (i := 2459) rfl)) rfl
set_option maxRecDepth 100000 in
theorem m_2460 : Cond.selects RX12 yX12_copy yX12_copy ∈ W0 := w0_in (List.mem_append_right _ (List.mem_of_getElem? (i := 2460) rfl)) rfl
set_option maxRecDepth 100000 in
theorem m_2461 : Cond.code yX12_copy cX12_copy 2 none ∈ W0 := w0_in (List.mem_append_right _ (List.mem_of_getElem? (i := 2461) rfl)) rfl
section
variable {p : Program} {l : Launch} {e : Env} {R : Room} {s : State} {m : MethodId} {args : Array Value} {below : List Frame} {meth : Method} {c : Code} {H : Heap} {locs : List Loc} {cells slots : Nat} {Q : State → Prop}
variable {cc : ByteArray} {pc : Nat} {ls : Array Slot} {rest : List Value} {X : Ec} {h h1 : Hp} {nL : Nat} {rt : Option FieldType} {mn : String}
theorem gf_X15_409 {a : Nat} (C : Cx X p s m args meth c RX15 cc nL rt mn) (hW : Wx X h H) (ha : hK h a = 15) (hdg : decode cc pc = .ok (.getfield 409, 3)) (kk : W p l e R s m args below meth c H locs cells slots Q (F0 m (pc + 3) ls (.int (hI h a 16) :: rest))) : W p l e R s m args below meth c H locs cells slots Q (F0 m pc ls (.ref a :: rest)) :=
  y_geti C hW ha i_X15 (by decide) rfl (by decide) m_2127 rfl hdg kk
theorem pf_X15_409 {a : Nat} {v : Int32} (C : Cx X p s m args meth c RX15 cc nL rt mn) (hW : Wx X h H) (hZ : va_S (aA (eB X)) s.heap H locs) (ha : hK h a = 15) (eh : h1 = wI h a 16 v) (hdg : decode cc pc = .ok (.putfield 409, 3)) (kk : ∀ (H1 : Heap) (locs1 : List Loc), Wx X h1 H1 → Km h h1 → va_S (aA (eB X)) s.heap H1 locs1 → W p l e R s m args below meth c H1 locs1 cells slots Q (F0 m (pc + 3) ls rest)) : W p l e R s m args below meth c H locs cells slots Q (F0 m pc ls (.int v :: .ref a :: rest)) :=
  y_puti (ty := .int) C hW hZ ha i_X15 tyX15 tyX15_ok nmX15 (by decide) rfl rfl (by decide) m_2127 rfl (by decide +kernel) rfl rfl rfl eh hdg kk
theorem gf_X15_257 {a r : Nat} (C : Cx X p s m args meth c RX15 cc nL rt mn) (hW : Wx X h H) (ha : hK h a = 15) (hr : hR h a 14 = some r) (hdg : decode cc pc = .ok (.getfield 257, 3)) (kk : hK h r = 21 → W p l e R s m args below meth c H locs cells slots Q (F0 m (pc + 3) ls (.ref r :: rest))) : W p l e R s m args below meth c H locs cells slots Q (F0 m pc ls (.ref a :: rest)) :=
  y_getr C hW ha i_X15 (by decide) rfl (by decide) m_2125 rfl rfl hr hdg kk
end
theorem cw_X15_405 : cwd RX15 405 yX12_copy cX12_copy 2 none false 1 := ⟨m_2461, m_2458, m_21, ⟨m_2459, m_2460⟩, by decide, by decide, by decide +kernel⟩
theorem cw_X15_402 : cwd RX15 402 yX15_freePlace cX15_freePlace 2 (some .int) false 0 := ⟨m_2340, m_2337, m_19, ⟨m_2339, ms_134⟩, by decide, by decide, by decide +kernel⟩
theorem dX15_keep_0 : decode cX15_keep 0 = .ok (.aload_n 0, 1) := by decide +kernel
theorem dX15_keep_1 : decode cX15_keep 1 = .ok (.invokevirtual 402, 3) := by decide +kernel
theorem dX15_keep_4 : decode cX15_keep 4 = .ok (.istore_n 2, 1) := by decide +kernel
theorem dX15_keep_5 : decode cX15_keep 5 = .ok (.iload_n 2, 1) := by decide +kernel
theorem dX15_keep_6 : decode cX15_keep 6 = .ok (.iconst (-1), 1) := by decide +kernel
theorem dX15_keep_7 : decode cX15_keep 7 = .ok (.if_icmp .ne 6, 3) := by decide +kernel
theorem dX15_keep_10 : decode cX15_keep 10 = .ok (.bipush (-104), 2) := by decide +kernel
theorem dX15_keep_12 : decode cX15_keep 12 = .ok (.ireturn, 1) := by decide +kernel
theorem dX15_keep_13 : decode cX15_keep 13 = .ok (.aload_n 0, 1) := by decide +kernel
theorem dX15_keep_14 : decode cX15_keep 14 = .ok (.getfield 257, 3) := by decide +kernel
theorem dX15_keep_17 : decode cX15_keep 17 = .ok (.iload_n 2, 1) := by decide +kernel
theorem dX15_keep_18 : decode cX15_keep 18 = .ok (.aaload, 1) := by decide +kernel
theorem dX15_keep_19 : decode cX15_keep 19 = .ok (.ifnonnull 16, 3) := by decide +kernel
theorem dX15_keep_22 : decode cX15_keep 22 = .ok (.aload_n 0, 1) := by decide +kernel
theorem dX15_keep_23 : decode cX15_keep 23 = .ok (.getfield 257, 3) := by decide +kernel
theorem dX15_keep_26 : decode cX15_keep 26 = .ok (.iload_n 2, 1) := by decide +kernel
theorem dX15_keep_27 : decode cX15_keep 27 = .ok (.new 255, 3) := by decide +kernel
theorem dX15_keep_30 : decode cX15_keep 30 = .ok (.dup, 1) := by decide +kernel
theorem dX15_keep_31 : decode cX15_keep 31 = .ok (.invokespecial 264, 3) := by decide +kernel
theorem dX15_keep_34 : decode cX15_keep 34 = .ok (.aastore, 1) := by decide +kernel
theorem dX15_keep_35 : decode cX15_keep 35 = .ok (.aload_n 0, 1) := by decide +kernel
theorem dX15_keep_36 : decode cX15_keep 36 = .ok (.getfield 257, 3) := by decide +kernel
theorem dX15_keep_39 : decode cX15_keep 39 = .ok (.iload_n 2, 1) := by decide +kernel
theorem dX15_keep_40 : decode cX15_keep 40 = .ok (.aaload, 1) := by decide +kernel
theorem dX15_keep_41 : decode cX15_keep 41 = .ok (.aload_n 1, 1) := by decide +kernel
theorem dX15_keep_42 : decode cX15_keep 42 = .ok (.invokevirtual 405, 3) := by decide +kernel
theorem dX15_keep_45 : decode cX15_keep 45 = .ok (.aload_n 0, 1) := by decide +kernel
theorem dX15_keep_46 : decode cX15_keep 46 = .ok (.dup, 1) := by decide +kernel
theorem dX15_keep_47 : decode cX15_keep 47 = .ok (.getfield 409, 3) := by decide +kernel
theorem dX15_keep_50 : decode cX15_keep 50 = .ok (.iconst 1, 1) := by decide +kernel
theorem dX15_keep_51 : decode cX15_keep 51 = .ok (.iadd, 1) := by decide +kernel
theorem dX15_keep_52 : decode cX15_keep 52 = .ok (.putfield 409, 3) := by decide +kernel
theorem dX15_keep_55 : decode cX15_keep 55 = .ok (.aload_n 0, 1) := by decide +kernel
theorem dX15_keep_56 : decode cX15_keep 56 = .ok (.getfield 261, 3) := by decide +kernel
theorem dX15_keep_59 : decode cX15_keep 59 = .ok (.iload_n 2, 1) := by decide +kernel
theorem dX15_keep_60 : decode cX15_keep 60 = .ok (.aload_n 0, 1) := by decide +kernel
theorem dX15_keep_61 : decode cX15_keep 61 = .ok (.getfield 409, 3) := by decide +kernel
theorem dX15_keep_64 : decode cX15_keep 64 = .ok (.iastore, 1) := by decide +kernel
theorem dX15_keep_65 : decode cX15_keep 65 = .ok (.iload_n 2, 1) := by decide +kernel
theorem dX15_keep_66 : decode cX15_keep 66 = .ok (.ireturn, 1) := by decide +kernel
def sX15_keep_45 (F : Nat) (h : Hp) (x0 : Nat) (x2 : Int32) : Option (Int32 × Hp) := nm (wI h x0 16 ((hI h x0 16) + (1 : Int32))) fun h_1 => cl (hR h_1 x0 15) fun r_2 => gd (inB x2 (hN h_1 r_2)) <| nm (wI h_1 r_2 x2.toNatClampNeg (hI h_1 x0 16)) fun h_4 => some (x2, h_4)
def sX15_keep_35 (F : Nat) (h : Hp) (x0 : Nat) (x1 : Nat) (x2 : Int32) : Option (Int32 × Hp) := cl (hR h x0 14) fun r_1 => gd (inB x2 (hN h r_1)) <| cl (hR h r_1 x2.toNatClampNeg) fun r_3 => cl (sX12_copy h r_3 x1) fun o_4 => sX15_keep_45 F o_4 x0 x2
def sX15_keep_34 (F : Nat) (h : Hp) (x0 : Nat) (x1 : Nat) (x2 : Int32) (t0 : Nat) (t1 : Int32) (t2 : Nat) : Option (Int32 × Hp) := gd (inB t1 (hN h t2)) <| nm (wR h t2 t1.toNatClampNeg (some t0)) fun h_2 => sX15_keep_35 F h_2 x0 x1 x2
def sX15_keep_30 (F : Nat) (h : Hp) (x0 : Nat) (x1 : Nat) (x2 : Int32) (t0 : Nat) (t1 : Int32) (t2 : Nat) : Option (Int32 × Hp) := cl (sX12_init h t0) fun o_1 => sX15_keep_34 F o_1 x0 x1 x2 t0 t1 t2
def sX15_keep_4 (F : Nat) (h : Hp) (x0 : Nat) (x1 : Nat) (t0 : Int32) : Option (Int32 × Hp) := br (t0 = (-1 : Int32)) (some ((-104 : Int32), h)) (cl (hR h x0 14) fun r_2 => gd (inB t0 (hN h r_2)) <| onr (hR h r_2 t0.toNatClampNeg) (cl (hR h x0 14) fun r_6 => nm (hS h) fun a_7 => nm (nC h 12 0 8) fun h_8 => sX15_keep_30 F h_8 x0 x1 t0 a_7 t0 r_6) (fun r_4 => sX15_keep_35 F h x0 x1 t0))
def sX15_keep (F : Nat) (h : Hp) (x0 : Nat) (x1 : Nat) : Option (Int32 × Hp) := cl (sX15_freePlace F h x0) fun o_1 => sX15_keep_4 F o_1.2 x0 x1 o_1.1
set_option maxRecDepth 20000 in
theorem moX15_keep_45 {o : Int32 × Hp} {F : Nat} {h : Hp} {x0 : Nat} {x2 : Int32} (hE : sX15_keep_45 F h x0 x2 = some o) : Le h o.2 := by
  obtain ⟨h_1, eh_1, hE⟩ := nm_e2 hE
  refine (le_I eh_1).tr ?_
  obtain ⟨r_2, er_2, hE⟩ := cl_e hE
  obtain ⟨g_3, hE⟩ := gd_e hE
  obtain ⟨h_4, eh_4, hE⟩ := nm_e2 hE
  refine (le_I eh_4).tr ?_
  exact le_some2 hE
set_option maxRecDepth 20000 in
theorem moX15_keep_35 {o : Int32 × Hp} {F : Nat} {h : Hp} {x0 : Nat} {x1 : Nat} {x2 : Int32} (hE : sX15_keep_35 F h x0 x1 x2 = some o) : Le h o.2 := by
  obtain ⟨r_1, er_1, hE⟩ := cl_e hE
  obtain ⟨g_2, hE⟩ := gd_e hE
  obtain ⟨r_3, er_3, hE⟩ := cl_e hE
  obtain ⟨o_4, eo_4, hE⟩ := cl_e hE
  refine (moX12_copy eo_4).tr ?_
  exact moX15_keep_45 hE
set_option maxRecDepth 20000 in
theorem moX15_keep_34 {o : Int32 × Hp} {F : Nat} {h : Hp} {x0 : Nat} {x1 : Nat} {x2 : Int32} {t0 : Nat} {t1 : Int32} {t2 : Nat} (hE : sX15_keep_34 F h x0 x1 x2 t0 t1 t2 = some o) : Le h o.2 := by
  obtain ⟨g_1, hE⟩ := gd_e hE
  obtain ⟨h_2, eh_2, hE⟩ := nm_e2 hE
  refine (le_R eh_2).tr ?_
  exact moX15_keep_35 hE
set_option maxRecDepth 20000 in
theorem moX15_keep_30 {o : Int32 × Hp} {F : Nat} {h : Hp} {x0 : Nat} {x1 : Nat} {x2 : Int32} {t0 : Nat} {t1 : Int32} {t2 : Nat} (hE : sX15_keep_30 F h x0 x1 x2 t0 t1 t2 = some o) : Le h o.2 := by
  obtain ⟨o_1, eo_1, hE⟩ := cl_e hE
  refine (moX12_init eo_1).tr ?_
  exact moX15_keep_34 hE
set_option maxRecDepth 20000 in
theorem moX15_keep_4 {o : Int32 × Hp} {F : Nat} {h : Hp} {x0 : Nat} {x1 : Nat} {t0 : Int32} (hE : sX15_keep_4 F h x0 x1 t0 = some o) : Le h o.2 := by
  rcases br_e hE with ⟨_, hE⟩ | ⟨_, hE⟩
  · exact le_some2 hE
  · obtain ⟨r_2, er_2, hE⟩ := cl_e hE
    obtain ⟨g_3, hE⟩ := gd_e hE
    rcases onr_e hE with hE | ⟨r_4, hE⟩
    · obtain ⟨r_6, er_6, hE⟩ := cl_e hE
      obtain ⟨a_7, ea_7, hE⟩ := nm_e2 hE
      obtain ⟨h_8, eh_8, hE⟩ := nm_e2 hE
      refine (le_C eh_8).tr ?_
      exact moX15_keep_30 hE
    · exact moX15_keep_35 hE
set_option maxRecDepth 20000 in
theorem moX15_keep {o : Int32 × Hp} {F : Nat} {h : Hp} {x0 : Nat} {x1 : Nat} (hE : sX15_keep F h x0 x1 = some o) : Le h o.2 := by
  obtain ⟨o_1, eo_1, hE⟩ := cl_e hE
  refine (moX15_freePlace eo_1).tr ?_
  exact moX15_keep_4 hE
set_option maxRecDepth 20000 in
theorem bX15_keep_45 {p : Program} {l : Launch} {e : Env} {s : State} {m : MethodId} {args : Array Value} {below : List Frame} {meth : Method} {c : Code} {X : Ec} {h0 : Hp} {o : Int32 × Hp} {F : Nat} (C : Cx X p s m args meth c RX15 cX15_keep 3 (some .int) "keep") {h : Hp} {x0 : Nat} {x2 : Int32} {H : Heap} {locs : List Loc} (k_x0 : hK h x0 = 15) (hkl : Kl h0 h) (hW : Wx X h H) (hZ : va_S (aA (eB X)) s.heap H locs) (ls : Array Slot) (hl : lv_has ls 3 [(0, .ref x0), (2, .int x2)]) (hE : sX15_keep_45 F h x0 x2 = some o) : W p l e (rmA 2 85 h0 o.2) s m args below meth c H locs (hS h - hS h0) (hL h - hL h0) (MQ below (QIA X h0 o.1 o.2) args s (hS o.2 - hS h0) (hL o.2 - hL h0) (aA (eB X))) (F0 m 45 ls []) := by
  refine lv_aload_n C.1 C.2.1 dX15_keep_45 rfl (lv_at hl 0 rfl) ?_
  refine lv_dup C.1 C.2.1 dX15_keep_46 rfl ?_
  refine gf_X15_409 C hW k_x0 dX15_keep_47 ?_
  refine lv_iconst (v := (1 : Int32)) C.1 C.2.1 dX15_keep_50 (by decide) ?_
  refine lv_iadd C.1 C.2.1 dX15_keep_51 ?_
  obtain ⟨h_1, eh_1, hE⟩ := nm_e2 hE
  refine pf_X15_409 C hW hZ k_x0 eh_1 dX15_keep_52 (fun _ _ hW km hZ => ?_)
  replace hkl := hkl.tr km.l
  refine x_wc km ?_
  replace k_x0 := km.at k_x0 (by decide)
  refine lv_aload_n C.1 C.2.1 dX15_keep_55 rfl (lv_at hl 0 rfl) ?_
  obtain ⟨r_2, er_2, hE⟩ := cl_e hE
  refine gf_X15_261 C hW k_x0 er_2 dX15_keep_56 (fun k_r_2 => ?_)
  refine lv_iload_n C.1 C.2.1 dX15_keep_59 rfl (lv_at hl 1 rfl) ?_
  refine lv_aload_n C.1 C.2.1 dX15_keep_60 rfl (lv_at hl 0 rfl) ?_
  refine gf_X15_409 C hW k_x0 dX15_keep_61 ?_
  obtain ⟨g_3, hE⟩ := gd_e hE
  obtain ⟨h_4, eh_4, hE⟩ := nm_e2 hE
  refine y_iast C hW hZ k_r_2 g_3 eh_4 dX15_keep_64 (fun _ _ hW km hZ => ?_)
  replace hkl := hkl.tr km.l
  refine x_wc km ?_
  replace k_x0 := km.at k_x0 (by decide)
  refine lv_iload_n C.1 C.2.1 dX15_keep_65 rfl (lv_at hl 1 rfl) ?_
  exact x_iretA C rfl rfl hW hZ hkl hE dX15_keep_66
set_option maxRecDepth 20000 in
theorem bX15_keep_35 {p : Program} {l : Launch} {e : Env} {s : State} {m : MethodId} {args : Array Value} {below : List Frame} {meth : Method} {c : Code} {X : Ec} {h0 : Hp} {o : Int32 × Hp} {F : Nat} (C : Cx X p s m args meth c RX15 cX15_keep 3 (some .int) "keep") {h : Hp} {x0 : Nat} {x1 : Nat} {x2 : Int32} {H : Heap} {locs : List Loc} (k_x0 : hK h x0 = 15) (k_x1 : hK h x1 = 12) (hkl : Kl h0 h) (hW : Wx X h H) (hZ : va_S (aA (eB X)) s.heap H locs) (ls : Array Slot) (hl : lv_has ls 3 [(0, .ref x0), (1, .ref x1), (2, .int x2)]) (hE : sX15_keep_35 F h x0 x1 x2 = some o) : W p l e (rmA 2 85 h0 o.2) s m args below meth c H locs (hS h - hS h0) (hL h - hL h0) (MQ below (QIA X h0 o.1 o.2) args s (hS o.2 - hS h0) (hL o.2 - hL h0) (aA (eB X))) (F0 m 35 ls []) := by
  refine lv_aload_n C.1 C.2.1 dX15_keep_35 rfl (lv_at hl 0 rfl) ?_
  obtain ⟨r_1, er_1, hE⟩ := cl_e hE
  refine gf_X15_257 C hW k_x0 er_1 dX15_keep_36 (fun k_r_1 => ?_)
  refine lv_iload_n C.1 C.2.1 dX15_keep_39 rfl (lv_at hl 2 rfl) ?_
  obtain ⟨g_2, hE⟩ := gd_e hE
  obtain ⟨r_3, er_3, hE⟩ := cl_e hE
  refine y_aald (t0 := 5) C hW k_r_1 (by decide) (by decide) rfl rfl rfl (fun _ => rfl) g_2 er_3 dX15_keep_40 (fun k_r_3 => ?_)
  refine lv_aload_n C.1 C.2.1 dX15_keep_41 rfl (lv_at hl 1 rfl) ?_
  obtain ⟨o_4, eo_4, hE⟩ := cl_e hE
  have m1 := moX12_copy eo_4
  have m2 := moX15_keep_45 hE
  refine x_kV (o := o_4) (z_runV (As := [.ref x1]) (rest := []) C (ct_X12_copy l X k_r_3 k_x1 eo_4) cw_X15_405 hW hZ k_r_3 (by decide) rfl rfl rfl hl.1 (Nat.le_of_ble_eq_true rfl) rfl dX15_keep_42 ⟨Nat.le_of_ble_eq_true rfl, Nat.le_of_ble_eq_true rfl⟩ (rm_ok0 hkl m1 m2)) hZ (fun _ _ hW km hZ => ?_)
  replace hkl := hkl.tr km.l
  refine x_wc km ?_
  replace k_x0 := km.at k_x0 (by decide)
  replace k_x1 := km.at k_x1 (by decide)
  exact bX15_keep_45 C k_x0 hkl hW hZ _ (lv_sub hl [0, 2] rfl) hE
set_option maxRecDepth 20000 in
theorem bX15_keep_34 {p : Program} {l : Launch} {e : Env} {s : State} {m : MethodId} {args : Array Value} {below : List Frame} {meth : Method} {c : Code} {X : Ec} {h0 : Hp} {o : Int32 × Hp} {F : Nat} (C : Cx X p s m args meth c RX15 cX15_keep 3 (some .int) "keep") {h : Hp} {x0 : Nat} {x1 : Nat} {x2 : Int32} {t0 : Nat} {t1 : Int32} {t2 : Nat} {H : Heap} {locs : List Loc} (k_x0 : hK h x0 = 15) (k_x1 : hK h x1 = 12) (k_t0 : hK h t0 = 12) (k_t2 : hK h t2 = 21) (hkl : Kl h0 h) (hW : Wx X h H) (hZ : va_S (aA (eB X)) s.heap H locs) (ls : Array Slot) (hl : lv_has ls 3 [(0, .ref x0), (1, .ref x1), (2, .int x2)]) (hE : sX15_keep_34 F h x0 x1 x2 t0 t1 t2 = some o) : W p l e (rmA 2 85 h0 o.2) s m args below meth c H locs (hS h - hS h0) (hL h - hL h0) (MQ below (QIA X h0 o.1 o.2) args s (hS o.2 - hS h0) (hL o.2 - hL h0) (aA (eB X))) (F0 m 34 ls [.ref t0, .int t1, .ref t2]) := by
  obtain ⟨g_1, hE⟩ := gd_e hE
  obtain ⟨h_2, eh_2, hE⟩ := nm_e2 hE
  refine y_aast (t0 := 5) C hW hZ k_t2 (by decide) (by decide) rfl k_t0 (by decide) rfl (fun _ => rfl) g_1 eh_2 dX15_keep_34 (fun _ _ hW km hZ => ?_)
  replace hkl := hkl.tr km.l
  refine x_wc km ?_
  replace k_x0 := km.at k_x0 (by decide)
  replace k_x1 := km.at k_x1 (by decide)
  exact bX15_keep_35 C k_x0 k_x1 hkl hW hZ _ (lv_sub hl [0, 1, 2] rfl) hE
set_option maxRecDepth 20000 in
theorem bX15_keep_30 {p : Program} {l : Launch} {e : Env} {s : State} {m : MethodId} {args : Array Value} {below : List Frame} {meth : Method} {c : Code} {X : Ec} {h0 : Hp} {o : Int32 × Hp} {F : Nat} (C : Cx X p s m args meth c RX15 cX15_keep 3 (some .int) "keep") {h : Hp} {x0 : Nat} {x1 : Nat} {x2 : Int32} {t0 : Nat} {t1 : Int32} {t2 : Nat} {H : Heap} {locs : List Loc} (k_x0 : hK h x0 = 15) (k_x1 : hK h x1 = 12) (k_t0 : hK h t0 = 12) (k_t2 : hK h t2 = 21) (hkl : Kl h0 h) (hW : Wx X h H) (hZ : va_S (aA (eB X)) s.heap H locs) (ls : Array Slot) (hl : lv_has ls 3 [(0, .ref x0), (1, .ref x1), (2, .int x2)]) (hE : sX15_keep_30 F h x0 x1 x2 t0 t1 t2 = some o) : W p l e (rmA 2 85 h0 o.2) s m args below meth c H locs (hS h - hS h0) (hL h - hL h0) (MQ below (QIA X h0 o.1 o.2) args s (hS o.2 - hS h0) (hL o.2 - hL h0) (aA (eB X))) (F0 m 30 ls [.ref t0, .int t1, .ref t2]) := by
  refine lv_dup C.1 C.2.1 dX15_keep_30 rfl ?_
  obtain ⟨o_1, eo_1, hE⟩ := cl_e hE
  have m1 := moX12_init eo_1
  have m2 := moX15_keep_34 hE
  refine x_kVA (o := o_1) hkl (z_runIN (As := []) (rest := [.ref t0, .int t1, .ref t2]) C (ct_X12_init l X k_t0 eo_1) cj_X15_264 hW hZ rfl hl.1 (Nat.le_of_ble_eq_true rfl) rfl dX15_keep_31 ⟨Nat.le_of_ble_eq_true rfl, Nat.le_of_ble_eq_true rfl⟩ (rm_ok hkl m1 m2)) hZ (fun _ _ hW km hZ => ?_)
  replace hkl := hkl.tr km
  replace k_x0 := km.at k_x0 (by decide)
  replace k_x1 := km.at k_x1 (by decide)
  replace k_t0 := km.at k_t0 (by decide)
  replace k_t2 := km.at k_t2 (by decide)
  exact bX15_keep_34 C k_x0 k_x1 k_t0 k_t2 hkl hW hZ _ (lv_sub hl [0, 1, 2] rfl) hE
set_option maxRecDepth 20000 in
theorem bX15_keep_4 {p : Program} {l : Launch} {e : Env} {s : State} {m : MethodId} {args : Array Value} {below : List Frame} {meth : Method} {c : Code} {X : Ec} {h0 : Hp} {o : Int32 × Hp} {F : Nat} (C : Cx X p s m args meth c RX15 cX15_keep 3 (some .int) "keep") {h : Hp} {x0 : Nat} {x1 : Nat} {t0 : Int32} {H : Heap} {locs : List Loc} (k_x0 : hK h x0 = 15) (k_x1 : hK h x1 = 12) (hkl : Kl h0 h) (hW : Wx X h H) (hZ : va_S (aA (eB X)) s.heap H locs) (ls : Array Slot) (hl : lv_has ls 3 [(0, .ref x0), (1, .ref x1)]) (hE : sX15_keep_4 F h x0 x1 t0 = some o) : W p l e (rmA 2 85 h0 o.2) s m args below meth c H locs (hS h - hS h0) (hL h - hL h0) (MQ below (QIA X h0 o.1 o.2) args s (hS o.2 - hS h0) (hL o.2 - hL h0) (aA (eB X))) (F0 m 4 ls [.int t0]) := by
  refine lv_istore_n (lv' := [(2, .int t0), (0, .ref x0), (1, .ref x1)]) C.1 C.2.1 dX15_keep_4 rfl hl (by decide) rfl (fun ls hl => ?_)
  refine lv_iload_n C.1 C.2.1 dX15_keep_5 rfl (lv_at hl 0 rfl) ?_
  refine lv_iconst (v := (-1 : Int32)) C.1 C.2.1 dX15_keep_6 (by decide) ?_
  refine lv_icmp_ne (tgt := 13) C.1 C.2.1 dX15_keep_7 (by decide) (fun c_1 => ?_) (fun c_1 => ?_)
  · have hE := br_n hE c_1
    refine lv_aload_n C.1 C.2.1 dX15_keep_13 rfl (lv_at hl 1 rfl) ?_
    obtain ⟨r_2, er_2, hE⟩ := cl_e hE
    refine gf_X15_257 C hW k_x0 er_2 dX15_keep_14 (fun k_r_2 => ?_)
    refine lv_iload_n C.1 C.2.1 dX15_keep_17 rfl (lv_at hl 0 rfl) ?_
    obtain ⟨g_3, hE⟩ := gd_e hE
    rcases e_5 : hR h r_2 t0.toNatClampNeg with _ | r_4
    · have hE := onr_n hE e_5
      refine y_aald0 (t0 := 5) C hW k_r_2 (by decide) (by decide) rfl rfl g_3 e_5 dX15_keep_18 ?_
      refine lv_ifnonnullN C.1 C.2.1 dX15_keep_19 ?_
      refine lv_aload_n C.1 C.2.1 dX15_keep_22 rfl (lv_at hl 1 rfl) ?_
      obtain ⟨r_6, er_6, hE⟩ := cl_e hE
      refine gf_X15_257 C hW k_x0 er_6 dX15_keep_23 (fun k_r_6 => ?_)
      refine lv_iload_n C.1 C.2.1 dX15_keep_26 rfl (lv_at hl 0 rfl) ?_
      obtain ⟨a_7, ea_7, hE⟩ := nm_e2 hE
      obtain ⟨h_8, eh_8, hE⟩ := nm_e2 hE
      refine y_new C hW hZ hkl (moX15_keep_30 hE) ⟨rfl, rfl⟩ i_X12 tyX12 tyX12_ok (by decide) rfl rfl dv_X12 m_1901 m_1903 m_21 eh_8 dX15_keep_27 (fun _ hW km k_a_7 hZ => ?_)
      replace hkl := hkl.tr km
      refine x_nmA ea_7 ?_
      rw [← ea_7] at k_a_7
      replace k_x0 := km.at k_x0 (by decide)
      replace k_x1 := km.at k_x1 (by decide)
      replace k_r_6 := km.at k_r_6 (by decide)
      exact bX15_keep_30 C k_x0 k_x1 k_a_7 k_r_6 hkl hW hZ _ (lv_sub hl [1, 2, 0] rfl) hE
    · have hE := onr_s hE e_5
      refine y_aald (t0 := 5) C hW k_r_2 (by decide) (by decide) rfl rfl rfl (fun _ => rfl) g_3 e_5 dX15_keep_18 (fun k_r_4 => ?_)
      refine lv_ifnonnull (tgt := 35) C.1 C.2.1 dX15_keep_19 (by decide) ?_
      exact bX15_keep_35 C k_x0 k_x1 hkl hW hZ _ (lv_sub hl [1, 2, 0] rfl) hE
  · have hE := br_p hE c_1
    refine lv_bipush (v := (-104 : Int32)) C.1 C.2.1 dX15_keep_10 (by decide) ?_
    exact x_iretA C rfl rfl hW hZ hkl hE dX15_keep_12
set_option maxRecDepth 20000 in
theorem ct_X15_keep (l : Launch) (X : Ec) (F : Nat) {h : Hp} {x0 : Nat} {x1 : Nat} {o : Int32 × Hp} (k_x0 : hK h x0 = 15) (k_x1 : hK h x1 = 12) (hE : sX15_keep F h x0 x1 = some o) : MetIA l yX15_keep cX15_keep 3 (some .int) 2 85 X [.ref x0, .ref x1] h o := by
  refine x_metA (oh := o.2) (by decide) (Nat.le_of_ble_eq_true rfl) ?_
  intro p e s m below meth c ls C hl hW hZ
  have hl : lv_has ls 3 [(0, .ref x0), (1, .ref x1)] := hl
  have hkl : Kl h h := Kl.rf h
  refine lv_aload_n C.1 C.2.1 dX15_keep_0 rfl (lv_at hl 0 rfl) ?_
  obtain ⟨o_1, eo_1, hE⟩ := cl_e hE
  have m1 := moX15_freePlace eo_1
  have m2 := moX15_keep_4 hE
  refine x_kI (o := o_1) (z_runV (As := []) (rest := []) C (ct_X15_freePlace l X F k_x0 eo_1) cw_X15_402 hW hZ k_x0 (by decide) rfl rfl rfl hl.1 (Nat.le_of_ble_eq_true rfl) rfl dX15_keep_1 ⟨Nat.le_of_ble_eq_true rfl, Nat.le_of_ble_eq_true rfl⟩ (rm_ok0 hkl m1 m2)) hZ (fun _ _ hW km hZ => ?_)
  replace hkl := hkl.tr km.l
  refine x_wc km ?_
  replace k_x0 := km.at k_x0 (by decide)
  replace k_x1 := km.at k_x1 (by decide)
  exact bX15_keep_4 C k_x0 k_x1 hkl hW hZ _ (lv_sub hl [0, 1] rfl) hE
set_option maxRecDepth 100000 in
theorem ms_159 : Cond.selects RX15 yX15_keep yX15_keep ∈ W0 := w0_in (List.mem_append_left _ (List.mem_of_getElem? (i := 159) rfl)) rfl
set_option maxRecDepth 100000 in
theorem ms_146 : Cond.selects RX15 yX15_wrongOf yX15_wrongOf ∈ W0 := w0_in (List.mem_append_left _ (List.mem_of_getElem? (i := 146) rfl)) rfl
set_option maxRecDepth 100000 in
theorem ms_135 : Cond.selects RX15 yX15_isPosition yX15_isPosition ∈ W0 := w0_in (List.mem_append_left _ (List.mem_of_getElem? (i := 135) rfl)) rfl
set_option maxRecDepth 100000 in
theorem m_2341 : Cond.methodLink RX15 475 yX15_isPosition ∈ W0 := w0_in (List.mem_append_right _ (List.mem_of_getElem? (i := 2341) rfl)) rfl
set_option maxRecDepth 100000 in
theorem m_2343 : Cond.instanceMethod yX15_isPosition ∈ W0 := w0_in (List.mem_append_right _ (List.mem_of_getElem? (i := 2343) rfl)) rfl
set_option maxRecDepth 100000 in
theorem m_2344 : Cond.code yX15_isPosition cX15_isPosition 4 (some .boolean) ∈ W0 := w0_in (List.mem_append_right _ (List.mem_of_getElem? (i := 2344) rfl)) rfl
set_option maxRecDepth 100000 in
theorem m_2392 : Cond.methodLink RX15 479 yX15_wrongOf ∈ W0 := w0_in (List.mem_append_right _ (List.mem_of_getElem? (i := 2392) rfl)) rfl
set_option maxRecDepth 100000 in
theorem m_2394 : Cond.instanceMethod yX15_wrongOf ∈ W0 := w0_in (List.mem_append_right _ (List.mem_of_getElem? (i := 2394) rfl)) rfl
set_option maxRecDepth 100000 in
theorem m_2395 : Cond.code yX15_wrongOf cX15_wrongOf 6 (some .int) ∈ W0 := w0_in (List.mem_append_right _ (List.mem_of_getElem? (i := 2395) rfl)) rfl
set_option maxRecDepth 100000 in
theorem m_2454 : Cond.methodLink RX15 483 yX15_keep ∈ W0 := w0_in (List.mem_append_right _ (List.mem_of_getElem? (i := 2454) rfl)) rfl
set_option maxRecDepth 100000 in
theorem m_2456 : Cond.instanceMethod yX15_keep ∈ W0 := w0_in (List.mem_append_right _ (List.mem_of_getElem? (i := 2456) rfl)) rfl
set_option maxRecDepth 100000 in
theorem m_2457 : Cond.code yX15_keep cX15_keep 3 (some .int) ∈ W0 := w0_in (List.mem_append_right _ (List.mem_of_getElem? (i := 2457) rfl)) rfl
section
variable {p : Program} {l : Launch} {e : Env} {R : Room} {s : State} {m : MethodId} {args : Array Value} {below : List Frame} {meth : Method} {c : Code} {H : Heap} {locs : List Loc} {cells slots : Nat} {Q : State → Prop}
variable {cc : ByteArray} {pc : Nat} {ls : Array Slot} {rest : List Value} {X : Ec} {h h1 : Hp} {nL : Nat} {rt : Option FieldType} {mn : String}
theorem gf_X15_265 {a r : Nat} (C : Cx X p s m args meth c RX15 cc nL rt mn) (hW : Wx X h H) (ha : hK h a = 15) (hr : hR h a 21 = some r) (hdg : decode cc pc = .ok (.getfield 265, 3)) (kk : hK h r = 12 → W p l e R s m args below meth c H locs cells slots Q (F0 m (pc + 3) ls (.ref r :: rest))) : W p l e R s m args below meth c H locs cells slots Q (F0 m pc ls (.ref a :: rest)) :=
  y_getr C hW ha i_X15 (by decide) rfl (by decide) m_2132 rfl rfl hr hdg kk
end
theorem cw_X15_483 : cwd RX15 483 yX15_keep cX15_keep 3 (some .int) false 1 := ⟨m_2457, m_2454, m_19, ⟨m_2456, ms_159⟩, by decide, by decide, by decide +kernel⟩
theorem cw_X15_479 : cwd RX15 479 yX15_wrongOf cX15_wrongOf 6 (some .int) false 1 := ⟨m_2395, m_2392, m_19, ⟨m_2394, ms_146⟩, by decide, by decide, by decide +kernel⟩
theorem cw_X15_475 : cwd RX15 475 yX15_isPosition cX15_isPosition 4 (some .boolean) false 3 := ⟨m_2344, m_2341, m_19, ⟨m_2343, ms_135⟩, by decide, by decide, by decide +kernel⟩
theorem dX15_position_0 : decode cX15_position 0 = .ok (.aload_n 0, 1) := by decide +kernel
theorem dX15_position_1 : decode cX15_position 1 = .ok (.getfield 1, 3) := by decide +kernel
theorem dX15_position_4 : decode cX15_position 4 = .ok (.istore_n 1, 1) := by decide +kernel
theorem dX15_position_5 : decode cX15_position 5 = .ok (.aload_n 0, 1) := by decide +kernel
theorem dX15_position_6 : decode cX15_position 6 = .ok (.iconst 0, 1) := by decide +kernel
theorem dX15_position_7 : decode cX15_position 7 = .ok (.putfield 1, 3) := by decide +kernel
theorem dX15_position_10 : decode cX15_position 10 = .ok (.aload_n 0, 1) := by decide +kernel
theorem dX15_position_11 : decode cX15_position 11 = .ok (.invokevirtual 402, 3) := by decide +kernel
theorem dX15_position_14 : decode cX15_position 14 = .ok (.iconst (-1), 1) := by decide +kernel
theorem dX15_position_15 : decode cX15_position 15 = .ok (.if_icmp .ne 6, 3) := by decide +kernel
theorem dX15_position_18 : decode cX15_position 18 = .ok (.bipush (-104), 2) := by decide +kernel
theorem dX15_position_20 : decode cX15_position 20 = .ok (.ireturn, 1) := by decide +kernel
theorem dX15_position_21 : decode cX15_position 21 = .ok (.aload_n 0, 1) := by decide +kernel
theorem dX15_position_22 : decode cX15_position 22 = .ok (.aload_n 0, 1) := by decide +kernel
theorem dX15_position_23 : decode cX15_position 23 = .ok (.getfield 7, 3) := by decide +kernel
theorem dX15_position_26 : decode cX15_position 26 = .ok (.iload_n 1, 1) := by decide +kernel
theorem dX15_position_27 : decode cX15_position 27 = .ok (.aload_n 0, 1) := by decide +kernel
theorem dX15_position_28 : decode cX15_position 28 = .ok (.getfield 265, 3) := by decide +kernel
theorem dX15_position_31 : decode cX15_position 31 = .ok (.invokevirtual 475, 3) := by decide +kernel
theorem dX15_position_34 : decode cX15_position 34 = .ok (.ifCond .ne 12, 3) := by decide +kernel
theorem dX15_position_37 : decode cX15_position 37 = .ok (.sipush (-200), 3) := by decide +kernel
theorem dX15_position_40 : decode cX15_position 40 = .ok (.aload_n 0, 1) := by decide +kernel
theorem dX15_position_41 : decode cX15_position 41 = .ok (.getfield 412, 3) := by decide +kernel
theorem dX15_position_44 : decode cX15_position 44 = .ok (.isub, 1) := by decide +kernel
theorem dX15_position_45 : decode cX15_position 45 = .ok (.ireturn, 1) := by decide +kernel
theorem dX15_position_46 : decode cX15_position 46 = .ok (.aload_n 0, 1) := by decide +kernel
theorem dX15_position_47 : decode cX15_position 47 = .ok (.aload_n 0, 1) := by decide +kernel
theorem dX15_position_48 : decode cX15_position 48 = .ok (.getfield 265, 3) := by decide +kernel
theorem dX15_position_51 : decode cX15_position 51 = .ok (.invokevirtual 479, 3) := by decide +kernel
theorem dX15_position_54 : decode cX15_position 54 = .ok (.istore_n 2, 1) := by decide +kernel
theorem dX15_position_55 : decode cX15_position 55 = .ok (.iload_n 2, 1) := by decide +kernel
theorem dX15_position_56 : decode cX15_position 56 = .ok (.ifCond .le 9, 3) := by decide +kernel
theorem dX15_position_59 : decode cX15_position 59 = .ok (.iconst 0, 1) := by decide +kernel
theorem dX15_position_60 : decode cX15_position 60 = .ok (.iload_n 2, 1) := by decide +kernel
theorem dX15_position_61 : decode cX15_position 61 = .ok (.isub, 1) := by decide +kernel
theorem dX15_position_62 : decode cX15_position 62 = .ok (.goto 11, 3) := by decide +kernel
theorem dX15_position_65 : decode cX15_position 65 = .ok (.aload_n 0, 1) := by decide +kernel
theorem dX15_position_66 : decode cX15_position 66 = .ok (.aload_n 0, 1) := by decide +kernel
theorem dX15_position_67 : decode cX15_position 67 = .ok (.getfield 265, 3) := by decide +kernel
theorem dX15_position_70 : decode cX15_position 70 = .ok (.invokevirtual 483, 3) := by decide +kernel
theorem dX15_position_73 : decode cX15_position 73 = .ok (.ireturn, 1) := by decide +kernel
def sX15_position_73 (F : Nat) (h : Hp) (t0 : Int32) : Option (Int32 × Hp) := some (t0, h)
def sX15_position_54 (F : Nat) (h : Hp) (x0 : Nat) (t0 : Int32) : Option (Int32 × Hp) := br (t0 ≤ 0) (cl (hR h x0 21) fun r_2 => cl (sX15_keep F h x0 r_2) fun o_3 => sX15_position_73 F o_3.2 o_3.1) (sX15_position_73 F h ((0 : Int32) - t0))
def sX15_position_34 (F : Nat) (h : Hp) (x0 : Nat) (t0 : Int32) : Option (Int32 × Hp) := br (t0 = 0) (some ((-200 : Int32) - (hI h x0 19), h)) (cl (hR h x0 21) fun r_2 => cl (sX15_wrongOf F h x0 r_2) fun o_3 => sX15_position_54 F o_3.2 x0 o_3.1)
def sX15_position_14 (F : Nat) (h : Hp) (x0 : Nat) (x1 : Int32) (t0 : Int32) : Option (Int32 × Hp) := br (t0 = (-1 : Int32)) (some ((-104 : Int32), h)) (cl (hR h x0 0) fun r_2 => cl (hR h x0 21) fun r_3 => cl (sX15_isPosition F h x0 r_2 x1 r_3) fun o_4 => sX15_position_34 F o_4.2 x0 o_4.1)
def sX15_position (F : Nat) (h : Hp) (x0 : Nat) : Option (Int32 × Hp) := nm (hI h x0 1) fun v_1 => nm (wI h x0 1 (0 : Int32)) fun h_2 => cl (sX15_freePlace F h_2 x0) fun o_3 => sX15_position_14 F o_3.2 x0 v_1 o_3.1
set_option maxRecDepth 20000 in
theorem moX15_position_73 {o : Int32 × Hp} {F : Nat} {h : Hp} {t0 : Int32} (hE : sX15_position_73 F h  t0 = some o) : Le h o.2 := by
  exact le_some2 hE
set_option maxRecDepth 20000 in
theorem moX15_position_54 {o : Int32 × Hp} {F : Nat} {h : Hp} {x0 : Nat} {t0 : Int32} (hE : sX15_position_54 F h x0 t0 = some o) : Le h o.2 := by
  rcases br_e hE with ⟨_, hE⟩ | ⟨_, hE⟩
  · obtain ⟨r_2, er_2, hE⟩ := cl_e hE
    obtain ⟨o_3, eo_3, hE⟩ := cl_e hE
    refine (moX15_keep eo_3).tr ?_
    exact moX15_position_73 hE
  · exact moX15_position_73 hE
set_option maxRecDepth 20000 in
theorem moX15_position_34 {o : Int32 × Hp} {F : Nat} {h : Hp} {x0 : Nat} {t0 : Int32} (hE : sX15_position_34 F h x0 t0 = some o) : Le h o.2 := by
  rcases br_e hE with ⟨_, hE⟩ | ⟨_, hE⟩
  · exact le_some2 hE
  · obtain ⟨r_2, er_2, hE⟩ := cl_e hE
    obtain ⟨o_3, eo_3, hE⟩ := cl_e hE
    refine (moX15_wrongOf eo_3).tr ?_
    exact moX15_position_54 hE
set_option maxRecDepth 20000 in
theorem moX15_position_14 {o : Int32 × Hp} {F : Nat} {h : Hp} {x0 : Nat} {x1 : Int32} {t0 : Int32} (hE : sX15_position_14 F h x0 x1 t0 = some o) : Le h o.2 := by
  rcases br_e hE with ⟨_, hE⟩ | ⟨_, hE⟩
  · exact le_some2 hE
  · obtain ⟨r_2, er_2, hE⟩ := cl_e hE
    obtain ⟨r_3, er_3, hE⟩ := cl_e hE
    obtain ⟨o_4, eo_4, hE⟩ := cl_e hE
    refine (moX15_isPosition eo_4).tr ?_
    exact moX15_position_34 hE
set_option maxRecDepth 20000 in
theorem moX15_position {o : Int32 × Hp} {F : Nat} {h : Hp} {x0 : Nat} (hE : sX15_position F h x0 = some o) : Le h o.2 := by
  obtain ⟨v_1, ev_1, hE⟩ := nm_e2 hE
  obtain ⟨h_2, eh_2, hE⟩ := nm_e2 hE
  refine (le_I eh_2).tr ?_
  obtain ⟨o_3, eo_3, hE⟩ := cl_e hE
  refine (moX15_freePlace eo_3).tr ?_
  exact moX15_position_14 hE
set_option maxRecDepth 20000 in
theorem bX15_position_73 {p : Program} {l : Launch} {e : Env} {s : State} {m : MethodId} {args : Array Value} {below : List Frame} {meth : Method} {c : Code} {X : Ec} {h0 : Hp} {o : Int32 × Hp} {F : Nat} (C : Cx X p s m args meth c RX15 cX15_position 3 (some .int) "position") {h : Hp} {t0 : Int32} {H : Heap} {locs : List Loc} (hkl : Kl h0 h) (hW : Wx X h H) (hZ : va_S (aA (eB X)) s.heap H locs) (ls : Array Slot) (hl : lv_has ls 3 []) (hE : sX15_position_73 F h  t0 = some o) : W p l e (rmA 5 131 h0 o.2) s m args below meth c H locs (hS h - hS h0) (hL h - hL h0) (MQ below (QIA X h0 o.1 o.2) args s (hS o.2 - hS h0) (hL o.2 - hL h0) (aA (eB X))) (F0 m 73 ls [.int t0]) := by
  exact x_iretA C rfl rfl hW hZ hkl hE dX15_position_73
set_option maxRecDepth 20000 in
theorem bX15_position_54 {p : Program} {l : Launch} {e : Env} {s : State} {m : MethodId} {args : Array Value} {below : List Frame} {meth : Method} {c : Code} {X : Ec} {h0 : Hp} {o : Int32 × Hp} {F : Nat} (C : Cx X p s m args meth c RX15 cX15_position 3 (some .int) "position") {h : Hp} {x0 : Nat} {t0 : Int32} {H : Heap} {locs : List Loc} (k_x0 : hK h x0 = 15) (hkl : Kl h0 h) (hW : Wx X h H) (hZ : va_S (aA (eB X)) s.heap H locs) (ls : Array Slot) (hl : lv_has ls 3 [(0, .ref x0)]) (hE : sX15_position_54 F h x0 t0 = some o) : W p l e (rmA 5 131 h0 o.2) s m args below meth c H locs (hS h - hS h0) (hL h - hL h0) (MQ below (QIA X h0 o.1 o.2) args s (hS o.2 - hS h0) (hL o.2 - hL h0) (aA (eB X))) (F0 m 54 ls [.int t0]) := by
  refine lv_istore_n (lv' := [(2, .int t0), (0, .ref x0)]) C.1 C.2.1 dX15_position_54 rfl hl (by decide) rfl (fun ls hl => ?_)
  refine lv_iload_n C.1 C.2.1 dX15_position_55 rfl (lv_at hl 0 rfl) ?_
  refine lv_if_le (tgt := 65) C.1 C.2.1 dX15_position_56 (by decide) (fun c_1 => ?_) (fun c_1 => ?_)
  · have hE := br_p hE c_1
    refine lv_aload_n C.1 C.2.1 dX15_position_65 rfl (lv_at hl 1 rfl) ?_
    refine lv_aload_n C.1 C.2.1 dX15_position_66 rfl (lv_at hl 1 rfl) ?_
    obtain ⟨r_2, er_2, hE⟩ := cl_e hE
    refine gf_X15_265 C hW k_x0 er_2 dX15_position_67 (fun k_r_2 => ?_)
    obtain ⟨o_3, eo_3, hE⟩ := cl_e hE
    have m1 := moX15_keep eo_3
    have m2 := moX15_position_73 hE
    refine x_kIA (o := o_3) hkl (z_runV (As := [.ref r_2]) (rest := []) C (ct_X15_keep l X F k_x0 k_r_2 eo_3) cw_X15_483 hW hZ k_x0 (by decide) rfl rfl rfl hl.1 (Nat.le_of_ble_eq_true rfl) rfl dX15_position_70 ⟨Nat.le_of_ble_eq_true rfl, Nat.le_of_ble_eq_true rfl⟩ (rm_ok hkl m1 m2)) hZ (fun _ _ hW km hZ => ?_)
    replace hkl := hkl.tr km
    replace k_x0 := km.at k_x0 (by decide)
    exact bX15_position_73 C hkl hW hZ _ (lv_sub hl [] rfl) hE
  · have hE := br_n hE c_1
    refine lv_iconst (v := (0 : Int32)) C.1 C.2.1 dX15_position_59 (by decide) ?_
    refine lv_iload_n C.1 C.2.1 dX15_position_60 rfl (lv_at hl 0 rfl) ?_
    refine lv_isub C.1 C.2.1 dX15_position_61 ?_
    refine lv_goto (tgt := 73) C.1 C.2.1 dX15_position_62 (by decide) ?_
    exact bX15_position_73 C hkl hW hZ _ (lv_sub hl [] rfl) hE
set_option maxRecDepth 20000 in
theorem bX15_position_34 {p : Program} {l : Launch} {e : Env} {s : State} {m : MethodId} {args : Array Value} {below : List Frame} {meth : Method} {c : Code} {X : Ec} {h0 : Hp} {o : Int32 × Hp} {F : Nat} (C : Cx X p s m args meth c RX15 cX15_position 3 (some .int) "position") {h : Hp} {x0 : Nat} {t0 : Int32} {H : Heap} {locs : List Loc} (k_x0 : hK h x0 = 15) (hkl : Kl h0 h) (hW : Wx X h H) (hZ : va_S (aA (eB X)) s.heap H locs) (ls : Array Slot) (hl : lv_has ls 3 [(0, .ref x0)]) (hE : sX15_position_34 F h x0 t0 = some o) : W p l e (rmA 5 131 h0 o.2) s m args below meth c H locs (hS h - hS h0) (hL h - hL h0) (MQ below (QIA X h0 o.1 o.2) args s (hS o.2 - hS h0) (hL o.2 - hL h0) (aA (eB X))) (F0 m 34 ls [.int t0]) := by
  refine lv_if_ne (tgt := 46) C.1 C.2.1 dX15_position_34 (by decide) (fun c_1 => ?_) (fun c_1 => ?_)
  · have hE := br_n hE c_1
    refine lv_aload_n C.1 C.2.1 dX15_position_46 rfl (lv_at hl 0 rfl) ?_
    refine lv_aload_n C.1 C.2.1 dX15_position_47 rfl (lv_at hl 0 rfl) ?_
    obtain ⟨r_2, er_2, hE⟩ := cl_e hE
    refine gf_X15_265 C hW k_x0 er_2 dX15_position_48 (fun k_r_2 => ?_)
    obtain ⟨o_3, eo_3, hE⟩ := cl_e hE
    have m1 := moX15_wrongOf eo_3
    have m2 := moX15_position_54 hE
    refine x_kI (o := o_3) (z_runV (As := [.ref r_2]) (rest := []) C (ct_X15_wrongOf l X F k_x0 k_r_2 eo_3) cw_X15_479 hW hZ k_x0 (by decide) rfl rfl rfl hl.1 (Nat.le_of_ble_eq_true rfl) rfl dX15_position_51 ⟨Nat.le_of_ble_eq_true rfl, Nat.le_of_ble_eq_true rfl⟩ (rm_ok0 hkl m1 m2)) hZ (fun _ _ hW km hZ => ?_)
    replace hkl := hkl.tr km.l
    refine x_wc km ?_
    replace k_x0 := km.at k_x0 (by decide)
    exact bX15_position_54 C k_x0 hkl hW hZ _ (lv_sub hl [0] rfl) hE
  · have hE := br_p hE c_1
    refine lv_sipush (v := (-200 : Int32)) C.1 C.2.1 dX15_position_37 (by decide) ?_
    refine lv_aload_n C.1 C.2.1 dX15_position_40 rfl (lv_at hl 0 rfl) ?_
    refine gf_X15_412 C hW k_x0 dX15_position_41 ?_
    refine lv_isub C.1 C.2.1 dX15_position_44 ?_
    exact x_iretA C rfl rfl hW hZ hkl hE dX15_position_45
set_option maxRecDepth 20000 in
theorem bX15_position_14 {p : Program} {l : Launch} {e : Env} {s : State} {m : MethodId} {args : Array Value} {below : List Frame} {meth : Method} {c : Code} {X : Ec} {h0 : Hp} {o : Int32 × Hp} {F : Nat} (C : Cx X p s m args meth c RX15 cX15_position 3 (some .int) "position") {h : Hp} {x0 : Nat} {x1 : Int32} {t0 : Int32} {H : Heap} {locs : List Loc} (k_x0 : hK h x0 = 15) (hkl : Kl h0 h) (hW : Wx X h H) (hZ : va_S (aA (eB X)) s.heap H locs) (ls : Array Slot) (hl : lv_has ls 3 [(0, .ref x0), (1, .int x1)]) (hE : sX15_position_14 F h x0 x1 t0 = some o) : W p l e (rmA 5 131 h0 o.2) s m args below meth c H locs (hS h - hS h0) (hL h - hL h0) (MQ below (QIA X h0 o.1 o.2) args s (hS o.2 - hS h0) (hL o.2 - hL h0) (aA (eB X))) (F0 m 14 ls [.int t0]) := by
  refine lv_iconst (v := (-1 : Int32)) C.1 C.2.1 dX15_position_14 (by decide) ?_
  refine lv_icmp_ne (tgt := 21) C.1 C.2.1 dX15_position_15 (by decide) (fun c_1 => ?_) (fun c_1 => ?_)
  · have hE := br_n hE c_1
    refine lv_aload_n C.1 C.2.1 dX15_position_21 rfl (lv_at hl 0 rfl) ?_
    refine lv_aload_n C.1 C.2.1 dX15_position_22 rfl (lv_at hl 0 rfl) ?_
    obtain ⟨r_2, er_2, hE⟩ := cl_e hE
    refine gf_X15_7 C hW k_x0 er_2 dX15_position_23 (fun k_r_2 => ?_)
    refine lv_iload_n C.1 C.2.1 dX15_position_26 rfl (lv_at hl 1 rfl) ?_
    refine lv_aload_n C.1 C.2.1 dX15_position_27 rfl (lv_at hl 0 rfl) ?_
    obtain ⟨r_3, er_3, hE⟩ := cl_e hE
    refine gf_X15_265 C hW k_x0 er_3 dX15_position_28 (fun k_r_3 => ?_)
    obtain ⟨o_4, eo_4, hE⟩ := cl_e hE
    have m1 := moX15_isPosition eo_4
    have m2 := moX15_position_34 hE
    refine x_kI (o := o_4) (z_runV (As := [.ref r_2, .int x1, .ref r_3]) (rest := []) C (ct_X15_isPosition l X F k_x0 k_r_2 k_r_3 eo_4) cw_X15_475 hW hZ k_x0 (by decide) rfl rfl rfl hl.1 (Nat.le_of_ble_eq_true rfl) rfl dX15_position_31 ⟨Nat.le_of_ble_eq_true rfl, Nat.le_of_ble_eq_true rfl⟩ (rm_ok0 hkl m1 m2)) hZ (fun _ _ hW km hZ => ?_)
    replace hkl := hkl.tr km.l
    refine x_wc km ?_
    replace k_x0 := km.at k_x0 (by decide)
    exact bX15_position_34 C k_x0 hkl hW hZ _ (lv_sub hl [0] rfl) hE
  · have hE := br_p hE c_1
    refine lv_bipush (v := (-104 : Int32)) C.1 C.2.1 dX15_position_18 (by decide) ?_
    exact x_iretA C rfl rfl hW hZ hkl hE dX15_position_20
set_option maxRecDepth 20000 in
theorem ct_X15_position (l : Launch) (X : Ec) (F : Nat) {h : Hp} {x0 : Nat} {o : Int32 × Hp} (k_x0 : hK h x0 = 15) (hE : sX15_position F h x0 = some o) : MetIA l yX15_position cX15_position 3 (some .int) 5 131 X [.ref x0] h o := by
  refine x_metA (oh := o.2) (by decide) (Nat.le_of_ble_eq_true rfl) ?_
  intro p e s m below meth c ls C hl hW hZ
  have hl : lv_has ls 3 [(0, .ref x0)] := hl
  have hkl : Kl h h := Kl.rf h
  refine lv_aload_n C.1 C.2.1 dX15_position_0 rfl (lv_at hl 0 rfl) ?_
  refine gf_X15_1 C hW k_x0 dX15_position_1 ?_
  obtain ⟨v_1, ev_1, hE⟩ := nm_e2 hE
  refine x_nmI ev_1 ?_
  refine lv_istore_n (lv' := [(1, .int v_1), (0, .ref x0)]) C.1 C.2.1 dX15_position_4 rfl hl (by decide) rfl (fun ls hl => ?_)
  refine lv_aload_n C.1 C.2.1 dX15_position_5 rfl (lv_at hl 1 rfl) ?_
  refine lv_iconst (v := (0 : Int32)) C.1 C.2.1 dX15_position_6 (by decide) ?_
  obtain ⟨h_2, eh_2, hE⟩ := nm_e2 hE
  refine pf_X15_1 C hW hZ k_x0 eh_2 dX15_position_7 (fun _ _ hW km hZ => ?_)
  replace hkl := hkl.tr km.l
  refine x_wc km ?_
  replace k_x0 := km.at k_x0 (by decide)
  refine lv_aload_n C.1 C.2.1 dX15_position_10 rfl (lv_at hl 1 rfl) ?_
  obtain ⟨o_3, eo_3, hE⟩ := cl_e hE
  have m1 := moX15_freePlace eo_3
  have m2 := moX15_position_14 hE
  refine x_kI (o := o_3) (z_runV (As := []) (rest := []) C (ct_X15_freePlace l X F k_x0 eo_3) cw_X15_402 hW hZ k_x0 (by decide) rfl rfl rfl hl.1 (Nat.le_of_ble_eq_true rfl) rfl dX15_position_11 ⟨Nat.le_of_ble_eq_true rfl, Nat.le_of_ble_eq_true rfl⟩ (rm_ok0 hkl m1 m2)) hZ (fun _ _ hW km hZ => ?_)
  replace hkl := hkl.tr km.l
  refine x_wc km ?_
  replace k_x0 := km.at k_x0 (by decide)
  exact bX15_position_14 C k_x0 hkl hW hZ _ (lv_sub hl [1, 0] rfl) hE
theorem dX15_has_0 : decode cX15_has 0 = .ok (.iload_n 1, 1) := by decide +kernel
theorem dX15_has_1 : decode cX15_has 1 = .ok (.ifCond .lt 22, 3) := by decide +kernel
theorem dX15_has_4 : decode cX15_has 4 = .ok (.iload_n 1, 1) := by decide +kernel
theorem dX15_has_5 : decode cX15_has 5 = .ok (.bipush 60, 2) := by decide +kernel
theorem dX15_has_7 : decode cX15_has 7 = .ok (.if_icmp .ge 16, 3) := by decide +kernel
theorem dX15_has_10 : decode cX15_has 10 = .ok (.aload_n 0, 1) := by decide +kernel
theorem dX15_has_11 : decode cX15_has 11 = .ok (.getfield 261, 3) := by decide +kernel
theorem dX15_has_14 : decode cX15_has 14 = .ok (.iload_n 1, 1) := by decide +kernel
theorem dX15_has_15 : decode cX15_has 15 = .ok (.iaload, 1) := by decide +kernel
theorem dX15_has_16 : decode cX15_has 16 = .ok (.ifCond .le 7, 3) := by decide +kernel
theorem dX15_has_19 : decode cX15_has 19 = .ok (.iconst 1, 1) := by decide +kernel
theorem dX15_has_20 : decode cX15_has 20 = .ok (.goto 4, 3) := by decide +kernel
theorem dX15_has_23 : decode cX15_has 23 = .ok (.iconst 0, 1) := by decide +kernel
theorem dX15_has_24 : decode cX15_has 24 = .ok (.ireturn, 1) := by decide +kernel
def sX15_has_24 (h : Hp) (t0 : Int32) : Option (Int32 × Hp) := gd (t0 &&& 1 = t0) <| some (t0, h)
def sX15_has_23 (h : Hp) : Option (Int32 × Hp) := sX15_has_24  h (0 : Int32)
def sX15_has (h : Hp) (x0 : Nat) (x1 : Int32) : Option (Int32 × Hp) := br (x1 < 0) (sX15_has_23  h ) (br ((60 : Int32) ≤ x1) (sX15_has_23  h ) (cl (hR h x0 15) fun r_3 => gd (inB x1 (hN h r_3)) <| br ((hI h r_3 x1.toNatClampNeg) ≤ 0) (sX15_has_23  h ) (sX15_has_24  h (1 : Int32))))
set_option maxRecDepth 20000 in
theorem moX15_has_24 {o : Int32 × Hp} {h : Hp} {t0 : Int32} (hE : sX15_has_24 h  t0 = some o) : Le h o.2 := by
  obtain ⟨g_1, hE⟩ := gd_e hE
  exact le_some2 hE
set_option maxRecDepth 20000 in
theorem moX15_has_23 {o : Int32 × Hp} {h : Hp} (hE : sX15_has_23 h  = some o) : Le h o.2 := by
  exact moX15_has_24 hE
set_option maxRecDepth 20000 in
theorem moX15_has {o : Int32 × Hp} {h : Hp} {x0 : Nat} {x1 : Int32} (hE : sX15_has h x0 x1 = some o) : Le h o.2 := by
  rcases br_e hE with ⟨_, hE⟩ | ⟨_, hE⟩
  · exact moX15_has_23 hE
  · rcases br_e hE with ⟨_, hE⟩ | ⟨_, hE⟩
    · exact moX15_has_23 hE
    · obtain ⟨r_3, er_3, hE⟩ := cl_e hE
      obtain ⟨g_4, hE⟩ := gd_e hE
      rcases br_e hE with ⟨_, hE⟩ | ⟨_, hE⟩
      · exact moX15_has_23 hE
      · exact moX15_has_24 hE
set_option maxRecDepth 20000 in
theorem bX15_has_24 {p : Program} {l : Launch} {e : Env} {s : State} {m : MethodId} {args : Array Value} {below : List Frame} {meth : Method} {c : Code} {X : Ec} {h0 : Hp} {o : Int32 × Hp} (C : Cx X p s m args meth c RX15 cX15_has 2 (some .boolean) "has") {h : Hp} {t0 : Int32} {H : Heap} {locs : List Loc} (hkm : Km h0 h) (hW : Wx X h H) (hZ : va_S (aA (eB X)) s.heap H locs) (ls : Array Slot) (hl : lv_has ls 2 []) (hE : sX15_has_24 h  t0 = some o) : W p l e (rm 0 0) s m args below meth c H locs 0 0 (MQ below (QI X h0 o.1 o.2) args s 0 0 (aA (eB X))) (F0 m 24 ls [.int t0]) := by
  obtain ⟨g_1, hE⟩ := gd_e hE
  exact x_iret C rfl (narB g_1) hW hZ hkm hE dX15_has_24
set_option maxRecDepth 20000 in
theorem bX15_has_23 {p : Program} {l : Launch} {e : Env} {s : State} {m : MethodId} {args : Array Value} {below : List Frame} {meth : Method} {c : Code} {X : Ec} {h0 : Hp} {o : Int32 × Hp} (C : Cx X p s m args meth c RX15 cX15_has 2 (some .boolean) "has") {h : Hp} {H : Heap} {locs : List Loc} (hkm : Km h0 h) (hW : Wx X h H) (hZ : va_S (aA (eB X)) s.heap H locs) (ls : Array Slot) (hl : lv_has ls 2 []) (hE : sX15_has_23 h  = some o) : W p l e (rm 0 0) s m args below meth c H locs 0 0 (MQ below (QI X h0 o.1 o.2) args s 0 0 (aA (eB X))) (F0 m 23 ls []) := by
  refine lv_iconst (v := (0 : Int32)) C.1 C.2.1 dX15_has_23 (by decide) ?_
  exact bX15_has_24 C hkm hW hZ _ (lv_sub hl [] rfl) hE
set_option maxRecDepth 20000 in
theorem ct_X15_has (l : Launch) (X : Ec) {h : Hp} {x0 : Nat} {x1 : Int32} {o : Int32 × Hp} (k_x0 : hK h x0 = 15) (hE : sX15_has h x0 x1 = some o) : MetI l yX15_has cX15_has 2 (some .boolean) 0 0 X [.ref x0, .int x1] h o := by
  refine x_met (by decide) (Nat.le_of_ble_eq_true rfl) ?_
  intro p e s m below meth c ls C hl hW hZ
  have hl : lv_has ls 2 [(0, .ref x0), (1, .int x1)] := hl
  have hkm : Km h h := Km.rf h
  refine lv_iload_n C.1 C.2.1 dX15_has_0 rfl (lv_at hl 1 rfl) ?_
  refine lv_if_lt (tgt := 23) C.1 C.2.1 dX15_has_1 (by decide) (fun c_1 => ?_) (fun c_1 => ?_)
  · have hE := br_p hE c_1
    exact bX15_has_23 C hkm hW hZ _ (lv_sub hl [] rfl) hE
  · have hE := br_n hE c_1
    refine lv_iload_n C.1 C.2.1 dX15_has_4 rfl (lv_at hl 1 rfl) ?_
    refine lv_bipush (v := (60 : Int32)) C.1 C.2.1 dX15_has_5 (by decide) ?_
    refine lv_icmp_ge (tgt := 23) C.1 C.2.1 dX15_has_7 (by decide) (fun c_2 => ?_) (fun c_2 => ?_)
    · have hE := br_p hE c_2
      exact bX15_has_23 C hkm hW hZ _ (lv_sub hl [] rfl) hE
    · have hE := br_n hE c_2
      refine lv_aload_n C.1 C.2.1 dX15_has_10 rfl (lv_at hl 0 rfl) ?_
      obtain ⟨r_3, er_3, hE⟩ := cl_e hE
      refine gf_X15_261 C hW k_x0 er_3 dX15_has_11 (fun k_r_3 => ?_)
      refine lv_iload_n C.1 C.2.1 dX15_has_14 rfl (lv_at hl 1 rfl) ?_
      obtain ⟨g_4, hE⟩ := gd_e hE
      refine y_iald C hW k_r_3 g_4 dX15_has_15 ?_
      refine lv_if_le (tgt := 23) C.1 C.2.1 dX15_has_16 (by decide) (fun c_5 => ?_) (fun c_5 => ?_)
      · have hE := br_p hE c_5
        exact bX15_has_23 C hkm hW hZ _ (lv_sub hl [] rfl) hE
      · have hE := br_n hE c_5
        refine lv_iconst (v := (1 : Int32)) C.1 C.2.1 dX15_has_19 (by decide) ?_
        refine lv_goto (tgt := 24) C.1 C.2.1 dX15_has_20 (by decide) ?_
        exact bX15_has_24 C hkm hW hZ _ (lv_sub hl [] rfl) hE
set_option maxRecDepth 100000 in
theorem ms_160 : Cond.selects RX15 yX15_has yX15_has ∈ W0 := w0_in (List.mem_append_left _ (List.mem_of_getElem? (i := 160) rfl)) rfl
set_option maxRecDepth 100000 in
theorem m_2467 : Cond.methodLink RX15 486 yX15_has ∈ W0 := w0_in (List.mem_append_right _ (List.mem_of_getElem? (i := 2467) rfl)) rfl
set_option maxRecDepth 100000 in
theorem m_2469 : Cond.instanceMethod yX15_has ∈ W0 := w0_in (List.mem_append_right _ (List.mem_of_getElem? (i := 2469) rfl)) rfl
set_option maxRecDepth 100000 in
theorem m_2470 : Cond.code yX15_has cX15_has 2 (some .boolean) ∈ W0 := w0_in (List.mem_append_right _ (List.mem_of_getElem? (i := 2470) rfl)) rfl
theorem cw_X15_486 : cwd RX15 486 yX15_has cX15_has 2 (some .boolean) false 1 := ⟨m_2470, m_2467, m_19, ⟨m_2469, ms_160⟩, by decide, by decide, by decide +kernel⟩
theorem dX15_drop_0 : decode cX15_drop 0 = .ok (.aload_n 0, 1) := by decide +kernel
theorem dX15_drop_1 : decode cX15_drop 1 = .ok (.iload_n 1, 1) := by decide +kernel
theorem dX15_drop_2 : decode cX15_drop 2 = .ok (.invokevirtual 486, 3) := by decide +kernel
theorem dX15_drop_5 : decode cX15_drop 5 = .ok (.ifCond .ne 6, 3) := by decide +kernel
theorem dX15_drop_8 : decode cX15_drop 8 = .ok (.bipush (-102), 2) := by decide +kernel
theorem dX15_drop_10 : decode cX15_drop 10 = .ok (.ireturn, 1) := by decide +kernel
theorem dX15_drop_11 : decode cX15_drop 11 = .ok (.aload_n 0, 1) := by decide +kernel
theorem dX15_drop_12 : decode cX15_drop 12 = .ok (.getfield 261, 3) := by decide +kernel
theorem dX15_drop_15 : decode cX15_drop 15 = .ok (.iload_n 1, 1) := by decide +kernel
theorem dX15_drop_16 : decode cX15_drop 16 = .ok (.iconst 0, 1) := by decide +kernel
theorem dX15_drop_17 : decode cX15_drop 17 = .ok (.iastore, 1) := by decide +kernel
theorem dX15_drop_18 : decode cX15_drop 18 = .ok (.iconst 1, 1) := by decide +kernel
theorem dX15_drop_19 : decode cX15_drop 19 = .ok (.ireturn, 1) := by decide +kernel
def sX15_drop (h : Hp) (x0 : Nat) (x1 : Int32) : Option (Int32 × Hp) := cl (sX15_has h x0 x1) fun o_1 => br (o_1.1 = 0) (some ((-102 : Int32), o_1.2)) (cl (hR o_1.2 x0 15) fun r_3 => gd (inB x1 (hN o_1.2 r_3)) <| nm (wI o_1.2 r_3 x1.toNatClampNeg (0 : Int32)) fun h_5 => some ((1 : Int32), h_5))
set_option maxRecDepth 20000 in
theorem moX15_drop {o : Int32 × Hp} {h : Hp} {x0 : Nat} {x1 : Int32} (hE : sX15_drop h x0 x1 = some o) : Le h o.2 := by
  obtain ⟨o_1, eo_1, hE⟩ := cl_e hE
  refine (moX15_has eo_1).tr ?_
  rcases br_e hE with ⟨_, hE⟩ | ⟨_, hE⟩
  · exact le_some2 hE
  · obtain ⟨r_3, er_3, hE⟩ := cl_e hE
    obtain ⟨g_4, hE⟩ := gd_e hE
    obtain ⟨h_5, eh_5, hE⟩ := nm_e2 hE
    refine (le_I eh_5).tr ?_
    exact le_some2 hE
set_option maxRecDepth 20000 in
theorem ct_X15_drop (l : Launch) (X : Ec) {h : Hp} {x0 : Nat} {x1 : Int32} {o : Int32 × Hp} (k_x0 : hK h x0 = 15) (hE : sX15_drop h x0 x1 = some o) : MetI l yX15_drop cX15_drop 2 (some .int) 1 21 X [.ref x0, .int x1] h o := by
  refine x_met (by decide) (Nat.le_of_ble_eq_true rfl) ?_
  intro p e s m below meth c ls C hl hW hZ
  have hl : lv_has ls 2 [(0, .ref x0), (1, .int x1)] := hl
  have hkm : Km h h := Km.rf h
  refine lv_aload_n C.1 C.2.1 dX15_drop_0 rfl (lv_at hl 0 rfl) ?_
  refine lv_iload_n C.1 C.2.1 dX15_drop_1 rfl (lv_at hl 1 rfl) ?_
  obtain ⟨o_1, eo_1, hE⟩ := cl_e hE
  refine x_kI (o := o_1) (z_runV (As := [.int x1]) (rest := []) C (ct_X15_has l X k_x0 eo_1) cw_X15_486 hW hZ k_x0 (by decide) rfl rfl rfl hl.1 (Nat.le_of_ble_eq_true rfl) rfl dX15_drop_2 ⟨Nat.le_of_ble_eq_true rfl, Nat.le_of_ble_eq_true rfl⟩ ⟨Nat.le_refl _, Nat.le_refl _⟩) hZ (fun _ _ hW km hZ => ?_)
  replace hkm := hkm.tr km
  replace k_x0 := km.at k_x0 (by decide)
  refine lv_if_ne (tgt := 11) C.1 C.2.1 dX15_drop_5 (by decide) (fun c_2 => ?_) (fun c_2 => ?_)
  · have hE := br_n hE c_2
    refine lv_aload_n C.1 C.2.1 dX15_drop_11 rfl (lv_at hl 0 rfl) ?_
    obtain ⟨r_3, er_3, hE⟩ := cl_e hE
    refine gf_X15_261 C hW k_x0 er_3 dX15_drop_12 (fun k_r_3 => ?_)
    refine lv_iload_n C.1 C.2.1 dX15_drop_15 rfl (lv_at hl 1 rfl) ?_
    refine lv_iconst (v := (0 : Int32)) C.1 C.2.1 dX15_drop_16 (by decide) ?_
    obtain ⟨g_4, hE⟩ := gd_e hE
    obtain ⟨h_5, eh_5, hE⟩ := nm_e2 hE
    refine y_iast C hW hZ k_r_3 g_4 eh_5 dX15_drop_17 (fun _ _ hW km hZ => ?_)
    replace hkm := hkm.tr km
    replace k_x0 := km.at k_x0 (by decide)
    refine lv_iconst (v := (1 : Int32)) C.1 C.2.1 dX15_drop_18 (by decide) ?_
    exact x_iret C rfl rfl hW hZ hkm hE dX15_drop_19
  · have hE := br_p hE c_2
    refine lv_bipush (v := (-102 : Int32)) C.1 C.2.1 dX15_drop_8 (by decide) ?_
    exact x_iret C rfl rfl hW hZ hkm hE dX15_drop_10
section
variable {p : Program} {l : Launch} {e : Env} {R : Room} {s : State} {m : MethodId} {args : Array Value} {below : List Frame} {meth : Method} {c : Code} {H : Heap} {locs : List Loc} {cells slots : Nat} {Q : State → Prop}
variable {cc : ByteArray} {pc : Nat} {ls : Array Slot} {rest : List Value} {X : Ec} {h h1 : Hp} {nL : Nat} {rt : Option FieldType} {mn : String}
theorem pf_X15_11 {a : Nat} {v : Int32} (C : Cx X p s m args meth c RX15 cc nL rt mn) (hW : Wx X h H) (hZ : va_S (aA (eB X)) s.heap H locs) (ha : hK h a = 15) (eh : h1 = wI h a 3 v) (hdg : decode cc pc = .ok (.putfield 11, 3)) (kk : ∀ (H1 : Heap) (locs1 : List Loc), Wx X h1 H1 → Km h h1 → va_S (aA (eB X)) s.heap H1 locs1 → W p l e R s m args below meth c H1 locs1 cells slots Q (F0 m (pc + 3) ls rest)) : W p l e R s m args below meth c H locs cells slots Q (F0 m pc ls (.int v :: .ref a :: rest)) :=
  y_puti (ty := .int) C hW hZ ha i_X15 tyX15 tyX15_ok nmX15 (by decide) rfl rfl (by decide) m_2114 rfl (by decide +kernel) rfl rfl rfl eh hdg kk
end
theorem dX15_say_0 : decode cX15_say 0 = .ok (.aload_n 0, 1) := by decide +kernel
theorem dX15_say_1 : decode cX15_say 1 = .ok (.getfield 14, 3) := by decide +kernel
theorem dX15_say_4 : decode cX15_say 4 = .ok (.aload_n 0, 1) := by decide +kernel
theorem dX15_say_5 : decode cX15_say 5 = .ok (.getfield 11, 3) := by decide +kernel
theorem dX15_say_8 : decode cX15_say 8 = .ok (.iload_n 1, 1) := by decide +kernel
theorem dX15_say_9 : decode cX15_say 9 = .ok (.i2b, 1) := by decide +kernel
theorem dX15_say_10 : decode cX15_say 10 = .ok (.bastore, 1) := by decide +kernel
theorem dX15_say_11 : decode cX15_say 11 = .ok (.aload_n 0, 1) := by decide +kernel
theorem dX15_say_12 : decode cX15_say 12 = .ok (.dup, 1) := by decide +kernel
theorem dX15_say_13 : decode cX15_say 13 = .ok (.getfield 11, 3) := by decide +kernel
theorem dX15_say_16 : decode cX15_say 16 = .ok (.iconst 1, 1) := by decide +kernel
theorem dX15_say_17 : decode cX15_say 17 = .ok (.iadd, 1) := by decide +kernel
theorem dX15_say_18 : decode cX15_say 18 = .ok (.putfield 11, 3) := by decide +kernel
theorem dX15_say_21 : decode cX15_say 21 = .ok (.return_, 1) := by decide +kernel
def sX15_say (h : Hp) (x0 : Nat) (x1 : Int32) : Option (Hp) := cl (hR h x0 2) fun r_1 => gd (inB (hI h x0 3) (hN h r_1)) <| nm (wI h r_1 (hI h x0 3).toNatClampNeg (vp_nar .byte x1.toInt8.toInt32)) fun h_3 => nm (wI h_3 x0 3 ((hI h_3 x0 3) + (1 : Int32))) fun h_4 => some h_4
set_option maxRecDepth 20000 in
theorem moX15_say {o : Hp} {h : Hp} {x0 : Nat} {x1 : Int32} (hE : sX15_say h x0 x1 = some o) : Le h o := by
  obtain ⟨r_1, er_1, hE⟩ := cl_e hE
  obtain ⟨g_2, hE⟩ := gd_e hE
  obtain ⟨h_3, eh_3, hE⟩ := nm_e2 hE
  refine (le_I eh_3).tr ?_
  obtain ⟨h_4, eh_4, hE⟩ := nm_e2 hE
  refine (le_I eh_4).tr ?_
  exact le_some1 hE
set_option maxRecDepth 20000 in
theorem ct_X15_say (l : Launch) (X : Ec) {h : Hp} {x0 : Nat} {x1 : Int32} {o : Hp} (k_x0 : hK h x0 = 15) (hE : sX15_say h x0 x1 = some o) : MetV l yX15_say cX15_say 2 none 0 0 X [.ref x0, .int x1] h o := by
  refine x_met (by decide) (Nat.le_of_ble_eq_true rfl) ?_
  intro p e s m below meth c ls C hl hW hZ
  have hl : lv_has ls 2 [(0, .ref x0), (1, .int x1)] := hl
  have hkm : Km h h := Km.rf h
  refine lv_aload_n C.1 C.2.1 dX15_say_0 rfl (lv_at hl 0 rfl) ?_
  obtain ⟨r_1, er_1, hE⟩ := cl_e hE
  refine gf_X15_14 C hW k_x0 er_1 dX15_say_1 (fun k_r_1 => ?_)
  refine lv_aload_n C.1 C.2.1 dX15_say_4 rfl (lv_at hl 0 rfl) ?_
  refine gf_X15_11 C hW k_x0 dX15_say_5 ?_
  refine lv_iload_n C.1 C.2.1 dX15_say_8 rfl (lv_at hl 1 rfl) ?_
  refine lv_i2b C.1 C.2.1 dX15_say_9 rfl ?_
  obtain ⟨g_2, hE⟩ := gd_e hE
  obtain ⟨h_3, eh_3, hE⟩ := nm_e2 hE
  refine y_bast C hW hZ k_r_1 g_2 eh_3 dX15_say_10 (fun _ _ hW km hZ => ?_)
  replace hkm := hkm.tr km
  replace k_x0 := km.at k_x0 (by decide)
  refine lv_aload_n C.1 C.2.1 dX15_say_11 rfl (lv_at hl 0 rfl) ?_
  refine lv_dup C.1 C.2.1 dX15_say_12 rfl ?_
  refine gf_X15_11 C hW k_x0 dX15_say_13 ?_
  refine lv_iconst (v := (1 : Int32)) C.1 C.2.1 dX15_say_16 (by decide) ?_
  refine lv_iadd C.1 C.2.1 dX15_say_17 ?_
  obtain ⟨h_4, eh_4, hE⟩ := nm_e2 hE
  refine pf_X15_11 C hW hZ k_x0 eh_4 dX15_say_18 (fun _ _ hW km hZ => ?_)
  replace hkm := hkm.tr km
  replace k_x0 := km.at k_x0 (by decide)
  exact x_vret C rfl hW hZ hkm hE dX15_say_21
set_option maxRecDepth 100000 in
theorem ms_164 : Cond.selects RX15 yX15_say yX15_say ∈ W0 := w0_in (List.mem_append_left _ (List.mem_of_getElem? (i := 164) rfl)) rfl
set_option maxRecDepth 100000 in
theorem ms_163 : Cond.selects RX15 yX15_sayNumber yX15_sayNumber ∈ W0 := w0_in (List.mem_append_left _ (List.mem_of_getElem? (i := 163) rfl)) rfl
set_option maxRecDepth 100000 in
theorem m_2484 : Cond.methodLink RX15 17 yX15_sayNumber ∈ W0 := w0_in (List.mem_append_right _ (List.mem_of_getElem? (i := 2484) rfl)) rfl
set_option maxRecDepth 100000 in
theorem m_2486 : Cond.instanceMethod yX15_sayNumber ∈ W0 := w0_in (List.mem_append_right _ (List.mem_of_getElem? (i := 2486) rfl)) rfl
set_option maxRecDepth 100000 in
theorem m_2487 : Cond.code yX15_sayNumber cX15_sayNumber 2 none ∈ W0 := w0_in (List.mem_append_right _ (List.mem_of_getElem? (i := 2487) rfl)) rfl
set_option maxRecDepth 100000 in
theorem m_2488 : Cond.methodLink RX15 21 yX15_say ∈ W0 := w0_in (List.mem_append_right _ (List.mem_of_getElem? (i := 2488) rfl)) rfl
set_option maxRecDepth 100000 in
theorem m_2490 : Cond.instanceMethod yX15_say ∈ W0 := w0_in (List.mem_append_right _ (List.mem_of_getElem? (i := 2490) rfl)) rfl
set_option maxRecDepth 100000 in
theorem m_2491 : Cond.code yX15_say cX15_say 2 none ∈ W0 := w0_in (List.mem_append_right _ (List.mem_of_getElem? (i := 2491) rfl)) rfl
theorem cw_X15_21 : cwd RX15 21 yX15_say cX15_say 2 none false 1 := ⟨m_2491, m_2488, m_19, ⟨m_2490, ms_164⟩, by decide, by decide, by decide +kernel⟩
theorem cw_X15_17 : cwd RX15 17 yX15_sayNumber cX15_sayNumber 2 none false 1 := ⟨m_2487, m_2484, m_19, ⟨m_2486, ms_163⟩, by decide, by decide, by decide +kernel⟩
theorem dX15_sayNumber_0 : decode cX15_sayNumber 0 = .ok (.iload_n 1, 1) := by decide +kernel
theorem dX15_sayNumber_1 : decode cX15_sayNumber 1 = .ok (.bipush 10, 2) := by decide +kernel
theorem dX15_sayNumber_3 : decode cX15_sayNumber 3 = .ok (.if_icmp .lt 11, 3) := by decide +kernel
theorem dX15_sayNumber_6 : decode cX15_sayNumber 6 = .ok (.aload_n 0, 1) := by decide +kernel
theorem dX15_sayNumber_7 : decode cX15_sayNumber 7 = .ok (.iload_n 1, 1) := by decide +kernel
theorem dX15_sayNumber_8 : decode cX15_sayNumber 8 = .ok (.bipush 10, 2) := by decide +kernel
theorem dX15_sayNumber_10 : decode cX15_sayNumber 10 = .ok (.idiv, 1) := by decide +kernel
theorem dX15_sayNumber_11 : decode cX15_sayNumber 11 = .ok (.invokevirtual 17, 3) := by decide +kernel
theorem dX15_sayNumber_14 : decode cX15_sayNumber 14 = .ok (.aload_n 0, 1) := by decide +kernel
theorem dX15_sayNumber_15 : decode cX15_sayNumber 15 = .ok (.bipush 48, 2) := by decide +kernel
theorem dX15_sayNumber_17 : decode cX15_sayNumber 17 = .ok (.iload_n 1, 1) := by decide +kernel
theorem dX15_sayNumber_18 : decode cX15_sayNumber 18 = .ok (.bipush 10, 2) := by decide +kernel
theorem dX15_sayNumber_20 : decode cX15_sayNumber 20 = .ok (.irem, 1) := by decide +kernel
theorem dX15_sayNumber_21 : decode cX15_sayNumber 21 = .ok (.iadd, 1) := by decide +kernel
theorem dX15_sayNumber_22 : decode cX15_sayNumber 22 = .ok (.invokevirtual 21, 3) := by decide +kernel
theorem dX15_sayNumber_25 : decode cX15_sayNumber 25 = .ok (.return_, 1) := by decide +kernel
def sX15_sayNumber_14 (F : Nat) (r_X15_sayNumber : Hp → Nat → Int32 → Option (Hp)) (h : Hp) (x0 : Nat) (x1 : Int32) : Option (Hp) := cl (sX15_say h x0 ((48 : Int32) + (x1 - x1 / (10 : Int32) * (10 : Int32)))) fun o_1 => some o_1
def oX15_sayNumber (F : Nat) (r_X15_sayNumber : Hp → Nat → Int32 → Option (Hp)) (h : Hp) (x0 : Nat) (x1 : Int32) : Option (Hp) := br (x1 < (10 : Int32)) (sX15_sayNumber_14 F r_X15_sayNumber h x0 x1) (cl (r_X15_sayNumber h x0 (x1 / (10 : Int32))) fun o_2 => sX15_sayNumber_14 F r_X15_sayNumber o_2 x0 x1)
def qX15_sayNumber (F : Nat) : Nat → (Hp → Nat → Int32 → Option (Hp))
  | 0 => fun _ _ _ => none
  | d + 1 => fun h x0 x1 => oX15_sayNumber F (qX15_sayNumber F d) h x0 x1
def sX15_sayNumber (F : Nat) (h : Hp) (x0 : Nat) (x1 : Int32) : Option (Hp) := (qX15_sayNumber F 12) h x0 x1
set_option maxRecDepth 20000 in
theorem moX15_sayNumber_14 {o : Hp} {F : Nat} {r_X15_sayNumber : Hp → Nat → Int32 → Option (Hp)} (mr_X15_sayNumber : ∀ {h : Hp} {x0 : Nat} {x1 : Int32} {o : Hp}, r_X15_sayNumber h x0 x1 = some o → Le h o) {h : Hp} {x0 : Nat} {x1 : Int32} (hE : sX15_sayNumber_14 F r_X15_sayNumber h x0 x1 = some o) : Le h o := by
  obtain ⟨o_1, eo_1, hE⟩ := cl_e hE
  refine (moX15_say eo_1).tr ?_
  exact le_some1 hE
set_option maxRecDepth 20000 in
theorem mooX15_sayNumber {o : Hp} {F : Nat} {r_X15_sayNumber : Hp → Nat → Int32 → Option (Hp)} (mr_X15_sayNumber : ∀ {h : Hp} {x0 : Nat} {x1 : Int32} {o : Hp}, r_X15_sayNumber h x0 x1 = some o → Le h o) {h : Hp} {x0 : Nat} {x1 : Int32} (hE : oX15_sayNumber F r_X15_sayNumber h x0 x1 = some o) : Le h o := by
  rcases br_e hE with ⟨_, hE⟩ | ⟨_, hE⟩
  · exact moX15_sayNumber_14 mr_X15_sayNumber hE
  · obtain ⟨o_2, eo_2, hE⟩ := cl_e hE
    refine (mr_X15_sayNumber eo_2).tr ?_
    exact moX15_sayNumber_14 mr_X15_sayNumber hE
set_option maxRecDepth 20000 in
theorem bX15_sayNumber_14 {p : Program} {l : Launch} {e : Env} {s : State} {m : MethodId} {args : Array Value} {below : List Frame} {meth : Method} {c : Code} {X : Ec} {h0 : Hp} {o : Hp} {d : Nat} {r_X15_sayNumber : Hp → Nat → Int32 → Option (Hp)} {F : Nat} (C : Cx X p s m args meth c RX15 cX15_sayNumber 2 none "sayNumber") (hr_X15_sayNumber : ∀ {h : Hp} {x0 : Nat} {x1 : Int32} {o : Hp}, hK h x0 = 15 → r_X15_sayNumber h x0 x1 = some o → MetV l yX15_sayNumber cX15_sayNumber 2 none  (d + 2) (d * 21 + 21) X [.ref x0, .int x1] h o) (mr_X15_sayNumber : ∀ {h : Hp} {x0 : Nat} {x1 : Int32} {o : Hp}, r_X15_sayNumber h x0 x1 = some o → Le h o) {h : Hp} {x0 : Nat} {x1 : Int32} {H : Heap} {locs : List Loc} (k_x0 : hK h x0 = 15) (hkm : Km h0 h) (hW : Wx X h H) (hZ : va_S (aA (eB X)) s.heap H locs) (ls : Array Slot) (hl : lv_has ls 2 [(0, .ref x0), (1, .int x1)]) (hE : sX15_sayNumber_14 F r_X15_sayNumber h x0 x1 = some o) : W p l e (rm (d + 1 + 2) ((d + 1) * 21 + 21)) s m args below meth c H locs 0 0 (MQ below (QV X h0 o) args s 0 0 (aA (eB X))) (F0 m 14 ls []) := by
  refine lv_aload_n C.1 C.2.1 dX15_sayNumber_14 rfl (lv_at hl 0 rfl) ?_
  refine lv_bipush (v := (48 : Int32)) C.1 C.2.1 dX15_sayNumber_15 (by decide) ?_
  refine lv_iload_n C.1 C.2.1 dX15_sayNumber_17 rfl (lv_at hl 1 rfl) ?_
  refine lv_bipush (v := (10 : Int32)) C.1 C.2.1 dX15_sayNumber_18 (by decide) ?_
  refine lv_irem C.1 C.2.1 dX15_sayNumber_20 (by decide) ?_
  refine lv_iadd C.1 C.2.1 dX15_sayNumber_21 ?_
  obtain ⟨o_1, eo_1, hE⟩ := cl_e hE
  refine x_kV (o := o_1) (z_runV (As := [.int ((48 : Int32) + (x1 - x1 / (10 : Int32) * (10 : Int32)))]) (rest := []) C (ct_X15_say l X k_x0 eo_1) cw_X15_21 hW hZ k_x0 (by decide) rfl rfl rfl hl.1 (Nat.le_of_ble_eq_true rfl) rfl dX15_sayNumber_22 ⟨by dsimp only [rm, rmA]; omega, by dsimp only [rm, rmA]; omega⟩ ⟨Nat.le_refl _, Nat.le_refl _⟩) hZ (fun _ _ hW km hZ => ?_)
  replace hkm := hkm.tr km
  replace k_x0 := km.at k_x0 (by decide)
  exact x_vret C rfl hW hZ hkm hE dX15_sayNumber_25
set_option maxRecDepth 20000 in
theorem ot_X15_sayNumber (l : Launch) (X : Ec) (F : Nat) {d : Nat} {r_X15_sayNumber : Hp → Nat → Int32 → Option (Hp)} (hr_X15_sayNumber : ∀ {h : Hp} {x0 : Nat} {x1 : Int32} {o : Hp}, hK h x0 = 15 → r_X15_sayNumber h x0 x1 = some o → MetV l yX15_sayNumber cX15_sayNumber 2 none  (d + 2) (d * 21 + 21) X [.ref x0, .int x1] h o) (mr_X15_sayNumber : ∀ {h : Hp} {x0 : Nat} {x1 : Int32} {o : Hp}, r_X15_sayNumber h x0 x1 = some o → Le h o) {h : Hp} {x0 : Nat} {x1 : Int32} {o : Hp} (k_x0 : hK h x0 = 15) (hE : oX15_sayNumber F r_X15_sayNumber h x0 x1 = some o) : MetV l yX15_sayNumber cX15_sayNumber 2 none (d + 1 + 2) ((d + 1) * 21 + 21) X [.ref x0, .int x1] h o := by
  refine x_met (by decide) (Nat.le_of_ble_eq_true rfl) ?_
  intro p e s m below meth c ls C hl hW hZ
  have hl : lv_has ls 2 [(0, .ref x0), (1, .int x1)] := hl
  have hkm : Km h h := Km.rf h
  refine lv_iload_n C.1 C.2.1 dX15_sayNumber_0 rfl (lv_at hl 1 rfl) ?_
  refine lv_bipush (v := (10 : Int32)) C.1 C.2.1 dX15_sayNumber_1 (by decide) ?_
  refine lv_icmp_lt (tgt := 14) C.1 C.2.1 dX15_sayNumber_3 (by decide) (fun c_1 => ?_) (fun c_1 => ?_)
  · have hE := br_p hE c_1
    exact bX15_sayNumber_14 C hr_X15_sayNumber mr_X15_sayNumber k_x0 hkm hW hZ _ (lv_sub hl [0, 1] rfl) hE
  · have hE := br_n hE c_1
    refine lv_aload_n C.1 C.2.1 dX15_sayNumber_6 rfl (lv_at hl 0 rfl) ?_
    refine lv_iload_n C.1 C.2.1 dX15_sayNumber_7 rfl (lv_at hl 1 rfl) ?_
    refine lv_bipush (v := (10 : Int32)) C.1 C.2.1 dX15_sayNumber_8 (by decide) ?_
    refine lv_idiv C.1 C.2.1 dX15_sayNumber_10 (by decide) ?_
    obtain ⟨o_2, eo_2, hE⟩ := cl_e hE
    refine x_kV (o := o_2) (z_runV (As := [.int (x1 / (10 : Int32))]) (rest := []) C (hr_X15_sayNumber k_x0 eo_2) cw_X15_17 hW hZ k_x0 (by decide) rfl rfl rfl hl.1 (Nat.le_of_ble_eq_true rfl) rfl dX15_sayNumber_11 ⟨by dsimp only [rm, rmA]; omega, by dsimp only [rm, rmA]; omega⟩ ⟨Nat.le_refl _, Nat.le_refl _⟩) hZ (fun _ _ hW km hZ => ?_)
    replace hkm := hkm.tr km
    replace k_x0 := km.at k_x0 (by decide)
    exact bX15_sayNumber_14 C hr_X15_sayNumber mr_X15_sayNumber k_x0 hkm hW hZ _ (lv_sub hl [0, 1] rfl) hE
theorem qmX15_sayNumber (F : Nat) : ∀ (d : Nat), (∀ {h : Hp} {x0 : Nat} {x1 : Int32} {o : Hp}, (qX15_sayNumber F d) h x0 x1 = some o → Le h o) := by
  intro d
  induction d with
  | zero => exact fun hE => (by cases hE)
  | succ d ih => exact fun hE => mooX15_sayNumber (ih) hE
theorem qtX15_sayNumber (l : Launch) (X : Ec) (F : Nat) : ∀ (d : Nat), (∀ {h : Hp} {x0 : Nat} {x1 : Int32} {o : Hp}, hK h x0 = 15 → (qX15_sayNumber F d) h x0 x1 = some o → MetV l yX15_sayNumber cX15_sayNumber 2 none  (d + 2) (d * 21 + 21) X [.ref x0, .int x1] h o) := by
  intro d
  induction d with
  | zero => exact fun k_x0 hE => (by cases hE)
  | succ d ih => exact fun k_x0 hE => ot_X15_sayNumber l X F (ih) (qmX15_sayNumber F d) k_x0 hE
theorem moX15_sayNumber {o : Hp} {F : Nat} {h : Hp} {x0 : Nat} {x1 : Int32} (hE : sX15_sayNumber F h x0 x1 = some o) : Le h o := (qmX15_sayNumber F 12) hE
theorem ct_X15_sayNumber (l : Launch) (X : Ec) (F : Nat) {h : Hp} {x0 : Nat} {x1 : Int32} {o : Hp} (k_x0 : hK h x0 = 15) (hE : sX15_sayNumber F h x0 x1 = some o) : MetV l yX15_sayNumber cX15_sayNumber 2 none 14 273 X [.ref x0, .int x1] h o := (qtX15_sayNumber l X F 12) k_x0 hE
theorem dX15_letterOf_0 : decode cX15_letterOf 0 = .ok (.aload_n 0, 1) := by decide +kernel
theorem dX15_letterOf_1 : decode cX15_letterOf 1 = .ok (.getfield 252, 3) := by decide +kernel
theorem dX15_letterOf_4 : decode cX15_letterOf 4 = .ok (.getfield 172, 3) := by decide +kernel
theorem dX15_letterOf_7 : decode cX15_letterOf 7 = .ok (.iload_n 1, 1) := by decide +kernel
theorem dX15_letterOf_8 : decode cX15_letterOf 8 = .ok (.invokestatic 492, 3) := by decide +kernel
theorem dX15_letterOf_11 : decode cX15_letterOf 11 = .ok (.iaload, 1) := by decide +kernel
theorem dX15_letterOf_12 : decode cX15_letterOf 12 = .ok (.iload_n 1, 1) := by decide +kernel
theorem dX15_letterOf_13 : decode cX15_letterOf 13 = .ok (.invokestatic 489, 3) := by decide +kernel
theorem dX15_letterOf_16 : decode cX15_letterOf 16 = .ok (.ifCond .ne 8, 3) := by decide +kernel
theorem dX15_letterOf_19 : decode cX15_letterOf 19 = .ok (.bipush 32, 2) := by decide +kernel
theorem dX15_letterOf_21 : decode cX15_letterOf 21 = .ok (.goto 4, 3) := by decide +kernel
theorem dX15_letterOf_24 : decode cX15_letterOf 24 = .ok (.iconst 0, 1) := by decide +kernel
theorem dX15_letterOf_25 : decode cX15_letterOf 25 = .ok (.isub, 1) := by decide +kernel
theorem dX15_letterOf_26 : decode cX15_letterOf 26 = .ok (.ireturn, 1) := by decide +kernel
def sX15_letterOf_25 (h : Hp) (t0 : Int32) (t1 : Int32) : Option (Int32 × Hp) := some (t1 - t0, h)
def sX15_letterOf (h : Hp) (x0 : Nat) (x1 : Int32) : Option (Int32 × Hp) := cl (hR h x0 4) fun r_1 => cl (hR h r_1 3) fun r_2 => cl (sX15_manOf h x1) fun o_3 => gd (inB o_3.1 (hN o_3.2 r_2)) <| cl (sX15_sideOf o_3.2 x1) fun o_5 => br (o_5.1 = 0) (sX15_letterOf_25  o_5.2 (32 : Int32) (hI o_3.2 r_2 o_3.1.toNatClampNeg)) (sX15_letterOf_25  o_5.2 (0 : Int32) (hI o_3.2 r_2 o_3.1.toNatClampNeg))
set_option maxRecDepth 20000 in
theorem moX15_letterOf_25 {o : Int32 × Hp} {h : Hp} {t0 : Int32} {t1 : Int32} (hE : sX15_letterOf_25 h  t0 t1 = some o) : Le h o.2 := by
  exact le_some2 hE
set_option maxRecDepth 20000 in
theorem moX15_letterOf {o : Int32 × Hp} {h : Hp} {x0 : Nat} {x1 : Int32} (hE : sX15_letterOf h x0 x1 = some o) : Le h o.2 := by
  obtain ⟨r_1, er_1, hE⟩ := cl_e hE
  obtain ⟨r_2, er_2, hE⟩ := cl_e hE
  obtain ⟨o_3, eo_3, hE⟩ := cl_e hE
  refine (moX15_manOf eo_3).tr ?_
  obtain ⟨g_4, hE⟩ := gd_e hE
  obtain ⟨o_5, eo_5, hE⟩ := cl_e hE
  refine (moX15_sideOf eo_5).tr ?_
  rcases br_e hE with ⟨_, hE⟩ | ⟨_, hE⟩
  · exact moX15_letterOf_25 hE
  · exact moX15_letterOf_25 hE
set_option maxRecDepth 20000 in
theorem bX15_letterOf_25 {p : Program} {l : Launch} {e : Env} {s : State} {m : MethodId} {args : Array Value} {below : List Frame} {meth : Method} {c : Code} {X : Ec} {h0 : Hp} {o : Int32 × Hp} (C : Cx X p s m args meth c RX15 cX15_letterOf 2 (some .int) "letterOf") {h : Hp} {t0 : Int32} {t1 : Int32} {H : Heap} {locs : List Loc} (hkm : Km h0 h) (hW : Wx X h H) (hZ : va_S (aA (eB X)) s.heap H locs) (ls : Array Slot) (hl : lv_has ls 2 []) (hE : sX15_letterOf_25 h  t0 t1 = some o) : W p l e (rm 1 20) s m args below meth c H locs 0 0 (MQ below (QI X h0 o.1 o.2) args s 0 0 (aA (eB X))) (F0 m 25 ls [.int t0, .int t1]) := by
  refine lv_isub C.1 C.2.1 dX15_letterOf_25 ?_
  exact x_iret C rfl rfl hW hZ hkm hE dX15_letterOf_26
set_option maxRecDepth 20000 in
theorem ct_X15_letterOf (l : Launch) (X : Ec) {h : Hp} {x0 : Nat} {x1 : Int32} {o : Int32 × Hp} (k_x0 : hK h x0 = 15) (hE : sX15_letterOf h x0 x1 = some o) : MetI l yX15_letterOf cX15_letterOf 2 (some .int) 1 20 X [.ref x0, .int x1] h o := by
  refine x_met (by decide) (Nat.le_of_ble_eq_true rfl) ?_
  intro p e s m below meth c ls C hl hW hZ
  have hl : lv_has ls 2 [(0, .ref x0), (1, .int x1)] := hl
  have hkm : Km h h := Km.rf h
  refine lv_aload_n C.1 C.2.1 dX15_letterOf_0 rfl (lv_at hl 0 rfl) ?_
  obtain ⟨r_1, er_1, hE⟩ := cl_e hE
  refine gf_X15_252 C hW k_x0 er_1 dX15_letterOf_1 (fun k_r_1 => ?_)
  obtain ⟨r_2, er_2, hE⟩ := cl_e hE
  refine gf_X15_172 C hW k_r_1 er_2 dX15_letterOf_4 (fun k_r_2 => ?_)
  refine lv_iload_n C.1 C.2.1 dX15_letterOf_7 rfl (lv_at hl 1 rfl) ?_
  obtain ⟨o_3, eo_3, hE⟩ := cl_e hE
  refine x_kI (o := o_3) (z_runS (As := [.int x1]) (rest := [.ref r_2]) C (ct_X15_manOf l X eo_3) cw_X15_492 hW hZ rfl hl.1 (Nat.le_of_ble_eq_true rfl) rfl dX15_letterOf_8 ⟨Nat.le_of_ble_eq_true rfl, Nat.le_of_ble_eq_true rfl⟩ ⟨Nat.le_refl _, Nat.le_refl _⟩) hZ (fun _ _ hW km hZ => ?_)
  replace hkm := hkm.tr km
  replace k_x0 := km.at k_x0 (by decide)
  replace k_r_2 := km.at k_r_2 (by decide)
  obtain ⟨g_4, hE⟩ := gd_e hE
  refine y_iald C hW k_r_2 g_4 dX15_letterOf_11 ?_
  refine lv_iload_n C.1 C.2.1 dX15_letterOf_12 rfl (lv_at hl 1 rfl) ?_
  obtain ⟨o_5, eo_5, hE⟩ := cl_e hE
  refine x_kI (o := o_5) (z_runS (As := [.int x1]) (rest := [.int (hI o_3.2 r_2 o_3.1.toNatClampNeg)]) C (ct_X15_sideOf l X eo_5) cw_X15_489 hW hZ rfl hl.1 (Nat.le_of_ble_eq_true rfl) rfl dX15_letterOf_13 ⟨Nat.le_of_ble_eq_true rfl, Nat.le_of_ble_eq_true rfl⟩ ⟨Nat.le_refl _, Nat.le_refl _⟩) hZ (fun _ _ hW km hZ => ?_)
  replace hkm := hkm.tr km
  replace k_x0 := km.at k_x0 (by decide)
  refine lv_if_ne (tgt := 24) C.1 C.2.1 dX15_letterOf_16 (by decide) (fun c_6 => ?_) (fun c_6 => ?_)
  · have hE := br_n hE c_6
    refine lv_iconst (v := (0 : Int32)) C.1 C.2.1 dX15_letterOf_24 (by decide) ?_
    exact bX15_letterOf_25 C hkm hW hZ _ (lv_sub hl [] rfl) hE
  · have hE := br_p hE c_6
    refine lv_bipush (v := (32 : Int32)) C.1 C.2.1 dX15_letterOf_19 (by decide) ?_
    refine lv_goto (tgt := 25) C.1 C.2.1 dX15_letterOf_21 (by decide) ?_
    exact bX15_letterOf_25 C hkm hW hZ _ (lv_sub hl [] rfl) hE
set_option maxRecDepth 100000 in
theorem ms_165 : Cond.selects RX15 yX15_letterOf yX15_letterOf ∈ W0 := w0_in (List.mem_append_left _ (List.mem_of_getElem? (i := 165) rfl)) rfl
set_option maxRecDepth 100000 in
theorem m_2492 : Cond.methodLink RX15 527 yX15_letterOf ∈ W0 := w0_in (List.mem_append_right _ (List.mem_of_getElem? (i := 2492) rfl)) rfl
set_option maxRecDepth 100000 in
theorem m_2494 : Cond.instanceMethod yX15_letterOf ∈ W0 := w0_in (List.mem_append_right _ (List.mem_of_getElem? (i := 2494) rfl)) rfl
set_option maxRecDepth 100000 in
theorem m_2495 : Cond.code yX15_letterOf cX15_letterOf 2 (some .int) ∈ W0 := w0_in (List.mem_append_right _ (List.mem_of_getElem? (i := 2495) rfl)) rfl
theorem cw_X15_527 : cwd RX15 527 yX15_letterOf cX15_letterOf 2 (some .int) false 1 := ⟨m_2495, m_2492, m_19, ⟨m_2494, ms_165⟩, by decide, by decide, by decide +kernel⟩
theorem dX15_writeMen_0 : decode cX15_writeMen 0 = .ok (.aload_n 0, 1) := by decide +kernel
theorem dX15_writeMen_1 : decode cX15_writeMen 1 = .ok (.getfield 383, 3) := by decide +kernel
theorem dX15_writeMen_4 : decode cX15_writeMen 4 = .ok (.iconst 1, 1) := by decide +kernel
theorem dX15_writeMen_5 : decode cX15_writeMen 5 = .ok (.isub, 1) := by decide +kernel
theorem dX15_writeMen_6 : decode cX15_writeMen 6 = .ok (.istore 4, 2) := by decide +kernel
theorem dX15_writeMen_8 : decode cX15_writeMen 8 = .ok (.iload 4, 2) := by decide +kernel
theorem dX15_writeMen_10 : decode cX15_writeMen 10 = .ok (.ifCond .lt 142, 3) := by decide +kernel
theorem dX15_writeMen_13 : decode cX15_writeMen 13 = .ok (.iconst 0, 1) := by decide +kernel
theorem dX15_writeMen_14 : decode cX15_writeMen 14 = .ok (.istore 5, 2) := by decide +kernel
theorem dX15_writeMen_16 : decode cX15_writeMen 16 = .ok (.iconst 0, 1) := by decide +kernel
theorem dX15_writeMen_17 : decode cX15_writeMen 17 = .ok (.istore 6, 2) := by decide +kernel
theorem dX15_writeMen_19 : decode cX15_writeMen 19 = .ok (.iload 6, 2) := by decide +kernel
theorem dX15_writeMen_21 : decode cX15_writeMen 21 = .ok (.aload_n 0, 1) := by decide +kernel
theorem dX15_writeMen_22 : decode cX15_writeMen 22 = .ok (.getfield 382, 3) := by decide +kernel
theorem dX15_writeMen_25 : decode cX15_writeMen 25 = .ok (.if_icmp .ge 99, 3) := by decide +kernel
theorem dX15_writeMen_28 : decode cX15_writeMen 28 = .ok (.iload 4, 2) := by decide +kernel
theorem dX15_writeMen_30 : decode cX15_writeMen 30 = .ok (.aload_n 0, 1) := by decide +kernel
theorem dX15_writeMen_31 : decode cX15_writeMen 31 = .ok (.getfield 382, 3) := by decide +kernel
theorem dX15_writeMen_34 : decode cX15_writeMen 34 = .ok (.imul, 1) := by decide +kernel
theorem dX15_writeMen_35 : decode cX15_writeMen 35 = .ok (.iload 6, 2) := by decide +kernel
theorem dX15_writeMen_37 : decode cX15_writeMen 37 = .ok (.iadd, 1) := by decide +kernel
theorem dX15_writeMen_38 : decode cX15_writeMen 38 = .ok (.istore 7, 2) := by decide +kernel
theorem dX15_writeMen_40 : decode cX15_writeMen 40 = .ok (.lload_n 2, 1) := by decide +kernel
theorem dX15_writeMen_41 : decode cX15_writeMen 41 = .ok (.iload 7, 2) := by decide +kernel
theorem dX15_writeMen_43 : decode cX15_writeMen 43 = .ok (.lshr, 1) := by decide +kernel
theorem dX15_writeMen_44 : decode cX15_writeMen 44 = .ok (.lconst 1, 1) := by decide +kernel
theorem dX15_writeMen_45 : decode cX15_writeMen 45 = .ok (.land, 1) := by decide +kernel
theorem dX15_writeMen_46 : decode cX15_writeMen 46 = .ok (.lconst 1, 1) := by decide +kernel
theorem dX15_writeMen_47 : decode cX15_writeMen 47 = .ok (.lcmp, 1) := by decide +kernel
theorem dX15_writeMen_48 : decode cX15_writeMen 48 = .ok (.ifCond .ne 7, 3) := by decide +kernel
theorem dX15_writeMen_51 : decode cX15_writeMen 51 = .ok (.iconst 1, 1) := by decide +kernel
theorem dX15_writeMen_52 : decode cX15_writeMen 52 = .ok (.goto 4, 3) := by decide +kernel
theorem dX15_writeMen_55 : decode cX15_writeMen 55 = .ok (.iconst 0, 1) := by decide +kernel
theorem dX15_writeMen_56 : decode cX15_writeMen 56 = .ok (.istore 8, 2) := by decide +kernel
theorem dX15_writeMen_58 : decode cX15_writeMen 58 = .ok (.iload 8, 2) := by decide +kernel
theorem dX15_writeMen_60 : decode cX15_writeMen 60 = .ok (.ifCond .eq 19, 3) := by decide +kernel
theorem dX15_writeMen_63 : decode cX15_writeMen 63 = .ok (.aload_n 1, 1) := by decide +kernel
theorem dX15_writeMen_64 : decode cX15_writeMen 64 = .ok (.getfield 396, 3) := by decide +kernel
theorem dX15_writeMen_67 : decode cX15_writeMen 67 = .ok (.iload 7, 2) := by decide +kernel
theorem dX15_writeMen_69 : decode cX15_writeMen 69 = .ok (.iaload, 1) := by decide +kernel
theorem dX15_writeMen_70 : decode cX15_writeMen 70 = .ok (.ifCond .ne 9, 3) := by decide +kernel
theorem dX15_writeMen_73 : decode cX15_writeMen 73 = .ok (.iinc 5 1, 3) := by decide +kernel
theorem dX15_writeMen_76 : decode cX15_writeMen 76 = .ok (.goto 42, 3) := by decide +kernel
theorem dX15_writeMen_79 : decode cX15_writeMen 79 = .ok (.iload 5, 2) := by decide +kernel
theorem dX15_writeMen_81 : decode cX15_writeMen 81 = .ok (.ifCond .le 9, 3) := by decide +kernel
theorem dX15_writeMen_84 : decode cX15_writeMen 84 = .ok (.aload_n 0, 1) := by decide +kernel
theorem dX15_writeMen_85 : decode cX15_writeMen 85 = .ok (.iload 5, 2) := by decide +kernel
theorem dX15_writeMen_87 : decode cX15_writeMen 87 = .ok (.invokevirtual 17, 3) := by decide +kernel
theorem dX15_writeMen_90 : decode cX15_writeMen 90 = .ok (.iconst 0, 1) := by decide +kernel
theorem dX15_writeMen_91 : decode cX15_writeMen 91 = .ok (.istore 5, 2) := by decide +kernel
theorem dX15_writeMen_93 : decode cX15_writeMen 93 = .ok (.aload_n 0, 1) := by decide +kernel
theorem dX15_writeMen_94 : decode cX15_writeMen 94 = .ok (.iload 8, 2) := by decide +kernel
theorem dX15_writeMen_96 : decode cX15_writeMen 96 = .ok (.ifCond .eq 17, 3) := by decide +kernel
theorem dX15_writeMen_99 : decode cX15_writeMen 99 = .ok (.aload_n 0, 1) := by decide +kernel
theorem dX15_writeMen_100 : decode cX15_writeMen 100 = .ok (.aload_n 1, 1) := by decide +kernel
theorem dX15_writeMen_101 : decode cX15_writeMen 101 = .ok (.getfield 396, 3) := by decide +kernel
theorem dX15_writeMen_104 : decode cX15_writeMen 104 = .ok (.iload 7, 2) := by decide +kernel
theorem dX15_writeMen_106 : decode cX15_writeMen 106 = .ok (.iaload, 1) := by decide +kernel
theorem dX15_writeMen_107 : decode cX15_writeMen 107 = .ok (.invokevirtual 527, 3) := by decide +kernel
theorem dX15_writeMen_110 : decode cX15_writeMen 110 = .ok (.goto 5, 3) := by decide +kernel
theorem dX15_writeMen_113 : decode cX15_writeMen 113 = .ok (.bipush 63, 2) := by decide +kernel
theorem dX15_writeMen_115 : decode cX15_writeMen 115 = .ok (.invokevirtual 21, 3) := by decide +kernel
theorem dX15_writeMen_118 : decode cX15_writeMen 118 = .ok (.iinc 6 1, 3) := by decide +kernel
theorem dX15_writeMen_121 : decode cX15_writeMen 121 = .ok (.goto (-102), 3) := by decide +kernel
theorem dX15_writeMen_124 : decode cX15_writeMen 124 = .ok (.iload 5, 2) := by decide +kernel
theorem dX15_writeMen_126 : decode cX15_writeMen 126 = .ok (.ifCond .le 9, 3) := by decide +kernel
theorem dX15_writeMen_129 : decode cX15_writeMen 129 = .ok (.aload_n 0, 1) := by decide +kernel
theorem dX15_writeMen_130 : decode cX15_writeMen 130 = .ok (.iload 5, 2) := by decide +kernel
theorem dX15_writeMen_132 : decode cX15_writeMen 132 = .ok (.invokevirtual 17, 3) := by decide +kernel
theorem dX15_writeMen_135 : decode cX15_writeMen 135 = .ok (.iload 4, 2) := by decide +kernel
theorem dX15_writeMen_137 : decode cX15_writeMen 137 = .ok (.ifCond .le 9, 3) := by decide +kernel
theorem dX15_writeMen_140 : decode cX15_writeMen 140 = .ok (.aload_n 0, 1) := by decide +kernel
theorem dX15_writeMen_141 : decode cX15_writeMen 141 = .ok (.bipush 47, 2) := by decide +kernel
theorem dX15_writeMen_143 : decode cX15_writeMen 143 = .ok (.invokevirtual 21, 3) := by decide +kernel
theorem dX15_writeMen_146 : decode cX15_writeMen 146 = .ok (.iinc 4 (-1), 3) := by decide +kernel
theorem dX15_writeMen_149 : decode cX15_writeMen 149 = .ok (.goto (-141), 3) := by decide +kernel
theorem dX15_writeMen_152 : decode cX15_writeMen 152 = .ok (.return_, 1) := by decide +kernel
def sX15_writeMen_146 (F : Nat) (k_8 : Hp → Nat → Nat → Int64 → Int32 → Option (Hp)) (h : Hp) (x0 : Nat) (x1 : Nat) (x2 : Int64) (x4 : Int32) : Option (Hp) := nm (x4 + (-1 : Int32)) fun v_1 => k_8 h x0 x1 x2 v_1
def sX15_writeMen_135 (F : Nat) (k_8 : Hp → Nat → Nat → Int64 → Int32 → Option (Hp)) (h : Hp) (x0 : Nat) (x1 : Nat) (x2 : Int64) (x4 : Int32) : Option (Hp) := br (x4 ≤ 0) (sX15_writeMen_146 F k_8 h x0 x1 x2 x4) (cl (sX15_say h x0 (47 : Int32)) fun o_2 => sX15_writeMen_146 F k_8 o_2 x0 x1 x2 x4)
def sX15_writeMen_118 (F : Nat) (k_8 : Hp → Nat → Nat → Int64 → Int32 → Option (Hp)) (k_19 : Hp → Nat → Nat → Int64 → Int32 → Int32 → Int32 → Option (Hp)) (h : Hp) (x0 : Nat) (x1 : Nat) (x2 : Int64) (x4 : Int32) (x5 : Int32) (x6 : Int32) : Option (Hp) := nm (x6 + (1 : Int32)) fun v_1 => k_19 h x0 x1 x2 x4 x5 v_1
def sX15_writeMen_115 (F : Nat) (k_8 : Hp → Nat → Nat → Int64 → Int32 → Option (Hp)) (k_19 : Hp → Nat → Nat → Int64 → Int32 → Int32 → Int32 → Option (Hp)) (h : Hp) (x0 : Nat) (x1 : Nat) (x2 : Int64) (x4 : Int32) (x5 : Int32) (x6 : Int32) (t0 : Int32) (t1 : Nat) : Option (Hp) := cl (sX15_say h t1 t0) fun o_1 => sX15_writeMen_118 F k_8 k_19 o_1 x0 x1 x2 x4 x5 x6
def sX15_writeMen_90 (F : Nat) (k_8 : Hp → Nat → Nat → Int64 → Int32 → Option (Hp)) (k_19 : Hp → Nat → Nat → Int64 → Int32 → Int32 → Int32 → Option (Hp)) (h : Hp) (x0 : Nat) (x1 : Nat) (x2 : Int64) (x4 : Int32) (x6 : Int32) (x7 : Int32) (x8 : Int32) : Option (Hp) := br (x8 = 0) (sX15_writeMen_115 F k_8 k_19 h x0 x1 x2 x4 (0 : Int32) x6 (63 : Int32) x0) (cl (hR h x1 0) fun r_2 => gd (inB x7 (hN h r_2)) <| cl (sX15_letterOf h x0 (hI h r_2 x7.toNatClampNeg)) fun o_4 => sX15_writeMen_115 F k_8 k_19 o_4.2 x0 x1 x2 x4 (0 : Int32) x6 o_4.1 x0)
def sX15_writeMen_79 (F : Nat) (k_8 : Hp → Nat → Nat → Int64 → Int32 → Option (Hp)) (k_19 : Hp → Nat → Nat → Int64 → Int32 → Int32 → Int32 → Option (Hp)) (h : Hp) (x0 : Nat) (x1 : Nat) (x2 : Int64) (x4 : Int32) (x5 : Int32) (x6 : Int32) (x7 : Int32) (x8 : Int32) : Option (Hp) := br (x5 ≤ 0) (sX15_writeMen_90 F k_8 k_19 h x0 x1 x2 x4 x6 x7 x8) (cl (sX15_sayNumber F h x0 x5) fun o_2 => sX15_writeMen_90 F k_8 k_19 o_2 x0 x1 x2 x4 x6 x7 x8)
def sX15_writeMen_56 (F : Nat) (k_8 : Hp → Nat → Nat → Int64 → Int32 → Option (Hp)) (k_19 : Hp → Nat → Nat → Int64 → Int32 → Int32 → Int32 → Option (Hp)) (h : Hp) (x0 : Nat) (x1 : Nat) (x2 : Int64) (x4 : Int32) (x5 : Int32) (x6 : Int32) (x7 : Int32) (t0 : Int32) : Option (Hp) := br (t0 = 0) (sX15_writeMen_79 F k_8 k_19 h x0 x1 x2 x4 x5 x6 x7 t0) (cl (hR h x1 0) fun r_2 => gd (inB x7 (hN h r_2)) <| br ((hI h r_2 x7.toNatClampNeg) = 0) (nm (x5 + (1 : Int32)) fun v_5 => sX15_writeMen_118 F k_8 k_19 h x0 x1 x2 x4 v_5 x6) (sX15_writeMen_79 F k_8 k_19 h x0 x1 x2 x4 x5 x6 x7 t0))
def sX15_writeMen_19 (F : Nat) (k_8 : Hp → Nat → Nat → Int64 → Int32 → Option (Hp)) : Nat → Hp → Nat → Nat → Int64 → Int32 → Int32 → Int32 → Option (Hp)
  | 0, _, _, _, _, _, _, _ => none
  | f + 1, h, x0, x1, x2, x4, x5, x6 => br ((hI h x0 11) ≤ x6) (br (x5 ≤ 0) (sX15_writeMen_135 F k_8 h x0 x1 x2 x4) (cl (sX15_sayNumber F h x0 x5) fun o_3 => sX15_writeMen_135 F k_8 o_3 x0 x1 x2 x4)) (nm ((x4 * (hI h x0 11)) + x6) fun v_4 => br ((lg_cmp ((x2 >>> (v_4.toInt64 &&& 63)) &&& (1 : Int64)) (1 : Int64)) = 0) (sX15_writeMen_56 F k_8 (sX15_writeMen_19 F k_8 f) h x0 x1 x2 x4 x5 x6 v_4 (1 : Int32)) (sX15_writeMen_56 F k_8 (sX15_writeMen_19 F k_8 f) h x0 x1 x2 x4 x5 x6 v_4 (0 : Int32)))
def sX15_writeMen_8 (F : Nat) : Nat → Hp → Nat → Nat → Int64 → Int32 → Option (Hp)
  | 0, _, _, _, _, _ => none
  | f + 1, h, x0, x1, x2, x4 => br (x4 < 0) (some h) (sX15_writeMen_19 F (sX15_writeMen_8 F f) F h x0 x1 x2 x4 (0 : Int32) (0 : Int32))
def sX15_writeMen (F : Nat) (h : Hp) (x0 : Nat) (x1 : Nat) (x2 : Int64) : Option (Hp) := nm ((hI h x0 12) - (1 : Int32)) fun v_1 => sX15_writeMen_8 F F h x0 x1 x2 v_1
set_option maxRecDepth 20000 in
theorem moX15_writeMen_146 {o : Hp} {k_8 : Hp → Nat → Nat → Int64 → Int32 → Option (Hp)} {F : Nat} (mk_8 : ∀ (h : Hp) (x0 : Nat) (x1 : Nat) (x2 : Int64) (x4 : Int32), k_8 h x0 x1 x2 x4 = some o → Le h o) {h : Hp} {x0 : Nat} {x1 : Nat} {x2 : Int64} {x4 : Int32} (hE : sX15_writeMen_146 F k_8 h x0 x1 x2 x4 = some o) : Le h o := by
  obtain ⟨v_1, ev_1, hE⟩ := nm_e2 hE
  exact mk_8 _ _ _ _ _ hE
set_option maxRecDepth 20000 in
theorem moX15_writeMen_135 {o : Hp} {k_8 : Hp → Nat → Nat → Int64 → Int32 → Option (Hp)} {F : Nat} (mk_8 : ∀ (h : Hp) (x0 : Nat) (x1 : Nat) (x2 : Int64) (x4 : Int32), k_8 h x0 x1 x2 x4 = some o → Le h o) {h : Hp} {x0 : Nat} {x1 : Nat} {x2 : Int64} {x4 : Int32} (hE : sX15_writeMen_135 F k_8 h x0 x1 x2 x4 = some o) : Le h o := by
  rcases br_e hE with ⟨_, hE⟩ | ⟨_, hE⟩
  · exact moX15_writeMen_146 mk_8 hE
  · obtain ⟨o_2, eo_2, hE⟩ := cl_e hE
    refine (moX15_say eo_2).tr ?_
    exact moX15_writeMen_146 mk_8 hE
set_option maxRecDepth 20000 in
theorem moX15_writeMen_118 {o : Hp} {k_8 : Hp → Nat → Nat → Int64 → Int32 → Option (Hp)} {k_19 : Hp → Nat → Nat → Int64 → Int32 → Int32 → Int32 → Option (Hp)} {F : Nat} (mk_8 : ∀ (h : Hp) (x0 : Nat) (x1 : Nat) (x2 : Int64) (x4 : Int32), k_8 h x0 x1 x2 x4 = some o → Le h o) (mk_19 : ∀ (h : Hp) (x0 : Nat) (x1 : Nat) (x2 : Int64) (x4 : Int32) (x5 : Int32) (x6 : Int32), k_19 h x0 x1 x2 x4 x5 x6 = some o → Le h o) {h : Hp} {x0 : Nat} {x1 : Nat} {x2 : Int64} {x4 : Int32} {x5 : Int32} {x6 : Int32} (hE : sX15_writeMen_118 F k_8 k_19 h x0 x1 x2 x4 x5 x6 = some o) : Le h o := by
  obtain ⟨v_1, ev_1, hE⟩ := nm_e2 hE
  exact mk_19 _ _ _ _ _ _ _ hE
set_option maxRecDepth 20000 in
theorem moX15_writeMen_115 {o : Hp} {k_8 : Hp → Nat → Nat → Int64 → Int32 → Option (Hp)} {k_19 : Hp → Nat → Nat → Int64 → Int32 → Int32 → Int32 → Option (Hp)} {F : Nat} (mk_8 : ∀ (h : Hp) (x0 : Nat) (x1 : Nat) (x2 : Int64) (x4 : Int32), k_8 h x0 x1 x2 x4 = some o → Le h o) (mk_19 : ∀ (h : Hp) (x0 : Nat) (x1 : Nat) (x2 : Int64) (x4 : Int32) (x5 : Int32) (x6 : Int32), k_19 h x0 x1 x2 x4 x5 x6 = some o → Le h o) {h : Hp} {x0 : Nat} {x1 : Nat} {x2 : Int64} {x4 : Int32} {x5 : Int32} {x6 : Int32} {t0 : Int32} {t1 : Nat} (hE : sX15_writeMen_115 F k_8 k_19 h x0 x1 x2 x4 x5 x6 t0 t1 = some o) : Le h o := by
  obtain ⟨o_1, eo_1, hE⟩ := cl_e hE
  refine (moX15_say eo_1).tr ?_
  exact moX15_writeMen_118 mk_8 mk_19 hE
set_option maxRecDepth 20000 in
theorem moX15_writeMen_90 {o : Hp} {k_8 : Hp → Nat → Nat → Int64 → Int32 → Option (Hp)} {k_19 : Hp → Nat → Nat → Int64 → Int32 → Int32 → Int32 → Option (Hp)} {F : Nat} (mk_8 : ∀ (h : Hp) (x0 : Nat) (x1 : Nat) (x2 : Int64) (x4 : Int32), k_8 h x0 x1 x2 x4 = some o → Le h o) (mk_19 : ∀ (h : Hp) (x0 : Nat) (x1 : Nat) (x2 : Int64) (x4 : Int32) (x5 : Int32) (x6 : Int32), k_19 h x0 x1 x2 x4 x5 x6 = some o → Le h o) {h : Hp} {x0 : Nat} {x1 : Nat} {x2 : Int64} {x4 : Int32} {x6 : Int32} {x7 : Int32} {x8 : Int32} (hE : sX15_writeMen_90 F k_8 k_19 h x0 x1 x2 x4 x6 x7 x8 = some o) : Le h o := by
  rcases br_e hE with ⟨_, hE⟩ | ⟨_, hE⟩
  · exact moX15_writeMen_115 mk_8 mk_19 hE
  · obtain ⟨r_2, er_2, hE⟩ := cl_e hE
    obtain ⟨g_3, hE⟩ := gd_e hE
    obtain ⟨o_4, eo_4, hE⟩ := cl_e hE
    refine (moX15_letterOf eo_4).tr ?_
    exact moX15_writeMen_115 mk_8 mk_19 hE
set_option maxRecDepth 20000 in
theorem moX15_writeMen_79 {o : Hp} {k_8 : Hp → Nat → Nat → Int64 → Int32 → Option (Hp)} {k_19 : Hp → Nat → Nat → Int64 → Int32 → Int32 → Int32 → Option (Hp)} {F : Nat} (mk_8 : ∀ (h : Hp) (x0 : Nat) (x1 : Nat) (x2 : Int64) (x4 : Int32), k_8 h x0 x1 x2 x4 = some o → Le h o) (mk_19 : ∀ (h : Hp) (x0 : Nat) (x1 : Nat) (x2 : Int64) (x4 : Int32) (x5 : Int32) (x6 : Int32), k_19 h x0 x1 x2 x4 x5 x6 = some o → Le h o) {h : Hp} {x0 : Nat} {x1 : Nat} {x2 : Int64} {x4 : Int32} {x5 : Int32} {x6 : Int32} {x7 : Int32} {x8 : Int32} (hE : sX15_writeMen_79 F k_8 k_19 h x0 x1 x2 x4 x5 x6 x7 x8 = some o) : Le h o := by
  rcases br_e hE with ⟨_, hE⟩ | ⟨_, hE⟩
  · exact moX15_writeMen_90 mk_8 mk_19 hE
  · obtain ⟨o_2, eo_2, hE⟩ := cl_e hE
    refine (moX15_sayNumber eo_2).tr ?_
    exact moX15_writeMen_90 mk_8 mk_19 hE
set_option maxRecDepth 20000 in
theorem moX15_writeMen_56 {o : Hp} {k_8 : Hp → Nat → Nat → Int64 → Int32 → Option (Hp)} {k_19 : Hp → Nat → Nat → Int64 → Int32 → Int32 → Int32 → Option (Hp)} {F : Nat} (mk_8 : ∀ (h : Hp) (x0 : Nat) (x1 : Nat) (x2 : Int64) (x4 : Int32), k_8 h x0 x1 x2 x4 = some o → Le h o) (mk_19 : ∀ (h : Hp) (x0 : Nat) (x1 : Nat) (x2 : Int64) (x4 : Int32) (x5 : Int32) (x6 : Int32), k_19 h x0 x1 x2 x4 x5 x6 = some o → Le h o) {h : Hp} {x0 : Nat} {x1 : Nat} {x2 : Int64} {x4 : Int32} {x5 : Int32} {x6 : Int32} {x7 : Int32} {t0 : Int32} (hE : sX15_writeMen_56 F k_8 k_19 h x0 x1 x2 x4 x5 x6 x7 t0 = some o) : Le h o := by
  rcases br_e hE with ⟨_, hE⟩ | ⟨_, hE⟩
  · exact moX15_writeMen_79 mk_8 mk_19 hE
  · obtain ⟨r_2, er_2, hE⟩ := cl_e hE
    obtain ⟨g_3, hE⟩ := gd_e hE
    rcases br_e hE with ⟨_, hE⟩ | ⟨_, hE⟩
    · obtain ⟨v_5, ev_5, hE⟩ := nm_e2 hE
      exact moX15_writeMen_118 mk_8 mk_19 hE
    · exact moX15_writeMen_79 mk_8 mk_19 hE
set_option maxRecDepth 20000 in
theorem moX15_writeMen_19 {o : Hp} {k_8 : Hp → Nat → Nat → Int64 → Int32 → Option (Hp)} {F : Nat} (mk_8 : ∀ (h : Hp) (x0 : Nat) (x1 : Nat) (x2 : Int64) (x4 : Int32), k_8 h x0 x1 x2 x4 = some o → Le h o) : ∀ (f : Nat) {h : Hp} {x0 : Nat} {x1 : Nat} {x2 : Int64} {x4 : Int32} {x5 : Int32} {x6 : Int32}, sX15_writeMen_19 F k_8 f h x0 x1 x2 x4 x5 x6 = some o → Le h o := by
  intro f
  induction f with
  | zero =>
    intro h x0 x1 x2 x4 x5 x6 hE
    rw [sX15_writeMen_19] at hE
    cases hE
  | succ f ih =>
    intro h x0 x1 x2 x4 x5 x6 hE
    rw [sX15_writeMen_19] at hE
    have mk_19 : ∀ (h : Hp) (x0 : Nat) (x1 : Nat) (x2 : Int64) (x4 : Int32) (x5 : Int32) (x6 : Int32), sX15_writeMen_19 F k_8 f h x0 x1 x2 x4 x5 x6 = some o → Le h o := fun h x0 x1 x2 x4 x5 x6 hE => ih hE
    rcases br_e hE with ⟨_, hE⟩ | ⟨_, hE⟩
    · rcases br_e hE with ⟨_, hE⟩ | ⟨_, hE⟩
      · exact moX15_writeMen_135 mk_8 hE
      · obtain ⟨o_3, eo_3, hE⟩ := cl_e hE
        refine (moX15_sayNumber eo_3).tr ?_
        exact moX15_writeMen_135 mk_8 hE
    · obtain ⟨v_4, ev_4, hE⟩ := nm_e2 hE
      rcases br_e hE with ⟨_, hE⟩ | ⟨_, hE⟩
      · exact moX15_writeMen_56 mk_8 mk_19 hE
      · exact moX15_writeMen_56 mk_8 mk_19 hE
set_option maxRecDepth 20000 in
theorem moX15_writeMen_8 {o : Hp} {F : Nat} : ∀ (f : Nat) {h : Hp} {x0 : Nat} {x1 : Nat} {x2 : Int64} {x4 : Int32}, sX15_writeMen_8 F f h x0 x1 x2 x4 = some o → Le h o := by
  intro f
  induction f with
  | zero =>
    intro h x0 x1 x2 x4 hE
    rw [sX15_writeMen_8] at hE
    cases hE
  | succ f ih =>
    intro h x0 x1 x2 x4 hE
    rw [sX15_writeMen_8] at hE
    have mk_8 : ∀ (h : Hp) (x0 : Nat) (x1 : Nat) (x2 : Int64) (x4 : Int32), sX15_writeMen_8 F f h x0 x1 x2 x4 = some o → Le h o := fun h x0 x1 x2 x4 hE => ih hE
    rcases br_e hE with ⟨_, hE⟩ | ⟨_, hE⟩
    · exact le_some1 hE
    · exact moX15_writeMen_19 mk_8 _ hE
set_option maxRecDepth 20000 in
theorem moX15_writeMen {o : Hp} {F : Nat} {h : Hp} {x0 : Nat} {x1 : Nat} {x2 : Int64} (hE : sX15_writeMen F h x0 x1 x2 = some o) : Le h o := by
  obtain ⟨v_1, ev_1, hE⟩ := nm_e2 hE
  exact moX15_writeMen_8 _ hE
set_option maxRecDepth 20000 in
theorem bX15_writeMen_146 {p : Program} {l : Launch} {e : Env} {s : State} {m : MethodId} {args : Array Value} {below : List Frame} {meth : Method} {c : Code} {X : Ec} {h0 : Hp} {o : Hp} {k_8 : Hp → Nat → Nat → Int64 → Int32 → Option (Hp)} {F : Nat} (C : Cx X p s m args meth c RX15 cX15_writeMen 9 none "writeMen") (hk_8 : ∀ (h : Hp) (x0 : Nat) (x1 : Nat) (x2 : Int64) (x4 : Int32) (H : Heap) (locs : List Loc), hK h x0 = 15 → hK h x1 = 12 → Km h0 h → Wx X h H → va_S (aA (eB X)) s.heap H locs → ∀ (ls : Array Slot), lv_has ls 9 [(0, .ref x0), (1, .ref x1), (2, .long x2), (4, .int x4)] → k_8 h x0 x1 x2 x4 = some o → W p l e (rm 15 294) s m args below meth c H locs 0 0 (MQ below (QV X h0 o) args s 0 0 (aA (eB X))) (F0 m 8 ls [])) {h : Hp} {x0 : Nat} {x1 : Nat} {x2 : Int64} {x4 : Int32} {H : Heap} {locs : List Loc} (k_x0 : hK h x0 = 15) (k_x1 : hK h x1 = 12) (hkm : Km h0 h) (hW : Wx X h H) (hZ : va_S (aA (eB X)) s.heap H locs) (ls : Array Slot) (hl : lv_has ls 9 [(0, .ref x0), (1, .ref x1), (2, .long x2), (4, .int x4)]) (hE : sX15_writeMen_146 F k_8 h x0 x1 x2 x4 = some o) : W p l e (rm 15 294) s m args below meth c H locs 0 0 (MQ below (QV X h0 o) args s 0 0 (aA (eB X))) (F0 m 146 ls []) := by
  obtain ⟨v_1, ev_1, hE⟩ := nm_e2 hE
  refine lv_iinc (v := v_1) (lv' := [(4, .int v_1), (0, .ref x0), (1, .ref x1), (2, .long x2)]) C.1 C.2.1 dX15_writeMen_146 hl (k := 3) rfl (by rw [ev_1]; rfl) (by decide) rfl (fun ls hl => ?_)
  refine lv_goto (tgt := 8) C.1 C.2.1 dX15_writeMen_149 (by decide) ?_
  exact hk_8 _ _ _ _ _ _ _ k_x0 k_x1 hkm hW hZ _ (lv_sub hl [1, 2, 3, 0] rfl) hE
set_option maxRecDepth 20000 in
theorem bX15_writeMen_135 {p : Program} {l : Launch} {e : Env} {s : State} {m : MethodId} {args : Array Value} {below : List Frame} {meth : Method} {c : Code} {X : Ec} {h0 : Hp} {o : Hp} {k_8 : Hp → Nat → Nat → Int64 → Int32 → Option (Hp)} {F : Nat} (C : Cx X p s m args meth c RX15 cX15_writeMen 9 none "writeMen") (hk_8 : ∀ (h : Hp) (x0 : Nat) (x1 : Nat) (x2 : Int64) (x4 : Int32) (H : Heap) (locs : List Loc), hK h x0 = 15 → hK h x1 = 12 → Km h0 h → Wx X h H → va_S (aA (eB X)) s.heap H locs → ∀ (ls : Array Slot), lv_has ls 9 [(0, .ref x0), (1, .ref x1), (2, .long x2), (4, .int x4)] → k_8 h x0 x1 x2 x4 = some o → W p l e (rm 15 294) s m args below meth c H locs 0 0 (MQ below (QV X h0 o) args s 0 0 (aA (eB X))) (F0 m 8 ls [])) {h : Hp} {x0 : Nat} {x1 : Nat} {x2 : Int64} {x4 : Int32} {H : Heap} {locs : List Loc} (k_x0 : hK h x0 = 15) (k_x1 : hK h x1 = 12) (hkm : Km h0 h) (hW : Wx X h H) (hZ : va_S (aA (eB X)) s.heap H locs) (ls : Array Slot) (hl : lv_has ls 9 [(0, .ref x0), (1, .ref x1), (2, .long x2), (4, .int x4)]) (hE : sX15_writeMen_135 F k_8 h x0 x1 x2 x4 = some o) : W p l e (rm 15 294) s m args below meth c H locs 0 0 (MQ below (QV X h0 o) args s 0 0 (aA (eB X))) (F0 m 135 ls []) := by
  refine lv_iload C.1 C.2.1 dX15_writeMen_135 (lv_at hl 3 rfl) ?_
  refine lv_if_le (tgt := 146) C.1 C.2.1 dX15_writeMen_137 (by decide) (fun c_1 => ?_) (fun c_1 => ?_)
  · have hE := br_p hE c_1
    exact bX15_writeMen_146 C hk_8 k_x0 k_x1 hkm hW hZ _ (lv_sub hl [0, 1, 2, 3] rfl) hE
  · have hE := br_n hE c_1
    refine lv_aload_n C.1 C.2.1 dX15_writeMen_140 rfl (lv_at hl 0 rfl) ?_
    refine lv_bipush (v := (47 : Int32)) C.1 C.2.1 dX15_writeMen_141 (by decide) ?_
    obtain ⟨o_2, eo_2, hE⟩ := cl_e hE
    refine x_kV (o := o_2) (z_runV (As := [.int (47 : Int32)]) (rest := []) C (ct_X15_say l X k_x0 eo_2) cw_X15_21 hW hZ k_x0 (by decide) rfl rfl rfl hl.1 (Nat.le_of_ble_eq_true rfl) rfl dX15_writeMen_143 ⟨Nat.le_of_ble_eq_true rfl, Nat.le_of_ble_eq_true rfl⟩ ⟨Nat.le_refl _, Nat.le_refl _⟩) hZ (fun _ _ hW km hZ => ?_)
    replace hkm := hkm.tr km
    replace k_x0 := km.at k_x0 (by decide)
    replace k_x1 := km.at k_x1 (by decide)
    exact bX15_writeMen_146 C hk_8 k_x0 k_x1 hkm hW hZ _ (lv_sub hl [0, 1, 2, 3] rfl) hE
set_option maxRecDepth 20000 in
theorem bX15_writeMen_118 {p : Program} {l : Launch} {e : Env} {s : State} {m : MethodId} {args : Array Value} {below : List Frame} {meth : Method} {c : Code} {X : Ec} {h0 : Hp} {o : Hp} {k_8 : Hp → Nat → Nat → Int64 → Int32 → Option (Hp)} {k_19 : Hp → Nat → Nat → Int64 → Int32 → Int32 → Int32 → Option (Hp)} {F : Nat} (C : Cx X p s m args meth c RX15 cX15_writeMen 9 none "writeMen") (hk_8 : ∀ (h : Hp) (x0 : Nat) (x1 : Nat) (x2 : Int64) (x4 : Int32) (H : Heap) (locs : List Loc), hK h x0 = 15 → hK h x1 = 12 → Km h0 h → Wx X h H → va_S (aA (eB X)) s.heap H locs → ∀ (ls : Array Slot), lv_has ls 9 [(0, .ref x0), (1, .ref x1), (2, .long x2), (4, .int x4)] → k_8 h x0 x1 x2 x4 = some o → W p l e (rm 15 294) s m args below meth c H locs 0 0 (MQ below (QV X h0 o) args s 0 0 (aA (eB X))) (F0 m 8 ls [])) (hk_19 : ∀ (h : Hp) (x0 : Nat) (x1 : Nat) (x2 : Int64) (x4 : Int32) (x5 : Int32) (x6 : Int32) (H : Heap) (locs : List Loc), hK h x0 = 15 → hK h x1 = 12 → Km h0 h → Wx X h H → va_S (aA (eB X)) s.heap H locs → ∀ (ls : Array Slot), lv_has ls 9 [(0, .ref x0), (1, .ref x1), (2, .long x2), (4, .int x4), (5, .int x5), (6, .int x6)] → k_19 h x0 x1 x2 x4 x5 x6 = some o → W p l e (rm 15 294) s m args below meth c H locs 0 0 (MQ below (QV X h0 o) args s 0 0 (aA (eB X))) (F0 m 19 ls [])) {h : Hp} {x0 : Nat} {x1 : Nat} {x2 : Int64} {x4 : Int32} {x5 : Int32} {x6 : Int32} {H : Heap} {locs : List Loc} (k_x0 : hK h x0 = 15) (k_x1 : hK h x1 = 12) (hkm : Km h0 h) (hW : Wx X h H) (hZ : va_S (aA (eB X)) s.heap H locs) (ls : Array Slot) (hl : lv_has ls 9 [(0, .ref x0), (1, .ref x1), (2, .long x2), (4, .int x4), (5, .int x5), (6, .int x6)]) (hE : sX15_writeMen_118 F k_8 k_19 h x0 x1 x2 x4 x5 x6 = some o) : W p l e (rm 15 294) s m args below meth c H locs 0 0 (MQ below (QV X h0 o) args s 0 0 (aA (eB X))) (F0 m 118 ls []) := by
  obtain ⟨v_1, ev_1, hE⟩ := nm_e2 hE
  refine lv_iinc (v := v_1) (lv' := [(6, .int v_1), (0, .ref x0), (1, .ref x1), (2, .long x2), (4, .int x4), (5, .int x5)]) C.1 C.2.1 dX15_writeMen_118 hl (k := 5) rfl (by rw [ev_1]; rfl) (by decide) rfl (fun ls hl => ?_)
  refine lv_goto (tgt := 19) C.1 C.2.1 dX15_writeMen_121 (by decide) ?_
  exact hk_19 _ _ _ _ _ _ _ _ _ k_x0 k_x1 hkm hW hZ _ (lv_sub hl [1, 2, 3, 4, 5, 0] rfl) hE
set_option maxRecDepth 20000 in
theorem bX15_writeMen_115 {p : Program} {l : Launch} {e : Env} {s : State} {m : MethodId} {args : Array Value} {below : List Frame} {meth : Method} {c : Code} {X : Ec} {h0 : Hp} {o : Hp} {k_8 : Hp → Nat → Nat → Int64 → Int32 → Option (Hp)} {k_19 : Hp → Nat → Nat → Int64 → Int32 → Int32 → Int32 → Option (Hp)} {F : Nat} (C : Cx X p s m args meth c RX15 cX15_writeMen 9 none "writeMen") (hk_8 : ∀ (h : Hp) (x0 : Nat) (x1 : Nat) (x2 : Int64) (x4 : Int32) (H : Heap) (locs : List Loc), hK h x0 = 15 → hK h x1 = 12 → Km h0 h → Wx X h H → va_S (aA (eB X)) s.heap H locs → ∀ (ls : Array Slot), lv_has ls 9 [(0, .ref x0), (1, .ref x1), (2, .long x2), (4, .int x4)] → k_8 h x0 x1 x2 x4 = some o → W p l e (rm 15 294) s m args below meth c H locs 0 0 (MQ below (QV X h0 o) args s 0 0 (aA (eB X))) (F0 m 8 ls [])) (hk_19 : ∀ (h : Hp) (x0 : Nat) (x1 : Nat) (x2 : Int64) (x4 : Int32) (x5 : Int32) (x6 : Int32) (H : Heap) (locs : List Loc), hK h x0 = 15 → hK h x1 = 12 → Km h0 h → Wx X h H → va_S (aA (eB X)) s.heap H locs → ∀ (ls : Array Slot), lv_has ls 9 [(0, .ref x0), (1, .ref x1), (2, .long x2), (4, .int x4), (5, .int x5), (6, .int x6)] → k_19 h x0 x1 x2 x4 x5 x6 = some o → W p l e (rm 15 294) s m args below meth c H locs 0 0 (MQ below (QV X h0 o) args s 0 0 (aA (eB X))) (F0 m 19 ls [])) {h : Hp} {x0 : Nat} {x1 : Nat} {x2 : Int64} {x4 : Int32} {x5 : Int32} {x6 : Int32} {t0 : Int32} {t1 : Nat} {H : Heap} {locs : List Loc} (k_x0 : hK h x0 = 15) (k_x1 : hK h x1 = 12) (k_t1 : hK h t1 = 15) (hkm : Km h0 h) (hW : Wx X h H) (hZ : va_S (aA (eB X)) s.heap H locs) (ls : Array Slot) (hl : lv_has ls 9 [(0, .ref x0), (1, .ref x1), (2, .long x2), (4, .int x4), (5, .int x5), (6, .int x6)]) (hE : sX15_writeMen_115 F k_8 k_19 h x0 x1 x2 x4 x5 x6 t0 t1 = some o) : W p l e (rm 15 294) s m args below meth c H locs 0 0 (MQ below (QV X h0 o) args s 0 0 (aA (eB X))) (F0 m 115 ls [.int t0, .ref t1]) := by
  obtain ⟨o_1, eo_1, hE⟩ := cl_e hE
  refine x_kV (o := o_1) (z_runV (As := [.int t0]) (rest := []) C (ct_X15_say l X k_t1 eo_1) cw_X15_21 hW hZ k_t1 (by decide) rfl rfl rfl hl.1 (Nat.le_of_ble_eq_true rfl) rfl dX15_writeMen_115 ⟨Nat.le_of_ble_eq_true rfl, Nat.le_of_ble_eq_true rfl⟩ ⟨Nat.le_refl _, Nat.le_refl _⟩) hZ (fun _ _ hW km hZ => ?_)
  replace hkm := hkm.tr km
  replace k_x0 := km.at k_x0 (by decide)
  replace k_x1 := km.at k_x1 (by decide)
  exact bX15_writeMen_118 C hk_8 hk_19 k_x0 k_x1 hkm hW hZ _ (lv_sub hl [0, 1, 2, 3, 4, 5] rfl) hE
set_option maxRecDepth 20000 in
theorem bX15_writeMen_90 {p : Program} {l : Launch} {e : Env} {s : State} {m : MethodId} {args : Array Value} {below : List Frame} {meth : Method} {c : Code} {X : Ec} {h0 : Hp} {o : Hp} {k_8 : Hp → Nat → Nat → Int64 → Int32 → Option (Hp)} {k_19 : Hp → Nat → Nat → Int64 → Int32 → Int32 → Int32 → Option (Hp)} {F : Nat} (C : Cx X p s m args meth c RX15 cX15_writeMen 9 none "writeMen") (hk_8 : ∀ (h : Hp) (x0 : Nat) (x1 : Nat) (x2 : Int64) (x4 : Int32) (H : Heap) (locs : List Loc), hK h x0 = 15 → hK h x1 = 12 → Km h0 h → Wx X h H → va_S (aA (eB X)) s.heap H locs → ∀ (ls : Array Slot), lv_has ls 9 [(0, .ref x0), (1, .ref x1), (2, .long x2), (4, .int x4)] → k_8 h x0 x1 x2 x4 = some o → W p l e (rm 15 294) s m args below meth c H locs 0 0 (MQ below (QV X h0 o) args s 0 0 (aA (eB X))) (F0 m 8 ls [])) (hk_19 : ∀ (h : Hp) (x0 : Nat) (x1 : Nat) (x2 : Int64) (x4 : Int32) (x5 : Int32) (x6 : Int32) (H : Heap) (locs : List Loc), hK h x0 = 15 → hK h x1 = 12 → Km h0 h → Wx X h H → va_S (aA (eB X)) s.heap H locs → ∀ (ls : Array Slot), lv_has ls 9 [(0, .ref x0), (1, .ref x1), (2, .long x2), (4, .int x4), (5, .int x5), (6, .int x6)] → k_19 h x0 x1 x2 x4 x5 x6 = some o → W p l e (rm 15 294) s m args below meth c H locs 0 0 (MQ below (QV X h0 o) args s 0 0 (aA (eB X))) (F0 m 19 ls [])) {h : Hp} {x0 : Nat} {x1 : Nat} {x2 : Int64} {x4 : Int32} {x6 : Int32} {x7 : Int32} {x8 : Int32} {H : Heap} {locs : List Loc} (k_x0 : hK h x0 = 15) (k_x1 : hK h x1 = 12) (hkm : Km h0 h) (hW : Wx X h H) (hZ : va_S (aA (eB X)) s.heap H locs) (ls : Array Slot) (hl : lv_has ls 9 [(0, .ref x0), (1, .ref x1), (2, .long x2), (4, .int x4), (6, .int x6), (7, .int x7), (8, .int x8)]) (hE : sX15_writeMen_90 F k_8 k_19 h x0 x1 x2 x4 x6 x7 x8 = some o) : W p l e (rm 15 294) s m args below meth c H locs 0 0 (MQ below (QV X h0 o) args s 0 0 (aA (eB X))) (F0 m 90 ls []) := by
  refine lv_iconst (v := (0 : Int32)) C.1 C.2.1 dX15_writeMen_90 (by decide) ?_
  refine lv_istore (lv' := [(5, .int (0 : Int32)), (0, .ref x0), (1, .ref x1), (2, .long x2), (4, .int x4), (6, .int x6), (7, .int x7), (8, .int x8)]) C.1 C.2.1 dX15_writeMen_91 hl (by decide) rfl (fun ls hl => ?_)
  refine lv_aload_n C.1 C.2.1 dX15_writeMen_93 rfl (lv_at hl 1 rfl) ?_
  refine lv_iload C.1 C.2.1 dX15_writeMen_94 (lv_at hl 7 rfl) ?_
  refine lv_if_eq (tgt := 113) C.1 C.2.1 dX15_writeMen_96 (by decide) (fun c_1 => ?_) (fun c_1 => ?_)
  · have hE := br_p hE c_1
    refine lv_bipush (v := (63 : Int32)) C.1 C.2.1 dX15_writeMen_113 (by decide) ?_
    exact bX15_writeMen_115 C hk_8 hk_19 k_x0 k_x1 k_x0 hkm hW hZ _ (lv_sub hl [1, 2, 3, 4, 0, 5] rfl) hE
  · have hE := br_n hE c_1
    refine lv_aload_n C.1 C.2.1 dX15_writeMen_99 rfl (lv_at hl 1 rfl) ?_
    refine lv_aload_n C.1 C.2.1 dX15_writeMen_100 rfl (lv_at hl 2 rfl) ?_
    obtain ⟨r_2, er_2, hE⟩ := cl_e hE
    refine gf_X15_396 C hW k_x1 er_2 dX15_writeMen_101 (fun k_r_2 => ?_)
    refine lv_iload C.1 C.2.1 dX15_writeMen_104 (lv_at hl 6 rfl) ?_
    obtain ⟨g_3, hE⟩ := gd_e hE
    refine y_iald C hW k_r_2 g_3 dX15_writeMen_106 ?_
    obtain ⟨o_4, eo_4, hE⟩ := cl_e hE
    refine x_kI (o := o_4) (z_runV (As := [.int (hI h r_2 x7.toNatClampNeg)]) (rest := [.ref x0]) C (ct_X15_letterOf l X k_x0 eo_4) cw_X15_527 hW hZ k_x0 (by decide) rfl rfl rfl hl.1 (Nat.le_of_ble_eq_true rfl) rfl dX15_writeMen_107 ⟨Nat.le_of_ble_eq_true rfl, Nat.le_of_ble_eq_true rfl⟩ ⟨Nat.le_refl _, Nat.le_refl _⟩) hZ (fun _ _ hW km hZ => ?_)
    replace hkm := hkm.tr km
    replace k_x0 := km.at k_x0 (by decide)
    replace k_x1 := km.at k_x1 (by decide)
    refine lv_goto (tgt := 115) C.1 C.2.1 dX15_writeMen_110 (by decide) ?_
    exact bX15_writeMen_115 C hk_8 hk_19 k_x0 k_x1 k_x0 hkm hW hZ _ (lv_sub hl [1, 2, 3, 4, 0, 5] rfl) hE
set_option maxRecDepth 20000 in
theorem bX15_writeMen_79 {p : Program} {l : Launch} {e : Env} {s : State} {m : MethodId} {args : Array Value} {below : List Frame} {meth : Method} {c : Code} {X : Ec} {h0 : Hp} {o : Hp} {k_8 : Hp → Nat → Nat → Int64 → Int32 → Option (Hp)} {k_19 : Hp → Nat → Nat → Int64 → Int32 → Int32 → Int32 → Option (Hp)} {F : Nat} (C : Cx X p s m args meth c RX15 cX15_writeMen 9 none "writeMen") (hk_8 : ∀ (h : Hp) (x0 : Nat) (x1 : Nat) (x2 : Int64) (x4 : Int32) (H : Heap) (locs : List Loc), hK h x0 = 15 → hK h x1 = 12 → Km h0 h → Wx X h H → va_S (aA (eB X)) s.heap H locs → ∀ (ls : Array Slot), lv_has ls 9 [(0, .ref x0), (1, .ref x1), (2, .long x2), (4, .int x4)] → k_8 h x0 x1 x2 x4 = some o → W p l e (rm 15 294) s m args below meth c H locs 0 0 (MQ below (QV X h0 o) args s 0 0 (aA (eB X))) (F0 m 8 ls [])) (hk_19 : ∀ (h : Hp) (x0 : Nat) (x1 : Nat) (x2 : Int64) (x4 : Int32) (x5 : Int32) (x6 : Int32) (H : Heap) (locs : List Loc), hK h x0 = 15 → hK h x1 = 12 → Km h0 h → Wx X h H → va_S (aA (eB X)) s.heap H locs → ∀ (ls : Array Slot), lv_has ls 9 [(0, .ref x0), (1, .ref x1), (2, .long x2), (4, .int x4), (5, .int x5), (6, .int x6)] → k_19 h x0 x1 x2 x4 x5 x6 = some o → W p l e (rm 15 294) s m args below meth c H locs 0 0 (MQ below (QV X h0 o) args s 0 0 (aA (eB X))) (F0 m 19 ls [])) {h : Hp} {x0 : Nat} {x1 : Nat} {x2 : Int64} {x4 : Int32} {x5 : Int32} {x6 : Int32} {x7 : Int32} {x8 : Int32} {H : Heap} {locs : List Loc} (k_x0 : hK h x0 = 15) (k_x1 : hK h x1 = 12) (hkm : Km h0 h) (hW : Wx X h H) (hZ : va_S (aA (eB X)) s.heap H locs) (ls : Array Slot) (hl : lv_has ls 9 [(0, .ref x0), (1, .ref x1), (2, .long x2), (4, .int x4), (5, .int x5), (6, .int x6), (7, .int x7), (8, .int x8)]) (hE : sX15_writeMen_79 F k_8 k_19 h x0 x1 x2 x4 x5 x6 x7 x8 = some o) : W p l e (rm 15 294) s m args below meth c H locs 0 0 (MQ below (QV X h0 o) args s 0 0 (aA (eB X))) (F0 m 79 ls []) := by
  refine lv_iload C.1 C.2.1 dX15_writeMen_79 (lv_at hl 4 rfl) ?_
  refine lv_if_le (tgt := 90) C.1 C.2.1 dX15_writeMen_81 (by decide) (fun c_1 => ?_) (fun c_1 => ?_)
  · have hE := br_p hE c_1
    exact bX15_writeMen_90 C hk_8 hk_19 k_x0 k_x1 hkm hW hZ _ (lv_sub hl [0, 1, 2, 3, 5, 6, 7] rfl) hE
  · have hE := br_n hE c_1
    refine lv_aload_n C.1 C.2.1 dX15_writeMen_84 rfl (lv_at hl 0 rfl) ?_
    refine lv_iload C.1 C.2.1 dX15_writeMen_85 (lv_at hl 4 rfl) ?_
    obtain ⟨o_2, eo_2, hE⟩ := cl_e hE
    refine x_kV (o := o_2) (z_runV (As := [.int x5]) (rest := []) C (ct_X15_sayNumber l X F k_x0 eo_2) cw_X15_17 hW hZ k_x0 (by decide) rfl rfl rfl hl.1 (Nat.le_of_ble_eq_true rfl) rfl dX15_writeMen_87 ⟨Nat.le_of_ble_eq_true rfl, Nat.le_of_ble_eq_true rfl⟩ ⟨Nat.le_refl _, Nat.le_refl _⟩) hZ (fun _ _ hW km hZ => ?_)
    replace hkm := hkm.tr km
    replace k_x0 := km.at k_x0 (by decide)
    replace k_x1 := km.at k_x1 (by decide)
    exact bX15_writeMen_90 C hk_8 hk_19 k_x0 k_x1 hkm hW hZ _ (lv_sub hl [0, 1, 2, 3, 5, 6, 7] rfl) hE
set_option maxRecDepth 20000 in
theorem bX15_writeMen_56 {p : Program} {l : Launch} {e : Env} {s : State} {m : MethodId} {args : Array Value} {below : List Frame} {meth : Method} {c : Code} {X : Ec} {h0 : Hp} {o : Hp} {k_8 : Hp → Nat → Nat → Int64 → Int32 → Option (Hp)} {k_19 : Hp → Nat → Nat → Int64 → Int32 → Int32 → Int32 → Option (Hp)} {F : Nat} (C : Cx X p s m args meth c RX15 cX15_writeMen 9 none "writeMen") (hk_8 : ∀ (h : Hp) (x0 : Nat) (x1 : Nat) (x2 : Int64) (x4 : Int32) (H : Heap) (locs : List Loc), hK h x0 = 15 → hK h x1 = 12 → Km h0 h → Wx X h H → va_S (aA (eB X)) s.heap H locs → ∀ (ls : Array Slot), lv_has ls 9 [(0, .ref x0), (1, .ref x1), (2, .long x2), (4, .int x4)] → k_8 h x0 x1 x2 x4 = some o → W p l e (rm 15 294) s m args below meth c H locs 0 0 (MQ below (QV X h0 o) args s 0 0 (aA (eB X))) (F0 m 8 ls [])) (hk_19 : ∀ (h : Hp) (x0 : Nat) (x1 : Nat) (x2 : Int64) (x4 : Int32) (x5 : Int32) (x6 : Int32) (H : Heap) (locs : List Loc), hK h x0 = 15 → hK h x1 = 12 → Km h0 h → Wx X h H → va_S (aA (eB X)) s.heap H locs → ∀ (ls : Array Slot), lv_has ls 9 [(0, .ref x0), (1, .ref x1), (2, .long x2), (4, .int x4), (5, .int x5), (6, .int x6)] → k_19 h x0 x1 x2 x4 x5 x6 = some o → W p l e (rm 15 294) s m args below meth c H locs 0 0 (MQ below (QV X h0 o) args s 0 0 (aA (eB X))) (F0 m 19 ls [])) {h : Hp} {x0 : Nat} {x1 : Nat} {x2 : Int64} {x4 : Int32} {x5 : Int32} {x6 : Int32} {x7 : Int32} {t0 : Int32} {H : Heap} {locs : List Loc} (k_x0 : hK h x0 = 15) (k_x1 : hK h x1 = 12) (hkm : Km h0 h) (hW : Wx X h H) (hZ : va_S (aA (eB X)) s.heap H locs) (ls : Array Slot) (hl : lv_has ls 9 [(0, .ref x0), (1, .ref x1), (2, .long x2), (4, .int x4), (5, .int x5), (6, .int x6), (7, .int x7)]) (hE : sX15_writeMen_56 F k_8 k_19 h x0 x1 x2 x4 x5 x6 x7 t0 = some o) : W p l e (rm 15 294) s m args below meth c H locs 0 0 (MQ below (QV X h0 o) args s 0 0 (aA (eB X))) (F0 m 56 ls [.int t0]) := by
  refine lv_istore (lv' := [(8, .int t0), (0, .ref x0), (1, .ref x1), (2, .long x2), (4, .int x4), (5, .int x5), (6, .int x6), (7, .int x7)]) C.1 C.2.1 dX15_writeMen_56 hl (by decide) rfl (fun ls hl => ?_)
  refine lv_iload C.1 C.2.1 dX15_writeMen_58 (lv_at hl 0 rfl) ?_
  refine lv_if_eq (tgt := 79) C.1 C.2.1 dX15_writeMen_60 (by decide) (fun c_1 => ?_) (fun c_1 => ?_)
  · have hE := br_p hE c_1
    exact bX15_writeMen_79 C hk_8 hk_19 k_x0 k_x1 hkm hW hZ _ (lv_sub hl [1, 2, 3, 4, 5, 6, 7, 0] rfl) hE
  · have hE := br_n hE c_1
    refine lv_aload_n C.1 C.2.1 dX15_writeMen_63 rfl (lv_at hl 2 rfl) ?_
    obtain ⟨r_2, er_2, hE⟩ := cl_e hE
    refine gf_X15_396 C hW k_x1 er_2 dX15_writeMen_64 (fun k_r_2 => ?_)
    refine lv_iload C.1 C.2.1 dX15_writeMen_67 (lv_at hl 7 rfl) ?_
    obtain ⟨g_3, hE⟩ := gd_e hE
    refine y_iald C hW k_r_2 g_3 dX15_writeMen_69 ?_
    refine lv_if_ne (tgt := 79) C.1 C.2.1 dX15_writeMen_70 (by decide) (fun c_4 => ?_) (fun c_4 => ?_)
    · have hE := br_n hE c_4
      exact bX15_writeMen_79 C hk_8 hk_19 k_x0 k_x1 hkm hW hZ _ (lv_sub hl [1, 2, 3, 4, 5, 6, 7, 0] rfl) hE
    · have hE := br_p hE c_4
      obtain ⟨v_5, ev_5, hE⟩ := nm_e2 hE
      refine lv_iinc (v := v_5) (lv' := [(5, .int v_5), (8, .int t0), (0, .ref x0), (1, .ref x1), (2, .long x2), (4, .int x4), (6, .int x6), (7, .int x7)]) C.1 C.2.1 dX15_writeMen_73 hl (k := 5) rfl (by rw [ev_5]; rfl) (by decide) rfl (fun ls hl => ?_)
      refine lv_goto (tgt := 118) C.1 C.2.1 dX15_writeMen_76 (by decide) ?_
      exact bX15_writeMen_118 C hk_8 hk_19 k_x0 k_x1 hkm hW hZ _ (lv_sub hl [2, 3, 4, 5, 0, 6] rfl) hE
set_option maxRecDepth 20000 in
theorem bX15_writeMen_19 {p : Program} {l : Launch} {e : Env} {s : State} {m : MethodId} {args : Array Value} {below : List Frame} {meth : Method} {c : Code} {X : Ec} {h0 : Hp} {o : Hp} {k_8 : Hp → Nat → Nat → Int64 → Int32 → Option (Hp)} {F : Nat} (C : Cx X p s m args meth c RX15 cX15_writeMen 9 none "writeMen") (hk_8 : ∀ (h : Hp) (x0 : Nat) (x1 : Nat) (x2 : Int64) (x4 : Int32) (H : Heap) (locs : List Loc), hK h x0 = 15 → hK h x1 = 12 → Km h0 h → Wx X h H → va_S (aA (eB X)) s.heap H locs → ∀ (ls : Array Slot), lv_has ls 9 [(0, .ref x0), (1, .ref x1), (2, .long x2), (4, .int x4)] → k_8 h x0 x1 x2 x4 = some o → W p l e (rm 15 294) s m args below meth c H locs 0 0 (MQ below (QV X h0 o) args s 0 0 (aA (eB X))) (F0 m 8 ls [])) : ∀ (f : Nat) {h : Hp} {x0 : Nat} {x1 : Nat} {x2 : Int64} {x4 : Int32} {x5 : Int32} {x6 : Int32} {H : Heap} {locs : List Loc} (k_x0 : hK h x0 = 15) (k_x1 : hK h x1 = 12), Km h0 h → Wx X h H → va_S (aA (eB X)) s.heap H locs → ∀ (ls : Array Slot), lv_has ls 9 [(0, .ref x0), (1, .ref x1), (2, .long x2), (4, .int x4), (5, .int x5), (6, .int x6)] → sX15_writeMen_19 F k_8 f h x0 x1 x2 x4 x5 x6 = some o → W p l e (rm 15 294) s m args below meth c H locs 0 0 (MQ below (QV X h0 o) args s 0 0 (aA (eB X))) (F0 m 19 ls []) := by
  intro f
  induction f with
  | zero =>
    intro h x0 x1 x2 x4 x5 x6 H locs k_x0 k_x1 hkm hW hZ ls hl hE
    rw [sX15_writeMen_19] at hE
    cases hE
  | succ f ih =>
    intro h x0 x1 x2 x4 x5 x6 H locs k_x0 k_x1 hkm hW hZ ls hl hE
    rw [sX15_writeMen_19] at hE
    have hk_19 : ∀ (h : Hp) (x0 : Nat) (x1 : Nat) (x2 : Int64) (x4 : Int32) (x5 : Int32) (x6 : Int32) (H : Heap) (locs : List Loc), hK h x0 = 15 → hK h x1 = 12 → Km h0 h → Wx X h H → va_S (aA (eB X)) s.heap H locs → ∀ (ls : Array Slot), lv_has ls 9 [(0, .ref x0), (1, .ref x1), (2, .long x2), (4, .int x4), (5, .int x5), (6, .int x6)] → sX15_writeMen_19 F k_8 f h x0 x1 x2 x4 x5 x6 = some o → W p l e (rm 15 294) s m args below meth c H locs 0 0 (MQ below (QV X h0 o) args s 0 0 (aA (eB X))) (F0 m 19 ls []) := fun h x0 x1 x2 x4 x5 x6 H locs k_x0 k_x1 a b c ls hl hE => ih k_x0 k_x1 a b c ls hl hE
    refine lv_iload C.1 C.2.1 dX15_writeMen_19 (lv_at hl 5 rfl) ?_
    refine lv_aload_n C.1 C.2.1 dX15_writeMen_21 rfl (lv_at hl 0 rfl) ?_
    refine gf_X15_382 C hW k_x0 dX15_writeMen_22 ?_
    refine lv_icmp_ge (tgt := 124) C.1 C.2.1 dX15_writeMen_25 (by decide) (fun c_1 => ?_) (fun c_1 => ?_)
    · have hE := br_p hE c_1
      refine lv_iload C.1 C.2.1 dX15_writeMen_124 (lv_at hl 4 rfl) ?_
      refine lv_if_le (tgt := 135) C.1 C.2.1 dX15_writeMen_126 (by decide) (fun c_2 => ?_) (fun c_2 => ?_)
      · have hE := br_p hE c_2
        exact bX15_writeMen_135 C hk_8 k_x0 k_x1 hkm hW hZ _ (lv_sub hl [0, 1, 2, 3] rfl) hE
      · have hE := br_n hE c_2
        refine lv_aload_n C.1 C.2.1 dX15_writeMen_129 rfl (lv_at hl 0 rfl) ?_
        refine lv_iload C.1 C.2.1 dX15_writeMen_130 (lv_at hl 4 rfl) ?_
        obtain ⟨o_3, eo_3, hE⟩ := cl_e hE
        refine x_kV (o := o_3) (z_runV (As := [.int x5]) (rest := []) C (ct_X15_sayNumber l X F k_x0 eo_3) cw_X15_17 hW hZ k_x0 (by decide) rfl rfl rfl hl.1 (Nat.le_of_ble_eq_true rfl) rfl dX15_writeMen_132 ⟨Nat.le_of_ble_eq_true rfl, Nat.le_of_ble_eq_true rfl⟩ ⟨Nat.le_refl _, Nat.le_refl _⟩) hZ (fun _ _ hW km hZ => ?_)
        replace hkm := hkm.tr km
        replace k_x0 := km.at k_x0 (by decide)
        replace k_x1 := km.at k_x1 (by decide)
        exact bX15_writeMen_135 C hk_8 k_x0 k_x1 hkm hW hZ _ (lv_sub hl [0, 1, 2, 3] rfl) hE
    · have hE := br_n hE c_1
      refine lv_iload C.1 C.2.1 dX15_writeMen_28 (lv_at hl 3 rfl) ?_
      refine lv_aload_n C.1 C.2.1 dX15_writeMen_30 rfl (lv_at hl 0 rfl) ?_
      refine gf_X15_382 C hW k_x0 dX15_writeMen_31 ?_
      refine lv_imul C.1 C.2.1 dX15_writeMen_34 ?_
      refine lv_iload C.1 C.2.1 dX15_writeMen_35 (lv_at hl 5 rfl) ?_
      refine lv_iadd C.1 C.2.1 dX15_writeMen_37 ?_
      obtain ⟨v_4, ev_4, hE⟩ := nm_e2 hE
      refine x_nmI ev_4 ?_
      refine lv_istore (lv' := [(7, .int v_4), (0, .ref x0), (1, .ref x1), (2, .long x2), (4, .int x4), (5, .int x5), (6, .int x6)]) C.1 C.2.1 dX15_writeMen_38 hl (by decide) rfl (fun ls hl => ?_)
      refine lv_lload_n C.1 C.2.1 dX15_writeMen_40 rfl (lv_at hl 3 rfl) ?_
      refine lv_iload C.1 C.2.1 dX15_writeMen_41 (lv_at hl 0 rfl) ?_
      refine lv_lshr C.1 C.2.1 dX15_writeMen_43 rfl ?_
      refine lv_lconst (v := (1 : Int64)) C.1 C.2.1 dX15_writeMen_44 (by decide) ?_
      refine lv_land C.1 C.2.1 dX15_writeMen_45 ?_
      refine lv_lconst (v := (1 : Int64)) C.1 C.2.1 dX15_writeMen_46 (by decide) ?_
      refine W.lcmp C.1 C.2.1 dX15_writeMen_47 ?_
      refine lv_if_ne (tgt := 55) C.1 C.2.1 dX15_writeMen_48 (by decide) (fun c_5 => ?_) (fun c_5 => ?_)
      · have hE := br_n hE c_5
        refine lv_iconst (v := (0 : Int32)) C.1 C.2.1 dX15_writeMen_55 (by decide) ?_
        exact bX15_writeMen_56 C hk_8 hk_19 k_x0 k_x1 hkm hW hZ _ (lv_sub hl [1, 2, 3, 4, 5, 6, 0] rfl) hE
      · have hE := br_p hE c_5
        refine lv_iconst (v := (1 : Int32)) C.1 C.2.1 dX15_writeMen_51 (by decide) ?_
        refine lv_goto (tgt := 56) C.1 C.2.1 dX15_writeMen_52 (by decide) ?_
        exact bX15_writeMen_56 C hk_8 hk_19 k_x0 k_x1 hkm hW hZ _ (lv_sub hl [1, 2, 3, 4, 5, 6, 0] rfl) hE
set_option maxRecDepth 20000 in
theorem bX15_writeMen_8 {p : Program} {l : Launch} {e : Env} {s : State} {m : MethodId} {args : Array Value} {below : List Frame} {meth : Method} {c : Code} {X : Ec} {h0 : Hp} {o : Hp} {F : Nat} (C : Cx X p s m args meth c RX15 cX15_writeMen 9 none "writeMen") : ∀ (f : Nat) {h : Hp} {x0 : Nat} {x1 : Nat} {x2 : Int64} {x4 : Int32} {H : Heap} {locs : List Loc} (k_x0 : hK h x0 = 15) (k_x1 : hK h x1 = 12), Km h0 h → Wx X h H → va_S (aA (eB X)) s.heap H locs → ∀ (ls : Array Slot), lv_has ls 9 [(0, .ref x0), (1, .ref x1), (2, .long x2), (4, .int x4)] → sX15_writeMen_8 F f h x0 x1 x2 x4 = some o → W p l e (rm 15 294) s m args below meth c H locs 0 0 (MQ below (QV X h0 o) args s 0 0 (aA (eB X))) (F0 m 8 ls []) := by
  intro f
  induction f with
  | zero =>
    intro h x0 x1 x2 x4 H locs k_x0 k_x1 hkm hW hZ ls hl hE
    rw [sX15_writeMen_8] at hE
    cases hE
  | succ f ih =>
    intro h x0 x1 x2 x4 H locs k_x0 k_x1 hkm hW hZ ls hl hE
    rw [sX15_writeMen_8] at hE
    have hk_8 : ∀ (h : Hp) (x0 : Nat) (x1 : Nat) (x2 : Int64) (x4 : Int32) (H : Heap) (locs : List Loc), hK h x0 = 15 → hK h x1 = 12 → Km h0 h → Wx X h H → va_S (aA (eB X)) s.heap H locs → ∀ (ls : Array Slot), lv_has ls 9 [(0, .ref x0), (1, .ref x1), (2, .long x2), (4, .int x4)] → sX15_writeMen_8 F f h x0 x1 x2 x4 = some o → W p l e (rm 15 294) s m args below meth c H locs 0 0 (MQ below (QV X h0 o) args s 0 0 (aA (eB X))) (F0 m 8 ls []) := fun h x0 x1 x2 x4 H locs k_x0 k_x1 a b c ls hl hE => ih k_x0 k_x1 a b c ls hl hE
    refine lv_iload C.1 C.2.1 dX15_writeMen_8 (lv_at hl 3 rfl) ?_
    refine lv_if_lt (tgt := 152) C.1 C.2.1 dX15_writeMen_10 (by decide) (fun c_1 => ?_) (fun c_1 => ?_)
    · have hE := br_p hE c_1
      exact x_vret C rfl hW hZ hkm hE dX15_writeMen_152
    · have hE := br_n hE c_1
      refine lv_iconst (v := (0 : Int32)) C.1 C.2.1 dX15_writeMen_13 (by decide) ?_
      refine lv_istore (lv' := [(5, .int (0 : Int32)), (0, .ref x0), (1, .ref x1), (2, .long x2), (4, .int x4)]) C.1 C.2.1 dX15_writeMen_14 hl (by decide) rfl (fun ls hl => ?_)
      refine lv_iconst (v := (0 : Int32)) C.1 C.2.1 dX15_writeMen_16 (by decide) ?_
      refine lv_istore (lv' := [(6, .int (0 : Int32)), (5, .int (0 : Int32)), (0, .ref x0), (1, .ref x1), (2, .long x2), (4, .int x4)]) C.1 C.2.1 dX15_writeMen_17 hl (by decide) rfl (fun ls hl => ?_)
      exact bX15_writeMen_19 C hk_8 F k_x0 k_x1 hkm hW hZ _ (lv_sub hl [2, 3, 4, 5, 1, 0] rfl) hE
set_option maxRecDepth 20000 in
theorem ct_X15_writeMen (l : Launch) (X : Ec) (F : Nat) {h : Hp} {x0 : Nat} {x1 : Nat} {x2 : Int64} {o : Hp} (k_x0 : hK h x0 = 15) (k_x1 : hK h x1 = 12) (hE : sX15_writeMen F h x0 x1 x2 = some o) : MetV l yX15_writeMen cX15_writeMen 9 none 15 294 X [.ref x0, .ref x1, .long x2] h o := by
  refine x_met (by decide) (Nat.le_of_ble_eq_true rfl) ?_
  intro p e s m below meth c ls C hl hW hZ
  have hl : lv_has ls 9 [(0, .ref x0), (1, .ref x1), (2, .long x2)] := hl
  have hkm : Km h h := Km.rf h
  refine lv_aload_n C.1 C.2.1 dX15_writeMen_0 rfl (lv_at hl 0 rfl) ?_
  refine gf_X15_383 C hW k_x0 dX15_writeMen_1 ?_
  refine lv_iconst (v := (1 : Int32)) C.1 C.2.1 dX15_writeMen_4 (by decide) ?_
  refine lv_isub C.1 C.2.1 dX15_writeMen_5 ?_
  obtain ⟨v_1, ev_1, hE⟩ := nm_e2 hE
  refine x_nmI ev_1 ?_
  refine lv_istore (lv' := [(4, .int v_1), (0, .ref x0), (1, .ref x1), (2, .long x2)]) C.1 C.2.1 dX15_writeMen_6 hl (by decide) rfl (fun ls hl => ?_)
  exact bX15_writeMen_8 C F k_x0 k_x1 hkm hW hZ _ (lv_sub hl [1, 2, 3, 0] rfl) hE
