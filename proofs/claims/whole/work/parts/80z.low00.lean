set_option maxRecDepth 100000 in
theorem m_1023 : Cond.fieldLink RX11 402 "GameRules" "SQUARE_OF" "[I" ∈ W0 := w0_in (List.mem_append_right _ (List.mem_of_getElem? (i := 1023) rfl)) rfl
set_option maxRecDepth 100000 in
theorem m_1025 : Cond.constantLong RX11 405 (285870213051386505 : Int64) ∈ W0 := w0_in (List.mem_append_right _ (List.mem_of_getElem? (i := 1025) rfl)) rfl
theorem dX11_lowest_0 : decode cX11_lowest 0 = .ok (.getstatic 402, 3) := by decide +kernel
theorem dX11_lowest_3 : decode cX11_lowest 3 = .ok (.lload_n 0, 1) := by decide +kernel
theorem dX11_lowest_4 : decode cX11_lowest 4 = .ok (.lload_n 0, 1) := by decide +kernel
theorem dX11_lowest_5 : decode cX11_lowest 5 = .ok (.lneg, 1) := by decide +kernel
theorem dX11_lowest_6 : decode cX11_lowest 6 = .ok (.land, 1) := by decide +kernel
theorem dX11_lowest_7 : decode cX11_lowest 7 = .ok (.ldc2_w 405, 3) := by decide +kernel
theorem dX11_lowest_10 : decode cX11_lowest 10 = .ok (.lmul, 1) := by decide +kernel
theorem dX11_lowest_11 : decode cX11_lowest 11 = .ok (.bipush 58, 2) := by decide +kernel
theorem dX11_lowest_13 : decode cX11_lowest 13 = .ok (.lushr, 1) := by decide +kernel
theorem dX11_lowest_14 : decode cX11_lowest 14 = .ok (.l2i, 1) := by decide +kernel
theorem dX11_lowest_15 : decode cX11_lowest 15 = .ok (.iaload, 1) := by decide +kernel
theorem dX11_lowest_16 : decode cX11_lowest 16 = .ok (.ireturn, 1) := by decide +kernel
set_option maxRecDepth 20000 in
theorem moX11_lowest {o : Int32 × Hp} {h : Hp} {x0 : Int64} (hE : sX11_lowest h x0 = some o) : Le h o.2 := by
  obtain ⟨g_1, hE⟩ := gd_e hE
  exact le_some2 hE
set_option maxRecDepth 20000 in
theorem ct_X11_lowest (l : Launch) (X : Ec) {h : Hp} {x0 : Int64} {o : Int32 × Hp} (hE : sX11_lowest h x0 = some o) : MetI l yX11_lowest cX11_lowest 2 (some .int) 0 0 X [.long x0] h o := by
  refine x_met (by decide) (Nat.le_of_ble_eq_true rfl) ?_
  intro p e s m below meth c ls C hl hW hZ
  have hl : lv_has ls 2 [(0, .long x0)] := hl
  have hkm : Km h h := Km.rf h
  refine y_sq (ref := "") C hZ m_1023 dX11_lowest_0 ?_
  refine lv_lload_n C.1 C.2.1 dX11_lowest_3 rfl (lv_at hl 0 rfl) ?_
  refine lv_lload_n C.1 C.2.1 dX11_lowest_4 rfl (lv_at hl 0 rfl) ?_
  refine lv_lneg C.1 C.2.1 dX11_lowest_5 ?_
  refine lv_land C.1 C.2.1 dX11_lowest_6 ?_
  refine lv_ldc2 (v := (285870213051386505 : Int64)) C.1 C.2.1 C.2.2.2.1 (C.2.2.2.2.1 _ m_1025) dX11_lowest_7 ?_
  refine lv_lmul C.1 C.2.1 dX11_lowest_10 ?_
  refine lv_bipush (v := (58 : Int32)) C.1 C.2.1 dX11_lowest_11 (by decide) ?_
  refine lv_lushr C.1 C.2.1 dX11_lowest_13 rfl ?_
  refine lv_l2i C.1 C.2.1 dX11_lowest_14 rfl ?_
  obtain ⟨g_1, hE⟩ := gd_e hE
  refine y_sqld C hZ g_1 dX11_lowest_15 ?_
  exact x_iret C rfl rfl hW hZ hkm hE dX11_lowest_16
