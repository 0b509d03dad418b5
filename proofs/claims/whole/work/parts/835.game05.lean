set_option maxRecDepth 100000 in
theorem m_1511 : Cond.methodLink RX11 341 yX7_writeRanks ∈ W0 := w0_in (List.mem_append_right _ (List.mem_of_getElem? (i := 1511) rfl)) rfl
theorem cw_X11_341 : cwd RX11 341 yX7_writeRanks cX7_writeRanks 10 none false 3 := ⟨m_1096, m_1511, m_10, ⟨m_1094, m_1095⟩, by decide, by decide, by decide +kernel⟩
theorem dX11_view_0 : decode cX11_view 0 = .ok (.iload_n 2, 1) := by decide +kernel
theorem dX11_view_1 : decode cX11_view 1 = .ok (.invokestatic 247, 3) := by decide +kernel
theorem dX11_view_4 : decode cX11_view 4 = .ok (.ifCond .ne 6, 3) := by decide +kernel
theorem dX11_view_7 : decode cX11_view 7 = .ok (.bipush (-101), 2) := by decide +kernel
theorem dX11_view_9 : decode cX11_view 9 = .ok (.ireturn, 1) := by decide +kernel
theorem dX11_view_10 : decode cX11_view 10 = .ok (.aload_n 0, 1) := by decide +kernel
theorem dX11_view_11 : decode cX11_view 11 = .ok (.iload_n 1, 1) := by decide +kernel
theorem dX11_view_12 : decode cX11_view 12 = .ok (.invokevirtual 193, 3) := by decide +kernel
theorem dX11_view_15 : decode cX11_view 15 = .ok (.ifCond .ne 6, 3) := by decide +kernel
theorem dX11_view_18 : decode cX11_view 18 = .ok (.bipush (-102), 2) := by decide +kernel
theorem dX11_view_20 : decode cX11_view 20 = .ok (.ireturn, 1) := by decide +kernel
theorem dX11_view_21 : decode cX11_view 21 = .ok (.aload_n 0, 1) := by decide +kernel
theorem dX11_view_22 : decode cX11_view 22 = .ok (.getfield 18, 3) := by decide +kernel
theorem dX11_view_25 : decode cX11_view 25 = .ok (.invokevirtual 144, 3) := by decide +kernel
theorem dX11_view_28 : decode cX11_view 28 = .ok (.aload_n 0, 1) := by decide +kernel
theorem dX11_view_29 : decode cX11_view 29 = .ok (.getfield 59, 3) := by decide +kernel
theorem dX11_view_32 : decode cX11_view 32 = .ok (.aload_n 0, 1) := by decide +kernel
theorem dX11_view_33 : decode cX11_view 33 = .ok (.getfield 103, 3) := by decide +kernel
theorem dX11_view_36 : decode cX11_view 36 = .ok (.iload_n 1, 1) := by decide +kernel
theorem dX11_view_37 : decode cX11_view 37 = .ok (.aaload, 1) := by decide +kernel
theorem dX11_view_38 : decode cX11_view 38 = .ok (.aload_n 0, 1) := by decide +kernel
theorem dX11_view_39 : decode cX11_view 39 = .ok (.getfield 50, 3) := by decide +kernel
theorem dX11_view_42 : decode cX11_view 42 = .ok (.aload_n 0, 1) := by decide +kernel
theorem dX11_view_43 : decode cX11_view 43 = .ok (.getfield 103, 3) := by decide +kernel
theorem dX11_view_46 : decode cX11_view 46 = .ok (.iload_n 1, 1) := by decide +kernel
theorem dX11_view_47 : decode cX11_view 47 = .ok (.aaload, 1) := by decide +kernel
theorem dX11_view_48 : decode cX11_view 48 = .ok (.iload_n 2, 1) := by decide +kernel
theorem dX11_view_49 : decode cX11_view 49 = .ok (.invokevirtual 337, 3) := by decide +kernel
theorem dX11_view_52 : decode cX11_view 52 = .ok (.aload_n 0, 1) := by decide +kernel
theorem dX11_view_53 : decode cX11_view 53 = .ok (.getfield 18, 3) := by decide +kernel
theorem dX11_view_56 : decode cX11_view 56 = .ok (.invokevirtual 341, 3) := by decide +kernel
theorem dX11_view_59 : decode cX11_view 59 = .ok (.aload_n 0, 1) := by decide +kernel
theorem dX11_view_60 : decode cX11_view 60 = .ok (.getfield 18, 3) := by decide +kernel
theorem dX11_view_63 : decode cX11_view 63 = .ok (.getfield 147, 3) := by decide +kernel
theorem dX11_view_66 : decode cX11_view 66 = .ok (.ireturn, 1) := by decide +kernel
set_option maxRecDepth 20000 in
theorem moX11_view {o : Int32 × Hp} {F : Nat} {h : Hp} {x0 : Nat} {x1 : Int32} {x2 : Int32} (hE : sX11_view F h x0 x1 x2 = some o) : Le h o.2 := by
  obtain ⟨o_1, eo_1, hE⟩ := cl_e hE
  refine (moX11_isSide eo_1).tr ?_
  rcases br_e hE with ⟨_, hE⟩ | ⟨_, hE⟩
  · exact le_some2 hE
  · obtain ⟨o_3, eo_3, hE⟩ := cl_e hE
    refine (moX11_isPlace eo_3).tr ?_
    rcases br_e hE with ⟨_, hE⟩ | ⟨_, hE⟩
    · exact le_some2 hE
    · obtain ⟨r_5, er_5, hE⟩ := cl_e hE
      obtain ⟨o_6, eo_6, hE⟩ := cl_e hE
      refine (moX9_clear eo_6).tr ?_
      obtain ⟨r_7, er_7, hE⟩ := cl_e hE
      obtain ⟨r_8, er_8, hE⟩ := cl_e hE
      obtain ⟨g_9, hE⟩ := gd_e hE
      obtain ⟨r_10, er_10, hE⟩ := cl_e hE
      obtain ⟨r_11, er_11, hE⟩ := cl_e hE
      obtain ⟨r_12, er_12, hE⟩ := cl_e hE
      obtain ⟨g_13, hE⟩ := gd_e hE
      obtain ⟨r_14, er_14, hE⟩ := cl_e hE
      obtain ⟨o_15, eo_15, hE⟩ := cl_e hE
      refine (moX5_seenBy eo_15).tr ?_
      obtain ⟨r_16, er_16, hE⟩ := cl_e hE
      obtain ⟨o_17, eo_17, hE⟩ := cl_e hE
      refine (moX7_writeRanks eo_17).tr ?_
      obtain ⟨r_18, er_18, hE⟩ := cl_e hE
      exact le_some2 hE
set_option maxRecDepth 20000 in
theorem ct_X11_view (l : Launch) (X : Ec) (F : Nat) {h : Hp} {x0 : Nat} {x1 : Int32} {x2 : Int32} {o : Int32 × Hp} (k_x0 : hK h x0 = 11) (hE : sX11_view F h x0 x1 x2 = some o) : MetI l yX11_view cX11_view 3 (some .int) 3 82 X [.ref x0, .int x1, .int x2] h o := by
  refine x_met (by decide) (Nat.le_of_ble_eq_true rfl) ?_
  intro p e s m below meth c ls C hl hW hZ
  have hl : lv_has ls 3 [(0, .ref x0), (1, .int x1), (2, .int x2)] := hl
  have hkm : Km h h := Km.rf h
  refine lv_iload_n C.1 C.2.1 dX11_view_0 rfl (lv_at hl 2 rfl) ?_
  obtain ⟨o_1, eo_1, hE⟩ := cl_e hE
  refine x_kI (o := o_1) (z_runS (As := [.int x2]) (rest := []) C (ct_X11_isSide l X eo_1) cw_X11_247 hW hZ rfl hl.1 (Nat.le_of_ble_eq_true rfl) rfl dX11_view_1 ⟨Nat.le_of_ble_eq_true rfl, Nat.le_of_ble_eq_true rfl⟩ ⟨Nat.le_refl _, Nat.le_refl _⟩) hZ (fun _ _ hW km hZ => ?_)
  replace hkm := hkm.tr km
  replace k_x0 := km.at k_x0 (by decide)
  refine lv_if_ne (tgt := 10) C.1 C.2.1 dX11_view_4 (by decide) (fun c_2 => ?_) (fun c_2 => ?_)
  · have hE := br_n hE c_2
    refine lv_aload_n C.1 C.2.1 dX11_view_10 rfl (lv_at hl 0 rfl) ?_
    refine lv_iload_n C.1 C.2.1 dX11_view_11 rfl (lv_at hl 1 rfl) ?_
    obtain ⟨o_3, eo_3, hE⟩ := cl_e hE
    refine x_kI (o := o_3) (z_runV (As := [.int x1]) (rest := []) C (ct_X11_isPlace l X k_x0 eo_3) cw_X11_193 hW hZ k_x0 (by decide) rfl rfl rfl hl.1 (Nat.le_of_ble_eq_true rfl) rfl dX11_view_12 ⟨Nat.le_of_ble_eq_true rfl, Nat.le_of_ble_eq_true rfl⟩ ⟨Nat.le_refl _, Nat.le_refl _⟩) hZ (fun _ _ hW km hZ => ?_)
    replace hkm := hkm.tr km
    replace k_x0 := km.at k_x0 (by decide)
    refine lv_if_ne (tgt := 21) C.1 C.2.1 dX11_view_15 (by decide) (fun c_4 => ?_) (fun c_4 => ?_)
    · have hE := br_n hE c_4
      refine lv_aload_n C.1 C.2.1 dX11_view_21 rfl (lv_at hl 0 rfl) ?_
      obtain ⟨r_5, er_5, hE⟩ := cl_e hE
      refine gf_X11_18 C hW k_x0 er_5 dX11_view_22 (fun k_r_5 => ?_)
      obtain ⟨o_6, eo_6, hE⟩ := cl_e hE
      refine x_kV (o := o_6) (z_runV (As := []) (rest := []) C (ct_X9_clear l X k_r_5 eo_6) cw_X11_144 hW hZ k_r_5 (by decide) rfl rfl rfl hl.1 (Nat.le_of_ble_eq_true rfl) rfl dX11_view_25 ⟨Nat.le_of_ble_eq_true rfl, Nat.le_of_ble_eq_true rfl⟩ ⟨Nat.le_refl _, Nat.le_refl _⟩) hZ (fun _ _ hW km hZ => ?_)
      replace hkm := hkm.tr km
      replace k_x0 := km.at k_x0 (by decide)
      refine lv_aload_n C.1 C.2.1 dX11_view_28 rfl (lv_at hl 0 rfl) ?_
      obtain ⟨r_7, er_7, hE⟩ := cl_e hE
      refine gf_X11_59 C hW k_x0 er_7 dX11_view_29 (fun k_r_7 => ?_)
      refine lv_aload_n C.1 C.2.1 dX11_view_32 rfl (lv_at hl 0 rfl) ?_
      obtain ⟨r_8, er_8, hE⟩ := cl_e hE
      refine gf_X11_103 C hW k_x0 er_8 dX11_view_33 (fun k_r_8 => ?_)
      refine lv_iload_n C.1 C.2.1 dX11_view_36 rfl (lv_at hl 1 rfl) ?_
      obtain ⟨g_9, hE⟩ := gd_e hE
      obtain ⟨r_10, er_10, hE⟩ := cl_e hE
      refine y_aald (t0 := 4) C hW k_r_8 (by decide) (by decide) rfl rfl rfl (fun _ => rfl) g_9 er_10 dX11_view_37 (fun k_r_10 => ?_)
      refine lv_aload_n C.1 C.2.1 dX11_view_38 rfl (lv_at hl 0 rfl) ?_
      obtain ⟨r_11, er_11, hE⟩ := cl_e hE
      refine gf_X11_50 C hW k_x0 er_11 dX11_view_39 (fun k_r_11 => ?_)
      refine lv_aload_n C.1 C.2.1 dX11_view_42 rfl (lv_at hl 0 rfl) ?_
      obtain ⟨r_12, er_12, hE⟩ := cl_e hE
      refine gf_X11_103 C hW k_x0 er_12 dX11_view_43 (fun k_r_12 => ?_)
      refine lv_iload_n C.1 C.2.1 dX11_view_46 rfl (lv_at hl 1 rfl) ?_
      obtain ⟨g_13, hE⟩ := gd_e hE
      obtain ⟨r_14, er_14, hE⟩ := cl_e hE
      refine y_aald (t0 := 4) C hW k_r_12 (by decide) (by decide) rfl rfl rfl (fun _ => rfl) g_13 er_14 dX11_view_47 (fun k_r_14 => ?_)
      refine lv_iload_n C.1 C.2.1 dX11_view_48 rfl (lv_at hl 2 rfl) ?_
      obtain ⟨o_15, eo_15, hE⟩ := cl_e hE
      refine x_kJ (o := o_15) (z_runV (As := [.ref r_14, .int x2]) (rest := [.ref r_10, .ref r_7]) C (ct_X5_seenBy l X F k_r_11 k_r_14 eo_15) cw_X11_337 hW hZ k_r_11 (by decide) rfl rfl rfl hl.1 (Nat.le_of_ble_eq_true rfl) rfl dX11_view_49 ⟨Nat.le_of_ble_eq_true rfl, Nat.le_of_ble_eq_true rfl⟩ ⟨Nat.le_refl _, Nat.le_refl _⟩) hZ (fun _ _ hW km hZ => ?_)
      replace hkm := hkm.tr km
      replace k_x0 := km.at k_x0 (by decide)
      replace k_r_10 := km.at k_r_10 (by decide)
      replace k_r_7 := km.at k_r_7 (by decide)
      refine lv_aload_n C.1 C.2.1 dX11_view_52 rfl (lv_at hl 0 rfl) ?_
      obtain ⟨r_16, er_16, hE⟩ := cl_e hE
      refine gf_X11_18 C hW k_x0 er_16 dX11_view_53 (fun k_r_16 => ?_)
      obtain ⟨o_17, eo_17, hE⟩ := cl_e hE
      refine x_kV (o := o_17) (z_runV (As := [.ref r_10, .long o_15.1, .ref r_16]) (rest := []) C (ct_X7_writeRanks l X F k_r_7 k_r_10 k_r_16 eo_17) cw_X11_341 hW hZ k_r_7 (by decide) rfl rfl rfl hl.1 (Nat.le_of_ble_eq_true rfl) rfl dX11_view_56 ⟨Nat.le_of_ble_eq_true rfl, Nat.le_of_ble_eq_true rfl⟩ ⟨Nat.le_refl _, Nat.le_refl _⟩) hZ (fun _ _ hW km hZ => ?_)
      replace hkm := hkm.tr km
      replace k_x0 := km.at k_x0 (by decide)
      refine lv_aload_n C.1 C.2.1 dX11_view_59 rfl (lv_at hl 0 rfl) ?_
      obtain ⟨r_18, er_18, hE⟩ := cl_e hE
      refine gf_X11_18 C hW k_x0 er_18 dX11_view_60 (fun k_r_18 => ?_)
      refine gf_X11_147 C hW k_r_18 dX11_view_63 ?_
      exact x_iret C rfl rfl hW hZ hkm hE dX11_view_66
    · have hE := br_p hE c_4
      refine lv_bipush (v := (-102 : Int32)) C.1 C.2.1 dX11_view_18 (by decide) ?_
      exact x_iret C rfl rfl hW hZ hkm hE dX11_view_20
  · have hE := br_p hE c_2
    refine lv_bipush (v := (-101 : Int32)) C.1 C.2.1 dX11_view_7 (by decide) ?_
    exact x_iret C rfl rfl hW hZ hkm hE dX11_view_9
set_option maxRecDepth 100000 in
theorem m_1516 : Cond.methodLink RX11 345 yX1_isPlain ∈ W0 := w0_in (List.mem_append_right _ (List.mem_of_getElem? (i := 1516) rfl)) rfl
set_option maxRecDepth 100000 in
theorem m_1517 : Cond.instanceMethod yX1_isPlain ∈ W0 := w0_in (List.mem_append_right _ (List.mem_of_getElem? (i := 1517) rfl)) rfl
set_option maxRecDepth 100000 in
theorem m_1518 : Cond.selects RX1 yX1_isPlain yX1_isPlain ∈ W0 := w0_in (List.mem_append_right _ (List.mem_of_getElem? (i := 1518) rfl)) rfl
set_option maxRecDepth 100000 in
theorem m_1519 : Cond.code yX1_isPlain cX1_isPlain 1 (some .boolean) ∈ W0 := w0_in (List.mem_append_right _ (List.mem_of_getElem? (i := 1519) rfl)) rfl
set_option maxRecDepth 100000 in
theorem m_1521 : Cond.methodLink RX11 349 yX6_find ∈ W0 := w0_in (List.mem_append_right _ (List.mem_of_getElem? (i := 1521) rfl)) rfl
set_option maxRecDepth 100000 in
theorem m_1522 : Cond.instanceMethod yX6_find ∈ W0 := w0_in (List.mem_append_right _ (List.mem_of_getElem? (i := 1522) rfl)) rfl
set_option maxRecDepth 100000 in
theorem m_1523 : Cond.selects RX6 yX6_find yX6_find ∈ W0 := w0_in (List.mem_append_right _ (List.mem_of_getElem? (i := 1523) rfl)) rfl
set_option maxRecDepth 100000 in
theorem m_1524 : Cond.code yX6_find cX6_find 8 (some .boolean) ∈ W0 := w0_in (List.mem_append_right _ (List.mem_of_getElem? (i := 1524) rfl)) rfl
section
variable {p : Program} {l : Launch} {e : Env} {R : Room} {s : State} {m : MethodId} {args : Array Value} {below : List Frame} {meth : Method} {c : Code} {H : Heap} {locs : List Loc} {cells slots : Nat} {Q : State → Prop}
variable {cc : ByteArray} {pc : Nat} {ls : Array Slot} {rest : List Value} {X : Ec} {h h1 : Hp} {nL : Nat} {rt : Option FieldType} {mn : String}
theorem gf_X11_352 {a : Nat} (C : Cx X p s m args meth c RX11 cc nL rt mn) (hW : Wx X h H) (ha : hK h a = 6) (hdg : decode cc pc = .ok (.getfield 352, 3)) (kk : W p l e R s m args below meth c H locs cells slots Q (F0 m (pc + 3) ls (.int (hI h a 6) :: rest))) : W p l e R s m args below meth c H locs cells slots Q (F0 m pc ls (.ref a :: rest)) :=
  y_geti C hW ha i_X6 (by decide) rfl (by decide) m_430 rfl hdg kk
end
theorem cw_X11_345 : cwd RX11 345 yX1_isPlain cX1_isPlain 1 (some .boolean) false 0 := ⟨m_1519, m_1516, m_4, ⟨m_1517, m_1518⟩, by decide, by decide, by decide +kernel⟩
theorem cw_X11_349 : cwd RX11 349 yX6_find cX6_find 8 (some .boolean) false 1 := ⟨m_1524, m_1521, m_12, ⟨m_1522, m_1523⟩, by decide, by decide, by decide +kernel⟩
theorem dX11_before_0 : decode cX11_before 0 = .ok (.aload_n 0, 1) := by decide +kernel
theorem dX11_before_1 : decode cX11_before 1 = .ok (.iload_n 1, 1) := by decide +kernel
theorem dX11_before_2 : decode cX11_before 2 = .ok (.invokevirtual 193, 3) := by decide +kernel
theorem dX11_before_5 : decode cX11_before 5 = .ok (.ifCond .ne 6, 3) := by decide +kernel
theorem dX11_before_8 : decode cX11_before 8 = .ok (.bipush (-102), 2) := by decide +kernel
theorem dX11_before_10 : decode cX11_before 10 = .ok (.ireturn, 1) := by decide +kernel
theorem dX11_before_11 : decode cX11_before 11 = .ok (.aload_n 0, 1) := by decide +kernel
theorem dX11_before_12 : decode cX11_before 12 = .ok (.getfield 24, 3) := by decide +kernel
theorem dX11_before_15 : decode cX11_before 15 = .ok (.invokevirtual 345, 3) := by decide +kernel
theorem dX11_before_18 : decode cX11_before 18 = .ok (.ifCond .ne 6, 3) := by decide +kernel
theorem dX11_before_21 : decode cX11_before 21 = .ok (.bipush (-103), 2) := by decide +kernel
theorem dX11_before_23 : decode cX11_before 23 = .ok (.ireturn, 1) := by decide +kernel
theorem dX11_before_24 : decode cX11_before 24 = .ok (.aload_n 0, 1) := by decide +kernel
theorem dX11_before_25 : decode cX11_before 25 = .ok (.getfield 77, 3) := by decide +kernel
theorem dX11_before_28 : decode cX11_before 28 = .ok (.aload_n 0, 1) := by decide +kernel
theorem dX11_before_29 : decode cX11_before 29 = .ok (.getfield 103, 3) := by decide +kernel
theorem dX11_before_32 : decode cX11_before 32 = .ok (.iload_n 1, 1) := by decide +kernel
theorem dX11_before_33 : decode cX11_before 33 = .ok (.aaload, 1) := by decide +kernel
theorem dX11_before_34 : decode cX11_before 34 = .ok (.invokevirtual 349, 3) := by decide +kernel
theorem dX11_before_37 : decode cX11_before 37 = .ok (.ifCond .eq 13, 3) := by decide +kernel
theorem dX11_before_40 : decode cX11_before 40 = .ok (.aload_n 0, 1) := by decide +kernel
theorem dX11_before_41 : decode cX11_before 41 = .ok (.getfield 77, 3) := by decide +kernel
theorem dX11_before_44 : decode cX11_before 44 = .ok (.getfield 352, 3) := by decide +kernel
theorem dX11_before_47 : decode cX11_before 47 = .ok (.goto 5, 3) := by decide +kernel
theorem dX11_before_50 : decode cX11_before 50 = .ok (.bipush (-104), 2) := by decide +kernel
theorem dX11_before_52 : decode cX11_before 52 = .ok (.ireturn, 1) := by decide +kernel
set_option maxRecDepth 20000 in
theorem moX11_before_52 {o : Int32 × Hp} {F : Nat} {h : Hp} {t0 : Int32} (hE : sX11_before_52 F h  t0 = some o) : Le h o.2 := by
  exact le_some2 hE
set_option maxRecDepth 20000 in
theorem moX11_before {o : Int32 × Hp} {F : Nat} {h : Hp} {x0 : Nat} {x1 : Int32} (hE : sX11_before F h x0 x1 = some o) : Le h o.2 := by
  obtain ⟨o_1, eo_1, hE⟩ := cl_e hE
  refine (moX11_isPlace eo_1).tr ?_
  rcases br_e hE with ⟨_, hE⟩ | ⟨_, hE⟩
  · exact le_some2 hE
  · obtain ⟨r_3, er_3, hE⟩ := cl_e hE
    obtain ⟨o_4, eo_4, hE⟩ := cl_e hE
    refine (moX1_isPlain eo_4).tr ?_
    rcases br_e hE with ⟨_, hE⟩ | ⟨_, hE⟩
    · exact le_some2 hE
    · obtain ⟨r_6, er_6, hE⟩ := cl_e hE
      obtain ⟨r_7, er_7, hE⟩ := cl_e hE
      obtain ⟨g_8, hE⟩ := gd_e hE
      obtain ⟨r_9, er_9, hE⟩ := cl_e hE
      obtain ⟨o_10, eo_10, hE⟩ := cl_e hE
      refine (moX6_find eo_10).tr ?_
      rcases br_e hE with ⟨_, hE⟩ | ⟨_, hE⟩
      · exact moX11_before_52 hE
      · obtain ⟨r_12, er_12, hE⟩ := cl_e hE
        exact moX11_before_52 hE
set_option maxRecDepth 20000 in
theorem bX11_before_52 {p : Program} {l : Launch} {e : Env} {s : State} {m : MethodId} {args : Array Value} {below : List Frame} {meth : Method} {c : Code} {X : Ec} {h0 : Hp} {o : Int32 × Hp} {F : Nat} (C : Cx X p s m args meth c RX11 cX11_before 2 (some .int) "before") {h : Hp} {t0 : Int32} {H : Heap} {locs : List Loc} (hkm : Km h0 h) (hW : Wx X h H) (hZ : va_S (aA (eB X)) s.heap H locs) (ls : Array Slot) (hl : lv_has ls 2 []) (hE : sX11_before_52 F h  t0 = some o) : W p l e (rm 7 217) s m args below meth c H locs 0 0 (MQ below (QI X h0 o.1 o.2) args s 0 0 (aA (eB X))) (F0 m 52 ls [.int t0]) := by
  exact x_iret C rfl rfl hW hZ hkm hE dX11_before_52
set_option maxRecDepth 20000 in
theorem ct_X11_before (l : Launch) (X : Ec) (F : Nat) {h : Hp} {x0 : Nat} {x1 : Int32} {o : Int32 × Hp} (k_x0 : hK h x0 = 11) (hE : sX11_before F h x0 x1 = some o) : MetI l yX11_before cX11_before 2 (some .int) 7 217 X [.ref x0, .int x1] h o := by
  refine x_met (by decide) (Nat.le_of_ble_eq_true rfl) ?_
  intro p e s m below meth c ls C hl hW hZ
  have hl : lv_has ls 2 [(0, .ref x0), (1, .int x1)] := hl
  have hkm : Km h h := Km.rf h
  refine lv_aload_n C.1 C.2.1 dX11_before_0 rfl (lv_at hl 0 rfl) ?_
  refine lv_iload_n C.1 C.2.1 dX11_before_1 rfl (lv_at hl 1 rfl) ?_
  obtain ⟨o_1, eo_1, hE⟩ := cl_e hE
  refine x_kI (o := o_1) (z_runV (As := [.int x1]) (rest := []) C (ct_X11_isPlace l X k_x0 eo_1) cw_X11_193 hW hZ k_x0 (by decide) rfl rfl rfl hl.1 (Nat.le_of_ble_eq_true rfl) rfl dX11_before_2 ⟨Nat.le_of_ble_eq_true rfl, Nat.le_of_ble_eq_true rfl⟩ ⟨Nat.le_refl _, Nat.le_refl _⟩) hZ (fun _ _ hW km hZ => ?_)
  replace hkm := hkm.tr km
  replace k_x0 := km.at k_x0 (by decide)
  refine lv_if_ne (tgt := 11) C.1 C.2.1 dX11_before_5 (by decide) (fun c_2 => ?_) (fun c_2 => ?_)
  · have hE := br_n hE c_2
    refine lv_aload_n C.1 C.2.1 dX11_before_11 rfl (lv_at hl 0 rfl) ?_
    obtain ⟨r_3, er_3, hE⟩ := cl_e hE
    refine gf_X11_24 C hW k_x0 er_3 dX11_before_12 (fun k_r_3 => ?_)
    obtain ⟨o_4, eo_4, hE⟩ := cl_e hE
    refine x_kI (o := o_4) (z_runV (As := []) (rest := []) C (ct_X1_isPlain l X k_r_3 eo_4) cw_X11_345 hW hZ k_r_3 (by decide) rfl rfl rfl hl.1 (Nat.le_of_ble_eq_true rfl) rfl dX11_before_15 ⟨Nat.le_of_ble_eq_true rfl, Nat.le_of_ble_eq_true rfl⟩ ⟨Nat.le_refl _, Nat.le_refl _⟩) hZ (fun _ _ hW km hZ => ?_)
    replace hkm := hkm.tr km
    replace k_x0 := km.at k_x0 (by decide)
    refine lv_if_ne (tgt := 24) C.1 C.2.1 dX11_before_18 (by decide) (fun c_5 => ?_) (fun c_5 => ?_)
    · have hE := br_n hE c_5
      refine lv_aload_n C.1 C.2.1 dX11_before_24 rfl (lv_at hl 0 rfl) ?_
      obtain ⟨r_6, er_6, hE⟩ := cl_e hE
      refine gf_X11_77 C hW k_x0 er_6 dX11_before_25 (fun k_r_6 => ?_)
      refine lv_aload_n C.1 C.2.1 dX11_before_28 rfl (lv_at hl 0 rfl) ?_
      obtain ⟨r_7, er_7, hE⟩ := cl_e hE
      refine gf_X11_103 C hW k_x0 er_7 dX11_before_29 (fun k_r_7 => ?_)
      refine lv_iload_n C.1 C.2.1 dX11_before_32 rfl (lv_at hl 1 rfl) ?_
      obtain ⟨g_8, hE⟩ := gd_e hE
      obtain ⟨r_9, er_9, hE⟩ := cl_e hE
      refine y_aald (t0 := 4) C hW k_r_7 (by decide) (by decide) rfl rfl rfl (fun _ => rfl) g_8 er_9 dX11_before_33 (fun k_r_9 => ?_)
      obtain ⟨o_10, eo_10, hE⟩ := cl_e hE
      refine x_kI (o := o_10) (z_runV (As := [.ref r_9]) (rest := []) C (ct_X6_find l X F k_r_6 k_r_9 eo_10) cw_X11_349 hW hZ k_r_6 (by decide) rfl rfl rfl hl.1 (Nat.le_of_ble_eq_true rfl) rfl dX11_before_34 ⟨Nat.le_of_ble_eq_true rfl, Nat.le_of_ble_eq_true rfl⟩ ⟨Nat.le_refl _, Nat.le_refl _⟩) hZ (fun _ _ hW km hZ => ?_)
      replace hkm := hkm.tr km
      replace k_x0 := km.at k_x0 (by decide)
      refine lv_if_eq (tgt := 50) C.1 C.2.1 dX11_before_37 (by decide) (fun c_11 => ?_) (fun c_11 => ?_)
      · have hE := br_p hE c_11
        refine lv_bipush (v := (-104 : Int32)) C.1 C.2.1 dX11_before_50 (by decide) ?_
        exact bX11_before_52 C hkm hW hZ _ (lv_sub hl [] rfl) hE
      · have hE := br_n hE c_11
        refine lv_aload_n C.1 C.2.1 dX11_before_40 rfl (lv_at hl 0 rfl) ?_
        obtain ⟨r_12, er_12, hE⟩ := cl_e hE
        refine gf_X11_77 C hW k_x0 er_12 dX11_before_41 (fun k_r_12 => ?_)
        refine gf_X11_352 C hW k_r_12 dX11_before_44 ?_
        refine lv_goto (tgt := 52) C.1 C.2.1 dX11_before_47 (by decide) ?_
        exact bX11_before_52 C hkm hW hZ _ (lv_sub hl [] rfl) hE
    · have hE := br_p hE c_5
      refine lv_bipush (v := (-103 : Int32)) C.1 C.2.1 dX11_before_21 (by decide) ?_
      exact x_iret C rfl rfl hW hZ hkm hE dX11_before_23
  · have hE := br_p hE c_2
    refine lv_bipush (v := (-102 : Int32)) C.1 C.2.1 dX11_before_8 (by decide) ?_
    exact x_iret C rfl rfl hW hZ hkm hE dX11_before_10
set_option maxRecDepth 100000 in
theorem m_1587 : Cond.methodLink RX11 355 yX6_fillIn ∈ W0 := w0_in (List.mem_append_right _ (List.mem_of_getElem? (i := 1587) rfl)) rfl
set_option maxRecDepth 100000 in
theorem m_1588 : Cond.instanceMethod yX6_fillIn ∈ W0 := w0_in (List.mem_append_right _ (List.mem_of_getElem? (i := 1588) rfl)) rfl
set_option maxRecDepth 100000 in
theorem m_1589 : Cond.selects RX6 yX6_fillIn yX6_fillIn ∈ W0 := w0_in (List.mem_append_right _ (List.mem_of_getElem? (i := 1589) rfl)) rfl
set_option maxRecDepth 100000 in
theorem m_1590 : Cond.code yX6_fillIn cX6_fillIn 3 none ∈ W0 := w0_in (List.mem_append_right _ (List.mem_of_getElem? (i := 1590) rfl)) rfl
theorem cw_X11_355 : cwd RX11 355 yX6_fillIn cX6_fillIn 3 none false 2 := ⟨m_1590, m_1587, m_12, ⟨m_1588, m_1589⟩, by decide, by decide, by decide +kernel⟩
theorem dX11_beforeAt_0 : decode cX11_beforeAt 0 = .ok (.iload_n 1, 1) := by decide +kernel
theorem dX11_beforeAt_1 : decode cX11_beforeAt 1 = .ok (.ifCond .lt 14, 3) := by decide +kernel
theorem dX11_beforeAt_4 : decode cX11_beforeAt 4 = .ok (.iload_n 1, 1) := by decide +kernel
theorem dX11_beforeAt_5 : decode cX11_beforeAt 5 = .ok (.aload_n 0, 1) := by decide +kernel
theorem dX11_beforeAt_6 : decode cX11_beforeAt 6 = .ok (.getfield 77, 3) := by decide +kernel
theorem dX11_beforeAt_9 : decode cX11_beforeAt 9 = .ok (.getfield 352, 3) := by decide +kernel
theorem dX11_beforeAt_12 : decode cX11_beforeAt 12 = .ok (.if_icmp .lt 6, 3) := by decide +kernel
theorem dX11_beforeAt_15 : decode cX11_beforeAt 15 = .ok (.bipush (-102), 2) := by decide +kernel
theorem dX11_beforeAt_17 : decode cX11_beforeAt 17 = .ok (.ireturn, 1) := by decide +kernel
theorem dX11_beforeAt_18 : decode cX11_beforeAt 18 = .ok (.aload_n 0, 1) := by decide +kernel
theorem dX11_beforeAt_19 : decode cX11_beforeAt 19 = .ok (.invokevirtual 183, 3) := by decide +kernel
theorem dX11_beforeAt_22 : decode cX11_beforeAt 22 = .ok (.istore_n 2, 1) := by decide +kernel
theorem dX11_beforeAt_23 : decode cX11_beforeAt 23 = .ok (.iload_n 2, 1) := by decide +kernel
theorem dX11_beforeAt_24 : decode cX11_beforeAt 24 = .ok (.iconst (-1), 1) := by decide +kernel
theorem dX11_beforeAt_25 : decode cX11_beforeAt 25 = .ok (.if_icmp .ne 6, 3) := by decide +kernel
theorem dX11_beforeAt_28 : decode cX11_beforeAt 28 = .ok (.bipush (-104), 2) := by decide +kernel
theorem dX11_beforeAt_30 : decode cX11_beforeAt 30 = .ok (.ireturn, 1) := by decide +kernel
theorem dX11_beforeAt_31 : decode cX11_beforeAt 31 = .ok (.aload_n 0, 1) := by decide +kernel
theorem dX11_beforeAt_32 : decode cX11_beforeAt 32 = .ok (.getfield 107, 3) := by decide +kernel
theorem dX11_beforeAt_35 : decode cX11_beforeAt 35 = .ok (.iload_n 2, 1) := by decide +kernel
theorem dX11_beforeAt_36 : decode cX11_beforeAt 36 = .ok (.iconst 1, 1) := by decide +kernel
theorem dX11_beforeAt_37 : decode cX11_beforeAt 37 = .ok (.bastore, 1) := by decide +kernel
theorem dX11_beforeAt_38 : decode cX11_beforeAt 38 = .ok (.aload_n 0, 1) := by decide +kernel
theorem dX11_beforeAt_39 : decode cX11_beforeAt 39 = .ok (.getfield 77, 3) := by decide +kernel
theorem dX11_beforeAt_42 : decode cX11_beforeAt 42 = .ok (.aload_n 0, 1) := by decide +kernel
theorem dX11_beforeAt_43 : decode cX11_beforeAt 43 = .ok (.getfield 103, 3) := by decide +kernel
theorem dX11_beforeAt_46 : decode cX11_beforeAt 46 = .ok (.iload_n 2, 1) := by decide +kernel
theorem dX11_beforeAt_47 : decode cX11_beforeAt 47 = .ok (.aaload, 1) := by decide +kernel
theorem dX11_beforeAt_48 : decode cX11_beforeAt 48 = .ok (.iload_n 1, 1) := by decide +kernel
theorem dX11_beforeAt_49 : decode cX11_beforeAt 49 = .ok (.invokevirtual 355, 3) := by decide +kernel
theorem dX11_beforeAt_52 : decode cX11_beforeAt 52 = .ok (.iload_n 2, 1) := by decide +kernel
theorem dX11_beforeAt_53 : decode cX11_beforeAt 53 = .ok (.ireturn, 1) := by decide +kernel
set_option maxRecDepth 20000 in
theorem moX11_beforeAt_15 {o : Int32 × Hp} {F : Nat} {h : Hp} (hE : sX11_beforeAt_15 F h  = some o) : Le h o.2 := by
  exact le_some2 hE
set_option maxRecDepth 20000 in
theorem moX11_beforeAt {o : Int32 × Hp} {F : Nat} {h : Hp} {x0 : Nat} {x1 : Int32} (hE : sX11_beforeAt F h x0 x1 = some o) : Le h o.2 := by
  rcases br_e hE with ⟨_, hE⟩ | ⟨_, hE⟩
  · exact moX11_beforeAt_15 hE
  · obtain ⟨r_2, er_2, hE⟩ := cl_e hE
    rcases br_e hE with ⟨_, hE⟩ | ⟨_, hE⟩
    · obtain ⟨o_4, eo_4, hE⟩ := cl_e hE
      refine (moX11_freePlace eo_4).tr ?_
      rcases br_e hE with ⟨_, hE⟩ | ⟨_, hE⟩
      · exact le_some2 hE
      · obtain ⟨r_6, er_6, hE⟩ := cl_e hE
        obtain ⟨g_7, hE⟩ := gd_e hE
        obtain ⟨h_8, eh_8, hE⟩ := nm_e2 hE
        refine (le_I eh_8).tr ?_
        obtain ⟨r_9, er_9, hE⟩ := cl_e hE
        obtain ⟨r_10, er_10, hE⟩ := cl_e hE
        obtain ⟨g_11, hE⟩ := gd_e hE
        obtain ⟨r_12, er_12, hE⟩ := cl_e hE
        obtain ⟨o_13, eo_13, hE⟩ := cl_e hE
        refine (moX6_fillIn eo_13).tr ?_
        exact le_some2 hE
    · exact moX11_beforeAt_15 hE
set_option maxRecDepth 20000 in
theorem bX11_beforeAt_15 {p : Program} {l : Launch} {e : Env} {s : State} {m : MethodId} {args : Array Value} {below : List Frame} {meth : Method} {c : Code} {X : Ec} {h0 : Hp} {o : Int32 × Hp} {F : Nat} (C : Cx X p s m args meth c RX11 cX11_beforeAt 3 (some .int) "beforeAt") {h : Hp} {H : Heap} {locs : List Loc} (hkm : Km h0 h) (hW : Wx X h H) (hZ : va_S (aA (eB X)) s.heap H locs) (ls : Array Slot) (hl : lv_has ls 3 []) (hE : sX11_beforeAt_15 F h  = some o) : W p l e (rm 4 130) s m args below meth c H locs 0 0 (MQ below (QI X h0 o.1 o.2) args s 0 0 (aA (eB X))) (F0 m 15 ls []) := by
  refine lv_bipush (v := (-102 : Int32)) C.1 C.2.1 dX11_beforeAt_15 (by decide) ?_
  exact x_iret C rfl rfl hW hZ hkm hE dX11_beforeAt_17
set_option maxRecDepth 20000 in
theorem ct_X11_beforeAt (l : Launch) (X : Ec) (F : Nat) {h : Hp} {x0 : Nat} {x1 : Int32} {o : Int32 × Hp} (k_x0 : hK h x0 = 11) (hE : sX11_beforeAt F h x0 x1 = some o) : MetI l yX11_beforeAt cX11_beforeAt 3 (some .int) 4 130 X [.ref x0, .int x1] h o := by
  refine x_met (by decide) (Nat.le_of_ble_eq_true rfl) ?_
  intro p e s m below meth c ls C hl hW hZ
  have hl : lv_has ls 3 [(0, .ref x0), (1, .int x1)] := hl
  have hkm : Km h h := Km.rf h
  refine lv_iload_n C.1 C.2.1 dX11_beforeAt_0 rfl (lv_at hl 1 rfl) ?_
  refine lv_if_lt (tgt := 15) C.1 C.2.1 dX11_beforeAt_1 (by decide) (fun c_1 => ?_) (fun c_1 => ?_)
  · have hE := br_p hE c_1
    exact bX11_beforeAt_15 C hkm hW hZ _ (lv_sub hl [] rfl) hE
  · have hE := br_n hE c_1
    refine lv_iload_n C.1 C.2.1 dX11_beforeAt_4 rfl (lv_at hl 1 rfl) ?_
    refine lv_aload_n C.1 C.2.1 dX11_beforeAt_5 rfl (lv_at hl 0 rfl) ?_
    obtain ⟨r_2, er_2, hE⟩ := cl_e hE
    refine gf_X11_77 C hW k_x0 er_2 dX11_beforeAt_6 (fun k_r_2 => ?_)
    refine gf_X11_352 C hW k_r_2 dX11_beforeAt_9 ?_
    refine lv_icmp_lt (tgt := 18) C.1 C.2.1 dX11_beforeAt_12 (by decide) (fun c_3 => ?_) (fun c_3 => ?_)
    · have hE := br_p hE c_3
      refine lv_aload_n C.1 C.2.1 dX11_beforeAt_18 rfl (lv_at hl 0 rfl) ?_
      obtain ⟨o_4, eo_4, hE⟩ := cl_e hE
      refine x_kI (o := o_4) (z_runV (As := []) (rest := []) C (ct_X11_freePlace l X F k_x0 eo_4) cw_X11_183 hW hZ k_x0 (by decide) rfl rfl rfl hl.1 (Nat.le_of_ble_eq_true rfl) rfl dX11_beforeAt_19 ⟨Nat.le_of_ble_eq_true rfl, Nat.le_of_ble_eq_true rfl⟩ ⟨Nat.le_refl _, Nat.le_refl _⟩) hZ (fun _ _ hW km hZ => ?_)
      replace hkm := hkm.tr km
      replace k_x0 := km.at k_x0 (by decide)
      refine lv_istore_n (lv' := [(2, .int o_4.1), (0, .ref x0), (1, .int x1)]) C.1 C.2.1 dX11_beforeAt_22 rfl hl (by decide) rfl (fun ls hl => ?_)
      refine lv_iload_n C.1 C.2.1 dX11_beforeAt_23 rfl (lv_at hl 0 rfl) ?_
      refine lv_iconst (v := (-1 : Int32)) C.1 C.2.1 dX11_beforeAt_24 (by decide) ?_
      refine lv_icmp_ne (tgt := 31) C.1 C.2.1 dX11_beforeAt_25 (by decide) (fun c_5 => ?_) (fun c_5 => ?_)
      · have hE := br_n hE c_5
        refine lv_aload_n C.1 C.2.1 dX11_beforeAt_31 rfl (lv_at hl 1 rfl) ?_
        obtain ⟨r_6, er_6, hE⟩ := cl_e hE
        refine gf_X11_107 C hW k_x0 er_6 dX11_beforeAt_32 (fun k_r_6 => ?_)
        refine lv_iload_n C.1 C.2.1 dX11_beforeAt_35 rfl (lv_at hl 0 rfl) ?_
        refine lv_iconst (v := (1 : Int32)) C.1 C.2.1 dX11_beforeAt_36 (by decide) ?_
        obtain ⟨g_7, hE⟩ := gd_e hE
        obtain ⟨h_8, eh_8, hE⟩ := nm_e2 hE
        refine y_zast C hW hZ k_r_6 g_7 eh_8 dX11_beforeAt_37 (fun _ _ hW km hZ => ?_)
        replace hkm := hkm.tr km
        replace k_x0 := km.at k_x0 (by decide)
        refine lv_aload_n C.1 C.2.1 dX11_beforeAt_38 rfl (lv_at hl 1 rfl) ?_
        obtain ⟨r_9, er_9, hE⟩ := cl_e hE
        refine gf_X11_77 C hW k_x0 er_9 dX11_beforeAt_39 (fun k_r_9 => ?_)
        refine lv_aload_n C.1 C.2.1 dX11_beforeAt_42 rfl (lv_at hl 1 rfl) ?_
        obtain ⟨r_10, er_10, hE⟩ := cl_e hE
        refine gf_X11_103 C hW k_x0 er_10 dX11_beforeAt_43 (fun k_r_10 => ?_)
        refine lv_iload_n C.1 C.2.1 dX11_beforeAt_46 rfl (lv_at hl 0 rfl) ?_
        obtain ⟨g_11, hE⟩ := gd_e hE
        obtain ⟨r_12, er_12, hE⟩ := cl_e hE
        refine y_aald (t0 := 4) C hW k_r_10 (by decide) (by decide) rfl rfl rfl (fun _ => rfl) g_11 er_12 dX11_beforeAt_47 (fun k_r_12 => ?_)
        refine lv_iload_n C.1 C.2.1 dX11_beforeAt_48 rfl (lv_at hl 2 rfl) ?_
        obtain ⟨o_13, eo_13, hE⟩ := cl_e hE
        refine x_kV (o := o_13) (z_runV (As := [.ref r_12, .int x1]) (rest := []) C (ct_X6_fillIn l X F k_r_9 k_r_12 eo_13) cw_X11_355 hW hZ k_r_9 (by decide) rfl rfl rfl hl.1 (Nat.le_of_ble_eq_true rfl) rfl dX11_beforeAt_49 ⟨Nat.le_of_ble_eq_true rfl, Nat.le_of_ble_eq_true rfl⟩ ⟨Nat.le_refl _, Nat.le_refl _⟩) hZ (fun _ _ hW km hZ => ?_)
        replace hkm := hkm.tr km
        replace k_x0 := km.at k_x0 (by decide)
        refine lv_iload_n C.1 C.2.1 dX11_beforeAt_52 rfl (lv_at hl 0 rfl) ?_
        exact x_iret C rfl rfl hW hZ hkm hE dX11_beforeAt_53
      · have hE := br_p hE c_5
        refine lv_bipush (v := (-104 : Int32)) C.1 C.2.1 dX11_beforeAt_28 (by decide) ?_
        exact x_iret C rfl rfl hW hZ hkm hE dX11_beforeAt_30
    · have hE := br_n hE c_3
      exact bX11_beforeAt_15 C hkm hW hZ _ (lv_sub hl [] rfl) hE
set_option maxRecDepth 100000 in
theorem m_467 : Cond.fieldLink RX11 367 (TX0 9).1 (TX0 9).2.1 (TX0 9).2.2.1 ∈ W0 := w0_in (List.mem_append_right _ (List.mem_of_getElem? (i := 467) rfl)) rfl
set_option maxRecDepth 100000 in
theorem m_1595 : Cond.methodLink RX11 358 yX1_hasCatch ∈ W0 := w0_in (List.mem_append_right _ (List.mem_of_getElem? (i := 1595) rfl)) rfl
set_option maxRecDepth 100000 in
theorem m_1596 : Cond.instanceMethod yX1_hasCatch ∈ W0 := w0_in (List.mem_append_right _ (List.mem_of_getElem? (i := 1596) rfl)) rfl
set_option maxRecDepth 100000 in
theorem m_1597 : Cond.selects RX1 yX1_hasCatch yX1_hasCatch ∈ W0 := w0_in (List.mem_append_right _ (List.mem_of_getElem? (i := 1597) rfl)) rfl
set_option maxRecDepth 100000 in
theorem m_1598 : Cond.code yX1_hasCatch cX1_hasCatch 3 (some .boolean) ∈ W0 := w0_in (List.mem_append_right _ (List.mem_of_getElem? (i := 1598) rfl)) rfl
set_option maxRecDepth 100000 in
theorem m_1599 : Cond.methodLink RX11 361 yX0_read ∈ W0 := w0_in (List.mem_append_right _ (List.mem_of_getElem? (i := 1599) rfl)) rfl
set_option maxRecDepth 100000 in
theorem m_1600 : Cond.instanceMethod yX0_read ∈ W0 := w0_in (List.mem_append_right _ (List.mem_of_getElem? (i := 1600) rfl)) rfl
set_option maxRecDepth 100000 in
theorem m_1601 : Cond.selects RX0 yX0_read yX0_read ∈ W0 := w0_in (List.mem_append_right _ (List.mem_of_getElem? (i := 1601) rfl)) rfl
set_option maxRecDepth 100000 in
theorem m_1602 : Cond.code yX0_read cX0_read 6 (some .int) ∈ W0 := w0_in (List.mem_append_right _ (List.mem_of_getElem? (i := 1602) rfl)) rfl
set_option maxRecDepth 100000 in
theorem m_1608 : Cond.methodLink RX11 364 yX0_run ∈ W0 := w0_in (List.mem_append_right _ (List.mem_of_getElem? (i := 1608) rfl)) rfl
set_option maxRecDepth 100000 in
theorem m_1609 : Cond.instanceMethod yX0_run ∈ W0 := w0_in (List.mem_append_right _ (List.mem_of_getElem? (i := 1609) rfl)) rfl
set_option maxRecDepth 100000 in
theorem m_1610 : Cond.selects RX0 yX0_run yX0_run ∈ W0 := w0_in (List.mem_append_right _ (List.mem_of_getElem? (i := 1610) rfl)) rfl
set_option maxRecDepth 100000 in
theorem m_1611 : Cond.code yX0_run cX0_run 4 (some .boolean) ∈ W0 := w0_in (List.mem_append_right _ (List.mem_of_getElem? (i := 1611) rfl)) rfl
section
variable {p : Program} {l : Launch} {e : Env} {R : Room} {s : State} {m : MethodId} {args : Array Value} {below : List Frame} {meth : Method} {c : Code} {H : Heap} {locs : List Loc} {cells slots : Nat} {Q : State → Prop}
variable {cc : ByteArray} {pc : Nat} {ls : Array Slot} {rest : List Value} {X : Ec} {h h1 : Hp} {nL : Nat} {rt : Option FieldType} {mn : String}
theorem gf_X11_367 {a : Nat} (C : Cx X p s m args meth c RX11 cc nL rt mn) (hW : Wx X h H) (ha : hK h a = 0) (hdg : decode cc pc = .ok (.getfield 367, 3)) (kk : W p l e R s m args below meth c H locs cells slots Q (F0 m (pc + 3) ls (.int (hI h a 9) :: rest))) : W p l e R s m args below meth c H locs cells slots Q (F0 m pc ls (.ref a :: rest)) :=
  y_geti C hW ha i_X0 (by decide) rfl (by decide) m_467 rfl hdg kk
end
theorem cw_X11_364 : cwd RX11 364 yX0_run cX0_run 4 (some .boolean) false 0 := ⟨m_1611, m_1608, m_13, ⟨m_1609, m_1610⟩, by decide, by decide, by decide +kernel⟩
theorem cw_X11_361 : cwd RX11 361 yX0_read cX0_read 6 (some .int) false 1 := ⟨m_1602, m_1599, m_13, ⟨m_1600, m_1601⟩, by decide, by decide, by decide +kernel⟩
theorem cw_X11_358 : cwd RX11 358 yX1_hasCatch cX1_hasCatch 3 (some .boolean) false 0 := ⟨m_1598, m_1595, m_4, ⟨m_1596, m_1597⟩, by decide, by decide, by decide +kernel⟩
theorem dX11_solve_0 : decode cX11_solve 0 = .ok (.bipush (-103), 2) := by decide +kernel
theorem dX11_solve_2 : decode cX11_solve 2 = .ok (.istore_n 1, 1) := by decide +kernel
theorem dX11_solve_3 : decode cX11_solve 3 = .ok (.aload_n 0, 1) := by decide +kernel
theorem dX11_solve_4 : decode cX11_solve 4 = .ok (.getfield 24, 3) := by decide +kernel
theorem dX11_solve_7 : decode cX11_solve 7 = .ok (.invokevirtual 345, 3) := by decide +kernel
theorem dX11_solve_10 : decode cX11_solve 10 = .ok (.ifCond .eq 61, 3) := by decide +kernel
theorem dX11_solve_13 : decode cX11_solve 13 = .ok (.aload_n 0, 1) := by decide +kernel
theorem dX11_solve_14 : decode cX11_solve 14 = .ok (.getfield 24, 3) := by decide +kernel
theorem dX11_solve_17 : decode cX11_solve 17 = .ok (.invokevirtual 358, 3) := by decide +kernel
theorem dX11_solve_20 : decode cX11_solve 20 = .ok (.ifCond .ne 51, 3) := by decide +kernel
theorem dX11_solve_23 : decode cX11_solve 23 = .ok (.aload_n 0, 1) := by decide +kernel
theorem dX11_solve_24 : decode cX11_solve 24 = .ok (.getfield 84, 3) := by decide +kernel
theorem dX11_solve_27 : decode cX11_solve 27 = .ok (.aload_n 0, 1) := by decide +kernel
theorem dX11_solve_28 : decode cX11_solve 28 = .ok (.getfield 14, 3) := by decide +kernel
theorem dX11_solve_31 : decode cX11_solve 31 = .ok (.invokevirtual 361, 3) := by decide +kernel
theorem dX11_solve_34 : decode cX11_solve 34 = .ok (.istore_n 2, 1) := by decide +kernel
theorem dX11_solve_35 : decode cX11_solve 35 = .ok (.iload_n 2, 1) := by decide +kernel
theorem dX11_solve_36 : decode cX11_solve 36 = .ok (.iconst (-1), 1) := by decide +kernel
theorem dX11_solve_37 : decode cX11_solve 37 = .ok (.if_icmp .eq 11, 3) := by decide +kernel
theorem dX11_solve_40 : decode cX11_solve 40 = .ok (.sipush (-200), 3) := by decide +kernel
theorem dX11_solve_43 : decode cX11_solve 43 = .ok (.iload_n 2, 1) := by decide +kernel
theorem dX11_solve_44 : decode cX11_solve 44 = .ok (.isub, 1) := by decide +kernel
theorem dX11_solve_45 : decode cX11_solve 45 = .ok (.goto 25, 3) := by decide +kernel
theorem dX11_solve_48 : decode cX11_solve 48 = .ok (.aload_n 0, 1) := by decide +kernel
theorem dX11_solve_49 : decode cX11_solve 49 = .ok (.getfield 84, 3) := by decide +kernel
theorem dX11_solve_52 : decode cX11_solve 52 = .ok (.invokevirtual 364, 3) := by decide +kernel
theorem dX11_solve_55 : decode cX11_solve 55 = .ok (.ifCond .eq 13, 3) := by decide +kernel
theorem dX11_solve_58 : decode cX11_solve 58 = .ok (.aload_n 0, 1) := by decide +kernel
theorem dX11_solve_59 : decode cX11_solve 59 = .ok (.getfield 84, 3) := by decide +kernel
theorem dX11_solve_62 : decode cX11_solve 62 = .ok (.getfield 367, 3) := by decide +kernel
theorem dX11_solve_65 : decode cX11_solve 65 = .ok (.goto 5, 3) := by decide +kernel
theorem dX11_solve_68 : decode cX11_solve 68 = .ok (.bipush (-104), 2) := by decide +kernel
theorem dX11_solve_70 : decode cX11_solve 70 = .ok (.istore_n 1, 1) := by decide +kernel
theorem dX11_solve_71 : decode cX11_solve 71 = .ok (.aload_n 0, 1) := by decide +kernel
theorem dX11_solve_72 : decode cX11_solve 72 = .ok (.getfield 14, 3) := by decide +kernel
theorem dX11_solve_75 : decode cX11_solve 75 = .ok (.invokevirtual 144, 3) := by decide +kernel
theorem dX11_solve_78 : decode cX11_solve 78 = .ok (.iload_n 1, 1) := by decide +kernel
theorem dX11_solve_79 : decode cX11_solve 79 = .ok (.ireturn, 1) := by decide +kernel
set_option maxRecDepth 20000 in
theorem moX11_solve_78 {o : Int32 × Hp} {F : Nat} {h : Hp} {x1 : Int32} (hE : sX11_solve_78 F h x1 = some o) : Le h o.2 := by
  exact le_some2 hE
set_option maxRecDepth 20000 in
theorem moX11_solve_71 {o : Int32 × Hp} {F : Nat} {h : Hp} {x0 : Nat} {x1 : Int32} (hE : sX11_solve_71 F h x0 x1 = some o) : Le h o.2 := by
  obtain ⟨r_1, er_1, hE⟩ := cl_e hE
  obtain ⟨o_2, eo_2, hE⟩ := cl_e hE
  refine (moX9_clear eo_2).tr ?_
  exact moX11_solve_78 hE
set_option maxRecDepth 20000 in
theorem moX11_solve_70 {o : Int32 × Hp} {F : Nat} {h : Hp} {x0 : Nat} {t0 : Int32} (hE : sX11_solve_70 F h x0 t0 = some o) : Le h o.2 := by
  exact moX11_solve_71 hE
set_option maxRecDepth 20000 in
theorem moX11_solve_55 {o : Int32 × Hp} {F : Nat} {h : Hp} {x0 : Nat} {t0 : Int32} (hE : sX11_solve_55 F h x0 t0 = some o) : Le h o.2 := by
  rcases br_e hE with ⟨_, hE⟩ | ⟨_, hE⟩
  · exact moX11_solve_70 hE
  · obtain ⟨r_2, er_2, hE⟩ := cl_e hE
    exact moX11_solve_70 hE
set_option maxRecDepth 20000 in
theorem moX11_solve_34 {o : Int32 × Hp} {F : Nat} {h : Hp} {x0 : Nat} {t0 : Int32} (hE : sX11_solve_34 F h x0 t0 = some o) : Le h o.2 := by
  rcases br_e hE with ⟨_, hE⟩ | ⟨_, hE⟩
  · obtain ⟨r_2, er_2, hE⟩ := cl_e hE
    obtain ⟨o_3, eo_3, hE⟩ := cl_e hE
    refine (moX0_run eo_3).tr ?_
    exact moX11_solve_55 hE
  · exact moX11_solve_70 hE
set_option maxRecDepth 20000 in
theorem moX11_solve_20 {o : Int32 × Hp} {F : Nat} {h : Hp} {x0 : Nat} {x1 : Int32} {t0 : Int32} (hE : sX11_solve_20 F h x0 x1 t0 = some o) : Le h o.2 := by
  rcases br_e hE with ⟨_, hE⟩ | ⟨_, hE⟩
  · obtain ⟨r_2, er_2, hE⟩ := cl_e hE
    obtain ⟨r_3, er_3, hE⟩ := cl_e hE
    obtain ⟨o_4, eo_4, hE⟩ := cl_e hE
    refine (moX0_read eo_4).tr ?_
    exact moX11_solve_34 hE
  · exact moX11_solve_71 hE
set_option maxRecDepth 20000 in
theorem moX11_solve_10 {o : Int32 × Hp} {F : Nat} {h : Hp} {x0 : Nat} {x1 : Int32} {t0 : Int32} (hE : sX11_solve_10 F h x0 x1 t0 = some o) : Le h o.2 := by
  rcases br_e hE with ⟨_, hE⟩ | ⟨_, hE⟩
  · exact moX11_solve_71 hE
  · obtain ⟨r_2, er_2, hE⟩ := cl_e hE
    obtain ⟨o_3, eo_3, hE⟩ := cl_e hE
    refine (moX1_hasCatch eo_3).tr ?_
    exact moX11_solve_20 hE
set_option maxRecDepth 20000 in
theorem moX11_solve {o : Int32 × Hp} {F : Nat} {h : Hp} {x0 : Nat} (hE : sX11_solve F h x0 = some o) : Le h o.2 := by
  obtain ⟨r_1, er_1, hE⟩ := cl_e hE
  obtain ⟨o_2, eo_2, hE⟩ := cl_e hE
  refine (moX1_isPlain eo_2).tr ?_
  exact moX11_solve_10 hE
set_option maxRecDepth 20000 in
theorem bX11_solve_78 {p : Program} {l : Launch} {e : Env} {s : State} {m : MethodId} {args : Array Value} {below : List Frame} {meth : Method} {c : Code} {X : Ec} {h0 : Hp} {o : Int32 × Hp} {F : Nat} (C : Cx X p s m args meth c RX11 cX11_solve 3 (some .int) "solve") {h : Hp} {x1 : Int32} {H : Heap} {locs : List Loc} (hkl : Kl h0 h) (hW : Wx X h H) (hZ : va_S (aA (eB X)) s.heap H locs) (ls : Array Slot) (hl : lv_has ls 3 [(1, .int x1)]) (hE : sX11_solve_78 F h x1 = some o) : W p l e (rmA 7 194 h0 o.2) s m args below meth c H locs (hS h - hS h0) (hL h - hL h0) (MQ below (QIA X h0 o.1 o.2) args s (hS o.2 - hS h0) (hL o.2 - hL h0) (aA (eB X))) (F0 m 78 ls []) := by
  refine lv_iload_n C.1 C.2.1 dX11_solve_78 rfl (lv_at hl 0 rfl) ?_
  exact x_iretA C rfl rfl hW hZ hkl hE dX11_solve_79
set_option maxRecDepth 20000 in
theorem bX11_solve_71 {p : Program} {l : Launch} {e : Env} {s : State} {m : MethodId} {args : Array Value} {below : List Frame} {meth : Method} {c : Code} {X : Ec} {h0 : Hp} {o : Int32 × Hp} {F : Nat} (C : Cx X p s m args meth c RX11 cX11_solve 3 (some .int) "solve") {h : Hp} {x0 : Nat} {x1 : Int32} {H : Heap} {locs : List Loc} (k_x0 : hK h x0 = 11) (hkl : Kl h0 h) (hW : Wx X h H) (hZ : va_S (aA (eB X)) s.heap H locs) (ls : Array Slot) (hl : lv_has ls 3 [(0, .ref x0), (1, .int x1)]) (hE : sX11_solve_71 F h x0 x1 = some o) : W p l e (rmA 7 194 h0 o.2) s m args below meth c H locs (hS h - hS h0) (hL h - hL h0) (MQ below (QIA X h0 o.1 o.2) args s (hS o.2 - hS h0) (hL o.2 - hL h0) (aA (eB X))) (F0 m 71 ls []) := by
  refine lv_aload_n C.1 C.2.1 dX11_solve_71 rfl (lv_at hl 0 rfl) ?_
  obtain ⟨r_1, er_1, hE⟩ := cl_e hE
  refine gf_X11_14 C hW k_x0 er_1 dX11_solve_72 (fun k_r_1 => ?_)
  obtain ⟨o_2, eo_2, hE⟩ := cl_e hE
  have m1 := moX9_clear eo_2
  have m2 := moX11_solve_78 hE
  refine x_kV (o := o_2) (z_runV (As := []) (rest := []) C (ct_X9_clear l X k_r_1 eo_2) cw_X11_144 hW hZ k_r_1 (by decide) rfl rfl rfl hl.1 (Nat.le_of_ble_eq_true rfl) rfl dX11_solve_75 ⟨Nat.le_of_ble_eq_true rfl, Nat.le_of_ble_eq_true rfl⟩ (rm_ok0 hkl m1 m2)) hZ (fun _ _ hW km hZ => ?_)
  replace hkl := hkl.tr km.l
  refine x_wc km ?_
  replace k_x0 := km.at k_x0 (by decide)
  exact bX11_solve_78 C hkl hW hZ _ (lv_sub hl [1] rfl) hE
set_option maxRecDepth 20000 in
theorem bX11_solve_70 {p : Program} {l : Launch} {e : Env} {s : State} {m : MethodId} {args : Array Value} {below : List Frame} {meth : Method} {c : Code} {X : Ec} {h0 : Hp} {o : Int32 × Hp} {F : Nat} (C : Cx X p s m args meth c RX11 cX11_solve 3 (some .int) "solve") {h : Hp} {x0 : Nat} {t0 : Int32} {H : Heap} {locs : List Loc} (k_x0 : hK h x0 = 11) (hkl : Kl h0 h) (hW : Wx X h H) (hZ : va_S (aA (eB X)) s.heap H locs) (ls : Array Slot) (hl : lv_has ls 3 [(0, .ref x0)]) (hE : sX11_solve_70 F h x0 t0 = some o) : W p l e (rmA 7 194 h0 o.2) s m args below meth c H locs (hS h - hS h0) (hL h - hL h0) (MQ below (QIA X h0 o.1 o.2) args s (hS o.2 - hS h0) (hL o.2 - hL h0) (aA (eB X))) (F0 m 70 ls [.int t0]) := by
  refine lv_istore_n (lv' := [(1, .int t0), (0, .ref x0)]) C.1 C.2.1 dX11_solve_70 rfl hl (by decide) rfl (fun ls hl => ?_)
  exact bX11_solve_71 C k_x0 hkl hW hZ _ (lv_sub hl [1, 0] rfl) hE
set_option maxRecDepth 20000 in
theorem bX11_solve_55 {p : Program} {l : Launch} {e : Env} {s : State} {m : MethodId} {args : Array Value} {below : List Frame} {meth : Method} {c : Code} {X : Ec} {h0 : Hp} {o : Int32 × Hp} {F : Nat} (C : Cx X p s m args meth c RX11 cX11_solve 3 (some .int) "solve") {h : Hp} {x0 : Nat} {t0 : Int32} {H : Heap} {locs : List Loc} (k_x0 : hK h x0 = 11) (hkl : Kl h0 h) (hW : Wx X h H) (hZ : va_S (aA (eB X)) s.heap H locs) (ls : Array Slot) (hl : lv_has ls 3 [(0, .ref x0)]) (hE : sX11_solve_55 F h x0 t0 = some o) : W p l e (rmA 7 194 h0 o.2) s m args below meth c H locs (hS h - hS h0) (hL h - hL h0) (MQ below (QIA X h0 o.1 o.2) args s (hS o.2 - hS h0) (hL o.2 - hL h0) (aA (eB X))) (F0 m 55 ls [.int t0]) := by
  refine lv_if_eq (tgt := 68) C.1 C.2.1 dX11_solve_55 (by decide) (fun c_1 => ?_) (fun c_1 => ?_)
  · have hE := br_p hE c_1
    refine lv_bipush (v := (-104 : Int32)) C.1 C.2.1 dX11_solve_68 (by decide) ?_
    exact bX11_solve_70 C k_x0 hkl hW hZ _ (lv_sub hl [0] rfl) hE
  · have hE := br_n hE c_1
    refine lv_aload_n C.1 C.2.1 dX11_solve_58 rfl (lv_at hl 0 rfl) ?_
    obtain ⟨r_2, er_2, hE⟩ := cl_e hE
    refine gf_X11_84 C hW k_x0 er_2 dX11_solve_59 (fun k_r_2 => ?_)
    refine gf_X11_367 C hW k_r_2 dX11_solve_62 ?_
    refine lv_goto (tgt := 70) C.1 C.2.1 dX11_solve_65 (by decide) ?_
    exact bX11_solve_70 C k_x0 hkl hW hZ _ (lv_sub hl [0] rfl) hE
set_option maxRecDepth 20000 in
theorem bX11_solve_34 {p : Program} {l : Launch} {e : Env} {s : State} {m : MethodId} {args : Array Value} {below : List Frame} {meth : Method} {c : Code} {X : Ec} {h0 : Hp} {o : Int32 × Hp} {F : Nat} (C : Cx X p s m args meth c RX11 cX11_solve 3 (some .int) "solve") {h : Hp} {x0 : Nat} {t0 : Int32} {H : Heap} {locs : List Loc} (k_x0 : hK h x0 = 11) (hkl : Kl h0 h) (hW : Wx X h H) (hZ : va_S (aA (eB X)) s.heap H locs) (ls : Array Slot) (hl : lv_has ls 3 [(0, .ref x0)]) (hE : sX11_solve_34 F h x0 t0 = some o) : W p l e (rmA 7 194 h0 o.2) s m args below meth c H locs (hS h - hS h0) (hL h - hL h0) (MQ below (QIA X h0 o.1 o.2) args s (hS o.2 - hS h0) (hL o.2 - hL h0) (aA (eB X))) (F0 m 34 ls [.int t0]) := by
  refine lv_istore_n (lv' := [(2, .int t0), (0, .ref x0)]) C.1 C.2.1 dX11_solve_34 rfl hl (by decide) rfl (fun ls hl => ?_)
  refine lv_iload_n C.1 C.2.1 dX11_solve_35 rfl (lv_at hl 0 rfl) ?_
  refine lv_iconst (v := (-1 : Int32)) C.1 C.2.1 dX11_solve_36 (by decide) ?_
  refine lv_icmp_eq (tgt := 48) C.1 C.2.1 dX11_solve_37 (by decide) (fun c_1 => ?_) (fun c_1 => ?_)
  · have hE := br_p hE c_1
    refine lv_aload_n C.1 C.2.1 dX11_solve_48 rfl (lv_at hl 1 rfl) ?_
    obtain ⟨r_2, er_2, hE⟩ := cl_e hE
    refine gf_X11_84 C hW k_x0 er_2 dX11_solve_49 (fun k_r_2 => ?_)
    obtain ⟨o_3, eo_3, hE⟩ := cl_e hE
    have m1 := moX0_run eo_3
    have m2 := moX11_solve_55 hE
    refine x_kIA (o := o_3) hkl (z_runV (As := []) (rest := []) C (ct_X0_run l X F k_r_2 eo_3) cw_X11_364 hW hZ k_r_2 (by decide) rfl rfl rfl hl.1 (Nat.le_of_ble_eq_true rfl) rfl dX11_solve_52 ⟨Nat.le_of_ble_eq_true rfl, Nat.le_of_ble_eq_true rfl⟩ (rm_ok hkl m1 m2)) hZ (fun _ _ hW km hZ => ?_)
    replace hkl := hkl.tr km
    replace k_x0 := km.at k_x0 (by decide)
    exact bX11_solve_55 C k_x0 hkl hW hZ _ (lv_sub hl [1] rfl) hE
  · have hE := br_n hE c_1
    refine lv_sipush (v := (-200 : Int32)) C.1 C.2.1 dX11_solve_40 (by decide) ?_
    refine lv_iload_n C.1 C.2.1 dX11_solve_43 rfl (lv_at hl 0 rfl) ?_
    refine lv_isub C.1 C.2.1 dX11_solve_44 ?_
    refine lv_goto (tgt := 70) C.1 C.2.1 dX11_solve_45 (by decide) ?_
    exact bX11_solve_70 C k_x0 hkl hW hZ _ (lv_sub hl [1] rfl) hE
set_option maxRecDepth 20000 in
theorem bX11_solve_20 {p : Program} {l : Launch} {e : Env} {s : State} {m : MethodId} {args : Array Value} {below : List Frame} {meth : Method} {c : Code} {X : Ec} {h0 : Hp} {o : Int32 × Hp} {F : Nat} (C : Cx X p s m args meth c RX11 cX11_solve 3 (some .int) "solve") {h : Hp} {x0 : Nat} {x1 : Int32} {t0 : Int32} {H : Heap} {locs : List Loc} (k_x0 : hK h x0 = 11) (hkl : Kl h0 h) (hW : Wx X h H) (hZ : va_S (aA (eB X)) s.heap H locs) (ls : Array Slot) (hl : lv_has ls 3 [(0, .ref x0), (1, .int x1)]) (hE : sX11_solve_20 F h x0 x1 t0 = some o) : W p l e (rmA 7 194 h0 o.2) s m args below meth c H locs (hS h - hS h0) (hL h - hL h0) (MQ below (QIA X h0 o.1 o.2) args s (hS o.2 - hS h0) (hL o.2 - hL h0) (aA (eB X))) (F0 m 20 ls [.int t0]) := by
  refine lv_if_ne (tgt := 71) C.1 C.2.1 dX11_solve_20 (by decide) (fun c_1 => ?_) (fun c_1 => ?_)
  · have hE := br_n hE c_1
    exact bX11_solve_71 C k_x0 hkl hW hZ _ (lv_sub hl [0, 1] rfl) hE
  · have hE := br_p hE c_1
    refine lv_aload_n C.1 C.2.1 dX11_solve_23 rfl (lv_at hl 0 rfl) ?_
    obtain ⟨r_2, er_2, hE⟩ := cl_e hE
    refine gf_X11_84 C hW k_x0 er_2 dX11_solve_24 (fun k_r_2 => ?_)
    refine lv_aload_n C.1 C.2.1 dX11_solve_27 rfl (lv_at hl 0 rfl) ?_
    obtain ⟨r_3, er_3, hE⟩ := cl_e hE
    refine gf_X11_14 C hW k_x0 er_3 dX11_solve_28 (fun k_r_3 => ?_)
    obtain ⟨o_4, eo_4, hE⟩ := cl_e hE
    have m1 := moX0_read eo_4
    have m2 := moX11_solve_34 hE
    refine x_kI (o := o_4) (z_runV (As := [.ref r_3]) (rest := []) C (ct_X0_read l X F k_r_2 k_r_3 eo_4) cw_X11_361 hW hZ k_r_2 (by decide) rfl rfl rfl hl.1 (Nat.le_of_ble_eq_true rfl) rfl dX11_solve_31 ⟨Nat.le_of_ble_eq_true rfl, Nat.le_of_ble_eq_true rfl⟩ (rm_ok0 hkl m1 m2)) hZ (fun _ _ hW km hZ => ?_)
    replace hkl := hkl.tr km.l
    refine x_wc km ?_
    replace k_x0 := km.at k_x0 (by decide)
    exact bX11_solve_34 C k_x0 hkl hW hZ _ (lv_sub hl [0] rfl) hE
set_option maxRecDepth 20000 in
theorem bX11_solve_10 {p : Program} {l : Launch} {e : Env} {s : State} {m : MethodId} {args : Array Value} {below : List Frame} {meth : Method} {c : Code} {X : Ec} {h0 : Hp} {o : Int32 × Hp} {F : Nat} (C : Cx X p s m args meth c RX11 cX11_solve 3 (some .int) "solve") {h : Hp} {x0 : Nat} {x1 : Int32} {t0 : Int32} {H : Heap} {locs : List Loc} (k_x0 : hK h x0 = 11) (hkl : Kl h0 h) (hW : Wx X h H) (hZ : va_S (aA (eB X)) s.heap H locs) (ls : Array Slot) (hl : lv_has ls 3 [(0, .ref x0), (1, .int x1)]) (hE : sX11_solve_10 F h x0 x1 t0 = some o) : W p l e (rmA 7 194 h0 o.2) s m args below meth c H locs (hS h - hS h0) (hL h - hL h0) (MQ below (QIA X h0 o.1 o.2) args s (hS o.2 - hS h0) (hL o.2 - hL h0) (aA (eB X))) (F0 m 10 ls [.int t0]) := by
  refine lv_if_eq (tgt := 71) C.1 C.2.1 dX11_solve_10 (by decide) (fun c_1 => ?_) (fun c_1 => ?_)
  · have hE := br_p hE c_1
    exact bX11_solve_71 C k_x0 hkl hW hZ _ (lv_sub hl [0, 1] rfl) hE
  · have hE := br_n hE c_1
    refine lv_aload_n C.1 C.2.1 dX11_solve_13 rfl (lv_at hl 0 rfl) ?_
    obtain ⟨r_2, er_2, hE⟩ := cl_e hE
    refine gf_X11_24 C hW k_x0 er_2 dX11_solve_14 (fun k_r_2 => ?_)
    obtain ⟨o_3, eo_3, hE⟩ := cl_e hE
    have m1 := moX1_hasCatch eo_3
    have m2 := moX11_solve_20 hE
    refine x_kI (o := o_3) (z_runV (As := []) (rest := []) C (ct_X1_hasCatch l X F k_r_2 eo_3) cw_X11_358 hW hZ k_r_2 (by decide) rfl rfl rfl hl.1 (Nat.le_of_ble_eq_true rfl) rfl dX11_solve_17 ⟨Nat.le_of_ble_eq_true rfl, Nat.le_of_ble_eq_true rfl⟩ (rm_ok0 hkl m1 m2)) hZ (fun _ _ hW km hZ => ?_)
    replace hkl := hkl.tr km.l
    refine x_wc km ?_
    replace k_x0 := km.at k_x0 (by decide)
    exact bX11_solve_20 C k_x0 hkl hW hZ _ (lv_sub hl [0, 1] rfl) hE
set_option maxRecDepth 20000 in
theorem ct_X11_solve (l : Launch) (X : Ec) (F : Nat) {h : Hp} {x0 : Nat} {o : Int32 × Hp} (k_x0 : hK h x0 = 11) (hE : sX11_solve F h x0 = some o) : MetIA l yX11_solve cX11_solve 3 (some .int) 7 194 X [.ref x0] h o := by
  refine x_metA (oh := o.2) (by decide) (Nat.le_of_ble_eq_true rfl) ?_
  intro p e s m below meth c ls C hl hW hZ
  have hl : lv_has ls 3 [(0, .ref x0)] := hl
  have hkl : Kl h h := Kl.rf h
  refine lv_bipush (v := (-103 : Int32)) C.1 C.2.1 dX11_solve_0 (by decide) ?_
  refine lv_istore_n (lv' := [(1, .int (-103 : Int32)), (0, .ref x0)]) C.1 C.2.1 dX11_solve_2 rfl hl (by decide) rfl (fun ls hl => ?_)
  refine lv_aload_n C.1 C.2.1 dX11_solve_3 rfl (lv_at hl 1 rfl) ?_
  obtain ⟨r_1, er_1, hE⟩ := cl_e hE
  refine gf_X11_24 C hW k_x0 er_1 dX11_solve_4 (fun k_r_1 => ?_)
  obtain ⟨o_2, eo_2, hE⟩ := cl_e hE
  have m1 := moX1_isPlain eo_2
  have m2 := moX11_solve_10 hE
  refine x_kI (o := o_2) (z_runV (As := []) (rest := []) C (ct_X1_isPlain l X k_r_1 eo_2) cw_X11_345 hW hZ k_r_1 (by decide) rfl rfl rfl hl.1 (Nat.le_of_ble_eq_true rfl) rfl dX11_solve_7 ⟨Nat.le_of_ble_eq_true rfl, Nat.le_of_ble_eq_true rfl⟩ (rm_ok0 hkl m1 m2)) hZ (fun _ _ hW km hZ => ?_)
  replace hkl := hkl.tr km.l
  refine x_wc km ?_
  replace k_x0 := km.at k_x0 (by decide)
  exact bX11_solve_10 C k_x0 hkl hW hZ _ (lv_sub hl [1, 0] rfl) hE
set_option maxRecDepth 100000 in
theorem m_471 : Cond.fieldLink RX11 374 (TX0 11).1 (TX0 11).2.1 (TX0 11).2.2.1 ∈ W0 := w0_in (List.mem_append_right _ (List.mem_of_getElem? (i := 471) rfl)) rfl
set_option maxRecDepth 100000 in
theorem m_1741 : Cond.methodLink RX11 370 yX0_nodeOfAll ∈ W0 := w0_in (List.mem_append_right _ (List.mem_of_getElem? (i := 1741) rfl)) rfl
set_option maxRecDepth 100000 in
theorem m_1742 : Cond.instanceMethod yX0_nodeOfAll ∈ W0 := w0_in (List.mem_append_right _ (List.mem_of_getElem? (i := 1742) rfl)) rfl
set_option maxRecDepth 100000 in
theorem m_1743 : Cond.selects RX0 yX0_nodeOfAll yX0_nodeOfAll ∈ W0 := w0_in (List.mem_append_right _ (List.mem_of_getElem? (i := 1743) rfl)) rfl
set_option maxRecDepth 100000 in
theorem m_1744 : Cond.code yX0_nodeOfAll cX0_nodeOfAll 3 (some .int) ∈ W0 := w0_in (List.mem_append_right _ (List.mem_of_getElem? (i := 1744) rfl)) rfl
set_option maxRecDepth 100000 in
theorem m_1745 : Cond.constant RX11 373 (2000000 : Int32) ∈ W0 := w0_in (List.mem_append_right _ (List.mem_of_getElem? (i := 1745) rfl)) rfl
section
variable {p : Program} {l : Launch} {e : Env} {R : Room} {s : State} {m : MethodId} {args : Array Value} {below : List Frame} {meth : Method} {c : Code} {H : Heap} {locs : List Loc} {cells slots : Nat} {Q : State → Prop}
variable {cc : ByteArray} {pc : Nat} {ls : Array Slot} {rest : List Value} {X : Ec} {h h1 : Hp} {nL : Nat} {rt : Option FieldType} {mn : String}
theorem gf_X11_374 {a r : Nat} (C : Cx X p s m args meth c RX11 cc nL rt mn) (hW : Wx X h H) (ha : hK h a = 0) (hr : hR h a 11 = some r) (hdg : decode cc pc = .ok (.getfield 374, 3)) (kk : hK h r = 17 → W p l e R s m args below meth c H locs cells slots Q (F0 m (pc + 3) ls (.ref r :: rest))) : W p l e R s m args below meth c H locs cells slots Q (F0 m pc ls (.ref a :: rest)) :=
  y_getr C hW ha i_X0 (by decide) rfl (by decide) m_471 rfl rfl hr hdg kk
end
theorem cw_X11_370 : cwd RX11 370 yX0_nodeOfAll cX0_nodeOfAll 3 (some .int) false 1 := ⟨m_1744, m_1741, m_13, ⟨m_1742, m_1743⟩, by decide, by decide, by decide +kernel⟩
theorem dX11_worth_0 : decode cX11_worth 0 = .ok (.aload_n 0, 1) := by decide +kernel
theorem dX11_worth_1 : decode cX11_worth 1 = .ok (.iload_n 1, 1) := by decide +kernel
theorem dX11_worth_2 : decode cX11_worth 2 = .ok (.invokevirtual 193, 3) := by decide +kernel
theorem dX11_worth_5 : decode cX11_worth 5 = .ok (.ifCond .ne 6, 3) := by decide +kernel
theorem dX11_worth_8 : decode cX11_worth 8 = .ok (.bipush (-102), 2) := by decide +kernel
theorem dX11_worth_10 : decode cX11_worth 10 = .ok (.ireturn, 1) := by decide +kernel
theorem dX11_worth_11 : decode cX11_worth 11 = .ok (.aload_n 0, 1) := by decide +kernel
theorem dX11_worth_12 : decode cX11_worth 12 = .ok (.getfield 84, 3) := by decide +kernel
theorem dX11_worth_15 : decode cX11_worth 15 = .ok (.aload_n 0, 1) := by decide +kernel
theorem dX11_worth_16 : decode cX11_worth 16 = .ok (.getfield 103, 3) := by decide +kernel
theorem dX11_worth_19 : decode cX11_worth 19 = .ok (.iload_n 1, 1) := by decide +kernel
theorem dX11_worth_20 : decode cX11_worth 20 = .ok (.aaload, 1) := by decide +kernel
theorem dX11_worth_21 : decode cX11_worth 21 = .ok (.invokevirtual 370, 3) := by decide +kernel
theorem dX11_worth_24 : decode cX11_worth 24 = .ok (.istore_n 2, 1) := by decide +kernel
theorem dX11_worth_25 : decode cX11_worth 25 = .ok (.iload_n 2, 1) := by decide +kernel
theorem dX11_worth_26 : decode cX11_worth 26 = .ok (.iconst (-1), 1) := by decide +kernel
theorem dX11_worth_27 : decode cX11_worth 27 = .ok (.if_icmp .ne 8, 3) := by decide +kernel
theorem dX11_worth_30 : decode cX11_worth 30 = .ok (.bipush (-103), 2) := by decide +kernel
theorem dX11_worth_32 : decode cX11_worth 32 = .ok (.goto 16, 3) := by decide +kernel
theorem dX11_worth_35 : decode cX11_worth 35 = .ok (.ldc_w 373, 3) := by decide +kernel
theorem dX11_worth_38 : decode cX11_worth 38 = .ok (.aload_n 0, 1) := by decide +kernel
theorem dX11_worth_39 : decode cX11_worth 39 = .ok (.getfield 84, 3) := by decide +kernel
theorem dX11_worth_42 : decode cX11_worth 42 = .ok (.getfield 374, 3) := by decide +kernel
theorem dX11_worth_45 : decode cX11_worth 45 = .ok (.iload_n 2, 1) := by decide +kernel
theorem dX11_worth_46 : decode cX11_worth 46 = .ok (.iaload, 1) := by decide +kernel
theorem dX11_worth_47 : decode cX11_worth 47 = .ok (.iadd, 1) := by decide +kernel
theorem dX11_worth_48 : decode cX11_worth 48 = .ok (.ireturn, 1) := by decide +kernel
set_option maxRecDepth 20000 in
theorem moX11_worth_48 {o : Int32 × Hp} {F : Nat} {h : Hp} {t0 : Int32} (hE : sX11_worth_48 F h  t0 = some o) : Le h o.2 := by
  exact le_some2 hE
set_option maxRecDepth 20000 in
theorem moX11_worth {o : Int32 × Hp} {F : Nat} {h : Hp} {x0 : Nat} {x1 : Int32} (hE : sX11_worth F h x0 x1 = some o) : Le h o.2 := by
  obtain ⟨o_1, eo_1, hE⟩ := cl_e hE
  refine (moX11_isPlace eo_1).tr ?_
  rcases br_e hE with ⟨_, hE⟩ | ⟨_, hE⟩
  · exact le_some2 hE
  · obtain ⟨r_3, er_3, hE⟩ := cl_e hE
    obtain ⟨r_4, er_4, hE⟩ := cl_e hE
    obtain ⟨g_5, hE⟩ := gd_e hE
    obtain ⟨r_6, er_6, hE⟩ := cl_e hE
    obtain ⟨o_7, eo_7, hE⟩ := cl_e hE
    refine (moX0_nodeOfAll eo_7).tr ?_
    rcases br_e hE with ⟨_, hE⟩ | ⟨_, hE⟩
    · exact moX11_worth_48 hE
    · obtain ⟨r_9, er_9, hE⟩ := cl_e hE
      obtain ⟨r_10, er_10, hE⟩ := cl_e hE
      obtain ⟨g_11, hE⟩ := gd_e hE
      exact moX11_worth_48 hE
set_option maxRecDepth 20000 in
theorem bX11_worth_48 {p : Program} {l : Launch} {e : Env} {s : State} {m : MethodId} {args : Array Value} {below : List Frame} {meth : Method} {c : Code} {X : Ec} {h0 : Hp} {o : Int32 × Hp} {F : Nat} (C : Cx X p s m args meth c RX11 cX11_worth 3 (some .int) "worth") {h : Hp} {t0 : Int32} {H : Heap} {locs : List Loc} (hkm : Km h0 h) (hW : Wx X h H) (hZ : va_S (aA (eB X)) s.heap H locs) (ls : Array Slot) (hl : lv_has ls 3 []) (hE : sX11_worth_48 F h  t0 = some o) : W p l e (rm 3 72) s m args below meth c H locs 0 0 (MQ below (QI X h0 o.1 o.2) args s 0 0 (aA (eB X))) (F0 m 48 ls [.int t0]) := by
  exact x_iret C rfl rfl hW hZ hkm hE dX11_worth_48
set_option maxRecDepth 20000 in
theorem ct_X11_worth (l : Launch) (X : Ec) (F : Nat) {h : Hp} {x0 : Nat} {x1 : Int32} {o : Int32 × Hp} (k_x0 : hK h x0 = 11) (hE : sX11_worth F h x0 x1 = some o) : MetI l yX11_worth cX11_worth 3 (some .int) 3 72 X [.ref x0, .int x1] h o := by
  refine x_met (by decide) (Nat.le_of_ble_eq_true rfl) ?_
  intro p e s m below meth c ls C hl hW hZ
  have hl : lv_has ls 3 [(0, .ref x0), (1, .int x1)] := hl
  have hkm : Km h h := Km.rf h
  refine lv_aload_n C.1 C.2.1 dX11_worth_0 rfl (lv_at hl 0 rfl) ?_
  refine lv_iload_n C.1 C.2.1 dX11_worth_1 rfl (lv_at hl 1 rfl) ?_
  obtain ⟨o_1, eo_1, hE⟩ := cl_e hE
  refine x_kI (o := o_1) (z_runV (As := [.int x1]) (rest := []) C (ct_X11_isPlace l X k_x0 eo_1) cw_X11_193 hW hZ k_x0 (by decide) rfl rfl rfl hl.1 (Nat.le_of_ble_eq_true rfl) rfl dX11_worth_2 ⟨Nat.le_of_ble_eq_true rfl, Nat.le_of_ble_eq_true rfl⟩ ⟨Nat.le_refl _, Nat.le_refl _⟩) hZ (fun _ _ hW km hZ => ?_)
  replace hkm := hkm.tr km
  replace k_x0 := km.at k_x0 (by decide)
  refine lv_if_ne (tgt := 11) C.1 C.2.1 dX11_worth_5 (by decide) (fun c_2 => ?_) (fun c_2 => ?_)
  · have hE := br_n hE c_2
    refine lv_aload_n C.1 C.2.1 dX11_worth_11 rfl (lv_at hl 0 rfl) ?_
    obtain ⟨r_3, er_3, hE⟩ := cl_e hE
    refine gf_X11_84 C hW k_x0 er_3 dX11_worth_12 (fun k_r_3 => ?_)
    refine lv_aload_n C.1 C.2.1 dX11_worth_15 rfl (lv_at hl 0 rfl) ?_
    obtain ⟨r_4, er_4, hE⟩ := cl_e hE
    refine gf_X11_103 C hW k_x0 er_4 dX11_worth_16 (fun k_r_4 => ?_)
    refine lv_iload_n C.1 C.2.1 dX11_worth_19 rfl (lv_at hl 1 rfl) ?_
    obtain ⟨g_5, hE⟩ := gd_e hE
    obtain ⟨r_6, er_6, hE⟩ := cl_e hE
    refine y_aald (t0 := 4) C hW k_r_4 (by decide) (by decide) rfl rfl rfl (fun _ => rfl) g_5 er_6 dX11_worth_20 (fun k_r_6 => ?_)
    obtain ⟨o_7, eo_7, hE⟩ := cl_e hE
    refine x_kI (o := o_7) (z_runV (As := [.ref r_6]) (rest := []) C (ct_X0_nodeOfAll l X F k_r_3 k_r_6 eo_7) cw_X11_370 hW hZ k_r_3 (by decide) rfl rfl rfl hl.1 (Nat.le_of_ble_eq_true rfl) rfl dX11_worth_21 ⟨Nat.le_of_ble_eq_true rfl, Nat.le_of_ble_eq_true rfl⟩ ⟨Nat.le_refl _, Nat.le_refl _⟩) hZ (fun _ _ hW km hZ => ?_)
    replace hkm := hkm.tr km
    replace k_x0 := km.at k_x0 (by decide)
    refine lv_istore_n (lv' := [(2, .int o_7.1), (0, .ref x0), (1, .int x1)]) C.1 C.2.1 dX11_worth_24 rfl hl (by decide) rfl (fun ls hl => ?_)
    refine lv_iload_n C.1 C.2.1 dX11_worth_25 rfl (lv_at hl 0 rfl) ?_
    refine lv_iconst (v := (-1 : Int32)) C.1 C.2.1 dX11_worth_26 (by decide) ?_
    refine lv_icmp_ne (tgt := 35) C.1 C.2.1 dX11_worth_27 (by decide) (fun c_8 => ?_) (fun c_8 => ?_)
    · have hE := br_n hE c_8
      refine lv_ldcw (v := (2000000 : Int32)) C.1 C.2.1 C.2.2.2.1 (C.2.2.2.2.1 _ m_1745) dX11_worth_35 ?_
      refine lv_aload_n C.1 C.2.1 dX11_worth_38 rfl (lv_at hl 1 rfl) ?_
      obtain ⟨r_9, er_9, hE⟩ := cl_e hE
      refine gf_X11_84 C hW k_x0 er_9 dX11_worth_39 (fun k_r_9 => ?_)
      obtain ⟨r_10, er_10, hE⟩ := cl_e hE
      refine gf_X11_374 C hW k_r_9 er_10 dX11_worth_42 (fun k_r_10 => ?_)
      refine lv_iload_n C.1 C.2.1 dX11_worth_45 rfl (lv_at hl 0 rfl) ?_
      obtain ⟨g_11, hE⟩ := gd_e hE
      refine y_iald C hW k_r_10 g_11 dX11_worth_46 ?_
      refine lv_iadd C.1 C.2.1 dX11_worth_47 ?_
      exact bX11_worth_48 C hkm hW hZ _ (lv_sub hl [] rfl) hE
    · have hE := br_p hE c_8
      refine lv_bipush (v := (-103 : Int32)) C.1 C.2.1 dX11_worth_30 (by decide) ?_
      refine lv_goto (tgt := 48) C.1 C.2.1 dX11_worth_32 (by decide) ?_
      exact bX11_worth_48 C hkm hW hZ _ (lv_sub hl [] rfl) hE
  · have hE := br_p hE c_2
    refine lv_bipush (v := (-102 : Int32)) C.1 C.2.1 dX11_worth_8 (by decide) ?_
    exact x_iret C rfl rfl hW hZ hkm hE dX11_worth_10
set_option maxRecDepth 100000 in
theorem m_1750 : Cond.constant RX11 377 (-1000000 : Int32) ∈ W0 := w0_in (List.mem_append_right _ (List.mem_of_getElem? (i := 1750) rfl)) rfl
set_option maxRecDepth 100000 in
theorem m_1751 : Cond.constant RX11 378 (1000000 : Int32) ∈ W0 := w0_in (List.mem_append_right _ (List.mem_of_getElem? (i := 1751) rfl)) rfl
set_option maxRecDepth 100000 in
theorem m_1752 : Cond.methodLink RX11 382 yX0_countWorth ∈ W0 := w0_in (List.mem_append_right _ (List.mem_of_getElem? (i := 1752) rfl)) rfl
set_option maxRecDepth 100000 in
theorem m_1753 : Cond.instanceMethod yX0_countWorth ∈ W0 := w0_in (List.mem_append_right _ (List.mem_of_getElem? (i := 1753) rfl)) rfl
set_option maxRecDepth 100000 in
theorem m_1754 : Cond.selects RX0 yX0_countWorth yX0_countWorth ∈ W0 := w0_in (List.mem_append_right _ (List.mem_of_getElem? (i := 1754) rfl)) rfl
set_option maxRecDepth 100000 in
theorem m_1755 : Cond.code yX0_countWorth cX0_countWorth 6 (some .int) ∈ W0 := w0_in (List.mem_append_right _ (List.mem_of_getElem? (i := 1755) rfl)) rfl
section
variable {p : Program} {l : Launch} {e : Env} {R : Room} {s : State} {m : MethodId} {args : Array Value} {below : List Frame} {meth : Method} {c : Code} {H : Heap} {locs : List Loc} {cells slots : Nat} {Q : State → Prop}
variable {cc : ByteArray} {pc : Nat} {ls : Array Slot} {rest : List Value} {X : Ec} {h h1 : Hp} {nL : Nat} {rt : Option FieldType} {mn : String}
theorem gf_X11_379 {a : Nat} (C : Cx X p s m args meth c RX11 cc nL rt mn) (hW : Wx X h H) (ha : hK h a = 0) (hdg : decode cc pc = .ok (.getfield 379, 3)) (kk : W p l e R s m args below meth c H locs cells slots Q (F0 m (pc + 3) ls (.int (hI h a 10) :: rest))) : W p l e R s m args below meth c H locs cells slots Q (F0 m pc ls (.ref a :: rest)) :=
  y_geti C hW ha i_X0 (by decide) rfl (by decide) m_469 rfl hdg kk
end
theorem cw_X11_382 : cwd RX11 382 yX0_countWorth cX0_countWorth 6 (some .int) false 2 := ⟨m_1755, m_1752, m_13, ⟨m_1753, m_1754⟩, by decide, by decide, by decide +kernel⟩
theorem dX11_tally_0 : decode cX11_tally 0 = .ok (.iload_n 1, 1) := by decide +kernel
theorem dX11_tally_1 : decode cX11_tally 1 = .ok (.invokestatic 247, 3) := by decide +kernel
theorem dX11_tally_4 : decode cX11_tally 4 = .ok (.ifCond .eq 17, 3) := by decide +kernel
theorem dX11_tally_7 : decode cX11_tally 7 = .ok (.iload_n 2, 1) := by decide +kernel
theorem dX11_tally_8 : decode cX11_tally 8 = .ok (.ldc_w 377, 3) := by decide +kernel
theorem dX11_tally_11 : decode cX11_tally 11 = .ok (.if_icmp .lt 10, 3) := by decide +kernel
theorem dX11_tally_14 : decode cX11_tally 14 = .ok (.iload_n 2, 1) := by decide +kernel
theorem dX11_tally_15 : decode cX11_tally 15 = .ok (.ldc_w 378, 3) := by decide +kernel
theorem dX11_tally_18 : decode cX11_tally 18 = .ok (.if_icmp .le 6, 3) := by decide +kernel
theorem dX11_tally_21 : decode cX11_tally 21 = .ok (.bipush (-101), 2) := by decide +kernel
theorem dX11_tally_23 : decode cX11_tally 23 = .ok (.ireturn, 1) := by decide +kernel
theorem dX11_tally_24 : decode cX11_tally 24 = .ok (.aload_n 0, 1) := by decide +kernel
theorem dX11_tally_25 : decode cX11_tally 25 = .ok (.getfield 84, 3) := by decide +kernel
theorem dX11_tally_28 : decode cX11_tally 28 = .ok (.getfield 379, 3) := by decide +kernel
theorem dX11_tally_31 : decode cX11_tally 31 = .ok (.ifCond .eq 15, 3) := by decide +kernel
theorem dX11_tally_34 : decode cX11_tally 34 = .ok (.aload_n 0, 1) := by decide +kernel
theorem dX11_tally_35 : decode cX11_tally 35 = .ok (.getfield 84, 3) := by decide +kernel
theorem dX11_tally_38 : decode cX11_tally 38 = .ok (.iload_n 1, 1) := by decide +kernel
theorem dX11_tally_39 : decode cX11_tally 39 = .ok (.iload_n 2, 1) := by decide +kernel
theorem dX11_tally_40 : decode cX11_tally 40 = .ok (.invokevirtual 382, 3) := by decide +kernel
theorem dX11_tally_43 : decode cX11_tally 43 = .ok (.goto 5, 3) := by decide +kernel
theorem dX11_tally_46 : decode cX11_tally 46 = .ok (.bipush (-103), 2) := by decide +kernel
theorem dX11_tally_48 : decode cX11_tally 48 = .ok (.ireturn, 1) := by decide +kernel
set_option maxRecDepth 20000 in
theorem moX11_tally_21 {o : Int32 × Hp} {F : Nat} {h : Hp} (hE : sX11_tally_21 F h  = some o) : Le h o.2 := by
  exact le_some2 hE
set_option maxRecDepth 20000 in
theorem moX11_tally_48 {o : Int32 × Hp} {F : Nat} {h : Hp} {t0 : Int32} (hE : sX11_tally_48 F h  t0 = some o) : Le h o.2 := by
  exact le_some2 hE
set_option maxRecDepth 20000 in
theorem moX11_tally {o : Int32 × Hp} {F : Nat} {h : Hp} {x0 : Nat} {x1 : Int32} {x2 : Int32} (hE : sX11_tally F h x0 x1 x2 = some o) : Le h o.2 := by
  obtain ⟨o_1, eo_1, hE⟩ := cl_e hE
  refine (moX11_isSide eo_1).tr ?_
  rcases br_e hE with ⟨_, hE⟩ | ⟨_, hE⟩
  · exact moX11_tally_21 hE
  · rcases br_e hE with ⟨_, hE⟩ | ⟨_, hE⟩
    · exact moX11_tally_21 hE
    · rcases br_e hE with ⟨_, hE⟩ | ⟨_, hE⟩
      · obtain ⟨r_5, er_5, hE⟩ := cl_e hE
        rcases br_e hE with ⟨_, hE⟩ | ⟨_, hE⟩
        · exact moX11_tally_48 hE
        · obtain ⟨r_7, er_7, hE⟩ := cl_e hE
          obtain ⟨o_8, eo_8, hE⟩ := cl_e hE
          refine (moX0_countWorth eo_8).tr ?_
          exact moX11_tally_48 hE
      · exact moX11_tally_21 hE
set_option maxRecDepth 20000 in
theorem bX11_tally_21 {p : Program} {l : Launch} {e : Env} {s : State} {m : MethodId} {args : Array Value} {below : List Frame} {meth : Method} {c : Code} {X : Ec} {h0 : Hp} {o : Int32 × Hp} {F : Nat} (C : Cx X p s m args meth c RX11 cX11_tally 3 (some .int) "tally") {h : Hp} {H : Heap} {locs : List Loc} (hkm : Km h0 h) (hW : Wx X h H) (hZ : va_S (aA (eB X)) s.heap H locs) (ls : Array Slot) (hl : lv_has ls 3 []) (hE : sX11_tally_21 F h  = some o) : W p l e (rm 2 49) s m args below meth c H locs 0 0 (MQ below (QI X h0 o.1 o.2) args s 0 0 (aA (eB X))) (F0 m 21 ls []) := by
  refine lv_bipush (v := (-101 : Int32)) C.1 C.2.1 dX11_tally_21 (by decide) ?_
  exact x_iret C rfl rfl hW hZ hkm hE dX11_tally_23
set_option maxRecDepth 20000 in
theorem bX11_tally_48 {p : Program} {l : Launch} {e : Env} {s : State} {m : MethodId} {args : Array Value} {below : List Frame} {meth : Method} {c : Code} {X : Ec} {h0 : Hp} {o : Int32 × Hp} {F : Nat} (C : Cx X p s m args meth c RX11 cX11_tally 3 (some .int) "tally") {h : Hp} {t0 : Int32} {H : Heap} {locs : List Loc} (hkm : Km h0 h) (hW : Wx X h H) (hZ : va_S (aA (eB X)) s.heap H locs) (ls : Array Slot) (hl : lv_has ls 3 []) (hE : sX11_tally_48 F h  t0 = some o) : W p l e (rm 2 49) s m args below meth c H locs 0 0 (MQ below (QI X h0 o.1 o.2) args s 0 0 (aA (eB X))) (F0 m 48 ls [.int t0]) := by
  exact x_iret C rfl rfl hW hZ hkm hE dX11_tally_48
set_option maxRecDepth 20000 in
theorem ct_X11_tally (l : Launch) (X : Ec) (F : Nat) {h : Hp} {x0 : Nat} {x1 : Int32} {x2 : Int32} {o : Int32 × Hp} (k_x0 : hK h x0 = 11) (hE : sX11_tally F h x0 x1 x2 = some o) : MetI l yX11_tally cX11_tally 3 (some .int) 2 49 X [.ref x0, .int x1, .int x2] h o := by
  refine x_met (by decide) (Nat.le_of_ble_eq_true rfl) ?_
  intro p e s m below meth c ls C hl hW hZ
  have hl : lv_has ls 3 [(0, .ref x0), (1, .int x1), (2, .int x2)] := hl
  have hkm : Km h h := Km.rf h
  refine lv_iload_n C.1 C.2.1 dX11_tally_0 rfl (lv_at hl 1 rfl) ?_
  obtain ⟨o_1, eo_1, hE⟩ := cl_e hE
  refine x_kI (o := o_1) (z_runS (As := [.int x1]) (rest := []) C (ct_X11_isSide l X eo_1) cw_X11_247 hW hZ rfl hl.1 (Nat.le_of_ble_eq_true rfl) rfl dX11_tally_1 ⟨Nat.le_of_ble_eq_true rfl, Nat.le_of_ble_eq_true rfl⟩ ⟨Nat.le_refl _, Nat.le_refl _⟩) hZ (fun _ _ hW km hZ => ?_)
  replace hkm := hkm.tr km
  replace k_x0 := km.at k_x0 (by decide)
  refine lv_if_eq (tgt := 21) C.1 C.2.1 dX11_tally_4 (by decide) (fun c_2 => ?_) (fun c_2 => ?_)
  · have hE := br_p hE c_2
    exact bX11_tally_21 C hkm hW hZ _ (lv_sub hl [] rfl) hE
  · have hE := br_n hE c_2
    refine lv_iload_n C.1 C.2.1 dX11_tally_7 rfl (lv_at hl 2 rfl) ?_
    refine lv_ldcw (v := (-1000000 : Int32)) C.1 C.2.1 C.2.2.2.1 (C.2.2.2.2.1 _ m_1750) dX11_tally_8 ?_
    refine lv_icmp_lt (tgt := 21) C.1 C.2.1 dX11_tally_11 (by decide) (fun c_3 => ?_) (fun c_3 => ?_)
    · have hE := br_p hE c_3
      exact bX11_tally_21 C hkm hW hZ _ (lv_sub hl [] rfl) hE
    · have hE := br_n hE c_3
      refine lv_iload_n C.1 C.2.1 dX11_tally_14 rfl (lv_at hl 2 rfl) ?_
      refine lv_ldcw (v := (1000000 : Int32)) C.1 C.2.1 C.2.2.2.1 (C.2.2.2.2.1 _ m_1751) dX11_tally_15 ?_
      refine lv_icmp_le (tgt := 24) C.1 C.2.1 dX11_tally_18 (by decide) (fun c_4 => ?_) (fun c_4 => ?_)
      · have hE := br_p hE c_4
        refine lv_aload_n C.1 C.2.1 dX11_tally_24 rfl (lv_at hl 0 rfl) ?_
        obtain ⟨r_5, er_5, hE⟩ := cl_e hE
        refine gf_X11_84 C hW k_x0 er_5 dX11_tally_25 (fun k_r_5 => ?_)
        refine gf_X11_379 C hW k_r_5 dX11_tally_28 ?_
        refine lv_if_eq (tgt := 46) C.1 C.2.1 dX11_tally_31 (by decide) (fun c_6 => ?_) (fun c_6 => ?_)
        · have hE := br_p hE c_6
          refine lv_bipush (v := (-103 : Int32)) C.1 C.2.1 dX11_tally_46 (by decide) ?_
          exact bX11_tally_48 C hkm hW hZ _ (lv_sub hl [] rfl) hE
        · have hE := br_n hE c_6
          refine lv_aload_n C.1 C.2.1 dX11_tally_34 rfl (lv_at hl 0 rfl) ?_
          obtain ⟨r_7, er_7, hE⟩ := cl_e hE
          refine gf_X11_84 C hW k_x0 er_7 dX11_tally_35 (fun k_r_7 => ?_)
          refine lv_iload_n C.1 C.2.1 dX11_tally_38 rfl (lv_at hl 1 rfl) ?_
          refine lv_iload_n C.1 C.2.1 dX11_tally_39 rfl (lv_at hl 2 rfl) ?_
          obtain ⟨o_8, eo_8, hE⟩ := cl_e hE
          refine x_kI (o := o_8) (z_runV (As := [.int x1, .int x2]) (rest := []) C (ct_X0_countWorth l X F k_r_7 eo_8) cw_X11_382 hW hZ k_r_7 (by decide) rfl rfl rfl hl.1 (Nat.le_of_ble_eq_true rfl) rfl dX11_tally_40 ⟨Nat.le_of_ble_eq_true rfl, Nat.le_of_ble_eq_true rfl⟩ ⟨Nat.le_refl _, Nat.le_refl _⟩) hZ (fun _ _ hW km hZ => ?_)
          replace hkm := hkm.tr km
          replace k_x0 := km.at k_x0 (by decide)
          refine lv_goto (tgt := 48) C.1 C.2.1 dX11_tally_43 (by decide) ?_
          exact bX11_tally_48 C hkm hW hZ _ (lv_sub hl [] rfl) hE
      · have hE := br_n hE c_4
        exact bX11_tally_21 C hkm hW hZ _ (lv_sub hl [] rfl) hE
set_option maxRecDepth 100000 in
theorem m_1760 : Cond.methodLink RX11 386 yX4_set ∈ W0 := w0_in (List.mem_append_right _ (List.mem_of_getElem? (i := 1760) rfl)) rfl
set_option maxRecDepth 100000 in
theorem m_1761 : Cond.methodLink RX11 390 yX4_keep ∈ W0 := w0_in (List.mem_append_right _ (List.mem_of_getElem? (i := 1761) rfl)) rfl
set_option maxRecDepth 100000 in
theorem m_1762 : Cond.instanceMethod yX4_keep ∈ W0 := w0_in (List.mem_append_right _ (List.mem_of_getElem? (i := 1762) rfl)) rfl
set_option maxRecDepth 100000 in
theorem m_1763 : Cond.selects RX4 yX4_keep yX4_keep ∈ W0 := w0_in (List.mem_append_right _ (List.mem_of_getElem? (i := 1763) rfl)) rfl
set_option maxRecDepth 100000 in
theorem m_1764 : Cond.code yX4_keep cX4_keep 3 none ∈ W0 := w0_in (List.mem_append_right _ (List.mem_of_getElem? (i := 1764) rfl)) rfl
theorem cw_X11_386 : cwd RX11 386 yX4_set cX4_set 5 none false 4 := ⟨m_1353, m_1760, m_14, ⟨m_1351, m_1352⟩, by decide, by decide, by decide +kernel⟩
theorem cw_X11_390 : cwd RX11 390 yX4_keep cX4_keep 3 none false 1 := ⟨m_1764, m_1761, m_14, ⟨m_1762, m_1763⟩, by decide, by decide, by decide +kernel⟩
theorem dX11_problem_0 : decode cX11_problem 0 = .ok (.iload_n 2, 1) := by decide +kernel
theorem dX11_problem_1 : decode cX11_problem 1 = .ok (.ifCond .lt 29, 3) := by decide +kernel
theorem dX11_problem_4 : decode cX11_problem 4 = .ok (.iload_n 2, 1) := by decide +kernel
theorem dX11_problem_5 : decode cX11_problem 5 = .ok (.iconst 3, 1) := by decide +kernel
theorem dX11_problem_6 : decode cX11_problem 6 = .ok (.if_icmp .gt 24, 3) := by decide +kernel
theorem dX11_problem_9 : decode cX11_problem 9 = .ok (.iload_n 3, 1) := by decide +kernel
theorem dX11_problem_10 : decode cX11_problem 10 = .ok (.ifCond .lt 20, 3) := by decide +kernel
theorem dX11_problem_13 : decode cX11_problem 13 = .ok (.iload_n 3, 1) := by decide +kernel
theorem dX11_problem_14 : decode cX11_problem 14 = .ok (.iconst 2, 1) := by decide +kernel
theorem dX11_problem_15 : decode cX11_problem 15 = .ok (.if_icmp .gt 15, 3) := by decide +kernel
theorem dX11_problem_18 : decode cX11_problem 18 = .ok (.iload 4, 2) := by decide +kernel
theorem dX11_problem_20 : decode cX11_problem 20 = .ok (.iconst 1, 1) := by decide +kernel
theorem dX11_problem_21 : decode cX11_problem 21 = .ok (.if_icmp .lt 9, 3) := by decide +kernel
theorem dX11_problem_24 : decode cX11_problem 24 = .ok (.iload 4, 2) := by decide +kernel
theorem dX11_problem_26 : decode cX11_problem 26 = .ok (.iconst 4, 1) := by decide +kernel
theorem dX11_problem_27 : decode cX11_problem 27 = .ok (.if_icmp .le 6, 3) := by decide +kernel
theorem dX11_problem_30 : decode cX11_problem 30 = .ok (.bipush (-101), 2) := by decide +kernel
theorem dX11_problem_32 : decode cX11_problem 32 = .ok (.ireturn, 1) := by decide +kernel
theorem dX11_problem_33 : decode cX11_problem 33 = .ok (.aload_n 0, 1) := by decide +kernel
theorem dX11_problem_34 : decode cX11_problem 34 = .ok (.iload_n 1, 1) := by decide +kernel
theorem dX11_problem_35 : decode cX11_problem 35 = .ok (.invokevirtual 193, 3) := by decide +kernel
theorem dX11_problem_38 : decode cX11_problem 38 = .ok (.ifCond .ne 6, 3) := by decide +kernel
theorem dX11_problem_41 : decode cX11_problem 41 = .ok (.bipush (-102), 2) := by decide +kernel
theorem dX11_problem_43 : decode cX11_problem 43 = .ok (.ireturn, 1) := by decide +kernel
theorem dX11_problem_44 : decode cX11_problem 44 = .ok (.aload_n 0, 1) := by decide +kernel
theorem dX11_problem_45 : decode cX11_problem 45 = .ok (.getfield 50, 3) := by decide +kernel
theorem dX11_problem_48 : decode cX11_problem 48 = .ok (.aload_n 0, 1) := by decide +kernel
theorem dX11_problem_49 : decode cX11_problem 49 = .ok (.getfield 103, 3) := by decide +kernel
theorem dX11_problem_52 : decode cX11_problem 52 = .ok (.iload_n 1, 1) := by decide +kernel
theorem dX11_problem_53 : decode cX11_problem 53 = .ok (.aaload, 1) := by decide +kernel
theorem dX11_problem_54 : decode cX11_problem 54 = .ok (.invokevirtual 293, 3) := by decide +kernel
theorem dX11_problem_57 : decode cX11_problem 57 = .ok (.ifCond .eq 6, 3) := by decide +kernel
theorem dX11_problem_60 : decode cX11_problem 60 = .ok (.bipush (-103), 2) := by decide +kernel
theorem dX11_problem_62 : decode cX11_problem 62 = .ok (.ireturn, 1) := by decide +kernel
theorem dX11_problem_63 : decode cX11_problem 63 = .ok (.aload_n 0, 1) := by decide +kernel
theorem dX11_problem_64 : decode cX11_problem 64 = .ok (.getfield 93, 3) := by decide +kernel
theorem dX11_problem_67 : decode cX11_problem 67 = .ok (.aload_n 0, 1) := by decide +kernel
theorem dX11_problem_68 : decode cX11_problem 68 = .ok (.getfield 103, 3) := by decide +kernel
theorem dX11_problem_71 : decode cX11_problem 71 = .ok (.iload_n 1, 1) := by decide +kernel
theorem dX11_problem_72 : decode cX11_problem 72 = .ok (.aaload, 1) := by decide +kernel
theorem dX11_problem_73 : decode cX11_problem 73 = .ok (.iload_n 2, 1) := by decide +kernel
theorem dX11_problem_74 : decode cX11_problem 74 = .ok (.iload_n 3, 1) := by decide +kernel
theorem dX11_problem_75 : decode cX11_problem 75 = .ok (.iload 4, 2) := by decide +kernel
theorem dX11_problem_77 : decode cX11_problem 77 = .ok (.invokevirtual 386, 3) := by decide +kernel
theorem dX11_problem_80 : decode cX11_problem 80 = .ok (.aload_n 0, 1) := by decide +kernel
theorem dX11_problem_81 : decode cX11_problem 81 = .ok (.getfield 93, 3) := by decide +kernel
theorem dX11_problem_84 : decode cX11_problem 84 = .ok (.iconst 0, 1) := by decide +kernel
theorem dX11_problem_85 : decode cX11_problem 85 = .ok (.invokevirtual 286, 3) := by decide +kernel
theorem dX11_problem_88 : decode cX11_problem 88 = .ok (.istore 5, 2) := by decide +kernel
theorem dX11_problem_90 : decode cX11_problem 90 = .ok (.aload_n 0, 1) := by decide +kernel
theorem dX11_problem_91 : decode cX11_problem 91 = .ok (.getfield 93, 3) := by decide +kernel
theorem dX11_problem_94 : decode cX11_problem 94 = .ok (.getfield 289, 3) := by decide +kernel
theorem dX11_problem_97 : decode cX11_problem 97 = .ok (.ifCond .eq 6, 3) := by decide +kernel
theorem dX11_problem_100 : decode cX11_problem 100 = .ok (.bipush (-104), 2) := by decide +kernel
theorem dX11_problem_102 : decode cX11_problem 102 = .ok (.ireturn, 1) := by decide +kernel
theorem dX11_problem_103 : decode cX11_problem 103 = .ok (.aload_n 0, 1) := by decide +kernel
theorem dX11_problem_104 : decode cX11_problem 104 = .ok (.getfield 93, 3) := by decide +kernel
theorem dX11_problem_107 : decode cX11_problem 107 = .ok (.iload_n 1, 1) := by decide +kernel
theorem dX11_problem_108 : decode cX11_problem 108 = .ok (.invokevirtual 390, 3) := by decide +kernel
theorem dX11_problem_111 : decode cX11_problem 111 = .ok (.iload 5, 2) := by decide +kernel
theorem dX11_problem_113 : decode cX11_problem 113 = .ok (.ireturn, 1) := by decide +kernel
set_option maxRecDepth 20000 in
theorem moX11_problem_30 {o : Int32 × Hp} {F : Nat} {h : Hp} (hE : sX11_problem_30 F h  = some o) : Le h o.2 := by
  exact le_some2 hE
set_option maxRecDepth 20000 in
theorem moX11_problem {o : Int32 × Hp} {F : Nat} {h : Hp} {x0 : Nat} {x1 : Int32} {x2 : Int32} {x3 : Int32} {x4 : Int32} (hE : sX11_problem F h x0 x1 x2 x3 x4 = some o) : Le h o.2 := by
  rcases br_e hE with ⟨_, hE⟩ | ⟨_, hE⟩
  · exact moX11_problem_30 hE
  · rcases br_e hE with ⟨_, hE⟩ | ⟨_, hE⟩
    · exact moX11_problem_30 hE
    · rcases br_e hE with ⟨_, hE⟩ | ⟨_, hE⟩
      · exact moX11_problem_30 hE
      · rcases br_e hE with ⟨_, hE⟩ | ⟨_, hE⟩
        · exact moX11_problem_30 hE
        · rcases br_e hE with ⟨_, hE⟩ | ⟨_, hE⟩
          · exact moX11_problem_30 hE
          · rcases br_e hE with ⟨_, hE⟩ | ⟨_, hE⟩
            · obtain ⟨o_7, eo_7, hE⟩ := cl_e hE
              refine (moX11_isPlace eo_7).tr ?_
              rcases br_e hE with ⟨_, hE⟩ | ⟨_, hE⟩
              · exact le_some2 hE
              · obtain ⟨r_9, er_9, hE⟩ := cl_e hE
                obtain ⟨r_10, er_10, hE⟩ := cl_e hE
                obtain ⟨g_11, hE⟩ := gd_e hE
                obtain ⟨r_12, er_12, hE⟩ := cl_e hE
                obtain ⟨o_13, eo_13, hE⟩ := cl_e hE
                refine (moX5_endOf eo_13).tr ?_
                rcases br_e hE with ⟨_, hE⟩ | ⟨_, hE⟩
                · obtain ⟨r_15, er_15, hE⟩ := cl_e hE
                  obtain ⟨r_16, er_16, hE⟩ := cl_e hE
                  obtain ⟨g_17, hE⟩ := gd_e hE
                  obtain ⟨r_18, er_18, hE⟩ := cl_e hE
                  obtain ⟨o_19, eo_19, hE⟩ := cl_e hE
                  refine (moX4_set eo_19).tr ?_
                  obtain ⟨r_20, er_20, hE⟩ := cl_e hE
                  obtain ⟨o_21, eo_21, hE⟩ := cl_e hE
                  refine (moX4_tree eo_21).tr ?_
                  obtain ⟨r_22, er_22, hE⟩ := cl_e hE
                  rcases br_e hE with ⟨_, hE⟩ | ⟨_, hE⟩
                  · obtain ⟨r_24, er_24, hE⟩ := cl_e hE
                    obtain ⟨o_25, eo_25, hE⟩ := cl_e hE
                    refine (moX4_keep eo_25).tr ?_
                    exact le_some2 hE
                  · exact le_some2 hE
                · exact le_some2 hE
            · exact moX11_problem_30 hE
set_option maxRecDepth 20000 in
theorem bX11_problem_30 {p : Program} {l : Launch} {e : Env} {s : State} {m : MethodId} {args : Array Value} {below : List Frame} {meth : Method} {c : Code} {X : Ec} {h0 : Hp} {o : Int32 × Hp} {F : Nat} (C : Cx X p s m args meth c RX11 cX11_problem 6 (some .int) "problem") {h : Hp} {H : Heap} {locs : List Loc} (hkm : Km h0 h) (hW : Wx X h H) (hZ : va_S (aA (eB X)) s.heap H locs) (ls : Array Slot) (hl : lv_has ls 6 []) (hE : sX11_problem_30 F h  = some o) : W p l e (rm 47 1268) s m args below meth c H locs 0 0 (MQ below (QI X h0 o.1 o.2) args s 0 0 (aA (eB X))) (F0 m 30 ls []) := by
  refine lv_bipush (v := (-101 : Int32)) C.1 C.2.1 dX11_problem_30 (by decide) ?_
  exact x_iret C rfl rfl hW hZ hkm hE dX11_problem_32
set_option maxRecDepth 20000 in
theorem ct_X11_problem (l : Launch) (X : Ec) (F : Nat) {h : Hp} {x0 : Nat} {x1 : Int32} {x2 : Int32} {x3 : Int32} {x4 : Int32} {o : Int32 × Hp} (k_x0 : hK h x0 = 11) (hE : sX11_problem F h x0 x1 x2 x3 x4 = some o) : MetI l yX11_problem cX11_problem 6 (some .int) 47 1268 X [.ref x0, .int x1, .int x2, .int x3, .int x4] h o := by
  refine x_met (by decide) (Nat.le_of_ble_eq_true rfl) ?_
  intro p e s m below meth c ls C hl hW hZ
  have hl : lv_has ls 6 [(0, .ref x0), (1, .int x1), (2, .int x2), (3, .int x3), (4, .int x4)] := hl
  have hkm : Km h h := Km.rf h
  refine lv_iload_n C.1 C.2.1 dX11_problem_0 rfl (lv_at hl 2 rfl) ?_
  refine lv_if_lt (tgt := 30) C.1 C.2.1 dX11_problem_1 (by decide) (fun c_1 => ?_) (fun c_1 => ?_)
  · have hE := br_p hE c_1
    exact bX11_problem_30 C hkm hW hZ _ (lv_sub hl [] rfl) hE
  · have hE := br_n hE c_1
    refine lv_iload_n C.1 C.2.1 dX11_problem_4 rfl (lv_at hl 2 rfl) ?_
    refine lv_iconst (v := (3 : Int32)) C.1 C.2.1 dX11_problem_5 (by decide) ?_
    refine lv_icmp_gt (tgt := 30) C.1 C.2.1 dX11_problem_6 (by decide) (fun c_2 => ?_) (fun c_2 => ?_)
    · have hE := br_p hE c_2
      exact bX11_problem_30 C hkm hW hZ _ (lv_sub hl [] rfl) hE
    · have hE := br_n hE c_2
      refine lv_iload_n C.1 C.2.1 dX11_problem_9 rfl (lv_at hl 3 rfl) ?_
      refine lv_if_lt (tgt := 30) C.1 C.2.1 dX11_problem_10 (by decide) (fun c_3 => ?_) (fun c_3 => ?_)
      · have hE := br_p hE c_3
        exact bX11_problem_30 C hkm hW hZ _ (lv_sub hl [] rfl) hE
      · have hE := br_n hE c_3
        refine lv_iload_n C.1 C.2.1 dX11_problem_13 rfl (lv_at hl 3 rfl) ?_
        refine lv_iconst (v := (2 : Int32)) C.1 C.2.1 dX11_problem_14 (by decide) ?_
        refine lv_icmp_gt (tgt := 30) C.1 C.2.1 dX11_problem_15 (by decide) (fun c_4 => ?_) (fun c_4 => ?_)
        · have hE := br_p hE c_4
          exact bX11_problem_30 C hkm hW hZ _ (lv_sub hl [] rfl) hE
        · have hE := br_n hE c_4
          refine lv_iload C.1 C.2.1 dX11_problem_18 (lv_at hl 4 rfl) ?_
          refine lv_iconst (v := (1 : Int32)) C.1 C.2.1 dX11_problem_20 (by decide) ?_
          refine lv_icmp_lt (tgt := 30) C.1 C.2.1 dX11_problem_21 (by decide) (fun c_5 => ?_) (fun c_5 => ?_)
          · have hE := br_p hE c_5
            exact bX11_problem_30 C hkm hW hZ _ (lv_sub hl [] rfl) hE
          · have hE := br_n hE c_5
            refine lv_iload C.1 C.2.1 dX11_problem_24 (lv_at hl 4 rfl) ?_
            refine lv_iconst (v := (4 : Int32)) C.1 C.2.1 dX11_problem_26 (by decide) ?_
            refine lv_icmp_le (tgt := 33) C.1 C.2.1 dX11_problem_27 (by decide) (fun c_6 => ?_) (fun c_6 => ?_)
            · have hE := br_p hE c_6
              refine lv_aload_n C.1 C.2.1 dX11_problem_33 rfl (lv_at hl 0 rfl) ?_
              refine lv_iload_n C.1 C.2.1 dX11_problem_34 rfl (lv_at hl 1 rfl) ?_
              obtain ⟨o_7, eo_7, hE⟩ := cl_e hE
              refine x_kI (o := o_7) (z_runV (As := [.int x1]) (rest := []) C (ct_X11_isPlace l X k_x0 eo_7) cw_X11_193 hW hZ k_x0 (by decide) rfl rfl rfl hl.1 (Nat.le_of_ble_eq_true rfl) rfl dX11_problem_35 ⟨Nat.le_of_ble_eq_true rfl, Nat.le_of_ble_eq_true rfl⟩ ⟨Nat.le_refl _, Nat.le_refl _⟩) hZ (fun _ _ hW km hZ => ?_)
              replace hkm := hkm.tr km
              replace k_x0 := km.at k_x0 (by decide)
              refine lv_if_ne (tgt := 44) C.1 C.2.1 dX11_problem_38 (by decide) (fun c_8 => ?_) (fun c_8 => ?_)
              · have hE := br_n hE c_8
                refine lv_aload_n C.1 C.2.1 dX11_problem_44 rfl (lv_at hl 0 rfl) ?_
                obtain ⟨r_9, er_9, hE⟩ := cl_e hE
                refine gf_X11_50 C hW k_x0 er_9 dX11_problem_45 (fun k_r_9 => ?_)
                refine lv_aload_n C.1 C.2.1 dX11_problem_48 rfl (lv_at hl 0 rfl) ?_
                obtain ⟨r_10, er_10, hE⟩ := cl_e hE
                refine gf_X11_103 C hW k_x0 er_10 dX11_problem_49 (fun k_r_10 => ?_)
                refine lv_iload_n C.1 C.2.1 dX11_problem_52 rfl (lv_at hl 1 rfl) ?_
                obtain ⟨g_11, hE⟩ := gd_e hE
                obtain ⟨r_12, er_12, hE⟩ := cl_e hE
                refine y_aald (t0 := 4) C hW k_r_10 (by decide) (by decide) rfl rfl rfl (fun _ => rfl) g_11 er_12 dX11_problem_53 (fun k_r_12 => ?_)
                obtain ⟨o_13, eo_13, hE⟩ := cl_e hE
                refine x_kI (o := o_13) (z_runV (As := [.ref r_12]) (rest := []) C (ct_X5_endOf l X F k_r_9 k_r_12 eo_13) cw_X11_293 hW hZ k_r_9 (by decide) rfl rfl rfl hl.1 (Nat.le_of_ble_eq_true rfl) rfl dX11_problem_54 ⟨Nat.le_of_ble_eq_true rfl, Nat.le_of_ble_eq_true rfl⟩ ⟨Nat.le_refl _, Nat.le_refl _⟩) hZ (fun _ _ hW km hZ => ?_)
                replace hkm := hkm.tr km
                replace k_x0 := km.at k_x0 (by decide)
                refine lv_if_eq (tgt := 63) C.1 C.2.1 dX11_problem_57 (by decide) (fun c_14 => ?_) (fun c_14 => ?_)
                · have hE := br_p hE c_14
                  refine lv_aload_n C.1 C.2.1 dX11_problem_63 rfl (lv_at hl 0 rfl) ?_
                  obtain ⟨r_15, er_15, hE⟩ := cl_e hE
                  refine gf_X11_93 C hW k_x0 er_15 dX11_problem_64 (fun k_r_15 => ?_)
                  refine lv_aload_n C.1 C.2.1 dX11_problem_67 rfl (lv_at hl 0 rfl) ?_
                  obtain ⟨r_16, er_16, hE⟩ := cl_e hE
                  refine gf_X11_103 C hW k_x0 er_16 dX11_problem_68 (fun k_r_16 => ?_)
                  refine lv_iload_n C.1 C.2.1 dX11_problem_71 rfl (lv_at hl 1 rfl) ?_
                  obtain ⟨g_17, hE⟩ := gd_e hE
                  obtain ⟨r_18, er_18, hE⟩ := cl_e hE
                  refine y_aald (t0 := 4) C hW k_r_16 (by decide) (by decide) rfl rfl rfl (fun _ => rfl) g_17 er_18 dX11_problem_72 (fun k_r_18 => ?_)
                  refine lv_iload_n C.1 C.2.1 dX11_problem_73 rfl (lv_at hl 2 rfl) ?_
                  refine lv_iload_n C.1 C.2.1 dX11_problem_74 rfl (lv_at hl 3 rfl) ?_
                  refine lv_iload C.1 C.2.1 dX11_problem_75 (lv_at hl 4 rfl) ?_
                  obtain ⟨o_19, eo_19, hE⟩ := cl_e hE
                  refine x_kV (o := o_19) (z_runV (As := [.ref r_18, .int x2, .int x3, .int x4]) (rest := []) C (ct_X4_set l X F k_r_15 k_r_18 eo_19) cw_X11_386 hW hZ k_r_15 (by decide) rfl rfl rfl hl.1 (Nat.le_of_ble_eq_true rfl) rfl dX11_problem_77 ⟨Nat.le_of_ble_eq_true rfl, Nat.le_of_ble_eq_true rfl⟩ ⟨Nat.le_refl _, Nat.le_refl _⟩) hZ (fun _ _ hW km hZ => ?_)
                  replace hkm := hkm.tr km
                  replace k_x0 := km.at k_x0 (by decide)
                  refine lv_aload_n C.1 C.2.1 dX11_problem_80 rfl (lv_at hl 0 rfl) ?_
                  obtain ⟨r_20, er_20, hE⟩ := cl_e hE
                  refine gf_X11_93 C hW k_x0 er_20 dX11_problem_81 (fun k_r_20 => ?_)
                  refine lv_iconst (v := (0 : Int32)) C.1 C.2.1 dX11_problem_84 (by decide) ?_
                  obtain ⟨o_21, eo_21, hE⟩ := cl_e hE
                  refine x_kI (o := o_21) (z_runVN (As := [.int (0 : Int32)]) (rest := []) C (ct_X4_tree l X F k_r_20 eo_21) cn_X11_286 hW hZ k_r_20 (by decide) rfl rfl rfl hl.1 (Nat.le_of_ble_eq_true rfl) rfl dX11_problem_85 ⟨Nat.le_of_ble_eq_true rfl, Nat.le_of_ble_eq_true rfl⟩ ⟨Nat.le_refl _, Nat.le_refl _⟩) hZ (fun _ _ hW km hZ => ?_)
                  replace hkm := hkm.tr km
                  replace k_x0 := km.at k_x0 (by decide)
                  refine lv_istore (lv' := [(5, .int o_21.1), (0, .ref x0), (1, .int x1), (2, .int x2), (3, .int x3), (4, .int x4)]) C.1 C.2.1 dX11_problem_88 hl (by decide) rfl (fun ls hl => ?_)
                  refine lv_aload_n C.1 C.2.1 dX11_problem_90 rfl (lv_at hl 1 rfl) ?_
                  obtain ⟨r_22, er_22, hE⟩ := cl_e hE
                  refine gf_X11_93 C hW k_x0 er_22 dX11_problem_91 (fun k_r_22 => ?_)
                  refine gf_X11_289 C hW k_r_22 dX11_problem_94 ?_
                  refine lv_if_eq (tgt := 103) C.1 C.2.1 dX11_problem_97 (by decide) (fun c_23 => ?_) (fun c_23 => ?_)
                  · have hE := br_p hE c_23
                    refine lv_aload_n C.1 C.2.1 dX11_problem_103 rfl (lv_at hl 1 rfl) ?_
                    obtain ⟨r_24, er_24, hE⟩ := cl_e hE
                    refine gf_X11_93 C hW k_x0 er_24 dX11_problem_104 (fun k_r_24 => ?_)
                    refine lv_iload_n C.1 C.2.1 dX11_problem_107 rfl (lv_at hl 2 rfl) ?_
                    obtain ⟨o_25, eo_25, hE⟩ := cl_e hE
                    refine x_kV (o := o_25) (z_runV (As := [.int x1]) (rest := []) C (ct_X4_keep l X F k_r_24 eo_25) cw_X11_390 hW hZ k_r_24 (by decide) rfl rfl rfl hl.1 (Nat.le_of_ble_eq_true rfl) rfl dX11_problem_108 ⟨Nat.le_of_ble_eq_true rfl, Nat.le_of_ble_eq_true rfl⟩ ⟨Nat.le_refl _, Nat.le_refl _⟩) hZ (fun _ _ hW km hZ => ?_)
                    replace hkm := hkm.tr km
                    replace k_x0 := km.at k_x0 (by decide)
                    refine lv_iload C.1 C.2.1 dX11_problem_111 (lv_at hl 0 rfl) ?_
                    exact x_iret C rfl rfl hW hZ hkm hE dX11_problem_113
                  · have hE := br_n hE c_23
                    refine lv_bipush (v := (-104 : Int32)) C.1 C.2.1 dX11_problem_100 (by decide) ?_
                    exact x_iret C rfl rfl hW hZ hkm hE dX11_problem_102
                · have hE := br_n hE c_14
                  refine lv_bipush (v := (-103 : Int32)) C.1 C.2.1 dX11_problem_60 (by decide) ?_
                  exact x_iret C rfl rfl hW hZ hkm hE dX11_problem_62
              · have hE := br_p hE c_8
                refine lv_bipush (v := (-102 : Int32)) C.1 C.2.1 dX11_problem_41 (by decide) ?_
                exact x_iret C rfl rfl hW hZ hkm hE dX11_problem_43
            · have hE := br_n hE c_6
              exact bX11_problem_30 C hkm hW hZ _ (lv_sub hl [] rfl) hE
set_option maxRecDepth 100000 in
theorem m_1770 : Cond.methodLink RX11 393 yX4_keyAt ∈ W0 := w0_in (List.mem_append_right _ (List.mem_of_getElem? (i := 1770) rfl)) rfl
set_option maxRecDepth 100000 in
theorem m_1771 : Cond.instanceMethod yX4_keyAt ∈ W0 := w0_in (List.mem_append_right _ (List.mem_of_getElem? (i := 1771) rfl)) rfl
set_option maxRecDepth 100000 in
theorem m_1772 : Cond.selects RX4 yX4_keyAt yX4_keyAt ∈ W0 := w0_in (List.mem_append_right _ (List.mem_of_getElem? (i := 1772) rfl)) rfl
set_option maxRecDepth 100000 in
theorem m_1773 : Cond.code yX4_keyAt cX4_keyAt 2 (some .int) ∈ W0 := w0_in (List.mem_append_right _ (List.mem_of_getElem? (i := 1773) rfl)) rfl
theorem cw_X11_393 : cwd RX11 393 yX4_keyAt cX4_keyAt 2 (some .int) false 1 := ⟨m_1773, m_1770, m_14, ⟨m_1771, m_1772⟩, by decide, by decide, by decide +kernel⟩
theorem dX11_key_0 : decode cX11_key 0 = .ok (.aload_n 0, 1) := by decide +kernel
theorem dX11_key_1 : decode cX11_key 1 = .ok (.getfield 93, 3) := by decide +kernel
theorem dX11_key_4 : decode cX11_key 4 = .ok (.iload_n 1, 1) := by decide +kernel
theorem dX11_key_5 : decode cX11_key 5 = .ok (.invokevirtual 393, 3) := by decide +kernel
theorem dX11_key_8 : decode cX11_key 8 = .ok (.ireturn, 1) := by decide +kernel
set_option maxRecDepth 20000 in
theorem moX11_key {o : Int32 × Hp} {h : Hp} {x0 : Nat} {x1 : Int32} (hE : sX11_key h x0 x1 = some o) : Le h o.2 := by
  obtain ⟨r_1, er_1, hE⟩ := cl_e hE
  obtain ⟨o_2, eo_2, hE⟩ := cl_e hE
  refine (moX4_keyAt eo_2).tr ?_
  exact le_some2 hE
set_option maxRecDepth 20000 in
theorem ct_X11_key (l : Launch) (X : Ec) {h : Hp} {x0 : Nat} {x1 : Int32} {o : Int32 × Hp} (k_x0 : hK h x0 = 11) (hE : sX11_key h x0 x1 = some o) : MetI l yX11_key cX11_key 2 (some .int) 1 21 X [.ref x0, .int x1] h o := by
  refine x_met (by decide) (Nat.le_of_ble_eq_true rfl) ?_
  intro p e s m below meth c ls C hl hW hZ
  have hl : lv_has ls 2 [(0, .ref x0), (1, .int x1)] := hl
  have hkm : Km h h := Km.rf h
  refine lv_aload_n C.1 C.2.1 dX11_key_0 rfl (lv_at hl 0 rfl) ?_
  obtain ⟨r_1, er_1, hE⟩ := cl_e hE
  refine gf_X11_93 C hW k_x0 er_1 dX11_key_1 (fun k_r_1 => ?_)
  refine lv_iload_n C.1 C.2.1 dX11_key_4 rfl (lv_at hl 1 rfl) ?_
  obtain ⟨o_2, eo_2, hE⟩ := cl_e hE
  refine x_kI (o := o_2) (z_runV (As := [.int x1]) (rest := []) C (ct_X4_keyAt l X k_r_1 eo_2) cw_X11_393 hW hZ k_r_1 (by decide) rfl rfl rfl hl.1 (Nat.le_of_ble_eq_true rfl) rfl dX11_key_5 ⟨Nat.le_of_ble_eq_true rfl, Nat.le_of_ble_eq_true rfl⟩ ⟨Nat.le_refl _, Nat.le_refl _⟩) hZ (fun _ _ hW km hZ => ?_)
  replace hkm := hkm.tr km
  replace k_x0 := km.at k_x0 (by decide)
  exact x_iret C rfl rfl hW hZ hkm hE dX11_key_8
set_option maxRecDepth 100000 in
theorem m_1778 : Cond.methodLink RX11 396 yX4_refutesOf ∈ W0 := w0_in (List.mem_append_right _ (List.mem_of_getElem? (i := 1778) rfl)) rfl
set_option maxRecDepth 100000 in
theorem m_1779 : Cond.instanceMethod yX4_refutesOf ∈ W0 := w0_in (List.mem_append_right _ (List.mem_of_getElem? (i := 1779) rfl)) rfl
set_option maxRecDepth 100000 in
theorem m_1780 : Cond.selects RX4 yX4_refutesOf yX4_refutesOf ∈ W0 := w0_in (List.mem_append_right _ (List.mem_of_getElem? (i := 1780) rfl)) rfl
set_option maxRecDepth 100000 in
theorem m_1781 : Cond.code yX4_refutesOf cX4_refutesOf 2 (some .int) ∈ W0 := w0_in (List.mem_append_right _ (List.mem_of_getElem? (i := 1781) rfl)) rfl
theorem cw_X11_396 : cwd RX11 396 yX4_refutesOf cX4_refutesOf 2 (some .int) false 1 := ⟨m_1781, m_1778, m_14, ⟨m_1779, m_1780⟩, by decide, by decide, by decide +kernel⟩
theorem dX11_refutes_0 : decode cX11_refutes 0 = .ok (.aload_n 0, 1) := by decide +kernel
theorem dX11_refutes_1 : decode cX11_refutes 1 = .ok (.getfield 93, 3) := by decide +kernel
theorem dX11_refutes_4 : decode cX11_refutes 4 = .ok (.iload_n 1, 1) := by decide +kernel
theorem dX11_refutes_5 : decode cX11_refutes 5 = .ok (.invokevirtual 396, 3) := by decide +kernel
theorem dX11_refutes_8 : decode cX11_refutes 8 = .ok (.ireturn, 1) := by decide +kernel
set_option maxRecDepth 20000 in
theorem moX11_refutes {o : Int32 × Hp} {h : Hp} {x0 : Nat} {x1 : Int32} (hE : sX11_refutes h x0 x1 = some o) : Le h o.2 := by
  obtain ⟨r_1, er_1, hE⟩ := cl_e hE
  obtain ⟨o_2, eo_2, hE⟩ := cl_e hE
  refine (moX4_refutesOf eo_2).tr ?_
  exact le_some2 hE
set_option maxRecDepth 20000 in
theorem ct_X11_refutes (l : Launch) (X : Ec) {h : Hp} {x0 : Nat} {x1 : Int32} {o : Int32 × Hp} (k_x0 : hK h x0 = 11) (hE : sX11_refutes h x0 x1 = some o) : MetI l yX11_refutes cX11_refutes 2 (some .int) 1 21 X [.ref x0, .int x1] h o := by
  refine x_met (by decide) (Nat.le_of_ble_eq_true rfl) ?_
  intro p e s m below meth c ls C hl hW hZ
  have hl : lv_has ls 2 [(0, .ref x0), (1, .int x1)] := hl
  have hkm : Km h h := Km.rf h
  refine lv_aload_n C.1 C.2.1 dX11_refutes_0 rfl (lv_at hl 0 rfl) ?_
  obtain ⟨r_1, er_1, hE⟩ := cl_e hE
  refine gf_X11_93 C hW k_x0 er_1 dX11_refutes_1 (fun k_r_1 => ?_)
  refine lv_iload_n C.1 C.2.1 dX11_refutes_4 rfl (lv_at hl 1 rfl) ?_
  obtain ⟨o_2, eo_2, hE⟩ := cl_e hE
  refine x_kI (o := o_2) (z_runV (As := [.int x1]) (rest := []) C (ct_X4_refutesOf l X k_r_1 eo_2) cw_X11_396 hW hZ k_r_1 (by decide) rfl rfl rfl hl.1 (Nat.le_of_ble_eq_true rfl) rfl dX11_refutes_5 ⟨Nat.le_of_ble_eq_true rfl, Nat.le_of_ble_eq_true rfl⟩ ⟨Nat.le_refl _, Nat.le_refl _⟩) hZ (fun _ _ hW km hZ => ?_)
  replace hkm := hkm.tr km
  replace k_x0 := km.at k_x0 (by decide)
  exact x_iret C rfl rfl hW hZ hkm hE dX11_refutes_8
