set_option maxRecDepth 100000 in
theorem m_1088 : Cond.methodLink RX11 200 yX7_writeAll ∈ W0 := w0_in (List.mem_append_right _ (List.mem_of_getElem? (i := 1088) rfl)) rfl
set_option maxRecDepth 100000 in
theorem m_1089 : Cond.instanceMethod yX7_writeAll ∈ W0 := w0_in (List.mem_append_right _ (List.mem_of_getElem? (i := 1089) rfl)) rfl
set_option maxRecDepth 100000 in
theorem m_1090 : Cond.selects RX7 yX7_writeAll yX7_writeAll ∈ W0 := w0_in (List.mem_append_right _ (List.mem_of_getElem? (i := 1090) rfl)) rfl
set_option maxRecDepth 100000 in
theorem m_1091 : Cond.code yX7_writeAll cX7_writeAll 3 none ∈ W0 := w0_in (List.mem_append_right _ (List.mem_of_getElem? (i := 1091) rfl)) rfl
theorem cw_X11_200 : cwd RX11 200 yX7_writeAll cX7_writeAll 3 none false 2 := ⟨m_1091, m_1088, m_10, ⟨m_1089, m_1090⟩, by decide, by decide, by decide +kernel⟩
theorem dX11_write_0 : decode cX11_write 0 = .ok (.aload_n 0, 1) := by decide +kernel
theorem dX11_write_1 : decode cX11_write 1 = .ok (.iload_n 1, 1) := by decide +kernel
theorem dX11_write_2 : decode cX11_write 2 = .ok (.invokevirtual 193, 3) := by decide +kernel
theorem dX11_write_5 : decode cX11_write 5 = .ok (.ifCond .ne 6, 3) := by decide +kernel
theorem dX11_write_8 : decode cX11_write 8 = .ok (.bipush (-102), 2) := by decide +kernel
theorem dX11_write_10 : decode cX11_write 10 = .ok (.ireturn, 1) := by decide +kernel
theorem dX11_write_11 : decode cX11_write 11 = .ok (.aload_n 0, 1) := by decide +kernel
theorem dX11_write_12 : decode cX11_write 12 = .ok (.getfield 18, 3) := by decide +kernel
theorem dX11_write_15 : decode cX11_write 15 = .ok (.invokevirtual 144, 3) := by decide +kernel
theorem dX11_write_18 : decode cX11_write 18 = .ok (.aload_n 0, 1) := by decide +kernel
theorem dX11_write_19 : decode cX11_write 19 = .ok (.getfield 59, 3) := by decide +kernel
theorem dX11_write_22 : decode cX11_write 22 = .ok (.aload_n 0, 1) := by decide +kernel
theorem dX11_write_23 : decode cX11_write 23 = .ok (.getfield 103, 3) := by decide +kernel
theorem dX11_write_26 : decode cX11_write 26 = .ok (.iload_n 1, 1) := by decide +kernel
theorem dX11_write_27 : decode cX11_write 27 = .ok (.aaload, 1) := by decide +kernel
theorem dX11_write_28 : decode cX11_write 28 = .ok (.aload_n 0, 1) := by decide +kernel
theorem dX11_write_29 : decode cX11_write 29 = .ok (.getfield 18, 3) := by decide +kernel
theorem dX11_write_32 : decode cX11_write 32 = .ok (.invokevirtual 200, 3) := by decide +kernel
theorem dX11_write_35 : decode cX11_write 35 = .ok (.aload_n 0, 1) := by decide +kernel
theorem dX11_write_36 : decode cX11_write 36 = .ok (.getfield 18, 3) := by decide +kernel
theorem dX11_write_39 : decode cX11_write 39 = .ok (.getfield 147, 3) := by decide +kernel
theorem dX11_write_42 : decode cX11_write 42 = .ok (.ireturn, 1) := by decide +kernel
set_option maxRecDepth 20000 in
theorem moX11_write {o : Int32 × Hp} {F : Nat} {h : Hp} {x0 : Nat} {x1 : Int32} (hE : sX11_write F h x0 x1 = some o) : Le h o.2 := by
  obtain ⟨o_1, eo_1, hE⟩ := cl_e hE
  refine (moX11_isPlace eo_1).tr ?_
  rcases br_e hE with ⟨_, hE⟩ | ⟨_, hE⟩
  · exact le_some2 hE
  · obtain ⟨r_3, er_3, hE⟩ := cl_e hE
    obtain ⟨o_4, eo_4, hE⟩ := cl_e hE
    refine (moX9_clear eo_4).tr ?_
    obtain ⟨r_5, er_5, hE⟩ := cl_e hE
    obtain ⟨r_6, er_6, hE⟩ := cl_e hE
    obtain ⟨g_7, hE⟩ := gd_e hE
    obtain ⟨r_8, er_8, hE⟩ := cl_e hE
    obtain ⟨r_9, er_9, hE⟩ := cl_e hE
    obtain ⟨o_10, eo_10, hE⟩ := cl_e hE
    refine (moX7_writeAll eo_10).tr ?_
    obtain ⟨r_11, er_11, hE⟩ := cl_e hE
    exact le_some2 hE
set_option maxRecDepth 20000 in
theorem ct_X11_write (l : Launch) (X : Ec) (F : Nat) {h : Hp} {x0 : Nat} {x1 : Int32} {o : Int32 × Hp} (k_x0 : hK h x0 = 11) (hE : sX11_write F h x0 x1 = some o) : MetI l yX11_write cX11_write 2 (some .int) 4 93 X [.ref x0, .int x1] h o := by
  refine x_met (by decide) (Nat.le_of_ble_eq_true rfl) ?_
  intro p e s m below meth c ls C hl hW hZ
  have hl : lv_has ls 2 [(0, .ref x0), (1, .int x1)] := hl
  have hkm : Km h h := Km.rf h
  refine lv_aload_n C.1 C.2.1 dX11_write_0 rfl (lv_at hl 0 rfl) ?_
  refine lv_iload_n C.1 C.2.1 dX11_write_1 rfl (lv_at hl 1 rfl) ?_
  obtain ⟨o_1, eo_1, hE⟩ := cl_e hE
  refine x_kI (o := o_1) (z_runV (As := [.int x1]) (rest := []) C (ct_X11_isPlace l X k_x0 eo_1) cw_X11_193 hW hZ k_x0 (by decide) rfl rfl rfl hl.1 (Nat.le_of_ble_eq_true rfl) rfl dX11_write_2 ⟨Nat.le_of_ble_eq_true rfl, Nat.le_of_ble_eq_true rfl⟩ ⟨Nat.le_refl _, Nat.le_refl _⟩) hZ (fun _ _ hW km hZ => ?_)
  replace hkm := hkm.tr km
  replace k_x0 := km.at k_x0 (by decide)
  refine lv_if_ne (tgt := 11) C.1 C.2.1 dX11_write_5 (by decide) (fun c_2 => ?_) (fun c_2 => ?_)
  · have hE := br_n hE c_2
    refine lv_aload_n C.1 C.2.1 dX11_write_11 rfl (lv_at hl 0 rfl) ?_
    obtain ⟨r_3, er_3, hE⟩ := cl_e hE
    refine gf_X11_18 C hW k_x0 er_3 dX11_write_12 (fun k_r_3 => ?_)
    obtain ⟨o_4, eo_4, hE⟩ := cl_e hE
    refine x_kV (o := o_4) (z_runV (As := []) (rest := []) C (ct_X9_clear l X k_r_3 eo_4) cw_X11_144 hW hZ k_r_3 (by decide) rfl rfl rfl hl.1 (Nat.le_of_ble_eq_true rfl) rfl dX11_write_15 ⟨Nat.le_of_ble_eq_true rfl, Nat.le_of_ble_eq_true rfl⟩ ⟨Nat.le_refl _, Nat.le_refl _⟩) hZ (fun _ _ hW km hZ => ?_)
    replace hkm := hkm.tr km
    replace k_x0 := km.at k_x0 (by decide)
    refine lv_aload_n C.1 C.2.1 dX11_write_18 rfl (lv_at hl 0 rfl) ?_
    obtain ⟨r_5, er_5, hE⟩ := cl_e hE
    refine gf_X11_59 C hW k_x0 er_5 dX11_write_19 (fun k_r_5 => ?_)
    refine lv_aload_n C.1 C.2.1 dX11_write_22 rfl (lv_at hl 0 rfl) ?_
    obtain ⟨r_6, er_6, hE⟩ := cl_e hE
    refine gf_X11_103 C hW k_x0 er_6 dX11_write_23 (fun k_r_6 => ?_)
    refine lv_iload_n C.1 C.2.1 dX11_write_26 rfl (lv_at hl 1 rfl) ?_
    obtain ⟨g_7, hE⟩ := gd_e hE
    obtain ⟨r_8, er_8, hE⟩ := cl_e hE
    refine y_aald (t0 := 4) C hW k_r_6 (by decide) (by decide) rfl rfl rfl (fun _ => rfl) g_7 er_8 dX11_write_27 (fun k_r_8 => ?_)
    refine lv_aload_n C.1 C.2.1 dX11_write_28 rfl (lv_at hl 0 rfl) ?_
    obtain ⟨r_9, er_9, hE⟩ := cl_e hE
    refine gf_X11_18 C hW k_x0 er_9 dX11_write_29 (fun k_r_9 => ?_)
    obtain ⟨o_10, eo_10, hE⟩ := cl_e hE
    refine x_kV (o := o_10) (z_runV (As := [.ref r_8, .ref r_9]) (rest := []) C (ct_X7_writeAll l X F k_r_5 k_r_8 k_r_9 eo_10) cw_X11_200 hW hZ k_r_5 (by decide) rfl rfl rfl hl.1 (Nat.le_of_ble_eq_true rfl) rfl dX11_write_32 ⟨Nat.le_of_ble_eq_true rfl, Nat.le_of_ble_eq_true rfl⟩ ⟨Nat.le_refl _, Nat.le_refl _⟩) hZ (fun _ _ hW km hZ => ?_)
    replace hkm := hkm.tr km
    replace k_x0 := km.at k_x0 (by decide)
    refine lv_aload_n C.1 C.2.1 dX11_write_35 rfl (lv_at hl 0 rfl) ?_
    obtain ⟨r_11, er_11, hE⟩ := cl_e hE
    refine gf_X11_18 C hW k_x0 er_11 dX11_write_36 (fun k_r_11 => ?_)
    refine gf_X11_147 C hW k_r_11 dX11_write_39 ?_
    exact x_iret C rfl rfl hW hZ hkm hE dX11_write_42
  · have hE := br_p hE c_2
    refine lv_bipush (v := (-102 : Int32)) C.1 C.2.1 dX11_write_8 (by decide) ?_
    exact x_iret C rfl rfl hW hZ hkm hE dX11_write_10
set_option maxRecDepth 100000 in
theorem m_1129 : Cond.methodLink RX11 204 yX5_areAlike ∈ W0 := w0_in (List.mem_append_right _ (List.mem_of_getElem? (i := 1129) rfl)) rfl
set_option maxRecDepth 100000 in
theorem m_1130 : Cond.instanceMethod yX5_areAlike ∈ W0 := w0_in (List.mem_append_right _ (List.mem_of_getElem? (i := 1130) rfl)) rfl
set_option maxRecDepth 100000 in
theorem m_1131 : Cond.selects RX5 yX5_areAlike yX5_areAlike ∈ W0 := w0_in (List.mem_append_right _ (List.mem_of_getElem? (i := 1131) rfl)) rfl
set_option maxRecDepth 100000 in
theorem m_1132 : Cond.code yX5_areAlike cX5_areAlike 4 (some .boolean) ∈ W0 := w0_in (List.mem_append_right _ (List.mem_of_getElem? (i := 1132) rfl)) rfl
theorem cw_X11_204 : cwd RX11 204 yX5_areAlike cX5_areAlike 4 (some .boolean) false 2 := ⟨m_1132, m_1129, m_7, ⟨m_1130, m_1131⟩, by decide, by decide, by decide +kernel⟩
theorem dX11_same_0 : decode cX11_same 0 = .ok (.aload_n 0, 1) := by decide +kernel
theorem dX11_same_1 : decode cX11_same 1 = .ok (.iload_n 1, 1) := by decide +kernel
theorem dX11_same_2 : decode cX11_same 2 = .ok (.invokevirtual 193, 3) := by decide +kernel
theorem dX11_same_5 : decode cX11_same 5 = .ok (.ifCond .eq 37, 3) := by decide +kernel
theorem dX11_same_8 : decode cX11_same 8 = .ok (.aload_n 0, 1) := by decide +kernel
theorem dX11_same_9 : decode cX11_same 9 = .ok (.iload_n 2, 1) := by decide +kernel
theorem dX11_same_10 : decode cX11_same 10 = .ok (.invokevirtual 193, 3) := by decide +kernel
theorem dX11_same_13 : decode cX11_same 13 = .ok (.ifCond .eq 29, 3) := by decide +kernel
theorem dX11_same_16 : decode cX11_same 16 = .ok (.aload_n 0, 1) := by decide +kernel
theorem dX11_same_17 : decode cX11_same 17 = .ok (.getfield 50, 3) := by decide +kernel
theorem dX11_same_20 : decode cX11_same 20 = .ok (.aload_n 0, 1) := by decide +kernel
theorem dX11_same_21 : decode cX11_same 21 = .ok (.getfield 103, 3) := by decide +kernel
theorem dX11_same_24 : decode cX11_same 24 = .ok (.iload_n 1, 1) := by decide +kernel
theorem dX11_same_25 : decode cX11_same 25 = .ok (.aaload, 1) := by decide +kernel
theorem dX11_same_26 : decode cX11_same 26 = .ok (.aload_n 0, 1) := by decide +kernel
theorem dX11_same_27 : decode cX11_same 27 = .ok (.getfield 103, 3) := by decide +kernel
theorem dX11_same_30 : decode cX11_same 30 = .ok (.iload_n 2, 1) := by decide +kernel
theorem dX11_same_31 : decode cX11_same 31 = .ok (.aaload, 1) := by decide +kernel
theorem dX11_same_32 : decode cX11_same 32 = .ok (.invokevirtual 204, 3) := by decide +kernel
theorem dX11_same_35 : decode cX11_same 35 = .ok (.ifCond .eq 7, 3) := by decide +kernel
theorem dX11_same_38 : decode cX11_same 38 = .ok (.iconst 1, 1) := by decide +kernel
theorem dX11_same_39 : decode cX11_same 39 = .ok (.goto 4, 3) := by decide +kernel
theorem dX11_same_42 : decode cX11_same 42 = .ok (.iconst 0, 1) := by decide +kernel
theorem dX11_same_43 : decode cX11_same 43 = .ok (.ireturn, 1) := by decide +kernel
set_option maxRecDepth 20000 in
theorem moX11_same_43 {o : Int32 × Hp} {F : Nat} {h : Hp} {t0 : Int32} (hE : sX11_same_43 F h  t0 = some o) : Le h o.2 := by
  obtain ⟨g_1, hE⟩ := gd_e hE
  exact le_some2 hE
set_option maxRecDepth 20000 in
theorem moX11_same_42 {o : Int32 × Hp} {F : Nat} {h : Hp} (hE : sX11_same_42 F h  = some o) : Le h o.2 := by
  exact moX11_same_43 hE
set_option maxRecDepth 20000 in
theorem moX11_same {o : Int32 × Hp} {F : Nat} {h : Hp} {x0 : Nat} {x1 : Int32} {x2 : Int32} (hE : sX11_same F h x0 x1 x2 = some o) : Le h o.2 := by
  obtain ⟨o_1, eo_1, hE⟩ := cl_e hE
  refine (moX11_isPlace eo_1).tr ?_
  rcases br_e hE with ⟨_, hE⟩ | ⟨_, hE⟩
  · exact moX11_same_42 hE
  · obtain ⟨o_3, eo_3, hE⟩ := cl_e hE
    refine (moX11_isPlace eo_3).tr ?_
    rcases br_e hE with ⟨_, hE⟩ | ⟨_, hE⟩
    · exact moX11_same_42 hE
    · obtain ⟨r_5, er_5, hE⟩ := cl_e hE
      obtain ⟨r_6, er_6, hE⟩ := cl_e hE
      obtain ⟨g_7, hE⟩ := gd_e hE
      obtain ⟨r_8, er_8, hE⟩ := cl_e hE
      obtain ⟨r_9, er_9, hE⟩ := cl_e hE
      obtain ⟨g_10, hE⟩ := gd_e hE
      obtain ⟨r_11, er_11, hE⟩ := cl_e hE
      obtain ⟨o_12, eo_12, hE⟩ := cl_e hE
      refine (moX5_areAlike eo_12).tr ?_
      rcases br_e hE with ⟨_, hE⟩ | ⟨_, hE⟩
      · exact moX11_same_42 hE
      · exact moX11_same_43 hE
set_option maxRecDepth 20000 in
theorem bX11_same_43 {p : Program} {l : Launch} {e : Env} {s : State} {m : MethodId} {args : Array Value} {below : List Frame} {meth : Method} {c : Code} {X : Ec} {h0 : Hp} {o : Int32 × Hp} {F : Nat} (C : Cx X p s m args meth c RX11 cX11_same 3 (some .boolean) "same") {h : Hp} {t0 : Int32} {H : Heap} {locs : List Loc} (hkm : Km h0 h) (hW : Wx X h H) (hZ : va_S (aA (eB X)) s.heap H locs) (ls : Array Slot) (hl : lv_has ls 3 []) (hE : sX11_same_43 F h  t0 = some o) : W p l e (rm 6 185) s m args below meth c H locs 0 0 (MQ below (QI X h0 o.1 o.2) args s 0 0 (aA (eB X))) (F0 m 43 ls [.int t0]) := by
  obtain ⟨g_1, hE⟩ := gd_e hE
  exact x_iret C rfl (narB g_1) hW hZ hkm hE dX11_same_43
set_option maxRecDepth 20000 in
theorem bX11_same_42 {p : Program} {l : Launch} {e : Env} {s : State} {m : MethodId} {args : Array Value} {below : List Frame} {meth : Method} {c : Code} {X : Ec} {h0 : Hp} {o : Int32 × Hp} {F : Nat} (C : Cx X p s m args meth c RX11 cX11_same 3 (some .boolean) "same") {h : Hp} {H : Heap} {locs : List Loc} (hkm : Km h0 h) (hW : Wx X h H) (hZ : va_S (aA (eB X)) s.heap H locs) (ls : Array Slot) (hl : lv_has ls 3 []) (hE : sX11_same_42 F h  = some o) : W p l e (rm 6 185) s m args below meth c H locs 0 0 (MQ below (QI X h0 o.1 o.2) args s 0 0 (aA (eB X))) (F0 m 42 ls []) := by
  refine lv_iconst (v := (0 : Int32)) C.1 C.2.1 dX11_same_42 (by decide) ?_
  exact bX11_same_43 C hkm hW hZ _ (lv_sub hl [] rfl) hE
set_option maxRecDepth 20000 in
theorem ct_X11_same (l : Launch) (X : Ec) (F : Nat) {h : Hp} {x0 : Nat} {x1 : Int32} {x2 : Int32} {o : Int32 × Hp} (k_x0 : hK h x0 = 11) (hE : sX11_same F h x0 x1 x2 = some o) : MetI l yX11_same cX11_same 3 (some .boolean) 6 185 X [.ref x0, .int x1, .int x2] h o := by
  refine x_met (by decide) (Nat.le_of_ble_eq_true rfl) ?_
  intro p e s m below meth c ls C hl hW hZ
  have hl : lv_has ls 3 [(0, .ref x0), (1, .int x1), (2, .int x2)] := hl
  have hkm : Km h h := Km.rf h
  refine lv_aload_n C.1 C.2.1 dX11_same_0 rfl (lv_at hl 0 rfl) ?_
  refine lv_iload_n C.1 C.2.1 dX11_same_1 rfl (lv_at hl 1 rfl) ?_
  obtain ⟨o_1, eo_1, hE⟩ := cl_e hE
  refine x_kI (o := o_1) (z_runV (As := [.int x1]) (rest := []) C (ct_X11_isPlace l X k_x0 eo_1) cw_X11_193 hW hZ k_x0 (by decide) rfl rfl rfl hl.1 (Nat.le_of_ble_eq_true rfl) rfl dX11_same_2 ⟨Nat.le_of_ble_eq_true rfl, Nat.le_of_ble_eq_true rfl⟩ ⟨Nat.le_refl _, Nat.le_refl _⟩) hZ (fun _ _ hW km hZ => ?_)
  replace hkm := hkm.tr km
  replace k_x0 := km.at k_x0 (by decide)
  refine lv_if_eq (tgt := 42) C.1 C.2.1 dX11_same_5 (by decide) (fun c_2 => ?_) (fun c_2 => ?_)
  · have hE := br_p hE c_2
    exact bX11_same_42 C hkm hW hZ _ (lv_sub hl [] rfl) hE
  · have hE := br_n hE c_2
    refine lv_aload_n C.1 C.2.1 dX11_same_8 rfl (lv_at hl 0 rfl) ?_
    refine lv_iload_n C.1 C.2.1 dX11_same_9 rfl (lv_at hl 2 rfl) ?_
    obtain ⟨o_3, eo_3, hE⟩ := cl_e hE
    refine x_kI (o := o_3) (z_runV (As := [.int x2]) (rest := []) C (ct_X11_isPlace l X k_x0 eo_3) cw_X11_193 hW hZ k_x0 (by decide) rfl rfl rfl hl.1 (Nat.le_of_ble_eq_true rfl) rfl dX11_same_10 ⟨Nat.le_of_ble_eq_true rfl, Nat.le_of_ble_eq_true rfl⟩ ⟨Nat.le_refl _, Nat.le_refl _⟩) hZ (fun _ _ hW km hZ => ?_)
    replace hkm := hkm.tr km
    replace k_x0 := km.at k_x0 (by decide)
    refine lv_if_eq (tgt := 42) C.1 C.2.1 dX11_same_13 (by decide) (fun c_4 => ?_) (fun c_4 => ?_)
    · have hE := br_p hE c_4
      exact bX11_same_42 C hkm hW hZ _ (lv_sub hl [] rfl) hE
    · have hE := br_n hE c_4
      refine lv_aload_n C.1 C.2.1 dX11_same_16 rfl (lv_at hl 0 rfl) ?_
      obtain ⟨r_5, er_5, hE⟩ := cl_e hE
      refine gf_X11_50 C hW k_x0 er_5 dX11_same_17 (fun k_r_5 => ?_)
      refine lv_aload_n C.1 C.2.1 dX11_same_20 rfl (lv_at hl 0 rfl) ?_
      obtain ⟨r_6, er_6, hE⟩ := cl_e hE
      refine gf_X11_103 C hW k_x0 er_6 dX11_same_21 (fun k_r_6 => ?_)
      refine lv_iload_n C.1 C.2.1 dX11_same_24 rfl (lv_at hl 1 rfl) ?_
      obtain ⟨g_7, hE⟩ := gd_e hE
      obtain ⟨r_8, er_8, hE⟩ := cl_e hE
      refine y_aald (t0 := 4) C hW k_r_6 (by decide) (by decide) rfl rfl rfl (fun _ => rfl) g_7 er_8 dX11_same_25 (fun k_r_8 => ?_)
      refine lv_aload_n C.1 C.2.1 dX11_same_26 rfl (lv_at hl 0 rfl) ?_
      obtain ⟨r_9, er_9, hE⟩ := cl_e hE
      refine gf_X11_103 C hW k_x0 er_9 dX11_same_27 (fun k_r_9 => ?_)
      refine lv_iload_n C.1 C.2.1 dX11_same_30 rfl (lv_at hl 2 rfl) ?_
      obtain ⟨g_10, hE⟩ := gd_e hE
      obtain ⟨r_11, er_11, hE⟩ := cl_e hE
      refine y_aald (t0 := 4) C hW k_r_9 (by decide) (by decide) rfl rfl rfl (fun _ => rfl) g_10 er_11 dX11_same_31 (fun k_r_11 => ?_)
      obtain ⟨o_12, eo_12, hE⟩ := cl_e hE
      refine x_kI (o := o_12) (z_runV (As := [.ref r_8, .ref r_11]) (rest := []) C (ct_X5_areAlike l X F k_r_5 k_r_8 k_r_11 eo_12) cw_X11_204 hW hZ k_r_5 (by decide) rfl rfl rfl hl.1 (Nat.le_of_ble_eq_true rfl) rfl dX11_same_32 ⟨Nat.le_of_ble_eq_true rfl, Nat.le_of_ble_eq_true rfl⟩ ⟨Nat.le_refl _, Nat.le_refl _⟩) hZ (fun _ _ hW km hZ => ?_)
      replace hkm := hkm.tr km
      replace k_x0 := km.at k_x0 (by decide)
      refine lv_if_eq (tgt := 42) C.1 C.2.1 dX11_same_35 (by decide) (fun c_13 => ?_) (fun c_13 => ?_)
      · have hE := br_p hE c_13
        exact bX11_same_42 C hkm hW hZ _ (lv_sub hl [] rfl) hE
      · have hE := br_n hE c_13
        refine lv_iconst (v := (1 : Int32)) C.1 C.2.1 dX11_same_38 (by decide) ?_
        refine lv_goto (tgt := 43) C.1 C.2.1 dX11_same_39 (by decide) ?_
        exact bX11_same_43 C hkm hW hZ _ (lv_sub hl [] rfl) hE
set_option maxRecDepth 100000 in
theorem m_77 : Cond.fieldLink RX11 399 (TX1 2).1 (TX1 2).2.1 (TX1 2).2.2.1 ∈ W0 := w0_in (List.mem_append_right _ (List.mem_of_getElem? (i := 77) rfl)) rfl
section
variable {p : Program} {l : Launch} {e : Env} {R : Room} {s : State} {m : MethodId} {args : Array Value} {below : List Frame} {meth : Method} {c : Code} {H : Heap} {locs : List Loc} {cells slots : Nat} {Q : State → Prop}
variable {cc : ByteArray} {pc : Nat} {ls : Array Slot} {rest : List Value} {X : Ec} {h h1 : Hp} {nL : Nat} {rt : Option FieldType} {mn : String}
theorem gf_X11_399 {a : Nat} (C : Cx X p s m args meth c RX11 cc nL rt mn) (hW : Wx X h H) (ha : hK h a = 1) (hdg : decode cc pc = .ok (.getfield 399, 3)) (kk : W p l e R s m args below meth c H locs cells slots Q (F0 m (pc + 3) ls (.int (hI h a 2) :: rest))) : W p l e R s m args below meth c H locs cells slots Q (F0 m pc ls (.ref a :: rest)) :=
  y_geti C hW ha i_X1 (by decide) rfl (by decide) m_77 rfl hdg kk
end
theorem dX11_isSquare_0 : decode cX11_isSquare 0 = .ok (.iload_n 1, 1) := by decide +kernel
theorem dX11_isSquare_1 : decode cX11_isSquare 1 = .ok (.ifCond .lt 18, 3) := by decide +kernel
theorem dX11_isSquare_4 : decode cX11_isSquare 4 = .ok (.iload_n 1, 1) := by decide +kernel
theorem dX11_isSquare_5 : decode cX11_isSquare 5 = .ok (.aload_n 0, 1) := by decide +kernel
theorem dX11_isSquare_6 : decode cX11_isSquare 6 = .ok (.getfield 24, 3) := by decide +kernel
theorem dX11_isSquare_9 : decode cX11_isSquare 9 = .ok (.getfield 399, 3) := by decide +kernel
theorem dX11_isSquare_12 : decode cX11_isSquare 12 = .ok (.if_icmp .ge 7, 3) := by decide +kernel
theorem dX11_isSquare_15 : decode cX11_isSquare 15 = .ok (.iconst 1, 1) := by decide +kernel
theorem dX11_isSquare_16 : decode cX11_isSquare 16 = .ok (.goto 4, 3) := by decide +kernel
theorem dX11_isSquare_19 : decode cX11_isSquare 19 = .ok (.iconst 0, 1) := by decide +kernel
theorem dX11_isSquare_20 : decode cX11_isSquare 20 = .ok (.ireturn, 1) := by decide +kernel
set_option maxRecDepth 20000 in
theorem moX11_isSquare_20 {o : Int32 × Hp} {h : Hp} {t0 : Int32} (hE : sX11_isSquare_20 h  t0 = some o) : Le h o.2 := by
  obtain ⟨g_1, hE⟩ := gd_e hE
  exact le_some2 hE
set_option maxRecDepth 20000 in
theorem moX11_isSquare_19 {o : Int32 × Hp} {h : Hp} (hE : sX11_isSquare_19 h  = some o) : Le h o.2 := by
  exact moX11_isSquare_20 hE
set_option maxRecDepth 20000 in
theorem moX11_isSquare {o : Int32 × Hp} {h : Hp} {x0 : Nat} {x1 : Int32} (hE : sX11_isSquare h x0 x1 = some o) : Le h o.2 := by
  rcases br_e hE with ⟨_, hE⟩ | ⟨_, hE⟩
  · exact moX11_isSquare_19 hE
  · obtain ⟨r_2, er_2, hE⟩ := cl_e hE
    rcases br_e hE with ⟨_, hE⟩ | ⟨_, hE⟩
    · exact moX11_isSquare_19 hE
    · exact moX11_isSquare_20 hE
set_option maxRecDepth 20000 in
theorem bX11_isSquare_20 {p : Program} {l : Launch} {e : Env} {s : State} {m : MethodId} {args : Array Value} {below : List Frame} {meth : Method} {c : Code} {X : Ec} {h0 : Hp} {o : Int32 × Hp} (C : Cx X p s m args meth c RX11 cX11_isSquare 2 (some .boolean) "isSquare") {h : Hp} {t0 : Int32} {H : Heap} {locs : List Loc} (hkm : Km h0 h) (hW : Wx X h H) (hZ : va_S (aA (eB X)) s.heap H locs) (ls : Array Slot) (hl : lv_has ls 2 []) (hE : sX11_isSquare_20 h  t0 = some o) : W p l e (rm 0 0) s m args below meth c H locs 0 0 (MQ below (QI X h0 o.1 o.2) args s 0 0 (aA (eB X))) (F0 m 20 ls [.int t0]) := by
  obtain ⟨g_1, hE⟩ := gd_e hE
  exact x_iret C rfl (narB g_1) hW hZ hkm hE dX11_isSquare_20
set_option maxRecDepth 20000 in
theorem bX11_isSquare_19 {p : Program} {l : Launch} {e : Env} {s : State} {m : MethodId} {args : Array Value} {below : List Frame} {meth : Method} {c : Code} {X : Ec} {h0 : Hp} {o : Int32 × Hp} (C : Cx X p s m args meth c RX11 cX11_isSquare 2 (some .boolean) "isSquare") {h : Hp} {H : Heap} {locs : List Loc} (hkm : Km h0 h) (hW : Wx X h H) (hZ : va_S (aA (eB X)) s.heap H locs) (ls : Array Slot) (hl : lv_has ls 2 []) (hE : sX11_isSquare_19 h  = some o) : W p l e (rm 0 0) s m args below meth c H locs 0 0 (MQ below (QI X h0 o.1 o.2) args s 0 0 (aA (eB X))) (F0 m 19 ls []) := by
  refine lv_iconst (v := (0 : Int32)) C.1 C.2.1 dX11_isSquare_19 (by decide) ?_
  exact bX11_isSquare_20 C hkm hW hZ _ (lv_sub hl [] rfl) hE
set_option maxRecDepth 20000 in
theorem ct_X11_isSquare (l : Launch) (X : Ec) {h : Hp} {x0 : Nat} {x1 : Int32} {o : Int32 × Hp} (k_x0 : hK h x0 = 11) (hE : sX11_isSquare h x0 x1 = some o) : MetI l yX11_isSquare cX11_isSquare 2 (some .boolean) 0 0 X [.ref x0, .int x1] h o := by
  refine x_met (by decide) (Nat.le_of_ble_eq_true rfl) ?_
  intro p e s m below meth c ls C hl hW hZ
  have hl : lv_has ls 2 [(0, .ref x0), (1, .int x1)] := hl
  have hkm : Km h h := Km.rf h
  refine lv_iload_n C.1 C.2.1 dX11_isSquare_0 rfl (lv_at hl 1 rfl) ?_
  refine lv_if_lt (tgt := 19) C.1 C.2.1 dX11_isSquare_1 (by decide) (fun c_1 => ?_) (fun c_1 => ?_)
  · have hE := br_p hE c_1
    exact bX11_isSquare_19 C hkm hW hZ _ (lv_sub hl [] rfl) hE
  · have hE := br_n hE c_1
    refine lv_iload_n C.1 C.2.1 dX11_isSquare_4 rfl (lv_at hl 1 rfl) ?_
    refine lv_aload_n C.1 C.2.1 dX11_isSquare_5 rfl (lv_at hl 0 rfl) ?_
    obtain ⟨r_2, er_2, hE⟩ := cl_e hE
    refine gf_X11_24 C hW k_x0 er_2 dX11_isSquare_6 (fun k_r_2 => ?_)
    refine gf_X11_399 C hW k_r_2 dX11_isSquare_9 ?_
    refine lv_icmp_ge (tgt := 19) C.1 C.2.1 dX11_isSquare_12 (by decide) (fun c_3 => ?_) (fun c_3 => ?_)
    · have hE := br_p hE c_3
      exact bX11_isSquare_19 C hkm hW hZ _ (lv_sub hl [] rfl) hE
    · have hE := br_n hE c_3
      refine lv_iconst (v := (1 : Int32)) C.1 C.2.1 dX11_isSquare_15 (by decide) ?_
      refine lv_goto (tgt := 20) C.1 C.2.1 dX11_isSquare_16 (by decide) ?_
      exact bX11_isSquare_20 C hkm hW hZ _ (lv_sub hl [] rfl) hE
set_option maxRecDepth 100000 in
theorem ms_67 : Cond.selects RX11 yX11_isSquare yX11_isSquare ∈ W0 := w0_in (List.mem_append_left _ (List.mem_of_getElem? (i := 67) rfl)) rfl
set_option maxRecDepth 100000 in
theorem m_279 : Cond.fieldLink RX11 211 (TX3 0).1 (TX3 0).2.1 (TX3 0).2.2.1 ∈ W0 := w0_in (List.mem_append_right _ (List.mem_of_getElem? (i := 279) rfl)) rfl
set_option maxRecDepth 100000 in
theorem m_1264 : Cond.methodLink RX11 208 yX11_isSquare ∈ W0 := w0_in (List.mem_append_right _ (List.mem_of_getElem? (i := 1264) rfl)) rfl
set_option maxRecDepth 100000 in
theorem m_1266 : Cond.instanceMethod yX11_isSquare ∈ W0 := w0_in (List.mem_append_right _ (List.mem_of_getElem? (i := 1266) rfl)) rfl
set_option maxRecDepth 100000 in
theorem m_1267 : Cond.code yX11_isSquare cX11_isSquare 2 (some .boolean) ∈ W0 := w0_in (List.mem_append_right _ (List.mem_of_getElem? (i := 1267) rfl)) rfl
section
variable {p : Program} {l : Launch} {e : Env} {R : Room} {s : State} {m : MethodId} {args : Array Value} {below : List Frame} {meth : Method} {c : Code} {H : Heap} {locs : List Loc} {cells slots : Nat} {Q : State → Prop}
variable {cc : ByteArray} {pc : Nat} {ls : Array Slot} {rest : List Value} {X : Ec} {h h1 : Hp} {nL : Nat} {rt : Option FieldType} {mn : String}
theorem gf_X11_211 {a r : Nat} (C : Cx X p s m args meth c RX11 cc nL rt mn) (hW : Wx X h H) (ha : hK h a = 3) (hr : hR h a 0 = some r) (hdg : decode cc pc = .ok (.getfield 211, 3)) (kk : hK h r = 16 → W p l e R s m args below meth c H locs cells slots Q (F0 m (pc + 3) ls (.ref r :: rest))) : W p l e R s m args below meth c H locs cells slots Q (F0 m pc ls (.ref a :: rest)) :=
  y_getr C hW ha i_X3 (by decide) rfl (by decide) m_279 rfl rfl hr hdg kk
end
theorem cw_X11_208 : cwd RX11 208 yX11_isSquare cX11_isSquare 2 (some .boolean) false 1 := ⟨m_1267, m_1264, m_1, ⟨m_1266, ms_67⟩, by decide, by decide, by decide +kernel⟩
theorem dX11_at_0 : decode cX11_at 0 = .ok (.aload_n 0, 1) := by decide +kernel
theorem dX11_at_1 : decode cX11_at 1 = .ok (.iload_n 2, 1) := by decide +kernel
theorem dX11_at_2 : decode cX11_at 2 = .ok (.invokevirtual 208, 3) := by decide +kernel
theorem dX11_at_5 : decode cX11_at 5 = .ok (.ifCond .ne 6, 3) := by decide +kernel
theorem dX11_at_8 : decode cX11_at 8 = .ok (.bipush (-101), 2) := by decide +kernel
theorem dX11_at_10 : decode cX11_at 10 = .ok (.ireturn, 1) := by decide +kernel
theorem dX11_at_11 : decode cX11_at 11 = .ok (.aload_n 0, 1) := by decide +kernel
theorem dX11_at_12 : decode cX11_at 12 = .ok (.iload_n 1, 1) := by decide +kernel
theorem dX11_at_13 : decode cX11_at 13 = .ok (.invokevirtual 193, 3) := by decide +kernel
theorem dX11_at_16 : decode cX11_at 16 = .ok (.ifCond .eq 17, 3) := by decide +kernel
theorem dX11_at_19 : decode cX11_at 19 = .ok (.aload_n 0, 1) := by decide +kernel
theorem dX11_at_20 : decode cX11_at 20 = .ok (.getfield 103, 3) := by decide +kernel
theorem dX11_at_23 : decode cX11_at 23 = .ok (.iload_n 1, 1) := by decide +kernel
theorem dX11_at_24 : decode cX11_at 24 = .ok (.aaload, 1) := by decide +kernel
theorem dX11_at_25 : decode cX11_at 25 = .ok (.getfield 211, 3) := by decide +kernel
theorem dX11_at_28 : decode cX11_at 28 = .ok (.iload_n 2, 1) := by decide +kernel
theorem dX11_at_29 : decode cX11_at 29 = .ok (.baload, 1) := by decide +kernel
theorem dX11_at_30 : decode cX11_at 30 = .ok (.goto 5, 3) := by decide +kernel
theorem dX11_at_33 : decode cX11_at 33 = .ok (.bipush (-102), 2) := by decide +kernel
theorem dX11_at_35 : decode cX11_at 35 = .ok (.ireturn, 1) := by decide +kernel
set_option maxRecDepth 20000 in
theorem moX11_at_35 {o : Int32 × Hp} {h : Hp} {t0 : Int32} (hE : sX11_at_35 h  t0 = some o) : Le h o.2 := by
  exact le_some2 hE
set_option maxRecDepth 20000 in
theorem moX11_at {o : Int32 × Hp} {h : Hp} {x0 : Nat} {x1 : Int32} {x2 : Int32} (hE : sX11_at h x0 x1 x2 = some o) : Le h o.2 := by
  obtain ⟨o_1, eo_1, hE⟩ := cl_e hE
  refine (moX11_isSquare eo_1).tr ?_
  rcases br_e hE with ⟨_, hE⟩ | ⟨_, hE⟩
  · exact le_some2 hE
  · obtain ⟨o_3, eo_3, hE⟩ := cl_e hE
    refine (moX11_isPlace eo_3).tr ?_
    rcases br_e hE with ⟨_, hE⟩ | ⟨_, hE⟩
    · exact moX11_at_35 hE
    · obtain ⟨r_5, er_5, hE⟩ := cl_e hE
      obtain ⟨g_6, hE⟩ := gd_e hE
      obtain ⟨r_7, er_7, hE⟩ := cl_e hE
      obtain ⟨r_8, er_8, hE⟩ := cl_e hE
      obtain ⟨g_9, hE⟩ := gd_e hE
      exact moX11_at_35 hE
set_option maxRecDepth 20000 in
theorem bX11_at_35 {p : Program} {l : Launch} {e : Env} {s : State} {m : MethodId} {args : Array Value} {below : List Frame} {meth : Method} {c : Code} {X : Ec} {h0 : Hp} {o : Int32 × Hp} (C : Cx X p s m args meth c RX11 cX11_at 3 (some .int) "at") {h : Hp} {t0 : Int32} {H : Heap} {locs : List Loc} (hkm : Km h0 h) (hW : Wx X h H) (hZ : va_S (aA (eB X)) s.heap H locs) (ls : Array Slot) (hl : lv_has ls 3 []) (hE : sX11_at_35 h  t0 = some o) : W p l e (rm 1 21) s m args below meth c H locs 0 0 (MQ below (QI X h0 o.1 o.2) args s 0 0 (aA (eB X))) (F0 m 35 ls [.int t0]) := by
  exact x_iret C rfl rfl hW hZ hkm hE dX11_at_35
set_option maxRecDepth 20000 in
theorem ct_X11_at (l : Launch) (X : Ec) {h : Hp} {x0 : Nat} {x1 : Int32} {x2 : Int32} {o : Int32 × Hp} (k_x0 : hK h x0 = 11) (hE : sX11_at h x0 x1 x2 = some o) : MetI l yX11_at cX11_at 3 (some .int) 1 21 X [.ref x0, .int x1, .int x2] h o := by
  refine x_met (by decide) (Nat.le_of_ble_eq_true rfl) ?_
  intro p e s m below meth c ls C hl hW hZ
  have hl : lv_has ls 3 [(0, .ref x0), (1, .int x1), (2, .int x2)] := hl
  have hkm : Km h h := Km.rf h
  refine lv_aload_n C.1 C.2.1 dX11_at_0 rfl (lv_at hl 0 rfl) ?_
  refine lv_iload_n C.1 C.2.1 dX11_at_1 rfl (lv_at hl 2 rfl) ?_
  obtain ⟨o_1, eo_1, hE⟩ := cl_e hE
  refine x_kI (o := o_1) (z_runV (As := [.int x2]) (rest := []) C (ct_X11_isSquare l X k_x0 eo_1) cw_X11_208 hW hZ k_x0 (by decide) rfl rfl rfl hl.1 (Nat.le_of_ble_eq_true rfl) rfl dX11_at_2 ⟨Nat.le_of_ble_eq_true rfl, Nat.le_of_ble_eq_true rfl⟩ ⟨Nat.le_refl _, Nat.le_refl _⟩) hZ (fun _ _ hW km hZ => ?_)
  replace hkm := hkm.tr km
  replace k_x0 := km.at k_x0 (by decide)
  refine lv_if_ne (tgt := 11) C.1 C.2.1 dX11_at_5 (by decide) (fun c_2 => ?_) (fun c_2 => ?_)
  · have hE := br_n hE c_2
    refine lv_aload_n C.1 C.2.1 dX11_at_11 rfl (lv_at hl 0 rfl) ?_
    refine lv_iload_n C.1 C.2.1 dX11_at_12 rfl (lv_at hl 1 rfl) ?_
    obtain ⟨o_3, eo_3, hE⟩ := cl_e hE
    refine x_kI (o := o_3) (z_runV (As := [.int x1]) (rest := []) C (ct_X11_isPlace l X k_x0 eo_3) cw_X11_193 hW hZ k_x0 (by decide) rfl rfl rfl hl.1 (Nat.le_of_ble_eq_true rfl) rfl dX11_at_13 ⟨Nat.le_of_ble_eq_true rfl, Nat.le_of_ble_eq_true rfl⟩ ⟨Nat.le_refl _, Nat.le_refl _⟩) hZ (fun _ _ hW km hZ => ?_)
    replace hkm := hkm.tr km
    replace k_x0 := km.at k_x0 (by decide)
    refine lv_if_eq (tgt := 33) C.1 C.2.1 dX11_at_16 (by decide) (fun c_4 => ?_) (fun c_4 => ?_)
    · have hE := br_p hE c_4
      refine lv_bipush (v := (-102 : Int32)) C.1 C.2.1 dX11_at_33 (by decide) ?_
      exact bX11_at_35 C hkm hW hZ _ (lv_sub hl [] rfl) hE
    · have hE := br_n hE c_4
      refine lv_aload_n C.1 C.2.1 dX11_at_19 rfl (lv_at hl 0 rfl) ?_
      obtain ⟨r_5, er_5, hE⟩ := cl_e hE
      refine gf_X11_103 C hW k_x0 er_5 dX11_at_20 (fun k_r_5 => ?_)
      refine lv_iload_n C.1 C.2.1 dX11_at_23 rfl (lv_at hl 1 rfl) ?_
      obtain ⟨g_6, hE⟩ := gd_e hE
      obtain ⟨r_7, er_7, hE⟩ := cl_e hE
      refine y_aald (t0 := 4) C hW k_r_5 (by decide) (by decide) rfl rfl rfl (fun _ => rfl) g_6 er_7 dX11_at_24 (fun k_r_7 => ?_)
      obtain ⟨r_8, er_8, hE⟩ := cl_e hE
      refine gf_X11_211 C hW k_r_7 er_8 dX11_at_25 (fun k_r_8 => ?_)
      refine lv_iload_n C.1 C.2.1 dX11_at_28 rfl (lv_at hl 2 rfl) ?_
      obtain ⟨g_9, hE⟩ := gd_e hE
      refine y_bald C hW k_r_8 g_9 dX11_at_29 ?_
      refine lv_goto (tgt := 35) C.1 C.2.1 dX11_at_30 (by decide) ?_
      exact bX11_at_35 C hkm hW hZ _ (lv_sub hl [] rfl) hE
  · have hE := br_p hE c_2
    refine lv_bipush (v := (-101 : Int32)) C.1 C.2.1 dX11_at_8 (by decide) ?_
    exact x_iret C rfl rfl hW hZ hkm hE dX11_at_10
set_option maxRecDepth 100000 in
theorem m_294 : Cond.fieldLink RX11 221 (TX3 4).1 (TX3 4).2.1 (TX3 4).2.2.1 ∈ W0 := w0_in (List.mem_append_right _ (List.mem_of_getElem? (i := 294) rfl)) rfl
set_option maxRecDepth 100000 in
theorem m_301 : Cond.fieldLink RX11 215 (TX3 5).1 (TX3 5).2.1 (TX3 5).2.2.1 ∈ W0 := w0_in (List.mem_append_right _ (List.mem_of_getElem? (i := 301) rfl)) rfl
set_option maxRecDepth 100000 in
theorem m_306 : Cond.fieldLink RX11 218 (TX3 6).1 (TX3 6).2.1 (TX3 6).2.2.1 ∈ W0 := w0_in (List.mem_append_right _ (List.mem_of_getElem? (i := 306) rfl)) rfl
set_option maxRecDepth 100000 in
theorem m_312 : Cond.fieldLink RX11 224 (TX3 8).1 (TX3 8).2.1 (TX3 8).2.2.1 ∈ W0 := w0_in (List.mem_append_right _ (List.mem_of_getElem? (i := 312) rfl)) rfl
set_option maxRecDepth 100000 in
theorem m_315 : Cond.fieldLink RX11 234 (TX3 9).1 (TX3 9).2.1 (TX3 9).2.2.1 ∈ W0 := w0_in (List.mem_append_right _ (List.mem_of_getElem? (i := 315) rfl)) rfl
set_option maxRecDepth 100000 in
theorem m_1272 : Cond.methodLink RX11 228 yJ13_bitCount_95d88 ∈ W0 := w0_in (List.mem_append_right _ (List.mem_of_getElem? (i := 1272) rfl)) rfl
set_option maxRecDepth 100000 in
theorem m_1278 : Cond.methodLink RX11 237 yX3_passSquare ∈ W0 := w0_in (List.mem_append_right _ (List.mem_of_getElem? (i := 1278) rfl)) rfl
set_option maxRecDepth 100000 in
theorem m_1279 : Cond.methodLink RX11 240 yX3_handSize ∈ W0 := w0_in (List.mem_append_right _ (List.mem_of_getElem? (i := 1279) rfl)) rfl
set_option maxRecDepth 100000 in
theorem m_1280 : Cond.instanceMethod yX3_handSize ∈ W0 := w0_in (List.mem_append_right _ (List.mem_of_getElem? (i := 1280) rfl)) rfl
set_option maxRecDepth 100000 in
theorem m_1281 : Cond.selects RX3 yX3_handSize yX3_handSize ∈ W0 := w0_in (List.mem_append_right _ (List.mem_of_getElem? (i := 1281) rfl)) rfl
set_option maxRecDepth 100000 in
theorem m_1282 : Cond.code yX3_handSize cX3_handSize 4 (some .int) ∈ W0 := w0_in (List.mem_append_right _ (List.mem_of_getElem? (i := 1282) rfl)) rfl
set_option maxRecDepth 100000 in
theorem m_1284 : Cond.methodLink RX11 243 yX3_occupied ∈ W0 := w0_in (List.mem_append_right _ (List.mem_of_getElem? (i := 1284) rfl)) rfl
section
variable {p : Program} {l : Launch} {e : Env} {R : Room} {s : State} {m : MethodId} {args : Array Value} {below : List Frame} {meth : Method} {c : Code} {H : Heap} {locs : List Loc} {cells slots : Nat} {Q : State → Prop}
variable {cc : ByteArray} {pc : Nat} {ls : Array Slot} {rest : List Value} {X : Ec} {h h1 : Hp} {nL : Nat} {rt : Option FieldType} {mn : String}
theorem gf_X11_215 {a : Nat} (C : Cx X p s m args meth c RX11 cc nL rt mn) (hW : Wx X h H) (ha : hK h a = 3) (hdg : decode cc pc = .ok (.getfield 215, 3)) (kk : W p l e R s m args below meth c H locs cells slots Q (F0 m (pc + 3) ls (.int (hI h a 5) :: rest))) : W p l e R s m args below meth c H locs cells slots Q (F0 m pc ls (.ref a :: rest)) :=
  y_geti C hW ha i_X3 (by decide) rfl (by decide) m_301 rfl hdg kk
theorem gf_X11_218 {a : Nat} (C : Cx X p s m args meth c RX11 cc nL rt mn) (hW : Wx X h H) (ha : hK h a = 3) (hdg : decode cc pc = .ok (.getfield 218, 3)) (kk : W p l e R s m args below meth c H locs cells slots Q (F0 m (pc + 3) ls (.int (hI h a 6) :: rest))) : W p l e R s m args below meth c H locs cells slots Q (F0 m pc ls (.ref a :: rest)) :=
  y_geti C hW ha i_X3 (by decide) rfl (by decide) m_306 rfl hdg kk
theorem gf_X11_221 {a r : Nat} (C : Cx X p s m args meth c RX11 cc nL rt mn) (hW : Wx X h H) (ha : hK h a = 3) (hr : hR h a 4 = some r) (hdg : decode cc pc = .ok (.getfield 221, 3)) (kk : hK h r = 17 → W p l e R s m args below meth c H locs cells slots Q (F0 m (pc + 3) ls (.ref r :: rest))) : W p l e R s m args below meth c H locs cells slots Q (F0 m pc ls (.ref a :: rest)) :=
  y_getr C hW ha i_X3 (by decide) rfl (by decide) m_294 rfl rfl hr hdg kk
theorem gf_X11_224 {a : Nat} (C : Cx X p s m args meth c RX11 cc nL rt mn) (hW : Wx X h H) (ha : hK h a = 3) (hdg : decode cc pc = .ok (.getfield 224, 3)) (kk : W p l e R s m args below meth c H locs cells slots Q (F0 m (pc + 3) ls (.long (hJ h a 8) :: rest))) : W p l e R s m args below meth c H locs cells slots Q (F0 m pc ls (.ref a :: rest)) :=
  y_getj C hW ha i_X3 (by decide) rfl (by decide) m_312 rfl hdg kk
theorem gf_X11_234 {a : Nat} (C : Cx X p s m args meth c RX11 cc nL rt mn) (hW : Wx X h H) (ha : hK h a = 3) (hdg : decode cc pc = .ok (.getfield 234, 3)) (kk : W p l e R s m args below meth c H locs cells slots Q (F0 m (pc + 3) ls (.long (hJ h a 9) :: rest))) : W p l e R s m args below meth c H locs cells slots Q (F0 m pc ls (.ref a :: rest)) :=
  y_getj C hW ha i_X3 (by decide) rfl (by decide) m_315 rfl hdg kk
end
theorem cw_X11_228 : cwd RX11 228 yJ13_bitCount_95d88 cJ13_bitCount_95d88 2 (some .int) true 1 := ⟨m_1274, m_1272, m_24, m_1273, by decide, by decide, by decide +kernel⟩
theorem cw_X11_237 : cwd RX11 237 yX3_passSquare cX3_passSquare 2 (some .int) false 1 := ⟨m_1057, m_1278, m_8, ⟨m_1055, m_1056⟩, by decide, by decide, by decide +kernel⟩
theorem cw_X11_240 : cwd RX11 240 yX3_handSize cX3_handSize 4 (some .int) false 1 := ⟨m_1282, m_1279, m_8, ⟨m_1280, m_1281⟩, by decide, by decide, by decide +kernel⟩
theorem cw_X11_243 : cwd RX11 243 yX3_occupied cX3_occupied 1 (some .long) false 0 := ⟨m_1061, m_1284, m_8, ⟨m_1059, m_1060⟩, by decide, by decide, by decide +kernel⟩
theorem dX11_figure_0 : decode cX11_figure 0 = .ok (.iload_n 2, 1) := by decide +kernel
theorem dX11_figure_1 : decode cX11_figure 1 = .ok (.ifCond .lt 9, 3) := by decide +kernel
theorem dX11_figure_4 : decode cX11_figure 4 = .ok (.iload_n 2, 1) := by decide +kernel
theorem dX11_figure_5 : decode cX11_figure 5 = .ok (.bipush 8, 2) := by decide +kernel
theorem dX11_figure_7 : decode cX11_figure 7 = .ok (.if_icmp .le 6, 3) := by decide +kernel
theorem dX11_figure_10 : decode cX11_figure 10 = .ok (.bipush (-101), 2) := by decide +kernel
theorem dX11_figure_12 : decode cX11_figure 12 = .ok (.ireturn, 1) := by decide +kernel
theorem dX11_figure_13 : decode cX11_figure 13 = .ok (.aload_n 0, 1) := by decide +kernel
theorem dX11_figure_14 : decode cX11_figure 14 = .ok (.iload_n 1, 1) := by decide +kernel
theorem dX11_figure_15 : decode cX11_figure 15 = .ok (.invokevirtual 193, 3) := by decide +kernel
theorem dX11_figure_18 : decode cX11_figure 18 = .ok (.ifCond .ne 6, 3) := by decide +kernel
theorem dX11_figure_21 : decode cX11_figure 21 = .ok (.bipush (-102), 2) := by decide +kernel
theorem dX11_figure_23 : decode cX11_figure 23 = .ok (.ireturn, 1) := by decide +kernel
theorem dX11_figure_24 : decode cX11_figure 24 = .ok (.aload_n 0, 1) := by decide +kernel
theorem dX11_figure_25 : decode cX11_figure 25 = .ok (.getfield 103, 3) := by decide +kernel
theorem dX11_figure_28 : decode cX11_figure 28 = .ok (.iload_n 1, 1) := by decide +kernel
theorem dX11_figure_29 : decode cX11_figure 29 = .ok (.aaload, 1) := by decide +kernel
theorem dX11_figure_30 : decode cX11_figure 30 = .ok (.astore_n 3, 1) := by decide +kernel
theorem dX11_figure_31 : decode cX11_figure 31 = .ok (.iload_n 2, 1) := by decide +kernel
theorem dX11_figure_32 : decode cX11_figure 32 = .ok (.tableswitch 111 0 7 #[48, 53, 58, 65, 72, 80, 99, 105], 48) := by decide +kernel
theorem dX11_figure_80 : decode cX11_figure 80 = .ok (.aload_n 3, 1) := by decide +kernel
theorem dX11_figure_81 : decode cX11_figure 81 = .ok (.getfield 215, 3) := by decide +kernel
theorem dX11_figure_84 : decode cX11_figure 84 = .ok (.ireturn, 1) := by decide +kernel
theorem dX11_figure_85 : decode cX11_figure 85 = .ok (.aload_n 3, 1) := by decide +kernel
theorem dX11_figure_86 : decode cX11_figure 86 = .ok (.getfield 218, 3) := by decide +kernel
theorem dX11_figure_89 : decode cX11_figure 89 = .ok (.ireturn, 1) := by decide +kernel
theorem dX11_figure_90 : decode cX11_figure 90 = .ok (.aload_n 3, 1) := by decide +kernel
theorem dX11_figure_91 : decode cX11_figure 91 = .ok (.getfield 221, 3) := by decide +kernel
theorem dX11_figure_94 : decode cX11_figure 94 = .ok (.iconst 0, 1) := by decide +kernel
theorem dX11_figure_95 : decode cX11_figure 95 = .ok (.iaload, 1) := by decide +kernel
theorem dX11_figure_96 : decode cX11_figure 96 = .ok (.ireturn, 1) := by decide +kernel
theorem dX11_figure_97 : decode cX11_figure 97 = .ok (.aload_n 3, 1) := by decide +kernel
theorem dX11_figure_98 : decode cX11_figure 98 = .ok (.getfield 221, 3) := by decide +kernel
theorem dX11_figure_101 : decode cX11_figure 101 = .ok (.iconst 1, 1) := by decide +kernel
theorem dX11_figure_102 : decode cX11_figure 102 = .ok (.iaload, 1) := by decide +kernel
theorem dX11_figure_103 : decode cX11_figure 103 = .ok (.ireturn, 1) := by decide +kernel
theorem dX11_figure_104 : decode cX11_figure 104 = .ok (.aload_n 3, 1) := by decide +kernel
theorem dX11_figure_105 : decode cX11_figure 105 = .ok (.getfield 224, 3) := by decide +kernel
theorem dX11_figure_108 : decode cX11_figure 108 = .ok (.invokestatic 228, 3) := by decide +kernel
theorem dX11_figure_111 : decode cX11_figure 111 = .ok (.ireturn, 1) := by decide +kernel
theorem dX11_figure_112 : decode cX11_figure 112 = .ok (.aload_n 3, 1) := by decide +kernel
theorem dX11_figure_113 : decode cX11_figure 113 = .ok (.getfield 234, 3) := by decide +kernel
theorem dX11_figure_116 : decode cX11_figure 116 = .ok (.lconst 0, 1) := by decide +kernel
theorem dX11_figure_117 : decode cX11_figure 117 = .ok (.lcmp, 1) := by decide +kernel
theorem dX11_figure_118 : decode cX11_figure 118 = .ok (.ifCond .ne 7, 3) := by decide +kernel
theorem dX11_figure_121 : decode cX11_figure 121 = .ok (.iconst (-1), 1) := by decide +kernel
theorem dX11_figure_122 : decode cX11_figure 122 = .ok (.goto 8, 3) := by decide +kernel
theorem dX11_figure_125 : decode cX11_figure 125 = .ok (.aload_n 3, 1) := by decide +kernel
theorem dX11_figure_126 : decode cX11_figure 126 = .ok (.iconst 0, 1) := by decide +kernel
theorem dX11_figure_127 : decode cX11_figure 127 = .ok (.invokevirtual 237, 3) := by decide +kernel
theorem dX11_figure_130 : decode cX11_figure 130 = .ok (.ireturn, 1) := by decide +kernel
theorem dX11_figure_131 : decode cX11_figure 131 = .ok (.aload_n 3, 1) := by decide +kernel
theorem dX11_figure_132 : decode cX11_figure 132 = .ok (.iconst 0, 1) := by decide +kernel
theorem dX11_figure_133 : decode cX11_figure 133 = .ok (.invokevirtual 240, 3) := by decide +kernel
theorem dX11_figure_136 : decode cX11_figure 136 = .ok (.ireturn, 1) := by decide +kernel
theorem dX11_figure_137 : decode cX11_figure 137 = .ok (.aload_n 3, 1) := by decide +kernel
theorem dX11_figure_138 : decode cX11_figure 138 = .ok (.iconst 1, 1) := by decide +kernel
theorem dX11_figure_139 : decode cX11_figure 139 = .ok (.invokevirtual 240, 3) := by decide +kernel
theorem dX11_figure_142 : decode cX11_figure 142 = .ok (.ireturn, 1) := by decide +kernel
theorem dX11_figure_143 : decode cX11_figure 143 = .ok (.aload_n 3, 1) := by decide +kernel
theorem dX11_figure_144 : decode cX11_figure 144 = .ok (.invokevirtual 243, 3) := by decide +kernel
theorem dX11_figure_147 : decode cX11_figure 147 = .ok (.invokestatic 228, 3) := by decide +kernel
theorem dX11_figure_150 : decode cX11_figure 150 = .ok (.ireturn, 1) := by decide +kernel
set_option maxRecDepth 20000 in
theorem moX11_figure_10 {o : Int32 × Hp} {F : Nat} {h : Hp} (hE : sX11_figure_10 F h  = some o) : Le h o.2 := by
  exact le_some2 hE
set_option maxRecDepth 20000 in
theorem moX11_figure_130 {o : Int32 × Hp} {F : Nat} {h : Hp} {t0 : Int32} (hE : sX11_figure_130 F h  t0 = some o) : Le h o.2 := by
  exact le_some2 hE
set_option maxRecDepth 20000 in
theorem moX11_figure {o : Int32 × Hp} {F : Nat} {h : Hp} {x0 : Nat} {x1 : Int32} {x2 : Int32} (hE : sX11_figure F h x0 x1 x2 = some o) : Le h o.2 := by
  rcases br_e hE with ⟨_, hE⟩ | ⟨_, hE⟩
  · exact moX11_figure_10 hE
  · rcases br_e hE with ⟨_, hE⟩ | ⟨_, hE⟩
    · obtain ⟨o_3, eo_3, hE⟩ := cl_e hE
      refine (moX11_isPlace eo_3).tr ?_
      rcases br_e hE with ⟨_, hE⟩ | ⟨_, hE⟩
      · exact le_some2 hE
      · obtain ⟨r_5, er_5, hE⟩ := cl_e hE
        obtain ⟨g_6, hE⟩ := gd_e hE
        obtain ⟨r_7, er_7, hE⟩ := cl_e hE
        rcases br_e hE with ⟨_, hE⟩ | ⟨_, hE⟩
        · exact le_some2 hE
        rcases br_e hE with ⟨_, hE⟩ | ⟨_, hE⟩
        · exact le_some2 hE
        rcases br_e hE with ⟨_, hE⟩ | ⟨_, hE⟩
        · obtain ⟨r_10, er_10, hE⟩ := cl_e hE
          obtain ⟨g_11, hE⟩ := gd_e hE
          exact le_some2 hE
        rcases br_e hE with ⟨_, hE⟩ | ⟨_, hE⟩
        · obtain ⟨r_13, er_13, hE⟩ := cl_e hE
          obtain ⟨g_14, hE⟩ := gd_e hE
          exact le_some2 hE
        rcases br_e hE with ⟨_, hE⟩ | ⟨_, hE⟩
        · obtain ⟨o_16, eo_16, hE⟩ := cl_e hE
          refine (moJ13_bitCount_95d88 eo_16).tr ?_
          exact le_some2 hE
        rcases br_e hE with ⟨_, hE⟩ | ⟨_, hE⟩
        · rcases br_e hE with ⟨_, hE⟩ | ⟨_, hE⟩
          · exact moX11_figure_130 hE
          · obtain ⟨o_19, eo_19, hE⟩ := cl_e hE
            refine (moX3_passSquare eo_19).tr ?_
            exact moX11_figure_130 hE
        rcases br_e hE with ⟨_, hE⟩ | ⟨_, hE⟩
        · obtain ⟨o_21, eo_21, hE⟩ := cl_e hE
          refine (moX3_handSize eo_21).tr ?_
          exact le_some2 hE
        rcases br_e hE with ⟨_, hE⟩ | ⟨_, hE⟩
        · obtain ⟨o_23, eo_23, hE⟩ := cl_e hE
          refine (moX3_handSize eo_23).tr ?_
          exact le_some2 hE
        obtain ⟨o_25, eo_25, hE⟩ := cl_e hE
        refine (moX3_occupied eo_25).tr ?_
        obtain ⟨o_26, eo_26, hE⟩ := cl_e hE
        refine (moJ13_bitCount_95d88 eo_26).tr ?_
        exact le_some2 hE
    · exact moX11_figure_10 hE
set_option maxRecDepth 20000 in
theorem bX11_figure_10 {p : Program} {l : Launch} {e : Env} {s : State} {m : MethodId} {args : Array Value} {below : List Frame} {meth : Method} {c : Code} {X : Ec} {h0 : Hp} {o : Int32 × Hp} {F : Nat} (C : Cx X p s m args meth c RX11 cX11_figure 4 (some .int) "figure") {h : Hp} {H : Heap} {locs : List Loc} (hkm : Km h0 h) (hW : Wx X h H) (hZ : va_S (aA (eB X)) s.heap H locs) (ls : Array Slot) (hl : lv_has ls 4 []) (hE : sX11_figure_10 F h  = some o) : W p l e (rm 2 45) s m args below meth c H locs 0 0 (MQ below (QI X h0 o.1 o.2) args s 0 0 (aA (eB X))) (F0 m 10 ls []) := by
  refine lv_bipush (v := (-101 : Int32)) C.1 C.2.1 dX11_figure_10 (by decide) ?_
  exact x_iret C rfl rfl hW hZ hkm hE dX11_figure_12
set_option maxRecDepth 20000 in
theorem bX11_figure_130 {p : Program} {l : Launch} {e : Env} {s : State} {m : MethodId} {args : Array Value} {below : List Frame} {meth : Method} {c : Code} {X : Ec} {h0 : Hp} {o : Int32 × Hp} {F : Nat} (C : Cx X p s m args meth c RX11 cX11_figure 4 (some .int) "figure") {h : Hp} {t0 : Int32} {H : Heap} {locs : List Loc} (hkm : Km h0 h) (hW : Wx X h H) (hZ : va_S (aA (eB X)) s.heap H locs) (ls : Array Slot) (hl : lv_has ls 4 []) (hE : sX11_figure_130 F h  t0 = some o) : W p l e (rm 2 45) s m args below meth c H locs 0 0 (MQ below (QI X h0 o.1 o.2) args s 0 0 (aA (eB X))) (F0 m 130 ls [.int t0]) := by
  exact x_iret C rfl rfl hW hZ hkm hE dX11_figure_130
set_option maxRecDepth 20000 in
theorem ct_X11_figure (l : Launch) (X : Ec) (F : Nat) {h : Hp} {x0 : Nat} {x1 : Int32} {x2 : Int32} {o : Int32 × Hp} (k_x0 : hK h x0 = 11) (hE : sX11_figure F h x0 x1 x2 = some o) : MetI l yX11_figure cX11_figure 4 (some .int) 2 45 X [.ref x0, .int x1, .int x2] h o := by
  refine x_met (by decide) (Nat.le_of_ble_eq_true rfl) ?_
  intro p e s m below meth c ls C hl hW hZ
  have hl : lv_has ls 4 [(0, .ref x0), (1, .int x1), (2, .int x2)] := hl
  have hkm : Km h h := Km.rf h
  refine lv_iload_n C.1 C.2.1 dX11_figure_0 rfl (lv_at hl 2 rfl) ?_
  refine lv_if_lt (tgt := 10) C.1 C.2.1 dX11_figure_1 (by decide) (fun c_1 => ?_) (fun c_1 => ?_)
  · have hE := br_p hE c_1
    exact bX11_figure_10 C hkm hW hZ _ (lv_sub hl [] rfl) hE
  · have hE := br_n hE c_1
    refine lv_iload_n C.1 C.2.1 dX11_figure_4 rfl (lv_at hl 2 rfl) ?_
    refine lv_bipush (v := (8 : Int32)) C.1 C.2.1 dX11_figure_5 (by decide) ?_
    refine lv_icmp_le (tgt := 13) C.1 C.2.1 dX11_figure_7 (by decide) (fun c_2 => ?_) (fun c_2 => ?_)
    · have hE := br_p hE c_2
      refine lv_aload_n C.1 C.2.1 dX11_figure_13 rfl (lv_at hl 0 rfl) ?_
      refine lv_iload_n C.1 C.2.1 dX11_figure_14 rfl (lv_at hl 1 rfl) ?_
      obtain ⟨o_3, eo_3, hE⟩ := cl_e hE
      refine x_kI (o := o_3) (z_runV (As := [.int x1]) (rest := []) C (ct_X11_isPlace l X k_x0 eo_3) cw_X11_193 hW hZ k_x0 (by decide) rfl rfl rfl hl.1 (Nat.le_of_ble_eq_true rfl) rfl dX11_figure_15 ⟨Nat.le_of_ble_eq_true rfl, Nat.le_of_ble_eq_true rfl⟩ ⟨Nat.le_refl _, Nat.le_refl _⟩) hZ (fun _ _ hW km hZ => ?_)
      replace hkm := hkm.tr km
      replace k_x0 := km.at k_x0 (by decide)
      refine lv_if_ne (tgt := 24) C.1 C.2.1 dX11_figure_18 (by decide) (fun c_4 => ?_) (fun c_4 => ?_)
      · have hE := br_n hE c_4
        refine lv_aload_n C.1 C.2.1 dX11_figure_24 rfl (lv_at hl 0 rfl) ?_
        obtain ⟨r_5, er_5, hE⟩ := cl_e hE
        refine gf_X11_103 C hW k_x0 er_5 dX11_figure_25 (fun k_r_5 => ?_)
        refine lv_iload_n C.1 C.2.1 dX11_figure_28 rfl (lv_at hl 1 rfl) ?_
        obtain ⟨g_6, hE⟩ := gd_e hE
        obtain ⟨r_7, er_7, hE⟩ := cl_e hE
        refine y_aald (t0 := 4) C hW k_r_5 (by decide) (by decide) rfl rfl rfl (fun _ => rfl) g_6 er_7 dX11_figure_29 (fun k_r_7 => ?_)
        refine lv_astore_n (lv' := [(3, .ref r_7), (0, .ref x0), (1, .int x1), (2, .int x2)]) C.1 C.2.1 dX11_figure_30 rfl hl (by decide) rfl (fun ls hl => ?_)
        refine lv_iload_n C.1 C.2.1 dX11_figure_31 rfl (lv_at hl 3 rfl) ?_
        by_cases c_8 : x2 = (0 : Int32)
        · have hE := br_p hE c_8
          refine lv_tableIn (off := 48) (tgt := 80) C.1 C.2.1 dX11_figure_32 (by rw [c_8]; decide) (by rw [c_8]; decide) (by rw [c_8]; rfl) (by decide) ?_
          refine lv_aload_n C.1 C.2.1 dX11_figure_80 rfl (lv_at hl 0 rfl) ?_
          refine gf_X11_215 C hW k_r_7 dX11_figure_81 ?_
          exact x_iret C rfl rfl hW hZ hkm hE dX11_figure_84
        have hE := br_n hE c_8
        by_cases c_9 : x2 = (1 : Int32)
        · have hE := br_p hE c_9
          refine lv_tableIn (off := 53) (tgt := 85) C.1 C.2.1 dX11_figure_32 (by rw [c_9]; decide) (by rw [c_9]; decide) (by rw [c_9]; rfl) (by decide) ?_
          refine lv_aload_n C.1 C.2.1 dX11_figure_85 rfl (lv_at hl 0 rfl) ?_
          refine gf_X11_218 C hW k_r_7 dX11_figure_86 ?_
          exact x_iret C rfl rfl hW hZ hkm hE dX11_figure_89
        have hE := br_n hE c_9
        by_cases c_12 : x2 = (2 : Int32)
        · have hE := br_p hE c_12
          refine lv_tableIn (off := 58) (tgt := 90) C.1 C.2.1 dX11_figure_32 (by rw [c_12]; decide) (by rw [c_12]; decide) (by rw [c_12]; rfl) (by decide) ?_
          refine lv_aload_n C.1 C.2.1 dX11_figure_90 rfl (lv_at hl 0 rfl) ?_
          obtain ⟨r_10, er_10, hE⟩ := cl_e hE
          refine gf_X11_221 C hW k_r_7 er_10 dX11_figure_91 (fun k_r_10 => ?_)
          refine lv_iconst (v := (0 : Int32)) C.1 C.2.1 dX11_figure_94 (by decide) ?_
          obtain ⟨g_11, hE⟩ := gd_e hE
          refine y_iald C hW k_r_10 g_11 dX11_figure_95 ?_
          exact x_iret C rfl rfl hW hZ hkm hE dX11_figure_96
        have hE := br_n hE c_12
        by_cases c_15 : x2 = (3 : Int32)
        · have hE := br_p hE c_15
          refine lv_tableIn (off := 65) (tgt := 97) C.1 C.2.1 dX11_figure_32 (by rw [c_15]; decide) (by rw [c_15]; decide) (by rw [c_15]; rfl) (by decide) ?_
          refine lv_aload_n C.1 C.2.1 dX11_figure_97 rfl (lv_at hl 0 rfl) ?_
          obtain ⟨r_13, er_13, hE⟩ := cl_e hE
          refine gf_X11_221 C hW k_r_7 er_13 dX11_figure_98 (fun k_r_13 => ?_)
          refine lv_iconst (v := (1 : Int32)) C.1 C.2.1 dX11_figure_101 (by decide) ?_
          obtain ⟨g_14, hE⟩ := gd_e hE
          refine y_iald C hW k_r_13 g_14 dX11_figure_102 ?_
          exact x_iret C rfl rfl hW hZ hkm hE dX11_figure_103
        have hE := br_n hE c_15
        by_cases c_17 : x2 = (4 : Int32)
        · have hE := br_p hE c_17
          refine lv_tableIn (off := 72) (tgt := 104) C.1 C.2.1 dX11_figure_32 (by rw [c_17]; decide) (by rw [c_17]; decide) (by rw [c_17]; rfl) (by decide) ?_
          refine lv_aload_n C.1 C.2.1 dX11_figure_104 rfl (lv_at hl 0 rfl) ?_
          refine gf_X11_224 C hW k_r_7 dX11_figure_105 ?_
          obtain ⟨o_16, eo_16, hE⟩ := cl_e hE
          refine x_kI (o := o_16) (z_runS (As := [.long (hJ o_3.2 r_7 8)]) (rest := []) C (ct_J13_bitCount_95d88 l X eo_16) cw_X11_228 hW hZ rfl hl.1 (Nat.le_of_ble_eq_true rfl) rfl dX11_figure_108 ⟨Nat.le_of_ble_eq_true rfl, Nat.le_of_ble_eq_true rfl⟩ ⟨Nat.le_refl _, Nat.le_refl _⟩) hZ (fun _ _ hW km hZ => ?_)
          replace hkm := hkm.tr km
          replace k_r_7 := km.at k_r_7 (by decide)
          replace k_x0 := km.at k_x0 (by decide)
          exact x_iret C rfl rfl hW hZ hkm hE dX11_figure_111
        have hE := br_n hE c_17
        by_cases c_20 : x2 = (5 : Int32)
        · have hE := br_p hE c_20
          refine lv_tableIn (off := 80) (tgt := 112) C.1 C.2.1 dX11_figure_32 (by rw [c_20]; decide) (by rw [c_20]; decide) (by rw [c_20]; rfl) (by decide) ?_
          refine lv_aload_n C.1 C.2.1 dX11_figure_112 rfl (lv_at hl 0 rfl) ?_
          refine gf_X11_234 C hW k_r_7 dX11_figure_113 ?_
          refine lv_lconst (v := (0 : Int64)) C.1 C.2.1 dX11_figure_116 (by decide) ?_
          refine W.lcmp C.1 C.2.1 dX11_figure_117 ?_
          refine lv_if_ne (tgt := 125) C.1 C.2.1 dX11_figure_118 (by decide) (fun c_18 => ?_) (fun c_18 => ?_)
          · have hE := br_n hE c_18
            refine lv_aload_n C.1 C.2.1 dX11_figure_125 rfl (lv_at hl 0 rfl) ?_
            refine lv_iconst (v := (0 : Int32)) C.1 C.2.1 dX11_figure_126 (by decide) ?_
            obtain ⟨o_19, eo_19, hE⟩ := cl_e hE
            refine x_kI (o := o_19) (z_runV (As := [.int (0 : Int32)]) (rest := []) C (ct_X3_passSquare l X k_r_7 eo_19) cw_X11_237 hW hZ k_r_7 (by decide) rfl rfl rfl hl.1 (Nat.le_of_ble_eq_true rfl) rfl dX11_figure_127 ⟨Nat.le_of_ble_eq_true rfl, Nat.le_of_ble_eq_true rfl⟩ ⟨Nat.le_refl _, Nat.le_refl _⟩) hZ (fun _ _ hW km hZ => ?_)
            replace hkm := hkm.tr km
            replace k_r_7 := km.at k_r_7 (by decide)
            replace k_x0 := km.at k_x0 (by decide)
            exact bX11_figure_130 C hkm hW hZ _ (lv_sub hl [] rfl) hE
          · have hE := br_p hE c_18
            refine lv_iconst (v := (-1 : Int32)) C.1 C.2.1 dX11_figure_121 (by decide) ?_
            refine lv_goto (tgt := 130) C.1 C.2.1 dX11_figure_122 (by decide) ?_
            exact bX11_figure_130 C hkm hW hZ _ (lv_sub hl [] rfl) hE
        have hE := br_n hE c_20
        by_cases c_22 : x2 = (6 : Int32)
        · have hE := br_p hE c_22
          refine lv_tableIn (off := 99) (tgt := 131) C.1 C.2.1 dX11_figure_32 (by rw [c_22]; decide) (by rw [c_22]; decide) (by rw [c_22]; rfl) (by decide) ?_
          refine lv_aload_n C.1 C.2.1 dX11_figure_131 rfl (lv_at hl 0 rfl) ?_
          refine lv_iconst (v := (0 : Int32)) C.1 C.2.1 dX11_figure_132 (by decide) ?_
          obtain ⟨o_21, eo_21, hE⟩ := cl_e hE
          refine x_kI (o := o_21) (z_runV (As := [.int (0 : Int32)]) (rest := []) C (ct_X3_handSize l X F k_r_7 eo_21) cw_X11_240 hW hZ k_r_7 (by decide) rfl rfl rfl hl.1 (Nat.le_of_ble_eq_true rfl) rfl dX11_figure_133 ⟨Nat.le_of_ble_eq_true rfl, Nat.le_of_ble_eq_true rfl⟩ ⟨Nat.le_refl _, Nat.le_refl _⟩) hZ (fun _ _ hW km hZ => ?_)
          replace hkm := hkm.tr km
          replace k_r_7 := km.at k_r_7 (by decide)
          replace k_x0 := km.at k_x0 (by decide)
          exact x_iret C rfl rfl hW hZ hkm hE dX11_figure_136
        have hE := br_n hE c_22
        by_cases c_24 : x2 = (7 : Int32)
        · have hE := br_p hE c_24
          refine lv_tableIn (off := 105) (tgt := 137) C.1 C.2.1 dX11_figure_32 (by rw [c_24]; decide) (by rw [c_24]; decide) (by rw [c_24]; rfl) (by decide) ?_
          refine lv_aload_n C.1 C.2.1 dX11_figure_137 rfl (lv_at hl 0 rfl) ?_
          refine lv_iconst (v := (1 : Int32)) C.1 C.2.1 dX11_figure_138 (by decide) ?_
          obtain ⟨o_23, eo_23, hE⟩ := cl_e hE
          refine x_kI (o := o_23) (z_runV (As := [.int (1 : Int32)]) (rest := []) C (ct_X3_handSize l X F k_r_7 eo_23) cw_X11_240 hW hZ k_r_7 (by decide) rfl rfl rfl hl.1 (Nat.le_of_ble_eq_true rfl) rfl dX11_figure_139 ⟨Nat.le_of_ble_eq_true rfl, Nat.le_of_ble_eq_true rfl⟩ ⟨Nat.le_refl _, Nat.le_refl _⟩) hZ (fun _ _ hW km hZ => ?_)
          replace hkm := hkm.tr km
          replace k_r_7 := km.at k_r_7 (by decide)
          replace k_x0 := km.at k_x0 (by decide)
          exact x_iret C rfl rfl hW hZ hkm hE dX11_figure_142
        have hE := br_n hE c_24
        refine lv_tableOut (tgt := 143) C.1 C.2.1 dX11_figure_32 (by have zc_8 := lv_neT (a := 0) c_8 (by decide); have zc_9 := lv_neT (a := 1) c_9 (by decide); have zc_12 := lv_neT (a := 2) c_12 (by decide); have zc_15 := lv_neT (a := 3) c_15 (by decide); have zc_17 := lv_neT (a := 4) c_17 (by decide); have zc_20 := lv_neT (a := 5) c_20 (by decide); have zc_22 := lv_neT (a := 6) c_22 (by decide); have zc_24 := lv_neT (a := 7) c_24 (by decide); omega) (by decide) ?_
        refine lv_aload_n C.1 C.2.1 dX11_figure_143 rfl (lv_at hl 0 rfl) ?_
        obtain ⟨o_25, eo_25, hE⟩ := cl_e hE
        refine x_kJ (o := o_25) (z_runV (As := []) (rest := []) C (ct_X3_occupied l X k_r_7 eo_25) cw_X11_243 hW hZ k_r_7 (by decide) rfl rfl rfl hl.1 (Nat.le_of_ble_eq_true rfl) rfl dX11_figure_144 ⟨Nat.le_of_ble_eq_true rfl, Nat.le_of_ble_eq_true rfl⟩ ⟨Nat.le_refl _, Nat.le_refl _⟩) hZ (fun _ _ hW km hZ => ?_)
        replace hkm := hkm.tr km
        replace k_r_7 := km.at k_r_7 (by decide)
        replace k_x0 := km.at k_x0 (by decide)
        obtain ⟨o_26, eo_26, hE⟩ := cl_e hE
        refine x_kI (o := o_26) (z_runS (As := [.long o_25.1]) (rest := []) C (ct_J13_bitCount_95d88 l X eo_26) cw_X11_228 hW hZ rfl hl.1 (Nat.le_of_ble_eq_true rfl) rfl dX11_figure_147 ⟨Nat.le_of_ble_eq_true rfl, Nat.le_of_ble_eq_true rfl⟩ ⟨Nat.le_refl _, Nat.le_refl _⟩) hZ (fun _ _ hW km hZ => ?_)
        replace hkm := hkm.tr km
        replace k_r_7 := km.at k_r_7 (by decide)
        replace k_x0 := km.at k_x0 (by decide)
        exact x_iret C rfl rfl hW hZ hkm hE dX11_figure_150
      · have hE := br_p hE c_4
        refine lv_bipush (v := (-102 : Int32)) C.1 C.2.1 dX11_figure_21 (by decide) ?_
        exact x_iret C rfl rfl hW hZ hkm hE dX11_figure_23
    · have hE := br_n hE c_2
      exact bX11_figure_10 C hkm hW hZ _ (lv_sub hl [] rfl) hE
theorem dX11_isSide_0 : decode cX11_isSide 0 = .ok (.iload_n 0, 1) := by decide +kernel
theorem dX11_isSide_1 : decode cX11_isSide 1 = .ok (.ifCond .eq 8, 3) := by decide +kernel
theorem dX11_isSide_4 : decode cX11_isSide 4 = .ok (.iload_n 0, 1) := by decide +kernel
theorem dX11_isSide_5 : decode cX11_isSide 5 = .ok (.iconst 1, 1) := by decide +kernel
theorem dX11_isSide_6 : decode cX11_isSide 6 = .ok (.if_icmp .ne 7, 3) := by decide +kernel
theorem dX11_isSide_9 : decode cX11_isSide 9 = .ok (.iconst 1, 1) := by decide +kernel
theorem dX11_isSide_10 : decode cX11_isSide 10 = .ok (.goto 4, 3) := by decide +kernel
theorem dX11_isSide_13 : decode cX11_isSide 13 = .ok (.iconst 0, 1) := by decide +kernel
theorem dX11_isSide_14 : decode cX11_isSide 14 = .ok (.ireturn, 1) := by decide +kernel
set_option maxRecDepth 20000 in
theorem moX11_isSide_14 {o : Int32 × Hp} {h : Hp} {t0 : Int32} (hE : sX11_isSide_14 h  t0 = some o) : Le h o.2 := by
  obtain ⟨g_1, hE⟩ := gd_e hE
  exact le_some2 hE
set_option maxRecDepth 20000 in
theorem moX11_isSide_9 {o : Int32 × Hp} {h : Hp} (hE : sX11_isSide_9 h  = some o) : Le h o.2 := by
  exact moX11_isSide_14 hE
set_option maxRecDepth 20000 in
theorem moX11_isSide {o : Int32 × Hp} {h : Hp} {x0 : Int32} (hE : sX11_isSide h x0 = some o) : Le h o.2 := by
  rcases br_e hE with ⟨_, hE⟩ | ⟨_, hE⟩
  · exact moX11_isSide_9 hE
  · rcases br_e hE with ⟨_, hE⟩ | ⟨_, hE⟩
    · exact moX11_isSide_9 hE
    · exact moX11_isSide_14 hE
set_option maxRecDepth 20000 in
theorem bX11_isSide_14 {p : Program} {l : Launch} {e : Env} {s : State} {m : MethodId} {args : Array Value} {below : List Frame} {meth : Method} {c : Code} {X : Ec} {h0 : Hp} {o : Int32 × Hp} (C : Cx X p s m args meth c RX11 cX11_isSide 1 (some .boolean) "isSide") {h : Hp} {t0 : Int32} {H : Heap} {locs : List Loc} (hkm : Km h0 h) (hW : Wx X h H) (hZ : va_S (aA (eB X)) s.heap H locs) (ls : Array Slot) (hl : lv_has ls 1 []) (hE : sX11_isSide_14 h  t0 = some o) : W p l e (rm 0 0) s m args below meth c H locs 0 0 (MQ below (QI X h0 o.1 o.2) args s 0 0 (aA (eB X))) (F0 m 14 ls [.int t0]) := by
  obtain ⟨g_1, hE⟩ := gd_e hE
  exact x_iret C rfl (narB g_1) hW hZ hkm hE dX11_isSide_14
set_option maxRecDepth 20000 in
theorem bX11_isSide_9 {p : Program} {l : Launch} {e : Env} {s : State} {m : MethodId} {args : Array Value} {below : List Frame} {meth : Method} {c : Code} {X : Ec} {h0 : Hp} {o : Int32 × Hp} (C : Cx X p s m args meth c RX11 cX11_isSide 1 (some .boolean) "isSide") {h : Hp} {H : Heap} {locs : List Loc} (hkm : Km h0 h) (hW : Wx X h H) (hZ : va_S (aA (eB X)) s.heap H locs) (ls : Array Slot) (hl : lv_has ls 1 []) (hE : sX11_isSide_9 h  = some o) : W p l e (rm 0 0) s m args below meth c H locs 0 0 (MQ below (QI X h0 o.1 o.2) args s 0 0 (aA (eB X))) (F0 m 9 ls []) := by
  refine lv_iconst (v := (1 : Int32)) C.1 C.2.1 dX11_isSide_9 (by decide) ?_
  refine lv_goto (tgt := 14) C.1 C.2.1 dX11_isSide_10 (by decide) ?_
  exact bX11_isSide_14 C hkm hW hZ _ (lv_sub hl [] rfl) hE
set_option maxRecDepth 20000 in
theorem ct_X11_isSide (l : Launch) (X : Ec) {h : Hp} {x0 : Int32} {o : Int32 × Hp} (hE : sX11_isSide h x0 = some o) : MetI l yX11_isSide cX11_isSide 1 (some .boolean) 0 0 X [.int x0] h o := by
  refine x_met (by decide) (Nat.le_of_ble_eq_true rfl) ?_
  intro p e s m below meth c ls C hl hW hZ
  have hl : lv_has ls 1 [(0, .int x0)] := hl
  have hkm : Km h h := Km.rf h
  refine lv_iload_n C.1 C.2.1 dX11_isSide_0 rfl (lv_at hl 0 rfl) ?_
  refine lv_if_eq (tgt := 9) C.1 C.2.1 dX11_isSide_1 (by decide) (fun c_1 => ?_) (fun c_1 => ?_)
  · have hE := br_p hE c_1
    exact bX11_isSide_9 C hkm hW hZ _ (lv_sub hl [] rfl) hE
  · have hE := br_n hE c_1
    refine lv_iload_n C.1 C.2.1 dX11_isSide_4 rfl (lv_at hl 0 rfl) ?_
    refine lv_iconst (v := (1 : Int32)) C.1 C.2.1 dX11_isSide_5 (by decide) ?_
    refine lv_icmp_ne (tgt := 13) C.1 C.2.1 dX11_isSide_6 (by decide) (fun c_2 => ?_) (fun c_2 => ?_)
    · have hE := br_n hE c_2
      refine lv_iconst (v := (0 : Int32)) C.1 C.2.1 dX11_isSide_13 (by decide) ?_
      exact bX11_isSide_14 C hkm hW hZ _ (lv_sub hl [] rfl) hE
    · have hE := br_p hE c_2
      exact bX11_isSide_9 C hkm hW hZ _ (lv_sub hl [] rfl) hE
set_option maxRecDepth 100000 in
theorem m_1289 : Cond.methodLink RX11 247 yX11_isSide ∈ W0 := w0_in (List.mem_append_right _ (List.mem_of_getElem? (i := 1289) rfl)) rfl
set_option maxRecDepth 100000 in
theorem m_1290 : Cond.static yX11_isSide ∈ W0 := w0_in (List.mem_append_right _ (List.mem_of_getElem? (i := 1290) rfl)) rfl
set_option maxRecDepth 100000 in
theorem m_1291 : Cond.code yX11_isSide cX11_isSide 1 (some .boolean) ∈ W0 := w0_in (List.mem_append_right _ (List.mem_of_getElem? (i := 1291) rfl)) rfl
set_option maxRecDepth 100000 in
theorem m_1292 : Cond.methodLink RX11 250 yX5_isHit ∈ W0 := w0_in (List.mem_append_right _ (List.mem_of_getElem? (i := 1292) rfl)) rfl
theorem cw_X11_247 : cwd RX11 247 yX11_isSide cX11_isSide 1 (some .boolean) true 1 := ⟨m_1291, m_1289, m_1, m_1290, by decide, by decide, by decide +kernel⟩
theorem cw_X11_250 : cwd RX11 250 yX5_isHit cX5_isHit 19 (some .boolean) false 3 := ⟨m_1073, m_1292, m_7, ⟨m_1071, m_1072⟩, by decide, by decide, by decide +kernel⟩
theorem dX11_attacked_0 : decode cX11_attacked 0 = .ok (.aload_n 0, 1) := by decide +kernel
theorem dX11_attacked_1 : decode cX11_attacked 1 = .ok (.iload_n 2, 1) := by decide +kernel
theorem dX11_attacked_2 : decode cX11_attacked 2 = .ok (.invokevirtual 208, 3) := by decide +kernel
theorem dX11_attacked_5 : decode cX11_attacked 5 = .ok (.ifCond .eq 10, 3) := by decide +kernel
theorem dX11_attacked_8 : decode cX11_attacked 8 = .ok (.iload_n 3, 1) := by decide +kernel
theorem dX11_attacked_9 : decode cX11_attacked 9 = .ok (.invokestatic 247, 3) := by decide +kernel
theorem dX11_attacked_12 : decode cX11_attacked 12 = .ok (.ifCond .ne 6, 3) := by decide +kernel
theorem dX11_attacked_15 : decode cX11_attacked 15 = .ok (.bipush (-101), 2) := by decide +kernel
theorem dX11_attacked_17 : decode cX11_attacked 17 = .ok (.ireturn, 1) := by decide +kernel
theorem dX11_attacked_18 : decode cX11_attacked 18 = .ok (.aload_n 0, 1) := by decide +kernel
theorem dX11_attacked_19 : decode cX11_attacked 19 = .ok (.iload_n 1, 1) := by decide +kernel
theorem dX11_attacked_20 : decode cX11_attacked 20 = .ok (.invokevirtual 193, 3) := by decide +kernel
theorem dX11_attacked_23 : decode cX11_attacked 23 = .ok (.ifCond .ne 6, 3) := by decide +kernel
theorem dX11_attacked_26 : decode cX11_attacked 26 = .ok (.bipush (-102), 2) := by decide +kernel
theorem dX11_attacked_28 : decode cX11_attacked 28 = .ok (.ireturn, 1) := by decide +kernel
theorem dX11_attacked_29 : decode cX11_attacked 29 = .ok (.aload_n 0, 1) := by decide +kernel
theorem dX11_attacked_30 : decode cX11_attacked 30 = .ok (.getfield 50, 3) := by decide +kernel
theorem dX11_attacked_33 : decode cX11_attacked 33 = .ok (.aload_n 0, 1) := by decide +kernel
theorem dX11_attacked_34 : decode cX11_attacked 34 = .ok (.getfield 103, 3) := by decide +kernel
theorem dX11_attacked_37 : decode cX11_attacked 37 = .ok (.iload_n 1, 1) := by decide +kernel
theorem dX11_attacked_38 : decode cX11_attacked 38 = .ok (.aaload, 1) := by decide +kernel
theorem dX11_attacked_39 : decode cX11_attacked 39 = .ok (.iload_n 2, 1) := by decide +kernel
theorem dX11_attacked_40 : decode cX11_attacked 40 = .ok (.iload_n 3, 1) := by decide +kernel
theorem dX11_attacked_41 : decode cX11_attacked 41 = .ok (.invokevirtual 250, 3) := by decide +kernel
theorem dX11_attacked_44 : decode cX11_attacked 44 = .ok (.ifCond .eq 7, 3) := by decide +kernel
theorem dX11_attacked_47 : decode cX11_attacked 47 = .ok (.iconst 1, 1) := by decide +kernel
theorem dX11_attacked_48 : decode cX11_attacked 48 = .ok (.goto 4, 3) := by decide +kernel
theorem dX11_attacked_51 : decode cX11_attacked 51 = .ok (.iconst 0, 1) := by decide +kernel
theorem dX11_attacked_52 : decode cX11_attacked 52 = .ok (.ireturn, 1) := by decide +kernel
set_option maxRecDepth 20000 in
theorem moX11_attacked_15 {o : Int32 × Hp} {F : Nat} {h : Hp} (hE : sX11_attacked_15 F h  = some o) : Le h o.2 := by
  exact le_some2 hE
set_option maxRecDepth 20000 in
theorem moX11_attacked_52 {o : Int32 × Hp} {F : Nat} {h : Hp} {t0 : Int32} (hE : sX11_attacked_52 F h  t0 = some o) : Le h o.2 := by
  exact le_some2 hE
set_option maxRecDepth 20000 in
theorem moX11_attacked {o : Int32 × Hp} {F : Nat} {h : Hp} {x0 : Nat} {x1 : Int32} {x2 : Int32} {x3 : Int32} (hE : sX11_attacked F h x0 x1 x2 x3 = some o) : Le h o.2 := by
  obtain ⟨o_1, eo_1, hE⟩ := cl_e hE
  refine (moX11_isSquare eo_1).tr ?_
  rcases br_e hE with ⟨_, hE⟩ | ⟨_, hE⟩
  · exact moX11_attacked_15 hE
  · obtain ⟨o_3, eo_3, hE⟩ := cl_e hE
    refine (moX11_isSide eo_3).tr ?_
    rcases br_e hE with ⟨_, hE⟩ | ⟨_, hE⟩
    · exact moX11_attacked_15 hE
    · obtain ⟨o_5, eo_5, hE⟩ := cl_e hE
      refine (moX11_isPlace eo_5).tr ?_
      rcases br_e hE with ⟨_, hE⟩ | ⟨_, hE⟩
      · exact le_some2 hE
      · obtain ⟨r_7, er_7, hE⟩ := cl_e hE
        obtain ⟨r_8, er_8, hE⟩ := cl_e hE
        obtain ⟨g_9, hE⟩ := gd_e hE
        obtain ⟨r_10, er_10, hE⟩ := cl_e hE
        obtain ⟨o_11, eo_11, hE⟩ := cl_e hE
        refine (moX5_isHit eo_11).tr ?_
        rcases br_e hE with ⟨_, hE⟩ | ⟨_, hE⟩
        · exact moX11_attacked_52 hE
        · exact moX11_attacked_52 hE
set_option maxRecDepth 20000 in
theorem bX11_attacked_15 {p : Program} {l : Launch} {e : Env} {s : State} {m : MethodId} {args : Array Value} {below : List Frame} {meth : Method} {c : Code} {X : Ec} {h0 : Hp} {o : Int32 × Hp} {F : Nat} (C : Cx X p s m args meth c RX11 cX11_attacked 4 (some .int) "attacked") {h : Hp} {H : Heap} {locs : List Loc} (hkm : Km h0 h) (hW : Wx X h H) (hZ : va_S (aA (eB X)) s.heap H locs) (ls : Array Slot) (hl : lv_has ls 4 []) (hE : sX11_attacked_15 F h  = some o) : W p l e (rm 1 38) s m args below meth c H locs 0 0 (MQ below (QI X h0 o.1 o.2) args s 0 0 (aA (eB X))) (F0 m 15 ls []) := by
  refine lv_bipush (v := (-101 : Int32)) C.1 C.2.1 dX11_attacked_15 (by decide) ?_
  exact x_iret C rfl rfl hW hZ hkm hE dX11_attacked_17
set_option maxRecDepth 20000 in
theorem bX11_attacked_52 {p : Program} {l : Launch} {e : Env} {s : State} {m : MethodId} {args : Array Value} {below : List Frame} {meth : Method} {c : Code} {X : Ec} {h0 : Hp} {o : Int32 × Hp} {F : Nat} (C : Cx X p s m args meth c RX11 cX11_attacked 4 (some .int) "attacked") {h : Hp} {t0 : Int32} {H : Heap} {locs : List Loc} (hkm : Km h0 h) (hW : Wx X h H) (hZ : va_S (aA (eB X)) s.heap H locs) (ls : Array Slot) (hl : lv_has ls 4 []) (hE : sX11_attacked_52 F h  t0 = some o) : W p l e (rm 1 38) s m args below meth c H locs 0 0 (MQ below (QI X h0 o.1 o.2) args s 0 0 (aA (eB X))) (F0 m 52 ls [.int t0]) := by
  exact x_iret C rfl rfl hW hZ hkm hE dX11_attacked_52
set_option maxRecDepth 20000 in
theorem ct_X11_attacked (l : Launch) (X : Ec) (F : Nat) {h : Hp} {x0 : Nat} {x1 : Int32} {x2 : Int32} {x3 : Int32} {o : Int32 × Hp} (k_x0 : hK h x0 = 11) (hE : sX11_attacked F h x0 x1 x2 x3 = some o) : MetI l yX11_attacked cX11_attacked 4 (some .int) 1 38 X [.ref x0, .int x1, .int x2, .int x3] h o := by
  refine x_met (by decide) (Nat.le_of_ble_eq_true rfl) ?_
  intro p e s m below meth c ls C hl hW hZ
  have hl : lv_has ls 4 [(0, .ref x0), (1, .int x1), (2, .int x2), (3, .int x3)] := hl
  have hkm : Km h h := Km.rf h
  refine lv_aload_n C.1 C.2.1 dX11_attacked_0 rfl (lv_at hl 0 rfl) ?_
  refine lv_iload_n C.1 C.2.1 dX11_attacked_1 rfl (lv_at hl 2 rfl) ?_
  obtain ⟨o_1, eo_1, hE⟩ := cl_e hE
  refine x_kI (o := o_1) (z_runV (As := [.int x2]) (rest := []) C (ct_X11_isSquare l X k_x0 eo_1) cw_X11_208 hW hZ k_x0 (by decide) rfl rfl rfl hl.1 (Nat.le_of_ble_eq_true rfl) rfl dX11_attacked_2 ⟨Nat.le_of_ble_eq_true rfl, Nat.le_of_ble_eq_true rfl⟩ ⟨Nat.le_refl _, Nat.le_refl _⟩) hZ (fun _ _ hW km hZ => ?_)
  replace hkm := hkm.tr km
  replace k_x0 := km.at k_x0 (by decide)
  refine lv_if_eq (tgt := 15) C.1 C.2.1 dX11_attacked_5 (by decide) (fun c_2 => ?_) (fun c_2 => ?_)
  · have hE := br_p hE c_2
    exact bX11_attacked_15 C hkm hW hZ _ (lv_sub hl [] rfl) hE
  · have hE := br_n hE c_2
    refine lv_iload_n C.1 C.2.1 dX11_attacked_8 rfl (lv_at hl 3 rfl) ?_
    obtain ⟨o_3, eo_3, hE⟩ := cl_e hE
    refine x_kI (o := o_3) (z_runS (As := [.int x3]) (rest := []) C (ct_X11_isSide l X eo_3) cw_X11_247 hW hZ rfl hl.1 (Nat.le_of_ble_eq_true rfl) rfl dX11_attacked_9 ⟨Nat.le_of_ble_eq_true rfl, Nat.le_of_ble_eq_true rfl⟩ ⟨Nat.le_refl _, Nat.le_refl _⟩) hZ (fun _ _ hW km hZ => ?_)
    replace hkm := hkm.tr km
    replace k_x0 := km.at k_x0 (by decide)
    refine lv_if_ne (tgt := 18) C.1 C.2.1 dX11_attacked_12 (by decide) (fun c_4 => ?_) (fun c_4 => ?_)
    · have hE := br_n hE c_4
      refine lv_aload_n C.1 C.2.1 dX11_attacked_18 rfl (lv_at hl 0 rfl) ?_
      refine lv_iload_n C.1 C.2.1 dX11_attacked_19 rfl (lv_at hl 1 rfl) ?_
      obtain ⟨o_5, eo_5, hE⟩ := cl_e hE
      refine x_kI (o := o_5) (z_runV (As := [.int x1]) (rest := []) C (ct_X11_isPlace l X k_x0 eo_5) cw_X11_193 hW hZ k_x0 (by decide) rfl rfl rfl hl.1 (Nat.le_of_ble_eq_true rfl) rfl dX11_attacked_20 ⟨Nat.le_of_ble_eq_true rfl, Nat.le_of_ble_eq_true rfl⟩ ⟨Nat.le_refl _, Nat.le_refl _⟩) hZ (fun _ _ hW km hZ => ?_)
      replace hkm := hkm.tr km
      replace k_x0 := km.at k_x0 (by decide)
      refine lv_if_ne (tgt := 29) C.1 C.2.1 dX11_attacked_23 (by decide) (fun c_6 => ?_) (fun c_6 => ?_)
      · have hE := br_n hE c_6
        refine lv_aload_n C.1 C.2.1 dX11_attacked_29 rfl (lv_at hl 0 rfl) ?_
        obtain ⟨r_7, er_7, hE⟩ := cl_e hE
        refine gf_X11_50 C hW k_x0 er_7 dX11_attacked_30 (fun k_r_7 => ?_)
        refine lv_aload_n C.1 C.2.1 dX11_attacked_33 rfl (lv_at hl 0 rfl) ?_
        obtain ⟨r_8, er_8, hE⟩ := cl_e hE
        refine gf_X11_103 C hW k_x0 er_8 dX11_attacked_34 (fun k_r_8 => ?_)
        refine lv_iload_n C.1 C.2.1 dX11_attacked_37 rfl (lv_at hl 1 rfl) ?_
        obtain ⟨g_9, hE⟩ := gd_e hE
        obtain ⟨r_10, er_10, hE⟩ := cl_e hE
        refine y_aald (t0 := 4) C hW k_r_8 (by decide) (by decide) rfl rfl rfl (fun _ => rfl) g_9 er_10 dX11_attacked_38 (fun k_r_10 => ?_)
        refine lv_iload_n C.1 C.2.1 dX11_attacked_39 rfl (lv_at hl 2 rfl) ?_
        refine lv_iload_n C.1 C.2.1 dX11_attacked_40 rfl (lv_at hl 3 rfl) ?_
        obtain ⟨o_11, eo_11, hE⟩ := cl_e hE
        refine x_kI (o := o_11) (z_runV (As := [.ref r_10, .int x2, .int x3]) (rest := []) C (ct_X5_isHit l X F k_r_7 k_r_10 eo_11) cw_X11_250 hW hZ k_r_7 (by decide) rfl rfl rfl hl.1 (Nat.le_of_ble_eq_true rfl) rfl dX11_attacked_41 ⟨Nat.le_of_ble_eq_true rfl, Nat.le_of_ble_eq_true rfl⟩ ⟨Nat.le_refl _, Nat.le_refl _⟩) hZ (fun _ _ hW km hZ => ?_)
        replace hkm := hkm.tr km
        replace k_x0 := km.at k_x0 (by decide)
        refine lv_if_eq (tgt := 51) C.1 C.2.1 dX11_attacked_44 (by decide) (fun c_12 => ?_) (fun c_12 => ?_)
        · have hE := br_p hE c_12
          refine lv_iconst (v := (0 : Int32)) C.1 C.2.1 dX11_attacked_51 (by decide) ?_
          exact bX11_attacked_52 C hkm hW hZ _ (lv_sub hl [] rfl) hE
        · have hE := br_n hE c_12
          refine lv_iconst (v := (1 : Int32)) C.1 C.2.1 dX11_attacked_47 (by decide) ?_
          refine lv_goto (tgt := 52) C.1 C.2.1 dX11_attacked_48 (by decide) ?_
          exact bX11_attacked_52 C hkm hW hZ _ (lv_sub hl [] rfl) hE
      · have hE := br_p hE c_6
        refine lv_bipush (v := (-102 : Int32)) C.1 C.2.1 dX11_attacked_26 (by decide) ?_
        exact x_iret C rfl rfl hW hZ hkm hE dX11_attacked_28
    · have hE := br_p hE c_4
      exact bX11_attacked_15 C hkm hW hZ _ (lv_sub hl [] rfl) hE
set_option maxRecDepth 100000 in
theorem m_1301 : Cond.methodLink RX11 329 yX5_collect ∈ W0 := w0_in (List.mem_append_right _ (List.mem_of_getElem? (i := 1301) rfl)) rfl
section
variable {p : Program} {l : Launch} {e : Env} {R : Room} {s : State} {m : MethodId} {args : Array Value} {below : List Frame} {meth : Method} {c : Code} {H : Heap} {locs : List Loc} {cells slots : Nat} {Q : State → Prop}
variable {cc : ByteArray} {pc : Nat} {ls : Array Slot} {rest : List Value} {X : Ec} {h h1 : Hp} {nL : Nat} {rt : Option FieldType} {mn : String}
theorem gf_X11_97 {a r : Nat} (C : Cx X p s m args meth c RX11 cc nL rt mn) (hW : Wx X h H) (ha : hK h a = 11) (hr : hR h a 12 = some r) (hdg : decode cc pc = .ok (.getfield 97, 3)) (kk : hK h r = 17 → W p l e R s m args below meth c H locs cells slots Q (F0 m (pc + 3) ls (.ref r :: rest))) : W p l e R s m args below meth c H locs cells slots Q (F0 m pc ls (.ref a :: rest)) :=
  y_getr C hW ha i_X11 (by decide) rfl (by decide) m_841 rfl rfl hr hdg kk
end
theorem cw_X11_329 : cwd RX11 329 yX5_collect cX5_collect 9 (some .int) false 3 := ⟨m_1140, m_1301, m_7, ⟨m_1138, m_1139⟩, by decide, by decide, by decide +kernel⟩
theorem dX11_listMoves_0 : decode cX11_listMoves 0 = .ok (.aload_n 0, 1) := by decide +kernel
theorem dX11_listMoves_1 : decode cX11_listMoves 1 = .ok (.iload_n 1, 1) := by decide +kernel
theorem dX11_listMoves_2 : decode cX11_listMoves 2 = .ok (.invokevirtual 193, 3) := by decide +kernel
theorem dX11_listMoves_5 : decode cX11_listMoves 5 = .ok (.ifCond .eq 26, 3) := by decide +kernel
theorem dX11_listMoves_8 : decode cX11_listMoves 8 = .ok (.aload_n 0, 1) := by decide +kernel
theorem dX11_listMoves_9 : decode cX11_listMoves 9 = .ok (.getfield 50, 3) := by decide +kernel
theorem dX11_listMoves_12 : decode cX11_listMoves 12 = .ok (.aload_n 0, 1) := by decide +kernel
theorem dX11_listMoves_13 : decode cX11_listMoves 13 = .ok (.getfield 103, 3) := by decide +kernel
theorem dX11_listMoves_16 : decode cX11_listMoves 16 = .ok (.iload_n 1, 1) := by decide +kernel
theorem dX11_listMoves_17 : decode cX11_listMoves 17 = .ok (.aaload, 1) := by decide +kernel
theorem dX11_listMoves_18 : decode cX11_listMoves 18 = .ok (.aload_n 0, 1) := by decide +kernel
theorem dX11_listMoves_19 : decode cX11_listMoves 19 = .ok (.getfield 97, 3) := by decide +kernel
theorem dX11_listMoves_22 : decode cX11_listMoves 22 = .ok (.sipush 4096, 3) := by decide +kernel
theorem dX11_listMoves_25 : decode cX11_listMoves 25 = .ok (.invokevirtual 329, 3) := by decide +kernel
theorem dX11_listMoves_28 : decode cX11_listMoves 28 = .ok (.goto 4, 3) := by decide +kernel
theorem dX11_listMoves_31 : decode cX11_listMoves 31 = .ok (.iconst 0, 1) := by decide +kernel
theorem dX11_listMoves_32 : decode cX11_listMoves 32 = .ok (.ireturn, 1) := by decide +kernel
set_option maxRecDepth 20000 in
theorem moX11_listMoves_32 {o : Int32 × Hp} {F : Nat} {h : Hp} {t0 : Int32} (hE : sX11_listMoves_32 F h  t0 = some o) : Le h o.2 := by
  exact le_some2 hE
set_option maxRecDepth 20000 in
theorem moX11_listMoves {o : Int32 × Hp} {F : Nat} {h : Hp} {x0 : Nat} {x1 : Int32} (hE : sX11_listMoves F h x0 x1 = some o) : Le h o.2 := by
  obtain ⟨o_1, eo_1, hE⟩ := cl_e hE
  refine (moX11_isPlace eo_1).tr ?_
  rcases br_e hE with ⟨_, hE⟩ | ⟨_, hE⟩
  · exact moX11_listMoves_32 hE
  · obtain ⟨r_3, er_3, hE⟩ := cl_e hE
    obtain ⟨r_4, er_4, hE⟩ := cl_e hE
    obtain ⟨g_5, hE⟩ := gd_e hE
    obtain ⟨r_6, er_6, hE⟩ := cl_e hE
    obtain ⟨r_7, er_7, hE⟩ := cl_e hE
    obtain ⟨o_8, eo_8, hE⟩ := cl_e hE
    refine (moX5_collect eo_8).tr ?_
    exact moX11_listMoves_32 hE
set_option maxRecDepth 20000 in
theorem bX11_listMoves_32 {p : Program} {l : Launch} {e : Env} {s : State} {m : MethodId} {args : Array Value} {below : List Frame} {meth : Method} {c : Code} {X : Ec} {h0 : Hp} {o : Int32 × Hp} {F : Nat} (C : Cx X p s m args meth c RX11 cX11_listMoves 2 (some .int) "listMoves") {h : Hp} {t0 : Int32} {H : Heap} {locs : List Loc} (hkm : Km h0 h) (hW : Wx X h H) (hZ : va_S (aA (eB X)) s.heap H locs) (ls : Array Slot) (hl : lv_has ls 2 []) (hE : sX11_listMoves_32 F h  t0 = some o) : W p l e (rm 4 139) s m args below meth c H locs 0 0 (MQ below (QI X h0 o.1 o.2) args s 0 0 (aA (eB X))) (F0 m 32 ls [.int t0]) := by
  exact x_iret C rfl rfl hW hZ hkm hE dX11_listMoves_32
set_option maxRecDepth 20000 in
theorem ct_X11_listMoves (l : Launch) (X : Ec) (F : Nat) {h : Hp} {x0 : Nat} {x1 : Int32} {o : Int32 × Hp} (k_x0 : hK h x0 = 11) (hE : sX11_listMoves F h x0 x1 = some o) : MetI l yX11_listMoves cX11_listMoves 2 (some .int) 4 139 X [.ref x0, .int x1] h o := by
  refine x_met (by decide) (Nat.le_of_ble_eq_true rfl) ?_
  intro p e s m below meth c ls C hl hW hZ
  have hl : lv_has ls 2 [(0, .ref x0), (1, .int x1)] := hl
  have hkm : Km h h := Km.rf h
  refine lv_aload_n C.1 C.2.1 dX11_listMoves_0 rfl (lv_at hl 0 rfl) ?_
  refine lv_iload_n C.1 C.2.1 dX11_listMoves_1 rfl (lv_at hl 1 rfl) ?_
  obtain ⟨o_1, eo_1, hE⟩ := cl_e hE
  refine x_kI (o := o_1) (z_runV (As := [.int x1]) (rest := []) C (ct_X11_isPlace l X k_x0 eo_1) cw_X11_193 hW hZ k_x0 (by decide) rfl rfl rfl hl.1 (Nat.le_of_ble_eq_true rfl) rfl dX11_listMoves_2 ⟨Nat.le_of_ble_eq_true rfl, Nat.le_of_ble_eq_true rfl⟩ ⟨Nat.le_refl _, Nat.le_refl _⟩) hZ (fun _ _ hW km hZ => ?_)
  replace hkm := hkm.tr km
  replace k_x0 := km.at k_x0 (by decide)
  refine lv_if_eq (tgt := 31) C.1 C.2.1 dX11_listMoves_5 (by decide) (fun c_2 => ?_) (fun c_2 => ?_)
  · have hE := br_p hE c_2
    refine lv_iconst (v := (0 : Int32)) C.1 C.2.1 dX11_listMoves_31 (by decide) ?_
    exact bX11_listMoves_32 C hkm hW hZ _ (lv_sub hl [] rfl) hE
  · have hE := br_n hE c_2
    refine lv_aload_n C.1 C.2.1 dX11_listMoves_8 rfl (lv_at hl 0 rfl) ?_
    obtain ⟨r_3, er_3, hE⟩ := cl_e hE
    refine gf_X11_50 C hW k_x0 er_3 dX11_listMoves_9 (fun k_r_3 => ?_)
    refine lv_aload_n C.1 C.2.1 dX11_listMoves_12 rfl (lv_at hl 0 rfl) ?_
    obtain ⟨r_4, er_4, hE⟩ := cl_e hE
    refine gf_X11_103 C hW k_x0 er_4 dX11_listMoves_13 (fun k_r_4 => ?_)
    refine lv_iload_n C.1 C.2.1 dX11_listMoves_16 rfl (lv_at hl 1 rfl) ?_
    obtain ⟨g_5, hE⟩ := gd_e hE
    obtain ⟨r_6, er_6, hE⟩ := cl_e hE
    refine y_aald (t0 := 4) C hW k_r_4 (by decide) (by decide) rfl rfl rfl (fun _ => rfl) g_5 er_6 dX11_listMoves_17 (fun k_r_6 => ?_)
    refine lv_aload_n C.1 C.2.1 dX11_listMoves_18 rfl (lv_at hl 0 rfl) ?_
    obtain ⟨r_7, er_7, hE⟩ := cl_e hE
    refine gf_X11_97 C hW k_x0 er_7 dX11_listMoves_19 (fun k_r_7 => ?_)
    refine lv_sipush (v := (4096 : Int32)) C.1 C.2.1 dX11_listMoves_22 (by decide) ?_
    obtain ⟨o_8, eo_8, hE⟩ := cl_e hE
    refine x_kI (o := o_8) (z_runV (As := [.ref r_6, .ref r_7, .int (4096 : Int32)]) (rest := []) C (ct_X5_collect l X F k_r_3 k_r_6 k_r_7 eo_8) cw_X11_329 hW hZ k_r_3 (by decide) rfl rfl rfl hl.1 (Nat.le_of_ble_eq_true rfl) rfl dX11_listMoves_25 ⟨Nat.le_of_ble_eq_true rfl, Nat.le_of_ble_eq_true rfl⟩ ⟨Nat.le_refl _, Nat.le_refl _⟩) hZ (fun _ _ hW km hZ => ?_)
    replace hkm := hkm.tr km
    replace k_x0 := km.at k_x0 (by decide)
    refine lv_goto (tgt := 32) C.1 C.2.1 dX11_listMoves_28 (by decide) ?_
    exact bX11_listMoves_32 C hkm hW hZ _ (lv_sub hl [] rfl) hE
set_option maxRecDepth 100000 in
theorem ms_68 : Cond.selects RX11 yX11_listMoves yX11_listMoves ∈ W0 := w0_in (List.mem_append_left _ (List.mem_of_getElem? (i := 68) rfl)) rfl
set_option maxRecDepth 100000 in
theorem m_1297 : Cond.methodLink RX11 254 yX11_listMoves ∈ W0 := w0_in (List.mem_append_right _ (List.mem_of_getElem? (i := 1297) rfl)) rfl
set_option maxRecDepth 100000 in
theorem m_1299 : Cond.instanceMethod yX11_listMoves ∈ W0 := w0_in (List.mem_append_right _ (List.mem_of_getElem? (i := 1299) rfl)) rfl
set_option maxRecDepth 100000 in
theorem m_1300 : Cond.code yX11_listMoves cX11_listMoves 2 (some .int) ∈ W0 := w0_in (List.mem_append_right _ (List.mem_of_getElem? (i := 1300) rfl)) rfl
theorem cw_X11_254 : cwd RX11 254 yX11_listMoves cX11_listMoves 2 (some .int) false 1 := ⟨m_1300, m_1297, m_1, ⟨m_1299, ms_68⟩, by decide, by decide, by decide +kernel⟩
theorem dX11_moves_0 : decode cX11_moves 0 = .ok (.aload_n 0, 1) := by decide +kernel
theorem dX11_moves_1 : decode cX11_moves 1 = .ok (.iload_n 1, 1) := by decide +kernel
theorem dX11_moves_2 : decode cX11_moves 2 = .ok (.invokevirtual 193, 3) := by decide +kernel
theorem dX11_moves_5 : decode cX11_moves 5 = .ok (.ifCond .eq 11, 3) := by decide +kernel
theorem dX11_moves_8 : decode cX11_moves 8 = .ok (.aload_n 0, 1) := by decide +kernel
theorem dX11_moves_9 : decode cX11_moves 9 = .ok (.iload_n 1, 1) := by decide +kernel
theorem dX11_moves_10 : decode cX11_moves 10 = .ok (.invokevirtual 254, 3) := by decide +kernel
theorem dX11_moves_13 : decode cX11_moves 13 = .ok (.goto 5, 3) := by decide +kernel
theorem dX11_moves_16 : decode cX11_moves 16 = .ok (.bipush (-102), 2) := by decide +kernel
theorem dX11_moves_18 : decode cX11_moves 18 = .ok (.ireturn, 1) := by decide +kernel
set_option maxRecDepth 20000 in
theorem moX11_moves_18 {o : Int32 × Hp} {F : Nat} {h : Hp} {t0 : Int32} (hE : sX11_moves_18 F h  t0 = some o) : Le h o.2 := by
  exact le_some2 hE
set_option maxRecDepth 20000 in
theorem moX11_moves {o : Int32 × Hp} {F : Nat} {h : Hp} {x0 : Nat} {x1 : Int32} (hE : sX11_moves F h x0 x1 = some o) : Le h o.2 := by
  obtain ⟨o_1, eo_1, hE⟩ := cl_e hE
  refine (moX11_isPlace eo_1).tr ?_
  rcases br_e hE with ⟨_, hE⟩ | ⟨_, hE⟩
  · exact moX11_moves_18 hE
  · obtain ⟨o_3, eo_3, hE⟩ := cl_e hE
    refine (moX11_listMoves eo_3).tr ?_
    exact moX11_moves_18 hE
set_option maxRecDepth 20000 in
theorem bX11_moves_18 {p : Program} {l : Launch} {e : Env} {s : State} {m : MethodId} {args : Array Value} {below : List Frame} {meth : Method} {c : Code} {X : Ec} {h0 : Hp} {o : Int32 × Hp} {F : Nat} (C : Cx X p s m args meth c RX11 cX11_moves 2 (some .int) "moves") {h : Hp} {t0 : Int32} {H : Heap} {locs : List Loc} (hkm : Km h0 h) (hW : Wx X h H) (hZ : va_S (aA (eB X)) s.heap H locs) (ls : Array Slot) (hl : lv_has ls 2 []) (hE : sX11_moves_18 F h  t0 = some o) : W p l e (rm 5 160) s m args below meth c H locs 0 0 (MQ below (QI X h0 o.1 o.2) args s 0 0 (aA (eB X))) (F0 m 18 ls [.int t0]) := by
  exact x_iret C rfl rfl hW hZ hkm hE dX11_moves_18
set_option maxRecDepth 20000 in
theorem ct_X11_moves (l : Launch) (X : Ec) (F : Nat) {h : Hp} {x0 : Nat} {x1 : Int32} {o : Int32 × Hp} (k_x0 : hK h x0 = 11) (hE : sX11_moves F h x0 x1 = some o) : MetI l yX11_moves cX11_moves 2 (some .int) 5 160 X [.ref x0, .int x1] h o := by
  refine x_met (by decide) (Nat.le_of_ble_eq_true rfl) ?_
  intro p e s m below meth c ls C hl hW hZ
  have hl : lv_has ls 2 [(0, .ref x0), (1, .int x1)] := hl
  have hkm : Km h h := Km.rf h
  refine lv_aload_n C.1 C.2.1 dX11_moves_0 rfl (lv_at hl 0 rfl) ?_
  refine lv_iload_n C.1 C.2.1 dX11_moves_1 rfl (lv_at hl 1 rfl) ?_
  obtain ⟨o_1, eo_1, hE⟩ := cl_e hE
  refine x_kI (o := o_1) (z_runV (As := [.int x1]) (rest := []) C (ct_X11_isPlace l X k_x0 eo_1) cw_X11_193 hW hZ k_x0 (by decide) rfl rfl rfl hl.1 (Nat.le_of_ble_eq_true rfl) rfl dX11_moves_2 ⟨Nat.le_of_ble_eq_true rfl, Nat.le_of_ble_eq_true rfl⟩ ⟨Nat.le_refl _, Nat.le_refl _⟩) hZ (fun _ _ hW km hZ => ?_)
  replace hkm := hkm.tr km
  replace k_x0 := km.at k_x0 (by decide)
  refine lv_if_eq (tgt := 16) C.1 C.2.1 dX11_moves_5 (by decide) (fun c_2 => ?_) (fun c_2 => ?_)
  · have hE := br_p hE c_2
    refine lv_bipush (v := (-102 : Int32)) C.1 C.2.1 dX11_moves_16 (by decide) ?_
    exact bX11_moves_18 C hkm hW hZ _ (lv_sub hl [] rfl) hE
  · have hE := br_n hE c_2
    refine lv_aload_n C.1 C.2.1 dX11_moves_8 rfl (lv_at hl 0 rfl) ?_
    refine lv_iload_n C.1 C.2.1 dX11_moves_9 rfl (lv_at hl 1 rfl) ?_
    obtain ⟨o_3, eo_3, hE⟩ := cl_e hE
    refine x_kI (o := o_3) (z_runV (As := [.int x1]) (rest := []) C (ct_X11_listMoves l X F k_x0 eo_3) cw_X11_254 hW hZ k_x0 (by decide) rfl rfl rfl hl.1 (Nat.le_of_ble_eq_true rfl) rfl dX11_moves_10 ⟨Nat.le_of_ble_eq_true rfl, Nat.le_of_ble_eq_true rfl⟩ ⟨Nat.le_refl _, Nat.le_refl _⟩) hZ (fun _ _ hW km hZ => ?_)
    replace hkm := hkm.tr km
    replace k_x0 := km.at k_x0 (by decide)
    refine lv_goto (tgt := 18) C.1 C.2.1 dX11_moves_13 (by decide) ?_
    exact bX11_moves_18 C hkm hW hZ _ (lv_sub hl [] rfl) hE
set_option maxRecDepth 100000 in
theorem m_1306 : Cond.methodLink RX11 257 yX5_kindOf ∈ W0 := w0_in (List.mem_append_right _ (List.mem_of_getElem? (i := 1306) rfl)) rfl
set_option maxRecDepth 100000 in
theorem m_1307 : Cond.methodLink RX11 260 yX5_leftBy ∈ W0 := w0_in (List.mem_append_right _ (List.mem_of_getElem? (i := 1307) rfl)) rfl
set_option maxRecDepth 100000 in
theorem m_1308 : Cond.methodLink RX11 263 yX5_comeTo ∈ W0 := w0_in (List.mem_append_right _ (List.mem_of_getElem? (i := 1308) rfl)) rfl
set_option maxRecDepth 100000 in
theorem m_1309 : Cond.methodLink RX11 266 yX5_manOf ∈ W0 := w0_in (List.mem_append_right _ (List.mem_of_getElem? (i := 1309) rfl)) rfl
set_option maxRecDepth 100000 in
theorem m_1310 : Cond.methodLink RX11 269 yX5_becomes ∈ W0 := w0_in (List.mem_append_right _ (List.mem_of_getElem? (i := 1310) rfl)) rfl
set_option maxRecDepth 100000 in
theorem m_1311 : Cond.methodLink RX11 272 yX5_takenBy ∈ W0 := w0_in (List.mem_append_right _ (List.mem_of_getElem? (i := 1311) rfl)) rfl
theorem cw_X11_257 : cwd RX11 257 yX5_kindOf cX5_kindOf 1 (some .int) true 1 := ⟨m_1225, m_1306, m_7, m_1224, by decide, by decide, by decide +kernel⟩
theorem cw_X11_260 : cwd RX11 260 yX5_leftBy cX5_leftBy 1 (some .int) true 1 := ⟨m_1228, m_1307, m_7, m_1227, by decide, by decide, by decide +kernel⟩
theorem cw_X11_263 : cwd RX11 263 yX5_comeTo cX5_comeTo 1 (some .int) true 1 := ⟨m_1192, m_1308, m_7, m_1191, by decide, by decide, by decide +kernel⟩
theorem cw_X11_266 : cwd RX11 266 yX5_manOf cX5_manOf 1 (some .int) true 1 := ⟨m_1195, m_1309, m_7, m_1194, by decide, by decide, by decide +kernel⟩
theorem cw_X11_269 : cwd RX11 269 yX5_becomes cX5_becomes 2 (some .int) true 1 := ⟨m_1243, m_1310, m_7, m_1242, by decide, by decide, by decide +kernel⟩
theorem cw_X11_272 : cwd RX11 272 yX5_takenBy cX5_takenBy 2 (some .int) true 1 := ⟨m_1189, m_1311, m_7, m_1188, by decide, by decide, by decide +kernel⟩
theorem dX11_move_0 : decode cX11_move 0 = .ok (.iload_n 3, 1) := by decide +kernel
theorem dX11_move_1 : decode cX11_move 1 = .ok (.ifCond .lt 8, 3) := by decide +kernel
theorem dX11_move_4 : decode cX11_move 4 = .ok (.iload_n 3, 1) := by decide +kernel
theorem dX11_move_5 : decode cX11_move 5 = .ok (.iconst 5, 1) := by decide +kernel
theorem dX11_move_6 : decode cX11_move 6 = .ok (.if_icmp .le 6, 3) := by decide +kernel
theorem dX11_move_9 : decode cX11_move 9 = .ok (.bipush (-101), 2) := by decide +kernel
theorem dX11_move_11 : decode cX11_move 11 = .ok (.ireturn, 1) := by decide +kernel
theorem dX11_move_12 : decode cX11_move 12 = .ok (.iload_n 2, 1) := by decide +kernel
theorem dX11_move_13 : decode cX11_move 13 = .ok (.ifCond .lt 12, 3) := by decide +kernel
theorem dX11_move_16 : decode cX11_move 16 = .ok (.iload_n 2, 1) := by decide +kernel
theorem dX11_move_17 : decode cX11_move 17 = .ok (.aload_n 0, 1) := by decide +kernel
theorem dX11_move_18 : decode cX11_move 18 = .ok (.iload_n 1, 1) := by decide +kernel
theorem dX11_move_19 : decode cX11_move 19 = .ok (.invokevirtual 254, 3) := by decide +kernel
theorem dX11_move_22 : decode cX11_move 22 = .ok (.if_icmp .lt 6, 3) := by decide +kernel
theorem dX11_move_25 : decode cX11_move 25 = .ok (.bipush (-102), 2) := by decide +kernel
theorem dX11_move_27 : decode cX11_move 27 = .ok (.ireturn, 1) := by decide +kernel
theorem dX11_move_28 : decode cX11_move 28 = .ok (.aload_n 0, 1) := by decide +kernel
theorem dX11_move_29 : decode cX11_move 29 = .ok (.getfield 97, 3) := by decide +kernel
theorem dX11_move_32 : decode cX11_move 32 = .ok (.iload_n 2, 1) := by decide +kernel
theorem dX11_move_33 : decode cX11_move 33 = .ok (.iaload, 1) := by decide +kernel
theorem dX11_move_34 : decode cX11_move 34 = .ok (.istore 4, 2) := by decide +kernel
theorem dX11_move_36 : decode cX11_move 36 = .ok (.iload_n 3, 1) := by decide +kernel
theorem dX11_move_37 : decode cX11_move 37 = .ok (.tableswitch 78 0 4 #[35, 54, 60, 66, 72], 35) := by decide +kernel
theorem dX11_move_72 : decode cX11_move 72 = .ok (.iload 4, 2) := by decide +kernel
theorem dX11_move_74 : decode cX11_move 74 = .ok (.invokestatic 257, 3) := by decide +kernel
theorem dX11_move_77 : decode cX11_move 77 = .ok (.iconst 3, 1) := by decide +kernel
theorem dX11_move_78 : decode cX11_move 78 = .ok (.if_icmp .ne 7, 3) := by decide +kernel
theorem dX11_move_81 : decode cX11_move 81 = .ok (.iconst (-1), 1) := by decide +kernel
theorem dX11_move_82 : decode cX11_move 82 = .ok (.goto 8, 3) := by decide +kernel
theorem dX11_move_85 : decode cX11_move 85 = .ok (.iload 4, 2) := by decide +kernel
theorem dX11_move_87 : decode cX11_move 87 = .ok (.invokestatic 260, 3) := by decide +kernel
theorem dX11_move_90 : decode cX11_move 90 = .ok (.ireturn, 1) := by decide +kernel
theorem dX11_move_91 : decode cX11_move 91 = .ok (.iload 4, 2) := by decide +kernel
theorem dX11_move_93 : decode cX11_move 93 = .ok (.invokestatic 263, 3) := by decide +kernel
theorem dX11_move_96 : decode cX11_move 96 = .ok (.ireturn, 1) := by decide +kernel
theorem dX11_move_97 : decode cX11_move 97 = .ok (.iload 4, 2) := by decide +kernel
theorem dX11_move_99 : decode cX11_move 99 = .ok (.invokestatic 266, 3) := by decide +kernel
theorem dX11_move_102 : decode cX11_move 102 = .ok (.ireturn, 1) := by decide +kernel
theorem dX11_move_103 : decode cX11_move 103 = .ok (.iload 4, 2) := by decide +kernel
theorem dX11_move_105 : decode cX11_move 105 = .ok (.invokestatic 269, 3) := by decide +kernel
theorem dX11_move_108 : decode cX11_move 108 = .ok (.ireturn, 1) := by decide +kernel
theorem dX11_move_109 : decode cX11_move 109 = .ok (.iload 4, 2) := by decide +kernel
theorem dX11_move_111 : decode cX11_move 111 = .ok (.invokestatic 272, 3) := by decide +kernel
theorem dX11_move_114 : decode cX11_move 114 = .ok (.ireturn, 1) := by decide +kernel
theorem dX11_move_115 : decode cX11_move 115 = .ok (.iload 4, 2) := by decide +kernel
theorem dX11_move_117 : decode cX11_move 117 = .ok (.invokestatic 257, 3) := by decide +kernel
theorem dX11_move_120 : decode cX11_move 120 = .ok (.ireturn, 1) := by decide +kernel
set_option maxRecDepth 20000 in
theorem moX11_move_9 {o : Int32 × Hp} {F : Nat} {h : Hp} (hE : sX11_move_9 F h  = some o) : Le h o.2 := by
  exact le_some2 hE
set_option maxRecDepth 20000 in
theorem moX11_move_25 {o : Int32 × Hp} {F : Nat} {h : Hp} (hE : sX11_move_25 F h  = some o) : Le h o.2 := by
  exact le_some2 hE
set_option maxRecDepth 20000 in
theorem moX11_move_90 {o : Int32 × Hp} {F : Nat} {h : Hp} {t0 : Int32} (hE : sX11_move_90 F h  t0 = some o) : Le h o.2 := by
  exact le_some2 hE
set_option maxRecDepth 20000 in
theorem moX11_move {o : Int32 × Hp} {F : Nat} {h : Hp} {x0 : Nat} {x1 : Int32} {x2 : Int32} {x3 : Int32} (hE : sX11_move F h x0 x1 x2 x3 = some o) : Le h o.2 := by
  rcases br_e hE with ⟨_, hE⟩ | ⟨_, hE⟩
  · exact moX11_move_9 hE
  · rcases br_e hE with ⟨_, hE⟩ | ⟨_, hE⟩
    · rcases br_e hE with ⟨_, hE⟩ | ⟨_, hE⟩
      · exact moX11_move_25 hE
      · obtain ⟨o_4, eo_4, hE⟩ := cl_e hE
        refine (moX11_listMoves eo_4).tr ?_
        rcases br_e hE with ⟨_, hE⟩ | ⟨_, hE⟩
        · obtain ⟨r_6, er_6, hE⟩ := cl_e hE
          obtain ⟨g_7, hE⟩ := gd_e hE
          obtain ⟨v_8, ev_8, hE⟩ := nm_e2 hE
          rcases br_e hE with ⟨_, hE⟩ | ⟨_, hE⟩
          · obtain ⟨o_9, eo_9, hE⟩ := cl_e hE
            refine (moX5_kindOf eo_9).tr ?_
            rcases br_e hE with ⟨_, hE⟩ | ⟨_, hE⟩
            · exact moX11_move_90 hE
            · obtain ⟨o_11, eo_11, hE⟩ := cl_e hE
              refine (moX5_leftBy eo_11).tr ?_
              exact moX11_move_90 hE
          rcases br_e hE with ⟨_, hE⟩ | ⟨_, hE⟩
          · obtain ⟨o_13, eo_13, hE⟩ := cl_e hE
            refine (moX5_comeTo eo_13).tr ?_
            exact le_some2 hE
          rcases br_e hE with ⟨_, hE⟩ | ⟨_, hE⟩
          · obtain ⟨o_15, eo_15, hE⟩ := cl_e hE
            refine (moX5_manOf eo_15).tr ?_
            exact le_some2 hE
          rcases br_e hE with ⟨_, hE⟩ | ⟨_, hE⟩
          · obtain ⟨o_17, eo_17, hE⟩ := cl_e hE
            refine (moX5_becomes eo_17).tr ?_
            exact le_some2 hE
          rcases br_e hE with ⟨_, hE⟩ | ⟨_, hE⟩
          · obtain ⟨o_19, eo_19, hE⟩ := cl_e hE
            refine (moX5_takenBy eo_19).tr ?_
            exact le_some2 hE
          obtain ⟨o_21, eo_21, hE⟩ := cl_e hE
          refine (moX5_kindOf eo_21).tr ?_
          exact le_some2 hE
        · exact moX11_move_25 hE
    · exact moX11_move_9 hE
set_option maxRecDepth 20000 in
theorem bX11_move_9 {p : Program} {l : Launch} {e : Env} {s : State} {m : MethodId} {args : Array Value} {below : List Frame} {meth : Method} {c : Code} {X : Ec} {h0 : Hp} {o : Int32 × Hp} {F : Nat} (C : Cx X p s m args meth c RX11 cX11_move 5 (some .int) "move") {h : Hp} {H : Heap} {locs : List Loc} (hkm : Km h0 h) (hW : Wx X h H) (hZ : va_S (aA (eB X)) s.heap H locs) (ls : Array Slot) (hl : lv_has ls 5 []) (hE : sX11_move_9 F h  = some o) : W p l e (rm 5 160) s m args below meth c H locs 0 0 (MQ below (QI X h0 o.1 o.2) args s 0 0 (aA (eB X))) (F0 m 9 ls []) := by
  refine lv_bipush (v := (-101 : Int32)) C.1 C.2.1 dX11_move_9 (by decide) ?_
  exact x_iret C rfl rfl hW hZ hkm hE dX11_move_11
set_option maxRecDepth 20000 in
theorem bX11_move_25 {p : Program} {l : Launch} {e : Env} {s : State} {m : MethodId} {args : Array Value} {below : List Frame} {meth : Method} {c : Code} {X : Ec} {h0 : Hp} {o : Int32 × Hp} {F : Nat} (C : Cx X p s m args meth c RX11 cX11_move 5 (some .int) "move") {h : Hp} {H : Heap} {locs : List Loc} (hkm : Km h0 h) (hW : Wx X h H) (hZ : va_S (aA (eB X)) s.heap H locs) (ls : Array Slot) (hl : lv_has ls 5 []) (hE : sX11_move_25 F h  = some o) : W p l e (rm 5 160) s m args below meth c H locs 0 0 (MQ below (QI X h0 o.1 o.2) args s 0 0 (aA (eB X))) (F0 m 25 ls []) := by
  refine lv_bipush (v := (-102 : Int32)) C.1 C.2.1 dX11_move_25 (by decide) ?_
  exact x_iret C rfl rfl hW hZ hkm hE dX11_move_27
set_option maxRecDepth 20000 in
theorem bX11_move_90 {p : Program} {l : Launch} {e : Env} {s : State} {m : MethodId} {args : Array Value} {below : List Frame} {meth : Method} {c : Code} {X : Ec} {h0 : Hp} {o : Int32 × Hp} {F : Nat} (C : Cx X p s m args meth c RX11 cX11_move 5 (some .int) "move") {h : Hp} {t0 : Int32} {H : Heap} {locs : List Loc} (hkm : Km h0 h) (hW : Wx X h H) (hZ : va_S (aA (eB X)) s.heap H locs) (ls : Array Slot) (hl : lv_has ls 5 []) (hE : sX11_move_90 F h  t0 = some o) : W p l e (rm 5 160) s m args below meth c H locs 0 0 (MQ below (QI X h0 o.1 o.2) args s 0 0 (aA (eB X))) (F0 m 90 ls [.int t0]) := by
  exact x_iret C rfl rfl hW hZ hkm hE dX11_move_90
set_option maxRecDepth 20000 in
theorem ct_X11_move (l : Launch) (X : Ec) (F : Nat) {h : Hp} {x0 : Nat} {x1 : Int32} {x2 : Int32} {x3 : Int32} {o : Int32 × Hp} (k_x0 : hK h x0 = 11) (hE : sX11_move F h x0 x1 x2 x3 = some o) : MetI l yX11_move cX11_move 5 (some .int) 5 160 X [.ref x0, .int x1, .int x2, .int x3] h o := by
  refine x_met (by decide) (Nat.le_of_ble_eq_true rfl) ?_
  intro p e s m below meth c ls C hl hW hZ
  have hl : lv_has ls 5 [(0, .ref x0), (1, .int x1), (2, .int x2), (3, .int x3)] := hl
  have hkm : Km h h := Km.rf h
  refine lv_iload_n C.1 C.2.1 dX11_move_0 rfl (lv_at hl 3 rfl) ?_
  refine lv_if_lt (tgt := 9) C.1 C.2.1 dX11_move_1 (by decide) (fun c_1 => ?_) (fun c_1 => ?_)
  · have hE := br_p hE c_1
    exact bX11_move_9 C hkm hW hZ _ (lv_sub hl [] rfl) hE
  · have hE := br_n hE c_1
    refine lv_iload_n C.1 C.2.1 dX11_move_4 rfl (lv_at hl 3 rfl) ?_
    refine lv_iconst (v := (5 : Int32)) C.1 C.2.1 dX11_move_5 (by decide) ?_
    refine lv_icmp_le (tgt := 12) C.1 C.2.1 dX11_move_6 (by decide) (fun c_2 => ?_) (fun c_2 => ?_)
    · have hE := br_p hE c_2
      refine lv_iload_n C.1 C.2.1 dX11_move_12 rfl (lv_at hl 2 rfl) ?_
      refine lv_if_lt (tgt := 25) C.1 C.2.1 dX11_move_13 (by decide) (fun c_3 => ?_) (fun c_3 => ?_)
      · have hE := br_p hE c_3
        exact bX11_move_25 C hkm hW hZ _ (lv_sub hl [] rfl) hE
      · have hE := br_n hE c_3
        refine lv_iload_n C.1 C.2.1 dX11_move_16 rfl (lv_at hl 2 rfl) ?_
        refine lv_aload_n C.1 C.2.1 dX11_move_17 rfl (lv_at hl 0 rfl) ?_
        refine lv_iload_n C.1 C.2.1 dX11_move_18 rfl (lv_at hl 1 rfl) ?_
        obtain ⟨o_4, eo_4, hE⟩ := cl_e hE
        refine x_kI (o := o_4) (z_runV (As := [.int x1]) (rest := [.int x2]) C (ct_X11_listMoves l X F k_x0 eo_4) cw_X11_254 hW hZ k_x0 (by decide) rfl rfl rfl hl.1 (Nat.le_of_ble_eq_true rfl) rfl dX11_move_19 ⟨Nat.le_of_ble_eq_true rfl, Nat.le_of_ble_eq_true rfl⟩ ⟨Nat.le_refl _, Nat.le_refl _⟩) hZ (fun _ _ hW km hZ => ?_)
        replace hkm := hkm.tr km
        replace k_x0 := km.at k_x0 (by decide)
        refine lv_icmp_lt (tgt := 28) C.1 C.2.1 dX11_move_22 (by decide) (fun c_5 => ?_) (fun c_5 => ?_)
        · have hE := br_p hE c_5
          refine lv_aload_n C.1 C.2.1 dX11_move_28 rfl (lv_at hl 0 rfl) ?_
          obtain ⟨r_6, er_6, hE⟩ := cl_e hE
          refine gf_X11_97 C hW k_x0 er_6 dX11_move_29 (fun k_r_6 => ?_)
          refine lv_iload_n C.1 C.2.1 dX11_move_32 rfl (lv_at hl 2 rfl) ?_
          obtain ⟨g_7, hE⟩ := gd_e hE
          refine y_iald C hW k_r_6 g_7 dX11_move_33 ?_
          obtain ⟨v_8, ev_8, hE⟩ := nm_e2 hE
          refine x_nmI ev_8 ?_
          refine lv_istore (lv' := [(4, .int v_8), (0, .ref x0), (1, .int x1), (2, .int x2), (3, .int x3)]) C.1 C.2.1 dX11_move_34 hl (by decide) rfl (fun ls hl => ?_)
          refine lv_iload_n C.1 C.2.1 dX11_move_36 rfl (lv_at hl 4 rfl) ?_
          by_cases c_12 : x3 = (0 : Int32)
          · have hE := br_p hE c_12
            refine lv_tableIn (off := 35) (tgt := 72) C.1 C.2.1 dX11_move_37 (by rw [c_12]; decide) (by rw [c_12]; decide) (by rw [c_12]; rfl) (by decide) ?_
            refine lv_iload C.1 C.2.1 dX11_move_72 (lv_at hl 0 rfl) ?_
            obtain ⟨o_9, eo_9, hE⟩ := cl_e hE
            refine x_kI (o := o_9) (z_runS (As := [.int v_8]) (rest := []) C (ct_X5_kindOf l X eo_9) cw_X11_257 hW hZ rfl hl.1 (Nat.le_of_ble_eq_true rfl) rfl dX11_move_74 ⟨Nat.le_of_ble_eq_true rfl, Nat.le_of_ble_eq_true rfl⟩ ⟨Nat.le_refl _, Nat.le_refl _⟩) hZ (fun _ _ hW km hZ => ?_)
            replace hkm := hkm.tr km
            replace k_x0 := km.at k_x0 (by decide)
            refine lv_iconst (v := (3 : Int32)) C.1 C.2.1 dX11_move_77 (by decide) ?_
            refine lv_icmp_ne (tgt := 85) C.1 C.2.1 dX11_move_78 (by decide) (fun c_10 => ?_) (fun c_10 => ?_)
            · have hE := br_n hE c_10
              refine lv_iload C.1 C.2.1 dX11_move_85 (lv_at hl 0 rfl) ?_
              obtain ⟨o_11, eo_11, hE⟩ := cl_e hE
              refine x_kI (o := o_11) (z_runS (As := [.int v_8]) (rest := []) C (ct_X5_leftBy l X eo_11) cw_X11_260 hW hZ rfl hl.1 (Nat.le_of_ble_eq_true rfl) rfl dX11_move_87 ⟨Nat.le_of_ble_eq_true rfl, Nat.le_of_ble_eq_true rfl⟩ ⟨Nat.le_refl _, Nat.le_refl _⟩) hZ (fun _ _ hW km hZ => ?_)
              replace hkm := hkm.tr km
              replace k_x0 := km.at k_x0 (by decide)
              exact bX11_move_90 C hkm hW hZ _ (lv_sub hl [] rfl) hE
            · have hE := br_p hE c_10
              refine lv_iconst (v := (-1 : Int32)) C.1 C.2.1 dX11_move_81 (by decide) ?_
              refine lv_goto (tgt := 90) C.1 C.2.1 dX11_move_82 (by decide) ?_
              exact bX11_move_90 C hkm hW hZ _ (lv_sub hl [] rfl) hE
          have hE := br_n hE c_12
          by_cases c_14 : x3 = (1 : Int32)
          · have hE := br_p hE c_14
            refine lv_tableIn (off := 54) (tgt := 91) C.1 C.2.1 dX11_move_37 (by rw [c_14]; decide) (by rw [c_14]; decide) (by rw [c_14]; rfl) (by decide) ?_
            refine lv_iload C.1 C.2.1 dX11_move_91 (lv_at hl 0 rfl) ?_
            obtain ⟨o_13, eo_13, hE⟩ := cl_e hE
            refine x_kI (o := o_13) (z_runS (As := [.int v_8]) (rest := []) C (ct_X5_comeTo l X eo_13) cw_X11_263 hW hZ rfl hl.1 (Nat.le_of_ble_eq_true rfl) rfl dX11_move_93 ⟨Nat.le_of_ble_eq_true rfl, Nat.le_of_ble_eq_true rfl⟩ ⟨Nat.le_refl _, Nat.le_refl _⟩) hZ (fun _ _ hW km hZ => ?_)
            replace hkm := hkm.tr km
            replace k_x0 := km.at k_x0 (by decide)
            exact x_iret C rfl rfl hW hZ hkm hE dX11_move_96
          have hE := br_n hE c_14
          by_cases c_16 : x3 = (2 : Int32)
          · have hE := br_p hE c_16
            refine lv_tableIn (off := 60) (tgt := 97) C.1 C.2.1 dX11_move_37 (by rw [c_16]; decide) (by rw [c_16]; decide) (by rw [c_16]; rfl) (by decide) ?_
            refine lv_iload C.1 C.2.1 dX11_move_97 (lv_at hl 0 rfl) ?_
            obtain ⟨o_15, eo_15, hE⟩ := cl_e hE
            refine x_kI (o := o_15) (z_runS (As := [.int v_8]) (rest := []) C (ct_X5_manOf l X eo_15) cw_X11_266 hW hZ rfl hl.1 (Nat.le_of_ble_eq_true rfl) rfl dX11_move_99 ⟨Nat.le_of_ble_eq_true rfl, Nat.le_of_ble_eq_true rfl⟩ ⟨Nat.le_refl _, Nat.le_refl _⟩) hZ (fun _ _ hW km hZ => ?_)
            replace hkm := hkm.tr km
            replace k_x0 := km.at k_x0 (by decide)
            exact x_iret C rfl rfl hW hZ hkm hE dX11_move_102
          have hE := br_n hE c_16
          by_cases c_18 : x3 = (3 : Int32)
          · have hE := br_p hE c_18
            refine lv_tableIn (off := 66) (tgt := 103) C.1 C.2.1 dX11_move_37 (by rw [c_18]; decide) (by rw [c_18]; decide) (by rw [c_18]; rfl) (by decide) ?_
            refine lv_iload C.1 C.2.1 dX11_move_103 (lv_at hl 0 rfl) ?_
            obtain ⟨o_17, eo_17, hE⟩ := cl_e hE
            refine x_kI (o := o_17) (z_runS (As := [.int v_8]) (rest := []) C (ct_X5_becomes l X eo_17) cw_X11_269 hW hZ rfl hl.1 (Nat.le_of_ble_eq_true rfl) rfl dX11_move_105 ⟨Nat.le_of_ble_eq_true rfl, Nat.le_of_ble_eq_true rfl⟩ ⟨Nat.le_refl _, Nat.le_refl _⟩) hZ (fun _ _ hW km hZ => ?_)
            replace hkm := hkm.tr km
            replace k_x0 := km.at k_x0 (by decide)
            exact x_iret C rfl rfl hW hZ hkm hE dX11_move_108
          have hE := br_n hE c_18
          by_cases c_20 : x3 = (4 : Int32)
          · have hE := br_p hE c_20
            refine lv_tableIn (off := 72) (tgt := 109) C.1 C.2.1 dX11_move_37 (by rw [c_20]; decide) (by rw [c_20]; decide) (by rw [c_20]; rfl) (by decide) ?_
            refine lv_iload C.1 C.2.1 dX11_move_109 (lv_at hl 0 rfl) ?_
            obtain ⟨o_19, eo_19, hE⟩ := cl_e hE
            refine x_kI (o := o_19) (z_runS (As := [.int v_8]) (rest := []) C (ct_X5_takenBy l X eo_19) cw_X11_272 hW hZ rfl hl.1 (Nat.le_of_ble_eq_true rfl) rfl dX11_move_111 ⟨Nat.le_of_ble_eq_true rfl, Nat.le_of_ble_eq_true rfl⟩ ⟨Nat.le_refl _, Nat.le_refl _⟩) hZ (fun _ _ hW km hZ => ?_)
            replace hkm := hkm.tr km
            replace k_x0 := km.at k_x0 (by decide)
            exact x_iret C rfl rfl hW hZ hkm hE dX11_move_114
          have hE := br_n hE c_20
          refine lv_tableOut (tgt := 115) C.1 C.2.1 dX11_move_37 (by have zc_12 := lv_neT (a := 0) c_12 (by decide); have zc_14 := lv_neT (a := 1) c_14 (by decide); have zc_16 := lv_neT (a := 2) c_16 (by decide); have zc_18 := lv_neT (a := 3) c_18 (by decide); have zc_20 := lv_neT (a := 4) c_20 (by decide); omega) (by decide) ?_
          refine lv_iload C.1 C.2.1 dX11_move_115 (lv_at hl 0 rfl) ?_
          obtain ⟨o_21, eo_21, hE⟩ := cl_e hE
          refine x_kI (o := o_21) (z_runS (As := [.int v_8]) (rest := []) C (ct_X5_kindOf l X eo_21) cw_X11_257 hW hZ rfl hl.1 (Nat.le_of_ble_eq_true rfl) rfl dX11_move_117 ⟨Nat.le_of_ble_eq_true rfl, Nat.le_of_ble_eq_true rfl⟩ ⟨Nat.le_refl _, Nat.le_refl _⟩) hZ (fun _ _ hW km hZ => ?_)
          replace hkm := hkm.tr km
          replace k_x0 := km.at k_x0 (by decide)
          exact x_iret C rfl rfl hW hZ hkm hE dX11_move_120
        · have hE := br_n hE c_5
          exact bX11_move_25 C hkm hW hZ _ (lv_sub hl [] rfl) hE
    · have hE := br_n hE c_2
      exact bX11_move_9 C hkm hW hZ _ (lv_sub hl [] rfl) hE
set_option maxRecDepth 100000 in
theorem m_1320 : Cond.methodLink RX11 325 yX3_copyFrom ∈ W0 := w0_in (List.mem_append_right _ (List.mem_of_getElem? (i := 1320) rfl)) rfl
theorem cw_X11_325 : cwd RX11 325 yX3_copyFrom cX3_copyFrom 3 none false 1 := ⟨m_1232, m_1320, m_8, ⟨m_1230, m_1231⟩, by decide, by decide, by decide +kernel⟩
theorem dX11_settle_0 : decode cX11_settle 0 = .ok (.aload_n 0, 1) := by decide +kernel
theorem dX11_settle_1 : decode cX11_settle 1 = .ok (.getfield 107, 3) := by decide +kernel
theorem dX11_settle_4 : decode cX11_settle 4 = .ok (.iload_n 1, 1) := by decide +kernel
theorem dX11_settle_5 : decode cX11_settle 5 = .ok (.iconst 1, 1) := by decide +kernel
theorem dX11_settle_6 : decode cX11_settle 6 = .ok (.bastore, 1) := by decide +kernel
theorem dX11_settle_7 : decode cX11_settle 7 = .ok (.aload_n 0, 1) := by decide +kernel
theorem dX11_settle_8 : decode cX11_settle 8 = .ok (.getfield 103, 3) := by decide +kernel
theorem dX11_settle_11 : decode cX11_settle 11 = .ok (.iload_n 1, 1) := by decide +kernel
theorem dX11_settle_12 : decode cX11_settle 12 = .ok (.aaload, 1) := by decide +kernel
theorem dX11_settle_13 : decode cX11_settle 13 = .ok (.aload_n 2, 1) := by decide +kernel
theorem dX11_settle_14 : decode cX11_settle 14 = .ok (.invokevirtual 325, 3) := by decide +kernel
theorem dX11_settle_17 : decode cX11_settle 17 = .ok (.return_, 1) := by decide +kernel
set_option maxRecDepth 20000 in
theorem moX11_settle {o : Hp} {F : Nat} {h : Hp} {x0 : Nat} {x1 : Int32} {x2 : Nat} (hE : sX11_settle F h x0 x1 x2 = some o) : Le h o := by
  obtain ⟨r_1, er_1, hE⟩ := cl_e hE
  obtain ⟨g_2, hE⟩ := gd_e hE
  obtain ⟨h_3, eh_3, hE⟩ := nm_e2 hE
  refine (le_I eh_3).tr ?_
  obtain ⟨r_4, er_4, hE⟩ := cl_e hE
  obtain ⟨g_5, hE⟩ := gd_e hE
  obtain ⟨r_6, er_6, hE⟩ := cl_e hE
  obtain ⟨o_7, eo_7, hE⟩ := cl_e hE
  refine (moX3_copyFrom eo_7).tr ?_
  exact le_some1 hE
set_option maxRecDepth 20000 in
theorem ct_X11_settle (l : Launch) (X : Ec) (F : Nat) {h : Hp} {x0 : Nat} {x1 : Int32} {x2 : Nat} {o : Hp} (k_x0 : hK h x0 = 11) (k_x2 : hK h x2 = 3) (hE : sX11_settle F h x0 x1 x2 = some o) : MetV l yX11_settle cX11_settle 3 none 2 86 X [.ref x0, .int x1, .ref x2] h o := by
  refine x_met (by decide) (Nat.le_of_ble_eq_true rfl) ?_
  intro p e s m below meth c ls C hl hW hZ
  have hl : lv_has ls 3 [(0, .ref x0), (1, .int x1), (2, .ref x2)] := hl
  have hkm : Km h h := Km.rf h
  refine lv_aload_n C.1 C.2.1 dX11_settle_0 rfl (lv_at hl 0 rfl) ?_
  obtain ⟨r_1, er_1, hE⟩ := cl_e hE
  refine gf_X11_107 C hW k_x0 er_1 dX11_settle_1 (fun k_r_1 => ?_)
  refine lv_iload_n C.1 C.2.1 dX11_settle_4 rfl (lv_at hl 1 rfl) ?_
  refine lv_iconst (v := (1 : Int32)) C.1 C.2.1 dX11_settle_5 (by decide) ?_
  obtain ⟨g_2, hE⟩ := gd_e hE
  obtain ⟨h_3, eh_3, hE⟩ := nm_e2 hE
  refine y_zast C hW hZ k_r_1 g_2 eh_3 dX11_settle_6 (fun _ _ hW km hZ => ?_)
  replace hkm := hkm.tr km
  replace k_x0 := km.at k_x0 (by decide)
  replace k_x2 := km.at k_x2 (by decide)
  refine lv_aload_n C.1 C.2.1 dX11_settle_7 rfl (lv_at hl 0 rfl) ?_
  obtain ⟨r_4, er_4, hE⟩ := cl_e hE
  refine gf_X11_103 C hW k_x0 er_4 dX11_settle_8 (fun k_r_4 => ?_)
  refine lv_iload_n C.1 C.2.1 dX11_settle_11 rfl (lv_at hl 1 rfl) ?_
  obtain ⟨g_5, hE⟩ := gd_e hE
  obtain ⟨r_6, er_6, hE⟩ := cl_e hE
  refine y_aald (t0 := 4) C hW k_r_4 (by decide) (by decide) rfl rfl rfl (fun _ => rfl) g_5 er_6 dX11_settle_12 (fun k_r_6 => ?_)
  refine lv_aload_n C.1 C.2.1 dX11_settle_13 rfl (lv_at hl 2 rfl) ?_
  obtain ⟨o_7, eo_7, hE⟩ := cl_e hE
  refine x_kV (o := o_7) (z_runV (As := [.ref x2]) (rest := []) C (ct_X3_copyFrom l X F k_r_6 k_x2 eo_7) cw_X11_325 hW hZ k_r_6 (by decide) rfl rfl rfl hl.1 (Nat.le_of_ble_eq_true rfl) rfl dX11_settle_14 ⟨Nat.le_of_ble_eq_true rfl, Nat.le_of_ble_eq_true rfl⟩ ⟨Nat.le_refl _, Nat.le_refl _⟩) hZ (fun _ _ hW km hZ => ?_)
  replace hkm := hkm.tr km
  replace k_x0 := km.at k_x0 (by decide)
  replace k_x2 := km.at k_x2 (by decide)
  exact x_vret C rfl hW hZ hkm hE dX11_settle_17
set_option maxRecDepth 100000 in
theorem ms_69 : Cond.selects RX11 yX11_settle yX11_settle ∈ W0 := w0_in (List.mem_append_left _ (List.mem_of_getElem? (i := 69) rfl)) rfl
set_option maxRecDepth 100000 in
theorem m_1316 : Cond.methodLink RX11 275 yX11_settle ∈ W0 := w0_in (List.mem_append_right _ (List.mem_of_getElem? (i := 1316) rfl)) rfl
set_option maxRecDepth 100000 in
theorem m_1318 : Cond.instanceMethod yX11_settle ∈ W0 := w0_in (List.mem_append_right _ (List.mem_of_getElem? (i := 1318) rfl)) rfl
set_option maxRecDepth 100000 in
theorem m_1319 : Cond.code yX11_settle cX11_settle 3 none ∈ W0 := w0_in (List.mem_append_right _ (List.mem_of_getElem? (i := 1319) rfl)) rfl
set_option maxRecDepth 100000 in
theorem m_1321 : Cond.methodLink RX11 279 yX5_make ∈ W0 := w0_in (List.mem_append_right _ (List.mem_of_getElem? (i := 1321) rfl)) rfl
theorem cw_X11_275 : cwd RX11 275 yX11_settle cX11_settle 3 none false 2 := ⟨m_1319, m_1316, m_1, ⟨m_1318, ms_69⟩, by decide, by decide, by decide +kernel⟩
theorem cw_X11_279 : cwd RX11 279 yX5_make cX5_make 8 none false 2 := ⟨m_1324, m_1321, m_7, ⟨m_1322, m_1323⟩, by decide, by decide, by decide +kernel⟩
theorem dX11_go_0 : decode cX11_go 0 = .ok (.iload_n 2, 1) := by decide +kernel
theorem dX11_go_1 : decode cX11_go 1 = .ok (.ifCond .lt 12, 3) := by decide +kernel
theorem dX11_go_4 : decode cX11_go 4 = .ok (.iload_n 2, 1) := by decide +kernel
theorem dX11_go_5 : decode cX11_go 5 = .ok (.aload_n 0, 1) := by decide +kernel
theorem dX11_go_6 : decode cX11_go 6 = .ok (.iload_n 1, 1) := by decide +kernel
theorem dX11_go_7 : decode cX11_go 7 = .ok (.invokevirtual 254, 3) := by decide +kernel
theorem dX11_go_10 : decode cX11_go 10 = .ok (.if_icmp .lt 6, 3) := by decide +kernel
theorem dX11_go_13 : decode cX11_go 13 = .ok (.bipush (-102), 2) := by decide +kernel
theorem dX11_go_15 : decode cX11_go 15 = .ok (.ireturn, 1) := by decide +kernel
theorem dX11_go_16 : decode cX11_go 16 = .ok (.aload_n 0, 1) := by decide +kernel
theorem dX11_go_17 : decode cX11_go 17 = .ok (.invokevirtual 183, 3) := by decide +kernel
theorem dX11_go_20 : decode cX11_go 20 = .ok (.istore_n 3, 1) := by decide +kernel
theorem dX11_go_21 : decode cX11_go 21 = .ok (.iload_n 3, 1) := by decide +kernel
theorem dX11_go_22 : decode cX11_go 22 = .ok (.iconst (-1), 1) := by decide +kernel
theorem dX11_go_23 : decode cX11_go 23 = .ok (.if_icmp .ne 6, 3) := by decide +kernel
theorem dX11_go_26 : decode cX11_go 26 = .ok (.bipush (-104), 2) := by decide +kernel
theorem dX11_go_28 : decode cX11_go 28 = .ok (.ireturn, 1) := by decide +kernel
theorem dX11_go_29 : decode cX11_go 29 = .ok (.aload_n 0, 1) := by decide +kernel
theorem dX11_go_30 : decode cX11_go 30 = .ok (.iload_n 3, 1) := by decide +kernel
theorem dX11_go_31 : decode cX11_go 31 = .ok (.aload_n 0, 1) := by decide +kernel
theorem dX11_go_32 : decode cX11_go 32 = .ok (.getfield 103, 3) := by decide +kernel
theorem dX11_go_35 : decode cX11_go 35 = .ok (.iload_n 1, 1) := by decide +kernel
theorem dX11_go_36 : decode cX11_go 36 = .ok (.aaload, 1) := by decide +kernel
theorem dX11_go_37 : decode cX11_go 37 = .ok (.invokevirtual 275, 3) := by decide +kernel
theorem dX11_go_40 : decode cX11_go 40 = .ok (.aload_n 0, 1) := by decide +kernel
theorem dX11_go_41 : decode cX11_go 41 = .ok (.getfield 50, 3) := by decide +kernel
theorem dX11_go_44 : decode cX11_go 44 = .ok (.aload_n 0, 1) := by decide +kernel
theorem dX11_go_45 : decode cX11_go 45 = .ok (.getfield 103, 3) := by decide +kernel
theorem dX11_go_48 : decode cX11_go 48 = .ok (.iload_n 3, 1) := by decide +kernel
theorem dX11_go_49 : decode cX11_go 49 = .ok (.aaload, 1) := by decide +kernel
theorem dX11_go_50 : decode cX11_go 50 = .ok (.aload_n 0, 1) := by decide +kernel
theorem dX11_go_51 : decode cX11_go 51 = .ok (.getfield 97, 3) := by decide +kernel
theorem dX11_go_54 : decode cX11_go 54 = .ok (.iload_n 2, 1) := by decide +kernel
theorem dX11_go_55 : decode cX11_go 55 = .ok (.iaload, 1) := by decide +kernel
theorem dX11_go_56 : decode cX11_go 56 = .ok (.invokevirtual 279, 3) := by decide +kernel
theorem dX11_go_59 : decode cX11_go 59 = .ok (.iload_n 3, 1) := by decide +kernel
theorem dX11_go_60 : decode cX11_go 60 = .ok (.ireturn, 1) := by decide +kernel
set_option maxRecDepth 20000 in
theorem moX11_go_13 {o : Int32 × Hp} {F : Nat} {h : Hp} (hE : sX11_go_13 F h  = some o) : Le h o.2 := by
  exact le_some2 hE
set_option maxRecDepth 20000 in
theorem moX11_go {o : Int32 × Hp} {F : Nat} {h : Hp} {x0 : Nat} {x1 : Int32} {x2 : Int32} (hE : sX11_go F h x0 x1 x2 = some o) : Le h o.2 := by
  rcases br_e hE with ⟨_, hE⟩ | ⟨_, hE⟩
  · exact moX11_go_13 hE
  · obtain ⟨o_2, eo_2, hE⟩ := cl_e hE
    refine (moX11_listMoves eo_2).tr ?_
    rcases br_e hE with ⟨_, hE⟩ | ⟨_, hE⟩
    · obtain ⟨o_4, eo_4, hE⟩ := cl_e hE
      refine (moX11_freePlace eo_4).tr ?_
      rcases br_e hE with ⟨_, hE⟩ | ⟨_, hE⟩
      · exact le_some2 hE
      · obtain ⟨r_6, er_6, hE⟩ := cl_e hE
        obtain ⟨g_7, hE⟩ := gd_e hE
        obtain ⟨r_8, er_8, hE⟩ := cl_e hE
        obtain ⟨o_9, eo_9, hE⟩ := cl_e hE
        refine (moX11_settle eo_9).tr ?_
        obtain ⟨r_10, er_10, hE⟩ := cl_e hE
        obtain ⟨r_11, er_11, hE⟩ := cl_e hE
        obtain ⟨g_12, hE⟩ := gd_e hE
        obtain ⟨r_13, er_13, hE⟩ := cl_e hE
        obtain ⟨r_14, er_14, hE⟩ := cl_e hE
        obtain ⟨g_15, hE⟩ := gd_e hE
        obtain ⟨o_16, eo_16, hE⟩ := cl_e hE
        refine (moX5_make eo_16).tr ?_
        exact le_some2 hE
    · exact moX11_go_13 hE
set_option maxRecDepth 20000 in
theorem bX11_go_13 {p : Program} {l : Launch} {e : Env} {s : State} {m : MethodId} {args : Array Value} {below : List Frame} {meth : Method} {c : Code} {X : Ec} {h0 : Hp} {o : Int32 × Hp} {F : Nat} (C : Cx X p s m args meth c RX11 cX11_go 4 (some .int) "go") {h : Hp} {H : Heap} {locs : List Loc} (hkm : Km h0 h) (hW : Wx X h H) (hZ : va_S (aA (eB X)) s.heap H locs) (ls : Array Slot) (hl : lv_has ls 4 []) (hE : sX11_go_13 F h  = some o) : W p l e (rm 5 160) s m args below meth c H locs 0 0 (MQ below (QI X h0 o.1 o.2) args s 0 0 (aA (eB X))) (F0 m 13 ls []) := by
  refine lv_bipush (v := (-102 : Int32)) C.1 C.2.1 dX11_go_13 (by decide) ?_
  exact x_iret C rfl rfl hW hZ hkm hE dX11_go_15
set_option maxRecDepth 20000 in
theorem ct_X11_go (l : Launch) (X : Ec) (F : Nat) {h : Hp} {x0 : Nat} {x1 : Int32} {x2 : Int32} {o : Int32 × Hp} (k_x0 : hK h x0 = 11) (hE : sX11_go F h x0 x1 x2 = some o) : MetI l yX11_go cX11_go 4 (some .int) 5 160 X [.ref x0, .int x1, .int x2] h o := by
  refine x_met (by decide) (Nat.le_of_ble_eq_true rfl) ?_
  intro p e s m below meth c ls C hl hW hZ
  have hl : lv_has ls 4 [(0, .ref x0), (1, .int x1), (2, .int x2)] := hl
  have hkm : Km h h := Km.rf h
  refine lv_iload_n C.1 C.2.1 dX11_go_0 rfl (lv_at hl 2 rfl) ?_
  refine lv_if_lt (tgt := 13) C.1 C.2.1 dX11_go_1 (by decide) (fun c_1 => ?_) (fun c_1 => ?_)
  · have hE := br_p hE c_1
    exact bX11_go_13 C hkm hW hZ _ (lv_sub hl [] rfl) hE
  · have hE := br_n hE c_1
    refine lv_iload_n C.1 C.2.1 dX11_go_4 rfl (lv_at hl 2 rfl) ?_
    refine lv_aload_n C.1 C.2.1 dX11_go_5 rfl (lv_at hl 0 rfl) ?_
    refine lv_iload_n C.1 C.2.1 dX11_go_6 rfl (lv_at hl 1 rfl) ?_
    obtain ⟨o_2, eo_2, hE⟩ := cl_e hE
    refine x_kI (o := o_2) (z_runV (As := [.int x1]) (rest := [.int x2]) C (ct_X11_listMoves l X F k_x0 eo_2) cw_X11_254 hW hZ k_x0 (by decide) rfl rfl rfl hl.1 (Nat.le_of_ble_eq_true rfl) rfl dX11_go_7 ⟨Nat.le_of_ble_eq_true rfl, Nat.le_of_ble_eq_true rfl⟩ ⟨Nat.le_refl _, Nat.le_refl _⟩) hZ (fun _ _ hW km hZ => ?_)
    replace hkm := hkm.tr km
    replace k_x0 := km.at k_x0 (by decide)
    refine lv_icmp_lt (tgt := 16) C.1 C.2.1 dX11_go_10 (by decide) (fun c_3 => ?_) (fun c_3 => ?_)
    · have hE := br_p hE c_3
      refine lv_aload_n C.1 C.2.1 dX11_go_16 rfl (lv_at hl 0 rfl) ?_
      obtain ⟨o_4, eo_4, hE⟩ := cl_e hE
      refine x_kI (o := o_4) (z_runV (As := []) (rest := []) C (ct_X11_freePlace l X F k_x0 eo_4) cw_X11_183 hW hZ k_x0 (by decide) rfl rfl rfl hl.1 (Nat.le_of_ble_eq_true rfl) rfl dX11_go_17 ⟨Nat.le_of_ble_eq_true rfl, Nat.le_of_ble_eq_true rfl⟩ ⟨Nat.le_refl _, Nat.le_refl _⟩) hZ (fun _ _ hW km hZ => ?_)
      replace hkm := hkm.tr km
      replace k_x0 := km.at k_x0 (by decide)
      refine lv_istore_n (lv' := [(3, .int o_4.1), (0, .ref x0), (1, .int x1), (2, .int x2)]) C.1 C.2.1 dX11_go_20 rfl hl (by decide) rfl (fun ls hl => ?_)
      refine lv_iload_n C.1 C.2.1 dX11_go_21 rfl (lv_at hl 0 rfl) ?_
      refine lv_iconst (v := (-1 : Int32)) C.1 C.2.1 dX11_go_22 (by decide) ?_
      refine lv_icmp_ne (tgt := 29) C.1 C.2.1 dX11_go_23 (by decide) (fun c_5 => ?_) (fun c_5 => ?_)
      · have hE := br_n hE c_5
        refine lv_aload_n C.1 C.2.1 dX11_go_29 rfl (lv_at hl 1 rfl) ?_
        refine lv_iload_n C.1 C.2.1 dX11_go_30 rfl (lv_at hl 0 rfl) ?_
        refine lv_aload_n C.1 C.2.1 dX11_go_31 rfl (lv_at hl 1 rfl) ?_
        obtain ⟨r_6, er_6, hE⟩ := cl_e hE
        refine gf_X11_103 C hW k_x0 er_6 dX11_go_32 (fun k_r_6 => ?_)
        refine lv_iload_n C.1 C.2.1 dX11_go_35 rfl (lv_at hl 2 rfl) ?_
        obtain ⟨g_7, hE⟩ := gd_e hE
        obtain ⟨r_8, er_8, hE⟩ := cl_e hE
        refine y_aald (t0 := 4) C hW k_r_6 (by decide) (by decide) rfl rfl rfl (fun _ => rfl) g_7 er_8 dX11_go_36 (fun k_r_8 => ?_)
        obtain ⟨o_9, eo_9, hE⟩ := cl_e hE
        refine x_kV (o := o_9) (z_runV (As := [.int o_4.1, .ref r_8]) (rest := []) C (ct_X11_settle l X F k_x0 k_r_8 eo_9) cw_X11_275 hW hZ k_x0 (by decide) rfl rfl rfl hl.1 (Nat.le_of_ble_eq_true rfl) rfl dX11_go_37 ⟨Nat.le_of_ble_eq_true rfl, Nat.le_of_ble_eq_true rfl⟩ ⟨Nat.le_refl _, Nat.le_refl _⟩) hZ (fun _ _ hW km hZ => ?_)
        replace hkm := hkm.tr km
        replace k_x0 := km.at k_x0 (by decide)
        refine lv_aload_n C.1 C.2.1 dX11_go_40 rfl (lv_at hl 1 rfl) ?_
        obtain ⟨r_10, er_10, hE⟩ := cl_e hE
        refine gf_X11_50 C hW k_x0 er_10 dX11_go_41 (fun k_r_10 => ?_)
        refine lv_aload_n C.1 C.2.1 dX11_go_44 rfl (lv_at hl 1 rfl) ?_
        obtain ⟨r_11, er_11, hE⟩ := cl_e hE
        refine gf_X11_103 C hW k_x0 er_11 dX11_go_45 (fun k_r_11 => ?_)
        refine lv_iload_n C.1 C.2.1 dX11_go_48 rfl (lv_at hl 0 rfl) ?_
        obtain ⟨g_12, hE⟩ := gd_e hE
        obtain ⟨r_13, er_13, hE⟩ := cl_e hE
        refine y_aald (t0 := 4) C hW k_r_11 (by decide) (by decide) rfl rfl rfl (fun _ => rfl) g_12 er_13 dX11_go_49 (fun k_r_13 => ?_)
        refine lv_aload_n C.1 C.2.1 dX11_go_50 rfl (lv_at hl 1 rfl) ?_
        obtain ⟨r_14, er_14, hE⟩ := cl_e hE
        refine gf_X11_97 C hW k_x0 er_14 dX11_go_51 (fun k_r_14 => ?_)
        refine lv_iload_n C.1 C.2.1 dX11_go_54 rfl (lv_at hl 3 rfl) ?_
        obtain ⟨g_15, hE⟩ := gd_e hE
        refine y_iald C hW k_r_14 g_15 dX11_go_55 ?_
        obtain ⟨o_16, eo_16, hE⟩ := cl_e hE
        refine x_kV (o := o_16) (z_runV (As := [.ref r_13, .int (hI o_9 r_14 x2.toNatClampNeg)]) (rest := []) C (ct_X5_make l X F k_r_10 k_r_13 eo_16) cw_X11_279 hW hZ k_r_10 (by decide) rfl rfl rfl hl.1 (Nat.le_of_ble_eq_true rfl) rfl dX11_go_56 ⟨Nat.le_of_ble_eq_true rfl, Nat.le_of_ble_eq_true rfl⟩ ⟨Nat.le_refl _, Nat.le_refl _⟩) hZ (fun _ _ hW km hZ => ?_)
        replace hkm := hkm.tr km
        replace k_x0 := km.at k_x0 (by decide)
        refine lv_iload_n C.1 C.2.1 dX11_go_59 rfl (lv_at hl 0 rfl) ?_
        exact x_iret C rfl rfl hW hZ hkm hE dX11_go_60
      · have hE := br_p hE c_5
        refine lv_bipush (v := (-104 : Int32)) C.1 C.2.1 dX11_go_26 (by decide) ?_
        exact x_iret C rfl rfl hW hZ hkm hE dX11_go_28
    · have hE := br_n hE c_3
      exact bX11_go_13 C hkm hW hZ _ (lv_sub hl [] rfl) hE
