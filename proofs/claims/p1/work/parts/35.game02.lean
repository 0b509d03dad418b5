set_option maxRecDepth 100000 in
theorem ms_67 : Cond.selects RX11 yX11_isSquare yX11_isSquare ∈ W0 := w0_in (List.mem_append_left _ (List.mem_of_getElem? (i := 67) rfl)) rfl
set_option maxRecDepth 100000 in
theorem m_1264 : Cond.methodLink RX11 208 yX11_isSquare ∈ W0 := w0_in (List.mem_append_right _ (List.mem_of_getElem? (i := 1264) rfl)) rfl
set_option maxRecDepth 100000 in
theorem m_1266 : Cond.instanceMethod yX11_isSquare ∈ W0 := w0_in (List.mem_append_right _ (List.mem_of_getElem? (i := 1266) rfl)) rfl
set_option maxRecDepth 100000 in
theorem m_1267 : Cond.code yX11_isSquare cX11_isSquare 2 (some .boolean) ∈ W0 := w0_in (List.mem_append_right _ (List.mem_of_getElem? (i := 1267) rfl)) rfl
theorem cw_X11_208 : cwd RX11 208 yX11_isSquare cX11_isSquare 2 (some .boolean) false 1 := ⟨m_1267, m_1264, m_1, ⟨m_1266, ms_67⟩, by decide, by decide, by decide +kernel⟩
theorem dX11_at_0 : decode cX11_at 0 = .ok (.aload_n 0, 1) := by decide +kernel
theorem dX11_at_1 : decode cX11_at 1 = .ok (.iload_n 2, 1) := by decide +kernel
theorem dX11_at_2 : decode cX11_at 2 = .ok (.invokevirtual 208, 3) := by decide +kernel
theorem dX11_at_5 : decode cX11_at 5 = .ok (.ifCond .ne 6, 3) := by decide +kernel
theorem dX11_at_8 : decode cX11_at 8 = .ok (.bipush (-101), 2) := by decide +kernel
theorem dX11_at_10 : decode cX11_at 10 = .ok (.ireturn, 1) := by decide +kernel
theorem dX11_at_11 : decode cX11_at 11 = .ok (.aload_n 0, 1) := by decide +kernel
theorem dX11_at_12 : decode cX11_at 12 = .ok (.iload_n 1, 1) := by decide +kernel
theorem dX11_at_13 : decode cX11_at 13 = .ok (.invokevirtual 193, 3) := by decide +kernel
theorem dX11_at_16 : decode cX11_at 16 = .ok (.ifCond .eq 17, 3) := by decide +kernel
theorem dX11_at_19 : decode cX11_at 19 = .ok (.aload_n 0, 1) := by decide +kernel
theorem dX11_at_20 : decode cX11_at 20 = .ok (.getfield 103, 3) := by decide +kernel
theorem dX11_at_23 : decode cX11_at 23 = .ok (.iload_n 1, 1) := by decide +kernel
theorem dX11_at_24 : decode cX11_at 24 = .ok (.aaload, 1) := by decide +kernel
theorem dX11_at_33 : decode cX11_at 33 = .ok (.bipush (-102), 2) := by decide +kernel
theorem dX11_at_35 : decode cX11_at 35 = .ok (.ireturn, 1) := by decide +kernel
set_option maxRecDepth 20000 in
theorem moX11_at_35 {o : Int32 × Hp} {h : Hp} {t0 : Int32} (hE : sX11_at_35 h  t0 = some o) : Le h o.2 := by
  exact le_some2 hE
set_option maxRecDepth 20000 in
theorem moX11_at {o : Int32 × Hp} {h : Hp} {x0 : Nat} {x1 : Int32} {x2 : Int32} (hE : sX11_at h x0 x1 x2 = some o) : Le h o.2 := by
  obtain ⟨o_1, eo_1, hE⟩ := cl_e hE
  refine (moX11_isSquare eo_1).tr ?_
  rcases br_e hE with ⟨_, hE⟩ | ⟨_, hE⟩
  · exact le_some2 hE
  · obtain ⟨o_3, eo_3, hE⟩ := cl_e hE
    refine (moX11_isPlace eo_3).tr ?_
    rcases br_e hE with ⟨_, hE⟩ | ⟨_, hE⟩
    · exact moX11_at_35 hE
    · obtain ⟨r_5, er_5, hE⟩ := cl_e hE
      cases hE
set_option maxRecDepth 20000 in
theorem bX11_at_35 {p : Program} {l : Launch} {e : Env} {s : State} {m : MethodId} {args : Array Value} {below : List Frame} {meth : Method} {c : Code} {X : Ec} {h0 : Hp} {o : Int32 × Hp} (C : Cx X p s m args meth c RX11 cX11_at 3 (some .int) "at") {h : Hp} {t0 : Int32} {H : Heap} {locs : List Loc} (hkm : Km h0 h) (hW : Wx X h H) (hZ : va_S (aA (eB X)) s.heap H locs) (ls : Array Slot) (hl : lv_has ls 3 []) (hE : sX11_at_35 h  t0 = some o) : W p l e (rm 1 21) s m args below meth c H locs 0 0 (MQ below (QI X h0 o.1 o.2) args s 0 0 (aA (eB X))) (F0 m 35 ls [.int t0]) := by
  exact x_iret C rfl rfl hW hZ hkm hE dX11_at_35
set_option maxRecDepth 20000 in
theorem ct_X11_at (l : Launch) (X : Ec) {h : Hp} {x0 : Nat} {x1 : Int32} {x2 : Int32} {o : Int32 × Hp} (k_x0 : hK h x0 = 11) (hE : sX11_at h x0 x1 x2 = some o) : MetI l yX11_at cX11_at 3 (some .int) 1 21 X [.ref x0, .int x1, .int x2] h o := by
  refine x_met (by decide) (Nat.le_of_ble_eq_true rfl) ?_
  intro p e s m below meth c ls C hl hW hZ
  have hl : lv_has ls 3 [(0, .ref x0), (1, .int x1), (2, .int x2)] := hl
  have hkm : Km h h := Km.rf h
  refine lv_aload_n C.1 C.2.1 dX11_at_0 rfl (lv_at hl 0 rfl) ?_
  refine lv_iload_n C.1 C.2.1 dX11_at_1 rfl (lv_at hl 2 rfl) ?_
  obtain ⟨o_1, eo_1, hE⟩ := cl_e hE
  refine x_kI (o := o_1) (z_runV (As := [.int x2]) (rest := []) C (ct_X11_isSquare l X k_x0 eo_1) cw_X11_208 hW hZ k_x0 (by decide) rfl rfl rfl hl.1 (Nat.le_of_ble_eq_true rfl) rfl dX11_at_2 ⟨Nat.le_of_ble_eq_true rfl, Nat.le_of_ble_eq_true rfl⟩ ⟨Nat.le_refl _, Nat.le_refl _⟩) hZ (fun _ _ hW km hZ => ?_)
  replace hkm := hkm.tr km
  replace k_x0 := km.at k_x0 (by decide)
  refine lv_if_ne (tgt := 11) C.1 C.2.1 dX11_at_5 (by decide) (fun c_2 => ?_) (fun c_2 => ?_)
  · have hE := br_n hE c_2
    refine lv_aload_n C.1 C.2.1 dX11_at_11 rfl (lv_at hl 0 rfl) ?_
    refine lv_iload_n C.1 C.2.1 dX11_at_12 rfl (lv_at hl 1 rfl) ?_
    obtain ⟨o_3, eo_3, hE⟩ := cl_e hE
    refine x_kI (o := o_3) (z_runV (As := [.int x1]) (rest := []) C (ct_X11_isPlace l X k_x0 eo_3) cw_X11_193 hW hZ k_x0 (by decide) rfl rfl rfl hl.1 (Nat.le_of_ble_eq_true rfl) rfl dX11_at_13 ⟨Nat.le_of_ble_eq_true rfl, Nat.le_of_ble_eq_true rfl⟩ ⟨Nat.le_refl _, Nat.le_refl _⟩) hZ (fun _ _ hW km hZ => ?_)
    replace hkm := hkm.tr km
    replace k_x0 := km.at k_x0 (by decide)
    refine lv_if_eq (tgt := 33) C.1 C.2.1 dX11_at_16 (by decide) (fun c_4 => ?_) (fun c_4 => ?_)
    · have hE := br_p hE c_4
      refine lv_bipush (v := (-102 : Int32)) C.1 C.2.1 dX11_at_33 (by decide) ?_
      exact bX11_at_35 C hkm hW hZ _ (lv_sub hl [] rfl) hE
    · have hE := br_n hE c_4
      refine lv_aload_n C.1 C.2.1 dX11_at_19 rfl (lv_at hl 0 rfl) ?_
      obtain ⟨r_5, er_5, hE⟩ := cl_e hE
      refine gf_X11_103 C hW k_x0 er_5 dX11_at_20 (fun k_r_5 => ?_)
      refine lv_iload_n C.1 C.2.1 dX11_at_23 rfl (lv_at hl 1 rfl) ?_
      cases hE
  · have hE := br_p hE c_2
    refine lv_bipush (v := (-101 : Int32)) C.1 C.2.1 dX11_at_8 (by decide) ?_
    exact x_iret C rfl rfl hW hZ hkm hE dX11_at_10
theorem dX11_figure_0 : decode cX11_figure 0 = .ok (.iload_n 2, 1) := by decide +kernel
theorem dX11_figure_1 : decode cX11_figure 1 = .ok (.ifCond .lt 9, 3) := by decide +kernel
theorem dX11_figure_4 : decode cX11_figure 4 = .ok (.iload_n 2, 1) := by decide +kernel
theorem dX11_figure_5 : decode cX11_figure 5 = .ok (.bipush 8, 2) := by decide +kernel
theorem dX11_figure_7 : decode cX11_figure 7 = .ok (.if_icmp .le 6, 3) := by decide +kernel
theorem dX11_figure_10 : decode cX11_figure 10 = .ok (.bipush (-101), 2) := by decide +kernel
theorem dX11_figure_12 : decode cX11_figure 12 = .ok (.ireturn, 1) := by decide +kernel
theorem dX11_figure_13 : decode cX11_figure 13 = .ok (.aload_n 0, 1) := by decide +kernel
theorem dX11_figure_14 : decode cX11_figure 14 = .ok (.iload_n 1, 1) := by decide +kernel
theorem dX11_figure_15 : decode cX11_figure 15 = .ok (.invokevirtual 193, 3) := by decide +kernel
theorem dX11_figure_18 : decode cX11_figure 18 = .ok (.ifCond .ne 6, 3) := by decide +kernel
theorem dX11_figure_21 : decode cX11_figure 21 = .ok (.bipush (-102), 2) := by decide +kernel
theorem dX11_figure_23 : decode cX11_figure 23 = .ok (.ireturn, 1) := by decide +kernel
theorem dX11_figure_24 : decode cX11_figure 24 = .ok (.aload_n 0, 1) := by decide +kernel
theorem dX11_figure_25 : decode cX11_figure 25 = .ok (.getfield 103, 3) := by decide +kernel
theorem dX11_figure_28 : decode cX11_figure 28 = .ok (.iload_n 1, 1) := by decide +kernel
theorem dX11_figure_29 : decode cX11_figure 29 = .ok (.aaload, 1) := by decide +kernel
set_option maxRecDepth 20000 in
theorem moX11_figure_10 {o : Int32 × Hp} {h : Hp} (hE : sX11_figure_10 h  = some o) : Le h o.2 := by
  exact le_some2 hE
set_option maxRecDepth 20000 in
theorem moX11_figure {o : Int32 × Hp} {h : Hp} {x0 : Nat} {x1 : Int32} {x2 : Int32} (hE : sX11_figure h x0 x1 x2 = some o) : Le h o.2 := by
  rcases br_e hE with ⟨_, hE⟩ | ⟨_, hE⟩
  · exact moX11_figure_10 hE
  · rcases br_e hE with ⟨_, hE⟩ | ⟨_, hE⟩
    · obtain ⟨o_3, eo_3, hE⟩ := cl_e hE
      refine (moX11_isPlace eo_3).tr ?_
      rcases br_e hE with ⟨_, hE⟩ | ⟨_, hE⟩
      · exact le_some2 hE
      · obtain ⟨r_5, er_5, hE⟩ := cl_e hE
        cases hE
    · exact moX11_figure_10 hE
set_option maxRecDepth 20000 in
theorem bX11_figure_10 {p : Program} {l : Launch} {e : Env} {s : State} {m : MethodId} {args : Array Value} {below : List Frame} {meth : Method} {c : Code} {X : Ec} {h0 : Hp} {o : Int32 × Hp} (C : Cx X p s m args meth c RX11 cX11_figure 4 (some .int) "figure") {h : Hp} {H : Heap} {locs : List Loc} (hkm : Km h0 h) (hW : Wx X h H) (hZ : va_S (aA (eB X)) s.heap H locs) (ls : Array Slot) (hl : lv_has ls 4 []) (hE : sX11_figure_10 h  = some o) : W p l e (rm 1 21) s m args below meth c H locs 0 0 (MQ below (QI X h0 o.1 o.2) args s 0 0 (aA (eB X))) (F0 m 10 ls []) := by
  refine lv_bipush (v := (-101 : Int32)) C.1 C.2.1 dX11_figure_10 (by decide) ?_
  exact x_iret C rfl rfl hW hZ hkm hE dX11_figure_12
set_option maxRecDepth 20000 in
theorem ct_X11_figure (l : Launch) (X : Ec) {h : Hp} {x0 : Nat} {x1 : Int32} {x2 : Int32} {o : Int32 × Hp} (k_x0 : hK h x0 = 11) (hE : sX11_figure h x0 x1 x2 = some o) : MetI l yX11_figure cX11_figure 4 (some .int) 1 21 X [.ref x0, .int x1, .int x2] h o := by
  refine x_met (by decide) (Nat.le_of_ble_eq_true rfl) ?_
  intro p e s m below meth c ls C hl hW hZ
  have hl : lv_has ls 4 [(0, .ref x0), (1, .int x1), (2, .int x2)] := hl
  have hkm : Km h h := Km.rf h
  refine lv_iload_n C.1 C.2.1 dX11_figure_0 rfl (lv_at hl 2 rfl) ?_
  refine lv_if_lt (tgt := 10) C.1 C.2.1 dX11_figure_1 (by decide) (fun c_1 => ?_) (fun c_1 => ?_)
  · have hE := br_p hE c_1
    exact bX11_figure_10 C hkm hW hZ _ (lv_sub hl [] rfl) hE
  · have hE := br_n hE c_1
    refine lv_iload_n C.1 C.2.1 dX11_figure_4 rfl (lv_at hl 2 rfl) ?_
    refine lv_bipush (v := (8 : Int32)) C.1 C.2.1 dX11_figure_5 (by decide) ?_
    refine lv_icmp_le (tgt := 13) C.1 C.2.1 dX11_figure_7 (by decide) (fun c_2 => ?_) (fun c_2 => ?_)
    · have hE := br_p hE c_2
      refine lv_aload_n C.1 C.2.1 dX11_figure_13 rfl (lv_at hl 0 rfl) ?_
      refine lv_iload_n C.1 C.2.1 dX11_figure_14 rfl (lv_at hl 1 rfl) ?_
      obtain ⟨o_3, eo_3, hE⟩ := cl_e hE
      refine x_kI (o := o_3) (z_runV (As := [.int x1]) (rest := []) C (ct_X11_isPlace l X k_x0 eo_3) cw_X11_193 hW hZ k_x0 (by decide) rfl rfl rfl hl.1 (Nat.le_of_ble_eq_true rfl) rfl dX11_figure_15 ⟨Nat.le_of_ble_eq_true rfl, Nat.le_of_ble_eq_true rfl⟩ ⟨Nat.le_refl _, Nat.le_refl _⟩) hZ (fun _ _ hW km hZ => ?_)
      replace hkm := hkm.tr km
      replace k_x0 := km.at k_x0 (by decide)
      refine lv_if_ne (tgt := 24) C.1 C.2.1 dX11_figure_18 (by decide) (fun c_4 => ?_) (fun c_4 => ?_)
      · have hE := br_n hE c_4
        refine lv_aload_n C.1 C.2.1 dX11_figure_24 rfl (lv_at hl 0 rfl) ?_
        obtain ⟨r_5, er_5, hE⟩ := cl_e hE
        refine gf_X11_103 C hW k_x0 er_5 dX11_figure_25 (fun k_r_5 => ?_)
        refine lv_iload_n C.1 C.2.1 dX11_figure_28 rfl (lv_at hl 1 rfl) ?_
        cases hE
      · have hE := br_p hE c_4
        refine lv_bipush (v := (-102 : Int32)) C.1 C.2.1 dX11_figure_21 (by decide) ?_
        exact x_iret C rfl rfl hW hZ hkm hE dX11_figure_23
    · have hE := br_n hE c_2
      exact bX11_figure_10 C hkm hW hZ _ (lv_sub hl [] rfl) hE
theorem dX11_isSide_0 : decode cX11_isSide 0 = .ok (.iload_n 0, 1) := by decide +kernel
theorem dX11_isSide_1 : decode cX11_isSide 1 = .ok (.ifCond .eq 8, 3) := by decide +kernel
theorem dX11_isSide_4 : decode cX11_isSide 4 = .ok (.iload_n 0, 1) := by decide +kernel
theorem dX11_isSide_5 : decode cX11_isSide 5 = .ok (.iconst 1, 1) := by decide +kernel
theorem dX11_isSide_6 : decode cX11_isSide 6 = .ok (.if_icmp .ne 7, 3) := by decide +kernel
theorem dX11_isSide_9 : decode cX11_isSide 9 = .ok (.iconst 1, 1) := by decide +kernel
theorem dX11_isSide_10 : decode cX11_isSide 10 = .ok (.goto 4, 3) := by decide +kernel
theorem dX11_isSide_13 : decode cX11_isSide 13 = .ok (.iconst 0, 1) := by decide +kernel
theorem dX11_isSide_14 : decode cX11_isSide 14 = .ok (.ireturn, 1) := by decide +kernel
set_option maxRecDepth 20000 in
theorem moX11_isSide_14 {o : Int32 × Hp} {h : Hp} {t0 : Int32} (hE : sX11_isSide_14 h  t0 = some o) : Le h o.2 := by
  obtain ⟨g_1, hE⟩ := gd_e hE
  exact le_some2 hE
set_option maxRecDepth 20000 in
theorem moX11_isSide_9 {o : Int32 × Hp} {h : Hp} (hE : sX11_isSide_9 h  = some o) : Le h o.2 := by
  exact moX11_isSide_14 hE
set_option maxRecDepth 20000 in
theorem moX11_isSide {o : Int32 × Hp} {h : Hp} {x0 : Int32} (hE : sX11_isSide h x0 = some o) : Le h o.2 := by
  rcases br_e hE with ⟨_, hE⟩ | ⟨_, hE⟩
  · exact moX11_isSide_9 hE
  · rcases br_e hE with ⟨_, hE⟩ | ⟨_, hE⟩
    · exact moX11_isSide_9 hE
    · exact moX11_isSide_14 hE
set_option maxRecDepth 20000 in
theorem bX11_isSide_14 {p : Program} {l : Launch} {e : Env} {s : State} {m : MethodId} {args : Array Value} {below : List Frame} {meth : Method} {c : Code} {X : Ec} {h0 : Hp} {o : Int32 × Hp} (C : Cx X p s m args meth c RX11 cX11_isSide 1 (some .boolean) "isSide") {h : Hp} {t0 : Int32} {H : Heap} {locs : List Loc} (hkm : Km h0 h) (hW : Wx X h H) (hZ : va_S (aA (eB X)) s.heap H locs) (ls : Array Slot) (hl : lv_has ls 1 []) (hE : sX11_isSide_14 h  t0 = some o) : W p l e (rm 0 0) s m args below meth c H locs 0 0 (MQ below (QI X h0 o.1 o.2) args s 0 0 (aA (eB X))) (F0 m 14 ls [.int t0]) := by
  obtain ⟨g_1, hE⟩ := gd_e hE
  exact x_iret C rfl (narB g_1) hW hZ hkm hE dX11_isSide_14
set_option maxRecDepth 20000 in
theorem bX11_isSide_9 {p : Program} {l : Launch} {e : Env} {s : State} {m : MethodId} {args : Array Value} {below : List Frame} {meth : Method} {c : Code} {X : Ec} {h0 : Hp} {o : Int32 × Hp} (C : Cx X p s m args meth c RX11 cX11_isSide 1 (some .boolean) "isSide") {h : Hp} {H : Heap} {locs : List Loc} (hkm : Km h0 h) (hW : Wx X h H) (hZ : va_S (aA (eB X)) s.heap H locs) (ls : Array Slot) (hl : lv_has ls 1 []) (hE : sX11_isSide_9 h  = some o) : W p l e (rm 0 0) s m args below meth c H locs 0 0 (MQ below (QI X h0 o.1 o.2) args s 0 0 (aA (eB X))) (F0 m 9 ls []) := by
  refine lv_iconst (v := (1 : Int32)) C.1 C.2.1 dX11_isSide_9 (by decide) ?_
  refine lv_goto (tgt := 14) C.1 C.2.1 dX11_isSide_10 (by decide) ?_
  exact bX11_isSide_14 C hkm hW hZ _ (lv_sub hl [] rfl) hE
set_option maxRecDepth 20000 in
theorem ct_X11_isSide (l : Launch) (X : Ec) {h : Hp} {x0 : Int32} {o : Int32 × Hp} (hE : sX11_isSide h x0 = some o) : MetI l yX11_isSide cX11_isSide 1 (some .boolean) 0 0 X [.int x0] h o := by
  refine x_met (by decide) (Nat.le_of_ble_eq_true rfl) ?_
  intro p e s m below meth c ls C hl hW hZ
  have hl : lv_has ls 1 [(0, .int x0)] := hl
  have hkm : Km h h := Km.rf h
  refine lv_iload_n C.1 C.2.1 dX11_isSide_0 rfl (lv_at hl 0 rfl) ?_
  refine lv_if_eq (tgt := 9) C.1 C.2.1 dX11_isSide_1 (by decide) (fun c_1 => ?_) (fun c_1 => ?_)
  · have hE := br_p hE c_1
    exact bX11_isSide_9 C hkm hW hZ _ (lv_sub hl [] rfl) hE
  · have hE := br_n hE c_1
    refine lv_iload_n C.1 C.2.1 dX11_isSide_4 rfl (lv_at hl 0 rfl) ?_
    refine lv_iconst (v := (1 : Int32)) C.1 C.2.1 dX11_isSide_5 (by decide) ?_
    refine lv_icmp_ne (tgt := 13) C.1 C.2.1 dX11_isSide_6 (by decide) (fun c_2 => ?_) (fun c_2 => ?_)
    · have hE := br_n hE c_2
      refine lv_iconst (v := (0 : Int32)) C.1 C.2.1 dX11_isSide_13 (by decide) ?_
      exact bX11_isSide_14 C hkm hW hZ _ (lv_sub hl [] rfl) hE
    · have hE := br_p hE c_2
      exact bX11_isSide_9 C hkm hW hZ _ (lv_sub hl [] rfl) hE
set_option maxRecDepth 100000 in
theorem m_1289 : Cond.methodLink RX11 247 yX11_isSide ∈ W0 := w0_in (List.mem_append_right _ (List.mem_of_getElem? (i := 1289) rfl)) rfl
set_option maxRecDepth 100000 in
theorem m_1290 : Cond.static yX11_isSide ∈ W0 := w0_in (List.mem_append_right _ (List.mem_of_getElem? (i := 1290) rfl)) rfl
set_option maxRecDepth 100000 in
theorem m_1291 : Cond.code yX11_isSide cX11_isSide 1 (some .boolean) ∈ W0 := w0_in (List.mem_append_right _ (List.mem_of_getElem? (i := 1291) rfl)) rfl
theorem cw_X11_247 : cwd RX11 247 yX11_isSide cX11_isSide 1 (some .boolean) true 1 := ⟨m_1291, m_1289, m_1, m_1290, by decide, by decide, by decide +kernel⟩
theorem dX11_attacked_0 : decode cX11_attacked 0 = .ok (.aload_n 0, 1) := by decide +kernel
theorem dX11_attacked_1 : decode cX11_attacked 1 = .ok (.iload_n 2, 1) := by decide +kernel
theorem dX11_attacked_2 : decode cX11_attacked 2 = .ok (.invokevirtual 208, 3) := by decide +kernel
theorem dX11_attacked_5 : decode cX11_attacked 5 = .ok (.ifCond .eq 10, 3) := by decide +kernel
theorem dX11_attacked_8 : decode cX11_attacked 8 = .ok (.iload_n 3, 1) := by decide +kernel
theorem dX11_attacked_9 : decode cX11_attacked 9 = .ok (.invokestatic 247, 3) := by decide +kernel
theorem dX11_attacked_12 : decode cX11_attacked 12 = .ok (.ifCond .ne 6, 3) := by decide +kernel
theorem dX11_attacked_15 : decode cX11_attacked 15 = .ok (.bipush (-101), 2) := by decide +kernel
theorem dX11_attacked_17 : decode cX11_attacked 17 = .ok (.ireturn, 1) := by decide +kernel
theorem dX11_attacked_18 : decode cX11_attacked 18 = .ok (.aload_n 0, 1) := by decide +kernel
theorem dX11_attacked_19 : decode cX11_attacked 19 = .ok (.iload_n 1, 1) := by decide +kernel
theorem dX11_attacked_20 : decode cX11_attacked 20 = .ok (.invokevirtual 193, 3) := by decide +kernel
theorem dX11_attacked_23 : decode cX11_attacked 23 = .ok (.ifCond .ne 6, 3) := by decide +kernel
theorem dX11_attacked_26 : decode cX11_attacked 26 = .ok (.bipush (-102), 2) := by decide +kernel
theorem dX11_attacked_28 : decode cX11_attacked 28 = .ok (.ireturn, 1) := by decide +kernel
theorem dX11_attacked_29 : decode cX11_attacked 29 = .ok (.aload_n 0, 1) := by decide +kernel
theorem dX11_attacked_30 : decode cX11_attacked 30 = .ok (.getfield 50, 3) := by decide +kernel
theorem dX11_attacked_33 : decode cX11_attacked 33 = .ok (.aload_n 0, 1) := by decide +kernel
theorem dX11_attacked_34 : decode cX11_attacked 34 = .ok (.getfield 103, 3) := by decide +kernel
theorem dX11_attacked_37 : decode cX11_attacked 37 = .ok (.iload_n 1, 1) := by decide +kernel
theorem dX11_attacked_38 : decode cX11_attacked 38 = .ok (.aaload, 1) := by decide +kernel
set_option maxRecDepth 20000 in
theorem moX11_attacked_15 {o : Int32 × Hp} {h : Hp} (hE : sX11_attacked_15 h  = some o) : Le h o.2 := by
  exact le_some2 hE
set_option maxRecDepth 20000 in
theorem moX11_attacked {o : Int32 × Hp} {h : Hp} {x0 : Nat} {x1 : Int32} {x2 : Int32} {x3 : Int32} (hE : sX11_attacked h x0 x1 x2 x3 = some o) : Le h o.2 := by
  obtain ⟨o_1, eo_1, hE⟩ := cl_e hE
  refine (moX11_isSquare eo_1).tr ?_
  rcases br_e hE with ⟨_, hE⟩ | ⟨_, hE⟩
  · exact moX11_attacked_15 hE
  · obtain ⟨o_3, eo_3, hE⟩ := cl_e hE
    refine (moX11_isSide eo_3).tr ?_
    rcases br_e hE with ⟨_, hE⟩ | ⟨_, hE⟩
    · exact moX11_attacked_15 hE
    · obtain ⟨o_5, eo_5, hE⟩ := cl_e hE
      refine (moX11_isPlace eo_5).tr ?_
      rcases br_e hE with ⟨_, hE⟩ | ⟨_, hE⟩
      · exact le_some2 hE
      · obtain ⟨r_7, er_7, hE⟩ := cl_e hE
        obtain ⟨r_8, er_8, hE⟩ := cl_e hE
        cases hE
set_option maxRecDepth 20000 in
theorem bX11_attacked_15 {p : Program} {l : Launch} {e : Env} {s : State} {m : MethodId} {args : Array Value} {below : List Frame} {meth : Method} {c : Code} {X : Ec} {h0 : Hp} {o : Int32 × Hp} (C : Cx X p s m args meth c RX11 cX11_attacked 4 (some .int) "attacked") {h : Hp} {H : Heap} {locs : List Loc} (hkm : Km h0 h) (hW : Wx X h H) (hZ : va_S (aA (eB X)) s.heap H locs) (ls : Array Slot) (hl : lv_has ls 4 []) (hE : sX11_attacked_15 h  = some o) : W p l e (rm 1 21) s m args below meth c H locs 0 0 (MQ below (QI X h0 o.1 o.2) args s 0 0 (aA (eB X))) (F0 m 15 ls []) := by
  refine lv_bipush (v := (-101 : Int32)) C.1 C.2.1 dX11_attacked_15 (by decide) ?_
  exact x_iret C rfl rfl hW hZ hkm hE dX11_attacked_17
set_option maxRecDepth 20000 in
theorem ct_X11_attacked (l : Launch) (X : Ec) {h : Hp} {x0 : Nat} {x1 : Int32} {x2 : Int32} {x3 : Int32} {o : Int32 × Hp} (k_x0 : hK h x0 = 11) (hE : sX11_attacked h x0 x1 x2 x3 = some o) : MetI l yX11_attacked cX11_attacked 4 (some .int) 1 21 X [.ref x0, .int x1, .int x2, .int x3] h o := by
  refine x_met (by decide) (Nat.le_of_ble_eq_true rfl) ?_
  intro p e s m below meth c ls C hl hW hZ
  have hl : lv_has ls 4 [(0, .ref x0), (1, .int x1), (2, .int x2), (3, .int x3)] := hl
  have hkm : Km h h := Km.rf h
  refine lv_aload_n C.1 C.2.1 dX11_attacked_0 rfl (lv_at hl 0 rfl) ?_
  refine lv_iload_n C.1 C.2.1 dX11_attacked_1 rfl (lv_at hl 2 rfl) ?_
  obtain ⟨o_1, eo_1, hE⟩ := cl_e hE
  refine x_kI (o := o_1) (z_runV (As := [.int x2]) (rest := []) C (ct_X11_isSquare l X k_x0 eo_1) cw_X11_208 hW hZ k_x0 (by decide) rfl rfl rfl hl.1 (Nat.le_of_ble_eq_true rfl) rfl dX11_attacked_2 ⟨Nat.le_of_ble_eq_true rfl, Nat.le_of_ble_eq_true rfl⟩ ⟨Nat.le_refl _, Nat.le_refl _⟩) hZ (fun _ _ hW km hZ => ?_)
  replace hkm := hkm.tr km
  replace k_x0 := km.at k_x0 (by decide)
  refine lv_if_eq (tgt := 15) C.1 C.2.1 dX11_attacked_5 (by decide) (fun c_2 => ?_) (fun c_2 => ?_)
  · have hE := br_p hE c_2
    exact bX11_attacked_15 C hkm hW hZ _ (lv_sub hl [] rfl) hE
  · have hE := br_n hE c_2
    refine lv_iload_n C.1 C.2.1 dX11_attacked_8 rfl (lv_at hl 3 rfl) ?_
    obtain ⟨o_3, eo_3, hE⟩ := cl_e hE
    refine x_kI (o := o_3) (z_runS (As := [.int x3]) (rest := []) C (ct_X11_isSide l X eo_3) cw_X11_247 hW hZ rfl hl.1 (Nat.le_of_ble_eq_true rfl) rfl dX11_attacked_9 ⟨Nat.le_of_ble_eq_true rfl, Nat.le_of_ble_eq_true rfl⟩ ⟨Nat.le_refl _, Nat.le_refl _⟩) hZ (fun _ _ hW km hZ => ?_)
    replace hkm := hkm.tr km
    replace k_x0 := km.at k_x0 (by decide)
    refine lv_if_ne (tgt := 18) C.1 C.2.1 dX11_attacked_12 (by decide) (fun c_4 => ?_) (fun c_4 => ?_)
    · have hE := br_n hE c_4
      refine lv_aload_n C.1 C.2.1 dX11_attacked_18 rfl (lv_at hl 0 rfl) ?_
      refine lv_iload_n C.1 C.2.1 dX11_attacked_19 rfl (lv_at hl 1 rfl) ?_
      obtain ⟨o_5, eo_5, hE⟩ := cl_e hE
      refine x_kI (o := o_5) (z_runV (As := [.int x1]) (rest := []) C (ct_X11_isPlace l X k_x0 eo_5) cw_X11_193 hW hZ k_x0 (by decide) rfl rfl rfl hl.1 (Nat.le_of_ble_eq_true rfl) rfl dX11_attacked_20 ⟨Nat.le_of_ble_eq_true rfl, Nat.le_of_ble_eq_true rfl⟩ ⟨Nat.le_refl _, Nat.le_refl _⟩) hZ (fun _ _ hW km hZ => ?_)
      replace hkm := hkm.tr km
      replace k_x0 := km.at k_x0 (by decide)
      refine lv_if_ne (tgt := 29) C.1 C.2.1 dX11_attacked_23 (by decide) (fun c_6 => ?_) (fun c_6 => ?_)
      · have hE := br_n hE c_6
        refine lv_aload_n C.1 C.2.1 dX11_attacked_29 rfl (lv_at hl 0 rfl) ?_
        obtain ⟨r_7, er_7, hE⟩ := cl_e hE
        refine gf_X11_50 C hW k_x0 er_7 dX11_attacked_30 (fun k_r_7 => ?_)
        refine lv_aload_n C.1 C.2.1 dX11_attacked_33 rfl (lv_at hl 0 rfl) ?_
        obtain ⟨r_8, er_8, hE⟩ := cl_e hE
        refine gf_X11_103 C hW k_x0 er_8 dX11_attacked_34 (fun k_r_8 => ?_)
        refine lv_iload_n C.1 C.2.1 dX11_attacked_37 rfl (lv_at hl 1 rfl) ?_
        cases hE
      · have hE := br_p hE c_6
        refine lv_bipush (v := (-102 : Int32)) C.1 C.2.1 dX11_attacked_26 (by decide) ?_
        exact x_iret C rfl rfl hW hZ hkm hE dX11_attacked_28
    · have hE := br_p hE c_4
      exact bX11_attacked_15 C hkm hW hZ _ (lv_sub hl [] rfl) hE
theorem dX11_listMoves_0 : decode cX11_listMoves 0 = .ok (.aload_n 0, 1) := by decide +kernel
theorem dX11_listMoves_1 : decode cX11_listMoves 1 = .ok (.iload_n 1, 1) := by decide +kernel
theorem dX11_listMoves_2 : decode cX11_listMoves 2 = .ok (.invokevirtual 193, 3) := by decide +kernel
theorem dX11_listMoves_5 : decode cX11_listMoves 5 = .ok (.ifCond .eq 26, 3) := by decide +kernel
theorem dX11_listMoves_8 : decode cX11_listMoves 8 = .ok (.aload_n 0, 1) := by decide +kernel
theorem dX11_listMoves_9 : decode cX11_listMoves 9 = .ok (.getfield 50, 3) := by decide +kernel
theorem dX11_listMoves_12 : decode cX11_listMoves 12 = .ok (.aload_n 0, 1) := by decide +kernel
theorem dX11_listMoves_13 : decode cX11_listMoves 13 = .ok (.getfield 103, 3) := by decide +kernel
theorem dX11_listMoves_16 : decode cX11_listMoves 16 = .ok (.iload_n 1, 1) := by decide +kernel
theorem dX11_listMoves_17 : decode cX11_listMoves 17 = .ok (.aaload, 1) := by decide +kernel
theorem dX11_listMoves_31 : decode cX11_listMoves 31 = .ok (.iconst 0, 1) := by decide +kernel
theorem dX11_listMoves_32 : decode cX11_listMoves 32 = .ok (.ireturn, 1) := by decide +kernel
set_option maxRecDepth 20000 in
theorem moX11_listMoves_32 {o : Int32 × Hp} {h : Hp} {t0 : Int32} (hE : sX11_listMoves_32 h  t0 = some o) : Le h o.2 := by
  exact le_some2 hE
set_option maxRecDepth 20000 in
theorem moX11_listMoves {o : Int32 × Hp} {h : Hp} {x0 : Nat} {x1 : Int32} (hE : sX11_listMoves h x0 x1 = some o) : Le h o.2 := by
  obtain ⟨o_1, eo_1, hE⟩ := cl_e hE
  refine (moX11_isPlace eo_1).tr ?_
  rcases br_e hE with ⟨_, hE⟩ | ⟨_, hE⟩
  · exact moX11_listMoves_32 hE
  · obtain ⟨r_3, er_3, hE⟩ := cl_e hE
    obtain ⟨r_4, er_4, hE⟩ := cl_e hE
    cases hE
set_option maxRecDepth 20000 in
theorem bX11_listMoves_32 {p : Program} {l : Launch} {e : Env} {s : State} {m : MethodId} {args : Array Value} {below : List Frame} {meth : Method} {c : Code} {X : Ec} {h0 : Hp} {o : Int32 × Hp} (C : Cx X p s m args meth c RX11 cX11_listMoves 2 (some .int) "listMoves") {h : Hp} {t0 : Int32} {H : Heap} {locs : List Loc} (hkm : Km h0 h) (hW : Wx X h H) (hZ : va_S (aA (eB X)) s.heap H locs) (ls : Array Slot) (hl : lv_has ls 2 []) (hE : sX11_listMoves_32 h  t0 = some o) : W p l e (rm 1 21) s m args below meth c H locs 0 0 (MQ below (QI X h0 o.1 o.2) args s 0 0 (aA (eB X))) (F0 m 32 ls [.int t0]) := by
  exact x_iret C rfl rfl hW hZ hkm hE dX11_listMoves_32
set_option maxRecDepth 20000 in
theorem ct_X11_listMoves (l : Launch) (X : Ec) {h : Hp} {x0 : Nat} {x1 : Int32} {o : Int32 × Hp} (k_x0 : hK h x0 = 11) (hE : sX11_listMoves h x0 x1 = some o) : MetI l yX11_listMoves cX11_listMoves 2 (some .int) 1 21 X [.ref x0, .int x1] h o := by
  refine x_met (by decide) (Nat.le_of_ble_eq_true rfl) ?_
  intro p e s m below meth c ls C hl hW hZ
  have hl : lv_has ls 2 [(0, .ref x0), (1, .int x1)] := hl
  have hkm : Km h h := Km.rf h
  refine lv_aload_n C.1 C.2.1 dX11_listMoves_0 rfl (lv_at hl 0 rfl) ?_
  refine lv_iload_n C.1 C.2.1 dX11_listMoves_1 rfl (lv_at hl 1 rfl) ?_
  obtain ⟨o_1, eo_1, hE⟩ := cl_e hE
  refine x_kI (o := o_1) (z_runV (As := [.int x1]) (rest := []) C (ct_X11_isPlace l X k_x0 eo_1) cw_X11_193 hW hZ k_x0 (by decide) rfl rfl rfl hl.1 (Nat.le_of_ble_eq_true rfl) rfl dX11_listMoves_2 ⟨Nat.le_of_ble_eq_true rfl, Nat.le_of_ble_eq_true rfl⟩ ⟨Nat.le_refl _, Nat.le_refl _⟩) hZ (fun _ _ hW km hZ => ?_)
  replace hkm := hkm.tr km
  replace k_x0 := km.at k_x0 (by decide)
  refine lv_if_eq (tgt := 31) C.1 C.2.1 dX11_listMoves_5 (by decide) (fun c_2 => ?_) (fun c_2 => ?_)
  · have hE := br_p hE c_2
    refine lv_iconst (v := (0 : Int32)) C.1 C.2.1 dX11_listMoves_31 (by decide) ?_
    exact bX11_listMoves_32 C hkm hW hZ _ (lv_sub hl [] rfl) hE
  · have hE := br_n hE c_2
    refine lv_aload_n C.1 C.2.1 dX11_listMoves_8 rfl (lv_at hl 0 rfl) ?_
    obtain ⟨r_3, er_3, hE⟩ := cl_e hE
    refine gf_X11_50 C hW k_x0 er_3 dX11_listMoves_9 (fun k_r_3 => ?_)
    refine lv_aload_n C.1 C.2.1 dX11_listMoves_12 rfl (lv_at hl 0 rfl) ?_
    obtain ⟨r_4, er_4, hE⟩ := cl_e hE
    refine gf_X11_103 C hW k_x0 er_4 dX11_listMoves_13 (fun k_r_4 => ?_)
    refine lv_iload_n C.1 C.2.1 dX11_listMoves_16 rfl (lv_at hl 1 rfl) ?_
    cases hE
set_option maxRecDepth 100000 in
theorem ms_68 : Cond.selects RX11 yX11_listMoves yX11_listMoves ∈ W0 := w0_in (List.mem_append_left _ (List.mem_of_getElem? (i := 68) rfl)) rfl
set_option maxRecDepth 100000 in
theorem m_1297 : Cond.methodLink RX11 254 yX11_listMoves ∈ W0 := w0_in (List.mem_append_right _ (List.mem_of_getElem? (i := 1297) rfl)) rfl
set_option maxRecDepth 100000 in
theorem m_1299 : Cond.instanceMethod yX11_listMoves ∈ W0 := w0_in (List.mem_append_right _ (List.mem_of_getElem? (i := 1299) rfl)) rfl
set_option maxRecDepth 100000 in
theorem m_1300 : Cond.code yX11_listMoves cX11_listMoves 2 (some .int) ∈ W0 := w0_in (List.mem_append_right _ (List.mem_of_getElem? (i := 1300) rfl)) rfl
theorem cw_X11_254 : cwd RX11 254 yX11_listMoves cX11_listMoves 2 (some .int) false 1 := ⟨m_1300, m_1297, m_1, ⟨m_1299, ms_68⟩, by decide, by decide, by decide +kernel⟩
theorem dX11_moves_0 : decode cX11_moves 0 = .ok (.aload_n 0, 1) := by decide +kernel
theorem dX11_moves_1 : decode cX11_moves 1 = .ok (.iload_n 1, 1) := by decide +kernel
theorem dX11_moves_2 : decode cX11_moves 2 = .ok (.invokevirtual 193, 3) := by decide +kernel
theorem dX11_moves_5 : decode cX11_moves 5 = .ok (.ifCond .eq 11, 3) := by decide +kernel
theorem dX11_moves_8 : decode cX11_moves 8 = .ok (.aload_n 0, 1) := by decide +kernel
theorem dX11_moves_9 : decode cX11_moves 9 = .ok (.iload_n 1, 1) := by decide +kernel
theorem dX11_moves_10 : decode cX11_moves 10 = .ok (.invokevirtual 254, 3) := by decide +kernel
theorem dX11_moves_13 : decode cX11_moves 13 = .ok (.goto 5, 3) := by decide +kernel
theorem dX11_moves_16 : decode cX11_moves 16 = .ok (.bipush (-102), 2) := by decide +kernel
theorem dX11_moves_18 : decode cX11_moves 18 = .ok (.ireturn, 1) := by decide +kernel
set_option maxRecDepth 20000 in
theorem moX11_moves_18 {o : Int32 × Hp} {h : Hp} {t0 : Int32} (hE : sX11_moves_18 h  t0 = some o) : Le h o.2 := by
  exact le_some2 hE
set_option maxRecDepth 20000 in
theorem moX11_moves {o : Int32 × Hp} {h : Hp} {x0 : Nat} {x1 : Int32} (hE : sX11_moves h x0 x1 = some o) : Le h o.2 := by
  obtain ⟨o_1, eo_1, hE⟩ := cl_e hE
  refine (moX11_isPlace eo_1).tr ?_
  rcases br_e hE with ⟨_, hE⟩ | ⟨_, hE⟩
  · exact moX11_moves_18 hE
  · obtain ⟨o_3, eo_3, hE⟩ := cl_e hE
    refine (moX11_listMoves eo_3).tr ?_
    exact moX11_moves_18 hE
set_option maxRecDepth 20000 in
theorem bX11_moves_18 {p : Program} {l : Launch} {e : Env} {s : State} {m : MethodId} {args : Array Value} {below : List Frame} {meth : Method} {c : Code} {X : Ec} {h0 : Hp} {o : Int32 × Hp} (C : Cx X p s m args meth c RX11 cX11_moves 2 (some .int) "moves") {h : Hp} {t0 : Int32} {H : Heap} {locs : List Loc} (hkm : Km h0 h) (hW : Wx X h H) (hZ : va_S (aA (eB X)) s.heap H locs) (ls : Array Slot) (hl : lv_has ls 2 []) (hE : sX11_moves_18 h  t0 = some o) : W p l e (rm 2 42) s m args below meth c H locs 0 0 (MQ below (QI X h0 o.1 o.2) args s 0 0 (aA (eB X))) (F0 m 18 ls [.int t0]) := by
  exact x_iret C rfl rfl hW hZ hkm hE dX11_moves_18
set_option maxRecDepth 20000 in
theorem ct_X11_moves (l : Launch) (X : Ec) {h : Hp} {x0 : Nat} {x1 : Int32} {o : Int32 × Hp} (k_x0 : hK h x0 = 11) (hE : sX11_moves h x0 x1 = some o) : MetI l yX11_moves cX11_moves 2 (some .int) 2 42 X [.ref x0, .int x1] h o := by
  refine x_met (by decide) (Nat.le_of_ble_eq_true rfl) ?_
  intro p e s m below meth c ls C hl hW hZ
  have hl : lv_has ls 2 [(0, .ref x0), (1, .int x1)] := hl
  have hkm : Km h h := Km.rf h
  refine lv_aload_n C.1 C.2.1 dX11_moves_0 rfl (lv_at hl 0 rfl) ?_
  refine lv_iload_n C.1 C.2.1 dX11_moves_1 rfl (lv_at hl 1 rfl) ?_
  obtain ⟨o_1, eo_1, hE⟩ := cl_e hE
  refine x_kI (o := o_1) (z_runV (As := [.int x1]) (rest := []) C (ct_X11_isPlace l X k_x0 eo_1) cw_X11_193 hW hZ k_x0 (by decide) rfl rfl rfl hl.1 (Nat.le_of_ble_eq_true rfl) rfl dX11_moves_2 ⟨Nat.le_of_ble_eq_true rfl, Nat.le_of_ble_eq_true rfl⟩ ⟨Nat.le_refl _, Nat.le_refl _⟩) hZ (fun _ _ hW km hZ => ?_)
  replace hkm := hkm.tr km
  replace k_x0 := km.at k_x0 (by decide)
  refine lv_if_eq (tgt := 16) C.1 C.2.1 dX11_moves_5 (by decide) (fun c_2 => ?_) (fun c_2 => ?_)
  · have hE := br_p hE c_2
    refine lv_bipush (v := (-102 : Int32)) C.1 C.2.1 dX11_moves_16 (by decide) ?_
    exact bX11_moves_18 C hkm hW hZ _ (lv_sub hl [] rfl) hE
  · have hE := br_n hE c_2
    refine lv_aload_n C.1 C.2.1 dX11_moves_8 rfl (lv_at hl 0 rfl) ?_
    refine lv_iload_n C.1 C.2.1 dX11_moves_9 rfl (lv_at hl 1 rfl) ?_
    obtain ⟨o_3, eo_3, hE⟩ := cl_e hE
    refine x_kI (o := o_3) (z_runV (As := [.int x1]) (rest := []) C (ct_X11_listMoves l X k_x0 eo_3) cw_X11_254 hW hZ k_x0 (by decide) rfl rfl rfl hl.1 (Nat.le_of_ble_eq_true rfl) rfl dX11_moves_10 ⟨Nat.le_of_ble_eq_true rfl, Nat.le_of_ble_eq_true rfl⟩ ⟨Nat.le_refl _, Nat.le_refl _⟩) hZ (fun _ _ hW km hZ => ?_)
    replace hkm := hkm.tr km
    replace k_x0 := km.at k_x0 (by decide)
    refine lv_goto (tgt := 18) C.1 C.2.1 dX11_moves_13 (by decide) ?_
    exact bX11_moves_18 C hkm hW hZ _ (lv_sub hl [] rfl) hE
section
variable {p : Program} {l : Launch} {e : Env} {R : Room} {s : State} {m : MethodId} {args : Array Value} {below : List Frame} {meth : Method} {c : Code} {H : Heap} {locs : List Loc} {cells slots : Nat} {Q : State → Prop}
variable {cc : ByteArray} {pc : Nat} {ls : Array Slot} {rest : List Value} {X : Ec} {h h1 : Hp} {nL : Nat} {rt : Option FieldType} {mn : String}
theorem gf_X11_97 {a r : Nat} (C : Cx X p s m args meth c RX11 cc nL rt mn) (hW : Wx X h H) (ha : hK h a = 11) (hr : hR h a 12 = some r) (hdg : decode cc pc = .ok (.getfield 97, 3)) (kk : hK h r = 17 → W p l e R s m args below meth c H locs cells slots Q (F0 m (pc + 3) ls (.ref r :: rest))) : W p l e R s m args below meth c H locs cells slots Q (F0 m pc ls (.ref a :: rest)) :=
  y_getr C hW ha i_X11 (by decide) rfl (by decide) m_841 rfl rfl hr hdg kk
end
theorem dX11_move_0 : decode cX11_move 0 = .ok (.iload_n 3, 1) := by decide +kernel
theorem dX11_move_1 : decode cX11_move 1 = .ok (.ifCond .lt 8, 3) := by decide +kernel
theorem dX11_move_4 : decode cX11_move 4 = .ok (.iload_n 3, 1) := by decide +kernel
theorem dX11_move_5 : decode cX11_move 5 = .ok (.iconst 5, 1) := by decide +kernel
theorem dX11_move_6 : decode cX11_move 6 = .ok (.if_icmp .le 6, 3) := by decide +kernel
theorem dX11_move_9 : decode cX11_move 9 = .ok (.bipush (-101), 2) := by decide +kernel
theorem dX11_move_11 : decode cX11_move 11 = .ok (.ireturn, 1) := by decide +kernel
theorem dX11_move_12 : decode cX11_move 12 = .ok (.iload_n 2, 1) := by decide +kernel
theorem dX11_move_13 : decode cX11_move 13 = .ok (.ifCond .lt 12, 3) := by decide +kernel
theorem dX11_move_16 : decode cX11_move 16 = .ok (.iload_n 2, 1) := by decide +kernel
theorem dX11_move_17 : decode cX11_move 17 = .ok (.aload_n 0, 1) := by decide +kernel
theorem dX11_move_18 : decode cX11_move 18 = .ok (.iload_n 1, 1) := by decide +kernel
theorem dX11_move_19 : decode cX11_move 19 = .ok (.invokevirtual 254, 3) := by decide +kernel
theorem dX11_move_22 : decode cX11_move 22 = .ok (.if_icmp .lt 6, 3) := by decide +kernel
theorem dX11_move_25 : decode cX11_move 25 = .ok (.bipush (-102), 2) := by decide +kernel
theorem dX11_move_27 : decode cX11_move 27 = .ok (.ireturn, 1) := by decide +kernel
theorem dX11_move_28 : decode cX11_move 28 = .ok (.aload_n 0, 1) := by decide +kernel
theorem dX11_move_29 : decode cX11_move 29 = .ok (.getfield 97, 3) := by decide +kernel
theorem dX11_move_32 : decode cX11_move 32 = .ok (.iload_n 2, 1) := by decide +kernel
theorem dX11_move_33 : decode cX11_move 33 = .ok (.iaload, 1) := by decide +kernel
theorem dX11_move_34 : decode cX11_move 34 = .ok (.istore 4, 2) := by decide +kernel
theorem dX11_move_36 : decode cX11_move 36 = .ok (.iload_n 3, 1) := by decide +kernel
theorem dX11_move_37 : decode cX11_move 37 = .ok (.tableswitch 78 0 4 #[35, 54, 60, 66, 72], 35) := by decide +kernel
theorem dX11_move_72 : decode cX11_move 72 = .ok (.iload 4, 2) := by decide +kernel
theorem dX11_move_74 : decode cX11_move 74 = .ok (.invokestatic 257, 3) := by decide +kernel
theorem dX11_move_91 : decode cX11_move 91 = .ok (.iload 4, 2) := by decide +kernel
theorem dX11_move_93 : decode cX11_move 93 = .ok (.invokestatic 263, 3) := by decide +kernel
theorem dX11_move_97 : decode cX11_move 97 = .ok (.iload 4, 2) := by decide +kernel
theorem dX11_move_99 : decode cX11_move 99 = .ok (.invokestatic 266, 3) := by decide +kernel
theorem dX11_move_103 : decode cX11_move 103 = .ok (.iload 4, 2) := by decide +kernel
theorem dX11_move_105 : decode cX11_move 105 = .ok (.invokestatic 269, 3) := by decide +kernel
theorem dX11_move_109 : decode cX11_move 109 = .ok (.iload 4, 2) := by decide +kernel
theorem dX11_move_111 : decode cX11_move 111 = .ok (.invokestatic 272, 3) := by decide +kernel
theorem dX11_move_115 : decode cX11_move 115 = .ok (.iload 4, 2) := by decide +kernel
theorem dX11_move_117 : decode cX11_move 117 = .ok (.invokestatic 257, 3) := by decide +kernel
set_option maxRecDepth 20000 in
theorem moX11_move_9 {o : Int32 × Hp} {h : Hp} (hE : sX11_move_9 h  = some o) : Le h o.2 := by
  exact le_some2 hE
set_option maxRecDepth 20000 in
theorem moX11_move_25 {o : Int32 × Hp} {h : Hp} (hE : sX11_move_25 h  = some o) : Le h o.2 := by
  exact le_some2 hE
set_option maxRecDepth 20000 in
theorem moX11_move {o : Int32 × Hp} {h : Hp} {x0 : Nat} {x1 : Int32} {x2 : Int32} {x3 : Int32} (hE : sX11_move h x0 x1 x2 x3 = some o) : Le h o.2 := by
  rcases br_e hE with ⟨_, hE⟩ | ⟨_, hE⟩
  · exact moX11_move_9 hE
  · rcases br_e hE with ⟨_, hE⟩ | ⟨_, hE⟩
    · rcases br_e hE with ⟨_, hE⟩ | ⟨_, hE⟩
      · exact moX11_move_25 hE
      · obtain ⟨o_4, eo_4, hE⟩ := cl_e hE
        refine (moX11_listMoves eo_4).tr ?_
        rcases br_e hE with ⟨_, hE⟩ | ⟨_, hE⟩
        · obtain ⟨r_6, er_6, hE⟩ := cl_e hE
          obtain ⟨g_7, hE⟩ := gd_e hE
          obtain ⟨v_8, ev_8, hE⟩ := nm_e2 hE
          rcases br_e hE with ⟨_, hE⟩ | ⟨_, hE⟩
          · cases hE
          rcases br_e hE with ⟨_, hE⟩ | ⟨_, hE⟩
          · cases hE
          rcases br_e hE with ⟨_, hE⟩ | ⟨_, hE⟩
          · cases hE
          rcases br_e hE with ⟨_, hE⟩ | ⟨_, hE⟩
          · cases hE
          rcases br_e hE with ⟨_, hE⟩ | ⟨_, hE⟩
          · cases hE
          cases hE
        · exact moX11_move_25 hE
    · exact moX11_move_9 hE
set_option maxRecDepth 20000 in
theorem bX11_move_9 {p : Program} {l : Launch} {e : Env} {s : State} {m : MethodId} {args : Array Value} {below : List Frame} {meth : Method} {c : Code} {X : Ec} {h0 : Hp} {o : Int32 × Hp} (C : Cx X p s m args meth c RX11 cX11_move 5 (some .int) "move") {h : Hp} {H : Heap} {locs : List Loc} (hkm : Km h0 h) (hW : Wx X h H) (hZ : va_S (aA (eB X)) s.heap H locs) (ls : Array Slot) (hl : lv_has ls 5 []) (hE : sX11_move_9 h  = some o) : W p l e (rm 2 42) s m args below meth c H locs 0 0 (MQ below (QI X h0 o.1 o.2) args s 0 0 (aA (eB X))) (F0 m 9 ls []) := by
  refine lv_bipush (v := (-101 : Int32)) C.1 C.2.1 dX11_move_9 (by decide) ?_
  exact x_iret C rfl rfl hW hZ hkm hE dX11_move_11
set_option maxRecDepth 20000 in
theorem bX11_move_25 {p : Program} {l : Launch} {e : Env} {s : State} {m : MethodId} {args : Array Value} {below : List Frame} {meth : Method} {c : Code} {X : Ec} {h0 : Hp} {o : Int32 × Hp} (C : Cx X p s m args meth c RX11 cX11_move 5 (some .int) "move") {h : Hp} {H : Heap} {locs : List Loc} (hkm : Km h0 h) (hW : Wx X h H) (hZ : va_S (aA (eB X)) s.heap H locs) (ls : Array Slot) (hl : lv_has ls 5 []) (hE : sX11_move_25 h  = some o) : W p l e (rm 2 42) s m args below meth c H locs 0 0 (MQ below (QI X h0 o.1 o.2) args s 0 0 (aA (eB X))) (F0 m 25 ls []) := by
  refine lv_bipush (v := (-102 : Int32)) C.1 C.2.1 dX11_move_25 (by decide) ?_
  exact x_iret C rfl rfl hW hZ hkm hE dX11_move_27
set_option maxRecDepth 20000 in
theorem ct_X11_move (l : Launch) (X : Ec) {h : Hp} {x0 : Nat} {x1 : Int32} {x2 : Int32} {x3 : Int32} {o : Int32 × Hp} (k_x0 : hK h x0 = 11) (hE : sX11_move h x0 x1 x2 x3 = some o) : MetI l yX11_move cX11_move 5 (some .int) 2 42 X [.ref x0, .int x1, .int x2, .int x3] h o := by
  refine x_met (by decide) (Nat.le_of_ble_eq_true rfl) ?_
  intro p e s m below meth c ls C hl hW hZ
  have hl : lv_has ls 5 [(0, .ref x0), (1, .int x1), (2, .int x2), (3, .int x3)] := hl
  have hkm : Km h h := Km.rf h
  refine lv_iload_n C.1 C.2.1 dX11_move_0 rfl (lv_at hl 3 rfl) ?_
  refine lv_if_lt (tgt := 9) C.1 C.2.1 dX11_move_1 (by decide) (fun c_1 => ?_) (fun c_1 => ?_)
  · have hE := br_p hE c_1
    exact bX11_move_9 C hkm hW hZ _ (lv_sub hl [] rfl) hE
  · have hE := br_n hE c_1
    refine lv_iload_n C.1 C.2.1 dX11_move_4 rfl (lv_at hl 3 rfl) ?_
    refine lv_iconst (v := (5 : Int32)) C.1 C.2.1 dX11_move_5 (by decide) ?_
    refine lv_icmp_le (tgt := 12) C.1 C.2.1 dX11_move_6 (by decide) (fun c_2 => ?_) (fun c_2 => ?_)
    · have hE := br_p hE c_2
      refine lv_iload_n C.1 C.2.1 dX11_move_12 rfl (lv_at hl 2 rfl) ?_
      refine lv_if_lt (tgt := 25) C.1 C.2.1 dX11_move_13 (by decide) (fun c_3 => ?_) (fun c_3 => ?_)
      · have hE := br_p hE c_3
        exact bX11_move_25 C hkm hW hZ _ (lv_sub hl [] rfl) hE
      · have hE := br_n hE c_3
        refine lv_iload_n C.1 C.2.1 dX11_move_16 rfl (lv_at hl 2 rfl) ?_
        refine lv_aload_n C.1 C.2.1 dX11_move_17 rfl (lv_at hl 0 rfl) ?_
        refine lv_iload_n C.1 C.2.1 dX11_move_18 rfl (lv_at hl 1 rfl) ?_
        obtain ⟨o_4, eo_4, hE⟩ := cl_e hE
        refine x_kI (o := o_4) (z_runV (As := [.int x1]) (rest := [.int x2]) C (ct_X11_listMoves l X k_x0 eo_4) cw_X11_254 hW hZ k_x0 (by decide) rfl rfl rfl hl.1 (Nat.le_of_ble_eq_true rfl) rfl dX11_move_19 ⟨Nat.le_of_ble_eq_true rfl, Nat.le_of_ble_eq_true rfl⟩ ⟨Nat.le_refl _, Nat.le_refl _⟩) hZ (fun _ _ hW km hZ => ?_)
        replace hkm := hkm.tr km
        replace k_x0 := km.at k_x0 (by decide)
        refine lv_icmp_lt (tgt := 28) C.1 C.2.1 dX11_move_22 (by decide) (fun c_5 => ?_) (fun c_5 => ?_)
        · have hE := br_p hE c_5
          refine lv_aload_n C.1 C.2.1 dX11_move_28 rfl (lv_at hl 0 rfl) ?_
          obtain ⟨r_6, er_6, hE⟩ := cl_e hE
          refine gf_X11_97 C hW k_x0 er_6 dX11_move_29 (fun k_r_6 => ?_)
          refine lv_iload_n C.1 C.2.1 dX11_move_32 rfl (lv_at hl 2 rfl) ?_
          obtain ⟨g_7, hE⟩ := gd_e hE
          refine y_iald C hW k_r_6 g_7 dX11_move_33 ?_
          obtain ⟨v_8, ev_8, hE⟩ := nm_e2 hE
          refine x_nmI ev_8 ?_
          refine lv_istore (lv' := [(4, .int v_8), (0, .ref x0), (1, .int x1), (2, .int x2), (3, .int x3)]) C.1 C.2.1 dX11_move_34 hl (by decide) rfl (fun ls hl => ?_)
          refine lv_iload_n C.1 C.2.1 dX11_move_36 rfl (lv_at hl 4 rfl) ?_
          by_cases c_9 : x3 = (0 : Int32)
          · have hE := br_p hE c_9
            refine lv_tableIn (off := 35) (tgt := 72) C.1 C.2.1 dX11_move_37 (by rw [c_9]; decide) (by rw [c_9]; decide) (by rw [c_9]; rfl) (by decide) ?_
            refine lv_iload C.1 C.2.1 dX11_move_72 (lv_at hl 0 rfl) ?_
            cases hE
          have hE := br_n hE c_9
          by_cases c_10 : x3 = (1 : Int32)
          · have hE := br_p hE c_10
            refine lv_tableIn (off := 54) (tgt := 91) C.1 C.2.1 dX11_move_37 (by rw [c_10]; decide) (by rw [c_10]; decide) (by rw [c_10]; rfl) (by decide) ?_
            refine lv_iload C.1 C.2.1 dX11_move_91 (lv_at hl 0 rfl) ?_
            cases hE
          have hE := br_n hE c_10
          by_cases c_11 : x3 = (2 : Int32)
          · have hE := br_p hE c_11
            refine lv_tableIn (off := 60) (tgt := 97) C.1 C.2.1 dX11_move_37 (by rw [c_11]; decide) (by rw [c_11]; decide) (by rw [c_11]; rfl) (by decide) ?_
            refine lv_iload C.1 C.2.1 dX11_move_97 (lv_at hl 0 rfl) ?_
            cases hE
          have hE := br_n hE c_11
          by_cases c_12 : x3 = (3 : Int32)
          · have hE := br_p hE c_12
            refine lv_tableIn (off := 66) (tgt := 103) C.1 C.2.1 dX11_move_37 (by rw [c_12]; decide) (by rw [c_12]; decide) (by rw [c_12]; rfl) (by decide) ?_
            refine lv_iload C.1 C.2.1 dX11_move_103 (lv_at hl 0 rfl) ?_
            cases hE
          have hE := br_n hE c_12
          by_cases c_13 : x3 = (4 : Int32)
          · have hE := br_p hE c_13
            refine lv_tableIn (off := 72) (tgt := 109) C.1 C.2.1 dX11_move_37 (by rw [c_13]; decide) (by rw [c_13]; decide) (by rw [c_13]; rfl) (by decide) ?_
            refine lv_iload C.1 C.2.1 dX11_move_109 (lv_at hl 0 rfl) ?_
            cases hE
          have hE := br_n hE c_13
          refine lv_tableOut (tgt := 115) C.1 C.2.1 dX11_move_37 (by have zc_9 := lv_neT (a := 0) c_9 (by decide); have zc_10 := lv_neT (a := 1) c_10 (by decide); have zc_11 := lv_neT (a := 2) c_11 (by decide); have zc_12 := lv_neT (a := 3) c_12 (by decide); have zc_13 := lv_neT (a := 4) c_13 (by decide); omega) (by decide) ?_
          refine lv_iload C.1 C.2.1 dX11_move_115 (lv_at hl 0 rfl) ?_
          cases hE
        · have hE := br_n hE c_5
          exact bX11_move_25 C hkm hW hZ _ (lv_sub hl [] rfl) hE
    · have hE := br_n hE c_2
      exact bX11_move_9 C hkm hW hZ _ (lv_sub hl [] rfl) hE
theorem dX11_go_0 : decode cX11_go 0 = .ok (.iload_n 2, 1) := by decide +kernel
theorem dX11_go_1 : decode cX11_go 1 = .ok (.ifCond .lt 12, 3) := by decide +kernel
theorem dX11_go_4 : decode cX11_go 4 = .ok (.iload_n 2, 1) := by decide +kernel
theorem dX11_go_5 : decode cX11_go 5 = .ok (.aload_n 0, 1) := by decide +kernel
theorem dX11_go_6 : decode cX11_go 6 = .ok (.iload_n 1, 1) := by decide +kernel
theorem dX11_go_7 : decode cX11_go 7 = .ok (.invokevirtual 254, 3) := by decide +kernel
theorem dX11_go_10 : decode cX11_go 10 = .ok (.if_icmp .lt 6, 3) := by decide +kernel
theorem dX11_go_13 : decode cX11_go 13 = .ok (.bipush (-102), 2) := by decide +kernel
theorem dX11_go_15 : decode cX11_go 15 = .ok (.ireturn, 1) := by decide +kernel
theorem dX11_go_16 : decode cX11_go 16 = .ok (.aload_n 0, 1) := by decide +kernel
theorem dX11_go_17 : decode cX11_go 17 = .ok (.invokevirtual 183, 3) := by decide +kernel
theorem dX11_go_20 : decode cX11_go 20 = .ok (.istore_n 3, 1) := by decide +kernel
theorem dX11_go_21 : decode cX11_go 21 = .ok (.iload_n 3, 1) := by decide +kernel
theorem dX11_go_22 : decode cX11_go 22 = .ok (.iconst (-1), 1) := by decide +kernel
theorem dX11_go_23 : decode cX11_go 23 = .ok (.if_icmp .ne 6, 3) := by decide +kernel
theorem dX11_go_26 : decode cX11_go 26 = .ok (.bipush (-104), 2) := by decide +kernel
theorem dX11_go_28 : decode cX11_go 28 = .ok (.ireturn, 1) := by decide +kernel
theorem dX11_go_29 : decode cX11_go 29 = .ok (.aload_n 0, 1) := by decide +kernel
theorem dX11_go_30 : decode cX11_go 30 = .ok (.iload_n 3, 1) := by decide +kernel
theorem dX11_go_31 : decode cX11_go 31 = .ok (.aload_n 0, 1) := by decide +kernel
theorem dX11_go_32 : decode cX11_go 32 = .ok (.getfield 103, 3) := by decide +kernel
theorem dX11_go_35 : decode cX11_go 35 = .ok (.iload_n 1, 1) := by decide +kernel
theorem dX11_go_36 : decode cX11_go 36 = .ok (.aaload, 1) := by decide +kernel
set_option maxRecDepth 20000 in
theorem moX11_go_13 {o : Int32 × Hp} {F : Nat} {h : Hp} (hE : sX11_go_13 F h  = some o) : Le h o.2 := by
  exact le_some2 hE
set_option maxRecDepth 20000 in
theorem moX11_go {o : Int32 × Hp} {F : Nat} {h : Hp} {x0 : Nat} {x1 : Int32} {x2 : Int32} (hE : sX11_go F h x0 x1 x2 = some o) : Le h o.2 := by
  rcases br_e hE with ⟨_, hE⟩ | ⟨_, hE⟩
  · exact moX11_go_13 hE
  · obtain ⟨o_2, eo_2, hE⟩ := cl_e hE
    refine (moX11_listMoves eo_2).tr ?_
    rcases br_e hE with ⟨_, hE⟩ | ⟨_, hE⟩
    · obtain ⟨o_4, eo_4, hE⟩ := cl_e hE
      refine (moX11_freePlace eo_4).tr ?_
      rcases br_e hE with ⟨_, hE⟩ | ⟨_, hE⟩
      · exact le_some2 hE
      · obtain ⟨r_6, er_6, hE⟩ := cl_e hE
        cases hE
    · exact moX11_go_13 hE
set_option maxRecDepth 20000 in
theorem bX11_go_13 {p : Program} {l : Launch} {e : Env} {s : State} {m : MethodId} {args : Array Value} {below : List Frame} {meth : Method} {c : Code} {X : Ec} {h0 : Hp} {o : Int32 × Hp} {F : Nat} (C : Cx X p s m args meth c RX11 cX11_go 4 (some .int) "go") {h : Hp} {H : Heap} {locs : List Loc} (hkm : Km h0 h) (hW : Wx X h H) (hZ : va_S (aA (eB X)) s.heap H locs) (ls : Array Slot) (hl : lv_has ls 4 []) (hE : sX11_go_13 F h  = some o) : W p l e (rm 2 42) s m args below meth c H locs 0 0 (MQ below (QI X h0 o.1 o.2) args s 0 0 (aA (eB X))) (F0 m 13 ls []) := by
  refine lv_bipush (v := (-102 : Int32)) C.1 C.2.1 dX11_go_13 (by decide) ?_
  exact x_iret C rfl rfl hW hZ hkm hE dX11_go_15
set_option maxRecDepth 20000 in
theorem ct_X11_go (l : Launch) (X : Ec) (F : Nat) {h : Hp} {x0 : Nat} {x1 : Int32} {x2 : Int32} {o : Int32 × Hp} (k_x0 : hK h x0 = 11) (hE : sX11_go F h x0 x1 x2 = some o) : MetI l yX11_go cX11_go 4 (some .int) 2 42 X [.ref x0, .int x1, .int x2] h o := by
  refine x_met (by decide) (Nat.le_of_ble_eq_true rfl) ?_
  intro p e s m below meth c ls C hl hW hZ
  have hl : lv_has ls 4 [(0, .ref x0), (1, .int x1), (2, .int x2)] := hl
  have hkm : Km h h := Km.rf h
  refine lv_iload_n C.1 C.2.1 dX11_go_0 rfl (lv_at hl 2 rfl) ?_
  refine lv_if_lt (tgt := 13) C.1 C.2.1 dX11_go_1 (by decide) (fun c_1 => ?_) (fun c_1 => ?_)
  · have hE := br_p hE c_1
    exact bX11_go_13 C hkm hW hZ _ (lv_sub hl [] rfl) hE
  · have hE := br_n hE c_1
    refine lv_iload_n C.1 C.2.1 dX11_go_4 rfl (lv_at hl 2 rfl) ?_
    refine lv_aload_n C.1 C.2.1 dX11_go_5 rfl (lv_at hl 0 rfl) ?_
    refine lv_iload_n C.1 C.2.1 dX11_go_6 rfl (lv_at hl 1 rfl) ?_
    obtain ⟨o_2, eo_2, hE⟩ := cl_e hE
    refine x_kI (o := o_2) (z_runV (As := [.int x1]) (rest := [.int x2]) C (ct_X11_listMoves l X k_x0 eo_2) cw_X11_254 hW hZ k_x0 (by decide) rfl rfl rfl hl.1 (Nat.le_of_ble_eq_true rfl) rfl dX11_go_7 ⟨Nat.le_of_ble_eq_true rfl, Nat.le_of_ble_eq_true rfl⟩ ⟨Nat.le_refl _, Nat.le_refl _⟩) hZ (fun _ _ hW km hZ => ?_)
    replace hkm := hkm.tr km
    replace k_x0 := km.at k_x0 (by decide)
    refine lv_icmp_lt (tgt := 16) C.1 C.2.1 dX11_go_10 (by decide) (fun c_3 => ?_) (fun c_3 => ?_)
    · have hE := br_p hE c_3
      refine lv_aload_n C.1 C.2.1 dX11_go_16 rfl (lv_at hl 0 rfl) ?_
      obtain ⟨o_4, eo_4, hE⟩ := cl_e hE
      refine x_kI (o := o_4) (z_runV (As := []) (rest := []) C (ct_X11_freePlace l X F k_x0 eo_4) cw_X11_183 hW hZ k_x0 (by decide) rfl rfl rfl hl.1 (Nat.le_of_ble_eq_true rfl) rfl dX11_go_17 ⟨Nat.le_of_ble_eq_true rfl, Nat.le_of_ble_eq_true rfl⟩ ⟨Nat.le_refl _, Nat.le_refl _⟩) hZ (fun _ _ hW km hZ => ?_)
      replace hkm := hkm.tr km
      replace k_x0 := km.at k_x0 (by decide)
      refine lv_istore_n (lv' := [(3, .int o_4.1), (0, .ref x0), (1, .int x1), (2, .int x2)]) C.1 C.2.1 dX11_go_20 rfl hl (by decide) rfl (fun ls hl => ?_)
      refine lv_iload_n C.1 C.2.1 dX11_go_21 rfl (lv_at hl 0 rfl) ?_
      refine lv_iconst (v := (-1 : Int32)) C.1 C.2.1 dX11_go_22 (by decide) ?_
      refine lv_icmp_ne (tgt := 29) C.1 C.2.1 dX11_go_23 (by decide) (fun c_5 => ?_) (fun c_5 => ?_)
      · have hE := br_n hE c_5
        refine lv_aload_n C.1 C.2.1 dX11_go_29 rfl (lv_at hl 1 rfl) ?_
        refine lv_iload_n C.1 C.2.1 dX11_go_30 rfl (lv_at hl 0 rfl) ?_
        refine lv_aload_n C.1 C.2.1 dX11_go_31 rfl (lv_at hl 1 rfl) ?_
        obtain ⟨r_6, er_6, hE⟩ := cl_e hE
        refine gf_X11_103 C hW k_x0 er_6 dX11_go_32 (fun k_r_6 => ?_)
        refine lv_iload_n C.1 C.2.1 dX11_go_35 rfl (lv_at hl 2 rfl) ?_
        cases hE
      · have hE := br_p hE c_5
        refine lv_bipush (v := (-104 : Int32)) C.1 C.2.1 dX11_go_26 (by decide) ?_
        exact x_iret C rfl rfl hW hZ hkm hE dX11_go_28
    · have hE := br_n hE c_3
      exact bX11_go_13 C hkm hW hZ _ (lv_sub hl [] rfl) hE
theorem dX11_rows_0 : decode cX11_rows 0 = .ok (.iload_n 2, 1) := by decide +kernel
theorem dX11_rows_1 : decode cX11_rows 1 = .ok (.ifCond .lt 9, 3) := by decide +kernel
theorem dX11_rows_4 : decode cX11_rows 4 = .ok (.iload_n 2, 1) := by decide +kernel
theorem dX11_rows_5 : decode cX11_rows 5 = .ok (.bipush 6, 2) := by decide +kernel
theorem dX11_rows_7 : decode cX11_rows 7 = .ok (.if_icmp .le 6, 3) := by decide +kernel
theorem dX11_rows_10 : decode cX11_rows 10 = .ok (.bipush (-101), 2) := by decide +kernel
theorem dX11_rows_12 : decode cX11_rows 12 = .ok (.ireturn, 1) := by decide +kernel
theorem dX11_rows_13 : decode cX11_rows 13 = .ok (.aload_n 0, 1) := by decide +kernel
theorem dX11_rows_14 : decode cX11_rows 14 = .ok (.iload_n 1, 1) := by decide +kernel
theorem dX11_rows_15 : decode cX11_rows 15 = .ok (.invokevirtual 193, 3) := by decide +kernel
theorem dX11_rows_18 : decode cX11_rows 18 = .ok (.ifCond .ne 6, 3) := by decide +kernel
theorem dX11_rows_21 : decode cX11_rows 21 = .ok (.bipush (-102), 2) := by decide +kernel
theorem dX11_rows_23 : decode cX11_rows 23 = .ok (.ireturn, 1) := by decide +kernel
theorem dX11_rows_24 : decode cX11_rows 24 = .ok (.iload_n 2, 1) := by decide +kernel
theorem dX11_rows_25 : decode cX11_rows 25 = .ok (.ifCond .ne 5, 3) := by decide +kernel
theorem dX11_rows_28 : decode cX11_rows 28 = .ok (.iconst 1, 1) := by decide +kernel
theorem dX11_rows_29 : decode cX11_rows 29 = .ok (.ireturn, 1) := by decide +kernel
theorem dX11_rows_30 : decode cX11_rows 30 = .ok (.aload_n 0, 1) := by decide +kernel
theorem dX11_rows_31 : decode cX11_rows 31 = .ok (.getfield 93, 3) := by decide +kernel
theorem dX11_rows_34 : decode cX11_rows 34 = .ok (.aload_n 0, 1) := by decide +kernel
theorem dX11_rows_35 : decode cX11_rows 35 = .ok (.getfield 103, 3) := by decide +kernel
theorem dX11_rows_38 : decode cX11_rows 38 = .ok (.iload_n 1, 1) := by decide +kernel
theorem dX11_rows_39 : decode cX11_rows 39 = .ok (.aaload, 1) := by decide +kernel
set_option maxRecDepth 20000 in
theorem moX11_rows_10 {o : Int32 × Hp} {h : Hp} (hE : sX11_rows_10 h  = some o) : Le h o.2 := by
  exact le_some2 hE
set_option maxRecDepth 20000 in
theorem moX11_rows {o : Int32 × Hp} {h : Hp} {x0 : Nat} {x1 : Int32} {x2 : Int32} (hE : sX11_rows h x0 x1 x2 = some o) : Le h o.2 := by
  rcases br_e hE with ⟨_, hE⟩ | ⟨_, hE⟩
  · exact moX11_rows_10 hE
  · rcases br_e hE with ⟨_, hE⟩ | ⟨_, hE⟩
    · obtain ⟨o_3, eo_3, hE⟩ := cl_e hE
      refine (moX11_isPlace eo_3).tr ?_
      rcases br_e hE with ⟨_, hE⟩ | ⟨_, hE⟩
      · exact le_some2 hE
      · rcases br_e hE with ⟨_, hE⟩ | ⟨_, hE⟩
        · exact le_some2 hE
        · obtain ⟨r_6, er_6, hE⟩ := cl_e hE
          obtain ⟨r_7, er_7, hE⟩ := cl_e hE
          cases hE
    · exact moX11_rows_10 hE
set_option maxRecDepth 20000 in
theorem bX11_rows_10 {p : Program} {l : Launch} {e : Env} {s : State} {m : MethodId} {args : Array Value} {below : List Frame} {meth : Method} {c : Code} {X : Ec} {h0 : Hp} {o : Int32 × Hp} (C : Cx X p s m args meth c RX11 cX11_rows 4 (some .int) "rows") {h : Hp} {H : Heap} {locs : List Loc} (hkm : Km h0 h) (hW : Wx X h H) (hZ : va_S (aA (eB X)) s.heap H locs) (ls : Array Slot) (hl : lv_has ls 4 []) (hE : sX11_rows_10 h  = some o) : W p l e (rm 1 21) s m args below meth c H locs 0 0 (MQ below (QI X h0 o.1 o.2) args s 0 0 (aA (eB X))) (F0 m 10 ls []) := by
  refine lv_bipush (v := (-101 : Int32)) C.1 C.2.1 dX11_rows_10 (by decide) ?_
  exact x_iret C rfl rfl hW hZ hkm hE dX11_rows_12
set_option maxRecDepth 20000 in
theorem ct_X11_rows (l : Launch) (X : Ec) {h : Hp} {x0 : Nat} {x1 : Int32} {x2 : Int32} {o : Int32 × Hp} (k_x0 : hK h x0 = 11) (hE : sX11_rows h x0 x1 x2 = some o) : MetI l yX11_rows cX11_rows 4 (some .int) 1 21 X [.ref x0, .int x1, .int x2] h o := by
  refine x_met (by decide) (Nat.le_of_ble_eq_true rfl) ?_
  intro p e s m below meth c ls C hl hW hZ
  have hl : lv_has ls 4 [(0, .ref x0), (1, .int x1), (2, .int x2)] := hl
  have hkm : Km h h := Km.rf h
  refine lv_iload_n C.1 C.2.1 dX11_rows_0 rfl (lv_at hl 2 rfl) ?_
  refine lv_if_lt (tgt := 10) C.1 C.2.1 dX11_rows_1 (by decide) (fun c_1 => ?_) (fun c_1 => ?_)
  · have hE := br_p hE c_1
    exact bX11_rows_10 C hkm hW hZ _ (lv_sub hl [] rfl) hE
  · have hE := br_n hE c_1
    refine lv_iload_n C.1 C.2.1 dX11_rows_4 rfl (lv_at hl 2 rfl) ?_
    refine lv_bipush (v := (6 : Int32)) C.1 C.2.1 dX11_rows_5 (by decide) ?_
    refine lv_icmp_le (tgt := 13) C.1 C.2.1 dX11_rows_7 (by decide) (fun c_2 => ?_) (fun c_2 => ?_)
    · have hE := br_p hE c_2
      refine lv_aload_n C.1 C.2.1 dX11_rows_13 rfl (lv_at hl 0 rfl) ?_
      refine lv_iload_n C.1 C.2.1 dX11_rows_14 rfl (lv_at hl 1 rfl) ?_
      obtain ⟨o_3, eo_3, hE⟩ := cl_e hE
      refine x_kI (o := o_3) (z_runV (As := [.int x1]) (rest := []) C (ct_X11_isPlace l X k_x0 eo_3) cw_X11_193 hW hZ k_x0 (by decide) rfl rfl rfl hl.1 (Nat.le_of_ble_eq_true rfl) rfl dX11_rows_15 ⟨Nat.le_of_ble_eq_true rfl, Nat.le_of_ble_eq_true rfl⟩ ⟨Nat.le_refl _, Nat.le_refl _⟩) hZ (fun _ _ hW km hZ => ?_)
      replace hkm := hkm.tr km
      replace k_x0 := km.at k_x0 (by decide)
      refine lv_if_ne (tgt := 24) C.1 C.2.1 dX11_rows_18 (by decide) (fun c_4 => ?_) (fun c_4 => ?_)
      · have hE := br_n hE c_4
        refine lv_iload_n C.1 C.2.1 dX11_rows_24 rfl (lv_at hl 2 rfl) ?_
        refine lv_if_ne (tgt := 30) C.1 C.2.1 dX11_rows_25 (by decide) (fun c_5 => ?_) (fun c_5 => ?_)
        · have hE := br_n hE c_5
          refine lv_aload_n C.1 C.2.1 dX11_rows_30 rfl (lv_at hl 0 rfl) ?_
          obtain ⟨r_6, er_6, hE⟩ := cl_e hE
          refine gf_X11_93 C hW k_x0 er_6 dX11_rows_31 (fun k_r_6 => ?_)
          refine lv_aload_n C.1 C.2.1 dX11_rows_34 rfl (lv_at hl 0 rfl) ?_
          obtain ⟨r_7, er_7, hE⟩ := cl_e hE
          refine gf_X11_103 C hW k_x0 er_7 dX11_rows_35 (fun k_r_7 => ?_)
          refine lv_iload_n C.1 C.2.1 dX11_rows_38 rfl (lv_at hl 1 rfl) ?_
          cases hE
        · have hE := br_p hE c_5
          refine lv_iconst (v := (1 : Int32)) C.1 C.2.1 dX11_rows_28 (by decide) ?_
          exact x_iret C rfl rfl hW hZ hkm hE dX11_rows_29
      · have hE := br_p hE c_4
        refine lv_bipush (v := (-102 : Int32)) C.1 C.2.1 dX11_rows_21 (by decide) ?_
        exact x_iret C rfl rfl hW hZ hkm hE dX11_rows_23
    · have hE := br_n hE c_2
      exact bX11_rows_10 C hkm hW hZ _ (lv_sub hl [] rfl) hE
theorem dX11_ended_0 : decode cX11_ended 0 = .ok (.aload_n 0, 1) := by decide +kernel
theorem dX11_ended_1 : decode cX11_ended 1 = .ok (.iload_n 1, 1) := by decide +kernel
theorem dX11_ended_2 : decode cX11_ended 2 = .ok (.invokevirtual 193, 3) := by decide +kernel
theorem dX11_ended_5 : decode cX11_ended 5 = .ok (.ifCond .eq 19, 3) := by decide +kernel
theorem dX11_ended_8 : decode cX11_ended 8 = .ok (.aload_n 0, 1) := by decide +kernel
theorem dX11_ended_9 : decode cX11_ended 9 = .ok (.getfield 50, 3) := by decide +kernel
theorem dX11_ended_12 : decode cX11_ended 12 = .ok (.aload_n 0, 1) := by decide +kernel
theorem dX11_ended_13 : decode cX11_ended 13 = .ok (.getfield 103, 3) := by decide +kernel
theorem dX11_ended_16 : decode cX11_ended 16 = .ok (.iload_n 1, 1) := by decide +kernel
theorem dX11_ended_17 : decode cX11_ended 17 = .ok (.aaload, 1) := by decide +kernel
theorem dX11_ended_24 : decode cX11_ended 24 = .ok (.bipush (-102), 2) := by decide +kernel
theorem dX11_ended_26 : decode cX11_ended 26 = .ok (.ireturn, 1) := by decide +kernel
set_option maxRecDepth 20000 in
theorem moX11_ended_26 {o : Int32 × Hp} {h : Hp} {t0 : Int32} (hE : sX11_ended_26 h  t0 = some o) : Le h o.2 := by
  exact le_some2 hE
set_option maxRecDepth 20000 in
theorem moX11_ended {o : Int32 × Hp} {h : Hp} {x0 : Nat} {x1 : Int32} (hE : sX11_ended h x0 x1 = some o) : Le h o.2 := by
  obtain ⟨o_1, eo_1, hE⟩ := cl_e hE
  refine (moX11_isPlace eo_1).tr ?_
  rcases br_e hE with ⟨_, hE⟩ | ⟨_, hE⟩
  · exact moX11_ended_26 hE
  · obtain ⟨r_3, er_3, hE⟩ := cl_e hE
    obtain ⟨r_4, er_4, hE⟩ := cl_e hE
    cases hE
set_option maxRecDepth 20000 in
theorem bX11_ended_26 {p : Program} {l : Launch} {e : Env} {s : State} {m : MethodId} {args : Array Value} {below : List Frame} {meth : Method} {c : Code} {X : Ec} {h0 : Hp} {o : Int32 × Hp} (C : Cx X p s m args meth c RX11 cX11_ended 2 (some .int) "ended") {h : Hp} {t0 : Int32} {H : Heap} {locs : List Loc} (hkm : Km h0 h) (hW : Wx X h H) (hZ : va_S (aA (eB X)) s.heap H locs) (ls : Array Slot) (hl : lv_has ls 2 []) (hE : sX11_ended_26 h  t0 = some o) : W p l e (rm 1 21) s m args below meth c H locs 0 0 (MQ below (QI X h0 o.1 o.2) args s 0 0 (aA (eB X))) (F0 m 26 ls [.int t0]) := by
  exact x_iret C rfl rfl hW hZ hkm hE dX11_ended_26
set_option maxRecDepth 20000 in
theorem ct_X11_ended (l : Launch) (X : Ec) {h : Hp} {x0 : Nat} {x1 : Int32} {o : Int32 × Hp} (k_x0 : hK h x0 = 11) (hE : sX11_ended h x0 x1 = some o) : MetI l yX11_ended cX11_ended 2 (some .int) 1 21 X [.ref x0, .int x1] h o := by
  refine x_met (by decide) (Nat.le_of_ble_eq_true rfl) ?_
  intro p e s m below meth c ls C hl hW hZ
  have hl : lv_has ls 2 [(0, .ref x0), (1, .int x1)] := hl
  have hkm : Km h h := Km.rf h
  refine lv_aload_n C.1 C.2.1 dX11_ended_0 rfl (lv_at hl 0 rfl) ?_
  refine lv_iload_n C.1 C.2.1 dX11_ended_1 rfl (lv_at hl 1 rfl) ?_
  obtain ⟨o_1, eo_1, hE⟩ := cl_e hE
  refine x_kI (o := o_1) (z_runV (As := [.int x1]) (rest := []) C (ct_X11_isPlace l X k_x0 eo_1) cw_X11_193 hW hZ k_x0 (by decide) rfl rfl rfl hl.1 (Nat.le_of_ble_eq_true rfl) rfl dX11_ended_2 ⟨Nat.le_of_ble_eq_true rfl, Nat.le_of_ble_eq_true rfl⟩ ⟨Nat.le_refl _, Nat.le_refl _⟩) hZ (fun _ _ hW km hZ => ?_)
  replace hkm := hkm.tr km
  replace k_x0 := km.at k_x0 (by decide)
  refine lv_if_eq (tgt := 24) C.1 C.2.1 dX11_ended_5 (by decide) (fun c_2 => ?_) (fun c_2 => ?_)
  · have hE := br_p hE c_2
    refine lv_bipush (v := (-102 : Int32)) C.1 C.2.1 dX11_ended_24 (by decide) ?_
    exact bX11_ended_26 C hkm hW hZ _ (lv_sub hl [] rfl) hE
  · have hE := br_n hE c_2
    refine lv_aload_n C.1 C.2.1 dX11_ended_8 rfl (lv_at hl 0 rfl) ?_
    obtain ⟨r_3, er_3, hE⟩ := cl_e hE
    refine gf_X11_50 C hW k_x0 er_3 dX11_ended_9 (fun k_r_3 => ?_)
    refine lv_aload_n C.1 C.2.1 dX11_ended_12 rfl (lv_at hl 0 rfl) ?_
    obtain ⟨r_4, er_4, hE⟩ := cl_e hE
    refine gf_X11_103 C hW k_x0 er_4 dX11_ended_13 (fun k_r_4 => ?_)
    refine lv_iload_n C.1 C.2.1 dX11_ended_16 rfl (lv_at hl 1 rfl) ?_
    cases hE
theorem dX11_result_0 : decode cX11_result 0 = .ok (.aload_n 0, 1) := by decide +kernel
theorem dX11_result_1 : decode cX11_result 1 = .ok (.iload_n 1, 1) := by decide +kernel
theorem dX11_result_2 : decode cX11_result 2 = .ok (.invokevirtual 193, 3) := by decide +kernel
theorem dX11_result_5 : decode cX11_result 5 = .ok (.ifCond .ne 6, 3) := by decide +kernel
theorem dX11_result_8 : decode cX11_result 8 = .ok (.bipush (-102), 2) := by decide +kernel
theorem dX11_result_10 : decode cX11_result 10 = .ok (.ireturn, 1) := by decide +kernel
theorem dX11_result_11 : decode cX11_result 11 = .ok (.aload_n 0, 1) := by decide +kernel
theorem dX11_result_12 : decode cX11_result 12 = .ok (.getfield 50, 3) := by decide +kernel
theorem dX11_result_15 : decode cX11_result 15 = .ok (.aload_n 0, 1) := by decide +kernel
theorem dX11_result_16 : decode cX11_result 16 = .ok (.getfield 103, 3) := by decide +kernel
theorem dX11_result_19 : decode cX11_result 19 = .ok (.iload_n 1, 1) := by decide +kernel
theorem dX11_result_20 : decode cX11_result 20 = .ok (.aaload, 1) := by decide +kernel
set_option maxRecDepth 20000 in
theorem moX11_result {o : Int32 × Hp} {h : Hp} {x0 : Nat} {x1 : Int32} (hE : sX11_result h x0 x1 = some o) : Le h o.2 := by
  obtain ⟨o_1, eo_1, hE⟩ := cl_e hE
  refine (moX11_isPlace eo_1).tr ?_
  rcases br_e hE with ⟨_, hE⟩ | ⟨_, hE⟩
  · exact le_some2 hE
  · obtain ⟨r_3, er_3, hE⟩ := cl_e hE
    obtain ⟨r_4, er_4, hE⟩ := cl_e hE
    cases hE
set_option maxRecDepth 20000 in
theorem ct_X11_result (l : Launch) (X : Ec) {h : Hp} {x0 : Nat} {x1 : Int32} {o : Int32 × Hp} (k_x0 : hK h x0 = 11) (hE : sX11_result h x0 x1 = some o) : MetI l yX11_result cX11_result 2 (some .int) 1 21 X [.ref x0, .int x1] h o := by
  refine x_met (by decide) (Nat.le_of_ble_eq_true rfl) ?_
  intro p e s m below meth c ls C hl hW hZ
  have hl : lv_has ls 2 [(0, .ref x0), (1, .int x1)] := hl
  have hkm : Km h h := Km.rf h
  refine lv_aload_n C.1 C.2.1 dX11_result_0 rfl (lv_at hl 0 rfl) ?_
  refine lv_iload_n C.1 C.2.1 dX11_result_1 rfl (lv_at hl 1 rfl) ?_
  obtain ⟨o_1, eo_1, hE⟩ := cl_e hE
  refine x_kI (o := o_1) (z_runV (As := [.int x1]) (rest := []) C (ct_X11_isPlace l X k_x0 eo_1) cw_X11_193 hW hZ k_x0 (by decide) rfl rfl rfl hl.1 (Nat.le_of_ble_eq_true rfl) rfl dX11_result_2 ⟨Nat.le_of_ble_eq_true rfl, Nat.le_of_ble_eq_true rfl⟩ ⟨Nat.le_refl _, Nat.le_refl _⟩) hZ (fun _ _ hW km hZ => ?_)
  replace hkm := hkm.tr km
  replace k_x0 := km.at k_x0 (by decide)
  refine lv_if_ne (tgt := 11) C.1 C.2.1 dX11_result_5 (by decide) (fun c_2 => ?_) (fun c_2 => ?_)
  · have hE := br_n hE c_2
    refine lv_aload_n C.1 C.2.1 dX11_result_11 rfl (lv_at hl 0 rfl) ?_
    obtain ⟨r_3, er_3, hE⟩ := cl_e hE
    refine gf_X11_50 C hW k_x0 er_3 dX11_result_12 (fun k_r_3 => ?_)
    refine lv_aload_n C.1 C.2.1 dX11_result_15 rfl (lv_at hl 0 rfl) ?_
    obtain ⟨r_4, er_4, hE⟩ := cl_e hE
    refine gf_X11_103 C hW k_x0 er_4 dX11_result_16 (fun k_r_4 => ?_)
    refine lv_iload_n C.1 C.2.1 dX11_result_19 rfl (lv_at hl 1 rfl) ?_
    cases hE
  · have hE := br_p hE c_2
    refine lv_bipush (v := (-102 : Int32)) C.1 C.2.1 dX11_result_8 (by decide) ?_
    exact x_iret C rfl rfl hW hZ hkm hE dX11_result_10
section
variable {p : Program} {l : Launch} {e : Env} {R : Room} {s : State} {m : MethodId} {args : Array Value} {below : List Frame} {meth : Method} {c : Code} {H : Heap} {locs : List Loc} {cells slots : Nat} {Q : State → Prop}
variable {cc : ByteArray} {pc : Nat} {ls : Array Slot} {rest : List Value} {X : Ec} {h h1 : Hp} {nL : Nat} {rt : Option FieldType} {mn : String}
theorem gf_X11_68 {a r : Nat} (C : Cx X p s m args meth c RX11 cc nL rt mn) (hW : Wx X h H) (ha : hK h a = 11) (hr : hR h a 8 = some r) (hdg : decode cc pc = .ok (.getfield 68, 3)) (kk : hK h r = 8 → W p l e R s m args below meth c H locs cells slots Q (F0 m (pc + 3) ls (.ref r :: rest))) : W p l e R s m args below meth c H locs cells slots Q (F0 m pc ls (.ref a :: rest)) :=
  y_getr C hW ha i_X11 (by decide) rfl (by decide) m_837 rfl rfl hr hdg kk
end
theorem dX11_say_0 : decode cX11_say 0 = .ok (.aload_n 0, 1) := by decide +kernel
theorem dX11_say_1 : decode cX11_say 1 = .ok (.iload_n 1, 1) := by decide +kernel
theorem dX11_say_2 : decode cX11_say 2 = .ok (.invokevirtual 254, 3) := by decide +kernel
theorem dX11_say_5 : decode cX11_say 5 = .ok (.istore_n 3, 1) := by decide +kernel
theorem dX11_say_6 : decode cX11_say 6 = .ok (.iload_n 2, 1) := by decide +kernel
theorem dX11_say_7 : decode cX11_say 7 = .ok (.ifCond .lt 8, 3) := by decide +kernel
theorem dX11_say_10 : decode cX11_say 10 = .ok (.iload_n 2, 1) := by decide +kernel
theorem dX11_say_11 : decode cX11_say 11 = .ok (.iload_n 3, 1) := by decide +kernel
theorem dX11_say_12 : decode cX11_say 12 = .ok (.if_icmp .lt 6, 3) := by decide +kernel
theorem dX11_say_15 : decode cX11_say 15 = .ok (.bipush (-102), 2) := by decide +kernel
theorem dX11_say_17 : decode cX11_say 17 = .ok (.ireturn, 1) := by decide +kernel
theorem dX11_say_18 : decode cX11_say 18 = .ok (.aload_n 0, 1) := by decide +kernel
theorem dX11_say_19 : decode cX11_say 19 = .ok (.getfield 18, 3) := by decide +kernel
theorem dX11_say_22 : decode cX11_say 22 = .ok (.invokevirtual 144, 3) := by decide +kernel
theorem dX11_say_25 : decode cX11_say 25 = .ok (.aload_n 0, 1) := by decide +kernel
theorem dX11_say_26 : decode cX11_say 26 = .ok (.getfield 68, 3) := by decide +kernel
theorem dX11_say_29 : decode cX11_say 29 = .ok (.aload_n 0, 1) := by decide +kernel
theorem dX11_say_30 : decode cX11_say 30 = .ok (.getfield 97, 3) := by decide +kernel
theorem dX11_say_33 : decode cX11_say 33 = .ok (.iload_n 3, 1) := by decide +kernel
theorem dX11_say_34 : decode cX11_say 34 = .ok (.iload_n 2, 1) := by decide +kernel
theorem dX11_say_35 : decode cX11_say 35 = .ok (.aload_n 0, 1) := by decide +kernel
theorem dX11_say_36 : decode cX11_say 36 = .ok (.getfield 18, 3) := by decide +kernel
theorem dX11_say_39 : decode cX11_say 39 = .ok (.invokevirtual 300, 3) := by decide +kernel
set_option maxRecDepth 20000 in
theorem moX11_say_15 {o : Int32 × Hp} {h : Hp} (hE : sX11_say_15 h  = some o) : Le h o.2 := by
  exact le_some2 hE
set_option maxRecDepth 20000 in
theorem moX11_say {o : Int32 × Hp} {h : Hp} {x0 : Nat} {x1 : Int32} {x2 : Int32} (hE : sX11_say h x0 x1 x2 = some o) : Le h o.2 := by
  obtain ⟨o_1, eo_1, hE⟩ := cl_e hE
  refine (moX11_listMoves eo_1).tr ?_
  rcases br_e hE with ⟨_, hE⟩ | ⟨_, hE⟩
  · exact moX11_say_15 hE
  · rcases br_e hE with ⟨_, hE⟩ | ⟨_, hE⟩
    · obtain ⟨r_4, er_4, hE⟩ := cl_e hE
      obtain ⟨o_5, eo_5, hE⟩ := cl_e hE
      refine (moX9_clear eo_5).tr ?_
      obtain ⟨r_6, er_6, hE⟩ := cl_e hE
      obtain ⟨r_7, er_7, hE⟩ := cl_e hE
      obtain ⟨r_8, er_8, hE⟩ := cl_e hE
      cases hE
    · exact moX11_say_15 hE
set_option maxRecDepth 20000 in
theorem bX11_say_15 {p : Program} {l : Launch} {e : Env} {s : State} {m : MethodId} {args : Array Value} {below : List Frame} {meth : Method} {c : Code} {X : Ec} {h0 : Hp} {o : Int32 × Hp} (C : Cx X p s m args meth c RX11 cX11_say 5 (some .int) "say") {h : Hp} {H : Heap} {locs : List Loc} (hkm : Km h0 h) (hW : Wx X h H) (hZ : va_S (aA (eB X)) s.heap H locs) (ls : Array Slot) (hl : lv_has ls 5 []) (hE : sX11_say_15 h  = some o) : W p l e (rm 2 42) s m args below meth c H locs 0 0 (MQ below (QI X h0 o.1 o.2) args s 0 0 (aA (eB X))) (F0 m 15 ls []) := by
  refine lv_bipush (v := (-102 : Int32)) C.1 C.2.1 dX11_say_15 (by decide) ?_
  exact x_iret C rfl rfl hW hZ hkm hE dX11_say_17
set_option maxRecDepth 20000 in
theorem ct_X11_say (l : Launch) (X : Ec) {h : Hp} {x0 : Nat} {x1 : Int32} {x2 : Int32} {o : Int32 × Hp} (k_x0 : hK h x0 = 11) (hE : sX11_say h x0 x1 x2 = some o) : MetI l yX11_say cX11_say 5 (some .int) 2 42 X [.ref x0, .int x1, .int x2] h o := by
  refine x_met (by decide) (Nat.le_of_ble_eq_true rfl) ?_
  intro p e s m below meth c ls C hl hW hZ
  have hl : lv_has ls 5 [(0, .ref x0), (1, .int x1), (2, .int x2)] := hl
  have hkm : Km h h := Km.rf h
  refine lv_aload_n C.1 C.2.1 dX11_say_0 rfl (lv_at hl 0 rfl) ?_
  refine lv_iload_n C.1 C.2.1 dX11_say_1 rfl (lv_at hl 1 rfl) ?_
  obtain ⟨o_1, eo_1, hE⟩ := cl_e hE
  refine x_kI (o := o_1) (z_runV (As := [.int x1]) (rest := []) C (ct_X11_listMoves l X k_x0 eo_1) cw_X11_254 hW hZ k_x0 (by decide) rfl rfl rfl hl.1 (Nat.le_of_ble_eq_true rfl) rfl dX11_say_2 ⟨Nat.le_of_ble_eq_true rfl, Nat.le_of_ble_eq_true rfl⟩ ⟨Nat.le_refl _, Nat.le_refl _⟩) hZ (fun _ _ hW km hZ => ?_)
  replace hkm := hkm.tr km
  replace k_x0 := km.at k_x0 (by decide)
  refine lv_istore_n (lv' := [(3, .int o_1.1), (0, .ref x0), (1, .int x1), (2, .int x2)]) C.1 C.2.1 dX11_say_5 rfl hl (by decide) rfl (fun ls hl => ?_)
  refine lv_iload_n C.1 C.2.1 dX11_say_6 rfl (lv_at hl 3 rfl) ?_
  refine lv_if_lt (tgt := 15) C.1 C.2.1 dX11_say_7 (by decide) (fun c_2 => ?_) (fun c_2 => ?_)
  · have hE := br_p hE c_2
    exact bX11_say_15 C hkm hW hZ _ (lv_sub hl [] rfl) hE
  · have hE := br_n hE c_2
    refine lv_iload_n C.1 C.2.1 dX11_say_10 rfl (lv_at hl 3 rfl) ?_
    refine lv_iload_n C.1 C.2.1 dX11_say_11 rfl (lv_at hl 0 rfl) ?_
    refine lv_icmp_lt (tgt := 18) C.1 C.2.1 dX11_say_12 (by decide) (fun c_3 => ?_) (fun c_3 => ?_)
    · have hE := br_p hE c_3
      refine lv_aload_n C.1 C.2.1 dX11_say_18 rfl (lv_at hl 1 rfl) ?_
      obtain ⟨r_4, er_4, hE⟩ := cl_e hE
      refine gf_X11_18 C hW k_x0 er_4 dX11_say_19 (fun k_r_4 => ?_)
      obtain ⟨o_5, eo_5, hE⟩ := cl_e hE
      refine x_kV (o := o_5) (z_runV (As := []) (rest := []) C (ct_X9_clear l X k_r_4 eo_5) cw_X11_144 hW hZ k_r_4 (by decide) rfl rfl rfl hl.1 (Nat.le_of_ble_eq_true rfl) rfl dX11_say_22 ⟨Nat.le_of_ble_eq_true rfl, Nat.le_of_ble_eq_true rfl⟩ ⟨Nat.le_refl _, Nat.le_refl _⟩) hZ (fun _ _ hW km hZ => ?_)
      replace hkm := hkm.tr km
      replace k_x0 := km.at k_x0 (by decide)
      refine lv_aload_n C.1 C.2.1 dX11_say_25 rfl (lv_at hl 1 rfl) ?_
      obtain ⟨r_6, er_6, hE⟩ := cl_e hE
      refine gf_X11_68 C hW k_x0 er_6 dX11_say_26 (fun k_r_6 => ?_)
      refine lv_aload_n C.1 C.2.1 dX11_say_29 rfl (lv_at hl 1 rfl) ?_
      obtain ⟨r_7, er_7, hE⟩ := cl_e hE
      refine gf_X11_97 C hW k_x0 er_7 dX11_say_30 (fun k_r_7 => ?_)
      refine lv_iload_n C.1 C.2.1 dX11_say_33 rfl (lv_at hl 0 rfl) ?_
      refine lv_iload_n C.1 C.2.1 dX11_say_34 rfl (lv_at hl 3 rfl) ?_
      refine lv_aload_n C.1 C.2.1 dX11_say_35 rfl (lv_at hl 1 rfl) ?_
      obtain ⟨r_8, er_8, hE⟩ := cl_e hE
      refine gf_X11_18 C hW k_x0 er_8 dX11_say_36 (fun k_r_8 => ?_)
      cases hE
    · have hE := br_n hE c_3
      exact bX11_say_15 C hkm hW hZ _ (lv_sub hl [] rfl) hE
theorem dX11_hear_0 : decode cX11_hear 0 = .ok (.bipush (-102), 2) := by decide +kernel
theorem dX11_hear_2 : decode cX11_hear 2 = .ok (.istore_n 2, 1) := by decide +kernel
theorem dX11_hear_3 : decode cX11_hear 3 = .ok (.aload_n 0, 1) := by decide +kernel
theorem dX11_hear_4 : decode cX11_hear 4 = .ok (.iload_n 1, 1) := by decide +kernel
theorem dX11_hear_5 : decode cX11_hear 5 = .ok (.invokevirtual 193, 3) := by decide +kernel
theorem dX11_hear_8 : decode cX11_hear 8 = .ok (.ifCond .eq 97, 3) := by decide +kernel
theorem dX11_hear_11 : decode cX11_hear 11 = .ok (.aload_n 0, 1) := by decide +kernel
theorem dX11_hear_12 : decode cX11_hear 12 = .ok (.getfield 68, 3) := by decide +kernel
theorem dX11_hear_15 : decode cX11_hear 15 = .ok (.aload_n 0, 1) := by decide +kernel
theorem dX11_hear_16 : decode cX11_hear 16 = .ok (.getfield 97, 3) := by decide +kernel
theorem dX11_hear_19 : decode cX11_hear 19 = .ok (.aload_n 0, 1) := by decide +kernel
theorem dX11_hear_20 : decode cX11_hear 20 = .ok (.iload_n 1, 1) := by decide +kernel
theorem dX11_hear_21 : decode cX11_hear 21 = .ok (.invokevirtual 254, 3) := by decide +kernel
theorem dX11_hear_24 : decode cX11_hear 24 = .ok (.aload_n 0, 1) := by decide +kernel
theorem dX11_hear_25 : decode cX11_hear 25 = .ok (.getfield 14, 3) := by decide +kernel
theorem dX11_hear_28 : decode cX11_hear 28 = .ok (.invokevirtual 310, 3) := by decide +kernel
theorem dX11_hear_105 : decode cX11_hear 105 = .ok (.aload_n 0, 1) := by decide +kernel
theorem dX11_hear_106 : decode cX11_hear 106 = .ok (.getfield 14, 3) := by decide +kernel
theorem dX11_hear_109 : decode cX11_hear 109 = .ok (.invokevirtual 144, 3) := by decide +kernel
theorem dX11_hear_112 : decode cX11_hear 112 = .ok (.iload_n 2, 1) := by decide +kernel
theorem dX11_hear_113 : decode cX11_hear 113 = .ok (.ireturn, 1) := by decide +kernel
set_option maxRecDepth 20000 in
theorem moX11_hear_105 {o : Int32 × Hp} {h : Hp} {x0 : Nat} {x2 : Int32} (hE : sX11_hear_105 h x0 x2 = some o) : Le h o.2 := by
  obtain ⟨r_1, er_1, hE⟩ := cl_e hE
  obtain ⟨o_2, eo_2, hE⟩ := cl_e hE
  refine (moX9_clear eo_2).tr ?_
  exact le_some2 hE
set_option maxRecDepth 20000 in
theorem moX11_hear {o : Int32 × Hp} {h : Hp} {x0 : Nat} {x1 : Int32} (hE : sX11_hear h x0 x1 = some o) : Le h o.2 := by
  obtain ⟨o_1, eo_1, hE⟩ := cl_e hE
  refine (moX11_isPlace eo_1).tr ?_
  rcases br_e hE with ⟨_, hE⟩ | ⟨_, hE⟩
  · exact moX11_hear_105 hE
  · obtain ⟨r_3, er_3, hE⟩ := cl_e hE
    obtain ⟨r_4, er_4, hE⟩ := cl_e hE
    obtain ⟨o_5, eo_5, hE⟩ := cl_e hE
    refine (moX11_listMoves eo_5).tr ?_
    obtain ⟨r_6, er_6, hE⟩ := cl_e hE
    cases hE
set_option maxRecDepth 20000 in
theorem bX11_hear_105 {p : Program} {l : Launch} {e : Env} {s : State} {m : MethodId} {args : Array Value} {below : List Frame} {meth : Method} {c : Code} {X : Ec} {h0 : Hp} {o : Int32 × Hp} (C : Cx X p s m args meth c RX11 cX11_hear 4 (some .int) "hear") {h : Hp} {x0 : Nat} {x2 : Int32} {H : Heap} {locs : List Loc} (k_x0 : hK h x0 = 11) (hkm : Km h0 h) (hW : Wx X h H) (hZ : va_S (aA (eB X)) s.heap H locs) (ls : Array Slot) (hl : lv_has ls 4 [(0, .ref x0), (2, .int x2)]) (hE : sX11_hear_105 h x0 x2 = some o) : W p l e (rm 2 42) s m args below meth c H locs 0 0 (MQ below (QI X h0 o.1 o.2) args s 0 0 (aA (eB X))) (F0 m 105 ls []) := by
  refine lv_aload_n C.1 C.2.1 dX11_hear_105 rfl (lv_at hl 0 rfl) ?_
  obtain ⟨r_1, er_1, hE⟩ := cl_e hE
  refine gf_X11_14 C hW k_x0 er_1 dX11_hear_106 (fun k_r_1 => ?_)
  obtain ⟨o_2, eo_2, hE⟩ := cl_e hE
  refine x_kV (o := o_2) (z_runV (As := []) (rest := []) C (ct_X9_clear l X k_r_1 eo_2) cw_X11_144 hW hZ k_r_1 (by decide) rfl rfl rfl hl.1 (Nat.le_of_ble_eq_true rfl) rfl dX11_hear_109 ⟨Nat.le_of_ble_eq_true rfl, Nat.le_of_ble_eq_true rfl⟩ ⟨Nat.le_refl _, Nat.le_refl _⟩) hZ (fun _ _ hW km hZ => ?_)
  replace hkm := hkm.tr km
  replace k_x0 := km.at k_x0 (by decide)
  refine lv_iload_n C.1 C.2.1 dX11_hear_112 rfl (lv_at hl 1 rfl) ?_
  exact x_iret C rfl rfl hW hZ hkm hE dX11_hear_113
set_option maxRecDepth 20000 in
theorem ct_X11_hear (l : Launch) (X : Ec) {h : Hp} {x0 : Nat} {x1 : Int32} {o : Int32 × Hp} (k_x0 : hK h x0 = 11) (hE : sX11_hear h x0 x1 = some o) : MetI l yX11_hear cX11_hear 4 (some .int) 2 42 X [.ref x0, .int x1] h o := by
  refine x_met (by decide) (Nat.le_of_ble_eq_true rfl) ?_
  intro p e s m below meth c ls C hl hW hZ
  have hl : lv_has ls 4 [(0, .ref x0), (1, .int x1)] := hl
  have hkm : Km h h := Km.rf h
  refine lv_bipush (v := (-102 : Int32)) C.1 C.2.1 dX11_hear_0 (by decide) ?_
  refine lv_istore_n (lv' := [(2, .int (-102 : Int32)), (0, .ref x0), (1, .int x1)]) C.1 C.2.1 dX11_hear_2 rfl hl (by decide) rfl (fun ls hl => ?_)
  refine lv_aload_n C.1 C.2.1 dX11_hear_3 rfl (lv_at hl 1 rfl) ?_
  refine lv_iload_n C.1 C.2.1 dX11_hear_4 rfl (lv_at hl 2 rfl) ?_
  obtain ⟨o_1, eo_1, hE⟩ := cl_e hE
  refine x_kI (o := o_1) (z_runV (As := [.int x1]) (rest := []) C (ct_X11_isPlace l X k_x0 eo_1) cw_X11_193 hW hZ k_x0 (by decide) rfl rfl rfl hl.1 (Nat.le_of_ble_eq_true rfl) rfl dX11_hear_5 ⟨Nat.le_of_ble_eq_true rfl, Nat.le_of_ble_eq_true rfl⟩ ⟨Nat.le_refl _, Nat.le_refl _⟩) hZ (fun _ _ hW km hZ => ?_)
  replace hkm := hkm.tr km
  replace k_x0 := km.at k_x0 (by decide)
  refine lv_if_eq (tgt := 105) C.1 C.2.1 dX11_hear_8 (by decide) (fun c_2 => ?_) (fun c_2 => ?_)
  · have hE := br_p hE c_2
    exact bX11_hear_105 C k_x0 hkm hW hZ _ (lv_sub hl [1, 0] rfl) hE
  · have hE := br_n hE c_2
    refine lv_aload_n C.1 C.2.1 dX11_hear_11 rfl (lv_at hl 1 rfl) ?_
    obtain ⟨r_3, er_3, hE⟩ := cl_e hE
    refine gf_X11_68 C hW k_x0 er_3 dX11_hear_12 (fun k_r_3 => ?_)
    refine lv_aload_n C.1 C.2.1 dX11_hear_15 rfl (lv_at hl 1 rfl) ?_
    obtain ⟨r_4, er_4, hE⟩ := cl_e hE
    refine gf_X11_97 C hW k_x0 er_4 dX11_hear_16 (fun k_r_4 => ?_)
    refine lv_aload_n C.1 C.2.1 dX11_hear_19 rfl (lv_at hl 1 rfl) ?_
    refine lv_iload_n C.1 C.2.1 dX11_hear_20 rfl (lv_at hl 2 rfl) ?_
    obtain ⟨o_5, eo_5, hE⟩ := cl_e hE
    refine x_kI (o := o_5) (z_runV (As := [.int x1]) (rest := [.ref r_4, .ref r_3]) C (ct_X11_listMoves l X k_x0 eo_5) cw_X11_254 hW hZ k_x0 (by decide) rfl rfl rfl hl.1 (Nat.le_of_ble_eq_true rfl) rfl dX11_hear_21 ⟨Nat.le_of_ble_eq_true rfl, Nat.le_of_ble_eq_true rfl⟩ ⟨Nat.le_refl _, Nat.le_refl _⟩) hZ (fun _ _ hW km hZ => ?_)
    replace hkm := hkm.tr km
    replace k_x0 := km.at k_x0 (by decide)
    replace k_r_4 := km.at k_r_4 (by decide)
    replace k_r_3 := km.at k_r_3 (by decide)
    refine lv_aload_n C.1 C.2.1 dX11_hear_24 rfl (lv_at hl 1 rfl) ?_
    obtain ⟨r_6, er_6, hE⟩ := cl_e hE
    refine gf_X11_14 C hW k_x0 er_6 dX11_hear_25 (fun k_r_6 => ?_)
    cases hE
theorem dX11_isGame_0 : decode cX11_isGame 0 = .ok (.iload_n 0, 1) := by decide +kernel
theorem dX11_isGame_1 : decode cX11_isGame 1 = .ok (.ifCond .lt 13, 3) := by decide +kernel
theorem dX11_isGame_4 : decode cX11_isGame 4 = .ok (.iload_n 0, 1) := by decide +kernel
theorem dX11_isGame_5 : decode cX11_isGame 5 = .ok (.bipush 8, 2) := by decide +kernel
theorem dX11_isGame_7 : decode cX11_isGame 7 = .ok (.if_icmp .ge 7, 3) := by decide +kernel
theorem dX11_isGame_10 : decode cX11_isGame 10 = .ok (.iconst 1, 1) := by decide +kernel
theorem dX11_isGame_11 : decode cX11_isGame 11 = .ok (.goto 4, 3) := by decide +kernel
theorem dX11_isGame_14 : decode cX11_isGame 14 = .ok (.iconst 0, 1) := by decide +kernel
theorem dX11_isGame_15 : decode cX11_isGame 15 = .ok (.ireturn, 1) := by decide +kernel
set_option maxRecDepth 20000 in
theorem moX11_isGame_15 {o : Int32 × Hp} {h : Hp} {t0 : Int32} (hE : sX11_isGame_15 h  t0 = some o) : Le h o.2 := by
  obtain ⟨g_1, hE⟩ := gd_e hE
  exact le_some2 hE
set_option maxRecDepth 20000 in
theorem moX11_isGame_14 {o : Int32 × Hp} {h : Hp} (hE : sX11_isGame_14 h  = some o) : Le h o.2 := by
  exact moX11_isGame_15 hE
set_option maxRecDepth 20000 in
theorem moX11_isGame {o : Int32 × Hp} {h : Hp} {x0 : Int32} (hE : sX11_isGame h x0 = some o) : Le h o.2 := by
  rcases br_e hE with ⟨_, hE⟩ | ⟨_, hE⟩
  · exact moX11_isGame_14 hE
  · rcases br_e hE with ⟨_, hE⟩ | ⟨_, hE⟩
    · exact moX11_isGame_14 hE
    · exact moX11_isGame_15 hE
set_option maxRecDepth 20000 in
theorem bX11_isGame_15 {p : Program} {l : Launch} {e : Env} {s : State} {m : MethodId} {args : Array Value} {below : List Frame} {meth : Method} {c : Code} {X : Ec} {h0 : Hp} {o : Int32 × Hp} (C : Cx X p s m args meth c RX11 cX11_isGame 1 (some .boolean) "isGame") {h : Hp} {t0 : Int32} {H : Heap} {locs : List Loc} (hkm : Km h0 h) (hW : Wx X h H) (hZ : va_S (aA (eB X)) s.heap H locs) (ls : Array Slot) (hl : lv_has ls 1 []) (hE : sX11_isGame_15 h  t0 = some o) : W p l e (rm 0 0) s m args below meth c H locs 0 0 (MQ below (QI X h0 o.1 o.2) args s 0 0 (aA (eB X))) (F0 m 15 ls [.int t0]) := by
  obtain ⟨g_1, hE⟩ := gd_e hE
  exact x_iret C rfl (narB g_1) hW hZ hkm hE dX11_isGame_15
set_option maxRecDepth 20000 in
theorem bX11_isGame_14 {p : Program} {l : Launch} {e : Env} {s : State} {m : MethodId} {args : Array Value} {below : List Frame} {meth : Method} {c : Code} {X : Ec} {h0 : Hp} {o : Int32 × Hp} (C : Cx X p s m args meth c RX11 cX11_isGame 1 (some .boolean) "isGame") {h : Hp} {H : Heap} {locs : List Loc} (hkm : Km h0 h) (hW : Wx X h H) (hZ : va_S (aA (eB X)) s.heap H locs) (ls : Array Slot) (hl : lv_has ls 1 []) (hE : sX11_isGame_14 h  = some o) : W p l e (rm 0 0) s m args below meth c H locs 0 0 (MQ below (QI X h0 o.1 o.2) args s 0 0 (aA (eB X))) (F0 m 14 ls []) := by
  refine lv_iconst (v := (0 : Int32)) C.1 C.2.1 dX11_isGame_14 (by decide) ?_
  exact bX11_isGame_15 C hkm hW hZ _ (lv_sub hl [] rfl) hE
set_option maxRecDepth 20000 in
theorem ct_X11_isGame (l : Launch) (X : Ec) {h : Hp} {x0 : Int32} {o : Int32 × Hp} (hE : sX11_isGame h x0 = some o) : MetI l yX11_isGame cX11_isGame 1 (some .boolean) 0 0 X [.int x0] h o := by
  refine x_met (by decide) (Nat.le_of_ble_eq_true rfl) ?_
  intro p e s m below meth c ls C hl hW hZ
  have hl : lv_has ls 1 [(0, .int x0)] := hl
  have hkm : Km h h := Km.rf h
  refine lv_iload_n C.1 C.2.1 dX11_isGame_0 rfl (lv_at hl 0 rfl) ?_
  refine lv_if_lt (tgt := 14) C.1 C.2.1 dX11_isGame_1 (by decide) (fun c_1 => ?_) (fun c_1 => ?_)
  · have hE := br_p hE c_1
    exact bX11_isGame_14 C hkm hW hZ _ (lv_sub hl [] rfl) hE
  · have hE := br_n hE c_1
    refine lv_iload_n C.1 C.2.1 dX11_isGame_4 rfl (lv_at hl 0 rfl) ?_
    refine lv_bipush (v := (8 : Int32)) C.1 C.2.1 dX11_isGame_5 (by decide) ?_
    refine lv_icmp_ge (tgt := 14) C.1 C.2.1 dX11_isGame_7 (by decide) (fun c_2 => ?_) (fun c_2 => ?_)
    · have hE := br_p hE c_2
      exact bX11_isGame_14 C hkm hW hZ _ (lv_sub hl [] rfl) hE
    · have hE := br_n hE c_2
      refine lv_iconst (v := (1 : Int32)) C.1 C.2.1 dX11_isGame_10 (by decide) ?_
      refine lv_goto (tgt := 15) C.1 C.2.1 dX11_isGame_11 (by decide) ?_
      exact bX11_isGame_15 C hkm hW hZ _ (lv_sub hl [] rfl) hE
set_option maxRecDepth 100000 in
theorem m_1464 : Cond.methodLink RX11 318 yX11_isGame ∈ W0 := w0_in (List.mem_append_right _ (List.mem_of_getElem? (i := 1464) rfl)) rfl
set_option maxRecDepth 100000 in
theorem m_1465 : Cond.static yX11_isGame ∈ W0 := w0_in (List.mem_append_right _ (List.mem_of_getElem? (i := 1465) rfl)) rfl
set_option maxRecDepth 100000 in
theorem m_1466 : Cond.code yX11_isGame cX11_isGame 1 (some .boolean) ∈ W0 := w0_in (List.mem_append_right _ (List.mem_of_getElem? (i := 1466) rfl)) rfl
theorem cw_X11_318 : cwd RX11 318 yX11_isGame cX11_isGame 1 (some .boolean) true 1 := ⟨m_1466, m_1464, m_1, m_1465, by decide, by decide, by decide +kernel⟩
theorem dX11_start_0 : decode cX11_start 0 = .ok (.iload_n 1, 1) := by decide +kernel
theorem dX11_start_1 : decode cX11_start 1 = .ok (.invokestatic 318, 3) := by decide +kernel
theorem dX11_start_4 : decode cX11_start 4 = .ok (.ifCond .ne 6, 3) := by decide +kernel
theorem dX11_start_7 : decode cX11_start 7 = .ok (.bipush (-101), 2) := by decide +kernel
theorem dX11_start_9 : decode cX11_start 9 = .ok (.ireturn, 1) := by decide +kernel
theorem dX11_start_10 : decode cX11_start 10 = .ok (.aload_n 0, 1) := by decide +kernel
theorem dX11_start_11 : decode cX11_start 11 = .ok (.iload_n 2, 1) := by decide +kernel
theorem dX11_start_12 : decode cX11_start 12 = .ok (.invokevirtual 193, 3) := by decide +kernel
theorem dX11_start_15 : decode cX11_start 15 = .ok (.ifCond .ne 6, 3) := by decide +kernel
theorem dX11_start_18 : decode cX11_start 18 = .ok (.bipush (-102), 2) := by decide +kernel
theorem dX11_start_20 : decode cX11_start 20 = .ok (.ireturn, 1) := by decide +kernel
theorem dX11_start_21 : decode cX11_start 21 = .ok (.aload_n 0, 1) := by decide +kernel
theorem dX11_start_22 : decode cX11_start 22 = .ok (.iload_n 1, 1) := by decide +kernel
theorem dX11_start_23 : decode cX11_start 23 = .ok (.iconst 0, 1) := by decide +kernel
theorem dX11_start_24 : decode cX11_start 24 = .ok (.invokevirtual 321, 3) := by decide +kernel
set_option maxRecDepth 20000 in
theorem moX11_start_15 {o : Int32 × Hp} {h : Hp} {x0 : Nat} {x1 : Int32} {x2 : Int32} {t0 : Int32} (hE : sX11_start_15 h x0 x1 x2 t0 = some o) : Le h o.2 := by
  rcases br_e hE with ⟨_, hE⟩ | ⟨_, hE⟩
  · exact le_some2 hE
  · cases hE
set_option maxRecDepth 20000 in
theorem moX11_start_4 {o : Int32 × Hp} {h : Hp} {x0 : Nat} {x1 : Int32} {x2 : Int32} {t0 : Int32} (hE : sX11_start_4 h x0 x1 x2 t0 = some o) : Le h o.2 := by
  rcases br_e hE with ⟨_, hE⟩ | ⟨_, hE⟩
  · exact le_some2 hE
  · obtain ⟨o_2, eo_2, hE⟩ := cl_e hE
    refine (moX11_isPlace eo_2).tr ?_
    exact moX11_start_15 hE
set_option maxRecDepth 20000 in
theorem moX11_start {o : Int32 × Hp} {h : Hp} {x0 : Nat} {x1 : Int32} {x2 : Int32} (hE : sX11_start h x0 x1 x2 = some o) : Le h o.2 := by
  obtain ⟨o_1, eo_1, hE⟩ := cl_e hE
  refine (moX11_isGame eo_1).tr ?_
  exact moX11_start_4 hE
set_option maxRecDepth 20000 in
theorem bX11_start_15 {p : Program} {l : Launch} {e : Env} {s : State} {m : MethodId} {args : Array Value} {below : List Frame} {meth : Method} {c : Code} {X : Ec} {h0 : Hp} {o : Int32 × Hp} (C : Cx X p s m args meth c RX11 cX11_start 3 (some .int) "start") {h : Hp} {x0 : Nat} {x1 : Int32} {x2 : Int32} {t0 : Int32} {H : Heap} {locs : List Loc} (k_x0 : hK h x0 = 11) (hkl : Kl h0 h) (hW : Wx X h H) (hZ : va_S (aA (eB X)) s.heap H locs) (ls : Array Slot) (hl : lv_has ls 3 [(0, .ref x0), (1, .int x1), (2, .int x2)]) (hE : sX11_start_15 h x0 x1 x2 t0 = some o) : W p l e (rmA 1 21 h0 o.2) s m args below meth c H locs (hS h - hS h0) (hL h - hL h0) (MQ below (QIA X h0 o.1 o.2) args s (hS o.2 - hS h0) (hL o.2 - hL h0) (aA (eB X))) (F0 m 15 ls [.int t0]) := by
  refine lv_if_ne (tgt := 21) C.1 C.2.1 dX11_start_15 (by decide) (fun c_1 => ?_) (fun c_1 => ?_)
  · have hE := br_n hE c_1
    refine lv_aload_n C.1 C.2.1 dX11_start_21 rfl (lv_at hl 0 rfl) ?_
    refine lv_iload_n C.1 C.2.1 dX11_start_22 rfl (lv_at hl 1 rfl) ?_
    refine lv_iconst (v := (0 : Int32)) C.1 C.2.1 dX11_start_23 (by decide) ?_
    cases hE
  · have hE := br_p hE c_1
    refine lv_bipush (v := (-102 : Int32)) C.1 C.2.1 dX11_start_18 (by decide) ?_
    exact x_iretA C rfl rfl hW hZ hkl hE dX11_start_20
set_option maxRecDepth 20000 in
theorem bX11_start_4 {p : Program} {l : Launch} {e : Env} {s : State} {m : MethodId} {args : Array Value} {below : List Frame} {meth : Method} {c : Code} {X : Ec} {h0 : Hp} {o : Int32 × Hp} (C : Cx X p s m args meth c RX11 cX11_start 3 (some .int) "start") {h : Hp} {x0 : Nat} {x1 : Int32} {x2 : Int32} {t0 : Int32} {H : Heap} {locs : List Loc} (k_x0 : hK h x0 = 11) (hkl : Kl h0 h) (hW : Wx X h H) (hZ : va_S (aA (eB X)) s.heap H locs) (ls : Array Slot) (hl : lv_has ls 3 [(0, .ref x0), (1, .int x1), (2, .int x2)]) (hE : sX11_start_4 h x0 x1 x2 t0 = some o) : W p l e (rmA 1 21 h0 o.2) s m args below meth c H locs (hS h - hS h0) (hL h - hL h0) (MQ below (QIA X h0 o.1 o.2) args s (hS o.2 - hS h0) (hL o.2 - hL h0) (aA (eB X))) (F0 m 4 ls [.int t0]) := by
  refine lv_if_ne (tgt := 10) C.1 C.2.1 dX11_start_4 (by decide) (fun c_1 => ?_) (fun c_1 => ?_)
  · have hE := br_n hE c_1
    refine lv_aload_n C.1 C.2.1 dX11_start_10 rfl (lv_at hl 0 rfl) ?_
    refine lv_iload_n C.1 C.2.1 dX11_start_11 rfl (lv_at hl 2 rfl) ?_
    obtain ⟨o_2, eo_2, hE⟩ := cl_e hE
    have m1 := moX11_isPlace eo_2
    have m2 := moX11_start_15 hE
    refine x_kI (o := o_2) (z_runV (As := [.int x2]) (rest := []) C (ct_X11_isPlace l X k_x0 eo_2) cw_X11_193 hW hZ k_x0 (by decide) rfl rfl rfl hl.1 (Nat.le_of_ble_eq_true rfl) rfl dX11_start_12 ⟨Nat.le_of_ble_eq_true rfl, Nat.le_of_ble_eq_true rfl⟩ (rm_ok0 hkl m1 m2)) hZ (fun _ _ hW km hZ => ?_)
    replace hkl := hkl.tr km.l
    refine x_wc km ?_
    replace k_x0 := km.at k_x0 (by decide)
    exact bX11_start_15 C k_x0 hkl hW hZ _ (lv_sub hl [0, 1, 2] rfl) hE
  · have hE := br_p hE c_1
    refine lv_bipush (v := (-101 : Int32)) C.1 C.2.1 dX11_start_7 (by decide) ?_
    exact x_iretA C rfl rfl hW hZ hkl hE dX11_start_9
set_option maxRecDepth 20000 in
theorem ct_X11_start (l : Launch) (X : Ec) {h : Hp} {x0 : Nat} {x1 : Int32} {x2 : Int32} {o : Int32 × Hp} (k_x0 : hK h x0 = 11) (hE : sX11_start h x0 x1 x2 = some o) : MetIA l yX11_start cX11_start 3 (some .int) 1 21 X [.ref x0, .int x1, .int x2] h o := by
  refine x_metA (oh := o.2) (by decide) (Nat.le_of_ble_eq_true rfl) ?_
  intro p e s m below meth c ls C hl hW hZ
  have hl : lv_has ls 3 [(0, .ref x0), (1, .int x1), (2, .int x2)] := hl
  have hkl : Kl h h := Kl.rf h
  refine lv_iload_n C.1 C.2.1 dX11_start_0 rfl (lv_at hl 1 rfl) ?_
  obtain ⟨o_1, eo_1, hE⟩ := cl_e hE
  have m1 := moX11_isGame eo_1
  have m2 := moX11_start_4 hE
  refine x_kI (o := o_1) (z_runS (As := [.int x1]) (rest := []) C (ct_X11_isGame l X eo_1) cw_X11_318 hW hZ rfl hl.1 (Nat.le_of_ble_eq_true rfl) rfl dX11_start_1 ⟨Nat.le_of_ble_eq_true rfl, Nat.le_of_ble_eq_true rfl⟩ (rm_ok0 hkl m1 m2)) hZ (fun _ _ hW km hZ => ?_)
  replace hkl := hkl.tr km.l
  refine x_wc km ?_
  replace k_x0 := km.at k_x0 (by decide)
  exact bX11_start_4 C k_x0 hkl hW hZ _ (lv_sub hl [0, 1, 2] rfl) hE
theorem dX11_add_0 : decode cX11_add 0 = .ok (.iload_n 1, 1) := by decide +kernel
theorem dX11_add_1 : decode cX11_add 1 = .ok (.invokestatic 318, 3) := by decide +kernel
theorem dX11_add_4 : decode cX11_add 4 = .ok (.ifCond .ne 6, 3) := by decide +kernel
theorem dX11_add_7 : decode cX11_add 7 = .ok (.bipush (-101), 2) := by decide +kernel
theorem dX11_add_9 : decode cX11_add 9 = .ok (.ireturn, 1) := by decide +kernel
theorem dX11_add_10 : decode cX11_add 10 = .ok (.aload_n 0, 1) := by decide +kernel
theorem dX11_add_11 : decode cX11_add 11 = .ok (.getfield 117, 3) := by decide +kernel
theorem dX11_add_14 : decode cX11_add 14 = .ok (.iload_n 1, 1) := by decide +kernel
theorem dX11_add_15 : decode cX11_add 15 = .ok (.iaload, 1) := by decide +kernel
theorem dX11_add_16 : decode cX11_add 16 = .ok (.istore_n 3, 1) := by decide +kernel
theorem dX11_add_17 : decode cX11_add 17 = .ok (.iload_n 3, 1) := by decide +kernel
theorem dX11_add_18 : decode cX11_add 18 = .ok (.iconst (-1), 1) := by decide +kernel
theorem dX11_add_19 : decode cX11_add 19 = .ok (.if_icmp .ne 6, 3) := by decide +kernel
theorem dX11_add_22 : decode cX11_add 22 = .ok (.bipush (-102), 2) := by decide +kernel
theorem dX11_add_24 : decode cX11_add 24 = .ok (.ireturn, 1) := by decide +kernel
theorem dX11_add_25 : decode cX11_add 25 = .ok (.aload_n 0, 1) := by decide +kernel
theorem dX11_add_26 : decode cX11_add 26 = .ok (.iload_n 1, 1) := by decide +kernel
theorem dX11_add_27 : decode cX11_add 27 = .ok (.iload_n 3, 1) := by decide +kernel
theorem dX11_add_28 : decode cX11_add 28 = .ok (.invokevirtual 321, 3) := by decide +kernel
set_option maxRecDepth 20000 in
theorem moX11_add_4 {o : Int32 × Hp} {h : Hp} {x0 : Nat} {x1 : Int32} {x2 : Int32} {t0 : Int32} (hE : sX11_add_4 h x0 x1 x2 t0 = some o) : Le h o.2 := by
  rcases br_e hE with ⟨_, hE⟩ | ⟨_, hE⟩
  · exact le_some2 hE
  · obtain ⟨r_2, er_2, hE⟩ := cl_e hE
    obtain ⟨g_3, hE⟩ := gd_e hE
    obtain ⟨v_4, ev_4, hE⟩ := nm_e2 hE
    rcases br_e hE with ⟨_, hE⟩ | ⟨_, hE⟩
    · exact le_some2 hE
    · cases hE
set_option maxRecDepth 20000 in
theorem moX11_add {o : Int32 × Hp} {h : Hp} {x0 : Nat} {x1 : Int32} {x2 : Int32} (hE : sX11_add h x0 x1 x2 = some o) : Le h o.2 := by
  obtain ⟨o_1, eo_1, hE⟩ := cl_e hE
  refine (moX11_isGame eo_1).tr ?_
  exact moX11_add_4 hE
set_option maxRecDepth 20000 in
theorem bX11_add_4 {p : Program} {l : Launch} {e : Env} {s : State} {m : MethodId} {args : Array Value} {below : List Frame} {meth : Method} {c : Code} {X : Ec} {h0 : Hp} {o : Int32 × Hp} (C : Cx X p s m args meth c RX11 cX11_add 7 (some .int) "add") {h : Hp} {x0 : Nat} {x1 : Int32} {x2 : Int32} {t0 : Int32} {H : Heap} {locs : List Loc} (k_x0 : hK h x0 = 11) (hkl : Kl h0 h) (hW : Wx X h H) (hZ : va_S (aA (eB X)) s.heap H locs) (ls : Array Slot) (hl : lv_has ls 7 [(0, .ref x0), (1, .int x1), (2, .int x2)]) (hE : sX11_add_4 h x0 x1 x2 t0 = some o) : W p l e (rmA 1 20 h0 o.2) s m args below meth c H locs (hS h - hS h0) (hL h - hL h0) (MQ below (QIA X h0 o.1 o.2) args s (hS o.2 - hS h0) (hL o.2 - hL h0) (aA (eB X))) (F0 m 4 ls [.int t0]) := by
  refine lv_if_ne (tgt := 10) C.1 C.2.1 dX11_add_4 (by decide) (fun c_1 => ?_) (fun c_1 => ?_)
  · have hE := br_n hE c_1
    refine lv_aload_n C.1 C.2.1 dX11_add_10 rfl (lv_at hl 0 rfl) ?_
    obtain ⟨r_2, er_2, hE⟩ := cl_e hE
    refine gf_X11_117 C hW k_x0 er_2 dX11_add_11 (fun k_r_2 => ?_)
    refine lv_iload_n C.1 C.2.1 dX11_add_14 rfl (lv_at hl 1 rfl) ?_
    obtain ⟨g_3, hE⟩ := gd_e hE
    refine y_iald C hW k_r_2 g_3 dX11_add_15 ?_
    obtain ⟨v_4, ev_4, hE⟩ := nm_e2 hE
    refine x_nmI ev_4 ?_
    refine lv_istore_n (lv' := [(3, .int v_4), (0, .ref x0), (1, .int x1), (2, .int x2)]) C.1 C.2.1 dX11_add_16 rfl hl (by decide) rfl (fun ls hl => ?_)
    refine lv_iload_n C.1 C.2.1 dX11_add_17 rfl (lv_at hl 0 rfl) ?_
    refine lv_iconst (v := (-1 : Int32)) C.1 C.2.1 dX11_add_18 (by decide) ?_
    refine lv_icmp_ne (tgt := 25) C.1 C.2.1 dX11_add_19 (by decide) (fun c_5 => ?_) (fun c_5 => ?_)
    · have hE := br_n hE c_5
      refine lv_aload_n C.1 C.2.1 dX11_add_25 rfl (lv_at hl 1 rfl) ?_
      refine lv_iload_n C.1 C.2.1 dX11_add_26 rfl (lv_at hl 2 rfl) ?_
      refine lv_iload_n C.1 C.2.1 dX11_add_27 rfl (lv_at hl 0 rfl) ?_
      cases hE
    · have hE := br_p hE c_5
      refine lv_bipush (v := (-102 : Int32)) C.1 C.2.1 dX11_add_22 (by decide) ?_
      exact x_iretA C rfl rfl hW hZ hkl hE dX11_add_24
  · have hE := br_p hE c_1
    refine lv_bipush (v := (-101 : Int32)) C.1 C.2.1 dX11_add_7 (by decide) ?_
    exact x_iretA C rfl rfl hW hZ hkl hE dX11_add_9
set_option maxRecDepth 20000 in
theorem ct_X11_add (l : Launch) (X : Ec) {h : Hp} {x0 : Nat} {x1 : Int32} {x2 : Int32} {o : Int32 × Hp} (k_x0 : hK h x0 = 11) (hE : sX11_add h x0 x1 x2 = some o) : MetIA l yX11_add cX11_add 7 (some .int) 1 20 X [.ref x0, .int x1, .int x2] h o := by
  refine x_metA (oh := o.2) (by decide) (Nat.le_of_ble_eq_true rfl) ?_
  intro p e s m below meth c ls C hl hW hZ
  have hl : lv_has ls 7 [(0, .ref x0), (1, .int x1), (2, .int x2)] := hl
  have hkl : Kl h h := Kl.rf h
  refine lv_iload_n C.1 C.2.1 dX11_add_0 rfl (lv_at hl 1 rfl) ?_
  obtain ⟨o_1, eo_1, hE⟩ := cl_e hE
  have m1 := moX11_isGame eo_1
  have m2 := moX11_add_4 hE
  refine x_kI (o := o_1) (z_runS (As := [.int x1]) (rest := []) C (ct_X11_isGame l X eo_1) cw_X11_318 hW hZ rfl hl.1 (Nat.le_of_ble_eq_true rfl) rfl dX11_add_1 ⟨Nat.le_of_ble_eq_true rfl, Nat.le_of_ble_eq_true rfl⟩ (rm_ok0 hkl m1 m2)) hZ (fun _ _ hW km hZ => ?_)
  replace hkl := hkl.tr km.l
  refine x_wc km ?_
  replace k_x0 := km.at k_x0 (by decide)
  exact bX11_add_4 C k_x0 hkl hW hZ _ (lv_sub hl [0, 1, 2] rfl) hE
theorem dX11_back_0 : decode cX11_back 0 = .ok (.iload_n 1, 1) := by decide +kernel
theorem dX11_back_1 : decode cX11_back 1 = .ok (.invokestatic 318, 3) := by decide +kernel
theorem dX11_back_4 : decode cX11_back 4 = .ok (.ifCond .ne 6, 3) := by decide +kernel
theorem dX11_back_7 : decode cX11_back 7 = .ok (.bipush (-101), 2) := by decide +kernel
theorem dX11_back_9 : decode cX11_back 9 = .ok (.ireturn, 1) := by decide +kernel
theorem dX11_back_10 : decode cX11_back 10 = .ok (.aload_n 0, 1) := by decide +kernel
theorem dX11_back_11 : decode cX11_back 11 = .ok (.getfield 117, 3) := by decide +kernel
theorem dX11_back_14 : decode cX11_back 14 = .ok (.iload_n 1, 1) := by decide +kernel
theorem dX11_back_15 : decode cX11_back 15 = .ok (.iaload, 1) := by decide +kernel
theorem dX11_back_16 : decode cX11_back 16 = .ok (.iconst (-1), 1) := by decide +kernel
theorem dX11_back_17 : decode cX11_back 17 = .ok (.if_icmp .ne 6, 3) := by decide +kernel
theorem dX11_back_20 : decode cX11_back 20 = .ok (.bipush (-102), 2) := by decide +kernel
theorem dX11_back_22 : decode cX11_back 22 = .ok (.ireturn, 1) := by decide +kernel
theorem dX11_back_23 : decode cX11_back 23 = .ok (.aload_n 0, 1) := by decide +kernel
theorem dX11_back_24 : decode cX11_back 24 = .ok (.getfield 117, 3) := by decide +kernel
theorem dX11_back_27 : decode cX11_back 27 = .ok (.iload_n 1, 1) := by decide +kernel
theorem dX11_back_28 : decode cX11_back 28 = .ok (.iaload, 1) := by decide +kernel
theorem dX11_back_29 : decode cX11_back 29 = .ok (.ifCond .ne 6, 3) := by decide +kernel
theorem dX11_back_32 : decode cX11_back 32 = .ok (.bipush (-103), 2) := by decide +kernel
theorem dX11_back_34 : decode cX11_back 34 = .ok (.ireturn, 1) := by decide +kernel
theorem dX11_back_35 : decode cX11_back 35 = .ok (.aload_n 0, 1) := by decide +kernel
theorem dX11_back_36 : decode cX11_back 36 = .ok (.getfield 117, 3) := by decide +kernel
theorem dX11_back_39 : decode cX11_back 39 = .ok (.iload_n 1, 1) := by decide +kernel
theorem dX11_back_40 : decode cX11_back 40 = .ok (.dup2, 1) := by decide +kernel
theorem dX11_back_41 : decode cX11_back 41 = .ok (.iaload, 1) := by decide +kernel
theorem dX11_back_42 : decode cX11_back 42 = .ok (.iconst 1, 1) := by decide +kernel
theorem dX11_back_43 : decode cX11_back 43 = .ok (.isub, 1) := by decide +kernel
theorem dX11_back_44 : decode cX11_back 44 = .ok (.iastore, 1) := by decide +kernel
theorem dX11_back_45 : decode cX11_back 45 = .ok (.aload_n 0, 1) := by decide +kernel
theorem dX11_back_46 : decode cX11_back 46 = .ok (.getfield 117, 3) := by decide +kernel
theorem dX11_back_49 : decode cX11_back 49 = .ok (.iload_n 1, 1) := by decide +kernel
theorem dX11_back_50 : decode cX11_back 50 = .ok (.iaload, 1) := by decide +kernel
theorem dX11_back_51 : decode cX11_back 51 = .ok (.ireturn, 1) := by decide +kernel
set_option maxRecDepth 20000 in
theorem moX11_back {o : Int32 × Hp} {h : Hp} {x0 : Nat} {x1 : Int32} (hE : sX11_back h x0 x1 = some o) : Le h o.2 := by
  obtain ⟨o_1, eo_1, hE⟩ := cl_e hE
  refine (moX11_isGame eo_1).tr ?_
  rcases br_e hE with ⟨_, hE⟩ | ⟨_, hE⟩
  · exact le_some2 hE
  · obtain ⟨r_3, er_3, hE⟩ := cl_e hE
    obtain ⟨g_4, hE⟩ := gd_e hE
    rcases br_e hE with ⟨_, hE⟩ | ⟨_, hE⟩
    · exact le_some2 hE
    · obtain ⟨r_6, er_6, hE⟩ := cl_e hE
      obtain ⟨g_7, hE⟩ := gd_e hE
      rcases br_e hE with ⟨_, hE⟩ | ⟨_, hE⟩
      · exact le_some2 hE
      · obtain ⟨r_9, er_9, hE⟩ := cl_e hE
        obtain ⟨g_10, hE⟩ := gd_e hE
        obtain ⟨g_11, hE⟩ := gd_e hE
        obtain ⟨h_12, eh_12, hE⟩ := nm_e2 hE
        refine (le_I eh_12).tr ?_
        obtain ⟨r_13, er_13, hE⟩ := cl_e hE
        obtain ⟨g_14, hE⟩ := gd_e hE
        exact le_some2 hE
set_option maxRecDepth 20000 in
theorem ct_X11_back (l : Launch) (X : Ec) {h : Hp} {x0 : Nat} {x1 : Int32} {o : Int32 × Hp} (k_x0 : hK h x0 = 11) (hE : sX11_back h x0 x1 = some o) : MetI l yX11_back cX11_back 2 (some .int) 1 20 X [.ref x0, .int x1] h o := by
  refine x_met (by decide) (Nat.le_of_ble_eq_true rfl) ?_
  intro p e s m below meth c ls C hl hW hZ
  have hl : lv_has ls 2 [(0, .ref x0), (1, .int x1)] := hl
  have hkm : Km h h := Km.rf h
  refine lv_iload_n C.1 C.2.1 dX11_back_0 rfl (lv_at hl 1 rfl) ?_
  obtain ⟨o_1, eo_1, hE⟩ := cl_e hE
  refine x_kI (o := o_1) (z_runS (As := [.int x1]) (rest := []) C (ct_X11_isGame l X eo_1) cw_X11_318 hW hZ rfl hl.1 (Nat.le_of_ble_eq_true rfl) rfl dX11_back_1 ⟨Nat.le_of_ble_eq_true rfl, Nat.le_of_ble_eq_true rfl⟩ ⟨Nat.le_refl _, Nat.le_refl _⟩) hZ (fun _ _ hW km hZ => ?_)
  replace hkm := hkm.tr km
  replace k_x0 := km.at k_x0 (by decide)
  refine lv_if_ne (tgt := 10) C.1 C.2.1 dX11_back_4 (by decide) (fun c_2 => ?_) (fun c_2 => ?_)
  · have hE := br_n hE c_2
    refine lv_aload_n C.1 C.2.1 dX11_back_10 rfl (lv_at hl 0 rfl) ?_
    obtain ⟨r_3, er_3, hE⟩ := cl_e hE
    refine gf_X11_117 C hW k_x0 er_3 dX11_back_11 (fun k_r_3 => ?_)
    refine lv_iload_n C.1 C.2.1 dX11_back_14 rfl (lv_at hl 1 rfl) ?_
    obtain ⟨g_4, hE⟩ := gd_e hE
    refine y_iald C hW k_r_3 g_4 dX11_back_15 ?_
    refine lv_iconst (v := (-1 : Int32)) C.1 C.2.1 dX11_back_16 (by decide) ?_
    refine lv_icmp_ne (tgt := 23) C.1 C.2.1 dX11_back_17 (by decide) (fun c_5 => ?_) (fun c_5 => ?_)
    · have hE := br_n hE c_5
      refine lv_aload_n C.1 C.2.1 dX11_back_23 rfl (lv_at hl 0 rfl) ?_
      obtain ⟨r_6, er_6, hE⟩ := cl_e hE
      refine gf_X11_117 C hW k_x0 er_6 dX11_back_24 (fun k_r_6 => ?_)
      refine lv_iload_n C.1 C.2.1 dX11_back_27 rfl (lv_at hl 1 rfl) ?_
      obtain ⟨g_7, hE⟩ := gd_e hE
      refine y_iald C hW k_r_6 g_7 dX11_back_28 ?_
      refine lv_if_ne (tgt := 35) C.1 C.2.1 dX11_back_29 (by decide) (fun c_8 => ?_) (fun c_8 => ?_)
      · have hE := br_n hE c_8
        refine lv_aload_n C.1 C.2.1 dX11_back_35 rfl (lv_at hl 0 rfl) ?_
        obtain ⟨r_9, er_9, hE⟩ := cl_e hE
        refine gf_X11_117 C hW k_x0 er_9 dX11_back_36 (fun k_r_9 => ?_)
        refine lv_iload_n C.1 C.2.1 dX11_back_39 rfl (lv_at hl 1 rfl) ?_
        refine lv_dup2_11 C.1 C.2.1 dX11_back_40 rfl rfl ?_
        obtain ⟨g_10, hE⟩ := gd_e hE
        refine y_iald C hW k_r_9 g_10 dX11_back_41 ?_
        refine lv_iconst (v := (1 : Int32)) C.1 C.2.1 dX11_back_42 (by decide) ?_
        refine lv_isub C.1 C.2.1 dX11_back_43 ?_
        obtain ⟨g_11, hE⟩ := gd_e hE
        obtain ⟨h_12, eh_12, hE⟩ := nm_e2 hE
        refine y_iast C hW hZ k_r_9 g_11 eh_12 dX11_back_44 (fun _ _ hW km hZ => ?_)
        replace hkm := hkm.tr km
        replace k_x0 := km.at k_x0 (by decide)
        refine lv_aload_n C.1 C.2.1 dX11_back_45 rfl (lv_at hl 0 rfl) ?_
        obtain ⟨r_13, er_13, hE⟩ := cl_e hE
        refine gf_X11_117 C hW k_x0 er_13 dX11_back_46 (fun k_r_13 => ?_)
        refine lv_iload_n C.1 C.2.1 dX11_back_49 rfl (lv_at hl 1 rfl) ?_
        obtain ⟨g_14, hE⟩ := gd_e hE
        refine y_iald C hW k_r_13 g_14 dX11_back_50 ?_
        exact x_iret C rfl rfl hW hZ hkm hE dX11_back_51
      · have hE := br_p hE c_8
        refine lv_bipush (v := (-103 : Int32)) C.1 C.2.1 dX11_back_32 (by decide) ?_
        exact x_iret C rfl rfl hW hZ hkm hE dX11_back_34
    · have hE := br_p hE c_5
      refine lv_bipush (v := (-102 : Int32)) C.1 C.2.1 dX11_back_20 (by decide) ?_
      exact x_iret C rfl rfl hW hZ hkm hE dX11_back_22
  · have hE := br_p hE c_2
    refine lv_bipush (v := (-101 : Int32)) C.1 C.2.1 dX11_back_7 (by decide) ?_
    exact x_iret C rfl rfl hW hZ hkm hE dX11_back_9
theorem dX11_game_0 : decode cX11_game 0 = .ok (.iload_n 1, 1) := by decide +kernel
theorem dX11_game_1 : decode cX11_game 1 = .ok (.invokestatic 318, 3) := by decide +kernel
theorem dX11_game_4 : decode cX11_game 4 = .ok (.ifCond .eq 12, 3) := by decide +kernel
theorem dX11_game_7 : decode cX11_game 7 = .ok (.iload_n 2, 1) := by decide +kernel
theorem dX11_game_8 : decode cX11_game 8 = .ok (.ifCond .lt 8, 3) := by decide +kernel
theorem dX11_game_11 : decode cX11_game 11 = .ok (.iload_n 2, 1) := by decide +kernel
theorem dX11_game_12 : decode cX11_game 12 = .ok (.iconst 3, 1) := by decide +kernel
theorem dX11_game_13 : decode cX11_game 13 = .ok (.if_icmp .le 6, 3) := by decide +kernel
theorem dX11_game_16 : decode cX11_game 16 = .ok (.bipush (-101), 2) := by decide +kernel
theorem dX11_game_18 : decode cX11_game 18 = .ok (.ireturn, 1) := by decide +kernel
theorem dX11_game_19 : decode cX11_game 19 = .ok (.aload_n 0, 1) := by decide +kernel
theorem dX11_game_20 : decode cX11_game 20 = .ok (.getfield 117, 3) := by decide +kernel
theorem dX11_game_23 : decode cX11_game 23 = .ok (.iload_n 1, 1) := by decide +kernel
theorem dX11_game_24 : decode cX11_game 24 = .ok (.iaload, 1) := by decide +kernel
theorem dX11_game_25 : decode cX11_game 25 = .ok (.istore_n 3, 1) := by decide +kernel
theorem dX11_game_26 : decode cX11_game 26 = .ok (.iload_n 3, 1) := by decide +kernel
theorem dX11_game_27 : decode cX11_game 27 = .ok (.iconst (-1), 1) := by decide +kernel
theorem dX11_game_28 : decode cX11_game 28 = .ok (.if_icmp .ne 6, 3) := by decide +kernel
theorem dX11_game_31 : decode cX11_game 31 = .ok (.bipush (-102), 2) := by decide +kernel
theorem dX11_game_33 : decode cX11_game 33 = .ok (.ireturn, 1) := by decide +kernel
theorem dX11_game_34 : decode cX11_game 34 = .ok (.aload_n 0, 1) := by decide +kernel
theorem dX11_game_35 : decode cX11_game 35 = .ok (.iload_n 1, 1) := by decide +kernel
theorem dX11_game_36 : decode cX11_game 36 = .ok (.iload_n 3, 1) := by decide +kernel
theorem dX11_game_37 : decode cX11_game 37 = .ok (.invokevirtual 321, 3) := by decide +kernel
set_option maxRecDepth 20000 in
theorem moX11_game_16 {o : Int32 × Hp} {h : Hp} (hE : sX11_game_16 h  = some o) : Le h o.2 := by
  exact le_some2 hE
set_option maxRecDepth 20000 in
theorem moX11_game_4 {o : Int32 × Hp} {h : Hp} {x0 : Nat} {x1 : Int32} {x2 : Int32} {t0 : Int32} (hE : sX11_game_4 h x0 x1 x2 t0 = some o) : Le h o.2 := by
  rcases br_e hE with ⟨_, hE⟩ | ⟨_, hE⟩
  · exact moX11_game_16 hE
  · rcases br_e hE with ⟨_, hE⟩ | ⟨_, hE⟩
    · exact moX11_game_16 hE
    · rcases br_e hE with ⟨_, hE⟩ | ⟨_, hE⟩
      · obtain ⟨r_4, er_4, hE⟩ := cl_e hE
        obtain ⟨g_5, hE⟩ := gd_e hE
        obtain ⟨v_6, ev_6, hE⟩ := nm_e2 hE
        rcases br_e hE with ⟨_, hE⟩ | ⟨_, hE⟩
        · exact le_some2 hE
        · cases hE
      · exact moX11_game_16 hE
set_option maxRecDepth 20000 in
theorem moX11_game {o : Int32 × Hp} {h : Hp} {x0 : Nat} {x1 : Int32} {x2 : Int32} (hE : sX11_game h x0 x1 x2 = some o) : Le h o.2 := by
  obtain ⟨o_1, eo_1, hE⟩ := cl_e hE
  refine (moX11_isGame eo_1).tr ?_
  exact moX11_game_4 hE
set_option maxRecDepth 20000 in
theorem bX11_game_16 {p : Program} {l : Launch} {e : Env} {s : State} {m : MethodId} {args : Array Value} {below : List Frame} {meth : Method} {c : Code} {X : Ec} {h0 : Hp} {o : Int32 × Hp} (C : Cx X p s m args meth c RX11 cX11_game 5 (some .int) "game") {h : Hp} {H : Heap} {locs : List Loc} (hkl : Kl h0 h) (hW : Wx X h H) (hZ : va_S (aA (eB X)) s.heap H locs) (ls : Array Slot) (hl : lv_has ls 5 []) (hE : sX11_game_16 h  = some o) : W p l e (rmA 1 20 h0 o.2) s m args below meth c H locs (hS h - hS h0) (hL h - hL h0) (MQ below (QIA X h0 o.1 o.2) args s (hS o.2 - hS h0) (hL o.2 - hL h0) (aA (eB X))) (F0 m 16 ls []) := by
  refine lv_bipush (v := (-101 : Int32)) C.1 C.2.1 dX11_game_16 (by decide) ?_
  exact x_iretA C rfl rfl hW hZ hkl hE dX11_game_18
set_option maxRecDepth 20000 in
theorem bX11_game_4 {p : Program} {l : Launch} {e : Env} {s : State} {m : MethodId} {args : Array Value} {below : List Frame} {meth : Method} {c : Code} {X : Ec} {h0 : Hp} {o : Int32 × Hp} (C : Cx X p s m args meth c RX11 cX11_game 5 (some .int) "game") {h : Hp} {x0 : Nat} {x1 : Int32} {x2 : Int32} {t0 : Int32} {H : Heap} {locs : List Loc} (k_x0 : hK h x0 = 11) (hkl : Kl h0 h) (hW : Wx X h H) (hZ : va_S (aA (eB X)) s.heap H locs) (ls : Array Slot) (hl : lv_has ls 5 [(0, .ref x0), (1, .int x1), (2, .int x2)]) (hE : sX11_game_4 h x0 x1 x2 t0 = some o) : W p l e (rmA 1 20 h0 o.2) s m args below meth c H locs (hS h - hS h0) (hL h - hL h0) (MQ below (QIA X h0 o.1 o.2) args s (hS o.2 - hS h0) (hL o.2 - hL h0) (aA (eB X))) (F0 m 4 ls [.int t0]) := by
  refine lv_if_eq (tgt := 16) C.1 C.2.1 dX11_game_4 (by decide) (fun c_1 => ?_) (fun c_1 => ?_)
  · have hE := br_p hE c_1
    exact bX11_game_16 C hkl hW hZ _ (lv_sub hl [] rfl) hE
  · have hE := br_n hE c_1
    refine lv_iload_n C.1 C.2.1 dX11_game_7 rfl (lv_at hl 2 rfl) ?_
    refine lv_if_lt (tgt := 16) C.1 C.2.1 dX11_game_8 (by decide) (fun c_2 => ?_) (fun c_2 => ?_)
    · have hE := br_p hE c_2
      exact bX11_game_16 C hkl hW hZ _ (lv_sub hl [] rfl) hE
    · have hE := br_n hE c_2
      refine lv_iload_n C.1 C.2.1 dX11_game_11 rfl (lv_at hl 2 rfl) ?_
      refine lv_iconst (v := (3 : Int32)) C.1 C.2.1 dX11_game_12 (by decide) ?_
      refine lv_icmp_le (tgt := 19) C.1 C.2.1 dX11_game_13 (by decide) (fun c_3 => ?_) (fun c_3 => ?_)
      · have hE := br_p hE c_3
        refine lv_aload_n C.1 C.2.1 dX11_game_19 rfl (lv_at hl 0 rfl) ?_
        obtain ⟨r_4, er_4, hE⟩ := cl_e hE
        refine gf_X11_117 C hW k_x0 er_4 dX11_game_20 (fun k_r_4 => ?_)
        refine lv_iload_n C.1 C.2.1 dX11_game_23 rfl (lv_at hl 1 rfl) ?_
        obtain ⟨g_5, hE⟩ := gd_e hE
        refine y_iald C hW k_r_4 g_5 dX11_game_24 ?_
        obtain ⟨v_6, ev_6, hE⟩ := nm_e2 hE
        refine x_nmI ev_6 ?_
        refine lv_istore_n (lv' := [(3, .int v_6), (0, .ref x0), (1, .int x1), (2, .int x2)]) C.1 C.2.1 dX11_game_25 rfl hl (by decide) rfl (fun ls hl => ?_)
        refine lv_iload_n C.1 C.2.1 dX11_game_26 rfl (lv_at hl 0 rfl) ?_
        refine lv_iconst (v := (-1 : Int32)) C.1 C.2.1 dX11_game_27 (by decide) ?_
        refine lv_icmp_ne (tgt := 34) C.1 C.2.1 dX11_game_28 (by decide) (fun c_7 => ?_) (fun c_7 => ?_)
        · have hE := br_n hE c_7
          refine lv_aload_n C.1 C.2.1 dX11_game_34 rfl (lv_at hl 1 rfl) ?_
          refine lv_iload_n C.1 C.2.1 dX11_game_35 rfl (lv_at hl 2 rfl) ?_
          refine lv_iload_n C.1 C.2.1 dX11_game_36 rfl (lv_at hl 0 rfl) ?_
          cases hE
        · have hE := br_p hE c_7
          refine lv_bipush (v := (-102 : Int32)) C.1 C.2.1 dX11_game_31 (by decide) ?_
          exact x_iretA C rfl rfl hW hZ hkl hE dX11_game_33
      · have hE := br_n hE c_3
        exact bX11_game_16 C hkl hW hZ _ (lv_sub hl [] rfl) hE
set_option maxRecDepth 20000 in
theorem ct_X11_game (l : Launch) (X : Ec) {h : Hp} {x0 : Nat} {x1 : Int32} {x2 : Int32} {o : Int32 × Hp} (k_x0 : hK h x0 = 11) (hE : sX11_game h x0 x1 x2 = some o) : MetIA l yX11_game cX11_game 5 (some .int) 1 20 X [.ref x0, .int x1, .int x2] h o := by
  refine x_metA (oh := o.2) (by decide) (Nat.le_of_ble_eq_true rfl) ?_
  intro p e s m below meth c ls C hl hW hZ
  have hl : lv_has ls 5 [(0, .ref x0), (1, .int x1), (2, .int x2)] := hl
  have hkl : Kl h h := Kl.rf h
  refine lv_iload_n C.1 C.2.1 dX11_game_0 rfl (lv_at hl 1 rfl) ?_
  obtain ⟨o_1, eo_1, hE⟩ := cl_e hE
  have m1 := moX11_isGame eo_1
  have m2 := moX11_game_4 hE
  refine x_kI (o := o_1) (z_runS (As := [.int x1]) (rest := []) C (ct_X11_isGame l X eo_1) cw_X11_318 hW hZ rfl hl.1 (Nat.le_of_ble_eq_true rfl) rfl dX11_game_1 ⟨Nat.le_of_ble_eq_true rfl, Nat.le_of_ble_eq_true rfl⟩ (rm_ok0 hkl m1 m2)) hZ (fun _ _ hW km hZ => ?_)
  replace hkl := hkl.tr km.l
  refine x_wc km ?_
  replace k_x0 := km.at k_x0 (by decide)
  exact bX11_game_4 C k_x0 hkl hW hZ _ (lv_sub hl [0, 1, 2] rfl) hE
